/-! ===== the reference: search ===== -/
/-- what a search from a row on leaves as it was -/
def keepS (L : Nat) (σ σ' : Mem) : Prop := Fr [39, 40, 41, 42, 43] σ σ' ∧ (∀ i, i ≤ L → σ' 39 i = σ 39 i) ∧ (∀ i, i < 400 * (L + 1) → σ' 40 i = σ 40 i) ∧ (∀ i, i ≤ L → σ' 41 i = σ 41 i) ∧ (∀ i, i < L → σ' 42 i = σ 42 i)
theorem keepS.rf {L : Nat} {σ : Mem} : keepS L σ σ := ⟨Fr.rf, fun _ _ => rfl, fun _ _ => rfl, fun _ _ => rfl, fun _ _ => rfl⟩
theorem keepS.tr {L : Nat} {σ σ1 σ2 : Mem} (h1 : keepS L σ σ1) (h2 : keepS L σ1 σ2) : keepS L σ σ2 := ⟨h1.1.tr h2.1, fun i hi => (h2.2.1 i hi).trans (h1.2.1 i hi), fun i hi => (h2.2.2.1 i hi).trans (h1.2.2.1 i hi), fun i hi => (h2.2.2.2.1 i hi).trans (h1.2.2.2.1 i hi), fun i hi => (h2.2.2.2.2 i hi).trans (h1.2.2.2.2 i hi)⟩
theorem keepS.row {L : Nat} {σ σ' : Mem} (h : keepS L σ σ') {C : List Nat} (hC : C.length ≤ 400) (hr : rowAt σ L C) : rowAt σ' L C := ⟨by rw [h.2.2.2.1 L (Nat.le_refl L)]; exact hr.1, fun i hi => by rw [h.2.2.1 _ (by omega)]; exact hr.2 i hi⟩
theorem candL_len {kind most : Nat} {r : List Nat} (hm : most < 400) : (candL kind most r).length < 400 := by
  have h1 : (candL kind most r).length ≤ (dl most most).length := List.length_filter_le _ _
  have h2 : (dl most most).length = most := by simp [dl]
  omega
section MD5
variable {d n ca cb tr : Nat} {Q : PQ}
/-- the next candidate is taken -/
theorem srch1 (hn : 54 ≤ n) {kind N most : Nat} (hk : kind ≤ 3) (hN : 1 ≤ N ∧ N < 400) (hm : most < 400) {one : Int32} {left : Nat} {r C : List Nat} {p many v : Nat} {σ : Mem} {x8 x9 : Option Value} (hp : p < C.length) (hC : C.length < 400) (hr : 0 < r.length) (hrl : r.length + left ≤ 42) (hrow : rowAt σ (r.length - 1) C) (hat : σ 42 (r.length - 1) = iZ p) (hv : C.getD p 0 = v)
    (h : V M_X9_search d n n none Q n (rho ca cb tr) (up (up σ 42 (r.length - 1) (iZ (p + 1 : Nat))) 39 r.length (iZ v)) 129 [some (.ref 35), some (.int (iZ (kind))), some (.int (iZ (N))), some (.int (iZ ((r.length + left : Nat)))), some (.int (one)), some (.int (iZ (most))), some (.int (iZ (many))), some (.int (iZ ((r.length - 1 : Nat)))), some (.int (iZ (v))), some (.int (iZ (left)))] []) : V M_X9_search d n n none Q n (rho ca cb tr) σ 50 [some (.ref 35), some (.int (iZ (kind))), some (.int (iZ (N))), some (.int (iZ ((r.length + left : Nat)))), some (.int (one)), some (.int (iZ (most))), some (.int (iZ (many))), some (.int (iZ ((r.length - 1 : Nat)))), x8, x9] [] := by
  refine V.run 0 54 rfl hn trivial ?_
  refine V.brF rfl (fun c => by have := (iZ_lt0 (by omega)).mp c; omega) ?_
  refine V.run 0 54 rfl hn ⟨in_N (n := 44) (by omega) (by decide), in_N (n := 44) (by omega) (by decide), trivial⟩ ?_
  simp only [rf_told, rf_comes, rf_comeMany, rf_comeAt, rf_isSeen, rf_goals, rf_text, rf_taken, rf_roadRow, rf_dueNumber, rf_dueTimes, rf_above, rf_tree, rf_way, rf_signs, rf_spent, rf_read, rf_useMany, rf_lastUse]
  rw [ix_N (by omega), hat, hrow.1]
  refine V.brF rfl (fun c => by have := (iZ_eq (by omega) (by omega)).mp c; omega) ?_
  have e1 : iZ 400 * iZ ((r.length - 1 : Nat) : Int) + iZ (p : Int) = iZ ((400 * (r.length - 1) + p : Nat) : Int) := by
    rw [iZ_mul, iZ_add]
    exact iZ_pat (by omega)
  have e2 : iZ ((r.length - 1 : Nat) : Int) + iZ 1 = iZ (r.length : Int) := by
    rw [iZ_add]
    exact iZ_pat (by omega)
  refine V.run 129 54 rfl hn ⟨in_N (n := 44) (by omega) (by decide), by (simp only [rf_comeAt]; rw [ix_N (by omega), hat, e1]; exact in_N (n := 20000) (by omega) (by decide)), in_N (n := 44) (by omega) (by decide), in_N (n := 44) (by omega) (by decide), by rw [e2]; exact in_N (n := 44) (by omega) (by decide), trivial⟩ ?_
  simp only [rf_told, rf_comes, rf_comeMany, rf_comeAt, rf_isSeen, rf_goals, rf_text, rf_taken, rf_roadRow, rf_dueNumber, rf_dueTimes, rf_above, rf_tree, rf_way, rf_signs, rf_spent, rf_read, rf_useMany, rf_lastUse]
  rw [ix_N (by omega), hat, e1, e2, ix_N (by omega), ix_N (by omega), hrow.2 p hp, hv, iZ_add, iZ_sub, iZ_sub, show ((r.length + left : Nat) : Int) - (r.length - 1 : Nat) - 1 = (left : Int) by omega]
  exact h
/-- from a row on: left steps more, the candidates from p on -/
theorem srch (hn : 54 ≤ n) (hd : 3 ≤ d) {kind N most : Nat} (hk : kind ≤ 3) (hN : 1 ≤ N ∧ N < 400) (hm : most < 400) {one : Bool} : ∀ (left : Nat) (q : Nat) (r : List Nat) (p : Nat) (many : Nat) (σ : Mem) (x8 x9 : Option Value), q + p = (candL kind most r).length → 0 < r.length → r.length + left ≤ 42 → told σ r → (∀ x ∈ r, x < 1000) → rowAt σ (r.length - 1) (candL kind most r) → σ 42 (r.length - 1) = iZ p →
    (∀ (σ' : Mem) (x8 x9 : Option Value), keepS (r.length - 1) σ σ' → (one = true → ((candL kind most r).drop p).findSome? (fun v => fstR kind N most left (r ++ [v])) = none) → V M_X9_search d n n none Q n (rho ca cb tr) σ' 50 [some (.ref 35), some (.int (iZ (kind))), some (.int (iZ (N))), some (.int (iZ ((r.length + left : Nat)))), some (.int ((if one = true then 1 else 0))), some (.int (iZ (most))), some (.int (iZ ((many + (((candL kind most r).drop p).map (fun v => cnt kind N most left (r ++ [v]))).sum : Nat)))), some (.int (iZ ((r.length : Int) - 1 - 1))), x8, x9] []) →
    (one = true → ∀ (σ' : Mem) (row : List Nat), Fr [39, 40, 41, 42, 43] σ σ' → ((candL kind most r).drop p).findSome? (fun v => fstR kind N most left (r ++ [v])) = some row → told σ' row → Q (some (.int (iZ (many + 1)))) (rho ca cb tr) σ') →
    V M_X9_search d n n none Q n (rho ca cb tr) σ 50 [some (.ref 35), some (.int (iZ (kind))), some (.int (iZ (N))), some (.int (iZ ((r.length + left : Nat)))), some (.int ((if one = true then 1 else 0))), some (.int (iZ (most))), some (.int (iZ (many))), some (.int (iZ ((r.length - 1 : Nat)))), x8, x9] [] := by
  -- no candidate is left
  have fin : ∀ (left : Nat) (r : List Nat) (p : Nat) (many : Nat) (σ : Mem) (x8 x9 : Option Value), p = (candL kind most r).length → 0 < r.length → r.length + left ≤ 42 → rowAt σ (r.length - 1) (candL kind most r) → σ 42 (r.length - 1) = iZ p →
    (∀ (σ' : Mem) (x8 x9 : Option Value), keepS (r.length - 1) σ σ' → (one = true → ((candL kind most r).drop p).findSome? (fun v => fstR kind N most left (r ++ [v])) = none) → V M_X9_search d n n none Q n (rho ca cb tr) σ' 50 [some (.ref 35), some (.int (iZ (kind))), some (.int (iZ (N))), some (.int (iZ ((r.length + left : Nat)))), some (.int ((if one = true then 1 else 0))), some (.int (iZ (most))), some (.int (iZ ((many + (((candL kind most r).drop p).map (fun v => cnt kind N most left (r ++ [v]))).sum : Nat)))), some (.int (iZ ((r.length : Int) - 1 - 1))), x8, x9] []) →
    V M_X9_search d n n none Q n (rho ca cb tr) σ 50 [some (.ref 35), some (.int (iZ (kind))), some (.int (iZ (N))), some (.int (iZ ((r.length + left : Nat)))), some (.int ((if one = true then 1 else 0))), some (.int (iZ (most))), some (.int (iZ (many))), some (.int (iZ ((r.length - 1 : Nat)))), x8, x9] [] := by
    intro left r p many σ x8 x9 hp hr hrl hrow hat hK
    have hC := candL_len (kind := kind) (r := r) hm
    have hd0 : (candL kind most r).drop p = [] := by rw [hp]; exact List.drop_length
    rw [hd0] at hK
    have K := hK σ x8 x9 keepS.rf (fun _ => rfl)
    refine V.run 0 54 rfl hn trivial ?_
    refine V.brF rfl (fun c => by have := (iZ_lt0 (by omega)).mp c; omega) ?_
    refine V.run 0 54 rfl hn ⟨in_N (n := 44) (by omega) (by decide), in_N (n := 44) (by omega) (by decide), trivial⟩ ?_
    simp only [rf_told, rf_comes, rf_comeMany, rf_comeAt, rf_isSeen, rf_goals, rf_text, rf_taken, rf_roadRow, rf_dueNumber, rf_dueTimes, rf_above, rf_tree, rf_way, rf_signs, rf_spent, rf_read, rf_useMany, rf_lastUse]
    rw [ix_N (by omega), hat, hrow.1]
    refine V.brT rfl (by rw [hp]) ?_
    refine V.run 0 54 rfl hn trivial ?_
    rw [show (r.length : Int) - 1 - 1 = ((r.length - 1 : Nat) : Int) + (-1) by omega, ← iZ_add] at K
    exact K
  -- a candidate is done with
  have nxt : ∀ (left : Nat) (r : List Nat) (p v : Nat), p < (candL kind most r).length → (candL kind most r).getD p 0 = v → (candL kind most r).drop p = v :: (candL kind most r).drop (p + 1) := by
    intro left r p v hp hv
    rw [List.drop_eq_getElem_cons hp]
    rw [List.getD_eq_getElem?_getD, List.getElem?_eq_getElem hp] at hv
    simp only [Option.getD_some] at hv
    rw [hv]
  intro left
  induction left with
  | zero =>
    intro q
    induction q with
    | zero =>
      intro r p many σ x8 x9 hq hr hrl ht hb hrow hat hK hF
      exact fin 0 r p many σ x8 x9 (by omega) hr hrl hrow hat hK
    | succ q ih =>
      intro r p many σ x8 x9 hq hr hrl ht hb hrow hat hK hF
      have hC := candL_len (kind := kind) (r := r) hm
      obtain ⟨v, hv⟩ : ∃ v, (candL kind most r).getD p 0 = v := ⟨_, rfl⟩
      have hdr := nxt 0 r p v (by omega) hv
      have hvm : v ∈ candL kind most r := by rw [← hv]; exact getD_mem2 (by omega)
      have hvb := (candB_spec (mem_candL.mp hvm)).2.1
      rw [hdr] at hK hF
      refine srch1 hn hk hN hm (by omega) hC hr hrl hrow hat hv ?_
      generalize hσ1 : up (up σ 42 (r.length - 1) (iZ (p + 1 : Nat))) 39 r.length (iZ v) = σ1
      have hf1 : Fr [39, 40, 41, 42, 43] σ σ1 := by rw [← hσ1]; exact Fr.putT (Fr.put (by simp)) (by simp)
      have h39 : ∀ i, i < r.length → σ1 39 i = σ 39 i := fun i hi => by rw [← hσ1, up_nat (by omega), up_ne (by decide)]
      have h40 : σ1 40 = σ 40 := by rw [← hσ1, up_ne (by decide), up_ne (by decide)]
      have h41 : σ1 41 = σ 41 := by rw [← hσ1, up_ne (by decide), up_ne (by decide)]
      have h42 : σ1 42 (r.length - 1) = iZ (p + 1 : Nat) := by rw [← hσ1, up_ne (by decide), up_at]
      have h42b : ∀ i, i < r.length - 1 → σ1 42 i = σ 42 i := fun i hi => by rw [← hσ1, up_ne (by decide), up_nat (by omega)]
      have hk1 : keepS (r.length - 1) σ σ1 := ⟨hf1, fun i hi => h39 i (by omega), fun i _ => by rw [h40], fun i _ => by rw [h41], fun i hi => h42b i hi⟩
      have go : ∀ (m2 : Nat) (x8 x9 : Option Value), m2 = many + cnt kind N most 0 (r ++ [v]) → (one = true → fstR kind N most 0 (r ++ [v]) = none) → V M_X9_search d n n none Q n (rho ca cb tr) σ1 187 [some (.ref 35), some (.int (iZ (kind))), some (.int (iZ (N))), some (.int (iZ ((r.length + 0 : Nat)))), some (.int ((if one = true then 1 else 0))), some (.int (iZ (most))), some (.int (iZ (m2))), some (.int (iZ ((r.length - 1 : Nat)))), x8, x9] [] := by
        intro m2 x8 x9 hm2 ho
        refine V.run 0 54 rfl hn trivial ?_
        refine ih r (p + 1) m2 σ1 x8 x9 (by omega) hr hrl (told_sub ht h39) hb (hk1.row (by omega) hrow) h42 (fun σ' x8 x9 hk2 ho2 => ?_) (fun h1 σ' row hf2 hfs ht2 => ?_)
        · have := hK σ' x8 x9 (hk1.tr hk2) (fun h1 => by rw [List.findSome?_cons, ho h1]; exact ho2 h1)
          rw [List.map_cons, List.sum_cons, ← Nat.add_assoc many, ← hm2] at this
          exact this
        · have h0 : cnt kind N most 0 (r ++ [v]) = 0 := cnt_fst.mpr (ho h1)
          have := hF h1 σ' row (hf1.tr hf2) (by rw [List.findSome?_cons, ho h1]; exact hfs) ht2
          rw [hm2, h0, Nat.add_zero]
          exact this
      refine V.run 0 54 rfl hn trivial ?_
      refine V.brT rfl rfl ?_
      refine V.run 0 54 rfl hn trivial ?_
      refine V.br rfl (fun (c : iZ v = iZ N) => ?_) (fun (c : ¬ (iZ v = iZ N)) => ?_)
      · rw [iZ_eq (by omega) (by omega)] at c
        have c : v = N := by omega
        have h1 : cnt kind N most 0 (r ++ [v]) = 1 := by unfold cnt; rw [lastD_app, if_pos c]
        refine V.run 0 54 rfl hn trivial ?_
        rw [iZ_add]
        cases one with
        | true =>
          refine V.brF rfl (by decide) ?_
          refine V.run 0 54 rfl hn trivial ?_
          refine V.ret (v := some (.int (iZ (many + 1)))) rfl rfl rfl rfl (?_)
          refine hF rfl σ1 (r ++ [v]) hf1 ?_ ?_
          · rw [List.findSome?_cons]
            simp [fstR, lastD_app, c]
          · rw [← hσ1]
            exact told_app (told_sub ht (fun i _ => by rw [up_ne (by decide)]))
        | false =>
          refine V.brT rfl rfl ?_
          have := go (many + 1) (some (.int (iZ v))) (some (.int (iZ ((0 : Nat) : Int)))) (by rw [h1]) (fun h => by cases h)
          exact this
      · rw [iZ_eq (by omega) (by omega)] at c
        have c : ¬ v = N := by omega
        refine go many _ _ ?_ (fun _ => ?_)
        · unfold cnt; rw [lastD_app, if_neg c]; rfl
        · unfold fstR; rw [lastD_app, if_neg c]
  | succ left ihL =>
    intro q
    induction q with
    | zero =>
      intro r p many σ x8 x9 hq hr hrl ht hb hrow hat hK hF
      exact fin (left + 1) r p many σ x8 x9 (by omega) hr hrl hrow hat hK
    | succ q ih =>
      intro r p many σ x8 x9 hq hr hrl ht hb hrow hat hK hF
      have hC := candL_len (kind := kind) (r := r) hm
      obtain ⟨v, hv⟩ : ∃ v, (candL kind most r).getD p 0 = v := ⟨_, rfl⟩
      have hdr := nxt 0 r p v (by omega) hv
      have hvm : v ∈ candL kind most r := by rw [← hv]; exact getD_mem2 (by omega)
      have hvb := (candB_spec (mem_candL.mp hvm)).2.1
      rw [hdr] at hK hF
      refine srch1 hn hk hN hm (by omega) hC hr hrl hrow hat hv ?_
      generalize hσ1 : up (up σ 42 (r.length - 1) (iZ (p + 1 : Nat))) 39 r.length (iZ v) = σ1
      have hf1 : Fr [39, 40, 41, 42, 43] σ σ1 := by rw [← hσ1]; exact Fr.putT (Fr.put (by simp)) (by simp)
      have h39 : ∀ i, i < r.length → σ1 39 i = σ 39 i := fun i hi => by rw [← hσ1, up_nat (by omega), up_ne (by decide)]
      have h40 : σ1 40 = σ 40 := by rw [← hσ1, up_ne (by decide), up_ne (by decide)]
      have h41 : σ1 41 = σ 41 := by rw [← hσ1, up_ne (by decide), up_ne (by decide)]
      have h42 : σ1 42 (r.length - 1) = iZ (p + 1 : Nat) := by rw [← hσ1, up_ne (by decide), up_at]
      have h42b : ∀ i, i < r.length - 1 → σ1 42 i = σ 42 i := fun i hi => by rw [← hσ1, up_ne (by decide), up_nat (by omega)]
      have hk1 : keepS (r.length - 1) σ σ1 := ⟨hf1, fun i hi => h39 i (by omega), fun i _ => by rw [h40], fun i _ => by rw [h41], fun i hi => h42b i hi⟩
      have htv : told σ1 (r ++ [v]) := by
        rw [← hσ1]
        exact told_app (told_sub ht (fun i _ => by rw [up_ne (by decide)]))
      have hbv : ∀ x ∈ r ++ [v], x < 1000 := fun x hx => by
        rcases List.mem_append.mp hx with q | q
        · exact hb x q
        · rw [List.mem_singleton] at q; omega
      -- the rest of the candidates, once this one is done with
      have go : ∀ (m2 : Nat) (σ2 : Mem) (x8 x9 : Option Value), m2 = many + cnt kind N most (left + 1) (r ++ [v]) → (one = true → fstR kind N most (left + 1) (r ++ [v]) = none) → keepS (r.length - 1) σ σ2 → σ2 42 (r.length - 1) = iZ (p + 1 : Nat) → V M_X9_search d n n none Q n (rho ca cb tr) σ2 50 [some (.ref 35), some (.int (iZ (kind))), some (.int (iZ (N))), some (.int (iZ ((r.length + (left + 1) : Nat)))), some (.int ((if one = true then 1 else 0))), some (.int (iZ (most))), some (.int (iZ (m2))), some (.int (iZ ((r.length - 1 : Nat)))), x8, x9] [] := by
        intro m2 σ2 x8 x9 hm2 ho hk2 h422
        refine ih r (p + 1) m2 σ2 x8 x9 (by omega) hr hrl (told_sub ht (fun i hi => hk2.2.1 i (by omega))) hb (hk2.row (by omega) hrow) h422 (fun σ' x8 x9 hk3 ho2 => ?_) (fun h1 σ' row hf2 hfs ht2 => ?_)
        · have := hK σ' x8 x9 (hk2.tr hk3) (fun h1 => by rw [List.findSome?_cons, ho h1]; exact ho2 h1)
          rw [List.map_cons, List.sum_cons, ← Nat.add_assoc many, ← hm2] at this
          exact this
        · have h0 : cnt kind N most (left + 1) (r ++ [v]) = 0 := cnt_fst.mpr (ho h1)
          have := hF h1 σ' row (hk2.1.tr hf2) (by rw [List.findSome?_cons, ho h1]; exact hfs) ht2
          rw [hm2, h0, Nat.add_zero]
          exact this
      have prune : ∀ x8 x9, cnt kind N most (left + 1) (r ++ [v]) = 0 → V M_X9_search d n n none Q n (rho ca cb tr) σ1 187 [some (.ref 35), some (.int (iZ (kind))), some (.int (iZ (N))), some (.int (iZ ((r.length + (left + 1) : Nat)))), some (.int ((if one = true then 1 else 0))), some (.int (iZ (most))), some (.int (iZ (many))), some (.int (iZ ((r.length - 1 : Nat)))), x8, x9] [] := by
        intro x8 x9 h0
        refine V.run 0 54 rfl hn trivial ?_
        exact go many σ1 x8 x9 (by rw [h0]; rfl) (fun _ => cnt_fst.mp h0) hk1 h42
      refine V.run 0 54 rfl hn trivial ?_
      refine V.brF rfl (fun c => by have := (iZ_eq0 (by omega)).mp c; omega) ?_
      refine V.run 0 54 rfl hn trivial ?_
      refine V.br rfl (fun (c : iZ v = iZ N) => ?_) (fun (c : ¬ (iZ v = iZ N)) => ?_)
      · rw [iZ_eq (by omega) (by omega)] at c
        have c : v = N := by omega
        refine prune _ _ (cnt_mem ?_)
        rw [c]; simp
      · refine V.run 0 54 rfl hn trivial ?_
        have e2 : iZ ((r.length - 1 : Nat) : Int) + iZ 1 = iZ (r.length : Int) := by
          rw [iZ_add]
          exact iZ_pat (by omega)
        rw [e2]
        refine V.cv (lo := 54) (d' := d - 1) rfl rfl ok_X9_greatest lk_9_X9_greatest rfl rfl rfl hn (by omega) (Nat.le_refl _) (Nat.le_refl _) ((m_greatest hn (by omega) (t := fun i => (r ++ [v]).getD i 0) (fun i hi => ⟨htv i (by simp; omega), by have := hbv _ (getD_mem2 (r := r ++ [v]) (i := i) (by simp; omega)); omega⟩) (fun g hg1 hg2 hg3 => ?_)))
        have hg4 : ∀ x ∈ r ++ [v], x ≤ g := fun x hx => by
          obtain ⟨i, hi, e⟩ := mem_getD hx
          have := hg2 i (by simp at hi; omega)
          omega
        have hpw : (g : Int) * 2 ^ (left + 1) < 9223372036854775808 := by
          have h1 : (2 : Nat) ^ (left + 1) ≤ 2 ^ 42 := Nat.pow_le_pow_right (by decide) (by omega)
          have h2 : g * 2 ^ (left + 1) ≤ 100000 * 2 ^ 42 := Nat.mul_le_mul (by omega) h1
          have h3 : ((g * 2 ^ (left + 1) : Nat) : Int) = (g : Int) * 2 ^ (left + 1) := by simp
          have h4 : (100000 * 2 ^ 42 : Nat) = 439804651110400000 := by decide
          omega
        have hpw0 : (0 : Int) ≤ (g : Int) * 2 ^ (left + 1) := Int.mul_nonneg (by omega) (Int.le_of_lt (Int.pow_pos (by decide)))
        refine V.run 0 54 rfl hn trivial ?_
        rw [iZ_long (z := (g : Int)) (by omega), iZ_long (z := (N : Int)) (by omega), lZ_shl (k := left + 1) (by omega)]
        refine V.br rfl (fun (c2 : lg_cmp (lZ ((g : Int) * 2 ^ (left + 1))) (lZ N) < 0) => ?_) (fun (c2 : ¬ (lg_cmp (lZ ((g : Int) * 2 ^ (left + 1))) (lZ N) < 0)) => ?_)
        · rw [lcmp_lt, lZ_lt (by omega) (by omega)] at c2
          refine prune _ _ (cnt_small (g := g) (by simp) hg4 ?_)
          have h3 : ((g * 2 ^ (left + 1) : Nat) : Int) = (g : Int) * 2 ^ (left + 1) := by simp
          omega
        · refine V.run 0 54 rfl hn trivial ?_
          rw [e2]
          refine V.cv (lo := 54) (d' := d - 1) rfl rfl ok_X9_layComes lk_9_X9_layComes rfl rfl rfl hn (by omega) (Nat.le_refl _) (Nat.le_refl _) ((m_layComes hn (by omega) (r := r ++ [v]) (by simp) (by omega) htv hbv hm hk (fun σ2 hl2 => ?_)))
          obtain ⟨l1, l2, l3, l4, l5⟩ := hl2
          have el : (r ++ [v]).length - 1 = r.length := by simp
          have el2 : (r ++ [v]).length = r.length + 1 := by simp
          rw [el] at l2 l3 l4 l5
          refine V.run 0 54 rfl hn trivial ?_
          have key := ihL ((candL kind most (r ++ [v])).length) (r ++ [v]) 0 many σ2 (some (.int (iZ v))) (some (.int (iZ ((left + 1 : Nat) : Int)))) (by omega) (by omega) (by omega) (htv.fr l1 (by decide)) hbv (by rw [el]; exact l2) (by rw [el]; exact l3) (fun σ3 x8 x9 hk3 ho3 => ?_) (fun h1 σ3 row hf3 hfs ht3 => ?_)
          · rw [el, el2, show r.length + 1 + left = r.length + (left + 1) by omega] at key
            exact key
          · rw [el] at hk3
            rw [el2, show r.length + 1 + left = r.length + (left + 1) by omega, List.drop_zero, show ((r.length + 1 : Nat) : Int) - 1 - 1 = ((r.length - 1 : Nat) : Int) by omega]
            refine go _ σ3 x8 x9 rfl (fun h1 => ?_) ⟨?_, fun i hi => ?_, fun i hi => ?_, fun i hi => ?_, fun i hi => ?_⟩ ?_
            · have := ho3 h1
              rw [List.drop_zero] at this
              unfold fstR
              exact this
            · exact hf1.tr ((l1.mono (by simp)).tr hk3.1)
            · rw [hk3.2.1 i (by omega), l1 39 (by decide), h39 i (by omega)]
            · rw [hk3.2.2.1 i (by omega), l4 i (by omega), h40]
            · rw [hk3.2.2.2.1 i (by omega), (l5 i (by omega)).1, h41]
            · rw [hk3.2.2.2.2 i (by omega), (l5 i (by omega)).2, h42b i hi]
            · rw [hk3.2.2.2.2 _ (by omega), (l5 _ (by omega)).2, h42]
          · refine hF h1 σ3 row (hf1.tr ((l1.mono (by simp)).tr hf3)) ?_ ht3
            rw [List.findSome?_cons]
            rw [List.drop_zero] at hfs
            have : fstR kind N most (left + 1) (r ++ [v]) = some row := by unfold fstR; exact hfs
            rw [this]
end MD5
def mostOf (kind N : Nat) : Nat := if kind = 2 then 2 * N else N
section MD6
variable {d n ca cb tr : Nat} {Q : PQ}
theorem m_search (hn : 54 ≤ n) (hd : 4 ≤ d) {kind N steps : Nat} (hk : kind ≤ 3) (hN : 1 ≤ N ∧ N < 200) (hs : steps ≤ 41) {one : Bool} {σ : Mem}
    (hall : one = false → ∀ σ', Fr [39, 40, 41, 42, 43] σ σ' → Q (some (.int (iZ (cnt kind N (mostOf kind N) steps [1])))) (rho ca cb tr) σ')
    (hnone : one = true → fstR kind N (mostOf kind N) steps [1] = none → ∀ σ', Fr [39, 40, 41, 42, 43] σ σ' → Q (some (.int (iZ 0))) (rho ca cb tr) σ')
    (hsome : one = true → ∀ row, fstR kind N (mostOf kind N) steps [1] = some row → ∀ σ', Fr [39, 40, 41, 42, 43] σ σ' → told σ' row → Q (some (.int (iZ 1))) (rho ca cb tr) σ') : Mt M_X9_search d n n [.ref 35, .int (iZ kind), .int (iZ N), .int (iZ steps), .int (if one = true then 1 else 0)] (rho ca cb tr) σ Q := by
  refine Mt.of rfl (by decide +kernel) tk_X9_search (Nat.le_of_ble_eq_true rfl) ?_
  refine V.run 0 54 rfl hn ⟨in_N (k := 0) (n := 44) (by omega) (by decide), trivial⟩ ?_
  simp only [rf_told, rf_comes, rf_comeMany, rf_comeAt, rf_isSeen, rf_goals, rf_text, rf_taken, rf_roadRow, rf_dueNumber, rf_dueTimes, rf_above, rf_tree, rf_way, rf_signs, rf_spent, rf_read, rf_useMany, rf_lastUse]
  have e0 : ix (iZ 0) = 0 := by decide
  rw [e0]
  have hf0 : Fr [39, 40, 41, 42, 43] σ (up σ 39 0 (iZ 1)) := Fr.put (by simp)
  have ht0 : told (up σ 39 0 (iZ 1)) [1] := by
    intro i hi
    have : i = 0 := by simp at hi; exact hi
    subst this
    rw [up_at]
    rfl
  generalize up σ 39 0 (iZ 1) = σ0 at hf0 ht0 ⊢
  match steps, hs with
  | 0, hs =>
    refine V.brT rfl rfl ?_
    refine V.run 0 54 rfl hn trivial ?_
    refine V.br rfl (fun (c : iZ N = iZ 1) => ?_) (fun (c : ¬ (iZ N = iZ 1)) => ?_)
    · rw [iZ_eq (by omega) (by omega)] at c
      have c : (1 : Nat) = N := by omega
      refine V.run 0 54 rfl hn trivial ?_
      refine V.run 0 54 rfl hn trivial ?_
      refine V.ret (v := some (.int (iZ 1))) rfl rfl rfl rfl (?_)
      cases one with
      | true => exact hsome rfl [1] (by simp [fstR, lastD, c]) σ0 hf0 ht0
      | false =>
        have := hall rfl σ0 hf0
        have e : cnt kind N (mostOf kind N) 0 [1] = 1 := by unfold cnt; rw [if_pos]; exact c
        rw [e] at this
        exact this
    · rw [iZ_eq (by omega) (by omega)] at c
      have c : ¬ (1 : Nat) = N := by omega
      refine V.run 0 54 rfl hn trivial ?_
      refine V.ret (v := some (.int (iZ 0))) rfl rfl rfl rfl (?_)
      cases one with
      | true => exact hnone rfl (by simp [fstR, lastD, c]) σ0 hf0
      | false =>
        have := hall rfl σ0 hf0
        simp [cnt, lastD, c] at this
        exact this
  | left + 1, hs =>
    refine V.brF rfl (fun c => by have := (iZ_eq0 (by omega)).mp c; omega) ?_
    have go : ∀ most : Nat, most = mostOf kind N → V M_X9_search d n n none Q n (rho ca cb tr) σ0 36 [some (.ref 35), some (.int (iZ (kind))), some (.int (iZ (N))), some (.int (iZ ((left + 1 : Nat)))), some (.int ((if one = true then 1 else 0))), some (.int (iZ (most))), none, none, none, none] [] := by
      intro most hm0
      have hm : most < 400 := by rw [hm0]; unfold mostOf; split <;> omega
      rw [← hm0] at hall hnone hsome
      refine V.run 0 54 rfl hn trivial ?_
      refine V.cv (lo := 54) (d' := d - 1) rfl rfl ok_X9_layComes lk_9_X9_layComes rfl rfl rfl hn (by omega) (Nat.le_refl _) (Nat.le_refl _) ((m_layComes hn (by omega) (last := 0) (r := [1]) (by simp) (by omega) ht0 (by simp) hm hk (fun σ2 hl2 => ?_)))
      obtain ⟨l1, l2, l3, l4, l5⟩ := hl2
      have key := srch (Q := Q) (d := d) (ca := ca) (cb := cb) (tr := tr) hn (by omega) hk (N := N) (by omega) hm (one := one) left ((candL kind most [1]).length) [1] 0 0 σ2 none none (by omega) (by simp) (by simp; omega) (ht0.fr l1 (by decide)) (by simp) l2 (by rw [l3]; rfl) (fun σ3 x8 x9 hk3 ho3 => ?_) (fun h1 σ3 row hf3 hfs ht3 => ?_)
      · rw [show ([1] : List Nat).length + left = left + 1 by simp; omega] at key
        exact key
      · have hf3 : Fr [39, 40, 41, 42, 43] σ σ3 := hf0.tr ((l1.mono (by simp)).tr hk3.1)
        refine V.run 0 54 rfl hn trivial ?_
        refine V.brT rfl (by decide) ?_
        refine V.run 0 54 rfl hn trivial ?_
        rw [List.drop_zero] at ho3 ⊢
        refine V.ret (v := some (.int (iZ ((0 + ((candL kind most [1]).map (fun v => cnt kind N most left ([1] ++ [v]))).sum : Nat) : Int)))) rfl rfl rfl rfl (?_)
        have e1 : 0 + ((candL kind most [1]).map (fun v => cnt kind N most left ([1] ++ [v]))).sum = cnt kind N most (left + 1) [1] := by
          conv => rhs; unfold cnt
          rw [Nat.zero_add]
        rw [e1]
        cases one with
        | true =>
          have e2 : fstR kind N most (left + 1) [1] = none := by unfold fstR; exact ho3 rfl
          have := hnone rfl e2 σ3 hf3
          rw [cnt_fst.mpr e2]
          exact this
        | false => exact hall rfl σ3 hf3
      · have e2 : fstR kind N most (left + 1) [1] = some row := by
          rw [List.drop_zero] at hfs
          unfold fstR
          exact hfs
        exact hsome h1 row e2 σ3 (hf0.tr ((l1.mono (by simp)).tr hf3)) ht3
    refine V.run 0 54 rfl hn trivial ?_
    refine V.br rfl (fun (c : iZ kind = iZ 2) => ?_) (fun (c : ¬ (iZ kind = iZ 2)) => ?_)
    · rw [iZ_eq (by omega) (by omega)] at c
      refine V.run 0 54 rfl hn trivial ?_
      refine V.run 36 54 rfl hn trivial ?_
      rw [iZ_mul]
      have := go (2 * N) (by unfold mostOf; rw [if_pos (by omega)])
      rw [show ((2 * N : Nat) : Int) = 2 * (N : Int) by omega] at this
      exact this
    · rw [iZ_eq (by omega) (by omega)] at c
      refine V.run 36 54 rfl hn trivial ?_
      exact go N (by unfold mostOf; rw [if_neg (by omega)])
/-- F is the fewest steps -/
def isF (kind N F : Nat) : Prop := fstR kind N (mostOf kind N) F [1] ≠ none ∧ ∀ k, k < F → fstR kind N (mostOf kind N) k [1] = none
theorem m_fewestOf (hn : 54 ≤ n) (hd : 5 ≤ d) {kind N F : Nat} (hk : kind ≤ 3) (hN : 1 ≤ N ∧ N < 200) (hF : isF kind N F) (hF2 : F ≤ 41) {σ : Mem} (hQ : ∀ σ', Fr [39, 40, 41, 42, 43] σ σ' → Q (some (.int (iZ F))) (rho ca cb tr) σ') : Mt M_X9_fewestOf d n n [.ref 35, .int (iZ kind), .int (iZ N)] (rho ca cb tr) σ Q := by
  refine Mt.of rfl (by decide +kernel) tk_X9_fewestOf (Nat.le_of_ble_eq_true rfl) ?_
  refine V.run 2 54 rfl hn trivial ?_
  have key : ∀ (j k : Nat) (σ1 : Mem), k + j = F → Fr [39, 40, 41, 42, 43] σ σ1 → V M_X9_fewestOf d n n none Q n (rho ca cb tr) σ1 2 [some (.ref 35), some (.int (iZ (kind))), some (.int (iZ (N))), some (.int (iZ (k)))] [] := by
    intro j
    induction j with
    | zero =>
      intro k σ1 hk1 hf
      have e : k = F := by omega
      subst e
      refine V.run 0 54 rfl hn trivial ?_
      refine V.cv (lo := 54) (d' := d - 1) rfl rfl ok_X9_search lk_9_X9_search rfl rfl rfl hn (by omega) (Nat.le_refl _) (Nat.le_refl _) ((m_search (one := true) hn (by omega) hk hN (by omega) (fun h => by cases h) (fun _ h => absurd h hF.1) (fun _ row hrow σ2 hf2 _ => ?_)))
      refine V.brF rfl (by decide) ?_
      refine V.run 0 54 rfl hn trivial ?_
      refine V.ret (v := some (.int (iZ k))) rfl rfl rfl rfl (hQ σ2 (hf.tr hf2))
    | succ j ih =>
      intro k σ1 hk1 hf
      refine V.run 0 54 rfl hn trivial ?_
      refine V.cv (lo := 54) (d' := d - 1) rfl rfl ok_X9_search lk_9_X9_search rfl rfl rfl hn (by omega) (Nat.le_refl _) (Nat.le_refl _) ((m_search (one := true) hn (by omega) hk hN (by omega) (fun h => by cases h) (fun _ h σ2 hf2 => ?_) (fun _ row hrow σ2 hf2 _ => ?_)))
      · refine V.brT rfl rfl ?_
        refine V.run 0 54 rfl hn trivial ?_
        have := ih (k + 1) σ2 (by omega) (hf.tr hf2)
        rw [show ((k + 1 : Nat) : Int) = (k : Int) + 1 by omega, ← iZ_add] at this
        exact this
      · rw [hF.2 k (by omega)] at hrow
        cases hrow
  exact key F 0 σ (by omega) Fr.rf
end MD6
