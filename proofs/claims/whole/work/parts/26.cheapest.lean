/-! ===== the reference: costs, cheapest ===== -/
def keepC (L : Nat) (σ σ' : Mem) : Prop := Fr [39, 40, 41, 42, 43, 51] σ σ' ∧ (∀ i, i ≤ L → σ' 39 i = σ 39 i) ∧ (∀ i, i < 400 * (L + 1) → σ' 40 i = σ 40 i) ∧ (∀ i, i ≤ L → σ' 41 i = σ 41 i) ∧ (∀ i, i < L → σ' 42 i = σ 42 i) ∧ (∀ i, i ≤ L → σ' 51 i = σ 51 i)
theorem keepC.rf {L : Nat} {σ : Mem} : keepC L σ σ := ⟨Fr.rf, fun _ _ => rfl, fun _ _ => rfl, fun _ _ => rfl, fun _ _ => rfl, fun _ _ => rfl⟩
theorem keepC.tr {L : Nat} {σ σ1 σ2 : Mem} (h1 : keepC L σ σ1) (h2 : keepC L σ1 σ2) : keepC L σ σ2 := ⟨h1.1.tr h2.1, fun i hi => (h2.2.1 i hi).trans (h1.2.1 i hi), fun i hi => (h2.2.2.1 i hi).trans (h1.2.2.1 i hi), fun i hi => (h2.2.2.2.1 i hi).trans (h1.2.2.2.1 i hi), fun i hi => (h2.2.2.2.2.1 i hi).trans (h1.2.2.2.2.1 i hi), fun i hi => (h2.2.2.2.2.2 i hi).trans (h1.2.2.2.2.2 i hi)⟩
theorem keepC.row {L : Nat} {σ σ' : Mem} (h : keepC L σ σ') {C : List Nat} (hC : C.length ≤ 400) (hr : rowAt σ L C) : rowAt σ' L C := ⟨by rw [h.2.2.2.1 L (Nat.le_refl L)]; exact hr.1, fun i hi => by rw [h.2.2.1 _ (by omega)]; exact hr.2 i hi⟩
section MDB
variable {d n ca cb tr : Nat} {Q : PQ}
theorem cstV (hn : 54 ≤ n) (hd : 3 ≤ d) {P R N price : Nat} (hP : 1 ≤ P ∧ P ≤ 4) (hR : 1 ≤ R ∧ R ≤ 4) (hN : N ≤ 40) (hpr : price ≤ 1000) : ∀ (k : Nat) (q : Nat) (r : List Nat) (p sp : Nat) (σ : Mem) (x5 x6 x7 : Option Value), pricesM σ P R → q + p = (candL 0 N r).length → 0 < r.length → r.length ≤ lastD r → lastD r < N → N ≤ lastD r + (k + 1) → told σ r → (∀ x ∈ r, 1 ≤ x ∧ x ≤ lastD r) → rowAt σ (r.length - 1) (candL 0 N r) → σ 42 (r.length - 1) = iZ p → σ 51 (r.length - 1) = iZ sp → sp ≤ price →
    (∀ (σ' : Mem) (x5 x6 x7 : Option Value), keepC (r.length - 1) σ σ' → ((candL 0 N r).drop p).any (fun v => decide (costV P R r v ≤ price - sp) && (v == N || chs P R N k (r ++ [v]) (price - sp - costV P R r v))) = false → V M_X9_costs d n n none Q n (rho ca cb tr) σ' 47 [some (.ref 35), some (.int (iZ (N))), some (.int (iZ (price))), some (.int (iZ ((if P < R then P else R : Nat)))), some (.int (iZ ((r.length : Int) - 1 - 1))), x5, x6, x7] []) →
    (∀ (σ' : Mem), Fr [39, 40, 41, 42, 43, 51] σ σ' → ((candL 0 N r).drop p).any (fun v => decide (costV P R r v ≤ price - sp) && (v == N || chs P R N k (r ++ [v]) (price - sp - costV P R r v))) = true → Q (some (.int 1)) (rho ca cb tr) σ') →
    V M_X9_costs d n n none Q n (rho ca cb tr) σ 47 [some (.ref 35), some (.int (iZ (N))), some (.int (iZ (price))), some (.int (iZ ((if P < R then P else R : Nat)))), some (.int (iZ ((r.length - 1 : Nat)))), x5, x6, x7] [] := by
  obtain ⟨ch, hch⟩ : ∃ ch, ch = (if P < R then P else R) := ⟨_, rfl⟩
  have hch1 : 1 ≤ ch ∧ ch ≤ 4 := by rw [hch]; split <;> omega
  have hcc : ∀ r v, ch ≤ costV P R r v := fun r v => by rw [hch]; exact (costV_b hP hR).1
  rw [← hch]
  intro k
  induction k using Nat.strongRecOn with
  | ind k ihL =>
    intro q
    induction q with
    | zero =>
      intro r p sp σ x5 x6 x7 hM hq hr hrl hlN hk ht hb hrow hat hsp hsb hK hF
      have hC := candL_len (kind := 0) (r := r) (show N < 400 by omega)
      have hd0 : (candL 0 N r).drop p = [] := by rw [show p = (candL 0 N r).length by omega]; exact List.drop_length
      rw [hd0] at hK
      have K := hK σ x5 x6 x7 keepC.rf rfl
      refine V.run 0 54 rfl hn trivial ?_
      refine V.brF rfl (fun c => by have := (iZ_lt0 (by omega)).mp c; omega) ?_
      refine V.run 0 54 rfl hn ⟨in_N (n := 44) (by omega) (by decide), in_N (n := 44) (by omega) (by decide), trivial⟩ ?_
      try simp only [rf_told, rf_comes, rf_comeMany, rf_comeAt, rf_isSeen, rf_goals, rf_text, rf_taken, rf_roadRow, rf_dueNumber, rf_dueTimes, rf_above, rf_tree, rf_way, rf_signs, rf_spent, rf_read, rf_useMany, rf_lastUse, fi_9_0, fi_9_2, fi_9_3, fi_9_4, fi_9_6, fi_9_7, fi_9_14, fi_9_19, fi_9_24, fi_9_26, fi_9_27, fi_9_30]
      rw [ix_N (by omega), hat, hrow.1]
      refine V.brT rfl (by rw [show p = (candL 0 N r).length by omega]) ?_
      refine V.run 0 54 rfl hn trivial ?_
      rw [show (r.length : Int) - 1 - 1 = ((r.length - 1 : Nat) : Int) + (-1) by omega, ← iZ_add] at K
      exact K
    | succ q ih =>
      intro r p sp σ x5 x6 x7 hM hq hr hrl hlN hk ht hb hrow hat hsp hsb hK hF
      have hC := candL_len (kind := 0) (r := r) (show N < 400 by omega)
      obtain ⟨v, hv⟩ : ∃ v, (candL 0 N r).getD p 0 = v := ⟨_, rfl⟩
      have hdr : (candL 0 N r).drop p = v :: (candL 0 N r).drop (p + 1) := by
        rw [List.drop_eq_getElem_cons (by omega)]
        rw [List.getD_eq_getElem?_getD, List.getElem?_eq_getElem (by omega)] at hv
        simp only [Option.getD_some] at hv
        rw [hv]
      have hvm : v ∈ candL 0 N r := by rw [← hv]; exact getD_mem2 (by omega)
      have hvc := candB_spec (mem_candL.mp hvm)
      have hvb := hvc.2.1
      have hvl : lastD r < v := by have := hvc.1; unfold lowB at this; rw [if_neg (by decide)] at this; omega
      rw [hdr] at hK hF
      have hcv := costV_b (r := r) (v := v) hP hR
      have hcc1 := hcc r v
      -- taking v
      refine V.run 0 54 rfl hn trivial ?_
      refine V.brF rfl (fun c => by have := (iZ_lt0 (by omega)).mp c; omega) ?_
      refine V.run 0 54 rfl hn ⟨in_N (n := 44) (by omega) (by decide), in_N (n := 44) (by omega) (by decide), trivial⟩ ?_
      try simp only [rf_told, rf_comes, rf_comeMany, rf_comeAt, rf_isSeen, rf_goals, rf_text, rf_taken, rf_roadRow, rf_dueNumber, rf_dueTimes, rf_above, rf_tree, rf_way, rf_signs, rf_spent, rf_read, rf_useMany, rf_lastUse, fi_9_0, fi_9_2, fi_9_3, fi_9_4, fi_9_6, fi_9_7, fi_9_14, fi_9_19, fi_9_24, fi_9_26, fi_9_27, fi_9_30]
      rw [ix_N (by omega), hat, hrow.1]
      refine V.brF rfl (fun c => by have := (iZ_eq (by omega) (by omega)).mp c; omega) ?_
      have e1 : iZ 400 * iZ ((r.length - 1 : Nat) : Int) + iZ (p : Int) = iZ ((400 * (r.length - 1) + p : Nat) : Int) := by
        rw [iZ_mul, iZ_add]
        exact iZ_pat (by omega)
      have e2 : iZ ((r.length - 1 : Nat) : Int) + iZ 1 = iZ (r.length : Int) := by
        rw [iZ_add]
        exact iZ_pat (by omega)
      have e51 : ∀ (i : Nat) (x : Int32), up σ 42 i x 51 = σ 51 := fun i x => up_ne (by decide)
      refine V.run 0 54 rfl hn ⟨in_N (n := 44) (by omega) (by decide), by (simp only [rf_comeAt]; rw [ix_N (by omega), hat, e1]; exact in_N (n := 20000) (by omega) (by decide)), in_N (n := 44) (by omega) (by decide), in_N (n := 44) (by omega) (by decide), in_N (n := 44) (by omega) (by decide), trivial⟩ ?_
      try simp only [rf_told, rf_comes, rf_comeMany, rf_comeAt, rf_isSeen, rf_goals, rf_text, rf_taken, rf_roadRow, rf_dueNumber, rf_dueTimes, rf_above, rf_tree, rf_way, rf_signs, rf_spent, rf_read, rf_useMany, rf_lastUse, fi_9_0, fi_9_2, fi_9_3, fi_9_4, fi_9_6, fi_9_7, fi_9_14, fi_9_19, fi_9_24, fi_9_26, fi_9_27, fi_9_30]
      rw [ix_N (by omega), hat, e1, ix_N (by omega), e51, hrow.2 p (by omega), hv, hsp, iZ_add, show ((p : Int) + 1) = ((p + 1 : Nat) : Int) by omega]
      have hfa : Fr [42] σ (up σ 42 (r.length - 1) (iZ (p + 1 : Nat))) := Fr.put (by simp)
      refine V.cv (lo := 54) (d' := d - 1) rfl rfl ok_X9_costOf lk_9_X9_costOf rfl rfl rfl hn (by omega) (Nat.le_refl _) (Nat.le_refl _) ((m_costOf hn (by omega) (p := P) (q := R) (v := v) (last := r.length - 1) (r := r) (by omega) (by omega) (hM.fr hfa (by decide)) (ht.fr hfa (by decide)) (fun x hx => by have := hb x hx; omega) (by omega) ?_))
      refine V.run 147 54 rfl hn ⟨by rw [e2]; exact in_N (n := 44) (by omega) (by decide), by rw [e2]; exact in_N (n := 44) (by omega) (by decide), trivial⟩ ?_
      try simp only [rf_told, rf_comes, rf_comeMany, rf_comeAt, rf_isSeen, rf_goals, rf_text, rf_taken, rf_roadRow, rf_dueNumber, rf_dueTimes, rf_above, rf_tree, rf_way, rf_signs, rf_spent, rf_read, rf_useMany, rf_lastUse, fi_9_0, fi_9_2, fi_9_3, fi_9_4, fi_9_6, fi_9_7, fi_9_14, fi_9_19, fi_9_24, fi_9_26, fi_9_27, fi_9_30]
      rw [e2, ix_N (by omega), iZ_add, show ((sp : Int) + costV P R r v) = ((sp + costV P R r v : Nat) : Int) by omega]
      generalize hσ1 : up (up (up σ 42 (r.length - 1) (iZ (p + 1 : Nat))) 39 r.length (iZ v)) 51 r.length (iZ (sp + costV P R r v : Nat)) = σ1
      have hf1 : Fr [39, 40, 41, 42, 43, 51] σ σ1 := by rw [← hσ1]; exact Fr.putT (Fr.putT (Fr.put (by simp)) (by simp)) (by simp)
      have h39 : ∀ i, i < r.length → σ1 39 i = σ 39 i := fun i hi => by rw [← hσ1, up_ne (by decide), up_nat (by omega), up_ne (by decide)]
      have h40 : σ1 40 = σ 40 := by rw [← hσ1, up_ne (by decide), up_ne (by decide), up_ne (by decide)]
      have h41 : σ1 41 = σ 41 := by rw [← hσ1, up_ne (by decide), up_ne (by decide), up_ne (by decide)]
      have h42 : σ1 42 (r.length - 1) = iZ (p + 1 : Nat) := by rw [← hσ1, up_ne (by decide), up_ne (by decide), up_at]
      have h42b : ∀ i, i < r.length - 1 → σ1 42 i = σ 42 i := fun i hi => by rw [← hσ1, up_ne (by decide), up_ne (by decide), up_nat (by omega)]
      have h51 : ∀ i, i < r.length → σ1 51 i = σ 51 i := fun i hi => by rw [← hσ1, up_nat (by omega), up_ne (by decide), up_ne (by decide)]
      have h51b : σ1 51 r.length = iZ (sp + costV P R r v : Nat) := by rw [← hσ1, up_at]
      have hk1 : keepC (r.length - 1) σ σ1 := ⟨hf1, fun i hi => h39 i (by omega), fun i _ => by rw [h40], fun i _ => by rw [h41], fun i hi => h42b i hi, fun i hi => h51 i (by omega)⟩
      have htv : told σ1 (r ++ [v]) := by
        have h0 : told (up (up σ 42 (r.length - 1) (iZ (p + 1 : Nat))) 39 r.length (iZ v)) (r ++ [v]) := told_app (told_sub ht (fun i _ => by rw [up_ne (by decide)]))
        rw [← hσ1]
        exact told_sub h0 (fun i _ => by rw [up_ne (by decide)])
      have hbv : ∀ x ∈ r ++ [v], 1 ≤ x ∧ x ≤ lastD (r ++ [v]) := fun x hx => by
        rw [lastD_app]
        rcases List.mem_append.mp hx with q | q
        · have := hb x q; omega
        · rw [List.mem_singleton] at q; omega
      have hM1 : pricesM σ1 P R := hM.fr hf1 (by decide)
      -- the rest of the candidates
      have go : ∀ (σ2 : Mem) (x5 x6 x7 : Option Value), (decide (costV P R r v ≤ price - sp) && (v == N || chs P R N k (r ++ [v]) (price - sp - costV P R r v))) = false → keepC (r.length - 1) σ σ2 → σ2 42 (r.length - 1) = iZ (p + 1 : Nat) → V M_X9_costs d n n none Q n (rho ca cb tr) σ2 47 [some (.ref 35), some (.int (iZ (N))), some (.int (iZ (price))), some (.int (iZ (ch))), some (.int (iZ ((r.length - 1 : Nat)))), x5, x6, x7] [] := by
        intro σ2 x5 x6 x7 hno hk2 h422
        refine ih r (p + 1) sp σ2 x5 x6 x7 (hM.fr hk2.1 (by decide)) (by omega) hr hrl hlN hk (told_sub ht (fun i hi => hk2.2.1 i (by omega))) hb (hk2.row (by omega) hrow) h422 (by rw [hk2.2.2.2.2.2 _ (by omega)]; exact hsp) hsb (fun σ' x5 x6 x7 hk3 ho => ?_) (fun σ' hf3 ho => ?_)
        · exact hK σ' x5 x6 x7 (hk2.tr hk3) (by rw [List.any_cons, hno, ho]; rfl)
        · exact hF σ' (hk2.1.tr hf3) (by rw [List.any_cons, hno, ho]; rfl)
      generalize hcd : costV P R r v = c at *
      -- behind the answer
      have back : ∀ x6 x7, (decide (c ≤ price - sp) && (v == N || chs P R N k (r ++ [v]) (price - sp - c))) = false → V M_X9_costs d n n none Q n (rho ca cb tr) σ1 218 [some (.ref 35), some (.int (iZ (N))), some (.int (iZ (price))), some (.int (iZ (ch))), some (.int (iZ ((r.length - 1 : Nat)))), some (.int (iZ (v))), x6, x7] [] := by
        intro x6 x7 hno
        refine V.run 0 54 rfl hn trivial ?_
        exact go σ1 _ _ _ hno hk1 h42
      have s161 : v = N ∧ price < sp + c ∨ v < N → V M_X9_costs d n n none Q n (rho ca cb tr) σ1 161 [some (.ref 35), some (.int (iZ (N))), some (.int (iZ (price))), some (.int (iZ (ch))), some (.int (iZ ((r.length - 1 : Nat)))), some (.int (iZ (v))), some (.int (iZ ((sp + c : Nat)))), x7] [] := by
        intro hcase
        refine V.run 0 54 rfl hn trivial ?_
        rw [iZ_sub]
        refine V.br rfl (fun (c1 : 0 ≤ iZ ((price : Int) - (sp + c : Nat))) => ?_) (fun (c1 : ¬ (0 ≤ iZ ((price : Int) - (sp + c : Nat)))) => ?_)
        · rw [iZ_0le (by omega)] at c1
          have hvN : v < N := by omega
          have hvne : (v == N) = false := by simp; omega
          refine V.run 0 54 rfl hn ⟨(fun q => by have := (iZ_eq0 (a := (ch : Int)) (by omega)).mp q; omega), trivial⟩ ?_
          rw [iZ_sub, iZ_div (by omega) (by omega), show ((price : Int) - (sp + c : Nat)) / ch = (((price - sp - c) / ch : Nat) : Int) by rw [Int.natCast_ediv]; congr 1; omega]
          have hbl : (price - sp - c) / ch ≤ 1000 := Nat.le_trans (Nat.div_le_self _ _) (by omega)
          have hlow := fun (hz : chs P R N k (r ++ [v]) (price - sp - c) = true) => chs_low (p := P) (q := R) (N := N) hch1.1 hcc (k := k) (g := v) (b := price - sp - c) (r := r ++ [v]) (fun x hx => by have := (hbv x hx).2; rw [lastD_app] at this; exact this) hz
          generalize (price - sp - c) / ch = lf at *
          have noC : (chs P R N k (r ++ [v]) (price - sp - c) = false) → (decide (c ≤ price - sp) && (v == N || chs P R N k (r ++ [v]) (price - sp - c))) = false := by
            intro hz
            rw [hz, hvne]
            simp
          refine V.brF rfl (fun q => by have := (iZ_le (by omega) (by omega)).mp q; omega) ?_
          refine V.run 0 54 rfl hn trivial ?_
          refine V.br rfl (fun (c2 : iZ lf ≤ 0) => ?_) (fun (c2 : ¬ (iZ lf ≤ 0)) => ?_)
          · rw [iZ_le0 (by omega)] at c2
            refine back _ _ (noC ?_)
            cases hz : chs P R N k (r ++ [v]) (price - sp - c) with
            | false => rfl
            | true =>
              have := hlow hz
              rw [show lf = 0 by omega] at this
              omega
          · rw [iZ_le0 (by omega)] at c2
            have recu : V M_X9_costs d n n none Q n (rho ca cb tr) σ1 207 [some (.ref 35), some (.int (iZ (N))), some (.int (iZ (price))), some (.int (iZ (ch))), some (.int (iZ ((r.length - 1 : Nat)))), some (.int (iZ (v))), some (.int (iZ ((sp + c : Nat)))), some (.int (iZ (lf)))] [] := by
              obtain ⟨k2, rfl⟩ : ∃ k2, k = k2 + 1 := ⟨k - 1, by omega⟩
              refine V.run 0 54 rfl hn trivial ?_
              rw [e2]
              refine V.cv (lo := 54) (d' := d - 1) rfl rfl ok_X9_layComes lk_9_X9_layComes rfl rfl rfl hn (by omega) (Nat.le_refl _) (Nat.le_refl _) ((m_layComes hn (by omega) (kind := 0) (r := r ++ [v]) (by simp) (by omega) htv (fun x hx => by have := (hbv x hx).2; rw [lastD_app] at this; omega) (by omega) (by omega) (fun σ2 hl2 => ?_)))
              obtain ⟨l1, l2', l3, l4, l5⟩ := hl2
              have el : (r ++ [v]).length - 1 = r.length := by simp
              have el2 : (r ++ [v]).length = r.length + 1 := by simp
              have hlv : lastD (r ++ [v]) = v := lastD_app r v
              rw [el] at l2' l3 l4 l5
              refine V.run 0 54 rfl hn trivial ?_
              have key := ihL k2 (by omega) ((candL 0 N (r ++ [v])).length) (r ++ [v]) 0 (sp + c) σ2 (some (.int (iZ v))) (some (.int (iZ ((sp + c : Nat) : Int)))) (some (.int (iZ lf))) (hM1.fr l1 (by decide)) (by omega) (by omega) (by rw [hlv]; omega) (by rw [hlv]; omega) (by rw [hlv]; omega) (htv.fr l1 (by decide)) hbv (by rw [el]; exact l2') (by rw [el]; exact l3) (by rw [el, l1 51 (by decide)]; exact h51b) (by omega) (fun σ3 x5 x6 x7 hk3 ho3 => ?_) (fun σ3 hf3 ho3 => ?_)
              · rw [el] at key
                exact key
              · rw [el] at hk3
                rw [el2, show ((r.length + 1 : Nat) : Int) - 1 - 1 = ((r.length - 1 : Nat) : Int) by omega]
                refine go σ3 x5 x6 x7 ?_ ⟨?_, fun i hi => ?_, fun i hi => ?_, fun i hi => ?_, fun i hi => ?_, fun i hi => ?_⟩ ?_
                · refine noC ?_
                  rw [List.drop_zero, show price - (sp + c) = price - sp - c by omega] at ho3
                  unfold chs
                  exact ho3
                · exact hf1.tr ((l1.mono (by simp)).tr hk3.1)
                · rw [hk3.2.1 i (by omega), l1 39 (by decide), h39 i (by omega)]
                · rw [hk3.2.2.1 i (by omega), l4 i (by omega), h40]
                · rw [hk3.2.2.2.1 i (by omega), (l5 i (by omega)).1, h41]
                · rw [hk3.2.2.2.2.1 i (by omega), (l5 i (by omega)).2, h42b i hi]
                · rw [hk3.2.2.2.2.2 i (by omega), l1 51 (by decide), h51 i (by omega)]
                · rw [hk3.2.2.2.2.1 _ (by omega), (l5 _ (by omega)).2, h42]
              · refine hF σ3 (hf1.tr ((l1.mono (by simp)).tr hf3)) ?_
                rw [List.any_cons, hcd]
                have : chs P R N (k2 + 1) (r ++ [v]) (price - sp - c) = true := by
                  unfold chs
                  rw [List.drop_zero, show price - (sp + c) = price - sp - c by omega] at ho3
                  exact ho3
                rw [this, decide_eq_true (show c ≤ price - sp by omega)]
                simp
            refine V.run 0 54 rfl hn trivial ?_
            refine V.br rfl (fun (c3 : iZ 10 < iZ lf) => ?_) (fun (c3 : ¬ (iZ 10 < iZ lf)) => ?_)
            · exact recu
            · rw [iZ_lt (by omega) (by omega)] at c3
              refine V.run 0 54 rfl hn trivial ?_
              have hpw : v * 2 ^ lf ≤ 40 * 2 ^ 10 := Nat.mul_le_mul (by omega) (Nat.pow_le_pow_right (by decide) (by omega))
              have h4 : (40 * 2 ^ 10 : Nat) = 40960 := by decide
              have h5 : ((v * 2 ^ lf : Nat) : Int) = (v : Int) * 2 ^ lf := by simp
              rw [iZ_shl (by omega), ← h5]
              refine V.br rfl (fun (c4 : iZ (v * 2 ^ lf : Nat) < iZ N) => ?_) (fun (c4 : ¬ (iZ (v * 2 ^ lf : Nat) < iZ N)) => ?_)
              · rw [iZ_lt (by omega) (by omega)] at c4
                refine back _ _ (noC ?_)
                cases hz : chs P R N k (r ++ [v]) (price - sp - c) with
                | false => rfl
                | true =>
                  have := hlow hz
                  omega
              · exact recu
        · rw [iZ_0le (by omega)] at c1
          have hno : (decide (c ≤ price - sp) && (v == N || chs P R N k (r ++ [v]) (price - sp - c))) = false := by
            rw [decide_eq_false (by omega)]
            rfl
          refine V.run 0 54 rfl hn trivial ?_
          refine V.run 0 54 rfl hn trivial ?_
          refine V.br rfl (fun (c2 : iZ N ≤ iZ v) => ?_) (fun (c2 : ¬ (iZ N ≤ iZ v)) => ?_)
          · exact back _ _ hno
          · refine V.run 0 54 rfl hn trivial ?_
            refine V.brT rfl (by decide) ?_
            exact back _ _ hno
      refine V.run 0 54 rfl hn trivial ?_
      refine V.br rfl (fun (c1 : iZ v = iZ N) => ?_) (fun (c1 : ¬ (iZ v = iZ N)) => ?_)
      · rw [iZ_eq (by omega) (by omega)] at c1
        refine V.run 0 54 rfl hn trivial ?_
        refine V.br rfl (fun (c2 : iZ price < iZ (sp + c : Nat)) => ?_) (fun (c2 : ¬ (iZ price < iZ (sp + c : Nat))) => ?_)
        · rw [iZ_lt (by omega) (by omega)] at c2
          exact s161 (Or.inl ⟨by omega, by omega⟩)
        · rw [iZ_lt (by omega) (by omega)] at c2
          refine V.run 0 54 rfl hn trivial ?_
          refine V.ret (v := some (.int 1)) rfl rfl ⟨rfl, Or.inr rfl⟩ rfl (hF σ1 hf1 (by rw [List.any_cons, hcd, decide_eq_true (show c ≤ price - sp by omega), show v = N by omega]; simp))
      · rw [iZ_eq (by omega) (by omega)] at c1
        exact s161 (Or.inr (by omega))
theorem m_costs (hn : 54 ≤ n) (hd : 4 ≤ d) {P R N price : Nat} {σ : Mem} (hN : 2 ≤ N ∧ N ≤ 40) (hpr : price ≤ 1000) (hM : pricesM σ P R) (h1 : chs P R N 39 [1] price = true → ∀ σ', Fr [39, 40, 41, 42, 43, 51] σ σ' → Q (some (.int 1)) (rho ca cb tr) σ') (h0 : chs P R N 39 [1] price = false → ∀ σ', Fr [39, 40, 41, 42, 43, 51] σ σ' → Q (some (.int 0)) (rho ca cb tr) σ') : Mt M_X9_costs d n n [.ref 35, .int (iZ N), .int (iZ price)] (rho ca cb tr) σ Q := by
  obtain ⟨p1, p2, p3, p4⟩ := id hM
  refine Mt.of rfl (by decide +kernel) tk_X9_costs (Nat.le_of_ble_eq_true rfl) ?_
  refine V.run 0 54 rfl hn ⟨in_N (k := 0) (n := 44) (by omega) (by decide), in_N (k := 0) (n := 44) (by omega) (by decide), trivial⟩ ?_
  try simp only [rf_told, rf_comes, rf_comeMany, rf_comeAt, rf_isSeen, rf_goals, rf_text, rf_taken, rf_roadRow, rf_dueNumber, rf_dueTimes, rf_above, rf_tree, rf_way, rf_signs, rf_spent, rf_read, rf_useMany, rf_lastUse, fi_9_0, fi_9_2, fi_9_3, fi_9_4, fi_9_6, fi_9_7, fi_9_14, fi_9_19, fi_9_24, fi_9_26, fi_9_27, fi_9_30]
  have e0 : ix (iZ 0) = 0 := by decide
  rw [e0]
  have hf0 : Fr [39, 40, 41, 42, 43, 51] σ (up (up σ 39 0 (iZ 1)) 51 0 (iZ 0)) := Fr.putT (Fr.put (by simp)) (by simp)
  have ht0 : told (up (up σ 39 0 (iZ 1)) 51 0 (iZ 0)) [1] := by
    intro i hi
    have : i = 0 := by simp at hi; exact hi
    subst this
    rw [up_ne (by decide), up_at]
    rfl
  have hs0 : up (up σ 39 0 (iZ 1)) 51 0 (iZ 0) 51 0 = iZ (0 : Nat) := by rw [up_at]; rfl
  have hM0 : pricesM (up (up σ 39 0 (iZ 1)) 51 0 (iZ 0)) P R := hM.fr hf0 (by decide)
  generalize up (up σ 39 0 (iZ 1)) 51 0 (iZ 0) = σ0 at hf0 ht0 hs0 hM0 ⊢
  obtain ⟨q1, q2, -, -⟩ := id hM0
  have go : V M_X9_costs d n n none Q n (rho ca cb tr) σ0 37 [some (.ref 35), some (.int (iZ (N))), some (.int (iZ (price))), some (.int (iZ ((if P < R then P else R : Nat)))), none, none, none, none] [] := by
    refine V.run 0 54 rfl hn trivial ?_
    refine V.cv (lo := 54) (d' := d - 1) rfl rfl ok_X9_layComes lk_9_X9_layComes rfl rfl rfl hn (by omega) (Nat.le_refl _) (Nat.le_refl _) ((m_layComes hn (by omega) (kind := 0) (last := 0) (r := [1]) (by simp) (by omega) ht0 (by simp) (by omega) (by omega) (fun σ2 hl2 => ?_)))
    obtain ⟨l1, l2, l3, l4, l5⟩ := hl2
    have hl1 : lastD [1] = 1 := rfl
    have key := cstV (Q := Q) (d := d) (ca := ca) (cb := cb) (tr := tr) hn (by omega) p3 p4 (N := N) (by omega) hpr 38 ((candL 0 N [1]).length) [1] 0 0 σ2 none none none (hM0.fr l1 (by decide)) (by omega) (by simp) (by simp [hl1]) (by rw [hl1]; omega) (by rw [hl1]; omega) (ht0.fr l1 (by decide)) (by simp [hl1]) l2 (by rw [l3]; rfl) (by rw [l1 51 (by decide)]; exact hs0) (by omega) (fun σ3 x5 x6 x7 hk3 ho3 => ?_) (fun σ3 hf3 ho3 => ?_)
    · exact key
    · refine V.run 0 54 rfl hn trivial ?_
      refine V.brT rfl (by decide) ?_
      refine V.run 0 54 rfl hn trivial ?_
      refine V.ret (v := some (.int 0)) rfl rfl ⟨rfl, Or.inl rfl⟩ rfl (h0 (by unfold chs; rw [List.drop_zero] at ho3; exact ho3) σ3 (hf0.tr ((l1.mono (by simp)).tr hk3.1)))
    · exact h1 (by unfold chs; rw [List.drop_zero] at ho3; exact ho3) σ3 (hf0.tr ((l1.mono (by simp)).tr hf3))
  rw [q1, q2]
  refine V.br rfl (fun (c : iZ R ≤ iZ P) => ?_) (fun (c : ¬ (iZ R ≤ iZ P)) => ?_)
  · rw [iZ_le (by omega) (by omega)] at c
    refine V.run 37 54 rfl hn trivial ?_
    try simp only [rf_told, rf_comes, rf_comeMany, rf_comeAt, rf_isSeen, rf_goals, rf_text, rf_taken, rf_roadRow, rf_dueNumber, rf_dueTimes, rf_above, rf_tree, rf_way, rf_signs, rf_spent, rf_read, rf_useMany, rf_lastUse, fi_9_0, fi_9_2, fi_9_3, fi_9_4, fi_9_6, fi_9_7, fi_9_14, fi_9_19, fi_9_24, fi_9_26, fi_9_27, fi_9_30]
    rw [q2]
    rw [if_neg (by omega)] at go
    exact go
  · rw [iZ_le (by omega) (by omega)] at c
    refine V.run 0 54 rfl hn trivial ?_
    try simp only [rf_told, rf_comes, rf_comeMany, rf_comeAt, rf_isSeen, rf_goals, rf_text, rf_taken, rf_roadRow, rf_dueNumber, rf_dueTimes, rf_above, rf_tree, rf_way, rf_signs, rf_spent, rf_read, rf_useMany, rf_lastUse, fi_9_0, fi_9_2, fi_9_3, fi_9_4, fi_9_6, fi_9_7, fi_9_14, fi_9_19, fi_9_24, fi_9_26, fi_9_27, fi_9_30]
    rw [q1]
    refine V.run 37 54 rfl hn trivial ?_
    rw [if_pos (by omega)] at go
    exact go
/-- E is the least price -/
def isE (P R N E : Nat) : Prop := (N = 1 ∧ E = 0) ∨ (2 ≤ N ∧ chs P R N 39 [1] E = true ∧ ∀ k, k < E → chs P R N 39 [1] k = false)
theorem m_cheapest (hn : 54 ≤ n) (hd : 5 ≤ d) {P R E : Nat} {z : Int} {σ : Mem} (hz : -2147483648 ≤ z ∧ z < 2147483648) (hM : pricesM σ P R) (hbad : ¬ (1 ≤ z ∧ z ≤ 40) → Q (some (.int (iZ (-1)))) (rho ca cb tr) σ) (hE : 1 ≤ z ∧ z ≤ 40 → isE P R z.toNat E ∧ E ≤ 1000) (hQ : 1 ≤ z ∧ z ≤ 40 → ∀ σ', Fr [39, 40, 41, 42, 43, 51] σ σ' → Q (some (.int (iZ E))) (rho ca cb tr) σ') : Mt M_X9_cheapest d n n [.ref 35, .int (iZ z)] (rho ca cb tr) σ Q := by
  refine Mt.of rfl (by decide +kernel) tk_X9_cheapest (Nat.le_of_ble_eq_true rfl) ?_
  refine V.run 0 54 rfl hn trivial ?_
  refine V.cs (d' := d - 1) rfl rfl ok_X9_in lk_9_X9_in rfl (by omega) (Nat.le_refl _) (Nat.le_refl _) ((m_inZ (by omega) (by omega) (by omega) (fun g => ?_) (fun g => ?_)))
  · obtain ⟨hE1, hE2⟩ := hE g
    obtain ⟨N, rfl⟩ : ∃ N : Nat, z = N := ⟨z.toNat, by omega⟩
    rw [Int.toNat_natCast] at hE1
    refine V.brF rfl (by decide) ?_
    refine V.run 16 54 rfl hn trivial ?_
    have key : ∀ (j k : Nat) (σ1 : Mem), k + j = E → Fr [39, 40, 41, 42, 43, 51] σ σ1 → V M_X9_cheapest d n n none Q n (rho ca cb tr) σ1 16 [some (.ref 35), some (.int (iZ (N))), some (.int (iZ (k)))] [] := by
      intro j
      induction j with
      | zero =>
        intro k σ1 hk hf
        have e : k = E := by omega
        subst e
        refine V.run 0 54 rfl hn trivial ?_
        refine V.br rfl (fun (c : iZ N ≤ iZ 1) => ?_) (fun (c : ¬ (iZ N ≤ iZ 1)) => ?_)
        · refine V.run 0 54 rfl hn trivial ?_
          refine V.ret (v := some (.int (iZ k))) rfl rfl rfl rfl (hQ g σ1 hf)
        · rw [iZ_le (by omega) (by omega)] at c
          refine V.run 0 54 rfl hn trivial ?_
          refine V.cv (lo := 54) (d' := d - 1) rfl rfl ok_X9_costs lk_9_X9_costs rfl rfl rfl hn (by omega) (Nat.le_refl _) (Nat.le_refl _) ((m_costs hn (by omega) (by omega) (by omega) (hM.fr hf (by decide)) (fun c1 σ2 hf2 => ?_) (fun c1 σ2 hf2 => ?_)))
          · refine V.brF rfl (by decide) ?_
            refine V.run 0 54 rfl hn trivial ?_
            refine V.ret (v := some (.int (iZ k))) rfl rfl rfl rfl (hQ g σ2 (hf.tr hf2))
          · rcases hE1 with q | q
            · omega
            · rw [q.2.1] at c1; cases c1
      | succ j ih =>
        intro k σ1 hk hf
        have h2 : 2 ≤ N := by
          rcases hE1 with q | q
          · omega
          · exact q.1
        refine V.run 0 54 rfl hn trivial ?_
        refine V.brF rfl (fun c => by have := (iZ_le (by omega) (by omega)).mp c; omega) ?_
        refine V.run 0 54 rfl hn trivial ?_
        refine V.cv (lo := 54) (d' := d - 1) rfl rfl ok_X9_costs lk_9_X9_costs rfl rfl rfl hn (by omega) (Nat.le_refl _) (Nat.le_refl _) ((m_costs hn (by omega) (by omega) (by omega) (hM.fr hf (by decide)) (fun c1 σ2 hf2 => ?_) (fun c1 σ2 hf2 => ?_)))
        · rcases hE1 with q | q
          · omega
          · rw [q.2.2 k (by omega)] at c1; cases c1
        · refine V.brT rfl rfl ?_
          refine V.run 0 54 rfl hn trivial ?_
          have := ih (k + 1) σ2 (by omega) (hf.tr hf2)
          rw [show ((k + 1 : Nat) : Int) = (k : Int) + 1 by omega, ← iZ_add] at this
          exact this
    exact key E 0 σ (by omega) Fr.rf
  · refine V.brT rfl rfl ?_
    refine V.run 0 54 rfl hn trivial ?_
    refine V.ret (v := some (.int (iZ (-1)))) rfl rfl rfl rfl (hbad g)
end MDB
