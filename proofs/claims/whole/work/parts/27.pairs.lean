/-! ===== the reference: pairs ===== -/
def rkP (v : Nat) : Nat := 20 * (v / 13 + v % 13) + v / 13
def okP (a b : Nat) (r : List Nat) (x y : Nat) : Bool := decide (x ≤ a) && decide (y ≤ b) && !r.contains (13 * x + y) && (decide (r.length < 3) || decide (rkP (lastD r) < rkP (13 * x + y)))
def psP (a b : Nat) (r acc : List Nat) (i j : Nat) : List Nat := if (okP a b r (r.getD i 0 / 13 + r.getD j 0 / 13) (r.getD i 0 % 13 + r.getD j 0 % 13) && !acc.contains (13 * (r.getD i 0 / 13 + r.getD j 0 / 13) + (r.getD i 0 % 13 + r.getD j 0 % 13))) = true then acc ++ [13 * (r.getD i 0 / 13 + r.getD j 0 / 13) + (r.getD i 0 % 13 + r.getD j 0 % 13)] else acc
def inP (a b : Nat) (r acc : List Nat) (i t : Nat) : List Nat := (List.range t).foldl (fun acc u => psP a b r acc i (i + u)) acc
def ouP (a b : Nat) (r : List Nat) (m : Nat) : List Nat := (List.range m).foldl (fun acc i => inP a b r acc i (r.length - i)) []
def pcL (a b : Nat) (r : List Nat) : List Nat := ouP a b r r.length
def lds (a b : Nat) (k : Nat) (r : List Nat) : Bool := match k with
  | 0 => false
  | k + 1 => (pcL a b r).any (fun v => v == 13 * a + b || (decide (0 < k) && decide (a + b ≤ (v / 13 + v % 13) * 2 ^ k) && lds a b k (r ++ [v])))
theorem inP_succ (a b : Nat) (r acc : List Nat) (i t : Nat) : inP a b r acc i (t + 1) = psP a b r (inP a b r acc i t) i (i + t) := by
  unfold inP
  rw [List.range_succ, List.foldl_append]
  rfl
theorem ouP_succ (a b : Nat) (r : List Nat) (m : Nat) : ouP a b r (m + 1) = inP a b r (ouP a b r m) m (r.length - m) := by
  unfold ouP
  rw [List.range_succ, List.foldl_append]
  rfl
theorem psP_len (a b : Nat) (r acc : List Nat) (i j : Nat) : (psP a b r acc i j).length ≤ acc.length + 1 := by
  unfold psP
  split
  · simp
  · omega
theorem inP_len (a b : Nat) (r acc : List Nat) (i : Nat) : ∀ t, (inP a b r acc i t).length ≤ acc.length + t
  | 0 => Nat.le_refl _
  | t + 1 => by
    rw [inP_succ]
    have := psP_len a b r (inP a b r acc i t) i (i + t)
    have := inP_len a b r acc i t
    omega
theorem ouP_len (a b : Nat) {r : List Nat} (hr : r.length ≤ 16) : ∀ m, (ouP a b r m).length ≤ 16 * m
  | 0 => Nat.le_refl _
  | m + 1 => by
    rw [ouP_succ]
    have := inP_len a b r (ouP a b r m) m (r.length - m)
    have := ouP_len a b hr m
    omega
theorem take_getD {l : List Nat} {k : Nat} (hk : k < l.length) : l.take (k + 1) = l.take k ++ [l.getD k 0] := by
  have e : l.getD k 0 = l[k] := by rw [List.getD_eq_getElem?_getD, List.getElem?_eq_getElem hk]; rfl
  rw [e, List.take_succ, List.getElem?_eq_getElem hk, Option.toList_some]
theorem contains_take {l : List Nat} {k z : Nat} (hk : k < l.length) : (l.take (k + 1)).contains z = ((l.take k).contains z || (z == l.getD k 0)) := by
  rw [take_getD hk]
  generalize l.getD k 0 = w
  rw [Bool.eq_iff_iff]
  simp
theorem psP_all {a b : Nat} {r acc : List Nat} {i j : Nat} {P : Nat → Prop} (hP : ∀ x y, okP a b r x y = true → P (13 * x + y)) (h : ∀ z ∈ acc, P z) : ∀ z ∈ psP a b r acc i j, P z := by
  unfold psP
  split
  · rename_i hc
    simp only [Bool.and_eq_true] at hc
    intro z hz
    rcases List.mem_append.mp hz with q | q
    · exact h z q
    · rw [List.mem_singleton] at q
      rw [q]
      exact hP _ _ hc.1
  · exact h
theorem inP_all {a b : Nat} {r acc : List Nat} {i : Nat} {P : Nat → Prop} (hP : ∀ x y, okP a b r x y = true → P (13 * x + y)) (h : ∀ z ∈ acc, P z) : ∀ t, ∀ z ∈ inP a b r acc i t, P z
  | 0 => h
  | t + 1 => by
    rw [inP_succ]
    exact psP_all hP (inP_all hP h t)
theorem ouP_all {a b : Nat} {r : List Nat} {P : Nat → Prop} (hP : ∀ x y, okP a b r x y = true → P (13 * x + y)) : ∀ m, ∀ z ∈ ouP a b r m, P z
  | 0 => by intro z hz; simp [ouP] at hz
  | m + 1 => by
    rw [ouP_succ]
    exact inP_all hP (ouP_all hP m) _
theorem okP_lt {a b x y : Nat} {r : List Nat} (ha : a ≤ 12) (hb : b ≤ 12) (h : okP a b r x y = true) : 13 * x + y < 169 := by
  unfold okP at h
  simp only [Bool.and_eq_true, decide_eq_true_eq] at h
  omega
def lidP (a b : Nat) (r : List Nat) (σ σ' : Mem) : Prop := Fr [40, 41, 42] σ σ' ∧ rowAt σ' (r.length - 1) (pcL a b r) ∧ σ' 42 (r.length - 1) = 0 ∧ (∀ i, i < 400 * (r.length - 1) → σ' 40 i = σ 40 i) ∧ (∀ i, i ≠ r.length - 1 → σ' 41 i = σ 41 i ∧ σ' 42 i = σ 42 i)
section MDC
variable {d n ca cb tr : Nat} {Q : PQ} {σ : Mem} {ρ : Ref}
theorem m_rankOf {v : Nat} (hv : v < 1000) (hQ : Q (some (.int (iZ (rkP v)))) ρ σ) : Mt M_X9_rankOf d n n [.ref 35, .int (iZ v)] ρ σ Q := by
  refine Mt.of rfl (by decide +kernel) tk_X9_rankOf (Nat.le_of_ble_eq_true rfl) ?_
  refine V.run 0 0 rfl (Nat.zero_le _) ⟨by decide, by decide, by decide, trivial⟩ ?_
  rw [iZ_div (by omega) (by omega), iZ_rem (by omega) (by omega), iZ_add, iZ_mul, iZ_add]
  have e : (20 * ((v : Int) / 13 + (v : Int) % 13) + (v : Int) / 13) = (rkP v : Int) := by unfold rkP; omega
  rw [e]
  refine V.ret (v := some (.int (iZ (rkP v)))) rfl rfl rfl rfl (hQ)
theorem m_layPairs (hn : 54 ≤ n) (hd : 2 ≤ d) {a b last : Nat} {r : List Nat} (hl : r.length = last + 1) (hr2 : last < 16) (ha : a ≤ 12) (hb : b ≤ 12) (ht : told σ r) (hrb : ∀ x ∈ r, x < 169) (hQ : ∀ σ', lidP a b r σ σ' → Q none (rho ca cb tr) σ') : Mt M_X9_layPairs d n n [.ref 35, .int (iZ last), .int (iZ a), .int (iZ b)] (rho ca cb tr) σ Q := by
  have hr : 0 < r.length := by omega
  have el : last = r.length - 1 := by omega
  subst el
  have hb2 : ∀ x ∈ r, x < 1000 := fun x hx => by have := hrb x hx; omega
  refine Mt.of rfl (by decide +kernel) tk_X9_layPairs (Nat.le_of_ble_eq_true rfl) ?_
  refine V.run 6 54 rfl hn trivial ?_
  -- rows so far
  have key : ∀ (p i : Nat) (σ1 : Mem) (x6 x7 x8 x9 x10 x11 : Option Value), i + p = r.length → Fr [40] σ σ1 → (∀ c, c < (ouP a b r i).length → σ1 40 (400 * (r.length - 1) + c) = iZ ((ouP a b r i).getD c 0)) → (∀ c, c < 400 * (r.length - 1) → σ1 40 c = σ 40 c) → V M_X9_layPairs d n n none Q n (rho ca cb tr) σ1 6 [some (.ref 35), some (.int (iZ ((r.length - 1 : Nat)))), some (.int (iZ (a))), some (.int (iZ (b))), some (.int (iZ ((ouP a b r i).length))), some (.int (iZ (i))), x6, x7, x8, x9, x10, x11] [] := by
    intro p
    induction p with
    | zero =>
      intro i σ1 x6 x7 x8 x9 x10 x11 hp hf h40 hlo
      have hlen := ouP_len a b (r := r) (by omega) i
      refine V.run 0 54 rfl hn trivial ?_
      refine V.brT rfl ((iZ_lt (by omega) (by omega)).mpr (by omega)) ?_
      refine V.run 0 54 rfl hn ⟨in_N (n := 44) (by omega) (by decide), in_N (n := 44) (by omega) (by decide), trivial⟩ ?_
      try simp only [rf_told, rf_comes, rf_comeMany, rf_comeAt, rf_isSeen, rf_goals, rf_text, rf_taken, rf_roadRow, rf_dueNumber, rf_dueTimes, rf_above, rf_tree, rf_way, rf_signs, rf_spent, rf_read, rf_useMany, rf_lastUse, fi_9_0, fi_9_2, fi_9_3, fi_9_4, fi_9_6, fi_9_7, fi_9_14, fi_9_19, fi_9_24, fi_9_26, fi_9_27, fi_9_30]
      rw [ix_N (by omega)]
      refine V.ret (v := none) rfl rfl rfl rfl (?_)
      have eL : ouP a b r i = pcL a b r := by unfold pcL; rw [show i = r.length by omega]
      rw [eL] at h40 ⊢
      refine hQ _ ⟨Fr.putT (Fr.putT (hf.mono (by simp)) (by simp)) (by simp), ⟨?_, fun c hc => ?_⟩, ?_, fun c hc => ?_, fun c hc => ⟨?_, ?_⟩⟩
      · rw [up_ne (by decide), up_at]
      · rw [up_ne (by decide), up_ne (by decide)]; exact h40 c hc
      · rw [up_at]; rfl
      · rw [up_ne (by decide), up_ne (by decide)]; exact hlo c hc
      · rw [up_ne (by decide), up_nat hc, hf 41 (by simp)]
      · rw [up_nat hc, up_ne (by decide), hf 42 (by simp)]
    | succ p ih =>
      intro i σ1 x6 x7 x8 x9 x10 x11 hp hf h40 hlo
      have hlen := ouP_len a b (r := r) (by omega) i
      have inner : ∀ (q t : Nat) (σ2 : Mem) (x7 x8 x9 x10 x11 : Option Value), i + t + q = r.length → Fr [40] σ σ2 → (∀ c, c < (inP a b r (ouP a b r i) i t).length → σ2 40 (400 * (r.length - 1) + c) = iZ ((inP a b r (ouP a b r i) i t).getD c 0)) → (∀ c, c < 400 * (r.length - 1) → σ2 40 c = σ 40 c) → V M_X9_layPairs d n n none Q n (rho ca cb tr) σ2 16 [some (.ref 35), some (.int (iZ ((r.length - 1 : Nat)))), some (.int (iZ (a))), some (.int (iZ (b))), some (.int (iZ ((inP a b r (ouP a b r i) i t).length))), some (.int (iZ (i))), some (.int (iZ ((i + t : Nat)))), x7, x8, x9, x10, x11] [] := by
        intro q
        induction q with
        | zero =>
          intro t σ2 x7 x8 x9 x10 x11 hq hf2 h402 hlo2
          have hlen2 := inP_len a b r (ouP a b r i) i t
          refine V.run 0 54 rfl hn trivial ?_
          refine V.brT rfl ((iZ_lt (by omega) (by omega)).mpr (by omega)) ?_
          refine V.run 0 54 rfl hn trivial ?_
          have eL : inP a b r (ouP a b r i) i t = ouP a b r (i + 1) := by rw [ouP_succ, show t = r.length - i by omega]
          rw [eL] at h402 ⊢
          have := ih (i + 1) σ2 (some (.int (iZ (i + t : Nat)))) x7 x8 x9 x10 x11 (by omega) hf2 h402 hlo2
          rw [show ((i + 1 : Nat) : Int) = (i : Int) + 1 by omega, ← iZ_add] at this
          exact this
        | succ q ih2 =>
          intro t σ2 x7 x8 x9 x10 x11 hq hf2 h402 hlo2
          have hlen2 := inP_len a b r (ouP a b r i) i t
          have ht2 : told σ2 r := ht.fr hf2 (by decide)
          have e1 := ht2 i (by omega)
          have e2 := ht2 (i + t) (by omega)
          have b1 := hrb _ (getD_mem2 (r := r) (i := i) (by omega))
          have b2 := hrb _ (getD_mem2 (r := r) (i := i + t) (by omega))
          have e3 := ht2 (r.length - 1) (by omega)
          have b3 := hrb _ (getD_mem2 (r := r) (i := r.length - 1) (by omega))
          have ihk := fun (σ3 : Mem) (x7 x8 x9 x10 x11 : Option Value) => ih2 (t + 1) σ3 x7 x8 x9 x10 x11 (by omega)
          have hps := inP_succ a b r (ouP a b r i) i t
          unfold psP at hps
          have hacc2 : ∀ z ∈ inP a b r (ouP a b r i) i t, z < 169 := inP_all (fun x y h => okP_lt ha hb h) (ouP_all (fun x y h => okP_lt ha hb h) i) t
          generalize hacc : inP a b r (ouP a b r i) i t = acc at *
          have hokr : okP a b r (r.getD i 0 / 13 + r.getD (i + t) 0 / 13) (r.getD i 0 % 13 + r.getD (i + t) 0 % 13) = (decide (r.getD i 0 / 13 + r.getD (i + t) 0 / 13 ≤ a) && decide (r.getD i 0 % 13 + r.getD (i + t) 0 % 13 ≤ b) && !r.contains (13 * (r.getD i 0 / 13 + r.getD (i + t) 0 / 13) + (r.getD i 0 % 13 + r.getD (i + t) 0 % 13)) && (decide (r.length < 3) || decide (rkP (r.getD (r.length - 1) 0) < rkP (13 * (r.getD i 0 / 13 + r.getD (i + t) 0 / 13) + (r.getD i 0 % 13 + r.getD (i + t) 0 % 13))))) := by
            unfold okP
            rw [lastD_eq hr]
          obtain ⟨x, hx⟩ : ∃ x, x = r.getD i 0 / 13 + r.getD (i + t) 0 / 13 := ⟨_, rfl⟩
          obtain ⟨y, hy⟩ : ∃ y, y = r.getD i 0 % 13 + r.getD (i + t) 0 % 13 := ⟨_, rfl⟩
          rw [← hx, ← hy] at hps hokr
          have hx2 : x ≤ 24 := by omega
          have hy2 : y ≤ 24 := by omega
          generalize r.getD i 0 = u at *
          generalize r.getD (i + t) 0 = w at *
          generalize hlw : r.getD (r.length - 1) 0 = lw at *
          -- the step to the next pair
          have s200 : ∀ (σ3 : Mem) (c : Nat) (x7 x8 x9 x10 x11 : Option Value), c = (inP a b r (ouP a b r i) i (t + 1)).length → Fr [40] σ σ3 → (∀ c, c < (inP a b r (ouP a b r i) i (t + 1)).length → σ3 40 (400 * (r.length - 1) + c) = iZ ((inP a b r (ouP a b r i) i (t + 1)).getD c 0)) → (∀ c, c < 400 * (r.length - 1) → σ3 40 c = σ 40 c) → V M_X9_layPairs d n n none Q n (rho ca cb tr) σ3 200 [some (.ref 35), some (.int (iZ ((r.length - 1 : Nat)))), some (.int (iZ (a))), some (.int (iZ (b))), some (.int (iZ (c))), some (.int (iZ (i))), some (.int (iZ ((i + t : Nat)))), x7, x8, x9, x10, x11] [] := by
            intro σ3 c x7 x8 x9 x10 x11 hc hf3 h403 hlo3
            refine V.run 0 54 rfl hn trivial ?_
            have := ihk σ3 x7 x8 x9 x10 x11 hf3 h403 hlo3
            rw [← hc, show ((i + (t + 1) : Nat) : Int) = ((i + t : Nat) : Int) + 1 by omega, ← iZ_add] at this
            exact this
          -- at 177: may is known
          have s177 : ∀ (m : Bool) (x11 : Option Value), m = (okP a b r x y && !acc.contains (13 * x + y)) → V M_X9_layPairs d n n none Q n (rho ca cb tr) σ2 177 [some (.ref 35), some (.int (iZ ((r.length - 1 : Nat)))), some (.int (iZ (a))), some (.int (iZ (b))), some (.int (iZ (acc.length))), some (.int (iZ (i))), some (.int (iZ ((i + t : Nat)))), some (.int (iZ (x))), some (.int (iZ (y))), some (.int (iZ ((13 * x + y : Nat)))), some (.int ((if m = true then 1 else 0))), x11] [] := by
            intro m x11 hm
            rw [← hm] at hps
            refine V.run 0 54 rfl hn trivial ?_
            cases m with
            | true =>
              rw [if_pos rfl] at hps
              refine V.brF rfl (by decide) ?_
              have hin : iZ 400 * iZ ((r.length - 1 : Nat) : Int) + iZ (acc.length : Int) = iZ ((400 * (r.length - 1) + acc.length : Nat) : Int) := by
                rw [iZ_mul, iZ_add]
                exact iZ_pat (by omega)
              refine V.run 200 54 rfl hn ⟨by rw [hin]; exact in_N (n := 20000) (by omega) (by decide), trivial⟩ ?_
              try simp only [rf_told, rf_comes, rf_comeMany, rf_comeAt, rf_isSeen, rf_goals, rf_text, rf_taken, rf_roadRow, rf_dueNumber, rf_dueTimes, rf_above, rf_tree, rf_way, rf_signs, rf_spent, rf_read, rf_useMany, rf_lastUse, fi_9_0, fi_9_2, fi_9_3, fi_9_4, fi_9_6, fi_9_7, fi_9_14, fi_9_19, fi_9_24, fi_9_26, fi_9_27, fi_9_30]
              rw [hin, ix_N (by omega), iZ_add, show ((acc.length : Int) + 1) = ((acc.length + 1 : Nat) : Int) by omega]
              refine s200 _ _ _ _ _ _ _ (by rw [hps]; simp) (hf2.putT (by simp)) (fun c hc => ?_) (fun c hc => ?_)
              · rw [hps] at hc ⊢
                rw [List.length_append, List.length_singleton] at hc
                by_cases hq : c = acc.length
                · subst hq
                  rw [up_at]
                  simp
                · rw [up_nat (by omega), h402 c (by omega)]
                  congr 2
                  rw [List.getD_eq_getElem?_getD, List.getD_eq_getElem?_getD, List.getElem?_append_left (by omega)]
              · rw [up_nat (by omega)]
                exact hlo2 c hc
            | false =>
              rw [if_neg (by decide)] at hps
              refine V.brT rfl rfl ?_
              exact s200 σ2 _ _ _ _ _ _ (by rw [hps]) hf2 (by rw [hps]; exact h402) hlo2
          -- the scan
          have s134 : ∀ (o : Bool), o = okP a b r x y → ∀ (j k : Nat), k + j = acc.length → ∀ (m : Bool), m = (o && !(acc.take k).contains (13 * x + y)) → V M_X9_layPairs d n n none Q n (rho ca cb tr) σ2 134 [some (.ref 35), some (.int (iZ ((r.length - 1 : Nat)))), some (.int (iZ (a))), some (.int (iZ (b))), some (.int (iZ (acc.length))), some (.int (iZ (i))), some (.int (iZ ((i + t : Nat)))), some (.int (iZ (x))), some (.int (iZ (y))), some (.int (iZ ((13 * x + y : Nat)))), some (.int ((if m = true then 1 else 0))), some (.int (iZ (k)))] [] := by
            intro o ho j
            induction j with
            | zero =>
              intro k hk m hm
              refine V.run 0 54 rfl hn trivial ?_
              refine V.brT rfl ((iZ_le (by omega) (by omega)).mpr (by omega)) ?_
              refine s177 m _ ?_
              rw [hm, ho, show k = acc.length by omega, List.take_length]
            | succ j ih3 =>
              intro k hk m hm
              refine V.run 0 54 rfl hn trivial ?_
              refine V.brF rfl (fun q => by have := (iZ_le (by omega) (by omega)).mp q; omega) ?_
              refine V.run 0 54 rfl hn trivial ?_
              have hnx := contains_take (l := acc) (k := k) (z := 13 * x + y) (by omega)
              cases hm2 : m with
              | false =>
                rw [hm2] at hm
                refine V.brT rfl rfl ?_
                refine s177 false _ ?_
                cases o with
                | false => rw [← ho]; rfl
                | true =>
                  simp only [Bool.true_and] at hm
                  have h1 : (acc.take k).contains (13 * x + y) = true := by
                    cases hq : (acc.take k).contains (13 * x + y) with
                    | true => rfl
                    | false => rw [hq] at hm; cases hm
                  have h2 : acc.contains (13 * x + y) = true := by
                    simp only [List.contains_eq_mem, decide_eq_true_eq] at h1 ⊢
                    exact List.mem_of_mem_take h1
                  rw [h2]; simp
              | true =>
                rw [hm2] at hm
                refine V.brF rfl (by decide) ?_
                have hin : iZ 400 * iZ ((r.length - 1 : Nat) : Int) + iZ (k : Int) = iZ ((400 * (r.length - 1) + k : Nat) : Int) := by
                  rw [iZ_mul, iZ_add]
                  exact iZ_pat (by omega)
                refine V.run 0 54 rfl hn ⟨by rw [hin]; exact in_N (n := 20000) (by omega) (by decide), trivial⟩ ?_
                try simp only [rf_told, rf_comes, rf_comeMany, rf_comeAt, rf_isSeen, rf_goals, rf_text, rf_taken, rf_roadRow, rf_dueNumber, rf_dueTimes, rf_above, rf_tree, rf_way, rf_signs, rf_spent, rf_read, rf_useMany, rf_lastUse, fi_9_0, fi_9_2, fi_9_3, fi_9_4, fi_9_6, fi_9_7, fi_9_14, fi_9_19, fi_9_24, fi_9_26, fi_9_27, fi_9_30]
                rw [hin, ix_N (by omega), h402 k (by omega)]
                have hsm : acc.getD k 0 < 169 := hacc2 _ (getD_mem2 (by omega))
                refine V.br rfl (fun (c : iZ (acc.getD k 0) = iZ (13 * x + y : Nat)) => ?_) (fun (c : ¬ (iZ (acc.getD k 0) = iZ (13 * x + y : Nat))) => ?_)
                · rw [iZ_eq (by omega) (by omega)] at c
                  refine V.run 0 54 rfl hn trivial ?_
                  have := ih3 (k + 1) (by omega) false (by rw [hnx, show 13 * x + y = acc.getD k 0 by omega]; simp)
                  rw [show ((k + 1 : Nat) : Int) = (k : Int) + 1 by omega, ← iZ_add] at this
                  exact this
                · rw [iZ_eq (by omega) (by omega)] at c
                  refine V.run 0 54 rfl hn trivial ?_
                  refine V.run 0 54 rfl hn trivial ?_
                  have hne : (13 * x + y == acc.getD k 0) = false := beq_eq_false_iff_ne.mpr (by omega)
                  have := ih3 (k + 1) (by omega) true (by rw [hnx, hne, Bool.or_false]; exact hm)
                  rw [show ((k + 1 : Nat) : Int) = (k : Int) + 1 by omega, ← iZ_add] at this
                  exact this
          have s129 : ∀ (o : Bool) (x10 x11 : Option Value), o = okP a b r x y → V M_X9_layPairs d n n none Q n (rho ca cb tr) σ2 129 [some (.ref 35), some (.int (iZ ((r.length - 1 : Nat)))), some (.int (iZ (a))), some (.int (iZ (b))), some (.int (iZ (acc.length))), some (.int (iZ (i))), some (.int (iZ ((i + t : Nat)))), some (.int (iZ (x))), some (.int (iZ (y))), some (.int (iZ ((13 * x + y : Nat)))), x10, x11] [(.int ((if o = true then 1 else 0)))] := by
            intro o x10 x11 ho
            refine V.run 134 54 rfl hn trivial ?_
            exact s134 o ho acc.length 0 (by omega) o (by simp)
          refine V.run 0 54 rfl hn trivial ?_
          refine V.brF rfl (fun q => by have := (iZ_lt (by omega) (by omega)).mp q; omega) ?_
          refine V.run 0 54 rfl hn ⟨in_N (n := 44) (by omega) (by decide), by decide, in_N (n := 44) (by omega) (by decide), by decide, in_N (n := 44) (by omega) (by decide), by decide, in_N (n := 44) (by omega) (by decide), by decide, trivial⟩ ?_
          try simp only [rf_told, rf_comes, rf_comeMany, rf_comeAt, rf_isSeen, rf_goals, rf_text, rf_taken, rf_roadRow, rf_dueNumber, rf_dueTimes, rf_above, rf_tree, rf_way, rf_signs, rf_spent, rf_read, rf_useMany, rf_lastUse, fi_9_0, fi_9_2, fi_9_3, fi_9_4, fi_9_6, fi_9_7, fi_9_14, fi_9_19, fi_9_24, fi_9_26, fi_9_27, fi_9_30]
          rw [ix_N (by omega), ix_N (by omega), e1, e2, iZ_div (by omega) (by omega), iZ_div (by omega) (by omega), iZ_rem (by omega) (by omega), iZ_rem (by omega) (by omega), iZ_add, iZ_add, iZ_mul, iZ_add, show (u : Int) / 13 + (w : Int) / 13 = (x : Int) by omega, show (u : Int) % 13 + (w : Int) % 13 = (y : Int) by omega, show 13 * (x : Int) + (y : Int) = ((13 * x + y : Nat) : Int) by omega]
          have s128 : ∀ x10 x11, okP a b r x y = false → V M_X9_layPairs d n n none Q n (rho ca cb tr) σ2 128 [some (.ref 35), some (.int (iZ ((r.length - 1 : Nat)))), some (.int (iZ (a))), some (.int (iZ (b))), some (.int (iZ (acc.length))), some (.int (iZ (i))), some (.int (iZ ((i + t : Nat)))), some (.int (iZ (x))), some (.int (iZ (y))), some (.int (iZ ((13 * x + y : Nat)))), x10, x11] [] := by
            intro x10 x11 ho
            refine V.run 129 54 rfl hn trivial ?_
            exact s129 false x10 x11 ho.symm
          refine V.br rfl (fun (c1 : iZ a < iZ x) => ?_) (fun (c1 : ¬ (iZ a < iZ x)) => ?_)
          · rw [iZ_lt (by omega) (by omega)] at c1
            exact s128 _ _ (by rw [hokr, decide_eq_false (show ¬ x ≤ a by omega)]; rfl)
          · rw [iZ_lt (by omega) (by omega)] at c1
            rw [decide_eq_true (show x ≤ a by omega), Bool.true_and] at hokr
            refine V.run 0 54 rfl hn trivial ?_
            refine V.br rfl (fun (c2 : iZ b < iZ y) => ?_) (fun (c2 : ¬ (iZ b < iZ y)) => ?_)
            · rw [iZ_lt (by omega) (by omega)] at c2
              exact s128 _ _ (by rw [hokr, decide_eq_false (show ¬ y ≤ b by omega)]; rfl)
            · rw [iZ_lt (by omega) (by omega)] at c2
              rw [decide_eq_true (show y ≤ b by omega), Bool.true_and] at hokr
              refine V.run 0 54 rfl hn trivial ?_
              refine V.cv (lo := 54) (d' := d - 1) rfl rfl ok_X9_isTold lk_9_X9_isTold rfl rfl rfl hn (by omega) (Nat.le_refl _) (Nat.le_refl _) ((m_isTold hn (by omega) (fun h1 => ?_) (fun h0 => ?_)))
              · rw [told_iff hr ht2 hb2 (by omega)] at h1
                refine V.brF rfl (by decide) ?_
                exact s128 _ _ (by rw [hokr]; simp [h1])
              · have h0' : 13 * x + y ∉ r := fun q => by
                  obtain ⟨k, hk, e⟩ := (told_iff hr ht2 hb2 (by omega)).mpr q
                  exact h0 k hk e
                have hcn : r.contains (13 * x + y) = false := by
                  rw [List.contains_eq_mem]
                  exact decide_eq_false h0'
                rw [hcn, Bool.not_false, Bool.true_and] at hokr
                have s124 : ∀ x10 x11, okP a b r x y = true → V M_X9_layPairs d n n none Q n (rho ca cb tr) σ2 124 [some (.ref 35), some (.int (iZ ((r.length - 1 : Nat)))), some (.int (iZ (a))), some (.int (iZ (b))), some (.int (iZ (acc.length))), some (.int (iZ (i))), some (.int (iZ ((i + t : Nat)))), some (.int (iZ (x))), some (.int (iZ (y))), some (.int (iZ ((13 * x + y : Nat)))), x10, x11] [] := by
                  intro x10 x11 ho
                  refine V.run 0 54 rfl hn trivial ?_
                  exact s129 true x10 x11 ho.symm
                refine V.brT rfl rfl ?_
                refine V.run 0 54 rfl hn trivial ?_
                refine V.br rfl (fun (c3 : iZ (r.length - 1 : Nat) < iZ 2) => ?_) (fun (c3 : ¬ (iZ (r.length - 1 : Nat) < iZ 2)) => ?_)
                · rw [iZ_lt (by omega) (by omega)] at c3
                  exact s124 _ _ (by rw [hokr, decide_eq_true (show r.length < 3 by omega)]; rfl)
                · rw [iZ_lt (by omega) (by omega)] at c3
                  rw [decide_eq_false (show ¬ r.length < 3 by omega), Bool.false_or] at hokr
                  refine V.run 0 54 rfl hn trivial ?_
                  refine V.cv (lo := 54) (d' := d - 1) rfl rfl ok_X9_rankOf lk_9_X9_rankOf rfl rfl rfl hn (by omega) (Nat.le_refl _) (Nat.le_refl _) ((m_rankOf (by omega) ?_))
                  refine V.run 0 54 rfl hn ⟨in_N (n := 44) (by omega) (by decide), trivial⟩ ?_
                  try simp only [rf_told, rf_comes, rf_comeMany, rf_comeAt, rf_isSeen, rf_goals, rf_text, rf_taken, rf_roadRow, rf_dueNumber, rf_dueTimes, rf_above, rf_tree, rf_way, rf_signs, rf_spent, rf_read, rf_useMany, rf_lastUse, fi_9_0, fi_9_2, fi_9_3, fi_9_4, fi_9_6, fi_9_7, fi_9_14, fi_9_19, fi_9_24, fi_9_26, fi_9_27, fi_9_30]
                  rw [ix_N (by omega), e3]
                  refine V.cv (lo := 54) (d' := d - 1) rfl rfl ok_X9_rankOf lk_9_X9_rankOf rfl rfl rfl hn (by omega) (Nat.le_refl _) (Nat.le_refl _) ((m_rankOf (by omega) ?_))
                  refine V.run 0 54 rfl hn trivial ?_
                  have r1 : rkP (13 * x + y) < 100000 := by unfold rkP; omega
                  have r2 : rkP lw < 100000 := by unfold rkP; omega
                  refine V.br rfl (fun (c4 : iZ (rkP (13 * x + y)) ≤ iZ (rkP lw)) => ?_) (fun (c4 : ¬ (iZ (rkP (13 * x + y)) ≤ iZ (rkP lw))) => ?_)
                  · rw [iZ_le (by omega) (by omega)] at c4
                    exact s128 _ _ (by rw [hokr]; exact decide_eq_false (by omega))
                  · rw [iZ_le (by omega) (by omega)] at c4
                    exact s124 _ _ (by rw [hokr]; exact decide_eq_true (by omega))
      refine V.run 0 54 rfl hn trivial ?_
      refine V.brF rfl (fun q => by have := (iZ_lt (by omega) (by omega)).mp q; omega) ?_
      refine V.run 16 54 rfl hn trivial ?_
      exact inner (r.length - i) 0 σ1 x7 x8 x9 x10 x11 (by omega) hf h40 hlo
  exact key r.length 0 σ none none none none none none (by omega) Fr.rf (fun c hc => by simp [ouP] at hc) (fun _ _ => rfl)
end MDC
