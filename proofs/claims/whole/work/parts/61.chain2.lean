/-! ===== the class: a chain grows, and what it tells (two of them, written by program) ===== -/
def chnM (o : Nat) (σ : Mem) (kind : Nat) (c : List Nat) (pk : Nat → Nat × Nat) : Prop := chnN o σ kind c ∧ σ o 5 = iZ (dblN pk c.length) ∧ (∀ i, i < c.length → σ (o + 2) i = iZ (lastN pk i c.length)) ∧ (∀ i, i < c.length → σ (o + 3) i = iZ (useN pk i c.length)) ∧ isUse kind c pk c.length
theorem chnM.fr {o : Nat} {S : List Nat} {σ σ' : Mem} {kind : Nat} {c : List Nat} {pk : Nat → Nat × Nat} (h : chnM o σ kind c pk) (hf : Fr S σ σ') (h0 : o ∉ S) (h1 : o + 1 ∉ S) (h2 : o + 2 ∉ S) (h3 : o + 3 ∉ S) : chnM o σ' kind c pk := by
  unfold chnM chnN at *
  rw [hf o h0, hf (o + 1) h1, hf (o + 2) h2, hf (o + 3) h3]
  exact h
theorem use_zero {kind : Nat} {c : List Nat} {pk : Nat → Nat × Nat} {t : Nat} : ∀ {m : Nat}, isUse kind c pk m → m ≤ c.length → m ≤ t + 1 → useN pk t m = 0 ∧ lastN pk t m = 0
  | 0, _, _, _ => ⟨rfl, rfl⟩
  | m + 1, h, hm, ht => by
    have ih := use_zero (t := t) (m := m) (fun k k1 k2 => h k k1 (by omega)) (by omega) (by omega)
    show useN pk t m + _ = 0 ∧ (if _ then m else lastN pk t m) = 0
    by_cases e : m = 0
    · subst e
      exact ⟨rfl, rfl⟩
    · obtain ⟨p1, p2, -⟩ := h m (by omega) (by omega)
      rw [List.length_take] at p1 p2
      rw [if_neg e, if_neg (show ¬ (pk m).1 = t by omega), if_neg (show ¬ (pk m).2 = t by omega), if_neg (by omega)]
      exact ⟨by omega, ih.2⟩
theorem use_next {kind v : Nat} {c : List Nat} {pk : Nat → Nat × Nat} {q : Nat × Nat} (hne : 1 ≤ c.length) (h : isUse kind c pk c.length) (hq : pickI kind c v q.1 q.2) : isUse kind (c ++ [v]) (fun k => if k = c.length then q else pk k) (c.length + 1) := by
  intro k k1 k2
  by_cases e : k = c.length
  · subst e
    simp only [if_true]
    rw [List.take_left, getD_last]
    exact hq
  · simp only [if_neg e]
    rw [List.take_append_of_le_length (by omega), getD_app (by omega)]
    exact h k k1 (by omega)
theorem use_step (pk : Nat → Nat × Nat) (q : Nat × Nat) (t : Nat) {m : Nat} (hm : 1 ≤ m) : useN (fun k => if k = m then q else pk k) t (m + 1) = useN pk t m + ((if q.1 = t then 1 else 0) + (if q.2 = t then 1 else 0)) ∧ lastN (fun k => if k = m then q else pk k) t (m + 1) = (if q.1 = t ∨ q.2 = t then m else lastN pk t m) ∧ dblN (fun k => if k = m then q else pk k) (m + 1) = dblN pk m + (if q.1 = q.2 then 1 else 0) := by
  have hu := useN_up pk q t (m := m) (M := m) (Nat.le_refl m)
  show useN (fun k => if k = m then q else pk k) t m + _ = _ ∧ (if _ then m else lastN (fun k => if k = m then q else pk k) t m) = _ ∧ dblN (fun k => if k = m then q else pk k) m + _ = _
  rw [hu.1, hu.2.1, hu.2.2]
  simp only [if_true]
  refine ⟨?_, ?_, ?_⟩
  · rw [if_neg (by omega)]
  · by_cases e : q.1 = t ∨ q.2 = t
    · rw [if_pos ⟨by omega, e⟩, if_pos e]
    · rw [if_neg (fun z => e z.2), if_neg e]
  · by_cases e : q.1 = q.2
    · rw [if_pos ⟨by omega, e⟩, if_pos e]
    · rw [if_neg (fun z => e z.2), if_neg e]
/-- the two places make the step -/
def twoP (kind : Nat) (c : List Nat) (v a b : Nat) : Prop := pickI kind c v a b ∨ pickI kind c v b a
theorem fs_two {kind v a b : Nat} {c : List Nat} (hr : rowOk kind c) (ha : a < c.length) (hb : b < c.length) (hs : c.getD a 0 + c.getD b 0 = v) (hle : c.getD a 0 ≤ c.getD b 0) (hl : leT kind c a b) (hmx : ∀ t, t < c.length → validS kind c v (c.getD t 0) → c.getD t 0 ≤ c.getD a 0) : pickI kind c v a b := by
  have hv := (valid_leT hr ha hb hs hle).mp hl
  refine ⟨ha, hb, Or.inl ⟨⟨?_, hl.1, fun hk => ?_⟩, ?_⟩⟩
  · rw [Nat.min_eq_left hle, Nat.max_eq_right hle]; exact hs
  · rw [Nat.min_eq_left hle, Nat.max_eq_right hle]
    rcases hl.2 hk with q | q
    · left; rw [q]
    · exact Or.inr q
  · rw [Nat.min_eq_left hle]
    refine Or.inr ⟨hv, fun x hx => ?_⟩
    obtain ⟨t, ht, e⟩ := mem_getD hx.1
    rw [← e] at hx ⊢
    exact hmx t ht hx
theorem no_sum {kind v : Nat} {c : List Nat} (h : ∀ t, t < c.length → ¬ validS kind c v (c.getD t 0)) : isSX kind c v 0 := by
  refine Or.inl ⟨rfl, fun x hx => ?_⟩
  obtain ⟨t, ht, e⟩ := mem_getD hx.1
  rw [← e] at hx
  exact h t ht hx
theorem fd_two {v a b : Nat} {c : List Nat} (h0 : isSX 2 c v 0) (ha : a < c.length) (hb : b < c.length) (hs : c.getD b 0 = c.getD a 0 + v) (hmx : ∀ t, t < c.length → c.getD t 0 + v ∈ c → c.getD a 0 ≤ c.getD t 0) : pickI 2 c v b a := by
  refine ⟨hb, ha, Or.inr ⟨rfl, h0, hs, Or.inr ⟨⟨getD_mem2 hb, c.getD a 0, getD_mem2 ha, hs⟩, fun x hx => ?_⟩⟩⟩
  obtain ⟨hx1, w, hw, e⟩ := hx
  obtain ⟨t, ht, e2⟩ := mem_getD hw
  have := hmx t ht (by rw [e2, ← e]; exact hx1)
  omega
theorem no_diff {v : Nat} {c : List Nat} (h : ∀ t, t < c.length → c.getD t 0 + v ∉ c) : isDX c v 0 := by
  refine Or.inl ⟨rfl, fun x hx => ?_⟩
  obtain ⟨hx1, w, hw, e⟩ := hx
  obtain ⟨t, ht, e2⟩ := mem_getD hw
  exact h t ht (by rw [e2, ← e]; exact hx1)
section CD27
variable {d n ca cb tr : Nat} {Q : PQ} {σ : Mem}
theorem c_cclear_27 (hn : 54 ≤ n) {kind : Nat} (hk : kind ≤ 3) (hQ : ∀ σ' pk, chnM 27 σ' kind [] pk → Fr [27] σ σ' → Q none (rho ca cb tr) σ') : Mt M_X1_clear d n n [.ref 27, .int (iZ kind)] (rho ca cb tr) σ Q := by
  refine Mt.of rfl (by decide +kernel) tk_X1_clear (Nat.le_of_ble_eq_true rfl) ?_
  refine V.run 0 54 rfl hn trivial ?_
  refine V.ret (v := none) rfl rfl rfl rfl (hQ _ (fun _ => (0, 0)) ⟨⟨⟨by simp, fun x hx => (by cases hx), List.Pairwise.nil, fun _ x hx => (by cases hx)⟩, hk, ?_, ?_, fun i hi => by simp at hi⟩, up_at, fun i hi => by simp at hi, fun i hi => by simp at hi, fun k k1 k2 => by simp at k2⟩ (Fr.putT (Fr.putT (Fr.put (by simp)) (by simp)) (by simp)))
  · rw [up_nat (by decide), up_nat (by decide), up_at]
    rfl
  · rw [up_nat (by decide), up_at]
theorem c_csteps_27 (hn : 54 ≤ n) {kind : Nat} {c : List Nat} {pk : Nat → Nat × Nat} (hc : chnM 27 σ kind c pk) (hQ : Q (some (.int (iZ ((c.length : Int) - 1)))) (rho ca cb tr) σ) : Mt M_X1_steps d n n [.ref 27] (rho ca cb tr) σ Q := by
  refine Mt.of rfl (by decide +kernel) tk_X1_steps (Nat.le_of_ble_eq_true rfl) ?_
  refine V.run 0 54 rfl hn trivial ?_
  try simp only [rc_1_0, rc_1_1, rc_1_2, rc_1_3, rc_1_4, rc_1_5, rc_2_0, rc_2_1, rc_2_2, rc_6_0, rc_6_1, rc_6_2, rc_6_3, rc_7_0, rc_7_1, rc_7_2, rc_7_3, rc_12_0, rc_12_1, rc_12_2, rc_12_3, rc_18_0, rc_18_1, rc_20_0, rc_20_1, rc_22_0, rc_23_0, rc_25_0, rc_27_0, rc_27_1, rc_27_2, rc_31_0, rc_31_1, rc_31_2, rc_55_0, rc_55_1, rc_55_2, rc_1_6, rc_1_7, rc_23_2, fi_0_1, fi_0_2, fi_0_3, fi_1_3, fi_1_4, fi_1_5, fi_1_6, fi_1_7, fi_2_2, fi_3_3, fi_3_4, fi_3_5, fi_4_1, fi_5_4, fi_5_5, fi_5_6, fi_5_7, fi_5_8, fi_5_9, fi_6_1, fi_7_3, fi_7_4]
  rw [hc.1.2.2.1, iZ_sub]
  refine V.ret (v := some (.int (iZ ((c.length : Int) - 1)))) rfl rfl rfl rfl (hQ)
theorem c_cdbl_27 (hn : 54 ≤ n) {kind : Nat} {c : List Nat} {pk : Nat → Nat × Nat} (hc : chnM 27 σ kind c pk) (hQ : Q (some (.int (iZ (dblN pk c.length)))) (rho ca cb tr) σ) : Mt M_X1_doublings d n n [.ref 27] (rho ca cb tr) σ Q := by
  refine Mt.of rfl (by decide +kernel) tk_X1_doublings (Nat.le_of_ble_eq_true rfl) ?_
  refine V.run 0 54 rfl hn trivial ?_
  try simp only [rc_1_0, rc_1_1, rc_1_2, rc_1_3, rc_1_4, rc_1_5, rc_2_0, rc_2_1, rc_2_2, rc_6_0, rc_6_1, rc_6_2, rc_6_3, rc_7_0, rc_7_1, rc_7_2, rc_7_3, rc_12_0, rc_12_1, rc_12_2, rc_12_3, rc_18_0, rc_18_1, rc_20_0, rc_20_1, rc_22_0, rc_23_0, rc_25_0, rc_27_0, rc_27_1, rc_27_2, rc_31_0, rc_31_1, rc_31_2, rc_55_0, rc_55_1, rc_55_2, rc_1_6, rc_1_7, rc_23_2, fi_0_1, fi_0_2, fi_0_3, fi_1_3, fi_1_4, fi_1_5, fi_1_6, fi_1_7, fi_2_2, fi_3_3, fi_3_4, fi_3_5, fi_4_1, fi_5_4, fi_5_5, fi_5_6, fi_5_7, fi_5_8, fi_5_9, fi_6_1, fi_7_3, fi_7_4]
  rw [hc.2.1]
  refine V.ret (v := some (.int (iZ (dblN pk c.length)))) rfl rfl rfl rfl (hQ)
theorem c_cnum_27 (hn : 54 ≤ n) {kind : Nat} {c : List Nat} {z : Int} (hz : -2147483648 ≤ z ∧ z < 2147483648) (hc : chnN 27 σ kind c) (hQ : Q (some (.int (iZ (if 0 ≤ z ∧ z < c.length then (c.getD z.toNat 0 : Nat) else -4)))) (rho ca cb tr) σ) : Mt M_X1_numberAt d n n [.ref 27, .int (iZ z)] (rho ca cb tr) σ Q := by
  obtain ⟨r1, r2, r3, r4, r5⟩ := id hc
  have r5 : ∀ i, i < c.length → σ 28 i = iZ (c.getD i 0) := r5
  have hl := r1.1
  refine Mt.of rfl (by decide +kernel) tk_X1_numberAt (Nat.le_of_ble_eq_true rfl) ?_
  refine V.run 0 54 rfl hn trivial ?_
  have no : ¬ (0 ≤ z ∧ z < c.length) → V M_X1_numberAt d n n none Q n (rho ca cb tr) σ 21 [some (.ref 27), some (.int (iZ (z)))] [] := by
    intro h
    rw [if_neg h] at hQ
    refine V.run 0 54 rfl hn trivial ?_
    refine V.ret (v := some (.int (iZ (-4)))) rfl rfl rfl rfl (hQ)
  refine V.br rfl (fun (c1 : iZ z < 0) => ?_) (fun (c1 : ¬ (iZ z < 0)) => ?_)
  · rw [iZ_lt0 (by omega)] at c1
    exact no (by omega)
  · rw [iZ_lt0 (by omega)] at c1
    refine V.run 0 54 rfl hn trivial ?_
    try simp only [rc_1_0, rc_1_1, rc_1_2, rc_1_3, rc_1_4, rc_1_5, rc_2_0, rc_2_1, rc_2_2, rc_6_0, rc_6_1, rc_6_2, rc_6_3, rc_7_0, rc_7_1, rc_7_2, rc_7_3, rc_12_0, rc_12_1, rc_12_2, rc_12_3, rc_18_0, rc_18_1, rc_20_0, rc_20_1, rc_22_0, rc_23_0, rc_25_0, rc_27_0, rc_27_1, rc_27_2, rc_31_0, rc_31_1, rc_31_2, rc_55_0, rc_55_1, rc_55_2, rc_1_6, rc_1_7, rc_23_2, fi_0_1, fi_0_2, fi_0_3, fi_1_3, fi_1_4, fi_1_5, fi_1_6, fi_1_7, fi_2_2, fi_3_3, fi_3_4, fi_3_5, fi_4_1, fi_5_4, fi_5_5, fi_5_6, fi_5_7, fi_5_8, fi_5_9, fi_6_1, fi_7_3, fi_7_4]
    rw [r3]
    refine V.br rfl (fun (c2 : iZ c.length ≤ iZ z) => ?_) (fun (c2 : ¬ (iZ c.length ≤ iZ z)) => ?_)
    · rw [iZ_le (by omega) (by omega)] at c2
      exact no (by omega)
    · rw [iZ_le (by omega) (by omega)] at c2
      rw [if_pos (by omega)] at hQ
      refine V.run 0 54 rfl hn ⟨in_iZ (n := 64) (by omega) (by decide), trivial⟩ ?_
      try simp only [rc_1_0, rc_1_1, rc_1_2, rc_1_3, rc_1_4, rc_1_5, rc_2_0, rc_2_1, rc_2_2, rc_6_0, rc_6_1, rc_6_2, rc_6_3, rc_7_0, rc_7_1, rc_7_2, rc_7_3, rc_12_0, rc_12_1, rc_12_2, rc_12_3, rc_18_0, rc_18_1, rc_20_0, rc_20_1, rc_22_0, rc_23_0, rc_25_0, rc_27_0, rc_27_1, rc_27_2, rc_31_0, rc_31_1, rc_31_2, rc_55_0, rc_55_1, rc_55_2, rc_1_6, rc_1_7, rc_23_2, fi_0_1, fi_0_2, fi_0_3, fi_1_3, fi_1_4, fi_1_5, fi_1_6, fi_1_7, fi_2_2, fi_3_3, fi_3_4, fi_3_5, fi_4_1, fi_5_4, fi_5_5, fi_5_6, fi_5_7, fi_5_8, fi_5_9, fi_6_1, fi_7_3, fi_7_4]
      rw [ix_iZ (by omega), r5 _ (by omega)]
      refine V.ret (v := some (.int (iZ (c.getD z.toNat 0 : Nat)))) rfl rfl rfl rfl (hQ)
theorem c_cuses_27 (hn : 54 ≤ n) {kind : Nat} {c : List Nat} {pk : Nat → Nat × Nat} {z : Int} (hz : -2147483648 ≤ z ∧ z < 2147483648) (hc : chnM 27 σ kind c pk) (hQ : Q (some (.int (iZ (if 0 ≤ z ∧ z < c.length then (useN pk z.toNat c.length : Nat) else -4)))) (rho ca cb tr) σ) : Mt M_X1_usesAt d n n [.ref 27, .int (iZ z)] (rho ca cb tr) σ Q := by
  obtain ⟨⟨r1, r2, r3, r4, r5⟩, s1, s2, s3, s4⟩ := id hc
  have s3 : ∀ i, i < c.length → σ 30 i = iZ (useN pk i c.length) := s3
  have hl := r1.1
  refine Mt.of rfl (by decide +kernel) tk_X1_usesAt (Nat.le_of_ble_eq_true rfl) ?_
  refine V.run 0 54 rfl hn trivial ?_
  have no : ¬ (0 ≤ z ∧ z < c.length) → V M_X1_usesAt d n n none Q n (rho ca cb tr) σ 21 [some (.ref 27), some (.int (iZ (z)))] [] := by
    intro h
    rw [if_neg h] at hQ
    refine V.run 0 54 rfl hn trivial ?_
    refine V.ret (v := some (.int (iZ (-4)))) rfl rfl rfl rfl (hQ)
  refine V.br rfl (fun (c1 : iZ z < 0) => ?_) (fun (c1 : ¬ (iZ z < 0)) => ?_)
  · rw [iZ_lt0 (by omega)] at c1
    exact no (by omega)
  · rw [iZ_lt0 (by omega)] at c1
    refine V.run 0 54 rfl hn trivial ?_
    try simp only [rc_1_0, rc_1_1, rc_1_2, rc_1_3, rc_1_4, rc_1_5, rc_2_0, rc_2_1, rc_2_2, rc_6_0, rc_6_1, rc_6_2, rc_6_3, rc_7_0, rc_7_1, rc_7_2, rc_7_3, rc_12_0, rc_12_1, rc_12_2, rc_12_3, rc_18_0, rc_18_1, rc_20_0, rc_20_1, rc_22_0, rc_23_0, rc_25_0, rc_27_0, rc_27_1, rc_27_2, rc_31_0, rc_31_1, rc_31_2, rc_55_0, rc_55_1, rc_55_2, rc_1_6, rc_1_7, rc_23_2, fi_0_1, fi_0_2, fi_0_3, fi_1_3, fi_1_4, fi_1_5, fi_1_6, fi_1_7, fi_2_2, fi_3_3, fi_3_4, fi_3_5, fi_4_1, fi_5_4, fi_5_5, fi_5_6, fi_5_7, fi_5_8, fi_5_9, fi_6_1, fi_7_3, fi_7_4]
    rw [r3]
    refine V.br rfl (fun (c2 : iZ c.length ≤ iZ z) => ?_) (fun (c2 : ¬ (iZ c.length ≤ iZ z)) => ?_)
    · rw [iZ_le (by omega) (by omega)] at c2
      exact no (by omega)
    · rw [iZ_le (by omega) (by omega)] at c2
      rw [if_pos (by omega)] at hQ
      refine V.run 0 54 rfl hn ⟨in_iZ (n := 64) (by omega) (by decide), trivial⟩ ?_
      try simp only [rc_1_0, rc_1_1, rc_1_2, rc_1_3, rc_1_4, rc_1_5, rc_2_0, rc_2_1, rc_2_2, rc_6_0, rc_6_1, rc_6_2, rc_6_3, rc_7_0, rc_7_1, rc_7_2, rc_7_3, rc_12_0, rc_12_1, rc_12_2, rc_12_3, rc_18_0, rc_18_1, rc_20_0, rc_20_1, rc_22_0, rc_23_0, rc_25_0, rc_27_0, rc_27_1, rc_27_2, rc_31_0, rc_31_1, rc_31_2, rc_55_0, rc_55_1, rc_55_2, rc_1_6, rc_1_7, rc_23_2, fi_0_1, fi_0_2, fi_0_3, fi_1_3, fi_1_4, fi_1_5, fi_1_6, fi_1_7, fi_2_2, fi_3_3, fi_3_4, fi_3_5, fi_4_1, fi_5_4, fi_5_5, fi_5_6, fi_5_7, fi_5_8, fi_5_9, fi_6_1, fi_7_3, fi_7_4]
      rw [ix_iZ (by omega), s3 _ (by omega)]
      refine V.ret (v := some (.int (iZ (useN pk z.toNat c.length : Nat)))) rfl rfl rfl rfl (hQ)
theorem c_clatest_27 (hn : 54 ≤ n) (hd : 1 ≤ d) {kind : Nat} {c : List Nat} (hne : 1 ≤ c.length) (hc : chnN 27 σ kind c) (hQ : Q (some (.int (iZ (lastD c)))) (rho ca cb tr) σ) : Mt M_X1_latest d n n [.ref 27] (rho ca cb tr) σ Q := by
  obtain ⟨r1, r2, r3, r4, r5⟩ := id hc
  have hl := r1.1
  have hb := r1.2.1 _ (getD_mem2 (r := c) (i := c.length - 1) (by omega))
  rw [← lastD_eq (by omega)] at hb
  refine Mt.of rfl (by decide +kernel) tk_X1_latest (Nat.le_of_ble_eq_true rfl) ?_
  refine V.run 0 54 rfl hn trivial ?_
  try simp only [rc_1_0, rc_1_1, rc_1_2, rc_1_3, rc_1_4, rc_1_5, rc_2_0, rc_2_1, rc_2_2, rc_6_0, rc_6_1, rc_6_2, rc_6_3, rc_7_0, rc_7_1, rc_7_2, rc_7_3, rc_12_0, rc_12_1, rc_12_2, rc_12_3, rc_18_0, rc_18_1, rc_20_0, rc_20_1, rc_22_0, rc_23_0, rc_25_0, rc_27_0, rc_27_1, rc_27_2, rc_31_0, rc_31_1, rc_31_2, rc_55_0, rc_55_1, rc_55_2, rc_1_6, rc_1_7, rc_23_2, fi_0_1, fi_0_2, fi_0_3, fi_1_3, fi_1_4, fi_1_5, fi_1_6, fi_1_7, fi_2_2, fi_3_3, fi_3_4, fi_3_5, fi_4_1, fi_5_4, fi_5_5, fi_5_6, fi_5_7, fi_5_8, fi_5_9, fi_6_1, fi_7_3, fi_7_4]
  rw [r3, iZ_sub]
  refine V.cv (lo := 54) (d' := d - 1) rfl rfl ok_X1_numberAt lk_1_X1_numberAt rfl rfl rfl hn (by omega) (Nat.le_refl _) (Nat.le_refl _) ((c_cnum_27 hn (by omega) hc ?_))
  rw [if_pos (by omega), show ((c.length : Int) - 1).toNat = c.length - 1 by omega, ← lastD_eq (by omega)]
  refine V.max rfl rfl lm_1_max rfl (by omega) (Nat.le_refl _) ?_
  have e : (if iZ 1 < iZ (lastD c : Int) then iZ (lastD c : Int) else iZ 1) = iZ (lastD c : Int) := by
    by_cases h : 1 < lastD c
    · rw [if_pos ((iZ_lt (by omega) (by omega)).mpr (by omega))]
    · rw [if_neg (fun z => by have := (iZ_lt (by omega) (by omega)).mp z; omega)]
      exact iZ_pat (by omega)
  rw [e]
  refine V.ret (v := some (.int (iZ (lastD c : Int)))) rfl rfl rfl rfl (hQ)
theorem c_cappend_27 (hn : 54 ≤ n) {v L : Nat} (hL : L < 64) (h3 : σ 27 3 = iZ L) (hQ : Q (some (.int 1)) (rho ca cb tr) (up (up (up (up σ 28 L (iZ v)) 29 L (iZ 0)) 30 L (iZ 0)) 27 3 (iZ (L + 1)))) : Mt M_X1_append d n n [.ref 27, .int (iZ v)] (rho ca cb tr) σ Q := by
  have e1 : ∀ (σ : Mem) (i : Nat) (x : Int32), up σ 28 i x 27 = σ 27 := fun σ i x => up_ne (by decide)
  have e2 : ∀ (σ : Mem) (i : Nat) (x : Int32), up σ 29 i x 27 = σ 27 := fun σ i x => up_ne (by decide)
  have e3 : ∀ (σ : Mem) (i : Nat) (x : Int32), up σ 30 i x 27 = σ 27 := fun σ i x => up_ne (by decide)
  refine Mt.of rfl (by decide +kernel) tk_X1_append (Nat.le_of_ble_eq_true rfl) ?_
  refine V.run 0 54 rfl hn trivial ?_
  try simp only [rc_1_0, rc_1_1, rc_1_2, rc_1_3, rc_1_4, rc_1_5, rc_2_0, rc_2_1, rc_2_2, rc_6_0, rc_6_1, rc_6_2, rc_6_3, rc_7_0, rc_7_1, rc_7_2, rc_7_3, rc_12_0, rc_12_1, rc_12_2, rc_12_3, rc_18_0, rc_18_1, rc_20_0, rc_20_1, rc_22_0, rc_23_0, rc_25_0, rc_27_0, rc_27_1, rc_27_2, rc_31_0, rc_31_1, rc_31_2, rc_55_0, rc_55_1, rc_55_2, rc_1_6, rc_1_7, rc_23_2, fi_0_1, fi_0_2, fi_0_3, fi_1_3, fi_1_4, fi_1_5, fi_1_6, fi_1_7, fi_2_2, fi_3_3, fi_3_4, fi_3_5, fi_4_1, fi_5_4, fi_5_5, fi_5_6, fi_5_7, fi_5_8, fi_5_9, fi_6_1, fi_7_3, fi_7_4]
  rw [h3]
  refine V.brT rfl ((iZ_lt (by omega) (by omega)).mpr (by omega)) ?_
  have p1 : vp_in (iZ (L : Int)) 64 := in_N (by omega) (by decide)
  refine V.run 0 54 rfl hn ⟨by (simp only [rc_27_0, rc_27_1, rc_27_2, fi_1_3, e1, e2, e3, h3]; exact p1), by (simp only [rc_27_0, rc_27_1, rc_27_2, fi_1_3, e1, e2, e3, h3]; exact p1), by (simp only [rc_27_0, rc_27_1, rc_27_2, fi_1_3, e1, e2, e3, h3]; exact p1), trivial⟩ ?_
  try simp only [rc_1_0, rc_1_1, rc_1_2, rc_1_3, rc_1_4, rc_1_5, rc_2_0, rc_2_1, rc_2_2, rc_6_0, rc_6_1, rc_6_2, rc_6_3, rc_7_0, rc_7_1, rc_7_2, rc_7_3, rc_12_0, rc_12_1, rc_12_2, rc_12_3, rc_18_0, rc_18_1, rc_20_0, rc_20_1, rc_22_0, rc_23_0, rc_25_0, rc_27_0, rc_27_1, rc_27_2, rc_31_0, rc_31_1, rc_31_2, rc_55_0, rc_55_1, rc_55_2, rc_1_6, rc_1_7, rc_23_2, fi_0_1, fi_0_2, fi_0_3, fi_1_3, fi_1_4, fi_1_5, fi_1_6, fi_1_7, fi_2_2, fi_3_3, fi_3_4, fi_3_5, fi_4_1, fi_5_4, fi_5_5, fi_5_6, fi_5_7, fi_5_8, fi_5_9, fi_6_1, fi_7_3, fi_7_4]
  simp only [e1, e2, e3, h3]
  rw [ix_N (by omega), iZ_add]
  refine V.ret (v := some (.int 1)) rfl rfl ⟨rfl, Or.inr rfl⟩ rfl (hQ)
theorem c_cuse_27 (hn : 54 ≤ n) {a b s : Nat} (hs : s < 64) (ha : a < s) (hb : b < s) (h6 : σ 27 6 = iZ a) (h7 : σ 27 7 = iZ b) (hQ : ∀ σ', (∀ t, σ' 29 t = if a = t ∨ b = t then iZ s else σ 29 t) → (∀ t, σ' 30 t = σ 30 t + iZ (((if a = t then 1 else 0) + (if b = t then 1 else 0) : Nat) : Int)) → σ' 27 5 = σ 27 5 + iZ ((if a = b then 1 else 0 : Nat) : Int) → Fr [27, 29, 30] σ σ' → (∀ j, j ≠ 5 → σ' 27 j = σ 27 j) → Q (some (.int 1)) (rho ca cb tr) σ') : Mt M_X1_useBoth d n n [.ref 27, .int (iZ s)] (rho ca cb tr) σ Q := by
  have e2 : ∀ (σ : Mem) (i : Nat) (x : Int32), up σ 29 i x 27 = σ 27 := fun σ i x => up_ne (by decide)
  have e3 : ∀ (σ : Mem) (i : Nat) (x : Int32), up σ 30 i x 27 = σ 27 := fun σ i x => up_ne (by decide)
  have e4 : ∀ (σ : Mem) (i : Nat) (x : Int32), up σ 29 i x 30 = σ 30 := fun σ i x => up_ne (by decide)
  refine Mt.of rfl (by decide +kernel) tk_X1_useBoth (Nat.le_of_ble_eq_true rfl) ?_
  refine V.run 0 54 rfl hn trivial ?_
  try simp only [rc_1_0, rc_1_1, rc_1_2, rc_1_3, rc_1_4, rc_1_5, rc_2_0, rc_2_1, rc_2_2, rc_6_0, rc_6_1, rc_6_2, rc_6_3, rc_7_0, rc_7_1, rc_7_2, rc_7_3, rc_12_0, rc_12_1, rc_12_2, rc_12_3, rc_18_0, rc_18_1, rc_20_0, rc_20_1, rc_22_0, rc_23_0, rc_25_0, rc_27_0, rc_27_1, rc_27_2, rc_31_0, rc_31_1, rc_31_2, rc_55_0, rc_55_1, rc_55_2, rc_1_6, rc_1_7, rc_23_2, fi_0_1, fi_0_2, fi_0_3, fi_1_3, fi_1_4, fi_1_5, fi_1_6, fi_1_7, fi_2_2, fi_3_3, fi_3_4, fi_3_5, fi_4_1, fi_5_4, fi_5_5, fi_5_6, fi_5_7, fi_5_8, fi_5_9, fi_6_1, fi_7_3, fi_7_4]
  rw [h6]
  refine V.brF rfl (fun q => by have := (iZ_lt0 (by omega)).mp q; omega) ?_
  refine V.run 0 54 rfl hn trivial ?_
  try simp only [rc_1_0, rc_1_1, rc_1_2, rc_1_3, rc_1_4, rc_1_5, rc_2_0, rc_2_1, rc_2_2, rc_6_0, rc_6_1, rc_6_2, rc_6_3, rc_7_0, rc_7_1, rc_7_2, rc_7_3, rc_12_0, rc_12_1, rc_12_2, rc_12_3, rc_18_0, rc_18_1, rc_20_0, rc_20_1, rc_22_0, rc_23_0, rc_25_0, rc_27_0, rc_27_1, rc_27_2, rc_31_0, rc_31_1, rc_31_2, rc_55_0, rc_55_1, rc_55_2, rc_1_6, rc_1_7, rc_23_2, fi_0_1, fi_0_2, fi_0_3, fi_1_3, fi_1_4, fi_1_5, fi_1_6, fi_1_7, fi_2_2, fi_3_3, fi_3_4, fi_3_5, fi_4_1, fi_5_4, fi_5_5, fi_5_6, fi_5_7, fi_5_8, fi_5_9, fi_6_1, fi_7_3, fi_7_4]
  rw [h6]
  refine V.brF rfl (fun q => by have := (iZ_le (by omega) (by omega)).mp q; omega) ?_
  refine V.run 0 54 rfl hn trivial ?_
  try simp only [rc_1_0, rc_1_1, rc_1_2, rc_1_3, rc_1_4, rc_1_5, rc_2_0, rc_2_1, rc_2_2, rc_6_0, rc_6_1, rc_6_2, rc_6_3, rc_7_0, rc_7_1, rc_7_2, rc_7_3, rc_12_0, rc_12_1, rc_12_2, rc_12_3, rc_18_0, rc_18_1, rc_20_0, rc_20_1, rc_22_0, rc_23_0, rc_25_0, rc_27_0, rc_27_1, rc_27_2, rc_31_0, rc_31_1, rc_31_2, rc_55_0, rc_55_1, rc_55_2, rc_1_6, rc_1_7, rc_23_2, fi_0_1, fi_0_2, fi_0_3, fi_1_3, fi_1_4, fi_1_5, fi_1_6, fi_1_7, fi_2_2, fi_3_3, fi_3_4, fi_3_5, fi_4_1, fi_5_4, fi_5_5, fi_5_6, fi_5_7, fi_5_8, fi_5_9, fi_6_1, fi_7_3, fi_7_4]
  rw [h7]
  refine V.brF rfl (fun q => by have := (iZ_lt0 (by omega)).mp q; omega) ?_
  refine V.run 0 54 rfl hn trivial ?_
  try simp only [rc_1_0, rc_1_1, rc_1_2, rc_1_3, rc_1_4, rc_1_5, rc_2_0, rc_2_1, rc_2_2, rc_6_0, rc_6_1, rc_6_2, rc_6_3, rc_7_0, rc_7_1, rc_7_2, rc_7_3, rc_12_0, rc_12_1, rc_12_2, rc_12_3, rc_18_0, rc_18_1, rc_20_0, rc_20_1, rc_22_0, rc_23_0, rc_25_0, rc_27_0, rc_27_1, rc_27_2, rc_31_0, rc_31_1, rc_31_2, rc_55_0, rc_55_1, rc_55_2, rc_1_6, rc_1_7, rc_23_2, fi_0_1, fi_0_2, fi_0_3, fi_1_3, fi_1_4, fi_1_5, fi_1_6, fi_1_7, fi_2_2, fi_3_3, fi_3_4, fi_3_5, fi_4_1, fi_5_4, fi_5_5, fi_5_6, fi_5_7, fi_5_8, fi_5_9, fi_6_1, fi_7_3, fi_7_4]
  rw [h7]
  refine V.brT rfl ((iZ_lt (by omega) (by omega)).mpr (by omega)) ?_
  have p1 : vp_in (iZ (a : Int)) 64 := in_N (by omega) (by decide)
  have p2 : vp_in (iZ (b : Int)) 64 := in_N (by omega) (by decide)
  have k91 : ∀ σ1 : Mem, (∀ t, σ1 29 t = if a = t ∨ b = t then iZ s else σ 29 t) → (∀ t, σ1 30 t = σ 30 t + iZ (((if a = t then 1 else 0) + (if b = t then 1 else 0) : Nat) : Int)) → σ1 27 = σ 27 → Fr [27, 29, 30] σ σ1 → V M_X1_useBoth d n n none Q n (rho ca cb tr) σ1 91 [some (.ref 27), some (.int (iZ (s)))] [(.int (iZ (b))), (.int (iZ (a))), (.int ((σ 27 5))), (.ref 27)] := by
    intro σ1 g2 g3 g1 gf
    refine V.br rfl (fun (c : iZ a = iZ b) => ?_) (fun (c : ¬ (iZ a = iZ b)) => ?_)
    · rw [iZ_eq (by omega) (by omega)] at c
      refine V.run 0 54 rfl hn trivial ?_
      refine V.run 0 54 rfl hn trivial ?_
      try simp only [rc_1_0, rc_1_1, rc_1_2, rc_1_3, rc_1_4, rc_1_5, rc_2_0, rc_2_1, rc_2_2, rc_6_0, rc_6_1, rc_6_2, rc_6_3, rc_7_0, rc_7_1, rc_7_2, rc_7_3, rc_12_0, rc_12_1, rc_12_2, rc_12_3, rc_18_0, rc_18_1, rc_20_0, rc_20_1, rc_22_0, rc_23_0, rc_25_0, rc_27_0, rc_27_1, rc_27_2, rc_31_0, rc_31_1, rc_31_2, rc_55_0, rc_55_1, rc_55_2, rc_1_6, rc_1_7, rc_23_2, fi_0_1, fi_0_2, fi_0_3, fi_1_3, fi_1_4, fi_1_5, fi_1_6, fi_1_7, fi_2_2, fi_3_3, fi_3_4, fi_3_5, fi_4_1, fi_5_4, fi_5_5, fi_5_6, fi_5_7, fi_5_8, fi_5_9, fi_6_1, fi_7_3, fi_7_4]
      refine V.ret (v := some (.int 1)) rfl rfl ⟨rfl, Or.inr rfl⟩ rfl (hQ _ (fun t => ?_) (fun t => ?_) ?_ (Fr.putT gf (by simp)) (fun j hj => ?_))
      · rw [up_ne (by decide)]; exact g2 t
      · rw [up_ne (by decide)]; exact g3 t
      · rw [up_at, if_pos (show a = b by omega)]
        rfl
      · rw [up_nat hj, g1]
    · rw [iZ_eq (by omega) (by omega)] at c
      refine V.run 0 54 rfl hn trivial ?_
      try simp only [rc_1_0, rc_1_1, rc_1_2, rc_1_3, rc_1_4, rc_1_5, rc_2_0, rc_2_1, rc_2_2, rc_6_0, rc_6_1, rc_6_2, rc_6_3, rc_7_0, rc_7_1, rc_7_2, rc_7_3, rc_12_0, rc_12_1, rc_12_2, rc_12_3, rc_18_0, rc_18_1, rc_20_0, rc_20_1, rc_22_0, rc_23_0, rc_25_0, rc_27_0, rc_27_1, rc_27_2, rc_31_0, rc_31_1, rc_31_2, rc_55_0, rc_55_1, rc_55_2, rc_1_6, rc_1_7, rc_23_2, fi_0_1, fi_0_2, fi_0_3, fi_1_3, fi_1_4, fi_1_5, fi_1_6, fi_1_7, fi_2_2, fi_3_3, fi_3_4, fi_3_5, fi_4_1, fi_5_4, fi_5_5, fi_5_6, fi_5_7, fi_5_8, fi_5_9, fi_6_1, fi_7_3, fi_7_4]
      refine V.ret (v := some (.int 1)) rfl rfl ⟨rfl, Or.inr rfl⟩ rfl (hQ _ (fun t => ?_) (fun t => ?_) ?_ (Fr.putT gf (by simp)) (fun j hj => ?_))
      · rw [up_ne (by decide)]; exact g2 t
      · rw [up_ne (by decide)]; exact g3 t
      · rw [up_at, if_neg (show ¬ a = b by omega)]
        rfl
      · rw [up_nat hj, g1]
  refine V.run 0 54 rfl hn ⟨by (simp only [rc_27_0, rc_27_1, rc_27_2, fi_1_6, fi_1_7, e2, e3, h6, h7]; exact p1), by (simp only [rc_27_0, rc_27_1, rc_27_2, fi_1_6, fi_1_7, e2, e3, h6, h7]; exact p1), by (simp only [rc_27_0, rc_27_1, rc_27_2, fi_1_6, fi_1_7, e2, e3, h6, h7]; exact p1), by (simp only [rc_27_0, rc_27_1, rc_27_2, fi_1_6, fi_1_7, e2, e3, h6, h7]; exact p2), by (simp only [rc_27_0, rc_27_1, rc_27_2, fi_1_6, fi_1_7, e2, e3, h6, h7]; exact p2), by (simp only [rc_27_0, rc_27_1, rc_27_2, fi_1_6, fi_1_7, e2, e3, h6, h7]; exact p2), trivial⟩ ?_
  try simp only [rc_1_0, rc_1_1, rc_1_2, rc_1_3, rc_1_4, rc_1_5, rc_2_0, rc_2_1, rc_2_2, rc_6_0, rc_6_1, rc_6_2, rc_6_3, rc_7_0, rc_7_1, rc_7_2, rc_7_3, rc_12_0, rc_12_1, rc_12_2, rc_12_3, rc_18_0, rc_18_1, rc_20_0, rc_20_1, rc_22_0, rc_23_0, rc_25_0, rc_27_0, rc_27_1, rc_27_2, rc_31_0, rc_31_1, rc_31_2, rc_55_0, rc_55_1, rc_55_2, rc_1_6, rc_1_7, rc_23_2, fi_0_1, fi_0_2, fi_0_3, fi_1_3, fi_1_4, fi_1_5, fi_1_6, fi_1_7, fi_2_2, fi_3_3, fi_3_4, fi_3_5, fi_4_1, fi_5_4, fi_5_5, fi_5_6, fi_5_7, fi_5_8, fi_5_9, fi_6_1, fi_7_3, fi_7_4]
  simp only [e2, e3, e4, h6, h7]
  rw [ix_N (by omega), ix_N (by omega)]
  refine k91 _ (fun t => ?_) (fun t => ?_) ?_ (Fr.putT (Fr.putT (Fr.putT (Fr.put (by simp)) (by simp)) (by simp)) (by simp))
  · rw [up_ne (by decide)]
    by_cases e : t = b
    · subst e
      rw [up_at, if_pos (Or.inr rfl)]
    · rw [up_nat e, up_ne (by decide)]
      by_cases e5 : t = a
      · subst e5
        rw [up_at, if_pos (Or.inl rfl)]
      · rw [up_nat e5, if_neg (fun z => by rcases z with z | z <;> omega)]
  · by_cases e : t = b
    · subst e
      rw [up_at]
      by_cases e5 : t = a
      · subst e5
        rw [up_at, if_pos rfl, Int32.add_assoc]
        rfl
      · rw [up_nat e5, e4, if_neg (fun z => e5 z.symm), if_pos rfl]
        rfl
    · rw [up_nat e, e4]
      by_cases e5 : t = a
      · subst e5
        rw [up_at, if_pos rfl, if_neg (fun z => e z.symm)]
        rfl
      · rw [up_nat e5, e4, if_neg (fun z => e5 z.symm), if_neg (fun z => e z.symm)]
        exact (Int32.add_zero _).symm
  · rw [e3, e2, e3, e2]
end CD27
section CD31
variable {d n ca cb tr : Nat} {Q : PQ} {σ : Mem}
theorem c_cclear_31 (hn : 54 ≤ n) {kind : Nat} (hk : kind ≤ 3) (hQ : ∀ σ' pk, chnM 31 σ' kind [] pk → Fr [31] σ σ' → Q none (rho ca cb tr) σ') : Mt M_X1_clear d n n [.ref 31, .int (iZ kind)] (rho ca cb tr) σ Q := by
  refine Mt.of rfl (by decide +kernel) tk_X1_clear (Nat.le_of_ble_eq_true rfl) ?_
  refine V.run 0 54 rfl hn trivial ?_
  refine V.ret (v := none) rfl rfl rfl rfl (hQ _ (fun _ => (0, 0)) ⟨⟨⟨by simp, fun x hx => (by cases hx), List.Pairwise.nil, fun _ x hx => (by cases hx)⟩, hk, ?_, ?_, fun i hi => by simp at hi⟩, up_at, fun i hi => by simp at hi, fun i hi => by simp at hi, fun k k1 k2 => by simp at k2⟩ (Fr.putT (Fr.putT (Fr.put (by simp)) (by simp)) (by simp)))
  · rw [up_nat (by decide), up_nat (by decide), up_at]
    rfl
  · rw [up_nat (by decide), up_at]
theorem c_csteps_31 (hn : 54 ≤ n) {kind : Nat} {c : List Nat} {pk : Nat → Nat × Nat} (hc : chnM 31 σ kind c pk) (hQ : Q (some (.int (iZ ((c.length : Int) - 1)))) (rho ca cb tr) σ) : Mt M_X1_steps d n n [.ref 31] (rho ca cb tr) σ Q := by
  refine Mt.of rfl (by decide +kernel) tk_X1_steps (Nat.le_of_ble_eq_true rfl) ?_
  refine V.run 0 54 rfl hn trivial ?_
  try simp only [rc_1_0, rc_1_1, rc_1_2, rc_1_3, rc_1_4, rc_1_5, rc_2_0, rc_2_1, rc_2_2, rc_6_0, rc_6_1, rc_6_2, rc_6_3, rc_7_0, rc_7_1, rc_7_2, rc_7_3, rc_12_0, rc_12_1, rc_12_2, rc_12_3, rc_18_0, rc_18_1, rc_20_0, rc_20_1, rc_22_0, rc_23_0, rc_25_0, rc_27_0, rc_27_1, rc_27_2, rc_31_0, rc_31_1, rc_31_2, rc_55_0, rc_55_1, rc_55_2, rc_1_6, rc_1_7, rc_23_2, fi_0_1, fi_0_2, fi_0_3, fi_1_3, fi_1_4, fi_1_5, fi_1_6, fi_1_7, fi_2_2, fi_3_3, fi_3_4, fi_3_5, fi_4_1, fi_5_4, fi_5_5, fi_5_6, fi_5_7, fi_5_8, fi_5_9, fi_6_1, fi_7_3, fi_7_4]
  rw [hc.1.2.2.1, iZ_sub]
  refine V.ret (v := some (.int (iZ ((c.length : Int) - 1)))) rfl rfl rfl rfl (hQ)
theorem c_cdbl_31 (hn : 54 ≤ n) {kind : Nat} {c : List Nat} {pk : Nat → Nat × Nat} (hc : chnM 31 σ kind c pk) (hQ : Q (some (.int (iZ (dblN pk c.length)))) (rho ca cb tr) σ) : Mt M_X1_doublings d n n [.ref 31] (rho ca cb tr) σ Q := by
  refine Mt.of rfl (by decide +kernel) tk_X1_doublings (Nat.le_of_ble_eq_true rfl) ?_
  refine V.run 0 54 rfl hn trivial ?_
  try simp only [rc_1_0, rc_1_1, rc_1_2, rc_1_3, rc_1_4, rc_1_5, rc_2_0, rc_2_1, rc_2_2, rc_6_0, rc_6_1, rc_6_2, rc_6_3, rc_7_0, rc_7_1, rc_7_2, rc_7_3, rc_12_0, rc_12_1, rc_12_2, rc_12_3, rc_18_0, rc_18_1, rc_20_0, rc_20_1, rc_22_0, rc_23_0, rc_25_0, rc_27_0, rc_27_1, rc_27_2, rc_31_0, rc_31_1, rc_31_2, rc_55_0, rc_55_1, rc_55_2, rc_1_6, rc_1_7, rc_23_2, fi_0_1, fi_0_2, fi_0_3, fi_1_3, fi_1_4, fi_1_5, fi_1_6, fi_1_7, fi_2_2, fi_3_3, fi_3_4, fi_3_5, fi_4_1, fi_5_4, fi_5_5, fi_5_6, fi_5_7, fi_5_8, fi_5_9, fi_6_1, fi_7_3, fi_7_4]
  rw [hc.2.1]
  refine V.ret (v := some (.int (iZ (dblN pk c.length)))) rfl rfl rfl rfl (hQ)
theorem c_cnum_31 (hn : 54 ≤ n) {kind : Nat} {c : List Nat} {z : Int} (hz : -2147483648 ≤ z ∧ z < 2147483648) (hc : chnN 31 σ kind c) (hQ : Q (some (.int (iZ (if 0 ≤ z ∧ z < c.length then (c.getD z.toNat 0 : Nat) else -4)))) (rho ca cb tr) σ) : Mt M_X1_numberAt d n n [.ref 31, .int (iZ z)] (rho ca cb tr) σ Q := by
  obtain ⟨r1, r2, r3, r4, r5⟩ := id hc
  have r5 : ∀ i, i < c.length → σ 32 i = iZ (c.getD i 0) := r5
  have hl := r1.1
  refine Mt.of rfl (by decide +kernel) tk_X1_numberAt (Nat.le_of_ble_eq_true rfl) ?_
  refine V.run 0 54 rfl hn trivial ?_
  have no : ¬ (0 ≤ z ∧ z < c.length) → V M_X1_numberAt d n n none Q n (rho ca cb tr) σ 21 [some (.ref 31), some (.int (iZ (z)))] [] := by
    intro h
    rw [if_neg h] at hQ
    refine V.run 0 54 rfl hn trivial ?_
    refine V.ret (v := some (.int (iZ (-4)))) rfl rfl rfl rfl (hQ)
  refine V.br rfl (fun (c1 : iZ z < 0) => ?_) (fun (c1 : ¬ (iZ z < 0)) => ?_)
  · rw [iZ_lt0 (by omega)] at c1
    exact no (by omega)
  · rw [iZ_lt0 (by omega)] at c1
    refine V.run 0 54 rfl hn trivial ?_
    try simp only [rc_1_0, rc_1_1, rc_1_2, rc_1_3, rc_1_4, rc_1_5, rc_2_0, rc_2_1, rc_2_2, rc_6_0, rc_6_1, rc_6_2, rc_6_3, rc_7_0, rc_7_1, rc_7_2, rc_7_3, rc_12_0, rc_12_1, rc_12_2, rc_12_3, rc_18_0, rc_18_1, rc_20_0, rc_20_1, rc_22_0, rc_23_0, rc_25_0, rc_27_0, rc_27_1, rc_27_2, rc_31_0, rc_31_1, rc_31_2, rc_55_0, rc_55_1, rc_55_2, rc_1_6, rc_1_7, rc_23_2, fi_0_1, fi_0_2, fi_0_3, fi_1_3, fi_1_4, fi_1_5, fi_1_6, fi_1_7, fi_2_2, fi_3_3, fi_3_4, fi_3_5, fi_4_1, fi_5_4, fi_5_5, fi_5_6, fi_5_7, fi_5_8, fi_5_9, fi_6_1, fi_7_3, fi_7_4]
    rw [r3]
    refine V.br rfl (fun (c2 : iZ c.length ≤ iZ z) => ?_) (fun (c2 : ¬ (iZ c.length ≤ iZ z)) => ?_)
    · rw [iZ_le (by omega) (by omega)] at c2
      exact no (by omega)
    · rw [iZ_le (by omega) (by omega)] at c2
      rw [if_pos (by omega)] at hQ
      refine V.run 0 54 rfl hn ⟨in_iZ (n := 64) (by omega) (by decide), trivial⟩ ?_
      try simp only [rc_1_0, rc_1_1, rc_1_2, rc_1_3, rc_1_4, rc_1_5, rc_2_0, rc_2_1, rc_2_2, rc_6_0, rc_6_1, rc_6_2, rc_6_3, rc_7_0, rc_7_1, rc_7_2, rc_7_3, rc_12_0, rc_12_1, rc_12_2, rc_12_3, rc_18_0, rc_18_1, rc_20_0, rc_20_1, rc_22_0, rc_23_0, rc_25_0, rc_27_0, rc_27_1, rc_27_2, rc_31_0, rc_31_1, rc_31_2, rc_55_0, rc_55_1, rc_55_2, rc_1_6, rc_1_7, rc_23_2, fi_0_1, fi_0_2, fi_0_3, fi_1_3, fi_1_4, fi_1_5, fi_1_6, fi_1_7, fi_2_2, fi_3_3, fi_3_4, fi_3_5, fi_4_1, fi_5_4, fi_5_5, fi_5_6, fi_5_7, fi_5_8, fi_5_9, fi_6_1, fi_7_3, fi_7_4]
      rw [ix_iZ (by omega), r5 _ (by omega)]
      refine V.ret (v := some (.int (iZ (c.getD z.toNat 0 : Nat)))) rfl rfl rfl rfl (hQ)
theorem c_cuses_31 (hn : 54 ≤ n) {kind : Nat} {c : List Nat} {pk : Nat → Nat × Nat} {z : Int} (hz : -2147483648 ≤ z ∧ z < 2147483648) (hc : chnM 31 σ kind c pk) (hQ : Q (some (.int (iZ (if 0 ≤ z ∧ z < c.length then (useN pk z.toNat c.length : Nat) else -4)))) (rho ca cb tr) σ) : Mt M_X1_usesAt d n n [.ref 31, .int (iZ z)] (rho ca cb tr) σ Q := by
  obtain ⟨⟨r1, r2, r3, r4, r5⟩, s1, s2, s3, s4⟩ := id hc
  have s3 : ∀ i, i < c.length → σ 34 i = iZ (useN pk i c.length) := s3
  have hl := r1.1
  refine Mt.of rfl (by decide +kernel) tk_X1_usesAt (Nat.le_of_ble_eq_true rfl) ?_
  refine V.run 0 54 rfl hn trivial ?_
  have no : ¬ (0 ≤ z ∧ z < c.length) → V M_X1_usesAt d n n none Q n (rho ca cb tr) σ 21 [some (.ref 31), some (.int (iZ (z)))] [] := by
    intro h
    rw [if_neg h] at hQ
    refine V.run 0 54 rfl hn trivial ?_
    refine V.ret (v := some (.int (iZ (-4)))) rfl rfl rfl rfl (hQ)
  refine V.br rfl (fun (c1 : iZ z < 0) => ?_) (fun (c1 : ¬ (iZ z < 0)) => ?_)
  · rw [iZ_lt0 (by omega)] at c1
    exact no (by omega)
  · rw [iZ_lt0 (by omega)] at c1
    refine V.run 0 54 rfl hn trivial ?_
    try simp only [rc_1_0, rc_1_1, rc_1_2, rc_1_3, rc_1_4, rc_1_5, rc_2_0, rc_2_1, rc_2_2, rc_6_0, rc_6_1, rc_6_2, rc_6_3, rc_7_0, rc_7_1, rc_7_2, rc_7_3, rc_12_0, rc_12_1, rc_12_2, rc_12_3, rc_18_0, rc_18_1, rc_20_0, rc_20_1, rc_22_0, rc_23_0, rc_25_0, rc_27_0, rc_27_1, rc_27_2, rc_31_0, rc_31_1, rc_31_2, rc_55_0, rc_55_1, rc_55_2, rc_1_6, rc_1_7, rc_23_2, fi_0_1, fi_0_2, fi_0_3, fi_1_3, fi_1_4, fi_1_5, fi_1_6, fi_1_7, fi_2_2, fi_3_3, fi_3_4, fi_3_5, fi_4_1, fi_5_4, fi_5_5, fi_5_6, fi_5_7, fi_5_8, fi_5_9, fi_6_1, fi_7_3, fi_7_4]
    rw [r3]
    refine V.br rfl (fun (c2 : iZ c.length ≤ iZ z) => ?_) (fun (c2 : ¬ (iZ c.length ≤ iZ z)) => ?_)
    · rw [iZ_le (by omega) (by omega)] at c2
      exact no (by omega)
    · rw [iZ_le (by omega) (by omega)] at c2
      rw [if_pos (by omega)] at hQ
      refine V.run 0 54 rfl hn ⟨in_iZ (n := 64) (by omega) (by decide), trivial⟩ ?_
      try simp only [rc_1_0, rc_1_1, rc_1_2, rc_1_3, rc_1_4, rc_1_5, rc_2_0, rc_2_1, rc_2_2, rc_6_0, rc_6_1, rc_6_2, rc_6_3, rc_7_0, rc_7_1, rc_7_2, rc_7_3, rc_12_0, rc_12_1, rc_12_2, rc_12_3, rc_18_0, rc_18_1, rc_20_0, rc_20_1, rc_22_0, rc_23_0, rc_25_0, rc_27_0, rc_27_1, rc_27_2, rc_31_0, rc_31_1, rc_31_2, rc_55_0, rc_55_1, rc_55_2, rc_1_6, rc_1_7, rc_23_2, fi_0_1, fi_0_2, fi_0_3, fi_1_3, fi_1_4, fi_1_5, fi_1_6, fi_1_7, fi_2_2, fi_3_3, fi_3_4, fi_3_5, fi_4_1, fi_5_4, fi_5_5, fi_5_6, fi_5_7, fi_5_8, fi_5_9, fi_6_1, fi_7_3, fi_7_4]
      rw [ix_iZ (by omega), s3 _ (by omega)]
      refine V.ret (v := some (.int (iZ (useN pk z.toNat c.length : Nat)))) rfl rfl rfl rfl (hQ)
theorem c_clatest_31 (hn : 54 ≤ n) (hd : 1 ≤ d) {kind : Nat} {c : List Nat} (hne : 1 ≤ c.length) (hc : chnN 31 σ kind c) (hQ : Q (some (.int (iZ (lastD c)))) (rho ca cb tr) σ) : Mt M_X1_latest d n n [.ref 31] (rho ca cb tr) σ Q := by
  obtain ⟨r1, r2, r3, r4, r5⟩ := id hc
  have hl := r1.1
  have hb := r1.2.1 _ (getD_mem2 (r := c) (i := c.length - 1) (by omega))
  rw [← lastD_eq (by omega)] at hb
  refine Mt.of rfl (by decide +kernel) tk_X1_latest (Nat.le_of_ble_eq_true rfl) ?_
  refine V.run 0 54 rfl hn trivial ?_
  try simp only [rc_1_0, rc_1_1, rc_1_2, rc_1_3, rc_1_4, rc_1_5, rc_2_0, rc_2_1, rc_2_2, rc_6_0, rc_6_1, rc_6_2, rc_6_3, rc_7_0, rc_7_1, rc_7_2, rc_7_3, rc_12_0, rc_12_1, rc_12_2, rc_12_3, rc_18_0, rc_18_1, rc_20_0, rc_20_1, rc_22_0, rc_23_0, rc_25_0, rc_27_0, rc_27_1, rc_27_2, rc_31_0, rc_31_1, rc_31_2, rc_55_0, rc_55_1, rc_55_2, rc_1_6, rc_1_7, rc_23_2, fi_0_1, fi_0_2, fi_0_3, fi_1_3, fi_1_4, fi_1_5, fi_1_6, fi_1_7, fi_2_2, fi_3_3, fi_3_4, fi_3_5, fi_4_1, fi_5_4, fi_5_5, fi_5_6, fi_5_7, fi_5_8, fi_5_9, fi_6_1, fi_7_3, fi_7_4]
  rw [r3, iZ_sub]
  refine V.cv (lo := 54) (d' := d - 1) rfl rfl ok_X1_numberAt lk_1_X1_numberAt rfl rfl rfl hn (by omega) (Nat.le_refl _) (Nat.le_refl _) ((c_cnum_31 hn (by omega) hc ?_))
  rw [if_pos (by omega), show ((c.length : Int) - 1).toNat = c.length - 1 by omega, ← lastD_eq (by omega)]
  refine V.max rfl rfl lm_1_max rfl (by omega) (Nat.le_refl _) ?_
  have e : (if iZ 1 < iZ (lastD c : Int) then iZ (lastD c : Int) else iZ 1) = iZ (lastD c : Int) := by
    by_cases h : 1 < lastD c
    · rw [if_pos ((iZ_lt (by omega) (by omega)).mpr (by omega))]
    · rw [if_neg (fun z => by have := (iZ_lt (by omega) (by omega)).mp z; omega)]
      exact iZ_pat (by omega)
  rw [e]
  refine V.ret (v := some (.int (iZ (lastD c : Int)))) rfl rfl rfl rfl (hQ)
theorem c_cappend_31 (hn : 54 ≤ n) {v L : Nat} (hL : L < 64) (h3 : σ 31 3 = iZ L) (hQ : Q (some (.int 1)) (rho ca cb tr) (up (up (up (up σ 32 L (iZ v)) 33 L (iZ 0)) 34 L (iZ 0)) 31 3 (iZ (L + 1)))) : Mt M_X1_append d n n [.ref 31, .int (iZ v)] (rho ca cb tr) σ Q := by
  have e1 : ∀ (σ : Mem) (i : Nat) (x : Int32), up σ 32 i x 31 = σ 31 := fun σ i x => up_ne (by decide)
  have e2 : ∀ (σ : Mem) (i : Nat) (x : Int32), up σ 33 i x 31 = σ 31 := fun σ i x => up_ne (by decide)
  have e3 : ∀ (σ : Mem) (i : Nat) (x : Int32), up σ 34 i x 31 = σ 31 := fun σ i x => up_ne (by decide)
  refine Mt.of rfl (by decide +kernel) tk_X1_append (Nat.le_of_ble_eq_true rfl) ?_
  refine V.run 0 54 rfl hn trivial ?_
  try simp only [rc_1_0, rc_1_1, rc_1_2, rc_1_3, rc_1_4, rc_1_5, rc_2_0, rc_2_1, rc_2_2, rc_6_0, rc_6_1, rc_6_2, rc_6_3, rc_7_0, rc_7_1, rc_7_2, rc_7_3, rc_12_0, rc_12_1, rc_12_2, rc_12_3, rc_18_0, rc_18_1, rc_20_0, rc_20_1, rc_22_0, rc_23_0, rc_25_0, rc_27_0, rc_27_1, rc_27_2, rc_31_0, rc_31_1, rc_31_2, rc_55_0, rc_55_1, rc_55_2, rc_1_6, rc_1_7, rc_23_2, fi_0_1, fi_0_2, fi_0_3, fi_1_3, fi_1_4, fi_1_5, fi_1_6, fi_1_7, fi_2_2, fi_3_3, fi_3_4, fi_3_5, fi_4_1, fi_5_4, fi_5_5, fi_5_6, fi_5_7, fi_5_8, fi_5_9, fi_6_1, fi_7_3, fi_7_4]
  rw [h3]
  refine V.brT rfl ((iZ_lt (by omega) (by omega)).mpr (by omega)) ?_
  have p1 : vp_in (iZ (L : Int)) 64 := in_N (by omega) (by decide)
  refine V.run 0 54 rfl hn ⟨by (simp only [rc_31_0, rc_31_1, rc_31_2, fi_1_3, e1, e2, e3, h3]; exact p1), by (simp only [rc_31_0, rc_31_1, rc_31_2, fi_1_3, e1, e2, e3, h3]; exact p1), by (simp only [rc_31_0, rc_31_1, rc_31_2, fi_1_3, e1, e2, e3, h3]; exact p1), trivial⟩ ?_
  try simp only [rc_1_0, rc_1_1, rc_1_2, rc_1_3, rc_1_4, rc_1_5, rc_2_0, rc_2_1, rc_2_2, rc_6_0, rc_6_1, rc_6_2, rc_6_3, rc_7_0, rc_7_1, rc_7_2, rc_7_3, rc_12_0, rc_12_1, rc_12_2, rc_12_3, rc_18_0, rc_18_1, rc_20_0, rc_20_1, rc_22_0, rc_23_0, rc_25_0, rc_27_0, rc_27_1, rc_27_2, rc_31_0, rc_31_1, rc_31_2, rc_55_0, rc_55_1, rc_55_2, rc_1_6, rc_1_7, rc_23_2, fi_0_1, fi_0_2, fi_0_3, fi_1_3, fi_1_4, fi_1_5, fi_1_6, fi_1_7, fi_2_2, fi_3_3, fi_3_4, fi_3_5, fi_4_1, fi_5_4, fi_5_5, fi_5_6, fi_5_7, fi_5_8, fi_5_9, fi_6_1, fi_7_3, fi_7_4]
  simp only [e1, e2, e3, h3]
  rw [ix_N (by omega), iZ_add]
  refine V.ret (v := some (.int 1)) rfl rfl ⟨rfl, Or.inr rfl⟩ rfl (hQ)
theorem c_cuse_31 (hn : 54 ≤ n) {a b s : Nat} (hs : s < 64) (ha : a < s) (hb : b < s) (h6 : σ 31 6 = iZ a) (h7 : σ 31 7 = iZ b) (hQ : ∀ σ', (∀ t, σ' 33 t = if a = t ∨ b = t then iZ s else σ 33 t) → (∀ t, σ' 34 t = σ 34 t + iZ (((if a = t then 1 else 0) + (if b = t then 1 else 0) : Nat) : Int)) → σ' 31 5 = σ 31 5 + iZ ((if a = b then 1 else 0 : Nat) : Int) → Fr [31, 33, 34] σ σ' → (∀ j, j ≠ 5 → σ' 31 j = σ 31 j) → Q (some (.int 1)) (rho ca cb tr) σ') : Mt M_X1_useBoth d n n [.ref 31, .int (iZ s)] (rho ca cb tr) σ Q := by
  have e2 : ∀ (σ : Mem) (i : Nat) (x : Int32), up σ 33 i x 31 = σ 31 := fun σ i x => up_ne (by decide)
  have e3 : ∀ (σ : Mem) (i : Nat) (x : Int32), up σ 34 i x 31 = σ 31 := fun σ i x => up_ne (by decide)
  have e4 : ∀ (σ : Mem) (i : Nat) (x : Int32), up σ 33 i x 34 = σ 34 := fun σ i x => up_ne (by decide)
  refine Mt.of rfl (by decide +kernel) tk_X1_useBoth (Nat.le_of_ble_eq_true rfl) ?_
  refine V.run 0 54 rfl hn trivial ?_
  try simp only [rc_1_0, rc_1_1, rc_1_2, rc_1_3, rc_1_4, rc_1_5, rc_2_0, rc_2_1, rc_2_2, rc_6_0, rc_6_1, rc_6_2, rc_6_3, rc_7_0, rc_7_1, rc_7_2, rc_7_3, rc_12_0, rc_12_1, rc_12_2, rc_12_3, rc_18_0, rc_18_1, rc_20_0, rc_20_1, rc_22_0, rc_23_0, rc_25_0, rc_27_0, rc_27_1, rc_27_2, rc_31_0, rc_31_1, rc_31_2, rc_55_0, rc_55_1, rc_55_2, rc_1_6, rc_1_7, rc_23_2, fi_0_1, fi_0_2, fi_0_3, fi_1_3, fi_1_4, fi_1_5, fi_1_6, fi_1_7, fi_2_2, fi_3_3, fi_3_4, fi_3_5, fi_4_1, fi_5_4, fi_5_5, fi_5_6, fi_5_7, fi_5_8, fi_5_9, fi_6_1, fi_7_3, fi_7_4]
  rw [h6]
  refine V.brF rfl (fun q => by have := (iZ_lt0 (by omega)).mp q; omega) ?_
  refine V.run 0 54 rfl hn trivial ?_
  try simp only [rc_1_0, rc_1_1, rc_1_2, rc_1_3, rc_1_4, rc_1_5, rc_2_0, rc_2_1, rc_2_2, rc_6_0, rc_6_1, rc_6_2, rc_6_3, rc_7_0, rc_7_1, rc_7_2, rc_7_3, rc_12_0, rc_12_1, rc_12_2, rc_12_3, rc_18_0, rc_18_1, rc_20_0, rc_20_1, rc_22_0, rc_23_0, rc_25_0, rc_27_0, rc_27_1, rc_27_2, rc_31_0, rc_31_1, rc_31_2, rc_55_0, rc_55_1, rc_55_2, rc_1_6, rc_1_7, rc_23_2, fi_0_1, fi_0_2, fi_0_3, fi_1_3, fi_1_4, fi_1_5, fi_1_6, fi_1_7, fi_2_2, fi_3_3, fi_3_4, fi_3_5, fi_4_1, fi_5_4, fi_5_5, fi_5_6, fi_5_7, fi_5_8, fi_5_9, fi_6_1, fi_7_3, fi_7_4]
  rw [h6]
  refine V.brF rfl (fun q => by have := (iZ_le (by omega) (by omega)).mp q; omega) ?_
  refine V.run 0 54 rfl hn trivial ?_
  try simp only [rc_1_0, rc_1_1, rc_1_2, rc_1_3, rc_1_4, rc_1_5, rc_2_0, rc_2_1, rc_2_2, rc_6_0, rc_6_1, rc_6_2, rc_6_3, rc_7_0, rc_7_1, rc_7_2, rc_7_3, rc_12_0, rc_12_1, rc_12_2, rc_12_3, rc_18_0, rc_18_1, rc_20_0, rc_20_1, rc_22_0, rc_23_0, rc_25_0, rc_27_0, rc_27_1, rc_27_2, rc_31_0, rc_31_1, rc_31_2, rc_55_0, rc_55_1, rc_55_2, rc_1_6, rc_1_7, rc_23_2, fi_0_1, fi_0_2, fi_0_3, fi_1_3, fi_1_4, fi_1_5, fi_1_6, fi_1_7, fi_2_2, fi_3_3, fi_3_4, fi_3_5, fi_4_1, fi_5_4, fi_5_5, fi_5_6, fi_5_7, fi_5_8, fi_5_9, fi_6_1, fi_7_3, fi_7_4]
  rw [h7]
  refine V.brF rfl (fun q => by have := (iZ_lt0 (by omega)).mp q; omega) ?_
  refine V.run 0 54 rfl hn trivial ?_
  try simp only [rc_1_0, rc_1_1, rc_1_2, rc_1_3, rc_1_4, rc_1_5, rc_2_0, rc_2_1, rc_2_2, rc_6_0, rc_6_1, rc_6_2, rc_6_3, rc_7_0, rc_7_1, rc_7_2, rc_7_3, rc_12_0, rc_12_1, rc_12_2, rc_12_3, rc_18_0, rc_18_1, rc_20_0, rc_20_1, rc_22_0, rc_23_0, rc_25_0, rc_27_0, rc_27_1, rc_27_2, rc_31_0, rc_31_1, rc_31_2, rc_55_0, rc_55_1, rc_55_2, rc_1_6, rc_1_7, rc_23_2, fi_0_1, fi_0_2, fi_0_3, fi_1_3, fi_1_4, fi_1_5, fi_1_6, fi_1_7, fi_2_2, fi_3_3, fi_3_4, fi_3_5, fi_4_1, fi_5_4, fi_5_5, fi_5_6, fi_5_7, fi_5_8, fi_5_9, fi_6_1, fi_7_3, fi_7_4]
  rw [h7]
  refine V.brT rfl ((iZ_lt (by omega) (by omega)).mpr (by omega)) ?_
  have p1 : vp_in (iZ (a : Int)) 64 := in_N (by omega) (by decide)
  have p2 : vp_in (iZ (b : Int)) 64 := in_N (by omega) (by decide)
  have k91 : ∀ σ1 : Mem, (∀ t, σ1 33 t = if a = t ∨ b = t then iZ s else σ 33 t) → (∀ t, σ1 34 t = σ 34 t + iZ (((if a = t then 1 else 0) + (if b = t then 1 else 0) : Nat) : Int)) → σ1 31 = σ 31 → Fr [31, 33, 34] σ σ1 → V M_X1_useBoth d n n none Q n (rho ca cb tr) σ1 91 [some (.ref 31), some (.int (iZ (s)))] [(.int (iZ (b))), (.int (iZ (a))), (.int ((σ 31 5))), (.ref 31)] := by
    intro σ1 g2 g3 g1 gf
    refine V.br rfl (fun (c : iZ a = iZ b) => ?_) (fun (c : ¬ (iZ a = iZ b)) => ?_)
    · rw [iZ_eq (by omega) (by omega)] at c
      refine V.run 0 54 rfl hn trivial ?_
      refine V.run 0 54 rfl hn trivial ?_
      try simp only [rc_1_0, rc_1_1, rc_1_2, rc_1_3, rc_1_4, rc_1_5, rc_2_0, rc_2_1, rc_2_2, rc_6_0, rc_6_1, rc_6_2, rc_6_3, rc_7_0, rc_7_1, rc_7_2, rc_7_3, rc_12_0, rc_12_1, rc_12_2, rc_12_3, rc_18_0, rc_18_1, rc_20_0, rc_20_1, rc_22_0, rc_23_0, rc_25_0, rc_27_0, rc_27_1, rc_27_2, rc_31_0, rc_31_1, rc_31_2, rc_55_0, rc_55_1, rc_55_2, rc_1_6, rc_1_7, rc_23_2, fi_0_1, fi_0_2, fi_0_3, fi_1_3, fi_1_4, fi_1_5, fi_1_6, fi_1_7, fi_2_2, fi_3_3, fi_3_4, fi_3_5, fi_4_1, fi_5_4, fi_5_5, fi_5_6, fi_5_7, fi_5_8, fi_5_9, fi_6_1, fi_7_3, fi_7_4]
      refine V.ret (v := some (.int 1)) rfl rfl ⟨rfl, Or.inr rfl⟩ rfl (hQ _ (fun t => ?_) (fun t => ?_) ?_ (Fr.putT gf (by simp)) (fun j hj => ?_))
      · rw [up_ne (by decide)]; exact g2 t
      · rw [up_ne (by decide)]; exact g3 t
      · rw [up_at, if_pos (show a = b by omega)]
        rfl
      · rw [up_nat hj, g1]
    · rw [iZ_eq (by omega) (by omega)] at c
      refine V.run 0 54 rfl hn trivial ?_
      try simp only [rc_1_0, rc_1_1, rc_1_2, rc_1_3, rc_1_4, rc_1_5, rc_2_0, rc_2_1, rc_2_2, rc_6_0, rc_6_1, rc_6_2, rc_6_3, rc_7_0, rc_7_1, rc_7_2, rc_7_3, rc_12_0, rc_12_1, rc_12_2, rc_12_3, rc_18_0, rc_18_1, rc_20_0, rc_20_1, rc_22_0, rc_23_0, rc_25_0, rc_27_0, rc_27_1, rc_27_2, rc_31_0, rc_31_1, rc_31_2, rc_55_0, rc_55_1, rc_55_2, rc_1_6, rc_1_7, rc_23_2, fi_0_1, fi_0_2, fi_0_3, fi_1_3, fi_1_4, fi_1_5, fi_1_6, fi_1_7, fi_2_2, fi_3_3, fi_3_4, fi_3_5, fi_4_1, fi_5_4, fi_5_5, fi_5_6, fi_5_7, fi_5_8, fi_5_9, fi_6_1, fi_7_3, fi_7_4]
      refine V.ret (v := some (.int 1)) rfl rfl ⟨rfl, Or.inr rfl⟩ rfl (hQ _ (fun t => ?_) (fun t => ?_) ?_ (Fr.putT gf (by simp)) (fun j hj => ?_))
      · rw [up_ne (by decide)]; exact g2 t
      · rw [up_ne (by decide)]; exact g3 t
      · rw [up_at, if_neg (show ¬ a = b by omega)]
        rfl
      · rw [up_nat hj, g1]
  refine V.run 0 54 rfl hn ⟨by (simp only [rc_31_0, rc_31_1, rc_31_2, fi_1_6, fi_1_7, e2, e3, h6, h7]; exact p1), by (simp only [rc_31_0, rc_31_1, rc_31_2, fi_1_6, fi_1_7, e2, e3, h6, h7]; exact p1), by (simp only [rc_31_0, rc_31_1, rc_31_2, fi_1_6, fi_1_7, e2, e3, h6, h7]; exact p1), by (simp only [rc_31_0, rc_31_1, rc_31_2, fi_1_6, fi_1_7, e2, e3, h6, h7]; exact p2), by (simp only [rc_31_0, rc_31_1, rc_31_2, fi_1_6, fi_1_7, e2, e3, h6, h7]; exact p2), by (simp only [rc_31_0, rc_31_1, rc_31_2, fi_1_6, fi_1_7, e2, e3, h6, h7]; exact p2), trivial⟩ ?_
  try simp only [rc_1_0, rc_1_1, rc_1_2, rc_1_3, rc_1_4, rc_1_5, rc_2_0, rc_2_1, rc_2_2, rc_6_0, rc_6_1, rc_6_2, rc_6_3, rc_7_0, rc_7_1, rc_7_2, rc_7_3, rc_12_0, rc_12_1, rc_12_2, rc_12_3, rc_18_0, rc_18_1, rc_20_0, rc_20_1, rc_22_0, rc_23_0, rc_25_0, rc_27_0, rc_27_1, rc_27_2, rc_31_0, rc_31_1, rc_31_2, rc_55_0, rc_55_1, rc_55_2, rc_1_6, rc_1_7, rc_23_2, fi_0_1, fi_0_2, fi_0_3, fi_1_3, fi_1_4, fi_1_5, fi_1_6, fi_1_7, fi_2_2, fi_3_3, fi_3_4, fi_3_5, fi_4_1, fi_5_4, fi_5_5, fi_5_6, fi_5_7, fi_5_8, fi_5_9, fi_6_1, fi_7_3, fi_7_4]
  simp only [e2, e3, e4, h6, h7]
  rw [ix_N (by omega), ix_N (by omega)]
  refine k91 _ (fun t => ?_) (fun t => ?_) ?_ (Fr.putT (Fr.putT (Fr.putT (Fr.put (by simp)) (by simp)) (by simp)) (by simp))
  · rw [up_ne (by decide)]
    by_cases e : t = b
    · subst e
      rw [up_at, if_pos (Or.inr rfl)]
    · rw [up_nat e, up_ne (by decide)]
      by_cases e5 : t = a
      · subst e5
        rw [up_at, if_pos (Or.inl rfl)]
      · rw [up_nat e5, if_neg (fun z => by rcases z with z | z <;> omega)]
  · by_cases e : t = b
    · subst e
      rw [up_at]
      by_cases e5 : t = a
      · subst e5
        rw [up_at, if_pos rfl, Int32.add_assoc]
        rfl
      · rw [up_nat e5, e4, if_neg (fun z => e5 z.symm), if_pos rfl]
        rfl
    · rw [up_nat e, e4]
      by_cases e5 : t = a
      · subst e5
        rw [up_at, if_pos rfl, if_neg (fun z => e z.symm)]
        rfl
      · rw [up_nat e5, e4, if_neg (fun z => e5 z.symm), if_neg (fun z => e z.symm)]
        exact (Int32.add_zero _).symm
  · rw [e3, e2, e3, e2]
end CD31
