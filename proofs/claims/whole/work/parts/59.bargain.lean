/-! ===== the class: prices ===== -/
def brgM (σ : Mem) (p q : Nat) : Prop := σ 22 1 = iZ p ∧ σ 22 2 = iZ q ∧ okPr p q
theorem brgM.fr {S : List Nat} {σ σ' : Mem} {p q : Nat} (h : brgM σ p q) (hf : Fr S σ σ') (h1 : 22 ∉ S) : brgM σ' p q := by
  unfold brgM at *
  rw [hf 22 h1]
  exact h
theorem mnP_min {p q : Nat} (h : okPr p q) : (if iZ 1 < (if iZ (q : Int) < iZ (p : Int) then iZ (q : Int) else iZ (p : Int)) then (if iZ (q : Int) < iZ (p : Int) then iZ (q : Int) else iZ (p : Int)) else iZ 1) = iZ (mnP p q) := by
  obtain ⟨h1, h2⟩ := h
  have e : (if iZ (q : Int) < iZ (p : Int) then iZ (q : Int) else iZ (p : Int)) = iZ (mnP p q) := by
    unfold mnP
    by_cases c : q < p
    · rw [if_pos ((iZ_lt (by omega) (by omega)).mpr (by omega)), if_neg (by omega)]
    · rw [if_neg (fun z => by have := (iZ_lt (by omega) (by omega)).mp z; omega)]
      split
      · rfl
      · exact iZ_pat (by omega)
  have hm := mnP_ok ⟨h1, h2⟩
  rw [e]
  by_cases c : 1 < mnP p q
  · rw [if_pos ((iZ_lt (by omega) (by omega)).mpr (by omega))]
  · rw [if_neg (fun z => by have := (iZ_lt (by omega) (by omega)).mp z; omega)]
    exact iZ_pat (by omega)
section CB1
variable {d n ca cb tr : Nat} {Q : PQ} {σ : Mem}
theorem c_priceOf (hn : 54 ≤ n) (hd : 1 ≤ d) {p q v : Nat} {r : List Nat} (hb : brgM σ p q) (ht : trialM σ 0 r) (hv : 1 ≤ v ∧ v ≤ 160) (hr : ∀ x ∈ r, x < v) (hQ : Q (some (.int (iZ (costV p q r v)))) (rho ca cb tr) σ) : Mt M_X0_priceOf d n n [.ref 22, .int (iZ v)] (rho ca cb tr) σ Q := by
  obtain ⟨b1, b2, b3, b4⟩ := id hb
  have hw := wy_le (kind := 0) (v := v) ht.1.1
  unfold costV at hQ
  have htw : twB r v = true ↔ v % 2 = 0 ∧ v / 2 ∈ r := by
    unfold twB
    simp only [Bool.and_eq_true, beq_iff_eq, List.contains_eq_mem, decide_eq_true_eq]
  refine Mt.of rfl (by decide +kernel) tk_X0_priceOf (Nat.le_of_ble_eq_true rfl) ?_
  have no : ∀ x2 x3, ¬ (v % 2 = 0 ∧ v / 2 ∈ r) → V M_X0_priceOf d n n none Q n (rho ca cb tr) σ 23 [some (.ref 22), some (.int (iZ (v))), x2, x3] [] := by
    intro x2 x3 h
    have hf : twB r v = false := by
      cases hc : twB r v with
      | false => rfl
      | true => exact absurd (htw.mp hc) h
    rw [hf] at hQ
    refine V.run 0 54 rfl hn trivial ?_
    refine V.brT rfl rfl ?_
    refine V.run 0 54 rfl hn trivial ?_
    try simp only [rc_1_0, rc_1_1, rc_1_2, rc_1_3, rc_1_4, rc_1_5, rc_2_0, rc_2_1, rc_2_2, rc_6_0, rc_6_1, rc_6_2, rc_6_3, rc_7_0, rc_7_1, rc_7_2, rc_7_3, rc_12_0, rc_12_1, rc_12_2, rc_12_3, rc_18_0, rc_18_1, rc_20_0, rc_20_1, rc_22_0, rc_23_0, rc_25_0, rc_27_0, rc_27_1, rc_27_2, rc_31_0, rc_31_1, rc_31_2, rc_55_0, rc_55_1, rc_55_2, rc_1_6, rc_1_7, rc_23_2, fi_0_1, fi_0_2, fi_0_3, fi_1_3, fi_1_4, fi_1_5, fi_1_6, fi_1_7, fi_2_2, fi_3_3, fi_3_4, fi_3_5, fi_4_1, fi_5_4, fi_5_5, fi_5_6, fi_5_7, fi_5_8, fi_5_9, fi_6_1, fi_7_3, fi_7_4]
    rw [b2]
    refine V.ret (v := some (.int (iZ q))) rfl rfl rfl rfl (hQ)
  refine V.run 0 54 rfl hn ⟨by decide, trivial⟩ ?_
  have e1 : iRem (iZ (v : Int)) (iZ 2) = iZ ((v % 2 : Nat) : Int) := by
    rw [iZ_rem (by omega) (by omega)]
    exact iZ_pat (by omega)
  rw [e1]
  refine V.br rfl (fun (c : iZ ((v % 2 : Nat) : Int) = 0) => ?_) (fun (c : ¬ (iZ ((v % 2 : Nat) : Int) = 0)) => ?_)
  · rw [iZ_eq0 (by omega)] at c
    refine V.run 0 54 rfl hn ⟨by decide, trivial⟩ ?_
    try simp only [rc_1_0, rc_1_1, rc_1_2, rc_1_3, rc_1_4, rc_1_5, rc_2_0, rc_2_1, rc_2_2, rc_6_0, rc_6_1, rc_6_2, rc_6_3, rc_7_0, rc_7_1, rc_7_2, rc_7_3, rc_12_0, rc_12_1, rc_12_2, rc_12_3, rc_18_0, rc_18_1, rc_20_0, rc_20_1, rc_22_0, rc_23_0, rc_25_0, rc_27_0, rc_27_1, rc_27_2, rc_31_0, rc_31_1, rc_31_2, rc_55_0, rc_55_1, rc_55_2, rc_1_6, rc_1_7, rc_23_2, fi_0_1, fi_0_2, fi_0_3, fi_1_3, fi_1_4, fi_1_5, fi_1_6, fi_1_7, fi_2_2, fi_3_3, fi_3_4, fi_3_5, fi_4_1, fi_5_4, fi_5_5, fi_5_6, fi_5_7, fi_5_8, fi_5_9, fi_6_1, fi_7_3, fi_7_4]
    rw [iZ_div (by omega) (by omega)]
    refine V.cv (lo := 54) (d' := d - 1) rfl rfl ok_X7_stands lk_0_X7_stands rfl rfl rfl hn (by omega) (Nat.le_refl _) (Nat.le_refl _) ((c_stands hn (by omega) ht (fun g => ?_) (fun g => ?_)))
    · rw [show ((v : Int) / 2).toNat = v / 2 by omega] at g
      have hT := htw.mpr ⟨by omega, g.2⟩
      have hsm := wy_sm ht.1.2.2 hr hT
      rw [hT, Bool.true_and, if_pos rfl] at hQ
      refine V.brF rfl (by decide) ?_
      refine V.run 0 54 rfl hn trivial ?_
      refine V.run 0 54 rfl hn trivial ?_
      refine V.brF rfl (by decide) ?_
      refine V.run 0 54 rfl hn trivial ?_
      try simp only [rc_1_0, rc_1_1, rc_1_2, rc_1_3, rc_1_4, rc_1_5, rc_2_0, rc_2_1, rc_2_2, rc_6_0, rc_6_1, rc_6_2, rc_6_3, rc_7_0, rc_7_1, rc_7_2, rc_7_3, rc_12_0, rc_12_1, rc_12_2, rc_12_3, rc_18_0, rc_18_1, rc_20_0, rc_20_1, rc_22_0, rc_23_0, rc_25_0, rc_27_0, rc_27_1, rc_27_2, rc_31_0, rc_31_1, rc_31_2, rc_55_0, rc_55_1, rc_55_2, rc_1_6, rc_1_7, rc_23_2, fi_0_1, fi_0_2, fi_0_3, fi_1_3, fi_1_4, fi_1_5, fi_1_6, fi_1_7, fi_2_2, fi_3_3, fi_3_4, fi_3_5, fi_4_1, fi_5_4, fi_5_5, fi_5_6, fi_5_7, fi_5_8, fi_5_9, fi_6_1, fi_7_3, fi_7_4]
      refine V.cv (lo := 54) (d' := d - 1) rfl rfl ok_X7_waysTo lk_0_X7_waysTo rfl rfl rfl hn (by omega) (Nat.le_refl _) (Nat.le_refl _) ((c_waysTo hn hv ht ?_))
      refine V.run 0 54 rfl hn trivial ?_
      refine V.br rfl (fun (c2 : iZ (wy 0 r v) ≤ iZ 1) => ?_) (fun (c2 : ¬ (iZ (wy 0 r v) ≤ iZ 1)) => ?_)
      · rw [iZ_le (by omega) (by omega)] at c2
        have hf : ¬ smB r v = true := fun z => by have := hsm.mpr z; omega
        rw [if_neg hf] at hQ
        refine V.run 0 54 rfl hn trivial ?_
        refine V.brT rfl rfl ?_
        refine V.run 0 54 rfl hn trivial ?_
        try simp only [rc_1_0, rc_1_1, rc_1_2, rc_1_3, rc_1_4, rc_1_5, rc_2_0, rc_2_1, rc_2_2, rc_6_0, rc_6_1, rc_6_2, rc_6_3, rc_7_0, rc_7_1, rc_7_2, rc_7_3, rc_12_0, rc_12_1, rc_12_2, rc_12_3, rc_18_0, rc_18_1, rc_20_0, rc_20_1, rc_22_0, rc_23_0, rc_25_0, rc_27_0, rc_27_1, rc_27_2, rc_31_0, rc_31_1, rc_31_2, rc_55_0, rc_55_1, rc_55_2, rc_1_6, rc_1_7, rc_23_2, fi_0_1, fi_0_2, fi_0_3, fi_1_3, fi_1_4, fi_1_5, fi_1_6, fi_1_7, fi_2_2, fi_3_3, fi_3_4, fi_3_5, fi_4_1, fi_5_4, fi_5_5, fi_5_6, fi_5_7, fi_5_8, fi_5_9, fi_6_1, fi_7_3, fi_7_4]
        rw [b1]
        refine V.ret (v := some (.int (iZ p))) rfl rfl rfl rfl (hQ)
      · rw [iZ_le (by omega) (by omega)] at c2
        rw [if_pos (hsm.mp (by omega))] at hQ
        refine V.run 0 54 rfl hn trivial ?_
        refine V.run 0 54 rfl hn trivial ?_
        refine V.brF rfl (by decide) ?_
        refine V.run 0 54 rfl hn trivial ?_
        try simp only [rc_1_0, rc_1_1, rc_1_2, rc_1_3, rc_1_4, rc_1_5, rc_2_0, rc_2_1, rc_2_2, rc_6_0, rc_6_1, rc_6_2, rc_6_3, rc_7_0, rc_7_1, rc_7_2, rc_7_3, rc_12_0, rc_12_1, rc_12_2, rc_12_3, rc_18_0, rc_18_1, rc_20_0, rc_20_1, rc_22_0, rc_23_0, rc_25_0, rc_27_0, rc_27_1, rc_27_2, rc_31_0, rc_31_1, rc_31_2, rc_55_0, rc_55_1, rc_55_2, rc_1_6, rc_1_7, rc_23_2, fi_0_1, fi_0_2, fi_0_3, fi_1_3, fi_1_4, fi_1_5, fi_1_6, fi_1_7, fi_2_2, fi_3_3, fi_3_4, fi_3_5, fi_4_1, fi_5_4, fi_5_5, fi_5_6, fi_5_7, fi_5_8, fi_5_9, fi_6_1, fi_7_3, fi_7_4]
        rw [b1, b2]
        refine V.min rfl rfl lm_0_min rfl (by omega) (Nat.le_refl _) ?_
        have e2 : (if iZ (q : Int) < iZ (p : Int) then iZ (q : Int) else iZ (p : Int)) = iZ (if p < q then p else q : Nat) := by
          by_cases c : q < p
          · rw [if_pos ((iZ_lt (by omega) (by omega)).mpr (by omega)), if_neg (by omega)]
          · rw [if_neg (fun z => by have := (iZ_lt (by omega) (by omega)).mp z; omega)]
            split
            · rfl
            · exact iZ_pat (by omega)
        rw [e2]
        refine V.run 0 54 rfl hn trivial ?_
        refine V.ret (v := some (.int (iZ (if p < q then p else q : Nat)))) rfl rfl rfl rfl (hQ)
    · rw [show ((v : Int) / 2).toNat = v / 2 by omega] at g
      refine V.brT rfl rfl ?_
      exact no _ _ (fun z => g ⟨by omega, z.2⟩)
  · rw [iZ_eq0 (by omega)] at c
    exact no _ _ (fun z => c (by omega))
theorem c_inReach (hn : 54 ≤ n) (hd : 2 ≤ d) {p q v N b : Nat} (hb : brgM σ p q) (h3 : σ 22 3 = iZ N) (hv : v ≤ 160) (hN : N ≤ 160) (hb2 : b ≤ 1000) (h1 : ltR N ((b / mnP p q : Nat) : Int) ≤ v → Q (some (.int 1)) (rho ca cb tr) σ) (h0 : v < ltR N ((b / mnP p q : Nat) : Int) → Q (some (.int 0)) (rho ca cb tr) σ) : Mt M_X0_inReach d n n [.ref 22, .int (iZ v), .int (iZ b)] (rho ca cb tr) σ Q := by
  obtain ⟨b1, b2, b3⟩ := id hb
  have hm := mnP_ok b3
  obtain ⟨b4, b5⟩ := id b3
  refine Mt.of rfl (by decide +kernel) tk_X0_inReach (Nat.le_of_ble_eq_true rfl) ?_
  refine V.run 0 54 rfl hn trivial ?_
  try simp only [rc_1_0, rc_1_1, rc_1_2, rc_1_3, rc_1_4, rc_1_5, rc_2_0, rc_2_1, rc_2_2, rc_6_0, rc_6_1, rc_6_2, rc_6_3, rc_7_0, rc_7_1, rc_7_2, rc_7_3, rc_12_0, rc_12_1, rc_12_2, rc_12_3, rc_18_0, rc_18_1, rc_20_0, rc_20_1, rc_22_0, rc_23_0, rc_25_0, rc_27_0, rc_27_1, rc_27_2, rc_31_0, rc_31_1, rc_31_2, rc_55_0, rc_55_1, rc_55_2, rc_1_6, rc_1_7, rc_23_2, fi_0_1, fi_0_2, fi_0_3, fi_1_3, fi_1_4, fi_1_5, fi_1_6, fi_1_7, fi_2_2, fi_3_3, fi_3_4, fi_3_5, fi_4_1, fi_5_4, fi_5_5, fi_5_6, fi_5_7, fi_5_8, fi_5_9, fi_6_1, fi_7_3, fi_7_4]
  rw [b1, b2]
  refine V.min rfl rfl lm_0_min rfl (by omega) (Nat.le_refl _) ?_
  refine V.max rfl rfl lm_0_max rfl (by omega) (Nat.le_refl _) ?_
  rw [mnP_min b3]
  have hnz : ¬ iZ ((mnP p q : Nat) : Int) = 0 := fun c => by have := (iZ_eq0 (by omega)).mp c; omega
  refine V.run 0 54 rfl hn ⟨hnz, trivial⟩ ?_
  try simp only [rc_1_0, rc_1_1, rc_1_2, rc_1_3, rc_1_4, rc_1_5, rc_2_0, rc_2_1, rc_2_2, rc_6_0, rc_6_1, rc_6_2, rc_6_3, rc_7_0, rc_7_1, rc_7_2, rc_7_3, rc_12_0, rc_12_1, rc_12_2, rc_12_3, rc_18_0, rc_18_1, rc_20_0, rc_20_1, rc_22_0, rc_23_0, rc_25_0, rc_27_0, rc_27_1, rc_27_2, rc_31_0, rc_31_1, rc_31_2, rc_55_0, rc_55_1, rc_55_2, rc_1_6, rc_1_7, rc_23_2, fi_0_1, fi_0_2, fi_0_3, fi_1_3, fi_1_4, fi_1_5, fi_1_6, fi_1_7, fi_2_2, fi_3_3, fi_3_4, fi_3_5, fi_4_1, fi_5_4, fi_5_5, fi_5_6, fi_5_7, fi_5_8, fi_5_9, fi_6_1, fi_7_3, fi_7_4]
  rw [h3, iZ_div (by omega) (by omega), show (b : Int) / ((mnP p q : Nat) : Int) = ((b / mnP p q : Nat) : Int) by rw [Int.natCast_ediv]]
  have hq : b / mnP p q ≤ b := Nat.div_le_self _ _
  generalize b / mnP p q = t at h1 h0 hq ⊢
  have hle := ltR_le (g := N) (s := ((t : Nat) : Int)) (by omega)
  refine V.csn (d' := d - 1) rfl rfl ok_X8_leastToReach (List.mem_of_getElem? (i := 3) rfl) rfl (by omega) (Nat.le_refl _) (Nat.le_refl _) ((c_leastToReach (by omega) (by omega) (by omega) ?_))
  refine V.br rfl (fun (c : iZ (v : Int) < iZ (ltR N ((t : Nat) : Int) : Nat)) => ?_) (fun (c : ¬ (iZ (v : Int) < iZ (ltR N ((t : Nat) : Int) : Nat))) => ?_)
  · rw [iZ_lt (by omega) (by omega)] at c
    refine V.run 0 54 rfl hn trivial ?_
    refine V.ret (v := some (.int 0)) rfl rfl ⟨rfl, Or.inl rfl⟩ rfl (h0 (by omega))
  · rw [iZ_lt (by omega) (by omega)] at c
    refine V.run 0 54 rfl hn trivial ?_
    refine V.ret (v := some (.int 1)) rfl rfl ⟨rfl, Or.inr rfl⟩ rfl (h1 (by omega))
end CB1
theorem chs_out {p q N v k b : Nat} {r : List Nat} (h : okPr p q) (hi : incR r) (hlv : lastD r < v) (hN : N ≤ 160) (hlt : v < ltR N ((b / mnP p q : Nat) : Int)) : v ≠ N ∧ chs p q N k (r ++ [v]) b = false := by
  have hm := mnP_ok h
  rw [ltR_lt] at hlt
  have hp : 1 ≤ 2 ^ shS ((b / mnP p q : Nat) : Int) := Nat.pow_pos (by decide)
  have hv1 : v * 1 ≤ v * 2 ^ shS ((b / mnP p q : Nat) : Int) := Nat.mul_le_mul_left _ hp
  refine ⟨by omega, ?_⟩
  cases hc : chs p q N k (r ++ [v]) b with
  | false => rfl
  | true =>
    have hg : ∀ x ∈ r ++ [v], x ≤ v := fun x hx => by
      rcases List.mem_append.mp hx with z | z
      · have := hi.2 x z; omega
      · rw [List.mem_singleton] at z; omega
    have h1 := chs_low hm.1 hm.2.2 hg hc
    generalize b / mnP p q = t at hlt hp hv1 h1
    by_cases hs : t < 24
    · have e : shS ((t : Nat) : Int) = t := by
        unfold shS
        rw [if_neg (by omega), if_pos (by omega)]
        rfl
      rw [e] at hlt
      omega
    · have e : shS ((t : Nat) : Int) = 24 := by
        unfold shS
        rw [if_neg (by omega), if_neg (by omega)]
      rw [e] at hlt
      have h24 : (2 : Nat) ^ 24 = 16777216 := by decide
      rw [h24] at hlt
      omega
section CB2
variable {n ca cb tr : Nat}
theorem c_bclimb (hn : 54 ≤ n) {p q N : Nat} (hN : 1 ≤ N ∧ N ≤ 40) : ∀ (f b depth d : Nat) (Q : PQ) (σ : Mem) (r : List Nat), f + depth = 25 → f + 5 ≤ d → b ≤ 200 → brgM σ p q → σ 22 3 = iZ N → trialM σ 0 r → 0 < r.length → r.length + f ≤ 40 → incR r → lastD r ≤ N → (lastD r = N ∨ (lastD r < N ∧ chs p q N f r b = true) → ∀ σ', trialM σ' 0 r → Fr [2, 3, 4, 5] σ σ' → Q (some (.int 1)) (rho ca cb tr) σ') → (lastD r < N → chs p q N f r b = false → ∀ σ', trialM σ' 0 r → Fr [2, 3, 4, 5] σ σ' → Q (some (.int 0)) (rho ca cb tr) σ') → Mt M_X0_climb d n n [.ref 22, .int (iZ b), .int (iZ depth)] (rho ca cb tr) σ Q := by
  intro f
  induction f with
  | zero =>
    intro b depth d Q σ r hfd hd hb hB h3 ht hr hrl hi hlN h1 h0
    refine Mt.of rfl (by decide +kernel) tk_X0_climb (Nat.le_of_ble_eq_true rfl) ?_
    refine V.run 0 54 rfl hn trivial ?_
    try simp only [rc_1_0, rc_1_1, rc_1_2, rc_1_3, rc_1_4, rc_1_5, rc_2_0, rc_2_1, rc_2_2, rc_6_0, rc_6_1, rc_6_2, rc_6_3, rc_7_0, rc_7_1, rc_7_2, rc_7_3, rc_12_0, rc_12_1, rc_12_2, rc_12_3, rc_18_0, rc_18_1, rc_20_0, rc_20_1, rc_22_0, rc_23_0, rc_25_0, rc_27_0, rc_27_1, rc_27_2, rc_31_0, rc_31_1, rc_31_2, rc_55_0, rc_55_1, rc_55_2, rc_1_6, rc_1_7, rc_23_2, fi_0_1, fi_0_2, fi_0_3, fi_1_3, fi_1_4, fi_1_5, fi_1_6, fi_1_7, fi_2_2, fi_3_3, fi_3_4, fi_3_5, fi_4_1, fi_5_4, fi_5_5, fi_5_6, fi_5_7, fi_5_8, fi_5_9, fi_6_1, fi_7_3, fi_7_4]
    refine V.cv (lo := 54) (d' := d - 1) rfl rfl ok_X7_latest lk_0_X7_latest rfl rfl rfl hn (by omega) (Nat.le_refl _) (Nat.le_refl _) ((c_latest hn (by omega) ht ?_))
    refine V.run 0 54 rfl hn trivial ?_
    try simp only [rc_1_0, rc_1_1, rc_1_2, rc_1_3, rc_1_4, rc_1_5, rc_2_0, rc_2_1, rc_2_2, rc_6_0, rc_6_1, rc_6_2, rc_6_3, rc_7_0, rc_7_1, rc_7_2, rc_7_3, rc_12_0, rc_12_1, rc_12_2, rc_12_3, rc_18_0, rc_18_1, rc_20_0, rc_20_1, rc_22_0, rc_23_0, rc_25_0, rc_27_0, rc_27_1, rc_27_2, rc_31_0, rc_31_1, rc_31_2, rc_55_0, rc_55_1, rc_55_2, rc_1_6, rc_1_7, rc_23_2, fi_0_1, fi_0_2, fi_0_3, fi_1_3, fi_1_4, fi_1_5, fi_1_6, fi_1_7, fi_2_2, fi_3_3, fi_3_4, fi_3_5, fi_4_1, fi_5_4, fi_5_5, fi_5_6, fi_5_7, fi_5_8, fi_5_9, fi_6_1, fi_7_3, fi_7_4]
    rw [h3]
    have k22 : V M_X0_climb d n n none Q n (rho ca cb tr) σ 22 [some (.ref 22), some (.int (iZ (b))), some (.int (iZ (depth))), some (.int (iZ ((lastD r)))), none, none, none] [] := by
      refine V.run 0 54 rfl hn trivial ?_
      try simp only [rc_1_0, rc_1_1, rc_1_2, rc_1_3, rc_1_4, rc_1_5, rc_2_0, rc_2_1, rc_2_2, rc_6_0, rc_6_1, rc_6_2, rc_6_3, rc_7_0, rc_7_1, rc_7_2, rc_7_3, rc_12_0, rc_12_1, rc_12_2, rc_12_3, rc_18_0, rc_18_1, rc_20_0, rc_20_1, rc_22_0, rc_23_0, rc_25_0, rc_27_0, rc_27_1, rc_27_2, rc_31_0, rc_31_1, rc_31_2, rc_55_0, rc_55_1, rc_55_2, rc_1_6, rc_1_7, rc_23_2, fi_0_1, fi_0_2, fi_0_3, fi_1_3, fi_1_4, fi_1_5, fi_1_6, fi_1_7, fi_2_2, fi_3_3, fi_3_4, fi_3_5, fi_4_1, fi_5_4, fi_5_5, fi_5_6, fi_5_7, fi_5_8, fi_5_9, fi_6_1, fi_7_3, fi_7_4]
      rw [h3]
      refine V.br rfl (fun (c : iZ (lastD r) = iZ N) => ?_) (fun (c : ¬ (iZ (lastD r) = iZ N)) => ?_)
      · rw [iZ_eq (by omega) (by omega)] at c
        refine V.run 0 54 rfl hn trivial ?_
        refine V.ret (v := some (.int 1)) rfl rfl ⟨rfl, Or.inr rfl⟩ rfl (h1 (Or.inl (by omega)) σ ht Fr.rf)
      · rw [iZ_eq (by omega) (by omega)] at c
        refine V.run 0 54 rfl hn trivial ?_
        refine V.ret (v := some (.int 0)) rfl rfl ⟨rfl, Or.inl rfl⟩ rfl (h0 (by omega) rfl σ ht Fr.rf)
    refine V.br rfl (fun (c : iZ N ≤ iZ (lastD r)) => ?_) (fun (c : ¬ (iZ N ≤ iZ (lastD r))) => ?_)
    · exact k22
    · refine V.run 0 54 rfl hn trivial ?_
      refine V.brF rfl (fun c => by have := (iZ_le (by omega) (by omega)).mp c; omega) ?_
      exact k22
  | succ k ih =>
    intro b depth d Q σ r hfd hd hb hB h3 ht hr hrl hi hlN h1 h0
    have hb1 : ∀ x ∈ r, 1 ≤ x := fun x hx => (ht.1.2.1 x hx).1
    have hB3 := hB.2.2
    refine Mt.of rfl (by decide +kernel) tk_X0_climb (Nat.le_of_ble_eq_true rfl) ?_
    refine V.run 0 54 rfl hn trivial ?_
    try simp only [rc_1_0, rc_1_1, rc_1_2, rc_1_3, rc_1_4, rc_1_5, rc_2_0, rc_2_1, rc_2_2, rc_6_0, rc_6_1, rc_6_2, rc_6_3, rc_7_0, rc_7_1, rc_7_2, rc_7_3, rc_12_0, rc_12_1, rc_12_2, rc_12_3, rc_18_0, rc_18_1, rc_20_0, rc_20_1, rc_22_0, rc_23_0, rc_25_0, rc_27_0, rc_27_1, rc_27_2, rc_31_0, rc_31_1, rc_31_2, rc_55_0, rc_55_1, rc_55_2, rc_1_6, rc_1_7, rc_23_2, fi_0_1, fi_0_2, fi_0_3, fi_1_3, fi_1_4, fi_1_5, fi_1_6, fi_1_7, fi_2_2, fi_3_3, fi_3_4, fi_3_5, fi_4_1, fi_5_4, fi_5_5, fi_5_6, fi_5_7, fi_5_8, fi_5_9, fi_6_1, fi_7_3, fi_7_4]
    refine V.cv (lo := 54) (d' := d - 1) rfl rfl ok_X7_latest lk_0_X7_latest rfl rfl rfl hn (by omega) (Nat.le_refl _) (Nat.le_refl _) ((c_latest hn (by omega) ht ?_))
    refine V.run 0 54 rfl hn trivial ?_
    try simp only [rc_1_0, rc_1_1, rc_1_2, rc_1_3, rc_1_4, rc_1_5, rc_2_0, rc_2_1, rc_2_2, rc_6_0, rc_6_1, rc_6_2, rc_6_3, rc_7_0, rc_7_1, rc_7_2, rc_7_3, rc_12_0, rc_12_1, rc_12_2, rc_12_3, rc_18_0, rc_18_1, rc_20_0, rc_20_1, rc_22_0, rc_23_0, rc_25_0, rc_27_0, rc_27_1, rc_27_2, rc_31_0, rc_31_1, rc_31_2, rc_55_0, rc_55_1, rc_55_2, rc_1_6, rc_1_7, rc_23_2, fi_0_1, fi_0_2, fi_0_3, fi_1_3, fi_1_4, fi_1_5, fi_1_6, fi_1_7, fi_2_2, fi_3_3, fi_3_4, fi_3_5, fi_4_1, fi_5_4, fi_5_5, fi_5_6, fi_5_7, fi_5_8, fi_5_9, fi_6_1, fi_7_3, fi_7_4]
    rw [h3]
    refine V.br rfl (fun (c : iZ N ≤ iZ (lastD r)) => ?_) (fun (c : ¬ (iZ N ≤ iZ (lastD r))) => ?_)
    · rw [iZ_le (by omega) (by omega)] at c
      refine V.run 0 54 rfl hn trivial ?_
      try simp only [rc_1_0, rc_1_1, rc_1_2, rc_1_3, rc_1_4, rc_1_5, rc_2_0, rc_2_1, rc_2_2, rc_6_0, rc_6_1, rc_6_2, rc_6_3, rc_7_0, rc_7_1, rc_7_2, rc_7_3, rc_12_0, rc_12_1, rc_12_2, rc_12_3, rc_18_0, rc_18_1, rc_20_0, rc_20_1, rc_22_0, rc_23_0, rc_25_0, rc_27_0, rc_27_1, rc_27_2, rc_31_0, rc_31_1, rc_31_2, rc_55_0, rc_55_1, rc_55_2, rc_1_6, rc_1_7, rc_23_2, fi_0_1, fi_0_2, fi_0_3, fi_1_3, fi_1_4, fi_1_5, fi_1_6, fi_1_7, fi_2_2, fi_3_3, fi_3_4, fi_3_5, fi_4_1, fi_5_4, fi_5_5, fi_5_6, fi_5_7, fi_5_8, fi_5_9, fi_6_1, fi_7_3, fi_7_4]
      rw [h3]
      refine V.brT rfl (by rw [show (lastD r : Int) = (N : Int) by omega]) ?_
      refine V.run 0 54 rfl hn trivial ?_
      refine V.ret (v := some (.int 1)) rfl rfl ⟨rfl, Or.inr rfl⟩ rfl (h1 (Or.inl (by omega)) σ ht Fr.rf)
    · rw [iZ_le (by omega) (by omega)] at c
      have hlt : lastD r < N := by omega
      refine V.run 0 54 rfl hn trivial ?_
      refine V.brT rfl ((iZ_le (by omega) (by omega)).mpr (by omega)) ?_
      refine V.run 0 54 rfl hn trivial ?_
      try simp only [rc_1_0, rc_1_1, rc_1_2, rc_1_3, rc_1_4, rc_1_5, rc_2_0, rc_2_1, rc_2_2, rc_6_0, rc_6_1, rc_6_2, rc_6_3, rc_7_0, rc_7_1, rc_7_2, rc_7_3, rc_12_0, rc_12_1, rc_12_2, rc_12_3, rc_18_0, rc_18_1, rc_20_0, rc_20_1, rc_22_0, rc_23_0, rc_25_0, rc_27_0, rc_27_1, rc_27_2, rc_31_0, rc_31_1, rc_31_2, rc_55_0, rc_55_1, rc_55_2, rc_1_6, rc_1_7, rc_23_2, fi_0_1, fi_0_2, fi_0_3, fi_1_3, fi_1_4, fi_1_5, fi_1_6, fi_1_7, fi_2_2, fi_3_3, fi_3_4, fi_3_5, fi_4_1, fi_5_4, fi_5_5, fi_5_6, fi_5_7, fi_5_8, fi_5_9, fi_6_1, fi_7_3, fi_7_4]
      rw [h3, iZ_mul]
      refine V.min rfl rfl lm_0_min rfl (by omega) (Nat.le_refl _) ?_
      have e0 : (if iZ (N : Int) < iZ (2 * (lastD r : Int)) then iZ (N : Int) else iZ (2 * (lastD r : Int))) = iZ (min (2 * lastD r) N : Nat) := by
        by_cases h : (N : Int) < 2 * (lastD r : Int)
        · rw [if_pos ((iZ_lt (by omega) (by omega)).mpr h)]
          exact iZ_pat (by omega)
        · rw [if_neg (fun c => h ((iZ_lt (by omega) (by omega)).mp c))]
          exact iZ_pat (by omega)
      rw [e0]
      refine V.run 48 54 rfl hn trivial ?_
      have loop : ∀ (u : Nat) (σ1 : Mem) (x5 x6 : Option Value), u ≤ N → (∀ v, u < v → candB 0 N r v = true → costV p q r v ≤ b → ¬ (v = N ∨ chs p q N k (r ++ [v]) (b - costV p q r v) = true)) → trialM σ1 0 r → Fr [2, 3, 4, 5] σ σ1 → V M_X0_climb d n n none Q n (rho ca cb tr) σ1 48 [some (.ref 22), some (.int (iZ (b))), some (.int (iZ (depth))), some (.int (iZ ((lastD r)))), some (.int (iZ (u))), x5, x6] [] := by
        have ex : ∀ (u : Nat) (σ1 : Mem) (x5 x6 : Option Value), u ≤ lastD r → (∀ v, u < v → candB 0 N r v = true → costV p q r v ≤ b → ¬ (v = N ∨ chs p q N k (r ++ [v]) (b - costV p q r v) = true)) → trialM σ1 0 r → Fr [2, 3, 4, 5] σ σ1 → V M_X0_climb d n n none Q n (rho ca cb tr) σ1 138 [some (.ref 22), some (.int (iZ (b))), some (.int (iZ (depth))), some (.int (iZ ((lastD r)))), some (.int (iZ (u))), x5, x6] [] := by
          intro u σ1 x5 x6 hu hno ht1 hf1
          refine V.run 0 54 rfl hn trivial ?_
          have hf : chs p q N (k + 1) r b = false := by
            cases hc : chs p q N (k + 1) r b with
            | false => rfl
            | true =>
              obtain ⟨v, v1, v2, v3⟩ := chs_step.mp hc
              have hlo : lastD r < v := (candB_spec v1).1
              exact absurd v3 (hno v (by omega) v1 v2)
          refine V.ret (v := some (.int 0)) rfl rfl ⟨rfl, Or.inl rfl⟩ rfl (h0 hlt hf σ1 ht1 hf1)
        intro u
        induction u with
        | zero =>
          intro σ1 x5 x6 hu hno ht1 hf1
          refine V.run 0 54 rfl hn trivial ?_
          refine V.brT rfl ((iZ_le (by omega) (by omega)).mpr (by omega)) ?_
          exact ex 0 σ1 x5 x6 (by omega) hno ht1 hf1
        | succ u ihu =>
          intro σ1 x5 x6 hu hno ht1 hf1
          have k132 : ∀ (σ2 : Mem) (x5 x6 : Option Value), (candB 0 N r (u + 1) = true → costV p q r (u + 1) ≤ b → ¬ (u + 1 = N ∨ chs p q N k (r ++ [u + 1]) (b - costV p q r (u + 1)) = true)) → trialM σ2 0 r → Fr [2, 3, 4, 5] σ σ2 → V M_X0_climb d n n none Q n (rho ca cb tr) σ2 132 [some (.ref 22), some (.int (iZ (b))), some (.int (iZ (depth))), some (.int (iZ ((lastD r)))), some (.int (iZ ((u + 1 : Nat)))), x5, x6] [] := by
            intro σ2 x5 x6 q1 q2 q3
            refine V.run 0 54 rfl hn trivial ?_
            have := ihu σ2 x5 x6 (by omega) (fun v hv g1 g2 => by
              by_cases e : v = u + 1
              · subst e; exact q1 g1 g2
              · exact hno v (by omega) g1 g2) q2 q3
            rw [show (u : Int) = ((u + 1 : Nat) : Int) + (-1) by omega, ← iZ_add] at this
            exact this
          refine V.run 0 54 rfl hn trivial ?_
          refine V.br rfl (fun (c3 : iZ (u + 1 : Nat) ≤ iZ (lastD r)) => ?_) (fun (c3 : ¬ (iZ (u + 1 : Nat) ≤ iZ (lastD r))) => ?_)
          · rw [iZ_le (by omega) (by omega)] at c3
            exact ex (u + 1) σ1 x5 x6 (by omega) hno ht1 hf1
          · rw [iZ_le (by omega) (by omega)] at c3
            have hBs := hB.fr hf1 (by decide)
            have h3s : σ1 22 3 = iZ N := by rw [hf1 22 (by decide)]; exact h3
            have hrv : ∀ x ∈ r, x < u + 1 := fun x hx => by have := hi.2 x hx; omega
            have hcb := costV_b (r := r) (v := u + 1) hB3.1 hB3.2
            have hcm := cm_cand (kind := 0) (most := N) (v := u + 1) hr hb1 (fun _ => hi) (by unfold lowB; rw [if_neg (by decide)]; omega) hu
            refine V.run 0 54 rfl hn trivial ?_
            refine V.cv (lo := 54) (d' := d - 1) rfl rfl ok_X0_priceOf lk_0_X0_priceOf rfl rfl rfl hn (by omega) (Nat.le_refl _) (Nat.le_refl _) ((c_priceOf hn (by omega) hBs ht1 (by omega) hrv ?_))
            refine V.run 0 54 rfl hn trivial ?_
            try simp only [rc_1_0, rc_1_1, rc_1_2, rc_1_3, rc_1_4, rc_1_5, rc_2_0, rc_2_1, rc_2_2, rc_6_0, rc_6_1, rc_6_2, rc_6_3, rc_7_0, rc_7_1, rc_7_2, rc_7_3, rc_12_0, rc_12_1, rc_12_2, rc_12_3, rc_18_0, rc_18_1, rc_20_0, rc_20_1, rc_22_0, rc_23_0, rc_25_0, rc_27_0, rc_27_1, rc_27_2, rc_31_0, rc_31_1, rc_31_2, rc_55_0, rc_55_1, rc_55_2, rc_1_6, rc_1_7, rc_23_2, fi_0_1, fi_0_2, fi_0_3, fi_1_3, fi_1_4, fi_1_5, fi_1_6, fi_1_7, fi_2_2, fi_3_3, fi_3_4, fi_3_5, fi_4_1, fi_5_4, fi_5_5, fi_5_6, fi_5_7, fi_5_8, fi_5_9, fi_6_1, fi_7_3, fi_7_4]
            rw [iZ_sub]
            refine V.cv (lo := 54) (d' := d - 1) rfl rfl ok_X7_comes lk_0_X7_comes rfl rfl rfl hn (by omega) (Nat.le_refl _) (Nat.le_refl _) ((c_comes hn (by omega) (by omega) ht1 (fun g => ?_) (fun g => ?_)))
            · have hc := hcm.mp g
              have hcs := candB_spec hc
              refine V.brF rfl (by decide) ?_
              refine V.run 0 54 rfl hn trivial ?_
              refine V.br rfl (fun (c4 : iZ ((b : Int) - (costV p q r (u + 1) : Nat)) < 0) => ?_) (fun (c4 : ¬ (iZ ((b : Int) - (costV p q r (u + 1) : Nat)) < 0)) => ?_)
              · rw [iZ_lt0 (by omega)] at c4
                exact k132 σ1 _ _ (fun _ g2 => by omega) ht1 hf1
              · rw [iZ_lt0 (by omega)] at c4
                rw [show (b : Int) - (costV p q r (u + 1) : Nat) = ((b - costV p q r (u + 1) : Nat) : Int) by omega]
                refine V.run 0 54 rfl hn trivial ?_
                refine V.cv (lo := 54) (d' := d - 1) rfl rfl ok_X0_inReach lk_0_X0_inReach rfl rfl rfl hn (by omega) (Nat.le_refl _) (Nat.le_refl _) ((c_inReach hn (by omega) hBs h3s (by omega) (by omega) (by omega) (fun g2 => ?_) (fun g2 => ?_)))
                · refine V.brF rfl (by decide) ?_
                  refine V.run 0 54 rfl hn trivial ?_
                  try simp only [rc_1_0, rc_1_1, rc_1_2, rc_1_3, rc_1_4, rc_1_5, rc_2_0, rc_2_1, rc_2_2, rc_6_0, rc_6_1, rc_6_2, rc_6_3, rc_7_0, rc_7_1, rc_7_2, rc_7_3, rc_12_0, rc_12_1, rc_12_2, rc_12_3, rc_18_0, rc_18_1, rc_20_0, rc_20_1, rc_22_0, rc_23_0, rc_25_0, rc_27_0, rc_27_1, rc_27_2, rc_31_0, rc_31_1, rc_31_2, rc_55_0, rc_55_1, rc_55_2, rc_1_6, rc_1_7, rc_23_2, fi_0_1, fi_0_2, fi_0_3, fi_1_3, fi_1_4, fi_1_5, fi_1_6, fi_1_7, fi_2_2, fi_3_3, fi_3_4, fi_3_5, fi_4_1, fi_5_4, fi_5_5, fi_5_6, fi_5_7, fi_5_8, fi_5_9, fi_6_1, fi_7_3, fi_7_4]
                  refine V.cv (lo := 54) (d' := d - 1) rfl rfl ok_X7_put lk_0_X7_put rfl rfl rfl hn (by omega) (Nat.le_refl _) (Nat.le_refl _) ((c_put hn (by omega) (by omega) (by omega) hcs.2.2.2 ht1 (fun σ2 ht2 hf2 => ?_)))
                  refine V.brF rfl (by decide) ?_
                  refine V.run 0 54 rfl hn trivial ?_
                  rw [iZ_add, show (depth : Int) + 1 = ((depth + 1 : Nat) : Int) by omega]
                  refine V.cv (lo := 54) (d' := d - 1) rfl rfl ok_X0_climb lk_0_X0_climb rfl rfl rfl hn (by omega) (Nat.le_refl _) (Nat.le_refl _) ((ih (b - costV p q r (u + 1)) (depth + 1) (d - 1) _ σ2 (r ++ [u + 1]) (by omega) (by omega) (by omega) (hBs.fr hf2 (by decide)) (by rw [hf2 22 (by decide)]; exact h3s) ht2 (by simp) (by simp; omega) (incR_app hi (by omega)) (by rw [lastD_app]; exact hu) (fun hrc σ3 ht3 hf3 => ?_) (fun hrc1 hrc2 σ3 ht3 hf3 => ?_)))
                  · rw [lastD_app] at hrc
                    refine V.run 0 54 rfl hn trivial ?_
                    try simp only [rc_1_0, rc_1_1, rc_1_2, rc_1_3, rc_1_4, rc_1_5, rc_2_0, rc_2_1, rc_2_2, rc_6_0, rc_6_1, rc_6_2, rc_6_3, rc_7_0, rc_7_1, rc_7_2, rc_7_3, rc_12_0, rc_12_1, rc_12_2, rc_12_3, rc_18_0, rc_18_1, rc_20_0, rc_20_1, rc_22_0, rc_23_0, rc_25_0, rc_27_0, rc_27_1, rc_27_2, rc_31_0, rc_31_1, rc_31_2, rc_55_0, rc_55_1, rc_55_2, rc_1_6, rc_1_7, rc_23_2, fi_0_1, fi_0_2, fi_0_3, fi_1_3, fi_1_4, fi_1_5, fi_1_6, fi_1_7, fi_2_2, fi_3_3, fi_3_4, fi_3_5, fi_4_1, fi_5_4, fi_5_5, fi_5_6, fi_5_7, fi_5_8, fi_5_9, fi_6_1, fi_7_3, fi_7_4]
                    refine V.cv (lo := 54) (d' := d - 1) rfl rfl ok_X7_takeBack lk_0_X7_takeBack rfl rfl rfl hn (by omega) (Nat.le_refl _) (Nat.le_refl _) ((c_takeBack hn (by omega) ht3 (fun σ4 ht4 hf4 => ?_)))
                    refine V.run 0 54 rfl hn trivial ?_
                    refine V.brF rfl (by decide) ?_
                    refine V.run 0 54 rfl hn trivial ?_
                    have hT : chs p q N (k + 1) r b = true := by
                      rw [chs_step]
                      refine ⟨u + 1, hc, by omega, ?_⟩
                      rcases hrc with z | z
                      · exact Or.inl z
                      · exact Or.inr z.2
                    refine V.ret (v := some (.int 1)) rfl rfl ⟨rfl, Or.inr rfl⟩ rfl (h1 (Or.inr ⟨hlt, hT⟩) σ4 ht4 (hf1.tr (hf2.tr (hf3.tr hf4))))
                  · rw [lastD_app] at hrc1
                    refine V.run 0 54 rfl hn trivial ?_
                    try simp only [rc_1_0, rc_1_1, rc_1_2, rc_1_3, rc_1_4, rc_1_5, rc_2_0, rc_2_1, rc_2_2, rc_6_0, rc_6_1, rc_6_2, rc_6_3, rc_7_0, rc_7_1, rc_7_2, rc_7_3, rc_12_0, rc_12_1, rc_12_2, rc_12_3, rc_18_0, rc_18_1, rc_20_0, rc_20_1, rc_22_0, rc_23_0, rc_25_0, rc_27_0, rc_27_1, rc_27_2, rc_31_0, rc_31_1, rc_31_2, rc_55_0, rc_55_1, rc_55_2, rc_1_6, rc_1_7, rc_23_2, fi_0_1, fi_0_2, fi_0_3, fi_1_3, fi_1_4, fi_1_5, fi_1_6, fi_1_7, fi_2_2, fi_3_3, fi_3_4, fi_3_5, fi_4_1, fi_5_4, fi_5_5, fi_5_6, fi_5_7, fi_5_8, fi_5_9, fi_6_1, fi_7_3, fi_7_4]
                    refine V.cv (lo := 54) (d' := d - 1) rfl rfl ok_X7_takeBack lk_0_X7_takeBack rfl rfl rfl hn (by omega) (Nat.le_refl _) (Nat.le_refl _) ((c_takeBack hn (by omega) ht3 (fun σ4 ht4 hf4 => ?_)))
                    refine V.run 0 54 rfl hn trivial ?_
                    refine V.brT rfl rfl ?_
                    refine k132 σ4 _ _ (fun _ _ z => ?_) ht4 (hf1.tr (hf2.tr (hf3.tr hf4)))
                    rcases z with z | z
                    · omega
                    · rw [hrc2] at z; cases z
                · refine V.brT rfl rfl ?_
                  have ho := chs_out (k := k) hB3 hi (by omega) (by omega) g2
                  refine k132 σ1 _ _ (fun _ _ z => ?_) ht1 hf1
                  rcases z with z | z
                  · exact ho.1 z
                  · rw [ho.2] at z; cases z
            · refine V.brT rfl rfl ?_
              exact k132 σ1 _ _ (fun g2 => absurd (hcm.mpr g2) g) ht1 hf1
      refine loop (min (2 * lastD r) N) σ none none (Nat.min_le_right _ _) (fun v hv g1 g2 => ?_) ht Fr.rf
      have hcs := candB_spec g1
      have := snB_le hcs.2.2.1 hi.2
      omega
variable {d : Nat} {Q : PQ} {σ : Mem}
theorem c_leastPrice (hn : 54 ≤ n) (hd : 32 ≤ d) {p q N : Nat} (hN : 1 ≤ N ∧ N ≤ 40) (hB : brgM σ p q) (ht : trI0 σ) (hQ : ∀ σ', brgM σ' p q → trI0 σ' → Fr [2, 3, 4, 5, 22] σ σ' → Q (some (.int (iZ (A_chp p q N)))) (rho ca cb tr) σ') : Mt M_X0_leastPrice d n n [.ref 22, .int (iZ N)] (rho ca cb tr) σ Q := by
  obtain ⟨k0, r0, ht0⟩ := ht
  have hB3 := hB.2.2
  refine Mt.of rfl (by decide +kernel) tk_X0_leastPrice (Nat.le_of_ble_eq_true rfl) ?_
  refine V.run 0 54 rfl hn trivial ?_
  try simp only [rc_1_0, rc_1_1, rc_1_2, rc_1_3, rc_1_4, rc_1_5, rc_2_0, rc_2_1, rc_2_2, rc_6_0, rc_6_1, rc_6_2, rc_6_3, rc_7_0, rc_7_1, rc_7_2, rc_7_3, rc_12_0, rc_12_1, rc_12_2, rc_12_3, rc_18_0, rc_18_1, rc_20_0, rc_20_1, rc_22_0, rc_23_0, rc_25_0, rc_27_0, rc_27_1, rc_27_2, rc_31_0, rc_31_1, rc_31_2, rc_55_0, rc_55_1, rc_55_2, rc_1_6, rc_1_7, rc_23_2, fi_0_1, fi_0_2, fi_0_3, fi_1_3, fi_1_4, fi_1_5, fi_1_6, fi_1_7, fi_2_2, fi_3_3, fi_3_4, fi_3_5, fi_4_1, fi_5_4, fi_5_5, fi_5_6, fi_5_7, fi_5_8, fi_5_9, fi_6_1, fi_7_3, fi_7_4]
  have hf0 : Fr [22] σ (up σ 22 3 (iZ N)) := Fr.put (by simp)
  have hB0 : brgM (up σ 22 3 (iZ N)) p q := ⟨by rw [up_nat (by decide)]; exact hB.1, by rw [up_nat (by decide)]; exact hB.2.1, hB3⟩
  have h30 : up σ 22 3 (iZ N) 22 3 = iZ N := up_at
  generalize up σ 22 3 (iZ N) = σ0 at *
  refine V.cv (lo := 54) (d' := d - 1) rfl rfl ok_X7_begin lk_0_X7_begin rfl rfl rfl hn (by omega) (Nat.le_refl _) (Nat.le_refl _) ((c_begin hn (by omega) (kind := 0) (by omega) (ht0.fr hf0 (by decide) (by decide) (by decide) (by decide)) (fun σ1 ht1 hf1 => ?_)))
  refine V.run 16 54 rfl hn trivial ?_
  have hE : (∀ k, k < A_chp p q N → 1 < N ∧ chs p q N 25 [1] k = false) ∧ (N = 1 ∨ (1 < N ∧ chs p q N 25 [1] (A_chp p q N) = true)) ∧ A_chp p q N ≤ 100 := by
    unfold A_chp
    by_cases e : N = 1
    · rw [if_pos e]
      exact ⟨fun k hk => by omega, Or.inl e, by omega⟩
    · rw [if_neg e]
      obtain ⟨a1, a2, a3, a4⟩ := feE_ok hB3 (N := N) (by omega)
      refine ⟨fun k hk => ⟨by omega, ?_⟩, Or.inr ⟨by omega, a1⟩, a2⟩
      cases hc : chs p q N 25 [1] k with
      | false => rfl
      | true =>
        have := chs_moreN hc 14
        rw [show 25 + 14 = 39 from rfl, a3 k hk] at this
        cases this
  obtain ⟨e1, e2, e3⟩ := hE
  have key : ∀ (j t : Nat) (σ2 : Mem), t + j = A_chp p q N → trialM σ2 0 [1] → Fr [2, 3, 4, 5] σ0 σ2 → V M_X0_leastPrice d n n none Q n (rho ca cb tr) σ2 16 [some (.ref 22), some (.int (iZ (N))), some (.int (iZ (t)))] [] := by
    intro j
    induction j with
    | zero =>
      intro t σ2 hj ht2 hf2
      have e : t = A_chp p q N := by omega
      subst e
      refine V.run 0 54 rfl hn trivial ?_
      refine V.brF rfl (fun c => by have := (iZ_lt (by omega) (by omega)).mp c; omega) ?_
      refine V.run 0 54 rfl hn trivial ?_
      refine V.cv (lo := 54) (d' := d - 1) rfl rfl ok_X0_climb lk_0_X0_climb rfl rfl rfl hn (by omega) (Nat.le_refl _) (Nat.le_refl _) ((c_bclimb hn hN 25 (A_chp p q N) 0 (d - 1) _ σ2 [1] (by omega) (by omega) (by omega) (hB0.fr hf2 (by decide)) (by rw [hf2 22 (by decide)]; exact h30) ht2 (by simp) (by simp) (incR_one 1) (by show 1 ≤ N; omega) (fun _ σ3 ht3 hf3 => ?_) (fun g1 g2 => ?_)))
      · refine V.brF rfl (by decide) ?_
        refine V.run 0 54 rfl hn trivial ?_
        refine V.ret (v := some (.int (iZ (A_chp p q N)))) rfl rfl rfl rfl (hQ σ3 ((hB0.fr hf2 (by decide)).fr hf3 (by decide)) ⟨_, _, ht3⟩ ((hf0.mono (by simp)).tr ((hf2.mono (by simp)).tr (hf3.mono (by simp)))))
      · have g1 : 1 < N := g1
        rcases e2 with z | z
        · omega
        · rw [z.2] at g2; cases g2
    | succ j ih =>
      intro t σ2 hj ht2 hf2
      obtain ⟨z1, z2⟩ := e1 t (by omega)
      refine V.run 0 54 rfl hn trivial ?_
      refine V.brF rfl (fun c => by have := (iZ_lt (by omega) (by omega)).mp c; omega) ?_
      refine V.run 0 54 rfl hn trivial ?_
      refine V.cv (lo := 54) (d' := d - 1) rfl rfl ok_X0_climb lk_0_X0_climb rfl rfl rfl hn (by omega) (Nat.le_refl _) (Nat.le_refl _) ((c_bclimb hn hN 25 t 0 (d - 1) _ σ2 [1] (by omega) (by omega) (by omega) (hB0.fr hf2 (by decide)) (by rw [hf2 22 (by decide)]; exact h30) ht2 (by simp) (by simp) (incR_one 1) (by show 1 ≤ N; omega) (fun g => ?_) (fun _ _ σ3 ht3 hf3 => ?_)))
      · have g : 1 = N ∨ (1 < N ∧ chs p q N 25 [1] t = true) := g
        rcases g with g | g
        · omega
        · rw [z2] at g; cases g.2
      · refine V.brT rfl rfl ?_
        refine V.run 0 54 rfl hn trivial ?_
        have := ih (t + 1) σ3 (by omega) ht3 (hf2.tr hf3)
        rw [show ((t + 1 : Nat) : Int) = (t : Int) + 1 by omega, ← iZ_add] at this
        exact this
  exact key (A_chp p q N) 0 σ1 (by omega) ht1 hf1
theorem c_cheapest (hn : 54 ≤ n) (hd : 33 ≤ d) {p q : Nat} {z : Int} (hz : -2147483648 ≤ z ∧ z < 2147483648) (hB : brgM σ p q) (ht : trI0 σ) (hbad : ¬ (1 ≤ z ∧ z ≤ 40) → Q (some (.int (iZ (-1)))) (rho ca cb tr) σ) (hQ : 1 ≤ z ∧ z ≤ 40 → ∀ σ', brgM σ' p q → trI0 σ' → Fr [2, 3, 4, 5, 22] σ σ' → Q (some (.int (iZ (A_chp p q z.toNat)))) (rho ca cb tr) σ') : Mt M_X8_cheapest d n n [.ref 1, .int (iZ z)] (rho ca cb tr) σ Q := by
  refine Mt.of rfl (by decide +kernel) tk_X8_cheapest (Nat.le_of_ble_eq_true rfl) ?_
  have bad : ¬ (1 ≤ z ∧ z ≤ 40) → V M_X8_cheapest d n n none Q n (rho ca cb tr) σ 11 [some (.ref 1), some (.int (iZ (z)))] [] := by
    intro h
    refine V.run 0 54 rfl hn trivial ?_
    refine V.ret (v := some (.int (iZ (-1)))) rfl rfl rfl rfl (hbad h)
  refine V.run 0 54 rfl hn trivial ?_
  refine V.br rfl (fun (c : iZ z < iZ 1) => ?_) (fun (c : ¬ (iZ z < iZ 1)) => ?_)
  · rw [iZ_lt (by omega) (by omega)] at c
    exact bad (by omega)
  · rw [iZ_lt (by omega) (by omega)] at c
    refine V.run 0 54 rfl hn trivial ?_
    refine V.br rfl (fun (c2 : iZ z ≤ iZ 40) => ?_) (fun (c2 : ¬ (iZ z ≤ iZ 40)) => ?_)
    · rw [iZ_le (by omega) (by omega)] at c2
      refine V.run 0 54 rfl hn trivial ?_
      try simp only [rc_1_0, rc_1_1, rc_1_2, rc_1_3, rc_1_4, rc_1_5, rc_2_0, rc_2_1, rc_2_2, rc_6_0, rc_6_1, rc_6_2, rc_6_3, rc_7_0, rc_7_1, rc_7_2, rc_7_3, rc_12_0, rc_12_1, rc_12_2, rc_12_3, rc_18_0, rc_18_1, rc_20_0, rc_20_1, rc_22_0, rc_23_0, rc_25_0, rc_27_0, rc_27_1, rc_27_2, rc_31_0, rc_31_1, rc_31_2, rc_55_0, rc_55_1, rc_55_2, rc_1_6, rc_1_7, rc_23_2, fi_0_1, fi_0_2, fi_0_3, fi_1_3, fi_1_4, fi_1_5, fi_1_6, fi_1_7, fi_2_2, fi_3_3, fi_3_4, fi_3_5, fi_4_1, fi_5_4, fi_5_5, fi_5_6, fi_5_7, fi_5_8, fi_5_9, fi_6_1, fi_7_3, fi_7_4]
      rw [show z = (z.toNat : Int) by omega]
      refine V.cv (lo := 54) (d' := d - 1) rfl rfl ok_X0_leastPrice lk_8_X0_leastPrice rfl rfl rfl hn (by omega) (Nat.le_refl _) (Nat.le_refl _) ((c_leastPrice hn (by omega) (by omega) hB ht (fun σ1 hB1 ht1 hf1 => ?_)))
      refine V.ret (v := some (.int (iZ (A_chp p q z.toNat)))) rfl rfl rfl rfl (hQ (by omega) σ1 hB1 ht1 hf1)
    · rw [iZ_le (by omega) (by omega)] at c2
      exact bad (by omega)
theorem c_price (hn : 54 ≤ n) (hd : 1 ≤ d) {p q : Nat} {w z : Int} (hw : -2147483648 ≤ w ∧ w < 2147483648) (hz : -2147483648 ≤ z ∧ z < 2147483648) (hB : brgM σ p q) (hbad : ¬ ((0 ≤ w ∧ w ≤ 1) ∧ 1 ≤ z ∧ z ≤ 4) → Q (some (.int (iZ (-1)))) (rho ca cb tr) σ) (h0 : w = 0 → 1 ≤ z ∧ z ≤ 4 → ∀ σ', brgM σ' z.toNat q → Fr [22] σ σ' → Q (some (.int (iZ p))) (rho ca cb tr) σ') (h1 : w = 1 → 1 ≤ z ∧ z ≤ 4 → ∀ σ', brgM σ' p z.toNat → Fr [22] σ σ' → Q (some (.int (iZ q))) (rho ca cb tr) σ') : Mt M_X8_price d n n [.ref 1, .int (iZ w), .int (iZ z)] (rho ca cb tr) σ Q := by
  obtain ⟨b1, b2, b3, b4⟩ := id hB
  refine Mt.of rfl (by decide +kernel) tk_X8_price (Nat.le_of_ble_eq_true rfl) ?_
  have bad : ¬ ((0 ≤ w ∧ w ≤ 1) ∧ 1 ≤ z ∧ z ≤ 4) → V M_X8_price d n n none Q n (rho ca cb tr) σ 19 [some (.ref 1), some (.int (iZ (w))), some (.int (iZ (z)))] [] := by
    intro h
    refine V.run 0 54 rfl hn trivial ?_
    refine V.ret (v := some (.int (iZ (-1)))) rfl rfl rfl rfl (hbad h)
  refine V.run 0 54 rfl hn trivial ?_
  refine V.br rfl (fun (c1 : iZ w < 0) => ?_) (fun (c1 : ¬ (iZ w < 0)) => ?_)
  · rw [iZ_lt0 (by omega)] at c1
    exact bad (by omega)
  · rw [iZ_lt0 (by omega)] at c1
    refine V.run 0 54 rfl hn trivial ?_
    refine V.br rfl (fun (c2 : iZ 1 < iZ w) => ?_) (fun (c2 : ¬ (iZ 1 < iZ w)) => ?_)
    · rw [iZ_lt (by omega) (by omega)] at c2
      exact bad (by omega)
    · rw [iZ_lt (by omega) (by omega)] at c2
      refine V.run 0 54 rfl hn trivial ?_
      refine V.br rfl (fun (c3 : iZ z < iZ 1) => ?_) (fun (c3 : ¬ (iZ z < iZ 1)) => ?_)
      · rw [iZ_lt (by omega) (by omega)] at c3
        exact bad (by omega)
      · rw [iZ_lt (by omega) (by omega)] at c3
        refine V.run 0 54 rfl hn trivial ?_
        refine V.br rfl (fun (c4 : iZ z ≤ iZ 4) => ?_) (fun (c4 : ¬ (iZ z ≤ iZ 4)) => ?_)
        · rw [iZ_le (by omega) (by omega)] at c4
          refine V.run 0 54 rfl hn trivial ?_
          try simp only [rc_1_0, rc_1_1, rc_1_2, rc_1_3, rc_1_4, rc_1_5, rc_2_0, rc_2_1, rc_2_2, rc_6_0, rc_6_1, rc_6_2, rc_6_3, rc_7_0, rc_7_1, rc_7_2, rc_7_3, rc_12_0, rc_12_1, rc_12_2, rc_12_3, rc_18_0, rc_18_1, rc_20_0, rc_20_1, rc_22_0, rc_23_0, rc_25_0, rc_27_0, rc_27_1, rc_27_2, rc_31_0, rc_31_1, rc_31_2, rc_55_0, rc_55_1, rc_55_2, rc_1_6, rc_1_7, rc_23_2, fi_0_1, fi_0_2, fi_0_3, fi_1_3, fi_1_4, fi_1_5, fi_1_6, fi_1_7, fi_2_2, fi_3_3, fi_3_4, fi_3_5, fi_4_1, fi_5_4, fi_5_5, fi_5_6, fi_5_7, fi_5_8, fi_5_9, fi_6_1, fi_7_3, fi_7_4]
          refine V.br rfl (fun (c5 : iZ w = 0) => ?_) (fun (c5 : ¬ (iZ w = 0)) => ?_)
          · rw [iZ_eq0 (by omega)] at c5
            have cp : Mt M_X0_changePrice (d - 1) n n [.ref 22, .int (iZ 1), .int (iZ z)] (rho ca cb tr) σ (fun v ρ' σ' => v = some (.int (iZ p)) ∧ ρ' = rho ca cb tr ∧ brgM σ' z.toNat q ∧ Fr [22] σ σ') := by
              refine Mt.of rfl (by decide +kernel) tk_X0_changePrice (Nat.le_of_ble_eq_true rfl) ?_
              refine V.run 0 54 rfl hn trivial ?_
              refine V.brF rfl (by decide) ?_
              refine V.run 0 54 rfl hn trivial ?_
              try simp only [rc_1_0, rc_1_1, rc_1_2, rc_1_3, rc_1_4, rc_1_5, rc_2_0, rc_2_1, rc_2_2, rc_6_0, rc_6_1, rc_6_2, rc_6_3, rc_7_0, rc_7_1, rc_7_2, rc_7_3, rc_12_0, rc_12_1, rc_12_2, rc_12_3, rc_18_0, rc_18_1, rc_20_0, rc_20_1, rc_22_0, rc_23_0, rc_25_0, rc_27_0, rc_27_1, rc_27_2, rc_31_0, rc_31_1, rc_31_2, rc_55_0, rc_55_1, rc_55_2, rc_1_6, rc_1_7, rc_23_2, fi_0_1, fi_0_2, fi_0_3, fi_1_3, fi_1_4, fi_1_5, fi_1_6, fi_1_7, fi_2_2, fi_3_3, fi_3_4, fi_3_5, fi_4_1, fi_5_4, fi_5_5, fi_5_6, fi_5_7, fi_5_8, fi_5_9, fi_6_1, fi_7_3, fi_7_4]
              rw [b1]
              refine V.run 0 54 rfl hn trivial ?_
              refine V.brF rfl (by decide) ?_
              refine V.run 0 54 rfl hn trivial ?_
              refine V.run 0 54 rfl hn trivial ?_
              refine V.ret (v := some (.int (iZ p))) rfl rfl rfl rfl (⟨rfl, rfl, ⟨?_, ?_, by omega, b4⟩, Fr.put (by simp)⟩)
              · rw [up_at]; exact iZ_pat (by omega)
              · rw [up_nat (by decide)]; exact b2
            refine V.run 0 54 rfl hn trivial ?_
            refine V.run 0 54 rfl hn trivial ?_
            refine V.cv (lo := 54) (d' := d - 1) rfl rfl ok_X0_changePrice lk_8_X0_changePrice rfl rfl rfl hn (by omega) (Nat.le_refl _) (Nat.le_refl _) ((cp.mono (fun v ρ' σ' h => ?_)))
            obtain ⟨rfl, rfl, h2, h3⟩ := h
            refine V.ret (v := some (.int (iZ p))) rfl rfl rfl rfl (h0 c5 (by omega) σ' h2 h3)
          · rw [iZ_eq0 (by omega)] at c5
            have cp : Mt M_X0_changePrice (d - 1) n n [.ref 22, .int (iZ 0), .int (iZ z)] (rho ca cb tr) σ (fun v ρ' σ' => v = some (.int (iZ q)) ∧ ρ' = rho ca cb tr ∧ brgM σ' p z.toNat ∧ Fr [22] σ σ') := by
              refine Mt.of rfl (by decide +kernel) tk_X0_changePrice (Nat.le_of_ble_eq_true rfl) ?_
              refine V.run 0 54 rfl hn trivial ?_
              refine V.brT rfl rfl ?_
              refine V.run 0 54 rfl hn trivial ?_
              try simp only [rc_1_0, rc_1_1, rc_1_2, rc_1_3, rc_1_4, rc_1_5, rc_2_0, rc_2_1, rc_2_2, rc_6_0, rc_6_1, rc_6_2, rc_6_3, rc_7_0, rc_7_1, rc_7_2, rc_7_3, rc_12_0, rc_12_1, rc_12_2, rc_12_3, rc_18_0, rc_18_1, rc_20_0, rc_20_1, rc_22_0, rc_23_0, rc_25_0, rc_27_0, rc_27_1, rc_27_2, rc_31_0, rc_31_1, rc_31_2, rc_55_0, rc_55_1, rc_55_2, rc_1_6, rc_1_7, rc_23_2, fi_0_1, fi_0_2, fi_0_3, fi_1_3, fi_1_4, fi_1_5, fi_1_6, fi_1_7, fi_2_2, fi_3_3, fi_3_4, fi_3_5, fi_4_1, fi_5_4, fi_5_5, fi_5_6, fi_5_7, fi_5_8, fi_5_9, fi_6_1, fi_7_3, fi_7_4]
              rw [b2]
              refine V.brT rfl rfl ?_
              refine V.run 0 54 rfl hn trivial ?_
              refine V.ret (v := some (.int (iZ q))) rfl rfl rfl rfl (⟨rfl, rfl, ⟨?_, ?_, b3, by omega⟩, Fr.put (by simp)⟩)
              · rw [up_nat (by decide)]; exact b1
              · rw [up_at]; exact iZ_pat (by omega)
            refine V.run 0 54 rfl hn trivial ?_
            refine V.cv (lo := 54) (d' := d - 1) rfl rfl ok_X0_changePrice lk_8_X0_changePrice rfl rfl rfl hn (by omega) (Nat.le_refl _) (Nat.le_refl _) ((cp.mono (fun v ρ' σ' h => ?_)))
            obtain ⟨rfl, rfl, h2, h3⟩ := h
            refine V.ret (v := some (.int (iZ q))) rfl rfl rfl rfl (h1 (by omega) (by omega) σ' h2 h3)
        · rw [iZ_le (by omega) (by omega)] at c4
          exact bad (by omega)
end CB2
