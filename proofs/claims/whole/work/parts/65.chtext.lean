/-! ===== the class: write, wipe, fault, take, chain, uses, drawers, power ===== -/
theorem upR_swap (a b tr : Nat) : upR (upR (rho a b tr) 1 7 a) 1 6 b = rho b a tr := by
  funext k
  by_cases hk : k = 1
  · subst hk
    funext j
    rw [upR_eq]
    show (if j = 6 then b else upR (rho a b tr) 1 7 a 1 j) = _
    rw [upR_eq]
    show (if j = 6 then b else if j = 7 then a else rho a b tr 1 j) = _
    match j with
    | 0 => rfl
    | 1 => rfl
    | 2 => rfl
    | 3 => rfl
    | 4 => rfl
    | 5 => rfl
    | 6 => rfl
    | 7 => rfl
    | j + 8 =>
      rw [if_neg (by omega), if_neg (by omega)]
      rfl
  · rw [upR_ne hk, upR_ne hk]
    match k with
    | 0 => rfl
    | 1 => exact absurd rfl hk
    | k + 2 => rfl
section CY0
variable {d n ca cb tr : Nat} {Q : PQ} {σ : Mem}
theorem c_write (hn : 54 ≤ n) (hd : 2 ≤ d) {z : Int} {v : Int64} {tx : List Nat} (hz : -2147483648 ≤ z ∧ z < 2147483648) (ht : txtM σ tx) (hbad : ¬ (1 ≤ z ∧ z ≤ 8) → Q (some (.int (iZ (-1)))) (rho ca cb tr) σ) (hfull : 1 ≤ z ∧ z ≤ 8 → 120 < tx.length + z → Q (some (.int (iZ (-3)))) (rho ca cb tr) σ) (hQ : 1 ≤ z ∧ z ≤ 8 → tx.length + z ≤ 120 → ∀ σ', txtM σ' (tx ++ wrL v z.toNat) → Fr [25, 26] σ σ' → Q (some (.int (iZ (tx.length + z)))) (rho ca cb tr) σ') : Mt M_X8_write d n n [.ref 1, .int (iZ z), .long v] (rho ca cb tr) σ Q := by
  have htl := ht.1
  refine Mt.of rfl (by decide +kernel) tk_X8_write (Nat.le_of_ble_eq_true rfl) ?_
  have bad : ¬ (1 ≤ z ∧ z ≤ 8) → V M_X8_write d n n none Q n (rho ca cb tr) σ 11 [some (.ref 1), some (.int (iZ (z))), some (.long (v)), none] [] := by
    intro h
    refine V.run 0 54 rfl hn trivial ?_
    refine V.ret (v := some (.int (iZ (-1)))) rfl rfl rfl rfl (hbad h)
  refine V.run 0 54 rfl hn trivial ?_
  refine V.br rfl (fun (c : iZ z < iZ 1) => ?_) (fun (c : ¬ (iZ z < iZ 1)) => ?_)
  · rw [iZ_lt (by omega) (by omega)] at c
    exact bad (by omega)
  · rw [iZ_lt (by omega) (by omega)] at c
    refine V.run 0 54 rfl hn trivial ?_
    refine V.br rfl (fun (c2 : iZ z ≤ iZ 8) => ?_) (fun (c2 : ¬ (iZ z ≤ iZ 8)) => ?_)
    · rw [iZ_le (by omega) (by omega)] at c2
      refine V.run 0 54 rfl hn trivial ?_
      try simp only [rc_1_0, rc_1_1, rc_1_2, rc_1_3, rc_1_4, rc_1_5, rc_2_0, rc_2_1, rc_2_2, rc_6_0, rc_6_1, rc_6_2, rc_6_3, rc_7_0, rc_7_1, rc_7_2, rc_7_3, rc_12_0, rc_12_1, rc_12_2, rc_12_3, rc_18_0, rc_18_1, rc_20_0, rc_20_1, rc_22_0, rc_23_0, rc_25_0, rc_27_0, rc_27_1, rc_27_2, rc_31_0, rc_31_1, rc_31_2, rc_55_0, rc_55_1, rc_55_2, rc_1_6, rc_1_7, rc_23_2, fi_0_1, fi_0_2, fi_0_3, fi_1_3, fi_1_4, fi_1_5, fi_1_6, fi_1_7, fi_2_2, fi_3_3, fi_3_4, fi_3_5, fi_4_1, fi_5_4, fi_5_5, fi_5_6, fi_5_7, fi_5_8, fi_5_9, fi_6_1, fi_7_3, fi_7_4]
      refine V.cv (lo := 54) (d' := d - 1) rfl rfl ok_X6_size lk_8_X6_size rfl rfl rfl hn (by omega) (Nat.le_refl _) (Nat.le_refl _) ((c_tsize hn ht ?_))
      refine V.run 0 54 rfl hn trivial ?_
      rw [iZ_add]
      refine V.br rfl (fun (c3 : iZ ((tx.length : Int) + z) ≤ iZ 120) => ?_) (fun (c3 : ¬ (iZ ((tx.length : Int) + z) ≤ iZ 120)) => ?_)
      · rw [iZ_le (by omega) (by omega)] at c3
        refine V.run 0 54 rfl hn trivial ?_
        try simp only [rc_1_0, rc_1_1, rc_1_2, rc_1_3, rc_1_4, rc_1_5, rc_2_0, rc_2_1, rc_2_2, rc_6_0, rc_6_1, rc_6_2, rc_6_3, rc_7_0, rc_7_1, rc_7_2, rc_7_3, rc_12_0, rc_12_1, rc_12_2, rc_12_3, rc_18_0, rc_18_1, rc_20_0, rc_20_1, rc_22_0, rc_23_0, rc_25_0, rc_27_0, rc_27_1, rc_27_2, rc_31_0, rc_31_1, rc_31_2, rc_55_0, rc_55_1, rc_55_2, rc_1_6, rc_1_7, rc_23_2, fi_0_1, fi_0_2, fi_0_3, fi_1_3, fi_1_4, fi_1_5, fi_1_6, fi_1_7, fi_2_2, fi_3_3, fi_3_4, fi_3_5, fi_4_1, fi_5_4, fi_5_5, fi_5_6, fi_5_7, fi_5_8, fi_5_9, fi_6_1, fi_7_3, fi_7_4]
        rw [show z = (z.toNat : Int) by omega]
        refine V.cv (lo := 54) (d' := d - 1) rfl rfl ok_X6_append lk_8_X6_append rfl rfl rfl hn (by omega) (Nat.le_refl _) (Nat.le_refl _) ((c_tappend hn (by omega) (by omega) (by omega) ht (fun σ1 ht1 hf1 => ?_)))
        refine V.run 0 54 rfl hn trivial ?_
        try simp only [rc_1_0, rc_1_1, rc_1_2, rc_1_3, rc_1_4, rc_1_5, rc_2_0, rc_2_1, rc_2_2, rc_6_0, rc_6_1, rc_6_2, rc_6_3, rc_7_0, rc_7_1, rc_7_2, rc_7_3, rc_12_0, rc_12_1, rc_12_2, rc_12_3, rc_18_0, rc_18_1, rc_20_0, rc_20_1, rc_22_0, rc_23_0, rc_25_0, rc_27_0, rc_27_1, rc_27_2, rc_31_0, rc_31_1, rc_31_2, rc_55_0, rc_55_1, rc_55_2, rc_1_6, rc_1_7, rc_23_2, fi_0_1, fi_0_2, fi_0_3, fi_1_3, fi_1_4, fi_1_5, fi_1_6, fi_1_7, fi_2_2, fi_3_3, fi_3_4, fi_3_5, fi_4_1, fi_5_4, fi_5_5, fi_5_6, fi_5_7, fi_5_8, fi_5_9, fi_6_1, fi_7_3, fi_7_4]
        refine V.cv (lo := 54) (d' := d - 1) rfl rfl ok_X6_size lk_8_X6_size rfl rfl rfl hn (by omega) (Nat.le_refl _) (Nat.le_refl _) ((c_tsize hn ht1 ?_))
        have e : (((tx ++ wrL v z.toNat).length : Nat) : Int) = (tx.length : Int) + z := by
          rw [List.length_append]
          simp [wrL]
          omega
        rw [e]
        refine V.ret (v := some (.int (iZ ((tx.length : Int) + z)))) rfl rfl rfl rfl (hQ (by omega) c3 σ1 ht1 hf1)
      · rw [iZ_le (by omega) (by omega)] at c3
        refine V.run 0 54 rfl hn trivial ?_
        refine V.ret (v := some (.int (iZ (-3)))) rfl rfl rfl rfl (hfull (by omega) (by omega))
    · rw [iZ_le (by omega) (by omega)] at c2
      exact bad (by omega)
theorem c_wipe (hn : 54 ≤ n) (hd : 1 ≤ d) {tx : List Nat} (ht : txtM σ tx) (hQ : ∀ σ', txtM σ' [] → Fr [25] σ σ' → Q (some (.int (iZ tx.length))) (rho ca cb tr) σ') : Mt M_X8_wipe d n n [.ref 1] (rho ca cb tr) σ Q := by
  refine Mt.of rfl (by decide +kernel) tk_X8_wipe (Nat.le_of_ble_eq_true rfl) ?_
  refine V.run 0 54 rfl hn trivial ?_
  try simp only [rc_1_0, rc_1_1, rc_1_2, rc_1_3, rc_1_4, rc_1_5, rc_2_0, rc_2_1, rc_2_2, rc_6_0, rc_6_1, rc_6_2, rc_6_3, rc_7_0, rc_7_1, rc_7_2, rc_7_3, rc_12_0, rc_12_1, rc_12_2, rc_12_3, rc_18_0, rc_18_1, rc_20_0, rc_20_1, rc_22_0, rc_23_0, rc_25_0, rc_27_0, rc_27_1, rc_27_2, rc_31_0, rc_31_1, rc_31_2, rc_55_0, rc_55_1, rc_55_2, rc_1_6, rc_1_7, rc_23_2, fi_0_1, fi_0_2, fi_0_3, fi_1_3, fi_1_4, fi_1_5, fi_1_6, fi_1_7, fi_2_2, fi_3_3, fi_3_4, fi_3_5, fi_4_1, fi_5_4, fi_5_5, fi_5_6, fi_5_7, fi_5_8, fi_5_9, fi_6_1, fi_7_3, fi_7_4]
  refine V.cv (lo := 54) (d' := d - 1) rfl rfl ok_X6_size lk_8_X6_size rfl rfl rfl hn (by omega) (Nat.le_refl _) (Nat.le_refl _) ((c_tsize hn ht ?_))
  refine V.run 0 54 rfl hn trivial ?_
  try simp only [rc_1_0, rc_1_1, rc_1_2, rc_1_3, rc_1_4, rc_1_5, rc_2_0, rc_2_1, rc_2_2, rc_6_0, rc_6_1, rc_6_2, rc_6_3, rc_7_0, rc_7_1, rc_7_2, rc_7_3, rc_12_0, rc_12_1, rc_12_2, rc_12_3, rc_18_0, rc_18_1, rc_20_0, rc_20_1, rc_22_0, rc_23_0, rc_25_0, rc_27_0, rc_27_1, rc_27_2, rc_31_0, rc_31_1, rc_31_2, rc_55_0, rc_55_1, rc_55_2, rc_1_6, rc_1_7, rc_23_2, fi_0_1, fi_0_2, fi_0_3, fi_1_3, fi_1_4, fi_1_5, fi_1_6, fi_1_7, fi_2_2, fi_3_3, fi_3_4, fi_3_5, fi_4_1, fi_5_4, fi_5_5, fi_5_6, fi_5_7, fi_5_8, fi_5_9, fi_6_1, fi_7_3, fi_7_4]
  refine V.cv (lo := 54) (d' := d - 1) rfl rfl ok_X6_clear lk_8_X6_clear rfl rfl rfl hn (by omega) (Nat.le_refl _) (Nat.le_refl _) ((c_tclear hn ht (fun σ1 ht1 hf1 => ?_)))
  refine V.run 0 54 rfl hn trivial ?_
  refine V.ret (v := some (.int (iZ tx.length))) rfl rfl rfl rfl (hQ σ1 ht1 hf1)
end CY0
section CY27
variable {d n tr : Nat} {Q : PQ} {σ : Mem}
theorem c_fault_27 (hn : 54 ≤ n) (hd : 6 ≤ d) {z : Int} {tx : List Nat} (hz : -2147483648 ≤ z ∧ z < 2147483648) (ht : txtM σ tx) (hbad : ¬ (0 ≤ z ∧ z ≤ 3) → Q (some (.int (iZ (-1)))) (rho 27 31 tr) σ) (hQ : 0 ≤ z ∧ z ≤ 3 → ∀ (σ' : Mem) (res : Int) (rf : List Nat), rdP z.toNat tx 121 0 [] res rf → Fr [31, 32, 33, 34] σ σ' → Q (some (.int (iZ res))) (rho 27 31 tr) σ') : Mt M_X8_fault d n n [.ref 1, .int (iZ z)] (rho 27 31 tr) σ Q := by
  refine Mt.of rfl (by decide +kernel) tk_X8_fault (Nat.le_of_ble_eq_true rfl) ?_
  refine V.run 0 54 rfl hn trivial ?_
  refine V.cs (d' := d - 1) rfl rfl ok_X8_isKind lk_8_X8_isKind rfl (by omega) (Nat.le_refl _) (Nat.le_refl _) ((c_isKind hz (fun g => ?_) (fun g => ?_)))
  · refine V.brF rfl (by decide) ?_
    refine V.run 0 54 rfl hn trivial ?_
    try simp only [rc_1_0, rc_1_1, rc_1_2, rc_1_3, rc_1_4, rc_1_5, rc_2_0, rc_2_1, rc_2_2, rc_6_0, rc_6_1, rc_6_2, rc_6_3, rc_7_0, rc_7_1, rc_7_2, rc_7_3, rc_12_0, rc_12_1, rc_12_2, rc_12_3, rc_18_0, rc_18_1, rc_20_0, rc_20_1, rc_22_0, rc_23_0, rc_25_0, rc_27_0, rc_27_1, rc_27_2, rc_31_0, rc_31_1, rc_31_2, rc_55_0, rc_55_1, rc_55_2, rc_1_6, rc_1_7, rc_23_2, fi_0_1, fi_0_2, fi_0_3, fi_1_3, fi_1_4, fi_1_5, fi_1_6, fi_1_7, fi_2_2, fi_3_3, fi_3_4, fi_3_5, fi_4_1, fi_5_4, fi_5_5, fi_5_6, fi_5_7, fi_5_8, fi_5_9, fi_6_1, fi_7_3, fi_7_4]
    rw [show z = (z.toNat : Int) by omega]
    refine V.cv (lo := 54) (d' := d - 1) rfl rfl ok_X6_readInto lk_8_X6_readInto rfl rfl rfl hn (by omega) (Nat.le_refl _) (Nat.le_refl _) ((c_readInto_31 hn (by omega) (by omega) ht (fun σ1 res rf h1 _ _ hf1 => ?_)))
    refine V.ret (v := some (.int (iZ res))) rfl rfl rfl rfl (hQ g σ1 res rf h1 hf1)
  · refine V.brT rfl rfl ?_
    refine V.run 0 54 rfl hn trivial ?_
    refine V.ret (v := some (.int (iZ (-1)))) rfl rfl rfl rfl (hbad g)
theorem c_take_27 (hn : 54 ≤ n) (hd : 6 ≤ d) {z : Int} {tx : List Nat} (hz : -2147483648 ≤ z ∧ z < 2147483648) (ht : txtM σ tx) (hbad : ¬ (0 ≤ z ∧ z ≤ 3) → Q (some (.int (iZ (-1)))) (rho 27 31 tr) σ) (hno : 0 ≤ z ∧ z ≤ 3 → ∀ (σ' : Mem) (res : Int) (rf : List Nat), rdP z.toNat tx 121 0 [] res rf → res ≠ -4 → Fr [31, 32, 33, 34] σ σ' → Q (some (.int (iZ (-2)))) (rho 27 31 tr) σ') (hQ : 0 ≤ z ∧ z ≤ 3 → ∀ (σ' : Mem) (rf : List Nat) (pk : Nat → Nat × Nat), rdP z.toNat tx 121 0 [] (-4) rf → chnM 31 σ' z.toNat rf pk → Fr [31, 32, 33, 34] σ σ' → Q (some (.int (iZ ((rf.length : Int) - 1)))) (rho 31 27 tr) σ') : Mt M_X8_take d n n [.ref 1, .int (iZ z)] (rho 27 31 tr) σ Q := by
  refine Mt.of rfl (by decide +kernel) tk_X8_take (Nat.le_of_ble_eq_true rfl) ?_
  refine V.run 0 54 rfl hn trivial ?_
  refine V.cs (d' := d - 1) rfl rfl ok_X8_isKind lk_8_X8_isKind rfl (by omega) (Nat.le_refl _) (Nat.le_refl _) ((c_isKind hz (fun g => ?_) (fun g => ?_)))
  · refine V.brF rfl (by decide) ?_
    refine V.run 0 54 rfl hn trivial ?_
    try simp only [rc_1_0, rc_1_1, rc_1_2, rc_1_3, rc_1_4, rc_1_5, rc_2_0, rc_2_1, rc_2_2, rc_6_0, rc_6_1, rc_6_2, rc_6_3, rc_7_0, rc_7_1, rc_7_2, rc_7_3, rc_12_0, rc_12_1, rc_12_2, rc_12_3, rc_18_0, rc_18_1, rc_20_0, rc_20_1, rc_22_0, rc_23_0, rc_25_0, rc_27_0, rc_27_1, rc_27_2, rc_31_0, rc_31_1, rc_31_2, rc_55_0, rc_55_1, rc_55_2, rc_1_6, rc_1_7, rc_23_2, fi_0_1, fi_0_2, fi_0_3, fi_1_3, fi_1_4, fi_1_5, fi_1_6, fi_1_7, fi_2_2, fi_3_3, fi_3_4, fi_3_5, fi_4_1, fi_5_4, fi_5_5, fi_5_6, fi_5_7, fi_5_8, fi_5_9, fi_6_1, fi_7_3, fi_7_4]
    rw [show z = (z.toNat : Int) by omega]
    refine V.cv (lo := 54) (d' := d - 1) rfl rfl ok_X6_readInto lk_8_X6_readInto rfl rfl rfl hn (by omega) (Nat.le_refl _) (Nat.le_refl _) ((c_readInto_31 hn (by omega) (by omega) ht (fun σ1 res rf h1 hb h2 hf1 => ?_)))
    refine V.run 0 54 rfl hn trivial ?_
    refine V.br rfl (fun (c : iZ res = iZ (-4)) => ?_) (fun (c : ¬ (iZ res = iZ (-4))) => ?_)
    · rw [iZ_eq (by omega) (by omega)] at c
      subst c
      obtain ⟨pk, hc⟩ := h2 rfl
      refine V.run 0 54 rfl hn trivial ?_
      refine V.putR (lo := 54) (t := 27) rfl rfl rfl rfl rfl rfl hn (by omega) ?_
      refine V.run 0 54 rfl hn trivial ?_
      refine V.putR (lo := 54) (t := 31) rfl rfl rfl rfl rfl rfl hn (by omega) ?_
      rw [upR_swap]
      refine V.run 0 54 rfl hn trivial ?_
      try simp only [rc_1_0, rc_1_1, rc_1_2, rc_1_3, rc_1_4, rc_1_5, rc_2_0, rc_2_1, rc_2_2, rc_6_0, rc_6_1, rc_6_2, rc_6_3, rc_7_0, rc_7_1, rc_7_2, rc_7_3, rc_12_0, rc_12_1, rc_12_2, rc_12_3, rc_18_0, rc_18_1, rc_20_0, rc_20_1, rc_22_0, rc_23_0, rc_25_0, rc_27_0, rc_27_1, rc_27_2, rc_31_0, rc_31_1, rc_31_2, rc_55_0, rc_55_1, rc_55_2, rc_1_6, rc_1_7, rc_23_2, fi_0_1, fi_0_2, fi_0_3, fi_1_3, fi_1_4, fi_1_5, fi_1_6, fi_1_7, fi_2_2, fi_3_3, fi_3_4, fi_3_5, fi_4_1, fi_5_4, fi_5_5, fi_5_6, fi_5_7, fi_5_8, fi_5_9, fi_6_1, fi_7_3, fi_7_4]
      refine V.cv (lo := 54) (d' := d - 1) rfl rfl ok_X1_steps lk_8_X1_steps rfl rfl rfl hn (by omega) (Nat.le_refl _) (Nat.le_refl _) ((c_csteps_31 hn hc ?_))
      refine V.ret (v := some (.int (iZ ((rf.length : Int) - 1)))) rfl rfl rfl rfl (hQ g σ1 rf pk h1 hc hf1)
    · rw [iZ_eq (by omega) (by omega)] at c
      refine V.run 0 54 rfl hn trivial ?_
      refine V.ret (v := some (.int (iZ (-2)))) rfl rfl rfl rfl (hno g σ1 res rf h1 c hf1)
  · refine V.brT rfl rfl ?_
    refine V.run 0 54 rfl hn trivial ?_
    refine V.ret (v := some (.int (iZ (-1)))) rfl rfl rfl rfl (hbad g)
theorem c_chain_27 (hn : 54 ≤ n) (hd : 1 ≤ d) {kind : Nat} {c : List Nat} {pk : Nat → Nat × Nat} {z : Int} (hz : -2147483648 ≤ z ∧ z < 2147483648) (hc : chnM 27 σ kind c pk) (hQ : Q (some (.int (iZ (if z < 0 then -1 else if z < c.length then (c.getD z.toNat 0 : Nat) else -4)))) (rho 27 31 tr) σ) : Mt M_X8_chain d n n [.ref 1, .int (iZ z)] (rho 27 31 tr) σ Q := by
  refine Mt.of rfl (by decide +kernel) tk_X8_chain (Nat.le_of_ble_eq_true rfl) ?_
  refine V.run 0 54 rfl hn trivial ?_
  refine V.br rfl (fun (c1 : 0 ≤ iZ z) => ?_) (fun (c1 : ¬ (0 ≤ iZ z)) => ?_)
  · rw [iZ_0le (by omega)] at c1
    rw [if_neg (by omega)] at hQ
    refine V.run 0 54 rfl hn trivial ?_
    try simp only [rc_1_0, rc_1_1, rc_1_2, rc_1_3, rc_1_4, rc_1_5, rc_2_0, rc_2_1, rc_2_2, rc_6_0, rc_6_1, rc_6_2, rc_6_3, rc_7_0, rc_7_1, rc_7_2, rc_7_3, rc_12_0, rc_12_1, rc_12_2, rc_12_3, rc_18_0, rc_18_1, rc_20_0, rc_20_1, rc_22_0, rc_23_0, rc_25_0, rc_27_0, rc_27_1, rc_27_2, rc_31_0, rc_31_1, rc_31_2, rc_55_0, rc_55_1, rc_55_2, rc_1_6, rc_1_7, rc_23_2, fi_0_1, fi_0_2, fi_0_3, fi_1_3, fi_1_4, fi_1_5, fi_1_6, fi_1_7, fi_2_2, fi_3_3, fi_3_4, fi_3_5, fi_4_1, fi_5_4, fi_5_5, fi_5_6, fi_5_7, fi_5_8, fi_5_9, fi_6_1, fi_7_3, fi_7_4]
    refine V.cv (lo := 54) (d' := d - 1) rfl rfl ok_X1_numberAt lk_8_X1_numberAt rfl rfl rfl hn (by omega) (Nat.le_refl _) (Nat.le_refl _) ((c_cnum_27 hn hz hc.1 ?_))
    have e : (if 0 ≤ z ∧ z < c.length then ((c.getD z.toNat 0 : Nat) : Int) else -4) = (if z < c.length then ((c.getD z.toNat 0 : Nat) : Int) else -4) := by
      by_cases h : z < c.length
      · rw [if_pos ⟨c1, h⟩, if_pos h]
      · rw [if_neg (fun q => h q.2), if_neg h]
    rw [e]
    refine V.ret (v := some (.int (iZ (if z < c.length then ((c.getD z.toNat 0 : Nat) : Int) else -4)))) rfl rfl rfl rfl (hQ)
  · rw [iZ_0le (by omega)] at c1
    rw [if_pos (by omega)] at hQ
    refine V.run 0 54 rfl hn trivial ?_
    refine V.ret (v := some (.int (iZ (-1)))) rfl rfl rfl rfl (hQ)
theorem c_uses_27 (hn : 54 ≤ n) (hd : 1 ≤ d) {kind : Nat} {c : List Nat} {pk : Nat → Nat × Nat} {z : Int} (hz : -2147483648 ≤ z ∧ z < 2147483648) (hc : chnM 27 σ kind c pk) (hQ : Q (some (.int (iZ (if z < 0 then -1 else if z < c.length then (useN pk z.toNat c.length : Nat) else -4)))) (rho 27 31 tr) σ) : Mt M_X8_uses d n n [.ref 1, .int (iZ z)] (rho 27 31 tr) σ Q := by
  refine Mt.of rfl (by decide +kernel) tk_X8_uses (Nat.le_of_ble_eq_true rfl) ?_
  refine V.run 0 54 rfl hn trivial ?_
  refine V.br rfl (fun (c1 : 0 ≤ iZ z) => ?_) (fun (c1 : ¬ (0 ≤ iZ z)) => ?_)
  · rw [iZ_0le (by omega)] at c1
    rw [if_neg (by omega)] at hQ
    refine V.run 0 54 rfl hn trivial ?_
    try simp only [rc_1_0, rc_1_1, rc_1_2, rc_1_3, rc_1_4, rc_1_5, rc_2_0, rc_2_1, rc_2_2, rc_6_0, rc_6_1, rc_6_2, rc_6_3, rc_7_0, rc_7_1, rc_7_2, rc_7_3, rc_12_0, rc_12_1, rc_12_2, rc_12_3, rc_18_0, rc_18_1, rc_20_0, rc_20_1, rc_22_0, rc_23_0, rc_25_0, rc_27_0, rc_27_1, rc_27_2, rc_31_0, rc_31_1, rc_31_2, rc_55_0, rc_55_1, rc_55_2, rc_1_6, rc_1_7, rc_23_2, fi_0_1, fi_0_2, fi_0_3, fi_1_3, fi_1_4, fi_1_5, fi_1_6, fi_1_7, fi_2_2, fi_3_3, fi_3_4, fi_3_5, fi_4_1, fi_5_4, fi_5_5, fi_5_6, fi_5_7, fi_5_8, fi_5_9, fi_6_1, fi_7_3, fi_7_4]
    refine V.cv (lo := 54) (d' := d - 1) rfl rfl ok_X1_usesAt lk_8_X1_usesAt rfl rfl rfl hn (by omega) (Nat.le_refl _) (Nat.le_refl _) ((c_cuses_27 hn hz hc ?_))
    have e : (if 0 ≤ z ∧ z < c.length then ((useN pk z.toNat c.length : Nat) : Int) else -4) = (if z < c.length then ((useN pk z.toNat c.length : Nat) : Int) else -4) := by
      by_cases h : z < c.length
      · rw [if_pos ⟨c1, h⟩, if_pos h]
      · rw [if_neg (fun q => h q.2), if_neg h]
    rw [e]
    refine V.ret (v := some (.int (iZ (if z < c.length then ((useN pk z.toNat c.length : Nat) : Int) else -4)))) rfl rfl rfl rfl (hQ)
  · rw [iZ_0le (by omega)] at c1
    rw [if_pos (by omega)] at hQ
    refine V.run 0 54 rfl hn trivial ?_
    refine V.ret (v := some (.int (iZ (-1)))) rfl rfl rfl rfl (hQ)
theorem c_drawers_27 (hn : 54 ≤ n) (hd : 2 ≤ d) {kind : Nat} {c : List Nat} {pk : Nat → Nat × Nat} (hne : 1 ≤ c.length) (hc : chnM 27 σ kind c pk) (hQ : Q (some (.int (iZ (mostN (fun t => lastN pk t c.length) c.length)))) (rho 27 31 tr) σ) : Mt M_X8_drawers d n n [.ref 1] (rho 27 31 tr) σ Q := by
  refine Mt.of rfl (by decide +kernel) tk_X8_drawers (Nat.le_of_ble_eq_true rfl) ?_
  refine V.run 0 54 rfl hn trivial ?_
  try simp only [rc_1_0, rc_1_1, rc_1_2, rc_1_3, rc_1_4, rc_1_5, rc_2_0, rc_2_1, rc_2_2, rc_6_0, rc_6_1, rc_6_2, rc_6_3, rc_7_0, rc_7_1, rc_7_2, rc_7_3, rc_12_0, rc_12_1, rc_12_2, rc_12_3, rc_18_0, rc_18_1, rc_20_0, rc_20_1, rc_22_0, rc_23_0, rc_25_0, rc_27_0, rc_27_1, rc_27_2, rc_31_0, rc_31_1, rc_31_2, rc_55_0, rc_55_1, rc_55_2, rc_1_6, rc_1_7, rc_23_2, fi_0_1, fi_0_2, fi_0_3, fi_1_3, fi_1_4, fi_1_5, fi_1_6, fi_1_7, fi_2_2, fi_3_3, fi_3_4, fi_3_5, fi_4_1, fi_5_4, fi_5_5, fi_5_6, fi_5_7, fi_5_8, fi_5_9, fi_6_1, fi_7_3, fi_7_4]
  refine V.cv (lo := 54) (d' := d - 1) rfl rfl ok_X1_mostAtOnce lk_8_X1_mostAtOnce rfl rfl rfl hn (by omega) (Nat.le_refl _) (Nat.le_refl _) ((c_mostAtOnce_27 hn (by omega) hne hc ?_))
  refine V.ret (v := some (.int (iZ (mostN (fun t => lastN pk t c.length) c.length)))) rfl rfl rfl rfl (hQ)
theorem c_power_27 (hn : 54 ≤ n) (hd : 2 ≤ d) {kind : Nat} {c : List Nat} {pk : Nat → Nat × Nat} {x m : Int} (hx : -2147483648 ≤ x ∧ x < 2147483648) (hm : -2147483648 ≤ m ∧ m < 2147483648) (hne : 1 ≤ c.length) (hc : chnM 27 σ kind c pk) (hbad : ¬ ((0 ≤ x ∧ x ≤ 1000000) ∧ 2 ≤ m ∧ m ≤ 1000000) → Q (some (.int (iZ (-1)))) (rho 27 31 tr) σ) (hQ : (0 ≤ x ∧ x ≤ 1000000) ∧ 2 ≤ m ∧ m ≤ 1000000 → Q (some (.int (iZ (x.toNat ^ lastD c % m.toNat : Nat)))) (rho 27 31 tr) σ) : Mt M_X8_power d n n [.ref 1, .int (iZ x), .int (iZ m)] (rho 27 31 tr) σ Q := by
  have hb := hc.1.1.2.1 _ (getD_mem2 (r := c) (i := c.length - 1) (by omega))
  rw [← lastD_eq (by omega)] at hb
  refine Mt.of rfl (by decide +kernel) tk_X8_power (Nat.le_of_ble_eq_true rfl) ?_
  have bad : ∀ x3 x4 x5 x6, ¬ ((0 ≤ x ∧ x ≤ 1000000) ∧ 2 ≤ m ∧ m ≤ 1000000) → V M_X8_power d n n none Q n (rho 27 31 tr) σ 21 [some (.ref 1), some (.int (iZ (x))), some (.int (iZ (m))), x3, x4, x5, x6] [] := by
    intro x3 x4 x5 x6 h
    refine V.run 0 54 rfl hn trivial ?_
    refine V.ret (v := some (.int (iZ (-1)))) rfl rfl rfl rfl (hbad h)
  refine V.run 0 54 rfl hn trivial ?_
  refine V.br rfl (fun (c1 : iZ x < 0) => ?_) (fun (c1 : ¬ (iZ x < 0)) => ?_)
  · rw [iZ_lt0 (by omega)] at c1
    exact bad _ _ _ _ (by omega)
  · rw [iZ_lt0 (by omega)] at c1
    refine V.run 0 54 rfl hn trivial ?_
    refine V.br rfl (fun (c2 : iZ 1000000 < iZ x) => ?_) (fun (c2 : ¬ (iZ 1000000 < iZ x)) => ?_)
    · rw [iZ_lt (by omega) (by omega)] at c2
      exact bad _ _ _ _ (by omega)
    · rw [iZ_lt (by omega) (by omega)] at c2
      refine V.run 0 54 rfl hn trivial ?_
      refine V.br rfl (fun (c3 : iZ m < iZ 2) => ?_) (fun (c3 : ¬ (iZ m < iZ 2)) => ?_)
      · rw [iZ_lt (by omega) (by omega)] at c3
        exact bad _ _ _ _ (by omega)
      · rw [iZ_lt (by omega) (by omega)] at c3
        refine V.run 0 54 rfl hn trivial ?_
        refine V.br rfl (fun (c4 : iZ m ≤ iZ 1000000) => ?_) (fun (c4 : ¬ (iZ m ≤ iZ 1000000)) => ?_)
        · rw [iZ_le (by omega) (by omega)] at c4
          have hQ := hQ (by omega)
          obtain ⟨a, ha⟩ : ∃ a : Nat, x = a := ⟨x.toNat, by omega⟩
          obtain ⟨b, hb2⟩ : ∃ b : Nat, m = b := ⟨m.toNat, by omega⟩
          subst ha hb2
          rw [Int.toNat_natCast, Int.toNat_natCast] at hQ
          refine V.run 0 54 rfl hn trivial ?_
          try simp only [rc_1_0, rc_1_1, rc_1_2, rc_1_3, rc_1_4, rc_1_5, rc_2_0, rc_2_1, rc_2_2, rc_6_0, rc_6_1, rc_6_2, rc_6_3, rc_7_0, rc_7_1, rc_7_2, rc_7_3, rc_12_0, rc_12_1, rc_12_2, rc_12_3, rc_18_0, rc_18_1, rc_20_0, rc_20_1, rc_22_0, rc_23_0, rc_25_0, rc_27_0, rc_27_1, rc_27_2, rc_31_0, rc_31_1, rc_31_2, rc_55_0, rc_55_1, rc_55_2, rc_1_6, rc_1_7, rc_23_2, fi_0_1, fi_0_2, fi_0_3, fi_1_3, fi_1_4, fi_1_5, fi_1_6, fi_1_7, fi_2_2, fi_3_3, fi_3_4, fi_3_5, fi_4_1, fi_5_4, fi_5_5, fi_5_6, fi_5_7, fi_5_8, fi_5_9, fi_6_1, fi_7_3, fi_7_4]
          refine V.cv (lo := 54) (d' := d - 1) rfl rfl ok_X1_latest lk_8_X1_latest rfl rfl rfl hn (by omega) (Nat.le_refl _) (Nat.le_refl _) ((c_clatest_27 hn (by omega) hne hc.1 ?_))
          generalize lastD c = t at hb hQ ⊢
          refine V.run 38 54 rfl hn trivial ?_
          have hm0 : ¬ lZ (b : Int) = 0 := fun e => by
            have := congrArg Int64.toInt e
            rw [lZ_toInt (by omega)] at this
            have e0 : (0 : Int64).toInt = 0 := by decide
            omega
          have key : ∀ j : Nat, j ≤ 17 → V M_X8_power d n n none Q n (rho 27 31 tr) σ 38 [some (.ref 1), some (.int (iZ (a))), some (.int (iZ (b))), some (.int (iZ (t))), some (.long ((lZ ((a ^ (t / 2 ^ j) % b : Nat) : Int)))), none, some (.int (iZ (((j : Int) - 1))))] [] := by
            intro j
            induction j with
            | zero =>
              intro hj
              refine V.run 0 54 rfl hn trivial ?_
              refine V.brT rfl (by decide) ?_
              have hr : a ^ (t / 2 ^ 0) % b < b := Nat.mod_lt _ (by omega)
              refine V.run 0 54 rfl hn trivial ?_
              rw [lZ_int (by omega), Nat.pow_zero, Nat.div_one]
              refine V.ret (v := some (.int (iZ ((a ^ t % b : Nat) : Int)))) rfl rfl rfl rfl (hQ)
            | succ j ih =>
              intro hj
              have ih := ih (by omega)
              have hpb := pow_bit a b t j
              have hr : a ^ (t / 2 ^ (j + 1)) % b < b := Nat.mod_lt _ (by omega)
              generalize a ^ (t / 2 ^ (j + 1)) % b = R at hpb hr ⊢
              have hRR : R * R ≤ 1000000 * 1000000 := Nat.mul_le_mul (by omega) (by omega)
              have hR2 : R * R % b < b := Nat.mod_lt _ (by omega)
              have hRx : R * R % b * a ≤ 1000000 * 1000000 := Nat.mul_le_mul (by omega) (by omega)
              have htj : t / 2 ^ j ≤ t := Nat.div_le_self _ _
              have k73 : ∀ y : Nat, y = a ^ (t / 2 ^ j) % b → V M_X8_power d n n none Q n (rho 27 31 tr) σ 73 [some (.ref 1), some (.int (iZ (a))), some (.int (iZ (b))), some (.int (iZ (t))), some (.long ((lZ (y : Int)))), none, some (.int (iZ ((((j + 1 : Nat) : Int) - 1))))] [] := by
                intro y hy
                refine V.run 0 54 rfl hn trivial ?_
                rw [hy]
                rw [show ((j : Nat) : Int) - 1 = ((j + 1 : Nat) : Int) - 1 + (-1) by omega, ← iZ_add] at ih
                exact ih
              refine V.run 0 54 rfl hn trivial ?_
              refine V.brF rfl (fun q => by have := (iZ_lt0 (by omega)).mp q; omega) ?_
              refine V.run 0 54 rfl hn ⟨by rw [iZ_long (by omega)]; exact hm0, trivial⟩ ?_
              rw [iZ_long (by omega), lZ_mul, lZ_rem (by have : ((R * R : Nat) : Int) = (R : Int) * R := by simp
                                                         omega) (by omega)]
              rw [show (R : Int) * R % b = ((R * R % b : Nat) : Int) by simp, show (((j + 1 : Nat) : Int) - 1) = (j : Int) by omega, iZ_shr (by omega) (by omega), show (t : Int) / 2 ^ j = ((t / 2 ^ j : Nat) : Int) by simp, and_one (by omega)]
              rw [show (((j + 1 : Nat) : Int) - 1) = (j : Int) by omega] at k73
              refine V.br rfl (fun (c5 : iZ ((t / 2 ^ j % 2 : Nat) : Int) = iZ 1) => ?_) (fun (c5 : ¬ (iZ ((t / 2 ^ j % 2 : Nat) : Int) = iZ 1)) => ?_)
              · rw [iZ_eq (by omega) (by omega)] at c5
                rw [if_pos (by omega)] at hpb
                refine V.run 73 54 rfl hn ⟨by rw [iZ_long (by omega)]; exact hm0, trivial⟩ ?_
                rw [iZ_long (by omega), iZ_long (by omega), lZ_mul, lZ_rem (by have : ((R * R % b * a : Nat) : Int) = ((R * R % b : Nat) : Int) * a := by simp
                                                                               omega) (by omega)]
                have := k73 (R * R % b * a % b) hpb.symm
                rw [Int.natCast_emod (R * R % b * a) b, Int.natCast_mul (R * R % b) a] at this
                exact this
              · rw [iZ_eq (by omega) (by omega)] at c5
                rw [if_neg (by omega), Nat.mul_one, Nat.mod_mod] at hpb
                exact k73 (R * R % b) hpb.symm
          have h17 : t / 2 ^ 17 = 0 := Nat.div_eq_of_lt (by have : (2 : Nat) ^ 17 = 131072 := by decide
                                                            omega)
          have := key 17 (by omega)
          rw [h17, Nat.pow_zero, Nat.mod_eq_of_lt (by omega)] at this
          exact this
        · rw [iZ_le (by omega) (by omega)] at c4
          exact bad _ _ _ _ (by omega)
end CY27
section CY31
variable {d n tr : Nat} {Q : PQ} {σ : Mem}
theorem c_fault_31 (hn : 54 ≤ n) (hd : 6 ≤ d) {z : Int} {tx : List Nat} (hz : -2147483648 ≤ z ∧ z < 2147483648) (ht : txtM σ tx) (hbad : ¬ (0 ≤ z ∧ z ≤ 3) → Q (some (.int (iZ (-1)))) (rho 31 27 tr) σ) (hQ : 0 ≤ z ∧ z ≤ 3 → ∀ (σ' : Mem) (res : Int) (rf : List Nat), rdP z.toNat tx 121 0 [] res rf → Fr [27, 28, 29, 30] σ σ' → Q (some (.int (iZ res))) (rho 31 27 tr) σ') : Mt M_X8_fault d n n [.ref 1, .int (iZ z)] (rho 31 27 tr) σ Q := by
  refine Mt.of rfl (by decide +kernel) tk_X8_fault (Nat.le_of_ble_eq_true rfl) ?_
  refine V.run 0 54 rfl hn trivial ?_
  refine V.cs (d' := d - 1) rfl rfl ok_X8_isKind lk_8_X8_isKind rfl (by omega) (Nat.le_refl _) (Nat.le_refl _) ((c_isKind hz (fun g => ?_) (fun g => ?_)))
  · refine V.brF rfl (by decide) ?_
    refine V.run 0 54 rfl hn trivial ?_
    try simp only [rc_1_0, rc_1_1, rc_1_2, rc_1_3, rc_1_4, rc_1_5, rc_2_0, rc_2_1, rc_2_2, rc_6_0, rc_6_1, rc_6_2, rc_6_3, rc_7_0, rc_7_1, rc_7_2, rc_7_3, rc_12_0, rc_12_1, rc_12_2, rc_12_3, rc_18_0, rc_18_1, rc_20_0, rc_20_1, rc_22_0, rc_23_0, rc_25_0, rc_27_0, rc_27_1, rc_27_2, rc_31_0, rc_31_1, rc_31_2, rc_55_0, rc_55_1, rc_55_2, rc_1_6, rc_1_7, rc_23_2, fi_0_1, fi_0_2, fi_0_3, fi_1_3, fi_1_4, fi_1_5, fi_1_6, fi_1_7, fi_2_2, fi_3_3, fi_3_4, fi_3_5, fi_4_1, fi_5_4, fi_5_5, fi_5_6, fi_5_7, fi_5_8, fi_5_9, fi_6_1, fi_7_3, fi_7_4]
    rw [show z = (z.toNat : Int) by omega]
    refine V.cv (lo := 54) (d' := d - 1) rfl rfl ok_X6_readInto lk_8_X6_readInto rfl rfl rfl hn (by omega) (Nat.le_refl _) (Nat.le_refl _) ((c_readInto_27 hn (by omega) (by omega) ht (fun σ1 res rf h1 _ _ hf1 => ?_)))
    refine V.ret (v := some (.int (iZ res))) rfl rfl rfl rfl (hQ g σ1 res rf h1 hf1)
  · refine V.brT rfl rfl ?_
    refine V.run 0 54 rfl hn trivial ?_
    refine V.ret (v := some (.int (iZ (-1)))) rfl rfl rfl rfl (hbad g)
theorem c_take_31 (hn : 54 ≤ n) (hd : 6 ≤ d) {z : Int} {tx : List Nat} (hz : -2147483648 ≤ z ∧ z < 2147483648) (ht : txtM σ tx) (hbad : ¬ (0 ≤ z ∧ z ≤ 3) → Q (some (.int (iZ (-1)))) (rho 31 27 tr) σ) (hno : 0 ≤ z ∧ z ≤ 3 → ∀ (σ' : Mem) (res : Int) (rf : List Nat), rdP z.toNat tx 121 0 [] res rf → res ≠ -4 → Fr [27, 28, 29, 30] σ σ' → Q (some (.int (iZ (-2)))) (rho 31 27 tr) σ') (hQ : 0 ≤ z ∧ z ≤ 3 → ∀ (σ' : Mem) (rf : List Nat) (pk : Nat → Nat × Nat), rdP z.toNat tx 121 0 [] (-4) rf → chnM 27 σ' z.toNat rf pk → Fr [27, 28, 29, 30] σ σ' → Q (some (.int (iZ ((rf.length : Int) - 1)))) (rho 27 31 tr) σ') : Mt M_X8_take d n n [.ref 1, .int (iZ z)] (rho 31 27 tr) σ Q := by
  refine Mt.of rfl (by decide +kernel) tk_X8_take (Nat.le_of_ble_eq_true rfl) ?_
  refine V.run 0 54 rfl hn trivial ?_
  refine V.cs (d' := d - 1) rfl rfl ok_X8_isKind lk_8_X8_isKind rfl (by omega) (Nat.le_refl _) (Nat.le_refl _) ((c_isKind hz (fun g => ?_) (fun g => ?_)))
  · refine V.brF rfl (by decide) ?_
    refine V.run 0 54 rfl hn trivial ?_
    try simp only [rc_1_0, rc_1_1, rc_1_2, rc_1_3, rc_1_4, rc_1_5, rc_2_0, rc_2_1, rc_2_2, rc_6_0, rc_6_1, rc_6_2, rc_6_3, rc_7_0, rc_7_1, rc_7_2, rc_7_3, rc_12_0, rc_12_1, rc_12_2, rc_12_3, rc_18_0, rc_18_1, rc_20_0, rc_20_1, rc_22_0, rc_23_0, rc_25_0, rc_27_0, rc_27_1, rc_27_2, rc_31_0, rc_31_1, rc_31_2, rc_55_0, rc_55_1, rc_55_2, rc_1_6, rc_1_7, rc_23_2, fi_0_1, fi_0_2, fi_0_3, fi_1_3, fi_1_4, fi_1_5, fi_1_6, fi_1_7, fi_2_2, fi_3_3, fi_3_4, fi_3_5, fi_4_1, fi_5_4, fi_5_5, fi_5_6, fi_5_7, fi_5_8, fi_5_9, fi_6_1, fi_7_3, fi_7_4]
    rw [show z = (z.toNat : Int) by omega]
    refine V.cv (lo := 54) (d' := d - 1) rfl rfl ok_X6_readInto lk_8_X6_readInto rfl rfl rfl hn (by omega) (Nat.le_refl _) (Nat.le_refl _) ((c_readInto_27 hn (by omega) (by omega) ht (fun σ1 res rf h1 hb h2 hf1 => ?_)))
    refine V.run 0 54 rfl hn trivial ?_
    refine V.br rfl (fun (c : iZ res = iZ (-4)) => ?_) (fun (c : ¬ (iZ res = iZ (-4))) => ?_)
    · rw [iZ_eq (by omega) (by omega)] at c
      subst c
      obtain ⟨pk, hc⟩ := h2 rfl
      refine V.run 0 54 rfl hn trivial ?_
      refine V.putR (lo := 54) (t := 31) rfl rfl rfl rfl rfl rfl hn (by omega) ?_
      refine V.run 0 54 rfl hn trivial ?_
      refine V.putR (lo := 54) (t := 27) rfl rfl rfl rfl rfl rfl hn (by omega) ?_
      rw [upR_swap]
      refine V.run 0 54 rfl hn trivial ?_
      try simp only [rc_1_0, rc_1_1, rc_1_2, rc_1_3, rc_1_4, rc_1_5, rc_2_0, rc_2_1, rc_2_2, rc_6_0, rc_6_1, rc_6_2, rc_6_3, rc_7_0, rc_7_1, rc_7_2, rc_7_3, rc_12_0, rc_12_1, rc_12_2, rc_12_3, rc_18_0, rc_18_1, rc_20_0, rc_20_1, rc_22_0, rc_23_0, rc_25_0, rc_27_0, rc_27_1, rc_27_2, rc_31_0, rc_31_1, rc_31_2, rc_55_0, rc_55_1, rc_55_2, rc_1_6, rc_1_7, rc_23_2, fi_0_1, fi_0_2, fi_0_3, fi_1_3, fi_1_4, fi_1_5, fi_1_6, fi_1_7, fi_2_2, fi_3_3, fi_3_4, fi_3_5, fi_4_1, fi_5_4, fi_5_5, fi_5_6, fi_5_7, fi_5_8, fi_5_9, fi_6_1, fi_7_3, fi_7_4]
      refine V.cv (lo := 54) (d' := d - 1) rfl rfl ok_X1_steps lk_8_X1_steps rfl rfl rfl hn (by omega) (Nat.le_refl _) (Nat.le_refl _) ((c_csteps_27 hn hc ?_))
      refine V.ret (v := some (.int (iZ ((rf.length : Int) - 1)))) rfl rfl rfl rfl (hQ g σ1 rf pk h1 hc hf1)
    · rw [iZ_eq (by omega) (by omega)] at c
      refine V.run 0 54 rfl hn trivial ?_
      refine V.ret (v := some (.int (iZ (-2)))) rfl rfl rfl rfl (hno g σ1 res rf h1 c hf1)
  · refine V.brT rfl rfl ?_
    refine V.run 0 54 rfl hn trivial ?_
    refine V.ret (v := some (.int (iZ (-1)))) rfl rfl rfl rfl (hbad g)
theorem c_chain_31 (hn : 54 ≤ n) (hd : 1 ≤ d) {kind : Nat} {c : List Nat} {pk : Nat → Nat × Nat} {z : Int} (hz : -2147483648 ≤ z ∧ z < 2147483648) (hc : chnM 31 σ kind c pk) (hQ : Q (some (.int (iZ (if z < 0 then -1 else if z < c.length then (c.getD z.toNat 0 : Nat) else -4)))) (rho 31 27 tr) σ) : Mt M_X8_chain d n n [.ref 1, .int (iZ z)] (rho 31 27 tr) σ Q := by
  refine Mt.of rfl (by decide +kernel) tk_X8_chain (Nat.le_of_ble_eq_true rfl) ?_
  refine V.run 0 54 rfl hn trivial ?_
  refine V.br rfl (fun (c1 : 0 ≤ iZ z) => ?_) (fun (c1 : ¬ (0 ≤ iZ z)) => ?_)
  · rw [iZ_0le (by omega)] at c1
    rw [if_neg (by omega)] at hQ
    refine V.run 0 54 rfl hn trivial ?_
    try simp only [rc_1_0, rc_1_1, rc_1_2, rc_1_3, rc_1_4, rc_1_5, rc_2_0, rc_2_1, rc_2_2, rc_6_0, rc_6_1, rc_6_2, rc_6_3, rc_7_0, rc_7_1, rc_7_2, rc_7_3, rc_12_0, rc_12_1, rc_12_2, rc_12_3, rc_18_0, rc_18_1, rc_20_0, rc_20_1, rc_22_0, rc_23_0, rc_25_0, rc_27_0, rc_27_1, rc_27_2, rc_31_0, rc_31_1, rc_31_2, rc_55_0, rc_55_1, rc_55_2, rc_1_6, rc_1_7, rc_23_2, fi_0_1, fi_0_2, fi_0_3, fi_1_3, fi_1_4, fi_1_5, fi_1_6, fi_1_7, fi_2_2, fi_3_3, fi_3_4, fi_3_5, fi_4_1, fi_5_4, fi_5_5, fi_5_6, fi_5_7, fi_5_8, fi_5_9, fi_6_1, fi_7_3, fi_7_4]
    refine V.cv (lo := 54) (d' := d - 1) rfl rfl ok_X1_numberAt lk_8_X1_numberAt rfl rfl rfl hn (by omega) (Nat.le_refl _) (Nat.le_refl _) ((c_cnum_31 hn hz hc.1 ?_))
    have e : (if 0 ≤ z ∧ z < c.length then ((c.getD z.toNat 0 : Nat) : Int) else -4) = (if z < c.length then ((c.getD z.toNat 0 : Nat) : Int) else -4) := by
      by_cases h : z < c.length
      · rw [if_pos ⟨c1, h⟩, if_pos h]
      · rw [if_neg (fun q => h q.2), if_neg h]
    rw [e]
    refine V.ret (v := some (.int (iZ (if z < c.length then ((c.getD z.toNat 0 : Nat) : Int) else -4)))) rfl rfl rfl rfl (hQ)
  · rw [iZ_0le (by omega)] at c1
    rw [if_pos (by omega)] at hQ
    refine V.run 0 54 rfl hn trivial ?_
    refine V.ret (v := some (.int (iZ (-1)))) rfl rfl rfl rfl (hQ)
theorem c_uses_31 (hn : 54 ≤ n) (hd : 1 ≤ d) {kind : Nat} {c : List Nat} {pk : Nat → Nat × Nat} {z : Int} (hz : -2147483648 ≤ z ∧ z < 2147483648) (hc : chnM 31 σ kind c pk) (hQ : Q (some (.int (iZ (if z < 0 then -1 else if z < c.length then (useN pk z.toNat c.length : Nat) else -4)))) (rho 31 27 tr) σ) : Mt M_X8_uses d n n [.ref 1, .int (iZ z)] (rho 31 27 tr) σ Q := by
  refine Mt.of rfl (by decide +kernel) tk_X8_uses (Nat.le_of_ble_eq_true rfl) ?_
  refine V.run 0 54 rfl hn trivial ?_
  refine V.br rfl (fun (c1 : 0 ≤ iZ z) => ?_) (fun (c1 : ¬ (0 ≤ iZ z)) => ?_)
  · rw [iZ_0le (by omega)] at c1
    rw [if_neg (by omega)] at hQ
    refine V.run 0 54 rfl hn trivial ?_
    try simp only [rc_1_0, rc_1_1, rc_1_2, rc_1_3, rc_1_4, rc_1_5, rc_2_0, rc_2_1, rc_2_2, rc_6_0, rc_6_1, rc_6_2, rc_6_3, rc_7_0, rc_7_1, rc_7_2, rc_7_3, rc_12_0, rc_12_1, rc_12_2, rc_12_3, rc_18_0, rc_18_1, rc_20_0, rc_20_1, rc_22_0, rc_23_0, rc_25_0, rc_27_0, rc_27_1, rc_27_2, rc_31_0, rc_31_1, rc_31_2, rc_55_0, rc_55_1, rc_55_2, rc_1_6, rc_1_7, rc_23_2, fi_0_1, fi_0_2, fi_0_3, fi_1_3, fi_1_4, fi_1_5, fi_1_6, fi_1_7, fi_2_2, fi_3_3, fi_3_4, fi_3_5, fi_4_1, fi_5_4, fi_5_5, fi_5_6, fi_5_7, fi_5_8, fi_5_9, fi_6_1, fi_7_3, fi_7_4]
    refine V.cv (lo := 54) (d' := d - 1) rfl rfl ok_X1_usesAt lk_8_X1_usesAt rfl rfl rfl hn (by omega) (Nat.le_refl _) (Nat.le_refl _) ((c_cuses_31 hn hz hc ?_))
    have e : (if 0 ≤ z ∧ z < c.length then ((useN pk z.toNat c.length : Nat) : Int) else -4) = (if z < c.length then ((useN pk z.toNat c.length : Nat) : Int) else -4) := by
      by_cases h : z < c.length
      · rw [if_pos ⟨c1, h⟩, if_pos h]
      · rw [if_neg (fun q => h q.2), if_neg h]
    rw [e]
    refine V.ret (v := some (.int (iZ (if z < c.length then ((useN pk z.toNat c.length : Nat) : Int) else -4)))) rfl rfl rfl rfl (hQ)
  · rw [iZ_0le (by omega)] at c1
    rw [if_pos (by omega)] at hQ
    refine V.run 0 54 rfl hn trivial ?_
    refine V.ret (v := some (.int (iZ (-1)))) rfl rfl rfl rfl (hQ)
theorem c_drawers_31 (hn : 54 ≤ n) (hd : 2 ≤ d) {kind : Nat} {c : List Nat} {pk : Nat → Nat × Nat} (hne : 1 ≤ c.length) (hc : chnM 31 σ kind c pk) (hQ : Q (some (.int (iZ (mostN (fun t => lastN pk t c.length) c.length)))) (rho 31 27 tr) σ) : Mt M_X8_drawers d n n [.ref 1] (rho 31 27 tr) σ Q := by
  refine Mt.of rfl (by decide +kernel) tk_X8_drawers (Nat.le_of_ble_eq_true rfl) ?_
  refine V.run 0 54 rfl hn trivial ?_
  try simp only [rc_1_0, rc_1_1, rc_1_2, rc_1_3, rc_1_4, rc_1_5, rc_2_0, rc_2_1, rc_2_2, rc_6_0, rc_6_1, rc_6_2, rc_6_3, rc_7_0, rc_7_1, rc_7_2, rc_7_3, rc_12_0, rc_12_1, rc_12_2, rc_12_3, rc_18_0, rc_18_1, rc_20_0, rc_20_1, rc_22_0, rc_23_0, rc_25_0, rc_27_0, rc_27_1, rc_27_2, rc_31_0, rc_31_1, rc_31_2, rc_55_0, rc_55_1, rc_55_2, rc_1_6, rc_1_7, rc_23_2, fi_0_1, fi_0_2, fi_0_3, fi_1_3, fi_1_4, fi_1_5, fi_1_6, fi_1_7, fi_2_2, fi_3_3, fi_3_4, fi_3_5, fi_4_1, fi_5_4, fi_5_5, fi_5_6, fi_5_7, fi_5_8, fi_5_9, fi_6_1, fi_7_3, fi_7_4]
  refine V.cv (lo := 54) (d' := d - 1) rfl rfl ok_X1_mostAtOnce lk_8_X1_mostAtOnce rfl rfl rfl hn (by omega) (Nat.le_refl _) (Nat.le_refl _) ((c_mostAtOnce_31 hn (by omega) hne hc ?_))
  refine V.ret (v := some (.int (iZ (mostN (fun t => lastN pk t c.length) c.length)))) rfl rfl rfl rfl (hQ)
theorem c_power_31 (hn : 54 ≤ n) (hd : 2 ≤ d) {kind : Nat} {c : List Nat} {pk : Nat → Nat × Nat} {x m : Int} (hx : -2147483648 ≤ x ∧ x < 2147483648) (hm : -2147483648 ≤ m ∧ m < 2147483648) (hne : 1 ≤ c.length) (hc : chnM 31 σ kind c pk) (hbad : ¬ ((0 ≤ x ∧ x ≤ 1000000) ∧ 2 ≤ m ∧ m ≤ 1000000) → Q (some (.int (iZ (-1)))) (rho 31 27 tr) σ) (hQ : (0 ≤ x ∧ x ≤ 1000000) ∧ 2 ≤ m ∧ m ≤ 1000000 → Q (some (.int (iZ (x.toNat ^ lastD c % m.toNat : Nat)))) (rho 31 27 tr) σ) : Mt M_X8_power d n n [.ref 1, .int (iZ x), .int (iZ m)] (rho 31 27 tr) σ Q := by
  have hb := hc.1.1.2.1 _ (getD_mem2 (r := c) (i := c.length - 1) (by omega))
  rw [← lastD_eq (by omega)] at hb
  refine Mt.of rfl (by decide +kernel) tk_X8_power (Nat.le_of_ble_eq_true rfl) ?_
  have bad : ∀ x3 x4 x5 x6, ¬ ((0 ≤ x ∧ x ≤ 1000000) ∧ 2 ≤ m ∧ m ≤ 1000000) → V M_X8_power d n n none Q n (rho 31 27 tr) σ 21 [some (.ref 1), some (.int (iZ (x))), some (.int (iZ (m))), x3, x4, x5, x6] [] := by
    intro x3 x4 x5 x6 h
    refine V.run 0 54 rfl hn trivial ?_
    refine V.ret (v := some (.int (iZ (-1)))) rfl rfl rfl rfl (hbad h)
  refine V.run 0 54 rfl hn trivial ?_
  refine V.br rfl (fun (c1 : iZ x < 0) => ?_) (fun (c1 : ¬ (iZ x < 0)) => ?_)
  · rw [iZ_lt0 (by omega)] at c1
    exact bad _ _ _ _ (by omega)
  · rw [iZ_lt0 (by omega)] at c1
    refine V.run 0 54 rfl hn trivial ?_
    refine V.br rfl (fun (c2 : iZ 1000000 < iZ x) => ?_) (fun (c2 : ¬ (iZ 1000000 < iZ x)) => ?_)
    · rw [iZ_lt (by omega) (by omega)] at c2
      exact bad _ _ _ _ (by omega)
    · rw [iZ_lt (by omega) (by omega)] at c2
      refine V.run 0 54 rfl hn trivial ?_
      refine V.br rfl (fun (c3 : iZ m < iZ 2) => ?_) (fun (c3 : ¬ (iZ m < iZ 2)) => ?_)
      · rw [iZ_lt (by omega) (by omega)] at c3
        exact bad _ _ _ _ (by omega)
      · rw [iZ_lt (by omega) (by omega)] at c3
        refine V.run 0 54 rfl hn trivial ?_
        refine V.br rfl (fun (c4 : iZ m ≤ iZ 1000000) => ?_) (fun (c4 : ¬ (iZ m ≤ iZ 1000000)) => ?_)
        · rw [iZ_le (by omega) (by omega)] at c4
          have hQ := hQ (by omega)
          obtain ⟨a, ha⟩ : ∃ a : Nat, x = a := ⟨x.toNat, by omega⟩
          obtain ⟨b, hb2⟩ : ∃ b : Nat, m = b := ⟨m.toNat, by omega⟩
          subst ha hb2
          rw [Int.toNat_natCast, Int.toNat_natCast] at hQ
          refine V.run 0 54 rfl hn trivial ?_
          try simp only [rc_1_0, rc_1_1, rc_1_2, rc_1_3, rc_1_4, rc_1_5, rc_2_0, rc_2_1, rc_2_2, rc_6_0, rc_6_1, rc_6_2, rc_6_3, rc_7_0, rc_7_1, rc_7_2, rc_7_3, rc_12_0, rc_12_1, rc_12_2, rc_12_3, rc_18_0, rc_18_1, rc_20_0, rc_20_1, rc_22_0, rc_23_0, rc_25_0, rc_27_0, rc_27_1, rc_27_2, rc_31_0, rc_31_1, rc_31_2, rc_55_0, rc_55_1, rc_55_2, rc_1_6, rc_1_7, rc_23_2, fi_0_1, fi_0_2, fi_0_3, fi_1_3, fi_1_4, fi_1_5, fi_1_6, fi_1_7, fi_2_2, fi_3_3, fi_3_4, fi_3_5, fi_4_1, fi_5_4, fi_5_5, fi_5_6, fi_5_7, fi_5_8, fi_5_9, fi_6_1, fi_7_3, fi_7_4]
          refine V.cv (lo := 54) (d' := d - 1) rfl rfl ok_X1_latest lk_8_X1_latest rfl rfl rfl hn (by omega) (Nat.le_refl _) (Nat.le_refl _) ((c_clatest_31 hn (by omega) hne hc.1 ?_))
          generalize lastD c = t at hb hQ ⊢
          refine V.run 38 54 rfl hn trivial ?_
          have hm0 : ¬ lZ (b : Int) = 0 := fun e => by
            have := congrArg Int64.toInt e
            rw [lZ_toInt (by omega)] at this
            have e0 : (0 : Int64).toInt = 0 := by decide
            omega
          have key : ∀ j : Nat, j ≤ 17 → V M_X8_power d n n none Q n (rho 31 27 tr) σ 38 [some (.ref 1), some (.int (iZ (a))), some (.int (iZ (b))), some (.int (iZ (t))), some (.long ((lZ ((a ^ (t / 2 ^ j) % b : Nat) : Int)))), none, some (.int (iZ (((j : Int) - 1))))] [] := by
            intro j
            induction j with
            | zero =>
              intro hj
              refine V.run 0 54 rfl hn trivial ?_
              refine V.brT rfl (by decide) ?_
              have hr : a ^ (t / 2 ^ 0) % b < b := Nat.mod_lt _ (by omega)
              refine V.run 0 54 rfl hn trivial ?_
              rw [lZ_int (by omega), Nat.pow_zero, Nat.div_one]
              refine V.ret (v := some (.int (iZ ((a ^ t % b : Nat) : Int)))) rfl rfl rfl rfl (hQ)
            | succ j ih =>
              intro hj
              have ih := ih (by omega)
              have hpb := pow_bit a b t j
              have hr : a ^ (t / 2 ^ (j + 1)) % b < b := Nat.mod_lt _ (by omega)
              generalize a ^ (t / 2 ^ (j + 1)) % b = R at hpb hr ⊢
              have hRR : R * R ≤ 1000000 * 1000000 := Nat.mul_le_mul (by omega) (by omega)
              have hR2 : R * R % b < b := Nat.mod_lt _ (by omega)
              have hRx : R * R % b * a ≤ 1000000 * 1000000 := Nat.mul_le_mul (by omega) (by omega)
              have htj : t / 2 ^ j ≤ t := Nat.div_le_self _ _
              have k73 : ∀ y : Nat, y = a ^ (t / 2 ^ j) % b → V M_X8_power d n n none Q n (rho 31 27 tr) σ 73 [some (.ref 1), some (.int (iZ (a))), some (.int (iZ (b))), some (.int (iZ (t))), some (.long ((lZ (y : Int)))), none, some (.int (iZ ((((j + 1 : Nat) : Int) - 1))))] [] := by
                intro y hy
                refine V.run 0 54 rfl hn trivial ?_
                rw [hy]
                rw [show ((j : Nat) : Int) - 1 = ((j + 1 : Nat) : Int) - 1 + (-1) by omega, ← iZ_add] at ih
                exact ih
              refine V.run 0 54 rfl hn trivial ?_
              refine V.brF rfl (fun q => by have := (iZ_lt0 (by omega)).mp q; omega) ?_
              refine V.run 0 54 rfl hn ⟨by rw [iZ_long (by omega)]; exact hm0, trivial⟩ ?_
              rw [iZ_long (by omega), lZ_mul, lZ_rem (by have : ((R * R : Nat) : Int) = (R : Int) * R := by simp
                                                         omega) (by omega)]
              rw [show (R : Int) * R % b = ((R * R % b : Nat) : Int) by simp, show (((j + 1 : Nat) : Int) - 1) = (j : Int) by omega, iZ_shr (by omega) (by omega), show (t : Int) / 2 ^ j = ((t / 2 ^ j : Nat) : Int) by simp, and_one (by omega)]
              rw [show (((j + 1 : Nat) : Int) - 1) = (j : Int) by omega] at k73
              refine V.br rfl (fun (c5 : iZ ((t / 2 ^ j % 2 : Nat) : Int) = iZ 1) => ?_) (fun (c5 : ¬ (iZ ((t / 2 ^ j % 2 : Nat) : Int) = iZ 1)) => ?_)
              · rw [iZ_eq (by omega) (by omega)] at c5
                rw [if_pos (by omega)] at hpb
                refine V.run 73 54 rfl hn ⟨by rw [iZ_long (by omega)]; exact hm0, trivial⟩ ?_
                rw [iZ_long (by omega), iZ_long (by omega), lZ_mul, lZ_rem (by have : ((R * R % b * a : Nat) : Int) = ((R * R % b : Nat) : Int) * a := by simp
                                                                               omega) (by omega)]
                have := k73 (R * R % b * a % b) hpb.symm
                rw [Int.natCast_emod (R * R % b * a) b, Int.natCast_mul (R * R % b) a] at this
                exact this
              · rw [iZ_eq (by omega) (by omega)] at c5
                rw [if_neg (by omega), Nat.mul_one, Nat.mod_mod] at hpb
                exact k73 (R * R % b) hpb.symm
          have h17 : t / 2 ^ 17 = 0 := Nat.div_eq_of_lt (by have : (2 : Nat) ^ 17 = 131072 := by decide
                                                            omega)
          have := key 17 (by omega)
          rw [h17, Nat.pow_zero, Nat.mod_eq_of_lt (by omega)] at this
          exact this
        · rw [iZ_le (by omega) (by omega)] at c4
          exact bad _ _ _ _ (by omega)
end CY31
