/-! ===== the class: road, step, good ===== -/
theorem sgL_mono (N : Nat) : ∀ (k : Nat) (L : List Nat), L.length ≤ (sgL N k L).length
  | 0, L => Nat.le_refl _
  | k + 1, L => by
    unfold sgL
    have h1 := goL_len L (2 * wN N (k + 1))
    split
    · have := sgL_mono N k (goL L (2 * wN N (k + 1)))
      omega
    · have h2 := goL_len (goL L (2 * wN N (k + 1))) (wN N k)
      have := sgL_mono N k (goL (goL L (2 * wN N (k + 1))) (wN N k))
      omega
theorem dbG_mono : ∀ (t v : Nat) (L : List Nat), L.length ≤ (dbG t v L).length
  | 0, v, L => Nat.le_refl _
  | t + 1, v, L => by
    have h1 := dbG_mono t (2 * v) (goL L (2 * v))
    have h2 := (goL_len L (2 * v)).2
    show _ ≤ (dbG t (2 * v) (goL L (2 * v))).length
    omega
theorem fgL_mono (N w : Nat) : ∀ (k : Nat) (L : List Nat), L.length ≤ (fgL N w k L).length
  | 0, L => Nat.le_refl _
  | k + 1, L => by
    unfold fgL
    have h1 := dbG_mono w (N / 2 ^ (w * (k + 1))) L
    split
    · have := fgL_mono N w k (dbG w (N / 2 ^ (w * (k + 1))) L)
      omega
    · have h2 := goL_len (dbG w (N / 2 ^ (w * (k + 1))) L) (N / 2 ^ (w * k))
      have := fgL_mono N w k (goL (dbG w (N / 2 ^ (w * (k + 1))) L) (N / 2 ^ (w * k)))
      omega
theorem facL_mono : ∀ (f N t : Nat) (L : List Nat), L.length ≤ (facL f N t L).length
  | 0, N, t, L => Nat.le_refl _
  | f + 1, N, t, L => by
    unfold facL
    split
    · exact Nat.le_refl _
    · split
      · have h1 := facL_mono f (N - 1) t L
        have h2 := (goL_len (facL f (N - 1) t L) (N * t)).2
        omega
      · have h1 := facL_mono f (lpN N) t L
        have h2 := facL_mono f (N / lpN N) (t * lpN N) (facL f (lpN N) t L)
        omega
theorem roadL_pos {R N W : Nat} (h : okR R N W) : 1 ≤ (roadL R N W).length := by
  obtain ⟨h1, h2, h3, h4⟩ := h
  unfold roadL
  split
  · exact hlv_mono N _ 1 [1]
  · split
    · rename_i e
      have h5 := h4 e
      have h6 : 2 ^ 2 ≤ 2 ^ W := Nat.pow_le_pow_right (by omega) h5.1
      have h7 := fgL_mono N W (mnF N W - 1) (bsL (2 ^ W - 1))
      rw [bsL_len] at h7
      omega
    · split
      · exact facL_mono 41 N 1 [1]
      · split
        · rename_i e
          rw [if_pos e] at h3
          obtain ⟨p, hp, e2⟩ := tpR_ex ⟨h2, h3⟩
          rw [tpR_eq hp e2, List.length_reverse]
          exact List.length_pos_iff.mpr (okTr_ne (trS_ok mR 13) hp)
        · exact sgL_mono N _ [1]
section CX1
variable {d n ca cb tr : Nat} {Q : PQ} {σ : Mem} {ρ : Ref}
theorem c_road (hn : 54 ≤ n) (hd : 47 ≤ d) {R N W : Int} (hR : -2147483648 ≤ R ∧ R < 2147483648) (hN : -2147483648 ≤ N ∧ N < 2147483648) (hW : -2147483648 ≤ W ∧ W < 2147483648) (hno : ¬ (A_isRoad R N W ∧ R = 3)) (hbad : ¬ A_isRoad R N W → Q (some (.int (iZ (-1)))) (rho ca cb tr) σ) (hQ : A_isRoad R N W → ∀ σ', FrO σ σ' → Q (some (.int (iZ (((roadL R.toNat N.toNat W.toNat).length : Int) - 1)))) (rho ca cb tr) σ') : Mt M_X8_road d n n [.ref 1, .int (iZ R), .int (iZ N), .int (iZ W)] (rho ca cb tr) σ Q := by
  refine Mt.of rfl (by decide +kernel) tk_X8_road (Nat.le_of_ble_eq_true rfl) ?_
  refine V.run 0 54 rfl hn trivial ?_
  refine V.cs (d' := d - 1) rfl rfl ok_X8_isRoad lk_8_X8_isRoad rfl (by omega) (Nat.le_refl _) (Nat.le_refl _) ((c_isRoad hR hN hW (fun g => ?_) (fun g => ?_)))
  · obtain ⟨o1, o2, o3⟩ := okR_of g
    have hR3 : R.toNat ≠ 3 := fun e => hno ⟨g, by omega⟩
    refine V.brF rfl (by decide) ?_
    refine V.run 0 54 rfl hn trivial ?_
    try simp only [rc_1_0, rc_1_1, rc_1_2, rc_1_3, rc_1_4, rc_1_5, rc_2_0, rc_2_1, rc_2_2, rc_6_0, rc_6_1, rc_6_2, rc_6_3, rc_7_0, rc_7_1, rc_7_2, rc_7_3, rc_12_0, rc_12_1, rc_12_2, rc_12_3, rc_18_0, rc_18_1, rc_20_0, rc_20_1, rc_22_0, rc_23_0, rc_25_0, rc_27_0, rc_27_1, rc_27_2, rc_31_0, rc_31_1, rc_31_2, rc_55_0, rc_55_1, rc_55_2, rc_1_6, rc_1_7, rc_23_2, fi_0_1, fi_0_2, fi_0_3, fi_1_3, fi_1_4, fi_1_5, fi_1_6, fi_1_7, fi_2_2, fi_3_3, fi_3_4, fi_3_5, fi_4_1, fi_5_4, fi_5_5, fi_5_6, fi_5_7, fi_5_8, fi_5_9, fi_6_1, fi_7_3, fi_7_4]
    rw [← o2, ← o3]
    refine V.cv (lo := 54) (d' := d - 1) rfl rfl ok_X4_build lk_8_X4_build rfl rfl rfl hn (by omega) (Nat.le_refl _) (Nat.le_refl _) ((c_build hn (by omega) o1 hR3 hW (fun σ1 hr1 hf1 => ?_)))
    refine V.run 0 54 rfl hn trivial ?_
    try simp only [rc_1_0, rc_1_1, rc_1_2, rc_1_3, rc_1_4, rc_1_5, rc_2_0, rc_2_1, rc_2_2, rc_6_0, rc_6_1, rc_6_2, rc_6_3, rc_7_0, rc_7_1, rc_7_2, rc_7_3, rc_12_0, rc_12_1, rc_12_2, rc_12_3, rc_18_0, rc_18_1, rc_20_0, rc_20_1, rc_22_0, rc_23_0, rc_25_0, rc_27_0, rc_27_1, rc_27_2, rc_31_0, rc_31_1, rc_31_2, rc_55_0, rc_55_1, rc_55_2, rc_1_6, rc_1_7, rc_23_2, fi_0_1, fi_0_2, fi_0_3, fi_1_3, fi_1_4, fi_1_5, fi_1_6, fi_1_7, fi_2_2, fi_3_3, fi_3_4, fi_3_5, fi_4_1, fi_5_4, fi_5_5, fi_5_6, fi_5_7, fi_5_8, fi_5_9, fi_6_1, fi_7_3, fi_7_4]
    refine V.cv (lo := 54) (d' := d - 1) rfl rfl ok_X4_steps lk_8_X4_steps rfl rfl rfl hn (by omega) (Nat.le_refl _) (Nat.le_refl _) ((c_rsteps hn hr1 ?_))
    refine V.ret (v := some (.int (iZ (((roadL R.toNat N.toNat W.toNat).length : Int) - 1)))) rfl rfl rfl rfl (hQ g σ1 hf1)
  · refine V.brT rfl rfl ?_
    refine V.run 0 54 rfl hn trivial ?_
    refine V.ret (v := some (.int (iZ (-1)))) rfl rfl rfl rfl (hbad g)
theorem c_roadT (hd : 47 ≤ d) {N W : Int} (hN : -2147483648 ≤ N ∧ N < 2147483648) (hW : -2147483648 ≤ W ∧ W < 2147483648) (g : A_isRoad 3 N W) (ht : treeS n tr σ) (hQ : ∀ σ', ptM σ' → Fr [23, 24, 55, 56, 57, 58] σ σ' → Q (some (.int (iZ (((roadL 3 N.toNat W.toNat).length : Int) - 1)))) (rho ca cb 55) σ') : Mt M_X8_road d n 58 [.ref 1, .int (iZ 3), .int (iZ N), .int (iZ W)] (rho ca cb tr) σ Q := by
  have hn : 54 ≤ n := by rcases ht with ⟨h, -⟩ | ⟨h, -⟩ <;> omega
  have hn58 : n ≤ 58 := by rcases ht with ⟨h, -⟩ | ⟨h, -⟩ <;> omega
  obtain ⟨g1, g2, g3⟩ := id g
  rw [if_pos rfl] at g2
  obtain ⟨N, rfl⟩ : ∃ k : Nat, N = k := ⟨N.toNat, by omega⟩
  rw [Int.toNat_natCast] at hQ
  refine Mt.of rfl (by decide +kernel) tk_X8_road (Nat.le_of_ble_eq_true rfl) ?_
  refine V.run 0 54 rfl hn trivial ?_
  refine V.cs (d' := d - 1) rfl rfl ok_X8_isRoad lk_8_X8_isRoad rfl (by omega) (Nat.le_refl _) hn58 (c_isRoad (by omega) hN hW (fun g => ?_) (fun g' => absurd g g'))
  refine V.brF rfl (by decide) ?_
  refine V.run 0 54 rfl hn trivial ?_
  try simp only [rc_1_0, rc_1_1, rc_1_2, rc_1_3, rc_1_4, rc_1_5, rc_2_0, rc_2_1, rc_2_2, rc_6_0, rc_6_1, rc_6_2, rc_6_3, rc_7_0, rc_7_1, rc_7_2, rc_7_3, rc_12_0, rc_12_1, rc_12_2, rc_12_3, rc_18_0, rc_18_1, rc_20_0, rc_20_1, rc_22_0, rc_23_0, rc_25_0, rc_27_0, rc_27_1, rc_27_2, rc_31_0, rc_31_1, rc_31_2, rc_55_0, rc_55_1, rc_55_2, rc_1_6, rc_1_7, rc_23_2, fi_0_1, fi_0_2, fi_0_3, fi_1_3, fi_1_4, fi_1_5, fi_1_6, fi_1_7, fi_2_2, fi_3_3, fi_3_4, fi_3_5, fi_4_1, fi_5_4, fi_5_5, fi_5_6, fi_5_7, fi_5_8, fi_5_9, fi_6_1, fi_7_3, fi_7_4]
  refine V.cv (lo := 54) (d' := d - 1) (n' := 58) rfl rfl ok_X4_build lk_8_X4_build rfl rfl rfl hn (by omega) hn58 (Nat.le_refl 58) (c_buildT (by omega) (by omega) ht (fun σ1 hr1 hp1 hf1 => ?_))
  have hn : 54 ≤ 58 := by omega
  refine V.run 0 54 rfl hn trivial ?_
  try simp only [rc_1_0, rc_1_1, rc_1_2, rc_1_3, rc_1_4, rc_1_5, rc_2_0, rc_2_1, rc_2_2, rc_6_0, rc_6_1, rc_6_2, rc_6_3, rc_7_0, rc_7_1, rc_7_2, rc_7_3, rc_12_0, rc_12_1, rc_12_2, rc_12_3, rc_18_0, rc_18_1, rc_20_0, rc_20_1, rc_22_0, rc_23_0, rc_25_0, rc_27_0, rc_27_1, rc_27_2, rc_31_0, rc_31_1, rc_31_2, rc_55_0, rc_55_1, rc_55_2, rc_1_6, rc_1_7, rc_23_2, fi_0_1, fi_0_2, fi_0_3, fi_1_3, fi_1_4, fi_1_5, fi_1_6, fi_1_7, fi_2_2, fi_3_3, fi_3_4, fi_3_5, fi_4_1, fi_5_4, fi_5_5, fi_5_6, fi_5_7, fi_5_8, fi_5_9, fi_6_1, fi_7_3, fi_7_4]
  refine V.cv (lo := 54) (d' := d - 1) rfl rfl ok_X4_steps lk_8_X4_steps rfl rfl rfl hn (by omega) (Nat.le_refl _) (Nat.le_refl _) ((c_rsteps hn hr1 ?_))
  refine V.ret (v := some (.int (iZ (((roadL 3 N W.toNat).length : Int) - 1)))) rfl rfl rfl rfl (hQ σ1 hp1 hf1)
theorem c_step (hn : 54 ≤ n) (hd : 47 ≤ d) {R N W i : Int} (hR : -2147483648 ≤ R ∧ R < 2147483648) (hN : -2147483648 ≤ N ∧ N < 2147483648) (hW : -2147483648 ≤ W ∧ W < 2147483648) (hi : -2147483648 ≤ i ∧ i < 2147483648) (hno : ¬ ((A_isRoad R N W ∧ 0 ≤ i) ∧ R = 3)) (hbad : ¬ (A_isRoad R N W ∧ 0 ≤ i) → Q (some (.int (iZ (-1)))) (rho ca cb tr) σ) (hQ : A_isRoad R N W ∧ 0 ≤ i → ∀ σ', FrO σ σ' → Q (some (.int (iZ (if i < (roadL R.toNat N.toNat W.toNat).length then ((roadL R.toNat N.toNat W.toNat).getD i.toNat 0 : Nat) else -4)))) (rho ca cb tr) σ') : Mt M_X8_step d n n [.ref 1, .int (iZ R), .int (iZ N), .int (iZ W), .int (iZ i)] (rho ca cb tr) σ Q := by
  refine Mt.of rfl (by decide +kernel) tk_X8_step (Nat.le_of_ble_eq_true rfl) ?_
  refine V.run 0 54 rfl hn trivial ?_
  refine V.cs (d' := d - 1) rfl rfl ok_X8_isRoad lk_8_X8_isRoad rfl (by omega) (Nat.le_refl _) (Nat.le_refl _) ((c_isRoad hR hN hW (fun g => ?_) (fun g => ?_)))
  · obtain ⟨o1, o2, o3⟩ := okR_of g
    refine V.brF rfl (by decide) ?_
    refine V.run 0 54 rfl hn trivial ?_
    refine V.br rfl (fun (c : 0 ≤ iZ i) => ?_) (fun (c : ¬ (0 ≤ iZ i)) => ?_)
    · rw [iZ_0le (by omega)] at c
      have hR3 : R.toNat ≠ 3 := fun e => hno ⟨⟨g, c⟩, by omega⟩
      refine V.run 0 54 rfl hn trivial ?_
      try simp only [rc_1_0, rc_1_1, rc_1_2, rc_1_3, rc_1_4, rc_1_5, rc_2_0, rc_2_1, rc_2_2, rc_6_0, rc_6_1, rc_6_2, rc_6_3, rc_7_0, rc_7_1, rc_7_2, rc_7_3, rc_12_0, rc_12_1, rc_12_2, rc_12_3, rc_18_0, rc_18_1, rc_20_0, rc_20_1, rc_22_0, rc_23_0, rc_25_0, rc_27_0, rc_27_1, rc_27_2, rc_31_0, rc_31_1, rc_31_2, rc_55_0, rc_55_1, rc_55_2, rc_1_6, rc_1_7, rc_23_2, fi_0_1, fi_0_2, fi_0_3, fi_1_3, fi_1_4, fi_1_5, fi_1_6, fi_1_7, fi_2_2, fi_3_3, fi_3_4, fi_3_5, fi_4_1, fi_5_4, fi_5_5, fi_5_6, fi_5_7, fi_5_8, fi_5_9, fi_6_1, fi_7_3, fi_7_4]
      rw [← o2, ← o3]
      refine V.cv (lo := 54) (d' := d - 1) rfl rfl ok_X4_build lk_8_X4_build rfl rfl rfl hn (by omega) (Nat.le_refl _) (Nat.le_refl _) ((c_build hn (by omega) o1 hR3 hW (fun σ1 hr1 hf1 => ?_)))
      refine V.run 0 54 rfl hn trivial ?_
      try simp only [rc_1_0, rc_1_1, rc_1_2, rc_1_3, rc_1_4, rc_1_5, rc_2_0, rc_2_1, rc_2_2, rc_6_0, rc_6_1, rc_6_2, rc_6_3, rc_7_0, rc_7_1, rc_7_2, rc_7_3, rc_12_0, rc_12_1, rc_12_2, rc_12_3, rc_18_0, rc_18_1, rc_20_0, rc_20_1, rc_22_0, rc_23_0, rc_25_0, rc_27_0, rc_27_1, rc_27_2, rc_31_0, rc_31_1, rc_31_2, rc_55_0, rc_55_1, rc_55_2, rc_1_6, rc_1_7, rc_23_2, fi_0_1, fi_0_2, fi_0_3, fi_1_3, fi_1_4, fi_1_5, fi_1_6, fi_1_7, fi_2_2, fi_3_3, fi_3_4, fi_3_5, fi_4_1, fi_5_4, fi_5_5, fi_5_6, fi_5_7, fi_5_8, fi_5_9, fi_6_1, fi_7_3, fi_7_4]
      refine V.cv (lo := 54) (d' := d - 1) rfl rfl ok_X4_numberAt lk_8_X4_numberAt rfl rfl rfl hn (by omega) (Nat.le_refl _) (Nat.le_refl _) ((c_rnum hn ⟨c, hi.2⟩ hr1 ?_))
      refine V.ret (v := some (.int (iZ (if i < (roadL R.toNat N.toNat W.toNat).length then ((roadL R.toNat N.toNat W.toNat).getD i.toNat 0 : Nat) else -4)))) rfl rfl rfl rfl (hQ ⟨g, c⟩ σ1 hf1)
    · rw [iZ_0le (by omega)] at c
      refine V.run 0 54 rfl hn trivial ?_
      refine V.ret (v := some (.int (iZ (-1)))) rfl rfl rfl rfl (hbad (fun q => c q.2))
  · refine V.brT rfl rfl ?_
    refine V.run 0 54 rfl hn trivial ?_
    refine V.ret (v := some (.int (iZ (-1)))) rfl rfl rfl rfl (hbad (fun q => g q.1))
theorem c_stepT (hd : 47 ≤ d) {N W i : Int} (hN : -2147483648 ≤ N ∧ N < 2147483648) (hW : -2147483648 ≤ W ∧ W < 2147483648) (hi : 0 ≤ i ∧ i < 2147483648) (g : A_isRoad 3 N W) (ht : treeS n tr σ) (hQ : ∀ σ', ptM σ' → Fr [23, 24, 55, 56, 57, 58] σ σ' → Q (some (.int (iZ (if i < (roadL 3 N.toNat W.toNat).length then ((roadL 3 N.toNat W.toNat).getD i.toNat 0 : Nat) else -4)))) (rho ca cb 55) σ') : Mt M_X8_step d n 58 [.ref 1, .int (iZ 3), .int (iZ N), .int (iZ W), .int (iZ i)] (rho ca cb tr) σ Q := by
  have hn : 54 ≤ n := by rcases ht with ⟨h, -⟩ | ⟨h, -⟩ <;> omega
  have hn58 : n ≤ 58 := by rcases ht with ⟨h, -⟩ | ⟨h, -⟩ <;> omega
  obtain ⟨g1, g2, g3⟩ := id g
  rw [if_pos rfl] at g2
  obtain ⟨N, rfl⟩ : ∃ k : Nat, N = k := ⟨N.toNat, by omega⟩
  rw [Int.toNat_natCast] at hQ
  refine Mt.of rfl (by decide +kernel) tk_X8_step (Nat.le_of_ble_eq_true rfl) ?_
  refine V.run 0 54 rfl hn trivial ?_
  refine V.cs (d' := d - 1) rfl rfl ok_X8_isRoad lk_8_X8_isRoad rfl (by omega) (Nat.le_refl _) hn58 (c_isRoad (by omega) hN hW (fun g => ?_) (fun g' => absurd g g'))
  refine V.brF rfl (by decide) ?_
  refine V.run 0 54 rfl hn trivial ?_
  refine V.brT rfl ((iZ_0le (by omega)).mpr hi.1) ?_
  refine V.run 0 54 rfl hn trivial ?_
  try simp only [rc_1_0, rc_1_1, rc_1_2, rc_1_3, rc_1_4, rc_1_5, rc_2_0, rc_2_1, rc_2_2, rc_6_0, rc_6_1, rc_6_2, rc_6_3, rc_7_0, rc_7_1, rc_7_2, rc_7_3, rc_12_0, rc_12_1, rc_12_2, rc_12_3, rc_18_0, rc_18_1, rc_20_0, rc_20_1, rc_22_0, rc_23_0, rc_25_0, rc_27_0, rc_27_1, rc_27_2, rc_31_0, rc_31_1, rc_31_2, rc_55_0, rc_55_1, rc_55_2, rc_1_6, rc_1_7, rc_23_2, fi_0_1, fi_0_2, fi_0_3, fi_1_3, fi_1_4, fi_1_5, fi_1_6, fi_1_7, fi_2_2, fi_3_3, fi_3_4, fi_3_5, fi_4_1, fi_5_4, fi_5_5, fi_5_6, fi_5_7, fi_5_8, fi_5_9, fi_6_1, fi_7_3, fi_7_4]
  refine V.cv (lo := 54) (d' := d - 1) (n' := 58) rfl rfl ok_X4_build lk_8_X4_build rfl rfl rfl hn (by omega) hn58 (Nat.le_refl 58) (c_buildT (by omega) (by omega) ht (fun σ1 hr1 hp1 hf1 => ?_))
  have hn : 54 ≤ 58 := by omega
  refine V.run 0 54 rfl hn trivial ?_
  try simp only [rc_1_0, rc_1_1, rc_1_2, rc_1_3, rc_1_4, rc_1_5, rc_2_0, rc_2_1, rc_2_2, rc_6_0, rc_6_1, rc_6_2, rc_6_3, rc_7_0, rc_7_1, rc_7_2, rc_7_3, rc_12_0, rc_12_1, rc_12_2, rc_12_3, rc_18_0, rc_18_1, rc_20_0, rc_20_1, rc_22_0, rc_23_0, rc_25_0, rc_27_0, rc_27_1, rc_27_2, rc_31_0, rc_31_1, rc_31_2, rc_55_0, rc_55_1, rc_55_2, rc_1_6, rc_1_7, rc_23_2, fi_0_1, fi_0_2, fi_0_3, fi_1_3, fi_1_4, fi_1_5, fi_1_6, fi_1_7, fi_2_2, fi_3_3, fi_3_4, fi_3_5, fi_4_1, fi_5_4, fi_5_5, fi_5_6, fi_5_7, fi_5_8, fi_5_9, fi_6_1, fi_7_3, fi_7_4]
  refine V.cv (lo := 54) (d' := d - 1) rfl rfl ok_X4_numberAt lk_8_X4_numberAt rfl rfl rfl hn (by omega) (Nat.le_refl _) (Nat.le_refl _) ((c_rnum hn hi hr1 ?_))
  refine V.ret (v := some (.int (iZ (if i < (roadL 3 N W.toNat).length then ((roadL 3 N W.toNat).getD i.toNat 0 : Nat) else -4)))) rfl rfl rfl rfl (hQ σ1 hp1 hf1)
def GD : List Nat := [23, 24] ++ SH
def GDT : List Nat := [23, 24, 55, 56, 57, 58] ++ SH
theorem c_good (hn : 54 ≤ n) (hd : 47 ≤ d) {R W m : Int} (hR : -2147483648 ≤ R ∧ R < 2147483648) (hW : -2147483648 ≤ W ∧ W < 2147483648) (hm : -2147483648 ≤ m ∧ m < 2147483648) (hI : shortI σ) (hno : ¬ (A_isGood R W m ∧ R = 3)) (hbad : ¬ A_isGood R W m → Q (some (.int (iZ (-1)))) (rho ca cb tr) σ) (hQ : A_isGood R W m → ∀ σ', shortI σ' → Fr GD σ σ' → Q (some (.int (iZ (goodN R.toNat W.toNat m.toNat : Nat)))) (rho ca cb tr) σ') : Mt M_X8_good d n n [.ref 1, .int (iZ R), .int (iZ W), .int (iZ m)] (rho ca cb tr) σ Q := by
  refine Mt.of rfl (by decide +kernel) tk_X8_good (Nat.le_of_ble_eq_true rfl) ?_
  refine V.run 0 54 rfl hn trivial ?_
  have loop : A_isGood R W m → ∀ (j k : Nat) (σ1 : Mem), k + j = m.toNat → shortI σ1 → Fr GD σ σ1 → V M_X8_good d n n none Q n (rho ca cb tr) σ1 33 [some (.ref 1), some (.int (iZ (R))), some (.int (iZ (W))), some (.int (iZ (m))), some (.int (iZ ((goodN R.toNat W.toNat k : Nat)))), some (.int (iZ ((k : Int) + 1)))] [] := by
    intro g j
    obtain ⟨g1, g2, g3⟩ := id g
    have hR3 : R.toNat ≠ 3 := fun e => hno ⟨g, by omega⟩
    induction j with
    | zero =>
      intro k σ1 hk hI1 hf1
      refine V.run 0 54 rfl hn trivial ?_
      refine V.brT rfl ((iZ_lt (by omega) (by omega)).mpr (by omega)) ?_
      refine V.run 0 54 rfl hn trivial ?_
      rw [show k = m.toNat by omega]
      refine V.ret (v := some (.int (iZ (goodN R.toNat W.toNat m.toNat : Nat)))) rfl rfl rfl rfl (hQ g σ1 hI1 hf1)
    | succ j ih =>
      intro k σ1 hk hI1 hf1
      have hok : okR R.toNat (k + 1) W.toNat := ⟨by omega, by omega, by split <;> omega, fun e => by have := g3 (by omega); omega⟩
      have hgl := goodN_le R.toNat W.toNat k
      have hlen := roadL_len hok
      have hl1 := roadL_pos hok
      have hokN : okN 0 (k + 1) := ⟨by omega, by omega, by simp; omega⟩
      have hF := feF_ok hokN
      have hrow : goodN R.toNat W.toNat (k + 1) = goodN R.toNat W.toNat k + (if (roadL R.toNat (k + 1) W.toNat).length - 1 = feF 0 (k + 1) then 1 else 0) := rfl
      refine V.run 0 54 rfl hn trivial ?_
      refine V.brF rfl (fun q => by have := (iZ_lt (by omega) (by omega)).mp q; omega) ?_
      have eR : iZ R = iZ ((R.toNat : Nat) : Int) := iZ_pat (by omega)
      rw [show (k : Int) + 1 = ((k + 1 : Nat) : Int) by omega, eR]
      refine V.run 0 54 rfl hn trivial ?_
      try simp only [rc_1_0, rc_1_1, rc_1_2, rc_1_3, rc_1_4, rc_1_5, rc_2_0, rc_2_1, rc_2_2, rc_6_0, rc_6_1, rc_6_2, rc_6_3, rc_7_0, rc_7_1, rc_7_2, rc_7_3, rc_12_0, rc_12_1, rc_12_2, rc_12_3, rc_18_0, rc_18_1, rc_20_0, rc_20_1, rc_22_0, rc_23_0, rc_25_0, rc_27_0, rc_27_1, rc_27_2, rc_31_0, rc_31_1, rc_31_2, rc_55_0, rc_55_1, rc_55_2, rc_1_6, rc_1_7, rc_23_2, fi_0_1, fi_0_2, fi_0_3, fi_1_3, fi_1_4, fi_1_5, fi_1_6, fi_1_7, fi_2_2, fi_3_3, fi_3_4, fi_3_5, fi_4_1, fi_5_4, fi_5_5, fi_5_6, fi_5_7, fi_5_8, fi_5_9, fi_6_1, fi_7_3, fi_7_4]
      refine V.cv (lo := 54) (d' := d - 1) rfl rfl ok_X4_build lk_8_X4_build rfl rfl rfl hn (by omega) (Nat.le_refl _) (Nat.le_refl _) ((c_build hn (by omega) hok hR3 hW (fun σ2 hr2 hf2 => ?_)))
      refine V.run 0 54 rfl hn trivial ?_
      try simp only [rc_1_0, rc_1_1, rc_1_2, rc_1_3, rc_1_4, rc_1_5, rc_2_0, rc_2_1, rc_2_2, rc_6_0, rc_6_1, rc_6_2, rc_6_3, rc_7_0, rc_7_1, rc_7_2, rc_7_3, rc_12_0, rc_12_1, rc_12_2, rc_12_3, rc_18_0, rc_18_1, rc_20_0, rc_20_1, rc_22_0, rc_23_0, rc_25_0, rc_27_0, rc_27_1, rc_27_2, rc_31_0, rc_31_1, rc_31_2, rc_55_0, rc_55_1, rc_55_2, rc_1_6, rc_1_7, rc_23_2, fi_0_1, fi_0_2, fi_0_3, fi_1_3, fi_1_4, fi_1_5, fi_1_6, fi_1_7, fi_2_2, fi_3_3, fi_3_4, fi_3_5, fi_4_1, fi_5_4, fi_5_5, fi_5_6, fi_5_7, fi_5_8, fi_5_9, fi_6_1, fi_7_3, fi_7_4]
      refine V.cv (lo := 54) (d' := d - 1) rfl rfl ok_X4_steps lk_8_X4_steps rfl rfl rfl hn (by omega) (Nat.le_refl _) (Nat.le_refl _) ((c_rsteps hn hr2 ?_))
      refine V.run 0 54 rfl hn trivial ?_
      try simp only [rc_1_0, rc_1_1, rc_1_2, rc_1_3, rc_1_4, rc_1_5, rc_2_0, rc_2_1, rc_2_2, rc_6_0, rc_6_1, rc_6_2, rc_6_3, rc_7_0, rc_7_1, rc_7_2, rc_7_3, rc_12_0, rc_12_1, rc_12_2, rc_12_3, rc_18_0, rc_18_1, rc_20_0, rc_20_1, rc_22_0, rc_23_0, rc_25_0, rc_27_0, rc_27_1, rc_27_2, rc_31_0, rc_31_1, rc_31_2, rc_55_0, rc_55_1, rc_55_2, rc_1_6, rc_1_7, rc_23_2, fi_0_1, fi_0_2, fi_0_3, fi_1_3, fi_1_4, fi_1_5, fi_1_6, fi_1_7, fi_2_2, fi_3_3, fi_3_4, fi_3_5, fi_4_1, fi_5_4, fi_5_5, fi_5_6, fi_5_7, fi_5_8, fi_5_9, fi_6_1, fi_7_3, fi_7_4]
      refine V.cv (lo := 54) (d' := d - 1) rfl rfl ok_X5_stepsTo lk_8_X5_stepsTo rfl rfl rfl hn (by omega) (Nat.le_refl _) (Nat.le_refl _) ((c_stepsTo hn (by omega) hokN (hI1.fr hf2.1 (by decide)) (fun σ3 hI3 hf3 => ?_)))
      have hF1 : Fr GD σ σ3 := (hf1.tr (hf2.1.mono (by simp [GD]))).tr (hf3.mono (fun x hx => List.mem_append.mpr (Or.inr hx)))
      have := ih (k + 1) σ3 (by omega) hI3 hF1
      rw [hrow] at this
      generalize (roadL R.toNat (k + 1) W.toNat).length = len at *
      generalize feF 0 (k + 1) = fe at *
      have hfe := hF.2
      refine V.br rfl (fun (c : iZ ((len : Int) - 1) = iZ (fe : Int)) => ?_) (fun (c : ¬ (iZ ((len : Int) - 1) = iZ (fe : Int))) => ?_)
      · rw [iZ_eq (by omega) (by omega)] at c
        rw [if_pos (by omega)] at this
        refine V.run 0 54 rfl hn trivial ?_
        rw [iZ_add, iZ_add, show (goodN R.toNat W.toNat k : Int) + 1 = ((goodN R.toNat W.toNat k + 1 : Nat) : Int) by omega]
        rw [eR] at this
        exact this
      · rw [iZ_eq (by omega) (by omega)] at c
        rw [if_neg (by omega), Nat.add_zero] at this
        refine V.run 0 54 rfl hn trivial ?_
        rw [iZ_add]
        rw [eR] at this
        exact this
  have no : ¬ A_isGood R W m → V M_X8_good d n n none Q n (rho ca cb tr) σ 25 [some (.ref 1), some (.int (iZ (R))), some (.int (iZ (W))), some (.int (iZ (m))), none, none] [] := by
    intro h
    refine V.run 0 54 rfl hn trivial ?_
    refine V.ret (v := some (.int (iZ (-1)))) rfl rfl rfl rfl (hbad h)
  unfold A_isGood at no loop
  refine V.br rfl (fun (c1 : iZ R = iZ 4) => ?_) (fun (c1 : ¬ (iZ R = iZ 4)) => ?_)
  · rw [iZ_eq (by omega) (by omega)] at c1
    exact no (by omega)
  · rw [iZ_eq (by omega) (by omega)] at c1
    refine V.run 0 54 rfl hn trivial ?_
    refine V.br rfl (fun (c2 : iZ m < iZ 1) => ?_) (fun (c2 : ¬ (iZ m < iZ 1)) => ?_)
    · rw [iZ_lt (by omega) (by omega)] at c2
      exact no (by omega)
    · rw [iZ_lt (by omega) (by omega)] at c2
      refine V.run 0 54 rfl hn trivial ?_
      refine V.br rfl (fun (c3 : iZ 100 < iZ m) => ?_) (fun (c3 : ¬ (iZ 100 < iZ m)) => ?_)
      · rw [iZ_lt (by omega) (by omega)] at c3
        exact no (by omega)
      · rw [iZ_lt (by omega) (by omega)] at c3
        refine V.run 0 54 rfl hn trivial ?_
        refine V.cs (d' := d - 1) rfl rfl ok_X8_isRoad lk_8_X8_isRoad rfl (by omega) (Nat.le_refl _) (Nat.le_refl _) ((c_isRoad hR (by omega) hW (fun g => ?_) (fun g => ?_)))
        · refine V.brF rfl (by decide) ?_
          obtain ⟨g1, g2, g3⟩ := g
          refine V.run 33 54 rfl hn trivial ?_
          exact loop ⟨by omega, by omega, g3⟩ m.toNat 0 σ (by omega) hI Fr.rf
        · refine V.brT rfl rfl ?_
          refine no (fun q => g ⟨by omega, ?_, q.2.2⟩)
          split <;> omega
theorem c_goodT (hd : 47 ≤ d) {W m : Int} (hW : -2147483648 ≤ W ∧ W < 2147483648) (hm : -2147483648 ≤ m ∧ m < 2147483648) (hI : shortI σ) (ht : treeS n tr σ) (g : A_isGood 3 W m) (hQ : ∀ σ', shortI σ' → ptM σ' → Fr GDT σ σ' → Q (some (.int (iZ (goodN 3 W.toNat m.toNat : Nat)))) (rho ca cb 55) σ') : Mt M_X8_good d n 58 [.ref 1, .int (iZ 3), .int (iZ W), .int (iZ m)] (rho ca cb tr) σ Q := by
  have hn : 54 ≤ n := by rcases ht with ⟨h, -⟩ | ⟨h, -⟩ <;> omega
  have hn58 : n ≤ 58 := by rcases ht with ⟨h, -⟩ | ⟨h, -⟩ <;> omega
  obtain ⟨g1, g2, g3⟩ := id g
  refine Mt.of rfl (by decide +kernel) tk_X8_good (Nat.le_of_ble_eq_true rfl) ?_
  refine V.run 0 54 rfl hn trivial ?_
  have loop : ∀ (j k n' tr' : Nat) (σ1 : Mem), k + j = m.toNat → treeS n' tr' σ1 → n ≤ n' → (k = 0 ∨ (n' = 58 ∧ tr' = 55 ∧ ptM σ1)) → shortI σ1 → Fr GDT σ σ1 → V M_X8_good d n 58 none Q n' (rho ca cb tr') σ1 33 [some (.ref 1), some (.int (iZ (3))), some (.int (iZ (W))), some (.int (iZ (m))), some (.int (iZ ((goodN 3 W.toNat k : Nat)))), some (.int (iZ ((k : Int) + 1)))] [] := by
    intro j
    induction j with
    | zero =>
      intro k n' tr' σ1 hk ht1 hnn h58 hI1 hf1
      obtain ⟨e1, e2, hp⟩ : n' = 58 ∧ tr' = 55 ∧ ptM σ1 := by
        rcases h58 with h | h
        · omega
        · exact h
      subst e1
      subst e2
      have hn : 54 ≤ 58 := by omega
      refine V.run 0 54 rfl hn trivial ?_
      refine V.brT rfl ((iZ_lt (by omega) (by omega)).mpr (by omega)) ?_
      refine V.run 0 54 rfl hn trivial ?_
      rw [show k = m.toNat by omega]
      refine V.ret (v := some (.int (iZ (goodN 3 W.toNat m.toNat : Nat)))) rfl rfl rfl rfl (hQ σ1 hI1 hp hf1)
    | succ j ih =>
      intro k n' tr' σ1 hk ht1 hnn h58 hI1 hf1
      have hn : 54 ≤ n' := by omega
      have hn58 : n' ≤ 58 := by rcases ht1 with ⟨h, -⟩ | ⟨h, -⟩ <;> omega
      have hok : okR 3 (k + 1) W.toNat := ⟨by omega, by omega, by rw [if_pos rfl]; omega, fun e => by omega⟩
      have hgl := goodN_le 3 W.toNat k
      have hlen := roadL_len hok
      have hl1 := roadL_pos hok
      have hokN : okN 0 (k + 1) := ⟨by omega, by omega, by simp; omega⟩
      have hF := feF_ok hokN
      have hrow : goodN 3 W.toNat (k + 1) = goodN 3 W.toNat k + (if (roadL 3 (k + 1) W.toNat).length - 1 = feF 0 (k + 1) then 1 else 0) := rfl
      refine V.run 0 54 rfl hn trivial ?_
      refine V.brF rfl (fun q => by have := (iZ_lt (by omega) (by omega)).mp q; omega) ?_
      rw [show (k : Int) + 1 = ((k + 1 : Nat) : Int) by omega]
      refine V.run 0 54 rfl hn trivial ?_
      try simp only [rc_1_0, rc_1_1, rc_1_2, rc_1_3, rc_1_4, rc_1_5, rc_2_0, rc_2_1, rc_2_2, rc_6_0, rc_6_1, rc_6_2, rc_6_3, rc_7_0, rc_7_1, rc_7_2, rc_7_3, rc_12_0, rc_12_1, rc_12_2, rc_12_3, rc_18_0, rc_18_1, rc_20_0, rc_20_1, rc_22_0, rc_23_0, rc_25_0, rc_27_0, rc_27_1, rc_27_2, rc_31_0, rc_31_1, rc_31_2, rc_55_0, rc_55_1, rc_55_2, rc_1_6, rc_1_7, rc_23_2, fi_0_1, fi_0_2, fi_0_3, fi_1_3, fi_1_4, fi_1_5, fi_1_6, fi_1_7, fi_2_2, fi_3_3, fi_3_4, fi_3_5, fi_4_1, fi_5_4, fi_5_5, fi_5_6, fi_5_7, fi_5_8, fi_5_9, fi_6_1, fi_7_3, fi_7_4]
      refine V.cv (lo := 54) (d' := d - 1) (n' := 58) rfl rfl ok_X4_build lk_8_X4_build rfl rfl rfl hn (by omega) hn58 (Nat.le_refl 58) (c_buildT (by omega) (by omega) ht1 (fun σ2 hr2 hp2 hf2 => ?_))
      have hn : 54 ≤ 58 := by omega
      refine V.run 0 54 rfl hn trivial ?_
      try simp only [rc_1_0, rc_1_1, rc_1_2, rc_1_3, rc_1_4, rc_1_5, rc_2_0, rc_2_1, rc_2_2, rc_6_0, rc_6_1, rc_6_2, rc_6_3, rc_7_0, rc_7_1, rc_7_2, rc_7_3, rc_12_0, rc_12_1, rc_12_2, rc_12_3, rc_18_0, rc_18_1, rc_20_0, rc_20_1, rc_22_0, rc_23_0, rc_25_0, rc_27_0, rc_27_1, rc_27_2, rc_31_0, rc_31_1, rc_31_2, rc_55_0, rc_55_1, rc_55_2, rc_1_6, rc_1_7, rc_23_2, fi_0_1, fi_0_2, fi_0_3, fi_1_3, fi_1_4, fi_1_5, fi_1_6, fi_1_7, fi_2_2, fi_3_3, fi_3_4, fi_3_5, fi_4_1, fi_5_4, fi_5_5, fi_5_6, fi_5_7, fi_5_8, fi_5_9, fi_6_1, fi_7_3, fi_7_4]
      refine V.cv (lo := 54) (d' := d - 1) rfl rfl ok_X4_steps lk_8_X4_steps rfl rfl rfl hn (by omega) (Nat.le_refl _) (Nat.le_refl _) ((c_rsteps hn hr2 ?_))
      refine V.run 0 54 rfl hn trivial ?_
      try simp only [rc_1_0, rc_1_1, rc_1_2, rc_1_3, rc_1_4, rc_1_5, rc_2_0, rc_2_1, rc_2_2, rc_6_0, rc_6_1, rc_6_2, rc_6_3, rc_7_0, rc_7_1, rc_7_2, rc_7_3, rc_12_0, rc_12_1, rc_12_2, rc_12_3, rc_18_0, rc_18_1, rc_20_0, rc_20_1, rc_22_0, rc_23_0, rc_25_0, rc_27_0, rc_27_1, rc_27_2, rc_31_0, rc_31_1, rc_31_2, rc_55_0, rc_55_1, rc_55_2, rc_1_6, rc_1_7, rc_23_2, fi_0_1, fi_0_2, fi_0_3, fi_1_3, fi_1_4, fi_1_5, fi_1_6, fi_1_7, fi_2_2, fi_3_3, fi_3_4, fi_3_5, fi_4_1, fi_5_4, fi_5_5, fi_5_6, fi_5_7, fi_5_8, fi_5_9, fi_6_1, fi_7_3, fi_7_4]
      refine V.cv (lo := 54) (d' := d - 1) rfl rfl ok_X5_stepsTo lk_8_X5_stepsTo rfl rfl rfl hn (by omega) (Nat.le_refl _) (Nat.le_refl _) ((c_stepsTo hn (by omega) hokN (hI1.fr hf2 (by decide)) (fun σ3 hI3 hf3 => ?_)))
      have hF1 : Fr GDT σ σ3 := (hf1.tr (hf2.mono (by simp [GDT]))).tr (hf3.mono (fun x hx => List.mem_append.mpr (Or.inr hx)))
      have hp3 : ptM σ3 := hp2.fr hf3 (by decide) (by decide) (by decide)
      have := ih (k + 1) 58 55 σ3 (by omega) (Or.inr ⟨rfl, rfl, hp3⟩) (by omega) (Or.inr ⟨rfl, rfl, hp3⟩) hI3 hF1
      rw [hrow] at this
      generalize (roadL 3 (k + 1) W.toNat).length = len at *
      generalize feF 0 (k + 1) = fe at *
      have hfe := hF.2
      refine V.br rfl (fun (c : iZ ((len : Int) - 1) = iZ (fe : Int)) => ?_) (fun (c : ¬ (iZ ((len : Int) - 1) = iZ (fe : Int))) => ?_)
      · rw [iZ_eq (by omega) (by omega)] at c
        rw [if_pos (by omega)] at this
        refine V.run 0 54 rfl hn trivial ?_
        rw [iZ_add, iZ_add, show (goodN 3 W.toNat k : Int) + 1 = ((goodN 3 W.toNat k + 1 : Nat) : Int) by omega]
        exact this
      · rw [iZ_eq (by omega) (by omega)] at c
        rw [if_neg (by omega), Nat.add_zero] at this
        refine V.run 0 54 rfl hn trivial ?_
        rw [iZ_add]
        exact this
  refine V.brF rfl (by decide) ?_
  refine V.run 0 54 rfl hn trivial ?_
  refine V.brF rfl (fun q => by have := (iZ_lt (by omega) (by omega)).mp q; omega) ?_
  refine V.run 0 54 rfl hn trivial ?_
  refine V.brF rfl (fun q => by have := (iZ_lt (by omega) (by omega)).mp q; omega) ?_
  refine V.run 0 54 rfl hn trivial ?_
  refine V.cs (d' := d - 1) rfl rfl ok_X8_isRoad lk_8_X8_isRoad rfl (by omega) (Nat.le_refl _) hn58 (c_isRoad (by omega) (by omega) hW (fun g => ?_) (fun g' => absurd ⟨by omega, by rw [if_pos rfl]; omega, g3⟩ g'))
  refine V.brF rfl (by decide) ?_
  refine V.run 33 54 rfl hn trivial ?_
  exact loop m.toNat 0 n tr σ (by omega) ht (Nat.le_refl n) (Or.inl rfl) hI Fr.rf
theorem c_countT (hd : 6 ≤ d) (ht : treeS n tr σ) (hQ : ∀ σ', ptM σ' → Fr [55, 56, 57, 58] σ σ' → Q (some (.int (iZ 970))) (rho ca cb 55) σ') : Mt M_X8_count d n 58 [.ref 1, .int (iZ 4)] (rho ca cb tr) σ Q := by
  have hn : 54 ≤ n := by rcases ht with ⟨h, -⟩ | ⟨h, -⟩ <;> omega
  have hn58 : n ≤ 58 := by rcases ht with ⟨h, -⟩ | ⟨h, -⟩ <;> omega
  refine Mt.of rfl (by decide +kernel) tk_X8_count (Nat.le_of_ble_eq_true rfl) ?_
  refine V.run 0 54 rfl hn trivial ?_
  refine V.swI (x := iZ 4) (tgt := 68) rfl rfl (by decide) (by decide) rfl (by decide) ?_
  refine V.run 0 54 rfl hn trivial ?_
  try simp only [rc_1_0, rc_1_1, rc_1_2, rc_1_3, rc_1_4, rc_1_5, rc_2_0, rc_2_1, rc_2_2, rc_6_0, rc_6_1, rc_6_2, rc_6_3, rc_7_0, rc_7_1, rc_7_2, rc_7_3, rc_12_0, rc_12_1, rc_12_2, rc_12_3, rc_18_0, rc_18_1, rc_20_0, rc_20_1, rc_22_0, rc_23_0, rc_25_0, rc_27_0, rc_27_1, rc_27_2, rc_31_0, rc_31_1, rc_31_2, rc_55_0, rc_55_1, rc_55_2, rc_1_6, rc_1_7, rc_23_2, fi_0_1, fi_0_2, fi_0_3, fi_1_3, fi_1_4, fi_1_5, fi_1_6, fi_1_7, fi_2_2, fi_3_3, fi_3_4, fi_3_5, fi_4_1, fi_5_4, fi_5_5, fi_5_6, fi_5_7, fi_5_8, fi_5_9, fi_6_1, fi_7_3, fi_7_4]
  refine V.cv (lo := 54) (d' := d - 1) (n' := 58) rfl rfl ok_X4_treeSize lk_8_X4_treeSize rfl rfl rfl hn (by omega) hn58 (Nat.le_refl 58) (c_treeSize (by omega) ht (fun σ1 hp1 hf1 => ?_))
  refine V.ret (v := some (.int (iZ 970))) rfl rfl rfl rfl (hQ σ1 hp1 hf1)
end CX1
