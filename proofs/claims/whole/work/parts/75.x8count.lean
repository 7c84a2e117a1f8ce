/-! ===== the class: count ===== -/
section CXC27
variable {d n tr : Nat} {Q : PQ} {σ : Mem}
theorem c_count_27 (hn : 54 ≤ n) (hd : 2 ≤ d) {z : Int} {ws tx c : List Nat} {kind : Nat} {pk : Nat → Nat × Nat} (hz : -2147483648 ≤ z ∧ z < 2147483648) (hz4 : z ≠ 4) (hg : gthM 18 σ ws) (ht : txtM σ tx) (hc : chnM 27 σ kind c pk) (hbad : ¬ (0 ≤ z ∧ z ≤ 4) → Q (some (.int (iZ (-1)))) (rho 27 31 tr) σ) (h0 : z = 0 → Q (some (.int (iZ ws.length))) (rho 27 31 tr) σ) (h1 : z = 1 → Q (some (.int (iZ tx.length))) (rho 27 31 tr) σ) (h2 : z = 2 → Q (some (.int (iZ ((c.length : Int) - 1)))) (rho 27 31 tr) σ) (h3 : z = 3 → Q (some (.int (iZ (dblN pk c.length : Nat)))) (rho 27 31 tr) σ) : Mt M_X8_count d n n [.ref 1, .int (iZ z)] (rho 27 31 tr) σ Q := by
  refine Mt.of rfl (by decide +kernel) tk_X8_count (Nat.le_of_ble_eq_true rfl) ?_
  refine V.run 0 54 rfl hn trivial ?_
  by_cases hin : 0 ≤ z ∧ z ≤ 4
  · rcases (show z = 0 ∨ z = 1 ∨ z = 2 ∨ z = 3 by omega) with rfl | rfl | rfl | rfl
    · refine V.swI (x := iZ 0) (tgt := 36) rfl rfl (by decide) (by decide) rfl (by decide) ?_
      refine V.run 0 54 rfl hn trivial ?_
      try simp only [rc_1_0, rc_1_1, rc_1_2, rc_1_3, rc_1_4, rc_1_5, rc_2_0, rc_2_1, rc_2_2, rc_6_0, rc_6_1, rc_6_2, rc_6_3, rc_7_0, rc_7_1, rc_7_2, rc_7_3, rc_12_0, rc_12_1, rc_12_2, rc_12_3, rc_18_0, rc_18_1, rc_20_0, rc_20_1, rc_22_0, rc_23_0, rc_25_0, rc_27_0, rc_27_1, rc_27_2, rc_31_0, rc_31_1, rc_31_2, rc_55_0, rc_55_1, rc_55_2, rc_1_6, rc_1_7, rc_23_2, fi_0_1, fi_0_2, fi_0_3, fi_1_3, fi_1_4, fi_1_5, fi_1_6, fi_1_7, fi_2_2, fi_3_3, fi_3_4, fi_3_5, fi_4_1, fi_5_4, fi_5_5, fi_5_6, fi_5_7, fi_5_8, fi_5_9, fi_6_1, fi_7_3, fi_7_4]
      refine V.cv (lo := 54) (d' := d - 1) rfl rfl ok_X2_size lk_8_X2_size rfl rfl rfl hn (by omega) (Nat.le_refl _) (Nat.le_refl _) ((c_gsize_18 hn hg ?_))
      refine V.ret (v := some (.int (iZ ws.length))) rfl rfl rfl rfl (h0 rfl)
    · refine V.swI (x := iZ 1) (tgt := 44) rfl rfl (by decide) (by decide) rfl (by decide) ?_
      refine V.run 0 54 rfl hn trivial ?_
      try simp only [rc_1_0, rc_1_1, rc_1_2, rc_1_3, rc_1_4, rc_1_5, rc_2_0, rc_2_1, rc_2_2, rc_6_0, rc_6_1, rc_6_2, rc_6_3, rc_7_0, rc_7_1, rc_7_2, rc_7_3, rc_12_0, rc_12_1, rc_12_2, rc_12_3, rc_18_0, rc_18_1, rc_20_0, rc_20_1, rc_22_0, rc_23_0, rc_25_0, rc_27_0, rc_27_1, rc_27_2, rc_31_0, rc_31_1, rc_31_2, rc_55_0, rc_55_1, rc_55_2, rc_1_6, rc_1_7, rc_23_2, fi_0_1, fi_0_2, fi_0_3, fi_1_3, fi_1_4, fi_1_5, fi_1_6, fi_1_7, fi_2_2, fi_3_3, fi_3_4, fi_3_5, fi_4_1, fi_5_4, fi_5_5, fi_5_6, fi_5_7, fi_5_8, fi_5_9, fi_6_1, fi_7_3, fi_7_4]
      refine V.cv (lo := 54) (d' := d - 1) rfl rfl ok_X6_size lk_8_X6_size rfl rfl rfl hn (by omega) (Nat.le_refl _) (Nat.le_refl _) ((c_tsize hn ht ?_))
      refine V.ret (v := some (.int (iZ tx.length))) rfl rfl rfl rfl (h1 rfl)
    · refine V.swI (x := iZ 2) (tgt := 52) rfl rfl (by decide) (by decide) rfl (by decide) ?_
      refine V.run 0 54 rfl hn trivial ?_
      try simp only [rc_1_0, rc_1_1, rc_1_2, rc_1_3, rc_1_4, rc_1_5, rc_2_0, rc_2_1, rc_2_2, rc_6_0, rc_6_1, rc_6_2, rc_6_3, rc_7_0, rc_7_1, rc_7_2, rc_7_3, rc_12_0, rc_12_1, rc_12_2, rc_12_3, rc_18_0, rc_18_1, rc_20_0, rc_20_1, rc_22_0, rc_23_0, rc_25_0, rc_27_0, rc_27_1, rc_27_2, rc_31_0, rc_31_1, rc_31_2, rc_55_0, rc_55_1, rc_55_2, rc_1_6, rc_1_7, rc_23_2, fi_0_1, fi_0_2, fi_0_3, fi_1_3, fi_1_4, fi_1_5, fi_1_6, fi_1_7, fi_2_2, fi_3_3, fi_3_4, fi_3_5, fi_4_1, fi_5_4, fi_5_5, fi_5_6, fi_5_7, fi_5_8, fi_5_9, fi_6_1, fi_7_3, fi_7_4]
      refine V.cv (lo := 54) (d' := d - 1) rfl rfl ok_X1_steps lk_8_X1_steps rfl rfl rfl hn (by omega) (Nat.le_refl _) (Nat.le_refl _) ((c_csteps_27 hn hc ?_))
      refine V.ret (v := some (.int (iZ ((c.length : Int) - 1)))) rfl rfl rfl rfl (h2 rfl)
    · refine V.swI (x := iZ 3) (tgt := 60) rfl rfl (by decide) (by decide) rfl (by decide) ?_
      refine V.run 0 54 rfl hn trivial ?_
      try simp only [rc_1_0, rc_1_1, rc_1_2, rc_1_3, rc_1_4, rc_1_5, rc_2_0, rc_2_1, rc_2_2, rc_6_0, rc_6_1, rc_6_2, rc_6_3, rc_7_0, rc_7_1, rc_7_2, rc_7_3, rc_12_0, rc_12_1, rc_12_2, rc_12_3, rc_18_0, rc_18_1, rc_20_0, rc_20_1, rc_22_0, rc_23_0, rc_25_0, rc_27_0, rc_27_1, rc_27_2, rc_31_0, rc_31_1, rc_31_2, rc_55_0, rc_55_1, rc_55_2, rc_1_6, rc_1_7, rc_23_2, fi_0_1, fi_0_2, fi_0_3, fi_1_3, fi_1_4, fi_1_5, fi_1_6, fi_1_7, fi_2_2, fi_3_3, fi_3_4, fi_3_5, fi_4_1, fi_5_4, fi_5_5, fi_5_6, fi_5_7, fi_5_8, fi_5_9, fi_6_1, fi_7_3, fi_7_4]
      refine V.cv (lo := 54) (d' := d - 1) rfl rfl ok_X1_doublings lk_8_X1_doublings rfl rfl rfl hn (by omega) (Nat.le_refl _) (Nat.le_refl _) ((c_cdbl_27 hn hc ?_))
      refine V.ret (v := some (.int (iZ (dblN pk c.length : Nat)))) rfl rfl rfl rfl (h3 rfl)
  · refine V.swO (x := iZ z) (tgt := 76) rfl rfl (by rw [iZ_toInt hz]; omega) (by decide) ?_
    refine V.run 0 54 rfl hn trivial ?_
    refine V.ret (v := some (.int (iZ (-1)))) rfl rfl rfl rfl (hbad hin)
end CXC27
section CXC31
variable {d n tr : Nat} {Q : PQ} {σ : Mem}
theorem c_count_31 (hn : 54 ≤ n) (hd : 2 ≤ d) {z : Int} {ws tx c : List Nat} {kind : Nat} {pk : Nat → Nat × Nat} (hz : -2147483648 ≤ z ∧ z < 2147483648) (hz4 : z ≠ 4) (hg : gthM 18 σ ws) (ht : txtM σ tx) (hc : chnM 31 σ kind c pk) (hbad : ¬ (0 ≤ z ∧ z ≤ 4) → Q (some (.int (iZ (-1)))) (rho 31 27 tr) σ) (h0 : z = 0 → Q (some (.int (iZ ws.length))) (rho 31 27 tr) σ) (h1 : z = 1 → Q (some (.int (iZ tx.length))) (rho 31 27 tr) σ) (h2 : z = 2 → Q (some (.int (iZ ((c.length : Int) - 1)))) (rho 31 27 tr) σ) (h3 : z = 3 → Q (some (.int (iZ (dblN pk c.length : Nat)))) (rho 31 27 tr) σ) : Mt M_X8_count d n n [.ref 1, .int (iZ z)] (rho 31 27 tr) σ Q := by
  refine Mt.of rfl (by decide +kernel) tk_X8_count (Nat.le_of_ble_eq_true rfl) ?_
  refine V.run 0 54 rfl hn trivial ?_
  by_cases hin : 0 ≤ z ∧ z ≤ 4
  · rcases (show z = 0 ∨ z = 1 ∨ z = 2 ∨ z = 3 by omega) with rfl | rfl | rfl | rfl
    · refine V.swI (x := iZ 0) (tgt := 36) rfl rfl (by decide) (by decide) rfl (by decide) ?_
      refine V.run 0 54 rfl hn trivial ?_
      try simp only [rc_1_0, rc_1_1, rc_1_2, rc_1_3, rc_1_4, rc_1_5, rc_2_0, rc_2_1, rc_2_2, rc_6_0, rc_6_1, rc_6_2, rc_6_3, rc_7_0, rc_7_1, rc_7_2, rc_7_3, rc_12_0, rc_12_1, rc_12_2, rc_12_3, rc_18_0, rc_18_1, rc_20_0, rc_20_1, rc_22_0, rc_23_0, rc_25_0, rc_27_0, rc_27_1, rc_27_2, rc_31_0, rc_31_1, rc_31_2, rc_55_0, rc_55_1, rc_55_2, rc_1_6, rc_1_7, rc_23_2, fi_0_1, fi_0_2, fi_0_3, fi_1_3, fi_1_4, fi_1_5, fi_1_6, fi_1_7, fi_2_2, fi_3_3, fi_3_4, fi_3_5, fi_4_1, fi_5_4, fi_5_5, fi_5_6, fi_5_7, fi_5_8, fi_5_9, fi_6_1, fi_7_3, fi_7_4]
      refine V.cv (lo := 54) (d' := d - 1) rfl rfl ok_X2_size lk_8_X2_size rfl rfl rfl hn (by omega) (Nat.le_refl _) (Nat.le_refl _) ((c_gsize_18 hn hg ?_))
      refine V.ret (v := some (.int (iZ ws.length))) rfl rfl rfl rfl (h0 rfl)
    · refine V.swI (x := iZ 1) (tgt := 44) rfl rfl (by decide) (by decide) rfl (by decide) ?_
      refine V.run 0 54 rfl hn trivial ?_
      try simp only [rc_1_0, rc_1_1, rc_1_2, rc_1_3, rc_1_4, rc_1_5, rc_2_0, rc_2_1, rc_2_2, rc_6_0, rc_6_1, rc_6_2, rc_6_3, rc_7_0, rc_7_1, rc_7_2, rc_7_3, rc_12_0, rc_12_1, rc_12_2, rc_12_3, rc_18_0, rc_18_1, rc_20_0, rc_20_1, rc_22_0, rc_23_0, rc_25_0, rc_27_0, rc_27_1, rc_27_2, rc_31_0, rc_31_1, rc_31_2, rc_55_0, rc_55_1, rc_55_2, rc_1_6, rc_1_7, rc_23_2, fi_0_1, fi_0_2, fi_0_3, fi_1_3, fi_1_4, fi_1_5, fi_1_6, fi_1_7, fi_2_2, fi_3_3, fi_3_4, fi_3_5, fi_4_1, fi_5_4, fi_5_5, fi_5_6, fi_5_7, fi_5_8, fi_5_9, fi_6_1, fi_7_3, fi_7_4]
      refine V.cv (lo := 54) (d' := d - 1) rfl rfl ok_X6_size lk_8_X6_size rfl rfl rfl hn (by omega) (Nat.le_refl _) (Nat.le_refl _) ((c_tsize hn ht ?_))
      refine V.ret (v := some (.int (iZ tx.length))) rfl rfl rfl rfl (h1 rfl)
    · refine V.swI (x := iZ 2) (tgt := 52) rfl rfl (by decide) (by decide) rfl (by decide) ?_
      refine V.run 0 54 rfl hn trivial ?_
      try simp only [rc_1_0, rc_1_1, rc_1_2, rc_1_3, rc_1_4, rc_1_5, rc_2_0, rc_2_1, rc_2_2, rc_6_0, rc_6_1, rc_6_2, rc_6_3, rc_7_0, rc_7_1, rc_7_2, rc_7_3, rc_12_0, rc_12_1, rc_12_2, rc_12_3, rc_18_0, rc_18_1, rc_20_0, rc_20_1, rc_22_0, rc_23_0, rc_25_0, rc_27_0, rc_27_1, rc_27_2, rc_31_0, rc_31_1, rc_31_2, rc_55_0, rc_55_1, rc_55_2, rc_1_6, rc_1_7, rc_23_2, fi_0_1, fi_0_2, fi_0_3, fi_1_3, fi_1_4, fi_1_5, fi_1_6, fi_1_7, fi_2_2, fi_3_3, fi_3_4, fi_3_5, fi_4_1, fi_5_4, fi_5_5, fi_5_6, fi_5_7, fi_5_8, fi_5_9, fi_6_1, fi_7_3, fi_7_4]
      refine V.cv (lo := 54) (d' := d - 1) rfl rfl ok_X1_steps lk_8_X1_steps rfl rfl rfl hn (by omega) (Nat.le_refl _) (Nat.le_refl _) ((c_csteps_31 hn hc ?_))
      refine V.ret (v := some (.int (iZ ((c.length : Int) - 1)))) rfl rfl rfl rfl (h2 rfl)
    · refine V.swI (x := iZ 3) (tgt := 60) rfl rfl (by decide) (by decide) rfl (by decide) ?_
      refine V.run 0 54 rfl hn trivial ?_
      try simp only [rc_1_0, rc_1_1, rc_1_2, rc_1_3, rc_1_4, rc_1_5, rc_2_0, rc_2_1, rc_2_2, rc_6_0, rc_6_1, rc_6_2, rc_6_3, rc_7_0, rc_7_1, rc_7_2, rc_7_3, rc_12_0, rc_12_1, rc_12_2, rc_12_3, rc_18_0, rc_18_1, rc_20_0, rc_20_1, rc_22_0, rc_23_0, rc_25_0, rc_27_0, rc_27_1, rc_27_2, rc_31_0, rc_31_1, rc_31_2, rc_55_0, rc_55_1, rc_55_2, rc_1_6, rc_1_7, rc_23_2, fi_0_1, fi_0_2, fi_0_3, fi_1_3, fi_1_4, fi_1_5, fi_1_6, fi_1_7, fi_2_2, fi_3_3, fi_3_4, fi_3_5, fi_4_1, fi_5_4, fi_5_5, fi_5_6, fi_5_7, fi_5_8, fi_5_9, fi_6_1, fi_7_3, fi_7_4]
      refine V.cv (lo := 54) (d' := d - 1) rfl rfl ok_X1_doublings lk_8_X1_doublings rfl rfl rfl hn (by omega) (Nat.le_refl _) (Nat.le_refl _) ((c_cdbl_31 hn hc ?_))
      refine V.ret (v := some (.int (iZ (dblN pk c.length : Nat)))) rfl rfl rfl rfl (h3 rfl)
  · refine V.swO (x := iZ z) (tgt := 76) rfl rfl (by rw [iZ_toInt hz]; omega) (by decide) ?_
    refine V.run 0 54 rfl hn trivial ?_
    refine V.ret (v := some (.int (iZ (-1)))) rfl rfl rfl rfl (hbad hin)
end CXC31
