/-! ===== the class: rowsTo, numberOfFirst, fewest, asFew, first, hardest ===== -/
section CS5
variable {d n ca cb tr : Nat} {Q : PQ} {σ : Mem} {ρ : Ref}
theorem c_rowsTo (hn : 54 ≤ n) {K N : Nat} (hd : 32 ≤ d) (hok : okN K N) (hN80 : N ≤ 80) (hI : shortI σ) (hQ : ∀ σ', shortI σ' → Fr SH σ σ' → Q (some (.int (iZ (cnt K N (mostOf K N) (feF K N) [1])))) (rho ca cb tr) σ') : Mt M_X5_rowsTo d n n [.ref 6, .int (iZ K), .int (iZ N)] (rho ca cb tr) σ Q := by
  have hK := hok.1
  have h1N := hok.2.1
  refine Mt.of rfl (by decide +kernel) tk_X5_rowsTo (Nat.le_of_ble_eq_true rfl) ?_
  refine V.run 0 54 rfl hn trivial ?_
  refine V.brF rfl (fun c => by have := (iZ_lt0 (by omega)).mp c; omega) ?_
  refine V.run 0 54 rfl hn trivial ?_
  refine V.brF rfl (fun c => by have := (iZ_le (by omega) (by omega)).mp c; omega) ?_
  refine V.run 0 54 rfl hn trivial ?_
  refine V.br rfl (fun (c : iZ N ≤ iZ 1) => ?_) (fun (c : ¬ (iZ N ≤ iZ 1)) => ?_)
  · rw [iZ_le (by omega) (by omega)] at c
    have e : N = 1 := by omega
    subst e
    rw [feF_one hK] at hQ
    refine V.run 0 54 rfl hn trivial ?_
    refine V.ret (v := some (.int (iZ 1))) rfl rfl rfl rfl (hQ σ hI Fr.rf)
  · rw [iZ_le (by omega) (by omega)] at c
    have hN2 : 2 ≤ N := by omega
    have hF := feF_ok hok
    have hFp := feF_pos hok hN2
    refine V.run 0 54 rfl hn trivial ?_
    refine V.brT rfl ((iZ_le (by omega) (by omega)).mpr (by omega)) ?_
    have fin : ∀ (σ1 : Mem), σ1 (13 + K) N = iZ (cnt K N (mostOf K N) (feF K N) [1]) → shortI σ1 → Fr SH σ σ1 → V M_X5_rowsTo d n n none Q n (rho ca cb tr) σ1 54 [some (.ref 6), some (.int (iZ (K))), some (.int (iZ (N)))] [] := by
      intro σ1 h hI1 hf
      refine V.run 60 54 rfl hn ⟨in_N (n := 4) (by omega) (by decide), trivial⟩ ?_
      try simp only [rc_1_0, rc_1_1, rc_1_2, rc_1_3, rc_1_4, rc_1_5, rc_2_0, rc_2_1, rc_2_2, rc_6_0, rc_6_1, rc_6_2, rc_6_3, rc_7_0, rc_7_1, rc_7_2, rc_7_3, rc_12_0, rc_12_1, rc_12_2, rc_12_3, rc_18_0, rc_18_1, rc_20_0, rc_20_1, rc_22_0, rc_23_0, rc_25_0, rc_27_0, rc_27_1, rc_27_2, rc_31_0, rc_31_1, rc_31_2, rc_55_0, rc_55_1, rc_55_2, rc_1_6, rc_1_7, rc_23_2, fi_0_1, fi_0_2, fi_0_3, fi_1_3, fi_1_4, fi_1_5, fi_1_6, fi_1_7, fi_2_2, fi_3_3, fi_3_4, fi_3_5, fi_4_1, fi_5_4, fi_5_5, fi_5_6, fi_5_7, fi_5_8, fi_5_9, fi_6_1, fi_7_3, fi_7_4]
      rw [ix_N (by omega), rv_rows hK]
      rcases (show K = 0 ∨ K = 1 ∨ K = 2 ∨ K = 3 by omega) with rfl | rfl | rfl | rfl
      all_goals
        refine V.run 0 54 rfl hn ⟨in_N (n := 81) (by omega) (by decide), trivial⟩ ?_
        rw [ix_N (by omega), h]
        refine V.ret (v := some (.int (iZ (cnt _ N (mostOf _ N) (feF _ N) [1])))) rfl rfl rfl rfl (hQ σ1 hI1 hf)
    have ld : ∀ (σ1 : Mem), V M_X5_rowsTo d n n none Q n (rho ca cb tr) σ1 30 [some (.ref 6), some (.int (iZ (K))), some (.int (iZ (N)))] [(.int ((σ1 (13 + K) N)))] → V M_X5_rowsTo d n n none Q n (rho ca cb tr) σ1 22 [some (.ref 6), some (.int (iZ (K))), some (.int (iZ (N)))] [] := by
      intro σ1 h
      refine V.run 28 54 rfl hn ⟨in_N (n := 4) (by omega) (by decide), trivial⟩ ?_
      try simp only [rc_1_0, rc_1_1, rc_1_2, rc_1_3, rc_1_4, rc_1_5, rc_2_0, rc_2_1, rc_2_2, rc_6_0, rc_6_1, rc_6_2, rc_6_3, rc_7_0, rc_7_1, rc_7_2, rc_7_3, rc_12_0, rc_12_1, rc_12_2, rc_12_3, rc_18_0, rc_18_1, rc_20_0, rc_20_1, rc_22_0, rc_23_0, rc_25_0, rc_27_0, rc_27_1, rc_27_2, rc_31_0, rc_31_1, rc_31_2, rc_55_0, rc_55_1, rc_55_2, rc_1_6, rc_1_7, rc_23_2, fi_0_1, fi_0_2, fi_0_3, fi_1_3, fi_1_4, fi_1_5, fi_1_6, fi_1_7, fi_2_2, fi_3_3, fi_3_4, fi_3_5, fi_4_1, fi_5_4, fi_5_5, fi_5_6, fi_5_7, fi_5_8, fi_5_9, fi_6_1, fi_7_3, fi_7_4]
      rw [ix_N (by omega), rv_rows hK]
      rcases (show K = 0 ∨ K = 1 ∨ K = 2 ∨ K = 3 by omega) with rfl | rfl | rfl | rfl
      all_goals
        refine V.run 0 54 rfl hn ⟨in_N (n := 81) (by omega) (by decide), trivial⟩ ?_
        rw [ix_N (by omega)]
        exact h
    have store : ∀ (σ1 : Mem), shortI σ1 → Fr SH σ σ1 → V M_X5_rowsTo d n n none Q n (rho ca cb tr) σ1 53 [some (.ref 6), some (.int (iZ (K))), some (.int (iZ (N)))] [(.int (iZ ((cnt K N (mostOf K N) (feF K N) [1])))), (.int (iZ (N))), (.ref (13 + K))] := by
      intro σ1 hI1 hf
      have hm : 13 + K ∈ SH := by
        rcases (show K = 0 ∨ K = 1 ∨ K = 2 ∨ K = 3 by omega) with rfl | rfl | rfl | rfl <;> decide
      have hI2 : shortI (up σ1 (13 + K) N (iZ (cnt K N (mostOf K N) (feF K N) [1]))) := by
        obtain ⟨⟨k0, r0, q1⟩, q2, q3, q4⟩ := hI1
        refine ⟨⟨k0, r0, q1.fr (Fr.put (S := [13 + K]) (by simp)) (by simp; omega) (by simp; omega) (by simp; omega) (by simp; omega)⟩, fun K' N' h1 h2 => ?_, fun K' N' h1 h2 => ?_, foI.same q4 (fun j _ => by rw [up_ne (by omega)]) ?_⟩
        · rw [up_ne (by omega)]
          exact q2 K' N' h1 h2
        · by_cases e : K' = K
          · subst e
            by_cases e2 : N' = N
            · subst e2
              exact Or.inr ⟨hok, hN2, by rw [up_at]⟩
            · rw [up_nat e2]
              exact q3 K' N' h1 h2
          · rw [up_ne (by omega)]
            exact q3 K' N' h1 h2
        · rw [up_ne (by omega)]
      have key := fin (up σ1 (13 + K) N (iZ (cnt K N (mostOf K N) (feF K N) [1]))) up_at hI2 (Fr.putT hf hm)
      rcases (show K = 0 ∨ K = 1 ∨ K = 2 ∨ K = 3 by omega) with rfl | rfl | rfl | rfl
      all_goals
        refine V.run 54 54 rfl hn ⟨in_N (n := 81) (by omega) (by decide), trivial⟩ ?_
        rw [ix_N (by omega)]
        exact key
    refine ld σ ?_
    refine V.br rfl (fun (c2 : σ (13 + K) N = 0) => ?_) (fun (c2 : ¬ (σ (13 + K) N = 0)) => ?_)
    · refine V.run 39 54 rfl hn ⟨in_N (n := 4) (by omega) (by decide), trivial⟩ ?_
      try simp only [rc_1_0, rc_1_1, rc_1_2, rc_1_3, rc_1_4, rc_1_5, rc_2_0, rc_2_1, rc_2_2, rc_6_0, rc_6_1, rc_6_2, rc_6_3, rc_7_0, rc_7_1, rc_7_2, rc_7_3, rc_12_0, rc_12_1, rc_12_2, rc_12_3, rc_18_0, rc_18_1, rc_20_0, rc_20_1, rc_22_0, rc_23_0, rc_25_0, rc_27_0, rc_27_1, rc_27_2, rc_31_0, rc_31_1, rc_31_2, rc_55_0, rc_55_1, rc_55_2, rc_1_6, rc_1_7, rc_23_2, fi_0_1, fi_0_2, fi_0_3, fi_1_3, fi_1_4, fi_1_5, fi_1_6, fi_1_7, fi_2_2, fi_3_3, fi_3_4, fi_3_5, fi_4_1, fi_5_4, fi_5_5, fi_5_6, fi_5_7, fi_5_8, fi_5_9, fi_6_1, fi_7_3, fi_7_4]
      rw [ix_N (by omega), rv_rows hK]
      refine V.run 0 54 rfl hn trivial ?_
      refine V.cv (lo := 54) (d' := d - 1) rfl rfl ok_X5_stepsTo lk_5_X5_stepsTo rfl rfl rfl hn (by omega) (Nat.le_refl _) (Nat.le_refl _) ((c_stepsTo hn (by omega) hok hI (fun σ1 hI1 hf1 => ?_)))
      refine V.run 0 54 rfl hn trivial ?_
      refine V.cv (lo := 54) (d' := d - 1) rfl rfl ok_X5_search lk_5_X5_search rfl rfl rfl hn (by omega) (Nat.le_refl _) (Nat.le_refl _) ((c_search (all := true) hn (by omega) hok hN2 (by omega) (minF hok (Nat.le_refl _)) hI1.1 (fun σ2 z hres ht2 hf2 => ?_)))
      rcases hres with ⟨-, b, e, f⟩ | ⟨a, -⟩ | ⟨a, -⟩
      · rw [b]
        refine store σ2 ⟨ht2, fun K' N' h1 h2 => ?_, fun K' N' h1 h2 => ?_, foI.same hI1.2.2.2 e f⟩ (hf1.tr (hf2.mono (by decide)))
        · rw [hf2 (8 + K') (by simp; omega)]; exact hI1.2.1 K' N' h1 h2
        · rw [hf2 (13 + K') (by simp; omega)]; exact hI1.2.2.1 K' N' h1 h2
      · cases a
      · cases a
    · rcases hI.2.2.1 K N hK hN80 with h0 | ⟨-, -, h0⟩
      · exact absurd h0 c2
      · exact fin σ h0 hI Fr.rf
theorem c_numberOfFirst (hn : 54 ≤ n) {K N : Nat} {i : Int} (hd : 32 ≤ d) (hok : okN K N) (hi : 0 ≤ i ∧ i < 2147483648) (hI : shortI σ) (hQ : ∀ σ', shortI σ' → Fr SH σ σ' → Q (some (.int (iZ (if i ≤ feF K N then ((firstRow K N).getD i.toNat 0 : Nat) else -4)))) (rho ca cb tr) σ') : Mt M_X5_numberOfFirst d n n [.ref 6, .int (iZ K), .int (iZ N), .int (iZ i)] (rho ca cb tr) σ Q := by
  have hK := hok.1
  have h1N := hok.2.1
  have hN160 : N ≤ 160 := by
    have := hok.2.2
    split at this <;> omega
  have hF := feF_ok hok
  have hrow := firstRow_ok hok
  refine Mt.of rfl (by decide +kernel) tk_X5_numberOfFirst (Nat.le_of_ble_eq_true rfl) ?_
  refine V.run 0 54 rfl hn trivial ?_
  refine V.cv (lo := 54) (d' := d - 1) rfl rfl ok_X5_stepsTo lk_5_X5_stepsTo rfl rfl rfl hn (by omega) (Nat.le_refl _) (Nat.le_refl _) ((c_stepsTo hn (by omega) hok hI (fun σ1 hI1 hf1 => ?_)))
  refine V.br rfl (fun (c : iZ i ≤ iZ (feF K N)) => ?_) (fun (c : ¬ (iZ i ≤ iZ (feF K N))) => ?_)
  · rw [iZ_le (by omega) (by omega)] at c
    rw [if_pos c] at hQ
    refine V.run 0 54 rfl hn trivial ?_
    refine V.br rfl (fun (c2 : iZ i = 0) => ?_) (fun (c2 : ¬ (iZ i = 0)) => ?_)
    · rw [iZ_eq0 (by omega)] at c2
      rw [c2, show (0 : Int).toNat = 0 from rfl, hrow.2.2] at hQ
      refine V.run 0 54 rfl hn trivial ?_
      refine V.ret (v := some (.int (iZ 1))) rfl rfl rfl rfl (hQ σ1 hI1 hf1)
    · rw [iZ_eq0 (by omega)] at c2
      have hN2 : 2 ≤ N := by
        rcases Nat.lt_or_ge N 2 with q | q
        · have e : N = 1 := by omega
          rw [e, feF_one hK] at c
          omega
        · exact q
      have hFp := feF_pos hok hN2
      have fin : ∀ (σ2 : Mem), foundM σ2 K N (firstRow K N) → shortI σ2 → Fr SH σ σ2 → V M_X5_numberOfFirst d n n none Q n (rho ca cb tr) σ2 49 [some (.ref 6), some (.int (iZ (K))), some (.int (iZ (N))), some (.int (iZ (i)))] [] := by
        intro σ2 hm hI2 hf2
        refine V.run 0 54 rfl hn trivial ?_
        refine V.brF rfl (fun c => by have := (iZ_le0 (by omega)).mp c; omega) ?_
        refine V.run 0 54 rfl hn trivial ?_
        try simp only [rc_1_0, rc_1_1, rc_1_2, rc_1_3, rc_1_4, rc_1_5, rc_2_0, rc_2_1, rc_2_2, rc_6_0, rc_6_1, rc_6_2, rc_6_3, rc_7_0, rc_7_1, rc_7_2, rc_7_3, rc_12_0, rc_12_1, rc_12_2, rc_12_3, rc_18_0, rc_18_1, rc_20_0, rc_20_1, rc_22_0, rc_23_0, rc_25_0, rc_27_0, rc_27_1, rc_27_2, rc_31_0, rc_31_1, rc_31_2, rc_55_0, rc_55_1, rc_55_2, rc_1_6, rc_1_7, rc_23_2, fi_0_1, fi_0_2, fi_0_3, fi_1_3, fi_1_4, fi_1_5, fi_1_6, fi_1_7, fi_2_2, fi_3_3, fi_3_4, fi_3_5, fi_4_1, fi_5_4, fi_5_5, fi_5_6, fi_5_7, fi_5_8, fi_5_9, fi_6_1, fi_7_3, fi_7_4]
        rw [hm.1.1]
        refine V.brF rfl (fun c => by have := (iZ_le (by omega) (by omega)).mp c; omega) ?_
        refine V.run 0 54 rfl hn ⟨in_iZ (n := 48) (by omega) (by decide), trivial⟩ ?_
        try simp only [rc_1_0, rc_1_1, rc_1_2, rc_1_3, rc_1_4, rc_1_5, rc_2_0, rc_2_1, rc_2_2, rc_6_0, rc_6_1, rc_6_2, rc_6_3, rc_7_0, rc_7_1, rc_7_2, rc_7_3, rc_12_0, rc_12_1, rc_12_2, rc_12_3, rc_18_0, rc_18_1, rc_20_0, rc_20_1, rc_22_0, rc_23_0, rc_25_0, rc_27_0, rc_27_1, rc_27_2, rc_31_0, rc_31_1, rc_31_2, rc_55_0, rc_55_1, rc_55_2, rc_1_6, rc_1_7, rc_23_2, fi_0_1, fi_0_2, fi_0_3, fi_1_3, fi_1_4, fi_1_5, fi_1_6, fi_1_7, fi_2_2, fi_3_3, fi_3_4, fi_3_5, fi_4_1, fi_5_4, fi_5_5, fi_5_6, fi_5_7, fi_5_8, fi_5_9, fi_6_1, fi_7_3, fi_7_4]
        rw [ix_iZ (by omega), hm.1.2 _ (by omega)]
        refine V.ret (v := some (.int (iZ ((firstRow K N).getD i.toNat 0)))) rfl rfl rfl rfl (hQ σ2 hI2 hf2)
      have again : V M_X5_numberOfFirst d n n none Q n (rho ca cb tr) σ1 35 [some (.ref 6), some (.int (iZ (K))), some (.int (iZ (N))), some (.int (iZ (i)))] [] := by
        refine V.run 0 54 rfl hn trivial ?_
        refine V.cv (lo := 54) (d' := d - 1) rfl rfl ok_X5_stepsTo lk_5_X5_stepsTo rfl rfl rfl hn (by omega) (Nat.le_refl _) (Nat.le_refl _) ((c_stepsTo hn (by omega) hok hI1 (fun σ2 hI2 hf2 => ?_)))
        refine V.run 0 54 rfl hn trivial ?_
        refine V.cv (lo := 54) (d' := d - 1) rfl rfl ok_X5_search lk_5_X5_search rfl rfl rfl hn (by omega) (Nat.le_refl _) (Nat.le_refl _) ((c_search (all := false) hn (by omega) hok hN2 (by omega) (minF hok (Nat.le_refl _)) hI2.1 (fun σ3 z hres ht3 hf3 => ?_)))
        rw [hrow.1] at hres
        rcases hres with ⟨a, -⟩ | ⟨-, a, -⟩ | ⟨-, row, a, b, e⟩
        · cases a
        · cases a
        · cases a
          refine V.run 49 54 rfl hn trivial ?_
          refine fin σ3 e ⟨ht3, fun K' N' h1 h2 => ?_, fun K' N' h1 h2 => ?_, Or.inr ⟨K, N, hok, hN2, e⟩⟩ (hf1.tr (hf2.tr (hf3.mono (by decide))))
          · rw [hf3 (8 + K') (by simp; omega)]; exact hI2.2.1 K' N' h1 h2
          · rw [hf3 (13 + K') (by simp; omega)]; exact hI2.2.2.1 K' N' h1 h2
      refine V.run 0 54 rfl hn trivial ?_
      try simp only [rc_1_0, rc_1_1, rc_1_2, rc_1_3, rc_1_4, rc_1_5, rc_2_0, rc_2_1, rc_2_2, rc_6_0, rc_6_1, rc_6_2, rc_6_3, rc_7_0, rc_7_1, rc_7_2, rc_7_3, rc_12_0, rc_12_1, rc_12_2, rc_12_3, rc_18_0, rc_18_1, rc_20_0, rc_20_1, rc_22_0, rc_23_0, rc_25_0, rc_27_0, rc_27_1, rc_27_2, rc_31_0, rc_31_1, rc_31_2, rc_55_0, rc_55_1, rc_55_2, rc_1_6, rc_1_7, rc_23_2, fi_0_1, fi_0_2, fi_0_3, fi_1_3, fi_1_4, fi_1_5, fi_1_6, fi_1_7, fi_2_2, fi_3_3, fi_3_4, fi_3_5, fi_4_1, fi_5_4, fi_5_5, fi_5_6, fi_5_7, fi_5_8, fi_5_9, fi_6_1, fi_7_3, fi_7_4]
      rcases hI1.2.2.2 with h5 | ⟨K', N', o1, o2, o3⟩
      · rw [h5]
        refine V.brF rfl (fun c => by have := (iZ_eq (by omega) (by omega)).mp c; omega) ?_
        exact again
      · have hK' := o1.1
        have hN' : N' ≤ 160 := by
          have := o1.2.2
          split at this <;> omega
        rw [o3.2.1]
        refine V.br rfl (fun (c3 : iZ K' = iZ K) => ?_) (fun (c3 : ¬ (iZ K' = iZ K)) => ?_)
        · rw [iZ_eq (by omega) (by omega)] at c3
          have c3 : K' = K := by omega
          subst c3
          refine V.run 0 54 rfl hn trivial ?_
          try simp only [rc_1_0, rc_1_1, rc_1_2, rc_1_3, rc_1_4, rc_1_5, rc_2_0, rc_2_1, rc_2_2, rc_6_0, rc_6_1, rc_6_2, rc_6_3, rc_7_0, rc_7_1, rc_7_2, rc_7_3, rc_12_0, rc_12_1, rc_12_2, rc_12_3, rc_18_0, rc_18_1, rc_20_0, rc_20_1, rc_22_0, rc_23_0, rc_25_0, rc_27_0, rc_27_1, rc_27_2, rc_31_0, rc_31_1, rc_31_2, rc_55_0, rc_55_1, rc_55_2, rc_1_6, rc_1_7, rc_23_2, fi_0_1, fi_0_2, fi_0_3, fi_1_3, fi_1_4, fi_1_5, fi_1_6, fi_1_7, fi_2_2, fi_3_3, fi_3_4, fi_3_5, fi_4_1, fi_5_4, fi_5_5, fi_5_6, fi_5_7, fi_5_8, fi_5_9, fi_6_1, fi_7_3, fi_7_4]
          rw [o3.2.2]
          refine V.br rfl (fun (c4 : iZ N' = iZ N) => ?_) (fun (c4 : ¬ (iZ N' = iZ N)) => ?_)
          · rw [iZ_eq (by omega) (by omega)] at c4
            have c4 : N' = N := by omega
            subst c4
            exact fin σ1 o3 hI1 hf1
          · exact again
        · exact again
  · rw [iZ_le (by omega) (by omega)] at c
    rw [if_neg c] at hQ
    refine V.run 0 54 rfl hn trivial ?_
    refine V.ret (v := some (.int (iZ (-4)))) rfl rfl rfl rfl (hQ σ1 hI1 hf1)
theorem c_isKind {k : Int} (hk : -2147483648 ≤ k ∧ k < 2147483648) (h1 : 0 ≤ k ∧ k ≤ 3 → Q (some (.int 1)) ρ σ) (h0 : ¬ (0 ≤ k ∧ k ≤ 3) → Q (some (.int 0)) ρ σ) : Mt M_X8_isKind d n n [.int (iZ k)] ρ σ Q := by
  refine Mt.of rfl (by decide +kernel) tk_X8_isKind (Nat.le_of_ble_eq_true rfl) ?_
  refine V.run 0 0 rfl (Nat.zero_le _) trivial ?_
  refine V.br rfl (fun (c : iZ k < 0) => ?_) (fun (c : ¬ (iZ k < 0)) => ?_)
  · rw [iZ_lt0 (by omega)] at c
    refine V.run 0 0 rfl (Nat.zero_le _) trivial ?_
    refine V.ret (v := some (.int 0)) rfl rfl ⟨rfl, Or.inl rfl⟩ rfl (h0 (by omega))
  · rw [iZ_lt0 (by omega)] at c
    refine V.run 0 0 rfl (Nat.zero_le _) trivial ?_
    refine V.br rfl (fun (c2 : iZ 4 ≤ iZ k) => ?_) (fun (c2 : ¬ (iZ 4 ≤ iZ k)) => ?_)
    · rw [iZ_le (by omega) (by omega)] at c2
      refine V.run 0 0 rfl (Nat.zero_le _) trivial ?_
      refine V.ret (v := some (.int 0)) rfl rfl ⟨rfl, Or.inl rfl⟩ rfl (h0 (by omega))
    · rw [iZ_le (by omega) (by omega)] at c2
      refine V.run 0 0 rfl (Nat.zero_le _) trivial ?_
      refine V.ret (v := some (.int 1)) rfl rfl ⟨rfl, Or.inr rfl⟩ rfl (h1 (by omega))
theorem c_fewestMost (hd : 1 ≤ d) {k : Int} (hk : -2147483648 ≤ k ∧ k < 2147483648) (hQ : Q (some (.int (iZ (if 0 ≤ k ∧ k ≤ 3 then (if k = 2 then 40 else 160) else 0)))) ρ σ) : Mt M_X8_fewestMost d n n [.int (iZ k)] ρ σ Q := by
  refine Mt.of rfl (by decide +kernel) tk_X8_fewestMost (Nat.le_of_ble_eq_true rfl) ?_
  refine V.run 0 0 rfl (Nat.zero_le _) trivial ?_
  refine V.cs (d' := d - 1) rfl rfl ok_X8_isKind lk_8_X8_isKind rfl (by omega) (Nat.le_refl _) (Nat.le_refl _) ((c_isKind hk (fun g => ?_) (fun g => ?_)))
  · rw [if_pos g] at hQ
    refine V.brF rfl (by decide) ?_
    refine V.run 0 0 rfl (Nat.zero_le _) trivial ?_
    refine V.br rfl (fun (c : iZ k = iZ 2) => ?_) (fun (c : ¬ (iZ k = iZ 2)) => ?_)
    · rw [iZ_eq (by omega) (by omega)] at c
      rw [if_pos c] at hQ
      refine V.run 0 0 rfl (Nat.zero_le _) trivial ?_
      refine V.ret (v := some (.int (iZ 40))) rfl rfl rfl rfl (hQ)
    · rw [iZ_eq (by omega) (by omega)] at c
      rw [if_neg c] at hQ
      refine V.run 0 0 rfl (Nat.zero_le _) trivial ?_
      refine V.ret (v := some (.int (iZ 160))) rfl rfl rfl rfl (hQ)
  · rw [if_neg g] at hQ
    refine V.brT rfl rfl ?_
    refine V.run 0 0 rfl (Nat.zero_le _) trivial ?_
    refine V.ret (v := some (.int (iZ 0))) rfl rfl rfl rfl (hQ)
theorem c_asFewMost (hd : 1 ≤ d) {k : Int} (hk : -2147483648 ≤ k ∧ k < 2147483648) (hQ : Q (some (.int (iZ (if 0 ≤ k ∧ k ≤ 3 then (if k = 2 then 24 else 80) else 0)))) ρ σ) : Mt M_X8_asFewMost d n n [.int (iZ k)] ρ σ Q := by
  refine Mt.of rfl (by decide +kernel) tk_X8_asFewMost (Nat.le_of_ble_eq_true rfl) ?_
  refine V.run 0 0 rfl (Nat.zero_le _) trivial ?_
  refine V.cs (d' := d - 1) rfl rfl ok_X8_isKind lk_8_X8_isKind rfl (by omega) (Nat.le_refl _) (Nat.le_refl _) ((c_isKind hk (fun g => ?_) (fun g => ?_)))
  · rw [if_pos g] at hQ
    refine V.brF rfl (by decide) ?_
    refine V.run 0 0 rfl (Nat.zero_le _) trivial ?_
    refine V.br rfl (fun (c : iZ k = iZ 2) => ?_) (fun (c : ¬ (iZ k = iZ 2)) => ?_)
    · rw [iZ_eq (by omega) (by omega)] at c
      rw [if_pos c] at hQ
      refine V.run 0 0 rfl (Nat.zero_le _) trivial ?_
      refine V.ret (v := some (.int (iZ 24))) rfl rfl rfl rfl (hQ)
    · rw [iZ_eq (by omega) (by omega)] at c
      rw [if_neg c] at hQ
      refine V.run 0 0 rfl (Nat.zero_le _) trivial ?_
      refine V.ret (v := some (.int (iZ 80))) rfl rfl rfl rfl (hQ)
  · rw [if_neg g] at hQ
    refine V.brT rfl rfl ?_
    refine V.run 0 0 rfl (Nat.zero_le _) trivial ?_
    refine V.ret (v := some (.int (iZ 0))) rfl rfl rfl rfl (hQ)
theorem mostI (k : Int) (a b : Int) (ha : 0 ≤ a ∧ a ≤ 1000) (hb : 0 ≤ b ∧ b ≤ 1000) : 0 ≤ (if 0 ≤ k ∧ k ≤ 3 then (if k = 2 then a else b) else 0) ∧ (if 0 ≤ k ∧ k ≤ 3 then (if k = 2 then a else b) else 0) ≤ 1000 := by
  split
  · split <;> omega
  · omega
theorem c_fewest (hn : 54 ≤ n) (hd : 33 ≤ d) {k N : Int} (hk : -2147483648 ≤ k ∧ k < 2147483648) (hN : -2147483648 ≤ N ∧ N < 2147483648) (hI : shortI σ) (hQ : ∀ σ', shortI σ' → Fr SH σ σ' → Q (some (.int (iZ (A_fewest k N)))) (rho ca cb tr) σ') : Mt M_X8_fewest d n n [.ref 1, .int (iZ k), .int (iZ N)] (rho ca cb tr) σ Q := by
  refine Mt.of rfl (by decide +kernel) tk_X8_fewest (Nat.le_of_ble_eq_true rfl) ?_
  have bad : ¬ (0 ≤ k ∧ k ≤ 3 ∧ 1 ≤ N ∧ N ≤ (if k = 2 then 40 else 160)) → V M_X8_fewest d n n none Q n (rho ca cb tr) σ 13 [some (.ref 1), some (.int (iZ (k))), some (.int (iZ (N)))] [] := by
    intro g
    refine V.run 0 54 rfl hn trivial ?_
    refine V.ret (v := some (.int (iZ (-1)))) rfl rfl rfl rfl (?_)
    have := hQ σ hI Fr.rf
    unfold A_fewest at this
    rw [if_neg g] at this
    exact this
  have hmo := mostI k 40 160 (by omega) (by omega)
  refine V.run 0 54 rfl hn trivial ?_
  refine V.br rfl (fun (c : iZ N < iZ 1) => ?_) (fun (c : ¬ (iZ N < iZ 1)) => ?_)
  · rw [iZ_lt (by omega) (by omega)] at c
    exact bad (by omega)
  · rw [iZ_lt (by omega) (by omega)] at c
    refine V.run 0 54 rfl hn trivial ?_
    refine V.cs (d' := d - 1) rfl rfl ok_X8_fewestMost lk_8_X8_fewestMost rfl (by omega) (Nat.le_refl _) (Nat.le_refl _) ((c_fewestMost (by omega) hk ?_))
    refine V.br rfl (fun (c2 : iZ N ≤ iZ (if 0 ≤ k ∧ k ≤ 3 then (if k = 2 then 40 else 160) else 0)) => ?_) (fun (c2 : ¬ (iZ N ≤ iZ (if 0 ≤ k ∧ k ≤ 3 then (if k = 2 then 40 else 160) else 0))) => ?_)
    · rw [iZ_le (by omega) (by omega)] at c2
      have g : 0 ≤ k ∧ k ≤ 3 ∧ 1 ≤ N ∧ N ≤ (if k = 2 then 40 else 160) := by
        by_cases h : 0 ≤ k ∧ k ≤ 3
        · rw [if_pos h] at c2
          exact ⟨h.1, h.2, by omega, c2⟩
        · rw [if_neg h] at c2
          omega
      obtain ⟨o1, o2, o3, o4⟩ := okN_of g
      refine V.run 0 54 rfl hn trivial ?_
      try simp only [rc_1_0, rc_1_1, rc_1_2, rc_1_3, rc_1_4, rc_1_5, rc_2_0, rc_2_1, rc_2_2, rc_6_0, rc_6_1, rc_6_2, rc_6_3, rc_7_0, rc_7_1, rc_7_2, rc_7_3, rc_12_0, rc_12_1, rc_12_2, rc_12_3, rc_18_0, rc_18_1, rc_20_0, rc_20_1, rc_22_0, rc_23_0, rc_25_0, rc_27_0, rc_27_1, rc_27_2, rc_31_0, rc_31_1, rc_31_2, rc_55_0, rc_55_1, rc_55_2, rc_1_6, rc_1_7, rc_23_2, fi_0_1, fi_0_2, fi_0_3, fi_1_3, fi_1_4, fi_1_5, fi_1_6, fi_1_7, fi_2_2, fi_3_3, fi_3_4, fi_3_5, fi_4_1, fi_5_4, fi_5_5, fi_5_6, fi_5_7, fi_5_8, fi_5_9, fi_6_1, fi_7_3, fi_7_4]
      rw [← o2, ← o3]
      refine V.cv (lo := 54) (d' := d - 1) rfl rfl ok_X5_stepsTo lk_8_X5_stepsTo rfl rfl rfl hn (by omega) (Nat.le_refl _) (Nat.le_refl _) ((c_stepsTo hn (by omega) o1 hI (fun σ1 hI1 hf1 => ?_)))
      refine V.ret (v := some (.int (iZ (feF k.toNat N.toNat)))) rfl rfl rfl rfl (?_)
      have := hQ σ1 hI1 hf1
      unfold A_fewest at this
      rw [if_pos g] at this
      exact this
    · rw [iZ_le (by omega) (by omega)] at c2
      refine bad (fun g => ?_)
      rw [if_pos ⟨g.1, g.2.1⟩] at c2
      exact c2 g.2.2.2
theorem c_first (hn : 54 ≤ n) (hd : 34 ≤ d) {k N i : Int} (hk : -2147483648 ≤ k ∧ k < 2147483648) (hN : -2147483648 ≤ N ∧ N < 2147483648) (hi : -2147483648 ≤ i ∧ i < 2147483648) (hI : shortI σ) (hQ : ∀ σ', shortI σ' → Fr SH σ σ' → Q (some (.int (iZ (A_first k N i)))) (rho ca cb tr) σ') : Mt M_X8_first d n n [.ref 1, .int (iZ k), .int (iZ N), .int (iZ i)] (rho ca cb tr) σ Q := by
  refine Mt.of rfl (by decide +kernel) tk_X8_first (Nat.le_of_ble_eq_true rfl) ?_
  have bad : ¬ ((0 ≤ k ∧ k ≤ 3 ∧ 1 ≤ N ∧ N ≤ (if k = 2 then 40 else 160)) ∧ 0 ≤ i) → V M_X8_first d n n none Q n (rho ca cb tr) σ 17 [some (.ref 1), some (.int (iZ (k))), some (.int (iZ (N))), some (.int (iZ (i)))] [] := by
    intro g
    refine V.run 0 54 rfl hn trivial ?_
    refine V.ret (v := some (.int (iZ (-1)))) rfl rfl rfl rfl (?_)
    have := hQ σ hI Fr.rf
    unfold A_first at this
    rw [if_neg g] at this
    exact this
  have hmo := mostI k 40 160 (by omega) (by omega)
  refine V.run 0 54 rfl hn trivial ?_
  refine V.br rfl (fun (c : iZ N < iZ 1) => ?_) (fun (c : ¬ (iZ N < iZ 1)) => ?_)
  · rw [iZ_lt (by omega) (by omega)] at c
    exact bad (by omega)
  · rw [iZ_lt (by omega) (by omega)] at c
    refine V.run 0 54 rfl hn trivial ?_
    refine V.cs (d' := d - 1) rfl rfl ok_X8_fewestMost lk_8_X8_fewestMost rfl (by omega) (Nat.le_refl _) (Nat.le_refl _) ((c_fewestMost (by omega) hk ?_))
    refine V.br rfl (fun (c2 : iZ (if 0 ≤ k ∧ k ≤ 3 then (if k = 2 then 40 else 160) else 0) < iZ N) => ?_) (fun (c2 : ¬ (iZ (if 0 ≤ k ∧ k ≤ 3 then (if k = 2 then 40 else 160) else 0) < iZ N)) => ?_)
    · rw [iZ_lt (by omega) (by omega)] at c2
      refine bad (fun g => ?_)
      rw [if_pos ⟨g.1.1, g.1.2.1⟩] at c2
      have := g.1.2.2.2
      omega
    · rw [iZ_lt (by omega) (by omega)] at c2
      have g : 0 ≤ k ∧ k ≤ 3 ∧ 1 ≤ N ∧ N ≤ (if k = 2 then 40 else 160) := by
        by_cases h : 0 ≤ k ∧ k ≤ 3
        · rw [if_pos h] at c2
          exact ⟨h.1, h.2, by omega, by omega⟩
        · rw [if_neg h] at c2
          omega
      obtain ⟨o1, o2, o3, o4⟩ := okN_of g
      refine V.run 0 54 rfl hn trivial ?_
      refine V.br rfl (fun (c3 : 0 ≤ iZ i) => ?_) (fun (c3 : ¬ (0 ≤ iZ i)) => ?_)
      · rw [iZ_0le (by omega)] at c3
        refine V.run 0 54 rfl hn trivial ?_
        try simp only [rc_1_0, rc_1_1, rc_1_2, rc_1_3, rc_1_4, rc_1_5, rc_2_0, rc_2_1, rc_2_2, rc_6_0, rc_6_1, rc_6_2, rc_6_3, rc_7_0, rc_7_1, rc_7_2, rc_7_3, rc_12_0, rc_12_1, rc_12_2, rc_12_3, rc_18_0, rc_18_1, rc_20_0, rc_20_1, rc_22_0, rc_23_0, rc_25_0, rc_27_0, rc_27_1, rc_27_2, rc_31_0, rc_31_1, rc_31_2, rc_55_0, rc_55_1, rc_55_2, rc_1_6, rc_1_7, rc_23_2, fi_0_1, fi_0_2, fi_0_3, fi_1_3, fi_1_4, fi_1_5, fi_1_6, fi_1_7, fi_2_2, fi_3_3, fi_3_4, fi_3_5, fi_4_1, fi_5_4, fi_5_5, fi_5_6, fi_5_7, fi_5_8, fi_5_9, fi_6_1, fi_7_3, fi_7_4]
        rw [← o2, ← o3]
        refine V.cv (lo := 54) (d' := d - 1) rfl rfl ok_X5_numberOfFirst lk_8_X5_numberOfFirst rfl rfl rfl hn (by omega) (Nat.le_refl _) (Nat.le_refl _) ((c_numberOfFirst hn (by omega) o1 (by omega) hI (fun σ1 hI1 hf1 => ?_)))
        refine V.ret (v := some (.int (iZ (if i ≤ feF k.toNat N.toNat then ((firstRow k.toNat N.toNat).getD i.toNat 0 : Nat) else -4)))) rfl rfl rfl rfl (?_)
        have := hQ σ1 hI1 hf1
        unfold A_first at this
        rw [if_pos ⟨g, c3⟩] at this
        exact this
      · rw [iZ_0le (by omega)] at c3
        exact bad (fun q => c3 q.2)
theorem c_asFew (hn : 54 ≤ n) (hd : 34 ≤ d) {k N : Int} (hk : -2147483648 ≤ k ∧ k < 2147483648) (hN : -2147483648 ≤ N ∧ N < 2147483648) (hI : shortI σ) (hQ : ∀ σ', shortI σ' → Fr SH σ σ' → Q (some (.int (iZ (A_asFew k N)))) (rho ca cb tr) σ') : Mt M_X8_asFew d n n [.ref 1, .int (iZ k), .int (iZ N)] (rho ca cb tr) σ Q := by
  refine Mt.of rfl (by decide +kernel) tk_X8_asFew (Nat.le_of_ble_eq_true rfl) ?_
  have bad : ¬ (0 ≤ k ∧ k ≤ 3 ∧ 1 ≤ N ∧ N ≤ (if k = 2 then 24 else 80)) → V M_X8_asFew d n n none Q n (rho ca cb tr) σ 13 [some (.ref 1), some (.int (iZ (k))), some (.int (iZ (N)))] [] := by
    intro g
    refine V.run 0 54 rfl hn trivial ?_
    refine V.ret (v := some (.int (iZ (-1)))) rfl rfl rfl rfl (?_)
    have := hQ σ hI Fr.rf
    unfold A_asFew at this
    rw [if_neg g] at this
    exact this
  have hmo := mostI k 24 80 (by omega) (by omega)
  refine V.run 0 54 rfl hn trivial ?_
  refine V.br rfl (fun (c : iZ N < iZ 1) => ?_) (fun (c : ¬ (iZ N < iZ 1)) => ?_)
  · rw [iZ_lt (by omega) (by omega)] at c
    exact bad (by omega)
  · rw [iZ_lt (by omega) (by omega)] at c
    refine V.run 0 54 rfl hn trivial ?_
    refine V.cs (d' := d - 1) rfl rfl ok_X8_asFewMost lk_8_X8_asFewMost rfl (by omega) (Nat.le_refl _) (Nat.le_refl _) ((c_asFewMost (by omega) hk ?_))
    refine V.br rfl (fun (c2 : iZ N ≤ iZ (if 0 ≤ k ∧ k ≤ 3 then (if k = 2 then 24 else 80) else 0)) => ?_) (fun (c2 : ¬ (iZ N ≤ iZ (if 0 ≤ k ∧ k ≤ 3 then (if k = 2 then 24 else 80) else 0))) => ?_)
    · rw [iZ_le (by omega) (by omega)] at c2
      have g : 0 ≤ k ∧ k ≤ 3 ∧ 1 ≤ N ∧ N ≤ (if k = 2 then 24 else 80) := by
        by_cases h : 0 ≤ k ∧ k ≤ 3
        · rw [if_pos h] at c2
          exact ⟨h.1, h.2, by omega, c2⟩
        · rw [if_neg h] at c2
          omega
      have g2 : 0 ≤ k ∧ k ≤ 3 ∧ 1 ≤ N ∧ N ≤ (if k = 2 then 40 else 160) := by
        refine ⟨g.1, g.2.1, g.2.2.1, ?_⟩
        have := g.2.2.2
        split
        · rename_i e; rw [if_pos e] at this; omega
        · rename_i e; rw [if_neg e] at this; omega
      have g3 : N ≤ 80 := by
        have := g.2.2.2
        split at this <;> omega
      obtain ⟨o1, o2, o3, o4⟩ := okN_of g2
      refine V.run 0 54 rfl hn trivial ?_
      try simp only [rc_1_0, rc_1_1, rc_1_2, rc_1_3, rc_1_4, rc_1_5, rc_2_0, rc_2_1, rc_2_2, rc_6_0, rc_6_1, rc_6_2, rc_6_3, rc_7_0, rc_7_1, rc_7_2, rc_7_3, rc_12_0, rc_12_1, rc_12_2, rc_12_3, rc_18_0, rc_18_1, rc_20_0, rc_20_1, rc_22_0, rc_23_0, rc_25_0, rc_27_0, rc_27_1, rc_27_2, rc_31_0, rc_31_1, rc_31_2, rc_55_0, rc_55_1, rc_55_2, rc_1_6, rc_1_7, rc_23_2, fi_0_1, fi_0_2, fi_0_3, fi_1_3, fi_1_4, fi_1_5, fi_1_6, fi_1_7, fi_2_2, fi_3_3, fi_3_4, fi_3_5, fi_4_1, fi_5_4, fi_5_5, fi_5_6, fi_5_7, fi_5_8, fi_5_9, fi_6_1, fi_7_3, fi_7_4]
      rw [← o2, ← o3]
      refine V.cv (lo := 54) (d' := d - 1) rfl rfl ok_X5_rowsTo lk_8_X5_rowsTo rfl rfl rfl hn (by omega) (Nat.le_refl _) (Nat.le_refl _) ((c_rowsTo hn (by omega) o1 (by omega) hI (fun σ1 hI1 hf1 => ?_)))
      refine V.ret (v := some (.int (iZ (cnt k.toNat N.toNat (mostOf k.toNat N.toNat) (feF k.toNat N.toNat) [1])))) rfl rfl rfl rfl (?_)
      have := hQ σ1 hI1 hf1
      unfold A_asFew at this
      rw [if_pos g] at this
      exact this
    · rw [iZ_le (by omega) (by omega)] at c2
      refine bad (fun g => ?_)
      rw [if_pos ⟨g.1, g.2.1⟩] at c2
      exact c2 g.2.2.2
theorem c_hardest (hn : 54 ≤ n) (hd : 33 ≤ d) {k s : Int} (hk : -2147483648 ≤ k ∧ k < 2147483648) (hs : -2147483648 ≤ s ∧ s < 2147483648) (hI : shortI σ) (hQ : ∀ σ', shortI σ' → Fr SH σ σ' → Q (some (.int (iZ (A_hardest k s)))) (rho ca cb tr) σ') : Mt M_X8_hardest d n n [.ref 1, .int (iZ k), .int (iZ s)] (rho ca cb tr) σ Q := by
  refine Mt.of rfl (by decide +kernel) tk_X8_hardest (Nat.le_of_ble_eq_true rfl) ?_
  refine V.run 0 54 rfl hn trivial ?_
  have bad : ∀ x3, ¬ ((0 ≤ k ∧ k ≤ 3) ∧ k ≠ 2 ∧ 0 ≤ s ∧ s ≤ 9) → V M_X8_hardest d n n none Q n (rho ca cb tr) σ 22 [some (.ref 1), some (.int (iZ (k))), some (.int (iZ (s))), x3] [] := by
    intro x3 g
    refine V.run 0 54 rfl hn trivial ?_
    refine V.ret (v := some (.int (iZ (-1)))) rfl rfl rfl rfl (?_)
    have := hQ σ hI Fr.rf
    unfold A_hardest at this
    rw [if_neg g] at this
    exact this
  refine V.cs (d' := d - 1) rfl rfl ok_X8_isKind lk_8_X8_isKind rfl (by omega) (Nat.le_refl _) (Nat.le_refl _) ((c_isKind hk (fun g => ?_) (fun g => ?_)))
  · refine V.brF rfl (by decide) ?_
    refine V.run 0 54 rfl hn trivial ?_
    refine V.br rfl (fun (c : iZ k = iZ 2) => ?_) (fun (c : ¬ (iZ k = iZ 2)) => ?_)
    · rw [iZ_eq (by omega) (by omega)] at c
      exact bad _ (fun q => q.2.1 c)
    · rw [iZ_eq (by omega) (by omega)] at c
      refine V.run 0 54 rfl hn trivial ?_
      refine V.br rfl (fun (c2 : iZ s < 0) => ?_) (fun (c2 : ¬ (iZ s < 0)) => ?_)
      · rw [iZ_lt0 (by omega)] at c2
        exact bad _ (by omega)
      · rw [iZ_lt0 (by omega)] at c2
        refine V.run 0 54 rfl hn trivial ?_
        refine V.br rfl (fun (c3 : iZ s ≤ iZ 9) => ?_) (fun (c3 : ¬ (iZ s ≤ iZ 9)) => ?_)
        · rw [iZ_le (by omega) (by omega)] at c3
          unfold A_hardest at hQ
          rw [if_pos ⟨g, c, by omega, c3⟩] at hQ
          refine V.run 26 54 rfl hn trivial ?_
          have key : ∀ (j i : Nat) (σ1 : Mem), i + j = 160 → shortI σ1 → Fr SH σ σ1 → (∀ a, a < i → ¬ ((feF k.toNat (a + 1) : Int) = s)) → V M_X8_hardest d n n none Q n (rho ca cb tr) σ1 26 [some (.ref 1), some (.int (iZ (k))), some (.int (iZ (s))), some (.int (iZ ((i + 1 : Nat))))] [] := by
            intro j
            induction j with
            | zero =>
              intro i σ1 hi hI1 hf hno
              refine V.run 0 54 rfl hn trivial ?_
              refine V.brT rfl ((iZ_lt (by omega) (by omega)).mpr (by omega)) ?_
              refine V.run 0 54 rfl hn trivial ?_
              refine V.ret (v := some (.int (iZ (-4)))) rfl rfl rfl rfl (?_)
              have := hQ σ1 hI1 hf
              have e : (List.range 160).find? (fun i => decide ((feF k.toNat (i + 1) : Int) = s)) = none := by
                rw [List.find?_eq_none]
                intro a ha
                have := hno a (by have := List.mem_range.mp ha; omega)
                simpa using this
              rw [e] at this
              exact this
            | succ j ih =>
              intro i σ1 hi hI1 hf hno
              have o1 : okN k.toNat (i + 1) := ⟨by omega, by omega, by rw [if_neg (by omega)]; omega⟩
              obtain ⟨f1, f2⟩ := feF_ok o1
              refine V.run 0 54 rfl hn trivial ?_
              refine V.brF rfl (fun c => by have := (iZ_lt (by omega) (by omega)).mp c; omega) ?_
              refine V.run 0 54 rfl hn trivial ?_
              try simp only [rc_1_0, rc_1_1, rc_1_2, rc_1_3, rc_1_4, rc_1_5, rc_2_0, rc_2_1, rc_2_2, rc_6_0, rc_6_1, rc_6_2, rc_6_3, rc_7_0, rc_7_1, rc_7_2, rc_7_3, rc_12_0, rc_12_1, rc_12_2, rc_12_3, rc_18_0, rc_18_1, rc_20_0, rc_20_1, rc_22_0, rc_23_0, rc_25_0, rc_27_0, rc_27_1, rc_27_2, rc_31_0, rc_31_1, rc_31_2, rc_55_0, rc_55_1, rc_55_2, rc_1_6, rc_1_7, rc_23_2, fi_0_1, fi_0_2, fi_0_3, fi_1_3, fi_1_4, fi_1_5, fi_1_6, fi_1_7, fi_2_2, fi_3_3, fi_3_4, fi_3_5, fi_4_1, fi_5_4, fi_5_5, fi_5_6, fi_5_7, fi_5_8, fi_5_9, fi_6_1, fi_7_3, fi_7_4]
              rw [show k = (k.toNat : Int) by omega]
              refine V.cv (lo := 54) (d' := d - 1) rfl rfl ok_X5_stepsTo lk_8_X5_stepsTo rfl rfl rfl hn (by omega) (Nat.le_refl _) (Nat.le_refl _) ((c_stepsTo hn (by omega) o1 hI1 (fun σ2 hI2 hf2 => ?_)))
              rw [show (k.toNat : Int) = k by omega]
              refine V.run 0 54 rfl hn trivial ?_
              refine V.br rfl (fun (c2 : iZ (feF k.toNat (i + 1)) = iZ s) => ?_) (fun (c2 : ¬ (iZ (feF k.toNat (i + 1)) = iZ s)) => ?_)
              · rw [iZ_eq (by omega) (by omega)] at c2
                refine V.run 0 54 rfl hn trivial ?_
                refine V.ret (v := some (.int (iZ (i + 1 : Nat)))) rfl rfl rfl rfl (?_)
                have := hQ σ2 hI2 (hf.tr hf2)
                have e : (List.range 160).find? (fun i => decide ((feF k.toNat (i + 1) : Int) = s)) = some i := by
                  rw [List.find?_range_eq_some]
                  refine ⟨by simpa using c2, List.mem_range.mpr (by omega), fun a ha => ?_⟩
                  have := hno a ha
                  simpa using this
                rw [e] at this
                exact this
              · rw [iZ_eq (by omega) (by omega)] at c2
                refine V.run 0 54 rfl hn trivial ?_
                have := ih (i + 1) σ2 (by omega) hI2 (hf.tr hf2) (fun a ha => by
                  by_cases e : a = i
                  · subst e; exact c2
                  · exact hno a (by omega))
                rw [show ((i + 1 + 1 : Nat) : Int) = ((i + 1 : Nat) : Int) + 1 by omega, ← iZ_add] at this
                exact this
          exact key 160 0 σ (by omega) hI Fr.rf (fun a ha => by omega)
        · rw [iZ_le (by omega) (by omega)] at c3
          exact bad _ (by omega)
  · refine V.brT rfl rfl ?_
    exact bad _ (fun q => g q.1)
end CS5
