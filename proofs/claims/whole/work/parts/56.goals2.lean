/-! ===== the class: goal, noGoals, together, led ===== -/
theorem pw_ext : ∀ {l1 l2 : List Nat}, l1.Pairwise (· < ·) → l2.Pairwise (· < ·) → (∀ x, x ∈ l1 ↔ x ∈ l2) → l1 = l2
  | [], [], _, _, _ => rfl
  | [], b :: l2, _, _, h => by
    have := (h b).mpr List.mem_cons_self
    cases this
  | a :: l1, [], _, _, h => by
    have := (h a).mp List.mem_cons_self
    cases this
  | a :: l1, b :: l2, h1, h2, h => by
    rw [List.pairwise_cons] at h1 h2
    have e : a = b := by
      rcases List.mem_cons.mp ((h a).mp List.mem_cons_self) with q | q
      · exact q
      · rcases List.mem_cons.mp ((h b).mpr List.mem_cons_self) with z | z
        · exact z.symm
        · have := h2.1 a q
          have := h1.1 b z
          omega
    subst e
    have ih := pw_ext h1.2 h2.2 (fun x => by
      constructor
      · intro hx
        rcases List.mem_cons.mp ((h x).mp (List.mem_cons_of_mem _ hx)) with q | q
        · have := h1.1 x hx
          omega
        · exact q
      · intro hx
        rcases List.mem_cons.mp ((h x).mpr (List.mem_cons_of_mem _ hx)) with q | q
        · have := h2.1 x hx
          omega
        · exact q)
    rw [ih]
def wsP (a b : Nat) : List Nat := (List.range 13).filter (fun v => Nat.ble 2 v && (Nat.beq v a || Nat.beq v b))
theorem wsP_pw (a b : Nat) : (wsP a b).Pairwise (· < ·) := List.Pairwise.filter _ List.pairwise_lt_range
theorem wsP_mem {a b y : Nat} (ha : a ≤ 12) (hb : b ≤ 12) : y ∈ wsP a b ↔ 2 ≤ y ∧ (y = a ∨ y = b) := by
  unfold wsP
  rw [List.mem_filter, List.mem_range, Bool.and_eq_true, Bool.or_eq_true, Nat.ble_eq, Nat.beq_eq, Nat.beq_eq]
  exact ⟨fun h => h.2, fun h => ⟨by omega, h⟩⟩
def A_led (a b : Nat) : Nat := feT (wsP a b) + (if 0 < a ∧ 0 < b then 1 else 0)
section CQ1
variable {d n ca cb tr : Nat} {Q : PQ} {σ : Mem}
theorem c_goal (hn : 54 ≤ n) (hd : 2 ≤ d) {gs ws : List Nat} {z : Int} (hz : -2147483648 ≤ z ∧ z < 2147483648) (hg : gthM 18 σ ws) (hr : gsR gs ws) (hQ : ∀ σ' ws', gthM 18 σ' ws' → gsR (G_goal gs z).2 ws' → Fr [18, 19] σ σ' → Q (some (.int (iZ (G_goal gs z).1))) (rho ca cb tr) σ') : Mt M_X8_goal d n n [.ref 1, .int (iZ z)] (rho ca cb tr) σ Q := by
  have w1 := hg.1.1
  unfold G_goal at hQ
  refine Mt.of rfl (by decide +kernel) tk_X8_goal (Nat.le_of_ble_eq_true rfl) ?_
  have bad : ¬ (2 ≤ z ∧ z ≤ 60) → V M_X8_goal d n n none Q n (rho ca cb tr) σ 11 [some (.ref 1), some (.int (iZ (z)))] [] := by
    intro h
    rw [if_pos h] at hQ
    refine V.run 0 54 rfl hn trivial ?_
    refine V.ret (v := some (.int (iZ (-1)))) rfl rfl rfl rfl (hQ σ ws hg hr Fr.rf)
  refine V.run 0 54 rfl hn trivial ?_
  refine V.br rfl (fun (c : iZ z < iZ 2) => ?_) (fun (c : ¬ (iZ z < iZ 2)) => ?_)
  · rw [iZ_lt (by omega) (by omega)] at c
    exact bad (by omega)
  · rw [iZ_lt (by omega) (by omega)] at c
    refine V.run 0 54 rfl hn trivial ?_
    refine V.br rfl (fun (c2 : iZ z ≤ iZ 60) => ?_) (fun (c2 : ¬ (iZ z ≤ iZ 60)) => ?_)
    · rw [iZ_le (by omega) (by omega)] at c2
      rw [if_neg (show ¬ ¬ (2 ≤ z ∧ z ≤ 60) by omega)] at hQ
      refine V.run 0 54 rfl hn trivial ?_
      try simp only [rc_1_0, rc_1_1, rc_1_2, rc_1_3, rc_1_4, rc_1_5, rc_2_0, rc_2_1, rc_2_2, rc_6_0, rc_6_1, rc_6_2, rc_6_3, rc_7_0, rc_7_1, rc_7_2, rc_7_3, rc_12_0, rc_12_1, rc_12_2, rc_12_3, rc_18_0, rc_18_1, rc_20_0, rc_20_1, rc_22_0, rc_23_0, rc_25_0, rc_27_0, rc_27_1, rc_27_2, rc_31_0, rc_31_1, rc_31_2, rc_55_0, rc_55_1, rc_55_2, rc_1_6, rc_1_7, rc_23_2, fi_0_1, fi_0_2, fi_0_3, fi_1_3, fi_1_4, fi_1_5, fi_1_6, fi_1_7, fi_2_2, fi_3_3, fi_3_4, fi_3_5, fi_4_1, fi_5_4, fi_5_5, fi_5_6, fi_5_7, fi_5_8, fi_5_9, fi_6_1, fi_7_3, fi_7_4]
      rw [show z = (z.toNat : Int) by omega]
      refine V.cv (lo := 54) (d' := d - 1) rfl rfl ok_X2_holds lk_8_X2_holds rfl rfl rfl hn (by omega) (Nat.le_refl _) (Nat.le_refl _) ((c_gholds_18 hn (by omega) hg (fun hm => ?_) (fun hm => ?_)))
      · rw [if_pos ((hr.1 _).mpr hm)] at hQ
        refine V.brF rfl (by decide) ?_
        refine V.run 0 54 rfl hn trivial ?_
        refine V.ret (v := some (.int (iZ (-2)))) rfl rfl rfl rfl (hQ σ ws hg hr Fr.rf)
      · rw [if_neg (fun q => hm ((hr.1 _).mp q))] at hQ
        refine V.brT rfl rfl ?_
        refine V.run 0 54 rfl hn trivial ?_
        try simp only [rc_1_0, rc_1_1, rc_1_2, rc_1_3, rc_1_4, rc_1_5, rc_2_0, rc_2_1, rc_2_2, rc_6_0, rc_6_1, rc_6_2, rc_6_3, rc_7_0, rc_7_1, rc_7_2, rc_7_3, rc_12_0, rc_12_1, rc_12_2, rc_12_3, rc_18_0, rc_18_1, rc_20_0, rc_20_1, rc_22_0, rc_23_0, rc_25_0, rc_27_0, rc_27_1, rc_27_2, rc_31_0, rc_31_1, rc_31_2, rc_55_0, rc_55_1, rc_55_2, rc_1_6, rc_1_7, rc_23_2, fi_0_1, fi_0_2, fi_0_3, fi_1_3, fi_1_4, fi_1_5, fi_1_6, fi_1_7, fi_2_2, fi_3_3, fi_3_4, fi_3_5, fi_4_1, fi_5_4, fi_5_5, fi_5_6, fi_5_7, fi_5_8, fi_5_9, fi_6_1, fi_7_3, fi_7_4]
        refine V.cv (lo := 54) (d' := d - 1) rfl rfl ok_X2_size lk_8_X2_size rfl rfl rfl hn (by omega) (Nat.le_refl _) (Nat.le_refl _) ((c_gsize_18 hn hg ?_))
        refine V.run 0 54 rfl hn trivial ?_
        refine V.br rfl (fun (c3 : iZ ws.length < iZ 4) => ?_) (fun (c3 : ¬ (iZ ws.length < iZ 4)) => ?_)
        · rw [iZ_lt (by omega) (by omega)] at c3
          rw [if_neg (show ¬ gs.length = 4 by rw [hr.2]; omega)] at hQ
          refine V.run 0 54 rfl hn trivial ?_
          try simp only [rc_1_0, rc_1_1, rc_1_2, rc_1_3, rc_1_4, rc_1_5, rc_2_0, rc_2_1, rc_2_2, rc_6_0, rc_6_1, rc_6_2, rc_6_3, rc_7_0, rc_7_1, rc_7_2, rc_7_3, rc_12_0, rc_12_1, rc_12_2, rc_12_3, rc_18_0, rc_18_1, rc_20_0, rc_20_1, rc_22_0, rc_23_0, rc_25_0, rc_27_0, rc_27_1, rc_27_2, rc_31_0, rc_31_1, rc_31_2, rc_55_0, rc_55_1, rc_55_2, rc_1_6, rc_1_7, rc_23_2, fi_0_1, fi_0_2, fi_0_3, fi_1_3, fi_1_4, fi_1_5, fi_1_6, fi_1_7, fi_2_2, fi_3_3, fi_3_4, fi_3_5, fi_4_1, fi_5_4, fi_5_5, fi_5_6, fi_5_7, fi_5_8, fi_5_9, fi_6_1, fi_7_3, fi_7_4]
          refine V.cv (lo := 54) (d' := d - 1) rfl rfl ok_X2_insert lk_8_X2_insert rfl rfl rfl hn (by omega) (Nat.le_refl _) (Nat.le_refl _) ((c_ginsert_18 hn (by omega) (by omega) hg (by omega) (fun q => ?_) (fun _ _ σ1 ws1 hi hg1 hf1 => ?_)))
          · rcases q with q | q
            · omega
            · exact absurd q hm
          · refine V.run 0 54 rfl hn trivial ?_
            try simp only [rc_1_0, rc_1_1, rc_1_2, rc_1_3, rc_1_4, rc_1_5, rc_2_0, rc_2_1, rc_2_2, rc_6_0, rc_6_1, rc_6_2, rc_6_3, rc_7_0, rc_7_1, rc_7_2, rc_7_3, rc_12_0, rc_12_1, rc_12_2, rc_12_3, rc_18_0, rc_18_1, rc_20_0, rc_20_1, rc_22_0, rc_23_0, rc_25_0, rc_27_0, rc_27_1, rc_27_2, rc_31_0, rc_31_1, rc_31_2, rc_55_0, rc_55_1, rc_55_2, rc_1_6, rc_1_7, rc_23_2, fi_0_1, fi_0_2, fi_0_3, fi_1_3, fi_1_4, fi_1_5, fi_1_6, fi_1_7, fi_2_2, fi_3_3, fi_3_4, fi_3_5, fi_4_1, fi_5_4, fi_5_5, fi_5_6, fi_5_7, fi_5_8, fi_5_9, fi_6_1, fi_7_3, fi_7_4]
            refine V.cv (lo := 54) (d' := d - 1) rfl rfl ok_X2_size lk_8_X2_size rfl rfl rfl hn (by omega) (Nat.le_refl _) (Nat.le_refl _) ((c_gsize_18 hn hg1 ?_))
            have e : ((ws1.length : Nat) : Int) = (gs.length : Int) + 1 := by
              rw [hi.2, hr.2]
              omega
            rw [e]
            refine V.ret (v := some (.int (iZ ((gs.length : Int) + 1)))) rfl rfl rfl rfl (hQ σ1 ws1 hg1 ⟨fun x => ?_, ?_⟩ hf1)
            · rw [List.mem_append, List.mem_singleton, hi.1 x, hr.1 x]
              exact Or.comm
            · rw [List.length_append, List.length_singleton, hi.2, hr.2]
        · rw [iZ_lt (by omega) (by omega)] at c3
          rw [if_pos (show gs.length = 4 by rw [hr.2]; omega)] at hQ
          refine V.run 0 54 rfl hn trivial ?_
          refine V.ret (v := some (.int (iZ (-3)))) rfl rfl rfl rfl (hQ σ ws hg hr Fr.rf)
    · rw [iZ_le (by omega) (by omega)] at c2
      rw [if_pos (show ¬ (2 ≤ z ∧ z ≤ 60) by omega)] at hQ
      refine V.run 0 54 rfl hn trivial ?_
      refine V.ret (v := some (.int (iZ (-1)))) rfl rfl rfl rfl (hQ σ ws hg hr Fr.rf)
theorem c_noGoals (hn : 54 ≤ n) (hd : 1 ≤ d) {gs ws : List Nat} (hg : gthM 18 σ ws) (hr : gsR gs ws) (hQ : ∀ σ', gthM 18 σ' [] → Fr [18] σ σ' → Q (some (.int (iZ gs.length))) (rho ca cb tr) σ') : Mt M_X8_noGoals d n n [.ref 1] (rho ca cb tr) σ Q := by
  rw [hr.2] at hQ
  refine Mt.of rfl (by decide +kernel) tk_X8_noGoals (Nat.le_of_ble_eq_true rfl) ?_
  refine V.run 0 54 rfl hn trivial ?_
  try simp only [rc_1_0, rc_1_1, rc_1_2, rc_1_3, rc_1_4, rc_1_5, rc_2_0, rc_2_1, rc_2_2, rc_6_0, rc_6_1, rc_6_2, rc_6_3, rc_7_0, rc_7_1, rc_7_2, rc_7_3, rc_12_0, rc_12_1, rc_12_2, rc_12_3, rc_18_0, rc_18_1, rc_20_0, rc_20_1, rc_22_0, rc_23_0, rc_25_0, rc_27_0, rc_27_1, rc_27_2, rc_31_0, rc_31_1, rc_31_2, rc_55_0, rc_55_1, rc_55_2, rc_1_6, rc_1_7, rc_23_2, fi_0_1, fi_0_2, fi_0_3, fi_1_3, fi_1_4, fi_1_5, fi_1_6, fi_1_7, fi_2_2, fi_3_3, fi_3_4, fi_3_5, fi_4_1, fi_5_4, fi_5_5, fi_5_6, fi_5_7, fi_5_8, fi_5_9, fi_6_1, fi_7_3, fi_7_4]
  refine V.cv (lo := 54) (d' := d - 1) rfl rfl ok_X2_size lk_8_X2_size rfl rfl rfl hn (by omega) (Nat.le_refl _) (Nat.le_refl _) ((c_gsize_18 hn hg ?_))
  refine V.run 0 54 rfl hn trivial ?_
  try simp only [rc_1_0, rc_1_1, rc_1_2, rc_1_3, rc_1_4, rc_1_5, rc_2_0, rc_2_1, rc_2_2, rc_6_0, rc_6_1, rc_6_2, rc_6_3, rc_7_0, rc_7_1, rc_7_2, rc_7_3, rc_12_0, rc_12_1, rc_12_2, rc_12_3, rc_18_0, rc_18_1, rc_20_0, rc_20_1, rc_22_0, rc_23_0, rc_25_0, rc_27_0, rc_27_1, rc_27_2, rc_31_0, rc_31_1, rc_31_2, rc_55_0, rc_55_1, rc_55_2, rc_1_6, rc_1_7, rc_23_2, fi_0_1, fi_0_2, fi_0_3, fi_1_3, fi_1_4, fi_1_5, fi_1_6, fi_1_7, fi_2_2, fi_3_3, fi_3_4, fi_3_5, fi_4_1, fi_5_4, fi_5_5, fi_5_6, fi_5_7, fi_5_8, fi_5_9, fi_6_1, fi_7_3, fi_7_4]
  refine V.cv (lo := 54) (d' := d - 1) rfl rfl ok_X2_clear lk_8_X2_clear rfl rfl rfl hn (by omega) (Nat.le_refl _) (Nat.le_refl _) ((c_gclear_18 hn hg (fun σ1 hg1 hf1 => ?_)))
  refine V.run 0 54 rfl hn trivial ?_
  refine V.ret (v := some (.int (iZ ws.length))) rfl rfl rfl rfl (hQ σ1 hg1 hf1)
theorem c_together (hn : 54 ≤ n) (hd : 32 ≤ d) {ws : List Nat} (hg : gthM 18 σ ws) (ht : trI0 σ) (hQ : ∀ σ', trI0 σ' → Fr [2, 3, 4, 5] σ σ' → Q (some (.int (iZ (feT ws)))) (rho ca cb tr) σ') : Mt M_X8_together d n n [.ref 1] (rho ca cb tr) σ Q := by
  refine Mt.of rfl (by decide +kernel) tk_X8_together (Nat.le_of_ble_eq_true rfl) ?_
  refine V.run 0 54 rfl hn trivial ?_
  try simp only [rc_1_0, rc_1_1, rc_1_2, rc_1_3, rc_1_4, rc_1_5, rc_2_0, rc_2_1, rc_2_2, rc_6_0, rc_6_1, rc_6_2, rc_6_3, rc_7_0, rc_7_1, rc_7_2, rc_7_3, rc_12_0, rc_12_1, rc_12_2, rc_12_3, rc_18_0, rc_18_1, rc_20_0, rc_20_1, rc_22_0, rc_23_0, rc_25_0, rc_27_0, rc_27_1, rc_27_2, rc_31_0, rc_31_1, rc_31_2, rc_55_0, rc_55_1, rc_55_2, rc_1_6, rc_1_7, rc_23_2, fi_0_1, fi_0_2, fi_0_3, fi_1_3, fi_1_4, fi_1_5, fi_1_6, fi_1_7, fi_2_2, fi_3_3, fi_3_4, fi_3_5, fi_4_1, fi_5_4, fi_5_5, fi_5_6, fi_5_7, fi_5_8, fi_5_9, fi_6_1, fi_7_3, fi_7_4]
  refine V.cv (lo := 54) (d' := d - 1) rfl rfl ok_X2_fewestSteps lk_8_X2_fewestSteps rfl rfl rfl hn (by omega) (Nat.le_refl _) (Nat.le_refl _) ((c_gfewest_18 hn (by omega) hg ht (fun σ1 ht1 hf1 => ?_)))
  refine V.ret (v := some (.int (iZ (feT ws)))) rfl rfl rfl rfl (hQ σ1 ht1 hf1)
theorem c_led (hn : 54 ≤ n) (hd : 32 ≤ d) {x y : Int} {ws : List Nat} (hx : -2147483648 ≤ x ∧ x < 2147483648) (hy : -2147483648 ≤ y ∧ y < 2147483648) (hg : gthM 20 σ ws) (ht : trI0 σ) (hbad : ¬ ((0 ≤ x ∧ x ≤ 12) ∧ (0 ≤ y ∧ y ≤ 12) ∧ x + y ≠ 0) → Q (some (.int (iZ (-1)))) (rho ca cb tr) σ) (hQ : (0 ≤ x ∧ x ≤ 12) ∧ (0 ≤ y ∧ y ≤ 12) ∧ x + y ≠ 0 → ∀ σ' ws', gthM 20 σ' ws' → trI0 σ' → Fr [2, 3, 4, 5, 20, 21] σ σ' → Q (some (.int (iZ (A_led x.toNat y.toNat)))) (rho ca cb tr) σ') : Mt M_X8_led d n n [.ref 1, .int (iZ x), .int (iZ y)] (rho ca cb tr) σ Q := by
  refine Mt.of rfl (by decide +kernel) tk_X8_led (Nat.le_of_ble_eq_true rfl) ?_
  have bad : ¬ ((0 ≤ x ∧ x ≤ 12) ∧ (0 ≤ y ∧ y ≤ 12) ∧ x + y ≠ 0) → V M_X8_led d n n none Q n (rho ca cb tr) σ 26 [some (.ref 1), some (.int (iZ (x))), some (.int (iZ (y)))] [] := by
    intro h
    refine V.run 0 54 rfl hn trivial ?_
    refine V.ret (v := some (.int (iZ (-1)))) rfl rfl rfl rfl (hbad h)
  refine V.run 0 54 rfl hn trivial ?_
  refine V.br rfl (fun (c1 : iZ x < 0) => ?_) (fun (c1 : ¬ (iZ x < 0)) => ?_)
  · rw [iZ_lt0 (by omega)] at c1
    exact bad (by omega)
  · rw [iZ_lt0 (by omega)] at c1
    refine V.run 0 54 rfl hn trivial ?_
    refine V.br rfl (fun (c2 : iZ 12 < iZ x) => ?_) (fun (c2 : ¬ (iZ 12 < iZ x)) => ?_)
    · rw [iZ_lt (by omega) (by omega)] at c2
      exact bad (by omega)
    · rw [iZ_lt (by omega) (by omega)] at c2
      refine V.run 0 54 rfl hn trivial ?_
      refine V.br rfl (fun (c3 : iZ y < 0) => ?_) (fun (c3 : ¬ (iZ y < 0)) => ?_)
      · rw [iZ_lt0 (by omega)] at c3
        exact bad (by omega)
      · rw [iZ_lt0 (by omega)] at c3
        refine V.run 0 54 rfl hn trivial ?_
        refine V.br rfl (fun (c4 : iZ 12 < iZ y) => ?_) (fun (c4 : ¬ (iZ 12 < iZ y)) => ?_)
        · rw [iZ_lt (by omega) (by omega)] at c4
          exact bad (by omega)
        · rw [iZ_lt (by omega) (by omega)] at c4
          refine V.run 0 54 rfl hn trivial ?_
          rw [iZ_add]
          refine V.br rfl (fun (c5 : iZ (x + y) = 0) => ?_) (fun (c5 : ¬ (iZ (x + y) = 0)) => ?_)
          · rw [iZ_eq0 (by omega)] at c5
            exact bad (by omega)
          · rw [iZ_eq0 (by omega)] at c5
            have hQ := hQ ⟨by omega, by omega, c5⟩
            obtain ⟨a, ha⟩ : ∃ a : Nat, x = a := ⟨x.toNat, by omega⟩
            obtain ⟨b, hb⟩ : ∃ b : Nat, y = b := ⟨y.toNat, by omega⟩
            subst ha hb
            rw [Int.toNat_natCast, Int.toNat_natCast] at hQ
            have st3 : ∀ (σ3 : Mem) (ws2 : List Nat), gthM 20 σ3 ws2 → (∀ u, u ∈ ws2 ↔ 2 ≤ u ∧ (u = a ∨ u = b)) → Fr [20, 21] σ σ3 → V M_X8_led d n n none Q n (rho ca cb tr) σ3 51 [some (.ref 1), some (.int (iZ (a))), some (.int (iZ (b)))] [] := by
              intro σ3 ws2 hg3 hm3 hf3
              have e : ws2 = wsP a b := pw_ext hg3.1.2.2 (wsP_pw a b) (fun u => by rw [hm3 u, wsP_mem (by omega) (by omega)])
              obtain ⟨k0, r0, ht0⟩ := ht
              have hft := (feT_ok hg3.1).2.1
              refine V.run 0 54 rfl hn trivial ?_
              try simp only [rc_1_0, rc_1_1, rc_1_2, rc_1_3, rc_1_4, rc_1_5, rc_2_0, rc_2_1, rc_2_2, rc_6_0, rc_6_1, rc_6_2, rc_6_3, rc_7_0, rc_7_1, rc_7_2, rc_7_3, rc_12_0, rc_12_1, rc_12_2, rc_12_3, rc_18_0, rc_18_1, rc_20_0, rc_20_1, rc_22_0, rc_23_0, rc_25_0, rc_27_0, rc_27_1, rc_27_2, rc_31_0, rc_31_1, rc_31_2, rc_55_0, rc_55_1, rc_55_2, rc_1_6, rc_1_7, rc_23_2, fi_0_1, fi_0_2, fi_0_3, fi_1_3, fi_1_4, fi_1_5, fi_1_6, fi_1_7, fi_2_2, fi_3_3, fi_3_4, fi_3_5, fi_4_1, fi_5_4, fi_5_5, fi_5_6, fi_5_7, fi_5_8, fi_5_9, fi_6_1, fi_7_3, fi_7_4]
              refine V.cv (lo := 54) (d' := d - 1) rfl rfl ok_X2_fewestSteps lk_8_X2_fewestSteps rfl rfl rfl hn (by omega) (Nat.le_refl _) (Nat.le_refl _) ((c_gfewest_20 hn (by omega) hg3 ⟨k0, r0, ht0.fr hf3 (by decide) (by decide) (by decide) (by decide)⟩ (fun σ4 ht4 hf4 => ?_)))
              have hQ4 := hQ σ4 ws2 (hg3.fr hf4 (by decide) (by decide)) ht4 ((hf3.mono (by simp)).tr (hf4.mono (by simp)))
              unfold A_led at hQ4
              rw [← e] at hQ4
              have no : ¬ (0 < a ∧ 0 < b) → V M_X8_led d n n none Q n (rho ca cb tr) σ4 70 [some (.ref 1), some (.int (iZ (a))), some (.int (iZ (b)))] [(.int (iZ ((feT ws2))))] := by
                intro h
                rw [if_neg h] at hQ4
                refine V.run 0 54 rfl hn trivial ?_
                rw [iZ_add]
                refine V.ret (v := some (.int (iZ ((feT ws2 : Int) + 0)))) rfl rfl rfl rfl (hQ4)
              refine V.run 0 54 rfl hn trivial ?_
              refine V.br rfl (fun (c6 : iZ a ≤ 0) => ?_) (fun (c6 : ¬ (iZ a ≤ 0)) => ?_)
              · rw [iZ_le0 (by omega)] at c6
                exact no (by omega)
              · rw [iZ_le0 (by omega)] at c6
                refine V.run 0 54 rfl hn trivial ?_
                refine V.br rfl (fun (c7 : iZ b ≤ 0) => ?_) (fun (c7 : ¬ (iZ b ≤ 0)) => ?_)
                · rw [iZ_le0 (by omega)] at c7
                  exact no (by omega)
                · rw [iZ_le0 (by omega)] at c7
                  rw [if_pos (by omega)] at hQ4
                  refine V.run 0 54 rfl hn trivial ?_
                  refine V.run 0 54 rfl hn trivial ?_
                  rw [iZ_add]
                  refine V.ret (v := some (.int (iZ ((feT ws2 : Int) + 1)))) rfl rfl rfl rfl (hQ4)
            have st2 : ∀ (σ2 : Mem) (ws1 : List Nat), gthM 20 σ2 ws1 → ws1.length ≤ 1 → (∀ u, u ∈ ws1 ↔ 2 ≤ u ∧ u = a) → Fr [20, 21] σ σ2 → V M_X8_led d n n none Q n (rho ca cb tr) σ2 43 [some (.ref 1), some (.int (iZ (a))), some (.int (iZ (b)))] [] := by
              intro σ2 ws1 hg2 hl2 hm2 hf2
              refine V.run 0 54 rfl hn trivial ?_
              try simp only [rc_1_0, rc_1_1, rc_1_2, rc_1_3, rc_1_4, rc_1_5, rc_2_0, rc_2_1, rc_2_2, rc_6_0, rc_6_1, rc_6_2, rc_6_3, rc_7_0, rc_7_1, rc_7_2, rc_7_3, rc_12_0, rc_12_1, rc_12_2, rc_12_3, rc_18_0, rc_18_1, rc_20_0, rc_20_1, rc_22_0, rc_23_0, rc_25_0, rc_27_0, rc_27_1, rc_27_2, rc_31_0, rc_31_1, rc_31_2, rc_55_0, rc_55_1, rc_55_2, rc_1_6, rc_1_7, rc_23_2, fi_0_1, fi_0_2, fi_0_3, fi_1_3, fi_1_4, fi_1_5, fi_1_6, fi_1_7, fi_2_2, fi_3_3, fi_3_4, fi_3_5, fi_4_1, fi_5_4, fi_5_5, fi_5_6, fi_5_7, fi_5_8, fi_5_9, fi_6_1, fi_7_3, fi_7_4]
              refine V.cv (lo := 54) (d' := d - 1) rfl rfl ok_X2_insert lk_8_X2_insert rfl rfl rfl hn (by omega) (Nat.le_refl _) (Nat.le_refl _) ((c_ginsert_20 hn (by omega) (by omega) hg2 (by omega) (fun q => ?_) (fun q1 q2 σ3 ws3 hi3 hg3 hf3 => ?_)))
              · refine st3 σ2 ws1 hg2 (fun u => ?_) hf2
                rw [hm2 u]
                constructor
                · exact fun h => ⟨h.1, Or.inl h.2⟩
                · rintro ⟨h1, h2⟩
                  refine ⟨h1, ?_⟩
                  rcases h2 with h2 | h2
                  · exact h2
                  · rcases q with q | q
                    · omega
                    · have := ((hm2 b).mp q).2
                      omega
              · refine st3 σ3 ws3 hg3 (fun u => ?_) (hf2.tr hf3)
                rw [hi3.1 u, hm2 u]
                constructor
                · rintro (h | h)
                  · exact ⟨by omega, Or.inr h⟩
                  · exact ⟨h.1, Or.inl h.2⟩
                · rintro ⟨h1, h2⟩
                  rcases h2 with h2 | h2
                  · exact Or.inr ⟨h1, h2⟩
                  · exact Or.inl h2
            refine V.run 0 54 rfl hn trivial ?_
            try simp only [rc_1_0, rc_1_1, rc_1_2, rc_1_3, rc_1_4, rc_1_5, rc_2_0, rc_2_1, rc_2_2, rc_6_0, rc_6_1, rc_6_2, rc_6_3, rc_7_0, rc_7_1, rc_7_2, rc_7_3, rc_12_0, rc_12_1, rc_12_2, rc_12_3, rc_18_0, rc_18_1, rc_20_0, rc_20_1, rc_22_0, rc_23_0, rc_25_0, rc_27_0, rc_27_1, rc_27_2, rc_31_0, rc_31_1, rc_31_2, rc_55_0, rc_55_1, rc_55_2, rc_1_6, rc_1_7, rc_23_2, fi_0_1, fi_0_2, fi_0_3, fi_1_3, fi_1_4, fi_1_5, fi_1_6, fi_1_7, fi_2_2, fi_3_3, fi_3_4, fi_3_5, fi_4_1, fi_5_4, fi_5_5, fi_5_6, fi_5_7, fi_5_8, fi_5_9, fi_6_1, fi_7_3, fi_7_4]
            refine V.cv (lo := 54) (d' := d - 1) rfl rfl ok_X2_clear lk_8_X2_clear rfl rfl rfl hn (by omega) (Nat.le_refl _) (Nat.le_refl _) ((c_gclear_20 hn hg (fun σ1 hg1 hf1 => ?_)))
            refine V.run 0 54 rfl hn trivial ?_
            try simp only [rc_1_0, rc_1_1, rc_1_2, rc_1_3, rc_1_4, rc_1_5, rc_2_0, rc_2_1, rc_2_2, rc_6_0, rc_6_1, rc_6_2, rc_6_3, rc_7_0, rc_7_1, rc_7_2, rc_7_3, rc_12_0, rc_12_1, rc_12_2, rc_12_3, rc_18_0, rc_18_1, rc_20_0, rc_20_1, rc_22_0, rc_23_0, rc_25_0, rc_27_0, rc_27_1, rc_27_2, rc_31_0, rc_31_1, rc_31_2, rc_55_0, rc_55_1, rc_55_2, rc_1_6, rc_1_7, rc_23_2, fi_0_1, fi_0_2, fi_0_3, fi_1_3, fi_1_4, fi_1_5, fi_1_6, fi_1_7, fi_2_2, fi_3_3, fi_3_4, fi_3_5, fi_4_1, fi_5_4, fi_5_5, fi_5_6, fi_5_7, fi_5_8, fi_5_9, fi_6_1, fi_7_3, fi_7_4]
            refine V.cv (lo := 54) (d' := d - 1) rfl rfl ok_X2_insert lk_8_X2_insert rfl rfl rfl hn (by omega) (Nat.le_refl _) (Nat.le_refl _) ((c_ginsert_20 hn (by omega) (by omega) hg1 (by simp) (fun q => ?_) (fun q1 q2 σ3 ws3 hi3 hg3 hf3 => ?_)))
            · refine st2 σ1 [] hg1 (by simp) (fun u => ?_) (hf1.mono (by simp))
              constructor
              · intro h; cases h
              · rintro ⟨h1, h2⟩
                rcases q with q | q
                · omega
                · cases q
            · refine st2 σ3 ws3 hg3 (by rw [hi3.2]; simp) (fun u => ?_) ((hf1.mono (by simp)).tr hf3)
              rw [hi3.1 u]
              constructor
              · rintro (h | h)
                · exact ⟨by omega, h⟩
                · cases h
              · exact fun h => Or.inl h.2
end CQ1
