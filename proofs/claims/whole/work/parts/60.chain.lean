/-! ===== the class: a chain (two of them, written by program: cells 27 and 31) ===== -/
def chnN (o : Nat) (σ : Mem) (kind : Nat) (c : List Nat) : Prop := rowOk kind c ∧ kind ≤ 3 ∧ σ o 3 = iZ c.length ∧ σ o 4 = iZ kind ∧ (∀ i, i < c.length → σ (o + 1) i = iZ (c.getD i 0))
theorem nd_get {c : List Nat} (h : c.Nodup) {i j : Nat} (hi : i < c.length) (hj : j < c.length) (e : c.getD i 0 = c.getD j 0) : i = j := by
  rw [List.getD_eq_getElem?_getD, List.getD_eq_getElem?_getD, List.getElem?_eq_getElem hi, List.getElem?_eq_getElem hj] at e
  simp only [Option.getD_some] at e
  have h2 := List.pairwise_iff_getElem.mp h
  rcases Nat.lt_trichotomy i j with q | q | q
  · exact absurd e (h2 i j hi hj q)
  · exact q
  · exact absurd e.symm (h2 j i hj hi q)
def leT (kind : Nat) (c : List Nat) (i j : Nat) : Prop := (kind = 1 → j + 1 = c.length) ∧ (kind = 3 → i = j ∨ (c.getD j 0 - c.getD i 0) ∈ c)
/-- what is found among the places below i -/
def fsI (kind : Nat) (c : List Nat) (v i : Nat) (x y : Int32) : Prop := (x = iZ (-1) ∧ ∀ t, t < i → ¬ validS kind c v (c.getD t 0)) ∨ (∃ a b : Nat, x = iZ a ∧ y = iZ b ∧ a < c.length ∧ b < c.length ∧ c.getD a 0 + c.getD b 0 = v ∧ c.getD a 0 ≤ c.getD b 0 ∧ leT kind c a b ∧ ∀ t, t < i → validS kind c v (c.getD t 0) → c.getD t 0 ≤ c.getD a 0)
def fdI (c : List Nat) (v i : Nat) (x y : Int32) : Prop := (x = iZ (-1) ∧ ∀ t, t < i → c.getD t 0 + v ∉ c) ∨ (∃ a b : Nat, x = iZ a ∧ y = iZ b ∧ a < c.length ∧ b < c.length ∧ c.getD b 0 = c.getD a 0 + v ∧ ∀ t, t < i → c.getD t 0 + v ∈ c → c.getD a 0 ≤ c.getD t 0)
theorem valid_leT {kind v i j : Nat} {c : List Nat} (hr : rowOk kind c) (hi : i < c.length) (hj : j < c.length) (hs : c.getD i 0 + c.getD j 0 = v) (hle : c.getD i 0 ≤ c.getD j 0) : leT kind c i j ↔ validS kind c v (c.getD i 0) := by
  have hvx : v - c.getD i 0 = c.getD j 0 := by omega
  unfold leT validS
  rw [hvx]
  have hne : 0 < c.length := by omega
  constructor
  · rintro ⟨h1, h3⟩
    refine ⟨getD_mem2 hi, by omega, getD_mem2 hj, hle, fun hk => ?_, fun hk => ?_⟩
    · rw [lastD_eq hne, show c.length - 1 = j by have := h1 hk; omega]
    · rcases h3 hk with q | q
      · left; rw [q]
      · exact Or.inr q
  · rintro ⟨-, -, -, -, h1, h3⟩
    refine ⟨fun hk => ?_, fun hk => ?_⟩
    · have := h1 hk
      rw [lastD_eq hne] at this
      have := nd_get hr.2.2.1 hj (show c.length - 1 < c.length by omega) this
      omega
    · rcases h3 hk with q | q
      · exact Or.inl (nd_get hr.2.2.1 hi hj q)
      · exact Or.inr q
section CC27
variable {d n ca cb tr : Nat} {Q : PQ} {σ : Mem}
theorem c_placeOf_27 (hn : 54 ≤ n) {kind : Nat} {z : Int} {c : List Nat} (hz : -2147483648 ≤ z ∧ z < 2147483648) (hc : chnN 27 σ kind c) (h1 : ∀ i : Nat, i < c.length → (c.getD i 0 : Int) = z → Q (some (.int (iZ i))) (rho ca cb tr) σ) (h0 : (∀ i : Nat, i < c.length → (c.getD i 0 : Int) ≠ z) → Q (some (.int (iZ (-1)))) (rho ca cb tr) σ) : Mt M_X1_placeOf d n n [.ref 27, .int (iZ z)] (rho ca cb tr) σ Q := by
  obtain ⟨r1, r2, r3, r4, r5⟩ := id hc
  have r5 : ∀ i, i < c.length → σ 28 i = iZ (c.getD i 0) := r5
  have hl := r1.1
  refine Mt.of rfl (by decide +kernel) tk_X1_placeOf (Nat.le_of_ble_eq_true rfl) ?_
  refine V.run 2 54 rfl hn trivial ?_
  have key : ∀ (j i : Nat), i + j = c.length → (∀ t, t < i → (c.getD t 0 : Int) ≠ z) → V M_X1_placeOf d n n none Q n (rho ca cb tr) σ 2 [some (.ref 27), some (.int (iZ (z))), some (.int (iZ (i)))] [] := by
    intro j
    induction j with
    | zero =>
      intro i hi hno
      refine V.run 0 54 rfl hn trivial ?_
      try simp only [rc_1_0, rc_1_1, rc_1_2, rc_1_3, rc_1_4, rc_1_5, rc_2_0, rc_2_1, rc_2_2, rc_6_0, rc_6_1, rc_6_2, rc_6_3, rc_7_0, rc_7_1, rc_7_2, rc_7_3, rc_12_0, rc_12_1, rc_12_2, rc_12_3, rc_18_0, rc_18_1, rc_20_0, rc_20_1, rc_22_0, rc_23_0, rc_25_0, rc_27_0, rc_27_1, rc_27_2, rc_31_0, rc_31_1, rc_31_2, rc_55_0, rc_55_1, rc_55_2, rc_1_6, rc_1_7, rc_23_2, fi_0_1, fi_0_2, fi_0_3, fi_1_3, fi_1_4, fi_1_5, fi_1_6, fi_1_7, fi_2_2, fi_3_3, fi_3_4, fi_3_5, fi_4_1, fi_5_4, fi_5_5, fi_5_6, fi_5_7, fi_5_8, fi_5_9, fi_6_1, fi_7_3, fi_7_4]
      rw [r3]
      refine V.brT rfl ((iZ_le (by omega) (by omega)).mpr (by omega)) ?_
      refine V.run 0 54 rfl hn trivial ?_
      refine V.ret (v := some (.int (iZ (-1)))) rfl rfl rfl rfl (h0 (fun t ht => hno t (by omega)))
    | succ j ih =>
      intro i hi hno
      have hb := r1.2.1 _ (getD_mem2 (r := c) (i := i) (by omega))
      refine V.run 0 54 rfl hn trivial ?_
      try simp only [rc_1_0, rc_1_1, rc_1_2, rc_1_3, rc_1_4, rc_1_5, rc_2_0, rc_2_1, rc_2_2, rc_6_0, rc_6_1, rc_6_2, rc_6_3, rc_7_0, rc_7_1, rc_7_2, rc_7_3, rc_12_0, rc_12_1, rc_12_2, rc_12_3, rc_18_0, rc_18_1, rc_20_0, rc_20_1, rc_22_0, rc_23_0, rc_25_0, rc_27_0, rc_27_1, rc_27_2, rc_31_0, rc_31_1, rc_31_2, rc_55_0, rc_55_1, rc_55_2, rc_1_6, rc_1_7, rc_23_2, fi_0_1, fi_0_2, fi_0_3, fi_1_3, fi_1_4, fi_1_5, fi_1_6, fi_1_7, fi_2_2, fi_3_3, fi_3_4, fi_3_5, fi_4_1, fi_5_4, fi_5_5, fi_5_6, fi_5_7, fi_5_8, fi_5_9, fi_6_1, fi_7_3, fi_7_4]
      rw [r3]
      refine V.brF rfl (fun q => by have := (iZ_le (by omega) (by omega)).mp q; omega) ?_
      refine V.run 0 54 rfl hn ⟨in_N (n := 64) (by omega) (by decide), trivial⟩ ?_
      try simp only [rc_1_0, rc_1_1, rc_1_2, rc_1_3, rc_1_4, rc_1_5, rc_2_0, rc_2_1, rc_2_2, rc_6_0, rc_6_1, rc_6_2, rc_6_3, rc_7_0, rc_7_1, rc_7_2, rc_7_3, rc_12_0, rc_12_1, rc_12_2, rc_12_3, rc_18_0, rc_18_1, rc_20_0, rc_20_1, rc_22_0, rc_23_0, rc_25_0, rc_27_0, rc_27_1, rc_27_2, rc_31_0, rc_31_1, rc_31_2, rc_55_0, rc_55_1, rc_55_2, rc_1_6, rc_1_7, rc_23_2, fi_0_1, fi_0_2, fi_0_3, fi_1_3, fi_1_4, fi_1_5, fi_1_6, fi_1_7, fi_2_2, fi_3_3, fi_3_4, fi_3_5, fi_4_1, fi_5_4, fi_5_5, fi_5_6, fi_5_7, fi_5_8, fi_5_9, fi_6_1, fi_7_3, fi_7_4]
      rw [ix_N (by omega), r5 i (by omega)]
      refine V.br rfl (fun (c2 : iZ (c.getD i 0) = iZ z) => ?_) (fun (c2 : ¬ (iZ (c.getD i 0) = iZ z)) => ?_)
      · rw [iZ_eq (by omega) (by omega)] at c2
        refine V.run 0 54 rfl hn trivial ?_
        refine V.ret (v := some (.int (iZ i))) rfl rfl rfl rfl (h1 i (by omega) c2)
      · rw [iZ_eq (by omega) (by omega)] at c2
        refine V.run 0 54 rfl hn trivial ?_
        have := ih (i + 1) (by omega) (fun t ht => by
          by_cases e : t = i
          · subst e; exact c2
          · exact hno t (by omega))
        rw [show ((i + 1 : Nat) : Int) = (i : Int) + 1 by omega, ← iZ_add] at this
        exact this
  exact key c.length 0 (by omega) (fun t ht => by omega)
theorem c_letsAdd_27 (hn : 54 ≤ n) (hd : 1 ≤ d) {kind i j : Nat} {c : List Nat} (hc : chnN 27 σ kind c) (hi : i < c.length) (hj : j < c.length) (hle : c.getD i 0 ≤ c.getD j 0) (h1 : leT kind c i j → Q (some (.int 1)) (rho ca cb tr) σ) (h0 : ¬ leT kind c i j → Q (some (.int 0)) (rho ca cb tr) σ) : Mt M_X1_letsAdd d n n [.ref 27, .int (iZ i), .int (iZ j)] (rho ca cb tr) σ Q := by
  obtain ⟨r1, r2, r3, r4, r5⟩ := id hc
  have r5 : ∀ i, i < c.length → σ 28 i = iZ (c.getD i 0) := r5
  have hl := r1.1
  have hbi := r1.2.1 _ (getD_mem2 (r := c) (i := i) (by omega))
  have hbj := r1.2.1 _ (getD_mem2 (r := c) (i := j) (by omega))
  refine Mt.of rfl (by decide +kernel) tk_X1_letsAdd (Nat.le_of_ble_eq_true rfl) ?_
  refine V.run 0 54 rfl hn trivial ?_
  try simp only [rc_1_0, rc_1_1, rc_1_2, rc_1_3, rc_1_4, rc_1_5, rc_2_0, rc_2_1, rc_2_2, rc_6_0, rc_6_1, rc_6_2, rc_6_3, rc_7_0, rc_7_1, rc_7_2, rc_7_3, rc_12_0, rc_12_1, rc_12_2, rc_12_3, rc_18_0, rc_18_1, rc_20_0, rc_20_1, rc_22_0, rc_23_0, rc_25_0, rc_27_0, rc_27_1, rc_27_2, rc_31_0, rc_31_1, rc_31_2, rc_55_0, rc_55_1, rc_55_2, rc_1_6, rc_1_7, rc_23_2, fi_0_1, fi_0_2, fi_0_3, fi_1_3, fi_1_4, fi_1_5, fi_1_6, fi_1_7, fi_2_2, fi_3_3, fi_3_4, fi_3_5, fi_4_1, fi_5_4, fi_5_5, fi_5_6, fi_5_7, fi_5_8, fi_5_9, fi_6_1, fi_7_3, fi_7_4]
  rw [r4]
  refine V.br rfl (fun (c1 : iZ kind = iZ 1) => ?_) (fun (c1 : ¬ (iZ kind = iZ 1)) => ?_)
  · rw [iZ_eq (by omega) (by omega)] at c1
    refine V.run 0 54 rfl hn trivial ?_
    try simp only [rc_1_0, rc_1_1, rc_1_2, rc_1_3, rc_1_4, rc_1_5, rc_2_0, rc_2_1, rc_2_2, rc_6_0, rc_6_1, rc_6_2, rc_6_3, rc_7_0, rc_7_1, rc_7_2, rc_7_3, rc_12_0, rc_12_1, rc_12_2, rc_12_3, rc_18_0, rc_18_1, rc_20_0, rc_20_1, rc_22_0, rc_23_0, rc_25_0, rc_27_0, rc_27_1, rc_27_2, rc_31_0, rc_31_1, rc_31_2, rc_55_0, rc_55_1, rc_55_2, rc_1_6, rc_1_7, rc_23_2, fi_0_1, fi_0_2, fi_0_3, fi_1_3, fi_1_4, fi_1_5, fi_1_6, fi_1_7, fi_2_2, fi_3_3, fi_3_4, fi_3_5, fi_4_1, fi_5_4, fi_5_5, fi_5_6, fi_5_7, fi_5_8, fi_5_9, fi_6_1, fi_7_3, fi_7_4]
    rw [r3, iZ_sub]
    refine V.br rfl (fun (c2 : iZ j = iZ ((c.length : Int) - 1)) => ?_) (fun (c2 : ¬ (iZ j = iZ ((c.length : Int) - 1))) => ?_)
    · rw [iZ_eq (by omega) (by omega)] at c2
      refine V.run 0 54 rfl hn trivial ?_
      refine V.ret (v := some (.int 1)) rfl rfl ⟨rfl, Or.inr rfl⟩ rfl (h1 ⟨fun _ => by omega, fun h => by omega⟩)
    · rw [iZ_eq (by omega) (by omega)] at c2
      refine V.run 0 54 rfl hn trivial ?_
      refine V.ret (v := some (.int 0)) rfl rfl ⟨rfl, Or.inl rfl⟩ rfl (h0 (fun h => c2 (by have := h.1 (by omega); omega)))
  · rw [iZ_eq (by omega) (by omega)] at c1
    have yes : leT kind c i j → V M_X1_letsAdd d n n none Q n (rho ca cb tr) σ 57 [some (.ref 27), some (.int (iZ (i))), some (.int (iZ (j)))] [] := by
      intro h
      refine V.run 0 54 rfl hn trivial ?_
      refine V.ret (v := some (.int 1)) rfl rfl ⟨rfl, Or.inr rfl⟩ rfl (h1 h)
    refine V.run 0 54 rfl hn trivial ?_
    refine V.br rfl (fun (c2 : iZ i = iZ j) => ?_) (fun (c2 : ¬ (iZ i = iZ j)) => ?_)
    · rw [iZ_eq (by omega) (by omega)] at c2
      exact yes ⟨fun h => by omega, fun _ => Or.inl (by omega)⟩
    · rw [iZ_eq (by omega) (by omega)] at c2
      refine V.run 0 54 rfl hn trivial ?_
      try simp only [rc_1_0, rc_1_1, rc_1_2, rc_1_3, rc_1_4, rc_1_5, rc_2_0, rc_2_1, rc_2_2, rc_6_0, rc_6_1, rc_6_2, rc_6_3, rc_7_0, rc_7_1, rc_7_2, rc_7_3, rc_12_0, rc_12_1, rc_12_2, rc_12_3, rc_18_0, rc_18_1, rc_20_0, rc_20_1, rc_22_0, rc_23_0, rc_25_0, rc_27_0, rc_27_1, rc_27_2, rc_31_0, rc_31_1, rc_31_2, rc_55_0, rc_55_1, rc_55_2, rc_1_6, rc_1_7, rc_23_2, fi_0_1, fi_0_2, fi_0_3, fi_1_3, fi_1_4, fi_1_5, fi_1_6, fi_1_7, fi_2_2, fi_3_3, fi_3_4, fi_3_5, fi_4_1, fi_5_4, fi_5_5, fi_5_6, fi_5_7, fi_5_8, fi_5_9, fi_6_1, fi_7_3, fi_7_4]
      rw [r4]
      refine V.br rfl (fun (c3 : iZ kind = iZ 3) => ?_) (fun (c3 : ¬ (iZ kind = iZ 3)) => ?_)
      · rw [iZ_eq (by omega) (by omega)] at c3
        refine V.run 0 54 rfl hn ⟨in_N (n := 64) (by omega) (by decide), in_N (n := 64) (by omega) (by decide), trivial⟩ ?_
        try simp only [rc_1_0, rc_1_1, rc_1_2, rc_1_3, rc_1_4, rc_1_5, rc_2_0, rc_2_1, rc_2_2, rc_6_0, rc_6_1, rc_6_2, rc_6_3, rc_7_0, rc_7_1, rc_7_2, rc_7_3, rc_12_0, rc_12_1, rc_12_2, rc_12_3, rc_18_0, rc_18_1, rc_20_0, rc_20_1, rc_22_0, rc_23_0, rc_25_0, rc_27_0, rc_27_1, rc_27_2, rc_31_0, rc_31_1, rc_31_2, rc_55_0, rc_55_1, rc_55_2, rc_1_6, rc_1_7, rc_23_2, fi_0_1, fi_0_2, fi_0_3, fi_1_3, fi_1_4, fi_1_5, fi_1_6, fi_1_7, fi_2_2, fi_3_3, fi_3_4, fi_3_5, fi_4_1, fi_5_4, fi_5_5, fi_5_6, fi_5_7, fi_5_8, fi_5_9, fi_6_1, fi_7_3, fi_7_4]
        rw [ix_N (by omega), ix_N (by omega), r5 i hi, r5 j hj, iZ_sub]
        refine V.cv (lo := 54) (d' := d - 1) rfl rfl ok_X1_placeOf lk_1_X1_placeOf rfl rfl rfl hn (by omega) (Nat.le_refl _) (Nat.le_refl _) ((c_placeOf_27 hn (by omega) hc (fun t ht e => ?_) (fun hno => ?_)))
        · refine V.brF rfl (fun q => by have := (iZ_lt0 (by omega)).mp q; omega) ?_
          refine yes ⟨fun h => by omega, fun _ => Or.inr ?_⟩
          rw [show c.getD j 0 - c.getD i 0 = c.getD t 0 by omega]
          exact getD_mem2 ht
        · refine V.brT rfl (by decide) ?_
          refine V.run 0 54 rfl hn trivial ?_
          have hn0 : ¬ leT kind c i j := fun h => by
            rcases h.2 (by omega) with q | q
            · omega
            · obtain ⟨t, ht, e⟩ := mem_getD q
              exact hno t ht (by omega)
          refine V.ret (v := some (.int 0)) rfl rfl ⟨rfl, Or.inl rfl⟩ rfl (h0 hn0)
      · rw [iZ_eq (by omega) (by omega)] at c3
        exact yes ⟨fun h => by omega, fun h => by omega⟩
theorem c_findSum_27 (hn : 54 ≤ n) (hd : 2 ≤ d) {kind v : Nat} {c : List Nat} (hv : 1 ≤ v ∧ v ≤ 99999) (hc : chnN 27 σ kind c) (hQ : ∀ σ', fsI kind c v c.length (σ' 27 6) (σ' 27 7) → Fr [27] σ σ' → (∀ j, j ≠ 6 → j ≠ 7 → σ' 27 j = σ 27 j) → Q none (rho ca cb tr) σ') : Mt M_X1_findSum d n n [.ref 27, .int (iZ v)] (rho ca cb tr) σ Q := by
  obtain ⟨r1, r2, r3, r4, r5⟩ := id hc
  have r5 : ∀ i, i < c.length → σ 28 i = iZ (c.getD i 0) := r5
  have hl := r1.1
  refine Mt.of rfl (by decide +kernel) tk_X1_findSum (Nat.le_of_ble_eq_true rfl) ?_
  refine V.run 12 54 rfl hn trivial ?_
  have key : ∀ (j i : Nat) (σ1 : Mem) (x3 x4 x5 : Option Value), i + j = c.length → fsI kind c v i (σ1 27 6) (σ1 27 7) → Fr [27] σ σ1 → (∀ j, j ≠ 6 → j ≠ 7 → σ1 27 j = σ 27 j) → V M_X1_findSum d n n none Q n (rho ca cb tr) σ1 12 [some (.ref 27), some (.int (iZ (v))), some (.int (iZ (i))), x3, x4, x5] [] := by
    intro j
    induction j with
    | zero =>
      intro i σ1 x3 x4 x5 hi hI hf ho
      have e3 : σ1 27 3 = iZ c.length := by rw [ho 3 (by decide) (by decide)]; exact r3
      have e : i = c.length := by omega
      subst e
      refine V.run 0 54 rfl hn trivial ?_
      try simp only [rc_1_0, rc_1_1, rc_1_2, rc_1_3, rc_1_4, rc_1_5, rc_2_0, rc_2_1, rc_2_2, rc_6_0, rc_6_1, rc_6_2, rc_6_3, rc_7_0, rc_7_1, rc_7_2, rc_7_3, rc_12_0, rc_12_1, rc_12_2, rc_12_3, rc_18_0, rc_18_1, rc_20_0, rc_20_1, rc_22_0, rc_23_0, rc_25_0, rc_27_0, rc_27_1, rc_27_2, rc_31_0, rc_31_1, rc_31_2, rc_55_0, rc_55_1, rc_55_2, rc_1_6, rc_1_7, rc_23_2, fi_0_1, fi_0_2, fi_0_3, fi_1_3, fi_1_4, fi_1_5, fi_1_6, fi_1_7, fi_2_2, fi_3_3, fi_3_4, fi_3_5, fi_4_1, fi_5_4, fi_5_5, fi_5_6, fi_5_7, fi_5_8, fi_5_9, fi_6_1, fi_7_3, fi_7_4]
      rw [e3]
      refine V.brT rfl ((iZ_le (by omega) (by omega)).mpr (by omega)) ?_
      refine V.ret (v := none) rfl rfl rfl rfl (hQ σ1 hI hf ho)
    | succ j ih =>
      intro i σ1 x3 x4 x5 hi hI hf ho
      have hil : i < c.length := by omega
      have e3 : σ1 27 3 = iZ c.length := by rw [ho 3 (by decide) (by decide)]; exact r3
      have e1 : ∀ t, t < c.length → σ1 28 t = iZ (c.getD t 0) := fun t ht => by rw [hf 28 (by decide)]; exact r5 t ht
      have hc1 : chnN 27 σ1 kind c := ⟨r1, r2, e3, by rw [ho 4 (by decide) (by decide)]; exact r4, e1⟩
      have hb := r1.2.1 _ (getD_mem2 (r := c) (i := i) (by omega))
      have k112 : ∀ (σ2 : Mem) (x3 x4 x5 : Option Value), fsI kind c v (i + 1) (σ2 27 6) (σ2 27 7) → Fr [27] σ σ2 → (∀ j, j ≠ 6 → j ≠ 7 → σ2 27 j = σ 27 j) → V M_X1_findSum d n n none Q n (rho ca cb tr) σ2 112 [some (.ref 27), some (.int (iZ (v))), some (.int (iZ (i))), x3, x4, x5] [] := by
        intro σ2 x3 x4 x5 g1 g2 g3
        refine V.run 0 54 rfl hn trivial ?_
        have := ih (i + 1) σ2 x3 x4 x5 (by omega) g1 g2 g3
        rw [show ((i + 1 : Nat) : Int) = (i : Int) + 1 by omega, ← iZ_add] at this
        exact this
      -- nothing new at i
      have skip : (¬ validS kind c v (c.getD i 0) ∨ (∃ a b : Nat, σ1 27 6 = iZ a ∧ a < c.length ∧ c.getD i 0 ≤ c.getD a 0)) → ∀ (x3 x4 x5 : Option Value), V M_X1_findSum d n n none Q n (rho ca cb tr) σ1 112 [some (.ref 27), some (.int (iZ (v))), some (.int (iZ (i))), x3, x4, x5] [] := by
        intro hs x3 x4 x5
        refine k112 σ1 x3 x4 x5 ?_ hf ho
        rcases hI with ⟨i1, i2⟩ | ⟨a, b, i1, i2, i3, i4, i5, i6, i7, i8⟩
        · left
          refine ⟨i1, fun t ht => ?_⟩
          by_cases e : t = i
          · subst e
            rcases hs with hs | ⟨a, b, q1, q2, q3⟩
            · exact hs
            · rw [i1] at q1
              have := (iZ_eq (by omega) (by omega)).mp q1
              omega
          · exact i2 t (by omega)
        · right
          refine ⟨a, b, i1, i2, i3, i4, i5, i6, i7, fun t ht hvt => ?_⟩
          by_cases e : t = i
          · subst e
            rcases hs with hs | ⟨a', b', q1, q2, q3⟩
            · exact absurd hvt hs
            · rw [i1] at q1
              have := (iZ_eq (by omega) (by omega)).mp q1
              rw [show a' = a by omega] at q3
              exact q3
          · exact i8 t (by omega) hvt
      have k79 : (∀ a b : Nat, σ1 27 6 = iZ a → a < c.length → c.getD a 0 < c.getD i 0) → (c.getD i 0 : Int) ≤ (v : Int) - (c.getD i 0 : Int) → ∀ (y4 : Int32) (x5 : Option Value), V M_X1_findSum d n n none Q n (rho ca cb tr) σ1 79 [some (.ref 27), some (.int (iZ (v))), some (.int (iZ (i))), some (.int (iZ (((v : Int) - (c.getD i 0 : Int))))), some (.int (y4)), x5] [] := by
        intro hbet hle y4 x5
        refine V.run 0 54 rfl hn trivial ?_
        refine V.cv (lo := 54) (d' := d - 1) rfl rfl ok_X1_placeOf lk_1_X1_placeOf rfl rfl rfl hn (by omega) (Nat.le_refl _) (Nat.le_refl _) ((c_placeOf_27 hn (by omega) hc1 (fun t ht e => ?_) (fun hno => ?_)))
        · have hle2 : c.getD i 0 ≤ c.getD t 0 := by omega
          have hsum : c.getD i 0 + c.getD t 0 = v := by omega
          have hvl := valid_leT r1 hil ht hsum hle2
          refine V.run 0 54 rfl hn trivial ?_
          refine V.brF rfl (fun q => by have := (iZ_lt0 (by omega)).mp q; omega) ?_
          refine V.run 0 54 rfl hn trivial ?_
          refine V.cv (lo := 54) (d' := d - 1) rfl rfl ok_X1_letsAdd lk_1_X1_letsAdd rfl rfl rfl hn (by omega) (Nat.le_refl _) (Nat.le_refl _) ((c_letsAdd_27 hn (by omega) hc1 hil ht hle2 (fun g => ?_) (fun g => ?_)))
          · refine V.brF rfl (by decide) ?_
            refine V.run 112 54 rfl hn trivial ?_
            refine k112 _ _ _ _ (Or.inr ⟨i, t, ?_, ?_, hil, ht, hsum, hle2, g, fun s hs hvs => ?_⟩) (Fr.putT (Fr.putT hf (by simp)) (by simp)) (fun j p q => ?_)
            · rw [up_nat (by decide), up_at]
            · rw [up_at]
            · by_cases e2 : s = i
              · rw [e2]; exact Nat.le_refl _
              · rcases hI with ⟨i1, i2⟩ | ⟨a, b, i1, i2, i3, i4, i5, i6, i7, i8⟩
                · exact absurd hvs (i2 s (by omega))
                · have := i8 s (by omega) hvs
                  have := hbet a b i1 i3
                  omega
            · rw [up_nat q, up_nat p]; exact ho j p q
          · refine V.brT rfl rfl ?_
            exact skip (Or.inl (fun q => g (hvl.mpr q))) _ _ _
        · refine V.run 0 54 rfl hn trivial ?_
          refine V.brT rfl (by decide) ?_
          refine skip (Or.inl (fun q => ?_)) _ _ _
          obtain ⟨t, ht, e⟩ := mem_getD q.2.2.1
          have := q.2.1
          exact hno t ht (by omega)
      have k61 : ∀ (x4 : Option Value) (b4 : Bool), x4 = some (.int (if b4 = true then 1 else 0)) → (b4 = true → ∀ a b : Nat, σ1 27 6 = iZ a → a < c.length → c.getD a 0 < c.getD i 0) → (b4 = false → ∃ a b : Nat, σ1 27 6 = iZ a ∧ a < c.length ∧ c.getD i 0 ≤ c.getD a 0) → ∀ x5 : Option Value, V M_X1_findSum d n n none Q n (rho ca cb tr) σ1 61 [some (.ref 27), some (.int (iZ (v))), some (.int (iZ (i))), some (.int (iZ (((v : Int) - (c.getD i 0 : Int))))), x4, x5] [] := by
        intro x4 b4 h4 ht4 hf4 x5
        subst h4
        refine V.run 0 54 rfl hn ⟨in_N (n := 64) (by omega) (by decide), trivial⟩ ?_
        try simp only [rc_1_0, rc_1_1, rc_1_2, rc_1_3, rc_1_4, rc_1_5, rc_2_0, rc_2_1, rc_2_2, rc_6_0, rc_6_1, rc_6_2, rc_6_3, rc_7_0, rc_7_1, rc_7_2, rc_7_3, rc_12_0, rc_12_1, rc_12_2, rc_12_3, rc_18_0, rc_18_1, rc_20_0, rc_20_1, rc_22_0, rc_23_0, rc_25_0, rc_27_0, rc_27_1, rc_27_2, rc_31_0, rc_31_1, rc_31_2, rc_55_0, rc_55_1, rc_55_2, rc_1_6, rc_1_7, rc_23_2, fi_0_1, fi_0_2, fi_0_3, fi_1_3, fi_1_4, fi_1_5, fi_1_6, fi_1_7, fi_2_2, fi_3_3, fi_3_4, fi_3_5, fi_4_1, fi_5_4, fi_5_5, fi_5_6, fi_5_7, fi_5_8, fi_5_9, fi_6_1, fi_7_3, fi_7_4]
        rw [ix_N (by omega), e1 i hil]
        refine V.br rfl (fun (c2 : iZ ((v : Int) - (c.getD i 0 : Int)) < iZ (c.getD i 0)) => ?_) (fun (c2 : ¬ (iZ ((v : Int) - (c.getD i 0 : Int)) < iZ (c.getD i 0))) => ?_)
        · rw [iZ_lt (by omega) (by omega)] at c2
          refine skip (Or.inl (fun q => ?_)) _ _ _
          have := q.2.2.2.1
          omega
        · rw [iZ_lt (by omega) (by omega)] at c2
          refine V.run 0 54 rfl hn trivial ?_
          cases b4 with
          | true =>
            refine V.brF rfl (by decide) ?_
            exact k79 (ht4 rfl) (by omega) _ _
          | false =>
            refine V.brT rfl rfl ?_
            refine V.run 0 54 rfl hn trivial ?_
            exact skip (Or.inr (hf4 rfl)) _ _ _
      refine V.run 0 54 rfl hn trivial ?_
      try simp only [rc_1_0, rc_1_1, rc_1_2, rc_1_3, rc_1_4, rc_1_5, rc_2_0, rc_2_1, rc_2_2, rc_6_0, rc_6_1, rc_6_2, rc_6_3, rc_7_0, rc_7_1, rc_7_2, rc_7_3, rc_12_0, rc_12_1, rc_12_2, rc_12_3, rc_18_0, rc_18_1, rc_20_0, rc_20_1, rc_22_0, rc_23_0, rc_25_0, rc_27_0, rc_27_1, rc_27_2, rc_31_0, rc_31_1, rc_31_2, rc_55_0, rc_55_1, rc_55_2, rc_1_6, rc_1_7, rc_23_2, fi_0_1, fi_0_2, fi_0_3, fi_1_3, fi_1_4, fi_1_5, fi_1_6, fi_1_7, fi_2_2, fi_3_3, fi_3_4, fi_3_5, fi_4_1, fi_5_4, fi_5_5, fi_5_6, fi_5_7, fi_5_8, fi_5_9, fi_6_1, fi_7_3, fi_7_4]
      rw [e3]
      refine V.brF rfl (fun q => by have := (iZ_le (by omega) (by omega)).mp q; omega) ?_
      refine V.run 0 54 rfl hn ⟨in_N (n := 64) (by omega) (by decide), trivial⟩ ?_
      try simp only [rc_1_0, rc_1_1, rc_1_2, rc_1_3, rc_1_4, rc_1_5, rc_2_0, rc_2_1, rc_2_2, rc_6_0, rc_6_1, rc_6_2, rc_6_3, rc_7_0, rc_7_1, rc_7_2, rc_7_3, rc_12_0, rc_12_1, rc_12_2, rc_12_3, rc_18_0, rc_18_1, rc_20_0, rc_20_1, rc_22_0, rc_23_0, rc_25_0, rc_27_0, rc_27_1, rc_27_2, rc_31_0, rc_31_1, rc_31_2, rc_55_0, rc_55_1, rc_55_2, rc_1_6, rc_1_7, rc_23_2, fi_0_1, fi_0_2, fi_0_3, fi_1_3, fi_1_4, fi_1_5, fi_1_6, fi_1_7, fi_2_2, fi_3_3, fi_3_4, fi_3_5, fi_4_1, fi_5_4, fi_5_5, fi_5_6, fi_5_7, fi_5_8, fi_5_9, fi_6_1, fi_7_3, fi_7_4]
      rw [ix_N (by omega), e1 i hil, iZ_sub]
      rcases hI with ⟨i1, i2⟩ | ⟨a, b, i1, i2, i3, i4, i5, i6, i7, i8⟩
      · rw [i1]
        refine V.brT rfl (by decide) ?_
        refine V.run 0 54 rfl hn trivial ?_
        refine V.run 61 54 rfl hn trivial ?_
        refine k61 _ true rfl (fun _ a b q1 q2 => ?_) (fun h => by cases h) _
        rw [i1] at q1
        have := (iZ_eq (by omega) (by omega)).mp q1
        omega
      · have hba := r1.2.1 _ (getD_mem2 (r := c) (i := a) (by omega))
        have same : ∀ a' : Nat, σ1 27 6 = iZ a' → a' < c.length → a' = a := fun a' q1 q2 => by
          rw [i1] at q1
          have := (iZ_eq (by omega) (by omega)).mp q1
          omega
        rw [i1]
        refine V.brF rfl (fun q => by have := (iZ_lt0 (by omega)).mp q; omega) ?_
        refine V.run 0 54 rfl hn ⟨in_N (n := 64) (by omega) (by decide), by (try simp only [fi_1_6]); rw [i1]; exact in_N (n := 64) (by omega) (by decide), trivial⟩ ?_
        try simp only [rc_1_0, rc_1_1, rc_1_2, rc_1_3, rc_1_4, rc_1_5, rc_2_0, rc_2_1, rc_2_2, rc_6_0, rc_6_1, rc_6_2, rc_6_3, rc_7_0, rc_7_1, rc_7_2, rc_7_3, rc_12_0, rc_12_1, rc_12_2, rc_12_3, rc_18_0, rc_18_1, rc_20_0, rc_20_1, rc_22_0, rc_23_0, rc_25_0, rc_27_0, rc_27_1, rc_27_2, rc_31_0, rc_31_1, rc_31_2, rc_55_0, rc_55_1, rc_55_2, rc_1_6, rc_1_7, rc_23_2, fi_0_1, fi_0_2, fi_0_3, fi_1_3, fi_1_4, fi_1_5, fi_1_6, fi_1_7, fi_2_2, fi_3_3, fi_3_4, fi_3_5, fi_4_1, fi_5_4, fi_5_5, fi_5_6, fi_5_7, fi_5_8, fi_5_9, fi_6_1, fi_7_3, fi_7_4]
        rw [i1, ix_N (by omega), ix_N (by omega), e1 i hil, e1 a i3]
        refine V.br rfl (fun (c2 : iZ (c.getD i 0) ≤ iZ (c.getD a 0)) => ?_) (fun (c2 : ¬ (iZ (c.getD i 0) ≤ iZ (c.getD a 0))) => ?_)
        · rw [iZ_le (by omega) (by omega)] at c2
          refine V.run 61 54 rfl hn trivial ?_
          exact k61 _ false rfl (fun h => by cases h) (fun _ => ⟨a, b, i1, i3, by omega⟩) _
        · rw [iZ_le (by omega) (by omega)] at c2
          refine V.run 0 54 rfl hn trivial ?_
          refine V.run 61 54 rfl hn trivial ?_
          refine k61 _ true rfl (fun _ a' b' q1 q2 => ?_) (fun h => by cases h) _
          rw [same a' q1 q2]
          omega
  refine key c.length 0 _ none none none (by omega) (Or.inl ⟨?_, fun t ht => by omega⟩) (Fr.putT (Fr.put (by simp)) (by simp)) (fun j p q => by rw [up_nat q, up_nat p])
  rw [up_nat (by decide), up_at]
theorem c_findDiff_27 (hn : 54 ≤ n) (hd : 2 ≤ d) {kind v : Nat} {c : List Nat} (hv : 1 ≤ v ∧ v ≤ 99999) (hc : chnN 27 σ kind c) (h6 : σ 27 6 = iZ (-1)) (hQ : ∀ σ', fdI c v c.length (σ' 27 6) (σ' 27 7) → Fr [27] σ σ' → (∀ j, j ≠ 6 → j ≠ 7 → σ' 27 j = σ 27 j) → Q none (rho ca cb tr) σ') : Mt M_X1_findDifference d n n [.ref 27, .int (iZ v)] (rho ca cb tr) σ Q := by
  obtain ⟨r1, r2, r3, r4, r5⟩ := id hc
  have r5 : ∀ i, i < c.length → σ 28 i = iZ (c.getD i 0) := r5
  have hl := r1.1
  refine Mt.of rfl (by decide +kernel) tk_X1_findDifference (Nat.le_of_ble_eq_true rfl) ?_
  refine V.run 2 54 rfl hn trivial ?_
  have key : ∀ (j i : Nat) (σ1 : Mem) (x3 x4 : Option Value), i + j = c.length → fdI c v i (σ1 27 6) (σ1 27 7) → Fr [27] σ σ1 → (∀ j, j ≠ 6 → j ≠ 7 → σ1 27 j = σ 27 j) → V M_X1_findDifference d n n none Q n (rho ca cb tr) σ1 2 [some (.ref 27), some (.int (iZ (v))), some (.int (iZ (i))), x3, x4] [] := by
    intro j
    induction j with
    | zero =>
      intro i σ1 x3 x4 hi hI hf ho
      have e3 : σ1 27 3 = iZ c.length := by rw [ho 3 (by decide) (by decide)]; exact r3
      have e : i = c.length := by omega
      subst e
      refine V.run 0 54 rfl hn trivial ?_
      try simp only [rc_1_0, rc_1_1, rc_1_2, rc_1_3, rc_1_4, rc_1_5, rc_2_0, rc_2_1, rc_2_2, rc_6_0, rc_6_1, rc_6_2, rc_6_3, rc_7_0, rc_7_1, rc_7_2, rc_7_3, rc_12_0, rc_12_1, rc_12_2, rc_12_3, rc_18_0, rc_18_1, rc_20_0, rc_20_1, rc_22_0, rc_23_0, rc_25_0, rc_27_0, rc_27_1, rc_27_2, rc_31_0, rc_31_1, rc_31_2, rc_55_0, rc_55_1, rc_55_2, rc_1_6, rc_1_7, rc_23_2, fi_0_1, fi_0_2, fi_0_3, fi_1_3, fi_1_4, fi_1_5, fi_1_6, fi_1_7, fi_2_2, fi_3_3, fi_3_4, fi_3_5, fi_4_1, fi_5_4, fi_5_5, fi_5_6, fi_5_7, fi_5_8, fi_5_9, fi_6_1, fi_7_3, fi_7_4]
      rw [e3]
      refine V.brT rfl ((iZ_le (by omega) (by omega)).mpr (by omega)) ?_
      refine V.ret (v := none) rfl rfl rfl rfl (hQ σ1 hI hf ho)
    | succ j ih =>
      intro i σ1 x3 x4 hi hI hf ho
      have hil : i < c.length := by omega
      have e3 : σ1 27 3 = iZ c.length := by rw [ho 3 (by decide) (by decide)]; exact r3
      have e1 : ∀ t, t < c.length → σ1 28 t = iZ (c.getD t 0) := fun t ht => by rw [hf 28 (by decide)]; exact r5 t ht
      have hc1 : chnN 27 σ1 kind c := ⟨r1, r2, e3, by rw [ho 4 (by decide) (by decide)]; exact r4, e1⟩
      have hb := r1.2.1 _ (getD_mem2 (r := c) (i := i) (by omega))
      have k79 : ∀ (σ2 : Mem) (x3 x4 : Option Value), fdI c v (i + 1) (σ2 27 6) (σ2 27 7) → Fr [27] σ σ2 → (∀ j, j ≠ 6 → j ≠ 7 → σ2 27 j = σ 27 j) → V M_X1_findDifference d n n none Q n (rho ca cb tr) σ2 79 [some (.ref 27), some (.int (iZ (v))), some (.int (iZ (i))), x3, x4] [] := by
        intro σ2 x3 x4 g1 g2 g3
        refine V.run 0 54 rfl hn trivial ?_
        have := ih (i + 1) σ2 x3 x4 (by omega) g1 g2 g3
        rw [show ((i + 1 : Nat) : Int) = (i : Int) + 1 by omega, ← iZ_add] at this
        exact this
      have skip : (c.getD i 0 + v ∉ c ∨ (∃ a : Nat, σ1 27 6 = iZ a ∧ a < c.length ∧ c.getD a 0 ≤ c.getD i 0)) → ∀ (x3 x4 : Option Value), V M_X1_findDifference d n n none Q n (rho ca cb tr) σ1 79 [some (.ref 27), some (.int (iZ (v))), some (.int (iZ (i))), x3, x4] [] := by
        intro hs x3 x4
        refine k79 σ1 x3 x4 ?_ hf ho
        rcases hI with ⟨i1, i2⟩ | ⟨a, b, i1, i2, i3, i4, i5, i8⟩
        · left
          refine ⟨i1, fun t ht => ?_⟩
          by_cases e : t = i
          · subst e
            rcases hs with hs | ⟨a, q1, q2, q3⟩
            · exact hs
            · rw [i1] at q1
              have := (iZ_eq (by omega) (by omega)).mp q1
              omega
          · exact i2 t (by omega)
        · right
          refine ⟨a, b, i1, i2, i3, i4, i5, fun t ht hvt => ?_⟩
          by_cases e : t = i
          · subst e
            rcases hs with hs | ⟨a', q1, q2, q3⟩
            · exact absurd hvt hs
            · rw [i1] at q1
              have := (iZ_eq (by omega) (by omega)).mp q1
              rw [show a' = a by omega] at q3
              exact q3
          · exact i8 t (by omega) hvt
      have k45 : (∀ a : Nat, σ1 27 6 = iZ a → a < c.length → c.getD i 0 < c.getD a 0) → ∀ (y3 : Int32) (x4 : Option Value), V M_X1_findDifference d n n none Q n (rho ca cb tr) σ1 45 [some (.ref 27), some (.int (iZ (v))), some (.int (iZ (i))), some (.int (y3)), x4] [] := by
        intro hbet y3 x4
        refine V.run 0 54 rfl hn ⟨in_N (n := 64) (by omega) (by decide), trivial⟩ ?_
        try simp only [rc_1_0, rc_1_1, rc_1_2, rc_1_3, rc_1_4, rc_1_5, rc_2_0, rc_2_1, rc_2_2, rc_6_0, rc_6_1, rc_6_2, rc_6_3, rc_7_0, rc_7_1, rc_7_2, rc_7_3, rc_12_0, rc_12_1, rc_12_2, rc_12_3, rc_18_0, rc_18_1, rc_20_0, rc_20_1, rc_22_0, rc_23_0, rc_25_0, rc_27_0, rc_27_1, rc_27_2, rc_31_0, rc_31_1, rc_31_2, rc_55_0, rc_55_1, rc_55_2, rc_1_6, rc_1_7, rc_23_2, fi_0_1, fi_0_2, fi_0_3, fi_1_3, fi_1_4, fi_1_5, fi_1_6, fi_1_7, fi_2_2, fi_3_3, fi_3_4, fi_3_5, fi_4_1, fi_5_4, fi_5_5, fi_5_6, fi_5_7, fi_5_8, fi_5_9, fi_6_1, fi_7_3, fi_7_4]
        rw [ix_N (by omega), e1 i hil, iZ_add]
        refine V.cv (lo := 54) (d' := d - 1) rfl rfl ok_X1_placeOf lk_1_X1_placeOf rfl rfl rfl hn (by omega) (Nat.le_refl _) (Nat.le_refl _) ((c_placeOf_27 hn (by omega) hc1 (fun t ht e => ?_) (fun hno => ?_)))
        · refine V.run 0 54 rfl hn trivial ?_
          refine V.run 0 54 rfl hn trivial ?_
          refine V.brF rfl (fun q => by have := (iZ_lt0 (by omega)).mp q; omega) ?_
          refine V.run 79 54 rfl hn trivial ?_
          refine k79 _ _ _ (Or.inr ⟨i, t, ?_, ?_, hil, ht, by omega, fun s hs hvs => ?_⟩) (Fr.putT (Fr.putT hf (by simp)) (by simp)) (fun j p q => ?_)
          · rw [up_nat (by decide), up_at]
          · rw [up_at]
          · by_cases e2 : s = i
            · rw [e2]; exact Nat.le_refl _
            · rcases hI with ⟨i1, i2⟩ | ⟨a, b, i1, i2, i3, i4, i5, i8⟩
              · exact absurd hvs (i2 s (by omega))
              · have := i8 s (by omega) hvs
                have := hbet a i1 i3
                omega
          · rw [up_nat q, up_nat p]; exact ho j p q
        · refine V.run 0 54 rfl hn trivial ?_
          refine V.run 0 54 rfl hn trivial ?_
          refine V.brT rfl (by decide) ?_
          refine skip (Or.inl (fun q => ?_)) _ _
          obtain ⟨t, ht, e⟩ := mem_getD q
          exact hno t ht (by omega)
      refine V.run 0 54 rfl hn trivial ?_
      try simp only [rc_1_0, rc_1_1, rc_1_2, rc_1_3, rc_1_4, rc_1_5, rc_2_0, rc_2_1, rc_2_2, rc_6_0, rc_6_1, rc_6_2, rc_6_3, rc_7_0, rc_7_1, rc_7_2, rc_7_3, rc_12_0, rc_12_1, rc_12_2, rc_12_3, rc_18_0, rc_18_1, rc_20_0, rc_20_1, rc_22_0, rc_23_0, rc_25_0, rc_27_0, rc_27_1, rc_27_2, rc_31_0, rc_31_1, rc_31_2, rc_55_0, rc_55_1, rc_55_2, rc_1_6, rc_1_7, rc_23_2, fi_0_1, fi_0_2, fi_0_3, fi_1_3, fi_1_4, fi_1_5, fi_1_6, fi_1_7, fi_2_2, fi_3_3, fi_3_4, fi_3_5, fi_4_1, fi_5_4, fi_5_5, fi_5_6, fi_5_7, fi_5_8, fi_5_9, fi_6_1, fi_7_3, fi_7_4]
      rw [e3]
      refine V.brF rfl (fun q => by have := (iZ_le (by omega) (by omega)).mp q; omega) ?_
      refine V.run 0 54 rfl hn trivial ?_
      try simp only [rc_1_0, rc_1_1, rc_1_2, rc_1_3, rc_1_4, rc_1_5, rc_2_0, rc_2_1, rc_2_2, rc_6_0, rc_6_1, rc_6_2, rc_6_3, rc_7_0, rc_7_1, rc_7_2, rc_7_3, rc_12_0, rc_12_1, rc_12_2, rc_12_3, rc_18_0, rc_18_1, rc_20_0, rc_20_1, rc_22_0, rc_23_0, rc_25_0, rc_27_0, rc_27_1, rc_27_2, rc_31_0, rc_31_1, rc_31_2, rc_55_0, rc_55_1, rc_55_2, rc_1_6, rc_1_7, rc_23_2, fi_0_1, fi_0_2, fi_0_3, fi_1_3, fi_1_4, fi_1_5, fi_1_6, fi_1_7, fi_2_2, fi_3_3, fi_3_4, fi_3_5, fi_4_1, fi_5_4, fi_5_5, fi_5_6, fi_5_7, fi_5_8, fi_5_9, fi_6_1, fi_7_3, fi_7_4]
      rcases hI with ⟨i1, i2⟩ | ⟨a, b, i1, i2, i3, i4, i5, i8⟩
      · rw [i1]
        refine V.brT rfl (by decide) ?_
        refine V.run 0 54 rfl hn trivial ?_
        refine V.run 0 54 rfl hn trivial ?_
        refine V.brF rfl (by decide) ?_
        refine k45 (fun a q1 q2 => ?_) _ _
        rw [i1] at q1
        have := (iZ_eq (by omega) (by omega)).mp q1
        omega
      · have hba := r1.2.1 _ (getD_mem2 (r := c) (i := a) (by omega))
        rw [i1]
        refine V.brF rfl (fun q => by have := (iZ_lt0 (by omega)).mp q; omega) ?_
        refine V.run 0 54 rfl hn ⟨in_N (n := 64) (by omega) (by decide), by (try simp only [fi_1_6]); rw [i1]; exact in_N (n := 64) (by omega) (by decide), trivial⟩ ?_
        try simp only [rc_1_0, rc_1_1, rc_1_2, rc_1_3, rc_1_4, rc_1_5, rc_2_0, rc_2_1, rc_2_2, rc_6_0, rc_6_1, rc_6_2, rc_6_3, rc_7_0, rc_7_1, rc_7_2, rc_7_3, rc_12_0, rc_12_1, rc_12_2, rc_12_3, rc_18_0, rc_18_1, rc_20_0, rc_20_1, rc_22_0, rc_23_0, rc_25_0, rc_27_0, rc_27_1, rc_27_2, rc_31_0, rc_31_1, rc_31_2, rc_55_0, rc_55_1, rc_55_2, rc_1_6, rc_1_7, rc_23_2, fi_0_1, fi_0_2, fi_0_3, fi_1_3, fi_1_4, fi_1_5, fi_1_6, fi_1_7, fi_2_2, fi_3_3, fi_3_4, fi_3_5, fi_4_1, fi_5_4, fi_5_5, fi_5_6, fi_5_7, fi_5_8, fi_5_9, fi_6_1, fi_7_3, fi_7_4]
        rw [i1, ix_N (by omega), ix_N (by omega), e1 i hil, e1 a i3]
        refine V.br rfl (fun (c2 : iZ (c.getD a 0) ≤ iZ (c.getD i 0)) => ?_) (fun (c2 : ¬ (iZ (c.getD a 0) ≤ iZ (c.getD i 0))) => ?_)
        · rw [iZ_le (by omega) (by omega)] at c2
          refine V.run 0 54 rfl hn trivial ?_
          refine V.brT rfl rfl ?_
          refine V.run 0 54 rfl hn trivial ?_
          refine V.brT rfl (by decide) ?_
          exact skip (Or.inr ⟨a, i1, i3, by omega⟩) _ _
        · rw [iZ_le (by omega) (by omega)] at c2
          refine V.run 0 54 rfl hn trivial ?_
          refine V.run 0 54 rfl hn trivial ?_
          refine V.brF rfl (by decide) ?_
          refine k45 (fun a' q1 q2 => ?_) _ _
          rw [i1] at q1
          have := (iZ_eq (by omega) (by omega)).mp q1
          rw [show a' = a by omega]
          omega
  exact key c.length 0 σ none none (by omega) (Or.inl ⟨h6, fun t ht => by omega⟩) Fr.rf (fun _ _ _ => rfl)
end CC27
section CC31
variable {d n ca cb tr : Nat} {Q : PQ} {σ : Mem}
theorem c_placeOf_31 (hn : 54 ≤ n) {kind : Nat} {z : Int} {c : List Nat} (hz : -2147483648 ≤ z ∧ z < 2147483648) (hc : chnN 31 σ kind c) (h1 : ∀ i : Nat, i < c.length → (c.getD i 0 : Int) = z → Q (some (.int (iZ i))) (rho ca cb tr) σ) (h0 : (∀ i : Nat, i < c.length → (c.getD i 0 : Int) ≠ z) → Q (some (.int (iZ (-1)))) (rho ca cb tr) σ) : Mt M_X1_placeOf d n n [.ref 31, .int (iZ z)] (rho ca cb tr) σ Q := by
  obtain ⟨r1, r2, r3, r4, r5⟩ := id hc
  have r5 : ∀ i, i < c.length → σ 32 i = iZ (c.getD i 0) := r5
  have hl := r1.1
  refine Mt.of rfl (by decide +kernel) tk_X1_placeOf (Nat.le_of_ble_eq_true rfl) ?_
  refine V.run 2 54 rfl hn trivial ?_
  have key : ∀ (j i : Nat), i + j = c.length → (∀ t, t < i → (c.getD t 0 : Int) ≠ z) → V M_X1_placeOf d n n none Q n (rho ca cb tr) σ 2 [some (.ref 31), some (.int (iZ (z))), some (.int (iZ (i)))] [] := by
    intro j
    induction j with
    | zero =>
      intro i hi hno
      refine V.run 0 54 rfl hn trivial ?_
      try simp only [rc_1_0, rc_1_1, rc_1_2, rc_1_3, rc_1_4, rc_1_5, rc_2_0, rc_2_1, rc_2_2, rc_6_0, rc_6_1, rc_6_2, rc_6_3, rc_7_0, rc_7_1, rc_7_2, rc_7_3, rc_12_0, rc_12_1, rc_12_2, rc_12_3, rc_18_0, rc_18_1, rc_20_0, rc_20_1, rc_22_0, rc_23_0, rc_25_0, rc_27_0, rc_27_1, rc_27_2, rc_31_0, rc_31_1, rc_31_2, rc_55_0, rc_55_1, rc_55_2, rc_1_6, rc_1_7, rc_23_2, fi_0_1, fi_0_2, fi_0_3, fi_1_3, fi_1_4, fi_1_5, fi_1_6, fi_1_7, fi_2_2, fi_3_3, fi_3_4, fi_3_5, fi_4_1, fi_5_4, fi_5_5, fi_5_6, fi_5_7, fi_5_8, fi_5_9, fi_6_1, fi_7_3, fi_7_4]
      rw [r3]
      refine V.brT rfl ((iZ_le (by omega) (by omega)).mpr (by omega)) ?_
      refine V.run 0 54 rfl hn trivial ?_
      refine V.ret (v := some (.int (iZ (-1)))) rfl rfl rfl rfl (h0 (fun t ht => hno t (by omega)))
    | succ j ih =>
      intro i hi hno
      have hb := r1.2.1 _ (getD_mem2 (r := c) (i := i) (by omega))
      refine V.run 0 54 rfl hn trivial ?_
      try simp only [rc_1_0, rc_1_1, rc_1_2, rc_1_3, rc_1_4, rc_1_5, rc_2_0, rc_2_1, rc_2_2, rc_6_0, rc_6_1, rc_6_2, rc_6_3, rc_7_0, rc_7_1, rc_7_2, rc_7_3, rc_12_0, rc_12_1, rc_12_2, rc_12_3, rc_18_0, rc_18_1, rc_20_0, rc_20_1, rc_22_0, rc_23_0, rc_25_0, rc_27_0, rc_27_1, rc_27_2, rc_31_0, rc_31_1, rc_31_2, rc_55_0, rc_55_1, rc_55_2, rc_1_6, rc_1_7, rc_23_2, fi_0_1, fi_0_2, fi_0_3, fi_1_3, fi_1_4, fi_1_5, fi_1_6, fi_1_7, fi_2_2, fi_3_3, fi_3_4, fi_3_5, fi_4_1, fi_5_4, fi_5_5, fi_5_6, fi_5_7, fi_5_8, fi_5_9, fi_6_1, fi_7_3, fi_7_4]
      rw [r3]
      refine V.brF rfl (fun q => by have := (iZ_le (by omega) (by omega)).mp q; omega) ?_
      refine V.run 0 54 rfl hn ⟨in_N (n := 64) (by omega) (by decide), trivial⟩ ?_
      try simp only [rc_1_0, rc_1_1, rc_1_2, rc_1_3, rc_1_4, rc_1_5, rc_2_0, rc_2_1, rc_2_2, rc_6_0, rc_6_1, rc_6_2, rc_6_3, rc_7_0, rc_7_1, rc_7_2, rc_7_3, rc_12_0, rc_12_1, rc_12_2, rc_12_3, rc_18_0, rc_18_1, rc_20_0, rc_20_1, rc_22_0, rc_23_0, rc_25_0, rc_27_0, rc_27_1, rc_27_2, rc_31_0, rc_31_1, rc_31_2, rc_55_0, rc_55_1, rc_55_2, rc_1_6, rc_1_7, rc_23_2, fi_0_1, fi_0_2, fi_0_3, fi_1_3, fi_1_4, fi_1_5, fi_1_6, fi_1_7, fi_2_2, fi_3_3, fi_3_4, fi_3_5, fi_4_1, fi_5_4, fi_5_5, fi_5_6, fi_5_7, fi_5_8, fi_5_9, fi_6_1, fi_7_3, fi_7_4]
      rw [ix_N (by omega), r5 i (by omega)]
      refine V.br rfl (fun (c2 : iZ (c.getD i 0) = iZ z) => ?_) (fun (c2 : ¬ (iZ (c.getD i 0) = iZ z)) => ?_)
      · rw [iZ_eq (by omega) (by omega)] at c2
        refine V.run 0 54 rfl hn trivial ?_
        refine V.ret (v := some (.int (iZ i))) rfl rfl rfl rfl (h1 i (by omega) c2)
      · rw [iZ_eq (by omega) (by omega)] at c2
        refine V.run 0 54 rfl hn trivial ?_
        have := ih (i + 1) (by omega) (fun t ht => by
          by_cases e : t = i
          · subst e; exact c2
          · exact hno t (by omega))
        rw [show ((i + 1 : Nat) : Int) = (i : Int) + 1 by omega, ← iZ_add] at this
        exact this
  exact key c.length 0 (by omega) (fun t ht => by omega)
theorem c_letsAdd_31 (hn : 54 ≤ n) (hd : 1 ≤ d) {kind i j : Nat} {c : List Nat} (hc : chnN 31 σ kind c) (hi : i < c.length) (hj : j < c.length) (hle : c.getD i 0 ≤ c.getD j 0) (h1 : leT kind c i j → Q (some (.int 1)) (rho ca cb tr) σ) (h0 : ¬ leT kind c i j → Q (some (.int 0)) (rho ca cb tr) σ) : Mt M_X1_letsAdd d n n [.ref 31, .int (iZ i), .int (iZ j)] (rho ca cb tr) σ Q := by
  obtain ⟨r1, r2, r3, r4, r5⟩ := id hc
  have r5 : ∀ i, i < c.length → σ 32 i = iZ (c.getD i 0) := r5
  have hl := r1.1
  have hbi := r1.2.1 _ (getD_mem2 (r := c) (i := i) (by omega))
  have hbj := r1.2.1 _ (getD_mem2 (r := c) (i := j) (by omega))
  refine Mt.of rfl (by decide +kernel) tk_X1_letsAdd (Nat.le_of_ble_eq_true rfl) ?_
  refine V.run 0 54 rfl hn trivial ?_
  try simp only [rc_1_0, rc_1_1, rc_1_2, rc_1_3, rc_1_4, rc_1_5, rc_2_0, rc_2_1, rc_2_2, rc_6_0, rc_6_1, rc_6_2, rc_6_3, rc_7_0, rc_7_1, rc_7_2, rc_7_3, rc_12_0, rc_12_1, rc_12_2, rc_12_3, rc_18_0, rc_18_1, rc_20_0, rc_20_1, rc_22_0, rc_23_0, rc_25_0, rc_27_0, rc_27_1, rc_27_2, rc_31_0, rc_31_1, rc_31_2, rc_55_0, rc_55_1, rc_55_2, rc_1_6, rc_1_7, rc_23_2, fi_0_1, fi_0_2, fi_0_3, fi_1_3, fi_1_4, fi_1_5, fi_1_6, fi_1_7, fi_2_2, fi_3_3, fi_3_4, fi_3_5, fi_4_1, fi_5_4, fi_5_5, fi_5_6, fi_5_7, fi_5_8, fi_5_9, fi_6_1, fi_7_3, fi_7_4]
  rw [r4]
  refine V.br rfl (fun (c1 : iZ kind = iZ 1) => ?_) (fun (c1 : ¬ (iZ kind = iZ 1)) => ?_)
  · rw [iZ_eq (by omega) (by omega)] at c1
    refine V.run 0 54 rfl hn trivial ?_
    try simp only [rc_1_0, rc_1_1, rc_1_2, rc_1_3, rc_1_4, rc_1_5, rc_2_0, rc_2_1, rc_2_2, rc_6_0, rc_6_1, rc_6_2, rc_6_3, rc_7_0, rc_7_1, rc_7_2, rc_7_3, rc_12_0, rc_12_1, rc_12_2, rc_12_3, rc_18_0, rc_18_1, rc_20_0, rc_20_1, rc_22_0, rc_23_0, rc_25_0, rc_27_0, rc_27_1, rc_27_2, rc_31_0, rc_31_1, rc_31_2, rc_55_0, rc_55_1, rc_55_2, rc_1_6, rc_1_7, rc_23_2, fi_0_1, fi_0_2, fi_0_3, fi_1_3, fi_1_4, fi_1_5, fi_1_6, fi_1_7, fi_2_2, fi_3_3, fi_3_4, fi_3_5, fi_4_1, fi_5_4, fi_5_5, fi_5_6, fi_5_7, fi_5_8, fi_5_9, fi_6_1, fi_7_3, fi_7_4]
    rw [r3, iZ_sub]
    refine V.br rfl (fun (c2 : iZ j = iZ ((c.length : Int) - 1)) => ?_) (fun (c2 : ¬ (iZ j = iZ ((c.length : Int) - 1))) => ?_)
    · rw [iZ_eq (by omega) (by omega)] at c2
      refine V.run 0 54 rfl hn trivial ?_
      refine V.ret (v := some (.int 1)) rfl rfl ⟨rfl, Or.inr rfl⟩ rfl (h1 ⟨fun _ => by omega, fun h => by omega⟩)
    · rw [iZ_eq (by omega) (by omega)] at c2
      refine V.run 0 54 rfl hn trivial ?_
      refine V.ret (v := some (.int 0)) rfl rfl ⟨rfl, Or.inl rfl⟩ rfl (h0 (fun h => c2 (by have := h.1 (by omega); omega)))
  · rw [iZ_eq (by omega) (by omega)] at c1
    have yes : leT kind c i j → V M_X1_letsAdd d n n none Q n (rho ca cb tr) σ 57 [some (.ref 31), some (.int (iZ (i))), some (.int (iZ (j)))] [] := by
      intro h
      refine V.run 0 54 rfl hn trivial ?_
      refine V.ret (v := some (.int 1)) rfl rfl ⟨rfl, Or.inr rfl⟩ rfl (h1 h)
    refine V.run 0 54 rfl hn trivial ?_
    refine V.br rfl (fun (c2 : iZ i = iZ j) => ?_) (fun (c2 : ¬ (iZ i = iZ j)) => ?_)
    · rw [iZ_eq (by omega) (by omega)] at c2
      exact yes ⟨fun h => by omega, fun _ => Or.inl (by omega)⟩
    · rw [iZ_eq (by omega) (by omega)] at c2
      refine V.run 0 54 rfl hn trivial ?_
      try simp only [rc_1_0, rc_1_1, rc_1_2, rc_1_3, rc_1_4, rc_1_5, rc_2_0, rc_2_1, rc_2_2, rc_6_0, rc_6_1, rc_6_2, rc_6_3, rc_7_0, rc_7_1, rc_7_2, rc_7_3, rc_12_0, rc_12_1, rc_12_2, rc_12_3, rc_18_0, rc_18_1, rc_20_0, rc_20_1, rc_22_0, rc_23_0, rc_25_0, rc_27_0, rc_27_1, rc_27_2, rc_31_0, rc_31_1, rc_31_2, rc_55_0, rc_55_1, rc_55_2, rc_1_6, rc_1_7, rc_23_2, fi_0_1, fi_0_2, fi_0_3, fi_1_3, fi_1_4, fi_1_5, fi_1_6, fi_1_7, fi_2_2, fi_3_3, fi_3_4, fi_3_5, fi_4_1, fi_5_4, fi_5_5, fi_5_6, fi_5_7, fi_5_8, fi_5_9, fi_6_1, fi_7_3, fi_7_4]
      rw [r4]
      refine V.br rfl (fun (c3 : iZ kind = iZ 3) => ?_) (fun (c3 : ¬ (iZ kind = iZ 3)) => ?_)
      · rw [iZ_eq (by omega) (by omega)] at c3
        refine V.run 0 54 rfl hn ⟨in_N (n := 64) (by omega) (by decide), in_N (n := 64) (by omega) (by decide), trivial⟩ ?_
        try simp only [rc_1_0, rc_1_1, rc_1_2, rc_1_3, rc_1_4, rc_1_5, rc_2_0, rc_2_1, rc_2_2, rc_6_0, rc_6_1, rc_6_2, rc_6_3, rc_7_0, rc_7_1, rc_7_2, rc_7_3, rc_12_0, rc_12_1, rc_12_2, rc_12_3, rc_18_0, rc_18_1, rc_20_0, rc_20_1, rc_22_0, rc_23_0, rc_25_0, rc_27_0, rc_27_1, rc_27_2, rc_31_0, rc_31_1, rc_31_2, rc_55_0, rc_55_1, rc_55_2, rc_1_6, rc_1_7, rc_23_2, fi_0_1, fi_0_2, fi_0_3, fi_1_3, fi_1_4, fi_1_5, fi_1_6, fi_1_7, fi_2_2, fi_3_3, fi_3_4, fi_3_5, fi_4_1, fi_5_4, fi_5_5, fi_5_6, fi_5_7, fi_5_8, fi_5_9, fi_6_1, fi_7_3, fi_7_4]
        rw [ix_N (by omega), ix_N (by omega), r5 i hi, r5 j hj, iZ_sub]
        refine V.cv (lo := 54) (d' := d - 1) rfl rfl ok_X1_placeOf lk_1_X1_placeOf rfl rfl rfl hn (by omega) (Nat.le_refl _) (Nat.le_refl _) ((c_placeOf_31 hn (by omega) hc (fun t ht e => ?_) (fun hno => ?_)))
        · refine V.brF rfl (fun q => by have := (iZ_lt0 (by omega)).mp q; omega) ?_
          refine yes ⟨fun h => by omega, fun _ => Or.inr ?_⟩
          rw [show c.getD j 0 - c.getD i 0 = c.getD t 0 by omega]
          exact getD_mem2 ht
        · refine V.brT rfl (by decide) ?_
          refine V.run 0 54 rfl hn trivial ?_
          have hn0 : ¬ leT kind c i j := fun h => by
            rcases h.2 (by omega) with q | q
            · omega
            · obtain ⟨t, ht, e⟩ := mem_getD q
              exact hno t ht (by omega)
          refine V.ret (v := some (.int 0)) rfl rfl ⟨rfl, Or.inl rfl⟩ rfl (h0 hn0)
      · rw [iZ_eq (by omega) (by omega)] at c3
        exact yes ⟨fun h => by omega, fun h => by omega⟩
theorem c_findSum_31 (hn : 54 ≤ n) (hd : 2 ≤ d) {kind v : Nat} {c : List Nat} (hv : 1 ≤ v ∧ v ≤ 99999) (hc : chnN 31 σ kind c) (hQ : ∀ σ', fsI kind c v c.length (σ' 31 6) (σ' 31 7) → Fr [31] σ σ' → (∀ j, j ≠ 6 → j ≠ 7 → σ' 31 j = σ 31 j) → Q none (rho ca cb tr) σ') : Mt M_X1_findSum d n n [.ref 31, .int (iZ v)] (rho ca cb tr) σ Q := by
  obtain ⟨r1, r2, r3, r4, r5⟩ := id hc
  have r5 : ∀ i, i < c.length → σ 32 i = iZ (c.getD i 0) := r5
  have hl := r1.1
  refine Mt.of rfl (by decide +kernel) tk_X1_findSum (Nat.le_of_ble_eq_true rfl) ?_
  refine V.run 12 54 rfl hn trivial ?_
  have key : ∀ (j i : Nat) (σ1 : Mem) (x3 x4 x5 : Option Value), i + j = c.length → fsI kind c v i (σ1 31 6) (σ1 31 7) → Fr [31] σ σ1 → (∀ j, j ≠ 6 → j ≠ 7 → σ1 31 j = σ 31 j) → V M_X1_findSum d n n none Q n (rho ca cb tr) σ1 12 [some (.ref 31), some (.int (iZ (v))), some (.int (iZ (i))), x3, x4, x5] [] := by
    intro j
    induction j with
    | zero =>
      intro i σ1 x3 x4 x5 hi hI hf ho
      have e3 : σ1 31 3 = iZ c.length := by rw [ho 3 (by decide) (by decide)]; exact r3
      have e : i = c.length := by omega
      subst e
      refine V.run 0 54 rfl hn trivial ?_
      try simp only [rc_1_0, rc_1_1, rc_1_2, rc_1_3, rc_1_4, rc_1_5, rc_2_0, rc_2_1, rc_2_2, rc_6_0, rc_6_1, rc_6_2, rc_6_3, rc_7_0, rc_7_1, rc_7_2, rc_7_3, rc_12_0, rc_12_1, rc_12_2, rc_12_3, rc_18_0, rc_18_1, rc_20_0, rc_20_1, rc_22_0, rc_23_0, rc_25_0, rc_27_0, rc_27_1, rc_27_2, rc_31_0, rc_31_1, rc_31_2, rc_55_0, rc_55_1, rc_55_2, rc_1_6, rc_1_7, rc_23_2, fi_0_1, fi_0_2, fi_0_3, fi_1_3, fi_1_4, fi_1_5, fi_1_6, fi_1_7, fi_2_2, fi_3_3, fi_3_4, fi_3_5, fi_4_1, fi_5_4, fi_5_5, fi_5_6, fi_5_7, fi_5_8, fi_5_9, fi_6_1, fi_7_3, fi_7_4]
      rw [e3]
      refine V.brT rfl ((iZ_le (by omega) (by omega)).mpr (by omega)) ?_
      refine V.ret (v := none) rfl rfl rfl rfl (hQ σ1 hI hf ho)
    | succ j ih =>
      intro i σ1 x3 x4 x5 hi hI hf ho
      have hil : i < c.length := by omega
      have e3 : σ1 31 3 = iZ c.length := by rw [ho 3 (by decide) (by decide)]; exact r3
      have e1 : ∀ t, t < c.length → σ1 32 t = iZ (c.getD t 0) := fun t ht => by rw [hf 32 (by decide)]; exact r5 t ht
      have hc1 : chnN 31 σ1 kind c := ⟨r1, r2, e3, by rw [ho 4 (by decide) (by decide)]; exact r4, e1⟩
      have hb := r1.2.1 _ (getD_mem2 (r := c) (i := i) (by omega))
      have k112 : ∀ (σ2 : Mem) (x3 x4 x5 : Option Value), fsI kind c v (i + 1) (σ2 31 6) (σ2 31 7) → Fr [31] σ σ2 → (∀ j, j ≠ 6 → j ≠ 7 → σ2 31 j = σ 31 j) → V M_X1_findSum d n n none Q n (rho ca cb tr) σ2 112 [some (.ref 31), some (.int (iZ (v))), some (.int (iZ (i))), x3, x4, x5] [] := by
        intro σ2 x3 x4 x5 g1 g2 g3
        refine V.run 0 54 rfl hn trivial ?_
        have := ih (i + 1) σ2 x3 x4 x5 (by omega) g1 g2 g3
        rw [show ((i + 1 : Nat) : Int) = (i : Int) + 1 by omega, ← iZ_add] at this
        exact this
      -- nothing new at i
      have skip : (¬ validS kind c v (c.getD i 0) ∨ (∃ a b : Nat, σ1 31 6 = iZ a ∧ a < c.length ∧ c.getD i 0 ≤ c.getD a 0)) → ∀ (x3 x4 x5 : Option Value), V M_X1_findSum d n n none Q n (rho ca cb tr) σ1 112 [some (.ref 31), some (.int (iZ (v))), some (.int (iZ (i))), x3, x4, x5] [] := by
        intro hs x3 x4 x5
        refine k112 σ1 x3 x4 x5 ?_ hf ho
        rcases hI with ⟨i1, i2⟩ | ⟨a, b, i1, i2, i3, i4, i5, i6, i7, i8⟩
        · left
          refine ⟨i1, fun t ht => ?_⟩
          by_cases e : t = i
          · subst e
            rcases hs with hs | ⟨a, b, q1, q2, q3⟩
            · exact hs
            · rw [i1] at q1
              have := (iZ_eq (by omega) (by omega)).mp q1
              omega
          · exact i2 t (by omega)
        · right
          refine ⟨a, b, i1, i2, i3, i4, i5, i6, i7, fun t ht hvt => ?_⟩
          by_cases e : t = i
          · subst e
            rcases hs with hs | ⟨a', b', q1, q2, q3⟩
            · exact absurd hvt hs
            · rw [i1] at q1
              have := (iZ_eq (by omega) (by omega)).mp q1
              rw [show a' = a by omega] at q3
              exact q3
          · exact i8 t (by omega) hvt
      have k79 : (∀ a b : Nat, σ1 31 6 = iZ a → a < c.length → c.getD a 0 < c.getD i 0) → (c.getD i 0 : Int) ≤ (v : Int) - (c.getD i 0 : Int) → ∀ (y4 : Int32) (x5 : Option Value), V M_X1_findSum d n n none Q n (rho ca cb tr) σ1 79 [some (.ref 31), some (.int (iZ (v))), some (.int (iZ (i))), some (.int (iZ (((v : Int) - (c.getD i 0 : Int))))), some (.int (y4)), x5] [] := by
        intro hbet hle y4 x5
        refine V.run 0 54 rfl hn trivial ?_
        refine V.cv (lo := 54) (d' := d - 1) rfl rfl ok_X1_placeOf lk_1_X1_placeOf rfl rfl rfl hn (by omega) (Nat.le_refl _) (Nat.le_refl _) ((c_placeOf_31 hn (by omega) hc1 (fun t ht e => ?_) (fun hno => ?_)))
        · have hle2 : c.getD i 0 ≤ c.getD t 0 := by omega
          have hsum : c.getD i 0 + c.getD t 0 = v := by omega
          have hvl := valid_leT r1 hil ht hsum hle2
          refine V.run 0 54 rfl hn trivial ?_
          refine V.brF rfl (fun q => by have := (iZ_lt0 (by omega)).mp q; omega) ?_
          refine V.run 0 54 rfl hn trivial ?_
          refine V.cv (lo := 54) (d' := d - 1) rfl rfl ok_X1_letsAdd lk_1_X1_letsAdd rfl rfl rfl hn (by omega) (Nat.le_refl _) (Nat.le_refl _) ((c_letsAdd_31 hn (by omega) hc1 hil ht hle2 (fun g => ?_) (fun g => ?_)))
          · refine V.brF rfl (by decide) ?_
            refine V.run 112 54 rfl hn trivial ?_
            refine k112 _ _ _ _ (Or.inr ⟨i, t, ?_, ?_, hil, ht, hsum, hle2, g, fun s hs hvs => ?_⟩) (Fr.putT (Fr.putT hf (by simp)) (by simp)) (fun j p q => ?_)
            · rw [up_nat (by decide), up_at]
            · rw [up_at]
            · by_cases e2 : s = i
              · rw [e2]; exact Nat.le_refl _
              · rcases hI with ⟨i1, i2⟩ | ⟨a, b, i1, i2, i3, i4, i5, i6, i7, i8⟩
                · exact absurd hvs (i2 s (by omega))
                · have := i8 s (by omega) hvs
                  have := hbet a b i1 i3
                  omega
            · rw [up_nat q, up_nat p]; exact ho j p q
          · refine V.brT rfl rfl ?_
            exact skip (Or.inl (fun q => g (hvl.mpr q))) _ _ _
        · refine V.run 0 54 rfl hn trivial ?_
          refine V.brT rfl (by decide) ?_
          refine skip (Or.inl (fun q => ?_)) _ _ _
          obtain ⟨t, ht, e⟩ := mem_getD q.2.2.1
          have := q.2.1
          exact hno t ht (by omega)
      have k61 : ∀ (x4 : Option Value) (b4 : Bool), x4 = some (.int (if b4 = true then 1 else 0)) → (b4 = true → ∀ a b : Nat, σ1 31 6 = iZ a → a < c.length → c.getD a 0 < c.getD i 0) → (b4 = false → ∃ a b : Nat, σ1 31 6 = iZ a ∧ a < c.length ∧ c.getD i 0 ≤ c.getD a 0) → ∀ x5 : Option Value, V M_X1_findSum d n n none Q n (rho ca cb tr) σ1 61 [some (.ref 31), some (.int (iZ (v))), some (.int (iZ (i))), some (.int (iZ (((v : Int) - (c.getD i 0 : Int))))), x4, x5] [] := by
        intro x4 b4 h4 ht4 hf4 x5
        subst h4
        refine V.run 0 54 rfl hn ⟨in_N (n := 64) (by omega) (by decide), trivial⟩ ?_
        try simp only [rc_1_0, rc_1_1, rc_1_2, rc_1_3, rc_1_4, rc_1_5, rc_2_0, rc_2_1, rc_2_2, rc_6_0, rc_6_1, rc_6_2, rc_6_3, rc_7_0, rc_7_1, rc_7_2, rc_7_3, rc_12_0, rc_12_1, rc_12_2, rc_12_3, rc_18_0, rc_18_1, rc_20_0, rc_20_1, rc_22_0, rc_23_0, rc_25_0, rc_27_0, rc_27_1, rc_27_2, rc_31_0, rc_31_1, rc_31_2, rc_55_0, rc_55_1, rc_55_2, rc_1_6, rc_1_7, rc_23_2, fi_0_1, fi_0_2, fi_0_3, fi_1_3, fi_1_4, fi_1_5, fi_1_6, fi_1_7, fi_2_2, fi_3_3, fi_3_4, fi_3_5, fi_4_1, fi_5_4, fi_5_5, fi_5_6, fi_5_7, fi_5_8, fi_5_9, fi_6_1, fi_7_3, fi_7_4]
        rw [ix_N (by omega), e1 i hil]
        refine V.br rfl (fun (c2 : iZ ((v : Int) - (c.getD i 0 : Int)) < iZ (c.getD i 0)) => ?_) (fun (c2 : ¬ (iZ ((v : Int) - (c.getD i 0 : Int)) < iZ (c.getD i 0))) => ?_)
        · rw [iZ_lt (by omega) (by omega)] at c2
          refine skip (Or.inl (fun q => ?_)) _ _ _
          have := q.2.2.2.1
          omega
        · rw [iZ_lt (by omega) (by omega)] at c2
          refine V.run 0 54 rfl hn trivial ?_
          cases b4 with
          | true =>
            refine V.brF rfl (by decide) ?_
            exact k79 (ht4 rfl) (by omega) _ _
          | false =>
            refine V.brT rfl rfl ?_
            refine V.run 0 54 rfl hn trivial ?_
            exact skip (Or.inr (hf4 rfl)) _ _ _
      refine V.run 0 54 rfl hn trivial ?_
      try simp only [rc_1_0, rc_1_1, rc_1_2, rc_1_3, rc_1_4, rc_1_5, rc_2_0, rc_2_1, rc_2_2, rc_6_0, rc_6_1, rc_6_2, rc_6_3, rc_7_0, rc_7_1, rc_7_2, rc_7_3, rc_12_0, rc_12_1, rc_12_2, rc_12_3, rc_18_0, rc_18_1, rc_20_0, rc_20_1, rc_22_0, rc_23_0, rc_25_0, rc_27_0, rc_27_1, rc_27_2, rc_31_0, rc_31_1, rc_31_2, rc_55_0, rc_55_1, rc_55_2, rc_1_6, rc_1_7, rc_23_2, fi_0_1, fi_0_2, fi_0_3, fi_1_3, fi_1_4, fi_1_5, fi_1_6, fi_1_7, fi_2_2, fi_3_3, fi_3_4, fi_3_5, fi_4_1, fi_5_4, fi_5_5, fi_5_6, fi_5_7, fi_5_8, fi_5_9, fi_6_1, fi_7_3, fi_7_4]
      rw [e3]
      refine V.brF rfl (fun q => by have := (iZ_le (by omega) (by omega)).mp q; omega) ?_
      refine V.run 0 54 rfl hn ⟨in_N (n := 64) (by omega) (by decide), trivial⟩ ?_
      try simp only [rc_1_0, rc_1_1, rc_1_2, rc_1_3, rc_1_4, rc_1_5, rc_2_0, rc_2_1, rc_2_2, rc_6_0, rc_6_1, rc_6_2, rc_6_3, rc_7_0, rc_7_1, rc_7_2, rc_7_3, rc_12_0, rc_12_1, rc_12_2, rc_12_3, rc_18_0, rc_18_1, rc_20_0, rc_20_1, rc_22_0, rc_23_0, rc_25_0, rc_27_0, rc_27_1, rc_27_2, rc_31_0, rc_31_1, rc_31_2, rc_55_0, rc_55_1, rc_55_2, rc_1_6, rc_1_7, rc_23_2, fi_0_1, fi_0_2, fi_0_3, fi_1_3, fi_1_4, fi_1_5, fi_1_6, fi_1_7, fi_2_2, fi_3_3, fi_3_4, fi_3_5, fi_4_1, fi_5_4, fi_5_5, fi_5_6, fi_5_7, fi_5_8, fi_5_9, fi_6_1, fi_7_3, fi_7_4]
      rw [ix_N (by omega), e1 i hil, iZ_sub]
      rcases hI with ⟨i1, i2⟩ | ⟨a, b, i1, i2, i3, i4, i5, i6, i7, i8⟩
      · rw [i1]
        refine V.brT rfl (by decide) ?_
        refine V.run 0 54 rfl hn trivial ?_
        refine V.run 61 54 rfl hn trivial ?_
        refine k61 _ true rfl (fun _ a b q1 q2 => ?_) (fun h => by cases h) _
        rw [i1] at q1
        have := (iZ_eq (by omega) (by omega)).mp q1
        omega
      · have hba := r1.2.1 _ (getD_mem2 (r := c) (i := a) (by omega))
        have same : ∀ a' : Nat, σ1 31 6 = iZ a' → a' < c.length → a' = a := fun a' q1 q2 => by
          rw [i1] at q1
          have := (iZ_eq (by omega) (by omega)).mp q1
          omega
        rw [i1]
        refine V.brF rfl (fun q => by have := (iZ_lt0 (by omega)).mp q; omega) ?_
        refine V.run 0 54 rfl hn ⟨in_N (n := 64) (by omega) (by decide), by (try simp only [fi_1_6]); rw [i1]; exact in_N (n := 64) (by omega) (by decide), trivial⟩ ?_
        try simp only [rc_1_0, rc_1_1, rc_1_2, rc_1_3, rc_1_4, rc_1_5, rc_2_0, rc_2_1, rc_2_2, rc_6_0, rc_6_1, rc_6_2, rc_6_3, rc_7_0, rc_7_1, rc_7_2, rc_7_3, rc_12_0, rc_12_1, rc_12_2, rc_12_3, rc_18_0, rc_18_1, rc_20_0, rc_20_1, rc_22_0, rc_23_0, rc_25_0, rc_27_0, rc_27_1, rc_27_2, rc_31_0, rc_31_1, rc_31_2, rc_55_0, rc_55_1, rc_55_2, rc_1_6, rc_1_7, rc_23_2, fi_0_1, fi_0_2, fi_0_3, fi_1_3, fi_1_4, fi_1_5, fi_1_6, fi_1_7, fi_2_2, fi_3_3, fi_3_4, fi_3_5, fi_4_1, fi_5_4, fi_5_5, fi_5_6, fi_5_7, fi_5_8, fi_5_9, fi_6_1, fi_7_3, fi_7_4]
        rw [i1, ix_N (by omega), ix_N (by omega), e1 i hil, e1 a i3]
        refine V.br rfl (fun (c2 : iZ (c.getD i 0) ≤ iZ (c.getD a 0)) => ?_) (fun (c2 : ¬ (iZ (c.getD i 0) ≤ iZ (c.getD a 0))) => ?_)
        · rw [iZ_le (by omega) (by omega)] at c2
          refine V.run 61 54 rfl hn trivial ?_
          exact k61 _ false rfl (fun h => by cases h) (fun _ => ⟨a, b, i1, i3, by omega⟩) _
        · rw [iZ_le (by omega) (by omega)] at c2
          refine V.run 0 54 rfl hn trivial ?_
          refine V.run 61 54 rfl hn trivial ?_
          refine k61 _ true rfl (fun _ a' b' q1 q2 => ?_) (fun h => by cases h) _
          rw [same a' q1 q2]
          omega
  refine key c.length 0 _ none none none (by omega) (Or.inl ⟨?_, fun t ht => by omega⟩) (Fr.putT (Fr.put (by simp)) (by simp)) (fun j p q => by rw [up_nat q, up_nat p])
  rw [up_nat (by decide), up_at]
theorem c_findDiff_31 (hn : 54 ≤ n) (hd : 2 ≤ d) {kind v : Nat} {c : List Nat} (hv : 1 ≤ v ∧ v ≤ 99999) (hc : chnN 31 σ kind c) (h6 : σ 31 6 = iZ (-1)) (hQ : ∀ σ', fdI c v c.length (σ' 31 6) (σ' 31 7) → Fr [31] σ σ' → (∀ j, j ≠ 6 → j ≠ 7 → σ' 31 j = σ 31 j) → Q none (rho ca cb tr) σ') : Mt M_X1_findDifference d n n [.ref 31, .int (iZ v)] (rho ca cb tr) σ Q := by
  obtain ⟨r1, r2, r3, r4, r5⟩ := id hc
  have r5 : ∀ i, i < c.length → σ 32 i = iZ (c.getD i 0) := r5
  have hl := r1.1
  refine Mt.of rfl (by decide +kernel) tk_X1_findDifference (Nat.le_of_ble_eq_true rfl) ?_
  refine V.run 2 54 rfl hn trivial ?_
  have key : ∀ (j i : Nat) (σ1 : Mem) (x3 x4 : Option Value), i + j = c.length → fdI c v i (σ1 31 6) (σ1 31 7) → Fr [31] σ σ1 → (∀ j, j ≠ 6 → j ≠ 7 → σ1 31 j = σ 31 j) → V M_X1_findDifference d n n none Q n (rho ca cb tr) σ1 2 [some (.ref 31), some (.int (iZ (v))), some (.int (iZ (i))), x3, x4] [] := by
    intro j
    induction j with
    | zero =>
      intro i σ1 x3 x4 hi hI hf ho
      have e3 : σ1 31 3 = iZ c.length := by rw [ho 3 (by decide) (by decide)]; exact r3
      have e : i = c.length := by omega
      subst e
      refine V.run 0 54 rfl hn trivial ?_
      try simp only [rc_1_0, rc_1_1, rc_1_2, rc_1_3, rc_1_4, rc_1_5, rc_2_0, rc_2_1, rc_2_2, rc_6_0, rc_6_1, rc_6_2, rc_6_3, rc_7_0, rc_7_1, rc_7_2, rc_7_3, rc_12_0, rc_12_1, rc_12_2, rc_12_3, rc_18_0, rc_18_1, rc_20_0, rc_20_1, rc_22_0, rc_23_0, rc_25_0, rc_27_0, rc_27_1, rc_27_2, rc_31_0, rc_31_1, rc_31_2, rc_55_0, rc_55_1, rc_55_2, rc_1_6, rc_1_7, rc_23_2, fi_0_1, fi_0_2, fi_0_3, fi_1_3, fi_1_4, fi_1_5, fi_1_6, fi_1_7, fi_2_2, fi_3_3, fi_3_4, fi_3_5, fi_4_1, fi_5_4, fi_5_5, fi_5_6, fi_5_7, fi_5_8, fi_5_9, fi_6_1, fi_7_3, fi_7_4]
      rw [e3]
      refine V.brT rfl ((iZ_le (by omega) (by omega)).mpr (by omega)) ?_
      refine V.ret (v := none) rfl rfl rfl rfl (hQ σ1 hI hf ho)
    | succ j ih =>
      intro i σ1 x3 x4 hi hI hf ho
      have hil : i < c.length := by omega
      have e3 : σ1 31 3 = iZ c.length := by rw [ho 3 (by decide) (by decide)]; exact r3
      have e1 : ∀ t, t < c.length → σ1 32 t = iZ (c.getD t 0) := fun t ht => by rw [hf 32 (by decide)]; exact r5 t ht
      have hc1 : chnN 31 σ1 kind c := ⟨r1, r2, e3, by rw [ho 4 (by decide) (by decide)]; exact r4, e1⟩
      have hb := r1.2.1 _ (getD_mem2 (r := c) (i := i) (by omega))
      have k79 : ∀ (σ2 : Mem) (x3 x4 : Option Value), fdI c v (i + 1) (σ2 31 6) (σ2 31 7) → Fr [31] σ σ2 → (∀ j, j ≠ 6 → j ≠ 7 → σ2 31 j = σ 31 j) → V M_X1_findDifference d n n none Q n (rho ca cb tr) σ2 79 [some (.ref 31), some (.int (iZ (v))), some (.int (iZ (i))), x3, x4] [] := by
        intro σ2 x3 x4 g1 g2 g3
        refine V.run 0 54 rfl hn trivial ?_
        have := ih (i + 1) σ2 x3 x4 (by omega) g1 g2 g3
        rw [show ((i + 1 : Nat) : Int) = (i : Int) + 1 by omega, ← iZ_add] at this
        exact this
      have skip : (c.getD i 0 + v ∉ c ∨ (∃ a : Nat, σ1 31 6 = iZ a ∧ a < c.length ∧ c.getD a 0 ≤ c.getD i 0)) → ∀ (x3 x4 : Option Value), V M_X1_findDifference d n n none Q n (rho ca cb tr) σ1 79 [some (.ref 31), some (.int (iZ (v))), some (.int (iZ (i))), x3, x4] [] := by
        intro hs x3 x4
        refine k79 σ1 x3 x4 ?_ hf ho
        rcases hI with ⟨i1, i2⟩ | ⟨a, b, i1, i2, i3, i4, i5, i8⟩
        · left
          refine ⟨i1, fun t ht => ?_⟩
          by_cases e : t = i
          · subst e
            rcases hs with hs | ⟨a, q1, q2, q3⟩
            · exact hs
            · rw [i1] at q1
              have := (iZ_eq (by omega) (by omega)).mp q1
              omega
          · exact i2 t (by omega)
        · right
          refine ⟨a, b, i1, i2, i3, i4, i5, fun t ht hvt => ?_⟩
          by_cases e : t = i
          · subst e
            rcases hs with hs | ⟨a', q1, q2, q3⟩
            · exact absurd hvt hs
            · rw [i1] at q1
              have := (iZ_eq (by omega) (by omega)).mp q1
              rw [show a' = a by omega] at q3
              exact q3
          · exact i8 t (by omega) hvt
      have k45 : (∀ a : Nat, σ1 31 6 = iZ a → a < c.length → c.getD i 0 < c.getD a 0) → ∀ (y3 : Int32) (x4 : Option Value), V M_X1_findDifference d n n none Q n (rho ca cb tr) σ1 45 [some (.ref 31), some (.int (iZ (v))), some (.int (iZ (i))), some (.int (y3)), x4] [] := by
        intro hbet y3 x4
        refine V.run 0 54 rfl hn ⟨in_N (n := 64) (by omega) (by decide), trivial⟩ ?_
        try simp only [rc_1_0, rc_1_1, rc_1_2, rc_1_3, rc_1_4, rc_1_5, rc_2_0, rc_2_1, rc_2_2, rc_6_0, rc_6_1, rc_6_2, rc_6_3, rc_7_0, rc_7_1, rc_7_2, rc_7_3, rc_12_0, rc_12_1, rc_12_2, rc_12_3, rc_18_0, rc_18_1, rc_20_0, rc_20_1, rc_22_0, rc_23_0, rc_25_0, rc_27_0, rc_27_1, rc_27_2, rc_31_0, rc_31_1, rc_31_2, rc_55_0, rc_55_1, rc_55_2, rc_1_6, rc_1_7, rc_23_2, fi_0_1, fi_0_2, fi_0_3, fi_1_3, fi_1_4, fi_1_5, fi_1_6, fi_1_7, fi_2_2, fi_3_3, fi_3_4, fi_3_5, fi_4_1, fi_5_4, fi_5_5, fi_5_6, fi_5_7, fi_5_8, fi_5_9, fi_6_1, fi_7_3, fi_7_4]
        rw [ix_N (by omega), e1 i hil, iZ_add]
        refine V.cv (lo := 54) (d' := d - 1) rfl rfl ok_X1_placeOf lk_1_X1_placeOf rfl rfl rfl hn (by omega) (Nat.le_refl _) (Nat.le_refl _) ((c_placeOf_31 hn (by omega) hc1 (fun t ht e => ?_) (fun hno => ?_)))
        · refine V.run 0 54 rfl hn trivial ?_
          refine V.run 0 54 rfl hn trivial ?_
          refine V.brF rfl (fun q => by have := (iZ_lt0 (by omega)).mp q; omega) ?_
          refine V.run 79 54 rfl hn trivial ?_
          refine k79 _ _ _ (Or.inr ⟨i, t, ?_, ?_, hil, ht, by omega, fun s hs hvs => ?_⟩) (Fr.putT (Fr.putT hf (by simp)) (by simp)) (fun j p q => ?_)
          · rw [up_nat (by decide), up_at]
          · rw [up_at]
          · by_cases e2 : s = i
            · rw [e2]; exact Nat.le_refl _
            · rcases hI with ⟨i1, i2⟩ | ⟨a, b, i1, i2, i3, i4, i5, i8⟩
              · exact absurd hvs (i2 s (by omega))
              · have := i8 s (by omega) hvs
                have := hbet a i1 i3
                omega
          · rw [up_nat q, up_nat p]; exact ho j p q
        · refine V.run 0 54 rfl hn trivial ?_
          refine V.run 0 54 rfl hn trivial ?_
          refine V.brT rfl (by decide) ?_
          refine skip (Or.inl (fun q => ?_)) _ _
          obtain ⟨t, ht, e⟩ := mem_getD q
          exact hno t ht (by omega)
      refine V.run 0 54 rfl hn trivial ?_
      try simp only [rc_1_0, rc_1_1, rc_1_2, rc_1_3, rc_1_4, rc_1_5, rc_2_0, rc_2_1, rc_2_2, rc_6_0, rc_6_1, rc_6_2, rc_6_3, rc_7_0, rc_7_1, rc_7_2, rc_7_3, rc_12_0, rc_12_1, rc_12_2, rc_12_3, rc_18_0, rc_18_1, rc_20_0, rc_20_1, rc_22_0, rc_23_0, rc_25_0, rc_27_0, rc_27_1, rc_27_2, rc_31_0, rc_31_1, rc_31_2, rc_55_0, rc_55_1, rc_55_2, rc_1_6, rc_1_7, rc_23_2, fi_0_1, fi_0_2, fi_0_3, fi_1_3, fi_1_4, fi_1_5, fi_1_6, fi_1_7, fi_2_2, fi_3_3, fi_3_4, fi_3_5, fi_4_1, fi_5_4, fi_5_5, fi_5_6, fi_5_7, fi_5_8, fi_5_9, fi_6_1, fi_7_3, fi_7_4]
      rw [e3]
      refine V.brF rfl (fun q => by have := (iZ_le (by omega) (by omega)).mp q; omega) ?_
      refine V.run 0 54 rfl hn trivial ?_
      try simp only [rc_1_0, rc_1_1, rc_1_2, rc_1_3, rc_1_4, rc_1_5, rc_2_0, rc_2_1, rc_2_2, rc_6_0, rc_6_1, rc_6_2, rc_6_3, rc_7_0, rc_7_1, rc_7_2, rc_7_3, rc_12_0, rc_12_1, rc_12_2, rc_12_3, rc_18_0, rc_18_1, rc_20_0, rc_20_1, rc_22_0, rc_23_0, rc_25_0, rc_27_0, rc_27_1, rc_27_2, rc_31_0, rc_31_1, rc_31_2, rc_55_0, rc_55_1, rc_55_2, rc_1_6, rc_1_7, rc_23_2, fi_0_1, fi_0_2, fi_0_3, fi_1_3, fi_1_4, fi_1_5, fi_1_6, fi_1_7, fi_2_2, fi_3_3, fi_3_4, fi_3_5, fi_4_1, fi_5_4, fi_5_5, fi_5_6, fi_5_7, fi_5_8, fi_5_9, fi_6_1, fi_7_3, fi_7_4]
      rcases hI with ⟨i1, i2⟩ | ⟨a, b, i1, i2, i3, i4, i5, i8⟩
      · rw [i1]
        refine V.brT rfl (by decide) ?_
        refine V.run 0 54 rfl hn trivial ?_
        refine V.run 0 54 rfl hn trivial ?_
        refine V.brF rfl (by decide) ?_
        refine k45 (fun a q1 q2 => ?_) _ _
        rw [i1] at q1
        have := (iZ_eq (by omega) (by omega)).mp q1
        omega
      · have hba := r1.2.1 _ (getD_mem2 (r := c) (i := a) (by omega))
        rw [i1]
        refine V.brF rfl (fun q => by have := (iZ_lt0 (by omega)).mp q; omega) ?_
        refine V.run 0 54 rfl hn ⟨in_N (n := 64) (by omega) (by decide), by (try simp only [fi_1_6]); rw [i1]; exact in_N (n := 64) (by omega) (by decide), trivial⟩ ?_
        try simp only [rc_1_0, rc_1_1, rc_1_2, rc_1_3, rc_1_4, rc_1_5, rc_2_0, rc_2_1, rc_2_2, rc_6_0, rc_6_1, rc_6_2, rc_6_3, rc_7_0, rc_7_1, rc_7_2, rc_7_3, rc_12_0, rc_12_1, rc_12_2, rc_12_3, rc_18_0, rc_18_1, rc_20_0, rc_20_1, rc_22_0, rc_23_0, rc_25_0, rc_27_0, rc_27_1, rc_27_2, rc_31_0, rc_31_1, rc_31_2, rc_55_0, rc_55_1, rc_55_2, rc_1_6, rc_1_7, rc_23_2, fi_0_1, fi_0_2, fi_0_3, fi_1_3, fi_1_4, fi_1_5, fi_1_6, fi_1_7, fi_2_2, fi_3_3, fi_3_4, fi_3_5, fi_4_1, fi_5_4, fi_5_5, fi_5_6, fi_5_7, fi_5_8, fi_5_9, fi_6_1, fi_7_3, fi_7_4]
        rw [i1, ix_N (by omega), ix_N (by omega), e1 i hil, e1 a i3]
        refine V.br rfl (fun (c2 : iZ (c.getD a 0) ≤ iZ (c.getD i 0)) => ?_) (fun (c2 : ¬ (iZ (c.getD a 0) ≤ iZ (c.getD i 0))) => ?_)
        · rw [iZ_le (by omega) (by omega)] at c2
          refine V.run 0 54 rfl hn trivial ?_
          refine V.brT rfl rfl ?_
          refine V.run 0 54 rfl hn trivial ?_
          refine V.brT rfl (by decide) ?_
          exact skip (Or.inr ⟨a, i1, i3, by omega⟩) _ _
        · rw [iZ_le (by omega) (by omega)] at c2
          refine V.run 0 54 rfl hn trivial ?_
          refine V.run 0 54 rfl hn trivial ?_
          refine V.brF rfl (by decide) ?_
          refine k45 (fun a' q1 q2 => ?_) _ _
          rw [i1] at q1
          have := (iZ_eq (by omega) (by omega)).mp q1
          rw [show a' = a by omega]
          omega
  exact key c.length 0 σ none none (by omega) (Or.inl ⟨h6, fun t ht => by omega⟩) Fr.rf (fun _ _ _ => rfl)
end CC31
