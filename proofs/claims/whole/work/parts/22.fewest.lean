/-! ===== the reference: fewest, asFew, first, hardest ===== -/
def A_fewest (k N : Int) : Int := if 0 ≤ k ∧ k ≤ 3 ∧ 1 ≤ N ∧ N ≤ (if k = 2 then 40 else 160) then feF k.toNat N.toNat else -1
def A_asFew (k N : Int) : Int := if 0 ≤ k ∧ k ≤ 3 ∧ 1 ≤ N ∧ N ≤ (if k = 2 then 24 else 80) then cnt k.toNat N.toNat (mostOf k.toNat N.toNat) (feF k.toNat N.toNat) [1] else -1
def firstRow (kind N : Nat) : List Nat := (fstR kind N (mostOf kind N) (feF kind N) [1]).getD []
def A_first (k N i : Int) : Int := if (0 ≤ k ∧ k ≤ 3 ∧ 1 ≤ N ∧ N ≤ (if k = 2 then 40 else 160)) ∧ 0 ≤ i then (if i ≤ feF k.toNat N.toNat then ((firstRow k.toNat N.toNat).getD i.toNat 0 : Nat) else -4) else -1
def A_hardest (k s : Int) : Int := if (0 ≤ k ∧ k ≤ 3) ∧ k ≠ 2 ∧ 0 ≤ s ∧ s ≤ 9 then (match (List.range 160).find? (fun i => decide ((feF k.toNat (i + 1) : Int) = s)) with
  | some i => (i + 1 : Nat)
  | none => -4) else -1
theorem fst_len {kind n most : Nat} : ∀ {k : Nat} {r row : List Nat}, fstR kind n most k r = some row → row.length = r.length + k
  | 0, r, row, h => by
    unfold fstR at h
    split at h
    · cases h; rfl
    · cases h
  | k + 1, r, row, h => by
    unfold fstR at h
    obtain ⟨v, -, hv⟩ := List.exists_of_findSome?_eq_some h
    have := fst_len hv
    simp at this
    omega
section MD7
variable {d n ca cb tr : Nat} {Q : PQ} {σ : Mem} {ρ : Ref}
theorem m_isAsked (hn : 54 ≤ n) (hd : 2 ≤ d) {k N : Int} (hk : -2147483648 ≤ k ∧ k < 2147483648) (hN : -2147483648 ≤ N ∧ N < 2147483648) (h1 : 0 ≤ k ∧ k ≤ 3 ∧ 1 ≤ N ∧ N ≤ (if k = 2 then 40 else 160) → Q (some (.int 1)) ρ σ) (h0 : ¬ (0 ≤ k ∧ k ≤ 3 ∧ 1 ≤ N ∧ N ≤ (if k = 2 then 40 else 160)) → Q (some (.int 0)) ρ σ) : Mt M_X9_isAsked d n n [.int (iZ k), .int (iZ N)] ρ σ Q := by
  refine Mt.of rfl (by decide +kernel) tk_X9_isAsked (Nat.le_of_ble_eq_true rfl) ?_
  refine V.run 0 0 rfl (Nat.zero_le _) trivial ?_
  refine V.cs (d' := d - 1) rfl rfl ok_X9_in lk_9_X9_in rfl (by omega) (Nat.le_refl _) (Nat.le_refl _) ((m_inZ (by omega) (by omega) (by omega) (fun g => ?_) (fun g => ?_)))
  · refine V.brF rfl (by decide) ?_
    refine V.run 0 0 rfl (Nat.zero_le _) trivial ?_
    refine V.br rfl (fun (c : iZ k = iZ 2) => ?_) (fun (c : ¬ (iZ k = iZ 2)) => ?_)
    · rw [iZ_eq (by omega) (by omega)] at c
      refine V.run 0 0 rfl (Nat.zero_le _) trivial ?_
      refine V.cs (d' := d - 1) rfl rfl ok_X9_in lk_9_X9_in rfl (by omega) (Nat.le_refl _) (Nat.le_refl _) ((m_inZ (by omega) (by omega) (by omega) (fun g2 => ?_) (fun g2 => ?_)))
      · refine V.brF rfl (by decide) ?_
        refine V.run 0 0 rfl (Nat.zero_le _) trivial ?_
        refine V.run 0 0 rfl (Nat.zero_le _) trivial ?_
        refine V.ret (v := some (.int 1)) rfl rfl ⟨rfl, Or.inr rfl⟩ rfl (h1 ⟨g.1, g.2, g2.1, by rw [if_pos c]; exact g2.2⟩)
      · refine V.brT rfl rfl ?_
        refine V.run 0 0 rfl (Nat.zero_le _) trivial ?_
        refine V.ret (v := some (.int 0)) rfl rfl ⟨rfl, Or.inl rfl⟩ rfl (h0 (fun q => g2 ⟨q.2.2.1, by rw [if_pos c] at q; exact q.2.2.2⟩))
    · rw [iZ_eq (by omega) (by omega)] at c
      refine V.run 0 0 rfl (Nat.zero_le _) trivial ?_
      refine V.cs (d' := d - 1) rfl rfl ok_X9_in lk_9_X9_in rfl (by omega) (Nat.le_refl _) (Nat.le_refl _) ((m_inZ (by omega) (by omega) (by omega) (fun g2 => ?_) (fun g2 => ?_)))
      · refine V.brF rfl (by decide) ?_
        refine V.run 0 0 rfl (Nat.zero_le _) trivial ?_
        refine V.run 0 0 rfl (Nat.zero_le _) trivial ?_
        refine V.ret (v := some (.int 1)) rfl rfl ⟨rfl, Or.inr rfl⟩ rfl (h1 ⟨g.1, g.2, g2.1, by rw [if_neg c]; exact g2.2⟩)
      · refine V.brT rfl rfl ?_
        refine V.run 0 0 rfl (Nat.zero_le _) trivial ?_
        refine V.ret (v := some (.int 0)) rfl rfl ⟨rfl, Or.inl rfl⟩ rfl (h0 (fun q => g2 ⟨q.2.2.1, by rw [if_neg c] at q; exact q.2.2.2⟩))
  · refine V.brT rfl rfl ?_
    refine V.run 0 0 rfl (Nat.zero_le _) trivial ?_
    refine V.ret (v := some (.int 0)) rfl rfl ⟨rfl, Or.inl rfl⟩ rfl (h0 (fun q => g ⟨q.1, q.2.1⟩))
theorem okN_of {k N : Int} (h : 0 ≤ k ∧ k ≤ 3 ∧ 1 ≤ N ∧ N ≤ (if k = 2 then 40 else 160)) : okN k.toNat N.toNat ∧ (k.toNat : Int) = k ∧ (N.toNat : Int) = N ∧ N < 200 := by
  obtain ⟨h1, h2, h3, h4⟩ := h
  have hs : N ≤ 160 := by split at h4 <;> omega
  refine ⟨⟨by omega, by omega, ?_⟩, by omega, by omega, by omega⟩
  by_cases e : k = 2
  · rw [if_pos e] at h4
    rw [if_pos (by omega)]
    omega
  · rw [if_neg e] at h4
    rw [if_neg (by omega)]
    omega
theorem m_fewest (hn : 54 ≤ n) (hd : 6 ≤ d) {k N : Int} (hk : -2147483648 ≤ k ∧ k < 2147483648) (hN : -2147483648 ≤ N ∧ N < 2147483648) (hQ : ∀ σ', Fr [39, 40, 41, 42, 43] σ σ' → Q (some (.int (iZ (A_fewest k N)))) (rho ca cb tr) σ') : Mt M_X9_fewest d n n [.ref 35, .int (iZ k), .int (iZ N)] (rho ca cb tr) σ Q := by
  refine Mt.of rfl (by decide +kernel) tk_X9_fewest (Nat.le_of_ble_eq_true rfl) ?_
  refine V.run 0 54 rfl hn trivial ?_
  refine V.cs (d' := d - 1) rfl rfl ok_X9_isAsked lk_9_X9_isAsked rfl (by omega) (Nat.le_refl _) (Nat.le_refl _) ((m_isAsked hn (by omega) hk hN (fun g => ?_) (fun g => ?_)))
  · obtain ⟨o1, o2, o3, o4⟩ := okN_of g
    obtain ⟨f1, f2⟩ := feF_ok o1
    refine V.brF rfl (by decide) ?_
    refine V.run 0 54 rfl hn trivial ?_
    rw [← o2, ← o3]
    refine V.cv (lo := 54) (d' := d - 1) rfl rfl ok_X9_fewestOf lk_9_X9_fewestOf rfl rfl rfl hn (by omega) (Nat.le_refl _) (Nat.le_refl _) ((m_fewestOf hn (by omega) o1.1 ⟨o1.2.1, by omega⟩ f1 (by omega) (fun σ2 hf => ?_)))
    refine V.run 0 54 rfl hn trivial ?_
    refine V.ret (v := some (.int (iZ (feF k.toNat N.toNat)))) rfl rfl rfl rfl (?_)
    have := hQ σ2 hf
    unfold A_fewest at this
    rw [if_pos g] at this
    exact this
  · refine V.brT rfl rfl ?_
    refine V.run 0 54 rfl hn trivial ?_
    refine V.ret (v := some (.int (iZ (-1)))) rfl rfl rfl rfl (?_)
    have := hQ σ Fr.rf
    unfold A_fewest at this
    rw [if_neg g] at this
    exact this
theorem m_first (hn : 54 ≤ n) (hd : 6 ≤ d) {k N i : Int} (hk : -2147483648 ≤ k ∧ k < 2147483648) (hN : -2147483648 ≤ N ∧ N < 2147483648) (hi : -2147483648 ≤ i ∧ i < 2147483648) (hQ : ∀ σ', Fr [39, 40, 41, 42, 43] σ σ' → Q (some (.int (iZ (A_first k N i)))) (rho ca cb tr) σ') : Mt M_X9_first d n n [.ref 35, .int (iZ k), .int (iZ N), .int (iZ i)] (rho ca cb tr) σ Q := by
  refine Mt.of rfl (by decide +kernel) tk_X9_first (Nat.le_of_ble_eq_true rfl) ?_
  refine V.run 0 54 rfl hn trivial ?_
  have bad : ∀ x4, ¬ ((0 ≤ k ∧ k ≤ 3 ∧ 1 ≤ N ∧ N ≤ (if k = 2 then 40 else 160)) ∧ 0 ≤ i) → V M_X9_first d n n none Q n (rho ca cb tr) σ 12 [some (.ref 35), some (.int (iZ (k))), some (.int (iZ (N))), some (.int (iZ (i))), x4] [] := by
    intro x4 g
    refine V.run 0 54 rfl hn trivial ?_
    refine V.ret (v := some (.int (iZ (-1)))) rfl rfl rfl rfl (?_)
    have := hQ σ Fr.rf
    unfold A_first at this
    rw [if_neg g] at this
    exact this
  refine V.cs (d' := d - 1) rfl rfl ok_X9_isAsked lk_9_X9_isAsked rfl (by omega) (Nat.le_refl _) (Nat.le_refl _) ((m_isAsked hn (by omega) hk hN (fun g => ?_) (fun g => ?_)))
  · obtain ⟨o1, o2, o3, o4⟩ := okN_of g
    obtain ⟨f1, f2⟩ := feF_ok o1
    refine V.brF rfl (by decide) ?_
    refine V.run 0 54 rfl hn trivial ?_
    refine V.br rfl (fun (c : 0 ≤ iZ i) => ?_) (fun (c : ¬ (0 ≤ iZ i)) => ?_)
    · rw [iZ_0le (by omega)] at c
      refine V.run 0 54 rfl hn trivial ?_
      rw [← o2, ← o3]
      refine V.cv (lo := 54) (d' := d - 1) rfl rfl ok_X9_fewestOf lk_9_X9_fewestOf rfl rfl rfl hn (by omega) (Nat.le_refl _) (Nat.le_refl _) ((m_fewestOf hn (by omega) o1.1 ⟨o1.2.1, by omega⟩ f1 (by omega) (fun σ2 hf => ?_)))
      refine V.run 0 54 rfl hn trivial ?_
      refine V.cv (lo := 54) (d' := d - 1) rfl rfl ok_X9_search lk_9_X9_search rfl rfl rfl hn (by omega) (Nat.le_refl _) (Nat.le_refl _) ((m_search (one := true) hn (by omega) o1.1 ⟨o1.2.1, by omega⟩ (by omega) (fun h => by cases h) (fun _ h => absurd h f1.1) (fun _ row hrow σ3 hf3 ht3 => ?_)))
      have hQ3 := hQ σ3 (hf.tr hf3)
      unfold A_first at hQ3
      rw [if_pos ⟨g, c⟩] at hQ3
      refine V.run 0 54 rfl hn trivial ?_
      refine V.br rfl (fun (c2 : iZ i ≤ iZ (feF k.toNat N.toNat)) => ?_) (fun (c2 : ¬ (iZ i ≤ iZ (feF k.toNat N.toNat))) => ?_)
      · rw [iZ_le (by omega) (by omega)] at c2
        rw [if_pos c2] at hQ3
        refine V.run 0 54 rfl hn ⟨in_iZ (n := 44) (by omega) (by decide), trivial⟩ ?_
        simp only [rf_told, rf_comes, rf_comeMany, rf_comeAt, rf_isSeen, rf_goals, rf_text, rf_taken, rf_roadRow, rf_dueNumber, rf_dueTimes, rf_above, rf_tree, rf_way, rf_signs, rf_spent, rf_read, rf_useMany, rf_lastUse]
        have hl := fst_len hrow
        simp only [List.length_singleton] at hl
        have e1 : firstRow k.toNat N.toNat = row := by unfold firstRow; rw [hrow]; rfl
        rw [e1] at hQ3
        rw [ix_iZ (by omega), ht3 _ (by omega)]
        refine V.ret (v := some (.int (iZ (row.getD i.toNat 0)))) rfl rfl rfl rfl (hQ3)
      · rw [iZ_le (by omega) (by omega)] at c2
        rw [if_neg c2] at hQ3
        refine V.run 0 54 rfl hn trivial ?_
        refine V.run 0 54 rfl hn trivial ?_
        refine V.ret (v := some (.int (iZ (-4)))) rfl rfl rfl rfl (hQ3)
    · rw [iZ_0le (by omega)] at c
      exact bad _ (fun q => c q.2)
  · refine V.brT rfl rfl ?_
    exact bad _ (fun q => g q.1)
theorem m_asFew (hn : 54 ≤ n) (hd : 6 ≤ d) {k N : Int} (hk : -2147483648 ≤ k ∧ k < 2147483648) (hN : -2147483648 ≤ N ∧ N < 2147483648) (hQ : ∀ σ', Fr [39, 40, 41, 42, 43] σ σ' → Q (some (.int (iZ (A_asFew k N)))) (rho ca cb tr) σ') : Mt M_X9_asFew d n n [.ref 35, .int (iZ k), .int (iZ N)] (rho ca cb tr) σ Q := by
  refine Mt.of rfl (by decide +kernel) tk_X9_asFew (Nat.le_of_ble_eq_true rfl) ?_
  refine V.run 0 54 rfl hn trivial ?_
  have bad : ¬ (0 ≤ k ∧ k ≤ 3 ∧ 1 ≤ N ∧ N ≤ (if k = 2 then 24 else 80)) → V M_X9_asFew d n n none Q n (rho ca cb tr) σ 35 [some (.ref 35), some (.int (iZ (k))), some (.int (iZ (N)))] [] := by
    intro g
    refine V.run 0 54 rfl hn trivial ?_
    refine V.ret (v := some (.int (iZ (-1)))) rfl rfl rfl rfl (?_)
    have := hQ σ Fr.rf
    unfold A_asFew at this
    rw [if_neg g] at this
    exact this
  have good : 0 ≤ k ∧ k ≤ 3 ∧ 1 ≤ N ∧ N ≤ (if k = 2 then 24 else 80) → V M_X9_asFew d n n none Q n (rho ca cb tr) σ 37 [some (.ref 35), some (.int (iZ (k))), some (.int (iZ (N)))] [] := by
    intro g
    have g2 : 0 ≤ k ∧ k ≤ 3 ∧ 1 ≤ N ∧ N ≤ (if k = 2 then 40 else 160) := by
      refine ⟨g.1, g.2.1, g.2.2.1, ?_⟩
      have := g.2.2.2
      split
      · rename_i e; rw [if_pos e] at this; omega
      · rename_i e; rw [if_neg e] at this; omega
    obtain ⟨o1, o2, o3, o4⟩ := okN_of g2
    obtain ⟨f1, f2⟩ := feF_ok o1
    refine V.run 0 54 rfl hn trivial ?_
    rw [← o2, ← o3]
    refine V.cv (lo := 54) (d' := d - 1) rfl rfl ok_X9_fewestOf lk_9_X9_fewestOf rfl rfl rfl hn (by omega) (Nat.le_refl _) (Nat.le_refl _) ((m_fewestOf hn (by omega) o1.1 ⟨o1.2.1, by omega⟩ f1 (by omega) (fun σ2 hf => ?_)))
    refine V.run 0 54 rfl hn trivial ?_
    refine V.cv (lo := 54) (d' := d - 1) rfl rfl ok_X9_search lk_9_X9_search rfl rfl rfl hn (by omega) (Nat.le_refl _) (Nat.le_refl _) ((m_search (one := false) hn (by omega) o1.1 ⟨o1.2.1, by omega⟩ (by omega) (fun _ σ3 hf3 => ?_) (fun h => by cases h) (fun h => by cases h)))
    refine V.ret (v := some (.int (iZ (cnt k.toNat N.toNat (mostOf k.toNat N.toNat) (feF k.toNat N.toNat) [1])))) rfl rfl rfl rfl (?_)
    have := hQ σ3 (hf.tr hf3)
    unfold A_asFew at this
    rw [if_pos g] at this
    exact this
  refine V.cs (d' := d - 1) rfl rfl ok_X9_in lk_9_X9_in rfl (by omega) (Nat.le_refl _) (Nat.le_refl _) ((m_inZ (by omega) (by omega) (by omega) (fun g => ?_) (fun g => ?_)))
  · refine V.brF rfl (by decide) ?_
    refine V.run 0 54 rfl hn trivial ?_
    refine V.br rfl (fun (c : iZ k = iZ 2) => ?_) (fun (c : ¬ (iZ k = iZ 2)) => ?_)
    · rw [iZ_eq (by omega) (by omega)] at c
      refine V.run 0 54 rfl hn trivial ?_
      refine V.cs (d' := d - 1) rfl rfl ok_X9_in lk_9_X9_in rfl (by omega) (Nat.le_refl _) (Nat.le_refl _) ((m_inZ (by omega) (by omega) (by omega) (fun g2 => ?_) (fun g2 => ?_)))
      · refine V.brF rfl (by decide) ?_
        exact good ⟨g.1, g.2, g2.1, by rw [if_pos c]; exact g2.2⟩
      · refine V.brT rfl rfl ?_
        exact bad (fun q => g2 ⟨q.2.2.1, by rw [if_pos c] at q; exact q.2.2.2⟩)
    · rw [iZ_eq (by omega) (by omega)] at c
      refine V.run 0 54 rfl hn trivial ?_
      refine V.cs (d' := d - 1) rfl rfl ok_X9_in lk_9_X9_in rfl (by omega) (Nat.le_refl _) (Nat.le_refl _) ((m_inZ (by omega) (by omega) (by omega) (fun g2 => ?_) (fun g2 => ?_)))
      · refine V.brF rfl (by decide) ?_
        exact good ⟨g.1, g.2, g2.1, by rw [if_neg c]; exact g2.2⟩
      · refine V.brT rfl rfl ?_
        exact bad (fun q => g2 ⟨q.2.2.1, by rw [if_neg c] at q; exact q.2.2.2⟩)
  · refine V.brT rfl rfl ?_
    exact bad (fun q => g ⟨q.1, q.2.1⟩)
theorem m_hardest (hn : 54 ≤ n) (hd : 6 ≤ d) {k s : Int} (hk : -2147483648 ≤ k ∧ k < 2147483648) (hs : -2147483648 ≤ s ∧ s < 2147483648) (hQ : ∀ σ', Fr [39, 40, 41, 42, 43] σ σ' → Q (some (.int (iZ (A_hardest k s)))) (rho ca cb tr) σ') : Mt M_X9_hardest d n n [.ref 35, .int (iZ k), .int (iZ s)] (rho ca cb tr) σ Q := by
  refine Mt.of rfl (by decide +kernel) tk_X9_hardest (Nat.le_of_ble_eq_true rfl) ?_
  refine V.run 0 54 rfl hn trivial ?_
  have bad : ∀ x3, ¬ ((0 ≤ k ∧ k ≤ 3) ∧ k ≠ 2 ∧ 0 ≤ s ∧ s ≤ 9) → V M_X9_hardest d n n none Q n (rho ca cb tr) σ 29 [some (.ref 35), some (.int (iZ (k))), some (.int (iZ (s))), x3] [] := by
    intro x3 g
    refine V.run 0 54 rfl hn trivial ?_
    refine V.ret (v := some (.int (iZ (-1)))) rfl rfl rfl rfl (?_)
    have := hQ σ Fr.rf
    unfold A_hardest at this
    rw [if_neg g] at this
    exact this
  refine V.cs (d' := d - 1) rfl rfl ok_X9_in lk_9_X9_in rfl (by omega) (Nat.le_refl _) (Nat.le_refl _) ((m_inZ (by omega) (by omega) (by omega) (fun g => ?_) (fun g => ?_)))
  · refine V.brF rfl (by decide) ?_
    refine V.run 0 54 rfl hn trivial ?_
    refine V.br rfl (fun (c : iZ k = iZ 2) => ?_) (fun (c : ¬ (iZ k = iZ 2)) => ?_)
    · rw [iZ_eq (by omega) (by omega)] at c
      exact bad _ (fun q => q.2.1 c)
    · rw [iZ_eq (by omega) (by omega)] at c
      refine V.run 0 54 rfl hn trivial ?_
      refine V.cs (d' := d - 1) rfl rfl ok_X9_in lk_9_X9_in rfl (by omega) (Nat.le_refl _) (Nat.le_refl _) ((m_inZ (by omega) (by omega) (by omega) (fun g2 => ?_) (fun g2 => ?_)))
      · refine V.brF rfl (by decide) ?_
        unfold A_hardest at hQ
        rw [if_pos ⟨g, c, g2⟩] at hQ
        refine V.run 33 54 rfl hn trivial ?_
        have key : ∀ (j i : Nat) (σ1 : Mem), i + j = 160 → Fr [39, 40, 41, 42, 43] σ σ1 → (∀ a, a < i → ¬ ((feF k.toNat (a + 1) : Int) = s)) → V M_X9_hardest d n n none Q n (rho ca cb tr) σ1 33 [some (.ref 35), some (.int (iZ (k))), some (.int (iZ (s))), some (.int (iZ ((i + 1 : Nat))))] [] := by
          intro j
          induction j with
          | zero =>
            intro i σ1 hi hf hno
            refine V.run 0 54 rfl hn trivial ?_
            refine V.brT rfl ((iZ_lt (by omega) (by omega)).mpr (by omega)) ?_
            refine V.run 0 54 rfl hn trivial ?_
            refine V.ret (v := some (.int (iZ (-4)))) rfl rfl rfl rfl (?_)
            have := hQ σ1 hf
            have e : (List.range 160).find? (fun i => decide ((feF k.toNat (i + 1) : Int) = s)) = none := by
              rw [List.find?_eq_none]
              intro a ha
              have := hno a (by have := List.mem_range.mp ha; omega)
              simpa using this
            rw [e] at this
            exact this
          | succ j ih =>
            intro i σ1 hi hf hno
            have o1 : okN k.toNat (i + 1) := ⟨by omega, by omega, by rw [if_neg (by omega)]; omega⟩
            obtain ⟨f1, f2⟩ := feF_ok o1
            refine V.run 0 54 rfl hn trivial ?_
            refine V.brF rfl (fun c => by have := (iZ_lt (by omega) (by omega)).mp c; omega) ?_
            refine V.run 0 54 rfl hn trivial ?_
            rw [show k = (k.toNat : Int) by omega]
            refine V.cv (lo := 54) (d' := d - 1) rfl rfl ok_X9_fewestOf lk_9_X9_fewestOf rfl rfl rfl hn (by omega) (Nat.le_refl _) (Nat.le_refl _) ((m_fewestOf hn (by omega) o1.1 ⟨o1.2.1, by omega⟩ f1 (by omega) (fun σ2 hf2 => ?_)))
            rw [show (k.toNat : Int) = k by omega]
            refine V.run 0 54 rfl hn trivial ?_
            refine V.br rfl (fun (c2 : iZ (feF k.toNat (i + 1)) = iZ s) => ?_) (fun (c2 : ¬ (iZ (feF k.toNat (i + 1)) = iZ s)) => ?_)
            · rw [iZ_eq (by omega) (by omega)] at c2
              refine V.run 0 54 rfl hn trivial ?_
              refine V.ret (v := some (.int (iZ (i + 1 : Nat)))) rfl rfl rfl rfl (?_)
              have := hQ σ2 (hf.tr hf2)
              have e : (List.range 160).find? (fun i => decide ((feF k.toNat (i + 1) : Int) = s)) = some i := by
                rw [List.find?_range_eq_some]
                refine ⟨by simpa using c2, List.mem_range.mpr (by omega), fun a ha => ?_⟩
                have := hno a ha
                simpa using this
              rw [e] at this
              exact this
            · rw [iZ_eq (by omega) (by omega)] at c2
              refine V.run 0 54 rfl hn trivial ?_
              have := ih (i + 1) σ2 (by omega) (hf.tr hf2) (fun a ha => by
                by_cases e : a = i
                · subst e; exact c2
                · exact hno a (by omega))
              rw [show ((i + 1 + 1 : Nat) : Int) = ((i + 1 : Nat) : Int) + 1 by omega, ← iZ_add] at this
              exact this
        exact key 160 0 σ (by omega) Fr.rf (fun a ha => by omega)
      · refine V.brT rfl rfl ?_
        exact bad _ (fun q => g2 q.2.2)
  · refine V.brT rfl rfl ?_
    exact bad _ (fun q => g q.1)
end MD7
