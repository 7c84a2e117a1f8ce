/-! ===== the reference: in, isTold, note, greatest ===== -/
theorem rf_goals (ca cb tr : Nat) : rho ca cb tr 35 1 = 36 := rfl
theorem rf_text (ca cb tr : Nat) : rho ca cb tr 35 5 = 37 := rfl
theorem rf_taken (ca cb tr : Nat) : rho ca cb tr 35 8 = 38 := rfl
theorem rf_told (ca cb tr : Nat) : rho ca cb tr 35 9 = 39 := rfl
theorem rf_comes (ca cb tr : Nat) : rho ca cb tr 35 10 = 40 := rfl
theorem rf_comeMany (ca cb tr : Nat) : rho ca cb tr 35 11 = 41 := rfl
theorem rf_comeAt (ca cb tr : Nat) : rho ca cb tr 35 12 = 42 := rfl
theorem rf_isSeen (ca cb tr : Nat) : rho ca cb tr 35 13 = 43 := rfl
theorem rf_roadRow (ca cb tr : Nat) : rho ca cb tr 35 15 = 44 := rfl
theorem rf_dueNumber (ca cb tr : Nat) : rho ca cb tr 35 16 = 45 := rfl
theorem rf_dueTimes (ca cb tr : Nat) : rho ca cb tr 35 17 = 46 := rfl
theorem rf_above (ca cb tr : Nat) : rho ca cb tr 35 18 = 47 := rfl
theorem rf_tree (ca cb tr : Nat) : rho ca cb tr 35 20 = 48 := rfl
theorem rf_way (ca cb tr : Nat) : rho ca cb tr 35 21 = 49 := rfl
theorem rf_signs (ca cb tr : Nat) : rho ca cb tr 35 22 = 50 := rfl
theorem rf_spent (ca cb tr : Nat) : rho ca cb tr 35 23 = 51 := rfl
theorem rf_read (ca cb tr : Nat) : rho ca cb tr 35 25 = 52 := rfl
theorem rf_useMany (ca cb tr : Nat) : rho ca cb tr 35 28 = 53 := rfl
theorem rf_lastUse (ca cb tr : Nat) : rho ca cb tr 35 29 = 54 := rfl
theorem fi_0_1 (ρ : Ref) (σ : Mem) (k : Nat) : fA ρ σ 0 1 k = .int (σ k 1) := rfl
theorem fi_0_2 (ρ : Ref) (σ : Mem) (k : Nat) : fA ρ σ 0 2 k = .int (σ k 2) := rfl
theorem fi_0_3 (ρ : Ref) (σ : Mem) (k : Nat) : fA ρ σ 0 3 k = .int (σ k 3) := rfl
theorem fi_1_3 (ρ : Ref) (σ : Mem) (k : Nat) : fA ρ σ 1 3 k = .int (σ k 3) := rfl
theorem fi_1_4 (ρ : Ref) (σ : Mem) (k : Nat) : fA ρ σ 1 4 k = .int (σ k 4) := rfl
theorem fi_1_5 (ρ : Ref) (σ : Mem) (k : Nat) : fA ρ σ 1 5 k = .int (σ k 5) := rfl
theorem fi_1_6 (ρ : Ref) (σ : Mem) (k : Nat) : fA ρ σ 1 6 k = .int (σ k 6) := rfl
theorem fi_1_7 (ρ : Ref) (σ : Mem) (k : Nat) : fA ρ σ 1 7 k = .int (σ k 7) := rfl
theorem fi_2_2 (ρ : Ref) (σ : Mem) (k : Nat) : fA ρ σ 2 2 k = .int (σ k 2) := rfl
theorem fi_3_3 (ρ : Ref) (σ : Mem) (k : Nat) : fA ρ σ 3 3 k = .int (σ k 3) := rfl
theorem fi_3_4 (ρ : Ref) (σ : Mem) (k : Nat) : fA ρ σ 3 4 k = .int (σ k 4) := rfl
theorem fi_3_5 (ρ : Ref) (σ : Mem) (k : Nat) : fA ρ σ 3 5 k = .int (σ k 5) := rfl
theorem fi_4_1 (ρ : Ref) (σ : Mem) (k : Nat) : fA ρ σ 4 1 k = .int (σ k 1) := rfl
theorem fi_5_4 (ρ : Ref) (σ : Mem) (k : Nat) : fA ρ σ 5 4 k = .int (σ k 4) := rfl
theorem fi_5_5 (ρ : Ref) (σ : Mem) (k : Nat) : fA ρ σ 5 5 k = .int (σ k 5) := rfl
theorem fi_5_6 (ρ : Ref) (σ : Mem) (k : Nat) : fA ρ σ 5 6 k = .int (σ k 6) := rfl
theorem fi_5_7 (ρ : Ref) (σ : Mem) (k : Nat) : fA ρ σ 5 7 k = .int (σ k 7) := rfl
theorem fi_5_8 (ρ : Ref) (σ : Mem) (k : Nat) : fA ρ σ 5 8 k = .int (σ k 8) := rfl
theorem fi_5_9 (ρ : Ref) (σ : Mem) (k : Nat) : fA ρ σ 5 9 k = .int (σ k 9) := rfl
theorem fi_6_1 (ρ : Ref) (σ : Mem) (k : Nat) : fA ρ σ 6 1 k = .int (σ k 1) := rfl
theorem fi_7_3 (ρ : Ref) (σ : Mem) (k : Nat) : fA ρ σ 7 3 k = .int (σ k 3) := rfl
theorem fi_7_4 (ρ : Ref) (σ : Mem) (k : Nat) : fA ρ σ 7 4 k = .int (σ k 4) := rfl
theorem fi_9_0 (ρ : Ref) (σ : Mem) (k : Nat) : fA ρ σ 9 0 k = .int (σ k 0) := rfl
theorem fi_9_2 (ρ : Ref) (σ : Mem) (k : Nat) : fA ρ σ 9 2 k = .int (σ k 2) := rfl
theorem fi_9_3 (ρ : Ref) (σ : Mem) (k : Nat) : fA ρ σ 9 3 k = .int (σ k 3) := rfl
theorem fi_9_4 (ρ : Ref) (σ : Mem) (k : Nat) : fA ρ σ 9 4 k = .int (σ k 4) := rfl
theorem fi_9_6 (ρ : Ref) (σ : Mem) (k : Nat) : fA ρ σ 9 6 k = .int (σ k 6) := rfl
theorem fi_9_7 (ρ : Ref) (σ : Mem) (k : Nat) : fA ρ σ 9 7 k = .int (σ k 7) := rfl
theorem fi_9_14 (ρ : Ref) (σ : Mem) (k : Nat) : fA ρ σ 9 14 k = .int (σ k 14) := rfl
theorem fi_9_19 (ρ : Ref) (σ : Mem) (k : Nat) : fA ρ σ 9 19 k = .int (σ k 19) := rfl
theorem fi_9_24 (ρ : Ref) (σ : Mem) (k : Nat) : fA ρ σ 9 24 k = .int (σ k 24) := rfl
theorem fi_9_26 (ρ : Ref) (σ : Mem) (k : Nat) : fA ρ σ 9 26 k = .int (σ k 26) := rfl
theorem fi_9_27 (ρ : Ref) (σ : Mem) (k : Nat) : fA ρ σ 9 27 k = .int (σ k 27) := rfl
theorem fi_9_30 (ρ : Ref) (σ : Mem) (k : Nat) : fA ρ σ 9 30 k = .int (σ k 30) := rfl
section MD1
variable {d n ca cb tr : Nat} {Q : PQ} {σ : Mem} {M : MC} {n0 n1 pc : Nat} {sc : Option (Nat × (Nat → Int32))} {ρ : Ref} {lv : LV} {st : List Value}
theorem V.brT {c : Prop} {p1 p2 : Nat} {st2 : List Value} (h : brL M.2.2.2.1 pc st = some (c, p1, p2, st2)) (hc : c) (k1 : V M d n0 n1 sc Q n ρ σ p1 lv st2) : V M d n0 n1 sc Q n ρ σ pc lv st := V.br h (fun _ => k1) (fun h => absurd hc h)
theorem V.brF {c : Prop} {p1 p2 : Nat} {st2 : List Value} (h : brL M.2.2.2.1 pc st = some (c, p1, p2, st2)) (hc : ¬ c) (k2 : V M d n0 n1 sc Q n ρ σ p2 lv st2) : V M d n0 n1 sc Q n ρ σ pc lv st := V.br h (fun h => absurd h hc) (fun _ => k2)
theorem m_in (v a b : Int64) (h1 : a.toInt ≤ v.toInt ∧ v.toInt ≤ b.toInt → Q (some (.int 1)) ρ σ) (h0 : ¬ (a.toInt ≤ v.toInt ∧ v.toInt ≤ b.toInt) → Q (some (.int 0)) ρ σ) : Mt M_X9_in d n n [.long v, .long a, .long b] ρ σ Q := by
  refine Mt.of rfl (by decide +kernel) tk_X9_in (Nat.le_of_ble_eq_true rfl) ?_
  refine V.run 0 0 rfl (Nat.zero_le _) trivial ?_
  refine V.br rfl (fun (c : lg_cmp v a < 0) => ?_) (fun (c : ¬ (lg_cmp v a < 0)) => ?_)
  · rw [lcmp_lt, Int64.lt_iff_toInt_lt] at c
    refine V.run 0 0 rfl (Nat.zero_le _) trivial ?_
    refine V.ret (v := some (.int 0)) rfl rfl ⟨rfl, Or.inl rfl⟩ rfl (h0 (by omega))
  · rw [lcmp_lt, Int64.lt_iff_toInt_lt] at c
    refine V.run 0 0 rfl (Nat.zero_le _) trivial ?_
    refine V.br rfl (fun (c2 : 0 < lg_cmp v b) => ?_) (fun (c2 : ¬ (0 < lg_cmp v b)) => ?_)
    · rw [lcmp_gt, Int64.lt_iff_toInt_lt] at c2
      refine V.run 0 0 rfl (Nat.zero_le _) trivial ?_
      refine V.ret (v := some (.int 0)) rfl rfl ⟨rfl, Or.inl rfl⟩ rfl (h0 (by omega))
    · rw [lcmp_gt, Int64.lt_iff_toInt_lt] at c2
      refine V.run 0 0 rfl (Nat.zero_le _) trivial ?_
      refine V.run 0 0 rfl (Nat.zero_le _) trivial ?_
      refine V.ret (v := some (.int 1)) rfl rfl ⟨rfl, Or.inr rfl⟩ rfl (h1 (by omega))
theorem m_inZ {z a b : Int} (hz : -2147483648 ≤ z ∧ z < 2147483648) (ha : -2147483648 ≤ a ∧ a < 2147483648) (hb : -2147483648 ≤ b ∧ b < 2147483648) (h1 : a ≤ z ∧ z ≤ b → Q (some (.int 1)) ρ σ) (h0 : ¬ (a ≤ z ∧ z ≤ b) → Q (some (.int 0)) ρ σ) : Mt M_X9_in d n n [.long (iZ z).toInt64, .long (lZ a), .long (lZ b)] ρ σ Q := by
  rw [iZ_long hz]
  refine m_in _ _ _ (fun h => h1 ?_) (fun h => h0 ?_)
  · rw [lZ_toInt (by omega), lZ_toInt (by omega), lZ_toInt (by omega)] at h
    exact h
  · rw [lZ_toInt (by omega), lZ_toInt (by omega), lZ_toInt (by omega)] at h
    exact h
theorem m_isTold (hn : 54 ≤ n) {last : Nat} (hl : last < 44) {v : Int32} (h1 : (∃ k, k ≤ last ∧ σ 39 k = v) → Q (some (.int 1)) (rho ca cb tr) σ) (h0 : (∀ k, k ≤ last → σ 39 k ≠ v) → Q (some (.int 0)) (rho ca cb tr) σ) : Mt M_X9_isTold d n n [.ref 35, .int (iZ last), .int v] (rho ca cb tr) σ Q := by
  refine Mt.of rfl (by decide +kernel) tk_X9_isTold (Nat.le_of_ble_eq_true rfl) ?_
  refine V.run 2 54 rfl hn trivial ?_
  have key : ∀ j k : Nat, k + j = last + 1 → (∀ i, i < k → σ 39 i ≠ v) → V M_X9_isTold d n n none Q n (rho ca cb tr) σ 2 [some (.ref 35), some (.int (iZ (last))), some (.int (v)), some (.int (iZ (k)))] [] := by
    intro j
    induction j with
    | zero =>
      intro k hk h
      refine V.run 0 54 rfl hn trivial ?_
      refine V.brT rfl ((iZ_lt (by omega) (by omega)).mpr (by omega)) ?_
      refine V.run 0 54 rfl hn trivial ?_
      refine V.ret (v := some (.int 0)) rfl rfl ⟨rfl, Or.inl rfl⟩ rfl (h0 (fun i hi => h i (by omega)))
    | succ j ih =>
      intro k hk h
      refine V.run 0 54 rfl hn trivial ?_
      refine V.brF rfl (fun c => by have := (iZ_lt (by omega) (by omega)).mp c; omega) ?_
      refine V.run 0 54 rfl hn ⟨in_N (n := 44) (by omega) (by decide), trivial⟩ ?_
      refine V.br rfl (fun (c2 : σ 39 (ix (iZ k)) = v) => ?_) (fun (c2 : ¬ (σ 39 (ix (iZ k)) = v)) => ?_)
      · rw [ix_N (by omega)] at c2
        refine V.run 0 54 rfl hn trivial ?_
        refine V.ret (v := some (.int 1)) rfl rfl ⟨rfl, Or.inr rfl⟩ rfl (h1 ⟨k, by omega, c2⟩)
      · rw [ix_N (by omega)] at c2
        refine V.run 0 54 rfl hn trivial ?_
        have := ih (k + 1) (by omega) (fun i hi => by
          rcases Nat.lt_or_ge i k with q | q
          · exact h i q
          · rw [show i = k by omega]; exact c2)
        rw [show ((k + 1 : Nat) : Int) = (k : Int) + 1 by omega, ← iZ_add] at this
        exact this
  exact key (last + 1) 0 (by omega) (fun i hi => by omega)
theorem m_note (hn : 54 ≤ n) (hd : 1 ≤ d) {z a b : Int} (hz : -2147483648 ≤ z ∧ z < 2147483648) (ha : 0 ≤ a ∧ a < 2147483648) (hb : -2147483648 ≤ b ∧ b < 400) (h1 : a ≤ z ∧ z ≤ b → Q none (rho ca cb tr) (up σ 43 z.toNat 1)) (h0 : ¬ (a ≤ z ∧ z ≤ b) → Q none (rho ca cb tr) σ) : Mt M_X9_note d n n [.ref 35, .int (iZ z), .int (iZ a), .int (iZ b)] (rho ca cb tr) σ Q := by
  refine Mt.of rfl (by decide +kernel) tk_X9_note (Nat.le_of_ble_eq_true rfl) ?_
  refine V.run 0 54 rfl hn trivial ?_
  refine V.cs (d' := d - 1) rfl rfl ok_X9_in lk_9_X9_in rfl (by omega) (Nat.le_refl _) (Nat.le_refl _) ((m_in _ _ _ (fun h => ?_) (fun h => ?_)))
  · rw [iZ_long hz, iZ_long (by omega), iZ_long (by omega), lZ_toInt (by omega), lZ_toInt (by omega), lZ_toInt (by omega)] at h
    refine V.brF rfl (by decide) ?_
    refine V.run 0 54 rfl hn ⟨in_iZ (n := 400) (by omega) (by decide), trivial⟩ ?_
    refine V.ret (v := none) rfl rfl rfl rfl ((by rw [ix_iZ (by omega)]; exact h1 h))
  · rw [iZ_long hz, iZ_long (by omega), iZ_long (by omega), lZ_toInt (by omega), lZ_toInt (by omega), lZ_toInt (by omega)] at h
    refine V.brT rfl rfl ?_
    refine V.ret (v := none) rfl rfl rfl rfl ((h0 h))
theorem m_greatest (hn : 54 ≤ n) {last : Nat} (hl : last < 44) {t : Nat → Nat} (ht : ∀ i, i ≤ last → σ 39 i = iZ (t i) ∧ t i < 100000) (h : ∀ g : Nat, (∃ i, i ≤ last ∧ t i = g) ∨ g = 0 → (∀ i, i ≤ last → t i ≤ g) → g < 100000 → Q (some (.int (iZ g))) (rho ca cb tr) σ) : Mt M_X9_greatest d n n [.ref 35, .int (iZ last)] (rho ca cb tr) σ Q := by
  refine Mt.of rfl (by decide +kernel) tk_X9_greatest (Nat.le_of_ble_eq_true rfl) ?_
  refine V.run 4 54 rfl hn trivial ?_
  have key : ∀ j k g : Nat, k + j = last + 1 → ((∃ i, i ≤ last ∧ t i = g) ∨ g = 0) → (∀ i, i < k → t i ≤ g) → g < 100000 → V M_X9_greatest d n n none Q n (rho ca cb tr) σ 4 [some (.ref 35), some (.int (iZ (last))), some (.int (iZ (g))), some (.int (iZ (k)))] [] := by
    intro j
    induction j with
    | zero =>
      intro k g hk hg hm hb
      refine V.run 0 54 rfl hn trivial ?_
      refine V.brT rfl ((iZ_lt (by omega) (by omega)).mpr (by omega)) ?_
      refine V.run 0 54 rfl hn trivial ?_
      refine V.ret (v := some (.int (iZ g))) rfl rfl rfl rfl (h g hg (fun i hi => hm i (by omega)) hb)
    | succ j ih =>
      intro k g hk hg hm hb
      obtain ⟨e1, e2⟩ := ht k (by omega)
      refine V.run 0 54 rfl hn trivial ?_
      refine V.brF rfl (fun c => by have := (iZ_lt (by omega) (by omega)).mp c; omega) ?_
      refine V.run 0 54 rfl hn ⟨in_N (n := 44) (by omega) (by decide), trivial⟩ ?_
      simp only [rf_told, rf_comes, rf_comeMany, rf_comeAt, rf_isSeen, rf_goals, rf_text, rf_taken, rf_roadRow, rf_dueNumber, rf_dueTimes, rf_above, rf_tree, rf_way, rf_signs, rf_spent, rf_read, rf_useMany, rf_lastUse, fi_9_0, fi_9_2, fi_9_3, fi_9_4, fi_9_6, fi_9_7, fi_9_14, fi_9_19, fi_9_24, fi_9_26, fi_9_27, fi_9_30]
      rw [ix_N (by omega), e1]
      refine V.br rfl (fun (c2 : iZ (t k) ≤ iZ g) => ?_) (fun (c2 : ¬ (iZ (t k) ≤ iZ g)) => ?_)
      · rw [iZ_le (by omega) (by omega)] at c2
        refine V.run 0 54 rfl hn trivial ?_
        have := ih (k + 1) g (by omega) hg (fun i hi => by
          rcases Nat.lt_or_ge i k with q | q
          · exact hm i q
          · rw [show i = k by omega]; omega) hb
        rw [show ((k + 1 : Nat) : Int) = (k : Int) + 1 by omega, ← iZ_add] at this
        exact this
      · rw [iZ_le (by omega) (by omega)] at c2
        refine V.run 0 54 rfl hn ⟨in_N (n := 44) (by omega) (by decide), trivial⟩ ?_
        simp only [rf_told, rf_comes, rf_comeMany, rf_comeAt, rf_isSeen, rf_goals, rf_text, rf_taken, rf_roadRow, rf_dueNumber, rf_dueTimes, rf_above, rf_tree, rf_way, rf_signs, rf_spent, rf_read, rf_useMany, rf_lastUse, fi_9_0, fi_9_2, fi_9_3, fi_9_4, fi_9_6, fi_9_7, fi_9_14, fi_9_19, fi_9_24, fi_9_26, fi_9_27, fi_9_30]
        rw [ix_N (by omega), e1]
        refine V.run 0 54 rfl hn trivial ?_
        have := ih (k + 1) (t k) (by omega) (Or.inl ⟨k, by omega, rfl⟩) (fun i hi => by
          rcases Nat.lt_or_ge i k with q | q
          · have := hm i q; omega
          · rw [show i = k by omega]; omega) e2
        rw [show ((k + 1 : Nat) : Int) = (k : Int) + 1 by omega, ← iZ_add] at this
        exact this
  exact key (last + 1) 0 0 (by omega) (Or.inr rfl) (fun i hi => by omega) (by omega)
end MD1
