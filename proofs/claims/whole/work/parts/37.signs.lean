/-! ===== the reference: signs, leastPrime, isRoad ===== -/
def nxW (w : Nat) : Nat := if w % 4 = 3 then (w + 1) / 2 else w / 2
def sgW (w : Nat) : Int := if w % 2 = 0 then 0 else 2 - ((w % 4 : Nat) : Int)
def wN (N k : Nat) : Nat := match k with
  | 0 => N
  | k + 1 => nxW (wN N k)
def sgL (N k : Nat) (L : List Nat) : List Nat := match k with
  | 0 => L
  | k + 1 => sgL N k (if sgW (wN N k) = 0 then goL L (2 * wN N (k + 1)) else goL (goL L (2 * wN N (k + 1))) (wN N k))
theorem wsg (w : Nat) : (w : Int) - sgW w = 2 * (nxW w : Int) ∧ (sgW w = 0 ∨ sgW w = 1 ∨ sgW w = -1) := by
  unfold sgW nxW
  rcases (show w % 4 = 0 ∨ w % 4 = 1 ∨ w % 4 = 2 ∨ w % 4 = 3 by omega) with h | h | h | h
  · rw [if_pos (by omega), if_neg (by omega)]; omega
  · rw [if_neg (by omega), if_neg (by omega), h]; omega
  · rw [if_pos (by omega), if_neg (by omega)]; omega
  · rw [if_neg (by omega), if_pos h, h]; omega
theorem wN_le (N : Nat) : ∀ k, wN N k ≤ N
  | 0 => Nat.le_refl _
  | k + 1 => by
    have := wN_le N k
    show nxW (wN N k) ≤ N
    unfold nxW
    split <;> omega
def mnW (N : Nat) : Nat := ((List.range 24).find? (fun k => decide (wN N k = 0))).getD 0
theorem wN_bd {N : Nat} (h : N ≤ 100000) : wN N 18 = 0 := by
  have e : ∀ k, wN N (k + 1) = nxW (wN N k) := fun _ => rfl
  have h0 : wN N 0 ≤ 174762 := by show N ≤ _; omega
  have h1 : wN N 1 ≤ 87381 := by rw [e]; unfold nxW; split <;> omega
  have h2 : wN N 2 ≤ 43690 := by rw [e]; unfold nxW; split <;> omega
  have h3 : wN N 3 ≤ 21845 := by rw [e]; unfold nxW; split <;> omega
  have h4 : wN N 4 ≤ 10922 := by rw [e]; unfold nxW; split <;> omega
  have h5 : wN N 5 ≤ 5461 := by rw [e]; unfold nxW; split <;> omega
  have h6 : wN N 6 ≤ 2730 := by rw [e]; unfold nxW; split <;> omega
  have h7 : wN N 7 ≤ 1365 := by rw [e]; unfold nxW; split <;> omega
  have h8 : wN N 8 ≤ 682 := by rw [e]; unfold nxW; split <;> omega
  have h9 : wN N 9 ≤ 341 := by rw [e]; unfold nxW; split <;> omega
  have h10 : wN N 10 ≤ 170 := by rw [e]; unfold nxW; split <;> omega
  have h11 : wN N 11 ≤ 85 := by rw [e]; unfold nxW; split <;> omega
  have h12 : wN N 12 ≤ 42 := by rw [e]; unfold nxW; split <;> omega
  have h13 : wN N 13 ≤ 21 := by rw [e]; unfold nxW; split <;> omega
  have h14 : wN N 14 ≤ 10 := by rw [e]; unfold nxW; split <;> omega
  have h15 : wN N 15 ≤ 5 := by rw [e]; unfold nxW; split <;> omega
  have h16 : wN N 16 ≤ 2 := by rw [e]; unfold nxW; split <;> omega
  have h17 : wN N 17 ≤ 1 := by rw [e]; unfold nxW; split <;> omega
  have h18 : wN N 18 ≤ 0 := by rw [e]; unfold nxW; split <;> omega
  omega
theorem mnW_ok {N : Nat} (h : 1 ≤ N ∧ N ≤ 100000) : wN N (mnW N) = 0 ∧ 1 ≤ mnW N ∧ mnW N ≤ 18 ∧ (∀ k, k < mnW N → 0 < wN N k) ∧ wN N (mnW N - 1) = 1 := by
  have hb := wN_bd h.2
  have main : wN N (mnW N) = 0 ∧ mnW N ≤ 18 ∧ (∀ k, k < mnW N → 0 < wN N k) := by
    unfold mnW
    cases hf : (List.range 24).find? (fun k => decide (wN N k = 0)) with
    | none =>
      rw [List.find?_eq_none] at hf
      have := hf 18 (List.mem_range.mpr (by omega))
      simp only [decide_eq_true_eq] at this
      exact absurd hb this
    | some F =>
      rw [List.find?_range_eq_some] at hf
      obtain ⟨f1, f2, f3⟩ := hf
      simp only [Option.getD_some]
      refine ⟨by simpa using f1, ?_, fun k hk => ?_⟩
      · rcases Nat.lt_or_ge 18 F with q | q
        · have := f3 18 q
          simp only [Bool.not_eq_true', decide_eq_false_iff_not] at this
          exact absurd hb this
        · exact q
      · have := f3 k hk
        simp only [Bool.not_eq_true', decide_eq_false_iff_not] at this
        omega
  obtain ⟨m1, m2, m3⟩ := main
  have m4 : 1 ≤ mnW N := by
    rcases Nat.eq_zero_or_pos (mnW N) with q | q
    · rw [q] at m1
      have : N = 0 := m1
      omega
    · exact q
  refine ⟨m1, m4, m2, m3, ?_⟩
  obtain ⟨k, hk⟩ : ∃ k, mnW N = k + 1 := ⟨mnW N - 1, by omega⟩
  have h1 := m3 k (by omega)
  rw [hk] at m1
  rw [hk, Nat.add_sub_cancel]
  have h2 : nxW (wN N k) = 0 := m1
  unfold nxW at h2
  split at h2 <;> omega
section MDM
variable {d n ca cb tr : Nat} {Q : PQ} {σ : Mem} {ρ : Ref}
theorem m_signs (hn : 54 ≤ n) (hd : 2 ≤ d) {N : Nat} {L : List Nat} (hN : 1 ≤ N ∧ N ≤ 100000) (hL : L.length ≤ 50) (hr : roadM σ L) (hQ : ∀ σ', roadM σ' (sgL N (mnW N - 1) L) → Fr [35, 44, 50] σ σ' → (∀ j, j ≠ 14 → σ' 35 j = σ 35 j) → Q none (rho ca cb tr) σ') : Mt M_X9_signs d n n [.ref 35, .int (iZ N)] (rho ca cb tr) σ Q := by
  obtain ⟨g1, g2, g3, g4, g5⟩ := mnW_ok hN
  have hwl := wN_le N
  refine Mt.of rfl (by decide +kernel) tk_X9_signs (Nat.le_of_ble_eq_true rfl) ?_
  refine V.run 4 54 rfl hn trivial ?_
  -- the numbers
  have loop : ∀ (k : Nat) (L1 : List Nat) (σ1 : Mem), k + 1 ≤ mnW N → L1.length + 2 * k ≤ 100 → roadM σ1 L1 → Fr [35, 44, 50] σ σ1 → (∀ j, j ≠ 14 → σ1 35 j = σ 35 j) → (∀ i, i < mnW N → σ1 50 i = iZ (sgW (wN N i))) → (∀ σ', roadM σ' (sgL N k L1) → Fr [35, 44, 50] σ σ' → (∀ j, j ≠ 14 → σ' 35 j = σ 35 j) → Q none (rho ca cb tr) σ') → V M_X9_signs d n n none Q n (rho ca cb tr) σ1 55 [some (.ref 35), some (.int (iZ (N))), some (.int (iZ (mnW N))), some (.int (iZ (wN N k))), some (.int (iZ ((k : Int) - 1)))] [] := by
    intro k
    induction k with
    | zero =>
      intro L1 σ1 hk hl hr1 hf h35 h50 hQ1
      refine V.run 0 54 rfl hn trivial ?_
      refine V.brT rfl (by decide) ?_
      refine V.ret (v := none) rfl rfl rfl rfl (hQ1 σ1 hr1 hf h35)
    | succ k ih =>
      intro L1 σ1 hk hl hr1 hf h35 h50 hQ1
      have w1 := hwl (k + 1)
      have w0 := hwl k
      have e50 := h50 k (by omega)
      have hws := wsg (wN N k)
      have ew : nxW (wN N k) = wN N (k + 1) := rfl
      rw [ew] at hws
      have l1 := goL_len L1 (2 * wN N (k + 1))
      have l2 := goL_len (goL L1 (2 * wN N (k + 1))) (wN N k)
      have hrow : sgL N (k + 1) L1 = sgL N k (if sgW (wN N k) = 0 then goL L1 (2 * wN N (k + 1)) else goL (goL L1 (2 * wN N (k + 1))) (wN N k)) := rfl
      rw [hrow] at hQ1
      refine V.run 0 54 rfl hn trivial ?_
      refine V.brF rfl (fun q => by have := (iZ_lt0 (by omega)).mp q; omega) ?_
      refine V.run 0 54 rfl hn trivial ?_
      rw [iZ_mul, show (wN N (k + 1) : Int) * 2 = ((2 * wN N (k + 1) : Nat) : Int) by omega]
      refine V.cv (lo := 54) (d' := d - 1) rfl rfl ok_X9_go lk_9_X9_go rfl rfl rfl hn (by omega) (Nat.le_refl _) (Nat.le_refl _) ((m_go hn (by omega) (by omega) (by omega) hr1 (fun σ2 hr2 hf2 => ?_)))
      have f50 : σ2 50 = σ1 50 := hf2.1 50 (by decide)
      have ek : ((k + 1 : Nat) : Int) - 1 = (k : Int) := by omega
      rw [ek]
      refine V.run 0 54 rfl hn ⟨in_N (n := 24) (by omega) (by decide), trivial⟩ ?_
      try simp only [rf_told, rf_comes, rf_comeMany, rf_comeAt, rf_isSeen, rf_goals, rf_text, rf_taken, rf_roadRow, rf_dueNumber, rf_dueTimes, rf_above, rf_tree, rf_way, rf_signs, rf_spent, rf_read, rf_useMany, rf_lastUse, fi_9_0, fi_9_2, fi_9_3, fi_9_4, fi_9_6, fi_9_7, fi_9_14, fi_9_19, fi_9_24, fi_9_26, fi_9_27, fi_9_30]
      rw [ix_N (by omega), f50, e50]
      refine V.br rfl (fun (c : iZ (sgW (wN N k)) = 0) => ?_) (fun (c : ¬ (iZ (sgW (wN N k)) = 0)) => ?_)
      · rw [iZ_eq0 (by omega)] at c
        rw [if_pos c] at hQ1
        refine V.run 0 54 rfl hn trivial ?_
        have := ih (goL L1 (2 * wN N (k + 1))) σ2 (by omega) (by omega) hr2 (hf.tr (hf2.1.mono (by simp))) (fun j hj => by rw [hf2.2 j hj]; exact h35 j hj) (fun i hi => by rw [f50]; exact h50 i hi) hQ1
        rw [show (wN N k : Int) = ((2 * wN N (k + 1) : Nat) : Int) by omega, show (k : Int) - 1 = (k : Int) + (-1) by omega, ← iZ_add (k : Int) (-1)] at this
        exact this
      · rw [iZ_eq0 (by omega)] at c
        rw [if_neg c] at hQ1
        refine V.run 0 54 rfl hn ⟨in_N (n := 24) (by omega) (by decide), trivial⟩ ?_
        try simp only [rf_told, rf_comes, rf_comeMany, rf_comeAt, rf_isSeen, rf_goals, rf_text, rf_taken, rf_roadRow, rf_dueNumber, rf_dueTimes, rf_above, rf_tree, rf_way, rf_signs, rf_spent, rf_read, rf_useMany, rf_lastUse, fi_9_0, fi_9_2, fi_9_3, fi_9_4, fi_9_6, fi_9_7, fi_9_14, fi_9_19, fi_9_24, fi_9_26, fi_9_27, fi_9_30]
        rw [ix_N (by omega), f50, e50, iZ_add, show ((2 * wN N (k + 1) : Nat) : Int) + sgW (wN N k) = (wN N k : Int) by omega]
        refine V.cv (lo := 54) (d' := d - 1) rfl rfl ok_X9_go lk_9_X9_go rfl rfl rfl hn (by omega) (Nat.le_refl _) (Nat.le_refl _) ((m_go hn (by omega) (by omega) (by omega) hr2 (fun σ3 hr3 hf3 => ?_)))
        have f50b : σ3 50 = σ1 50 := by rw [hf3.1 50 (by decide), f50]
        refine V.run 0 54 rfl hn trivial ?_
        have := ih (goL (goL L1 (2 * wN N (k + 1))) (wN N k)) σ3 (by omega) (by omega) hr3 (hf.tr ((hf2.tr hf3).1.mono (by simp))) (fun j hj => by rw [hf3.2 j hj, hf2.2 j hj]; exact h35 j hj) (fun i hi => by rw [f50b]; exact h50 i hi) hQ1
        rw [show (k : Int) - 1 = (k : Int) + (-1) by omega, ← iZ_add (k : Int) (-1)] at this
        exact this
  -- the signs
  have sg : ∀ (j k : Nat) (σ1 : Mem) (x4 : Option Value), k + j = mnW N → Fr [50] σ σ1 → (∀ i, i < k → σ1 50 i = iZ (sgW (wN N i))) → V M_X9_signs d n n none Q n (rho ca cb tr) σ1 4 [some (.ref 35), some (.int (iZ (N))), some (.int (iZ (k))), some (.int (iZ (wN N k))), x4] [] := by
    intro j
    induction j with
    | zero =>
      intro k σ1 x4 hk hf h50
      have e : k = mnW N := by omega
      subst e
      rw [g1]
      refine V.run 0 54 rfl hn trivial ?_
      refine V.brT rfl (by decide) ?_
      refine V.run 55 54 rfl hn trivial ?_
      rw [iZ_sub]
      have := loop (mnW N - 1) L σ1 (by omega) (by omega) ⟨by rw [hf 35 (by decide)]; exact hr.1, fun i hi => by rw [hf 44 (by decide)]; exact hr.2.1 i hi, hr.2.2⟩ (hf.mono (by simp)) (fun j _ => by rw [hf 35 (by decide)]) h50 hQ
      rw [g5, show ((mnW N - 1 : Nat) : Int) - 1 = (mnW N : Int) - 2 by omega] at this
      exact this
    | succ j ih =>
      intro k σ1 x4 hk hf h50
      have hpos := g4 k (by omega)
      have hle := hwl k
      have hws := wsg (wN N k)
      have ew : nxW (wN N k) = wN N (k + 1) := rfl
      rw [ew] at hws
      have s28 : ∀ s : Int, s = sgW (wN N k) → V M_X9_signs d n n none Q n (rho ca cb tr) σ1 28 [some (.ref 35), some (.int (iZ (N))), some (.int (iZ (k))), some (.int (iZ (wN N k))), x4] [(.int (iZ (s))), (.int (iZ (k))), (.ref 50)] := by
        intro s hs
        refine V.run 0 54 rfl hn ⟨in_N (n := 24) (by omega) (by decide), in_N (n := 24) (by omega) (by decide), by decide, trivial⟩ ?_
        try simp only [rf_told, rf_comes, rf_comeMany, rf_comeAt, rf_isSeen, rf_goals, rf_text, rf_taken, rf_roadRow, rf_dueNumber, rf_dueTimes, rf_above, rf_tree, rf_way, rf_signs, rf_spent, rf_read, rf_useMany, rf_lastUse, fi_9_0, fi_9_2, fi_9_3, fi_9_4, fi_9_6, fi_9_7, fi_9_14, fi_9_19, fi_9_24, fi_9_26, fi_9_27, fi_9_30]
        rw [ix_N (by omega), up_at, iZ_sub, hs, hws.1, iZ_div (by omega) (by omega), show 2 * (wN N (k + 1) : Int) / 2 = (wN N (k + 1) : Int) by omega]
        have := ih (k + 1) (up σ1 50 k (iZ (sgW (wN N k)))) x4 (by omega) (hf.putT (by simp)) (fun i hi => by
          by_cases e : i = k
          · subst e; exact up_at
          · rw [up_nat e]; exact h50 i (by omega))
        rw [show ((k + 1 : Nat) : Int) = (k : Int) + 1 by omega, ← iZ_add (k : Int) 1] at this
        exact this
      refine V.run 0 54 rfl hn trivial ?_
      refine V.brF rfl (fun q => by have := (iZ_le0 (by omega)).mp q; omega) ?_
      refine V.run 0 54 rfl hn ⟨by decide, trivial⟩ ?_
      rw [iZ_rem (by omega) (by omega)]
      refine V.br rfl (fun (c : iZ ((wN N k : Int) % 2) = 0) => ?_) (fun (c : ¬ (iZ ((wN N k : Int) % 2) = 0)) => ?_)
      · rw [iZ_eq0 (by omega)] at c
        refine V.run 0 54 rfl hn trivial ?_
        exact s28 0 (by unfold sgW; rw [if_pos (by omega)])
      · rw [iZ_eq0 (by omega)] at c
        refine V.run 28 54 rfl hn ⟨by decide, trivial⟩ ?_
        rw [iZ_rem (by omega) (by omega), iZ_sub]
        exact s28 _ (by unfold sgW; rw [if_neg (by omega)]; omega)
  exact sg (mnW N) 0 σ none (by omega) Fr.rf (fun i hi => by omega)
theorem m_isRoad (hd : 2 ≤ d) {R N W : Int} (hR : -2147483648 ≤ R ∧ R < 2147483648) (hN : -2147483648 ≤ N ∧ N < 2147483648) (hW : -2147483648 ≤ W ∧ W < 2147483648) (h1 : (0 ≤ R ∧ R ≤ 4) ∧ (1 ≤ N ∧ N ≤ (if R = 3 then 1000 else 100000)) ∧ (R = 1 → 2 ≤ W ∧ W ≤ 4) → Q (some (.int 1)) ρ σ) (h0 : ¬ ((0 ≤ R ∧ R ≤ 4) ∧ (1 ≤ N ∧ N ≤ (if R = 3 then 1000 else 100000)) ∧ (R = 1 → 2 ≤ W ∧ W ≤ 4)) → Q (some (.int 0)) ρ σ) : Mt M_X9_isRoad d n n [.int (iZ R), .int (iZ N), .int (iZ W)] ρ σ Q := by
  refine Mt.of rfl (by decide +kernel) tk_X9_isRoad (Nat.le_of_ble_eq_true rfl) ?_
  have s58 : ¬ ((0 ≤ R ∧ R ≤ 4) ∧ (1 ≤ N ∧ N ≤ (if R = 3 then 1000 else 100000)) ∧ (R = 1 → 2 ≤ W ∧ W ≤ 4)) → V M_X9_isRoad d n n none Q n ρ σ 58 [some (.int (iZ (R))), some (.int (iZ (N))), some (.int (iZ (W)))] [] := by
    intro g
    refine V.run 0 0 rfl (Nat.zero_le _) trivial ?_
    refine V.ret (v := some (.int 0)) rfl rfl ⟨rfl, Or.inl rfl⟩ rfl (h0 g)
  have s54 : ((0 ≤ R ∧ R ≤ 4) ∧ (1 ≤ N ∧ N ≤ (if R = 3 then 1000 else 100000)) ∧ (R = 1 → 2 ≤ W ∧ W ≤ 4)) → V M_X9_isRoad d n n none Q n ρ σ 54 [some (.int (iZ (R))), some (.int (iZ (N))), some (.int (iZ (W)))] [] := by
    intro g
    refine V.run 0 0 rfl (Nat.zero_le _) trivial ?_
    refine V.run 0 0 rfl (Nat.zero_le _) trivial ?_
    refine V.ret (v := some (.int 1)) rfl rfl ⟨rfl, Or.inr rfl⟩ rfl (h1 g)
  have s35 : 0 ≤ R ∧ R ≤ 4 → 1 ≤ N ∧ N ≤ (if R = 3 then 1000 else 100000) → V M_X9_isRoad d n n none Q n ρ σ 35 [some (.int (iZ (R))), some (.int (iZ (N))), some (.int (iZ (W)))] [] := by
    intro g g2
    refine V.run 0 0 rfl (Nat.zero_le _) trivial ?_
    refine V.br rfl (fun (c : iZ R = iZ 1) => ?_) (fun (c : ¬ (iZ R = iZ 1)) => ?_)
    · rw [iZ_eq (by omega) (by omega)] at c
      refine V.run 0 0 rfl (Nat.zero_le _) trivial ?_
      refine V.cs (d' := d - 1) rfl rfl ok_X9_in lk_9_X9_in rfl (by omega) (Nat.le_refl _) (Nat.le_refl _) ((m_inZ (by omega) (by omega) (by omega) (fun g3 => ?_) (fun g3 => ?_)))
      · refine V.brF rfl (by decide) ?_
        exact s54 ⟨g, g2, fun _ => g3⟩
      · refine V.brT rfl rfl ?_
        exact s58 (fun q => g3 (q.2.2 c))
    · rw [iZ_eq (by omega) (by omega)] at c
      exact s54 ⟨g, g2, fun h => absurd h c⟩
  refine V.run 0 0 rfl (Nat.zero_le _) trivial ?_
  refine V.cs (d' := d - 1) rfl rfl ok_X9_in lk_9_X9_in rfl (by omega) (Nat.le_refl _) (Nat.le_refl _) ((m_inZ (by omega) (by omega) (by omega) (fun g => ?_) (fun g => ?_)))
  · refine V.brF rfl (by decide) ?_
    refine V.run 0 0 rfl (Nat.zero_le _) trivial ?_
    refine V.br rfl (fun (c : iZ R = iZ 3) => ?_) (fun (c : ¬ (iZ R = iZ 3)) => ?_)
    · rw [iZ_eq (by omega) (by omega)] at c
      rw [if_pos c] at s35 s58
      refine V.run 0 0 rfl (Nat.zero_le _) trivial ?_
      refine V.cs (d' := d - 1) rfl rfl ok_X9_in lk_9_X9_in rfl (by omega) (Nat.le_refl _) (Nat.le_refl _) ((m_inZ (by omega) (by omega) (by omega) (fun g2 => ?_) (fun g2 => ?_)))
      · refine V.brF rfl (by decide) ?_
        exact s35 g g2
      · refine V.brT rfl rfl ?_
        exact s58 (fun q => g2 q.2.1)
    · rw [iZ_eq (by omega) (by omega)] at c
      rw [if_neg c] at s35 s58
      refine V.run 0 0 rfl (Nat.zero_le _) trivial ?_
      refine V.cs (d' := d - 1) rfl rfl ok_X9_in lk_9_X9_in rfl (by omega) (Nat.le_refl _) (Nat.le_refl _) ((m_inZ (by omega) (by omega) (by omega) (fun g2 => ?_) (fun g2 => ?_)))
      · refine V.brF rfl (by decide) ?_
        exact s35 g g2
      · refine V.brT rfl rfl ?_
        exact s58 (fun q => g2 q.2.1)
  · refine V.brT rfl rfl ?_
    exact s58 (fun q => g q.1)
end MDM
