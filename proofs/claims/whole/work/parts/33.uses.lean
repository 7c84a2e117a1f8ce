/-! ===== the reference: fault, take, chain, uses ===== -/
def CH (kind : Nat) (c : List Nat) : Prop := 1 ≤ c.length ∧ c.length ≤ 64 ∧ wfC kind c ∧ (∀ x ∈ c, 1 ≤ x ∧ x ≤ 99999) ∧ kind ≤ 3
theorem CH.row {kind : Nat} {c : List Nat} (h : CH kind c) : ∀ k, k ≤ c.length → rowOk kind (c.take k)
  | 0, _ => by simp [rowOk]
  | k + 1, hk => by
    have ih := CH.row h k (by omega)
    have hm := h.2.2.1 k (by omega)
    have hb := h.2.2.2.1 _ (getD_mem2 (r := c) (i := k) (by omega))
    rw [take_getD (by omega)]
    refine rowOk_app ih ?_ hb hm
    rw [List.length_take]
    have := h.2.1
    omega
def chainM (σ : Mem) (kind : Nat) (c : List Nat) : Prop := σ 35 6 = iZ c.length ∧ σ 35 7 = iZ kind ∧ (∀ i, i < c.length → σ 38 i = iZ (c.getD i 0)) ∧ CH kind c
def useN (pk : Nat → Nat × Nat) (t m : Nat) : Nat := match m with
  | 0 => 0
  | m + 1 => useN pk t m + (if m = 0 then 0 else ((if (pk m).1 = t then 1 else 0) + (if (pk m).2 = t then 1 else 0)))
def lastN (pk : Nat → Nat × Nat) (t m : Nat) : Nat := match m with
  | 0 => 0
  | m + 1 => if m ≠ 0 ∧ ((pk m).1 = t ∨ (pk m).2 = t) then m else lastN pk t m
def dblN (pk : Nat → Nat × Nat) (m : Nat) : Nat := match m with
  | 0 => 0
  | m + 1 => dblN pk m + (if m ≠ 0 ∧ (pk m).1 = (pk m).2 then 1 else 0)
def isUse (kind : Nat) (c : List Nat) (pk : Nat → Nat × Nat) (m : Nat) : Prop := ∀ k, 1 ≤ k → k < m → pickI kind (c.take k) (c.getD k 0) (pk k).1 (pk k).2
theorem useN_le (pk : Nat → Nat × Nat) (t : Nat) : ∀ m, useN pk t m ≤ 2 * m
  | 0 => Nat.le_refl _
  | m + 1 => by
    have := useN_le pk t m
    unfold useN
    repeat' split
    all_goals omega
theorem lastN_le (pk : Nat → Nat × Nat) (t : Nat) : ∀ m, lastN pk t m ≤ m
  | 0 => Nat.le_refl _
  | m + 1 => by
    have := lastN_le pk t m
    unfold lastN
    split <;> omega
theorem useN_up (pk : Nat → Nat × Nat) (q : Nat × Nat) (t : Nat) : ∀ {m M : Nat}, m ≤ M → useN (fun k => if k = M then q else pk k) t m = useN pk t m ∧ lastN (fun k => if k = M then q else pk k) t m = lastN pk t m ∧ dblN (fun k => if k = M then q else pk k) m = dblN pk m
  | 0, M, _ => ⟨rfl, rfl, rfl⟩
  | m + 1, M, h => by
    obtain ⟨i1, i2, i3⟩ := useN_up pk q t (m := m) (M := M) (by omega)
    have e : (if m = M then q else pk m) = pk m := if_neg (by omega)
    unfold useN lastN dblN
    simp only [e, i1, i2, i3]
    exact ⟨trivial, trivial, trivial⟩
/-- what layUses leaves -/
def usesM (σ : Mem) (c : List Nat) (pk : Nat → Nat × Nat) (m : Nat) : Prop := (∀ t, t < c.length → σ 53 t = iZ (useN pk t m) ∧ σ 54 t = iZ (lastN pk t m)) ∧ σ 35 30 = iZ (dblN pk m)
def FrU (σ σ' : Mem) : Prop := Fr [35, 52, 53, 54] σ σ' ∧ ∀ j, j ≠ 24 → j ≠ 26 → j ≠ 27 → j ≠ 30 → σ' 35 j = σ 35 j
theorem FrU.rf {σ : Mem} : FrU σ σ := ⟨Fr.rf, fun _ _ _ _ _ => rfl⟩
theorem FrU.tr {σ σ1 σ2 : Mem} (h1 : FrU σ σ1) (h2 : FrU σ1 σ2) : FrU σ σ2 := ⟨h1.1.tr h2.1, fun j a b c e => (h2.2 j a b c e).trans (h1.2 j a b c e)⟩
theorem FrU.ch {σ σ' : Mem} {kind : Nat} {c : List Nat} (h : FrU σ σ') (hc : chainM σ kind c) : chainM σ' kind c := ⟨by rw [h.2 6 (by decide) (by decide) (by decide) (by decide)]; exact hc.1, by rw [h.2 7 (by decide) (by decide) (by decide) (by decide)]; exact hc.2.1, fun i hi => by rw [h.1 38 (by decide)]; exact hc.2.2.1 i hi, hc.2.2.2⟩
section MDI
variable {d n ca cb tr : Nat} {Q : PQ} {σ : Mem}
theorem m_fault (hn : 54 ≤ n) (hd : 4 ≤ d) {z : Int} {tx : List Nat} (hz : -2147483648 ≤ z ∧ z < 2147483648) (ht : textM σ tx) (hbad : ¬ (0 ≤ z ∧ z ≤ 3) → Q (some (.int (iZ (-1)))) (rho ca cb tr) σ) (hQ : 0 ≤ z ∧ z ≤ 3 → ∀ (σ' : Mem) (res : Int) (rf : List Nat), rdP z.toNat tx 121 0 [] res rf → FrR σ σ' → Q (some (.int (iZ res))) (rho ca cb tr) σ') : Mt M_X9_fault d n n [.ref 35, .int (iZ z)] (rho ca cb tr) σ Q := by
  refine Mt.of rfl (by decide +kernel) tk_X9_fault (Nat.le_of_ble_eq_true rfl) ?_
  refine V.run 0 54 rfl hn trivial ?_
  refine V.cs (d' := d - 1) rfl rfl ok_X9_in lk_9_X9_in rfl (by omega) (Nat.le_refl _) (Nat.le_refl _) ((m_inZ (by omega) (by omega) (by omega) (fun g => ?_) (fun g => ?_)))
  · have hQ2 := hQ g
    obtain ⟨kind, rfl⟩ : ∃ k : Nat, z = k := ⟨z.toNat, by omega⟩
    rw [Int.toNat_natCast] at hQ2
    refine V.brF rfl (by decide) ?_
    refine V.run 0 54 rfl hn trivial ?_
    refine V.cv (lo := 54) (d' := d - 1) rfl rfl ok_X9_readAll lk_9_X9_readAll rfl rfl rfl hn (by omega) (Nat.le_refl _) (Nat.le_refl _) ((m_readAll hn (by omega) (by omega) ht (fun σ2 res rf h1 h2 h3 h4 h5 h6 h7 => ?_)))
    refine V.run 0 54 rfl hn trivial ?_
    refine V.ret (v := some (.int (iZ res))) rfl rfl rfl rfl (hQ2 σ2 res rf h1 h7)
  · refine V.brT rfl rfl ?_
    refine V.run 0 54 rfl hn trivial ?_
    refine V.ret (v := some (.int (iZ (-1)))) rfl rfl rfl rfl (hbad g)
theorem m_chain (hn : 54 ≤ n) {kind : Nat} {z : Int} {c : List Nat} (hz : -2147483648 ≤ z ∧ z < 2147483648) (hc : chainM σ kind c) (hQ : Q (some (.int (iZ (if z < 0 then -1 else if z < c.length then (c.getD z.toNat 0 : Nat) else -4)))) (rho ca cb tr) σ) : Mt M_X9_chain d n n [.ref 35, .int (iZ z)] (rho ca cb tr) σ Q := by
  obtain ⟨c1, c2, c3, c4⟩ := hc
  obtain ⟨k1, k2, k3, k4, k5⟩ := c4
  refine Mt.of rfl (by decide +kernel) tk_X9_chain (Nat.le_of_ble_eq_true rfl) ?_
  refine V.run 0 54 rfl hn trivial ?_
  refine V.br rfl (fun (g : 0 ≤ iZ z) => ?_) (fun (g : ¬ (0 ≤ iZ z)) => ?_)
  · rw [iZ_0le (by omega)] at g
    rw [if_neg (by omega)] at hQ
    refine V.run 0 54 rfl hn trivial ?_
    try simp only [rf_told, rf_comes, rf_comeMany, rf_comeAt, rf_isSeen, rf_goals, rf_text, rf_taken, rf_roadRow, rf_dueNumber, rf_dueTimes, rf_above, rf_tree, rf_way, rf_signs, rf_spent, rf_read, rf_useMany, rf_lastUse, fi_9_0, fi_9_2, fi_9_3, fi_9_4, fi_9_6, fi_9_7, fi_9_14, fi_9_19, fi_9_24, fi_9_26, fi_9_27, fi_9_30]
    rw [c1]
    refine V.br rfl (fun (g2 : iZ c.length ≤ iZ z) => ?_) (fun (g2 : ¬ (iZ c.length ≤ iZ z)) => ?_)
    · rw [iZ_le (by omega) (by omega)] at g2
      rw [if_neg (by omega)] at hQ
      refine V.run 0 54 rfl hn trivial ?_
      refine V.ret (v := some (.int (iZ (-4)))) rfl rfl rfl rfl (hQ)
    · rw [iZ_le (by omega) (by omega)] at g2
      rw [if_pos (by omega)] at hQ
      refine V.run 0 54 rfl hn ⟨in_iZ (n := 64) (by omega) (by decide), trivial⟩ ?_
      try simp only [rf_told, rf_comes, rf_comeMany, rf_comeAt, rf_isSeen, rf_goals, rf_text, rf_taken, rf_roadRow, rf_dueNumber, rf_dueTimes, rf_above, rf_tree, rf_way, rf_signs, rf_spent, rf_read, rf_useMany, rf_lastUse, fi_9_0, fi_9_2, fi_9_3, fi_9_4, fi_9_6, fi_9_7, fi_9_14, fi_9_19, fi_9_24, fi_9_26, fi_9_27, fi_9_30]
      rw [ix_iZ (by omega), c3 _ (by omega)]
      refine V.run 0 54 rfl hn trivial ?_
      refine V.ret (v := some (.int (iZ (c.getD z.toNat 0)))) rfl rfl rfl rfl (hQ)
  · rw [iZ_0le (by omega)] at g
    rw [if_pos (by omega)] at hQ
    refine V.run 0 54 rfl hn trivial ?_
    refine V.run 0 54 rfl hn trivial ?_
    refine V.ret (v := some (.int (iZ (-1)))) rfl rfl rfl rfl (hQ)
theorem m_take (hn : 54 ≤ n) (hd : 4 ≤ d) {z : Int} {tx : List Nat} (hz : -2147483648 ≤ z ∧ z < 2147483648) (ht : textM σ tx) (hbad : ¬ (0 ≤ z ∧ z ≤ 3) → Q (some (.int (iZ (-1)))) (rho ca cb tr) σ) (hno : 0 ≤ z ∧ z ≤ 3 → ∀ (σ' : Mem) (res : Int) (rf : List Nat), rdP z.toNat tx 121 0 [] res rf → res ≠ -4 → FrR σ σ' → Q (some (.int (iZ (-2)))) (rho ca cb tr) σ') (hQ : 0 ≤ z ∧ z ≤ 3 → ∀ (σ' : Mem) (rf : List Nat), rdP z.toNat tx 121 0 [] (-4) rf → chainM σ' z.toNat rf → Fr [35, 38, 52] σ σ' → (∀ j, j ≠ 6 → j ≠ 7 → j ≠ 24 → j ≠ 26 → j ≠ 27 → σ' 35 j = σ 35 j) → Q (some (.int (iZ ((rf.length : Int) - 1)))) (rho ca cb tr) σ') : Mt M_X9_take d n n [.ref 35, .int (iZ z)] (rho ca cb tr) σ Q := by
  refine Mt.of rfl (by decide +kernel) tk_X9_take (Nat.le_of_ble_eq_true rfl) ?_
  refine V.run 0 54 rfl hn trivial ?_
  refine V.cs (d' := d - 1) rfl rfl ok_X9_in lk_9_X9_in rfl (by omega) (Nat.le_refl _) (Nat.le_refl _) ((m_inZ (by omega) (by omega) (by omega) (fun g => ?_) (fun g => ?_)))
  · have hQ2 := hQ g
    have hno2 := hno g
    obtain ⟨kind, rfl⟩ : ∃ k : Nat, z = k := ⟨z.toNat, by omega⟩
    rw [Int.toNat_natCast] at hQ2 hno2
    refine V.brF rfl (by decide) ?_
    refine V.run 0 54 rfl hn trivial ?_
    refine V.cv (lo := 54) (d' := d - 1) rfl rfl ok_X9_readAll lk_9_X9_readAll rfl rfl rfl hn (by omega) (Nat.le_refl _) (Nat.le_refl _) ((m_readAll hn (by omega) (by omega) ht (fun σ2 res rf h1 h2 h3 h4 h5 h6 h7 => ?_)))
    refine V.run 0 54 rfl hn trivial ?_
    refine V.br rfl (fun (c : iZ res = iZ (-4)) => ?_) (fun (c : ¬ (iZ res = iZ (-4))) => ?_)
    · rw [iZ_eq (by omega) (by omega)] at c
      subst c
      have hne : 1 ≤ rf.length := by
        have := h3 rfl
        rcases Nat.eq_zero_or_pos rf.length with q | q
        · exact absurd (List.eq_nil_of_length_eq_zero q) this
        · omega
      obtain ⟨q1, q2⟩ := id h4
      have hlr := h5.1
      refine V.run 42 54 rfl hn trivial ?_
      try simp only [rf_told, rf_comes, rf_comeMany, rf_comeAt, rf_isSeen, rf_goals, rf_text, rf_taken, rf_roadRow, rf_dueNumber, rf_dueTimes, rf_above, rf_tree, rf_way, rf_signs, rf_spent, rf_read, rf_useMany, rf_lastUse, fi_9_0, fi_9_2, fi_9_3, fi_9_4, fi_9_6, fi_9_7, fi_9_14, fi_9_19, fi_9_24, fi_9_26, fi_9_27, fi_9_30]
      rw [q1]
      generalize hσ3 : up (up σ2 35 6 (iZ rf.length)) 35 7 (iZ kind) = σ3
      have e6 : σ3 35 6 = iZ rf.length := by rw [← hσ3, up_nat (by decide), up_at]
      have e7 : σ3 35 7 = iZ kind := by rw [← hσ3, up_at]
      have e24 : σ3 35 24 = iZ rf.length := by rw [← hσ3, up_nat (by decide), up_nat (by decide)]; exact q1
      have e52 : σ3 52 = σ2 52 := by rw [← hσ3, up_ne (by decide), up_ne (by decide)]
      have hf3 : Fr [35] σ2 σ3 := by rw [← hσ3]; exact Fr.putT (Fr.put (by simp)) (by simp)
      have h35 : ∀ j, j ≠ 6 → j ≠ 7 → σ3 35 j = σ2 35 j := fun j a b => by rw [← hσ3, up_nat b, up_nat a]
      have key : ∀ (j k : Nat) (σ4 : Mem), k + j = rf.length → Fr [38] σ3 σ4 → (∀ i, i < k → σ4 38 i = iZ (rf.getD i 0)) → V M_X9_take d n n none Q n (rho ca cb tr) σ4 42 [some (.ref 35), some (.int (iZ (kind))), some (.int (iZ (k)))] [] := by
        intro j
        induction j with
        | zero =>
          intro k σ4 hk hf4 h38
          have f35 : σ4 35 = σ3 35 := hf4 35 (by decide)
          refine V.run 0 54 rfl hn trivial ?_
          try simp only [rf_told, rf_comes, rf_comeMany, rf_comeAt, rf_isSeen, rf_goals, rf_text, rf_taken, rf_roadRow, rf_dueNumber, rf_dueTimes, rf_above, rf_tree, rf_way, rf_signs, rf_spent, rf_read, rf_useMany, rf_lastUse, fi_9_0, fi_9_2, fi_9_3, fi_9_4, fi_9_6, fi_9_7, fi_9_14, fi_9_19, fi_9_24, fi_9_26, fi_9_27, fi_9_30]
          rw [f35, e24]
          refine V.brT rfl ((iZ_le (by omega) (by omega)).mpr (by omega)) ?_
          refine V.run 0 54 rfl hn trivial ?_
          try simp only [rf_told, rf_comes, rf_comeMany, rf_comeAt, rf_isSeen, rf_goals, rf_text, rf_taken, rf_roadRow, rf_dueNumber, rf_dueTimes, rf_above, rf_tree, rf_way, rf_signs, rf_spent, rf_read, rf_useMany, rf_lastUse, fi_9_0, fi_9_2, fi_9_3, fi_9_4, fi_9_6, fi_9_7, fi_9_14, fi_9_19, fi_9_24, fi_9_26, fi_9_27, fi_9_30]
          rw [f35, e6, iZ_sub]
          refine V.ret (v := some (.int (iZ ((rf.length : Int) - 1)))) rfl rfl rfl rfl (?_)
          refine hQ2 σ4 rf h1 ⟨by rw [f35]; exact e6, by rw [f35]; exact e7, fun i hi => h38 i (by omega), by omega, hlr, h6, h5.2.1, by omega⟩ ((h7.1.mono (by simp)).tr ((hf3.mono (by simp)).tr (hf4.mono (by simp)))) (fun j a b c e f => ?_)
          rw [f35, h35 j a b]
          exact h7.2 j c e f
        | succ j ih =>
          intro k σ4 hk hf4 h38
          have f35 : σ4 35 = σ3 35 := hf4 35 (by decide)
          have f52 : σ4 52 = σ2 52 := by rw [hf4 52 (by decide), e52]
          refine V.run 0 54 rfl hn trivial ?_
          try simp only [rf_told, rf_comes, rf_comeMany, rf_comeAt, rf_isSeen, rf_goals, rf_text, rf_taken, rf_roadRow, rf_dueNumber, rf_dueTimes, rf_above, rf_tree, rf_way, rf_signs, rf_spent, rf_read, rf_useMany, rf_lastUse, fi_9_0, fi_9_2, fi_9_3, fi_9_4, fi_9_6, fi_9_7, fi_9_14, fi_9_19, fi_9_24, fi_9_26, fi_9_27, fi_9_30]
          rw [f35, e24]
          refine V.brF rfl (fun q => by have := (iZ_le (by omega) (by omega)).mp q; omega) ?_
          refine V.run 0 54 rfl hn ⟨in_N (n := 64) (by omega) (by decide), in_N (n := 64) (by omega) (by decide), trivial⟩ ?_
          try simp only [rf_told, rf_comes, rf_comeMany, rf_comeAt, rf_isSeen, rf_goals, rf_text, rf_taken, rf_roadRow, rf_dueNumber, rf_dueTimes, rf_above, rf_tree, rf_way, rf_signs, rf_spent, rf_read, rf_useMany, rf_lastUse, fi_9_0, fi_9_2, fi_9_3, fi_9_4, fi_9_6, fi_9_7, fi_9_14, fi_9_19, fi_9_24, fi_9_26, fi_9_27, fi_9_30]
          rw [ix_N (by omega), f52, q2 k (by omega)]
          have := ih (k + 1) (up σ4 38 k (iZ (rf.getD k 0))) (by omega) (hf4.putT (by simp)) (fun i hi => by
            by_cases e : i = k
            · subst e; exact up_at
            · rw [up_nat e]; exact h38 i (by omega))
          rw [show ((k + 1 : Nat) : Int) = (k : Int) + 1 by omega, ← iZ_add] at this
          exact this
      exact key rf.length 0 σ3 (by omega) Fr.rf (fun i hi => by omega)
    · rw [iZ_eq (by omega) (by omega)] at c
      refine V.run 0 54 rfl hn trivial ?_
      refine V.ret (v := some (.int (iZ (-2)))) rfl rfl rfl rfl (hno2 σ2 res rf h1 c h7)
  · refine V.brT rfl rfl ?_
    refine V.run 0 54 rfl hn trivial ?_
    refine V.ret (v := some (.int (iZ (-1)))) rfl rfl rfl rfl (hbad g)
end MDI
