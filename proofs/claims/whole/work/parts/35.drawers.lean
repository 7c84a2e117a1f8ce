/-! ===== the reference: uses, drawers, power ===== -/
theorem lZ_rem {a b : Int} (ha : 0 ≤ a ∧ a < 9223372036854775808) (hb : 0 < b ∧ b < 9223372036854775808) : lRem (lZ a) (lZ b) = lZ (a % b) := by
  have h1 : 0 ≤ a / b := Int.ediv_nonneg ha.1 (by omega)
  have h2 : a / b ≤ a := Int.ediv_le_self b ha.1
  have e : lZ a / lZ b = lZ (a / b) := by
    apply Int64.toInt.inj
    rw [Int64.toInt_div, lZ_toInt (by omega), lZ_toInt (by omega), lZ_toInt (by omega), Int.tdiv_eq_ediv_of_nonneg ha.1, Int.bmod_def]
    omega
  unfold lRem
  rw [e, lZ_mul, lZ_sub, Int.emod_def, Int.mul_comm]
theorem pow_half (b l : Nat) : b ^ l = (b * b) ^ (l / 2) * (if l % 2 = 1 then b else 1) := by
  rw [← Nat.pow_two, ← Nat.pow_mul]
  split
  · rename_i h
    rw [← Nat.pow_succ]
    congr 1
    omega
  · rename_i h
    rw [Nat.mul_one]
    congr 1
    omega
section MDK
variable {d n ca cb tr : Nat} {Q : PQ} {σ : Mem}
theorem m_uses (hn : 54 ≤ n) (hd : 4 ≤ d) {kind : Nat} {z : Int} {c : List Nat} (hz : -2147483648 ≤ z ∧ z < 2147483648) (hc : chainM σ kind c) (hbad : z < 0 → Q (some (.int (iZ (-1)))) (rho ca cb tr) σ) (hnone : (c.length : Int) ≤ z → Q (some (.int (iZ (-4)))) (rho ca cb tr) σ) (hQ : 0 ≤ z → z < c.length → ∀ (σ' : Mem) (pk : Nat → Nat × Nat), isUse kind c pk c.length → FrU σ σ' → Q (some (.int (iZ (useN pk z.toNat c.length)))) (rho ca cb tr) σ') : Mt M_X9_uses d n n [.ref 35, .int (iZ z)] (rho ca cb tr) σ Q := by
  obtain ⟨c1, c2, c3, c4⟩ := id hc
  obtain ⟨k1, k2, k3, k4, k5⟩ := id c4
  refine Mt.of rfl (by decide +kernel) tk_X9_uses (Nat.le_of_ble_eq_true rfl) ?_
  refine V.run 0 54 rfl hn trivial ?_
  refine V.br rfl (fun (g : 0 ≤ iZ z) => ?_) (fun (g : ¬ (0 ≤ iZ z)) => ?_)
  · rw [iZ_0le (by omega)] at g
    refine V.run 0 54 rfl hn trivial ?_
    try simp only [rf_told, rf_comes, rf_comeMany, rf_comeAt, rf_isSeen, rf_goals, rf_text, rf_taken, rf_roadRow, rf_dueNumber, rf_dueTimes, rf_above, rf_tree, rf_way, rf_signs, rf_spent, rf_read, rf_useMany, rf_lastUse, fi_9_0, fi_9_2, fi_9_3, fi_9_4, fi_9_6, fi_9_7, fi_9_14, fi_9_19, fi_9_24, fi_9_26, fi_9_27, fi_9_30]
    rw [c1]
    refine V.br rfl (fun (g2 : iZ z < iZ c.length) => ?_) (fun (g2 : ¬ (iZ z < iZ c.length)) => ?_)
    · rw [iZ_lt (by omega) (by omega)] at g2
      refine V.run 0 54 rfl hn trivial ?_
      refine V.cv (lo := 54) (d' := d - 1) rfl rfl ok_X9_layUses lk_9_X9_layUses rfl rfl rfl hn (by omega) (Nat.le_refl _) (Nat.le_refl _) ((m_layUses hn (by omega) hc (fun σ2 pk hu hm hf => ?_)))
      refine V.run 0 54 rfl hn ⟨in_iZ (n := 64) (by omega) (by decide), trivial⟩ ?_
      try simp only [rf_told, rf_comes, rf_comeMany, rf_comeAt, rf_isSeen, rf_goals, rf_text, rf_taken, rf_roadRow, rf_dueNumber, rf_dueTimes, rf_above, rf_tree, rf_way, rf_signs, rf_spent, rf_read, rf_useMany, rf_lastUse, fi_9_0, fi_9_2, fi_9_3, fi_9_4, fi_9_6, fi_9_7, fi_9_14, fi_9_19, fi_9_24, fi_9_26, fi_9_27, fi_9_30]
      rw [ix_iZ (by omega), (hm.1 _ (by omega)).1]
      refine V.ret (v := some (.int (iZ (useN pk z.toNat c.length)))) rfl rfl rfl rfl (hQ g g2 σ2 pk hu hf)
    · rw [iZ_lt (by omega) (by omega)] at g2
      refine V.run 0 54 rfl hn trivial ?_
      refine V.ret (v := some (.int (iZ (-4)))) rfl rfl rfl rfl (hnone (by omega))
  · rw [iZ_0le (by omega)] at g
    refine V.run 0 54 rfl hn trivial ?_
    refine V.ret (v := some (.int (iZ (-1)))) rfl rfl rfl rfl (hbad (by omega))
theorem m_drawers (hn : 54 ≤ n) (hd : 4 ≤ d) {kind : Nat} {c : List Nat} (hc : chainM σ kind c) (hQ : ∀ (σ' : Mem) (pk : Nat → Nat × Nat), isUse kind c pk c.length → FrU σ σ' → Q (some (.int (iZ (mostN (fun t => lastN pk t c.length) c.length)))) (rho ca cb tr) σ') : Mt M_X9_drawers d n n [.ref 35] (rho ca cb tr) σ Q := by
  obtain ⟨c1, c2, c3, c4⟩ := id hc
  obtain ⟨k1, k2, k3, k4, k5⟩ := id c4
  refine Mt.of rfl (by decide +kernel) tk_X9_drawers (Nat.le_of_ble_eq_true rfl) ?_
  refine V.run 0 54 rfl hn trivial ?_
  refine V.cv (lo := 54) (d' := d - 1) rfl rfl ok_X9_layUses lk_9_X9_layUses rfl rfl rfl hn (by omega) (Nat.le_refl _) (Nat.le_refl _) ((m_layUses hn (by omega) hc (fun σ2 pk hu hm hf => ?_)))
  obtain ⟨e1, -⟩ := hf.ch hc
  obtain ⟨m1, -⟩ := hm
  obtain ⟨f, hfd⟩ : ∃ f : Nat → Nat, f = fun t => lastN pk t c.length := ⟨_, rfl⟩
  have hfl : ∀ t, f t ≤ c.length := fun t => by rw [hfd]; exact lastN_le pk t c.length
  have m2 : ∀ t, t < c.length → σ2 54 t = iZ (f t) := fun t ht => by rw [hfd]; exact (m1 t ht).2
  have hQ2 := hQ σ2 pk hu hf
  rw [← hfd] at hQ2
  refine V.run 8 54 rfl hn trivial ?_
  have outer : ∀ (p k : Nat) (x3 x4 x5 : Option Value), k + p = c.length → 1 ≤ k → V M_X9_drawers d n n none Q n (rho ca cb tr) σ2 8 [some (.ref 35), some (.int (iZ (mostN f k))), some (.int (iZ (k))), x3, x4, x5] [] := by
    intro p
    induction p with
    | zero =>
      intro k x3 x4 x5 hp hk1
      refine V.run 0 54 rfl hn trivial ?_
      try simp only [rf_told, rf_comes, rf_comeMany, rf_comeAt, rf_isSeen, rf_goals, rf_text, rf_taken, rf_roadRow, rf_dueNumber, rf_dueTimes, rf_above, rf_tree, rf_way, rf_signs, rf_spent, rf_read, rf_useMany, rf_lastUse, fi_9_0, fi_9_2, fi_9_3, fi_9_4, fi_9_6, fi_9_7, fi_9_14, fi_9_19, fi_9_24, fi_9_26, fi_9_27, fi_9_30]
      rw [e1]
      refine V.brT rfl ((iZ_le (by omega) (by omega)).mpr (by omega)) ?_
      have e : k = c.length := by omega
      subst e
      refine V.run 0 54 rfl hn trivial ?_
      refine V.ret (v := some (.int (iZ (mostN f c.length)))) rfl rfl rfl rfl (hQ2)
    | succ p ih =>
      intro k x3 x4 x5 hp hk1
      have hmk := mostN_le f k
      have inner : ∀ (q i : Nat), i + q = k → V M_X9_drawers d n n none Q n (rho ca cb tr) σ2 24 [some (.ref 35), some (.int (iZ (mostN f k))), some (.int (iZ (k))), some (.int (iZ (wantN f k i))), some (.int (iZ ((wantN f (k + 1) i + 1 : Nat)))), some (.int (iZ (i)))] [] := by
        intro q
        induction q with
        | zero =>
          intro i hq
          have e : i = k := by omega
          subst e
          have w1 := wantN_le f i i
          have w2 := wantN_le f (i + 1) i
          have ihk := ih (i + 1) (some (.int (iZ (wantN f i i)))) (some (.int (iZ (wantN f (i + 1) i + 1 : Nat)))) (some (.int (iZ i))) (by omega) (by omega)
          have emx : mostN f (i + 1) = max (max (mostN f i) (wantN f i i)) (wantN f (i + 1) i + 1) := by
            conv => lhs; unfold mostN
            rw [if_neg (by omega)]
          rw [emx, show ((i + 1 : Nat) : Int) = (i : Int) + 1 by omega, ← iZ_add (i : Int) 1] at ihk
          generalize mostN f i = mm at *
          generalize wantN f i i = ww at *
          generalize wantN f (i + 1) i = ll at *
          refine V.run 0 54 rfl hn trivial ?_
          refine V.brT rfl ((iZ_le (by omega) (by omega)).mpr (by omega)) ?_
          have s86 : ∀ m2 : Nat, m2 = max mm ww → V M_X9_drawers d n n none Q n (rho ca cb tr) σ2 86 [some (.ref 35), some (.int (iZ (mm))), some (.int (iZ (i))), some (.int (iZ (ww))), some (.int (iZ ((ll + 1 : Nat)))), some (.int (iZ (i)))] [(.int (iZ (m2)))] := by
            intro m2 hm2
            have s99 : ∀ m3 : Nat, m3 = max m2 (ll + 1) → V M_X9_drawers d n n none Q n (rho ca cb tr) σ2 99 [some (.ref 35), some (.int (iZ (m2))), some (.int (iZ (i))), some (.int (iZ (ww))), some (.int (iZ ((ll + 1 : Nat)))), some (.int (iZ (i)))] [(.int (iZ (m3)))] := by
              intro m3 hm3
              rw [← hm2, ← hm3] at ihk
              refine V.run 0 54 rfl hn trivial ?_
              exact ihk
            refine V.run 0 54 rfl hn trivial ?_
            refine V.br rfl (fun (c1 : iZ (ll + 1 : Nat) ≤ iZ m2) => ?_) (fun (c1 : ¬ (iZ (ll + 1 : Nat) ≤ iZ m2)) => ?_)
            · rw [iZ_le (by omega) (by omega)] at c1
              refine V.run 99 54 rfl hn trivial ?_
              exact s99 m2 (by omega)
            · rw [iZ_le (by omega) (by omega)] at c1
              refine V.run 0 54 rfl hn trivial ?_
              exact s99 (ll + 1) (by omega)
          refine V.run 0 54 rfl hn trivial ?_
          refine V.br rfl (fun (c1 : iZ ww ≤ iZ mm) => ?_) (fun (c1 : ¬ (iZ ww ≤ iZ mm)) => ?_)
          · rw [iZ_le (by omega) (by omega)] at c1
            refine V.run 86 54 rfl hn trivial ?_
            exact s86 mm (by omega)
          · rw [iZ_le (by omega) (by omega)] at c1
            refine V.run 0 54 rfl hn trivial ?_
            exact s86 ww (by omega)
        | succ q ih2 =>
          intro i hq
          have w1 := wantN_le f k i
          have w2 := wantN_le f (k + 1) i
          have hfi := hfl i
          have e54 := m2 i (by omega)
          have ihk := ih2 (i + 1) (by omega)
          have ea : wantN f k (i + 1) = wantN f k i + (if k ≤ f i then 1 else 0) := rfl
          have eb : wantN f (k + 1) (i + 1) = wantN f (k + 1) i + (if k + 1 ≤ f i then 1 else 0) := rfl
          rw [ea, eb, show ((i + 1 : Nat) : Int) = (i : Int) + 1 by omega, ← iZ_add (i : Int) 1] at ihk
          generalize wantN f k i = wa at *
          generalize wantN f (k + 1) i = wb at *
          have s67 : ∀ (a b : Nat), a = wa + (if k ≤ f i then 1 else 0) → b = (if k + 1 ≤ f i then 1 else 0) → V M_X9_drawers d n n none Q n (rho ca cb tr) σ2 67 [some (.ref 35), some (.int (iZ (mostN f k))), some (.int (iZ (k))), some (.int (iZ (a))), some (.int (iZ ((wb + 1 : Nat)))), some (.int (iZ (i)))] [(.int (iZ (b))), (.int (iZ ((wb + 1 : Nat))))] := by
            intro a b ha hb
            rw [← ha, ← hb] at ihk
            refine V.run 0 54 rfl hn trivial ?_
            rw [iZ_add, show ((wb + 1 : Nat) : Int) + b = ((wb + b + 1 : Nat) : Int) by omega]
            exact ihk
          have s47 : ∀ (a : Nat), a = (if k ≤ f i then 1 else 0) → V M_X9_drawers d n n none Q n (rho ca cb tr) σ2 47 [some (.ref 35), some (.int (iZ (mostN f k))), some (.int (iZ (k))), some (.int (iZ (wa))), some (.int (iZ ((wb + 1 : Nat)))), some (.int (iZ (i)))] [(.int (iZ (a))), (.int (iZ (wa)))] := by
            intro a ha
            refine V.run 0 54 rfl hn ⟨in_N (n := 64) (by omega) (by decide), trivial⟩ ?_
            try simp only [rf_told, rf_comes, rf_comeMany, rf_comeAt, rf_isSeen, rf_goals, rf_text, rf_taken, rf_roadRow, rf_dueNumber, rf_dueTimes, rf_above, rf_tree, rf_way, rf_signs, rf_spent, rf_read, rf_useMany, rf_lastUse, fi_9_0, fi_9_2, fi_9_3, fi_9_4, fi_9_6, fi_9_7, fi_9_14, fi_9_19, fi_9_24, fi_9_26, fi_9_27, fi_9_30]
            rw [ix_N (by omega), e54, iZ_add, show (wa : Int) + a = ((wa + a : Nat) : Int) by omega]
            refine V.br rfl (fun (c1 : iZ (f i) ≤ iZ k) => ?_) (fun (c1 : ¬ (iZ (f i) ≤ iZ k)) => ?_)
            · rw [iZ_le (by omega) (by omega)] at c1
              refine V.run 67 54 rfl hn trivial ?_
              exact s67 (wa + a) 0 (by rw [ha]) (by rw [if_neg (by omega)])
            · rw [iZ_le (by omega) (by omega)] at c1
              refine V.run 0 54 rfl hn trivial ?_
              exact s67 (wa + a) 1 (by rw [ha]) (by rw [if_pos (by omega)])
          refine V.run 0 54 rfl hn trivial ?_
          refine V.brF rfl (fun q => by have := (iZ_le (by omega) (by omega)).mp q; omega) ?_
          refine V.run 0 54 rfl hn ⟨in_N (n := 64) (by omega) (by decide), trivial⟩ ?_
          try simp only [rf_told, rf_comes, rf_comeMany, rf_comeAt, rf_isSeen, rf_goals, rf_text, rf_taken, rf_roadRow, rf_dueNumber, rf_dueTimes, rf_above, rf_tree, rf_way, rf_signs, rf_spent, rf_read, rf_useMany, rf_lastUse, fi_9_0, fi_9_2, fi_9_3, fi_9_4, fi_9_6, fi_9_7, fi_9_14, fi_9_19, fi_9_24, fi_9_26, fi_9_27, fi_9_30]
          rw [ix_N (by omega), e54]
          refine V.br rfl (fun (c1 : iZ (f i) < iZ k) => ?_) (fun (c1 : ¬ (iZ (f i) < iZ k)) => ?_)
          · rw [iZ_lt (by omega) (by omega)] at c1
            refine V.run 47 54 rfl hn trivial ?_
            exact s47 0 (by rw [if_neg (by omega)])
          · rw [iZ_lt (by omega) (by omega)] at c1
            refine V.run 0 54 rfl hn trivial ?_
            exact s47 1 (by rw [if_pos (by omega)])
      refine V.run 0 54 rfl hn trivial ?_
      try simp only [rf_told, rf_comes, rf_comeMany, rf_comeAt, rf_isSeen, rf_goals, rf_text, rf_taken, rf_roadRow, rf_dueNumber, rf_dueTimes, rf_above, rf_tree, rf_way, rf_signs, rf_spent, rf_read, rf_useMany, rf_lastUse, fi_9_0, fi_9_2, fi_9_3, fi_9_4, fi_9_6, fi_9_7, fi_9_14, fi_9_19, fi_9_24, fi_9_26, fi_9_27, fi_9_30]
      rw [e1]
      refine V.brF rfl (fun q => by have := (iZ_le (by omega) (by omega)).mp q; omega) ?_
      refine V.run 24 54 rfl hn trivial ?_
      exact inner k 0 (by omega)
  exact outer (c.length - 1) 1 none none none (by omega) (by omega)
theorem m_power (hn : 54 ≤ n) (hd : 2 ≤ d) {kind : Nat} {x m : Int} {c : List Nat} (hx : -2147483648 ≤ x ∧ x < 2147483648) (hm : -2147483648 ≤ m ∧ m < 2147483648) (hc : chainM σ kind c) (hbad : ¬ ((0 ≤ x ∧ x ≤ 1000000) ∧ 2 ≤ m ∧ m ≤ 1000000) → Q (some (.int (iZ (-1)))) (rho ca cb tr) σ) (hQ : (0 ≤ x ∧ x ≤ 1000000) ∧ 2 ≤ m ∧ m ≤ 1000000 → Q (some (.int (iZ (x.toNat ^ lastD c % m.toNat : Nat)))) (rho ca cb tr) σ) : Mt M_X9_power d n n [.ref 35, .int (iZ x), .int (iZ m)] (rho ca cb tr) σ Q := by
  obtain ⟨c1, c2, c3, c4⟩ := id hc
  obtain ⟨k1, k2, k3, k4, k5⟩ := id c4
  refine Mt.of rfl (by decide +kernel) tk_X9_power (Nat.le_of_ble_eq_true rfl) ?_
  refine V.run 0 54 rfl hn trivial ?_
  refine V.cs (d' := d - 1) rfl rfl ok_X9_in lk_9_X9_in rfl (by omega) (Nat.le_refl _) (Nat.le_refl _) ((m_inZ (by omega) (by omega) (by omega) (fun g => ?_) (fun g => ?_)))
  · refine V.brF rfl (by decide) ?_
    refine V.run 0 54 rfl hn trivial ?_
    refine V.cs (d' := d - 1) rfl rfl ok_X9_in lk_9_X9_in rfl (by omega) (Nat.le_refl _) (Nat.le_refl _) ((m_inZ (by omega) (by omega) (by omega) (fun g2 => ?_) (fun g2 => ?_)))
    · have hQ2 := hQ ⟨g, g2⟩
      obtain ⟨X, rfl⟩ : ∃ X : Nat, x = X := ⟨x.toNat, by omega⟩
      obtain ⟨W, rfl⟩ : ∃ W : Nat, m = W := ⟨m.toNat, by omega⟩
      rw [Int.toNat_natCast, Int.toNat_natCast] at hQ2
      have hlast := k4 _ (getD_mem2 (r := c) (i := c.length - 1) (by omega))
      rw [lastD_eq (by omega)] at hQ2
      have eidx : iZ (c.length : Int) - iZ 1 = iZ ((c.length - 1 : Nat) : Int) := by
        rw [iZ_sub]
        exact iZ_pat (by omega)
      refine V.brF rfl (by decide) ?_
      refine V.run 49 54 rfl hn ⟨(fun q => by have := (iZ_eq0 (a := (W : Int)) (by omega)).mp q; omega), by (rw [c1, eidx]; exact in_N (n := 64) (by omega) (by decide)), trivial⟩ ?_
      try simp only [rf_told, rf_comes, rf_comeMany, rf_comeAt, rf_isSeen, rf_goals, rf_text, rf_taken, rf_roadRow, rf_dueNumber, rf_dueTimes, rf_above, rf_tree, rf_way, rf_signs, rf_spent, rf_read, rf_useMany, rf_lastUse, fi_9_0, fi_9_2, fi_9_3, fi_9_4, fi_9_6, fi_9_7, fi_9_14, fi_9_19, fi_9_24, fi_9_26, fi_9_27, fi_9_30]
      have hxm : X % W < W := Nat.mod_lt _ (by omega)
      rw [c1, eidx, ix_N (by omega), c3 _ (by omega), iZ_rem (by omega) (by omega), ← Int.natCast_emod, iZ_long (by omega)]
      generalize hE : c.getD (c.length - 1) 0 = E at *
      have key : ∀ (fu v b l : Nat), l < fu → v < W → b < W → l ≤ 99999 → (v * b ^ l) % W = X ^ E % W → V M_X9_power d n n none Q n (rho ca cb tr) σ 49 [some (.ref 35), some (.int (iZ (X))), some (.int (iZ (W))), some (.long (lZ v)), none, some (.long (lZ b)), none, some (.int (iZ (l)))] [] := by
        intro fu
        induction fu with
        | zero => intro v b l h; omega
        | succ fu ih =>
          intro v b l hl hv hb hl2 hinv
          refine V.run 0 54 rfl hn trivial ?_
          refine V.br rfl (fun (c5 : iZ l ≤ 0) => ?_) (fun (c5 : ¬ (iZ l ≤ 0)) => ?_)
          · rw [iZ_le0 (by omega)] at c5
            have e0 : l = 0 := by omega
            subst e0
            refine V.run 0 54 rfl hn trivial ?_
            rw [lZ_int (by omega)]
            rw [Nat.pow_zero, Nat.mul_one, Nat.mod_eq_of_lt hv] at hinv
            rw [← hinv] at hQ2
            refine V.ret (v := some (.int (iZ v))) rfl rfl rfl rfl (hQ2)
          · rw [iZ_le0 (by omega)] at c5
            have hvb : v * b < 1000000 * 1000000 := Nat.mul_lt_mul_of_lt_of_le (by omega) (by omega) (by omega)
            have hbb : b * b < 1000000 * 1000000 := Nat.mul_lt_mul_of_lt_of_le (by omega) (by omega) (by omega)
            have hbm : b * b % W < W := Nat.mod_lt _ (by omega)
            have hvm : v * b % W < W := Nat.mod_lt _ (by omega)
            have eW : lZ (W : Int) ≠ 0 := by
              intro q
              have := congrArg Int64.toInt q
              rw [lZ_toInt (by omega)] at this
              have e0 : (0 : Int64).toInt = 0 := by decide
              omega
            have hph := pow_half b l
            have ebb : (b : Int) * b = ((b * b : Nat) : Int) := by simp
            have evb : (v : Int) * b = ((v * b : Nat) : Int) := by simp
            have tail : ∀ v2 : Nat, v2 < W → (v2 * (b * b % W) ^ (l / 2)) % W = X ^ E % W → V M_X9_power d n n none Q n (rho ca cb tr) σ 73 [some (.ref 35), some (.int (iZ (X))), some (.int (iZ (W))), some (.long (lZ v)), none, some (.long (lZ b)), none, some (.int (iZ (l)))] [(.long (lZ v2))] := by
              intro v2 hv2 hi2
              refine V.run 0 54 rfl hn ⟨by rw [iZ_long (by omega)]; exact eW, by decide, trivial⟩ ?_
              rw [iZ_long (by omega), lZ_mul, ebb, lZ_rem (by omega) (by omega), ← Int.natCast_emod, iZ_div (by omega) (by omega), show (l : Int) / 2 = ((l / 2 : Nat) : Int) by omega]
              exact ih v2 (b * b % W) (l / 2) (by omega) hv2 hbm (by omega) hi2
            refine V.run 0 54 rfl hn ⟨by decide, trivial⟩ ?_
            rw [iZ_rem (by omega) (by omega)]
            refine V.br rfl (fun (c6 : iZ ((l : Int) % 2) = iZ 1) => ?_) (fun (c6 : ¬ (iZ ((l : Int) % 2) = iZ 1)) => ?_)
            · rw [iZ_eq (by omega) (by omega)] at c6
              refine V.run 0 54 rfl hn ⟨by rw [iZ_long (by omega)]; exact eW, trivial⟩ ?_
              rw [iZ_long (by omega), lZ_mul, evb, lZ_rem (by omega) (by omega), ← Int.natCast_emod]
              refine tail _ hvm ?_
              rw [if_pos (by omega)] at hph
              rw [← hinv, hph, Nat.mul_mod, Nat.pow_mod, Nat.mod_mod, Nat.mod_mod, ← Nat.pow_mod, ← Nat.mul_mod, Nat.mul_comm ((b * b) ^ (l / 2)) b, Nat.mul_assoc]
            · rw [iZ_eq (by omega) (by omega)] at c6
              refine V.run 73 54 rfl hn trivial ?_
              refine tail _ hv ?_
              rw [if_neg (by omega), Nat.mul_one] at hph
              rw [← hinv, hph, Nat.mul_mod, Nat.pow_mod, Nat.mod_mod, ← Nat.pow_mod, ← Nat.mul_mod]
      refine key 100000 1 (X % W) E (by omega) (by omega) (Nat.mod_lt _ (by omega)) (by omega) ?_
      rw [Nat.one_mul, ← Nat.pow_mod]
    · refine V.brT rfl rfl ?_
      refine V.run 0 54 rfl hn trivial ?_
      refine V.ret (v := some (.int (iZ (-1)))) rfl rfl rfl rfl (hbad (fun q => g2 q.2))
  · refine V.brT rfl rfl ?_
    refine V.run 0 54 rfl hn trivial ?_
    refine V.ret (v := some (.int (iZ (-1)))) rfl rfl rfl rfl (hbad (fun q => g q.1))
end MDK
