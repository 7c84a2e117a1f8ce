/-! ===== the reference: figures, whole ===== -/
theorem mnF_ok {N w : Nat} (hN : 1 ≤ N ∧ N ≤ 100000) (hw : 2 ≤ w ∧ w ≤ 4) : N / 2 ^ (w * mnF N w) = 0 ∧ 1 ≤ mnF N w ∧ mnF N w ≤ 9 ∧ w * mnF N w ≤ 20 ∧ ∀ k, 1 ≤ k → k < mnF N w → 0 < N / 2 ^ (w * k) := by
  have big : ∀ K : Nat, 17 ≤ w * K → N / 2 ^ (w * K) = 0 := fun K hK => by
    apply Nat.div_eq_of_lt
    have h1 : (2 : Nat) ^ 17 ≤ 2 ^ (w * K) := Nat.pow_le_pow_right (by decide) hK
    have h2 : (2 : Nat) ^ 17 = 131072 := by decide
    omega
  have low : ∀ K : Nat, 1 ≤ K → 17 ≤ w * K → mnF N w ≤ K ∧ 1 ≤ mnF N w ∧ N / 2 ^ (w * mnF N w) = 0 ∧ ∀ k, 1 ≤ k → k < mnF N w → 0 < N / 2 ^ (w * k) := by
    intro K hK1 hK
    by_cases hK12 : K < 12
    · unfold mnF
      cases hf : (List.range 12).find? (fun k => decide (1 ≤ k) && decide (N / 2 ^ (w * k) = 0)) with
      | none =>
        rw [List.find?_eq_none] at hf
        have := hf K (List.mem_range.mpr hK12)
        simp only [Bool.and_eq_true, decide_eq_true_eq, not_and] at this
        exact absurd (big K hK) (this hK1)
      | some F =>
        rw [List.find?_range_eq_some] at hf
        obtain ⟨f1, f2, f3⟩ := hf
        simp only [Bool.and_eq_true, decide_eq_true_eq] at f1
        simp only [Option.getD_some]
        refine ⟨?_, f1.1, f1.2, fun k h1 hk => ?_⟩
        · rcases Nat.lt_or_ge K F with q | q
          · have := f3 K q
            simp only [Bool.not_eq_true', Bool.and_eq_false_iff, decide_eq_false_iff_not] at this
            rcases this with h | h
            · exact absurd hK1 h
            · exact absurd (big K hK) h
          · exact q
        · have := f3 k hk
          simp only [Bool.not_eq_true', Bool.and_eq_false_iff, decide_eq_false_iff_not] at this
          rcases this with h | h
          · exact absurd h1 h
          · exact Nat.pos_of_ne_zero h
    · unfold mnF
      cases hf : (List.range 12).find? (fun k => decide (1 ≤ k) && decide (N / 2 ^ (w * k) = 0)) with
      | none =>
        rw [List.find?_eq_none] at hf
        have := hf 9 (List.mem_range.mpr (by omega))
        simp only [Bool.and_eq_true, decide_eq_true_eq, not_and] at this
        exact absurd (big 9 (by omega)) (this (by omega))
      | some F =>
        rw [List.find?_range_eq_some] at hf
        obtain ⟨f1, f2, f3⟩ := hf
        simp only [Bool.and_eq_true, decide_eq_true_eq] at f1
        have f2 := List.mem_range.mp f2
        simp only [Option.getD_some]
        refine ⟨by omega, f1.1, f1.2, fun k h1 hk => ?_⟩
        have := f3 k hk
        simp only [Bool.not_eq_true', Bool.and_eq_false_iff, decide_eq_false_iff_not] at this
        rcases this with h | h
        · exact absurd h1 h
        · exact Nat.pos_of_ne_zero h
  rcases (show w = 2 ∨ w = 3 ∨ w = 4 by omega) with rfl | rfl | rfl
  · obtain ⟨a, b, c, e⟩ := low 9 (by omega) (by omega)
    exact ⟨c, b, by omega, by omega, e⟩
  · obtain ⟨a, b, c, e⟩ := low 6 (by omega) (by omega)
    exact ⟨c, b, by omega, by omega, e⟩
  · obtain ⟨a, b, c, e⟩ := low 5 (by omega) (by omega)
    exact ⟨c, b, by omega, by omega, e⟩
theorem fg_split (N w k : Nat) : N / 2 ^ (w * (k + 1)) = N / 2 ^ (w * k) / 2 ^ w := by
  rw [Nat.mul_succ, Nat.pow_add, Nat.div_div_eq_div_mul]
section MDN
variable {d n ca cb tr : Nat} {Q : PQ} {σ : Mem} {ρ : Ref}
theorem m_figures (hn : 54 ≤ n) (hd : 2 ≤ d) {N w : Nat} (hN : 1 ≤ N ∧ N ≤ 100000) (hw : 2 ≤ w ∧ w ≤ 4) (hr : roadM σ [1]) (hQ : ∀ σ', roadM σ' (fgL N w (mnF N w - 1) (bsL (2 ^ w - 1))) → FrG σ σ' → Q none (rho ca cb tr) σ') : Mt M_X9_figures d n n [.ref 35, .int (iZ N), .int (iZ w)] (rho ca cb tr) σ Q := by
  obtain ⟨g1, g2, g3, g4, g5⟩ := mnF_ok hN hw
  have hp1 : 4 ≤ 2 ^ w := by have : (2 : Nat) ^ 2 ≤ 2 ^ w := Nat.pow_le_pow_right (by decide) hw.1; simpa using this
  have hp2 : 2 ^ w ≤ 16 := by have : (2 : Nat) ^ w ≤ 2 ^ 4 := Nat.pow_le_pow_right (by decide) hw.2; simpa using this
  have hdv : ∀ k, N / 2 ^ k ≤ N := fun k => Nat.div_le_self _ _
  have esh : ∀ k : Nat, k < 32 → iZ (N : Int) >>> (iZ (k : Int) &&& 31) = iZ ((N / 2 ^ k : Nat) : Int) := fun k hk => by
    rw [iZ_shr (by omega) hk]
    exact iZ_pat (by simp)
  have e1w : iZ 1 <<< (iZ (w : Int) &&& 31) = iZ ((2 ^ w : Nat) : Int) := by
    rw [iZ_shl (by omega)]
    exact iZ_pat (by simp)
  have e1z : iZ ((2 ^ w : Nat) : Int) = iZ ((2 : Int) ^ w) := iZ_pat (by simp)
  refine Mt.of rfl (by decide +kernel) tk_X9_figures (Nat.le_of_ble_eq_true rfl) ?_
  refine V.run 2 54 rfl hn trivial ?_
  -- sorting does nothing
  have sort : ∀ (L : List Nat) (σ1 : Mem), roadM σ1 L → riseL L → L.length ≤ 119 → Q none (rho ca cb tr) σ1 → ∀ (j i : Nat) (x3 : Option Value) (y4 : Int32) (x6 x7 : Option Value), i + j = L.length → 1 ≤ i → V M_X9_figures d n n none Q n (rho ca cb tr) σ1 123 [some (.ref 35), some (.int (iZ (N))), some (.int (iZ (w))), x3, some (.int (y4)), some (.int (iZ (i))), x6, x7] [] := by
    intro L σ1 hr1 hri hl hq j
    obtain ⟨r1, r2, r3⟩ := hr1
    induction j with
    | zero =>
      intro i x3 y4 x6 x7 hi h1
      refine V.run 0 54 rfl hn trivial ?_
      try simp only [rf_told, rf_comes, rf_comeMany, rf_comeAt, rf_isSeen, rf_goals, rf_text, rf_taken, rf_roadRow, rf_dueNumber, rf_dueTimes, rf_above, rf_tree, rf_way, rf_signs, rf_spent, rf_read, rf_useMany, rf_lastUse, fi_9_0, fi_9_2, fi_9_3, fi_9_4, fi_9_6, fi_9_7, fi_9_14, fi_9_19, fi_9_24, fi_9_26, fi_9_27, fi_9_30]
      rw [r1]
      refine V.brT rfl ((iZ_le (by omega) (by omega)).mpr (by omega)) ?_
      refine V.ret (v := none) rfl rfl rfl rfl (hq)
    | succ j ih =>
      intro i x3 y4 x6 x7 hi h1
      have hb1 := r3 _ (getD_mem2 (r := L) (i := i) (by omega))
      have hb2 := r3 _ (getD_mem2 (r := L) (i := i - 1) (by omega))
      have hlt := hri (i - 1) (by omega)
      rw [Nat.sub_add_cancel h1] at hlt
      have ei : iZ (i : Int) - iZ 1 = iZ ((i - 1 : Nat) : Int) := by
        rw [iZ_sub]
        exact iZ_pat (by omega)
      refine V.run 0 54 rfl hn trivial ?_
      try simp only [rf_told, rf_comes, rf_comeMany, rf_comeAt, rf_isSeen, rf_goals, rf_text, rf_taken, rf_roadRow, rf_dueNumber, rf_dueTimes, rf_above, rf_tree, rf_way, rf_signs, rf_spent, rf_read, rf_useMany, rf_lastUse, fi_9_0, fi_9_2, fi_9_3, fi_9_4, fi_9_6, fi_9_7, fi_9_14, fi_9_19, fi_9_24, fi_9_26, fi_9_27, fi_9_30]
      rw [r1]
      refine V.brF rfl (fun q => by have := (iZ_le (by omega) (by omega)).mp q; omega) ?_
      refine V.run 0 54 rfl hn trivial ?_
      refine V.brF rfl (fun q => by have := (iZ_le0 (by omega)).mp q; omega) ?_
      refine V.run 0 54 rfl hn ⟨in_N (n := 120) (by omega) (by decide), by rw [ei]; exact in_N (n := 120) (by omega) (by decide), trivial⟩ ?_
      try simp only [rf_told, rf_comes, rf_comeMany, rf_comeAt, rf_isSeen, rf_goals, rf_text, rf_taken, rf_roadRow, rf_dueNumber, rf_dueTimes, rf_above, rf_tree, rf_way, rf_signs, rf_spent, rf_read, rf_useMany, rf_lastUse, fi_9_0, fi_9_2, fi_9_3, fi_9_4, fi_9_6, fi_9_7, fi_9_14, fi_9_19, fi_9_24, fi_9_26, fi_9_27, fi_9_30]
      rw [ei, ix_N (by omega), ix_N (by omega), r2 i (by omega), r2 (i - 1) (by omega)]
      refine V.brT rfl ((iZ_le (by omega) (by omega)).mpr (by omega)) ?_
      refine V.run 0 54 rfl hn trivial ?_
      have := ih (i + 1) x3 y4 (some (.int (iZ i))) x7 (by omega) (by omega)
      rw [show ((i + 1 : Nat) : Int) = (i : Int) + 1 by omega, ← iZ_add (i : Int) 1] at this
      exact this
  -- by figures
  have loop : ∀ (k : Nat) (L : List Nat) (σ1 : Mem) (x6 x7 : Option Value), k + 1 ≤ mnF N w → L.length + (w + 1) * k ≤ 119 → roadM σ1 L → fgI w (N / 2 ^ (w * k)) L → FrG σ σ1 → (∀ σ', roadM σ' (fgL N w k L) → FrG σ σ' → Q none (rho ca cb tr) σ') → V M_X9_figures d n n none Q n (rho ca cb tr) σ1 50 [some (.ref 35), some (.int (iZ (N))), some (.int (iZ (w))), some (.int (iZ (mnF N w))), some (.int (iZ ((N / 2 ^ (w * k) : Nat)))), some (.int (iZ ((k : Int) - 1))), x6, x7] [] := by
    intro k
    induction k with
    | zero =>
      intro L σ1 x6 x7 hk hl hr1 hI hf hQ1
      refine V.run 0 54 rfl hn trivial ?_
      refine V.brT rfl (by decide) ?_
      refine V.run 123 54 rfl hn trivial ?_
      exact sort L σ1 hr1 hI.1 (by omega) (hQ1 σ1 hr1 hf) (L.length - 1) 1 _ _ _ _ (by have := hI.2.1; omega) (by omega)
    | succ k ih =>
      intro L σ1 x6 x7 hk hl hr1 hI hf hQ1
      have hq0 := hdv (w * k)
      have hsp := fg_split N w k
      have hwk : w * k ≤ 20 := Nat.le_trans (Nat.mul_le_mul_left w (show k ≤ mnF N w by omega)) g4
      have hls : (w + 1) * (k + 1) = (w + 1) * k + (w + 1) := Nat.mul_succ _ _
      have hrow : fgL N w (k + 1) L = fgL N w k (if N / 2 ^ (w * k) % 2 ^ w = 0 then dbG w (N / 2 ^ (w * (k + 1))) L else goL (dbG w (N / 2 ^ (w * (k + 1))) L) (N / 2 ^ (w * k))) := rfl
      rw [hrow] at hQ1
      have hshk := esh (w * k) (by omega)
      generalize hqd : N / 2 ^ (w * k) = q at *
      rw [hsp] at hI hQ1 ⊢
      have hdm : 2 ^ w * (q / 2 ^ w) + q % 2 ^ w = q := Nat.div_add_mod q (2 ^ w)
      have hml : q % 2 ^ w < 2 ^ w := Nat.mod_lt _ (by omega)
      -- the doublings
      have dbl : ∀ (t i v : Nat) (L1 : List Nat) (σ2 : Mem), i + t = w → 2 ^ t * v ≤ 100000 → L1.length + t + (w + 1) * k + 1 ≤ 119 → roadM σ2 L1 → FrG σ σ2 → fgI w v L1 → (∀ σ3, roadM σ3 (dbG t v L1) → fgI w (2 ^ t * v) (dbG t v L1) → (dbG t v L1).length + (w + 1) * k + 1 ≤ 119 → FrG σ σ3 → V M_X9_figures d n n none Q n (rho ca cb tr) σ3 82 [some (.ref 35), some (.int (iZ (N))), some (.int (iZ (w))), some (.int (iZ (mnF N w))), some (.int (iZ ((2 ^ t * v : Nat)))), some (.int (iZ (k))), some (.int (iZ ((w : Nat)))), x7] []) → V M_X9_figures d n n none Q n (rho ca cb tr) σ2 58 [some (.ref 35), some (.int (iZ (N))), some (.int (iZ (w))), some (.int (iZ (mnF N w))), some (.int (iZ (v))), some (.int (iZ (k))), some (.int (iZ (i))), x7] [] := by
        intro t
        induction t with
        | zero =>
          intro i v L1 σ2 hi hv hl1 hr2 hf2 hI2 hK
          have K := hK σ2 hr2 (by rw [Nat.pow_zero, Nat.one_mul]; exact hI2) (by show L1.length + _ + 1 ≤ _; omega) hf2
          rw [Nat.pow_zero, Nat.one_mul] at K
          refine V.run 0 54 rfl hn trivial ?_
          refine V.brT rfl ((iZ_le (by omega) (by omega)).mpr (by omega)) ?_
          rw [show i = w by omega]
          exact K
        | succ t iht =>
          intro i v L1 σ2 hi hv hl1 hr2 hf2 hI2 hK
          have hp : 1 ≤ 2 ^ t := Nat.one_le_two_pow
          have hv2 : 2 ^ t * (2 * v) ≤ 100000 := by
            rw [Nat.pow_succ, Nat.mul_assoc] at hv
            exact hv
          have hv3 : 2 * v ≤ 100000 := Nat.le_trans (Nat.le_mul_of_pos_left _ (by omega)) hv2
          have gl := (goL_len L1 (2 * v)).1
          refine V.run 0 54 rfl hn trivial ?_
          refine V.brF rfl (fun q => by have := (iZ_le (by omega) (by omega)).mp q; omega) ?_
          refine V.run 0 54 rfl hn trivial ?_
          rw [iZ_mul, show (v : Int) * 2 = ((2 * v : Nat) : Int) by omega]
          refine V.cv (lo := 54) (d' := d - 1) rfl rfl ok_X9_go lk_9_X9_go rfl rfl rfl hn (by omega) (Nat.le_refl _) (Nat.le_refl _) ((m_go hn (by omega) (by omega) (by omega) hr2 (fun σ3 hr3 hf3 => ?_)))
          refine V.run 0 54 rfl hn trivial ?_
          have := iht (i + 1) (2 * v) (goL L1 (2 * v)) σ3 (by omega) hv2 (by omega) hr3 (hf2.tr hf3) (fgI_dbl (by omega) hI2) (fun σ4 h1 h2 h3 h4 => by
            have K := hK σ4 h1 (by rw [Nat.pow_succ, Nat.mul_assoc]; exact h2) h3 h4
            rw [Nat.pow_succ, Nat.mul_assoc] at K
            exact K)
          rw [show ((i + 1 : Nat) : Int) = (i : Int) + 1 by omega, ← iZ_add (i : Int) 1] at this
          exact this
      have ek : ((k + 1 : Nat) : Int) - 1 = (k : Int) := by omega
      rw [ek]
      refine V.run 0 54 rfl hn trivial ?_
      refine V.brF rfl (fun q => by have := (iZ_lt0 (by omega)).mp q; omega) ?_
      refine V.run 58 54 rfl hn trivial ?_
      refine dbl w 0 (q / 2 ^ w) L σ1 (by omega) (by omega) (by omega) hr1 hf hI (fun σ3 hr3 hI3 hl3 hf3 => ?_)
      refine V.run 0 54 rfl hn trivial ?_
      have emk : iZ (w : Int) * iZ (k : Int) = iZ ((w * k : Nat) : Int) := by
        rw [iZ_mul]
        exact iZ_pat (by simp)
      rw [emk, hshk, e1w, e1z, andW (by omega) (by omega)]
      refine V.br rfl (fun (c : iZ ((q % 2 ^ w : Nat) : Int) ≤ 0) => ?_) (fun (c : ¬ (iZ ((q % 2 ^ w : Nat) : Int) ≤ 0)) => ?_)
      · rw [iZ_le0 (by omega)] at c
        have c0 : q % 2 ^ w = 0 := by omega
        rw [if_pos c0] at hQ1
        have eq1 : 2 ^ w * (q / 2 ^ w) = q := by omega
        rw [eq1] at hI3
        refine V.run 0 54 rfl hn trivial ?_
        have := ih (dbG w (q / 2 ^ w) L) σ3 (some (.int (iZ ((q % 2 ^ w : Nat) : Int)))) x7 (by omega) (by omega) hr3 hI3 hf3 hQ1
        rw [show (k : Int) - 1 = (k : Int) + (-1) by omega, ← iZ_add (k : Int) (-1)] at this
        rw [eq1]
        exact this
      · rw [iZ_le0 (by omega)] at c
        have c0 : ¬ q % 2 ^ w = 0 := by omega
        rw [if_neg c0] at hQ1
        have gl := (goL_len (dbG w (q / 2 ^ w) L) q).1
        refine V.run 0 54 rfl hn trivial ?_
        rw [iZ_add, show ((2 ^ w * (q / 2 ^ w) : Nat) : Int) + ((q % 2 ^ w : Nat) : Int) = (q : Int) by omega]
        refine V.cv (lo := 54) (d' := d - 1) rfl rfl ok_X9_go lk_9_X9_go rfl rfl rfl hn (by omega) (Nat.le_refl _) (Nat.le_refl _) ((m_go hn (by omega) (by omega) (by omega) hr3 (fun σ4 hr4 hf4 => ?_)))
        have hI4 : fgI w q (goL (dbG w (q / 2 ^ w) L) q) := by
          obtain ⟨i1, i2, i3, i4⟩ := hI3
          have hlt : lastD (dbG w (q / 2 ^ w) L) < q := by
            rcases i3 with ⟨e1, e2, e3⟩ | e1
            · rw [e1, bsL_last (by omega)]
              have hge : 2 ^ w ≤ 2 ^ w * (q / 2 ^ w) := Nat.le_mul_of_pos_right _ hI.2.2.2
              omega
            · omega
          rw [goL_new i1 i2 hlt]
          exact ⟨rise_app i1 i2 hlt, by simp, Or.inr (lastD_app _ _).symm, by omega⟩
        refine V.run 0 54 rfl hn trivial ?_
        have := ih (goL (dbG w (q / 2 ^ w) L) q) σ4 (some (.int (iZ ((q % 2 ^ w : Nat) : Int)))) x7 (by omega) (by omega) hr4 hI4 (hf3.tr hf4) hQ1
        rw [show (k : Int) - 1 = (k : Int) + (-1) by omega, ← iZ_add (k : Int) (-1)] at this
        exact this
  -- how many figures
  have cntF : ∀ (σ1 : Mem), roadM σ1 (bsL (2 ^ w - 1)) → FrG σ σ1 → ∀ (j m : Nat), m + j = mnF N w → 1 ≤ m → V M_X9_figures d n n none Q n (rho ca cb tr) σ1 22 [some (.ref 35), some (.int (iZ (N))), some (.int (iZ (w))), some (.int (iZ (m))), none, none, none, none] [] := by
    intro σ1 hr1 hf1 j
    induction j with
    | zero =>
      intro m hm h1
      have e : m = mnF N w := by omega
      subst e
      obtain ⟨k, hk⟩ : ∃ k, mnF N w = k + 1 := ⟨mnF N w - 1, by omega⟩
      have ew1 : iZ (w : Int) * iZ (mnF N w : Int) = iZ ((w * mnF N w : Nat) : Int) := by
        rw [iZ_mul]
        exact iZ_pat (by simp)
      have ew2 : iZ (w : Int) * (iZ (mnF N w : Int) - iZ 1) = iZ ((w * k : Nat) : Int) := by
        rw [iZ_sub, hk, iZ_mul]
        exact iZ_pat (by rw [show ((k + 1 : Nat) : Int) - 1 = (k : Int) by omega]; simp)
      have hwk : w * k ≤ 20 := Nat.le_trans (Nat.mul_le_mul_left w (show k ≤ mnF N w by omega)) g4
      refine V.run 0 54 rfl hn trivial ?_
      rw [ew1, esh _ (by omega), g1]
      refine V.brT rfl (by decide) ?_
      refine V.run 50 54 rfl hn trivial ?_
      rw [ew2, esh _ (by omega), iZ_sub]
      have hv0 : 0 < N / 2 ^ (w * k) := by
        rcases Nat.eq_zero_or_pos k with q | q
        · rw [q, Nat.mul_zero, Nat.pow_zero, Nat.div_one]; omega
        · exact g5 k (by omega) (by omega)
      have hv1 : N / 2 ^ (w * k) < 2 ^ w := by
        have h := g1
        rw [hk, fg_split] at h
        have hp : 0 < 2 ^ w := by omega
        rcases Nat.lt_or_ge (N / 2 ^ (w * k)) (2 ^ w) with q | q
        · exact q
        · have := Nat.div_pos q hp
          omega
      have hI0 : fgI w (N / 2 ^ (w * k)) (bsL (2 ^ w - 1)) := ⟨bsL_rise _, by rw [bsL_len]; omega, Or.inl ⟨rfl, hv0, hv1⟩, hv0⟩
      rw [show mnF N w - 1 = k by omega] at hQ
      have hlen : (bsL (2 ^ w - 1)).length + (w + 1) * k ≤ 119 := by
        rw [bsL_len]
        have : (w + 1) * k ≤ 5 * 9 := Nat.mul_le_mul (by omega) (by omega)
        omega
      have := loop k (bsL (2 ^ w - 1)) σ1 none none (by omega) hlen hr1 hI0 hf1 hQ
      rw [show (mnF N w : Int) - 2 = (k : Int) - 1 by omega]
      exact this
    | succ j ih =>
      intro m hm h1
      have hpos := g5 m h1 (by omega)
      have hle := hdv (w * m)
      have hwm : w * m ≤ 20 := Nat.le_trans (Nat.mul_le_mul_left w (show m ≤ mnF N w by omega)) g4
      have ew1 : iZ (w : Int) * iZ (m : Int) = iZ ((w * m : Nat) : Int) := by
        rw [iZ_mul]
        exact iZ_pat (by simp)
      have hsh := esh (w * m) (by omega)
      generalize N / 2 ^ (w * m) = q at *
      refine V.run 0 54 rfl hn trivial ?_
      rw [ew1, hsh]
      refine V.brF rfl (fun c => by have := (iZ_le0 (by omega)).mp c; omega) ?_
      refine V.run 0 54 rfl hn trivial ?_
      have := ih (m + 1) (by omega) (by omega)
      rw [show ((m + 1 : Nat) : Int) = (m : Int) + 1 by omega, ← iZ_add (m : Int) 1] at this
      exact this
  -- the first numbers
  have first : ∀ (j v : Nat) (σ1 : Mem), v + j = 2 ^ w → 2 ≤ v → roadM σ1 (bsL (v - 1)) → FrG σ σ1 → V M_X9_figures d n n none Q n (rho ca cb tr) σ1 2 [some (.ref 35), some (.int (iZ (N))), some (.int (iZ (w))), some (.int (iZ (v))), none, none, none, none] [] := by
    intro j
    induction j with
    | zero =>
      intro v σ1 hv h2 hr1 hf1
      refine V.run 0 54 rfl hn trivial ?_
      rw [e1w]
      refine V.brT rfl ((iZ_le (by omega) (by omega)).mpr (by omega)) ?_
      refine V.run 22 54 rfl hn trivial ?_
      rw [show v = 2 ^ w by omega] at hr1
      exact cntF σ1 hr1 hf1 (mnF N w - 1) 1 (by omega) (by omega)
    | succ j ih =>
      intro v σ1 hv h2 hr1 hf1
      refine V.run 0 54 rfl hn trivial ?_
      rw [e1w]
      refine V.brF rfl (fun c => by have := (iZ_le (by omega) (by omega)).mp c; omega) ?_
      refine V.run 0 54 rfl hn trivial ?_
      refine V.cv (lo := 54) (d' := d - 1) rfl rfl ok_X9_go lk_9_X9_go rfl rfl rfl hn (by omega) (Nat.le_refl _) (Nat.le_refl _) ((m_go hn (by omega) (by rw [bsL_len]; omega) (by omega) hr1 (fun σ2 hr2 hf2 => ?_)))
      refine V.run 0 54 rfl hn trivial ?_
      have hg : goL (bsL (v - 1)) v = bsL v := by
        unfold goL
        rw [if_neg (by rw [bsL_mem]; omega)]
        obtain ⟨u, rfl⟩ : ∃ u, v = u + 1 := ⟨v - 1, by omega⟩
        rw [bsL_succ]
        rfl
      rw [hg] at hr2
      have := ih (v + 1) σ2 (by omega) (by omega) (by rw [Nat.add_sub_cancel]; exact hr2) (hf1.tr hf2)
      rw [show ((v + 1 : Nat) : Int) = (v : Int) + 1 by omega, ← iZ_add (v : Int) 1] at this
      exact this
  exact first (2 ^ w - 2) 2 σ (by omega) (by omega) hr FrG.rf
end MDN
