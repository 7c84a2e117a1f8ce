/-! ===== the reference: leastPrime, factors ===== -/
theorem fac_mono : ∀ (f N t : Nat) (L : List Nat), L.length ≤ (facL f N t L).length
  | 0, _, _, _ => Nat.le_refl _
  | f + 1, N, t, L => by
    unfold facL
    split
    · exact Nat.le_refl _
    · split
      · exact Nat.le_trans (fac_mono f _ _ _) (goL_len _ _).2
      · exact Nat.le_trans (fac_mono f _ _ _) (fac_mono f _ _ _)
def FrF (σ σ' : Mem) : Prop := Fr [35, 44, 45, 46] σ σ' ∧ ∀ j, j ≠ 14 → σ' 35 j = σ 35 j
theorem FrF.rf {σ : Mem} : FrF σ σ := ⟨Fr.rf, fun _ _ => rfl⟩
theorem FrF.tr {σ σ1 σ2 : Mem} (h1 : FrF σ σ1) (h2 : FrF σ1 σ2) : FrF σ σ2 := ⟨h1.1.tr h2.1, fun j a => (h2.2 j a).trans (h1.2 j a)⟩
theorem FrG.toF {σ σ' : Mem} (h : FrG σ σ') : FrF σ σ' := ⟨h.1.mono (by simp), h.2⟩
theorem FrG.due {σ σ' : Mem} (h : FrG σ σ') : σ' 45 = σ 45 ∧ σ' 46 = σ 46 := ⟨h.1 45 (by decide), h.1 46 (by decide)⟩
/-- the two numbers laid on the heap of what is due -/
def du2 (σ : Mem) (k : Nat) (a b c e : Int32) : Mem := up (up (up (up σ 45 k a) 46 k b) 45 (k + 1) c) 46 (k + 1) e
theorem du2_F {σ : Mem} {k : Nat} {a b c e : Int32} : FrF σ (du2 σ k a b c e) := by
  unfold du2
  refine ⟨Fr.putT (Fr.putT (Fr.putT (Fr.put (by simp)) (by simp)) (by simp)) (by simp), fun j _ => ?_⟩
  rw [up_ne (by decide), up_ne (by decide), up_ne (by decide), up_ne (by decide)]
theorem du2_at {σ : Mem} {k : Nat} {a b c e : Int32} : du2 σ k a b c e 45 k = a ∧ du2 σ k a b c e 46 k = b ∧ du2 σ k a b c e 45 (k + 1) = c ∧ du2 σ k a b c e 46 (k + 1) = e ∧ (∀ i, i < k → du2 σ k a b c e 45 i = σ 45 i ∧ du2 σ k a b c e 46 i = σ 46 i) := by
  unfold du2
  refine ⟨?_, ?_, ?_, ?_, fun i hi => ⟨?_, ?_⟩⟩
  · rw [up_ne (by decide), up_nat (by omega), up_ne (by decide), up_at]
  · rw [up_nat (by omega), up_ne (by decide), up_at]
  · rw [up_ne (by decide), up_at]
  · rw [up_at]
  · rw [up_ne (by decide), up_nat (by omega), up_ne (by decide), up_nat (by omega)]
  · rw [up_nat (by omega), up_ne (by decide), up_nat (by omega), up_ne (by decide)]
theorem roadM_du2 {σ : Mem} {k : Nat} {a b c e : Int32} {L : List Nat} (h : roadM σ L) : roadM (du2 σ k a b c e) L := by
  obtain ⟨r1, r2, r3⟩ := h
  refine ⟨?_, fun i hi => ?_, r3⟩
  · unfold du2
    rw [up_ne (by decide), up_ne (by decide), up_ne (by decide), up_ne (by decide)]
    exact r1
  · unfold du2
    rw [up_ne (by decide), up_ne (by decide), up_ne (by decide), up_ne (by decide)]
    exact r2 i hi
section MDO
variable {d n ca cb tr : Nat} {Q : PQ} {σ : Mem} {ρ : Ref}
theorem m_leastPrime {N : Nat} (hN : 2 ≤ N ∧ N ≤ 100000) (hQ : Q (some (.int (iZ (lpN N)))) ρ σ) : Mt M_X9_leastPrime d n n [.int (iZ N)] ρ σ Q := by
  refine Mt.of rfl (by decide +kernel) tk_X9_leastPrime (Nat.le_of_ble_eq_true rfl) ?_
  refine V.run 2 0 rfl (Nat.zero_le _) trivial ?_
  have key : ∀ (f p : Nat), p + f = 402 → 2 ≤ p → Q (some (.int (iZ (lpF f p N)))) ρ σ → V M_X9_leastPrime d n n none Q n ρ σ 2 [some (.int (iZ (N))), some (.int (iZ (p)))] [] := by
    intro f
    induction f with
    | zero =>
      intro p hp h2 hq
      have e : p = 402 := by omega
      subst e
      refine V.run 0 0 rfl (Nat.zero_le _) trivial ?_
      rw [iZ_mul]
      refine V.brT rfl ((iZ_lt (by omega) (by omega)).mpr (by omega)) ?_
      refine V.run 0 0 rfl (Nat.zero_le _) trivial ?_
      rw [iZ_mul]
      refine V.brT rfl ((iZ_lt (by omega) (by omega)).mpr (by omega)) ?_
      refine V.run 0 0 rfl (Nat.zero_le _) trivial ?_
      refine V.ret (v := some (.int (iZ N))) rfl rfl rfl rfl (hq)
    | succ f ih =>
      intro p hp h2 hq
      have hpp : p * p ≤ 402 * 402 := Nat.mul_le_mul (by omega) (by omega)
      have emul : iZ (p : Int) * iZ (p : Int) = iZ ((p * p : Nat) : Int) := by
        rw [iZ_mul]
        exact iZ_pat (by simp)
      unfold lpF at hq
      refine V.run 0 0 rfl (Nat.zero_le _) trivial ?_
      rw [emul]
      refine V.br rfl (fun (c : iZ N < iZ ((p * p : Nat) : Int)) => ?_) (fun (c : ¬ (iZ N < iZ ((p * p : Nat) : Int))) => ?_)
      · rw [iZ_lt (by omega) (by omega)] at c
        rw [if_neg (by omega)] at hq
        refine V.run 0 0 rfl (Nat.zero_le _) trivial ?_
        rw [emul]
        refine V.brT rfl ((iZ_lt (by omega) (by omega)).mpr (by omega)) ?_
        refine V.run 0 0 rfl (Nat.zero_le _) trivial ?_
        refine V.ret (v := some (.int (iZ N))) rfl rfl rfl rfl (hq)
      · rw [iZ_lt (by omega) (by omega)] at c
        rw [if_pos (by omega)] at hq
        refine V.run 0 0 rfl (Nat.zero_le _) ⟨by rw [iZ_eq0 (by omega)]; omega, trivial⟩ ?_
        rw [iZ_rem (by omega) (by omega), ← Int.natCast_emod]
        have hm : N % p < p := Nat.mod_lt _ (by omega)
        refine V.br rfl (fun (c2 : iZ ((N % p : Nat) : Int) = 0) => ?_) (fun (c2 : ¬ (iZ ((N % p : Nat) : Int) = 0)) => ?_)
        · rw [iZ_eq0 (by omega)] at c2
          rw [if_pos (by omega)] at hq
          refine V.run 0 0 rfl (Nat.zero_le _) trivial ?_
          rw [emul]
          refine V.brF rfl (fun q => by have := (iZ_lt (by omega) (by omega)).mp q; omega) ?_
          refine V.run 0 0 rfl (Nat.zero_le _) trivial ?_
          refine V.run 0 0 rfl (Nat.zero_le _) trivial ?_
          refine V.ret (v := some (.int (iZ p))) rfl rfl rfl rfl (hq)
        · rw [iZ_eq0 (by omega)] at c2
          rw [if_neg (by omega)] at hq
          refine V.run 0 0 rfl (Nat.zero_le _) trivial ?_
          have := ih (p + 1) (by omega) (by omega) hq
          rw [show ((p + 1 : Nat) : Int) = (p : Int) + 1 by omega, ← iZ_add] at this
          exact this
  exact key 400 2 (by omega) (by omega) hQ
theorem m_factors (hn : 54 ≤ n) (hd : 2 ≤ d) {N : Nat} (hN : 1 ≤ N ∧ N ≤ 100000) (hr : roadM σ [1]) (hQ : ∀ σ', roadM σ' (facL 41 N 1 [1]) → FrF σ σ' → Q none (rho ca cb tr) σ') : Mt M_X9_factors d n n [.ref 35, .int (iZ N)] (rho ca cb tr) σ Q := by
  refine Mt.of rfl (by decide +kernel) tk_X9_factors (Nat.le_of_ble_eq_true rfl) ?_
  refine V.run 16 54 rfl hn ⟨in_iZ (n := 200) (by omega) (by decide), in_iZ (n := 200) (by omega) (by decide), trivial⟩ ?_
  have key : ∀ (f x t due : Nat) (L : List Nat) (σ1 : Mem) (x3 x4 x5 : Option Value), okD f x → x * t ≤ 100000 → 1 ≤ t → t ≤ 100000 → due + f ≤ 190 → (facL f x t L).length ≤ 100 → roadM σ1 L → FrF σ σ1 → σ1 45 due = iZ x → σ1 46 due = iZ t → (∀ (σ2 : Mem) (y3 y4 y5 : Option Value), roadM σ2 (facL f x t L) → FrF σ σ2 → (∀ i, i < due → σ2 45 i = σ1 45 i ∧ σ2 46 i = σ1 46 i) → V M_X9_factors d n n none Q n (rho ca cb tr) σ2 16 [some (.ref 35), some (.int (iZ (N))), some (.int (iZ (due))), y3, y4, y5] []) → V M_X9_factors d n n none Q n (rho ca cb tr) σ1 16 [some (.ref 35), some (.int (iZ (N))), some (.int (iZ ((due : Int) + 1))), x3, x4, x5] [] := by
    intro f
    induction f with
    | zero =>
      intro x t due L σ1 x3 x4 x5 hok hxt h1 h1b hdue hlen hr1 hf hs1 hs2 hK
      have hx : x ≤ 1 := by
        rcases Nat.lt_or_ge x 2 with q | q
        · omega
        · have := okD_pos hok q
          omega
      refine V.run 0 54 rfl hn trivial ?_
      refine V.brF rfl (fun q => by have := (iZ_le0 (by omega)).mp q; omega) ?_
      refine V.run 0 54 rfl hn ⟨by rw [iZ_add]; exact in_iZ (n := 200) (by omega) (by decide), by rw [iZ_add]; exact in_iZ (n := 200) (by omega) (by decide), trivial⟩ ?_
      try simp only [rf_told, rf_comes, rf_comeMany, rf_comeAt, rf_isSeen, rf_goals, rf_text, rf_taken, rf_roadRow, rf_dueNumber, rf_dueTimes, rf_above, rf_tree, rf_way, rf_signs, rf_spent, rf_read, rf_useMany, rf_lastUse, fi_9_0, fi_9_2, fi_9_3, fi_9_4, fi_9_6, fi_9_7, fi_9_14, fi_9_19, fi_9_24, fi_9_26, fi_9_27, fi_9_30]
      rw [iZ_add, show (due : Int) + 1 + -1 = (due : Int) by omega, ix_N (by omega), hs1, hs2]
      refine V.brF rfl (fun q => by rw [iZ_eq0 (by omega)] at q; omega) ?_
      refine V.run 0 54 rfl hn trivial ?_
      refine V.brT rfl ((iZ_le (by omega) (by omega)).mpr (by omega)) ?_
      refine V.run 0 54 rfl hn trivial ?_
      exact hK σ1 _ _ _ hr1 hf (fun i _ => ⟨rfl, rfl⟩)
    | succ f ih =>
      intro x t due L σ1 x3 x4 x5 hok hxt h1 h1b hdue hlen hr1 hf hs1 hs2 hK
      have hxm : x ≤ x * t := Nat.le_mul_of_pos_right _ h1
      refine V.run 0 54 rfl hn trivial ?_
      refine V.brF rfl (fun q => by have := (iZ_le0 (by omega)).mp q; omega) ?_
      refine V.run 0 54 rfl hn ⟨by rw [iZ_add]; exact in_iZ (n := 200) (by omega) (by decide), by rw [iZ_add]; exact in_iZ (n := 200) (by omega) (by decide), trivial⟩ ?_
      try simp only [rf_told, rf_comes, rf_comeMany, rf_comeAt, rf_isSeen, rf_goals, rf_text, rf_taken, rf_roadRow, rf_dueNumber, rf_dueTimes, rf_above, rf_tree, rf_way, rf_signs, rf_spent, rf_read, rf_useMany, rf_lastUse, fi_9_0, fi_9_2, fi_9_3, fi_9_4, fi_9_6, fi_9_7, fi_9_14, fi_9_19, fi_9_24, fi_9_26, fi_9_27, fi_9_30]
      rw [iZ_add, show (due : Int) + 1 + -1 = (due : Int) by omega, ix_N (by omega), hs1, hs2]
      refine V.brF rfl (fun q => by rw [iZ_eq0 (by omega)] at q; omega) ?_
      refine V.run 0 54 rfl hn trivial ?_
      refine V.br rfl (fun (c : iZ x ≤ iZ 1) => ?_) (fun (c : ¬ (iZ x ≤ iZ 1)) => ?_)
      · rw [iZ_le (by omega) (by omega)] at c
        refine V.run 0 54 rfl hn trivial ?_
        refine hK σ1 _ _ _ ?_ hf (fun i _ => ⟨rfl, rfl⟩)
        unfold facL
        rw [if_pos (by omega)]
        exact hr1
      · rw [iZ_le (by omega) (by omega)] at c
        have hmulT : iZ (x : Int) * iZ (t : Int) = iZ ((x * t : Nat) : Int) := by
          rw [iZ_mul]
          exact iZ_pat (by simp)
        have edue : iZ (due : Int) + iZ 1 = iZ ((due + 1 : Nat) : Int) := by
          rw [iZ_add]
          exact iZ_pat (by omega)
        refine V.run 0 54 rfl hn trivial ?_
        refine V.cs (d' := d - 1) rfl rfl ok_X9_leastPrime lk_9_X9_leastPrime rfl (by omega) (Nat.le_refl _) (Nat.le_refl _) ((m_leastPrime (by omega) ?_))
        refine V.run 0 54 rfl hn trivial ?_
        by_cases hp : lpN x = x
        · have hfac : facL (f + 1) x t L = goL (facL f (x - 1) t L) (x * t) := by
            conv => lhs; unfold facL
            rw [if_neg (by omega), if_pos hp]
          rw [hfac] at hlen hK
          have hgl := goL_len (facL f (x - 1) t L) (x * t)
          rw [hp]
          refine V.brT rfl rfl ?_
          refine V.run 0 54 rfl hn trivial ?_
          refine V.run 0 54 rfl hn ⟨in_N (n := 200) (by omega) (by decide), trivial⟩ ?_
          try simp only [rf_told, rf_comes, rf_comeMany, rf_comeAt, rf_isSeen, rf_goals, rf_text, rf_taken, rf_roadRow, rf_dueNumber, rf_dueTimes, rf_above, rf_tree, rf_way, rf_signs, rf_spent, rf_read, rf_useMany, rf_lastUse, fi_9_0, fi_9_2, fi_9_3, fi_9_4, fi_9_6, fi_9_7, fi_9_14, fi_9_19, fi_9_24, fi_9_26, fi_9_27, fi_9_30]
          refine V.brT rfl rfl ?_
          refine V.run 0 54 rfl hn trivial ?_
          refine V.run 0 54 rfl hn ⟨in_N (n := 200) (by omega) (by decide), trivial⟩ ?_
          try simp only [rf_told, rf_comes, rf_comeMany, rf_comeAt, rf_isSeen, rf_goals, rf_text, rf_taken, rf_roadRow, rf_dueNumber, rf_dueTimes, rf_above, rf_tree, rf_way, rf_signs, rf_spent, rf_read, rf_useMany, rf_lastUse, fi_9_0, fi_9_2, fi_9_3, fi_9_4, fi_9_6, fi_9_7, fi_9_14, fi_9_19, fi_9_24, fi_9_26, fi_9_27, fi_9_30]
          refine V.brT rfl rfl ?_
          refine V.run 0 54 rfl hn trivial ?_
          refine V.run 0 54 rfl hn ⟨by rw [edue]; exact in_N (n := 200) (by omega) (by decide), by rw [edue]; exact in_N (n := 200) (by omega) (by decide), trivial⟩ ?_
          try simp only [rf_told, rf_comes, rf_comeMany, rf_comeAt, rf_isSeen, rf_goals, rf_text, rf_taken, rf_roadRow, rf_dueNumber, rf_dueTimes, rf_above, rf_tree, rf_way, rf_signs, rf_spent, rf_read, rf_useMany, rf_lastUse, fi_9_0, fi_9_2, fi_9_3, fi_9_4, fi_9_6, fi_9_7, fi_9_14, fi_9_19, fi_9_24, fi_9_26, fi_9_27, fi_9_30]
          rw [hmulT, edue, ix_N (by omega), ix_N (by omega), iZ_sub, show (x : Int) - 1 = ((x - 1 : Nat) : Int) by omega]
          have hxt2 : (x - 1) * t ≤ x * t := Nat.mul_le_mul_right t (by omega)
          obtain ⟨u1, u2, u3, u4, u5⟩ := du2_at (σ := σ1) (k := due) (a := iZ ((x * t : Nat) : Int)) (b := iZ 0) (c := iZ ((x - 1 : Nat) : Int)) (e := iZ (t : Int))
          have := ih (x - 1) t (due + 1) L (du2 σ1 due (iZ ((x * t : Nat) : Int)) (iZ 0) (iZ ((x - 1 : Nat) : Int)) (iZ (t : Int))) (some (.int (iZ x))) (some (.int (iZ t))) (some (.int (iZ x))) (okD_prime hok (by omega) hp) (by omega) h1 h1b (by omega) (by omega) (roadM_du2 hr1) (hf.tr du2_F) u3 u4 (fun σ2 y3 y4 y5 hr2 hf2 hst => by
            have v1 := (hst due (by omega)).1.trans u1
            have v2 := (hst due (by omega)).2.trans u2
            rw [show ((due + 1 : Nat) : Int) = (due : Int) + 1 by omega]
            refine V.run 0 54 rfl hn trivial ?_
            refine V.brF rfl (fun q => by have := (iZ_le0 (by omega)).mp q; omega) ?_
            refine V.run 0 54 rfl hn ⟨by rw [iZ_add]; exact in_iZ (n := 200) (by omega) (by decide), by rw [iZ_add]; exact in_iZ (n := 200) (by omega) (by decide), trivial⟩ ?_
            try simp only [rf_told, rf_comes, rf_comeMany, rf_comeAt, rf_isSeen, rf_goals, rf_text, rf_taken, rf_roadRow, rf_dueNumber, rf_dueTimes, rf_above, rf_tree, rf_way, rf_signs, rf_spent, rf_read, rf_useMany, rf_lastUse, fi_9_0, fi_9_2, fi_9_3, fi_9_4, fi_9_6, fi_9_7, fi_9_14, fi_9_19, fi_9_24, fi_9_26, fi_9_27, fi_9_30]
            rw [iZ_add, show (due : Int) + 1 + -1 = (due : Int) by omega, ix_N (by omega), v1, v2]
            refine V.brT rfl rfl ?_
            refine V.run 0 54 rfl hn trivial ?_
            refine V.cv (lo := 54) (d' := d - 1) rfl rfl ok_X9_go lk_9_X9_go rfl rfl rfl hn (by omega) (Nat.le_refl _) (Nat.le_refl _) ((m_go hn (by omega) (by omega) (by omega) hr2 (fun σ3 hr3 hf3 => ?_)))
            refine V.run 0 54 rfl hn trivial ?_
            refine V.run 0 54 rfl hn trivial ?_
            refine hK σ3 _ _ _ hr3 (hf2.tr hf3.toF) (fun i hi => ?_)
            have w1 := hst i (by omega)
            have w2 := u5 i hi
            rw [hf3.due.1, hf3.due.2, w1.1, w1.2, w2.1, w2.2]
            exact ⟨rfl, rfl⟩)
          rw [show ((due + 1 : Nat) : Int) + 1 = (due : Int) + 2 by omega, ← iZ_add (due : Int) 2] at this
          exact this
        · obtain ⟨o1, o2, hp2, hmul⟩ := okD_comp hok (by omega) hp
          have hfac : facL (f + 1) x t L = facL f (x / lpN x) (t * lpN x) (facL f (lpN x) t L) := by
            conv => lhs; unfold facL
            rw [if_neg (by omega), if_neg hp]
          rw [hfac] at hlen hK
          generalize lpN x = p at *
          have hdv : (x : Int) / (p : Int) = ((x / p : Nat) : Int) := by simp
          generalize x / p = c at *
          have hc1 : 1 ≤ c := by
            rcases Nat.eq_zero_or_pos c with q | q
            · rw [q, Nat.mul_zero] at hmul; omega
            · exact q
          have hpx : p ≤ x := by rw [← hmul]; exact Nat.le_mul_of_pos_right _ hc1
          have hb1 : p * t ≤ x * t := Nat.mul_le_mul_right t hpx
          have hb2 : c * (t * p) = x * t := by rw [← hmul, Nat.mul_comm t p, ← Nat.mul_assoc, Nat.mul_comm c p]
          have hb3 : t * p = p * t := Nat.mul_comm _ _
          have hb4 : 1 ≤ t * p := Nat.mul_pos h1 (by omega)
          have hm1 := fac_mono f c (t * p) (facL f p t L)
          have etp : iZ (t : Int) * iZ (p : Int) = iZ ((t * p : Nat) : Int) := by
            rw [iZ_mul]
            exact iZ_pat (by simp)
          have hne : ¬ iZ (p : Int) = iZ (x : Int) := by
            rw [iZ_eq (by omega) (by omega)]
            omega
          refine V.brF rfl hne ?_
          refine V.run 0 54 rfl hn ⟨by rw [iZ_eq0 (by omega)]; omega, in_N (n := 200) (by omega) (by decide), trivial⟩ ?_
          try simp only [rf_told, rf_comes, rf_comeMany, rf_comeAt, rf_isSeen, rf_goals, rf_text, rf_taken, rf_roadRow, rf_dueNumber, rf_dueTimes, rf_above, rf_tree, rf_way, rf_signs, rf_spent, rf_read, rf_useMany, rf_lastUse, fi_9_0, fi_9_2, fi_9_3, fi_9_4, fi_9_6, fi_9_7, fi_9_14, fi_9_19, fi_9_24, fi_9_26, fi_9_27, fi_9_30]
          refine V.brF rfl hne ?_
          refine V.run 0 54 rfl hn ⟨in_N (n := 200) (by omega) (by decide), trivial⟩ ?_
          try simp only [rf_told, rf_comes, rf_comeMany, rf_comeAt, rf_isSeen, rf_goals, rf_text, rf_taken, rf_roadRow, rf_dueNumber, rf_dueTimes, rf_above, rf_tree, rf_way, rf_signs, rf_spent, rf_read, rf_useMany, rf_lastUse, fi_9_0, fi_9_2, fi_9_3, fi_9_4, fi_9_6, fi_9_7, fi_9_14, fi_9_19, fi_9_24, fi_9_26, fi_9_27, fi_9_30]
          refine V.brF rfl hne ?_
          refine V.run 0 54 rfl hn ⟨by rw [edue]; exact in_N (n := 200) (by omega) (by decide), by rw [edue]; exact in_N (n := 200) (by omega) (by decide), trivial⟩ ?_
          try simp only [rf_told, rf_comes, rf_comeMany, rf_comeAt, rf_isSeen, rf_goals, rf_text, rf_taken, rf_roadRow, rf_dueNumber, rf_dueTimes, rf_above, rf_tree, rf_way, rf_signs, rf_spent, rf_read, rf_useMany, rf_lastUse, fi_9_0, fi_9_2, fi_9_3, fi_9_4, fi_9_6, fi_9_7, fi_9_14, fi_9_19, fi_9_24, fi_9_26, fi_9_27, fi_9_30]
          rw [etp, edue, ix_N (by omega), ix_N (by omega), iZ_div (by omega) (by omega), hdv]
          obtain ⟨u1, u2, u3, u4, u5⟩ := du2_at (σ := σ1) (k := due) (a := iZ (c : Int)) (b := iZ ((t * p : Nat) : Int)) (c := iZ (p : Int)) (e := iZ (t : Int))
          have := ih p t (due + 1) L (du2 σ1 due (iZ (c : Int)) (iZ ((t * p : Nat) : Int)) (iZ (p : Int)) (iZ (t : Int))) (some (.int (iZ x))) (some (.int (iZ t))) (some (.int (iZ p))) o1 (by omega) h1 h1b (by omega) (by omega) (roadM_du2 hr1) (hf.tr du2_F) u3 u4 (fun σ2 y3 y4 y5 hr2 hf2 hst => by
            have v1 := (hst due (by omega)).1.trans u1
            have v2 := (hst due (by omega)).2.trans u2
            rw [show ((due + 1 : Nat) : Int) = (due : Int) + 1 by omega]
            refine ih c (t * p) due (facL f p t L) σ2 y3 y4 y5 o2 (by omega) hb4 (by omega) (by omega) hlen hr2 hf2 v1 v2 (fun σ3 z3 z4 z5 hr3 hf3 hst3 => ?_)
            refine hK σ3 _ _ _ hr3 hf3 (fun i hi => ?_)
            have w0 := hst3 i hi
            have w1 := hst i (by omega)
            have w2 := u5 i hi
            rw [w0.1, w0.2, w1.1, w1.2, w2.1, w2.2]
            exact ⟨rfl, rfl⟩)
          rw [show ((due + 1 : Nat) : Int) + 1 = (due : Int) + 2 by omega, ← iZ_add (due : Int) 2] at this
          exact this
  obtain ⟨s, s1, s2, -⟩ := fac_len (f := 41) (N := N) (t := 1) (L := [1])
  have hs : s ≤ 34 := by
    have h1 := s2 hN.1
    have h2 : N * N ≤ 100000 * 100000 := Nat.mul_le_mul hN.2 hN.2
    rcases Nat.lt_or_ge 34 s with q | q
    · have h3 : (2 : Nat) ^ 35 ≤ 2 ^ s := Nat.pow_le_pow_right (by decide) q
      have h4 : (2 : Nat) ^ 35 = 34359738368 := by decide
      omega
    · exact q
  rw [List.length_singleton] at s1
  try simp only [rf_told, rf_comes, rf_comeMany, rf_comeAt, rf_isSeen, rf_goals, rf_text, rf_taken, rf_roadRow, rf_dueNumber, rf_dueTimes, rf_above, rf_tree, rf_way, rf_signs, rf_spent, rf_read, rf_useMany, rf_lastUse, fi_9_0, fi_9_2, fi_9_3, fi_9_4, fi_9_6, fi_9_7, fi_9_14, fi_9_19, fi_9_24, fi_9_26, fi_9_27, fi_9_30]
  have := key 41 N 1 0 [1] (up (up σ 45 0 (iZ N)) 46 0 (iZ 1)) none none none (Or.inr ⟨17, Nat.lt_of_le_of_lt hN.2 (by decide), Or.inl (by omega)⟩) (by omega) (by omega) (by omega) (by omega) (by omega) ?_ ⟨Fr.putT (Fr.put (by simp)) (by simp), fun j _ => by rw [up_ne (by decide), up_ne (by decide)]⟩ (by rw [up_ne (by decide), up_at]) (by rw [up_at]; rfl) (fun σ2 y3 y4 y5 hr2 hf2 _ => ?_)
  · exact this
  · obtain ⟨r1, r2, r3⟩ := hr
    refine ⟨by rw [up_ne (by decide), up_ne (by decide)]; exact r1, fun i hi => by rw [up_ne (by decide), up_ne (by decide)]; exact r2 i hi, r3⟩
  · refine V.run 0 54 rfl hn trivial ?_
    refine V.brT rfl (by decide) ?_
    refine V.ret (v := none) rfl rfl rfl rfl (hQ σ2 hr2 hf2)
end MDO
