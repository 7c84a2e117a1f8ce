/-! ===== the class: the text read into a chain; what the chain tells (written by program for both chains) ===== -/
theorem gd_iff {kind : Nat} {tx r : List Nat} {at0 : Nat} : (gdT kind tx r at0 ↔ 1 ≤ clV (dgs tx at0) ∧ mayC kind r (clV (dgs tx at0))) ∧ (gdT kind tx r at0 → valM (dgs tx at0) = clV (dgs tx at0)) := by
  obtain ⟨c1, c2, c3⟩ := clV_ok (ds := dgs tx at0) (fun b hb => dgs_mem hb)
  unfold gdT
  constructor
  · constructor
    · rintro ⟨h1, h2, h3, h4⟩
      have := c2.mpr ⟨h1, h2, h3⟩
      rw [c3 this] at h4
      exact ⟨this, h4⟩
    · rintro ⟨h1, h2⟩
      obtain ⟨a, b, e⟩ := c2.mp h1
      exact ⟨a, b, e, by rw [c3 h1]; exact h2⟩
  · rintro ⟨h1, h2, h3, -⟩
    exact c3 (c2.mpr ⟨h1, h2, h3⟩)
theorem pow_bit (x m t : Nat) (k : Nat) : x ^ (t / 2 ^ k) % m = (x ^ (t / 2 ^ (k + 1)) % m) * (x ^ (t / 2 ^ (k + 1)) % m) % m * (if t / 2 ^ k % 2 = 1 then x else 1) % m := by
  have h1 : t / 2 ^ (k + 1) = t / 2 ^ k / 2 := by rw [Nat.pow_succ, ← Nat.div_div_eq_div_mul]
  rw [h1]
  generalize t / 2 ^ k = u
  have h2 : u = 2 * (u / 2) + u % 2 := (Nat.div_add_mod u 2).symm
  have h3 : x ^ u = x ^ (u / 2) * x ^ (u / 2) * (if u % 2 = 1 then x else 1) := by
    conv => lhs; rw [h2]
    rw [Nat.pow_add, Nat.two_mul, Nat.pow_add]
    rcases Nat.mod_two_eq_zero_or_one u with e | e
    · rw [e]; simp
    · rw [e]; simp
  rw [h3, Nat.mul_mod, ← Nat.mul_mod (x ^ (u / 2)) (x ^ (u / 2)) m]
  conv => rhs; rw [Nat.mul_mod, Nat.mod_mod]
theorem and_one {a : Nat} (h : a < 2147483648) : iZ (a : Int) &&& iZ 1 = iZ ((a % 2 : Nat) : Int) := by
  have := andW (w := 1) (x := a) (by omega) h
  rw [show (iZ ((2 : Int) ^ 1) - iZ 1) = iZ 1 from by decide] at this
  exact this
section CF27
variable {d n ca cb tr : Nat} {Q : PQ} {σ : Mem}
theorem c_readInto_27 (hn : 54 ≤ n) (hd : 5 ≤ d) {kind : Nat} {tx : List Nat} (hk : kind ≤ 3) (ht : txtM σ tx) (hQ : ∀ (σ' : Mem) (res : Int) (rf : List Nat), rdP kind tx 121 0 [] res rf → -4 ≤ res ∧ res ≤ 1000 → (res = -4 → ∃ pk, chnM 27 σ' kind rf pk) → Fr [27, 28, 29, 30] σ σ' → Q (some (.int (iZ res))) (rho ca cb tr) σ') : Mt M_X6_readInto d n n [.ref 25, .ref 27, .int (iZ kind)] (rho ca cb tr) σ Q := by
  have htl := ht.1
  refine Mt.of rfl (by decide +kernel) tk_X6_readInto (Nat.le_of_ble_eq_true rfl) ?_
  refine V.run 0 54 rfl hn trivial ?_
  refine V.cv (lo := 54) (d' := d - 1) rfl rfl ok_X1_clear lk_6_X1_clear rfl rfl rfl hn (by omega) (Nat.le_refl _) (Nat.le_refl _) ((c_cclear_27 hn hk (fun σ1 pk1 hc1 hf1 => ?_)))
  refine V.run 10 54 rfl hn trivial ?_
  have key : ∀ (j t at0 : Nat) (c : List Nat) (pk : Nat → Nat × Nat) (σ2 : Mem) (x5 : Option Value), t + j = 121 → 2 * t ≤ at0 → at0 ≤ tx.length → c.length = t → chnM 27 σ2 kind c pk → Fr [27, 28, 29, 30] σ σ2 → (∀ res rf, rdP kind tx j at0 c res rf → rdP kind tx 121 0 [] res rf) → V M_X6_readInto d n n none Q n (rho ca cb tr) σ2 10 [some (.ref 25), some (.ref 27), some (.int (iZ (kind))), some (.int (iZ (at0))), some (.int (iZ (t))), x5] [] := by
    intro j
    induction j with
    | zero => intro t at0 c pk σ2 x5 h1 h2 h3; omega
    | succ j ih =>
      intro t at0 c pk σ2 x5 h1 h2 h3 h4 hc2 hf2 hrd
      have ht2 := ht.fr hf2 (by decide) (by decide)
      obtain ⟨t1, t2, t3, t4⟩ := id ht2
      have hdl := dgs_len tx at0 h3
      obtain ⟨g1, g2⟩ := gd_iff (kind := kind) (tx := tx) (r := c) (at0 := at0)
      have hcv := (clV_ok (ds := dgs tx at0) (fun b hb => dgs_mem hb)).1
      refine V.run 0 54 rfl hn trivial ?_
      refine V.brF rfl (fun q => by have := (iZ_lt (by omega) (by omega)).mp q; omega) ?_
      refine V.run 0 54 rfl hn trivial ?_
      refine V.cv (lo := 54) (d' := d - 1) rfl rfl ok_X6_endOfFigures lk_6_X6_endOfFigures rfl rfl rfl hn (by omega) (Nat.le_refl _) (Nat.le_refl _) ((c_endOf hn (by omega) h3 ht2 ?_))
      refine V.run 0 54 rfl hn trivial ?_
      refine V.cv (lo := 54) (d' := d - 1) rfl rfl ok_X6_valueOf lk_6_X6_valueOf rfl rfl rfl hn (by omega) (Nat.le_refl _) (Nat.le_refl _) ((c_valueOf hn h3 ht2 ?_))
      refine V.cv (lo := 54) (d' := d - 1) rfl rfl ok_X1_add lk_6_X1_add rfl rfl rfl hn (by omega) (Nat.le_refl _) (Nat.le_refl _) ((c_cadd_27 hn (by omega) hcv (by omega) hc2 (fun a1 a2 σ3 pk3 hc3 hf3 => ?_) (fun a1 σ3 hf3 => ?_)))
      · have hg := g1.mpr ⟨a1, a2⟩
        have hve := g2 hg
        have hdne : 1 ≤ (dgs tx at0).length := by
          rcases Nat.eq_zero_or_pos (dgs tx at0).length with q | q
          · exact absurd (List.eq_nil_of_length_eq_zero q) hg.1
          · exact q
        have ht3 := ht2.fr hf3 (by decide) (by decide)
        obtain ⟨u1, u2, u3, u4⟩ := id ht3
        rw [← hve] at hc3
        refine V.brF rfl (by decide) ?_
        refine V.run 0 54 rfl hn trivial ?_
        try simp only [rc_1_0, rc_1_1, rc_1_2, rc_1_3, rc_1_4, rc_1_5, rc_2_0, rc_2_1, rc_2_2, rc_6_0, rc_6_1, rc_6_2, rc_6_3, rc_7_0, rc_7_1, rc_7_2, rc_7_3, rc_12_0, rc_12_1, rc_12_2, rc_12_3, rc_18_0, rc_18_1, rc_20_0, rc_20_1, rc_22_0, rc_23_0, rc_25_0, rc_27_0, rc_27_1, rc_27_2, rc_31_0, rc_31_1, rc_31_2, rc_55_0, rc_55_1, rc_55_2, rc_1_6, rc_1_7, rc_23_2, fi_0_1, fi_0_2, fi_0_3, fi_1_3, fi_1_4, fi_1_5, fi_1_6, fi_1_7, fi_2_2, fi_3_3, fi_3_4, fi_3_5, fi_4_1, fi_5_4, fi_5_5, fi_5_6, fi_5_7, fi_5_8, fi_5_9, fi_6_1, fi_7_3, fi_7_4]
        rw [u2]
        refine V.br rfl (fun (c1 : iZ (at0 + (dgs tx at0).length : Nat) < iZ tx.length) => ?_) (fun (c1 : ¬ (iZ (at0 + (dgs tx at0).length : Nat) < iZ tx.length)) => ?_)
        · rw [iZ_lt (by omega) (by omega)] at c1
          have hb := u4 _ (getD_mem2 (r := tx) (i := at0 + (dgs tx at0).length) (by omega))
          have hs := sgN_b hb
          refine V.run 0 54 rfl hn ⟨in_N (n := 120) (by omega) (by decide), trivial⟩ ?_
          try simp only [rc_1_0, rc_1_1, rc_1_2, rc_1_3, rc_1_4, rc_1_5, rc_2_0, rc_2_1, rc_2_2, rc_6_0, rc_6_1, rc_6_2, rc_6_3, rc_7_0, rc_7_1, rc_7_2, rc_7_3, rc_12_0, rc_12_1, rc_12_2, rc_12_3, rc_18_0, rc_18_1, rc_20_0, rc_20_1, rc_22_0, rc_23_0, rc_25_0, rc_27_0, rc_27_1, rc_27_2, rc_31_0, rc_31_1, rc_31_2, rc_55_0, rc_55_1, rc_55_2, rc_1_6, rc_1_7, rc_23_2, fi_0_1, fi_0_2, fi_0_3, fi_1_3, fi_1_4, fi_1_5, fi_1_6, fi_1_7, fi_2_2, fi_3_3, fi_3_4, fi_3_5, fi_4_1, fi_5_4, fi_5_5, fi_5_6, fi_5_7, fi_5_8, fi_5_9, fi_6_1, fi_7_3, fi_7_4]
          rw [ix_N (by omega), u3 _ (by omega)]
          refine V.br rfl (fun (c2 : iZ (sgN (tx.getD (at0 + (dgs tx at0).length) 0)) = iZ 44) => ?_) (fun (c2 : ¬ (iZ (sgN (tx.getD (at0 + (dgs tx at0).length) 0)) = iZ 44)) => ?_)
          · rw [iZ_eq (by omega) (by omega)] at c2
            have e44 : tx.getD (at0 + (dgs tx at0).length) 0 = 44 := by
              rcases Nat.lt_or_ge (tx.getD (at0 + (dgs tx at0).length) 0) 128 with q | q
              · have := hs.2.2.1 q
                omega
              · have := hs.2.2.2 q
                omega
            refine V.run 0 54 rfl hn trivial ?_
            have := ih (t + 1) (at0 + (dgs tx at0).length + 1) (c ++ [valM (dgs tx at0)]) pk3 σ3 (some (.int (iZ (at0 + (dgs tx at0).length : Nat)))) (by omega) (by omega) (by omega) (by simp; omega) hc3 (hf2.tr hf3) (fun res rf hr => hrd res rf (Or.inr ⟨hg, Or.inr (Or.inr ⟨by omega, e44, hr⟩)⟩))
            rw [show ((at0 + (dgs tx at0).length + 1 : Nat) : Int) = ((at0 + (dgs tx at0).length : Nat) : Int) + 1 by omega, show ((t + 1 : Nat) : Int) = (t : Int) + 1 by omega, ← iZ_add, ← iZ_add] at this
            exact this
          · rw [iZ_eq (by omega) (by omega)] at c2
            have e44 : tx.getD (at0 + (dgs tx at0).length) 0 ≠ 44 := fun e => c2 (by rw [hs.2.2.1 (by omega), e]; rfl)
            refine V.run 0 54 rfl hn trivial ?_
            refine V.ret (v := some (.int (iZ (at0 + (dgs tx at0).length : Nat)))) rfl rfl rfl rfl (hQ σ3 _ _ (hrd _ _ (Or.inr ⟨hg, Or.inr (Or.inl ⟨by omega, e44, by omega, rfl⟩)⟩)) (by omega) (fun h => by omega) (hf2.tr hf3))
        · rw [iZ_lt (by omega) (by omega)] at c1
          refine V.run 0 54 rfl hn trivial ?_
          refine V.ret (v := some (.int (iZ (-4)))) rfl rfl rfl rfl (hQ σ3 (-4) _ (hrd _ _ (Or.inr ⟨hg, Or.inl ⟨by omega, rfl, rfl⟩⟩)) (by omega) (fun _ => ⟨pk3, hc3⟩) (hf2.tr hf3))
      · have hng : ¬ gdT kind tx c at0 := fun h => by
          have := g1.mp h
          rcases a1 with a1 | a1
          · omega
          · exact a1 this.2
        refine V.brT rfl rfl ?_
        refine V.run 0 54 rfl hn trivial ?_
        refine V.ret (v := some (.int (iZ at0))) rfl rfl rfl rfl (hQ σ3 _ _ (hrd _ _ (Or.inl ⟨hng, rfl, rfl⟩)) (by omega) (fun h => by omega) (hf2.tr hf3))
  exact key 121 0 0 [] pk1 σ1 none (by omega) (by omega) (by omega) rfl hc1 (hf1.mono (by simp)) (fun res rf h => h)
end CF27
section CF31
variable {d n ca cb tr : Nat} {Q : PQ} {σ : Mem}
theorem c_readInto_31 (hn : 54 ≤ n) (hd : 5 ≤ d) {kind : Nat} {tx : List Nat} (hk : kind ≤ 3) (ht : txtM σ tx) (hQ : ∀ (σ' : Mem) (res : Int) (rf : List Nat), rdP kind tx 121 0 [] res rf → -4 ≤ res ∧ res ≤ 1000 → (res = -4 → ∃ pk, chnM 31 σ' kind rf pk) → Fr [31, 32, 33, 34] σ σ' → Q (some (.int (iZ res))) (rho ca cb tr) σ') : Mt M_X6_readInto d n n [.ref 25, .ref 31, .int (iZ kind)] (rho ca cb tr) σ Q := by
  have htl := ht.1
  refine Mt.of rfl (by decide +kernel) tk_X6_readInto (Nat.le_of_ble_eq_true rfl) ?_
  refine V.run 0 54 rfl hn trivial ?_
  refine V.cv (lo := 54) (d' := d - 1) rfl rfl ok_X1_clear lk_6_X1_clear rfl rfl rfl hn (by omega) (Nat.le_refl _) (Nat.le_refl _) ((c_cclear_31 hn hk (fun σ1 pk1 hc1 hf1 => ?_)))
  refine V.run 10 54 rfl hn trivial ?_
  have key : ∀ (j t at0 : Nat) (c : List Nat) (pk : Nat → Nat × Nat) (σ2 : Mem) (x5 : Option Value), t + j = 121 → 2 * t ≤ at0 → at0 ≤ tx.length → c.length = t → chnM 31 σ2 kind c pk → Fr [31, 32, 33, 34] σ σ2 → (∀ res rf, rdP kind tx j at0 c res rf → rdP kind tx 121 0 [] res rf) → V M_X6_readInto d n n none Q n (rho ca cb tr) σ2 10 [some (.ref 25), some (.ref 31), some (.int (iZ (kind))), some (.int (iZ (at0))), some (.int (iZ (t))), x5] [] := by
    intro j
    induction j with
    | zero => intro t at0 c pk σ2 x5 h1 h2 h3; omega
    | succ j ih =>
      intro t at0 c pk σ2 x5 h1 h2 h3 h4 hc2 hf2 hrd
      have ht2 := ht.fr hf2 (by decide) (by decide)
      obtain ⟨t1, t2, t3, t4⟩ := id ht2
      have hdl := dgs_len tx at0 h3
      obtain ⟨g1, g2⟩ := gd_iff (kind := kind) (tx := tx) (r := c) (at0 := at0)
      have hcv := (clV_ok (ds := dgs tx at0) (fun b hb => dgs_mem hb)).1
      refine V.run 0 54 rfl hn trivial ?_
      refine V.brF rfl (fun q => by have := (iZ_lt (by omega) (by omega)).mp q; omega) ?_
      refine V.run 0 54 rfl hn trivial ?_
      refine V.cv (lo := 54) (d' := d - 1) rfl rfl ok_X6_endOfFigures lk_6_X6_endOfFigures rfl rfl rfl hn (by omega) (Nat.le_refl _) (Nat.le_refl _) ((c_endOf hn (by omega) h3 ht2 ?_))
      refine V.run 0 54 rfl hn trivial ?_
      refine V.cv (lo := 54) (d' := d - 1) rfl rfl ok_X6_valueOf lk_6_X6_valueOf rfl rfl rfl hn (by omega) (Nat.le_refl _) (Nat.le_refl _) ((c_valueOf hn h3 ht2 ?_))
      refine V.cv (lo := 54) (d' := d - 1) rfl rfl ok_X1_add lk_6_X1_add rfl rfl rfl hn (by omega) (Nat.le_refl _) (Nat.le_refl _) ((c_cadd_31 hn (by omega) hcv (by omega) hc2 (fun a1 a2 σ3 pk3 hc3 hf3 => ?_) (fun a1 σ3 hf3 => ?_)))
      · have hg := g1.mpr ⟨a1, a2⟩
        have hve := g2 hg
        have hdne : 1 ≤ (dgs tx at0).length := by
          rcases Nat.eq_zero_or_pos (dgs tx at0).length with q | q
          · exact absurd (List.eq_nil_of_length_eq_zero q) hg.1
          · exact q
        have ht3 := ht2.fr hf3 (by decide) (by decide)
        obtain ⟨u1, u2, u3, u4⟩ := id ht3
        rw [← hve] at hc3
        refine V.brF rfl (by decide) ?_
        refine V.run 0 54 rfl hn trivial ?_
        try simp only [rc_1_0, rc_1_1, rc_1_2, rc_1_3, rc_1_4, rc_1_5, rc_2_0, rc_2_1, rc_2_2, rc_6_0, rc_6_1, rc_6_2, rc_6_3, rc_7_0, rc_7_1, rc_7_2, rc_7_3, rc_12_0, rc_12_1, rc_12_2, rc_12_3, rc_18_0, rc_18_1, rc_20_0, rc_20_1, rc_22_0, rc_23_0, rc_25_0, rc_27_0, rc_27_1, rc_27_2, rc_31_0, rc_31_1, rc_31_2, rc_55_0, rc_55_1, rc_55_2, rc_1_6, rc_1_7, rc_23_2, fi_0_1, fi_0_2, fi_0_3, fi_1_3, fi_1_4, fi_1_5, fi_1_6, fi_1_7, fi_2_2, fi_3_3, fi_3_4, fi_3_5, fi_4_1, fi_5_4, fi_5_5, fi_5_6, fi_5_7, fi_5_8, fi_5_9, fi_6_1, fi_7_3, fi_7_4]
        rw [u2]
        refine V.br rfl (fun (c1 : iZ (at0 + (dgs tx at0).length : Nat) < iZ tx.length) => ?_) (fun (c1 : ¬ (iZ (at0 + (dgs tx at0).length : Nat) < iZ tx.length)) => ?_)
        · rw [iZ_lt (by omega) (by omega)] at c1
          have hb := u4 _ (getD_mem2 (r := tx) (i := at0 + (dgs tx at0).length) (by omega))
          have hs := sgN_b hb
          refine V.run 0 54 rfl hn ⟨in_N (n := 120) (by omega) (by decide), trivial⟩ ?_
          try simp only [rc_1_0, rc_1_1, rc_1_2, rc_1_3, rc_1_4, rc_1_5, rc_2_0, rc_2_1, rc_2_2, rc_6_0, rc_6_1, rc_6_2, rc_6_3, rc_7_0, rc_7_1, rc_7_2, rc_7_3, rc_12_0, rc_12_1, rc_12_2, rc_12_3, rc_18_0, rc_18_1, rc_20_0, rc_20_1, rc_22_0, rc_23_0, rc_25_0, rc_27_0, rc_27_1, rc_27_2, rc_31_0, rc_31_1, rc_31_2, rc_55_0, rc_55_1, rc_55_2, rc_1_6, rc_1_7, rc_23_2, fi_0_1, fi_0_2, fi_0_3, fi_1_3, fi_1_4, fi_1_5, fi_1_6, fi_1_7, fi_2_2, fi_3_3, fi_3_4, fi_3_5, fi_4_1, fi_5_4, fi_5_5, fi_5_6, fi_5_7, fi_5_8, fi_5_9, fi_6_1, fi_7_3, fi_7_4]
          rw [ix_N (by omega), u3 _ (by omega)]
          refine V.br rfl (fun (c2 : iZ (sgN (tx.getD (at0 + (dgs tx at0).length) 0)) = iZ 44) => ?_) (fun (c2 : ¬ (iZ (sgN (tx.getD (at0 + (dgs tx at0).length) 0)) = iZ 44)) => ?_)
          · rw [iZ_eq (by omega) (by omega)] at c2
            have e44 : tx.getD (at0 + (dgs tx at0).length) 0 = 44 := by
              rcases Nat.lt_or_ge (tx.getD (at0 + (dgs tx at0).length) 0) 128 with q | q
              · have := hs.2.2.1 q
                omega
              · have := hs.2.2.2 q
                omega
            refine V.run 0 54 rfl hn trivial ?_
            have := ih (t + 1) (at0 + (dgs tx at0).length + 1) (c ++ [valM (dgs tx at0)]) pk3 σ3 (some (.int (iZ (at0 + (dgs tx at0).length : Nat)))) (by omega) (by omega) (by omega) (by simp; omega) hc3 (hf2.tr hf3) (fun res rf hr => hrd res rf (Or.inr ⟨hg, Or.inr (Or.inr ⟨by omega, e44, hr⟩)⟩))
            rw [show ((at0 + (dgs tx at0).length + 1 : Nat) : Int) = ((at0 + (dgs tx at0).length : Nat) : Int) + 1 by omega, show ((t + 1 : Nat) : Int) = (t : Int) + 1 by omega, ← iZ_add, ← iZ_add] at this
            exact this
          · rw [iZ_eq (by omega) (by omega)] at c2
            have e44 : tx.getD (at0 + (dgs tx at0).length) 0 ≠ 44 := fun e => c2 (by rw [hs.2.2.1 (by omega), e]; rfl)
            refine V.run 0 54 rfl hn trivial ?_
            refine V.ret (v := some (.int (iZ (at0 + (dgs tx at0).length : Nat)))) rfl rfl rfl rfl (hQ σ3 _ _ (hrd _ _ (Or.inr ⟨hg, Or.inr (Or.inl ⟨by omega, e44, by omega, rfl⟩)⟩)) (by omega) (fun h => by omega) (hf2.tr hf3))
        · rw [iZ_lt (by omega) (by omega)] at c1
          refine V.run 0 54 rfl hn trivial ?_
          refine V.ret (v := some (.int (iZ (-4)))) rfl rfl rfl rfl (hQ σ3 (-4) _ (hrd _ _ (Or.inr ⟨hg, Or.inl ⟨by omega, rfl, rfl⟩⟩)) (by omega) (fun _ => ⟨pk3, hc3⟩) (hf2.tr hf3))
      · have hng : ¬ gdT kind tx c at0 := fun h => by
          have := g1.mp h
          rcases a1 with a1 | a1
          · omega
          · exact a1 this.2
        refine V.brT rfl rfl ?_
        refine V.run 0 54 rfl hn trivial ?_
        refine V.ret (v := some (.int (iZ at0))) rfl rfl rfl rfl (hQ σ3 _ _ (hrd _ _ (Or.inl ⟨hng, rfl, rfl⟩)) (by omega) (fun h => by omega) (hf2.tr hf3))
  exact key 121 0 0 [] pk1 σ1 none (by omega) (by omega) (by omega) rfl hc1 (hf1.mono (by simp)) (fun res rf h => h)
end CF31
