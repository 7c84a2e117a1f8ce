/-! ===== the class: a chain takes a number; drawers (two of them, written by program) ===== -/
theorem may_iff {kind v : Nat} {c : List Nat} (hr : rowOk kind c) (hne : 1 ≤ c.length) : mayC kind c v ↔ ((kind = 2 → v ∉ c) ∧ (kind ≠ 2 → lastD c < v)) ∧ ∃ i j, pickI kind c v i j := by
  have hc : c ≠ [] := fun e => by rw [e] at hne; simp at hne
  have hlm : lastD c ∈ c := by rw [lastD_eq (by omega)]; exact getD_mem2 (by omega)
  unfold mayC
  constructor
  · rintro (⟨h, -⟩ | ⟨-, h1, h2, h3⟩)
    · exact absurd h hc
    · refine ⟨⟨fun _ => h1, fun hk => ?_⟩, h3⟩
      have := h2 hk
      rcases Nat.eq_or_lt_of_le this with q | q
      · exact absurd (by rw [← q]; exact hlm) h1
      · exact q
  · rintro ⟨⟨h1, h2⟩, h3⟩
    refine Or.inr ⟨hc, fun hm => ?_, fun hk => Nat.le_of_lt (h2 hk), h3⟩
    by_cases hk : kind = 2
    · exact h1 hk hm
    · have := h2 hk
      have := hr.2.2.2 hk v hm
      omega
theorem max_iZ {x y : Nat} (hx : x ≤ 1000) (hy : y ≤ 1000) : (if iZ (x : Int) < iZ (y : Int) then iZ (y : Int) else iZ (x : Int)) = iZ (max x y : Nat) := by
  by_cases h : x < y
  · rw [if_pos ((iZ_lt (by omega) (by omega)).mpr (by omega))]
    exact iZ_pat (by omega)
  · rw [if_neg (fun z => by have := (iZ_lt (by omega) (by omega)).mp z; omega)]
    exact iZ_pat (by omega)
section CE27
variable {d n ca cb tr : Nat} {Q : PQ} {σ : Mem}
theorem c_mayStand_27 (hn : 54 ≤ n) (hd : 2 ≤ d) {kind v : Nat} {c : List Nat} (hv : v ≤ 99999) (hne : 1 ≤ c.length) (hc : chnN 27 σ kind c) (h1 : (kind = 2 → v ∉ c) ∧ (kind ≠ 2 → lastD c < v) → Q (some (.int 1)) (rho ca cb tr) σ) (h0 : ¬ ((kind = 2 → v ∉ c) ∧ (kind ≠ 2 → lastD c < v)) → Q (some (.int 0)) (rho ca cb tr) σ) : Mt M_X1_mayStandNext d n n [.ref 27, .int (iZ v)] (rho ca cb tr) σ Q := by
  obtain ⟨r1, r2, r3, r4, r5⟩ := id hc
  have hb := r1.2.1 _ (getD_mem2 (r := c) (i := c.length - 1) (by omega))
  rw [← lastD_eq (by omega)] at hb
  have hl := r1.1
  refine Mt.of rfl (by decide +kernel) tk_X1_mayStandNext (Nat.le_of_ble_eq_true rfl) ?_
  refine V.run 0 54 rfl hn trivial ?_
  try simp only [rc_1_0, rc_1_1, rc_1_2, rc_1_3, rc_1_4, rc_1_5, rc_2_0, rc_2_1, rc_2_2, rc_6_0, rc_6_1, rc_6_2, rc_6_3, rc_7_0, rc_7_1, rc_7_2, rc_7_3, rc_12_0, rc_12_1, rc_12_2, rc_12_3, rc_18_0, rc_18_1, rc_20_0, rc_20_1, rc_22_0, rc_23_0, rc_25_0, rc_27_0, rc_27_1, rc_27_2, rc_31_0, rc_31_1, rc_31_2, rc_55_0, rc_55_1, rc_55_2, rc_1_6, rc_1_7, rc_23_2, fi_0_1, fi_0_2, fi_0_3, fi_1_3, fi_1_4, fi_1_5, fi_1_6, fi_1_7, fi_2_2, fi_3_3, fi_3_4, fi_3_5, fi_4_1, fi_5_4, fi_5_5, fi_5_6, fi_5_7, fi_5_8, fi_5_9, fi_6_1, fi_7_3, fi_7_4]
  rw [r4]
  refine V.br rfl (fun (c1 : iZ kind = iZ 2) => ?_) (fun (c1 : ¬ (iZ kind = iZ 2)) => ?_)
  · rw [iZ_eq (by omega) (by omega)] at c1
    refine V.run 0 54 rfl hn trivial ?_
    refine V.cv (lo := 54) (d' := d - 1) rfl rfl ok_X1_placeOf lk_1_X1_placeOf rfl rfl rfl hn (by omega) (Nat.le_refl _) (Nat.le_refl _) ((c_placeOf_27 hn (by omega) hc (fun t ht e => ?_) (fun hno => ?_)))
    · refine V.brT rfl ((iZ_0le (by omega)).mpr (by omega)) ?_
      refine V.run 0 54 rfl hn trivial ?_
      refine V.ret (v := some (.int 0)) rfl rfl ⟨rfl, Or.inl rfl⟩ rfl (h0 (fun h => h.1 (by omega) (by rw [show v = c.getD t 0 by omega]; exact getD_mem2 ht)))
    · refine V.brF rfl (by decide) ?_
      refine V.run 0 54 rfl hn trivial ?_
      have hnm : v ∉ c := fun q => by
        obtain ⟨t, ht, e⟩ := mem_getD q
        exact hno t ht (by omega)
      refine V.ret (v := some (.int 1)) rfl rfl ⟨rfl, Or.inr rfl⟩ rfl (h1 ⟨fun _ => hnm, fun h => absurd (show kind = 2 by omega) h⟩)
  · rw [iZ_eq (by omega) (by omega)] at c1
    refine V.run 0 54 rfl hn trivial ?_
    refine V.cv (lo := 54) (d' := d - 1) rfl rfl ok_X1_latest lk_1_X1_latest rfl rfl rfl hn (by omega) (Nat.le_refl _) (Nat.le_refl _) ((c_clatest_27 hn (by omega) hne hc ?_))
    refine V.br rfl (fun (c2 : iZ v ≤ iZ (lastD c : Int)) => ?_) (fun (c2 : ¬ (iZ v ≤ iZ (lastD c : Int))) => ?_)
    · rw [iZ_le (by omega) (by omega)] at c2
      refine V.run 0 54 rfl hn trivial ?_
      refine V.ret (v := some (.int 0)) rfl rfl ⟨rfl, Or.inl rfl⟩ rfl (h0 (fun h => by have := h.2 (by omega); omega))
    · rw [iZ_le (by omega) (by omega)] at c2
      refine V.run 0 54 rfl hn trivial ?_
      refine V.ret (v := some (.int 1)) rfl rfl ⟨rfl, Or.inr rfl⟩ rfl (h1 ⟨fun h => by omega, fun _ => by omega⟩)
theorem c_cadd_27 (hn : 54 ≤ n) (hd : 4 ≤ d) {kind v : Nat} {c : List Nat} {pk : Nat → Nat × Nat} (hv : v ≤ 99999) (hl : c.length < 64) (hc : chnM 27 σ kind c pk) (h1 : 1 ≤ v → mayC kind c v → ∀ σ' pk', chnM 27 σ' kind (c ++ [v]) pk' → Fr [27, 28, 29, 30] σ σ' → Q (some (.int 1)) (rho ca cb tr) σ') (h0 : v = 0 ∨ ¬ mayC kind c v → ∀ σ', Fr [27, 28, 29, 30] σ σ' → Q (some (.int 0)) (rho ca cb tr) σ') : Mt M_X1_add d n n [.ref 27, .int (iZ v)] (rho ca cb tr) σ Q := by
  obtain ⟨⟨r1, r2, r3, r4, r5⟩, s1, s2, s3, s4⟩ := id hc
  have r5 : ∀ i, i < c.length → σ 28 i = iZ (c.getD i 0) := r5
  have s2 : ∀ i, i < c.length → σ 29 i = iZ (lastN pk i c.length) := s2
  have s3 : ∀ i, i < c.length → σ 30 i = iZ (useN pk i c.length) := s3
  have hlen : (c ++ [v]).length = c.length + 1 := by simp
  refine Mt.of rfl (by decide +kernel) tk_X1_add (Nat.le_of_ble_eq_true rfl) ?_
  refine V.run 0 54 rfl hn trivial ?_
  try simp only [rc_1_0, rc_1_1, rc_1_2, rc_1_3, rc_1_4, rc_1_5, rc_2_0, rc_2_1, rc_2_2, rc_6_0, rc_6_1, rc_6_2, rc_6_3, rc_7_0, rc_7_1, rc_7_2, rc_7_3, rc_12_0, rc_12_1, rc_12_2, rc_12_3, rc_18_0, rc_18_1, rc_20_0, rc_20_1, rc_22_0, rc_23_0, rc_25_0, rc_27_0, rc_27_1, rc_27_2, rc_31_0, rc_31_1, rc_31_2, rc_55_0, rc_55_1, rc_55_2, rc_1_6, rc_1_7, rc_23_2, fi_0_1, fi_0_2, fi_0_3, fi_1_3, fi_1_4, fi_1_5, fi_1_6, fi_1_7, fi_2_2, fi_3_3, fi_3_4, fi_3_5, fi_4_1, fi_5_4, fi_5_5, fi_5_6, fi_5_7, fi_5_8, fi_5_9, fi_6_1, fi_7_3, fi_7_4]
  rw [r3]
  refine V.br rfl (fun (c0 : iZ c.length = 0) => ?_) (fun (c0 : ¬ (iZ c.length = 0)) => ?_)
  · rw [iZ_eq0 (by omega)] at c0
    have hc0 : c = [] := List.eq_nil_of_length_eq_zero (by omega)
    subst hc0
    refine V.run 0 54 rfl hn trivial ?_
    refine V.br rfl (fun (c1 : iZ v = iZ 1) => ?_) (fun (c1 : ¬ (iZ v = iZ 1)) => ?_)
    · rw [iZ_eq (by omega) (by omega)] at c1
      have hv1 : v = 1 := by omega
      subst hv1
      refine V.run 0 54 rfl hn trivial ?_
      refine V.cv (lo := 54) (d' := d - 1) rfl rfl ok_X1_append lk_1_X1_append rfl rfl rfl hn (by omega) (Nat.le_refl _) (Nat.le_refl _) ((c_cappend_27 hn (L := 0) (by omega) r3 ?_))
      refine V.brF rfl (by decide) ?_
      refine V.run 0 54 rfl hn trivial ?_
      have hm : mayC kind [] 1 := Or.inl ⟨rfl, rfl⟩
      refine V.ret (v := some (.int 1)) rfl rfl ⟨rfl, Or.inr rfl⟩ rfl (h1 (by omega) hm _ pk ⟨⟨rowOk_app r1 (by simp) (by omega) hm, r2, ?_, ?_, fun i hi => ?_⟩, ?_, fun i hi => ?_, fun i hi => ?_, fun k k1 k2 => ?_⟩ (Fr.putT (Fr.putT (Fr.putT (Fr.put (by simp)) (by simp)) (by simp)) (by simp)))
      · rw [up_at]; rfl
      · rw [up_nat (by decide), up_ne (by decide), up_ne (by decide), up_ne (by decide)]; exact r4
      · have : i = 0 := by simp at hi; omega
        subst this
        show up _ 27 3 _ 28 0 = _
        rw [up_ne (by decide), up_ne (by decide), up_ne (by decide), up_at]
        rfl
      · rw [up_nat (by decide), up_ne (by decide), up_ne (by decide), up_ne (by decide), s1]
        rfl
      · have : i = 0 := by simp at hi; omega
        subst this
        show up _ 27 3 _ 29 0 = _
        rw [up_ne (by decide), up_ne (by decide), up_at]
        rfl
      · have : i = 0 := by simp at hi; omega
        subst this
        show up _ 27 3 _ 30 0 = _
        rw [up_ne (by decide), up_at]
        rfl
      · simp at k2
        omega
    · rw [iZ_eq (by omega) (by omega)] at c1
      have hnm : ¬ mayC kind [] v := fun h => by
        rcases h with ⟨-, h⟩ | ⟨h, -⟩
        · omega
        · exact h rfl
      refine V.run 0 54 rfl hn trivial ?_
      refine V.ret (v := some (.int 0)) rfl rfl ⟨rfl, Or.inl rfl⟩ rfl (h0 (Or.inr hnm) σ Fr.rf)
  · rw [iZ_eq0 (by omega)] at c0
    have hne : 1 ≤ c.length := by omega
    have hmi := may_iff (v := v) r1 hne
    have zero : (v = 0 ∨ ¬ mayC kind c v) → V M_X1_add d n n none Q n (rho ca cb tr) σ 39 [some (.ref 27), some (.int (iZ (v)))] [] := by
      intro h
      refine V.run 0 54 rfl hn trivial ?_
      refine V.ret (v := some (.int 0)) rfl rfl ⟨rfl, Or.inl rfl⟩ rfl (h0 h σ Fr.rf)
    refine V.run 0 54 rfl hn trivial ?_
    refine V.br rfl (fun (c1 : iZ v < iZ 1) => ?_) (fun (c1 : ¬ (iZ v < iZ 1)) => ?_)
    · rw [iZ_lt (by omega) (by omega)] at c1
      exact zero (Or.inl (by omega))
    · rw [iZ_lt (by omega) (by omega)] at c1
      refine V.run 0 54 rfl hn trivial ?_
      refine V.cv (lo := 54) (d' := d - 1) rfl rfl ok_X1_mayStandNext lk_1_X1_mayStandNext rfl rfl rfl hn (by omega) (Nat.le_refl _) (Nat.le_refl _) ((c_mayStand_27 hn (by omega) hv hne hc.1 (fun g => ?_) (fun g => ?_)))
      · refine V.brF rfl (by decide) ?_
        have k66 : ∀ σ2 : Mem, Fr [27] σ σ2 → (∀ j, j ≠ 6 → j ≠ 7 → σ2 27 j = σ 27 j) → ((σ2 27 6 = iZ (-1) ∧ ¬ ∃ i j, pickI kind c v i j) ∨ (∃ (a b : Nat) (q : Nat × Nat), σ2 27 6 = iZ a ∧ σ2 27 7 = iZ b ∧ (q = (a, b) ∨ q = (b, a)) ∧ pickI kind c v q.1 q.2)) → V M_X1_add d n n none Q n (rho ca cb tr) σ2 66 [some (.ref 27), some (.int (iZ (v)))] [] := by
          intro σ2 hf2 ho2 hres
          refine V.run 0 54 rfl hn trivial ?_
          try simp only [rc_1_0, rc_1_1, rc_1_2, rc_1_3, rc_1_4, rc_1_5, rc_2_0, rc_2_1, rc_2_2, rc_6_0, rc_6_1, rc_6_2, rc_6_3, rc_7_0, rc_7_1, rc_7_2, rc_7_3, rc_12_0, rc_12_1, rc_12_2, rc_12_3, rc_18_0, rc_18_1, rc_20_0, rc_20_1, rc_22_0, rc_23_0, rc_25_0, rc_27_0, rc_27_1, rc_27_2, rc_31_0, rc_31_1, rc_31_2, rc_55_0, rc_55_1, rc_55_2, rc_1_6, rc_1_7, rc_23_2, fi_0_1, fi_0_2, fi_0_3, fi_1_3, fi_1_4, fi_1_5, fi_1_6, fi_1_7, fi_2_2, fi_3_3, fi_3_4, fi_3_5, fi_4_1, fi_5_4, fi_5_5, fi_5_6, fi_5_7, fi_5_8, fi_5_9, fi_6_1, fi_7_3, fi_7_4]
          rcases hres with ⟨e6, hno⟩ | ⟨a, b, q, e6, e7, hq, hp⟩
          · rw [e6]
            refine V.brT rfl (by decide) ?_
            refine V.run 0 54 rfl hn trivial ?_
            refine V.ret (v := some (.int 0)) rfl rfl ⟨rfl, Or.inl rfl⟩ rfl (h0 (Or.inr (fun h => hno (hmi.mp h).2)) σ2 (hf2.mono (by simp)))
          · have hab : a < c.length ∧ b < c.length := by
              rcases hq with rfl | rfl
              · exact ⟨hp.1, hp.2.1⟩
              · exact ⟨hp.2.1, hp.1⟩
            have hm : mayC kind c v := hmi.mpr ⟨g, q.1, q.2, hp⟩
            rw [e6]
            refine V.brF rfl (fun z => by have := (iZ_lt0 (by omega)).mp z; omega) ?_
            refine V.run 0 54 rfl hn trivial ?_
            refine V.cv (lo := 54) (d' := d - 1) rfl rfl ok_X1_append lk_1_X1_append rfl rfl rfl hn (by omega) (Nat.le_refl _) (Nat.le_refl _) ((c_cappend_27 hn (L := c.length) hl (by rw [ho2 3 (by decide) (by decide)]; exact r3) ?_))
            have t3 : up (up (up (up σ2 28 c.length (iZ v)) 29 c.length (iZ 0)) 30 c.length (iZ 0)) 27 3 (iZ (c.length + 1)) 27 3 = iZ ((c.length : Int) + 1) := up_at
            have tO : ∀ j, j ≠ 3 → up (up (up (up σ2 28 c.length (iZ v)) 29 c.length (iZ 0)) 30 c.length (iZ 0)) 27 3 (iZ (c.length + 1)) 27 j = σ2 27 j := fun j hj => by rw [up_nat hj, up_ne (by decide), up_ne (by decide), up_ne (by decide)]
            have t1 : ∀ i, up (up (up (up σ2 28 c.length (iZ v)) 29 c.length (iZ 0)) 30 c.length (iZ 0)) 27 3 (iZ (c.length + 1)) 28 i = if i = c.length then iZ v else σ 28 i := fun i => by
              rw [up_ne (by decide), up_ne (by decide), up_ne (by decide)]
              by_cases e : i = c.length
              · rw [if_pos e, e, up_at]
              · rw [if_neg e, up_nat e, hf2 28 (by decide)]
            have t2 : ∀ i, up (up (up (up σ2 28 c.length (iZ v)) 29 c.length (iZ 0)) 30 c.length (iZ 0)) 27 3 (iZ (c.length + 1)) 29 i = if i = c.length then iZ 0 else σ 29 i := fun i => by
              rw [up_ne (by decide), up_ne (by decide)]
              by_cases e : i = c.length
              · rw [if_pos e, e, up_at]
              · rw [if_neg e, up_nat e, up_ne (by decide), hf2 29 (by decide)]
            have t4 : ∀ i, up (up (up (up σ2 28 c.length (iZ v)) 29 c.length (iZ 0)) 30 c.length (iZ 0)) 27 3 (iZ (c.length + 1)) 30 i = if i = c.length then iZ 0 else σ 30 i := fun i => by
              rw [up_ne (by decide)]
              by_cases e : i = c.length
              · rw [if_pos e, e, up_at]
              · rw [if_neg e, up_nat e, up_ne (by decide), up_ne (by decide), hf2 30 (by decide)]
            have tf : Fr [27, 28, 29, 30] σ (up (up (up (up σ2 28 c.length (iZ v)) 29 c.length (iZ 0)) 30 c.length (iZ 0)) 27 3 (iZ (c.length + 1))) := Fr.putT (Fr.putT (Fr.putT (Fr.putT (hf2.mono (by simp)) (by simp)) (by simp)) (by simp)) (by simp)
            generalize up (up (up (up σ2 28 c.length (iZ v)) 29 c.length (iZ 0)) 30 c.length (iZ 0)) 27 3 (iZ (c.length + 1)) = σ3 at t3 tO t1 t2 t4 tf ⊢
            refine V.brF rfl (by decide) ?_
            refine V.run 0 54 rfl hn trivial ?_
            try simp only [rc_1_0, rc_1_1, rc_1_2, rc_1_3, rc_1_4, rc_1_5, rc_2_0, rc_2_1, rc_2_2, rc_6_0, rc_6_1, rc_6_2, rc_6_3, rc_7_0, rc_7_1, rc_7_2, rc_7_3, rc_12_0, rc_12_1, rc_12_2, rc_12_3, rc_18_0, rc_18_1, rc_20_0, rc_20_1, rc_22_0, rc_23_0, rc_25_0, rc_27_0, rc_27_1, rc_27_2, rc_31_0, rc_31_1, rc_31_2, rc_55_0, rc_55_1, rc_55_2, rc_1_6, rc_1_7, rc_23_2, fi_0_1, fi_0_2, fi_0_3, fi_1_3, fi_1_4, fi_1_5, fi_1_6, fi_1_7, fi_2_2, fi_3_3, fi_3_4, fi_3_5, fi_4_1, fi_5_4, fi_5_5, fi_5_6, fi_5_7, fi_5_8, fi_5_9, fi_6_1, fi_7_3, fi_7_4]
            rw [t3, iZ_sub, show (c.length : Int) + 1 - 1 = (c.length : Int) by omega]
            refine V.cv (lo := 54) (d' := d - 1) rfl rfl ok_X1_useBoth lk_1_X1_useBoth rfl rfl rfl hn (by omega) (Nat.le_refl _) (Nat.le_refl _) ((c_cuse_27 hn (a := a) (b := b) (s := c.length) hl hab.1 hab.2 (by rw [tO 6 (by decide)]; exact e6) (by rw [tO 7 (by decide)]; exact e7) (fun σ4 u2 u3 u5 uf uo => ?_)))
            refine V.brF rfl (by decide) ?_
            refine V.run 0 54 rfl hn trivial ?_
            have hst := fun t => use_step pk q t hne
            have hz := use_zero (t := c.length) s4 (Nat.le_refl _) (by omega)
            refine V.ret (v := some (.int 1)) rfl rfl ⟨rfl, Or.inr rfl⟩ rfl (h1 (by omega) hm σ4 (fun k => if k = c.length then q else pk k) ⟨⟨rowOk_app r1 hl (by omega) hm, r2, ?_, ?_, fun i hi => ?_⟩, ?_, fun i hi => ?_, fun i hi => ?_, ?_⟩ (tf.tr (uf.mono (by simp))))
            · rw [uo 3 (by decide), t3, hlen]; rfl
            · rw [uo 4 (by decide), tO 4 (by decide), ho2 4 (by decide) (by decide)]; exact r4
            · show σ4 28 i = _
              rw [uf 28 (by decide), t1 i]
              by_cases e : i = c.length
              · rw [if_pos e, e, getD_last]
              · rw [if_neg e, r5 i (by omega), getD_app (by omega)]
            · rw [u5, tO 5 (by decide), ho2 5 (by decide) (by decide), s1, hlen, (hst 0).2.2, iZ_add]
              have : (if a = b then 1 else 0) = (if q.1 = q.2 then 1 else 0) := by
                rcases hq with rfl | rfl
                · rfl
                · by_cases e : a = b
                  · rw [if_pos e, if_pos e.symm]
                  · rw [if_neg e, if_neg (fun z => e z.symm)]
              rw [this]
              exact iZ_pat (by omega)
            · show σ4 29 i = _
              rw [u2 i, t2 i, hlen, (hst i).2.1]
              have hor : (a = i ∨ b = i) ↔ (q.1 = i ∨ q.2 = i) := by
                rcases hq with rfl | rfl
                · exact Iff.rfl
                · exact Or.comm
              by_cases e : a = i ∨ b = i
              · rw [if_pos e, if_pos (hor.mp e)]
              · rw [if_neg e, if_neg (fun z => e (hor.mpr z))]
                by_cases e2 : i = c.length
                · rw [if_pos e2, e2, hz.2]; rfl
                · rw [if_neg e2, s2 i (by omega)]
            · show σ4 30 i = _
              rw [u3 i, t4 i, hlen, (hst i).1]
              have hor : (if a = i then 1 else 0) + (if b = i then 1 else 0) = (if q.1 = i then 1 else 0) + (if q.2 = i then 1 else 0) := by
                rcases hq with rfl | rfl
                · rfl
                · exact Nat.add_comm _ _
              rw [hor]
              by_cases e2 : i = c.length
              · rw [if_pos e2, e2, hz.1, iZ_add]
                exact iZ_pat (by omega)
              · rw [if_neg e2, s3 i (by omega), iZ_add]
                exact iZ_pat (by omega)
            · rw [hlen]
              exact use_next hne s4 hp
        refine V.run 0 54 rfl hn trivial ?_
        refine V.cv (lo := 54) (d' := d - 1) rfl rfl ok_X1_findSum lk_1_X1_findSum rfl rfl rfl hn (by omega) (Nat.le_refl _) (Nat.le_refl _) ((c_findSum_27 hn (by omega) (by omega) hc.1 (fun σ1 hI hf1 ho1 => ?_)))
        refine V.run 0 54 rfl hn trivial ?_
        try simp only [rc_1_0, rc_1_1, rc_1_2, rc_1_3, rc_1_4, rc_1_5, rc_2_0, rc_2_1, rc_2_2, rc_6_0, rc_6_1, rc_6_2, rc_6_3, rc_7_0, rc_7_1, rc_7_2, rc_7_3, rc_12_0, rc_12_1, rc_12_2, rc_12_3, rc_18_0, rc_18_1, rc_20_0, rc_20_1, rc_22_0, rc_23_0, rc_25_0, rc_27_0, rc_27_1, rc_27_2, rc_31_0, rc_31_1, rc_31_2, rc_55_0, rc_55_1, rc_55_2, rc_1_6, rc_1_7, rc_23_2, fi_0_1, fi_0_2, fi_0_3, fi_1_3, fi_1_4, fi_1_5, fi_1_6, fi_1_7, fi_2_2, fi_3_3, fi_3_4, fi_3_5, fi_4_1, fi_5_4, fi_5_5, fi_5_6, fi_5_7, fi_5_8, fi_5_9, fi_6_1, fi_7_3, fi_7_4]
        rcases hI with ⟨i1, i2⟩ | ⟨a, b, i1, i2, i3, i4, i5, i6, i7, i8⟩
        · have hsx := no_sum i2
          rw [i1]
          refine V.brF rfl (by decide) ?_
          have e4 : σ1 27 4 = iZ kind := by rw [ho1 4 (by decide) (by decide)]; exact r4
          refine V.run 0 54 rfl hn trivial ?_
          try simp only [rc_1_0, rc_1_1, rc_1_2, rc_1_3, rc_1_4, rc_1_5, rc_2_0, rc_2_1, rc_2_2, rc_6_0, rc_6_1, rc_6_2, rc_6_3, rc_7_0, rc_7_1, rc_7_2, rc_7_3, rc_12_0, rc_12_1, rc_12_2, rc_12_3, rc_18_0, rc_18_1, rc_20_0, rc_20_1, rc_22_0, rc_23_0, rc_25_0, rc_27_0, rc_27_1, rc_27_2, rc_31_0, rc_31_1, rc_31_2, rc_55_0, rc_55_1, rc_55_2, rc_1_6, rc_1_7, rc_23_2, fi_0_1, fi_0_2, fi_0_3, fi_1_3, fi_1_4, fi_1_5, fi_1_6, fi_1_7, fi_2_2, fi_3_3, fi_3_4, fi_3_5, fi_4_1, fi_5_4, fi_5_5, fi_5_6, fi_5_7, fi_5_8, fi_5_9, fi_6_1, fi_7_3, fi_7_4]
          rw [e4]
          refine V.br rfl (fun (c2 : iZ kind = iZ 2) => ?_) (fun (c2 : ¬ (iZ kind = iZ 2)) => ?_)
          · rw [iZ_eq (by omega) (by omega)] at c2
            have hk2 : kind = 2 := by omega
            subst hk2
            have hc1 : chnN 27 σ1 2 c := ⟨r1, r2, by rw [ho1 3 (by decide) (by decide)]; exact r3, e4, fun i hi => by show σ1 28 i = _; rw [hf1 28 (by decide)]; exact r5 i hi⟩
            refine V.run 0 54 rfl hn trivial ?_
            refine V.cv (lo := 54) (d' := d - 1) rfl rfl ok_X1_findDifference lk_1_X1_findDifference rfl rfl rfl hn (by omega) (Nat.le_refl _) (Nat.le_refl _) ((c_findDiff_27 hn (by omega) (by omega) hc1 i1 (fun σ2 hI2 hf2 ho2 => ?_)))
            refine k66 σ2 (hf1.tr hf2) (fun j p q => by rw [ho2 j p q, ho1 j p q]) ?_
            rcases hI2 with ⟨j1, j2⟩ | ⟨a, b, j1, j2, j3, j4, j5, j8⟩
            · exact Or.inl ⟨j1, noPick r1 hsx (fun _ => no_diff j2)⟩
            · exact Or.inr ⟨a, b, (b, a), j1, j2, Or.inr rfl, fd_two hsx j3 j4 j5 j8⟩
          · rw [iZ_eq (by omega) (by omega)] at c2
            exact k66 σ1 hf1 ho1 (Or.inl ⟨i1, noPick r1 hsx (fun h => by omega)⟩)
        · rw [i1]
          refine V.brT rfl ((iZ_0le (by omega)).mpr (by omega)) ?_
          exact k66 σ1 hf1 ho1 (Or.inr ⟨a, b, (a, b), i1, i2, Or.inl rfl, fs_two r1 i3 i4 i5 i6 i7 i8⟩)
      · refine V.brT rfl rfl ?_
        exact zero (Or.inr (fun h => g (hmi.mp h).1))
theorem c_wantedFrom_27 (hn : 54 ≤ n) {kind st si : Nat} {c : List Nat} {pk : Nat → Nat × Nat} (hc : chnM 27 σ kind c pk) (hst : st ≤ c.length) (hsi : si ≤ 100) (hQ : Q (some (.int (iZ (wantN (fun t => lastN pk t c.length) si st)))) (rho ca cb tr) σ) : Mt M_X1_wantedFrom d n n [.ref 27, .int (iZ st), .int (iZ si)] (rho ca cb tr) σ Q := by
  obtain ⟨⟨r1, r2, r3, r4, r5⟩, s1, s2, s3, s4⟩ := id hc
  have s2 : ∀ i, i < c.length → σ 29 i = iZ (lastN pk i c.length) := s2
  have hl := r1.1
  refine Mt.of rfl (by decide +kernel) tk_X1_wantedFrom (Nat.le_of_ble_eq_true rfl) ?_
  refine V.run 5 54 rfl hn trivial ?_
  have key : ∀ (j i : Nat), i + j = st → V M_X1_wantedFrom d n n none Q n (rho ca cb tr) σ 5 [some (.ref 27), some (.int (iZ (st))), some (.int (iZ (si))), some (.int (iZ ((wantN (fun t => lastN pk t c.length) si i)))), some (.int (iZ (i)))] [] := by
    intro j
    induction j with
    | zero =>
      intro i hi
      have e : i = st := by omega
      subst e
      refine V.run 0 54 rfl hn trivial ?_
      refine V.brT rfl ((iZ_le (by omega) (by omega)).mpr (by omega)) ?_
      refine V.run 0 54 rfl hn trivial ?_
      refine V.ret (v := some (.int (iZ (wantN (fun t => lastN pk t c.length) si i)))) rfl rfl rfl rfl (hQ)
    | succ j ih =>
      intro i hi
      have hb := lastN_le pk i c.length
      have hnx : wantN (fun t => lastN pk t c.length) si (i + 1) = wantN (fun t => lastN pk t c.length) si i + (if si ≤ lastN pk i c.length then 1 else 0) := rfl
      have := ih (i + 1) (by omega)
      rw [hnx, show ((i + 1 : Nat) : Int) = (i : Int) + 1 by omega, ← iZ_add] at this
      refine V.run 0 54 rfl hn trivial ?_
      refine V.brF rfl (fun q => by have := (iZ_le (by omega) (by omega)).mp q; omega) ?_
      refine V.run 0 54 rfl hn ⟨in_N (n := 64) (by omega) (by decide), trivial⟩ ?_
      try simp only [rc_1_0, rc_1_1, rc_1_2, rc_1_3, rc_1_4, rc_1_5, rc_2_0, rc_2_1, rc_2_2, rc_6_0, rc_6_1, rc_6_2, rc_6_3, rc_7_0, rc_7_1, rc_7_2, rc_7_3, rc_12_0, rc_12_1, rc_12_2, rc_12_3, rc_18_0, rc_18_1, rc_20_0, rc_20_1, rc_22_0, rc_23_0, rc_25_0, rc_27_0, rc_27_1, rc_27_2, rc_31_0, rc_31_1, rc_31_2, rc_55_0, rc_55_1, rc_55_2, rc_1_6, rc_1_7, rc_23_2, fi_0_1, fi_0_2, fi_0_3, fi_1_3, fi_1_4, fi_1_5, fi_1_6, fi_1_7, fi_2_2, fi_3_3, fi_3_4, fi_3_5, fi_4_1, fi_5_4, fi_5_5, fi_5_6, fi_5_7, fi_5_8, fi_5_9, fi_6_1, fi_7_3, fi_7_4]
      rw [ix_N (by omega), s2 i (by omega)]
      refine V.br rfl (fun (c2 : iZ (lastN pk i c.length) < iZ si) => ?_) (fun (c2 : ¬ (iZ (lastN pk i c.length) < iZ si)) => ?_)
      · rw [iZ_lt (by omega) (by omega)] at c2
        rw [if_neg (by omega)] at this
        refine V.run 0 54 rfl hn trivial ?_
        exact this
      · rw [iZ_lt (by omega) (by omega)] at c2
        rw [if_pos (by omega), show ((wantN (fun t => lastN pk t c.length) si i + 1 : Nat) : Int) = ((wantN (fun t => lastN pk t c.length) si i : Nat) : Int) + 1 by omega, ← iZ_add (wantN (fun t => lastN pk t c.length) si i : Nat) 1] at this
        refine V.run 0 54 rfl hn trivial ?_
        exact this
  exact key st 0 (by omega)
theorem c_mostAtOnce_27 (hn : 54 ≤ n) (hd : 1 ≤ d) {kind : Nat} {c : List Nat} {pk : Nat → Nat × Nat} (hne : 1 ≤ c.length) (hc : chnM 27 σ kind c pk) (hQ : Q (some (.int (iZ (mostN (fun t => lastN pk t c.length) c.length)))) (rho ca cb tr) σ) : Mt M_X1_mostAtOnce d n n [.ref 27] (rho ca cb tr) σ Q := by
  obtain ⟨⟨r1, r2, r3, r4, r5⟩, s1, s2, s3, s4⟩ := id hc
  have hl := r1.1
  refine Mt.of rfl (by decide +kernel) tk_X1_mostAtOnce (Nat.le_of_ble_eq_true rfl) ?_
  refine V.run 4 54 rfl hn trivial ?_
  have key : ∀ (j i : Nat), i + j = c.length → 1 ≤ i → V M_X1_mostAtOnce d n n none Q n (rho ca cb tr) σ 4 [some (.ref 27), some (.int (iZ ((mostN (fun t => lastN pk t c.length) i)))), some (.int (iZ (i)))] [] := by
    intro j
    induction j with
    | zero =>
      intro i hi hi1
      have e : i = c.length := by omega
      refine V.run 0 54 rfl hn trivial ?_
      try simp only [rc_1_0, rc_1_1, rc_1_2, rc_1_3, rc_1_4, rc_1_5, rc_2_0, rc_2_1, rc_2_2, rc_6_0, rc_6_1, rc_6_2, rc_6_3, rc_7_0, rc_7_1, rc_7_2, rc_7_3, rc_12_0, rc_12_1, rc_12_2, rc_12_3, rc_18_0, rc_18_1, rc_20_0, rc_20_1, rc_22_0, rc_23_0, rc_25_0, rc_27_0, rc_27_1, rc_27_2, rc_31_0, rc_31_1, rc_31_2, rc_55_0, rc_55_1, rc_55_2, rc_1_6, rc_1_7, rc_23_2, fi_0_1, fi_0_2, fi_0_3, fi_1_3, fi_1_4, fi_1_5, fi_1_6, fi_1_7, fi_2_2, fi_3_3, fi_3_4, fi_3_5, fi_4_1, fi_5_4, fi_5_5, fi_5_6, fi_5_7, fi_5_8, fi_5_9, fi_6_1, fi_7_3, fi_7_4]
      rw [r3]
      refine V.brT rfl ((iZ_le (by omega) (by omega)).mpr (by omega)) ?_
      refine V.run 0 54 rfl hn trivial ?_
      rw [e]
      refine V.ret (v := some (.int (iZ (mostN (fun t => lastN pk t c.length) c.length)))) rfl rfl rfl rfl (hQ)
    | succ j ih =>
      intro i hi hi1
      have b1 := wantN_le (fun t => lastN pk t c.length) i i
      have b2 := wantN_le (fun t => lastN pk t c.length) (i + 1) i
      have b3 := mostN_le (fun t => lastN pk t c.length) i
      have hnx : mostN (fun t => lastN pk t c.length) (i + 1) = max (max (mostN (fun t => lastN pk t c.length) i) (wantN (fun t => lastN pk t c.length) i i)) (wantN (fun t => lastN pk t c.length) (i + 1) i + 1) := by
        show (if i = 0 then _ else _) = _
        rw [if_neg (by omega)]
      refine V.run 0 54 rfl hn trivial ?_
      try simp only [rc_1_0, rc_1_1, rc_1_2, rc_1_3, rc_1_4, rc_1_5, rc_2_0, rc_2_1, rc_2_2, rc_6_0, rc_6_1, rc_6_2, rc_6_3, rc_7_0, rc_7_1, rc_7_2, rc_7_3, rc_12_0, rc_12_1, rc_12_2, rc_12_3, rc_18_0, rc_18_1, rc_20_0, rc_20_1, rc_22_0, rc_23_0, rc_25_0, rc_27_0, rc_27_1, rc_27_2, rc_31_0, rc_31_1, rc_31_2, rc_55_0, rc_55_1, rc_55_2, rc_1_6, rc_1_7, rc_23_2, fi_0_1, fi_0_2, fi_0_3, fi_1_3, fi_1_4, fi_1_5, fi_1_6, fi_1_7, fi_2_2, fi_3_3, fi_3_4, fi_3_5, fi_4_1, fi_5_4, fi_5_5, fi_5_6, fi_5_7, fi_5_8, fi_5_9, fi_6_1, fi_7_3, fi_7_4]
      rw [r3]
      refine V.brF rfl (fun q => by have := (iZ_le (by omega) (by omega)).mp q; omega) ?_
      refine V.run 0 54 rfl hn trivial ?_
      refine V.cv (lo := 54) (d' := d - 1) rfl rfl ok_X1_wantedFrom lk_1_X1_wantedFrom rfl rfl rfl hn (by omega) (Nat.le_refl _) (Nat.le_refl _) ((c_wantedFrom_27 hn hc (by omega) (by omega) ?_))
      refine V.max rfl rfl lm_1_max rfl (by omega) (Nat.le_refl _) ?_
      rw [max_iZ (by omega) (by omega)]
      refine V.run 0 54 rfl hn trivial ?_
      rw [iZ_add, show (i : Int) + 1 = ((i + 1 : Nat) : Int) by omega]
      refine V.cv (lo := 54) (d' := d - 1) rfl rfl ok_X1_wantedFrom lk_1_X1_wantedFrom rfl rfl rfl hn (by omega) (Nat.le_refl _) (Nat.le_refl _) ((c_wantedFrom_27 hn hc (by omega) (by omega) ?_))
      refine V.run 0 54 rfl hn trivial ?_
      rw [iZ_add, show ((wantN (fun t => lastN pk t c.length) (i + 1) i : Nat) : Int) + 1 = ((wantN (fun t => lastN pk t c.length) (i + 1) i + 1 : Nat) : Int) by omega]
      refine V.max rfl rfl lm_1_max rfl (by omega) (Nat.le_refl _) ?_
      rw [max_iZ (by omega) (by omega)]
      refine V.run 0 54 rfl hn trivial ?_
      have := ih (i + 1) (by omega) (by omega)
      rw [hnx, show ((i + 1 : Nat) : Int) = (i : Int) + 1 by omega, ← iZ_add] at this
      exact this
  exact key (c.length - 1) 1 (by omega) (by omega)
end CE27
section CE31
variable {d n ca cb tr : Nat} {Q : PQ} {σ : Mem}
theorem c_mayStand_31 (hn : 54 ≤ n) (hd : 2 ≤ d) {kind v : Nat} {c : List Nat} (hv : v ≤ 99999) (hne : 1 ≤ c.length) (hc : chnN 31 σ kind c) (h1 : (kind = 2 → v ∉ c) ∧ (kind ≠ 2 → lastD c < v) → Q (some (.int 1)) (rho ca cb tr) σ) (h0 : ¬ ((kind = 2 → v ∉ c) ∧ (kind ≠ 2 → lastD c < v)) → Q (some (.int 0)) (rho ca cb tr) σ) : Mt M_X1_mayStandNext d n n [.ref 31, .int (iZ v)] (rho ca cb tr) σ Q := by
  obtain ⟨r1, r2, r3, r4, r5⟩ := id hc
  have hb := r1.2.1 _ (getD_mem2 (r := c) (i := c.length - 1) (by omega))
  rw [← lastD_eq (by omega)] at hb
  have hl := r1.1
  refine Mt.of rfl (by decide +kernel) tk_X1_mayStandNext (Nat.le_of_ble_eq_true rfl) ?_
  refine V.run 0 54 rfl hn trivial ?_
  try simp only [rc_1_0, rc_1_1, rc_1_2, rc_1_3, rc_1_4, rc_1_5, rc_2_0, rc_2_1, rc_2_2, rc_6_0, rc_6_1, rc_6_2, rc_6_3, rc_7_0, rc_7_1, rc_7_2, rc_7_3, rc_12_0, rc_12_1, rc_12_2, rc_12_3, rc_18_0, rc_18_1, rc_20_0, rc_20_1, rc_22_0, rc_23_0, rc_25_0, rc_27_0, rc_27_1, rc_27_2, rc_31_0, rc_31_1, rc_31_2, rc_55_0, rc_55_1, rc_55_2, rc_1_6, rc_1_7, rc_23_2, fi_0_1, fi_0_2, fi_0_3, fi_1_3, fi_1_4, fi_1_5, fi_1_6, fi_1_7, fi_2_2, fi_3_3, fi_3_4, fi_3_5, fi_4_1, fi_5_4, fi_5_5, fi_5_6, fi_5_7, fi_5_8, fi_5_9, fi_6_1, fi_7_3, fi_7_4]
  rw [r4]
  refine V.br rfl (fun (c1 : iZ kind = iZ 2) => ?_) (fun (c1 : ¬ (iZ kind = iZ 2)) => ?_)
  · rw [iZ_eq (by omega) (by omega)] at c1
    refine V.run 0 54 rfl hn trivial ?_
    refine V.cv (lo := 54) (d' := d - 1) rfl rfl ok_X1_placeOf lk_1_X1_placeOf rfl rfl rfl hn (by omega) (Nat.le_refl _) (Nat.le_refl _) ((c_placeOf_31 hn (by omega) hc (fun t ht e => ?_) (fun hno => ?_)))
    · refine V.brT rfl ((iZ_0le (by omega)).mpr (by omega)) ?_
      refine V.run 0 54 rfl hn trivial ?_
      refine V.ret (v := some (.int 0)) rfl rfl ⟨rfl, Or.inl rfl⟩ rfl (h0 (fun h => h.1 (by omega) (by rw [show v = c.getD t 0 by omega]; exact getD_mem2 ht)))
    · refine V.brF rfl (by decide) ?_
      refine V.run 0 54 rfl hn trivial ?_
      have hnm : v ∉ c := fun q => by
        obtain ⟨t, ht, e⟩ := mem_getD q
        exact hno t ht (by omega)
      refine V.ret (v := some (.int 1)) rfl rfl ⟨rfl, Or.inr rfl⟩ rfl (h1 ⟨fun _ => hnm, fun h => absurd (show kind = 2 by omega) h⟩)
  · rw [iZ_eq (by omega) (by omega)] at c1
    refine V.run 0 54 rfl hn trivial ?_
    refine V.cv (lo := 54) (d' := d - 1) rfl rfl ok_X1_latest lk_1_X1_latest rfl rfl rfl hn (by omega) (Nat.le_refl _) (Nat.le_refl _) ((c_clatest_31 hn (by omega) hne hc ?_))
    refine V.br rfl (fun (c2 : iZ v ≤ iZ (lastD c : Int)) => ?_) (fun (c2 : ¬ (iZ v ≤ iZ (lastD c : Int))) => ?_)
    · rw [iZ_le (by omega) (by omega)] at c2
      refine V.run 0 54 rfl hn trivial ?_
      refine V.ret (v := some (.int 0)) rfl rfl ⟨rfl, Or.inl rfl⟩ rfl (h0 (fun h => by have := h.2 (by omega); omega))
    · rw [iZ_le (by omega) (by omega)] at c2
      refine V.run 0 54 rfl hn trivial ?_
      refine V.ret (v := some (.int 1)) rfl rfl ⟨rfl, Or.inr rfl⟩ rfl (h1 ⟨fun h => by omega, fun _ => by omega⟩)
theorem c_cadd_31 (hn : 54 ≤ n) (hd : 4 ≤ d) {kind v : Nat} {c : List Nat} {pk : Nat → Nat × Nat} (hv : v ≤ 99999) (hl : c.length < 64) (hc : chnM 31 σ kind c pk) (h1 : 1 ≤ v → mayC kind c v → ∀ σ' pk', chnM 31 σ' kind (c ++ [v]) pk' → Fr [31, 32, 33, 34] σ σ' → Q (some (.int 1)) (rho ca cb tr) σ') (h0 : v = 0 ∨ ¬ mayC kind c v → ∀ σ', Fr [31, 32, 33, 34] σ σ' → Q (some (.int 0)) (rho ca cb tr) σ') : Mt M_X1_add d n n [.ref 31, .int (iZ v)] (rho ca cb tr) σ Q := by
  obtain ⟨⟨r1, r2, r3, r4, r5⟩, s1, s2, s3, s4⟩ := id hc
  have r5 : ∀ i, i < c.length → σ 32 i = iZ (c.getD i 0) := r5
  have s2 : ∀ i, i < c.length → σ 33 i = iZ (lastN pk i c.length) := s2
  have s3 : ∀ i, i < c.length → σ 34 i = iZ (useN pk i c.length) := s3
  have hlen : (c ++ [v]).length = c.length + 1 := by simp
  refine Mt.of rfl (by decide +kernel) tk_X1_add (Nat.le_of_ble_eq_true rfl) ?_
  refine V.run 0 54 rfl hn trivial ?_
  try simp only [rc_1_0, rc_1_1, rc_1_2, rc_1_3, rc_1_4, rc_1_5, rc_2_0, rc_2_1, rc_2_2, rc_6_0, rc_6_1, rc_6_2, rc_6_3, rc_7_0, rc_7_1, rc_7_2, rc_7_3, rc_12_0, rc_12_1, rc_12_2, rc_12_3, rc_18_0, rc_18_1, rc_20_0, rc_20_1, rc_22_0, rc_23_0, rc_25_0, rc_27_0, rc_27_1, rc_27_2, rc_31_0, rc_31_1, rc_31_2, rc_55_0, rc_55_1, rc_55_2, rc_1_6, rc_1_7, rc_23_2, fi_0_1, fi_0_2, fi_0_3, fi_1_3, fi_1_4, fi_1_5, fi_1_6, fi_1_7, fi_2_2, fi_3_3, fi_3_4, fi_3_5, fi_4_1, fi_5_4, fi_5_5, fi_5_6, fi_5_7, fi_5_8, fi_5_9, fi_6_1, fi_7_3, fi_7_4]
  rw [r3]
  refine V.br rfl (fun (c0 : iZ c.length = 0) => ?_) (fun (c0 : ¬ (iZ c.length = 0)) => ?_)
  · rw [iZ_eq0 (by omega)] at c0
    have hc0 : c = [] := List.eq_nil_of_length_eq_zero (by omega)
    subst hc0
    refine V.run 0 54 rfl hn trivial ?_
    refine V.br rfl (fun (c1 : iZ v = iZ 1) => ?_) (fun (c1 : ¬ (iZ v = iZ 1)) => ?_)
    · rw [iZ_eq (by omega) (by omega)] at c1
      have hv1 : v = 1 := by omega
      subst hv1
      refine V.run 0 54 rfl hn trivial ?_
      refine V.cv (lo := 54) (d' := d - 1) rfl rfl ok_X1_append lk_1_X1_append rfl rfl rfl hn (by omega) (Nat.le_refl _) (Nat.le_refl _) ((c_cappend_31 hn (L := 0) (by omega) r3 ?_))
      refine V.brF rfl (by decide) ?_
      refine V.run 0 54 rfl hn trivial ?_
      have hm : mayC kind [] 1 := Or.inl ⟨rfl, rfl⟩
      refine V.ret (v := some (.int 1)) rfl rfl ⟨rfl, Or.inr rfl⟩ rfl (h1 (by omega) hm _ pk ⟨⟨rowOk_app r1 (by simp) (by omega) hm, r2, ?_, ?_, fun i hi => ?_⟩, ?_, fun i hi => ?_, fun i hi => ?_, fun k k1 k2 => ?_⟩ (Fr.putT (Fr.putT (Fr.putT (Fr.put (by simp)) (by simp)) (by simp)) (by simp)))
      · rw [up_at]; rfl
      · rw [up_nat (by decide), up_ne (by decide), up_ne (by decide), up_ne (by decide)]; exact r4
      · have : i = 0 := by simp at hi; omega
        subst this
        show up _ 31 3 _ 32 0 = _
        rw [up_ne (by decide), up_ne (by decide), up_ne (by decide), up_at]
        rfl
      · rw [up_nat (by decide), up_ne (by decide), up_ne (by decide), up_ne (by decide), s1]
        rfl
      · have : i = 0 := by simp at hi; omega
        subst this
        show up _ 31 3 _ 33 0 = _
        rw [up_ne (by decide), up_ne (by decide), up_at]
        rfl
      · have : i = 0 := by simp at hi; omega
        subst this
        show up _ 31 3 _ 34 0 = _
        rw [up_ne (by decide), up_at]
        rfl
      · simp at k2
        omega
    · rw [iZ_eq (by omega) (by omega)] at c1
      have hnm : ¬ mayC kind [] v := fun h => by
        rcases h with ⟨-, h⟩ | ⟨h, -⟩
        · omega
        · exact h rfl
      refine V.run 0 54 rfl hn trivial ?_
      refine V.ret (v := some (.int 0)) rfl rfl ⟨rfl, Or.inl rfl⟩ rfl (h0 (Or.inr hnm) σ Fr.rf)
  · rw [iZ_eq0 (by omega)] at c0
    have hne : 1 ≤ c.length := by omega
    have hmi := may_iff (v := v) r1 hne
    have zero : (v = 0 ∨ ¬ mayC kind c v) → V M_X1_add d n n none Q n (rho ca cb tr) σ 39 [some (.ref 31), some (.int (iZ (v)))] [] := by
      intro h
      refine V.run 0 54 rfl hn trivial ?_
      refine V.ret (v := some (.int 0)) rfl rfl ⟨rfl, Or.inl rfl⟩ rfl (h0 h σ Fr.rf)
    refine V.run 0 54 rfl hn trivial ?_
    refine V.br rfl (fun (c1 : iZ v < iZ 1) => ?_) (fun (c1 : ¬ (iZ v < iZ 1)) => ?_)
    · rw [iZ_lt (by omega) (by omega)] at c1
      exact zero (Or.inl (by omega))
    · rw [iZ_lt (by omega) (by omega)] at c1
      refine V.run 0 54 rfl hn trivial ?_
      refine V.cv (lo := 54) (d' := d - 1) rfl rfl ok_X1_mayStandNext lk_1_X1_mayStandNext rfl rfl rfl hn (by omega) (Nat.le_refl _) (Nat.le_refl _) ((c_mayStand_31 hn (by omega) hv hne hc.1 (fun g => ?_) (fun g => ?_)))
      · refine V.brF rfl (by decide) ?_
        have k66 : ∀ σ2 : Mem, Fr [31] σ σ2 → (∀ j, j ≠ 6 → j ≠ 7 → σ2 31 j = σ 31 j) → ((σ2 31 6 = iZ (-1) ∧ ¬ ∃ i j, pickI kind c v i j) ∨ (∃ (a b : Nat) (q : Nat × Nat), σ2 31 6 = iZ a ∧ σ2 31 7 = iZ b ∧ (q = (a, b) ∨ q = (b, a)) ∧ pickI kind c v q.1 q.2)) → V M_X1_add d n n none Q n (rho ca cb tr) σ2 66 [some (.ref 31), some (.int (iZ (v)))] [] := by
          intro σ2 hf2 ho2 hres
          refine V.run 0 54 rfl hn trivial ?_
          try simp only [rc_1_0, rc_1_1, rc_1_2, rc_1_3, rc_1_4, rc_1_5, rc_2_0, rc_2_1, rc_2_2, rc_6_0, rc_6_1, rc_6_2, rc_6_3, rc_7_0, rc_7_1, rc_7_2, rc_7_3, rc_12_0, rc_12_1, rc_12_2, rc_12_3, rc_18_0, rc_18_1, rc_20_0, rc_20_1, rc_22_0, rc_23_0, rc_25_0, rc_27_0, rc_27_1, rc_27_2, rc_31_0, rc_31_1, rc_31_2, rc_55_0, rc_55_1, rc_55_2, rc_1_6, rc_1_7, rc_23_2, fi_0_1, fi_0_2, fi_0_3, fi_1_3, fi_1_4, fi_1_5, fi_1_6, fi_1_7, fi_2_2, fi_3_3, fi_3_4, fi_3_5, fi_4_1, fi_5_4, fi_5_5, fi_5_6, fi_5_7, fi_5_8, fi_5_9, fi_6_1, fi_7_3, fi_7_4]
          rcases hres with ⟨e6, hno⟩ | ⟨a, b, q, e6, e7, hq, hp⟩
          · rw [e6]
            refine V.brT rfl (by decide) ?_
            refine V.run 0 54 rfl hn trivial ?_
            refine V.ret (v := some (.int 0)) rfl rfl ⟨rfl, Or.inl rfl⟩ rfl (h0 (Or.inr (fun h => hno (hmi.mp h).2)) σ2 (hf2.mono (by simp)))
          · have hab : a < c.length ∧ b < c.length := by
              rcases hq with rfl | rfl
              · exact ⟨hp.1, hp.2.1⟩
              · exact ⟨hp.2.1, hp.1⟩
            have hm : mayC kind c v := hmi.mpr ⟨g, q.1, q.2, hp⟩
            rw [e6]
            refine V.brF rfl (fun z => by have := (iZ_lt0 (by omega)).mp z; omega) ?_
            refine V.run 0 54 rfl hn trivial ?_
            refine V.cv (lo := 54) (d' := d - 1) rfl rfl ok_X1_append lk_1_X1_append rfl rfl rfl hn (by omega) (Nat.le_refl _) (Nat.le_refl _) ((c_cappend_31 hn (L := c.length) hl (by rw [ho2 3 (by decide) (by decide)]; exact r3) ?_))
            have t3 : up (up (up (up σ2 32 c.length (iZ v)) 33 c.length (iZ 0)) 34 c.length (iZ 0)) 31 3 (iZ (c.length + 1)) 31 3 = iZ ((c.length : Int) + 1) := up_at
            have tO : ∀ j, j ≠ 3 → up (up (up (up σ2 32 c.length (iZ v)) 33 c.length (iZ 0)) 34 c.length (iZ 0)) 31 3 (iZ (c.length + 1)) 31 j = σ2 31 j := fun j hj => by rw [up_nat hj, up_ne (by decide), up_ne (by decide), up_ne (by decide)]
            have t1 : ∀ i, up (up (up (up σ2 32 c.length (iZ v)) 33 c.length (iZ 0)) 34 c.length (iZ 0)) 31 3 (iZ (c.length + 1)) 32 i = if i = c.length then iZ v else σ 32 i := fun i => by
              rw [up_ne (by decide), up_ne (by decide), up_ne (by decide)]
              by_cases e : i = c.length
              · rw [if_pos e, e, up_at]
              · rw [if_neg e, up_nat e, hf2 32 (by decide)]
            have t2 : ∀ i, up (up (up (up σ2 32 c.length (iZ v)) 33 c.length (iZ 0)) 34 c.length (iZ 0)) 31 3 (iZ (c.length + 1)) 33 i = if i = c.length then iZ 0 else σ 33 i := fun i => by
              rw [up_ne (by decide), up_ne (by decide)]
              by_cases e : i = c.length
              · rw [if_pos e, e, up_at]
              · rw [if_neg e, up_nat e, up_ne (by decide), hf2 33 (by decide)]
            have t4 : ∀ i, up (up (up (up σ2 32 c.length (iZ v)) 33 c.length (iZ 0)) 34 c.length (iZ 0)) 31 3 (iZ (c.length + 1)) 34 i = if i = c.length then iZ 0 else σ 34 i := fun i => by
              rw [up_ne (by decide)]
              by_cases e : i = c.length
              · rw [if_pos e, e, up_at]
              · rw [if_neg e, up_nat e, up_ne (by decide), up_ne (by decide), hf2 34 (by decide)]
            have tf : Fr [31, 32, 33, 34] σ (up (up (up (up σ2 32 c.length (iZ v)) 33 c.length (iZ 0)) 34 c.length (iZ 0)) 31 3 (iZ (c.length + 1))) := Fr.putT (Fr.putT (Fr.putT (Fr.putT (hf2.mono (by simp)) (by simp)) (by simp)) (by simp)) (by simp)
            generalize up (up (up (up σ2 32 c.length (iZ v)) 33 c.length (iZ 0)) 34 c.length (iZ 0)) 31 3 (iZ (c.length + 1)) = σ3 at t3 tO t1 t2 t4 tf ⊢
            refine V.brF rfl (by decide) ?_
            refine V.run 0 54 rfl hn trivial ?_
            try simp only [rc_1_0, rc_1_1, rc_1_2, rc_1_3, rc_1_4, rc_1_5, rc_2_0, rc_2_1, rc_2_2, rc_6_0, rc_6_1, rc_6_2, rc_6_3, rc_7_0, rc_7_1, rc_7_2, rc_7_3, rc_12_0, rc_12_1, rc_12_2, rc_12_3, rc_18_0, rc_18_1, rc_20_0, rc_20_1, rc_22_0, rc_23_0, rc_25_0, rc_27_0, rc_27_1, rc_27_2, rc_31_0, rc_31_1, rc_31_2, rc_55_0, rc_55_1, rc_55_2, rc_1_6, rc_1_7, rc_23_2, fi_0_1, fi_0_2, fi_0_3, fi_1_3, fi_1_4, fi_1_5, fi_1_6, fi_1_7, fi_2_2, fi_3_3, fi_3_4, fi_3_5, fi_4_1, fi_5_4, fi_5_5, fi_5_6, fi_5_7, fi_5_8, fi_5_9, fi_6_1, fi_7_3, fi_7_4]
            rw [t3, iZ_sub, show (c.length : Int) + 1 - 1 = (c.length : Int) by omega]
            refine V.cv (lo := 54) (d' := d - 1) rfl rfl ok_X1_useBoth lk_1_X1_useBoth rfl rfl rfl hn (by omega) (Nat.le_refl _) (Nat.le_refl _) ((c_cuse_31 hn (a := a) (b := b) (s := c.length) hl hab.1 hab.2 (by rw [tO 6 (by decide)]; exact e6) (by rw [tO 7 (by decide)]; exact e7) (fun σ4 u2 u3 u5 uf uo => ?_)))
            refine V.brF rfl (by decide) ?_
            refine V.run 0 54 rfl hn trivial ?_
            have hst := fun t => use_step pk q t hne
            have hz := use_zero (t := c.length) s4 (Nat.le_refl _) (by omega)
            refine V.ret (v := some (.int 1)) rfl rfl ⟨rfl, Or.inr rfl⟩ rfl (h1 (by omega) hm σ4 (fun k => if k = c.length then q else pk k) ⟨⟨rowOk_app r1 hl (by omega) hm, r2, ?_, ?_, fun i hi => ?_⟩, ?_, fun i hi => ?_, fun i hi => ?_, ?_⟩ (tf.tr (uf.mono (by simp))))
            · rw [uo 3 (by decide), t3, hlen]; rfl
            · rw [uo 4 (by decide), tO 4 (by decide), ho2 4 (by decide) (by decide)]; exact r4
            · show σ4 32 i = _
              rw [uf 32 (by decide), t1 i]
              by_cases e : i = c.length
              · rw [if_pos e, e, getD_last]
              · rw [if_neg e, r5 i (by omega), getD_app (by omega)]
            · rw [u5, tO 5 (by decide), ho2 5 (by decide) (by decide), s1, hlen, (hst 0).2.2, iZ_add]
              have : (if a = b then 1 else 0) = (if q.1 = q.2 then 1 else 0) := by
                rcases hq with rfl | rfl
                · rfl
                · by_cases e : a = b
                  · rw [if_pos e, if_pos e.symm]
                  · rw [if_neg e, if_neg (fun z => e z.symm)]
              rw [this]
              exact iZ_pat (by omega)
            · show σ4 33 i = _
              rw [u2 i, t2 i, hlen, (hst i).2.1]
              have hor : (a = i ∨ b = i) ↔ (q.1 = i ∨ q.2 = i) := by
                rcases hq with rfl | rfl
                · exact Iff.rfl
                · exact Or.comm
              by_cases e : a = i ∨ b = i
              · rw [if_pos e, if_pos (hor.mp e)]
              · rw [if_neg e, if_neg (fun z => e (hor.mpr z))]
                by_cases e2 : i = c.length
                · rw [if_pos e2, e2, hz.2]; rfl
                · rw [if_neg e2, s2 i (by omega)]
            · show σ4 34 i = _
              rw [u3 i, t4 i, hlen, (hst i).1]
              have hor : (if a = i then 1 else 0) + (if b = i then 1 else 0) = (if q.1 = i then 1 else 0) + (if q.2 = i then 1 else 0) := by
                rcases hq with rfl | rfl
                · rfl
                · exact Nat.add_comm _ _
              rw [hor]
              by_cases e2 : i = c.length
              · rw [if_pos e2, e2, hz.1, iZ_add]
                exact iZ_pat (by omega)
              · rw [if_neg e2, s3 i (by omega), iZ_add]
                exact iZ_pat (by omega)
            · rw [hlen]
              exact use_next hne s4 hp
        refine V.run 0 54 rfl hn trivial ?_
        refine V.cv (lo := 54) (d' := d - 1) rfl rfl ok_X1_findSum lk_1_X1_findSum rfl rfl rfl hn (by omega) (Nat.le_refl _) (Nat.le_refl _) ((c_findSum_31 hn (by omega) (by omega) hc.1 (fun σ1 hI hf1 ho1 => ?_)))
        refine V.run 0 54 rfl hn trivial ?_
        try simp only [rc_1_0, rc_1_1, rc_1_2, rc_1_3, rc_1_4, rc_1_5, rc_2_0, rc_2_1, rc_2_2, rc_6_0, rc_6_1, rc_6_2, rc_6_3, rc_7_0, rc_7_1, rc_7_2, rc_7_3, rc_12_0, rc_12_1, rc_12_2, rc_12_3, rc_18_0, rc_18_1, rc_20_0, rc_20_1, rc_22_0, rc_23_0, rc_25_0, rc_27_0, rc_27_1, rc_27_2, rc_31_0, rc_31_1, rc_31_2, rc_55_0, rc_55_1, rc_55_2, rc_1_6, rc_1_7, rc_23_2, fi_0_1, fi_0_2, fi_0_3, fi_1_3, fi_1_4, fi_1_5, fi_1_6, fi_1_7, fi_2_2, fi_3_3, fi_3_4, fi_3_5, fi_4_1, fi_5_4, fi_5_5, fi_5_6, fi_5_7, fi_5_8, fi_5_9, fi_6_1, fi_7_3, fi_7_4]
        rcases hI with ⟨i1, i2⟩ | ⟨a, b, i1, i2, i3, i4, i5, i6, i7, i8⟩
        · have hsx := no_sum i2
          rw [i1]
          refine V.brF rfl (by decide) ?_
          have e4 : σ1 31 4 = iZ kind := by rw [ho1 4 (by decide) (by decide)]; exact r4
          refine V.run 0 54 rfl hn trivial ?_
          try simp only [rc_1_0, rc_1_1, rc_1_2, rc_1_3, rc_1_4, rc_1_5, rc_2_0, rc_2_1, rc_2_2, rc_6_0, rc_6_1, rc_6_2, rc_6_3, rc_7_0, rc_7_1, rc_7_2, rc_7_3, rc_12_0, rc_12_1, rc_12_2, rc_12_3, rc_18_0, rc_18_1, rc_20_0, rc_20_1, rc_22_0, rc_23_0, rc_25_0, rc_27_0, rc_27_1, rc_27_2, rc_31_0, rc_31_1, rc_31_2, rc_55_0, rc_55_1, rc_55_2, rc_1_6, rc_1_7, rc_23_2, fi_0_1, fi_0_2, fi_0_3, fi_1_3, fi_1_4, fi_1_5, fi_1_6, fi_1_7, fi_2_2, fi_3_3, fi_3_4, fi_3_5, fi_4_1, fi_5_4, fi_5_5, fi_5_6, fi_5_7, fi_5_8, fi_5_9, fi_6_1, fi_7_3, fi_7_4]
          rw [e4]
          refine V.br rfl (fun (c2 : iZ kind = iZ 2) => ?_) (fun (c2 : ¬ (iZ kind = iZ 2)) => ?_)
          · rw [iZ_eq (by omega) (by omega)] at c2
            have hk2 : kind = 2 := by omega
            subst hk2
            have hc1 : chnN 31 σ1 2 c := ⟨r1, r2, by rw [ho1 3 (by decide) (by decide)]; exact r3, e4, fun i hi => by show σ1 32 i = _; rw [hf1 32 (by decide)]; exact r5 i hi⟩
            refine V.run 0 54 rfl hn trivial ?_
            refine V.cv (lo := 54) (d' := d - 1) rfl rfl ok_X1_findDifference lk_1_X1_findDifference rfl rfl rfl hn (by omega) (Nat.le_refl _) (Nat.le_refl _) ((c_findDiff_31 hn (by omega) (by omega) hc1 i1 (fun σ2 hI2 hf2 ho2 => ?_)))
            refine k66 σ2 (hf1.tr hf2) (fun j p q => by rw [ho2 j p q, ho1 j p q]) ?_
            rcases hI2 with ⟨j1, j2⟩ | ⟨a, b, j1, j2, j3, j4, j5, j8⟩
            · exact Or.inl ⟨j1, noPick r1 hsx (fun _ => no_diff j2)⟩
            · exact Or.inr ⟨a, b, (b, a), j1, j2, Or.inr rfl, fd_two hsx j3 j4 j5 j8⟩
          · rw [iZ_eq (by omega) (by omega)] at c2
            exact k66 σ1 hf1 ho1 (Or.inl ⟨i1, noPick r1 hsx (fun h => by omega)⟩)
        · rw [i1]
          refine V.brT rfl ((iZ_0le (by omega)).mpr (by omega)) ?_
          exact k66 σ1 hf1 ho1 (Or.inr ⟨a, b, (a, b), i1, i2, Or.inl rfl, fs_two r1 i3 i4 i5 i6 i7 i8⟩)
      · refine V.brT rfl rfl ?_
        exact zero (Or.inr (fun h => g (hmi.mp h).1))
theorem c_wantedFrom_31 (hn : 54 ≤ n) {kind st si : Nat} {c : List Nat} {pk : Nat → Nat × Nat} (hc : chnM 31 σ kind c pk) (hst : st ≤ c.length) (hsi : si ≤ 100) (hQ : Q (some (.int (iZ (wantN (fun t => lastN pk t c.length) si st)))) (rho ca cb tr) σ) : Mt M_X1_wantedFrom d n n [.ref 31, .int (iZ st), .int (iZ si)] (rho ca cb tr) σ Q := by
  obtain ⟨⟨r1, r2, r3, r4, r5⟩, s1, s2, s3, s4⟩ := id hc
  have s2 : ∀ i, i < c.length → σ 33 i = iZ (lastN pk i c.length) := s2
  have hl := r1.1
  refine Mt.of rfl (by decide +kernel) tk_X1_wantedFrom (Nat.le_of_ble_eq_true rfl) ?_
  refine V.run 5 54 rfl hn trivial ?_
  have key : ∀ (j i : Nat), i + j = st → V M_X1_wantedFrom d n n none Q n (rho ca cb tr) σ 5 [some (.ref 31), some (.int (iZ (st))), some (.int (iZ (si))), some (.int (iZ ((wantN (fun t => lastN pk t c.length) si i)))), some (.int (iZ (i)))] [] := by
    intro j
    induction j with
    | zero =>
      intro i hi
      have e : i = st := by omega
      subst e
      refine V.run 0 54 rfl hn trivial ?_
      refine V.brT rfl ((iZ_le (by omega) (by omega)).mpr (by omega)) ?_
      refine V.run 0 54 rfl hn trivial ?_
      refine V.ret (v := some (.int (iZ (wantN (fun t => lastN pk t c.length) si i)))) rfl rfl rfl rfl (hQ)
    | succ j ih =>
      intro i hi
      have hb := lastN_le pk i c.length
      have hnx : wantN (fun t => lastN pk t c.length) si (i + 1) = wantN (fun t => lastN pk t c.length) si i + (if si ≤ lastN pk i c.length then 1 else 0) := rfl
      have := ih (i + 1) (by omega)
      rw [hnx, show ((i + 1 : Nat) : Int) = (i : Int) + 1 by omega, ← iZ_add] at this
      refine V.run 0 54 rfl hn trivial ?_
      refine V.brF rfl (fun q => by have := (iZ_le (by omega) (by omega)).mp q; omega) ?_
      refine V.run 0 54 rfl hn ⟨in_N (n := 64) (by omega) (by decide), trivial⟩ ?_
      try simp only [rc_1_0, rc_1_1, rc_1_2, rc_1_3, rc_1_4, rc_1_5, rc_2_0, rc_2_1, rc_2_2, rc_6_0, rc_6_1, rc_6_2, rc_6_3, rc_7_0, rc_7_1, rc_7_2, rc_7_3, rc_12_0, rc_12_1, rc_12_2, rc_12_3, rc_18_0, rc_18_1, rc_20_0, rc_20_1, rc_22_0, rc_23_0, rc_25_0, rc_27_0, rc_27_1, rc_27_2, rc_31_0, rc_31_1, rc_31_2, rc_55_0, rc_55_1, rc_55_2, rc_1_6, rc_1_7, rc_23_2, fi_0_1, fi_0_2, fi_0_3, fi_1_3, fi_1_4, fi_1_5, fi_1_6, fi_1_7, fi_2_2, fi_3_3, fi_3_4, fi_3_5, fi_4_1, fi_5_4, fi_5_5, fi_5_6, fi_5_7, fi_5_8, fi_5_9, fi_6_1, fi_7_3, fi_7_4]
      rw [ix_N (by omega), s2 i (by omega)]
      refine V.br rfl (fun (c2 : iZ (lastN pk i c.length) < iZ si) => ?_) (fun (c2 : ¬ (iZ (lastN pk i c.length) < iZ si)) => ?_)
      · rw [iZ_lt (by omega) (by omega)] at c2
        rw [if_neg (by omega)] at this
        refine V.run 0 54 rfl hn trivial ?_
        exact this
      · rw [iZ_lt (by omega) (by omega)] at c2
        rw [if_pos (by omega), show ((wantN (fun t => lastN pk t c.length) si i + 1 : Nat) : Int) = ((wantN (fun t => lastN pk t c.length) si i : Nat) : Int) + 1 by omega, ← iZ_add (wantN (fun t => lastN pk t c.length) si i : Nat) 1] at this
        refine V.run 0 54 rfl hn trivial ?_
        exact this
  exact key st 0 (by omega)
theorem c_mostAtOnce_31 (hn : 54 ≤ n) (hd : 1 ≤ d) {kind : Nat} {c : List Nat} {pk : Nat → Nat × Nat} (hne : 1 ≤ c.length) (hc : chnM 31 σ kind c pk) (hQ : Q (some (.int (iZ (mostN (fun t => lastN pk t c.length) c.length)))) (rho ca cb tr) σ) : Mt M_X1_mostAtOnce d n n [.ref 31] (rho ca cb tr) σ Q := by
  obtain ⟨⟨r1, r2, r3, r4, r5⟩, s1, s2, s3, s4⟩ := id hc
  have hl := r1.1
  refine Mt.of rfl (by decide +kernel) tk_X1_mostAtOnce (Nat.le_of_ble_eq_true rfl) ?_
  refine V.run 4 54 rfl hn trivial ?_
  have key : ∀ (j i : Nat), i + j = c.length → 1 ≤ i → V M_X1_mostAtOnce d n n none Q n (rho ca cb tr) σ 4 [some (.ref 31), some (.int (iZ ((mostN (fun t => lastN pk t c.length) i)))), some (.int (iZ (i)))] [] := by
    intro j
    induction j with
    | zero =>
      intro i hi hi1
      have e : i = c.length := by omega
      refine V.run 0 54 rfl hn trivial ?_
      try simp only [rc_1_0, rc_1_1, rc_1_2, rc_1_3, rc_1_4, rc_1_5, rc_2_0, rc_2_1, rc_2_2, rc_6_0, rc_6_1, rc_6_2, rc_6_3, rc_7_0, rc_7_1, rc_7_2, rc_7_3, rc_12_0, rc_12_1, rc_12_2, rc_12_3, rc_18_0, rc_18_1, rc_20_0, rc_20_1, rc_22_0, rc_23_0, rc_25_0, rc_27_0, rc_27_1, rc_27_2, rc_31_0, rc_31_1, rc_31_2, rc_55_0, rc_55_1, rc_55_2, rc_1_6, rc_1_7, rc_23_2, fi_0_1, fi_0_2, fi_0_3, fi_1_3, fi_1_4, fi_1_5, fi_1_6, fi_1_7, fi_2_2, fi_3_3, fi_3_4, fi_3_5, fi_4_1, fi_5_4, fi_5_5, fi_5_6, fi_5_7, fi_5_8, fi_5_9, fi_6_1, fi_7_3, fi_7_4]
      rw [r3]
      refine V.brT rfl ((iZ_le (by omega) (by omega)).mpr (by omega)) ?_
      refine V.run 0 54 rfl hn trivial ?_
      rw [e]
      refine V.ret (v := some (.int (iZ (mostN (fun t => lastN pk t c.length) c.length)))) rfl rfl rfl rfl (hQ)
    | succ j ih =>
      intro i hi hi1
      have b1 := wantN_le (fun t => lastN pk t c.length) i i
      have b2 := wantN_le (fun t => lastN pk t c.length) (i + 1) i
      have b3 := mostN_le (fun t => lastN pk t c.length) i
      have hnx : mostN (fun t => lastN pk t c.length) (i + 1) = max (max (mostN (fun t => lastN pk t c.length) i) (wantN (fun t => lastN pk t c.length) i i)) (wantN (fun t => lastN pk t c.length) (i + 1) i + 1) := by
        show (if i = 0 then _ else _) = _
        rw [if_neg (by omega)]
      refine V.run 0 54 rfl hn trivial ?_
      try simp only [rc_1_0, rc_1_1, rc_1_2, rc_1_3, rc_1_4, rc_1_5, rc_2_0, rc_2_1, rc_2_2, rc_6_0, rc_6_1, rc_6_2, rc_6_3, rc_7_0, rc_7_1, rc_7_2, rc_7_3, rc_12_0, rc_12_1, rc_12_2, rc_12_3, rc_18_0, rc_18_1, rc_20_0, rc_20_1, rc_22_0, rc_23_0, rc_25_0, rc_27_0, rc_27_1, rc_27_2, rc_31_0, rc_31_1, rc_31_2, rc_55_0, rc_55_1, rc_55_2, rc_1_6, rc_1_7, rc_23_2, fi_0_1, fi_0_2, fi_0_3, fi_1_3, fi_1_4, fi_1_5, fi_1_6, fi_1_7, fi_2_2, fi_3_3, fi_3_4, fi_3_5, fi_4_1, fi_5_4, fi_5_5, fi_5_6, fi_5_7, fi_5_8, fi_5_9, fi_6_1, fi_7_3, fi_7_4]
      rw [r3]
      refine V.brF rfl (fun q => by have := (iZ_le (by omega) (by omega)).mp q; omega) ?_
      refine V.run 0 54 rfl hn trivial ?_
      refine V.cv (lo := 54) (d' := d - 1) rfl rfl ok_X1_wantedFrom lk_1_X1_wantedFrom rfl rfl rfl hn (by omega) (Nat.le_refl _) (Nat.le_refl _) ((c_wantedFrom_31 hn hc (by omega) (by omega) ?_))
      refine V.max rfl rfl lm_1_max rfl (by omega) (Nat.le_refl _) ?_
      rw [max_iZ (by omega) (by omega)]
      refine V.run 0 54 rfl hn trivial ?_
      rw [iZ_add, show (i : Int) + 1 = ((i + 1 : Nat) : Int) by omega]
      refine V.cv (lo := 54) (d' := d - 1) rfl rfl ok_X1_wantedFrom lk_1_X1_wantedFrom rfl rfl rfl hn (by omega) (Nat.le_refl _) (Nat.le_refl _) ((c_wantedFrom_31 hn hc (by omega) (by omega) ?_))
      refine V.run 0 54 rfl hn trivial ?_
      rw [iZ_add, show ((wantN (fun t => lastN pk t c.length) (i + 1) i : Nat) : Int) + 1 = ((wantN (fun t => lastN pk t c.length) (i + 1) i + 1 : Nat) : Int) by omega]
      refine V.max rfl rfl lm_1_max rfl (by omega) (Nat.le_refl _) ?_
      rw [max_iZ (by omega) (by omega)]
      refine V.run 0 54 rfl hn trivial ?_
      have := ih (i + 1) (by omega) (by omega)
      rw [hnx, show ((i + 1 : Nat) : Int) = (i : Int) + 1 by omega, ← iZ_add] at this
      exact this
  exact key (c.length - 1) 1 (by omega) (by omega)
end CE31
