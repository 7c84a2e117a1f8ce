/-! ===== the class: road, step, good, the tree's size ===== -/
def treeS (n tr : Nat) (σ : Mem) : Prop := (n = 54 ∧ tr = 0) ∨ (n = 58 ∧ tr = 55 ∧ ptM σ)
theorem treeS.fr {n tr : Nat} {S : List Nat} {σ σ' : Mem} (h : treeS n tr σ) (hf : Fr S σ σ') (h1 : 55 ∉ S) (h2 : 56 ∉ S) (h3 : 57 ∉ S) : treeS n tr σ' := by
  rcases h with h | ⟨a, b, c⟩
  · exact Or.inl h
  · exact Or.inr ⟨a, b, c.fr hf h1 h2 h3⟩
theorem okTr_nd {P : List (List Nat)} (h : okTr P) : ∀ (p : List Nat), p ∈ P → p.Nodup
  | [], _ => List.Pairwise.nil
  | s :: q, hp => by
    rw [List.nodup_cons]
    rcases h.2.1 _ hp with e | ⟨s', q', e, hq, hlt⟩
    · cases e
      exact ⟨by simp, List.Pairwise.nil⟩
    · cases e
      refine ⟨fun hm => ?_, okTr_nd h q hq⟩
      have := (okTr_el h q hq _ hm).2
      omega
section CW1
variable {d n ca cb tr : Nat} {Q : PQ} {σ : Mem}
theorem c_grownTree (hd : 4 ≤ d) (ht : treeS n tr σ) (hQ : ∀ σ', ptM σ' → Fr [55, 56, 57, 58] σ σ' → Q (some (.ref 55)) (rho ca cb 55) σ') : Mt M_X4_grownTree d n 58 [.ref 23] (rho ca cb tr) σ Q := by
  rcases ht with ⟨rfl, rfl⟩ | ⟨rfl, rfl, hp⟩
  · refine Mt.of rfl (by decide +kernel) tk_X4_grownTree (Nat.le_of_ble_eq_true rfl) ?_
    refine V.run 0 54 rfl (Nat.le_refl 54) trivial ?_
    refine V.nul rfl rfl ?_
    refine V.run 0 54 rfl (Nat.le_refl 54) trivial ?_
    refine V.new 3 rfl (by decide) w_cl_4_3 w_ins_3 w_ini_3 (by decide) (by decide) ?_
    refine V.run 0 54 rfl (by decide) trivial ?_
    refine V.ci (d' := d - 1) (n' := 58) rfl rfl ok_X3_init (Or.inl lk_4_X3_init) rfl (by omega) (by decide) (by decide) (c_treeInit (by omega) (fun σ1 hp hf => ?_))
    refine V.putR (lo := 54) (t := 55) rfl rfl rfl rfl rfl rfl (by decide) (by decide) ?_
    refine V.cast (treeR1 ca cb) ?_
    refine V.run 0 54 rfl (by decide) trivial ?_
    refine V.ret (v := some (.ref 55)) rfl rfl rfl rfl (hQ σ1 hp (fun a ha => ?_))
    rw [hf a ha]
    exact nwS_ne (fun e => ha (by rw [e]; simp))
  · refine Mt.of rfl (by decide +kernel) tk_X4_grownTree (Nat.le_of_ble_eq_true rfl) ?_
    refine V.run 0 54 rfl (by decide) trivial ?_
    refine V.nn (k := 55) (tgt := 18) rfl rfl (by decide) ?_
    refine V.run 0 54 rfl (by decide) trivial ?_
    refine V.ret (v := some (.ref 55)) rfl rfl rfl rfl (hQ σ hp Fr.rf)

theorem c_addWay (hd : 5 ≤ d) {N : Nat} (hN : 1 ≤ N ∧ N ≤ 1000) (ht : treeS n tr σ) (hr : rodM σ []) (hQ : ∀ σ', rodM σ' (tpR N) → ptM σ' → Fr [23, 24, 55, 56, 57, 58] σ σ' → Q none (rho ca cb 55) σ') : Mt M_X4_addWay d n 58 [.ref 23, .int (iZ N)] (rho ca cb tr) σ Q := by
  have hn54 : 54 ≤ n := by rcases ht with ⟨h, -⟩ | ⟨h, -⟩ <;> omega
  have hn58 : n ≤ 58 := by rcases ht with ⟨h, -⟩ | ⟨h, -⟩ <;> omega
  obtain ⟨p, hp13, hpe⟩ := tpR_ex hN
  have hp := tF_same p hp13 (by omega)
  have hok := trS_ok mC 14
  have hnd := okTr_nd hok p hp
  have hpl := tF_cbd p hp
  rw [tpR_eq hp13 hpe] at hQ
  have hel := fun x hx => okTr_el hok p hp x hx
  have hndr : p.reverse.Nodup := List.pairwise_reverse.mpr (List.Pairwise.imp (fun h => Ne.symm h) hnd)
  refine Mt.of rfl (by decide +kernel) tk_X4_addWay (Nat.le_of_ble_eq_true rfl) ?_
  refine V.run 0 54 rfl hn54 trivial ?_
  refine V.cv (lo := 54) (d' := d - 1) (n' := 58) rfl rfl ok_X4_grownTree lk_4_X4_grownTree rfl rfl rfl hn54 (by omega) hn58 (Nat.le_refl 58) (c_grownTree (by omega) ht (fun σ1 hp1 hf1 => ?_))
  have hn : 58 ≤ 58 := Nat.le_refl 58
  have hr1 := hr.fr hf1 (by decide) (by decide)
  refine V.run 0 58 rfl hn trivial ?_
  rw [← hpe]
  refine V.cv (lo := 58) (d' := d - 1) rfl rfl ok_X3_findWay lk_4_X3_findWay rfl rfl rfl hn (by omega) (Nat.le_refl _) (Nat.le_refl _) ((c_findWay hn hok hp1.1 hp tF_cbd (fun σ2 w1 w2 wf wo => ?_)))
  have hp2 : ptM σ2 := ⟨trK_keep hp1.1 (wo 3 (by decide)) (wf 56 (by decide)) (wf 57 (by decide)), by rw [wo 4 (by decide)]; exact hp1.2⟩
  have hr2 := hr1.fr wf (by decide) (by decide)
  refine V.run 12 58 rfl hn trivial ?_
  have loop : ∀ (c i : Nat) (σ3 : Mem), i + c = p.length → rodM σ3 (p.reverse.take i) → FrO σ2 σ3 → V M_X4_addWay d n 58 none Q 58 (rho ca cb 55) σ3 12 [some (.ref 23), some (.int (iZ ((p.headD 0 : Nat)))), some (.ref 55), some (.int (iZ (i)))] [] := by
    intro c
    induction c with
    | zero =>
      intro i σ3 hi hr3 hf3
      have h5 : σ3 55 5 = iZ p.length := by rw [hf3.1 55 (by decide)]; exact w2
      rw [show i = p.reverse.length by rw [List.length_reverse]; omega, List.take_length] at hr3
      refine V.run 0 58 rfl hn trivial ?_
      refine V.cv (lo := 58) (d' := d - 1) rfl rfl ok_X3_waySize lk_4_X3_waySize rfl rfl rfl hn (by omega) (Nat.le_refl _) (Nat.le_refl _) ((c_waySize hn h5 ?_))
      refine V.brT rfl ((iZ_le (by omega) (by omega)).mpr (by omega)) ?_
      refine V.ret (v := none) rfl rfl rfl rfl (hQ σ3 hr3 (hp2.fr hf3.1 (by decide) (by decide) (by decide)) ((hf1.mono (by simp)).tr ((wf.mono (by simp)).tr (hf3.1.mono (by simp)))))
    | succ c ih =>
      intro i σ3 hi hr3 hf3
      have h5 : σ3 55 5 = iZ p.length := by rw [hf3.1 55 (by decide)]; exact w2
      have hil : i < p.reverse.length := by rw [List.length_reverse]; omega
      have h8 : σ3 58 i = iZ (p.reverse.getD i 0 : Nat) := by rw [hf3.1 58 (by decide)]; exact w1 i (by omega)
      have hxm : p.reverse.getD i 0 ∈ p := List.mem_reverse.mp (getD_mem2 hil)
      have hxb := hel _ hxm
      have hnew : p.reverse.getD i 0 ∉ p.reverse.take i := fun q => by
        rw [← List.take_append_drop i p.reverse, List.nodup_append] at hndr
        have hdr : p.reverse.getD i 0 ∈ p.reverse.drop i := by
          rw [List.drop_eq_getElem_cons hil, List.getD_eq_getElem?_getD, List.getElem?_eq_getElem hil]
          exact List.mem_cons_self
        exact hndr.2.2 _ q _ hdr rfl
      have htl : (p.reverse.take i).length = i := by rw [List.length_take]; omega
      refine V.run 0 58 rfl hn trivial ?_
      refine V.cv (lo := 58) (d' := d - 1) rfl rfl ok_X3_waySize lk_4_X3_waySize rfl rfl rfl hn (by omega) (Nat.le_refl _) (Nat.le_refl _) ((c_waySize hn h5 ?_))
      refine V.brF rfl (fun q => by have := (iZ_le (by omega) (by omega)).mp q; omega) ?_
      refine V.run 0 58 rfl hn trivial ?_
      refine V.cv (lo := 58) (d' := d - 1) rfl rfl ok_X3_wayAt lk_4_X3_wayAt rfl rfl rfl hn (by omega) (Nat.le_refl _) (Nat.le_refl _) ((c_wayAt hn h5 (by omega) (by omega) h8 ?_))
      refine V.cv (lo := 58) (d' := d - 1) rfl rfl ok_X4_add lk_4_X4_add rfl rfl rfl hn (by omega) (Nat.le_refl _) (Nat.le_refl _) ((c_radd (by omega) (by omega) (by omega) (by omega) hr3 (fun σ4 hr4 hf4 => ?_)))
      have e : ad (p.reverse.take i) (p.reverse.getD i 0) = p.reverse.take (i + 1) := by
        rw [ad_pos (by omega), take_getD hil]
        unfold goL
        rw [if_neg hnew]
      rw [e] at hr4
      refine V.run 0 58 rfl hn trivial ?_
      have := ih (i + 1) σ4 (by omega) hr4 (hf3.tr hf4)
      rw [show ((i + 1 : Nat) : Int) = (i : Int) + 1 by omega, ← iZ_add] at this
      exact this
  exact loop p.length 0 σ2 (by omega) (by rw [List.take_zero]; exact hr2) FrO.rf
theorem c_treeSize (hd : 5 ≤ d) (ht : treeS n tr σ) (hQ : ∀ σ', ptM σ' → Fr [55, 56, 57, 58] σ σ' → Q (some (.int (iZ 970))) (rho ca cb 55) σ') : Mt M_X4_treeSize d n 58 [.ref 23] (rho ca cb tr) σ Q := by
  have hn54 : 54 ≤ n := by rcases ht with ⟨h, -⟩ | ⟨h, -⟩ <;> omega
  have hn58 : n ≤ 58 := by rcases ht with ⟨h, -⟩ | ⟨h, -⟩ <;> omega
  refine Mt.of rfl (by decide +kernel) tk_X4_treeSize (Nat.le_of_ble_eq_true rfl) ?_
  refine V.run 0 54 rfl hn54 trivial ?_
  refine V.cv (lo := 54) (d' := d - 1) (n' := 58) rfl rfl ok_X4_grownTree lk_4_X4_grownTree rfl rfl rfl hn54 (by omega) hn58 (Nat.le_refl 58) (c_grownTree (by omega) ht (fun σ1 hp1 hf1 => ?_))
  have hn : 58 ≤ 58 := Nat.le_refl 58
  refine V.cv (lo := 58) (d' := d - 1) rfl rfl ok_X3_sizeWithThousand lk_4_X3_sizeWithThousand rfl rfl rfl hn (by omega) (Nat.le_refl _) (Nat.le_refl _) ((c_size1000 hn hp1 ?_))
  refine V.ret (v := some (.int (iZ 970))) rfl rfl rfl rfl (hQ σ1 hp1 hf1)
end CW1

section CW2
variable {d n ca cb tr : Nat} {Q : PQ} {σ : Mem} {ρ : Ref}
theorem c_build (hn : 54 ≤ n) (hd : 46 ≤ d) {R N : Nat} {W : Int} (hok : okR R N W.toNat) (hR3 : R ≠ 3) (hW : -2147483648 ≤ W ∧ W < 2147483648) (hQ : ∀ σ', rodM σ' (roadL R N W.toNat) → FrO σ σ' → Q none (rho ca cb tr) σ') : Mt M_X4_build d n n [.ref 23, .int (iZ R), .int (iZ N), .int (iZ W)] (rho ca cb tr) σ Q := by
  obtain ⟨h1, h2, h3, h4⟩ := id hok
  rw [if_neg hR3] at h3
  refine Mt.of rfl (by decide +kernel) tk_X4_build (Nat.le_of_ble_eq_true rfl) ?_
  refine V.run 0 54 rfl hn trivial ?_
  try simp only [rc_1_0, rc_1_1, rc_1_2, rc_1_3, rc_1_4, rc_1_5, rc_2_0, rc_2_1, rc_2_2, rc_6_0, rc_6_1, rc_6_2, rc_6_3, rc_7_0, rc_7_1, rc_7_2, rc_7_3, rc_12_0, rc_12_1, rc_12_2, rc_12_3, rc_18_0, rc_18_1, rc_20_0, rc_20_1, rc_22_0, rc_23_0, rc_25_0, rc_27_0, rc_27_1, rc_27_2, rc_31_0, rc_31_1, rc_31_2, rc_55_0, rc_55_1, rc_55_2, rc_1_6, rc_1_7, rc_23_2, fi_0_1, fi_0_2, fi_0_3, fi_1_3, fi_1_4, fi_1_5, fi_1_6, fi_1_7, fi_2_2, fi_3_3, fi_3_4, fi_3_5, fi_4_1, fi_5_4, fi_5_5, fi_5_6, fi_5_7, fi_5_8, fi_5_9, fi_6_1, fi_7_3, fi_7_4]
  have hr1 : rodM (up σ 23 1 (iZ 0)) [] := ⟨by simp, up_at, fun i hi => by simp at hi, fun x hx => (by cases hx)⟩
  have hf1 : FrO σ (up σ 23 1 (iZ 0)) := ⟨Fr.put (by simp), fun j hj => up_nat hj⟩
  generalize up σ 23 1 (iZ 0) = σ1 at *
  unfold roadL at hQ
  rcases (show R = 0 ∨ R = 1 ∨ R = 2 ∨ R = 4 by omega) with rfl | rfl | rfl | rfl
  · refine V.swI (x := iZ 0) (tgt := 36) rfl rfl (by decide) (by decide) rfl (by decide) ?_
    refine V.run 0 54 rfl hn trivial ?_
    refine V.cv (lo := 54) (d' := d - 1) rfl rfl ok_X4_addHalves lk_4_X4_addHalves rfl rfl rfl hn (by omega) (Nat.le_refl _) (Nat.le_refl _) ((c_addHalves hn (by omega) ⟨h2, h3⟩ hr1 (fun σ2 hr2 hf2 => ?_)))
    refine V.run 0 54 rfl hn trivial ?_
    refine V.ret (v := none) rfl rfl rfl rfl (hQ σ2 hr2 (hf1.tr hf2))
  · have hw := h4 rfl
    obtain ⟨w, rfl⟩ : ∃ w : Nat, W = w := ⟨W.toNat, by omega⟩
    rw [Int.toNat_natCast] at hw hQ
    refine V.swI (x := iZ 1) (tgt := 44) rfl rfl (by decide) (by decide) rfl (by decide) ?_
    refine V.run 0 54 rfl hn trivial ?_
    refine V.cv (lo := 54) (d' := d - 1) rfl rfl ok_X4_addFigures lk_4_X4_addFigures rfl rfl rfl hn (by omega) (Nat.le_refl _) (Nat.le_refl _) ((c_addFigures hn (by omega) ⟨h2, h3⟩ hw hr1 (fun σ2 hr2 hf2 => ?_)))
    refine V.run 0 54 rfl hn trivial ?_
    refine V.ret (v := none) rfl rfl rfl rfl (hQ σ2 hr2 (hf1.tr hf2))
  · have hl := fac_len34 (N := N) ⟨h2, h3⟩
    refine V.swI (x := iZ 2) (tgt := 53) rfl rfl (by decide) (by decide) rfl (by decide) ?_
    refine V.run 0 54 rfl hn trivial ?_
    refine V.cv (lo := 54) (d' := d - 1) rfl rfl ok_X4_add lk_4_X4_add rfl rfl rfl hn (by omega) (Nat.le_refl _) (Nat.le_refl _) ((c_radd hn (by omega) (v := 1) (by simp) (by omega) hr1 (fun σ2 hr2 hf2 => ?_)))
    have e1 : ad [] 1 = [1] := rfl
    rw [e1] at hr2
    refine V.run 0 54 rfl hn trivial ?_
    refine V.cv (lo := 54) (d' := d - 1) rfl rfl ok_X4_addFactors lk_4_X4_addFactors rfl rfl rfl hn (by omega) (Nat.le_refl _) (Nat.le_refl _) ((c_addFactors hn 41 N 1 0 (d - 1) _ σ2 [1] (by omega) (by omega) (by omega) (by omega) (by omega) hr2 (fun σ3 hr3 hf3 => ?_)))
    refine V.run 0 54 rfl hn trivial ?_
    refine V.ret (v := none) rfl rfl rfl rfl (hQ σ3 hr3 (hf1.tr (hf2.tr hf3)))
  · refine V.swO (x := iZ 4) (tgt := 76) rfl rfl (by decide) (by decide) ?_
    refine V.run 0 54 rfl hn trivial ?_
    refine V.cv (lo := 54) (d' := d - 1) rfl rfl ok_X4_addSigns lk_4_X4_addSigns rfl rfl rfl hn (by omega) (Nat.le_refl _) (Nat.le_refl _) ((c_addSigns hn (by omega) ⟨h2, h3⟩ hr1 (fun σ2 hr2 hf2 => ?_)))
    refine V.ret (v := none) rfl rfl rfl rfl (hQ σ2 hr2 (hf1.tr hf2))
theorem c_buildT (hd : 6 ≤ d) {N : Nat} {W : Int} (hN : 1 ≤ N ∧ N ≤ 1000) (ht : treeS n tr σ) (hQ : ∀ σ', rodM σ' (roadL 3 N W.toNat) → ptM σ' → Fr [23, 24, 55, 56, 57, 58] σ σ' → Q none (rho ca cb 55) σ') : Mt M_X4_build d n 58 [.ref 23, .int (iZ (3 : Nat)), .int (iZ N), .int (iZ W)] (rho ca cb tr) σ Q := by
  have hn : 54 ≤ n := by rcases ht with ⟨h, -⟩ | ⟨h, -⟩ <;> omega
  have hn58 : n ≤ 58 := by rcases ht with ⟨h, -⟩ | ⟨h, -⟩ <;> omega
  have e3 : roadL 3 N W.toNat = tpR N := rfl
  rw [e3] at hQ
  refine Mt.of rfl (by decide +kernel) tk_X4_build (Nat.le_of_ble_eq_true rfl) ?_
  refine V.run 0 54 rfl hn trivial ?_
  try simp only [rc_1_0, rc_1_1, rc_1_2, rc_1_3, rc_1_4, rc_1_5, rc_2_0, rc_2_1, rc_2_2, rc_6_0, rc_6_1, rc_6_2, rc_6_3, rc_7_0, rc_7_1, rc_7_2, rc_7_3, rc_12_0, rc_12_1, rc_12_2, rc_12_3, rc_18_0, rc_18_1, rc_20_0, rc_20_1, rc_22_0, rc_23_0, rc_25_0, rc_27_0, rc_27_1, rc_27_2, rc_31_0, rc_31_1, rc_31_2, rc_55_0, rc_55_1, rc_55_2, rc_1_6, rc_1_7, rc_23_2, fi_0_1, fi_0_2, fi_0_3, fi_1_3, fi_1_4, fi_1_5, fi_1_6, fi_1_7, fi_2_2, fi_3_3, fi_3_4, fi_3_5, fi_4_1, fi_5_4, fi_5_5, fi_5_6, fi_5_7, fi_5_8, fi_5_9, fi_6_1, fi_7_3, fi_7_4]
  have hr1 : rodM (up σ 23 1 (iZ 0)) [] := ⟨by simp, up_at, fun i hi => by simp at hi, fun x hx => (by cases hx)⟩
  have hf1 : Fr [23] σ (up σ 23 1 (iZ 0)) := Fr.put (by simp)
  generalize up σ 23 1 (iZ 0) = σ1 at *
  refine V.swI (x := iZ (3 : Nat)) (tgt := 68) rfl rfl (by decide) (by decide) rfl (by decide) ?_
  refine V.run 0 54 rfl hn trivial ?_
  refine V.cv (lo := 54) (d' := d - 1) (n' := 58) rfl rfl ok_X4_addWay lk_4_X4_addWay rfl rfl rfl hn (by omega) hn58 (Nat.le_refl 58) (c_addWay (by omega) hN (ht.fr hf1 (by decide) (by decide) (by decide)) hr1 (fun σ2 hr2 hp2 hf2 => ?_))
  refine V.run 0 54 rfl (by decide) trivial ?_
  refine V.ret (v := none) rfl rfl rfl rfl (hQ σ2 hr2 hp2 ((hf1.mono (by simp)).tr hf2))
theorem c_rsteps (hn : 54 ≤ n) {L : List Nat} (hr : rodM σ L) (hQ : Q (some (.int (iZ ((L.length : Int) - 1)))) (rho ca cb tr) σ) : Mt M_X4_steps d n n [.ref 23] (rho ca cb tr) σ Q := by
  refine Mt.of rfl (by decide +kernel) tk_X4_steps (Nat.le_of_ble_eq_true rfl) ?_
  refine V.run 0 54 rfl hn trivial ?_
  try simp only [rc_1_0, rc_1_1, rc_1_2, rc_1_3, rc_1_4, rc_1_5, rc_2_0, rc_2_1, rc_2_2, rc_6_0, rc_6_1, rc_6_2, rc_6_3, rc_7_0, rc_7_1, rc_7_2, rc_7_3, rc_12_0, rc_12_1, rc_12_2, rc_12_3, rc_18_0, rc_18_1, rc_20_0, rc_20_1, rc_22_0, rc_23_0, rc_25_0, rc_27_0, rc_27_1, rc_27_2, rc_31_0, rc_31_1, rc_31_2, rc_55_0, rc_55_1, rc_55_2, rc_1_6, rc_1_7, rc_23_2, fi_0_1, fi_0_2, fi_0_3, fi_1_3, fi_1_4, fi_1_5, fi_1_6, fi_1_7, fi_2_2, fi_3_3, fi_3_4, fi_3_5, fi_4_1, fi_5_4, fi_5_5, fi_5_6, fi_5_7, fi_5_8, fi_5_9, fi_6_1, fi_7_3, fi_7_4]
  rw [hr.2.1, iZ_sub]
  refine V.ret (v := some (.int (iZ ((L.length : Int) - 1)))) rfl rfl rfl rfl (hQ)
theorem c_rnum (hn : 54 ≤ n) {L : List Nat} {i : Int} (hi : 0 ≤ i ∧ i < 2147483648) (hr : rodM σ L) (hQ : Q (some (.int (iZ (if i < L.length then (L.getD i.toNat 0 : Nat) else -4)))) (rho ca cb tr) σ) : Mt M_X4_numberAt d n n [.ref 23, .int (iZ i)] (rho ca cb tr) σ Q := by
  obtain ⟨r1, r2, r3, r4⟩ := id hr
  refine Mt.of rfl (by decide +kernel) tk_X4_numberAt (Nat.le_of_ble_eq_true rfl) ?_
  refine V.run 0 54 rfl hn trivial ?_
  refine V.brF rfl (fun q => by have := (iZ_lt0 (by omega)).mp q; omega) ?_
  refine V.run 0 54 rfl hn trivial ?_
  try simp only [rc_1_0, rc_1_1, rc_1_2, rc_1_3, rc_1_4, rc_1_5, rc_2_0, rc_2_1, rc_2_2, rc_6_0, rc_6_1, rc_6_2, rc_6_3, rc_7_0, rc_7_1, rc_7_2, rc_7_3, rc_12_0, rc_12_1, rc_12_2, rc_12_3, rc_18_0, rc_18_1, rc_20_0, rc_20_1, rc_22_0, rc_23_0, rc_25_0, rc_27_0, rc_27_1, rc_27_2, rc_31_0, rc_31_1, rc_31_2, rc_55_0, rc_55_1, rc_55_2, rc_1_6, rc_1_7, rc_23_2, fi_0_1, fi_0_2, fi_0_3, fi_1_3, fi_1_4, fi_1_5, fi_1_6, fi_1_7, fi_2_2, fi_3_3, fi_3_4, fi_3_5, fi_4_1, fi_5_4, fi_5_5, fi_5_6, fi_5_7, fi_5_8, fi_5_9, fi_6_1, fi_7_3, fi_7_4]
  rw [r2]
  refine V.br rfl (fun (c2 : iZ L.length ≤ iZ i) => ?_) (fun (c2 : ¬ (iZ L.length ≤ iZ i)) => ?_)
  · rw [iZ_le (by omega) (by omega)] at c2
    rw [if_neg (by omega)] at hQ
    refine V.run 0 54 rfl hn trivial ?_
    refine V.ret (v := some (.int (iZ (-4)))) rfl rfl rfl rfl (hQ)
  · rw [iZ_le (by omega) (by omega)] at c2
    rw [if_pos (by omega)] at hQ
    refine V.run 0 54 rfl hn ⟨in_iZ (n := 64) (by omega) (by decide), trivial⟩ ?_
    try simp only [rc_1_0, rc_1_1, rc_1_2, rc_1_3, rc_1_4, rc_1_5, rc_2_0, rc_2_1, rc_2_2, rc_6_0, rc_6_1, rc_6_2, rc_6_3, rc_7_0, rc_7_1, rc_7_2, rc_7_3, rc_12_0, rc_12_1, rc_12_2, rc_12_3, rc_18_0, rc_18_1, rc_20_0, rc_20_1, rc_22_0, rc_23_0, rc_25_0, rc_27_0, rc_27_1, rc_27_2, rc_31_0, rc_31_1, rc_31_2, rc_55_0, rc_55_1, rc_55_2, rc_1_6, rc_1_7, rc_23_2, fi_0_1, fi_0_2, fi_0_3, fi_1_3, fi_1_4, fi_1_5, fi_1_6, fi_1_7, fi_2_2, fi_3_3, fi_3_4, fi_3_5, fi_4_1, fi_5_4, fi_5_5, fi_5_6, fi_5_7, fi_5_8, fi_5_9, fi_6_1, fi_7_3, fi_7_4]
    rw [ix_iZ (by omega), r3 _ (by omega)]
    refine V.ret (v := some (.int (iZ (L.getD i.toNat 0 : Nat)))) rfl rfl rfl rfl (hQ)
theorem c_isRoad {R N W : Int} (hR : -2147483648 ≤ R ∧ R < 2147483648) (hN : -2147483648 ≤ N ∧ N < 2147483648) (hW : -2147483648 ≤ W ∧ W < 2147483648) (h1 : A_isRoad R N W → Q (some (.int 1)) ρ σ) (h0 : ¬ A_isRoad R N W → Q (some (.int 0)) ρ σ) : Mt M_X8_isRoad d n n [.int (iZ R), .int (iZ N), .int (iZ W)] ρ σ Q := by
  unfold A_isRoad at h1 h0
  refine Mt.of rfl (by decide +kernel) tk_X8_isRoad (Nat.le_of_ble_eq_true rfl) ?_
  refine V.run 0 0 rfl (Nat.zero_le _) trivial ?_
  have no9 : ¬ (0 ≤ R ∧ R ≤ 4) → V M_X8_isRoad d n n none Q n ρ σ 9 [some (.int (iZ R)), some (.int (iZ N)), some (.int (iZ W))] [] := by
    intro h
    refine V.run 0 0 rfl (Nat.zero_le _) trivial ?_
    refine V.ret (v := some (.int 0)) rfl rfl ⟨rfl, Or.inl rfl⟩ rfl (h0 (fun q => h q.1))
  have no54 : ¬ ((1 ≤ N ∧ N ≤ (if R = 3 then 1000 else 100000))) → V M_X8_isRoad d n n none Q n ρ σ 54 [some (.int (iZ R)), some (.int (iZ N)), some (.int (iZ W))] [] := by
    intro h
    refine V.run 0 0 rfl (Nat.zero_le _) trivial ?_
    refine V.ret (v := some (.int 0)) rfl rfl ⟨rfl, Or.inl rfl⟩ rfl (h0 (fun q => h q.2.1))
  refine V.br rfl (fun (c1 : iZ R < 0) => ?_) (fun (c1 : ¬ (iZ R < 0)) => ?_)
  · rw [iZ_lt0 (by omega)] at c1
    exact no9 (by omega)
  · rw [iZ_lt0 (by omega)] at c1
    refine V.run 0 0 rfl (Nat.zero_le _) trivial ?_
    refine V.br rfl (fun (c2 : iZ R ≤ iZ 4) => ?_) (fun (c2 : ¬ (iZ R ≤ iZ 4)) => ?_)
    · rw [iZ_le (by omega) (by omega)] at c2
      have k28 : (R = 1 → 2 ≤ W ∧ W ≤ 4) → V M_X8_isRoad d n n none Q n ρ σ 28 [some (.int (iZ R)), some (.int (iZ N)), some (.int (iZ W))] [] := by
        intro hw
        refine V.run 0 0 rfl (Nat.zero_le _) trivial ?_
        refine V.br rfl (fun (c3 : iZ N < iZ 1) => ?_) (fun (c3 : ¬ (iZ N < iZ 1)) => ?_)
        · rw [iZ_lt (by omega) (by omega)] at c3
          exact no54 (by omega)
        · rw [iZ_lt (by omega) (by omega)] at c3
          refine V.run 0 0 rfl (Nat.zero_le _) trivial ?_
          refine V.br rfl (fun (c4 : iZ R = iZ 3) => ?_) (fun (c4 : ¬ (iZ R = iZ 3)) => ?_)
          · rw [iZ_eq (by omega) (by omega)] at c4
            rw [if_pos c4] at h1 no54
            refine V.run 0 0 rfl (Nat.zero_le _) trivial ?_
            refine V.br rfl (fun (c5 : iZ 1000 < iZ N) => ?_) (fun (c5 : ¬ (iZ 1000 < iZ N)) => ?_)
            · rw [iZ_lt (by omega) (by omega)] at c5
              exact no54 (by omega)
            · rw [iZ_lt (by omega) (by omega)] at c5
              refine V.run 0 0 rfl (Nat.zero_le _) trivial ?_
              refine V.ret (v := some (.int 1)) rfl rfl ⟨rfl, Or.inr rfl⟩ rfl (h1 ⟨by omega, by omega, hw⟩)
          · rw [iZ_eq (by omega) (by omega)] at c4
            rw [if_neg c4] at h1 no54
            refine V.run 0 0 rfl (Nat.zero_le _) trivial ?_
            refine V.br rfl (fun (c5 : iZ 100000 < iZ N) => ?_) (fun (c5 : ¬ (iZ 100000 < iZ N)) => ?_)
            · rw [iZ_lt (by omega) (by omega)] at c5
              exact no54 (by omega)
            · rw [iZ_lt (by omega) (by omega)] at c5
              refine V.run 0 0 rfl (Nat.zero_le _) trivial ?_
              refine V.ret (v := some (.int 1)) rfl rfl ⟨rfl, Or.inr rfl⟩ rfl (h1 ⟨by omega, by omega, hw⟩)
      refine V.run 0 0 rfl (Nat.zero_le _) trivial ?_
      refine V.br rfl (fun (c3 : iZ R = iZ 1) => ?_) (fun (c3 : ¬ (iZ R = iZ 1)) => ?_)
      · rw [iZ_eq (by omega) (by omega)] at c3
        have no26 : ¬ (2 ≤ W ∧ W ≤ 4) → V M_X8_isRoad d n n none Q n ρ σ 26 [some (.int (iZ R)), some (.int (iZ N)), some (.int (iZ W))] [] := by
          intro h
          refine V.run 0 0 rfl (Nat.zero_le _) trivial ?_
          refine V.ret (v := some (.int 0)) rfl rfl ⟨rfl, Or.inl rfl⟩ rfl (h0 (fun q => h (q.2.2 c3)))
        refine V.run 0 0 rfl (Nat.zero_le _) trivial ?_
        refine V.br rfl (fun (c4 : iZ W < iZ 2) => ?_) (fun (c4 : ¬ (iZ W < iZ 2)) => ?_)
        · rw [iZ_lt (by omega) (by omega)] at c4
          exact no26 (by omega)
        · rw [iZ_lt (by omega) (by omega)] at c4
          refine V.run 0 0 rfl (Nat.zero_le _) trivial ?_
          refine V.br rfl (fun (c5 : iZ W ≤ iZ 4) => ?_) (fun (c5 : ¬ (iZ W ≤ iZ 4)) => ?_)
          · rw [iZ_le (by omega) (by omega)] at c5
            exact k28 (fun _ => by omega)
          · rw [iZ_le (by omega) (by omega)] at c5
            exact no26 (by omega)
      · rw [iZ_eq (by omega) (by omega)] at c3
        exact k28 (fun h => absurd h c3)
    · rw [iZ_le (by omega) (by omega)] at c2
      exact no9 (by omega)
end CW2
