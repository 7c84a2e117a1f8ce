/-! ===== the constructors of the chain, of the class and of the model ===== -/
section CT2
variable {d : Nat} {Q : PQ} {σ : Mem}
theorem k_append_27 (h3 : σ 27 3 = iZ 0) (hQ : Q (some (.int 1)) R7 (up (up (up (up σ 28 0 (iZ 1)) 29 0 (iZ 0)) 30 0 (iZ 0)) 27 3 (iZ 1))) : Mt M_X1_append d 30 30 [.ref 27, .int (iZ 1)] R7 σ Q := by
  have e1 : ∀ (σ : Mem) (i : Nat) (x : Int32), up σ 28 i x 27 = σ 27 := fun σ i x => up_ne (by decide)
  have e2 : ∀ (σ : Mem) (i : Nat) (x : Int32), up σ 29 i x 27 = σ 27 := fun σ i x => up_ne (by decide)
  have e3 : ∀ (σ : Mem) (i : Nat) (x : Int32), up σ 30 i x 27 = σ 27 := fun σ i x => up_ne (by decide)
  have r0 : R7 27 0 = 28 := rfl
  have r1 : R7 27 1 = 29 := rfl
  have r2 : R7 27 2 = 30 := rfl
  refine Mt.of rfl (by decide +kernel) tk_X1_append (Nat.le_of_ble_eq_true rfl) ?_
  refine V.run 0 30 rfl (Nat.le_refl 30) trivial ?_
  simp only [fi_1_3, h3]
  refine V.brT rfl (by decide) ?_
  have p1 : vp_in (iZ 0) 64 := in_N (k := 0) (by omega) (by decide)
  refine V.run 0 30 rfl (Nat.le_refl 30) ⟨by (simp only [r0, r1, r2, fi_1_3, e1, e2, e3, h3]; exact p1), by (simp only [r0, r1, r2, fi_1_3, e1, e2, e3, h3]; exact p1), by (simp only [r0, r1, r2, fi_1_3, e1, e2, e3, h3]; exact p1), trivial⟩ ?_
  simp only [r0, r1, r2, fi_1_3, e1, e2, e3, h3]
  refine V.ret (v := some (.int 1)) rfl rfl ⟨rfl, Or.inr rfl⟩ rfl hQ
theorem k_X1_27 (hd : 3 ≤ d) (hQ : ∀ σ', (σ' 27 3 = iZ 1 ∧ σ' 27 4 = iZ 0 ∧ σ' 27 5 = iZ 0 ∧ σ' 28 0 = iZ 1 ∧ σ' 29 0 = iZ 0 ∧ σ' 30 0 = iZ 0) → Fr [27, 28, 29, 30] σ σ' → Q none R7 σ') : Mt M_X1_init d 27 30 [.ref 27] (nwR R7 27) σ Q := by
  refine Mt.of rfl (by decide +kernel) tk_X1_init (Nat.le_of_ble_eq_true rfl) ?_
  refine V.run 0 27 rfl (by decide) trivial ?_
  refine V.obj rfl rfl w_ob_1 w_oi w_oc rfl (by omega) ?_
  refine V.run 0 27 rfl (by decide) trivial ?_
  refine V.newa 1 rfl rfl (by decide) (fun _ => rfl) rfl (fun _ _ h => h) w_ac_int (by decide) (by decide) (by decide) (by decide) ?_
  refine V.putRF (lo := 27) (t := 28) rfl rfl rfl rfl rfl rfl rfl rfl (by decide) (by decide) ?_
  refine V.run 0 27 rfl (by decide) trivial ?_
  refine V.newa 1 rfl rfl (by decide) (fun _ => rfl) rfl (fun _ _ h => h) w_ac_int (by decide) (by decide) (by decide) (by decide) ?_
  refine V.putRF (lo := 27) (t := 29) rfl rfl rfl rfl rfl rfl rfl rfl (by decide) (by decide) ?_
  refine V.run 0 27 rfl (by decide) trivial ?_
  refine V.newa 1 rfl rfl (by decide) (fun _ => rfl) rfl (fun _ _ h => h) w_ac_int (by decide) (by decide) (by decide) (by decide) ?_
  refine V.putRF (lo := 27) (t := 30) rfl rfl rfl rfl rfl rfl rfl rfl (by decide) (by decide) ?_
  refine V.cast (ref_eq (((((((sR7.nw.nw).up (by decide) (by decide)).nw).up (by decide) (by decide)).nw).up (by decide) (by decide))) sR7 (by decide +kernel)) ?_
  refine V.run 0 27 rfl (by decide) trivial ?_
  refine V.cv (lo := 30) (d' := d - 1) (n' := 30) rfl rfl ok_X1_append lk_1_X1_append rfl rfl rfl (by decide) (by omega) (by decide) (Nat.le_refl 30) (k_append_27 rfl ?_)
  refine V.run 0 27 rfl (by decide) trivial ?_
  refine V.ret (v := none) rfl rfl rfl rfl (hQ _ ⟨rfl, rfl, rfl, rfl, rfl, rfl⟩ (fun a ha => ?_))
  simp only [List.mem_cons, List.not_mem_nil, or_false, not_or] at ha
  simp only [up, nwS, muM, ha, if_false]
theorem k_append_31 (h3 : σ 31 3 = iZ 0) (hQ : Q (some (.int 1)) R8 (up (up (up (up σ 32 0 (iZ 1)) 33 0 (iZ 0)) 34 0 (iZ 0)) 31 3 (iZ 1))) : Mt M_X1_append d 34 34 [.ref 31, .int (iZ 1)] R8 σ Q := by
  have e1 : ∀ (σ : Mem) (i : Nat) (x : Int32), up σ 32 i x 31 = σ 31 := fun σ i x => up_ne (by decide)
  have e2 : ∀ (σ : Mem) (i : Nat) (x : Int32), up σ 33 i x 31 = σ 31 := fun σ i x => up_ne (by decide)
  have e3 : ∀ (σ : Mem) (i : Nat) (x : Int32), up σ 34 i x 31 = σ 31 := fun σ i x => up_ne (by decide)
  have r0 : R8 31 0 = 32 := rfl
  have r1 : R8 31 1 = 33 := rfl
  have r2 : R8 31 2 = 34 := rfl
  refine Mt.of rfl (by decide +kernel) tk_X1_append (Nat.le_of_ble_eq_true rfl) ?_
  refine V.run 0 34 rfl (Nat.le_refl 34) trivial ?_
  simp only [fi_1_3, h3]
  refine V.brT rfl (by decide) ?_
  have p1 : vp_in (iZ 0) 64 := in_N (k := 0) (by omega) (by decide)
  refine V.run 0 34 rfl (Nat.le_refl 34) ⟨by (simp only [r0, r1, r2, fi_1_3, e1, e2, e3, h3]; exact p1), by (simp only [r0, r1, r2, fi_1_3, e1, e2, e3, h3]; exact p1), by (simp only [r0, r1, r2, fi_1_3, e1, e2, e3, h3]; exact p1), trivial⟩ ?_
  simp only [r0, r1, r2, fi_1_3, e1, e2, e3, h3]
  refine V.ret (v := some (.int 1)) rfl rfl ⟨rfl, Or.inr rfl⟩ rfl hQ
theorem k_X1_31 (hd : 3 ≤ d) (hQ : ∀ σ', (σ' 31 3 = iZ 1 ∧ σ' 31 4 = iZ 0 ∧ σ' 31 5 = iZ 0 ∧ σ' 32 0 = iZ 1 ∧ σ' 33 0 = iZ 0 ∧ σ' 34 0 = iZ 0) → Fr [31, 32, 33, 34] σ σ' → Q none R8 σ') : Mt M_X1_init d 31 34 [.ref 31] (nwR R8 31) σ Q := by
  refine Mt.of rfl (by decide +kernel) tk_X1_init (Nat.le_of_ble_eq_true rfl) ?_
  refine V.run 0 31 rfl (by decide) trivial ?_
  refine V.obj rfl rfl w_ob_1 w_oi w_oc rfl (by omega) ?_
  refine V.run 0 31 rfl (by decide) trivial ?_
  refine V.newa 1 rfl rfl (by decide) (fun _ => rfl) rfl (fun _ _ h => h) w_ac_int (by decide) (by decide) (by decide) (by decide) ?_
  refine V.putRF (lo := 31) (t := 32) rfl rfl rfl rfl rfl rfl rfl rfl (by decide) (by decide) ?_
  refine V.run 0 31 rfl (by decide) trivial ?_
  refine V.newa 1 rfl rfl (by decide) (fun _ => rfl) rfl (fun _ _ h => h) w_ac_int (by decide) (by decide) (by decide) (by decide) ?_
  refine V.putRF (lo := 31) (t := 33) rfl rfl rfl rfl rfl rfl rfl rfl (by decide) (by decide) ?_
  refine V.run 0 31 rfl (by decide) trivial ?_
  refine V.newa 1 rfl rfl (by decide) (fun _ => rfl) rfl (fun _ _ h => h) w_ac_int (by decide) (by decide) (by decide) (by decide) ?_
  refine V.putRF (lo := 31) (t := 34) rfl rfl rfl rfl rfl rfl rfl rfl (by decide) (by decide) ?_
  refine V.cast (ref_eq (((((((sR8.nw.nw).up (by decide) (by decide)).nw).up (by decide) (by decide)).nw).up (by decide) (by decide))) sR8 (by decide +kernel)) ?_
  refine V.run 0 31 rfl (by decide) trivial ?_
  refine V.cv (lo := 34) (d' := d - 1) (n' := 34) rfl rfl ok_X1_append lk_1_X1_append rfl rfl rfl (by decide) (by omega) (by decide) (Nat.le_refl 34) (k_append_31 rfl ?_)
  refine V.run 0 31 rfl (by decide) trivial ?_
  refine V.ret (v := none) rfl rfl rfl rfl (hQ _ ⟨rfl, rfl, rfl, rfl, rfl, rfl⟩ (fun a ha => ?_))
  simp only [List.mem_cons, List.not_mem_nil, or_false, not_or] at ha
  simp only [up, nwS, muM, ha, if_false]
theorem Fr_nw {S : List Nat} {σ σ' : Mem} {o : Nat} (h : Fr S (nwS σ o) σ') (ho : o ∈ S) : Fr S σ σ' := fun a ha => (h a ha).trans (nwS_ne (fun e => ha (e ▸ ho)))
def rg (a : Nat) : List Nat := List.range' a (35 - a)
def pk0 : Nat → Nat × Nat := fun _ => (0, 0)
def iniC (σ : Mem) : Prop := shortI σ ∧ gthM 18 σ [] ∧ gthM 20 σ [] ∧ brgM σ 1 1 ∧ txtM σ [] ∧ chnM 27 σ 0 [1] pk0
theorem k_X8 (hd : 4 ≤ d) (hQ : ∀ σ', iniC σ' → Fr (rg 1) σ σ' → Q none (rho 27 31 0) σ') : Mt M_X8_init d 1 34 [.ref 1] R1 σ Q := by
  refine Mt.of rfl (by decide +kernel) tk_X8_init (Nat.le_of_ble_eq_true rfl) ?_
  refine V.run 0 1 rfl (by decide) trivial ?_
  refine V.obj rfl rfl w_ob_8 w_oi w_oc rfl (by omega) ?_
  refine V.new 7 rfl (by decide) w_cl_8_7 w_ins_7 w_ini_7 (by decide) (by decide) ?_
  refine V.run 0 1 rfl (by decide) trivial ?_
  refine V.ci (d' := d - 1) (n' := 5) rfl rfl ok_X7_init (Or.inr (List.mem_of_getElem? (i := 0) rfl)) rfl (by omega) (by decide) (by decide) (k_X7 (by omega) (fun σ1 f1 g1 => ?_))
  refine V.run 0 1 rfl (by decide) trivial ?_
  refine V.new 5 rfl (by decide) w_cl_8_5 w_ins_5 w_ini_5 (by decide) (by decide) ?_
  refine V.run 0 1 rfl (by decide) trivial ?_
  refine V.ci (d' := d - 1) (n' := 17) rfl rfl ok_X5_init (Or.inl lk_8_X5_init) rfl (by omega) (by decide) (by decide) (k_X5 (by omega) (fun σ2 f2 g2 => ?_))
  refine V.putRF (lo := 1) (t := 6) rfl rfl rfl rfl rfl rfl rfl rfl (by decide) (by decide) ?_
  refine V.cast (ρ' := R2) rfl ?_
  refine V.run 0 1 rfl (by decide) trivial ?_
  refine V.new 2 rfl (by decide) w_cl_8_2 w_ins_2 w_ini_2 (by decide) (by decide) ?_
  refine V.run 0 1 rfl (by decide) trivial ?_
  refine V.ci (d' := d - 1) (n' := 19) rfl rfl ok_X2_init (Or.inl lk_8_X2_init) rfl (by omega) (by decide) (by decide) (k_X2a (by omega) (fun σ3 f3 g3 => ?_))
  refine V.putRF (lo := 1) (t := 18) rfl rfl rfl rfl rfl rfl rfl rfl (by decide) (by decide) ?_
  refine V.cast (ρ' := R3) rfl ?_
  refine V.run 0 1 rfl (by decide) trivial ?_
  refine V.new 2 rfl (by decide) w_cl_8_2 w_ins_2 w_ini_2 (by decide) (by decide) ?_
  refine V.run 0 1 rfl (by decide) trivial ?_
  refine V.ci (d' := d - 1) (n' := 21) rfl rfl ok_X2_init (Or.inl lk_8_X2_init) rfl (by omega) (by decide) (by decide) (k_X2b (by omega) (fun σ4 f4 g4 => ?_))
  refine V.putRF (lo := 1) (t := 20) rfl rfl rfl rfl rfl rfl rfl rfl (by decide) (by decide) ?_
  refine V.cast (ρ' := R4) rfl ?_
  refine V.run 0 1 rfl (by decide) trivial ?_
  refine V.new 0 rfl (by decide) w_cl_8_0 w_ins_0 w_ini_0 (by decide) (by decide) ?_
  refine V.run 0 1 rfl (by decide) trivial ?_
  refine V.ci (d' := d - 1) (n' := 22) rfl rfl ok_X0_init (Or.inl lk_8_X0_init) rfl (by omega) (by decide) (by decide) (k_X0 (by omega) (fun σ5 f5 g5 => ?_))
  refine V.putRF (lo := 1) (t := 22) rfl rfl rfl rfl rfl rfl rfl rfl (by decide) (by decide) ?_
  refine V.cast (ρ' := R5) rfl ?_
  refine V.run 0 1 rfl (by decide) trivial ?_
  refine V.new 4 rfl (by decide) w_cl_8_4 w_ins_4 w_ini_4 (by decide) (by decide) ?_
  refine V.run 0 1 rfl (by decide) trivial ?_
  refine V.ci (d' := d - 1) (n' := 24) rfl rfl ok_X4_init (Or.inr (List.mem_of_getElem? (i := 1) rfl)) rfl (by omega) (by decide) (by decide) (k_X4 (by omega) (fun σ6 f6 g6 => ?_))
  refine V.putRF (lo := 1) (t := 23) rfl rfl rfl rfl rfl rfl rfl rfl (by decide) (by decide) ?_
  refine V.cast (ρ' := R6) rfl ?_
  refine V.run 0 1 rfl (by decide) trivial ?_
  refine V.new 6 rfl (by decide) w_cl_8_6 w_ins_6 w_ini_6 (by decide) (by decide) ?_
  refine V.run 0 1 rfl (by decide) trivial ?_
  refine V.ci (d' := d - 1) (n' := 26) rfl rfl ok_X6_init (Or.inr (List.mem_of_getElem? (i := 2) rfl)) rfl (by omega) (by decide) (by decide) (k_X6 (by omega) (fun σ7 f7 g7 => ?_))
  refine V.putRF (lo := 1) (t := 25) rfl rfl rfl rfl rfl rfl rfl rfl (by decide) (by decide) ?_
  refine V.cast (ρ' := R7) rfl ?_
  refine V.run 0 1 rfl (by decide) trivial ?_
  refine V.new 1 rfl (by decide) w_cl_8_1 w_ins_1 w_ini_1 (by decide) (by decide) ?_
  refine V.run 0 1 rfl (by decide) trivial ?_
  refine V.ci (d' := d - 1) (n' := 30) rfl rfl ok_X1_init (Or.inl lk_8_X1_init) rfl (by omega) (by decide) (by decide) (k_X1_27 (by omega) (fun σ8 f8 g8 => ?_))
  refine V.putR (lo := 1) (t := 27) rfl rfl rfl rfl rfl rfl (by decide) (by decide) ?_
  refine V.cast (ρ' := R8) rfl ?_
  refine V.run 0 1 rfl (by decide) trivial ?_
  refine V.new 1 rfl (by decide) w_cl_8_1 w_ins_1 w_ini_1 (by decide) (by decide) ?_
  refine V.run 0 1 rfl (by decide) trivial ?_
  refine V.ci (d' := d - 1) (n' := 34) rfl rfl ok_X1_init (Or.inl lk_8_X1_init) rfl (by omega) (by decide) (by decide) (k_X1_31 (by omega) (fun σ9 f9 g9 => ?_))
  refine V.putR (lo := 1) (t := 31) rfl rfl rfl rfl rfl rfl (by decide) (by decide) ?_
  refine V.cast (ρ' := R9) rfl ?_
  refine V.cast R9_eq ?_
  have t8 : Fr (rg 31) σ8 σ9 := (Fr_nw g9 (by decide)).mono (by decide)
  have t7 : Fr (rg 27) σ7 σ9 := ((Fr_nw g8 (by decide)).mono (by decide)).tr (t8.mono (by decide))
  have t6 : Fr (rg 25) σ6 σ9 := ((Fr_nw g7 (by decide)).mono (by decide)).tr (t7.mono (by decide))
  have t5 : Fr (rg 23) σ5 σ9 := ((Fr_nw g6 (by decide)).mono (by decide)).tr (t6.mono (by decide))
  have t4 : Fr (rg 22) σ4 σ9 := ((Fr_nw g5 (by decide)).mono (by decide)).tr (t5.mono (by decide))
  have t3 : Fr (rg 20) σ3 σ9 := ((Fr_nw g4 (by decide)).mono (by decide)).tr (t4.mono (by decide))
  have t2 : Fr (rg 18) σ2 σ9 := ((Fr_nw g3 (by decide)).mono (by decide)).tr (t3.mono (by decide))
  have t1 : Fr (rg 6) σ1 σ9 := ((Fr_nw g2 (by decide)).mono (by decide)).tr (t2.mono (by decide))
  have t0 : Fr (rg 2) σ σ9 := ((Fr_nw g1 (by decide)).mono (by decide)).tr (t1.mono (by decide))
  refine V.ret (v := none) rfl rfl rfl rfl (hQ σ9 ⟨⟨⟨0, [], ⟨by decide, fun x hx => (by cases hx), List.nodup_nil⟩, by decide, ?_, ?_, fun i hi => (by cases hi), fun v hv => ?_, fun v hv => ?_⟩, fun K N hK hN => Or.inl ?_, fun K N hK hN => Or.inl ?_, Or.inl ?_⟩, ⟨⟨by decide, fun x hx => (by cases hx), List.Pairwise.nil⟩, ?_, fun i hi => (by cases hi)⟩, ⟨⟨by decide, fun x hx => (by cases hx), List.Pairwise.nil⟩, ?_, fun i hi => (by cases hi)⟩, ⟨?_, ?_, by decide, by decide⟩, ⟨by decide, ?_, fun i hi => (by cases hi), fun x hx => (by cases hx)⟩, ⟨⟨by decide, by decide, by decide, fun _ => by decide⟩, by decide, ?_, ?_, fun i hi => ?_⟩, ?_, fun i hi => ?_, fun i hi => ?_, fun k h1 h2 => ?_⟩ (t0.mono (by decide)))
  · rw [t1 2 (by decide)]; exact f1.1
  · rw [t1 2 (by decide)]; exact f1.2.1
  · rw [t1 5 (by decide), f1.2.2.2.2, if_neg (by simp)]; rfl
  · rw [t1 4 (by decide), f1.2.2.2.1, wy_nil]; rfl
  · rw [t2 (8 + K) (by rcases (show K = 0 ∨ K = 1 ∨ K = 2 ∨ K = 3 by omega) with rfl | rfl | rfl | rfl <;> decide), (f2.1 K hK).1]; rfl
  · rw [t2 (13 + K) (by rcases (show K = 0 ∨ K = 1 ∨ K = 2 ∨ K = 3 by omega) with rfl | rfl | rfl | rfl <;> decide), (f2.1 K hK).2]; rfl
  · rw [t2 6 (by decide)]; exact f2.2
  · rw [t3 18 (by decide)]; exact f3
  · rw [t4 20 (by decide)]; exact f4
  · rw [t5 22 (by decide)]; exact f5.1
  · rw [t5 22 (by decide)]; exact f5.2
  · rw [t7 25 (by decide)]; exact f7
  · rw [t8 27 (by decide)]; exact f8.1
  · rw [t8 27 (by decide)]; exact f8.2.1
  · rw [show i = 0 by simp at hi; omega, t8 28 (by decide)]; exact f8.2.2.2.1
  · rw [t8 27 (by decide)]; exact f8.2.2.1
  · rw [show i = 0 by simp at hi; omega, t8 29 (by decide)]; exact f8.2.2.2.2.1
  · rw [show i = 0 by simp at hi; omega, t8 30 (by decide)]; exact f8.2.2.2.2.2
  · have : k < 1 := h2
    omega
def iniM (σ : Mem) : Prop := goalsM σ [] ∧ pricesM σ 1 1 ∧ textM σ [] ∧ chainM σ 0 [1]
theorem k_X9 (hd : 2 ≤ d) (hQ : ∀ σ', iniM σ' → Fr (List.range' 35 20) σ σ' → Q none (rho 27 31 0) σ') : Mt M_X9_init d 35 54 [.ref 35] (nwR (rho 27 31 0) 35) (nwS σ 35) Q := by
  refine Mt.of rfl (by decide +kernel) tk_X9_init (Nat.le_of_ble_eq_true rfl) ?_
  refine V.run 0 35 rfl (by decide) trivial ?_
  refine V.obj rfl rfl w_ob_9 w_oi w_oc rfl (by omega) ?_
  refine V.run 0 35 rfl (by decide) trivial ?_
  refine V.newa 1 rfl rfl (by decide) (fun _ => rfl) rfl (fun _ _ h => h) w_ac_int (by decide) (by decide) (by decide) (by decide) ?_
  refine V.putRF (lo := 35) (t := 36) rfl rfl rfl rfl rfl rfl rfl rfl (by decide) (by decide) ?_
  refine V.run 0 35 rfl (by decide) trivial ?_
  refine V.newa 1 rfl rfl (by decide) (fun _ => rfl) rfl (fun _ _ h => h) w_ac_int (by decide) (by decide) (by decide) (by decide) ?_
  refine V.putRF (lo := 35) (t := 37) rfl rfl rfl rfl rfl rfl rfl rfl (by decide) (by decide) ?_
  refine V.run 0 35 rfl (by decide) trivial ?_
  refine V.newa 1 rfl rfl (by decide) (fun _ => rfl) rfl (fun _ _ h => h) w_ac_int (by decide) (by decide) (by decide) (by decide) ?_
  refine V.putRF (lo := 35) (t := 38) rfl rfl rfl rfl rfl rfl rfl rfl (by decide) (by decide) ?_
  refine V.run 0 35 rfl (by decide) trivial ?_
  refine V.newa 1 rfl rfl (by decide) (fun _ => rfl) rfl (fun _ _ h => h) w_ac_int (by decide) (by decide) (by decide) (by decide) ?_
  refine V.putRF (lo := 35) (t := 39) rfl rfl rfl rfl rfl rfl rfl rfl (by decide) (by decide) ?_
  refine V.run 0 35 rfl (by decide) trivial ?_
  refine V.newa 1 rfl rfl (by decide) (fun _ => rfl) rfl (fun _ _ h => h) w_ac_int (by decide) (by decide) (by decide) (by decide) ?_
  refine V.putRF (lo := 35) (t := 40) rfl rfl rfl rfl rfl rfl rfl rfl (by decide) (by decide) ?_
  refine V.run 0 35 rfl (by decide) trivial ?_
  refine V.newa 1 rfl rfl (by decide) (fun _ => rfl) rfl (fun _ _ h => h) w_ac_int (by decide) (by decide) (by decide) (by decide) ?_
  refine V.putRF (lo := 35) (t := 41) rfl rfl rfl rfl rfl rfl rfl rfl (by decide) (by decide) ?_
  refine V.run 0 35 rfl (by decide) trivial ?_
  refine V.newa 1 rfl rfl (by decide) (fun _ => rfl) rfl (fun _ _ h => h) w_ac_int (by decide) (by decide) (by decide) (by decide) ?_
  refine V.putRF (lo := 35) (t := 42) rfl rfl rfl rfl rfl rfl rfl rfl (by decide) (by decide) ?_
  refine V.run 0 35 rfl (by decide) trivial ?_
  refine V.newa 2 rfl rfl (by decide) (fun _ => rfl) rfl (fun _ _ h => h) w_ac_boolean (by decide) (by decide) (by decide) (by decide) ?_
  refine V.putRF (lo := 35) (t := 43) rfl rfl rfl rfl rfl rfl rfl rfl (by decide) (by decide) ?_
  refine V.run 0 35 rfl (by decide) trivial ?_
  refine V.newa 1 rfl rfl (by decide) (fun _ => rfl) rfl (fun _ _ h => h) w_ac_int (by decide) (by decide) (by decide) (by decide) ?_
  refine V.putRF (lo := 35) (t := 44) rfl rfl rfl rfl rfl rfl rfl rfl (by decide) (by decide) ?_
  refine V.run 0 35 rfl (by decide) trivial ?_
  refine V.newa 1 rfl rfl (by decide) (fun _ => rfl) rfl (fun _ _ h => h) w_ac_int (by decide) (by decide) (by decide) (by decide) ?_
  refine V.putRF (lo := 35) (t := 45) rfl rfl rfl rfl rfl rfl rfl rfl (by decide) (by decide) ?_
  refine V.run 0 35 rfl (by decide) trivial ?_
  refine V.newa 1 rfl rfl (by decide) (fun _ => rfl) rfl (fun _ _ h => h) w_ac_int (by decide) (by decide) (by decide) (by decide) ?_
  refine V.putRF (lo := 35) (t := 46) rfl rfl rfl rfl rfl rfl rfl rfl (by decide) (by decide) ?_
  refine V.run 0 35 rfl (by decide) trivial ?_
  refine V.newa 1 rfl rfl (by decide) (fun _ => rfl) rfl (fun _ _ h => h) w_ac_int (by decide) (by decide) (by decide) (by decide) ?_
  refine V.putRF (lo := 35) (t := 47) rfl rfl rfl rfl rfl rfl rfl rfl (by decide) (by decide) ?_
  refine V.run 0 35 rfl (by decide) trivial ?_
  refine V.newa 1 rfl rfl (by decide) (fun _ => rfl) rfl (fun _ _ h => h) w_ac_int (by decide) (by decide) (by decide) (by decide) ?_
  refine V.putRF (lo := 35) (t := 48) rfl rfl rfl rfl rfl rfl rfl rfl (by decide) (by decide) ?_
  refine V.run 0 35 rfl (by decide) trivial ?_
  refine V.newa 1 rfl rfl (by decide) (fun _ => rfl) rfl (fun _ _ h => h) w_ac_int (by decide) (by decide) (by decide) (by decide) ?_
  refine V.putRF (lo := 35) (t := 49) rfl rfl rfl rfl rfl rfl rfl rfl (by decide) (by decide) ?_
  refine V.run 0 35 rfl (by decide) trivial ?_
  refine V.newa 1 rfl rfl (by decide) (fun _ => rfl) rfl (fun _ _ h => h) w_ac_int (by decide) (by decide) (by decide) (by decide) ?_
  refine V.putRF (lo := 35) (t := 50) rfl rfl rfl rfl rfl rfl rfl rfl (by decide) (by decide) ?_
  refine V.run 0 35 rfl (by decide) trivial ?_
  refine V.newa 1 rfl rfl (by decide) (fun _ => rfl) rfl (fun _ _ h => h) w_ac_int (by decide) (by decide) (by decide) (by decide) ?_
  refine V.putRF (lo := 35) (t := 51) rfl rfl rfl rfl rfl rfl rfl rfl (by decide) (by decide) ?_
  refine V.run 0 35 rfl (by decide) trivial ?_
  refine V.newa 1 rfl rfl (by decide) (fun _ => rfl) rfl (fun _ _ h => h) w_ac_int (by decide) (by decide) (by decide) (by decide) ?_
  refine V.putRF (lo := 35) (t := 52) rfl rfl rfl rfl rfl rfl rfl rfl (by decide) (by decide) ?_
  refine V.run 0 35 rfl (by decide) trivial ?_
  refine V.newa 1 rfl rfl (by decide) (fun _ => rfl) rfl (fun _ _ h => h) w_ac_int (by decide) (by decide) (by decide) (by decide) ?_
  refine V.putRF (lo := 35) (t := 53) rfl rfl rfl rfl rfl rfl rfl rfl (by decide) (by decide) ?_
  refine V.run 0 35 rfl (by decide) trivial ?_
  refine V.newa 1 rfl rfl (by decide) (fun _ => rfl) rfl (fun _ _ h => h) w_ac_int (by decide) (by decide) (by decide) (by decide) ?_
  refine V.putRF (lo := 35) (t := 54) rfl rfl rfl rfl rfl rfl rfl rfl (by decide) (by decide) ?_
  refine V.cast (ref_eq (((((((((((((((((((((((((((((((((((((((Sup.rho0.nw.nw).up (by decide) (by decide)).nw).up (by decide) (by decide)).nw).up (by decide) (by decide)).nw).up (by decide) (by decide)).nw).up (by decide) (by decide)).nw).up (by decide) (by decide)).nw).up (by decide) (by decide)).nw).up (by decide) (by decide)).nw).up (by decide) (by decide)).nw).up (by decide) (by decide)).nw).up (by decide) (by decide)).nw).up (by decide) (by decide)).nw).up (by decide) (by decide)).nw).up (by decide) (by decide)).nw).up (by decide) (by decide)).nw).up (by decide) (by decide)).nw).up (by decide) (by decide)).nw).up (by decide) (by decide)).nw).up (by decide) (by decide))) Sup.rho0 (by decide +kernel)) ?_
  refine V.run 0 54 rfl (by decide) ⟨in_N (k := 0) (n := 64) (by omega) (by decide), trivial⟩ ?_
  refine V.ret (v := none) rfl rfl rfl rfl (hQ _ ⟨⟨by decide, rfl, fun i hi => (by cases hi), fun x hx => (by cases hx), List.nodup_nil⟩, ⟨rfl, rfl, by decide, by decide⟩, ⟨by decide, rfl, fun i hi => (by cases hi), fun x hx => (by cases hx)⟩, ⟨rfl, rfl, fun i hi => ?_, ⟨by decide, by decide, fun k hk => ?_, by decide, by decide⟩⟩⟩ (fun a ha => ?_))
  · rw [show i = 0 by simp at hi; omega]; rfl
  · rw [show k = 0 by simp at hk; omega]; exact Or.inl ⟨rfl, rfl⟩
  · have h : ∀ c, 35 ≤ c → c < 55 → a ≠ c := fun c h1 h2 e => ha (by rw [e]; exact List.mem_range'_1.mpr ⟨h1, by omega⟩)
    have e38 : a ≠ rho 27 31 0 35 8 := h 38 (by decide) (by decide)
    rw [up_ne e38]
    simp only [up, nwS]
    rw [if_neg (h _ (by decide) (by decide)), if_neg (h _ (by decide) (by decide)), if_neg (h _ (by decide) (by decide)), if_neg (h _ (by decide) (by decide)), if_neg (h _ (by decide) (by decide)), if_neg (h _ (by decide) (by decide)), if_neg (h _ (by decide) (by decide)), if_neg (h _ (by decide) (by decide)), if_neg (h _ (by decide) (by decide)), if_neg (h _ (by decide) (by decide)), if_neg (h _ (by decide) (by decide)), if_neg (h _ (by decide) (by decide)), if_neg (h _ (by decide) (by decide)), if_neg (h _ (by decide) (by decide)), if_neg (h _ (by decide) (by decide)), if_neg (h _ (by decide) (by decide)), if_neg (h _ (by decide) (by decide)), if_neg (h _ (by decide) (by decide)), if_neg (h _ (by decide) (by decide)), if_neg (h _ (by decide) (by decide)), if_neg (h _ (by decide) (by decide)), if_neg (h _ (by decide) (by decide)), if_neg (h _ (by decide) (by decide))]
end CT2
