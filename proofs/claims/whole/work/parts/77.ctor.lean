/-! ===== the constructors ===== -/
def Sup (ρ : Ref) : Prop := ∀ k j, 60 ≤ k ∨ 32 ≤ j → ρ k j = 0
theorem Sup.rho0 : Sup (rho 27 31 0) := by
  intro k j h
  unfold rho
  by_cases hk : 60 ≤ k
  · rw [List.getD_eq_getElem?_getD (l := rhoL 27 31 0), List.getElem?_eq_none (Nat.le_trans (by decide +kernel) hk)]
    rfl
  · have hall : ∀ k, k < 60 → ((rhoL 27 31 0).getD k []).length ≤ 32 := by decide +kernel
    have := hall k (by omega)
    rw [List.getD_eq_getElem?_getD, List.getElem?_eq_none (by omega)]
    rfl
theorem Sup.nw {ρ : Ref} {a : Nat} (h : Sup ρ) : Sup (nwR ρ a) := by
  intro k j hk
  by_cases e : k = a
  · rw [e, nwR_eq]
  · rw [nwR_ne e]
    exact h k j hk
theorem Sup.up {ρ : Ref} {a i t : Nat} (ha : a < 60) (hi : i < 32) (h : Sup ρ) : Sup (upR ρ a i t) := by
  intro k j hk
  by_cases e : k = a
  · rw [e, upR_eq]
    show (if j = i then t else ρ a j) = 0
    rw [if_neg (by omega)]
    exact h a j (by omega)
  · rw [upR_ne e]
    exact h k j hk
theorem Sup.mu {ρ : Ref} {n : Nat} (hn : n + 5 < 60) (h : Sup ρ) : Sup (muR ρ n) := by
  intro k j hk
  unfold muR
  by_cases e : k = n + 1
  · rw [if_pos e]
    show (if j < 4 then n + 2 + j else 0) = 0
    rw [if_neg (by omega)]
  · rw [if_neg e]
    by_cases e2 : n + 1 < k ∧ k ≤ n + 5
    · rw [if_pos e2]
    · rw [if_neg e2]
      exact h k j hk
theorem ref_eq {ρ ρ' : Ref} (h : Sup ρ) (h' : Sup ρ') (e : ((List.range 60).all fun k => (List.range 32).all fun j => Nat.beq (ρ k j) (ρ' k j)) = true) : ρ = ρ' := by
  funext k j
  by_cases hk : 60 ≤ k ∨ 32 ≤ j
  · rw [h k j hk, h' k j hk]
  · have h1 := List.all_eq_true.mp e k (List.mem_range.mpr (by omega))
    have h2 := List.all_eq_true.mp h1 j (List.mem_range.mpr (by omega))
    exact Nat.eq_of_beq_eq_true h2
def R1 : Ref := nwR (rho 27 31 0) 1
def R2 : Ref := upR R1 1 0 6
def R3 : Ref := upR R2 1 1 18
def R4 : Ref := upR R3 1 2 20
def R5 : Ref := upR R4 1 3 22
def R6 : Ref := upR R5 1 4 23
def R7 : Ref := upR R6 1 5 25
def R8 : Ref := upR R7 1 6 27
def R9 : Ref := upR R8 1 7 31
theorem sR1 : Sup R1 := Sup.rho0.nw
theorem sR2 : Sup R2 := sR1.up (by decide) (by decide)
theorem sR3 : Sup R3 := sR2.up (by decide) (by decide)
theorem sR4 : Sup R4 := sR3.up (by decide) (by decide)
theorem sR5 : Sup R5 := sR4.up (by decide) (by decide)
theorem sR6 : Sup R6 := sR5.up (by decide) (by decide)
theorem sR7 : Sup R7 := sR6.up (by decide) (by decide)
theorem sR8 : Sup R8 := sR7.up (by decide) (by decide)
theorem sR9 : Sup R9 := sR8.up (by decide) (by decide)
theorem R9_eq : R9 = rho 27 31 0 := ref_eq sR9 Sup.rho0 (by decide +kernel)
def zr : Nat → Int32 := fun _ => 0
section CT1
variable {d : Nat} {Q : PQ} {σ : Mem}
theorem k_X7 (hd : 2 ≤ d) (hQ : ∀ σ', (σ' 2 3 = iZ 0 ∧ σ' 2 4 = iZ 0 ∧ σ' 3 = zr ∧ σ' 4 = zr ∧ σ' 5 = zr) → Fr [2, 3, 4, 5] σ σ' → Q none R1 σ') : Mt M_X7_init d 2 5 [.ref 2] (nwR R1 2) σ Q := by
  refine Mt.of rfl (by decide +kernel) tk_X7_init (Nat.le_of_ble_eq_true rfl) ?_
  refine V.run 0 2 rfl (by decide) trivial ?_
  refine V.obj rfl rfl w_ob_7 w_oi w_oc rfl (by omega) ?_
  refine V.run 0 2 rfl (by decide) trivial ?_
  refine V.newa 1 rfl rfl (by decide) (fun _ => rfl) rfl (fun _ _ h => h) w_ac_int (by decide) (by decide) (by decide) (by decide) ?_
  refine V.putRF (lo := 2) (t := 3) rfl rfl rfl rfl rfl rfl rfl rfl (by decide) (by decide) ?_
  refine V.run 0 2 rfl (by decide) trivial ?_
  refine V.newa 1 rfl rfl (by decide) (fun _ => rfl) rfl (fun _ _ h => h) w_ac_int (by decide) (by decide) (by decide) (by decide) ?_
  refine V.putRF (lo := 2) (t := 4) rfl rfl rfl rfl rfl rfl rfl rfl (by decide) (by decide) ?_
  refine V.run 0 2 rfl (by decide) trivial ?_
  refine V.newa 2 rfl rfl (by decide) (fun _ => rfl) rfl (fun _ _ h => h) w_ac_boolean (by decide) (by decide) (by decide) (by decide) ?_
  refine V.putRF (lo := 2) (t := 5) rfl rfl rfl rfl rfl rfl rfl rfl (by decide) (by decide) ?_
  refine V.cast (ref_eq (((((((sR1.nw.nw).up (by decide) (by decide)).nw).up (by decide) (by decide)).nw).up (by decide) (by decide))) sR1 (by decide +kernel)) ?_
  refine V.run 0 2 rfl (by decide) trivial ?_
  refine V.ret (v := none) rfl rfl rfl rfl (hQ _ ⟨rfl, rfl, rfl, rfl, rfl⟩ (fun a ha => ?_))
  simp only [List.mem_cons, List.not_mem_nil, or_false, not_or] at ha
  simp only [up, nwS, muM, ha, if_false]
theorem k_X5 (hd : 2 ≤ d) (hQ : ∀ σ', ((∀ K, K ≤ 3 → σ' (8 + K) = zr ∧ σ' (13 + K) = zr) ∧ σ' 6 5 = iZ (-4)) → Fr [6, 7, 8, 9, 10, 11, 12, 13, 14, 15, 16, 17] σ σ' → Q none R1 σ') : Mt M_X5_init d 6 17 [.ref 6, .ref 2] (nwR R1 6) σ Q := by
  refine Mt.of rfl (by decide +kernel) tk_X5_init (Nat.le_of_ble_eq_true rfl) ?_
  refine V.run 0 6 rfl (by decide) trivial ?_
  refine V.obj rfl rfl w_ob_5 w_oi w_oc rfl (by omega) ?_
  refine V.run 0 6 rfl (by decide) trivial ?_
  refine V.multi rfl rfl w_cl_5_rows (by decide) (fun j hj => by rcases (show j = 0 ∨ j = 1 ∨ j = 2 ∨ j = 3 by omega) with rfl | rfl | rfl | rfl <;> decide) (by decide) (by decide) (by decide) ?_
  refine V.putRF (lo := 6) (t := 7) rfl rfl rfl rfl rfl rfl rfl rfl (by decide) (by decide) ?_
  refine V.run 0 6 rfl (by decide) trivial ?_
  refine V.multi rfl rfl w_cl_5_rows (by decide) (fun j hj => by rcases (show j = 0 ∨ j = 1 ∨ j = 2 ∨ j = 3 by omega) with rfl | rfl | rfl | rfl <;> decide) (by decide) (by decide) (by decide) ?_
  refine V.putRF (lo := 6) (t := 12) rfl rfl rfl rfl rfl rfl rfl rfl (by decide) (by decide) ?_
  refine V.run 0 6 rfl (by decide) trivial ?_
  refine V.newa 1 rfl rfl (by decide) (fun _ => rfl) rfl (fun _ _ h => h) w_ac_int (by decide) (by decide) (by decide) (by decide) ?_
  refine V.putRF (lo := 6) (t := 17) rfl rfl rfl rfl rfl rfl rfl rfl (by decide) (by decide) ?_
  refine V.run 0 6 rfl (by decide) ⟨by decide, trivial⟩ ?_
  refine V.putRF (lo := 6) (t := 2) rfl rfl rfl rfl rfl rfl rfl rfl (by decide) (by decide) ?_
  refine V.cast (ref_eq (((((((((((((sR1.nw).mu (by decide))).up (by decide) (by decide))).mu (by decide))).up (by decide) (by decide)).nw).up (by decide) (by decide))).up (by decide) (by decide))) sR1 (by decide +kernel)) ?_
  refine V.ret (v := none) rfl rfl rfl rfl (hQ _ ⟨fun K hK => by rcases (show K = 0 ∨ K = 1 ∨ K = 2 ∨ K = 3 by omega) with rfl | rfl | rfl | rfl <;> exact ⟨rfl, rfl⟩, rfl⟩ (fun a ha => ?_))
  simp only [List.mem_cons, List.not_mem_nil, or_false, not_or] at ha
  simp only [up, nwS, muM, ha, if_false]
  rw [if_neg (by omega), if_neg (by omega)]
theorem k_X2a (hd : 2 ≤ d) (hQ : ∀ σ', σ' 18 2 = iZ 0 → Fr [18, 19] σ σ' → Q none R2 σ') : Mt M_X2_init d 18 19 [.ref 18, .ref 2] (nwR R2 18) σ Q := by
  refine Mt.of rfl (by decide +kernel) tk_X2_init (Nat.le_of_ble_eq_true rfl) ?_
  refine V.run 0 18 rfl (by decide) trivial ?_
  refine V.obj rfl rfl w_ob_2 w_oi w_oc rfl (by omega) ?_
  refine V.run 0 18 rfl (by decide) trivial ?_
  refine V.newa 1 rfl rfl (by decide) (fun _ => rfl) rfl (fun _ _ h => h) w_ac_int (by decide) (by decide) (by decide) (by decide) ?_
  refine V.putRF (lo := 18) (t := 19) rfl rfl rfl rfl rfl rfl rfl rfl (by decide) (by decide) ?_
  refine V.run 0 18 rfl (by decide) trivial ?_
  refine V.putRF (lo := 18) (t := 2) rfl rfl rfl rfl rfl rfl rfl rfl (by decide) (by decide) ?_
  refine V.cast (ref_eq (((((sR2.nw.nw).up (by decide) (by decide))).up (by decide) (by decide))) sR2 (by decide +kernel)) ?_
  refine V.ret (v := none) rfl rfl rfl rfl (hQ _ rfl (fun a ha => ?_))
  simp only [List.mem_cons, List.not_mem_nil, or_false, not_or] at ha
  simp only [up, nwS, muM, ha, if_false]
theorem k_X2b (hd : 2 ≤ d) (hQ : ∀ σ', σ' 20 2 = iZ 0 → Fr [20, 21] σ σ' → Q none R3 σ') : Mt M_X2_init d 20 21 [.ref 20, .ref 2] (nwR R3 20) σ Q := by
  refine Mt.of rfl (by decide +kernel) tk_X2_init (Nat.le_of_ble_eq_true rfl) ?_
  refine V.run 0 20 rfl (by decide) trivial ?_
  refine V.obj rfl rfl w_ob_2 w_oi w_oc rfl (by omega) ?_
  refine V.run 0 20 rfl (by decide) trivial ?_
  refine V.newa 1 rfl rfl (by decide) (fun _ => rfl) rfl (fun _ _ h => h) w_ac_int (by decide) (by decide) (by decide) (by decide) ?_
  refine V.putRF (lo := 20) (t := 21) rfl rfl rfl rfl rfl rfl rfl rfl (by decide) (by decide) ?_
  refine V.run 0 20 rfl (by decide) trivial ?_
  refine V.putRF (lo := 20) (t := 2) rfl rfl rfl rfl rfl rfl rfl rfl (by decide) (by decide) ?_
  refine V.cast (ref_eq (((((sR3.nw.nw).up (by decide) (by decide))).up (by decide) (by decide))) sR3 (by decide +kernel)) ?_
  refine V.ret (v := none) rfl rfl rfl rfl (hQ _ rfl (fun a ha => ?_))
  simp only [List.mem_cons, List.not_mem_nil, or_false, not_or] at ha
  simp only [up, nwS, muM, ha, if_false]
theorem k_X0 (hd : 2 ≤ d) (hQ : ∀ σ', (σ' 22 1 = iZ 1 ∧ σ' 22 2 = iZ 1) → Fr [22] σ σ' → Q none R4 σ') : Mt M_X0_init d 22 22 [.ref 22, .ref 2] (nwR R4 22) σ Q := by
  refine Mt.of rfl (by decide +kernel) tk_X0_init (Nat.le_of_ble_eq_true rfl) ?_
  refine V.run 0 22 rfl (by decide) trivial ?_
  refine V.obj rfl rfl w_ob_0 w_oi w_oc rfl (by omega) ?_
  refine V.run 0 22 rfl (by decide) trivial ?_
  refine V.putRF (lo := 22) (t := 2) rfl rfl rfl rfl rfl rfl rfl rfl (by decide) (by decide) ?_
  refine V.cast (ref_eq (((sR4.nw).up (by decide) (by decide))) sR4 (by decide +kernel)) ?_
  refine V.ret (v := none) rfl rfl rfl rfl (hQ _ ⟨rfl, rfl⟩ (fun a ha => ?_))
  simp only [List.mem_cons, List.not_mem_nil, or_false, not_or] at ha
  simp only [up, nwS, muM, ha, if_false]
theorem k_X4 (hd : 2 ≤ d) (hQ : ∀ σ', True → Fr [23, 24] σ σ' → Q none R5 σ') : Mt M_X4_init d 23 24 [.ref 23] (nwR R5 23) σ Q := by
  refine Mt.of rfl (by decide +kernel) tk_X4_init (Nat.le_of_ble_eq_true rfl) ?_
  refine V.run 0 23 rfl (by decide) trivial ?_
  refine V.obj rfl rfl w_ob_4 w_oi w_oc rfl (by omega) ?_
  refine V.run 0 23 rfl (by decide) trivial ?_
  refine V.newa 1 rfl rfl (by decide) (fun _ => rfl) rfl (fun _ _ h => h) w_ac_int (by decide) (by decide) (by decide) (by decide) ?_
  refine V.putRF (lo := 23) (t := 24) rfl rfl rfl rfl rfl rfl rfl rfl (by decide) (by decide) ?_
  refine V.run 0 23 rfl (by decide) trivial ?_
  refine V.putR (lo := 23) (t := 0) rfl rfl rfl rfl rfl rfl (by decide) (by decide) ?_
  refine V.cast (ref_eq (((((sR5.nw.nw).up (by decide) (by decide))).up (by decide) (by decide))) sR5 (by decide +kernel)) ?_
  refine V.ret (v := none) rfl rfl rfl rfl (hQ _ trivial (fun a ha => ?_))
  simp only [List.mem_cons, List.not_mem_nil, or_false, not_or] at ha
  simp only [up, nwS, muM, ha, if_false]
theorem k_X6 (hd : 2 ≤ d) (hQ : ∀ σ', σ' 25 1 = iZ 0 → Fr [25, 26] σ σ' → Q none R6 σ') : Mt M_X6_init d 25 26 [.ref 25] (nwR R6 25) σ Q := by
  refine Mt.of rfl (by decide +kernel) tk_X6_init (Nat.le_of_ble_eq_true rfl) ?_
  refine V.run 0 25 rfl (by decide) trivial ?_
  refine V.obj rfl rfl w_ob_6 w_oi w_oc rfl (by omega) ?_
  refine V.run 0 25 rfl (by decide) trivial ?_
  refine V.newa 0 rfl rfl (by decide) (fun _ => rfl) rfl (fun _ _ h => h) w_ac_byte (by decide) (by decide) (by decide) (by decide) ?_
  refine V.putRF (lo := 25) (t := 26) rfl rfl rfl rfl rfl rfl rfl rfl (by decide) (by decide) ?_
  refine V.run 0 25 rfl (by decide) trivial ?_
  refine V.cast (ref_eq (((sR6.nw.nw).up (by decide) (by decide))) sR6 (by decide +kernel)) ?_
  refine V.ret (v := none) rfl rfl rfl rfl (hQ _ rfl (fun a ha => ?_))
  simp only [List.mem_cons, List.not_mem_nil, or_false, not_or] at ha
  simp only [up, nwS, muM, ha, if_false]
end CT1
