/-! ===== the tree of powers: facts ===== -/
theorem sum1_pre (m : Nat) (p : List Nat) (P : List (List Nat)) (x : Nat) : P <+: sum1 m p P x := by
  unfold sum1
  split
  · exact List.prefix_append _ _
  · exact List.prefix_refl _
theorem fold1_pre (m : Nat) (p : List Nat) : ∀ (xs : List Nat) (P : List (List Nat)), P <+: xs.foldl (sum1 m p) P
  | [], P => List.prefix_refl _
  | x :: xs, P => (sum1_pre m p P x).trans (fold1_pre m p xs _)
theorem sumsP_pre (m : Nat) (P : List (List Nat)) (p : List Nat) : P <+: sumsP m P p := fold1_pre m p _ P
theorem rowP_pre (m : Nat) : ∀ (rs P : List (List Nat)), P <+: rowP m P rs
  | [], P => List.prefix_refl _
  | p :: ps, P => (sumsP_pre m P p).trans (rowP_pre m ps _)
theorem trS_pre1 (m : Nat → Nat) (r : Nat) : (trS m r).1 <+: (trS m (r + 1)).1 := rowP_pre _ _ _
theorem trS_pre (m : Nat → Nat) {r s : Nat} (h : r ≤ s) : (trS m r).1 <+: (trS m s).1 := by
  obtain ⟨k, rfl⟩ : ∃ k, s = r + k := ⟨s - r, by omega⟩
  induction k with
  | zero => exact List.prefix_refl _
  | succ k ih => exact (ih (by omega)).trans (trS_pre1 m (r + k))
/-- a tree -/
def okTr (P : List (List Nat)) : Prop := [1] ∈ P ∧ (∀ p ∈ P, p = [1] ∨ ∃ s q, p = s :: q ∧ q ∈ P ∧ q.headD 0 < s) ∧ (∀ p ∈ P, ∀ q ∈ P, p.headD 0 = q.headD 0 → p = q)
theorem okTr_el {P : List (List Nat)} (h : okTr P) : ∀ (p : List Nat), p ∈ P → ∀ x ∈ p, 1 ≤ x ∧ x ≤ p.headD 0
  | [], hp, x, hx => by cases hx
  | s :: q, hp, x, hx => by
    rcases h.2.1 _ hp with e | ⟨s', q', e, hq, hlt⟩
    · rw [e] at hx ⊢
      rw [List.mem_singleton] at hx
      subst hx
      exact ⟨by omega, Nat.le_refl _⟩
    · cases e
      rcases List.mem_cons.mp hx with e | hx
      · subst e
        exact ⟨by omega, Nat.le_refl _⟩
      · have := okTr_el h q hq x hx
        exact ⟨this.1, by show x ≤ s; omega⟩
theorem okTr_ne {P : List (List Nat)} (h : okTr P) {p : List Nat} (hp : p ∈ P) : p ≠ [] := by
  rcases h.2.1 _ hp with e | ⟨s', q', e, hq, hlt⟩
  · rw [e]; simp
  · rw [e]; simp
theorem okTr_hd {P : List (List Nat)} (h : okTr P) {p : List Nat} (hp : p ∈ P) : 1 ≤ p.headD 0 := by
  rcases p with _ | ⟨s, q⟩
  · exact absurd rfl (okTr_ne h hp)
  · exact (okTr_el h _ hp s List.mem_cons_self).1
theorem hasH_f {P : List (List Nat)} {s : Nat} (h : hasH P s = false) {p : List Nat} (hp : p ∈ P) : p.headD 0 ≠ s := by
  unfold hasH at h
  rw [List.any_eq_false] at h
  have := h p hp
  simpa using this
theorem hasH_t {P : List (List Nat)} {s : Nat} (h : hasH P s = true) : ∃ p ∈ P, p.headD 0 = s := by
  unfold hasH at h
  rw [List.any_eq_true] at h
  obtain ⟨p, h1, h2⟩ := h
  exact ⟨p, h1, by simpa using h2⟩
theorem hasH_of {P : List (List Nat)} {s : Nat} {p : List Nat} (hp : p ∈ P) (e : p.headD 0 = s) : hasH P s = true := by
  unfold hasH
  rw [List.any_eq_true]
  exact ⟨p, hp, by simpa using e⟩
theorem okTr_add {P : List (List Nat)} (h : okTr P) {p : List Nat} (hp : p ∈ P) {s : Nat} (hs : p.headD 0 < s) (hn : hasH P s = false) : okTr (P ++ [s :: p]) := by
  obtain ⟨h1, h2, h3⟩ := h
  refine ⟨List.mem_append_left _ h1, fun q hq => ?_, fun a ha b hb e => ?_⟩
  · rcases List.mem_append.mp hq with hq | hq
    · rcases h2 q hq with e | ⟨s', q', e, hq', hlt⟩
      · exact Or.inl e
      · exact Or.inr ⟨s', q', e, List.mem_append_left _ hq', hlt⟩
    · rw [List.mem_singleton] at hq
      exact Or.inr ⟨s, p, hq, List.mem_append_left _ hp, hs⟩
  · rcases List.mem_append.mp ha with ha | ha <;> rcases List.mem_append.mp hb with hb | hb
    · exact h3 a ha b hb e
    · rw [List.mem_singleton] at hb
      rw [hb] at e
      exact absurd e (hasH_f hn ha)
    · rw [List.mem_singleton] at ha
      rw [ha] at e
      exact absurd e.symm (hasH_f hn hb)
    · rw [List.mem_singleton] at ha hb
      rw [ha, hb]
theorem sum1_ok {m : Nat} {p : List Nat} {P : List (List Nat)} {x : Nat} (h : okTr P) (hp : p ∈ P) (hx : x ∈ p) : okTr (sum1 m p P x) := by
  unfold sum1
  split
  · rename_i hc
    rw [Bool.and_eq_true, Bool.not_eq_true'] at hc
    have := (okTr_el h p hp x hx).1
    exact okTr_add h hp (by omega) hc.2
  · exact h
theorem fold1_ok {m : Nat} {p : List Nat} : ∀ (xs : List Nat) (P : List (List Nat)), okTr P → p ∈ P → (∀ x ∈ xs, x ∈ p) → okTr (xs.foldl (sum1 m p) P)
  | [], P, h, _, _ => h
  | x :: xs, P, h, hp, hx => fold1_ok xs _ (sum1_ok h hp (hx x List.mem_cons_self)) ((sum1_pre m p P x).subset hp) (fun y hy => hx y (List.mem_cons_of_mem _ hy))
theorem sumsP_ok {m : Nat} {p : List Nat} {P : List (List Nat)} (h : okTr P) (hp : p ∈ P) : okTr (sumsP m P p) := fold1_ok _ _ h hp (fun x hx => List.mem_reverse.mp hx)
theorem rowP_ok {m : Nat} : ∀ (rs P : List (List Nat)), okTr P → (∀ p ∈ rs, p ∈ P) → okTr (rowP m P rs)
  | [], P, h, _ => h
  | p :: ps, P, h, hr => rowP_ok ps _ (sumsP_ok h (hr p List.mem_cons_self)) (fun q hq => (sumsP_pre m P p).subset (hr q (List.mem_cons_of_mem _ hq)))
theorem trS_ok (m : Nat → Nat) : ∀ r, okTr (trS m r).1
  | 0 => ⟨by show [1] ∈ [[1]]; simp, fun p hp => Or.inl (List.mem_singleton.mp hp), fun a ha b hb _ => by rw [List.mem_singleton.mp ha, List.mem_singleton.mp hb]⟩
  | r + 1 => rowP_ok _ _ (trS_ok m r) (fun p hp => List.mem_of_mem_drop hp)
theorem trS_fr (m : Nat → Nat) : ∀ r, (trS m r).2 ≤ (trS m r).1.length
  | 0 => Nat.zero_le _
  | r + 1 => (trS_pre1 m r).length_le
def trP (r : Nat) : List (List Nat) := (trS mR r).1
def trC (r : Nat) : List (List Nat) := (trS mC r).1
theorem fl_len : ∀ (R : List (List (List Nat))) (a : Nat), R.foldl (fun a rs => a + rs.length) a = a + R.flatten.length
  | [], a => by simp
  | r :: R, a => by
    rw [List.foldl_cons, fl_len R, List.flatten_cons, List.length_append]
    omega
theorem fl_rev (R : List (List (List Nat))) : R.reverse.flatten.length = R.flatten.length := by
  rw [List.length_flatten, List.length_flatten, List.map_reverse, List.sum_reverse_nat]
theorem fl_mem {R : List (List (List Nat))} {p : List Nat} : p ∈ R.reverse.flatten ↔ p ∈ R.flatten := by
  simp only [List.mem_flatten, List.mem_reverse]
def TrF : Prop := (∀ n, 1 ≤ n → n ≤ 1000 → hasH (trP 13) n = true) ∧ ((trP 13).length ≤ 2000) ∧ (∀ p ∈ trP 13, p.length ≤ 14 ∧ p.headD 0 ≤ 8192) ∧ ((trP 12).length = 970) ∧ (hasH (trP 12) 1000 = true) ∧ (hasH (trP 11) 1000 = false) ∧ ((trC 14).length ≤ 1200) ∧ (∀ p ∈ trC 14, p.length ≤ 14 ∧ p.headD 0 ≤ 4096) ∧ ((trC 12).length = 970) ∧ (hasH (trC 12) 1000 = true) ∧ (hasH (trC 11) 1000 = false) ∧ (trC 14 = trC 13) ∧ (∀ p ∈ trP 13, p.headD 0 ≤ 1000 → p ∈ trC 14)
theorem trFacts : TrF := by
  have h := ckT_ok
  unfold ckT at h
  obtain ⟨sR, R, e1, r1, r2, r3⟩ := trF_ok (m := mR) (k := fun sR R => trF mC 14 0 2 [[1]] [] fun _ C => Nat.beq (sR &&& (2 ^ 1001 - 2)) (2 ^ 1001 - 2) && (ckR R && (ckC C && ckB R C))) 13 0 2 [[1]] [] rfl rfl rfl (fun s => by
    show Nat.testBit (2 ^ 1) s = ([1].headD 0 == s || false)
    rw [Nat.testBit_two_pow, Bool.or_false]
    show decide (1 = s) = (1 == s)
    rw [Bool.eq_iff_iff]
    simp) (fun j hj => by omega)
  rw [e1] at h
  obtain ⟨sC, C, e2, c1, c2, c3⟩ := trF_ok (m := mC) (k := fun _ C => Nat.beq (sR &&& (2 ^ 1001 - 2)) (2 ^ 1001 - 2) && (ckR R && (ckC C && ckB R C))) 14 0 2 [[1]] [] rfl rfl rfl (fun s => by
    show Nat.testBit (2 ^ 1) s = ([1].headD 0 == s || false)
    rw [Nat.testBit_two_pow, Bool.or_false]
    show decide (1 = s) = (1 == s)
    rw [Bool.eq_iff_iff]
    simp) (fun j hj => by omega)
  rw [e2] at h
  rw [Bool.and_eq_true, Bool.and_eq_true, Bool.and_eq_true] at h
  obtain ⟨k1, k2, k3, k4⟩ := h
  have k1 := Nat.eq_of_beq_eq_true k1
  unfold ckR at k2
  unfold ckC at k3
  have k4 := beqLL_eq k4
  simp only [Bool.and_eq_true, Bool.not_eq_true', List.all_eq_true, fl_len, Nat.zero_add] at k2 k3
  obtain ⟨a1, a2, a3, a4, a5⟩ := k2
  obtain ⟨b1, b2, b3, b4, b5, b6⟩ := k3
  have a2 := Nat.eq_of_beq_eq_true a2
  have a3 := Nat.le_of_ble_eq_true a3
  have b2 := Nat.eq_of_beq_eq_true b2
  have b3 := Nat.le_of_ble_eq_true b3
  have p13 : trP 13 = R.reverse.flatten := by
    have := r3 13 (by omega)
    rwa [show 0 + 13 - 13 = 0 by omega, List.drop_zero] at this
  have p12 : trP 12 = (R.drop 1).reverse.flatten := r3 12 (by omega)
  have p11 : trP 11 = (R.drop 2).reverse.flatten := r3 11 (by omega)
  have q14 : trC 14 = C.reverse.flatten := by
    have := c3 14 (by omega)
    rwa [show 0 + 14 - 14 = 0 by omega, List.drop_zero] at this
  have q13 : trC 13 = (C.drop 1).reverse.flatten := c3 13 (by omega)
  have q12 : trC 12 = (C.drop 2).reverse.flatten := c3 12 (by omega)
  have q11 : trC 11 = (C.drop 3).reverse.flatten := c3 11 (by omega)
  have hh : ∀ (X : List (List (List Nat))), hasH X.reverse.flatten 1000 = X.any (fun rs => rs.any (fun p => p.headD 0 == 1000)) := fun X => by
    rw [Bool.eq_iff_iff]
    unfold hasH
    simp only [List.any_eq_true, List.mem_flatten, List.mem_reverse]
    constructor
    · rintro ⟨p, ⟨rs, h1, h2⟩, h3⟩
      exact ⟨rs, h1, p, h2, h3⟩
    · rintro ⟨rs, h1, p, h2, h3⟩
      exact ⟨p, ⟨rs, h1, h2⟩, h3⟩
  refine ⟨fun n h1 h2 => ?_, by rw [p13, fl_rev]; exact a3, fun p hp => ?_, by rw [p12, fl_rev]; exact a2, ?_, by rw [p11, hh]; exact a5, by rw [q14, fl_rev]; exact b3, fun p hp => ?_, by rw [q12, fl_rev]; exact b2, ?_, by rw [q11, hh]; exact b5, ?_, fun p hp hle => ?_⟩
  · have := r1 n
    rw [show trP 13 = (trS mR (0 + 13)).1 from rfl, ← this]
    have e := congrArg (fun x => Nat.testBit x n) k1
    simp only [Nat.testBit_and] at e
    have t : Nat.testBit (2 ^ 1001 - 2) n = true := by
      have e3 : (2 : Nat) ^ 1001 - 2 = (2 ^ 1000 - 1) <<< 1 := by
        rw [Nat.shiftLeft_eq]
        decide +kernel
      rw [e3, Nat.testBit_shiftLeft, Nat.testBit_two_pow_sub_one]
      simp only [ge_iff_le, Bool.and_eq_true, decide_eq_true_eq]
      omega
    rw [t, Bool.and_true] at e
    exact e
  · rw [p13, fl_mem, List.mem_flatten] at hp
    obtain ⟨rs, h1, h2⟩ := hp
    have := a1 rs h1 p h2
    unfold boP at this
    simp only [Bool.and_eq_true] at this
    exact ⟨Nat.le_of_ble_eq_true this.1, Nat.le_of_ble_eq_true this.2.1⟩
  · rw [p12, hh, List.any_eq_true]
    refine ⟨R.getD 1 [], ?_, a4⟩
    rw [List.mem_iff_getElem]
    refine ⟨0, by rw [List.length_drop]; omega, ?_⟩
    rw [List.getElem_drop, List.getD_eq_getElem?_getD, List.getElem?_eq_getElem (by omega)]
    rfl
  · rw [q14, fl_mem, List.mem_flatten] at hp
    obtain ⟨rs, h1, h2⟩ := hp
    have := b1 rs h1 p h2
    unfold boP at this
    simp only [Bool.and_eq_true] at this
    exact ⟨Nat.le_of_ble_eq_true this.1, Nat.le_of_ble_eq_true this.2.1⟩
  · rw [q12, hh, List.any_eq_true]
    refine ⟨C.getD 2 [], ?_, b4⟩
    rw [List.mem_iff_getElem]
    refine ⟨0, by rw [List.length_drop]; omega, ?_⟩
    rw [List.getElem_drop, List.getD_eq_getElem?_getD, List.getElem?_eq_getElem (by omega)]
    rfl
  · rw [q14, q13]
    rcases C with _ | ⟨c, C'⟩
    · rfl
    · have : c = [] := by simpa using b6
      rw [this, List.drop_succ_cons, List.drop_zero, List.reverse_cons, List.flatten_append]
      simp
  · rw [p13, fl_mem] at hp
    have hf : p ∈ R.flatten.filter flP := List.mem_filter.mpr ⟨hp, Nat.ble_eq_true_of_le hle⟩
    rw [k4] at hf
    rw [q14, fl_mem]
    exact (List.mem_filter.mp hf).1
theorem tF_all : ∀ n, 1 ≤ n → n ≤ 1000 → hasH (trP 13) n = true := trFacts.1
theorem tF_len : (trP 13).length ≤ 2000 := trFacts.2.1
theorem tF_bd : ∀ p ∈ trP 13, p.length ≤ 14 ∧ p.headD 0 ≤ 8192 := trFacts.2.2.1
theorem tF_sz : (trP 12).length = 970 := trFacts.2.2.2.1
theorem tF_t12 : hasH (trP 12) 1000 = true := trFacts.2.2.2.2.1
theorem tF_t11 : hasH (trP 11) 1000 = false := trFacts.2.2.2.2.2.1
theorem tF_clen : (trC 14).length ≤ 1200 := trFacts.2.2.2.2.2.2.1
theorem tF_cbd : ∀ p ∈ trC 14, p.length ≤ 14 ∧ p.headD 0 ≤ 4096 := trFacts.2.2.2.2.2.2.2.1
theorem tF_csz : (trC 12).length = 970 := trFacts.2.2.2.2.2.2.2.2.1
theorem tF_c12 : hasH (trC 12) 1000 = true := trFacts.2.2.2.2.2.2.2.2.2.1
theorem tF_c11 : hasH (trC 11) 1000 = false := trFacts.2.2.2.2.2.2.2.2.2.2.1
theorem tF_cend : trC 14 = trC 13 := trFacts.2.2.2.2.2.2.2.2.2.2.2.1
theorem tF_same : ∀ p ∈ trP 13, p.headD 0 ≤ 1000 → p ∈ trC 14 := trFacts.2.2.2.2.2.2.2.2.2.2.2.2
