/-! ===== all rows by so many steps more: how many end with n, the first of them ===== -/
def cnt (kind n most : Nat) (k : Nat) (r : List Nat) : Nat := match k with
  | 0 => if lastD r = n then 1 else 0
  | k + 1 => ((candL kind most r).map (fun v => cnt kind n most k (r ++ [v]))).sum
def fstR (kind n most : Nat) (k : Nat) (r : List Nat) : Option (List Nat) := match k with
  | 0 => if lastD r = n then some r else none
  | k + 1 => (candL kind most r).findSome? (fun v => fstR kind n most k (r ++ [v]))
theorem lastD_app (r : List Nat) (v : Nat) : lastD (r ++ [v]) = v := by simp [lastD]
theorem sum_zero {α : Type} {l : List α} {f : α → Nat} : (l.map f).sum = 0 ↔ ∀ x ∈ l, f x = 0 := by
  induction l with
  | nil => simp
  | cons a l ih => simp [ih]
theorem cnt_fst {kind n most : Nat} : ∀ {k : Nat} {r : List Nat}, cnt kind n most k r = 0 ↔ fstR kind n most k r = none
  | 0, r => by
    unfold cnt fstR
    by_cases h : lastD r = n <;> simp [h]
  | k + 1, r => by
    unfold cnt fstR
    rw [sum_zero, List.findSome?_eq_none_iff]
    constructor
    · exact fun h x hx => cnt_fst.mp (h x hx)
    · exact fun h x hx => cnt_fst.mpr (h x hx)
theorem candB_spec {kind most : Nat} {r : List Nat} {v : Nat} (h : candB kind most r v = true) : lowB kind r ≤ v ∧ v ≤ most ∧ snB kind r v = true ∧ v ∉ r := by
  unfold candB at h
  simp only [Bool.and_eq_true, decide_eq_true_eq, Bool.not_eq_true', List.contains_eq_mem, decide_eq_false_iff_not] at h
  exact ⟨h.1.1.1, h.1.1.2, h.1.2, h.2⟩
theorem snB_le {kind : Nat} {r : List Nat} {v g : Nat} (h : snB kind r v = true) (hg : ∀ x ∈ r, x ≤ g) : v ≤ 2 * g := by
  unfold snB at h
  simp only [List.any_eq_true, Bool.and_eq_true, decide_eq_true_eq] at h
  obtain ⟨x, hx, y, hy, ⟨-, -⟩, h⟩ := h
  have h1 := hg x hx
  have h2 := hg y hy
  unfold mkV2 at h
  simp only [Bool.or_eq_true, Bool.and_eq_true, beq_iff_eq] at h
  rcases h with h | h <;> omega
/-- the number is there already: no row more -/
theorem cnt_mem {kind n most : Nat} : ∀ {k : Nat} {r : List Nat}, n ∈ r → cnt kind n most (k + 1) r = 0
  | 0, r, h => by
    unfold cnt
    rw [sum_zero]
    intro v hv
    unfold cnt
    rw [lastD_app, if_neg]
    rintro rfl
    exact (candB_spec (mem_candL.mp hv)).2.2.2 h
  | k + 1, r, h => by
    unfold cnt
    rw [sum_zero]
    intro v hv
    exact cnt_mem (List.mem_append_left _ h)
/-- too small a row: no row -/
theorem cnt_small {kind n most : Nat} : ∀ {k g : Nat} {r : List Nat}, 0 < r.length → (∀ x ∈ r, x ≤ g) → g * 2 ^ k < n → cnt kind n most k r = 0
  | 0, g, r, hr, hg, h => by
    unfold cnt
    rw [if_neg]
    rw [lastD_eq hr]
    have := hg _ (getD_mem2 (r := r) (i := r.length - 1) (by omega))
    omega
  | k + 1, g, r, hr, hg, h => by
    unfold cnt
    rw [sum_zero]
    intro v hv
    have h1 := candB_spec (mem_candL.mp hv)
    have h2 := snB_le h1.2.2.1 hg
    refine cnt_small (g := 2 * g) (by simp) (fun x hx => ?_) ?_
    · rcases List.mem_append.mp hx with q | q
      · have := hg x q; omega
      · rw [List.mem_singleton] at q; omega
    · rw [Nat.pow_succ] at h
      rw [Nat.mul_comm 2 g, Nat.mul_assoc, Nat.mul_comm 2]
      exact h
theorem told_app {σ : Mem} {r : List Nat} {v : Nat} (h : told σ r) : told (up σ 39 r.length (iZ v)) (r ++ [v]) := by
  intro i hi
  rw [List.length_append, List.length_singleton] at hi
  by_cases e : i = r.length
  · subst e
    rw [up_at]
    simp
  · rw [up_nat e, h i (by omega)]
    congr 2
    rw [List.getD_eq_getElem?_getD, List.getD_eq_getElem?_getD, List.getElem?_append_left (by omega)]
theorem told_sub {σ σ' : Mem} {r : List Nat} (h : told σ r) (hs : ∀ i, i < r.length → σ' 39 i = σ 39 i) : told σ' r := fun i hi => (hs i hi).trans (h i hi)
theorem lZ_shl {a : Int} {k : Nat} (hk : k < 64) : lZ a <<< ((iZ k).toInt64 &&& 63) = lZ (a * 2 ^ k) := by
  have e : ((iZ (k : Int)).toInt64 &&& 63) = lZ k := by
    have h : ∀ k : Nat, k < 64 → ((iZ (k : Int)).toInt64 &&& 63) = lZ k := by decide
    exact h k hk
  rw [e]
  apply Int64.toBitVec.inj
  rw [Int64.toBitVec_shiftLeft]
  have e2 : ((lZ (k : Int)).toBitVec.smod 64).toNat = k := by
    have h : ∀ k : Nat, k < 64 → ((lZ (k : Int)).toBitVec.smod 64).toNat = k := by decide
    exact h k hk
  apply BitVec.eq_of_toNat_eq
  have e3 : ∀ z : Int, (lZ z).toBitVec = BitVec.ofInt 64 z := fun z => rfl
  simp only [BitVec.shiftLeft_eq', BitVec.toNat_shiftLeft, e2, e3, BitVec.toNat_ofInt]
  rw [Nat.shiftLeft_eq]
  have h2 : ((2:Nat) ^ 64 : Nat) = 18446744073709551616 := by decide
  rw [h2]
  have hp : (0 : Int) < 2 ^ k := Int.pow_pos (by decide)
  apply Int.ofNat.inj
  simp only [Int.ofNat_eq_natCast]
  rw [Int.natCast_emod, Int.natCast_mul, Int.natCast_pow]
  have g1 := Int.emod_nonneg a (show ((18446744073709551616:Nat) : Int) ≠ 0 by decide)
  have g2 := Int.emod_nonneg (a * 2 ^ k) (show ((18446744073709551616:Nat) : Int) ≠ 0 by decide)
  rw [Int.toNat_of_nonneg g1, Int.toNat_of_nonneg g2, Int.mul_emod, Int.emod_emod_of_dvd _ (Int.dvd_refl _), ← Int.mul_emod]
  have e4 : ((BitVec.ofInt 64 (k : Int)).smod 64).toNat = k := e2
  rw [e4]
  rfl
