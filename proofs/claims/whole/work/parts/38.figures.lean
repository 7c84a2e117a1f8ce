/-! ===== the reference: figures ===== -/
def dbG (t v : Nat) (L : List Nat) : List Nat := match t with
  | 0 => L
  | t + 1 => dbG t (2 * v) (goL L (2 * v))
def fgL (N w k : Nat) (L : List Nat) : List Nat := match k with
  | 0 => L
  | k + 1 => fgL N w k (if N / 2 ^ (w * k) % 2 ^ w = 0 then dbG w (N / 2 ^ (w * (k + 1))) L else goL (dbG w (N / 2 ^ (w * (k + 1))) L) (N / 2 ^ (w * k)))
def bsL (m : Nat) : List Nat := (List.range m).map (fun i => i + 1)
def riseL (L : List Nat) : Prop := ∀ i, i + 1 < L.length → L.getD i 0 < L.getD (i + 1) 0
def mnF (N w : Nat) : Nat := ((List.range 12).find? (fun k => decide (1 ≤ k) && decide (N / 2 ^ (w * k) = 0))).getD 0
def fgI (w v : Nat) (L : List Nat) : Prop := riseL L ∧ 0 < L.length ∧ ((L = bsL (2 ^ w - 1) ∧ 1 ≤ v ∧ v < 2 ^ w) ∨ v = lastD L) ∧ 1 ≤ v
theorem rise_le {L : List Nat} (h : riseL L) : ∀ {j i : Nat}, i ≤ j → j < L.length → L.getD i 0 ≤ L.getD j 0
  | 0, i, h1, _ => by rw [show i = 0 by omega]; exact Nat.le_refl _
  | j + 1, i, h1, h2 => by
    by_cases e : i = j + 1
    · rw [e]; exact Nat.le_refl _
    · have h3 := rise_le h (j := j) (i := i) (by omega) (by omega)
      have h4 := h j h2
      omega
theorem rise_app {L : List Nat} {v : Nat} (h : riseL L) (hl : 0 < L.length) (hv : lastD L < v) : riseL (L ++ [v]) := by
  intro i hi
  rw [List.length_append, List.length_singleton] at hi
  have g : ∀ k, k < L.length → (L ++ [v]).getD k 0 = L.getD k 0 := fun k hk => by
    rw [List.getD_eq_getElem?_getD, List.getD_eq_getElem?_getD, List.getElem?_append_left hk]
  by_cases e : i + 1 = L.length
  · rw [g i (by omega), e]
    have e2 : (L ++ [v]).getD L.length 0 = v := by
      rw [List.getD_eq_getElem?_getD, List.getElem?_append_right (Nat.le_refl _)]
      simp
    rw [e2]
    rw [lastD_eq hl, show L.length - 1 = i by omega] at hv
    exact hv
  · rw [g i (by omega), g (i + 1) (by omega)]
    exact h i (by omega)
theorem goL_new {L : List Nat} {v : Nat} (h : riseL L) (hl : 0 < L.length) (hv : lastD L < v) : goL L v = L ++ [v] := by
  unfold goL
  rw [if_neg]
  intro q
  obtain ⟨i, hi, e⟩ := mem_getD q
  have := rise_le h (j := L.length - 1) (i := i) (by omega) (by omega)
  rw [← lastD_eq hl] at this
  omega
theorem bsL_len (m : Nat) : (bsL m).length = m := by simp [bsL]
theorem bsL_get {m i : Nat} (h : i < m) : (bsL m).getD i 0 = i + 1 := by
  unfold bsL
  rw [List.getD_eq_getElem?_getD, List.getElem?_map, List.getElem?_range h]
  rfl
theorem bsL_mem {m v : Nat} : v ∈ bsL m ↔ 1 ≤ v ∧ v ≤ m := by
  constructor
  · intro h
    obtain ⟨i, hi, e⟩ := mem_getD h
    rw [bsL_len] at hi
    rw [bsL_get hi] at e
    omega
  · intro h
    have := getD_mem2 (r := bsL m) (i := v - 1) (by rw [bsL_len]; omega)
    rw [bsL_get (by omega), Nat.sub_add_cancel h.1] at this
    exact this
theorem bsL_rise (m : Nat) : riseL (bsL m) := by
  intro i hi
  rw [bsL_len] at hi
  rw [bsL_get (by omega), bsL_get (by omega)]
  omega
theorem bsL_last {m : Nat} (h : 1 ≤ m) : lastD (bsL m) = m := by
  rw [lastD_eq (by rw [bsL_len]; exact h), bsL_len, bsL_get (by omega)]
  omega
theorem bsL_succ (m : Nat) : bsL (m + 1) = bsL m ++ [m + 1] := by
  unfold bsL
  rw [List.range_succ, List.map_append]
  rfl
theorem fgI_dbl {w v : Nat} {L : List Nat} (hw : 1 ≤ w) (h : fgI w v L) : fgI w (2 * v) (goL L (2 * v)) := by
  obtain ⟨h1, h2, h3, h4⟩ := h
  have hp : 2 ≤ 2 ^ w := by
    have : 2 ^ 1 ≤ 2 ^ w := Nat.pow_le_pow_right (by decide) hw
    simpa using this
  have new : lastD L < 2 * v → fgI w (2 * v) (goL L (2 * v)) := by
    intro hlt
    rw [goL_new h1 h2 hlt]
    exact ⟨rise_app h1 h2 hlt, by simp, Or.inr (lastD_app L _).symm, by omega⟩
  rcases h3 with ⟨e1, e2, e3⟩ | e1
  · by_cases hq : 2 * v < 2 ^ w
    · have hm : goL L (2 * v) = L := by
        unfold goL
        rw [if_pos]
        rw [e1, bsL_mem]
        omega
      rw [hm]
      exact ⟨h1, h2, Or.inl ⟨e1, by omega, hq⟩, by omega⟩
    · refine new ?_
      rw [e1, bsL_last (by omega)]
      omega
  · exact new (by omega)
theorem fgI_db {w : Nat} (hw : 1 ≤ w) : ∀ {t v : Nat} {L : List Nat}, fgI w v L → fgI w (2 ^ t * v) (dbG t v L)
  | 0, v, L, h => by rw [Nat.pow_zero, Nat.one_mul]; exact h
  | t + 1, v, L, h => by
    have := fgI_db hw (t := t) (fgI_dbl hw h)
    rw [Nat.pow_succ, Nat.mul_assoc]
    exact this
theorem dbG_len : ∀ (t v : Nat) (L : List Nat), (dbG t v L).length ≤ L.length + t
  | 0, v, L => Nat.le_refl _
  | t + 1, v, L => by
    have h1 := dbG_len t (2 * v) (goL L (2 * v))
    have h2 := (goL_len L (2 * v)).1
    show (dbG t (2 * v) (goL L (2 * v))).length ≤ _
    omega
theorem andW {w x : Nat} (hw : w ≤ 4) (hx : x < 2147483648) : iZ (x : Int) &&& (iZ ((2 : Int) ^ w) - iZ 1) = iZ ((x % 2 ^ w : Nat) : Int) := by
  have key : ∀ (m : Int32) (k : Nat), m.toBitVec.toNat = 2 ^ k - 1 → iZ (x : Int) &&& m = iZ ((x % 2 ^ k : Nat) : Int) := fun m k h => by
    have e := pk_andN (n := x) (by omega) (m := m) k h
    rw [nI_iZ, nI_iZ] at e
    exact e
  rcases (show w = 0 ∨ w = 1 ∨ w = 2 ∨ w = 3 ∨ w = 4 by omega) with rfl | rfl | rfl | rfl | rfl
  · exact key _ 0 (by decide)
  · exact key _ 1 (by decide)
  · exact key _ 2 (by decide)
  · exact key _ 3 (by decide)
  · exact key _ 4 (by decide)
