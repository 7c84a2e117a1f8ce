/-! ===== the table of LED ===== -/
def ldWt (a : Nat) : List (List Nat) := match a with
  | 0 => [[], [], [2], [2, 3], [2, 4], [2, 3, 5], [2, 3, 6], [2, 3, 4, 7], [2, 4, 8], [2, 3, 6, 9], [2, 3, 5, 10], [2, 3, 4, 7, 11], [2, 3, 6, 12]]
  | 1 => [[], [14], [14, 15], [14, 15, 16], [2, 15, 17], [2, 14, 4, 18], [2, 15, 4, 19], [2, 14, 3, 17, 20], [2, 4, 17, 21], [2, 14, 4, 18, 22], [2, 15, 4, 19, 23], [2, 14, 3, 5, 19, 24], [2, 3, 6, 19, 25]]
  | 2 => [[26], [26, 27], [14, 28], [14, 15, 29], [14, 15, 30], [14, 15, 16, 31], [14, 15, 16, 32], [14, 15, 16, 17, 33], [2, 15, 17, 34], [2, 15, 17, 18, 35], [2, 14, 4, 18, 36], [2, 14, 3, 17, 20, 37], [2, 15, 4, 19, 38]]
  | 3 => [[26, 39], [26, 39, 40], [14, 27, 41], [14, 28, 42], [14, 15, 28, 43], [14, 15, 29, 44], [14, 15, 30, 45], [14, 15, 16, 30, 46], [14, 15, 16, 31, 47], [14, 15, 16, 32, 48], [2, 15, 17, 32, 49], [14, 15, 16, 17, 33, 50], [2, 15, 17, 34, 51]]
  | 4 => [[26, 52], [26, 27, 53], [26, 27, 54], [26, 27, 28, 55], [14, 28, 56], [14, 28, 29, 57], [14, 15, 29, 58], [14, 15, 29, 30, 59], [14, 15, 30, 60], [14, 15, 30, 31, 61], [14, 15, 16, 31, 62], [14, 15, 16, 31, 32, 63], [14, 15, 16, 32, 64]]
  | 5 => [[26, 39, 65], [26, 39, 40, 66], [26, 27, 40, 67], [14, 27, 41, 68], [14, 28, 41, 69], [14, 28, 42, 70], [14, 15, 28, 43, 71], [14, 15, 29, 43, 72], [14, 15, 29, 44, 73], [14, 15, 30, 44, 74], [14, 15, 30, 45, 75], [14, 15, 16, 30, 46, 76], [14, 15, 16, 31, 46, 77]]
  | 6 => [[26, 39, 78], [26, 39, 40, 79], [26, 39, 40, 80], [26, 27, 54, 81], [14, 27, 41, 82], [26, 27, 28, 55, 83], [14, 28, 42, 84], [14, 28, 29, 56, 85], [14, 15, 28, 43, 86], [14, 15, 29, 58, 87], [14, 15, 29, 44, 88], [14, 15, 29, 30, 59, 89], [14, 15, 30, 45, 90]]
  | 7 => [[26, 39, 52, 91], [26, 39, 52, 53, 92], [26, 39, 40, 53, 93], [26, 27, 40, 54, 94], [14, 27, 41, 54, 95], [14, 27, 41, 55, 96], [14, 28, 41, 56, 97], [14, 28, 42, 56, 98], [14, 15, 27, 42, 57, 99], [14, 15, 28, 43, 57, 100], [14, 15, 28, 43, 58, 101], [14, 15, 29, 44, 58, 102], [14, 15, 29, 44, 59, 103]]
  | 8 => [[26, 52, 104], [26, 52, 53, 105], [26, 27, 53, 106], [26, 27, 40, 67, 107], [26, 27, 54, 108], [26, 27, 54, 55, 109], [26, 27, 28, 55, 110], [26, 27, 28, 55, 56, 111], [14, 28, 56, 112], [14, 28, 56, 57, 113], [14, 28, 29, 57, 114], [14, 15, 29, 43, 72, 115], [14, 15, 29, 58, 116]]
  | 9 => [[26, 39, 78, 117], [26, 39, 40, 78, 118], [26, 39, 40, 79, 119], [26, 39, 40, 80, 120], [26, 27, 54, 67, 121], [14, 27, 54, 68, 122], [14, 27, 41, 82, 123], [14, 27, 28, 55, 69, 124], [14, 28, 56, 69, 125], [14, 28, 42, 84, 126], [14, 15, 28, 56, 71, 127], [14, 28, 29, 57, 71, 128], [14, 15, 28, 43, 86, 129]]
  | 10 => [[26, 39, 65, 130], [26, 39, 65, 66, 131], [26, 39, 40, 66, 132], [26, 27, 53, 80, 133], [26, 27, 40, 67, 134], [26, 27, 54, 81, 135], [14, 27, 41, 68, 136], [26, 27, 28, 55, 82, 137], [14, 28, 41, 69, 138], [26, 27, 28, 56, 83, 139], [14, 28, 42, 70, 140], [14, 28, 29, 56, 85, 141], [14, 15, 28, 43, 71, 142]]
  | 11 => [[26, 39, 52, 91, 143], [26, 39, 52, 53, 91, 144], [26, 39, 52, 53, 92, 145], [26, 39, 40, 53, 93, 146], [26, 27, 39, 54, 93, 147], [26, 27, 40, 54, 94, 148], [14, 27, 41, 54, 95, 149], [14, 27, 41, 68, 82, 150], [14, 27, 41, 55, 96, 151], [14, 28, 41, 69, 83, 152], [14, 28, 41, 56, 97, 153], [14, 28, 42, 56, 98, 154], [14, 15, 28, 42, 70, 85, 155]]
  | 12 => [[26, 39, 78, 156], [26, 39, 78, 79, 157], [26, 39, 40, 79, 158], [26, 27, 53, 106, 159], [26, 39, 40, 80, 160], [26, 39, 40, 80, 81, 161], [26, 27, 54, 81, 162], [26, 27, 54, 55, 108, 163], [14, 27, 41, 82, 164], [26, 27, 28, 55, 110, 165], [26, 27, 28, 55, 83, 166], [26, 27, 28, 55, 56, 111, 167], [14, 28, 42, 84, 168]]
  | _ => []
def ldLt (a : Nat) : List Nat := match a with
  | 0 => [0, 0, 1, 2, 2, 3, 3, 4, 3, 4, 4, 5, 4]
  | 1 => [0, 1, 2, 3, 3, 4, 4, 5, 4, 5, 5, 6, 5]
  | 2 => [1, 2, 2, 3, 3, 4, 4, 5, 4, 5, 5, 6, 5]
  | 3 => [2, 3, 3, 3, 4, 4, 4, 5, 5, 5, 5, 6, 5]
  | 4 => [2, 3, 3, 4, 3, 4, 4, 5, 4, 5, 5, 6, 5]
  | 5 => [3, 4, 4, 4, 4, 4, 5, 5, 5, 5, 5, 6, 6]
  | 6 => [3, 4, 4, 4, 4, 5, 4, 5, 5, 5, 5, 6, 5]
  | 7 => [4, 5, 5, 5, 5, 5, 5, 5, 6, 6, 6, 6, 6]
  | 8 => [3, 4, 4, 5, 4, 5, 5, 6, 4, 5, 5, 6, 5]
  | 9 => [4, 5, 5, 5, 5, 5, 5, 6, 5, 5, 6, 6, 6]
  | 10 => [4, 5, 5, 5, 5, 5, 5, 6, 5, 6, 5, 6, 6]
  | 11 => [5, 6, 6, 6, 6, 6, 6, 6, 6, 6, 6, 6, 7]
  | 12 => [4, 5, 5, 5, 5, 6, 5, 6, 5, 6, 6, 7, 5]
  | _ => []
def chkP (a b k : Nat) (r vs : List Nat) : Bool := match vs with
  | [] => false
  | v :: vs => match k with
    | 0 => false
    | k + 1 => (pcL a b r).contains v && (v == 13 * a + b || (decide (0 < k) && decide (a + b ≤ (v / 13 + v % 13) * 2 ^ k) && chkP a b k (r ++ [v]) vs))
theorem chkP_ok {a b : Nat} : ∀ {vs r : List Nat} {k : Nat}, chkP a b k r vs = true → lds a b k r = true
  | [], r, k, h => by simp [chkP] at h
  | v :: vs, r, 0, h => by simp [chkP] at h
  | v :: vs, r, k + 1, h => by
    unfold chkP at h
    rw [Bool.and_eq_true] at h
    rw [lds_eq, List.any_eq_true]
    refine ⟨v, by simpa using h.1, ?_⟩
    have h2 := h.2
    unfold ldT
    simp only [Bool.or_eq_true, Bool.and_eq_true] at h2 ⊢
    rcases h2 with h2 | h2
    · exact Or.inl h2
    · exact Or.inr ⟨h2.1, chkP_ok h2.2⟩
theorem lds_mono {a b : Nat} : ∀ {k : Nat} {r : List Nat}, lds a b k r = true → lds a b (k + 1) r = true
  | 0, r, h => by cases h
  | k + 1, r, h => by
    rw [lds_eq, List.any_eq_true] at h ⊢
    obtain ⟨v, hv, h⟩ := h
    refine ⟨v, hv, ?_⟩
    unfold ldT at h ⊢
    simp only [Bool.or_eq_true, Bool.and_eq_true, decide_eq_true_eq] at h ⊢
    rcases h with h | ⟨⟨h1, h2⟩, h3⟩
    · exact Or.inl h
    · refine Or.inr ⟨⟨by omega, ?_⟩, lds_mono h3⟩
      refine Nat.le_trans h2 (Nat.mul_le_mul_left _ (Nat.pow_le_pow_right (by decide) (by omega)))
theorem lds_le {a b k : Nat} {r : List Nat} (h : lds a b k r = true) : ∀ j, lds a b (k + j) r = true
  | 0 => h
  | j + 1 => lds_mono (lds_le h j)
def ldOk (a b L : Nat) (w : List Nat) : Bool := Nat.ble (a + b) 1 || (Nat.ble 1 L && (Nat.ble L 13 && (chkP a b L [13, 1] w && (Nat.beq (A_led a b) L && !lds a b (L - 1) [13, 1]))))
def ldRow (a : Nat) : Bool := (List.range 13).all (fun b => ldOk a b ((ldLt a).getD b 0) ((ldWt a).getD b []))
set_option maxRecDepth 100000 in
theorem ldRow_0 : ldRow 0 = true := by decide +kernel
set_option maxRecDepth 100000 in
theorem ldRow_1 : ldRow 1 = true := by decide +kernel
set_option maxRecDepth 100000 in
theorem ldRow_2 : ldRow 2 = true := by decide +kernel
set_option maxRecDepth 100000 in
theorem ldRow_3 : ldRow 3 = true := by decide +kernel
set_option maxRecDepth 100000 in
theorem ldRow_4 : ldRow 4 = true := by decide +kernel
set_option maxRecDepth 100000 in
theorem ldRow_5 : ldRow 5 = true := by decide +kernel
set_option maxRecDepth 100000 in
theorem ldRow_6 : ldRow 6 = true := by decide +kernel
set_option maxRecDepth 100000 in
theorem ldRow_7 : ldRow 7 = true := by decide +kernel
set_option maxRecDepth 100000 in
theorem ldRow_8 : ldRow 8 = true := by decide +kernel
set_option maxRecDepth 100000 in
theorem ldRow_9 : ldRow 9 = true := by decide +kernel
set_option maxRecDepth 100000 in
theorem ldRow_10 : ldRow 10 = true := by decide +kernel
set_option maxRecDepth 100000 in
theorem ldRow_11 : ldRow 11 = true := by decide +kernel
set_option maxRecDepth 100000 in
theorem ldRow_12 : ldRow 12 = true := by decide +kernel
theorem A_led_ok {a b : Nat} (ha : a ≤ 12) (hb : b ≤ 12) (h2 : 2 ≤ a + b) : isL a b (A_led a b) ∧ A_led a b ≤ 13 := by
  have key : ldRow a = true := by
    rcases (show a = 0 ∨ a = 1 ∨ a = 2 ∨ a = 3 ∨ a = 4 ∨ a = 5 ∨ a = 6 ∨ a = 7 ∨ a = 8 ∨ a = 9 ∨ a = 10 ∨ a = 11 ∨ a = 12 by omega) with rfl | rfl | rfl | rfl | rfl | rfl | rfl | rfl | rfl | rfl | rfl | rfl | rfl
    · exact ldRow_0
    · exact ldRow_1
    · exact ldRow_2
    · exact ldRow_3
    · exact ldRow_4
    · exact ldRow_5
    · exact ldRow_6
    · exact ldRow_7
    · exact ldRow_8
    · exact ldRow_9
    · exact ldRow_10
    · exact ldRow_11
    · exact ldRow_12
  have h := List.all_eq_true.mp key b (List.mem_range.mpr (by omega))
  generalize (ldLt a).getD b 0 = L at h
  generalize (ldWt a).getD b [] = w at h
  unfold ldOk at h
  simp only [Bool.or_eq_true, Bool.and_eq_true, Nat.ble_eq, Nat.beq_eq, Bool.not_eq_true'] at h
  rcases h with h | ⟨h1, h2, h3, h4, h5⟩
  · omega
  · rw [h4]
    refine ⟨⟨h1, chkP_ok h3, fun k k1 k2 => ?_⟩, h2⟩
    cases hc : lds a b k [13, 1] with
    | false => rfl
    | true =>
      have := lds_le hc (L - 1 - k)
      rw [show k + (L - 1 - k) = L - 1 by omega, h5] at this
      cases this
theorem A_led_one {a b : Nat} (h : a + b = 1) : A_led a b = 0 := by
  rcases (show (a = 0 ∧ b = 1) ∨ (a = 1 ∧ b = 0) by omega) with ⟨rfl, rfl⟩ | ⟨rfl, rfl⟩ <;> decide +kernel
