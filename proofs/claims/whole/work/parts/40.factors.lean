/-! ===== the reference: leastPrime, factors ===== -/
def lpF (f p N : Nat) : Nat := match f with
  | 0 => N
  | f + 1 => if p * p ≤ N then (if N % p = 0 then p else lpF f (p + 1) N) else N
def lpN (N : Nat) : Nat := lpF 400 2 N
def facL (f N t : Nat) (L : List Nat) : List Nat := match f with
  | 0 => L
  | f + 1 => if N ≤ 1 then L else if lpN N = N then goL (facL f (N - 1) t L) (N * t) else facL f (N / lpN N) (t * lpN N) (facL f (lpN N) t L)
theorem lpF_spec {N : Nat} (hN : 2 ≤ N) : ∀ (f p : Nat), 2 ≤ p → lpF f p N = N ∨ (p ≤ lpF f p N ∧ N % lpF f p N = 0 ∧ lpF f p N * lpF f p N ≤ N)
  | 0, p, _ => Or.inl rfl
  | f + 1, p, hp => by
    unfold lpF
    split
    · split
      · rename_i h1 h2
        exact Or.inr ⟨Nat.le_refl _, h2, h1⟩
      · rcases lpF_spec hN f (p + 1) (by omega) with h | ⟨h1, h2, h3⟩
        · exact Or.inl h
        · exact Or.inr ⟨by omega, h2, h3⟩
    · exact Or.inl rfl
theorem lpN_spec {N : Nat} (hN : 2 ≤ N) : lpN N = N ∨ (2 ≤ lpN N ∧ N % lpN N = 0 ∧ lpN N * lpN N ≤ N) := lpF_spec hN 400 2 (by omega)
theorem lpN_even {N : Nat} (hN : 4 ≤ N) (he : N % 2 = 0) : lpN N = 2 := by
  unfold lpN
  show (if 2 * 2 ≤ N then (if N % 2 = 0 then 2 else lpF 399 (2 + 1) N) else N) = 2
  rw [if_pos (by omega), if_pos he]
/-- deep enough -/
def okD (f N : Nat) : Prop := N ≤ 1 ∨ ∃ m, N < 2 ^ m ∧ (2 * m ≤ f ∨ (N % 2 = 0 ∧ 2 * m ≤ f + 1))
theorem okD_pos {f N : Nat} (h : okD f N) (hN : 2 ≤ N) : 1 ≤ f := by
  rcases h with h | ⟨m, h1, h2⟩
  · omega
  · have hm : 2 ≤ m := by
      rcases Nat.lt_or_ge m 2 with q | q
      · have : 2 ^ m ≤ 2 ^ 1 := Nat.pow_le_pow_right (by decide) (by omega)
        rw [Nat.pow_one] at this
        omega
      · exact q
    omega
theorem okD_prime {f N : Nat} (h : okD (f + 1) N) (hN : 2 ≤ N) (hp : lpN N = N) : okD f (N - 1) := by
  rcases Nat.lt_or_ge 2 N with q | q
  · have hodd : N % 2 = 1 := by
      rcases Nat.mod_two_eq_zero_or_one N with e | e
      · have := lpN_even (by omega) e
        omega
      · exact e
    rcases h with h | ⟨m, h1, h2⟩
    · omega
    · exact Or.inr ⟨m, by omega, Or.inr ⟨by omega, by omega⟩⟩
  · exact Or.inl (by omega)
theorem okD_comp {f N : Nat} (h : okD (f + 1) N) (hN : 2 ≤ N) (hp : lpN N ≠ N) : okD f (lpN N) ∧ okD f (N / lpN N) ∧ 2 ≤ lpN N ∧ lpN N * (N / lpN N) = N := by
  rcases lpN_spec hN with e | ⟨p1, p2, p3⟩
  · exact absurd e hp
  · have hmul : lpN N * (N / lpN N) = N := Nat.mul_div_cancel' (Nat.dvd_of_mod_eq_zero p2)
    generalize lpN N = p at *
    generalize N / p = c at *
    have hc2 : p ≤ c := by
      rcases Nat.lt_or_ge c p with q | q
      · have : p * c < p * p := Nat.mul_lt_mul_of_pos_left q (by omega)
        omega
      · exact q
    have hc3 : 2 * c ≤ N := by
      have : 2 * c ≤ p * c := Nat.mul_le_mul_right c p1
      omega
    rcases h with h | ⟨m, h1, h2⟩
    · omega
    · obtain ⟨m', rfl⟩ : ∃ m', m = m' + 1 := by
        rcases Nat.eq_zero_or_pos m with q | q
        · rw [q, Nat.pow_zero] at h1; omega
        · exact ⟨m - 1, by omega⟩
      rw [Nat.pow_succ] at h1
      refine ⟨Or.inr ⟨m', by omega, Or.inl (by omega)⟩, Or.inr ⟨m', by omega, Or.inl (by omega)⟩, p1, hmul⟩
theorem fac_more : ∀ {f N t : Nat} {L : List Nat}, okD f N → facL (f + 1) N t L = facL f N t L
  | 0, N, t, L, h => by
    have hN : N ≤ 1 := by
      rcases Nat.lt_or_ge N 2 with q | q
      · omega
      · have := okD_pos h q
        omega
    show (if N ≤ 1 then L else _) = L
    rw [if_pos hN]
  | f + 1, N, t, L, h => by
    conv => lhs; unfold facL
    conv => rhs; unfold facL
    by_cases h1 : N ≤ 1
    · rw [if_pos h1, if_pos h1]
    · rw [if_neg h1, if_neg h1]
      by_cases h2 : lpN N = N
      · rw [if_pos h2, if_pos h2, fac_more (okD_prime h (by omega) h2)]
      · obtain ⟨o1, o2, -, -⟩ := okD_comp h (by omega) h2
        rw [if_neg h2, if_neg h2, fac_more o1, fac_more o2]
/-- how many numbers come -/
theorem fac_len : ∀ {f N t : Nat} {L : List Nat}, ∃ s, (facL f N t L).length ≤ L.length + s ∧ (1 ≤ N → 2 ^ s ≤ N * N) ∧ (2 ≤ N → N % 2 = 0 → 2 * 2 ^ s ≤ N * N)
  | 0, N, t, L => ⟨0, by show L.length ≤ _; omega, fun h => by rw [Nat.pow_zero]; exact Nat.mul_pos h h, fun h _ => by
      have : 2 * 2 ≤ N * N := Nat.mul_le_mul h h
      rw [Nat.pow_zero]; omega⟩
  | f + 1, N, t, L => by
    unfold facL
    by_cases h1 : N ≤ 1
    · rw [if_pos h1]
      exact ⟨0, by omega, fun h => by rw [Nat.pow_zero]; exact Nat.mul_pos h h, fun h => by omega⟩
    · rw [if_neg h1]
      by_cases h2 : lpN N = N
      · rw [if_pos h2]
        obtain ⟨s, s1, s2, s3⟩ := fac_len (f := f) (N := N - 1) (t := t) (L := L)
        have hg := (goL_len (facL f (N - 1) t L) (N * t)).1
        refine ⟨s + 1, by omega, fun _ => ?_, fun h3 h4 => ?_⟩
        · rw [Nat.pow_succ]
          rcases Nat.lt_or_ge 2 N with q | q
          · have hodd : N % 2 = 1 := by
              rcases Nat.mod_two_eq_zero_or_one N with e | e
              · have := lpN_even (by omega) e
                omega
              · exact e
            have h5 := s3 (by omega) (by omega)
            have h6 : (N - 1) * (N - 1) ≤ N * N := Nat.mul_le_mul (by omega) (by omega)
            omega
          · have e : N = 2 := by omega
            subst e
            have := s2 (by omega)
            omega
        · have e : N = 2 := by
            rcases Nat.lt_or_ge 3 N with q | q
            · have := lpN_even (by omega) h4
              omega
            · omega
          subst e
          have := s2 (by omega)
          rw [Nat.pow_succ]
          omega
      · rw [if_neg h2]
        rcases lpN_spec (N := N) (by omega) with e | ⟨p1, p2, p3⟩
        · exact absurd e h2
        · have hmul : lpN N * (N / lpN N) = N := Nat.mul_div_cancel' (Nat.dvd_of_mod_eq_zero p2)
          have hev : N % 2 = 0 → lpN N = 2 := fun h => lpN_even (by have := Nat.mul_le_mul p1 p1; omega) h
          generalize lpN N = p at *
          generalize N / p = c at *
          have hc1 : 1 ≤ c := by
            rcases Nat.eq_zero_or_pos c with q | q
            · rw [q, Nat.mul_zero] at hmul; omega
            · exact q
          obtain ⟨s, s1, s2, s3⟩ := fac_len (f := f) (N := p) (t := t) (L := L)
          obtain ⟨u, u1, u2, u3⟩ := fac_len (f := f) (N := c) (t := t * p) (L := facL f p t L)
          have hsq : (p * p) * (c * c) = N * N := by
            rw [← hmul]
            rw [Nat.mul_mul_mul_comm]
          refine ⟨s + u, by omega, fun _ => ?_, fun _ h4 => ?_⟩
          · rw [Nat.pow_add, ← hsq]
            exact Nat.mul_le_mul (s2 (by omega)) (u2 hc1)
          · have e := hev h4
            rw [Nat.pow_add, ← hsq, ← Nat.mul_assoc]
            exact Nat.mul_le_mul (s3 (by omega) (by omega)) (u2 hc1)
