/-! ===== the two places of a step are one pair: what is counted by them is one number ===== -/
theorem isSX_one {kind : Nat} {r : List Nat} {v b b' : Nat} (h : isSX kind r v b) (h' : isSX kind r v b') : b = b' := by
  rcases h with ⟨e, n⟩ | ⟨a, m⟩
  · rcases h' with ⟨e', n'⟩ | ⟨a', m'⟩
    · rw [e, e']
    · exact absurd a' (n _)
  · rcases h' with ⟨e', n'⟩ | ⟨a', m'⟩
    · exact absurd a (n' _)
    · exact Nat.le_antisymm (m' _ a) (m _ a')
theorem isDX_one {r : List Nat} {v b b' : Nat} (h : isDX r v b) (h' : isDX r v b') : b = b' := by
  rcases h with ⟨e, n⟩ | ⟨a, m⟩
  · rcases h' with ⟨e', n'⟩ | ⟨a', m'⟩
    · rw [e, e']
    · exact absurd a' (n _)
  · rcases h' with ⟨e', n'⟩ | ⟨a', m'⟩
    · exact absurd a (n' _)
    · exact Nat.le_antisymm (m _ a') (m' _ a)
theorem getD_one {r : List Nat} (h : r.Nodup) {i j : Nat} (hi : i < r.length) (hj : j < r.length) (e : r.getD i 0 = r.getD j 0) : i = j := by
  rw [List.getD_eq_getElem?_getD, List.getD_eq_getElem?_getD, List.getElem?_eq_getElem hi, List.getElem?_eq_getElem hj] at e
  exact (List.getElem_inj h).mp e
theorem no_mix {kind : Nat} {r : List Nat} {v i j : Nat} (hr : rowOk kind r) (hi : i < r.length) (hj : j < r.length) (h : okI kind r v i j) (h0 : isSX kind r v 0) : False := by
  have hv := okI_valid hr hi hj h
  have h1 := hr.2.1 _ (getD_mem2 hi)
  have h2 := hr.2.1 _ (getD_mem2 hj)
  rcases h0 with ⟨-, n⟩ | ⟨-, m⟩
  · exact n _ hv
  · have := m _ hv
    omega
theorem pickI_same {kind : Nat} {r : List Nat} {v i j i' j' : Nat} (hr : rowOk kind r) (h1 : pickI kind r v i j) (h2 : pickI kind r v i' j') : (i = i' ∧ j = j') ∨ (i = j' ∧ j = i') := by
  obtain ⟨hi, hj, h1⟩ := h1
  obtain ⟨hi', hj', h2⟩ := h2
  have nd := hr.2.2.1
  rcases h1 with ⟨a, s⟩ | ⟨k2, s, e, g⟩
  · rcases h2 with ⟨a', s'⟩ | ⟨k2', s', e', g'⟩
    · have hm := isSX_one s s'
      have h3 := a.1
      have h4 := a'.1
      by_cases q : r.getD i 0 = r.getD i' 0
      · exact Or.inl ⟨getD_one nd hi hi' q, getD_one nd hj hj' (by omega)⟩
      · exact Or.inr ⟨getD_one nd hi hj' (by omega), getD_one nd hj hi' (by omega)⟩
    · exact absurd s' (fun q => no_mix hr hi hj a q)
  · rcases h2 with ⟨a', s'⟩ | ⟨k2', s', e', g'⟩
    · exact absurd s (fun q => no_mix hr hi' hj' a' q)
    · have hg := isDX_one g g'
      exact Or.inl ⟨getD_one nd hi hi' hg, getD_one nd hj hj' (by omega)⟩
theorem ite_iff {A B : Prop} [Decidable A] [Decidable B] {x y : Nat} (h : A ↔ B) : (if A then x else y) = if B then x else y := by
  by_cases a : A
  · rw [if_pos a, if_pos (h.mp a)]
  · rw [if_neg a, if_neg (fun b => a (h.mpr b))]
theorem uses_same {kind : Nat} {c : List Nat} {pk pk' : Nat → Nat × Nat} (hc : CH kind c) : ∀ (m : Nat), m ≤ c.length → isUse kind c pk m → isUse kind c pk' m → (∀ t, useN pk t m = useN pk' t m) ∧ (∀ t, lastN pk t m = lastN pk' t m) ∧ dblN pk m = dblN pk' m
  | 0, _, _, _ => ⟨fun _ => rfl, fun _ => rfl, rfl⟩
  | m + 1, hm, u1, u2 => by
    obtain ⟨i1, i2, i3⟩ := uses_same hc m (by omega) (fun k a b => u1 k a (by omega)) (fun k a b => u2 k a (by omega))
    unfold useN lastN dblN
    by_cases e : m = 0
    · subst e
      exact ⟨fun _ => rfl, fun t => by simp [lastN], rfl⟩
    · rcases pickI_same (hc.row m (by omega)) (u1 m (by omega) (by omega)) (u2 m (by omega) (by omega)) with ⟨a, b⟩ | ⟨a, b⟩
      · rw [a, b, i3]
        exact ⟨fun t => by rw [i1 t], fun t => by rw [i2 t], rfl⟩
      · rw [a, b, i3]
        refine ⟨fun t => ?_, fun t => ?_, ?_⟩
        · rw [i1 t, if_neg e, if_neg e]
          omega
        · rw [i2 t]
          exact ite_iff (and_congr_right (fun _ => Or.comm))
        · exact congrArg _ (ite_iff (and_congr_right (fun _ => ⟨Eq.symm, Eq.symm⟩)))
