/-! ===== what comes, by the ways and by the rows ===== -/
def incR (r : List Nat) : Prop := r.Pairwise (· < ·) ∧ ∀ x ∈ r, x ≤ lastD r
theorem incR_one (a : Nat) : incR [a] := ⟨List.pairwise_singleton _ _, fun x hx => by rw [List.mem_singleton] at hx; rw [hx]; exact Nat.le_refl _⟩
theorem incR_app {r : List Nat} {v : Nat} (h : incR r) (hv : lastD r < v) : incR (r ++ [v]) := by
  refine ⟨?_, fun x hx => ?_⟩
  · rw [List.pairwise_append]
    refine ⟨h.1, List.pairwise_singleton _ _, fun a ha b hb => ?_⟩
    rw [List.mem_singleton] at hb
    have := h.2 a ha
    omega
  · rw [lastD_app]
    rcases List.mem_append.mp hx with q | q
    · have := h.2 x q; omega
    · rw [List.mem_singleton] at q; omega
theorem ctB_pos {kind : Nat} {S : List Nat} {x y v : Nat} : 0 < ctB kind S x y v ↔ ((kind ≠ 3 ∨ dif x y = 0 ∨ dif x y ∈ S) ∧ x + y = v) ∨ (kind = 2 ∧ dif x y = v) := by
  unfold ctB
  by_cases h1 : (kind ≠ 3 ∨ dif x y = 0 ∨ dif x y ∈ S) ∧ x + y = v
  · rw [if_pos h1]
    exact ⟨fun _ => Or.inl h1, fun _ => by omega⟩
  · rw [if_neg h1]
    by_cases h2 : kind = 2 ∧ dif x y = v
    · rw [if_pos h2]
      exact ⟨fun _ => Or.inr h2, fun _ => by omega⟩
    · rw [if_neg h2]
      refine ⟨fun h => absurd h (by omega), fun h => ?_⟩
      rcases h with h | h
      · exact absurd h h1
      · exact absurd h h2
theorem ctr_pos {kind : Nat} {S L : List Nat} {x v : Nat} : 0 < ctr kind S x L v ↔ ∃ y ∈ L, 0 < ctB kind S x y v := by
  unfold ctr
  constructor
  · intro h
    apply Classical.byContradiction
    intro hno
    have : (L.map (fun y => ctB kind S x y v)).sum = 0 := sum_zero.mpr (fun y hy => by
      rcases Nat.eq_zero_or_pos (ctB kind S x y v) with q | q
      · exact q
      · exact absurd ⟨y, hy, q⟩ hno)
    omega
  · rintro ⟨y, hy, hp⟩
    rcases Nat.eq_zero_or_pos ((L.map (fun y => ctB kind S x y v)).sum) with q | q
    · have := sum_zero.mp q y hy
      omega
    · exact q
theorem wyR_pos {kind v : Nat} : ∀ {s : List Nat}, 0 < wyR kind s v ↔ ∃ s2 x s1, s = s2 ++ x :: s1 ∧ ∃ y ∈ x :: s1, 0 < ctB kind (x :: s1).reverse x y v
  | [] => by
    refine ⟨fun h => absurd h (Nat.lt_irrefl 0), ?_⟩
    rintro ⟨s2, x, s1, h, -⟩
    simp at h
  | a :: s => by
    have ih := wyR_pos (kind := kind) (v := v) (s := s)
    have e : wyR kind (a :: s) v = wyR kind s v + ctr kind (a :: s).reverse a (a :: s).reverse v := by
      conv => lhs; unfold wyR
    constructor
    · intro h
      rw [e] at h
      rcases Nat.eq_zero_or_pos (wyR kind s v) with q | q
      · rw [q, Nat.zero_add] at h
        obtain ⟨y, hy, hp⟩ := ctr_pos.mp h
        exact ⟨[], a, s, rfl, y, List.mem_reverse.mp hy, hp⟩
      · obtain ⟨s2, x, s1, h1, h2⟩ := ih.mp q
        exact ⟨a :: s2, x, s1, by rw [h1]; rfl, h2⟩
    · rintro ⟨s2, x, s1, h1, y, hy, hp⟩
      rw [e]
      cases s2 with
      | nil =>
        simp only [List.nil_append, List.cons.injEq] at h1
        obtain ⟨rfl, rfl⟩ := h1
        have := ctr_pos.mpr ⟨y, List.mem_reverse.mpr hy, hp⟩
        omega
      | cons b s2 =>
        simp only [List.cons_append, List.cons.injEq] at h1
        have := ih.mpr ⟨s2, x, s1, h1.2, y, hy, hp⟩
        omega
theorem two_split {x y : Nat} : ∀ {s : List Nat}, x ∈ s → y ∈ s → ∃ s2 z s1 o, s = s2 ++ z :: s1 ∧ o ∈ z :: s1 ∧ ((z = x ∧ o = y) ∨ (z = y ∧ o = x))
  | [], h, _ => by cases h
  | a :: s, h1, h2 => by
    by_cases e1 : a = x
    · exact ⟨[], a, s, y, rfl, h2, Or.inl ⟨e1, rfl⟩⟩
    · by_cases e2 : a = y
      · exact ⟨[], a, s, x, rfl, h1, Or.inr ⟨e2, rfl⟩⟩
      · have m1 : x ∈ s := by
          rcases List.mem_cons.mp h1 with q | q
          · exact absurd q.symm e1
          · exact q
        have m2 : y ∈ s := by
          rcases List.mem_cons.mp h2 with q | q
          · exact absurd q.symm e2
          · exact q
        obtain ⟨s2, z, s1, o, q1, q2, q3⟩ := two_split m1 m2
        exact ⟨a :: s2, z, s1, o, by rw [q1]; rfl, q2, q3⟩
theorem dif_comm (x y : Nat) : dif x y = dif y x := by unfold dif; omega
theorem snB_iff2 {kind : Nat} {r : List Nat} {v : Nat} : snB kind r v = true ↔ ∃ x ∈ r, ∃ y ∈ r, x ≤ y ∧ (kind = 1 → x = lastD r ∨ y = lastD r) ∧ (((kind ≠ 3 ∨ x = y ∨ y - x ∈ r) ∧ v = x + y) ∨ (kind = 2 ∧ v = y - x)) := by
  unfold snB mkV2
  simp only [List.any_eq_true, Bool.and_eq_true, decide_eq_true_eq, Bool.or_eq_true, bne_iff_ne, beq_iff_eq, List.contains_eq_mem, ne_eq]
  constructor
  · rintro ⟨x, hx, y, hy, ⟨h1, h2⟩, h3⟩
    refine ⟨x, hx, y, hy, h1, fun hk => ?_, ?_⟩
    · rcases h2 with (h2 | h2) | h2
      · exact absurd hk h2
      · exact Or.inl h2
      · exact Or.inr h2
    · rcases h3 with ⟨h3, h4⟩ | h3
      · refine Or.inl ⟨?_, h4⟩
        rcases h3 with (h3 | h3) | h3
        · exact Or.inl h3
        · exact Or.inr (Or.inl h3)
        · exact Or.inr (Or.inr h3)
      · exact Or.inr h3
  · rintro ⟨x, hx, y, hy, h1, h2, h3⟩
    refine ⟨x, hx, y, hy, ⟨h1, ?_⟩, ?_⟩
    · by_cases hk : kind = 1
      · rcases h2 hk with q | q
        · exact Or.inl (Or.inr q)
        · exact Or.inr q
      · exact Or.inl (Or.inl hk)
    · rcases h3 with ⟨h3, h4⟩ | h3
      · refine Or.inl ⟨?_, h4⟩
        rcases h3 with h3 | h3 | h3
        · exact Or.inl (Or.inl h3)
        · exact Or.inl (Or.inr h3)
        · exact Or.inr h3
      · exact Or.inr h3
theorem wy_sn {kind v : Nat} {r : List Nat} (hk1 : kind ≠ 1) (hb : ∀ x ∈ r, 1 ≤ x) (hi : kind = 3 → r.Pairwise (· < ·)) : 0 < wy kind r v ↔ snB kind r v = true := by
  rw [snB_iff2]
  unfold wy
  rw [wyR_pos]
  constructor
  · rintro ⟨s2, x, s1, hs, y, hy, hp⟩
    have hsub : ∀ u, u ∈ x :: s1 → u ∈ r := fun u hu => List.mem_reverse.mp (by rw [hs]; exact List.mem_append_right _ hu)
    have hx := hsub x List.mem_cons_self
    have hy2 := hsub y hy
    rw [ctB_pos] at hp
    have hS : ∀ u, u ∈ (x :: s1).reverse → u ∈ r := fun u hu => hsub u (List.mem_reverse.mp hu)
    rcases Nat.le_total x y with h | h
    · refine ⟨x, hx, y, hy2, h, fun q => absurd q hk1, ?_⟩
      rcases hp with ⟨p1, p2⟩ | ⟨p1, p2⟩
      · refine Or.inl ⟨?_, p2.symm⟩
        rcases p1 with p1 | p1 | p1
        · exact Or.inl p1
        · exact Or.inr (Or.inl (by unfold dif at p1; omega))
        · refine Or.inr (Or.inr ?_)
          have := hS _ p1
          rw [show dif x y = y - x by unfold dif; omega] at this
          exact this
      · exact Or.inr ⟨p1, by unfold dif at p2; omega⟩
    · refine ⟨y, hy2, x, hx, h, fun q => absurd q hk1, ?_⟩
      rcases hp with ⟨p1, p2⟩ | ⟨p1, p2⟩
      · refine Or.inl ⟨?_, by omega⟩
        rcases p1 with p1 | p1 | p1
        · exact Or.inl p1
        · exact Or.inr (Or.inl (by unfold dif at p1; omega))
        · refine Or.inr (Or.inr ?_)
          have := hS _ p1
          rw [show dif x y = x - y by unfold dif; omega] at this
          exact this
      · exact Or.inr ⟨p1, by unfold dif at p2; omega⟩
  · rintro ⟨x, hx, y, hy, hxy, -, h⟩
    obtain ⟨s2, z, s1, o, hs, ho, hzo⟩ := two_split (List.mem_reverse.mpr hx) (List.mem_reverse.mpr hy)
    refine ⟨s2, z, s1, hs, o, ho, ?_⟩
    rw [ctB_pos]
    have hdz : dif z o = y - x := by
      rcases hzo with ⟨rfl, rfl⟩ | ⟨rfl, rfl⟩ <;> (unfold dif; omega)
    have hsz : z + o = x + y := by
      rcases hzo with ⟨rfl, rfl⟩ | ⟨rfl, rfl⟩ <;> omega
    rw [hdz]
    rcases h with ⟨h, e⟩ | ⟨h, e⟩
    · refine Or.inl ⟨?_, by omega⟩
      rcases h with h | h | h
      · exact Or.inl h
      · exact Or.inr (Or.inl (by omega))
      · by_cases hk3 : kind = 3
        · refine Or.inr ?_
          by_cases hz : y - x = 0
          · exact Or.inl hz
          · refine Or.inr ?_
            have hpw := hi hk3
            have hx1 := hb x hx
            have hr : r = s1.reverse ++ z :: s2.reverse := by
              have := congrArg List.reverse hs
              rw [List.reverse_reverse, List.reverse_append, List.reverse_cons, List.append_assoc] at this
              exact this
            rw [List.mem_reverse]
            rw [hr, List.mem_append] at h
            rcases h with h | h
            · exact List.mem_cons_of_mem _ (List.mem_reverse.mp h)
            · rcases List.mem_cons.mp h with q | q
              · rw [q]; exact List.mem_cons_self
              · rw [hr, List.pairwise_append] at hpw
                have hlt := (List.pairwise_cons.mp hpw.2.1).1 _ q
                rcases hzo with ⟨rfl, rfl⟩ | ⟨rfl, rfl⟩
                · -- z = x, o = y is ahead of x
                  rcases List.mem_cons.mp ho with q2 | q2
                  · omega
                  · have := hpw.2.2 _ (List.mem_reverse.mpr q2) _ List.mem_cons_self
                    omega
                · omega
        · exact Or.inl hk3
    · exact Or.inr ⟨h, by omega⟩
theorem cm_cand {kind most v : Nat} {r : List Nat} (hr : 0 < r.length) (hb : ∀ x ∈ r, 1 ≤ x) (hi : kind ≠ 2 → incR r) (hlo : lowB kind r ≤ v) (hm : v ≤ most) : cmP kind r v ↔ candB kind most r v = true := by
  have hc : candB kind most r v = true ↔ snB kind r v = true ∧ v ∉ r := by
    unfold candB
    simp only [Bool.and_eq_true, decide_eq_true_eq, Bool.not_eq_true', List.contains_eq_mem, decide_eq_false_iff_not]
    exact ⟨fun h => ⟨h.1.2, h.2⟩, fun h => ⟨⟨⟨hlo, hm⟩, h.1⟩, h.2⟩⟩
  rw [hc]
  unfold cmP
  by_cases hk1 : kind = 1
  · rw [if_pos hk1]
    subst hk1
    have hinc := hi (by decide)
    have hlo2 : lastD r < v := hlo
    have hlm : lastD r ∈ r := by rw [lastD_eq hr]; exact getD_mem2 (by omega)
    constructor
    · rintro ⟨h1, h2⟩
      refine ⟨snB_iff2.mpr ⟨v - lastD r, h2, lastD r, hlm, hinc.2 _ h2, fun _ => Or.inr rfl, Or.inl ⟨Or.inl (by decide), by omega⟩⟩, fun q => ?_⟩
      have := hinc.2 _ q
      omega
    · rintro ⟨h1, h2⟩
      obtain ⟨x, hx, y, hy, hxy, h3, h4⟩ := snB_iff2.mp h1
      refine ⟨hlo2, ?_⟩
      rcases h4 with ⟨-, h4⟩ | ⟨h4, -⟩
      · rcases h3 rfl with h3 | h3
        · rw [h4, ← h3, Nat.add_sub_cancel_left]; exact hy
        · rw [h4, ← h3, Nat.add_sub_cancel]; exact hx
      · cases h4
  · rw [if_neg hk1, wy_sn hk1 hb (fun h => (hi (by omega)).1)]
theorem le_cand {kind most v N : Nat} {r : List Nat} (hr : 0 < r.length) (hb : ∀ x ∈ r, 1 ≤ x) (hi : kind ≠ 2 → incR r) (hlv : kind ≠ 2 → lastD r < v) (hv1 : 1 ≤ v) (hvr : v ∉ r) (hN : 1 ≤ N ∧ N ≤ most) (hNv : N ≠ v) (hvN : kind ≠ 2 → v < N) (hNr : N ∉ r) (hno : candB kind most r N = false) : leP kind r v N ↔ candB kind most (r ++ [v]) N = true := by
  have hlow : lowB kind (r ++ [v]) ≤ N := by
    unfold lowB
    rw [lastD_app]
    split
    · omega
    · rename_i h
      exact hvN h
  have hNr2 : N ∉ r ++ [v] := fun q => by
    rcases List.mem_append.mp q with q | q
    · exact hNr q
    · rw [List.mem_singleton] at q; exact hNv q
  have hc : candB kind most (r ++ [v]) N = true ↔ snB kind (r ++ [v]) N = true := by
    unfold candB
    simp only [Bool.and_eq_true, decide_eq_true_eq, Bool.not_eq_true', List.contains_eq_mem, decide_eq_false_iff_not]
    exact ⟨fun h => h.1.2, fun h => ⟨⟨⟨hlow, hN.2⟩, h⟩, hNr2⟩⟩
  have hno2 : snB kind r N ≠ true := fun h => by
    have : candB kind most r N = true := by
      unfold candB
      simp only [Bool.and_eq_true, decide_eq_true_eq, Bool.not_eq_true', List.contains_eq_mem, decide_eq_false_iff_not]
      refine ⟨⟨⟨?_, hN.2⟩, h⟩, hNr⟩
      unfold lowB
      split
      · exact hN.1
      · rename_i q
        have := hvN q
        have := hlv q
        omega
    rw [hno] at this
    cases this
  have hvm : v ∈ r ++ [v] := by simp
  have hsub : ∀ {u}, u ∈ r → u ∈ r ++ [v] := fun hu => List.mem_append_left _ hu
  rw [hc, snB_iff2, lastD_app]
  constructor
  · rintro (h | ⟨h1, h⟩ | ⟨h1, h2, h3, h4⟩)
    · exact ⟨v, hvm, v, hvm, Nat.le_refl _, fun _ => Or.inl rfl, Or.inl ⟨Or.inr (Or.inl rfl), by omega⟩⟩
    · rcases h with h | h
      · by_cases q : N < v
        · refine ⟨dif N v, hsub h, v, hvm, by unfold dif; omega, fun e => absurd (h1.symm.trans e) (by decide), Or.inr ⟨h1, by unfold dif; omega⟩⟩
        · have e : N = v + dif N v := by unfold dif; omega
          rcases Nat.le_total v (dif N v) with g | g
          · exact ⟨v, hvm, dif N v, hsub h, g, fun _ => Or.inl rfl, Or.inl ⟨Or.inl (by omega), e⟩⟩
          · exact ⟨dif N v, hsub h, v, hvm, g, fun _ => Or.inr rfl, Or.inl ⟨Or.inl (by omega), by omega⟩⟩
      · exact ⟨v, hvm, N + v, hsub h, by omega, fun _ => Or.inl rfl, Or.inr ⟨h1, by omega⟩⟩
    · have := (hi h1).2 _ h3
      have := hlv h1
      refine ⟨N - v, hsub h3, v, hvm, by omega, fun _ => Or.inr rfl, Or.inl ⟨?_, by omega⟩⟩
      by_cases hk : kind = 3
      · exact Or.inr (Or.inr (hsub (h4 hk).2))
      · exact Or.inl hk
  · rintro ⟨x, hx, y, hy, hxy, h1, h2⟩
    have hx1 : 1 ≤ x := by
      rcases List.mem_append.mp hx with q | q
      · exact hb x q
      · rw [List.mem_singleton] at q; omega
    by_cases ey : y = v
    · subst ey
      by_cases ex : x = y
      · subst ex
        rcases h2 with ⟨-, h2⟩ | ⟨-, h2⟩
        · exact Or.inl (by omega)
        · omega
      · have hxr : x ∈ r := by
          rcases List.mem_append.mp hx with q | q
          · exact q
          · rw [List.mem_singleton] at q; exact absurd q ex
        by_cases hk2 : kind = 2
        · refine Or.inr (Or.inl ⟨hk2, Or.inl ?_⟩)
          have : dif N y = x := by
            unfold dif
            rcases h2 with ⟨-, h2⟩ | ⟨-, h2⟩ <;> omega
          rw [this]
          exact hxr
        · rcases h2 with ⟨h3, h2⟩ | ⟨h2, -⟩
          · refine Or.inr (Or.inr ⟨hk2, by omega, by rw [show N - y = x by omega]; exact hxr, fun hk => ?_⟩)
            rw [show N - y = x by omega]
            refine ⟨hxy, ?_⟩
            rcases h3 with h3 | h3 | h3
            · exact absurd hk h3
            · exact absurd h3 ex
            · rcases List.mem_append.mp h3 with q | q
              · exact q
              · rw [List.mem_singleton] at q; omega
          · exact absurd h2 hk2
    · have hyr : y ∈ r := by
        rcases List.mem_append.mp hy with q | q
        · exact q
        · rw [List.mem_singleton] at q; exact absurd q ey
      by_cases ex : x = v
      · subst ex
        by_cases hk2 : kind = 2
        · refine Or.inr (Or.inl ⟨hk2, ?_⟩)
          rcases h2 with ⟨-, h2⟩ | ⟨-, h2⟩
          · refine Or.inl ?_
            rw [show dif N x = y by unfold dif; omega]
            exact hyr
          · refine Or.inr ?_
            rw [show N + x = y by omega]
            exact hyr
        · have := (hi hk2).2 _ hyr
          have := hlv hk2
          omega
      · have hxr : x ∈ r := by
          rcases List.mem_append.mp hx with q | q
          · exact q
          · rw [List.mem_singleton] at q; exact absurd q ex
        refine absurd (snB_iff2.mpr ⟨x, hxr, y, hyr, hxy, fun hk => ?_, ?_⟩) hno2
        · rcases h1 hk with q | q
          · exact absurd q ex
          · exact absurd q ey
        · rcases h2 with ⟨h3, h2⟩ | h2
          · refine Or.inl ⟨?_, h2⟩
            rcases h3 with h3 | h3 | h3
            · exact Or.inl h3
            · exact Or.inr (Or.inl h3)
            · by_cases hk2 : kind = 2
              · exact Or.inl (by omega)
              · have := (hi hk2).2 _ hyr
                have := hlv hk2
                rcases List.mem_append.mp h3 with q | q
                · exact Or.inr (Or.inr q)
                · rw [List.mem_singleton] at q; omega
          · exact Or.inr h2
