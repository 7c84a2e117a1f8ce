/-! ===== prices, pure ===== -/
theorem chs_step {p q N k b : Nat} {r : List Nat} : chs p q N (k + 1) r b = true ↔ ∃ v, candB 0 N r v = true ∧ costV p q r v ≤ b ∧ (v = N ∨ chs p q N k (r ++ [v]) (b - costV p q r v) = true) := by
  conv => lhs; unfold chs
  rw [List.any_eq_true]
  constructor
  · rintro ⟨v, hv, h⟩
    simp only [Bool.and_eq_true, decide_eq_true_eq, Bool.or_eq_true, beq_iff_eq] at h
    exact ⟨v, mem_candL.mp hv, h.1, h.2⟩
  · rintro ⟨v, hv, h1, h2⟩
    refine ⟨v, mem_candL.mpr hv, ?_⟩
    simp only [Bool.and_eq_true, decide_eq_true_eq, Bool.or_eq_true, beq_iff_eq]
    exact ⟨h1, h2⟩
theorem chs_more {p q N : Nat} : ∀ {k b : Nat} {r : List Nat}, chs p q N k r b = true → chs p q N (k + 1) r b = true
  | 0, b, r, h => by cases h
  | k + 1, b, r, h => by
    obtain ⟨v, h1, h2, h3⟩ := chs_step.mp h
    rw [chs_step]
    refine ⟨v, h1, h2, ?_⟩
    rcases h3 with h3 | h3
    · exact Or.inl h3
    · exact Or.inr (chs_more h3)
theorem chs_moreN {p q N k b : Nat} {r : List Nat} (h : chs p q N k r b = true) : ∀ j, chs p q N (k + j) r b = true
  | 0 => h
  | j + 1 => chs_more (chs_moreN h j)
theorem chs_fuel {p q N ch : Nat} (hch : 1 ≤ ch) (hc : ∀ r v, ch ≤ costV p q r v) : ∀ {k b : Nat} {r : List Nat}, chs p q N k r b = true → chs p q N (b / ch) r b = true
  | 0, b, r, h => by cases h
  | k + 1, b, r, h => by
    obtain ⟨v, h1, h2, h3⟩ := chs_step.mp h
    have h4 := hc r v
    have h5 : 1 ≤ b / ch := (Nat.le_div_iff_mul_le (by omega)).mpr (by omega)
    obtain ⟨e, he⟩ : ∃ e, b / ch = e + 1 := ⟨b / ch - 1, by omega⟩
    rw [he, chs_step]
    refine ⟨v, h1, h2, ?_⟩
    rcases h3 with h3 | h3
    · exact Or.inl h3
    · right
      have ih := chs_fuel hch hc h3
      have h6 : (b - costV p q r v) / ch ≤ e := by
        have h7 : (b - costV p q r v) / ch ≤ (b - ch) / ch := Nat.div_le_div_right (by omega)
        have h8 := Nat.div_eq_sub_div (show 0 < ch by omega) (show ch ≤ b by omega)
        omega
      have := chs_moreN ih (e - (b - costV p q r v) / ch)
      rw [show (b - costV p q r v) / ch + (e - (b - costV p q r v) / ch) = e by omega] at this
      exact this
def chkC (p q N : Nat) (r : List Nat) (b : Nat) (vs : List Nat) : Bool := match vs with
  | [] => false
  | v :: vs => candB 0 N r v && (Nat.ble (costV p q r v) b && (Nat.beq v N || chkC p q N (r ++ [v]) (b - costV p q r v) vs))
theorem chkC_ok {p q N : Nat} : ∀ {vs r : List Nat} {b : Nat}, chkC p q N r b vs = true → chs p q N vs.length r b = true
  | [], r, b, h => by cases h
  | v :: vs, r, b, h => by
    unfold chkC at h
    simp only [Bool.and_eq_true, Bool.or_eq_true, Nat.ble_eq, Nat.beq_eq] at h
    rw [List.length_cons, chs_step]
    refine ⟨v, h.1, h.2.1, ?_⟩
    rcases h.2.2 with h3 | h3
    · exact Or.inl h3
    · exact Or.inr (chkC_ok h3)
def mnP (p q : Nat) : Nat := if p < q then p else q
def chW (p q N : Nat) : List Nat := if p ≤ q then binC 9 N else lucT.getD (N - 1) []
def chB : Bool := (List.range 4).all (fun p => (List.range 4).all (fun q => (List.range 39).all (fun i => chkC (p + 1) (q + 1) (i + 2) [1] (25 * mnP (p + 1) (q + 1)) (chW (p + 1) (q + 1) (i + 2)) && Nat.ble (chW (p + 1) (q + 1) (i + 2)).length 39)))
set_option maxRecDepth 100000 in
theorem chB_ok : chB = true := by decide +kernel
def okPr (p q : Nat) : Prop := (1 ≤ p ∧ p ≤ 4) ∧ (1 ≤ q ∧ q ≤ 4)
theorem exC {p q N : Nat} (h : okPr p q) (hN : 2 ≤ N ∧ N ≤ 40) : chs p q N 39 [1] (25 * mnP p q) = true := by
  have hB := chB_ok
  unfold chB at hB
  simp only [List.all_eq_true, List.mem_range, Bool.and_eq_true] at hB
  obtain ⟨h1, h2⟩ := h
  obtain ⟨c1, c2⟩ := hB (p - 1) (by omega) (q - 1) (by omega) (N - 2) (by omega)
  rw [show p - 1 + 1 = p by omega, show q - 1 + 1 = q by omega, show N - 2 + 2 = N by omega] at c1 c2
  have c3 := Nat.le_of_ble_eq_true c2
  have := chs_moreN (chkC_ok c1) (39 - (chW p q N).length)
  rw [show (chW p q N).length + (39 - (chW p q N).length) = 39 by omega] at this
  exact this
theorem mnP_ok {p q : Nat} (h : okPr p q) : 1 ≤ mnP p q ∧ mnP p q ≤ 4 ∧ ∀ r v, mnP p q ≤ costV p q r v := by
  obtain ⟨h1, h2⟩ := h
  refine ⟨?_, ?_, fun r v => (costV_b h1 h2).1⟩
  · unfold mnP; split <;> omega
  · unfold mnP; split <;> omega
def feE (p q N : Nat) : Nat := ((List.range 101).find? (fun k => chs p q N 39 [1] k)).getD 0
def A_chp (p q N : Nat) : Nat := if N = 1 then 0 else feE p q N
theorem feE_ok {p q N : Nat} (h : okPr p q) (hN : 2 ≤ N ∧ N ≤ 40) : chs p q N 25 [1] (feE p q N) = true ∧ feE p q N ≤ 100 ∧ (∀ k, k < feE p q N → chs p q N 39 [1] k = false) ∧ chs p q N 39 [1] (feE p q N) = true := by
  have hm := mnP_ok h
  have h1 := exC h hN
  have hle : feE p q N ≤ 25 * mnP p q ∧ chs p q N 39 [1] (feE p q N) = true ∧ (∀ k, k < feE p q N → chs p q N 39 [1] k = false) := by
    unfold feE
    cases hf : (List.range 101).find? (fun k => chs p q N 39 [1] k) with
    | none =>
      rw [List.find?_eq_none] at hf
      exact absurd h1 (hf (25 * mnP p q) (List.mem_range.mpr (by omega)))
    | some F =>
      rw [List.find?_range_eq_some] at hf
      obtain ⟨f1, f2, f3⟩ := hf
      simp only [Option.getD_some]
      refine ⟨?_, f1, fun k hk => by have := f3 k hk; simpa using this⟩
      rcases Nat.lt_or_ge (25 * mnP p q) F with z | z
      · have := f3 _ z
        rw [h1] at this
        cases this
      · exact z
  obtain ⟨a1, a2, a3⟩ := hle
  refine ⟨?_, by omega, a3, a2⟩
  have h5 := chs_fuel hm.1 hm.2.2 a2
  have h6 : feE p q N / mnP p q ≤ 25 := by
    have : feE p q N / mnP p q ≤ 25 * mnP p q / mnP p q := Nat.div_le_div_right a1
    rw [Nat.mul_div_cancel _ (by omega)] at this
    exact this
  have := chs_moreN h5 (25 - feE p q N / mnP p q)
  rw [show feE p q N / mnP p q + (25 - feE p q N / mnP p q) = 25 by omega] at this
  exact this
theorem A_chp_isE {p q N : Nat} (h : okPr p q) (hN : 1 ≤ N ∧ N ≤ 40) : isE p q N (A_chp p q N) ∧ A_chp p q N ≤ 1000 := by
  unfold A_chp isE
  by_cases e : N = 1
  · rw [if_pos e]
    exact ⟨Or.inl ⟨e, rfl⟩, by omega⟩
  · rw [if_neg e]
    obtain ⟨a1, a2, a3, a4⟩ := feE_ok h (N := N) (by omega)
    exact ⟨Or.inr ⟨by omega, a4, a3⟩, by omega⟩
/-! the ways of a number that is twice another -/
def dR (s : List Nat) (v : Nat) : Nat := match s with
  | [] => 0
  | x :: s => dR s v + (if x + x = v then 1 else 0)
def sR (s : List Nat) (v : Nat) : Nat := match s with
  | [] => 0
  | x :: s => sR s v + (s.map (fun y => if x + y = v then 1 else 0)).sum
theorem ct0 (S : List Nat) (x y v : Nat) : ctB 0 S x y v = if x + y = v then 1 else 0 := by
  unfold ctB
  simp
theorem wyR_ds (v : Nat) : ∀ s : List Nat, wyR 0 s v = dR s v + sR s v
  | [] => rfl
  | x :: s => by
    have ih := wyR_ds v s
    show wyR 0 s v + ctr 0 (x :: s).reverse x (x :: s).reverse v = (dR s v + (if x + x = v then 1 else 0)) + (sR s v + (s.map (fun y => if x + y = v then 1 else 0)).sum)
    unfold ctr
    simp only [ct0]
    rw [List.map_reverse, List.sum_reverse, List.map_cons, List.sum_cons, ih]
    omega
theorem dR_one {v : Nat} : ∀ {s : List Nat}, s.Nodup → dR s v = if v % 2 = 0 ∧ v / 2 ∈ s then 1 else 0
  | [], _ => by simp [dR]
  | x :: s, h => by
    rw [List.nodup_cons] at h
    have ih := dR_one (v := v) h.2
    show dR s v + (if x + x = v then 1 else 0) = _
    rw [ih]
    by_cases e : x + x = v
    · have e1 : v / 2 = x := by omega
      have e2 : v % 2 = 0 := by omega
      rw [if_pos e, e1, if_neg (fun q => h.1 q.2), if_pos ⟨e2, List.mem_cons_self⟩]
    · rw [if_neg e, Nat.add_zero]
      by_cases g : v % 2 = 0 ∧ v / 2 ∈ s
      · rw [if_pos g, if_pos ⟨g.1, List.mem_cons_of_mem _ g.2⟩]
      · rw [if_neg g, if_neg]
        rintro ⟨g1, g2⟩
        rcases List.mem_cons.mp g2 with z | z
        · omega
        · exact g ⟨g1, z⟩
theorem sR_pos {v : Nat} : ∀ {s : List Nat}, 0 < sR s v ↔ ∃ s2 x s1, s = s2 ++ x :: s1 ∧ ∃ y ∈ s1, x + y = v
  | [] => by
    refine ⟨fun h => absurd h (Nat.lt_irrefl 0), ?_⟩
    rintro ⟨s2, x, s1, h, -⟩
    simp at h
  | a :: s => by
    have ih := sR_pos (v := v) (s := s)
    have e : sR (a :: s) v = sR s v + (s.map (fun y => if a + y = v then 1 else 0)).sum := rfl
    rw [e]
    constructor
    · intro h
      rcases Nat.eq_zero_or_pos (sR s v) with z | z
      · apply Classical.byContradiction
        intro hno
        have : (s.map (fun y => if a + y = v then 1 else 0)).sum = 0 := sum_zero.mpr (fun y hy => by
          rw [if_neg]
          intro g
          exact hno ⟨[], a, s, rfl, y, hy, g⟩)
        omega
      · obtain ⟨s2, x, s1, h1, h2⟩ := ih.mp z
        exact ⟨a :: s2, x, s1, by rw [h1]; rfl, h2⟩
    · rintro ⟨s2, x, s1, h1, y, hy, hp⟩
      cases s2 with
      | nil =>
        simp only [List.nil_append, List.cons.injEq] at h1
        obtain ⟨rfl, rfl⟩ := h1
        rcases Nat.eq_zero_or_pos ((s.map (fun y => if a + y = v then 1 else 0)).sum) with z | z
        · have := sum_zero.mp z y hy
          rw [if_pos hp] at this
          cases this
        · omega
      | cons b s2 =>
        simp only [List.cons_append, List.cons.injEq] at h1
        have := ih.mpr ⟨s2, x, s1, h1.2, y, hy, hp⟩
        omega
theorem wy_sm {r : List Nat} {v : Nat} (hnd : r.Nodup) (hb : ∀ x ∈ r, x < v) (ht : twB r v = true) : 1 < wy 0 r v ↔ smB r v = true := by
  unfold twB at ht
  simp only [Bool.and_eq_true, beq_iff_eq, List.contains_eq_mem, decide_eq_true_eq] at ht
  unfold wy
  have hnr : r.reverse.Nodup := List.pairwise_reverse.mpr (List.Pairwise.imp (fun h => Ne.symm h) hnd)
  rw [wyR_ds, dR_one hnr, if_pos ⟨ht.1, List.mem_reverse.mpr ht.2⟩]
  have hsm : smB r v = true ↔ ∃ x ∈ r, 2 * x ≠ v ∧ v - x ∈ r := by
    unfold smB
    simp only [List.any_eq_true, Bool.and_eq_true, bne_iff_ne, List.contains_eq_mem, decide_eq_true_eq]
  rw [hsm]
  have hs := sR_pos (v := v) (s := r.reverse)
  constructor
  · intro h
    obtain ⟨s2, x, s1, h1, y, hy, hxy⟩ := hs.mp (by omega)
    have hx : x ∈ r := List.mem_reverse.mp (by rw [h1]; simp)
    have hyr : y ∈ r := List.mem_reverse.mp (by rw [h1]; simp [hy])
    rw [h1, List.nodup_append] at hnr
    have hne : x ≠ y := fun e => (List.nodup_cons.mp hnr.2.1).1 (by rw [e]; exact hy)
    refine ⟨x, hx, by omega, ?_⟩
    rw [show v - x = y by omega]
    exact hyr
  · rintro ⟨x, hx, h1, h2⟩
    have hxv := hb x hx
    obtain ⟨s2, z, s1, o, q1, q2, q3⟩ := two_split (List.mem_reverse.mpr hx) (List.mem_reverse.mpr h2)
    have := hs.mpr ⟨s2, z, s1, q1, o, by
      rcases List.mem_cons.mp q2 with w | w
      · omega
      · exact w, by omega⟩
    omega
