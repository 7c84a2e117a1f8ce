/-! ===== several numbers by one row, pure ===== -/
def rc (ws : List Nat) (next k : Nat) (r : List Nat) : Bool := match k with
  | 0 => decide (ws.length ≤ next)
  | k + 1 => decide (ws.length ≤ next) || (candL 0 (ws.getD next 0) r).any (fun v => rc ws (if v = ws.getD next 0 then next + 1 else next) k (r ++ [v]))
theorem rc_done {ws : List Nat} {next k : Nat} {r : List Nat} (h : ws.length ≤ next) : rc ws next k r = true := by
  cases k with
  | zero => unfold rc; exact decide_eq_true h
  | succ k => unfold rc; rw [decide_eq_true h, Bool.true_or]
theorem rc_step {ws : List Nat} {next k : Nat} {r : List Nat} (h : next < ws.length) : rc ws next (k + 1) r = true ↔ ∃ v, candB 0 (ws.getD next 0) r v = true ∧ rc ws (if v = ws.getD next 0 then next + 1 else next) k (r ++ [v]) = true := by
  conv => lhs; unfold rc
  rw [decide_eq_false (by omega), Bool.false_or, List.any_eq_true]
  constructor
  · rintro ⟨v, hv, h2⟩
    exact ⟨v, mem_candL.mp hv, h2⟩
  · rintro ⟨v, hv, h2⟩
    exact ⟨v, mem_candL.mpr hv, h2⟩
theorem rc_many {ws : List Nat} : ∀ {k next : Nat} {r : List Nat}, rc ws next k r = true → ws.length ≤ next + k
  | 0, next, r, h => by
    unfold rc at h
    have := of_decide_eq_true h
    omega
  | k + 1, next, r, h => by
    rcases Nat.lt_or_ge next ws.length with q | q
    · obtain ⟨v, -, h2⟩ := (rc_step q).mp h
      have := rc_many h2
      split at this <;> omega
    · omega
theorem rc_low {ws : List Nat} : ∀ {k next g i : Nat} {r : List Nat}, (∀ x ∈ r, x ≤ g) → rc ws next k r = true → next ≤ i → i < ws.length → ws.getD i 0 ≤ g * 2 ^ (k - (ws.length - 1 - i))
  | 0, next, g, i, r, hg, h, h1, h2 => by
    have := rc_many h
    omega
  | k + 1, next, g, i, r, hg, h, h1, h2 => by
    have hm := rc_many h
    obtain ⟨v, hv, h3⟩ := (rc_step (by omega)).mp h
    have hs := candB_spec hv
    have hv2 := snB_le hs.2.2.1 hg
    have hm2 := rc_many h3
    by_cases hn : (if v = ws.getD next 0 then next + 1 else next) ≤ i
    · have hg2 : ∀ x ∈ r ++ [v], x ≤ 2 * g := fun x hx => by
        rcases List.mem_append.mp hx with q | q
        · have := hg x q; omega
        · rw [List.mem_singleton] at q; omega
      have ih := rc_low hg2 h3 hn h2
      have hk : ws.length - 1 - i ≤ k := by omega
      rw [show k + 1 - (ws.length - 1 - i) = (k - (ws.length - 1 - i)) + 1 by omega, Nat.pow_succ, Nat.mul_comm (2 ^ _) 2, ← Nat.mul_assoc, Nat.mul_comm g 2]
      exact ih
    · have hvg : v = ws.getD next 0 ∧ next = i := by
        split at hn
        · exact ⟨by assumption, by omega⟩
        · omega
      rw [← hvg.2, ← hvg.1]
      have h4 : 1 ≤ k + 1 - (ws.length - 1 - next) := by omega
      have h5 : 2 ^ 1 ≤ 2 ^ (k + 1 - (ws.length - 1 - next)) := Nat.pow_le_pow_right (by decide) h4
      have h6 : g * 2 ^ 1 ≤ g * 2 ^ (k + 1 - (ws.length - 1 - next)) := Nat.mul_le_mul_left _ h5
      omega
/-! the next goal, the greatest -/
theorem ng_spec (v : Nat) : ∀ (gs : List Nat) (b : Nat), (b = 0 ∨ v < b) → (gs.foldl (fun b g => if v < g ∧ (b = 0 ∨ g < b) then g else b) b = 0 → b = 0 ∧ ∀ g ∈ gs, ¬ v < g) ∧ (gs.foldl (fun b g => if v < g ∧ (b = 0 ∨ g < b) then g else b) b ≠ 0 → v < gs.foldl (fun b g => if v < g ∧ (b = 0 ∨ g < b) then g else b) b ∧ (gs.foldl (fun b g => if v < g ∧ (b = 0 ∨ g < b) then g else b) b = b ∨ gs.foldl (fun b g => if v < g ∧ (b = 0 ∨ g < b) then g else b) b ∈ gs) ∧ (b ≠ 0 → gs.foldl (fun b g => if v < g ∧ (b = 0 ∨ g < b) then g else b) b ≤ b) ∧ ∀ g ∈ gs, v < g → gs.foldl (fun b g => if v < g ∧ (b = 0 ∨ g < b) then g else b) b ≤ g)
  | [], b, hb => by
    simp only [List.foldl_nil]
    refine ⟨fun h => ⟨h, fun g hg => by cases hg⟩, fun h => ⟨by omega, Or.inl trivial, fun _ => Nat.le_refl _, fun g hg => by cases hg⟩⟩
  | a :: gs, b, hb => by
    simp only [List.foldl_cons]
    by_cases hc : v < a ∧ (b = 0 ∨ a < b)
    · rw [if_pos hc]
      have ih := ng_spec v gs a (Or.inr hc.1)
      refine ⟨fun h => by have := (ih.1 h).1; omega, fun h => ?_⟩
      obtain ⟨i1, i2, i3, i4⟩ := ih.2 h
      have i3 := i3 (by omega)
      refine ⟨i1, Or.inr ?_, fun hb0 => by omega, fun g hg hvg => ?_⟩
      · rcases i2 with i2 | i2
        · rw [i2]; exact List.mem_cons_self
        · exact List.mem_cons_of_mem _ i2
      · rcases List.mem_cons.mp hg with q | q
        · rw [q]; exact i3
        · exact i4 g q hvg
    · rw [if_neg hc]
      have ih := ng_spec v gs b hb
      refine ⟨fun h => ?_, fun h => ?_⟩
      · obtain ⟨i1, i2⟩ := ih.1 h
        refine ⟨i1, fun g hg => ?_⟩
        rcases List.mem_cons.mp hg with q | q
        · rw [q]; exact fun hva => hc ⟨hva, Or.inl i1⟩
        · exact i2 g q
      · obtain ⟨i1, i2, i3, i4⟩ := ih.2 h
        refine ⟨i1, ?_, i3, fun g hg hvg => ?_⟩
        · rcases i2 with i2 | i2
          · exact Or.inl i2
          · exact Or.inr (List.mem_cons_of_mem _ i2)
        · rcases List.mem_cons.mp hg with q | q
          · rw [q] at hvg ⊢
            have : ¬ (b = 0 ∨ a < b) := fun z => hc ⟨hvg, z⟩
            have := i3 (by omega)
            omega
          · exact i4 g q hvg
theorem ngD_eq {gs : List Nat} {v m : Nat} (hm : m ∈ gs) (hv : v < m) (hl : ∀ g ∈ gs, v < g → m ≤ g) : ngD gs v = m := by
  have h := ng_spec v gs 0 (Or.inl rfl)
  unfold ngD
  by_cases h0 : gs.foldl (fun b g => if v < g ∧ (b = 0 ∨ g < b) then g else b) 0 = 0
  · exact absurd hv ((h.1 h0).2 m hm)
  · obtain ⟨i1, i2, -, i4⟩ := h.2 h0
    have h5 := i4 m hm hv
    rcases i2 with i2 | i2
    · exact absurd i2 h0
    · have := hl _ i2 i1
      omega
theorem mx_spec : ∀ (gs : List Nat) (b : Nat), b ≤ gs.foldl (fun m g => if m < g then g else m) b ∧ (∀ g ∈ gs, g ≤ gs.foldl (fun m g => if m < g then g else m) b) ∧ (gs.foldl (fun m g => if m < g then g else m) b = b ∨ gs.foldl (fun m g => if m < g then g else m) b ∈ gs)
  | [], b => by
    simp only [List.foldl_nil]
    exact ⟨Nat.le_refl _, fun g hg => (by cases hg), Or.inl trivial⟩
  | a :: gs, b => by
    simp only [List.foldl_cons]
    obtain ⟨i1, i2, i3⟩ := mx_spec gs (if b < a then a else b)
    have h1 : b ≤ (if b < a then a else b) ∧ a ≤ (if b < a then a else b) := by split <;> omega
    refine ⟨by omega, fun g hg => ?_, ?_⟩
    · rcases List.mem_cons.mp hg with q | q
      · rw [q]; omega
      · exact i2 g q
    · rcases i3 with i3 | i3
      · rw [i3]
        split
        · exact Or.inr List.mem_cons_self
        · exact Or.inl rfl
      · exact Or.inr (List.mem_cons_of_mem _ i3)
def gsR (gs ws : List Nat) : Prop := (∀ x, x ∈ gs ↔ x ∈ ws) ∧ gs.length = ws.length
def wsO (ws : List Nat) : Prop := ws.length ≤ 4 ∧ (∀ x ∈ ws, 2 ≤ x ∧ x ≤ 60) ∧ ws.Pairwise (· < ·)
theorem pw_get {ws : List Nat} (h : ws.Pairwise (· < ·)) : ∀ {i j : Nat}, i < j → j < ws.length → ws.getD i 0 < ws.getD j 0 := by
  intro i j hij hj
  have := List.pairwise_iff_getElem.mp h i j (by omega) hj hij
  rw [List.getD_eq_getElem?_getD, List.getD_eq_getElem?_getD, List.getElem?_eq_getElem hj, List.getElem?_eq_getElem (by omega)]
  exact this
theorem rch_rc {gs ws : List Nat} (hgw : ∀ x, x ∈ gs ↔ x ∈ ws) (hw : ws.Pairwise (· < ·)) : ∀ {k next : Nat} {r : List Nat}, next < ws.length → (∀ i, i < next → ws.getD i 0 ≤ lastD r) → lastD r < ws.getD next 0 → rch gs k r = rc ws next k r
  | 0, next, r, h1, h2, h3 => by
    show false = decide _
    rw [decide_eq_false (by omega)]
  | k + 1, next, r, h1, h2, h3 => by
    have hng : ngD gs (lastD r) = ws.getD next 0 := by
      refine ngD_eq ((hgw _).mpr (getD_mem2 h1)) h3 (fun g hg hlg => ?_)
      obtain ⟨i, hi, e⟩ := mem_getD ((hgw g).mp hg)
      rw [← e]
      rcases Nat.lt_or_ge i next with q | q
      · have := h2 i q; omega
      · rcases Nat.eq_or_lt_of_le q with q | q
        · rw [q]; exact Nat.le_refl _
        · exact Nat.le_of_lt (pw_get hw q hi)
    have hmx : mxD gs = ws.getD (ws.length - 1) 0 := by
      obtain ⟨-, i2, i3⟩ := mx_spec gs 0
      have hl : ws.getD (ws.length - 1) 0 ∈ ws := getD_mem2 (by omega)
      have h5 := i2 _ ((hgw _).mpr hl)
      rcases i3 with i3 | i3
      · have h6 : ws.getD next 0 ≤ ws.getD (ws.length - 1) 0 := by
          rcases Nat.eq_or_lt_of_le (show next ≤ ws.length - 1 by omega) with q | q
          · rw [q]; exact Nat.le_refl _
          · exact Nat.le_of_lt (pw_get hw q (by omega))
        rw [i3] at h5
        omega
      · obtain ⟨i, hi, e⟩ := mem_getD ((hgw _).mp i3)
        show gs.foldl _ 0 = _
        rw [← e] at h5 ⊢
        rcases Nat.eq_or_lt_of_le (show i ≤ ws.length - 1 by omega) with q | q
        · rw [q]
        · have := pw_get hw q (by omega)
          omega
    rw [Bool.eq_iff_iff, rc_step h1]
    show (candL 0 (ngD gs (lastD r)) r).any (fun v => v == mxD gs || rch gs k (r ++ [v])) = true ↔ _
    rw [hng, List.any_eq_true]
    have key : ∀ v, candB 0 (ws.getD next 0) r v = true → ((v == mxD gs || rch gs k (r ++ [v])) = true ↔ rc ws (if v = ws.getD next 0 then next + 1 else next) k (r ++ [v]) = true) := by
      intro v hv
      have hs := candB_spec hv
      have hlo : lastD r < v := hs.1
      by_cases e : v = ws.getD next 0
      · rw [if_pos e]
        by_cases e2 : next + 1 = ws.length
        · rw [rc_done (by omega)]
          have : v = mxD gs := by rw [hmx, e, show ws.length - 1 = next by omega]
          simp [this]
        · have hlt := pw_get hw (show next < next + 1 by omega) (by omega)
          have : v ≠ mxD gs := by
            rw [hmx, e]
            have := pw_get hw (show next < ws.length - 1 by omega) (by omega)
            omega
          have ih := rch_rc hgw hw (k := k) (next := next + 1) (r := r ++ [v]) (by omega) (fun i hi => by
            rw [lastD_app, e]
            rcases Nat.eq_or_lt_of_le (show i ≤ next by omega) with q | q
            · rw [q]; exact Nat.le_refl _
            · exact Nat.le_of_lt (pw_get hw q h1)) (by rw [lastD_app, e]; exact hlt)
          rw [ih]
          simp [this]
      · rw [if_neg e]
        have : v ≠ mxD gs := by
          rw [hmx]
          rcases Nat.eq_or_lt_of_le (show next ≤ ws.length - 1 by omega) with q | q
          · rw [← q]; exact e
          · have := pw_get hw q (by omega)
            omega
        have ih := rch_rc hgw hw (k := k) (next := next) (r := r ++ [v]) h1 (fun i hi => by
          rw [lastD_app]
          have := h2 i hi
          omega) (by rw [lastD_app]; omega)
        rw [ih]
        simp [this]
    constructor
    · rintro ⟨v, hv, h⟩
      exact ⟨v, mem_candL.mp hv, (key v (mem_candL.mp hv)).mp h⟩
    · rintro ⟨v, hv, h⟩
      exact ⟨v, mem_candL.mpr hv, (key v hv).mpr h⟩
/-! a row with all of them -/
def cF (P : Nat → Bool) (j m : Nat) : Nat := match j with
  | 0 => 0
  | j + 1 => (if P (m + 1) = true then 1 else 0) + cF P j (m + 1)
def rwP (P : Nat → Bool) (m : Nat) : List Nat := (List.range (m + 1)).filter (fun v => decide (1 ≤ v) && P v)
theorem rwP_mem {P : Nat → Bool} {m x : Nat} : x ∈ rwP P m ↔ 1 ≤ x ∧ x ≤ m ∧ P x = true := by
  unfold rwP
  rw [List.mem_filter, List.mem_range, Bool.and_eq_true, decide_eq_true_eq]
  exact ⟨fun h => ⟨h.2.1, by omega, h.2.2⟩, fun h => ⟨by omega, h.1, h.2.2⟩⟩
theorem rwP_succ (P : Nat → Bool) (m : Nat) : rwP P (m + 1) = if P (m + 1) = true then rwP P m ++ [m + 1] else rwP P m := by
  unfold rwP
  rw [List.range_succ, List.filter_append]
  by_cases h : P (m + 1) = true
  · rw [if_pos h]
    simp [h]
  · rw [if_neg h]
    simp [h]
theorem rwP_last {P : Nat → Bool} {m : Nat} : lastD (rwP P m) ≤ m := by
  rcases Nat.eq_zero_or_pos (rwP P m).length with q | q
  · rw [List.eq_nil_of_length_eq_zero q]; exact Nat.zero_le _
  · have := (rwP_mem.mp (show lastD (rwP P m) ∈ rwP P m by rw [lastD_eq q]; exact getD_mem2 (by omega)))
    exact this.2.1
theorem rc_row {ws : List Nat} {P : Nat → Bool} (hw : ws.Pairwise (· < ·)) (hP : ∀ g ∈ ws, P g = true) (hcl : ∀ v, 2 ≤ v → v ≤ 60 → P v = true → ∃ x y, P x = true ∧ P y = true ∧ 1 ≤ x ∧ x < v ∧ 1 ≤ y ∧ y < v ∧ x + y = v) : ∀ (j m next : Nat), 1 ≤ m → m + j ≤ 60 → (∀ g ∈ ws, g ≤ m + j) → (∀ i, i < next → ws.getD i 0 ≤ m) → (∀ i, next ≤ i → i < ws.length → m < ws.getD i 0) → rc ws next (cF P j m) (rwP P m) = true
  | 0, m, next, h1, h2, h3, h4, h5 => by
    apply rc_done
    rcases Nat.lt_or_ge next ws.length with q | q
    · have := h5 next (Nat.le_refl _) q
      have := h3 _ (getD_mem2 q)
      omega
    · exact q
  | j + 1, m, next, h1, h2, h3, h4, h5 => by
    have h3' : ∀ g ∈ ws, g ≤ m + 1 + j := fun g hg => by have := h3 g hg; omega
    by_cases hp : P (m + 1) = true
    · have e : cF P (j + 1) m = cF P j (m + 1) + 1 := by
        show (if P (m + 1) = true then 1 else 0) + cF P j (m + 1) = _
        rw [if_pos hp, Nat.add_comm]
      rw [e]
      rcases Nat.lt_or_ge next ws.length with q | q
      · rw [rc_step q]
        have h6 := h5 next (Nat.le_refl _) q
        refine ⟨m + 1, ?_, ?_⟩
        · obtain ⟨x, y, px, py, x1, x2, y1, y2, exy⟩ := hcl (m + 1) (by omega) (by omega) hp
          have hsn : snB 0 (rwP P m) (m + 1) = true := by
            rw [snB_iff2]
            rcases Nat.le_total x y with z | z
            · exact ⟨x, rwP_mem.mpr ⟨x1, by omega, px⟩, y, rwP_mem.mpr ⟨y1, by omega, py⟩, z, fun h => (by cases h), Or.inl ⟨Or.inl (by decide), by omega⟩⟩
            · exact ⟨y, rwP_mem.mpr ⟨y1, by omega, py⟩, x, rwP_mem.mpr ⟨x1, by omega, px⟩, z, fun h => (by cases h), Or.inl ⟨Or.inl (by decide), by omega⟩⟩
          have hl := rwP_last (P := P) (m := m)
          have hnm : m + 1 ∉ rwP P m := fun z => by have := (rwP_mem.mp z).2.1; omega
          unfold candB
          simp only [Bool.and_eq_true, decide_eq_true_eq, Bool.not_eq_true', List.contains_eq_mem, decide_eq_false_iff_not]
          refine ⟨⟨⟨?_, by omega⟩, hsn⟩, hnm⟩
          unfold lowB
          rw [if_neg (by decide)]
          omega
        · have e2 : rwP P m ++ [m + 1] = rwP P (m + 1) := by rw [rwP_succ, if_pos hp]
          rw [e2]
          refine rc_row hw hP hcl j (m + 1) _ (by omega) (by omega) h3' (fun i hi => ?_) (fun i hi hi2 => ?_)
          · split at hi
            · rename_i ev
              rcases Nat.eq_or_lt_of_le (show i ≤ next by omega) with z | z
              · rw [z, ← ev]; exact Nat.le_refl _
              · have := h4 i z; omega
            · have := h4 i hi; omega
          · split at hi
            · rename_i ev
              have := pw_get hw (show next < i by omega) hi2
              omega
            · rename_i ev
              have := h5 i hi hi2
              rcases Nat.eq_or_lt_of_le hi with z | z
              · subst z; omega
              · have := pw_get hw z hi2
                omega
      · exact rc_done q
    · have e : cF P (j + 1) m = cF P j (m + 1) := by
        show (if P (m + 1) = true then 1 else 0) + cF P j (m + 1) = _
        rw [if_neg hp, Nat.zero_add]
      have e2 : rwP P m = rwP P (m + 1) := by rw [rwP_succ, if_neg hp]
      rw [e, e2]
      refine rc_row hw hP hcl j (m + 1) next (by omega) (by omega) h3' (fun i hi => by have := h4 i hi; omega) (fun i hi hi2 => ?_)
      have h7 := h5 i hi hi2
      have h8 : ws.getD i 0 ≠ m + 1 := fun z => hp (by rw [← z]; exact hP _ (getD_mem2 hi2))
      omega
theorem cF_or (p q : Nat → Bool) : ∀ j m, cF (fun v => p v || q v) j m ≤ cF p j m + cF q j m
  | 0, m => Nat.le_refl _
  | j + 1, m => by
    have ih := cF_or p q j (m + 1)
    show (if (p (m + 1) || q (m + 1)) = true then 1 else 0) + cF (fun v => p v || q v) j (m + 1) ≤ ((if p (m + 1) = true then 1 else 0) + cF p j (m + 1)) + ((if q (m + 1) = true then 1 else 0) + cF q j (m + 1))
    cases p (m + 1) <;> cases q (m + 1) <;> simp <;> omega
theorem cF_no : ∀ j m, cF (fun _ => false) j m = 0
  | 0, m => rfl
  | j + 1, m => by
    show (if false = true then 1 else 0) + cF (fun _ => false) j (m + 1) = 0
    rw [cF_no j (m + 1)]
    rfl
theorem cF_any {q : Nat → Nat → Bool} {b : Nat} {j m : Nat} : ∀ (ws : List Nat), (∀ g ∈ ws, cF (q g) j m ≤ b) → cF (fun v => ws.any (fun g => q g v)) j m ≤ b * ws.length
  | [], _ => by
    have := cF_no j m
    show cF (fun _ => false) j m ≤ _
    omega
  | a :: ws, h => by
    have ih := cF_any ws (fun g hg => h g (List.mem_cons_of_mem _ hg))
    have h1 := h a List.mem_cons_self
    have h2 := cF_or (q a) (fun v => ws.any (fun g => q g v)) j m
    show cF (fun v => (q a v || ws.any (fun g => q g v))) j m ≤ _
    rw [List.length_cons, Nat.mul_add]
    omega
theorem cF_mono (p : Nat → Bool) : ∀ j i m, cF p j m ≤ cF p (j + i) m
  | 0, i, m => Nat.zero_le _
  | j + 1, i, m => by
    have ih := cF_mono p j i (m + 1)
    rw [show j + 1 + i = (j + i) + 1 by omega]
    show _ + cF p j (m + 1) ≤ _ + cF p (j + i) (m + 1)
    omega
def p0 (v : Nat) : Bool := [1, 2, 4, 8, 16, 32].any (fun y => Nat.beq v y)
def q0 (g v : Nat) : Bool := (List.range 6).any (fun j => Nat.beq v (g / 2 ^ j * 2 ^ j)) && (!p0 v && Nat.ble 1 v)
def exB : Bool := (List.range 59).all (fun i => (p0 (i + 2) || q0 (i + 2) (i + 2)) && (Nat.ble (cF (q0 (i + 2)) 59 1) 4 && (List.range 59).all (fun k => !q0 (i + 2) (k + 2) || [1, 2, 4, 8, 16, 32].any (fun y => Nat.blt y (k + 2) && (p0 (k + 2 - y) || q0 (i + 2) (k + 2 - y)))))) && Nat.ble (cF p0 59 1) 5 && (List.range 59).all (fun k => !p0 (k + 2) || [1, 2, 4, 8, 16, 32].any (fun y => Nat.blt y (k + 2) && p0 (k + 2 - y)))
set_option maxRecDepth 100000 in
theorem exB_ok : exB = true := by decide +kernel
theorem p0_y {y : Nat} (h : y ∈ [1, 2, 4, 8, 16, 32]) : p0 y = true ∧ 1 ≤ y := by
  simp only [List.mem_cons, List.not_mem_nil, or_false] at h
  rcases h with rfl | rfl | rfl | rfl | rfl | rfl <;> decide
theorem exT {ws : List Nat} (h : wsO ws) : ∃ T, T ≤ 24 ∧ rc ws 0 T [1] = true := by
  obtain ⟨h1, h2, h3⟩ := h
  have hB := exB_ok
  unfold exB at hB
  simp only [Bool.and_eq_true, List.all_eq_true, List.mem_range] at hB
  obtain ⟨⟨b1, b2⟩, b3⟩ := hB
  have hq : ∀ g ∈ ws, (p0 g || q0 g g) = true ∧ cF (q0 g) 59 1 ≤ 4 ∧ ∀ v, 2 ≤ v → v ≤ 60 → q0 g v = true → ∃ y ∈ [1, 2, 4, 8, 16, 32], y < v ∧ (p0 (v - y) || q0 g (v - y)) = true := by
    intro g hg
    have := h2 g hg
    obtain ⟨c1, c2, c3⟩ := b1 (g - 2) (by omega)
    rw [show g - 2 + 2 = g by omega] at c1 c2 c3
    refine ⟨c1, Nat.le_of_ble_eq_true c2, fun v hv1 hv2 hv => ?_⟩
    have c4 := c3 (v - 2) (by omega)
    rw [show v - 2 + 2 = v by omega, hv, Bool.not_true, Bool.false_or, List.any_eq_true] at c4
    obtain ⟨y, hy, c5⟩ := c4
    rw [Bool.and_eq_true] at c5
    exact ⟨y, hy, by have := c5.1; rw [Nat.blt_eq] at this; exact this, c5.2⟩
  have key := rc_row (ws := ws) (P := fun v => p0 v || ws.any (fun g => q0 g v)) h3 (fun g hg => by
    have := (hq g hg).1
    rw [Bool.or_eq_true] at this ⊢
    rcases this with z | z
    · exact Or.inl z
    · exact Or.inr (List.any_eq_true.mpr ⟨g, hg, z⟩)) (fun v hv1 hv2 hv => by
    rw [Bool.or_eq_true, List.any_eq_true] at hv
    rcases hv with hv | ⟨g, hg, hv⟩
    · have c4 := b3 (v - 2) (by omega)
      rw [show v - 2 + 2 = v by omega, hv, Bool.not_true, Bool.false_or, List.any_eq_true] at c4
      obtain ⟨y, hy, c5⟩ := c4
      rw [Bool.and_eq_true, Nat.blt_eq] at c5
      have hy2 := p0_y hy
      exact ⟨v - y, y, by rw [c5.2, Bool.true_or], by rw [hy2.1, Bool.true_or], by omega, by omega, by omega, by omega, by omega⟩
    · obtain ⟨y, hy, c5, c6⟩ := (hq g hg).2.2 v hv1 hv2 hv
      have hy2 := p0_y hy
      refine ⟨v - y, y, ?_, by rw [hy2.1, Bool.true_or], by omega, by omega, by omega, by omega, by omega⟩
      rw [Bool.or_eq_true] at c6 ⊢
      rcases c6 with z | z
      · exact Or.inl z
      · exact Or.inr (List.any_eq_true.mpr ⟨g, hg, z⟩)) 59 1 0 (by omega) (by omega) (fun g hg => by have := h2 g hg; omega) (fun i hi => by omega) (fun i _ hi => by have := h2 _ (getD_mem2 (r := ws) (i := i) hi); omega)
  refine ⟨_, ?_, key⟩
  have h5 := cF_or p0 (fun v => ws.any (fun g => q0 g v)) 59 1
  have h6 := cF_any (q := q0) (b := 4) (j := 59) (m := 1) ws (fun g hg => (hq g hg).2.1)
  have h7 := Nat.le_of_ble_eq_true b2
  have h8 : 4 * ws.length ≤ 16 := by omega
  show cF (fun v => p0 v || ws.any (fun g => q0 g v)) 59 1 ≤ 24
  omega
def feT (ws : List Nat) : Nat := ((List.range 25).find? (fun k => rc ws 0 k [1])).getD 0
theorem feT_ok {ws : List Nat} (h : wsO ws) : rc ws 0 (feT ws) [1] = true ∧ feT ws ≤ 24 ∧ ∀ k, k < feT ws → rc ws 0 k [1] = false := by
  obtain ⟨T, hT, h1⟩ := exT h
  unfold feT
  cases hf : (List.range 25).find? (fun k => rc ws 0 k [1]) with
  | none =>
    rw [List.find?_eq_none] at hf
    exact absurd h1 (hf T (List.mem_range.mpr (by omega)))
  | some F =>
    rw [List.find?_range_eq_some] at hf
    obtain ⟨f1, f2, f3⟩ := hf
    simp only [Option.getD_some]
    refine ⟨f1, by have := List.mem_range.mp f2; omega, fun k hk => ?_⟩
    have := f3 k hk
    simpa using this
theorem feT_isT {gs ws : List Nat} (hg : gsR gs ws) (h : wsO ws) : isT gs (feT ws) := by
  obtain ⟨f1, f2, f3⟩ := feT_ok h
  rcases Nat.eq_zero_or_pos ws.length with q | q
  · left
    have e1 : gs = [] := List.eq_nil_of_length_eq_zero (by rw [hg.2]; exact q)
    refine ⟨by rw [e1]; rfl, ?_⟩
    rcases Nat.eq_zero_or_pos (feT ws) with z | z
    · exact z
    · have := f3 0 z
      rw [rc_done (by omega)] at this
      cases this
  · right
    have h0 := h.2.1 _ (getD_mem2 (r := ws) (i := 0) q)
    have key : ∀ k, rch gs k [1] = rc ws 0 k [1] := fun k => rch_rc hg.1 h.2.2 q (fun i hi => by omega) (by show 1 < _; omega)
    refine ⟨?_, by rw [key]; exact f1, fun k hk => by rw [key]; exact f3 k hk⟩
    obtain ⟨-, i2, -⟩ := mx_spec gs 0
    have h5 := i2 _ ((hg.1 _).mpr (getD_mem2 (r := ws) (i := 0) q))
    have e : mxD gs = gs.foldl (fun m g => if m < g then g else m) 0 := rfl
    omega
