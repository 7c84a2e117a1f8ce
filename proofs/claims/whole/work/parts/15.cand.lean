/-! ===== rows of numbers: what may come next ===== -/
def lastD (r : List Nat) : Nat := r.getLastD 0
def lowB (kind : Nat) (r : List Nat) : Nat := if kind = 2 then 1 else lastD r + 1
/-- x and y (x ≤ y) make v -/
def mkV2 (kind : Nat) (r : List Nat) (x y v : Nat) : Bool := ((kind != 3 || x == y || r.contains (y - x)) && v == x + y) || (kind == 2 && v == y - x)
def snB (kind : Nat) (r : List Nat) (v : Nat) : Bool := r.any (fun x => r.any (fun y => decide (x ≤ y) && (kind != 1 || x == lastD r || y == lastD r) && mkV2 kind r x y v))
def candB (kind most : Nat) (r : List Nat) (v : Nat) : Bool := decide (lowB kind r ≤ v) && decide (v ≤ most) && snB kind r v && !r.contains v
def dl (m k : Nat) : List Nat := (List.range k).map (fun i => m - i)
def candL (kind most : Nat) (r : List Nat) : List Nat := (dl most most).filter (candB kind most r)
theorem dl_succ (m k : Nat) : dl m (k + 1) = dl m k ++ [m - k] := by
  unfold dl
  rw [List.range_succ, List.map_append]
  rfl
theorem dl_add (m k j : Nat) : dl m (k + j) = dl m k ++ (List.range j).map (fun i => m - (k + i)) := by
  unfold dl
  rw [List.range_add, List.map_append, List.map_map]
  rfl
theorem mem_candL {kind most : Nat} {r : List Nat} {v : Nat} : v ∈ candL kind most r ↔ candB kind most r v = true := by
  unfold candL
  rw [List.mem_filter]
  constructor
  · exact fun h => h.2
  · intro h
    refine ⟨?_, h⟩
    unfold candB at h
    simp only [Bool.and_eq_true, decide_eq_true_eq] at h
    obtain ⟨⟨⟨h1, h2⟩, -⟩, -⟩ := h
    have h3 : 1 ≤ lowB kind r := by
      unfold lowB
      split <;> omega
    unfold dl
    rw [List.mem_map]
    exact ⟨most - v, List.mem_range.mpr (by omega), by omega⟩
/-- the pairs of places that the reference looks at -/
def mkI2 (kind : Nat) (r : List Nat) (i j v : Nat) : Prop := mkV2 kind r (min (r.getD i 0) (r.getD j 0)) (max (r.getD i 0) (r.getD j 0)) v = true
theorem getD_mem2 {r : List Nat} {i : Nat} (h : i < r.length) : r.getD i 0 ∈ r := by
  rw [List.getD_eq_getElem?_getD, List.getElem?_eq_getElem h]
  exact List.getElem_mem h
theorem mem_getD {r : List Nat} {x : Nat} (h : x ∈ r) : ∃ i, i < r.length ∧ r.getD i 0 = x := by
  obtain ⟨i, hi, e⟩ := List.mem_iff_getElem.mp h
  exact ⟨i, hi, by rw [List.getD_eq_getElem?_getD, List.getElem?_eq_getElem hi]; exact e⟩
theorem lastD_eq {r : List Nat} (h : 0 < r.length) : lastD r = r.getD (r.length - 1) 0 := by
  unfold lastD
  rw [List.getLastD_eq_getLast?, List.getLast?_eq_getElem?, List.getD_eq_getElem?_getD]
theorem snB_iff {kind : Nat} {r : List Nat} (hr : 0 < r.length) {v : Nat} : snB kind r v = true ↔ ∃ i j, i ≤ j ∧ j < r.length ∧ (kind = 1 → j + 1 = r.length) ∧ mkI2 kind r i j v := by
  unfold snB
  simp only [List.any_eq_true, Bool.and_eq_true, decide_eq_true_eq]
  constructor
  · rintro ⟨x, hx, y, hy, ⟨hxy, h1⟩, hm⟩
    obtain ⟨a, ha, rfl⟩ := mem_getD hx
    obtain ⟨b, hb, rfl⟩ := mem_getD hy
    by_cases hk : kind = 1
    · subst hk
      simp only [bne_self_eq_false, Bool.false_or, Bool.or_eq_true, beq_iff_eq] at h1
      rw [lastD_eq hr] at h1
      rcases h1 with h1 | h1
      · refine ⟨b, r.length - 1, by omega, by omega, fun _ => by omega, ?_⟩
        unfold mkI2
        rw [← h1, Nat.min_eq_right hxy, Nat.max_eq_left hxy]
        exact hm
      · refine ⟨a, r.length - 1, by omega, by omega, fun _ => by omega, ?_⟩
        unfold mkI2
        rw [← h1, Nat.min_eq_left hxy, Nat.max_eq_right hxy]
        exact hm
    · rcases Nat.le_total a b with hab | hab
      · refine ⟨a, b, hab, hb, fun h => absurd h hk, ?_⟩
        unfold mkI2
        rw [Nat.min_eq_left hxy, Nat.max_eq_right hxy]
        exact hm
      · refine ⟨b, a, hab, ha, fun h => absurd h hk, ?_⟩
        unfold mkI2
        rw [Nat.min_eq_right hxy, Nat.max_eq_left hxy]
        exact hm
  · rintro ⟨i, j, hij, hj, hk, hm⟩
    unfold mkI2 at hm
    have hi : i < r.length := by omega
    refine ⟨_, ?_, _, ?_, ⟨?_, ?_⟩, hm⟩
    · rcases Nat.le_total (r.getD i 0) (r.getD j 0) with h | h
      · rw [Nat.min_eq_left h]; exact getD_mem2 hi
      · rw [Nat.min_eq_right h]; exact getD_mem2 hj
    · rcases Nat.le_total (r.getD i 0) (r.getD j 0) with h | h
      · rw [Nat.max_eq_right h]; exact getD_mem2 hj
      · rw [Nat.max_eq_left h]; exact getD_mem2 hi
    · omega
    · by_cases hk1 : kind = 1
      · have := hk hk1
        rw [lastD_eq hr, show r.length - 1 = j by omega]
        rcases Nat.le_total (r.getD i 0) (r.getD j 0) with h | h
        · rw [Nat.max_eq_right h]; simp
        · rw [Nat.min_eq_right h]; simp
      · simp [hk1]
def Fr (S : List Nat) (σ σ' : Mem) : Prop := ∀ a, a ∉ S → σ' a = σ a
theorem Fr.rf {S : List Nat} {σ : Mem} : Fr S σ σ := fun _ _ => rfl
theorem Fr.tr {S : List Nat} {σ σ1 σ2 : Mem} (h1 : Fr S σ σ1) (h2 : Fr S σ1 σ2) : Fr S σ σ2 := fun a ha => (h2 a ha).trans (h1 a ha)
theorem Fr.mono {S S' : List Nat} {σ σ' : Mem} (h : Fr S σ σ') (hs : ∀ a ∈ S, a ∈ S') : Fr S' σ σ' := fun a ha => h a (fun q => ha (hs a q))
theorem Fr.put {S : List Nat} {σ : Mem} {k i : Nat} {x : Int32} (h : k ∈ S) : Fr S σ (up σ k i x) := fun a ha => up_ne (fun e => ha (by rw [e]; exact h))
theorem Fr.putT {S : List Nat} {σ σ1 : Mem} {k i : Nat} {x : Int32} (h1 : Fr S σ σ1) (h : k ∈ S) : Fr S σ (up σ1 k i x) := h1.tr (Fr.put h)
theorem up_at {σ : Mem} {k i : Nat} {x : Int32} : up σ k i x k i = x := by rw [up_eq]; simp [upd]
theorem up_nat {σ : Mem} {k i j : Nat} {x : Int32} (h : j ≠ i) : up σ k i x k j = σ k j := by rw [up_eq]; simp [upd, h]
/-- told -/
def told (σ : Mem) (r : List Nat) : Prop := ∀ i, i < r.length → σ 39 i = iZ (r.getD i 0)
theorem told.fr {S : List Nat} {σ σ' : Mem} {r : List Nat} (h : told σ r) (hf : Fr S σ σ') (hs : 39 ∉ S) : told σ' r := fun i hi => by rw [hf 39 hs]; exact h i hi
def rowAt (σ : Mem) (last : Nat) (L : List Nat) : Prop := σ 41 last = iZ L.length ∧ ∀ i, i < L.length → σ 40 (400 * last + i) = iZ (L.getD i 0)
