/-! ===== the reference: may ===== -/
def validS (kind : Nat) (r : List Nat) (v x : Nat) : Prop := x ∈ r ∧ x ≤ v ∧ (v - x) ∈ r ∧ x ≤ v - x ∧ (kind = 1 → v - x = lastD r) ∧ (kind = 3 → x = v - x ∨ (v - x - x) ∈ r)
def isSX (kind : Nat) (r : List Nat) (v b : Nat) : Prop := (b = 0 ∧ ∀ x, ¬ validS kind r v x) ∨ (validS kind r v b ∧ ∀ x, validS kind r v x → x ≤ b)
def validD (r : List Nat) (v g : Nat) : Prop := g ∈ r ∧ ∃ w ∈ r, g = w + v
def isDX (r : List Nat) (v g : Nat) : Prop := (g = 0 ∧ ∀ x, ¬ validD r v x) ∨ (validD r v g ∧ ∀ x, validD r v x → g ≤ x)
def okI (kind : Nat) (r : List Nat) (v a c : Nat) : Prop := min (r.getD a 0) (r.getD c 0) + max (r.getD a 0) (r.getD c 0) = v ∧ (kind = 1 → c + 1 = r.length) ∧ (kind = 3 → min (r.getD a 0) (r.getD c 0) = max (r.getD a 0) (r.getD c 0) ∨ (max (r.getD a 0) (r.getD c 0) - min (r.getD a 0) (r.getD c 0)) ∈ r)
/-- by which two places a step is done -/
def pickI (kind : Nat) (r : List Nat) (v i j : Nat) : Prop := i < r.length ∧ j < r.length ∧ ((okI kind r v i j ∧ isSX kind r v (min (r.getD i 0) (r.getD j 0))) ∨ (kind = 2 ∧ isSX kind r v 0 ∧ r.getD i 0 = r.getD j 0 + v ∧ isDX r v (r.getD i 0)))
def mayC (kind : Nat) (r : List Nat) (v : Nat) : Prop := (r = [] ∧ v = 1) ∨ (r ≠ [] ∧ v ∉ r ∧ (kind ≠ 2 → lastD r ≤ v) ∧ ∃ i j, pickI kind r v i j)
def readM (σ : Mem) (r : List Nat) : Prop := σ 35 24 = iZ r.length ∧ (∀ i, i < r.length → σ 52 i = iZ (r.getD i 0))
def rowOk (kind : Nat) (r : List Nat) : Prop := r.length ≤ 64 ∧ (∀ x ∈ r, 1 ≤ x ∧ x ≤ 99999) ∧ r.Nodup ∧ (kind ≠ 2 → ∀ x ∈ r, x ≤ lastD r)
theorem okI_valid {kind : Nat} {r : List Nat} {v a c : Nat} (hr : rowOk kind r) (ha : a < r.length) (hc : c < r.length) (h : okI kind r v a c) : validS kind r v (min (r.getD a 0) (r.getD c 0)) := by
  obtain ⟨h1, h2, h3⟩ := h
  have hm1 : r.getD a 0 ∈ r := getD_mem2 ha
  have hm2 : r.getD c 0 ∈ r := getD_mem2 hc
  have e : v - min (r.getD a 0) (r.getD c 0) = max (r.getD a 0) (r.getD c 0) := by omega
  refine ⟨?_, by omega, ?_, by rw [e]; omega, fun hk => ?_, fun hk => ?_⟩
  · rcases Nat.le_total (r.getD a 0) (r.getD c 0) with q | q
    · rw [Nat.min_eq_left q]; exact hm1
    · rw [Nat.min_eq_right q]; exact hm2
  · rw [e]
    rcases Nat.le_total (r.getD a 0) (r.getD c 0) with q | q
    · rw [Nat.max_eq_right q]; exact hm2
    · rw [Nat.max_eq_left q]; exact hm1
  · rw [e]
    have h4 := h2 hk
    have h5 := hr.2.2.2 (by omega) _ hm1
    rw [lastD_eq (by omega), show r.length - 1 = c by omega] at h5 ⊢
    exact Nat.max_eq_right h5
  · rw [e]
    rcases h3 hk with q | q
    · exact Or.inl q
    · exact Or.inr q
theorem valid_okI {kind : Nat} {r : List Nat} {v x : Nat} (h : validS kind r v x) : ∃ a c, a ≤ c ∧ c < r.length ∧ okI kind r v a c ∧ min (r.getD a 0) (r.getD c 0) = x := by
  obtain ⟨h1, h2, h3, h4, h5, h6⟩ := h
  by_cases hk : kind = 1
  · obtain ⟨a, ha, ea⟩ := mem_getD h1
    have e5 := h5 hk
    rw [lastD_eq (by omega)] at e5
    refine ⟨a, r.length - 1, by omega, by omega, ⟨?_, fun _ => by omega, fun h => by omega⟩, ?_⟩
    · rw [ea, ← e5]; omega
    · rw [ea, ← e5]; omega
  · obtain ⟨a, ha, ea⟩ := mem_getD h1
    obtain ⟨c, hc, ec⟩ := mem_getD h3
    rcases Nat.le_total a c with q | q
    · refine ⟨a, c, q, hc, ⟨by rw [ea, ec]; omega, fun h => absurd h hk, fun h => ?_⟩, by rw [ea, ec]; omega⟩
      rw [ea, ec, Nat.min_eq_left h4, Nat.max_eq_right h4]
      exact h6 h
    · refine ⟨c, a, q, ha, ⟨by rw [ea, ec]; omega, fun h => absurd h hk, fun h => ?_⟩, by rw [ea, ec]; omega⟩
      rw [ea, ec, Nat.min_eq_right h4, Nat.max_eq_left h4]
      exact h6 h
section MDF
variable {d n ca cb tr : Nat} {Q : PQ} {σ : Mem}
theorem m_isRead (hn : 54 ≤ n) {r : List Nat} {v : Nat} (hl : r.length ≤ 64) (hrb : ∀ x ∈ r, x ≤ 99999) (hv : v ≤ 1000000) (hr : readM σ r) (h1 : v ∈ r → Q (some (.int 1)) (rho ca cb tr) σ) (h0 : v ∉ r → Q (some (.int 0)) (rho ca cb tr) σ) : Mt M_X9_isRead d n n [.ref 35, .int (iZ v)] (rho ca cb tr) σ Q := by
  obtain ⟨r1, r2⟩ := hr
  refine Mt.of rfl (by decide +kernel) tk_X9_isRead (Nat.le_of_ble_eq_true rfl) ?_
  refine V.run 2 54 rfl hn trivial ?_
  have key : ∀ j k : Nat, k + j = r.length → (∀ i, i < k → r.getD i 0 ≠ v) → V M_X9_isRead d n n none Q n (rho ca cb tr) σ 2 [some (.ref 35), some (.int (iZ (v))), some (.int (iZ (k)))] [] := by
    intro j
    induction j with
    | zero =>
      intro k hk h
      refine V.run 0 54 rfl hn trivial ?_
      try simp only [rf_told, rf_comes, rf_comeMany, rf_comeAt, rf_isSeen, rf_goals, rf_text, rf_taken, rf_roadRow, rf_dueNumber, rf_dueTimes, rf_above, rf_tree, rf_way, rf_signs, rf_spent, rf_read, rf_useMany, rf_lastUse, fi_9_0, fi_9_2, fi_9_3, fi_9_4, fi_9_6, fi_9_7, fi_9_14, fi_9_19, fi_9_24, fi_9_26, fi_9_27, fi_9_30]
      rw [r1]
      refine V.brT rfl ((iZ_le (by omega) (by omega)).mpr (by omega)) ?_
      refine V.run 0 54 rfl hn trivial ?_
      refine V.ret (v := some (.int 0)) rfl rfl ⟨rfl, Or.inl rfl⟩ rfl (h0 (fun q => by obtain ⟨i, hi, e⟩ := mem_getD q; exact h i (by omega) e))
    | succ j ih =>
      intro k hk h
      refine V.run 0 54 rfl hn trivial ?_
      try simp only [rf_told, rf_comes, rf_comeMany, rf_comeAt, rf_isSeen, rf_goals, rf_text, rf_taken, rf_roadRow, rf_dueNumber, rf_dueTimes, rf_above, rf_tree, rf_way, rf_signs, rf_spent, rf_read, rf_useMany, rf_lastUse, fi_9_0, fi_9_2, fi_9_3, fi_9_4, fi_9_6, fi_9_7, fi_9_14, fi_9_19, fi_9_24, fi_9_26, fi_9_27, fi_9_30]
      rw [r1]
      refine V.brF rfl (fun c => by have := (iZ_le (by omega) (by omega)).mp c; omega) ?_
      have hb := hrb _ (getD_mem2 (r := r) (i := k) (by omega))
      refine V.run 0 54 rfl hn ⟨in_N (n := 64) (by omega) (by decide), trivial⟩ ?_
      try simp only [rf_told, rf_comes, rf_comeMany, rf_comeAt, rf_isSeen, rf_goals, rf_text, rf_taken, rf_roadRow, rf_dueNumber, rf_dueTimes, rf_above, rf_tree, rf_way, rf_signs, rf_spent, rf_read, rf_useMany, rf_lastUse, fi_9_0, fi_9_2, fi_9_3, fi_9_4, fi_9_6, fi_9_7, fi_9_14, fi_9_19, fi_9_24, fi_9_26, fi_9_27, fi_9_30]
      rw [ix_N (by omega), r2 k (by omega)]
      refine V.br rfl (fun (c2 : iZ (r.getD k 0) = iZ v) => ?_) (fun (c2 : ¬ (iZ (r.getD k 0) = iZ v)) => ?_)
      · rw [iZ_eq (by omega) (by omega)] at c2
        refine V.run 0 54 rfl hn trivial ?_
        refine V.ret (v := some (.int 1)) rfl rfl ⟨rfl, Or.inr rfl⟩ rfl (h1 (by rw [show v = r.getD k 0 by omega]; exact getD_mem2 (by omega)))
      · rw [iZ_eq (by omega) (by omega)] at c2
        refine V.run 0 54 rfl hn trivial ?_
        have := ih (k + 1) (by omega) (fun i hi => by
          by_cases e : i = k
          · subst e; omega
          · exact h i (by omega))
        rw [show ((k + 1 : Nat) : Int) = (k : Int) + 1 by omega, ← iZ_add] at this
        exact this
  exact key r.length 0 (by omega) (fun i hi => by omega)
def FrD (σ σ' : Mem) : Prop := Fr [35] σ σ' ∧ ∀ j, j ≠ 26 → j ≠ 27 → σ' 35 j = σ 35 j
theorem FrD.rf : FrD σ σ := ⟨Fr.rf, fun _ _ _ => rfl⟩
theorem FrD.put {σ1 : Mem} {x y : Int32} (h : FrD σ σ1) : FrD σ (up (up σ1 35 26 x) 35 27 y) := ⟨Fr.putT (Fr.putT h.1 (by simp)) (by simp), fun j h1 h2 => by rw [up_nat h2, up_nat h1]; exact h.2 j h1 h2⟩
theorem FrD.rd {σ1 : Mem} {r : List Nat} (h : FrD σ σ1) (hr : readM σ r) : readM σ1 r := ⟨by rw [h.2 24 (by decide) (by decide)]; exact hr.1, fun i hi => by rw [h.1 52 (by decide)]; exact hr.2 i hi⟩
/-- the sums that are looked at ahead of (i, j) -/
def sumI (kind : Nat) (r : List Nat) (v i j b : Nat) (σ : Mem) : Prop := (b = 0 ∧ ∀ a c, a ≤ c → c < r.length → (a < i ∨ (a = i ∧ c < j)) → ¬ okI kind r v a c) ∨ (∃ a c, a < r.length ∧ c < r.length ∧ okI kind r v a c ∧ b = min (r.getD a 0) (r.getD c 0) ∧ σ 35 26 = iZ a ∧ σ 35 27 = iZ c ∧ ∀ a' c', a' ≤ c' → c' < r.length → (a' < i ∨ (a' = i ∧ c' < j)) → okI kind r v a' c' → min (r.getD a' 0) (r.getD c' 0) ≤ b)
def difI (r : List Nat) (v i j g : Nat) (σ : Mem) : Prop := (g = 0 ∧ ∀ a c, c < r.length → (a < i ∨ (a = i ∧ c < j)) → a < r.length → r.getD a 0 ≠ r.getD c 0 + v) ∨ (∃ a c, a < r.length ∧ c < r.length ∧ r.getD a 0 = r.getD c 0 + v ∧ g = r.getD a 0 ∧ σ 35 26 = iZ a ∧ σ 35 27 = iZ c ∧ ∀ a' c', a' < r.length → c' < r.length → (a' < i ∨ (a' = i ∧ c' < j)) → r.getD a' 0 = r.getD c' 0 + v → g ≤ r.getD a' 0)
end MDF
