/-! ===== the reference: roads ===== -/
def roadM (σ : Mem) (L : List Nat) : Prop := σ 35 14 = iZ L.length ∧ (∀ i, i < L.length → σ 44 i = iZ (L.getD i 0)) ∧ (∀ x ∈ L, x ≤ 1000000)
def goL (L : List Nat) (v : Nat) : List Nat := if v ∈ L then L else L ++ [v]
def FrG (σ σ' : Mem) : Prop := Fr [35, 44] σ σ' ∧ ∀ j, j ≠ 14 → σ' 35 j = σ 35 j
theorem FrG.rf {σ : Mem} : FrG σ σ := ⟨Fr.rf, fun _ _ => rfl⟩
theorem FrG.tr {σ σ1 σ2 : Mem} (h1 : FrG σ σ1) (h2 : FrG σ1 σ2) : FrG σ σ2 := ⟨h1.1.tr h2.1, fun j a => (h2.2 j a).trans (h1.2 j a)⟩
theorem goL_len (L : List Nat) (v : Nat) : (goL L v).length ≤ L.length + 1 ∧ L.length ≤ (goL L v).length := by
  unfold goL
  split
  · omega
  · simp
theorem nI_iZ (z : Nat) : nI z = iZ (z : Int) := by
  unfold nI iZ
  rw [Int32.ofInt_eq_ofNat]
def hlv (N k v : Nat) (L : List Nat) : List Nat := match k with
  | 0 => L
  | k + 1 => if N / 2 ^ k % 2 = 1 then hlv N k (2 * v + 1) (goL (goL L (2 * v)) (2 * v + 1)) else hlv N k (2 * v) (goL L (2 * v))
def lgN (N : Nat) : Nat := ((List.range 20).find? (fun k => decide (N / 2 ^ k ≤ 1))).getD 0
theorem lgN_ok {N : Nat} (h : N < 131072) : N / 2 ^ lgN N ≤ 1 ∧ lgN N ≤ 16 ∧ ∀ k, k < lgN N → 1 < N / 2 ^ k := by
  unfold lgN
  cases hf : (List.range 20).find? (fun k => decide (N / 2 ^ k ≤ 1)) with
  | none =>
    rw [List.find?_eq_none] at hf
    have := hf 16 (List.mem_range.mpr (by omega))
    simp only [decide_eq_true_eq] at this
    have e : N / 2 ^ 16 ≤ 1 := by
      have : (2 : Nat) ^ 16 = 65536 := by decide
      rw [this]
      omega
    exact absurd e this
  | some F =>
    rw [List.find?_range_eq_some] at hf
    obtain ⟨f1, f2, f3⟩ := hf
    simp only [Option.getD_some]
    refine ⟨by simpa using f1, ?_, fun k hk => ?_⟩
    · rcases Nat.lt_or_ge 16 F with q | q
      · have := f3 16 q
        simp only [Bool.not_eq_true', decide_eq_false_iff_not] at this
        have e : N / 2 ^ 16 ≤ 1 := by
          have : (2 : Nat) ^ 16 = 65536 := by decide
          rw [this]
          omega
        exact absurd e this
      · exact q
    · have := f3 k hk
      simp only [Bool.not_eq_true', decide_eq_false_iff_not] at this
      omega
section MDL
variable {d n ca cb tr : Nat} {Q : PQ} {σ : Mem}
theorem m_isThere (hn : 54 ≤ n) {L : List Nat} {v : Nat} (hl : L.length ≤ 120) (hv : v ≤ 1000000) (hr : roadM σ L) (h1 : v ∈ L → Q (some (.int 1)) (rho ca cb tr) σ) (h0 : v ∉ L → Q (some (.int 0)) (rho ca cb tr) σ) : Mt M_X9_isThere d n n [.ref 35, .int (iZ v)] (rho ca cb tr) σ Q := by
  obtain ⟨r1, r2, r3⟩ := hr
  refine Mt.of rfl (by decide +kernel) tk_X9_isThere (Nat.le_of_ble_eq_true rfl) ?_
  refine V.run 2 54 rfl hn trivial ?_
  have key : ∀ j k : Nat, k + j = L.length → (∀ i, i < k → L.getD i 0 ≠ v) → V M_X9_isThere d n n none Q n (rho ca cb tr) σ 2 [some (.ref 35), some (.int (iZ (v))), some (.int (iZ (k)))] [] := by
    intro j
    induction j with
    | zero =>
      intro k hk h
      refine V.run 0 54 rfl hn trivial ?_
      try simp only [rf_told, rf_comes, rf_comeMany, rf_comeAt, rf_isSeen, rf_goals, rf_text, rf_taken, rf_roadRow, rf_dueNumber, rf_dueTimes, rf_above, rf_tree, rf_way, rf_signs, rf_spent, rf_read, rf_useMany, rf_lastUse, fi_9_0, fi_9_2, fi_9_3, fi_9_4, fi_9_6, fi_9_7, fi_9_14, fi_9_19, fi_9_24, fi_9_26, fi_9_27, fi_9_30]
      rw [r1]
      refine V.brT rfl ((iZ_le (by omega) (by omega)).mpr (by omega)) ?_
      refine V.run 0 54 rfl hn trivial ?_
      refine V.ret (v := some (.int 0)) rfl rfl ⟨rfl, Or.inl rfl⟩ rfl (h0 (fun q => by obtain ⟨i, hi, e⟩ := mem_getD q; exact h i (by omega) e))
    | succ j ih =>
      intro k hk h
      refine V.run 0 54 rfl hn trivial ?_
      try simp only [rf_told, rf_comes, rf_comeMany, rf_comeAt, rf_isSeen, rf_goals, rf_text, rf_taken, rf_roadRow, rf_dueNumber, rf_dueTimes, rf_above, rf_tree, rf_way, rf_signs, rf_spent, rf_read, rf_useMany, rf_lastUse, fi_9_0, fi_9_2, fi_9_3, fi_9_4, fi_9_6, fi_9_7, fi_9_14, fi_9_19, fi_9_24, fi_9_26, fi_9_27, fi_9_30]
      rw [r1]
      refine V.brF rfl (fun c => by have := (iZ_le (by omega) (by omega)).mp c; omega) ?_
      have hb := r3 _ (getD_mem2 (r := L) (i := k) (by omega))
      refine V.run 0 54 rfl hn ⟨in_N (n := 120) (by omega) (by decide), trivial⟩ ?_
      try simp only [rf_told, rf_comes, rf_comeMany, rf_comeAt, rf_isSeen, rf_goals, rf_text, rf_taken, rf_roadRow, rf_dueNumber, rf_dueTimes, rf_above, rf_tree, rf_way, rf_signs, rf_spent, rf_read, rf_useMany, rf_lastUse, fi_9_0, fi_9_2, fi_9_3, fi_9_4, fi_9_6, fi_9_7, fi_9_14, fi_9_19, fi_9_24, fi_9_26, fi_9_27, fi_9_30]
      rw [ix_N (by omega), r2 k (by omega)]
      refine V.br rfl (fun (c2 : iZ (L.getD k 0) = iZ v) => ?_) (fun (c2 : ¬ (iZ (L.getD k 0) = iZ v)) => ?_)
      · rw [iZ_eq (by omega) (by omega)] at c2
        refine V.run 0 54 rfl hn trivial ?_
        refine V.ret (v := some (.int 1)) rfl rfl ⟨rfl, Or.inr rfl⟩ rfl (h1 (by rw [show v = L.getD k 0 by omega]; exact getD_mem2 (by omega)))
      · rw [iZ_eq (by omega) (by omega)] at c2
        refine V.run 0 54 rfl hn trivial ?_
        have := ih (k + 1) (by omega) (fun i hi => by
          by_cases e : i = k
          · subst e; omega
          · exact h i (by omega))
        rw [show ((k + 1 : Nat) : Int) = (k : Int) + 1 by omega, ← iZ_add] at this
        exact this
  exact key L.length 0 (by omega) (fun i hi => by omega)
theorem m_go (hn : 54 ≤ n) (hd : 1 ≤ d) {L : List Nat} {v : Nat} (hl : L.length < 120) (hv : v ≤ 1000000) (hr : roadM σ L) (hQ : ∀ σ', roadM σ' (goL L v) → FrG σ σ' → Q none (rho ca cb tr) σ') : Mt M_X9_go d n n [.ref 35, .int (iZ v)] (rho ca cb tr) σ Q := by
  obtain ⟨r1, r2, r3⟩ := id hr
  refine Mt.of rfl (by decide +kernel) tk_X9_go (Nat.le_of_ble_eq_true rfl) ?_
  refine V.run 0 54 rfl hn trivial ?_
  refine V.cv (lo := 54) (d' := d - 1) rfl rfl ok_X9_isThere lk_9_X9_isThere rfl rfl rfl hn (by omega) (Nat.le_refl _) (Nat.le_refl _) ((m_isThere hn (by omega) hv hr (fun g => ?_) (fun g => ?_)))
  · refine V.brF rfl (by decide) ?_
    refine V.ret (v := none) rfl rfl rfl rfl (hQ σ (by unfold goL; rw [if_pos g]; exact hr) FrG.rf)
  · refine V.brT rfl rfl ?_
    refine V.run 0 54 rfl hn ⟨by rw [r1]; exact in_N (n := 120) (by omega) (by decide), trivial⟩ ?_
    try simp only [rf_told, rf_comes, rf_comeMany, rf_comeAt, rf_isSeen, rf_goals, rf_text, rf_taken, rf_roadRow, rf_dueNumber, rf_dueTimes, rf_above, rf_tree, rf_way, rf_signs, rf_spent, rf_read, rf_useMany, rf_lastUse, fi_9_0, fi_9_2, fi_9_3, fi_9_4, fi_9_6, fi_9_7, fi_9_14, fi_9_19, fi_9_24, fi_9_26, fi_9_27, fi_9_30]
    rw [r1, ix_N (by omega), up_ne (by decide), r1, iZ_add]
    refine V.ret (v := none) rfl rfl rfl rfl (?_)
    refine hQ _ ?_ ⟨Fr.putT (Fr.put (by simp)) (by simp), fun j hj => by rw [up_nat hj, up_ne (by decide)]⟩
    unfold goL
    rw [if_neg g]
    refine ⟨by rw [up_at]; simp, fun i hi => ?_, fun x hx => ?_⟩
    · rw [List.length_append, List.length_singleton] at hi
      rw [up_ne (by decide)]
      by_cases e : i = L.length
      · subst e
        rw [up_at]
        simp
      · rw [up_nat e, r2 i (by omega)]
        congr 2
        rw [List.getD_eq_getElem?_getD, List.getD_eq_getElem?_getD, List.getElem?_append_left (by omega)]
    · rcases List.mem_append.mp hx with q | q
      · exact r3 x q
      · rw [List.mem_singleton] at q; omega
theorem m_halves (hn : 54 ≤ n) (hd : 2 ≤ d) {N : Nat} {L : List Nat} (hN : 1 ≤ N ∧ N ≤ 100000) (hL : L.length ≤ 50) (hr : roadM σ L) (hQ : ∀ σ', roadM σ' (hlv N (lgN N) 1 L) → FrG σ σ' → Q none (rho ca cb tr) σ') : Mt M_X9_halves d n n [.ref 35, .int (iZ N)] (rho ca cb tr) σ Q := by
  obtain ⟨g1, g2, g3⟩ := lgN_ok (N := N) (by omega)
  refine Mt.of rfl (by decide +kernel) tk_X9_halves (Nat.le_of_ble_eq_true rfl) ?_
  refine V.run 2 54 rfl hn trivial ?_
  have hdv : ∀ k, N / 2 ^ k ≤ N := fun k => Nat.div_le_self _ _
  have esh : ∀ k : Nat, k < 32 → iZ (N : Int) >>> (iZ (k : Int) &&& 31) = iZ ((N / 2 ^ k : Nat) : Int) := fun k hk => by
    rw [iZ_shr (by omega) hk]
    exact iZ_pat (by simp)
  -- the numbers
  have loop : ∀ (k v : Nat) (L1 : List Nat) (σ1 : Mem), k ≤ 16 → (v + 1) * 2 ^ k ≤ 200000 → L1.length + 2 * k ≤ 100 → roadM σ1 L1 → FrG σ σ1 → (∀ σ', roadM σ' (hlv N k v L1) → FrG σ σ' → Q none (rho ca cb tr) σ') → V M_X9_halves d n n none Q n (rho ca cb tr) σ1 22 [some (.ref 35), some (.int (iZ (N))), some (.int (iZ (lgN N))), some (.int (iZ (v))), some (.int (iZ ((k : Int) - 1)))] [] := by
    intro k
    induction k with
    | zero =>
      intro v L1 σ1 hk hv hl hr1 hf hQ1
      refine V.run 0 54 rfl hn trivial ?_
      refine V.brT rfl (by decide) ?_
      refine V.ret (v := none) rfl rfl rfl rfl (hQ1 σ1 hr1 hf)
    | succ k ih =>
      intro v L1 σ1 hk hv hl hr1 hf hQ1
      have hp : 1 ≤ 2 ^ k := Nat.one_le_two_pow
      have hv2 : (2 * v + 1 + 1) * 2 ^ k ≤ 200000 := by
        rw [Nat.pow_succ] at hv
        rw [show 2 * v + 1 + 1 = (v + 1) * 2 by omega, Nat.mul_assoc, Nat.mul_comm 2]
        exact hv
      have hv4 : (2 * v + 1) * 2 ^ k ≤ 200000 := Nat.le_trans (Nat.mul_le_mul_right _ (by omega)) hv2
      have hv3 : 2 * v + 1 + 1 ≤ 200000 := Nat.le_trans (Nat.le_mul_of_pos_right _ (by omega)) hv2
      have h1 := goL_len L1 (2 * v)
      have hbit : iZ ((N / 2 ^ k : Nat) : Int) &&& iZ 1 = iZ ((N / 2 ^ k % 2 : Nat) : Int) := by
        have := hdv k
        have e := pk_andN (n := N / 2 ^ k) (by omega) (m := 1) 1 (by decide)
        rw [nI_iZ, Nat.pow_one, nI_iZ] at e
        exact e
      refine V.run 0 54 rfl hn trivial ?_
      refine V.brF rfl (fun q => by have := (iZ_lt0 (by omega)).mp q; omega) ?_
      refine V.run 0 54 rfl hn trivial ?_
      rw [iZ_mul, show (v : Int) * 2 = ((2 * v : Nat) : Int) by omega]
      refine V.cv (lo := 54) (d' := d - 1) rfl rfl ok_X9_go lk_9_X9_go rfl rfl rfl hn (by omega) (Nat.le_refl _) (Nat.le_refl _) ((m_go hn (by omega) (by omega) (by omega) hr1 (fun σ2 hr2 hf2 => ?_)))
      refine V.run 0 54 rfl hn trivial ?_
      rw [show ((k + 1 : Nat) : Int) - 1 = (k : Int) by omega, esh k (by omega), hbit]
      refine V.br rfl (fun (c : iZ ((N / 2 ^ k % 2 : Nat) : Int) = iZ 1) => ?_) (fun (c : ¬ (iZ ((N / 2 ^ k % 2 : Nat) : Int) = iZ 1)) => ?_)
      · rw [iZ_eq (by omega) (by omega)] at c
        unfold hlv at hQ1
        rw [if_pos (by omega)] at hQ1
        have h2 := goL_len (goL L1 (2 * v)) (2 * v + 1)
        refine V.run 0 54 rfl hn trivial ?_
        rw [iZ_add, show ((2 * v : Nat) : Int) + 1 = ((2 * v + 1 : Nat) : Int) by omega]
        refine V.cv (lo := 54) (d' := d - 1) rfl rfl ok_X9_go lk_9_X9_go rfl rfl rfl hn (by omega) (Nat.le_refl _) (Nat.le_refl _) ((m_go hn (by omega) (by omega) (by omega) hr2 (fun σ3 hr3 hf3 => ?_)))
        refine V.run 0 54 rfl hn trivial ?_
        have := ih (2 * v + 1) (goL (goL L1 (2 * v)) (2 * v + 1)) σ3 (by omega) hv2 (by omega) hr3 (hf.tr (hf2.tr hf3)) hQ1
        rw [show (k : Int) - 1 = (k : Int) + (-1) by omega, ← iZ_add] at this
        exact this
      · rw [iZ_eq (by omega) (by omega)] at c
        unfold hlv at hQ1
        rw [if_neg (by omega)] at hQ1
        refine V.run 0 54 rfl hn trivial ?_
        have := ih (2 * v) (goL L1 (2 * v)) σ2 (by omega) hv4 (by omega) hr2 (hf.tr hf2) hQ1
        rw [show (k : Int) - 1 = (k : Int) + (-1) by omega, ← iZ_add] at this
        exact this
  have hp2 : 2 ^ lgN N ≤ N := by
    rcases Nat.eq_zero_or_pos (lgN N) with q | q
    · rw [q]; simpa using hN.1
    · have := g3 (lgN N - 1) (by omega)
      have h2 : 2 * 2 ^ (lgN N - 1) ≤ N := by
        have h3 := (Nat.le_div_iff_mul_le (show 0 < 2 ^ (lgN N - 1) from Nat.pow_pos (by decide))).mp (show 2 ≤ N / 2 ^ (lgN N - 1) by omega)
        exact h3
      obtain ⟨e, he⟩ : ∃ e, lgN N = e + 1 := ⟨lgN N - 1, by omega⟩
      rw [he] at h2 ⊢
      rw [Nat.pow_succ]
      rw [Nat.add_sub_cancel] at h2
      omega
  have key : ∀ (j k : Nat), k + j = lgN N → V M_X9_halves d n n none Q n (rho ca cb tr) σ 2 [some (.ref 35), some (.int (iZ (N))), some (.int (iZ (k))), none, none] [] := by
    intro j
    induction j with
    | zero =>
      intro k hk
      have e : k = lgN N := by omega
      subst e
      refine V.run 0 54 rfl hn trivial ?_
      rw [esh _ (by omega)]
      have hq0 : ∃ q, q = N / 2 ^ lgN N ∧ q ≤ 1 := ⟨_, rfl, g1⟩
      obtain ⟨q, hq, hq1⟩ := hq0
      rw [← hq]
      refine V.brT rfl ((iZ_le (by omega) (by omega)).mpr (by omega)) ?_
      refine V.run 22 54 rfl hn trivial ?_
      rw [iZ_sub]
      exact loop (lgN N) 1 L σ (by omega) (by omega) (by omega) hr FrG.rf hQ
    | succ j ih =>
      intro k hk
      have h1 := g3 k (by omega)
      have h2 := hdv k
      refine V.run 0 54 rfl hn trivial ?_
      rw [esh _ (by omega)]
      refine V.brF rfl (fun q => by have := (iZ_le (by omega) (by omega)).mp q; omega) ?_
      refine V.run 0 54 rfl hn trivial ?_
      have := ih (k + 1) (by omega)
      rw [show ((k + 1 : Nat) : Int) = (k : Int) + 1 by omega, ← iZ_add] at this
      exact this
  exact key (lgN N) 0 (by omega)
end MDL
