/-! ===== the class: roads by halves and by signs ===== -/
def ad (L : List Nat) (v : Nat) : List Nat := if v = 0 then L else goL L v
theorem ad_len (L : List Nat) (v : Nat) : (ad L v).length ≤ L.length + 1 := by
  unfold ad
  split
  · omega
  · exact (goL_len L v).1
theorem goL_mem {L : List Nat} {v : Nat} : v ∈ goL L v := by
  unfold goL
  split
  · assumption
  · simp
theorem goL_in {L : List Nat} {v : Nat} (h : v ∈ L) : goL L v = L := by
  unfold goL
  rw [if_pos h]
theorem goL_two (L : List Nat) (v : Nat) : goL (goL L v) v = goL L v := goL_in goL_mem
theorem ad_pos {L : List Nat} {v : Nat} (h : 1 ≤ v) : ad L v = goL L v := by
  unfold ad
  rw [if_neg (by omega)]
theorem ad_zero (L : List Nat) : ad L 0 = L := by
  unfold ad
  rw [if_pos rfl]
/-- two numbers to a place, from the top -/
def clD (w : Nat → Nat) (k : Nat) (L : List Nat) : List Nat := match k with
  | 0 => L
  | k + 1 => clD w k (ad (ad L (2 * w (k + 1))) (w k))
theorem clD_len (w : Nat → Nat) : ∀ (k : Nat) (L : List Nat), (clD w k L).length ≤ L.length + 2 * k
  | 0, L => Nat.le_refl _
  | k + 1, L => by
    have h := clD_len w k (ad (ad L (2 * w (k + 1))) (w k))
    have h1 := ad_len (ad L (2 * w (k + 1))) (w k)
    have h2 := ad_len L (2 * w (k + 1))
    show (clD w k (ad (ad L (2 * w (k + 1))) (w k))).length ≤ _
    omega
theorem clD_top {w : Nat → Nat} {m : Nat} (h0 : ∀ k, m ≤ k → w k = 0) (hm : 1 ≤ m) (h1 : w (m - 1) = 1) : ∀ j, clD w (m + j) [] = clD w (m - 1) [1]
  | 0 => by
    obtain ⟨k, rfl⟩ : ∃ k, m = k + 1 := ⟨m - 1, by omega⟩
    rw [Nat.add_zero, Nat.add_sub_cancel] at *
    show clD w k (ad (ad [] (2 * w (k + 1))) (w k)) = _
    rw [h0 (k + 1) (Nat.le_refl _), h1]
    rfl
  | j + 1 => by
    show clD w (m + j) (ad (ad [] (2 * w (m + j + 1))) (w (m + j))) = _
    rw [h0 (m + j + 1) (by omega), h0 (m + j) (by omega)]
    exact clD_top h0 hm h1 j
theorem half_step (N k : Nat) : N / 2 ^ k = 2 * (N / 2 ^ (k + 1)) + N / 2 ^ k % 2 := by
  rw [Nat.pow_succ, ← Nat.div_div_eq_div_mul]
  omega
theorem clD_halves {N : Nat} : ∀ (k : Nat) (L : List Nat), 1 ≤ N / 2 ^ k → clD (fun k => N / 2 ^ k) k L = hlv N k (N / 2 ^ k) L
  | 0, L, _ => rfl
  | k + 1, L, h => by
    have hs := half_step N k
    have hm := Nat.mod_lt (N / 2 ^ k) (show 0 < 2 by decide)
    have ih := fun L => clD_halves (N := N) k L (by omega)
    show clD (fun k => N / 2 ^ k) k (ad (ad L (2 * (N / 2 ^ (k + 1)))) (N / 2 ^ k)) = _
    rw [ih, ad_pos (by omega), ad_pos (by omega)]
    show _ = (if N / 2 ^ k % 2 = 1 then hlv N k (2 * (N / 2 ^ (k + 1)) + 1) (goL (goL L (2 * (N / 2 ^ (k + 1)))) (2 * (N / 2 ^ (k + 1)) + 1)) else hlv N k (2 * (N / 2 ^ (k + 1))) (goL L (2 * (N / 2 ^ (k + 1)))))
    by_cases hb : N / 2 ^ k % 2 = 1
    · rw [if_pos hb, show N / 2 ^ k = 2 * (N / 2 ^ (k + 1)) + 1 by omega]
    · rw [if_neg hb, show N / 2 ^ k = 2 * (N / 2 ^ (k + 1)) by omega, goL_two]
theorem halves_eq {N : Nat} (hN : 1 ≤ N ∧ N ≤ 100000) : clD (fun k => N / 2 ^ k) 17 [] = hlv N (lgN N) 1 [1] := by
  obtain ⟨l1, l2, l3⟩ := lgN_ok (N := N) (by omega)
  have hlg : N / 2 ^ lgN N = 1 := by
    rcases Nat.eq_zero_or_pos (lgN N) with q | q
    · rw [q] at l1 ⊢
      simp at l1 ⊢
      omega
    · have h1 := l3 (lgN N - 1) (by omega)
      have h2 := half_step N (lgN N - 1)
      rw [show lgN N - 1 + 1 = lgN N by omega] at h2
      omega
  have h0 : ∀ k, lgN N + 1 ≤ k → N / 2 ^ k = 0 := fun k hk => by
    obtain ⟨j, rfl⟩ : ∃ j, k = lgN N + 1 + j := ⟨k - (lgN N + 1), by omega⟩
    rw [Nat.add_assoc, Nat.pow_add, ← Nat.div_div_eq_div_mul, hlg]
    apply Nat.div_eq_of_lt
    rw [Nat.add_comm, Nat.pow_succ]
    have : 0 < 2 ^ j := Nat.pow_pos (by decide)
    omega
  have ht := clD_top (w := fun k => N / 2 ^ k) (m := lgN N + 1) h0 (by omega) (by rw [Nat.add_sub_cancel]; exact hlg) (16 - lgN N)
  rw [show lgN N + 1 + (16 - lgN N) = 17 by omega, Nat.add_sub_cancel] at ht
  rw [ht, clD_halves (lgN N) [1] (by omega), hlg]
/-! by signs: the figures of 3 N less those of N -/
theorem wN_diff (N : Nat) : ∀ k, ∃ c, c ≤ 2 ∧ 3 * N / 2 ^ (k + 1) = 3 * (N / 2 ^ (k + 1)) + c ∧ wN N k = 2 * (N / 2 ^ (k + 1)) + c
  | 0 => by
    refine ⟨3 * N / 2 ^ 1 - 3 * (N / 2 ^ 1), ?_, ?_, ?_⟩
    · simp only [Nat.reducePow]; omega
    · simp only [Nat.reducePow]; omega
    · show N = _
      simp only [Nat.reducePow]; omega
  | k + 1 => by
    obtain ⟨c, h1, h2, h3⟩ := wN_diff N k
    have e1 : 3 * N / 2 ^ (k + 1 + 1) = 3 * N / 2 ^ (k + 1) / 2 := by rw [Nat.pow_succ, ← Nat.div_div_eq_div_mul]
    have e2 : N / 2 ^ (k + 1 + 1) = N / 2 ^ (k + 1) / 2 := by rw [Nat.pow_succ, ← Nat.div_div_eq_div_mul]
    rw [e1, e2, h2]
    generalize N / 2 ^ (k + 1) = B at *
    refine ⟨(3 * B + c) / 2 - 3 * (B / 2), by omega, by omega, ?_⟩
    show nxW (wN N k) = _
    rw [h3]
    unfold nxW
    split <;> omega
theorem wN_fig (N k : Nat) : (wN N k : Int) = 2 * (wN N (k + 1) : Int) + (((3 * N / 2 ^ (k + 1) % 2 : Nat) : Int) - ((N / 2 ^ (k + 1) % 2 : Nat) : Int)) := by
  obtain ⟨c, h1, h2, h3⟩ := wN_diff N k
  obtain ⟨c', h1', h2', h3'⟩ := wN_diff N (k + 1)
  have e1 : 3 * N / 2 ^ (k + 1 + 1) = 3 * N / 2 ^ (k + 1) / 2 := by rw [Nat.pow_succ, ← Nat.div_div_eq_div_mul]
  have e2 : N / 2 ^ (k + 1 + 1) = N / 2 ^ (k + 1) / 2 := by rw [Nat.pow_succ, ← Nat.div_div_eq_div_mul]
  rw [e1, e2] at h2'
  rw [e2] at h3'
  rw [h3, h3']
  rw [h2] at h2' ⊢
  generalize N / 2 ^ (k + 1) = B at *
  omega
theorem clD_signs {N : Nat} : ∀ (k : Nat) (L : List Nat), (∀ j, j ≤ k → 1 ≤ wN N j) → clD (wN N) k L = sgL N k L
  | 0, L, _ => rfl
  | k + 1, L, h => by
    have h1 := h (k + 1) (Nat.le_refl _)
    have h2 := h k (by omega)
    have ih := fun L => clD_signs (N := N) k L (fun j hj => h j (by omega))
    have hw := wsg (wN N k)
    have e : nxW (wN N k) = wN N (k + 1) := rfl
    rw [e] at hw
    show clD (wN N) k (ad (ad L (2 * wN N (k + 1))) (wN N k)) = sgL N k (if sgW (wN N k) = 0 then goL L (2 * wN N (k + 1)) else goL (goL L (2 * wN N (k + 1))) (wN N k))
    rw [ih, ad_pos (by omega), ad_pos (by omega)]
    by_cases hb : sgW (wN N k) = 0
    · rw [if_pos hb, show wN N k = 2 * wN N (k + 1) by omega, goL_two]
    · rw [if_neg hb]
theorem wN_zero {N m : Nat} (h : wN N m = 0) : ∀ j, wN N (m + j) = 0
  | 0 => h
  | j + 1 => by
    show nxW (wN N (m + j)) = 0
    rw [wN_zero h j]
    rfl
theorem signs_eq {N : Nat} (hN : 1 ≤ N ∧ N ≤ 100000) : clD (wN N) 18 [] = sgL N (mnW N - 1) [1] := by
  obtain ⟨l1, l2, l3, l4, l5⟩ := mnW_ok hN
  have ht := clD_top (w := wN N) (m := mnW N) (fun k hk => by
    have := wN_zero l1 (k - mnW N)
    rw [show mnW N + (k - mnW N) = k by omega] at this
    exact this) l2 l5 (18 - mnW N)
  rw [show mnW N + (18 - mnW N) = 18 by omega] at ht
  rw [ht, clD_signs (mnW N - 1) [1] (fun j hj => l4 j (by omega))]
def rodM (σ : Mem) (L : List Nat) : Prop := L.length ≤ 64 ∧ σ 23 1 = iZ L.length ∧ (∀ i, i < L.length → σ 24 i = iZ (L.getD i 0)) ∧ (∀ x ∈ L, x ≤ 1000000)
theorem rodM.fr {S : List Nat} {σ σ' : Mem} {L : List Nat} (h : rodM σ L) (hf : Fr S σ σ') (h1 : 23 ∉ S) (h2 : 24 ∉ S) : rodM σ' L := by
  unfold rodM at *
  rw [hf 23 h1, hf 24 h2]
  exact h
def FrO (σ σ' : Mem) : Prop := Fr [23, 24] σ σ' ∧ ∀ j, j ≠ 1 → σ' 23 j = σ 23 j
theorem FrO.rf {σ : Mem} : FrO σ σ := ⟨Fr.rf, fun _ _ => rfl⟩
theorem FrO.tr {σ σ1 σ2 : Mem} (h1 : FrO σ σ1) (h2 : FrO σ1 σ2) : FrO σ σ2 := ⟨h1.1.tr h2.1, fun j a => (h2.2 j a).trans (h1.2 j a)⟩
section CR1
variable {d n ca cb tr : Nat} {Q : PQ} {σ : Mem}
theorem c_rholds (hn : 54 ≤ n) {L : List Nat} {v : Nat} (hv : v ≤ 1000000) (hr : rodM σ L) (h1 : v ∈ L → Q (some (.int 1)) (rho ca cb tr) σ) (h0 : v ∉ L → Q (some (.int 0)) (rho ca cb tr) σ) : Mt M_X4_holds d n n [.ref 23, .int (iZ v)] (rho ca cb tr) σ Q := by
  obtain ⟨r1, r2, r3, r4⟩ := id hr
  refine Mt.of rfl (by decide +kernel) tk_X4_holds (Nat.le_of_ble_eq_true rfl) ?_
  refine V.run 2 54 rfl hn trivial ?_
  have key : ∀ (j i : Nat), i + j = L.length → (∀ t, t < i → L.getD t 0 ≠ v) → V M_X4_holds d n n none Q n (rho ca cb tr) σ 2 [some (.ref 23), some (.int (iZ (v))), some (.int (iZ (i)))] [] := by
    intro j
    induction j with
    | zero =>
      intro i hi hno
      refine V.run 0 54 rfl hn trivial ?_
      try simp only [rc_1_0, rc_1_1, rc_1_2, rc_1_3, rc_1_4, rc_1_5, rc_2_0, rc_2_1, rc_2_2, rc_6_0, rc_6_1, rc_6_2, rc_6_3, rc_7_0, rc_7_1, rc_7_2, rc_7_3, rc_12_0, rc_12_1, rc_12_2, rc_12_3, rc_18_0, rc_18_1, rc_20_0, rc_20_1, rc_22_0, rc_23_0, rc_25_0, rc_27_0, rc_27_1, rc_27_2, rc_31_0, rc_31_1, rc_31_2, rc_55_0, rc_55_1, rc_55_2, rc_1_6, rc_1_7, rc_23_2, fi_0_1, fi_0_2, fi_0_3, fi_1_3, fi_1_4, fi_1_5, fi_1_6, fi_1_7, fi_2_2, fi_3_3, fi_3_4, fi_3_5, fi_4_1, fi_5_4, fi_5_5, fi_5_6, fi_5_7, fi_5_8, fi_5_9, fi_6_1, fi_7_3, fi_7_4]
      rw [r2]
      refine V.brT rfl ((iZ_le (by omega) (by omega)).mpr (by omega)) ?_
      refine V.run 0 54 rfl hn trivial ?_
      have hnm : v ∉ L := fun q => by
        obtain ⟨t, ht, e⟩ := mem_getD q
        exact hno t (by omega) e
      refine V.ret (v := some (.int 0)) rfl rfl ⟨rfl, Or.inl rfl⟩ rfl (h0 hnm)
    | succ j ih =>
      intro i hi hno
      have hb := r4 _ (getD_mem2 (r := L) (i := i) (by omega))
      refine V.run 0 54 rfl hn trivial ?_
      try simp only [rc_1_0, rc_1_1, rc_1_2, rc_1_3, rc_1_4, rc_1_5, rc_2_0, rc_2_1, rc_2_2, rc_6_0, rc_6_1, rc_6_2, rc_6_3, rc_7_0, rc_7_1, rc_7_2, rc_7_3, rc_12_0, rc_12_1, rc_12_2, rc_12_3, rc_18_0, rc_18_1, rc_20_0, rc_20_1, rc_22_0, rc_23_0, rc_25_0, rc_27_0, rc_27_1, rc_27_2, rc_31_0, rc_31_1, rc_31_2, rc_55_0, rc_55_1, rc_55_2, rc_1_6, rc_1_7, rc_23_2, fi_0_1, fi_0_2, fi_0_3, fi_1_3, fi_1_4, fi_1_5, fi_1_6, fi_1_7, fi_2_2, fi_3_3, fi_3_4, fi_3_5, fi_4_1, fi_5_4, fi_5_5, fi_5_6, fi_5_7, fi_5_8, fi_5_9, fi_6_1, fi_7_3, fi_7_4]
      rw [r2]
      refine V.brF rfl (fun q => by have := (iZ_le (by omega) (by omega)).mp q; omega) ?_
      refine V.run 0 54 rfl hn ⟨in_N (n := 64) (by omega) (by decide), trivial⟩ ?_
      try simp only [rc_1_0, rc_1_1, rc_1_2, rc_1_3, rc_1_4, rc_1_5, rc_2_0, rc_2_1, rc_2_2, rc_6_0, rc_6_1, rc_6_2, rc_6_3, rc_7_0, rc_7_1, rc_7_2, rc_7_3, rc_12_0, rc_12_1, rc_12_2, rc_12_3, rc_18_0, rc_18_1, rc_20_0, rc_20_1, rc_22_0, rc_23_0, rc_25_0, rc_27_0, rc_27_1, rc_27_2, rc_31_0, rc_31_1, rc_31_2, rc_55_0, rc_55_1, rc_55_2, rc_1_6, rc_1_7, rc_23_2, fi_0_1, fi_0_2, fi_0_3, fi_1_3, fi_1_4, fi_1_5, fi_1_6, fi_1_7, fi_2_2, fi_3_3, fi_3_4, fi_3_5, fi_4_1, fi_5_4, fi_5_5, fi_5_6, fi_5_7, fi_5_8, fi_5_9, fi_6_1, fi_7_3, fi_7_4]
      rw [ix_N (by omega), r3 i (by omega)]
      refine V.br rfl (fun (c : iZ (L.getD i 0) = iZ v) => ?_) (fun (c : ¬ (iZ (L.getD i 0) = iZ v)) => ?_)
      · rw [iZ_eq (by omega) (by omega)] at c
        refine V.run 0 54 rfl hn trivial ?_
        refine V.ret (v := some (.int 1)) rfl rfl ⟨rfl, Or.inr rfl⟩ rfl (h1 (by rw [show v = L.getD i 0 by omega]; exact getD_mem2 (by omega)))
      · rw [iZ_eq (by omega) (by omega)] at c
        refine V.run 0 54 rfl hn trivial ?_
        have := ih (i + 1) (by omega) (fun t ht => by
          by_cases e : t = i
          · subst e; omega
          · exact hno t (by omega))
        rw [show ((i + 1 : Nat) : Int) = (i : Int) + 1 by omega, ← iZ_add] at this
        exact this
  exact key L.length 0 (by omega) (fun t ht => by omega)
theorem c_radd (hn : 54 ≤ n) (hd : 1 ≤ d) {L : List Nat} {v : Nat} (hl : L.length < 64) (hv : v ≤ 1000000) (hr : rodM σ L) (hQ : ∀ σ', rodM σ' (ad L v) → FrO σ σ' → Q none (rho ca cb tr) σ') : Mt M_X4_add d n n [.ref 23, .int (iZ v)] (rho ca cb tr) σ Q := by
  obtain ⟨r1, r2, r3, r4⟩ := id hr
  refine Mt.of rfl (by decide +kernel) tk_X4_add (Nat.le_of_ble_eq_true rfl) ?_
  refine V.run 0 54 rfl hn trivial ?_
  refine V.br rfl (fun (c : iZ v ≤ 0) => ?_) (fun (c : ¬ (iZ v ≤ 0)) => ?_)
  · rw [iZ_le0 (by omega)] at c
    rw [show v = 0 by omega, ad_zero] at hQ
    refine V.ret (v := none) rfl rfl rfl rfl (hQ σ hr FrO.rf)
  · rw [iZ_le0 (by omega)] at c
    rw [ad_pos (by omega)] at hQ
    unfold goL at hQ
    refine V.run 0 54 rfl hn trivial ?_
    try simp only [rc_1_0, rc_1_1, rc_1_2, rc_1_3, rc_1_4, rc_1_5, rc_2_0, rc_2_1, rc_2_2, rc_6_0, rc_6_1, rc_6_2, rc_6_3, rc_7_0, rc_7_1, rc_7_2, rc_7_3, rc_12_0, rc_12_1, rc_12_2, rc_12_3, rc_18_0, rc_18_1, rc_20_0, rc_20_1, rc_22_0, rc_23_0, rc_25_0, rc_27_0, rc_27_1, rc_27_2, rc_31_0, rc_31_1, rc_31_2, rc_55_0, rc_55_1, rc_55_2, rc_1_6, rc_1_7, rc_23_2, fi_0_1, fi_0_2, fi_0_3, fi_1_3, fi_1_4, fi_1_5, fi_1_6, fi_1_7, fi_2_2, fi_3_3, fi_3_4, fi_3_5, fi_4_1, fi_5_4, fi_5_5, fi_5_6, fi_5_7, fi_5_8, fi_5_9, fi_6_1, fi_7_3, fi_7_4]
    rw [r2]
    refine V.brF rfl (fun q => by have := (iZ_le (by omega) (by omega)).mp q; omega) ?_
    refine V.run 0 54 rfl hn trivial ?_
    refine V.cv (lo := 54) (d' := d - 1) rfl rfl ok_X4_holds lk_4_X4_holds rfl rfl rfl hn (by omega) (Nat.le_refl _) (Nat.le_refl _) ((c_rholds hn hv hr (fun g => ?_) (fun g => ?_)))
    · rw [if_pos g] at hQ
      refine V.brF rfl (by decide) ?_
      refine V.ret (v := none) rfl rfl rfl rfl (hQ σ hr FrO.rf)
    · rw [if_neg g] at hQ
      refine V.brT rfl rfl ?_
      refine V.run 0 54 rfl hn ⟨by (simp only [rc_23_0, fi_4_1, r2]; exact in_N (n := 64) (by omega) (by decide)), trivial⟩ ?_
      try simp only [rc_1_0, rc_1_1, rc_1_2, rc_1_3, rc_1_4, rc_1_5, rc_2_0, rc_2_1, rc_2_2, rc_6_0, rc_6_1, rc_6_2, rc_6_3, rc_7_0, rc_7_1, rc_7_2, rc_7_3, rc_12_0, rc_12_1, rc_12_2, rc_12_3, rc_18_0, rc_18_1, rc_20_0, rc_20_1, rc_22_0, rc_23_0, rc_25_0, rc_27_0, rc_27_1, rc_27_2, rc_31_0, rc_31_1, rc_31_2, rc_55_0, rc_55_1, rc_55_2, rc_1_6, rc_1_7, rc_23_2, fi_0_1, fi_0_2, fi_0_3, fi_1_3, fi_1_4, fi_1_5, fi_1_6, fi_1_7, fi_2_2, fi_3_3, fi_3_4, fi_3_5, fi_4_1, fi_5_4, fi_5_5, fi_5_6, fi_5_7, fi_5_8, fi_5_9, fi_6_1, fi_7_3, fi_7_4]
      rw [r2, ix_N (by omega)]
      refine V.ret (v := none) rfl rfl rfl rfl (hQ _ ⟨?_, ?_, fun i hi => ?_, fun x hx => ?_⟩ ⟨Fr.putT (Fr.put (by simp)) (by simp), fun j hj => by rw [up_nat hj, up_ne (by decide)]⟩)
      · rw [List.length_append, List.length_singleton]; omega
      · rw [up_at, up_ne (by decide), r2, iZ_add, List.length_append, List.length_singleton]
        exact iZ_pat (by omega)
      · rw [up_ne (by decide)]
        rw [List.length_append, List.length_singleton] at hi
        by_cases e : i = L.length
        · rw [e, up_at, getD_last]
        · rw [up_nat e, r3 i (by omega), getD_app (by omega)]
      · rcases List.mem_append.mp hx with q | q
        · exact r4 x q
        · rw [List.mem_singleton] at q; omega
theorem c_addDF (hn : 54 ≤ n) (hd : 2 ≤ d) {L : List Nat} {a b : Nat} {f : Int} (hf : (b : Int) = 2 * (a : Int) + f) (hl : L.length < 63) (ha : a ≤ 200000) (hb : b ≤ 1000000) (hr : rodM σ L) (hQ : ∀ σ', rodM σ' (ad (ad L (2 * a)) b) → FrO σ σ' → Q (some (.int (iZ b))) (rho ca cb tr) σ') : Mt M_X4_addDoubledAndFigure d n n [.ref 23, .int (iZ a), .int (iZ f)] (rho ca cb tr) σ Q := by
  have h1 := ad_len L (2 * a)
  refine Mt.of rfl (by decide +kernel) tk_X4_addDoubledAndFigure (Nat.le_of_ble_eq_true rfl) ?_
  refine V.run 0 54 rfl hn trivial ?_
  rw [iZ_mul, show (2 : Int) * (a : Int) = ((2 * a : Nat) : Int) by omega]
  refine V.cv (lo := 54) (d' := d - 1) rfl rfl ok_X4_add lk_4_X4_add rfl rfl rfl hn (by omega) (Nat.le_refl _) (Nat.le_refl _) ((c_radd hn (by omega) (by omega) (by omega) hr (fun σ1 hr1 hf1 => ?_)))
  refine V.run 0 54 rfl hn trivial ?_
  rw [iZ_mul, iZ_add, ← hf]
  refine V.cv (lo := 54) (d' := d - 1) rfl rfl ok_X4_add lk_4_X4_add rfl rfl rfl hn (by omega) (Nat.le_refl _) (Nat.le_refl _) ((c_radd hn (by omega) (by omega) hb hr1 (fun σ2 hr2 hf2 => ?_)))
  refine V.run 0 54 rfl hn trivial ?_
  rw [iZ_mul, iZ_add, ← hf]
  refine V.ret (v := some (.int (iZ b))) rfl rfl rfl rfl (hQ σ2 hr2 (hf1.tr hf2))
theorem c_addHalves (hn : 54 ≤ n) (hd : 3 ≤ d) {N : Nat} (hN : 1 ≤ N ∧ N ≤ 100000) (hr : rodM σ []) (hQ : ∀ σ', rodM σ' (hlv N (lgN N) 1 [1]) → FrO σ σ' → Q none (rho ca cb tr) σ') : Mt M_X4_addHalves d n n [.ref 23, .int (iZ N)] (rho ca cb tr) σ Q := by
  rw [← halves_eq hN] at hQ
  refine Mt.of rfl (by decide +kernel) tk_X4_addHalves (Nat.le_of_ble_eq_true rfl) ?_
  refine V.run 5 54 rfl hn trivial ?_
  have key : ∀ (k : Nat) (L : List Nat) (σ1 : Mem), k ≤ 17 → rodM σ1 L → FrO σ σ1 → L.length + 2 * k ≤ 34 → (∀ σ', rodM σ' (clD (fun k => N / 2 ^ k) k L) → FrO σ σ' → Q none (rho ca cb tr) σ') → V M_X4_addHalves d n n none Q n (rho ca cb tr) σ1 5 [some (.ref 23), some (.int (iZ (N))), some (.int (iZ ((N / 2 ^ k : Nat)))), some (.int (iZ (((k : Int) - 1))))] [] := by
    intro k
    induction k with
    | zero =>
      intro L σ1 hk hr1 hf1 hl hQ1
      refine V.run 0 54 rfl hn trivial ?_
      refine V.brT rfl (by decide) ?_
      refine V.ret (v := none) rfl rfl rfl rfl (hQ1 σ1 hr1 hf1)
    | succ k ih =>
      intro L σ1 hk hr1 hf1 hl hQ1
      have hs := half_step N k
      have hm := Nat.mod_lt (N / 2 ^ k) (show 0 < 2 by decide)
      have hd1 : N / 2 ^ k ≤ N := Nat.div_le_self _ _
      have h1 := ad_len L (2 * (N / 2 ^ (k + 1)))
      have h2 := ad_len (ad L (2 * (N / 2 ^ (k + 1)))) (N / 2 ^ k)
      refine V.run 0 54 rfl hn trivial ?_
      refine V.brF rfl (fun q => by have := (iZ_lt0 (by omega)).mp q; omega) ?_
      refine V.run 0 54 rfl hn trivial ?_
      rw [show (((k + 1 : Nat) : Int) - 1) = (k : Int) by omega, iZ_shr (by omega) (by omega), show (N : Int) / 2 ^ k = ((N / 2 ^ k : Nat) : Int) by simp, and_one (by omega)]
      refine V.cv (lo := 54) (d' := d - 1) rfl rfl ok_X4_addDoubledAndFigure lk_4_X4_addDoubledAndFigure rfl rfl rfl hn (by omega) (Nat.le_refl _) (Nat.le_refl _) ((c_addDF hn (by omega) (b := N / 2 ^ k) (by omega) (by omega) (by omega) (by omega) hr1 (fun σ2 hr2 hf2 => ?_)))
      refine V.run 0 54 rfl hn trivial ?_
      have := ih (ad (ad L (2 * (N / 2 ^ (k + 1)))) (N / 2 ^ k)) σ2 (by omega) hr2 (hf1.tr hf2) (by omega) (fun σ' a b => hQ1 σ' a b)
      rw [show ((k : Nat) : Int) - 1 = (k : Int) + (-1) by omega, ← iZ_add] at this
      exact this
  have h17 : N / 2 ^ 17 = 0 := Nat.div_eq_of_lt (by have : (2 : Nat) ^ 17 = 131072 := by decide
                                                    omega)
  have := key 17 [] σ (by omega) hr FrO.rf (by simp) hQ
  rw [h17] at this
  exact this
theorem c_addSigns (hn : 54 ≤ n) (hd : 3 ≤ d) {N : Nat} (hN : 1 ≤ N ∧ N ≤ 100000) (hr : rodM σ []) (hQ : ∀ σ', rodM σ' (sgL N (mnW N - 1) [1]) → FrO σ σ' → Q none (rho ca cb tr) σ') : Mt M_X4_addSigns d n n [.ref 23, .int (iZ N)] (rho ca cb tr) σ Q := by
  rw [← signs_eq hN] at hQ
  refine Mt.of rfl (by decide +kernel) tk_X4_addSigns (Nat.le_of_ble_eq_true rfl) ?_
  refine V.run 5 54 rfl hn trivial ?_
  have key : ∀ (k : Nat) (L : List Nat) (σ1 : Mem) (x4 : Option Value), k ≤ 18 → rodM σ1 L → FrO σ σ1 → L.length + 2 * k ≤ 36 → (∀ σ', rodM σ' (clD (wN N) k L) → FrO σ σ' → Q none (rho ca cb tr) σ') → V M_X4_addSigns d n n none Q n (rho ca cb tr) σ1 5 [some (.ref 23), some (.int (iZ (N))), some (.int (iZ ((wN N k)))), some (.int (iZ (((k : Int) - 1)))), x4] [] := by
    intro k
    induction k with
    | zero =>
      intro L σ1 x4 hk hr1 hf1 hl hQ1
      refine V.run 0 54 rfl hn trivial ?_
      refine V.brT rfl (by decide) ?_
      refine V.ret (v := none) rfl rfl rfl rfl (hQ1 σ1 hr1 hf1)
    | succ k ih =>
      intro L σ1 x4 hk hr1 hf1 hl hQ1
      have hfg := wN_fig N k
      have hb1 := wN_le N k
      have hb2 := wN_le N (k + 1)
      have h1 := ad_len L (2 * wN N (k + 1))
      have h2 := ad_len (ad L (2 * wN N (k + 1))) (wN N k)
      have e1 : iZ ((((k + 1 : Nat) : Int) - 1)) + iZ 1 = iZ ((k + 1 : Nat) : Int) := by
        rw [iZ_add]
        exact iZ_pat (by omega)
      refine V.run 0 54 rfl hn trivial ?_
      refine V.brF rfl (fun q => by have := (iZ_lt0 (by omega)).mp q; omega) ?_
      refine V.run 0 54 rfl hn trivial ?_
      have hq1 : 3 * N / 2 ^ (k + 1) ≤ 3 * N := Nat.div_le_self _ _
      have hq2 : N / 2 ^ (k + 1) ≤ N := Nat.div_le_self _ _
      rw [e1, iZ_mul, show (3 : Int) * (N : Int) = ((3 * N : Nat) : Int) by omega, iZ_shr (by omega) (by omega), iZ_shr (by omega) (by omega), show ((3 * N : Nat) : Int) / 2 ^ (k + 1) = ((3 * N / 2 ^ (k + 1) : Nat) : Int) by simp, show (N : Int) / 2 ^ (k + 1) = ((N / 2 ^ (k + 1) : Nat) : Int) by simp, and_one (by omega), and_one (by omega), iZ_sub]
      refine V.cv (lo := 54) (d' := d - 1) rfl rfl ok_X4_addDoubledAndFigure lk_4_X4_addDoubledAndFigure rfl rfl rfl hn (by omega) (Nat.le_refl _) (Nat.le_refl _) ((c_addDF hn (by omega) (b := wN N k) hfg (by omega) (by omega) (by omega) hr1 (fun σ2 hr2 hf2 => ?_)))
      refine V.run 0 54 rfl hn trivial ?_
      have := ih (ad (ad L (2 * wN N (k + 1))) (wN N k)) σ2 (some (.int (iZ (((3 * N / 2 ^ (k + 1) % 2 : Nat) : Int) - ((N / 2 ^ (k + 1) % 2 : Nat) : Int))))) (by omega) hr2 (hf1.tr hf2) (by omega) (fun σ' a b => hQ1 σ' a b)
      rw [show ((k : Nat) : Int) - 1 = (((k + 1 : Nat) : Int) - 1) + (-1) by omega, ← iZ_add (((k + 1 : Nat) : Int) - 1) (-1)] at this
      exact this
  have := key 18 [] σ none (by omega) hr FrO.rf (by simp) hQ
  rw [wN_bd hN.2] at this
  exact this
end CR1
