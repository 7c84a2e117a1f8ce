/-! ===== the class: search, stepsTo, rowsTo, numberOfFirst ===== -/
def SH : List Nat := [2, 3, 4, 5, 6, 8, 9, 10, 11, 13, 14, 15, 16, 17]
def resS (all : Bool) (K N c : Nat) (f : Option (List Nat)) (σ σ' : Mem) (z : Int) : Prop := (all = true ∧ z = c ∧ (∀ j, j < 7 → σ' 6 j = σ 6 j) ∧ σ' 17 = σ 17) ∨ (all = false ∧ f = none ∧ z = 0 ∧ (∀ j, j < 7 → σ' 6 j = σ 6 j) ∧ σ' 17 = σ 17) ∨ (all = false ∧ ∃ row, f = some row ∧ z = 1 ∧ foundM σ' K N row)
def trI0 (σ : Mem) : Prop := ∃ k0 r, trialM σ k0 r
def stI (σ : Mem) : Prop := ∀ K N, K ≤ 3 → N ≤ 160 → σ (8 + K) N = iZ 0 ∨ (okN K N ∧ 2 ≤ N ∧ σ (8 + K) N = iZ (feF K N))
def roI (σ : Mem) : Prop := ∀ K N, K ≤ 3 → N ≤ 80 → σ (13 + K) N = iZ 0 ∨ (okN K N ∧ 2 ≤ N ∧ σ (13 + K) N = iZ (cnt K N (mostOf K N) (feF K N) [1]))
def foI (σ : Mem) : Prop := σ 6 5 = iZ (-4) ∨ ∃ K N, okN K N ∧ 2 ≤ N ∧ foundM σ K N (firstRow K N)
def shortI (σ : Mem) : Prop := trI0 σ ∧ stI σ ∧ roI σ ∧ foI σ
theorem foI.same {σ σ' : Mem} (h : foI σ) (h1 : ∀ j, j < 7 → σ' 6 j = σ 6 j) (h2 : σ' 17 = σ 17) : foI σ' := by
  unfold foI foundM foundL at *
  rw [h2, h1 4 (by decide), h1 5 (by decide), h1 6 (by decide)]
  exact h
theorem shortI.fr {S : List Nat} {σ σ' : Mem} (h : shortI σ) (hf : Fr S σ σ') (hs : ∀ a ∈ S, a ∉ SH) : shortI σ' := by
  have hn : ∀ a, a ∈ SH → σ' a = σ a := fun a ha => hf a (fun q => hs a q ha)
  obtain ⟨⟨k0, r, h1⟩, h2, h3, h4⟩ := h
  refine ⟨⟨k0, r, ?_⟩, ?_, ?_, ?_⟩
  · unfold trialM numsM thereM at *
    rw [hn 2 (by decide), hn 3 (by decide), hn 4 (by decide), hn 5 (by decide)]
    exact h1
  · intro K N hK hN
    rw [hn (8 + K) (by rcases (show K = 0 ∨ K = 1 ∨ K = 2 ∨ K = 3 by omega) with rfl | rfl | rfl | rfl <;> decide)]
    exact h2 K N hK hN
  · intro K N hK hN
    rw [hn (13 + K) (by rcases (show K = 0 ∨ K = 1 ∨ K = 2 ∨ K = 3 by omega) with rfl | rfl | rfl | rfl <;> decide)]
    exact h3 K N hK hN
  · exact foI.same h4 (fun j _ => by rw [hn 6 (by decide)]) (hn 17 (by decide))
theorem rv_steps {ca cb tr K : Nat} (h : K ≤ 3) : rv (rho ca cb tr 7 K) = .ref (8 + K) := by
  rcases (show K = 0 ∨ K = 1 ∨ K = 2 ∨ K = 3 by omega) with rfl | rfl | rfl | rfl <;> rfl
theorem rv_rows {ca cb tr K : Nat} (h : K ≤ 3) : rv (rho ca cb tr 12 K) = .ref (13 + K) := by
  rcases (show K = 0 ∨ K = 1 ∨ K = 2 ∨ K = 3 by omega) with rfl | rfl | rfl | rfl <;> rfl
theorem feF_one {K : Nat} (hK : K ≤ 3) : feF K 1 = 0 := by
  have h := (feF_ok (kind := K) (N := 1) ⟨hK, by omega, by split <;> omega⟩).1.2
  rcases Nat.eq_zero_or_pos (feF K 1) with q | q
  · exact q
  · have := h 0 q
    simp [fstR, lastD] at this
theorem feF_pos {K N : Nat} (h : okN K N) (hN : 2 ≤ N) : 1 ≤ feF K N ∧ N ≤ 2 ^ feF K N := by
  have h1 := (feF_ok h).1.1
  refine ⟨?_, ?_⟩
  · rcases Nat.eq_zero_or_pos (feF K N) with q | q
    · rw [q] at h1
      refine absurd ?_ h1
      unfold fstR
      rw [if_neg]
      show ¬ (1 : Nat) = N
      omega
    · exact q
  · rcases Nat.lt_or_ge (2 ^ feF K N) N with q | q
    · refine absurd (cnt_fst.mp (cnt_small (g := 1) (by simp) (fun x hx => ?_) ?_)) h1
      · rw [List.mem_singleton] at hx; omega
      · rw [Nat.one_mul]; exact q
    · exact q
theorem fst_pre {kind n most : Nat} : ∀ {k : Nat} {r row : List Nat}, fstR kind n most k r = some row → ∃ t, row = r ++ t
  | 0, r, row, h => by
    unfold fstR at h
    split at h
    · cases h; exact ⟨[], by simp⟩
    · cases h
  | k + 1, r, row, h => by
    unfold fstR at h
    obtain ⟨v, -, hv⟩ := List.exists_of_findSome?_eq_some h
    obtain ⟨t, e⟩ := fst_pre hv
    exact ⟨v :: t, by rw [e]; simp⟩
theorem firstRow_ok {K N : Nat} (h : okN K N) : fstR K N (mostOf K N) (feF K N) [1] = some (firstRow K N) ∧ (firstRow K N).length = feF K N + 1 ∧ (firstRow K N).getD 0 0 = 1 := by
  have h1 := (feF_ok h).1.1
  unfold firstRow
  cases hc : fstR K N (mostOf K N) (feF K N) [1] with
  | none => exact absurd hc h1
  | some row =>
    have h2 := fst_len hc
    obtain ⟨t, e⟩ := fst_pre hc
    simp only [List.length_singleton] at h2
    refine ⟨rfl, ?_, ?_⟩
    · show row.length = _
      omega
    · show row.getD 0 0 = 1
      rw [e]
      rfl
theorem minF {K N t : Nat} (h : okN K N) (ht : t ≤ feF K N) : ∀ k, k < t → cnt K N (mostOf K N) k [1] = 0 := fun k hk => cnt_fst.mpr ((feF_ok h).1.2 k (by omega))
section CS4
variable {d n ca cb tr : Nat} {Q : PQ} {σ : Mem}
theorem c_search (hn : 54 ≤ n) {K N t : Nat} {all : Bool} (hd : 30 ≤ d) (hok : okN K N) (hN : 2 ≤ N) (h1t : 1 ≤ t ∧ t ≤ 24) (hmin : ∀ k, k < t → cnt K N (mostOf K N) k [1] = 0) (ht : trI0 σ) (hQ : ∀ σ' z, resS all K N (cnt K N (mostOf K N) t [1]) (fstR K N (mostOf K N) t [1]) σ σ' z → trI0 σ' → Fr [2, 3, 4, 5, 6, 17] σ σ' → Q (some (.int (iZ z))) (rho ca cb tr) σ') : Mt M_X5_search d n n [.ref 6, .int (iZ K), .int (iZ N), .int (iZ t), .int (if all = true then 1 else 0)] (rho ca cb tr) σ Q := by
  obtain ⟨k0, r0, ht0⟩ := ht
  have hN160 : N ≤ 160 ∧ (K = 2 → N ≤ 40) := by
    have := hok.2.2
    split at this
    · exact ⟨by omega, fun _ => this⟩
    · exact ⟨this, fun h => absurd h (by assumption)⟩
  refine Mt.of rfl (by decide +kernel) tk_X5_search (Nat.le_of_ble_eq_true rfl) ?_
  refine V.run 0 54 rfl hn ⟨by cases all <;> decide, trivial⟩ ?_
  try simp only [rc_1_0, rc_1_1, rc_1_2, rc_1_3, rc_1_4, rc_1_5, rc_2_0, rc_2_1, rc_2_2, rc_6_0, rc_6_1, rc_6_2, rc_6_3, rc_7_0, rc_7_1, rc_7_2, rc_7_3, rc_12_0, rc_12_1, rc_12_2, rc_12_3, rc_18_0, rc_18_1, rc_20_0, rc_20_1, rc_22_0, rc_23_0, rc_25_0, rc_27_0, rc_27_1, rc_27_2, rc_31_0, rc_31_1, rc_31_2, rc_55_0, rc_55_1, rc_55_2, rc_1_6, rc_1_7, rc_23_2, fi_0_1, fi_0_2, fi_0_3, fi_1_3, fi_1_4, fi_1_5, fi_1_6, fi_1_7, fi_2_2, fi_3_3, fi_3_4, fi_3_5, fi_4_1, fi_5_4, fi_5_5, fi_5_6, fi_5_7, fi_5_8, fi_5_9, fi_6_1, fi_7_3, fi_7_4]
  have hf0 : Fr [6] σ (up (up (up σ 6 7 (iZ K)) 6 8 (iZ N)) 6 9 (if all = true then 1 else 0)) := Fr.putT (Fr.putT (Fr.put (by simp)) (by simp)) (by simp)
  have hs0 : shM (up (up (up σ 6 7 (iZ K)) 6 8 (iZ N)) 6 9 (if all = true then 1 else 0)) K N all := ⟨by rw [up_nat (by decide), up_nat (by decide), up_at], by rw [up_nat (by decide), up_at], up_at⟩
  have h60 : ∀ j, j < 7 → up (up (up σ 6 7 (iZ K)) 6 8 (iZ N)) 6 9 (if all = true then 1 else 0) 6 j = σ 6 j := fun j hj => by rw [up_nat (by omega), up_nat (by omega), up_nat (by omega)]
  generalize up (up (up σ 6 7 (iZ K)) 6 8 (iZ N)) 6 9 (if all = true then 1 else 0) = σ0 at *
  refine V.cv (lo := 54) (d' := d - 1) rfl rfl ok_X7_begin lk_5_X7_begin rfl rfl rfl hn (by omega) (Nat.le_refl _) (Nat.le_refl _) ((c_begin hn (by omega) hok.1 (ht0.fr hf0 (by decide) (by decide) (by decide) (by decide)) (fun σ1 ht1 hf1 => ?_)))
  have hs1 : shM σ1 K N all := by unfold shM; rw [hf1 6 (by decide)]; exact hs0
  refine V.run 0 54 rfl hn trivial ?_
  refine V.cv (lo := 54) (d' := d - 1) rfl rfl ok_X5_climb lk_5_X5_climb rfl rfl rfl hn (by omega) (Nat.le_refl _) (Nat.le_refl _) ((c_climb (K := K) (N := N) (all := all) hn ⟨hN, hN160.1⟩ hN160.2 t (d - 1) _ σ1 [1] h1t.1 h1t.2 (by omega) ht1 hs1 (by simp) (by simp; omega) (fun _ => ⟨incR_one 1, by show 1 < N; omega⟩) (by simp; omega) hmin (fun σ2 z hres ht2 hfr2 => ?_)))
  refine V.ret (v := some (.int (iZ z))) rfl rfl rfl rfl (hQ σ2 z ?_ ⟨_, _, ht2⟩ ((hf0.mono (by simp)).tr ((hf1.mono (by simp)).tr hfr2)))
  rcases hres with ⟨a, b, c, e⟩ | ⟨a, b, c, e, f⟩ | ⟨a, row, b, c, e, f⟩
  · exact Or.inl ⟨a, b, fun j hj => by rw [c, hf1 6 (by decide), h60 j hj], by rw [e, hf1 17 (by decide), hf0 17 (by decide)]⟩
  · exact Or.inr (Or.inl ⟨a, b, c, fun j hj => by rw [e, hf1 6 (by decide), h60 j hj], by rw [f, hf1 17 (by decide), hf0 17 (by decide)]⟩)
  · exact Or.inr (Or.inr ⟨a, row, b, c, e⟩)
theorem c_stepsTo (hn : 54 ≤ n) {K N : Nat} (hd : 31 ≤ d) (hok : okN K N) (hI : shortI σ) (hQ : ∀ σ', shortI σ' → Fr SH σ σ' → Q (some (.int (iZ (feF K N)))) (rho ca cb tr) σ') : Mt M_X5_stepsTo d n n [.ref 6, .int (iZ K), .int (iZ N)] (rho ca cb tr) σ Q := by
  have hK := hok.1
  have h1N := hok.2.1
  have hN160 : N ≤ 160 := by
    have := hok.2.2
    split at this <;> omega
  refine Mt.of rfl (by decide +kernel) tk_X5_stepsTo (Nat.le_of_ble_eq_true rfl) ?_
  refine V.run 0 54 rfl hn trivial ?_
  refine V.brF rfl (fun c => by have := (iZ_lt0 (by omega)).mp c; omega) ?_
  refine V.run 0 54 rfl hn trivial ?_
  refine V.brF rfl (fun c => by have := (iZ_le (by omega) (by omega)).mp c; omega) ?_
  refine V.run 0 54 rfl hn trivial ?_
  refine V.br rfl (fun (c : iZ N ≤ iZ 1) => ?_) (fun (c : ¬ (iZ N ≤ iZ 1)) => ?_)
  · rw [iZ_le (by omega) (by omega)] at c
    have e : N = 1 := by omega
    subst e
    rw [feF_one hK] at hQ
    refine V.run 0 54 rfl hn trivial ?_
    refine V.ret (v := some (.int (iZ 0))) rfl rfl rfl rfl (hQ σ hI Fr.rf)
  · rw [iZ_le (by omega) (by omega)] at c
    have hN2 : 2 ≤ N := by omega
    have hF := feF_ok hok
    have hFp := feF_pos hok hN2
    refine V.run 0 54 rfl hn trivial ?_
    refine V.brT rfl ((iZ_le (by omega) (by omega)).mpr (by omega)) ?_
    refine V.run 25 54 rfl hn trivial ?_
    have ld : ∀ (σ1 : Mem) (x3 : Option Value), V M_X5_stepsTo d n n none Q n (rho ca cb tr) σ1 39 [some (.ref 6), some (.int (iZ (K))), some (.int (iZ (N))), x3] [(.int ((σ1 (8 + K) N)))] → V M_X5_stepsTo d n n none Q n (rho ca cb tr) σ1 31 [some (.ref 6), some (.int (iZ (K))), some (.int (iZ (N))), x3] [] := by
      intro σ1 x3 h
      refine V.run 37 54 rfl hn ⟨in_N (n := 4) (by omega) (by decide), trivial⟩ ?_
      try simp only [rc_1_0, rc_1_1, rc_1_2, rc_1_3, rc_1_4, rc_1_5, rc_2_0, rc_2_1, rc_2_2, rc_6_0, rc_6_1, rc_6_2, rc_6_3, rc_7_0, rc_7_1, rc_7_2, rc_7_3, rc_12_0, rc_12_1, rc_12_2, rc_12_3, rc_18_0, rc_18_1, rc_20_0, rc_20_1, rc_22_0, rc_23_0, rc_25_0, rc_27_0, rc_27_1, rc_27_2, rc_31_0, rc_31_1, rc_31_2, rc_55_0, rc_55_1, rc_55_2, rc_1_6, rc_1_7, rc_23_2, fi_0_1, fi_0_2, fi_0_3, fi_1_3, fi_1_4, fi_1_5, fi_1_6, fi_1_7, fi_2_2, fi_3_3, fi_3_4, fi_3_5, fi_4_1, fi_5_4, fi_5_5, fi_5_6, fi_5_7, fi_5_8, fi_5_9, fi_6_1, fi_7_3, fi_7_4]
      rw [ix_N (by omega), rv_steps hK]
      rcases (show K = 0 ∨ K = 1 ∨ K = 2 ∨ K = 3 by omega) with rfl | rfl | rfl | rfl
      all_goals
        refine V.run 0 54 rfl hn ⟨in_N (n := 161) (by omega) (by decide), trivial⟩ ?_
        rw [ix_N (by omega)]
        exact h
    have fin : ∀ (σ1 : Mem) (x3 : Option Value), σ1 (8 + K) N = iZ (feF K N) → shortI σ1 → Fr SH σ σ1 → V M_X5_stepsTo d n n none Q n (rho ca cb tr) σ1 75 [some (.ref 6), some (.int (iZ (K))), some (.int (iZ (N))), x3] [] := by
      intro σ1 x3 h hI1 hf
      refine V.run 81 54 rfl hn ⟨in_N (n := 4) (by omega) (by decide), trivial⟩ ?_
      try simp only [rc_1_0, rc_1_1, rc_1_2, rc_1_3, rc_1_4, rc_1_5, rc_2_0, rc_2_1, rc_2_2, rc_6_0, rc_6_1, rc_6_2, rc_6_3, rc_7_0, rc_7_1, rc_7_2, rc_7_3, rc_12_0, rc_12_1, rc_12_2, rc_12_3, rc_18_0, rc_18_1, rc_20_0, rc_20_1, rc_22_0, rc_23_0, rc_25_0, rc_27_0, rc_27_1, rc_27_2, rc_31_0, rc_31_1, rc_31_2, rc_55_0, rc_55_1, rc_55_2, rc_1_6, rc_1_7, rc_23_2, fi_0_1, fi_0_2, fi_0_3, fi_1_3, fi_1_4, fi_1_5, fi_1_6, fi_1_7, fi_2_2, fi_3_3, fi_3_4, fi_3_5, fi_4_1, fi_5_4, fi_5_5, fi_5_6, fi_5_7, fi_5_8, fi_5_9, fi_6_1, fi_7_3, fi_7_4]
      rw [ix_N (by omega), rv_steps hK]
      rcases (show K = 0 ∨ K = 1 ∨ K = 2 ∨ K = 3 by omega) with rfl | rfl | rfl | rfl
      all_goals
        refine V.run 0 54 rfl hn ⟨in_N (n := 161) (by omega) (by decide), trivial⟩ ?_
        rw [ix_N (by omega), h]
        refine V.ret (v := some (.int (iZ (feF _ N)))) rfl rfl rfl rfl (hQ σ1 hI1 hf)
    have dn : ∀ (σ1 : Mem) (t : Nat), t ≤ 25 → σ1 (8 + K) N = iZ (feF K N) → shortI σ1 → Fr SH σ σ1 → V M_X5_stepsTo d n n none Q n (rho ca cb tr) σ1 25 [some (.ref 6), some (.int (iZ (K))), some (.int (iZ (N))), some (.int (iZ (t)))] [] := by
      intro σ1 t ht h hI1 hf
      refine V.run 0 54 rfl hn trivial ?_
      refine V.br rfl (fun (c2 : iZ 24 < iZ t) => ?_) (fun (c2 : ¬ (iZ 24 < iZ t)) => ?_)
      · exact fin σ1 _ h hI1 hf
      · refine ld σ1 _ ?_
        rw [h]
        refine V.brF rfl (fun c => by have := (iZ_eq0 (by omega)).mp c; omega) ?_
        exact fin σ1 _ h hI1 hf
    have st : ∀ (σ1 : Mem) (t : Nat), t ≤ 24 → t = feF K N → shortI σ1 → Fr SH σ σ1 → V M_X5_stepsTo d n n none Q n (rho ca cb tr) σ1 60 [some (.ref 6), some (.int (iZ (K))), some (.int (iZ (N))), some (.int (iZ (t)))] [] := by
      intro σ1 t ht h hI1 hf
      refine V.run 66 54 rfl hn ⟨in_N (n := 4) (by omega) (by decide), trivial⟩ ?_
      try simp only [rc_1_0, rc_1_1, rc_1_2, rc_1_3, rc_1_4, rc_1_5, rc_2_0, rc_2_1, rc_2_2, rc_6_0, rc_6_1, rc_6_2, rc_6_3, rc_7_0, rc_7_1, rc_7_2, rc_7_3, rc_12_0, rc_12_1, rc_12_2, rc_12_3, rc_18_0, rc_18_1, rc_20_0, rc_20_1, rc_22_0, rc_23_0, rc_25_0, rc_27_0, rc_27_1, rc_27_2, rc_31_0, rc_31_1, rc_31_2, rc_55_0, rc_55_1, rc_55_2, rc_1_6, rc_1_7, rc_23_2, fi_0_1, fi_0_2, fi_0_3, fi_1_3, fi_1_4, fi_1_5, fi_1_6, fi_1_7, fi_2_2, fi_3_3, fi_3_4, fi_3_5, fi_4_1, fi_5_4, fi_5_5, fi_5_6, fi_5_7, fi_5_8, fi_5_9, fi_6_1, fi_7_3, fi_7_4]
      rw [ix_N (by omega), rv_steps hK]
      have hm : 8 + K ∈ SH := by
        rcases (show K = 0 ∨ K = 1 ∨ K = 2 ∨ K = 3 by omega) with rfl | rfl | rfl | rfl <;> decide
      have hI2 : shortI (up σ1 (8 + K) N (iZ t)) := by
        obtain ⟨⟨k0, r0, q1⟩, q2, q3, q4⟩ := hI1
        refine ⟨⟨k0, r0, q1.fr (Fr.put (S := [8 + K]) (by simp)) (by simp; omega) (by simp; omega) (by simp; omega) (by simp; omega)⟩, fun K' N' h1 h2 => ?_, fun K' N' h1 h2 => ?_, foI.same q4 (fun j _ => by rw [up_ne (by omega)]) (by rw [up_ne (by omega)])⟩
        · by_cases e : K' = K
          · subst e
            by_cases e2 : N' = N
            · subst e2
              exact Or.inr ⟨hok, hN2, by rw [up_at, h]⟩
            · rw [up_nat e2]
              exact q2 K' N' h1 h2
          · rw [up_ne (by omega)]
            exact q2 K' N' h1 h2
        · rw [up_ne (by omega)]
          exact q3 K' N' h1 h2
      have hf2 : Fr SH σ (up σ1 (8 + K) N (iZ t)) := Fr.putT hf hm
      have key := dn (up σ1 (8 + K) N (iZ t)) (t + 1) (by omega) (by rw [up_at, h]) hI2 hf2
      rw [show ((t + 1 : Nat) : Int) = (t : Int) + 1 by omega, ← iZ_add] at key
      rcases (show K = 0 ∨ K = 1 ∨ K = 2 ∨ K = 3 by omega) with rfl | rfl | rfl | rfl
      all_goals
        refine V.run 0 54 rfl hn ⟨in_N (n := 161) (by omega) (by decide), trivial⟩ ?_
        rw [ix_N (by omega)]
        exact key
    have key : ∀ (j t : Nat) (σ1 : Mem), t + j = feF K N → 1 ≤ t → σ1 (8 + K) N = iZ 0 → shortI σ1 → Fr SH σ σ1 → V M_X5_stepsTo d n n none Q n (rho ca cb tr) σ1 25 [some (.ref 6), some (.int (iZ (K))), some (.int (iZ (N))), some (.int (iZ (t)))] [] := by
      intro j
      induction j with
      | zero =>
        intro t σ1 hj h1t h0 hI1 hf
        refine V.run 0 54 rfl hn trivial ?_
        refine V.brF rfl (fun c => by have := (iZ_lt (by omega) (by omega)).mp c; omega) ?_
        refine ld σ1 _ ?_
        rw [h0]
        refine V.brT rfl rfl ?_
        refine V.run 0 54 rfl hn trivial ?_
        have hp : (2 : Nat) ^ t ≤ 2 ^ 24 := Nat.pow_le_pow_right (by decide) (by omega)
        have h24 : (2 : Nat) ^ 24 = 16777216 := by decide
        have hc : ((2 ^ t : Nat) : Int) = (2 : Int) ^ t := by simp
        have hFt : N ≤ 2 ^ t := by
          have := hFp.2
          rw [show t = feF K N by omega]
          exact this
        rw [iZ_shl (by omega), Int.one_mul]
        refine V.brF rfl (fun c => by have := (iZ_lt (by omega) (by omega)).mp c; omega) ?_
        refine V.run 0 54 rfl hn trivial ?_
        refine V.cv (lo := 54) (d' := d - 1) rfl rfl ok_X5_search lk_5_X5_search rfl rfl rfl hn (by omega) (Nat.le_refl _) (Nat.le_refl _) ((c_search (all := false) hn (by omega) hok hN2 (by omega) (minF hok (by omega)) hI1.1 (fun σ2 z hres ht2 hf2 => ?_)))
        rw [show t = feF K N by omega, (firstRow_ok hok).1] at hres
        rcases hres with ⟨a, -⟩ | ⟨-, a, -⟩ | ⟨-, row, a, b, e⟩
        · cases a
        · cases a
        · cases a
          rw [b]
          refine V.brF rfl (by decide) ?_
          refine st σ2 t (by omega) (by omega) ⟨ht2, fun K' N' h1 h2 => ?_, fun K' N' h1 h2 => ?_, Or.inr ⟨K, N, hok, hN2, e⟩⟩ (hf.tr (hf2.mono (by decide)))
          · rw [hf2 (8 + K') (by simp; omega)]; exact hI1.2.1 K' N' h1 h2
          · rw [hf2 (13 + K') (by simp; omega)]; exact hI1.2.2.1 K' N' h1 h2
      | succ j ih =>
        intro t σ1 hj h1t h0 hI1 hf
        have nx : ∀ σ2 : Mem, σ2 (8 + K) N = iZ 0 → shortI σ2 → Fr SH σ σ2 → V M_X5_stepsTo d n n none Q n (rho ca cb tr) σ2 69 [some (.ref 6), some (.int (iZ (K))), some (.int (iZ (N))), some (.int (iZ (t)))] [] := by
          intro σ2 g1 g2 g3
          refine V.run 0 54 rfl hn trivial ?_
          have := ih (t + 1) σ2 (by omega) (by omega) g1 g2 g3
          rw [show ((t + 1 : Nat) : Int) = (t : Int) + 1 by omega, ← iZ_add] at this
          exact this
        refine V.run 0 54 rfl hn trivial ?_
        refine V.brF rfl (fun c => by have := (iZ_lt (by omega) (by omega)).mp c; omega) ?_
        refine ld σ1 _ ?_
        rw [h0]
        refine V.brT rfl rfl ?_
        refine V.run 0 54 rfl hn trivial ?_
        have hp : (2 : Nat) ^ t ≤ 2 ^ 24 := Nat.pow_le_pow_right (by decide) (by omega)
        have h24 : (2 : Nat) ^ 24 = 16777216 := by decide
        have hc : ((2 ^ t : Nat) : Int) = (2 : Int) ^ t := by simp
        rw [iZ_shl (by omega), Int.one_mul]
        refine V.br rfl (fun (c2 : iZ ((2 : Int) ^ t) < iZ N) => ?_) (fun (c2 : ¬ (iZ ((2 : Int) ^ t) < iZ N)) => ?_)
        · exact nx σ1 h0 hI1 hf
        · refine V.run 0 54 rfl hn trivial ?_
          refine V.cv (lo := 54) (d' := d - 1) rfl rfl ok_X5_search lk_5_X5_search rfl rfl rfl hn (by omega) (Nat.le_refl _) (Nat.le_refl _) ((c_search (all := false) hn (by omega) hok hN2 (by omega) (minF hok (by omega)) hI1.1 (fun σ2 z hres ht2 hf2 => ?_)))
          rcases hres with ⟨a, -⟩ | ⟨-, -, b, e, f⟩ | ⟨-, row, a, -⟩
          · cases a
          · rw [b]
            refine V.brT rfl (by decide) ?_
            refine nx σ2 (by rw [hf2 (8 + K) (by simp; omega)]; exact h0) ⟨ht2, fun K' N' h1 h2 => ?_, fun K' N' h1 h2 => ?_, foI.same hI1.2.2.2 e f⟩ (hf.tr (hf2.mono (by decide)))
            · rw [hf2 (8 + K') (by simp; omega)]; exact hI1.2.1 K' N' h1 h2
            · rw [hf2 (13 + K') (by simp; omega)]; exact hI1.2.2.1 K' N' h1 h2
          · rw [hF.1.2 t (by omega)] at a
            cases a
    rcases hI.2.1 K N hK hN160 with h0 | ⟨-, -, h0⟩
    · exact key (feF K N - 1) 1 σ (by omega) (by omega) h0 hI Fr.rf
    · exact dn σ 1 (by omega) h0 hI Fr.rf
end CS4
