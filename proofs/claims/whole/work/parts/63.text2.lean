/-! ===== the class: the text ===== -/
theorem sgN_nar (w : Int64) : vp_nar .byte (w.toInt32.toInt8.toInt32) = iZ (sgN (byN w)) := by
  show (w.toInt32.toInt8.toInt32).toInt8.toInt32 = _
  rw [Int8.toInt8_toInt32]
  apply Int32.toInt.inj
  have hb := byN_lt w
  have h1 : -2147483648 ≤ sgN (byN w) ∧ sgN (byN w) < 2147483648 := by unfold sgN; split <;> omega
  rw [iZ_toInt h1, Int8.toInt_toInt32, Int32.toInt_toInt8, Int64.toInt_toInt32, ← Int64.toInt_toBitVec, BitVec.toInt_eq_toNat_bmod]
  unfold sgN byN
  generalize w.toBitVec.toNat = N
  simp only [Int.bmod_def, Nat.reducePow]
  split <;> split <;> split <;> split <;> omega
def txtM (σ : Mem) (tx : List Nat) : Prop := tx.length ≤ 120 ∧ σ 25 1 = iZ tx.length ∧ (∀ i, i < tx.length → σ 26 i = iZ (sgN (tx.getD i 0))) ∧ (∀ b ∈ tx, b < 256)
theorem txtM.fr {S : List Nat} {σ σ' : Mem} {tx : List Nat} (h : txtM σ tx) (hf : Fr S σ σ') (h1 : 25 ∉ S) (h2 : 26 ∉ S) : txtM σ' tx := by
  unfold txtM at *
  rw [hf 25 h1, hf 26 h2]
  exact h
theorem sgN_b {b : Nat} (h : b < 256) : -128 ≤ sgN b ∧ sgN b < 128 ∧ (b < 128 → sgN b = b) ∧ (128 ≤ b → sgN b < 0) := by
  unfold sgN
  split <;> omega
def clP (ds : List Nat) (v : Nat) : Nat := ds.foldl (fun v b => 10 * v + (b - 48)) v
def clV (ds : List Nat) : Nat := if ds = [] ∨ 5 < ds.length ∨ ds.getD 0 0 = 48 then 0 else clP ds 0
theorem clP_st : ∀ (ds : List Nat) (v k : Nat), (∀ b ∈ ds, b ≤ 57) → v < 10 ^ k → k + ds.length ≤ 5 → ds.foldl stV v = clP ds v ∧ clP ds v < 10 ^ (k + ds.length)
  | [], v, k, _, h, _ => ⟨rfl, h⟩
  | b :: ds, v, k, hb, h, hk => by
    rw [List.length_cons] at hk
    have h5 : 10 ^ k ≤ 10 ^ 4 := Nat.pow_le_pow_right (by decide) (by omega)
    have h6 : (10 : Nat) ^ 4 = 10000 := by decide
    have hbb := hb b List.mem_cons_self
    have e : stV v b = 10 * v + (b - 48) := by
      unfold stV
      rw [if_neg (by omega)]
    have ih := clP_st ds (10 * v + (b - 48)) (k + 1) (fun x hx => hb x (List.mem_cons_of_mem _ hx)) (by rw [Nat.pow_succ]; omega) (by omega)
    refine ⟨?_, ?_⟩
    · rw [List.foldl_cons, e]; exact ih.1
    · show clP ds (10 * v + (b - 48)) < _
      rw [List.length_cons, show k + (ds.length + 1) = k + 1 + ds.length by omega]
      exact ih.2
theorem stV_big : ∀ (ds : List Nat) (v : Nat), 100000 ≤ v → 100000 ≤ ds.foldl stV v
  | [], v, h => h
  | b :: ds, v, h => by
    rw [List.foldl_cons]
    refine stV_big ds _ ?_
    unfold stV
    split <;> omega
theorem stV_long : ∀ (ds : List Nat) (v k : Nat), 10 ^ k ≤ v → 5 ≤ k + ds.length → 100000 ≤ ds.foldl stV v
  | [], v, k, h, hk => by
    have : 10 ^ 5 ≤ 10 ^ k := Nat.pow_le_pow_right (by decide) (by simpa using hk)
    have e : (10 : Nat) ^ 5 = 100000 := by decide
    show 100000 ≤ v
    omega
  | b :: ds, v, k, h, hk => by
    rw [List.length_cons] at hk
    rw [List.foldl_cons]
    by_cases hv : 100000 ≤ v
    · refine stV_big ds _ ?_
      unfold stV
      split <;> omega
    · refine stV_long ds _ (k + 1) ?_ (by omega)
      unfold stV
      rw [if_neg (by omega), Nat.pow_succ]
      omega
theorem clV_ok {ds : List Nat} (hb : ∀ b ∈ ds, 48 ≤ b ∧ b ≤ 57) : clV ds ≤ 99999 ∧ (1 ≤ clV ds ↔ (ds ≠ [] ∧ ds.getD 0 0 ≠ 48 ∧ valM ds ≤ 99999)) ∧ (1 ≤ clV ds → valM ds = clV ds) := by
  have hb2 : ∀ b ∈ ds, b ≤ 57 := fun b h => (hb b h).2
  unfold clV
  by_cases hc : ds = [] ∨ 5 < ds.length ∨ ds.getD 0 0 = 48
  · rw [if_pos hc]
    refine ⟨by omega, ⟨fun h => by omega, fun h => ?_⟩, fun h => by omega⟩
    rcases hc with hc | hc | hc
    · exact absurd hc h.1
    · exfalso
      match ds, hc, h, hb with
      | [], hc, _, _ => simp at hc
      | b :: ds, hc, h, hb =>
        have h1 := hb b List.mem_cons_self
        have h2 : b ≠ 48 := h.2.1
        have h3 := h.2.2
        unfold valM at h3
        rw [List.foldl_cons] at h3
        have h4 := stV_long ds (stV 0 b) 0 (by unfold stV; rw [if_neg (by omega)]; show 1 ≤ _; omega) (by rw [List.length_cons] at hc; omega)
        omega
    · exact absurd hc h.2.1
  · rw [if_neg hc]
    have hne : ds ≠ [] := fun e => hc (Or.inl e)
    have hlen : ds.length ≤ 5 := by
      rcases Nat.lt_or_ge 5 ds.length with q | q
      · exact absurd (Or.inr (Or.inl q)) hc
      · exact q
    have h48 : ds.getD 0 0 ≠ 48 := fun e => hc (Or.inr (Or.inr e))
    have hst := clP_st ds 0 0 hb2 (by decide) (by omega)
    have h5 : 10 ^ (0 + ds.length) ≤ 10 ^ 5 := Nat.pow_le_pow_right (by decide) (by omega)
    have e5 : (10 : Nat) ^ 5 = 100000 := by decide
    have hval : valM ds = clP ds 0 := hst.1
    have hpos : 1 ≤ clP ds 0 := by
      match ds, hne, hb, h48 with
      | b :: ds, _, hb, h48 =>
        have h1 := hb b List.mem_cons_self
        have h2 : b ≠ 48 := h48
        have mono : ∀ (l : List Nat) (v : Nat), 1 ≤ v → 1 ≤ clP l v := by
          intro l
          induction l with
          | nil => intro v h; exact h
          | cons a l ih => intro v h; exact ih (10 * v + (a - 48)) (by omega)
        exact mono ds (10 * 0 + (b - 48)) (by omega)
    exact ⟨by omega, ⟨fun _ => ⟨hne, h48, by omega⟩, fun _ => hpos⟩, fun _ => hval⟩
section CX1
variable {d n ca cb tr : Nat} {Q : PQ} {σ : Mem}
theorem c_tsize (hn : 54 ≤ n) {tx : List Nat} (ht : txtM σ tx) (hQ : Q (some (.int (iZ tx.length))) (rho ca cb tr) σ) : Mt M_X6_size d n n [.ref 25] (rho ca cb tr) σ Q := by
  refine Mt.of rfl (by decide +kernel) tk_X6_size (Nat.le_of_ble_eq_true rfl) ?_
  refine V.run 0 54 rfl hn trivial ?_
  try simp only [rc_1_0, rc_1_1, rc_1_2, rc_1_3, rc_1_4, rc_1_5, rc_2_0, rc_2_1, rc_2_2, rc_6_0, rc_6_1, rc_6_2, rc_6_3, rc_7_0, rc_7_1, rc_7_2, rc_7_3, rc_12_0, rc_12_1, rc_12_2, rc_12_3, rc_18_0, rc_18_1, rc_20_0, rc_20_1, rc_22_0, rc_23_0, rc_25_0, rc_27_0, rc_27_1, rc_27_2, rc_31_0, rc_31_1, rc_31_2, rc_55_0, rc_55_1, rc_55_2, rc_1_6, rc_1_7, rc_23_2, fi_0_1, fi_0_2, fi_0_3, fi_1_3, fi_1_4, fi_1_5, fi_1_6, fi_1_7, fi_2_2, fi_3_3, fi_3_4, fi_3_5, fi_4_1, fi_5_4, fi_5_5, fi_5_6, fi_5_7, fi_5_8, fi_5_9, fi_6_1, fi_7_3, fi_7_4]
  rw [ht.2.1]
  refine V.ret (v := some (.int (iZ tx.length))) rfl rfl rfl rfl (hQ)
theorem c_tclear (hn : 54 ≤ n) {tx : List Nat} (ht : txtM σ tx) (hQ : ∀ σ', txtM σ' [] → Fr [25] σ σ' → Q none (rho ca cb tr) σ') : Mt M_X6_clear d n n [.ref 25] (rho ca cb tr) σ Q := by
  refine Mt.of rfl (by decide +kernel) tk_X6_clear (Nat.le_of_ble_eq_true rfl) ?_
  refine V.run 0 54 rfl hn trivial ?_
  refine V.ret (v := none) rfl rfl rfl rfl (hQ _ ⟨by simp, up_at, fun i hi => by simp at hi, fun b hb => (by cases hb)⟩ (Fr.put (by simp)))
theorem c_tappend (hn : 54 ≤ n) (hd : 1 ≤ d) {m : Nat} {v : Int64} {tx : List Nat} (hm : 1 ≤ m ∧ m ≤ 8) (hl : tx.length + m ≤ 120) (ht : txtM σ tx) (hQ : ∀ σ', txtM σ' (tx ++ wrL v m) → Fr [25, 26] σ σ' → Q none (rho ca cb tr) σ') : Mt M_X6_append d n n [.ref 25, .int (iZ m), .long v] (rho ca cb tr) σ Q := by
  have hwl : (wrL v m).length = m := by simp [wrL]
  refine Mt.of rfl (by decide +kernel) tk_X6_append (Nat.le_of_ble_eq_true rfl) ?_
  refine V.run 0 54 rfl hn trivial ?_
  refine V.min rfl rfl lm_6_min rfl (by omega) (Nat.le_refl _) ?_
  have e0 : (if iZ 8 < iZ (m : Int) then iZ 8 else iZ (m : Int)) = iZ (m : Int) := by
    rw [if_neg (fun c => by have := (iZ_lt (by omega) (by omega)).mp c; omega)]
  rw [e0]
  refine V.run 10 54 rfl hn trivial ?_
  rw [iZ_sub]
  have key : ∀ (j : Nat) (σ1 : Mem), j ≤ m → txtM σ1 (tx ++ (wrL v m).take (m - j)) → Fr [25, 26] σ σ1 → V M_X6_append d n n none Q n (rho ca cb tr) σ1 10 [some (.ref 25), some (.int (iZ (m))), some (.long (v)), none, some (.int (iZ (((j : Int) - 1))))] [] := by
    intro j
    induction j with
    | zero =>
      intro σ1 hj ht1 hf1
      refine V.run 0 54 rfl hn trivial ?_
      refine V.brT rfl ((iZ_lt0 (by omega)).mpr (by omega)) ?_
      rw [Nat.sub_zero, List.take_of_length_le (by omega)] at ht1
      refine V.ret (v := none) rfl rfl rfl rfl (hQ σ1 ht1 hf1)
    | succ j ih =>
      intro σ1 hj ht1 hf1
      obtain ⟨t1, t2, t3, t4⟩ := id ht1
      have hlen : (tx ++ (wrL v m).take (m - (j + 1))).length = tx.length + (m - (j + 1)) := by
        rw [List.length_append, List.length_take, hwl]
        omega
      rw [hlen] at t2
      refine V.run 0 54 rfl hn trivial ?_
      refine V.brF rfl (fun c => by have := (iZ_lt0 (by omega)).mp c; omega) ?_
      refine V.run 0 54 rfl hn trivial ?_
      try simp only [rc_1_0, rc_1_1, rc_1_2, rc_1_3, rc_1_4, rc_1_5, rc_2_0, rc_2_1, rc_2_2, rc_6_0, rc_6_1, rc_6_2, rc_6_3, rc_7_0, rc_7_1, rc_7_2, rc_7_3, rc_12_0, rc_12_1, rc_12_2, rc_12_3, rc_18_0, rc_18_1, rc_20_0, rc_20_1, rc_22_0, rc_23_0, rc_25_0, rc_27_0, rc_27_1, rc_27_2, rc_31_0, rc_31_1, rc_31_2, rc_55_0, rc_55_1, rc_55_2, rc_1_6, rc_1_7, rc_23_2, fi_0_1, fi_0_2, fi_0_3, fi_1_3, fi_1_4, fi_1_5, fi_1_6, fi_1_7, fi_2_2, fi_3_3, fi_3_4, fi_3_5, fi_4_1, fi_5_4, fi_5_5, fi_5_6, fi_5_7, fi_5_8, fi_5_9, fi_6_1, fi_7_3, fi_7_4]
      rw [t2]
      refine V.brF rfl (fun c => by have := (iZ_le (by omega) (by omega)).mp c; omega) ?_
      refine V.run 0 54 rfl hn ⟨by (simp only [rc_25_0, fi_6_1, t2]; exact in_N (n := 120) (by omega) (by decide)), trivial⟩ ?_
      try simp only [rc_1_0, rc_1_1, rc_1_2, rc_1_3, rc_1_4, rc_1_5, rc_2_0, rc_2_1, rc_2_2, rc_6_0, rc_6_1, rc_6_2, rc_6_3, rc_7_0, rc_7_1, rc_7_2, rc_7_3, rc_12_0, rc_12_1, rc_12_2, rc_12_3, rc_18_0, rc_18_1, rc_20_0, rc_20_1, rc_22_0, rc_23_0, rc_25_0, rc_27_0, rc_27_1, rc_27_2, rc_31_0, rc_31_1, rc_31_2, rc_55_0, rc_55_1, rc_55_2, rc_1_6, rc_1_7, rc_23_2, fi_0_1, fi_0_2, fi_0_3, fi_1_3, fi_1_4, fi_1_5, fi_1_6, fi_1_7, fi_2_2, fi_3_3, fi_3_4, fi_3_5, fi_4_1, fi_5_4, fi_5_5, fi_5_6, fi_5_7, fi_5_8, fi_5_9, fi_6_1, fi_7_3, fi_7_4]
      rw [t2, ix_N (by omega), iZ_mul, iZ_add]
      have e1 : (8 : Int) * (((j + 1 : Nat) : Int) - 1) = 8 * ((j : Nat) : Int) := by omega
      rw [e1]
      have e2 := sgN_nar (shB v j)
      unfold shB at e2
      rw [e2]
      have hnx : tx ++ (wrL v m).take (m - j) = (tx ++ (wrL v m).take (m - (j + 1))) ++ [byN (shB v j)] := by
        rw [List.append_assoc]
        congr 1
        have := take_getD (l := wrL v m) (k := m - (j + 1)) (by omega)
        rw [show m - (j + 1) + 1 = m - j by omega] at this
        rw [this]
        congr 2
        unfold wrL
        rw [List.getD_eq_getElem?_getD, List.getElem?_map, List.getElem?_range (by omega)]
        simp only [Option.map_some, Option.getD_some]
        rw [show m - 1 - (m - (j + 1)) = j by omega]
      have key := ih (up (up σ1 26 (tx.length + (m - (j + 1))) (iZ (sgN (byN (shB v j))))) 25 1 (up σ1 26 (tx.length + (m - (j + 1))) (iZ (sgN (byN (shB v j)))) 25 1 + iZ 1)) (by omega) (by
        rw [hnx]
        refine ⟨?_, ?_, fun i hi => ?_, fun b hb => ?_⟩
        · rw [List.length_append, hlen, List.length_singleton]; omega
        · rw [up_at, up_ne (by decide), t2, iZ_add, List.length_append, hlen, List.length_singleton]
          exact iZ_pat (by omega)
        · rw [up_ne (by decide)]
          rw [List.length_append, hlen, List.length_singleton] at hi
          by_cases e : i = tx.length + (m - (j + 1))
          · rw [e, up_at, ← hlen, getD_last]
          · rw [up_nat e, t3 i (by omega), getD_app (by omega)]
        · rcases List.mem_append.mp hb with q | q
          · exact t4 b q
          · rw [List.mem_singleton] at q
            rw [q]
            exact byN_lt _) (Fr.putT (Fr.putT hf1 (by simp)) (by simp))
      rw [show ((j : Nat) : Int) - 1 = ((j + 1 : Nat) : Int) - 1 + (-1) by omega] at key
      exact key
  exact key m σ (Nat.le_refl _) (by rw [Nat.sub_self, List.take_zero, List.append_nil]; exact ht) Fr.rf
theorem c_endOf (hn : 54 ≤ n) (hd : 1 ≤ d) {at0 : Nat} {tx : List Nat} (ha : at0 ≤ tx.length) (ht : txtM σ tx) (hQ : Q (some (.int (iZ (at0 + (dgs tx at0).length : Nat)))) (rho ca cb tr) σ) : Mt M_X6_endOfFigures d n n [.ref 25, .int (iZ at0)] (rho ca cb tr) σ Q := by
  obtain ⟨t1, t2, t3, t4⟩ := id ht
  have hdl := dgs_len tx at0 ha
  refine Mt.of rfl (by decide +kernel) tk_X6_endOfFigures (Nat.le_of_ble_eq_true rfl) ?_
  refine V.run 0 54 rfl hn trivial ?_
  refine V.max rfl rfl lm_6_max rfl (by omega) (Nat.le_refl _) ?_
  have e0 : (if iZ 0 < iZ (at0 : Int) then iZ (at0 : Int) else iZ 0) = iZ (at0 : Int) := by
    by_cases h : 0 < at0
    · rw [if_pos ((iZ_lt (by omega) (by omega)).mpr (by omega))]
    · rw [if_neg (fun c => by have := (iZ_lt (by omega) (by omega)).mp c; omega)]
      exact iZ_pat (by omega)
  rw [e0]
  refine V.run 8 54 rfl hn trivial ?_
  have key : ∀ (j k : Nat), k + j = (dgs tx at0).length → V M_X6_endOfFigures d n n none Q n (rho ca cb tr) σ 8 [some (.ref 25), some (.int (iZ (at0))), some (.int (iZ ((at0 + k : Nat)))), some (.int (iZ ((at0 + k : Nat))))] [] := by
    intro j
    induction j with
    | zero =>
      intro k hk
      have fin : V M_X6_endOfFigures d n n none Q n (rho ca cb tr) σ 48 [some (.ref 25), some (.int (iZ (at0))), some (.int (iZ ((at0 + k : Nat)))), some (.int (iZ ((at0 + k : Nat))))] [] := by
        refine V.run 0 54 rfl hn trivial ?_
        rw [show k = (dgs tx at0).length by omega]
        refine V.ret (v := some (.int (iZ (at0 + (dgs tx at0).length : Nat)))) rfl rfl rfl rfl (hQ)
      refine V.run 0 54 rfl hn trivial ?_
      try simp only [rc_1_0, rc_1_1, rc_1_2, rc_1_3, rc_1_4, rc_1_5, rc_2_0, rc_2_1, rc_2_2, rc_6_0, rc_6_1, rc_6_2, rc_6_3, rc_7_0, rc_7_1, rc_7_2, rc_7_3, rc_12_0, rc_12_1, rc_12_2, rc_12_3, rc_18_0, rc_18_1, rc_20_0, rc_20_1, rc_22_0, rc_23_0, rc_25_0, rc_27_0, rc_27_1, rc_27_2, rc_31_0, rc_31_1, rc_31_2, rc_55_0, rc_55_1, rc_55_2, rc_1_6, rc_1_7, rc_23_2, fi_0_1, fi_0_2, fi_0_3, fi_1_3, fi_1_4, fi_1_5, fi_1_6, fi_1_7, fi_2_2, fi_3_3, fi_3_4, fi_3_5, fi_4_1, fi_5_4, fi_5_5, fi_5_6, fi_5_7, fi_5_8, fi_5_9, fi_6_1, fi_7_3, fi_7_4]
      rw [t2]
      refine V.br rfl (fun (c : iZ tx.length ≤ iZ (at0 + k : Nat)) => ?_) (fun (c : ¬ (iZ tx.length ≤ iZ (at0 + k : Nat))) => ?_)
      · exact fin
      · rw [iZ_le (by omega) (by omega)] at c
        have hnd := dgs_end (tx := tx) (at0 := at0) (by omega)
        rw [show at0 + (dgs tx at0).length = at0 + k by omega] at hnd
        have hb := t4 _ (getD_mem2 (r := tx) (i := at0 + k) (by omega))
        have hs := sgN_b hb
        unfold dgB at hnd
        simp only [Bool.and_eq_false_iff, decide_eq_false_iff_not] at hnd
        refine V.run 0 54 rfl hn ⟨in_N (n := 120) (by omega) (by decide), trivial⟩ ?_
        try simp only [rc_1_0, rc_1_1, rc_1_2, rc_1_3, rc_1_4, rc_1_5, rc_2_0, rc_2_1, rc_2_2, rc_6_0, rc_6_1, rc_6_2, rc_6_3, rc_7_0, rc_7_1, rc_7_2, rc_7_3, rc_12_0, rc_12_1, rc_12_2, rc_12_3, rc_18_0, rc_18_1, rc_20_0, rc_20_1, rc_22_0, rc_23_0, rc_25_0, rc_27_0, rc_27_1, rc_27_2, rc_31_0, rc_31_1, rc_31_2, rc_55_0, rc_55_1, rc_55_2, rc_1_6, rc_1_7, rc_23_2, fi_0_1, fi_0_2, fi_0_3, fi_1_3, fi_1_4, fi_1_5, fi_1_6, fi_1_7, fi_2_2, fi_3_3, fi_3_4, fi_3_5, fi_4_1, fi_5_4, fi_5_5, fi_5_6, fi_5_7, fi_5_8, fi_5_9, fi_6_1, fi_7_3, fi_7_4]
        rw [ix_N (by omega), t3 _ (by omega)]
        refine V.br rfl (fun (c2 : iZ (sgN (tx.getD (at0 + k) 0)) < iZ 48) => ?_) (fun (c2 : ¬ (iZ (sgN (tx.getD (at0 + k) 0)) < iZ 48)) => ?_)
        · exact fin
        · rw [iZ_lt (by omega) (by omega)] at c2
          refine V.run 0 54 rfl hn ⟨in_N (n := 120) (by omega) (by decide), trivial⟩ ?_
          try simp only [rc_1_0, rc_1_1, rc_1_2, rc_1_3, rc_1_4, rc_1_5, rc_2_0, rc_2_1, rc_2_2, rc_6_0, rc_6_1, rc_6_2, rc_6_3, rc_7_0, rc_7_1, rc_7_2, rc_7_3, rc_12_0, rc_12_1, rc_12_2, rc_12_3, rc_18_0, rc_18_1, rc_20_0, rc_20_1, rc_22_0, rc_23_0, rc_25_0, rc_27_0, rc_27_1, rc_27_2, rc_31_0, rc_31_1, rc_31_2, rc_55_0, rc_55_1, rc_55_2, rc_1_6, rc_1_7, rc_23_2, fi_0_1, fi_0_2, fi_0_3, fi_1_3, fi_1_4, fi_1_5, fi_1_6, fi_1_7, fi_2_2, fi_3_3, fi_3_4, fi_3_5, fi_4_1, fi_5_4, fi_5_5, fi_5_6, fi_5_7, fi_5_8, fi_5_9, fi_6_1, fi_7_3, fi_7_4]
          rw [ix_N (by omega), t3 _ (by omega)]
          refine V.brT rfl ((iZ_lt (by omega) (by omega)).mpr ?_) ?_
          · rcases Nat.lt_or_ge (tx.getD (at0 + k) 0) 128 with q | q
            · have := hs.2.2.1 q
              omega
            · have := hs.2.2.2 q
              omega
          · exact fin
    | succ j ih =>
      intro k hk
      have hg := dgs_get (tx := tx) (at0 := at0) (k := k) (by omega)
      have hm := dgs_mem (tx := tx) (at0 := at0) (b := (dgs tx at0).getD k 0) (getD_mem2 (by omega))
      have hb := t4 _ (getD_mem2 (r := tx) (i := at0 + k) (by omega))
      have hs := (sgN_b hb).2.2.1 (by omega)
      refine V.run 0 54 rfl hn trivial ?_
      try simp only [rc_1_0, rc_1_1, rc_1_2, rc_1_3, rc_1_4, rc_1_5, rc_2_0, rc_2_1, rc_2_2, rc_6_0, rc_6_1, rc_6_2, rc_6_3, rc_7_0, rc_7_1, rc_7_2, rc_7_3, rc_12_0, rc_12_1, rc_12_2, rc_12_3, rc_18_0, rc_18_1, rc_20_0, rc_20_1, rc_22_0, rc_23_0, rc_25_0, rc_27_0, rc_27_1, rc_27_2, rc_31_0, rc_31_1, rc_31_2, rc_55_0, rc_55_1, rc_55_2, rc_1_6, rc_1_7, rc_23_2, fi_0_1, fi_0_2, fi_0_3, fi_1_3, fi_1_4, fi_1_5, fi_1_6, fi_1_7, fi_2_2, fi_3_3, fi_3_4, fi_3_5, fi_4_1, fi_5_4, fi_5_5, fi_5_6, fi_5_7, fi_5_8, fi_5_9, fi_6_1, fi_7_3, fi_7_4]
      rw [t2]
      refine V.brF rfl (fun c => by have := (iZ_le (by omega) (by omega)).mp c; omega) ?_
      refine V.run 0 54 rfl hn ⟨in_N (n := 120) (by omega) (by decide), trivial⟩ ?_
      try simp only [rc_1_0, rc_1_1, rc_1_2, rc_1_3, rc_1_4, rc_1_5, rc_2_0, rc_2_1, rc_2_2, rc_6_0, rc_6_1, rc_6_2, rc_6_3, rc_7_0, rc_7_1, rc_7_2, rc_7_3, rc_12_0, rc_12_1, rc_12_2, rc_12_3, rc_18_0, rc_18_1, rc_20_0, rc_20_1, rc_22_0, rc_23_0, rc_25_0, rc_27_0, rc_27_1, rc_27_2, rc_31_0, rc_31_1, rc_31_2, rc_55_0, rc_55_1, rc_55_2, rc_1_6, rc_1_7, rc_23_2, fi_0_1, fi_0_2, fi_0_3, fi_1_3, fi_1_4, fi_1_5, fi_1_6, fi_1_7, fi_2_2, fi_3_3, fi_3_4, fi_3_5, fi_4_1, fi_5_4, fi_5_5, fi_5_6, fi_5_7, fi_5_8, fi_5_9, fi_6_1, fi_7_3, fi_7_4]
      rw [ix_N (by omega), t3 _ (by omega), hs]
      refine V.brF rfl (fun c => by have := (iZ_lt (by omega) (by omega)).mp c; omega) ?_
      refine V.run 0 54 rfl hn ⟨in_N (n := 120) (by omega) (by decide), trivial⟩ ?_
      try simp only [rc_1_0, rc_1_1, rc_1_2, rc_1_3, rc_1_4, rc_1_5, rc_2_0, rc_2_1, rc_2_2, rc_6_0, rc_6_1, rc_6_2, rc_6_3, rc_7_0, rc_7_1, rc_7_2, rc_7_3, rc_12_0, rc_12_1, rc_12_2, rc_12_3, rc_18_0, rc_18_1, rc_20_0, rc_20_1, rc_22_0, rc_23_0, rc_25_0, rc_27_0, rc_27_1, rc_27_2, rc_31_0, rc_31_1, rc_31_2, rc_55_0, rc_55_1, rc_55_2, rc_1_6, rc_1_7, rc_23_2, fi_0_1, fi_0_2, fi_0_3, fi_1_3, fi_1_4, fi_1_5, fi_1_6, fi_1_7, fi_2_2, fi_3_3, fi_3_4, fi_3_5, fi_4_1, fi_5_4, fi_5_5, fi_5_6, fi_5_7, fi_5_8, fi_5_9, fi_6_1, fi_7_3, fi_7_4]
      rw [ix_N (by omega), t3 _ (by omega), hs]
      refine V.brF rfl (fun c => by have := (iZ_lt (by omega) (by omega)).mp c; omega) ?_
      refine V.run 0 54 rfl hn trivial ?_
      have := ih (k + 1) (by omega)
      rw [show ((at0 + (k + 1) : Nat) : Int) = ((at0 + k : Nat) : Int) + 1 by omega, ← iZ_add] at this
      exact this
  exact key (dgs tx at0).length 0 (by omega)
theorem c_valueOf (hn : 54 ≤ n) {at0 : Nat} {tx : List Nat} (ha : at0 ≤ tx.length) (ht : txtM σ tx) (hQ : Q (some (.int (iZ (clV (dgs tx at0))))) (rho ca cb tr) σ) : Mt M_X6_valueOf d n n [.ref 25, .int (iZ at0), .int (iZ (at0 + (dgs tx at0).length : Nat))] (rho ca cb tr) σ Q := by
  obtain ⟨t1, t2, t3, t4⟩ := id ht
  have hdl := dgs_len tx at0 ha
  have hdg : ∀ k, k < (dgs tx at0).length → σ 26 (at0 + k) = iZ ((dgs tx at0).getD k 0) ∧ 48 ≤ (dgs tx at0).getD k 0 ∧ (dgs tx at0).getD k 0 ≤ 57 := fun k hk => by
    have hg := dgs_get (tx := tx) (at0 := at0) (k := k) hk
    have hm := dgs_mem (tx := tx) (at0 := at0) (b := (dgs tx at0).getD k 0) (getD_mem2 hk)
    have hb := t4 _ (getD_mem2 (r := tx) (i := at0 + k) (by omega))
    refine ⟨?_, hm⟩
    rw [t3 _ (by omega), (sgN_b hb).2.2.1 (by omega), hg]
  have hdb : ∀ b ∈ dgs tx at0, b ≤ 57 := fun b hb => (dgs_mem hb).2
  generalize dgs tx at0 = ds at *
  unfold clV at hQ
  refine Mt.of rfl (by decide +kernel) tk_X6_valueOf (Nat.le_of_ble_eq_true rfl) ?_
  have zero : ∀ x3 x4, (ds = [] ∨ 5 < ds.length ∨ ds.getD 0 0 = 48) → V M_X6_valueOf d n n none Q n (rho ca cb tr) σ 35 [some (.ref 25), some (.int (iZ (at0))), some (.int (iZ ((at0 + ds.length : Nat)))), x3, x4] [] := by
    intro x3 x4 h
    rw [if_pos h] at hQ
    refine V.run 0 54 rfl hn trivial ?_
    refine V.ret (v := some (.int (iZ 0))) rfl rfl rfl rfl (hQ)
  refine V.run 0 54 rfl hn trivial ?_
  refine V.brF rfl (fun c => by have := (iZ_lt0 (by omega)).mp c; omega) ?_
  refine V.run 0 54 rfl hn trivial ?_
  refine V.br rfl (fun (c1 : iZ (at0 + ds.length : Nat) ≤ iZ at0) => ?_) (fun (c1 : ¬ (iZ (at0 + ds.length : Nat) ≤ iZ at0)) => ?_)
  · rw [iZ_le (by omega) (by omega)] at c1
    exact zero _ _ (Or.inl (List.eq_nil_of_length_eq_zero (by omega)))
  · rw [iZ_le (by omega) (by omega)] at c1
    refine V.run 0 54 rfl hn trivial ?_
    try simp only [rc_1_0, rc_1_1, rc_1_2, rc_1_3, rc_1_4, rc_1_5, rc_2_0, rc_2_1, rc_2_2, rc_6_0, rc_6_1, rc_6_2, rc_6_3, rc_7_0, rc_7_1, rc_7_2, rc_7_3, rc_12_0, rc_12_1, rc_12_2, rc_12_3, rc_18_0, rc_18_1, rc_20_0, rc_20_1, rc_22_0, rc_23_0, rc_25_0, rc_27_0, rc_27_1, rc_27_2, rc_31_0, rc_31_1, rc_31_2, rc_55_0, rc_55_1, rc_55_2, rc_1_6, rc_1_7, rc_23_2, fi_0_1, fi_0_2, fi_0_3, fi_1_3, fi_1_4, fi_1_5, fi_1_6, fi_1_7, fi_2_2, fi_3_3, fi_3_4, fi_3_5, fi_4_1, fi_5_4, fi_5_5, fi_5_6, fi_5_7, fi_5_8, fi_5_9, fi_6_1, fi_7_3, fi_7_4]
    rw [t2]
    refine V.brF rfl (fun c => by have := (iZ_lt (by omega) (by omega)).mp c; omega) ?_
    refine V.run 0 54 rfl hn trivial ?_
    rw [iZ_sub]
    refine V.br rfl (fun (c2 : iZ 5 < iZ ((at0 + ds.length : Nat) - (at0 : Int))) => ?_) (fun (c2 : ¬ (iZ 5 < iZ ((at0 + ds.length : Nat) - (at0 : Int)))) => ?_)
    · rw [iZ_lt (by omega) (by omega)] at c2
      exact zero _ _ (Or.inr (Or.inl (by omega)))
    · rw [iZ_lt (by omega) (by omega)] at c2
      have h0 := hdg 0 (by omega)
      rw [Nat.add_zero] at h0
      refine V.run 0 54 rfl hn ⟨in_N (n := 120) (by omega) (by decide), trivial⟩ ?_
      try simp only [rc_1_0, rc_1_1, rc_1_2, rc_1_3, rc_1_4, rc_1_5, rc_2_0, rc_2_1, rc_2_2, rc_6_0, rc_6_1, rc_6_2, rc_6_3, rc_7_0, rc_7_1, rc_7_2, rc_7_3, rc_12_0, rc_12_1, rc_12_2, rc_12_3, rc_18_0, rc_18_1, rc_20_0, rc_20_1, rc_22_0, rc_23_0, rc_25_0, rc_27_0, rc_27_1, rc_27_2, rc_31_0, rc_31_1, rc_31_2, rc_55_0, rc_55_1, rc_55_2, rc_1_6, rc_1_7, rc_23_2, fi_0_1, fi_0_2, fi_0_3, fi_1_3, fi_1_4, fi_1_5, fi_1_6, fi_1_7, fi_2_2, fi_3_3, fi_3_4, fi_3_5, fi_4_1, fi_5_4, fi_5_5, fi_5_6, fi_5_7, fi_5_8, fi_5_9, fi_6_1, fi_7_3, fi_7_4]
      rw [ix_N (by omega), h0.1]
      refine V.br rfl (fun (c3 : iZ (ds.getD 0 0) = iZ 48) => ?_) (fun (c3 : ¬ (iZ (ds.getD 0 0) = iZ 48)) => ?_)
      · rw [iZ_eq (by omega) (by omega)] at c3
        exact zero _ _ (Or.inr (Or.inr (by omega)))
      · rw [iZ_eq (by omega) (by omega)] at c3
        have hne : ¬ (ds = [] ∨ 5 < ds.length ∨ ds.getD 0 0 = 48) := by
          rintro (h | h | h)
          · rw [h] at c1; simp at c1
          · omega
          · omega
        rw [if_neg hne] at hQ
        refine V.run 42 54 rfl hn trivial ?_
        have key : ∀ (j k : Nat), k + j = ds.length → V M_X6_valueOf d n n none Q n (rho ca cb tr) σ 42 [some (.ref 25), some (.int (iZ (at0))), some (.int (iZ ((at0 + ds.length : Nat)))), some (.int (iZ ((clP (ds.take k) 0)))), some (.int (iZ ((at0 + k : Nat))))] [] := by
          intro j
          induction j with
          | zero =>
            intro k hk
            have e : k = ds.length := by omega
            rw [e, List.take_length]
            refine V.run 0 54 rfl hn trivial ?_
            refine V.brT rfl ((iZ_le (by omega) (by omega)).mpr (by omega)) ?_
            refine V.run 0 54 rfl hn trivial ?_
            refine V.ret (v := some (.int (iZ (clP ds 0)))) rfl rfl rfl rfl (hQ)
          | succ j ih =>
            intro k hk
            have hk2 := hdg k (by omega)
            have hfo : clP (ds.take (k + 1)) 0 = 10 * clP (ds.take k) 0 + (ds.getD k 0 - 48) := by
              unfold clP
              exact foldl_take (fun v b => 10 * v + (b - 48)) 0 ds (by omega)
            refine V.run 0 54 rfl hn trivial ?_
            refine V.brF rfl (fun c => by have := (iZ_le (by omega) (by omega)).mp c; omega) ?_
            refine V.run 0 54 rfl hn ⟨in_N (n := 120) (by omega) (by decide), trivial⟩ ?_
            try simp only [rc_1_0, rc_1_1, rc_1_2, rc_1_3, rc_1_4, rc_1_5, rc_2_0, rc_2_1, rc_2_2, rc_6_0, rc_6_1, rc_6_2, rc_6_3, rc_7_0, rc_7_1, rc_7_2, rc_7_3, rc_12_0, rc_12_1, rc_12_2, rc_12_3, rc_18_0, rc_18_1, rc_20_0, rc_20_1, rc_22_0, rc_23_0, rc_25_0, rc_27_0, rc_27_1, rc_27_2, rc_31_0, rc_31_1, rc_31_2, rc_55_0, rc_55_1, rc_55_2, rc_1_6, rc_1_7, rc_23_2, fi_0_1, fi_0_2, fi_0_3, fi_1_3, fi_1_4, fi_1_5, fi_1_6, fi_1_7, fi_2_2, fi_3_3, fi_3_4, fi_3_5, fi_4_1, fi_5_4, fi_5_5, fi_5_6, fi_5_7, fi_5_8, fi_5_9, fi_6_1, fi_7_3, fi_7_4]
            rw [ix_N (by omega), hk2.1, iZ_mul, iZ_add, iZ_sub]
            have := ih (k + 1) (by omega)
            rw [hfo, show ((at0 + (k + 1) : Nat) : Int) = ((at0 + k : Nat) : Int) + 1 by omega, ← iZ_add ((at0 + k : Nat) : Int) 1, show ((10 * clP (ds.take k) 0 + (ds.getD k 0 - 48) : Nat) : Int) = 10 * ((clP (ds.take k) 0 : Nat) : Int) + ((ds.getD k 0 : Nat) : Int) - 48 by omega] at this
            exact this
        exact key ds.length 0 (by omega)
end CX1
