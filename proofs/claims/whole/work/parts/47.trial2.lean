/-! ===== the class: put, take back, begin, comes, leadsOn ===== -/
theorem ctB_le (kind : Nat) (S : List Nat) (x y v : Nat) : ctB kind S x y v ≤ 2 := by
  unfold ctB
  split <;> split <;> omega
theorem ctr_le (kind : Nat) (S : List Nat) (x v : Nat) : ∀ L : List Nat, ctr kind S x L v ≤ 2 * L.length
  | [] => Nat.le_refl _
  | y :: L => by
    have h1 := ctr_le kind S x v L
    have h2 := ctB_le kind S x y v
    unfold ctr at *
    simp only [List.map_cons, List.sum_cons, List.length_cons]
    omega
theorem wyR_le (kind v : Nat) : ∀ s : List Nat, s.length ≤ 48 → wyR kind s v ≤ 96 * s.length
  | [], _ => Nat.le_refl _
  | x :: s, h => by
    rw [List.length_cons] at h
    have h1 := wyR_le kind v s (by omega)
    have h2 := ctr_le kind (x :: s).reverse x v (x :: s).reverse
    rw [List.length_reverse, List.length_cons] at h2
    unfold wyR
    rw [List.length_cons]
    omega
theorem wy_le {kind v : Nat} {r : List Nat} (h : r.length ≤ 48) : wy kind r v ≤ 4608 := by
  have := wyR_le kind v r.reverse (by rw [List.length_reverse]; exact h)
  rw [List.length_reverse] at this
  unfold wy
  omega
def cmP (kind : Nat) (r : List Nat) (v : Nat) : Prop := if kind = 1 then lastD r < v ∧ v - lastD r ∈ r else 0 < wy kind r v ∧ v ∉ r
def leP (kind : Nat) (r : List Nat) (v g : Nat) : Prop := g = 2 * v ∨ (kind = 2 ∧ (dif g v ∈ r ∨ g + v ∈ r)) ∨ (kind ≠ 2 ∧ v ≤ g ∧ g - v ∈ r ∧ (kind = 3 → g - v ≤ v ∧ v - (g - v) ∈ r))
theorem getD_app {r : List Nat} {v i : Nat} (h : i < r.length) : (r ++ [v]).getD i 0 = r.getD i 0 := by
  rw [List.getD_eq_getElem?_getD, List.getD_eq_getElem?_getD, List.getElem?_append_left h]
theorem getD_last (r : List Nat) (v : Nat) : (r ++ [v]).getD r.length 0 = v := by simp
section CT2
variable {d n ca cb tr : Nat} {Q : PQ} {σ : Mem}
theorem c_comes (hn : 54 ≤ n) (hd : 2 ≤ d) {kind v : Nat} {r : List Nat} (hv : 1 ≤ v ∧ v ≤ 160) (ht : trialM σ kind r) (h1 : cmP kind r v → Q (some (.int 1)) (rho ca cb tr) σ) (h0 : ¬ cmP kind r v → Q (some (.int 0)) (rho ca cb tr) σ) : Mt M_X7_comes d n n [.ref 2, .int (iZ v)] (rho ca cb tr) σ Q := by
  obtain ⟨⟨t1, t2, t3⟩, t4, t5, t6, t7, t8, t9⟩ := id ht
  have hw := wy_le (kind := kind) (v := v) t1
  refine Mt.of rfl (by decide +kernel) tk_X7_comes (Nat.le_of_ble_eq_true rfl) ?_
  refine V.run 0 54 rfl hn trivial ?_
  try simp only [rc_1_0, rc_1_1, rc_1_2, rc_1_3, rc_1_4, rc_1_5, rc_2_0, rc_2_1, rc_2_2, rc_6_0, rc_6_1, rc_6_2, rc_6_3, rc_7_0, rc_7_1, rc_7_2, rc_7_3, rc_12_0, rc_12_1, rc_12_2, rc_12_3, rc_18_0, rc_18_1, rc_20_0, rc_20_1, rc_22_0, rc_23_0, rc_25_0, rc_27_0, rc_27_1, rc_27_2, rc_31_0, rc_31_1, rc_31_2, rc_55_0, rc_55_1, rc_55_2, rc_1_6, rc_1_7, rc_23_2, fi_0_1, fi_0_2, fi_0_3, fi_1_3, fi_1_4, fi_1_5, fi_1_6, fi_1_7, fi_2_2, fi_3_3, fi_3_4, fi_3_5, fi_4_1, fi_5_4, fi_5_5, fi_5_6, fi_5_7, fi_5_8, fi_5_9, fi_6_1, fi_7_3, fi_7_4]
  rw [t6]
  refine V.br rfl (fun (c : iZ kind = iZ 1) => ?_) (fun (c : ¬ (iZ kind = iZ 1)) => ?_)
  · rw [iZ_eq (by omega) (by omega)] at c
    have c : kind = 1 := by omega
    unfold cmP at h1 h0
    rw [if_pos c] at h1 h0
    have hl : lastD r ≤ 160 := by
      rcases Nat.eq_zero_or_pos r.length with q | q
      · rw [List.eq_nil_of_length_eq_zero q]; decide
      · rw [lastD_eq q]; exact (t2 _ (getD_mem2 (by omega))).2
    refine V.run 0 54 rfl hn trivial ?_
    refine V.cv (lo := 54) (d' := d - 1) rfl rfl ok_X7_latest lk_7_X7_latest rfl rfl rfl hn (by omega) (Nat.le_refl _) (Nat.le_refl _) ((c_latest hn (by omega) ht ?_))
    refine V.run 0 54 rfl hn trivial ?_
    rw [iZ_sub]
    refine V.cv (lo := 54) (d' := d - 1) rfl rfl ok_X7_stands lk_7_X7_stands rfl rfl rfl hn (by omega) (Nat.le_refl _) (Nat.le_refl _) ((c_stands hn (by omega) ht (fun q => ?_) (fun q => ?_)))
    · have hq := t2 _ q.2
      rw [show ((v : Int) - (lastD r : Int)).toNat = v - lastD r by omega] at q hq
      refine V.ret (v := some (.int 1)) rfl rfl ⟨rfl, Or.inr rfl⟩ rfl (h1 ⟨by omega, q.2⟩)
    · refine V.ret (v := some (.int 0)) rfl rfl ⟨rfl, Or.inl rfl⟩ rfl (h0 (fun g => q ⟨by omega, by rw [show ((v : Int) - (lastD r : Int)).toNat = v - lastD r by omega]; exact g.2⟩))
  · rw [iZ_eq (by omega) (by omega)] at c
    unfold cmP at h1 h0
    rw [if_neg (by omega)] at h1 h0
    have no : ¬ (0 < wy kind r v ∧ v ∉ r) → V M_X7_comes d n n none Q n (rho ca cb tr) σ 39 [some (.ref 2), some (.int (iZ (v)))] [] := by
      intro h
      refine V.run 0 54 rfl hn trivial ?_
      refine V.ret (v := some (.int 0)) rfl rfl ⟨rfl, Or.inl rfl⟩ rfl (h0 h)
    refine V.run 0 54 rfl hn trivial ?_
    refine V.cv (lo := 54) (d' := d - 1) rfl rfl ok_X7_waysTo lk_7_X7_waysTo rfl rfl rfl hn (by omega) (Nat.le_refl _) (Nat.le_refl _) ((c_waysTo hn hv ht ?_))
    refine V.br rfl (fun (c2 : iZ (wy kind r v) ≤ 0) => ?_) (fun (c2 : ¬ (iZ (wy kind r v) ≤ 0)) => ?_)
    · rw [iZ_le0 (by omega)] at c2
      exact no (fun q => by omega)
    · rw [iZ_le0 (by omega)] at c2
      refine V.run 0 54 rfl hn trivial ?_
      refine V.cv (lo := 54) (d' := d - 1) rfl rfl ok_X7_stands lk_7_X7_stands rfl rfl rfl hn (by omega) (Nat.le_refl _) (Nat.le_refl _) ((c_stands hn (by omega) ht (fun q => ?_) (fun q => ?_)))
      · rw [Int.toNat_natCast] at q
        refine V.brF rfl (by decide) ?_
        exact no (fun g => g.2 q.2)
      · rw [Int.toNat_natCast] at q
        refine V.brT rfl rfl ?_
        refine V.run 0 54 rfl hn trivial ?_
        refine V.ret (v := some (.int 1)) rfl rfl ⟨rfl, Or.inr rfl⟩ rfl (h1 ⟨by omega, fun g => q ⟨by omega, g⟩⟩)
theorem c_put (hn : 54 ≤ n) (hd : 2 ≤ d) {kind v : Nat} {r : List Nat} (hv : 1 ≤ v ∧ v ≤ 160) (hl : r.length < 48) (hnm : v ∉ r) (ht : trialM σ kind r) (hQ : ∀ σ', trialM σ' kind (r ++ [v]) → Fr [2, 3, 4, 5] σ σ' → Q (some (.int 1)) (rho ca cb tr) σ') : Mt M_X7_put d n n [.ref 2, .int (iZ v)] (rho ca cb tr) σ Q := by
  obtain ⟨⟨t1, t2, t3⟩, t4, t5, t6, t7, t8, t9⟩ := id ht
  refine Mt.of rfl (by decide +kernel) tk_X7_put (Nat.le_of_ble_eq_true rfl) ?_
  have hlen : (r ++ [v]).length = r.length + 1 := by simp
  have hb : ∀ y ∈ r ++ [v], 1 ≤ y ∧ y ≤ 160 := fun y hy => by
    rcases List.mem_append.mp hy with q | q
    · exact t2 y q
    · rw [List.mem_singleton] at q; omega
  have hnd : (r ++ [v]).Nodup := by
    rw [List.nodup_append]
    refine ⟨t3, by simp, ?_⟩
    intro a ha b hb2
    rw [List.mem_singleton] at hb2
    rw [hb2]
    rintro rfl
    exact hnm ha
  have k53 : ∀ σ1 : Mem, Fr [2, 3, 4, 5] σ σ1 → σ1 4 = σ 4 → σ1 2 3 = iZ (r.length + 1 : Nat) → σ1 2 4 = iZ kind → numsM σ1 (r ++ [v]) → thereM σ1 (r ++ [v]) → V M_X7_put d n n none Q n (rho ca cb tr) σ1 53 [some (.ref 2), some (.int (iZ (v)))] [(.int (iZ (1))), (.int (iZ (v))), (.ref 2)] := by
    intro σ1 hf h4 h23 h24 h3 h5
    refine V.cv (lo := 54) (d' := d - 1) rfl rfl ok_X7_changePairs lk_7_X7_changePairs rfl rfl rfl hn (by omega) (Nat.le_refl _) (Nat.le_refl _) ((c_changePairs hn (by omega) (w := fun u => (wy kind r u : Int)) t4 (by omega) hb hv (by rw [hlen]; exact h23) h24 h3 h5 (fun u hu => by rw [h4]; exact t9 u hu) (fun σ2 hf2 hw2 => ?_)))
    refine V.run 0 54 rfl hn trivial ?_
    refine V.ret (v := some (.int 1)) rfl rfl ⟨rfl, Or.inr rfl⟩ rfl (hQ σ2 ⟨⟨by omega, hb, hnd⟩, t4, ?_, ?_, ?_, ?_, ?_⟩ (hf.tr (hf2.mono (by simp))))
    · rw [hf2 2 (by decide), hlen]; exact h23
    · rw [hf2 2 (by decide)]; exact h24
    · intro i hi; rw [hf2 3 (by decide)]; exact h3 i hi
    · intro u hu; rw [hf2 5 (by decide)]; exact h5 u hu
    · intro u hu
      rw [hw2 u hu, wy_app]
      refine iZ_pat ?_
      rw [Int.one_mul]
      omega
  refine V.run 0 54 rfl hn trivial ?_
  refine V.brF rfl (fun c => by have := (iZ_lt (by omega) (by omega)).mp c; omega) ?_
  refine V.run 0 54 rfl hn trivial ?_
  refine V.brF rfl (fun c => by have := (iZ_le (by omega) (by omega)).mp c; omega) ?_
  refine V.run 0 54 rfl hn trivial ?_
  try simp only [rc_1_0, rc_1_1, rc_1_2, rc_1_3, rc_1_4, rc_1_5, rc_2_0, rc_2_1, rc_2_2, rc_6_0, rc_6_1, rc_6_2, rc_6_3, rc_7_0, rc_7_1, rc_7_2, rc_7_3, rc_12_0, rc_12_1, rc_12_2, rc_12_3, rc_18_0, rc_18_1, rc_20_0, rc_20_1, rc_22_0, rc_23_0, rc_25_0, rc_27_0, rc_27_1, rc_27_2, rc_31_0, rc_31_1, rc_31_2, rc_55_0, rc_55_1, rc_55_2, rc_1_6, rc_1_7, rc_23_2, fi_0_1, fi_0_2, fi_0_3, fi_1_3, fi_1_4, fi_1_5, fi_1_6, fi_1_7, fi_2_2, fi_3_3, fi_3_4, fi_3_5, fi_4_1, fi_5_4, fi_5_5, fi_5_6, fi_5_7, fi_5_8, fi_5_9, fi_6_1, fi_7_3, fi_7_4]
  rw [t5]
  refine V.brT rfl ((iZ_lt (by omega) (by omega)).mpr (by omega)) ?_
  refine V.run 0 54 rfl hn ⟨by (try simp only [fi_7_3]); rw [t5]; exact in_N (n := 48) (by omega) (by decide), in_N (n := 161) (by omega) (by decide), trivial⟩ ?_
  try simp only [rc_1_0, rc_1_1, rc_1_2, rc_1_3, rc_1_4, rc_1_5, rc_2_0, rc_2_1, rc_2_2, rc_6_0, rc_6_1, rc_6_2, rc_6_3, rc_7_0, rc_7_1, rc_7_2, rc_7_3, rc_12_0, rc_12_1, rc_12_2, rc_12_3, rc_18_0, rc_18_1, rc_20_0, rc_20_1, rc_22_0, rc_23_0, rc_25_0, rc_27_0, rc_27_1, rc_27_2, rc_31_0, rc_31_1, rc_31_2, rc_55_0, rc_55_1, rc_55_2, rc_1_6, rc_1_7, rc_23_2, fi_0_1, fi_0_2, fi_0_3, fi_1_3, fi_1_4, fi_1_5, fi_1_6, fi_1_7, fi_2_2, fi_3_3, fi_3_4, fi_3_5, fi_4_1, fi_5_4, fi_5_5, fi_5_6, fi_5_7, fi_5_8, fi_5_9, fi_6_1, fi_7_3, fi_7_4]
  rw [t5, ix_N (by omega), ix_N (by omega)]
  refine k53 _ (Fr.putT (Fr.putT (Fr.put (by simp)) (by simp)) (by simp)) ?_ ?_ ?_ (fun i hi => ?_) (fun u hu => ?_)
  · rw [up_ne (by decide), up_ne (by decide), up_ne (by decide)]
  · rw [up_ne (by decide), up_at, up_ne (by decide), t5, iZ_add]
    exact iZ_pat (by omega)
  · rw [up_ne (by decide), up_nat (by decide), up_ne (by decide), t6]
  · rw [up_ne (by decide), up_ne (by decide)]
    rw [hlen] at hi
    by_cases e : i = r.length
    · subst e
      rw [up_at, getD_last]
    · rw [up_nat e, t7 i (by omega), getD_app (by omega)]
  · by_cases e : u = v
    · subst e
      rw [up_at, if_pos (by simp)]
      rfl
    · rw [up_nat e, up_ne (by decide), up_ne (by decide), t8 u hu]
      by_cases hm : u ∈ r
      · rw [if_pos hm, if_pos (List.mem_append_left _ hm)]
      · rw [if_neg hm, if_neg (by simp [hm, e])]
theorem c_takeBack (hn : 54 ≤ n) (hd : 3 ≤ d) {kind x : Nat} {r : List Nat} (ht : trialM σ kind (r ++ [x])) (hQ : ∀ σ', trialM σ' kind r → Fr [2, 3, 4, 5] σ σ' → Q none (rho ca cb tr) σ') : Mt M_X7_takeBack d n n [.ref 2] (rho ca cb tr) σ Q := by
  obtain ⟨⟨t1, t2, t3⟩, t4, t5, t6, t7, t8, t9⟩ := id ht
  have hlen : (r ++ [x]).length = r.length + 1 := by simp
  have hx := t2 x (by simp)
  rw [hlen] at t1 t5
  refine Mt.of rfl (by decide +kernel) tk_X7_takeBack (Nat.le_of_ble_eq_true rfl) ?_
  refine V.run 0 54 rfl hn trivial ?_
  refine V.cv (lo := 54) (d' := d - 1) rfl rfl ok_X7_latest lk_7_X7_latest rfl rfl rfl hn (by omega) (Nat.le_refl _) (Nat.le_refl _) ((c_latest hn (by omega) ht ?_))
  rw [lastD_app]
  refine V.run 0 54 rfl hn trivial ?_
  refine V.brT rfl ((iZ_le (by omega) (by omega)).mpr (by omega)) ?_
  refine V.run 0 54 rfl hn trivial ?_
  refine V.cv (lo := 54) (d' := d - 1) rfl rfl ok_X7_changePairs lk_7_X7_changePairs rfl rfl rfl hn (by omega) (Nat.le_refl _) (Nat.le_refl _) ((c_changePairs hn (by omega) (w1 := -1) (w := fun u => (wy kind (r ++ [x]) u : Int)) t4 (by omega) t2 hx (by rw [hlen]; exact t5) t6 t7 t8 t9 (fun σ2 hf2 hw2 => ?_)))
  refine V.run 0 54 rfl hn ⟨in_N (n := 161) (by omega) (by decide), trivial⟩ ?_
  try simp only [rc_1_0, rc_1_1, rc_1_2, rc_1_3, rc_1_4, rc_1_5, rc_2_0, rc_2_1, rc_2_2, rc_6_0, rc_6_1, rc_6_2, rc_6_3, rc_7_0, rc_7_1, rc_7_2, rc_7_3, rc_12_0, rc_12_1, rc_12_2, rc_12_3, rc_18_0, rc_18_1, rc_20_0, rc_20_1, rc_22_0, rc_23_0, rc_25_0, rc_27_0, rc_27_1, rc_27_2, rc_31_0, rc_31_1, rc_31_2, rc_55_0, rc_55_1, rc_55_2, rc_1_6, rc_1_7, rc_23_2, fi_0_1, fi_0_2, fi_0_3, fi_1_3, fi_1_4, fi_1_5, fi_1_6, fi_1_7, fi_2_2, fi_3_3, fi_3_4, fi_3_5, fi_4_1, fi_5_4, fi_5_5, fi_5_6, fi_5_7, fi_5_8, fi_5_9, fi_6_1, fi_7_3, fi_7_4]
  rw [ix_N (by omega)]
  rw [List.nodup_append] at t3
  have hxr : x ∉ r := fun q => t3.2.2 x q x (by simp) rfl
  refine V.ret (v := none) rfl rfl rfl rfl (hQ _ ⟨⟨by omega, fun y hy => t2 y (List.mem_append_left _ hy), t3.1⟩, t4, ?_, ?_, ?_, ?_, ?_⟩ (Fr.putT (Fr.putT (hf2.mono (by simp)) (by simp)) (by simp)))
  · rw [up_at, up_ne (by decide), hf2 2 (by decide), t5, iZ_sub]
    exact iZ_pat (by omega)
  · rw [up_nat (by decide), up_ne (by decide), hf2 2 (by decide), t6]
  · intro i hi
    rw [up_ne (by decide), up_ne (by decide), hf2 3 (by decide), t7 i (by omega), getD_app hi]
  · intro u hu
    rw [up_ne (by decide)]
    by_cases e : u = x
    · subst e
      rw [up_at, if_neg hxr]
      rfl
    · rw [up_nat e, hf2 5 (by decide), t8 u hu]
      by_cases hm : u ∈ r
      · rw [if_pos hm, if_pos (List.mem_append_left _ hm)]
      · rw [if_neg hm, if_neg (by simp [hm, e])]
  · intro u hu
    rw [up_ne (by decide), up_ne (by decide), hw2 u hu, wy_app]
    refine iZ_pat ?_
    omega
theorem c_begin (hn : 54 ≤ n) (hd : 4 ≤ d) {k0 kind : Nat} {r : List Nat} (hk : kind ≤ 3) (ht : trialM σ k0 r) (hQ : ∀ σ', trialM σ' kind [1] → Fr [2, 3, 4, 5] σ σ' → Q none (rho ca cb tr) σ') : Mt M_X7_begin d n n [.ref 2, .int (iZ kind), .int (iZ 1)] (rho ca cb tr) σ Q := by
  refine Mt.of rfl (by decide +kernel) tk_X7_begin (Nat.le_of_ble_eq_true rfl) ?_
  refine V.run 5 54 rfl hn trivial ?_
  try simp only [rc_1_0, rc_1_1, rc_1_2, rc_1_3, rc_1_4, rc_1_5, rc_2_0, rc_2_1, rc_2_2, rc_6_0, rc_6_1, rc_6_2, rc_6_3, rc_7_0, rc_7_1, rc_7_2, rc_7_3, rc_12_0, rc_12_1, rc_12_2, rc_12_3, rc_18_0, rc_18_1, rc_20_0, rc_20_1, rc_22_0, rc_23_0, rc_25_0, rc_27_0, rc_27_1, rc_27_2, rc_31_0, rc_31_1, rc_31_2, rc_55_0, rc_55_1, rc_55_2, rc_1_6, rc_1_7, rc_23_2, fi_0_1, fi_0_2, fi_0_3, fi_1_3, fi_1_4, fi_1_5, fi_1_6, fi_1_7, fi_2_2, fi_3_3, fi_3_4, fi_3_5, fi_4_1, fi_5_4, fi_5_5, fi_5_6, fi_5_7, fi_5_8, fi_5_9, fi_6_1, fi_7_3, fi_7_4]
  rw [ht.2.2.1]
  have hl := ht.1.1
  have key : ∀ (j : Nat) (σ1 : Mem), j ≤ r.length → trialM σ1 k0 (r.take j) → Fr [2, 3, 4, 5] σ σ1 → V M_X7_begin d n n none Q n (rho ca cb tr) σ1 5 [some (.ref 2), some (.int (iZ (kind))), some (.int (iZ (1))), some (.int (iZ (j)))] [] := by
    intro j
    induction j with
    | zero =>
      intro σ1 hj ht1 hf1
      refine V.run 0 54 rfl hn trivial ?_
      refine V.brT rfl ((iZ_le0 (by omega)).mpr (by omega)) ?_
      refine V.run 0 54 rfl hn trivial ?_
      rw [List.take_zero] at ht1
      obtain ⟨⟨t1, t2, t3⟩, t4, t5, t6, t7, t8, t9⟩ := id ht1
      have ht2 : trialM (up σ1 2 4 (iZ kind)) kind [] := ⟨⟨t1, t2, t3⟩, hk, by rw [up_nat (by decide)]; exact t5, up_at, fun i hi => by simp at hi, fun u hu => by rw [up_ne (by decide)]; exact t8 u hu, fun u hu => by rw [up_ne (by decide), t9 u hu, wy_nil, wy_nil]⟩
      refine V.cv (lo := 54) (d' := d - 1) rfl rfl ok_X7_put lk_7_X7_put rfl rfl rfl hn (by omega) (Nat.le_refl _) (Nat.le_refl _) ((c_put hn (by omega) (v := 1) (by omega) (by simp) (by simp) ht2 (fun σ3 ht3 hf3 => ?_)))
      refine V.run 0 54 rfl hn trivial ?_
      refine V.ret (v := none) rfl rfl rfl rfl (hQ σ3 ht3 (hf1.tr ((Fr.put (by simp)).tr hf3)))
    | succ j ih =>
      intro σ1 hj ht1 hf1
      rw [take_getD (by omega)] at ht1
      refine V.run 0 54 rfl hn trivial ?_
      refine V.brF rfl (fun c => by have := (iZ_le0 (by omega)).mp c; omega) ?_
      refine V.run 0 54 rfl hn trivial ?_
      refine V.cv (lo := 54) (d' := d - 1) rfl rfl ok_X7_takeBack lk_7_X7_takeBack rfl rfl rfl hn (by omega) (Nat.le_refl _) (Nat.le_refl _) ((c_takeBack hn (by omega) ht1 (fun σ2 ht2 hf2 => ?_)))
      refine V.run 0 54 rfl hn trivial ?_
      have := ih σ2 (by omega) ht2 (hf1.tr hf2)
      rw [show (j : Int) = ((j + 1 : Nat) : Int) + (-1) by omega, ← iZ_add] at this
      exact this
  exact key r.length σ (Nat.le_refl _) (by rw [List.take_length]; exact ht) Fr.rf
theorem c_leadsOn (hn : 54 ≤ n) (hd : 1 ≤ d) {kind v g : Nat} {r : List Nat} (hv : 1 ≤ v ∧ v ≤ 160) (hg : 1 ≤ g ∧ g ≤ 160) (ht : trialM σ kind r) (h1 : leP kind r v g → Q (some (.int 1)) (rho ca cb tr) σ) (h0 : ¬ leP kind r v g → Q (some (.int 0)) (rho ca cb tr) σ) : Mt M_X7_leadsOn d n n [.ref 2, .int (iZ v), .int (iZ g)] (rho ca cb tr) σ Q := by
  obtain ⟨⟨t1, t2, t3⟩, t4, t5, t6, t7, t8, t9⟩ := id ht
  refine Mt.of rfl (by decide +kernel) tk_X7_leadsOn (Nat.le_of_ble_eq_true rfl) ?_
  refine V.run 0 54 rfl hn trivial ?_
  rw [iZ_sub]
  refine V.br rfl (fun (c : iZ ((g : Int) - v) = iZ v) => ?_) (fun (c : ¬ (iZ ((g : Int) - v) = iZ v)) => ?_)
  · rw [iZ_eq (by omega) (by omega)] at c
    refine V.run 0 54 rfl hn trivial ?_
    refine V.ret (v := some (.int 1)) rfl rfl ⟨rfl, Or.inr rfl⟩ rfl (h1 (Or.inl (by omega)))
  · rw [iZ_eq (by omega) (by omega)] at c
    refine V.run 0 54 rfl hn trivial ?_
    try simp only [rc_1_0, rc_1_1, rc_1_2, rc_1_3, rc_1_4, rc_1_5, rc_2_0, rc_2_1, rc_2_2, rc_6_0, rc_6_1, rc_6_2, rc_6_3, rc_7_0, rc_7_1, rc_7_2, rc_7_3, rc_12_0, rc_12_1, rc_12_2, rc_12_3, rc_18_0, rc_18_1, rc_20_0, rc_20_1, rc_22_0, rc_23_0, rc_25_0, rc_27_0, rc_27_1, rc_27_2, rc_31_0, rc_31_1, rc_31_2, rc_55_0, rc_55_1, rc_55_2, rc_1_6, rc_1_7, rc_23_2, fi_0_1, fi_0_2, fi_0_3, fi_1_3, fi_1_4, fi_1_5, fi_1_6, fi_1_7, fi_2_2, fi_3_3, fi_3_4, fi_3_5, fi_4_1, fi_5_4, fi_5_5, fi_5_6, fi_5_7, fi_5_8, fi_5_9, fi_6_1, fi_7_3, fi_7_4]
    rw [t6]
    refine V.br rfl (fun (c2 : iZ kind = iZ 2) => ?_) (fun (c2 : ¬ (iZ kind = iZ 2)) => ?_)
    · rw [iZ_eq (by omega) (by omega)] at c2
      have c2 : kind = 2 := by omega
      refine V.run 0 54 rfl hn trivial ?_
      refine V.abs rfl rfl lm_7_abs rfl (by omega) (Nat.le_refl _) ?_
      rw [abs_dif (by omega) (by omega)]
      have hdl : dif g v ≤ 160 := by unfold dif; omega
      have yes : leP kind r v g → V M_X7_leadsOn d n n none Q n (rho ca cb tr) σ 40 [some (.ref 2), some (.int (iZ (v))), some (.int (iZ (g))), some (.int (iZ (((g : Int) - v))))] [] := by
        intro h
        refine V.run 0 54 rfl hn trivial ?_
        refine V.ret (v := some (.int 1)) rfl rfl ⟨rfl, Or.inr rfl⟩ rfl (h1 h)
      refine V.cv (lo := 54) (d' := d - 1) rfl rfl ok_X7_stands lk_7_X7_stands rfl rfl rfl hn (by omega) (Nat.le_refl _) (Nat.le_refl _) ((c_stands hn (by omega) ht (fun q => ?_) (fun q => ?_)))
      · rw [Int.toNat_natCast] at q
        refine V.brF rfl (by decide) ?_
        exact yes (Or.inr (Or.inl ⟨c2, Or.inl q.2⟩))
      · rw [Int.toNat_natCast] at q
        refine V.brT rfl rfl ?_
        refine V.run 0 54 rfl hn trivial ?_
        rw [iZ_add]
        refine V.cv (lo := 54) (d' := d - 1) rfl rfl ok_X7_stands lk_7_X7_stands rfl rfl rfl hn (by omega) (Nat.le_refl _) (Nat.le_refl _) ((c_stands hn (by omega) ht (fun q2 => ?_) (fun q2 => ?_)))
        · rw [show ((g : Int) + v).toNat = g + v by omega] at q2
          refine V.brF rfl (by decide) ?_
          exact yes (Or.inr (Or.inl ⟨c2, Or.inr q2.2⟩))
        · rw [show ((g : Int) + v).toNat = g + v by omega] at q2
          refine V.brT rfl rfl ?_
          refine V.run 0 54 rfl hn trivial ?_
          refine V.ret (v := some (.int 0)) rfl rfl ⟨rfl, Or.inl rfl⟩ rfl (h0 (fun h => ?_))
          rcases h with h | ⟨-, h⟩ | ⟨h, -⟩
          · omega
          · rcases h with h | h
            · exact q ⟨by omega, h⟩
            · exact q2 ⟨by omega, h⟩
          · exact h c2
    · rw [iZ_eq (by omega) (by omega)] at c2
      have no : ¬ leP kind r v g → V M_X7_leadsOn d n n none Q n (rho ca cb tr) σ 76 [some (.ref 2), some (.int (iZ (v))), some (.int (iZ (g))), some (.int (iZ (((g : Int) - v))))] [] := by
        intro h
        refine V.run 0 54 rfl hn trivial ?_
        refine V.ret (v := some (.int 0)) rfl rfl ⟨rfl, Or.inl rfl⟩ rfl (h0 h)
      have yes : leP kind r v g → V M_X7_leadsOn d n n none Q n (rho ca cb tr) σ 72 [some (.ref 2), some (.int (iZ (v))), some (.int (iZ (g))), some (.int (iZ (((g : Int) - v))))] [] := by
        intro h
        refine V.run 0 54 rfl hn trivial ?_
        refine V.ret (v := some (.int 1)) rfl rfl ⟨rfl, Or.inr rfl⟩ rfl (h1 h)
      refine V.run 0 54 rfl hn trivial ?_
      refine V.cv (lo := 54) (d' := d - 1) rfl rfl ok_X7_stands lk_7_X7_stands rfl rfl rfl hn (by omega) (Nat.le_refl _) (Nat.le_refl _) ((c_stands hn (by omega) ht (fun q => ?_) (fun q => ?_)))
      · rw [show ((g : Int) - v).toNat = g - v by omega] at q
        refine V.brF rfl (by decide) ?_
        refine V.run 0 54 rfl hn trivial ?_
        try simp only [rc_1_0, rc_1_1, rc_1_2, rc_1_3, rc_1_4, rc_1_5, rc_2_0, rc_2_1, rc_2_2, rc_6_0, rc_6_1, rc_6_2, rc_6_3, rc_7_0, rc_7_1, rc_7_2, rc_7_3, rc_12_0, rc_12_1, rc_12_2, rc_12_3, rc_18_0, rc_18_1, rc_20_0, rc_20_1, rc_22_0, rc_23_0, rc_25_0, rc_27_0, rc_27_1, rc_27_2, rc_31_0, rc_31_1, rc_31_2, rc_55_0, rc_55_1, rc_55_2, rc_1_6, rc_1_7, rc_23_2, fi_0_1, fi_0_2, fi_0_3, fi_1_3, fi_1_4, fi_1_5, fi_1_6, fi_1_7, fi_2_2, fi_3_3, fi_3_4, fi_3_5, fi_4_1, fi_5_4, fi_5_5, fi_5_6, fi_5_7, fi_5_8, fi_5_9, fi_6_1, fi_7_3, fi_7_4]
        rw [t6]
        refine V.br rfl (fun (c3 : iZ kind = iZ 3) => ?_) (fun (c3 : ¬ (iZ kind = iZ 3)) => ?_)
        · rw [iZ_eq (by omega) (by omega)] at c3
          refine V.run 0 54 rfl hn trivial ?_
          rw [iZ_sub]
          refine V.cv (lo := 54) (d' := d - 1) rfl rfl ok_X7_stands lk_7_X7_stands rfl rfl rfl hn (by omega) (Nat.le_refl _) (Nat.le_refl _) ((c_stands hn (by omega) ht (fun q2 => ?_) (fun q2 => ?_)))
          · rw [show ((v : Int) - ((g : Int) - v)).toNat = v - (g - v) by omega] at q2
            refine V.brF rfl (by decide) ?_
            exact yes (Or.inr (Or.inr ⟨by omega, by omega, q.2, fun _ => ⟨by omega, q2.2⟩⟩))
          · refine V.brT rfl rfl ?_
            refine no (fun h => ?_)
            rcases h with h | ⟨h, -⟩ | ⟨-, -, -, h⟩
            · omega
            · omega
            · have h := h (by omega)
              refine q2 ⟨by omega, ?_⟩
              rw [show ((v : Int) - ((g : Int) - v)).toNat = v - (g - v) by omega]
              exact h.2
        · rw [iZ_eq (by omega) (by omega)] at c3
          exact yes (Or.inr (Or.inr ⟨by omega, by omega, q.2, fun h => absurd h (by omega)⟩))
      · refine V.brT rfl rfl ?_
        refine no (fun h => ?_)
        rcases h with h | ⟨h, -⟩ | ⟨-, h2, h3, -⟩
        · omega
        · omega
        · refine q ⟨by omega, ?_⟩
          rw [show ((g : Int) - v).toNat = g - v by omega]
          exact h3
end CT2
