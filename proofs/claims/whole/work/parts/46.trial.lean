/-! ===== the class: the row on trial ===== -/
theorem rc_1_0 (ca cb tr : Nat) : rho ca cb tr 1 0 = 6 := rfl
theorem rc_1_1 (ca cb tr : Nat) : rho ca cb tr 1 1 = 18 := rfl
theorem rc_1_2 (ca cb tr : Nat) : rho ca cb tr 1 2 = 20 := rfl
theorem rc_1_3 (ca cb tr : Nat) : rho ca cb tr 1 3 = 22 := rfl
theorem rc_1_4 (ca cb tr : Nat) : rho ca cb tr 1 4 = 23 := rfl
theorem rc_1_5 (ca cb tr : Nat) : rho ca cb tr 1 5 = 25 := rfl
theorem rc_2_0 (ca cb tr : Nat) : rho ca cb tr 2 0 = 3 := rfl
theorem rc_2_1 (ca cb tr : Nat) : rho ca cb tr 2 1 = 4 := rfl
theorem rc_2_2 (ca cb tr : Nat) : rho ca cb tr 2 2 = 5 := rfl
theorem rc_6_0 (ca cb tr : Nat) : rho ca cb tr 6 0 = 2 := rfl
theorem rc_6_1 (ca cb tr : Nat) : rho ca cb tr 6 1 = 7 := rfl
theorem rc_6_2 (ca cb tr : Nat) : rho ca cb tr 6 2 = 12 := rfl
theorem rc_6_3 (ca cb tr : Nat) : rho ca cb tr 6 3 = 17 := rfl
theorem rc_7_0 (ca cb tr : Nat) : rho ca cb tr 7 0 = 8 := rfl
theorem rc_7_1 (ca cb tr : Nat) : rho ca cb tr 7 1 = 9 := rfl
theorem rc_7_2 (ca cb tr : Nat) : rho ca cb tr 7 2 = 10 := rfl
theorem rc_7_3 (ca cb tr : Nat) : rho ca cb tr 7 3 = 11 := rfl
theorem rc_12_0 (ca cb tr : Nat) : rho ca cb tr 12 0 = 13 := rfl
theorem rc_12_1 (ca cb tr : Nat) : rho ca cb tr 12 1 = 14 := rfl
theorem rc_12_2 (ca cb tr : Nat) : rho ca cb tr 12 2 = 15 := rfl
theorem rc_12_3 (ca cb tr : Nat) : rho ca cb tr 12 3 = 16 := rfl
theorem rc_18_0 (ca cb tr : Nat) : rho ca cb tr 18 0 = 2 := rfl
theorem rc_18_1 (ca cb tr : Nat) : rho ca cb tr 18 1 = 19 := rfl
theorem rc_20_0 (ca cb tr : Nat) : rho ca cb tr 20 0 = 2 := rfl
theorem rc_20_1 (ca cb tr : Nat) : rho ca cb tr 20 1 = 21 := rfl
theorem rc_22_0 (ca cb tr : Nat) : rho ca cb tr 22 0 = 2 := rfl
theorem rc_23_0 (ca cb tr : Nat) : rho ca cb tr 23 0 = 24 := rfl
theorem rc_25_0 (ca cb tr : Nat) : rho ca cb tr 25 0 = 26 := rfl
theorem rc_27_0 (ca cb tr : Nat) : rho ca cb tr 27 0 = 28 := rfl
theorem rc_27_1 (ca cb tr : Nat) : rho ca cb tr 27 1 = 29 := rfl
theorem rc_27_2 (ca cb tr : Nat) : rho ca cb tr 27 2 = 30 := rfl
theorem rc_31_0 (ca cb tr : Nat) : rho ca cb tr 31 0 = 32 := rfl
theorem rc_31_1 (ca cb tr : Nat) : rho ca cb tr 31 1 = 33 := rfl
theorem rc_31_2 (ca cb tr : Nat) : rho ca cb tr 31 2 = 34 := rfl
theorem rc_55_0 (ca cb tr : Nat) : rho ca cb tr 55 0 = 56 := rfl
theorem rc_55_1 (ca cb tr : Nat) : rho ca cb tr 55 1 = 57 := rfl
theorem rc_55_2 (ca cb tr : Nat) : rho ca cb tr 55 2 = 58 := rfl
theorem rc_1_6 (ca cb tr : Nat) : rho ca cb tr 1 6 = ca := rfl
theorem rc_1_7 (ca cb tr : Nat) : rho ca cb tr 1 7 = cb := rfl
theorem rc_23_2 (ca cb tr : Nat) : rho ca cb tr 23 2 = tr := rfl
def dif (x y : Nat) : Nat := (x - y) + (y - x)
def ctB (kind : Nat) (S : List Nat) (x y v : Nat) : Nat := (if (kind ≠ 3 ∨ dif x y = 0 ∨ dif x y ∈ S) ∧ x + y = v then 1 else 0) + (if kind = 2 ∧ dif x y = v then 1 else 0)
def ctr (kind : Nat) (S : List Nat) (x : Nat) (L : List Nat) (v : Nat) : Nat := (L.map (fun y => ctB kind S x y v)).sum
def wyR (kind : Nat) (s : List Nat) (v : Nat) : Nat := match s with
  | [] => 0
  | x :: s => wyR kind s v + ctr kind (x :: s).reverse x (x :: s).reverse v
def wy (kind : Nat) (r : List Nat) (v : Nat) : Nat := wyR kind r.reverse v
theorem wy_nil (kind v : Nat) : wy kind [] v = 0 := rfl
theorem wy_app (kind : Nat) (r : List Nat) (x v : Nat) : wy kind (r ++ [x]) v = wy kind r v + ctr kind (r ++ [x]) x (r ++ [x]) v := by
  unfold wy
  rw [List.reverse_append]
  show wyR kind r.reverse v + ctr kind (x :: r.reverse).reverse x (x :: r.reverse).reverse v = _
  rw [List.reverse_cons, List.reverse_reverse]
theorem ctr_take {kind : Nat} {S : List Nat} {x : Nat} {r : List Nat} {i v : Nat} (h : i < r.length) : ctr kind S x (r.take (i + 1)) v = ctr kind S x (r.take i) v + ctB kind S x (r.getD i 0) v := by
  unfold ctr
  rw [take_getD h, List.map_append, List.sum_append]
  simp
def numsM (σ : Mem) (r : List Nat) : Prop := ∀ i, i < r.length → σ 3 i = iZ (r.getD i 0)
def thereM (σ : Mem) (r : List Nat) : Prop := ∀ v, v < 161 → σ 5 v = if v ∈ r then 1 else 0
def rOkT (r : List Nat) : Prop := r.length ≤ 48 ∧ (∀ x ∈ r, 1 ≤ x ∧ x ≤ 160) ∧ r.Nodup
def trialM (σ : Mem) (kind : Nat) (r : List Nat) : Prop := rOkT r ∧ kind ≤ 3 ∧ σ 2 3 = iZ r.length ∧ σ 2 4 = iZ kind ∧ numsM σ r ∧ thereM σ r ∧ (∀ v, v < 161 → σ 4 v = iZ (wy kind r v))
theorem trialM.fr {S : List Nat} {σ σ' : Mem} {kind : Nat} {r : List Nat} (h : trialM σ kind r) (hf : Fr S σ σ') (h2 : 2 ∉ S) (h3 : 3 ∉ S) (h4 : 4 ∉ S) (h5 : 5 ∉ S) : trialM σ' kind r := by
  unfold trialM numsM thereM at *
  rw [hf 2 h2, hf 3 h3, hf 4 h4, hf 5 h5]
  exact h
theorem abs_dif {x y : Nat} (hx : x ≤ 100000) (hy : y ≤ 100000) : (if 0 ≤ iZ ((x : Int) - y) then iZ ((x : Int) - y) else 0 - iZ ((x : Int) - y)) = iZ (dif x y : Nat) := by
  unfold dif
  by_cases h : y ≤ x
  · rw [if_pos ((iZ_0le (by omega)).mpr (by omega))]
    exact iZ_pat (by omega)
  · rw [if_neg (fun c => by have := (iZ_0le (by omega)).mp c; omega), iZ_0, iZ_sub]
    exact iZ_pat (by omega)
section CT1
variable {d n ca cb tr : Nat} {Q : PQ} {σ : Mem}
theorem c_changePairs (hn : 54 ≤ n) (hd : 1 ≤ d) {kind x : Nat} {w1 : Int} {r : List Nat} {w : Nat → Int} (hk : kind ≤ 3) (hl : r.length ≤ 48) (hb : ∀ y ∈ r, 1 ≤ y ∧ y ≤ 160) (hx : 1 ≤ x ∧ x ≤ 160) (h23 : σ 2 3 = iZ r.length) (h24 : σ 2 4 = iZ kind) (h3 : numsM σ r) (h5 : thereM σ r) (h4 : ∀ v, v < 161 → σ 4 v = iZ (w v)) (hQ : ∀ σ', Fr [4] σ σ' → (∀ v, v < 161 → σ' 4 v = iZ (w v + w1 * ctr kind r x r v)) → Q none (rho ca cb tr) σ') : Mt M_X7_changePairs d n n [.ref 2, .int (iZ x), .int (iZ w1)] (rho ca cb tr) σ Q := by
  refine Mt.of rfl (by decide +kernel) tk_X7_changePairs (Nat.le_of_ble_eq_true rfl) ?_
  refine V.run 2 54 rfl hn trivial ?_
  have key : ∀ (j i : Nat) (σ1 : Mem) (x4 x5 x6 : Option Value), i + j = r.length → Fr [4] σ σ1 → (∀ v, v < 161 → σ1 4 v = iZ (w v + w1 * ctr kind r x (r.take i) v)) → V M_X7_changePairs d n n none Q n (rho ca cb tr) σ1 2 [some (.ref 2), some (.int (iZ (x))), some (.int (iZ (w1))), some (.int (iZ (i))), x4, x5, x6] [] := by
    intro j
    induction j with
    | zero =>
      intro i σ1 x4 x5 x6 hi hf hw
      have e : i = r.length := by omega
      subst e
      have e23 : σ1 2 3 = iZ r.length := by rw [hf 2 (by decide)]; exact h23
      rw [List.take_length] at hw
      refine V.run 0 54 rfl hn trivial ?_
      try simp only [rc_1_0, rc_1_1, rc_1_2, rc_1_3, rc_1_4, rc_1_5, rc_2_0, rc_2_1, rc_2_2, rc_6_0, rc_6_1, rc_6_2, rc_6_3, rc_7_0, rc_7_1, rc_7_2, rc_7_3, rc_12_0, rc_12_1, rc_12_2, rc_12_3, rc_18_0, rc_18_1, rc_20_0, rc_20_1, rc_22_0, rc_23_0, rc_25_0, rc_27_0, rc_27_1, rc_27_2, rc_31_0, rc_31_1, rc_31_2, rc_55_0, rc_55_1, rc_55_2, rc_1_6, rc_1_7, rc_23_2, fi_0_1, fi_0_2, fi_0_3, fi_1_3, fi_1_4, fi_1_5, fi_1_6, fi_1_7, fi_2_2, fi_3_3, fi_3_4, fi_3_5, fi_4_1, fi_5_4, fi_5_5, fi_5_6, fi_5_7, fi_5_8, fi_5_9, fi_6_1, fi_7_3, fi_7_4]
      rw [e23]
      refine V.brT rfl ((iZ_le (by omega) (by omega)).mpr (by omega)) ?_
      refine V.ret (v := none) rfl rfl rfl rfl (hQ σ1 hf hw)
    | succ j ih =>
      intro i σ1 x4 x5 x6 hi hf hw
      have e23 : σ1 2 3 = iZ r.length := by rw [hf 2 (by decide)]; exact h23
      have e24 : σ1 2 4 = iZ kind := by rw [hf 2 (by decide)]; exact h24
      have e3 : σ1 3 i = iZ (r.getD i 0) := by rw [hf 3 (by decide)]; exact h3 i (by omega)
      have hy := hb _ (getD_mem2 (r := r) (i := i) (by omega))
      have e5 : ∀ v, v < 161 → σ1 5 v = if v ∈ r then 1 else 0 := fun v hv => by rw [hf 5 (by decide)]; exact h5 v hv
      have hct := fun v => ctr_take (kind := kind) (S := r) (x := x) (r := r) (i := i) (v := v) (by omega)
      unfold ctB at hct
      have hdl : dif x (r.getD i 0) < 161 := by unfold dif; omega
      have k117 : ∀ (σ3 : Mem) (x4 x5 x6 : Option Value), Fr [4] σ σ3 → (∀ v, v < 161 → σ3 4 v = iZ (w v + w1 * ctr kind r x (r.take (i + 1)) v)) → V M_X7_changePairs d n n none Q n (rho ca cb tr) σ3 117 [some (.ref 2), some (.int (iZ (x))), some (.int (iZ (w1))), some (.int (iZ (i))), x4, x5, x6] [] := by
        intro σ3 x4 x5 x6 hf3 hw3
        refine V.run 0 54 rfl hn trivial ?_
        have := ih (i + 1) σ3 x4 x5 x6 (by omega) hf3 hw3
        rw [show ((i + 1 : Nat) : Int) = (i : Int) + 1 by omega, ← iZ_add] at this
        exact this
      generalize hy0 : r.getD i 0 = y at *
      generalize hd0 : dif x y = D at *
      have k98 : ∀ (σ2 : Mem) (x6 : Option Value), Fr [4] σ σ2 → (∀ v, v < 161 → σ2 4 v = iZ (w v + w1 * (ctr kind r x (r.take i) v + (if (kind ≠ 3 ∨ D = 0 ∨ D ∈ r) ∧ x + y = v then 1 else 0) : Nat))) → V M_X7_changePairs d n n none Q n (rho ca cb tr) σ2 98 [some (.ref 2), some (.int (iZ (x))), some (.int (iZ (w1))), some (.int (iZ (i))), some (.int (iZ ((x + y : Nat)))), some (.int (iZ (D))), x6] [] := by
        intro σ2 x6 hf2 hw2
        have e24 : σ2 2 4 = iZ kind := by rw [hf2 2 (by decide)]; exact h24
        refine V.run 0 54 rfl hn trivial ?_
        try simp only [rc_1_0, rc_1_1, rc_1_2, rc_1_3, rc_1_4, rc_1_5, rc_2_0, rc_2_1, rc_2_2, rc_6_0, rc_6_1, rc_6_2, rc_6_3, rc_7_0, rc_7_1, rc_7_2, rc_7_3, rc_12_0, rc_12_1, rc_12_2, rc_12_3, rc_18_0, rc_18_1, rc_20_0, rc_20_1, rc_22_0, rc_23_0, rc_25_0, rc_27_0, rc_27_1, rc_27_2, rc_31_0, rc_31_1, rc_31_2, rc_55_0, rc_55_1, rc_55_2, rc_1_6, rc_1_7, rc_23_2, fi_0_1, fi_0_2, fi_0_3, fi_1_3, fi_1_4, fi_1_5, fi_1_6, fi_1_7, fi_2_2, fi_3_3, fi_3_4, fi_3_5, fi_4_1, fi_5_4, fi_5_5, fi_5_6, fi_5_7, fi_5_8, fi_5_9, fi_6_1, fi_7_3, fi_7_4]
        rw [e24]
        refine V.br rfl (fun (c : iZ kind = iZ 2) => ?_) (fun (c : ¬ (iZ kind = iZ 2)) => ?_)
        · rw [iZ_eq (by omega) (by omega)] at c
          refine V.run 117 54 rfl hn ⟨in_N (n := 161) (by omega) (by decide), in_N (n := 161) (by omega) (by decide), trivial⟩ ?_
          try simp only [rc_1_0, rc_1_1, rc_1_2, rc_1_3, rc_1_4, rc_1_5, rc_2_0, rc_2_1, rc_2_2, rc_6_0, rc_6_1, rc_6_2, rc_6_3, rc_7_0, rc_7_1, rc_7_2, rc_7_3, rc_12_0, rc_12_1, rc_12_2, rc_12_3, rc_18_0, rc_18_1, rc_20_0, rc_20_1, rc_22_0, rc_23_0, rc_25_0, rc_27_0, rc_27_1, rc_27_2, rc_31_0, rc_31_1, rc_31_2, rc_55_0, rc_55_1, rc_55_2, rc_1_6, rc_1_7, rc_23_2, fi_0_1, fi_0_2, fi_0_3, fi_1_3, fi_1_4, fi_1_5, fi_1_6, fi_1_7, fi_2_2, fi_3_3, fi_3_4, fi_3_5, fi_4_1, fi_5_4, fi_5_5, fi_5_6, fi_5_7, fi_5_8, fi_5_9, fi_6_1, fi_7_3, fi_7_4]
          rw [ix_N (by omega)]
          refine k117 _ _ _ _ (Fr.putT hf2 (by simp)) (fun v hv => ?_)
          rw [hct v]
          by_cases e : v = D
          · subst e
            rw [up_at, hw2 _ hv, iZ_add, if_pos (show kind = 2 ∧ v = v from ⟨by omega, rfl⟩)]
            refine iZ_pat ?_
            rw [← Nat.add_assoc, Int.natCast_add (_ + _) 1, Int.mul_add]
            omega
          · rw [up_nat e, hw2 v hv, if_neg (show ¬ (kind = 2 ∧ D = v) from fun q => e q.2.symm)]
            refine iZ_pat ?_
            rw [← Nat.add_assoc, Nat.add_zero]
        · rw [iZ_eq (by omega) (by omega)] at c
          refine k117 _ _ _ _ hf2 (fun v hv => ?_)
          rw [hct v, hw2 v hv, if_neg (show ¬ (kind = 2 ∧ D = v) by omega)]
          refine iZ_pat ?_
          rw [← Nat.add_assoc, Nat.add_zero]
      have k76 : ∀ b : Bool, (b = true ↔ (kind ≠ 3 ∨ D = 0 ∨ D ∈ r)) → V M_X7_changePairs d n n none Q n (rho ca cb tr) σ1 76 [some (.ref 2), some (.int (iZ (x))), some (.int (iZ (w1))), some (.int (iZ (i))), some (.int (iZ ((x + y : Nat)))), some (.int (iZ (D))), some (.int ((if b = true then 1 else 0)))] [(.int ((if b = true then 1 else 0)))] := by
        intro b hbb
        have skip : (¬ ((kind ≠ 3 ∨ D = 0 ∨ D ∈ r) ∧ x + y < 161)) → V M_X7_changePairs d n n none Q n (rho ca cb tr) σ1 98 [some (.ref 2), some (.int (iZ (x))), some (.int (iZ (w1))), some (.int (iZ (i))), some (.int (iZ ((x + y : Nat)))), some (.int (iZ (D))), some (.int ((if b = true then 1 else 0)))] [] := by
          intro hno
          refine k98 _ _ hf (fun v hv => ?_)
          rw [hw v hv, if_neg (fun q => hno ⟨q.1, by omega⟩)]
          rfl
        cases b with
        | false =>
          refine V.brT rfl rfl ?_
          exact skip (fun q => by have := hbb.mpr q.1; cases this)
        | true =>
          refine V.brF rfl (by decide) ?_
          refine V.run 0 54 rfl hn trivial ?_
          refine V.br rfl (fun (c : iZ 161 ≤ iZ (x + y : Nat)) => ?_) (fun (c : ¬ (iZ 161 ≤ iZ (x + y : Nat))) => ?_)
          · rw [iZ_le (by omega) (by omega)] at c
            exact skip (fun q => by omega)
          · rw [iZ_le (by omega) (by omega)] at c
            refine V.run 98 54 rfl hn ⟨in_N (n := 161) (by omega) (by decide), in_N (n := 161) (by omega) (by decide), trivial⟩ ?_
            try simp only [rc_1_0, rc_1_1, rc_1_2, rc_1_3, rc_1_4, rc_1_5, rc_2_0, rc_2_1, rc_2_2, rc_6_0, rc_6_1, rc_6_2, rc_6_3, rc_7_0, rc_7_1, rc_7_2, rc_7_3, rc_12_0, rc_12_1, rc_12_2, rc_12_3, rc_18_0, rc_18_1, rc_20_0, rc_20_1, rc_22_0, rc_23_0, rc_25_0, rc_27_0, rc_27_1, rc_27_2, rc_31_0, rc_31_1, rc_31_2, rc_55_0, rc_55_1, rc_55_2, rc_1_6, rc_1_7, rc_23_2, fi_0_1, fi_0_2, fi_0_3, fi_1_3, fi_1_4, fi_1_5, fi_1_6, fi_1_7, fi_2_2, fi_3_3, fi_3_4, fi_3_5, fi_4_1, fi_5_4, fi_5_5, fi_5_6, fi_5_7, fi_5_8, fi_5_9, fi_6_1, fi_7_3, fi_7_4]
            rw [ix_N (by omega)]
            refine k98 _ _ (Fr.putT hf (by simp)) (fun v hv => ?_)
            by_cases e : v = x + y
            · subst e
              rw [up_at, hw _ hv, iZ_add, if_pos ⟨hbb.mp rfl, rfl⟩]
              refine iZ_pat ?_
              rw [Int.natCast_add (ctr _ _ _ _ _) 1, Int.mul_add]
              omega
            · rw [up_nat e, hw v hv, if_neg (fun q => e q.2.symm)]
              rfl
      refine V.run 0 54 rfl hn trivial ?_
      try simp only [rc_1_0, rc_1_1, rc_1_2, rc_1_3, rc_1_4, rc_1_5, rc_2_0, rc_2_1, rc_2_2, rc_6_0, rc_6_1, rc_6_2, rc_6_3, rc_7_0, rc_7_1, rc_7_2, rc_7_3, rc_12_0, rc_12_1, rc_12_2, rc_12_3, rc_18_0, rc_18_1, rc_20_0, rc_20_1, rc_22_0, rc_23_0, rc_25_0, rc_27_0, rc_27_1, rc_27_2, rc_31_0, rc_31_1, rc_31_2, rc_55_0, rc_55_1, rc_55_2, rc_1_6, rc_1_7, rc_23_2, fi_0_1, fi_0_2, fi_0_3, fi_1_3, fi_1_4, fi_1_5, fi_1_6, fi_1_7, fi_2_2, fi_3_3, fi_3_4, fi_3_5, fi_4_1, fi_5_4, fi_5_5, fi_5_6, fi_5_7, fi_5_8, fi_5_9, fi_6_1, fi_7_3, fi_7_4]
      rw [e23]
      refine V.brF rfl (fun c => by have := (iZ_le (by omega) (by omega)).mp c; omega) ?_
      refine V.run 0 54 rfl hn ⟨in_N (n := 48) (by omega) (by decide), in_N (n := 48) (by omega) (by decide), trivial⟩ ?_
      try simp only [rc_1_0, rc_1_1, rc_1_2, rc_1_3, rc_1_4, rc_1_5, rc_2_0, rc_2_1, rc_2_2, rc_6_0, rc_6_1, rc_6_2, rc_6_3, rc_7_0, rc_7_1, rc_7_2, rc_7_3, rc_12_0, rc_12_1, rc_12_2, rc_12_3, rc_18_0, rc_18_1, rc_20_0, rc_20_1, rc_22_0, rc_23_0, rc_25_0, rc_27_0, rc_27_1, rc_27_2, rc_31_0, rc_31_1, rc_31_2, rc_55_0, rc_55_1, rc_55_2, rc_1_6, rc_1_7, rc_23_2, fi_0_1, fi_0_2, fi_0_3, fi_1_3, fi_1_4, fi_1_5, fi_1_6, fi_1_7, fi_2_2, fi_3_3, fi_3_4, fi_3_5, fi_4_1, fi_5_4, fi_5_5, fi_5_6, fi_5_7, fi_5_8, fi_5_9, fi_6_1, fi_7_3, fi_7_4]
      rw [ix_N (by omega), e3, iZ_sub, iZ_add, show (x : Int) + (y : Int) = ((x + y : Nat) : Int) by omega]
      refine V.abs rfl rfl lm_7_abs rfl (by omega) (Nat.le_refl _) ?_
      rw [abs_dif (by omega) (by omega), hd0]
      refine V.run 0 54 rfl hn trivial ?_
      refine V.brT rfl ((iZ_lt (by omega) (by omega)).mpr (by omega)) ?_
      refine V.run 0 54 rfl hn trivial ?_
      try simp only [rc_1_0, rc_1_1, rc_1_2, rc_1_3, rc_1_4, rc_1_5, rc_2_0, rc_2_1, rc_2_2, rc_6_0, rc_6_1, rc_6_2, rc_6_3, rc_7_0, rc_7_1, rc_7_2, rc_7_3, rc_12_0, rc_12_1, rc_12_2, rc_12_3, rc_18_0, rc_18_1, rc_20_0, rc_20_1, rc_22_0, rc_23_0, rc_25_0, rc_27_0, rc_27_1, rc_27_2, rc_31_0, rc_31_1, rc_31_2, rc_55_0, rc_55_1, rc_55_2, rc_1_6, rc_1_7, rc_23_2, fi_0_1, fi_0_2, fi_0_3, fi_1_3, fi_1_4, fi_1_5, fi_1_6, fi_1_7, fi_2_2, fi_3_3, fi_3_4, fi_3_5, fi_4_1, fi_5_4, fi_5_5, fi_5_6, fi_5_7, fi_5_8, fi_5_9, fi_6_1, fi_7_3, fi_7_4]
      rw [e24]
      have k67 : ∀ x6, (kind ≠ 3 ∨ D = 0 ∨ D ∈ r) → V M_X7_changePairs d n n none Q n (rho ca cb tr) σ1 67 [some (.ref 2), some (.int (iZ (x))), some (.int (iZ (w1))), some (.int (iZ (i))), some (.int (iZ ((x + y : Nat)))), some (.int (iZ (D))), x6] [] := by
        intro x6 h
        refine V.run 0 54 rfl hn trivial ?_
        refine V.run 0 54 rfl hn trivial ?_
        exact k76 true ⟨fun _ => h, fun _ => rfl⟩
      refine V.br rfl (fun (c : iZ kind = iZ 3) => ?_) (fun (c : ¬ (iZ kind = iZ 3)) => ?_)
      · rw [iZ_eq (by omega) (by omega)] at c
        refine V.run 0 54 rfl hn trivial ?_
        refine V.br rfl (fun (c2 : iZ D = 0) => ?_) (fun (c2 : ¬ (iZ D = 0)) => ?_)
        · rw [iZ_eq0 (by omega)] at c2
          exact k67 _ (Or.inr (Or.inl (by omega)))
        · rw [iZ_eq0 (by omega)] at c2
          refine V.run 0 54 rfl hn ⟨in_N (n := 161) (by omega) (by decide), trivial⟩ ?_
          try simp only [rc_1_0, rc_1_1, rc_1_2, rc_1_3, rc_1_4, rc_1_5, rc_2_0, rc_2_1, rc_2_2, rc_6_0, rc_6_1, rc_6_2, rc_6_3, rc_7_0, rc_7_1, rc_7_2, rc_7_3, rc_12_0, rc_12_1, rc_12_2, rc_12_3, rc_18_0, rc_18_1, rc_20_0, rc_20_1, rc_22_0, rc_23_0, rc_25_0, rc_27_0, rc_27_1, rc_27_2, rc_31_0, rc_31_1, rc_31_2, rc_55_0, rc_55_1, rc_55_2, rc_1_6, rc_1_7, rc_23_2, fi_0_1, fi_0_2, fi_0_3, fi_1_3, fi_1_4, fi_1_5, fi_1_6, fi_1_7, fi_2_2, fi_3_3, fi_3_4, fi_3_5, fi_4_1, fi_5_4, fi_5_5, fi_5_6, fi_5_7, fi_5_8, fi_5_9, fi_6_1, fi_7_3, fi_7_4]
          rw [ix_N (by omega), e5 D (by omega)]
          by_cases hm : D ∈ r
          · rw [if_pos hm]
            refine V.brF rfl (by decide) ?_
            exact k67 _ (Or.inr (Or.inr hm))
          · rw [if_neg hm]
            refine V.brT rfl rfl ?_
            refine V.run 0 54 rfl hn trivial ?_
            exact k76 false ⟨fun h => (by cases h), fun h => (by
              rcases h with h | h | h
              · omega
              · omega
              · exact absurd h hm)⟩
      · rw [iZ_eq (by omega) (by omega)] at c
        exact k67 _ (Or.inl (by omega))
  refine key r.length 0 σ none none none (by omega) Fr.rf (fun v hv => ?_)
  rw [h4 v hv, List.take_zero]
  refine iZ_pat ?_
  simp [ctr]
theorem c_numberAt (hn : 54 ≤ n) {kind : Nat} {r : List Nat} {z : Int} (hz : -2147483648 ≤ z ∧ z < 2147483648) (ht : trialM σ kind r) (hQ : Q (some (.int (iZ (if z < 0 then 0 else (r.getD z.toNat 0 : Nat))))) (rho ca cb tr) σ) : Mt M_X7_numberAt d n n [.ref 2, .int (iZ z)] (rho ca cb tr) σ Q := by
  obtain ⟨⟨t1, t2, t3⟩, t4, t5, t6, t7, t8, t9⟩ := id ht
  refine Mt.of rfl (by decide +kernel) tk_X7_numberAt (Nat.le_of_ble_eq_true rfl) ?_
  refine V.run 0 54 rfl hn trivial ?_
  refine V.br rfl (fun (c : iZ z < 0) => ?_) (fun (c : ¬ (iZ z < 0)) => ?_)
  · rw [iZ_lt0 (by omega)] at c
    rw [if_pos c] at hQ
    refine V.run 0 54 rfl hn trivial ?_
    refine V.ret (v := some (.int (iZ 0))) rfl rfl rfl rfl (hQ)
  · rw [iZ_lt0 (by omega)] at c
    rw [if_neg c] at hQ
    refine V.run 0 54 rfl hn trivial ?_
    try simp only [rc_1_0, rc_1_1, rc_1_2, rc_1_3, rc_1_4, rc_1_5, rc_2_0, rc_2_1, rc_2_2, rc_6_0, rc_6_1, rc_6_2, rc_6_3, rc_7_0, rc_7_1, rc_7_2, rc_7_3, rc_12_0, rc_12_1, rc_12_2, rc_12_3, rc_18_0, rc_18_1, rc_20_0, rc_20_1, rc_22_0, rc_23_0, rc_25_0, rc_27_0, rc_27_1, rc_27_2, rc_31_0, rc_31_1, rc_31_2, rc_55_0, rc_55_1, rc_55_2, rc_1_6, rc_1_7, rc_23_2, fi_0_1, fi_0_2, fi_0_3, fi_1_3, fi_1_4, fi_1_5, fi_1_6, fi_1_7, fi_2_2, fi_3_3, fi_3_4, fi_3_5, fi_4_1, fi_5_4, fi_5_5, fi_5_6, fi_5_7, fi_5_8, fi_5_9, fi_6_1, fi_7_3, fi_7_4]
    rw [t5]
    refine V.br rfl (fun (c2 : iZ r.length ≤ iZ z) => ?_) (fun (c2 : ¬ (iZ r.length ≤ iZ z)) => ?_)
    · rw [iZ_le (by omega) (by omega)] at c2
      rw [List.getD_eq_getElem?_getD, List.getElem?_eq_none (by omega)] at hQ
      refine V.run 0 54 rfl hn trivial ?_
      refine V.ret (v := some (.int (iZ 0))) rfl rfl rfl rfl (hQ)
    · rw [iZ_le (by omega) (by omega)] at c2
      refine V.run 0 54 rfl hn ⟨in_iZ (n := 48) (by omega) (by decide), trivial⟩ ?_
      try simp only [rc_1_0, rc_1_1, rc_1_2, rc_1_3, rc_1_4, rc_1_5, rc_2_0, rc_2_1, rc_2_2, rc_6_0, rc_6_1, rc_6_2, rc_6_3, rc_7_0, rc_7_1, rc_7_2, rc_7_3, rc_12_0, rc_12_1, rc_12_2, rc_12_3, rc_18_0, rc_18_1, rc_20_0, rc_20_1, rc_22_0, rc_23_0, rc_25_0, rc_27_0, rc_27_1, rc_27_2, rc_31_0, rc_31_1, rc_31_2, rc_55_0, rc_55_1, rc_55_2, rc_1_6, rc_1_7, rc_23_2, fi_0_1, fi_0_2, fi_0_3, fi_1_3, fi_1_4, fi_1_5, fi_1_6, fi_1_7, fi_2_2, fi_3_3, fi_3_4, fi_3_5, fi_4_1, fi_5_4, fi_5_5, fi_5_6, fi_5_7, fi_5_8, fi_5_9, fi_6_1, fi_7_3, fi_7_4]
      rw [ix_iZ (by omega), t7 _ (by omega)]
      refine V.ret (v := some (.int (iZ (r.getD z.toNat 0 : Nat)))) rfl rfl rfl rfl (hQ)
theorem c_latest (hn : 54 ≤ n) (hd : 1 ≤ d) {kind : Nat} {r : List Nat} (ht : trialM σ kind r) (hQ : Q (some (.int (iZ (lastD r)))) (rho ca cb tr) σ) : Mt M_X7_latest d n n [.ref 2] (rho ca cb tr) σ Q := by
  obtain ⟨⟨t1, t2, t3⟩, t4, t5, t6, t7, t8, t9⟩ := id ht
  refine Mt.of rfl (by decide +kernel) tk_X7_latest (Nat.le_of_ble_eq_true rfl) ?_
  refine V.run 0 54 rfl hn trivial ?_
  try simp only [rc_1_0, rc_1_1, rc_1_2, rc_1_3, rc_1_4, rc_1_5, rc_2_0, rc_2_1, rc_2_2, rc_6_0, rc_6_1, rc_6_2, rc_6_3, rc_7_0, rc_7_1, rc_7_2, rc_7_3, rc_12_0, rc_12_1, rc_12_2, rc_12_3, rc_18_0, rc_18_1, rc_20_0, rc_20_1, rc_22_0, rc_23_0, rc_25_0, rc_27_0, rc_27_1, rc_27_2, rc_31_0, rc_31_1, rc_31_2, rc_55_0, rc_55_1, rc_55_2, rc_1_6, rc_1_7, rc_23_2, fi_0_1, fi_0_2, fi_0_3, fi_1_3, fi_1_4, fi_1_5, fi_1_6, fi_1_7, fi_2_2, fi_3_3, fi_3_4, fi_3_5, fi_4_1, fi_5_4, fi_5_5, fi_5_6, fi_5_7, fi_5_8, fi_5_9, fi_6_1, fi_7_3, fi_7_4]
  rw [t5, iZ_sub]
  refine V.cv (lo := 54) (d' := d - 1) rfl rfl ok_X7_numberAt lk_7_X7_numberAt rfl rfl rfl hn (by omega) (Nat.le_refl _) (Nat.le_refl _) ((c_numberAt hn (by omega) ht ?_))
  have e : (if (r.length : Int) - 1 < 0 then 0 else ((r.getD ((r.length : Int) - 1).toNat 0 : Nat) : Int)) = (lastD r : Int) := by
    by_cases h : 0 < r.length
    · rw [if_neg (by omega), lastD_eq h, show ((r.length : Int) - 1).toNat = r.length - 1 by omega]
    · have : r = [] := List.eq_nil_of_length_eq_zero (by omega)
      subst this
      rfl
  rw [e]
  refine V.ret (v := some (.int (iZ (lastD r)))) rfl rfl rfl rfl (hQ)
theorem c_size (hn : 54 ≤ n) {kind : Nat} {r : List Nat} (ht : trialM σ kind r) (hQ : Q (some (.int (iZ r.length))) (rho ca cb tr) σ) : Mt M_X7_size d n n [.ref 2] (rho ca cb tr) σ Q := by
  refine Mt.of rfl (by decide +kernel) tk_X7_size (Nat.le_of_ble_eq_true rfl) ?_
  refine V.run 0 54 rfl hn trivial ?_
  try simp only [rc_1_0, rc_1_1, rc_1_2, rc_1_3, rc_1_4, rc_1_5, rc_2_0, rc_2_1, rc_2_2, rc_6_0, rc_6_1, rc_6_2, rc_6_3, rc_7_0, rc_7_1, rc_7_2, rc_7_3, rc_12_0, rc_12_1, rc_12_2, rc_12_3, rc_18_0, rc_18_1, rc_20_0, rc_20_1, rc_22_0, rc_23_0, rc_25_0, rc_27_0, rc_27_1, rc_27_2, rc_31_0, rc_31_1, rc_31_2, rc_55_0, rc_55_1, rc_55_2, rc_1_6, rc_1_7, rc_23_2, fi_0_1, fi_0_2, fi_0_3, fi_1_3, fi_1_4, fi_1_5, fi_1_6, fi_1_7, fi_2_2, fi_3_3, fi_3_4, fi_3_5, fi_4_1, fi_5_4, fi_5_5, fi_5_6, fi_5_7, fi_5_8, fi_5_9, fi_6_1, fi_7_3, fi_7_4]
  rw [ht.2.2.1]
  refine V.ret (v := some (.int (iZ r.length))) rfl rfl rfl rfl (hQ)
theorem c_stands (hn : 54 ≤ n) {kind : Nat} {r : List Nat} {z : Int} (hz : -2147483648 ≤ z ∧ z < 2147483648) (ht : trialM σ kind r) (h1 : 0 ≤ z ∧ z.toNat ∈ r → Q (some (.int 1)) (rho ca cb tr) σ) (h0 : ¬ (0 ≤ z ∧ z.toNat ∈ r) → Q (some (.int 0)) (rho ca cb tr) σ) : Mt M_X7_stands d n n [.ref 2, .int (iZ z)] (rho ca cb tr) σ Q := by
  obtain ⟨⟨t1, t2, t3⟩, t4, t5, t6, t7, t8, t9⟩ := id ht
  refine Mt.of rfl (by decide +kernel) tk_X7_stands (Nat.le_of_ble_eq_true rfl) ?_
  refine V.run 0 54 rfl hn trivial ?_
  have no : ¬ (0 ≤ z ∧ z.toNat ∈ r) → V M_X7_stands d n n none Q n (rho ca cb tr) σ 24 [some (.ref 2), some (.int (iZ (z)))] [] := by
    intro h
    refine V.run 0 54 rfl hn trivial ?_
    refine V.ret (v := some (.int 0)) rfl rfl ⟨rfl, Or.inl rfl⟩ rfl (h0 h)
  refine V.br rfl (fun (c : iZ z ≤ 0) => ?_) (fun (c : ¬ (iZ z ≤ 0)) => ?_)
  · rw [iZ_le0 (by omega)] at c
    exact no (fun q => by have := t2 _ q.2; omega)
  · rw [iZ_le0 (by omega)] at c
    refine V.run 0 54 rfl hn trivial ?_
    refine V.br rfl (fun (c2 : iZ 161 ≤ iZ z) => ?_) (fun (c2 : ¬ (iZ 161 ≤ iZ z)) => ?_)
    · rw [iZ_le (by omega) (by omega)] at c2
      exact no (fun q => by have := t2 _ q.2; omega)
    · rw [iZ_le (by omega) (by omega)] at c2
      refine V.run 0 54 rfl hn ⟨in_iZ (n := 161) (by omega) (by decide), trivial⟩ ?_
      try simp only [rc_1_0, rc_1_1, rc_1_2, rc_1_3, rc_1_4, rc_1_5, rc_2_0, rc_2_1, rc_2_2, rc_6_0, rc_6_1, rc_6_2, rc_6_3, rc_7_0, rc_7_1, rc_7_2, rc_7_3, rc_12_0, rc_12_1, rc_12_2, rc_12_3, rc_18_0, rc_18_1, rc_20_0, rc_20_1, rc_22_0, rc_23_0, rc_25_0, rc_27_0, rc_27_1, rc_27_2, rc_31_0, rc_31_1, rc_31_2, rc_55_0, rc_55_1, rc_55_2, rc_1_6, rc_1_7, rc_23_2, fi_0_1, fi_0_2, fi_0_3, fi_1_3, fi_1_4, fi_1_5, fi_1_6, fi_1_7, fi_2_2, fi_3_3, fi_3_4, fi_3_5, fi_4_1, fi_5_4, fi_5_5, fi_5_6, fi_5_7, fi_5_8, fi_5_9, fi_6_1, fi_7_3, fi_7_4]
      rw [ix_iZ (by omega), t8 _ (by omega)]
      by_cases hm : z.toNat ∈ r
      · rw [if_pos hm]
        refine V.brF rfl (by decide) ?_
        refine V.run 0 54 rfl hn trivial ?_
        refine V.ret (v := some (.int 1)) rfl rfl ⟨rfl, Or.inr rfl⟩ rfl (h1 ⟨by omega, hm⟩)
      · rw [if_neg hm]
        refine V.brT rfl rfl ?_
        exact no (fun q => hm q.2)
theorem c_waysTo (hn : 54 ≤ n) {kind v : Nat} {r : List Nat} (hv : 1 ≤ v ∧ v ≤ 160) (ht : trialM σ kind r) (hQ : Q (some (.int (iZ (wy kind r v)))) (rho ca cb tr) σ) : Mt M_X7_waysTo d n n [.ref 2, .int (iZ v)] (rho ca cb tr) σ Q := by
  obtain ⟨⟨t1, t2, t3⟩, t4, t5, t6, t7, t8, t9⟩ := id ht
  refine Mt.of rfl (by decide +kernel) tk_X7_waysTo (Nat.le_of_ble_eq_true rfl) ?_
  refine V.run 0 54 rfl hn trivial ?_
  refine V.brF rfl (fun c => by have := (iZ_le0 (by omega)).mp c; omega) ?_
  refine V.run 0 54 rfl hn trivial ?_
  refine V.brF rfl (fun c => by have := (iZ_le (by omega) (by omega)).mp c; omega) ?_
  refine V.run 0 54 rfl hn ⟨in_N (n := 161) (by omega) (by decide), trivial⟩ ?_
  try simp only [rc_1_0, rc_1_1, rc_1_2, rc_1_3, rc_1_4, rc_1_5, rc_2_0, rc_2_1, rc_2_2, rc_6_0, rc_6_1, rc_6_2, rc_6_3, rc_7_0, rc_7_1, rc_7_2, rc_7_3, rc_12_0, rc_12_1, rc_12_2, rc_12_3, rc_18_0, rc_18_1, rc_20_0, rc_20_1, rc_22_0, rc_23_0, rc_25_0, rc_27_0, rc_27_1, rc_27_2, rc_31_0, rc_31_1, rc_31_2, rc_55_0, rc_55_1, rc_55_2, rc_1_6, rc_1_7, rc_23_2, fi_0_1, fi_0_2, fi_0_3, fi_1_3, fi_1_4, fi_1_5, fi_1_6, fi_1_7, fi_2_2, fi_3_3, fi_3_4, fi_3_5, fi_4_1, fi_5_4, fi_5_5, fi_5_6, fi_5_7, fi_5_8, fi_5_9, fi_6_1, fi_7_3, fi_7_4]
  rw [ix_N (by omega), t9 _ (by omega)]
  refine V.ret (v := some (.int (iZ (wy kind r v)))) rfl rfl rfl rfl (hQ)
end CT1
