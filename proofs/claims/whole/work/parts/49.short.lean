/-! ===== the class: how far so many steps reach; the row that is found ===== -/
def shS (s : Int) : Nat := if s < 0 then 0 else if s < 24 then s.toNat else 24
def ltR (g : Nat) (s : Int) : Nat := (g + 2 ^ shS s - 1) / 2 ^ shS s
theorem shS_le (s : Int) : shS s ≤ 24 := by
  unfold shS
  split
  · omega
  · split <;> omega
theorem ltR_lt {g v : Nat} {s : Int} : v < ltR g s ↔ v * 2 ^ shS s < g := by
  unfold ltR
  have hp : 0 < 2 ^ shS s := Nat.pow_pos (by decide)
  generalize 2 ^ shS s = p at *
  rw [Nat.lt_iff_add_one_le, Nat.le_div_iff_mul_le hp, Nat.add_mul, Nat.one_mul]
  omega
theorem ltR_le {g : Nat} {s : Int} (hg : g ≤ 100000) : ltR g s ≤ 100000 := by
  rcases Nat.lt_or_ge 100000 (ltR g s) with h | h
  · have := ltR_lt.mp h
    have hp : 1 ≤ 2 ^ shS s := Nat.pow_pos (by decide)
    have : 100000 * 1 ≤ 100000 * 2 ^ shS s := Nat.mul_le_mul_left _ hp
    omega
  · exact h
def tC (K N most k : Nat) (r : List Nat) (v : Nat) : Nat := if candB K most r v = true then cnt K N most k (r ++ [v]) else 0
def tF (K N most k : Nat) (r : List Nat) (v : Nat) : Option (List Nat) := if candB K most r v = true then fstR K N most k (r ++ [v]) else none
def cS (K N most k : Nat) (r l : List Nat) : Nat := (l.map (tC K N most k r)).sum
def fS (K N most k : Nat) (r l : List Nat) : Option (List Nat) := l.findSome? (tF K N most k r)
theorem tC_tF {K N most k : Nat} {r : List Nat} {v : Nat} : tC K N most k r v = 0 ↔ tF K N most k r v = none := by
  unfold tC tF
  split
  · exact cnt_fst
  · simp
theorem filt_sum {p : Nat → Bool} {f : Nat → Nat} : ∀ l : List Nat, ((l.filter p).map f).sum = (l.map (fun v => if p v = true then f v else 0)).sum
  | [] => rfl
  | a :: l => by
    have ih := filt_sum (p := p) (f := f) l
    by_cases h : p a = true
    · rw [List.filter_cons_of_pos h, List.map_cons, List.sum_cons, List.map_cons, List.sum_cons, ih, if_pos h]
    · rw [List.filter_cons_of_neg h, List.map_cons, List.sum_cons, ih, if_neg h, Nat.zero_add]
theorem filt_fst {p : Nat → Bool} {f : Nat → Option (List Nat)} : ∀ l : List Nat, (l.filter p).findSome? f = l.findSome? (fun v => if p v = true then f v else none)
  | [] => rfl
  | a :: l => by
    have ih := filt_fst (p := p) (f := f) l
    by_cases h : p a = true
    · rw [List.filter_cons_of_pos h, List.findSome?_cons, List.findSome?_cons, ih, if_pos h]
    · rw [List.filter_cons_of_neg h, List.findSome?_cons, ih, if_neg h]
theorem cnt_cS (K N most k : Nat) (r : List Nat) : cnt K N most (k + 1) r = cS K N most k r (dl most most) := by
  show ((candL K most r).map (fun v => cnt K N most k (r ++ [v]))).sum = _
  unfold candL cS
  rw [filt_sum]
  rfl
theorem fst_fS (K N most k : Nat) (r : List Nat) : fstR K N most (k + 1) r = fS K N most k r (dl most most) := by
  show (candL K most r).findSome? (fun v => fstR K N most k (r ++ [v])) = _
  unfold candL fS
  rw [filt_fst]
  rfl
theorem cS_app (K N most k : Nat) (r l1 l2 : List Nat) : cS K N most k r (l1 ++ l2) = cS K N most k r l1 + cS K N most k r l2 := by
  unfold cS
  rw [List.map_append, List.sum_append]
theorem fS_app (K N most k : Nat) (r l1 l2 : List Nat) : fS K N most k r (l1 ++ l2) = (fS K N most k r l1).or (fS K N most k r l2) := by
  unfold fS
  rw [List.findSome?_append]
theorem cS_one (K N most k : Nat) (r : List Nat) (v : Nat) : cS K N most k r [v] = tC K N most k r v := by simp [cS]
theorem fS_one (K N most k : Nat) (r : List Nat) (v : Nat) : fS K N most k r [v] = tF K N most k r v := by
  unfold fS
  rw [List.findSome?_cons]
  cases tF K N most k r v <;> rfl
theorem cS_zero {K N most k : Nat} {r l : List Nat} (h : ∀ v ∈ l, tC K N most k r v = 0) : cS K N most k r l = 0 ∧ fS K N most k r l = none := by
  refine ⟨sum_zero.mpr h, ?_⟩
  unfold fS
  rw [List.findSome?_eq_none_iff]
  exact fun v hv => tC_tF.mp (h v hv)
theorem dl_mem {m k w : Nat} (h : w ∈ dl m k) (hk : k ≤ m) : m - k < w ∧ w ≤ m := by
  unfold dl at h
  rw [List.mem_map] at h
  obtain ⟨i, hi, e⟩ := h
  have := List.mem_range.mp hi
  omega
theorem dl_split {m u : Nat} (hu : u ≤ m) : ∃ rest, dl m m = dl m (m - u) ++ rest ∧ ∀ w ∈ rest, 1 ≤ w ∧ w ≤ u := by
  refine ⟨(List.range u).map (fun i => m - (m - u + i)), ?_, ?_⟩
  · rw [← dl_add, Nat.sub_add_cancel hu]
  · intro w hw
    rw [List.mem_map] at hw
    obtain ⟨i, hi, e⟩ := hw
    have := List.mem_range.mp hi
    omega
theorem cnt_one {K N most : Nat} {r : List Nat} (hN : 1 ≤ N ∧ N ≤ most) : cnt K N most 1 r = (if candB K most r N = true then 1 else 0) ∧ fstR K N most 1 r = (if candB K most r N = true then some (r ++ [N]) else none) := by
  obtain ⟨rest, h1, h2⟩ := dl_split (m := most) (u := N - 1) (by omega)
  have hz : ∀ v, v ≠ N → tC K N most 0 r v = 0 := fun v hv => by
    unfold tC
    split
    · unfold cnt
      rw [lastD_app, if_neg hv]
    · rfl
  rw [cnt_cS, fst_fS, h1, show most - (N - 1) = most - N + 1 by omega, dl_succ, show most - (most - N) = N by omega, cS_app, cS_app, fS_app, fS_app, cS_one, fS_one]
  have z1 := cS_zero (K := K) (N := N) (most := most) (k := 0) (r := r) (l := dl most (most - N)) (fun v hv => hz v (by have := dl_mem hv (by omega); omega))
  have z2 := cS_zero (K := K) (N := N) (most := most) (k := 0) (r := r) (l := rest) (fun v hv => hz v (by have := h2 v hv; omega))
  rw [z1.1, z1.2, z2.1, z2.2]
  unfold tC tF cnt fstR
  rw [lastD_app]
  by_cases h : candB K most r N = true
  · simp [h]
  · simp [h]
def foundL (σ : Mem) (L : List Nat) : Prop := σ 6 4 = iZ L.length ∧ (∀ i, i < L.length → σ 17 i = iZ (L.getD i 0))
def foundM (σ : Mem) (K N : Nat) (L : List Nat) : Prop := foundL σ L ∧ σ 6 5 = iZ K ∧ σ 6 6 = iZ N
def shM (σ : Mem) (K N : Nat) (all : Bool) : Prop := σ 6 7 = iZ K ∧ σ 6 8 = iZ N ∧ σ 6 9 = (if all = true then 1 else 0)
def resP (all : Bool) (K N c : Nat) (f : Option (List Nat)) (σ σ' : Mem) (z : Int) : Prop := (all = true ∧ z = c ∧ σ' 6 = σ 6 ∧ σ' 17 = σ 17) ∨ (all = false ∧ f = none ∧ z = 0 ∧ σ' 6 = σ 6 ∧ σ' 17 = σ 17) ∨ (all = false ∧ ∃ row, f = some row ∧ z = 1 ∧ foundM σ' K N row ∧ (∀ j, j ≠ 4 → j ≠ 5 → j ≠ 6 → σ' 6 j = σ 6 j))
theorem resP.nil {all : Bool} {K N : Nat} {σ : Mem} : resP all K N 0 none σ σ 0 := by
  cases all
  · exact Or.inr (Or.inl ⟨rfl, rfl, rfl, rfl, rfl⟩)
  · exact Or.inl ⟨rfl, rfl, rfl, rfl⟩
theorem resP.step {all : Bool} {K N c c2 : Nat} {f f2 : Option (List Nat)} {σ σ1 σ2 : Mem} {z1 z2 : Int} (h1 : resP all K N c f σ σ1 z1) (hz : all = true ∨ z1 = 0) (h2 : resP all K N c2 f2 σ1 σ2 z2) : resP all K N (c + c2) (f.or f2) σ σ2 (z1 + z2) := by
  rcases h1 with ⟨a1, a2, a3, a4⟩ | ⟨a1, a2, a3, a4, a5⟩ | ⟨a1, row, a2, a3, a4, a5⟩
  · rcases h2 with ⟨b1, b2, b3, b4⟩ | ⟨b1, -⟩ | ⟨b1, -⟩
    · exact Or.inl ⟨a1, by omega, b3.trans a3, b4.trans a4⟩
    · rw [a1] at b1; cases b1
    · rw [a1] at b1; cases b1
  · rcases h2 with ⟨b1, -⟩ | ⟨b1, b2, b3, b4, b5⟩ | ⟨b1, row, b2, b3, b4, b5⟩
    · rw [a1] at b1; cases b1
    · exact Or.inr (Or.inl ⟨a1, by rw [a2, b2]; rfl, by omega, b4.trans a4, b5.trans a5⟩)
    · exact Or.inr (Or.inr ⟨a1, row, by rw [a2, b2]; rfl, by omega, b4, fun j p q s => by rw [b5 j p q s, a4]⟩)
  · rcases hz with hz | hz
    · rw [a1] at hz; cases hz
    · omega
theorem resP.fr {all : Bool} {K N c : Nat} {f : Option (List Nat)} {σ σ' σa σb : Mem} {z : Int} (h : resP all K N c f σ σ' z) (h1 : σa 6 = σ 6) (h2 : σa 17 = σ 17) (h3 : σb 6 = σ' 6) (h4 : σb 17 = σ' 17) : resP all K N c f σa σb z := by
  unfold resP foundM foundL at *
  rw [h1, h2, h3, h4]
  exact h
theorem resP.sh {all : Bool} {K N c : Nat} {f : Option (List Nat)} {σ σ' : Mem} {z : Int} (h : resP all K N c f σ σ' z) (hs : shM σ K N all) : shM σ' K N all := by
  rcases h with ⟨-, -, h, -⟩ | ⟨-, -, -, h, -⟩ | ⟨-, row, -, -, -, h⟩
  · unfold shM; rw [h]; exact hs
  · unfold shM; rw [h]; exact hs
  · unfold shM
    rw [h 7 (by decide) (by decide) (by decide), h 8 (by decide) (by decide) (by decide), h 9 (by decide) (by decide) (by decide)]
    exact hs
section CS1
variable {d n ca cb tr : Nat} {Q : PQ} {σ : Mem} {ρ : Ref}
theorem c_leastToReach (hd : 1 ≤ d) {g : Nat} {s : Int} (hg : g ≤ 100000) (hs : -1000000 ≤ s ∧ s ≤ 1000000) (hQ : Q (some (.int (iZ (ltR g s)))) ρ σ) : Mt M_X8_leastToReach d n n [.int (iZ g), .int (iZ s)] ρ σ Q := by
  refine Mt.of rfl (by decide +kernel) tk_X8_leastToReach (Nat.le_of_ble_eq_true rfl) ?_
  refine V.run 0 0 rfl (Nat.zero_le _) trivial ?_
  refine V.min rfl rfl lm_8_min rfl (by omega) (Nat.le_refl _) ?_
  refine V.max rfl rfl lm_8_max rfl (by omega) (Nat.le_refl _) ?_
  have e : (if iZ 0 < (if iZ 24 < iZ s then iZ 24 else iZ s) then (if iZ 24 < iZ s then iZ 24 else iZ s) else iZ 0) = iZ (shS s : Nat) := by
    unfold shS
    by_cases h1 : (24 : Int) < s
    · rw [if_pos ((iZ_lt (by omega) (by omega)).mpr h1), if_pos (by decide), if_neg (by omega), if_neg (by omega)]
      rfl
    · rw [if_neg (fun c => h1 ((iZ_lt (by omega) (by omega)).mp c))]
      by_cases h2 : (0 : Int) < s
      · rw [if_pos ((iZ_lt (by omega) (by omega)).mpr h2), if_neg (by omega)]
        by_cases h3 : s < 24
        · rw [if_pos h3]
          exact iZ_pat (by omega)
        · rw [if_neg h3]
          exact iZ_pat (by omega)
      · rw [if_neg (fun c => h2 ((iZ_lt (by omega) (by omega)).mp c))]
        by_cases h3 : s < 0
        · rw [if_pos h3]; rfl
        · rw [if_neg h3, if_pos (by omega)]
          exact iZ_pat (by omega)
  rw [e]
  have hsh := shS_le s
  have hp : (2 : Nat) ^ shS s ≤ 2 ^ 24 := Nat.pow_le_pow_right (by decide) hsh
  have hp1 : 1 ≤ (2 : Nat) ^ shS s := Nat.pow_pos (by decide)
  have h24 : (2 : Nat) ^ 24 = 16777216 := by decide
  have hc : ((2 ^ shS s : Nat) : Int) = (2 : Int) ^ shS s := by simp
  refine V.run 0 0 rfl (Nat.zero_le _) trivial ?_
  rw [iZ_shl (by omega), iZ_add, iZ_sub, Int.one_mul, iZ_shr (by omega) (by omega)]
  have e2 : ((g : Int) + 2 ^ shS s - 1) / 2 ^ shS s = (ltR g s : Nat) := by
    unfold ltR
    rw [Int.natCast_ediv, ← hc]
    congr 1
    omega
  rw [e2]
  refine V.ret (v := some (.int (iZ (ltR g s)))) rfl rfl rfl rfl (hQ)
end CS1
section CS2
variable {d n ca cb tr : Nat} {Q : PQ} {σ : Mem}
def hiB (K N : Nat) (r : List Nat) : Nat := if K = 2 then 2 * N else min (2 * lastD r) (N - 1)
def loB (K N : Nat) (r : List Nat) (s : Int) : Nat := if K = 2 then 1 else max (lastD r + 1) (ltR N s)
theorem last_le {kind : Nat} {r : List Nat} (ht : trialM σ kind r) : lastD r ≤ 160 := by
  rcases Nat.eq_zero_or_pos r.length with q | q
  · rw [List.eq_nil_of_length_eq_zero q]; decide
  · rw [lastD_eq q]; exact (ht.1.2.1 _ (getD_mem2 (by omega))).2
theorem c_highest (hn : 54 ≤ n) (hd : 3 ≤ d) {K N : Nat} {all : Bool} {r : List Nat} (hN : 1 ≤ N ∧ N ≤ 160) (ht : trialM σ K r) (hs : shM σ K N all) (hQ : Q (some (.int (iZ (hiB K N r)))) (rho ca cb tr) σ) : Mt M_X5_highest d n n [.ref 6] (rho ca cb tr) σ Q := by
  have hk := ht.2.1
  have hl := last_le ht
  unfold hiB at hQ
  refine Mt.of rfl (by decide +kernel) tk_X5_highest (Nat.le_of_ble_eq_true rfl) ?_
  refine V.run 0 54 rfl hn trivial ?_
  try simp only [rc_1_0, rc_1_1, rc_1_2, rc_1_3, rc_1_4, rc_1_5, rc_2_0, rc_2_1, rc_2_2, rc_6_0, rc_6_1, rc_6_2, rc_6_3, rc_7_0, rc_7_1, rc_7_2, rc_7_3, rc_12_0, rc_12_1, rc_12_2, rc_12_3, rc_18_0, rc_18_1, rc_20_0, rc_20_1, rc_22_0, rc_23_0, rc_25_0, rc_27_0, rc_27_1, rc_27_2, rc_31_0, rc_31_1, rc_31_2, rc_55_0, rc_55_1, rc_55_2, rc_1_6, rc_1_7, rc_23_2, fi_0_1, fi_0_2, fi_0_3, fi_1_3, fi_1_4, fi_1_5, fi_1_6, fi_1_7, fi_2_2, fi_3_3, fi_3_4, fi_3_5, fi_4_1, fi_5_4, fi_5_5, fi_5_6, fi_5_7, fi_5_8, fi_5_9, fi_6_1, fi_7_3, fi_7_4]
  rw [hs.1]
  refine V.br rfl (fun (c : iZ K = iZ 2) => ?_) (fun (c : ¬ (iZ K = iZ 2)) => ?_)
  · rw [iZ_eq (by omega) (by omega)] at c
    rw [if_pos (by omega)] at hQ
    refine V.run 0 54 rfl hn trivial ?_
    try simp only [rc_1_0, rc_1_1, rc_1_2, rc_1_3, rc_1_4, rc_1_5, rc_2_0, rc_2_1, rc_2_2, rc_6_0, rc_6_1, rc_6_2, rc_6_3, rc_7_0, rc_7_1, rc_7_2, rc_7_3, rc_12_0, rc_12_1, rc_12_2, rc_12_3, rc_18_0, rc_18_1, rc_20_0, rc_20_1, rc_22_0, rc_23_0, rc_25_0, rc_27_0, rc_27_1, rc_27_2, rc_31_0, rc_31_1, rc_31_2, rc_55_0, rc_55_1, rc_55_2, rc_1_6, rc_1_7, rc_23_2, fi_0_1, fi_0_2, fi_0_3, fi_1_3, fi_1_4, fi_1_5, fi_1_6, fi_1_7, fi_2_2, fi_3_3, fi_3_4, fi_3_5, fi_4_1, fi_5_4, fi_5_5, fi_5_6, fi_5_7, fi_5_8, fi_5_9, fi_6_1, fi_7_3, fi_7_4]
    rw [hs.2.1, iZ_mul]
    refine V.ret (v := some (.int (iZ (2 * (N : Int))))) rfl rfl rfl rfl (hQ)
  · rw [iZ_eq (by omega) (by omega)] at c
    rw [if_neg (by omega)] at hQ
    refine V.run 0 54 rfl hn trivial ?_
    try simp only [rc_1_0, rc_1_1, rc_1_2, rc_1_3, rc_1_4, rc_1_5, rc_2_0, rc_2_1, rc_2_2, rc_6_0, rc_6_1, rc_6_2, rc_6_3, rc_7_0, rc_7_1, rc_7_2, rc_7_3, rc_12_0, rc_12_1, rc_12_2, rc_12_3, rc_18_0, rc_18_1, rc_20_0, rc_20_1, rc_22_0, rc_23_0, rc_25_0, rc_27_0, rc_27_1, rc_27_2, rc_31_0, rc_31_1, rc_31_2, rc_55_0, rc_55_1, rc_55_2, rc_1_6, rc_1_7, rc_23_2, fi_0_1, fi_0_2, fi_0_3, fi_1_3, fi_1_4, fi_1_5, fi_1_6, fi_1_7, fi_2_2, fi_3_3, fi_3_4, fi_3_5, fi_4_1, fi_5_4, fi_5_5, fi_5_6, fi_5_7, fi_5_8, fi_5_9, fi_6_1, fi_7_3, fi_7_4]
    refine V.cv (lo := 54) (d' := d - 1) rfl rfl ok_X7_latest lk_5_X7_latest rfl rfl rfl hn (by omega) (Nat.le_refl _) (Nat.le_refl _) ((c_latest hn (by omega) ht ?_))
    refine V.run 0 54 rfl hn trivial ?_
    try simp only [rc_1_0, rc_1_1, rc_1_2, rc_1_3, rc_1_4, rc_1_5, rc_2_0, rc_2_1, rc_2_2, rc_6_0, rc_6_1, rc_6_2, rc_6_3, rc_7_0, rc_7_1, rc_7_2, rc_7_3, rc_12_0, rc_12_1, rc_12_2, rc_12_3, rc_18_0, rc_18_1, rc_20_0, rc_20_1, rc_22_0, rc_23_0, rc_25_0, rc_27_0, rc_27_1, rc_27_2, rc_31_0, rc_31_1, rc_31_2, rc_55_0, rc_55_1, rc_55_2, rc_1_6, rc_1_7, rc_23_2, fi_0_1, fi_0_2, fi_0_3, fi_1_3, fi_1_4, fi_1_5, fi_1_6, fi_1_7, fi_2_2, fi_3_3, fi_3_4, fi_3_5, fi_4_1, fi_5_4, fi_5_5, fi_5_6, fi_5_7, fi_5_8, fi_5_9, fi_6_1, fi_7_3, fi_7_4]
    rw [hs.2.1, iZ_mul, iZ_sub]
    refine V.min rfl rfl lm_5_min rfl (by omega) (Nat.le_refl _) ?_
    have e : (if iZ ((N : Int) - 1) < iZ (2 * (lastD r : Int)) then iZ ((N : Int) - 1) else iZ (2 * (lastD r : Int))) = iZ (min (2 * lastD r) (N - 1) : Nat) := by
      by_cases h : (N : Int) - 1 < 2 * (lastD r : Int)
      · rw [if_pos ((iZ_lt (by omega) (by omega)).mpr h)]
        exact iZ_pat (by omega)
      · rw [if_neg (fun c => h ((iZ_lt (by omega) (by omega)).mp c))]
        exact iZ_pat (by omega)
    rw [e]
    refine V.ret (v := some (.int (iZ (min (2 * lastD r) (N - 1) : Nat)))) rfl rfl rfl rfl (hQ)
theorem c_lowest (hn : 54 ≤ n) (hd : 3 ≤ d) {K N : Nat} {s : Int} {all : Bool} {r : List Nat} (hN : 1 ≤ N ∧ N ≤ 160) (hs0 : -1000 ≤ s ∧ s ≤ 1000) (ht : trialM σ K r) (hs : shM σ K N all) (hQ : Q (some (.int (iZ (loB K N r s)))) (rho ca cb tr) σ) : Mt M_X5_lowest d n n [.ref 6, .int (iZ s)] (rho ca cb tr) σ Q := by
  have hk := ht.2.1
  have hl := last_le ht
  unfold loB at hQ
  refine Mt.of rfl (by decide +kernel) tk_X5_lowest (Nat.le_of_ble_eq_true rfl) ?_
  refine V.run 0 54 rfl hn trivial ?_
  try simp only [rc_1_0, rc_1_1, rc_1_2, rc_1_3, rc_1_4, rc_1_5, rc_2_0, rc_2_1, rc_2_2, rc_6_0, rc_6_1, rc_6_2, rc_6_3, rc_7_0, rc_7_1, rc_7_2, rc_7_3, rc_12_0, rc_12_1, rc_12_2, rc_12_3, rc_18_0, rc_18_1, rc_20_0, rc_20_1, rc_22_0, rc_23_0, rc_25_0, rc_27_0, rc_27_1, rc_27_2, rc_31_0, rc_31_1, rc_31_2, rc_55_0, rc_55_1, rc_55_2, rc_1_6, rc_1_7, rc_23_2, fi_0_1, fi_0_2, fi_0_3, fi_1_3, fi_1_4, fi_1_5, fi_1_6, fi_1_7, fi_2_2, fi_3_3, fi_3_4, fi_3_5, fi_4_1, fi_5_4, fi_5_5, fi_5_6, fi_5_7, fi_5_8, fi_5_9, fi_6_1, fi_7_3, fi_7_4]
  rw [hs.1]
  refine V.br rfl (fun (c : iZ K = iZ 2) => ?_) (fun (c : ¬ (iZ K = iZ 2)) => ?_)
  · rw [iZ_eq (by omega) (by omega)] at c
    rw [if_pos (by omega)] at hQ
    refine V.run 0 54 rfl hn trivial ?_
    refine V.ret (v := some (.int (iZ 1))) rfl rfl rfl rfl (hQ)
  · rw [iZ_eq (by omega) (by omega)] at c
    rw [if_neg (by omega)] at hQ
    refine V.run 0 54 rfl hn trivial ?_
    try simp only [rc_1_0, rc_1_1, rc_1_2, rc_1_3, rc_1_4, rc_1_5, rc_2_0, rc_2_1, rc_2_2, rc_6_0, rc_6_1, rc_6_2, rc_6_3, rc_7_0, rc_7_1, rc_7_2, rc_7_3, rc_12_0, rc_12_1, rc_12_2, rc_12_3, rc_18_0, rc_18_1, rc_20_0, rc_20_1, rc_22_0, rc_23_0, rc_25_0, rc_27_0, rc_27_1, rc_27_2, rc_31_0, rc_31_1, rc_31_2, rc_55_0, rc_55_1, rc_55_2, rc_1_6, rc_1_7, rc_23_2, fi_0_1, fi_0_2, fi_0_3, fi_1_3, fi_1_4, fi_1_5, fi_1_6, fi_1_7, fi_2_2, fi_3_3, fi_3_4, fi_3_5, fi_4_1, fi_5_4, fi_5_5, fi_5_6, fi_5_7, fi_5_8, fi_5_9, fi_6_1, fi_7_3, fi_7_4]
    refine V.cv (lo := 54) (d' := d - 1) rfl rfl ok_X7_latest lk_5_X7_latest rfl rfl rfl hn (by omega) (Nat.le_refl _) (Nat.le_refl _) ((c_latest hn (by omega) ht ?_))
    refine V.run 0 54 rfl hn trivial ?_
    try simp only [rc_1_0, rc_1_1, rc_1_2, rc_1_3, rc_1_4, rc_1_5, rc_2_0, rc_2_1, rc_2_2, rc_6_0, rc_6_1, rc_6_2, rc_6_3, rc_7_0, rc_7_1, rc_7_2, rc_7_3, rc_12_0, rc_12_1, rc_12_2, rc_12_3, rc_18_0, rc_18_1, rc_20_0, rc_20_1, rc_22_0, rc_23_0, rc_25_0, rc_27_0, rc_27_1, rc_27_2, rc_31_0, rc_31_1, rc_31_2, rc_55_0, rc_55_1, rc_55_2, rc_1_6, rc_1_7, rc_23_2, fi_0_1, fi_0_2, fi_0_3, fi_1_3, fi_1_4, fi_1_5, fi_1_6, fi_1_7, fi_2_2, fi_3_3, fi_3_4, fi_3_5, fi_4_1, fi_5_4, fi_5_5, fi_5_6, fi_5_7, fi_5_8, fi_5_9, fi_6_1, fi_7_3, fi_7_4]
    rw [hs.2.1, iZ_add]
    refine V.csn (d' := d - 1) rfl rfl ok_X8_leastToReach (List.mem_of_getElem? (i := 5) rfl) rfl (by omega) (Nat.le_refl _) (Nat.le_refl _) ((c_leastToReach (by omega) (by omega) (by omega) ?_))
    have hle := ltR_le (g := N) (s := s) (by omega)
    refine V.max rfl rfl lm_5_max rfl (by omega) (Nat.le_refl _) ?_
    have e : (if iZ ((lastD r : Int) + 1) < iZ (ltR N s) then iZ (ltR N s) else iZ ((lastD r : Int) + 1)) = iZ (max (lastD r + 1) (ltR N s) : Nat) := by
      by_cases h : (lastD r : Int) + 1 < (ltR N s : Int)
      · rw [if_pos ((iZ_lt (by omega) (by omega)).mpr h)]
        exact iZ_pat (by omega)
      · rw [if_neg (fun c => h ((iZ_lt (by omega) (by omega)).mp c))]
        exact iZ_pat (by omega)
    rw [e]
    refine V.ret (v := some (.int (iZ (max (lastD r + 1) (ltR N s) : Nat)))) rfl rfl rfl rfl (hQ)
theorem c_keepNumber (hn : 54 ≤ n) {x : Nat} {L : List Nat} (hL : L.length < 48) (hf : foundL σ L) (hQ : ∀ σ', foundL σ' (L ++ [x]) → Fr [6, 17] σ σ' → (∀ j, j ≠ 4 → σ' 6 j = σ 6 j) → Q none (rho ca cb tr) σ') : Mt M_X5_keepNumber d n n [.ref 6, .int (iZ x)] (rho ca cb tr) σ Q := by
  refine Mt.of rfl (by decide +kernel) tk_X5_keepNumber (Nat.le_of_ble_eq_true rfl) ?_
  refine V.run 0 54 rfl hn trivial ?_
  try simp only [rc_1_0, rc_1_1, rc_1_2, rc_1_3, rc_1_4, rc_1_5, rc_2_0, rc_2_1, rc_2_2, rc_6_0, rc_6_1, rc_6_2, rc_6_3, rc_7_0, rc_7_1, rc_7_2, rc_7_3, rc_12_0, rc_12_1, rc_12_2, rc_12_3, rc_18_0, rc_18_1, rc_20_0, rc_20_1, rc_22_0, rc_23_0, rc_25_0, rc_27_0, rc_27_1, rc_27_2, rc_31_0, rc_31_1, rc_31_2, rc_55_0, rc_55_1, rc_55_2, rc_1_6, rc_1_7, rc_23_2, fi_0_1, fi_0_2, fi_0_3, fi_1_3, fi_1_4, fi_1_5, fi_1_6, fi_1_7, fi_2_2, fi_3_3, fi_3_4, fi_3_5, fi_4_1, fi_5_4, fi_5_5, fi_5_6, fi_5_7, fi_5_8, fi_5_9, fi_6_1, fi_7_3, fi_7_4]
  rw [hf.1]
  refine V.brF rfl (fun c => by have := (iZ_lt0 (by omega)).mp c; omega) ?_
  refine V.run 0 54 rfl hn trivial ?_
  try simp only [rc_1_0, rc_1_1, rc_1_2, rc_1_3, rc_1_4, rc_1_5, rc_2_0, rc_2_1, rc_2_2, rc_6_0, rc_6_1, rc_6_2, rc_6_3, rc_7_0, rc_7_1, rc_7_2, rc_7_3, rc_12_0, rc_12_1, rc_12_2, rc_12_3, rc_18_0, rc_18_1, rc_20_0, rc_20_1, rc_22_0, rc_23_0, rc_25_0, rc_27_0, rc_27_1, rc_27_2, rc_31_0, rc_31_1, rc_31_2, rc_55_0, rc_55_1, rc_55_2, rc_1_6, rc_1_7, rc_23_2, fi_0_1, fi_0_2, fi_0_3, fi_1_3, fi_1_4, fi_1_5, fi_1_6, fi_1_7, fi_2_2, fi_3_3, fi_3_4, fi_3_5, fi_4_1, fi_5_4, fi_5_5, fi_5_6, fi_5_7, fi_5_8, fi_5_9, fi_6_1, fi_7_3, fi_7_4]
  rw [hf.1]
  refine V.brF rfl (fun c => by have := (iZ_le (by omega) (by omega)).mp c; omega) ?_
  refine V.run 0 54 rfl hn ⟨by (try simp only [fi_5_4]); rw [hf.1]; exact in_N (n := 48) (by omega) (by decide), trivial⟩ ?_
  try simp only [rc_1_0, rc_1_1, rc_1_2, rc_1_3, rc_1_4, rc_1_5, rc_2_0, rc_2_1, rc_2_2, rc_6_0, rc_6_1, rc_6_2, rc_6_3, rc_7_0, rc_7_1, rc_7_2, rc_7_3, rc_12_0, rc_12_1, rc_12_2, rc_12_3, rc_18_0, rc_18_1, rc_20_0, rc_20_1, rc_22_0, rc_23_0, rc_25_0, rc_27_0, rc_27_1, rc_27_2, rc_31_0, rc_31_1, rc_31_2, rc_55_0, rc_55_1, rc_55_2, rc_1_6, rc_1_7, rc_23_2, fi_0_1, fi_0_2, fi_0_3, fi_1_3, fi_1_4, fi_1_5, fi_1_6, fi_1_7, fi_2_2, fi_3_3, fi_3_4, fi_3_5, fi_4_1, fi_5_4, fi_5_5, fi_5_6, fi_5_7, fi_5_8, fi_5_9, fi_6_1, fi_7_3, fi_7_4]
  rw [hf.1, ix_N (by omega)]
  refine V.ret (v := none) rfl rfl rfl rfl (hQ _ ⟨?_, fun i hi => ?_⟩ (Fr.putT (Fr.put (by simp)) (by simp)) (fun j hj => by rw [up_nat hj, up_ne (by decide)]))
  · rw [up_at, up_ne (by decide), hf.1, iZ_add]
    refine iZ_pat ?_
    simp
  · rw [up_ne (by decide)]
    rw [List.length_append, List.length_singleton] at hi
    by_cases e : i = L.length
    · subst e
      rw [up_at, getD_last]
    · rw [up_nat e, hf.2 i (by omega), getD_app (by omega)]
theorem c_keep (hn : 54 ≤ n) (hd : 2 ≤ d) {K N nu : Nat} {all : Bool} {r : List Nat} (hnu : nu ≤ 160) (hr : r.length ≤ 40) (ht : trialM σ K r) (hs : shM σ K N all) (h1 : all = true → Q (some (.int (iZ 1))) (rho ca cb tr) σ) (h0 : all = false → ∀ σ', foundM σ' K N (r ++ (if nu = 0 then [] else [nu]) ++ [N]) → Fr [6, 17] σ σ' → (∀ j, j ≠ 4 → j ≠ 5 → j ≠ 6 → σ' 6 j = σ 6 j) → Q (some (.int (iZ 1))) (rho ca cb tr) σ') : Mt M_X5_keep d n n [.ref 6, .int (iZ nu)] (rho ca cb tr) σ Q := by
  refine Mt.of rfl (by decide +kernel) tk_X5_keep (Nat.le_of_ble_eq_true rfl) ?_
  refine V.run 0 54 rfl hn trivial ?_
  try simp only [rc_1_0, rc_1_1, rc_1_2, rc_1_3, rc_1_4, rc_1_5, rc_2_0, rc_2_1, rc_2_2, rc_6_0, rc_6_1, rc_6_2, rc_6_3, rc_7_0, rc_7_1, rc_7_2, rc_7_3, rc_12_0, rc_12_1, rc_12_2, rc_12_3, rc_18_0, rc_18_1, rc_20_0, rc_20_1, rc_22_0, rc_23_0, rc_25_0, rc_27_0, rc_27_1, rc_27_2, rc_31_0, rc_31_1, rc_31_2, rc_55_0, rc_55_1, rc_55_2, rc_1_6, rc_1_7, rc_23_2, fi_0_1, fi_0_2, fi_0_3, fi_1_3, fi_1_4, fi_1_5, fi_1_6, fi_1_7, fi_2_2, fi_3_3, fi_3_4, fi_3_5, fi_4_1, fi_5_4, fi_5_5, fi_5_6, fi_5_7, fi_5_8, fi_5_9, fi_6_1, fi_7_3, fi_7_4]
  rw [hs.2.2]
  cases all with
  | true =>
    refine V.brF rfl (by decide) ?_
    refine V.run 0 54 rfl hn trivial ?_
    refine V.ret (v := some (.int (iZ 1))) rfl rfl rfl rfl (h1 rfl)
  | false =>
    refine V.brT rfl rfl ?_
    refine V.run 16 54 rfl hn trivial ?_
    try simp only [rc_1_0, rc_1_1, rc_1_2, rc_1_3, rc_1_4, rc_1_5, rc_2_0, rc_2_1, rc_2_2, rc_6_0, rc_6_1, rc_6_2, rc_6_3, rc_7_0, rc_7_1, rc_7_2, rc_7_3, rc_12_0, rc_12_1, rc_12_2, rc_12_3, rc_18_0, rc_18_1, rc_20_0, rc_20_1, rc_22_0, rc_23_0, rc_25_0, rc_27_0, rc_27_1, rc_27_2, rc_31_0, rc_31_1, rc_31_2, rc_55_0, rc_55_1, rc_55_2, rc_1_6, rc_1_7, rc_23_2, fi_0_1, fi_0_2, fi_0_3, fi_1_3, fi_1_4, fi_1_5, fi_1_6, fi_1_7, fi_2_2, fi_3_3, fi_3_4, fi_3_5, fi_4_1, fi_5_4, fi_5_5, fi_5_6, fi_5_7, fi_5_8, fi_5_9, fi_6_1, fi_7_3, fi_7_4]
    have k54 : ∀ (σ2 : Mem) (x2 : Option Value) (L : List Nat), foundL σ2 L → L.length < 48 → L = r ++ (if nu = 0 then [] else [nu]) → Fr [6, 17] σ σ2 → (∀ j, j ≠ 4 → σ2 6 j = σ 6 j) → V M_X5_keep d n n none Q n (rho ca cb tr) σ2 54 [some (.ref 6), some (.int (iZ (nu))), x2] [] := by
      intro σ2 x2 L hf hl he hfr h6
      have e8 : σ2 6 8 = iZ N := by rw [h6 8 (by decide)]; exact hs.2.1
      refine V.run 0 54 rfl hn trivial ?_
      try simp only [rc_1_0, rc_1_1, rc_1_2, rc_1_3, rc_1_4, rc_1_5, rc_2_0, rc_2_1, rc_2_2, rc_6_0, rc_6_1, rc_6_2, rc_6_3, rc_7_0, rc_7_1, rc_7_2, rc_7_3, rc_12_0, rc_12_1, rc_12_2, rc_12_3, rc_18_0, rc_18_1, rc_20_0, rc_20_1, rc_22_0, rc_23_0, rc_25_0, rc_27_0, rc_27_1, rc_27_2, rc_31_0, rc_31_1, rc_31_2, rc_55_0, rc_55_1, rc_55_2, rc_1_6, rc_1_7, rc_23_2, fi_0_1, fi_0_2, fi_0_3, fi_1_3, fi_1_4, fi_1_5, fi_1_6, fi_1_7, fi_2_2, fi_3_3, fi_3_4, fi_3_5, fi_4_1, fi_5_4, fi_5_5, fi_5_6, fi_5_7, fi_5_8, fi_5_9, fi_6_1, fi_7_3, fi_7_4]
      rw [e8]
      refine V.cv (lo := 54) (d' := d - 1) rfl rfl ok_X5_keepNumber lk_5_X5_keepNumber rfl rfl rfl hn (by omega) (Nat.le_refl _) (Nat.le_refl _) ((c_keepNumber hn hl hf (fun σ3 hf3 hfr3 h63 => ?_)))
      have e8 : σ3 6 8 = iZ N := by rw [h63 8 (by decide)]; exact e8
      have e7 : σ3 6 7 = iZ K := by rw [h63 7 (by decide), h6 7 (by decide)]; exact hs.1
      refine V.run 0 54 rfl hn trivial ?_
      try simp only [rc_1_0, rc_1_1, rc_1_2, rc_1_3, rc_1_4, rc_1_5, rc_2_0, rc_2_1, rc_2_2, rc_6_0, rc_6_1, rc_6_2, rc_6_3, rc_7_0, rc_7_1, rc_7_2, rc_7_3, rc_12_0, rc_12_1, rc_12_2, rc_12_3, rc_18_0, rc_18_1, rc_20_0, rc_20_1, rc_22_0, rc_23_0, rc_25_0, rc_27_0, rc_27_1, rc_27_2, rc_31_0, rc_31_1, rc_31_2, rc_55_0, rc_55_1, rc_55_2, rc_1_6, rc_1_7, rc_23_2, fi_0_1, fi_0_2, fi_0_3, fi_1_3, fi_1_4, fi_1_5, fi_1_6, fi_1_7, fi_2_2, fi_3_3, fi_3_4, fi_3_5, fi_4_1, fi_5_4, fi_5_5, fi_5_6, fi_5_7, fi_5_8, fi_5_9, fi_6_1, fi_7_3, fi_7_4]
      rw [e7, show up σ3 6 5 (iZ K) 6 8 = iZ N from by rw [up_nat (by decide)]; exact e8]
      refine V.ret (v := some (.int (iZ 1))) rfl rfl rfl rfl (h0 rfl _ ⟨⟨?_, fun i hi => ?_⟩, ?_, ?_⟩ (Fr.putT (Fr.putT (hfr.tr hfr3) (by simp)) (by simp)) (fun j p q s => ?_))
      · rw [up_nat (by decide), up_nat (by decide), ← he]; exact hf3.1
      · rw [up_ne (by decide), up_ne (by decide)]
        rw [← he] at hi ⊢
        exact hf3.2 i hi
      · rw [up_nat (by decide), up_at]
      · rw [up_at]
      · rw [up_nat s, up_nat q, h63 j p, h6 j p]
    have key : ∀ (j i : Nat) (σ1 : Mem), i + j = r.length → foundL σ1 (r.take i) → Fr [6, 17] σ σ1 → (∀ j, j ≠ 4 → σ1 6 j = σ 6 j) → V M_X5_keep d n n none Q n (rho ca cb tr) σ1 16 [some (.ref 6), some (.int (iZ (nu))), some (.int (iZ (i)))] [] := by
      intro j
      induction j with
      | zero =>
        intro i σ1 hi hf hfr h6
        have e : i = r.length := by omega
        subst e
        rw [List.take_length] at hf
        have ht1 := ht.fr hfr (by decide) (by decide) (by decide) (by decide)
        refine V.run 0 54 rfl hn trivial ?_
        try simp only [rc_1_0, rc_1_1, rc_1_2, rc_1_3, rc_1_4, rc_1_5, rc_2_0, rc_2_1, rc_2_2, rc_6_0, rc_6_1, rc_6_2, rc_6_3, rc_7_0, rc_7_1, rc_7_2, rc_7_3, rc_12_0, rc_12_1, rc_12_2, rc_12_3, rc_18_0, rc_18_1, rc_20_0, rc_20_1, rc_22_0, rc_23_0, rc_25_0, rc_27_0, rc_27_1, rc_27_2, rc_31_0, rc_31_1, rc_31_2, rc_55_0, rc_55_1, rc_55_2, rc_1_6, rc_1_7, rc_23_2, fi_0_1, fi_0_2, fi_0_3, fi_1_3, fi_1_4, fi_1_5, fi_1_6, fi_1_7, fi_2_2, fi_3_3, fi_3_4, fi_3_5, fi_4_1, fi_5_4, fi_5_5, fi_5_6, fi_5_7, fi_5_8, fi_5_9, fi_6_1, fi_7_3, fi_7_4]
        refine V.cv (lo := 54) (d' := d - 1) rfl rfl ok_X7_size lk_5_X7_size rfl rfl rfl hn (by omega) (Nat.le_refl _) (Nat.le_refl _) ((c_size hn ht1 ?_))
        refine V.brT rfl (Int32.le_refl _) ?_
        refine V.run 0 54 rfl hn trivial ?_
        refine V.br rfl (fun (c : iZ nu ≤ 0) => ?_) (fun (c : ¬ (iZ nu ≤ 0)) => ?_)
        · rw [iZ_le0 (by omega)] at c
          exact k54 σ1 _ r hf (by omega) (by rw [if_pos (by omega), List.append_nil]) hfr h6
        · rw [iZ_le0 (by omega)] at c
          refine V.run 0 54 rfl hn trivial ?_
          refine V.cv (lo := 54) (d' := d - 1) rfl rfl ok_X5_keepNumber lk_5_X5_keepNumber rfl rfl rfl hn (by omega) (Nat.le_refl _) (Nat.le_refl _) ((c_keepNumber hn (by omega) hf (fun σ3 hf3 hfr3 h63 => ?_)))
          exact k54 σ3 _ (r ++ [nu]) hf3 (by simp; omega) (by rw [if_neg (by omega)]) (hfr.tr hfr3) (fun j hj => by rw [h63 j hj, h6 j hj])
      | succ j ih =>
        intro i σ1 hi hf hfr h6
        have ht1 := ht.fr hfr (by decide) (by decide) (by decide) (by decide)
        refine V.run 0 54 rfl hn trivial ?_
        try simp only [rc_1_0, rc_1_1, rc_1_2, rc_1_3, rc_1_4, rc_1_5, rc_2_0, rc_2_1, rc_2_2, rc_6_0, rc_6_1, rc_6_2, rc_6_3, rc_7_0, rc_7_1, rc_7_2, rc_7_3, rc_12_0, rc_12_1, rc_12_2, rc_12_3, rc_18_0, rc_18_1, rc_20_0, rc_20_1, rc_22_0, rc_23_0, rc_25_0, rc_27_0, rc_27_1, rc_27_2, rc_31_0, rc_31_1, rc_31_2, rc_55_0, rc_55_1, rc_55_2, rc_1_6, rc_1_7, rc_23_2, fi_0_1, fi_0_2, fi_0_3, fi_1_3, fi_1_4, fi_1_5, fi_1_6, fi_1_7, fi_2_2, fi_3_3, fi_3_4, fi_3_5, fi_4_1, fi_5_4, fi_5_5, fi_5_6, fi_5_7, fi_5_8, fi_5_9, fi_6_1, fi_7_3, fi_7_4]
        refine V.cv (lo := 54) (d' := d - 1) rfl rfl ok_X7_size lk_5_X7_size rfl rfl rfl hn (by omega) (Nat.le_refl _) (Nat.le_refl _) ((c_size hn ht1 ?_))
        refine V.brF rfl (fun c => by have := (iZ_le (by omega) (by omega)).mp c; omega) ?_
        refine V.run 0 54 rfl hn trivial ?_
        try simp only [rc_1_0, rc_1_1, rc_1_2, rc_1_3, rc_1_4, rc_1_5, rc_2_0, rc_2_1, rc_2_2, rc_6_0, rc_6_1, rc_6_2, rc_6_3, rc_7_0, rc_7_1, rc_7_2, rc_7_3, rc_12_0, rc_12_1, rc_12_2, rc_12_3, rc_18_0, rc_18_1, rc_20_0, rc_20_1, rc_22_0, rc_23_0, rc_25_0, rc_27_0, rc_27_1, rc_27_2, rc_31_0, rc_31_1, rc_31_2, rc_55_0, rc_55_1, rc_55_2, rc_1_6, rc_1_7, rc_23_2, fi_0_1, fi_0_2, fi_0_3, fi_1_3, fi_1_4, fi_1_5, fi_1_6, fi_1_7, fi_2_2, fi_3_3, fi_3_4, fi_3_5, fi_4_1, fi_5_4, fi_5_5, fi_5_6, fi_5_7, fi_5_8, fi_5_9, fi_6_1, fi_7_3, fi_7_4]
        refine V.cv (lo := 54) (d' := d - 1) rfl rfl ok_X7_numberAt lk_5_X7_numberAt rfl rfl rfl hn (by omega) (Nat.le_refl _) (Nat.le_refl _) ((c_numberAt hn (by omega) ht1 ?_))
        rw [if_neg (by omega), Int.toNat_natCast]
        refine V.cv (lo := 54) (d' := d - 1) rfl rfl ok_X5_keepNumber lk_5_X5_keepNumber rfl rfl rfl hn (by omega) (Nat.le_refl _) (Nat.le_refl _) ((c_keepNumber hn (by simp; omega) hf (fun σ3 hf3 hfr3 h63 => ?_)))
        rw [← take_getD (by omega)] at hf3
        refine V.run 0 54 rfl hn trivial ?_
        have := ih (i + 1) σ3 (by omega) hf3 (hfr.tr hfr3) (fun j hj => by rw [h63 j hj, h6 j hj])
        rw [show ((i + 1 : Nat) : Int) = (i : Int) + 1 by omega, ← iZ_add] at this
        exact this
    exact key r.length 0 _ (by omega) ⟨up_at, fun i hi => by simp at hi⟩ (Fr.put (by simp)) (fun j hj => up_nat hj)
end CS2
