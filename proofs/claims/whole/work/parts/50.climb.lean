/-! ===== the class: climb, search ===== -/
theorem tC_hi {K N k v : Nat} {r : List Nat} (hi : K ≠ 2 → incR r) (hk1 : 1 ≤ k) (hv : hiB K N r < v) (hm : v ≤ mostOf K N) : tC K N (mostOf K N) k r v = 0 := by
  unfold hiB at hv
  unfold mostOf at hm ⊢
  by_cases h2 : K = 2
  · rw [if_pos h2] at hv hm
    omega
  · rw [if_neg h2] at hv hm ⊢
    unfold tC
    split
    · rename_i hc
      by_cases e : v = N
      · obtain ⟨k', rfl⟩ : ∃ k', k = k' + 1 := ⟨k - 1, by omega⟩
        exact cnt_mem (by rw [e]; simp)
      · have := snB_le (candB_spec hc).2.2.1 (hi h2).2
        omega
    · rfl
theorem tC_lo {K N k v : Nat} {r : List Nat} (hi : K ≠ 2 → incR r) (hk : k ≤ 23) (hv1 : 1 ≤ v) (hv : v < loB K N r k) : tC K N (mostOf K N) k r v = 0 := by
  unfold loB at hv
  by_cases h2 : K = 2
  · rw [if_pos h2] at hv
    omega
  · rw [if_neg h2] at hv
    unfold tC
    split
    · rename_i hc
      have h1 := (candB_spec hc).1
      unfold lowB at h1
      rw [if_neg h2] at h1
      have h3 : v < ltR N k := by omega
      rw [ltR_lt] at h3
      have e : shS (k : Int) = k := by
        unfold shS
        rw [if_neg (by omega), if_pos (by omega)]
        rfl
      rw [e] at h3
      refine cnt_small (g := v) (by simp) (fun x hx => ?_) h3
      rcases List.mem_append.mp hx with q | q
      · have := (hi h2).2 x q; omega
      · rw [List.mem_singleton] at q; omega
    · rfl
theorem loB_pos {K N : Nat} {r : List Nat} {s : Int} : 1 ≤ loB K N r s ∧ lowB K r ≤ loB K N r s := by
  unfold loB lowB
  split <;> omega
section CS3
variable {n ca cb tr : Nat}
theorem c_climb (hn : 54 ≤ n) {K N : Nat} {all : Bool} (hN : 2 ≤ N ∧ N ≤ 160) (hN2 : K = 2 → N ≤ 40) : ∀ (left d : Nat) (Q : PQ) (σ : Mem) (r : List Nat), 1 ≤ left → left ≤ 24 → left + 4 ≤ d → trialM σ K r → shM σ K N all → 0 < r.length → r.length + left ≤ 26 → (K ≠ 2 → incR r ∧ lastD r < N) → N ∉ r → (∀ k, k < left → cnt K N (mostOf K N) k r = 0) → (∀ σ' z, resP all K N (cnt K N (mostOf K N) left r) (fstR K N (mostOf K N) left r) σ σ' z → trialM σ' K r → Fr [2, 3, 4, 5, 6, 17] σ σ' → Q (some (.int (iZ z))) (rho ca cb tr) σ') → Mt M_X5_climb d n n [.ref 6, .int (iZ left)] (rho ca cb tr) σ Q := by
  intro left
  induction left with
  | zero => intro d Q σ r h1; omega
  | succ k ih =>
    intro d Q σ r h1 h24 hd ht hs hr hrl hi hNr hmin hQ
    have hk3 := ht.2.1
    have hb1 : ∀ x ∈ r, 1 ≤ x := fun x hx => (ht.1.2.1 x hx).1
    have hi1 : K ≠ 2 → incR r := fun h => (hi h).1
    have thi := fun v => tC_hi (K := K) (N := N) (k := k) (v := v) (r := r) hi1
    have tlo := fun v => tC_lo (K := K) (N := N) (k := k) (v := v) (r := r) hi1
    have hmN : N ≤ mostOf K N ∧ mostOf K N ≤ 160 ∧ hiB K N r ≤ mostOf K N ∧ (K ≠ 2 → mostOf K N = N) := by
      unfold mostOf hiB
      by_cases h2 : K = 2
      · have := hN2 h2
        rw [if_pos h2, if_pos h2]
        exact ⟨by omega, by omega, by omega, fun h => absurd h2 h⟩
      · rw [if_neg h2, if_neg h2]
        exact ⟨by omega, by omega, by omega, fun _ => rfl⟩
    obtain ⟨most, hmo⟩ : ∃ m, m = mostOf K N := ⟨_, rfl⟩
    rw [← hmo] at hmin hQ hmN ih
    rw [← hmo] at thi tlo
    have hlow : lowB K r ≤ N := by
      unfold lowB
      split
      · omega
      · rename_i h; exact (hi h).2
    refine Mt.of rfl (by decide +kernel) tk_X5_climb (Nat.le_of_ble_eq_true rfl) ?_
    refine V.run 0 54 rfl hn trivial ?_
    refine V.brF rfl (fun c => by have := (iZ_lt (by omega) (by omega)).mp c; omega) ?_
    refine V.run 0 54 rfl hn trivial ?_
    refine V.brT rfl ((iZ_le (by omega) (by omega)).mpr (by omega)) ?_
    refine V.run 0 54 rfl hn trivial ?_
    by_cases hk0 : k = 0
    · subst hk0
      have h1 := cnt_one (K := K) (N := N) (most := most) (r := r) ⟨by omega, hmN.1⟩
      refine V.brT rfl rfl ?_
      refine V.run 0 54 rfl hn trivial ?_
      try simp only [rc_1_0, rc_1_1, rc_1_2, rc_1_3, rc_1_4, rc_1_5, rc_2_0, rc_2_1, rc_2_2, rc_6_0, rc_6_1, rc_6_2, rc_6_3, rc_7_0, rc_7_1, rc_7_2, rc_7_3, rc_12_0, rc_12_1, rc_12_2, rc_12_3, rc_18_0, rc_18_1, rc_20_0, rc_20_1, rc_22_0, rc_23_0, rc_25_0, rc_27_0, rc_27_1, rc_27_2, rc_31_0, rc_31_1, rc_31_2, rc_55_0, rc_55_1, rc_55_2, rc_1_6, rc_1_7, rc_23_2, fi_0_1, fi_0_2, fi_0_3, fi_1_3, fi_1_4, fi_1_5, fi_1_6, fi_1_7, fi_2_2, fi_3_3, fi_3_4, fi_3_5, fi_4_1, fi_5_4, fi_5_5, fi_5_6, fi_5_7, fi_5_8, fi_5_9, fi_6_1, fi_7_3, fi_7_4]
      rw [hs.2.1]
      refine V.cv (lo := 54) (d' := d - 1) rfl rfl ok_X7_comes lk_5_X7_comes rfl rfl rfl hn (by omega) (Nat.le_refl _) (Nat.le_refl _) ((c_comes hn (by omega) (by omega) ht (fun q => ?_) (fun q => ?_)))
      · have hc := (cm_cand hr hb1 hi1 hlow hmN.1).mp q
        rw [if_pos hc, if_pos hc] at h1
        refine V.brF rfl (by decide) ?_
        refine V.run 0 54 rfl hn trivial ?_
        refine V.cv (lo := 54) (d' := d - 1) rfl rfl ok_X5_keep lk_5_X5_keep rfl rfl rfl hn (by omega) (Nat.le_refl _) (Nat.le_refl _) ((c_keep hn (by omega) (nu := 0) (by omega) (by omega) ht hs (fun ha => ?_) (fun ha σ' hf hfr h6 => ?_)))
        · refine V.run 0 54 rfl hn trivial ?_
          refine V.ret (v := some (.int (iZ 1))) rfl rfl rfl rfl (hQ σ 1 (Or.inl ⟨ha, by rw [h1.1]; rfl, rfl, rfl⟩) ht Fr.rf)
        · refine V.run 0 54 rfl hn trivial ?_
          rw [if_pos rfl, List.append_nil] at hf
          refine V.ret (v := some (.int (iZ 1))) rfl rfl rfl rfl (hQ σ' 1 (Or.inr (Or.inr ⟨ha, r ++ [N], h1.2, rfl, hf, h6⟩)) (ht.fr hfr (by decide) (by decide) (by decide) (by decide)) (hfr.mono (by simp)))
      · have hc : ¬ candB K most r N = true := fun h => q ((cm_cand hr hb1 hi1 hlow hmN.1).mpr h)
        rw [if_neg hc, if_neg hc] at h1
        refine V.brT rfl rfl ?_
        refine V.run 0 54 rfl hn trivial ?_
        refine V.ret (v := some (.int (iZ 0))) rfl rfl rfl rfl (hQ σ 0 ?_ ht Fr.rf)
        rw [h1.1, h1.2]
        exact resP.nil
    · refine V.brF rfl (fun c => by have := (iZ_eq (by omega) (by omega)).mp c; omega) ?_
      refine V.run 0 54 rfl hn trivial ?_
      rw [iZ_sub, show ((k + 1 : Nat) : Int) - 1 = (k : Int) by omega]
      refine V.cv (lo := 54) (d' := d - 1) rfl rfl ok_X5_lowest lk_5_X5_lowest rfl rfl rfl hn (by omega) (Nat.le_refl _) (Nat.le_refl _) ((c_lowest hn (by omega) (by omega) (by omega) ht hs ?_))
      refine V.run 0 54 rfl hn trivial ?_
      refine V.cv (lo := 54) (d' := d - 1) rfl rfl ok_X5_highest lk_5_X5_highest rfl rfl rfl hn (by omega) (Nat.le_refl _) (Nat.le_refl _) ((c_highest hn (by omega) (by omega) ht hs ?_))
      refine V.run 58 54 rfl hn trivial ?_
      have hlo1 := (loB_pos (K := K) (N := N) (r := r) (s := (k : Int)))
      have hloB : loB K N r k ≤ 100000 := by
        have h1 := ltR_le (g := N) (s := (k : Int)) (by omega)
        have h2 := last_le ht
        unfold loB
        split <;> omega
      -- the end of the loop
      have ex : ∀ (u : Nat) (σ1 : Mem) (z : Int), u ≤ most → (u < loB K N r k ∨ (z = 1 ∧ all = false)) → resP all K N (cS K N most k r (dl most (most - u))) (fS K N most k r (dl most (most - u))) σ σ1 z → trialM σ1 K r → Fr [2, 3, 4, 5, 6, 17] σ σ1 → V M_X5_climb d n n none Q n (rho ca cb tr) σ1 162 [some (.ref 6), some (.int (iZ ((k + 1 : Nat)))), some (.int (iZ (z))), some (.int (iZ ((loB K N r k)))), some (.int (iZ (u)))] [] := by
        intro u σ1 z hu hend hres ht1 hfr
        refine V.run 0 54 rfl hn trivial ?_
        refine V.ret (v := some (.int (iZ z))) rfl rfl rfl rfl (hQ σ1 z ?_ ht1 hfr)
        obtain ⟨rest, e1, e2⟩ := dl_split hu
        rw [cnt_cS, fst_fS, e1, cS_app, fS_app]
        rcases hend with hend | ⟨hz, ha⟩
        · have z0 := cS_zero (K := K) (N := N) (most := most) (k := k) (r := r) (l := rest) (fun v hv => tlo v (by omega) (e2 v hv).1 (by have := e2 v hv; omega))
          rw [z0.1, z0.2, Nat.add_zero, Option.or_none]
          exact hres
        · rcases hres with ⟨b1, -⟩ | ⟨-, -, b1, -⟩ | ⟨b0, row, b1, b2, b3, b4⟩
          · rw [ha] at b1; cases b1
          · omega
          · exact Or.inr (Or.inr ⟨b0, row, by rw [b1]; rfl, b2, b3, b4⟩)
      have loop : ∀ (u : Nat) (σ1 : Mem) (z : Int), u ≤ most → resP all K N (cS K N most k r (dl most (most - u))) (fS K N most k r (dl most (most - u))) σ σ1 z → trialM σ1 K r → Fr [2, 3, 4, 5, 6, 17] σ σ1 → V M_X5_climb d n n none Q n (rho ca cb tr) σ1 58 [some (.ref 6), some (.int (iZ ((k + 1 : Nat)))), some (.int (iZ (z))), some (.int (iZ ((loB K N r k)))), some (.int (iZ (u)))] [] := by
        intro u
        induction u with
        | zero =>
          intro σ1 z hu hres ht1 hfr
          refine V.run 0 54 rfl hn trivial ?_
          refine V.brT rfl ((iZ_lt (by omega) (by omega)).mpr (by omega)) ?_
          exact ex 0 σ1 z hu (Or.inl (by omega)) hres ht1 hfr
        | succ u ihu =>
          intro σ1 z hu hres ht1 hfr
          have hs1 := hres.sh hs
          have ed : dl most (most - u) = dl most (most - (u + 1)) ++ [u + 1] := by
            rw [show most - u = most - (u + 1) + 1 by omega, dl_succ, show most - (most - (u + 1)) = u + 1 by omega]
          have k156 : ∀ (σ2 : Mem) (z2 : Int), resP all K N (cS K N most k r (dl most (most - (u + 1))) + tC K N most k r (u + 1)) ((fS K N most k r (dl most (most - (u + 1)))).or (tF K N most k r (u + 1))) σ σ2 z2 → trialM σ2 K r → Fr [2, 3, 4, 5, 6, 17] σ σ2 → V M_X5_climb d n n none Q n (rho ca cb tr) σ2 156 [some (.ref 6), some (.int (iZ ((k + 1 : Nat)))), some (.int (iZ (z2))), some (.int (iZ ((loB K N r k)))), some (.int (iZ ((u + 1 : Nat))))] [] := by
            intro σ2 z2 g1 g2 g3
            rw [← cS_one, ← fS_one, ← cS_app, ← fS_app, ← ed] at g1
            refine V.run 0 54 rfl hn trivial ?_
            have := ihu σ2 z2 (by omega) g1 g2 g3
            rw [show (u : Int) = ((u + 1 : Nat) : Int) + (-1) by omega, ← iZ_add] at this
            exact this
          refine V.run 0 54 rfl hn trivial ?_
          refine V.br rfl (fun (c : iZ (u + 1 : Nat) < iZ (loB K N r k)) => ?_) (fun (c : ¬ (iZ (u + 1 : Nat) < iZ (loB K N r k))) => ?_)
          · rw [iZ_lt (by omega) (by omega)] at c
            exact ex (u + 1) σ1 z hu (Or.inl (by omega)) hres ht1 hfr
          · rw [iZ_lt (by omega) (by omega)] at c
            have go75 : (all = true ∨ z = 0) → V M_X5_climb d n n none Q n (rho ca cb tr) σ1 75 [some (.ref 6), some (.int (iZ ((k + 1 : Nat)))), some (.int (iZ (z))), some (.int (iZ ((loB K N r k)))), some (.int (iZ ((u + 1 : Nat))))] [] := by
              intro hz
              have skip : tC K N most k r (u + 1) = 0 → V M_X5_climb d n n none Q n (rho ca cb tr) σ1 156 [some (.ref 6), some (.int (iZ ((k + 1 : Nat)))), some (.int (iZ (z))), some (.int (iZ ((loB K N r k)))), some (.int (iZ ((u + 1 : Nat))))] [] := by
                intro h0
                refine k156 σ1 z ?_ ht1 hfr
                rw [h0, tC_tF.mp h0, Nat.add_zero, Option.or_none]
                exact hres
              refine V.run 0 54 rfl hn trivial ?_
              try simp only [rc_1_0, rc_1_1, rc_1_2, rc_1_3, rc_1_4, rc_1_5, rc_2_0, rc_2_1, rc_2_2, rc_6_0, rc_6_1, rc_6_2, rc_6_3, rc_7_0, rc_7_1, rc_7_2, rc_7_3, rc_12_0, rc_12_1, rc_12_2, rc_12_3, rc_18_0, rc_18_1, rc_20_0, rc_20_1, rc_22_0, rc_23_0, rc_25_0, rc_27_0, rc_27_1, rc_27_2, rc_31_0, rc_31_1, rc_31_2, rc_55_0, rc_55_1, rc_55_2, rc_1_6, rc_1_7, rc_23_2, fi_0_1, fi_0_2, fi_0_3, fi_1_3, fi_1_4, fi_1_5, fi_1_6, fi_1_7, fi_2_2, fi_3_3, fi_3_4, fi_3_5, fi_4_1, fi_5_4, fi_5_5, fi_5_6, fi_5_7, fi_5_8, fi_5_9, fi_6_1, fi_7_3, fi_7_4]
              refine V.cv (lo := 54) (d' := d - 1) rfl rfl ok_X7_comes lk_5_X7_comes rfl rfl rfl hn (by omega) (Nat.le_refl _) (Nat.le_refl _) ((c_comes hn (by omega) (by omega) ht1 (fun q => ?_) (fun q => ?_)))
              · have hc := (cm_cand (most := most) hr hb1 hi1 (by omega) (by omega)).mp q
                have hcs := candB_spec hc
                have hmin2 : ∀ j, j < k → cnt K N most j (r ++ [u + 1]) = 0 := fun j hj => by
                  have h := hmin (j + 1) (by omega)
                  exact sum_zero.mp h (u + 1) (mem_candL.mpr hc)
                have hvN : u + 1 ≠ N := fun e => by
                  have h := hmin2 0 (by omega)
                  unfold cnt at h
                  rw [lastD_app, if_pos e] at h
                  cases h
                have hlv : K ≠ 2 → lastD r < u + 1 := fun h => by
                  have := hcs.1
                  unfold lowB at this
                  rw [if_neg h] at this
                  exact this
                have hvN2 : K ≠ 2 → u + 1 < N := fun h => by
                  have := hmN.2.2.2 h
                  omega
                have hNr2 : N ∉ r ++ [u + 1] := fun h => by
                  rcases List.mem_append.mp h with h | h
                  · exact hNr h
                  · rw [List.mem_singleton] at h; exact hvN h.symm
                have etC : tC K N most k r (u + 1) = cnt K N most k (r ++ [u + 1]) := by unfold tC; rw [if_pos hc]
                have etF : tF K N most k r (u + 1) = fstR K N most k (r ++ [u + 1]) := by unfold tF; rw [if_pos hc]
                refine V.brF rfl (by decide) ?_
                refine V.run 0 54 rfl hn trivial ?_
                by_cases hk1 : k = 1
                · subst hk1
                  refine V.brT rfl rfl ?_
                  have hno : candB K most r N = false := by
                    have h := hmin 1 (by omega)
                    rw [(cnt_one (K := K) (N := N) (most := most) (r := r) ⟨by omega, hmN.1⟩).1] at h
                    cases hcc : candB K most r N with
                    | false => rfl
                    | true => rw [hcc, if_pos rfl] at h; cases h
                  have hle := le_cand (kind := K) (most := most) (v := u + 1) (N := N) hr hb1 hi1 hlv (by omega) hcs.2.2.2 ⟨by omega, hmN.1⟩ (fun e => hvN e.symm) hvN2 hNr hno
                  have h1 := cnt_one (K := K) (N := N) (most := most) (r := r ++ [u + 1]) ⟨by omega, hmN.1⟩
                  refine V.run 0 54 rfl hn trivial ?_
                  try simp only [rc_1_0, rc_1_1, rc_1_2, rc_1_3, rc_1_4, rc_1_5, rc_2_0, rc_2_1, rc_2_2, rc_6_0, rc_6_1, rc_6_2, rc_6_3, rc_7_0, rc_7_1, rc_7_2, rc_7_3, rc_12_0, rc_12_1, rc_12_2, rc_12_3, rc_18_0, rc_18_1, rc_20_0, rc_20_1, rc_22_0, rc_23_0, rc_25_0, rc_27_0, rc_27_1, rc_27_2, rc_31_0, rc_31_1, rc_31_2, rc_55_0, rc_55_1, rc_55_2, rc_1_6, rc_1_7, rc_23_2, fi_0_1, fi_0_2, fi_0_3, fi_1_3, fi_1_4, fi_1_5, fi_1_6, fi_1_7, fi_2_2, fi_3_3, fi_3_4, fi_3_5, fi_4_1, fi_5_4, fi_5_5, fi_5_6, fi_5_7, fi_5_8, fi_5_9, fi_6_1, fi_7_3, fi_7_4]
                  rw [hs1.2.1]
                  refine V.cv (lo := 54) (d' := d - 1) rfl rfl ok_X7_leadsOn lk_5_X7_leadsOn rfl rfl rfl hn (by omega) (Nat.le_refl _) (Nat.le_refl _) ((c_leadsOn hn (by omega) (by omega) (by omega) ht1 (fun q2 => ?_) (fun q2 => ?_)))
                  · rw [if_pos (hle.mp q2), if_pos (hle.mp q2)] at h1
                    refine V.brF rfl (by decide) ?_
                    refine V.run 0 54 rfl hn trivial ?_
                    refine V.cv (lo := 54) (d' := d - 1) rfl rfl ok_X5_keep lk_5_X5_keep rfl rfl rfl hn (by omega) (Nat.le_refl _) (Nat.le_refl _) ((c_keep hn (by omega) (nu := u + 1) (by omega) (by omega) ht1 hs1 (fun ha => ?_) (fun ha σ' hf hfr2 h6 => ?_)))
                    · refine V.run 0 54 rfl hn trivial ?_
                      refine V.run 0 54 rfl hn trivial ?_
                      rw [iZ_add]
                      refine k156 σ1 (z + 1) (hres.step hz (Or.inl ⟨ha, ?_, rfl, rfl⟩)) ht1 hfr
                      rw [etC, h1.1]
                      rfl
                    · refine V.run 0 54 rfl hn trivial ?_
                      refine V.run 0 54 rfl hn trivial ?_
                      rw [iZ_add]
                      rw [if_neg (by omega)] at hf
                      refine k156 σ' (z + 1) (hres.step hz (Or.inr (Or.inr ⟨ha, r ++ [u + 1] ++ [N], ?_, rfl, hf, h6⟩))) (ht1.fr hfr2 (by decide) (by decide) (by decide) (by decide)) (hfr.tr (hfr2.mono (by simp)))
                      rw [etF, h1.2]
                  · rw [if_neg (fun h => q2 (hle.mpr h)), if_neg (fun h => q2 (hle.mpr h))] at h1
                    refine V.brT rfl rfl ?_
                    refine V.run 0 54 rfl hn trivial ?_
                    rw [iZ_add, Int.add_zero]
                    exact skip (by rw [etC, h1.1])
                · refine V.brF rfl (fun c => by have := (iZ_eq (by omega) (by omega)).mp c; omega) ?_
                  refine V.run 0 54 rfl hn trivial ?_
                  try simp only [rc_1_0, rc_1_1, rc_1_2, rc_1_3, rc_1_4, rc_1_5, rc_2_0, rc_2_1, rc_2_2, rc_6_0, rc_6_1, rc_6_2, rc_6_3, rc_7_0, rc_7_1, rc_7_2, rc_7_3, rc_12_0, rc_12_1, rc_12_2, rc_12_3, rc_18_0, rc_18_1, rc_20_0, rc_20_1, rc_22_0, rc_23_0, rc_25_0, rc_27_0, rc_27_1, rc_27_2, rc_31_0, rc_31_1, rc_31_2, rc_55_0, rc_55_1, rc_55_2, rc_1_6, rc_1_7, rc_23_2, fi_0_1, fi_0_2, fi_0_3, fi_1_3, fi_1_4, fi_1_5, fi_1_6, fi_1_7, fi_2_2, fi_3_3, fi_3_4, fi_3_5, fi_4_1, fi_5_4, fi_5_5, fi_5_6, fi_5_7, fi_5_8, fi_5_9, fi_6_1, fi_7_3, fi_7_4]
                  refine V.cv (lo := 54) (d' := d - 1) rfl rfl ok_X7_put lk_5_X7_put rfl rfl rfl hn (by omega) (Nat.le_refl _) (Nat.le_refl _) ((c_put hn (by omega) (by omega) (by omega) hcs.2.2.2 ht1 (fun σ2 ht2 hf2 => ?_)))
                  have hs2 : shM σ2 K N all := by unfold shM; rw [hf2 6 (by decide)]; exact hs1
                  refine V.brF rfl (by decide) ?_
                  refine V.run 0 54 rfl hn trivial ?_
                  rw [iZ_sub, show ((k + 1 : Nat) : Int) - 1 = (k : Int) by omega]
                  refine V.cv (lo := 54) (d' := d - 1) rfl rfl ok_X5_climb lk_5_X5_climb rfl rfl rfl hn (by omega) (Nat.le_refl _) (Nat.le_refl _) ((ih (d - 1) _ σ2 (r ++ [u + 1]) (by omega) (by omega) (by omega) ht2 hs2 (by simp) (by simp; omega) (fun h => ⟨incR_app (hi1 h) (hlv h), by rw [lastD_app]; exact hvN2 h⟩) hNr2 hmin2 (fun σ3 z3 hres3 ht3 hfr3 => ?_)))
                  refine V.run 0 54 rfl hn trivial ?_
                  try simp only [rc_1_0, rc_1_1, rc_1_2, rc_1_3, rc_1_4, rc_1_5, rc_2_0, rc_2_1, rc_2_2, rc_6_0, rc_6_1, rc_6_2, rc_6_3, rc_7_0, rc_7_1, rc_7_2, rc_7_3, rc_12_0, rc_12_1, rc_12_2, rc_12_3, rc_18_0, rc_18_1, rc_20_0, rc_20_1, rc_22_0, rc_23_0, rc_25_0, rc_27_0, rc_27_1, rc_27_2, rc_31_0, rc_31_1, rc_31_2, rc_55_0, rc_55_1, rc_55_2, rc_1_6, rc_1_7, rc_23_2, fi_0_1, fi_0_2, fi_0_3, fi_1_3, fi_1_4, fi_1_5, fi_1_6, fi_1_7, fi_2_2, fi_3_3, fi_3_4, fi_3_5, fi_4_1, fi_5_4, fi_5_5, fi_5_6, fi_5_7, fi_5_8, fi_5_9, fi_6_1, fi_7_3, fi_7_4]
                  rw [iZ_add]
                  refine V.cv (lo := 54) (d' := d - 1) rfl rfl ok_X7_takeBack lk_5_X7_takeBack rfl rfl rfl hn (by omega) (Nat.le_refl _) (Nat.le_refl _) ((c_takeBack hn (by omega) ht3 (fun σ4 ht4 hf4 => ?_)))
                  refine k156 σ4 (z + z3) ?_ ht4 (hfr.tr ((hf2.mono (by simp)).tr (hfr3.tr (hf4.mono (by simp)))))
                  rw [etC, etF]
                  exact hres.step hz (hres3.fr (hf2 6 (by decide)).symm (hf2 17 (by decide)).symm (hf4 6 (by decide)) (hf4 17 (by decide)))
              · refine V.brT rfl rfl ?_
                refine V.run 0 54 rfl hn trivial ?_
                refine skip ?_
                unfold tC
                rw [if_neg (fun h => q ((cm_cand (most := most) hr hb1 hi1 (by omega) (by omega)).mpr h))]
            refine V.run 0 54 rfl hn trivial ?_
            try simp only [rc_1_0, rc_1_1, rc_1_2, rc_1_3, rc_1_4, rc_1_5, rc_2_0, rc_2_1, rc_2_2, rc_6_0, rc_6_1, rc_6_2, rc_6_3, rc_7_0, rc_7_1, rc_7_2, rc_7_3, rc_12_0, rc_12_1, rc_12_2, rc_12_3, rc_18_0, rc_18_1, rc_20_0, rc_20_1, rc_22_0, rc_23_0, rc_25_0, rc_27_0, rc_27_1, rc_27_2, rc_31_0, rc_31_1, rc_31_2, rc_55_0, rc_55_1, rc_55_2, rc_1_6, rc_1_7, rc_23_2, fi_0_1, fi_0_2, fi_0_3, fi_1_3, fi_1_4, fi_1_5, fi_1_6, fi_1_7, fi_2_2, fi_3_3, fi_3_4, fi_3_5, fi_4_1, fi_5_4, fi_5_5, fi_5_6, fi_5_7, fi_5_8, fi_5_9, fi_6_1, fi_7_3, fi_7_4]
            rw [hs1.2.2]
            cases hall : all with
            | true =>
              rw [hall] at go75
              refine V.brF rfl (by decide) ?_
              exact go75 (Or.inl rfl)
            | false =>
              rw [hall] at go75 hres ex
              refine V.brT rfl rfl ?_
              refine V.run 0 54 rfl hn trivial ?_
              rcases hres with ⟨b1, -⟩ | ⟨-, -, b1, -⟩ | ⟨b0, row, b1, b2, b3, b4⟩
              · cases b1
              · rw [b1] at go75 ⊢
                refine V.brT rfl rfl ?_
                exact go75 (Or.inr rfl)
              · rw [b2]
                refine V.brF rfl (by decide) ?_
                exact ex (u + 1) σ1 1 hu (Or.inr ⟨rfl, rfl⟩) (Or.inr (Or.inr ⟨rfl, row, b1, rfl, b3, b4⟩)) ht1 hfr
      have z0 := cS_zero (K := K) (N := N) (most := most) (k := k) (r := r) (l := dl most (most - hiB K N r)) (fun v hv => by
        have := dl_mem hv (by omega)
        exact thi v (by omega) (by omega) (by omega))
      exact loop (hiB K N r) σ 0 hmN.2.2.1 (by rw [z0.1, z0.2]; exact resP.nil) ht Fr.rf
end CS3
