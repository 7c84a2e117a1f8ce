/-! ===== the class: the tree is grown ===== -/

theorem treeR0 (ca cb : Nat) : upR (nwR (upR (nwR (upR (nwR (nwR (rho ca cb 0) 55) 56) 55 0 56) 57) 55 1 57) 58) 55 2 58 = rho ca cb 0 := by
  funext k j
  by_cases h55 : k = 55
  · subst h55
    rw [upR_eq]
    show (if j = 2 then 58 else nwR _ 58 55 j) = _
    rw [nwR_ne (by decide), upR_eq]
    show (if j = 2 then 58 else if j = 1 then 57 else nwR _ 57 55 j) = _
    rw [nwR_ne (by decide), upR_eq]
    show (if j = 2 then 58 else if j = 1 then 57 else if j = 0 then 56 else nwR _ 56 55 j) = _
    rw [nwR_ne (by decide), nwR_eq]
    match j with
    | 0 => rfl
    | 1 => rfl
    | 2 => rfl
    | j + 3 =>
      rw [if_neg (by omega), if_neg (by omega), if_neg (by omega)]
      rfl
  · rw [upR_ne h55]
    by_cases h58 : k = 58
    · subst h58
      rw [nwR_eq]
      rfl
    · rw [nwR_ne h58, upR_ne h55]
      by_cases h57 : k = 57
      · subst h57
        rw [nwR_eq]
        rfl
      · rw [nwR_ne h57, upR_ne h55]
        by_cases h56 : k = 56
        · subst h56
          rw [nwR_eq]
          rfl
        · rw [nwR_ne h56, nwR_ne h55]
theorem treeR1 (ca cb : Nat) : upR (rho ca cb 0) 23 2 55 = rho ca cb 55 := by
  funext k j
  by_cases h : k = 23
  · subst h
    rw [upR_eq]
    match j with
    | 0 => rfl
    | 1 => rfl
    | 2 => rfl
    | j + 3 =>
      show (if j + 3 = 2 then 55 else rho ca cb 0 23 (j + 3)) = _
      rw [if_neg (by omega)]
      rfl
  · rw [upR_ne h]
    have e : ∀ k, k < 59 → k ≠ 23 → rho ca cb 0 k = rho ca cb 55 k := by
      intro k hk h23
      rcases Nat.lt_or_ge k 23 with q | q
      · match k, q with
        | 0, _ => rfl
        | 1, _ => rfl
        | 2, _ => rfl
        | 3, _ => rfl
        | 4, _ => rfl
        | 5, _ => rfl
        | 6, _ => rfl
        | 7, _ => rfl
        | 8, _ => rfl
        | 9, _ => rfl
        | 10, _ => rfl
        | 11, _ => rfl
        | 12, _ => rfl
        | 13, _ => rfl
        | 14, _ => rfl
        | 15, _ => rfl
        | 16, _ => rfl
        | 17, _ => rfl
        | 18, _ => rfl
        | 19, _ => rfl
        | 20, _ => rfl
        | 21, _ => rfl
        | 22, _ => rfl
        | k + 23, q => exact absurd q (by omega)
      · obtain ⟨i, rfl⟩ : ∃ i, k = i + 24 := ⟨k - 24, by omega⟩
        rfl
    rcases Nat.lt_or_ge k 59 with q | q
    · rw [e k q h]
    · obtain ⟨i, rfl⟩ : ∃ i, k = i + 24 := ⟨k - 24, by omega⟩
      rfl
theorem stayC {r : Nat} (h : (trS mC r).2 = (trC r).length) : ∀ s, trC (r + s) = trC r ∧ (trS mC (r + s)).2 = (trC r).length
  | 0 => ⟨rfl, h⟩
  | s + 1 => by
    obtain ⟨h1, h2⟩ := stayC h s
    have e : trC (r + (s + 1)) = rowP (mC (r + s)) (trC (r + s)) ((trC (r + s)).drop (trS mC (r + s)).2) := rfl
    have e2 : (trS mC (r + (s + 1))).2 = (trC (r + s)).length := rfl
    rw [e, e2, h1, h2, List.drop_length]
    exact ⟨rfl, rfl⟩
theorem has1000 {r : Nat} : (r < 12 → hasH (trC r) 1000 = false) ∧ (12 ≤ r → hasH (trC r) 1000 = true) := by
  constructor
  · intro h
    cases hc : hasH (trC r) 1000 with
    | false => rfl
    | true =>
      obtain ⟨p, hp, e⟩ := hasH_t hc
      exact absurd e (hasH_f tF_c11 ((trS_pre mC (show r ≤ 11 by omega)).subset hp))
  · intro h
    obtain ⟨p, hp, e⟩ := hasH_t tF_c12
    exact hasH_of ((trS_pre mC h).subset hp) e
section CP2
variable {d ca cb : Nat} {Q : PQ} {σ : Mem}
theorem c_treeInit (hd : 3 ≤ d) (hQ : ∀ σ', ptM σ' → Fr [55, 56, 57, 58] σ σ' → Q none (rho ca cb 0) σ') : Mt M_X3_init d 55 58 [.ref 55] (nwR (rho ca cb 0) 55) σ Q := by
  have hn : 58 ≤ 58 := Nat.le_refl 58
  have mc14 : ∀ r, r ≤ 14 → trC r <+: trC 14 := fun r hr => trS_pre mC hr
  refine Mt.of rfl (by decide +kernel) tk_X3_init (Nat.le_of_ble_eq_true rfl) ?_
  refine V.run 0 55 rfl (Nat.le_refl 55) trivial ?_
  refine V.obj rfl rfl w_ob_3 w_oi w_oc rfl (by omega) ?_
  refine V.run 0 55 rfl (Nat.le_refl 55) trivial ?_
  refine V.newa 1 rfl rfl (by decide) (fun _ => rfl) rfl (fun _ _ h => h) w_ac_int (by decide) (by decide) (by decide) (by decide) ?_
  refine V.putRF (lo := 55) (t := 56) rfl rfl rfl rfl rfl rfl rfl rfl (by decide) (by decide) ?_
  refine V.run 0 55 rfl (by decide) trivial ?_
  refine V.newa 1 rfl rfl (by decide) (fun _ => rfl) rfl (fun _ _ h => h) w_ac_int (by decide) (by decide) (by decide) (by decide) ?_
  refine V.putRF (lo := 55) (t := 57) rfl rfl rfl rfl rfl rfl rfl rfl (by decide) (by decide) ?_
  refine V.run 0 55 rfl (by decide) trivial ?_
  refine V.newa 1 rfl rfl (by decide) (fun _ => rfl) rfl (fun _ _ h => h) w_ac_int (by decide) (by decide) (by decide) (by decide) ?_
  refine V.putRF (lo := 55) (t := 58) rfl rfl rfl rfl rfl rfl rfl rfl (by decide) (by decide) ?_
  refine V.cast (treeR0 ca cb) ?_
  refine V.run 61 58 rfl hn ⟨in_N (k := 0) (n := 1280) (by omega) (by decide), trivial⟩ ?_
  have main : ∀ (j r : Nat) (σ1 : Mem) (x3 x4 x5 : Option Value), r + j = 14 → trK σ1 (trC r) → σ1 55 4 = iZ (if r < 12 then 0 else 970) → Fr [55, 56, 57, 58] σ σ1 → V M_X3_init d 55 58 none Q 58 (rho ca cb 0) σ1 61 [some (.ref 55), some (.int (iZ (((trS mC r).2 : Nat)))), some (.int (iZ (r))), x3, x4, x5] [] := by
    intro j
    induction j with
    | zero =>
      intro r σ1 x3 x4 x5 hr hI h4 hf
      have e : r = 14 := by omega
      subst e
      have hl14 := tF_clen
      have e2 : ∀ r, (trS mC (r + 1)).2 = (trC r).length := fun r => rfl
      have h2 : (trS mC 14).2 = (trC 13).length := e2 13
      rw [h2, ← tF_cend]
      refine V.run 0 58 rfl hn trivial ?_
      refine V.brF rfl (by decide) ?_
      refine V.run 0 58 rfl hn trivial ?_
      try simp only [rc_1_0, rc_1_1, rc_1_2, rc_1_3, rc_1_4, rc_1_5, rc_2_0, rc_2_1, rc_2_2, rc_6_0, rc_6_1, rc_6_2, rc_6_3, rc_7_0, rc_7_1, rc_7_2, rc_7_3, rc_12_0, rc_12_1, rc_12_2, rc_12_3, rc_18_0, rc_18_1, rc_20_0, rc_20_1, rc_22_0, rc_23_0, rc_25_0, rc_27_0, rc_27_1, rc_27_2, rc_31_0, rc_31_1, rc_31_2, rc_55_0, rc_55_1, rc_55_2, rc_1_6, rc_1_7, rc_23_2, fi_0_1, fi_0_2, fi_0_3, fi_1_3, fi_1_4, fi_1_5, fi_1_6, fi_1_7, fi_2_2, fi_3_3, fi_3_4, fi_3_5, fi_4_1, fi_5_4, fi_5_5, fi_5_6, fi_5_7, fi_5_8, fi_5_9, fi_6_1, fi_7_3, fi_7_4]
      rw [hI.1]
      refine V.brT rfl (Int32.le_refl _) ?_
      refine V.ret (v := none) rfl rfl rfl rfl (hQ σ1 ⟨hI, h4⟩ hf)
    | succ j ihm =>
      intro r σ1 x3 x4 x5 hr hI h4 hf
      have hpr := mc14 r (by omega)
      have hpr1 := mc14 (r + 1) (by omega)
      have hl14 := tF_clen
      have hrl := hpr.length_le
      have hrl1 := hpr1.length_le
      have hfr : (trS mC r).2 ≤ (trC r).length := trS_fr mC r
      have hbd : ∀ p ∈ trC r, p.headD 0 ≤ 4096 := fun p hp => (tF_cbd p (hpr.subset hp)).2
      refine V.run 0 58 rfl hn trivial ?_
      refine V.brF rfl (fun q => by have := (iZ_le (by omega) (by omega)).mp q; omega) ?_
      refine V.run 0 58 rfl hn trivial ?_
      try simp only [rc_1_0, rc_1_1, rc_1_2, rc_1_3, rc_1_4, rc_1_5, rc_2_0, rc_2_1, rc_2_2, rc_6_0, rc_6_1, rc_6_2, rc_6_3, rc_7_0, rc_7_1, rc_7_2, rc_7_3, rc_12_0, rc_12_1, rc_12_2, rc_12_3, rc_18_0, rc_18_1, rc_20_0, rc_20_1, rc_22_0, rc_23_0, rc_25_0, rc_27_0, rc_27_1, rc_27_2, rc_31_0, rc_31_1, rc_31_2, rc_55_0, rc_55_1, rc_55_2, rc_1_6, rc_1_7, rc_23_2, fi_0_1, fi_0_2, fi_0_3, fi_1_3, fi_1_4, fi_1_5, fi_1_6, fi_1_7, fi_2_2, fi_3_3, fi_3_4, fi_3_5, fi_4_1, fi_5_4, fi_5_5, fi_5_6, fi_5_7, fi_5_8, fi_5_9, fi_6_1, fi_7_3, fi_7_4]
      rw [hI.1]
      refine V.br rfl (fun (c1 : iZ (trC r).length ≤ iZ ((trS mC r).2 : Nat)) => ?_) (fun (c1 : ¬ (iZ (trC r).length ≤ iZ ((trS mC r).2 : Nat))) => ?_)
      · rw [iZ_le (by omega) (by omega)] at c1
        have hst := stayC (r := r) (by omega)
        have e14 : trC 14 = trC r := by
          have := (hst (14 - r)).1
          rw [show r + (14 - r) = 14 by omega] at this
          exact this
        have hr12 : ¬ r < 12 := fun h => by
          have e12 : trC 12 = trC r := by
            have := (hst (12 - r)).1
            rw [show r + (12 - r) = 12 by omega] at this
            exact this
          have h1 := tF_c12
          rw [e12, has1000.1 h] at h1
          cases h1
        rw [if_neg hr12] at h4
        refine V.ret (v := none) rfl rfl rfl rfl (hQ σ1 ⟨by rw [e14]; exact hI, h4⟩ hf)
      · rw [iZ_le (by omega) (by omega)] at c1
        have hmC : mC r ≤ 4096 := by unfold mC; split <;> omega
        have k100 : ∀ (x4 x5 : Option Value), V M_X3_init d 55 58 none Q 58 (rho ca cb 0) σ1 100 [some (.ref 55), some (.int (iZ (((trS mC r).2 : Nat)))), some (.int (iZ (r))), some (.int (iZ (((trC r).length : Nat)))), x4, x5] [(.int (iZ ((mC r))))] := by
          intro x4 x5
          refine V.run 105 58 rfl hn trivial ?_
          have row : ∀ (c k : Nat) (P1 : List (List Nat)) (σ2 : Mem), k + c = (trC r).length → rowP (mC r) P1 ((trC r).drop k) = trC (r + 1) → trC r <+: P1 → okTr P1 → trK σ2 P1 → σ2 55 4 = σ1 55 4 → Fr [55, 56, 57, 58] σ σ2 → V M_X3_init d 55 58 none Q 58 (rho ca cb 0) σ2 105 [some (.ref 55), some (.int (iZ (((trS mC r).2 : Nat)))), some (.int (iZ (r))), some (.int (iZ (((trC r).length : Nat)))), some (.int (iZ ((mC r)))), some (.int (iZ (k)))] [] := by
            intro c
            induction c with
            | zero =>
              intro k P1 σ2 hk hrow hpre hok hI2 h42 hf2
              rw [List.drop_eq_nil_of_le (by omega)] at hrow
              have e : P1 = trC (r + 1) := hrow
              subst e
              have hbd1 : ∀ p ∈ trC (r + 1), p.headD 0 ≤ 4096 := fun p hp => (tF_cbd p (hpr1.subset hp)).2
              have nxt : ∀ (σ3 : Mem), trK σ3 (trC (r + 1)) → σ3 55 4 = iZ (if r + 1 < 12 then 0 else 970) → Fr [55, 56, 57, 58] σ σ3 → V M_X3_init d 55 58 none Q 58 (rho ca cb 0) σ3 158 [some (.ref 55), some (.int (iZ (((trC r).length : Nat)))), some (.int (iZ (r))), some (.int (iZ (((trC r).length : Nat)))), some (.int (iZ ((mC r)))), some (.int (iZ (k)))] [] := by
                intro σ3 g1 g2 g3
                refine V.run 0 58 rfl hn trivial ?_
                have := ihm (r + 1) σ3 (some (.int (iZ ((trC r).length : Nat)))) (some (.int (iZ (mC r)))) (some (.int (iZ k))) (by omega) g1 g2 g3
                rw [show ((r + 1 : Nat) : Int) = (r : Int) + 1 by omega, ← iZ_add] at this
                exact this
              refine V.run 0 58 rfl hn trivial ?_
              refine V.brT rfl ((iZ_le (by omega) (by omega)).mpr (by omega)) ?_
              refine V.run 0 58 rfl hn trivial ?_
              try simp only [rc_1_0, rc_1_1, rc_1_2, rc_1_3, rc_1_4, rc_1_5, rc_2_0, rc_2_1, rc_2_2, rc_6_0, rc_6_1, rc_6_2, rc_6_3, rc_7_0, rc_7_1, rc_7_2, rc_7_3, rc_12_0, rc_12_1, rc_12_2, rc_12_3, rc_18_0, rc_18_1, rc_20_0, rc_20_1, rc_22_0, rc_23_0, rc_25_0, rc_27_0, rc_27_1, rc_27_2, rc_31_0, rc_31_1, rc_31_2, rc_55_0, rc_55_1, rc_55_2, rc_1_6, rc_1_7, rc_23_2, fi_0_1, fi_0_2, fi_0_3, fi_1_3, fi_1_4, fi_1_5, fi_1_6, fi_1_7, fi_2_2, fi_3_3, fi_3_4, fi_3_5, fi_4_1, fi_5_4, fi_5_5, fi_5_6, fi_5_7, fi_5_8, fi_5_9, fi_6_1, fi_7_3, fi_7_4]
              rw [h42, h4]
              by_cases hr12 : r < 12
              · rw [if_pos hr12] at h4 ⊢
                refine V.brT rfl rfl ?_
                refine V.run 0 58 rfl hn ⟨in_N (k := 1000) (n := 4097) (by omega) (by decide), trivial⟩ ?_
                try simp only [rc_1_0, rc_1_1, rc_1_2, rc_1_3, rc_1_4, rc_1_5, rc_2_0, rc_2_1, rc_2_2, rc_6_0, rc_6_1, rc_6_2, rc_6_3, rc_7_0, rc_7_1, rc_7_2, rc_7_3, rc_12_0, rc_12_1, rc_12_2, rc_12_3, rc_18_0, rc_18_1, rc_20_0, rc_20_1, rc_22_0, rc_23_0, rc_25_0, rc_27_0, rc_27_1, rc_27_2, rc_31_0, rc_31_1, rc_31_2, rc_55_0, rc_55_1, rc_55_2, rc_1_6, rc_1_7, rc_23_2, fi_0_1, fi_0_2, fi_0_3, fi_1_3, fi_1_4, fi_1_5, fi_1_6, fi_1_7, fi_2_2, fi_3_3, fi_3_4, fi_3_5, fi_4_1, fi_5_4, fi_5_5, fi_5_6, fi_5_7, fi_5_8, fi_5_9, fi_6_1, fi_7_3, fi_7_4]
                rw [show ix (iZ 1000) = 1000 from ix_N (k := 1000) (by omega)]
                rcases abvC hok hI2 (show 1000 < 4097 by omega) (by omega) hbd1 with ⟨b1, -, b3⟩ | ⟨b1, b2⟩
                · refine V.brF rfl (fun q => by rw [Int32.le_iff_toInt_le] at q; rw [Int32.lt_iff_toInt_lt] at b3; omega) ?_
                  have e11 : r = 11 := by
                    rcases Nat.lt_or_ge (r + 1) 12 with q | q
                    · rw [has1000.1 q] at b1; cases b1
                    · omega
                  subst e11
                  refine V.run 158 58 rfl hn trivial ?_
                  try simp only [rc_1_0, rc_1_1, rc_1_2, rc_1_3, rc_1_4, rc_1_5, rc_2_0, rc_2_1, rc_2_2, rc_6_0, rc_6_1, rc_6_2, rc_6_3, rc_7_0, rc_7_1, rc_7_2, rc_7_3, rc_12_0, rc_12_1, rc_12_2, rc_12_3, rc_18_0, rc_18_1, rc_20_0, rc_20_1, rc_22_0, rc_23_0, rc_25_0, rc_27_0, rc_27_1, rc_27_2, rc_31_0, rc_31_1, rc_31_2, rc_55_0, rc_55_1, rc_55_2, rc_1_6, rc_1_7, rc_23_2, fi_0_1, fi_0_2, fi_0_3, fi_1_3, fi_1_4, fi_1_5, fi_1_6, fi_1_7, fi_2_2, fi_3_3, fi_3_4, fi_3_5, fi_4_1, fi_5_4, fi_5_5, fi_5_6, fi_5_7, fi_5_8, fi_5_9, fi_6_1, fi_7_3, fi_7_4]
                  rw [hI2.1]
                  refine nxt _ (trK_keep hI2 (up_nat (by decide)) (up_ne (by decide)) (up_ne (by decide))) ?_ (Fr.putT hf2 (by simp))
                  rw [up_at, if_neg (by omega)]
                  exact congrArg (fun (k : Nat) => iZ (k : Int)) tF_csz
                · rw [b2]
                  refine V.brT rfl (by decide) ?_
                  refine nxt σ2 hI2 ?_ hf2
                  have h11 : r + 1 < 12 := by
                    rcases Nat.lt_or_ge (r + 1) 12 with q | q
                    · exact q
                    · rw [has1000.2 q] at b1; cases b1
                  rw [h42, h4, if_pos h11]
              · rw [if_neg hr12] at h4 ⊢
                refine V.brF rfl (by decide) ?_
                refine nxt σ2 hI2 ?_ hf2
                rw [h42, h4, if_neg (by omega)]
            | succ c ihc =>
              intro k P1 σ2 hk hrow hpre hok hI2 h42 hf2
              have hkl : k < (trC r).length := by omega
              have hgp := getD_pre hpre hkl
              rw [drop_getD hkl] at hrow
              have hpm : (trC r).getD k [] ∈ P1 := hpre.subset (by rw [List.getD_eq_getElem?_getD, List.getElem?_eq_getElem hkl]; exact List.getElem_mem hkl)
              generalize (trC r).getD k [] = p at *
              have hrow2 : rowP (mC r) (sumsP (mC r) P1 p) ((trC r).drop (k + 1)) = trC (r + 1) := hrow
              have hS1 : sumsP (mC r) P1 p <+: trC (r + 1) := by rw [← hrow2]; exact rowP_pre _ _ _
              have hSl := hS1.length_le
              have hP1l := hpre.length_le
              have htk : σ2 57 k = iZ (p.headD 0 : Nat) := by
                rw [hI2.2.1 k (by omega), hgp]
              refine V.run 0 58 rfl hn trivial ?_
              refine V.brF rfl (fun q => by have := (iZ_le (by omega) (by omega)).mp q; omega) ?_
              refine V.run 0 58 rfl hn ⟨in_N (n := 1280) (by omega) (by decide), trivial⟩ ?_
              try simp only [rc_1_0, rc_1_1, rc_1_2, rc_1_3, rc_1_4, rc_1_5, rc_2_0, rc_2_1, rc_2_2, rc_6_0, rc_6_1, rc_6_2, rc_6_3, rc_7_0, rc_7_1, rc_7_2, rc_7_3, rc_12_0, rc_12_1, rc_12_2, rc_12_3, rc_18_0, rc_18_1, rc_20_0, rc_20_1, rc_22_0, rc_23_0, rc_25_0, rc_27_0, rc_27_1, rc_27_2, rc_31_0, rc_31_1, rc_31_2, rc_55_0, rc_55_1, rc_55_2, rc_1_6, rc_1_7, rc_23_2, fi_0_1, fi_0_2, fi_0_3, fi_1_3, fi_1_4, fi_1_5, fi_1_6, fi_1_7, fi_2_2, fi_3_3, fi_3_4, fi_3_5, fi_4_1, fi_5_4, fi_5_5, fi_5_6, fi_5_7, fi_5_8, fi_5_9, fi_6_1, fi_7_3, fi_7_4]
              rw [ix_N (by omega), htk]
              refine V.cv (lo := 58) (d' := d - 1) rfl rfl ok_X3_growBelow lk_3_X3_growBelow rfl rfl rfl hn (by omega) (Nat.le_refl _) (Nat.le_refl _) ((c_growBelow hn (by omega) hmC hok hI2 hpm (fun q hq => tF_cbd q (hpr1.subset (hS1.subset hq))) (by omega) (fun σ3 hI3 hf3 h43 => ?_)))
              refine V.run 0 58 rfl hn trivial ?_
              have := ihc (k + 1) (sumsP (mC r) P1 p) σ3 (by omega) hrow2 (hpre.trans (sumsP_pre (mC r) P1 p)) (sumsP_ok hok hpm) hI3 (h43.trans h42) (hf2.tr hf3)
              rw [show ((k + 1 : Nat) : Int) = (k : Int) + 1 by omega, ← iZ_add] at this
              exact this
          exact row ((trC r).length - (trS mC r).2) (trS mC r).2 (trC r) σ1 (by omega) rfl (List.prefix_refl _) (trS_ok mC r) hI rfl hf
        refine V.run 0 58 rfl hn ⟨in_N (k := 1000) (n := 4097) (by omega) (by decide), trivial⟩ ?_
        try simp only [rc_1_0, rc_1_1, rc_1_2, rc_1_3, rc_1_4, rc_1_5, rc_2_0, rc_2_1, rc_2_2, rc_6_0, rc_6_1, rc_6_2, rc_6_3, rc_7_0, rc_7_1, rc_7_2, rc_7_3, rc_12_0, rc_12_1, rc_12_2, rc_12_3, rc_18_0, rc_18_1, rc_20_0, rc_20_1, rc_22_0, rc_23_0, rc_25_0, rc_27_0, rc_27_1, rc_27_2, rc_31_0, rc_31_1, rc_31_2, rc_55_0, rc_55_1, rc_55_2, rc_1_6, rc_1_7, rc_23_2, fi_0_1, fi_0_2, fi_0_3, fi_1_3, fi_1_4, fi_1_5, fi_1_6, fi_1_7, fi_2_2, fi_3_3, fi_3_4, fi_3_5, fi_4_1, fi_5_4, fi_5_5, fi_5_6, fi_5_7, fi_5_8, fi_5_9, fi_6_1, fi_7_3, fi_7_4]
        rw [hI.1, show ix (iZ 1000) = 1000 from ix_N (k := 1000) (by omega)]
        rcases abvC (trS_ok mC r) hI (show 1000 < 4097 by omega) (by omega) hbd with ⟨b1, b2, -⟩ | ⟨b1, b2⟩
        · refine V.brF rfl b2 ?_
          have e : mC r = 1000 := by
            unfold mC
            rw [if_neg (fun q => Bool.noConfusion ((has1000.1 q).symm.trans b1))]
          have := k100 x4 x5
          rw [e] at this
          refine V.run 100 58 rfl hn trivial ?_
          exact this
        · refine V.brT rfl b2 ?_
          have e : mC r = 4096 := by
            unfold mC
            rw [if_pos (by
              rcases Nat.lt_or_ge r 12 with q | q
              · exact q
              · exact Bool.noConfusion ((has1000.2 q).symm.trans b1))]
          have := k100 x4 x5
          rw [e] at this
          refine V.run 0 58 rfl hn trivial ?_
          exact this
  refine main 14 0 _ none none none (by omega) ⟨?_, fun k hk => ?_, fun p hp => ?_, fun v hv hh => ?_⟩ rfl ?_
  · rfl
  · have e : k = 0 := by
      have : (trC 0).length = 1 := rfl
      omega
    subst e
    rfl
  · have e : p = [1] := List.mem_singleton.mp hp
    subst e
    rfl
  · rfl
  · intro a ha
    simp only [List.mem_cons, List.not_mem_nil, or_false, not_or] at ha
    rw [up_ne ha.1, rc_55_1, up_ne ha.2.2.1, up_ne ha.1, up_ne ha.1, up_ne ha.1, nwS_ne ha.2.2.2, nwS_ne ha.2.2.1, nwS_ne ha.2.1]
end CP2
