/-! ===== the class: a gathering's climb (two of them, written by program) ===== -/
theorem rc_prune {ws r : List Nat} {next k v i : Nat} (hi : incR r) (hv : candB 0 (ws.getD next 0) r v = true) (hk : k ≤ 23) (hnk : ws.length ≤ next + k + 1) (hni : next ≤ i) (hil : i < ws.length) (hlt : v < ltR (ws.getD i 0) ((k : Int) - ((ws.length : Int) - 1 - i))) : rc ws (if v = ws.getD next 0 then next + 1 else next) k (r ++ [v]) = false := by
  rw [ltR_lt] at hlt
  have e : shS ((k : Int) - ((ws.length : Int) - 1 - i)) = k - (ws.length - 1 - i) := by
    unfold shS
    rw [if_neg (by omega), if_pos (by omega)]
    omega
  rw [e] at hlt
  have hlo : lastD r < v := (candB_spec hv).1
  cases hrc : rc ws (if v = ws.getD next 0 then next + 1 else next) k (r ++ [v]) with
  | false => rfl
  | true =>
    have hg : ∀ x ∈ r ++ [v], x ≤ v := fun x hx => by
      rcases List.mem_append.mp hx with q | q
      · have := hi.2 x q; omega
      · rw [List.mem_singleton] at q; omega
    have hle : (if v = ws.getD next 0 then next + 1 else next) ≤ i := by
      split
      · rename_i ev
        rcases Nat.eq_or_lt_of_le hni with q | q
        · rw [← q, ← ev] at hlt
          have hp : 1 ≤ 2 ^ (k - (ws.length - 1 - next)) := Nat.pow_pos (by decide)
          have : v * 1 ≤ v * 2 ^ (k - (ws.length - 1 - next)) := Nat.mul_le_mul_left _ hp
          omega
        · omega
      · exact hni
    have := rc_low hg hrc hle hil
    omega
section CH18
variable {n ca cb tr : Nat}
theorem c_gclimb_18 (hn : 54 ≤ n) {ws : List Nat} : ∀ (left next d : Nat) (Q : PQ) (σ : Mem) (r : List Nat), left ≤ 24 → left + 5 ≤ d → next ≤ ws.length → gthM 18 σ ws → trialM σ 0 r → 0 < r.length → r.length + left ≤ 40 → incR r → (next < ws.length → lastD r < ws.getD next 0) → (rc ws next left r = true → ∀ σ', trialM σ' 0 r → Fr [2, 3, 4, 5] σ σ' → Q (some (.int 1)) (rho ca cb tr) σ') → (rc ws next left r = false → ∀ σ', trialM σ' 0 r → Fr [2, 3, 4, 5] σ σ' → Q (some (.int 0)) (rho ca cb tr) σ') → Mt M_X2_climb d n n [.ref 18, .int (iZ next), .int (iZ left)] (rho ca cb tr) σ Q := by
  intro left
  induction left with
  | zero =>
    intro next d Q σ r hl hd hnx hg ht hr hrl hi hlt h1 h0
    obtain ⟨⟨w1, w2, w3⟩, g2, g3⟩ := id hg
    refine Mt.of rfl (by decide +kernel) tk_X2_climb (Nat.le_of_ble_eq_true rfl) ?_
    refine V.run 0 54 rfl hn trivial ?_
    try simp only [rc_1_0, rc_1_1, rc_1_2, rc_1_3, rc_1_4, rc_1_5, rc_2_0, rc_2_1, rc_2_2, rc_6_0, rc_6_1, rc_6_2, rc_6_3, rc_7_0, rc_7_1, rc_7_2, rc_7_3, rc_12_0, rc_12_1, rc_12_2, rc_12_3, rc_18_0, rc_18_1, rc_20_0, rc_20_1, rc_22_0, rc_23_0, rc_25_0, rc_27_0, rc_27_1, rc_27_2, rc_31_0, rc_31_1, rc_31_2, rc_55_0, rc_55_1, rc_55_2, rc_1_6, rc_1_7, rc_23_2, fi_0_1, fi_0_2, fi_0_3, fi_1_3, fi_1_4, fi_1_5, fi_1_6, fi_1_7, fi_2_2, fi_3_3, fi_3_4, fi_3_5, fi_4_1, fi_5_4, fi_5_5, fi_5_6, fi_5_7, fi_5_8, fi_5_9, fi_6_1, fi_7_3, fi_7_4]
    rw [g2, iZ_sub]
    refine V.br rfl (fun (c : 0 < iZ ((ws.length : Int) - next)) => ?_) (fun (c : ¬ (0 < iZ ((ws.length : Int) - next))) => ?_)
    · rw [iZ_0lt (by omega)] at c
      refine V.run 0 54 rfl hn trivial ?_
      refine V.brF rfl (fun c => by have := (iZ_lt0 (by omega)).mp c; omega) ?_
      refine V.run 0 54 rfl hn trivial ?_
      refine V.brT rfl ((iZ_lt (by omega) (by omega)).mpr (by omega)) ?_
      refine V.run 0 54 rfl hn trivial ?_
      have hf : rc ws next 0 r = false := by unfold rc; exact decide_eq_false (by omega)
      refine V.ret (v := some (.int 0)) rfl rfl ⟨rfl, Or.inl rfl⟩ rfl (h0 hf σ ht Fr.rf)
    · rw [iZ_0lt (by omega)] at c
      refine V.run 0 54 rfl hn trivial ?_
      refine V.ret (v := some (.int 1)) rfl rfl ⟨rfl, Or.inr rfl⟩ rfl (h1 (rc_done (by omega)) σ ht Fr.rf)
  | succ k ih =>
    intro next d Q σ r hl hd hnx hg ht hr hrl hi hlt h1 h0
    obtain ⟨⟨w1, w2, w3⟩, g2, g3⟩ := id hg
    have g3 : ∀ i, i < ws.length → σ 19 i = iZ (ws.getD i 0) := g3
    have hb1 : ∀ x ∈ r, 1 ≤ x := fun x hx => (ht.1.2.1 x hx).1
    have hll := last_le ht
    refine Mt.of rfl (by decide +kernel) tk_X2_climb (Nat.le_of_ble_eq_true rfl) ?_
    refine V.run 0 54 rfl hn trivial ?_
    try simp only [rc_1_0, rc_1_1, rc_1_2, rc_1_3, rc_1_4, rc_1_5, rc_2_0, rc_2_1, rc_2_2, rc_6_0, rc_6_1, rc_6_2, rc_6_3, rc_7_0, rc_7_1, rc_7_2, rc_7_3, rc_12_0, rc_12_1, rc_12_2, rc_12_3, rc_18_0, rc_18_1, rc_20_0, rc_20_1, rc_22_0, rc_23_0, rc_25_0, rc_27_0, rc_27_1, rc_27_2, rc_31_0, rc_31_1, rc_31_2, rc_55_0, rc_55_1, rc_55_2, rc_1_6, rc_1_7, rc_23_2, fi_0_1, fi_0_2, fi_0_3, fi_1_3, fi_1_4, fi_1_5, fi_1_6, fi_1_7, fi_2_2, fi_3_3, fi_3_4, fi_3_5, fi_4_1, fi_5_4, fi_5_5, fi_5_6, fi_5_7, fi_5_8, fi_5_9, fi_6_1, fi_7_3, fi_7_4]
    rw [g2, iZ_sub]
    refine V.br rfl (fun (c : 0 < iZ ((ws.length : Int) - next)) => ?_) (fun (c : ¬ (0 < iZ ((ws.length : Int) - next))) => ?_)
    · rw [iZ_0lt (by omega)] at c
      have hnl : next < ws.length := by omega
      have hG := w2 _ (getD_mem2 (r := ws) (i := next) hnl)
      have hlt := hlt hnl
      refine V.run 0 54 rfl hn trivial ?_
      refine V.brF rfl (fun c => by have := (iZ_lt0 (by omega)).mp c; omega) ?_
      refine V.run 0 54 rfl hn trivial ?_
      refine V.br rfl (fun (c2 : iZ (k + 1 : Nat) < iZ ((ws.length : Int) - next)) => ?_) (fun (c2 : ¬ (iZ (k + 1 : Nat) < iZ ((ws.length : Int) - next))) => ?_)
      · rw [iZ_lt (by omega) (by omega)] at c2
        refine V.run 0 54 rfl hn trivial ?_
        have hf : rc ws next (k + 1) r = false := by
          cases hrc : rc ws next (k + 1) r with
          | false => rfl
          | true =>
            have := rc_many hrc
            omega
        refine V.ret (v := some (.int 0)) rfl rfl ⟨rfl, Or.inl rfl⟩ rfl (h0 hf σ ht Fr.rf)
      · rw [iZ_lt (by omega) (by omega)] at c2
        refine V.run 0 54 rfl hn trivial ?_
        refine V.brT rfl ((iZ_le (by omega) (by omega)).mpr (by omega)) ?_
        refine V.run 0 54 rfl hn ⟨in_N (n := 4) (by omega) (by decide), trivial⟩ ?_
        try simp only [rc_1_0, rc_1_1, rc_1_2, rc_1_3, rc_1_4, rc_1_5, rc_2_0, rc_2_1, rc_2_2, rc_6_0, rc_6_1, rc_6_2, rc_6_3, rc_7_0, rc_7_1, rc_7_2, rc_7_3, rc_12_0, rc_12_1, rc_12_2, rc_12_3, rc_18_0, rc_18_1, rc_20_0, rc_20_1, rc_22_0, rc_23_0, rc_25_0, rc_27_0, rc_27_1, rc_27_2, rc_31_0, rc_31_1, rc_31_2, rc_55_0, rc_55_1, rc_55_2, rc_1_6, rc_1_7, rc_23_2, fi_0_1, fi_0_2, fi_0_3, fi_1_3, fi_1_4, fi_1_5, fi_1_6, fi_1_7, fi_2_2, fi_3_3, fi_3_4, fi_3_5, fi_4_1, fi_5_4, fi_5_5, fi_5_6, fi_5_7, fi_5_8, fi_5_9, fi_6_1, fi_7_3, fi_7_4]
        rw [ix_N (by omega), g3 next hnl]
        have hst := rc_step (ws := ws) (next := next) (k := k) (r := r) hnl
        have hpw := fun i j => pw_get (i := i) (j := j) w3
        obtain ⟨G, hGe⟩ : ∃ G, G = ws.getD next 0 := ⟨_, rfl⟩
        rw [← hGe] at hst hG hlt
        rw [← hGe]
        refine V.cv (lo := 54) (d' := d - 1) rfl rfl ok_X7_latest lk_2_X7_latest rfl rfl rfl hn (by omega) (Nat.le_refl _) (Nat.le_refl _) ((c_latest hn (by omega) ht ?_))
        refine V.run 0 54 rfl hn trivial ?_
        rw [iZ_mul]
        refine V.min rfl rfl lm_2_min rfl (by omega) (Nat.le_refl _) ?_
        have e0 : (if iZ (G : Int) < iZ (2 * (lastD r : Int)) then iZ (G : Int) else iZ (2 * (lastD r : Int))) = iZ (min (2 * lastD r) G : Nat) := by
          by_cases h : (G : Int) < 2 * (lastD r : Int)
          · rw [if_pos ((iZ_lt (by omega) (by omega)).mpr h)]
            exact iZ_pat (by omega)
          · rw [if_neg (fun c => h ((iZ_lt (by omega) (by omega)).mp c))]
            exact iZ_pat (by omega)
        rw [e0]
        have loop : ∀ low : Nat, low ≤ 1000 → lastD r + 1 ≤ low → (∀ v, v < low → candB 0 G r v = true → rc ws (if v = G then next + 1 else next) k (r ++ [v]) = false) → ∀ (u : Nat) (σ1 : Mem) (x8 : Option Value), u ≤ G → (∀ v, u < v → candB 0 G r v = true → rc ws (if v = G then next + 1 else next) k (r ++ [v]) = false) → trialM σ1 0 r → Fr [2, 3, 4, 5] σ σ1 → V M_X2_climb d n n none Q n (rho ca cb tr) σ1 78 [some (.ref 18), some (.int (iZ (next))), some (.int (iZ ((k + 1 : Nat)))), some (.int (iZ (((ws.length : Int) - next)))), some (.int (iZ (G))), some (.int (iZ ((min (2 * lastD r) G : Nat)))), some (.int (iZ (low))), some (.int (iZ (u))), x8] [] := by
          intro low hlow hlow2 hpr u
          have ex : ∀ (u : Nat) (σ1 : Mem) (x8 : Option Value), u < low → (∀ v, u < v → candB 0 G r v = true → rc ws (if v = G then next + 1 else next) k (r ++ [v]) = false) → trialM σ1 0 r → Fr [2, 3, 4, 5] σ σ1 → V M_X2_climb d n n none Q n (rho ca cb tr) σ1 155 [some (.ref 18), some (.int (iZ (next))), some (.int (iZ ((k + 1 : Nat)))), some (.int (iZ (((ws.length : Int) - next)))), some (.int (iZ (G))), some (.int (iZ ((min (2 * lastD r) G : Nat)))), some (.int (iZ (low))), some (.int (iZ (u))), x8] [] := by
            intro u σ1 x8 hu hno ht1 hf1
            refine V.run 0 54 rfl hn trivial ?_
            have hf : rc ws next (k + 1) r = false := by
              cases hrc : rc ws next (k + 1) r with
              | false => rfl
              | true =>
                obtain ⟨v, hv, hv2⟩ := hst.mp hrc
                rcases Nat.lt_or_ge u v with q | q
                · rw [hno v q hv] at hv2; cases hv2
                · rw [hpr v (by omega) hv] at hv2; cases hv2
            refine V.ret (v := some (.int 0)) rfl rfl ⟨rfl, Or.inl rfl⟩ rfl (h0 hf σ1 ht1 hf1)
          induction u with
          | zero =>
            intro σ1 x8 hu hno ht1 hf1
            refine V.run 0 54 rfl hn trivial ?_
            refine V.brT rfl ((iZ_lt (by omega) (by omega)).mpr (by omega)) ?_
            exact ex 0 σ1 x8 (by omega) hno ht1 hf1
          | succ u ihu =>
            intro σ1 x8 hu hno ht1 hf1
            have k149 : ∀ (σ2 : Mem) (x8 : Option Value), (candB 0 G r (u + 1) = true → rc ws (if u + 1 = G then next + 1 else next) k (r ++ [u + 1]) = false) → trialM σ2 0 r → Fr [2, 3, 4, 5] σ σ2 → V M_X2_climb d n n none Q n (rho ca cb tr) σ2 149 [some (.ref 18), some (.int (iZ (next))), some (.int (iZ ((k + 1 : Nat)))), some (.int (iZ (((ws.length : Int) - next)))), some (.int (iZ (G))), some (.int (iZ ((min (2 * lastD r) G : Nat)))), some (.int (iZ (low))), some (.int (iZ ((u + 1 : Nat)))), x8] [] := by
              intro σ2 x8 q1 q2 q3
              refine V.run 0 54 rfl hn trivial ?_
              have := ihu σ2 x8 (by omega) (fun v hv hc => by
                by_cases e : v = u + 1
                · subst e; exact q1 hc
                · exact hno v (by omega) hc) q2 q3
              rw [show (u : Int) = ((u + 1 : Nat) : Int) + (-1) by omega, ← iZ_add] at this
              exact this
            refine V.run 0 54 rfl hn trivial ?_
            refine V.br rfl (fun (c3 : iZ (u + 1 : Nat) < iZ low) => ?_) (fun (c3 : ¬ (iZ (u + 1 : Nat) < iZ low)) => ?_)
            · rw [iZ_lt (by omega) (by omega)] at c3
              exact ex (u + 1) σ1 x8 (by omega) hno ht1 hf1
            · rw [iZ_lt (by omega) (by omega)] at c3
              have hcm := cm_cand (kind := 0) (most := G) (v := u + 1) hr hb1 (fun _ => hi) (by unfold lowB; rw [if_neg (by decide)]; omega) hu
              refine V.run 0 54 rfl hn trivial ?_
              try simp only [rc_1_0, rc_1_1, rc_1_2, rc_1_3, rc_1_4, rc_1_5, rc_2_0, rc_2_1, rc_2_2, rc_6_0, rc_6_1, rc_6_2, rc_6_3, rc_7_0, rc_7_1, rc_7_2, rc_7_3, rc_12_0, rc_12_1, rc_12_2, rc_12_3, rc_18_0, rc_18_1, rc_20_0, rc_20_1, rc_22_0, rc_23_0, rc_25_0, rc_27_0, rc_27_1, rc_27_2, rc_31_0, rc_31_1, rc_31_2, rc_55_0, rc_55_1, rc_55_2, rc_1_6, rc_1_7, rc_23_2, fi_0_1, fi_0_2, fi_0_3, fi_1_3, fi_1_4, fi_1_5, fi_1_6, fi_1_7, fi_2_2, fi_3_3, fi_3_4, fi_3_5, fi_4_1, fi_5_4, fi_5_5, fi_5_6, fi_5_7, fi_5_8, fi_5_9, fi_6_1, fi_7_3, fi_7_4]
              refine V.cv (lo := 54) (d' := d - 1) rfl rfl ok_X7_comes lk_2_X7_comes rfl rfl rfl hn (by omega) (Nat.le_refl _) (Nat.le_refl _) ((c_comes hn (by omega) (by omega) ht1 (fun q => ?_) (fun q => ?_)))
              · have hc := hcm.mp q
                have hcs := candB_spec hc
                refine V.brF rfl (by decide) ?_
                refine V.run 0 54 rfl hn trivial ?_
                try simp only [rc_1_0, rc_1_1, rc_1_2, rc_1_3, rc_1_4, rc_1_5, rc_2_0, rc_2_1, rc_2_2, rc_6_0, rc_6_1, rc_6_2, rc_6_3, rc_7_0, rc_7_1, rc_7_2, rc_7_3, rc_12_0, rc_12_1, rc_12_2, rc_12_3, rc_18_0, rc_18_1, rc_20_0, rc_20_1, rc_22_0, rc_23_0, rc_25_0, rc_27_0, rc_27_1, rc_27_2, rc_31_0, rc_31_1, rc_31_2, rc_55_0, rc_55_1, rc_55_2, rc_1_6, rc_1_7, rc_23_2, fi_0_1, fi_0_2, fi_0_3, fi_1_3, fi_1_4, fi_1_5, fi_1_6, fi_1_7, fi_2_2, fi_3_3, fi_3_4, fi_3_5, fi_4_1, fi_5_4, fi_5_5, fi_5_6, fi_5_7, fi_5_8, fi_5_9, fi_6_1, fi_7_3, fi_7_4]
                refine V.cv (lo := 54) (d' := d - 1) rfl rfl ok_X7_put lk_2_X7_put rfl rfl rfl hn (by omega) (Nat.le_refl _) (Nat.le_refl _) ((c_put hn (by omega) (by omega) (by omega) hcs.2.2.2 ht1 (fun σ2 ht2 hf2 => ?_)))
                refine V.brF rfl (by decide) ?_
                have k127 : ∀ nx : Nat, nx = (if u + 1 = G then next + 1 else next) → V M_X2_climb d n n none Q n (rho ca cb tr) σ2 127 [some (.ref 18), some (.int (iZ (next))), some (.int (iZ ((k + 1 : Nat)))), some (.int (iZ (((ws.length : Int) - next)))), some (.int (iZ (G))), some (.int (iZ ((min (2 * lastD r) G : Nat)))), some (.int (iZ (low))), some (.int (iZ ((u + 1 : Nat)))), x8] [(.int (iZ (nx))), (.ref 18)] := by
                  intro nx hnxe
                  refine V.run 0 54 rfl hn trivial ?_
                  rw [iZ_sub, show ((k + 1 : Nat) : Int) - 1 = (k : Int) by omega]
                  have hg2 : gthM 18 σ2 ws := (hg.fr hf1 (by decide) (by decide)).fr hf2 (by decide) (by decide)
                  have hnx2 : nx ≤ ws.length := by rw [hnxe]; split <;> omega
                  have hlt2 : nx < ws.length → lastD (r ++ [u + 1]) < ws.getD nx 0 := by
                    intro hq
                    rw [lastD_app]
                    rw [hnxe] at hq ⊢
                    split at hq
                    · rename_i e
                      rw [if_pos e]
                      have := hpw next (next + 1) (by omega) hq
                      omega
                    · rename_i e
                      rw [if_neg e]
                      omega
                  refine V.cv (lo := 54) (d' := d - 1) rfl rfl ok_X2_climb lk_2_X2_climb rfl rfl rfl hn (by omega) (Nat.le_refl _) (Nat.le_refl _) ((ih nx (d - 1) _ σ2 (r ++ [u + 1]) (by omega) (by omega) hnx2 hg2 ht2 (by simp) (by simp; omega) (incR_app hi (by omega)) hlt2 (fun hrc σ3 ht3 hf3 => ?_) (fun hrc σ3 ht3 hf3 => ?_)))
                  · refine V.run 0 54 rfl hn trivial ?_
                    try simp only [rc_1_0, rc_1_1, rc_1_2, rc_1_3, rc_1_4, rc_1_5, rc_2_0, rc_2_1, rc_2_2, rc_6_0, rc_6_1, rc_6_2, rc_6_3, rc_7_0, rc_7_1, rc_7_2, rc_7_3, rc_12_0, rc_12_1, rc_12_2, rc_12_3, rc_18_0, rc_18_1, rc_20_0, rc_20_1, rc_22_0, rc_23_0, rc_25_0, rc_27_0, rc_27_1, rc_27_2, rc_31_0, rc_31_1, rc_31_2, rc_55_0, rc_55_1, rc_55_2, rc_1_6, rc_1_7, rc_23_2, fi_0_1, fi_0_2, fi_0_3, fi_1_3, fi_1_4, fi_1_5, fi_1_6, fi_1_7, fi_2_2, fi_3_3, fi_3_4, fi_3_5, fi_4_1, fi_5_4, fi_5_5, fi_5_6, fi_5_7, fi_5_8, fi_5_9, fi_6_1, fi_7_3, fi_7_4]
                    refine V.cv (lo := 54) (d' := d - 1) rfl rfl ok_X7_takeBack lk_2_X7_takeBack rfl rfl rfl hn (by omega) (Nat.le_refl _) (Nat.le_refl _) ((c_takeBack hn (by omega) ht3 (fun σ4 ht4 hf4 => ?_)))
                    refine V.run 0 54 rfl hn trivial ?_
                    refine V.brF rfl (by decide) ?_
                    refine V.run 0 54 rfl hn trivial ?_
                    rw [hnxe] at hrc
                    refine V.ret (v := some (.int 1)) rfl rfl ⟨rfl, Or.inr rfl⟩ rfl (h1 (hst.mpr ⟨u + 1, hc, hrc⟩) σ4 ht4 (hf1.tr (hf2.tr (hf3.tr hf4))))
                  · refine V.run 0 54 rfl hn trivial ?_
                    try simp only [rc_1_0, rc_1_1, rc_1_2, rc_1_3, rc_1_4, rc_1_5, rc_2_0, rc_2_1, rc_2_2, rc_6_0, rc_6_1, rc_6_2, rc_6_3, rc_7_0, rc_7_1, rc_7_2, rc_7_3, rc_12_0, rc_12_1, rc_12_2, rc_12_3, rc_18_0, rc_18_1, rc_20_0, rc_20_1, rc_22_0, rc_23_0, rc_25_0, rc_27_0, rc_27_1, rc_27_2, rc_31_0, rc_31_1, rc_31_2, rc_55_0, rc_55_1, rc_55_2, rc_1_6, rc_1_7, rc_23_2, fi_0_1, fi_0_2, fi_0_3, fi_1_3, fi_1_4, fi_1_5, fi_1_6, fi_1_7, fi_2_2, fi_3_3, fi_3_4, fi_3_5, fi_4_1, fi_5_4, fi_5_5, fi_5_6, fi_5_7, fi_5_8, fi_5_9, fi_6_1, fi_7_3, fi_7_4]
                    refine V.cv (lo := 54) (d' := d - 1) rfl rfl ok_X7_takeBack lk_2_X7_takeBack rfl rfl rfl hn (by omega) (Nat.le_refl _) (Nat.le_refl _) ((c_takeBack hn (by omega) ht3 (fun σ4 ht4 hf4 => ?_)))
                    refine V.run 0 54 rfl hn trivial ?_
                    refine V.brT rfl rfl ?_
                    rw [hnxe] at hrc
                    exact k149 σ4 _ (fun _ => hrc) ht4 (hf1.tr (hf2.tr (hf3.tr hf4)))
                refine V.run 0 54 rfl hn trivial ?_
                refine V.br rfl (fun (c4 : iZ (u + 1 : Nat) = iZ G) => ?_) (fun (c4 : ¬ (iZ (u + 1 : Nat) = iZ G)) => ?_)
                · rw [iZ_eq (by omega) (by omega)] at c4
                  refine V.run 0 54 rfl hn trivial ?_
                  rw [iZ_add]
                  exact k127 (next + 1) (by rw [if_pos (by omega)])
                · rw [iZ_eq (by omega) (by omega)] at c4
                  refine V.run 127 54 rfl hn trivial ?_
                  exact k127 next (by rw [if_neg (by omega)])
              · refine V.brT rfl rfl ?_
                exact k149 σ1 _ (fun h => absurd (hcm.mpr h) q) ht1 hf1
        have hhi : ∀ v, min (2 * lastD r) G < v → candB 0 G r v = true → rc ws (if v = G then next + 1 else next) k (r ++ [v]) = false := by
          intro v hv hc
          have hcs := candB_spec hc
          have := snB_le hcs.2.2.1 hi.2
          omega
        refine V.run 0 54 rfl hn trivial ?_
        refine V.br rfl (fun (c3 : iZ (k + 1 : Nat) = iZ ((ws.length : Int) - next)) => ?_) (fun (c3 : ¬ (iZ (k + 1 : Nat) = iZ ((ws.length : Int) - next))) => ?_)
        · rw [iZ_eq (by omega) (by omega)] at c3
          refine V.run 0 54 rfl hn trivial ?_
          refine V.run 78 54 rfl hn trivial ?_
          refine loop G (by omega) (by omega) (fun v hv hc => ?_) _ σ none (Nat.min_le_right _ _) hhi ht Fr.rf
          rw [if_neg (by omega)]
          cases hrc : rc ws next k (r ++ [v]) with
          | false => rfl
          | true =>
            have := rc_many hrc
            omega
        · rw [iZ_eq (by omega) (by omega)] at c3
          refine V.run 0 54 rfl hn trivial ?_
          rw [iZ_sub, show ((k + 1 : Nat) : Int) - 1 = (k : Int) by omega]
          refine V.cv (lo := 54) (d' := d - 1) rfl rfl ok_X2_lowest lk_2_X2_lowest rfl rfl rfl hn (by omega) (Nat.le_refl _) (Nat.le_refl _) ((c_glowest_18 hn (by omega) (by omega) (by omega) hg ht (fun L hL1 hL2 hL3 hL4 => ?_)))
          refine V.run 78 54 rfl hn trivial ?_
          refine loop L hL1 hL2 (fun v hv hc => ?_) _ σ none (Nat.min_le_right _ _) hhi ht Fr.rf
          have hlo : lastD r < v := (candB_spec hc).1
          rcases hL4 with q | ⟨i, q1, q2, q3⟩
          · omega
          · rw [hGe] at hc ⊢
            rw [q3] at hv
            exact rc_prune hi hc (by omega) (by omega) q1 q2 hv
    · rw [iZ_0lt (by omega)] at c
      refine V.run 0 54 rfl hn trivial ?_
      refine V.ret (v := some (.int 1)) rfl rfl ⟨rfl, Or.inr rfl⟩ rfl (h1 (rc_done (by omega)) σ ht Fr.rf)
theorem c_gfewest_18 {d : Nat} {Q : PQ} {σ : Mem} (hn : 54 ≤ n) (hd : 31 ≤ d) {ws : List Nat} (hg : gthM 18 σ ws) (ht : trI0 σ) (hQ : ∀ σ', trI0 σ' → Fr [2, 3, 4, 5] σ σ' → Q (some (.int (iZ (feT ws)))) (rho ca cb tr) σ') : Mt M_X2_fewestSteps d n n [.ref 18] (rho ca cb tr) σ Q := by
  obtain ⟨⟨w1, w2, w3⟩, g2, g3⟩ := id hg
  obtain ⟨k0, r0, ht0⟩ := ht
  obtain ⟨f1, f2, f3⟩ := feT_ok ⟨w1, w2, w3⟩
  have hm := rc_many f1
  refine Mt.of rfl (by decide +kernel) tk_X2_fewestSteps (Nat.le_of_ble_eq_true rfl) ?_
  refine V.run 0 54 rfl hn trivial ?_
  try simp only [rc_1_0, rc_1_1, rc_1_2, rc_1_3, rc_1_4, rc_1_5, rc_2_0, rc_2_1, rc_2_2, rc_6_0, rc_6_1, rc_6_2, rc_6_3, rc_7_0, rc_7_1, rc_7_2, rc_7_3, rc_12_0, rc_12_1, rc_12_2, rc_12_3, rc_18_0, rc_18_1, rc_20_0, rc_20_1, rc_22_0, rc_23_0, rc_25_0, rc_27_0, rc_27_1, rc_27_2, rc_31_0, rc_31_1, rc_31_2, rc_55_0, rc_55_1, rc_55_2, rc_1_6, rc_1_7, rc_23_2, fi_0_1, fi_0_2, fi_0_3, fi_1_3, fi_1_4, fi_1_5, fi_1_6, fi_1_7, fi_2_2, fi_3_3, fi_3_4, fi_3_5, fi_4_1, fi_5_4, fi_5_5, fi_5_6, fi_5_7, fi_5_8, fi_5_9, fi_6_1, fi_7_3, fi_7_4]
  refine V.cv (lo := 54) (d' := d - 1) rfl rfl ok_X7_begin lk_2_X7_begin rfl rfl rfl hn (by omega) (Nat.le_refl _) (Nat.le_refl _) ((c_begin hn (by omega) (kind := 0) (by omega) ht0 (fun σ1 ht1 hf1 => ?_)))
  have e2 : σ1 18 2 = iZ ws.length := by rw [hf1 18 (by decide)]; exact g2
  refine V.run 14 54 rfl hn trivial ?_
  try simp only [rc_1_0, rc_1_1, rc_1_2, rc_1_3, rc_1_4, rc_1_5, rc_2_0, rc_2_1, rc_2_2, rc_6_0, rc_6_1, rc_6_2, rc_6_3, rc_7_0, rc_7_1, rc_7_2, rc_7_3, rc_12_0, rc_12_1, rc_12_2, rc_12_3, rc_18_0, rc_18_1, rc_20_0, rc_20_1, rc_22_0, rc_23_0, rc_25_0, rc_27_0, rc_27_1, rc_27_2, rc_31_0, rc_31_1, rc_31_2, rc_55_0, rc_55_1, rc_55_2, rc_1_6, rc_1_7, rc_23_2, fi_0_1, fi_0_2, fi_0_3, fi_1_3, fi_1_4, fi_1_5, fi_1_6, fi_1_7, fi_2_2, fi_3_3, fi_3_4, fi_3_5, fi_4_1, fi_5_4, fi_5_5, fi_5_6, fi_5_7, fi_5_8, fi_5_9, fi_6_1, fi_7_3, fi_7_4]
  rw [e2]
  have key : ∀ (j t : Nat) (σ2 : Mem), t + j = feT ws → trialM σ2 0 [1] → Fr [2, 3, 4, 5] σ σ2 → V M_X2_fewestSteps d n n none Q n (rho ca cb tr) σ2 14 [some (.ref 18), some (.int (iZ (t)))] [] := by
    intro j
    induction j with
    | zero =>
      intro t σ2 hj ht2 hf2
      have e : t = feT ws := by omega
      subst e
      refine V.run 0 54 rfl hn trivial ?_
      refine V.brF rfl (fun c => by have := (iZ_lt (by omega) (by omega)).mp c; omega) ?_
      refine V.run 0 54 rfl hn trivial ?_
      refine V.cv (lo := 54) (d' := d - 1) rfl rfl ok_X2_climb lk_2_X2_climb rfl rfl rfl hn (by omega) (Nat.le_refl _) (Nat.le_refl _) ((c_gclimb_18 hn (feT ws) 0 (d - 1) _ σ2 [1] (by omega) (by omega) (by omega) (hg.fr hf2 (by decide) (by decide)) ht2 (by simp) (by simp; omega) (incR_one 1) (fun h => by have := w2 _ (getD_mem2 (r := ws) (i := 0) h); show 1 < _; omega) (fun _ σ3 ht3 hf3 => ?_) (fun h => by rw [f1] at h; cases h)))
      refine V.brF rfl (by decide) ?_
      refine V.run 0 54 rfl hn trivial ?_
      refine V.ret (v := some (.int (iZ (feT ws)))) rfl rfl rfl rfl (hQ σ3 ⟨_, _, ht3⟩ (hf2.tr hf3))
    | succ j ih =>
      intro t σ2 hj ht2 hf2
      refine V.run 0 54 rfl hn trivial ?_
      refine V.brF rfl (fun c => by have := (iZ_lt (by omega) (by omega)).mp c; omega) ?_
      refine V.run 0 54 rfl hn trivial ?_
      refine V.cv (lo := 54) (d' := d - 1) rfl rfl ok_X2_climb lk_2_X2_climb rfl rfl rfl hn (by omega) (Nat.le_refl _) (Nat.le_refl _) ((c_gclimb_18 hn t 0 (d - 1) _ σ2 [1] (by omega) (by omega) (by omega) (hg.fr hf2 (by decide) (by decide)) ht2 (by simp) (by simp; omega) (incR_one 1) (fun h => by have := w2 _ (getD_mem2 (r := ws) (i := 0) h); show 1 < _; omega) (fun h => by rw [f3 t (by omega)] at h; cases h) (fun _ σ3 ht3 hf3 => ?_)))
      refine V.brT rfl rfl ?_
      refine V.run 0 54 rfl hn trivial ?_
      have := ih (t + 1) σ3 (by omega) ht3 (hf2.tr hf3)
      rw [show ((t + 1 : Nat) : Int) = (t : Int) + 1 by omega, ← iZ_add] at this
      exact this
  exact key (feT ws - ws.length) ws.length σ1 (by omega) ht1 hf1
end CH18
section CH20
variable {n ca cb tr : Nat}
theorem c_gclimb_20 (hn : 54 ≤ n) {ws : List Nat} : ∀ (left next d : Nat) (Q : PQ) (σ : Mem) (r : List Nat), left ≤ 24 → left + 5 ≤ d → next ≤ ws.length → gthM 20 σ ws → trialM σ 0 r → 0 < r.length → r.length + left ≤ 40 → incR r → (next < ws.length → lastD r < ws.getD next 0) → (rc ws next left r = true → ∀ σ', trialM σ' 0 r → Fr [2, 3, 4, 5] σ σ' → Q (some (.int 1)) (rho ca cb tr) σ') → (rc ws next left r = false → ∀ σ', trialM σ' 0 r → Fr [2, 3, 4, 5] σ σ' → Q (some (.int 0)) (rho ca cb tr) σ') → Mt M_X2_climb d n n [.ref 20, .int (iZ next), .int (iZ left)] (rho ca cb tr) σ Q := by
  intro left
  induction left with
  | zero =>
    intro next d Q σ r hl hd hnx hg ht hr hrl hi hlt h1 h0
    obtain ⟨⟨w1, w2, w3⟩, g2, g3⟩ := id hg
    refine Mt.of rfl (by decide +kernel) tk_X2_climb (Nat.le_of_ble_eq_true rfl) ?_
    refine V.run 0 54 rfl hn trivial ?_
    try simp only [rc_1_0, rc_1_1, rc_1_2, rc_1_3, rc_1_4, rc_1_5, rc_2_0, rc_2_1, rc_2_2, rc_6_0, rc_6_1, rc_6_2, rc_6_3, rc_7_0, rc_7_1, rc_7_2, rc_7_3, rc_12_0, rc_12_1, rc_12_2, rc_12_3, rc_18_0, rc_18_1, rc_20_0, rc_20_1, rc_22_0, rc_23_0, rc_25_0, rc_27_0, rc_27_1, rc_27_2, rc_31_0, rc_31_1, rc_31_2, rc_55_0, rc_55_1, rc_55_2, rc_1_6, rc_1_7, rc_23_2, fi_0_1, fi_0_2, fi_0_3, fi_1_3, fi_1_4, fi_1_5, fi_1_6, fi_1_7, fi_2_2, fi_3_3, fi_3_4, fi_3_5, fi_4_1, fi_5_4, fi_5_5, fi_5_6, fi_5_7, fi_5_8, fi_5_9, fi_6_1, fi_7_3, fi_7_4]
    rw [g2, iZ_sub]
    refine V.br rfl (fun (c : 0 < iZ ((ws.length : Int) - next)) => ?_) (fun (c : ¬ (0 < iZ ((ws.length : Int) - next))) => ?_)
    · rw [iZ_0lt (by omega)] at c
      refine V.run 0 54 rfl hn trivial ?_
      refine V.brF rfl (fun c => by have := (iZ_lt0 (by omega)).mp c; omega) ?_
      refine V.run 0 54 rfl hn trivial ?_
      refine V.brT rfl ((iZ_lt (by omega) (by omega)).mpr (by omega)) ?_
      refine V.run 0 54 rfl hn trivial ?_
      have hf : rc ws next 0 r = false := by unfold rc; exact decide_eq_false (by omega)
      refine V.ret (v := some (.int 0)) rfl rfl ⟨rfl, Or.inl rfl⟩ rfl (h0 hf σ ht Fr.rf)
    · rw [iZ_0lt (by omega)] at c
      refine V.run 0 54 rfl hn trivial ?_
      refine V.ret (v := some (.int 1)) rfl rfl ⟨rfl, Or.inr rfl⟩ rfl (h1 (rc_done (by omega)) σ ht Fr.rf)
  | succ k ih =>
    intro next d Q σ r hl hd hnx hg ht hr hrl hi hlt h1 h0
    obtain ⟨⟨w1, w2, w3⟩, g2, g3⟩ := id hg
    have g3 : ∀ i, i < ws.length → σ 21 i = iZ (ws.getD i 0) := g3
    have hb1 : ∀ x ∈ r, 1 ≤ x := fun x hx => (ht.1.2.1 x hx).1
    have hll := last_le ht
    refine Mt.of rfl (by decide +kernel) tk_X2_climb (Nat.le_of_ble_eq_true rfl) ?_
    refine V.run 0 54 rfl hn trivial ?_
    try simp only [rc_1_0, rc_1_1, rc_1_2, rc_1_3, rc_1_4, rc_1_5, rc_2_0, rc_2_1, rc_2_2, rc_6_0, rc_6_1, rc_6_2, rc_6_3, rc_7_0, rc_7_1, rc_7_2, rc_7_3, rc_12_0, rc_12_1, rc_12_2, rc_12_3, rc_18_0, rc_18_1, rc_20_0, rc_20_1, rc_22_0, rc_23_0, rc_25_0, rc_27_0, rc_27_1, rc_27_2, rc_31_0, rc_31_1, rc_31_2, rc_55_0, rc_55_1, rc_55_2, rc_1_6, rc_1_7, rc_23_2, fi_0_1, fi_0_2, fi_0_3, fi_1_3, fi_1_4, fi_1_5, fi_1_6, fi_1_7, fi_2_2, fi_3_3, fi_3_4, fi_3_5, fi_4_1, fi_5_4, fi_5_5, fi_5_6, fi_5_7, fi_5_8, fi_5_9, fi_6_1, fi_7_3, fi_7_4]
    rw [g2, iZ_sub]
    refine V.br rfl (fun (c : 0 < iZ ((ws.length : Int) - next)) => ?_) (fun (c : ¬ (0 < iZ ((ws.length : Int) - next))) => ?_)
    · rw [iZ_0lt (by omega)] at c
      have hnl : next < ws.length := by omega
      have hG := w2 _ (getD_mem2 (r := ws) (i := next) hnl)
      have hlt := hlt hnl
      refine V.run 0 54 rfl hn trivial ?_
      refine V.brF rfl (fun c => by have := (iZ_lt0 (by omega)).mp c; omega) ?_
      refine V.run 0 54 rfl hn trivial ?_
      refine V.br rfl (fun (c2 : iZ (k + 1 : Nat) < iZ ((ws.length : Int) - next)) => ?_) (fun (c2 : ¬ (iZ (k + 1 : Nat) < iZ ((ws.length : Int) - next))) => ?_)
      · rw [iZ_lt (by omega) (by omega)] at c2
        refine V.run 0 54 rfl hn trivial ?_
        have hf : rc ws next (k + 1) r = false := by
          cases hrc : rc ws next (k + 1) r with
          | false => rfl
          | true =>
            have := rc_many hrc
            omega
        refine V.ret (v := some (.int 0)) rfl rfl ⟨rfl, Or.inl rfl⟩ rfl (h0 hf σ ht Fr.rf)
      · rw [iZ_lt (by omega) (by omega)] at c2
        refine V.run 0 54 rfl hn trivial ?_
        refine V.brT rfl ((iZ_le (by omega) (by omega)).mpr (by omega)) ?_
        refine V.run 0 54 rfl hn ⟨in_N (n := 4) (by omega) (by decide), trivial⟩ ?_
        try simp only [rc_1_0, rc_1_1, rc_1_2, rc_1_3, rc_1_4, rc_1_5, rc_2_0, rc_2_1, rc_2_2, rc_6_0, rc_6_1, rc_6_2, rc_6_3, rc_7_0, rc_7_1, rc_7_2, rc_7_3, rc_12_0, rc_12_1, rc_12_2, rc_12_3, rc_18_0, rc_18_1, rc_20_0, rc_20_1, rc_22_0, rc_23_0, rc_25_0, rc_27_0, rc_27_1, rc_27_2, rc_31_0, rc_31_1, rc_31_2, rc_55_0, rc_55_1, rc_55_2, rc_1_6, rc_1_7, rc_23_2, fi_0_1, fi_0_2, fi_0_3, fi_1_3, fi_1_4, fi_1_5, fi_1_6, fi_1_7, fi_2_2, fi_3_3, fi_3_4, fi_3_5, fi_4_1, fi_5_4, fi_5_5, fi_5_6, fi_5_7, fi_5_8, fi_5_9, fi_6_1, fi_7_3, fi_7_4]
        rw [ix_N (by omega), g3 next hnl]
        have hst := rc_step (ws := ws) (next := next) (k := k) (r := r) hnl
        have hpw := fun i j => pw_get (i := i) (j := j) w3
        obtain ⟨G, hGe⟩ : ∃ G, G = ws.getD next 0 := ⟨_, rfl⟩
        rw [← hGe] at hst hG hlt
        rw [← hGe]
        refine V.cv (lo := 54) (d' := d - 1) rfl rfl ok_X7_latest lk_2_X7_latest rfl rfl rfl hn (by omega) (Nat.le_refl _) (Nat.le_refl _) ((c_latest hn (by omega) ht ?_))
        refine V.run 0 54 rfl hn trivial ?_
        rw [iZ_mul]
        refine V.min rfl rfl lm_2_min rfl (by omega) (Nat.le_refl _) ?_
        have e0 : (if iZ (G : Int) < iZ (2 * (lastD r : Int)) then iZ (G : Int) else iZ (2 * (lastD r : Int))) = iZ (min (2 * lastD r) G : Nat) := by
          by_cases h : (G : Int) < 2 * (lastD r : Int)
          · rw [if_pos ((iZ_lt (by omega) (by omega)).mpr h)]
            exact iZ_pat (by omega)
          · rw [if_neg (fun c => h ((iZ_lt (by omega) (by omega)).mp c))]
            exact iZ_pat (by omega)
        rw [e0]
        have loop : ∀ low : Nat, low ≤ 1000 → lastD r + 1 ≤ low → (∀ v, v < low → candB 0 G r v = true → rc ws (if v = G then next + 1 else next) k (r ++ [v]) = false) → ∀ (u : Nat) (σ1 : Mem) (x8 : Option Value), u ≤ G → (∀ v, u < v → candB 0 G r v = true → rc ws (if v = G then next + 1 else next) k (r ++ [v]) = false) → trialM σ1 0 r → Fr [2, 3, 4, 5] σ σ1 → V M_X2_climb d n n none Q n (rho ca cb tr) σ1 78 [some (.ref 20), some (.int (iZ (next))), some (.int (iZ ((k + 1 : Nat)))), some (.int (iZ (((ws.length : Int) - next)))), some (.int (iZ (G))), some (.int (iZ ((min (2 * lastD r) G : Nat)))), some (.int (iZ (low))), some (.int (iZ (u))), x8] [] := by
          intro low hlow hlow2 hpr u
          have ex : ∀ (u : Nat) (σ1 : Mem) (x8 : Option Value), u < low → (∀ v, u < v → candB 0 G r v = true → rc ws (if v = G then next + 1 else next) k (r ++ [v]) = false) → trialM σ1 0 r → Fr [2, 3, 4, 5] σ σ1 → V M_X2_climb d n n none Q n (rho ca cb tr) σ1 155 [some (.ref 20), some (.int (iZ (next))), some (.int (iZ ((k + 1 : Nat)))), some (.int (iZ (((ws.length : Int) - next)))), some (.int (iZ (G))), some (.int (iZ ((min (2 * lastD r) G : Nat)))), some (.int (iZ (low))), some (.int (iZ (u))), x8] [] := by
            intro u σ1 x8 hu hno ht1 hf1
            refine V.run 0 54 rfl hn trivial ?_
            have hf : rc ws next (k + 1) r = false := by
              cases hrc : rc ws next (k + 1) r with
              | false => rfl
              | true =>
                obtain ⟨v, hv, hv2⟩ := hst.mp hrc
                rcases Nat.lt_or_ge u v with q | q
                · rw [hno v q hv] at hv2; cases hv2
                · rw [hpr v (by omega) hv] at hv2; cases hv2
            refine V.ret (v := some (.int 0)) rfl rfl ⟨rfl, Or.inl rfl⟩ rfl (h0 hf σ1 ht1 hf1)
          induction u with
          | zero =>
            intro σ1 x8 hu hno ht1 hf1
            refine V.run 0 54 rfl hn trivial ?_
            refine V.brT rfl ((iZ_lt (by omega) (by omega)).mpr (by omega)) ?_
            exact ex 0 σ1 x8 (by omega) hno ht1 hf1
          | succ u ihu =>
            intro σ1 x8 hu hno ht1 hf1
            have k149 : ∀ (σ2 : Mem) (x8 : Option Value), (candB 0 G r (u + 1) = true → rc ws (if u + 1 = G then next + 1 else next) k (r ++ [u + 1]) = false) → trialM σ2 0 r → Fr [2, 3, 4, 5] σ σ2 → V M_X2_climb d n n none Q n (rho ca cb tr) σ2 149 [some (.ref 20), some (.int (iZ (next))), some (.int (iZ ((k + 1 : Nat)))), some (.int (iZ (((ws.length : Int) - next)))), some (.int (iZ (G))), some (.int (iZ ((min (2 * lastD r) G : Nat)))), some (.int (iZ (low))), some (.int (iZ ((u + 1 : Nat)))), x8] [] := by
              intro σ2 x8 q1 q2 q3
              refine V.run 0 54 rfl hn trivial ?_
              have := ihu σ2 x8 (by omega) (fun v hv hc => by
                by_cases e : v = u + 1
                · subst e; exact q1 hc
                · exact hno v (by omega) hc) q2 q3
              rw [show (u : Int) = ((u + 1 : Nat) : Int) + (-1) by omega, ← iZ_add] at this
              exact this
            refine V.run 0 54 rfl hn trivial ?_
            refine V.br rfl (fun (c3 : iZ (u + 1 : Nat) < iZ low) => ?_) (fun (c3 : ¬ (iZ (u + 1 : Nat) < iZ low)) => ?_)
            · rw [iZ_lt (by omega) (by omega)] at c3
              exact ex (u + 1) σ1 x8 (by omega) hno ht1 hf1
            · rw [iZ_lt (by omega) (by omega)] at c3
              have hcm := cm_cand (kind := 0) (most := G) (v := u + 1) hr hb1 (fun _ => hi) (by unfold lowB; rw [if_neg (by decide)]; omega) hu
              refine V.run 0 54 rfl hn trivial ?_
              try simp only [rc_1_0, rc_1_1, rc_1_2, rc_1_3, rc_1_4, rc_1_5, rc_2_0, rc_2_1, rc_2_2, rc_6_0, rc_6_1, rc_6_2, rc_6_3, rc_7_0, rc_7_1, rc_7_2, rc_7_3, rc_12_0, rc_12_1, rc_12_2, rc_12_3, rc_18_0, rc_18_1, rc_20_0, rc_20_1, rc_22_0, rc_23_0, rc_25_0, rc_27_0, rc_27_1, rc_27_2, rc_31_0, rc_31_1, rc_31_2, rc_55_0, rc_55_1, rc_55_2, rc_1_6, rc_1_7, rc_23_2, fi_0_1, fi_0_2, fi_0_3, fi_1_3, fi_1_4, fi_1_5, fi_1_6, fi_1_7, fi_2_2, fi_3_3, fi_3_4, fi_3_5, fi_4_1, fi_5_4, fi_5_5, fi_5_6, fi_5_7, fi_5_8, fi_5_9, fi_6_1, fi_7_3, fi_7_4]
              refine V.cv (lo := 54) (d' := d - 1) rfl rfl ok_X7_comes lk_2_X7_comes rfl rfl rfl hn (by omega) (Nat.le_refl _) (Nat.le_refl _) ((c_comes hn (by omega) (by omega) ht1 (fun q => ?_) (fun q => ?_)))
              · have hc := hcm.mp q
                have hcs := candB_spec hc
                refine V.brF rfl (by decide) ?_
                refine V.run 0 54 rfl hn trivial ?_
                try simp only [rc_1_0, rc_1_1, rc_1_2, rc_1_3, rc_1_4, rc_1_5, rc_2_0, rc_2_1, rc_2_2, rc_6_0, rc_6_1, rc_6_2, rc_6_3, rc_7_0, rc_7_1, rc_7_2, rc_7_3, rc_12_0, rc_12_1, rc_12_2, rc_12_3, rc_18_0, rc_18_1, rc_20_0, rc_20_1, rc_22_0, rc_23_0, rc_25_0, rc_27_0, rc_27_1, rc_27_2, rc_31_0, rc_31_1, rc_31_2, rc_55_0, rc_55_1, rc_55_2, rc_1_6, rc_1_7, rc_23_2, fi_0_1, fi_0_2, fi_0_3, fi_1_3, fi_1_4, fi_1_5, fi_1_6, fi_1_7, fi_2_2, fi_3_3, fi_3_4, fi_3_5, fi_4_1, fi_5_4, fi_5_5, fi_5_6, fi_5_7, fi_5_8, fi_5_9, fi_6_1, fi_7_3, fi_7_4]
                refine V.cv (lo := 54) (d' := d - 1) rfl rfl ok_X7_put lk_2_X7_put rfl rfl rfl hn (by omega) (Nat.le_refl _) (Nat.le_refl _) ((c_put hn (by omega) (by omega) (by omega) hcs.2.2.2 ht1 (fun σ2 ht2 hf2 => ?_)))
                refine V.brF rfl (by decide) ?_
                have k127 : ∀ nx : Nat, nx = (if u + 1 = G then next + 1 else next) → V M_X2_climb d n n none Q n (rho ca cb tr) σ2 127 [some (.ref 20), some (.int (iZ (next))), some (.int (iZ ((k + 1 : Nat)))), some (.int (iZ (((ws.length : Int) - next)))), some (.int (iZ (G))), some (.int (iZ ((min (2 * lastD r) G : Nat)))), some (.int (iZ (low))), some (.int (iZ ((u + 1 : Nat)))), x8] [(.int (iZ (nx))), (.ref 20)] := by
                  intro nx hnxe
                  refine V.run 0 54 rfl hn trivial ?_
                  rw [iZ_sub, show ((k + 1 : Nat) : Int) - 1 = (k : Int) by omega]
                  have hg2 : gthM 20 σ2 ws := (hg.fr hf1 (by decide) (by decide)).fr hf2 (by decide) (by decide)
                  have hnx2 : nx ≤ ws.length := by rw [hnxe]; split <;> omega
                  have hlt2 : nx < ws.length → lastD (r ++ [u + 1]) < ws.getD nx 0 := by
                    intro hq
                    rw [lastD_app]
                    rw [hnxe] at hq ⊢
                    split at hq
                    · rename_i e
                      rw [if_pos e]
                      have := hpw next (next + 1) (by omega) hq
                      omega
                    · rename_i e
                      rw [if_neg e]
                      omega
                  refine V.cv (lo := 54) (d' := d - 1) rfl rfl ok_X2_climb lk_2_X2_climb rfl rfl rfl hn (by omega) (Nat.le_refl _) (Nat.le_refl _) ((ih nx (d - 1) _ σ2 (r ++ [u + 1]) (by omega) (by omega) hnx2 hg2 ht2 (by simp) (by simp; omega) (incR_app hi (by omega)) hlt2 (fun hrc σ3 ht3 hf3 => ?_) (fun hrc σ3 ht3 hf3 => ?_)))
                  · refine V.run 0 54 rfl hn trivial ?_
                    try simp only [rc_1_0, rc_1_1, rc_1_2, rc_1_3, rc_1_4, rc_1_5, rc_2_0, rc_2_1, rc_2_2, rc_6_0, rc_6_1, rc_6_2, rc_6_3, rc_7_0, rc_7_1, rc_7_2, rc_7_3, rc_12_0, rc_12_1, rc_12_2, rc_12_3, rc_18_0, rc_18_1, rc_20_0, rc_20_1, rc_22_0, rc_23_0, rc_25_0, rc_27_0, rc_27_1, rc_27_2, rc_31_0, rc_31_1, rc_31_2, rc_55_0, rc_55_1, rc_55_2, rc_1_6, rc_1_7, rc_23_2, fi_0_1, fi_0_2, fi_0_3, fi_1_3, fi_1_4, fi_1_5, fi_1_6, fi_1_7, fi_2_2, fi_3_3, fi_3_4, fi_3_5, fi_4_1, fi_5_4, fi_5_5, fi_5_6, fi_5_7, fi_5_8, fi_5_9, fi_6_1, fi_7_3, fi_7_4]
                    refine V.cv (lo := 54) (d' := d - 1) rfl rfl ok_X7_takeBack lk_2_X7_takeBack rfl rfl rfl hn (by omega) (Nat.le_refl _) (Nat.le_refl _) ((c_takeBack hn (by omega) ht3 (fun σ4 ht4 hf4 => ?_)))
                    refine V.run 0 54 rfl hn trivial ?_
                    refine V.brF rfl (by decide) ?_
                    refine V.run 0 54 rfl hn trivial ?_
                    rw [hnxe] at hrc
                    refine V.ret (v := some (.int 1)) rfl rfl ⟨rfl, Or.inr rfl⟩ rfl (h1 (hst.mpr ⟨u + 1, hc, hrc⟩) σ4 ht4 (hf1.tr (hf2.tr (hf3.tr hf4))))
                  · refine V.run 0 54 rfl hn trivial ?_
                    try simp only [rc_1_0, rc_1_1, rc_1_2, rc_1_3, rc_1_4, rc_1_5, rc_2_0, rc_2_1, rc_2_2, rc_6_0, rc_6_1, rc_6_2, rc_6_3, rc_7_0, rc_7_1, rc_7_2, rc_7_3, rc_12_0, rc_12_1, rc_12_2, rc_12_3, rc_18_0, rc_18_1, rc_20_0, rc_20_1, rc_22_0, rc_23_0, rc_25_0, rc_27_0, rc_27_1, rc_27_2, rc_31_0, rc_31_1, rc_31_2, rc_55_0, rc_55_1, rc_55_2, rc_1_6, rc_1_7, rc_23_2, fi_0_1, fi_0_2, fi_0_3, fi_1_3, fi_1_4, fi_1_5, fi_1_6, fi_1_7, fi_2_2, fi_3_3, fi_3_4, fi_3_5, fi_4_1, fi_5_4, fi_5_5, fi_5_6, fi_5_7, fi_5_8, fi_5_9, fi_6_1, fi_7_3, fi_7_4]
                    refine V.cv (lo := 54) (d' := d - 1) rfl rfl ok_X7_takeBack lk_2_X7_takeBack rfl rfl rfl hn (by omega) (Nat.le_refl _) (Nat.le_refl _) ((c_takeBack hn (by omega) ht3 (fun σ4 ht4 hf4 => ?_)))
                    refine V.run 0 54 rfl hn trivial ?_
                    refine V.brT rfl rfl ?_
                    rw [hnxe] at hrc
                    exact k149 σ4 _ (fun _ => hrc) ht4 (hf1.tr (hf2.tr (hf3.tr hf4)))
                refine V.run 0 54 rfl hn trivial ?_
                refine V.br rfl (fun (c4 : iZ (u + 1 : Nat) = iZ G) => ?_) (fun (c4 : ¬ (iZ (u + 1 : Nat) = iZ G)) => ?_)
                · rw [iZ_eq (by omega) (by omega)] at c4
                  refine V.run 0 54 rfl hn trivial ?_
                  rw [iZ_add]
                  exact k127 (next + 1) (by rw [if_pos (by omega)])
                · rw [iZ_eq (by omega) (by omega)] at c4
                  refine V.run 127 54 rfl hn trivial ?_
                  exact k127 next (by rw [if_neg (by omega)])
              · refine V.brT rfl rfl ?_
                exact k149 σ1 _ (fun h => absurd (hcm.mpr h) q) ht1 hf1
        have hhi : ∀ v, min (2 * lastD r) G < v → candB 0 G r v = true → rc ws (if v = G then next + 1 else next) k (r ++ [v]) = false := by
          intro v hv hc
          have hcs := candB_spec hc
          have := snB_le hcs.2.2.1 hi.2
          omega
        refine V.run 0 54 rfl hn trivial ?_
        refine V.br rfl (fun (c3 : iZ (k + 1 : Nat) = iZ ((ws.length : Int) - next)) => ?_) (fun (c3 : ¬ (iZ (k + 1 : Nat) = iZ ((ws.length : Int) - next))) => ?_)
        · rw [iZ_eq (by omega) (by omega)] at c3
          refine V.run 0 54 rfl hn trivial ?_
          refine V.run 78 54 rfl hn trivial ?_
          refine loop G (by omega) (by omega) (fun v hv hc => ?_) _ σ none (Nat.min_le_right _ _) hhi ht Fr.rf
          rw [if_neg (by omega)]
          cases hrc : rc ws next k (r ++ [v]) with
          | false => rfl
          | true =>
            have := rc_many hrc
            omega
        · rw [iZ_eq (by omega) (by omega)] at c3
          refine V.run 0 54 rfl hn trivial ?_
          rw [iZ_sub, show ((k + 1 : Nat) : Int) - 1 = (k : Int) by omega]
          refine V.cv (lo := 54) (d' := d - 1) rfl rfl ok_X2_lowest lk_2_X2_lowest rfl rfl rfl hn (by omega) (Nat.le_refl _) (Nat.le_refl _) ((c_glowest_20 hn (by omega) (by omega) (by omega) hg ht (fun L hL1 hL2 hL3 hL4 => ?_)))
          refine V.run 78 54 rfl hn trivial ?_
          refine loop L hL1 hL2 (fun v hv hc => ?_) _ σ none (Nat.min_le_right _ _) hhi ht Fr.rf
          have hlo : lastD r < v := (candB_spec hc).1
          rcases hL4 with q | ⟨i, q1, q2, q3⟩
          · omega
          · rw [hGe] at hc ⊢
            rw [q3] at hv
            exact rc_prune hi hc (by omega) (by omega) q1 q2 hv
    · rw [iZ_0lt (by omega)] at c
      refine V.run 0 54 rfl hn trivial ?_
      refine V.ret (v := some (.int 1)) rfl rfl ⟨rfl, Or.inr rfl⟩ rfl (h1 (rc_done (by omega)) σ ht Fr.rf)
theorem c_gfewest_20 {d : Nat} {Q : PQ} {σ : Mem} (hn : 54 ≤ n) (hd : 31 ≤ d) {ws : List Nat} (hg : gthM 20 σ ws) (ht : trI0 σ) (hQ : ∀ σ', trI0 σ' → Fr [2, 3, 4, 5] σ σ' → Q (some (.int (iZ (feT ws)))) (rho ca cb tr) σ') : Mt M_X2_fewestSteps d n n [.ref 20] (rho ca cb tr) σ Q := by
  obtain ⟨⟨w1, w2, w3⟩, g2, g3⟩ := id hg
  obtain ⟨k0, r0, ht0⟩ := ht
  obtain ⟨f1, f2, f3⟩ := feT_ok ⟨w1, w2, w3⟩
  have hm := rc_many f1
  refine Mt.of rfl (by decide +kernel) tk_X2_fewestSteps (Nat.le_of_ble_eq_true rfl) ?_
  refine V.run 0 54 rfl hn trivial ?_
  try simp only [rc_1_0, rc_1_1, rc_1_2, rc_1_3, rc_1_4, rc_1_5, rc_2_0, rc_2_1, rc_2_2, rc_6_0, rc_6_1, rc_6_2, rc_6_3, rc_7_0, rc_7_1, rc_7_2, rc_7_3, rc_12_0, rc_12_1, rc_12_2, rc_12_3, rc_18_0, rc_18_1, rc_20_0, rc_20_1, rc_22_0, rc_23_0, rc_25_0, rc_27_0, rc_27_1, rc_27_2, rc_31_0, rc_31_1, rc_31_2, rc_55_0, rc_55_1, rc_55_2, rc_1_6, rc_1_7, rc_23_2, fi_0_1, fi_0_2, fi_0_3, fi_1_3, fi_1_4, fi_1_5, fi_1_6, fi_1_7, fi_2_2, fi_3_3, fi_3_4, fi_3_5, fi_4_1, fi_5_4, fi_5_5, fi_5_6, fi_5_7, fi_5_8, fi_5_9, fi_6_1, fi_7_3, fi_7_4]
  refine V.cv (lo := 54) (d' := d - 1) rfl rfl ok_X7_begin lk_2_X7_begin rfl rfl rfl hn (by omega) (Nat.le_refl _) (Nat.le_refl _) ((c_begin hn (by omega) (kind := 0) (by omega) ht0 (fun σ1 ht1 hf1 => ?_)))
  have e2 : σ1 20 2 = iZ ws.length := by rw [hf1 20 (by decide)]; exact g2
  refine V.run 14 54 rfl hn trivial ?_
  try simp only [rc_1_0, rc_1_1, rc_1_2, rc_1_3, rc_1_4, rc_1_5, rc_2_0, rc_2_1, rc_2_2, rc_6_0, rc_6_1, rc_6_2, rc_6_3, rc_7_0, rc_7_1, rc_7_2, rc_7_3, rc_12_0, rc_12_1, rc_12_2, rc_12_3, rc_18_0, rc_18_1, rc_20_0, rc_20_1, rc_22_0, rc_23_0, rc_25_0, rc_27_0, rc_27_1, rc_27_2, rc_31_0, rc_31_1, rc_31_2, rc_55_0, rc_55_1, rc_55_2, rc_1_6, rc_1_7, rc_23_2, fi_0_1, fi_0_2, fi_0_3, fi_1_3, fi_1_4, fi_1_5, fi_1_6, fi_1_7, fi_2_2, fi_3_3, fi_3_4, fi_3_5, fi_4_1, fi_5_4, fi_5_5, fi_5_6, fi_5_7, fi_5_8, fi_5_9, fi_6_1, fi_7_3, fi_7_4]
  rw [e2]
  have key : ∀ (j t : Nat) (σ2 : Mem), t + j = feT ws → trialM σ2 0 [1] → Fr [2, 3, 4, 5] σ σ2 → V M_X2_fewestSteps d n n none Q n (rho ca cb tr) σ2 14 [some (.ref 20), some (.int (iZ (t)))] [] := by
    intro j
    induction j with
    | zero =>
      intro t σ2 hj ht2 hf2
      have e : t = feT ws := by omega
      subst e
      refine V.run 0 54 rfl hn trivial ?_
      refine V.brF rfl (fun c => by have := (iZ_lt (by omega) (by omega)).mp c; omega) ?_
      refine V.run 0 54 rfl hn trivial ?_
      refine V.cv (lo := 54) (d' := d - 1) rfl rfl ok_X2_climb lk_2_X2_climb rfl rfl rfl hn (by omega) (Nat.le_refl _) (Nat.le_refl _) ((c_gclimb_20 hn (feT ws) 0 (d - 1) _ σ2 [1] (by omega) (by omega) (by omega) (hg.fr hf2 (by decide) (by decide)) ht2 (by simp) (by simp; omega) (incR_one 1) (fun h => by have := w2 _ (getD_mem2 (r := ws) (i := 0) h); show 1 < _; omega) (fun _ σ3 ht3 hf3 => ?_) (fun h => by rw [f1] at h; cases h)))
      refine V.brF rfl (by decide) ?_
      refine V.run 0 54 rfl hn trivial ?_
      refine V.ret (v := some (.int (iZ (feT ws)))) rfl rfl rfl rfl (hQ σ3 ⟨_, _, ht3⟩ (hf2.tr hf3))
    | succ j ih =>
      intro t σ2 hj ht2 hf2
      refine V.run 0 54 rfl hn trivial ?_
      refine V.brF rfl (fun c => by have := (iZ_lt (by omega) (by omega)).mp c; omega) ?_
      refine V.run 0 54 rfl hn trivial ?_
      refine V.cv (lo := 54) (d' := d - 1) rfl rfl ok_X2_climb lk_2_X2_climb rfl rfl rfl hn (by omega) (Nat.le_refl _) (Nat.le_refl _) ((c_gclimb_20 hn t 0 (d - 1) _ σ2 [1] (by omega) (by omega) (by omega) (hg.fr hf2 (by decide) (by decide)) ht2 (by simp) (by simp; omega) (incR_one 1) (fun h => by have := w2 _ (getD_mem2 (r := ws) (i := 0) h); show 1 < _; omega) (fun h => by rw [f3 t (by omega)] at h; cases h) (fun _ σ3 ht3 hf3 => ?_)))
      refine V.brT rfl rfl ?_
      refine V.run 0 54 rfl hn trivial ?_
      have := ih (t + 1) σ3 (by omega) ht3 (hf2.tr hf3)
      rw [show ((t + 1 : Nat) : Int) = (t : Int) + 1 by omega, ← iZ_add] at this
      exact this
  exact key (feT ws - ws.length) ws.length σ1 (by omega) ht1 hf1
end CH20
