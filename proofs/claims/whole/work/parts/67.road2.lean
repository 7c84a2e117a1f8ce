/-! ===== the class: roads by figures, by factors ===== -/
def dbA (t v : Nat) (L : List Nat) : List Nat := match t with
  | 0 => L
  | t + 1 => dbA t (2 * v) (ad L (2 * v))
def clF (N w k : Nat) (L : List Nat) : List Nat := match k with
  | 0 => L
  | k + 1 => clF N w k (ad (dbA w (N / 2 ^ (w * (k + 1))) L) (N / 2 ^ (w * k)))
theorem dbA_len : ∀ (t v : Nat) (L : List Nat), (dbA t v L).length ≤ L.length + t
  | 0, v, L => Nat.le_refl _
  | t + 1, v, L => by
    have h := dbA_len t (2 * v) (ad L (2 * v))
    have h1 := ad_len L (2 * v)
    show (dbA t (2 * v) (ad L (2 * v))).length ≤ _
    omega
theorem dbA_zero : ∀ (t : Nat) (L : List Nat), dbA t 0 L = L
  | 0, L => rfl
  | t + 1, L => by
    show dbA t (2 * 0) (ad L (2 * 0)) = L
    rw [Nat.mul_zero, ad_zero]
    exact dbA_zero t L
theorem dbA_pos : ∀ (t v : Nat) (L : List Nat), 1 ≤ v → dbA t v L = dbG t v L
  | 0, v, L, _ => rfl
  | t + 1, v, L, h => by
    show dbA t (2 * v) (ad L (2 * v)) = dbG t (2 * v) (goL L (2 * v))
    rw [ad_pos (by omega)]
    exact dbA_pos t (2 * v) _ (by omega)
theorem goL_sub {L : List Nat} {v x : Nat} (h : x ∈ L) : x ∈ goL L v := by
  unfold goL
  split
  · exact h
  · exact List.mem_append_left _ h
theorem dbG_sub : ∀ (t v : Nat) (L : List Nat) {x : Nat}, x ∈ L → x ∈ dbG t v L
  | 0, v, L, x, h => h
  | t + 1, v, L, x, h => dbG_sub t (2 * v) _ (goL_sub h)
theorem dbG_top : ∀ (t v : Nat) (L : List Nat), 1 ≤ t → 2 ^ t * v ∈ dbG t v L
  | 0, v, L, h => by omega
  | t + 1, v, L, _ => by
    show _ ∈ dbG t (2 * v) (goL L (2 * v))
    rcases Nat.eq_zero_or_pos t with e | e
    · subst e
      show 2 ^ 1 * v ∈ goL L (2 * v)
      exact goL_mem
    · have := dbG_top t (2 * v) (goL L (2 * v)) e
      rw [Nat.pow_succ, Nat.mul_assoc]
      exact this
theorem fig_mod (N w k : Nat) : N / 2 ^ (w * k) = 2 ^ w * (N / 2 ^ (w * (k + 1))) + N / 2 ^ (w * k) % 2 ^ w := by
  rw [fg_split]
  exact (Nat.div_add_mod _ _).symm
theorem clF_fgL {N w : Nat} (hw : 1 ≤ w) : ∀ (k : Nat) (L : List Nat), 1 ≤ N / 2 ^ (w * k) → clF N w k L = fgL N w k L
  | 0, L, _ => rfl
  | k + 1, L, h => by
    have hm := fig_mod N w k
    have hp : 1 ≤ 2 ^ w := Nat.pow_pos (by decide)
    have h1 : 1 * 1 ≤ 2 ^ w * (N / 2 ^ (w * (k + 1))) := Nat.mul_le_mul hp h
    have ih := fun L => clF_fgL (N := N) hw k L (by omega)
    show clF N w k (ad (dbA w (N / 2 ^ (w * (k + 1))) L) (N / 2 ^ (w * k))) = fgL N w k (if N / 2 ^ (w * k) % 2 ^ w = 0 then dbG w (N / 2 ^ (w * (k + 1))) L else goL (dbG w (N / 2 ^ (w * (k + 1))) L) (N / 2 ^ (w * k)))
    rw [ih, dbA_pos w _ L h, ad_pos (by omega)]
    by_cases hz : N / 2 ^ (w * k) % 2 ^ w = 0
    · rw [if_pos hz]
      congr 1
      refine goL_in ?_
      rw [show N / 2 ^ (w * k) = 2 ^ w * (N / 2 ^ (w * (k + 1))) by omega]
      exact dbG_top w _ L hw
    · rw [if_neg hz]
theorem figures_eq {N w : Nat} (hN : 1 ≤ N ∧ N ≤ 100000) (hw : 2 ≤ w ∧ w ≤ 4) : clF N w (17 / w + 1) (bsL (2 ^ w - 1)) = fgL N w (mnF N w - 1) (bsL (2 ^ w - 1)) := by
  obtain ⟨m1, m2, m3, m4, m5⟩ := mnF_ok hN hw
  have h17 : N / 2 ^ (w * (17 / w + 1)) = 0 := by
    apply Nat.div_eq_of_lt
    have : 2 ^ 17 ≤ 2 ^ (w * (17 / w + 1)) := Nat.pow_le_pow_right (by decide) (by
      rcases (show w = 2 ∨ w = 3 ∨ w = 4 by omega) with rfl | rfl | rfl <;> decide)
    have e : (2 : Nat) ^ 17 = 131072 := by decide
    omega
  have hmn : mnF N w ≤ 17 / w + 1 := by
    rcases Nat.lt_or_ge (17 / w + 1) (mnF N w) with q | q
    · have := m5 (17 / w + 1) (Nat.succ_le_succ (Nat.zero_le _)) q
      omega
    · exact q
  have hz : ∀ k, mnF N w ≤ k → N / 2 ^ (w * k) = 0 := fun k hk => by
    obtain ⟨j, rfl⟩ : ∃ j, k = mnF N w + j := ⟨k - mnF N w, by omega⟩
    rw [Nat.mul_add, Nat.pow_add, ← Nat.div_div_eq_div_mul, m1, Nat.zero_div]
  have top : ∀ j, clF N w (mnF N w + j) (bsL (2 ^ w - 1)) = clF N w (mnF N w - 1) (bsL (2 ^ w - 1)) := by
    intro j
    induction j with
    | zero =>
      obtain ⟨k, hk⟩ : ∃ k, mnF N w = k + 1 := ⟨mnF N w - 1, by omega⟩
      rw [Nat.add_zero, hk, Nat.add_sub_cancel]
      show clF N w k (ad (dbA w (N / 2 ^ (w * (k + 1))) (bsL (2 ^ w - 1))) (N / 2 ^ (w * k))) = _
      have hm := fig_mod N w k
      rw [hz (k + 1) (by omega), Nat.mul_zero, Nat.zero_add] at hm
      have hlt : N / 2 ^ (w * k) % 2 ^ w < 2 ^ w := Nat.mod_lt _ (Nat.pow_pos (by decide))
      have hpos : 1 ≤ N / 2 ^ (w * k) := by
        rcases Nat.eq_zero_or_pos k with e | e
        · rw [e]; simp; omega
        · exact m5 k e (by omega)
      rw [hz (k + 1) (by omega), dbA_zero, ad_pos hpos, goL_in (bsL_mem.mpr ⟨hpos, by omega⟩)]
    | succ j ih =>
      show clF N w (mnF N w + j) (ad (dbA w (N / 2 ^ (w * (mnF N w + j + 1))) (bsL (2 ^ w - 1))) (N / 2 ^ (w * (mnF N w + j)))) = _
      rw [hz (mnF N w + j + 1) (by omega), hz (mnF N w + j) (by omega), dbA_zero, ad_zero]
      exact ih
  have := top (17 / w + 1 - mnF N w)
  rw [show mnF N w + (17 / w + 1 - mnF N w) = 17 / w + 1 by omega] at this
  rw [this]
  rcases Nat.eq_zero_or_pos (mnF N w - 1) with e | e
  · rw [e]; rfl
  · exact clF_fgL (by omega) _ _ (m5 _ e (by omega))
section CR2
variable {d n ca cb tr : Nat} {Q : PQ} {σ : Mem} {ρ : Ref}
theorem c_addFigures (hn : 54 ≤ n) (hd : 2 ≤ d) {N w : Nat} (hN : 1 ≤ N ∧ N ≤ 100000) (hw : 2 ≤ w ∧ w ≤ 4) (hr : rodM σ []) (hQ : ∀ σ', rodM σ' (fgL N w (mnF N w - 1) (bsL (2 ^ w - 1))) → FrO σ σ' → Q none (rho ca cb tr) σ') : Mt M_X4_addFigures d n n [.ref 23, .int (iZ N), .int (iZ w)] (rho ca cb tr) σ Q := by
  rw [← figures_eq hN hw] at hQ
  have hg : 3 ≤ 2 ^ w - 1 ∧ 2 ^ w - 1 ≤ 15 ∧ w * (17 / w) ≤ 17 ∧ (2 ^ w - 1) + (w + 1) * (17 / w + 1) ≤ 60 := by
    rcases (show w = 2 ∨ w = 3 ∨ w = 4 by omega) with rfl | rfl | rfl <;> decide
  have hgc : ((2 ^ w - 1 : Nat) : Int) = (2 : Int) ^ w - 1 := by
    rcases (show w = 2 ∨ w = 3 ∨ w = 4 by omega) with rfl | rfl | rfl <;> decide
  refine Mt.of rfl (by decide +kernel) tk_X4_addFigures (Nat.le_of_ble_eq_true rfl) ?_
  refine V.run 0 54 rfl hn trivial ?_
  refine V.min rfl rfl lm_4_min rfl (by omega) (Nat.le_refl _) ?_
  refine V.max rfl rfl lm_4_max rfl (by omega) (Nat.le_refl _) ?_
  have e0 : (if iZ 2 < (if iZ 4 < iZ (w : Int) then iZ 4 else iZ (w : Int)) then (if iZ 4 < iZ (w : Int) then iZ 4 else iZ (w : Int)) else iZ 2) = iZ (w : Int) := by
    rcases (show w = 2 ∨ w = 3 ∨ w = 4 by omega) with rfl | rfl | rfl <;> decide
  rw [e0]
  refine V.run 20 54 rfl hn trivial ?_
  rw [iZ_shl (by omega), Int.one_mul, iZ_sub, ← hgc]
  -- the places
  have places : ∀ (k : Nat) (L : List Nat) (σ1 : Mem) (x7 : Option Value), k ≤ 17 / w + 1 → rodM σ1 L → FrO σ σ1 → L.length + (w + 1) * k ≤ 60 → (∀ σ', rodM σ' (clF N w k L) → FrO σ σ' → Q none (rho ca cb tr) σ') → V M_X4_addFigures d n n none Q n (rho ca cb tr) σ1 48 [some (.ref 23), some (.int (iZ (N))), some (.int (iZ (w))), some (.int (iZ (w))), some (.int (iZ ((2 ^ w - 1 : Nat)))), some (.int (iZ ((N / 2 ^ (w * k) : Nat)))), some (.int (iZ (((k : Int) - 1)))), x7] [] := by
    intro k
    induction k with
    | zero =>
      intro L σ1 x7 hk hr1 hf1 hl hQ1
      refine V.run 0 54 rfl hn trivial ?_
      refine V.brT rfl (by decide) ?_
      refine V.ret (v := none) rfl rfl rfl rfl (hQ1 σ1 hr1 hf1)
    | succ k ih =>
      intro L σ1 x7 hk hr1 hf1 hl hQ1
      rw [Nat.mul_add, Nat.mul_one] at hl
      have hk9 : k ≤ 17 := Nat.le_trans (Nat.le_of_succ_le_succ hk) (Nat.div_le_self 17 w)
      have hm := fig_mod N w k
      have hb : N / 2 ^ (w * k) ≤ N := Nat.div_le_self _ _
      have hwk : w * k ≤ 17 := Nat.le_trans (Nat.mul_le_mul_left w (show k ≤ 17 / w by omega)) hg.2.2.1
      have hlt : N / 2 ^ (w * k) % 2 ^ w < 2 ^ w := Nat.mod_lt _ (Nat.pow_pos (by decide))
      refine V.run 0 54 rfl hn trivial ?_
      refine V.brF rfl (fun q => by have := (iZ_lt0 (by omega)).mp q; omega) ?_
      refine V.run 56 54 rfl hn trivial ?_
      -- the doublings
      have dbl : ∀ (j t v : Nat) (L2 : List Nat) (σ2 : Mem), t + j = w → rodM σ2 L2 → FrO σ σ2 → L2.length + j + 1 + (w + 1) * k ≤ 60 → 2 ^ j * v ≤ 100000 → 2 ^ j * v = 2 ^ w * (N / 2 ^ (w * (k + 1))) → clF N w (k + 1) L = clF N w k (ad (dbA j v L2) (N / 2 ^ (w * k))) → V M_X4_addFigures d n n none Q n (rho ca cb tr) σ2 56 [some (.ref 23), some (.int (iZ (N))), some (.int (iZ (w))), some (.int (iZ (w))), some (.int (iZ ((2 ^ w - 1 : Nat)))), some (.int (iZ (v))), some (.int (iZ (((k + 1 : Nat) : Int) - 1))), some (.int (iZ (t)))] [] := by
        intro j
        induction j with
        | zero =>
          intro t v L2 σ2 ht hr2 hf2 hl2 hv hv2 hcl
          rw [Nat.pow_zero, Nat.one_mul] at hv2
          refine V.run 0 54 rfl hn trivial ?_
          refine V.brT rfl ((iZ_le (by omega) (by omega)).mpr (by omega)) ?_
          have e1 : iZ ((((k + 1 : Nat) : Int) - 1)) * iZ (w : Int) = iZ ((w * k : Nat) : Int) := by
            rw [iZ_mul]
            refine iZ_pat ?_
            rw [show ((k + 1 : Nat) : Int) - 1 = (k : Int) by omega, Int.natCast_mul, Int.mul_comm]
          refine V.run 0 54 rfl hn trivial ?_
          rw [e1, iZ_shr (by omega) (by omega), show (N : Int) / 2 ^ (w * k) = ((N / 2 ^ (w * k) : Nat) : Int) by simp]
          have ea := andW (w := w) (x := N / 2 ^ (w * k)) (by omega) (by omega)
          rw [iZ_sub, ← hgc] at ea
          rw [ea, iZ_add, show ((v : Nat) : Int) + ((N / 2 ^ (w * k) % 2 ^ w : Nat) : Int) = ((N / 2 ^ (w * k) : Nat) : Int) by omega]
          refine V.cv (lo := 54) (d' := d - 1) rfl rfl ok_X4_add lk_4_X4_add rfl rfl rfl hn (by omega) (Nat.le_refl _) (Nat.le_refl _) ((c_radd hn (by omega) (by omega) (by omega) hr2 (fun σ3 hr3 hf3 => ?_)))
          have h1 := ad_len L2 (N / 2 ^ (w * k))
          refine V.run 0 54 rfl hn trivial ?_
          have := ih (ad L2 (N / 2 ^ (w * k))) σ3 (some (.int (iZ t))) (by omega) hr3 (hf2.tr hf3) (by omega) (fun σ' a b => hQ1 σ' (by rw [hcl]; exact a) b)
          rw [show ((k : Nat) : Int) - 1 = (((k + 1 : Nat) : Int) - 1) + (-1) by omega, ← iZ_add (((k + 1 : Nat) : Int) - 1) (-1)] at this
          exact this
        | succ j ihj =>
          intro t v L2 σ2 ht hr2 hf2 hl2 hv hv2 hcl
          rw [Nat.pow_succ, Nat.mul_assoc] at hv hv2
          have hpj : 1 ≤ 2 ^ j := Nat.pow_pos (by decide)
          have hv3 : 1 * (2 * v) ≤ 2 ^ j * (2 * v) := Nat.mul_le_mul_right _ hpj
          refine V.run 0 54 rfl hn trivial ?_
          refine V.brF rfl (fun q => by have := (iZ_le (by omega) (by omega)).mp q; omega) ?_
          refine V.run 0 54 rfl hn trivial ?_
          rw [iZ_mul, show (2 : Int) * (v : Int) = ((2 * v : Nat) : Int) by omega]
          refine V.cv (lo := 54) (d' := d - 1) rfl rfl ok_X4_add lk_4_X4_add rfl rfl rfl hn (by omega) (Nat.le_refl _) (Nat.le_refl _) ((c_radd hn (by omega) (by omega) (by omega) hr2 (fun σ3 hr3 hf3 => ?_)))
          have h1 := ad_len L2 (2 * v)
          refine V.run 0 54 rfl hn trivial ?_
          have := ihj (t + 1) (2 * v) (ad L2 (2 * v)) σ3 (by omega) hr3 (hf2.tr hf3) (by omega) hv hv2 hcl
          rw [show ((t + 1 : Nat) : Int) = (t : Int) + 1 by omega, ← iZ_add (t : Int) 1] at this
          exact this
      exact dbl w 0 (N / 2 ^ (w * (k + 1))) L σ1 (by omega) hr1 hf1 (by omega) (by omega) rfl rfl
  -- the first numbers
  have firsts : ∀ (j i : Nat) (σ1 : Mem), i + j = 2 ^ w - 1 → rodM σ1 (bsL i) → FrO σ σ1 → V M_X4_addFigures d n n none Q n (rho ca cb tr) σ1 20 [some (.ref 23), some (.int (iZ (N))), some (.int (iZ (w))), some (.int (iZ (w))), some (.int (iZ ((2 ^ w - 1 : Nat)))), some (.int (iZ ((i + 1 : Nat)))), none, none] [] := by
    intro j
    induction j with
    | zero =>
      intro i σ1 hi hr1 hf1
      refine V.run 0 54 rfl hn trivial ?_
      refine V.brT rfl ((iZ_lt (by omega) (by omega)).mpr (by omega)) ?_
      have hnz : ¬ iZ (w : Int) = 0 := fun c => by have := (iZ_eq0 (by omega)).mp c; omega
      refine V.run 48 54 rfl hn ⟨hnz, trivial⟩ ?_
      rw [iZ_div (by omega) (by omega)]
      rw [show i = 2 ^ w - 1 by omega] at hr1
      have h0 : N / 2 ^ (w * (17 / w + 1)) = 0 := by
        apply Nat.div_eq_of_lt
        have : 2 ^ 17 ≤ 2 ^ (w * (17 / w + 1)) := Nat.pow_le_pow_right (by decide) (by
          rcases (show w = 2 ∨ w = 3 ∨ w = 4 by omega) with rfl | rfl | rfl <;> decide)
        have e : (2 : Nat) ^ 17 = 131072 := by decide
        omega
      have := places (17 / w + 1) (bsL (2 ^ w - 1)) σ1 none (Nat.le_refl _) hr1 hf1 (by rw [bsL_len]; exact hg.2.2.2) hQ
      rw [h0, show ((17 / w + 1 : Nat) : Int) - 1 = (17 : Int) / (w : Int) by rcases (show w = 2 ∨ w = 3 ∨ w = 4 by omega) with h | h | h <;> (rw [h]; rfl)] at this
      exact this
    | succ j ih =>
      intro i σ1 hi hr1 hf1
      refine V.run 0 54 rfl hn trivial ?_
      refine V.brF rfl (fun q => by have := (iZ_lt (by omega) (by omega)).mp q; omega) ?_
      refine V.run 0 54 rfl hn trivial ?_
      refine V.cv (lo := 54) (d' := d - 1) rfl rfl ok_X4_add lk_4_X4_add rfl rfl rfl hn (by omega) (Nat.le_refl _) (Nat.le_refl _) ((c_radd hn (by omega) (by rw [bsL_len]; omega) (by omega) hr1 (fun σ2 hr2 hf2 => ?_)))
      have e : ad (bsL i) (i + 1) = bsL (i + 1) := by
        rw [ad_pos (by omega), bsL_succ]
        unfold goL
        rw [if_neg (fun q => by have := (bsL_mem.mp q).2; omega)]
      rw [e] at hr2
      refine V.run 0 54 rfl hn trivial ?_
      have := ih (i + 1) σ2 (by omega) hr2 (hf1.tr hf2)
      rw [show ((i + 1 + 1 : Nat) : Int) = ((i + 1 : Nat) : Int) + 1 by omega, ← iZ_add ((i + 1 : Nat) : Int) 1] at this
      exact this
  exact firsts (2 ^ w - 1) 0 σ (by omega) hr FrO.rf
theorem c_leastPrime (hd : 1 ≤ d) {N : Nat} (hN : 2 ≤ N ∧ N ≤ 100000) (hQ : Q (some (.int (iZ (lpN N)))) ρ σ) : Mt M_X4_leastPrime d n n [.int (iZ N)] ρ σ Q := by
  refine Mt.of rfl (by decide +kernel) tk_X4_leastPrime (Nat.le_of_ble_eq_true rfl) ?_
  refine V.run 2 0 rfl (Nat.zero_le _) trivial ?_
  have key : ∀ (f p : Nat), f + p = 402 → 2 ≤ p → p ≤ 317 → lpF f p N = lpN N → V M_X4_leastPrime d n n none Q n ρ σ 2 [some (.int (iZ N)), some (.int (iZ p))] [] := by
    intro f
    induction f with
    | zero => intro p h1 h2 h3; omega
    | succ f ih =>
      intro p h1 h2 h3 h4
      have hpp : p * p ≤ 317 * 317 := Nat.mul_le_mul h3 h3
      have e : lpF (f + 1) p N = if p * p ≤ N then (if N % p = 0 then p else lpF f (p + 1) N) else N := rfl
      rw [e] at h4
      refine V.run 0 0 rfl (Nat.zero_le _) trivial ?_
      rw [iZ_mul, show (p : Int) * (p : Int) = ((p * p : Nat) : Int) by simp]
      refine V.br rfl (fun (c : iZ (N : Int) < iZ ((p * p : Nat) : Int)) => ?_) (fun (c : ¬ (iZ (N : Int) < iZ ((p * p : Nat) : Int))) => ?_)
      · rw [iZ_lt (by omega) (by omega)] at c
        rw [if_neg (by omega)] at h4
        refine V.run 0 0 rfl (Nat.zero_le _) trivial ?_
        refine V.max rfl rfl lm_4_max rfl (by omega) (Nat.le_refl _) ?_
        have e2 : (if iZ 2 < iZ (N : Int) then iZ (N : Int) else iZ 2) = iZ (N : Int) := by
          by_cases h : 2 < N
          · rw [if_pos ((iZ_lt (by omega) (by omega)).mpr (by omega))]
          · rw [if_neg (fun z => by have := (iZ_lt (by omega) (by omega)).mp z; omega)]
            exact iZ_pat (by omega)
        rw [e2]
        rw [← h4] at hQ
        refine V.ret (v := some (.int (iZ (N : Int)))) rfl rfl rfl rfl (hQ)
      · rw [iZ_lt (by omega) (by omega)] at c
        rw [if_pos (by omega)] at h4
        have hp316 : p ≤ 316 := by
          rcases Nat.lt_or_ge 316 p with q | q
          · have : 317 * 317 ≤ p * p := Nat.mul_le_mul q q
            omega
          · exact q
        have hnz : ¬ iZ (p : Int) = 0 := fun c => by have := (iZ_eq0 (by omega)).mp c; omega
        refine V.run 0 0 rfl (Nat.zero_le _) ⟨hnz, trivial⟩ ?_
        rw [iZ_rem (by omega) (by omega), show (N : Int) % (p : Int) = ((N % p : Nat) : Int) by simp]
        have hml : N % p < p := Nat.mod_lt _ (by omega)
        refine V.br rfl (fun (c2 : iZ ((N % p : Nat) : Int) = 0) => ?_) (fun (c2 : ¬ (iZ ((N % p : Nat) : Int) = 0)) => ?_)
        · rw [iZ_eq0 (by omega)] at c2
          rw [if_pos (by omega)] at h4
          refine V.run 0 0 rfl (Nat.zero_le _) trivial ?_
          rw [← h4] at hQ
          refine V.ret (v := some (.int (iZ (p : Int)))) rfl rfl rfl rfl (hQ)
        · rw [iZ_eq0 (by omega)] at c2
          rw [if_neg (by omega)] at h4
          refine V.run 0 0 rfl (Nat.zero_le _) trivial ?_
          have := ih (p + 1) (by omega) (by omega) (by omega) h4
          rw [show ((p + 1 : Nat) : Int) = (p : Int) + 1 by omega, ← iZ_add] at this
          exact this
  exact key 400 2 (by omega) (by omega) (by omega) rfl
theorem c_addFactors (hn : 54 ≤ n) : ∀ (f N t depth d : Nat) (Q : PQ) (σ : Mem) (L : List Nat), f + depth = 41 → f + 3 ≤ d → 1 ≤ t → N * t ≤ 100000 → (facL f N t L).length ≤ 63 → rodM σ L → (∀ σ', rodM σ' (facL f N t L) → FrO σ σ' → Q none (rho ca cb tr) σ') → Mt M_X4_addFactors d n n [.ref 23, .int (iZ N), .int (iZ t), .int (iZ depth)] (rho ca cb tr) σ Q := by
  intro f
  induction f with
  | zero =>
    intro N t depth d Q σ L hfd hd ht hNt hl hr hQ
    have hN : N ≤ 100000 := Nat.le_trans (Nat.le_mul_of_pos_right N ht) hNt
    refine Mt.of rfl (by decide +kernel) tk_X4_addFactors (Nat.le_of_ble_eq_true rfl) ?_
    refine V.run 0 54 rfl hn trivial ?_
    refine V.br rfl (fun (c : iZ (N : Int) ≤ iZ 1) => ?_) (fun (c : ¬ (iZ (N : Int) ≤ iZ 1)) => ?_)
    · refine V.ret (v := none) rfl rfl rfl rfl (hQ σ hr FrO.rf)
    · refine V.run 0 54 rfl hn trivial ?_
      refine V.brF rfl (fun q => by have := (iZ_le (by omega) (by omega)).mp q; omega) ?_
      refine V.ret (v := none) rfl rfl rfl rfl (hQ σ hr FrO.rf)
  | succ f ih =>
    intro N t depth d Q σ L hfd hd ht hNt hl hr hQ
    have hN : N ≤ 100000 := Nat.le_trans (Nat.le_mul_of_pos_right N ht) hNt
    have e : facL (f + 1) N t L = if N ≤ 1 then L else if lpN N = N then goL (facL f (N - 1) t L) (N * t) else facL f (N / lpN N) (t * lpN N) (facL f (lpN N) t L) := rfl
    rw [e] at hl hQ
    refine Mt.of rfl (by decide +kernel) tk_X4_addFactors (Nat.le_of_ble_eq_true rfl) ?_
    refine V.run 0 54 rfl hn trivial ?_
    refine V.br rfl (fun (c : iZ (N : Int) ≤ iZ 1) => ?_) (fun (c : ¬ (iZ (N : Int) ≤ iZ 1)) => ?_)
    · rw [iZ_le (by omega) (by omega)] at c
      rw [if_pos (by omega)] at hQ
      refine V.ret (v := none) rfl rfl rfl rfl (hQ σ hr FrO.rf)
    · rw [iZ_le (by omega) (by omega)] at c
      have hN2 : 2 ≤ N := by omega
      have ht5 : t ≤ 100000 := Nat.le_trans (Nat.le_mul_of_pos_left t (by omega)) hNt
      rw [if_neg (by omega)] at hl hQ
      refine V.run 0 54 rfl hn trivial ?_
      refine V.brT rfl ((iZ_le (by omega) (by omega)).mpr (by omega)) ?_
      refine V.run 0 54 rfl hn trivial ?_
      refine V.cs (d' := d - 1) rfl rfl ok_X4_leastPrime lk_4_X4_leastPrime rfl (by omega) (Nat.le_refl _) (Nat.le_refl _) ((c_leastPrime (by omega) ⟨hN2, hN⟩ ?_))
      have hsp := lpN_spec hN2
      have hlpN : lpN N ≤ N := by
        rcases hsp with q | ⟨q1, q2, q3⟩
        · omega
        · exact Nat.le_trans (Nat.le_mul_of_pos_left _ (by omega)) q3
      refine V.run 0 54 rfl hn trivial ?_
      refine V.br rfl (fun (c2 : iZ (lpN N : Int) = iZ (N : Int)) => ?_) (fun (c2 : ¬ (iZ (lpN N : Int) = iZ (N : Int))) => ?_)
      · rw [iZ_eq (by omega) (by omega)] at c2
        have hp : lpN N = N := by omega
        rw [if_pos hp] at hl hQ
        have hgl := goL_len (facL f (N - 1) t L) (N * t)
        have hNt2 : (N - 1) * t ≤ 100000 := Nat.le_trans (Nat.mul_le_mul_right t (Nat.sub_le N 1)) hNt
        refine V.run 0 54 rfl hn trivial ?_
        rw [iZ_sub, iZ_add, show (N : Int) - 1 = ((N - 1 : Nat) : Int) by omega, show (depth : Int) + 1 = ((depth + 1 : Nat) : Int) by omega]
        refine V.cv (lo := 54) (d' := d - 1) rfl rfl ok_X4_addFactors lk_4_X4_addFactors rfl rfl rfl hn (by omega) (Nat.le_refl _) (Nat.le_refl _) ((ih (N - 1) t (depth + 1) (d - 1) _ σ L (by omega) (by omega) ht hNt2 (by omega) hr (fun σ1 hr1 hf1 => ?_)))
        refine V.run 0 54 rfl hn trivial ?_
        rw [iZ_mul, show (N : Int) * (t : Int) = ((N * t : Nat) : Int) by simp]
        have hpos : 1 ≤ N * t := Nat.mul_le_mul (show 1 ≤ N by omega) ht
        refine V.cv (lo := 54) (d' := d - 1) rfl rfl ok_X4_add lk_4_X4_add rfl rfl rfl hn (by omega) (Nat.le_refl _) (Nat.le_refl _) ((c_radd hn (by omega) (by omega) (by omega) hr1 (fun σ2 hr2 hf2 => ?_)))
        rw [ad_pos hpos] at hr2
        refine V.run 0 54 rfl hn trivial ?_
        refine V.ret (v := none) rfl rfl rfl rfl (hQ σ2 hr2 (hf1.tr hf2))
      · rw [iZ_eq (by omega) (by omega)] at c2
        have hp : lpN N ≠ N := by omega
        rw [if_neg hp] at hl hQ
        rcases hsp with q | ⟨q1, q2, q3⟩
        · exact absurd q hp
        · have hmn := fac_mono f (N / lpN N) (t * lpN N) (facL f (lpN N) t L)
          have hdm : lpN N * (N / lpN N) = N := by
            have := Nat.div_add_mod N (lpN N)
            omega
          have hl1 : lpN N * t ≤ 100000 := Nat.le_trans (Nat.mul_le_mul_right t hlpN) hNt
          have hl2 : N / lpN N * (t * lpN N) ≤ 100000 := by
            have e3 : N / lpN N * (t * lpN N) = N * t := by
              rw [Nat.mul_comm t (lpN N), ← Nat.mul_assoc, Nat.mul_comm (N / lpN N) (lpN N), hdm]
            omega
          have hdl : N / lpN N ≤ N := Nat.div_le_self _ _
          refine V.run 0 54 rfl hn trivial ?_
          rw [iZ_add, show (depth : Int) + 1 = ((depth + 1 : Nat) : Int) by omega]
          refine V.cv (lo := 54) (d' := d - 1) rfl rfl ok_X4_addFactors lk_4_X4_addFactors rfl rfl rfl hn (by omega) (Nat.le_refl _) (Nat.le_refl _) ((ih (lpN N) t (depth + 1) (d - 1) _ σ L (by omega) (by omega) ht hl1 (by omega) hr (fun σ1 hr1 hf1 => ?_)))
          have hnz : ¬ iZ ((lpN N : Nat) : Int) = 0 := fun c => by have := (iZ_eq0 (by omega)).mp c; omega
          refine V.run 0 54 rfl hn ⟨hnz, trivial⟩ ?_
          rw [iZ_div (by omega) (by omega), iZ_mul, iZ_add, show (depth : Int) + 1 = ((depth + 1 : Nat) : Int) by omega, show (N : Int) / (lpN N : Int) = ((N / lpN N : Nat) : Int) by simp, show (t : Int) * (lpN N : Int) = ((t * lpN N : Nat) : Int) by simp]
          refine V.cv (lo := 54) (d' := d - 1) rfl rfl ok_X4_addFactors lk_4_X4_addFactors rfl rfl rfl hn (by omega) (Nat.le_refl _) (Nat.le_refl _) ((ih (N / lpN N) (t * lpN N) (depth + 1) (d - 1) _ σ1 (facL f (lpN N) t L) (by omega) (by omega) (Nat.mul_le_mul ht (show 1 ≤ lpN N by omega)) hl2 hl hr1 (fun σ2 hr2 hf2 => ?_)))
          refine V.ret (v := none) rfl rfl rfl rfl (hQ σ2 hr2 (hf1.tr hf2))
end CR2
