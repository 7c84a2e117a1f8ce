/-! ===== the reference: treeRoad, layRoad, road, step, good, count ===== -/
def tpR (N : Nat) : List Nat := (((trP 13).find? (fun p => p.headD 0 == N)).getD []).reverse
theorem tpR_eq {p : List Nat} {N : Nat} (hp : p ∈ trP 13) (e : p.headD 0 = N) : tpR N = p.reverse := by
  unfold tpR
  cases hf : (trP 13).find? (fun p => p.headD 0 == N) with
  | none =>
    rw [List.find?_eq_none] at hf
    have := hf p hp
    rw [beq_iff_eq] at this
    exact absurd e this
  | some q =>
    have h1 := List.mem_of_find?_eq_some hf
    have h2 := List.find?_some hf
    rw [beq_iff_eq] at h2
    rw [(trS_ok mR 13).2.2 q h1 p hp (by rw [h2, e])]
    rfl
theorem tpR_ex {N : Nat} (h : 1 ≤ N ∧ N ≤ 1000) : ∃ p ∈ trP 13, p.headD 0 = N := hasH_t (tF_all N h.1 h.2)
theorem hlv_len (N : Nat) : ∀ (k v : Nat) (L : List Nat), (hlv N k v L).length ≤ L.length + 2 * k
  | 0, v, L => Nat.le_refl _
  | k + 1, v, L => by
    unfold hlv
    have h1 := goL_len L (2 * v)
    split
    · have h2 := goL_len (goL L (2 * v)) (2 * v + 1)
      have := hlv_len N k (2 * v + 1) (goL (goL L (2 * v)) (2 * v + 1))
      omega
    · have := hlv_len N k (2 * v) (goL L (2 * v))
      omega
theorem sgL_len (N : Nat) : ∀ (k : Nat) (L : List Nat), (sgL N k L).length ≤ L.length + 2 * k
  | 0, L => Nat.le_refl _
  | k + 1, L => by
    unfold sgL
    have h1 := goL_len L (2 * wN N (k + 1))
    split
    · have := sgL_len N k (goL L (2 * wN N (k + 1)))
      omega
    · have h2 := goL_len (goL L (2 * wN N (k + 1))) (wN N k)
      have := sgL_len N k (goL (goL L (2 * wN N (k + 1))) (wN N k))
      omega
theorem fgL_len (N w : Nat) : ∀ (k : Nat) (L : List Nat), (fgL N w k L).length ≤ L.length + (w + 1) * k
  | 0, L => Nat.le_refl _
  | k + 1, L => by
    unfold fgL
    have h1 := dbG_len w (N / 2 ^ (w * (k + 1))) L
    have em : (w + 1) * (k + 1) = (w + 1) * k + (w + 1) := Nat.mul_succ _ _
    split
    · have := fgL_len N w k (dbG w (N / 2 ^ (w * (k + 1))) L)
      omega
    · have h2 := goL_len (dbG w (N / 2 ^ (w * (k + 1))) L) (N / 2 ^ (w * k))
      have := fgL_len N w k (goL (dbG w (N / 2 ^ (w * (k + 1))) L) (N / 2 ^ (w * k)))
      omega
def roadL (R N W : Nat) : List Nat := if R = 0 then hlv N (lgN N) 1 [1] else if R = 1 then fgL N W (mnF N W - 1) (bsL (2 ^ W - 1)) else if R = 2 then facL 41 N 1 [1] else if R = 3 then tpR N else sgL N (mnW N - 1) [1]
def okR (R N W : Nat) : Prop := R ≤ 4 ∧ 1 ≤ N ∧ N ≤ (if R = 3 then 1000 else 100000) ∧ (R = 1 → 2 ≤ W ∧ W ≤ 4)
theorem fac_len34 {N : Nat} (hN : 1 ≤ N ∧ N ≤ 100000) : (facL 41 N 1 [1]).length ≤ 35 := by
  obtain ⟨s, s1, s2, -⟩ := fac_len (f := 41) (N := N) (t := 1) (L := [1])
  have hs : s ≤ 34 := by
    have h1 := s2 hN.1
    have h2 : N * N ≤ 100000 * 100000 := Nat.mul_le_mul hN.2 hN.2
    rcases Nat.lt_or_ge 34 s with q | q
    · have h3 : (2 : Nat) ^ 35 ≤ 2 ^ s := Nat.pow_le_pow_right (by decide) q
      have h4 : (2 : Nat) ^ 35 = 34359738368 := by decide
      omega
    · exact q
  rw [List.length_singleton] at s1
  omega
theorem roadL_len {R N W : Nat} (h : okR R N W) : (roadL R N W).length ≤ 63 := by
  obtain ⟨h1, h2, h3, h4⟩ := h
  unfold roadL
  by_cases r0 : R = 0
  · rw [if_pos r0]
    have h5 := hlv_len N (lgN N) 1 [1]
    have h6 := (lgN_ok (N := N) (by subst r0; simp at h3; omega)).2.1
    rw [List.length_singleton] at h5
    omega
  · rw [if_neg r0]
    by_cases r1 : R = 1
    · rw [if_pos r1]
      subst r1
      have hw := h4 rfl
      obtain ⟨g1, g2, g3, g4, g5⟩ := mnF_ok (N := N) (w := W) ⟨h2, by simpa using h3⟩ hw
      have h5 := fgL_len N W (mnF N W - 1) (bsL (2 ^ W - 1))
      rw [bsL_len] at h5
      rcases (show W = 2 ∨ W = 3 ∨ W = 4 by omega) with rfl | rfl | rfl
      · omega
      · omega
      · omega
    · rw [if_neg r1]
      by_cases r2 : R = 2
      · rw [if_pos r2]
        subst r2
        have := fac_len34 (N := N) ⟨h2, by simpa using h3⟩
        omega
      · rw [if_neg r2]
        by_cases r3 : R = 3
        · rw [if_pos r3]
          rw [if_pos r3] at h3
          obtain ⟨p, hp, e⟩ := tpR_ex ⟨h2, h3⟩
          rw [tpR_eq hp e, List.length_reverse]
          have := (tF_bd p hp).1
          omega
        · rw [if_neg r3]
          rw [if_neg r3] at h3
          have h5 := sgL_len N (mnW N - 1) [1]
          have h6 := (mnW_ok (N := N) ⟨h2, h3⟩).2.2.1
          rw [List.length_singleton] at h5
          omega
def FrW (σ σ' : Mem) : Prop := Fr [35, 44, 45, 46, 47, 48, 49, 50] σ σ' ∧ ∀ j, j ≠ 14 → j ≠ 19 → σ' 35 j = σ 35 j
theorem FrW.rf {σ : Mem} : FrW σ σ := ⟨Fr.rf, fun _ _ _ => rfl⟩
theorem FrW.tr {σ σ1 σ2 : Mem} (h1 : FrW σ σ1) (h2 : FrW σ1 σ2) : FrW σ σ2 := ⟨h1.1.tr h2.1, fun j a b => (h2.2 j a b).trans (h1.2 j a b)⟩
theorem FrG.toW {σ σ' : Mem} (h : FrG σ σ') : FrW σ σ' := ⟨h.1.mono (by simp), fun j a _ => h.2 j a⟩
theorem FrF.toW {σ σ' : Mem} (h : FrF σ σ') : FrW σ σ' := ⟨h.1.mono (by simp), fun j a _ => h.2 j a⟩
theorem FrT.toW {σ σ' : Mem} (h : FrT σ σ') : FrW σ σ' := ⟨h.1.mono (by simp), fun j _ b => h.2 j b⟩
theorem okTr_drop {P : List (List Nat)} (h : okTr P) : ∀ {p : List Nat} {t : Nat}, p ∈ P → t < p.length → p.drop t ∈ P
  | p, 0, hp, _ => by rw [List.drop_zero]; exact hp
  | [], t + 1, hp, ht => by simp at ht
  | y :: q, t + 1, hp, ht => by
    rw [List.drop_succ_cons]
    rw [List.length_cons] at ht
    rcases okTr_suf h hp with e | e
    · rw [e] at ht
      simp at ht
    · exact okTr_drop h e (by omega)
theorem okTr_one {P : List (List Nat)} (h : okTr P) {y : Nat} (hp : [y] ∈ P) : y = 1 := by
  rcases h.2.1 _ hp with e | ⟨s', q', e, hq, _⟩
  · cases e; rfl
  · cases e
    exact absurd rfl (okTr_ne h hq)
section MDR
variable {d n ca cb tr : Nat} {Q : PQ} {σ : Mem} {ρ : Ref}
theorem m_treeRoad (hn : 54 ≤ n) (hd : 2 ≤ d) {N : Nat} (hN : 1 ≤ N ∧ N ≤ 1000) (hr : roadM σ [1]) (hQ : ∀ σ', roadM σ' (tpR N) → FrW σ σ' → Q none (rho ca cb tr) σ') : Mt M_X9_treeRoad d n n [.ref 35, .int (iZ N)] (rho ca cb tr) σ Q := by
  refine Mt.of rfl (by decide +kernel) tk_X9_treeRoad (Nat.le_of_ble_eq_true rfl) ?_
  refine V.run 0 54 rfl hn trivial ?_
  refine V.cv (lo := 54) (d' := d - 1) rfl rfl ok_X9_layTree lk_9_X9_layTree rfl rfl rfl hn (by omega) (Nat.le_refl _) (Nat.le_refl _) ((m_layTree hn hN (fun σ1 r hr13 hhas _ hI hf1 => ?_)))
  obtain ⟨p, hp, hpN⟩ := hasH_t hhas
  have hok : okTr (trP r) := trS_ok mR r
  have hp13 : p ∈ trP 13 := (trS_pre mR hr13).subset hp
  have hsub : ∀ q ∈ trP r, q ∈ trP 13 := fun q hq => (trS_pre mR hr13).subset hq
  rw [tpR_eq hp13 hpN] at hQ
  have hpl := tF_bd p hp13
  have hr1 : roadM σ1 [1] := by
    obtain ⟨r1, r2, r3⟩ := hr
    refine ⟨by rw [hf1.2 14 (by decide)]; exact r1, fun i hi => by rw [hf1.1 44 (by decide)]; exact r2 i hi, r3⟩
  -- going
  have go : ∀ (t : Nat) (σ2 : Mem), t < p.length → roadM σ2 ((p.drop t).reverse) → (∀ u, u < p.length - 1 → σ2 49 u = iZ (p.getD u 0 : Nat)) → FrW σ σ2 → V M_X9_treeRoad d n n none Q n (rho ca cb tr) σ2 38 [some (.ref 35), some (.int (iZ (N))), some (.int (iZ ((p.length - 1 : Nat)))), some (.int (iZ ((t : Int) - 1)))] [] := by
    intro t
    induction t with
    | zero =>
      intro σ2 ht hr2 hway hf2
      refine V.run 0 54 rfl hn trivial ?_
      refine V.brT rfl (by decide) ?_
      rw [List.drop_zero] at hr2
      refine V.ret (v := none) rfl rfl rfl rfl (hQ σ2 hr2 hf2)
    | succ t ih =>
      intro σ2 ht hr2 hway hf2
      have hdm := okTr_drop hok hp (show t < p.length by omega)
      have hdm1 := okTr_drop hok hp ht
      have hcons : p.drop t = p.getD t 0 :: p.drop (t + 1) := by
        rw [List.drop_eq_getElem_cons (by omega), List.getD_eq_getElem?_getD, List.getElem?_eq_getElem (by omega)]
        rfl
      have hb := (tF_bd _ (hsub _ hdm)).2
      rw [hcons] at hdm hb
      have hb2 : p.getD t 0 ≤ 8192 := hb
      have hlt : ∀ x ∈ p.drop (t + 1), x < p.getD t 0 := by
        intro x hx
        have h1 := (okTr_el hok _ hdm1 x hx).2
        rcases hok.2.1 _ hdm with e | ⟨s', q', e, hq, hl⟩
        · have : p.drop (t + 1) = [] := by injection e
          rw [this] at hx
          cases hx
        · injection e with e1 e2
          subst e2
          omega
      have hgo : goL (p.drop (t + 1)).reverse (p.getD t 0) = (p.drop t).reverse := by
        unfold goL
        rw [if_neg (fun q => by have := hlt _ (List.mem_reverse.mp q); omega), hcons, List.reverse_cons]
      rw [show ((t + 1 : Nat) : Int) - 1 = (t : Int) by omega]
      refine V.run 0 54 rfl hn trivial ?_
      refine V.brF rfl (fun q => by have := (iZ_lt0 (by omega)).mp q; omega) ?_
      refine V.run 0 54 rfl hn ⟨in_N (n := 30) (by omega) (by decide), trivial⟩ ?_
      try simp only [rf_told, rf_comes, rf_comeMany, rf_comeAt, rf_isSeen, rf_goals, rf_text, rf_taken, rf_roadRow, rf_dueNumber, rf_dueTimes, rf_above, rf_tree, rf_way, rf_signs, rf_spent, rf_read, rf_useMany, rf_lastUse, fi_9_0, fi_9_2, fi_9_3, fi_9_4, fi_9_6, fi_9_7, fi_9_14, fi_9_19, fi_9_24, fi_9_26, fi_9_27, fi_9_30]
      rw [ix_N (by omega), hway t (by omega)]
      refine V.cv (lo := 54) (d' := d - 1) rfl rfl ok_X9_go lk_9_X9_go rfl rfl rfl hn (by omega) (Nat.le_refl _) (Nat.le_refl _) ((m_go hn (by omega) (by rw [List.length_reverse, List.length_drop]; omega) (by omega) hr2 (fun σ3 hr3 hf3 => ?_)))
      rw [hgo] at hr3
      refine V.run 0 54 rfl hn trivial ?_
      have := ih σ3 (by omega) hr3 (fun u hu => by rw [hf3.1 49 (by decide)]; exact hway u hu) (hf2.tr hf3.toW)
      rw [show (t : Int) - 1 = (t : Int) + (-1) by omega, ← iZ_add (t : Int) (-1)] at this
      exact this
  -- the way
  have walk : ∀ (q : List Nat) (i y : Nat) (σ2 : Mem), p.drop i = y :: q → i < p.length → y :: q ∈ trP r → (∀ u, u < i → σ2 49 u = iZ (p.getD u 0 : Nat)) → trI 35 19 47 48 (-1) 40000 σ2 (trP r) → roadM σ2 [1] → FrT σ σ2 → V M_X9_treeRoad d n n none Q n (rho ca cb tr) σ2 9 [some (.ref 35), some (.int (iZ (N))), some (.int (iZ (i))), some (.int (iZ (y)))] [] := by
    intro q
    induction q with
    | nil =>
      intro i y σ2 hq hi hqm hway hI2 hr2 hf2
      have e1 := okTr_one hok hqm
      subst e1
      have e : i = p.length - 1 := by
        have := congrArg List.length hq
        rw [List.length_drop] at this
        simp at this
        omega
      refine V.run 0 54 rfl hn trivial ?_
      refine V.brT rfl ((iZ_le (by omega) (by omega)).mpr (by omega)) ?_
      refine V.run 38 54 rfl hn trivial ?_
      rw [iZ_sub, e]
      refine go (p.length - 1) σ2 (by omega) ?_ (fun u hu => hway u (by omega)) hf2.toW
      rw [← e, hq]
      exact hr2
    | cons z q ihq =>
      intro i y σ2 hq hi hqm hway hI2 hr2 hf2
      have hil : i + 1 < p.length := by
        have := congrArg List.length hq
        rw [List.length_drop] at this
        simp at this
        omega
      have hyi : p.getD i 0 = y := by
        rw [List.drop_eq_getElem_cons hi] at hq
        rw [List.getD_eq_getElem?_getD, List.getElem?_eq_getElem hi]
        injection hq
      have hq2 : p.drop (i + 1) = z :: q := by
        rw [List.drop_eq_getElem_cons hi] at hq
        injection hq
      have hzq : z :: q ∈ trP r := by
        rcases okTr_suf hok hqm with e | e
        · cases e
        · exact e
      have hyb := okTr_el hok _ hqm y List.mem_cons_self
      have hyc := (tF_bd _ (hsub _ hqm)).2
      have hyd : (y :: z :: q).headD 0 = y := rfl
      have hzb := okTr_el hok _ hzq z List.mem_cons_self
      have hzy : z < y := by
        rcases hok.2.1 _ hqm with e | ⟨s', q', e, _, hl⟩
        · cases e
        · injection e with e1 e2
          subst e1 e2
          exact hl
      have hab := hI2.2.2.1 _ hqm
      rw [hyd] at hab hyc
      have hab2 : σ2 47 y = iZ (z : Int) := hab
      refine V.run 0 54 rfl hn trivial ?_
      refine V.brF rfl (fun c => by have := (iZ_le (by omega) (by omega)).mp c; omega) ?_
      refine V.run 0 54 rfl hn ⟨in_N (n := 30) (by omega) (by decide), in_N (n := 40000) (by omega) (by decide), trivial⟩ ?_
      try simp only [rf_told, rf_comes, rf_comeMany, rf_comeAt, rf_isSeen, rf_goals, rf_text, rf_taken, rf_roadRow, rf_dueNumber, rf_dueTimes, rf_above, rf_tree, rf_way, rf_signs, rf_spent, rf_read, rf_useMany, rf_lastUse, fi_9_0, fi_9_2, fi_9_3, fi_9_4, fi_9_6, fi_9_7, fi_9_14, fi_9_19, fi_9_24, fi_9_26, fi_9_27, fi_9_30]
      rw [ix_N (by omega), ix_N (by omega), up_ne (by decide), hab2]
      have := ihq (i + 1) z (up σ2 49 i (iZ y)) hq2 (by omega) hzq (fun u hu => by
        by_cases e : u = i
        · subst e; rw [up_at, hyi]
        · rw [up_nat e]; exact hway u (by omega)) (trI_way hI2) (by
          obtain ⟨r1, r2, r3⟩ := hr2
          exact ⟨by rw [up_ne (by decide)]; exact r1, fun i hi => by rw [up_ne (by decide)]; exact r2 i hi, r3⟩) hf2.way
      rw [show ((i + 1 : Nat) : Int) = (i : Int) + 1 by omega, ← iZ_add (i : Int) 1] at this
      exact this
  obtain ⟨q, hq⟩ : ∃ q, p = N :: q := by
    rcases p with _ | ⟨y, q⟩
    · exact absurd rfl (okTr_ne hok hp)
    · have : y = N := hpN
      rw [this]
      exact ⟨q, rfl⟩
  refine V.run 9 54 rfl hn trivial ?_
  exact walk q 0 N σ1 (by rw [List.drop_zero]; exact hq) (by rw [hq]; simp) (by rw [← hq]; exact hp) (fun u hu => by omega) hI hr1 hf1
theorem m_layRoad (hn : 54 ≤ n) (hd : 3 ≤ d) {R N : Nat} {W : Int} (hok : okR R N W.toNat) (hW : -2147483648 ≤ W ∧ W < 2147483648) (hQ : ∀ σ', roadM σ' (roadL R N W.toNat) → FrW σ σ' → Q none (rho ca cb tr) σ') : Mt M_X9_layRoad d n n [.ref 35, .int (iZ R), .int (iZ N), .int (iZ W)] (rho ca cb tr) σ Q := by
  obtain ⟨h1, h2, h3, h4⟩ := hok
  refine Mt.of rfl (by decide +kernel) tk_X9_layRoad (Nat.le_of_ble_eq_true rfl) ?_
  refine V.run 0 54 rfl hn ⟨in_iZ (n := 120) (by omega) (by decide), trivial⟩ ?_
  try simp only [rf_told, rf_comes, rf_comeMany, rf_comeAt, rf_isSeen, rf_goals, rf_text, rf_taken, rf_roadRow, rf_dueNumber, rf_dueTimes, rf_above, rf_tree, rf_way, rf_signs, rf_spent, rf_read, rf_useMany, rf_lastUse, fi_9_0, fi_9_2, fi_9_3, fi_9_4, fi_9_6, fi_9_7, fi_9_14, fi_9_19, fi_9_24, fi_9_26, fi_9_27, fi_9_30]
  have hr1 : roadM (up (up σ 44 (ix (iZ 0)) (iZ 1)) 35 14 (iZ 1)) [1] := by
    refine ⟨by rw [up_at]; rfl, fun i hi => ?_, fun x hx => by rw [List.mem_singleton] at hx; omega⟩
    have e : i = 0 := by
      rw [List.length_singleton] at hi
      omega
    subst e
    rw [up_ne (by decide), show ix (iZ 0) = 0 by decide, up_at]
    rfl
  have hf1 : FrW σ (up (up σ 44 (ix (iZ 0)) (iZ 1)) 35 14 (iZ 1)) := ⟨Fr.putT (Fr.put (by simp)) (by simp), fun j a _ => by rw [up_nat a, up_ne (by decide)]⟩
  generalize up (up σ 44 (ix (iZ 0)) (iZ 1)) 35 14 (iZ 1) = σ1 at *
  rcases (show R = 0 ∨ R = 1 ∨ R = 2 ∨ R = 3 ∨ R = 4 by omega) with rfl | rfl | rfl | rfl | rfl
  · refine V.swI (x := iZ 0) (tgt := 44) rfl rfl (by decide) (by decide) rfl (by decide) ?_
    refine V.run 0 54 rfl hn trivial ?_
    refine V.cv (lo := 54) (d' := d - 1) rfl rfl ok_X9_halves lk_9_X9_halves rfl rfl rfl hn (by omega) (Nat.le_refl _) (Nat.le_refl _) ((m_halves hn (by omega) ⟨h2, by simpa using h3⟩ (by simp) hr1 (fun σ2 hr2 hf2 => ?_)))
    refine V.run 0 54 rfl hn trivial ?_
    refine V.ret (v := none) rfl rfl rfl rfl (hQ σ2 hr2 (hf1.tr hf2.toW))
  · have hw := h4 rfl
    obtain ⟨w, rfl⟩ : ∃ w : Nat, W = w := ⟨W.toNat, by omega⟩
    refine V.swI (x := iZ 1) (tgt := 52) rfl rfl (by decide) (by decide) rfl (by decide) ?_
    refine V.run 0 54 rfl hn trivial ?_
    refine V.cv (lo := 54) (d' := d - 1) rfl rfl ok_X9_figures lk_9_X9_figures rfl rfl rfl hn (by omega) (Nat.le_refl _) (Nat.le_refl _) ((m_figures hn (by omega) ⟨h2, by simpa using h3⟩ (by simpa using hw) hr1 (fun σ2 hr2 hf2 => ?_)))
    refine V.run 0 54 rfl hn trivial ?_
    refine V.ret (v := none) rfl rfl rfl rfl (hQ σ2 hr2 (hf1.tr hf2.toW))
  · refine V.swI (x := iZ 2) (tgt := 61) rfl rfl (by decide) (by decide) rfl (by decide) ?_
    refine V.run 0 54 rfl hn trivial ?_
    refine V.cv (lo := 54) (d' := d - 1) rfl rfl ok_X9_factors lk_9_X9_factors rfl rfl rfl hn (by omega) (Nat.le_refl _) (Nat.le_refl _) ((m_factors hn (by omega) ⟨h2, by simpa using h3⟩ hr1 (fun σ2 hr2 hf2 => ?_)))
    refine V.run 0 54 rfl hn trivial ?_
    refine V.ret (v := none) rfl rfl rfl rfl (hQ σ2 hr2 (hf1.tr hf2.toW))
  · refine V.swI (x := iZ 3) (tgt := 69) rfl rfl (by decide) (by decide) rfl (by decide) ?_
    refine V.run 0 54 rfl hn trivial ?_
    refine V.cv (lo := 54) (d' := d - 1) rfl rfl ok_X9_treeRoad lk_9_X9_treeRoad rfl rfl rfl hn (by omega) (Nat.le_refl _) (Nat.le_refl _) ((m_treeRoad hn (by omega) ⟨h2, by simpa using h3⟩ hr1 (fun σ2 hr2 hf2 => ?_)))
    refine V.run 0 54 rfl hn trivial ?_
    refine V.ret (v := none) rfl rfl rfl rfl (hQ σ2 hr2 (hf1.tr hf2))
  · refine V.swO (x := iZ 4) (tgt := 77) rfl rfl (by decide) (by decide) ?_
    refine V.run 0 54 rfl hn trivial ?_
    refine V.cv (lo := 54) (d' := d - 1) rfl rfl ok_X9_signs lk_9_X9_signs rfl rfl rfl hn (by omega) (Nat.le_refl _) (Nat.le_refl _) ((m_signs hn (by omega) ⟨h2, by simpa using h3⟩ (by simp) hr1 (fun σ2 hr2 hf2 hf3 => ?_)))
    refine V.ret (v := none) rfl rfl rfl rfl (hQ σ2 hr2 (hf1.tr ⟨hf2.mono (by simp), fun j a _ => hf3 j a⟩))
def A_isRoad (R N W : Int) : Prop := (0 ≤ R ∧ R ≤ 4) ∧ (1 ≤ N ∧ N ≤ (if R = 3 then 1000 else 100000)) ∧ (R = 1 → 2 ≤ W ∧ W ≤ 4)
theorem okR_of {R N W : Int} (h : A_isRoad R N W) : okR R.toNat N.toNat W.toNat ∧ (R.toNat : Int) = R ∧ (N.toNat : Int) = N := by
  obtain ⟨⟨h1, h2⟩, ⟨h3, h4⟩, h5⟩ := h
  refine ⟨⟨by omega, by omega, ?_, fun e => ?_⟩, by omega, by omega⟩
  · by_cases e : R = 3
    · rw [if_pos e] at h4
      rw [if_pos (by omega)]
      omega
    · rw [if_neg e] at h4
      rw [if_neg (by omega)]
      omega
  · have := h5 (by omega)
    omega
theorem m_road (hn : 54 ≤ n) (hd : 4 ≤ d) {R N W : Int} (hR : -2147483648 ≤ R ∧ R < 2147483648) (hN : -2147483648 ≤ N ∧ N < 2147483648) (hW : -2147483648 ≤ W ∧ W < 2147483648) (hbad : ¬ A_isRoad R N W → Q (some (.int (iZ (-1)))) (rho ca cb tr) σ) (hQ : A_isRoad R N W → ∀ σ', FrW σ σ' → Q (some (.int (iZ (((roadL R.toNat N.toNat W.toNat).length : Int) - 1)))) (rho ca cb tr) σ') : Mt M_X9_road d n n [.ref 35, .int (iZ R), .int (iZ N), .int (iZ W)] (rho ca cb tr) σ Q := by
  refine Mt.of rfl (by decide +kernel) tk_X9_road (Nat.le_of_ble_eq_true rfl) ?_
  refine V.run 0 54 rfl hn trivial ?_
  refine V.cs (d' := d - 1) rfl rfl ok_X9_isRoad lk_9_X9_isRoad rfl (by omega) (Nat.le_refl _) (Nat.le_refl _) ((m_isRoad (by omega) hR hN hW (fun g => ?_) (fun g => ?_)))
  · obtain ⟨o1, o2, o3⟩ := okR_of g
    refine V.brF rfl (by decide) ?_
    refine V.run 0 54 rfl hn trivial ?_
    rw [← o2, ← o3]
    refine V.cv (lo := 54) (d' := d - 1) rfl rfl ok_X9_layRoad lk_9_X9_layRoad rfl rfl rfl hn (by omega) (Nat.le_refl _) (Nat.le_refl _) ((m_layRoad hn (by omega) o1 hW (fun σ1 hr1 hf1 => ?_)))
    refine V.run 0 54 rfl hn trivial ?_
    try simp only [rf_told, rf_comes, rf_comeMany, rf_comeAt, rf_isSeen, rf_goals, rf_text, rf_taken, rf_roadRow, rf_dueNumber, rf_dueTimes, rf_above, rf_tree, rf_way, rf_signs, rf_spent, rf_read, rf_useMany, rf_lastUse, fi_9_0, fi_9_2, fi_9_3, fi_9_4, fi_9_6, fi_9_7, fi_9_14, fi_9_19, fi_9_24, fi_9_26, fi_9_27, fi_9_30]
    rw [hr1.1, iZ_sub]
    refine V.ret (v := some (.int (iZ (((roadL R.toNat N.toNat W.toNat).length : Int) - 1)))) rfl rfl rfl rfl (hQ g σ1 hf1)
  · refine V.brT rfl rfl ?_
    refine V.run 0 54 rfl hn trivial ?_
    refine V.ret (v := some (.int (iZ (-1)))) rfl rfl rfl rfl (hbad g)
theorem m_step (hn : 54 ≤ n) (hd : 4 ≤ d) {R N W i : Int} (hR : -2147483648 ≤ R ∧ R < 2147483648) (hN : -2147483648 ≤ N ∧ N < 2147483648) (hW : -2147483648 ≤ W ∧ W < 2147483648) (hi : -2147483648 ≤ i ∧ i < 2147483648) (hbad : ¬ (A_isRoad R N W ∧ 0 ≤ i) → Q (some (.int (iZ (-1)))) (rho ca cb tr) σ) (hQ : A_isRoad R N W ∧ 0 ≤ i → ∀ σ', FrW σ σ' → Q (some (.int (iZ (if i < (roadL R.toNat N.toNat W.toNat).length then ((roadL R.toNat N.toNat W.toNat).getD i.toNat 0 : Nat) else -4)))) (rho ca cb tr) σ') : Mt M_X9_step d n n [.ref 35, .int (iZ R), .int (iZ N), .int (iZ W), .int (iZ i)] (rho ca cb tr) σ Q := by
  refine Mt.of rfl (by decide +kernel) tk_X9_step (Nat.le_of_ble_eq_true rfl) ?_
  refine V.run 0 54 rfl hn trivial ?_
  refine V.cs (d' := d - 1) rfl rfl ok_X9_isRoad lk_9_X9_isRoad rfl (by omega) (Nat.le_refl _) (Nat.le_refl _) ((m_isRoad (by omega) hR hN hW (fun g => ?_) (fun g => ?_)))
  · obtain ⟨o1, o2, o3⟩ := okR_of g
    have hlen := roadL_len o1
    refine V.brF rfl (by decide) ?_
    refine V.run 0 54 rfl hn trivial ?_
    refine V.br rfl (fun (c : 0 ≤ iZ i) => ?_) (fun (c : ¬ (0 ≤ iZ i)) => ?_)
    · rw [iZ_0le (by omega)] at c
      have Q1 := hQ ⟨g, c⟩
      refine V.run 0 54 rfl hn trivial ?_
      rw [← o2, ← o3]
      refine V.cv (lo := 54) (d' := d - 1) rfl rfl ok_X9_layRoad lk_9_X9_layRoad rfl rfl rfl hn (by omega) (Nat.le_refl _) (Nat.le_refl _) ((m_layRoad hn (by omega) o1 hW (fun σ1 hr1 hf1 => ?_)))
      have Q2 := Q1 σ1 hf1
      refine V.run 0 54 rfl hn trivial ?_
      try simp only [rf_told, rf_comes, rf_comeMany, rf_comeAt, rf_isSeen, rf_goals, rf_text, rf_taken, rf_roadRow, rf_dueNumber, rf_dueTimes, rf_above, rf_tree, rf_way, rf_signs, rf_spent, rf_read, rf_useMany, rf_lastUse, fi_9_0, fi_9_2, fi_9_3, fi_9_4, fi_9_6, fi_9_7, fi_9_14, fi_9_19, fi_9_24, fi_9_26, fi_9_27, fi_9_30]
      rw [hr1.1]
      generalize roadL R.toNat N.toNat W.toNat = L at *
      refine V.br rfl (fun (c2 : iZ (L.length : Int) ≤ iZ i) => ?_) (fun (c2 : ¬ (iZ (L.length : Int) ≤ iZ i)) => ?_)
      · rw [iZ_le (by omega) (by omega)] at c2
        rw [if_neg (by omega)] at Q2
        refine V.run 0 54 rfl hn trivial ?_
        refine V.ret (v := some (.int (iZ (-4)))) rfl rfl rfl rfl (Q2)
      · rw [iZ_le (by omega) (by omega)] at c2
        rw [if_pos (by omega)] at Q2
        refine V.run 0 54 rfl hn ⟨in_iZ (n := 120) (by omega) (by decide), trivial⟩ ?_
        try simp only [rf_told, rf_comes, rf_comeMany, rf_comeAt, rf_isSeen, rf_goals, rf_text, rf_taken, rf_roadRow, rf_dueNumber, rf_dueTimes, rf_above, rf_tree, rf_way, rf_signs, rf_spent, rf_read, rf_useMany, rf_lastUse, fi_9_0, fi_9_2, fi_9_3, fi_9_4, fi_9_6, fi_9_7, fi_9_14, fi_9_19, fi_9_24, fi_9_26, fi_9_27, fi_9_30]
        rw [ix_iZ (by omega), hr1.2.1 _ (by omega)]
        refine V.run 0 54 rfl hn trivial ?_
        refine V.ret (v := some (.int (iZ (L.getD i.toNat 0 : Nat)))) rfl rfl rfl rfl (Q2)
    · rw [iZ_0le (by omega)] at c
      refine V.run 0 54 rfl hn trivial ?_
      refine V.ret (v := some (.int (iZ (-1)))) rfl rfl rfl rfl (hbad (fun q => c q.2))
  · refine V.brT rfl rfl ?_
    refine V.run 0 54 rfl hn trivial ?_
    refine V.ret (v := some (.int (iZ (-1)))) rfl rfl rfl rfl (hbad (fun q => g q.1))
/-- how many roads are good -/
def goodN (R W : Nat) (m : Nat) : Nat := match m with
  | 0 => 0
  | m + 1 => goodN R W m + (if (roadL R (m + 1) W).length - 1 = feF 0 (m + 1) then 1 else 0)
theorem hlv_mono (N : Nat) : ∀ (k v : Nat) (L : List Nat), L.length ≤ (hlv N k v L).length
  | 0, v, L => Nat.le_refl _
  | k + 1, v, L => by
    unfold hlv
    have h1 := goL_len L (2 * v)
    split
    · have h2 := goL_len (goL L (2 * v)) (2 * v + 1)
      have := hlv_mono N k (2 * v + 1) (goL (goL L (2 * v)) (2 * v + 1))
      omega
    · have := hlv_mono N k (2 * v) (goL L (2 * v))
      omega
def A_isGood (R W m : Int) : Prop := (0 ≤ R ∧ R ≤ 3) ∧ (1 ≤ m ∧ m ≤ 100) ∧ (R = 1 → 2 ≤ W ∧ W ≤ 4)
theorem goodN_le (R W : Nat) : ∀ m, goodN R W m ≤ m
  | 0 => Nat.le_refl _
  | m + 1 => by
    unfold goodN
    have := goodN_le R W m
    split <;> omega
theorem m_good (hn : 54 ≤ n) (hd : 6 ≤ d) {R W m : Int} (hR : -2147483648 ≤ R ∧ R < 2147483648) (hW : -2147483648 ≤ W ∧ W < 2147483648) (hm : -2147483648 ≤ m ∧ m < 2147483648) (hpos : ∀ N : Nat, okR R.toNat N W.toNat → 1 ≤ (roadL R.toNat N W.toNat).length) (hbad : ¬ A_isGood R W m → Q (some (.int (iZ (-1)))) (rho ca cb tr) σ) (hQ : A_isGood R W m → ∀ σ', Fr [35, 44, 45, 46, 47, 48, 49, 50, 39, 40, 41, 42, 43] σ σ' → (∀ j, j ≠ 14 → j ≠ 19 → σ' 35 j = σ 35 j) → Q (some (.int (iZ (goodN R.toNat W.toNat m.toNat : Nat)))) (rho ca cb tr) σ') : Mt M_X9_good d n n [.ref 35, .int (iZ R), .int (iZ W), .int (iZ m)] (rho ca cb tr) σ Q := by
  refine Mt.of rfl (by decide +kernel) tk_X9_good (Nat.le_of_ble_eq_true rfl) ?_
  refine V.run 0 54 rfl hn trivial ?_
  have loop : A_isGood R W m → ∀ (j k : Nat) (σ1 : Mem), k + j = m.toNat → Fr [35, 44, 45, 46, 47, 48, 49, 50, 39, 40, 41, 42, 43] σ σ1 → (∀ j, j ≠ 14 → j ≠ 19 → σ1 35 j = σ 35 j) → V M_X9_good d n n none Q n (rho ca cb tr) σ1 51 [some (.ref 35), some (.int (iZ (R))), some (.int (iZ (W))), some (.int (iZ (m))), some (.int (iZ ((goodN R.toNat W.toNat k : Nat)))), some (.int (iZ ((k : Int) + 1)))] [] := by
    intro g j
    obtain ⟨g1, g2, g3⟩ := id g
    induction j with
    | zero =>
      intro k σ1 hk hf1 hf2
      refine V.run 0 54 rfl hn trivial ?_
      refine V.brT rfl ((iZ_lt (by omega) (by omega)).mpr (by omega)) ?_
      refine V.run 0 54 rfl hn trivial ?_
      rw [show k = m.toNat by omega]
      refine V.ret (v := some (.int (iZ (goodN R.toNat W.toNat m.toNat : Nat)))) rfl rfl rfl rfl (hQ g σ1 hf1 hf2)
    | succ j ih =>
      intro k σ1 hk hf1 hf2
      have hok : okR R.toNat (k + 1) W.toNat := ⟨by omega, by omega, by split <;> omega, fun e => by have := g3 (by omega); omega⟩
      have hgl := goodN_le R.toNat W.toNat k
      have hlen := roadL_len hok
      have hl1 := hpos (k + 1) hok
      have hF := feF_ok (kind := 0) (N := k + 1) ⟨by omega, by omega, by simp; omega⟩
      have hrow : goodN R.toNat W.toNat (k + 1) = goodN R.toNat W.toNat k + (if (roadL R.toNat (k + 1) W.toNat).length - 1 = feF 0 (k + 1) then 1 else 0) := rfl
      refine V.run 0 54 rfl hn trivial ?_
      refine V.brF rfl (fun q => by have := (iZ_lt (by omega) (by omega)).mp q; omega) ?_
      have eR : iZ R = iZ ((R.toNat : Nat) : Int) := iZ_pat (by omega)
      rw [show (k : Int) + 1 = ((k + 1 : Nat) : Int) by omega, eR]
      refine V.run 0 54 rfl hn trivial ?_
      refine V.cv (lo := 54) (d' := d - 1) rfl rfl ok_X9_layRoad lk_9_X9_layRoad rfl rfl rfl hn (by omega) (Nat.le_refl _) (Nat.le_refl _) ((m_layRoad hn (by omega) hok hW (fun σ2 hr2 hf3 => ?_)))
      refine V.run 0 54 rfl hn trivial ?_
      try simp only [rf_told, rf_comes, rf_comeMany, rf_comeAt, rf_isSeen, rf_goals, rf_text, rf_taken, rf_roadRow, rf_dueNumber, rf_dueTimes, rf_above, rf_tree, rf_way, rf_signs, rf_spent, rf_read, rf_useMany, rf_lastUse, fi_9_0, fi_9_2, fi_9_3, fi_9_4, fi_9_6, fi_9_7, fi_9_14, fi_9_19, fi_9_24, fi_9_26, fi_9_27, fi_9_30]
      rw [hr2.1, iZ_sub]
      refine V.cv (lo := 54) (d' := d - 1) rfl rfl ok_X9_fewestOf lk_9_X9_fewestOf rfl rfl rfl hn (by omega) (Nat.le_refl _) (Nat.le_refl _) ((m_fewestOf hn (by omega) (by omega) (by omega) hF.1 (by omega) (fun σ3 hf4 => ?_)))
      have hF1 : Fr [35, 44, 45, 46, 47, 48, 49, 50, 39, 40, 41, 42, 43] σ σ3 := (hf1.tr (hf3.1.mono (by simp))).tr (hf4.mono (by simp))
      have hF2 : ∀ j, j ≠ 14 → j ≠ 19 → σ3 35 j = σ 35 j := fun j a b => by rw [hf4 35 (by decide), hf3.2 j a b, hf2 j a b]
      have := ih (k + 1) σ3 (by omega) hF1 hF2
      rw [hrow] at this
      generalize (roadL R.toNat (k + 1) W.toNat).length = len at *
      generalize feF 0 (k + 1) = fe at *
      have hfe := hF.2
      refine V.br rfl (fun (c : iZ ((len : Int) - 1) = iZ (fe : Int)) => ?_) (fun (c : ¬ (iZ ((len : Int) - 1) = iZ (fe : Int))) => ?_)
      · rw [iZ_eq (by omega) (by omega)] at c
        rw [if_pos (by omega)] at this
        refine V.run 0 54 rfl hn trivial ?_
        refine V.run 0 54 rfl hn trivial ?_
        rw [iZ_add, iZ_add, show (goodN R.toNat W.toNat k : Int) + 1 = ((goodN R.toNat W.toNat k + 1 : Nat) : Int) by omega]
        rw [eR] at this
        exact this
      · rw [iZ_eq (by omega) (by omega)] at c
        rw [if_neg (by omega)] at this
        refine V.run 0 54 rfl hn trivial ?_
        rw [iZ_add, iZ_add, show (goodN R.toNat W.toNat k : Int) + 0 = ((goodN R.toNat W.toNat k + 0 : Nat) : Int) by omega]
        rw [eR] at this
        exact this
  have start : A_isGood R W m → V M_X9_good d n n none Q n (rho ca cb tr) σ 45 [some (.ref 35), some (.int (iZ (R))), some (.int (iZ (W))), some (.int (iZ (m))), none, none] [] := by
    intro g
    refine V.run 51 54 rfl hn trivial ?_
    exact loop g m.toNat 0 σ (by omega) Fr.rf (fun _ _ _ => rfl)
  refine V.cs (d' := d - 1) rfl rfl ok_X9_in lk_9_X9_in rfl (by omega) (Nat.le_refl _) (Nat.le_refl _) ((m_inZ (by omega) (by omega) (by omega) (fun g1 => ?_) (fun g1 => ?_)))
  · refine V.brF rfl (by decide) ?_
    refine V.run 0 54 rfl hn trivial ?_
    refine V.cs (d' := d - 1) rfl rfl ok_X9_in lk_9_X9_in rfl (by omega) (Nat.le_refl _) (Nat.le_refl _) ((m_inZ (by omega) (by omega) (by omega) (fun g2 => ?_) (fun g2 => ?_)))
    · refine V.brF rfl (by decide) ?_
      refine V.run 0 54 rfl hn trivial ?_
      refine V.br rfl (fun (c : iZ R = iZ 1) => ?_) (fun (c : ¬ (iZ R = iZ 1)) => ?_)
      · rw [iZ_eq (by omega) (by omega)] at c
        refine V.run 0 54 rfl hn trivial ?_
        refine V.cs (d' := d - 1) rfl rfl ok_X9_in lk_9_X9_in rfl (by omega) (Nat.le_refl _) (Nat.le_refl _) ((m_inZ (by omega) (by omega) (by omega) (fun g3 => ?_) (fun g3 => ?_)))
        · refine V.brF rfl (by decide) ?_
          exact start ⟨g1, g2, fun _ => g3⟩
        · refine V.brT rfl rfl ?_
          refine V.run 0 54 rfl hn trivial ?_
          refine V.ret (v := some (.int (iZ (-1)))) rfl rfl rfl rfl (hbad (fun q => g3 (q.2.2 c)))
      · rw [iZ_eq (by omega) (by omega)] at c
        exact start ⟨g1, g2, fun e => absurd e c⟩
    · refine V.brT rfl rfl ?_
      refine V.run 0 54 rfl hn trivial ?_
      refine V.ret (v := some (.int (iZ (-1)))) rfl rfl rfl rfl (hbad (fun q => g2 q.2.1))
  · refine V.brT rfl rfl ?_
    refine V.run 0 54 rfl hn trivial ?_
    refine V.ret (v := some (.int (iZ (-1)))) rfl rfl rfl rfl (hbad (fun q => g1 q.1))
theorem m_count (hn : 54 ≤ n) (hd : 4 ≤ d) {z : Int} {gs tx c : List Nat} {kind : Nat} (hz : -2147483648 ≤ z ∧ z < 2147483648) (hg : goalsM σ gs) (ht : textM σ tx) (hc : chainM σ kind c) (hbad : ¬ (0 ≤ z ∧ z ≤ 4) → Q (some (.int (iZ (-1)))) (rho ca cb tr) σ) (h0 : z = 0 → Q (some (.int (iZ gs.length))) (rho ca cb tr) σ) (h1 : z = 1 → Q (some (.int (iZ tx.length))) (rho ca cb tr) σ) (h2 : z = 2 → Q (some (.int (iZ ((c.length : Int) - 1)))) (rho ca cb tr) σ) (h3 : z = 3 → ∀ (σ' : Mem) (pk : Nat → Nat × Nat), isUse kind c pk c.length → FrU σ σ' → Q (some (.int (iZ (dblN pk c.length : Nat)))) (rho ca cb tr) σ') (h4 : z = 4 → ∀ σ', FrT σ σ' → Q (some (.int (iZ 970))) (rho ca cb tr) σ') : Mt M_X9_count d n n [.ref 35, .int (iZ z)] (rho ca cb tr) σ Q := by
  refine Mt.of rfl (by decide +kernel) tk_X9_count (Nat.le_of_ble_eq_true rfl) ?_
  refine V.run 0 54 rfl hn trivial ?_
  by_cases hin : 0 ≤ z ∧ z ≤ 4
  · rcases (show z = 0 ∨ z = 1 ∨ z = 2 ∨ z = 3 ∨ z = 4 by omega) with rfl | rfl | rfl | rfl | rfl
    · refine V.swI (x := iZ 0) (tgt := 36) rfl rfl (by decide) (by decide) rfl (by decide) ?_
      refine V.run 0 54 rfl hn trivial ?_
      try simp only [rf_told, rf_comes, rf_comeMany, rf_comeAt, rf_isSeen, rf_goals, rf_text, rf_taken, rf_roadRow, rf_dueNumber, rf_dueTimes, rf_above, rf_tree, rf_way, rf_signs, rf_spent, rf_read, rf_useMany, rf_lastUse, fi_9_0, fi_9_2, fi_9_3, fi_9_4, fi_9_6, fi_9_7, fi_9_14, fi_9_19, fi_9_24, fi_9_26, fi_9_27, fi_9_30]
      rw [hg.2.1]
      refine V.ret (v := some (.int (iZ gs.length))) rfl rfl rfl rfl (h0 rfl)
    · refine V.swI (x := iZ 1) (tgt := 41) rfl rfl (by decide) (by decide) rfl (by decide) ?_
      refine V.run 0 54 rfl hn trivial ?_
      try simp only [rf_told, rf_comes, rf_comeMany, rf_comeAt, rf_isSeen, rf_goals, rf_text, rf_taken, rf_roadRow, rf_dueNumber, rf_dueTimes, rf_above, rf_tree, rf_way, rf_signs, rf_spent, rf_read, rf_useMany, rf_lastUse, fi_9_0, fi_9_2, fi_9_3, fi_9_4, fi_9_6, fi_9_7, fi_9_14, fi_9_19, fi_9_24, fi_9_26, fi_9_27, fi_9_30]
      rw [ht.2.1]
      refine V.ret (v := some (.int (iZ tx.length))) rfl rfl rfl rfl (h1 rfl)
    · refine V.swI (x := iZ 2) (tgt := 46) rfl rfl (by decide) (by decide) rfl (by decide) ?_
      refine V.run 0 54 rfl hn trivial ?_
      try simp only [rf_told, rf_comes, rf_comeMany, rf_comeAt, rf_isSeen, rf_goals, rf_text, rf_taken, rf_roadRow, rf_dueNumber, rf_dueTimes, rf_above, rf_tree, rf_way, rf_signs, rf_spent, rf_read, rf_useMany, rf_lastUse, fi_9_0, fi_9_2, fi_9_3, fi_9_4, fi_9_6, fi_9_7, fi_9_14, fi_9_19, fi_9_24, fi_9_26, fi_9_27, fi_9_30]
      rw [hc.1, iZ_sub]
      refine V.ret (v := some (.int (iZ ((c.length : Int) - 1)))) rfl rfl rfl rfl (h2 rfl)
    · refine V.swI (x := iZ 3) (tgt := 53) rfl rfl (by decide) (by decide) rfl (by decide) ?_
      refine V.run 0 54 rfl hn trivial ?_
      refine V.cv (lo := 54) (d' := d - 1) rfl rfl ok_X9_layUses lk_9_X9_layUses rfl rfl rfl hn (by omega) (Nat.le_refl _) (Nat.le_refl _) ((m_layUses hn (by omega) hc (fun σ1 pk u1 u2 u3 => ?_)))
      refine V.run 0 54 rfl hn trivial ?_
      try simp only [rf_told, rf_comes, rf_comeMany, rf_comeAt, rf_isSeen, rf_goals, rf_text, rf_taken, rf_roadRow, rf_dueNumber, rf_dueTimes, rf_above, rf_tree, rf_way, rf_signs, rf_spent, rf_read, rf_useMany, rf_lastUse, fi_9_0, fi_9_2, fi_9_3, fi_9_4, fi_9_6, fi_9_7, fi_9_14, fi_9_19, fi_9_24, fi_9_26, fi_9_27, fi_9_30]
      rw [u2.2]
      refine V.ret (v := some (.int (iZ (dblN pk c.length : Nat)))) rfl rfl rfl rfl (h3 rfl σ1 pk u1 u3)
    · refine V.swI (x := iZ 4) (tgt := 62) rfl rfl (by decide) (by decide) rfl (by decide) ?_
      refine V.run 0 54 rfl hn trivial ?_
      refine V.cv (lo := 54) (d' := d - 1) rfl rfl ok_X9_layTree lk_9_X9_layTree rfl rfl rfl hn (by omega) (Nat.le_refl _) (Nat.le_refl _) ((m_layTree (N := 1000) hn (by omega) (fun σ1 r hr13 hhas hno hI hf1 => ?_)))
      have e : r = 12 := by
        rcases Nat.lt_or_ge 12 r with q | q
        · have := hno 12 q
          rw [tF_t12] at this
          cases this
        · rcases Nat.lt_or_ge r 12 with q2 | q2
          · obtain ⟨p, hp, e⟩ := hasH_t hhas
            have := hasH_f tF_t11 ((trS_pre mR (show r ≤ 11 by omega)).subset hp)
            exact absurd e this
          · omega
      subst e
      refine V.run 0 54 rfl hn trivial ?_
      try simp only [rf_told, rf_comes, rf_comeMany, rf_comeAt, rf_isSeen, rf_goals, rf_text, rf_taken, rf_roadRow, rf_dueNumber, rf_dueTimes, rf_above, rf_tree, rf_way, rf_signs, rf_spent, rf_read, rf_useMany, rf_lastUse, fi_9_0, fi_9_2, fi_9_3, fi_9_4, fi_9_6, fi_9_7, fi_9_14, fi_9_19, fi_9_24, fi_9_26, fi_9_27, fi_9_30]
      rw [hI.1, tF_sz]
      refine V.ret (v := some (.int (iZ 970))) rfl rfl rfl rfl (h4 rfl σ1 hf1)
  · refine V.swO (x := iZ z) (tgt := 74) rfl rfl (by rw [iZ_toInt hz]; omega) (by decide) ?_
    refine V.run 0 54 rfl hn trivial ?_
    refine V.ret (v := some (.int (iZ (-1)))) rfl rfl rfl rfl (hbad hin)
end MDR
