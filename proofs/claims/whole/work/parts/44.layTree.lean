/-! ===== the reference: layTree ===== -/
def nxtP (bot : Int) (p : List Nat) : Int := match p with
  | _ :: y :: _ => (y : Int)
  | _ => bot
def hdP (bot : Int) (p : List Nat) : Int := match p with
  | y :: _ => (y : Int)
  | [] => bot
theorem nxtP_hd (bot : Int) (y : Nat) (q : List Nat) : nxtP bot (y :: q) = hdP bot q := by cases q <;> rfl
theorem hdP_hd {bot : Int} {p : List Nat} (h : p ≠ []) : hdP bot p = ((p.headD 0 : Nat) : Int) := by
  cases p
  · exact absurd rfl h
  · rfl
def trI (oc fc ab od : Nat) (bot : Int) (lim : Nat) (σ : Mem) (P : List (List Nat)) : Prop := σ oc fc = iZ P.length ∧ (∀ k, k < P.length → σ od k = iZ ((P.getD k []).headD 0 : Nat)) ∧ (∀ p ∈ P, σ ab (p.headD 0) = iZ (nxtP bot p)) ∧ (∀ v, v < lim → hasH P v = false → σ ab v = iZ 0)
theorem trI_add {oc fc ab od : Nat} {bot : Int} {lim : Nat} {σ : Mem} {P : List (List Nat)} {p : List Nat} {s : Nat} (h : trI oc fc ab od bot lim σ P) (d1 : oc ≠ ab) (d2 : oc ≠ od) (d3 : ab ≠ od) (hp : p ≠ []) (hs : hasH P s = false) : trI oc fc ab od bot lim (up (up (up σ ab s (iZ (p.headD 0 : Nat))) od P.length (iZ s)) oc fc (iZ (P.length + 1 : Nat))) (P ++ [s :: p]) := by
  obtain ⟨h1, h2, h3, h4⟩ := h
  refine ⟨?_, fun k hk => ?_, fun q hq => ?_, fun v hv hh => ?_⟩
  · rw [up_at, List.length_append]
    rfl
  · rw [up_ne d2.symm]
    rw [List.length_append, List.length_singleton] at hk
    by_cases e : k = P.length
    · subst e
      rw [up_at]
      simp
    · rw [up_nat e, up_ne d3.symm, h2 k (by omega)]
      rw [List.getD_eq_getElem?_getD, List.getD_eq_getElem?_getD, List.getElem?_append_left (by omega)]
  · rw [up_ne d1.symm, up_ne d3]
    rcases List.mem_append.mp hq with hq | hq
    · rw [up_nat (hasH_f hs hq)]
      exact h3 q hq
    · rw [List.mem_singleton] at hq
      subst hq
      show up σ ab s _ ab s = _
      rw [up_at, nxtP_hd, hdP_hd hp]
  · rw [hasH_app, Bool.or_eq_false_iff] at hh
    have hne : v ≠ s := by
      have := hh.2
      intro e
      subst e
      simp at this
    rw [up_ne d1.symm, up_ne d3, up_nat hne]
    exact h4 v hv hh.1
theorem getD_pre {P P1 : List (List Nat)} (h : P <+: P1) {k : Nat} (hk : k < P.length) : P1.getD k [] = P.getD k [] := by
  obtain ⟨t, rfl⟩ := h
  rw [List.getD_eq_getElem?_getD, List.getD_eq_getElem?_getD, List.getElem?_append_left hk]
theorem drop_getD {P : List (List Nat)} {k : Nat} (hk : k < P.length) : P.drop k = P.getD k [] :: P.drop (k + 1) := by
  rw [List.drop_eq_getElem_cons hk, List.getD_eq_getElem?_getD, List.getElem?_eq_getElem hk]
  rfl
theorem take_rev {p : List Nat} {t : Nat} (ht : t < p.length) : (p.take (t + 1)).reverse = p.getD t 0 :: (p.take t).reverse := by
  rw [List.take_succ_eq_append_getElem ht, List.reverse_append, List.getD_eq_getElem?_getD, List.getElem?_eq_getElem ht]
  rfl
theorem okTr_suf {P : List (List Nat)} (h : okTr P) {y : Nat} {q : List Nat} (hp : y :: q ∈ P) : q = [] ∨ q ∈ P := by
  rcases h.2.1 _ hp with e | ⟨s', q', e, hq, _⟩
  · cases e
    exact Or.inl rfl
  · cases e
    exact Or.inr hq
def FrT (σ σ' : Mem) : Prop := Fr [35, 47, 48, 49] σ σ' ∧ ∀ j, j ≠ 19 → σ' 35 j = σ 35 j
theorem FrT.rf {σ : Mem} : FrT σ σ := ⟨Fr.rf, fun _ _ => rfl⟩
theorem FrT.tr {σ σ1 σ2 : Mem} (h1 : FrT σ σ1) (h2 : FrT σ1 σ2) : FrT σ σ2 := ⟨h1.1.tr h2.1, fun j a => (h2.2 j a).trans (h1.2 j a)⟩
theorem FrT.way {σ σ1 : Mem} (h : FrT σ σ1) {i : Nat} {x : Int32} : FrT σ (up σ1 49 i x) := ⟨Fr.putT h.1 (by simp), fun j a => by rw [up_ne (by decide)]; exact h.2 j a⟩
theorem FrT.add {σ σ1 : Mem} (h : FrT σ σ1) {i k : Nat} {x y z : Int32} : FrT σ (up (up (up σ1 47 i x) 48 k y) 35 19 z) := ⟨Fr.putT (Fr.putT (Fr.putT h.1 (by simp)) (by simp)) (by simp), fun j a => by rw [up_nat a, up_ne (by decide), up_ne (by decide)]; exact h.2 j a⟩
theorem trI_way {σ : Mem} {P : List (List Nat)} {i : Nat} {x : Int32} (h : trI 35 19 47 48 (-1) 40000 σ P) : trI 35 19 47 48 (-1) 40000 (up σ 49 i x) P := by
  obtain ⟨h1, h2, h3, h4⟩ := h
  refine ⟨?_, fun k hk => ?_, fun q hq => ?_, fun v hv hh => ?_⟩
  · rw [up_ne (by decide)]; exact h1
  · rw [up_ne (by decide)]; exact h2 k hk
  · rw [up_ne (by decide)]; exact h3 q hq
  · rw [up_ne (by decide)]; exact h4 v hv hh
section MDT
variable {d n ca cb tr : Nat} {Q : PQ} {σ : Mem} {ρ : Ref}
theorem m_layTree (hn : 54 ≤ n) {N : Nat} (hN : 1 ≤ N ∧ N ≤ 1000) (hQ : ∀ σ' r, r ≤ 13 → hasH (trP r) N = true → (∀ r', r' < r → hasH (trP r') N = false) → trI 35 19 47 48 (-1) 40000 σ' (trP r) → FrT σ σ' → Q none (rho ca cb tr) σ') : Mt M_X9_layTree d n n [.ref 35, .int (iZ N)] (rho ca cb tr) σ Q := by
  refine Mt.of rfl (by decide +kernel) tk_X9_layTree (Nat.le_of_ble_eq_true rfl) ?_
  refine V.run 2 54 rfl hn trivial ?_
  have abv : ∀ (σ1 : Mem) (P : List (List Nat)) (v : Nat), okTr P → trI 35 19 47 48 (-1) 40000 σ1 P → v < 40000 → P <+: trP 13 → (hasH P v = true ∧ ¬ σ1 47 v = 0) ∨ (hasH P v = false ∧ σ1 47 v = 0) := by
    intro σ1 P v hok hI hv hpre
    cases hh : hasH P v with
    | false => exact Or.inr ⟨rfl, by rw [hI.2.2.2 v hv hh]; rfl⟩
    | true =>
      obtain ⟨p, hp, e⟩ := hasH_t hh
      refine Or.inl ⟨rfl, ?_⟩
      rw [← e, hI.2.2.1 p hp]
      rcases p with _ | ⟨y, _ | ⟨z, q⟩⟩
      · exact absurd rfl (okTr_ne hok hp)
      · show ¬ iZ (-1) = 0
        decide
      · show ¬ iZ (z : Int) = 0
        have h1 := okTr_el hok _ hp z (by simp)
        have h2 := (tF_bd _ (hpre.subset hp)).2
        rw [iZ_eq0 (by omega)]
        omega
  have main : ∀ (j r : Nat) (σ1 : Mem) (x3 x4 x5 x6 x7 : Option Value), r + j = 13 → trI 35 19 47 48 (-1) 40000 σ1 (trP r) → (∀ r', r' < r → hasH (trP r') N = false) → FrT σ σ1 → V M_X9_layTree d n n none Q n (rho ca cb tr) σ1 42 [some (.ref 35), some (.int (iZ (N))), some (.int (iZ (((trS mR r).2 : Nat)))), x3, x4, x5, x6, x7] [] := by
    intro j
    induction j with
    | zero =>
      intro r σ1 x3 x4 x5 x6 x7 hr hI hno hf
      have e : r = 13 := by omega
      subst e
      refine V.run 0 54 rfl hn ⟨in_N (n := 40000) (by omega) (by decide), trivial⟩ ?_
      try simp only [rf_told, rf_comes, rf_comeMany, rf_comeAt, rf_isSeen, rf_goals, rf_text, rf_taken, rf_roadRow, rf_dueNumber, rf_dueTimes, rf_above, rf_tree, rf_way, rf_signs, rf_spent, rf_read, rf_useMany, rf_lastUse, fi_9_0, fi_9_2, fi_9_3, fi_9_4, fi_9_6, fi_9_7, fi_9_14, fi_9_19, fi_9_24, fi_9_26, fi_9_27, fi_9_30]
      rw [ix_N (by omega)]
      rcases abv σ1 (trP 13) N (trS_ok mR 13) hI (by omega) (List.prefix_refl _) with ⟨a1, a2⟩ | ⟨a1, a2⟩
      · refine V.brF rfl a2 ?_
        refine V.ret (v := none) rfl rfl rfl rfl (hQ σ1 13 (by omega) a1 hno hI hf)
      · rw [tF_all N hN.1 hN.2] at a1
        cases a1
    | succ j ihm =>
      intro r σ1 x3 x4 x5 x6 x7 hr hI hno hf
      have hpr : trP r <+: trP 13 := trS_pre mR (by omega)
      have hpr1 : trP (r + 1) <+: trP 13 := trS_pre mR (by omega)
      refine V.run 0 54 rfl hn ⟨in_N (n := 40000) (by omega) (by decide), trivial⟩ ?_
      try simp only [rf_told, rf_comes, rf_comeMany, rf_comeAt, rf_isSeen, rf_goals, rf_text, rf_taken, rf_roadRow, rf_dueNumber, rf_dueTimes, rf_above, rf_tree, rf_way, rf_signs, rf_spent, rf_read, rf_useMany, rf_lastUse, fi_9_0, fi_9_2, fi_9_3, fi_9_4, fi_9_6, fi_9_7, fi_9_14, fi_9_19, fi_9_24, fi_9_26, fi_9_27, fi_9_30]
      rw [ix_N (by omega)]
      rcases abv σ1 (trP r) N (trS_ok mR r) hI (by omega) hpr with ⟨a1, a2⟩ | ⟨a1, a2⟩
      · refine V.brF rfl a2 ?_
        refine V.ret (v := none) rfl rfl rfl rfl (hQ σ1 r (by omega) a1 hno hI hf)
      · refine V.brT rfl a2 ?_
        refine V.run 59 54 rfl hn trivial ?_
        try simp only [rf_told, rf_comes, rf_comeMany, rf_comeAt, rf_isSeen, rf_goals, rf_text, rf_taken, rf_roadRow, rf_dueNumber, rf_dueTimes, rf_above, rf_tree, rf_way, rf_signs, rf_spent, rf_read, rf_useMany, rf_lastUse, fi_9_0, fi_9_2, fi_9_3, fi_9_4, fi_9_6, fi_9_7, fi_9_14, fi_9_19, fi_9_24, fi_9_26, fi_9_27, fi_9_30]
        rw [hI.1]
        have hl13 := tF_len
        have hrl := hpr.length_le
        have hfr : (trS mR r).2 ≤ (trP r).length := trS_fr mR r
        have row : ∀ (c k : Nat) (P1 : List (List Nat)) (σ2 : Mem) (x5 x6 x7 : Option Value), k + c = (trP r).length → rowP 39999 P1 ((trP r).drop k) = trP (r + 1) → trP r <+: P1 → okTr P1 → trI 35 19 47 48 (-1) 40000 σ2 P1 → FrT σ σ2 → V M_X9_layTree d n n none Q n (rho ca cb tr) σ2 59 [some (.ref 35), some (.int (iZ (N))), some (.int (iZ (((trS mR r).2 : Nat)))), some (.int (iZ (((trP r).length : Nat)))), some (.int (iZ (k))), x5, x6, x7] [] := by
          intro c
          induction c with
          | zero =>
            intro k P1 σ2 x5 x6 x7 hk hrow hpre hok hI2 hf2
            rw [List.drop_eq_nil_of_le (by omega)] at hrow
            refine V.run 0 54 rfl hn trivial ?_
            refine V.brT rfl ((iZ_le (by omega) (by omega)).mpr (by omega)) ?_
            refine V.run 0 54 rfl hn trivial ?_
            have e : P1 = trP (r + 1) := hrow
            subst e
            exact ihm (r + 1) σ2 _ _ _ _ _ (by omega) hI2 (fun r' hr' => by
              by_cases e : r' = r
              · subst e; exact a1
              · exact hno r' (by omega)) hf2
          | succ c ihc =>
            intro k P1 σ2 x5 x6 x7 hk hrow hpre hok hI2 hf2
            have hkl : k < (trP r).length := by omega
            have hP1l : P1 <+: trP (r + 1) := by rw [← hrow]; exact rowP_pre _ _ _
            rw [drop_getD hkl] at hrow
            have hgp := getD_pre hpre hkl
            have hpm : (trP r).getD k [] ∈ P1 := hpre.subset (by rw [List.getD_eq_getElem?_getD, List.getElem?_eq_getElem hkl]; exact List.getElem_mem hkl)
            generalize (trP r).getD k [] = p at *
            have hrow2 : rowP 39999 (sumsP 39999 P1 p) ((trP r).drop (k + 1)) = trP (r + 1) := hrow
            have hpl := tF_bd p (hpr1.subset (hP1l.subset hpm))
            have hpne := okTr_ne hok hpm
            have hpos := okTr_hd hok hpm
            have htk : σ2 48 k = iZ (p.headD 0 : Nat) := by
              rw [hI2.2.1 k (by have := hpre.length_le; omega), hgp]
            refine V.run 0 54 rfl hn trivial ?_
            refine V.brF rfl (fun q => by have := (iZ_le (by omega) (by omega)).mp q; omega) ?_
            refine V.run 77 54 rfl hn ⟨in_N (n := 20000) (by omega) (by decide), trivial⟩ ?_
            try simp only [rf_told, rf_comes, rf_comeMany, rf_comeAt, rf_isSeen, rf_goals, rf_text, rf_taken, rf_roadRow, rf_dueNumber, rf_dueTimes, rf_above, rf_tree, rf_way, rf_signs, rf_spent, rf_read, rf_useMany, rf_lastUse, fi_9_0, fi_9_2, fi_9_3, fi_9_4, fi_9_6, fi_9_7, fi_9_14, fi_9_19, fi_9_24, fi_9_26, fi_9_27, fi_9_30]
            rw [ix_N (by omega), htk]
            -- the sums
            have sums : ∀ (t : Nat) (P2 : List (List Nat)) (σ4 : Mem) (x7 : Option Value), t ≤ p.length → (p.take t).reverse.foldl (sum1 39999 p) P2 = sumsP 39999 P1 p → P1 <+: P2 → okTr P2 → trI 35 19 47 48 (-1) 40000 σ4 P2 → (∀ u, u < p.length → σ4 49 u = iZ (p.getD u 0 : Nat)) → FrT σ σ4 → V M_X9_layTree d n n none Q n (rho ca cb tr) σ4 112 [some (.ref 35), some (.int (iZ (N))), some (.int (iZ (((trS mR r).2 : Nat)))), some (.int (iZ (((trP r).length : Nat)))), some (.int (iZ (k))), some (.int (iZ ((p.length : Nat)))), some (.int (iZ ((t : Int) - 1))), x7] [] := by
              intro t
              induction t with
              | zero =>
                intro P2 σ4 x7 ht hsum hpre2 hok2 hI4 hway hf4
                refine V.run 0 54 rfl hn trivial ?_
                refine V.brT rfl (by decide) ?_
                have e : P2 = sumsP 39999 P1 p := hsum
                subst e
                refine V.run 0 54 rfl hn trivial ?_
                have := ihc (k + 1) _ σ4 (some (.int (iZ (p.length : Nat)))) (some (.int (iZ (((0 : Nat) : Int) - 1)))) x7 (by omega) hrow2 (hpre.trans hpre2) hok2 hI4 hf4
                rw [show ((k + 1 : Nat) : Int) = (k : Int) + 1 by omega, ← iZ_add (k : Int) 1] at this
                exact this
              | succ t iht =>
                intro P2 σ4 x7 ht hsum hpre2 hok2 hI4 hway hf4
                rw [take_rev (by omega), List.foldl_cons] at hsum
                have hxm : p.getD t 0 ∈ p := by
                  rw [List.getD_eq_getElem?_getD, List.getElem?_eq_getElem (by omega)]
                  exact List.getElem_mem _
                have hwt := hway t (by omega)
                have htk4 : σ4 48 k = iZ (p.headD 0 : Nat) := by
                  rw [hI4.2.1 k (by have := (hpre.trans hpre2).length_le; omega), getD_pre hpre2 (by have := hpre.length_le; omega), hgp]
                have hxb := okTr_el hok p hpm _ hxm
                generalize hx : p.getD t 0 = x at *
                have hP2 : P2 <+: trP (r + 1) := by
                  refine (sum1_pre 39999 p P2 x).trans ?_
                  refine (fold1_pre 39999 p (p.take t).reverse _).trans ?_
                  rw [hsum]
                  rw [← hrow2]
                  exact rowP_pre _ _ _
                have hP2l := (hP2.trans hpr1).length_le
                have hpm2 := hpre2.subset hpm
                have hok3 := sum1_ok (m := 39999) hok2 hpm2 hxm
                refine V.run 0 54 rfl hn trivial ?_
                refine V.brF rfl (fun q => by have := (iZ_lt0 (by omega)).mp q; omega) ?_
                rw [show ((t + 1 : Nat) : Int) - 1 = (t : Int) by omega]
                refine V.run 140 54 rfl hn ⟨in_N (n := 20000) (by omega) (by decide), in_N (n := 30) (by omega) (by decide), trivial⟩ ?_
                try simp only [rf_told, rf_comes, rf_comeMany, rf_comeAt, rf_isSeen, rf_goals, rf_text, rf_taken, rf_roadRow, rf_dueNumber, rf_dueTimes, rf_above, rf_tree, rf_way, rf_signs, rf_spent, rf_read, rf_useMany, rf_lastUse, fi_9_0, fi_9_2, fi_9_3, fi_9_4, fi_9_6, fi_9_7, fi_9_14, fi_9_19, fi_9_24, fi_9_26, fi_9_27, fi_9_30]
                rw [ix_N (by omega), ix_N (by omega), htk4, hwt, iZ_add, show ((p.headD 0 : Nat) : Int) + (x : Int) = ((p.headD 0 + x : Nat) : Int) by omega]
                have hs16 : p.headD 0 + x < 40000 := by omega
                have hble : Nat.ble (p.headD 0 + x) 39999 = true := Nat.ble_eq_true_of_le (by omega)
                unfold sum1 at hsum hok3
                generalize p.headD 0 + x = s at *
                refine V.run 0 54 rfl hn ⟨in_N (n := 40000) (by omega) (by decide), trivial⟩ ?_
                try simp only [rf_told, rf_comes, rf_comeMany, rf_comeAt, rf_isSeen, rf_goals, rf_text, rf_taken, rf_roadRow, rf_dueNumber, rf_dueTimes, rf_above, rf_tree, rf_way, rf_signs, rf_spent, rf_read, rf_useMany, rf_lastUse, fi_9_0, fi_9_2, fi_9_3, fi_9_4, fi_9_6, fi_9_7, fi_9_14, fi_9_19, fi_9_24, fi_9_26, fi_9_27, fi_9_30]
                rw [ix_N (by omega)]
                rcases abv σ4 P2 s hok2 hI4 hs16 (hP2.trans hpr1) with ⟨b1, b2⟩ | ⟨b1, b2⟩
                · rw [b1, hble, if_neg (by simp)] at hsum
                  refine V.brF rfl b2 ?_
                  refine V.run 0 54 rfl hn trivial ?_
                  have := iht P2 σ4 (some (.int (iZ s))) (by omega) hsum hpre2 hok2 hI4 hway hf4
                  rw [show (t : Int) - 1 = (t : Int) + (-1) by omega, ← iZ_add (t : Int) (-1)] at this
                  exact this
                · rw [b1, hble, if_pos (by simp)] at hsum hok3
                  refine V.brT rfl b2 ?_
                  have hmn : (up σ4 47 s (iZ (p.headD 0 : Nat))) 35 19 = iZ P2.length := by rw [up_ne (by decide)]; exact hI4.1
                  refine V.run 158 54 rfl hn ⟨in_N (k := k) (n := 20000) (by omega) (by decide), in_N (n := 40000) (by omega) (by decide), trivial⟩ ?_
                  try simp only [rf_told, rf_comes, rf_comeMany, rf_comeAt, rf_isSeen, rf_goals, rf_text, rf_taken, rf_roadRow, rf_dueNumber, rf_dueTimes, rf_above, rf_tree, rf_way, rf_signs, rf_spent, rf_read, rf_useMany, rf_lastUse, fi_9_0, fi_9_2, fi_9_3, fi_9_4, fi_9_6, fi_9_7, fi_9_14, fi_9_19, fi_9_24, fi_9_26, fi_9_27, fi_9_30]
                  rw [ix_N (by omega), ix_N (by omega), htk4]
                  refine V.run 0 54 rfl hn ⟨by rw [hmn]; exact in_N (n := 20000) (by omega) (by decide), trivial⟩ ?_
                  try simp only [rf_told, rf_comes, rf_comeMany, rf_comeAt, rf_isSeen, rf_goals, rf_text, rf_taken, rf_roadRow, rf_dueNumber, rf_dueTimes, rf_above, rf_tree, rf_way, rf_signs, rf_spent, rf_read, rf_useMany, rf_lastUse, fi_9_0, fi_9_2, fi_9_3, fi_9_4, fi_9_6, fi_9_7, fi_9_14, fi_9_19, fi_9_24, fi_9_26, fi_9_27, fi_9_30]
                  rw [up_ne (by decide : (35 : Nat) ≠ 48), hmn, ix_N (by omega), iZ_add, show (P2.length : Int) + 1 = ((P2.length + 1 : Nat) : Int) by omega]
                  have := iht (P2 ++ [s :: p]) _ (some (.int (iZ s))) (by omega) hsum (hpre2.trans (List.prefix_append _ _)) hok3 (trI_add hI4 (by decide) (by decide) (by decide) hpne b1) (fun u hu => by rw [up_ne (by decide), up_ne (by decide), up_ne (by decide)]; exact hway u hu) hf4.add
                  rw [show (t : Int) - 1 = (t : Int) + (-1) by omega, ← iZ_add (t : Int) (-1)] at this
                  exact this
            -- the way
            have walk : ∀ (q : List Nat) (i : Nat) (σ3 : Mem) (x7 : Option Value), p.drop i = q → i ≤ p.length → (q = [] ∨ q ∈ P1) → (∀ u, u < i → σ3 49 u = iZ (p.getD u 0 : Nat)) → trI 35 19 47 48 (-1) 40000 σ3 P1 → FrT σ σ3 → V M_X9_layTree d n n none Q n (rho ca cb tr) σ3 77 [some (.ref 35), some (.int (iZ (N))), some (.int (iZ (((trS mR r).2 : Nat)))), some (.int (iZ (((trP r).length : Nat)))), some (.int (iZ (k))), some (.int (iZ (i))), some (.int (iZ (hdP (-1) q))), x7] [] := by
              intro q
              induction q with
              | nil =>
                intro i σ3 x7 hq hi hqm hway hI3 hf3
                have e : i = p.length := by
                  have := congrArg List.length hq
                  rw [List.length_drop, List.length_nil] at this
                  omega
                subst e
                refine V.run 0 54 rfl hn trivial ?_
                refine V.brT rfl (by decide) ?_
                refine V.run 112 54 rfl hn trivial ?_
                rw [iZ_sub]
                exact sums p.length P1 σ3 x7 (Nat.le_refl _) (by rw [List.take_length]; rfl) (List.prefix_refl _) hok hI3 hway hf3
              | cons y q ihq =>
                intro i σ3 x7 hq hi hqm hway hI3 hf3
                have hyq : y :: q ∈ P1 := by
                  rcases hqm with e | e
                  · cases e
                  · exact e
                have hil : i < p.length := by
                  have := congrArg List.length hq
                  rw [List.length_drop, List.length_cons] at this
                  omega
                have hyi : p.getD i 0 = y := by
                  rw [List.drop_eq_getElem_cons hil] at hq
                  rw [List.getD_eq_getElem?_getD, List.getElem?_eq_getElem hil]
                  cases hq
                  rfl
                have hq2 : p.drop (i + 1) = q := by
                  rw [List.drop_eq_getElem_cons hil] at hq
                  cases hq
                  rfl
                have hyb := okTr_el hok _ hyq y List.mem_cons_self
                have hyc := (tF_bd _ (hpr1.subset (hP1l.subset hyq))).2
                have hyd : (y :: q).headD 0 = y := rfl
                have hab := hI3.2.2.1 _ hyq
                rw [nxtP_hd, hyd] at hab
                show V _ _ _ _ _ _ _ _ _ _ [_, _, _, _, _, _, some (.int (iZ (y : Int))), _] _
                refine V.run 0 54 rfl hn trivial ?_
                refine V.brF rfl (fun c => by have := (iZ_le0 (by omega)).mp c; omega) ?_
                refine V.run 0 54 rfl hn ⟨in_N (n := 30) (by omega) (by decide), in_N (n := 40000) (by omega) (by decide), trivial⟩ ?_
                try simp only [rf_told, rf_comes, rf_comeMany, rf_comeAt, rf_isSeen, rf_goals, rf_text, rf_taken, rf_roadRow, rf_dueNumber, rf_dueTimes, rf_above, rf_tree, rf_way, rf_signs, rf_spent, rf_read, rf_useMany, rf_lastUse, fi_9_0, fi_9_2, fi_9_3, fi_9_4, fi_9_6, fi_9_7, fi_9_14, fi_9_19, fi_9_24, fi_9_26, fi_9_27, fi_9_30]
                rw [ix_N (by omega), ix_N (by omega), up_ne (by decide), hab]
                have := ihq (i + 1) (up σ3 49 i (iZ y)) x7 hq2 (by omega) (okTr_suf hok hyq) (fun u hu => by
                  by_cases e : u = i
                  · subst e; rw [up_at, hyi]
                  · rw [up_nat e]; exact hway u (by omega)) (trI_way hI3) hf3.way
                rw [show ((i + 1 : Nat) : Int) = (i : Int) + 1 by omega, ← iZ_add (i : Int) 1] at this
                exact this
            have := walk p 0 σ2 x7 (by rw [List.drop_zero]) (by omega) (Or.inr hpm) (fun u hu => by omega) hI2 hf2
            rw [hdP_hd hpne] at this
            exact this
        have := row ((trP r).length - (trS mR r).2) (trS mR r).2 (trP r) σ1 x5 x6 x7 (by omega) rfl (List.prefix_refl _) (trS_ok mR r) hI hf
        exact this
  have zero : ∀ (j v : Nat) (σ1 : Mem), v + j = 40000 → (∀ u, u < v → σ1 47 u = iZ 0) → FrT σ σ1 → V M_X9_layTree d n n none Q n (rho ca cb tr) σ1 2 [some (.ref 35), some (.int (iZ (N))), some (.int (iZ (v))), none, none, none, none, none] [] := by
    intro j
    induction j with
    | zero =>
      intro v σ1 hv hz hf
      refine V.run 0 54 rfl hn trivial ?_
      refine V.brT rfl ((iZ_le (by omega) (by omega)).mpr (by omega)) ?_
      refine V.run 42 54 rfl hn ⟨in_iZ (n := 40000) (by omega) (by decide), in_iZ (n := 20000) (by omega) (by decide), trivial⟩ ?_
      try simp only [rf_told, rf_comes, rf_comeMany, rf_comeAt, rf_isSeen, rf_goals, rf_text, rf_taken, rf_roadRow, rf_dueNumber, rf_dueTimes, rf_above, rf_tree, rf_way, rf_signs, rf_spent, rf_read, rf_useMany, rf_lastUse, fi_9_0, fi_9_2, fi_9_3, fi_9_4, fi_9_6, fi_9_7, fi_9_14, fi_9_19, fi_9_24, fi_9_26, fi_9_27, fi_9_30]
      refine main 13 0 _ _ _ _ _ _ (by omega) ?_ (fun r' hr' => by omega) hf.add
      refine ⟨by rw [up_at]; rfl, fun k hk => ?_, fun p hp => ?_, fun u hu hh => ?_⟩
      · have e : k = 0 := by
          have : k < 1 := hk
          omega
        subst e
        rw [up_ne (by decide)]
        exact up_at
      · have e : p = [1] := List.mem_singleton.mp hp
        subst e
        rw [up_ne (by decide), up_ne (by decide)]
        exact up_at
      · have hne : u ≠ 1 := by
          intro e
          subst e
          cases hh
        rw [up_ne (by decide), up_ne (by decide)]
        rw [show ix (iZ 1) = 1 by decide, up_nat hne]
        exact hz u (by omega)
    | succ j ih =>
      intro v σ1 hv hz hf
      refine V.run 0 54 rfl hn trivial ?_
      refine V.brF rfl (fun c => by have := (iZ_le (by omega) (by omega)).mp c; omega) ?_
      refine V.run 0 54 rfl hn ⟨in_N (n := 40000) (by omega) (by decide), trivial⟩ ?_
      try simp only [rf_told, rf_comes, rf_comeMany, rf_comeAt, rf_isSeen, rf_goals, rf_text, rf_taken, rf_roadRow, rf_dueNumber, rf_dueTimes, rf_above, rf_tree, rf_way, rf_signs, rf_spent, rf_read, rf_useMany, rf_lastUse, fi_9_0, fi_9_2, fi_9_3, fi_9_4, fi_9_6, fi_9_7, fi_9_14, fi_9_19, fi_9_24, fi_9_26, fi_9_27, fi_9_30]
      rw [ix_N (by omega)]
      have := ih (v + 1) (up σ1 47 v (iZ 0)) (by omega) (fun u hu => by
        by_cases e : u = v
        · subst e; rw [up_at]
        · rw [up_nat e]; exact hz u (by omega)) ⟨Fr.putT hf.1 (by simp), fun j a => by rw [up_ne (by decide)]; exact hf.2 j a⟩
      rw [show ((v + 1 : Nat) : Int) = (v : Int) + 1 by omega, ← iZ_add (v : Int) 1] at this
      exact this
  exact zero 40000 0 σ (by omega) (fun u hu => by omega) FrT.rf
end MDT
