/-! ===== the class: the tree of powers ===== -/

def trK (σ : Mem) (P : List (List Nat)) : Prop := trI 55 3 56 57 0 4097 σ P
def ptM (σ : Mem) : Prop := trK σ (trC 14) ∧ σ 55 4 = iZ 970
theorem ptM.fr {S : List Nat} {σ σ' : Mem} (h : ptM σ) (hf : Fr S σ σ') (h1 : 55 ∉ S) (h2 : 56 ∉ S) (h3 : 57 ∉ S) : ptM σ' := by
  unfold ptM trK trI at *
  rw [hf 55 h1, hf 56 h2, hf 57 h3]
  exact h
theorem trK_keep {σ σ' : Mem} {P : List (List Nat)} (h : trK σ P) (h1 : σ' 55 3 = σ 55 3) (h2 : σ' 56 = σ 56) (h3 : σ' 57 = σ 57) : trK σ' P := by
  unfold trK trI at *
  rw [h1, h2, h3]
  exact h
theorem rev_get {p : List Nat} {u : Nat} (h : u < p.length) : p.reverse.getD u 0 = p.getD (p.length - 1 - u) 0 := by
  rw [List.getD_eq_getElem?_getD, List.getD_eq_getElem?_getD, List.getElem?_reverse h]
theorem abvC {σ1 : Mem} {P : List (List Nat)} {v : Nat} (hok : okTr P) (hI : trK σ1 P) (hv : v < 4097) (hv2 : 2 ≤ v) (hb : ∀ p ∈ P, p.headD 0 ≤ 4096) : (hasH P v = true ∧ ¬ σ1 56 v = 0 ∧ 0 < σ1 56 v) ∨ (hasH P v = false ∧ σ1 56 v = 0) := by
  cases hh : hasH P v with
  | false => exact Or.inr ⟨rfl, by rw [hI.2.2.2 v hv hh]; rfl⟩
  | true =>
    obtain ⟨p, hp, e⟩ := hasH_t hh
    refine Or.inl ⟨rfl, ?_⟩
    rw [← e, hI.2.2.1 p hp]
    rcases p with _ | ⟨y, _ | ⟨z, q⟩⟩
    · exact absurd rfl (okTr_ne hok hp)
    · have h1 := okTr_one hok hp
      have e : y = v := e
      omega
    · show ¬ iZ (z : Int) = 0 ∧ 0 < iZ (z : Int)
      have h1 := okTr_el hok _ hp z (by simp)
      have h2 := hb _ hp
      rw [iZ_eq0 (by omega), iZ_0lt (by omega)]
      omega
section CP1
variable {d n ca cb tr : Nat} {Q : PQ} {σ : Mem}
theorem c_findWay (hn : 58 ≤ n) {P : List (List Nat)} {p : List Nat} (hok : okTr P) (hI : trK σ P) (hp : p ∈ P) (hb : ∀ p ∈ P, p.length ≤ 14 ∧ p.headD 0 ≤ 4096) (hQ : ∀ σ', (∀ u, u < p.length → σ' 58 u = iZ (p.reverse.getD u 0 : Nat)) → σ' 55 5 = iZ p.length → Fr [55, 58] σ σ' → (∀ j, j ≠ 5 → σ' 55 j = σ 55 j) → Q none (rho ca cb tr) σ') : Mt M_X3_findWay d n n [.ref 55, .int (iZ (p.headD 0 : Nat))] (rho ca cb tr) σ Q := by
  have hpl := hb p hp
  have hpne := okTr_ne hok hp
  have hpos := okTr_hd hok hp
  have hlen1 : 1 ≤ p.length := by
    rcases Nat.eq_zero_or_pos p.length with q | q
    · exact absurd (List.eq_nil_of_length_eq_zero q) hpne
    · exact q
  refine Mt.of rfl (by decide +kernel) tk_X3_findWay (Nat.le_of_ble_eq_true rfl) ?_
  refine V.run 9 58 rfl hn trivial ?_
  -- the second half: the row is turned round
  have turn : ∀ (c t : Nat) (σ2 : Mem) (x2 : Int32) (x5 : Option Value), 2 * t + c = p.length → (∀ u, u < p.length → σ2 58 u = iZ ((if u < t ∨ p.length - 1 - t < u then p.getD (p.length - 1 - u) 0 else p.getD u 0 : Nat) : Int)) → σ2 55 5 = iZ p.length → Fr [55, 58] σ σ2 → (∀ j, j ≠ 5 → σ2 55 j = σ 55 j) → V M_X3_findWay d n n none Q n (rho ca cb tr) σ2 66 [some (.ref 55), some (.int (iZ ((p.headD 0 : Nat)))), some (.int (x2)), some (.int (iZ (t))), some (.int (iZ (((p.length : Int) - 1 - t)))), x5] [] := by
    intro c
    induction c using Nat.strongRecOn with
    | ind c ih =>
      intro t σ2 x2 x5 hc hw h5 hf ho
      by_cases hlt : t < p.length - 1 - t
      · have w1 := hw t (by omega)
        have w2 := hw (p.length - 1 - t) (by omega)
        rw [if_neg (by omega)] at w1 w2
        refine V.run 0 58 rfl hn trivial ?_
        refine V.brF rfl (fun q => by have := (iZ_le (by omega) (by omega)).mp q; omega) ?_
        rw [show (p.length : Int) - 1 - t = ((p.length - 1 - t : Nat) : Int) by omega]
        refine V.run 0 58 rfl hn ⟨in_N (n := 64) (by omega) (by decide), in_N (n := 64) (by omega) (by decide), in_N (n := 64) (by omega) (by decide), in_N (n := 64) (by omega) (by decide), trivial⟩ ?_
        try simp only [rc_1_0, rc_1_1, rc_1_2, rc_1_3, rc_1_4, rc_1_5, rc_2_0, rc_2_1, rc_2_2, rc_6_0, rc_6_1, rc_6_2, rc_6_3, rc_7_0, rc_7_1, rc_7_2, rc_7_3, rc_12_0, rc_12_1, rc_12_2, rc_12_3, rc_18_0, rc_18_1, rc_20_0, rc_20_1, rc_22_0, rc_23_0, rc_25_0, rc_27_0, rc_27_1, rc_27_2, rc_31_0, rc_31_1, rc_31_2, rc_55_0, rc_55_1, rc_55_2, rc_1_6, rc_1_7, rc_23_2, fi_0_1, fi_0_2, fi_0_3, fi_1_3, fi_1_4, fi_1_5, fi_1_6, fi_1_7, fi_2_2, fi_3_3, fi_3_4, fi_3_5, fi_4_1, fi_5_4, fi_5_5, fi_5_6, fi_5_7, fi_5_8, fi_5_9, fi_6_1, fi_7_3, fi_7_4]
        rw [ix_N (by omega), ix_N (by omega), w1, w2]
        have := ih (c - 2) (by omega) (t + 1) (up (up σ2 58 t (iZ (p.getD (p.length - 1 - t) 0 : Nat))) 58 (p.length - 1 - t) (iZ (p.getD t 0 : Nat))) x2 (some (.int (iZ (p.getD t 0 : Nat)))) (by omega) (fun u hu => by
          by_cases e1 : u = p.length - 1 - t
          · rw [e1, up_at, if_pos (by omega), show p.length - 1 - (p.length - 1 - t) = t by omega]
          · rw [up_nat e1]
            by_cases e2 : u = t
            · rw [e2, up_at, if_pos (by omega)]
            · rw [up_nat e2, hw u hu]
              by_cases e3 : u < t ∨ p.length - 1 - t < u
              · rw [if_pos e3, if_pos (by omega)]
              · rw [if_neg e3, if_neg (by omega)]) (by rw [up_ne (by decide), up_ne (by decide)]; exact h5) (Fr.putT (Fr.putT hf (by simp)) (by simp)) (fun j hj => by rw [up_ne (by decide), up_ne (by decide)]; exact ho j hj)
        rw [show ((t + 1 : Nat) : Int) = (t : Int) + 1 by omega, show (p.length : Int) - 1 - ((t : Int) + 1) = ((p.length - 1 - t : Nat) : Int) + (-1) by omega, ← iZ_add, ← iZ_add] at this
        exact this
      · refine V.run 0 58 rfl hn trivial ?_
        refine V.brT rfl ((iZ_le (by omega) (by omega)).mpr (by omega)) ?_
        refine V.ret (v := none) rfl rfl rfl rfl (hQ σ2 (fun u hu => ?_) h5 hf ho)
        rw [hw u hu, rev_get hu]
        by_cases e3 : u < t ∨ p.length - 1 - t < u
        · rw [if_pos e3]
        · rw [if_neg e3, show p.length - 1 - u = u by omega]
  -- the first half: up from the number
  have walk : ∀ (q : List Nat) (i : Nat) (σ3 : Mem), p.drop i = q → i ≤ p.length → (q = [] ∨ q ∈ P) → (∀ u, u < i → σ3 58 u = iZ (p.getD u 0 : Nat)) → σ3 55 5 = iZ i → Fr [55, 58] σ σ3 → (∀ j, j ≠ 5 → σ3 55 j = σ 55 j) → V M_X3_findWay d n n none Q n (rho ca cb tr) σ3 9 [some (.ref 55), some (.int (iZ ((p.headD 0 : Nat)))), some (.int (iZ (hdP 0 q))), some (.int (iZ (i))), none, none] [] := by
    intro q
    induction q with
    | nil =>
      intro i σ3 hq hi hqm hway h5 hf ho
      have e : i = p.length := by
        have := congrArg List.length hq
        rw [List.length_drop, List.length_nil] at this
        omega
      subst e
      refine V.run 0 58 rfl hn trivial ?_
      refine V.brF rfl (fun q => by have := (iZ_le (by omega) (by omega)).mp q; omega) ?_
      refine V.run 0 58 rfl hn trivial ?_
      refine V.brT rfl (by decide) ?_
      refine V.run 66 58 rfl hn trivial ?_
      try simp only [rc_1_0, rc_1_1, rc_1_2, rc_1_3, rc_1_4, rc_1_5, rc_2_0, rc_2_1, rc_2_2, rc_6_0, rc_6_1, rc_6_2, rc_6_3, rc_7_0, rc_7_1, rc_7_2, rc_7_3, rc_12_0, rc_12_1, rc_12_2, rc_12_3, rc_18_0, rc_18_1, rc_20_0, rc_20_1, rc_22_0, rc_23_0, rc_25_0, rc_27_0, rc_27_1, rc_27_2, rc_31_0, rc_31_1, rc_31_2, rc_55_0, rc_55_1, rc_55_2, rc_1_6, rc_1_7, rc_23_2, fi_0_1, fi_0_2, fi_0_3, fi_1_3, fi_1_4, fi_1_5, fi_1_6, fi_1_7, fi_2_2, fi_3_3, fi_3_4, fi_3_5, fi_4_1, fi_5_4, fi_5_5, fi_5_6, fi_5_7, fi_5_8, fi_5_9, fi_6_1, fi_7_3, fi_7_4]
      rw [h5, iZ_sub]
      have := turn p.length 0 σ3 (iZ (hdP 0 [])) none (by omega) (fun u hu => by rw [if_neg (by omega)]; exact hway u hu) h5 hf ho
      rw [show (p.length : Int) - 1 - (0 : Nat) = (p.length : Int) - 1 by omega] at this
      exact this
    | cons y q ihq =>
      intro i σ3 hq hi hqm hway h5 hf ho
      have hyq : y :: q ∈ P := by
        rcases hqm with e | e
        · cases e
        · exact e
      have hil : i < p.length := by
        have := congrArg List.length hq
        rw [List.length_drop, List.length_cons] at this
        omega
      have hyi : p.getD i 0 = y := by
        rw [List.drop_eq_getElem_cons hil] at hq
        rw [List.getD_eq_getElem?_getD, List.getElem?_eq_getElem hil]
        cases hq
        rfl
      have hq2 : p.drop (i + 1) = q := by
        rw [List.drop_eq_getElem_cons hil] at hq
        cases hq
        rfl
      have hyb := okTr_el hok _ hyq y List.mem_cons_self
      have hyc : y ≤ 4096 := (hb _ hyq).2
      have hab : σ3 56 y = iZ (hdP 0 q) := by
        rw [hf 56 (by decide)]
        have := hI.2.2.1 _ hyq
        rw [nxtP_hd] at this
        exact this
      refine V.run 0 58 rfl hn trivial ?_
      refine V.brF rfl (fun q => by have := (iZ_le (by omega) (by omega)).mp q; omega) ?_
      refine V.run 0 58 rfl hn trivial ?_
      refine V.brF rfl (fun q => by have := (iZ_le0 (a := (y : Int)) (by omega)).mp q; omega) ?_
      refine V.run 0 58 rfl hn trivial ?_
      refine V.brF rfl (fun q => by have := (iZ_le (b := (y : Int)) (by omega) (by omega)).mp q; omega) ?_
      have h55 : up σ3 58 (ix (iZ i)) (iZ (hdP 0 (y :: q))) 55 5 = iZ i := by rw [up_ne (by decide)]; exact h5
      refine V.run 0 58 rfl hn ⟨in_N (n := 64) (by omega) (by decide), in_N (k := y) (n := 4097) (by omega) (by decide), trivial⟩ ?_
      try simp only [rc_1_0, rc_1_1, rc_1_2, rc_1_3, rc_1_4, rc_1_5, rc_2_0, rc_2_1, rc_2_2, rc_6_0, rc_6_1, rc_6_2, rc_6_3, rc_7_0, rc_7_1, rc_7_2, rc_7_3, rc_12_0, rc_12_1, rc_12_2, rc_12_3, rc_18_0, rc_18_1, rc_20_0, rc_20_1, rc_22_0, rc_23_0, rc_25_0, rc_27_0, rc_27_1, rc_27_2, rc_31_0, rc_31_1, rc_31_2, rc_55_0, rc_55_1, rc_55_2, rc_1_6, rc_1_7, rc_23_2, fi_0_1, fi_0_2, fi_0_3, fi_1_3, fi_1_4, fi_1_5, fi_1_6, fi_1_7, fi_2_2, fi_3_3, fi_3_4, fi_3_5, fi_4_1, fi_5_4, fi_5_5, fi_5_6, fi_5_7, fi_5_8, fi_5_9, fi_6_1, fi_7_3, fi_7_4]
      rw [h55, iZ_add, ix_N (by omega), show ix (iZ (hdP 0 (y :: q))) = y from ix_N (by omega), up_ne (by decide : (56 : Nat) ≠ 55), up_ne (by decide : (56 : Nat) ≠ 58), hab]
      have := ihq (i + 1) (up (up σ3 58 i (iZ (hdP 0 (y :: q)))) 55 5 (iZ ((i : Int) + 1))) hq2 (by omega) (okTr_suf hok hyq) (fun u hu => by
        rw [up_ne (by decide)]
        by_cases e : u = i
        · rw [e, up_at, hyi]; rfl
        · rw [up_nat e]; exact hway u (by omega)) (by rw [up_at]; rfl) (Fr.putT (Fr.putT hf (by simp)) (by simp)) (fun j hj => by rw [up_nat hj, up_ne (by decide)]; exact ho j hj)
      rw [show ((i + 1 : Nat) : Int) = (i : Int) + 1 by omega, ← iZ_add] at this
      rw [← iZ_add]
      exact this
  have h0 := walk p 0 (up σ 55 5 (iZ 0)) (by rw [List.drop_zero]) (by omega) (Or.inr hp) (fun u hu => by omega) (by rw [up_at]; rfl) (Fr.put (by simp)) (fun j hj => up_nat hj)
  rw [hdP_hd hpne] at h0
  exact h0
theorem c_growBelow (hn : 58 ≤ n) (hd : 1 ≤ d) {m : Nat} {P : List (List Nat)} {p : List Nat} (hm : m ≤ 4096) (hok : okTr P) (hI : trK σ P) (hp : p ∈ P) (hb : ∀ q ∈ sumsP m P p, q.length ≤ 14 ∧ q.headD 0 ≤ 4096) (hsz : (sumsP m P p).length ≤ 1200) (hQ : ∀ σ', trK σ' (sumsP m P p) → Fr [55, 56, 57, 58] σ σ' → σ' 55 4 = σ 55 4 → Q none (rho ca cb tr) σ') : Mt M_X3_growBelow d n n [.ref 55, .int (iZ (p.headD 0 : Nat)), .int (iZ m)] (rho ca cb tr) σ Q := by
  have hpre := sumsP_pre m P p
  have hbP : ∀ p ∈ P, p.length ≤ 14 ∧ p.headD 0 ≤ 4096 := fun q hq => hb q (hpre.subset hq)
  have hpl := hbP p hp
  have hpos := okTr_hd hok hp
  refine Mt.of rfl (by decide +kernel) tk_X3_growBelow (Nat.le_of_ble_eq_true rfl) ?_
  refine V.run 0 58 rfl hn trivial ?_
  refine V.cv (lo := 58) (d' := d - 1) rfl rfl ok_X3_findWay lk_3_X3_findWay rfl rfl rfl hn (by omega) (Nat.le_refl _) (Nat.le_refl _) ((c_findWay hn hok hI hp hbP (fun σ1 w1 w2 wf wo => ?_)))
  have hI1 : trK σ1 P := trK_keep hI (wo 3 (by decide)) (wf 56 (by decide)) (wf 57 (by decide))
  refine V.run 7 58 rfl hn trivial ?_
  have loop : ∀ (c i : Nat) (P2 : List (List Nat)) (σ2 : Mem) (x4 : Option Value), i + c = p.length → (p.reverse.drop i).foldl (sum1 m p) P2 = sumsP m P p → P <+: P2 → okTr P2 → trK σ2 P2 → (∀ u, u < p.length → σ2 58 u = iZ (p.reverse.getD u 0 : Nat)) → σ2 55 5 = iZ p.length → Fr [55, 56, 57, 58] σ σ2 → σ2 55 4 = σ 55 4 → V M_X3_growBelow d n n none Q n (rho ca cb tr) σ2 7 [some (.ref 55), some (.int (iZ ((p.headD 0 : Nat)))), some (.int (iZ (m))), some (.int (iZ (i))), x4] [] := by
    intro c
    induction c with
    | zero =>
      intro i P2 σ2 x4 hi hsum hpre2 hok2 hI2 hway h5 hf2 h4
      rw [List.drop_eq_nil_of_le (by rw [List.length_reverse]; omega)] at hsum
      have e : P2 = sumsP m P p := hsum
      subst e
      refine V.run 0 58 rfl hn trivial ?_
      try simp only [rc_1_0, rc_1_1, rc_1_2, rc_1_3, rc_1_4, rc_1_5, rc_2_0, rc_2_1, rc_2_2, rc_6_0, rc_6_1, rc_6_2, rc_6_3, rc_7_0, rc_7_1, rc_7_2, rc_7_3, rc_12_0, rc_12_1, rc_12_2, rc_12_3, rc_18_0, rc_18_1, rc_20_0, rc_20_1, rc_22_0, rc_23_0, rc_25_0, rc_27_0, rc_27_1, rc_27_2, rc_31_0, rc_31_1, rc_31_2, rc_55_0, rc_55_1, rc_55_2, rc_1_6, rc_1_7, rc_23_2, fi_0_1, fi_0_2, fi_0_3, fi_1_3, fi_1_4, fi_1_5, fi_1_6, fi_1_7, fi_2_2, fi_3_3, fi_3_4, fi_3_5, fi_4_1, fi_5_4, fi_5_5, fi_5_6, fi_5_7, fi_5_8, fi_5_9, fi_6_1, fi_7_3, fi_7_4]
      rw [h5]
      refine V.brT rfl ((iZ_le (by omega) (by omega)).mpr (by omega)) ?_
      refine V.ret (v := none) rfl rfl rfl rfl (hQ σ2 hI2 hf2 h4)
    | succ c ih =>
      intro i P2 σ2 x4 hi hsum hpre2 hok2 hI2 hway h5 hf2 h4
      have hil : i < p.reverse.length := by rw [List.length_reverse]; omega
      have hdr : p.reverse.drop i = p.reverse.getD i 0 :: p.reverse.drop (i + 1) := by
        rw [List.drop_eq_getElem_cons hil, List.getD_eq_getElem?_getD, List.getElem?_eq_getElem hil]
        rfl
      rw [hdr, List.foldl_cons] at hsum
      have hxm : p.reverse.getD i 0 ∈ p := List.mem_reverse.mp (getD_mem2 hil)
      have hwi := hway i (by omega)
      have hxb := okTr_el hok p hp _ hxm
      generalize p.reverse.getD i 0 = x at *
      have hP2 : sum1 m p P2 x <+: sumsP m P p := by
        rw [← hsum]
        exact fold1_pre m p _ _
      have hbP2 : ∀ p ∈ P2, p.headD 0 ≤ 4096 := fun q hq => (hb q (hP2.subset ((sum1_pre m p P2 x).subset hq))).2
      have hpm2 := hpre2.subset hp
      have hok3 := sum1_ok (m := m) hok2 hpm2 hxm
      have hl3 := hP2.length_le
      have k94 : ∀ (σ3 : Mem) (x4 : Option Value), trK σ3 (sum1 m p P2 x) → (∀ u, u < p.length → σ3 58 u = iZ (p.reverse.getD u 0 : Nat)) → σ3 55 5 = iZ p.length → Fr [55, 56, 57, 58] σ σ3 → σ3 55 4 = σ 55 4 → V M_X3_growBelow d n n none Q n (rho ca cb tr) σ3 94 [some (.ref 55), some (.int (iZ ((p.headD 0 : Nat)))), some (.int (iZ (m))), some (.int (iZ (i))), x4] [] := by
        intro σ3 x4 g1 g2 g3 g4 g5
        refine V.run 0 58 rfl hn trivial ?_
        have := ih (i + 1) (sum1 m p P2 x) σ3 x4 (by omega) hsum (hpre2.trans (sum1_pre m p P2 x)) hok3 g1 g2 g3 g4 g5
        rw [show ((i + 1 : Nat) : Int) = (i : Int) + 1 by omega, ← iZ_add] at this
        exact this
      refine V.run 0 58 rfl hn trivial ?_
      try simp only [rc_1_0, rc_1_1, rc_1_2, rc_1_3, rc_1_4, rc_1_5, rc_2_0, rc_2_1, rc_2_2, rc_6_0, rc_6_1, rc_6_2, rc_6_3, rc_7_0, rc_7_1, rc_7_2, rc_7_3, rc_12_0, rc_12_1, rc_12_2, rc_12_3, rc_18_0, rc_18_1, rc_20_0, rc_20_1, rc_22_0, rc_23_0, rc_25_0, rc_27_0, rc_27_1, rc_27_2, rc_31_0, rc_31_1, rc_31_2, rc_55_0, rc_55_1, rc_55_2, rc_1_6, rc_1_7, rc_23_2, fi_0_1, fi_0_2, fi_0_3, fi_1_3, fi_1_4, fi_1_5, fi_1_6, fi_1_7, fi_2_2, fi_3_3, fi_3_4, fi_3_5, fi_4_1, fi_5_4, fi_5_5, fi_5_6, fi_5_7, fi_5_8, fi_5_9, fi_6_1, fi_7_3, fi_7_4]
      rw [h5]
      refine V.brF rfl (fun q => by have := (iZ_le (by omega) (by omega)).mp q; omega) ?_
      refine V.run 0 58 rfl hn ⟨in_N (n := 64) (by omega) (by decide), trivial⟩ ?_
      try simp only [rc_1_0, rc_1_1, rc_1_2, rc_1_3, rc_1_4, rc_1_5, rc_2_0, rc_2_1, rc_2_2, rc_6_0, rc_6_1, rc_6_2, rc_6_3, rc_7_0, rc_7_1, rc_7_2, rc_7_3, rc_12_0, rc_12_1, rc_12_2, rc_12_3, rc_18_0, rc_18_1, rc_20_0, rc_20_1, rc_22_0, rc_23_0, rc_25_0, rc_27_0, rc_27_1, rc_27_2, rc_31_0, rc_31_1, rc_31_2, rc_55_0, rc_55_1, rc_55_2, rc_1_6, rc_1_7, rc_23_2, fi_0_1, fi_0_2, fi_0_3, fi_1_3, fi_1_4, fi_1_5, fi_1_6, fi_1_7, fi_2_2, fi_3_3, fi_3_4, fi_3_5, fi_4_1, fi_5_4, fi_5_5, fi_5_6, fi_5_7, fi_5_8, fi_5_9, fi_6_1, fi_7_3, fi_7_4]
      rw [ix_N (by omega), hwi, iZ_add, show ((p.headD 0 : Nat) : Int) + (x : Int) = ((p.headD 0 + x : Nat) : Int) by omega]
      unfold sum1 at k94 hl3
      have hs2 : 2 ≤ p.headD 0 + x := by omega
      have hs8 : p.headD 0 + x ≤ 8192 := by omega
      generalize hse : p.headD 0 + x = s at *
      have skip : ¬ (Nat.ble s m && !hasH P2 s) = true → ∀ x4, V M_X3_growBelow d n n none Q n (rho ca cb tr) σ2 94 [some (.ref 55), some (.int (iZ ((p.headD 0 : Nat)))), some (.int (iZ (m))), some (.int (iZ (i))), x4] [] := by
        intro hno x4
        rw [if_neg hno] at k94
        exact k94 σ2 x4 hI2 hway h5 hf2 h4
      refine V.brF rfl (fun q => by have := (iZ_le (by omega) (by omega)).mp q; omega) ?_
      refine V.run 0 58 rfl hn trivial ?_
      refine V.br rfl (fun (c1 : iZ m < iZ s) => ?_) (fun (c1 : ¬ (iZ m < iZ s)) => ?_)
      · rw [iZ_lt (by omega) (by omega)] at c1
        refine skip ?_ _
        rw [show Nat.ble s m = false from Bool.eq_false_iff.mpr (fun h => by have := Nat.le_of_ble_eq_true h; omega)]
        simp
      · rw [iZ_lt (by omega) (by omega)] at c1
        have hble : Nat.ble s m = true := Nat.ble_eq_true_of_le (by omega)
        refine V.run 0 58 rfl hn trivial ?_
        refine V.brF rfl (fun q => by have := (iZ_le (by omega) (by omega)).mp q; omega) ?_
        refine V.run 0 58 rfl hn ⟨in_N (n := 4097) (by omega) (by decide), trivial⟩ ?_
        try simp only [rc_1_0, rc_1_1, rc_1_2, rc_1_3, rc_1_4, rc_1_5, rc_2_0, rc_2_1, rc_2_2, rc_6_0, rc_6_1, rc_6_2, rc_6_3, rc_7_0, rc_7_1, rc_7_2, rc_7_3, rc_12_0, rc_12_1, rc_12_2, rc_12_3, rc_18_0, rc_18_1, rc_20_0, rc_20_1, rc_22_0, rc_23_0, rc_25_0, rc_27_0, rc_27_1, rc_27_2, rc_31_0, rc_31_1, rc_31_2, rc_55_0, rc_55_1, rc_55_2, rc_1_6, rc_1_7, rc_23_2, fi_0_1, fi_0_2, fi_0_3, fi_1_3, fi_1_4, fi_1_5, fi_1_6, fi_1_7, fi_2_2, fi_3_3, fi_3_4, fi_3_5, fi_4_1, fi_5_4, fi_5_5, fi_5_6, fi_5_7, fi_5_8, fi_5_9, fi_6_1, fi_7_3, fi_7_4]
        rw [ix_N (by omega)]
        rcases abvC hok2 hI2 (show s < 4097 by omega) hs2 hbP2 with ⟨b1, b2, -⟩ | ⟨b1, b2⟩
        · refine V.brF rfl b2 ?_
          refine skip ?_ _
          rw [b1]
          simp
        · refine V.brT rfl b2 ?_
          rw [hble, b1, if_pos (by simp)] at k94 hl3
          rw [List.length_append, List.length_singleton] at hl3
          refine V.run 0 58 rfl hn trivial ?_
          try simp only [rc_1_0, rc_1_1, rc_1_2, rc_1_3, rc_1_4, rc_1_5, rc_2_0, rc_2_1, rc_2_2, rc_6_0, rc_6_1, rc_6_2, rc_6_3, rc_7_0, rc_7_1, rc_7_2, rc_7_3, rc_12_0, rc_12_1, rc_12_2, rc_12_3, rc_18_0, rc_18_1, rc_20_0, rc_20_1, rc_22_0, rc_23_0, rc_25_0, rc_27_0, rc_27_1, rc_27_2, rc_31_0, rc_31_1, rc_31_2, rc_55_0, rc_55_1, rc_55_2, rc_1_6, rc_1_7, rc_23_2, fi_0_1, fi_0_2, fi_0_3, fi_1_3, fi_1_4, fi_1_5, fi_1_6, fi_1_7, fi_2_2, fi_3_3, fi_3_4, fi_3_5, fi_4_1, fi_5_4, fi_5_5, fi_5_6, fi_5_7, fi_5_8, fi_5_9, fi_6_1, fi_7_3, fi_7_4]
          rw [hI2.1]
          refine V.brF rfl (fun q => by have := (iZ_le (by omega) (by omega)).mp q; omega) ?_
          have hsz2 : up σ2 56 (ix (iZ (s : Int))) (iZ (p.headD 0 : Nat)) 55 3 = iZ P2.length := by rw [up_ne (by decide)]; exact hI2.1
          refine V.run 94 58 rfl hn ⟨in_N (n := 4097) (by omega) (by decide), by (simp only [rc_55_0, rc_55_1, fi_3_3, hsz2]; exact in_N (n := 1280) (by omega) (by decide)), trivial⟩ ?_
          try simp only [rc_1_0, rc_1_1, rc_1_2, rc_1_3, rc_1_4, rc_1_5, rc_2_0, rc_2_1, rc_2_2, rc_6_0, rc_6_1, rc_6_2, rc_6_3, rc_7_0, rc_7_1, rc_7_2, rc_7_3, rc_12_0, rc_12_1, rc_12_2, rc_12_3, rc_18_0, rc_18_1, rc_20_0, rc_20_1, rc_22_0, rc_23_0, rc_25_0, rc_27_0, rc_27_1, rc_27_2, rc_31_0, rc_31_1, rc_31_2, rc_55_0, rc_55_1, rc_55_2, rc_1_6, rc_1_7, rc_23_2, fi_0_1, fi_0_2, fi_0_3, fi_1_3, fi_1_4, fi_1_5, fi_1_6, fi_1_7, fi_2_2, fi_3_3, fi_3_4, fi_3_5, fi_4_1, fi_5_4, fi_5_5, fi_5_6, fi_5_7, fi_5_8, fi_5_9, fi_6_1, fi_7_3, fi_7_4]
          rw [hsz2, up_ne (by decide : (55 : Nat) ≠ 57), hsz2, ix_N (by omega), ix_N (by omega), iZ_add, show (P2.length : Int) + 1 = ((P2.length + 1 : Nat) : Int) by omega]
          refine k94 _ _ (trI_add hI2 (by decide) (by decide) (by decide) (okTr_ne hok hp) b1) (fun u hu => ?_) ?_ (Fr.putT (Fr.putT (Fr.putT hf2 (by simp)) (by simp)) (by simp)) ?_
          · rw [up_ne (by decide), up_ne (by decide), up_ne (by decide)]; exact hway u hu
          · rw [up_nat (by decide), up_ne (by decide), up_ne (by decide)]; exact h5
          · rw [up_nat (by decide), up_ne (by decide), up_ne (by decide)]; exact h4
  exact loop p.length 0 P σ1 none (by omega) (by rw [List.drop_zero]; rfl) (List.prefix_refl _) hok hI1 w1 w2 (wf.mono (by simp)) (wo 4 (by decide))
theorem c_size1000 (hn : 58 ≤ n) (hp : ptM σ) (hQ : Q (some (.int (iZ 970))) (rho ca cb tr) σ) : Mt M_X3_sizeWithThousand d n n [.ref 55] (rho ca cb tr) σ Q := by
  refine Mt.of rfl (by decide +kernel) tk_X3_sizeWithThousand (Nat.le_of_ble_eq_true rfl) ?_
  refine V.run 0 58 rfl hn trivial ?_
  try simp only [rc_1_0, rc_1_1, rc_1_2, rc_1_3, rc_1_4, rc_1_5, rc_2_0, rc_2_1, rc_2_2, rc_6_0, rc_6_1, rc_6_2, rc_6_3, rc_7_0, rc_7_1, rc_7_2, rc_7_3, rc_12_0, rc_12_1, rc_12_2, rc_12_3, rc_18_0, rc_18_1, rc_20_0, rc_20_1, rc_22_0, rc_23_0, rc_25_0, rc_27_0, rc_27_1, rc_27_2, rc_31_0, rc_31_1, rc_31_2, rc_55_0, rc_55_1, rc_55_2, rc_1_6, rc_1_7, rc_23_2, fi_0_1, fi_0_2, fi_0_3, fi_1_3, fi_1_4, fi_1_5, fi_1_6, fi_1_7, fi_2_2, fi_3_3, fi_3_4, fi_3_5, fi_4_1, fi_5_4, fi_5_5, fi_5_6, fi_5_7, fi_5_8, fi_5_9, fi_6_1, fi_7_3, fi_7_4]
  rw [hp.2]
  refine V.ret (v := some (.int (iZ 970))) rfl rfl rfl rfl (hQ)
theorem c_waySize (hn : 58 ≤ n) {k : Nat} (h5 : σ 55 5 = iZ k) (hQ : Q (some (.int (iZ k))) (rho ca cb tr) σ) : Mt M_X3_waySize d n n [.ref 55] (rho ca cb tr) σ Q := by
  refine Mt.of rfl (by decide +kernel) tk_X3_waySize (Nat.le_of_ble_eq_true rfl) ?_
  refine V.run 0 58 rfl hn trivial ?_
  try simp only [rc_1_0, rc_1_1, rc_1_2, rc_1_3, rc_1_4, rc_1_5, rc_2_0, rc_2_1, rc_2_2, rc_6_0, rc_6_1, rc_6_2, rc_6_3, rc_7_0, rc_7_1, rc_7_2, rc_7_3, rc_12_0, rc_12_1, rc_12_2, rc_12_3, rc_18_0, rc_18_1, rc_20_0, rc_20_1, rc_22_0, rc_23_0, rc_25_0, rc_27_0, rc_27_1, rc_27_2, rc_31_0, rc_31_1, rc_31_2, rc_55_0, rc_55_1, rc_55_2, rc_1_6, rc_1_7, rc_23_2, fi_0_1, fi_0_2, fi_0_3, fi_1_3, fi_1_4, fi_1_5, fi_1_6, fi_1_7, fi_2_2, fi_3_3, fi_3_4, fi_3_5, fi_4_1, fi_5_4, fi_5_5, fi_5_6, fi_5_7, fi_5_8, fi_5_9, fi_6_1, fi_7_3, fi_7_4]
  rw [h5]
  refine V.ret (v := some (.int (iZ k))) rfl rfl rfl rfl (hQ)
theorem c_wayAt (hn : 58 ≤ n) {k i v : Nat} (h5 : σ 55 5 = iZ k) (hk : k ≤ 64) (hi : i < k) (hv : σ 58 i = iZ v) (hQ : Q (some (.int (iZ v))) (rho ca cb tr) σ) : Mt M_X3_wayAt d n n [.ref 55, .int (iZ i)] (rho ca cb tr) σ Q := by
  refine Mt.of rfl (by decide +kernel) tk_X3_wayAt (Nat.le_of_ble_eq_true rfl) ?_
  refine V.run 0 58 rfl hn trivial ?_
  refine V.brF rfl (fun q => by have := (iZ_lt0 (by omega)).mp q; omega) ?_
  refine V.run 0 58 rfl hn trivial ?_
  try simp only [rc_1_0, rc_1_1, rc_1_2, rc_1_3, rc_1_4, rc_1_5, rc_2_0, rc_2_1, rc_2_2, rc_6_0, rc_6_1, rc_6_2, rc_6_3, rc_7_0, rc_7_1, rc_7_2, rc_7_3, rc_12_0, rc_12_1, rc_12_2, rc_12_3, rc_18_0, rc_18_1, rc_20_0, rc_20_1, rc_22_0, rc_23_0, rc_25_0, rc_27_0, rc_27_1, rc_27_2, rc_31_0, rc_31_1, rc_31_2, rc_55_0, rc_55_1, rc_55_2, rc_1_6, rc_1_7, rc_23_2, fi_0_1, fi_0_2, fi_0_3, fi_1_3, fi_1_4, fi_1_5, fi_1_6, fi_1_7, fi_2_2, fi_3_3, fi_3_4, fi_3_5, fi_4_1, fi_5_4, fi_5_5, fi_5_6, fi_5_7, fi_5_8, fi_5_9, fi_6_1, fi_7_3, fi_7_4]
  rw [h5]
  refine V.brF rfl (fun q => by have := (iZ_le (by omega) (by omega)).mp q; omega) ?_
  refine V.run 0 58 rfl hn ⟨in_N (n := 64) (by omega) (by decide), trivial⟩ ?_
  try simp only [rc_1_0, rc_1_1, rc_1_2, rc_1_3, rc_1_4, rc_1_5, rc_2_0, rc_2_1, rc_2_2, rc_6_0, rc_6_1, rc_6_2, rc_6_3, rc_7_0, rc_7_1, rc_7_2, rc_7_3, rc_12_0, rc_12_1, rc_12_2, rc_12_3, rc_18_0, rc_18_1, rc_20_0, rc_20_1, rc_22_0, rc_23_0, rc_25_0, rc_27_0, rc_27_1, rc_27_2, rc_31_0, rc_31_1, rc_31_2, rc_55_0, rc_55_1, rc_55_2, rc_1_6, rc_1_7, rc_23_2, fi_0_1, fi_0_2, fi_0_3, fi_1_3, fi_1_4, fi_1_5, fi_1_6, fi_1_7, fi_2_2, fi_3_3, fi_3_4, fi_3_5, fi_4_1, fi_5_4, fi_5_5, fi_5_6, fi_5_7, fi_5_8, fi_5_9, fi_6_1, fi_7_3, fi_7_4]
  rw [ix_N (by omega), hv]
  refine V.ret (v := some (.int (iZ v))) rfl rfl rfl rfl (hQ)
end CP1
