/-! ===== the class: a gathering (two of them, written by program: cells 18 and 20) ===== -/
def gthM (o : Nat) (σ : Mem) (ws : List Nat) : Prop := wsO ws ∧ σ o 2 = iZ ws.length ∧ (∀ i, i < ws.length → σ (o + 1) i = iZ (ws.getD i 0))
theorem gthM.fr {o : Nat} {S : List Nat} {σ σ' : Mem} {ws : List Nat} (h : gthM o σ ws) (hf : Fr S σ σ') (h1 : o ∉ S) (h2 : o + 1 ∉ S) : gthM o σ' ws := by
  unfold gthM at *
  rw [hf o h1, hf (o + 1) h2]
  exact h
def insR (ws : List Nat) (x : Nat) (ws' : List Nat) : Prop := (∀ y, y ∈ ws' ↔ y = x ∨ y ∈ ws) ∧ ws'.length = ws.length + 1
def insL (ws : List Nat) (p x : Nat) : List Nat := ws.take p ++ x :: ws.drop p
theorem insL_get {ws : List Nat} {p x i : Nat} (hp : p ≤ ws.length) : (insL ws p x).getD i 0 = if i < p then ws.getD i 0 else if i = p then x else ws.getD (i - 1) 0 := by
  unfold insL
  simp only [List.getD_eq_getElem?_getD]
  have hl : (ws.take p).length = p := by rw [List.length_take]; omega
  by_cases h1 : i < p
  · rw [if_pos h1, List.getElem?_append_left (by omega), List.getElem?_take_of_lt h1]
  · rw [if_neg h1, List.getElem?_append_right (by omega), hl]
    by_cases h2 : i = p
    · rw [if_pos h2, h2, Nat.sub_self]
      rfl
    · rw [if_neg h2, show i - p = (i - 1 - p) + 1 by omega, List.getElem?_cons_succ, List.getElem?_drop, show p + (i - 1 - p) = i - 1 by omega]
theorem insL_ok {ws : List Nat} {p x : Nat} (hw : wsO ws) (hl : ws.length < 4) (hx : 2 ≤ x ∧ x ≤ 60) (hp : p ≤ ws.length) (h1 : ∀ i, i < p → ws.getD i 0 < x) (h2 : ∀ i, p ≤ i → i < ws.length → x < ws.getD i 0) : wsO (insL ws p x) ∧ insR ws x (insL ws p x) := by
  have hlen : (insL ws p x).length = ws.length + 1 := by
    unfold insL
    rw [List.length_append, List.length_cons, List.length_take, List.length_drop]
    omega
  have hm : ∀ y, y ∈ insL ws p x ↔ y = x ∨ y ∈ ws := by
    intro y
    unfold insL
    rw [List.mem_append, List.mem_cons]
    constructor
    · rintro (h | h | h)
      · exact Or.inr (List.mem_of_mem_take h)
      · exact Or.inl h
      · exact Or.inr (List.mem_of_mem_drop h)
    · rintro (h | h)
      · exact Or.inr (Or.inl h)
      · rw [← List.take_append_drop p ws, List.mem_append] at h
        rcases h with h | h
        · exact Or.inl h
        · exact Or.inr (Or.inr h)
  refine ⟨⟨by omega, fun y hy => ?_, ?_⟩, hm, hlen⟩
  · rcases (hm y).mp hy with q | q
    · rw [q]; exact hx
    · exact hw.2.1 y q
  · rw [List.pairwise_iff_getElem]
    intro i j hi hj hij
    have e1 := insL_get (ws := ws) (p := p) (x := x) (i := i) hp
    have e2 := insL_get (ws := ws) (p := p) (x := x) (i := j) hp
    rw [List.getD_eq_getElem?_getD, List.getElem?_eq_getElem hi, Option.getD_some] at e1
    rw [List.getD_eq_getElem?_getD, List.getElem?_eq_getElem hj, Option.getD_some] at e2
    rw [e1, e2]
    rw [hlen] at hi hj
    by_cases a1 : i < p
    · rw [if_pos a1]
      by_cases a2 : j < p
      · rw [if_pos a2]; exact pw_get hw.2.2 hij (by omega)
      · rw [if_neg a2]
        by_cases a3 : j = p
        · rw [if_pos a3]; exact h1 i a1
        · rw [if_neg a3]; exact pw_get hw.2.2 (by omega) (by omega)
    · rw [if_neg a1, if_neg (show ¬ j < p by omega), if_neg (show ¬ j = p by omega)]
      by_cases a3 : i = p
      · rw [if_pos a3]; exact h2 (j - 1) (by omega) (by omega)
      · rw [if_neg a3]; exact pw_get hw.2.2 (by omega) (by omega)
section CG18
variable {d n ca cb tr : Nat} {Q : PQ} {σ : Mem}
theorem c_gsize_18 (hn : 54 ≤ n) {ws : List Nat} (hg : gthM 18 σ ws) (hQ : Q (some (.int (iZ ws.length))) (rho ca cb tr) σ) : Mt M_X2_size d n n [.ref 18] (rho ca cb tr) σ Q := by
  refine Mt.of rfl (by decide +kernel) tk_X2_size (Nat.le_of_ble_eq_true rfl) ?_
  refine V.run 0 54 rfl hn trivial ?_
  try simp only [rc_1_0, rc_1_1, rc_1_2, rc_1_3, rc_1_4, rc_1_5, rc_2_0, rc_2_1, rc_2_2, rc_6_0, rc_6_1, rc_6_2, rc_6_3, rc_7_0, rc_7_1, rc_7_2, rc_7_3, rc_12_0, rc_12_1, rc_12_2, rc_12_3, rc_18_0, rc_18_1, rc_20_0, rc_20_1, rc_22_0, rc_23_0, rc_25_0, rc_27_0, rc_27_1, rc_27_2, rc_31_0, rc_31_1, rc_31_2, rc_55_0, rc_55_1, rc_55_2, rc_1_6, rc_1_7, rc_23_2, fi_0_1, fi_0_2, fi_0_3, fi_1_3, fi_1_4, fi_1_5, fi_1_6, fi_1_7, fi_2_2, fi_3_3, fi_3_4, fi_3_5, fi_4_1, fi_5_4, fi_5_5, fi_5_6, fi_5_7, fi_5_8, fi_5_9, fi_6_1, fi_7_3, fi_7_4]
  rw [hg.2.1]
  refine V.ret (v := some (.int (iZ ws.length))) rfl rfl rfl rfl (hQ)
theorem c_gclear_18 (hn : 54 ≤ n) {ws : List Nat} (hg : gthM 18 σ ws) (hQ : ∀ σ', gthM 18 σ' [] → Fr [18] σ σ' → Q none (rho ca cb tr) σ') : Mt M_X2_clear d n n [.ref 18] (rho ca cb tr) σ Q := by
  refine Mt.of rfl (by decide +kernel) tk_X2_clear (Nat.le_of_ble_eq_true rfl) ?_
  refine V.run 0 54 rfl hn trivial ?_
  refine V.ret (v := none) rfl rfl rfl rfl (hQ _ ⟨⟨by simp, fun x hx => (by cases hx), List.Pairwise.nil⟩, up_at, fun i hi => by simp at hi⟩ (Fr.put (by simp)))
theorem c_gholds_18 (hn : 54 ≤ n) {x : Nat} {ws : List Nat} (hx : x ≤ 1000) (hg : gthM 18 σ ws) (h1 : x ∈ ws → Q (some (.int 1)) (rho ca cb tr) σ) (h0 : x ∉ ws → Q (some (.int 0)) (rho ca cb tr) σ) : Mt M_X2_holds d n n [.ref 18, .int (iZ x)] (rho ca cb tr) σ Q := by
  obtain ⟨⟨w1, w2, w3⟩, g2, g3⟩ := id hg
  have g3 : ∀ i, i < ws.length → σ 19 i = iZ (ws.getD i 0) := g3
  refine Mt.of rfl (by decide +kernel) tk_X2_holds (Nat.le_of_ble_eq_true rfl) ?_
  refine V.run 2 54 rfl hn trivial ?_
  have key : ∀ (j i : Nat), i + j = ws.length → (∀ t, t < i → ws.getD t 0 ≠ x) → V M_X2_holds d n n none Q n (rho ca cb tr) σ 2 [some (.ref 18), some (.int (iZ (x))), some (.int (iZ (i)))] [] := by
    intro j
    induction j with
    | zero =>
      intro i hi hno
      refine V.run 0 54 rfl hn trivial ?_
      try simp only [rc_1_0, rc_1_1, rc_1_2, rc_1_3, rc_1_4, rc_1_5, rc_2_0, rc_2_1, rc_2_2, rc_6_0, rc_6_1, rc_6_2, rc_6_3, rc_7_0, rc_7_1, rc_7_2, rc_7_3, rc_12_0, rc_12_1, rc_12_2, rc_12_3, rc_18_0, rc_18_1, rc_20_0, rc_20_1, rc_22_0, rc_23_0, rc_25_0, rc_27_0, rc_27_1, rc_27_2, rc_31_0, rc_31_1, rc_31_2, rc_55_0, rc_55_1, rc_55_2, rc_1_6, rc_1_7, rc_23_2, fi_0_1, fi_0_2, fi_0_3, fi_1_3, fi_1_4, fi_1_5, fi_1_6, fi_1_7, fi_2_2, fi_3_3, fi_3_4, fi_3_5, fi_4_1, fi_5_4, fi_5_5, fi_5_6, fi_5_7, fi_5_8, fi_5_9, fi_6_1, fi_7_3, fi_7_4]
      rw [g2]
      refine V.brT rfl ((iZ_le (by omega) (by omega)).mpr (by omega)) ?_
      refine V.run 0 54 rfl hn trivial ?_
      have hnm : x ∉ ws := fun q => by
        obtain ⟨t, ht, e⟩ := mem_getD q
        exact hno t (by omega) e
      refine V.ret (v := some (.int 0)) rfl rfl ⟨rfl, Or.inl rfl⟩ rfl (h0 hnm)
    | succ j ih =>
      intro i hi hno
      have hb := w2 _ (getD_mem2 (r := ws) (i := i) (by omega))
      refine V.run 0 54 rfl hn trivial ?_
      try simp only [rc_1_0, rc_1_1, rc_1_2, rc_1_3, rc_1_4, rc_1_5, rc_2_0, rc_2_1, rc_2_2, rc_6_0, rc_6_1, rc_6_2, rc_6_3, rc_7_0, rc_7_1, rc_7_2, rc_7_3, rc_12_0, rc_12_1, rc_12_2, rc_12_3, rc_18_0, rc_18_1, rc_20_0, rc_20_1, rc_22_0, rc_23_0, rc_25_0, rc_27_0, rc_27_1, rc_27_2, rc_31_0, rc_31_1, rc_31_2, rc_55_0, rc_55_1, rc_55_2, rc_1_6, rc_1_7, rc_23_2, fi_0_1, fi_0_2, fi_0_3, fi_1_3, fi_1_4, fi_1_5, fi_1_6, fi_1_7, fi_2_2, fi_3_3, fi_3_4, fi_3_5, fi_4_1, fi_5_4, fi_5_5, fi_5_6, fi_5_7, fi_5_8, fi_5_9, fi_6_1, fi_7_3, fi_7_4]
      rw [g2]
      refine V.brF rfl (fun q => by have := (iZ_le (by omega) (by omega)).mp q; omega) ?_
      refine V.run 0 54 rfl hn ⟨in_N (n := 4) (by omega) (by decide), trivial⟩ ?_
      try simp only [rc_1_0, rc_1_1, rc_1_2, rc_1_3, rc_1_4, rc_1_5, rc_2_0, rc_2_1, rc_2_2, rc_6_0, rc_6_1, rc_6_2, rc_6_3, rc_7_0, rc_7_1, rc_7_2, rc_7_3, rc_12_0, rc_12_1, rc_12_2, rc_12_3, rc_18_0, rc_18_1, rc_20_0, rc_20_1, rc_22_0, rc_23_0, rc_25_0, rc_27_0, rc_27_1, rc_27_2, rc_31_0, rc_31_1, rc_31_2, rc_55_0, rc_55_1, rc_55_2, rc_1_6, rc_1_7, rc_23_2, fi_0_1, fi_0_2, fi_0_3, fi_1_3, fi_1_4, fi_1_5, fi_1_6, fi_1_7, fi_2_2, fi_3_3, fi_3_4, fi_3_5, fi_4_1, fi_5_4, fi_5_5, fi_5_6, fi_5_7, fi_5_8, fi_5_9, fi_6_1, fi_7_3, fi_7_4]
      rw [ix_N (by omega), g3 i (by omega)]
      refine V.br rfl (fun (c : iZ (ws.getD i 0) = iZ x) => ?_) (fun (c : ¬ (iZ (ws.getD i 0) = iZ x)) => ?_)
      · rw [iZ_eq (by omega) (by omega)] at c
        refine V.run 0 54 rfl hn trivial ?_
        refine V.ret (v := some (.int 1)) rfl rfl ⟨rfl, Or.inr rfl⟩ rfl (h1 (by rw [show x = ws.getD i 0 by omega]; exact getD_mem2 (by omega)))
      · rw [iZ_eq (by omega) (by omega)] at c
        refine V.run 0 54 rfl hn trivial ?_
        have := ih (i + 1) (by omega) (fun t ht => by
          by_cases e : t = i
          · subst e; omega
          · exact hno t (by omega))
        rw [show ((i + 1 : Nat) : Int) = (i : Int) + 1 by omega, ← iZ_add] at this
        exact this
  exact key ws.length 0 (by omega) (fun t ht => by omega)
theorem c_ginsert_18 (hn : 54 ≤ n) (hd : 1 ≤ d) {x : Nat} {ws : List Nat} (hx : x ≤ 60) (hg : gthM 18 σ ws) (hl : ws.length < 4) (hskip : x ≤ 1 ∨ x ∈ ws → Q none (rho ca cb tr) σ) (hQ : 2 ≤ x → x ∉ ws → ∀ σ' ws', insR ws x ws' → gthM 18 σ' ws' → Fr [18, 19] σ σ' → Q none (rho ca cb tr) σ') : Mt M_X2_insert d n n [.ref 18, .int (iZ x)] (rho ca cb tr) σ Q := by
  obtain ⟨⟨w1, w2, w3⟩, g2, g3⟩ := id hg
  have g3 : ∀ i, i < ws.length → σ 19 i = iZ (ws.getD i 0) := g3
  refine Mt.of rfl (by decide +kernel) tk_X2_insert (Nat.le_of_ble_eq_true rfl) ?_
  refine V.run 0 54 rfl hn trivial ?_
  refine V.br rfl (fun (c : iZ x ≤ iZ 1) => ?_) (fun (c : ¬ (iZ x ≤ iZ 1)) => ?_)
  · rw [iZ_le (by omega) (by omega)] at c
    refine V.run 0 54 rfl hn trivial ?_
    refine V.ret (v := none) rfl rfl rfl rfl (hskip (Or.inl (by omega)))
  · rw [iZ_le (by omega) (by omega)] at c
    refine V.run 0 54 rfl hn trivial ?_
    refine V.cv (lo := 54) (d' := d - 1) rfl rfl ok_X2_holds lk_2_X2_holds rfl rfl rfl hn (by omega) (Nat.le_refl _) (Nat.le_refl _) ((c_gholds_18 hn (by omega) hg (fun hm => ?_) (fun hm => ?_)))
    · refine V.brF rfl (by decide) ?_
      refine V.run 0 54 rfl hn trivial ?_
      refine V.ret (v := none) rfl rfl rfl rfl (hskip (Or.inr hm))
    · refine V.brT rfl rfl ?_
      refine V.run 0 54 rfl hn trivial ?_
      try simp only [rc_1_0, rc_1_1, rc_1_2, rc_1_3, rc_1_4, rc_1_5, rc_2_0, rc_2_1, rc_2_2, rc_6_0, rc_6_1, rc_6_2, rc_6_3, rc_7_0, rc_7_1, rc_7_2, rc_7_3, rc_12_0, rc_12_1, rc_12_2, rc_12_3, rc_18_0, rc_18_1, rc_20_0, rc_20_1, rc_22_0, rc_23_0, rc_25_0, rc_27_0, rc_27_1, rc_27_2, rc_31_0, rc_31_1, rc_31_2, rc_55_0, rc_55_1, rc_55_2, rc_1_6, rc_1_7, rc_23_2, fi_0_1, fi_0_2, fi_0_3, fi_1_3, fi_1_4, fi_1_5, fi_1_6, fi_1_7, fi_2_2, fi_3_3, fi_3_4, fi_3_5, fi_4_1, fi_5_4, fi_5_5, fi_5_6, fi_5_7, fi_5_8, fi_5_9, fi_6_1, fi_7_3, fi_7_4]
      rw [g2]
      refine V.brT rfl ((iZ_lt (by omega) (by omega)).mpr (by omega)) ?_
      have fin : ∀ (p : Nat) (σ1 : Mem), p ≤ ws.length → (∀ t, t < p → σ1 19 t = iZ (ws.getD t 0) ∧ ws.getD t 0 < x) → (∀ t, p ≤ t → t < ws.length → σ1 19 (t + 1) = iZ (ws.getD t 0) ∧ x < ws.getD t 0) → Fr [18, 19] σ σ1 → σ1 18 = σ 18 → V M_X2_insert d n n none Q n (rho ca cb tr) σ1 72 [some (.ref 18), some (.int (iZ (x))), some (.int (iZ (p))), some (.int (iZ (p)))] [] := by
        intro p σ1 hp h1 h2 hf ho
        obtain ⟨o1, o2⟩ := insL_ok (x := x) (p := p) ⟨w1, w2, w3⟩ hl (by omega) hp (fun i hi => (h1 i hi).2) (fun i hi hi2 => (h2 i hi hi2).2)
        refine V.run 0 54 rfl hn ⟨in_N (n := 4) (by omega) (by decide), trivial⟩ ?_
        try simp only [rc_1_0, rc_1_1, rc_1_2, rc_1_3, rc_1_4, rc_1_5, rc_2_0, rc_2_1, rc_2_2, rc_6_0, rc_6_1, rc_6_2, rc_6_3, rc_7_0, rc_7_1, rc_7_2, rc_7_3, rc_12_0, rc_12_1, rc_12_2, rc_12_3, rc_18_0, rc_18_1, rc_20_0, rc_20_1, rc_22_0, rc_23_0, rc_25_0, rc_27_0, rc_27_1, rc_27_2, rc_31_0, rc_31_1, rc_31_2, rc_55_0, rc_55_1, rc_55_2, rc_1_6, rc_1_7, rc_23_2, fi_0_1, fi_0_2, fi_0_3, fi_1_3, fi_1_4, fi_1_5, fi_1_6, fi_1_7, fi_2_2, fi_3_3, fi_3_4, fi_3_5, fi_4_1, fi_5_4, fi_5_5, fi_5_6, fi_5_7, fi_5_8, fi_5_9, fi_6_1, fi_7_3, fi_7_4]
        rw [ix_N (by omega)]
        refine V.ret (v := none) rfl rfl rfl rfl (hQ (by omega) hm _ (insL ws p x) o2 ⟨o1, ?_, fun i hi => ?_⟩ (Fr.putT (Fr.putT hf (by simp)) (by simp)))
        · rw [up_at, up_ne (by decide), ho, g2, iZ_add]
          refine iZ_pat ?_
          rw [o2.2]
          omega
        · show up (up σ1 19 p (iZ x)) 18 2 _ 19 i = _
          rw [up_ne (by decide), insL_get hp]
          rw [o2.2] at hi
          by_cases a1 : i < p
          · rw [if_pos a1, up_nat (by omega), (h1 i a1).1]
          · rw [if_neg a1]
            by_cases a2 : i = p
            · subst a2
              rw [if_pos rfl, up_at]
            · have := (h2 (i - 1) (by omega) (by omega)).1
              rw [show i - 1 + 1 = i by omega] at this
              rw [if_neg a2, up_nat a2, this]
      refine V.run 32 54 rfl hn trivial ?_
      try simp only [rc_1_0, rc_1_1, rc_1_2, rc_1_3, rc_1_4, rc_1_5, rc_2_0, rc_2_1, rc_2_2, rc_6_0, rc_6_1, rc_6_2, rc_6_3, rc_7_0, rc_7_1, rc_7_2, rc_7_3, rc_12_0, rc_12_1, rc_12_2, rc_12_3, rc_18_0, rc_18_1, rc_20_0, rc_20_1, rc_22_0, rc_23_0, rc_25_0, rc_27_0, rc_27_1, rc_27_2, rc_31_0, rc_31_1, rc_31_2, rc_55_0, rc_55_1, rc_55_2, rc_1_6, rc_1_7, rc_23_2, fi_0_1, fi_0_2, fi_0_3, fi_1_3, fi_1_4, fi_1_5, fi_1_6, fi_1_7, fi_2_2, fi_3_3, fi_3_4, fi_3_5, fi_4_1, fi_5_4, fi_5_5, fi_5_6, fi_5_7, fi_5_8, fi_5_9, fi_6_1, fi_7_3, fi_7_4]
      rw [g2]
      have key : ∀ (i : Nat) (σ1 : Mem), i ≤ ws.length → (∀ t, t < i → σ1 19 t = iZ (ws.getD t 0)) → (∀ t, i ≤ t → t < ws.length → σ1 19 (t + 1) = iZ (ws.getD t 0) ∧ x < ws.getD t 0) → Fr [18, 19] σ σ1 → σ1 18 = σ 18 → V M_X2_insert d n n none Q n (rho ca cb tr) σ1 32 [some (.ref 18), some (.int (iZ (x))), some (.int (iZ (i))), some (.int (iZ (i)))] [] := by
        intro i
        induction i with
        | zero =>
          intro σ1 hi h1 h2 hf ho
          refine V.run 0 54 rfl hn trivial ?_
          refine V.brT rfl ((iZ_le0 (by omega)).mpr (by omega)) ?_
          exact fin 0 σ1 hi (fun t ht => by omega) h2 hf ho
        | succ i ih =>
          intro σ1 hi h1 h2 hf ho
          have hb := w2 _ (getD_mem2 (r := ws) (i := i) (by omega))
          refine V.run 0 54 rfl hn trivial ?_
          refine V.brF rfl (fun c => by have := (iZ_le0 (by omega)).mp c; omega) ?_
          have e1 : iZ ((i + 1 : Nat) : Int) - iZ 1 = iZ (i : Int) := by
            rw [iZ_sub]
            exact iZ_pat (by omega)
          refine V.run 0 54 rfl hn ⟨by rw [e1]; exact in_N (n := 4) (by omega) (by decide), trivial⟩ ?_
          try simp only [rc_1_0, rc_1_1, rc_1_2, rc_1_3, rc_1_4, rc_1_5, rc_2_0, rc_2_1, rc_2_2, rc_6_0, rc_6_1, rc_6_2, rc_6_3, rc_7_0, rc_7_1, rc_7_2, rc_7_3, rc_12_0, rc_12_1, rc_12_2, rc_12_3, rc_18_0, rc_18_1, rc_20_0, rc_20_1, rc_22_0, rc_23_0, rc_25_0, rc_27_0, rc_27_1, rc_27_2, rc_31_0, rc_31_1, rc_31_2, rc_55_0, rc_55_1, rc_55_2, rc_1_6, rc_1_7, rc_23_2, fi_0_1, fi_0_2, fi_0_3, fi_1_3, fi_1_4, fi_1_5, fi_1_6, fi_1_7, fi_2_2, fi_3_3, fi_3_4, fi_3_5, fi_4_1, fi_5_4, fi_5_5, fi_5_6, fi_5_7, fi_5_8, fi_5_9, fi_6_1, fi_7_3, fi_7_4]
          rw [e1, ix_N (by omega), h1 i (by omega)]
          refine V.br rfl (fun (c2 : iZ (ws.getD i 0) ≤ iZ x) => ?_) (fun (c2 : ¬ (iZ (ws.getD i 0) ≤ iZ x)) => ?_)
          · rw [iZ_le (by omega) (by omega)] at c2
            refine fin (i + 1) σ1 hi (fun t ht => ⟨h1 t ht, ?_⟩) h2 hf ho
            have hne : ws.getD i 0 ≠ x := fun e => hm (by rw [← e]; exact getD_mem2 (by omega))
            rcases Nat.eq_or_lt_of_le (show t ≤ i by omega) with q | q
            · rw [q]; omega
            · have := pw_get w3 q (by omega)
              omega
          · rw [iZ_le (by omega) (by omega)] at c2
            refine V.run 0 54 rfl hn ⟨by rw [e1]; exact in_N (n := 4) (by omega) (by decide), in_N (n := 4) (by omega) (by decide), trivial⟩ ?_
            try simp only [rc_1_0, rc_1_1, rc_1_2, rc_1_3, rc_1_4, rc_1_5, rc_2_0, rc_2_1, rc_2_2, rc_6_0, rc_6_1, rc_6_2, rc_6_3, rc_7_0, rc_7_1, rc_7_2, rc_7_3, rc_12_0, rc_12_1, rc_12_2, rc_12_3, rc_18_0, rc_18_1, rc_20_0, rc_20_1, rc_22_0, rc_23_0, rc_25_0, rc_27_0, rc_27_1, rc_27_2, rc_31_0, rc_31_1, rc_31_2, rc_55_0, rc_55_1, rc_55_2, rc_1_6, rc_1_7, rc_23_2, fi_0_1, fi_0_2, fi_0_3, fi_1_3, fi_1_4, fi_1_5, fi_1_6, fi_1_7, fi_2_2, fi_3_3, fi_3_4, fi_3_5, fi_4_1, fi_5_4, fi_5_5, fi_5_6, fi_5_7, fi_5_8, fi_5_9, fi_6_1, fi_7_3, fi_7_4]
            rw [e1, ix_N (by omega), ix_N (by omega), h1 i (by omega)]
            have key := ih (up σ1 19 (i + 1) (iZ (ws.getD i 0))) (by omega) (fun t ht => by rw [up_nat (by omega)]; exact h1 t (by omega)) (fun t ht ht2 => by
              by_cases e : t = i
              · subst e
                exact ⟨up_at, by omega⟩
              · rw [up_nat (by omega)]
                exact h2 t (by omega) ht2) (Fr.putT hf (by simp)) (by rw [up_ne (by decide)]; exact ho)
            have e2 : iZ ((i + 1 : Nat) : Int) + iZ (-1) = iZ (i : Int) := by
              rw [iZ_add]
              exact iZ_pat (by omega)
            rw [e2]
            exact key
      exact key ws.length σ (Nat.le_refl _) g3 (fun t h1 h2 => by omega) Fr.rf rfl
theorem c_glowest_18 (hn : 54 ≤ n) (hd : 3 ≤ d) {next : Nat} {s : Int} {ws r : List Nat} (hs : -100 ≤ s ∧ s ≤ 100) (hnx : next ≤ 4) (hg : gthM 18 σ ws) (ht : trialM σ 0 r) (hQ : ∀ L : Nat, L ≤ 1000 → lastD r + 1 ≤ L → (∀ i, next ≤ i → i < ws.length → ltR (ws.getD i 0) (s - ((ws.length : Int) - 1 - i)) ≤ L) → (L = lastD r + 1 ∨ ∃ i, next ≤ i ∧ i < ws.length ∧ L = ltR (ws.getD i 0) (s - ((ws.length : Int) - 1 - i))) → Q (some (.int (iZ L))) (rho ca cb tr) σ) : Mt M_X2_lowest d n n [.ref 18, .int (iZ next), .int (iZ s)] (rho ca cb tr) σ Q := by
  obtain ⟨⟨w1, w2, w3⟩, g2, g3⟩ := id hg
  have g3 : ∀ i, i < ws.length → σ 19 i = iZ (ws.getD i 0) := g3
  have hl := last_le ht
  refine Mt.of rfl (by decide +kernel) tk_X2_lowest (Nat.le_of_ble_eq_true rfl) ?_
  refine V.run 0 54 rfl hn trivial ?_
  try simp only [rc_1_0, rc_1_1, rc_1_2, rc_1_3, rc_1_4, rc_1_5, rc_2_0, rc_2_1, rc_2_2, rc_6_0, rc_6_1, rc_6_2, rc_6_3, rc_7_0, rc_7_1, rc_7_2, rc_7_3, rc_12_0, rc_12_1, rc_12_2, rc_12_3, rc_18_0, rc_18_1, rc_20_0, rc_20_1, rc_22_0, rc_23_0, rc_25_0, rc_27_0, rc_27_1, rc_27_2, rc_31_0, rc_31_1, rc_31_2, rc_55_0, rc_55_1, rc_55_2, rc_1_6, rc_1_7, rc_23_2, fi_0_1, fi_0_2, fi_0_3, fi_1_3, fi_1_4, fi_1_5, fi_1_6, fi_1_7, fi_2_2, fi_3_3, fi_3_4, fi_3_5, fi_4_1, fi_5_4, fi_5_5, fi_5_6, fi_5_7, fi_5_8, fi_5_9, fi_6_1, fi_7_3, fi_7_4]
  refine V.cv (lo := 54) (d' := d - 1) rfl rfl ok_X7_latest lk_2_X7_latest rfl rfl rfl hn (by omega) (Nat.le_refl _) (Nat.le_refl _) ((c_latest hn (by omega) ht ?_))
  refine V.run 0 54 rfl hn trivial ?_
  rw [iZ_add, show (lastD r : Int) + 1 = ((lastD r + 1 : Nat) : Int) by omega]
  refine V.max rfl rfl lm_2_max rfl (by omega) (Nat.le_refl _) ?_
  have e0 : (if iZ 0 < iZ (next : Int) then iZ (next : Int) else iZ 0) = iZ (next : Int) := by
    by_cases h : 0 < next
    · rw [if_pos ((iZ_lt (by omega) (by omega)).mpr (by omega))]
    · rw [if_neg (fun c => by have := (iZ_lt (by omega) (by omega)).mp c; omega)]
      exact iZ_pat (by omega)
  rw [e0]
  refine V.run 17 54 rfl hn trivial ?_
  have key : ∀ (j i L : Nat), i + j = max ws.length next → next ≤ i → L ≤ 1000 → lastD r + 1 ≤ L → (∀ t, next ≤ t → t < i → t < ws.length → ltR (ws.getD t 0) (s - ((ws.length : Int) - 1 - t)) ≤ L) → (L = lastD r + 1 ∨ ∃ i, next ≤ i ∧ i < ws.length ∧ L = ltR (ws.getD i 0) (s - ((ws.length : Int) - 1 - i))) → V M_X2_lowest d n n none Q n (rho ca cb tr) σ 17 [some (.ref 18), some (.int (iZ (next))), some (.int (iZ (s))), some (.int (iZ (L))), some (.int (iZ (i)))] [] := by
    intro j
    induction j with
    | zero =>
      intro i L hi hi2 h1 h2 h3 h4
      refine V.run 0 54 rfl hn trivial ?_
      try simp only [rc_1_0, rc_1_1, rc_1_2, rc_1_3, rc_1_4, rc_1_5, rc_2_0, rc_2_1, rc_2_2, rc_6_0, rc_6_1, rc_6_2, rc_6_3, rc_7_0, rc_7_1, rc_7_2, rc_7_3, rc_12_0, rc_12_1, rc_12_2, rc_12_3, rc_18_0, rc_18_1, rc_20_0, rc_20_1, rc_22_0, rc_23_0, rc_25_0, rc_27_0, rc_27_1, rc_27_2, rc_31_0, rc_31_1, rc_31_2, rc_55_0, rc_55_1, rc_55_2, rc_1_6, rc_1_7, rc_23_2, fi_0_1, fi_0_2, fi_0_3, fi_1_3, fi_1_4, fi_1_5, fi_1_6, fi_1_7, fi_2_2, fi_3_3, fi_3_4, fi_3_5, fi_4_1, fi_5_4, fi_5_5, fi_5_6, fi_5_7, fi_5_8, fi_5_9, fi_6_1, fi_7_3, fi_7_4]
      rw [g2]
      refine V.brT rfl ((iZ_le (by omega) (by omega)).mpr (by omega)) ?_
      refine V.run 0 54 rfl hn trivial ?_
      refine V.ret (v := some (.int (iZ L))) rfl rfl rfl rfl (hQ L h1 h2 (fun t a b => h3 t a (by omega) b) h4)
    | succ j ih =>
      intro i L hi hi2 h1 h2 h3 h4
      refine V.run 0 54 rfl hn trivial ?_
      try simp only [rc_1_0, rc_1_1, rc_1_2, rc_1_3, rc_1_4, rc_1_5, rc_2_0, rc_2_1, rc_2_2, rc_6_0, rc_6_1, rc_6_2, rc_6_3, rc_7_0, rc_7_1, rc_7_2, rc_7_3, rc_12_0, rc_12_1, rc_12_2, rc_12_3, rc_18_0, rc_18_1, rc_20_0, rc_20_1, rc_22_0, rc_23_0, rc_25_0, rc_27_0, rc_27_1, rc_27_2, rc_31_0, rc_31_1, rc_31_2, rc_55_0, rc_55_1, rc_55_2, rc_1_6, rc_1_7, rc_23_2, fi_0_1, fi_0_2, fi_0_3, fi_1_3, fi_1_4, fi_1_5, fi_1_6, fi_1_7, fi_2_2, fi_3_3, fi_3_4, fi_3_5, fi_4_1, fi_5_4, fi_5_5, fi_5_6, fi_5_7, fi_5_8, fi_5_9, fi_6_1, fi_7_3, fi_7_4]
      rw [g2]
      refine V.br rfl (fun (c : iZ ws.length ≤ iZ i) => ?_) (fun (c : ¬ (iZ ws.length ≤ iZ i)) => ?_)
      · rw [iZ_le (by omega) (by omega)] at c
        refine V.run 0 54 rfl hn trivial ?_
        refine V.ret (v := some (.int (iZ L))) rfl rfl rfl rfl (hQ L h1 h2 (fun t a b => h3 t a (by omega) b) h4)
      · rw [iZ_le (by omega) (by omega)] at c
        have hb := w2 _ (getD_mem2 (r := ws) (i := i) (by omega))
        refine V.run 0 54 rfl hn ⟨in_N (n := 4) (by omega) (by decide), trivial⟩ ?_
        try simp only [rc_1_0, rc_1_1, rc_1_2, rc_1_3, rc_1_4, rc_1_5, rc_2_0, rc_2_1, rc_2_2, rc_6_0, rc_6_1, rc_6_2, rc_6_3, rc_7_0, rc_7_1, rc_7_2, rc_7_3, rc_12_0, rc_12_1, rc_12_2, rc_12_3, rc_18_0, rc_18_1, rc_20_0, rc_20_1, rc_22_0, rc_23_0, rc_25_0, rc_27_0, rc_27_1, rc_27_2, rc_31_0, rc_31_1, rc_31_2, rc_55_0, rc_55_1, rc_55_2, rc_1_6, rc_1_7, rc_23_2, fi_0_1, fi_0_2, fi_0_3, fi_1_3, fi_1_4, fi_1_5, fi_1_6, fi_1_7, fi_2_2, fi_3_3, fi_3_4, fi_3_5, fi_4_1, fi_5_4, fi_5_5, fi_5_6, fi_5_7, fi_5_8, fi_5_9, fi_6_1, fi_7_3, fi_7_4]
        rw [g2, ix_N (by omega), g3 i (by omega), iZ_sub, iZ_sub, iZ_sub]
        refine V.csn (d' := d - 1) rfl rfl ok_X8_leastToReach (List.mem_of_getElem? (i := 4) rfl) rfl (by omega) (Nat.le_refl _) (Nat.le_refl _) ((c_leastToReach (by omega) (by omega) (by omega) ?_))
        have hle : ltR (ws.getD i 0) (s - ((ws.length : Int) - 1 - i)) ≤ 60 := by
          rcases Nat.lt_or_ge 60 (ltR (ws.getD i 0) (s - ((ws.length : Int) - 1 - i))) with q | q
          · have := ltR_lt.mp q
            have hp : 1 ≤ 2 ^ shS (s - ((ws.length : Int) - 1 - i)) := Nat.pow_pos (by decide)
            have : 60 * 1 ≤ 60 * 2 ^ shS (s - ((ws.length : Int) - 1 - i)) := Nat.mul_le_mul_left _ hp
            omega
          · exact q
        refine V.max rfl rfl lm_2_max rfl (by omega) (Nat.le_refl _) ?_
        have e1 : (if iZ (L : Int) < iZ (ltR (ws.getD i 0) (s - ((ws.length : Int) - 1 - i)) : Nat) then iZ (ltR (ws.getD i 0) (s - ((ws.length : Int) - 1 - i)) : Nat) else iZ (L : Int)) = iZ (max L (ltR (ws.getD i 0) (s - ((ws.length : Int) - 1 - i))) : Nat) := by
          by_cases h : L < ltR (ws.getD i 0) (s - ((ws.length : Int) - 1 - i))
          · rw [if_pos ((iZ_lt (by omega) (by omega)).mpr (by omega))]
            exact iZ_pat (by omega)
          · rw [if_neg (fun c => by have := (iZ_lt (by omega) (by omega)).mp c; omega)]
            exact iZ_pat (by omega)
        rw [e1]
        refine V.run 0 54 rfl hn trivial ?_
        have := ih (i + 1) (max L (ltR (ws.getD i 0) (s - ((ws.length : Int) - 1 - i)))) (by omega) (by omega) (by omega) (by omega) (fun t a b c2 => by
          by_cases e : t = i
          · subst e; exact Nat.le_max_right _ _
          · exact Nat.le_trans (h3 t a (by omega) c2) (Nat.le_max_left _ _)) (by
          rcases Nat.le_total L (ltR (ws.getD i 0) (s - ((ws.length : Int) - 1 - i))) with q | q
          · exact Or.inr ⟨i, hi2, by omega, Nat.max_eq_right q⟩
          · rw [Nat.max_eq_left q]; exact h4)
        rw [show ((i + 1 : Nat) : Int) = (i : Int) + 1 by omega, ← iZ_add] at this
        exact this
  exact key (max ws.length next - next) next (lastD r + 1) (by omega) (Nat.le_refl _) (by omega) (Nat.le_refl _) (fun t a b _ => by omega) (Or.inl rfl)
end CG18
section CG20
variable {d n ca cb tr : Nat} {Q : PQ} {σ : Mem}
theorem c_gsize_20 (hn : 54 ≤ n) {ws : List Nat} (hg : gthM 20 σ ws) (hQ : Q (some (.int (iZ ws.length))) (rho ca cb tr) σ) : Mt M_X2_size d n n [.ref 20] (rho ca cb tr) σ Q := by
  refine Mt.of rfl (by decide +kernel) tk_X2_size (Nat.le_of_ble_eq_true rfl) ?_
  refine V.run 0 54 rfl hn trivial ?_
  try simp only [rc_1_0, rc_1_1, rc_1_2, rc_1_3, rc_1_4, rc_1_5, rc_2_0, rc_2_1, rc_2_2, rc_6_0, rc_6_1, rc_6_2, rc_6_3, rc_7_0, rc_7_1, rc_7_2, rc_7_3, rc_12_0, rc_12_1, rc_12_2, rc_12_3, rc_18_0, rc_18_1, rc_20_0, rc_20_1, rc_22_0, rc_23_0, rc_25_0, rc_27_0, rc_27_1, rc_27_2, rc_31_0, rc_31_1, rc_31_2, rc_55_0, rc_55_1, rc_55_2, rc_1_6, rc_1_7, rc_23_2, fi_0_1, fi_0_2, fi_0_3, fi_1_3, fi_1_4, fi_1_5, fi_1_6, fi_1_7, fi_2_2, fi_3_3, fi_3_4, fi_3_5, fi_4_1, fi_5_4, fi_5_5, fi_5_6, fi_5_7, fi_5_8, fi_5_9, fi_6_1, fi_7_3, fi_7_4]
  rw [hg.2.1]
  refine V.ret (v := some (.int (iZ ws.length))) rfl rfl rfl rfl (hQ)
theorem c_gclear_20 (hn : 54 ≤ n) {ws : List Nat} (hg : gthM 20 σ ws) (hQ : ∀ σ', gthM 20 σ' [] → Fr [20] σ σ' → Q none (rho ca cb tr) σ') : Mt M_X2_clear d n n [.ref 20] (rho ca cb tr) σ Q := by
  refine Mt.of rfl (by decide +kernel) tk_X2_clear (Nat.le_of_ble_eq_true rfl) ?_
  refine V.run 0 54 rfl hn trivial ?_
  refine V.ret (v := none) rfl rfl rfl rfl (hQ _ ⟨⟨by simp, fun x hx => (by cases hx), List.Pairwise.nil⟩, up_at, fun i hi => by simp at hi⟩ (Fr.put (by simp)))
theorem c_gholds_20 (hn : 54 ≤ n) {x : Nat} {ws : List Nat} (hx : x ≤ 1000) (hg : gthM 20 σ ws) (h1 : x ∈ ws → Q (some (.int 1)) (rho ca cb tr) σ) (h0 : x ∉ ws → Q (some (.int 0)) (rho ca cb tr) σ) : Mt M_X2_holds d n n [.ref 20, .int (iZ x)] (rho ca cb tr) σ Q := by
  obtain ⟨⟨w1, w2, w3⟩, g2, g3⟩ := id hg
  have g3 : ∀ i, i < ws.length → σ 21 i = iZ (ws.getD i 0) := g3
  refine Mt.of rfl (by decide +kernel) tk_X2_holds (Nat.le_of_ble_eq_true rfl) ?_
  refine V.run 2 54 rfl hn trivial ?_
  have key : ∀ (j i : Nat), i + j = ws.length → (∀ t, t < i → ws.getD t 0 ≠ x) → V M_X2_holds d n n none Q n (rho ca cb tr) σ 2 [some (.ref 20), some (.int (iZ (x))), some (.int (iZ (i)))] [] := by
    intro j
    induction j with
    | zero =>
      intro i hi hno
      refine V.run 0 54 rfl hn trivial ?_
      try simp only [rc_1_0, rc_1_1, rc_1_2, rc_1_3, rc_1_4, rc_1_5, rc_2_0, rc_2_1, rc_2_2, rc_6_0, rc_6_1, rc_6_2, rc_6_3, rc_7_0, rc_7_1, rc_7_2, rc_7_3, rc_12_0, rc_12_1, rc_12_2, rc_12_3, rc_18_0, rc_18_1, rc_20_0, rc_20_1, rc_22_0, rc_23_0, rc_25_0, rc_27_0, rc_27_1, rc_27_2, rc_31_0, rc_31_1, rc_31_2, rc_55_0, rc_55_1, rc_55_2, rc_1_6, rc_1_7, rc_23_2, fi_0_1, fi_0_2, fi_0_3, fi_1_3, fi_1_4, fi_1_5, fi_1_6, fi_1_7, fi_2_2, fi_3_3, fi_3_4, fi_3_5, fi_4_1, fi_5_4, fi_5_5, fi_5_6, fi_5_7, fi_5_8, fi_5_9, fi_6_1, fi_7_3, fi_7_4]
      rw [g2]
      refine V.brT rfl ((iZ_le (by omega) (by omega)).mpr (by omega)) ?_
      refine V.run 0 54 rfl hn trivial ?_
      have hnm : x ∉ ws := fun q => by
        obtain ⟨t, ht, e⟩ := mem_getD q
        exact hno t (by omega) e
      refine V.ret (v := some (.int 0)) rfl rfl ⟨rfl, Or.inl rfl⟩ rfl (h0 hnm)
    | succ j ih =>
      intro i hi hno
      have hb := w2 _ (getD_mem2 (r := ws) (i := i) (by omega))
      refine V.run 0 54 rfl hn trivial ?_
      try simp only [rc_1_0, rc_1_1, rc_1_2, rc_1_3, rc_1_4, rc_1_5, rc_2_0, rc_2_1, rc_2_2, rc_6_0, rc_6_1, rc_6_2, rc_6_3, rc_7_0, rc_7_1, rc_7_2, rc_7_3, rc_12_0, rc_12_1, rc_12_2, rc_12_3, rc_18_0, rc_18_1, rc_20_0, rc_20_1, rc_22_0, rc_23_0, rc_25_0, rc_27_0, rc_27_1, rc_27_2, rc_31_0, rc_31_1, rc_31_2, rc_55_0, rc_55_1, rc_55_2, rc_1_6, rc_1_7, rc_23_2, fi_0_1, fi_0_2, fi_0_3, fi_1_3, fi_1_4, fi_1_5, fi_1_6, fi_1_7, fi_2_2, fi_3_3, fi_3_4, fi_3_5, fi_4_1, fi_5_4, fi_5_5, fi_5_6, fi_5_7, fi_5_8, fi_5_9, fi_6_1, fi_7_3, fi_7_4]
      rw [g2]
      refine V.brF rfl (fun q => by have := (iZ_le (by omega) (by omega)).mp q; omega) ?_
      refine V.run 0 54 rfl hn ⟨in_N (n := 4) (by omega) (by decide), trivial⟩ ?_
      try simp only [rc_1_0, rc_1_1, rc_1_2, rc_1_3, rc_1_4, rc_1_5, rc_2_0, rc_2_1, rc_2_2, rc_6_0, rc_6_1, rc_6_2, rc_6_3, rc_7_0, rc_7_1, rc_7_2, rc_7_3, rc_12_0, rc_12_1, rc_12_2, rc_12_3, rc_18_0, rc_18_1, rc_20_0, rc_20_1, rc_22_0, rc_23_0, rc_25_0, rc_27_0, rc_27_1, rc_27_2, rc_31_0, rc_31_1, rc_31_2, rc_55_0, rc_55_1, rc_55_2, rc_1_6, rc_1_7, rc_23_2, fi_0_1, fi_0_2, fi_0_3, fi_1_3, fi_1_4, fi_1_5, fi_1_6, fi_1_7, fi_2_2, fi_3_3, fi_3_4, fi_3_5, fi_4_1, fi_5_4, fi_5_5, fi_5_6, fi_5_7, fi_5_8, fi_5_9, fi_6_1, fi_7_3, fi_7_4]
      rw [ix_N (by omega), g3 i (by omega)]
      refine V.br rfl (fun (c : iZ (ws.getD i 0) = iZ x) => ?_) (fun (c : ¬ (iZ (ws.getD i 0) = iZ x)) => ?_)
      · rw [iZ_eq (by omega) (by omega)] at c
        refine V.run 0 54 rfl hn trivial ?_
        refine V.ret (v := some (.int 1)) rfl rfl ⟨rfl, Or.inr rfl⟩ rfl (h1 (by rw [show x = ws.getD i 0 by omega]; exact getD_mem2 (by omega)))
      · rw [iZ_eq (by omega) (by omega)] at c
        refine V.run 0 54 rfl hn trivial ?_
        have := ih (i + 1) (by omega) (fun t ht => by
          by_cases e : t = i
          · subst e; omega
          · exact hno t (by omega))
        rw [show ((i + 1 : Nat) : Int) = (i : Int) + 1 by omega, ← iZ_add] at this
        exact this
  exact key ws.length 0 (by omega) (fun t ht => by omega)
theorem c_ginsert_20 (hn : 54 ≤ n) (hd : 1 ≤ d) {x : Nat} {ws : List Nat} (hx : x ≤ 60) (hg : gthM 20 σ ws) (hl : ws.length < 4) (hskip : x ≤ 1 ∨ x ∈ ws → Q none (rho ca cb tr) σ) (hQ : 2 ≤ x → x ∉ ws → ∀ σ' ws', insR ws x ws' → gthM 20 σ' ws' → Fr [20, 21] σ σ' → Q none (rho ca cb tr) σ') : Mt M_X2_insert d n n [.ref 20, .int (iZ x)] (rho ca cb tr) σ Q := by
  obtain ⟨⟨w1, w2, w3⟩, g2, g3⟩ := id hg
  have g3 : ∀ i, i < ws.length → σ 21 i = iZ (ws.getD i 0) := g3
  refine Mt.of rfl (by decide +kernel) tk_X2_insert (Nat.le_of_ble_eq_true rfl) ?_
  refine V.run 0 54 rfl hn trivial ?_
  refine V.br rfl (fun (c : iZ x ≤ iZ 1) => ?_) (fun (c : ¬ (iZ x ≤ iZ 1)) => ?_)
  · rw [iZ_le (by omega) (by omega)] at c
    refine V.run 0 54 rfl hn trivial ?_
    refine V.ret (v := none) rfl rfl rfl rfl (hskip (Or.inl (by omega)))
  · rw [iZ_le (by omega) (by omega)] at c
    refine V.run 0 54 rfl hn trivial ?_
    refine V.cv (lo := 54) (d' := d - 1) rfl rfl ok_X2_holds lk_2_X2_holds rfl rfl rfl hn (by omega) (Nat.le_refl _) (Nat.le_refl _) ((c_gholds_20 hn (by omega) hg (fun hm => ?_) (fun hm => ?_)))
    · refine V.brF rfl (by decide) ?_
      refine V.run 0 54 rfl hn trivial ?_
      refine V.ret (v := none) rfl rfl rfl rfl (hskip (Or.inr hm))
    · refine V.brT rfl rfl ?_
      refine V.run 0 54 rfl hn trivial ?_
      try simp only [rc_1_0, rc_1_1, rc_1_2, rc_1_3, rc_1_4, rc_1_5, rc_2_0, rc_2_1, rc_2_2, rc_6_0, rc_6_1, rc_6_2, rc_6_3, rc_7_0, rc_7_1, rc_7_2, rc_7_3, rc_12_0, rc_12_1, rc_12_2, rc_12_3, rc_18_0, rc_18_1, rc_20_0, rc_20_1, rc_22_0, rc_23_0, rc_25_0, rc_27_0, rc_27_1, rc_27_2, rc_31_0, rc_31_1, rc_31_2, rc_55_0, rc_55_1, rc_55_2, rc_1_6, rc_1_7, rc_23_2, fi_0_1, fi_0_2, fi_0_3, fi_1_3, fi_1_4, fi_1_5, fi_1_6, fi_1_7, fi_2_2, fi_3_3, fi_3_4, fi_3_5, fi_4_1, fi_5_4, fi_5_5, fi_5_6, fi_5_7, fi_5_8, fi_5_9, fi_6_1, fi_7_3, fi_7_4]
      rw [g2]
      refine V.brT rfl ((iZ_lt (by omega) (by omega)).mpr (by omega)) ?_
      have fin : ∀ (p : Nat) (σ1 : Mem), p ≤ ws.length → (∀ t, t < p → σ1 21 t = iZ (ws.getD t 0) ∧ ws.getD t 0 < x) → (∀ t, p ≤ t → t < ws.length → σ1 21 (t + 1) = iZ (ws.getD t 0) ∧ x < ws.getD t 0) → Fr [20, 21] σ σ1 → σ1 20 = σ 20 → V M_X2_insert d n n none Q n (rho ca cb tr) σ1 72 [some (.ref 20), some (.int (iZ (x))), some (.int (iZ (p))), some (.int (iZ (p)))] [] := by
        intro p σ1 hp h1 h2 hf ho
        obtain ⟨o1, o2⟩ := insL_ok (x := x) (p := p) ⟨w1, w2, w3⟩ hl (by omega) hp (fun i hi => (h1 i hi).2) (fun i hi hi2 => (h2 i hi hi2).2)
        refine V.run 0 54 rfl hn ⟨in_N (n := 4) (by omega) (by decide), trivial⟩ ?_
        try simp only [rc_1_0, rc_1_1, rc_1_2, rc_1_3, rc_1_4, rc_1_5, rc_2_0, rc_2_1, rc_2_2, rc_6_0, rc_6_1, rc_6_2, rc_6_3, rc_7_0, rc_7_1, rc_7_2, rc_7_3, rc_12_0, rc_12_1, rc_12_2, rc_12_3, rc_18_0, rc_18_1, rc_20_0, rc_20_1, rc_22_0, rc_23_0, rc_25_0, rc_27_0, rc_27_1, rc_27_2, rc_31_0, rc_31_1, rc_31_2, rc_55_0, rc_55_1, rc_55_2, rc_1_6, rc_1_7, rc_23_2, fi_0_1, fi_0_2, fi_0_3, fi_1_3, fi_1_4, fi_1_5, fi_1_6, fi_1_7, fi_2_2, fi_3_3, fi_3_4, fi_3_5, fi_4_1, fi_5_4, fi_5_5, fi_5_6, fi_5_7, fi_5_8, fi_5_9, fi_6_1, fi_7_3, fi_7_4]
        rw [ix_N (by omega)]
        refine V.ret (v := none) rfl rfl rfl rfl (hQ (by omega) hm _ (insL ws p x) o2 ⟨o1, ?_, fun i hi => ?_⟩ (Fr.putT (Fr.putT hf (by simp)) (by simp)))
        · rw [up_at, up_ne (by decide), ho, g2, iZ_add]
          refine iZ_pat ?_
          rw [o2.2]
          omega
        · show up (up σ1 21 p (iZ x)) 20 2 _ 21 i = _
          rw [up_ne (by decide), insL_get hp]
          rw [o2.2] at hi
          by_cases a1 : i < p
          · rw [if_pos a1, up_nat (by omega), (h1 i a1).1]
          · rw [if_neg a1]
            by_cases a2 : i = p
            · subst a2
              rw [if_pos rfl, up_at]
            · have := (h2 (i - 1) (by omega) (by omega)).1
              rw [show i - 1 + 1 = i by omega] at this
              rw [if_neg a2, up_nat a2, this]
      refine V.run 32 54 rfl hn trivial ?_
      try simp only [rc_1_0, rc_1_1, rc_1_2, rc_1_3, rc_1_4, rc_1_5, rc_2_0, rc_2_1, rc_2_2, rc_6_0, rc_6_1, rc_6_2, rc_6_3, rc_7_0, rc_7_1, rc_7_2, rc_7_3, rc_12_0, rc_12_1, rc_12_2, rc_12_3, rc_18_0, rc_18_1, rc_20_0, rc_20_1, rc_22_0, rc_23_0, rc_25_0, rc_27_0, rc_27_1, rc_27_2, rc_31_0, rc_31_1, rc_31_2, rc_55_0, rc_55_1, rc_55_2, rc_1_6, rc_1_7, rc_23_2, fi_0_1, fi_0_2, fi_0_3, fi_1_3, fi_1_4, fi_1_5, fi_1_6, fi_1_7, fi_2_2, fi_3_3, fi_3_4, fi_3_5, fi_4_1, fi_5_4, fi_5_5, fi_5_6, fi_5_7, fi_5_8, fi_5_9, fi_6_1, fi_7_3, fi_7_4]
      rw [g2]
      have key : ∀ (i : Nat) (σ1 : Mem), i ≤ ws.length → (∀ t, t < i → σ1 21 t = iZ (ws.getD t 0)) → (∀ t, i ≤ t → t < ws.length → σ1 21 (t + 1) = iZ (ws.getD t 0) ∧ x < ws.getD t 0) → Fr [20, 21] σ σ1 → σ1 20 = σ 20 → V M_X2_insert d n n none Q n (rho ca cb tr) σ1 32 [some (.ref 20), some (.int (iZ (x))), some (.int (iZ (i))), some (.int (iZ (i)))] [] := by
        intro i
        induction i with
        | zero =>
          intro σ1 hi h1 h2 hf ho
          refine V.run 0 54 rfl hn trivial ?_
          refine V.brT rfl ((iZ_le0 (by omega)).mpr (by omega)) ?_
          exact fin 0 σ1 hi (fun t ht => by omega) h2 hf ho
        | succ i ih =>
          intro σ1 hi h1 h2 hf ho
          have hb := w2 _ (getD_mem2 (r := ws) (i := i) (by omega))
          refine V.run 0 54 rfl hn trivial ?_
          refine V.brF rfl (fun c => by have := (iZ_le0 (by omega)).mp c; omega) ?_
          have e1 : iZ ((i + 1 : Nat) : Int) - iZ 1 = iZ (i : Int) := by
            rw [iZ_sub]
            exact iZ_pat (by omega)
          refine V.run 0 54 rfl hn ⟨by rw [e1]; exact in_N (n := 4) (by omega) (by decide), trivial⟩ ?_
          try simp only [rc_1_0, rc_1_1, rc_1_2, rc_1_3, rc_1_4, rc_1_5, rc_2_0, rc_2_1, rc_2_2, rc_6_0, rc_6_1, rc_6_2, rc_6_3, rc_7_0, rc_7_1, rc_7_2, rc_7_3, rc_12_0, rc_12_1, rc_12_2, rc_12_3, rc_18_0, rc_18_1, rc_20_0, rc_20_1, rc_22_0, rc_23_0, rc_25_0, rc_27_0, rc_27_1, rc_27_2, rc_31_0, rc_31_1, rc_31_2, rc_55_0, rc_55_1, rc_55_2, rc_1_6, rc_1_7, rc_23_2, fi_0_1, fi_0_2, fi_0_3, fi_1_3, fi_1_4, fi_1_5, fi_1_6, fi_1_7, fi_2_2, fi_3_3, fi_3_4, fi_3_5, fi_4_1, fi_5_4, fi_5_5, fi_5_6, fi_5_7, fi_5_8, fi_5_9, fi_6_1, fi_7_3, fi_7_4]
          rw [e1, ix_N (by omega), h1 i (by omega)]
          refine V.br rfl (fun (c2 : iZ (ws.getD i 0) ≤ iZ x) => ?_) (fun (c2 : ¬ (iZ (ws.getD i 0) ≤ iZ x)) => ?_)
          · rw [iZ_le (by omega) (by omega)] at c2
            refine fin (i + 1) σ1 hi (fun t ht => ⟨h1 t ht, ?_⟩) h2 hf ho
            have hne : ws.getD i 0 ≠ x := fun e => hm (by rw [← e]; exact getD_mem2 (by omega))
            rcases Nat.eq_or_lt_of_le (show t ≤ i by omega) with q | q
            · rw [q]; omega
            · have := pw_get w3 q (by omega)
              omega
          · rw [iZ_le (by omega) (by omega)] at c2
            refine V.run 0 54 rfl hn ⟨by rw [e1]; exact in_N (n := 4) (by omega) (by decide), in_N (n := 4) (by omega) (by decide), trivial⟩ ?_
            try simp only [rc_1_0, rc_1_1, rc_1_2, rc_1_3, rc_1_4, rc_1_5, rc_2_0, rc_2_1, rc_2_2, rc_6_0, rc_6_1, rc_6_2, rc_6_3, rc_7_0, rc_7_1, rc_7_2, rc_7_3, rc_12_0, rc_12_1, rc_12_2, rc_12_3, rc_18_0, rc_18_1, rc_20_0, rc_20_1, rc_22_0, rc_23_0, rc_25_0, rc_27_0, rc_27_1, rc_27_2, rc_31_0, rc_31_1, rc_31_2, rc_55_0, rc_55_1, rc_55_2, rc_1_6, rc_1_7, rc_23_2, fi_0_1, fi_0_2, fi_0_3, fi_1_3, fi_1_4, fi_1_5, fi_1_6, fi_1_7, fi_2_2, fi_3_3, fi_3_4, fi_3_5, fi_4_1, fi_5_4, fi_5_5, fi_5_6, fi_5_7, fi_5_8, fi_5_9, fi_6_1, fi_7_3, fi_7_4]
            rw [e1, ix_N (by omega), ix_N (by omega), h1 i (by omega)]
            have key := ih (up σ1 21 (i + 1) (iZ (ws.getD i 0))) (by omega) (fun t ht => by rw [up_nat (by omega)]; exact h1 t (by omega)) (fun t ht ht2 => by
              by_cases e : t = i
              · subst e
                exact ⟨up_at, by omega⟩
              · rw [up_nat (by omega)]
                exact h2 t (by omega) ht2) (Fr.putT hf (by simp)) (by rw [up_ne (by decide)]; exact ho)
            have e2 : iZ ((i + 1 : Nat) : Int) + iZ (-1) = iZ (i : Int) := by
              rw [iZ_add]
              exact iZ_pat (by omega)
            rw [e2]
            exact key
      exact key ws.length σ (Nat.le_refl _) g3 (fun t h1 h2 => by omega) Fr.rf rfl
theorem c_glowest_20 (hn : 54 ≤ n) (hd : 3 ≤ d) {next : Nat} {s : Int} {ws r : List Nat} (hs : -100 ≤ s ∧ s ≤ 100) (hnx : next ≤ 4) (hg : gthM 20 σ ws) (ht : trialM σ 0 r) (hQ : ∀ L : Nat, L ≤ 1000 → lastD r + 1 ≤ L → (∀ i, next ≤ i → i < ws.length → ltR (ws.getD i 0) (s - ((ws.length : Int) - 1 - i)) ≤ L) → (L = lastD r + 1 ∨ ∃ i, next ≤ i ∧ i < ws.length ∧ L = ltR (ws.getD i 0) (s - ((ws.length : Int) - 1 - i))) → Q (some (.int (iZ L))) (rho ca cb tr) σ) : Mt M_X2_lowest d n n [.ref 20, .int (iZ next), .int (iZ s)] (rho ca cb tr) σ Q := by
  obtain ⟨⟨w1, w2, w3⟩, g2, g3⟩ := id hg
  have g3 : ∀ i, i < ws.length → σ 21 i = iZ (ws.getD i 0) := g3
  have hl := last_le ht
  refine Mt.of rfl (by decide +kernel) tk_X2_lowest (Nat.le_of_ble_eq_true rfl) ?_
  refine V.run 0 54 rfl hn trivial ?_
  try simp only [rc_1_0, rc_1_1, rc_1_2, rc_1_3, rc_1_4, rc_1_5, rc_2_0, rc_2_1, rc_2_2, rc_6_0, rc_6_1, rc_6_2, rc_6_3, rc_7_0, rc_7_1, rc_7_2, rc_7_3, rc_12_0, rc_12_1, rc_12_2, rc_12_3, rc_18_0, rc_18_1, rc_20_0, rc_20_1, rc_22_0, rc_23_0, rc_25_0, rc_27_0, rc_27_1, rc_27_2, rc_31_0, rc_31_1, rc_31_2, rc_55_0, rc_55_1, rc_55_2, rc_1_6, rc_1_7, rc_23_2, fi_0_1, fi_0_2, fi_0_3, fi_1_3, fi_1_4, fi_1_5, fi_1_6, fi_1_7, fi_2_2, fi_3_3, fi_3_4, fi_3_5, fi_4_1, fi_5_4, fi_5_5, fi_5_6, fi_5_7, fi_5_8, fi_5_9, fi_6_1, fi_7_3, fi_7_4]
  refine V.cv (lo := 54) (d' := d - 1) rfl rfl ok_X7_latest lk_2_X7_latest rfl rfl rfl hn (by omega) (Nat.le_refl _) (Nat.le_refl _) ((c_latest hn (by omega) ht ?_))
  refine V.run 0 54 rfl hn trivial ?_
  rw [iZ_add, show (lastD r : Int) + 1 = ((lastD r + 1 : Nat) : Int) by omega]
  refine V.max rfl rfl lm_2_max rfl (by omega) (Nat.le_refl _) ?_
  have e0 : (if iZ 0 < iZ (next : Int) then iZ (next : Int) else iZ 0) = iZ (next : Int) := by
    by_cases h : 0 < next
    · rw [if_pos ((iZ_lt (by omega) (by omega)).mpr (by omega))]
    · rw [if_neg (fun c => by have := (iZ_lt (by omega) (by omega)).mp c; omega)]
      exact iZ_pat (by omega)
  rw [e0]
  refine V.run 17 54 rfl hn trivial ?_
  have key : ∀ (j i L : Nat), i + j = max ws.length next → next ≤ i → L ≤ 1000 → lastD r + 1 ≤ L → (∀ t, next ≤ t → t < i → t < ws.length → ltR (ws.getD t 0) (s - ((ws.length : Int) - 1 - t)) ≤ L) → (L = lastD r + 1 ∨ ∃ i, next ≤ i ∧ i < ws.length ∧ L = ltR (ws.getD i 0) (s - ((ws.length : Int) - 1 - i))) → V M_X2_lowest d n n none Q n (rho ca cb tr) σ 17 [some (.ref 20), some (.int (iZ (next))), some (.int (iZ (s))), some (.int (iZ (L))), some (.int (iZ (i)))] [] := by
    intro j
    induction j with
    | zero =>
      intro i L hi hi2 h1 h2 h3 h4
      refine V.run 0 54 rfl hn trivial ?_
      try simp only [rc_1_0, rc_1_1, rc_1_2, rc_1_3, rc_1_4, rc_1_5, rc_2_0, rc_2_1, rc_2_2, rc_6_0, rc_6_1, rc_6_2, rc_6_3, rc_7_0, rc_7_1, rc_7_2, rc_7_3, rc_12_0, rc_12_1, rc_12_2, rc_12_3, rc_18_0, rc_18_1, rc_20_0, rc_20_1, rc_22_0, rc_23_0, rc_25_0, rc_27_0, rc_27_1, rc_27_2, rc_31_0, rc_31_1, rc_31_2, rc_55_0, rc_55_1, rc_55_2, rc_1_6, rc_1_7, rc_23_2, fi_0_1, fi_0_2, fi_0_3, fi_1_3, fi_1_4, fi_1_5, fi_1_6, fi_1_7, fi_2_2, fi_3_3, fi_3_4, fi_3_5, fi_4_1, fi_5_4, fi_5_5, fi_5_6, fi_5_7, fi_5_8, fi_5_9, fi_6_1, fi_7_3, fi_7_4]
      rw [g2]
      refine V.brT rfl ((iZ_le (by omega) (by omega)).mpr (by omega)) ?_
      refine V.run 0 54 rfl hn trivial ?_
      refine V.ret (v := some (.int (iZ L))) rfl rfl rfl rfl (hQ L h1 h2 (fun t a b => h3 t a (by omega) b) h4)
    | succ j ih =>
      intro i L hi hi2 h1 h2 h3 h4
      refine V.run 0 54 rfl hn trivial ?_
      try simp only [rc_1_0, rc_1_1, rc_1_2, rc_1_3, rc_1_4, rc_1_5, rc_2_0, rc_2_1, rc_2_2, rc_6_0, rc_6_1, rc_6_2, rc_6_3, rc_7_0, rc_7_1, rc_7_2, rc_7_3, rc_12_0, rc_12_1, rc_12_2, rc_12_3, rc_18_0, rc_18_1, rc_20_0, rc_20_1, rc_22_0, rc_23_0, rc_25_0, rc_27_0, rc_27_1, rc_27_2, rc_31_0, rc_31_1, rc_31_2, rc_55_0, rc_55_1, rc_55_2, rc_1_6, rc_1_7, rc_23_2, fi_0_1, fi_0_2, fi_0_3, fi_1_3, fi_1_4, fi_1_5, fi_1_6, fi_1_7, fi_2_2, fi_3_3, fi_3_4, fi_3_5, fi_4_1, fi_5_4, fi_5_5, fi_5_6, fi_5_7, fi_5_8, fi_5_9, fi_6_1, fi_7_3, fi_7_4]
      rw [g2]
      refine V.br rfl (fun (c : iZ ws.length ≤ iZ i) => ?_) (fun (c : ¬ (iZ ws.length ≤ iZ i)) => ?_)
      · rw [iZ_le (by omega) (by omega)] at c
        refine V.run 0 54 rfl hn trivial ?_
        refine V.ret (v := some (.int (iZ L))) rfl rfl rfl rfl (hQ L h1 h2 (fun t a b => h3 t a (by omega) b) h4)
      · rw [iZ_le (by omega) (by omega)] at c
        have hb := w2 _ (getD_mem2 (r := ws) (i := i) (by omega))
        refine V.run 0 54 rfl hn ⟨in_N (n := 4) (by omega) (by decide), trivial⟩ ?_
        try simp only [rc_1_0, rc_1_1, rc_1_2, rc_1_3, rc_1_4, rc_1_5, rc_2_0, rc_2_1, rc_2_2, rc_6_0, rc_6_1, rc_6_2, rc_6_3, rc_7_0, rc_7_1, rc_7_2, rc_7_3, rc_12_0, rc_12_1, rc_12_2, rc_12_3, rc_18_0, rc_18_1, rc_20_0, rc_20_1, rc_22_0, rc_23_0, rc_25_0, rc_27_0, rc_27_1, rc_27_2, rc_31_0, rc_31_1, rc_31_2, rc_55_0, rc_55_1, rc_55_2, rc_1_6, rc_1_7, rc_23_2, fi_0_1, fi_0_2, fi_0_3, fi_1_3, fi_1_4, fi_1_5, fi_1_6, fi_1_7, fi_2_2, fi_3_3, fi_3_4, fi_3_5, fi_4_1, fi_5_4, fi_5_5, fi_5_6, fi_5_7, fi_5_8, fi_5_9, fi_6_1, fi_7_3, fi_7_4]
        rw [g2, ix_N (by omega), g3 i (by omega), iZ_sub, iZ_sub, iZ_sub]
        refine V.csn (d' := d - 1) rfl rfl ok_X8_leastToReach (List.mem_of_getElem? (i := 4) rfl) rfl (by omega) (Nat.le_refl _) (Nat.le_refl _) ((c_leastToReach (by omega) (by omega) (by omega) ?_))
        have hle : ltR (ws.getD i 0) (s - ((ws.length : Int) - 1 - i)) ≤ 60 := by
          rcases Nat.lt_or_ge 60 (ltR (ws.getD i 0) (s - ((ws.length : Int) - 1 - i))) with q | q
          · have := ltR_lt.mp q
            have hp : 1 ≤ 2 ^ shS (s - ((ws.length : Int) - 1 - i)) := Nat.pow_pos (by decide)
            have : 60 * 1 ≤ 60 * 2 ^ shS (s - ((ws.length : Int) - 1 - i)) := Nat.mul_le_mul_left _ hp
            omega
          · exact q
        refine V.max rfl rfl lm_2_max rfl (by omega) (Nat.le_refl _) ?_
        have e1 : (if iZ (L : Int) < iZ (ltR (ws.getD i 0) (s - ((ws.length : Int) - 1 - i)) : Nat) then iZ (ltR (ws.getD i 0) (s - ((ws.length : Int) - 1 - i)) : Nat) else iZ (L : Int)) = iZ (max L (ltR (ws.getD i 0) (s - ((ws.length : Int) - 1 - i))) : Nat) := by
          by_cases h : L < ltR (ws.getD i 0) (s - ((ws.length : Int) - 1 - i))
          · rw [if_pos ((iZ_lt (by omega) (by omega)).mpr (by omega))]
            exact iZ_pat (by omega)
          · rw [if_neg (fun c => by have := (iZ_lt (by omega) (by omega)).mp c; omega)]
            exact iZ_pat (by omega)
        rw [e1]
        refine V.run 0 54 rfl hn trivial ?_
        have := ih (i + 1) (max L (ltR (ws.getD i 0) (s - ((ws.length : Int) - 1 - i)))) (by omega) (by omega) (by omega) (by omega) (fun t a b c2 => by
          by_cases e : t = i
          · subst e; exact Nat.le_max_right _ _
          · exact Nat.le_trans (h3 t a (by omega) c2) (Nat.le_max_left _ _)) (by
          rcases Nat.le_total L (ltR (ws.getD i 0) (s - ((ws.length : Int) - 1 - i))) with q | q
          · exact Or.inr ⟨i, hi2, by omega, Nat.max_eq_right q⟩
          · rw [Nat.max_eq_left q]; exact h4)
        rw [show ((i + 1 : Nat) : Int) = (i : Int) + 1 by omega, ← iZ_add] at this
        exact this
  exact key (max ws.length next - next) next (lastD r + 1) (by omega) (Nat.le_refl _) (by omega) (Nat.le_refl _) (fun t a b _ => by omega) (Or.inl rfl)
end CG20
