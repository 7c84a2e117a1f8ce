/-! ===== the reference: leads, led ===== -/
def ldT (a b left : Nat) (r : List Nat) (v : Nat) : Bool := v == 13 * a + b || (decide (0 < left) && decide (a + b ≤ (v / 13 + v % 13) * 2 ^ left) && lds a b left (r ++ [v]))
theorem lds_eq (a b k : Nat) (r : List Nat) : lds a b (k + 1) r = (pcL a b r).any (ldT a b k r) := rfl
section MDD
variable {d n ca cb tr : Nat} {Q : PQ}
theorem ledV (hn : 54 ≤ n) (hd : 3 ≤ d) {a b : Nat} (ha : a ≤ 12) (hb : b ≤ 12) : ∀ (left : Nat) (q : Nat) (r : List Nat) (p : Nat) (σ : Mem) (x5 x6 : Option Value), q + p = (pcL a b r).length → 2 ≤ r.length → r.length + left ≤ 15 → told σ r → (∀ x ∈ r, x < 169) → rowAt σ (r.length - 1) (pcL a b r) → σ 42 (r.length - 1) = iZ p →
    (∀ (σ' : Mem) (x5 x6 : Option Value), keepS (r.length - 1) σ σ' → ((pcL a b r).drop p).any (ldT a b left r) = false → V M_X9_leads d n n none Q n (rho ca cb tr) σ' 25 [some (.ref 35), some (.int (iZ (a))), some (.int (iZ (b))), some (.int (iZ ((r.length - 1 + left : Nat)))), some (.int (iZ ((r.length - 1 - 1 : Nat)))), x5, x6] []) →
    (∀ (σ' : Mem), Fr [39, 40, 41, 42, 43] σ σ' → ((pcL a b r).drop p).any (ldT a b left r) = true → Q (some (.int 1)) (rho ca cb tr) σ') →
    V M_X9_leads d n n none Q n (rho ca cb tr) σ 25 [some (.ref 35), some (.int (iZ (a))), some (.int (iZ (b))), some (.int (iZ ((r.length - 1 + left : Nat)))), some (.int (iZ ((r.length - 1 : Nat)))), x5, x6] [] := by
  have hpl : ∀ r : List Nat, r.length ≤ 16 → (pcL a b r).length ≤ 256 := fun r h => by
    have := ouP_len a b h r.length
    unfold pcL
    omega
  intro left
  induction left using Nat.strongRecOn with
  | ind left ihL =>
    intro q
    induction q with
    | zero =>
      intro r p σ x5 x6 hq hr hrl ht hrb hrow hat hK hF
      have hC := hpl r (by omega)
      have hd0 : (pcL a b r).drop p = [] := by rw [show p = (pcL a b r).length by omega]; exact List.drop_length
      rw [hd0] at hK
      have K := hK σ x5 x6 keepS.rf rfl
      refine V.run 0 54 rfl hn trivial ?_
      refine V.brF rfl (fun c => by have := (iZ_le0 (by omega)).mp c; omega) ?_
      refine V.run 0 54 rfl hn ⟨in_N (n := 44) (by omega) (by decide), in_N (n := 44) (by omega) (by decide), trivial⟩ ?_
      try simp only [rf_told, rf_comes, rf_comeMany, rf_comeAt, rf_isSeen, rf_goals, rf_text, rf_taken, rf_roadRow, rf_dueNumber, rf_dueTimes, rf_above, rf_tree, rf_way, rf_signs, rf_spent, rf_read, rf_useMany, rf_lastUse, fi_9_0, fi_9_2, fi_9_3, fi_9_4, fi_9_6, fi_9_7, fi_9_14, fi_9_19, fi_9_24, fi_9_26, fi_9_27, fi_9_30]
      rw [ix_N (by omega), hat, hrow.1]
      refine V.brT rfl (by rw [show p = (pcL a b r).length by omega]) ?_
      refine V.run 0 54 rfl hn trivial ?_
      rw [show ((r.length - 1 - 1 : Nat) : Int) = ((r.length - 1 : Nat) : Int) + (-1) by omega, ← iZ_add] at K
      exact K
    | succ q ih =>
      intro r p σ x5 x6 hq hr hrl ht hrb hrow hat hK hF
      have hC := hpl r (by omega)
      obtain ⟨v, hv⟩ : ∃ v, (pcL a b r).getD p 0 = v := ⟨_, rfl⟩
      have hdr : (pcL a b r).drop p = v :: (pcL a b r).drop (p + 1) := by
        rw [List.drop_eq_getElem_cons (by omega)]
        rw [List.getD_eq_getElem?_getD, List.getElem?_eq_getElem (by omega)] at hv
        simp only [Option.getD_some] at hv
        rw [hv]
      have hvm : v ∈ pcL a b r := by rw [← hv]; exact getD_mem2 (by omega)
      have hvb : v < 169 := ouP_all (P := fun z => z < 169) (fun x y h => okP_lt ha hb h) r.length v hvm
      rw [hdr] at hK hF
      refine V.run 0 54 rfl hn trivial ?_
      refine V.brF rfl (fun c => by have := (iZ_le0 (by omega)).mp c; omega) ?_
      refine V.run 0 54 rfl hn ⟨in_N (n := 44) (by omega) (by decide), in_N (n := 44) (by omega) (by decide), trivial⟩ ?_
      try simp only [rf_told, rf_comes, rf_comeMany, rf_comeAt, rf_isSeen, rf_goals, rf_text, rf_taken, rf_roadRow, rf_dueNumber, rf_dueTimes, rf_above, rf_tree, rf_way, rf_signs, rf_spent, rf_read, rf_useMany, rf_lastUse, fi_9_0, fi_9_2, fi_9_3, fi_9_4, fi_9_6, fi_9_7, fi_9_14, fi_9_19, fi_9_24, fi_9_26, fi_9_27, fi_9_30]
      rw [ix_N (by omega), hat, hrow.1]
      refine V.brF rfl (fun c => by have := (iZ_eq (by omega) (by omega)).mp c; omega) ?_
      have e1 : iZ 400 * iZ ((r.length - 1 : Nat) : Int) + iZ (p : Int) = iZ ((400 * (r.length - 1) + p : Nat) : Int) := by
        rw [iZ_mul, iZ_add]
        exact iZ_pat (by omega)
      have e2 : iZ ((r.length - 1 : Nat) : Int) + iZ 1 = iZ (r.length : Int) := by
        rw [iZ_add]
        exact iZ_pat (by omega)
      refine V.run 102 54 rfl hn ⟨in_N (n := 44) (by omega) (by decide), by (simp only [rf_comeAt]; rw [ix_N (by omega), hat, e1]; exact in_N (n := 20000) (by omega) (by decide)), in_N (n := 44) (by omega) (by decide), in_N (n := 44) (by omega) (by decide), by rw [e2]; exact in_N (n := 44) (by omega) (by decide), trivial⟩ ?_
      try simp only [rf_told, rf_comes, rf_comeMany, rf_comeAt, rf_isSeen, rf_goals, rf_text, rf_taken, rf_roadRow, rf_dueNumber, rf_dueTimes, rf_above, rf_tree, rf_way, rf_signs, rf_spent, rf_read, rf_useMany, rf_lastUse, fi_9_0, fi_9_2, fi_9_3, fi_9_4, fi_9_6, fi_9_7, fi_9_14, fi_9_19, fi_9_24, fi_9_26, fi_9_27, fi_9_30]
      rw [ix_N (by omega), hat, e1, e2, ix_N (by omega), ix_N (by omega), hrow.2 p (by omega), hv, iZ_add, iZ_sub, show ((r.length - 1 + left : Nat) : Int) - (r.length - 1 : Nat) = (left : Int) by omega]
      have e3 : ((p : Int) + 1) = ((p + 1 : Nat) : Int) := by omega
      rw [e3]
      generalize hσ1 : up (up σ 42 (r.length - 1) (iZ (p + 1 : Nat))) 39 r.length (iZ v) = σ1
      have hf1 : Fr [39, 40, 41, 42, 43] σ σ1 := by rw [← hσ1]; exact Fr.putT (Fr.put (by simp)) (by simp)
      have h39 : ∀ i, i < r.length → σ1 39 i = σ 39 i := fun i hi => by rw [← hσ1, up_nat (by omega), up_ne (by decide)]
      have h40 : σ1 40 = σ 40 := by rw [← hσ1, up_ne (by decide), up_ne (by decide)]
      have h41 : σ1 41 = σ 41 := by rw [← hσ1, up_ne (by decide), up_ne (by decide)]
      have h42 : σ1 42 (r.length - 1) = iZ (p + 1 : Nat) := by rw [← hσ1, up_ne (by decide), up_at]
      have h42b : ∀ i, i < r.length - 1 → σ1 42 i = σ 42 i := fun i hi => by rw [← hσ1, up_ne (by decide), up_nat (by omega)]
      have hk1 : keepS (r.length - 1) σ σ1 := ⟨hf1, fun i hi => h39 i (by omega), fun i _ => by rw [h40], fun i _ => by rw [h41], fun i hi => h42b i hi⟩
      have htv : told σ1 (r ++ [v]) := by
        rw [← hσ1]
        exact told_app (told_sub ht (fun i _ => by rw [up_ne (by decide)]))
      have hbv : ∀ x ∈ r ++ [v], x < 169 := fun x hx => by
        rcases List.mem_append.mp hx with q | q
        · exact hrb x q
        · rw [List.mem_singleton] at q; omega
      have go : ∀ (σ2 : Mem) (x5 x6 : Option Value), ldT a b left r v = false → keepS (r.length - 1) σ σ2 → σ2 42 (r.length - 1) = iZ (p + 1 : Nat) → V M_X9_leads d n n none Q n (rho ca cb tr) σ2 25 [some (.ref 35), some (.int (iZ (a))), some (.int (iZ (b))), some (.int (iZ ((r.length - 1 + left : Nat)))), some (.int (iZ ((r.length - 1 : Nat)))), x5, x6] [] := by
        intro σ2 x5 x6 hno hk2 h422
        refine ih r (p + 1) σ2 x5 x6 (by omega) hr hrl (told_sub ht (fun i hi => hk2.2.1 i (by omega))) hrb (hk2.row (by omega) hrow) h422 (fun σ' x5 x6 hk3 ho => ?_) (fun σ' hf3 ho => ?_)
        · exact hK σ' x5 x6 (hk2.tr hk3) (by rw [List.any_cons, hno, ho]; rfl)
        · exact hF σ' (hk2.1.tr hf3) (by rw [List.any_cons, hno, ho]; rfl)
      have hT : ldT a b left r v = (v == 13 * a + b || (decide (0 < left) && decide (a + b ≤ (v / 13 + v % 13) * 2 ^ left) && lds a b left (r ++ [v]))) := rfl
      refine V.run 0 54 rfl hn trivial ?_
      rw [iZ_mul, iZ_add, show 13 * (a : Int) + b = ((13 * a + b : Nat) : Int) by omega]
      refine V.br rfl (fun (c : iZ v = iZ (13 * a + b : Nat)) => ?_) (fun (c : ¬ (iZ v = iZ (13 * a + b : Nat))) => ?_)
      · rw [iZ_eq (by omega) (by omega)] at c
        refine V.run 0 54 rfl hn trivial ?_
        refine V.ret (v := some (.int 1)) rfl rfl ⟨rfl, Or.inr rfl⟩ rfl (hF σ1 hf1 (by rw [List.any_cons, hT, show v = 13 * a + b by omega]; simp))
      · rw [iZ_eq (by omega) (by omega)] at c
        have hne : (v == 13 * a + b) = false := beq_eq_false_iff_ne.mpr (by omega)
        rw [hne, Bool.false_or] at hT
        refine V.run 0 54 rfl hn trivial ?_
        refine V.br rfl (fun (c1 : iZ left ≤ 0) => ?_) (fun (c1 : ¬ (iZ left ≤ 0)) => ?_)
        · rw [iZ_le0 (by omega)] at c1
          refine V.run 0 54 rfl hn trivial ?_
          exact go σ1 _ _ (by rw [hT, decide_eq_false (show ¬ 0 < left by omega)]; rfl) hk1 h42
        · rw [iZ_le0 (by omega)] at c1
          rw [decide_eq_true (show 0 < left by omega), Bool.true_and] at hT
          refine V.run 0 54 rfl hn ⟨by decide, by decide, trivial⟩ ?_
          have hpw : (v / 13 + v % 13) * 2 ^ left ≤ 24 * 2 ^ 15 := Nat.mul_le_mul (by omega) (Nat.pow_le_pow_right (by decide) (by omega))
          have h4 : (24 * 2 ^ 15 : Nat) = 786432 := by decide
          have h5 : (((v / 13 + v % 13) * 2 ^ left : Nat) : Int) = ((v : Int) / 13 + (v : Int) % 13) * 2 ^ left := by simp
          rw [iZ_div (by omega) (by omega), iZ_rem (by omega) (by omega), iZ_add ((v : Int) / 13), iZ_shl (by omega), ← h5, iZ_add (a : Int)]
          refine V.br rfl (fun (c2 : iZ ((v / 13 + v % 13) * 2 ^ left : Nat) < iZ ((a : Int) + b)) => ?_) (fun (c2 : ¬ (iZ ((v / 13 + v % 13) * 2 ^ left : Nat) < iZ ((a : Int) + b))) => ?_)
          · rw [iZ_lt (by omega) (by omega)] at c2
            refine V.run 0 54 rfl hn trivial ?_
            exact go σ1 _ _ (by rw [hT, decide_eq_false (by omega)]; rfl) hk1 h42
          · rw [iZ_lt (by omega) (by omega)] at c2
            rw [decide_eq_true (show a + b ≤ (v / 13 + v % 13) * 2 ^ left by omega), Bool.true_and] at hT
            obtain ⟨l2, rfl⟩ : ∃ l2, left = l2 + 1 := ⟨left - 1, by omega⟩
            refine V.run 0 54 rfl hn trivial ?_
            rw [e2]
            refine V.cv (lo := 54) (d' := d - 1) rfl rfl ok_X9_layPairs lk_9_X9_layPairs rfl rfl rfl hn (by omega) (Nat.le_refl _) (Nat.le_refl _) ((m_layPairs hn (by omega) (r := r ++ [v]) (by simp) (by omega) ha hb htv hbv (fun σ2 hl2 => ?_)))
            obtain ⟨l1, l2', l3, l4, l5⟩ := hl2
            have el : (r ++ [v]).length - 1 = r.length := by simp
            have el2 : (r ++ [v]).length = r.length + 1 := by simp
            rw [el] at l2' l3 l4 l5
            refine V.run 0 54 rfl hn trivial ?_
            have key := ihL l2 (by omega) ((pcL a b (r ++ [v])).length) (r ++ [v]) 0 σ2 (some (.int (iZ v))) (some (.int (iZ ((l2 + 1 : Nat) : Int)))) (by omega) (by omega) (by omega) (htv.fr l1 (by decide)) hbv (by rw [el]; exact l2') (by rw [el]; exact l3) (fun σ3 x5 x6 hk3 ho3 => ?_) (fun σ3 hf3 ho3 => ?_)
            · rw [el, show r.length + l2 = r.length - 1 + (l2 + 1) by omega] at key
              exact key
            · rw [el] at hk3
              rw [el, show r.length + l2 = r.length - 1 + (l2 + 1) by omega]
              refine go σ3 x5 x6 ?_ ⟨?_, fun i hi => ?_, fun i hi => ?_, fun i hi => ?_, fun i hi => ?_⟩ ?_
              · rw [hT, lds_eq]
                rw [List.drop_zero] at ho3
                exact ho3
              · exact hf1.tr ((l1.mono (by simp)).tr hk3.1)
              · rw [hk3.2.1 i (by omega), l1 39 (by decide), h39 i (by omega)]
              · rw [hk3.2.2.1 i (by omega), l4 i (by omega), h40]
              · rw [hk3.2.2.2.1 i (by omega), (l5 i (by omega)).1, h41]
              · rw [hk3.2.2.2.2 i (by omega), (l5 i (by omega)).2, h42b i hi]
              · rw [hk3.2.2.2.2 _ (by omega), (l5 _ (by omega)).2, h42]
            · refine hF σ3 (hf1.tr ((l1.mono (by simp)).tr hf3)) ?_
              rw [List.any_cons, hT, lds_eq]
              rw [List.drop_zero] at ho3
              rw [ho3]
              rfl
theorem m_leads (hn : 54 ≤ n) (hd : 4 ≤ d) {a b steps : Nat} {σ : Mem} (ha : a ≤ 12) (hb : b ≤ 12) (hs : 1 ≤ steps ∧ steps ≤ 13) (h1 : lds a b steps [13, 1] = true → ∀ σ', Fr [39, 40, 41, 42, 43] σ σ' → Q (some (.int 1)) (rho ca cb tr) σ') (h0 : lds a b steps [13, 1] = false → ∀ σ', Fr [39, 40, 41, 42, 43] σ σ' → Q (some (.int 0)) (rho ca cb tr) σ') : Mt M_X9_leads d n n [.ref 35, .int (iZ a), .int (iZ b), .int (iZ steps)] (rho ca cb tr) σ Q := by
  refine Mt.of rfl (by decide +kernel) tk_X9_leads (Nat.le_of_ble_eq_true rfl) ?_
  refine V.run 0 54 rfl hn ⟨in_N (k := 0) (n := 44) (by omega) (by decide), in_N (k := 1) (n := 44) (by omega) (by decide), trivial⟩ ?_
  try simp only [rf_told, rf_comes, rf_comeMany, rf_comeAt, rf_isSeen, rf_goals, rf_text, rf_taken, rf_roadRow, rf_dueNumber, rf_dueTimes, rf_above, rf_tree, rf_way, rf_signs, rf_spent, rf_read, rf_useMany, rf_lastUse, fi_9_0, fi_9_2, fi_9_3, fi_9_4, fi_9_6, fi_9_7, fi_9_14, fi_9_19, fi_9_24, fi_9_26, fi_9_27, fi_9_30]
  have e0 : ix (iZ 0) = 0 := by decide
  have e1 : ix (iZ 1) = 1 := by decide
  rw [e0, e1]
  have hf0 : Fr [39, 40, 41, 42, 43] σ (up (up σ 39 0 (iZ 13)) 39 1 (iZ 1)) := Fr.putT (Fr.put (by simp)) (by simp)
  have ht0 : told (up (up σ 39 0 (iZ 13)) 39 1 (iZ 1)) [13, 1] := by
    intro i hi
    have hi : i < 2 := by simpa using hi
    rcases (show i = 0 ∨ i = 1 by omega) with rfl | rfl
    · rw [up_nat (by decide), up_at]; rfl
    · rw [up_at]; rfl
  generalize up (up σ 39 0 (iZ 13)) 39 1 (iZ 1) = σ0 at hf0 ht0 ⊢
  refine V.cv (lo := 54) (d' := d - 1) rfl rfl ok_X9_layPairs lk_9_X9_layPairs rfl rfl rfl hn (by omega) (Nat.le_refl _) (Nat.le_refl _) ((m_layPairs hn (by omega) (last := 1) (r := [13, 1]) (by simp) (by omega) ha hb ht0 (by simp) (fun σ2 hl2 => ?_)))
  obtain ⟨l1, l2, l3, l4, l5⟩ := hl2
  obtain ⟨left, rfl⟩ : ∃ left, steps = left + 1 := ⟨steps - 1, by omega⟩
  have key := ledV (Q := Q) (d := d) (ca := ca) (cb := cb) (tr := tr) hn (by omega) ha hb left ((pcL a b [13, 1]).length) [13, 1] 0 σ2 none none (by omega) (by simp) (by simp; omega) (ht0.fr l1 (by decide)) (by simp) l2 (by rw [l3]; rfl) (fun σ3 x5 x6 hk3 ho3 => ?_) (fun σ3 hf3 ho3 => ?_)
  · rw [show ([13, 1] : List Nat).length - 1 + left = left + 1 by simp; omega] at key
    exact key
  · refine V.run 0 54 rfl hn trivial ?_
    refine V.brT rfl (by decide) ?_
    refine V.run 0 54 rfl hn trivial ?_
    refine V.ret (v := some (.int 0)) rfl rfl ⟨rfl, Or.inl rfl⟩ rfl (h0 (by rw [lds_eq]; rw [List.drop_zero] at ho3; exact ho3) σ3 (hf0.tr ((l1.mono (by simp)).tr hk3.1)))
  · exact h1 (by rw [lds_eq]; rw [List.drop_zero] at ho3; exact ho3) σ3 (hf0.tr ((l1.mono (by simp)).tr hf3))
/-- L is the fewest steps to a pair -/
def isL (a b L : Nat) : Prop := 1 ≤ L ∧ lds a b L [13, 1] = true ∧ ∀ k, 1 ≤ k → k < L → lds a b k [13, 1] = false
theorem m_led (hn : 54 ≤ n) (hd : 5 ≤ d) {x y : Int} {L : Nat} {σ : Mem} (hx : -2147483648 ≤ x ∧ x < 2147483648) (hy : -2147483648 ≤ y ∧ y < 2147483648) (hbad : ¬ ((0 ≤ x ∧ x ≤ 12) ∧ (0 ≤ y ∧ y ≤ 12) ∧ x + y ≠ 0) → Q (some (.int (iZ (-1)))) (rho ca cb tr) σ) (hone : x + y = 1 → 0 ≤ x ∧ 0 ≤ y → Q (some (.int (iZ 0))) (rho ca cb tr) σ) (hL : (0 ≤ x ∧ x ≤ 12) ∧ (0 ≤ y ∧ y ≤ 12) ∧ 2 ≤ x + y → isL x.toNat y.toNat L ∧ L ≤ 13) (hQ : (0 ≤ x ∧ x ≤ 12) ∧ (0 ≤ y ∧ y ≤ 12) ∧ 2 ≤ x + y → ∀ σ', Fr [39, 40, 41, 42, 43] σ σ' → Q (some (.int (iZ L))) (rho ca cb tr) σ') : Mt M_X9_led d n n [.ref 35, .int (iZ x), .int (iZ y)] (rho ca cb tr) σ Q := by
  refine Mt.of rfl (by decide +kernel) tk_X9_led (Nat.le_of_ble_eq_true rfl) ?_
  have bad : ∀ x3, ¬ ((0 ≤ x ∧ x ≤ 12) ∧ (0 ≤ y ∧ y ≤ 12) ∧ x + y ≠ 0) → V M_X9_led d n n none Q n (rho ca cb tr) σ 30 [some (.ref 35), some (.int (iZ (x))), some (.int (iZ (y))), x3] [] := by
    intro x3 g
    refine V.run 0 54 rfl hn trivial ?_
    refine V.ret (v := some (.int (iZ (-1)))) rfl rfl rfl rfl (hbad g)
  refine V.run 0 54 rfl hn trivial ?_
  refine V.cs (d' := d - 1) rfl rfl ok_X9_in lk_9_X9_in rfl (by omega) (Nat.le_refl _) (Nat.le_refl _) ((m_inZ (by omega) (by omega) (by omega) (fun g => ?_) (fun g => ?_)))
  · refine V.brF rfl (by decide) ?_
    refine V.run 0 54 rfl hn trivial ?_
    refine V.cs (d' := d - 1) rfl rfl ok_X9_in lk_9_X9_in rfl (by omega) (Nat.le_refl _) (Nat.le_refl _) ((m_inZ (by omega) (by omega) (by omega) (fun g2 => ?_) (fun g2 => ?_)))
    · refine V.brF rfl (by decide) ?_
      refine V.run 0 54 rfl hn trivial ?_
      rw [iZ_add]
      refine V.br rfl (fun (c : iZ (x + y) = 0) => ?_) (fun (c : ¬ (iZ (x + y) = 0)) => ?_)
      · rw [iZ_eq0 (by omega)] at c
        exact bad _ (by omega)
      · rw [iZ_eq0 (by omega)] at c
        refine V.run 0 54 rfl hn trivial ?_
        rw [iZ_add]
        refine V.br rfl (fun (c1 : iZ (x + y) = iZ 1) => ?_) (fun (c1 : ¬ (iZ (x + y) = iZ 1)) => ?_)
        · rw [iZ_eq (by omega) (by omega)] at c1
          refine V.run 0 54 rfl hn trivial ?_
          refine V.ret (v := some (.int (iZ 0))) rfl rfl rfl rfl (hone c1 (by omega))
        · rw [iZ_eq (by omega) (by omega)] at c1
          obtain ⟨⟨q1, q2, q3⟩, q4⟩ := hL ⟨g, g2, by omega⟩
          have hQ2 := hQ ⟨g, g2, by omega⟩
          obtain ⟨a, rfl⟩ : ∃ a : Nat, x = a := ⟨x.toNat, by omega⟩
          obtain ⟨b, rfl⟩ : ∃ b : Nat, y = b := ⟨y.toNat, by omega⟩
          rw [Int.toNat_natCast, Int.toNat_natCast] at q2 q3
          refine V.run 43 54 rfl hn trivial ?_
          have key : ∀ (j k : Nat) (σ1 : Mem), k + j = L → 1 ≤ k → Fr [39, 40, 41, 42, 43] σ σ1 → V M_X9_led d n n none Q n (rho ca cb tr) σ1 43 [some (.ref 35), some (.int (iZ (a))), some (.int (iZ (b))), some (.int (iZ (k)))] [] := by
            intro j
            induction j with
            | zero =>
              intro k σ1 hk h1 hf
              have e : k = L := by omega
              subst e
              refine V.run 0 54 rfl hn trivial ?_
              refine V.cv (lo := 54) (d' := d - 1) rfl rfl ok_X9_leads lk_9_X9_leads rfl rfl rfl hn (by omega) (Nat.le_refl _) (Nat.le_refl _) ((m_leads hn (by omega) (by omega) (by omega) (by omega) (fun c1 σ2 hf2 => ?_) (fun c1 σ2 hf2 => ?_)))
              · refine V.brF rfl (by decide) ?_
                refine V.run 0 54 rfl hn trivial ?_
                refine V.ret (v := some (.int (iZ k))) rfl rfl rfl rfl (hQ2 σ2 (hf.tr hf2))
              · rw [q2] at c1; cases c1
            | succ j ih =>
              intro k σ1 hk h1 hf
              refine V.run 0 54 rfl hn trivial ?_
              refine V.cv (lo := 54) (d' := d - 1) rfl rfl ok_X9_leads lk_9_X9_leads rfl rfl rfl hn (by omega) (Nat.le_refl _) (Nat.le_refl _) ((m_leads hn (by omega) (by omega) (by omega) (by omega) (fun c1 σ2 hf2 => ?_) (fun c1 σ2 hf2 => ?_)))
              · rw [q3 k h1 (by omega)] at c1; cases c1
              · refine V.brT rfl rfl ?_
                refine V.run 0 54 rfl hn trivial ?_
                have := ih (k + 1) σ2 (by omega) (by omega) (hf.tr hf2)
                rw [show ((k + 1 : Nat) : Int) = (k : Int) + 1 by omega, ← iZ_add] at this
                exact this
          exact key (L - 1) 1 σ (by omega) (by omega) Fr.rf
    · refine V.brT rfl rfl ?_
      exact bad _ (fun q => g2 q.2.1)
  · refine V.brT rfl rfl ?_
    exact bad _ (fun q => g q.1)
end MDD
