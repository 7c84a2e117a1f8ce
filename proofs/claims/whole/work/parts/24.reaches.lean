/-! ===== the reference: reaches, together ===== -/
theorem rch_small {gs : List Nat} : ∀ {k g : Nat} {r : List Nat}, (∀ x ∈ r, x ≤ g) → g * 2 ^ k < mxD gs → rch gs k r = false
  | 0, g, r, hg, h => rfl
  | k + 1, g, r, hg, h => by
    unfold rch
    rw [List.any_eq_false]
    intro v hv
    have h1 := candB_spec (mem_candL.mp hv)
    have h2 := snB_le h1.2.2.1 hg
    have hp : 1 ≤ 2 ^ k := Nat.one_le_two_pow
    rw [Nat.pow_succ] at h
    have h3 : 2 * g * 2 ^ k < mxD gs := by
      rw [Nat.mul_comm 2 g, Nat.mul_assoc, Nat.mul_comm 2]
      exact h
    have h4 : v < mxD gs := by
      have : 2 * g * 1 ≤ 2 * g * 2 ^ k := Nat.mul_le_mul_left _ hp
      omega
    have := rch_small (k := k) (g := 2 * g) (r := r ++ [v]) (fun x hx => by
      rcases List.mem_append.mp hx with q | q
      · have := hg x q; omega
      · rw [List.mem_singleton] at q; omega) h3
    rw [this]
    simp
    omega
theorem mx_ng {gs : List Nat} (hb : ∀ g ∈ gs, g ≤ 60) (v : Nat) : ngD gs v ≤ 60 ∧ mxD gs ≤ 60 := fold_le hb v (Nat.zero_le 60)
def isT (gs : List Nat) (T : Nat) : Prop := (mxD gs = 0 ∧ T = 0) ∨ (mxD gs ≠ 0 ∧ rch gs T [1] = true ∧ ∀ k, k < T → rch gs k [1] = false)
section MD9
variable {d n ca cb tr : Nat} {Q : PQ}
theorem rchV (hn : 54 ≤ n) (hd : 3 ≤ d) {gs : List Nat} (hgb : ∀ g ∈ gs, g ≤ 60) : ∀ (left : Nat) (q : Nat) (r : List Nat) (p : Nat) (σ : Mem) (x4 x5 : Option Value), goalsM σ gs → q + p = (candL 0 (ngD gs (lastD r)) r).length → 0 < r.length → r.length + left ≤ 42 → told σ r → (∀ x ∈ r, x < 1000) → (∀ x ∈ r, x ≤ lastD r) → rowAt σ (r.length - 1) (candL 0 (ngD gs (lastD r)) r) → σ 42 (r.length - 1) = iZ p →
    (∀ (σ' : Mem) (x4 x5 : Option Value), keepS (r.length - 1) σ σ' → ((candL 0 (ngD gs (lastD r)) r).drop p).any (fun v => v == mxD gs || rch gs left (r ++ [v])) = false → V M_X9_reaches d n n none Q n (rho ca cb tr) σ' 71 [some (.ref 35), some (.int (iZ ((r.length + left : Nat)))), some (.int (iZ (mxD gs))), some (.int (iZ ((r.length : Int) - 1 - 1))), x4, x5] []) →
    (∀ (σ' : Mem), Fr [39, 40, 41, 42, 43] σ σ' → ((candL 0 (ngD gs (lastD r)) r).drop p).any (fun v => v == mxD gs || rch gs left (r ++ [v])) = true → Q (some (.int 1)) (rho ca cb tr) σ') →
    V M_X9_reaches d n n none Q n (rho ca cb tr) σ 71 [some (.ref 35), some (.int (iZ ((r.length + left : Nat)))), some (.int (iZ (mxD gs))), some (.int (iZ ((r.length - 1 : Nat)))), x4, x5] [] := by
  have hng := fun v => (mx_ng hgb v).1
  have hmx := (mx_ng hgb 0).2
  intro left
  induction left using Nat.strongRecOn with
  | ind left ihL =>
    intro q
    induction q with
    | zero =>
      intro r p σ x4 x5 hG hq hr hrl ht hb hri hrow hat hK hF
      have hC := candL_len (kind := 0) (r := r) (show ngD gs (lastD r) < 400 by have := hng (lastD r); omega)
      have hd0 : (candL 0 (ngD gs (lastD r)) r).drop p = [] := by rw [show p = (candL 0 (ngD gs (lastD r)) r).length by omega]; exact List.drop_length
      rw [hd0] at hK
      have K := hK σ x4 x5 keepS.rf rfl
      refine V.run 0 54 rfl hn trivial ?_
      refine V.brF rfl (fun c => by have := (iZ_lt0 (by omega)).mp c; omega) ?_
      refine V.run 0 54 rfl hn ⟨in_N (n := 44) (by omega) (by decide), in_N (n := 44) (by omega) (by decide), trivial⟩ ?_
      simp only [rf_told, rf_comes, rf_comeMany, rf_comeAt, rf_isSeen, rf_goals, rf_text, rf_taken, rf_roadRow, rf_dueNumber, rf_dueTimes, rf_above, rf_tree, rf_way, rf_signs, rf_spent, rf_read, rf_useMany, rf_lastUse, fi_9_0, fi_9_2, fi_9_3, fi_9_4, fi_9_6, fi_9_7, fi_9_14, fi_9_19, fi_9_24, fi_9_26, fi_9_27, fi_9_30]
      rw [ix_N (by omega), hat, hrow.1]
      refine V.brT rfl (by rw [show p = (candL 0 (ngD gs (lastD r)) r).length by omega]) ?_
      refine V.run 0 54 rfl hn trivial ?_
      rw [show (r.length : Int) - 1 - 1 = ((r.length - 1 : Nat) : Int) + (-1) by omega, ← iZ_add] at K
      exact K
    | succ q ih =>
      intro r p σ x4 x5 hG hq hr hrl ht hb hri hrow hat hK hF
      have hC := candL_len (kind := 0) (r := r) (show ngD gs (lastD r) < 400 by have := hng (lastD r); omega)
      obtain ⟨v, hv⟩ : ∃ v, (candL 0 (ngD gs (lastD r)) r).getD p 0 = v := ⟨_, rfl⟩
      have hdr : (candL 0 (ngD gs (lastD r)) r).drop p = v :: (candL 0 (ngD gs (lastD r)) r).drop (p + 1) := by
        rw [List.drop_eq_getElem_cons (by omega)]
        rw [List.getD_eq_getElem?_getD, List.getElem?_eq_getElem (by omega)] at hv
        simp only [Option.getD_some] at hv
        rw [hv]
      have hvm : v ∈ candL 0 (ngD gs (lastD r)) r := by rw [← hv]; exact getD_mem2 (by omega)
      have hvc := candB_spec (mem_candL.mp hvm)
      have hvb := hvc.2.1
      have hvn := hng (lastD r)
      have hvl : lastD r < v := by have := hvc.1; unfold lowB at this; rw [if_neg (by decide)] at this; omega
      rw [hdr] at hK hF
      -- taking v
      refine V.run 0 54 rfl hn trivial ?_
      refine V.brF rfl (fun c => by have := (iZ_lt0 (by omega)).mp c; omega) ?_
      refine V.run 0 54 rfl hn ⟨in_N (n := 44) (by omega) (by decide), in_N (n := 44) (by omega) (by decide), trivial⟩ ?_
      simp only [rf_told, rf_comes, rf_comeMany, rf_comeAt, rf_isSeen, rf_goals, rf_text, rf_taken, rf_roadRow, rf_dueNumber, rf_dueTimes, rf_above, rf_tree, rf_way, rf_signs, rf_spent, rf_read, rf_useMany, rf_lastUse, fi_9_0, fi_9_2, fi_9_3, fi_9_4, fi_9_6, fi_9_7, fi_9_14, fi_9_19, fi_9_24, fi_9_26, fi_9_27, fi_9_30]
      rw [ix_N (by omega), hat, hrow.1]
      refine V.brF rfl (fun c => by have := (iZ_eq (by omega) (by omega)).mp c; omega) ?_
      have e1 : iZ 400 * iZ ((r.length - 1 : Nat) : Int) + iZ (p : Int) = iZ ((400 * (r.length - 1) + p : Nat) : Int) := by
        rw [iZ_mul, iZ_add]
        exact iZ_pat (by omega)
      have e2 : iZ ((r.length - 1 : Nat) : Int) + iZ 1 = iZ (r.length : Int) := by
        rw [iZ_add]
        exact iZ_pat (by omega)
      refine V.run 142 54 rfl hn ⟨in_N (n := 44) (by omega) (by decide), by (simp only [rf_comeAt]; rw [ix_N (by omega), hat, e1]; exact in_N (n := 20000) (by omega) (by decide)), in_N (n := 44) (by omega) (by decide), in_N (n := 44) (by omega) (by decide), by rw [e2]; exact in_N (n := 44) (by omega) (by decide), trivial⟩ ?_
      simp only [rf_told, rf_comes, rf_comeMany, rf_comeAt, rf_isSeen, rf_goals, rf_text, rf_taken, rf_roadRow, rf_dueNumber, rf_dueTimes, rf_above, rf_tree, rf_way, rf_signs, rf_spent, rf_read, rf_useMany, rf_lastUse, fi_9_0, fi_9_2, fi_9_3, fi_9_4, fi_9_6, fi_9_7, fi_9_14, fi_9_19, fi_9_24, fi_9_26, fi_9_27, fi_9_30]
      rw [ix_N (by omega), hat, e1, e2, ix_N (by omega), ix_N (by omega), hrow.2 p (by omega), hv, iZ_add, iZ_sub, iZ_sub, show ((r.length + left : Nat) : Int) - (r.length - 1 : Nat) - 1 = (left : Int) by omega]
      have e3 : ((p : Int) + 1) = ((p + 1 : Nat) : Int) := by omega
      rw [e3]
      generalize hσ1 : up (up σ 42 (r.length - 1) (iZ (p + 1 : Nat))) 39 r.length (iZ v) = σ1
      have hf1 : Fr [39, 40, 41, 42, 43] σ σ1 := by rw [← hσ1]; exact Fr.putT (Fr.put (by simp)) (by simp)
      have h39 : ∀ i, i < r.length → σ1 39 i = σ 39 i := fun i hi => by rw [← hσ1, up_nat (by omega), up_ne (by decide)]
      have h40 : σ1 40 = σ 40 := by rw [← hσ1, up_ne (by decide), up_ne (by decide)]
      have h41 : σ1 41 = σ 41 := by rw [← hσ1, up_ne (by decide), up_ne (by decide)]
      have h42 : σ1 42 (r.length - 1) = iZ (p + 1 : Nat) := by rw [← hσ1, up_ne (by decide), up_at]
      have h42b : ∀ i, i < r.length - 1 → σ1 42 i = σ 42 i := fun i hi => by rw [← hσ1, up_ne (by decide), up_nat (by omega)]
      have hk1 : keepS (r.length - 1) σ σ1 := ⟨hf1, fun i hi => h39 i (by omega), fun i _ => by rw [h40], fun i _ => by rw [h41], fun i hi => h42b i hi⟩
      have htv : told σ1 (r ++ [v]) := by
        rw [← hσ1]
        exact told_app (told_sub ht (fun i _ => by rw [up_ne (by decide)]))
      have hbv : ∀ x ∈ r ++ [v], x < 1000 := fun x hx => by
        rcases List.mem_append.mp hx with q | q
        · exact hb x q
        · rw [List.mem_singleton] at q; omega
      have hriv : ∀ x ∈ r ++ [v], x ≤ lastD (r ++ [v]) := fun x hx => by
        rw [lastD_app]
        rcases List.mem_append.mp hx with q | q
        · have := hri x q; omega
        · rw [List.mem_singleton] at q; omega
      have hG1 : goalsM σ1 gs := hG.fr hf1 (by decide) (by decide)
      -- the rest of the candidates
      have go : ∀ (σ2 : Mem) (x4 x5 : Option Value), (v == mxD gs || rch gs left (r ++ [v])) = false → keepS (r.length - 1) σ σ2 → σ2 42 (r.length - 1) = iZ (p + 1 : Nat) → V M_X9_reaches d n n none Q n (rho ca cb tr) σ2 71 [some (.ref 35), some (.int (iZ ((r.length + left : Nat)))), some (.int (iZ (mxD gs))), some (.int (iZ ((r.length - 1 : Nat)))), x4, x5] [] := by
        intro σ2 x4 x5 hno hk2 h422
        refine ih r (p + 1) σ2 x4 x5 (hG.fr hk2.1 (by decide) (by decide)) (by omega) hr hrl (told_sub ht (fun i hi => hk2.2.1 i (by omega))) hb hri (hk2.row (by omega) hrow) h422 (fun σ' x4 x5 hk3 ho => ?_) (fun σ' hf3 ho => ?_)
        · exact hK σ' x4 x5 (hk2.tr hk3) (by rw [List.any_cons, hno, ho]; rfl)
        · exact hF σ' (hk2.1.tr hf3) (by rw [List.any_cons, hno, ho]; rfl)
      refine V.run 0 54 rfl hn trivial ?_
      refine V.br rfl (fun (c : iZ v = iZ (mxD gs)) => ?_) (fun (c : ¬ (iZ v = iZ (mxD gs))) => ?_)
      · rw [iZ_eq (by omega) (by omega)] at c
        refine V.run 0 54 rfl hn trivial ?_
        refine V.ret (v := some (.int 1)) rfl rfl ⟨rfl, Or.inr rfl⟩ rfl (hF σ1 hf1 (by rw [List.any_cons, show v = mxD gs by omega]; simp))
      · rw [iZ_eq (by omega) (by omega)] at c
        have hne : (v == mxD gs) = false := by simp; omega
        refine V.run 0 54 rfl hn trivial ?_
        refine V.br rfl (fun (c1 : iZ left ≤ 0) => ?_) (fun (c1 : ¬ (iZ left ≤ 0)) => ?_)
        · rw [iZ_le0 (by omega)] at c1
          have e0 : left = 0 := by omega
          subst e0
          refine V.run 0 54 rfl hn trivial ?_
          exact go σ1 _ _ (by rw [hne]; rfl) hk1 h42
        · rw [iZ_le0 (by omega)] at c1
          obtain ⟨l2, rfl⟩ : ∃ l2, left = l2 + 1 := ⟨left - 1, by omega⟩
          have hpw : (v : Int) * 2 ^ (l2 + 1) < 9223372036854775808 := by
            have h1 : (2 : Nat) ^ (l2 + 1) ≤ 2 ^ 42 := Nat.pow_le_pow_right (by decide) (by omega)
            have h2 : v * 2 ^ (l2 + 1) ≤ 100000 * 2 ^ 42 := Nat.mul_le_mul (by omega) h1
            have h3 : ((v * 2 ^ (l2 + 1) : Nat) : Int) = (v : Int) * 2 ^ (l2 + 1) := by simp
            have h4 : (100000 * 2 ^ 42 : Nat) = 439804651110400000 := by decide
            omega
          have hpw0 : (0 : Int) ≤ (v : Int) * 2 ^ (l2 + 1) := Int.mul_nonneg (by omega) (Int.le_of_lt (Int.pow_pos (by decide)))
          refine V.run 0 54 rfl hn trivial ?_
          rw [iZ_long (z := (v : Int)) (by omega), iZ_long (z := (mxD gs : Int)) (by omega), lZ_shl (k := l2 + 1) (by omega)]
          refine V.br rfl (fun (c2 : lg_cmp (lZ ((v : Int) * 2 ^ (l2 + 1))) (lZ (mxD gs)) < 0) => ?_) (fun (c2 : ¬ (lg_cmp (lZ ((v : Int) * 2 ^ (l2 + 1))) (lZ (mxD gs)) < 0)) => ?_)
          · rw [lcmp_lt, lZ_lt (by omega) (by omega)] at c2
            have hz : rch gs (l2 + 1) (r ++ [v]) = false := rch_small (g := v) (fun x hx => by have := hriv x hx; rw [lastD_app] at this; exact this) (by
              have h3 : ((v * 2 ^ (l2 + 1) : Nat) : Int) = (v : Int) * 2 ^ (l2 + 1) := by simp
              omega)
            refine V.run 0 54 rfl hn trivial ?_
            exact go σ1 _ _ (by rw [hne, hz]; rfl) hk1 h42
          · refine V.run 0 54 rfl hn trivial ?_
            rw [e2]
            refine V.cv (lo := 54) (d' := d - 1) rfl rfl ok_X9_nextGoal lk_9_X9_nextGoal rfl rfl rfl hn (by omega) (Nat.le_refl _) (Nat.le_refl _) ((m_nextGoal hn (by omega) hG1 ?_))
            refine V.run 0 54 rfl hn trivial ?_
            have hm2 := hng v
            refine V.cv (lo := 54) (d' := d - 1) rfl rfl ok_X9_layComes lk_9_X9_layComes rfl rfl rfl hn (by omega) (Nat.le_refl _) (Nat.le_refl _) ((m_layComes hn (by omega) (kind := 0) (r := r ++ [v]) (by simp) (by omega) htv hbv (by omega) (by omega) (fun σ2 hl2 => ?_)))
            obtain ⟨l1, l2', l3, l4, l5⟩ := hl2
            have el : (r ++ [v]).length - 1 = r.length := by simp
            have el2 : (r ++ [v]).length = r.length + 1 := by simp
            rw [el] at l2' l3 l4 l5
            refine V.run 0 54 rfl hn trivial ?_
            have hlv : lastD (r ++ [v]) = v := lastD_app r v
            have key := ihL l2 (by omega) ((candL 0 (ngD gs v) (r ++ [v])).length) (r ++ [v]) 0 σ2 (some (.int (iZ v))) (some (.int (iZ ((l2 + 1 : Nat) : Int)))) (hG1.fr l1 (by decide) (by decide)) (by rw [hlv]; omega) (by omega) (by omega) (htv.fr l1 (by decide)) hbv hriv (by rw [el, hlv]; exact l2') (by rw [el]; exact l3) (fun σ3 x4 x5 hk3 ho3 => ?_) (fun σ3 hf3 ho3 => ?_)
            · rw [el, el2, show r.length + 1 + l2 = r.length + (l2 + 1) by omega] at key
              exact key
            · rw [el] at hk3
              rw [el2, show r.length + 1 + l2 = r.length + (l2 + 1) by omega, show ((r.length + 1 : Nat) : Int) - 1 - 1 = ((r.length - 1 : Nat) : Int) by omega]
              refine go σ3 x4 x5 ?_ ⟨?_, fun i hi => ?_, fun i hi => ?_, fun i hi => ?_, fun i hi => ?_⟩ ?_
              · rw [List.drop_zero] at ho3
                rw [hne, Bool.false_or]
                unfold rch
                exact ho3
              · exact hf1.tr ((l1.mono (by simp)).tr hk3.1)
              · rw [hk3.2.1 i (by omega), l1 39 (by decide), h39 i (by omega)]
              · rw [hk3.2.2.1 i (by omega), l4 i (by omega), h40]
              · rw [hk3.2.2.2.1 i (by omega), (l5 i (by omega)).1, h41]
              · rw [hk3.2.2.2.2 i (by omega), (l5 i (by omega)).2, h42b i hi]
              · rw [hk3.2.2.2.2 _ (by omega), (l5 _ (by omega)).2, h42]
            · refine hF σ3 (hf1.tr ((l1.mono (by simp)).tr hf3)) ?_
              rw [List.any_cons]
              have : rch gs (l2 + 1) (r ++ [v]) = true := by
                unfold rch
                rw [List.drop_zero] at ho3
                exact ho3
              rw [this]
              simp
theorem m_reaches (hn : 54 ≤ n) (hd : 4 ≤ d) {gs : List Nat} {σ : Mem} {steps : Nat} (hs : steps ≤ 41) (hG : goalsM σ gs) (h1 : mxD gs = 0 ∨ rch gs steps [1] = true → ∀ σ', Fr [39, 40, 41, 42, 43] σ σ' → Q (some (.int 1)) (rho ca cb tr) σ') (h0 : mxD gs ≠ 0 → rch gs steps [1] = false → ∀ σ', Fr [39, 40, 41, 42, 43] σ σ' → Q (some (.int 0)) (rho ca cb tr) σ') : Mt M_X9_reaches d n n [.ref 35, .int (iZ steps)] (rho ca cb tr) σ Q := by
  obtain ⟨g1, g2, g3, g4, g5⟩ := id hG
  have hgb : ∀ g ∈ gs, g ≤ 60 := fun g hg => (g4 g hg).2
  have hng := fun v => (mx_ng hgb v).1
  have hmx := (mx_ng hgb 0).2
  refine Mt.of rfl (by decide +kernel) tk_X9_reaches (Nat.le_of_ble_eq_true rfl) ?_
  refine V.run 11 54 rfl hn ⟨in_N (k := 0) (n := 44) (by omega) (by decide), trivial⟩ ?_
  simp only [rf_told, rf_comes, rf_comeMany, rf_comeAt, rf_isSeen, rf_goals, rf_text, rf_taken, rf_roadRow, rf_dueNumber, rf_dueTimes, rf_above, rf_tree, rf_way, rf_signs, rf_spent, rf_read, rf_useMany, rf_lastUse, fi_9_0, fi_9_2, fi_9_3, fi_9_4, fi_9_6, fi_9_7, fi_9_14, fi_9_19, fi_9_24, fi_9_26, fi_9_27, fi_9_30]
  have e0 : ix (iZ 0) = 0 := by decide
  rw [e0]
  have hf0 : Fr [39, 40, 41, 42, 43] σ (up σ 39 0 (iZ 1)) := Fr.put (by simp)
  have ht0 : told (up σ 39 0 (iZ 1)) [1] := by
    intro i hi
    have : i = 0 := by simp at hi; exact hi
    subst this
    rw [up_at]
    rfl
  have hG0 : goalsM (up σ 39 0 (iZ 1)) gs := hG.fr hf0 (by decide) (by decide)
  generalize up σ 39 0 (iZ 1) = σ0 at hf0 ht0 hG0 ⊢
  obtain ⟨-, q2, q3, -, -⟩ := id hG0
  have key : ∀ (j k : Nat), k + j = gs.length → V M_X9_reaches d n n none Q n (rho ca cb tr) σ0 11 [some (.ref 35), some (.int (iZ (steps))), some (.int (iZ (((gs.take k).foldl (fun m g => if m < g then g else m) 0 : Nat)))), some (.int (iZ (k))), none, none] [] := by
    intro j
    induction j with
    | zero =>
      intro k hk
      have e : k = gs.length := by omega
      subst e
      rw [List.take_length]
      have em : gs.foldl (fun m g => if m < g then g else m) 0 = mxD gs := rfl
      rw [em]
      refine V.run 0 54 rfl hn trivial ?_
      simp only [rf_told, rf_comes, rf_comeMany, rf_comeAt, rf_isSeen, rf_goals, rf_text, rf_taken, rf_roadRow, rf_dueNumber, rf_dueTimes, rf_above, rf_tree, rf_way, rf_signs, rf_spent, rf_read, rf_useMany, rf_lastUse, fi_9_0, fi_9_2, fi_9_3, fi_9_4, fi_9_6, fi_9_7, fi_9_14, fi_9_19, fi_9_24, fi_9_26, fi_9_27, fi_9_30]
      rw [q2]
      refine V.brT rfl ((iZ_le (by omega) (by omega)).mpr (by omega)) ?_
      refine V.run 0 54 rfl hn trivial ?_
      refine V.br rfl (fun (c : iZ (mxD gs) = 0) => ?_) (fun (c : ¬ (iZ (mxD gs) = 0)) => ?_)
      · rw [iZ_eq0 (by omega)] at c
        refine V.run 0 54 rfl hn trivial ?_
        refine V.ret (v := some (.int 1)) rfl rfl ⟨rfl, Or.inr rfl⟩ rfl (h1 (Or.inl (by omega)) σ0 hf0)
      · rw [iZ_eq0 (by omega)] at c
        refine V.run 0 54 rfl hn trivial ?_
        match steps, hs with
        | 0, hs =>
          refine V.brT rfl rfl ?_
          refine V.run 0 54 rfl hn trivial ?_
          refine V.ret (v := some (.int 0)) rfl rfl ⟨rfl, Or.inl rfl⟩ rfl (h0 (by omega) rfl σ0 hf0)
        | left + 1, hs =>
          refine V.brF rfl (fun c => by have := (iZ_eq0 (by omega)).mp c; omega) ?_
          refine V.run 0 54 rfl hn trivial ?_
          refine V.cv (lo := 54) (d' := d - 1) rfl rfl ok_X9_nextGoal lk_9_X9_nextGoal rfl rfl rfl hn (by omega) (Nat.le_refl _) (Nat.le_refl _) ((m_nextGoal (v := 1) hn (by omega) hG0 ?_))
          refine V.run 0 54 rfl hn trivial ?_
          have hm2 := hng 1
          refine V.cv (lo := 54) (d' := d - 1) rfl rfl ok_X9_layComes lk_9_X9_layComes rfl rfl rfl hn (by omega) (Nat.le_refl _) (Nat.le_refl _) ((m_layComes hn (by omega) (kind := 0) (last := 0) (r := [1]) (by simp) (by omega) ht0 (by simp) (by omega) (by omega) (fun σ2 hl2 => ?_)))
          obtain ⟨l1, l2, l3, l4, l5⟩ := hl2
          have hl1 : lastD [1] = 1 := rfl
          have key := rchV (Q := Q) (d := d) (ca := ca) (cb := cb) (tr := tr) hn (by omega) hgb left ((candL 0 (ngD gs 1) [1]).length) [1] 0 σ2 none none (hG0.fr l1 (by decide) (by decide)) (by rw [hl1]; omega) (by simp) (by simp; omega) (ht0.fr l1 (by decide)) (by simp) (by simp [hl1]) (by rw [hl1]; exact l2) (by rw [l3]; rfl) (fun σ3 x4 x5 hk3 ho3 => ?_) (fun σ3 hf3 ho3 => ?_)
          · rw [show ([1] : List Nat).length + left = left + 1 by simp; omega] at key
            exact key
          · refine V.run 0 54 rfl hn trivial ?_
            refine V.brT rfl (by decide) ?_
            refine V.run 0 54 rfl hn trivial ?_
            refine V.ret (v := some (.int 0)) rfl rfl ⟨rfl, Or.inl rfl⟩ rfl (h0 (by omega) (by unfold rch; rw [List.drop_zero] at ho3; exact ho3) σ3 (hf0.tr ((l1.mono (by simp)).tr hk3.1)))
          · exact h1 (Or.inr (by unfold rch; rw [List.drop_zero] at ho3; exact ho3)) σ3 (hf0.tr ((l1.mono (by simp)).tr hf3))
    | succ j ih =>
      intro k hk
      have hb := g4 _ (getD_mem2 (r := gs) (i := k) (by omega))
      have hB := (fold_le (take_mem hgb k) 0 (Nat.zero_le 60)).2
      have hnx := foldl_take (fun m g => if m < g then g else m) 0 gs (k := k) (by omega)
      have ihk := ih (k + 1) (by omega)
      rw [hnx, show ((k + 1 : Nat) : Int) = (k : Int) + 1 by omega, ← iZ_add] at ihk
      have e3 := q3 k (by omega)
      generalize (gs.take k).foldl (fun m g => if m < g then g else m) 0 = best at *
      generalize gs.getD k 0 = g at *
      refine V.run 0 54 rfl hn trivial ?_
      simp only [rf_told, rf_comes, rf_comeMany, rf_comeAt, rf_isSeen, rf_goals, rf_text, rf_taken, rf_roadRow, rf_dueNumber, rf_dueTimes, rf_above, rf_tree, rf_way, rf_signs, rf_spent, rf_read, rf_useMany, rf_lastUse, fi_9_0, fi_9_2, fi_9_3, fi_9_4, fi_9_6, fi_9_7, fi_9_14, fi_9_19, fi_9_24, fi_9_26, fi_9_27, fi_9_30]
      rw [q2]
      refine V.brF rfl (fun q => by have := (iZ_le (by omega) (by omega)).mp q; omega) ?_
      refine V.run 0 54 rfl hn ⟨in_N (n := 4) (by omega) (by decide), trivial⟩ ?_
      simp only [rf_told, rf_comes, rf_comeMany, rf_comeAt, rf_isSeen, rf_goals, rf_text, rf_taken, rf_roadRow, rf_dueNumber, rf_dueTimes, rf_above, rf_tree, rf_way, rf_signs, rf_spent, rf_read, rf_useMany, rf_lastUse, fi_9_0, fi_9_2, fi_9_3, fi_9_4, fi_9_6, fi_9_7, fi_9_14, fi_9_19, fi_9_24, fi_9_26, fi_9_27, fi_9_30]
      rw [ix_N (by omega), e3]
      refine V.br rfl (fun (c1 : iZ g ≤ iZ best) => ?_) (fun (c1 : ¬ (iZ g ≤ iZ best)) => ?_)
      · rw [iZ_le (by omega) (by omega)] at c1
        rw [if_neg (by omega)] at ihk
        refine V.run 0 54 rfl hn trivial ?_
        exact ihk
      · rw [iZ_le (by omega) (by omega)] at c1
        rw [if_pos (by omega)] at ihk
        refine V.run 0 54 rfl hn ⟨in_N (n := 4) (by omega) (by decide), trivial⟩ ?_
        simp only [rf_told, rf_comes, rf_comeMany, rf_comeAt, rf_isSeen, rf_goals, rf_text, rf_taken, rf_roadRow, rf_dueNumber, rf_dueTimes, rf_above, rf_tree, rf_way, rf_signs, rf_spent, rf_read, rf_useMany, rf_lastUse, fi_9_0, fi_9_2, fi_9_3, fi_9_4, fi_9_6, fi_9_7, fi_9_14, fi_9_19, fi_9_24, fi_9_26, fi_9_27, fi_9_30]
        rw [ix_N (by omega), e3]
        refine V.run 0 54 rfl hn trivial ?_
        exact ihk
  exact key gs.length 0 (by omega)
theorem m_together (hn : 54 ≤ n) (hd : 5 ≤ d) {gs : List Nat} {σ : Mem} {T : Nat} (hT : isT gs T) (hT2 : T ≤ 41) (hG : goalsM σ gs) (hQ : ∀ σ', Fr [39, 40, 41, 42, 43] σ σ' → Q (some (.int (iZ T))) (rho ca cb tr) σ') : Mt M_X9_together d n n [.ref 35] (rho ca cb tr) σ Q := by
  refine Mt.of rfl (by decide +kernel) tk_X9_together (Nat.le_of_ble_eq_true rfl) ?_
  refine V.run 2 54 rfl hn trivial ?_
  have key : ∀ (j k : Nat) (σ1 : Mem), k + j = T → Fr [39, 40, 41, 42, 43] σ σ1 → V M_X9_together d n n none Q n (rho ca cb tr) σ1 2 [some (.ref 35), some (.int (iZ (k)))] [] := by
    intro j
    induction j with
    | zero =>
      intro k σ1 hk hf
      have e : k = T := by omega
      subst e
      refine V.run 0 54 rfl hn trivial ?_
      refine V.cv (lo := 54) (d' := d - 1) rfl rfl ok_X9_reaches lk_9_X9_reaches rfl rfl rfl hn (by omega) (Nat.le_refl _) (Nat.le_refl _) ((m_reaches hn (by omega) (by omega) (hG.fr hf (by decide) (by decide)) (fun _ σ2 hf2 => ?_) (fun c1 c2 σ2 hf2 => ?_)))
      · refine V.brF rfl (by decide) ?_
        refine V.run 0 54 rfl hn trivial ?_
        refine V.ret (v := some (.int (iZ k))) rfl rfl rfl rfl (hQ σ2 (hf.tr hf2))
      · rcases hT with q | q
        · exact absurd q.1 c1
        · rw [q.2.1] at c2; cases c2
    | succ j ih =>
      intro k σ1 hk hf
      refine V.run 0 54 rfl hn trivial ?_
      refine V.cv (lo := 54) (d' := d - 1) rfl rfl ok_X9_reaches lk_9_X9_reaches rfl rfl rfl hn (by omega) (Nat.le_refl _) (Nat.le_refl _) ((m_reaches hn (by omega) (by omega) (hG.fr hf (by decide) (by decide)) (fun c1 σ2 hf2 => ?_) (fun c1 c2 σ2 hf2 => ?_)))
      · rcases hT with q | q
        · omega
        · rcases c1 with c1 | c1
          · exact absurd c1 q.1
          · rw [q.2.2 k (by omega)] at c1; cases c1
      · refine V.brT rfl rfl ?_
        refine V.run 0 54 rfl hn trivial ?_
        have := ih (k + 1) σ2 (by omega) (hf.tr hf2)
        rw [show ((k + 1 : Nat) : Int) = (k : Int) + 1 by omega, ← iZ_add] at this
        exact this
  exact key T 0 σ (by omega) Fr.rf
end MD9
