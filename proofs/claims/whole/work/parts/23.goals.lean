/-! ===== the reference: goals ===== -/
def goalsM (σ : Mem) (gs : List Nat) : Prop := gs.length ≤ 4 ∧ σ 35 0 = iZ gs.length ∧ (∀ i, i < gs.length → σ 36 i = iZ (gs.getD i 0)) ∧ (∀ g ∈ gs, 2 ≤ g ∧ g ≤ 60) ∧ gs.Nodup
def G_goal (gs : List Nat) (z : Int) : Int × List Nat := if ¬ (2 ≤ z ∧ z ≤ 60) then (-1, gs) else if z.toNat ∈ gs then (-2, gs) else if gs.length = 4 then (-3, gs) else (gs.length + 1, gs ++ [z.toNat])
def mxD (gs : List Nat) : Nat := gs.foldl (fun m g => if m < g then g else m) 0
def ngD (gs : List Nat) (v : Nat) : Nat := gs.foldl (fun b g => if v < g ∧ (b = 0 ∨ g < b) then g else b) 0
def rch (gs : List Nat) (k : Nat) (r : List Nat) : Bool := match k with
  | 0 => false
  | k + 1 => (candL 0 (ngD gs (lastD r)) r).any (fun v => v == mxD gs || rch gs k (r ++ [v]))
theorem goalsM.fr {S : List Nat} {σ σ' : Mem} {gs : List Nat} (h : goalsM σ gs) (hf : Fr S σ σ') (h1 : 35 ∉ S) (h2 : 36 ∉ S) : goalsM σ' gs := by
  unfold goalsM at *
  rw [hf 35 h1, hf 36 h2]
  exact h
theorem foldl_take {α : Type} (f : α → Nat → α) (a : α) (gs : List Nat) {k : Nat} (hk : k < gs.length) : (gs.take (k + 1)).foldl f a = f ((gs.take k).foldl f a) (gs.getD k 0) := by
  have e : gs.getD k 0 = gs[k] := by rw [List.getD_eq_getElem?_getD, List.getElem?_eq_getElem hk]; rfl
  rw [e, List.take_succ, List.getElem?_eq_getElem hk, Option.toList_some, List.foldl_append]
  rfl
theorem fold_le {gs : List Nat} (hb : ∀ g ∈ gs, g ≤ 60) (v : Nat) : ∀ {b : Nat}, b ≤ 60 → gs.foldl (fun b g => if v < g ∧ (b = 0 ∨ g < b) then g else b) b ≤ 60 ∧ gs.foldl (fun m g => if m < g then g else m) b ≤ 60 := by
  induction gs with
  | nil => intro b h; exact ⟨h, h⟩
  | cons g gs ih =>
    intro b h
    have hg := hb g List.mem_cons_self
    have ih' := fun {b} => ih (fun x hx => hb x (List.mem_cons_of_mem _ hx)) (b := b)
    simp only [List.foldl_cons]
    exact ⟨(ih' (by split <;> omega)).1, (ih' (by split <;> omega)).2⟩
theorem take_mem {gs : List Nat} {P : Nat → Prop} (h : ∀ g ∈ gs, P g) (k : Nat) : ∀ g ∈ gs.take k, P g := fun g hg => h g (List.mem_of_mem_take hg)
theorem rf_goalMany : (35 : Nat) = 35 := rfl
section MD8
variable {d n ca cb tr : Nat} {Q : PQ} {σ : Mem}
theorem m_goal (hn : 54 ≤ n) (hd : 2 ≤ d) {gs : List Nat} {z : Int} (hz : -2147483648 ≤ z ∧ z < 2147483648) (hg : goalsM σ gs) (hQ : ∀ σ', goalsM σ' (G_goal gs z).2 → Fr [35, 36] σ σ' → (∀ j, j ≠ 0 → σ' 35 j = σ 35 j) → Q (some (.int (iZ (G_goal gs z).1))) (rho ca cb tr) σ') : Mt M_X9_goal d n n [.ref 35, .int (iZ z)] (rho ca cb tr) σ Q := by
  obtain ⟨g1, g2, g3, g4, g5⟩ := id hg
  refine Mt.of rfl (by decide +kernel) tk_X9_goal (Nat.le_of_ble_eq_true rfl) ?_
  refine V.run 0 54 rfl hn trivial ?_
  refine V.cs (d' := d - 1) rfl rfl ok_X9_in lk_9_X9_in rfl (by omega) (Nat.le_refl _) (Nat.le_refl _) ((m_inZ (by omega) (by omega) (by omega) (fun c => ?_) (fun c => ?_)))
  · unfold G_goal at hQ
    rw [if_neg (by omega)] at hQ
    refine V.brF rfl (by decide) ?_
    refine V.run 18 54 rfl hn trivial ?_
    have key : ∀ (j k : Nat), k + j = gs.length → (∀ i, i < k → gs.getD i 0 ≠ z.toNat) → V M_X9_goal d n n none Q n (rho ca cb tr) σ 18 [some (.ref 35), some (.int (iZ (z))), some (.int (iZ (k)))] [] := by
      intro j
      induction j with
      | zero =>
        intro k hk hno
        have hnm : z.toNat ∉ gs := fun q => by
          obtain ⟨i, hi, e⟩ := mem_getD q
          exact hno i (by omega) e
        rw [if_neg hnm] at hQ
        refine V.run 0 54 rfl hn trivial ?_
        simp only [rf_told, rf_comes, rf_comeMany, rf_comeAt, rf_isSeen, rf_goals, rf_text, rf_taken, rf_roadRow, rf_dueNumber, rf_dueTimes, rf_above, rf_tree, rf_way, rf_signs, rf_spent, rf_read, rf_useMany, rf_lastUse, fi_9_0, fi_9_2, fi_9_3, fi_9_4, fi_9_6, fi_9_7, fi_9_14, fi_9_19, fi_9_24, fi_9_26, fi_9_27, fi_9_30]
        rw [g2]
        refine V.brT rfl ((iZ_le (by omega) (by omega)).mpr (by omega)) ?_
        refine V.run 0 54 rfl hn trivial ?_
        simp only [rf_told, rf_comes, rf_comeMany, rf_comeAt, rf_isSeen, rf_goals, rf_text, rf_taken, rf_roadRow, rf_dueNumber, rf_dueTimes, rf_above, rf_tree, rf_way, rf_signs, rf_spent, rf_read, rf_useMany, rf_lastUse, fi_9_0, fi_9_2, fi_9_3, fi_9_4, fi_9_6, fi_9_7, fi_9_14, fi_9_19, fi_9_24, fi_9_26, fi_9_27, fi_9_30]
        rw [g2]
        refine V.br rfl (fun (c2 : iZ gs.length = iZ 4) => ?_) (fun (c2 : ¬ (iZ gs.length = iZ 4)) => ?_)
        · rw [iZ_eq (by omega) (by omega)] at c2
          rw [if_pos (by omega)] at hQ
          refine V.run 0 54 rfl hn trivial ?_
          refine V.ret (v := some (.int (iZ (-3)))) rfl rfl rfl rfl (hQ σ hg Fr.rf (fun _ _ => rfl))
        · rw [iZ_eq (by omega) (by omega)] at c2
          rw [if_neg (by omega)] at hQ
          refine V.run 0 54 rfl hn ⟨by rw [g2]; exact in_N (n := 4) (by omega) (by decide), trivial⟩ ?_
          simp only [rf_told, rf_comes, rf_comeMany, rf_comeAt, rf_isSeen, rf_goals, rf_text, rf_taken, rf_roadRow, rf_dueNumber, rf_dueTimes, rf_above, rf_tree, rf_way, rf_signs, rf_spent, rf_read, rf_useMany, rf_lastUse, fi_9_0, fi_9_2, fi_9_3, fi_9_4, fi_9_6, fi_9_7, fi_9_14, fi_9_19, fi_9_24, fi_9_26, fi_9_27, fi_9_30]
          have e1 : up σ 36 (ix (σ 35 0)) (iZ z) 35 0 = σ 35 0 := by rw [up_ne (by decide)]
          have e2 : up (up σ 36 (ix (σ 35 0)) (iZ z)) 35 0 (up σ 36 (ix (σ 35 0)) (iZ z) 35 0 + iZ 1) 35 0 = iZ (gs.length + 1) := by rw [up_at, e1, g2, iZ_add]
          rw [e2]
          refine V.ret (v := some (.int (iZ (gs.length + 1)))) rfl rfl rfl rfl (?_)
          refine hQ _ ⟨?_, ?_, ?_, ?_, ?_⟩ (Fr.putT (Fr.put (by simp)) (by simp)) (fun j hj => ?_)
          · simp; omega
          · rw [e2]; simp
          · intro i hi
            rw [up_ne (by decide), g2, ix_N (by omega)]
            rw [List.length_append, List.length_singleton] at hi
            by_cases e : i = gs.length
            · subst e
              rw [up_at]
              simp
              exact iZ_pat (by omega)
            · rw [up_nat e, g3 i (by omega)]
              congr 2
              rw [List.getD_eq_getElem?_getD, List.getD_eq_getElem?_getD, List.getElem?_append_left (by omega)]
          · intro g hg
            rcases List.mem_append.mp hg with q | q
            · exact g4 g q
            · rw [List.mem_singleton] at q; omega
          · rw [List.nodup_append]
            refine ⟨g5, by simp, ?_⟩
            intro a ha b hb
            rw [List.mem_singleton] at hb
            rw [hb]
            rintro rfl
            exact hnm ha
          · rw [up_nat hj, up_ne (by decide)]
      | succ j ih =>
        intro k hk hno
        refine V.run 0 54 rfl hn trivial ?_
        simp only [rf_told, rf_comes, rf_comeMany, rf_comeAt, rf_isSeen, rf_goals, rf_text, rf_taken, rf_roadRow, rf_dueNumber, rf_dueTimes, rf_above, rf_tree, rf_way, rf_signs, rf_spent, rf_read, rf_useMany, rf_lastUse, fi_9_0, fi_9_2, fi_9_3, fi_9_4, fi_9_6, fi_9_7, fi_9_14, fi_9_19, fi_9_24, fi_9_26, fi_9_27, fi_9_30]
        rw [g2]
        refine V.brF rfl (fun q => by have := (iZ_le (by omega) (by omega)).mp q; omega) ?_
        refine V.run 0 54 rfl hn ⟨in_N (n := 4) (by omega) (by decide), trivial⟩ ?_
        simp only [rf_told, rf_comes, rf_comeMany, rf_comeAt, rf_isSeen, rf_goals, rf_text, rf_taken, rf_roadRow, rf_dueNumber, rf_dueTimes, rf_above, rf_tree, rf_way, rf_signs, rf_spent, rf_read, rf_useMany, rf_lastUse, fi_9_0, fi_9_2, fi_9_3, fi_9_4, fi_9_6, fi_9_7, fi_9_14, fi_9_19, fi_9_24, fi_9_26, fi_9_27, fi_9_30]
        have hb := g4 _ (getD_mem2 (r := gs) (i := k) (by omega))
        rw [ix_N (by omega), g3 k (by omega)]
        refine V.br rfl (fun (c2 : iZ (gs.getD k 0) = iZ z) => ?_) (fun (c2 : ¬ (iZ (gs.getD k 0) = iZ z)) => ?_)
        · rw [iZ_eq (by omega) (by omega)] at c2
          have hm : z.toNat ∈ gs := by
            rw [show z.toNat = gs.getD k 0 by omega]
            exact getD_mem2 (by omega)
          rw [if_pos hm] at hQ
          refine V.run 0 54 rfl hn trivial ?_
          refine V.ret (v := some (.int (iZ (-2)))) rfl rfl rfl rfl (hQ σ hg Fr.rf (fun _ _ => rfl))
        · rw [iZ_eq (by omega) (by omega)] at c2
          refine V.run 0 54 rfl hn trivial ?_
          have := ih (k + 1) (by omega) (fun i hi => by
            by_cases e : i = k
            · subst e; omega
            · exact hno i (by omega))
          rw [show ((k + 1 : Nat) : Int) = (k : Int) + 1 by omega, ← iZ_add] at this
          exact this
    exact key gs.length 0 (by omega) (fun i hi => by omega)
  · unfold G_goal at hQ
    rw [if_pos c] at hQ
    refine V.brT rfl rfl ?_
    refine V.run 0 54 rfl hn trivial ?_
    refine V.ret (v := some (.int (iZ (-1)))) rfl rfl rfl rfl (hQ σ hg Fr.rf (fun _ _ => rfl))
theorem m_noGoals (hn : 54 ≤ n) {gs : List Nat} (hg : goalsM σ gs) (hQ : ∀ σ', goalsM σ' [] → Fr [35] σ σ' → (∀ j, j ≠ 0 → σ' 35 j = σ 35 j) → Q (some (.int (iZ gs.length))) (rho ca cb tr) σ') : Mt M_X9_noGoals d n n [.ref 35] (rho ca cb tr) σ Q := by
  obtain ⟨g1, g2, g3, g4, g5⟩ := id hg
  refine Mt.of rfl (by decide +kernel) tk_X9_noGoals (Nat.le_of_ble_eq_true rfl) ?_
  refine V.run 0 54 rfl hn trivial ?_
  rw [g2]
  refine V.ret (v := some (.int (iZ gs.length))) rfl rfl rfl rfl (hQ (up σ 35 0 (iZ 0)) ⟨by simp, by rw [up_at]; rfl, fun i hi => by simp at hi, fun g hg => by simp at hg, by simp⟩ (Fr.put (by simp)) (fun j hj => up_nat hj))
theorem m_nextGoal (hn : 54 ≤ n) {gs : List Nat} {v : Nat} (hv : v < 1000) (hg : goalsM σ gs) (hQ : Q (some (.int (iZ (ngD gs v)))) (rho ca cb tr) σ) : Mt M_X9_nextGoal d n n [.ref 35, .int (iZ v)] (rho ca cb tr) σ Q := by
  obtain ⟨g1, g2, g3, g4, g5⟩ := id hg
  refine Mt.of rfl (by decide +kernel) tk_X9_nextGoal (Nat.le_of_ble_eq_true rfl) ?_
  refine V.run 4 54 rfl hn trivial ?_
  have key : ∀ (j k : Nat), k + j = gs.length → V M_X9_nextGoal d n n none Q n (rho ca cb tr) σ 4 [some (.ref 35), some (.int (iZ (v))), some (.int (iZ (((gs.take k).foldl (fun b g => if v < g ∧ (b = 0 ∨ g < b) then g else b) 0 : Nat)))), some (.int (iZ (k)))] [] := by
    intro j
    induction j with
    | zero =>
      intro k hk
      have e : k = gs.length := by omega
      subst e
      rw [List.take_length]
      refine V.run 0 54 rfl hn trivial ?_
      simp only [rf_told, rf_comes, rf_comeMany, rf_comeAt, rf_isSeen, rf_goals, rf_text, rf_taken, rf_roadRow, rf_dueNumber, rf_dueTimes, rf_above, rf_tree, rf_way, rf_signs, rf_spent, rf_read, rf_useMany, rf_lastUse, fi_9_0, fi_9_2, fi_9_3, fi_9_4, fi_9_6, fi_9_7, fi_9_14, fi_9_19, fi_9_24, fi_9_26, fi_9_27, fi_9_30]
      rw [g2]
      refine V.brT rfl ((iZ_le (by omega) (by omega)).mpr (by omega)) ?_
      refine V.run 0 54 rfl hn trivial ?_
      refine V.ret (v := some (.int (iZ (ngD gs v)))) rfl rfl rfl rfl (hQ)
    | succ j ih =>
      intro k hk
      have hb := g4 _ (getD_mem2 (r := gs) (i := k) (by omega))
      have hB := (fold_le (take_mem (fun g hg => (g4 g hg).2) k) v (Nat.zero_le 60)).1
      have hnx := foldl_take (fun b g => if v < g ∧ (b = 0 ∨ g < b) then g else b) 0 gs (k := k) (by omega)
      have ihk := ih (k + 1) (by omega)
      rw [hnx, show ((k + 1 : Nat) : Int) = (k : Int) + 1 by omega, ← iZ_add] at ihk
      have e3 := g3 k (by omega)
      generalize (gs.take k).foldl (fun b g => if v < g ∧ (b = 0 ∨ g < b) then g else b) 0 = best at *
      generalize gs.getD k 0 = g at *
      have no : ¬ (v < g ∧ (best = 0 ∨ g < best)) → V M_X9_nextGoal d n n none Q n (rho ca cb tr) σ 45 [some (.ref 35), some (.int (iZ (v))), some (.int (iZ (best))), some (.int (iZ (k)))] [] := by
        intro hno
        rw [if_neg hno] at ihk
        refine V.run 0 54 rfl hn trivial ?_
        exact ihk
      have yes : (v < g ∧ (best = 0 ∨ g < best)) → V M_X9_nextGoal d n n none Q n (rho ca cb tr) σ 36 [some (.ref 35), some (.int (iZ (v))), some (.int (iZ (best))), some (.int (iZ (k)))] [] := by
        intro hy
        rw [if_pos hy] at ihk
        refine V.run 0 54 rfl hn ⟨in_N (n := 4) (by omega) (by decide), trivial⟩ ?_
        simp only [rf_told, rf_comes, rf_comeMany, rf_comeAt, rf_isSeen, rf_goals, rf_text, rf_taken, rf_roadRow, rf_dueNumber, rf_dueTimes, rf_above, rf_tree, rf_way, rf_signs, rf_spent, rf_read, rf_useMany, rf_lastUse, fi_9_0, fi_9_2, fi_9_3, fi_9_4, fi_9_6, fi_9_7, fi_9_14, fi_9_19, fi_9_24, fi_9_26, fi_9_27, fi_9_30]
        rw [ix_N (by omega), e3]
        refine V.run 0 54 rfl hn trivial ?_
        exact ihk
      refine V.run 0 54 rfl hn trivial ?_
      simp only [rf_told, rf_comes, rf_comeMany, rf_comeAt, rf_isSeen, rf_goals, rf_text, rf_taken, rf_roadRow, rf_dueNumber, rf_dueTimes, rf_above, rf_tree, rf_way, rf_signs, rf_spent, rf_read, rf_useMany, rf_lastUse, fi_9_0, fi_9_2, fi_9_3, fi_9_4, fi_9_6, fi_9_7, fi_9_14, fi_9_19, fi_9_24, fi_9_26, fi_9_27, fi_9_30]
      rw [g2]
      refine V.brF rfl (fun q => by have := (iZ_le (by omega) (by omega)).mp q; omega) ?_
      refine V.run 0 54 rfl hn ⟨in_N (n := 4) (by omega) (by decide), trivial⟩ ?_
      simp only [rf_told, rf_comes, rf_comeMany, rf_comeAt, rf_isSeen, rf_goals, rf_text, rf_taken, rf_roadRow, rf_dueNumber, rf_dueTimes, rf_above, rf_tree, rf_way, rf_signs, rf_spent, rf_read, rf_useMany, rf_lastUse, fi_9_0, fi_9_2, fi_9_3, fi_9_4, fi_9_6, fi_9_7, fi_9_14, fi_9_19, fi_9_24, fi_9_26, fi_9_27, fi_9_30]
      rw [ix_N (by omega), e3]
      refine V.br rfl (fun (c1 : iZ g ≤ iZ v) => ?_) (fun (c1 : ¬ (iZ g ≤ iZ v)) => ?_)
      · rw [iZ_le (by omega) (by omega)] at c1
        exact no (by omega)
      · rw [iZ_le (by omega) (by omega)] at c1
        refine V.run 0 54 rfl hn trivial ?_
        refine V.br rfl (fun (c2 : iZ best = 0) => ?_) (fun (c2 : ¬ (iZ best = 0)) => ?_)
        · rw [iZ_eq0 (by omega)] at c2
          exact yes (by omega)
        · rw [iZ_eq0 (by omega)] at c2
          refine V.run 0 54 rfl hn ⟨in_N (n := 4) (by omega) (by decide), trivial⟩ ?_
          simp only [rf_told, rf_comes, rf_comeMany, rf_comeAt, rf_isSeen, rf_goals, rf_text, rf_taken, rf_roadRow, rf_dueNumber, rf_dueTimes, rf_above, rf_tree, rf_way, rf_signs, rf_spent, rf_read, rf_useMany, rf_lastUse, fi_9_0, fi_9_2, fi_9_3, fi_9_4, fi_9_6, fi_9_7, fi_9_14, fi_9_19, fi_9_24, fi_9_26, fi_9_27, fi_9_30]
          rw [ix_N (by omega), e3]
          refine V.br rfl (fun (c3 : iZ best ≤ iZ g) => ?_) (fun (c3 : ¬ (iZ best ≤ iZ g)) => ?_)
          · rw [iZ_le (by omega) (by omega)] at c3
            exact no (by omega)
          · rw [iZ_le (by omega) (by omega)] at c3
            exact yes (by omega)
  exact key gs.length 0 (by omega)
end MD8
