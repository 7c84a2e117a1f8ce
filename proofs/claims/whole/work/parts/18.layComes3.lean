/-! ===== the reference: layComes, whole ===== -/
section MD4
variable {d n ca cb tr : Nat} {Q : PQ}
/-- what layComes leaves -/
def laid (kind most : Nat) (r : List Nat) (σ σ' : Mem) : Prop := Fr [40, 41, 42, 43] σ σ' ∧ rowAt σ' (r.length - 1) (candL kind most r) ∧ σ' 42 (r.length - 1) = 0 ∧ (∀ i, i < 400 * (r.length - 1) → σ' 40 i = σ 40 i) ∧ (∀ i, i ≠ r.length - 1 → σ' 41 i = σ 41 i ∧ σ' 42 i = σ 42 i)
theorem lay3c (hn : 54 ≤ n) (hd : 2 ≤ d) {kind most : Nat} {r : List Nat} {σ : Mem} (hr : 0 < r.length) (hr2 : r.length ≤ 44) (ht : told σ r) (hb : ∀ x ∈ r, x < 1000) (hm : most < 400) (hk : kind ≤ 3) (hQ : ∀ σ', laid kind most r σ σ' → Q none (rho ca cb tr) σ') : ∀ (p i : Nat) (σ1 : Mem) (x6 x7 x8 : Option Value), i + p = r.length → Fr [43] σ σ1 → seen σ1 (fun v => lowB kind r ≤ v ∧ v ≤ most ∧ Dn kind r i 0 v) → V M_X9_layComes d n n none Q n (rho ca cb tr) σ1 47 [some (.ref 35), some (.int (iZ (kind))), some (.int (iZ ((r.length - 1 : Nat)))), some (.int (iZ (most))), some (.int (iZ (lowB kind r))), some (.int (iZ (i))), x6, x7, x8] [] := by
  have hlow2 : lowB kind r ≤ 1000 := by
    unfold lowB
    split
    · omega
    · rw [lastD_eq hr]
      have := hb _ (getD_mem2 (r := r) (i := r.length - 1) (by omega))
      omega
  intro p
  induction p with
  | zero =>
    intro i σ1 x6 x7 x8 hp hf hs
    refine V.run 0 54 rfl hn trivial ?_
    refine V.brT rfl ((iZ_lt (by omega) (by omega)).mpr (by omega)) ?_
    refine V.run 216 54 rfl hn trivial ?_
    have ht1 : told σ1 r := ht.fr hf (by decide)
    have hs1 : seen σ1 (fun v => lowB kind r ≤ v ∧ v ≤ most ∧ snB kind r v = true) := hs.congr (fun v hv => by
      rw [snB_iff hr]
      constructor
      · rintro ⟨q1, q2, a, b, q3, q4, q5, q6, q7⟩
        exact ⟨q1, q2, a, b, q3, q4, q5, q7⟩
      · rintro ⟨q1, q2, a, b, q3, q4, q5, q7⟩
        exact ⟨q1, q2, a, b, q3, q4, q5, by omega, q7⟩)
    refine lay4 hn hd hr hr2 ht1 hb hm hk hs1 (fun σ' g1 g2 g3 g4 g5 => hQ σ' ⟨(hf.mono (by simp)).tr g1, g2, g3, fun q hq => ?_, fun q hq => ?_⟩) x7 x8 most 0 σ1 (by omega) Fr.rf (fun q hq => ?_) (fun _ _ => rfl)
    · rw [g4 q hq, hf 40 (by decide)]
    · rw [(g5 q hq).1, (g5 q hq).2, hf 41 (by decide), hf 42 (by decide)]
      exact ⟨rfl, rfl⟩
    · simp [dl] at hq
  | succ p ih =>
    intro i σ1 x6 x7 x8 hp hf hs
    -- the inner loop
    have inner : ∀ (q j : Nat) (σ2 : Mem) (x7 x8 : Option Value), i ≤ j → j + q = r.length → (kind = 1 → r.length - 1 ≤ j) → Fr [43] σ σ2 → seen σ2 (fun v => lowB kind r ≤ v ∧ v ≤ most ∧ Dn kind r i j v) → V M_X9_layComes d n n none Q n (rho ca cb tr) σ2 66 [some (.ref 35), some (.int (iZ (kind))), some (.int (iZ ((r.length - 1 : Nat)))), some (.int (iZ (most))), some (.int (iZ (lowB kind r))), some (.int (iZ (i))), some (.int (iZ (j))), x7, x8] [] := by
      intro q
      induction q with
      | zero =>
        intro j σ2 x7 x8 hij hj hk1 hf2 hs2
        refine V.run 0 54 rfl hn trivial ?_
        refine V.brT rfl ((iZ_lt (by omega) (by omega)).mpr (by omega)) ?_
        refine V.run 0 54 rfl hn trivial ?_
        have := ih (i + 1) σ2 (some (.int (iZ j))) x7 x8 (by omega) hf2 (hs2.congr (fun v hv => by
          constructor
          · rintro ⟨q1, q2, a, b, q3, q4, q5, q6, q7⟩
            exact ⟨q1, q2, a, b, q3, q4, q5, by omega, q7⟩
          · rintro ⟨q1, q2, a, b, q3, q4, q5, q6, q7⟩
            exact ⟨q1, q2, a, b, q3, q4, q5, by omega, q7⟩))
        rw [show ((i + 1 : Nat) : Int) = (i : Int) + 1 by omega, ← iZ_add] at this
        exact this
      | succ q ih2 =>
        intro j σ2 x7 x8 hij hj hk1 hf2 hs2
        refine V.run 0 54 rfl hn trivial ?_
        refine V.brF rfl (fun c => by have := (iZ_lt (by omega) (by omega)).mp c; omega) ?_
        refine lay3b hn hd hr hr2 (ht.fr hf2 (by decide)) hb hm hk (by omega) (by omega) hs2 x7 x8 (fun σ3 x7 x8 hf3 hs3 => ?_)
        refine V.run 0 54 rfl hn trivial ?_
        have := ih2 (j + 1) σ3 x7 x8 (by omega) (by omega) (fun h1 => by have := hk1 h1; omega) (hf2.tr hf3) (hs3.congr (fun v hv => by
          constructor
          · rintro (⟨q1, q2, a, b, q3, q4, q5, q6, q7⟩ | ⟨q1, q2, q3⟩)
            · exact ⟨q1, q2, a, b, q3, q4, q5, by omega, q7⟩
            · exact ⟨q1, q2, i, j, hij, by omega, fun h1 => by have := hk1 h1; omega, by omega, q3⟩
          · rintro ⟨q1, q2, a, b, q3, q4, q5, q6, q7⟩
            by_cases hq : a = i ∧ b = j
            · obtain ⟨rfl, rfl⟩ := hq
              exact Or.inr ⟨q1, q2, q7⟩
            · exact Or.inl ⟨q1, q2, a, b, q3, q4, q5, by omega, q7⟩))
        rw [show ((j + 1 : Nat) : Int) = (j : Int) + 1 by omega, ← iZ_add] at this
        exact this
    refine V.run 0 54 rfl hn trivial ?_
    refine V.brF rfl (fun c => by have := (iZ_lt (by omega) (by omega)).mp c; omega) ?_
    refine V.run 0 54 rfl hn trivial ?_
    refine V.br rfl (fun (q : iZ kind = iZ 1) => ?_) (fun (q : ¬ (iZ kind = iZ 1)) => ?_)
    · rw [iZ_eq (by omega) (by omega)] at q
      have q : kind = 1 := by omega
      refine V.run 0 54 rfl hn trivial ?_
      refine V.run 66 54 rfl hn trivial ?_
      refine inner 1 (r.length - 1) σ1 x7 x8 (by omega) (by omega) (fun _ => by omega) hf (hs.congr (fun v hv => ?_))
      constructor
      · rintro ⟨q1, q2, a, b, q3, q4, q5, q6, q7⟩
        exact ⟨q1, q2, a, b, q3, q4, q5, by omega, q7⟩
      · rintro ⟨q1, q2, a, b, q3, q4, q5, q6, q7⟩
        have := q5 q
        exact ⟨q1, q2, a, b, q3, q4, q5, by omega, q7⟩
    · rw [iZ_eq (by omega) (by omega)] at q
      refine V.run 66 54 rfl hn trivial ?_
      refine inner (r.length - i) i σ1 x7 x8 (by omega) (by omega) (fun h1 => by omega) hf (hs.congr (fun v hv => ?_))
      constructor
      · rintro ⟨q1, q2, a, b, q3, q4, q5, q6, q7⟩
        exact ⟨q1, q2, a, b, q3, q4, q5, by omega, q7⟩
      · rintro ⟨q1, q2, a, b, q3, q4, q5, q6, q7⟩
        exact ⟨q1, q2, a, b, q3, q4, q5, by omega, q7⟩
theorem m_layComes (hn : 54 ≤ n) (hd : 2 ≤ d) {kind most last : Nat} {r : List Nat} {σ : Mem} (hl : r.length = last + 1) (hr2 : last < 44) (ht : told σ r) (hb : ∀ x ∈ r, x < 1000) (hm : most < 400) (hk : kind ≤ 3) (hQ : ∀ σ', laid kind most r σ σ' → Q none (rho ca cb tr) σ') : Mt M_X9_layComes d n n [.ref 35, .int (iZ kind), .int (iZ last), .int (iZ most)] (rho ca cb tr) σ Q := by
  have hr : 0 < r.length := by omega
  have el : last = r.length - 1 := by omega
  subst el
  refine Mt.of rfl (by decide +kernel) tk_X9_layComes (Nat.le_of_ble_eq_true rfl) ?_
  refine V.run 3 54 rfl hn trivial ?_
  have key : ∀ (p i : Nat) (σ1 : Mem), i + p = 400 → Fr [43] σ σ1 → (∀ v, v < i → σ1 43 v = 0) → V M_X9_layComes d n n none Q n (rho ca cb tr) σ1 3 [some (.ref 35), some (.int (iZ (kind))), some (.int (iZ ((r.length - 1 : Nat)))), some (.int (iZ (most))), some (.int (iZ (i))), none, none, none, none] [] := by
    intro p
    induction p with
    | zero =>
      intro i σ1 hp hf hs
      have ht1 : told σ1 r := ht.fr hf (by decide)
      have go : V M_X9_layComes d n n none Q n (rho ca cb tr) σ1 47 [some (.ref 35), some (.int (iZ (kind))), some (.int (iZ ((r.length - 1 : Nat)))), some (.int (iZ (most))), some (.int (iZ (lowB kind r))), some (.int (iZ (0))), none, none, none] [] := by
        refine lay3c hn hd hr (by omega) ht hb hm hk hQ r.length 0 σ1 none none none (by omega) hf (fun v hv => Or.inr ⟨hs v (by omega), ?_⟩)
        rintro ⟨q1, q2, a, b, q3, q4, q5, q6, q7⟩
        omega
      refine V.run 0 54 rfl hn trivial ?_
      refine V.brT rfl ((iZ_le (by omega) (by omega)).mpr (by omega)) ?_
      refine V.run 0 54 rfl hn trivial ?_
      refine V.br rfl (fun (q : iZ kind = iZ 2) => ?_) (fun (q : ¬ (iZ kind = iZ 2)) => ?_)
      · rw [iZ_eq (by omega) (by omega)] at q
        refine V.run 0 54 rfl hn trivial ?_
        refine V.run 47 54 rfl hn trivial ?_
        have e : lowB kind r = 1 := by unfold lowB; rw [if_pos (by omega)]
        rw [e] at go
        exact go
      · rw [iZ_eq (by omega) (by omega)] at q
        refine V.run 47 54 rfl hn ⟨in_N (n := 44) (by omega) (by decide), trivial⟩ ?_
        simp only [rf_told, rf_comes, rf_comeMany, rf_comeAt, rf_isSeen, rf_goals, rf_text, rf_taken, rf_roadRow, rf_dueNumber, rf_dueTimes, rf_above, rf_tree, rf_way, rf_signs, rf_spent, rf_read, rf_useMany, rf_lastUse]
        rw [ix_N (by omega), ht1 _ (by omega), iZ_add]
        have e : (lowB kind r : Int) = (r.getD (r.length - 1) 0 : Int) + 1 := by
          unfold lowB
          rw [if_neg (by omega), lastD_eq hr]
          omega
        rw [e] at go
        exact go
    | succ p ih =>
      intro i σ1 hp hf hs
      refine V.run 0 54 rfl hn trivial ?_
      refine V.brF rfl (fun c => by have := (iZ_le (by omega) (by omega)).mp c; omega) ?_
      refine V.run 0 54 rfl hn ⟨in_N (n := 400) (by omega) (by decide), trivial⟩ ?_
      simp only [rf_told, rf_comes, rf_comeMany, rf_comeAt, rf_isSeen, rf_goals, rf_text, rf_taken, rf_roadRow, rf_dueNumber, rf_dueTimes, rf_above, rf_tree, rf_way, rf_signs, rf_spent, rf_read, rf_useMany, rf_lastUse]
      rw [ix_N (by omega)]
      have := ih (i + 1) (up σ1 43 i 0) (by omega) (hf.putT (by simp)) (fun v hv => by
        by_cases e : v = i
        · subst e; exact up_at
        · rw [up_nat e]; exact hs v (by omega))
      rw [show ((i + 1 : Nat) : Int) = (i : Int) + 1 by omega, ← iZ_add] at this
      exact this
  exact key 400 0 σ (by omega) Fr.rf (fun v hv => by omega)
end MD4
