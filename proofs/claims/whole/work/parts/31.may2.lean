/-! ===== the reference: may, whole ===== -/
theorem sumI_end {kind : Nat} {r : List Nat} {v b : Nat} {σ : Mem} (hr : rowOk kind r) (h : sumI kind r v r.length 0 b σ) : isSX kind r v b ∧ (b = 0 ∨ ∃ i j : Nat, σ 35 26 = iZ i ∧ σ 35 27 = iZ j ∧ pickI kind r v i j) := by
  rcases h with ⟨h1, h2⟩ | ⟨a, c, h1, h2, h3, h4, h5, h6, h7⟩
  · refine ⟨Or.inl ⟨h1, fun x hx => ?_⟩, Or.inl h1⟩
    obtain ⟨a, c, q1, q2, q3, q4⟩ := valid_okI hx
    exact h2 a c q1 q2 (by omega) q3
  · have hv := okI_valid hr h1 h2 h3
    have hs : isSX kind r v b := by
      refine Or.inr ⟨by rw [h4]; exact hv, fun x hx => ?_⟩
      obtain ⟨a', c', q1, q2, q3, q4⟩ := valid_okI hx
      rw [← q4]
      exact h7 a' c' q1 q2 (by omega) q3
    exact ⟨hs, Or.inr ⟨a, c, h5, h6, h1, h2, Or.inl ⟨h3, by rw [← h4]; exact hs⟩⟩⟩
theorem difI_end {r : List Nat} {v g : Nat} {σ : Mem} (h0 : isSX 2 r v 0) (hv : 1 ≤ v) (h : difI r v r.length 0 g σ) : isDX r v g ∧ (g = 0 ∨ ∃ i j : Nat, σ 35 26 = iZ i ∧ σ 35 27 = iZ j ∧ pickI 2 r v i j) := by
  rcases h with ⟨h1, h2⟩ | ⟨a, c, h1, h2, h3, h4, h5, h6, h7⟩
  · refine ⟨Or.inl ⟨h1, fun x hx => ?_⟩, Or.inl h1⟩
    obtain ⟨hx1, w, hw, e⟩ := hx
    obtain ⟨a, ha, ea⟩ := mem_getD hx1
    obtain ⟨c, hc, ec⟩ := mem_getD hw
    exact h2 a c hc (by omega) ha (by rw [ea, ec]; exact e)
  · have hs : isDX r v g := by
      refine Or.inr ⟨⟨by rw [h4]; exact getD_mem2 h1, r.getD c 0, getD_mem2 h2, by rw [h4]; exact h3⟩, fun x hx => ?_⟩
      obtain ⟨hx1, w, hw, e⟩ := hx
      obtain ⟨a', ha, ea⟩ := mem_getD hx1
      obtain ⟨c', hc, ec⟩ := mem_getD hw
      rw [← ea]
      exact h7 a' c' ha hc (by omega) (by rw [ea, ec]; exact e)
    exact ⟨hs, Or.inr ⟨a, c, h5, h6, h1, h2, Or.inr ⟨rfl, h0, h3, by rw [← h4]; exact hs⟩⟩⟩
theorem noPick {kind : Nat} {r : List Nat} {v : Nat} (hr : rowOk kind r) (h0 : isSX kind r v 0) (hd : kind = 2 → isDX r v 0) : ¬ ∃ i j, pickI kind r v i j := by
  rintro ⟨i, j, h1, h2, ⟨h3, -⟩ | ⟨h3, -, h4, h5⟩⟩
  · have hv := okI_valid hr h1 h2 h3
    have hp := (hr.2.1 _ hv.1).1
    rcases h0 with ⟨-, q⟩ | ⟨q, -⟩
    · exact q _ hv
    · have := (hr.2.1 _ q.1).1
      omega
  · rcases hd h3 with ⟨-, q⟩ | ⟨q, -⟩
    · exact q _ ⟨getD_mem2 h1, r.getD j 0, getD_mem2 h2, h4⟩
    · have := (hr.2.1 _ q.1).1
      omega
section MDG
variable {d n ca cb tr : Nat} {Q : PQ} {σ : Mem}
theorem m_may (hn : 54 ≤ n) (hd : 2 ≤ d) {kind v : Nat} {r : List Nat} (hk : kind ≤ 3) (hv : 1 ≤ v ∧ v ≤ 99999) (hro : rowOk kind r) (hr : readM σ r)
    (h1 : mayC kind r v → ∀ σ', FrD σ σ' → (r ≠ [] → ∃ i j : Nat, σ' 35 26 = iZ i ∧ σ' 35 27 = iZ j ∧ pickI kind r v i j) → Q (some (.int 1)) (rho ca cb tr) σ')
    (h0 : ¬ mayC kind r v → ∀ σ', FrD σ σ' → Q (some (.int 0)) (rho ca cb tr) σ') : Mt M_X9_may d n n [.ref 35, .int (iZ kind), .int (iZ v)] (rho ca cb tr) σ Q := by
  obtain ⟨o1, o2, o3, o4⟩ := id hro
  have hrb : ∀ x ∈ r, x ≤ 99999 := fun x hx => (o2 x hx).2
  obtain ⟨r1, r2⟩ := id hr
  refine Mt.of rfl (by decide +kernel) tk_X9_may (Nat.le_of_ble_eq_true rfl) ?_
  refine V.run 0 54 rfl hn trivial ?_
  try simp only [rf_told, rf_comes, rf_comeMany, rf_comeAt, rf_isSeen, rf_goals, rf_text, rf_taken, rf_roadRow, rf_dueNumber, rf_dueTimes, rf_above, rf_tree, rf_way, rf_signs, rf_spent, rf_read, rf_useMany, rf_lastUse, fi_9_0, fi_9_2, fi_9_3, fi_9_4, fi_9_6, fi_9_7, fi_9_14, fi_9_19, fi_9_24, fi_9_26, fi_9_27, fi_9_30]
  rw [r1]
  by_cases hre : r = []
  · subst hre
    refine V.brT rfl rfl ?_
    refine V.run 0 54 rfl hn trivial ?_
    refine V.br rfl (fun (c : iZ v = iZ 1) => ?_) (fun (c : ¬ (iZ v = iZ 1)) => ?_)
    · rw [iZ_eq (by omega) (by omega)] at c
      refine V.run 0 54 rfl hn trivial ?_
      refine V.run 0 54 rfl hn trivial ?_
      refine V.ret (v := some (.int 1)) rfl rfl ⟨rfl, Or.inr rfl⟩ rfl (h1 (Or.inl ⟨rfl, by omega⟩) σ FrD.rf (fun q => absurd rfl q))
    · rw [iZ_eq (by omega) (by omega)] at c
      refine V.run 0 54 rfl hn trivial ?_
      refine V.ret (v := some (.int 0)) rfl rfl ⟨rfl, Or.inl rfl⟩ rfl (h0 ?_ σ FrD.rf)
      rintro (q | q)
      · omega
      · exact q.1 rfl
  · have hr0 : 0 < r.length := List.length_pos_iff.mpr hre
    refine V.brF rfl (fun c => by have := (iZ_eq0 (by omega)).mp c; omega) ?_
    -- refused at once
    have no48 : ∀ x4 x5 x6 x7 x8 x9, ¬ mayC kind r v → V M_X9_may d n n none Q n (rho ca cb tr) σ 48 [some (.ref 35), some (.int (iZ (kind))), some (.int (iZ (v))), some (.int (iZ ((r.length - 1 : Nat)))), x4, x5, x6, x7, x8, x9] [] := by
      intro x4 x5 x6 x7 x8 x9 hm
      refine V.run 0 54 rfl hn trivial ?_
      refine V.ret (v := some (.int 0)) rfl rfl ⟨rfl, Or.inl rfl⟩ rfl (h0 hm σ FrD.rf)
    -- the end
    have fin : ∀ (b g : Nat) (σ1 : Mem) (x6 x7 x8 x9 : Option Value), b ≤ 99999 → g ≤ 99999 → FrD σ σ1 → v ∉ r → (kind ≠ 2 → lastD r ≤ v) → (b = 0 → g = 0 → ¬ ∃ i j, pickI kind r v i j) → (b ≠ 0 ∨ g ≠ 0 → ∃ i j : Nat, σ1 35 26 = iZ i ∧ σ1 35 27 = iZ j ∧ pickI kind r v i j) → V M_X9_may d n n none Q n (rho ca cb tr) σ1 335 [some (.ref 35), some (.int (iZ (kind))), some (.int (iZ (v))), some (.int (iZ ((r.length - 1 : Nat)))), some (.int (iZ (b))), some (.int (iZ (g))), x6, x7, x8, x9] [] := by
      intro b g σ1 x6 x7 x8 x9 hb hg hf hv1 hv2 hno hyes
      have s345 : b ≠ 0 ∨ g ≠ 0 → V M_X9_may d n n none Q n (rho ca cb tr) σ1 345 [some (.ref 35), some (.int (iZ (kind))), some (.int (iZ (v))), some (.int (iZ ((r.length - 1 : Nat)))), some (.int (iZ (b))), some (.int (iZ (g))), x6, x7, x8, x9] [] := by
        intro hq
        obtain ⟨i, j, e1, e2, e3⟩ := hyes hq
        refine V.run 0 54 rfl hn trivial ?_
        refine V.run 0 54 rfl hn trivial ?_
        refine V.ret (v := some (.int 1)) rfl rfl ⟨rfl, Or.inr rfl⟩ rfl (h1 (Or.inr ⟨hre, hv1, hv2, i, j, e3⟩) σ1 hf (fun _ => ⟨i, j, e1, e2, e3⟩))
      refine V.run 0 54 rfl hn trivial ?_
      refine V.br rfl (fun (c : 0 < iZ b) => ?_) (fun (c : ¬ (0 < iZ b)) => ?_)
      · rw [iZ_0lt (by omega)] at c
        exact s345 (Or.inl (by omega))
      · rw [iZ_0lt (by omega)] at c
        refine V.run 0 54 rfl hn trivial ?_
        refine V.br rfl (fun (c2 : iZ g ≤ 0) => ?_) (fun (c2 : ¬ (iZ g ≤ 0)) => ?_)
        · rw [iZ_le0 (by omega)] at c2
          refine V.run 0 54 rfl hn trivial ?_
          refine V.ret (v := some (.int 0)) rfl rfl ⟨rfl, Or.inl rfl⟩ rfl (h0 ?_ σ1 hf)
          rintro (q | q)
          · exact hre q.1
          · exact hno (by omega) (by omega) q.2.2.2
        · rw [iZ_le0 (by omega)] at c2
          exact s345 (Or.inr (by omega))
    -- the differences
    have dif : ∀ (b : Nat) (σ1 : Mem) (x5 x6 x7 x8 x9 : Option Value), b ≤ 99999 → FrD σ σ1 → v ∉ r → (kind ≠ 2 → lastD r ≤ v) → isSX kind r v b → (b = 0 ∨ ∃ i j : Nat, σ1 35 26 = iZ i ∧ σ1 35 27 = iZ j ∧ pickI kind r v i j) → V M_X9_may d n n none Q n (rho ca cb tr) σ1 235 [some (.ref 35), some (.int (iZ (kind))), some (.int (iZ (v))), some (.int (iZ ((r.length - 1 : Nat)))), some (.int (iZ (b))), x5, x6, x7, x8, x9] [] := by
      intro b σ1 x5 x6 x7 x8 x9 hb hf hv1 hv2 hsx hpk
      refine V.run 241 54 rfl hn trivial ?_
      by_cases hcase : kind = 2 ∧ b = 0
      · obtain ⟨rfl, rfl⟩ := hcase
        have outer : ∀ (p i g : Nat) (σ2 : Mem) (x7 : Option Value), i + p = r.length → g ≤ 99999 → FrD σ σ2 → difI r v i 0 g σ2 → V M_X9_may d n n none Q n (rho ca cb tr) σ2 241 [some (.ref 35), some (.int (iZ ((2 : Nat)))), some (.int (iZ (v))), some (.int (iZ ((r.length - 1 : Nat)))), some (.int (iZ ((0 : Nat)))), some (.int (iZ (g))), some (.int (iZ (i))), x7, x8, x9] [] := by
          intro p
          induction p with
          | zero =>
            intro i g σ2 x7 hp hg hf2 hI
            rw [show i = r.length by omega] at hI
            obtain ⟨q1, q2⟩ := difI_end hsx hv.1 hI
            refine V.run 0 54 rfl hn trivial ?_
            refine V.brT rfl ((iZ_lt (by omega) (by omega)).mpr (by omega)) ?_
            refine fin 0 g σ2 _ _ _ _ (by omega) hg hf2 hv1 hv2 (fun _ hg0 => noPick hro hsx (fun _ => by rw [hg0] at q1; exact q1)) (fun hq => ?_)
            rcases q2 with q2 | q2
            · omega
            · exact q2
          | succ p ih =>
            intro i g σ2 x7 hp hg hf2 hI
            have inner : ∀ (q j g : Nat) (σ3 : Mem), j + q = r.length → g ≤ 99999 → FrD σ σ3 → difI r v i j g σ3 → V M_X9_may d n n none Q n (rho ca cb tr) σ3 260 [some (.ref 35), some (.int (iZ ((2 : Nat)))), some (.int (iZ (v))), some (.int (iZ ((r.length - 1 : Nat)))), some (.int (iZ ((0 : Nat)))), some (.int (iZ (g))), some (.int (iZ (i))), some (.int (iZ (j))), x8, x9] [] := by
              intro q
              induction q with
              | zero =>
                intro j g σ3 hq hg hf3 hI3
                refine V.run 0 54 rfl hn trivial ?_
                refine V.brT rfl ((iZ_lt (by omega) (by omega)).mpr (by omega)) ?_
                refine V.run 0 54 rfl hn trivial ?_
                have := ih (i + 1) g σ3 (some (.int (iZ j))) (by omega) hg hf3 (by
                  rcases hI3 with ⟨q1, q2⟩ | ⟨a, c, q1, q2, q3, q4, q5, q6, q7⟩
                  · exact Or.inl ⟨q1, fun a c hc hac ha => q2 a c hc (by omega) ha⟩
                  · exact Or.inr ⟨a, c, q1, q2, q3, q4, q5, q6, fun a' c' ha' hc' hac => q7 a' c' ha' hc' (by omega)⟩)
                rw [show ((i + 1 : Nat) : Int) = (i : Int) + 1 by omega, ← iZ_add] at this
                exact this
              | succ q ih2 =>
                intro j g σ3 hq hg hf3 hI3
                obtain ⟨s1, s2⟩ := hf3.rd hr
                have e1 := s2 i (by omega)
                have e2 := s2 j (by omega)
                have b1 := o2 _ (getD_mem2 (r := r) (i := i) (by omega))
                have b2 := o2 _ (getD_mem2 (r := r) (i := j) (by omega))
                have nxt : ∀ (g2 : Nat) (σ4 : Mem), g2 ≤ 99999 → FrD σ σ4 → difI r v i (j + 1) g2 σ4 → V M_X9_may d n n none Q n (rho ca cb tr) σ4 323 [some (.ref 35), some (.int (iZ ((2 : Nat)))), some (.int (iZ (v))), some (.int (iZ ((r.length - 1 : Nat)))), some (.int (iZ ((0 : Nat)))), some (.int (iZ (g2))), some (.int (iZ (i))), some (.int (iZ (j))), x8, x9] [] := by
                  intro g2 σ4 hg2 hf4 hI4
                  refine V.run 0 54 rfl hn trivial ?_
                  have := ih2 (j + 1) g2 σ4 (by omega) hg2 hf4 hI4
                  rw [show ((j + 1 : Nat) : Int) = (j : Int) + 1 by omega, ← iZ_add] at this
                  exact this
                refine V.run 0 54 rfl hn trivial ?_
                refine V.brF rfl (fun c => by have := (iZ_lt (by omega) (by omega)).mp c; omega) ?_
                refine V.run 0 54 rfl hn ⟨in_N (n := 64) (by omega) (by decide), in_N (n := 64) (by omega) (by decide), trivial⟩ ?_
                try simp only [rf_told, rf_comes, rf_comeMany, rf_comeAt, rf_isSeen, rf_goals, rf_text, rf_taken, rf_roadRow, rf_dueNumber, rf_dueTimes, rf_above, rf_tree, rf_way, rf_signs, rf_spent, rf_read, rf_useMany, rf_lastUse, fi_9_0, fi_9_2, fi_9_3, fi_9_4, fi_9_6, fi_9_7, fi_9_14, fi_9_19, fi_9_24, fi_9_26, fi_9_27, fi_9_30]
                rw [ix_N (by omega), ix_N (by omega), e1, e2, iZ_sub]
                refine V.br rfl (fun (c : iZ ((r.getD i 0 : Int) - (r.getD j 0 : Int)) = iZ v) => ?_) (fun (c : ¬ (iZ ((r.getD i 0 : Int) - (r.getD j 0 : Int)) = iZ v)) => ?_)
                · rw [iZ_eq (by omega) (by omega)] at c
                  have hset : (g = 0 ∨ r.getD i 0 < g) → V M_X9_may d n n none Q n (rho ca cb tr) σ3 302 [some (.ref 35), some (.int (iZ ((2 : Nat)))), some (.int (iZ (v))), some (.int (iZ ((r.length - 1 : Nat)))), some (.int (iZ ((0 : Nat)))), some (.int (iZ (g))), some (.int (iZ (i))), some (.int (iZ (j))), x8, x9] [] := by
                    intro hlt
                    refine V.run 323 54 rfl hn ⟨in_N (n := 64) (by omega) (by decide), trivial⟩ ?_
                    try simp only [rf_told, rf_comes, rf_comeMany, rf_comeAt, rf_isSeen, rf_goals, rf_text, rf_taken, rf_roadRow, rf_dueNumber, rf_dueTimes, rf_above, rf_tree, rf_way, rf_signs, rf_spent, rf_read, rf_useMany, rf_lastUse, fi_9_0, fi_9_2, fi_9_3, fi_9_4, fi_9_6, fi_9_7, fi_9_14, fi_9_19, fi_9_24, fi_9_26, fi_9_27, fi_9_30]
                    rw [ix_N (by omega), e1]
                    refine nxt _ _ (by omega) hf3.put (Or.inr ⟨i, j, by omega, by omega, by omega, rfl, by rw [up_nat (by decide), up_at], by rw [up_at], fun a' c' ha' hc' hac he => ?_⟩)
                    rcases hI3 with ⟨q1, q2⟩ | ⟨a, c, q1, q2, q3, q4, q5, q6, q7⟩
                    · by_cases hq : a' = i ∧ c' = j
                      · rw [hq.1]; omega
                      · exact absurd he (q2 a' c' hc' (by omega) ha')
                    · by_cases hq : a' = i ∧ c' = j
                      · rw [hq.1]; omega
                      · have := q7 a' c' ha' hc' (by omega) he
                        omega
                  refine V.run 0 54 rfl hn trivial ?_
                  refine V.br rfl (fun (c2 : iZ g = 0) => ?_) (fun (c2 : ¬ (iZ g = 0)) => ?_)
                  · rw [iZ_eq0 (by omega)] at c2
                    exact hset (Or.inl (by omega))
                  · rw [iZ_eq0 (by omega)] at c2
                    refine V.run 0 54 rfl hn ⟨in_N (n := 64) (by omega) (by decide), trivial⟩ ?_
                    try simp only [rf_told, rf_comes, rf_comeMany, rf_comeAt, rf_isSeen, rf_goals, rf_text, rf_taken, rf_roadRow, rf_dueNumber, rf_dueTimes, rf_above, rf_tree, rf_way, rf_signs, rf_spent, rf_read, rf_useMany, rf_lastUse, fi_9_0, fi_9_2, fi_9_3, fi_9_4, fi_9_6, fi_9_7, fi_9_14, fi_9_19, fi_9_24, fi_9_26, fi_9_27, fi_9_30]
                    rw [ix_N (by omega), e1]
                    refine V.br rfl (fun (c3 : iZ g ≤ iZ (r.getD i 0)) => ?_) (fun (c3 : ¬ (iZ g ≤ iZ (r.getD i 0))) => ?_)
                    · rw [iZ_le (by omega) (by omega)] at c3
                      refine nxt g σ3 hg hf3 ?_
                      rcases hI3 with ⟨q1, q2⟩ | ⟨a, c, q1, q2, q3, q4, q5, q6, q7⟩
                      · omega
                      · refine Or.inr ⟨a, c, q1, q2, q3, q4, q5, q6, fun a' c' ha' hc' hac he => ?_⟩
                        by_cases hq : a' = i ∧ c' = j
                        · rw [hq.1]; omega
                        · exact q7 a' c' ha' hc' (by omega) he
                    · rw [iZ_le (by omega) (by omega)] at c3
                      exact hset (Or.inr (by omega))
                · rw [iZ_eq (by omega) (by omega)] at c
                  refine nxt g σ3 hg hf3 ?_
                  rcases hI3 with ⟨q1, q2⟩ | ⟨a, c, q1, q2, q3, q4, q5, q6, q7⟩
                  · refine Or.inl ⟨q1, fun a c hc hac ha he => ?_⟩
                    by_cases hq : a = i ∧ c = j
                    · rw [hq.1, hq.2] at he; omega
                    · exact q2 a c hc (by omega) ha he
                  · refine Or.inr ⟨a, c, q1, q2, q3, q4, q5, q6, fun a' c' ha' hc' hac he => ?_⟩
                    by_cases hq : a' = i ∧ c' = j
                    · rw [hq.1, hq.2] at he; omega
                    · exact q7 a' c' ha' hc' (by omega) he
            refine V.run 0 54 rfl hn trivial ?_
            refine V.brF rfl (fun c => by have := (iZ_lt (by omega) (by omega)).mp c; omega) ?_
            refine V.run 0 54 rfl hn trivial ?_
            refine V.brT rfl rfl ?_
            refine V.run 0 54 rfl hn trivial ?_
            refine V.brT rfl rfl ?_
            refine V.run 260 54 rfl hn trivial ?_
            exact inner r.length 0 g σ2 (by omega) hg hf2 hI
        exact outer r.length 0 0 σ1 x7 (by omega) (by omega) hf (Or.inl ⟨rfl, fun a c hc hac ha => by omega⟩)
      · -- no differences
        have go335 : ∀ x6, V M_X9_may d n n none Q n (rho ca cb tr) σ1 335 [some (.ref 35), some (.int (iZ (kind))), some (.int (iZ (v))), some (.int (iZ ((r.length - 1 : Nat)))), some (.int (iZ (b))), some (.int (iZ ((0 : Nat)))), x6, x7, x8, x9] [] := by
          intro x6
          refine fin b 0 σ1 _ _ _ _ hb (by omega) hf hv1 hv2 (fun hb0 _ => noPick hro (by rw [hb0] at hsx; exact hsx) (fun hk2 => absurd ⟨hk2, hb0⟩ hcase)) (fun hq => ?_)
          rcases hpk with q | q
          · omega
          · exact q
        refine V.run 0 54 rfl hn trivial ?_
        refine V.brF rfl (fun c => by have := (iZ_lt (by omega) (by omega)).mp c; omega) ?_
        refine V.run 0 54 rfl hn trivial ?_
        refine V.br rfl (fun (c : iZ kind = iZ 2) => ?_) (fun (c : ¬ (iZ kind = iZ 2)) => ?_)
        · rw [iZ_eq (by omega) (by omega)] at c
          refine V.run 0 54 rfl hn trivial ?_
          refine V.brF rfl (fun c2 => by have := (iZ_eq0 (by omega)).mp c2; exact hcase ⟨by omega, by omega⟩) ?_
          exact go335 _
        · exact go335 _
    -- the sums
    have s50 : ∀ (x4 x5 x6 x7 x8 x9 : Option Value), v ∉ r → (kind ≠ 2 → lastD r ≤ v) → V M_X9_may d n n none Q n (rho ca cb tr) σ 50 [some (.ref 35), some (.int (iZ (kind))), some (.int (iZ (v))), some (.int (iZ ((r.length - 1 : Nat)))), x4, x5, x6, x7, x8, x9] [] := by
      intro x4 x5 x6 x7 x8 x9 hv1 hv2
      have outer : ∀ (p i b : Nat) (σ1 : Mem) (x6 x7 x8 x9 : Option Value), i + p = r.length → b ≤ 99999 → FrD σ σ1 → sumI kind r v i 0 b σ1 → V M_X9_may d n n none Q n (rho ca cb tr) σ1 56 [some (.ref 35), some (.int (iZ (kind))), some (.int (iZ (v))), some (.int (iZ ((r.length - 1 : Nat)))), some (.int (iZ (b))), some (.int (iZ (i))), x6, x7, x8, x9] [] := by
        intro p
        induction p with
        | zero =>
          intro i b σ1 x6 x7 x8 x9 hp hb hf hI
          rw [show i = r.length by omega] at hI
          obtain ⟨q1, q2⟩ := sumI_end hro hI
          refine V.run 0 54 rfl hn trivial ?_
          refine V.brT rfl ((iZ_lt (by omega) (by omega)).mpr (by omega)) ?_
          exact dif b σ1 _ _ _ _ _ hb hf hv1 hv2 q1 q2
        | succ p ih =>
          intro i b σ1 x6 x7 x8 x9 hp hb hf hI
          have inner : ∀ (q j b : Nat) (σ2 : Mem) (x7 x8 x9 : Option Value), i ≤ j → j + q = r.length → b ≤ 99999 → FrD σ σ2 → sumI kind r v i j b σ2 → V M_X9_may d n n none Q n (rho ca cb tr) σ2 66 [some (.ref 35), some (.int (iZ (kind))), some (.int (iZ (v))), some (.int (iZ ((r.length - 1 : Nat)))), some (.int (iZ (b))), some (.int (iZ (i))), some (.int (iZ (j))), x7, x8, x9] [] := by
            intro q
            induction q with
            | zero =>
              intro j b σ2 x7 x8 x9 hij hq hb hf2 hI2
              refine V.run 0 54 rfl hn trivial ?_
              refine V.brT rfl ((iZ_lt (by omega) (by omega)).mpr (by omega)) ?_
              refine V.run 0 54 rfl hn trivial ?_
              have := ih (i + 1) b σ2 (some (.int (iZ j))) x7 x8 x9 (by omega) hb hf2 (by
                rcases hI2 with ⟨q1, q2⟩ | ⟨a, c, q1, q2, q3, q4, q5, q6, q7⟩
                · exact Or.inl ⟨q1, fun a c hac hc h => q2 a c hac hc (by omega)⟩
                · exact Or.inr ⟨a, c, q1, q2, q3, q4, q5, q6, fun a' c' hac hc h => q7 a' c' hac hc (by omega)⟩)
              rw [show ((i + 1 : Nat) : Int) = (i : Int) + 1 by omega, ← iZ_add] at this
              exact this
            | succ q ih2 =>
              intro j b σ2 x7 x8 x9 hij hq hb hf2 hI2
              have hrd2 := hf2.rd hr
              obtain ⟨t1, t2⟩ := id hrd2
              have e1 := t2 i (by omega)
              have e2 := t2 j (by omega)
              have b1 := o2 _ (getD_mem2 (r := r) (i := i) (by omega))
              have b2 := o2 _ (getD_mem2 (r := r) (i := j) (by omega))
              obtain ⟨x, hx⟩ : ∃ x, x = min (r.getD i 0) (r.getD j 0) := ⟨_, rfl⟩
              obtain ⟨y, hy⟩ : ∃ y, y = max (r.getD i 0) (r.getD j 0) := ⟨_, rfl⟩
              have hxb : 1 ≤ x ∧ x ≤ 99999 := by omega
              have hyb : 1 ≤ y ∧ y ≤ 99999 := by omega
              have hxy : x ≤ y := by omega
              have hok : okI kind r v i j ↔ (x + y = v ∧ (kind = 1 → j + 1 = r.length) ∧ (kind = 3 → x = y ∨ (y - x) ∈ r)) := by
                unfold okI
                rw [← hx, ← hy]
              have nxt : ∀ (b2 : Nat) (σ3 : Mem) (x9 : Option Value), b2 ≤ 99999 → FrD σ σ3 → sumI kind r v i (j + 1) b2 σ3 → V M_X9_may d n n none Q n (rho ca cb tr) σ3 223 [some (.ref 35), some (.int (iZ (kind))), some (.int (iZ (v))), some (.int (iZ ((r.length - 1 : Nat)))), some (.int (iZ (b2))), some (.int (iZ (i))), some (.int (iZ (j))), some (.int (iZ (x))), some (.int (iZ (y))), x9] [] := by
                intro b2 σ3 x9 hb2 hf3 hI3
                refine V.run 0 54 rfl hn trivial ?_
                have := ih2 (j + 1) b2 σ3 (some (.int (iZ x))) (some (.int (iZ y))) x9 (by omega) (by omega) hb2 hf3 hI3
                rw [show ((j + 1 : Nat) : Int) = (j : Int) + 1 by omega, ← iZ_add] at this
                exact this
              have keepI : (okI kind r v i j → x ≤ b) → sumI kind r v i (j + 1) b σ2 ∨ (okI kind r v i j ∧ b = 0) := by
                intro hle
                rcases hI2 with ⟨q1, q2⟩ | ⟨a, c, q1, q2, q3, q4, q5, q6, q7⟩
                · by_cases ho : okI kind r v i j
                  · exact Or.inr ⟨ho, q1⟩
                  · refine Or.inl (Or.inl ⟨q1, fun a c hac hc h h2 => ?_⟩)
                    by_cases hq : a = i ∧ c = j
                    · rw [hq.1, hq.2] at h2; exact ho h2
                    · exact q2 a c hac hc (by omega) h2
                · refine Or.inl (Or.inr ⟨a, c, q1, q2, q3, q4, q5, q6, fun a' c' hac hc h h2 => ?_⟩)
                  by_cases hq : a' = i ∧ c' = j
                  · rw [hq.1, hq.2] at h2 ⊢
                    rw [← hx]
                    exact hle h2
                  · exact q7 a' c' hac hc (by omega) h2
              have s193 : ∀ (o : Bool) (x9 : Option Value), (o = true ↔ okI kind r v i j) → V M_X9_may d n n none Q n (rho ca cb tr) σ2 193 [some (.ref 35), some (.int (iZ (kind))), some (.int (iZ (v))), some (.int (iZ ((r.length - 1 : Nat)))), some (.int (iZ (b))), some (.int (iZ (i))), some (.int (iZ (j))), some (.int (iZ (x))), some (.int (iZ (y))), x9] [(.int ((if o = true then 1 else 0)))] := by
                intro o x9 ho
                refine V.run 0 54 rfl hn trivial ?_
                cases o with
                | false =>
                  refine V.brT rfl rfl ?_
                  have hno : ¬ okI kind r v i j := fun q => by have := ho.mpr q; cases this
                  rcases keepI (fun q => absurd q hno) with q | q
                  · exact nxt b σ2 _ hb hf2 q
                  · exact absurd q.1 hno
                | true =>
                  have hyes := ho.mp rfl
                  refine V.brF rfl (by decide) ?_
                  refine V.run 0 54 rfl hn trivial ?_
                  refine V.br rfl (fun (c : iZ x ≤ iZ b) => ?_) (fun (c : ¬ (iZ x ≤ iZ b)) => ?_)
                  · rw [iZ_le (by omega) (by omega)] at c
                    rcases keepI (fun _ => by omega) with q | q
                    · exact nxt b σ2 _ hb hf2 q
                    · omega
                  · rw [iZ_le (by omega) (by omega)] at c
                    refine V.run 223 54 rfl hn trivial ?_
                    refine nxt x _ _ (by omega) hf2.put (Or.inr ⟨i, j, by omega, by omega, hyes, hx, by rw [up_nat (by decide), up_at], by rw [up_at], fun a' c' hac hc h h2 => ?_⟩)
                    by_cases hq : a' = i ∧ c' = j
                    · rw [hq.1, hq.2, ← hx]; omega
                    · rcases hI2 with ⟨q1, q2⟩ | ⟨a, c, q1, q2, q3, q4, q5, q6, q7⟩
                      · exact absurd h2 (q2 a' c' hac hc (by omega))
                      · have := q7 a' c' hac hc (by omega) h2
                        omega
              have s192 : ∀ x9, ¬ okI kind r v i j → V M_X9_may d n n none Q n (rho ca cb tr) σ2 192 [some (.ref 35), some (.int (iZ (kind))), some (.int (iZ (v))), some (.int (iZ ((r.length - 1 : Nat)))), some (.int (iZ (b))), some (.int (iZ (i))), some (.int (iZ (j))), some (.int (iZ (x))), some (.int (iZ (y))), x9] [] := by
                intro x9 ho
                refine V.run 193 54 rfl hn trivial ?_
                exact s193 false x9 ⟨fun q => (by cases q), fun q => absurd q ho⟩
              have s188 : ∀ x9, okI kind r v i j → V M_X9_may d n n none Q n (rho ca cb tr) σ2 188 [some (.ref 35), some (.int (iZ (kind))), some (.int (iZ (v))), some (.int (iZ ((r.length - 1 : Nat)))), some (.int (iZ (b))), some (.int (iZ (i))), some (.int (iZ (j))), some (.int (iZ (x))), some (.int (iZ (y))), x9] [] := by
                intro x9 ho
                refine V.run 0 54 rfl hn trivial ?_
                exact s193 true x9 ⟨fun _ => ho, fun _ => rfl⟩
              have s164 : ∀ x9, x + y = v → (kind = 1 → j + 1 = r.length) → V M_X9_may d n n none Q n (rho ca cb tr) σ2 164 [some (.ref 35), some (.int (iZ (kind))), some (.int (iZ (v))), some (.int (iZ ((r.length - 1 : Nat)))), some (.int (iZ (b))), some (.int (iZ (i))), some (.int (iZ (j))), some (.int (iZ (x))), some (.int (iZ (y))), x9] [] := by
                intro x9 hs hk1
                refine V.run 0 54 rfl hn trivial ?_
                refine V.br rfl (fun (c : iZ kind = iZ 3) => ?_) (fun (c : ¬ (iZ kind = iZ 3)) => ?_)
                · rw [iZ_eq (by omega) (by omega)] at c
                  refine V.run 0 54 rfl hn trivial ?_
                  refine V.br rfl (fun (c2 : iZ x = iZ y) => ?_) (fun (c2 : ¬ (iZ x = iZ y)) => ?_)
                  · rw [iZ_eq (by omega) (by omega)] at c2
                    exact s188 _ (hok.mpr ⟨hs, hk1, fun _ => Or.inl (by omega)⟩)
                  · rw [iZ_eq (by omega) (by omega)] at c2
                    refine V.run 0 54 rfl hn trivial ?_
                    rw [iZ_sub, show (y : Int) - x = ((y - x : Nat) : Int) by omega]
                    refine V.cv (lo := 54) (d' := d - 1) rfl rfl ok_X9_isRead lk_9_X9_isRead rfl rfl rfl hn (by omega) (Nat.le_refl _) (Nat.le_refl _) ((m_isRead hn o1 hrb (by omega) hrd2 (fun g => ?_) (fun g => ?_)))
                    · refine V.brF rfl (by decide) ?_
                      exact s188 _ (hok.mpr ⟨hs, hk1, fun _ => Or.inr g⟩)
                    · refine V.brT rfl rfl ?_
                      refine s192 _ (fun q => ?_)
                      rcases (hok.mp q).2.2 (by omega) with q2 | q2
                      · omega
                      · exact g q2
                · rw [iZ_eq (by omega) (by omega)] at c
                  exact s188 _ (hok.mpr ⟨hs, hk1, fun h3 => by omega⟩)
              have s144 : ∀ x9, V M_X9_may d n n none Q n (rho ca cb tr) σ2 144 [some (.ref 35), some (.int (iZ (kind))), some (.int (iZ (v))), some (.int (iZ ((r.length - 1 : Nat)))), some (.int (iZ (b))), some (.int (iZ (i))), some (.int (iZ (j))), some (.int (iZ (x))), some (.int (iZ (y))), x9] [] := by
                intro x9
                refine V.run 0 54 rfl hn trivial ?_
                rw [iZ_add]
                refine V.br rfl (fun (c : iZ ((x : Int) + y) = iZ v) => ?_) (fun (c : ¬ (iZ ((x : Int) + y) = iZ v)) => ?_)
                · rw [iZ_eq (by omega) (by omega)] at c
                  refine V.run 0 54 rfl hn trivial ?_
                  refine V.br rfl (fun (c2 : iZ kind = iZ 1) => ?_) (fun (c2 : ¬ (iZ kind = iZ 1)) => ?_)
                  · rw [iZ_eq (by omega) (by omega)] at c2
                    refine V.run 0 54 rfl hn trivial ?_
                    refine V.br rfl (fun (c3 : iZ j = iZ (r.length - 1 : Nat)) => ?_) (fun (c3 : ¬ (iZ j = iZ (r.length - 1 : Nat))) => ?_)
                    · rw [iZ_eq (by omega) (by omega)] at c3
                      exact s164 _ (by omega) (fun _ => by omega)
                    · rw [iZ_eq (by omega) (by omega)] at c3
                      exact s192 _ (fun q => by have := (hok.mp q).2.1 (by omega); omega)
                  · rw [iZ_eq (by omega) (by omega)] at c2
                    exact s164 _ (by omega) (fun h1 => by omega)
                · rw [iZ_eq (by omega) (by omega)] at c
                  exact s192 _ (fun q => by have := (hok.mp q).1; omega)
              refine V.run 0 54 rfl hn trivial ?_
              refine V.brF rfl (fun c => by have := (iZ_lt (by omega) (by omega)).mp c; omega) ?_
              refine V.run 0 54 rfl hn ⟨in_N (n := 64) (by omega) (by decide), in_N (n := 64) (by omega) (by decide), trivial⟩ ?_
              try simp only [rf_told, rf_comes, rf_comeMany, rf_comeAt, rf_isSeen, rf_goals, rf_text, rf_taken, rf_roadRow, rf_dueNumber, rf_dueTimes, rf_above, rf_tree, rf_way, rf_signs, rf_spent, rf_read, rf_useMany, rf_lastUse, fi_9_0, fi_9_2, fi_9_3, fi_9_4, fi_9_6, fi_9_7, fi_9_14, fi_9_19, fi_9_24, fi_9_26, fi_9_27, fi_9_30]
              rw [ix_N (by omega), ix_N (by omega), e1, e2]
              refine V.br rfl (fun (c : iZ (r.getD j 0) ≤ iZ (r.getD i 0)) => ?_) (fun (c : ¬ (iZ (r.getD j 0) ≤ iZ (r.getD i 0))) => ?_)
              · rw [iZ_le (by omega) (by omega)] at c
                refine V.run 0 54 rfl hn ⟨in_N (n := 64) (by omega) (by decide), in_N (n := 64) (by omega) (by decide), in_N (n := 64) (by omega) (by decide), trivial⟩ ?_
                try simp only [rf_told, rf_comes, rf_comeMany, rf_comeAt, rf_isSeen, rf_goals, rf_text, rf_taken, rf_roadRow, rf_dueNumber, rf_dueTimes, rf_above, rf_tree, rf_way, rf_signs, rf_spent, rf_read, rf_useMany, rf_lastUse, fi_9_0, fi_9_2, fi_9_3, fi_9_4, fi_9_6, fi_9_7, fi_9_14, fi_9_19, fi_9_24, fi_9_26, fi_9_27, fi_9_30]
                rw [ix_N (by omega), ix_N (by omega), e1, e2]
                refine V.brT rfl ((iZ_le (by omega) (by omega)).mpr c) ?_
                refine V.run 144 54 rfl hn ⟨in_N (n := 64) (by omega) (by decide), trivial⟩ ?_
                try simp only [rf_told, rf_comes, rf_comeMany, rf_comeAt, rf_isSeen, rf_goals, rf_text, rf_taken, rf_roadRow, rf_dueNumber, rf_dueTimes, rf_above, rf_tree, rf_way, rf_signs, rf_spent, rf_read, rf_useMany, rf_lastUse, fi_9_0, fi_9_2, fi_9_3, fi_9_4, fi_9_6, fi_9_7, fi_9_14, fi_9_19, fi_9_24, fi_9_26, fi_9_27, fi_9_30]
                rw [ix_N (by omega), e1, show r.getD i 0 = y by omega, show r.getD j 0 = x by omega]
                exact s144 _
              · rw [iZ_le (by omega) (by omega)] at c
                refine V.run 0 54 rfl hn ⟨in_N (n := 64) (by omega) (by decide), trivial⟩ ?_
                try simp only [rf_told, rf_comes, rf_comeMany, rf_comeAt, rf_isSeen, rf_goals, rf_text, rf_taken, rf_roadRow, rf_dueNumber, rf_dueTimes, rf_above, rf_tree, rf_way, rf_signs, rf_spent, rf_read, rf_useMany, rf_lastUse, fi_9_0, fi_9_2, fi_9_3, fi_9_4, fi_9_6, fi_9_7, fi_9_14, fi_9_19, fi_9_24, fi_9_26, fi_9_27, fi_9_30]
                rw [ix_N (by omega), e1]
                refine V.run 0 54 rfl hn ⟨in_N (n := 64) (by omega) (by decide), in_N (n := 64) (by omega) (by decide), trivial⟩ ?_
                try simp only [rf_told, rf_comes, rf_comeMany, rf_comeAt, rf_isSeen, rf_goals, rf_text, rf_taken, rf_roadRow, rf_dueNumber, rf_dueTimes, rf_above, rf_tree, rf_way, rf_signs, rf_spent, rf_read, rf_useMany, rf_lastUse, fi_9_0, fi_9_2, fi_9_3, fi_9_4, fi_9_6, fi_9_7, fi_9_14, fi_9_19, fi_9_24, fi_9_26, fi_9_27, fi_9_30]
                rw [ix_N (by omega), ix_N (by omega), e1, e2]
                refine V.brF rfl (fun q => c ((iZ_le (by omega) (by omega)).mp q)) ?_
                refine V.run 0 54 rfl hn ⟨in_N (n := 64) (by omega) (by decide), trivial⟩ ?_
                try simp only [rf_told, rf_comes, rf_comeMany, rf_comeAt, rf_isSeen, rf_goals, rf_text, rf_taken, rf_roadRow, rf_dueNumber, rf_dueTimes, rf_above, rf_tree, rf_way, rf_signs, rf_spent, rf_read, rf_useMany, rf_lastUse, fi_9_0, fi_9_2, fi_9_3, fi_9_4, fi_9_6, fi_9_7, fi_9_14, fi_9_19, fi_9_24, fi_9_26, fi_9_27, fi_9_30]
                rw [ix_N (by omega), e2]
                refine V.run 144 54 rfl hn trivial ?_
                rw [show r.getD i 0 = x by omega, show r.getD j 0 = y by omega]
                exact s144 _
          refine V.run 0 54 rfl hn trivial ?_
          refine V.brF rfl (fun c => by have := (iZ_lt (by omega) (by omega)).mp c; omega) ?_
          refine V.run 66 54 rfl hn trivial ?_
          refine inner (r.length - i) i b σ1 x7 x8 x9 (by omega) (by omega) hb hf ?_
          rcases hI with ⟨q1, q2⟩ | ⟨a, c, q1, q2, q3, q4, q5, q6, q7⟩
          · exact Or.inl ⟨q1, fun a c hac hc h => q2 a c hac hc (by omega)⟩
          · exact Or.inr ⟨a, c, q1, q2, q3, q4, q5, q6, fun a' c' hac hc h => q7 a' c' hac hc (by omega)⟩
      refine V.run 56 54 rfl hn trivial ?_
      exact outer r.length 0 0 σ x6 x7 x8 x9 (by omega) (by omega) FrD.rf (Or.inl ⟨rfl, fun a c hac hc h => by omega⟩)
    have hlast := o2 _ (getD_mem2 (r := r) (i := r.length - 1) (by omega))
    refine V.run 0 54 rfl hn trivial ?_
    try simp only [rf_told, rf_comes, rf_comeMany, rf_comeAt, rf_isSeen, rf_goals, rf_text, rf_taken, rf_roadRow, rf_dueNumber, rf_dueTimes, rf_above, rf_tree, rf_way, rf_signs, rf_spent, rf_read, rf_useMany, rf_lastUse, fi_9_0, fi_9_2, fi_9_3, fi_9_4, fi_9_6, fi_9_7, fi_9_14, fi_9_19, fi_9_24, fi_9_26, fi_9_27, fi_9_30]
    rw [r1, iZ_sub, show (r.length : Int) - 1 = ((r.length - 1 : Nat) : Int) by omega]
    refine V.cv (lo := 54) (d' := d - 1) rfl rfl ok_X9_isRead lk_9_X9_isRead rfl rfl rfl hn (by omega) (Nat.le_refl _) (Nat.le_refl _) ((m_isRead hn o1 hrb (by omega) hr (fun g => ?_) (fun g => ?_)))
    · refine V.brF rfl (by decide) ?_
      refine no48 _ _ _ _ _ _ ?_
      rintro (q | q)
      · exact hre q.1
      · exact q.2.1 g
    · refine V.brT rfl rfl ?_
      refine V.run 0 54 rfl hn trivial ?_
      refine V.br rfl (fun (c : iZ kind = iZ 2) => ?_) (fun (c : ¬ (iZ kind = iZ 2)) => ?_)
      · rw [iZ_eq (by omega) (by omega)] at c
        exact s50 _ _ _ _ _ _ g (fun q => by omega)
      · rw [iZ_eq (by omega) (by omega)] at c
        refine V.run 0 54 rfl hn ⟨in_N (n := 64) (by omega) (by decide), trivial⟩ ?_
        try simp only [rf_told, rf_comes, rf_comeMany, rf_comeAt, rf_isSeen, rf_goals, rf_text, rf_taken, rf_roadRow, rf_dueNumber, rf_dueTimes, rf_above, rf_tree, rf_way, rf_signs, rf_spent, rf_read, rf_useMany, rf_lastUse, fi_9_0, fi_9_2, fi_9_3, fi_9_4, fi_9_6, fi_9_7, fi_9_14, fi_9_19, fi_9_24, fi_9_26, fi_9_27, fi_9_30]
        rw [ix_N (by omega), r2 _ (by omega)]
        refine V.br rfl (fun (c2 : iZ (r.getD (r.length - 1) 0) ≤ iZ v) => ?_) (fun (c2 : ¬ (iZ (r.getD (r.length - 1) 0) ≤ iZ v)) => ?_)
        · rw [iZ_le (by omega) (by omega)] at c2
          exact s50 _ _ _ _ _ _ g (fun _ => by rw [lastD_eq hr0]; omega)
        · rw [iZ_le (by omega) (by omega)] at c2
          refine no48 _ _ _ _ _ _ ?_
          rintro (q | q)
          · exact hre q.1
          · have := q.2.2.1 (by omega)
            rw [lastD_eq hr0] at this
            omega
end MDG
