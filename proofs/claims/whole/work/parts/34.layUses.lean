/-! ===== the reference: layUses, uses, drawers, power ===== -/
def wantN (f : Nat → Nat) (k m : Nat) : Nat := match m with
  | 0 => 0
  | m + 1 => wantN f k m + (if k ≤ f m then 1 else 0)
def mostN (f : Nat → Nat) (m : Nat) : Nat := match m with
  | 0 => 1
  | m + 1 => if m = 0 then mostN f m else max (max (mostN f m) (wantN f m m)) (wantN f (m + 1) m + 1)
theorem wantN_le (f : Nat → Nat) (k : Nat) : ∀ m, wantN f k m ≤ m
  | 0 => Nat.le_refl _
  | m + 1 => by
    have := wantN_le f k m
    unfold wantN
    split <;> omega
theorem mostN_le (f : Nat → Nat) : ∀ m, mostN f m ≤ m + 1
  | 0 => Nat.le_refl _
  | m + 1 => by
    have := mostN_le f m
    have := wantN_le f m m
    have := wantN_le f (m + 1) m
    unfold mostN
    split <;> omega
section MDJ
variable {d n ca cb tr : Nat} {Q : PQ} {σ : Mem}
theorem m_layUses (hn : 54 ≤ n) (hd : 3 ≤ d) {kind : Nat} {c : List Nat} (hc : chainM σ kind c) (hQ : ∀ (σ' : Mem) (pk : Nat → Nat × Nat), isUse kind c pk c.length → usesM σ' c pk c.length → FrU σ σ' → Q none (rho ca cb tr) σ') : Mt M_X9_layUses d n n [.ref 35] (rho ca cb tr) σ Q := by
  obtain ⟨c1, c2, c3, c4⟩ := id hc
  obtain ⟨k1, k2, k3, k4, k5⟩ := id c4
  refine Mt.of rfl (by decide +kernel) tk_X9_layUses (Nat.le_of_ble_eq_true rfl) ?_
  refine V.run 7 54 rfl hn trivial ?_
  -- the steps
  have steps : ∀ (p k : Nat) (pk : Nat → Nat × Nat) (σ1 : Mem) (x2 : Option Value), k + p = c.length → 1 ≤ k → isUse kind c pk k → usesM σ1 c pk k → FrU σ σ1 → V M_X9_layUses d n n none Q n (rho ca cb tr) σ1 37 [some (.ref 35), some (.int (iZ (k))), x2] [] := by
    intro p
    induction p with
    | zero =>
      intro k pk σ1 x2 hp hk1 hu hm hf
      obtain ⟨e1, -⟩ := hf.ch hc
      refine V.run 0 54 rfl hn trivial ?_
      try simp only [rf_told, rf_comes, rf_comeMany, rf_comeAt, rf_isSeen, rf_goals, rf_text, rf_taken, rf_roadRow, rf_dueNumber, rf_dueTimes, rf_above, rf_tree, rf_way, rf_signs, rf_spent, rf_read, rf_useMany, rf_lastUse, fi_9_0, fi_9_2, fi_9_3, fi_9_4, fi_9_6, fi_9_7, fi_9_14, fi_9_19, fi_9_24, fi_9_26, fi_9_27, fi_9_30]
      rw [e1]
      refine V.brT rfl ((iZ_le (by omega) (by omega)).mpr (by omega)) ?_
      have e : k = c.length := by omega
      subst e
      refine V.ret (v := none) rfl rfl rfl rfl (hQ σ1 pk hu hm hf)
    | succ p ih =>
      intro k pk σ1 x2 hp hk1 hu hm hf
      obtain ⟨e1, e2, e3, -⟩ := hf.ch hc
      -- the copy
      have copy : ∀ (q j : Nat) (σ2 : Mem), j + q = k → Fr [52] σ1 σ2 → (∀ i, i < j → σ2 52 i = iZ (c.getD i 0)) → V M_X9_layUses d n n none Q n (rho ca cb tr) σ2 47 [some (.ref 35), some (.int (iZ (k))), some (.int (iZ (j)))] [] := by
        intro q
        induction q with
        | zero =>
          intro j σ2 hq hf2 h52
          have f35 : σ2 35 = σ1 35 := hf2 35 (by decide)
          have f38 : σ2 38 = σ1 38 := hf2 38 (by decide)
          have hbk := k4 _ (getD_mem2 (r := c) (i := k) (by omega))
          refine V.run 0 54 rfl hn trivial ?_
          refine V.brT rfl ((iZ_le (by omega) (by omega)).mpr (by omega)) ?_
          refine V.run 0 54 rfl hn ⟨in_N (n := 64) (by omega) (by decide), trivial⟩ ?_
          try simp only [rf_told, rf_comes, rf_comeMany, rf_comeAt, rf_isSeen, rf_goals, rf_text, rf_taken, rf_roadRow, rf_dueNumber, rf_dueTimes, rf_above, rf_tree, rf_way, rf_signs, rf_spent, rf_read, rf_useMany, rf_lastUse, fi_9_0, fi_9_2, fi_9_3, fi_9_4, fi_9_6, fi_9_7, fi_9_14, fi_9_19, fi_9_24, fi_9_26, fi_9_27, fi_9_30]
          rw [ix_N (by omega), up_nat (by decide), f35, e2, up_ne (by decide), f38, e3 k (by omega)]
          have hrd : readM (up σ2 35 24 (iZ k)) (c.take k) := by
            refine ⟨by rw [up_at, List.length_take, Nat.min_eq_left (by omega)], fun i hi => ?_⟩
            rw [List.length_take] at hi
            rw [up_ne (by decide), h52 i (by omega)]
            congr 2
            rw [List.getD_eq_getElem?_getD, List.getD_eq_getElem?_getD, List.getElem?_take_of_lt (by omega)]
          have hmy := k3 k (by omega)
          refine V.cv (lo := 54) (d' := d - 1) rfl rfl ok_X9_may lk_9_X9_may rfl rfl rfl hn (by omega) (Nat.le_refl _) (Nat.le_refl _) ((m_may hn (by omega) k5 hbk (c4.row k (by omega)) hrd (fun _ σ3 hfd hpk => ?_) (fun hno σ3 hfd => ?_)))
          · have hne : c.take k ≠ [] := by
              intro h0
              have := congrArg List.length h0
              rw [List.length_take, List.length_nil] at this
              omega
            obtain ⟨i, j2, hi, hj, hpi⟩ := hpk hne
            have hil : i < k := by have := hpi.1; rw [List.length_take] at this; omega
            have hjl : j2 < k := by have := hpi.2.1; rw [List.length_take] at this; omega
            -- cells behind may
            have g53 : σ3 53 = σ1 53 := by rw [hfd.1 53 (by decide), up_ne (by decide), hf2 53 (by decide)]
            have g54 : σ3 54 = σ1 54 := by rw [hfd.1 54 (by decide), up_ne (by decide), hf2 54 (by decide)]
            have g30 : σ3 35 30 = σ1 35 30 := by rw [hfd.2 30 (by decide) (by decide), up_nat (by decide), f35]
            have hf3 : FrU σ1 σ3 := by
              refine ⟨((hf2.mono (by simp)).tr (Fr.put (by simp))).tr (hfd.1.mono (by simp)), fun j a b c e => ?_⟩
              rw [hfd.2 j b c, up_nat a, f35]
            obtain ⟨m1, m2⟩ := id hm
            have mi := (m1 i (by omega)).1
            have mj := (m1 j2 (by omega)).1
            refine V.run 0 54 rfl hn ⟨by rw [hi]; exact in_N (n := 64) (by omega) (by decide), by rw [hi]; exact in_N (n := 64) (by omega) (by decide), by (simp only [rf_useMany, rf_lastUse]; rw [up_ne (by decide), hj]; exact in_N (n := 64) (by omega) (by decide)), by (simp only [rf_useMany, rf_lastUse]; rw [up_ne (by decide), hj]; exact in_N (n := 64) (by omega) (by decide)), by (simp only [rf_useMany, rf_lastUse]; rw [up_ne (by decide), up_ne (by decide), hi]; exact in_N (n := 64) (by omega) (by decide)), by (simp only [rf_useMany, rf_lastUse]; rw [up_ne (by decide), up_ne (by decide), up_ne (by decide), hj]; exact in_N (n := 64) (by omega) (by decide)), trivial⟩ ?_
            try simp only [rf_told, rf_comes, rf_comeMany, rf_comeAt, rf_isSeen, rf_goals, rf_text, rf_taken, rf_roadRow, rf_dueNumber, rf_dueTimes, rf_above, rf_tree, rf_way, rf_signs, rf_spent, rf_read, rf_useMany, rf_lastUse, fi_9_0, fi_9_2, fi_9_3, fi_9_4, fi_9_6, fi_9_7, fi_9_14, fi_9_19, fi_9_24, fi_9_26, fi_9_27, fi_9_30]
            simp only [up_ne (show (35 : Nat) ≠ 53 by decide), up_ne (show (35 : Nat) ≠ 54 by decide), hi, hj, ix_N (show i < 2147483648 by omega), ix_N (show j2 < 2147483648 by omega)]
            rw [g53, mi, g30, m2, iZ_add]
            generalize hσ4 : up (up (up (up σ3 53 i (iZ ((useN pk i k : Int) + 1))) 53 j2 (up σ3 53 i (iZ ((useN pk i k : Int) + 1)) 53 j2 + iZ 1)) 54 i (iZ k)) 54 j2 (iZ k) = σ4
            have v53 : ∀ t, t < c.length → σ4 53 t = iZ ((useN pk t k : Int) + ((if i = t then 1 else 0) + (if j2 = t then 1 else 0) : Nat)) := by
              intro t ht
              have mt := (m1 t ht).1
              rw [← hσ4, up_ne (by decide), up_ne (by decide)]
              by_cases e1 : t = j2
              · subst e1
                rw [up_at]
                by_cases e2 : t = i
                · subst e2
                  rw [up_at, iZ_add]
                  exact iZ_pat (by simp; omega)
                · rw [up_nat e2, g53, mt, iZ_add]
                  exact iZ_pat (by rw [if_neg (fun q => e2 q.symm), if_pos rfl]; omega)
              · rw [up_nat e1]
                by_cases e2 : t = i
                · subst e2
                  rw [up_at]
                  exact iZ_pat (by rw [if_pos rfl, if_neg (fun q => e1 q.symm)]; omega)
                · rw [up_nat e2, g53, mt]
                  exact iZ_pat (by rw [if_neg (fun q => e2 q.symm), if_neg (fun q => e1 q.symm)]; omega)
            have v54 : ∀ t, t < c.length → σ4 54 t = iZ (if i = t ∨ j2 = t then k else lastN pk t k : Nat) := by
              intro t ht
              have mt := (m1 t ht).2
              rw [← hσ4]
              by_cases e1 : t = j2
              · subst e1
                rw [up_at, if_pos (Or.inr rfl)]
              · rw [up_nat e1]
                by_cases e2 : t = i
                · subst e2
                  rw [up_at, if_pos (Or.inl rfl)]
                · rw [up_nat e2, up_ne (by decide), up_ne (by decide), g54, mt, if_neg (fun q => q.elim (fun q => e2 q.symm) (fun q => e1 q.symm))]
            have hf4 : FrU σ3 σ4 := by
              rw [← hσ4]
              refine ⟨Fr.putT (Fr.putT (Fr.putT (Fr.put (by simp)) (by simp)) (by simp)) (by simp), fun j _ _ _ _ => ?_⟩
              rw [up_ne (by decide), up_ne (by decide), up_ne (by decide), up_ne (by decide)]
            have fin : ∀ (dd : Nat) (x2 : Option Value), dd = dblN pk k + (if i = j2 then 1 else 0) → V M_X9_layUses d n n none Q n (rho ca cb tr) (up σ4 35 30 (iZ dd)) 161 [some (.ref 35), some (.int (iZ (k))), x2] [] := by
              intro dd x2 hdd
              have eu := useN_up pk (i, j2) 
              refine V.run 0 54 rfl hn trivial ?_
              have key := ih (k + 1) (fun m => if m = k then (i, j2) else pk m) (up σ4 35 30 (iZ dd)) x2 (by omega) (by omega) (fun m h1 h2 => ?_) ⟨fun t ht => ⟨?_, ?_⟩, ?_⟩ (hf.tr (hf3.tr (hf4.tr ⟨Fr.put (by simp), fun j _ _ _ e => up_nat e⟩)))
              · rw [show ((k + 1 : Nat) : Int) = (k : Int) + 1 by omega, ← iZ_add (k : Int) 1] at key
                exact key
              · by_cases e : m = k
                · subst e
                  simp only [if_true]
                  exact hpi
                · simp only [if_neg e]
                  exact hu m h1 (by omega)
              · rw [up_ne (by decide), v53 t ht]
                have e1 : useN (fun m => if m = k then (i, j2) else pk m) t (k + 1) = useN pk t k + ((if i = t then 1 else 0) + (if j2 = t then 1 else 0)) := by
                  conv => lhs; unfold useN
                  rw [(eu t (Nat.le_refl k)).1, if_neg (show ¬ k = 0 by omega)]
                  simp only [if_true]
                rw [e1]
                exact iZ_pat (by omega)
              · rw [up_ne (by decide), v54 t ht]
                have e1 : lastN (fun m => if m = k then (i, j2) else pk m) t (k + 1) = if i = t ∨ j2 = t then k else lastN pk t k := by
                  conv => lhs; unfold lastN
                  rw [(eu t (Nat.le_refl k)).2.1]
                  simp only [if_true]
                  by_cases e : i = t ∨ j2 = t
                  · rw [if_pos e, if_pos ⟨by omega, e⟩]
                  · rw [if_neg e, if_neg (fun q => e q.2)]
                rw [e1]
              · rw [up_at, hdd]
                have e1 : dblN (fun m => if m = k then (i, j2) else pk m) (k + 1) = dblN pk k + (if i = j2 then 1 else 0) := by
                  conv => lhs; unfold dblN
                  rw [(eu 0 (Nat.le_refl k)).2.2]
                  simp only [if_true]
                  by_cases e : i = j2
                  · rw [if_pos e, if_pos ⟨by omega, e⟩]
                  · rw [if_neg e, if_neg (fun q => e q.2)]
                rw [e1]
            refine V.br rfl (fun (cc : iZ i = iZ j2) => ?_) (fun (cc : ¬ (iZ i = iZ j2)) => ?_)
            · rw [iZ_eq (by omega) (by omega)] at cc
              refine V.run 0 54 rfl hn trivial ?_
              refine V.run 161 54 rfl hn trivial ?_
              rw [iZ_add, show (dblN pk k : Int) + 1 = ((dblN pk k + 1 : Nat) : Int) by omega]
              exact fin _ _ (by rw [if_pos (by omega)])
            · rw [iZ_eq (by omega) (by omega)] at cc
              refine V.run 161 54 rfl hn trivial ?_
              rw [iZ_add, show (dblN pk k : Int) + 0 = ((dblN pk k : Nat) : Int) by omega]
              exact fin _ _ (by rw [if_neg (by omega)]; rfl)
          · exact absurd hmy hno
        | succ q ih2 =>
          intro j σ2 hq hf2 h52
          have f38 : σ2 38 = σ1 38 := hf2 38 (by decide)
          refine V.run 0 54 rfl hn trivial ?_
          refine V.brF rfl (fun q => by have := (iZ_le (by omega) (by omega)).mp q; omega) ?_
          refine V.run 0 54 rfl hn ⟨in_N (n := 64) (by omega) (by decide), in_N (n := 64) (by omega) (by decide), trivial⟩ ?_
          try simp only [rf_told, rf_comes, rf_comeMany, rf_comeAt, rf_isSeen, rf_goals, rf_text, rf_taken, rf_roadRow, rf_dueNumber, rf_dueTimes, rf_above, rf_tree, rf_way, rf_signs, rf_spent, rf_read, rf_useMany, rf_lastUse, fi_9_0, fi_9_2, fi_9_3, fi_9_4, fi_9_6, fi_9_7, fi_9_14, fi_9_19, fi_9_24, fi_9_26, fi_9_27, fi_9_30]
          rw [ix_N (by omega), f38, e3 j (by omega)]
          have := ih2 (j + 1) (up σ2 52 j (iZ (c.getD j 0))) (by omega) (hf2.putT (by simp)) (fun i hi => by
            by_cases e : i = j
            · subst e; exact up_at
            · rw [up_nat e]; exact h52 i (by omega))
          rw [show ((j + 1 : Nat) : Int) = (j : Int) + 1 by omega, ← iZ_add] at this
          exact this
      refine V.run 0 54 rfl hn trivial ?_
      try simp only [rf_told, rf_comes, rf_comeMany, rf_comeAt, rf_isSeen, rf_goals, rf_text, rf_taken, rf_roadRow, rf_dueNumber, rf_dueTimes, rf_above, rf_tree, rf_way, rf_signs, rf_spent, rf_read, rf_useMany, rf_lastUse, fi_9_0, fi_9_2, fi_9_3, fi_9_4, fi_9_6, fi_9_7, fi_9_14, fi_9_19, fi_9_24, fi_9_26, fi_9_27, fi_9_30]
      rw [e1]
      refine V.brF rfl (fun q => by have := (iZ_le (by omega) (by omega)).mp q; omega) ?_
      refine V.run 47 54 rfl hn trivial ?_
      exact copy k 0 σ1 (by omega) Fr.rf (fun i hi => by omega)
  -- all to 0
  have zero : ∀ (p k : Nat) (σ1 : Mem) (x2 : Option Value), k + p = c.length → FrU σ σ1 → σ1 35 30 = iZ 0 → (∀ t, t < k → σ1 53 t = iZ 0 ∧ σ1 54 t = iZ 0) → V M_X9_layUses d n n none Q n (rho ca cb tr) σ1 7 [some (.ref 35), some (.int (iZ (k))), x2] [] := by
    intro p
    induction p with
    | zero =>
      intro k σ1 x2 hp hf h30 hz
      obtain ⟨e1, -⟩ := hf.ch hc
      refine V.run 0 54 rfl hn trivial ?_
      try simp only [rf_told, rf_comes, rf_comeMany, rf_comeAt, rf_isSeen, rf_goals, rf_text, rf_taken, rf_roadRow, rf_dueNumber, rf_dueTimes, rf_above, rf_tree, rf_way, rf_signs, rf_spent, rf_read, rf_useMany, rf_lastUse, fi_9_0, fi_9_2, fi_9_3, fi_9_4, fi_9_6, fi_9_7, fi_9_14, fi_9_19, fi_9_24, fi_9_26, fi_9_27, fi_9_30]
      rw [e1]
      refine V.brT rfl ((iZ_le (by omega) (by omega)).mpr (by omega)) ?_
      refine V.run 37 54 rfl hn trivial ?_
      refine steps (c.length - 1) 1 (fun _ => (0, 0)) σ1 x2 (by omega) (by omega) (fun k a b => by omega) ⟨fun t ht => ?_, ?_⟩ hf
      · have := hz t (by omega)
        simpa [useN, lastN] using this
      · simpa [dblN] using h30
    | succ p ih =>
      intro k σ1 x2 hp hf h30 hz
      obtain ⟨e1, -⟩ := hf.ch hc
      refine V.run 0 54 rfl hn trivial ?_
      try simp only [rf_told, rf_comes, rf_comeMany, rf_comeAt, rf_isSeen, rf_goals, rf_text, rf_taken, rf_roadRow, rf_dueNumber, rf_dueTimes, rf_above, rf_tree, rf_way, rf_signs, rf_spent, rf_read, rf_useMany, rf_lastUse, fi_9_0, fi_9_2, fi_9_3, fi_9_4, fi_9_6, fi_9_7, fi_9_14, fi_9_19, fi_9_24, fi_9_26, fi_9_27, fi_9_30]
      rw [e1]
      refine V.brF rfl (fun q => by have := (iZ_le (by omega) (by omega)).mp q; omega) ?_
      refine V.run 0 54 rfl hn ⟨in_N (n := 64) (by omega) (by decide), in_N (n := 64) (by omega) (by decide), trivial⟩ ?_
      try simp only [rf_told, rf_comes, rf_comeMany, rf_comeAt, rf_isSeen, rf_goals, rf_text, rf_taken, rf_roadRow, rf_dueNumber, rf_dueTimes, rf_above, rf_tree, rf_way, rf_signs, rf_spent, rf_read, rf_useMany, rf_lastUse, fi_9_0, fi_9_2, fi_9_3, fi_9_4, fi_9_6, fi_9_7, fi_9_14, fi_9_19, fi_9_24, fi_9_26, fi_9_27, fi_9_30]
      rw [ix_N (by omega)]
      have := ih (k + 1) (up (up σ1 53 k (iZ 0)) 54 k (iZ 0)) x2 (by omega) ⟨Fr.putT (Fr.putT hf.1 (by simp)) (by simp), fun j a b c e => by rw [up_ne (by decide), up_ne (by decide)]; exact hf.2 j a b c e⟩ (by rw [up_ne (by decide), up_ne (by decide)]; exact h30) (fun t ht => by
        by_cases e : t = k
        · subst e
          exact ⟨by rw [up_ne (by decide), up_at], by rw [up_at]⟩
        · exact ⟨by rw [up_ne (by decide), up_nat e]; exact (hz t (by omega)).1, by rw [up_nat e, up_ne (by decide)]; exact (hz t (by omega)).2⟩)
      rw [show ((k + 1 : Nat) : Int) = (k : Int) + 1 by omega, ← iZ_add] at this
      exact this
  exact zero c.length 0 _ none (by omega) ⟨Fr.put (by simp), fun j _ _ _ e => up_nat e⟩ (by rw [up_at]) (fun t ht => by omega)
end MDJ
