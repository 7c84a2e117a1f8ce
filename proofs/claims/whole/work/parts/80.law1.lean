/-! ===== the law: the calls ===== -/
section LW1
variable {d n n1 L i O tr : Nat} {xs : Nat → Int32} {Q : PQ} {σ : Mem} {ws vs tx c gs : List Nat} {kind p q : Nat} {pk : Nat → Nat × Nat}
set_option maxRecDepth 100000 in
theorem L_fewest (hn : 54 ≤ n) (hnn : n ≤ n1) (hd : 48 ≤ d) (hL : L ≤ 2560) (hi : 5 * i + 5 ≤ L) (hO : O = 27 ∨ O = 31) (ht : treeS n tr σ) (hC : LC O ws vs tx kind c pk p q σ) (hM : LM gs tx kind c p q σ) (hg : gsR gs ws) (next : LK d n1 L xs Q i n) : V M_L_law d 0 n1 (some (L, xs)) Q n (rho O (58 - O) tr) σ 136 [some (.ref 0), some (.ref 1), some (.ref 35), some (.int (iZ ((5 * i : Nat) : Int)))] [] := by
  obtain ⟨s0, g8, g0, br, t0, ch⟩ := id hC
  obtain ⟨go, pr, te, ca⟩ := id hM
  refine V.run 0 54 rfl hn trivial ?_
  refine V.sld rfl rfl rfl (nX1 hL hi) ?_
  rw [gX1 (xs := xs) hL hi]
  refine V.run 0 54 rfl hn trivial ?_
  refine V.sld rfl rfl rfl (nX2 hL hi) ?_
  rw [gX2 (xs := xs) hL hi]
  refine V.cv (lo := 54) (d' := d - 1) rfl rfl ok_X8_fewest lk_10_X8_fewest rfl rfl rfl hn (by omega) (Nat.le_refl _) hnn (c_fewest hn (by omega) zz_b zz_b s0 (fun σ1 s1 f1 => ?_))
  refine V.run 0 54 rfl hn trivial ?_
  refine V.sld rfl rfl rfl (nX1 hL hi) ?_
  rw [gX1 (xs := xs) hL hi]
  refine V.run 0 54 rfl hn trivial ?_
  refine V.sld rfl rfl rfl (nX2 hL hi) ?_
  rw [gX2 (xs := xs) hL hi]
  refine V.cv (lo := 54) (d' := d - 1) rfl rfl ok_X9_fewest lk_10_X9_fewest rfl rfl rfl hn (by omega) (Nat.le_refl _) hnn (m_fewest hn (by omega) zz_b zz_b (fun σ2 f2 => ?_))
  refine V.brT rfl rfl ?_
  have hC1 : LC O ws vs tx kind c pk p q σ1 := ⟨s1, g8.fr f1 (by decide) (by decide), g0.fr f1 (by decide) (by decide), br.fr f1 (by decide), t0.fr f1 (by decide) (by decide), ch.fr f1 (by rcases hO with rfl | rfl <;> decide) (by rcases hO with rfl | rfl <;> decide) (by rcases hO with rfl | rfl <;> decide) (by rcases hO with rfl | rfl <;> decide)⟩
  exact next hO ((ht.fr f1 (by decide) (by decide) (by decide)).fr f2 (by decide) (by decide) (by decide)) (hC1.fr f2 hO (by decide)) ((hM.fr f1 (by decide)).fr f2 (by decide)) hg
set_option maxRecDepth 100000 in
theorem L_asFew (hn : 54 ≤ n) (hnn : n ≤ n1) (hd : 48 ≤ d) (hL : L ≤ 2560) (hi : 5 * i + 5 ≤ L) (hO : O = 27 ∨ O = 31) (ht : treeS n tr σ) (hC : LC O ws vs tx kind c pk p q σ) (hM : LM gs tx kind c p q σ) (hg : gsR gs ws) (next : LK d n1 L xs Q i n) : V M_L_law d 0 n1 (some (L, xs)) Q n (rho O (58 - O) tr) σ 169 [some (.ref 0), some (.ref 1), some (.ref 35), some (.int (iZ ((5 * i : Nat) : Int)))] [] := by
  obtain ⟨s0, g8, g0, br, t0, ch⟩ := id hC
  obtain ⟨go, pr, te, ca⟩ := id hM
  refine V.run 0 54 rfl hn trivial ?_
  refine V.sld rfl rfl rfl (nX1 hL hi) ?_
  rw [gX1 (xs := xs) hL hi]
  refine V.run 0 54 rfl hn trivial ?_
  refine V.sld rfl rfl rfl (nX2 hL hi) ?_
  rw [gX2 (xs := xs) hL hi]
  refine V.cv (lo := 54) (d' := d - 1) rfl rfl ok_X8_asFew lk_10_X8_asFew rfl rfl rfl hn (by omega) (Nat.le_refl _) hnn (c_asFew hn (by omega) zz_b zz_b s0 (fun σ1 s1 f1 => ?_))
  refine V.run 0 54 rfl hn trivial ?_
  refine V.sld rfl rfl rfl (nX1 hL hi) ?_
  rw [gX1 (xs := xs) hL hi]
  refine V.run 0 54 rfl hn trivial ?_
  refine V.sld rfl rfl rfl (nX2 hL hi) ?_
  rw [gX2 (xs := xs) hL hi]
  refine V.cv (lo := 54) (d' := d - 1) rfl rfl ok_X9_asFew lk_10_X9_asFew rfl rfl rfl hn (by omega) (Nat.le_refl _) hnn (m_asFew hn (by omega) zz_b zz_b (fun σ2 f2 => ?_))
  refine V.brT rfl rfl ?_
  have hC1 : LC O ws vs tx kind c pk p q σ1 := ⟨s1, g8.fr f1 (by decide) (by decide), g0.fr f1 (by decide) (by decide), br.fr f1 (by decide), t0.fr f1 (by decide) (by decide), ch.fr f1 (by rcases hO with rfl | rfl <;> decide) (by rcases hO with rfl | rfl <;> decide) (by rcases hO with rfl | rfl <;> decide) (by rcases hO with rfl | rfl <;> decide)⟩
  exact next hO ((ht.fr f1 (by decide) (by decide) (by decide)).fr f2 (by decide) (by decide) (by decide)) (hC1.fr f2 hO (by decide)) ((hM.fr f1 (by decide)).fr f2 (by decide)) hg
set_option maxRecDepth 100000 in
theorem L_first (hn : 54 ≤ n) (hnn : n ≤ n1) (hd : 48 ≤ d) (hL : L ≤ 2560) (hi : 5 * i + 5 ≤ L) (hO : O = 27 ∨ O = 31) (ht : treeS n tr σ) (hC : LC O ws vs tx kind c pk p q σ) (hM : LM gs tx kind c p q σ) (hg : gsR gs ws) (next : LK d n1 L xs Q i n) : V M_L_law d 0 n1 (some (L, xs)) Q n (rho O (58 - O) tr) σ 202 [some (.ref 0), some (.ref 1), some (.ref 35), some (.int (iZ ((5 * i : Nat) : Int)))] [] := by
  obtain ⟨s0, g8, g0, br, t0, ch⟩ := id hC
  obtain ⟨go, pr, te, ca⟩ := id hM
  refine V.run 0 54 rfl hn trivial ?_
  refine V.sld rfl rfl rfl (nX1 hL hi) ?_
  rw [gX1 (xs := xs) hL hi]
  refine V.run 0 54 rfl hn trivial ?_
  refine V.sld rfl rfl rfl (nX2 hL hi) ?_
  rw [gX2 (xs := xs) hL hi]
  refine V.run 0 54 rfl hn trivial ?_
  refine V.sld rfl rfl rfl (nX3 hL hi) ?_
  rw [gX3 (xs := xs) hL hi]
  refine V.cv (lo := 54) (d' := d - 1) rfl rfl ok_X8_first lk_10_X8_first rfl rfl rfl hn (by omega) (Nat.le_refl _) hnn (c_first hn (by omega) zz_b zz_b zz_b s0 (fun σ1 s1 f1 => ?_))
  refine V.run 0 54 rfl hn trivial ?_
  refine V.sld rfl rfl rfl (nX1 hL hi) ?_
  rw [gX1 (xs := xs) hL hi]
  refine V.run 0 54 rfl hn trivial ?_
  refine V.sld rfl rfl rfl (nX2 hL hi) ?_
  rw [gX2 (xs := xs) hL hi]
  refine V.run 0 54 rfl hn trivial ?_
  refine V.sld rfl rfl rfl (nX3 hL hi) ?_
  rw [gX3 (xs := xs) hL hi]
  refine V.cv (lo := 54) (d' := d - 1) rfl rfl ok_X9_first lk_10_X9_first rfl rfl rfl hn (by omega) (Nat.le_refl _) hnn (m_first hn (by omega) zz_b zz_b zz_b (fun σ2 f2 => ?_))
  refine V.brT rfl rfl ?_
  have hC1 : LC O ws vs tx kind c pk p q σ1 := ⟨s1, g8.fr f1 (by decide) (by decide), g0.fr f1 (by decide) (by decide), br.fr f1 (by decide), t0.fr f1 (by decide) (by decide), ch.fr f1 (by rcases hO with rfl | rfl <;> decide) (by rcases hO with rfl | rfl <;> decide) (by rcases hO with rfl | rfl <;> decide) (by rcases hO with rfl | rfl <;> decide)⟩
  exact next hO ((ht.fr f1 (by decide) (by decide) (by decide)).fr f2 (by decide) (by decide) (by decide)) (hC1.fr f2 hO (by decide)) ((hM.fr f1 (by decide)).fr f2 (by decide)) hg
set_option maxRecDepth 100000 in
theorem L_hardest (hn : 54 ≤ n) (hnn : n ≤ n1) (hd : 48 ≤ d) (hL : L ≤ 2560) (hi : 5 * i + 5 ≤ L) (hO : O = 27 ∨ O = 31) (ht : treeS n tr σ) (hC : LC O ws vs tx kind c pk p q σ) (hM : LM gs tx kind c p q σ) (hg : gsR gs ws) (next : LK d n1 L xs Q i n) : V M_L_law d 0 n1 (some (L, xs)) Q n (rho O (58 - O) tr) σ 245 [some (.ref 0), some (.ref 1), some (.ref 35), some (.int (iZ ((5 * i : Nat) : Int)))] [] := by
  obtain ⟨s0, g8, g0, br, t0, ch⟩ := id hC
  obtain ⟨go, pr, te, ca⟩ := id hM
  refine V.run 0 54 rfl hn trivial ?_
  refine V.sld rfl rfl rfl (nX1 hL hi) ?_
  rw [gX1 (xs := xs) hL hi]
  refine V.run 0 54 rfl hn trivial ?_
  refine V.sld rfl rfl rfl (nX2 hL hi) ?_
  rw [gX2 (xs := xs) hL hi]
  refine V.cv (lo := 54) (d' := d - 1) rfl rfl ok_X8_hardest lk_10_X8_hardest rfl rfl rfl hn (by omega) (Nat.le_refl _) hnn (c_hardest hn (by omega) zz_b zz_b s0 (fun σ1 s1 f1 => ?_))
  refine V.run 0 54 rfl hn trivial ?_
  refine V.sld rfl rfl rfl (nX1 hL hi) ?_
  rw [gX1 (xs := xs) hL hi]
  refine V.run 0 54 rfl hn trivial ?_
  refine V.sld rfl rfl rfl (nX2 hL hi) ?_
  rw [gX2 (xs := xs) hL hi]
  refine V.cv (lo := 54) (d' := d - 1) rfl rfl ok_X9_hardest lk_10_X9_hardest rfl rfl rfl hn (by omega) (Nat.le_refl _) hnn (m_hardest hn (by omega) zz_b zz_b (fun σ2 f2 => ?_))
  refine V.brT rfl rfl ?_
  have hC1 : LC O ws vs tx kind c pk p q σ1 := ⟨s1, g8.fr f1 (by decide) (by decide), g0.fr f1 (by decide) (by decide), br.fr f1 (by decide), t0.fr f1 (by decide) (by decide), ch.fr f1 (by rcases hO with rfl | rfl <;> decide) (by rcases hO with rfl | rfl <;> decide) (by rcases hO with rfl | rfl <;> decide) (by rcases hO with rfl | rfl <;> decide)⟩
  exact next hO ((ht.fr f1 (by decide) (by decide) (by decide)).fr f2 (by decide) (by decide) (by decide)) (hC1.fr f2 hO (by decide)) ((hM.fr f1 (by decide)).fr f2 (by decide)) hg
set_option maxRecDepth 100000 in
theorem L_goal (hn : 54 ≤ n) (hnn : n ≤ n1) (hd : 48 ≤ d) (hL : L ≤ 2560) (hi : 5 * i + 5 ≤ L) (hO : O = 27 ∨ O = 31) (ht : treeS n tr σ) (hC : LC O ws vs tx kind c pk p q σ) (hM : LM gs tx kind c p q σ) (hg : gsR gs ws) (next : LK d n1 L xs Q i n) : V M_L_law d 0 n1 (some (L, xs)) Q n (rho O (58 - O) tr) σ 278 [some (.ref 0), some (.ref 1), some (.ref 35), some (.int (iZ ((5 * i : Nat) : Int)))] [] := by
  obtain ⟨s0, g8, g0, br, t0, ch⟩ := id hC
  obtain ⟨go, pr, te, ca⟩ := id hM
  refine V.run 0 54 rfl hn trivial ?_
  refine V.sld rfl rfl rfl (nX1 hL hi) ?_
  rw [gX1 (xs := xs) hL hi]
  refine V.cv (lo := 54) (d' := d - 1) rfl rfl ok_X8_goal lk_10_X8_goal rfl rfl rfl hn (by omega) (Nat.le_refl _) hnn (c_goal hn (by omega) zz_b g8 hg (fun σ1 ws1 g1 r1 f1 => ?_))
  refine V.run 0 54 rfl hn trivial ?_
  refine V.sld rfl rfl rfl (nX1 hL hi) ?_
  rw [gX1 (xs := xs) hL hi]
  have hM1 := hM.fr f1 (by decide)
  refine V.cv (lo := 54) (d' := d - 1) rfl rfl ok_X9_goal lk_10_X9_goal rfl rfl rfl hn (by omega) (Nat.le_refl _) hnn (m_goal hn (by omega) zz_b hM1.1 (fun σ2 g2 f2 e2 => ?_))
  refine V.brT rfl rfl ?_
  have hC1 : LC O ws1 vs tx kind c pk p q σ1 := ⟨s0.fr f1 (by decide), g1, g0.fr f1 (by decide) (by decide), br.fr f1 (by decide), t0.fr f1 (by decide) (by decide), ch.fr f1 (by rcases hO with rfl | rfl <;> decide) (by rcases hO with rfl | rfl <;> decide) (by rcases hO with rfl | rfl <;> decide) (by rcases hO with rfl | rfl <;> decide)⟩
  exact next hO ((ht.fr f1 (by decide) (by decide) (by decide)).fr f2 (by decide) (by decide) (by decide)) (hC1.fr f2 hO (by decide)) ⟨g2, hM1.2.1.k (e2 2 (by decide)) (e2 3 (by decide)), hM1.2.2.1.k (e2 4 (by decide)) (f2 37 (by decide)), hM1.2.2.2.k (e2 6 (by decide)) (e2 7 (by decide)) (f2 38 (by decide))⟩ r1
set_option maxRecDepth 100000 in
theorem L_noGoals (hn : 54 ≤ n) (hnn : n ≤ n1) (hd : 48 ≤ d) (hL : L ≤ 2560) (hi : 5 * i + 5 ≤ L) (hO : O = 27 ∨ O = 31) (ht : treeS n tr σ) (hC : LC O ws vs tx kind c pk p q σ) (hM : LM gs tx kind c p q σ) (hg : gsR gs ws) (next : LK d n1 L xs Q i n) : V M_L_law d 0 n1 (some (L, xs)) Q n (rho O (58 - O) tr) σ 301 [some (.ref 0), some (.ref 1), some (.ref 35), some (.int (iZ ((5 * i : Nat) : Int)))] [] := by
  obtain ⟨s0, g8, g0, br, t0, ch⟩ := id hC
  obtain ⟨go, pr, te, ca⟩ := id hM
  refine V.run 0 54 rfl hn trivial ?_
  refine V.cv (lo := 54) (d' := d - 1) rfl rfl ok_X8_noGoals lk_10_X8_noGoals rfl rfl rfl hn (by omega) (Nat.le_refl _) hnn (c_noGoals hn (by omega) g8 hg (fun σ1 g1 f1 => ?_))
  refine V.run 0 54 rfl hn trivial ?_
  have hM1 := hM.fr f1 (by decide)
  refine V.cv (lo := 54) (d' := d - 1) rfl rfl ok_X9_noGoals lk_10_X9_noGoals rfl rfl rfl hn (by omega) (Nat.le_refl _) hnn (m_noGoals hn hM1.1 (fun σ2 g2 f2 e2 => ?_))
  refine V.brT rfl rfl ?_
  have hC1 : LC O [] vs tx kind c pk p q σ1 := ⟨s0.fr f1 (by decide), g1, g0.fr f1 (by decide) (by decide), br.fr f1 (by decide), t0.fr f1 (by decide) (by decide), ch.fr f1 (by rcases hO with rfl | rfl <;> decide) (by rcases hO with rfl | rfl <;> decide) (by rcases hO with rfl | rfl <;> decide) (by rcases hO with rfl | rfl <;> decide)⟩
  exact next hO ((ht.fr f1 (by decide) (by decide) (by decide)).fr f2 (by decide) (by decide) (by decide)) (hC1.fr f2 hO (by decide)) ⟨g2, hM1.2.1.k (e2 2 (by decide)) (e2 3 (by decide)), hM1.2.2.1.k (e2 4 (by decide)) (f2 37 (by decide)), hM1.2.2.2.k (e2 6 (by decide)) (e2 7 (by decide)) (f2 38 (by decide))⟩ ⟨fun x => Iff.rfl, rfl⟩
set_option maxRecDepth 100000 in
theorem L_together (hn : 54 ≤ n) (hnn : n ≤ n1) (hd : 48 ≤ d) (hL : L ≤ 2560) (hi : 5 * i + 5 ≤ L) (hO : O = 27 ∨ O = 31) (ht : treeS n tr σ) (hC : LC O ws vs tx kind c pk p q σ) (hM : LM gs tx kind c p q σ) (hg : gsR gs ws) (next : LK d n1 L xs Q i n) : V M_L_law d 0 n1 (some (L, xs)) Q n (rho O (58 - O) tr) σ 314 [some (.ref 0), some (.ref 1), some (.ref 35), some (.int (iZ ((5 * i : Nat) : Int)))] [] := by
  obtain ⟨s0, g8, g0, br, t0, ch⟩ := id hC
  obtain ⟨go, pr, te, ca⟩ := id hM
  refine V.run 0 54 rfl hn trivial ?_
  refine V.cv (lo := 54) (d' := d - 1) rfl rfl ok_X8_together lk_10_X8_together rfl rfl rfl hn (by omega) (Nat.le_refl _) hnn (c_together hn (by omega) g8 s0.1 (fun σ1 t1 f1 => ?_))
  refine V.run 0 54 rfl hn trivial ?_
  have hM1 := hM.fr f1 (by decide)
  refine V.cv (lo := 54) (d' := d - 1) rfl rfl ok_X9_together lk_10_X9_together rfl rfl rfl hn (by omega) (Nat.le_refl _) hnn (m_together hn (by omega) (T := feT ws) (feT_isT hg g8.1) (by have := (feT_ok g8.1).2.1; omega) hM1.1 (fun σ2 f2 => ?_))
  refine V.brT rfl rfl ?_
  have hC1 : LC O ws vs tx kind c pk p q σ1 := ⟨s0.tr t1 (fun a h1 h2 => f1 a (by simp; omega)), g8.fr f1 (by decide) (by decide), g0.fr f1 (by decide) (by decide), br.fr f1 (by decide), t0.fr f1 (by decide) (by decide), ch.fr f1 (by rcases hO with rfl | rfl <;> decide) (by rcases hO with rfl | rfl <;> decide) (by rcases hO with rfl | rfl <;> decide) (by rcases hO with rfl | rfl <;> decide)⟩
  exact next hO ((ht.fr f1 (by decide) (by decide) (by decide)).fr f2 (by decide) (by decide) (by decide)) (hC1.fr f2 hO (by decide)) (hM1.fr f2 (by decide)) hg
set_option maxRecDepth 100000 in
theorem L_led (hn : 54 ≤ n) (hnn : n ≤ n1) (hd : 48 ≤ d) (hL : L ≤ 2560) (hi : 5 * i + 5 ≤ L) (hO : O = 27 ∨ O = 31) (ht : treeS n tr σ) (hC : LC O ws vs tx kind c pk p q σ) (hM : LM gs tx kind c p q σ) (hg : gsR gs ws) (next : LK d n1 L xs Q i n) : V M_L_law d 0 n1 (some (L, xs)) Q n (rho O (58 - O) tr) σ 327 [some (.ref 0), some (.ref 1), some (.ref 35), some (.int (iZ ((5 * i : Nat) : Int)))] [] := by
  obtain ⟨s0, g8, g0, br, t0, ch⟩ := id hC
  obtain ⟨go, pr, te, ca⟩ := id hM
  refine V.run 0 54 rfl hn trivial ?_
  refine V.sld rfl rfl rfl (nX1 hL hi) ?_
  rw [gX1 (xs := xs) hL hi]
  refine V.run 0 54 rfl hn trivial ?_
  refine V.sld rfl rfl rfl (nX2 hL hi) ?_
  rw [gX2 (xs := xs) hL hi]
  refine V.cv (lo := 54) (d' := d - 1) rfl rfl ok_X8_led lk_10_X8_led rfl rfl rfl hn (by omega) (Nat.le_refl _) hnn (c_led hn (by omega) zz_b zz_b g0 s0.1 (fun bad => ?_) (fun gd σ1 ws1 g1 t1 f1 => ?_))
  · refine V.run 0 54 rfl hn trivial ?_
    refine V.sld rfl rfl rfl (nX1 hL hi) ?_
    rw [gX1 (xs := xs) hL hi]
    refine V.run 0 54 rfl hn trivial ?_
    refine V.sld rfl rfl rfl (nX2 hL hi) ?_
    rw [gX2 (xs := xs) hL hi]
    refine V.cv (lo := 54) (d' := d - 1) rfl rfl ok_X9_led lk_10_X9_led rfl rfl rfl hn (by omega) (Nat.le_refl _) hnn (m_led (L := 0) hn (by omega) zz_b zz_b (fun _ => ?_) (fun e b => absurd ⟨by omega, by omega, by omega⟩ bad) (fun g => absurd ⟨g.1, g.2.1, by omega⟩ bad) (fun g => absurd ⟨g.1, g.2.1, by omega⟩ bad))
    refine V.brT rfl rfl ?_
    exact next hO ht hC hM hg
  · refine V.run 0 54 rfl hn trivial ?_
    refine V.sld rfl rfl rfl (nX1 hL hi) ?_
    rw [gX1 (xs := xs) hL hi]
    refine V.run 0 54 rfl hn trivial ?_
    refine V.sld rfl rfl rfl (nX2 hL hi) ?_
    rw [gX2 (xs := xs) hL hi]
    have hM1 := hM.fr f1 (by decide)
    have hC1 : LC O ws ws1 tx kind c pk p q σ1 := ⟨s0.tr t1 (fun a h1 h2 => f1 a (by simp; omega)), g8.fr f1 (by decide) (by decide), g1, br.fr f1 (by decide), t0.fr f1 (by decide) (by decide), ch.fr f1 (by rcases hO with rfl | rfl <;> decide) (by rcases hO with rfl | rfl <;> decide) (by rcases hO with rfl | rfl <;> decide) (by rcases hO with rfl | rfl <;> decide)⟩
    refine V.cv (lo := 54) (d' := d - 1) rfl rfl ok_X9_led lk_10_X9_led rfl rfl rfl hn (by omega) (Nat.le_refl _) hnn (m_led (L := A_led (zz xs (5 * i + 1)).toNat (zz xs (5 * i + 2)).toNat) hn (by omega) zz_b zz_b (fun b => absurd gd b) (fun e b => ?_) (fun g => A_led_ok (by omega) (by omega) (by omega)) (fun g σ2 f2 => ?_))
    · refine V.brT rfl (by rw [A_led_one (by omega)]; rfl) ?_
      exact next hO (ht.fr f1 (by decide) (by decide) (by decide)) hC1 hM1 hg
    · refine V.brT rfl rfl ?_
      exact next hO ((ht.fr f1 (by decide) (by decide) (by decide)).fr f2 (by decide) (by decide) (by decide)) (hC1.fr f2 hO (by decide)) (hM1.fr f2 (by decide)) hg
set_option maxRecDepth 100000 in
theorem L_road (hn : 54 ≤ n) (hnn : n ≤ n1) (hd : 48 ≤ d) (hL : L ≤ 2560) (hi : 5 * i + 5 ≤ L) (hO : O = 27 ∨ O = 31) (ht : treeS n tr σ) (hC : LC O ws vs tx kind c pk p q σ) (hM : LM gs tx kind c p q σ) (hg : gsR gs ws) (hno : ¬ (A_isRoad (zz xs (5 * i + 1)) (zz xs (5 * i + 2)) (zz xs (5 * i + 3)) ∧ (zz xs (5 * i + 1)) = 3)) (next : LK d n1 L xs Q i n) : V M_L_law d 0 n1 (some (L, xs)) Q n (rho O (58 - O) tr) σ 360 [some (.ref 0), some (.ref 1), some (.ref 35), some (.int (iZ ((5 * i : Nat) : Int)))] [] := by
  obtain ⟨s0, g8, g0, br, t0, ch⟩ := id hC
  obtain ⟨go, pr, te, ca⟩ := id hM
  refine V.run 0 54 rfl hn trivial ?_
  refine V.sld rfl rfl rfl (nX1 hL hi) ?_
  rw [gX1 (xs := xs) hL hi]
  refine V.run 0 54 rfl hn trivial ?_
  refine V.sld rfl rfl rfl (nX2 hL hi) ?_
  rw [gX2 (xs := xs) hL hi]
  refine V.run 0 54 rfl hn trivial ?_
  refine V.sld rfl rfl rfl (nX3 hL hi) ?_
  rw [gX3 (xs := xs) hL hi]
  refine V.cv (lo := 54) (d' := d - 1) rfl rfl ok_X8_road lk_10_X8_road rfl rfl rfl hn (by omega) (Nat.le_refl _) hnn (c_road hn (by omega) zz_b zz_b zz_b hno (fun bad => ?_) (fun gd σ1 f1 => ?_))
  · refine V.run 0 54 rfl hn trivial ?_
    refine V.sld rfl rfl rfl (nX1 hL hi) ?_
    rw [gX1 (xs := xs) hL hi]
    refine V.run 0 54 rfl hn trivial ?_
    refine V.sld rfl rfl rfl (nX2 hL hi) ?_
    rw [gX2 (xs := xs) hL hi]
    refine V.run 0 54 rfl hn trivial ?_
    refine V.sld rfl rfl rfl (nX3 hL hi) ?_
    rw [gX3 (xs := xs) hL hi]
    refine V.cv (lo := 54) (d' := d - 1) rfl rfl ok_X9_road lk_10_X9_road rfl rfl rfl hn (by omega) (Nat.le_refl _) hnn (m_road hn (by omega) zz_b zz_b zz_b (fun _ => ?_) (fun gd => absurd gd bad))
    refine V.brT rfl rfl ?_
    exact next hO ht hC hM hg
  · refine V.run 0 54 rfl hn trivial ?_
    refine V.sld rfl rfl rfl (nX1 hL hi) ?_
    rw [gX1 (xs := xs) hL hi]
    refine V.run 0 54 rfl hn trivial ?_
    refine V.sld rfl rfl rfl (nX2 hL hi) ?_
    rw [gX2 (xs := xs) hL hi]
    refine V.run 0 54 rfl hn trivial ?_
    refine V.sld rfl rfl rfl (nX3 hL hi) ?_
    rw [gX3 (xs := xs) hL hi]
    have hM1 := hM.fr f1.1 (by decide)
    have hC1 : LC O ws vs tx kind c pk p q σ1 := ⟨s0.fr f1.1 (by decide), g8.fr f1.1 (by decide) (by decide), g0.fr f1.1 (by decide) (by decide), br.fr f1.1 (by decide), t0.fr f1.1 (by decide) (by decide), ch.fr f1.1 (by rcases hO with rfl | rfl <;> decide) (by rcases hO with rfl | rfl <;> decide) (by rcases hO with rfl | rfl <;> decide) (by rcases hO with rfl | rfl <;> decide)⟩
    refine V.cv (lo := 54) (d' := d - 1) rfl rfl ok_X9_road lk_10_X9_road rfl rfl rfl hn (by omega) (Nat.le_refl _) hnn (m_road hn (by omega) zz_b zz_b zz_b (fun bad => absurd gd bad) (fun _ σ2 f2 => ?_))
    refine V.brT rfl rfl ?_
    exact next hO ((ht.fr f1.1 (by decide) (by decide) (by decide)).fr f2.1 (by decide) (by decide) (by decide)) (hC1.fr f2.1 hO (by decide)) (hM1.keep (fun j hj => f2.2 j (by omega) (by omega)) (f2.1 36 (by decide)) (f2.1 37 (by decide)) (f2.1 38 (by decide))) hg
set_option maxRecDepth 100000 in
theorem L_step (hn : 54 ≤ n) (hnn : n ≤ n1) (hd : 48 ≤ d) (hL : L ≤ 2560) (hi : 5 * i + 5 ≤ L) (hO : O = 27 ∨ O = 31) (ht : treeS n tr σ) (hC : LC O ws vs tx kind c pk p q σ) (hM : LM gs tx kind c p q σ) (hg : gsR gs ws) (hno : ¬ ((A_isRoad (zz xs (5 * i + 1)) (zz xs (5 * i + 2)) (zz xs (5 * i + 3)) ∧ 0 ≤ (zz xs (5 * i + 4))) ∧ (zz xs (5 * i + 1)) = 3)) (next : LK d n1 L xs Q i n) : V M_L_law d 0 n1 (some (L, xs)) Q n (rho O (58 - O) tr) σ 403 [some (.ref 0), some (.ref 1), some (.ref 35), some (.int (iZ ((5 * i : Nat) : Int)))] [] := by
  obtain ⟨s0, g8, g0, br, t0, ch⟩ := id hC
  obtain ⟨go, pr, te, ca⟩ := id hM
  refine V.run 0 54 rfl hn trivial ?_
  refine V.sld rfl rfl rfl (nX1 hL hi) ?_
  rw [gX1 (xs := xs) hL hi]
  refine V.run 0 54 rfl hn trivial ?_
  refine V.sld rfl rfl rfl (nX2 hL hi) ?_
  rw [gX2 (xs := xs) hL hi]
  refine V.run 0 54 rfl hn trivial ?_
  refine V.sld rfl rfl rfl (nX3 hL hi) ?_
  rw [gX3 (xs := xs) hL hi]
  refine V.run 0 54 rfl hn trivial ?_
  refine V.sld rfl rfl rfl (nX4 hL hi) ?_
  rw [gX4 (xs := xs) hL hi]
  refine V.cv (lo := 54) (d' := d - 1) rfl rfl ok_X8_step lk_10_X8_step rfl rfl rfl hn (by omega) (Nat.le_refl _) hnn (c_step hn (by omega) zz_b zz_b zz_b zz_b hno (fun bad => ?_) (fun gd σ1 f1 => ?_))
  · refine V.run 0 54 rfl hn trivial ?_
    refine V.sld rfl rfl rfl (nX1 hL hi) ?_
    rw [gX1 (xs := xs) hL hi]
    refine V.run 0 54 rfl hn trivial ?_
    refine V.sld rfl rfl rfl (nX2 hL hi) ?_
    rw [gX2 (xs := xs) hL hi]
    refine V.run 0 54 rfl hn trivial ?_
    refine V.sld rfl rfl rfl (nX3 hL hi) ?_
    rw [gX3 (xs := xs) hL hi]
    refine V.run 0 54 rfl hn trivial ?_
    refine V.sld rfl rfl rfl (nX4 hL hi) ?_
    rw [gX4 (xs := xs) hL hi]
    refine V.cv (lo := 54) (d' := d - 1) rfl rfl ok_X9_step lk_10_X9_step rfl rfl rfl hn (by omega) (Nat.le_refl _) hnn (m_step hn (by omega) zz_b zz_b zz_b zz_b (fun _ => ?_) (fun gd => absurd gd bad))
    refine V.brT rfl rfl ?_
    exact next hO ht hC hM hg
  · refine V.run 0 54 rfl hn trivial ?_
    refine V.sld rfl rfl rfl (nX1 hL hi) ?_
    rw [gX1 (xs := xs) hL hi]
    refine V.run 0 54 rfl hn trivial ?_
    refine V.sld rfl rfl rfl (nX2 hL hi) ?_
    rw [gX2 (xs := xs) hL hi]
    refine V.run 0 54 rfl hn trivial ?_
    refine V.sld rfl rfl rfl (nX3 hL hi) ?_
    rw [gX3 (xs := xs) hL hi]
    refine V.run 0 54 rfl hn trivial ?_
    refine V.sld rfl rfl rfl (nX4 hL hi) ?_
    rw [gX4 (xs := xs) hL hi]
    have hM1 := hM.fr f1.1 (by decide)
    have hC1 : LC O ws vs tx kind c pk p q σ1 := ⟨s0.fr f1.1 (by decide), g8.fr f1.1 (by decide) (by decide), g0.fr f1.1 (by decide) (by decide), br.fr f1.1 (by decide), t0.fr f1.1 (by decide) (by decide), ch.fr f1.1 (by rcases hO with rfl | rfl <;> decide) (by rcases hO with rfl | rfl <;> decide) (by rcases hO with rfl | rfl <;> decide) (by rcases hO with rfl | rfl <;> decide)⟩
    refine V.cv (lo := 54) (d' := d - 1) rfl rfl ok_X9_step lk_10_X9_step rfl rfl rfl hn (by omega) (Nat.le_refl _) hnn (m_step hn (by omega) zz_b zz_b zz_b zz_b (fun bad => absurd gd bad) (fun _ σ2 f2 => ?_))
    refine V.brT rfl rfl ?_
    exact next hO ((ht.fr f1.1 (by decide) (by decide) (by decide)).fr f2.1 (by decide) (by decide) (by decide)) (hC1.fr f2.1 hO (by decide)) (hM1.keep (fun j hj => f2.2 j (by omega) (by omega)) (f2.1 36 (by decide)) (f2.1 37 (by decide)) (f2.1 38 (by decide))) hg
set_option maxRecDepth 100000 in
theorem L_good (hn : 54 ≤ n) (hnn : n ≤ n1) (hd : 48 ≤ d) (hL : L ≤ 2560) (hi : 5 * i + 5 ≤ L) (hO : O = 27 ∨ O = 31) (ht : treeS n tr σ) (hC : LC O ws vs tx kind c pk p q σ) (hM : LM gs tx kind c p q σ) (hg : gsR gs ws) (hno : ¬ (A_isGood (zz xs (5 * i + 1)) (zz xs (5 * i + 2)) (zz xs (5 * i + 3)) ∧ (zz xs (5 * i + 1)) = 3)) (next : LK d n1 L xs Q i n) : V M_L_law d 0 n1 (some (L, xs)) Q n (rho O (58 - O) tr) σ 456 [some (.ref 0), some (.ref 1), some (.ref 35), some (.int (iZ ((5 * i : Nat) : Int)))] [] := by
  obtain ⟨s0, g8, g0, br, t0, ch⟩ := id hC
  obtain ⟨go, pr, te, ca⟩ := id hM
  refine V.run 0 54 rfl hn trivial ?_
  refine V.sld rfl rfl rfl (nX1 hL hi) ?_
  rw [gX1 (xs := xs) hL hi]
  refine V.run 0 54 rfl hn trivial ?_
  refine V.sld rfl rfl rfl (nX2 hL hi) ?_
  rw [gX2 (xs := xs) hL hi]
  refine V.run 0 54 rfl hn trivial ?_
  refine V.sld rfl rfl rfl (nX3 hL hi) ?_
  rw [gX3 (xs := xs) hL hi]
  refine V.cv (lo := 54) (d' := d - 1) rfl rfl ok_X8_good lk_10_X8_good rfl rfl rfl hn (by omega) (Nat.le_refl _) hnn (c_good hn (by omega) zz_b zz_b zz_b s0 hno (fun bad => ?_) (fun gd σ1 s1 f1 => ?_))
  · refine V.run 0 54 rfl hn trivial ?_
    refine V.sld rfl rfl rfl (nX1 hL hi) ?_
    rw [gX1 (xs := xs) hL hi]
    refine V.run 0 54 rfl hn trivial ?_
    refine V.sld rfl rfl rfl (nX2 hL hi) ?_
    rw [gX2 (xs := xs) hL hi]
    refine V.run 0 54 rfl hn trivial ?_
    refine V.sld rfl rfl rfl (nX3 hL hi) ?_
    rw [gX3 (xs := xs) hL hi]
    refine V.cv (lo := 54) (d' := d - 1) rfl rfl ok_X9_good lk_10_X9_good rfl rfl rfl hn (by omega) (Nat.le_refl _) hnn (m_good hn (by omega) zz_b zz_b zz_b (fun N h => roadL_pos h) (fun _ => ?_) (fun gd => absurd gd bad))
    refine V.brT rfl rfl ?_
    exact next hO ht hC hM hg
  · refine V.run 0 54 rfl hn trivial ?_
    refine V.sld rfl rfl rfl (nX1 hL hi) ?_
    rw [gX1 (xs := xs) hL hi]
    refine V.run 0 54 rfl hn trivial ?_
    refine V.sld rfl rfl rfl (nX2 hL hi) ?_
    rw [gX2 (xs := xs) hL hi]
    refine V.run 0 54 rfl hn trivial ?_
    refine V.sld rfl rfl rfl (nX3 hL hi) ?_
    rw [gX3 (xs := xs) hL hi]
    have hM1 := hM.fr f1 (by decide)
    have hC1 : LC O ws vs tx kind c pk p q σ1 := ⟨s1, g8.fr f1 (by decide) (by decide), g0.fr f1 (by decide) (by decide), br.fr f1 (by decide), t0.fr f1 (by decide) (by decide), ch.fr f1 (by rcases hO with rfl | rfl <;> decide) (by rcases hO with rfl | rfl <;> decide) (by rcases hO with rfl | rfl <;> decide) (by rcases hO with rfl | rfl <;> decide)⟩
    refine V.cv (lo := 54) (d' := d - 1) rfl rfl ok_X9_good lk_10_X9_good rfl rfl rfl hn (by omega) (Nat.le_refl _) hnn (m_good hn (by omega) zz_b zz_b zz_b (fun N h => roadL_pos h) (fun bad => absurd gd bad) (fun _ σ2 f2 e2 => ?_))
    refine V.brT rfl rfl ?_
    exact next hO ((ht.fr f1 (by decide) (by decide) (by decide)).fr f2 (by decide) (by decide) (by decide)) (hC1.fr f2 hO (by decide)) (hM1.keep (fun j hj => e2 j (by omega) (by omega)) (f2 36 (by decide)) (f2 37 (by decide)) (f2 38 (by decide))) hg
set_option maxRecDepth 100000 in
theorem L_roadT (hn : 54 ≤ n) (hnn : n ≤ n1) (hd : 48 ≤ d) (hL : L ≤ 2560) (hi : 5 * i + 5 ≤ L) (hO : O = 27 ∨ O = 31) (ht : treeS n tr σ) (hC : LC O ws vs tx kind c pk p q σ) (hM : LM gs tx kind c p q σ) (hg : gsR gs ws) (h58 : n1 = 58) (gd : A_isRoad (zz xs (5 * i + 1)) (zz xs (5 * i + 2)) (zz xs (5 * i + 3))) (h3 : (zz xs (5 * i + 1)) = 3) (next : LK d n1 L xs Q i 58) : V M_L_law d 0 n1 (some (L, xs)) Q n (rho O (58 - O) tr) σ 360 [some (.ref 0), some (.ref 1), some (.ref 35), some (.int (iZ ((5 * i : Nat) : Int)))] [] := by
  obtain ⟨s0, g8, g0, br, t0, ch⟩ := id hC
  obtain ⟨go, pr, te, ca⟩ := id hM
  refine V.run 0 54 rfl hn trivial ?_
  refine V.sld rfl rfl rfl (nX1 hL hi) ?_
  rw [gX1 (xs := xs) hL hi]
  refine V.run 0 54 rfl hn trivial ?_
  refine V.sld rfl rfl rfl (nX2 hL hi) ?_
  rw [gX2 (xs := xs) hL hi]
  refine V.run 0 54 rfl hn trivial ?_
  refine V.sld rfl rfl rfl (nX3 hL hi) ?_
  rw [gX3 (xs := xs) hL hi]
  have le58 : n ≤ 58 := by rcases ht with ⟨h, -⟩ | ⟨h, -⟩ <;> omega
  have n58 : 58 ≤ n1 := by omega
  refine V.cv (lo := 54) (d' := d - 1) (n' := 58) rfl rfl ok_X8_road lk_10_X8_road rfl rfl rfl hn (by omega) le58 n58 (c_roadU (by omega) h3 zz_b zz_b gd ht (fun σ1 p1 f1 => ?_))
  have hn : 54 ≤ 58 := by omega
  have hnn : 58 ≤ n1 := n58
  refine V.run 0 54 rfl hn trivial ?_
  refine V.sld rfl rfl rfl (nX1 hL hi) ?_
  rw [gX1 (xs := xs) hL hi]
  refine V.run 0 54 rfl hn trivial ?_
  refine V.sld rfl rfl rfl (nX2 hL hi) ?_
  rw [gX2 (xs := xs) hL hi]
  refine V.run 0 54 rfl hn trivial ?_
  refine V.sld rfl rfl rfl (nX3 hL hi) ?_
  rw [gX3 (xs := xs) hL hi]
  have hM1 := hM.fr f1 (by decide)
  have hC1 : LC O ws vs tx kind c pk p q σ1 := ⟨s0.fr f1 (by decide), g8.fr f1 (by decide) (by decide), g0.fr f1 (by decide) (by decide), br.fr f1 (by decide), t0.fr f1 (by decide) (by decide), ch.fr f1 (by rcases hO with rfl | rfl <;> decide) (by rcases hO with rfl | rfl <;> decide) (by rcases hO with rfl | rfl <;> decide) (by rcases hO with rfl | rfl <;> decide)⟩
  refine V.cv (lo := 54) (d' := d - 1) rfl rfl ok_X9_road lk_10_X9_road rfl rfl rfl hn (by omega) (Nat.le_refl _) hnn (m_road hn (by omega) zz_b zz_b zz_b (fun bad => absurd gd bad) (fun _ σ2 f2 => ?_))
  refine V.brT rfl rfl ?_
  exact next hO (Or.inr ⟨rfl, rfl, p1.fr f2.1 (by decide) (by decide) (by decide)⟩) (hC1.fr f2.1 hO (by decide)) (hM1.keep (fun j hj => f2.2 j (by omega) (by omega)) (f2.1 36 (by decide)) (f2.1 37 (by decide)) (f2.1 38 (by decide))) hg
set_option maxRecDepth 100000 in
theorem L_stepT (hn : 54 ≤ n) (hnn : n ≤ n1) (hd : 48 ≤ d) (hL : L ≤ 2560) (hi : 5 * i + 5 ≤ L) (hO : O = 27 ∨ O = 31) (ht : treeS n tr σ) (hC : LC O ws vs tx kind c pk p q σ) (hM : LM gs tx kind c p q σ) (hg : gsR gs ws) (h58 : n1 = 58) (gd : A_isRoad (zz xs (5 * i + 1)) (zz xs (5 * i + 2)) (zz xs (5 * i + 3)) ∧ 0 ≤ (zz xs (5 * i + 4))) (h3 : (zz xs (5 * i + 1)) = 3) (next : LK d n1 L xs Q i 58) : V M_L_law d 0 n1 (some (L, xs)) Q n (rho O (58 - O) tr) σ 403 [some (.ref 0), some (.ref 1), some (.ref 35), some (.int (iZ ((5 * i : Nat) : Int)))] [] := by
  obtain ⟨s0, g8, g0, br, t0, ch⟩ := id hC
  obtain ⟨go, pr, te, ca⟩ := id hM
  refine V.run 0 54 rfl hn trivial ?_
  refine V.sld rfl rfl rfl (nX1 hL hi) ?_
  rw [gX1 (xs := xs) hL hi]
  refine V.run 0 54 rfl hn trivial ?_
  refine V.sld rfl rfl rfl (nX2 hL hi) ?_
  rw [gX2 (xs := xs) hL hi]
  refine V.run 0 54 rfl hn trivial ?_
  refine V.sld rfl rfl rfl (nX3 hL hi) ?_
  rw [gX3 (xs := xs) hL hi]
  refine V.run 0 54 rfl hn trivial ?_
  refine V.sld rfl rfl rfl (nX4 hL hi) ?_
  rw [gX4 (xs := xs) hL hi]
  have le58 : n ≤ 58 := by rcases ht with ⟨h, -⟩ | ⟨h, -⟩ <;> omega
  have n58 : 58 ≤ n1 := by omega
  refine V.cv (lo := 54) (d' := d - 1) (n' := 58) rfl rfl ok_X8_step lk_10_X8_step rfl rfl rfl hn (by omega) le58 n58 (c_stepU (by omega) h3 zz_b zz_b ⟨gd.2, zz_b.2⟩ gd.1 ht (fun σ1 p1 f1 => ?_))
  have hn : 54 ≤ 58 := by omega
  have hnn : 58 ≤ n1 := n58
  refine V.run 0 54 rfl hn trivial ?_
  refine V.sld rfl rfl rfl (nX1 hL hi) ?_
  rw [gX1 (xs := xs) hL hi]
  refine V.run 0 54 rfl hn trivial ?_
  refine V.sld rfl rfl rfl (nX2 hL hi) ?_
  rw [gX2 (xs := xs) hL hi]
  refine V.run 0 54 rfl hn trivial ?_
  refine V.sld rfl rfl rfl (nX3 hL hi) ?_
  rw [gX3 (xs := xs) hL hi]
  refine V.run 0 54 rfl hn trivial ?_
  refine V.sld rfl rfl rfl (nX4 hL hi) ?_
  rw [gX4 (xs := xs) hL hi]
  have hM1 := hM.fr f1 (by decide)
  have hC1 : LC O ws vs tx kind c pk p q σ1 := ⟨s0.fr f1 (by decide), g8.fr f1 (by decide) (by decide), g0.fr f1 (by decide) (by decide), br.fr f1 (by decide), t0.fr f1 (by decide) (by decide), ch.fr f1 (by rcases hO with rfl | rfl <;> decide) (by rcases hO with rfl | rfl <;> decide) (by rcases hO with rfl | rfl <;> decide) (by rcases hO with rfl | rfl <;> decide)⟩
  refine V.cv (lo := 54) (d' := d - 1) rfl rfl ok_X9_step lk_10_X9_step rfl rfl rfl hn (by omega) (Nat.le_refl _) hnn (m_step hn (by omega) zz_b zz_b zz_b zz_b (fun bad => absurd gd bad) (fun _ σ2 f2 => ?_))
  refine V.brT rfl rfl ?_
  exact next hO (Or.inr ⟨rfl, rfl, p1.fr f2.1 (by decide) (by decide) (by decide)⟩) (hC1.fr f2.1 hO (by decide)) (hM1.keep (fun j hj => f2.2 j (by omega) (by omega)) (f2.1 36 (by decide)) (f2.1 37 (by decide)) (f2.1 38 (by decide))) hg
set_option maxRecDepth 100000 in
theorem L_goodT (hn : 54 ≤ n) (hnn : n ≤ n1) (hd : 48 ≤ d) (hL : L ≤ 2560) (hi : 5 * i + 5 ≤ L) (hO : O = 27 ∨ O = 31) (ht : treeS n tr σ) (hC : LC O ws vs tx kind c pk p q σ) (hM : LM gs tx kind c p q σ) (hg : gsR gs ws) (h58 : n1 = 58) (gd : A_isGood (zz xs (5 * i + 1)) (zz xs (5 * i + 2)) (zz xs (5 * i + 3))) (h3 : (zz xs (5 * i + 1)) = 3) (next : LK d n1 L xs Q i 58) : V M_L_law d 0 n1 (some (L, xs)) Q n (rho O (58 - O) tr) σ 456 [some (.ref 0), some (.ref 1), some (.ref 35), some (.int (iZ ((5 * i : Nat) : Int)))] [] := by
  obtain ⟨s0, g8, g0, br, t0, ch⟩ := id hC
  obtain ⟨go, pr, te, ca⟩ := id hM
  refine V.run 0 54 rfl hn trivial ?_
  refine V.sld rfl rfl rfl (nX1 hL hi) ?_
  rw [gX1 (xs := xs) hL hi]
  refine V.run 0 54 rfl hn trivial ?_
  refine V.sld rfl rfl rfl (nX2 hL hi) ?_
  rw [gX2 (xs := xs) hL hi]
  refine V.run 0 54 rfl hn trivial ?_
  refine V.sld rfl rfl rfl (nX3 hL hi) ?_
  rw [gX3 (xs := xs) hL hi]
  have le58 : n ≤ 58 := by rcases ht with ⟨h, -⟩ | ⟨h, -⟩ <;> omega
  have n58 : 58 ≤ n1 := by omega
  refine V.cv (lo := 54) (d' := d - 1) (n' := 58) rfl rfl ok_X8_good lk_10_X8_good rfl rfl rfl hn (by omega) le58 n58 (c_goodU (by omega) h3 zz_b zz_b s0 ht gd (fun σ1 s1 p1 f1 => ?_))
  have hn : 54 ≤ 58 := by omega
  have hnn : 58 ≤ n1 := n58
  refine V.run 0 54 rfl hn trivial ?_
  refine V.sld rfl rfl rfl (nX1 hL hi) ?_
  rw [gX1 (xs := xs) hL hi]
  refine V.run 0 54 rfl hn trivial ?_
  refine V.sld rfl rfl rfl (nX2 hL hi) ?_
  rw [gX2 (xs := xs) hL hi]
  refine V.run 0 54 rfl hn trivial ?_
  refine V.sld rfl rfl rfl (nX3 hL hi) ?_
  rw [gX3 (xs := xs) hL hi]
  have hM1 := hM.fr f1 (by decide)
  have hC1 : LC O ws vs tx kind c pk p q σ1 := ⟨s1, g8.fr f1 (by decide) (by decide), g0.fr f1 (by decide) (by decide), br.fr f1 (by decide), t0.fr f1 (by decide) (by decide), ch.fr f1 (by rcases hO with rfl | rfl <;> decide) (by rcases hO with rfl | rfl <;> decide) (by rcases hO with rfl | rfl <;> decide) (by rcases hO with rfl | rfl <;> decide)⟩
  refine V.cv (lo := 54) (d' := d - 1) rfl rfl ok_X9_good lk_10_X9_good rfl rfl rfl hn (by omega) (Nat.le_refl _) hnn (m_good hn (by omega) zz_b zz_b zz_b (fun N h => roadL_pos h) (fun bad => absurd gd bad) (fun _ σ2 f2 e2 => ?_))
  refine V.brT rfl rfl ?_
  exact next hO (Or.inr ⟨rfl, rfl, p1.fr f2 (by decide) (by decide) (by decide)⟩) (hC1.fr f2 hO (by decide)) (hM1.keep (fun j hj => e2 j (by omega) (by omega)) (f2 36 (by decide)) (f2 37 (by decide)) (f2 38 (by decide))) hg
end LW1
