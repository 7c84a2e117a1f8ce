/-! ===== the law: the calls, second part ===== -/
set_option maxRecDepth 100000 in
theorem w_kl : inB (.constantLong (RN 10) 70 (4294967295 : Int64)) = true := inB_at 1051 (by decide +kernel) (by decide +kernel)
section LDC
variable {M : MC} {d n0 n1 : Nat} {sc : Option (Nat × (Nat → Int32))} {Q : PQ} {n : Nat} {ρ : Ref} {σ : Mem} {pc : Nat} {lv : LV} {st : List Value} {idx : Nat}
theorem V.ldcL {x : Int64} (hd : hdT pc M.2.2.2.1 = some (.ldc2_w idx, 3)) (hw : inB (.constantLong (RN M.2.1) idx x) = true) (kk : V M d n0 n1 sc Q n ρ σ (pc + 3) lv (.long x :: st)) : V M d n0 n1 sc Q n ρ σ pc lv st := by
  intro hT p l e R s m args below meth c G B b cy D hC H locs ls hD
  have K := kk hT p l e R s m args below meth c G B b cy D hC H locs ls hD
  obtain ⟨hx, hb, hml, hown, hts, hR, hsz, hK, hNK, hsc, hini, hfin⟩ := hC
  exact lv_ldc2 hx hb hown (hts _ (inB_ok hw)) (hdT_ok hT hd) K
end LDC
section LW2
variable {d n n1 L i O tr : Nat} {xs : Nat → Int32} {Q : PQ} {σ : Mem} {ws vs tx c gs : List Nat} {kind p q : Nat} {pk : Nat → Nat × Nat}
set_option maxRecDepth 100000 in
theorem L_price (hn : 54 ≤ n) (hnn : n ≤ n1) (hd : 48 ≤ d) (hL : L ≤ 2560) (hi : 5 * i + 5 ≤ L) (hO : O = 27 ∨ O = 31) (ht : treeS n tr σ) (hC : LC O ws vs tx kind c pk p q σ) (hM : LM gs tx kind c p q σ) (hg : gsR gs ws) (next : LK d n1 L xs Q i n) : V M_L_law d 0 n1 (some (L, xs)) Q n (rho O (58 - O) tr) σ 499 [some (.ref 0), some (.ref 1), some (.ref 35), some (.int (iZ ((5 * i : Nat) : Int)))] [] := by
  obtain ⟨s0, g8, g0, br, t0, ch⟩ := id hC
  obtain ⟨go, pr, te, ca⟩ := id hM
  refine V.run 0 54 rfl hn trivial ?_
  refine V.sld rfl rfl rfl (nX1 hL hi) ?_
  rw [gX1 (xs := xs) hL hi]
  refine V.run 0 54 rfl hn trivial ?_
  refine V.sld rfl rfl rfl (nX2 hL hi) ?_
  rw [gX2 (xs := xs) hL hi]
  refine V.cv (lo := 54) (d' := d - 1) rfl rfl ok_X8_price lk_10_X8_price rfl rfl rfl hn (by omega) (Nat.le_refl _) hnn (c_price hn (by omega) zz_b zz_b br (fun bad => ?_) (fun e gd σ1 b1 f1 => ?_) (fun e gd σ1 b1 f1 => ?_))
  · refine V.run 0 54 rfl hn trivial ?_
    refine V.sld rfl rfl rfl (nX1 hL hi) ?_
    rw [gX1 (xs := xs) hL hi]
    refine V.run 0 54 rfl hn trivial ?_
    refine V.sld rfl rfl rfl (nX2 hL hi) ?_
    rw [gX2 (xs := xs) hL hi]
    refine V.cv (lo := 54) (d' := d - 1) rfl rfl ok_X9_price lk_10_X9_price rfl rfl rfl hn (by omega) (Nat.le_refl _) hnn (m_price hn (by omega) zz_b zz_b pr (fun _ => ?_) (fun e g => absurd ⟨⟨by omega, by omega⟩, g⟩ bad) (fun e g => absurd ⟨⟨by omega, by omega⟩, g⟩ bad))
    refine V.brT rfl rfl ?_
    exact next hO ht hC hM hg
  · refine V.run 0 54 rfl hn trivial ?_
    refine V.sld rfl rfl rfl (nX1 hL hi) ?_
    rw [gX1 (xs := xs) hL hi]
    refine V.run 0 54 rfl hn trivial ?_
    refine V.sld rfl rfl rfl (nX2 hL hi) ?_
    rw [gX2 (xs := xs) hL hi]
    have hM1 := hM.fr f1 (by decide)
    refine V.cv (lo := 54) (d' := d - 1) rfl rfl ok_X9_price lk_10_X9_price rfl rfl rfl hn (by omega) (Nat.le_refl _) hnn (m_price hn (by omega) zz_b zz_b hM1.2.1 (fun bad => absurd ⟨⟨by omega, by omega⟩, gd⟩ bad) (fun _ _ => ?_) (fun e2 _ => by omega))
    refine V.brT rfl rfl ?_
    have f2 : Fr [35] σ1 (up σ1 35 2 (iZ (zz xs (5 * i + 2)))) := Fr.put (by simp)
    have e2 : ∀ j, j ≠ 2 → up σ1 35 2 (iZ (zz xs (5 * i + 2))) 35 j = σ1 35 j := fun j hj => up_nat hj
    have hC1 : LC O ws vs tx kind c pk ((zz xs (5 * i + 2)).toNat) q σ1 := ⟨s0.fr f1 (by decide), g8.fr f1 (by decide) (by decide), g0.fr f1 (by decide) (by decide), b1, t0.fr f1 (by decide) (by decide), ch.fr f1 (by rcases hO with rfl | rfl <;> decide) (by rcases hO with rfl | rfl <;> decide) (by rcases hO with rfl | rfl <;> decide) (by rcases hO with rfl | rfl <;> decide)⟩
    have eZ : iZ (zz xs (5 * i + 2)) = iZ (((zz xs (5 * i + 2)).toNat : Nat) : Int) := iZ_pat (by omega)
    have hp := hM1.2.1
    exact next hO ((ht.fr f1 (by decide) (by decide) (by decide)).fr f2 (by decide) (by decide) (by decide)) (hC1.fr f2 hO (by decide)) ⟨hM1.1.k (e2 0 (by decide)) (f2 36 (by decide)), ⟨by rw [up_at]; exact eZ, (e2 3 (by decide)).trans hp.2.1, by omega, hp.2.2.2⟩, hM1.2.2.1.k (e2 4 (by decide)) (f2 37 (by decide)), hM1.2.2.2.k (e2 6 (by decide)) (e2 7 (by decide)) (f2 38 (by decide))⟩ hg
  · refine V.run 0 54 rfl hn trivial ?_
    refine V.sld rfl rfl rfl (nX1 hL hi) ?_
    rw [gX1 (xs := xs) hL hi]
    refine V.run 0 54 rfl hn trivial ?_
    refine V.sld rfl rfl rfl (nX2 hL hi) ?_
    rw [gX2 (xs := xs) hL hi]
    have hM1 := hM.fr f1 (by decide)
    refine V.cv (lo := 54) (d' := d - 1) rfl rfl ok_X9_price lk_10_X9_price rfl rfl rfl hn (by omega) (Nat.le_refl _) hnn (m_price hn (by omega) zz_b zz_b hM1.2.1 (fun bad => absurd ⟨⟨by omega, by omega⟩, gd⟩ bad) (fun e2 _ => by omega) (fun _ _ => ?_))
    refine V.brT rfl rfl ?_
    have f2 : Fr [35] σ1 (up σ1 35 3 (iZ (zz xs (5 * i + 2)))) := Fr.put (by simp)
    have e2 : ∀ j, j ≠ 3 → up σ1 35 3 (iZ (zz xs (5 * i + 2))) 35 j = σ1 35 j := fun j hj => up_nat hj
    have hC1 : LC O ws vs tx kind c pk p ((zz xs (5 * i + 2)).toNat) σ1 := ⟨s0.fr f1 (by decide), g8.fr f1 (by decide) (by decide), g0.fr f1 (by decide) (by decide), b1, t0.fr f1 (by decide) (by decide), ch.fr f1 (by rcases hO with rfl | rfl <;> decide) (by rcases hO with rfl | rfl <;> decide) (by rcases hO with rfl | rfl <;> decide) (by rcases hO with rfl | rfl <;> decide)⟩
    have eZ : iZ (zz xs (5 * i + 2)) = iZ (((zz xs (5 * i + 2)).toNat : Nat) : Int) := iZ_pat (by omega)
    have hp := hM1.2.1
    exact next hO ((ht.fr f1 (by decide) (by decide) (by decide)).fr f2 (by decide) (by decide) (by decide)) (hC1.fr f2 hO (by decide)) ⟨hM1.1.k (e2 0 (by decide)) (f2 36 (by decide)), ⟨(e2 2 (by decide)).trans hp.1, by rw [up_at]; exact eZ, hp.2.2.1, by omega⟩, hM1.2.2.1.k (e2 4 (by decide)) (f2 37 (by decide)), hM1.2.2.2.k (e2 6 (by decide)) (e2 7 (by decide)) (f2 38 (by decide))⟩ hg
set_option maxRecDepth 100000 in
theorem L_cheapest (hn : 54 ≤ n) (hnn : n ≤ n1) (hd : 48 ≤ d) (hL : L ≤ 2560) (hi : 5 * i + 5 ≤ L) (hO : O = 27 ∨ O = 31) (ht : treeS n tr σ) (hC : LC O ws vs tx kind c pk p q σ) (hM : LM gs tx kind c p q σ) (hg : gsR gs ws) (next : LK d n1 L xs Q i n) : V M_L_law d 0 n1 (some (L, xs)) Q n (rho O (58 - O) tr) σ 532 [some (.ref 0), some (.ref 1), some (.ref 35), some (.int (iZ ((5 * i : Nat) : Int)))] [] := by
  obtain ⟨s0, g8, g0, br, t0, ch⟩ := id hC
  obtain ⟨go, pr, te, ca⟩ := id hM
  refine V.run 0 54 rfl hn trivial ?_
  refine V.sld rfl rfl rfl (nX1 hL hi) ?_
  rw [gX1 (xs := xs) hL hi]
  refine V.cv (lo := 54) (d' := d - 1) rfl rfl ok_X8_cheapest lk_10_X8_cheapest rfl rfl rfl hn (by omega) (Nat.le_refl _) hnn (c_cheapest hn (by omega) zz_b br s0.1 (fun bad => ?_) (fun gd σ1 b1 t1 f1 => ?_))
  · refine V.run 0 54 rfl hn trivial ?_
    refine V.sld rfl rfl rfl (nX1 hL hi) ?_
    rw [gX1 (xs := xs) hL hi]
    refine V.cv (lo := 54) (d' := d - 1) rfl rfl ok_X9_cheapest lk_10_X9_cheapest rfl rfl rfl hn (by omega) (Nat.le_refl _) hnn (m_cheapest (E := 0) hn (by omega) zz_b pr (fun _ => ?_) (fun g => absurd g bad) (fun g => absurd g bad))
    refine V.brT rfl rfl ?_
    exact next hO ht hC hM hg
  · refine V.run 0 54 rfl hn trivial ?_
    refine V.sld rfl rfl rfl (nX1 hL hi) ?_
    rw [gX1 (xs := xs) hL hi]
    have hM1 := hM.fr f1 (by decide)
    have hC1 : LC O ws vs tx kind c pk p q σ1 := ⟨s0.tr t1 (fun a h1 h2 => f1 a (by simp; omega)), g8.fr f1 (by decide) (by decide), g0.fr f1 (by decide) (by decide), b1, t0.fr f1 (by decide) (by decide), ch.fr f1 (by rcases hO with rfl | rfl <;> decide) (by rcases hO with rfl | rfl <;> decide) (by rcases hO with rfl | rfl <;> decide) (by rcases hO with rfl | rfl <;> decide)⟩
    refine V.cv (lo := 54) (d' := d - 1) rfl rfl ok_X9_cheapest lk_10_X9_cheapest rfl rfl rfl hn (by omega) (Nat.le_refl _) hnn (m_cheapest (E := A_chp p q (zz xs (5 * i + 1)).toNat) hn (by omega) zz_b hM1.2.1 (fun bad => absurd gd bad) (fun g => A_chp_isE br.2.2 (by omega)) (fun _ σ2 f2 => ?_))
    refine V.brT rfl rfl ?_
    exact next hO ((ht.fr f1 (by decide) (by decide) (by decide)).fr f2 (by decide) (by decide) (by decide)) (hC1.fr f2 hO (by decide)) (hM1.fr f2 (by decide)) hg
set_option maxRecDepth 100000 in
theorem L_write (hn : 54 ≤ n) (hnn : n ≤ n1) (hd : 48 ≤ d) (hL : L ≤ 2560) (hi : 5 * i + 5 ≤ L) (hO : O = 27 ∨ O = 31) (ht : treeS n tr σ) (hC : LC O ws vs tx kind c pk p q σ) (hM : LM gs tx kind c p q σ) (hg : gsR gs ws) (next : LK d n1 L xs Q i n) : V M_L_law d 0 n1 (some (L, xs)) Q n (rho O (58 - O) tr) σ 555 [some (.ref 0), some (.ref 1), some (.ref 35), some (.int (iZ ((5 * i : Nat) : Int)))] [] := by
  obtain ⟨s0, g8, g0, br, t0, ch⟩ := id hC
  obtain ⟨go, pr, te, ca⟩ := id hM
  refine V.run 0 54 rfl hn trivial ?_
  refine V.sld rfl rfl rfl (nX1 hL hi) ?_
  rw [gX1 (xs := xs) hL hi]
  refine V.run 0 54 rfl hn trivial ?_
  refine V.sld rfl rfl rfl (nX2 hL hi) ?_
  rw [gX2 (xs := xs) hL hi]
  refine V.run 0 54 rfl hn trivial ?_
  refine V.sld rfl rfl rfl (nX3 hL hi) ?_
  rw [gX3 (xs := xs) hL hi]
  refine V.run 0 54 rfl hn trivial ?_
  refine V.ldcL rfl w_kl ?_
  refine V.run 0 54 rfl hn trivial ?_
  refine V.cv (lo := 54) (d' := d - 1) rfl rfl ok_X8_write lk_10_X8_write rfl rfl rfl hn (by omega) (Nat.le_refl _) hnn (c_write hn (by omega) zz_b t0 (fun bad => ?_) (fun gd full => ?_) (fun gd room σ1 t1 f1 => ?_))
  · refine V.run 0 54 rfl hn trivial ?_
    refine V.sld rfl rfl rfl (nX1 hL hi) ?_
    rw [gX1 (xs := xs) hL hi]
    refine V.run 0 54 rfl hn trivial ?_
    refine V.sld rfl rfl rfl (nX2 hL hi) ?_
    rw [gX2 (xs := xs) hL hi]
    refine V.run 0 54 rfl hn trivial ?_
    refine V.sld rfl rfl rfl (nX3 hL hi) ?_
    rw [gX3 (xs := xs) hL hi]
    refine V.run 0 54 rfl hn trivial ?_
    refine V.ldcL rfl w_kl ?_
    refine V.run 0 54 rfl hn trivial ?_
    refine V.cv (lo := 54) (d' := d - 1) rfl rfl ok_X9_write lk_10_X9_write rfl rfl rfl hn (by omega) (Nat.le_refl _) hnn (m_write hn (by omega) zz_b te (fun _ => ?_) (fun g => absurd g bad) (fun g => absurd g bad))
    refine V.brT rfl rfl ?_
    exact next hO ht hC hM hg
  · refine V.run 0 54 rfl hn trivial ?_
    refine V.sld rfl rfl rfl (nX1 hL hi) ?_
    rw [gX1 (xs := xs) hL hi]
    refine V.run 0 54 rfl hn trivial ?_
    refine V.sld rfl rfl rfl (nX2 hL hi) ?_
    rw [gX2 (xs := xs) hL hi]
    refine V.run 0 54 rfl hn trivial ?_
    refine V.sld rfl rfl rfl (nX3 hL hi) ?_
    rw [gX3 (xs := xs) hL hi]
    refine V.run 0 54 rfl hn trivial ?_
    refine V.ldcL rfl w_kl ?_
    refine V.run 0 54 rfl hn trivial ?_
    refine V.cv (lo := 54) (d' := d - 1) rfl rfl ok_X9_write lk_10_X9_write rfl rfl rfl hn (by omega) (Nat.le_refl _) hnn (m_write hn (by omega) zz_b te (fun bad => absurd gd bad) (fun _ _ => ?_) (fun _ r => by omega))
    refine V.brT rfl rfl ?_
    exact next hO ht hC hM hg
  · refine V.run 0 54 rfl hn trivial ?_
    refine V.sld rfl rfl rfl (nX1 hL hi) ?_
    rw [gX1 (xs := xs) hL hi]
    refine V.run 0 54 rfl hn trivial ?_
    refine V.sld rfl rfl rfl (nX2 hL hi) ?_
    rw [gX2 (xs := xs) hL hi]
    refine V.run 0 54 rfl hn trivial ?_
    refine V.sld rfl rfl rfl (nX3 hL hi) ?_
    rw [gX3 (xs := xs) hL hi]
    refine V.run 0 54 rfl hn trivial ?_
    refine V.ldcL rfl w_kl ?_
    refine V.run 0 54 rfl hn trivial ?_
    have hM1 := hM.fr f1 (by decide)
    refine V.cv (lo := 54) (d' := d - 1) rfl rfl ok_X9_write lk_10_X9_write rfl rfl rfl hn (by omega) (Nat.le_refl _) hnn (m_write hn (by omega) zz_b hM1.2.2.1 (fun bad => absurd gd bad) (fun _ r => by omega) (fun _ _ σ2 t2 f2 e2 => ?_))
    refine V.brT rfl rfl ?_
    have hC1 := (show LC O ws vs _ kind c pk p q σ1 from ⟨s0.fr f1 (by decide), g8.fr f1 (by decide) (by decide), g0.fr f1 (by decide) (by decide), br.fr f1 (by decide), t1, ch.fr f1 (by rcases hO with rfl | rfl <;> decide) (by rcases hO with rfl | rfl <;> decide) (by rcases hO with rfl | rfl <;> decide) (by rcases hO with rfl | rfl <;> decide)⟩)
    exact next hO ((ht.fr f1 (by decide) (by decide) (by decide)).fr f2 (by decide) (by decide) (by decide)) (hC1.fr f2 hO (by decide)) ⟨hM1.1.k (e2 0 (by decide)) (f2 36 (by decide)), hM1.2.1.k (e2 2 (by decide)) (e2 3 (by decide)), t2, hM1.2.2.2.k (e2 6 (by decide)) (e2 7 (by decide)) (f2 38 (by decide))⟩ hg
set_option maxRecDepth 100000 in
theorem L_wipe (hn : 54 ≤ n) (hnn : n ≤ n1) (hd : 48 ≤ d) (hL : L ≤ 2560) (hi : 5 * i + 5 ≤ L) (hO : O = 27 ∨ O = 31) (ht : treeS n tr σ) (hC : LC O ws vs tx kind c pk p q σ) (hM : LM gs tx kind c p q σ) (hg : gsR gs ws) (next : LK d n1 L xs Q i n) : V M_L_law d 0 n1 (some (L, xs)) Q n (rho O (58 - O) tr) σ 618 [some (.ref 0), some (.ref 1), some (.ref 35), some (.int (iZ ((5 * i : Nat) : Int)))] [] := by
  obtain ⟨s0, g8, g0, br, t0, ch⟩ := id hC
  obtain ⟨go, pr, te, ca⟩ := id hM
  refine V.run 0 54 rfl hn trivial ?_
  refine V.cv (lo := 54) (d' := d - 1) rfl rfl ok_X8_wipe lk_10_X8_wipe rfl rfl rfl hn (by omega) (Nat.le_refl _) hnn (c_wipe hn (by omega) t0 (fun σ1 t1 f1 => ?_))
  refine V.run 0 54 rfl hn trivial ?_
  have hM1 := hM.fr f1 (by decide)
  refine V.cv (lo := 54) (d' := d - 1) rfl rfl ok_X9_wipe lk_10_X9_wipe rfl rfl rfl hn (by omega) (Nat.le_refl _) hnn (m_wipe hn hM1.2.2.1 (fun σ2 t2 f2 e2 => ?_))
  refine V.brT rfl rfl ?_
  have hC1 : LC O ws vs [] kind c pk p q σ1 := ⟨s0.fr f1 (by decide), g8.fr f1 (by decide) (by decide), g0.fr f1 (by decide) (by decide), br.fr f1 (by decide), t1, ch.fr f1 (by rcases hO with rfl | rfl <;> decide) (by rcases hO with rfl | rfl <;> decide) (by rcases hO with rfl | rfl <;> decide) (by rcases hO with rfl | rfl <;> decide)⟩
  exact next hO ((ht.fr f1 (by decide) (by decide) (by decide)).fr f2 (by decide) (by decide) (by decide)) (hC1.fr f2 hO (by decide)) ⟨hM1.1.k (e2 0 (by decide)) (f2 36 (by decide)), hM1.2.1.k (e2 2 (by decide)) (e2 3 (by decide)), t2, hM1.2.2.2.k (e2 6 (by decide)) (e2 7 (by decide)) (f2 38 (by decide))⟩ hg
set_option maxRecDepth 100000 in
theorem L_fault (hn : 54 ≤ n) (hnn : n ≤ n1) (hd : 48 ≤ d) (hL : L ≤ 2560) (hi : 5 * i + 5 ≤ L) (hO : O = 27 ∨ O = 31) (ht : treeS n tr σ) (hC : LC O ws vs tx kind c pk p q σ) (hM : LM gs tx kind c p q σ) (hg : gsR gs ws) (next : LK d n1 L xs Q i n) : V M_L_law d 0 n1 (some (L, xs)) Q n (rho O (58 - O) tr) σ 631 [some (.ref 0), some (.ref 1), some (.ref 35), some (.int (iZ ((5 * i : Nat) : Int)))] [] := by
  obtain ⟨s0, g8, g0, br, t0, ch⟩ := id hC
  obtain ⟨go, pr, te, ca⟩ := id hM
  rcases hO with rfl | rfl
  · have hO : 27 = 27 ∨ 27 = 31 := Or.inl rfl
    refine V.run 0 54 rfl hn trivial ?_
    refine V.sld rfl rfl rfl (nX1 hL hi) ?_
    rw [gX1 (xs := xs) hL hi]
    refine V.cv (lo := 54) (d' := d - 1) rfl rfl ok_X8_fault lk_10_X8_fault rfl rfl rfl hn (by omega) (Nat.le_refl _) hnn (c_fault_27 hn (by omega) zz_b t0 (fun bad => ?_) (fun gd σ1 res rf r1 f1 => ?_))
    · refine V.run 0 54 rfl hn trivial ?_
      refine V.sld rfl rfl rfl (nX1 hL hi) ?_
      rw [gX1 (xs := xs) hL hi]
      refine V.cv (lo := 54) (d' := d - 1) rfl rfl ok_X9_fault lk_10_X9_fault rfl rfl rfl hn (by omega) (Nat.le_refl _) hnn (m_fault hn (by omega) zz_b te (fun _ => ?_) (fun g => absurd g bad))
      refine V.brT rfl rfl ?_
      exact next hO ht hC hM hg
    · refine V.run 0 54 rfl hn trivial ?_
      refine V.sld rfl rfl rfl (nX1 hL hi) ?_
      rw [gX1 (xs := xs) hL hi]
      have hM1 := hM.fr f1 (by decide)
      refine V.cv (lo := 54) (d' := d - 1) rfl rfl ok_X9_fault lk_10_X9_fault rfl rfl rfl hn (by omega) (Nat.le_refl _) hnn (m_fault hn (by omega) zz_b hM1.2.2.1 (fun bad => absurd gd bad) (fun _ σ2 res2 rf2 r2 f2 => ?_))
      refine V.brT rfl (by rw [(rdP_one r1 r2).1]) ?_
      have hC1 : LC 27 ws vs tx kind c pk p q σ1 := ⟨s0.fr f1 (by decide), g8.fr f1 (by decide) (by decide), g0.fr f1 (by decide) (by decide), br.fr f1 (by decide), t0.fr f1 (by decide) (by decide), ch.fr f1 (by decide) (by decide) (by decide) (by decide)⟩
      exact next hO ((ht.fr f1 (by decide) (by decide) (by decide)).fr f2.1 (by decide) (by decide) (by decide)) (hC1.fr f2.1 hO (by decide)) (hM1.keep (fun j hj => f2.2 j (by omega) (by omega) (by omega)) (f2.1 36 (by decide)) (f2.1 37 (by decide)) (f2.1 38 (by decide))) hg
  · have hO : 31 = 27 ∨ 31 = 31 := Or.inr rfl
    refine V.run 0 54 rfl hn trivial ?_
    refine V.sld rfl rfl rfl (nX1 hL hi) ?_
    rw [gX1 (xs := xs) hL hi]
    refine V.cv (lo := 54) (d' := d - 1) rfl rfl ok_X8_fault lk_10_X8_fault rfl rfl rfl hn (by omega) (Nat.le_refl _) hnn (c_fault_31 hn (by omega) zz_b t0 (fun bad => ?_) (fun gd σ1 res rf r1 f1 => ?_))
    · refine V.run 0 54 rfl hn trivial ?_
      refine V.sld rfl rfl rfl (nX1 hL hi) ?_
      rw [gX1 (xs := xs) hL hi]
      refine V.cv (lo := 54) (d' := d - 1) rfl rfl ok_X9_fault lk_10_X9_fault rfl rfl rfl hn (by omega) (Nat.le_refl _) hnn (m_fault hn (by omega) zz_b te (fun _ => ?_) (fun g => absurd g bad))
      refine V.brT rfl rfl ?_
      exact next hO ht hC hM hg
    · refine V.run 0 54 rfl hn trivial ?_
      refine V.sld rfl rfl rfl (nX1 hL hi) ?_
      rw [gX1 (xs := xs) hL hi]
      have hM1 := hM.fr f1 (by decide)
      refine V.cv (lo := 54) (d' := d - 1) rfl rfl ok_X9_fault lk_10_X9_fault rfl rfl rfl hn (by omega) (Nat.le_refl _) hnn (m_fault hn (by omega) zz_b hM1.2.2.1 (fun bad => absurd gd bad) (fun _ σ2 res2 rf2 r2 f2 => ?_))
      refine V.brT rfl (by rw [(rdP_one r1 r2).1]) ?_
      have hC1 : LC 31 ws vs tx kind c pk p q σ1 := ⟨s0.fr f1 (by decide), g8.fr f1 (by decide) (by decide), g0.fr f1 (by decide) (by decide), br.fr f1 (by decide), t0.fr f1 (by decide) (by decide), ch.fr f1 (by decide) (by decide) (by decide) (by decide)⟩
      exact next hO ((ht.fr f1 (by decide) (by decide) (by decide)).fr f2.1 (by decide) (by decide) (by decide)) (hC1.fr f2.1 hO (by decide)) (hM1.keep (fun j hj => f2.2 j (by omega) (by omega) (by omega)) (f2.1 36 (by decide)) (f2.1 37 (by decide)) (f2.1 38 (by decide))) hg
set_option maxRecDepth 100000 in
theorem L_take (hn : 54 ≤ n) (hnn : n ≤ n1) (hd : 48 ≤ d) (hL : L ≤ 2560) (hi : 5 * i + 5 ≤ L) (hO : O = 27 ∨ O = 31) (ht : treeS n tr σ) (hC : LC O ws vs tx kind c pk p q σ) (hM : LM gs tx kind c p q σ) (hg : gsR gs ws) (next : LK d n1 L xs Q i n) : V M_L_law d 0 n1 (some (L, xs)) Q n (rho O (58 - O) tr) σ 654 [some (.ref 0), some (.ref 1), some (.ref 35), some (.int (iZ ((5 * i : Nat) : Int)))] [] := by
  obtain ⟨s0, g8, g0, br, t0, ch⟩ := id hC
  obtain ⟨go, pr, te, ca⟩ := id hM
  rcases hO with rfl | rfl
  · have hO : 27 = 27 ∨ 27 = 31 := Or.inl rfl
    refine V.run 0 54 rfl hn trivial ?_
    refine V.sld rfl rfl rfl (nX1 hL hi) ?_
    rw [gX1 (xs := xs) hL hi]
    refine V.cv (lo := 54) (d' := d - 1) rfl rfl ok_X8_take lk_10_X8_take rfl rfl rfl hn (by omega) (Nat.le_refl _) hnn (c_take_27 hn (by omega) zz_b t0 (fun bad => ?_) (fun gd σ1 res rf r1 ne f1 => ?_) (fun gd σ1 rf pk1 r1 c1 f1 => ?_))
    · refine V.run 0 54 rfl hn trivial ?_
      refine V.sld rfl rfl rfl (nX1 hL hi) ?_
      rw [gX1 (xs := xs) hL hi]
      refine V.cv (lo := 54) (d' := d - 1) rfl rfl ok_X9_take lk_10_X9_take rfl rfl rfl hn (by omega) (Nat.le_refl _) hnn (m_take hn (by omega) zz_b te (fun _ => ?_) (fun g => absurd g bad) (fun g => absurd g bad))
      refine V.brT rfl rfl ?_
      exact next hO ht hC hM hg
    · refine V.run 0 54 rfl hn trivial ?_
      refine V.sld rfl rfl rfl (nX1 hL hi) ?_
      rw [gX1 (xs := xs) hL hi]
      have hM1 := hM.fr f1 (by decide)
      refine V.cv (lo := 54) (d' := d - 1) rfl rfl ok_X9_take lk_10_X9_take rfl rfl rfl hn (by omega) (Nat.le_refl _) hnn (m_take hn (by omega) zz_b hM1.2.2.1 (fun bad => absurd gd bad) (fun _ σ2 res2 rf2 r2 ne2 f2 => ?_) (fun _ σ2 rf2 r2 => absurd (rdP_one r1 r2).1 ne))
      refine V.brT rfl rfl ?_
      have hC1 : LC 27 ws vs tx kind c pk p q σ1 := ⟨s0.fr f1 (by decide), g8.fr f1 (by decide) (by decide), g0.fr f1 (by decide) (by decide), br.fr f1 (by decide), t0.fr f1 (by decide) (by decide), ch.fr f1 (by decide) (by decide) (by decide) (by decide)⟩
      exact next hO ((ht.fr f1 (by decide) (by decide) (by decide)).fr f2.1 (by decide) (by decide) (by decide)) (hC1.fr f2.1 hO (by decide)) (hM1.keep (fun j hj => f2.2 j (by omega) (by omega) (by omega)) (f2.1 36 (by decide)) (f2.1 37 (by decide)) (f2.1 38 (by decide))) hg
    · refine V.run 0 54 rfl hn trivial ?_
      refine V.sld rfl rfl rfl (nX1 hL hi) ?_
      rw [gX1 (xs := xs) hL hi]
      have hM1 := hM.fr f1 (by decide)
      refine V.cv (lo := 54) (d' := d - 1) rfl rfl ok_X9_take lk_10_X9_take rfl rfl rfl hn (by omega) (Nat.le_refl _) hnn (m_take hn (by omega) zz_b hM1.2.2.1 (fun bad => absurd gd bad) (fun _ σ2 res2 rf2 r2 ne2 => absurd (rdP_one r2 r1).1 ne2) (fun _ σ2 rf2 r2 c2 f2 e2 => ?_))
      obtain rfl := (rdP_one r1 r2).2
      refine V.brT rfl rfl ?_
      have hC1 : LC 31 ws vs tx (zz xs (5 * i + 1)).toNat rf pk1 p q σ1 := ⟨s0.fr f1 (by decide), g8.fr f1 (by decide) (by decide), g0.fr f1 (by decide) (by decide), br.fr f1 (by decide), t0.fr f1 (by decide) (by decide), c1⟩
      exact next (O := 31) (Or.inr rfl) ((ht.fr f1 (by decide) (by decide) (by decide)).fr f2 (by decide) (by decide) (by decide)) (hC1.fr f2 (Or.inr rfl) (by decide)) ⟨hM1.1.k (e2 0 (by decide) (by decide) (by decide) (by decide) (by decide)) (f2 36 (by decide)), hM1.2.1.k (e2 2 (by decide) (by decide) (by decide) (by decide) (by decide)) (e2 3 (by decide) (by decide) (by decide) (by decide) (by decide)), hM1.2.2.1.k (e2 4 (by decide) (by decide) (by decide) (by decide) (by decide)) (f2 37 (by decide)), c2⟩ hg
  · have hO : 31 = 27 ∨ 31 = 31 := Or.inr rfl
    refine V.run 0 54 rfl hn trivial ?_
    refine V.sld rfl rfl rfl (nX1 hL hi) ?_
    rw [gX1 (xs := xs) hL hi]
    refine V.cv (lo := 54) (d' := d - 1) rfl rfl ok_X8_take lk_10_X8_take rfl rfl rfl hn (by omega) (Nat.le_refl _) hnn (c_take_31 hn (by omega) zz_b t0 (fun bad => ?_) (fun gd σ1 res rf r1 ne f1 => ?_) (fun gd σ1 rf pk1 r1 c1 f1 => ?_))
    · refine V.run 0 54 rfl hn trivial ?_
      refine V.sld rfl rfl rfl (nX1 hL hi) ?_
      rw [gX1 (xs := xs) hL hi]
      refine V.cv (lo := 54) (d' := d - 1) rfl rfl ok_X9_take lk_10_X9_take rfl rfl rfl hn (by omega) (Nat.le_refl _) hnn (m_take hn (by omega) zz_b te (fun _ => ?_) (fun g => absurd g bad) (fun g => absurd g bad))
      refine V.brT rfl rfl ?_
      exact next hO ht hC hM hg
    · refine V.run 0 54 rfl hn trivial ?_
      refine V.sld rfl rfl rfl (nX1 hL hi) ?_
      rw [gX1 (xs := xs) hL hi]
      have hM1 := hM.fr f1 (by decide)
      refine V.cv (lo := 54) (d' := d - 1) rfl rfl ok_X9_take lk_10_X9_take rfl rfl rfl hn (by omega) (Nat.le_refl _) hnn (m_take hn (by omega) zz_b hM1.2.2.1 (fun bad => absurd gd bad) (fun _ σ2 res2 rf2 r2 ne2 f2 => ?_) (fun _ σ2 rf2 r2 => absurd (rdP_one r1 r2).1 ne))
      refine V.brT rfl rfl ?_
      have hC1 : LC 31 ws vs tx kind c pk p q σ1 := ⟨s0.fr f1 (by decide), g8.fr f1 (by decide) (by decide), g0.fr f1 (by decide) (by decide), br.fr f1 (by decide), t0.fr f1 (by decide) (by decide), ch.fr f1 (by decide) (by decide) (by decide) (by decide)⟩
      exact next hO ((ht.fr f1 (by decide) (by decide) (by decide)).fr f2.1 (by decide) (by decide) (by decide)) (hC1.fr f2.1 hO (by decide)) (hM1.keep (fun j hj => f2.2 j (by omega) (by omega) (by omega)) (f2.1 36 (by decide)) (f2.1 37 (by decide)) (f2.1 38 (by decide))) hg
    · refine V.run 0 54 rfl hn trivial ?_
      refine V.sld rfl rfl rfl (nX1 hL hi) ?_
      rw [gX1 (xs := xs) hL hi]
      have hM1 := hM.fr f1 (by decide)
      refine V.cv (lo := 54) (d' := d - 1) rfl rfl ok_X9_take lk_10_X9_take rfl rfl rfl hn (by omega) (Nat.le_refl _) hnn (m_take hn (by omega) zz_b hM1.2.2.1 (fun bad => absurd gd bad) (fun _ σ2 res2 rf2 r2 ne2 => absurd (rdP_one r2 r1).1 ne2) (fun _ σ2 rf2 r2 c2 f2 e2 => ?_))
      obtain rfl := (rdP_one r1 r2).2
      refine V.brT rfl rfl ?_
      have hC1 : LC 27 ws vs tx (zz xs (5 * i + 1)).toNat rf pk1 p q σ1 := ⟨s0.fr f1 (by decide), g8.fr f1 (by decide) (by decide), g0.fr f1 (by decide) (by decide), br.fr f1 (by decide), t0.fr f1 (by decide) (by decide), c1⟩
      exact next (O := 27) (Or.inl rfl) ((ht.fr f1 (by decide) (by decide) (by decide)).fr f2 (by decide) (by decide) (by decide)) (hC1.fr f2 (Or.inl rfl) (by decide)) ⟨hM1.1.k (e2 0 (by decide) (by decide) (by decide) (by decide) (by decide)) (f2 36 (by decide)), hM1.2.1.k (e2 2 (by decide) (by decide) (by decide) (by decide) (by decide)) (e2 3 (by decide) (by decide) (by decide) (by decide) (by decide)), hM1.2.2.1.k (e2 4 (by decide) (by decide) (by decide) (by decide) (by decide)) (f2 37 (by decide)), c2⟩ hg
set_option maxRecDepth 100000 in
theorem L_chain (hn : 54 ≤ n) (hnn : n ≤ n1) (hd : 48 ≤ d) (hL : L ≤ 2560) (hi : 5 * i + 5 ≤ L) (hO : O = 27 ∨ O = 31) (ht : treeS n tr σ) (hC : LC O ws vs tx kind c pk p q σ) (hM : LM gs tx kind c p q σ) (hg : gsR gs ws) (next : LK d n1 L xs Q i n) : V M_L_law d 0 n1 (some (L, xs)) Q n (rho O (58 - O) tr) σ 677 [some (.ref 0), some (.ref 1), some (.ref 35), some (.int (iZ ((5 * i : Nat) : Int)))] [] := by
  obtain ⟨s0, g8, g0, br, t0, ch⟩ := id hC
  obtain ⟨go, pr, te, ca⟩ := id hM
  rcases hO with rfl | rfl
  · have hO : 27 = 27 ∨ 27 = 31 := Or.inl rfl
    refine V.run 0 54 rfl hn trivial ?_
    refine V.sld rfl rfl rfl (nX1 hL hi) ?_
    rw [gX1 (xs := xs) hL hi]
    refine V.cv (lo := 54) (d' := d - 1) rfl rfl ok_X8_chain lk_10_X8_chain rfl rfl rfl hn (by omega) (Nat.le_refl _) hnn (c_chain_27 hn (by omega) zz_b ch ?_)
    refine V.run 0 54 rfl hn trivial ?_
    refine V.sld rfl rfl rfl (nX1 hL hi) ?_
    rw [gX1 (xs := xs) hL hi]
    refine V.cv (lo := 54) (d' := d - 1) rfl rfl ok_X9_chain lk_10_X9_chain rfl rfl rfl hn (by omega) (Nat.le_refl _) hnn (m_chain hn zz_b ca ?_)
    refine V.brT rfl rfl ?_
    exact next hO ht hC hM hg
  · have hO : 31 = 27 ∨ 31 = 31 := Or.inr rfl
    refine V.run 0 54 rfl hn trivial ?_
    refine V.sld rfl rfl rfl (nX1 hL hi) ?_
    rw [gX1 (xs := xs) hL hi]
    refine V.cv (lo := 54) (d' := d - 1) rfl rfl ok_X8_chain lk_10_X8_chain rfl rfl rfl hn (by omega) (Nat.le_refl _) hnn (c_chain_31 hn (by omega) zz_b ch ?_)
    refine V.run 0 54 rfl hn trivial ?_
    refine V.sld rfl rfl rfl (nX1 hL hi) ?_
    rw [gX1 (xs := xs) hL hi]
    refine V.cv (lo := 54) (d' := d - 1) rfl rfl ok_X9_chain lk_10_X9_chain rfl rfl rfl hn (by omega) (Nat.le_refl _) hnn (m_chain hn zz_b ca ?_)
    refine V.brT rfl rfl ?_
    exact next hO ht hC hM hg
set_option maxRecDepth 100000 in
theorem L_uses (hn : 54 ≤ n) (hnn : n ≤ n1) (hd : 48 ≤ d) (hL : L ≤ 2560) (hi : 5 * i + 5 ≤ L) (hO : O = 27 ∨ O = 31) (ht : treeS n tr σ) (hC : LC O ws vs tx kind c pk p q σ) (hM : LM gs tx kind c p q σ) (hg : gsR gs ws) (next : LK d n1 L xs Q i n) : V M_L_law d 0 n1 (some (L, xs)) Q n (rho O (58 - O) tr) σ 700 [some (.ref 0), some (.ref 1), some (.ref 35), some (.int (iZ ((5 * i : Nat) : Int)))] [] := by
  obtain ⟨s0, g8, g0, br, t0, ch⟩ := id hC
  obtain ⟨go, pr, te, ca⟩ := id hM
  rcases hO with rfl | rfl
  · have hO : 27 = 27 ∨ 27 = 31 := Or.inl rfl
    refine V.run 0 54 rfl hn trivial ?_
    refine V.sld rfl rfl rfl (nX1 hL hi) ?_
    rw [gX1 (xs := xs) hL hi]
    refine V.cv (lo := 54) (d' := d - 1) rfl rfl ok_X8_uses lk_10_X8_uses rfl rfl rfl hn (by omega) (Nat.le_refl _) hnn (c_uses_27 hn (by omega) zz_b ch ?_)
    refine V.run 0 54 rfl hn trivial ?_
    refine V.sld rfl rfl rfl (nX1 hL hi) ?_
    rw [gX1 (xs := xs) hL hi]
    refine V.cv (lo := 54) (d' := d - 1) rfl rfl ok_X9_uses lk_10_X9_uses rfl rfl rfl hn (by omega) (Nat.le_refl _) hnn (m_uses hn (by omega) zz_b ca (fun h => ?_) (fun h => ?_) (fun h1 h2 σ2 pk2 u2 f2 => ?_))
    · refine V.brT rfl (by rw [if_pos h]) ?_
      exact next hO ht hC hM hg
    · refine V.brT rfl (by rw [if_neg (by omega), if_neg (by omega)]) ?_
      exact next hO ht hC hM hg
    · refine V.brT rfl (by rw [if_neg (by omega), if_pos h2, (uses_same ca.2.2.2 c.length (Nat.le_refl _) ch.2.2.2.2 u2).1]) ?_
      exact next hO (ht.fr f2.1 (by decide) (by decide) (by decide)) (hC.fr f2.1 hO (by decide)) (hM.keep (fun j hj => f2.2 j (by omega) (by omega) (by omega) (by omega)) (f2.1 36 (by decide)) (f2.1 37 (by decide)) (f2.1 38 (by decide))) hg
  · have hO : 31 = 27 ∨ 31 = 31 := Or.inr rfl
    refine V.run 0 54 rfl hn trivial ?_
    refine V.sld rfl rfl rfl (nX1 hL hi) ?_
    rw [gX1 (xs := xs) hL hi]
    refine V.cv (lo := 54) (d' := d - 1) rfl rfl ok_X8_uses lk_10_X8_uses rfl rfl rfl hn (by omega) (Nat.le_refl _) hnn (c_uses_31 hn (by omega) zz_b ch ?_)
    refine V.run 0 54 rfl hn trivial ?_
    refine V.sld rfl rfl rfl (nX1 hL hi) ?_
    rw [gX1 (xs := xs) hL hi]
    refine V.cv (lo := 54) (d' := d - 1) rfl rfl ok_X9_uses lk_10_X9_uses rfl rfl rfl hn (by omega) (Nat.le_refl _) hnn (m_uses hn (by omega) zz_b ca (fun h => ?_) (fun h => ?_) (fun h1 h2 σ2 pk2 u2 f2 => ?_))
    · refine V.brT rfl (by rw [if_pos h]) ?_
      exact next hO ht hC hM hg
    · refine V.brT rfl (by rw [if_neg (by omega), if_neg (by omega)]) ?_
      exact next hO ht hC hM hg
    · refine V.brT rfl (by rw [if_neg (by omega), if_pos h2, (uses_same ca.2.2.2 c.length (Nat.le_refl _) ch.2.2.2.2 u2).1]) ?_
      exact next hO (ht.fr f2.1 (by decide) (by decide) (by decide)) (hC.fr f2.1 hO (by decide)) (hM.keep (fun j hj => f2.2 j (by omega) (by omega) (by omega) (by omega)) (f2.1 36 (by decide)) (f2.1 37 (by decide)) (f2.1 38 (by decide))) hg
set_option maxRecDepth 100000 in
theorem L_drawers (hn : 54 ≤ n) (hnn : n ≤ n1) (hd : 48 ≤ d) (hL : L ≤ 2560) (hi : 5 * i + 5 ≤ L) (hO : O = 27 ∨ O = 31) (ht : treeS n tr σ) (hC : LC O ws vs tx kind c pk p q σ) (hM : LM gs tx kind c p q σ) (hg : gsR gs ws) (next : LK d n1 L xs Q i n) : V M_L_law d 0 n1 (some (L, xs)) Q n (rho O (58 - O) tr) σ 723 [some (.ref 0), some (.ref 1), some (.ref 35), some (.int (iZ ((5 * i : Nat) : Int)))] [] := by
  obtain ⟨s0, g8, g0, br, t0, ch⟩ := id hC
  obtain ⟨go, pr, te, ca⟩ := id hM
  rcases hO with rfl | rfl
  · have hO : 27 = 27 ∨ 27 = 31 := Or.inl rfl
    refine V.run 0 54 rfl hn trivial ?_
    refine V.cv (lo := 54) (d' := d - 1) rfl rfl ok_X8_drawers lk_10_X8_drawers rfl rfl rfl hn (by omega) (Nat.le_refl _) hnn (c_drawers_27 hn (by omega) ca.2.2.2.1 ch ?_)
    refine V.run 0 54 rfl hn trivial ?_
    refine V.cv (lo := 54) (d' := d - 1) rfl rfl ok_X9_drawers lk_10_X9_drawers rfl rfl rfl hn (by omega) (Nat.le_refl _) hnn (m_drawers hn (by omega) ca (fun σ2 pk2 u2 f2 => ?_))
    refine V.brT rfl (by rw [show (fun t => lastN pk t c.length) = (fun t => lastN pk2 t c.length) from funext (uses_same ca.2.2.2 c.length (Nat.le_refl _) ch.2.2.2.2 u2).2.1]) ?_
    exact next hO (ht.fr f2.1 (by decide) (by decide) (by decide)) (hC.fr f2.1 hO (by decide)) (hM.keep (fun j hj => f2.2 j (by omega) (by omega) (by omega) (by omega)) (f2.1 36 (by decide)) (f2.1 37 (by decide)) (f2.1 38 (by decide))) hg
  · have hO : 31 = 27 ∨ 31 = 31 := Or.inr rfl
    refine V.run 0 54 rfl hn trivial ?_
    refine V.cv (lo := 54) (d' := d - 1) rfl rfl ok_X8_drawers lk_10_X8_drawers rfl rfl rfl hn (by omega) (Nat.le_refl _) hnn (c_drawers_31 hn (by omega) ca.2.2.2.1 ch ?_)
    refine V.run 0 54 rfl hn trivial ?_
    refine V.cv (lo := 54) (d' := d - 1) rfl rfl ok_X9_drawers lk_10_X9_drawers rfl rfl rfl hn (by omega) (Nat.le_refl _) hnn (m_drawers hn (by omega) ca (fun σ2 pk2 u2 f2 => ?_))
    refine V.brT rfl (by rw [show (fun t => lastN pk t c.length) = (fun t => lastN pk2 t c.length) from funext (uses_same ca.2.2.2 c.length (Nat.le_refl _) ch.2.2.2.2 u2).2.1]) ?_
    exact next hO (ht.fr f2.1 (by decide) (by decide) (by decide)) (hC.fr f2.1 hO (by decide)) (hM.keep (fun j hj => f2.2 j (by omega) (by omega) (by omega) (by omega)) (f2.1 36 (by decide)) (f2.1 37 (by decide)) (f2.1 38 (by decide))) hg
set_option maxRecDepth 100000 in
theorem L_power (hn : 54 ≤ n) (hnn : n ≤ n1) (hd : 48 ≤ d) (hL : L ≤ 2560) (hi : 5 * i + 5 ≤ L) (hO : O = 27 ∨ O = 31) (ht : treeS n tr σ) (hC : LC O ws vs tx kind c pk p q σ) (hM : LM gs tx kind c p q σ) (hg : gsR gs ws) (next : LK d n1 L xs Q i n) : V M_L_law d 0 n1 (some (L, xs)) Q n (rho O (58 - O) tr) σ 736 [some (.ref 0), some (.ref 1), some (.ref 35), some (.int (iZ ((5 * i : Nat) : Int)))] [] := by
  obtain ⟨s0, g8, g0, br, t0, ch⟩ := id hC
  obtain ⟨go, pr, te, ca⟩ := id hM
  rcases hO with rfl | rfl
  · have hO : 27 = 27 ∨ 27 = 31 := Or.inl rfl
    refine V.run 0 54 rfl hn trivial ?_
    refine V.sld rfl rfl rfl (nX1 hL hi) ?_
    rw [gX1 (xs := xs) hL hi]
    refine V.run 0 54 rfl hn trivial ?_
    refine V.sld rfl rfl rfl (nX2 hL hi) ?_
    rw [gX2 (xs := xs) hL hi]
    refine V.cv (lo := 54) (d' := d - 1) rfl rfl ok_X8_power lk_10_X8_power rfl rfl rfl hn (by omega) (Nat.le_refl _) hnn (c_power_27 hn (by omega) zz_b zz_b ca.2.2.2.1 ch (fun bad => ?_) (fun gd => ?_))
    · refine V.run 0 54 rfl hn trivial ?_
      refine V.sld rfl rfl rfl (nX1 hL hi) ?_
      rw [gX1 (xs := xs) hL hi]
      refine V.run 0 54 rfl hn trivial ?_
      refine V.sld rfl rfl rfl (nX2 hL hi) ?_
      rw [gX2 (xs := xs) hL hi]
      refine V.cv (lo := 54) (d' := d - 1) rfl rfl ok_X9_power lk_10_X9_power rfl rfl rfl hn (by omega) (Nat.le_refl _) hnn (m_power hn (by omega) zz_b zz_b ca (fun _ => ?_) (fun g => absurd g bad))
      refine V.brT rfl rfl ?_
      exact next hO ht hC hM hg
    · refine V.run 0 54 rfl hn trivial ?_
      refine V.sld rfl rfl rfl (nX1 hL hi) ?_
      rw [gX1 (xs := xs) hL hi]
      refine V.run 0 54 rfl hn trivial ?_
      refine V.sld rfl rfl rfl (nX2 hL hi) ?_
      rw [gX2 (xs := xs) hL hi]
      refine V.cv (lo := 54) (d' := d - 1) rfl rfl ok_X9_power lk_10_X9_power rfl rfl rfl hn (by omega) (Nat.le_refl _) hnn (m_power hn (by omega) zz_b zz_b ca (fun bad => absurd gd bad) (fun _ => ?_))
      refine V.brT rfl rfl ?_
      exact next hO ht hC hM hg
  · have hO : 31 = 27 ∨ 31 = 31 := Or.inr rfl
    refine V.run 0 54 rfl hn trivial ?_
    refine V.sld rfl rfl rfl (nX1 hL hi) ?_
    rw [gX1 (xs := xs) hL hi]
    refine V.run 0 54 rfl hn trivial ?_
    refine V.sld rfl rfl rfl (nX2 hL hi) ?_
    rw [gX2 (xs := xs) hL hi]
    refine V.cv (lo := 54) (d' := d - 1) rfl rfl ok_X8_power lk_10_X8_power rfl rfl rfl hn (by omega) (Nat.le_refl _) hnn (c_power_31 hn (by omega) zz_b zz_b ca.2.2.2.1 ch (fun bad => ?_) (fun gd => ?_))
    · refine V.run 0 54 rfl hn trivial ?_
      refine V.sld rfl rfl rfl (nX1 hL hi) ?_
      rw [gX1 (xs := xs) hL hi]
      refine V.run 0 54 rfl hn trivial ?_
      refine V.sld rfl rfl rfl (nX2 hL hi) ?_
      rw [gX2 (xs := xs) hL hi]
      refine V.cv (lo := 54) (d' := d - 1) rfl rfl ok_X9_power lk_10_X9_power rfl rfl rfl hn (by omega) (Nat.le_refl _) hnn (m_power hn (by omega) zz_b zz_b ca (fun _ => ?_) (fun g => absurd g bad))
      refine V.brT rfl rfl ?_
      exact next hO ht hC hM hg
    · refine V.run 0 54 rfl hn trivial ?_
      refine V.sld rfl rfl rfl (nX1 hL hi) ?_
      rw [gX1 (xs := xs) hL hi]
      refine V.run 0 54 rfl hn trivial ?_
      refine V.sld rfl rfl rfl (nX2 hL hi) ?_
      rw [gX2 (xs := xs) hL hi]
      refine V.cv (lo := 54) (d' := d - 1) rfl rfl ok_X9_power lk_10_X9_power rfl rfl rfl hn (by omega) (Nat.le_refl _) hnn (m_power hn (by omega) zz_b zz_b ca (fun bad => absurd gd bad) (fun _ => ?_))
      refine V.brT rfl rfl ?_
      exact next hO ht hC hM hg
set_option maxRecDepth 100000 in
theorem L_count (hn : 54 ≤ n) (hnn : n ≤ n1) (hd : 48 ≤ d) (hL : L ≤ 2560) (hi : 5 * i + 5 ≤ L) (hO : O = 27 ∨ O = 31) (ht : treeS n tr σ) (hC : LC O ws vs tx kind c pk p q σ) (hM : LM gs tx kind c p q σ) (hg : gsR gs ws) (h4 : (zz xs (5 * i + 1)) ≠ 4) (next : LK d n1 L xs Q i n) : V M_L_law d 0 n1 (some (L, xs)) Q n (rho O (58 - O) tr) σ 769 [some (.ref 0), some (.ref 1), some (.ref 35), some (.int (iZ ((5 * i : Nat) : Int)))] [] := by
  obtain ⟨s0, g8, g0, br, t0, ch⟩ := id hC
  obtain ⟨go, pr, te, ca⟩ := id hM
  rcases hO with rfl | rfl
  · have hO : 27 = 27 ∨ 27 = 31 := Or.inl rfl
    refine V.run 0 54 rfl hn trivial ?_
    refine V.sld rfl rfl rfl (nX1 hL hi) ?_
    rw [gX1 (xs := xs) hL hi]
    refine V.cv (lo := 54) (d' := d - 1) rfl rfl ok_X8_count lk_10_X8_count rfl rfl rfl hn (by omega) (Nat.le_refl _) hnn (c_count_27 hn (by omega) zz_b h4 g8 t0 ch (fun bad => ?_) (fun e => ?_) (fun e => ?_) (fun e => ?_) (fun e => ?_))
    · refine V.run 0 54 rfl hn trivial ?_
      refine V.sld rfl rfl rfl (nX1 hL hi) ?_
      rw [gX1 (xs := xs) hL hi]
      refine V.cv (lo := 54) (d' := d - 1) rfl rfl ok_X9_count lk_10_X9_count rfl rfl rfl hn (by omega) (Nat.le_refl _) hnn (m_count hn (by omega) zz_b go te ca (fun _ => ?_) (fun e => absurd ⟨by omega, by omega⟩ bad) (fun e => absurd ⟨by omega, by omega⟩ bad) (fun e => absurd ⟨by omega, by omega⟩ bad) (fun e => absurd ⟨by omega, by omega⟩ bad) (fun e => absurd ⟨by omega, by omega⟩ bad))
      refine V.brT rfl rfl ?_
      exact next hO ht hC hM hg
    · refine V.run 0 54 rfl hn trivial ?_
      refine V.sld rfl rfl rfl (nX1 hL hi) ?_
      rw [gX1 (xs := xs) hL hi]
      refine V.cv (lo := 54) (d' := d - 1) rfl rfl ok_X9_count lk_10_X9_count rfl rfl rfl hn (by omega) (Nat.le_refl _) hnn (m_count hn (by omega) zz_b go te ca (fun bad => absurd ⟨by omega, by omega⟩ bad) (fun _ => ?_) (fun e2 => by omega) (fun e2 => by omega) (fun e2 => by omega) (fun e2 => by omega))
      refine V.brT rfl (by rw [hg.2]) ?_
      exact next hO ht hC hM hg
    · refine V.run 0 54 rfl hn trivial ?_
      refine V.sld rfl rfl rfl (nX1 hL hi) ?_
      rw [gX1 (xs := xs) hL hi]
      refine V.cv (lo := 54) (d' := d - 1) rfl rfl ok_X9_count lk_10_X9_count rfl rfl rfl hn (by omega) (Nat.le_refl _) hnn (m_count hn (by omega) zz_b go te ca (fun bad => absurd ⟨by omega, by omega⟩ bad) (fun e2 => by omega) (fun _ => ?_) (fun e2 => by omega) (fun e2 => by omega) (fun e2 => by omega))
      refine V.brT rfl rfl ?_
      exact next hO ht hC hM hg
    · refine V.run 0 54 rfl hn trivial ?_
      refine V.sld rfl rfl rfl (nX1 hL hi) ?_
      rw [gX1 (xs := xs) hL hi]
      refine V.cv (lo := 54) (d' := d - 1) rfl rfl ok_X9_count lk_10_X9_count rfl rfl rfl hn (by omega) (Nat.le_refl _) hnn (m_count hn (by omega) zz_b go te ca (fun bad => absurd ⟨by omega, by omega⟩ bad) (fun e2 => by omega) (fun e2 => by omega) (fun _ => ?_) (fun e2 => by omega) (fun e2 => by omega))
      refine V.brT rfl rfl ?_
      exact next hO ht hC hM hg
    · refine V.run 0 54 rfl hn trivial ?_
      refine V.sld rfl rfl rfl (nX1 hL hi) ?_
      rw [gX1 (xs := xs) hL hi]
      refine V.cv (lo := 54) (d' := d - 1) rfl rfl ok_X9_count lk_10_X9_count rfl rfl rfl hn (by omega) (Nat.le_refl _) hnn (m_count hn (by omega) zz_b go te ca (fun bad => absurd ⟨by omega, by omega⟩ bad) (fun e2 => by omega) (fun e2 => by omega) (fun e2 => by omega) (fun _ σ2 pk2 u2 f2 => ?_) (fun e2 => by omega))
      refine V.brT rfl (by rw [(uses_same ca.2.2.2 c.length (Nat.le_refl _) ch.2.2.2.2 u2).2.2]) ?_
      exact next hO (ht.fr f2.1 (by decide) (by decide) (by decide)) (hC.fr f2.1 hO (by decide)) (hM.keep (fun j hj => f2.2 j (by omega) (by omega) (by omega) (by omega)) (f2.1 36 (by decide)) (f2.1 37 (by decide)) (f2.1 38 (by decide))) hg
  · have hO : 31 = 27 ∨ 31 = 31 := Or.inr rfl
    refine V.run 0 54 rfl hn trivial ?_
    refine V.sld rfl rfl rfl (nX1 hL hi) ?_
    rw [gX1 (xs := xs) hL hi]
    refine V.cv (lo := 54) (d' := d - 1) rfl rfl ok_X8_count lk_10_X8_count rfl rfl rfl hn (by omega) (Nat.le_refl _) hnn (c_count_31 hn (by omega) zz_b h4 g8 t0 ch (fun bad => ?_) (fun e => ?_) (fun e => ?_) (fun e => ?_) (fun e => ?_))
    · refine V.run 0 54 rfl hn trivial ?_
      refine V.sld rfl rfl rfl (nX1 hL hi) ?_
      rw [gX1 (xs := xs) hL hi]
      refine V.cv (lo := 54) (d' := d - 1) rfl rfl ok_X9_count lk_10_X9_count rfl rfl rfl hn (by omega) (Nat.le_refl _) hnn (m_count hn (by omega) zz_b go te ca (fun _ => ?_) (fun e => absurd ⟨by omega, by omega⟩ bad) (fun e => absurd ⟨by omega, by omega⟩ bad) (fun e => absurd ⟨by omega, by omega⟩ bad) (fun e => absurd ⟨by omega, by omega⟩ bad) (fun e => absurd ⟨by omega, by omega⟩ bad))
      refine V.brT rfl rfl ?_
      exact next hO ht hC hM hg
    · refine V.run 0 54 rfl hn trivial ?_
      refine V.sld rfl rfl rfl (nX1 hL hi) ?_
      rw [gX1 (xs := xs) hL hi]
      refine V.cv (lo := 54) (d' := d - 1) rfl rfl ok_X9_count lk_10_X9_count rfl rfl rfl hn (by omega) (Nat.le_refl _) hnn (m_count hn (by omega) zz_b go te ca (fun bad => absurd ⟨by omega, by omega⟩ bad) (fun _ => ?_) (fun e2 => by omega) (fun e2 => by omega) (fun e2 => by omega) (fun e2 => by omega))
      refine V.brT rfl (by rw [hg.2]) ?_
      exact next hO ht hC hM hg
    · refine V.run 0 54 rfl hn trivial ?_
      refine V.sld rfl rfl rfl (nX1 hL hi) ?_
      rw [gX1 (xs := xs) hL hi]
      refine V.cv (lo := 54) (d' := d - 1) rfl rfl ok_X9_count lk_10_X9_count rfl rfl rfl hn (by omega) (Nat.le_refl _) hnn (m_count hn (by omega) zz_b go te ca (fun bad => absurd ⟨by omega, by omega⟩ bad) (fun e2 => by omega) (fun _ => ?_) (fun e2 => by omega) (fun e2 => by omega) (fun e2 => by omega))
      refine V.brT rfl rfl ?_
      exact next hO ht hC hM hg
    · refine V.run 0 54 rfl hn trivial ?_
      refine V.sld rfl rfl rfl (nX1 hL hi) ?_
      rw [gX1 (xs := xs) hL hi]
      refine V.cv (lo := 54) (d' := d - 1) rfl rfl ok_X9_count lk_10_X9_count rfl rfl rfl hn (by omega) (Nat.le_refl _) hnn (m_count hn (by omega) zz_b go te ca (fun bad => absurd ⟨by omega, by omega⟩ bad) (fun e2 => by omega) (fun e2 => by omega) (fun _ => ?_) (fun e2 => by omega) (fun e2 => by omega))
      refine V.brT rfl rfl ?_
      exact next hO ht hC hM hg
    · refine V.run 0 54 rfl hn trivial ?_
      refine V.sld rfl rfl rfl (nX1 hL hi) ?_
      rw [gX1 (xs := xs) hL hi]
      refine V.cv (lo := 54) (d' := d - 1) rfl rfl ok_X9_count lk_10_X9_count rfl rfl rfl hn (by omega) (Nat.le_refl _) hnn (m_count hn (by omega) zz_b go te ca (fun bad => absurd ⟨by omega, by omega⟩ bad) (fun e2 => by omega) (fun e2 => by omega) (fun e2 => by omega) (fun _ σ2 pk2 u2 f2 => ?_) (fun e2 => by omega))
      refine V.brT rfl (by rw [(uses_same ca.2.2.2 c.length (Nat.le_refl _) ch.2.2.2.2 u2).2.2]) ?_
      exact next hO (ht.fr f2.1 (by decide) (by decide) (by decide)) (hC.fr f2.1 hO (by decide)) (hM.keep (fun j hj => f2.2 j (by omega) (by omega) (by omega) (by omega)) (f2.1 36 (by decide)) (f2.1 37 (by decide)) (f2.1 38 (by decide))) hg
set_option maxRecDepth 100000 in
theorem L_countT (hn : 54 ≤ n) (hnn : n ≤ n1) (hd : 48 ≤ d) (hL : L ≤ 2560) (hi : 5 * i + 5 ≤ L) (hO : O = 27 ∨ O = 31) (ht : treeS n tr σ) (hC : LC O ws vs tx kind c pk p q σ) (hM : LM gs tx kind c p q σ) (hg : gsR gs ws) (h58 : n1 = 58) (h4 : (zz xs (5 * i + 1)) = 4) (next : LK d n1 L xs Q i 58) : V M_L_law d 0 n1 (some (L, xs)) Q n (rho O (58 - O) tr) σ 769 [some (.ref 0), some (.ref 1), some (.ref 35), some (.int (iZ ((5 * i : Nat) : Int)))] [] := by
  obtain ⟨s0, g8, g0, br, t0, ch⟩ := id hC
  obtain ⟨go, pr, te, ca⟩ := id hM
  refine V.run 0 54 rfl hn trivial ?_
  refine V.sld rfl rfl rfl (nX1 hL hi) ?_
  rw [gX1 (xs := xs) hL hi]
  have le58 : n ≤ 58 := by rcases ht with ⟨h, -⟩ | ⟨h, -⟩ <;> omega
  have n58 : 58 ≤ n1 := by omega
  refine V.cv (lo := 54) (d' := d - 1) (n' := 58) rfl rfl ok_X8_count lk_10_X8_count rfl rfl rfl hn (by omega) le58 n58 (c_countU (by omega) h4 ht (fun σ1 p1 f1 => ?_))
  have hn : 54 ≤ 58 := by omega
  have hnn : 58 ≤ n1 := n58
  refine V.run 0 54 rfl hn trivial ?_
  refine V.sld rfl rfl rfl (nX1 hL hi) ?_
  rw [gX1 (xs := xs) hL hi]
  have hM1 := hM.fr f1 (by decide)
  have hC1 : LC O ws vs tx kind c pk p q σ1 := ⟨s0.fr f1 (by decide), g8.fr f1 (by decide) (by decide), g0.fr f1 (by decide) (by decide), br.fr f1 (by decide), t0.fr f1 (by decide) (by decide), ch.fr f1 (by rcases hO with rfl | rfl <;> decide) (by rcases hO with rfl | rfl <;> decide) (by rcases hO with rfl | rfl <;> decide) (by rcases hO with rfl | rfl <;> decide)⟩
  refine V.cv (lo := 54) (d' := d - 1) rfl rfl ok_X9_count lk_10_X9_count rfl rfl rfl hn (by omega) (Nat.le_refl _) hnn (m_count hn (by omega) zz_b hM1.1 hM1.2.2.1 hM1.2.2.2 (fun bad => absurd ⟨by omega, by omega⟩ bad) (fun e => by omega) (fun e => by omega) (fun e => by omega) (fun e => by omega) (fun _ σ2 f2 => ?_))
  refine V.brT rfl rfl ?_
  exact next hO (Or.inr ⟨rfl, rfl, p1.fr f2.1 (by decide) (by decide) (by decide)⟩) (hC1.fr f2.1 hO (by decide)) (hM1.keep (fun j hj => f2.2 j (by omega)) (f2.1 36 (by decide)) (f2.1 37 (by decide)) (f2.1 38 (by decide))) hg
end LW2
