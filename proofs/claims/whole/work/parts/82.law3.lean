/-! ===== the law: the loop and the start ===== -/
def opx (xs : Nat → Int32) (i : Nat) : Int32 := iZ (zz xs (5 * i)) &&& iZ 31
def nds (xs : Nat → Int32) (i : Nat) : Prop := ((opx xs i).toInt = 8 ∧ A_isRoad (zz xs (5 * i + 1)) (zz xs (5 * i + 2)) (zz xs (5 * i + 3)) ∧ zz xs (5 * i + 1) = 3) ∨ ((opx xs i).toInt = 9 ∧ (A_isRoad (zz xs (5 * i + 1)) (zz xs (5 * i + 2)) (zz xs (5 * i + 3)) ∧ 0 ≤ zz xs (5 * i + 4)) ∧ zz xs (5 * i + 1) = 3) ∨ ((opx xs i).toInt = 10 ∧ A_isGood (zz xs (5 * i + 1)) (zz xs (5 * i + 2)) (zz xs (5 * i + 3)) ∧ zz xs (5 * i + 1) = 3) ∨ ((opx xs i).toInt = 21 ∧ zz xs (5 * i + 1) = 4)
set_option maxRecDepth 100000 in
theorem L_loop {d n1 L : Nat} {xs : Nat → Int32} {Q : PQ} (hd : 48 ≤ d) (hL : L ≤ 2560) (hA : n1 = 58 ∨ (n1 = 54 ∧ ∀ j, 5 * j + 5 ≤ L → ¬ nds xs j)) (hQ : ∀ ρ σ, Q (some (.int 1)) ρ σ) : ∀ (r i n : Nat) {O tr : Nat} {ws vs tx : List Nat} {kind : Nat} {c : List Nat} {pk : Nat → Nat × Nat} {p q : Nat} {gs : List Nat} {σ : Mem}, i ≤ 520 → L ≤ 5 * (i + r) + 4 → 54 ≤ n → n ≤ n1 → (n = n1 ∨ (n = 54 ∧ n1 = 58 ∧ ∃ j, i ≤ j ∧ 5 * j + 5 ≤ L ∧ nds xs j)) → (O = 27 ∨ O = 31) → treeS n tr σ → LC O ws vs tx kind c pk p q σ → LM gs tx kind c p q σ → gsR gs ws → V M_L_law d 0 n1 (some (L, xs)) Q n (rho O (58 - O) tr) σ 18 [some (.ref 0), some (.ref 1), some (.ref 35), some (.int (iZ ((5 * i : Nat) : Int)))] [] := by
  intro r
  induction r with
  | zero =>
    intro i n O tr ws vs tx kind c pk p q gs σ hi5 hr hn hnn hB hO ht hC hM hg
    have hne : n = n1 := by
      rcases hB with h | ⟨-, -, j, h1, h2, -⟩
      · exact h
      · omega
    refine V.run 0 54 rfl hn trivial ?_
    refine V.slen rfl rfl rfl ?_
    refine V.run 0 54 rfl hn trivial ?_
    rw [show Int32.ofNat L = iZ (L : Int) from nI_iZ L, iZ_sub]
    refine V.brT rfl ((iZ_lt (by omega) (by omega)).mpr (by omega)) ?_
    refine V.run 0 54 rfl hn trivial ?_
    refine V.ret (v := some (.int 1)) rfl rfl ⟨rfl, Or.inr rfl⟩ hne (hQ _ _)
  | succ r ih =>
    intro i n O tr ws vs tx kind c pk p q gs σ hi5 hr hn hnn hB hO ht hC hM hg
    refine V.run 0 54 rfl hn trivial ?_
    refine V.slen rfl rfl rfl ?_
    refine V.run 0 54 rfl hn trivial ?_
    rw [show Int32.ofNat L = iZ (L : Int) from nI_iZ L, iZ_sub]
    refine V.br rfl (fun (cc : iZ ((L : Int) - 5) < iZ ((5 * i : Nat) : Int)) => ?_) (fun (cc : ¬ (iZ ((L : Int) - 5) < iZ ((5 * i : Nat) : Int))) => ?_)
    · rw [iZ_lt (by omega) (by omega)] at cc
      have hne : n = n1 := by
        rcases hB with h | ⟨-, -, j, h1, h2, -⟩
        · exact h
        · omega
      refine V.run 0 54 rfl hn trivial ?_
      refine V.ret (v := some (.int 1)) rfl rfl ⟨rfl, Or.inr rfl⟩ hne (hQ _ _)
    · rw [iZ_lt (by omega) (by omega)] at cc
      have hi : 5 * i + 5 ≤ L := by omega
      have go : ∀ n', 54 ≤ n' → n' ≤ n1 → (n' = n1 ∨ (n' = 54 ∧ n1 = 58 ∧ ∃ j, i + 1 ≤ j ∧ 5 * j + 5 ≤ L ∧ nds xs j)) → LK d n1 L xs Q i n' := by
        intro n' a1 a2 a3 O tr ws vs tx kind c pk p q gs σ hO ht hC hM hg
        have h := ih (i + 1) n' (by omega) (by omega) a1 a2 a3 hO ht hC hM hg
        rw [show ((5 * (i + 1) : Nat) : Int) = ((5 * i : Nat) : Int) + 5 by omega, ← iZ_add] at h
        refine V.run 0 54 rfl a1 trivial ?_
        exact h
      have nextN : ¬ nds xs i → LK d n1 L xs Q i n := by
        intro hno
        refine go n hn hnn ?_
        rcases hB with h | ⟨h1, h2, j, h3, h4, h5⟩
        · exact Or.inl h
        · refine Or.inr ⟨h1, h2, j, ?_, h4, h5⟩
          rcases Nat.eq_or_lt_of_le h3 with e | e
          · subst e
            exact absurd h5 hno
          · exact e
      have yes : nds xs i → n1 = 58 := by
        intro h
        rcases hA with e | ⟨-, e⟩
        · exact e
        · exact absurd h (e i hi)
      have next58 : n1 = 58 → LK d n1 L xs Q i 58 := fun e => go 58 (by omega) (by omega) (Or.inl e.symm)
      refine V.run 0 54 rfl hn trivial ?_
      refine V.sld rfl rfl rfl (nX0 hL hi) ?_
      rw [gX0 (xs := xs) hL hi]
      refine V.run 0 54 rfl hn trivial ?_
      by_cases hin : 0 ≤ (opx xs i).toInt ∧ (opx xs i).toInt ≤ 21
      · rcases (show (opx xs i).toInt = 0 ∨ (opx xs i).toInt = 1 ∨ (opx xs i).toInt = 2 ∨ (opx xs i).toInt = 3 ∨ (opx xs i).toInt = 4 ∨ (opx xs i).toInt = 5 ∨ (opx xs i).toInt = 6 ∨ (opx xs i).toInt = 7 ∨ (opx xs i).toInt = 8 ∨ (opx xs i).toInt = 9 ∨ (opx xs i).toInt = 10 ∨ (opx xs i).toInt = 11 ∨ (opx xs i).toInt = 12 ∨ (opx xs i).toInt = 13 ∨ (opx xs i).toInt = 14 ∨ (opx xs i).toInt = 15 ∨ (opx xs i).toInt = 16 ∨ (opx xs i).toInt = 17 ∨ (opx xs i).toInt = 18 ∨ (opx xs i).toInt = 19 ∨ (opx xs i).toInt = 20 ∨ (opx xs i).toInt = 21 by omega) with e | e | e | e | e | e | e | e | e | e | e | e | e | e | e | e | e | e | e | e | e | e
        · refine V.swI (x := opx xs i) (tgt := 136) rfl rfl (by rw [e]; decide) (by rw [e]; decide) (by rw [e]; rfl) (by decide) ?_
          exact L_fewest hn hnn hd hL hi hO ht hC hM hg (nextN (fun h => by rcases h with ⟨e2, -⟩ | ⟨e2, -⟩ | ⟨e2, -⟩ | ⟨e2, -⟩ <;> omega))
        · refine V.swI (x := opx xs i) (tgt := 169) rfl rfl (by rw [e]; decide) (by rw [e]; decide) (by rw [e]; rfl) (by decide) ?_
          exact L_asFew hn hnn hd hL hi hO ht hC hM hg (nextN (fun h => by rcases h with ⟨e2, -⟩ | ⟨e2, -⟩ | ⟨e2, -⟩ | ⟨e2, -⟩ <;> omega))
        · refine V.swI (x := opx xs i) (tgt := 202) rfl rfl (by rw [e]; decide) (by rw [e]; decide) (by rw [e]; rfl) (by decide) ?_
          exact L_first hn hnn hd hL hi hO ht hC hM hg (nextN (fun h => by rcases h with ⟨e2, -⟩ | ⟨e2, -⟩ | ⟨e2, -⟩ | ⟨e2, -⟩ <;> omega))
        · refine V.swI (x := opx xs i) (tgt := 245) rfl rfl (by rw [e]; decide) (by rw [e]; decide) (by rw [e]; rfl) (by decide) ?_
          exact L_hardest hn hnn hd hL hi hO ht hC hM hg (nextN (fun h => by rcases h with ⟨e2, -⟩ | ⟨e2, -⟩ | ⟨e2, -⟩ | ⟨e2, -⟩ <;> omega))
        · refine V.swI (x := opx xs i) (tgt := 278) rfl rfl (by rw [e]; decide) (by rw [e]; decide) (by rw [e]; rfl) (by decide) ?_
          exact L_goal hn hnn hd hL hi hO ht hC hM hg (nextN (fun h => by rcases h with ⟨e2, -⟩ | ⟨e2, -⟩ | ⟨e2, -⟩ | ⟨e2, -⟩ <;> omega))
        · refine V.swI (x := opx xs i) (tgt := 301) rfl rfl (by rw [e]; decide) (by rw [e]; decide) (by rw [e]; rfl) (by decide) ?_
          exact L_noGoals hn hnn hd hL hi hO ht hC hM hg (nextN (fun h => by rcases h with ⟨e2, -⟩ | ⟨e2, -⟩ | ⟨e2, -⟩ | ⟨e2, -⟩ <;> omega))
        · refine V.swI (x := opx xs i) (tgt := 314) rfl rfl (by rw [e]; decide) (by rw [e]; decide) (by rw [e]; rfl) (by decide) ?_
          exact L_together hn hnn hd hL hi hO ht hC hM hg (nextN (fun h => by rcases h with ⟨e2, -⟩ | ⟨e2, -⟩ | ⟨e2, -⟩ | ⟨e2, -⟩ <;> omega))
        · refine V.swI (x := opx xs i) (tgt := 327) rfl rfl (by rw [e]; decide) (by rw [e]; decide) (by rw [e]; rfl) (by decide) ?_
          exact L_led hn hnn hd hL hi hO ht hC hM hg (nextN (fun h => by rcases h with ⟨e2, -⟩ | ⟨e2, -⟩ | ⟨e2, -⟩ | ⟨e2, -⟩ <;> omega))
        · refine V.swI (x := opx xs i) (tgt := 360) rfl rfl (by rw [e]; decide) (by rw [e]; decide) (by rw [e]; rfl) (by decide) ?_
          by_cases hy : A_isRoad (zz xs (5 * i + 1)) (zz xs (5 * i + 2)) (zz xs (5 * i + 3)) ∧ zz xs (5 * i + 1) = 3
          · have h58 := yes (Or.inl ⟨e, hy⟩)
            exact L_roadT hn hnn hd hL hi hO ht hC hM hg h58 hy.1 hy.2 (next58 h58)
          · refine L_road hn hnn hd hL hi hO ht hC hM hg hy (nextN (fun h => ?_))
            rcases h with ⟨-, h⟩ | ⟨e2, -⟩ | ⟨e2, -⟩ | ⟨e2, -⟩
            · exact hy h
            · omega
            · omega
            · omega
        · refine V.swI (x := opx xs i) (tgt := 403) rfl rfl (by rw [e]; decide) (by rw [e]; decide) (by rw [e]; rfl) (by decide) ?_
          by_cases hy : (A_isRoad (zz xs (5 * i + 1)) (zz xs (5 * i + 2)) (zz xs (5 * i + 3)) ∧ 0 ≤ zz xs (5 * i + 4)) ∧ zz xs (5 * i + 1) = 3
          · have h58 := yes (Or.inr (Or.inl ⟨e, hy⟩))
            exact L_stepT hn hnn hd hL hi hO ht hC hM hg h58 hy.1 hy.2 (next58 h58)
          · refine L_step hn hnn hd hL hi hO ht hC hM hg hy (nextN (fun h => ?_))
            rcases h with ⟨e2, -⟩ | ⟨-, h⟩ | ⟨e2, -⟩ | ⟨e2, -⟩
            · omega
            · exact hy h
            · omega
            · omega
        · refine V.swI (x := opx xs i) (tgt := 456) rfl rfl (by rw [e]; decide) (by rw [e]; decide) (by rw [e]; rfl) (by decide) ?_
          by_cases hy : A_isGood (zz xs (5 * i + 1)) (zz xs (5 * i + 2)) (zz xs (5 * i + 3)) ∧ zz xs (5 * i + 1) = 3
          · have h58 := yes (Or.inr (Or.inr (Or.inl ⟨e, hy⟩)))
            exact L_goodT hn hnn hd hL hi hO ht hC hM hg h58 hy.1 hy.2 (next58 h58)
          · refine L_good hn hnn hd hL hi hO ht hC hM hg hy (nextN (fun h => ?_))
            rcases h with ⟨e2, -⟩ | ⟨e2, -⟩ | ⟨-, h⟩ | ⟨e2, -⟩
            · omega
            · omega
            · exact hy h
            · omega
        · refine V.swI (x := opx xs i) (tgt := 499) rfl rfl (by rw [e]; decide) (by rw [e]; decide) (by rw [e]; rfl) (by decide) ?_
          exact L_price hn hnn hd hL hi hO ht hC hM hg (nextN (fun h => by rcases h with ⟨e2, -⟩ | ⟨e2, -⟩ | ⟨e2, -⟩ | ⟨e2, -⟩ <;> omega))
        · refine V.swI (x := opx xs i) (tgt := 532) rfl rfl (by rw [e]; decide) (by rw [e]; decide) (by rw [e]; rfl) (by decide) ?_
          exact L_cheapest hn hnn hd hL hi hO ht hC hM hg (nextN (fun h => by rcases h with ⟨e2, -⟩ | ⟨e2, -⟩ | ⟨e2, -⟩ | ⟨e2, -⟩ <;> omega))
        · refine V.swI (x := opx xs i) (tgt := 555) rfl rfl (by rw [e]; decide) (by rw [e]; decide) (by rw [e]; rfl) (by decide) ?_
          exact L_write hn hnn hd hL hi hO ht hC hM hg (nextN (fun h => by rcases h with ⟨e2, -⟩ | ⟨e2, -⟩ | ⟨e2, -⟩ | ⟨e2, -⟩ <;> omega))
        · refine V.swI (x := opx xs i) (tgt := 618) rfl rfl (by rw [e]; decide) (by rw [e]; decide) (by rw [e]; rfl) (by decide) ?_
          exact L_wipe hn hnn hd hL hi hO ht hC hM hg (nextN (fun h => by rcases h with ⟨e2, -⟩ | ⟨e2, -⟩ | ⟨e2, -⟩ | ⟨e2, -⟩ <;> omega))
        · refine V.swI (x := opx xs i) (tgt := 631) rfl rfl (by rw [e]; decide) (by rw [e]; decide) (by rw [e]; rfl) (by decide) ?_
          exact L_fault hn hnn hd hL hi hO ht hC hM hg (nextN (fun h => by rcases h with ⟨e2, -⟩ | ⟨e2, -⟩ | ⟨e2, -⟩ | ⟨e2, -⟩ <;> omega))
        · refine V.swI (x := opx xs i) (tgt := 654) rfl rfl (by rw [e]; decide) (by rw [e]; decide) (by rw [e]; rfl) (by decide) ?_
          exact L_take hn hnn hd hL hi hO ht hC hM hg (nextN (fun h => by rcases h with ⟨e2, -⟩ | ⟨e2, -⟩ | ⟨e2, -⟩ | ⟨e2, -⟩ <;> omega))
        · refine V.swI (x := opx xs i) (tgt := 677) rfl rfl (by rw [e]; decide) (by rw [e]; decide) (by rw [e]; rfl) (by decide) ?_
          exact L_chain hn hnn hd hL hi hO ht hC hM hg (nextN (fun h => by rcases h with ⟨e2, -⟩ | ⟨e2, -⟩ | ⟨e2, -⟩ | ⟨e2, -⟩ <;> omega))
        · refine V.swI (x := opx xs i) (tgt := 700) rfl rfl (by rw [e]; decide) (by rw [e]; decide) (by rw [e]; rfl) (by decide) ?_
          exact L_uses hn hnn hd hL hi hO ht hC hM hg (nextN (fun h => by rcases h with ⟨e2, -⟩ | ⟨e2, -⟩ | ⟨e2, -⟩ | ⟨e2, -⟩ <;> omega))
        · refine V.swI (x := opx xs i) (tgt := 723) rfl rfl (by rw [e]; decide) (by rw [e]; decide) (by rw [e]; rfl) (by decide) ?_
          exact L_drawers hn hnn hd hL hi hO ht hC hM hg (nextN (fun h => by rcases h with ⟨e2, -⟩ | ⟨e2, -⟩ | ⟨e2, -⟩ | ⟨e2, -⟩ <;> omega))
        · refine V.swI (x := opx xs i) (tgt := 736) rfl rfl (by rw [e]; decide) (by rw [e]; decide) (by rw [e]; rfl) (by decide) ?_
          exact L_power hn hnn hd hL hi hO ht hC hM hg (nextN (fun h => by rcases h with ⟨e2, -⟩ | ⟨e2, -⟩ | ⟨e2, -⟩ | ⟨e2, -⟩ <;> omega))
        · refine V.swI (x := opx xs i) (tgt := 769) rfl rfl (by rw [e]; decide) (by rw [e]; decide) (by rw [e]; rfl) (by decide) ?_
          by_cases hy : zz xs (5 * i + 1) = 4
          · have h58 := yes (Or.inr (Or.inr (Or.inr ⟨e, hy⟩)))
            exact L_countT hn hnn hd hL hi hO ht hC hM hg h58 hy (next58 h58)
          · refine L_count hn hnn hd hL hi hO ht hC hM hg hy (nextN (fun h => ?_))
            rcases h with ⟨e2, -⟩ | ⟨e2, -⟩ | ⟨e2, -⟩ | ⟨-, h⟩
            · omega
            · omega
            · omega
            · exact hy h
      · refine V.swO (x := opx xs i) (tgt := 792) rfl rfl (by omega) (by decide) ?_
        exact nextN (fun h => by rcases h with ⟨e2, -⟩ | ⟨e2, -⟩ | ⟨e2, -⟩ | ⟨e2, -⟩ <;> omega) hO ht hC hM hg
theorem L_start {d n1 L : Nat} {xs : Nat → Int32} {Q : PQ} {σ : Mem} (hd : 48 ≤ d) (hL : L ≤ 2560) (hA : n1 = 58 ∨ (n1 = 54 ∧ ∀ j, 5 * j + 5 ≤ L → ¬ nds xs j)) (hB : n1 = 54 ∨ (n1 = 58 ∧ ∃ j, 5 * j + 5 ≤ L ∧ nds xs j)) (hQ : ∀ ρ σ, Q (some (.int 1)) ρ σ) : V M_L_law d 0 n1 (some (L, xs)) Q 0 (rho 27 31 0) σ 0 [some (.ref 0), none, none, none] [] := by
  have h54 : 54 ≤ n1 := by omega
  refine V.new 8 rfl (by decide) w_cl_10_8 w_ins_8 w_ini_8 (by decide) (by omega) ?_
  refine V.run 0 0 rfl (Nat.zero_le _) trivial ?_
  refine V.ci (d' := d - 1) (n' := 34) rfl rfl ok_X8_init (Or.inl lk_10_X8_init) rfl (by omega) (by decide) (by omega) (k_X8 (by omega) (fun σ1 i1 f1 => ?_))
  refine V.run 0 0 rfl (Nat.zero_le _) trivial ?_
  refine V.new 9 rfl (by decide) w_cl_10_9 w_ins_9 w_ini_9 (by decide) (by omega) ?_
  refine V.run 0 0 rfl (Nat.zero_le _) trivial ?_
  refine V.ci (d' := d - 1) (n' := 54) rfl rfl ok_X9_init (Or.inl lk_10_X9_init) rfl (by omega) (by decide) (by omega) (k_X9 (by omega) (fun σ2 i2 f2 => ?_))
  refine V.run 18 0 rfl (Nat.zero_le _) trivial ?_
  have hC1 : LC 27 [] [] [] 0 [1] pk0 1 1 σ1 := ⟨i1.1, i1.2.1, i1.2.2.1, i1.2.2.2.1, i1.2.2.2.2.1, i1.2.2.2.2.2⟩
  have h := L_loop (σ := σ2) hd hL hA hQ 512 0 54 (by omega) (by omega) (by omega) h54 (by
    rcases hB with e | ⟨e, j, h1, h2⟩
    · exact Or.inl e.symm
    · exact Or.inr ⟨rfl, e, j, by omega, h1, h2⟩) (Or.inl rfl) (Or.inl ⟨rfl, rfl⟩) (hC1.fr f2 (Or.inl rfl) (by decide)) (show LM [] [] 0 [1] 1 1 σ2 from ⟨i2.1, i2.2.1, i2.2.2.1, i2.2.2.2⟩) ⟨fun x => Iff.rfl, rfl⟩
  exact h
