/-! ===== the law: what stands between two calls ===== -/
def LC (O : Nat) (ws vs tx : List Nat) (kind : Nat) (c : List Nat) (pk : Nat → Nat × Nat) (p q : Nat) (σ : Mem) : Prop := shortI σ ∧ gthM 18 σ ws ∧ gthM 20 σ vs ∧ brgM σ p q ∧ txtM σ tx ∧ chnM O σ kind c pk
def LM (gs tx : List Nat) (kind : Nat) (c : List Nat) (p q : Nat) (σ : Mem) : Prop := goalsM σ gs ∧ pricesM σ p q ∧ textM σ tx ∧ chainM σ kind c
theorem shortI.tr {σ σ' : Mem} (h : shortI σ) (t : trI0 σ') (hf : ∀ a, 6 ≤ a → a ≤ 17 → σ' a = σ a) : shortI σ' := by
  obtain ⟨h1, h2, h3, h4⟩ := h
  refine ⟨t, ?_, ?_, foI.same h4 (fun j _ => by rw [hf 6 (by decide) (by decide)]) (hf 17 (by decide) (by decide))⟩
  · intro K N hK hN
    rw [hf (8 + K) (by omega) (by omega)]
    exact h2 K N hK hN
  · intro K N hK hN
    rw [hf (13 + K) (by omega) (by omega)]
    exact h3 K N hK hN
theorem LC.fr {O : Nat} {ws vs tx : List Nat} {kind : Nat} {c : List Nat} {pk : Nat → Nat × Nat} {p q : Nat} {σ σ' : Mem} {S : List Nat} (h : LC O ws vs tx kind c pk p q σ) (hf : Fr S σ σ') (hO : O = 27 ∨ O = 31) (hS : ∀ a ∈ S, 35 ≤ a) : LC O ws vs tx kind c pk p q σ' := by
  have nS : ∀ a, a < 35 → a ∉ S := fun a ha q => by have := hS a q; omega
  obtain ⟨h1, h2, h3, h4, h5, h6⟩ := h
  refine ⟨h1.fr hf (fun a ha hm => ?_), h2.fr hf (nS _ (by decide)) (nS _ (by decide)), h3.fr hf (nS _ (by decide)) (nS _ (by decide)), h4.fr hf (nS _ (by decide)), h5.fr hf (nS _ (by decide)) (nS _ (by decide)), h6.fr hf (nS _ (by omega)) (nS _ (by omega)) (nS _ (by omega)) (nS _ (by omega))⟩
  have h7 : ∀ b ∈ SH, b < 35 := by decide
  have := h7 a hm
  have := hS a ha
  omega
theorem goalsM.k {σ σ' : Mem} {gs : List Nat} (h : goalsM σ gs) (h0 : σ' 35 0 = σ 35 0) (h1 : σ' 36 = σ 36) : goalsM σ' gs := by
  unfold goalsM at *
  rw [h0, h1]
  exact h
theorem pricesM.k {σ σ' : Mem} {p q : Nat} (h : pricesM σ p q) (h0 : σ' 35 2 = σ 35 2) (h1 : σ' 35 3 = σ 35 3) : pricesM σ' p q := by
  unfold pricesM at *
  rw [h0, h1]
  exact h
theorem textM.k {σ σ' : Mem} {tx : List Nat} (h : textM σ tx) (h0 : σ' 35 4 = σ 35 4) (h1 : σ' 37 = σ 37) : textM σ' tx := by
  unfold textM at *
  rw [h0, h1]
  exact h
theorem chainM.k {σ σ' : Mem} {kind : Nat} {c : List Nat} (h : chainM σ kind c) (h0 : σ' 35 6 = σ 35 6) (h1 : σ' 35 7 = σ 35 7) (h2 : σ' 38 = σ 38) : chainM σ' kind c := by
  unfold chainM at *
  rw [h0, h1, h2]
  exact h
theorem LM.keep {gs tx : List Nat} {kind : Nat} {c : List Nat} {p q : Nat} {σ σ' : Mem} (h : LM gs tx kind c p q σ) (h35 : ∀ j, j < 8 → σ' 35 j = σ 35 j) (h36 : σ' 36 = σ 36) (h37 : σ' 37 = σ 37) (h38 : σ' 38 = σ 38) : LM gs tx kind c p q σ' :=
  ⟨h.1.k (h35 0 (by decide)) h36, h.2.1.k (h35 2 (by decide)) (h35 3 (by decide)), h.2.2.1.k (h35 4 (by decide)) h37, h.2.2.2.k (h35 6 (by decide)) (h35 7 (by decide)) h38⟩
theorem LM.fr {gs tx : List Nat} {kind : Nat} {c : List Nat} {p q : Nat} {σ σ' : Mem} {S : List Nat} (h : LM gs tx kind c p q σ) (hf : Fr S σ σ') (hS : ∀ a ∈ S, a < 35 ∨ 38 < a) : LM gs tx kind c p q σ' := by
  have nS : ∀ a, 35 ≤ a → a ≤ 38 → a ∉ S := fun a h1 h2 q => by have := hS a q; omega
  exact h.keep (fun j _ => by rw [hf 35 (nS 35 (by decide) (by decide))]) (hf 36 (nS 36 (by decide) (by decide))) (hf 37 (nS 37 (by decide) (by decide))) (hf 38 (nS 38 (by decide) (by decide)))
def zz (xs : Nat → Int32) (k : Nat) : Int := (xs k).toInt
theorem zz_b {xs : Nat → Int32} {k : Nat} : -2147483648 ≤ zz xs k ∧ zz xs k < 2147483648 := by
  have h1 := Int32.le_toInt (xs k)
  have h2 := Int32.toInt_lt (xs k)
  unfold zz
  omega
theorem zz_eq {xs : Nat → Int32} {k : Nat} : iZ (zz xs k) = xs k := Int32.ofInt_toInt _
section GX
variable {i L : Nat} {xs : Nat → Int32}
theorem gX0 (hL : L ≤ 2560) (hi : 5 * i + 5 ≤ L) : xs (ix (iZ ((5 * i : Nat) : Int))) = iZ (zz xs (5 * i)) := by
  rw [ix_N (by omega), zz_eq]
theorem gX1 (hL : L ≤ 2560) (hi : 5 * i + 5 ≤ L) : xs (ix (iZ ((5 * i : Nat) : Int) + iZ 1)) = iZ (zz xs (5 * i + 1)) := by
  rw [iZ_add, show ((5 * i : Nat) : Int) + 1 = ((5 * i + 1 : Nat) : Int) by omega, ix_N (by omega), zz_eq]
theorem gX2 (hL : L ≤ 2560) (hi : 5 * i + 5 ≤ L) : xs (ix (iZ ((5 * i : Nat) : Int) + iZ 2)) = iZ (zz xs (5 * i + 2)) := by
  rw [iZ_add, show ((5 * i : Nat) : Int) + 2 = ((5 * i + 2 : Nat) : Int) by omega, ix_N (by omega), zz_eq]
theorem gX3 (hL : L ≤ 2560) (hi : 5 * i + 5 ≤ L) : xs (ix (iZ ((5 * i : Nat) : Int) + iZ 3)) = iZ (zz xs (5 * i + 3)) := by
  rw [iZ_add, show ((5 * i : Nat) : Int) + 3 = ((5 * i + 3 : Nat) : Int) by omega, ix_N (by omega), zz_eq]
theorem gX4 (hL : L ≤ 2560) (hi : 5 * i + 5 ≤ L) : xs (ix (iZ ((5 * i : Nat) : Int) + iZ 4)) = iZ (zz xs (5 * i + 4)) := by
  rw [iZ_add, show ((5 * i : Nat) : Int) + 4 = ((5 * i + 4 : Nat) : Int) by omega, ix_N (by omega), zz_eq]
theorem nX0 (hL : L ≤ 2560) (hi : 5 * i + 5 ≤ L) : vp_in (iZ ((5 * i : Nat) : Int)) L := in_N (by omega) (by omega)
theorem nX1 (hL : L ≤ 2560) (hi : 5 * i + 5 ≤ L) : vp_in (iZ ((5 * i : Nat) : Int) + iZ 1) L := by
  rw [iZ_add]
  exact in_iZ (by omega) (by omega)
theorem nX2 (hL : L ≤ 2560) (hi : 5 * i + 5 ≤ L) : vp_in (iZ ((5 * i : Nat) : Int) + iZ 2) L := by
  rw [iZ_add]
  exact in_iZ (by omega) (by omega)
theorem nX3 (hL : L ≤ 2560) (hi : 5 * i + 5 ≤ L) : vp_in (iZ ((5 * i : Nat) : Int) + iZ 3) L := by
  rw [iZ_add]
  exact in_iZ (by omega) (by omega)
theorem nX4 (hL : L ≤ 2560) (hi : 5 * i + 5 ≤ L) : vp_in (iZ ((5 * i : Nat) : Int) + iZ 4) L := by
  rw [iZ_add]
  exact in_iZ (by omega) (by omega)
end GX
def LK (d n1 L : Nat) (xs : Nat → Int32) (Q : PQ) (i n : Nat) : Prop := ∀ {O tr : Nat} {ws vs tx : List Nat} {kind : Nat} {c : List Nat} {pk : Nat → Nat × Nat} {p q : Nat} {gs : List Nat} {σ : Mem}, (O = 27 ∨ O = 31) → treeS n tr σ → LC O ws vs tx kind c pk p q σ → LM gs tx kind c p q σ → gsR gs ws → V M_L_law d 0 n1 (some (L, xs)) Q n (rho O (58 - O) tr) σ 792 [some (.ref 0), some (.ref 1), some (.ref 35), some (.int (iZ ((5 * i : Nat) : Int)))] []
section CU
variable {d n ca cb tr : Nat} {Q : PQ} {σ : Mem}
theorem c_roadU (hd : 47 ≤ d) {R N W : Int} (hR : R = 3) (hN : -2147483648 ≤ N ∧ N < 2147483648) (hW : -2147483648 ≤ W ∧ W < 2147483648) (g : A_isRoad R N W) (ht : treeS n tr σ) (hQ : ∀ σ', ptM σ' → Fr [23, 24, 55, 56, 57, 58] σ σ' → Q (some (.int (iZ (((roadL R.toNat N.toNat W.toNat).length : Int) - 1)))) (rho ca cb 55) σ') : Mt M_X8_road d n 58 [.ref 1, .int (iZ R), .int (iZ N), .int (iZ W)] (rho ca cb tr) σ Q := by
  subst hR
  exact c_roadT hd hN hW g ht hQ
theorem c_stepU (hd : 47 ≤ d) {R N W i : Int} (hR : R = 3) (hN : -2147483648 ≤ N ∧ N < 2147483648) (hW : -2147483648 ≤ W ∧ W < 2147483648) (hi : 0 ≤ i ∧ i < 2147483648) (g : A_isRoad R N W) (ht : treeS n tr σ) (hQ : ∀ σ', ptM σ' → Fr [23, 24, 55, 56, 57, 58] σ σ' → Q (some (.int (iZ (if i < (roadL R.toNat N.toNat W.toNat).length then ((roadL R.toNat N.toNat W.toNat).getD i.toNat 0 : Nat) else -4)))) (rho ca cb 55) σ') : Mt M_X8_step d n 58 [.ref 1, .int (iZ R), .int (iZ N), .int (iZ W), .int (iZ i)] (rho ca cb tr) σ Q := by
  subst hR
  exact c_stepT hd hN hW hi g ht hQ
theorem c_goodU (hd : 47 ≤ d) {R W m : Int} (hR : R = 3) (hW : -2147483648 ≤ W ∧ W < 2147483648) (hm : -2147483648 ≤ m ∧ m < 2147483648) (hI : shortI σ) (ht : treeS n tr σ) (g : A_isGood R W m) (hQ : ∀ σ', shortI σ' → ptM σ' → Fr GDT σ σ' → Q (some (.int (iZ (goodN R.toNat W.toNat m.toNat : Nat)))) (rho ca cb 55) σ') : Mt M_X8_good d n 58 [.ref 1, .int (iZ R), .int (iZ W), .int (iZ m)] (rho ca cb tr) σ Q := by
  subst hR
  exact c_goodT hd hW hm hI ht g hQ
theorem c_countU (hd : 6 ≤ d) {z : Int} (hz : z = 4) (ht : treeS n tr σ) (hQ : ∀ σ', ptM σ' → Fr [55, 56, 57, 58] σ σ' → Q (some (.int (iZ 970))) (rho ca cb 55) σ') : Mt M_X8_count d n 58 [.ref 1, .int (iZ z)] (rho ca cb tr) σ Q := by
  subst hz
  exact c_countT hd ht hQ
end CU
