/-! ===== rows of rows: the rule ===== -/
def muM (σ : Mem) (n : Nat) : Mem := fun a => if n < a ∧ a ≤ n + 5 then (fun _ => 0) else σ a
def muR (ρ : Ref) (n : Nat) : Ref := fun a => if a = n + 1 then (fun i => if i < 4 then n + 2 + i else 0) else if n + 1 < a ∧ a ≤ n + 5 then (fun _ => 0) else ρ a
def ocF (a : Nat) : Nat → Nat → Value
  | 0 => fun _ => .null
  | i + 1 => updV (ocF a i) i (.ref (a + 1 + i))
theorem ocC_arr (cA : ClassId) (a : Nat) : ∀ i, ocC cA a i = arrV cA 4 (ocF a i)
  | 0 => arrV_new cA 4 .null
  | i + 1 => by
    show (ocC cA a i).setSlot i _ = _
    rw [ocC_arr cA a i, arrV_store]
    rfl
theorem arrV_same {cA : ClassId} {N : Nat} {f g : Nat → Value} (h : ∀ j, j < N → f j = g j) : arrV cA N f = arrV cA N g := by
  unfold arrV
  have e : (fun j : _root_.Fin N => f j.val) = (fun j : _root_.Fin N => g j.val) := funext (fun j => h j.val j.isLt)
  rw [e]
theorem ocF_at (B n : Nat) : ∀ j, j < 4 → ocF (B + n) 4 j = va_rf (rfo B (if j < 4 then n + 2 + j else 0)) := by
  intro j hj
  rw [if_pos hj]
  unfold rfo
  rw [if_neg (by omega)]
  show ocF (B + n) 4 j = .ref (B + (n + 2 + j - 1))
  rw [show B + (n + 2 + j - 1) = B + n + 1 + j by omega]
  rcases (show j = 0 ∨ j = 1 ∨ j = 2 ∨ j = 3 by omega) with rfl | rfl | rfl | rfl <;> rfl
section MULV
variable {M : MC} {d n0 n1 : Nat} {sc : Option (Nat × (Nat → Int32))} {Q : PQ} {n : Nat} {ρ : Ref} {σ : Mem} {pc : Nat} {lv : LV} {st : List Value} {rest : List Value} {idx : Nat}
theorem V.multi {N : Int32} (hd : hdT pc M.2.2.2.1 = some (.multianewarray idx 2, 4)) (hst : st = .int N :: .int 4 :: rest) (hcl : inB (.classLink (RN M.2.1) idx "[[I") = true) (hz0 : zk (n + 1) = (13, 4)) (hz : ∀ j, j < 4 → zk (n + 2 + j) = (11, N.toNatClampNeg)) (hN : ¬ N < 0) (hNb : N.toNatClampNeg ≤ 100000) (hn1 : n + 5 ≤ n1)
    (kk : V M d n0 n1 sc Q (n + 5) (muR ρ n) (muM σ n) (pc + 4) lv (.ref (n + 1) :: rest)) : V M d n0 n1 sc Q n ρ σ pc lv st := by
  intro hT p l e R s m args below meth c G B b cy D hC H locs ls hD
  have K := fun H1 locs1 hD1 => kk hT p l e R s m args below meth c G B b cy D hC H1 locs1 ls hD1
  obtain ⟨hx, hb, hml, hown, hts, hR, hsz, hK, hNK, hsc, hini, hfin⟩ := hC
  obtain ⟨hn0, hH, hP, hS, hlen, hl⟩ := hD
  subst hst
  have h3 := sl_mono hn1
  have h4 := sl_mono hn0
  have hs1 := sl_at n
  have hs2 := sl_at (n + 1)
  have hs3 := sl_at (n + 2)
  have hs4 := sl_at (n + 3)
  have hs5 := sl_at (n + 4)
  have hz1 := hz 0 (by omega)
  have hz2 := hz 1 (by omega)
  have hz3 := hz 2 (by omega)
  have hz4 := hz 3 (by omega)
  simp only [Nat.add_assoc, Nat.reduceAdd, Nat.add_zero] at hs2 hs3 hs4 hs5 hz1 hz2 hz3 hz4
  rw [hz0] at hs1
  rw [hz1] at hs2
  rw [hz2] at hs3
  rw [hz3] at hs4
  rw [hz4] at hs5
  simp only at hs1 hs2 hs3 hs4 hs5
  have hsum : sl (n + 5) = sl n + (4 + N.toNatClampNeg * 4) := by omega
  refine W.multi2 hx hb hown (hts _ (inB_ok hcl)) hNK.2 rfl (hdT_ok hT hd) rfl hN hNb (by omega) (by omega) (fun H' locs' cA cI hlo hfA hfI z1 o1 e0 e1 => ?_)
  rw [hH] at z1 o1 e0 e1 hlo
  have hcA : cA = cy 3 := by
    have h5 := (hK.2 3 _ (show (tyA cy)[3]? = some (cy 3, .array .int) from rfl)).2
    exact Option.some.inj (hfA.symm.trans h5)
  have hcI : cI = cy 1 := by
    have h5 := (hK.2 1 _ (show (tyA cy)[1]? = some (cy 1, .int) from rfl)).2
    exact Option.some.inj (hfI.symm.trans h5)
  subst hcA
  subst hcI
  have hP1 : va_P D vwCl (wd B cy (n + 5) (muR ρ n) (muM σ n)) H' := by
    intro k q hk
    obtain ⟨hi, rfl⟩ := wd_at hk
    rcases Nat.lt_or_ge k n with hkn | hkn
    · rw [cE_congr (σ' := muM σ n) (ρ' := muR ρ n) (σ := σ) (ρ := ρ) (if_neg (by omega)) (by
        show (if k + 1 = n + 1 then _ else if n + 1 < k + 1 ∧ k + 1 ≤ n + 5 then _ else ρ (k + 1)) = _
        rw [if_neg (by omega), if_neg (by omega)])]
      exact (hP k _ (wd_get (k := k + 1) (by omega) (by omega))).kept (o1 (B + k) (by omega))
    · rcases Nat.eq_or_lt_of_le hkn with hke | hke
      · subst hke
        have hcE : cE B cy (muR ρ n) (muM σ n) (n + 1) = .inl (cy 3, 4, .inr (.inr (.inr (.inr (fun i => rfo B (if i < 4 then n + 2 + i else 0)))))) := by
          unfold cE
          rw [hz0]
          show (Sum.inl (cy 3, 4, .inr (.inr (.inr (.inr (fun i => rfo B (muR ρ n (n + 1) i)))))) : va_E) = _
          rw [show muR ρ n (n + 1) = (fun i => if i < 4 then n + 2 + i else 0) from if_pos rfl]
        rw [hcE]
        show H'[B + n]? = some (vp_cell _ _)
        rw [vp_cell_q, e0, ocC_arr]
        exact congrArg some (arrV_same (ocF_at B n))
      · have hcE : cE B cy (muR ρ n) (muM σ n) (k + 1) = .inl (cy 1, N.toNatClampNeg, .inl (fun _ => 0)) := by
          have hzk := hz (k - n - 1) (by omega)
          rw [show n + 2 + (k - n - 1) = k + 1 by omega] at hzk
          unfold cE
          rw [hzk]
          show (Sum.inl (cy 1, N.toNatClampNeg, .inl (muM σ n (k + 1))) : va_E) = _
          rw [show muM σ n (k + 1) = (fun _ => 0) from if_pos (by omega)]
        rw [hcE]
        show H'[B + k]? = some (vp_cell _ _)
        have h6 := e1 (k - n - 1) (by omega)
        rw [show B + n + 1 + (k - n - 1) = B + k by omega] at h6
        rw [vp_cell_i, h6]
        exact congrArg some (arrV_new (cy 1) N.toNatClampNeg (.int 0))
  have K1 := K H' locs' ⟨by omega, by omega, hP1, ⟨by have := hS.1; omega, fun q h1 h2 => by rw [o1 q (by omega)]; exact hS.2.1 q h1 h2, fun x hx => by
    rcases hlo x hx with h | h
    · exact hS.2.2 x h
    · rw [h]
      exact Nat.le_add_right _ _⟩, hlen, hl⟩
  have est : (Value.ref (n + 1) :: rest).map (tr B b) = .ref (B + n) :: rest.map (tr B b) := by
    rw [List.map_cons]
    show Value.ref (ra B b (n + 1)) :: _ = _
    rw [ra_new]
  rw [est, show n + 5 - n0 = n - n0 + 5 by omega, show sl (n + 5) - sl n0 = sl n - sl n0 + (4 + N.toNatClampNeg * 4) by omega, ← hH] at K1
  exact K1
end MULV
