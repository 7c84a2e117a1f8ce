/-! ===== new things: objects, arrays, Object.<init> ===== -/
def nwS (σ : Mem) (k : Nat) : Mem := fun a => if a = k then (fun _ => 0) else σ a
def nwR (ρ : Ref) (k : Nat) : Ref := fun a => if a = k then (fun _ => 0) else ρ a
theorem nwS_ne {σ : Mem} {k a : Nat} (h : a ≠ k) : nwS σ k a = σ a := if_neg h
theorem nwS_eq {σ : Mem} {k : Nat} : nwS σ k k = fun _ => 0 := if_pos rfl
theorem nwR_ne {ρ : Ref} {k a : Nat} (h : a ≠ k) : nwR ρ k a = ρ a := if_neg h
theorem nwR_eq {ρ : Ref} {k : Nat} : nwR ρ k k = fun _ => 0 := if_pos rfl
theorem sl_at (n : Nat) : sl (n + 1) = sl n + (zk (n + 1)).2 := by
  unfold sl zk
  rw [List.take_succ (i := n + 1), List.map_append, List.sum_append, List.getD_eq_getElem?_getD]
  cases zL[n + 1]? <;> simp
theorem ra_new (B b n : Nat) : ra B b (n + 1) = B + n := by
  unfold ra
  rw [if_neg (by omega)]
  rfl
theorem def_fld : (List.range 10).all (fun a => (List.range (nF a)).all (fun j => decide (defaultValue (tyXn a j) = if isR a j = true then .null else .int 0))) = true := by decide +kernel
theorem fv_new {B a j : Nat} (ha : a < 10) (hj : j < nF a) : defaultValue (tyXn a j) = vp_V ((List.range (nF a)).map (fun j => fv B a j 0 0)) j := by
  have h := List.all_eq_true.mp (List.all_eq_true.mp def_fld a (List.mem_range.mpr ha)) j (List.mem_range.mpr hj)
  rw [of_decide_eq_true h]
  unfold vp_V
  rw [List.getD_eq_getElem?_getD, fs_get hj]
  show _ = fv B a j 0 0
  unfold fv
  split <;> rfl
theorem wd_new {B : Nat} {cy : Nat → ClassId} {D : va_G} {n : Nat} {ρ : Ref} {σ : Mem} {H H1 : Heap} (hP : va_P D vwCl (wd B cy n ρ σ) H) (hH : H.size = B + n) (o1 : ∀ q, q < B + n → H1[q]? = H[q]?) (hat : va_at D vwCl (B + n, cE B cy (nwR ρ (n + 1)) (nwS σ (n + 1)) (n + 1)) H1) : va_P D vwCl (wd B cy (n + 1) (nwR ρ (n + 1)) (nwS σ (n + 1))) H1 := by
  rw [wd_push (ρ := ρ) (σ := σ) (fun a h => nwS_ne h) (fun a h => nwR_ne h)]
  refine (hP.kept (fun k q hk => ?_)).app (fun k q hk => ?_)
  · obtain ⟨hi, rfl⟩ := wd_at hk
    exact o1 _ (by show B + k < B + n; omega)
  · have hz : k < 1 := (List.getElem?_eq_some_iff.mp hk).1
    rw [show k = 0 by omega] at hk
    cases hk
    exact hat
section NEW
variable {M : MC} {d n0 n1 : Nat} {sc : Option (Nat × (Nat → Int32))} {Q : PQ} {n : Nat} {ρ : Ref} {σ : Mem} {pc : Nat} {lv : LV} {st : List Value} {rest : List Value} {idx : Nat}
theorem V.newa {x : Int32} {atype : ArrayType} (t : Nat) (hd : hdT pc M.2.2.2.1 = some (.newarray atype, 2)) (hst : st = .int x :: rest) (ht : t < 3) (hty : ∀ cy : Nat → ClassId, (tyA cy)[t]? = some (cy t, newarray.typeOf atype)) (hdf : defaultValue (newarray.typeOf atype) = .int 0) (hra : ∀ U c, va_RA U c (newarray.typeOf atype) → U.vm.findClass ("[" ++ (newarray.typeOf atype).toString) = some c) (harr : inB (.arrayClass (newarray.typeOf atype)) = true) (hz : zk (n + 1) = (10 + t, x.toNatClampNeg)) (hx0 : ¬ x < 0) (hxb : x.toNatClampNeg ≤ 100000) (hn1 : n + 1 ≤ n1)
    (kk : V M d n0 n1 sc Q (n + 1) (nwR ρ (n + 1)) (nwS σ (n + 1)) (pc + 2) lv (.ref (n + 1) :: rest)) : V M d n0 n1 sc Q n ρ σ pc lv st := by
  intro hT p l e R s m args below meth c G B b cy D hC H locs ls hD
  have K := fun H1 hD1 => kk hT p l e R s m args below meth c G B b cy D hC H1 locs ls hD1
  obtain ⟨hx, hb, hml, hown, hts, hR, hsz, hK, hNK, hsc, hini, hfin⟩ := hC
  obtain ⟨hn0, hH, hP, hS, hlen, hl⟩ := hD
  subst hst
  have h3 := sl_mono hn1
  have h4 := sl_mono hn0
  have hs1 := sl_at n
  rw [hz] at hs1
  have hcb : componentBytes (newarray.typeOf atype) ≤ 8 := by cases atype <;> decide
  have hby : x.toNatClampNeg * componentBytes (newarray.typeOf atype) ≤ 100000 * 8 := Nat.mul_le_mul hxb hcb
  refine va_newaK (h := B + n) hx hb (hts _ (inB_ok harr)) rfl (hdT_ok hT hd) rfl hx0 rfl (by omega) (by omega) (by simp only at hs1; omega) hH (fun H' cA e1 z1 o1 hAr hNm => ?_)
  have hcA : cA = cy t := by
    have h5 := hra _ _ (hK.2 t _ (hty cy)).2
    exact Option.some.inj (hNm.symm.trans h5)
  have hcE : cE B cy (nwR ρ (n + 1)) (nwS σ (n + 1)) (n + 1) = .inl (cy t, x.toNatClampNeg, .inl (fun _ => 0)) := by
    unfold cE
    rw [hz, nwS_eq]
    rcases (show t = 0 ∨ t = 1 ∨ t = 2 by omega) with rfl | rfl | rfl <;> rfl
  have hP1 := wd_new (ρ := ρ) (σ := σ) hP hH o1 (by
    rw [hcE]
    show H'[B + n]? = some (vp_cell _ _)
    rw [vp_cell_i, ← hcA, e1, hdf])
  have K1 := K H' ⟨by omega, by omega, hP1, ⟨by have := hS.1; omega, fun q h1 h2 => by rw [o1 q (by omega)]; exact hS.2.1 q h1 h2, hS.2.2⟩, hlen, hl⟩
  have est : (Value.ref (n + 1) :: rest).map (tr B b) = .ref (B + n) :: rest.map (tr B b) := by
    rw [List.map_cons]
    show Value.ref (ra B b (n + 1)) :: _ = _
    rw [ra_new]
  rw [est, show n + 1 - n0 = n - n0 + 1 by omega, show sl (n + 1) - sl n0 = sl n - sl n0 + x.toNatClampNeg by simp only at hs1; omega] at K1
  exact K1
theorem V.new (a : Nat) (hd : hdT pc M.2.2.2.1 = some (.new idx, 3)) (ha : a < 10) (hcl : inB (.classLink (RN M.2.1) idx (RN a)) = true) (hins : inB (.instantiable (RN a) (nF a)) = true) (hin : inB (.initialized (RN a)) = true) (hz : zk (n + 1) = (a, nF a)) (hn1 : n + 1 ≤ n1)
    (kk : V M d n0 n1 sc Q (n + 1) (nwR ρ (n + 1)) (nwS σ (n + 1)) (pc + 3) lv (.ref (n + 1) :: st)) : V M d n0 n1 sc Q n ρ σ pc lv st := by
  intro hT p l e R s m args below meth c G B b cy D hC H locs ls hD
  have K := fun H1 hD1 => kk hT p l e R s m args below meth c G B b cy D hC H1 locs ls hD1
  obtain ⟨hx, hb, hml, hown, hts, hR, hsz, hK, hNK, hsc, hini, hfin⟩ := hC
  obtain ⟨hn0, hH, hP, hS, hlen, hl⟩ := hD
  have h3 := sl_mono hn1
  have h4 := sl_mono hn0
  have hs1 := sl_at n
  rw [hz] at hs1
  have hKn := hK.1 a _ (cl_ok a ha)
  refine W.newcK (h := B + n) hx hb hown (hts _ (inB_ok hcl)) (hts _ (inB_ok hins)) (hts _ (inB_ok hin)) rfl (hdT_ok hT hd) (by omega) (by simp only at hs1; omega) hKn.2.1 hH (fun H1 kC hkC e1 z1 o1 => ?_)
  have hcE : cE B cy (nwR ρ (n + 1)) (nwS σ (n + 1)) (n + 1) = .inr (a, (List.range (nF a)).map (fun j => fv B a j 0 0)) := by
    rw [cE_obj (c := a) (by rw [hz]) ha, nwS_eq, nwR_eq]
  have hP1 := wd_new (ρ := ρ) (σ := σ) hP hH o1 (by
    rw [hcE]
    exact ⟨_, cl_ok a ha, (u_born (tyXn a) hts (us_in a ha) hKn hkC e1 (ty_ok a ha)).to (fun j hj => fv_new ha hj)⟩)
  have K1 := K H1 ⟨by omega, by omega, hP1, ⟨by have := hS.1; omega, fun q h1 h2 => by rw [o1 q (by omega)]; exact hS.2.1 q h1 h2, hS.2.2⟩, hlen, hl⟩
  have est : (Value.ref (n + 1) :: st).map (tr B b) = .ref (B + n) :: st.map (tr B b) := by
    rw [List.map_cons]
    show Value.ref (ra B b (n + 1)) :: _ = _
    rw [ra_new]
  rw [est, show n + 1 - n0 = n - n0 + 1 by omega, show sl (n + 1) - sl n0 = sl n - sl n0 + nF a by simp only at hs1; omega] at K1
  exact K1
theorem V.obj {k : Nat} (hd : hdT pc M.2.2.2.1 = some (.invokespecial idx, 3)) (hst : st = .ref k :: rest) (hl : inB (.methodLink (RN M.2.1) idx Lib.objectInit) = true) (hi : inB (.instanceMethod Lib.objectInit) = true) (hcd : inB (.code Lib.objectInit ⟨#[0xb1]⟩ 1 none) = true) (hcat : Nat.ble ((rest.map fun v => v.category).sum) 8 = true) (hd1 : 1 ≤ d)
    (kk : V M d n0 n1 sc Q n ρ σ (pc + 3) lv rest) : V M d n0 n1 sc Q n ρ σ pc lv st := by
  intro hT p l e R s m args below meth c G B b cy D hC H locs ls hD
  have K := kk hT p l e R s m args below meth c G B b cy D hC H locs ls hD
  obtain ⟨hx, hb, hml, hown, hts, hR, hsz, hK, hNK, hsc, hini, hfin⟩ := hC
  obtain ⟨hn0, hH, hP, hS, hlen, hl1⟩ := hD
  subst hst
  have hc8 := Nat.le_of_ble_eq_true hcat
  refine W.objInit hx hb hown (hts _ (inB_ok hl)) (hts _ (inB_ok hi)) (hts _ (inB_ok hcd)) rfl (hl1.1.trans hml.symm) (a := ra B b k) (rest := rest.map (tr B b)) rfl (hdT_ok hT hd) (by omega) ?_ K
  show 2 * 0 + ((rest.map (tr B b)).map fun v => v.category).sum + 12 ≤ R.locals
  rw [tr_sum]
  omega
end NEW
