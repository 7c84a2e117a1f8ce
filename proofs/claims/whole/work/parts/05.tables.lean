/-! ===== the tables are right ===== -/
theorem lookup_mem {α : Type} {i : Nat} {v : α} : ∀ {l : List (Nat × α)}, l.lookup i = some v → (i, v) ∈ l
  | [], h => by cases h
  | (j, w) :: l, h => by
    simp only [List.lookup] at h
    split at h
    · rename_i e
      have e := beq_iff_eq.mp e
      cases h
      subst e
      exact List.mem_cons_self
    · exact List.mem_cons_of_mem _ (lookup_mem h)
theorem getD_mem {α : Type} {o : Nat} {L : List (List α)} {x : α} (h : x ∈ L.getD o []) : o < L.length ∧ x ∈ L.getD o [] := by
  refine ⟨?_, h⟩
  rcases Nat.lt_or_ge o L.length with q | q
  · exact q
  · rw [List.getD_eq_getElem?_getD, List.getElem?_eq_none q] at h
    cases h
def fTok (o : Nat) (e : Nat × Nat × Nat) : Bool := decide (e.2.1 < 10) && decide (e.2.2 < nF e.2.1) && (decide (Cond.fieldLink (RN o) e.1 (TXn e.2.1 e.2.2).1 (TXn e.2.1 e.2.2).2.1 (TXn e.2.1 e.2.2).2.2.1 ∈ lw_tbl) && goodWord (Cond.fieldLink (RN o) e.1 (TXn e.2.1 e.2.2).1 (TXn e.2.1 e.2.2).2.1 (TXn e.2.1 e.2.2).2.2.1))
set_option maxRecDepth 100000 in
theorem fTok_0 : (fTL.getD 0 []).all (fTok 0) = true := by decide +kernel
set_option maxRecDepth 100000 in
theorem fTok_1 : (fTL.getD 1 []).all (fTok 1) = true := by decide +kernel
set_option maxRecDepth 100000 in
theorem fTok_2 : (fTL.getD 2 []).all (fTok 2) = true := by decide +kernel
set_option maxRecDepth 100000 in
theorem fTok_3 : (fTL.getD 3 []).all (fTok 3) = true := by decide +kernel
set_option maxRecDepth 100000 in
theorem fTok_4 : (fTL.getD 4 []).all (fTok 4) = true := by decide +kernel
set_option maxRecDepth 100000 in
theorem fTok_5 : (fTL.getD 5 []).all (fTok 5) = true := by decide +kernel
set_option maxRecDepth 100000 in
theorem fTok_6 : (fTL.getD 6 []).all (fTok 6) = true := by decide +kernel
set_option maxRecDepth 100000 in
theorem fTok_7 : (fTL.getD 7 []).all (fTok 7) = true := by decide +kernel
set_option maxRecDepth 100000 in
theorem fTok_8 : (fTL.getD 8 []).all (fTok 8) = true := by decide +kernel
set_option maxRecDepth 100000 in
theorem fTok_9 : (fTL.getD 9 []).all (fTok 9) = true := by decide +kernel
set_option maxRecDepth 100000 in
theorem fTok_10 : (fTL.getD 10 []).all (fTok 10) = true := by decide +kernel
theorem fTok_all : ∀ o, o < 11 → (fTL.getD o []).all (fTok o) = true := fun o h => match o, h with
  | 0, _ => fTok_0
  | 1, _ => fTok_1
  | 2, _ => fTok_2
  | 3, _ => fTok_3
  | 4, _ => fTok_4
  | 5, _ => fTok_5
  | 6, _ => fTok_6
  | 7, _ => fTok_7
  | 8, _ => fTok_8
  | 9, _ => fTok_9
  | 10, _ => fTok_10
theorem fT_ok {o i c j : Nat} (h : fT o i = some (c, j)) : c < 10 ∧ j < nF c ∧ Cond.fieldLink (RN o) i (TXn c j).1 (TXn c j).2.1 (TXn c j).2.2.1 ∈ gtbl := by
  obtain ⟨ho, hm⟩ := getD_mem (lookup_mem h)
  have h1 := List.all_eq_true.mp (fTok_all o ho) _ hm
  unfold fTok at h1
  simp only [Bool.and_eq_true, decide_eq_true_eq] at h1
  exact ⟨h1.1.1, h1.1.2, inG h1.2.1 h1.2.2⟩
set_option maxRecDepth 100000 in
theorem kI_all : ∀ o, o < 11 → (kIL.getD o []).all (fun e => decide (Cond.constant (RN o) e.1 (iZ e.2) ∈ lw_tbl) && goodWord (Cond.constant (RN o) e.1 (iZ e.2))) = true := by decide +kernel
theorem kI_ok {o i : Nat} {z : Int} (h : kI o i = some z) : Cond.constant (RN o) i (iZ z) ∈ gtbl := by
  obtain ⟨ho, hm⟩ := getD_mem (lookup_mem h)
  have h1 := List.all_eq_true.mp (kI_all o ho) _ hm
  simp only [Bool.and_eq_true, decide_eq_true_eq] at h1
  exact inG h1.1 h1.2
set_option maxRecDepth 100000 in
theorem kL_all : ∀ o, o < 11 → (kLL.getD o []).all (fun e => decide (Cond.constantLong (RN o) e.1 (lZ e.2) ∈ lw_tbl) && goodWord (Cond.constantLong (RN o) e.1 (lZ e.2))) = true := by decide +kernel
theorem kL_ok {o i : Nat} {z : Int} (h : kL o i = some z) : Cond.constantLong (RN o) i (lZ z) ∈ gtbl := by
  obtain ⟨ho, hm⟩ := getD_mem (lookup_mem h)
  have h1 := List.all_eq_true.mp (kL_all o ho) _ hm
  simp only [Bool.and_eq_true, decide_eq_true_eq] at h1
  exact inG h1.1 h1.2
theorem cl_ok : ∀ c, c < 10 → vwCl[c]? = some (RN c, TXn c, nF c) := fun c h => match c, h with
  | 0, _ => rfl
  | 1, _ => rfl
  | 2, _ => rfl
  | 3, _ => rfl
  | 4, _ => rfl
  | 5, _ => rfl
  | 6, _ => rfl
  | 7, _ => rfl
  | 8, _ => rfl
  | 9, _ => rfl
theorem nm_ok : ∀ c, c < 10 → ∀ a, a < nF c → ∀ b, b < nF c → a ≠ b → (TXn c a).2.1 ≠ (TXn c b).2.1 := fun c h => match c, h with
  | 0, _ => nmX0
  | 1, _ => nmX1
  | 2, _ => nmX2
  | 3, _ => nmX3
  | 4, _ => nmX4
  | 5, _ => nmX5
  | 6, _ => nmX6
  | 7, _ => nmX7
  | 8, _ => nmX8
  | 9, _ => nmX9
theorem ty_ok : ∀ c, c < 10 → ∀ k, k < nF c → parseFieldDescriptor (TXn c k).2.2.1 = some (tyXn c k) := fun c h => match c, h with
  | 0, _ => tyX0_ok
  | 1, _ => tyX1_ok
  | 2, _ => tyX2_ok
  | 3, _ => tyX3_ok
  | 4, _ => tyX4_ok
  | 5, _ => tyX5_ok
  | 6, _ => tyX6_ok
  | 7, _ => tyX7_ok
  | 8, _ => tyX8_ok
  | 9, _ => tyX9_ok
set_option maxRecDepth 100000 in
theorem us_ok_0 : (u_ws (RN 0) (TXn 0) (nF 0)).all (fun w => decide (w ∈ lw_tbl) && goodWord w) = true := by decide +kernel
set_option maxRecDepth 100000 in
theorem us_ok_1 : (u_ws (RN 1) (TXn 1) (nF 1)).all (fun w => decide (w ∈ lw_tbl) && goodWord w) = true := by decide +kernel
set_option maxRecDepth 100000 in
theorem us_ok_2 : (u_ws (RN 2) (TXn 2) (nF 2)).all (fun w => decide (w ∈ lw_tbl) && goodWord w) = true := by decide +kernel
set_option maxRecDepth 100000 in
theorem us_ok_3 : (u_ws (RN 3) (TXn 3) (nF 3)).all (fun w => decide (w ∈ lw_tbl) && goodWord w) = true := by decide +kernel
set_option maxRecDepth 100000 in
theorem us_ok_4 : (u_ws (RN 4) (TXn 4) (nF 4)).all (fun w => decide (w ∈ lw_tbl) && goodWord w) = true := by decide +kernel
set_option maxRecDepth 100000 in
theorem us_ok_5 : (u_ws (RN 5) (TXn 5) (nF 5)).all (fun w => decide (w ∈ lw_tbl) && goodWord w) = true := by decide +kernel
set_option maxRecDepth 100000 in
theorem us_ok_6 : (u_ws (RN 6) (TXn 6) (nF 6)).all (fun w => decide (w ∈ lw_tbl) && goodWord w) = true := by decide +kernel
set_option maxRecDepth 100000 in
theorem us_ok_7 : (u_ws (RN 7) (TXn 7) (nF 7)).all (fun w => decide (w ∈ lw_tbl) && goodWord w) = true := by decide +kernel
set_option maxRecDepth 100000 in
theorem us_ok_8 : (u_ws (RN 8) (TXn 8) (nF 8)).all (fun w => decide (w ∈ lw_tbl) && goodWord w) = true := by decide +kernel
set_option maxRecDepth 100000 in
theorem us_ok_9 : (u_ws (RN 9) (TXn 9) (nF 9)).all (fun w => decide (w ∈ lw_tbl) && goodWord w) = true := by decide +kernel
theorem us_all : ∀ c, c < 10 → (u_ws (RN c) (TXn c) (nF c)).all (fun w => decide (w ∈ lw_tbl) && goodWord w) = true := fun c h => match c, h with
  | 0, _ => us_ok_0
  | 1, _ => us_ok_1
  | 2, _ => us_ok_2
  | 3, _ => us_ok_3
  | 4, _ => us_ok_4
  | 5, _ => us_ok_5
  | 6, _ => us_ok_6
  | 7, _ => us_ok_7
  | 8, _ => us_ok_8
  | 9, _ => us_ok_9
theorem us_in (c : Nat) (h : c < 10) : ∀ w ∈ u_ws (RN c) (TXn c) (nF c), w ∈ gtbl := fun w hw => inG' (List.all_eq_true.mp (us_all c h) w hw)
theorem zk_obj : ∀ k, k < 59 → (zk k).1 < 10 → (zk k).2 = nF (zk k).1 := by decide +kernel
theorem zk_out {k : Nat} (h : 59 ≤ k) : zk k = (14, 0) := by
  unfold zk
  rw [List.getD_eq_getElem?_getD, List.getElem?_eq_none (by exact h)]
  rfl
theorem zk_n {k c : Nat} (h : (zk k).1 = c) (hc : c < 10) : (zk k).2 = nF c := by
  rcases Nat.lt_or_ge k 59 with q | q
  · rw [← h]
    exact zk_obj k q (by omega)
  · rw [zk_out q] at h
    have : 14 = c := h
    omega
theorem int_fld : ∀ c, c < 10 → ∀ j, j < nF c → isR c j = false → (TXn c j).2.2.2 = false ∧ tyXn c j = (if isB c j = true then .boolean else .int) := by decide +kernel
theorem ref_fld : ∀ c, c < 10 → ∀ j, j < nF c → isR c j = true → (tyXn c j).isReference = true := by decide +kernel
theorem zL_pos : ∀ n, n < 60 → sl n ≤ sl (n + 1) := by decide +kernel
theorem cE_obj {B : Nat} {cy : Nat → ClassId} {ρ : Ref} {σ : Mem} {k c : Nat} (h : (zk k).1 = c) (hc : c < 10) : cE B cy ρ σ k = .inr (c, (List.range (nF c)).map (fun j => fv B c j (σ k j) (ρ k j))) := by
  unfold cE
  rw [if_neg (by omega), if_neg (by omega), if_neg (by omega), if_neg (by omega), h, zk_n h hc]
theorem cE_b {B : Nat} {cy : Nat → ClassId} {ρ : Ref} {σ : Mem} {k : Nat} (h : (zk k).1 = 10) : cE B cy ρ σ k = .inl (cy 0, (zk k).2, .inl (σ k)) := by
  unfold cE
  rw [if_pos h]
theorem cE_i {B : Nat} {cy : Nat → ClassId} {ρ : Ref} {σ : Mem} {k : Nat} (h : (zk k).1 = 11) : cE B cy ρ σ k = .inl (cy 1, (zk k).2, .inl (σ k)) := by
  unfold cE
  rw [if_neg (by omega), if_pos h]
theorem cE_z {B : Nat} {cy : Nat → ClassId} {ρ : Ref} {σ : Mem} {k : Nat} (h : (zk k).1 = 12) : cE B cy ρ σ k = .inl (cy 2, (zk k).2, .inl (σ k)) := by
  unfold cE
  rw [if_neg (by omega), if_neg (by omega), if_pos h]
theorem cE_a {B : Nat} {cy : Nat → ClassId} {ρ : Ref} {σ : Mem} {k : Nat} (h : (zk k).1 = 13) : cE B cy ρ σ k = .inl (cy 3, (zk k).2, .inr (.inr (.inr (.inr (fun i => rfo B (ρ k i)))))) := by
  unfold cE
  rw [if_neg (by omega), if_neg (by omega), if_neg (by omega), if_pos h]
theorem fs_get {n j : Nat} {f : Nat → Value} (h : j < n) : ((List.range n).map f)[j]? = some (f j) := by
  rw [List.getElem?_map, List.getElem?_range h]; rfl
theorem fs_set {n j : Nat} {f g : Nat → Value} (h : ∀ i, i ≠ j → g i = f i) : ((List.range n).map f).set j (g j) = (List.range n).map g := by
  apply List.ext_getElem?
  intro i
  by_cases hi : i < n
  · by_cases hij : j = i
    · subst hij
      rw [List.getElem?_set_self (by simp; exact hi), fs_get hi]
    · rw [List.getElem?_set_ne hij, fs_get hi, fs_get hi, h i (Ne.symm hij)]
  · rw [List.getElem?_eq_none (by simp; omega), List.getElem?_eq_none (by simp; omega)]
theorem i8_iZ {n : Int} (h1 : -128 ≤ n) (h2 : n < 128) : (Int8.ofInt n).toInt32 = iZ n := by
  apply Int32.toInt.inj
  unfold iZ
  rw [Int8.toInt_toInt32, Int8.toInt_ofInt, Int32.toInt_ofInt]
  simp only [Int.bmod_def, Int8.size, Int32.size]
  omega
theorem i16_iZ {n : Int} (h1 : -32768 ≤ n) (h2 : n < 32768) : (Int16.ofInt n).toInt32 = iZ n := by
  apply Int32.toInt.inj
  unfold iZ
  rw [Int16.toInt_toInt32, Int16.toInt_ofInt, Int32.toInt_ofInt]
  simp only [Int.bmod_def, Int16.size, Int32.size]
  omega
