section SND
variable {o : Nat} {ini : Bool} {cc : ByteArray} {mL d n0 n1 : Nat} {ret : Option FieldType} {sc : Option (Nat × (Nat → Int32))} {Q : Option Value → Ref → Mem → Prop} {p : Program} {l : Launch} {e : Env} {R : Room} {s : State} {m : MethodId} {args : Array Value} {below : List Frame} {meth : Method} {c : Code} {G : State → Prop} {B b : Nat} {cy : Nat → ClassId} {D : va_G} {n : Nat} {ρ : Ref} {σ : Mem} {lv : LV} {st : List Value} {H : Heap} {locs : List Loc} {ls : Array Slot} {pc lo : Nat}

set_option maxHeartbeats 4000000 in
theorem stp_ok (hC : Cx o ini cc mL d n0 n1 ret sc Q p l e R s m args below meth c G B b cy D) (hD : Dy B b cy D mL n0 s n ρ σ lv H locs ls) (hlo : lo ≤ n) {i : Instr} {P : Option Prop} {lv2 : LV} {st2 : List Value} {σ2 : Mem} (hs : stp o lo ρ i lv st σ = some (P, lv2, st2, σ2)) (hp : ∀ q, P = some q → q) (hdg : decode cc pc = .ok (i, il i))
    (kk : ∀ (H1 : Heap) (locs1 : List Loc) (ls1 : Array Slot), Dy B b cy D mL n0 s n ρ σ2 lv2 H1 locs1 ls1 → W p l e R s m args below meth c H1 locs1 (n - n0) (sl n - sl n0) G (F0 m (pc + il i) ls1 (st2.map (tr B b)))) : W p l e R s m args below meth c H locs (n - n0) (sl n - sl n0) G (F0 m pc ls (st.map (tr B b))) := by
  obtain ⟨hx, hb, hml, hown, hts, hR, hsz, hK, hNK, hsc, hini, hfin⟩ := id hC
  obtain ⟨hn0, hH, hP, hS, hlen, hl⟩ := id hD
  cases i
  case iadd =>
    simp only [stp] at hs
    split at hs
    · cases hs
      exact lv_iadd hx hb hdg (kk H locs ls hD)
    · cases hs
  case isub =>
    simp only [stp] at hs
    split at hs
    · cases hs
      exact lv_isub hx hb hdg (kk H locs ls hD)
    · cases hs
  case imul =>
    simp only [stp] at hs
    split at hs
    · cases hs
      exact lv_imul hx hb hdg (kk H locs ls hD)
    · cases hs
  case iand =>
    simp only [stp] at hs
    split at hs
    · cases hs
      exact lv_iand hx hb hdg (kk H locs ls hD)
    · cases hs
  case ishl =>
    simp only [stp] at hs
    split at hs
    · cases hs
      exact lv_ishl hx hb hdg (kk H locs ls hD)
    · cases hs
  case ishr =>
    simp only [stp] at hs
    split at hs
    · cases hs
      exact lv_ishr hx hb hdg (kk H locs ls hD)
    · cases hs
  case ineg =>
    simp only [stp] at hs
    split at hs
    · cases hs
      exact lv_ineg hx hb hdg (kk H locs ls hD)
    · cases hs
  case land =>
    simp only [stp] at hs
    split at hs
    · cases hs
      exact lv_land hx hb hdg (kk H locs ls hD)
    · cases hs
  case lor =>
    simp only [stp] at hs
    split at hs
    · cases hs
      exact lv_lor hx hb hdg (kk H locs ls hD)
    · cases hs
  case lmul =>
    simp only [stp] at hs
    split at hs
    · cases hs
      exact lv_lmul hx hb hdg (kk H locs ls hD)
    · cases hs
  case lcmp =>
    simp only [stp] at hs
    split at hs
    · cases hs
      exact W.lcmp hx hb hdg (kk H locs ls hD)
    · cases hs
  case i2l =>
    simp only [stp] at hs
    split at hs
    · cases hs
      exact lv_i2l hx hb hdg rfl (kk H locs ls hD)
    · cases hs
  case l2i =>
    simp only [stp] at hs
    split at hs
    · cases hs
      exact lv_l2i hx hb hdg rfl (kk H locs ls hD)
    · cases hs
  case i2b =>
    simp only [stp] at hs
    split at hs
    · cases hs
      exact lv_i2b hx hb hdg rfl (kk H locs ls hD)
    · cases hs
  case lshl =>
    simp only [stp] at hs
    split at hs
    · cases hs
      exact lv_lshl hx hb hdg rfl (kk H locs ls hD)
    · cases hs
  case lshr =>
    simp only [stp] at hs
    split at hs
    · cases hs
      exact lv_lshr hx hb hdg rfl (kk H locs ls hD)
    · cases hs
  case idiv =>
    simp only [stp] at hs
    split at hs
    · cases hs
      exact lv_idiv hx hb hdg (hp _ rfl) (kk H locs ls hD)
    · cases hs
  case irem =>
    simp only [stp] at hs
    split at hs
    · cases hs
      exact lv_irem hx hb hdg (hp _ rfl) (kk H locs ls hD)
    · cases hs
  case lrem =>
    simp only [stp] at hs
    split at hs
    · cases hs
      exact lv_lrem hx hb hdg (hp _ rfl) (kk H locs ls hD)
    · cases hs
  case iconst n =>
    simp only [stp] at hs
    cases hs
    exact lv_iconst hx hb hdg rfl (kk H locs ls hD)
  case lconst n =>
    simp only [stp] at hs
    cases hs
    refine lv_lconst hx hb hdg ?_ (kk H locs ls hD)
    unfold lZ
    apply Int64.toInt.inj
    simp
  case bipush n =>
    simp only [stp] at hs
    split at hs
    · rename_i hr
      simp only [Bool.and_eq_true, decide_eq_true_eq] at hr
      cases hs
      exact lv_bipush hx hb hdg (i8_iZ hr.1 hr.2) (kk H locs ls hD)
    · cases hs
  case sipush n =>
    simp only [stp] at hs
    split at hs
    · rename_i hr
      simp only [Bool.and_eq_true, decide_eq_true_eq] at hr
      cases hs
      exact lv_sipush hx hb hdg (i16_iZ hr.1 hr.2) (kk H locs ls hD)
    · cases hs
  case ldc i =>
    simp only [stp] at hs
    split at hs
    · rename_i hr
      cases hs
      exact lv_ldc hx hb hown (hts _ (kI_ok hr)) hdg (kk H locs ls hD)
    · cases hs
  case ldc2_w i =>
    simp only [stp] at hs
    split at hs
    · rename_i hr
      cases hs
      exact lv_ldc2 hx hb hown (hts _ (kL_ok hr)) hdg (kk H locs ls hD)
    · cases hs
  case iload_n k =>
    simp only [stp] at hs
    split at hs
    · rename_i hr
      cases hs
      exact lv_iload_n hx hb hdg rfl (lvp_at hl hr) (kk H locs ls hD)
    · cases hs
  case lload_n k =>
    simp only [stp] at hs
    split at hs
    · rename_i hr
      cases hs
      exact lv_lload_n hx hb hdg rfl (lvp_at hl hr) (kk H locs ls hD)
    · cases hs
  case aload_n k =>
    simp only [stp] at hs
    split at hs
    · rename_i hr
      cases hs
      exact lv_aload_n hx hb hdg rfl (lvp_at hl hr) (kk H locs ls hD)
    · cases hs
  case iload k =>
    simp only [stp] at hs
    split at hs
    · rename_i hr
      cases hs
      exact lv_iload hx hb hdg (lvp_at hl hr) (kk H locs ls hD)
    · cases hs
  case lload k =>
    simp only [stp] at hs
    split at hs
    · rename_i hr
      cases hs
      exact lv_lload hx hb hdg (lvp_at hl hr) (kk H locs ls hD)
    · cases hs
  case istore_n k =>
    simp only [stp] at hs
    split at hs
    · split at hs
      · rename_i hr
        simp only [Bool.and_eq_true, decide_eq_true_eq] at hr
        cases hs
        refine lv_istore_n hx hb hdg rfl hl (by rw [← hlen]; exact hr.1) rfl (fun ls1 hl1 => ?_)
        exact kk H locs ls1 ⟨hn0, hH, hP, hS, by simp [hlen], lvp_st1 hr.1 hr.2 hl1⟩
      · cases hs
    · cases hs
  case istore k =>
    simp only [stp] at hs
    split at hs
    · split at hs
      · rename_i hr
        simp only [Bool.and_eq_true, decide_eq_true_eq] at hr
        cases hs
        refine lv_istore hx hb hdg hl (by rw [← hlen]; exact hr.1) rfl (fun ls1 hl1 => ?_)
        exact kk H locs ls1 ⟨hn0, hH, hP, hS, by simp [hlen], lvp_st1 hr.1 hr.2 hl1⟩
      · cases hs
    · cases hs
  case astore_n k =>
    simp only [stp] at hs
    split at hs
    · split at hs
      · rename_i hr
        simp only [Bool.and_eq_true, decide_eq_true_eq] at hr
        cases hs
        refine lv_astore_n hx hb hdg rfl hl (by rw [← hlen]; exact hr.1) rfl (fun ls1 hl1 => ?_)
        exact kk H locs ls1 ⟨hn0, hH, hP, hS, by simp [hlen], lvp_st1 hr.1 hr.2 hl1⟩
      · cases hs
    · cases hs
  case lstore_n k =>
    simp only [stp] at hs
    split at hs
    · split at hs
      · rename_i hr
        simp only [Bool.and_eq_true, decide_eq_true_eq] at hr
        cases hs
        refine lv_lstore_n hx hb hdg rfl hl (by rw [← hlen]; exact hr.1) rfl (fun ls1 hl1 => ?_)
        exact kk H locs ls1 ⟨hn0, hH, hP, hS, by simp [hlen], lvp_st2 hr.1 hr.2 hl1⟩
      · cases hs
    · cases hs
  case lstore k =>
    simp only [stp] at hs
    split at hs
    · split at hs
      · rename_i hr
        simp only [Bool.and_eq_true, decide_eq_true_eq] at hr
        cases hs
        refine lv_lstore hx hb hdg hl (by rw [← hlen]; exact hr.1) rfl (fun ls1 hl1 => ?_)
        exact kk H locs ls1 ⟨hn0, hH, hP, hS, by simp [hlen], lvp_st2 hr.1 hr.2 hl1⟩
      · cases hs
    · cases hs
  case iinc k z =>
    simp only [stp] at hs
    split at hs
    · rename_i x hv
      split at hs
      · rename_i hr
        simp only [Bool.and_eq_true, decide_eq_true_eq] at hr
        cases hs
        obtain ⟨q, hq⟩ := List.getElem?_of_mem (lvp_mem (B := B) (b := b).mpr ⟨_, hv, rfl⟩)
        refine lv_iinc (v := x + iZ z) hx hb hdg hl hq rfl (by rw [← hlen]; exact hr.1) rfl (fun ls1 hl1 => ?_)
        exact kk H locs ls1 ⟨hn0, hH, hP, hS, by simp [hlen], lvp_st1 hr.1 hr.2 hl1⟩
      · cases hs
    · cases hs
  case dup =>
    simp only [stp] at hs
    split at hs
    · split at hs
      · rename_i hr
        cases hs
        exact lv_dup hx hb hdg (by rw [tr_cat]; exact hr) (kk H locs ls hD)
      · cases hs
    · cases hs
  case pop =>
    simp only [stp] at hs
    split at hs
    · split at hs
      · rename_i hr
        cases hs
        exact lv_pop hx hb hdg (by rw [tr_cat]; exact hr) (kk H locs ls hD)
      · cases hs
    · cases hs
  case dup2 =>
    simp only [stp] at hs
    split at hs
    · split at hs
      · rename_i hr
        split at hs
        · rename_i hr2
          cases hs
          exact lv_dup2_11 hx hb hdg (by rw [tr_cat]; exact hr) (by rw [tr_cat]; exact hr2) (kk H locs ls hD)
        · cases hs
      · cases hs
    · cases hs
  case aconst_null =>
    simp only [stp] at hs
    cases hs
    exact lv_null hx hb hdg (kk H locs ls hD)
  case getfield i =>
    simp only [stp] at hs
    split at hs
    · split at hs
      · rename_i hf
        split at hs
        · rename_i hk
          cases hs
          exact sn_get hC hD hlo hf hk hdg (kk H locs ls hD)
        · cases hs
      · cases hs
    · cases hs
  case putfield i =>
    simp only [stp] at hs
    split at hs
    · split at hs
      · rename_i hf
        split at hs
        · rename_i hk
          simp only [Bool.and_eq_true, Bool.not_eq_true'] at hk
          split at hs
          · cases hs
            exact sn_put hC hD hlo hf hk.1 hk.2 (fun _ => hp _ rfl) hdg (fun H1 locs1 hD1 => kk H1 locs1 ls hD1)
          · rename_i hq
            cases hs
            exact sn_put hC hD hlo hf hk.1 hk.2 (fun h => absurd h hq) hdg (fun H1 locs1 hD1 => kk H1 locs1 ls hD1)
        · cases hs
      · cases hs
    · cases hs
  case iaload =>
    simp only [stp] at hs
    split at hs
    · split at hs
      · rename_i hk
        cases hs
        exact sn_iald hC hD hlo hk (hp _ rfl) hdg (kk H locs ls hD)
      · cases hs
    · cases hs
  case aaload =>
    simp only [stp] at hs
    split at hs
    · split at hs
      · rename_i hk
        cases hs
        exact sn_aald hC hD hlo hk (hp _ rfl) hdg (kk H locs ls hD)
      · cases hs
    · cases hs
  case baload =>
    simp only [stp] at hs
    split at hs
    · split at hs
      · rename_i hk
        cases hs
        exact sn_bald hC hD hlo hk (hp _ rfl) hdg (kk H locs ls hD)
      · split at hs
        · rename_i hk
          cases hs
          exact sn_zald hC hD hlo hk (hp _ rfl) hdg (kk H locs ls hD)
        · cases hs
    · cases hs
  case iastore =>
    simp only [stp] at hs
    split at hs
    · split at hs
      · rename_i hk
        cases hs
        exact sn_iast hC hD hlo hk (hp _ rfl) hdg (fun H1 locs1 hD1 => kk H1 locs1 ls hD1)
      · cases hs
    · cases hs
  case bastore =>
    simp only [stp] at hs
    split at hs
    · split at hs
      · rename_i hk
        cases hs
        exact sn_bast hC hD hlo hk (hp _ rfl) hdg (fun H1 locs1 hD1 => kk H1 locs1 ls hD1)
      · split at hs
        · rename_i hk
          cases hs
          exact sn_zast hC hD hlo hk (hp _ rfl) hdg (fun H1 locs1 hD1 => kk H1 locs1 ls hD1)
        · cases hs
    · cases hs
  all_goals (simp only [stp] at hs; cases hs)
end SND
