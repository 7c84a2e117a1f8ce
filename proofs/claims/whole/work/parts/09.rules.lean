/-! ===== branches, returns, calls ===== -/
def hdT (pc : Nat) (T : List (Nat × Instr × Nat)) : Option (Instr × Nat) := match dropT pc T with
  | [] => none
  | e :: _ => some e.2
theorem hdT_ok {cc : ByteArray} {T : List (Nat × Instr × Nat)} (h : tabOk cc T = true) {pc : Nat} {i : Instr} {k : Nat} (hd : hdT pc T = some (i, k)) : decode cc pc = .ok (i, k) := by
  unfold hdT at hd
  cases hq : dropT pc T with
  | nil => rw [hq] at hd; cases hd
  | cons e T' =>
    rw [hq] at hd
    simp only [Option.some.injEq] at hd
    have h1 := dropT_pc hq
    have h2 := tabOk_at h (dropT_sub (T := T) (by rw [hq]; exact List.mem_cons_self))
    rw [h1, hd] at h2
    exact h2
def brI (i : Instr) (pc : Nat) (st : List Value) : Option (Prop × Nat × Nat × List Value) := match i with
  | .if_icmp cd off => match decide (0 ≤ (pc : Int) + off) with
    | true => match st with
      | .int y :: .int x :: st => match cd with
        | .lt => some (x < y, ((pc : Int) + off).toNat, pc + 3, st)
        | .ge => some (y ≤ x, ((pc : Int) + off).toNat, pc + 3, st)
        | .gt => some (y < x, ((pc : Int) + off).toNat, pc + 3, st)
        | .le => some (x ≤ y, ((pc : Int) + off).toNat, pc + 3, st)
        | .eq => some (x = y, ((pc : Int) + off).toNat, pc + 3, st)
        | .ne => some (x = y, pc + 3, ((pc : Int) + off).toNat, st)
      | _ => none
    | false => none
  | .ifCond cd off => match decide (0 ≤ (pc : Int) + off) with
    | true => match st with
      | .int x :: st => match cd with
        | .lt => some (x < 0, ((pc : Int) + off).toNat, pc + 3, st)
        | .ge => some (0 ≤ x, ((pc : Int) + off).toNat, pc + 3, st)
        | .gt => some (0 < x, ((pc : Int) + off).toNat, pc + 3, st)
        | .le => some (x ≤ 0, ((pc : Int) + off).toNat, pc + 3, st)
        | .eq => some (x = 0, ((pc : Int) + off).toNat, pc + 3, st)
        | .ne => some (x = 0, pc + 3, ((pc : Int) + off).toNat, st)
      | _ => none
    | false => none
  | _ => none
def brL (T : List (Nat × Instr × Nat)) (pc : Nat) (st : List Value) : Option (Prop × Nat × Nat × List Value) := match hdT pc T with
  | some (i, k) => match k == 3 with
    | true => brI i pc st
    | false => none
  | none => none
theorem sl_succ (n : Nat) : sl n ≤ sl (n + 1) := by
  unfold sl
  rw [List.take_succ (i := n + 1), List.map_append, List.sum_append]
  exact Nat.le_add_right _ _
theorem sl_mono {a b : Nat} (h : a ≤ b) : sl a ≤ sl b := by
  obtain ⟨k, rfl⟩ := Nat.exists_eq_add_of_le h
  clear h
  induction k with
  | zero => exact Nat.le_refl _
  | succ k ih => exact Nat.le_trans ih (sl_succ (a + k))
section RUL
variable {M : MC} {d n0 n1 : Nat} {sc : Option (Nat × (Nat → Int32))} {Q : PQ} {n : Nat} {ρ : Ref} {σ : Mem} {pc : Nat} {lv : LV} {st : List Value}
set_option maxHeartbeats 4000000 in
theorem V.br {c : Prop} {p1 p2 : Nat} {st2 : List Value} (h : brL M.2.2.2.1 pc st = some (c, p1, p2, st2)) (k1 : c → V M d n0 n1 sc Q n ρ σ p1 lv st2) (k2 : ¬ c → V M d n0 n1 sc Q n ρ σ p2 lv st2) : V M d n0 n1 sc Q n ρ σ pc lv st := by
  intro hT p l e R s m args below meth cd G B b cy D hC H locs ls hD
  have K1 := fun hc => k1 hc hT p l e R s m args below meth cd G B b cy D hC H locs ls hD
  have K2 := fun hc => k2 hc hT p l e R s m args below meth cd G B b cy D hC H locs ls hD
  obtain ⟨hx, hb, -⟩ := hC
  clear k1 k2
  unfold brL at h
  cases hd : hdT pc M.2.2.2.1 with
  | none => rw [hd] at h; cases h
  | some r =>
    obtain ⟨i, k⟩ := r
    simp only [hd] at h
    cases hk : (k == 3) with
    | false => rw [hk] at h; cases h
    | true =>
      simp only [hk] at h
      have hk := beq_iff_eq.mp hk
      subst hk
      have hdg := hdT_ok hT hd
      unfold brI at h
      split at h
      · split at h
        · rename_i h0
          have h0 := of_decide_eq_true h0
          split at h
          · split at h <;> cases h
            · exact lv_icmp_lt hx hb hdg (by omega) K1 K2
            · exact lv_icmp_ge hx hb hdg (by omega) K1 K2
            · exact lv_icmp_gt hx hb hdg (by omega) K1 K2
            · exact lv_icmp_le hx hb hdg (by omega) K1 K2
            · exact lv_icmp_eq hx hb hdg (by omega) K1 K2
            · exact lv_icmp_ne hx hb hdg (by omega) K2 K1
          · cases h
        · cases h
      · split at h
        · rename_i h0
          have h0 := of_decide_eq_true h0
          split at h
          · split at h <;> cases h
            · exact lv_if_lt hx hb hdg (by omega) K1 K2
            · exact lv_if_ge hx hb hdg (by omega) K1 K2
            · exact lv_if_gt hx hb hdg (by omega) K1 K2
            · exact lv_if_le hx hb hdg (by omega) K1 K2
            · exact lv_if_eq hx hb hdg (by omega) K1 K2
            · exact lv_if_ne hx hb hdg (by omega) K2 K1
          · cases h
        · cases h
      · cases h
theorem V.ret {i : Instr} {v : Option Value} (hd : hdT pc M.2.2.2.1 = some (i, 1)) (hst : st = v.toList) (hr : rOk M.2.2.2.2.2 i v) (hn : n = n1) (hQ : Q v ρ σ) : V M d n0 n1 sc Q n ρ σ pc lv st := by
  intro hT p l e R s m args below meth cd G B b cy D hC H locs ls hD
  obtain ⟨hx, hb, hml, hown, hts, hR, hsz, hK, hNK, hsc, hini, hfin⟩ := hC
  subst hn
  subst hst
  have := hfin v ρ σ lv H locs ls pc i hr (hdT_ok hT hd) hQ hD
  cases v <;> exact this
theorem W_call {p : Program} {l : Launch} {e : Env} {R : Room} {s : State} {m : MethodId} {args : Array Value} {below : List Frame} {meth : Method} {c : Code} {G : State → Prop} {B b : Nat} {cy : Nat → ClassId} {D : va_G} {H : Heap} {locs : List Loc} {ls : Array Slot} {st0 rest : List Value} {n' : Nat} {Q' : PQ} {mL : Nat} (hsz : s.heap.size = B + n0) (hD : Dy B b cy D mL n0 s n ρ σ lv H locs ls) (hn : n ≤ n')
    (hr : va_Run p l e R s m args below meth c H locs (n - n0) (sl n - sl n0) (n' - n) (sl n' - sl n) (F0 m pc ls st0) rest (fun st oc t => ∃ (v : Option Value) (ρ' : Ref) (σ' : Mem), oc = .returned (v.map (tr B b)) ∧ Q' v ρ' σ' ∧ va_P D vwCl (wd B cy n' ρ' σ') t.heap ∧ va_F (fun q => B ≤ q) st t) (fun q => B ≤ q))
    (kk : ∀ (v : Option Value) (ρ' : Ref) (σ' : Mem), Q' v ρ' σ' → ∀ (H1 : Heap) (locs1 : List Loc), Dy B b cy D mL n0 s n' ρ' σ' lv H1 locs1 ls → W p l e R s m args below meth c H1 locs1 (n' - n0) (sl n' - sl n0) G (F0 m (pc + 3) ls ((v.map (tr B b)).toList ++ rest))) : W p l e R s m args below meth c H locs (n - n0) (sl n - sl n0) G (F0 m pc ls st0) := by
  obtain ⟨hn0, hH, hP, hS, hlen, hl⟩ := hD
  intro T hT X
  obtain ⟨v, st₀, t, T', L, h0, X', hL, e1, e2, ⟨w, ρ', σ', hw, hQ, hP1, hF⟩, st⟩ := hr T hT X
  cases hw
  rw [show n - n0 + (n' - n) = n' - n0 by omega, show sl n - sl n0 + (sl n' - sl n) = sl n' - sl n0 by have := sl_mono hn0; have := sl_mono hn; omega] at X'
  rw [← e1] at hP1
  have hF1 : H.size ≤ T'.heap.size := by
    have h1 := hF.1
    rw [h0, ← e1] at h1
    exact h1
  have hF2 : ∀ q : Nat, q < H.size → ¬ B ≤ q → T'.heap[q]? = H[q]? := by
    have h1 := hF.2
    rw [h0, ← e1] at h1
    exact h1
  have hS1 : va_S (fun q => B ≤ q) s.heap T'.heap (locs ++ L) := ⟨Nat.le_trans hS.1 hF1, fun q h1 h2 => by rw [hF2 q (Nat.lt_of_lt_of_le h1 hS.1) h2]; exact hS.2.1 q h1 h2, fun q hq => by
      rcases List.mem_append.mp hq with h | h
      · exact hS.2.2 q h
      · exact hL q h⟩
  obtain ⟨t2, a1, b1⟩ := W_size (n := n') (G := G) (g := F0 m (pc + 3) ls ((w.map (tr B b)).toList ++ rest)) (slots := sl n' - sl n0) hsz (Nat.le_trans hn0 hn) hP1 hS1 (fun hz => kk w ρ' σ' hQ T'.heap (locs ++ L) ⟨Nat.le_trans hn0 hn, hz, hP1, hS1, hlen, hl⟩) T' rfl X'
  exact ⟨t2, st t2 a1, b1⟩
end RUL
theorem Wd_blind {av : List Value} {B : Nat} {cy : Nat → ClassId} {D : va_G} {n : Nat} {ρ : Ref} {σ : Mem} : FrameBlind (va_Pc av (Wd B cy D n ρ σ)) := by
  intro a U g mk h
  obtain ⟨h1, h2, h3, h4, h5⟩ := h
  exact ⟨h1, h2, h3, va_K.moved (u := U) (U := U.calling g mk a) (Vm.Alike.refl U.vm) h4, NK.same rfl h5⟩
theorem Wd_at {s U : State} {H : Heap} {B : Nat} {cy : Nat → ClassId} {D : va_G} {n : Nat} {ρ : Ref} {σ : Mem} (hU : U.heap = H) (hW : s.WarmedH U.vm) (hH : H.size = B + n) (hP : va_P D vwCl (wd B cy n ρ σ) H) (hK : va_K D vwCl (tyA cy) s) (hNK : NK s) : Wd B cy D n ρ σ U := ⟨by rw [hU]; exact hH, by rw [hU]; exact hP, va_K.moved hW.alike hK, hNK.moved hW⟩
/-! which methods may be called -/
def inB (w : Cond) : Bool := decide (w ∈ lw_tbl) && goodWord w
theorem inB_ok {w : Cond} (h : inB w = true) : w ∈ gtbl := inG' h
def mkB (M : MC) : Bool := decide (M.1.cls = RN M.2.1) && plainName M.1.cls && inB (.code M.1 M.2.2.1 M.2.2.2.2.1 M.2.2.2.2.2) && inB (.initialized M.1.cls) && decide (M.1.cls ≠ "java/lang/invoke/MethodHandle") && decide (M.1.cls ≠ "java/lang/invoke/VarHandle") && decide (M.2.2.2.2.1 ≤ 40)
def mkN (M : MC) (k : Nat) : Bool := decide ((parseMethodDescriptor M.1.desc).map (fun d => d.parameters.length) = some k)
def mkV (M : MC) (k : Nat) : Bool := mkB M && mkN M k && inB (.instanceMethod M.1) && inB (.selects M.1.cls M.1 M.1)
def mkS (M : MC) (k : Nat) : Bool := mkB M && mkN M k && inB (.static M.1)
def mkI (M : MC) (k : Nat) : Bool := mkB M && mkN M k && inB (.instanceMethod M.1) && decide (M.1.name = "<init>") && decide (M.2.2.2.2.2 = none)
def lk (o idx : Nat) (M : MC) : Bool := inB (.methodLink (RN o) idx M.1)
theorem goodIn_code {y : MethodName} {cc : ByteArray} {mL : Nat} {ret : Option FieldType} (h : Cond.code y cc mL ret ∈ gtbl) : GoodIn gtbl (Cond.code y cc mL ret :: gtbl) := by
  intro w hw
  have h1 : w ∈ gtbl := by
    rcases List.mem_cons.mp hw with rfl | h2
    · exact h
    · exact h2
  exact ⟨h1, good_of_word (List.mem_filter.mp h1).2⟩
theorem tr_rev (B b : Nat) (As rest : List Value) : (As.reverse ++ rest).map (tr B b) = (As.map (tr B b)).reverse ++ rest.map (tr B b) := by
  rw [List.map_append, List.map_reverse]
theorem tr_sum (B b : Nat) (rest : List Value) : ((rest.map (tr B b)).map fun v => v.category).sum = (rest.map fun v => v.category).sum := by
  rw [List.map_map]
  congr 1
  exact List.map_congr_left (fun v _ => tr_cat B b v)
section CAL
variable {M : MC} {d n0 n1 : Nat} {sc : Option (Nat × (Nat → Int32))} {Q : PQ} {n : Nat} {ρ : Ref} {σ : Mem} {pc : Nat} {lv : LV} {st : List Value} {M' : MC} {d' n' k idx lo : Nat} {As rest : List Value} {Q' : PQ}
theorem call_B {R : Room} {s : State} {args : Array Value} {o : Nat} (hts : ∀ w ∈ gtbl, w.before args s = true) (hm : mkB M' = true) (hN : mkN M' As.length = true) (hl : lk o idx M' = true) (hR : d ≤ R.frames ∧ 64 * d ≤ R.locals) (hd' : d' + 1 ≤ d) : CallB R s args (RN o) idx M'.1 M'.2.2.1 M'.2.2.2.2.1 M'.2.2.2.2.2 (Cond.code M'.1 M'.2.2.1 M'.2.2.2.2.1 M'.2.2.2.2.2 :: gtbl) { frames := d', cells := n' - n, slots := sl n' - sl n, locals := 64 * d' } (n' - n) (sl n' - sl n) (As.map (tr 0 0)).length := by
  unfold mkB at hm
  unfold mkN at hN
  simp only [Bool.and_eq_true, decide_eq_true_eq] at hm hN
  obtain ⟨⟨⟨⟨⟨⟨m1, m2⟩, m3⟩, m4⟩, m5⟩, m6⟩, m7⟩ := hm
  refine callB_of _ hts (goodIn_code (inB_ok m3)) rfl rfl rfl (hts _ (inB_ok m4)) (hts _ (inB_ok hl)) ⟨m5, m6, ?_⟩ ⟨by show d' + 1 ≤ _; omega, by show 8 + (_ + 11) + 64 * d' ≤ _; omega⟩
  rw [List.length_map]
  exact hN
theorem V.cV (hd : hdT pc M.2.2.2.1 = some (.invokevirtual idx, 3)) (hst : st = As.reverse ++ .ref k :: rest) (hm : mkV M' As.length = true) (hl : lk M.2.1 idx M' = true) (hk : okC lo k M'.2.1 = true) (hk2 : M'.2.1 < 10) (hlo : lo ≤ n) (hcat : (rest.map fun v => v.category).sum ≤ 8) (hd' : d' + 1 ≤ d) (hn : n ≤ n') (hn1 : n' ≤ n1) (hM : Mt M' d' n n' (.ref k :: As) ρ σ Q')
    (kk : ∀ (v : Option Value) (ρ' : Ref) (σ' : Mem), Q' v ρ' σ' → V M d n0 n1 sc Q n' ρ' σ' (pc + 3) lv (v.toList ++ rest)) : V M d n0 n1 sc Q n ρ σ pc lv st := by
  intro hT p l e R s m args below meth c G B b cy D hC H locs ls hD
  have hC0 := hC
  have hD0 := hD
  obtain ⟨hx, hb, hml, hown, hts, hR, hsz, hK, hNK, hsc, hini, hfin⟩ := hC
  obtain ⟨hn0, hH, hP, hS, hlen, hl1⟩ := hD
  unfold mkV at hm
  simp only [Bool.and_eq_true] at hm
  obtain ⟨⟨⟨m1, m2⟩, m3⟩, m4⟩ := hm
  obtain ⟨k1, k2, k3, k4⟩ := okC_spec (B := B) (b := b) hk hlo
  have he := wd_get (B := B) (cy := cy) (ρ := ρ) (σ := σ) k1 k2
  rw [cE_obj k3 hk2] at he
  have hcls : M'.1.cls = RN M'.2.1 := by
    unfold mkB at m1
    simp only [Bool.and_eq_true, decide_eq_true_eq] at m1
    exact m1.1.1.1.1.1.1
  have hcw : CallW R s args (RN M.2.1) M'.1.cls idx M'.1 M'.2.2.1 M'.2.2.2.2.1 M'.2.2.2.2.2 (Cond.code M'.1 M'.2.2.1 M'.2.2.2.2.1 M'.2.2.2.2.2 :: gtbl) { frames := d', cells := n' - n, slots := sl n' - sl n, locals := 64 * d' } (n' - n) (sl n' - sl n) (As.map (tr B b)).length := by
    have h1 := call_B (M' := M') (d := d) (n := n) (n' := n') (idx := idx) (As := As) (o := M.2.1) hts m1 m2 hl ⟨hR.1, hR.2.1⟩ hd'
    rw [List.length_map] at h1 ⊢
    exact ⟨h1, hts _ (inB_ok m3), hts _ (inB_ok m4)⟩
  refine W_call (Q' := Q') (n' := n') (rest := rest.map (tr B b)) hsz hD0 hn (va_runV (As := As.map (tr B b)) (b := ra B b k) (C := M'.1.cls) ⟨hx, hb, hml, hown, hts⟩ (hM l B b cy D) hcw ⟨Wd_blind, ?_, fun U hU hW => ⟨rfl, Wd_at hU hW hH hP hK hNK⟩⟩ rfl rfl hl1.1 ?_ (lv_room (by rw [tr_sum]; exact hcat)) (hdT_ok hT hd) ?_) (fun v ρ' σ' hq H1 locs1 hD1 => ?_)
  · rw [hcls, k4]
    exact va_recv hK hP (cl_ok _ hk2) he
  · show st.map (tr B b) = _
    rw [hst, tr_rev]
    rfl
  · have h1 := sl_mono hn0
    have h2 := sl_mono hn
    have h3 := sl_mono hn1
    exact ⟨by omega, by omega⟩
  · have := kk v ρ' σ' hq hT p l e R s m args below meth c G B b cy D hC0 H1 locs1 ls hD1
    rw [List.map_append] at this
    cases v <;> exact this
theorem V.cS (hd : hdT pc M.2.2.2.1 = some (.invokestatic idx, 3)) (hst : st = As.reverse ++ rest) (hm : mkS M' As.length = true) (hl : lk M.2.1 idx M' = true) (hcat : (rest.map fun v => v.category).sum ≤ 8) (hd' : d' + 1 ≤ d) (hn : n ≤ n') (hn1 : n' ≤ n1) (hM : Mt M' d' n n' As ρ σ Q')
    (kk : ∀ (v : Option Value) (ρ' : Ref) (σ' : Mem), Q' v ρ' σ' → V M d n0 n1 sc Q n' ρ' σ' (pc + 3) lv (v.toList ++ rest)) : V M d n0 n1 sc Q n ρ σ pc lv st := by
  intro hT p l e R s m args below meth c G B b cy D hC H locs ls hD
  have hC0 := hC
  have hD0 := hD
  obtain ⟨hx, hb, hml, hown, hts, hR, hsz, hK, hNK, hsc, hini, hfin⟩ := hC
  obtain ⟨hn0, hH, hP, hS, hlen, hl1⟩ := hD
  unfold mkS at hm
  simp only [Bool.and_eq_true] at hm
  obtain ⟨⟨m1, m2⟩, m3⟩ := hm
  have h1 := call_B (M' := M') (d := d) (n := n) (n' := n') (idx := idx) (As := As) (o := M.2.1) hts m1 m2 hl ⟨hR.1, hR.2.1⟩ hd'
  rw [List.length_map] at h1
  refine W_call (Q' := Q') (n' := n') (rest := rest.map (tr B b)) hsz hD0 hn (va_runS (As := As.map (tr B b)) ⟨hx, hb, hml, hown, hts⟩ (hM l B b cy D) (n := As.length) ⟨h1, hts _ (inB_ok m3)⟩ ⟨Wd_blind, fun U hU hW => ⟨rfl, Wd_at hU hW hH hP hK hNK⟩⟩ rfl (List.length_map _) hl1.1 ?_ (lv_room (by rw [tr_sum]; exact hcat)) (hdT_ok hT hd) ?_) (fun v ρ' σ' hq H1 locs1 hD1 => ?_)
  · show st.map (tr B b) = _
    rw [hst, tr_rev]
  · have h1 := sl_mono hn0
    have h2 := sl_mono hn
    have h3 := sl_mono hn1
    exact ⟨by omega, by omega⟩
  · have := kk v ρ' σ' hq hT p l e R s m args below meth c G B b cy D hC0 H1 locs1 ls hD1
    rw [List.map_append] at this
    cases v <;> exact this
end CAL
