/-! ===== soundness: what the abstract machine does, the machine does ===== -/
/-- a return: its instruction, its value, as the method's type tells -/
def rOk (ret : Option FieldType) (i : Instr) (v : Option Value) : Prop := match ret, v with
  | some .int, some (.int _) => i = .ireturn
  | some .boolean, some (.int x) => i = .ireturn ∧ (x = 0 ∨ x = 1)
  | none, none => i = .return_
  | some (.object _), some (.ref _) => i = .areturn
  | _, _ => False
def Dy (B b : Nat) (cy : Nat → ClassId) (D : va_G) (mL n0 : Nat) (s : State) (n : Nat) (ρ : Ref) (σ : Mem) (lv : LV) (H : Heap) (locs : List Loc) (ls : Array Slot) : Prop :=
  n0 ≤ n ∧ H.size = B + n ∧ va_P D vwCl (wd B cy n ρ σ) H ∧ va_S (fun q => B ≤ q) s.heap H locs ∧ lv.length = mL ∧ lv_has ls mL (lvp B b lv)
def Fin (cc : ByteArray) (mL n0 n1 : Nat) (ret : Option FieldType) (Q : Option Value → Ref → Mem → Prop) (p : Program) (l : Launch) (e : Env) (R : Room) (s : State) (m : MethodId) (args : Array Value) (below : List Frame) (meth : Method) (c : Code) (G : State → Prop) (B b : Nat) (cy : Nat → ClassId) (D : va_G) : Prop :=
  ∀ (v : Option Value) (ρ : Ref) (σ : Mem) (lv : LV) (H : Heap) (locs : List Loc) (ls : Array Slot) (pc : Nat) (i : Instr), rOk ret i v → decode cc pc = .ok (i, 1) → Q v ρ σ → Dy B b cy D mL n0 s n1 ρ σ lv H locs ls → W p l e R s m args below meth c H locs (n1 - n0) (sl n1 - sl n0) G (F0 m pc ls (v.map (tr B b)).toList)
/-- the links to private members of nest mates -/
def nestL : List (String × Nat × MethodName × String) := [(RX8, 11, yX7_init, RX8), (RX8, 40, yX4_init, RX8), (RX8, 47, yX6_init, RX8), (RX0, 71, yX8_leastToReach, RX8), (RX2, 62, yX8_leastToReach, RX8), (RX5, 97, yX8_leastToReach, RX8)]
/-- the class of rows of rows of ints is over the class of rows of ints -/
def CK (U : State) : Prop := ∃ (cA cI c0 : ClassId) (kA kI : Class), U.vm.findClass "[[I" = some cA ∧ U.vm.classes[cA]? = some kA ∧ kA.kind = .array cI (.array .int) ∧ U.vm.findClass "[I" = some cI ∧ U.vm.classes[cI]? = some kI ∧ kI.kind = .array c0 .int
theorem CK.moved {s U : State} (hvm : s.vm.Alike U.vm) (h : CK s) : CK U := by
  obtain ⟨cA, cI, c0, kA, kI, h1, h2, h3, h4, h5, h6⟩ := h
  obtain ⟨kA', hkA', heA⟩ := hvm.2.2 _ _ h2
  obtain ⟨kI', hkI', heI⟩ := hvm.2.2 _ _ h5
  exact ⟨cA, cI, c0, kA', kI', by rw [hvm.findClass]; exact h1, hkA', by rw [heA]; exact h3, by rw [hvm.findClass]; exact h4, hkI', by rw [heI]; exact h6⟩
def NK (U : State) : Prop := (∀ q ∈ nestL, va_Nw (.methodLinkNest q.1 q.2.1 q.2.2.1 q.2.2.2) U) ∧ CK U
theorem NK.moved {s U : State} (hW : s.WarmedH U.vm) (h : NK s) : NK U := ⟨fun q hq => va_Nw.warmM hW (h.1 q hq), h.2.moved hW.alike⟩
theorem NK.same {s U : State} (hv : s.vm = U.vm) (h : NK s) : NK U := ⟨fun q hq => va_Nw.same rfl hv (h.1 q hq), by
  have h2 := h.2
  unfold CK at *
  rw [← hv]
  exact h2⟩
def Cx (o : Nat) (ini : Bool) (cc : ByteArray) (mL d n0 n1 : Nat) (ret : Option FieldType) (sc : Option (Nat × (Nat → Int32))) (Q : Option Value → Ref → Mem → Prop) (p : Program) (l : Launch) (e : Env) (R : Room) (s : State) (m : MethodId) (args : Array Value) (below : List Frame) (meth : Method) (c : Code) (G : State → Prop) (B b : Nat) (cy : Nat → ClassId) (D : va_G) : Prop :=
  p.tables.exec = Jvm.exec ∧ c.code = cc ∧ c.maxLocals = mL ∧ s.vm.findClass (RN o) = some m.cls ∧ (∀ w ∈ gtbl, w.before args s = true) ∧ (d ≤ R.frames ∧ 64 * d ≤ R.locals ∧ n1 - n0 ≤ R.cells ∧ sl n1 - sl n0 ≤ R.slots) ∧ s.heap.size = B + n0 ∧ va_K D vwCl (tyA cy) s ∧ NK s ∧ (∀ q, sc = some q → va_X b q.1 q.2 s s.heap ∧ b < B) ∧ (ini = true → meth.name = "<init>") ∧ Fin cc mL n0 n1 ret Q p l e R s m args below meth c G B b cy D

section SND
variable {o : Nat} {ini : Bool} {cc : ByteArray} {mL d n0 n1 : Nat} {ret : Option FieldType} {sc : Option (Nat × (Nat → Int32))} {Q : Option Value → Ref → Mem → Prop} {p : Program} {l : Launch} {e : Env} {R : Room} {s : State} {m : MethodId} {args : Array Value} {below : List Frame} {meth : Method} {c : Code} {G : State → Prop} {B b : Nat} {cy : Nat → ClassId} {D : va_G} {n : Nat} {ρ : Ref} {σ : Mem} {lv : LV} {st : List Value} {H : Heap} {locs : List Loc} {ls : Array Slot} {pc lo : Nat}

theorem okC_spec {k a : Nat} (h : okC lo k a = true) (hlo : lo ≤ n) : 1 ≤ k ∧ k ≤ n ∧ (zk k).1 = a ∧ ra B b k = B + (k - 1) := by
  unfold okC at h
  simp only [Bool.and_eq_true, decide_eq_true_eq] at h
  refine ⟨h.1.1, Nat.le_trans h.1.2 hlo, h.2, ?_⟩
  unfold ra
  rw [if_neg (by omega)]
/-- the heap's size is known from the room that is used -/
theorem W_size {slots : Nat} {g : JFrame} (hsz : s.heap.size = B + n0) (hn0 : n0 ≤ n) (hP : va_P D vwCl (wd B cy n ρ σ) H) (hS : va_S (fun q => B ≤ q) s.heap H locs) (h : H.size = B + n → W p l e R s m args below meth c H locs (n - n0) slots G g) : W p l e R s m args below meth c H locs (n - n0) slots G g := by
  intro T hT X
  have h1 : T.heap.size ≤ s.heap.size + (n - n0) := X.same.2.2.1
  have h2 : B + n ≤ H.size := by
    rcases Nat.eq_zero_or_pos n with h0 | h0
    · have := hS.1
      omega
    · have := (hP (n - 1) _ (wd_get (k := n) (by omega) (Nat.le_refl n))).lt
      simp only at this
      omega
  rw [hT] at h1
  exact h (by omega) T hT X

theorem sn_get (hC : Cx o ini cc mL d n0 n1 ret sc Q p l e R s m args below meth c G B b cy D) (hD : Dy B b cy D mL n0 s n ρ σ lv H locs ls) (hlo : lo ≤ n) {i a j k : Nat} (hf : fT o i = some (a, j)) (hk : okC lo k a = true) {rest : List Value} (hdg : decode cc pc = .ok (.getfield i, 3))
    (kk : W p l e R s m args below meth c H locs (n - n0) (sl n - sl n0) G (F0 m (pc + 3) ls (tr B b (fA ρ σ a j k) :: rest))) : W p l e R s m args below meth c H locs (n - n0) (sl n - sl n0) G (F0 m pc ls (.ref (ra B b k) :: rest)) := by
  obtain ⟨hx, hb, hml, hown, hts, hR, hsz, hK, hNK, hsc, hini, hfin⟩ := hC
  obtain ⟨hn0, hH, hP, hS, hlen, hl⟩ := hD
  obtain ⟨k1, k2, k3, k4⟩ := okC_spec (B := B) (b := b) hk hlo
  obtain ⟨f1, f2, f3⟩ := fT_ok hf
  have he := wd_get (B := B) (cy := cy) (ρ := ρ) (σ := σ) k1 k2
  rw [cE_obj k3 f1] at he
  rw [k4]
  refine va_get (D := D) (ci := a) (v := fv B a j (σ k j) (ρ k j)) (C := RN a) (T := TXn a) (N := nF a) hx hb hts (us_in a f1) hown hK hP (k - 1) he (cl_ok a f1) j f2 (hts _ f3) (fun _ h9 => h9) (fs_get f2) hdg ?_
  rw [← tr_fA B b]
  exact kk
theorem sn_put (hC : Cx o ini cc mL d n0 n1 ret sc Q p l e R s m args below meth c G B b cy D) (hD : Dy B b cy D mL n0 s n ρ σ lv H locs ls) (hlo : lo ≤ n) {i a j k : Nat} {x : Int32} (hf : fT o i = some (a, j)) (hk : okC lo k a = true) (hr : isR a j = false) (hbx : isB a j = true → x = 0 ∨ x = 1) {rest : List Value} (hdg : decode cc pc = .ok (.putfield i, 3))
    (kk : ∀ (H1 : Heap) (locs1 : List Loc), Dy B b cy D mL n0 s n ρ (up σ k j x) lv H1 locs1 ls → W p l e R s m args below meth c H1 locs1 (n - n0) (sl n - sl n0) G (F0 m (pc + 3) ls rest)) : W p l e R s m args below meth c H locs (n - n0) (sl n - sl n0) G (F0 m pc ls (.int x :: .ref (ra B b k) :: rest)) := by
  obtain ⟨hx, hb, hml, hown, hts, hR, hsz, hK, hNK, hsc, hini, hfin⟩ := hC
  obtain ⟨hn0, hH, hP, hS, hlen, hl⟩ := hD
  obtain ⟨k1, k2, k3, k4⟩ := okC_spec (B := B) (b := b) hk hlo
  obtain ⟨f1, f2, f3⟩ := fT_ok hf
  obtain ⟨g1, g2⟩ := int_fld a f1 j f2 hr
  have he := wd_get (B := B) (cy := cy) (ρ := ρ) (σ := σ) k1 k2
  rw [cE_obj k3 f1] at he
  rw [k4]
  have hnf : narrow (tyXn a j) (.int x) = .int x ∧ fits (tyXn a j) (.int x) = true := by
    rw [g2]
    by_cases hq : isB a j = true
    · rw [if_pos hq]
      rcases hbx hq with rfl | rfl <;> exact ⟨by decide +kernel, by decide +kernel⟩
    · rw [if_neg hq]
      exact ⟨rfl, rfl⟩
  refine va_put (D := D) (ci := a) (v := .int x) (ty := tyXn a j) (C := RN a) (T := TXn a) (N := nF a) hx hb hts (us_in a f1) (tyXn a) (ty_ok a f1) (nm_ok a f1) hown hK hP wd_D hS (k - 1) he (cl_ok a f1) j f2 (hts _ f3) (fun _ h9 => h9) g1 (ty_ok a f1 j f2) hnf.1 hnf.2 (by simp; exact f2) hdg (fun H1 locs1 hP1 hD1 hS1 => ?_)
  have e1 : ((List.range (nF a)).map (fun j => fv B a j (σ k j) (ρ k j))).set j (.int x) = (List.range (nF a)).map (fun i => fv B a i ((up σ k j x) k i) (ρ k i)) := by
    have e2 : (.int x : Value) = (fun i => fv B a i ((up σ k j x) k i) (ρ k i)) j := by
      show _ = fv B a j _ _
      rw [fv, hr, up_eq]
      simp [upd]
    rw [e2]
    refine fs_set (g := fun i => fv B a i ((up σ k j x) k i) (ρ k i)) (fun i hi => ?_)
    show fv B a i ((up σ k j x) k i) (ρ k i) = fv B a i (σ k i) (ρ k i)
    rw [up_eq]
    simp [upd, hi]
  rw [e1, ← cE_obj (cy := cy) (σ := up σ k j x) k3 f1, wd_set (σ' := up σ k j x) (ρ' := ρ) k1 (fun q hq => up_ne hq) (fun _ _ => rfl)] at hP1
  exact W_size hsz hn0 hP1 hS1 (fun hz => kk H1 locs1 ⟨hn0, hz, hP1, hS1, hlen, hl⟩)
theorem sn_putR (hC : Cx o ini cc mL d n0 n1 ret sc Q p l e R s m args below meth c G B b cy D) (hD : Dy B b cy D mL n0 s n ρ σ lv H locs ls) (hlo : lo ≤ n) {i a j k t : Nat} {v : Value} (hf : fT o i = some (a, j)) (hk : okC lo k a = true) (hr : isR a j = true) (hfi : (TXn a j).2.2.2 = false) (ht : t ≤ n) (hv : v = rv t) {rest : List Value} (hdg : decode cc pc = .ok (.putfield i, 3))
    (kk : ∀ (H1 : Heap) (locs1 : List Loc), Dy B b cy D mL n0 s n (upR ρ k j t) σ lv H1 locs1 ls → W p l e R s m args below meth c H1 locs1 (n - n0) (sl n - sl n0) G (F0 m (pc + 3) ls rest)) : W p l e R s m args below meth c H locs (n - n0) (sl n - sl n0) G (F0 m pc ls (tr B b v :: .ref (ra B b k) :: rest)) := by
  obtain ⟨hx, hb, hml, hown, hts, hR, hsz, hK, hNK, hsc, hini, hfin⟩ := hC
  obtain ⟨hn0, hH, hP, hS, hlen, hl⟩ := hD
  obtain ⟨k1, k2, k3, k4⟩ := okC_spec (B := B) (b := b) hk hlo
  obtain ⟨f1, f2, f3⟩ := fT_ok hf
  have he := wd_get (B := B) (cy := cy) (ρ := ρ) (σ := σ) k1 k2
  rw [cE_obj k3 f1] at he
  rw [k4]
  have hrf := ref_fld a f1 j f2 hr
  have hv2 : tr B b v = va_rf (rfo B t) := by rw [hv]; exact tr_rv B b t
  have hnf : narrow (tyXn a j) (va_rf (rfo B t)) = va_rf (rfo B t) ∧ fits (tyXn a j) (va_rf (rfo B t)) = true := by
    generalize tyXn a j = ty at hrf
    cases rfo B t <;> cases ty <;> first | exact ⟨rfl, rfl⟩ | cases hrf
  rw [hv2]
  refine va_put (D := D) (ci := a) (v := va_rf (rfo B t)) (ty := tyXn a j) (C := RN a) (T := TXn a) (N := nF a) hx hb hts (us_in a f1) (tyXn a) (ty_ok a f1) (nm_ok a f1) hown hK hP wd_D hS (k - 1) he (cl_ok a f1) j f2 (hts _ f3) (fun _ h9 => h9) hfi (ty_ok a f1 j f2) hnf.1 hnf.2 (by simp; exact f2) hdg (fun H1 locs1 hP1 hD1 hS1 => ?_)
  have e1 : ((List.range (nF a)).map (fun j => fv B a j (σ k j) (ρ k j))).set j (va_rf (rfo B t)) = (List.range (nF a)).map (fun i => fv B a i (σ k i) ((upR ρ k j t) k i)) := by
    have e2 : va_rf (rfo B t) = (fun i => fv B a i (σ k i) ((upR ρ k j t) k i)) j := by
      show _ = fv B a j _ _
      rw [fv, hr, upR_eq]
      simp
    rw [e2]
    refine fs_set (g := fun i => fv B a i (σ k i) ((upR ρ k j t) k i)) (fun i hi => ?_)
    show fv B a i (σ k i) ((upR ρ k j t) k i) = fv B a i (σ k i) (ρ k i)
    rw [upR_eq]
    simp [hi]
  rw [e1, ← cE_obj (cy := cy) (ρ := upR ρ k j t) k3 f1, wd_set (σ' := σ) (ρ' := upR ρ k j t) k1 (fun _ _ => rfl) (fun q hq => upR_ne hq)] at hP1
  exact W_size hsz hn0 hP1 hS1 (fun hz => kk H1 locs1 ⟨hn0, hz, hP1, hS1, hlen, hl⟩)
theorem sn_putRF (hC : Cx o ini cc mL d n0 n1 ret sc Q p l e R s m args below meth c G B b cy D) (hD : Dy B b cy D mL n0 s n ρ σ lv H locs ls) (hlo : lo ≤ n) {i a j k t : Nat} {v : Value} (hf : fT o i = some (a, j)) (hk : okC lo k a = true) (hr : isR a j = true) (hfi : (TXn a j).2.2.2 = true) (hin2 : ini = true) (hown2 : (TXn a j).1 = RN o) (ht : t ≤ n) (hv : v = rv t) {rest : List Value} (hdg : decode cc pc = .ok (.putfield i, 3))
    (kk : ∀ (H1 : Heap) (locs1 : List Loc), Dy B b cy D mL n0 s n (upR ρ k j t) σ lv H1 locs1 ls → W p l e R s m args below meth c H1 locs1 (n - n0) (sl n - sl n0) G (F0 m (pc + 3) ls rest)) : W p l e R s m args below meth c H locs (n - n0) (sl n - sl n0) G (F0 m pc ls (tr B b v :: .ref (ra B b k) :: rest)) := by
  obtain ⟨hx, hb, hml, hown, hts, hR, hsz, hK, hNK, hsc, hini, hfin⟩ := hC
  obtain ⟨hn0, hH, hP, hS, hlen, hl⟩ := hD
  obtain ⟨k1, k2, k3, k4⟩ := okC_spec (B := B) (b := b) hk hlo
  obtain ⟨f1, f2, f3⟩ := fT_ok hf
  have he := wd_get (B := B) (cy := cy) (ρ := ρ) (σ := σ) k1 k2
  rw [cE_obj k3 f1] at he
  rw [k4]
  have hrf := ref_fld a f1 j f2 hr
  have hv2 : tr B b v = va_rf (rfo B t) := by rw [hv]; exact tr_rv B b t
  have hnf : narrow (tyXn a j) (va_rf (rfo B t)) = va_rf (rfo B t) ∧ fits (tyXn a j) (va_rf (rfo B t)) = true := by
    generalize tyXn a j = ty at hrf
    cases rfo B t <;> cases ty <;> first | exact ⟨rfl, rfl⟩ | cases hrf
  rw [hv2]
  refine va_putF (D := D) (ci := a) (v := va_rf (rfo B t)) (ty := tyXn a j) (C := RN a) (T := TXn a) (N := nF a) hx hb hts (us_in a f1) (tyXn a) (ty_ok a f1) (nm_ok a f1) hown hK hP wd_D hS (k - 1) he (cl_ok a f1) j f2 (hts _ f3) (fun _ h9 => h9) hfi (hini hin2) hown2 (ty_ok a f1 j f2) hnf.1 hnf.2 (by simp; exact f2) hdg (fun H1 locs1 hP1 hD1 hS1 => ?_)
  have e1 : ((List.range (nF a)).map (fun j => fv B a j (σ k j) (ρ k j))).set j (va_rf (rfo B t)) = (List.range (nF a)).map (fun i => fv B a i (σ k i) ((upR ρ k j t) k i)) := by
    have e2 : va_rf (rfo B t) = (fun i => fv B a i (σ k i) ((upR ρ k j t) k i)) j := by
      show _ = fv B a j _ _
      rw [fv, hr, upR_eq]
      simp
    rw [e2]
    refine fs_set (g := fun i => fv B a i (σ k i) ((upR ρ k j t) k i)) (fun i hi => ?_)
    show fv B a i (σ k i) ((upR ρ k j t) k i) = fv B a i (σ k i) (ρ k i)
    rw [upR_eq]
    simp [hi]
  rw [e1, ← cE_obj (cy := cy) (ρ := upR ρ k j t) k3 f1, wd_set (σ' := σ) (ρ' := upR ρ k j t) k1 (fun _ _ => rfl) (fun q hq => upR_ne hq)] at hP1
  exact W_size hsz hn0 hP1 hS1 (fun hz => kk H1 locs1 ⟨hn0, hz, hP1, hS1, hlen, hl⟩)
theorem sn_iald (hC : Cx o ini cc mL d n0 n1 ret sc Q p l e R s m args below meth c G B b cy D) (hD : Dy B b cy D mL n0 s n ρ σ lv H locs ls) (hlo : lo ≤ n) {k : Nat} {x : Int32} (hk : okC lo k 11 = true) (hin : vp_in x (zk k).2) {rest : List Value} (hdg : decode cc pc = .ok (.iaload, 1))
    (kk : W p l e R s m args below meth c H locs (n - n0) (sl n - sl n0) G (F0 m (pc + 1) ls (.int (σ k (ix x)) :: rest))) : W p l e R s m args below meth c H locs (n - n0) (sl n - sl n0) G (F0 m pc ls (.int x :: .ref (ra B b k) :: rest)) := by
  obtain ⟨hx, hb, hml, hown, hts, hR, hsz, hK, hNK, hsc, hini, hfin⟩ := hC
  obtain ⟨hn0, hH, hP, hS, hlen, hl⟩ := hD
  obtain ⟨k1, k2, k3, k4⟩ := okC_spec (B := B) (b := b) hk hlo
  have he := wd_get (B := B) (cy := cy) (ρ := ρ) (σ := σ) k1 k2
  rw [cE_i k3] at he
  rw [k4]
  exact va_iald hx hb hK hP (k - 1) 1 he rfl hin hdg kk
theorem sn_bald (hC : Cx o ini cc mL d n0 n1 ret sc Q p l e R s m args below meth c G B b cy D) (hD : Dy B b cy D mL n0 s n ρ σ lv H locs ls) (hlo : lo ≤ n) {k : Nat} {x : Int32} (hk : okC lo k 10 = true) (hin : vp_in x (zk k).2) {rest : List Value} (hdg : decode cc pc = .ok (.baload, 1))
    (kk : W p l e R s m args below meth c H locs (n - n0) (sl n - sl n0) G (F0 m (pc + 1) ls (.int (σ k (ix x)) :: rest))) : W p l e R s m args below meth c H locs (n - n0) (sl n - sl n0) G (F0 m pc ls (.int x :: .ref (ra B b k) :: rest)) := by
  obtain ⟨hx, hb, hml, hown, hts, hR, hsz, hK, hNK, hsc, hini, hfin⟩ := hC
  obtain ⟨hn0, hH, hP, hS, hlen, hl⟩ := hD
  obtain ⟨k1, k2, k3, k4⟩ := okC_spec (B := B) (b := b) hk hlo
  have he := wd_get (B := B) (cy := cy) (ρ := ρ) (σ := σ) k1 k2
  rw [cE_b k3] at he
  rw [k4]
  exact va_bald hx hb hK hP (k - 1) 0 he rfl hin hdg kk
theorem sn_zald (hC : Cx o ini cc mL d n0 n1 ret sc Q p l e R s m args below meth c G B b cy D) (hD : Dy B b cy D mL n0 s n ρ σ lv H locs ls) (hlo : lo ≤ n) {k : Nat} {x : Int32} (hk : okC lo k 12 = true) (hin : vp_in x (zk k).2) {rest : List Value} (hdg : decode cc pc = .ok (.baload, 1))
    (kk : W p l e R s m args below meth c H locs (n - n0) (sl n - sl n0) G (F0 m (pc + 1) ls (.int (σ k (ix x)) :: rest))) : W p l e R s m args below meth c H locs (n - n0) (sl n - sl n0) G (F0 m pc ls (.int x :: .ref (ra B b k) :: rest)) := by
  obtain ⟨hx, hb, hml, hown, hts, hR, hsz, hK, hNK, hsc, hini, hfin⟩ := hC
  obtain ⟨hn0, hH, hP, hS, hlen, hl⟩ := hD
  obtain ⟨k1, k2, k3, k4⟩ := okC_spec (B := B) (b := b) hk hlo
  have he := wd_get (B := B) (cy := cy) (ρ := ρ) (σ := σ) k1 k2
  rw [cE_z k3] at he
  rw [k4]
  exact va_zald hx hb hK hP (k - 1) 2 he rfl hin hdg kk
theorem sn_aald (hC : Cx o ini cc mL d n0 n1 ret sc Q p l e R s m args below meth c G B b cy D) (hD : Dy B b cy D mL n0 s n ρ σ lv H locs ls) (hlo : lo ≤ n) {k : Nat} {x : Int32} (hk : okC lo k 13 = true) (hin : vp_in x (zk k).2) {rest : List Value} (hdg : decode cc pc = .ok (.aaload, 1))
    (kk : W p l e R s m args below meth c H locs (n - n0) (sl n - sl n0) G (F0 m (pc + 1) ls (tr B b (rv (ρ k (ix x))) :: rest))) : W p l e R s m args below meth c H locs (n - n0) (sl n - sl n0) G (F0 m pc ls (.int x :: .ref (ra B b k) :: rest)) := by
  obtain ⟨hx, hb, hml, hown, hts, hR, hsz, hK, hNK, hsc, hini, hfin⟩ := hC
  obtain ⟨hn0, hH, hP, hS, hlen, hl⟩ := hD
  obtain ⟨k1, k2, k3, k4⟩ := okC_spec (B := B) (b := b) hk hlo
  have he := wd_get (B := B) (cy := cy) (ρ := ρ) (σ := σ) k1 k2
  rw [cE_a k3] at he
  rw [k4]
  have hlt : x.toNatClampNeg < (zk k).2 := Nat.not_le.mp fun q => hin (Or.inr q)
  have hka := hK.2 3 (cy 3, .array .int) rfl
  refine W.aald (v := va_rf (rfo B (ρ k (ix x)))) (ty := .array .int) hx hb (hP (k - 1) _ he) (hka.1 (zk k).2 (fun j => va_rf (rfo B (ρ k j)))) rfl (fun q => by cases q) (by show ¬ (x < 0 ∨ (arrV _ _ _).slots.size ≤ _); rw [arrV_size]; exact hin) (by show (arrV _ _ _).slots[_]? = _; rw [arrV_read _ _ hlt]; rfl) rfl rfl hdg ?_
  rw [← tr_rv B b]
  exact kk
theorem sn_iast (hC : Cx o ini cc mL d n0 n1 ret sc Q p l e R s m args below meth c G B b cy D) (hD : Dy B b cy D mL n0 s n ρ σ lv H locs ls) (hlo : lo ≤ n) {k : Nat} {x v : Int32} (hk : okC lo k 11 = true) (hin : vp_in x (zk k).2) {rest : List Value} (hdg : decode cc pc = .ok (.iastore, 1))
    (kk : ∀ (H1 : Heap) (locs1 : List Loc), Dy B b cy D mL n0 s n ρ (up σ k (ix x) v) lv H1 locs1 ls → W p l e R s m args below meth c H1 locs1 (n - n0) (sl n - sl n0) G (F0 m (pc + 1) ls rest)) : W p l e R s m args below meth c H locs (n - n0) (sl n - sl n0) G (F0 m pc ls (.int v :: .int x :: .ref (ra B b k) :: rest)) := by
  obtain ⟨hx, hb, hml, hown, hts, hR, hsz, hK, hNK, hsc, hini, hfin⟩ := hC
  obtain ⟨hn0, hH, hP, hS, hlen, hl⟩ := hD
  obtain ⟨k1, k2, k3, k4⟩ := okC_spec (B := B) (b := b) hk hlo
  have he := wd_get (B := B) (cy := cy) (ρ := ρ) (σ := σ) k1 k2
  rw [cE_i k3] at he
  rw [k4]
  refine va_iast hx hb hK hP wd_D hS (k - 1) 1 he rfl hin hdg (fun H1 locs1 hP1 hD1 hS1 => ?_)
  have e1 : (up σ k (ix x) v) k = upd (σ k) x.toNatClampNeg v := up_eq
  rw [← e1, ← cE_i (B := B) (cy := cy) (ρ := ρ) (σ := up σ k (ix x) v) k3, wd_set (σ' := up σ k (ix x) v) (ρ' := ρ) k1 (fun q hq => up_ne hq) (fun _ _ => rfl)] at hP1
  exact W_size hsz hn0 hP1 hS1 (fun hz => kk H1 locs1 ⟨hn0, hz, hP1, hS1, hlen, hl⟩)
theorem sn_bast (hC : Cx o ini cc mL d n0 n1 ret sc Q p l e R s m args below meth c G B b cy D) (hD : Dy B b cy D mL n0 s n ρ σ lv H locs ls) (hlo : lo ≤ n) {k : Nat} {x v : Int32} (hk : okC lo k 10 = true) (hin : vp_in x (zk k).2) {rest : List Value} (hdg : decode cc pc = .ok (.bastore, 1))
    (kk : ∀ (H1 : Heap) (locs1 : List Loc), Dy B b cy D mL n0 s n ρ (up σ k (ix x) (vp_nar .byte v)) lv H1 locs1 ls → W p l e R s m args below meth c H1 locs1 (n - n0) (sl n - sl n0) G (F0 m (pc + 1) ls rest)) : W p l e R s m args below meth c H locs (n - n0) (sl n - sl n0) G (F0 m pc ls (.int v :: .int x :: .ref (ra B b k) :: rest)) := by
  obtain ⟨hx, hb, hml, hown, hts, hR, hsz, hK, hNK, hsc, hini, hfin⟩ := hC
  obtain ⟨hn0, hH, hP, hS, hlen, hl⟩ := hD
  obtain ⟨k1, k2, k3, k4⟩ := okC_spec (B := B) (b := b) hk hlo
  have he := wd_get (B := B) (cy := cy) (ρ := ρ) (σ := σ) k1 k2
  rw [cE_b k3] at he
  rw [k4]
  refine va_bast hx hb hK hP wd_D hS (k - 1) 0 he rfl hin hdg (fun H1 locs1 hP1 hD1 hS1 => ?_)
  have e1 : (up σ k (ix x) (vp_nar .byte v)) k = upd (σ k) x.toNatClampNeg (vp_nar .byte v) := up_eq
  rw [← e1, ← cE_b (B := B) (cy := cy) (ρ := ρ) (σ := up σ k (ix x) (vp_nar .byte v)) k3, wd_set (σ' := up σ k (ix x) (vp_nar .byte v)) (ρ' := ρ) k1 (fun q hq => up_ne hq) (fun _ _ => rfl)] at hP1
  exact W_size hsz hn0 hP1 hS1 (fun hz => kk H1 locs1 ⟨hn0, hz, hP1, hS1, hlen, hl⟩)
theorem sn_zast (hC : Cx o ini cc mL d n0 n1 ret sc Q p l e R s m args below meth c G B b cy D) (hD : Dy B b cy D mL n0 s n ρ σ lv H locs ls) (hlo : lo ≤ n) {k : Nat} {x v : Int32} (hk : okC lo k 12 = true) (hin : vp_in x (zk k).2) {rest : List Value} (hdg : decode cc pc = .ok (.bastore, 1))
    (kk : ∀ (H1 : Heap) (locs1 : List Loc), Dy B b cy D mL n0 s n ρ (up σ k (ix x) (vp_nar .boolean v)) lv H1 locs1 ls → W p l e R s m args below meth c H1 locs1 (n - n0) (sl n - sl n0) G (F0 m (pc + 1) ls rest)) : W p l e R s m args below meth c H locs (n - n0) (sl n - sl n0) G (F0 m pc ls (.int v :: .int x :: .ref (ra B b k) :: rest)) := by
  obtain ⟨hx, hb, hml, hown, hts, hR, hsz, hK, hNK, hsc, hini, hfin⟩ := hC
  obtain ⟨hn0, hH, hP, hS, hlen, hl⟩ := hD
  obtain ⟨k1, k2, k3, k4⟩ := okC_spec (B := B) (b := b) hk hlo
  have he := wd_get (B := B) (cy := cy) (ρ := ρ) (σ := σ) k1 k2
  rw [cE_z k3] at he
  rw [k4]
  refine va_zast hx hb hK hP wd_D hS (k - 1) 2 he rfl hin hdg (fun H1 locs1 hP1 hD1 hS1 => ?_)
  have e1 : (up σ k (ix x) (vp_nar .boolean v)) k = upd (σ k) x.toNatClampNeg (vp_nar .boolean v) := up_eq
  rw [← e1, ← cE_z (B := B) (cy := cy) (ρ := ρ) (σ := up σ k (ix x) (vp_nar .boolean v)) k3, wd_set (σ' := up σ k (ix x) (vp_nar .boolean v)) (ρ' := ρ) k1 (fun q hq => up_ne hq) (fun _ _ => rfl)] at hP1
  exact W_size hsz hn0 hP1 hS1 (fun hz => kk H1 locs1 ⟨hn0, hz, hP1, hS1, hlen, hl⟩)
end SND
