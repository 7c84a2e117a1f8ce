/-! ===== the judgement V: from here the method comes to its end with Q; Mt: a method's contract ===== -/
abbrev MC : Type := MethodName × Nat × ByteArray × List (Nat × Instr × Nat) × Nat × Option FieldType
abbrev PQ : Type := Option Value → Ref → Mem → Prop
def V (M : MC) (d n0 n1 : Nat) (sc : Option (Nat × (Nat → Int32))) (Q : PQ) (n : Nat) (ρ : Ref) (σ : Mem) (pc : Nat) (lv : LV) (st : List Value) : Prop :=
  tabOk M.2.2.1 M.2.2.2.1 = true → ∀ (p : Program) (l : Launch) (e : Env) (R : Room) (s : State) (m : MethodId) (args : Array Value) (below : List Frame) (meth : Method) (c : Code) (G : State → Prop) (B b : Nat) (cy : Nat → ClassId) (D : va_G), Cx M.2.1 (M.1.name == "<init>") M.2.2.1 M.2.2.2.2.1 d n0 n1 M.2.2.2.2.2 sc Q p l e R s m args below meth c G B b cy D → ∀ (H : Heap) (locs : List Loc) (ls : Array Slot), Dy B b cy D M.2.2.2.2.1 n0 s n ρ σ lv H locs ls → W p l e R s m args below meth c H locs (n - n0) (sl n - sl n0) G (F0 m pc ls (st.map (tr B b)))
def Wd (B : Nat) (cy : Nat → ClassId) (D : va_G) (n : Nat) (ρ : Ref) (σ : Mem) (U : State) : Prop := U.heap.size = B + n ∧ va_P D vwCl (wd B cy n ρ σ) U.heap ∧ va_K D vwCl (tyA cy) U ∧ NK U
def Mt (M : MC) (d n0 n1 : Nat) (av : List Value) (ρ : Ref) (σ : Mem) (Q : PQ) : Prop :=
  ∀ (l : Launch) (B b : Nat) (cy : Nat → ClassId) (D : va_G), Met l M.1 (Cond.code M.1 M.2.2.1 M.2.2.2.2.1 M.2.2.2.2.2 :: gtbl) { frames := d, cells := n1 - n0, slots := sl n1 - sl n0, locals := 64 * d } (va_Pc (av.map (tr B b)) (Wd B cy D n0 ρ σ)) (fun _ st oc t => ∃ (v : Option Value) (ρ' : Ref) (σ' : Mem), oc = .returned (v.map (tr B b)) ∧ Q v ρ' σ' ∧ va_P D vwCl (wd B cy n1 ρ' σ') t.heap ∧ va_F (fun q => B ≤ q) st t) (n1 - n0) (sl n1 - sl n0) (fun q => B ≤ q)
/-! entry -/
def lvE (av : List Value) : LV := match av with
  | [] => []
  | v :: vs => if v.category = 2 then some v :: none :: lvE vs else some v :: lvE vs
def lvA (av : List Value) (mL : Nat) : LV := lvE av ++ List.replicate (mL - (lvE av).length) none
theorem lvE_args (B b : Nat) : ∀ (av : List Value) (k i : Nat) (v : Value), ldv (lvE av) i = some v → (k + i, tr B b v) ∈ lv_args k (av.map (tr B b))
  | [], k, i, v, h => by simp [ldv, lvE] at h
  | w :: vs, k, i, v, h => by
    show _ ∈ (k, tr B b w) :: lv_args (if (tr B b w).category = 2 then k + 2 else k + 1) (vs.map (tr B b))
    rw [tr_cat]
    unfold lvE at h
    by_cases hc : w.category = 2
    · rw [if_pos hc] at h
      rw [if_pos hc]
      match i, h with
      | 0, h =>
        simp [ldv] at h
        subst h
        exact List.mem_cons_self
      | 1, h => simp [ldv] at h
      | i + 2, h =>
        have h2 : ldv (lvE vs) i = some v := by simpa [ldv] using h
        have := lvE_args B b vs (k + 2) i v h2
        refine List.mem_cons_of_mem _ ?_
        rw [show k + (i + 2) = k + 2 + i by omega]
        exact this
    · rw [if_neg hc] at h
      rw [if_neg hc]
      match i, h with
      | 0, h =>
        simp [ldv] at h
        subst h
        exact List.mem_cons_self
      | i + 1, h =>
        have h2 : ldv (lvE vs) i = some v := by simpa [ldv] using h
        have := lvE_args B b vs (k + 1) i v h2
        refine List.mem_cons_of_mem _ ?_
        rw [show k + (i + 1) = k + 1 + i by omega]
        exact this
theorem lvE_len (B b : Nat) : ∀ av : List Value, (lg_sl (av.map (tr B b))).length = (lvE av).length
  | [] => rfl
  | v :: vs => by
    have ih := lvE_len B b vs
    unfold lvE
    simp only [lg_sl, List.map_cons, List.flatMap_cons, tr_cat] at ih ⊢
    by_cases hc : v.category = 2
    · simp [hc, ih]
    · simp [hc, ih]
theorem lvA_len {av : List Value} {mL : Nat} (h : (lvE av).length ≤ mL) : (lvA av mL).length = mL := by
  unfold lvA
  rw [List.length_append, List.length_replicate]
  omega
theorem lvA_has {B b : Nat} {av : List Value} {mL : Nat} {ls : Array Slot} (h : lv_has ls mL (lv_args 0 (av.map (tr B b)))) : lv_has ls mL (lvp B b (lvA av mL)) := by
  refine lv_mono h fun q hq => ?_
  obtain ⟨i, w⟩ := q
  obtain ⟨v, hv, rfl⟩ := lvp_mem.mp hq
  have h2 : ldv (lvE av) i = some v := by
    unfold ldv lvA at *
    rw [List.getD_eq_getElem?_getD] at hv ⊢
    rcases Nat.lt_or_ge i (lvE av).length with q | q
    · rw [List.getElem?_append_left q] at hv
      exact hv
    · rw [List.getElem?_append_right q, List.getElem?_replicate] at hv
      split at hv <;> cases hv
  have := lvE_args B b av 0 i v h2
  rwa [Nat.zero_add] at this
theorem Mt.of {M : MC} {d n0 n1 : Nat} {av : List Value} {ρ : Ref} {σ : Mem} {Q : PQ} (ho : M.1.cls = RN M.2.1) (hpl : plainName M.1.cls = true) (hT : tabOk M.2.2.1 M.2.2.2.1 = true) (hfit : (lvE av).length ≤ M.2.2.2.2.1) (h : V M d n0 n1 none Q n0 ρ σ 0 (lvA av M.2.2.2.2.1) []) : Mt M d n0 n1 av ρ σ Q := by
  intro l B b cy D
  refine Met.ofW (cc := M.2.2.1) (maxL := M.2.2.2.2.1) (ret := M.2.2.2.2.2) hpl rfl ?_
  intro p e s m args below meth c s₁ Bd hml hv
  obtain ⟨rfl, hsz, hP, hK, hNK⟩ := hv
  have hts : ∀ w ∈ gtbl, w.before (List.map (tr B b) av).toArray s = true := fun w hw => atoms_spec (ws := Cond.code M.1 M.2.2.1 M.2.2.2.2.1 M.2.2.2.2.2 :: gtbl) Bd.pre w (List.mem_cons_of_mem _ hw)
  have hown : s.vm.findClass (RN M.2.1) = some m.cls := by rw [← ho]; exact findClass_of_methodNamed Bd.named
  have hlocks := Bd.notSynchronized
  have hnm : meth.name = M.1.name := (name_of_methodNamed Bd.named Bd.method).1
  have hl := lv_entry (av.map (tr B b)) (n := M.2.2.2.2.1) (by rw [lvE_len]; exact hfit)
  rw [lg_entry_eq]
  generalize (lg_sl (av.map (tr B b)) ++ List.replicate (M.2.2.2.2.1 - (lg_sl (av.map (tr B b))).length) Slot.unset).toArray = ls at hl ⊢
  have key := h hT p l e ({ frames := d, cells := n1 - n0, slots := sl n1 - sl n0, locals := 64 * d }) s m (List.map (tr B b) av).toArray below meth c (MQ below (fun _ st oc t => ∃ (v : Option Value) (ρ' : Ref) (σ' : Mem), oc = .returned (v.map (tr B b)) ∧ Q v ρ' σ' ∧ va_P D vwCl (wd B cy n1 ρ' σ') t.heap ∧ va_F (fun q => B ≤ q) st t) (List.map (tr B b) av).toArray s (n1 - n0) (sl n1 - sl n0) (fun q => B ≤ q)) B b cy D
    ⟨Bd.exec, Bd.bytes, hml, hown, hts, ⟨Nat.le_refl d, Nat.le_refl (64 * d), Nat.le_refl (n1 - n0), Nat.le_refl (sl n1 - sl n0)⟩, hsz, hK, hNK, (fun q hq => by cases hq), (fun hi => by rw [hnm]; exact beq_iff_eq.mp hi), ?_⟩ s.heap [] ls ⟨Nat.le_refl _, hsz, hP, va_S.rf, lvA_len hfit, lvA_has hl⟩
  · rw [Nat.sub_self, Nat.sub_self] at key
    exact key
  · intro v ρ' σ' lv H locs ls pc i hr hdg hQ hD
    have hret := Bd.returns
    obtain ⟨hn0, hH, hP, hS, hlen, hl⟩ := hD
    have hq : ∀ w : Option Value, w = v → ∀ t : State, t.heap = H → s.WarmedH t.vm → ∃ (v : Option Value) (ρ' : Ref) (σ' : Mem), Outcome.returned (w.map (tr B b)) = .returned (v.map (tr B b)) ∧ Q v ρ' σ' ∧ va_P D vwCl (wd B cy n1 ρ' σ') t.heap ∧ va_F (fun q => B ≤ q) s t := fun w hw t ht _ => ⟨v, ρ', σ', by rw [hw], hQ, by rw [ht]; exact hP, hS.F ht⟩
    generalize M.2.2.2.2.2 = ret at hr hret
    unfold rOk at hr
    split at hr
    · subst hr
      exact W.iret Bd.exec Bd.bytes hret (hq _ rfl) hS.2.2 hdg
    · obtain ⟨rfl, hr⟩ := hr
      refine W.zret Bd.exec Bd.bytes hret ?_ (hq _ rfl) hS.2.2 hdg
      rcases hr with rfl | rfl <;> rfl
    · subst hr
      exact W.vret Bd.exec Bd.bytes hret (hq _ rfl) hS.2.2 hdg
    · subst hr
      exact W.aret Bd.exec Bd.bytes hret (Or.inl ⟨_, rfl⟩) (Or.inr ⟨_, rfl⟩) (hq _ rfl) hS.2.2 hdg
    · cases hr
theorem Mt.mono {M : MC} {d n0 n1 : Nat} {av : List Value} {ρ : Ref} {σ : Mem} {Q Q' : PQ} (h : Mt M d n0 n1 av ρ σ Q) (hq : ∀ v ρ' σ', Q v ρ' σ' → Q' v ρ' σ') : Mt M d n0 n1 av ρ σ Q' := by
  intro l B b cy D p e ha hc hk s m args below hf happ hP hK
  obtain ⟨k, o, h1, h2, h3, ⟨⟨v, ρ', σ', a1, a2, a3, a4⟩, h5⟩⟩ := h l B b cy D p e ha hc hk s m args below hf happ hP hK
  exact ⟨k, o, h1, h2, h3, ⟨⟨v, ρ', σ', a1, hq v ρ' σ' a2, a3, a4⟩, h5⟩⟩
/-! running straight on -/
def andO (a : Option Prop) (q : Prop) : Prop := match a with
  | none => q
  | some p => p ∧ q
def dropT (pc : Nat) (T : List (Nat × Instr × Nat)) : List (Nat × Instr × Nat) := match T with
  | [] => []
  | (q, i, k) :: T => if (q == pc) = true then (q, i, k) :: T else dropT pc T
def gtO (i : Instr) : Option Int := match i with
  | .goto off => some off
  | _ => none
theorem gtO_spec {i : Instr} {off : Int} (h : gtO i = some off) : i = .goto off := by
  cases i <;> simp [gtO] at h
  rw [h]
def runL (o lo : Nat) (ρ : Ref) (sp : Nat) (T : List (Nat × Instr × Nat)) (pc : Nat) (lv : LV) (st : List Value) (σ : Mem) : Prop × Nat × LV × List Value × Mem := match T with
  | [] => (True, pc, lv, st, σ)
  | (q, i, k) :: T => match (q == pc && k == il i) with
    | false => (True, pc, lv, st, σ)
    | true => match gtO i with
      | some off => match decide (0 ≤ (pc : Int) + off) with
        | true => (True, ((pc : Int) + off).toNat, lv, st, σ)
        | false => (True, pc, lv, st, σ)
      | none => match stp o lo ρ i lv st σ with
        | none => (True, pc, lv, st, σ)
        | some (P, lv', st', σ') => match (pc + k == sp) with
          | true => (andO P True, pc + k, lv', st', σ')
          | false => (andO P (runL o lo ρ sp T (pc + k) lv' st' σ').1, (runL o lo ρ sp T (pc + k) lv' st' σ').2)
theorem dropT_sub {pc : Nat} : ∀ {T : List (Nat × Instr × Nat)} {e : Nat × Instr × Nat}, e ∈ dropT pc T → e ∈ T
  | [], _, h => by cases h
  | (q, i, k) :: T, e, h => by
    unfold dropT at h
    split at h
    · exact h
    · exact List.mem_cons_of_mem _ (dropT_sub h)
theorem dropT_pc {pc : Nat} : ∀ {T T' : List (Nat × Instr × Nat)} {e : Nat × Instr × Nat}, dropT pc T = e :: T' → e.1 = pc
  | [], _, _, h => by cases h
  | (q, i, k) :: T, T', e, h => by
    unfold dropT at h
    split at h
    · rename_i hq
      cases h
      exact beq_iff_eq.mp hq
    · exact dropT_pc h
theorem tabOk_at {cc : ByteArray} {T : List (Nat × Instr × Nat)} (h : tabOk cc T = true) {e : Nat × Instr × Nat} (he : e ∈ T) : decode cc e.1 = .ok e.2 := by
  have := List.all_eq_true.mp h e he
  simpa using this
section RUN
variable {M : MC} {d n0 n1 : Nat} {sc : Option (Nat × (Nat → Int32))} {Q : PQ} {n : Nat} {ρ : Ref} {σ : Mem} {pc : Nat} {lv : LV} {st : List Value}
theorem V.step {lo : Nat} {i : Instr} {P : Option Prop} {lv2 : LV} {st2 : List Value} {σ2 : Mem} (hlo : lo ≤ n) (hdg : tabOk M.2.2.1 M.2.2.2.1 = true → decode M.2.2.1 pc = .ok (i, il i)) (hs : stp M.2.1 lo ρ i lv st σ = some (P, lv2, st2, σ2)) (hp : ∀ q, P = some q → q) (k : V M d n0 n1 sc Q n ρ σ2 (pc + il i) lv2 st2) : V M d n0 n1 sc Q n ρ σ pc lv st := by
  intro hT p l e R s m args below meth c G B b cy D hC H locs ls hD
  exact stp_ok hC hD hlo hs hp (hdg hT) (fun H1 locs1 ls1 hD1 => k hT p l e R s m args below meth c G B b cy D hC H1 locs1 ls1 hD1)
theorem V.jump {off : Int} {tgt : Nat} (hdg : tabOk M.2.2.1 M.2.2.2.1 = true → decode M.2.2.1 pc = .ok (.goto off, 3)) (ht : (pc : Int) + off = (tgt : Int)) (k : V M d n0 n1 sc Q n ρ σ tgt lv st) : V M d n0 n1 sc Q n ρ σ pc lv st := by
  intro hT p l e R s m args below meth c G B b cy D hC H locs ls hD
  exact lv_goto hC.1 hC.2.1 (hdg hT) ht (k hT p l e R s m args below meth c G B b cy D hC H locs ls hD)
theorem V.seg {lo sp : Nat} (hlo : lo ≤ n) : ∀ (T : List (Nat × Instr × Nat)) (pc : Nat) (lv : LV) (st : List Value) (σ : Mem), (∀ e ∈ T, e ∈ M.2.2.2.1) → (runL M.2.1 lo ρ sp T pc lv st σ).1 → V M d n0 n1 sc Q n ρ (runL M.2.1 lo ρ sp T pc lv st σ).2.2.2.2 (runL M.2.1 lo ρ sp T pc lv st σ).2.1 (runL M.2.1 lo ρ sp T pc lv st σ).2.2.1 (runL M.2.1 lo ρ sp T pc lv st σ).2.2.2.1 → V M d n0 n1 sc Q n ρ σ pc lv st := by
  intro T
  induction T with
  | nil => intro pc lv st σ _ _ k; exact k
  | cons e T ih =>
    intro pc lv st σ hsub hp k
    obtain ⟨q, i, len⟩ := e
    have hmem := hsub _ List.mem_cons_self
    cases hq : (q == pc && len == il i) with
    | false =>
      simp only [runL, hq] at k
      exact k
    | true =>
      have hq2 := hq
      simp only [Bool.and_eq_true, beq_iff_eq] at hq2
      obtain ⟨rfl, rfl⟩ := hq2
      have hdg : tabOk M.2.2.1 M.2.2.2.1 = true → decode M.2.2.1 q = .ok (i, il i) := by
        intro hT
        have h1 := tabOk_at hT hmem
        exact h1
      cases hg : gtO i with
      | some off =>
        have hi := gtO_spec hg
        subst hi
        cases h0 : decide (0 ≤ (q : Int) + off) with
        | false =>
          simp only [runL, hq, hg, h0] at k
          exact k
        | true =>
          simp only [runL, hq, hg, h0] at k
          have h1 := of_decide_eq_true h0
          exact V.jump hdg (by omega) k
      | none =>
        cases hs : stp M.2.1 lo ρ i lv st σ with
        | none =>
          simp only [runL, hq, hg, hs] at k
          exact k
        | some r =>
          obtain ⟨P, lv2, st2, σ2⟩ := r
          cases hsp : (q + il i == sp) with
          | true =>
            simp only [runL, hq, hg, hs, hsp] at hp k
            refine V.step hlo hdg hs (fun r hr => ?_) k
            subst hr
            exact hp.1
          | false =>
            simp only [runL, hq, hg, hs, hsp] at hp k
            refine V.step hlo hdg hs (fun r hr => ?_) (ih _ _ _ _ (fun e he => hsub e (List.mem_cons_of_mem _ he)) ?_ k)
            · subst hr
              exact hp.1
            · cases P with
              | none => exact hp
              | some _ => exact hp.2
theorem V.run (sp lo : Nat) {P : Prop} {pc2 : Nat} {lv2 : LV} {st2 : List Value} {σ2 : Mem} (h : runL M.2.1 lo ρ sp (dropT pc M.2.2.2.1) pc lv st σ = (P, pc2, lv2, st2, σ2)) (hlo : lo ≤ n) (hP : P) (k : V M d n0 n1 sc Q n ρ σ2 pc2 lv2 st2) : V M d n0 n1 sc Q n ρ σ pc lv st := by
  refine V.seg (lo := lo) (sp := sp) hlo (dropT pc M.2.2.2.1) pc lv st σ (fun e he => dropT_sub he) ?_ ?_
  · rw [h]; exact hP
  · rw [h]; exact k
end RUN
