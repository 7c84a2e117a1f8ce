/-! ===== rows of rows: multianewarray of two dimensions (the kit has no row for it) ===== -/
def ocC (cA : ClassId) (a : Nat) : Nat → Cell
  | 0 => { cls := cA, slots := Array.replicate 4 .null }
  | i + 1 => (ocC cA a i).setSlot i (.ref (a + 1 + i))
def inC (cI : ClassId) (k : Nat) : Cell := { cls := cI, slots := Array.replicate k (.int 0) }
def muS (cA cI : ClassId) (k : Nat) (S : State) : Nat → State
  | 0 => S.pushCell (ocC cA S.heap.size 0)
  | i + 1 => ((muS cA cI k S i).pushCell (inC cI k)).setCell S.heap.size (ocC cA S.heap.size (i + 1))
theorem ocC_facts (cA : ClassId) (a : Nat) : ∀ i, (ocC cA a i).cls = cA ∧ (ocC cA a i).vm = .none ∧ (ocC cA a i).slots.size = 4
  | 0 => ⟨rfl, rfl, rfl⟩
  | i + 1 => by
    obtain ⟨h1, h2, h3⟩ := ocC_facts cA a i
    refine ⟨h1, h2, ?_⟩
    show ((ocC cA a i).slots.setIfInBounds i _).size = 4
    rw [Array.size_setIfInBounds]
    exact h3
theorem muS_facts (cA cI : ClassId) (k : Nat) (S : State) : ∀ i, (muS cA cI k S i).heap.size = S.heap.size + 1 + i ∧ (muS cA cI k S i).heap[S.heap.size]? = some (ocC cA S.heap.size i) ∧ (muS cA cI k S i).vm = S.vm ∧ (muS cA cI k S i).slotsUsed = S.slotsUsed + 4 + k * i ∧ (∀ q, q < S.heap.size → (muS cA cI k S i).heap[q]? = S.heap[q]?) ∧ (∀ j, j < i → (muS cA cI k S i).heap[S.heap.size + 1 + j]? = some (inC cI k))
  | 0 => by
    refine ⟨?_, ?_, rfl, ?_, fun q hq => ?_, fun j hj => by omega⟩
    · show (S.heap.push _).size = _
      rw [Array.size_push]
    · show (S.heap.push _)[S.heap.size]? = _
      rw [Array.getElem?_push_size]
    · show S.slotsUsed + (Array.replicate 4 Value.null).size = _
      rw [Array.size_replicate]
      rfl
    · show (S.heap.push _)[q]? = _
      rw [Array.getElem?_push, if_neg (Nat.ne_of_lt hq)]
  | i + 1 => by
    obtain ⟨h1, h2, h3, h4, h5, h6⟩ := muS_facts cA cI k S i
    refine ⟨?_, ?_, h3, ?_, fun q hq => ?_, fun j hj => ?_⟩
    · show (((muS cA cI k S i).heap.push (inC cI k)).setIfInBounds S.heap.size _).size = _
      rw [Array.size_setIfInBounds, Array.size_push, h1]
      omega
    · show (((muS cA cI k S i).heap.push (inC cI k)).setIfInBounds S.heap.size _)[S.heap.size]? = _
      rw [Array.getElem?_setIfInBounds_self, if_pos (by rw [Array.size_push, h1]; omega)]
    · show (muS cA cI k S i).slotsUsed + (Array.replicate k (Value.int 0)).size = _
      rw [Array.size_replicate, h4, Nat.mul_add]
      omega
    · show (((muS cA cI k S i).heap.push (inC cI k)).setIfInBounds S.heap.size _)[q]? = _
      rw [Array.getElem?_setIfInBounds_ne (by omega), Array.getElem?_push, if_neg (by rw [h1]; omega)]
      exact h5 q hq
    · show (((muS cA cI k S i).heap.push (inC cI k)).setIfInBounds S.heap.size _)[S.heap.size + 1 + j]? = _
      rw [Array.getElem?_setIfInBounds_ne (by omega), Array.getElem?_push, h1]
      by_cases e : j = i
      · rw [e, if_pos rfl]
      · rw [if_neg (by omega)]
        exact h6 j (by omega)
section MUL
variable {E : CtlPost} {e : Env} {d : Bool} {acts : List Action}
theorem make_in {cI c0 : ClassId} {kI : Class} {N : Int32} {S : State} {Q : Addr → Pre} (hkI : S.vm.classes[cI]? = some kI) (hkindI : kI.kind = .array c0 .int) (hN : ¬ N < 0) (hlim : ¬ N.toNatClampNeg > e.platform.arrayLengthLimit) (hheap : ¬ N.toNatClampNeg * componentBytes .int > e.platform.maxHeapBytes) (hcells : S.heap.size < e.platform.maxCells) (hslots : S.slotsUsed + N.toNatClampNeg ≤ e.platform.maxSlots) (hq : ∀ acts', Q S.heap.size d acts' (S.pushCell (inC cI N.toNatClampNeg))) : wp (multianewarray.make cI [N]) Q E e d acts S := by
  unfold multianewarray.make
  simp only [wp_bind', Jvm.W.ite, hN, if_false, wp_pure', Jvm.W.theClass, hkI, Option.some.injEq, exists_eq_left', hkindI]
  exact Jvm.W.newArray_of hkI hkindI hlim hheap hcells hslots rfl hq
theorem make_out {cA cI c0 : ClassId} {kA kI : Class} {N : Int32} {S : State} {Q : Addr → Pre} (hkA : S.vm.classes[cA]? = some kA) (hkindA : kA.kind = .array cI (.array .int)) (hkI : S.vm.classes[cI]? = some kI) (hkindI : kI.kind = .array c0 .int) (hN : ¬ N < 0) (hlim4 : ¬ 4 > e.platform.arrayLengthLimit) (hheap4 : ¬ 4 * componentBytes (.array .int) > e.platform.maxHeapBytes) (hlim : ¬ N.toNatClampNeg > e.platform.arrayLengthLimit) (hheap : ¬ N.toNatClampNeg * componentBytes .int > e.platform.maxHeapBytes) (hcells : S.heap.size + 5 ≤ e.platform.maxCells) (hslots : S.slotsUsed + 4 + N.toNatClampNeg * 4 ≤ e.platform.maxSlots) (hq : ∀ d' acts', Q S.heap.size d' acts' (muS cA cI N.toNatClampNeg S 4)) : wp (multianewarray.make cA [4, N]) Q E e d acts S := by
  unfold multianewarray.make
  have h4 : ¬ (4 : Int32) < 0 := by decide
  have h40 : ((4 : Int32) == 0) = false := by decide
  have h4n : (4 : Int32).toNatClampNeg = 4 := by decide
  simp only [wp_bind', Jvm.W.ite, h4, if_false, wp_pure', Jvm.W.theClass, hkA, Option.some.injEq, exists_eq_left', hkindA, h40, h4n, Bool.false_eq_true]
  refine Jvm.W.newArray_of hkA hkindA hlim4 hheap4 (by omega) (by omega) rfl (fun acts1 => ?_)
  have step : ∀ (i : Nat) (Q2 : Unit → Pre) (d2 : Bool) (acts2 : List Action), i < 4 → (∀ d3 acts3, Q2 () d3 acts3 (muS cA cI N.toNatClampNeg S (i + 1))) → wp (do Jvm.writeLoc S.heap.size i (.ref (← multianewarray.make cI [N]))) Q2 E e d2 acts2 (muS cA cI N.toNatClampNeg S i) := by
    intro i Q2 d2 acts2 hi hq2
    obtain ⟨f1, f2, f3, f4, f5, f6⟩ := muS_facts cA cI N.toNatClampNeg S i
    obtain ⟨o1, o2, o3⟩ := ocC_facts cA S.heap.size i
    have hmul : N.toNatClampNeg * i + N.toNatClampNeg ≤ N.toNatClampNeg * 4 := by
      have : N.toNatClampNeg * (i + 1) ≤ N.toNatClampNeg * 4 := Nat.mul_le_mul_left _ (by omega)
      rw [Nat.mul_add, Nat.mul_one] at this
      exact this
    simp only [wp_bind']
    refine make_in (kI := kI) (by rw [f3]; exact hkI) hkindI hN hlim hheap (by rw [f1]; omega) (by rw [f4]; omega) (fun acts3 => ?_)
    simp only [Jvm.W.writeLoc]
    refine ⟨ocC cA S.heap.size i, ?_, (by rw [o2]; exact nofun), (by rw [o3]; exact hi), ?_, ?_⟩
    · show ((muS cA cI N.toNatClampNeg S i).heap.push _)[S.heap.size]? = _
      rw [Array.getElem?_push, if_neg (by rw [f1]; omega)]
      exact f2
    · rw [o1, o2]
      simp [State.fitsSlot, State.slotType?, f3, hkA, hkindA, fits, State.vm_pushCell]
    · rw [f1]
      exact hq2 true _
  rw [wp_bind', Std.Legacy.Range.forIn_eq_forIn_range']
  show wp (forIn (List.range' 0 4 1) PUnit.unit _) _ E e d acts1 _
  refine wp_forIn_inv (fun rest s' => ∃ i, i ≤ 4 ∧ rest = List.range' i (4 - i) ∧ s' = muS cA cI N.toNatClampNeg S i) _ _ ⟨0, Nat.zero_le _, rfl, rfl⟩ ?_ ?_
  · intro x rest s' d' acts' Q' hI hk
    obtain ⟨i, hi, hl, rfl⟩ := hI
    have hi4 : i < 4 := by
      rcases Nat.lt_or_ge i 4 with h | h
      · exact h
      · rw [show 4 - i = 0 by omega] at hl
        cases hl
    rw [show 4 - i = (4 - (i + 1)) + 1 by omega, List.range'_succ] at hl
    obtain ⟨rfl, hrest⟩ := List.cons.inj hl
    have h := step x (fun _ => Q' (ForInStep.yield PUnit.unit)) d' acts' hi4 (fun d3 acts3 => hk _ d3 acts3 ⟨x + 1, by omega, hrest, rfl⟩)
    simp only [wp_bind', wp_pure'] at h ⊢
    exact h
  · intro s' d' acts' hI
    obtain ⟨i, hi, hl, rfl⟩ := hI
    have hi4 : i = 4 := by
      rcases Nat.lt_or_ge i 4 with h | h
      · rw [show 4 - i = (4 - (i + 1)) + 1 by omega, List.range'_succ] at hl
        cases hl
      · omega
    subst hi4
    simp only [wp_pure']
    exact hq d' acts'
end MUL
theorem muS_top (cA cI : ClassId) (k : Nat) (S : State) (f : JFrame) : ∀ i, muS cA cI k (S.setTop f) i = (muS cA cI k S i).setTop f
  | 0 => rfl
  | i + 1 => by
    show ((muS cA cI k (S.setTop f) i).pushCell (inC cI k)).setCell S.heap.size (ocC cA S.heap.size (i + 1)) = _
    rw [muS_top cA cI k S f i]
    rfl
theorem muS_stand {p : Program} {l : Launch} {e : Env} {R : Room} {s : State} {m : MethodId} {args : Array Value} {below : List Frame} {meth : Method} {c : Code} {T : State} {locs : List Loc} {cells slots : Nat} (X : Stand p l e R s m args below meth c T locs cells slots) (cA cI : ClassId) (k : Nat) : ∀ i, ∃ locs', (∀ x ∈ locs', x ∈ locs ∨ x.base = T.heap.size) ∧ Stand p l e R s m args below meth c (muS cA cI k T i) locs' (cells + 1 + i) (slots + 4 + k * i)
  | 0 => by
    have h := X.pushed (ocC cA T.heap.size 0)
    rw [(ocC_facts cA T.heap.size 0).2.2] at h
    exact ⟨locs, fun x hx => Or.inl hx, h⟩
  | i + 1 => by
    obtain ⟨locs', hY, Y⟩ := muS_stand X cA cI k i
    obtain ⟨f1, f2, f3, f4, f5, f6⟩ := muS_facts cA cI k T i
    have hc : ((muS cA cI k T i).pushCell (inC cI k)).heap[T.heap.size]? = some (ocC cA T.heap.size i) := by
      show ((muS cA cI k T i).heap.push _)[T.heap.size]? = _
      rw [Array.getElem?_push, if_neg (by rw [f1]; omega)]
      exact f2
    have h := (Y.pushed (inC cI k)).stored hc i (.ref (T.heap.size + 1 + i))
    have e1 : (inC cI k).slots.size = k := by
      show (Array.replicate k (Value.int 0)).size = k
      rw [Array.size_replicate]
    rw [e1] at h
    refine ⟨locs' ++ [⟨T.heap.size, i⟩], fun x hx => ?_, ?_⟩
    · rcases List.mem_append.mp hx with h1 | h1
      · exact hY x h1
      · rw [List.mem_singleton.mp h1]
        exact Or.inr rfl
    rw [show slots + 4 + k * (i + 1) = slots + 4 + k * i + k by rw [Nat.mul_add]; omega]
    exact h
theorem W.multi2 {p : Program} {l : Launch} {e : Env} {R : Room} {s : State} {m : MethodId} {args : Array Value} {below : List Frame} {meth : Method} {c : Code} {H : Heap} {locs : List Loc} {cells slots : Nat} {Q : State → Prop} {cc : ByteArray} (hexec : p.tables.exec = Jvm.exec) (hb : c.code = cc) {own : String} {index : Nat} (hown : s.vm.findClass own = some m.cls) (hclink : (Cond.classLink own index "[[I").before args s = true) (hCK : CK s)
    {g : JFrame} (hg : g.method = m) (hdg : decode cc g.pc = .ok (.multianewarray index 2, 4)) {N : Int32} {rest : List Value} (hstack : g.stack = .int N :: .int 4 :: rest) (hN : ¬ N < 0) (hNb : N.toNatClampNeg ≤ 100000) (hcells : cells + 5 ≤ R.cells) (hslots : slots + (4 + N.toNatClampNeg * 4) ≤ R.slots)
    (kk : ∀ (H' : Heap) (locs' : List Loc) (cA cI : ClassId), (∀ x ∈ locs', x ∈ locs ∨ x.base = H.size) → s.vm.findClass "[[I" = some cA → s.vm.findClass "[I" = some cI → H'.size = H.size + 5 → (∀ q, q < H.size → H'[q]? = H[q]?) → H'[H.size]? = some (ocC cA H.size 4) → (∀ j, j < 4 → H'[H.size + 1 + j]? = some (inC cI N.toNatClampNeg)) →
      W p l e R s m args below meth c H' locs' (cells + 5) (slots + (4 + N.toNatClampNeg * 4)) Q { g with pc := g.pc + 4, stack := .ref H.size :: rest }) : W p l e R s m args below meth c H locs cells slots Q g := by
  intro T hT X
  subst hT; subst hb; subst hg
  have hpl : e.platform.magicAccessors = ({} : Platform).magicAccessors := by rw [X.admits.platform]
  obtain ⟨cA, cI, c0, kA, kI, hfA, hkA, hkindA, hfI, hkI, hkindI⟩ := hCK
  obtain ⟨cB, hfB, hcl⟩ := Cond.classLink_spec hown hclink e.platform hpl
  cases hfA.symm.trans hfB
  obtain ⟨hg₁, hwarm₁, hready₁⟩ := State.classEntry (e := e) X.warmed hcl
  generalize T.vm.noted g.method.cls index (.cls cA) = vm₁ at hg₁ hwarm₁ hready₁
  have hal : s.vm.Alike vm₁ := hwarm₁.alike
  obtain ⟨kA₁, hkA₁, heA⟩ := hal.2.2 _ _ hkA
  obtain ⟨kI₁, hkI₁, heI⟩ := hal.2.2 _ _ hkI
  have hkindA₁ : kA₁.kind = .array cI (.array .int) := by rw [heA]; exact hkindA
  have hkindI₁ : kI₁.kind = .array c0 .int := by rw [heI]; exact hkindI
  have X₁ := X.noted hwarm₁
  obtain ⟨locs', hlo, XF⟩ := muS_stand X₁ cA cI N.toNatClampNeg 4
  obtain ⟨f1, f2, f3, f4, f5, f6⟩ := muS_facts cA cI N.toNatClampNeg (T.setVm vm₁) 4
  obtain ⟨hr1, hr2⟩ := X.roomAbove hcells hslots
  obtain ⟨t', a1, b1⟩ := kk (muS cA cI N.toNatClampNeg (T.setVm vm₁) 4).heap locs' cA cI hlo hfA hfI (by rw [f1]; rfl) f5 f2 f6 (muS cA cI N.toNatClampNeg (T.setVm vm₁) 4) rfl (by
    rw [show slots + (4 + N.toNatClampNeg * 4) = slots + 4 + N.toNatClampNeg * 4 by omega]
    exact XF)
  refine ⟨t', ?_, b1⟩
  have hl4 : ¬ 4 > e.platform.arrayLengthLimit := by rw [Launch.admits_arrayLengthLimit X.admits]; omega
  have hh4 : ¬ 4 * componentBytes (.array .int) > e.platform.maxHeapBytes := by
    rw [Launch.admits_maxHeapBytes X.admits]; show ¬ 4 * 4 > 536870912; omega
  have hl2 : ¬ N.toNatClampNeg > e.platform.arrayLengthLimit := by rw [Launch.admits_arrayLengthLimit X.admits]; omega
  have hh2 : ¬ N.toNatClampNeg * componentBytes .int > e.platform.maxHeapBytes := by
    rw [Launch.admits_maxHeapBytes X.admits]; show ¬ N.toNatClampNeg * 4 > 536870912; omega
  jvm_step X.here [hexec, hdg]
  simp only [multianewarray.sem, wp_bind', Jvm.W.resolveClassAt_links (State.method?_setTop g X.here.top) hg₁]
  rw [Jvm.W.popN, if_neg (by decide)]
  refine ⟨g, State.topJava?_setTop' (s := T.setVm vm₁) g X.here.top, [.int 4, .int N], rest, rfl, hstack, ?_⟩
  simp only [List.mapM_cons, List.mapM_nil, wp_bind', wp_pure']
  refine make_out (kA := kA₁) (kI := kI₁) (cI := cI) (c0 := c0) hkA₁ hkindA₁ hkI₁ hkindI₁ hN hl4 hh4 hl2 hh2 (by show T.heap.size + 5 ≤ _; omega) (by show T.slotsUsed + 4 + _ ≤ _; omega) (fun d' acts' => ?_)
  have eS : ((T.setTop g).setVm vm₁).setTop { g with stack := rest } = (T.setVm vm₁).setTop { g with stack := rest } := by
    show ((T.setVm vm₁).setTop g).setTop _ = _
    rw [State.setTop_setTop]
  rw [eS, muS_top]
  simp only [wp_bind', Jvm.W.mark, Jvm.W.pushRef, State.topJava?_setTop' _ XF.here.top, Option.some.injEq, exists_eq_left', State.setTop_setTop, State.heap_setTop]
  intro acts2
  simp [jvm, XF.here.top]
  exact a1
