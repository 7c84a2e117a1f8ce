/-! ===== rows of rows: multianewarray of two dimensions (the kit has no row for it) ===== -/
def ocC (cA : ClassId) (a : Nat) : Nat → Cell
  | 0 => { cls := cA, slots := Array.replicate 4 .null }
  | i + 1 => (ocC cA a i).setSlot i (.ref (a + 1 + i))
def inC (cI : ClassId) (k : Nat) : Cell := { cls := cI, slots := Array.replicate k (.int 0) }
def muS (cA cI : ClassId) (k : Nat) (S : State) : Nat → State
  | 0 => S.pushCell (ocC cA S.heap.size 0)
  | i + 1 => ((muS cA cI k S i).pushCell (inC cI k)).setCell S.heap.size (ocC cA S.heap.size (i + 1))
theorem ocC_facts (cA : ClassId) (a : Nat) : ∀ i, (ocC cA a i).cls = cA ∧ (ocC cA a i).vm = .none ∧ (ocC cA a i).slots.size = 4
  | 0 => ⟨rfl, rfl, rfl⟩
  | i + 1 => by
    obtain ⟨h1, h2, h3⟩ := ocC_facts cA a i
    refine ⟨h1, h2, ?_⟩
    show ((ocC cA a i).slots.setIfInBounds i _).size = 4
    rw [Array.size_setIfInBounds]
    exact h3
theorem muS_facts (cA cI : ClassId) (k : Nat) (S : State) : ∀ i, (muS cA cI k S i).heap.size = S.heap.size + 1 + i ∧ (muS cA cI k S i).heap[S.heap.size]? = some (ocC cA S.heap.size i) ∧ (muS cA cI k S i).vm = S.vm ∧ (muS cA cI k S i).slotsUsed = S.slotsUsed + 4 + k * i ∧ (∀ q, q < S.heap.size → (muS cA cI k S i).heap[q]? = S.heap[q]?) ∧ (∀ j, j < i → (muS cA cI k S i).heap[S.heap.size + 1 + j]? = some (inC cI k))
  | 0 => by
    refine ⟨?_, ?_, rfl, ?_, fun q hq => ?_, fun j hj => by omega⟩
    · show (S.heap.push _).size = _
      rw [Array.size_push]
    · show (S.heap.push _)[S.heap.size]? = _
      rw [Array.getElem?_push_size]
    · show S.slotsUsed + (Array.replicate 4 Value.null).size = _
      rw [Array.size_replicate]
      rfl
    · show (S.heap.push _)[q]? = _
      rw [Array.getElem?_push, if_neg (Nat.ne_of_lt hq)]
  | i + 1 => by
    obtain ⟨h1, h2, h3, h4, h5, h6⟩ := muS_facts cA cI k S i
    refine ⟨?_, ?_, h3, ?_, fun q hq => ?_, fun j hj => ?_⟩
    · show (((muS cA cI k S i).heap.push (inC cI k)).setIfInBounds S.heap.size _).size = _
      rw [Array.size_setIfInBounds, Array.size_push, h1]
      omega
    · show (((muS cA cI k S i).heap.push (inC cI k)).setIfInBounds S.heap.size _)[S.heap.size]? = _
      rw [Array.getElem?_setIfInBounds_self, if_pos (by rw [Array.size_push, h1]; omega)]
    · show (muS cA cI k S i).slotsUsed + (Array.replicate k (Value.int 0)).size = _
      rw [Array.size_replicate, h4, Nat.mul_add]
      omega
    · show (((muS cA cI k S i).heap.push (inC cI k)).setIfInBounds S.heap.size _)[q]? = _
      rw [Array.getElem?_setIfInBounds_ne (by omega), Array.getElem?_push, if_neg (by rw [h1]; omega)]
      exact h5 q hq
    · show (((muS cA cI k S i).heap.push (inC cI k)).setIfInBounds S.heap.size _)[S.heap.size + 1 + j]? = _
      rw [Array.getElem?_setIfInBounds_ne (by omega), Array.getElem?_push, h1]
      by_cases e : j = i
      · rw [e, if_pos rfl]
      · rw [if_neg (by omega)]
        exact h6 j (by omega)
section MUL
variable {E : CtlPost} {e : Env} {d : Bool} {acts : List Action}
theorem make_in {cI c0 : ClassId} {kI : Class} {N : Int32} {S : State} {Q : Addr → Pre} (hkI : S.vm.classes[cI]? = some kI) (hkindI : kI.kind = .array c0 .int) (hN : ¬ N < 0) (hlim : ¬ N.toNatClampNeg > e.platform.arrayLengthLimit) (hheap : ¬ N.toNatClampNeg * componentBytes .int > e.platform.maxHeapBytes) (hcells : S.heap.size < e.platform.maxCells) (hslots : S.slotsUsed + N.toNatClampNeg ≤ e.platform.maxSlots) (hq : ∀ acts', Q S.heap.size d acts' (S.pushCell (inC cI N.toNatClampNeg))) : wp (multianewarray.make cI [N]) Q E e d acts S := by
  unfold multianewarray.make
  simp only [wp_bind', Jvm.W.ite, hN, if_false, wp_pure', Jvm.W.theClass, hkI, Option.some.injEq, exists_eq_left', hkindI]
  exact Jvm.W.newArray_of hkI hkindI hlim hheap hcells hslots rfl hq
theorem make_out {cA cI c0 : ClassId} {kA kI : Class} {N : Int32} {S : State} {Q : Addr → Pre} (hkA : S.vm.classes[cA]? = some kA) (hkindA : kA.kind = .array cI (.array .int)) (hkI : S.vm.classes[cI]? = some kI) (hkindI : kI.kind = .array c0 .int) (hN : ¬ N < 0) (hlim4 : ¬ 4 > e.platform.arrayLengthLimit) (hheap4 : ¬ 4 * componentBytes (.array .int) > e.platform.maxHeapBytes) (hlim : ¬ N.toNatClampNeg > e.platform.arrayLengthLimit) (hheap : ¬ N.toNatClampNeg * componentBytes .int > e.platform.maxHeapBytes) (hcells : S.heap.size + 5 ≤ e.platform.maxCells) (hslots : S.slotsUsed + 4 + N.toNatClampNeg * 4 ≤ e.platform.maxSlots) (hq : ∀ d' acts', Q S.heap.size d' acts' (muS cA cI N.toNatClampNeg S 4)) : wp (multianewarray.make cA [4, N]) Q E e d acts S := by
  unfold multianewarray.make
  have h4 : ¬ (4 : Int32) < 0 := by decide
  have h40 : ((4 : Int32) == 0) = false := by decide
  have h4n : (4 : Int32).toNatClampNeg = 4 := by decide
  simp only [wp_bind', Jvm.W.ite, h4, if_false, wp_pure', Jvm.W.theClass, hkA, Option.some.injEq, exists_eq_left', hkindA, h40, h4n, Bool.false_eq_true]
  refine Jvm.W.newArray_of hkA hkindA hlim4 hheap4 (by omega) (by omega) rfl (fun acts1 => ?_)
  have step : ∀ (i : Nat) (Q2 : Unit → Pre) (d2 : Bool) (acts2 : List Action), i < 4 → (∀ d3 acts3, Q2 () d3 acts3 (muS cA cI N.toNatClampNeg S (i + 1))) → wp (do Jvm.writeLoc S.heap.size i (.ref (← multianewarray.make cI [N]))) Q2 E e d2 acts2 (muS cA cI N.toNatClampNeg S i) := by
    intro i Q2 d2 acts2 hi hq2
    obtain ⟨f1, f2, f3, f4, f5, f6⟩ := muS_facts cA cI N.toNatClampNeg S i
    obtain ⟨o1, o2, o3⟩ := ocC_facts cA S.heap.size i
    have hmul : N.toNatClampNeg * i + N.toNatClampNeg ≤ N.toNatClampNeg * 4 := by
      have : N.toNatClampNeg * (i + 1) ≤ N.toNatClampNeg * 4 := Nat.mul_le_mul_left _ (by omega)
      rw [Nat.mul_add, Nat.mul_one] at this
      exact this
    simp only [wp_bind']
    refine make_in (kI := kI) (by rw [f3]; exact hkI) hkindI hN hlim hheap (by rw [f1]; omega) (by rw [f4]; omega) (fun acts3 => ?_)
    simp only [Jvm.W.writeLoc]
    refine ⟨ocC cA S.heap.size i, ?_, by rw [o2]; intro h; cases h, by rw [o3]; exact hi, ?_, ?_⟩
    · show ((muS cA cI N.toNatClampNeg S i).heap.push _)[S.heap.size]? = _
      rw [Array.getElem?_push, if_neg (by rw [f1]; omega)]
      exact f2
    · rw [o1, o2]
      simp [State.fitsSlot, State.slotType?, f3, hkA, hkindA, fits, State.vm_pushCell]
    · rw [f1]
      exact hq2 true _
  sorry
end MUL
