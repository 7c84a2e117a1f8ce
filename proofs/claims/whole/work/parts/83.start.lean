/-! THE CLAIM OUT OF ONE WALK OF THE LAW'S BODY. Your part is whole_start (and what it stands on); all else here is the same for every law, but numbers. -/
def R_law : String := "SumChainsLaw"
def lw_P (b : Addr) (xs : List Int32) (args : Array Value) (s : State) : Prop := args = #[.ref b] ∧ s.IntsAt b xs ∧ xs.length ≤ 2560 ∧ (Jvm.Cond.and given_1 narrow_1).before args s = true
def lw_Q (_ : Array Value) (s : State) (o : Outcome) (t : State) : Prop := o = .returned (some (.int 1)) ∧ Framed s o t [] 600000 7302250
def lw_Z (below : List Frame) (a : Array Value) (s : State) : State → Prop := fun t => ∃ o, t.status = .running ∧ Ended t below o ∧ lw_Q a s o t
/-- the law's own end, with 1 on the stack, nothing written that was there before, its room as the claim has it -/
theorem lw_ret {p : Program} {l : Launch} {e : Env} {s : State} {m : MethodId} {below : List Frame} {meth : Method} {c : Code} {b : Nat} (hx : p.tables.exec = Jvm.exec) (hb : c.code = code) (hr : meth.sig.returnType = ret) (hlocks : meth.locks = false) {pc : Nat} {H : Heap} {ls : Array Slot} (hdg : decode code pc = .ok (.ireturn, 1)) : W p l e room_1 s m #[Value.ref b] below meth c H [] 600000 7302250 (lw_Z below #[Value.ref b] s) (F0 m pc ls [.int 1]) := by
  intro T hT X
  obtain ⟨fs, hret, hrun, hended, hW, hframe⟩ := X.leave (v := some (.int 1)) (hlocks := hlocks) (fun h => by rw [hr] at h; cases h)
  have hmeth' : T.vm.method? m = some meth := X.method'
  refine ⟨T.setFrames fs, ?_, .returned (some (.int 1)), hrun, hended, rfl, ⟨_, rfl⟩, hW, hframe⟩
  jvm_step X.here [X.here.top, hx, hb, hdg, hmeth', hr, ret, narrow_b1]
  (try refine ⟨rfl, ?_⟩); (try refine ⟨rfl, ?_⟩)
  first | (intro acts; rw [hret _ acts rfl rfl rfl]) | rw [hret _ _ rfl rfl rfl]
  exact Steps.refl _
/-- what holds at the law's entry: the machine, the code, the tables' words (any of lw_tbl by 'hts w (by decide +kernel)'), the script of L ints xs at the cell b, what the Statement gives of the start (any of its parts by flat_of_before) -/
def lw_At (p : Program) (s : State) (m : MethodId) (meth : Method) (c : Code) (b L : Nat) (xs : Nat → Int32) : Prop :=
  p.tables.exec = Jvm.exec ∧ c.code = code ∧ meth.sig.returnType = ret ∧ c.maxLocals = 4 ∧ s.vm.findClass R_law = some m.cls ∧ (∀ w ∈ lw_tbl, w.before #[Value.ref b] s = true) ∧ va_X b L xs s s.heap ∧ b < s.heap.size ∧ meth.locks = false ∧ (Jvm.Cond.and given_1 narrow_1).before #[Value.ref b] s = true
-- ===== YOUR PART BEGINS =====
theorem ins_all : ∀ a, a < 10 → inB (.instantiable (RN a) (nF a)) = true := fun a h => match a, h with
  | 0, _ => w_ins_0
  | 1, _ => w_ins_1
  | 2, _ => w_ins_2
  | 3, _ => w_ins_3
  | 4, _ => w_ins_4
  | 5, _ => w_ins_5
  | 6, _ => w_ins_6
  | 7, _ => w_ins_7
  | 8, _ => w_ins_8
  | 9, _ => w_ins_9
  | a + 10, h => absurd h (by omega)
theorem cl_len : vwCl.length = 10 := rfl
theorem arr_of {s : State} {args : Array Value} {ty : FieldType} (h : (Cond.arrayClass ty).before args s = true) : ∃ c k comp, s.vm.findClass ("[" ++ ty.toString) = some c ∧ s.vm.classes[c]? = some k ∧ k.kind = .array comp ty := Cond.arrayClass_spec h
theorem arrOf_mk {s : State} {cA comp : ClassId} {k : Class} {ty : FieldType} (hk : s.vm.classes[cA]? = some k) (hkind : k.kind = .array comp ty) : ArrOfT s cA ty := fun n z => ⟨fun q h => (by cases h), k, hk, comp, hkind⟩
theorem sl_small {n : Nat} (h : n = 54 ∨ n = 58) : sl n - sl 0 ≤ 7302250 := by
  rcases h with rfl | rfl <;> decide +kernel
set_option maxRecDepth 100000 in
theorem nest_mem : ∀ q ∈ nestL, Cond.methodLinkNest q.1 q.2.1 q.2.2.1 q.2.2.2 ∈ lw_tbl := by
  intro q hq
  simp only [nestL, List.mem_cons, List.not_mem_nil, or_false] at hq
  rcases hq with rfl | rfl | rfl | rfl | rfl | rfl
  · exact List.mem_of_getElem? (i := 80) (by decide +kernel)
  · exact List.mem_of_getElem? (i := 178) (by decide +kernel)
  · exact List.mem_of_getElem? (i := 194) (by decide +kernel)
  · exact List.mem_of_getElem? (i := 589) (by decide +kernel)
  · exact List.mem_of_getElem? (i := 435) (by decide +kernel)
  · exact List.mem_of_getElem? (i := 345) (by decide +kernel)
set_option maxRecDepth 100000 in
theorem over_mem : Cond.arrayOver (.array .int) ∈ lw_tbl := List.mem_of_getElem? (i := 109) (by decide +kernel)
theorem fC_ex {s : State} {args : Array Value} (hts : ∀ w ∈ gtbl, w.before args s = true) : ∃ D : va_G, ∀ (c : Nat) (q : vw_C), vwCl[c]? = some q → u_Kn s q.1 q.2.1 q.2.2 (D.1 c) (D.2 c) := by
  have h : ∀ a : Nat, ∃ r : ClassId × (Nat → Nat), a < 10 → u_Kn s (RN a) (TXn a) (nF a) r.1 r.2 := by
    intro a
    by_cases ha : a < 10
    · obtain ⟨cC, iS, hk⟩ := u_known (T := TXn a) (N := nF a) hts (us_in a ha) (hts _ (inB_ok (ins_all a ha)))
      exact ⟨(cC, iS), fun _ => hk⟩
    · exact ⟨(0, fun _ => 0), fun q => absurd q ha⟩
  refine ⟨(fun a => (Classical.choose (h a)).1, fun a => (Classical.choose (h a)).2), fun c q hq => ?_⟩
  have hc : c < 10 := by
    have := (List.getElem?_eq_some_iff.mp hq).1
    rw [cl_len] at this
    exact this
  rw [cl_ok c hc] at hq
  cases hq
  exact Classical.choose_spec (h c) hc
theorem whole_start {p : Program} {e : Env} {s : State} {m : MethodId} {below : List Frame} {meth : Method} {c : Code} (l : Launch) {b L : Nat} {xs : Nat → Int32} (hL : L ≤ 2560) (C0 : lw_At p s m meth c b L xs) : W p l e room_1 s m #[Value.ref b] below meth c s.heap [] 0 0 (lw_Z below #[Value.ref b] s) (entryFrame m ([Value.ref b] : List Value).toArray 4) := by
  obtain ⟨hx, hb, hr, hml, hown, hts, hX, hbl, hlocks, hgv⟩ := C0
  have hg : ∀ w ∈ gtbl, w.before #[Value.ref b] s = true := fun w hw => hts w (List.mem_filter.mp hw).1
  obtain ⟨D, hD⟩ := fC_ex hg
  obtain ⟨c0, k0, p0, a1, a2, a3⟩ := arr_of (hg _ (inB_ok w_ac_byte))
  obtain ⟨c1, k1, p1, b1, b2, b3⟩ := arr_of (hg _ (inB_ok w_ac_int))
  obtain ⟨c2, k2, p2, d1, d2, d3⟩ := arr_of (hg _ (inB_ok w_ac_boolean))
  obtain ⟨c4, c3, k3, o1, o2, o3, o4, o5⟩ := arrayOverA_spec (hts _ over_mem)
  have e41 : c4 = c1 := Option.some.inj (o1.symm.trans b1)
  subst e41
  have hK : va_K D vwCl (tyA (fun t => if t = 0 then c0 else if t = 1 then c4 else if t = 2 then c2 else c3)) s := by
    refine ⟨hD, fun k q hk => ?_⟩
    match k, hk with
    | 0, hk => cases hk; exact ⟨arrOf_mk a2 a3, a1⟩
    | 1, hk => cases hk; exact ⟨arrOf_mk b2 b3, b1⟩
    | 2, hk => cases hk; exact ⟨arrOf_mk d2 d3, d1⟩
    | 3, hk => cases hk; exact ⟨arrOf_mk o3 o4, o5⟩
    | k + 4, hk => cases hk
  have hNK : NK s := ⟨fun q hq => va_Nw.of rfl (hts _ (nest_mem q hq)), ⟨c3, c4, p1, k3, k1, o5, o3, o4, b1, b2, b3⟩⟩
  have hn : ∃ n1, (n1 = 54 ∨ n1 = 58) ∧ (n1 = 58 ∨ (n1 = 54 ∧ ∀ j, 5 * j + 5 ≤ L → ¬ nds xs j)) ∧ (n1 = 54 ∨ (n1 = 58 ∧ ∃ j, 5 * j + 5 ≤ L ∧ nds xs j)) := by
    by_cases h : ∃ j, 5 * j + 5 ≤ L ∧ nds xs j
    · exact ⟨58, Or.inr rfl, Or.inl rfl, Or.inr ⟨rfl, h⟩⟩
    · exact ⟨54, Or.inl rfl, Or.inr ⟨rfl, fun j h1 h2 => h ⟨j, h1, h2⟩⟩, Or.inl rfl⟩
  obtain ⟨n1, hn1, hA, hB⟩ := hn
  have hV := L_start (d := 48) (σ := fun _ _ => 0) (Q := fun v _ _ => v = some (.int 1)) (by omega) hL hA hB (fun _ _ => rfl)
  have hl := lv_entry ([Value.ref 0].map (tr s.heap.size b)) (n := 4) (by rw [lvE_len]; decide)
  rw [lg_entry_eq]
  show W p l e room_1 s m #[Value.ref b] below meth c s.heap [] 0 0 (lw_Z below #[Value.ref b] s) (F0 m 0 (lg_sl ([Value.ref 0].map (tr s.heap.size b)) ++ List.replicate (4 - (lg_sl ([Value.ref 0].map (tr s.heap.size b))).length) Slot.unset).toArray [])
  generalize (lg_sl ([Value.ref 0].map (tr s.heap.size b)) ++ List.replicate (4 - (lg_sl ([Value.ref 0].map (tr s.heap.size b))).length) Slot.unset).toArray = ls at hl ⊢
  have key := hV tk_L_law p l e room_1 s m #[Value.ref b] below meth c (lw_Z below #[Value.ref b] s) s.heap.size b (fun t => if t = 0 then c0 else if t = 1 then c4 else if t = 2 then c2 else c3) D ⟨hx, hb, hml, hown, hg, ⟨by decide, by decide, (by show n1 - 0 ≤ 600000; omega), sl_small hn1⟩, rfl, hK, hNK, fun q hq => (by cases hq; exact ⟨hX, hbl⟩), fun h => absurd h (by decide), ?_⟩ s.heap [] ls ⟨Nat.le_refl _, rfl, fun k q hk => (by cases hk), va_S.rf, rfl, lvA_has (av := [.ref 0]) hl⟩
  · rw [Nat.sub_self, Nat.sub_self] at key
    exact key
  · intro v ρ σ lv H locs ls2 pc i hrk hdg hq hDy
    obtain ⟨hn0, hH, hP, hS, hlen, hl2⟩ := hDy
    subst hq
    obtain ⟨rfl, -⟩ := (show i = .ireturn ∧ ((1 : Int32) = 0 ∨ (1 : Int32) = 1) from hrk)
    refine va_forget (fun q hq => hS.2.2 q hq) ?_
    refine W.widen (k := 600000) (n := 7302250) (by omega) (sl_small hn1) ?_
    exact lw_ret hx hb hr hlocks hdg
