/-! ===== the abstract machine: cells by numbers, references among them, ints ===== -/
abbrev Mem : Type := Nat → Nat → Int32
abbrev Ref : Type := Nat → Nat → Nat
abbrev LV : Type := List (Option Value)
def iZ (z : Int) : Int32 := Int32.ofInt z
def lZ (z : Int) : Int64 := Int64.ofInt z
def zk (k : Nat) : Nat × Nat := zL.getD k (14, 0)
def isR (c j : Nat) : Bool := (rfL.getD c []).getD j false
def nF (c : Nat) : Nat := nFl.getD c 0
def rho (ca cb tr : Nat) : Ref := fun k j => ((rhoL ca cb tr).getD k []).getD j 0
def sl (n : Nat) : Nat := ((zL.take (n + 1)).map (·.2)).sum
def fT (o i : Nat) : Option (Nat × Nat) := (fTL.getD o []).lookup i
def kI (o i : Nat) : Option Int := (kIL.getD o []).lookup i
def kL (o i : Nat) : Option Int := (kLL.getD o []).lookup i
def gtbl : List Cond := lw_tbl.filter goodWord
theorem inG {w : Cond} (h : w ∈ lw_tbl) (g : goodWord w = true) : w ∈ gtbl := List.mem_filter.mpr ⟨h, g⟩
theorem inG' {w : Cond} (h : (decide (w ∈ lw_tbl) && goodWord w) = true) : w ∈ gtbl := by
  simp only [Bool.and_eq_true, decide_eq_true_eq] at h
  exact inG h.1 h.2
/-- cell number -> address; 0 is the script -/
def ra (B b k : Nat) : Nat := if k = 0 then b else B + (k - 1)
def tr (B b : Nat) (v : Value) : Value := match v with
  | .ref k => .ref (ra B b k)
  | w => w
def rfo (B r : Nat) : Option Nat := if r = 0 then none else some (B + (r - 1))
def rv (r : Nat) : Value := if r = 0 then .null else .ref r
def fv (B c j : Nat) (x : Int32) (r : Nat) : Value := if isR c j = true then va_rf (rfo B r) else .int x
def fA (ρ : Ref) (σ : Mem) (c j k : Nat) : Value := if isR c j = true then rv (ρ k j) else .int (σ k j)
theorem tr_rv (B b r : Nat) : tr B b (rv r) = va_rf (rfo B r) := by
  unfold rv rfo
  split
  · rfl
  · rename_i h
    show Value.ref (ra B b r) = .ref _
    rw [ra, if_neg h]
theorem tr_fA (B b c j k : Nat) (ρ : Ref) (σ : Mem) : tr B b (fA ρ σ c j k) = fv B c j (σ k j) (ρ k j) := by
  unfold fA fv
  split
  · exact tr_rv B b _
  · rfl
theorem tr_cat (B b : Nat) (v : Value) : (tr B b v).category = v.category := by cases v <;> rfl
def cE (B : Nat) (cy : Nat → ClassId) (ρ : Ref) (σ : Mem) (k : Nat) : va_E :=
  if (zk k).1 = 10 then .inl (cy 0, (zk k).2, .inl (σ k))
  else if (zk k).1 = 11 then .inl (cy 1, (zk k).2, .inl (σ k))
  else if (zk k).1 = 12 then .inl (cy 2, (zk k).2, .inl (σ k))
  else if (zk k).1 = 13 then .inl (cy 3, (zk k).2, .inr (.inr (.inr (.inr (fun i => rfo B (ρ k i))))))
  else .inr ((zk k).1, (List.range (zk k).2).map (fun j => fv B (zk k).1 j (σ k j) (ρ k j)))
def wd (B : Nat) (cy : Nat → ClassId) (n : Nat) (ρ : Ref) (σ : Mem) : va_W := (List.range n).map (fun i => (B + i, cE B cy ρ σ (i + 1)))
theorem wd_get {B : Nat} {cy : Nat → ClassId} {n k : Nat} {ρ : Ref} {σ : Mem} (h1 : 1 ≤ k) (h2 : k ≤ n) : (wd B cy n ρ σ)[k - 1]? = some (B + (k - 1), cE B cy ρ σ k) := by
  unfold wd
  rw [List.getElem?_map, List.getElem?_range (by omega)]
  simp only [Option.map_some]
  rw [Nat.sub_add_cancel h1]
theorem wd_at {B : Nat} {cy : Nat → ClassId} {n i : Nat} {ρ : Ref} {σ : Mem} {q : Nat × va_E} (h : (wd B cy n ρ σ)[i]? = some q) : i < n ∧ q = (B + i, cE B cy ρ σ (i + 1)) := by
  unfold wd at h
  rw [List.getElem?_map] at h
  by_cases hi : i < n
  · rw [List.getElem?_range hi] at h
    simp only [Option.map_some, Option.some.injEq] at h
    exact ⟨hi, h.symm⟩
  · rw [List.getElem?_eq_none (by simp; omega)] at h
    cases h
theorem wd_len {B : Nat} {cy : Nat → ClassId} {n : Nat} {ρ : Ref} {σ : Mem} : (wd B cy n ρ σ).length = n := by simp [wd]
theorem wd_D {B : Nat} {cy : Nat → ClassId} {n : Nat} {ρ : Ref} {σ : Mem} : va_D (fun q => B ≤ q) (wd B cy n ρ σ) := by
  refine ⟨fun i j p q hi hj hpq => ?_, fun k q hk => ?_⟩
  · obtain ⟨-, rfl⟩ := wd_at hi
    obtain ⟨-, rfl⟩ := wd_at hj
    have : B + i = B + j := hpq
    omega
  · obtain ⟨-, rfl⟩ := wd_at hk
    exact Nat.le_add_right _ _
theorem cE_congr {B : Nat} {cy : Nat → ClassId} {ρ ρ' : Ref} {σ σ' : Mem} {k : Nat} (h1 : σ' k = σ k) (h2 : ρ' k = ρ k) : cE B cy ρ' σ' k = cE B cy ρ σ k := by
  unfold cE
  rw [h1, h2]
theorem wd_set {B : Nat} {cy : Nat → ClassId} {n k : Nat} {ρ ρ' : Ref} {σ σ' : Mem} (h1 : 1 ≤ k) (hs : ∀ a, a ≠ k → σ' a = σ a) (hr : ∀ a, a ≠ k → ρ' a = ρ a) : (wd B cy n ρ σ).set (k - 1) (B + (k - 1), cE B cy ρ' σ' k) = wd B cy n ρ' σ' := by
  apply List.ext_getElem?
  intro i
  by_cases hi : i < n
  · by_cases hik : k - 1 = i
    · subst hik
      rw [List.getElem?_set_self (by rw [wd_len]; exact hi), wd_get h1 (by omega)]
    · rw [List.getElem?_set_ne hik]
      have e1 := wd_get (B := B) (cy := cy) (n := n) (ρ := ρ) (σ := σ) (k := i + 1) (by omega) (by omega)
      have e2 := wd_get (B := B) (cy := cy) (n := n) (ρ := ρ') (σ := σ') (k := i + 1) (by omega) (by omega)
      rw [Nat.add_sub_cancel] at e1 e2
      rw [e1, e2, cE_congr (hs (i + 1) (by omega)) (hr (i + 1) (by omega))]
  · rw [List.getElem?_eq_none (by rw [List.length_set, wd_len]; omega), List.getElem?_eq_none (by rw [wd_len]; omega)]
theorem wd_push {B : Nat} {cy : Nat → ClassId} {n : Nat} {ρ ρ' : Ref} {σ σ' : Mem} (hs : ∀ a, a ≠ n + 1 → σ' a = σ a) (hr : ∀ a, a ≠ n + 1 → ρ' a = ρ a) : wd B cy (n + 1) ρ' σ' = wd B cy n ρ σ ++ [(B + n, cE B cy ρ' σ' (n + 1))] := by
  unfold wd
  rw [List.range_succ, List.map_append]
  congr 1
  apply List.map_congr_left
  intro i hi
  have := List.mem_range.mp hi
  rw [cE_congr (hs (i + 1) (by omega)) (hr (i + 1) (by omega))]
def up (σ : Mem) (k i : Nat) (x : Int32) : Mem := fun a => if a = k then upd (σ k) i x else σ a
def upR (ρ : Ref) (k j t : Nat) : Ref := fun a => if a = k then (fun i => if i = j then t else ρ k i) else ρ a
theorem up_ne {σ : Mem} {k i a : Nat} {x : Int32} (h : a ≠ k) : up σ k i x a = σ a := if_neg h
theorem up_eq {σ : Mem} {k i : Nat} {x : Int32} : up σ k i x k = upd (σ k) i x := if_pos rfl
theorem upR_ne {ρ : Ref} {k i a t : Nat} (h : a ≠ k) : upR ρ k i t a = ρ a := if_neg h
theorem upR_eq {ρ : Ref} {k i t : Nat} : upR ρ k i t k = (fun j => if j = i then t else ρ k j) := if_pos rfl
def tyA (cy : Nat → ClassId) : List (ClassId × FieldType) := [(cy 0, .byte), (cy 1, .int), (cy 2, .boolean), (cy 3, .array .int)]
/-! ===== locals ===== -/
def ldv (lv : LV) (i : Nat) : Option Value := lv.getD i none
def noL (lv : LV) (i : Nat) : Bool := match i with
  | 0 => true
  | j + 1 => match lv.getD j none with
    | some (.long _) => false
    | some (.double _) => false
    | _ => true
def lvp (B b : Nat) (lv : LV) : List (Nat × Value) := (List.range lv.length).filterMap (fun i => (ldv lv i).map (fun v => (i, tr B b v)))
theorem lvp_mem {B b : Nat} {lv : LV} {i : Nat} {w : Value} : (i, w) ∈ lvp B b lv ↔ ∃ v, ldv lv i = some v ∧ w = tr B b v := by
  unfold lvp
  rw [List.mem_filterMap]
  constructor
  · rintro ⟨j, -, hj⟩
    cases h : ldv lv j with
    | none => rw [h] at hj; cases hj
    | some v =>
      rw [h] at hj
      simp only [Option.map_some, Option.some.injEq, Prod.mk.injEq] at hj
      obtain ⟨rfl, rfl⟩ := hj
      exact ⟨v, h, rfl⟩
  · rintro ⟨v, hv, rfl⟩
    refine ⟨i, List.mem_range.mpr ?_, by rw [hv]; rfl⟩
    rcases Nat.lt_or_ge i lv.length with h | h
    · exact h
    · unfold ldv at hv
      rw [List.getD_eq_getElem?_getD, List.getElem?_eq_none h] at hv
      cases hv
theorem lv_mono {ls : Array Slot} {nL : Nat} {l l' : List (Nat × Value)} (h : lv_has ls nL l) (hs : ∀ q ∈ l', q ∈ l) : lv_has ls nL l' := ⟨h.1, h.2.1, fun q hq => h.2.2 q (hs q hq)⟩
theorem ldv_set {lv : LV} {i j : Nat} {v : Option Value} (hi : i < lv.length) : ldv (lv.set i v) j = if j = i then v else ldv lv j := by
  unfold ldv
  simp only [List.getD_eq_getElem?_getD]
  by_cases h : j = i
  · subst h
    rw [List.getElem?_set_self hi, if_pos rfl]; rfl
  · rw [List.getElem?_set_ne (Ne.symm h), if_neg h]
theorem ldv_lt {lv : LV} {i : Nat} {v : Value} (h : ldv lv i = some v) : i < lv.length := by
  rcases Nat.lt_or_ge i lv.length with q | q
  · exact q
  · unfold ldv at h
    rw [List.getD_eq_getElem?_getD, List.getElem?_eq_none q] at h
    cases h
theorem noL_spec {lv : LV} {i j : Nat} {v : Value} (h : noL lv i = true) (hj : j + 1 = i) (hv : ldv lv j = some v) : v.category = 1 := by
  subst hj
  unfold ldv at hv
  simp only [noL, hv] at h
  cases v <;> first | rfl | cases h
theorem lvp_st1 {B b : Nat} {lv : LV} {ls : Array Slot} {nL i : Nat} {v : Value} (hi : i < lv.length) (hn : noL lv i = true) (h : lv_has ls nL ((i, tr B b v) :: (lvp B b lv).filter (fun q => !(q.1 == i) && !(q.1 + 1 == i && q.2.category == 2)))) : lv_has ls nL (lvp B b (lv.set i (some v))) := by
  refine lv_mono h fun q hq => ?_
  obtain ⟨j, w⟩ := q
  obtain ⟨u, hu, rfl⟩ := lvp_mem.mp hq
  rw [ldv_set hi] at hu
  by_cases hj : j = i
  · rw [if_pos hj] at hu
    cases hu
    rw [hj]
    exact List.mem_cons_self
  · rw [if_neg hj] at hu
    refine List.mem_cons_of_mem _ (List.mem_filter.mpr ⟨lvp_mem.mpr ⟨u, hu, rfl⟩, ?_⟩)
    by_cases h2 : j + 1 = i
    · have := noL_spec hn h2 hu
      simp [hj, tr_cat, this]
    · simp [hj, h2]
theorem lvp_st2 {B b : Nat} {lv : LV} {ls : Array Slot} {nL i : Nat} {v : Value} (hi : i + 1 < lv.length) (hn : noL lv i = true) (h : lv_has ls nL ((i, tr B b v) :: (lvp B b lv).filter (fun q => !(q.1 == i) && (!(q.1 == i + 1) && !(q.1 + 1 == i && q.2.category == 2))))) : lv_has ls nL (lvp B b ((lv.set i (some v)).set (i + 1) none)) := by
  refine lv_mono h fun q hq => ?_
  obtain ⟨j, w⟩ := q
  obtain ⟨u, hu, rfl⟩ := lvp_mem.mp hq
  rw [ldv_set (by rw [List.length_set]; exact hi)] at hu
  by_cases hj1 : j = i + 1
  · rw [if_pos hj1] at hu; cases hu
  · rw [if_neg hj1, ldv_set (by omega)] at hu
    by_cases hj : j = i
    · rw [if_pos hj] at hu
      cases hu
      rw [hj]
      exact List.mem_cons_self
    · rw [if_neg hj] at hu
      refine List.mem_cons_of_mem _ (List.mem_filter.mpr ⟨lvp_mem.mpr ⟨u, hu, rfl⟩, ?_⟩)
      by_cases h2 : j + 1 = i
      · have := noL_spec hn h2 hu
        simp [hj, hj1, tr_cat, this]
      · simp [hj, hj1, h2]
theorem lvp_at {B b : Nat} {lv : LV} {ls : Array Slot} {nL i : Nat} {v : Value} (h : lv_has ls nL (lvp B b lv)) (hv : ldv lv i = some v) : ls[i]? = some (.val (tr B b v)) := h.2.2 (i, tr B b v) (lvp_mem.mpr ⟨v, hv, rfl⟩)
/-! ===== one step of the abstract machine ===== -/
def iRem (x y : Int32) : Int32 := x - x / y * y
def lRem (x y : Int64) : Int64 := x - x / y * y
def ix (x : Int32) : Nat := x.toNatClampNeg
def okC (lo k c : Nat) : Bool := decide (1 ≤ k) && decide (k ≤ lo) && decide ((zk k).1 = c)
def isB (c j : Nat) : Bool := (c == 5) && (j == 9)
abbrev StR : Type := Option (Option Prop × LV × List Value × Mem)
def il (i : Instr) : Nat := match i with
  | .bipush _ => 2
  | .sipush _ => 3
  | .ldc _ => 2
  | .ldc2_w _ => 3
  | .iload _ => 2
  | .lload _ => 2
  | .istore _ => 2
  | .lstore _ => 2
  | .iinc _ _ => 3
  | .getfield _ => 3
  | .putfield _ => 3
  | .if_icmp _ _ => 3
  | .ifCond _ _ => 3
  | .goto _ => 3
  | .ifnonnull _ => 3
  | .invokevirtual _ => 3
  | .invokestatic _ => 3
  | .invokespecial _ => 3
  | .new _ => 3
  | .newarray _ => 2
  | .multianewarray _ _ => 4
  | _ => 1
def stp (o lo : Nat) (ρ : Ref) (i : Instr) (lv : LV) (st : List Value) (σ : Mem) : StR :=
  match i with
  | .iconst n => some (none, lv, .int (iZ n) :: st, σ)
  | .bipush n => if (decide (-128 ≤ n) && decide (n < 128)) = true then some (none, lv, .int (iZ n) :: st, σ) else none
  | .sipush n => if (decide (-32768 ≤ n) && decide (n < 32768)) = true then some (none, lv, .int (iZ n) :: st, σ) else none
  | .lconst n => some (none, lv, .long (lZ (n : Nat)) :: st, σ)
  | .ldc i => match kI o i with
    | some z => some (none, lv, .int (iZ z) :: st, σ)
    | none => none
  | .ldc2_w i => match kL o i with
    | some z => some (none, lv, .long (lZ z) :: st, σ)
    | none => none
  | .iload_n k => match ldv lv k with
    | some (.int x) => some (none, lv, .int x :: st, σ)
    | _ => none
  | .iload k => match ldv lv k with
    | some (.int x) => some (none, lv, .int x :: st, σ)
    | _ => none
  | .lload_n k => match ldv lv k with
    | some (.long x) => some (none, lv, .long x :: st, σ)
    | _ => none
  | .lload k => match ldv lv k with
    | some (.long x) => some (none, lv, .long x :: st, σ)
    | _ => none
  | .aload_n k => match ldv lv k with
    | some (.ref x) => some (none, lv, .ref x :: st, σ)
    | _ => none
  | .istore_n k => match st with
    | .int x :: st => if (decide ((k : Nat) < lv.length) && noL lv k) = true then some (none, lv.set k (some (.int x)), st, σ) else none
    | _ => none
  | .istore k => match st with
    | .int x :: st => if (decide (k < lv.length) && noL lv k) = true then some (none, lv.set k (some (.int x)), st, σ) else none
    | _ => none
  | .astore_n k => match st with
    | .ref x :: st => if (decide ((k : Nat) < lv.length) && noL lv k) = true then some (none, lv.set k (some (.ref x)), st, σ) else none
    | _ => none
  | .lstore_n k => match st with
    | .long x :: st => if (decide ((k : Nat) + 1 < lv.length) && noL lv k) = true then some (none, (lv.set k (some (.long x))).set (k + 1) none, st, σ) else none
    | _ => none
  | .lstore k => match st with
    | .long x :: st => if (decide (k + 1 < lv.length) && noL lv k) = true then some (none, (lv.set k (some (.long x))).set (k + 1) none, st, σ) else none
    | _ => none
  | .iinc k n => match ldv lv k with
    | some (.int x) => if (decide (k < lv.length) && noL lv k) = true then some (none, lv.set k (some (.int (x + iZ n))), st, σ) else none
    | _ => none
  | .iadd => match st with
    | .int y :: .int x :: st => some (none, lv, .int (x + y) :: st, σ)
    | _ => none
  | .isub => match st with
    | .int y :: .int x :: st => some (none, lv, .int (x - y) :: st, σ)
    | _ => none
  | .imul => match st with
    | .int y :: .int x :: st => some (none, lv, .int (x * y) :: st, σ)
    | _ => none
  | .iand => match st with
    | .int y :: .int x :: st => some (none, lv, .int (x &&& y) :: st, σ)
    | _ => none
  | .idiv => match st with
    | .int y :: .int x :: st => some (some (¬ y = 0), lv, .int (x / y) :: st, σ)
    | _ => none
  | .irem => match st with
    | .int y :: .int x :: st => some (some (¬ y = 0), lv, .int (iRem x y) :: st, σ)
    | _ => none
  | .ineg => match st with
    | .int x :: st => some (none, lv, .int (-x) :: st, σ)
    | _ => none
  | .ishl => match st with
    | .int y :: .int x :: st => some (none, lv, .int (x <<< (y &&& 31)) :: st, σ)
    | _ => none
  | .ishr => match st with
    | .int y :: .int x :: st => some (none, lv, .int (x >>> (y &&& 31)) :: st, σ)
    | _ => none
  | .i2l => match st with
    | .int x :: st => some (none, lv, .long x.toInt64 :: st, σ)
    | _ => none
  | .l2i => match st with
    | .long x :: st => some (none, lv, .int x.toInt32 :: st, σ)
    | _ => none
  | .i2b => match st with
    | .int x :: st => some (none, lv, .int x.toInt8.toInt32 :: st, σ)
    | _ => none
  | .lshl => match st with
    | .int y :: .long x :: st => some (none, lv, .long (x <<< (y.toInt64 &&& 63)) :: st, σ)
    | _ => none
  | .lshr => match st with
    | .int y :: .long x :: st => some (none, lv, .long (x >>> (y.toInt64 &&& 63)) :: st, σ)
    | _ => none
  | .land => match st with
    | .long y :: .long x :: st => some (none, lv, .long (x &&& y) :: st, σ)
    | _ => none
  | .lor => match st with
    | .long y :: .long x :: st => some (none, lv, .long (x ||| y) :: st, σ)
    | _ => none
  | .lmul => match st with
    | .long y :: .long x :: st => some (none, lv, .long (x * y) :: st, σ)
    | _ => none
  | .lrem => match st with
    | .long y :: .long x :: st => some (some (¬ y = 0), lv, .long (lRem x y) :: st, σ)
    | _ => none
  | .lcmp => match st with
    | .long y :: .long x :: st => some (none, lv, .int (lg_cmp x y) :: st, σ)
    | _ => none
  | .dup => match st with
    | v :: st => if v.category = 1 then some (none, lv, v :: v :: st, σ) else none
    | _ => none
  | .dup2 => match st with
    | v :: w :: st => if v.category = 1 then (if w.category = 1 then some (none, lv, v :: w :: v :: w :: st, σ) else none) else none
    | _ => none
  | .pop => match st with
    | v :: st => if v.category = 1 then some (none, lv, st, σ) else none
    | _ => none
  | .aconst_null => some (none, lv, .null :: st, σ)
  | .getfield i => match st with
    | .ref k :: st => match fT o i with
      | some (c, j) => if okC lo k c = true then some (none, lv, fA ρ σ c j k :: st, σ) else none
      | none => none
    | _ => none
  | .putfield i => match st with
    | .int x :: .ref k :: st => match fT o i with
      | some (c, j) => if (okC lo k c && !isR c j) = true then (if isB c j = true then some (some (x = 0 ∨ x = 1), lv, st, up σ k j x) else some (none, lv, st, up σ k j x)) else none
      | none => none
    | _ => none
  | .iaload => match st with
    | .int x :: .ref k :: st => if okC lo k 11 = true then some (some (vp_in x (zk k).2), lv, .int (σ k (ix x)) :: st, σ) else none
    | _ => none
  | .baload => match st with
    | .int x :: .ref k :: st => if okC lo k 10 = true then some (some (vp_in x (zk k).2), lv, .int (σ k (ix x)) :: st, σ) else if okC lo k 12 = true then some (some (vp_in x (zk k).2), lv, .int (σ k (ix x)) :: st, σ) else none
    | _ => none
  | .aaload => match st with
    | .int x :: .ref k :: st => if okC lo k 13 = true then some (some (vp_in x (zk k).2), lv, rv (ρ k (ix x)) :: st, σ) else none
    | _ => none
  | .iastore => match st with
    | .int v :: .int x :: .ref k :: st => if okC lo k 11 = true then some (some (vp_in x (zk k).2), lv, st, up σ k (ix x) v) else none
    | _ => none
  | .bastore => match st with
    | .int v :: .int x :: .ref k :: st => if okC lo k 10 = true then some (some (vp_in x (zk k).2), lv, st, up σ k (ix x) (vp_nar .byte v)) else if okC lo k 12 = true then some (some (vp_in x (zk k).2), lv, st, up σ k (ix x) (vp_nar .boolean v)) else none
    | _ => none
  | _ => none
