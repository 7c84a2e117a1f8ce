/-! ===== the tree of powers, pure ===== -/
def hasH (P : List (List Nat)) (s : Nat) : Bool := P.any (fun q => q.headD 0 == s)
def sum1 (m : Nat) (p : List Nat) (P : List (List Nat)) (x : Nat) : List (List Nat) := if (Nat.ble (p.headD 0 + x) m && !hasH P (p.headD 0 + x)) = true then P ++ [(p.headD 0 + x) :: p] else P
def sumsP (m : Nat) (P : List (List Nat)) (p : List Nat) : List (List Nat) := p.reverse.foldl (sum1 m p) P
def rowP (m : Nat) (P rs : List (List Nat)) : List (List Nat) := rs.foldl (sumsP m) P
def trS (m : Nat → Nat) : Nat → List (List Nat) × Nat
  | 0 => ([[1]], 0)
  | r + 1 => (rowP (m r) (trS m r).1 ((trS m r).1.drop (trS m r).2), (trS m r).1.length)
/-! quick -/
def fo {α : Type} (x : Nat) (k : Nat → α) : α := match x with
  | 0 => k 0
  | n + 1 => k (n + 1)
theorem fo_eq {α : Type} (x : Nat) (k : Nat → α) : fo x k = k x := by cases x <;> rfl
def stF {α : Type} (m h : Nat) (p : List Nat) (k : Nat → List (List Nat) → α) : List Nat → Nat → List (List Nat) → α
  | [], seen, acc => k seen acc
  | x :: xs, seen, acc => fo (h + x) fun s => match (Nat.ble s m && !(Nat.testBit seen s)) with
    | true => fo (seen ||| 2 ^ s) fun sn => stF m h p k xs sn ((s :: p) :: acc)
    | false => stF m h p k xs seen acc
def rwF {α : Type} (m : Nat) (k : Nat → List (List Nat) → α) : List (List Nat) → Nat → List (List Nat) → α
  | [], seen, acc => k seen acc
  | p :: ps, seen, acc => stF m (p.headD 0) p (fun sn ac => rwF m k ps sn ac) p.reverse seen acc
def trF {α : Type} (m : Nat → Nat) (r i : Nat) (seen : Nat) (rs : List (List Nat)) (all : List (List (List Nat))) (k : Nat → List (List (List Nat)) → α) : α := match r with
  | 0 => k seen (rs :: all)
  | r + 1 => rwF (m i) (fun sn ac => trF m r (i + 1) sn ac.reverse (rs :: all) k) rs seen []
def rlF (B : List (List Nat)) (seen : Nat) (acc P : List (List Nat)) : Prop := P = B ++ acc.reverse ∧ ∀ s, seen.testBit s = hasH P s
theorem hasH_app (P : List (List Nat)) (p : List Nat) (s : Nat) : hasH (P ++ [p]) s = (hasH P s || p.headD 0 == s) := by
  unfold hasH
  rw [List.any_append]
  simp
theorem stF_ok {α : Type} {m : Nat} {p : List Nat} {k : Nat → List (List Nat) → α} {B : List (List Nat)} : ∀ (xs : List Nat) (seen : Nat) (acc P : List (List Nat)), rlF B seen acc P → ∃ sn ac, stF m (p.headD 0) p k xs seen acc = k sn ac ∧ rlF B sn ac (xs.foldl (sum1 m p) P)
  | [], seen, acc, P, h => ⟨seen, acc, rfl, h⟩
  | x :: xs, seen, acc, P, h => by
    obtain ⟨h1, h2⟩ := id h
    show ∃ sn ac, fo (p.headD 0 + x) _ = k sn ac ∧ rlF B sn ac (xs.foldl (sum1 m p) (sum1 m p P x))
    rw [fo_eq, h2]
    cases hc : (Nat.ble (p.headD 0 + x) m && !hasH P (p.headD 0 + x)) with
    | true =>
      show ∃ sn ac, fo (seen ||| 2 ^ (p.headD 0 + x)) _ = k sn ac ∧ _
      rw [fo_eq]
      refine stF_ok xs _ _ _ ⟨?_, fun s => ?_⟩
      · unfold sum1
        rw [if_pos hc, h1]
        simp
      · unfold sum1
        rw [if_pos hc, hasH_app, Nat.testBit_or, h2]
        congr 1
        rw [Nat.testBit_two_pow]
        show decide (p.headD 0 + x = s) = (p.headD 0 + x == s)
        rw [Bool.eq_iff_iff]
        simp
    | false =>
      have e : sum1 m p P x = P := by
        unfold sum1
        rw [if_neg (by rw [hc]; simp)]
      rw [e]
      exact stF_ok xs _ _ _ h
theorem rwF_ok {α : Type} {m : Nat} {k : Nat → List (List Nat) → α} {B : List (List Nat)} : ∀ (rs : List (List Nat)) (seen : Nat) (acc P : List (List Nat)), rlF B seen acc P → ∃ sn ac, rwF m k rs seen acc = k sn ac ∧ rlF B sn ac (rowP m P rs)
  | [], seen, acc, P, h => ⟨seen, acc, rfl, h⟩
  | p :: ps, seen, acc, P, h => by
    obtain ⟨sn, ac, e1, h1⟩ := stF_ok (m := m) (p := p) (k := fun sn ac => rwF m k ps sn ac) p.reverse seen acc P h
    obtain ⟨sn2, ac2, e2, h2⟩ := rwF_ok (m := m) (k := k) ps sn ac _ h1
    refine ⟨sn2, ac2, ?_, h2⟩
    show stF m (p.headD 0) p _ p.reverse seen acc = _
    rw [e1]
    exact e2
theorem trF_ok {α : Type} {m : Nat → Nat} {k : Nat → List (List (List Nat)) → α} : ∀ (r i seen : Nat) (rs : List (List Nat)) (all : List (List (List Nat))), all.length = i → (trS m i).1 = (rs :: all).reverse.flatten → (trS m i).2 = all.reverse.flatten.length → (∀ s, seen.testBit s = hasH (trS m i).1 s) → (∀ j, j < i → (trS m j).1 = ((all.drop (i - 1 - j)).reverse).flatten) → ∃ sn rows, trF m r i seen rs all k = k sn rows ∧ (∀ s, sn.testBit s = hasH (trS m (i + r)).1 s) ∧ rows.length = i + r + 1 ∧ ∀ j, j ≤ i + r → (trS m j).1 = ((rows.drop (i + r - j)).reverse).flatten
  | 0, i, seen, rs, all, h1, h2, h3, h4, h5 => by
    refine ⟨seen, rs :: all, rfl, h4, by simp [h1], fun j hj => ?_⟩
    rcases Nat.lt_or_ge j i with q | q
    · rw [h5 j q]
      obtain ⟨a, ha⟩ : ∃ a, i + 0 - j = a + 1 := ⟨i - 1 - j, by omega⟩
      rw [ha, List.drop_succ_cons, show a = i - 1 - j by omega]
    · have e : j = i := by omega
      subst e
      rw [show j + 0 - j = 0 by omega, List.drop_zero]
      exact h2
  | r + 1, i, seen, rs, all, h1, h2, h3, h4, h5 => by
    obtain ⟨sn, ac, e1, g1, g2⟩ := rwF_ok (m := m i) (k := fun sn ac => trF m r (i + 1) sn ac.reverse (rs :: all) k) (B := (trS m i).1) rs seen [] (trS m i).1 ⟨by simp, h4⟩
    have hdrop : (trS m i).1.drop (trS m i).2 = rs := by
      rw [h2, h3, List.reverse_cons, List.flatten_append, List.drop_left]
      simp
    have hS : (trS m (i + 1)).1 = rowP (m i) (trS m i).1 rs := by
      show rowP (m i) (trS m i).1 ((trS m i).1.drop (trS m i).2) = _
      rw [hdrop]
    have hS2 : (trS m (i + 1)).2 = (trS m i).1.length := rfl
    obtain ⟨sn2, rows, e2, q1, q2, q3⟩ := trF_ok (m := m) (k := k) r (i + 1) sn ac.reverse (rs :: all) (by simp [h1]) (by rw [hS, g1, h2, List.reverse_cons (a := ac.reverse), List.flatten_append]; simp) (by rw [hS2, h2]) (by rw [hS]; exact g2) (fun j hj => by
      rcases Nat.lt_or_ge j i with q | q
      · rw [h5 j q]
        obtain ⟨a, ha⟩ : ∃ a, i + 1 - 1 - j = a + 1 := ⟨i - 1 - j, by omega⟩
        rw [ha, List.drop_succ_cons, show a = i - 1 - j by omega]
      · have e : j = i := by omega
        subst e
        rw [show j + 1 - 1 - j = 0 by omega, List.drop_zero]
        exact h2)
    refine ⟨sn2, rows, ?_, ?_, by omega, ?_⟩
    · show rwF (m i) _ rs seen [] = _
      rw [e1]
      exact e2
    · rw [show i + (r + 1) = i + 1 + r by omega]
      exact q1
    · rw [show i + (r + 1) = i + 1 + r by omega]
      exact q3
/-! what the kernel reckons -/
def mR (_ : Nat) : Nat := 39999
def mC (r : Nat) : Nat := if r < 12 then 4096 else 1000
def beqL : List Nat → List Nat → Bool
  | [], [] => true
  | x :: xs, y :: ys => Nat.beq x y && beqL xs ys
  | _, _ => false
def beqLL : List (List Nat) → List (List Nat) → Bool
  | [], [] => true
  | x :: xs, y :: ys => beqL x y && beqLL xs ys
  | _, _ => false
theorem beqL_eq : ∀ {a b : List Nat}, beqL a b = true → a = b
  | [], [], _ => rfl
  | [], _ :: _, h => by cases h
  | _ :: _, [], h => by cases h
  | x :: xs, y :: ys, h => by
    unfold beqL at h
    rw [Bool.and_eq_true] at h
    rw [Nat.eq_of_beq_eq_true h.1, beqL_eq h.2]
theorem beqLL_eq : ∀ {a b : List (List Nat)}, beqLL a b = true → a = b
  | [], [], _ => rfl
  | [], _ :: _, h => by cases h
  | _ :: _, [], h => by cases h
  | x :: xs, y :: ys, h => by
    unfold beqLL at h
    rw [Bool.and_eq_true] at h
    rw [beqL_eq h.1, beqLL_eq h.2]
def boP (b : Nat) (p : List Nat) : Bool := Nat.ble p.length 14 && (Nat.ble (p.headD 0) b && Nat.ble 1 (p.headD 0))
def flP (p : List Nat) : Bool := Nat.ble (p.headD 0) 1000
def ckR (R : List (List (List Nat))) : Bool := (R.all fun rs => rs.all (boP 8192)) && (Nat.beq ((R.drop 1).foldl (fun a rs => a + rs.length) 0) 970 && (Nat.ble (R.foldl (fun a rs => a + rs.length) 0) 2000 && (((R.getD 1 []).any (fun p => p.headD 0 == 1000)) && !((R.drop 2).any fun rs => rs.any (fun p => p.headD 0 == 1000)))))
def ckC (C : List (List (List Nat))) : Bool := (C.all fun rs => rs.all (boP 4096)) && (Nat.beq ((C.drop 2).foldl (fun a rs => a + rs.length) 0) 970 && (Nat.ble (C.foldl (fun a rs => a + rs.length) 0) 1200 && (((C.getD 2 []).any (fun p => p.headD 0 == 1000)) && (!((C.drop 3).any fun rs => rs.any (fun p => p.headD 0 == 1000)) && (C.getD 0 [[]]).isEmpty))))
def ckB (R C : List (List (List Nat))) : Bool := beqLL (R.flatten.filter flP) (C.flatten.filter flP)
def ckT : Bool := trF mR 13 0 2 [[1]] [] fun sR R => trF mC 14 0 2 [[1]] [] fun _ C => Nat.beq (sR &&& (2 ^ 1001 - 2)) (2 ^ 1001 - 2) && (ckR R && (ckC C && ckB R C))
theorem ckT_ok : ckT = true := by decide +kernel
