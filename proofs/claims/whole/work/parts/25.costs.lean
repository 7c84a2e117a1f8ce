/-! ===== the reference: prices ===== -/
def twB (r : List Nat) (v : Nat) : Bool := v % 2 == 0 && r.contains (v / 2)
def smB (r : List Nat) (v : Nat) : Bool := r.any (fun x => 2 * x != v && r.contains (v - x))
def costV (p q : Nat) (r : List Nat) (v : Nat) : Nat := if (twB r v && smB r v) = true then (if p < q then p else q) else if twB r v = true then p else q
def chs (p q N k : Nat) (r : List Nat) (b : Nat) : Bool := match k with
  | 0 => false
  | k + 1 => (candL 0 N r).any (fun v => decide (costV p q r v ≤ b) && (v == N || chs p q N k (r ++ [v]) (b - costV p q r v)))
def pricesM (σ : Mem) (p q : Nat) : Prop := σ 35 2 = iZ p ∧ σ 35 3 = iZ q ∧ (1 ≤ p ∧ p ≤ 4) ∧ (1 ≤ q ∧ q ≤ 4)
theorem pricesM.fr {S : List Nat} {σ σ' : Mem} {p q : Nat} (h : pricesM σ p q) (hf : Fr S σ σ') (h1 : 35 ∉ S) : pricesM σ' p q := by
  unfold pricesM at *
  rw [hf 35 h1]
  exact h
theorem costV_b {p q : Nat} {r : List Nat} {v : Nat} (hp : 1 ≤ p ∧ p ≤ 4) (hq : 1 ≤ q ∧ q ≤ 4) : (if p < q then p else q) ≤ costV p q r v ∧ costV p q r v ≤ 4 ∧ 1 ≤ costV p q r v := by
  unfold costV
  repeat' split
  all_goals omega
theorem chs_low {p q N ch : Nat} (hch : 1 ≤ ch) (hc : ∀ r v, ch ≤ costV p q r v) : ∀ {k g b : Nat} {r : List Nat}, (∀ x ∈ r, x ≤ g) → chs p q N k r b = true → N ≤ g * 2 ^ (b / ch)
  | 0, g, b, r, hg, h => by cases h
  | k + 1, g, b, r, hg, h => by
    unfold chs at h
    rw [List.any_eq_true] at h
    obtain ⟨v, hv, h⟩ := h
    simp only [Bool.and_eq_true, decide_eq_true_eq, Bool.or_eq_true, beq_iff_eq] at h
    have h1 := candB_spec (mem_candL.mp hv)
    have h2 := snB_le h1.2.2.1 hg
    have h3 := hc r v
    have h4 : 1 ≤ b / ch := (Nat.le_div_iff_mul_le (by omega)).mpr (by omega)
    obtain ⟨e, he⟩ : ∃ e, b / ch = e + 1 := ⟨b / ch - 1, by omega⟩
    rw [he, Nat.pow_succ, Nat.mul_comm (2 ^ e) 2, ← Nat.mul_assoc, Nat.mul_comm g 2]
    rcases h.2 with h5 | h5
    · have hp : 1 ≤ 2 ^ e := Nat.one_le_two_pow
      have : 2 * g * 1 ≤ 2 * g * 2 ^ e := Nat.mul_le_mul_left _ hp
      omega
    · have ih := chs_low hch hc (k := k) (g := 2 * g) (b := b - costV p q r v) (r := r ++ [v]) (fun x hx => by
        rcases List.mem_append.mp hx with q | q
        · have := hg x q; omega
        · rw [List.mem_singleton] at q; omega) h5
      have h6 : (b - costV p q r v) / ch ≤ e := by
        have h7 : (b - costV p q r v) / ch ≤ (b - ch) / ch := Nat.div_le_div_right (by omega)
        have h8 := Nat.div_eq_sub_div (show 0 < ch by omega) (show ch ≤ b by omega)
        omega
      exact Nat.le_trans ih (Nat.mul_le_mul_left _ (Nat.pow_le_pow_right (by decide) h6))
section MDA
variable {d n ca cb tr : Nat} {Q : PQ} {σ : Mem}
theorem m_price (hn : 54 ≤ n) (hd : 2 ≤ d) {p q : Nat} {w z : Int} (hw : -2147483648 ≤ w ∧ w < 2147483648) (hz : -2147483648 ≤ z ∧ z < 2147483648) (hp : pricesM σ p q) (hbad : ¬ ((0 ≤ w ∧ w ≤ 1) ∧ 1 ≤ z ∧ z ≤ 4) → Q (some (.int (iZ (-1)))) (rho ca cb tr) σ) (h0 : w = 0 → 1 ≤ z ∧ z ≤ 4 → Q (some (.int (iZ p))) (rho ca cb tr) (up σ 35 2 (iZ z))) (h1 : w = 1 → 1 ≤ z ∧ z ≤ 4 → Q (some (.int (iZ q))) (rho ca cb tr) (up σ 35 3 (iZ z))) : Mt M_X9_price d n n [.ref 35, .int (iZ w), .int (iZ z)] (rho ca cb tr) σ Q := by
  obtain ⟨p1, p2, p3, p4⟩ := hp
  refine Mt.of rfl (by decide +kernel) tk_X9_price (Nat.le_of_ble_eq_true rfl) ?_
  refine V.run 0 54 rfl hn trivial ?_
  refine V.cs (d' := d - 1) rfl rfl ok_X9_in lk_9_X9_in rfl (by omega) (Nat.le_refl _) (Nat.le_refl _) ((m_inZ (by omega) (by omega) (by omega) (fun g => ?_) (fun g => ?_)))
  · refine V.brF rfl (by decide) ?_
    refine V.run 0 54 rfl hn trivial ?_
    refine V.cs (d' := d - 1) rfl rfl ok_X9_in lk_9_X9_in rfl (by omega) (Nat.le_refl _) (Nat.le_refl _) ((m_inZ (by omega) (by omega) (by omega) (fun g2 => ?_) (fun g2 => ?_)))
    · refine V.brF rfl (by decide) ?_
      refine V.run 0 54 rfl hn trivial ?_
      refine V.br rfl (fun (c : iZ w = 0) => ?_) (fun (c : ¬ (iZ w = 0)) => ?_)
      · rw [iZ_eq0 (by omega)] at c
        refine V.run 0 54 rfl hn trivial ?_
        refine V.run 0 54 rfl hn trivial ?_
        refine V.brT rfl ((iZ_eq0 (by omega)).mpr c) ?_
        refine V.run 0 54 rfl hn trivial ?_
        refine V.run 0 54 rfl hn trivial ?_
        try simp only [rf_told, rf_comes, rf_comeMany, rf_comeAt, rf_isSeen, rf_goals, rf_text, rf_taken, rf_roadRow, rf_dueNumber, rf_dueTimes, rf_above, rf_tree, rf_way, rf_signs, rf_spent, rf_read, rf_useMany, rf_lastUse, fi_9_0, fi_9_2, fi_9_3, fi_9_4, fi_9_6, fi_9_7, fi_9_14, fi_9_19, fi_9_24, fi_9_26, fi_9_27, fi_9_30]
        rw [p1]
        refine V.ret (v := some (.int (iZ p))) rfl rfl rfl rfl (h0 c g2)
      · rw [iZ_eq0 (by omega)] at c
        refine V.run 0 54 rfl hn trivial ?_
        refine V.brF rfl (fun q => c ((iZ_eq0 (by omega)).mp q)) ?_
        refine V.run 0 54 rfl hn trivial ?_
        try simp only [rf_told, rf_comes, rf_comeMany, rf_comeAt, rf_isSeen, rf_goals, rf_text, rf_taken, rf_roadRow, rf_dueNumber, rf_dueTimes, rf_above, rf_tree, rf_way, rf_signs, rf_spent, rf_read, rf_useMany, rf_lastUse, fi_9_0, fi_9_2, fi_9_3, fi_9_4, fi_9_6, fi_9_7, fi_9_14, fi_9_19, fi_9_24, fi_9_26, fi_9_27, fi_9_30]
        rw [p2]
        refine V.ret (v := some (.int (iZ q))) rfl rfl rfl rfl (h1 (by omega) g2)
    · refine V.brT rfl rfl ?_
      refine V.run 0 54 rfl hn trivial ?_
      refine V.ret (v := some (.int (iZ (-1)))) rfl rfl rfl rfl (hbad (fun q => g2 q.2))
  · refine V.brT rfl rfl ?_
    refine V.run 0 54 rfl hn trivial ?_
    refine V.ret (v := some (.int (iZ (-1)))) rfl rfl rfl rfl (hbad (fun q => g q.1))
theorem m_costOf (hn : 54 ≤ n) (hd : 2 ≤ d) {p q v last : Nat} {r : List Nat} (hl : r.length = last + 1) (hr2 : last < 44) (hp : pricesM σ p q) (ht : told σ r) (hb : ∀ x ∈ r, 1 ≤ x ∧ x < v) (hv : v < 1000) (hQ : Q (some (.int (iZ (costV p q r v)))) (rho ca cb tr) σ) : Mt M_X9_costOf d n n [.ref 35, .int (iZ last), .int (iZ v)] (rho ca cb tr) σ Q := by
  obtain ⟨p1, p2, p3, p4⟩ := hp
  have hr : 0 < r.length := by omega
  have el : last = r.length - 1 := by omega
  subst el
  have hb2 : ∀ x ∈ r, x < 1000 := fun x hx => by have := hb x hx; omega
  have tiff := fun {w : Nat} (hw : w < 100000) => told_iff hr ht hb2 hw
  refine Mt.of rfl (by decide +kernel) tk_X9_costOf (Nat.le_of_ble_eq_true rfl) ?_
  -- the end
  have fin : ∀ (t s : Bool) (x5 : Option Value), t = twB r v → s = smB r v → V M_X9_costOf d n n none Q n (rho ca cb tr) σ 83 [some (.ref 35), some (.int (iZ ((r.length - 1 : Nat)))), some (.int (iZ (v))), some (.int ((if t = true then 1 else 0))), some (.int ((if s = true then 1 else 0))), x5] [] := by
    intro t s x5 e1 e2
    unfold costV at hQ
    rw [← e1, ← e2] at hQ
    refine V.run 0 54 rfl hn trivial ?_
    cases t with
    | true =>
      refine V.brF rfl (by decide) ?_
      refine V.run 0 54 rfl hn trivial ?_
      cases s with
      | true =>
        refine V.brF rfl (by decide) ?_
        refine V.run 0 54 rfl hn trivial ?_
        try simp only [rf_told, rf_comes, rf_comeMany, rf_comeAt, rf_isSeen, rf_goals, rf_text, rf_taken, rf_roadRow, rf_dueNumber, rf_dueTimes, rf_above, rf_tree, rf_way, rf_signs, rf_spent, rf_read, rf_useMany, rf_lastUse, fi_9_0, fi_9_2, fi_9_3, fi_9_4, fi_9_6, fi_9_7, fi_9_14, fi_9_19, fi_9_24, fi_9_26, fi_9_27, fi_9_30]
        rw [p1, p2]
        refine V.br rfl (fun (c : iZ q ≤ iZ p) => ?_) (fun (c : ¬ (iZ q ≤ iZ p)) => ?_)
        · rw [iZ_le (by omega) (by omega)] at c
          refine V.run 0 54 rfl hn trivial ?_
          refine V.run 0 54 rfl hn trivial ?_
          try simp only [rf_told, rf_comes, rf_comeMany, rf_comeAt, rf_isSeen, rf_goals, rf_text, rf_taken, rf_roadRow, rf_dueNumber, rf_dueTimes, rf_above, rf_tree, rf_way, rf_signs, rf_spent, rf_read, rf_useMany, rf_lastUse, fi_9_0, fi_9_2, fi_9_3, fi_9_4, fi_9_6, fi_9_7, fi_9_14, fi_9_19, fi_9_24, fi_9_26, fi_9_27, fi_9_30]
          rw [p2]
          simp only [Bool.and_self, if_true] at hQ
          rw [if_neg (by omega)] at hQ
          refine V.ret (v := some (.int (iZ q))) rfl rfl rfl rfl (hQ)
        · rw [iZ_le (by omega) (by omega)] at c
          refine V.run 0 54 rfl hn trivial ?_
          refine V.run 0 54 rfl hn trivial ?_
          try simp only [rf_told, rf_comes, rf_comeMany, rf_comeAt, rf_isSeen, rf_goals, rf_text, rf_taken, rf_roadRow, rf_dueNumber, rf_dueTimes, rf_above, rf_tree, rf_way, rf_signs, rf_spent, rf_read, rf_useMany, rf_lastUse, fi_9_0, fi_9_2, fi_9_3, fi_9_4, fi_9_6, fi_9_7, fi_9_14, fi_9_19, fi_9_24, fi_9_26, fi_9_27, fi_9_30]
          rw [p1]
          simp only [Bool.and_self, if_true] at hQ
          rw [if_pos (by omega)] at hQ
          refine V.ret (v := some (.int (iZ p))) rfl rfl rfl rfl (hQ)
      | false =>
        refine V.brT rfl rfl ?_
        refine V.run 0 54 rfl hn trivial ?_
        refine V.brF rfl (by decide) ?_
        refine V.run 0 54 rfl hn trivial ?_
        refine V.run 0 54 rfl hn trivial ?_
        try simp only [rf_told, rf_comes, rf_comeMany, rf_comeAt, rf_isSeen, rf_goals, rf_text, rf_taken, rf_roadRow, rf_dueNumber, rf_dueTimes, rf_above, rf_tree, rf_way, rf_signs, rf_spent, rf_read, rf_useMany, rf_lastUse, fi_9_0, fi_9_2, fi_9_3, fi_9_4, fi_9_6, fi_9_7, fi_9_14, fi_9_19, fi_9_24, fi_9_26, fi_9_27, fi_9_30]
        rw [p1]
        refine V.ret (v := some (.int (iZ p))) rfl rfl rfl rfl (hQ)
    | false =>
      refine V.brT rfl rfl ?_
      refine V.run 0 54 rfl hn trivial ?_
      refine V.brT rfl rfl ?_
      refine V.run 0 54 rfl hn trivial ?_
      try simp only [rf_told, rf_comes, rf_comeMany, rf_comeAt, rf_isSeen, rf_goals, rf_text, rf_taken, rf_roadRow, rf_dueNumber, rf_dueTimes, rf_above, rf_tree, rf_way, rf_signs, rf_spent, rf_read, rf_useMany, rf_lastUse, fi_9_0, fi_9_2, fi_9_3, fi_9_4, fi_9_6, fi_9_7, fi_9_14, fi_9_19, fi_9_24, fi_9_26, fi_9_27, fi_9_30]
      rw [p2]
      refine V.ret (v := some (.int (iZ q))) rfl rfl rfl rfl (hQ)
  -- the loop
  have loop : ∀ (t : Bool), t = twB r v → ∀ (j k : Nat), k + j = r.length → V M_X9_costOf d n n none Q n (rho ca cb tr) σ 29 [some (.ref 35), some (.int (iZ ((r.length - 1 : Nat)))), some (.int (iZ (v))), some (.int ((if t = true then 1 else 0))), some (.int ((if (r.take k).any (fun x => 2 * x != v && r.contains (v - x)) = true then 1 else 0))), some (.int (iZ (k)))] [] := by
    intro t et j
    induction j with
    | zero =>
      intro k hk
      have e : k = r.length := by omega
      subst e
      refine V.run 0 54 rfl hn trivial ?_
      refine V.brT rfl ((iZ_lt (by omega) (by omega)).mpr (by omega)) ?_
      exact fin t _ _ et (by rw [List.take_length]; rfl)
    | succ j ih =>
      intro k hk
      have hx := hb _ (getD_mem2 (r := r) (i := k) (by omega))
      have e3 := ht k (by omega)
      have ihk := ih (k + 1) (by omega)
      have hnx : (r.take (k + 1)).any (fun x => 2 * x != v && r.contains (v - x)) = ((r.take k).any (fun x => 2 * x != v && r.contains (v - x)) || (2 * r.getD k 0 != v && r.contains (v - r.getD k 0))) := by
        have e : r.getD k 0 = r[k]'(by omega) := by rw [List.getD_eq_getElem?_getD, List.getElem?_eq_getElem (by omega)]; rfl
        rw [e, List.take_succ, List.getElem?_eq_getElem (by omega), Option.toList_some, List.any_append]
        simp
      rw [hnx, show ((k + 1 : Nat) : Int) = (k : Int) + 1 by omega, ← iZ_add] at ihk
      generalize (r.take k).any (fun x => 2 * x != v && r.contains (v - x)) = s at *
      generalize r.getD k 0 = x at *
      have stp1 : ∀ (s2 : Bool), s2 = (s || (2 * x != v && r.contains (v - x))) → V M_X9_costOf d n n none Q n (rho ca cb tr) σ 75 [some (.ref 35), some (.int (iZ ((r.length - 1 : Nat)))), some (.int (iZ (v))), some (.int ((if t = true then 1 else 0))), some (.int ((if s = true then 1 else 0))), some (.int (iZ (k)))] [(.int ((if s2 = true then 1 else 0)))] := by
        intro s2 e
        rw [← e] at ihk
        refine V.run 0 54 rfl hn trivial ?_
        exact ihk
      refine V.run 0 54 rfl hn trivial ?_
      refine V.brF rfl (fun q => by have := (iZ_lt (by omega) (by omega)).mp q; omega) ?_
      refine V.run 0 54 rfl hn trivial ?_
      cases s with
      | true =>
        refine V.brF rfl (by decide) ?_
        refine V.run 0 54 rfl hn trivial ?_
        exact stp1 true rfl
      | false =>
        refine V.brT rfl rfl ?_
        refine V.run 0 54 rfl hn ⟨in_N (n := 44) (by omega) (by decide), trivial⟩ ?_
        try simp only [rf_told, rf_comes, rf_comeMany, rf_comeAt, rf_isSeen, rf_goals, rf_text, rf_taken, rf_roadRow, rf_dueNumber, rf_dueTimes, rf_above, rf_tree, rf_way, rf_signs, rf_spent, rf_read, rf_useMany, rf_lastUse, fi_9_0, fi_9_2, fi_9_3, fi_9_4, fi_9_6, fi_9_7, fi_9_14, fi_9_19, fi_9_24, fi_9_26, fi_9_27, fi_9_30]
        rw [ix_N (by omega), e3, iZ_mul]
        refine V.br rfl (fun (c : iZ (2 * x) = iZ v) => ?_) (fun (c : ¬ (iZ (2 * x) = iZ v)) => ?_)
        · rw [iZ_eq (by omega) (by omega)] at c
          refine V.run 75 54 rfl hn trivial ?_
          exact stp1 false (by rw [show 2 * x = v by omega]; simp)
        · rw [iZ_eq (by omega) (by omega)] at c
          refine V.run 0 54 rfl hn ⟨in_N (n := 44) (by omega) (by decide), trivial⟩ ?_
          try simp only [rf_told, rf_comes, rf_comeMany, rf_comeAt, rf_isSeen, rf_goals, rf_text, rf_taken, rf_roadRow, rf_dueNumber, rf_dueTimes, rf_above, rf_tree, rf_way, rf_signs, rf_spent, rf_read, rf_useMany, rf_lastUse, fi_9_0, fi_9_2, fi_9_3, fi_9_4, fi_9_6, fi_9_7, fi_9_14, fi_9_19, fi_9_24, fi_9_26, fi_9_27, fi_9_30]
          rw [ix_N (by omega), e3, iZ_sub, show (v : Int) - x = ((v - x : Nat) : Int) by omega]
          have c2 : (2 * x != v) = true := by simp; omega
          refine V.cv (lo := 54) (d' := d - 1) rfl rfl ok_X9_isTold lk_9_X9_isTold rfl rfl rfl hn (by omega) (Nat.le_refl _) (Nat.le_refl _) ((m_isTold hn (by omega) (fun h1 => ?_) (fun h0 => ?_)))
          · rw [tiff (by omega)] at h1
            refine V.brF rfl (by decide) ?_
            refine V.run 0 54 rfl hn trivial ?_
            exact stp1 true (by rw [c2]; simp [h1])
          · have h0' : v - x ∉ r := fun q => by
              obtain ⟨k, hk, e⟩ := (tiff (by omega)).mpr q
              exact h0 k hk e
            refine V.brT rfl rfl ?_
            refine V.run 75 54 rfl hn trivial ?_
            exact stp1 false (by simp [h0'])
  have st22 : ∀ (t : Bool), t = twB r v → V M_X9_costOf d n n none Q n (rho ca cb tr) σ 22 [some (.ref 35), some (.int (iZ ((r.length - 1 : Nat)))), some (.int (iZ (v))), none, none, none] [(.int ((if t = true then 1 else 0)))] := by
    intro t et
    refine V.run 29 54 rfl hn trivial ?_
    exact loop t et r.length 0 (by omega)
  refine V.run 0 54 rfl hn ⟨by decide, trivial⟩ ?_
  rw [iZ_rem (by omega) (by omega)]
  refine V.br rfl (fun (c : iZ ((v : Int) % 2) = 0) => ?_) (fun (c : ¬ (iZ ((v : Int) % 2) = 0)) => ?_)
  · rw [iZ_eq0 (by omega)] at c
    refine V.run 0 54 rfl hn ⟨by decide, trivial⟩ ?_
    rw [iZ_div (by omega) (by omega), show (v : Int) / 2 = ((v / 2 : Nat) : Int) by omega]
    refine V.cv (lo := 54) (d' := d - 1) rfl rfl ok_X9_isTold lk_9_X9_isTold rfl rfl rfl hn (by omega) (Nat.le_refl _) (Nat.le_refl _) ((m_isTold hn (by omega) (fun h1 => ?_) (fun h0 => ?_)))
    · rw [tiff (by omega)] at h1
      refine V.brF rfl (by decide) ?_
      refine V.run 0 54 rfl hn trivial ?_
      exact st22 true (by unfold twB; simp [h1]; omega)
    · have h0' : v / 2 ∉ r := fun q => by
        obtain ⟨k, hk, e⟩ := (tiff (by omega)).mpr q
        exact h0 k hk e
      refine V.brT rfl rfl ?_
      refine V.run 22 54 rfl hn trivial ?_
      exact st22 false (by unfold twB; simp [h0'])
  · rw [iZ_eq0 (by omega)] at c
    refine V.run 22 54 rfl hn trivial ?_
    exact st22 false (by unfold twB; simp; omega)
end MDA
