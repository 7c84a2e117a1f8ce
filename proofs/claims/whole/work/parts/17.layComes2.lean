/-! ===== the reference: layComes, its pairs and its start ===== -/
def seen (σ : Mem) (P : Nat → Prop) : Prop := ∀ v, v < 400 → (σ 43 v = 1 ∧ P v) ∨ (σ 43 v = 0 ∧ ¬ P v)
theorem seen.congr {σ : Mem} {P P' : Nat → Prop} (h : seen σ P) (hp : ∀ v, v < 400 → (P v ↔ P' v)) : seen σ P' := fun v hv => by
  rcases h v hv with ⟨a, b⟩ | ⟨a, b⟩
  · exact Or.inl ⟨a, (hp v hv).mp b⟩
  · exact Or.inr ⟨a, fun q => b ((hp v hv).mpr q)⟩
theorem seen.put {σ : Mem} {P : Nat → Prop} (h : seen σ P) (z : Nat) : seen (up σ 43 z 1) (fun v => P v ∨ v = z) := fun v hv => by
  by_cases e : v = z
  · subst e
    exact Or.inl ⟨up_at, Or.inr rfl⟩
  · rw [up_nat e]
    rcases h v hv with ⟨a, b⟩ | ⟨a, b⟩
    · exact Or.inl ⟨a, Or.inl b⟩
    · exact Or.inr ⟨a, fun q => q.elim b e⟩
theorem seen.fr {S : List Nat} {σ σ' : Mem} {P : Nat → Prop} (h : seen σ P) (hf : Fr S σ σ') (hs : 43 ∉ S) : seen σ' P := fun v hv => by rw [hf 43 hs]; exact h v hv
/-- the pairs of places ahead of (i, j) -/
def Dn (kind : Nat) (r : List Nat) (i j v : Nat) : Prop := ∃ a b, a ≤ b ∧ b < r.length ∧ (kind = 1 → b + 1 = r.length) ∧ (a < i ∨ (a = i ∧ b < j)) ∧ mkI2 kind r a b v
section MD3
variable {d n ca cb tr : Nat} {Q : PQ}
/-- behind the two numbers of a pair: what they make is noted -/
theorem lay3a (hn : 54 ≤ n) (hd : 2 ≤ d) {kind most i j : Nat} {r : List Nat} {σ : Mem} (hr : 0 < r.length) (hr2 : r.length ≤ 44) (ht : told σ r) (hb : ∀ x ∈ r, x < 1000) (hm : most < 400) (hk : kind ≤ 3) (hi : i < r.length) (hj : j < r.length) {P : Nat → Prop} (hs : seen σ P) {x y : Nat} (hx : x < 1000) (hy : y < 1000) (hxy : x ≤ y)
    (h : ∀ σ', Fr [43] σ σ' → seen σ' (fun v => P v ∨ (lowB kind r ≤ v ∧ v ≤ most ∧ mkV2 kind r x y v = true)) → V M_X9_layComes d n n none Q n (rho ca cb tr) σ' 198 [some (.ref 35), some (.int (iZ (kind))), some (.int (iZ ((r.length - 1 : Nat)))), some (.int (iZ (most))), some (.int (iZ (lowB kind r))), some (.int (iZ (i))), some (.int (iZ (j))), some (.int (iZ (x))), some (.int (iZ (y)))] []) : V M_X9_layComes d n n none Q n (rho ca cb tr) σ 144 [some (.ref 35), some (.int (iZ (kind))), some (.int (iZ ((r.length - 1 : Nat)))), some (.int (iZ (most))), some (.int (iZ (lowB kind r))), some (.int (iZ (i))), some (.int (iZ (j))), some (.int (iZ (x))), some (.int (iZ (y)))] [] := by
  have hlow2 : lowB kind r ≤ 1000 := by
    unfold lowB
    split
    · omega
    · rw [lastD_eq hr]
      have := hb _ (getD_mem2 (r := r) (i := r.length - 1) (by omega))
      omega
  -- from 181 on: the difference
  have k181 : ∀ (σ2 : Mem) (c : Bool), Fr [43] σ σ2 → seen σ2 (fun v => P v ∨ (lowB kind r ≤ v ∧ v ≤ most ∧ (c && v == x + y) = true)) → c = (kind != 3 || x == y || r.contains (y - x)) → V M_X9_layComes d n n none Q n (rho ca cb tr) σ2 181 [some (.ref 35), some (.int (iZ (kind))), some (.int (iZ ((r.length - 1 : Nat)))), some (.int (iZ (most))), some (.int (iZ (lowB kind r))), some (.int (iZ (i))), some (.int (iZ (j))), some (.int (iZ (x))), some (.int (iZ (y)))] [] := by
    intro σ2 c hf2 hs2 hc
    refine V.run 0 54 rfl hn trivial ?_
    refine V.br rfl (fun (q : iZ kind = iZ 2) => ?_) (fun (q : ¬ (iZ kind = iZ 2)) => ?_)
    · rw [iZ_eq (by omega) (by omega)] at q
      have q : kind = 2 := by omega
      subst q
      refine V.run 0 54 rfl hn trivial ?_
      rw [iZ_sub]
      refine V.cv (lo := 54) (d' := d - 1) rfl rfl ok_X9_note lk_9_X9_note rfl rfl rfl hn (by omega) (Nat.le_refl _) (Nat.le_refl _) ((m_note hn (by omega) (by omega) (by omega) (by omega) (fun g => ?_) (fun g => ?_)))
      · have e : ((y : Int) - x).toNat = y - x := by omega
        rw [e]
        refine h _ (hf2.putT (by simp)) ((hs2.put (y - x)).congr (fun v hv => ?_))
        unfold mkV2
        rw [← hc]
        simp only [Bool.or_eq_true, Bool.and_eq_true, beq_iff_eq]
        constructor
        · rintro ((q | q) | q)
          · exact Or.inl q
          · exact Or.inr ⟨q.1, q.2.1, Or.inl q.2.2⟩
          · subst q
            exact Or.inr ⟨by omega, by omega, Or.inr ⟨trivial, rfl⟩⟩
        · rintro (q | ⟨q1, q2, q | q⟩)
          · exact Or.inl (Or.inl q)
          · exact Or.inl (Or.inr ⟨q1, q2, q⟩)
          · exact Or.inr q.2
      · refine h _ hf2 (hs2.congr (fun v hv => ?_))
        unfold mkV2
        rw [← hc]
        simp only [Bool.or_eq_true, Bool.and_eq_true, beq_iff_eq]
        constructor
        · rintro (q | q)
          · exact Or.inl q
          · exact Or.inr ⟨q.1, q.2.1, Or.inl q.2.2⟩
        · rintro (q | ⟨q1, q2, q | q⟩)
          · exact Or.inl q
          · exact Or.inr ⟨q1, q2, q⟩
          · exact absurd ⟨by omega, by omega⟩ g
    · rw [iZ_eq (by omega) (by omega)] at q
      refine h _ hf2 (hs2.congr (fun v hv => ?_))
      unfold mkV2
      rw [← hc]
      have q : ¬ kind = 2 := by omega
      simp only [Bool.or_eq_true, Bool.and_eq_true, beq_iff_eq, q, false_and, or_false]
  -- from 169 on: the sum
  have k169 : (kind != 3 || x == y || r.contains (y - x)) = true → V M_X9_layComes d n n none Q n (rho ca cb tr) σ 169 [some (.ref 35), some (.int (iZ (kind))), some (.int (iZ ((r.length - 1 : Nat)))), some (.int (iZ (most))), some (.int (iZ (lowB kind r))), some (.int (iZ (i))), some (.int (iZ (j))), some (.int (iZ (x))), some (.int (iZ (y)))] [] := by
    intro hc
    refine V.run 0 54 rfl hn trivial ?_
    rw [iZ_add]
    refine V.cv (lo := 54) (d' := d - 1) rfl rfl ok_X9_note lk_9_X9_note rfl rfl rfl hn (by omega) (Nat.le_refl _) (Nat.le_refl _) ((m_note hn (by omega) (by omega) (by omega) (by omega) (fun g => ?_) (fun g => ?_)))
    · have e : ((x : Int) + y).toNat = x + y := by omega
      rw [e]
      refine k181 _ true (Fr.put (by simp)) ((hs.put (x + y)).congr (fun v hv => ?_)) hc.symm
      simp only [Bool.true_and, beq_iff_eq]
      constructor
      · rintro (q | q)
        · exact Or.inl q
        · exact Or.inr ⟨by omega, by omega, q⟩
      · rintro (q | q)
        · exact Or.inl q
        · exact Or.inr q.2.2
    · refine k181 _ true Fr.rf (hs.congr (fun v hv => ?_)) hc.symm
      simp only [Bool.true_and, beq_iff_eq]
      constructor
      · exact fun q => Or.inl q
      · rintro (q | q)
        · exact q
        · exact absurd ⟨by omega, by omega⟩ g
  refine V.run 0 54 rfl hn trivial ?_
  refine V.br rfl (fun (q : iZ kind = iZ 3) => ?_) (fun (q : ¬ (iZ kind = iZ 3)) => ?_)
  · rw [iZ_eq (by omega) (by omega)] at q
    refine V.run 0 54 rfl hn trivial ?_
    refine V.br rfl (fun (q2 : iZ x = iZ y) => ?_) (fun (q2 : ¬ (iZ x = iZ y)) => ?_)
    · rw [iZ_eq (by omega) (by omega)] at q2
      refine k169 ?_
      have : x = y := by omega
      simp [this]
    · rw [iZ_eq (by omega) (by omega)] at q2
      refine V.run 0 54 rfl hn trivial ?_
      rw [iZ_sub, show (y : Int) - x = ((y - x : Nat) : Int) by omega]
      refine V.cv (lo := 54) (d' := d - 1) rfl rfl ok_X9_isTold lk_9_X9_isTold rfl rfl rfl hn (by omega) (Nat.le_refl _) (Nat.le_refl _) ((m_isTold hn (by omega) (fun h1 => ?_) (fun h0 => ?_)))
      · rw [told_iff hr ht hb (by omega)] at h1
        refine V.brF rfl (by decide) ?_
        refine k169 ?_
        simp [h1]
      · refine V.brT rfl rfl ?_
        have h0' : y - x ∉ r := fun q => by
          obtain ⟨k, hk, e⟩ := (told_iff hr ht hb (by omega)).mpr q
          exact h0 k hk e
        refine k181 _ false Fr.rf (hs.congr (fun v hv => ?_)) ?_
        · simp
        · have : kind = 3 := by omega
          have : ¬ x = y := by omega
          simp [*]
  · rw [iZ_eq (by omega) (by omega)] at q
    refine k169 ?_
    have : ¬ kind = 3 := by omega
    simp [this]
/-- one pair -/
theorem lay3b (hn : 54 ≤ n) (hd : 2 ≤ d) {kind most i j : Nat} {r : List Nat} {σ : Mem} (hr : 0 < r.length) (hr2 : r.length ≤ 44) (ht : told σ r) (hb : ∀ x ∈ r, x < 1000) (hm : most < 400) (hk : kind ≤ 3) (hi : i < r.length) (hj : j < r.length) {P : Nat → Prop} (hs : seen σ P) (x7 x8 : Option Value)
    (h : ∀ (σ' : Mem) (x7 x8 : Option Value), Fr [43] σ σ' → seen σ' (fun v => P v ∨ (lowB kind r ≤ v ∧ v ≤ most ∧ mkI2 kind r i j v)) → V M_X9_layComes d n n none Q n (rho ca cb tr) σ' 198 [some (.ref 35), some (.int (iZ (kind))), some (.int (iZ ((r.length - 1 : Nat)))), some (.int (iZ (most))), some (.int (iZ (lowB kind r))), some (.int (iZ (i))), some (.int (iZ (j))), x7, x8] []) : V M_X9_layComes d n n none Q n (rho ca cb tr) σ 72 [some (.ref 35), some (.int (iZ (kind))), some (.int (iZ ((r.length - 1 : Nat)))), some (.int (iZ (most))), some (.int (iZ (lowB kind r))), some (.int (iZ (i))), some (.int (iZ (j))), x7, x8] [] := by
  have e1 := ht i hi
  have e2 := ht j hj
  have b1 := hb _ (getD_mem2 hi)
  have b2 := hb _ (getD_mem2 hj)
  unfold mkI2 at h
  generalize r.getD i 0 = a at *
  generalize r.getD j 0 = b at *
  refine V.run 0 54 rfl hn ⟨in_N (n := 44) (by omega) (by decide), in_N (n := 44) (by omega) (by decide), trivial⟩ ?_
  simp only [rf_told, rf_comes, rf_comeMany, rf_comeAt, rf_isSeen, rf_goals, rf_text, rf_taken, rf_roadRow, rf_dueNumber, rf_dueTimes, rf_above, rf_tree, rf_way, rf_signs, rf_spent, rf_read, rf_useMany, rf_lastUse]
  rw [ix_N (by omega), ix_N (by omega), e1, e2]
  refine V.br rfl (fun (q : iZ b ≤ iZ a) => ?_) (fun (q : ¬ (iZ b ≤ iZ a)) => ?_)
  · rw [iZ_le (by omega) (by omega)] at q
    refine V.run 0 54 rfl hn ⟨in_N (n := 44) (by omega) (by decide), in_N (n := 44) (by omega) (by decide), in_N (n := 44) (by omega) (by decide), trivial⟩ ?_
    simp only [rf_told, rf_comes, rf_comeMany, rf_comeAt, rf_isSeen, rf_goals, rf_text, rf_taken, rf_roadRow, rf_dueNumber, rf_dueTimes, rf_above, rf_tree, rf_way, rf_signs, rf_spent, rf_read, rf_useMany, rf_lastUse]
    rw [ix_N (by omega), ix_N (by omega), e1, e2]
    refine V.brT rfl ((iZ_le (by omega) (by omega)).mpr q) ?_
    refine V.run 144 54 rfl hn ⟨in_N (n := 44) (by omega) (by decide), trivial⟩ ?_
    simp only [rf_told, rf_comes, rf_comeMany, rf_comeAt, rf_isSeen, rf_goals, rf_text, rf_taken, rf_roadRow, rf_dueNumber, rf_dueTimes, rf_above, rf_tree, rf_way, rf_signs, rf_spent, rf_read, rf_useMany, rf_lastUse]
    rw [ix_N (by omega), e1]
    rw [Nat.min_eq_right (by omega), Nat.max_eq_left (by omega)] at h
    exact lay3a hn hd hr hr2 ht hb hm hk hi hj hs b2 b1 (by omega) (fun σ' hf hs' => h σ' _ _ hf hs')
  · rw [iZ_le (by omega) (by omega)] at q
    refine V.run 0 54 rfl hn ⟨in_N (n := 44) (by omega) (by decide), trivial⟩ ?_
    simp only [rf_told, rf_comes, rf_comeMany, rf_comeAt, rf_isSeen, rf_goals, rf_text, rf_taken, rf_roadRow, rf_dueNumber, rf_dueTimes, rf_above, rf_tree, rf_way, rf_signs, rf_spent, rf_read, rf_useMany, rf_lastUse]
    rw [ix_N (by omega), e1]
    refine V.run 0 54 rfl hn ⟨in_N (n := 44) (by omega) (by decide), in_N (n := 44) (by omega) (by decide), trivial⟩ ?_
    simp only [rf_told, rf_comes, rf_comeMany, rf_comeAt, rf_isSeen, rf_goals, rf_text, rf_taken, rf_roadRow, rf_dueNumber, rf_dueTimes, rf_above, rf_tree, rf_way, rf_signs, rf_spent, rf_read, rf_useMany, rf_lastUse]
    rw [ix_N (by omega), ix_N (by omega), e1, e2]
    refine V.brF rfl (fun c => q ((iZ_le (by omega) (by omega)).mp c)) ?_
    refine V.run 0 54 rfl hn ⟨in_N (n := 44) (by omega) (by decide), trivial⟩ ?_
    simp only [rf_told, rf_comes, rf_comeMany, rf_comeAt, rf_isSeen, rf_goals, rf_text, rf_taken, rf_roadRow, rf_dueNumber, rf_dueTimes, rf_above, rf_tree, rf_way, rf_signs, rf_spent, rf_read, rf_useMany, rf_lastUse]
    rw [ix_N (by omega), e2]
    refine V.run 144 54 rfl hn trivial ?_
    rw [Nat.min_eq_left (by omega), Nat.max_eq_right (by omega)] at h
    exact lay3a hn hd hr hr2 ht hb hm hk hi hj hs b1 b2 (by omega) (fun σ' hf hs' => h σ' _ _ hf hs')
end MD3
