/-! ===== the reference: layComes ===== -/
section MD2
variable {d n ca cb tr : Nat} {Q : PQ}
theorem told_iff {σ : Mem} {r : List Nat} (hr : 0 < r.length) (ht : told σ r) (hb : ∀ x ∈ r, x < 1000) {v : Nat} (hv : v < 100000) : (∃ k, k ≤ r.length - 1 ∧ σ 39 k = iZ v) ↔ v ∈ r := by
  constructor
  · rintro ⟨k, hk, e⟩
    rw [ht k (by omega)] at e
    have hm := getD_mem2 (r := r) (i := k) (by omega)
    have := hb _ hm
    rw [iZ_eq (by omega) (by omega)] at e
    have e2 : r.getD k 0 = v := by omega
    rw [← e2]
    exact hm
  · intro h
    obtain ⟨i, hi, e⟩ := mem_getD h
    exact ⟨i, by omega, by rw [ht i hi, e]⟩
/-- the last loop and the end -/
theorem lay4 (hn : 54 ≤ n) (hd : 2 ≤ d) {kind most : Nat} {r : List Nat} {σ : Mem} (hr : 0 < r.length) (hr2 : r.length ≤ 44) (ht : told σ r) (hb : ∀ x ∈ r, x < 1000) (hm : most < 400) (hk : kind ≤ 3) (hs : ∀ v, v < 400 → (σ 43 v = 1 ∧ (lowB kind r ≤ v ∧ v ≤ most ∧ snB kind r v = true)) ∨ (σ 43 v = 0 ∧ ¬ (lowB kind r ≤ v ∧ v ≤ most ∧ snB kind r v = true)))
    (h : ∀ σ', Fr [40, 41, 42, 43] σ σ' → rowAt σ' (r.length - 1) (candL kind most r) → σ' 42 (r.length - 1) = 0 → (∀ i, i < 400 * (r.length - 1) → σ' 40 i = σ 40 i) → (∀ i, i ≠ r.length - 1 → σ' 41 i = σ 41 i ∧ σ' 42 i = σ 42 i) → Q none (rho ca cb tr) σ') (x7 x8 : Option Value) : ∀ (j p : Nat) (σ1 : Mem), p + j = most → Fr [40] σ σ1 → (∀ i, i < ((dl most p).filter (candB kind most r)).length → σ1 40 (400 * (r.length - 1) + i) = iZ (((dl most p).filter (candB kind most r)).getD i 0)) → (∀ i, i < 400 * (r.length - 1) → σ1 40 i = σ 40 i) → V M_X9_layComes d n n none Q n (rho ca cb tr) σ1 216 [some (.ref 35), some (.int (iZ (kind))), some (.int (iZ ((r.length - 1 : Nat)))), some (.int (iZ (most))), some (.int (iZ (lowB kind r))), some (.int (iZ (((dl most p).filter (candB kind most r)).length))), some (.int (iZ ((most - p : Nat)))), x7, x8] [] := by
  have hlow : 1 ≤ lowB kind r := by unfold lowB; split <;> omega
  have hlow2 : lowB kind r ≤ 1000 := by
    unfold lowB
    split
    · omega
    · rw [lastD_eq hr]
      have := hb _ (getD_mem2 (r := r) (i := r.length - 1) (by omega))
      omega
  have hlenp : ∀ p, ((dl most p).filter (candB kind most r)).length ≤ p := fun p => by
    refine Nat.le_trans (List.length_filter_le _ _) ?_
    simp [dl]
  -- the end
  have fin : ∀ (p : Nat) (σ1 : Mem), p ≤ most → most - p < lowB kind r → Fr [40] σ σ1 → (∀ i, i < ((dl most p).filter (candB kind most r)).length → σ1 40 (400 * (r.length - 1) + i) = iZ (((dl most p).filter (candB kind most r)).getD i 0)) → (∀ i, i < 400 * (r.length - 1) → σ1 40 i = σ 40 i) → V M_X9_layComes d n n none Q n (rho ca cb tr) σ1 216 [some (.ref 35), some (.int (iZ (kind))), some (.int (iZ ((r.length - 1 : Nat)))), some (.int (iZ (most))), some (.int (iZ (lowB kind r))), some (.int (iZ (((dl most p).filter (candB kind most r)).length))), some (.int (iZ ((most - p : Nat)))), x7, x8] [] := by
    intro p σ1 hp hlt hf h40 hlo
    have hl := hlenp p
    refine V.run 0 54 rfl hn trivial ?_
    refine V.brT rfl ((iZ_lt (by omega) (by omega)).mpr (by omega)) ?_
    refine V.run 0 54 rfl hn ⟨in_N (n := 44) (by omega) (by decide), in_N (n := 44) (by omega) (by decide), trivial⟩ ?_
    simp only [rf_told, rf_comes, rf_comeMany, rf_comeAt, rf_isSeen, rf_goals, rf_text, rf_taken, rf_roadRow, rf_dueNumber, rf_dueTimes, rf_above, rf_tree, rf_way, rf_signs, rf_spent, rf_read, rf_useMany, rf_lastUse]
    rw [ix_N (by omega)]
    have eL : (dl most p).filter (candB kind most r) = candL kind most r := by
      unfold candL
      obtain ⟨q, rfl⟩ := Nat.exists_eq_add_of_le hp
      rw [dl_add, List.filter_append]
      have : ((List.range q).map (fun i => p + q - (p + i))).filter (candB kind (p + q) r) = [] := by
        rw [List.filter_eq_nil_iff]
        intro a ha
        obtain ⟨i, hi, rfl⟩ := List.mem_map.mp ha
        have := List.mem_range.mp hi
        unfold candB
        simp only [Bool.and_eq_true, decide_eq_true_eq, not_and]
        intro q1
        omega
      rw [this, List.append_nil]
    rw [eL] at h40 ⊢
    refine V.ret (v := none) rfl rfl rfl rfl (?_)
    refine h _ ((Fr.putT (Fr.putT (hf.mono (by simp)) (by simp)) (by simp))) ⟨?_, fun i hi => ?_⟩ ?_ (fun i hi => ?_) (fun i hi => ⟨?_, ?_⟩)
    · rw [up_ne (by decide), up_at]
    · rw [up_ne (by decide), up_ne (by decide)]; exact h40 i hi
    · rw [up_at]; rfl
    · rw [up_ne (by decide), up_ne (by decide)]; exact hlo i hi
    · rw [up_ne (by decide), up_nat hi, hf 41 (by simp)]
    · rw [up_nat hi, up_ne (by decide), hf 42 (by simp)]
  intro j
  induction j with
  | zero =>
    intro p σ1 hp hf h40 hlo
    exact fin p σ1 (by omega) (by omega) hf h40 hlo
  | succ j ih =>
    intro p σ1 hp hf h40 hlo
    by_cases hlt : most - p < lowB kind r
    · exact fin p σ1 (by omega) hlt hf h40 hlo
    · have hl := hlenp p
      have step : ∀ (σ2 : Mem) (c : Nat), c = ((dl most (p + 1)).filter (candB kind most r)).length → Fr [40] σ σ2 → (∀ i, i < ((dl most (p + 1)).filter (candB kind most r)).length → σ2 40 (400 * (r.length - 1) + i) = iZ (((dl most (p + 1)).filter (candB kind most r)).getD i 0)) → (∀ i, i < 400 * (r.length - 1) → σ2 40 i = σ 40 i) → V M_X9_layComes d n n none Q n (rho ca cb tr) σ2 261 [some (.ref 35), some (.int (iZ (kind))), some (.int (iZ ((r.length - 1 : Nat)))), some (.int (iZ (most))), some (.int (iZ (lowB kind r))), some (.int (iZ (c))), some (.int (iZ ((most - p : Nat)))), x7, x8] [] := by
        intro σ2 c hc hf2 h402 hlo2
        refine V.run 0 54 rfl hn trivial ?_
        have := ih (p + 1) σ2 (by omega) hf2 h402 hlo2
        rw [← hc, show ((most - (p + 1) : Nat) : Int) = (most - p : Nat) + (-1) by omega, ← iZ_add] at this
        exact this
      have e1 : σ1 43 = σ 43 := hf 43 (by simp)
      have e2 : σ1 39 = σ 39 := hf 39 (by simp)
      have ht1 : told σ1 r := fun i hi => by rw [e2]; exact ht i hi
      refine V.run 0 54 rfl hn trivial ?_
      refine V.brF rfl (fun c => by have := (iZ_lt (by omega) (by omega)).mp c; omega) ?_
      refine V.run 0 54 rfl hn ⟨in_N (n := 400) (by omega) (by decide), trivial⟩ ?_
      simp only [rf_told, rf_comes, rf_comeMany, rf_comeAt, rf_isSeen, rf_goals, rf_text, rf_taken, rf_roadRow, rf_dueNumber, rf_dueTimes, rf_above, rf_tree, rf_way, rf_signs, rf_spent, rf_read, rf_useMany, rf_lastUse]
      rw [ix_N (by omega), e1]
      have hcb : candB kind most r (most - p) = (snB kind r (most - p) && !r.contains (most - p)) := by
        unfold candB
        rw [decide_eq_true (show lowB kind r ≤ most - p by omega), decide_eq_true (show most - p ≤ most by omega)]
        simp
      rcases hs (most - p) (by omega) with ⟨g1, g2⟩ | ⟨g1, g2⟩
      · rw [g1]
        refine V.brF rfl (by decide) ?_
        refine V.run 0 54 rfl hn trivial ?_
        refine V.cv (lo := 54) (d' := d - 1) rfl rfl ok_X9_isTold lk_9_X9_isTold rfl rfl rfl hn (by omega) (Nat.le_refl _) (Nat.le_refl _) ((m_isTold hn (by omega) (fun h1 => ?_) (fun h0 => ?_)))
        · rw [told_iff hr ht1 hb (by omega)] at h1
          refine V.brF rfl (by decide) ?_
          have e3 : (dl most (p + 1)).filter (candB kind most r) = (dl most p).filter (candB kind most r) := by
            rw [dl_succ, List.filter_append]
            simp [hcb, h1]
          exact step σ1 _ (by rw [e3]) hf (by rw [e3]; exact h40) hlo
        · have h0' : most - p ∉ r := fun q => by
            obtain ⟨k, hk, e⟩ := (told_iff hr ht1 hb (by omega)).mpr q
            exact h0 k hk e
          refine V.brT rfl rfl ?_
          have e3 : (dl most (p + 1)).filter (candB kind most r) = (dl most p).filter (candB kind most r) ++ [most - p] := by
            rw [dl_succ, List.filter_append]
            simp [hcb, h0', g2.2.2]
          generalize hLe : (dl most p).filter (candB kind most r) = L at *
          have hin : iZ 400 * iZ ((r.length - 1 : Nat) : Int) + iZ (L.length : Int) = iZ ((400 * (r.length - 1) + L.length : Nat) : Int) := by
            rw [iZ_mul, iZ_add]
            exact iZ_pat (by omega)
          refine V.run 261 54 rfl hn ⟨by rw [hin]; exact in_N (n := 20000) (by omega) (by decide), trivial⟩ ?_
          simp only [rf_told, rf_comes, rf_comeMany, rf_comeAt, rf_isSeen, rf_goals, rf_text, rf_taken, rf_roadRow, rf_dueNumber, rf_dueTimes, rf_above, rf_tree, rf_way, rf_signs, rf_spent, rf_read, rf_useMany, rf_lastUse]
          rw [hin, ix_N (by omega)]
          rw [iZ_add]
          have key := step (up σ1 40 (400 * (r.length - 1) + L.length) (iZ (most - p : Nat))) (L.length + 1) (by rw [e3]; simp) (hf.putT (by simp)) (fun i hi => ?_) (fun i hi => ?_)
          · rw [show ((L.length + 1 : Nat) : Int) = (L.length : Int) + 1 by omega] at key
            exact key
          · rw [e3] at hi ⊢
            rw [List.length_append, List.length_singleton] at hi
            by_cases hq : i = L.length
            · subst hq
              rw [up_at]
              simp
            · rw [up_nat (by omega), h40 i (by omega)]
              congr 2
              rw [List.getD_eq_getElem?_getD, List.getD_eq_getElem?_getD, List.getElem?_append_left (by omega)]
          · rw [up_nat (by omega)]
            exact hlo i hi
      · rw [g1]
        refine V.brT rfl rfl ?_
        have e3 : (dl most (p + 1)).filter (candB kind most r) = (dl most p).filter (candB kind most r) := by
          rw [dl_succ, List.filter_append]
          have : snB kind r (most - p) = false := by
            cases hq : snB kind r (most - p) with
            | false => rfl
            | true => exact absurd ⟨by omega, by omega, hq⟩ g2
          simp [hcb, this]
        exact step σ1 _ (by rw [e3]) hf (by rw [e3]; exact h40) hlo
end MD2
