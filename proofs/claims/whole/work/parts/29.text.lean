/-! ===== the reference: the text ===== -/
def byN (w : Int64) : Nat := w.toBitVec.toNat % 256
def sgN (b : Nat) : Int := if b < 128 then b else (b : Int) - 256
theorem byN_lt (w : Int64) : byN w < 256 := Nat.mod_lt _ (by decide)
theorem byN_int (w : Int64) : (w &&& lZ 255).toInt32 = iZ (byN w) := by
  apply Int32.toBitVec.inj
  have e1 : (iZ (byN w : Int)).toBitVec = BitVec.ofInt 32 (byN w) := rfl
  have e2 : (lZ 255).toBitVec = 255#64 := by decide
  have h := byN_lt w
  rw [Int64.toBitVec_toInt32, Int64.toBitVec_and, e1, e2]
  apply BitVec.eq_of_toNat_eq
  rw [BitVec.signExtend_eq_setWidth_of_le _ (by decide)]
  have e3 : (w.toBitVec &&& 255#64).toNat = byN w := by
    rw [BitVec.toNat_and]
    unfold byN
    have : (255#64).toNat = 2 ^ 8 - 1 := by decide
    rw [this, Nat.and_two_pow_sub_one_eq_mod]
  rw [BitVec.toNat_setWidth, e3, BitVec.toNat_ofInt]
  omega
def shB (v : Int64) (k : Nat) : Int64 := v >>> ((iZ (8 * (k : Int))).toInt64 &&& 63)
def wrL (v : Int64) (m : Nat) : List Nat := (List.range m).map (fun i => byN (shB v (m - 1 - i)))
def textM (σ : Mem) (tx : List Nat) : Prop := tx.length ≤ 120 ∧ σ 35 4 = iZ tx.length ∧ (∀ i, i < tx.length → σ 37 i = iZ (tx.getD i 0)) ∧ (∀ b ∈ tx, b < 256)
theorem textM.fr {S : List Nat} {σ σ' : Mem} {tx : List Nat} (h : textM σ tx) (hf : Fr S σ σ') (h1 : 35 ∉ S) (h2 : 37 ∉ S) : textM σ' tx := by
  unfold textM at *
  rw [hf 35 h1, hf 37 h2]
  exact h
section MDE
variable {d n ca cb tr : Nat} {Q : PQ} {σ : Mem}
theorem m_write (hn : 54 ≤ n) (hd : 2 ≤ d) {z : Int} {v : Int64} {tx : List Nat} (hz : -2147483648 ≤ z ∧ z < 2147483648) (ht : textM σ tx) (hbad : ¬ (1 ≤ z ∧ z ≤ 8) → Q (some (.int (iZ (-1)))) (rho ca cb tr) σ) (hfull : 1 ≤ z ∧ z ≤ 8 → 120 < tx.length + z → Q (some (.int (iZ (-3)))) (rho ca cb tr) σ) (hQ : 1 ≤ z ∧ z ≤ 8 → tx.length + z ≤ 120 → ∀ σ', textM σ' (tx ++ wrL v z.toNat) → Fr [35, 37] σ σ' → (∀ j, j ≠ 4 → σ' 35 j = σ 35 j) → Q (some (.int (iZ (tx.length + z)))) (rho ca cb tr) σ') : Mt M_X9_write d n n [.ref 35, .int (iZ z), .long v] (rho ca cb tr) σ Q := by
  obtain ⟨t1, t2, t3, t4⟩ := id ht
  refine Mt.of rfl (by decide +kernel) tk_X9_write (Nat.le_of_ble_eq_true rfl) ?_
  refine V.run 0 54 rfl hn trivial ?_
  refine V.cs (d' := d - 1) rfl rfl ok_X9_in lk_9_X9_in rfl (by omega) (Nat.le_refl _) (Nat.le_refl _) ((m_inZ (by omega) (by omega) (by omega) (fun g => ?_) (fun g => ?_)))
  · refine V.brF rfl (by decide) ?_
    refine V.run 0 54 rfl hn trivial ?_
    try simp only [rf_told, rf_comes, rf_comeMany, rf_comeAt, rf_isSeen, rf_goals, rf_text, rf_taken, rf_roadRow, rf_dueNumber, rf_dueTimes, rf_above, rf_tree, rf_way, rf_signs, rf_spent, rf_read, rf_useMany, rf_lastUse, fi_9_0, fi_9_2, fi_9_3, fi_9_4, fi_9_6, fi_9_7, fi_9_14, fi_9_19, fi_9_24, fi_9_26, fi_9_27, fi_9_30]
    rw [t2, iZ_add]
    refine V.br rfl (fun (c : iZ ((tx.length : Int) + z) ≤ iZ 120) => ?_) (fun (c : ¬ (iZ ((tx.length : Int) + z) ≤ iZ 120)) => ?_)
    · rw [iZ_le (by omega) (by omega)] at c
      obtain ⟨m, rfl⟩ : ∃ m : Nat, z = m := ⟨z.toNat, by omega⟩
      rw [Int.toNat_natCast] at hQ
      have hQ2 := hQ g c
      refine V.run 33 54 rfl hn trivial ?_
      rw [iZ_sub]
      have key : ∀ (j k : Nat) (σ1 : Mem), k + j = m → textM σ1 (tx ++ (wrL v m).take k) → Fr [35, 37] σ σ1 → (∀ j, j ≠ 4 → σ1 35 j = σ 35 j) → V M_X9_write d n n none Q n (rho ca cb tr) σ1 33 [some (.ref 35), some (.int (iZ (m))), some (.long (v)), none, some (.int (iZ ((m : Int) - 1 - k)))] [] := by
        intro j
        induction j with
        | zero =>
          intro k σ1 hk ht1 hf1 h35
          have hwl : (wrL v m).length = m := by simp [wrL]
          rw [show k = (wrL v m).length by omega, List.take_length] at ht1
          refine V.run 0 54 rfl hn trivial ?_
          refine V.brT rfl ((iZ_lt0 (by omega)).mpr (by omega)) ?_
          refine V.run 0 54 rfl hn trivial ?_
          try simp only [rf_told, rf_comes, rf_comeMany, rf_comeAt, rf_isSeen, rf_goals, rf_text, rf_taken, rf_roadRow, rf_dueNumber, rf_dueTimes, rf_above, rf_tree, rf_way, rf_signs, rf_spent, rf_read, rf_useMany, rf_lastUse, fi_9_0, fi_9_2, fi_9_3, fi_9_4, fi_9_6, fi_9_7, fi_9_14, fi_9_19, fi_9_24, fi_9_26, fi_9_27, fi_9_30]
          rw [ht1.2.1]
          have e : (((tx ++ wrL v m).length : Nat) : Int) = (tx.length : Int) + m := by rw [List.length_append, hwl]; omega
          rw [e]
          refine V.ret (v := some (.int (iZ ((tx.length : Int) + m)))) rfl rfl rfl rfl (hQ2 σ1 ht1 hf1 h35)
        | succ j ih =>
          intro k σ1 hk ht1 hf1 h35
          have hwl : (wrL v m).length = m := by simp [wrL]
          obtain ⟨u1, u2, u3, u4⟩ := id ht1
          have hl1 : (tx ++ (wrL v m).take k).length = tx.length + k := by rw [List.length_append, List.length_take]; omega
          rw [hl1] at u1 u2 u3
          have hgk : (wrL v m).getD k 0 = byN (shB v (m - 1 - k)) := by
            unfold wrL
            rw [List.getD_eq_getElem?_getD, List.getElem?_map, List.getElem?_range (by omega)]
            rfl
          refine V.run 0 54 rfl hn trivial ?_
          refine V.brF rfl (fun q => by have := (iZ_lt0 (by omega)).mp q; omega) ?_
          refine V.run 0 54 rfl hn ⟨by rw [u2]; exact in_N (n := 120) (by omega) (by decide), trivial⟩ ?_
          try simp only [rf_told, rf_comes, rf_comeMany, rf_comeAt, rf_isSeen, rf_goals, rf_text, rf_taken, rf_roadRow, rf_dueNumber, rf_dueTimes, rf_above, rf_tree, rf_way, rf_signs, rf_spent, rf_read, rf_useMany, rf_lastUse, fi_9_0, fi_9_2, fi_9_3, fi_9_4, fi_9_6, fi_9_7, fi_9_14, fi_9_19, fi_9_24, fi_9_26, fi_9_27, fi_9_30]
          rw [u2, ix_N (by omega), iZ_mul]
          have e1 : (8 * ((m : Int) - 1 - k)) = 8 * ((m - 1 - k : Nat) : Int) := by omega
          have e2 : (v >>> ((iZ (8 * ((m : Int) - 1 - k))).toInt64 &&& 63) &&& lZ 255).toInt32 = iZ (byN (shB v (m - 1 - k))) := by
            rw [e1]
            exact byN_int _
          rw [e2, up_ne (by decide), u2, iZ_add]
          have := ih (k + 1) (up (up σ1 37 (tx.length + k) (iZ (byN (shB v (m - 1 - k))))) 35 4 (iZ (((tx.length + k : Nat) : Int) + 1))) (by omega) ?_ (Fr.putT (Fr.putT hf1 (by simp)) (by simp)) (fun j hj => by rw [up_nat hj, up_ne (by decide)]; exact h35 j hj)
          · rw [show (m : Int) - 1 - ((k + 1 : Nat) : Int) = (m : Int) - 1 - k + (-1) by omega, ← iZ_add ((m : Int) - 1 - k) (-1)] at this
            exact this
          · rw [take_getD (by omega), ← List.append_assoc, hgk]
            have hl2 : ((tx ++ (wrL v m).take k) ++ [byN (shB v (m - 1 - k))]).length = tx.length + k + 1 := by rw [List.length_append, hl1]; rfl
            refine ⟨by omega, ?_, fun i hi => ?_, fun b hb => ?_⟩
            · rw [up_at, hl2]
              exact iZ_pat (by omega)
            · rw [hl2] at hi
              rw [up_ne (by decide)]
              by_cases e : i = tx.length + k
              · subst e
                rw [up_at, List.getD_eq_getElem?_getD, List.getElem?_append_right (by omega), hl1]
                simp
              · rw [up_nat e, u3 i (by omega)]
                congr 2
                rw [List.getD_eq_getElem?_getD, List.getD_eq_getElem?_getD, List.getElem?_append_left (l₁ := tx ++ (wrL v m).take k) (by omega)]
            · rcases List.mem_append.mp hb with q | q
              · exact u4 b q
              · rw [List.mem_singleton] at q
                rw [q]
                exact byN_lt _
      have := key m 0 σ (by omega) (by simpa using ht) Fr.rf (fun _ _ => rfl)
      rw [show (m : Int) - 1 - ((0 : Nat) : Int) = (m : Int) - 1 by omega] at this
      exact this
    · rw [iZ_le (by omega) (by omega)] at c
      refine V.run 0 54 rfl hn trivial ?_
      refine V.ret (v := some (.int (iZ (-3)))) rfl rfl rfl rfl (hfull g (by omega))
  · refine V.brT rfl rfl ?_
    refine V.run 0 54 rfl hn trivial ?_
    refine V.ret (v := some (.int (iZ (-1)))) rfl rfl rfl rfl (hbad g)
theorem m_wipe (hn : 54 ≤ n) {tx : List Nat} (ht : textM σ tx) (hQ : ∀ σ', textM σ' [] → Fr [35] σ σ' → (∀ j, j ≠ 4 → σ' 35 j = σ 35 j) → Q (some (.int (iZ tx.length))) (rho ca cb tr) σ') : Mt M_X9_wipe d n n [.ref 35] (rho ca cb tr) σ Q := by
  obtain ⟨t1, t2, t3, t4⟩ := id ht
  refine Mt.of rfl (by decide +kernel) tk_X9_wipe (Nat.le_of_ble_eq_true rfl) ?_
  refine V.run 0 54 rfl hn trivial ?_
  rw [t2]
  refine V.ret (v := some (.int (iZ tx.length))) rfl rfl rfl rfl (hQ (up σ 35 4 (iZ 0)) ⟨by simp, by rw [up_at]; rfl, fun i hi => by simp at hi, fun g hg => by simp at hg⟩ (Fr.put (by simp)) (fun j hj => up_nat hj))
end MDE
