/-! ===== the reference: readAll, fault, take, chain ===== -/
def dgB (b : Nat) : Bool := decide (48 ≤ b) && decide (b ≤ 57)
def dgs (tx : List Nat) (at0 : Nat) : List Nat := (tx.drop at0).takeWhile dgB
def stV (v b : Nat) : Nat := if 100000 < v then v else 10 * v + (b - 48)
def valM (ds : List Nat) : Nat := ds.foldl stV 0
def gdT (kind : Nat) (tx r : List Nat) (at0 : Nat) : Prop := dgs tx at0 ≠ [] ∧ (dgs tx at0).getD 0 0 ≠ 48 ∧ valM (dgs tx at0) ≤ 99999 ∧ mayC kind r (valM (dgs tx at0))
/-- how a text is read: the fault (or -4), and the row that was read -/
def rdP (kind : Nat) (tx : List Nat) (f at0 : Nat) (r : List Nat) (res : Int) (rf : List Nat) : Prop := match f with
  | 0 => False
  | f + 1 => (¬ gdT kind tx r at0 ∧ res = at0 ∧ rf = r) ∨ (gdT kind tx r at0 ∧ ((at0 + (dgs tx at0).length = tx.length ∧ res = -4 ∧ rf = r ++ [valM (dgs tx at0)]) ∨ (at0 + (dgs tx at0).length < tx.length ∧ tx.getD (at0 + (dgs tx at0).length) 0 ≠ 44 ∧ res = at0 + (dgs tx at0).length ∧ rf = r ++ [valM (dgs tx at0)]) ∨ (at0 + (dgs tx at0).length < tx.length ∧ tx.getD (at0 + (dgs tx at0).length) 0 = 44 ∧ rdP kind tx f (at0 + (dgs tx at0).length + 1) (r ++ [valM (dgs tx at0)]) res rf)))
theorem rdP_one {kind : Nat} {tx : List Nat} : ∀ {f at0 : Nat} {r : List Nat} {s1 s2 : Int} {r1 r2 : List Nat}, rdP kind tx f at0 r s1 r1 → rdP kind tx f at0 r s2 r2 → s1 = s2 ∧ r1 = r2
  | 0, _, _, _, _, _, _, h, _ => absurd h (fun q => q)
  | f + 1, at0, r, s1, s2, r1, r2, h1, h2 => by
    unfold rdP at h1 h2
    rcases h1 with ⟨a1, a2, a3⟩ | ⟨a1, ⟨b1, b2, b3⟩ | ⟨b1, b2, b3, b4⟩ | ⟨b1, b2, b3⟩⟩ <;> rcases h2 with ⟨c1, c2, c3⟩ | ⟨c1, ⟨e1, e2, e3⟩ | ⟨e1, e2, e3, e4⟩ | ⟨e1, e2, e3⟩⟩
    · exact ⟨by rw [a2, c2], by rw [a3, c3]⟩
    · exact absurd c1 a1
    · exact absurd c1 a1
    · exact absurd c1 a1
    · exact absurd a1 c1
    · exact ⟨by rw [b2, e2], by rw [b3, e3]⟩
    · omega
    · omega
    · exact absurd a1 c1
    · omega
    · exact ⟨by rw [b3, e3], by rw [b4, e4]⟩
    · exact absurd e2 b2
    · exact absurd a1 c1
    · omega
    · exact absurd b2 e2
    · exact rdP_one b3 e3
theorem stV_le {v b : Nat} (h : v ≤ 1000009) (hb : b ≤ 57) : stV v b ≤ 1000009 := by
  unfold stV
  split <;> omega
theorem valM_le : ∀ {ds : List Nat} {v : Nat}, (∀ b ∈ ds, b ≤ 57) → v ≤ 1000009 → ds.foldl stV v ≤ 1000009
  | [], v, _, h => h
  | b :: ds, v, hb, h => valM_le (ds := ds) (v := stV v b) (fun x hx => hb x (List.mem_cons_of_mem _ hx)) (stV_le h (hb b List.mem_cons_self))
theorem dgs_mem {tx : List Nat} {at0 b : Nat} (h : b ∈ dgs tx at0) : 48 ≤ b ∧ b ≤ 57 := by
  have h1 : dgB b = true := by
    have := List.all_takeWhile (p := dgB) (l := tx.drop at0)
    exact List.all_eq_true.mp this b h
  unfold dgB at h1
  simpa using h1
theorem dgs_len (tx : List Nat) (at0 : Nat) (h : at0 ≤ tx.length) : at0 + (dgs tx at0).length ≤ tx.length := by
  have h1 : (dgs tx at0).length ≤ (tx.drop at0).length := (List.takeWhile_sublist dgB).length_le
  rw [List.length_drop] at h1
  omega
theorem dgs_get {tx : List Nat} {at0 k : Nat} (hk : k < (dgs tx at0).length) : tx.getD (at0 + k) 0 = (dgs tx at0).getD k 0 := by
  have h1 : (dgs tx at0) <+: (tx.drop at0) := List.takeWhile_prefix dgB
  have h2 : (tx.drop at0)[k]? = (dgs tx at0)[k]? := by
    obtain ⟨t, ht⟩ := h1
    rw [← ht, List.getElem?_append_left hk]
  rw [List.getElem?_drop] at h2
  rw [List.getD_eq_getElem?_getD, List.getD_eq_getElem?_getD, h2]
theorem dgs_end {tx : List Nat} {at0 : Nat} (h : at0 + (dgs tx at0).length < tx.length) : dgB (tx.getD (at0 + (dgs tx at0).length) 0) = false := by
  have key : ∀ l : List Nat, (l.takeWhile dgB).length < l.length → dgB (l.getD (l.takeWhile dgB).length 0) = false := by
    intro l
    induction l with
    | nil => intro h; simp at h
    | cons a l ih =>
      intro h
      by_cases ha : dgB a = true
      · rw [List.takeWhile_cons_of_pos ha] at h ⊢
        simp only [List.length_cons, List.getD_cons_succ] at h ⊢
        exact ih (by omega)
      · rw [List.takeWhile_cons_of_neg ha]
        simpa using ha
  have := key (tx.drop at0) (by rw [List.length_drop]; unfold dgs at h; omega)
  rw [List.getD_eq_getElem?_getD, List.getElem?_drop] at this
  rw [List.getD_eq_getElem?_getD]
  exact this
theorem rowOk_app {kind v : Nat} {r : List Nat} (hr : rowOk kind r) (hl : r.length < 64) (hv : 1 ≤ v ∧ v ≤ 99999) (hm : mayC kind r v) : rowOk kind (r ++ [v]) := by
  obtain ⟨h1, h2, h3, h4⟩ := hr
  refine ⟨by simp; omega, fun x hx => ?_, ?_, fun hk x hx => ?_⟩
  · rcases List.mem_append.mp hx with q | q
    · exact h2 x q
    · rw [List.mem_singleton] at q; omega
  · rw [List.nodup_append]
    refine ⟨h3, by simp, ?_⟩
    intro a ha b hb
    rw [List.mem_singleton] at hb
    rw [hb]
    rintro rfl
    rcases hm with q | q
    · rw [q.1] at ha; cases ha
    · exact q.2.1 ha
  · rw [lastD_app]
    rcases List.mem_append.mp hx with q | q
    · rcases hm with q2 | q2
      · rw [q2.1] at q; cases q
      · have e1 := h4 hk x q
        have e2 := q2.2.2.1 hk
        omega
    · rw [List.mem_singleton] at q; omega
/-- each number of a row comes as its kind tells -/
def wfC (kind : Nat) (r : List Nat) : Prop := ∀ k, k < r.length → mayC kind (r.take k) (r.getD k 0)
theorem wfC_app {kind v : Nat} {r : List Nat} (hw : wfC kind r) (hm : mayC kind r v) : wfC kind (r ++ [v]) := by
  intro k hk
  rw [List.length_append, List.length_singleton] at hk
  by_cases e : k = r.length
  · subst e
    rw [List.take_left, List.getD_eq_getElem?_getD, List.getElem?_append_right (Nat.le_refl _)]
    simpa using hm
  · rw [List.take_append_of_le_length (by omega), List.getD_eq_getElem?_getD, List.getElem?_append_left (by omega), ← List.getD_eq_getElem?_getD]
    exact hw k (by omega)
def FrR (σ σ' : Mem) : Prop := Fr [35, 52] σ σ' ∧ ∀ j, j ≠ 24 → j ≠ 26 → j ≠ 27 → σ' 35 j = σ 35 j
theorem FrR.rf {σ : Mem} : FrR σ σ := ⟨Fr.rf, fun _ _ _ _ => rfl⟩
theorem FrR.tr {σ σ1 σ2 : Mem} (h1 : FrR σ σ1) (h2 : FrR σ1 σ2) : FrR σ σ2 := ⟨h1.1.tr h2.1, fun j a b c => (h2.2 j a b c).trans (h1.2 j a b c)⟩
theorem FrD.R {σ σ' : Mem} (h : FrD σ σ') : FrR σ σ' := ⟨h.1.mono (by simp), fun j _ b c => h.2 j b c⟩
theorem FrR.tx {σ σ' : Mem} {tx : List Nat} (h : FrR σ σ') (ht : textM σ tx) : textM σ' tx := ⟨ht.1, by rw [h.2 4 (by decide) (by decide) (by decide)]; exact ht.2.1, fun i hi => by rw [h.1 37 (by decide)]; exact ht.2.2.1 i hi, ht.2.2.2⟩
section MDH
variable {d n ca cb tr : Nat} {Q : PQ} {σ : Mem}
theorem m_readAll (hn : 54 ≤ n) (hd : 3 ≤ d) {kind : Nat} {tx : List Nat} (hk : kind ≤ 3) (ht : textM σ tx) (hQ : ∀ (σ' : Mem) (res : Int) (rf : List Nat), rdP kind tx 121 0 [] res rf → -4 ≤ res ∧ res ≤ 120 → (res = -4 → rf ≠ []) → readM σ' rf → rowOk kind rf → wfC kind rf → FrR σ σ' → Q (some (.int (iZ res))) (rho ca cb tr) σ') : Mt M_X9_readAll d n n [.ref 35, .int (iZ kind)] (rho ca cb tr) σ Q := by
  obtain ⟨t1, t2, t3, t4⟩ := id ht
  refine Mt.of rfl (by decide +kernel) tk_X9_readAll (Nat.le_of_ble_eq_true rfl) ?_
  refine V.run 7 54 rfl hn trivial ?_
  have key : ∀ (f at0 : Nat) (r : List Nat) (σ1 : Mem) (x3 x4 : Option Value), tx.length < at0 + f → at0 ≤ tx.length → 2 * r.length ≤ at0 → readM σ1 r → rowOk kind r → wfC kind r → FrR σ σ1 → (∀ res rf, rdP kind tx f at0 r res rf → rdP kind tx 121 0 [] res rf) → V M_X9_readAll d n n none Q n (rho ca cb tr) σ1 7 [some (.ref 35), some (.int (iZ (kind))), some (.int (iZ (at0))), x3, x4] [] := by
    intro f
    induction f with
    | zero => intro at0 r σ1 x3 x4 h1 h2; omega
    | succ f ih =>
      intro at0 r σ1 x3 x4 hf hat h2r hrd hro hwf hfr hdone
      obtain ⟨u1, u2, u3, u4⟩ := hfr.tx ht
      have hdl := dgs_len tx at0 hat
      have hdm : ∀ b ∈ dgs tx at0, b ≤ 57 := fun b hb => (dgs_mem hb).2
      have hro2 := hro
      obtain ⟨o1, o2, o3, o4⟩ := hro2
      have hvl := valM_le (ds := dgs tx at0) (v := 0) hdm (by omega)
      have evl : (dgs tx at0).foldl stV 0 = valM (dgs tx at0) := rfl
      rw [evl] at hvl
      -- behind the figures
      have s107 : ¬ gdT kind tx r at0 → ∀ σ2, readM σ2 r → FrR σ σ2 → V M_X9_readAll d n n none Q n (rho ca cb tr) σ2 107 [some (.ref 35), some (.int (iZ (kind))), some (.int (iZ ((at0 + (dgs tx at0).length : Nat)))), some (.int (iZ (at0))), some (.int (iZ (valM (dgs tx at0))))] [] := by
        intro hg σ2 hrd2 hfr2
        refine V.run 0 54 rfl hn trivial ?_
        refine V.ret (v := some (.int (iZ at0))) rfl rfl rfl rfl (hQ σ2 at0 r (hdone _ _ (by unfold rdP; exact Or.inl ⟨hg, rfl, rfl⟩)) (by omega) (fun q => by omega) hrd2 hro hwf hfr2)
      have s74 : V M_X9_readAll d n n none Q n (rho ca cb tr) σ1 74 [some (.ref 35), some (.int (iZ (kind))), some (.int (iZ ((at0 + (dgs tx at0).length : Nat)))), some (.int (iZ (at0))), some (.int (iZ (valM (dgs tx at0))))] [] := by
        refine V.run 0 54 rfl hn trivial ?_
        refine V.br rfl (fun (c : iZ (at0 + (dgs tx at0).length : Nat) = iZ at0) => ?_) (fun (c : ¬ (iZ (at0 + (dgs tx at0).length : Nat) = iZ at0)) => ?_)
        · rw [iZ_eq (by omega) (by omega)] at c
          refine s107 (fun q => q.1 (List.eq_nil_of_length_eq_zero (by omega))) σ1 hrd hfr
        · rw [iZ_eq (by omega) (by omega)] at c
          have hne : 0 < (dgs tx at0).length := by omega
          have hg0 := dgs_get (tx := tx) (at0 := at0) (k := 0) hne
          rw [Nat.add_zero] at hg0
          have hb0 := dgs_mem (getD_mem2 (r := dgs tx at0) (i := 0) hne)
          refine V.run 0 54 rfl hn ⟨in_N (n := 120) (by omega) (by decide), trivial⟩ ?_
          try simp only [rf_told, rf_comes, rf_comeMany, rf_comeAt, rf_isSeen, rf_goals, rf_text, rf_taken, rf_roadRow, rf_dueNumber, rf_dueTimes, rf_above, rf_tree, rf_way, rf_signs, rf_spent, rf_read, rf_useMany, rf_lastUse, fi_9_0, fi_9_2, fi_9_3, fi_9_4, fi_9_6, fi_9_7, fi_9_14, fi_9_19, fi_9_24, fi_9_26, fi_9_27, fi_9_30]
          rw [ix_N (by omega), u3 at0 (by omega), hg0]
          refine V.br rfl (fun (c1 : iZ ((dgs tx at0).getD 0 0) = iZ 48) => ?_) (fun (c1 : ¬ (iZ ((dgs tx at0).getD 0 0) = iZ 48)) => ?_)
          · rw [iZ_eq (by omega) (by omega)] at c1
            exact s107 (fun q => q.2.1 (by omega)) σ1 hrd hfr
          · rw [iZ_eq (by omega) (by omega)] at c1
            refine V.run 0 54 rfl hn trivial ?_
            refine V.br rfl (fun (c2 : iZ 99999 < iZ (valM (dgs tx at0))) => ?_) (fun (c2 : ¬ (iZ 99999 < iZ (valM (dgs tx at0)))) => ?_)
            · rw [iZ_lt (by omega) (by omega)] at c2
              exact s107 (fun q => by have := q.2.2.1; omega) σ1 hrd hfr
            · rw [iZ_lt (by omega) (by omega)] at c2
              have hv1 : 1 ≤ valM (dgs tx at0) := by
                have hpos : ∀ (l : List Nat) (w : Nat), 1 ≤ w → 1 ≤ l.foldl stV w := by
                  intro l
                  induction l with
                  | nil => intro w h; exact h
                  | cons a l ih => intro w h; exact ih _ (by unfold stV; split <;> omega)
                cases hds : dgs tx at0 with
                | nil => rw [hds] at hne; simp at hne
                | cons a l =>
                  rw [hds] at hb0 c1
                  simp only [List.getD_cons_zero] at hb0 c1
                  show 1 ≤ l.foldl stV (stV 0 a)
                  exact hpos l _ (by unfold stV; split <;> omega)
              refine V.run 0 54 rfl hn trivial ?_
              refine V.cv (lo := 54) (d' := d - 1) rfl rfl ok_X9_may lk_9_X9_may rfl rfl rfl hn (by omega) (Nat.le_refl _) (Nat.le_refl _) ((m_may hn (by omega) hk ⟨hv1, by omega⟩ hro hrd (fun hm σ2 hfd hpk => ?_) (fun hm σ2 hfd => ?_)))
              · have hgd : gdT kind tx r at0 := ⟨fun q => by rw [q] at hne; simp at hne, by omega, by omega, hm⟩
                have hro3 := rowOk_app hro (by omega) ⟨hv1, by omega⟩ hm
                have hwf3 := wfC_app hwf hm
                obtain ⟨w1, w2⟩ := hfd.rd hrd
                obtain ⟨z1, z2, z3, z4⟩ := (hfr.tr hfd.R).tx ht
                generalize hV : valM (dgs tx at0) = vv at *
                refine V.brF rfl (by decide) ?_
                refine V.run 0 54 rfl hn ⟨by rw [w1]; exact in_N (n := 64) (by omega) (by decide), trivial⟩ ?_
                try simp only [rf_told, rf_comes, rf_comeMany, rf_comeAt, rf_isSeen, rf_goals, rf_text, rf_taken, rf_roadRow, rf_dueNumber, rf_dueTimes, rf_above, rf_tree, rf_way, rf_signs, rf_spent, rf_read, rf_useMany, rf_lastUse, fi_9_0, fi_9_2, fi_9_3, fi_9_4, fi_9_6, fi_9_7, fi_9_14, fi_9_19, fi_9_24, fi_9_26, fi_9_27, fi_9_30]
                rw [w1, ix_N (by omega), up_ne (by decide), w1, iZ_add]
                generalize hσ3 : up (up σ2 52 r.length (iZ vv)) 35 24 (iZ ((r.length : Int) + 1)) = σ3
                have hfr3 : FrR σ2 σ3 := by
                  rw [← hσ3]
                  exact ⟨Fr.putT (Fr.put (by simp)) (by simp), fun j h1 h2 h3 => by rw [up_nat h1, up_ne (by decide)]⟩
                have hfrA : FrR σ σ3 := (hfr.tr hfd.R).tr hfr3
                have hrd3 : readM σ3 (r ++ [vv]) := by
                  rw [← hσ3]
                  refine ⟨by rw [up_at]; simp, fun i hi => ?_⟩
                  rw [List.length_append, List.length_singleton] at hi
                  rw [up_ne (by decide)]
                  by_cases e : i = r.length
                  · subst e
                    rw [up_at]
                    simp
                  · rw [up_nat e, w2 i (by omega)]
                    congr 2
                    rw [List.getD_eq_getElem?_getD, List.getD_eq_getElem?_getD, List.getElem?_append_left (by omega)]
                obtain ⟨y1, y2, y3, y4⟩ := hfrA.tx ht
                rw [y2]
                refine V.br rfl (fun (c3 : iZ (at0 + (dgs tx at0).length : Nat) = iZ tx.length) => ?_) (fun (c3 : ¬ (iZ (at0 + (dgs tx at0).length : Nat) = iZ tx.length)) => ?_)
                · rw [iZ_eq (by omega) (by omega)] at c3
                  refine V.run 0 54 rfl hn trivial ?_
                  refine V.ret (v := some (.int (iZ (-4)))) rfl rfl rfl rfl (hQ σ3 (-4) (r ++ [vv]) (hdone _ _ (by unfold rdP; rw [hV]; exact Or.inr ⟨hgd, Or.inl ⟨by omega, rfl, rfl⟩⟩)) (by omega) (fun _ => by simp) hrd3 hro3 hwf3 hfrA)
                · rw [iZ_eq (by omega) (by omega)] at c3
                  have hbe := y4 _ (getD_mem2 (r := tx) (i := at0 + (dgs tx at0).length) (by omega))
                  refine V.run 0 54 rfl hn ⟨in_N (n := 120) (by omega) (by decide), trivial⟩ ?_
                  try simp only [rf_told, rf_comes, rf_comeMany, rf_comeAt, rf_isSeen, rf_goals, rf_text, rf_taken, rf_roadRow, rf_dueNumber, rf_dueTimes, rf_above, rf_tree, rf_way, rf_signs, rf_spent, rf_read, rf_useMany, rf_lastUse, fi_9_0, fi_9_2, fi_9_3, fi_9_4, fi_9_6, fi_9_7, fi_9_14, fi_9_19, fi_9_24, fi_9_26, fi_9_27, fi_9_30]
                  rw [ix_N (by omega), y3 _ (by omega)]
                  refine V.br rfl (fun (c4 : iZ (tx.getD (at0 + (dgs tx at0).length) 0) = iZ 44) => ?_) (fun (c4 : ¬ (iZ (tx.getD (at0 + (dgs tx at0).length) 0) = iZ 44)) => ?_)
                  · rw [iZ_eq (by omega) (by omega)] at c4
                    refine V.run 0 54 rfl hn trivial ?_
                    have := ih (at0 + (dgs tx at0).length + 1) (r ++ [vv]) σ3 (some (.int (iZ at0))) (some (.int (iZ vv))) (by omega) (by omega) (by rw [List.length_append, List.length_singleton]; omega) hrd3 hro3 hwf3 hfrA (fun res rf hrp => hdone _ _ (by unfold rdP; rw [hV]; exact Or.inr ⟨hgd, Or.inr (Or.inr ⟨by omega, by omega, hrp⟩)⟩))
                    rw [show ((at0 + (dgs tx at0).length + 1 : Nat) : Int) = ((at0 + (dgs tx at0).length : Nat) : Int) + 1 by omega, ← iZ_add] at this
                    exact this
                  · rw [iZ_eq (by omega) (by omega)] at c4
                    refine V.run 0 54 rfl hn trivial ?_
                    refine V.ret (v := some (.int (iZ (at0 + (dgs tx at0).length : Nat)))) rfl rfl rfl rfl (hQ σ3 (at0 + (dgs tx at0).length : Nat) (r ++ [vv]) (hdone _ _ (by unfold rdP; rw [hV]; exact Or.inr ⟨hgd, Or.inr (Or.inl ⟨by omega, by omega, by omega, rfl⟩)⟩)) (by omega) (fun q => by omega) hrd3 hro3 hwf3 hfrA)
              · refine V.brT rfl rfl ?_
                exact s107 (fun q => hm q.2.2.2) σ2 (hfd.rd hrd) (hfr.tr hfd.R)
      -- the figures
      have figs : ∀ (j k : Nat), k + j = (dgs tx at0).length → V M_X9_readAll d n n none Q n (rho ca cb tr) σ1 12 [some (.ref 35), some (.int (iZ (kind))), some (.int (iZ ((at0 + k : Nat)))), some (.int (iZ (at0))), some (.int (iZ (valM ((dgs tx at0).take k))))] [] := by
        intro j
        induction j with
        | zero =>
          intro k hk2
          have e : k = (dgs tx at0).length := by omega
          subst e
          rw [List.take_length]
          refine V.run 0 54 rfl hn trivial ?_
          try simp only [rf_told, rf_comes, rf_comeMany, rf_comeAt, rf_isSeen, rf_goals, rf_text, rf_taken, rf_roadRow, rf_dueNumber, rf_dueTimes, rf_above, rf_tree, rf_way, rf_signs, rf_spent, rf_read, rf_useMany, rf_lastUse, fi_9_0, fi_9_2, fi_9_3, fi_9_4, fi_9_6, fi_9_7, fi_9_14, fi_9_19, fi_9_24, fi_9_26, fi_9_27, fi_9_30]
          rw [u2]
          refine V.br rfl (fun (c : iZ tx.length ≤ iZ (at0 + (dgs tx at0).length : Nat)) => ?_) (fun (c : ¬ (iZ tx.length ≤ iZ (at0 + (dgs tx at0).length : Nat))) => ?_)
          · exact s74
          · rw [iZ_le (by omega) (by omega)] at c
            have hbe := u4 _ (getD_mem2 (r := tx) (i := at0 + (dgs tx at0).length) (by omega))
            have hend := dgs_end (tx := tx) (at0 := at0) (by omega)
            unfold dgB at hend
            simp only [Bool.and_eq_false_iff, decide_eq_false_iff_not] at hend
            refine V.run 0 54 rfl hn ⟨in_N (n := 120) (by omega) (by decide), trivial⟩ ?_
            try simp only [rf_told, rf_comes, rf_comeMany, rf_comeAt, rf_isSeen, rf_goals, rf_text, rf_taken, rf_roadRow, rf_dueNumber, rf_dueTimes, rf_above, rf_tree, rf_way, rf_signs, rf_spent, rf_read, rf_useMany, rf_lastUse, fi_9_0, fi_9_2, fi_9_3, fi_9_4, fi_9_6, fi_9_7, fi_9_14, fi_9_19, fi_9_24, fi_9_26, fi_9_27, fi_9_30]
            rw [ix_N (by omega), u3 _ (by omega)]
            refine V.cs (d' := d - 1) rfl rfl ok_X9_in lk_9_X9_in rfl (by omega) (Nat.le_refl _) (Nat.le_refl _) ((m_inZ (by omega) (by omega) (by omega) (fun g => ?_) (fun g => ?_)))
            · omega
            · refine V.brT rfl rfl ?_
              exact s74
        | succ j ihj =>
          intro k hk2
          have hgk := dgs_get (tx := tx) (at0 := at0) (k := k) (by omega)
          have hbk := dgs_mem (getD_mem2 (r := dgs tx at0) (i := k) (by omega))
          have hvk := valM_le (ds := (dgs tx at0).take k) (v := 0) (fun b hb => hdm b (List.mem_of_mem_take hb)) (by omega)
          have ihk := ihj (k + 1) (by omega)
          have evk : valM ((dgs tx at0).take (k + 1)) = stV (valM ((dgs tx at0).take k)) ((dgs tx at0).getD k 0) := by
            unfold valM
            exact foldl_take stV 0 (dgs tx at0) (by omega)
          have evk2 : ((dgs tx at0).take k).foldl stV 0 = valM ((dgs tx at0).take k) := rfl
          rw [evk2] at hvk
          rw [evk, show ((at0 + (k + 1) : Nat) : Int) = ((at0 + k : Nat) : Int) + 1 by omega, ← iZ_add] at ihk
          generalize valM ((dgs tx at0).take k) = vk at *
          generalize (dgs tx at0).getD k 0 = bk at *
          refine V.run 0 54 rfl hn trivial ?_
          try simp only [rf_told, rf_comes, rf_comeMany, rf_comeAt, rf_isSeen, rf_goals, rf_text, rf_taken, rf_roadRow, rf_dueNumber, rf_dueTimes, rf_above, rf_tree, rf_way, rf_signs, rf_spent, rf_read, rf_useMany, rf_lastUse, fi_9_0, fi_9_2, fi_9_3, fi_9_4, fi_9_6, fi_9_7, fi_9_14, fi_9_19, fi_9_24, fi_9_26, fi_9_27, fi_9_30]
          rw [u2]
          refine V.brF rfl (fun q => by have := (iZ_le (by omega) (by omega)).mp q; omega) ?_
          refine V.run 0 54 rfl hn ⟨in_N (n := 120) (by omega) (by decide), trivial⟩ ?_
          try simp only [rf_told, rf_comes, rf_comeMany, rf_comeAt, rf_isSeen, rf_goals, rf_text, rf_taken, rf_roadRow, rf_dueNumber, rf_dueTimes, rf_above, rf_tree, rf_way, rf_signs, rf_spent, rf_read, rf_useMany, rf_lastUse, fi_9_0, fi_9_2, fi_9_3, fi_9_4, fi_9_6, fi_9_7, fi_9_14, fi_9_19, fi_9_24, fi_9_26, fi_9_27, fi_9_30]
          rw [ix_N (by omega), u3 _ (by omega), hgk]
          refine V.cs (d' := d - 1) rfl rfl ok_X9_in lk_9_X9_in rfl (by omega) (Nat.le_refl _) (Nat.le_refl _) ((m_inZ (by omega) (by omega) (by omega) (fun g => ?_) (fun g => ?_)))
          · refine V.brF rfl (by decide) ?_
            refine V.run 0 54 rfl hn trivial ?_
            refine V.br rfl (fun (c : iZ vk ≤ iZ 100000) => ?_) (fun (c : ¬ (iZ vk ≤ iZ 100000)) => ?_)
            · rw [iZ_le (by omega) (by omega)] at c
              refine V.run 0 54 rfl hn ⟨in_N (n := 120) (by omega) (by decide), trivial⟩ ?_
              try simp only [rf_told, rf_comes, rf_comeMany, rf_comeAt, rf_isSeen, rf_goals, rf_text, rf_taken, rf_roadRow, rf_dueNumber, rf_dueTimes, rf_above, rf_tree, rf_way, rf_signs, rf_spent, rf_read, rf_useMany, rf_lastUse, fi_9_0, fi_9_2, fi_9_3, fi_9_4, fi_9_6, fi_9_7, fi_9_14, fi_9_19, fi_9_24, fi_9_26, fi_9_27, fi_9_30]
              rw [ix_N (by omega), u3 _ (by omega), hgk, iZ_mul, iZ_add, iZ_sub, show 10 * (vk : Int) + bk - 48 = ((stV vk bk : Nat) : Int) by unfold stV; rw [if_neg (by omega)]; omega]
              exact ihk
            · rw [iZ_le (by omega) (by omega)] at c
              refine V.run 0 54 rfl hn trivial ?_
              refine V.run 0 54 rfl hn trivial ?_
              have e : stV vk bk = vk := by unfold stV; rw [if_pos (by omega)]
              rw [e] at ihk
              exact ihk
          · omega
      refine V.run 12 54 rfl hn trivial ?_
      have := figs (dgs tx at0).length 0 (by omega)
      exact this
  have h0 : readM (up σ 35 24 (iZ 0)) [] := ⟨by rw [up_at]; rfl, fun i hi => by simp at hi⟩
  exact key 121 0 [] _ none none (by omega) (by omega) (by simp) h0 ⟨by simp, by simp, by simp, by simp⟩ (fun k hk => by simp at hk) ⟨Fr.put (by simp), fun j h1 _ _ => up_nat h1⟩ (fun _ _ h => h)
end MDH
