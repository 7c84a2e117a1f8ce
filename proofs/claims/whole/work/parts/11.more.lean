/-! ===== calls by the stack; Math; new things; references; switches; the script ===== -/
def splA (k : Nat) (acc st : List Value) : Option (List Value × List Value) := match k with
  | 0 => some (acc, st)
  | k + 1 => match st with
    | [] => none
    | v :: st => splA k (v :: acc) st
theorem splA_spec : ∀ {k : Nat} {acc st As rest : List Value}, splA k acc st = some (As, rest) → acc.reverse ++ st.take 0 = acc.reverse ++ [] → As.reverse ++ rest = acc.reverse ++ st ∧ As.length = acc.length + k
  | 0, acc, st, As, rest, h, _ => by
    simp only [splA, Option.some.injEq, Prod.mk.injEq] at h
    obtain ⟨rfl, rfl⟩ := h
    exact ⟨rfl, rfl⟩
  | k + 1, acc, [], As, rest, h, _ => by simp [splA] at h
  | k + 1, acc, v :: st, As, rest, h, _ => by
    simp only [splA] at h
    obtain ⟨h1, h2⟩ := splA_spec h (by simp)
    refine ⟨?_, ?_⟩
    · rw [h1]; simp
    · rw [h2]; simp; omega
section MOR
variable {M : MC} {d n0 n1 : Nat} {sc : Option (Nat × (Nat → Int32))} {Q : PQ} {n : Nat} {ρ : Ref} {σ : Mem} {pc : Nat} {lv : LV} {st : List Value} {M' : MC} {d' n' k idx lo cnt : Nat} {As rest : List Value}
/-- a method of an object -/
theorem V.cv (hd : hdT pc M.2.2.2.1 = some (.invokevirtual idx, 3)) (hst : splA cnt [] st = some (As, .ref k :: rest)) (hm : mkV M' cnt = true) (hl : lk M.2.1 idx M' = true) (hk : okC lo k M'.2.1 = true) (hk2 : (decide (M'.2.1 < 10)) = true) (hcat : Nat.ble ((rest.map fun v => v.category).sum) 8 = true) (hlo : lo ≤ n) (hd' : d' + 1 ≤ d) (hn : n ≤ n') (hn1 : n' ≤ n1) (hM : Mt M' d' n n' (.ref k :: As) ρ σ (fun v ρ' σ' => V M d n0 n1 sc Q n' ρ' σ' (pc + 3) lv (v.toList ++ rest))) : V M d n0 n1 sc Q n ρ σ pc lv st := by
  obtain ⟨h1, h2⟩ := splA_spec hst (by simp)
  refine V.cV (k := k) (rest := rest) hd (by rw [h1]; rfl) (by rw [h2, List.length_nil, Nat.zero_add]; exact hm) hl hk (of_decide_eq_true hk2) hlo (Nat.le_of_ble_eq_true hcat) hd' hn hn1 hM (fun _ _ _ h => h)
/-- a static method -/
theorem V.cs (hd : hdT pc M.2.2.2.1 = some (.invokestatic idx, 3)) (hst : splA cnt [] st = some (As, rest)) (hm : mkS M' cnt = true) (hl : lk M.2.1 idx M' = true) (hcat : Nat.ble ((rest.map fun v => v.category).sum) 8 = true) (hd' : d' + 1 ≤ d) (hn : n ≤ n') (hn1 : n' ≤ n1) (hM : Mt M' d' n n' As ρ σ (fun v ρ' σ' => V M d n0 n1 sc Q n' ρ' σ' (pc + 3) lv (v.toList ++ rest))) : V M d n0 n1 sc Q n ρ σ pc lv st := by
  obtain ⟨h1, h2⟩ := splA_spec hst (by simp)
  refine V.cS (rest := rest) hd (by rw [h1]; rfl) (by rw [h2, List.length_nil, Nat.zero_add]; exact hm) hl (Nat.le_of_ble_eq_true hcat) hd' hn hn1 hM (fun _ _ _ h => h)
/-- a nest mate's private static method -/
theorem V.csn (hd : hdT pc M.2.2.2.1 = some (.invokestatic idx, 3)) (hst : splA cnt [] st = some (As, rest)) (hm : mkS M' cnt = true) (hl : (RN M.2.1, idx, M'.1, RX8) ∈ nestL) (hcat : Nat.ble ((rest.map fun v => v.category).sum) 8 = true) (hd' : d' + 1 ≤ d) (hn : n ≤ n') (hn1 : n' ≤ n1) (hM : Mt M' d' n n' As ρ σ (fun v ρ' σ' => V M d n0 n1 sc Q n' ρ' σ' (pc + 3) lv (v.toList ++ rest))) : V M d n0 n1 sc Q n ρ σ pc lv st := by
  obtain ⟨h1, h2⟩ := splA_spec hst (by simp)
  have hst2 : st = As.reverse ++ rest := by rw [h1]; rfl
  rw [List.length_nil, Nat.zero_add] at h2
  intro hT p l e R s m args below meth c G B b cy D hC H locs ls hD
  have hC0 := hC
  have hD0 := hD
  obtain ⟨hx, hb, hml, hown, hts, hR, hsz, hK, hNK, hsc, hini, hfin⟩ := hC
  obtain ⟨hn0, hH, hP, hS, hlen, hl1⟩ := hD
  unfold mkS at hm
  simp only [Bool.and_eq_true] at hm
  obtain ⟨⟨m1, m2⟩, m3⟩ := hm
  unfold mkB at m1
  unfold mkN at m2
  simp only [Bool.and_eq_true, decide_eq_true_eq] at m1 m2
  obtain ⟨⟨⟨⟨⟨⟨q1, q2⟩, q3⟩, q4⟩, q5⟩, q6⟩, q7⟩ := m1
  have hcn : va_CN R s args (RN M.2.1) idx M'.1 RX8 M'.2.2.1 M'.2.2.2.2.1 M'.2.2.2.2.2 (Cond.code M'.1 M'.2.2.1 M'.2.2.2.2.1 M'.2.2.2.2.2 :: gtbl) { frames := d', cells := n' - n, slots := sl n' - sl n, locals := 64 * d' } (n' - n) (sl n' - sl n) cnt := va_cnB cnt hts (goodIn_code (inB_ok q3)) rfl rfl rfl (hNK.1 _ hl) (hts _ (inB_ok q4)) ⟨q5, q6, m2⟩ ⟨by show d' + 1 ≤ _; omega, by show 8 + (_ + 11) + 64 * d' ≤ _; omega⟩
  refine W_call (Q' := fun v ρ' σ' => V M d n0 n1 sc Q n' ρ' σ' (pc + 3) lv (v.toList ++ rest)) (n' := n') (rest := rest.map (tr B b)) hsz hD0 hn (va_runSN (As := As.map (tr B b)) ⟨hx, hb, hml, hown, hts⟩ (hM l B b cy D) (n := cnt) ⟨hcn, hts _ (inB_ok m3), trivial⟩ ⟨Wd_blind, fun U hU hW => ⟨rfl, Wd_at hU hW hH hP hK hNK⟩⟩ rfl (by rw [List.length_map]; exact h2) hl1.1 ?_ (lv_room (by rw [tr_sum]; exact Nat.le_of_ble_eq_true hcat)) (hdT_ok hT hd) ?_) (fun v ρ' σ' hq H1 locs1 hD1 => ?_)
  · show st.map (tr B b) = _
    rw [hst2, tr_rev]
  · have h1 := sl_mono hn0
    have h2 := sl_mono hn
    have h3 := sl_mono hn1
    exact ⟨by omega, by omega⟩
  · have := hq hT p l e R s m args below meth c G B b cy D hC0 H1 locs1 ls hD1
    rw [List.map_append] at this
    cases v <;> exact this
/-- a constructor, of the class itself or of a nest mate -/
theorem V.ci (hd : hdT pc M.2.2.2.1 = some (.invokespecial idx, 3)) (hst : splA cnt [] st = some (As, .ref k :: rest)) (hm : mkI M' cnt = true) (hl : lk M.2.1 idx M' = true ∨ (RN M.2.1, idx, M'.1, RX8) ∈ nestL) (hcat : Nat.ble ((rest.map fun v => v.category).sum) 8 = true) (hd' : d' + 1 ≤ d) (hn : n ≤ n') (hn1 : n' ≤ n1) (hM : Mt M' d' n n' (.ref k :: As) ρ σ (fun v ρ' σ' => V M d n0 n1 sc Q n' ρ' σ' (pc + 3) lv (v.toList ++ rest))) : V M d n0 n1 sc Q n ρ σ pc lv st := by
  obtain ⟨h1, h2⟩ := splA_spec hst (by simp)
  have hst2 : st = As.reverse ++ .ref k :: rest := by rw [h1]; rfl
  rw [List.length_nil, Nat.zero_add] at h2
  intro hT p l e R s m args below meth c G B b cy D hC H locs ls hD
  have hC0 := hC
  have hD0 := hD
  obtain ⟨hx, hb, hml, hown, hts, hR, hsz, hK, hNK, hsc, hini, hfin⟩ := hC
  obtain ⟨hn0, hH, hP, hS, hlen, hl1⟩ := hD
  unfold mkI at hm
  simp only [Bool.and_eq_true, decide_eq_true_eq] at hm
  obtain ⟨⟨⟨⟨m1, m2⟩, m3⟩, m4⟩, m5⟩ := hm
  have m10 := m1
  have m20 := m2
  unfold mkB at m1
  unfold mkN at m2
  simp only [Bool.and_eq_true, decide_eq_true_eq] at m1 m2
  obtain ⟨⟨⟨⟨⟨⟨q1, q2⟩, q3⟩, q4⟩, q5⟩, q6⟩, q7⟩ := m1
  have hroom : (n - n0) + (n' - n) ≤ R.cells ∧ (sl n - sl n0) + (sl n' - sl n) ≤ R.slots := by
    have h1 := sl_mono hn0
    have h2 := sl_mono hn
    have h3 := sl_mono hn1
    exact ⟨by omega, by omega⟩
  have hstk : st.map (tr B b) = (As.map (tr B b)).reverse ++ .ref (ra B b k) :: rest.map (tr B b) := by
    rw [hst2, tr_rev]
    rfl
  have hrun : va_Run p l e R s m args below meth c H locs (n - n0) (sl n - sl n0) (n' - n) (sl n' - sl n) (F0 m pc ls (st.map (tr B b))) (rest.map (tr B b)) (fun st oc t => ∃ (v : Option Value) (ρ' : Ref) (σ' : Mem), oc = .returned (v.map (tr B b)) ∧ V M d n0 n1 sc Q n' ρ' σ' (pc + 3) lv (v.toList ++ rest) ∧ va_P D vwCl (wd B cy n' ρ' σ') t.heap ∧ va_F (fun q => B ≤ q) st t) (fun q => B ≤ q) := by
    have hM1 := hM l B b cy D
    rw [m5] at hM1
    rw [m5] at q3
    rcases hl with hl | hl
    · have hcb : CallB R s args (RN M.2.1) idx M'.1 M'.2.2.1 M'.2.2.2.2.1 none (Cond.code M'.1 M'.2.2.1 M'.2.2.2.2.1 none :: gtbl) { frames := d', cells := n' - n, slots := sl n' - sl n, locals := 64 * d' } (n' - n) (sl n' - sl n) cnt := callB_of cnt hts (goodIn_code (inB_ok q3)) rfl rfl rfl (hts _ (inB_ok q4)) (hts _ (inB_ok hl)) ⟨q5, q6, m2⟩ ⟨by show d' + 1 ≤ _; omega, by show 8 + (_ + 11) + 64 * d' ≤ _; omega⟩
      exact va_runI (As := As.map (tr B b)) (b := ra B b k) ⟨hx, hb, hml, hown, hts⟩ hM1 (n := cnt) ⟨hcb, m4, hts _ (inB_ok m3)⟩ ⟨Wd_blind, fun U hU hW => ⟨rfl, Wd_at hU hW hH hP hK hNK⟩⟩ rfl (by rw [List.length_map]; exact h2) hl1.1 hstk (lv_room (by rw [tr_sum]; exact Nat.le_of_ble_eq_true hcat)) (hdT_ok hT hd) hroom
    · have hcn : va_CN R s args (RN M.2.1) idx M'.1 RX8 M'.2.2.1 M'.2.2.2.2.1 none (Cond.code M'.1 M'.2.2.1 M'.2.2.2.2.1 none :: gtbl) { frames := d', cells := n' - n, slots := sl n' - sl n, locals := 64 * d' } (n' - n) (sl n' - sl n) cnt := va_cnB cnt hts (goodIn_code (inB_ok q3)) rfl rfl rfl (hNK.1 _ hl) (hts _ (inB_ok q4)) ⟨q5, q6, m2⟩ ⟨by show d' + 1 ≤ _; omega, by show 8 + (_ + 11) + 64 * d' ≤ _; omega⟩
      exact va_runIN (As := As.map (tr B b)) (b := ra B b k) ⟨hx, hb, hml, hown, hts⟩ hM1 (n := cnt) ⟨hcn, m4, hts _ (inB_ok m3)⟩ ⟨Wd_blind, fun U hU hW => ⟨rfl, Wd_at hU hW hH hP hK hNK⟩⟩ rfl (by rw [List.length_map]; exact h2) hl1.1 hstk (lv_room (by rw [tr_sum]; exact Nat.le_of_ble_eq_true hcat)) (hdT_ok hT hd) hroom
  refine W_call (n' := n') (rest := rest.map (tr B b)) hsz hD0 hn hrun (fun v ρ' σ' hq H1 locs1 hD1 => ?_)
  have := hq hT p l e R s m args below meth c G B b cy D hC0 H1 locs1 ls hD1
  rw [List.map_append] at this
  cases v <;> exact this
theorem math_w : inB (.static Lib.Math.max.name) = true ∧ inB (.initialized "java/lang/Math") = true ∧ inB (.code Lib.Math.max.name Lib.Math.max.code 2 (some .int)) = true ∧ inB (.static Lib.Math.min.name) = true ∧ inB (.code Lib.Math.min.name Lib.Math.min.code 2 (some .int)) = true ∧ inB (.static Lib.Math.abs.name) = true ∧ inB (.code Lib.Math.abs.name Lib.Math.abs.code 1 (some .int)) = true := by
  refine ⟨inB_at 352 (by decide +kernel) (by decide +kernel), inB_at 68 (by decide +kernel) (by decide +kernel), inB_at 353 (by decide +kernel) (by decide +kernel), inB_at 349 (by decide +kernel) (by decide +kernel), inB_at 350 (by decide +kernel) (by decide +kernel), inB_at 305 (by decide +kernel) (by decide +kernel), inB_at 306 (by decide +kernel) (by decide +kernel)⟩
theorem V.max {x y : Int32} (hd : hdT pc M.2.2.2.1 = some (.invokestatic idx, 3)) (hst : st = .int y :: .int x :: rest) (hl : inB (.methodLink (RN M.2.1) idx Lib.Math.max.name) = true) (hcat : Nat.ble ((rest.map fun v => v.category).sum) 8 = true) (hd1 : 1 ≤ d) (hn1 : n ≤ n1) (kk : V M d n0 n1 sc Q n ρ σ (pc + 3) lv (.int (if x < y then y else x) :: rest)) : V M d n0 n1 sc Q n ρ σ pc lv st := by
  intro hT p l e R s m args below meth c G B b cy D hC H locs ls hD
  have K := kk hT p l e R s m args below meth c G B b cy D hC H locs ls hD
  obtain ⟨hx, hb, hml, hown, hts, hR, hsz, hK, hNK, hsc, hini, hfin⟩ := hC
  obtain ⟨hn0, hH, hP, hS, hlen, hl1⟩ := hD
  subst hst
  have h3 := sl_mono hn1
  have hc8 := Nat.le_of_ble_eq_true hcat
  exact va_mmax hx hb (hml.trans hl1.1.symm) hown (hts _ (inB_ok hl)) (hts _ (inB_ok math_w.1)) (hts _ (inB_ok math_w.2.1)) (hts _ (inB_ok math_w.2.2.1)) (by omega) (by rw [tr_sum]; omega) (by omega) (by omega) (hdT_ok hT hd) K
theorem V.min {x y : Int32} (hd : hdT pc M.2.2.2.1 = some (.invokestatic idx, 3)) (hst : st = .int y :: .int x :: rest) (hl : inB (.methodLink (RN M.2.1) idx Lib.Math.min.name) = true) (hcat : Nat.ble ((rest.map fun v => v.category).sum) 8 = true) (hd1 : 1 ≤ d) (hn1 : n ≤ n1) (kk : V M d n0 n1 sc Q n ρ σ (pc + 3) lv (.int (if y < x then y else x) :: rest)) : V M d n0 n1 sc Q n ρ σ pc lv st := by
  intro hT p l e R s m args below meth c G B b cy D hC H locs ls hD
  have K := kk hT p l e R s m args below meth c G B b cy D hC H locs ls hD
  obtain ⟨hx, hb, hml, hown, hts, hR, hsz, hK, hNK, hsc, hini, hfin⟩ := hC
  obtain ⟨hn0, hH, hP, hS, hlen, hl1⟩ := hD
  subst hst
  have h3 := sl_mono hn1
  have hc8 := Nat.le_of_ble_eq_true hcat
  exact va_mmin hx hb (hml.trans hl1.1.symm) hown (hts _ (inB_ok hl)) (hts _ (inB_ok math_w.2.2.2.1)) (hts _ (inB_ok math_w.2.1)) (hts _ (inB_ok math_w.2.2.2.2.1)) (by omega) (by rw [tr_sum]; omega) (by omega) (by omega) (hdT_ok hT hd) K
theorem V.abs {x : Int32} (hd : hdT pc M.2.2.2.1 = some (.invokestatic idx, 3)) (hst : st = .int x :: rest) (hl : inB (.methodLink (RN M.2.1) idx Lib.Math.abs.name) = true) (hcat : Nat.ble ((rest.map fun v => v.category).sum) 8 = true) (hd1 : 1 ≤ d) (hn1 : n ≤ n1) (kk : V M d n0 n1 sc Q n ρ σ (pc + 3) lv (.int (if 0 ≤ x then x else 0 - x) :: rest)) : V M d n0 n1 sc Q n ρ σ pc lv st := by
  intro hT p l e R s m args below meth c G B b cy D hC H locs ls hD
  have K := kk hT p l e R s m args below meth c G B b cy D hC H locs ls hD
  obtain ⟨hx, hb, hml, hown, hts, hR, hsz, hK, hNK, hsc, hini, hfin⟩ := hC
  obtain ⟨hn0, hH, hP, hS, hlen, hl1⟩ := hD
  subst hst
  have h3 := sl_mono hn1
  have hc8 := Nat.le_of_ble_eq_true hcat
  exact va_mabs hx hb (hml.trans hl1.1.symm) hown (hts _ (inB_ok hl)) (hts _ (inB_ok math_w.2.2.2.2.2.1)) (hts _ (inB_ok math_w.2.1)) (hts _ (inB_ok math_w.2.2.2.2.2.2)) (by omega) (by rw [tr_sum]; omega) (by omega) (by omega) (hdT_ok hT hd) K
/-- a switch -/
theorem V.swI {x : Int32} {dflt lo' hi off : Int} {offs : Array Int} {len tgt : Nat} (hd : hdT pc M.2.2.2.1 = some (.tableswitch dflt lo' hi offs, len)) (hst : st = .int x :: rest) (h1 : ¬ x.toInt < lo') (h2 : ¬ hi < x.toInt) (ho : offs[(x.toInt - lo').toNat]? = some off) (ht : (pc : Int) + off = (tgt : Int)) (kk : V M d n0 n1 sc Q n ρ σ tgt lv rest) : V M d n0 n1 sc Q n ρ σ pc lv st := by
  intro hT p l e R s m args below meth c G B b cy D hC H locs ls hD
  subst hst
  exact lv_tableIn hC.1 hC.2.1 (hdT_ok hT hd) h1 h2 ho ht (kk hT p l e R s m args below meth c G B b cy D hC H locs ls hD)
theorem V.swO {x : Int32} {dflt lo' hi : Int} {offs : Array Int} {len tgt : Nat} (hd : hdT pc M.2.2.2.1 = some (.tableswitch dflt lo' hi offs, len)) (hst : st = .int x :: rest) (h1 : x.toInt < lo' ∨ hi < x.toInt) (ht : (pc : Int) + dflt = (tgt : Int)) (kk : V M d n0 n1 sc Q n ρ σ tgt lv rest) : V M d n0 n1 sc Q n ρ σ pc lv st := by
  intro hT p l e R s m args below meth c G B b cy D hC H locs ls hD
  subst hst
  exact lv_tableOut hC.1 hC.2.1 (hdT_ok hT hd) h1 ht (kk hT p l e R s m args below meth c G B b cy D hC H locs ls hD)
theorem V.nn {off : Int} {tgt : Nat} (hd : hdT pc M.2.2.2.1 = some (.ifnonnull off, 3)) (hst : st = .ref k :: rest) (ht : (pc : Int) + off = (tgt : Int)) (kk : V M d n0 n1 sc Q n ρ σ tgt lv rest) : V M d n0 n1 sc Q n ρ σ pc lv st := by
  intro hT p l e R s m args below meth c G B b cy D hC H locs ls hD
  subst hst
  exact lv_ifnonnull hC.1 hC.2.1 (hdT_ok hT hd) ht (kk hT p l e R s m args below meth c G B b cy D hC H locs ls hD)
theorem V.nul {off : Int} (hd : hdT pc M.2.2.2.1 = some (.ifnonnull off, 3)) (hst : st = .null :: rest) (kk : V M d n0 n1 sc Q n ρ σ (pc + 3) lv rest) : V M d n0 n1 sc Q n ρ σ pc lv st := by
  intro hT p l e R s m args below meth c G B b cy D hC H locs ls hD
  subst hst
  exact lv_ifnonnullN hC.1 hC.2.1 (hdT_ok hT hd) (kk hT p l e R s m args below meth c G B b cy D hC H locs ls hD)
/-- a reference into a field -/
theorem V.putR {i a j t : Nat} (hd : hdT pc M.2.2.2.1 = some (.putfield i, 3)) (hst : st = rv t :: .ref k :: rest) (hf : fT M.2.1 i = some (a, j)) (hk : okC lo k a = true) (hr : isR a j = true) (hfi : (TXn a j).2.2.2 = false) (hlo : lo ≤ n) (ht : t ≤ n) (kk : V M d n0 n1 sc Q n (upR ρ k j t) σ (pc + 3) lv rest) : V M d n0 n1 sc Q n ρ σ pc lv st := by
  intro hT p l e R s m args below meth c G B b cy D hC H locs ls hD
  subst hst
  exact sn_putR hC hD hlo hf hk hr hfi ht rfl (hdT_ok hT hd) (fun H1 locs1 hD1 => kk hT p l e R s m args below meth c G B b cy D hC H1 locs1 ls hD1)
theorem V.putRF {i a j t : Nat} (hd : hdT pc M.2.2.2.1 = some (.putfield i, 3)) (hst : st = rv t :: .ref k :: rest) (hf : fT M.2.1 i = some (a, j)) (hk : okC lo k a = true) (hr : isR a j = true) (hfi : (TXn a j).2.2.2 = true) (hin : (M.1.name == "<init>") = true) (hown2 : (TXn a j).1 = RN M.2.1) (hlo : lo ≤ n) (ht : t ≤ n) (kk : V M d n0 n1 sc Q n (upR ρ k j t) σ (pc + 3) lv rest) : V M d n0 n1 sc Q n ρ σ pc lv st := by
  intro hT p l e R s m args below meth c G B b cy D hC H locs ls hD
  subst hst
  exact sn_putRF hC hD hlo hf hk hr hfi hin hown2 ht rfl (hdT_ok hT hd) (fun H1 locs1 hD1 => kk hT p l e R s m args below meth c G B b cy D hC H1 locs1 ls hD1)
/-- the script -/
theorem V.slen {L : Nat} {xs : Nat → Int32} (hd : hdT pc M.2.2.2.1 = some (.arraylength, 1)) (hst : st = .ref 0 :: rest) (hs : sc = some (L, xs)) (kk : V M d n0 n1 sc Q n ρ σ (pc + 1) lv (.int (Int32.ofNat L) :: rest)) : V M d n0 n1 sc Q n ρ σ pc lv st := by
  intro hT p l e R s m args below meth c G B b cy D hC H locs ls hD
  have K := kk hT p l e R s m args below meth c G B b cy D hC H locs ls hD
  obtain ⟨hx, hb, hml, hown, hts, hR, hsz, hK, hNK, hsc, hini, hfin⟩ := hC
  obtain ⟨hn0, hH, hP, hS, hlen, hl1⟩ := hD
  subst hst
  obtain ⟨hX, hbB⟩ := hsc _ hs
  exact va_slen (b := b) hx hb hX (by omega) (by omega) hS (hdT_ok hT hd) K
theorem V.sld {L : Nat} {xs : Nat → Int32} {x : Int32} (hd : hdT pc M.2.2.2.1 = some (.iaload, 1)) (hst : st = .int x :: .ref 0 :: rest) (hs : sc = some (L, xs)) (hin : vp_in x L) (kk : V M d n0 n1 sc Q n ρ σ (pc + 1) lv (.int (xs (ix x)) :: rest)) : V M d n0 n1 sc Q n ρ σ pc lv st := by
  intro hT p l e R s m args below meth c G B b cy D hC H locs ls hD
  have K := kk hT p l e R s m args below meth c G B b cy D hC H locs ls hD
  obtain ⟨hx, hb, hml, hown, hts, hR, hsz, hK, hNK, hsc, hini, hfin⟩ := hC
  obtain ⟨hn0, hH, hP, hS, hlen, hl1⟩ := hD
  subst hst
  obtain ⟨hX, hbB⟩ := hsc _ hs
  exact va_sld (b := b) hx hb hX (by omega) (by omega) hS hin (hdT_ok hT hd) K
end MOR
