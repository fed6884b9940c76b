/-! ===== the tracks of the reference ===== -/
def RRec (g : ck_H) (T k p : Nat) (r : Rc) : Prop := gI g 499 (50 * T + k) = nI p ∧ gI g 500 (50 * T + k) = nI (rC r) ∧ gI g 501 (50 * T + k) = nI (rH r) ∧ gI g 502 (50 * T + k) = nI (rN r) ∧ gI g 503 (50 * T + k) = nI (rK r) ∧ gI g 504 (50 * T + k) = nI (rD r) ∧ gI g 505 (50 * T + k) = (if rS r then nI 1 else nI 0) ∧ ∀ i, i < rL r → gI g 497 (1500 * T + p + 30 + i) = (rX r i).toInt32
def RT (g : ck_H) (T : Nat) (s : List Rc) : Prop := GT s ∧ gI g 498 T = nI s.length ∧ ∀ k r, s[k]? = some r → RRec g T k (bg s k) r
def RTs (g : ck_H) (ts : Ts) : Prop := ∀ T, T < 160 → RT g T (ts T)
def rT : Wd := fun a _ => 497 ≤ a && a ≤ 505
theorem RT.at {h : ck_H} {T : Nat} {s : List Rc} (C : RT h T s) {k : Nat} {r : Rc} (hr : s[k]? = some r) : k < s.length ∧ s.length ≤ 49 ∧ gI h 498 T = nI s.length ∧ RRec h T k (bg s k) r ∧ bg s k + 30 + rL r ≤ 1500 ∧ okR r := by
  obtain ⟨g, c1, c3⟩ := C
  have hk := at_lt hr
  have := bg_le (s := s) (k + 1)
  have g1 := g.1
  rw [bg_succ hr] at this
  exact ⟨hk, g.len, c1, c3 k r hr, by omega, g.2 r (at_in hr)⟩
theorem RT.fr {h h' : ck_H} {U : Nat} {s : List Rc} (C : RT h U s) (e0 : gI h' 498 U = gI h 498 U) (e1 : ∀ a k, 499 ≤ a → a ≤ 505 → k < 50 → gI h' a (50 * U + k) = gI h a (50 * U + k)) (e2 : ∀ i, i < 1500 → gI h' 497 (1500 * U + i) = gI h 497 (1500 * U + i)) : RT h' U s := by
  refine ⟨C.1, e0.trans C.2.1, fun k r hr => ?_⟩
  obtain ⟨hk, hl, _, ⟨x0, x1, x2, x3, x4, x5, x6, x7⟩, hp, _⟩ := C.at hr
  refine ⟨?_, ?_, ?_, ?_, ?_, ?_, ?_, fun i hi => ?_⟩
  · rw [e1 _ _ (by omega) (by omega) (by omega)]; exact x0
  · rw [e1 _ _ (by omega) (by omega) (by omega)]; exact x1
  · rw [e1 _ _ (by omega) (by omega) (by omega)]; exact x2
  · rw [e1 _ _ (by omega) (by omega) (by omega)]; exact x3
  · rw [e1 _ _ (by omega) (by omega) (by omega)]; exact x4
  · rw [e1 _ _ (by omega) (by omega) (by omega)]; exact x5
  · rw [e1 _ _ (by omega) (by omega) (by omega)]; exact x6
  · have e : 1500 * U + bg s k + 30 + i = 1500 * U + (bg s k + 30 + i) := by omega
    rw [e, e2 _ (by omega), ← e]
    exact x7 i hi
theorem RTs.ch {W : Wd} {h h' : ck_H} {ts : Ts} (C : RTs h ts) (c : Ch W h h') (w : ∀ a i, rT a i = true → W a i = false) : RTs h' ts := by
  intro T hT
  refine (C T hT).fr (c.gI (w _ _ rfl)) (fun a k h1 h2 _ => c.gI (w _ _ ?_)) (fun i _ => c.gI (w _ _ rfl))
  simp [rT]
  omega
theorem RTs.up {h h' : ck_H} {ts : Ts} {T : Nat} {s : List Rc} (C : RTs h ts) (o1 : ∀ U, U ≠ T → gI h' 498 U = gI h 498 U) (o2 : ∀ a i, 499 ≤ a → a ≤ 505 → (i < 50 * T ∨ 50 * T + 50 ≤ i) → gI h' a i = gI h a i) (o3 : ∀ i, (i < 1500 * T ∨ 1500 * T + 1500 ≤ i) → gI h' 497 i = gI h 497 i) (N : RT h' T s) : RTs h' (upT ts T s) := by
  intro U hU
  by_cases e : U = T
  · subst e
    rw [upT_s]
    exact N
  · rw [upT_n e]
    exact (C U hU).fr (o1 U e) (fun a k h1 h2 h3 => o2 a _ h1 h2 (by omega)) (fun i hi => o3 _ (by omega))
section
variable {F T k : Nat} {h : ck_H} {s : List Rc} {ts : Ts} {r : Rc}
theorem q_at {a b : Nat} : f_RM_at F (nI a) (nI b) h = some (nI (50 * a + b), h) := by
  unfold f_RM_at
  simp (disch := omega) only [lit, litL, bb, ite01, ite01n, nI_l, lN_add, lN_sub, in_eq, l_1, pk_lLT, pk_lEQ, lgl, lgg, lge, n64,  m8, m16, m24, m0, sh0, nI_add, pk_mul, nI_ltI, nI_leI, nI_eq, nI_clamp, pk_sub, pk_div, pk_rem, not_true_eq_false, not_false_eq_true, true_and, and_true, false_and, and_false, true_or, or_true, false_or, or_false, true_implies, false_implies, implies_true, if_true, if_false, Nat.not_lt_zero, Nat.add_zero, Nat.zero_add, and_self, eq_self, Bool.false_eq_true, Nat.reduceLT, Nat.reduceLeDiff, Nat.reduceAdd, Nat.reduceEqDiff, Nat.reduceMul, Nat.reduceSub, Nat.reduceDiv, Nat.reduceMod, ub_and, b0, b1, ub_n]
theorem r_endOf (S : ShR h) (hT : T < 160) (C : RT h T s) (hr : s[k]? = some r) : f_RM_endOf F 496 (nI T) (nI k) h = some (nI (bg s k + 30 + rL r), h) := by
  obtain ⟨hk, hl, e0, ⟨x0, x1, x2, x3, x4, x5, x6, x7⟩, hp, o⟩ := C.at hr
  apply wp_out
  unfold f_RM_endOf
  simp (disch := omega) only [wp_as, wp_ifp, wp_ifn, wp_some, wp_then, wp_bd, wp_ret, wp_optS, wp_optN, gk_wI, gz_wI, gR_wI, gk_wC, gz_wC, gR_wC, gk_wJ, gz_wJ, gR_wJ, lit, litL, bb, ite01, ite01n, nI_l, lN_add, lN_sub, in_eq, l_1, pk_lLT, pk_lEQ, lgl, lgg, lge, n64,  m8, m16, m24, m0, sh0, nI_add, pk_mul, nI_ltI, nI_leI, nI_eq, nI_clamp, pk_sub, pk_div, pk_rem, not_true_eq_false, not_false_eq_true, true_and, and_true, false_and, and_false, true_or, or_true, false_or, or_false, true_implies, false_implies, implies_true, if_true, if_false, Nat.not_lt_zero, Nat.add_zero, Nat.zero_add, and_self, eq_self, Bool.false_eq_true, Nat.reduceLT, Nat.reduceLeDiff, Nat.reduceAdd, Nat.reduceEqDiff, Nat.reduceMul, Nat.reduceSub, Nat.reduceDiv, Nat.reduceMod, ub_and, b0, b1, ub_n, S.k, S.begins_, S.keys_, S.datas_, q_at, x0, x4, x5]
  refine ⟨by omega, by omega, by omega, ?_⟩
  simp only [rL, rK, rD, Nat.add_assoc]
theorem r_lastEnd (S : ShR h) (hT : T < 160) (C : RT h T s) : f_RM_lastEnd F 496 (nI T) h = some (nI (30 + ln s), h) := by
  have hl := C.1.len
  apply wp_out
  unfold f_RM_lastEnd
  simp (disch := omega) only [wp_as, wp_ifp, wp_ifn, wp_some, wp_then, wp_bd, wp_ret, wp_optS, wp_optN, gk_wI, gz_wI, gR_wI, gk_wC, gz_wC, gR_wC, gk_wJ, gz_wJ, gR_wJ, lit, litL, bb, ite01, ite01n, nI_l, lN_add, lN_sub, in_eq, l_1, pk_lLT, pk_lEQ, lgl, lgg, lge, n64,  m8, m16, m24, m0, sh0, nI_add, pk_mul, nI_ltI, nI_leI, nI_eq, nI_clamp, pk_sub, pk_div, pk_rem, not_true_eq_false, not_false_eq_true, true_and, and_true, false_and, and_false, true_or, or_true, false_or, or_false, true_implies, false_implies, implies_true, if_true, if_false, Nat.not_lt_zero, Nat.add_zero, Nat.zero_add, and_self, eq_self, Bool.false_eq_true, Nat.reduceLT, Nat.reduceLeDiff, Nat.reduceAdd, Nat.reduceEqDiff, Nat.reduceMul, Nat.reduceSub, Nat.reduceDiv, Nat.reduceMod, ub_and, b0, b1, ub_n, S.k, S.many_, C.2.1]
  refine ⟨by omega, ?_⟩
  refine wp_ite (fun q => ?_) (fun q => ?_)
  · simp (disch := omega) only [wp_as, wp_ifp, wp_ifn, wp_some, wp_then, wp_bd, wp_ret, wp_optS, wp_optN, gk_wI, gz_wI, gR_wI, gk_wC, gz_wC, gR_wC, gk_wJ, gz_wJ, gR_wJ, lit, litL, bb, ite01, ite01n, nI_l, lN_add, lN_sub, in_eq, l_1, pk_lLT, pk_lEQ, lgl, lgg, lge, n64,  m8, m16, m24, m0, sh0, nI_add, pk_mul, nI_ltI, nI_leI, nI_eq, nI_clamp, pk_sub, pk_div, pk_rem, not_true_eq_false, not_false_eq_true, true_and, and_true, false_and, and_false, true_or, or_true, false_or, or_false, true_implies, false_implies, implies_true, if_true, if_false, Nat.not_lt_zero, Nat.add_zero, Nat.zero_add, and_self, eq_self, Bool.false_eq_true, Nat.reduceLT, Nat.reduceLeDiff, Nat.reduceAdd, Nat.reduceEqDiff, Nat.reduceMul, Nat.reduceSub, Nat.reduceDiv, Nat.reduceMod, ub_and, b0, b1, ub_n]
    have : s = [] := List.eq_nil_of_length_eq_zero q
    rw [this]
    rfl
  · obtain ⟨r, hr⟩ := at_ex (s := s) (k := s.length - 1) (by omega)
    simp (disch := omega) only [wp_as, wp_ifp, wp_ifn, wp_some, wp_then, wp_bd, wp_ret, wp_optS, wp_optN, gk_wI, gz_wI, gR_wI, gk_wC, gz_wC, gR_wC, gk_wJ, gz_wJ, gR_wJ, lit, litL, bb, ite01, ite01n, nI_l, lN_add, lN_sub, in_eq, l_1, pk_lLT, pk_lEQ, lgl, lgg, lge, n64,  m8, m16, m24, m0, sh0, nI_add, pk_mul, nI_ltI, nI_leI, nI_eq, nI_clamp, pk_sub, pk_div, pk_rem, not_true_eq_false, not_false_eq_true, true_and, and_true, false_and, and_false, true_or, or_true, false_or, or_false, true_implies, false_implies, implies_true, if_true, if_false, Nat.not_lt_zero, Nat.add_zero, Nat.zero_add, and_self, eq_self, Bool.false_eq_true, Nat.reduceLT, Nat.reduceLeDiff, Nat.reduceAdd, Nat.reduceEqDiff, Nat.reduceMul, Nat.reduceSub, Nat.reduceDiv, Nat.reduceMod, ub_and, b0, b1, ub_n, S.k, S.many_, C.2.1, r_endOf S hT C hr]
    refine ⟨by omega, ?_⟩
    rw [← bg_succ hr, Nat.sub_add_cancel (by omega), bg_len]
theorem r_hasRoom {b : Nat} (S : ShR h) (hT : T < 160) (C : RT h T s) (hb : b < 2 ^ 30) : f_RM_hasRoom F 496 (nI T) (nI b) h = some (if 30 + ln s + 30 + b ≤ 1500 then nI 1 else nI 0, h) := by
  have g := C.1.1
  apply wp_out
  unfold f_RM_hasRoom
  simp (disch := omega) only [wp_as, wp_ifp, wp_ifn, wp_some, wp_then, wp_bd, wp_ret, wp_optS, wp_optN, gk_wI, gz_wI, gR_wI, gk_wC, gz_wC, gR_wC, gk_wJ, gz_wJ, gR_wJ, lit, litL, bb, ite01, ite01n, nI_l, lN_add, lN_sub, in_eq, l_1, pk_lLT, pk_lEQ, lgl, lgg, lge, n64,  m8, m16, m24, m0, sh0, nI_add, pk_mul, nI_ltI, nI_leI, nI_eq, nI_clamp, pk_sub, pk_div, pk_rem, not_true_eq_false, not_false_eq_true, true_and, and_true, false_and, and_false, true_or, or_true, false_or, or_false, true_implies, false_implies, implies_true, if_true, if_false, Nat.not_lt_zero, Nat.add_zero, Nat.zero_add, and_self, eq_self, Bool.false_eq_true, Nat.reduceLT, Nat.reduceLeDiff, Nat.reduceAdd, Nat.reduceEqDiff, Nat.reduceMul, Nat.reduceSub, Nat.reduceDiv, Nat.reduceMod, ub_and, b0, b1, ub_n, S.k, r_lastEnd S hT C]
  refine wp_ite (fun q => ?_) (fun q => ?_)
  · simp (disch := omega) only [wp_as, wp_ifp, wp_ifn, wp_some, wp_then, wp_bd, wp_ret, wp_optS, wp_optN, gk_wI, gz_wI, gR_wI, gk_wC, gz_wC, gR_wC, gk_wJ, gz_wJ, gR_wJ, lit, litL, bb, ite01, ite01n, nI_l, lN_add, lN_sub, in_eq, l_1, pk_lLT, pk_lEQ, lgl, lgg, lge, n64,  m8, m16, m24, m0, sh0, nI_add, pk_mul, nI_ltI, nI_leI, nI_eq, nI_clamp, pk_sub, pk_div, pk_rem, not_true_eq_false, not_false_eq_true, true_and, and_true, false_and, and_false, true_or, or_true, false_or, or_false, true_implies, false_implies, implies_true, if_true, if_false, Nat.not_lt_zero, Nat.add_zero, Nat.zero_add, and_self, eq_self, Bool.false_eq_true, Nat.reduceLT, Nat.reduceLeDiff, Nat.reduceAdd, Nat.reduceEqDiff, Nat.reduceMul, Nat.reduceSub, Nat.reduceDiv, Nat.reduceMod, ub_and, b0, b1, ub_n]
    rw [if_neg (by omega)]
  · simp (disch := omega) only [wp_as, wp_ifp, wp_ifn, wp_some, wp_then, wp_bd, wp_ret, wp_optS, wp_optN, gk_wI, gz_wI, gR_wI, gk_wC, gz_wC, gR_wC, gk_wJ, gz_wJ, gR_wJ, lit, litL, bb, ite01, ite01n, nI_l, lN_add, lN_sub, in_eq, l_1, pk_lLT, pk_lEQ, lgl, lgg, lge, n64,  m8, m16, m24, m0, sh0, nI_add, pk_mul, nI_ltI, nI_leI, nI_eq, nI_clamp, pk_sub, pk_div, pk_rem, not_true_eq_false, not_false_eq_true, true_and, and_true, false_and, and_false, true_or, or_true, false_or, or_false, true_implies, false_implies, implies_true, if_true, if_false, Nat.not_lt_zero, Nat.add_zero, Nat.zero_add, and_self, eq_self, Bool.false_eq_true, Nat.reduceLT, Nat.reduceLeDiff, Nat.reduceAdd, Nat.reduceEqDiff, Nat.reduceMul, Nat.reduceSub, Nat.reduceDiv, Nat.reduceMod, ub_and, b0, b1, ub_n]
    rw [if_pos (by omega)]
theorem r_keyAt (S : ShR h) (hT : T < 160) (C : RT h T s) (hr : s[k]? = some r) : f_RM_keyAt F 496 (nI T) (nI k) h = some (nI (1500 * T + bg s k + 30), h) := by
  obtain ⟨hk, hl, e0, ⟨x0, x1, x2, x3, x4, x5, x6, x7⟩, hp, o⟩ := C.at hr
  apply wp_out
  unfold f_RM_keyAt
  simp (disch := omega) only [wp_as, wp_ifp, wp_ifn, wp_some, wp_then, wp_bd, wp_ret, wp_optS, wp_optN, gk_wI, gz_wI, gR_wI, gk_wC, gz_wC, gR_wC, gk_wJ, gz_wJ, gR_wJ, lit, litL, bb, ite01, ite01n, nI_l, lN_add, lN_sub, in_eq, l_1, pk_lLT, pk_lEQ, lgl, lgg, lge, n64,  m8, m16, m24, m0, sh0, nI_add, pk_mul, nI_ltI, nI_leI, nI_eq, nI_clamp, pk_sub, pk_div, pk_rem, not_true_eq_false, not_false_eq_true, true_and, and_true, false_and, and_false, true_or, or_true, false_or, or_false, true_implies, false_implies, implies_true, if_true, if_false, Nat.not_lt_zero, Nat.add_zero, Nat.zero_add, and_self, eq_self, Bool.false_eq_true, Nat.reduceLT, Nat.reduceLeDiff, Nat.reduceAdd, Nat.reduceEqDiff, Nat.reduceMul, Nat.reduceSub, Nat.reduceDiv, Nat.reduceMod, ub_and, b0, b1, ub_n, S.k, S.begins_, q_at, x0]
  omega
theorem r_dataAt (S : ShR h) (hT : T < 160) (C : RT h T s) (hr : s[k]? = some r) : f_RM_dataAt F 496 (nI T) (nI k) h = some (nI (1500 * T + bg s k + 30 + rK r), h) := by
  obtain ⟨hk, hl, e0, ⟨x0, x1, x2, x3, x4, x5, x6, x7⟩, hp, o⟩ := C.at hr
  apply wp_out
  unfold f_RM_dataAt
  simp (disch := omega) only [wp_as, wp_ifp, wp_ifn, wp_some, wp_then, wp_bd, wp_ret, wp_optS, wp_optN, gk_wI, gz_wI, gR_wI, gk_wC, gz_wC, gR_wC, gk_wJ, gz_wJ, gR_wJ, lit, litL, bb, ite01, ite01n, nI_l, lN_add, lN_sub, in_eq, l_1, pk_lLT, pk_lEQ, lgl, lgg, lge, n64,  m8, m16, m24, m0, sh0, nI_add, pk_mul, nI_ltI, nI_leI, nI_eq, nI_clamp, pk_sub, pk_div, pk_rem, not_true_eq_false, not_false_eq_true, true_and, and_true, false_and, and_false, true_or, or_true, false_or, or_false, true_implies, false_implies, implies_true, if_true, if_false, Nat.not_lt_zero, Nat.add_zero, Nat.zero_add, and_self, eq_self, Bool.false_eq_true, Nat.reduceLT, Nat.reduceLeDiff, Nat.reduceAdd, Nat.reduceEqDiff, Nat.reduceMul, Nat.reduceSub, Nat.reduceDiv, Nat.reduceMod, ub_and, b0, b1, ub_n, S.k, r_keyAt S hT C hr, S.keys_, q_at, x4]
  omega
/-- fewer records -/
theorem RTs.keep {n : Nat} (C : RTs h ts) (hT : T < 160) (hn : n ≤ (ts T).length) : Ch rT h (wI h 498 T (nI n)) ∧ RTs (wI h 498 T (nI n)) (upT ts T ((ts T).take n)) := by
  refine ⟨(by repeat (first | exact Ch.refl _ | refine Ch.wI ?_ rfl | refine Ch.wC ?_ (fun _ => rfl) | refine Ch.wJ ?_ rfl)), C.up (fun U e => by rw [gI_wI, if_neg (by omega)]) (fun a i h1 h2 h3 => by rw [gI_wI, if_neg (by omega)]) (fun i hi => by rw [gI_wI, if_neg (by omega)]) ⟨(C T hT).1.take n, ?_, fun j x hx => ?_⟩⟩
  · rw [gI_wI, if_pos (And.intro rfl rfl), List.length_take, Nat.min_eq_left hn]
  · obtain ⟨hj, hx⟩ := at_take hx
    rw [bg_take (by omega)]
    have := (C T hT).2.2 j x hx
    have n1 : ∀ a i, a ≠ 498 → gI (wI h 498 T (nI n)) a i = gI h a i := fun a i q => by rw [gI_wI, if_neg (by omega)]
    simpa only [RRec, n1 497 _ (by omega), n1 499 _ (by omega), n1 500 _ (by omega), n1 501 _ (by omega), n1 502 _ (by omega), n1 503 _ (by omega), n1 504 _ (by omega), n1 505 _ (by omega)] using this
/-- a record's own places change -/
theorem RTs.rc {h' : ck_H} {r' : Rc} (C : RTs h ts) (hT : T < 160) (hr : (ts T)[k]? = some r) (e1 : r'.1 = r.1) (e2 : r'.2.1 = r.2.1) (cc : Ch (fun a _ => a == 497 || a == 505) h h') (out : ∀ i, i < 1500 * T + bg (ts T) k + 30 ∨ 1500 * T + bg (ts T) k + 30 + rL r ≤ i → gI h' 497 i = gI h 497 i) (inn : ∀ i, i < rL r → gI h' 497 (1500 * T + bg (ts T) k + 30 + i) = (rX r' i).toInt32) (mk : gI h' 505 (50 * T + k) = (if rS r' then nI 1 else nI 0)) (mo : ∀ i, i ≠ 50 * T + k → gI h' 505 i = gI h 505 i) : Ch rT h h' ∧ RTs h' (upT ts T ((ts T).set k r')) := by
  have c0 := C T hT
  obtain ⟨hk, hl, e0, R, hp, o⟩ := c0.at hr
  have el : rL r' = rL r := by simp only [rL, e2]
  have oc : okR r' := by simpa only [okR, rC, rH, rN, rK, rD, e1, e2] using o
  have z : ∀ a i, a ≠ 497 → a ≠ 505 → gI h' a i = gI h a i := fun a i n1 n2 => cc.gI (by simp [n1, n2])
  refine ⟨cc.mono fun a i q => ?_, C.up (fun U _ => z _ _ (by omega) (by omega)) (fun a i h1 h2 h3 => ?_) (fun i hi => out i (by omega)) ⟨c0.1.set hr el oc, ?_, fun j x hx => ?_⟩⟩
  · simp at q
    rcases q with rfl | rfl <;> rfl
  · by_cases q : a = 505
    · subst q
      exact mo i (by omega)
    · exact z a i (by omega) q
  · rw [z _ _ (by omega) (by omega), e0, List.length_set]
  · rw [bg_set hr el]
    rcases at_st hx with ⟨rfl, rfl⟩ | ⟨nj, hx⟩
    · obtain ⟨x0, x1, x2, x3, x4, x5, x6, x7⟩ := R
      refine ⟨?_, ?_, ?_, ?_, ?_, ?_, mk, fun i hi => inn i (by omega)⟩
      · rw [z _ _ (by omega) (by omega)]; exact x0
      · rw [z _ _ (by omega) (by omega), x1]; simp only [rC, e1]
      · rw [z _ _ (by omega) (by omega), x2]; simp only [rH, e1]
      · rw [z _ _ (by omega) (by omega), x3]; simp only [rN, e1]
      · rw [z _ _ (by omega) (by omega), x4]; simp only [rK, e2]
      · rw [z _ _ (by omega) (by omega), x5]; simp only [rD, e2]
    · have ap : bg (ts T) j + 30 + rL x ≤ bg (ts T) k ∨ bg (ts T) k + 30 + rL r ≤ bg (ts T) j := by
        by_cases q : j < k
        · exact Or.inl (bg_lt hx q)
        · exact Or.inr (bg_lt hr (by omega))
      obtain ⟨x0, x1, x2, x3, x4, x5, x6, x7⟩ := c0.2.2 j x hx
      refine ⟨?_, ?_, ?_, ?_, ?_, ?_, ?_, fun i hi => ?_⟩
      · rw [z _ _ (by omega) (by omega)]; exact x0
      · rw [z _ _ (by omega) (by omega)]; exact x1
      · rw [z _ _ (by omega) (by omega)]; exact x2
      · rw [z _ _ (by omega) (by omega)]; exact x3
      · rw [z _ _ (by omega) (by omega)]; exact x4
      · rw [z _ _ (by omega) (by omega)]; exact x5
      · rw [mo _ (by omega)]; exact x6
      · rw [out _ (by omega)]; exact x7 i hi
theorem RTs.mark {b : Bool} (C : RTs h ts) (hT : T < 160) (hr : (ts T)[k]? = some r) : Ch rT h (wI h 505 (50 * T + k) (if b then nI 1 else nI 0)) ∧ RTs (wI h 505 (50 * T + k) (if b then nI 1 else nI 0)) (upT ts T ((ts T).set k (rMk r b))) := by
  have x7 := ((C T hT).2.2 k r hr).2.2.2.2.2.2.2
  refine C.rc (r' := rMk r b) hT hr rfl rfl ((Ch.refl h).wI rfl) (fun i _ => by rw [gI_wI, if_neg (by omega)]) (fun i hi => by rw [gI_wI, if_neg (by omega)]; exact x7 i hi) (by rw [gI_wI, if_pos (And.intro rfl rfl)]; rfl) (fun i n => by rw [gI_wI, if_neg (by omega)])
theorem r_addL {kl dl p : Nat} {P : Int32 → ck_H → Prop} (hT : T < 160) (hk : k < 50) (hp : p + 30 + (kl + dl) ≤ 1500) : ∀ (d n i : Nat) (h : ck_H), i + d = kl + dl → d < n → ShR h → gI h 499 (50 * T + k) = nI p → (∀ h', Ch (fun a _ => a == 497) h h' → (∀ j, gI h' 497 j = if 1500 * T + p + 30 + i ≤ j ∧ j < 1500 * T + p + 30 + (kl + dl) then nI 0 else gI h 497 j) → P (nI k) h') → wp (f_RM_add_L112 F n 496 (nI T) (nI kl) (nI dl) (nI k) (nI i) h) P := by
  intro d
  induction d with
  | zero =>
    intro n i h hi hn S e kk
    obtain ⟨n, rfl⟩ : ∃ n', n = n' + 1 := ⟨n - 1, by omega⟩
    unfold f_RM_add_L112
    simp (disch := omega) only [wp_as, wp_ifp, wp_ifn, wp_some, wp_then, wp_bd, wp_ret, wp_optS, wp_optN, gk_wI, gz_wI, gR_wI, gk_wC, gz_wC, gR_wC, gk_wJ, gz_wJ, gR_wJ, lit, litL, bb, ite01, ite01n, nI_l, lN_add, lN_sub, in_eq, l_1, pk_lLT, pk_lEQ, lgl, lgg, lge, n64,  m8, m16, m24, m0, sh0, nI_add, pk_mul, nI_ltI, nI_leI, nI_eq, nI_clamp, pk_sub, pk_div, pk_rem, not_true_eq_false, not_false_eq_true, true_and, and_true, false_and, and_false, true_or, or_true, false_or, or_false, true_implies, false_implies, implies_true, if_true, if_false, Nat.not_lt_zero, Nat.add_zero, Nat.zero_add, and_self, eq_self, Bool.false_eq_true, Nat.reduceLT, Nat.reduceLeDiff, Nat.reduceAdd, Nat.reduceEqDiff, Nat.reduceMul, Nat.reduceSub, Nat.reduceDiv, Nat.reduceMod, ub_and, b0, b1, ub_n]
    exact kk _ (Ch.refl h) fun j => by rw [if_neg (by omega)]
  | succ d ih =>
    intro n i h hi hn S e kk
    obtain ⟨n, rfl⟩ : ∃ n', n = n' + 1 := ⟨n - 1, by omega⟩
    unfold f_RM_add_L112 f_RM_keyAt
    simp (disch := omega) only [wp_as, wp_ifp, wp_ifn, wp_some, wp_then, wp_bd, wp_ret, wp_optS, wp_optN, gk_wI, gz_wI, gR_wI, gk_wC, gz_wC, gR_wC, gk_wJ, gz_wJ, gR_wJ, lit, litL, bb, ite01, ite01n, nI_l, lN_add, lN_sub, in_eq, l_1, pk_lLT, pk_lEQ, lgl, lgg, lge, n64,  m8, m16, m24, m0, sh0, nI_add, pk_mul, nI_ltI, nI_leI, nI_eq, nI_clamp, pk_sub, pk_div, pk_rem, not_true_eq_false, not_false_eq_true, true_and, and_true, false_and, and_false, true_or, or_true, false_or, or_false, true_implies, false_implies, implies_true, if_true, if_false, Nat.not_lt_zero, Nat.add_zero, Nat.zero_add, and_self, eq_self, Bool.false_eq_true, Nat.reduceLT, Nat.reduceLeDiff, Nat.reduceAdd, Nat.reduceEqDiff, Nat.reduceMul, Nat.reduceSub, Nat.reduceDiv, Nat.reduceMod, ub_and, b0, b1, ub_n, S.k, S.body_, S.begins_, q_at, e]
    refine ⟨by omega, by omega, ?_⟩
    have c1 : Ch (fun a _ => a == 497) h (wI h 497 (1500 * T + p + 30 + i) (nI 0)) := (by repeat (first | exact Ch.refl _ | refine Ch.wI ?_ rfl | refine Ch.wC ?_ (fun _ => rfl) | refine Ch.wJ ?_ rfl))
    refine ih n (i + 1) _ (by omega) (by omega) (S.ch c1) (by rw [gI_wI, if_neg (by omega)]; exact e) fun h' c' e' => ?_
    refine kk _ (c1.trans c') fun j => ?_
    rw [e']
    by_cases q : 1500 * T + p + 30 + (i + 1) ≤ j ∧ j < 1500 * T + p + 30 + (kl + dl)
    · rw [if_pos q, if_pos (by omega)]
    · rw [if_neg q, gI_wI]
      by_cases e2 : j = 1500 * T + p + 30 + i
      · rw [if_pos (And.intro rfl e2), if_pos (by omega)]
      · rw [if_neg (by omega), if_neg (by omega)]
theorem r_add (hF : 2000 ≤ F) {x y z kl dl : Nat} (S : ShR h) (C : RTs h ts) (hT : T < 160) (o : okR (rNew x y z kl dl)) (room : 30 + ln (ts T) + 30 + (kl + dl) ≤ 1500) {P : Int32 → ck_H → Prop} (kk : ∀ h', Ch rT h h' → RTs h' (upT ts T (ts T ++ [rNew x y z kl dl])) → P (nI (ts T).length) h') : wp (f_RM_add F 496 (nI T) (nI x) (nI y) (nI z) (nI kl) (nI dl) h) P := by
  have c0 := C T hT
  have hl := c0.1.len
  have hl2 := ln_len (ts T)
  unfold f_RM_add f_RM_add_J97
  simp (disch := omega) only [wp_as, wp_ifp, wp_ifn, wp_some, wp_then, wp_bd, wp_ret, wp_optS, wp_optN, gk_wI, gz_wI, gR_wI, gk_wC, gz_wC, gR_wC, gk_wJ, gz_wJ, gR_wJ, lit, litL, bb, ite01, ite01n, nI_l, lN_add, lN_sub, in_eq, l_1, pk_lLT, pk_lEQ, lgl, lgg, lge, n64,  m8, m16, m24, m0, sh0, nI_add, pk_mul, nI_ltI, nI_leI, nI_eq, nI_clamp, pk_sub, pk_div, pk_rem, not_true_eq_false, not_false_eq_true, true_and, and_true, false_and, and_false, true_or, or_true, false_or, or_false, true_implies, false_implies, implies_true, if_true, if_false, Nat.not_lt_zero, Nat.add_zero, Nat.zero_add, and_self, eq_self, Bool.false_eq_true, Nat.reduceLT, Nat.reduceLeDiff, Nat.reduceAdd, Nat.reduceEqDiff, Nat.reduceMul, Nat.reduceSub, Nat.reduceDiv, Nat.reduceMod, ub_and, b0, b1, ub_n, S.k, S.many_, S.begins_, S.cylinders_, S.heads_, S.numbers_, S.keys_, S.datas_, S.isSpoiled_, q_at, r_lastEnd S hT c0, c0.2.1, gI_wI]
  refine ⟨hT, by omega, hT, hT, by omega, by omega, by omega, by omega, by omega, by omega, ?_⟩
  generalize eH : (wI (wI (wI (wI (wI (wI (wI (wI h 499 (50 * T + (ts T).length) (nI (30 + ln (ts T)))) 498 T (nI ((ts T).length + 1))) 500 (50 * T + (ts T).length) (nI x)) 501 (50 * T + (ts T).length) (nI y)) 502 (50 * T + (ts T).length) (nI z)) 503 (50 * T + (ts T).length) (nI kl)) 504 (50 * T + (ts T).length) (nI dl)) 505 (50 * T + (ts T).length) (nI 0)) = H
  have c1 : Ch rT h H := by rw [← eH]; exact (by repeat (first | exact Ch.refl _ | refine Ch.wI ?_ rfl | refine Ch.wC ?_ (fun _ => rfl) | refine Ch.wJ ?_ rfl))
  have S1 := S.ch c1
  refine r_addL hT (by omega) (p := 30 + ln (ts T)) (by omega) (kl + dl) F 0 H (by omega) (by omega) S1 (by rw [← eH]; simp [gI_wI]) fun h' c' e' => ?_
  have c2 : Ch rT h h' := c1.trans (c'.mono fun a i q => by simp at q; subst q; rfl)
  have zz : ∀ a i, a ≠ 497 → gI h' a i = gI H a i := fun a i n => c'.gI (by simp [n])
  have hb : ∀ i, gI H 497 i = gI h 497 i := fun i => by rw [← eH]; simp [gI_wI]
  have ho : ∀ a i, 499 ≤ a → a ≤ 505 → i ≠ 50 * T + (ts T).length → gI H a i = gI h a i := fun a i h1 h2 n => by
    rw [← eH]
    simp only [gI_wI]
    simp only [n, and_false, if_false]
    rw [if_neg (by omega)]
  have rl : rL (rNew x y z kl dl) = kl + dl := rfl
  refine kk h' c2 (C.up (fun U n => ?_) (fun a i h1 h2 h3 => ?_) (fun i hi => ?_) ⟨c0.1.app (by rw [rl]; omega) o, ?_, fun j r hr => ?_⟩)
  · rw [zz _ _ (by omega), ← eH]
    simp [gI_wI, n]
  · rw [zz _ _ (by omega), ho a i h1 h2 (by omega)]
  · rw [e', if_neg (by omega), hb]
  · rw [zz _ _ (by omega), ← eH, List.length_append, List.length_singleton]
    simp [gI_wI]
  · rcases at_app hr with ⟨hj, hr⟩ | ⟨rfl, rfl⟩
    · rw [bg_app (by omega)]
      have ap := bg_lt hr hj
      rw [bg_len] at ap
      obtain ⟨x0, x1, x2, x3, x4, x5, x6, x7⟩ := c0.2.2 j r hr
      refine ⟨?_, ?_, ?_, ?_, ?_, ?_, ?_, fun i hi => ?_⟩
      · rw [zz _ _ (by omega), ho _ _ (by omega) (by omega) (by omega)]; exact x0
      · rw [zz _ _ (by omega), ho _ _ (by omega) (by omega) (by omega)]; exact x1
      · rw [zz _ _ (by omega), ho _ _ (by omega) (by omega) (by omega)]; exact x2
      · rw [zz _ _ (by omega), ho _ _ (by omega) (by omega) (by omega)]; exact x3
      · rw [zz _ _ (by omega), ho _ _ (by omega) (by omega) (by omega)]; exact x4
      · rw [zz _ _ (by omega), ho _ _ (by omega) (by omega) (by omega)]; exact x5
      · rw [zz _ _ (by omega), ho _ _ (by omega) (by omega) (by omega)]; exact x6
      · rw [e', if_neg (by omega), hb]; exact x7 i hi
    · rw [bg_app (Nat.le_refl _), bg_len]
      refine ⟨?_, ?_, ?_, ?_, ?_, ?_, ?_, fun i hi => ?_⟩
      · rw [zz _ _ (by omega), ← eH]; simp [gI_wI]
      · rw [zz _ _ (by omega), ← eH]; simp [gI_wI]; rfl
      · rw [zz _ _ (by omega), ← eH]; simp [gI_wI]; rfl
      · rw [zz _ _ (by omega), ← eH]; simp [gI_wI]; rfl
      · rw [zz _ _ (by omega), ← eH]; simp [gI_wI]; rfl
      · rw [zz _ _ (by omega), ← eH]; simp [gI_wI]; rfl
      · rw [zz _ _ (by omega), ← eH]; simp only [gI_wI, and_self, if_true]; rfl
      · rw [rl] at hi
        rw [e', if_pos (by omega)]; rfl
end
