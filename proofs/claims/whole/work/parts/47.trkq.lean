/-! ===== a track of the class: what it holds, and what it tells ===== -/
theorem wp_out {α : Type} {x : Option (α × ck_H)} {r : α} {h : ck_H} (w : wp x (fun r' h' => r' = r ∧ h' = h)) : x = some (r, h) := by
  obtain ⟨r', h', e, rfl, rfl⟩ := w
  exact e
/-- a record in the cells of a track -/
def CRec (h : ck_H) (c p : Nat) (r : Rc) : Prop := gI h c p = (nI (rC r)).toInt8.toInt32 ∧ gI h c (p + 1) = (nI (rH r)).toInt8.toInt32 ∧ gI h c (p + 2) = (nI (rN r)).toInt8.toInt32 ∧ gI h c (p + 3) = (nI (rK r)).toInt8.toInt32 ∧ gI h c (p + 4) = (nI (rD r / 256)).toInt8.toInt32 ∧ gI h c (p + 5) = (nI (rD r)).toInt8.toInt32 ∧ gI h c (p + 6) = (if rS r then nI 1 else nI 0) ∧ ∀ i, i < rL r → gI h c (p + 30 + i) = (rX r i).toInt32
def CT (h : ck_H) (T : Nat) (s : List Rc) : Prop := GT s ∧ gI h (ta T) 2 = nI s.length ∧ (∀ k, k ≤ s.length → gI h (ta T + 1) k = nI (bg s k)) ∧ (∀ k r, s[k]? = some r → ∃ c, gR h (ta T) 0 = some c ∧ gk h c = 13 ∧ gz h c = 1500 ∧ CRec h c (bg s k) r)
theorem CT.at {h : ck_H} {T : Nat} {s : List Rc} (C : CT h T s) {k : Nat} {r : Rc} (hr : s[k]? = some r) : ∃ c, k < s.length ∧ s.length ≤ 49 ∧ gI h (ta T) 2 = nI s.length ∧ gI h (ta T + 1) k = nI (bg s k) ∧ gI h (ta T + 1) (k + 1) = nI (bg s k + 30 + rL r) ∧ gR h (ta T) 0 = some c ∧ gk h c = 13 ∧ gz h c = 1500 ∧ CRec h c (bg s k) r ∧ bg s k + 30 + rL r ≤ 1500 ∧ okR r := by
  obtain ⟨g, c1, c2, c3⟩ := C
  obtain ⟨c, e1, e2, e3, e4⟩ := c3 k r hr
  have hk := at_lt hr
  have := bg_le (s := s) (k + 1)
  have g1 := g.1
  rw [bg_succ hr] at this
  exact ⟨c, hk, g.len, c1, c2 k (by omega), by rw [c2 (k + 1) hk, bg_succ hr], e1, e2, e3, e4, by omega, g.2 r (at_in hr)⟩
section
variable {F T k : Nat} {h : ck_H} {s : List Rc} {r : Rc}
theorem q_has1 (S : ShC h) (hT : T < 161) (C : CT h T s) (hr : s[k]? = some r) : f_Tr_has F (ta T) (nI k) h = some (nI 1, h) := by
  obtain ⟨c, hk, hl, e0, _⟩ := C.at hr
  apply wp_out
  unfold f_Tr_has
  simp (disch := omega) only [wp_as, wp_ifp, wp_ifn, wp_some, wp_then, wp_bd, wp_ret, wp_optS, wp_optN, gk_wI, gz_wI, gR_wI, gk_wC, gz_wC, gR_wC, gk_wJ, gz_wJ, gR_wJ, lit, litL, bb, ite01, ite01n, nI_l, lN_add, lN_sub, in_eq, l_1, pk_lLT, pk_lEQ, lgl, lgg, lge, n64,  m8, m16, m24, m0, sh0, nI_add, pk_mul, nI_ltI, nI_leI, nI_eq, nI_clamp, pk_sub, pk_div, pk_rem, not_true_eq_false, not_false_eq_true, true_and, and_true, false_and, and_false, true_or, or_true, false_or, or_false, true_implies, false_implies, implies_true, if_true, if_false, Nat.not_lt_zero, Nat.add_zero, Nat.zero_add, and_self, eq_self, Bool.false_eq_true, Nat.reduceLT, Nat.reduceLeDiff, Nat.reduceAdd, Nat.reduceEqDiff, Nat.reduceMul, Nat.reduceSub, Nat.reduceDiv, Nat.reduceMod, ub_and, b0, b1, ub_n, S.trk hT, e0]
theorem q_has0 (S : ShC h) (hT : T < 161) (C : CT h T s) (hk : s.length ≤ k) (hb : k < 2 ^ 31) : f_Tr_has F (ta T) (nI k) h = some (nI 0, h) := by
  have hl := C.1.len
  apply wp_out
  unfold f_Tr_has
  simp (disch := omega) only [wp_as, wp_ifp, wp_ifn, wp_some, wp_then, wp_bd, wp_ret, wp_optS, wp_optN, gk_wI, gz_wI, gR_wI, gk_wC, gz_wC, gR_wC, gk_wJ, gz_wJ, gR_wJ, lit, litL, bb, ite01, ite01n, nI_l, lN_add, lN_sub, in_eq, l_1, pk_lLT, pk_lEQ, lgl, lgg, lge, n64,  m8, m16, m24, m0, sh0, nI_add, pk_mul, nI_ltI, nI_leI, nI_eq, nI_clamp, pk_sub, pk_div, pk_rem, not_true_eq_false, not_false_eq_true, true_and, and_true, false_and, and_false, true_or, or_true, false_or, or_false, true_implies, false_implies, implies_true, if_true, if_false, Nat.not_lt_zero, Nat.add_zero, Nat.zero_add, and_self, eq_self, Bool.false_eq_true, Nat.reduceLT, Nat.reduceLeDiff, Nat.reduceAdd, Nat.reduceEqDiff, Nat.reduceMul, Nat.reduceSub, Nat.reduceDiv, Nat.reduceMod, ub_and, b0, b1, ub_n, S.trk hT, C.2.1]
theorem q_hasN {v : Int32} (q : v < nI 0) : f_Tr_has F (ta T) v h = some (nI 0, h) := by
  apply wp_out
  unfold f_Tr_has
  simp (disch := omega) only [wp_as, wp_ifp, wp_ifn, wp_some, wp_then, wp_bd, wp_ret, wp_optS, wp_optN, gk_wI, gz_wI, gR_wI, gk_wC, gz_wC, gR_wC, gk_wJ, gz_wJ, gR_wJ, lit, litL, bb, ite01, ite01n, nI_l, lN_add, lN_sub, in_eq, l_1, pk_lLT, pk_lEQ, lgl, lgg, lge, n64,  m8, m16, m24, m0, sh0, nI_add, pk_mul, nI_ltI, nI_leI, nI_eq, nI_clamp, pk_sub, pk_div, pk_rem, not_true_eq_false, not_false_eq_true, true_and, and_true, false_and, and_false, true_or, or_true, false_or, or_false, true_implies, false_implies, implies_true, if_true, if_false, Nat.not_lt_zero, Nat.add_zero, Nat.zero_add, and_self, eq_self, Bool.false_eq_true, Nat.reduceLT, Nat.reduceLeDiff, Nat.reduceAdd, Nat.reduceEqDiff, Nat.reduceMul, Nat.reduceSub, Nat.reduceDiv, Nat.reduceMod, ub_and, b0, b1, ub_n, q]
theorem q_records (S : ShC h) (hT : T < 161) (C : CT h T s) : f_Tr_records F (ta T) h = some (nI s.length, h) := by
  apply wp_out
  unfold f_Tr_records
  simp (disch := omega) only [wp_as, wp_ifp, wp_ifn, wp_some, wp_then, wp_bd, wp_ret, wp_optS, wp_optN, gk_wI, gz_wI, gR_wI, gk_wC, gz_wC, gR_wC, gk_wJ, gz_wJ, gR_wJ, lit, litL, bb, ite01, ite01n, nI_l, lN_add, lN_sub, in_eq, l_1, pk_lLT, pk_lEQ, lgl, lgg, lge, n64,  m8, m16, m24, m0, sh0, nI_add, pk_mul, nI_ltI, nI_leI, nI_eq, nI_clamp, pk_sub, pk_div, pk_rem, not_true_eq_false, not_false_eq_true, true_and, and_true, false_and, and_false, true_or, or_true, false_or, or_false, true_implies, false_implies, implies_true, if_true, if_false, Nat.not_lt_zero, Nat.add_zero, Nat.zero_add, and_self, eq_self, Bool.false_eq_true, Nat.reduceLT, Nat.reduceLeDiff, Nat.reduceAdd, Nat.reduceEqDiff, Nat.reduceMul, Nat.reduceSub, Nat.reduceDiv, Nat.reduceMod, ub_and, b0, b1, ub_n, S.trk hT, C.2.1]
theorem q_lastEnd (S : ShC h) (hT : T < 161) (C : CT h T s) : f_Tr_lastEnd F (ta T) h = some (nI (30 + ln s), h) := by
  have hl := C.1.len
  have e := C.2.2.1 s.length (by omega)
  rw [bg_len] at e
  apply wp_out
  unfold f_Tr_lastEnd
  simp (disch := omega) only [wp_as, wp_ifp, wp_ifn, wp_some, wp_then, wp_bd, wp_ret, wp_optS, wp_optN, gk_wI, gz_wI, gR_wI, gk_wC, gz_wC, gR_wC, gk_wJ, gz_wJ, gR_wJ, lit, litL, bb, ite01, ite01n, nI_l, lN_add, lN_sub, in_eq, l_1, pk_lLT, pk_lEQ, lgl, lgg, lge, n64,  m8, m16, m24, m0, sh0, nI_add, pk_mul, nI_ltI, nI_leI, nI_eq, nI_clamp, pk_sub, pk_div, pk_rem, not_true_eq_false, not_false_eq_true, true_and, and_true, false_and, and_false, true_or, or_true, false_or, or_false, true_implies, false_implies, implies_true, if_true, if_false, Nat.not_lt_zero, Nat.add_zero, Nat.zero_add, and_self, eq_self, Bool.false_eq_true, Nat.reduceLT, Nat.reduceLeDiff, Nat.reduceAdd, Nat.reduceEqDiff, Nat.reduceMul, Nat.reduceSub, Nat.reduceDiv, Nat.reduceMod, ub_and, b0, b1, ub_n, S.trk hT, C.2.1, e]
  omega
theorem q_room {b : Nat} (S : ShC h) (hT : T < 161) (C : CT h T s) (hb : b < 2 ^ 30) : f_Tr_hasRoom F (ta T) (nI b) h = some (if 30 + ln s + 30 + b ≤ 1500 then nI 1 else nI 0, h) := by
  have hl := C.1.len
  have g := C.1.1
  have e := C.2.2.1 s.length (by omega)
  rw [bg_len] at e
  apply wp_out
  unfold f_Tr_hasRoom
  simp (disch := omega) only [wp_as, wp_ifp, wp_ifn, wp_some, wp_then, wp_bd, wp_ret, wp_optS, wp_optN, gk_wI, gz_wI, gR_wI, gk_wC, gz_wC, gR_wC, gk_wJ, gz_wJ, gR_wJ, lit, litL, bb, ite01, ite01n, nI_l, lN_add, lN_sub, in_eq, l_1, pk_lLT, pk_lEQ, lgl, lgg, lge, n64,  m8, m16, m24, m0, sh0, nI_add, pk_mul, nI_ltI, nI_leI, nI_eq, nI_clamp, pk_sub, pk_div, pk_rem, not_true_eq_false, not_false_eq_true, true_and, and_true, false_and, and_false, true_or, or_true, false_or, or_false, true_implies, false_implies, implies_true, if_true, if_false, Nat.not_lt_zero, Nat.add_zero, Nat.zero_add, and_self, eq_self, Bool.false_eq_true, Nat.reduceLT, Nat.reduceLeDiff, Nat.reduceAdd, Nat.reduceEqDiff, Nat.reduceMul, Nat.reduceSub, Nat.reduceDiv, Nat.reduceMod, ub_and, b0, b1, ub_n, S.trk hT, C.2.1, e]
  refine ⟨by omega, ?_⟩
  refine wp_ite (fun q => ?_) (fun q => ?_)
  · simp (disch := omega) only [wp_as, wp_ifp, wp_ifn, wp_some, wp_then, wp_bd, wp_ret, wp_optS, wp_optN, gk_wI, gz_wI, gR_wI, gk_wC, gz_wC, gR_wC, gk_wJ, gz_wJ, gR_wJ, lit, litL, bb, ite01, ite01n, nI_l, lN_add, lN_sub, in_eq, l_1, pk_lLT, pk_lEQ, lgl, lgg, lge, n64,  m8, m16, m24, m0, sh0, nI_add, pk_mul, nI_ltI, nI_leI, nI_eq, nI_clamp, pk_sub, pk_div, pk_rem, not_true_eq_false, not_false_eq_true, true_and, and_true, false_and, and_false, true_or, or_true, false_or, or_false, true_implies, false_implies, implies_true, if_true, if_false, Nat.not_lt_zero, Nat.add_zero, Nat.zero_add, and_self, eq_self, Bool.false_eq_true, Nat.reduceLT, Nat.reduceLeDiff, Nat.reduceAdd, Nat.reduceEqDiff, Nat.reduceMul, Nat.reduceSub, Nat.reduceDiv, Nat.reduceMod, ub_and, b0, b1, ub_n]
    rw [if_neg (by omega)]
  · simp (disch := omega) only [wp_as, wp_ifp, wp_ifn, wp_some, wp_then, wp_bd, wp_ret, wp_optS, wp_optN, gk_wI, gz_wI, gR_wI, gk_wC, gz_wC, gR_wC, gk_wJ, gz_wJ, gR_wJ, lit, litL, bb, ite01, ite01n, nI_l, lN_add, lN_sub, in_eq, l_1, pk_lLT, pk_lEQ, lgl, lgg, lge, n64,  m8, m16, m24, m0, sh0, nI_add, pk_mul, nI_ltI, nI_leI, nI_eq, nI_clamp, pk_sub, pk_div, pk_rem, not_true_eq_false, not_false_eq_true, true_and, and_true, false_and, and_false, true_or, or_true, false_or, or_false, true_implies, false_implies, implies_true, if_true, if_false, Nat.not_lt_zero, Nat.add_zero, Nat.zero_add, and_self, eq_self, Bool.false_eq_true, Nat.reduceLT, Nat.reduceLeDiff, Nat.reduceAdd, Nat.reduceEqDiff, Nat.reduceMul, Nat.reduceSub, Nat.reduceDiv, Nat.reduceMod, ub_and, b0, b1, ub_n]
    rw [if_pos (by omega)]
theorem q_begin (S : ShC h) (hT : T < 161) (C : CT h T s) (hr : s[k]? = some r) : f_Tr_beginOf F (ta T) (nI k) h = some (nI (bg s k), h) := by
  obtain ⟨c, hk, hl, e0, e1, _⟩ := C.at hr
  apply wp_out
  unfold f_Tr_beginOf
  simp (disch := omega) only [wp_as, wp_ifp, wp_ifn, wp_some, wp_then, wp_bd, wp_ret, wp_optS, wp_optN, gk_wI, gz_wI, gR_wI, gk_wC, gz_wC, gR_wC, gk_wJ, gz_wJ, gR_wJ, lit, litL, bb, ite01, ite01n, nI_l, lN_add, lN_sub, in_eq, l_1, pk_lLT, pk_lEQ, lgl, lgg, lge, n64,  m8, m16, m24, m0, sh0, nI_add, pk_mul, nI_ltI, nI_leI, nI_eq, nI_clamp, pk_sub, pk_div, pk_rem, not_true_eq_false, not_false_eq_true, true_and, and_true, false_and, and_false, true_or, or_true, false_or, or_false, true_implies, false_implies, implies_true, if_true, if_false, Nat.not_lt_zero, Nat.add_zero, Nat.zero_add, and_self, eq_self, Bool.false_eq_true, Nat.reduceLT, Nat.reduceLeDiff, Nat.reduceAdd, Nat.reduceEqDiff, Nat.reduceMul, Nat.reduceSub, Nat.reduceDiv, Nat.reduceMod, ub_and, b0, b1, ub_n, S.trk hT, e0, e1]
  omega
theorem q_end (S : ShC h) (hT : T < 161) (C : CT h T s) (hr : s[k]? = some r) : f_Tr_endOf F (ta T) (nI k) h = some (nI (bg s k + 30 + rL r), h) := by
  obtain ⟨c, hk, hl, e0, e1, e2, _⟩ := C.at hr
  apply wp_out
  unfold f_Tr_endOf
  simp (disch := omega) only [wp_as, wp_ifp, wp_ifn, wp_some, wp_then, wp_bd, wp_ret, wp_optS, wp_optN, gk_wI, gz_wI, gR_wI, gk_wC, gz_wC, gR_wC, gk_wJ, gz_wJ, gR_wJ, lit, litL, bb, ite01, ite01n, nI_l, lN_add, lN_sub, in_eq, l_1, pk_lLT, pk_lEQ, lgl, lgg, lge, n64,  m8, m16, m24, m0, sh0, nI_add, pk_mul, nI_ltI, nI_leI, nI_eq, nI_clamp, pk_sub, pk_div, pk_rem, not_true_eq_false, not_false_eq_true, true_and, and_true, false_and, and_false, true_or, or_true, false_or, or_false, true_implies, false_implies, implies_true, if_true, if_false, Nat.not_lt_zero, Nat.add_zero, Nat.zero_add, and_self, eq_self, Bool.false_eq_true, Nat.reduceLT, Nat.reduceLeDiff, Nat.reduceAdd, Nat.reduceEqDiff, Nat.reduceMul, Nat.reduceSub, Nat.reduceDiv, Nat.reduceMod, ub_and, b0, b1, ub_n, S.trk hT, e0, q_has1 S hT C hr, e2]
  omega
theorem q_endN {v : Int32} (S : ShC h) (hT : T < 161) (q : v < nI 0) : f_Tr_endOf F (ta T) v h = some (nI 30, h) := by
  apply wp_out
  unfold f_Tr_endOf
  simp (disch := omega) only [wp_as, wp_ifp, wp_ifn, wp_some, wp_then, wp_bd, wp_ret, wp_optS, wp_optN, gk_wI, gz_wI, gR_wI, gk_wC, gz_wC, gR_wC, gk_wJ, gz_wJ, gR_wJ, lit, litL, bb, ite01, ite01n, nI_l, lN_add, lN_sub, in_eq, l_1, pk_lLT, pk_lEQ, lgl, lgg, lge, n64,  m8, m16, m24, m0, sh0, nI_add, pk_mul, nI_ltI, nI_leI, nI_eq, nI_clamp, pk_sub, pk_div, pk_rem, not_true_eq_false, not_false_eq_true, true_and, and_true, false_and, and_false, true_or, or_true, false_or, or_false, true_implies, false_implies, implies_true, if_true, if_false, Nat.not_lt_zero, Nat.add_zero, Nat.zero_add, and_self, eq_self, Bool.false_eq_true, Nat.reduceLT, Nat.reduceLeDiff, Nat.reduceAdd, Nat.reduceEqDiff, Nat.reduceMul, Nat.reduceSub, Nat.reduceDiv, Nat.reduceMod, ub_and, b0, b1, ub_n, S.trk hT, q_hasN q]
def cby (r : Rc) (i : Nat) : Nat := if i = 0 then rC r else if i = 1 then rH r else if i = 2 then rN r else if i = 3 then rK r else if i = 4 then rD r / 256 else rD r % 256
theorem q_count {i : Nat} (S : ShC h) (hT : T < 161) (C : CT h T s) (hr : s[k]? = some r) (hi : i < 6) : f_Tr_countByte F (ta T) (nI k) (nI i) h = some (nI (cby r i), h) := by
  obtain ⟨c, hk, hl, e0, e1, e2, e3, e4, e5, ⟨x0, x1, x2, x3, x4, x5, x6, x7⟩, hp, o0, o1, o2, o3, o4⟩ := C.at hr
  apply wp_out
  unfold f_Tr_countByte
  simp (disch := omega) only [wp_as, wp_ifp, wp_ifn, wp_some, wp_then, wp_bd, wp_ret, wp_optS, wp_optN, gk_wI, gz_wI, gR_wI, gk_wC, gz_wC, gR_wC, gk_wJ, gz_wJ, gR_wJ, lit, litL, bb, ite01, ite01n, nI_l, lN_add, lN_sub, in_eq, l_1, pk_lLT, pk_lEQ, lgl, lgg, lge, n64,  m8, m16, m24, m0, sh0, nI_add, pk_mul, nI_ltI, nI_leI, nI_eq, nI_clamp, pk_sub, pk_div, pk_rem, not_true_eq_false, not_false_eq_true, true_and, and_true, false_and, and_false, true_or, or_true, false_or, or_false, true_implies, false_implies, implies_true, if_true, if_false, Nat.not_lt_zero, Nat.add_zero, Nat.zero_add, and_self, eq_self, Bool.false_eq_true, Nat.reduceLT, Nat.reduceLeDiff, Nat.reduceAdd, Nat.reduceEqDiff, Nat.reduceMul, Nat.reduceSub, Nat.reduceDiv, Nat.reduceMod, ub_and, b0, b1, ub_n, S.trk hT, e0, e1, e3, e4, e5, q_has1 S hT C hr]
  refine ⟨by omega, by omega, ?_⟩
  have hi' : i = 0 ∨ i = 1 ∨ i = 2 ∨ i = 3 ∨ i = 4 ∨ i = 5 := by omega
  rcases hi' with rfl | rfl | rfl | rfl | rfl | rfl
  · rw [Nat.add_zero, x0, ub_and, ub_n, Nat.mod_eq_of_lt o0]; rfl
  · rw [x1, ub_and, ub_n, Nat.mod_eq_of_lt o1]; rfl
  · rw [x2, ub_and, ub_n, Nat.mod_eq_of_lt o2]; rfl
  · rw [x3, ub_and, ub_n, Nat.mod_eq_of_lt (by omega)]; rfl
  · rw [x4, ub_and, ub_n, Nat.mod_eq_of_lt (by omega)]; rfl
  · rw [x5, ub_and, ub_n]; rfl
theorem q_key (S : ShC h) (hT : T < 161) (C : CT h T s) (hr : s[k]? = some r) : f_Tr_keyLength F (ta T) (nI k) h = some (nI (rK r), h) := by
  apply wp_out
  unfold f_Tr_keyLength
  simp (disch := omega) only [wp_as, wp_ifp, wp_ifn, wp_some, wp_then, wp_bd, wp_ret, wp_optS, wp_optN, gk_wI, gz_wI, gR_wI, gk_wC, gz_wC, gR_wC, gk_wJ, gz_wJ, gR_wJ, lit, litL, bb, ite01, ite01n, nI_l, lN_add, lN_sub, in_eq, l_1, pk_lLT, pk_lEQ, lgl, lgg, lge, n64,  m8, m16, m24, m0, sh0, nI_add, pk_mul, nI_ltI, nI_leI, nI_eq, nI_clamp, pk_sub, pk_div, pk_rem, not_true_eq_false, not_false_eq_true, true_and, and_true, false_and, and_false, true_or, or_true, false_or, or_false, true_implies, false_implies, implies_true, if_true, if_false, Nat.not_lt_zero, Nat.add_zero, Nat.zero_add, and_self, eq_self, Bool.false_eq_true, Nat.reduceLT, Nat.reduceLeDiff, Nat.reduceAdd, Nat.reduceEqDiff, Nat.reduceMul, Nat.reduceSub, Nat.reduceDiv, Nat.reduceMod, ub_and, b0, b1, ub_n, S.trk hT, q_count S hT C hr]
  rfl
theorem q_data (S : ShC h) (hT : T < 161) (C : CT h T s) (hr : s[k]? = some r) : f_Tr_dataLength F (ta T) (nI k) h = some (nI (rD r), h) := by
  apply wp_out
  unfold f_Tr_dataLength
  simp (disch := omega) only [wp_as, wp_ifp, wp_ifn, wp_some, wp_then, wp_bd, wp_ret, wp_optS, wp_optN, gk_wI, gz_wI, gR_wI, gk_wC, gz_wC, gR_wC, gk_wJ, gz_wJ, gR_wJ, lit, litL, bb, ite01, ite01n, nI_l, lN_add, lN_sub, in_eq, l_1, pk_lLT, pk_lEQ, lgl, lgg, lge, n64,  m8, m16, m24, m0, sh0, nI_add, pk_mul, nI_ltI, nI_leI, nI_eq, nI_clamp, pk_sub, pk_div, pk_rem, not_true_eq_false, not_false_eq_true, true_and, and_true, false_and, and_false, true_or, or_true, false_or, or_false, true_implies, false_implies, implies_true, if_true, if_false, Nat.not_lt_zero, Nat.add_zero, Nat.zero_add, and_self, eq_self, Bool.false_eq_true, Nat.reduceLT, Nat.reduceLeDiff, Nat.reduceAdd, Nat.reduceEqDiff, Nat.reduceMul, Nat.reduceSub, Nat.reduceDiv, Nat.reduceMod, ub_and, b0, b1, ub_n, S.trk hT, q_count S hT C hr]
  have : cby r 4 * 256 + cby r 5 = rD r := by simp [cby]; omega
  rw [this]
theorem q_bytes (S : ShC h) (hT : T < 161) (C : CT h T s) (hr : s[k]? = some r) : f_Tr_bytes F (ta T) (nI k) h = some (nI (rL r), h) := by
  obtain ⟨c, hk, hl, e0, e1, e2, _⟩ := C.at hr
  apply wp_out
  unfold f_Tr_bytes
  simp (disch := omega) only [wp_as, wp_ifp, wp_ifn, wp_some, wp_then, wp_bd, wp_ret, wp_optS, wp_optN, gk_wI, gz_wI, gR_wI, gk_wC, gz_wC, gR_wC, gk_wJ, gz_wJ, gR_wJ, lit, litL, bb, ite01, ite01n, nI_l, lN_add, lN_sub, in_eq, l_1, pk_lLT, pk_lEQ, lgl, lgg, lge, n64,  m8, m16, m24, m0, sh0, nI_add, pk_mul, nI_ltI, nI_leI, nI_eq, nI_clamp, pk_sub, pk_div, pk_rem, not_true_eq_false, not_false_eq_true, true_and, and_true, false_and, and_false, true_or, or_true, false_or, or_false, true_implies, false_implies, implies_true, if_true, if_false, Nat.not_lt_zero, Nat.add_zero, Nat.zero_add, and_self, eq_self, Bool.false_eq_true, Nat.reduceLT, Nat.reduceLeDiff, Nat.reduceAdd, Nat.reduceEqDiff, Nat.reduceMul, Nat.reduceSub, Nat.reduceDiv, Nat.reduceMod, ub_and, b0, b1, ub_n, S.trk hT, e1, e2, q_has1 S hT C hr]
  refine ⟨by omega, by omega, ?_⟩
  have : bg s k + 30 + rL r - bg s k - 30 = rL r := by omega
  rw [this]
/-- byte i, or 0 -/
def rb (r : Rc) (i : Nat) : Nat := if i < rL r then ub (rX r i) else 0
theorem rb_lt (r : Rc) (i : Nat) : rb r i < 256 := by
  unfold rb
  split
  · exact ub_lt _
  · omega
theorem q_byteOf {i : Nat} (S : ShC h) (hT : T < 161) (C : CT h T s) (hr : s[k]? = some r) (hi : i < 2 ^ 30) : f_Tr_byteOf F (ta T) (nI k) (nI i) h = some (nI (rb r i), h) := by
  obtain ⟨c, hk, hl, e0, e1, e2, e3, e4, e5, ⟨x0, x1, x2, x3, x4, x5, x6, x7⟩, hp, _⟩ := C.at hr
  have e : bg s k + 30 + rL r - bg s k - 30 = rL r := by omega
  apply wp_out
  unfold f_Tr_byteOf
  simp (disch := omega) only [wp_as, wp_ifp, wp_ifn, wp_some, wp_then, wp_bd, wp_ret, wp_optS, wp_optN, gk_wI, gz_wI, gR_wI, gk_wC, gz_wC, gR_wC, gk_wJ, gz_wJ, gR_wJ, lit, litL, bb, ite01, ite01n, nI_l, lN_add, lN_sub, in_eq, l_1, pk_lLT, pk_lEQ, lgl, lgg, lge, n64,  m8, m16, m24, m0, sh0, nI_add, pk_mul, nI_ltI, nI_leI, nI_eq, nI_clamp, pk_sub, pk_div, pk_rem, not_true_eq_false, not_false_eq_true, true_and, and_true, false_and, and_false, true_or, or_true, false_or, or_false, true_implies, false_implies, implies_true, if_true, if_false, Nat.not_lt_zero, Nat.add_zero, Nat.zero_add, and_self, eq_self, Bool.false_eq_true, Nat.reduceLT, Nat.reduceLeDiff, Nat.reduceAdd, Nat.reduceEqDiff, Nat.reduceMul, Nat.reduceSub, Nat.reduceDiv, Nat.reduceMod, ub_and, b0, b1, ub_n, S.trk hT, e0, e1, e2, e3, e4, e5, q_has1 S hT C hr, e]
  refine ⟨by omega, by omega, ?_⟩
  refine wp_ite (fun q => ?_) (fun q => ?_)
  · simp (disch := omega) only [wp_as, wp_ifp, wp_ifn, wp_some, wp_then, wp_bd, wp_ret, wp_optS, wp_optN, gk_wI, gz_wI, gR_wI, gk_wC, gz_wC, gR_wC, gk_wJ, gz_wJ, gR_wJ, lit, litL, bb, ite01, ite01n, nI_l, lN_add, lN_sub, in_eq, l_1, pk_lLT, pk_lEQ, lgl, lgg, lge, n64,  m8, m16, m24, m0, sh0, nI_add, pk_mul, nI_ltI, nI_leI, nI_eq, nI_clamp, pk_sub, pk_div, pk_rem, not_true_eq_false, not_false_eq_true, true_and, and_true, false_and, and_false, true_or, or_true, false_or, or_false, true_implies, false_implies, implies_true, if_true, if_false, Nat.not_lt_zero, Nat.add_zero, Nat.zero_add, and_self, eq_self, Bool.false_eq_true, Nat.reduceLT, Nat.reduceLeDiff, Nat.reduceAdd, Nat.reduceEqDiff, Nat.reduceMul, Nat.reduceSub, Nat.reduceDiv, Nat.reduceMod, ub_and, b0, b1, ub_n, S.trk hT, e1, e3, e4, e5, x7 i q]
    refine ⟨by omega, by omega, ?_⟩
    rw [rb, if_pos q]
  · simp (disch := omega) only [wp_as, wp_ifp, wp_ifn, wp_some, wp_then, wp_bd, wp_ret, wp_optS, wp_optN, gk_wI, gz_wI, gR_wI, gk_wC, gz_wC, gR_wC, gk_wJ, gz_wJ, gR_wJ, lit, litL, bb, ite01, ite01n, nI_l, lN_add, lN_sub, in_eq, l_1, pk_lLT, pk_lEQ, lgl, lgg, lge, n64,  m8, m16, m24, m0, sh0, nI_add, pk_mul, nI_ltI, nI_leI, nI_eq, nI_clamp, pk_sub, pk_div, pk_rem, not_true_eq_false, not_false_eq_true, true_and, and_true, false_and, and_false, true_or, or_true, false_or, or_false, true_implies, false_implies, implies_true, if_true, if_false, Nat.not_lt_zero, Nat.add_zero, Nat.zero_add, and_self, eq_self, Bool.false_eq_true, Nat.reduceLT, Nat.reduceLeDiff, Nat.reduceAdd, Nat.reduceEqDiff, Nat.reduceMul, Nat.reduceSub, Nat.reduceDiv, Nat.reduceMod, ub_and, b0, b1, ub_n]
    rw [rb, if_neg q]
theorem q_pair {i : Nat} (S : ShC h) (hT : T < 161) (C : CT h T s) (hr : s[k]? = some r) (hi : i < 2 ^ 29) : f_Tr_pairOf F (ta T) (nI k) (nI i) h = some (nI (rb r i * 256 + rb r (i + 1)), h) := by
  apply wp_out
  unfold f_Tr_pairOf
  simp (disch := omega) only [wp_as, wp_ifp, wp_ifn, wp_some, wp_then, wp_bd, wp_ret, wp_optS, wp_optN, gk_wI, gz_wI, gR_wI, gk_wC, gz_wC, gR_wC, gk_wJ, gz_wJ, gR_wJ, lit, litL, bb, ite01, ite01n, nI_l, lN_add, lN_sub, in_eq, l_1, pk_lLT, pk_lEQ, lgl, lgg, lge, n64,  m8, m16, m24, m0, sh0, nI_add, pk_mul, nI_ltI, nI_leI, nI_eq, nI_clamp, pk_sub, pk_div, pk_rem, not_true_eq_false, not_false_eq_true, true_and, and_true, false_and, and_false, true_or, or_true, false_or, or_false, true_implies, false_implies, implies_true, if_true, if_false, Nat.not_lt_zero, Nat.add_zero, Nat.zero_add, and_self, eq_self, Bool.false_eq_true, Nat.reduceLT, Nat.reduceLeDiff, Nat.reduceAdd, Nat.reduceEqDiff, Nat.reduceMul, Nat.reduceSub, Nat.reduceDiv, Nat.reduceMod, ub_and, b0, b1, ub_n, S.trk hT, q_byteOf S hT C hr]
theorem q_spoiled (S : ShC h) (hT : T < 161) (C : CT h T s) (hr : s[k]? = some r) : f_Tr_isSpoiled F (ta T) (nI k) h = some (if rS r then nI 1 else nI 0, h) := by
  obtain ⟨c, hk, hl, e0, e1, e2, e3, e4, e5, ⟨x0, x1, x2, x3, x4, x5, x6, x7⟩, hp, _⟩ := C.at hr
  apply wp_out
  unfold f_Tr_isSpoiled
  simp (disch := omega) only [wp_as, wp_ifp, wp_ifn, wp_some, wp_then, wp_bd, wp_ret, wp_optS, wp_optN, gk_wI, gz_wI, gR_wI, gk_wC, gz_wC, gR_wC, gk_wJ, gz_wJ, gR_wJ, lit, litL, bb, ite01, ite01n, nI_l, lN_add, lN_sub, in_eq, l_1, pk_lLT, pk_lEQ, lgl, lgg, lge, n64,  m8, m16, m24, m0, sh0, nI_add, pk_mul, nI_ltI, nI_leI, nI_eq, nI_clamp, pk_sub, pk_div, pk_rem, not_true_eq_false, not_false_eq_true, true_and, and_true, false_and, and_false, true_or, or_true, false_or, or_false, true_implies, false_implies, implies_true, if_true, if_false, Nat.not_lt_zero, Nat.add_zero, Nat.zero_add, and_self, eq_self, Bool.false_eq_true, Nat.reduceLT, Nat.reduceLeDiff, Nat.reduceAdd, Nat.reduceEqDiff, Nat.reduceMul, Nat.reduceSub, Nat.reduceDiv, Nat.reduceMod, ub_and, b0, b1, ub_n, S.trk hT, e0, e1, e2, e3, e4, e5, q_has1 S hT C hr, x6]
  refine ⟨by omega, by omega, ?_⟩
  by_cases q : rS r = true
  · simp (disch := omega) only [wp_as, wp_ifp, wp_ifn, wp_some, wp_then, wp_bd, wp_ret, wp_optS, wp_optN, gk_wI, gz_wI, gR_wI, gk_wC, gz_wC, gR_wC, gk_wJ, gz_wJ, gR_wJ, lit, litL, bb, ite01, ite01n, nI_l, lN_add, lN_sub, in_eq, l_1, pk_lLT, pk_lEQ, lgl, lgg, lge, n64,  m8, m16, m24, m0, sh0, nI_add, pk_mul, nI_ltI, nI_leI, nI_eq, nI_clamp, pk_sub, pk_div, pk_rem, not_true_eq_false, not_false_eq_true, true_and, and_true, false_and, and_false, true_or, or_true, false_or, or_false, true_implies, false_implies, implies_true, if_true, if_false, Nat.not_lt_zero, Nat.add_zero, Nat.zero_add, and_self, eq_self, Bool.false_eq_true, Nat.reduceLT, Nat.reduceLeDiff, Nat.reduceAdd, Nat.reduceEqDiff, Nat.reduceMul, Nat.reduceSub, Nat.reduceDiv, Nat.reduceMod, ub_and, b0, b1, ub_n, q]
  · simp (disch := omega) only [wp_as, wp_ifp, wp_ifn, wp_some, wp_then, wp_bd, wp_ret, wp_optS, wp_optN, gk_wI, gz_wI, gR_wI, gk_wC, gz_wC, gR_wC, gk_wJ, gz_wJ, gR_wJ, lit, litL, bb, ite01, ite01n, nI_l, lN_add, lN_sub, in_eq, l_1, pk_lLT, pk_lEQ, lgl, lgg, lge, n64,  m8, m16, m24, m0, sh0, nI_add, pk_mul, nI_ltI, nI_leI, nI_eq, nI_clamp, pk_sub, pk_div, pk_rem, not_true_eq_false, not_false_eq_true, true_and, and_true, false_and, and_false, true_or, or_true, false_or, or_false, true_implies, false_implies, implies_true, if_true, if_false, Nat.not_lt_zero, Nat.add_zero, Nat.zero_add, and_self, eq_self, Bool.false_eq_true, Nat.reduceLT, Nat.reduceLeDiff, Nat.reduceAdd, Nat.reduceEqDiff, Nat.reduceMul, Nat.reduceSub, Nat.reduceDiv, Nat.reduceMod, ub_and, b0, b1, ub_n, q]
end
