/-! ===== the program's check ===== -/
variable {F : Nat} {h g : ck_H} {c : Nat → Nat → Int32}
abbrev sch (v : Int32) : Prop := v = nI 3 ∨ v = nI 4 ∨ v = nI 5 ∨ v = nI 6
def CC (h : ck_H) (c : Nat → Nat → Int32) : Prop := ∀ i f, i < 32 → f < 4 → gI h (337 + i) f = c i f
def RC (g : ck_H) (c : Nat → Nat → Int32) : Prop := ∀ i f, i < 32 → f < 4 → gI g (509 + f) i = c i f
theorem CMs.cc {m : Ms} (C : CMs h m) : CC h (mC m) := C.2.1
theorem RMs.cc {m : Ms} (C : RMs g m) : RC g (mC m) := C.2.1
def o1 (c : Nat → Nat → Int32) (i : Nat) : Int32 := if 1 ≤ i then c (i - 1) 0 else -1
def o2 (c : Nat → Nat → Int32) (i : Nat) : Int32 := if 2 ≤ i then c (i - 2) 0 else -1
theorem bit1 (v : Int32) : v &&& nI 1 = nI 0 ∨ v &&& nI 1 = nI 1 := by
  have e : (v &&& nI 1).toBitVec = if v.toBitVec.getLsbD 0 then BitVec.twoPow 32 0 else 0#32 := by
    rw [Int32.toBitVec_and, ← BitVec.and_twoPow]
    rfl
  by_cases q : v.toBitVec.getLsbD 0 = true
  · rw [if_pos q] at e
    exact Or.inr (Int32.toBitVec_inj.1 e)
  · rw [if_neg q] at e
    exact Or.inl (Int32.toBitVec_inj.1 e)
theorem bit2 (v : Int32) : v &&& nI 2 = nI 0 ∨ v &&& nI 2 = nI 2 := by
  have e : (v &&& nI 2).toBitVec = if v.toBitVec.getLsbD 1 then BitVec.twoPow 32 1 else 0#32 := by
    rw [Int32.toBitVec_and, ← BitVec.and_twoPow]
    rfl
  by_cases q : v.toBitVec.getLsbD 1 = true
  · rw [if_pos q] at e
    exact Or.inr (Int32.toBitVec_inj.1 e)
  · rw [if_neg q] at e
    exact Or.inl (Int32.toBitVec_inj.1 e)
theorem bit4 (v : Int32) : v &&& nI 4 = nI 0 ∨ v &&& nI 4 = nI 4 := by
  have e : (v &&& nI 4).toBitVec = if v.toBitVec.getLsbD 2 then BitVec.twoPow 32 2 else 0#32 := by
    rw [Int32.toBitVec_and, ← BitVec.and_twoPow]
    rfl
  by_cases q : v.toBitVec.getLsbD 2 = true
  · rw [if_pos q] at e
    exact Or.inr (Int32.toBitVec_inj.1 e)
  · rw [if_neg q] at e
    exact Or.inl (Int32.toBitVec_inj.1 e)
def fl (c : Nat → Nat → Int32) (i b : Nat) : Bool := decide (¬ c i 3 &&& nI b = nI 0)
def bI (b : Bool) : Int32 := if b then nI 1 else nI 0
theorem bI0 {b : Bool} : bI b = nI 0 ↔ b = false := by cases b <;> decide
theorem c_chains {i : Nat} (S : ShC h) (C : CC h c) (hi : i < 32) : f_Cm_chains F (337 + i) h = some (bI (fl c i 1), h) := by
  unfold f_Cm_chains bI fl
  apply wp_out
  by_cases q : c i 3 &&& nI 1 = nI 0 <;> simp (disch := omega) only [wp_as, wp_ifp, wp_ifn, wp_some, wp_then, wp_bd, wp_ret, wp_optS, wp_optN, gk_wI, gz_wI, gR_wI, gk_wC, gz_wC, gR_wC, gk_wJ, gz_wJ, gR_wJ, lit, litL, bb, ite01, ite01n, nI_l, lN_add, lN_sub, in_eq, l_1, pk_lLT, pk_lEQ, lgl, lgg, lge, n64,  m8, m16, m24, m0, sh0, nI_add, pk_mul, nI_ltI, nI_leI, nI_eq, nI_clamp, pk_sub, pk_div, pk_rem, not_true_eq_false, not_false_eq_true, true_and, and_true, false_and, and_false, true_or, or_true, false_or, or_false, true_implies, false_implies, implies_true, if_true, if_false, Nat.not_lt_zero, Nat.add_zero, Nat.zero_add, and_self, eq_self, Bool.false_eq_true, Nat.reduceLT, Nat.reduceLeDiff, Nat.reduceAdd, Nat.reduceEqDiff, Nat.reduceMul, Nat.reduceSub, Nat.reduceDiv, Nat.reduceMod, ub_and, b0, b1, ub_n, S.cmd hi, C i 3 hi (by decide), q, decide_true, decide_false]
theorem c_any {i : Nat} (S : ShC h) (C : CC h c) (hi : i < 32) : f_Cm_takesAny F (337 + i) h = some (bI (fl c i 2), h) := by
  unfold f_Cm_takesAny bI fl
  apply wp_out
  by_cases q : c i 3 &&& nI 2 = nI 0 <;> simp (disch := omega) only [wp_as, wp_ifp, wp_ifn, wp_some, wp_then, wp_bd, wp_ret, wp_optS, wp_optN, gk_wI, gz_wI, gR_wI, gk_wC, gz_wC, gR_wC, gk_wJ, gz_wJ, gR_wJ, lit, litL, bb, ite01, ite01n, nI_l, lN_add, lN_sub, in_eq, l_1, pk_lLT, pk_lEQ, lgl, lgg, lge, n64,  m8, m16, m24, m0, sh0, nI_add, pk_mul, nI_ltI, nI_leI, nI_eq, nI_clamp, pk_sub, pk_div, pk_rem, not_true_eq_false, not_false_eq_true, true_and, and_true, false_and, and_false, true_or, or_true, false_or, or_false, true_implies, false_implies, implies_true, if_true, if_false, Nat.not_lt_zero, Nat.add_zero, Nat.zero_add, and_self, eq_self, Bool.false_eq_true, Nat.reduceLT, Nat.reduceLeDiff, Nat.reduceAdd, Nat.reduceEqDiff, Nat.reduceMul, Nat.reduceSub, Nat.reduceDiv, Nat.reduceMod, ub_and, b0, b1, ub_n, S.cmd hi, C i 3 hi (by decide), q, decide_true, decide_false]
theorem c_drops {i : Nat} (S : ShC h) (C : CC h c) (hi : i < 32) : f_Cm_drops F (337 + i) h = some (bI (fl c i 4), h) := by
  unfold f_Cm_drops bI fl
  apply wp_out
  by_cases q : c i 3 &&& nI 4 = nI 0 <;> simp (disch := omega) only [wp_as, wp_ifp, wp_ifn, wp_some, wp_then, wp_bd, wp_ret, wp_optS, wp_optN, gk_wI, gz_wI, gR_wI, gk_wC, gz_wC, gR_wC, gk_wJ, gz_wJ, gR_wJ, lit, litL, bb, ite01, ite01n, nI_l, lN_add, lN_sub, in_eq, l_1, pk_lLT, pk_lEQ, lgl, lgg, lge, n64,  m8, m16, m24, m0, sh0, nI_add, pk_mul, nI_ltI, nI_leI, nI_eq, nI_clamp, pk_sub, pk_div, pk_rem, not_true_eq_false, not_false_eq_true, true_and, and_true, false_and, and_false, true_or, or_true, false_or, or_false, true_implies, false_implies, implies_true, if_true, if_false, Nat.not_lt_zero, Nat.add_zero, Nat.zero_add, and_self, eq_self, Bool.false_eq_true, Nat.reduceLT, Nat.reduceLeDiff, Nat.reduceAdd, Nat.reduceEqDiff, Nat.reduceMul, Nat.reduceSub, Nat.reduceDiv, Nat.reduceMod, ub_and, b0, b1, ub_n, S.cmd hi, C i 3 hi (by decide), q, decide_true, decide_false]
theorem r_chains {i : Nat} (S : ShR g) (C : RC g c) (hi : i < 32) : f_RM_chains F 496 (nI i) g = some (bI (fl c i 1), g) := by
  unfold f_RM_chains bI fl
  apply wp_out
  have e := C i 3 hi (by decide)
  rcases bit1 (c i 3) with q | q
  · simp (disch := omega) only [wp_as, wp_ifp, wp_ifn, wp_some, wp_then, wp_bd, wp_ret, wp_optS, wp_optN, gk_wI, gz_wI, gR_wI, gk_wC, gz_wC, gR_wC, gk_wJ, gz_wJ, gR_wJ, lit, litL, bb, ite01, ite01n, nI_l, lN_add, lN_sub, in_eq, l_1, pk_lLT, pk_lEQ, lgl, lgg, lge, n64,  m8, m16, m24, m0, sh0, nI_add, pk_mul, nI_ltI, nI_leI, nI_eq, nI_clamp, pk_sub, pk_div, pk_rem, not_true_eq_false, not_false_eq_true, true_and, and_true, false_and, and_false, true_or, or_true, false_or, or_false, true_implies, false_implies, implies_true, if_true, if_false, Nat.not_lt_zero, Nat.add_zero, Nat.zero_add, and_self, eq_self, Bool.false_eq_true, Nat.reduceLT, Nat.reduceLeDiff, Nat.reduceAdd, Nat.reduceEqDiff, Nat.reduceMul, Nat.reduceSub, Nat.reduceDiv, Nat.reduceMod, ub_and, b0, b1, ub_n, S.k, S.flags_, e, q, hi, decide_true, decide_false]
  · simp (disch := omega) only [wp_as, wp_ifp, wp_ifn, wp_some, wp_then, wp_bd, wp_ret, wp_optS, wp_optN, gk_wI, gz_wI, gR_wI, gk_wC, gz_wC, gR_wC, gk_wJ, gz_wJ, gR_wJ, lit, litL, bb, ite01, ite01n, nI_l, lN_add, lN_sub, in_eq, l_1, pk_lLT, pk_lEQ, lgl, lgg, lge, n64,  m8, m16, m24, m0, sh0, nI_add, pk_mul, nI_ltI, nI_leI, nI_eq, nI_clamp, pk_sub, pk_div, pk_rem, not_true_eq_false, not_false_eq_true, true_and, and_true, false_and, and_false, true_or, or_true, false_or, or_false, true_implies, false_implies, implies_true, if_true, if_false, Nat.not_lt_zero, Nat.add_zero, Nat.zero_add, and_self, eq_self, Bool.false_eq_true, Nat.reduceLT, Nat.reduceLeDiff, Nat.reduceAdd, Nat.reduceEqDiff, Nat.reduceMul, Nat.reduceSub, Nat.reduceDiv, Nat.reduceMod, ub_and, b0, b1, ub_n, S.k, S.flags_, e, q, hi, decide_true, decide_false]
theorem r_any {i : Nat} (S : ShR g) (C : RC g c) (hi : i < 32) : f_RM_isAny F 496 (nI i) g = some (bI (fl c i 2), g) := by
  unfold f_RM_isAny bI fl
  apply wp_out
  have e := C i 3 hi (by decide)
  rcases bit2 (c i 3) with q | q
  · simp (disch := omega) only [wp_as, wp_ifp, wp_ifn, wp_some, wp_then, wp_bd, wp_ret, wp_optS, wp_optN, gk_wI, gz_wI, gR_wI, gk_wC, gz_wC, gR_wC, gk_wJ, gz_wJ, gR_wJ, lit, litL, bb, ite01, ite01n, nI_l, lN_add, lN_sub, in_eq, l_1, pk_lLT, pk_lEQ, lgl, lgg, lge, n64,  m8, m16, m24, m0, sh0, nI_add, pk_mul, nI_ltI, nI_leI, nI_eq, nI_clamp, pk_sub, pk_div, pk_rem, not_true_eq_false, not_false_eq_true, true_and, and_true, false_and, and_false, true_or, or_true, false_or, or_false, true_implies, false_implies, implies_true, if_true, if_false, Nat.not_lt_zero, Nat.add_zero, Nat.zero_add, and_self, eq_self, Bool.false_eq_true, Nat.reduceLT, Nat.reduceLeDiff, Nat.reduceAdd, Nat.reduceEqDiff, Nat.reduceMul, Nat.reduceSub, Nat.reduceDiv, Nat.reduceMod, ub_and, b0, b1, ub_n, S.k, S.flags_, e, q, hi, decide_true, decide_false]
  · simp (disch := omega) only [wp_as, wp_ifp, wp_ifn, wp_some, wp_then, wp_bd, wp_ret, wp_optS, wp_optN, gk_wI, gz_wI, gR_wI, gk_wC, gz_wC, gR_wC, gk_wJ, gz_wJ, gR_wJ, lit, litL, bb, ite01, ite01n, nI_l, lN_add, lN_sub, in_eq, l_1, pk_lLT, pk_lEQ, lgl, lgg, lge, n64,  m8, m16, m24, m0, sh0, nI_add, pk_mul, nI_ltI, nI_leI, nI_eq, nI_clamp, pk_sub, pk_div, pk_rem, not_true_eq_false, not_false_eq_true, true_and, and_true, false_and, and_false, true_or, or_true, false_or, or_false, true_implies, false_implies, implies_true, if_true, if_false, Nat.not_lt_zero, Nat.add_zero, Nat.zero_add, and_self, eq_self, Bool.false_eq_true, Nat.reduceLT, Nat.reduceLeDiff, Nat.reduceAdd, Nat.reduceEqDiff, Nat.reduceMul, Nat.reduceSub, Nat.reduceDiv, Nat.reduceMod, ub_and, b0, b1, ub_n, S.k, S.flags_, e, q, hi, decide_true, decide_false]
theorem r_drops {i : Nat} (S : ShR g) (C : RC g c) (hi : i < 32) : f_RM_drops F 496 (nI i) g = some (bI (fl c i 4), g) := by
  unfold f_RM_drops bI fl
  apply wp_out
  have e := C i 3 hi (by decide)
  rcases bit4 (c i 3) with q | q
  · simp (disch := omega) only [wp_as, wp_ifp, wp_ifn, wp_some, wp_then, wp_bd, wp_ret, wp_optS, wp_optN, gk_wI, gz_wI, gR_wI, gk_wC, gz_wC, gR_wC, gk_wJ, gz_wJ, gR_wJ, lit, litL, bb, ite01, ite01n, nI_l, lN_add, lN_sub, in_eq, l_1, pk_lLT, pk_lEQ, lgl, lgg, lge, n64,  m8, m16, m24, m0, sh0, nI_add, pk_mul, nI_ltI, nI_leI, nI_eq, nI_clamp, pk_sub, pk_div, pk_rem, not_true_eq_false, not_false_eq_true, true_and, and_true, false_and, and_false, true_or, or_true, false_or, or_false, true_implies, false_implies, implies_true, if_true, if_false, Nat.not_lt_zero, Nat.add_zero, Nat.zero_add, and_self, eq_self, Bool.false_eq_true, Nat.reduceLT, Nat.reduceLeDiff, Nat.reduceAdd, Nat.reduceEqDiff, Nat.reduceMul, Nat.reduceSub, Nat.reduceDiv, Nat.reduceMod, ub_and, b0, b1, ub_n, S.k, S.flags_, e, q, hi, decide_true, decide_false]
  · simp (disch := omega) only [wp_as, wp_ifp, wp_ifn, wp_some, wp_then, wp_bd, wp_ret, wp_optS, wp_optN, gk_wI, gz_wI, gR_wI, gk_wC, gz_wC, gR_wC, gk_wJ, gz_wJ, gR_wJ, lit, litL, bb, ite01, ite01n, nI_l, lN_add, lN_sub, in_eq, l_1, pk_lLT, pk_lEQ, lgl, lgg, lge, n64,  m8, m16, m24, m0, sh0, nI_add, pk_mul, nI_ltI, nI_leI, nI_eq, nI_clamp, pk_sub, pk_div, pk_rem, not_true_eq_false, not_false_eq_true, true_and, and_true, false_and, and_false, true_or, or_true, false_or, or_false, true_implies, false_implies, implies_true, if_true, if_false, Nat.not_lt_zero, Nat.add_zero, Nat.zero_add, and_self, eq_self, Bool.false_eq_true, Nat.reduceLT, Nat.reduceLeDiff, Nat.reduceAdd, Nat.reduceEqDiff, Nat.reduceMul, Nat.reduceSub, Nat.reduceDiv, Nat.reduceMod, ub_and, b0, b1, ub_n, S.k, S.flags_, e, q, hi, decide_true, decide_false]
theorem r_sch (a : Nat) (v : Int32) : f_RM_isSearch F a v h = some (if sch v then nI 1 else nI 0, h) := by
  unfold f_RM_isSearch
  by_cases q3 : v = (3 : Int32)
  · rw [if_pos q3, if_pos (show sch v from Or.inl q3)]
    rfl
  by_cases q4 : v = (4 : Int32)
  · rw [if_neg q3, if_pos q4, if_pos (show sch v from Or.inr (Or.inl q4))]
    rfl
  by_cases q5 : v = (5 : Int32)
  · rw [if_neg q3, if_neg q4, if_pos q5, if_pos (show sch v from Or.inr (Or.inr (Or.inl q5)))]
    rfl
  by_cases q6 : v = (6 : Int32)
  · rw [if_neg q3, if_neg q4, if_neg q5, if_pos q6, if_pos (show sch v from Or.inr (Or.inr (Or.inr q6)))]
    rfl
  have ns : ¬ sch v := by
    rintro (q | q | q | q)
    · exact q3 q
    · exact q4 q
    · exact q5 q
    · exact q6 q
  rw [if_neg q3, if_neg q4, if_neg q5, if_neg q6, if_neg ns]
  rfl
theorem c_sch (v : Int32) : f_Ch_isSearch F v h = some (if sch v then nI 1 else nI 0, h) := by
  unfold f_Ch_isSearch
  by_cases q : sch v
  · rw [if_pos q]
    rcases q with rfl | rfl | rfl | rfl <;> rfl
  · rw [if_neg q]
    by_cases q3 : v < (3 : Int32)
    · rw [if_pos q3]
      rfl
    by_cases q6 : (6 : Int32) < v
    · rw [if_neg q3, if_pos q6]
      rfl
    exfalso
    rw [Int32.lt_iff_toInt_lt, show (3 : Int32).toInt = 3 from by decide] at q3
    rw [Int32.lt_iff_toInt_lt, show (6 : Int32).toInt = 6 from by decide] at q6
    apply q
    have : v.toInt = 3 ∨ v.toInt = 4 ∨ v.toInt = 5 ∨ v.toInt = 6 := by omega
    rcases this with e | e | e | e
    · exact Or.inl (Int32.toInt_inj.1 (by rw [e]; decide))
    · exact Or.inr (Or.inl (Int32.toInt_inj.1 (by rw [e]; decide)))
    · exact Or.inr (Or.inr (Or.inl (Int32.toInt_inj.1 (by rw [e]; decide))))
    · exact Or.inr (Or.inr (Or.inr (Int32.toInt_inj.1 (by rw [e]; decide))))
theorem m1_lt : nI 0 - nI 1 < nI 0 := by decide
theorem m2_lt : nI 0 - nI 2 < nI 0 := by decide
theorem m3_lt : nI 1 - nI 2 < nI 0 := by decide
theorem c_opAt {i : Nat} (S : ShC h) (C : CC h c) (hi : i < 32) : f_Ch_opAt F 334 (nI i) h = some (c i 0, h) := by
  unfold f_Ch_opAt
  apply wp_out
  simp (disch := omega) only [wp_as, wp_ifp, wp_ifn, wp_some, wp_then, wp_bd, wp_ret, wp_optS, wp_optN, gk_wI, gz_wI, gR_wI, gk_wC, gz_wC, gR_wC, gk_wJ, gz_wJ, gR_wJ, lit, litL, bb, ite01, ite01n, nI_l, lN_add, lN_sub, in_eq, l_1, pk_lLT, pk_lEQ, lgl, lgg, lge, n64,  m8, m16, m24, m0, sh0, nI_add, pk_mul, nI_ltI, nI_leI, nI_eq, nI_clamp, pk_sub, pk_div, pk_rem, not_true_eq_false, not_false_eq_true, true_and, and_true, false_and, and_false, true_or, or_true, false_or, or_false, true_implies, false_implies, implies_true, if_true, if_false, Nat.not_lt_zero, Nat.add_zero, Nat.zero_add, and_self, eq_self, Bool.false_eq_true, Nat.reduceLT, Nat.reduceLeDiff, Nat.reduceAdd, Nat.reduceEqDiff, Nat.reduceMul, Nat.reduceSub, Nat.reduceDiv, Nat.reduceMod, ub_and, b0, b1, ub_n, S.chan, S.cmd hi, C i 0 hi (by decide), hi]
theorem c_opAtN {v : Int32} (q : v < nI 0) : f_Ch_opAt F 334 v h = some (-1, h) := by
  unfold f_Ch_opAt
  exact if_pos q
theorem c_o1 {i : Nat} (S : ShC h) (C : CC h c) (hi : i < 32) : f_Ch_opAt F 334 (nI i - nI 1) h = some (o1 c i, h) := by
  unfold o1
  by_cases q : 1 ≤ i
  · rw [if_pos q, pk_sub (by omega), c_opAt S C (by omega)]
  · have : i = 0 := by omega
    subst this
    rw [if_neg q, c_opAtN m1_lt]
theorem c_o2 {i : Nat} (S : ShC h) (C : CC h c) (hi : i < 32) : f_Ch_opAt F 334 (nI i - nI 2) h = some (o2 c i, h) := by
  unfold o2
  by_cases q : 2 ≤ i
  · rw [if_pos q, pk_sub (by omega), c_opAt S C (by omega)]
  · have : i = 0 ∨ i = 1 := by omega
    rcases this with rfl | rfl
    · rw [if_neg q, c_opAtN m2_lt]
    · rw [if_neg q, c_opAtN m3_lt]
theorem c_lead {i : Nat} (S : ShC h) (C : CC h c) (hi : i < 32) : f_Ch_leaderOf F 334 (nI i) h = some (if o1 c i = nI 7 then o2 c i else -1, h) := by
  unfold f_Ch_leaderOf
  rw [x_as S.chan.1]
  show ck_bd (f_Ch_opAt F 334 (nI i - nI 1) h) _ = _
  rw [c_o1 S C hi, x_bd]
  by_cases q : o1 c i = (7 : Int32)
  · rw [if_pos q]
    show _ = some (if o1 c i = 7 then o2 c i else -1, h)
    rw [if_pos q, x_as S.chan.1]
    show ck_bd (f_Ch_opAt F 334 (nI i - nI 2) h) _ = _
    rw [c_o2 S C hi, x_bd]
  · rw [if_neg q]
    show _ = some (if o1 c i = 7 then o2 c i else -1, h)
    rw [if_neg q]
theorem r_lead {i : Nat} (S : ShR g) (C : RC g c) (hi : i < 32) : f_RM_leader F 496 (nI i) g = some (if o1 c i = nI 7 ∧ sch (o2 c i) then o2 c i else nI 0, g) := by
  unfold f_RM_leader o1 o2
  apply wp_out
  by_cases q : 2 ≤ i
  · have e1 := C (i - 1) 0 (by omega) (by decide)
    have e2 := C (i - 2) 0 (by omega) (by decide)
    have q1 : 1 ≤ i := by omega
    by_cases q7 : c (i - 1) 0 = nI 7
    · by_cases qs : sch (c (i - 2) 0)
      · simp (disch := omega) only [wp_as, wp_ifp, wp_ifn, wp_some, wp_then, wp_bd, wp_ret, wp_optS, wp_optN, gk_wI, gz_wI, gR_wI, gk_wC, gz_wC, gR_wC, gk_wJ, gz_wJ, gR_wJ, lit, litL, bb, ite01, ite01n, nI_l, lN_add, lN_sub, in_eq, l_1, pk_lLT, pk_lEQ, lgl, lgg, lge, n64,  m8, m16, m24, m0, sh0, nI_add, pk_mul, nI_ltI, nI_leI, nI_eq, nI_clamp, pk_sub, pk_div, pk_rem, not_true_eq_false, not_false_eq_true, true_and, and_true, false_and, and_false, true_or, or_true, false_or, or_false, true_implies, false_implies, implies_true, if_true, if_false, Nat.not_lt_zero, Nat.add_zero, Nat.zero_add, and_self, eq_self, Bool.false_eq_true, Nat.reduceLT, Nat.reduceLeDiff, Nat.reduceAdd, Nat.reduceEqDiff, Nat.reduceMul, Nat.reduceSub, Nat.reduceDiv, Nat.reduceMod, ub_and, b0, b1, ub_n, S.k, S.ops_, e1, e2, q, q1, q7, r_sch, qs]
        omega
      · simp (disch := omega) only [wp_as, wp_ifp, wp_ifn, wp_some, wp_then, wp_bd, wp_ret, wp_optS, wp_optN, gk_wI, gz_wI, gR_wI, gk_wC, gz_wC, gR_wC, gk_wJ, gz_wJ, gR_wJ, lit, litL, bb, ite01, ite01n, nI_l, lN_add, lN_sub, in_eq, l_1, pk_lLT, pk_lEQ, lgl, lgg, lge, n64,  m8, m16, m24, m0, sh0, nI_add, pk_mul, nI_ltI, nI_leI, nI_eq, nI_clamp, pk_sub, pk_div, pk_rem, not_true_eq_false, not_false_eq_true, true_and, and_true, false_and, and_false, true_or, or_true, false_or, or_false, true_implies, false_implies, implies_true, if_true, if_false, Nat.not_lt_zero, Nat.add_zero, Nat.zero_add, and_self, eq_self, Bool.false_eq_true, Nat.reduceLT, Nat.reduceLeDiff, Nat.reduceAdd, Nat.reduceEqDiff, Nat.reduceMul, Nat.reduceSub, Nat.reduceDiv, Nat.reduceMod, ub_and, b0, b1, ub_n, S.k, S.ops_, e1, e2, q, q1, q7, r_sch, qs]
        omega
    · simp (disch := omega) only [wp_as, wp_ifp, wp_ifn, wp_some, wp_then, wp_bd, wp_ret, wp_optS, wp_optN, gk_wI, gz_wI, gR_wI, gk_wC, gz_wC, gR_wC, gk_wJ, gz_wJ, gR_wJ, lit, litL, bb, ite01, ite01n, nI_l, lN_add, lN_sub, in_eq, l_1, pk_lLT, pk_lEQ, lgl, lgg, lge, n64,  m8, m16, m24, m0, sh0, nI_add, pk_mul, nI_ltI, nI_leI, nI_eq, nI_clamp, pk_sub, pk_div, pk_rem, not_true_eq_false, not_false_eq_true, true_and, and_true, false_and, and_false, true_or, or_true, false_or, or_false, true_implies, false_implies, implies_true, if_true, if_false, Nat.not_lt_zero, Nat.add_zero, Nat.zero_add, and_self, eq_self, Bool.false_eq_true, Nat.reduceLT, Nat.reduceLeDiff, Nat.reduceAdd, Nat.reduceEqDiff, Nat.reduceMul, Nat.reduceSub, Nat.reduceDiv, Nat.reduceMod, ub_and, b0, b1, ub_n, S.k, S.ops_, e1, e2, q, q1, q7, r_sch]
      omega
  · have : ¬ sch (-nI 1) := by decide
    simp (disch := omega) only [wp_as, wp_ifp, wp_ifn, wp_some, wp_then, wp_bd, wp_ret, wp_optS, wp_optN, gk_wI, gz_wI, gR_wI, gk_wC, gz_wC, gR_wC, gk_wJ, gz_wJ, gR_wJ, lit, litL, bb, ite01, ite01n, nI_l, lN_add, lN_sub, in_eq, l_1, pk_lLT, pk_lEQ, lgl, lgg, lge, n64,  m8, m16, m24, m0, sh0, nI_add, pk_mul, nI_ltI, nI_leI, nI_eq, nI_clamp, pk_sub, pk_div, pk_rem, not_true_eq_false, not_false_eq_true, true_and, and_true, false_and, and_false, true_or, or_true, false_or, or_false, true_implies, false_implies, implies_true, if_true, if_false, Nat.not_lt_zero, Nat.add_zero, Nat.zero_add, and_self, eq_self, Bool.false_eq_true, Nat.reduceLT, Nat.reduceLeDiff, Nat.reduceAdd, Nat.reduceEqDiff, Nat.reduceMul, Nat.reduceSub, Nat.reduceDiv, Nat.reduceMod, ub_and, b0, b1, ub_n, q, this]
/-! a run step by step -/
theorem wp_asI {α : Type} {c : Prop} [Decidable c] {k : Option (α × ck_H)} {P : α → ck_H → Prop} (hc : c) (w : wp k P) : wp (ck_as c k) P := wp_as.2 ⟨hc, w⟩
theorem wp_ifI {α : Type} {c : Prop} [Decidable c] {a b : Option (α × ck_H)} {P : α → ck_H → Prop} (hc : c) (w : wp a P) : wp (if c then a else b) P := (wp_ifp hc).2 w
theorem wp_inI {α : Type} {c : Prop} [Decidable c] {a b : Option (α × ck_H)} {P : α → ck_H → Prop} (hc : ¬ c) (w : wp b P) : wp (if c then a else b) P := (wp_ifn hc).2 w
theorem wp_someI {α : Type} {o : Option Nat} {x : Nat} {k : Nat → Option (α × ck_H)} {P : α → ck_H → Prop} (e : o = some x) (w : wp (k x) P) : wp (ck_some o k) P := by
  rw [e]
  exact w
theorem wp_optI {α : Type} {o : Option Nat} {x : Nat} {a : Option (α × ck_H)} {k : Nat → Option (α × ck_H)} {P : α → ck_H → Prop} (e : o = some x) (w : wp (k x) P) : wp (ck_opt o a k) P := by
  rw [e]
  exact w
theorem wp_bdI {α β : Type} {x : Option (β × ck_H)} {r : β} {h : ck_H} {k : β → ck_H → Option (α × ck_H)} {P : α → ck_H → Prop} (e : x = some (r, h)) (w : wp (k r h) P) : wp (ck_bd x k) P := by
  rw [e]
  exact w
