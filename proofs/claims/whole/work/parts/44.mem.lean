/-! ===== memory, commands, registers, time, arms ===== -/
/-- memory; commands; status, residual, endedAt, begun; time; arms -/
abbrev Ms : Type := (Nat → Int8) × (Nat → Nat → Int32) × (Nat → Int32) × Nat × (Nat → Nat → Nat)
def mM (m : Ms) : Nat → Int8 := m.1
def mC (m : Ms) : Nat → Nat → Int32 := m.2.1
def mR (m : Ms) : Nat → Int32 := m.2.2.1
def mT (m : Ms) : Nat := m.2.2.2.1
def mA (m : Ms) : Nat → Nat → Nat := m.2.2.2.2
def CMs (h : ck_H) (m : Ms) : Prop := (∀ i, i < 2048 → gI h 335 i = (mM m i).toInt32) ∧ (∀ i f, i < 32 → f < 4 → gI h (337 + i) f = mC m i f) ∧ (∀ k, k < 4 → gI h 334 (8 + k) = mR m k) ∧ gJ h 334 7 = lN (mT m) ∧ (∀ u w, u < 2 → w < 2 → gI h (ua u) (1 + w) = nI (mA m u w))
def RMs (h : ck_H) (m : Ms) : Prop := (∀ i, i < 2048 → gI h 508 i = (mM m i).toInt32) ∧ (∀ i f, i < 32 → f < 4 → gI h (509 + f) i = mC m i f) ∧ (∀ k, k < 4 → gI h 496 (22 + k) = mR m k) ∧ gJ h 496 21 = lN (mT m) ∧ (∀ u w, u < 2 → w < 2 → gI h (513 + w) u = nI (mA m u w))
def IMs (m : Ms) : Prop := mT m < 2 ^ 60 ∧ ∀ u, u < 2 → mA m u 0 < 20 ∧ mA m u 1 < 4
def wM : Wd := fun a _ => (334 ≤ a && a ≤ 368) || a == 10 || a == 172
def rM : Wd := fun a i => (508 ≤ a && a ≤ 514) || (a == 496 && 21 ≤ i && i ≤ 31)
theorem CMs.ch {W : Wd} {h h' : ck_H} {m : Ms} (R : CMs h m) (c : Ch W h h') (w : ∀ a i, wM a i = true → W a i = false) : CMs h' m := by
  obtain ⟨r1, r2, r3, r4, r5⟩ := R
  refine ⟨fun i hi => ?_, fun i f hi hf => ?_, fun k hk => ?_, ?_, fun u x hu hx => ?_⟩
  · rw [c.gI (w _ _ rfl), r1 i hi]
  · rw [c.gI (w _ _ (by simp [wM]; omega)), r2 i f hi hf]
  · rw [c.gI (w _ _ rfl), r3 k hk]
  · rw [c.gJ (w _ _ rfl), r4]
  · have : u = 0 ∨ u = 1 := by omega
    rw [c.gI (w _ _ (by rcases this with rfl | rfl <;> rfl)), r5 u x hu hx]
theorem RMs.ch {W : Wd} {h h' : ck_H} {m : Ms} (R : RMs h m) (c : Ch W h h') (w : ∀ a i, rM a i = true → W a i = false) : RMs h' m := by
  obtain ⟨r1, r2, r3, r4, r5⟩ := R
  refine ⟨fun i hi => ?_, fun i f hi hf => ?_, fun k hk => ?_, ?_, fun u x hu hx => ?_⟩
  · rw [c.gI (w _ _ rfl), r1 i hi]
  · rw [c.gI (w _ _ (by simp [rM]; omega)), r2 i f hi hf]
  · rw [c.gI (w _ _ (by simp [rM]; omega)), r3 k hk]
  · rw [c.gJ (w _ _ rfl), r4]
  · rw [c.gI (w _ _ (by simp [rM]; omega)), r5 u x hu hx]
/-! memory -/
def aMem (m : Ms) (v : Int32) : Int32 := if v < nI 0 ∨ ¬ v < nI 2048 then -2 else (mM m v.toNatClampNeg).toInt32 &&& nI 255
theorem c_memory {F : Nat} {v : Int32} {h : ck_H} {m : Ms} (S : ShC h) (C : CMs h m) {P : Int32 → ck_H → Prop} (k : P (aMem m v) h) : wp (f_CS_memory F 0 v h) P := by
  unfold f_CS_memory f_Ch_byteAt
  unfold aMem at k
  rcases ng v with q | ⟨j, hj, rfl⟩
  · rw [if_pos (Or.inl q)] at k
    simp (disch := omega) only [wp_as, wp_ifp, wp_ifn, wp_some, wp_then, wp_bd, wp_ret, wp_optS, wp_optN, gk_wI, gz_wI, gR_wI, gk_wC, gz_wC, gR_wC, gk_wJ, gz_wJ, gR_wJ, lit, litL, bb, ite01, ite01n, nI_l, lN_add, lN_sub, in_eq, l_1, pk_lLT, pk_lEQ, lgl, lgg, lge, n64, m8, m16, m24, m0, sh0, nI_add, pk_mul, nI_ltI, nI_leI, nI_eq, nI_clamp, pk_sub, pk_div, pk_rem, not_true_eq_false, not_false_eq_true, true_and, and_true, false_and, and_false, true_or, or_true, false_or, or_false, true_implies, false_implies, implies_true, if_true, if_false, Nat.not_lt_zero, Nat.add_zero, Nat.zero_add, and_self, eq_self, Nat.reduceLT, Nat.reduceLeDiff, Nat.reduceAdd, Nat.reduceEqDiff, Nat.reduceMul, Nat.reduceSub, Nat.reduceDiv, Nat.reduceMod, S.obj, S.chan, q]
    exact k
  · simp (disch := omega) only [wp_as, wp_ifp, wp_ifn, wp_some, wp_then, wp_bd, wp_ret, wp_optS, wp_optN, gk_wI, gz_wI, gR_wI, gk_wC, gz_wC, gR_wC, gk_wJ, gz_wJ, gR_wJ, lit, litL, bb, ite01, ite01n, nI_l, lN_add, lN_sub, in_eq, l_1, pk_lLT, pk_lEQ, lgl, lgg, lge, n64, m8, m16, m24, m0, sh0, nI_add, pk_mul, nI_ltI, nI_leI, nI_eq, nI_clamp, pk_sub, pk_div, pk_rem, not_true_eq_false, not_false_eq_true, true_and, and_true, false_and, and_false, true_or, or_true, false_or, or_false, true_implies, false_implies, implies_true, if_true, if_false, Nat.not_lt_zero, Nat.add_zero, Nat.zero_add, and_self, eq_self, Nat.reduceLT, Nat.reduceLeDiff, Nat.reduceAdd, Nat.reduceEqDiff, Nat.reduceMul, Nat.reduceSub, Nat.reduceDiv, Nat.reduceMod, S.obj, S.chan]
    refine wp_ite (fun q => ?_) (fun q => ?_)
    · rw [if_neg (by simp (disch := omega) only [lit, litL, bb, ite01, ite01n, nI_l, lN_add, lN_sub, in_eq, l_1, pk_lLT, pk_lEQ, lgl, lgg, lge, n64, m8, m16, m24, m0, sh0, nI_add, pk_mul, nI_ltI, nI_leI, nI_eq, nI_clamp, pk_sub, pk_div, pk_rem, not_true_eq_false, not_false_eq_true, true_and, and_true, false_and, and_false, true_or, or_true, false_or, or_false, true_implies, false_implies, implies_true, if_true, if_false, Nat.not_lt_zero, Nat.add_zero, Nat.zero_add, and_self, eq_self, Nat.reduceLT, Nat.reduceLeDiff, Nat.reduceAdd, Nat.reduceEqDiff, Nat.reduceMul, Nat.reduceSub, Nat.reduceDiv, Nat.reduceMod]; omega), nI_clamp hj, ← C.1 j q] at k
      simp (disch := omega) only [wp_as, wp_ifp, wp_ifn, wp_some, wp_then, wp_bd, wp_ret, wp_optS, wp_optN, gk_wI, gz_wI, gR_wI, gk_wC, gz_wC, gR_wC, gk_wJ, gz_wJ, gR_wJ, lit, litL, bb, ite01, ite01n, nI_l, lN_add, lN_sub, in_eq, l_1, pk_lLT, pk_lEQ, lgl, lgg, lge, n64, m8, m16, m24, m0, sh0, nI_add, pk_mul, nI_ltI, nI_leI, nI_eq, nI_clamp, pk_sub, pk_div, pk_rem, not_true_eq_false, not_false_eq_true, true_and, and_true, false_and, and_false, true_or, or_true, false_or, or_false, true_implies, false_implies, implies_true, if_true, if_false, Nat.not_lt_zero, Nat.add_zero, Nat.zero_add, and_self, eq_self, Nat.reduceLT, Nat.reduceLeDiff, Nat.reduceAdd, Nat.reduceEqDiff, Nat.reduceMul, Nat.reduceSub, Nat.reduceDiv, Nat.reduceMod, S.obj, S.chan]
      exact ⟨q, k⟩
    · rw [if_pos (by simp (disch := omega) only [lit, litL, bb, ite01, ite01n, nI_l, lN_add, lN_sub, in_eq, l_1, pk_lLT, pk_lEQ, lgl, lgg, lge, n64, m8, m16, m24, m0, sh0, nI_add, pk_mul, nI_ltI, nI_leI, nI_eq, nI_clamp, pk_sub, pk_div, pk_rem, not_true_eq_false, not_false_eq_true, true_and, and_true, false_and, and_false, true_or, or_true, false_or, or_false, true_implies, false_implies, implies_true, if_true, if_false, Nat.not_lt_zero, Nat.add_zero, Nat.zero_add, and_self, eq_self, Nat.reduceLT, Nat.reduceLeDiff, Nat.reduceAdd, Nat.reduceEqDiff, Nat.reduceMul, Nat.reduceSub, Nat.reduceDiv, Nat.reduceMod]; omega)] at k
      simp (disch := omega) only [wp_as, wp_ifp, wp_ifn, wp_some, wp_then, wp_bd, wp_ret, wp_optS, wp_optN, gk_wI, gz_wI, gR_wI, gk_wC, gz_wC, gR_wC, gk_wJ, gz_wJ, gR_wJ, lit, litL, bb, ite01, ite01n, nI_l, lN_add, lN_sub, in_eq, l_1, pk_lLT, pk_lEQ, lgl, lgg, lge, n64, m8, m16, m24, m0, sh0, nI_add, pk_mul, nI_ltI, nI_leI, nI_eq, nI_clamp, pk_sub, pk_div, pk_rem, not_true_eq_false, not_false_eq_true, true_and, and_true, false_and, and_false, true_or, or_true, false_or, or_false, true_implies, false_implies, implies_true, if_true, if_false, Nat.not_lt_zero, Nat.add_zero, Nat.zero_add, and_self, eq_self, Nat.reduceLT, Nat.reduceLeDiff, Nat.reduceAdd, Nat.reduceEqDiff, Nat.reduceMul, Nat.reduceSub, Nat.reduceDiv, Nat.reduceMod, S.obj, S.chan]
      exact k
theorem r_memory {F : Nat} {v : Int32} {h : ck_H} {m : Ms} (S : ShR h) (C : RMs h m) {P : Int32 → ck_H → Prop} (k : P (aMem m v) h) : wp (f_RM_memory F 496 v h) P := by
  unfold f_RM_memory
  unfold aMem at k
  rcases ng v with q | ⟨j, hj, rfl⟩
  · rw [if_pos (Or.inl q)] at k
    simp (disch := omega) only [wp_as, wp_ifp, wp_ifn, wp_some, wp_then, wp_bd, wp_ret, wp_optS, wp_optN, gk_wI, gz_wI, gR_wI, gk_wC, gz_wC, gR_wC, gk_wJ, gz_wJ, gR_wJ, lit, litL, bb, ite01, ite01n, nI_l, lN_add, lN_sub, in_eq, l_1, pk_lLT, pk_lEQ, lgl, lgg, lge, n64, m8, m16, m24, m0, sh0, nI_add, pk_mul, nI_ltI, nI_leI, nI_eq, nI_clamp, pk_sub, pk_div, pk_rem, not_true_eq_false, not_false_eq_true, true_and, and_true, false_and, and_false, true_or, or_true, false_or, or_false, true_implies, false_implies, implies_true, if_true, if_false, Nat.not_lt_zero, Nat.add_zero, Nat.zero_add, and_self, eq_self, Nat.reduceLT, Nat.reduceLeDiff, Nat.reduceAdd, Nat.reduceEqDiff, Nat.reduceMul, Nat.reduceSub, Nat.reduceDiv, Nat.reduceMod, S.k, S.memory_, q]
    exact k
  · simp (disch := omega) only [wp_as, wp_ifp, wp_ifn, wp_some, wp_then, wp_bd, wp_ret, wp_optS, wp_optN, gk_wI, gz_wI, gR_wI, gk_wC, gz_wC, gR_wC, gk_wJ, gz_wJ, gR_wJ, lit, litL, bb, ite01, ite01n, nI_l, lN_add, lN_sub, in_eq, l_1, pk_lLT, pk_lEQ, lgl, lgg, lge, n64, m8, m16, m24, m0, sh0, nI_add, pk_mul, nI_ltI, nI_leI, nI_eq, nI_clamp, pk_sub, pk_div, pk_rem, not_true_eq_false, not_false_eq_true, true_and, and_true, false_and, and_false, true_or, or_true, false_or, or_false, true_implies, false_implies, implies_true, if_true, if_false, Nat.not_lt_zero, Nat.add_zero, Nat.zero_add, and_self, eq_self, Nat.reduceLT, Nat.reduceLeDiff, Nat.reduceAdd, Nat.reduceEqDiff, Nat.reduceMul, Nat.reduceSub, Nat.reduceDiv, Nat.reduceMod, S.k, S.memory_]
    refine wp_ite (fun q => ?_) (fun q => ?_)
    · rw [if_pos (by simp (disch := omega) only [lit, litL, bb, ite01, ite01n, nI_l, lN_add, lN_sub, in_eq, l_1, pk_lLT, pk_lEQ, lgl, lgg, lge, n64, m8, m16, m24, m0, sh0, nI_add, pk_mul, nI_ltI, nI_leI, nI_eq, nI_clamp, pk_sub, pk_div, pk_rem, not_true_eq_false, not_false_eq_true, true_and, and_true, false_and, and_false, true_or, or_true, false_or, or_false, true_implies, false_implies, implies_true, if_true, if_false, Nat.not_lt_zero, Nat.add_zero, Nat.zero_add, and_self, eq_self, Nat.reduceLT, Nat.reduceLeDiff, Nat.reduceAdd, Nat.reduceEqDiff, Nat.reduceMul, Nat.reduceSub, Nat.reduceDiv, Nat.reduceMod]; omega)] at k
      simp (disch := omega) only [wp_as, wp_ifp, wp_ifn, wp_some, wp_then, wp_bd, wp_ret, wp_optS, wp_optN, gk_wI, gz_wI, gR_wI, gk_wC, gz_wC, gR_wC, gk_wJ, gz_wJ, gR_wJ, lit, litL, bb, ite01, ite01n, nI_l, lN_add, lN_sub, in_eq, l_1, pk_lLT, pk_lEQ, lgl, lgg, lge, n64, m8, m16, m24, m0, sh0, nI_add, pk_mul, nI_ltI, nI_leI, nI_eq, nI_clamp, pk_sub, pk_div, pk_rem, not_true_eq_false, not_false_eq_true, true_and, and_true, false_and, and_false, true_or, or_true, false_or, or_false, true_implies, false_implies, implies_true, if_true, if_false, Nat.not_lt_zero, Nat.add_zero, Nat.zero_add, and_self, eq_self, Nat.reduceLT, Nat.reduceLeDiff, Nat.reduceAdd, Nat.reduceEqDiff, Nat.reduceMul, Nat.reduceSub, Nat.reduceDiv, Nat.reduceMod, S.k, S.memory_]
      exact k
    · rw [if_neg (by simp (disch := omega) only [lit, litL, bb, ite01, ite01n, nI_l, lN_add, lN_sub, in_eq, l_1, pk_lLT, pk_lEQ, lgl, lgg, lge, n64, m8, m16, m24, m0, sh0, nI_add, pk_mul, nI_ltI, nI_leI, nI_eq, nI_clamp, pk_sub, pk_div, pk_rem, not_true_eq_false, not_false_eq_true, true_and, and_true, false_and, and_false, true_or, or_true, false_or, or_false, true_implies, false_implies, implies_true, if_true, if_false, Nat.not_lt_zero, Nat.add_zero, Nat.zero_add, and_self, eq_self, Nat.reduceLT, Nat.reduceLeDiff, Nat.reduceAdd, Nat.reduceEqDiff, Nat.reduceMul, Nat.reduceSub, Nat.reduceDiv, Nat.reduceMod]; omega), nI_clamp hj, ← C.1 j (by omega)] at k
      simp (disch := omega) only [wp_as, wp_ifp, wp_ifn, wp_some, wp_then, wp_bd, wp_ret, wp_optS, wp_optN, gk_wI, gz_wI, gR_wI, gk_wC, gz_wC, gR_wC, gk_wJ, gz_wJ, gR_wJ, lit, litL, bb, ite01, ite01n, nI_l, lN_add, lN_sub, in_eq, l_1, pk_lLT, pk_lEQ, lgl, lgg, lge, n64, m8, m16, m24, m0, sh0, nI_add, pk_mul, nI_ltI, nI_leI, nI_eq, nI_clamp, pk_sub, pk_div, pk_rem, not_true_eq_false, not_false_eq_true, true_and, and_true, false_and, and_false, true_or, or_true, false_or, or_false, true_implies, false_implies, implies_true, if_true, if_false, Nat.not_lt_zero, Nat.add_zero, Nat.zero_add, and_self, eq_self, Nat.reduceLT, Nat.reduceLeDiff, Nat.reduceAdd, Nat.reduceEqDiff, Nat.reduceMul, Nat.reduceSub, Nat.reduceDiv, Nat.reduceMod, S.k, S.memory_]
      exact ⟨by omega, k⟩
/-! status -/
def aStat (m : Ms) (v : Int32) : Int32 := if v = nI 0 then mR m 0 else if v = nI 1 then mR m 1 else if v = nI 2 then mR m 2 else if v = nI 3 then mR m 3 else -1
theorem c_status {F : Nat} {v : Int32} {h : ck_H} {m : Ms} (S : ShC h) (C : CMs h m) {P : Int32 → ck_H → Prop} (k : P (aStat m v) h) : wp (f_CS_status F 0 v h) P := by
  unfold f_CS_status
  unfold aStat at k
  have e := C.2.2.1
  have e0 : gI h 334 8 = mR m 0 := e 0 (by omega)
  have e1 : gI h 334 9 = mR m 1 := e 1 (by omega)
  have e2 : gI h 334 10 = mR m 2 := e 2 (by omega)
  have e3 : gI h 334 11 = mR m 3 := e 3 (by omega)
  by_cases q0 : v = nI 0
  · rw [if_pos q0] at k
    simp (disch := omega) only [wp_as, wp_ifp, wp_ifn, wp_some, wp_then, wp_bd, wp_ret, wp_optS, wp_optN, gk_wI, gz_wI, gR_wI, gk_wC, gz_wC, gR_wC, gk_wJ, gz_wJ, gR_wJ, lit, litL, bb, ite01, ite01n, nI_l, lN_add, lN_sub, in_eq, l_1, pk_lLT, pk_lEQ, lgl, lgg, lge, n64, m8, m16, m24, m0, sh0, nI_add, pk_mul, nI_ltI, nI_leI, nI_eq, nI_clamp, pk_sub, pk_div, pk_rem, not_true_eq_false, not_false_eq_true, true_and, and_true, false_and, and_false, true_or, or_true, false_or, or_false, true_implies, false_implies, implies_true, if_true, if_false, Nat.not_lt_zero, Nat.add_zero, Nat.zero_add, and_self, eq_self, Nat.reduceLT, Nat.reduceLeDiff, Nat.reduceAdd, Nat.reduceEqDiff, Nat.reduceMul, Nat.reduceSub, Nat.reduceDiv, Nat.reduceMod, S.obj, S.chan, e0, q0]
    exact k
  rw [if_neg q0] at k
  by_cases q1 : v = nI 1
  · rw [if_pos q1] at k
    simp (disch := omega) only [wp_as, wp_ifp, wp_ifn, wp_some, wp_then, wp_bd, wp_ret, wp_optS, wp_optN, gk_wI, gz_wI, gR_wI, gk_wC, gz_wC, gR_wC, gk_wJ, gz_wJ, gR_wJ, lit, litL, bb, ite01, ite01n, nI_l, lN_add, lN_sub, in_eq, l_1, pk_lLT, pk_lEQ, lgl, lgg, lge, n64, m8, m16, m24, m0, sh0, nI_add, pk_mul, nI_ltI, nI_leI, nI_eq, nI_clamp, pk_sub, pk_div, pk_rem, not_true_eq_false, not_false_eq_true, true_and, and_true, false_and, and_false, true_or, or_true, false_or, or_false, true_implies, false_implies, implies_true, if_true, if_false, Nat.not_lt_zero, Nat.add_zero, Nat.zero_add, and_self, eq_self, Nat.reduceLT, Nat.reduceLeDiff, Nat.reduceAdd, Nat.reduceEqDiff, Nat.reduceMul, Nat.reduceSub, Nat.reduceDiv, Nat.reduceMod, S.obj, S.chan, e1, q1]
    exact k
  rw [if_neg q1] at k
  by_cases q2 : v = nI 2
  · rw [if_pos q2] at k
    simp (disch := omega) only [wp_as, wp_ifp, wp_ifn, wp_some, wp_then, wp_bd, wp_ret, wp_optS, wp_optN, gk_wI, gz_wI, gR_wI, gk_wC, gz_wC, gR_wC, gk_wJ, gz_wJ, gR_wJ, lit, litL, bb, ite01, ite01n, nI_l, lN_add, lN_sub, in_eq, l_1, pk_lLT, pk_lEQ, lgl, lgg, lge, n64, m8, m16, m24, m0, sh0, nI_add, pk_mul, nI_ltI, nI_leI, nI_eq, nI_clamp, pk_sub, pk_div, pk_rem, not_true_eq_false, not_false_eq_true, true_and, and_true, false_and, and_false, true_or, or_true, false_or, or_false, true_implies, false_implies, implies_true, if_true, if_false, Nat.not_lt_zero, Nat.add_zero, Nat.zero_add, and_self, eq_self, Nat.reduceLT, Nat.reduceLeDiff, Nat.reduceAdd, Nat.reduceEqDiff, Nat.reduceMul, Nat.reduceSub, Nat.reduceDiv, Nat.reduceMod, S.obj, S.chan, e2, q2]
    exact k
  rw [if_neg q2] at k
  by_cases q3 : v = nI 3
  · rw [if_pos q3] at k
    simp (disch := omega) only [wp_as, wp_ifp, wp_ifn, wp_some, wp_then, wp_bd, wp_ret, wp_optS, wp_optN, gk_wI, gz_wI, gR_wI, gk_wC, gz_wC, gR_wC, gk_wJ, gz_wJ, gR_wJ, lit, litL, bb, ite01, ite01n, nI_l, lN_add, lN_sub, in_eq, l_1, pk_lLT, pk_lEQ, lgl, lgg, lge, n64, m8, m16, m24, m0, sh0, nI_add, pk_mul, nI_ltI, nI_leI, nI_eq, nI_clamp, pk_sub, pk_div, pk_rem, not_true_eq_false, not_false_eq_true, true_and, and_true, false_and, and_false, true_or, or_true, false_or, or_false, true_implies, false_implies, implies_true, if_true, if_false, Nat.not_lt_zero, Nat.add_zero, Nat.zero_add, and_self, eq_self, Nat.reduceLT, Nat.reduceLeDiff, Nat.reduceAdd, Nat.reduceEqDiff, Nat.reduceMul, Nat.reduceSub, Nat.reduceDiv, Nat.reduceMod, S.obj, S.chan, e3, q3]
    exact k
  rw [if_neg q3] at k
  simp (disch := omega) only [wp_as, wp_ifp, wp_ifn, wp_some, wp_then, wp_bd, wp_ret, wp_optS, wp_optN, gk_wI, gz_wI, gR_wI, gk_wC, gz_wC, gR_wC, gk_wJ, gz_wJ, gR_wJ, lit, litL, bb, ite01, ite01n, nI_l, lN_add, lN_sub, in_eq, l_1, pk_lLT, pk_lEQ, lgl, lgg, lge, n64, m8, m16, m24, m0, sh0, nI_add, pk_mul, nI_ltI, nI_leI, nI_eq, nI_clamp, pk_sub, pk_div, pk_rem, not_true_eq_false, not_false_eq_true, true_and, and_true, false_and, and_false, true_or, or_true, false_or, or_false, true_implies, false_implies, implies_true, if_true, if_false, Nat.not_lt_zero, Nat.add_zero, Nat.zero_add, and_self, eq_self, Nat.reduceLT, Nat.reduceLeDiff, Nat.reduceAdd, Nat.reduceEqDiff, Nat.reduceMul, Nat.reduceSub, Nat.reduceDiv, Nat.reduceMod, q0, q1, q2, q3]
  exact k
theorem r_status {F : Nat} {v : Int32} {h : ck_H} {m : Ms} (S : ShR h) (C : RMs h m) {P : Int32 → ck_H → Prop} (k : P (aStat m v) h) : wp (f_RM_status F 496 v h) P := by
  unfold f_RM_status
  unfold aStat at k
  have e := C.2.2.1
  have e0 : gI h 496 22 = mR m 0 := e 0 (by omega)
  have e1 : gI h 496 23 = mR m 1 := e 1 (by omega)
  have e2 : gI h 496 24 = mR m 2 := e 2 (by omega)
  have e3 : gI h 496 25 = mR m 3 := e 3 (by omega)
  by_cases q0 : v = nI 0
  · rw [if_pos q0] at k
    simp (disch := omega) only [wp_as, wp_ifp, wp_ifn, wp_some, wp_then, wp_bd, wp_ret, wp_optS, wp_optN, gk_wI, gz_wI, gR_wI, gk_wC, gz_wC, gR_wC, gk_wJ, gz_wJ, gR_wJ, lit, litL, bb, ite01, ite01n, nI_l, lN_add, lN_sub, in_eq, l_1, pk_lLT, pk_lEQ, lgl, lgg, lge, n64, m8, m16, m24, m0, sh0, nI_add, pk_mul, nI_ltI, nI_leI, nI_eq, nI_clamp, pk_sub, pk_div, pk_rem, not_true_eq_false, not_false_eq_true, true_and, and_true, false_and, and_false, true_or, or_true, false_or, or_false, true_implies, false_implies, implies_true, if_true, if_false, Nat.not_lt_zero, Nat.add_zero, Nat.zero_add, and_self, eq_self, Nat.reduceLT, Nat.reduceLeDiff, Nat.reduceAdd, Nat.reduceEqDiff, Nat.reduceMul, Nat.reduceSub, Nat.reduceDiv, Nat.reduceMod, S.k, e0, q0]
    exact k
  rw [if_neg q0] at k
  by_cases q1 : v = nI 1
  · rw [if_pos q1] at k
    simp (disch := omega) only [wp_as, wp_ifp, wp_ifn, wp_some, wp_then, wp_bd, wp_ret, wp_optS, wp_optN, gk_wI, gz_wI, gR_wI, gk_wC, gz_wC, gR_wC, gk_wJ, gz_wJ, gR_wJ, lit, litL, bb, ite01, ite01n, nI_l, lN_add, lN_sub, in_eq, l_1, pk_lLT, pk_lEQ, lgl, lgg, lge, n64, m8, m16, m24, m0, sh0, nI_add, pk_mul, nI_ltI, nI_leI, nI_eq, nI_clamp, pk_sub, pk_div, pk_rem, not_true_eq_false, not_false_eq_true, true_and, and_true, false_and, and_false, true_or, or_true, false_or, or_false, true_implies, false_implies, implies_true, if_true, if_false, Nat.not_lt_zero, Nat.add_zero, Nat.zero_add, and_self, eq_self, Nat.reduceLT, Nat.reduceLeDiff, Nat.reduceAdd, Nat.reduceEqDiff, Nat.reduceMul, Nat.reduceSub, Nat.reduceDiv, Nat.reduceMod, S.k, e1, q1]
    exact k
  rw [if_neg q1] at k
  by_cases q2 : v = nI 2
  · rw [if_pos q2] at k
    simp (disch := omega) only [wp_as, wp_ifp, wp_ifn, wp_some, wp_then, wp_bd, wp_ret, wp_optS, wp_optN, gk_wI, gz_wI, gR_wI, gk_wC, gz_wC, gR_wC, gk_wJ, gz_wJ, gR_wJ, lit, litL, bb, ite01, ite01n, nI_l, lN_add, lN_sub, in_eq, l_1, pk_lLT, pk_lEQ, lgl, lgg, lge, n64, m8, m16, m24, m0, sh0, nI_add, pk_mul, nI_ltI, nI_leI, nI_eq, nI_clamp, pk_sub, pk_div, pk_rem, not_true_eq_false, not_false_eq_true, true_and, and_true, false_and, and_false, true_or, or_true, false_or, or_false, true_implies, false_implies, implies_true, if_true, if_false, Nat.not_lt_zero, Nat.add_zero, Nat.zero_add, and_self, eq_self, Nat.reduceLT, Nat.reduceLeDiff, Nat.reduceAdd, Nat.reduceEqDiff, Nat.reduceMul, Nat.reduceSub, Nat.reduceDiv, Nat.reduceMod, S.k, e2, q2]
    exact k
  rw [if_neg q2] at k
  by_cases q3 : v = nI 3
  · rw [if_pos q3] at k
    simp (disch := omega) only [wp_as, wp_ifp, wp_ifn, wp_some, wp_then, wp_bd, wp_ret, wp_optS, wp_optN, gk_wI, gz_wI, gR_wI, gk_wC, gz_wC, gR_wC, gk_wJ, gz_wJ, gR_wJ, lit, litL, bb, ite01, ite01n, nI_l, lN_add, lN_sub, in_eq, l_1, pk_lLT, pk_lEQ, lgl, lgg, lge, n64, m8, m16, m24, m0, sh0, nI_add, pk_mul, nI_ltI, nI_leI, nI_eq, nI_clamp, pk_sub, pk_div, pk_rem, not_true_eq_false, not_false_eq_true, true_and, and_true, false_and, and_false, true_or, or_true, false_or, or_false, true_implies, false_implies, implies_true, if_true, if_false, Nat.not_lt_zero, Nat.add_zero, Nat.zero_add, and_self, eq_self, Nat.reduceLT, Nat.reduceLeDiff, Nat.reduceAdd, Nat.reduceEqDiff, Nat.reduceMul, Nat.reduceSub, Nat.reduceDiv, Nat.reduceMod, S.k, e3, q3]
    exact k
  rw [if_neg q3] at k
  simp (disch := omega) only [wp_as, wp_ifp, wp_ifn, wp_some, wp_then, wp_bd, wp_ret, wp_optS, wp_optN, gk_wI, gz_wI, gR_wI, gk_wC, gz_wC, gR_wC, gk_wJ, gz_wJ, gR_wJ, lit, litL, bb, ite01, ite01n, nI_l, lN_add, lN_sub, in_eq, l_1, pk_lLT, pk_lEQ, lgl, lgg, lge, n64, m8, m16, m24, m0, sh0, nI_add, pk_mul, nI_ltI, nI_leI, nI_eq, nI_clamp, pk_sub, pk_div, pk_rem, not_true_eq_false, not_false_eq_true, true_and, and_true, false_and, and_false, true_or, or_true, false_or, or_false, true_implies, false_implies, implies_true, if_true, if_false, Nat.not_lt_zero, Nat.add_zero, Nat.zero_add, and_self, eq_self, Nat.reduceLT, Nat.reduceLeDiff, Nat.reduceAdd, Nat.reduceEqDiff, Nat.reduceMul, Nat.reduceSub, Nat.reduceDiv, Nat.reduceMod, q0, q1, q2, q3]
  exact k
theorem c_time {F : Nat} {h : ck_H} {m : Ms} (S : ShC h) (C : CMs h m) {P : Int64 → ck_H → Prop} (k : P (lN (mT m)) h) : wp (f_CS_time F 0 h) P := by
  unfold f_CS_time
  simp (disch := omega) only [wp_as, wp_ifp, wp_ifn, wp_some, wp_then, wp_bd, wp_ret, wp_optS, wp_optN, gk_wI, gz_wI, gR_wI, gk_wC, gz_wC, gR_wC, gk_wJ, gz_wJ, gR_wJ, lit, litL, bb, ite01, ite01n, nI_l, lN_add, lN_sub, in_eq, l_1, pk_lLT, pk_lEQ, lgl, lgg, lge, n64, m8, m16, m24, m0, sh0, nI_add, pk_mul, nI_ltI, nI_leI, nI_eq, nI_clamp, pk_sub, pk_div, pk_rem, not_true_eq_false, not_false_eq_true, true_and, and_true, false_and, and_false, true_or, or_true, false_or, or_false, true_implies, false_implies, implies_true, if_true, if_false, Nat.not_lt_zero, Nat.add_zero, Nat.zero_add, and_self, eq_self, Nat.reduceLT, Nat.reduceLeDiff, Nat.reduceAdd, Nat.reduceEqDiff, Nat.reduceMul, Nat.reduceSub, Nat.reduceDiv, Nat.reduceMod, S.obj, S.chan, C.2.2.2.1]
  exact k
theorem r_time {F : Nat} {h : ck_H} {m : Ms} (S : ShR h) (C : RMs h m) {P : Int64 → ck_H → Prop} (k : P (lN (mT m)) h) : wp (f_RM_time F 496 h) P := by
  unfold f_RM_time
  simp (disch := omega) only [wp_as, wp_ifp, wp_ifn, wp_some, wp_then, wp_bd, wp_ret, wp_optS, wp_optN, gk_wI, gz_wI, gR_wI, gk_wC, gz_wC, gR_wC, gk_wJ, gz_wJ, gR_wJ, lit, litL, bb, ite01, ite01n, nI_l, lN_add, lN_sub, in_eq, l_1, pk_lLT, pk_lEQ, lgl, lgg, lge, n64, m8, m16, m24, m0, sh0, nI_add, pk_mul, nI_ltI, nI_leI, nI_eq, nI_clamp, pk_sub, pk_div, pk_rem, not_true_eq_false, not_false_eq_true, true_and, and_true, false_and, and_false, true_or, or_true, false_or, or_false, true_implies, false_implies, implies_true, if_true, if_false, Nat.not_lt_zero, Nat.add_zero, Nat.zero_add, and_self, eq_self, Nat.reduceLT, Nat.reduceLeDiff, Nat.reduceAdd, Nat.reduceEqDiff, Nat.reduceMul, Nat.reduceSub, Nat.reduceDiv, Nat.reduceMod, S.k, C.2.2.2.1]
  exact k
/-! the arm -/
theorem t_unitAt0 {F : Nat} {v : Int32} {h : ck_H} (S : ShC h) (q : v < nI 0 ∨ ¬ v < nI 2) : f_CS_unitAt F 0 v h = some (none, h) := by
  unfold f_CS_unitAt
  by_cases q1 : v < 0
  · rw [if_pos q1]
  · have q2 : ¬ v < 2 := q.resolve_left q1
    rw [if_neg q1, if_neg q2]
theorem t_unitAt {F : Nat} {u : Nat} {h : ck_H} (S : ShC h) (hu : u < 2) : f_CS_unitAt F 0 (nI u) h = some (some (ua u), h) := by
  have : wp (f_CS_unitAt F 0 (nI u) h) (fun r h' => r = some (ua u) ∧ h' = h) := by
    unfold f_CS_unitAt
    simp (disch := omega) only [wp_as, wp_ifp, wp_ifn, wp_some, wp_then, wp_bd, wp_ret, wp_optS, wp_optN, gk_wI, gz_wI, gR_wI, gk_wC, gz_wC, gR_wC, gk_wJ, gz_wJ, gR_wJ, lit, litL, bb, ite01, ite01n, nI_l, lN_add, lN_sub, in_eq, l_1, pk_lLT, pk_lEQ, lgl, lgg, lge, n64, m8, m16, m24, m0, sh0, nI_add, pk_mul, nI_ltI, nI_leI, nI_eq, nI_clamp, pk_sub, pk_div, pk_rem, not_true_eq_false, not_false_eq_true, true_and, and_true, false_and, and_false, true_or, or_true, false_or, or_false, true_implies, false_implies, implies_true, if_true, if_false, Nat.not_lt_zero, Nat.add_zero, Nat.zero_add, and_self, eq_self, Nat.reduceLT, Nat.reduceLeDiff, Nat.reduceAdd, Nat.reduceEqDiff, Nat.reduceMul, Nat.reduceSub, Nat.reduceDiv, Nat.reduceMod, S.obj, S.units, S.uref hu]
    exact hu
  obtain ⟨r, h', e, rfl, rfl⟩ := this
  exact e
def aArm (m : Ms) (v w : Int32) : Int32 := if v < nI 0 ∨ ¬ v < nI 2 then -2 else if w = nI 0 then nI (mA m v.toNatClampNeg 0) else if w = nI 1 then nI (mA m v.toNatClampNeg 1) else -2
theorem c_arm {F : Nat} {v w : Int32} {h : ck_H} {m : Ms} (S : ShC h) (C : CMs h m) {P : Int32 → ck_H → Prop} (k : P (aArm m v w) h) : wp (f_CS_arm F 0 v w h) P := by
  unfold f_CS_arm
  unfold aArm at k
  by_cases q : v < nI 0 ∨ ¬ v < nI 2
  · simp (disch := omega) only [wp_as, wp_ifp, wp_ifn, wp_some, wp_then, wp_bd, wp_ret, wp_optS, wp_optN, gk_wI, gz_wI, gR_wI, gk_wC, gz_wC, gR_wC, gk_wJ, gz_wJ, gR_wJ, lit, litL, bb, ite01, ite01n, nI_l, lN_add, lN_sub, in_eq, l_1, pk_lLT, pk_lEQ, lgl, lgg, lge, n64, m8, m16, m24, m0, sh0, nI_add, pk_mul, nI_ltI, nI_leI, nI_eq, nI_clamp, pk_sub, pk_div, pk_rem, not_true_eq_false, not_false_eq_true, true_and, and_true, false_and, and_false, true_or, or_true, false_or, or_false, true_implies, false_implies, implies_true, if_true, if_false, Nat.not_lt_zero, Nat.add_zero, Nat.zero_add, and_self, eq_self, Nat.reduceLT, Nat.reduceLeDiff, Nat.reduceAdd, Nat.reduceEqDiff, Nat.reduceMul, Nat.reduceSub, Nat.reduceDiv, Nat.reduceMod, S.obj, t_unitAt0 S q]
    rw [if_pos q] at k
    exact k
  · rw [if_neg q] at k
    obtain ⟨u, hu, rfl⟩ := (ng v).resolve_left (fun z => q (Or.inl z))
    have hu2 : u < 2 := by
      by_cases z : u < 2
      · exact z
      · exact absurd (Or.inr (by simp (disch := omega) only [lit, litL, bb, ite01, ite01n, nI_l, lN_add, lN_sub, in_eq, l_1, pk_lLT, pk_lEQ, lgl, lgg, lge, n64, m8, m16, m24, m0, sh0, nI_add, pk_mul, nI_ltI, nI_leI, nI_eq, nI_clamp, pk_sub, pk_div, pk_rem, not_true_eq_false, not_false_eq_true, true_and, and_true, false_and, and_false, true_or, or_true, false_or, or_false, true_implies, false_implies, implies_true, if_true, if_false, Nat.not_lt_zero, Nat.add_zero, Nat.zero_add, and_self, eq_self, Nat.reduceLT, Nat.reduceLeDiff, Nat.reduceAdd, Nat.reduceEqDiff, Nat.reduceMul, Nat.reduceSub, Nat.reduceDiv, Nat.reduceMod]; exact z)) q
    rw [nI_clamp hu] at k
    have e0 : gI h (ua u) 1 = nI (mA m u 0) := C.2.2.2.2 u 0 hu2 (by omega)
    have e1 : gI h (ua u) 2 = nI (mA m u 1) := C.2.2.2.2 u 1 hu2 (by omega)
    simp (disch := omega) only [wp_as, wp_ifp, wp_ifn, wp_some, wp_then, wp_bd, wp_ret, wp_optS, wp_optN, gk_wI, gz_wI, gR_wI, gk_wC, gz_wC, gR_wC, gk_wJ, gz_wJ, gR_wJ, lit, litL, bb, ite01, ite01n, nI_l, lN_add, lN_sub, in_eq, l_1, pk_lLT, pk_lEQ, lgl, lgg, lge, n64, m8, m16, m24, m0, sh0, nI_add, pk_mul, nI_ltI, nI_leI, nI_eq, nI_clamp, pk_sub, pk_div, pk_rem, not_true_eq_false, not_false_eq_true, true_and, and_true, false_and, and_false, true_or, or_true, false_or, or_false, true_implies, false_implies, implies_true, if_true, if_false, Nat.not_lt_zero, Nat.add_zero, Nat.zero_add, and_self, eq_self, Nat.reduceLT, Nat.reduceLeDiff, Nat.reduceAdd, Nat.reduceEqDiff, Nat.reduceMul, Nat.reduceSub, Nat.reduceDiv, Nat.reduceMod, S.obj, t_unitAt S hu2]
    rcases ng w with q | ⟨j, hj, rfl⟩
    · rw [if_neg (by rintro rfl; exact absurd q (by decide)), if_neg (by rintro rfl; exact absurd q (by decide))] at k
      simp (disch := omega) only [wp_as, wp_ifp, wp_ifn, wp_some, wp_then, wp_bd, wp_ret, wp_optS, wp_optN, gk_wI, gz_wI, gR_wI, gk_wC, gz_wC, gR_wC, gk_wJ, gz_wJ, gR_wJ, lit, litL, bb, ite01, ite01n, nI_l, lN_add, lN_sub, in_eq, l_1, pk_lLT, pk_lEQ, lgl, lgg, lge, n64, m8, m16, m24, m0, sh0, nI_add, pk_mul, nI_ltI, nI_leI, nI_eq, nI_clamp, pk_sub, pk_div, pk_rem, not_true_eq_false, not_false_eq_true, true_and, and_true, false_and, and_false, true_or, or_true, false_or, or_false, true_implies, false_implies, implies_true, if_true, if_false, Nat.not_lt_zero, Nat.add_zero, Nat.zero_add, and_self, eq_self, Nat.reduceLT, Nat.reduceLeDiff, Nat.reduceAdd, Nat.reduceEqDiff, Nat.reduceMul, Nat.reduceSub, Nat.reduceDiv, Nat.reduceMod, q]
      exact k
    · simp (disch := omega) only [wp_as, wp_ifp, wp_ifn, wp_some, wp_then, wp_bd, wp_ret, wp_optS, wp_optN, gk_wI, gz_wI, gR_wI, gk_wC, gz_wC, gR_wC, gk_wJ, gz_wJ, gR_wJ, lit, litL, bb, ite01, ite01n, nI_l, lN_add, lN_sub, in_eq, l_1, pk_lLT, pk_lEQ, lgl, lgg, lge, n64, m8, m16, m24, m0, sh0, nI_add, pk_mul, nI_ltI, nI_leI, nI_eq, nI_clamp, pk_sub, pk_div, pk_rem, not_true_eq_false, not_false_eq_true, true_and, and_true, false_and, and_false, true_or, or_true, false_or, or_false, true_implies, false_implies, implies_true, if_true, if_false, Nat.not_lt_zero, Nat.add_zero, Nat.zero_add, and_self, eq_self, Nat.reduceLT, Nat.reduceLeDiff, Nat.reduceAdd, Nat.reduceEqDiff, Nat.reduceMul, Nat.reduceSub, Nat.reduceDiv, Nat.reduceMod]
      by_cases j0 : j = 0
      · subst j0
        rw [if_pos rfl, ← e0] at k
        simp (disch := omega) only [wp_as, wp_ifp, wp_ifn, wp_some, wp_then, wp_bd, wp_ret, wp_optS, wp_optN, gk_wI, gz_wI, gR_wI, gk_wC, gz_wC, gR_wC, gk_wJ, gz_wJ, gR_wJ, lit, litL, bb, ite01, ite01n, nI_l, lN_add, lN_sub, in_eq, l_1, pk_lLT, pk_lEQ, lgl, lgg, lge, n64, m8, m16, m24, m0, sh0, nI_add, pk_mul, nI_ltI, nI_leI, nI_eq, nI_clamp, pk_sub, pk_div, pk_rem, not_true_eq_false, not_false_eq_true, true_and, and_true, false_and, and_false, true_or, or_true, false_or, or_false, true_implies, false_implies, implies_true, if_true, if_false, Nat.not_lt_zero, Nat.add_zero, Nat.zero_add, and_self, eq_self, Nat.reduceLT, Nat.reduceLeDiff, Nat.reduceAdd, Nat.reduceEqDiff, Nat.reduceMul, Nat.reduceSub, Nat.reduceDiv, Nat.reduceMod, S.unit hu2]
        exact k
      · rw [if_neg (by simp (disch := omega) only [lit, litL, bb, ite01, ite01n, nI_l, lN_add, lN_sub, in_eq, l_1, pk_lLT, pk_lEQ, lgl, lgg, lge, n64, m8, m16, m24, m0, sh0, nI_add, pk_mul, nI_ltI, nI_leI, nI_eq, nI_clamp, pk_sub, pk_div, pk_rem, not_true_eq_false, not_false_eq_true, true_and, and_true, false_and, and_false, true_or, or_true, false_or, or_false, true_implies, false_implies, implies_true, if_true, if_false, Nat.not_lt_zero, Nat.add_zero, Nat.zero_add, and_self, eq_self, Nat.reduceLT, Nat.reduceLeDiff, Nat.reduceAdd, Nat.reduceEqDiff, Nat.reduceMul, Nat.reduceSub, Nat.reduceDiv, Nat.reduceMod]; exact j0)] at k
        by_cases j1 : j = 1
        · subst j1
          rw [if_pos rfl, ← e1] at k
          simp (disch := omega) only [wp_as, wp_ifp, wp_ifn, wp_some, wp_then, wp_bd, wp_ret, wp_optS, wp_optN, gk_wI, gz_wI, gR_wI, gk_wC, gz_wC, gR_wC, gk_wJ, gz_wJ, gR_wJ, lit, litL, bb, ite01, ite01n, nI_l, lN_add, lN_sub, in_eq, l_1, pk_lLT, pk_lEQ, lgl, lgg, lge, n64, m8, m16, m24, m0, sh0, nI_add, pk_mul, nI_ltI, nI_leI, nI_eq, nI_clamp, pk_sub, pk_div, pk_rem, not_true_eq_false, not_false_eq_true, true_and, and_true, false_and, and_false, true_or, or_true, false_or, or_false, true_implies, false_implies, implies_true, if_true, if_false, Nat.not_lt_zero, Nat.add_zero, Nat.zero_add, and_self, eq_self, Nat.reduceLT, Nat.reduceLeDiff, Nat.reduceAdd, Nat.reduceEqDiff, Nat.reduceMul, Nat.reduceSub, Nat.reduceDiv, Nat.reduceMod, S.unit hu2]
          exact k
        · rw [if_neg (by simp (disch := omega) only [lit, litL, bb, ite01, ite01n, nI_l, lN_add, lN_sub, in_eq, l_1, pk_lLT, pk_lEQ, lgl, lgg, lge, n64, m8, m16, m24, m0, sh0, nI_add, pk_mul, nI_ltI, nI_leI, nI_eq, nI_clamp, pk_sub, pk_div, pk_rem, not_true_eq_false, not_false_eq_true, true_and, and_true, false_and, and_false, true_or, or_true, false_or, or_false, true_implies, false_implies, implies_true, if_true, if_false, Nat.not_lt_zero, Nat.add_zero, Nat.zero_add, and_self, eq_self, Nat.reduceLT, Nat.reduceLeDiff, Nat.reduceAdd, Nat.reduceEqDiff, Nat.reduceMul, Nat.reduceSub, Nat.reduceDiv, Nat.reduceMod]; exact j1)] at k
          simp (disch := omega) only [wp_as, wp_ifp, wp_ifn, wp_some, wp_then, wp_bd, wp_ret, wp_optS, wp_optN, gk_wI, gz_wI, gR_wI, gk_wC, gz_wC, gR_wC, gk_wJ, gz_wJ, gR_wJ, lit, litL, bb, ite01, ite01n, nI_l, lN_add, lN_sub, in_eq, l_1, pk_lLT, pk_lEQ, lgl, lgg, lge, n64, m8, m16, m24, m0, sh0, nI_add, pk_mul, nI_ltI, nI_leI, nI_eq, nI_clamp, pk_sub, pk_div, pk_rem, not_true_eq_false, not_false_eq_true, true_and, and_true, false_and, and_false, true_or, or_true, false_or, or_false, true_implies, false_implies, implies_true, if_true, if_false, Nat.not_lt_zero, Nat.add_zero, Nat.zero_add, and_self, eq_self, Nat.reduceLT, Nat.reduceLeDiff, Nat.reduceAdd, Nat.reduceEqDiff, Nat.reduceMul, Nat.reduceSub, Nat.reduceDiv, Nat.reduceMod]
          exact k
theorem r_arm {F : Nat} {v w : Int32} {h : ck_H} {m : Ms} (S : ShR h) (C : RMs h m) {P : Int32 → ck_H → Prop} (k : P (aArm m v w) h) : wp (f_RM_arm F 496 v w h) P := by
  unfold f_RM_arm
  unfold aArm at k
  rcases ng v with q | ⟨u, hu, rfl⟩
  · rw [if_pos (Or.inl q)] at k
    simp (disch := omega) only [wp_as, wp_ifp, wp_ifn, wp_some, wp_then, wp_bd, wp_ret, wp_optS, wp_optN, gk_wI, gz_wI, gR_wI, gk_wC, gz_wC, gR_wC, gk_wJ, gz_wJ, gR_wJ, lit, litL, bb, ite01, ite01n, nI_l, lN_add, lN_sub, in_eq, l_1, pk_lLT, pk_lEQ, lgl, lgg, lge, n64, m8, m16, m24, m0, sh0, nI_add, pk_mul, nI_ltI, nI_leI, nI_eq, nI_clamp, pk_sub, pk_div, pk_rem, not_true_eq_false, not_false_eq_true, true_and, and_true, false_and, and_false, true_or, or_true, false_or, or_false, true_implies, false_implies, implies_true, if_true, if_false, Nat.not_lt_zero, Nat.add_zero, Nat.zero_add, and_self, eq_self, Nat.reduceLT, Nat.reduceLeDiff, Nat.reduceAdd, Nat.reduceEqDiff, Nat.reduceMul, Nat.reduceSub, Nat.reduceDiv, Nat.reduceMod, q]
    exact k
  · by_cases hu2 : u < 2
    · rw [if_neg (by simp (disch := omega) only [lit, litL, bb, ite01, ite01n, nI_l, lN_add, lN_sub, in_eq, l_1, pk_lLT, pk_lEQ, lgl, lgg, lge, n64, m8, m16, m24, m0, sh0, nI_add, pk_mul, nI_ltI, nI_leI, nI_eq, nI_clamp, pk_sub, pk_div, pk_rem, not_true_eq_false, not_false_eq_true, true_and, and_true, false_and, and_false, true_or, or_true, false_or, or_false, true_implies, false_implies, implies_true, if_true, if_false, Nat.not_lt_zero, Nat.add_zero, Nat.zero_add, and_self, eq_self, Nat.reduceLT, Nat.reduceLeDiff, Nat.reduceAdd, Nat.reduceEqDiff, Nat.reduceMul, Nat.reduceSub, Nat.reduceDiv, Nat.reduceMod]; omega), nI_clamp hu] at k
      have e0 : gI h 513 u = nI (mA m u 0) := C.2.2.2.2 u 0 hu2 (by omega)
      have e1 : gI h 514 u = nI (mA m u 1) := C.2.2.2.2 u 1 hu2 (by omega)
      simp (disch := omega) only [wp_as, wp_ifp, wp_ifn, wp_some, wp_then, wp_bd, wp_ret, wp_optS, wp_optN, gk_wI, gz_wI, gR_wI, gk_wC, gz_wC, gR_wC, gk_wJ, gz_wJ, gR_wJ, lit, litL, bb, ite01, ite01n, nI_l, lN_add, lN_sub, in_eq, l_1, pk_lLT, pk_lEQ, lgl, lgg, lge, n64, m8, m16, m24, m0, sh0, nI_add, pk_mul, nI_ltI, nI_leI, nI_eq, nI_clamp, pk_sub, pk_div, pk_rem, not_true_eq_false, not_false_eq_true, true_and, and_true, false_and, and_false, true_or, or_true, false_or, or_false, true_implies, false_implies, implies_true, if_true, if_false, Nat.not_lt_zero, Nat.add_zero, Nat.zero_add, and_self, eq_self, Nat.reduceLT, Nat.reduceLeDiff, Nat.reduceAdd, Nat.reduceEqDiff, Nat.reduceMul, Nat.reduceSub, Nat.reduceDiv, Nat.reduceMod]
      refine wp_ite (fun q => ?_) (fun q => ?_)
      · rw [if_pos q, ← e0] at k
        simp (disch := omega) only [wp_as, wp_ifp, wp_ifn, wp_some, wp_then, wp_bd, wp_ret, wp_optS, wp_optN, gk_wI, gz_wI, gR_wI, gk_wC, gz_wC, gR_wC, gk_wJ, gz_wJ, gR_wJ, lit, litL, bb, ite01, ite01n, nI_l, lN_add, lN_sub, in_eq, l_1, pk_lLT, pk_lEQ, lgl, lgg, lge, n64, m8, m16, m24, m0, sh0, nI_add, pk_mul, nI_ltI, nI_leI, nI_eq, nI_clamp, pk_sub, pk_div, pk_rem, not_true_eq_false, not_false_eq_true, true_and, and_true, false_and, and_false, true_or, or_true, false_or, or_false, true_implies, false_implies, implies_true, if_true, if_false, Nat.not_lt_zero, Nat.add_zero, Nat.zero_add, and_self, eq_self, Nat.reduceLT, Nat.reduceLeDiff, Nat.reduceAdd, Nat.reduceEqDiff, Nat.reduceMul, Nat.reduceSub, Nat.reduceDiv, Nat.reduceMod, S.k, S.armCylinder_]
        exact ⟨hu2, k⟩
      · rw [if_neg q] at k
        refine wp_ite (fun q => ?_) (fun q => ?_)
        · rw [if_pos q, ← e1] at k
          simp (disch := omega) only [wp_as, wp_ifp, wp_ifn, wp_some, wp_then, wp_bd, wp_ret, wp_optS, wp_optN, gk_wI, gz_wI, gR_wI, gk_wC, gz_wC, gR_wC, gk_wJ, gz_wJ, gR_wJ, lit, litL, bb, ite01, ite01n, nI_l, lN_add, lN_sub, in_eq, l_1, pk_lLT, pk_lEQ, lgl, lgg, lge, n64, m8, m16, m24, m0, sh0, nI_add, pk_mul, nI_ltI, nI_leI, nI_eq, nI_clamp, pk_sub, pk_div, pk_rem, not_true_eq_false, not_false_eq_true, true_and, and_true, false_and, and_false, true_or, or_true, false_or, or_false, true_implies, false_implies, implies_true, if_true, if_false, Nat.not_lt_zero, Nat.add_zero, Nat.zero_add, and_self, eq_self, Nat.reduceLT, Nat.reduceLeDiff, Nat.reduceAdd, Nat.reduceEqDiff, Nat.reduceMul, Nat.reduceSub, Nat.reduceDiv, Nat.reduceMod, S.k, S.armHead_]
          exact ⟨hu2, k⟩
        · rw [if_neg q] at k
          simp (disch := omega) only [wp_as, wp_ifp, wp_ifn, wp_some, wp_then, wp_bd, wp_ret, wp_optS, wp_optN, gk_wI, gz_wI, gR_wI, gk_wC, gz_wC, gR_wC, gk_wJ, gz_wJ, gR_wJ, lit, litL, bb, ite01, ite01n, nI_l, lN_add, lN_sub, in_eq, l_1, pk_lLT, pk_lEQ, lgl, lgg, lge, n64, m8, m16, m24, m0, sh0, nI_add, pk_mul, nI_ltI, nI_leI, nI_eq, nI_clamp, pk_sub, pk_div, pk_rem, not_true_eq_false, not_false_eq_true, true_and, and_true, false_and, and_false, true_or, or_true, false_or, or_false, true_implies, false_implies, implies_true, if_true, if_false, Nat.not_lt_zero, Nat.add_zero, Nat.zero_add, and_self, eq_self, Nat.reduceLT, Nat.reduceLeDiff, Nat.reduceAdd, Nat.reduceEqDiff, Nat.reduceMul, Nat.reduceSub, Nat.reduceDiv, Nat.reduceMod]
          exact k
    · rw [if_pos (by simp (disch := omega) only [lit, litL, bb, ite01, ite01n, nI_l, lN_add, lN_sub, in_eq, l_1, pk_lLT, pk_lEQ, lgl, lgg, lge, n64, m8, m16, m24, m0, sh0, nI_add, pk_mul, nI_ltI, nI_leI, nI_eq, nI_clamp, pk_sub, pk_div, pk_rem, not_true_eq_false, not_false_eq_true, true_and, and_true, false_and, and_false, true_or, or_true, false_or, or_false, true_implies, false_implies, implies_true, if_true, if_false, Nat.not_lt_zero, Nat.add_zero, Nat.zero_add, and_self, eq_self, Nat.reduceLT, Nat.reduceLeDiff, Nat.reduceAdd, Nat.reduceEqDiff, Nat.reduceMul, Nat.reduceSub, Nat.reduceDiv, Nat.reduceMod]; omega)] at k
      simp (disch := omega) only [wp_as, wp_ifp, wp_ifn, wp_some, wp_then, wp_bd, wp_ret, wp_optS, wp_optN, gk_wI, gz_wI, gR_wI, gk_wC, gz_wC, gR_wC, gk_wJ, gz_wJ, gR_wJ, lit, litL, bb, ite01, ite01n, nI_l, lN_add, lN_sub, in_eq, l_1, pk_lLT, pk_lEQ, lgl, lgg, lge, n64, m8, m16, m24, m0, sh0, nI_add, pk_mul, nI_ltI, nI_leI, nI_eq, nI_clamp, pk_sub, pk_div, pk_rem, not_true_eq_false, not_false_eq_true, true_and, and_true, false_and, and_false, true_or, or_true, false_or, or_false, true_implies, false_implies, implies_true, if_true, if_false, Nat.not_lt_zero, Nat.add_zero, Nat.zero_add, and_self, eq_self, Nat.reduceLT, Nat.reduceLeDiff, Nat.reduceAdd, Nat.reduceEqDiff, Nat.reduceMul, Nat.reduceSub, Nat.reduceDiv, Nat.reduceMod]
      exact k
