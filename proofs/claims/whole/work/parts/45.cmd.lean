/-! ===== command, poke ===== -/
def sCmd (m : Ms) (j : Nat) (a b c d : Int32) : Ms := (m.1, (fun i f => if i = j then (if f = 0 then a else if f = 1 then b else if f = 2 then c else d) else mC m i f), m.2.2)
theorem c_command0 {F : Nat} {v a b c d : Int32} {h : ck_H} (q : v < nI 0 ∨ ¬ v < nI 32 ∨ d < nI 0 ∨ nI 7 < d) : f_CS_command F 0 v a b c d h = some (-2, h) := by
  have : wp (f_CS_command F 0 v a b c d h) (fun r h' => r = -2 ∧ h' = h) := by
    unfold f_CS_command
    by_cases q1 : v < nI 0
    · simp (disch := omega) only [wp_as, wp_ifp, wp_ifn, wp_some, wp_then, wp_bd, wp_ret, wp_optS, wp_optN, gk_wI, gz_wI, gR_wI, gk_wC, gz_wC, gR_wC, gk_wJ, gz_wJ, gR_wJ, lit, litL, bb, ite01, ite01n, nI_l, lN_add, lN_sub, in_eq, l_1, pk_lLT, pk_lEQ, lgl, lgg, lge, n64, m8, m16, m24, m0, sh0, nI_add, pk_mul, nI_ltI, nI_leI, nI_eq, nI_clamp, pk_sub, pk_div, pk_rem, not_true_eq_false, not_false_eq_true, true_and, and_true, false_and, and_false, true_or, or_true, false_or, or_false, true_implies, false_implies, implies_true, if_true, if_false, Nat.not_lt_zero, Nat.add_zero, Nat.zero_add, and_self, eq_self, Nat.reduceLT, Nat.reduceLeDiff, Nat.reduceAdd, Nat.reduceEqDiff, Nat.reduceMul, Nat.reduceSub, Nat.reduceDiv, Nat.reduceMod, q1]
    by_cases q2 : v < nI 32
    · by_cases q3 : d < nI 0
      · simp (disch := omega) only [wp_as, wp_ifp, wp_ifn, wp_some, wp_then, wp_bd, wp_ret, wp_optS, wp_optN, gk_wI, gz_wI, gR_wI, gk_wC, gz_wC, gR_wC, gk_wJ, gz_wJ, gR_wJ, lit, litL, bb, ite01, ite01n, nI_l, lN_add, lN_sub, in_eq, l_1, pk_lLT, pk_lEQ, lgl, lgg, lge, n64, m8, m16, m24, m0, sh0, nI_add, pk_mul, nI_ltI, nI_leI, nI_eq, nI_clamp, pk_sub, pk_div, pk_rem, not_true_eq_false, not_false_eq_true, true_and, and_true, false_and, and_false, true_or, or_true, false_or, or_false, true_implies, false_implies, implies_true, if_true, if_false, Nat.not_lt_zero, Nat.add_zero, Nat.zero_add, and_self, eq_self, Nat.reduceLT, Nat.reduceLeDiff, Nat.reduceAdd, Nat.reduceEqDiff, Nat.reduceMul, Nat.reduceSub, Nat.reduceDiv, Nat.reduceMod, q1, q2, q3]
      · have q4 : nI 7 < d := ((q.resolve_left q1).resolve_left (fun z => z q2)).resolve_left q3
        simp (disch := omega) only [wp_as, wp_ifp, wp_ifn, wp_some, wp_then, wp_bd, wp_ret, wp_optS, wp_optN, gk_wI, gz_wI, gR_wI, gk_wC, gz_wC, gR_wC, gk_wJ, gz_wJ, gR_wJ, lit, litL, bb, ite01, ite01n, nI_l, lN_add, lN_sub, in_eq, l_1, pk_lLT, pk_lEQ, lgl, lgg, lge, n64, m8, m16, m24, m0, sh0, nI_add, pk_mul, nI_ltI, nI_leI, nI_eq, nI_clamp, pk_sub, pk_div, pk_rem, not_true_eq_false, not_false_eq_true, true_and, and_true, false_and, and_false, true_or, or_true, false_or, or_false, true_implies, false_implies, implies_true, if_true, if_false, Nat.not_lt_zero, Nat.add_zero, Nat.zero_add, and_self, eq_self, Nat.reduceLT, Nat.reduceLeDiff, Nat.reduceAdd, Nat.reduceEqDiff, Nat.reduceMul, Nat.reduceSub, Nat.reduceDiv, Nat.reduceMod, q1, q2, q3, q4]
    · simp (disch := omega) only [wp_as, wp_ifp, wp_ifn, wp_some, wp_then, wp_bd, wp_ret, wp_optS, wp_optN, gk_wI, gz_wI, gR_wI, gk_wC, gz_wC, gR_wC, gk_wJ, gz_wJ, gR_wJ, lit, litL, bb, ite01, ite01n, nI_l, lN_add, lN_sub, in_eq, l_1, pk_lLT, pk_lEQ, lgl, lgg, lge, n64, m8, m16, m24, m0, sh0, nI_add, pk_mul, nI_ltI, nI_leI, nI_eq, nI_clamp, pk_sub, pk_div, pk_rem, not_true_eq_false, not_false_eq_true, true_and, and_true, false_and, and_false, true_or, or_true, false_or, or_false, true_implies, false_implies, implies_true, if_true, if_false, Nat.not_lt_zero, Nat.add_zero, Nat.zero_add, and_self, eq_self, Nat.reduceLT, Nat.reduceLeDiff, Nat.reduceAdd, Nat.reduceEqDiff, Nat.reduceMul, Nat.reduceSub, Nat.reduceDiv, Nat.reduceMod, q1, q2]
  obtain ⟨r, h', e, rfl, rfl⟩ := this
  exact e
theorem n64g (v : Int32) {n : Nat} (hn : n < 2 ^ 31) : lN n < v.toInt64 ↔ nI n < v := by
  rw [Int64.lt_iff_toInt_lt, Int32.lt_iff_toInt_lt, Int32.toInt_toInt64, pk_lT (by omega), nI_toInt hn]
theorem r_command0 {F : Nat} {v a b c d : Int32} {h : ck_H} (q : v < nI 0 ∨ ¬ v < nI 32 ∨ d < nI 0 ∨ nI 7 < d) : f_RM_command F 496 v a b c d h = some (-2, h) := by
  have : wp (f_RM_command F 496 v a b c d h) (fun r h' => r = -2 ∧ h' = h) := by
    unfold f_RM_command
    rcases ng v with q1 | ⟨j, hj, rfl⟩
    · simp (disch := omega) only [wp_as, wp_ifp, wp_ifn, wp_some, wp_then, wp_bd, wp_ret, wp_optS, wp_optN, gk_wI, gz_wI, gR_wI, gk_wC, gz_wC, gR_wC, gk_wJ, gz_wJ, gR_wJ, lit, litL, bb, ite01, ite01n, nI_l, lN_add, lN_sub, in_eq, l_1, pk_lLT, pk_lEQ, lgl, lgg, lge, n64, m8, m16, m24, m0, sh0, nI_add, pk_mul, nI_ltI, nI_leI, nI_eq, nI_clamp, pk_sub, pk_div, pk_rem, not_true_eq_false, not_false_eq_true, true_and, and_true, false_and, and_false, true_or, or_true, false_or, or_false, true_implies, false_implies, implies_true, if_true, if_false, Nat.not_lt_zero, Nat.add_zero, Nat.zero_add, and_self, eq_self, Nat.reduceLT, Nat.reduceLeDiff, Nat.reduceAdd, Nat.reduceEqDiff, Nat.reduceMul, Nat.reduceSub, Nat.reduceDiv, Nat.reduceMod, q1]
    · by_cases q2 : j < 32
      · have q3 : d < nI 0 ∨ nI 7 < d := by
          rw [nI_ltI hj (by omega), nI_ltI hj (by omega)] at q
          rcases q with q | q | q | q
          · omega
          · omega
          · exact Or.inl q
          · exact Or.inr q
        simp (disch := omega) only [wp_as, wp_ifp, wp_ifn, wp_some, wp_then, wp_bd, wp_ret, wp_optS, wp_optN, gk_wI, gz_wI, gR_wI, gk_wC, gz_wC, gR_wC, gk_wJ, gz_wJ, gR_wJ, lit, litL, bb, ite01, ite01n, nI_l, lN_add, lN_sub, in_eq, l_1, pk_lLT, pk_lEQ, lgl, lgg, lge, n64, m8, m16, m24, m0, sh0, nI_add, pk_mul, nI_ltI, nI_leI, nI_eq, nI_clamp, pk_sub, pk_div, pk_rem, not_true_eq_false, not_false_eq_true, true_and, and_true, false_and, and_false, true_or, or_true, false_or, or_false, true_implies, false_implies, implies_true, if_true, if_false, Nat.not_lt_zero, Nat.add_zero, Nat.zero_add, and_self, eq_self, Nat.reduceLT, Nat.reduceLeDiff, Nat.reduceAdd, Nat.reduceEqDiff, Nat.reduceMul, Nat.reduceSub, Nat.reduceDiv, Nat.reduceMod, n64g, q3]
      · simp (disch := omega) only [wp_as, wp_ifp, wp_ifn, wp_some, wp_then, wp_bd, wp_ret, wp_optS, wp_optN, gk_wI, gz_wI, gR_wI, gk_wC, gz_wC, gR_wC, gk_wJ, gz_wJ, gR_wJ, lit, litL, bb, ite01, ite01n, nI_l, lN_add, lN_sub, in_eq, l_1, pk_lLT, pk_lEQ, lgl, lgg, lge, n64, m8, m16, m24, m0, sh0, nI_add, pk_mul, nI_ltI, nI_leI, nI_eq, nI_clamp, pk_sub, pk_div, pk_rem, not_true_eq_false, not_false_eq_true, true_and, and_true, false_and, and_false, true_or, or_true, false_or, or_false, true_implies, false_implies, implies_true, if_true, if_false, Nat.not_lt_zero, Nat.add_zero, Nat.zero_add, and_self, eq_self, Nat.reduceLT, Nat.reduceLeDiff, Nat.reduceAdd, Nat.reduceEqDiff, Nat.reduceMul, Nat.reduceSub, Nat.reduceDiv, Nat.reduceMod]
  obtain ⟨r, h', e, rfl, rfl⟩ := this
  exact e
theorem c_command {F j : Nat} {a b c d : Int32} {h : ck_H} {m : Ms} (S : ShC h) (C : CMs h m) (hj : j < 32) (d0 : ¬ d < nI 0) (d7 : ¬ nI 7 < d) {P : Int32 → ck_H → Prop} (k : ∀ h', Ch wM h h' → CMs h' (sCmd m j a b c d) → P (nI 1) h') : wp (f_CS_command F 0 (nI j) a b c d h) P := by
  unfold f_CS_command f_Ch_setCommand
  simp (disch := omega) only [wp_as, wp_ifp, wp_ifn, wp_some, wp_then, wp_bd, wp_ret, wp_optS, wp_optN, gk_wI, gz_wI, gR_wI, gk_wC, gz_wC, gR_wC, gk_wJ, gz_wJ, gR_wJ, lit, litL, bb, ite01, ite01n, nI_l, lN_add, lN_sub, in_eq, l_1, pk_lLT, pk_lEQ, lgl, lgg, lge, n64, m8, m16, m24, m0, sh0, nI_add, pk_mul, nI_ltI, nI_leI, nI_eq, nI_clamp, pk_sub, pk_div, pk_rem, not_true_eq_false, not_false_eq_true, true_and, and_true, false_and, and_false, true_or, or_true, false_or, or_false, true_implies, false_implies, implies_true, if_true, if_false, Nat.not_lt_zero, Nat.add_zero, Nat.zero_add, and_self, eq_self, Nat.reduceLT, Nat.reduceLeDiff, Nat.reduceAdd, Nat.reduceEqDiff, Nat.reduceMul, Nat.reduceSub, Nat.reduceDiv, Nat.reduceMod, S.obj, S.chan, S.cmd hj, d0, d7]
  refine ⟨hj, k _ ?_ ?_⟩
  · have w : ∀ i, wM (337 + j) i = true := fun i => by simp [wM]; omega
    exact ((((Ch.refl h).wI (w _)).wI (w _)).wI (w _)).wI (w _)
  · obtain ⟨r1, r2, r3, r4, r5⟩ := C
    refine ⟨fun i hi => ?_, fun i f hi hf => ?_, fun k hk => ?_, ?_, fun u x hu hx => ?_⟩
    · simp only [gI_wI, sCmd, mM]
      rw [if_neg (by omega), if_neg (by omega), if_neg (by omega), if_neg (by omega)]
      exact r1 i hi
    · have hf' : f = 0 ∨ f = 1 ∨ f = 2 ∨ f = 3 := by omega
      simp only [gI_wI, sCmd, mC]
      by_cases e : i = j
      · subst e
        rcases hf' with rfl | rfl | rfl | rfl <;> simp
      · simp only [e, if_false]
        rw [if_neg (by omega), if_neg (by omega), if_neg (by omega), if_neg (by omega)]
        exact r2 i f hi hf
    · simp only [gI_wI, sCmd, mR]
      rw [if_neg (by omega), if_neg (by omega), if_neg (by omega), if_neg (by omega)]
      exact r3 k hk
    · exact r4
    · simp only [gI_wI, sCmd, mA]
      rw [if_neg (by unfold ua; omega), if_neg (by unfold ua; omega), if_neg (by unfold ua; omega), if_neg (by unfold ua; omega)]
      exact r5 u x hu hx
theorem r_command {F j : Nat} {a b c d : Int32} {h : ck_H} {m : Ms} (S : ShR h) (C : RMs h m) (hj : j < 32) (d0 : ¬ d < nI 0) (d7 : ¬ nI 7 < d) {P : Int32 → ck_H → Prop} (k : ∀ h', Ch rM h h' → RMs h' (sCmd m j a b c d) → P (nI 1) h') : wp (f_RM_command F 496 (nI j) a b c d h) P := by
  unfold f_RM_command
  simp (disch := omega) only [wp_as, wp_ifp, wp_ifn, wp_some, wp_then, wp_bd, wp_ret, wp_optS, wp_optN, gk_wI, gz_wI, gR_wI, gk_wC, gz_wC, gR_wC, gk_wJ, gz_wJ, gR_wJ, lit, litL, bb, ite01, ite01n, nI_l, lN_add, lN_sub, in_eq, l_1, pk_lLT, pk_lEQ, lgl, lgg, lge, n64, m8, m16, m24, m0, sh0, nI_add, pk_mul, nI_ltI, nI_leI, nI_eq, nI_clamp, pk_sub, pk_div, pk_rem, not_true_eq_false, not_false_eq_true, true_and, and_true, false_and, and_false, true_or, or_true, false_or, or_false, true_implies, false_implies, implies_true, if_true, if_false, Nat.not_lt_zero, Nat.add_zero, Nat.zero_add, and_self, eq_self, Nat.reduceLT, Nat.reduceLeDiff, Nat.reduceAdd, Nat.reduceEqDiff, Nat.reduceMul, Nat.reduceSub, Nat.reduceDiv, Nat.reduceMod, n64g, S.k, S.ops_, S.addresses_, S.lengths_, S.flags_, d0, d7]
  refine ⟨hj, hj, hj, hj, k _ (by repeat (first | exact Ch.refl _ | refine Ch.wI ?_ rfl | refine Ch.wC ?_ (fun _ => rfl) | refine Ch.wJ ?_ rfl)) ?_⟩
  obtain ⟨r1, r2, r3, r4, r5⟩ := C
  refine ⟨fun i hi => ?_, fun i f hi hf => ?_, fun k hk => ?_, ?_, fun u x hu hx => ?_⟩
  · simp only [gI_wI, sCmd, mM]
    rw [if_neg (by omega), if_neg (by omega), if_neg (by omega), if_neg (by omega)]
    exact r1 i hi
  · have hf' : f = 0 ∨ f = 1 ∨ f = 2 ∨ f = 3 := by omega
    have := r2 i f hi hf
    simp only [gI_wI, sCmd, mC]
    by_cases e : i = j
    · subst e
      rcases hf' with rfl | rfl | rfl | rfl <;> simp
    · simp only [e, and_false, if_false]
      exact this
  · simp only [gI_wI, sCmd, mR]
    rw [if_neg (by omega), if_neg (by omega), if_neg (by omega), if_neg (by omega)]
    exact r3 k hk
  · exact r4
  · simp only [gI_wI, sCmd, mA]
    rw [if_neg (by omega), if_neg (by omega), if_neg (by omega), if_neg (by omega)]
    exact r5 u x hu hx
/-! poke -/
def sMem (m : Ms) (f n : Nat) (b : Nat → Int8) : Ms := ((fun i => if f ≤ i ∧ i < f + n then b (i - f) else mM m i), m.2)
def wBM : Wd := fun a i => wB a i || wM a i
def rBM : Wd := fun a i => rB a i || rM a i
theorem c_poke0 {F : Nat} {v : Int32} {h : ck_H} {b : Bs} (S : ShC h) (C : CRow h 1 b) (q : v < nI 0 ∨ nI (2048 - b.1) < v) {P : Int32 → ck_H → Prop} (k : ∀ h', Ch wBM h h' → CRow h' 1 (0, b.2) → (∀ a i, wB a i = false → gI h' a i = gI h a i) → P (-2) h') : wp (f_CS_poke F 0 v h) P := by
  have hb := C.2.1
  unfold f_CS_poke
  simp (disch := omega) only [wp_as, wp_ifp, wp_ifn, wp_some, wp_then, wp_bd, wp_ret, wp_optS, wp_optN, gk_wI, gz_wI, gR_wI, gk_wC, gz_wC, gR_wC, gk_wJ, gz_wJ, gR_wJ, lit, litL, bb, ite01, ite01n, nI_l, lN_add, lN_sub, in_eq, l_1, pk_lLT, pk_lEQ, lgl, lgg, lge, n64, m8, m16, m24, m0, sh0, nI_add, pk_mul, nI_ltI, nI_leI, nI_eq, nI_clamp, pk_sub, pk_div, pk_rem, not_true_eq_false, not_false_eq_true, true_and, and_true, false_and, and_false, true_or, or_true, false_or, or_false, true_implies, false_implies, implies_true, if_true, if_false, Nat.not_lt_zero, Nat.add_zero, Nat.zero_add, and_self, eq_self, Nat.reduceLT, Nat.reduceLeDiff, Nat.reduceAdd, Nat.reduceEqDiff, Nat.reduceMul, Nat.reduceSub, Nat.reduceDiv, Nat.reduceMod, S.obj, S.buf.un, C.1]
  have kk : P (-nI 2) (wI h 1 1 (nI 0)) := by
    refine k _ (by repeat (first | exact Ch.refl _ | refine Ch.wI ?_ rfl | refine Ch.wC ?_ (fun _ => rfl) | refine Ch.wJ ?_ rfl)) ⟨by simp [gI_wI], by simp, fun i hi => by simp at hi⟩ fun a i w => ?_
    rw [gI_wI, if_neg]
    rintro ⟨rfl, _⟩
    cases w
  by_cases q1 : v < nI 0
  · simp (disch := omega) only [wp_as, wp_ifp, wp_ifn, wp_some, wp_then, wp_bd, wp_ret, wp_optS, wp_optN, gk_wI, gz_wI, gR_wI, gk_wC, gz_wC, gR_wC, gk_wJ, gz_wJ, gR_wJ, lit, litL, bb, ite01, ite01n, nI_l, lN_add, lN_sub, in_eq, l_1, pk_lLT, pk_lEQ, lgl, lgg, lge, n64, m8, m16, m24, m0, sh0, nI_add, pk_mul, nI_ltI, nI_leI, nI_eq, nI_clamp, pk_sub, pk_div, pk_rem, not_true_eq_false, not_false_eq_true, true_and, and_true, false_and, and_false, true_or, or_true, false_or, or_false, true_implies, false_implies, implies_true, if_true, if_false, Nat.not_lt_zero, Nat.add_zero, Nat.zero_add, and_self, eq_self, Nat.reduceLT, Nat.reduceLeDiff, Nat.reduceAdd, Nat.reduceEqDiff, Nat.reduceMul, Nat.reduceSub, Nat.reduceDiv, Nat.reduceMod, q1]
    exact kk
  · simp (disch := omega) only [wp_as, wp_ifp, wp_ifn, wp_some, wp_then, wp_bd, wp_ret, wp_optS, wp_optN, gk_wI, gz_wI, gR_wI, gk_wC, gz_wC, gR_wC, gk_wJ, gz_wJ, gR_wJ, lit, litL, bb, ite01, ite01n, nI_l, lN_add, lN_sub, in_eq, l_1, pk_lLT, pk_lEQ, lgl, lgg, lge, n64, m8, m16, m24, m0, sh0, nI_add, pk_mul, nI_ltI, nI_leI, nI_eq, nI_clamp, pk_sub, pk_div, pk_rem, not_true_eq_false, not_false_eq_true, true_and, and_true, false_and, and_false, true_or, or_true, false_or, or_false, true_implies, false_implies, implies_true, if_true, if_false, Nat.not_lt_zero, Nat.add_zero, Nat.zero_add, and_self, eq_self, Nat.reduceLT, Nat.reduceLeDiff, Nat.reduceAdd, Nat.reduceEqDiff, Nat.reduceMul, Nat.reduceSub, Nat.reduceDiv, Nat.reduceMod, q1, q.resolve_left q1]
    exact kk
theorem c_poke {F f : Nat} {h : ck_H} {b : Bs} {m : Ms} (S : ShC h) (C : CRow h 1 b) (M : CMs h m) (q : f + b.1 ≤ 2048) {P : Int32 → ck_H → Prop} (k : ∀ h', Ch wBM h h' → CRow h' 1 (0, b.2) → CMs h' (sMem m f b.1 b.2) → P (nI b.1) h') : wp (f_CS_poke F 0 (nI f) h) P := by
  have hb := C.2.1
  have e0 : Int32.ofNat 1200 = nI 1200 := rfl
  unfold f_CS_poke f_Ch_fill
  simp (disch := omega) only [wp_as, wp_ifp, wp_ifn, wp_some, wp_then, wp_bd, wp_ret, wp_optS, wp_optN, gk_wI, gz_wI, gR_wI, gk_wC, gz_wC, gR_wC, gk_wJ, gz_wJ, gR_wJ, lit, litL, bb, ite01, ite01n, nI_l, lN_add, lN_sub, in_eq, l_1, pk_lLT, pk_lEQ, lgl, lgg, lge, n64, m8, m16, m24, m0, sh0, nI_add, pk_mul, nI_ltI, nI_leI, nI_eq, nI_clamp, pk_sub, pk_div, pk_rem, not_true_eq_false, not_false_eq_true, true_and, and_true, false_and, and_false, true_or, or_true, false_or, or_false, true_implies, false_implies, implies_true, if_true, if_false, Nat.not_lt_zero, Nat.add_zero, Nat.zero_add, and_self, eq_self, Nat.reduceLT, Nat.reduceLeDiff, Nat.reduceAdd, Nat.reduceEqDiff, Nat.reduceMul, Nat.reduceSub, Nat.reduceDiv, Nat.reduceMod, S.obj, S.buf.un, S.chan, C.1, e0]
  refine ⟨⟨hb, q⟩, k _ (by repeat (first | exact Ch.refl _ | refine Ch.wI ?_ rfl | refine Ch.wC ?_ (fun _ => rfl) | refine Ch.wJ ?_ rfl)) ⟨by simp [gI_wI, gI_wC], by simp, fun i hi => by simp at hi⟩ ?_⟩
  obtain ⟨r1, r2, r3, r4, r5⟩ := M
  refine ⟨fun i hi => ?_, fun i f hi hf => ?_, fun k hk => ?_, ?_, fun u x hu hx => ?_⟩
  · rw [gI_wC, if_pos rfl]
    simp only [sMem, mM]
    by_cases e : f ≤ i ∧ i < f + b.1
    · rw [if_pos e, pk_cpy_in e.1 e.2, gI_wI, if_neg (by omega), Nat.zero_add, C.2.2 _ (by omega)]
    · rw [if_neg e, pk_cpy_out (by omega), gI_wI, if_neg (by omega)]
      exact r1 i hi
  · rw [gI_wC, if_neg (by omega), gI_wI, if_neg (by omega)]
    exact r2 i f hi hf
  · rw [gI_wC, if_neg (by omega), gI_wI, if_neg (by omega)]
    exact r3 k hk
  · exact r4
  · rw [gI_wC, if_neg (by unfold ua; omega), gI_wI, if_neg (by unfold ua; omega)]
    exact r5 u x hu hx
theorem r_read {F : Nat} {h : ck_H} {b : Bs} (S : ShR h) (C : RBuf h b) {P : Int32 → ck_H → Prop} (k : ∀ h', Ch rB h h' → gI h' 506 = gI h 506 → gI h' 496 11 = nI 0 → P (nI b.1) h') : wp (f_RM_read F 496 h) P := by
  unfold f_RM_read
  simp (disch := omega) only [wp_as, wp_ifp, wp_ifn, wp_some, wp_then, wp_bd, wp_ret, wp_optS, wp_optN, gk_wI, gz_wI, gR_wI, gk_wC, gz_wC, gR_wC, gk_wJ, gz_wJ, gR_wJ, lit, litL, bb, ite01, ite01n, nI_l, lN_add, lN_sub, in_eq, l_1, pk_lLT, pk_lEQ, lgl, lgg, lge, n64, m8, m16, m24, m0, sh0, nI_add, pk_mul, nI_ltI, nI_leI, nI_eq, nI_clamp, pk_sub, pk_div, pk_rem, not_true_eq_false, not_false_eq_true, true_and, and_true, false_and, and_false, true_or, or_true, false_or, or_false, true_implies, false_implies, implies_true, if_true, if_false, Nat.not_lt_zero, Nat.add_zero, Nat.zero_add, and_self, eq_self, Nat.reduceLT, Nat.reduceLeDiff, Nat.reduceAdd, Nat.reduceEqDiff, Nat.reduceMul, Nat.reduceSub, Nat.reduceDiv, Nat.reduceMod, S.k, C.1]
  have : gI (wI (wI h 496 13 (nI b.1)) 496 11 (nI 0)) 496 13 = nI b.1 := by simp [gI_wI]
  rw [this]
  exact k _ (by repeat (first | exact Ch.refl _ | refine Ch.wI ?_ rfl | refine Ch.wC ?_ (fun _ => rfl) | refine Ch.wJ ?_ rfl)) (by funext i; simp [gI_wI]) (by simp [gI_wI])
theorem r_poke0 {F : Nat} {v : Int32} {h : ck_H} {b : Bs} (S : ShR h) (C : RBuf h b) (q : v < nI 0 ∨ nI (2048 - b.1) < v) {P : Int32 → ck_H → Prop} (k : ∀ h', Ch rB h h' → RBuf h' (0, b.2) → P (-2) h') : wp (f_RM_poke F 496 v h) P := by
  have hb := C.2.1
  unfold f_RM_poke
  simp (disch := omega) only [wp_as, wp_ifp, wp_ifn, wp_some, wp_then, wp_bd, wp_ret, wp_optS, wp_optN, gk_wI, gz_wI, gR_wI, gk_wC, gz_wC, gR_wC, gk_wJ, gz_wJ, gR_wJ, lit, litL, bb, ite01, ite01n, nI_l, lN_add, lN_sub, in_eq, l_1, pk_lLT, pk_lEQ, lgl, lgg, lge, n64, m8, m16, m24, m0, sh0, nI_add, pk_mul, nI_ltI, nI_leI, nI_eq, nI_clamp, pk_sub, pk_div, pk_rem, not_true_eq_false, not_false_eq_true, true_and, and_true, false_and, and_false, true_or, or_true, false_or, or_false, true_implies, false_implies, implies_true, if_true, if_false, Nat.not_lt_zero, Nat.add_zero, Nat.zero_add, and_self, eq_self, Nat.reduceLT, Nat.reduceLeDiff, Nat.reduceAdd, Nat.reduceEqDiff, Nat.reduceMul, Nat.reduceSub, Nat.reduceDiv, Nat.reduceMod, S.k]
  refine r_read S C fun h1 c1 e1 e2 => ?_
  have kk := k h1 c1 ⟨e2, by simp, fun i hi => by simp at hi⟩
  rcases ng v with q1 | ⟨j, hj, rfl⟩
  · simp (disch := omega) only [wp_as, wp_ifp, wp_ifn, wp_some, wp_then, wp_bd, wp_ret, wp_optS, wp_optN, gk_wI, gz_wI, gR_wI, gk_wC, gz_wC, gR_wC, gk_wJ, gz_wJ, gR_wJ, lit, litL, bb, ite01, ite01n, nI_l, lN_add, lN_sub, in_eq, l_1, pk_lLT, pk_lEQ, lgl, lgg, lge, n64, m8, m16, m24, m0, sh0, nI_add, pk_mul, nI_ltI, nI_leI, nI_eq, nI_clamp, pk_sub, pk_div, pk_rem, not_true_eq_false, not_false_eq_true, true_and, and_true, false_and, and_false, true_or, or_true, false_or, or_false, true_implies, false_implies, implies_true, if_true, if_false, Nat.not_lt_zero, Nat.add_zero, Nat.zero_add, and_self, eq_self, Nat.reduceLT, Nat.reduceLeDiff, Nat.reduceAdd, Nat.reduceEqDiff, Nat.reduceMul, Nat.reduceSub, Nat.reduceDiv, Nat.reduceMod, q1]
    exact kk
  · rw [nI_ltI hj (by omega), nI_ltI (by omega) hj] at q
    simp (disch := omega) only [wp_as, wp_ifp, wp_ifn, wp_some, wp_then, wp_bd, wp_ret, wp_optS, wp_optN, gk_wI, gz_wI, gR_wI, gk_wC, gz_wC, gR_wC, gk_wJ, gz_wJ, gR_wJ, lit, litL, bb, ite01, ite01n, nI_l, lN_add, lN_sub, in_eq, l_1, pk_lLT, pk_lEQ, lgl, lgg, lge, n64, m8, m16, m24, m0, sh0, nI_add, pk_mul, nI_ltI, nI_leI, nI_eq, nI_clamp, pk_sub, pk_div, pk_rem, not_true_eq_false, not_false_eq_true, true_and, and_true, false_and, and_false, true_or, or_true, false_or, or_false, true_implies, false_implies, implies_true, if_true, if_false, Nat.not_lt_zero, Nat.add_zero, Nat.zero_add, and_self, eq_self, Nat.reduceLT, Nat.reduceLeDiff, Nat.reduceAdd, Nat.reduceEqDiff, Nat.reduceMul, Nat.reduceSub, Nat.reduceDiv, Nat.reduceMod]
    exact kk
theorem r_pokeL {F f N : Nat} {b : Nat → Int8} (hf : f + N ≤ 2048) (hN : N ≤ 1200) {P : Int32 → ck_H → Prop} : ∀ (d n i : Nat) (h : ck_H), i + d = N → d < n → ShR h → (∀ i, i < N → gI h 506 i = (b i).toInt32) → (∀ h', Ch (fun a _ => a == 508) h h' → (∀ j, gI h' 508 j = if f + i ≤ j ∧ j < f + N then (b (j - f)).toInt32 else gI h 508 j) → P (nI N) h') → wp (f_RM_poke_L26 F n 496 (nI f) (nI N) (nI i) h) P := by
  intro d
  induction d with
  | zero =>
    intro n i h hi hn S B k
    obtain ⟨n, rfl⟩ : ∃ n', n = n' + 1 := ⟨n - 1, by omega⟩
    unfold f_RM_poke_L26
    simp (disch := omega) only [wp_as, wp_ifp, wp_ifn, wp_some, wp_then, wp_bd, wp_ret, wp_optS, wp_optN, gk_wI, gz_wI, gR_wI, gk_wC, gz_wC, gR_wC, gk_wJ, gz_wJ, gR_wJ, lit, litL, bb, ite01, ite01n, nI_l, lN_add, lN_sub, in_eq, l_1, pk_lLT, pk_lEQ, lgl, lgg, lge, n64, m8, m16, m24, m0, sh0, nI_add, pk_mul, nI_ltI, nI_leI, nI_eq, nI_clamp, pk_sub, pk_div, pk_rem, not_true_eq_false, not_false_eq_true, true_and, and_true, false_and, and_false, true_or, or_true, false_or, or_false, true_implies, false_implies, implies_true, if_true, if_false, Nat.not_lt_zero, Nat.add_zero, Nat.zero_add, and_self, eq_self, Nat.reduceLT, Nat.reduceLeDiff, Nat.reduceAdd, Nat.reduceEqDiff, Nat.reduceMul, Nat.reduceSub, Nat.reduceDiv, Nat.reduceMod]
    exact k _ (Ch.refl h) fun j => by rw [if_neg (by omega)]
  | succ d ih =>
    intro n i h hi hn S B k
    obtain ⟨n, rfl⟩ : ∃ n', n = n' + 1 := ⟨n - 1, by omega⟩
    unfold f_RM_poke_L26
    simp (disch := omega) only [wp_as, wp_ifp, wp_ifn, wp_some, wp_then, wp_bd, wp_ret, wp_optS, wp_optN, gk_wI, gz_wI, gR_wI, gk_wC, gz_wC, gR_wC, gk_wJ, gz_wJ, gR_wJ, lit, litL, bb, ite01, ite01n, nI_l, lN_add, lN_sub, in_eq, l_1, pk_lLT, pk_lEQ, lgl, lgg, lge, n64, m8, m16, m24, m0, sh0, nI_add, pk_mul, nI_ltI, nI_leI, nI_eq, nI_clamp, pk_sub, pk_div, pk_rem, not_true_eq_false, not_false_eq_true, true_and, and_true, false_and, and_false, true_or, or_true, false_or, or_false, true_implies, false_implies, implies_true, if_true, if_false, Nat.not_lt_zero, Nat.add_zero, Nat.zero_add, and_self, eq_self, Nat.reduceLT, Nat.reduceLeDiff, Nat.reduceAdd, Nat.reduceEqDiff, Nat.reduceMul, Nat.reduceSub, Nat.reduceDiv, Nat.reduceMod, S.k, S.memory_, S.buffer_, B i (by omega)]
    refine ⟨by omega, by omega, ?_⟩
    have c1 : Ch (fun a _ => a == 508) h (wI h 508 (f + i) (b i).toInt32) := (by repeat (first | exact Ch.refl _ | refine Ch.wI ?_ rfl | refine Ch.wC ?_ (fun _ => rfl) | refine Ch.wJ ?_ rfl))
    refine ih n (i + 1) _ (by omega) (by omega) (S.ch c1) (fun j hj => ?_) fun h' c' e' => ?_
    · rw [gI_wI, if_neg (by omega)]
      exact B j hj
    · refine k _ (c1.trans c') fun j => ?_
      rw [e']
      by_cases e : f + (i + 1) ≤ j ∧ j < f + N
      · rw [if_pos e, if_pos (by omega)]
      · rw [if_neg e, gI_wI]
        by_cases e2 : j = f + i
        · subst e2
          rw [if_pos (by omega), if_pos (by omega), Nat.add_sub_cancel_left]
        · rw [if_neg (by omega), if_neg (by omega)]
theorem r_poke {F f : Nat} (hF : 1300 ≤ F) {h : ck_H} {b : Bs} {m : Ms} (S : ShR h) (C : RBuf h b) (M : RMs h m) (q : f + b.1 ≤ 2048) {P : Int32 → ck_H → Prop} (k : ∀ h', Ch rBM h h' → RBuf h' (0, b.2) → RMs h' (sMem m f b.1 b.2) → P (nI b.1) h') : wp (f_RM_poke F 496 (nI f) h) P := by
  have hb := C.2.1
  unfold f_RM_poke
  simp (disch := omega) only [wp_as, wp_ifp, wp_ifn, wp_some, wp_then, wp_bd, wp_ret, wp_optS, wp_optN, gk_wI, gz_wI, gR_wI, gk_wC, gz_wC, gR_wC, gk_wJ, gz_wJ, gR_wJ, lit, litL, bb, ite01, ite01n, nI_l, lN_add, lN_sub, in_eq, l_1, pk_lLT, pk_lEQ, lgl, lgg, lge, n64, m8, m16, m24, m0, sh0, nI_add, pk_mul, nI_ltI, nI_leI, nI_eq, nI_clamp, pk_sub, pk_div, pk_rem, not_true_eq_false, not_false_eq_true, true_and, and_true, false_and, and_false, true_or, or_true, false_or, or_false, true_implies, false_implies, implies_true, if_true, if_false, Nat.not_lt_zero, Nat.add_zero, Nat.zero_add, and_self, eq_self, Nat.reduceLT, Nat.reduceLeDiff, Nat.reduceAdd, Nat.reduceEqDiff, Nat.reduceMul, Nat.reduceSub, Nat.reduceDiv, Nat.reduceMod, S.k]
  refine r_read S C fun h1 c1 e1 e2 => ?_
  simp (disch := omega) only [wp_as, wp_ifp, wp_ifn, wp_some, wp_then, wp_bd, wp_ret, wp_optS, wp_optN, gk_wI, gz_wI, gR_wI, gk_wC, gz_wC, gR_wC, gk_wJ, gz_wJ, gR_wJ, lit, litL, bb, ite01, ite01n, nI_l, lN_add, lN_sub, in_eq, l_1, pk_lLT, pk_lEQ, lgl, lgg, lge, n64, m8, m16, m24, m0, sh0, nI_add, pk_mul, nI_ltI, nI_leI, nI_eq, nI_clamp, pk_sub, pk_div, pk_rem, not_true_eq_false, not_false_eq_true, true_and, and_true, false_and, and_false, true_or, or_true, false_or, or_false, true_implies, false_implies, implies_true, if_true, if_false, Nat.not_lt_zero, Nat.add_zero, Nat.zero_add, and_self, eq_self, Nat.reduceLT, Nat.reduceLeDiff, Nat.reduceAdd, Nat.reduceEqDiff, Nat.reduceMul, Nat.reduceSub, Nat.reduceDiv, Nat.reduceMod]
  refine r_pokeL q hb b.1 F 0 h1 (by omega) (by omega) (S.ch c1) (b := b.2) (fun i hi => by rw [e1]; exact C.2.2 i hi) fun h' c' e' => ?_
  have M1 : RMs h1 m := M.ch c1 (fun a i w => by revert w; simp [rB, rM]; omega)
  refine k _ ((c1.mono fun a i w => by simp [rBM, w]).trans (c'.mono fun a i w => by simp at w; subst w; rfl)) ⟨?_, by simp, fun i hi => by simp at hi⟩ ?_
  · rw [c'.gI rfl]
    exact e2
  · obtain ⟨r1, r2, r3, r4, r5⟩ := M1
    refine ⟨fun i hi => ?_, fun i f hi hf => ?_, fun k hk => ?_, ?_, fun u x hu hx => ?_⟩
    · rw [e']
      simp only [sMem, mM, Nat.add_zero]
      by_cases e : f ≤ i ∧ i < f + b.1
      · rw [if_pos e, if_pos e]
      · rw [if_neg e, if_neg e]
        exact r1 i hi
    · rw [c'.gI (by simp; omega)]
      exact r2 i f hi hf
    · rw [c'.gI rfl]
      exact r3 k hk
    · rw [c'.gJ rfl]
      exact r4
    · rw [c'.gI (by simp; omega)]
      exact r5 u x hu hx
