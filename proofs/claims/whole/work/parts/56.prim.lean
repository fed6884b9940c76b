/-! ===== what the steps of a program are made of ===== -/
variable {z h h' g g' : ck_H} {q : Q} {L F : Nat} {P : Unit → ck_H → Prop} {PI : Int32 → ck_H → Prop}
def gt (t p : Nat) : Nat := t + (p + 1500 - t % 1500) % 1500
theorem l_rot {p r : Nat} (h : r ≤ 1500) : lN p - lN r + lN 1500 = lN (p + 1500 - r) := by
  rw [show lN 1500 = lN r + lN (1500 - r) from by rw [lN_add]; congr 1; omega, ← Int64.add_assoc, Int64.sub_add_cancel, lN_add]
  congr 1
  omega
theorem c_goTo {p : Nat} (C : CQ z h q) (hp : p ≤ 1500) (hT : qT q < 2 ^ 60) (k : ∀ h', CQ z h' (uT q (gt (qT q) p)) → P () h') : wp (f_Ch_goTo F 334 (nI p) h) P := by
  have e := C.uT (gt (qT q) p)
  unfold f_Ch_goTo
  have e1 : lN (qT q) - lN (qT q) / lN 1500 * lN 1500 = lN (qT q % 1500) := pk_lRem (by omega) (by omega) (by omega)
  have e2 : lN p - lN (qT q % 1500) + lN 1500 = lN (p + 1500 - qT q % 1500) := l_rot (by omega)
  have e3 : lN (p + 1500 - qT q % 1500) - lN (p + 1500 - qT q % 1500) / lN 1500 * lN 1500 = lN ((p + 1500 - qT q % 1500) % 1500) := pk_lRem (by omega) (by omega) (by omega)
  have e4 : (nI p).toInt64 = lN p := nI_l (by omega)
  rw [x_as C.sh.chan.1, C.t]
  show wp (some ((), wJ h 334 7 (lN (qT q) + (((nI p).toInt64 - (lN (qT q) - lN (qT q) / lN 1500 * lN 1500)) + lN 1500 - (((nI p).toInt64 - (lN (qT q) - lN (qT q) / lN 1500 * lN 1500)) + lN 1500) / lN 1500 * lN 1500)))) P
  rw [e1, e4, e2, e3, lN_add]
  exact wp_ret.2 (k _ e)
theorem c_place (C : CQ z h q) (hT : qT q < 2 ^ 60) : f_Ch_place F 334 h = some (nI (qT q % 1500), h) := by
  unfold f_Ch_place
  rw [x_as C.sh.chan.1, C.t]
  show some ((lN (qT q) - lN (qT q) / lN 1500 * lN 1500).toInt32, h) = _
  rw [pk_lRem (by omega) (by omega) (by omega), lN_i]
theorem c_stop {e : Nat} (C : CQ z h q) (e0 : e ≠ 0) (k : ∀ h', CQ z h' (uE q e) → P () h') : wp (f_Ch_stop F 334 (nI e) h) P := by
  unfold f_Ch_stop
  rw [x_as C.sh.chan.1]
  exact wp_ret.2 (k _ (C.uE e0))
theorem c_setPoint {p : Nat} {v : Int32} (j : Nat) (C : CQ z h q) (hv : 2 ≤ p → v = nI j) (k : ∀ h', CQ z h' (uP q p j) → P () h') : wp (f_Ch_setPoint F 334 (nI p) v h) P := by
  unfold f_Ch_setPoint
  rw [x_as C.sh.chan.1]
  exact wp_ret.2 (k _ (C.uP p j hv))
theorem c_skip0 (k : P () h) : wp (f_Ch_skipIf F 334 (nI 0) h) P := by
  unfold f_Ch_skipIf
  exact wp_ret.2 k
theorem c_skip1 (C : CQ z h q) (e : qE q = 0) (k : ∀ h', CQ z h' (uN q (qN q + 1)) → P () h') : wp (f_Ch_skipIf F 334 (nI 1) h) P := by
  unfold f_Ch_skipIf
  rw [if_neg (by decide), x_as C.sh.chan.1, (C.r e).1]
  refine wp_ret.2 (k _ ?_)
  show CQ z (wI h 334 3 (nI (qN q) + nI 1)) _
  rw [nI_add]
  exact C.uN e _
theorem qW_lt (I : IQ q) : qW q < 80 * qU q + 80 ∧ qW q < 160 := by
  have := I.2.1 _ I.1
  have := I.1
  unfold qW
  omega
theorem c_track (C : CQ z h q) (I : IQ q) : f_Ch_track F 334 h = some (some (ta (qW q)), h) := by
  obtain ⟨hu, ha, -⟩ := I
  have a0 : gI h (ua (qU q)) 1 = nI (mA (qM q) (qU q) 0) := C.arm _ 0 hu (by decide)
  have a1 : gI h (ua (qU q)) 2 = nI (mA (qM q) (qU q) 1) := C.arm _ 1 hu (by decide)
  have := ha _ hu
  unfold f_Ch_track qW
  apply wp_out
  generalize mA (qM q) (qU q) 0 = c at *
  generalize mA (qM q) (qU q) 1 = d at *
  have e : c * 4 + d - (c * 4 + d) / 80 * 80 = 4 * c + d := by omega
  have t := C.sh.tref (t := 4 * c + d) (by omega)
  have cu := C.un
  have : qU q = 0 ∨ qU q = 1 := by omega
  rcases this with e0 | e0
  · rw [e0] at a0 a1 cu ⊢
    have su := C.sh.unit (u := 0) (by decide)
    have s1 : gk h 11 = 19 := su.2.2.1
    have s2 : gz h 11 = 80 := su.2.2.2
    simp (disch := omega) only [wp_as, wp_ifp, wp_ifn, wp_some, wp_then, wp_bd, wp_ret, wp_optS, wp_optN, gk_wI, gz_wI, gR_wI, gk_wC, gz_wC, gR_wC, gk_wJ, gz_wJ, gR_wJ, lit, litL, bb, ite01, ite01n, nI_l, lN_add, lN_sub, in_eq, l_1, pk_lLT, pk_lEQ, lgl, lgg, lge, n64,  m8, m16, m24, m0, sh0, nI_add, pk_mul, nI_ltI, nI_leI, nI_eq, nI_clamp, pk_sub, pk_div, pk_rem, not_true_eq_false, not_false_eq_true, true_and, and_true, false_and, and_false, true_or, or_true, false_or, or_false, true_implies, false_implies, implies_true, if_true, if_false, Nat.not_lt_zero, Nat.add_zero, Nat.zero_add, and_self, eq_self, Bool.false_eq_true, Nat.reduceLT, Nat.reduceLeDiff, Nat.reduceAdd, Nat.reduceEqDiff, Nat.reduceMul, Nat.reduceSub, Nat.reduceDiv, Nat.reduceMod, ub_and, b0, b1, ub_n, C.sh.chan, cu, su.1, su.2.1, s1, s2, a0, a1, e, show ua 0 + 1 = 11 from rfl, t]
    omega
  · rw [e0] at a0 a1 cu ⊢
    have su := C.sh.unit (u := 1) (by decide)
    have s1 : gk h 173 = 19 := su.2.2.1
    have s2 : gz h 173 = 80 := su.2.2.2
    simp (disch := omega) only [wp_as, wp_ifp, wp_ifn, wp_some, wp_then, wp_bd, wp_ret, wp_optS, wp_optN, gk_wI, gz_wI, gR_wI, gk_wC, gz_wC, gR_wC, gk_wJ, gz_wJ, gR_wJ, lit, litL, bb, ite01, ite01n, nI_l, lN_add, lN_sub, in_eq, l_1, pk_lLT, pk_lEQ, lgl, lgg, lge, n64,  m8, m16, m24, m0, sh0, nI_add, pk_mul, nI_ltI, nI_leI, nI_eq, nI_clamp, pk_sub, pk_div, pk_rem, not_true_eq_false, not_false_eq_true, true_and, and_true, false_and, and_false, true_or, or_true, false_or, or_false, true_implies, false_implies, implies_true, if_true, if_false, Nat.not_lt_zero, Nat.add_zero, Nat.zero_add, and_self, eq_self, Bool.false_eq_true, Nat.reduceLT, Nat.reduceLeDiff, Nat.reduceAdd, Nat.reduceEqDiff, Nat.reduceMul, Nat.reduceSub, Nat.reduceDiv, Nat.reduceMod, ub_and, b0, b1, ub_n, C.sh.chan, cu, su.1, su.2.1, s1, s2, a0, a1, e, show ua 1 + 1 = 173 from rfl, t]
    omega
theorem c_byteAt {i : Nat} (C : CQ z h q) (hi : i < 2048) : f_Ch_byteAt F 334 (nI i) h = some (nI (ub (mM (qM q) i)), h) := by
  unfold f_Ch_byteAt
  apply wp_out
  simp (disch := omega) only [wp_as, wp_ifp, wp_ifn, wp_some, wp_then, wp_bd, wp_ret, wp_optS, wp_optN, gk_wI, gz_wI, gR_wI, gk_wC, gz_wC, gR_wC, gk_wJ, gz_wJ, gR_wJ, lit, litL, bb, ite01, ite01n, nI_l, lN_add, lN_sub, in_eq, l_1, pk_lLT, pk_lEQ, lgl, lgg, lge, n64,  m8, m16, m24, m0, sh0, nI_add, pk_mul, nI_ltI, nI_leI, nI_eq, nI_clamp, pk_sub, pk_div, pk_rem, not_true_eq_false, not_false_eq_true, true_and, and_true, false_and, and_false, true_or, or_true, false_or, or_false, true_implies, false_implies, implies_true, if_true, if_false, Nat.not_lt_zero, Nat.add_zero, Nat.zero_add, and_self, eq_self, Bool.false_eq_true, Nat.reduceLT, Nat.reduceLeDiff, Nat.reduceAdd, Nat.reduceEqDiff, Nat.reduceMul, Nat.reduceSub, Nat.reduceDiv, Nat.reduceMod, ub_and, b0, b1, ub_n, C.sh.chan, C.mem i hi, hi]
theorem r_track (C : RQ z L g q) (I : IQ q) : f_RM_track F 496 g = some (nI (qW q), g) := by
  obtain ⟨hu, ha, -⟩ := I
  have a0 : gI g 513 (qU q) = nI (mA (qM q) (qU q) 0) := C.arm _ 0 hu (by decide)
  have a1 : gI g 514 (qU q) = nI (mA (qM q) (qU q) 1) := C.arm _ 1 hu (by decide)
  have := ha _ hu
  unfold f_RM_track qW
  apply wp_out
  simp (disch := omega) only [wp_as, wp_ifp, wp_ifn, wp_some, wp_then, wp_bd, wp_ret, wp_optS, wp_optN, gk_wI, gz_wI, gR_wI, gk_wC, gz_wC, gR_wC, gk_wJ, gz_wJ, gR_wJ, lit, litL, bb, ite01, ite01n, nI_l, lN_add, lN_sub, in_eq, l_1, pk_lLT, pk_lEQ, lgl, lgg, lge, n64,  m8, m16, m24, m0, sh0, nI_add, pk_mul, nI_ltI, nI_leI, nI_eq, nI_clamp, pk_sub, pk_div, pk_rem, not_true_eq_false, not_false_eq_true, true_and, and_true, false_and, and_false, true_or, or_true, false_or, or_false, true_implies, false_implies, implies_true, if_true, if_false, Nat.not_lt_zero, Nat.add_zero, Nat.zero_add, and_self, eq_self, Bool.false_eq_true, Nat.reduceLT, Nat.reduceLeDiff, Nat.reduceAdd, Nat.reduceEqDiff, Nat.reduceMul, Nat.reduceSub, Nat.reduceDiv, Nat.reduceMod, ub_and, b0, b1, ub_n, C.sh.k, C.sh.armCylinder_, C.sh.armHead_, C.u, a0, a1, Nat.add_assoc, hu]
theorem neg_lN {a b : Nat} (h : a ≤ b) : lN a - lN b = -lN (b - a) := by
  have e : lN b = lN a + lN (b - a) := by rw [lN_add]; congr 1; omega
  rw [e, Int64.sub_eq_add_neg, Int64.neg_add, Int64.sub_eq_add_neg, ← Int64.add_assoc, ← Int64.sub_eq_add_neg (lN a) (lN a), Int64.sub_self, Int64.zero_add]
theorem neg_toInt {n : Nat} (h : n < 2 ^ 62) : (-lN n).toInt = -(n : Int) := by
  rw [Int64.toInt_neg, pk_lT (by omega), Int.bmod_eq_of_le (by omega) (by omega)]
theorem neg_div {n : Nat} (h : n < 2 ^ 62) : -lN n / lN 1500 = -lN (n / 1500) := by
  apply Int64.toInt_inj.1
  rw [Int64.toInt_div, neg_toInt h, pk_lT (by omega), neg_toInt (by omega), Int.neg_tdiv, show ((n : Int).tdiv ((1500 : Nat) : Int)) = ((n / 1500 : Nat) : Int) from rfl, Int.bmod_eq_of_le (by omega) (by omega)]
theorem neg_iff (y : Int64) : y < lN 0 ↔ y.toBitVec.msb = true := by
  rw [BitVec.msb_eq_toInt, decide_eq_true_iff, Int64.lt_iff_toInt_lt, ← Int64.toInt_toBitVec]
  rfl
theorem xor_neg {x : Int64} : (x ^^^ lN 1500) < lN 0 ↔ x < lN 0 := by
  rw [neg_iff, neg_iff, Int64.toBitVec_xor, BitVec.msb_xor, show (lN 1500).toBitVec.msb = false from by decide, Bool.xor_false]
theorem fm_eq {p t : Nat} (hp : p ≤ 1500) (ht : t < 2 ^ 60) : f_Ma_floorMod F (lN p - lN t) (lN 1500) g = some (lN ((p + 1500 - t % 1500) % 1500), g) := by
  unfold f_Ma_floorMod
  rw [x_as (by decide)]
  by_cases q : t ≤ p
  · rw [lN_sub q]
    show (if lg_cmp (lN (p - t) ^^^ lN 1500) (lN 0) < nI 0 then _ else some (lN (p - t) - lN (p - t) / lN 1500 * lN 1500, g)) = _
    rw [if_neg (fun e => by
      have := xor_neg.1 ((lgl _ _).1 e)
      rw [pk_lLT (by omega) (by omega)] at this
      omega), pk_lRem (by omega) (by omega) (by omega)]
    congr 3
    omega
  · rw [neg_lN (by omega)]
    have e1 : -lN (t - p) - -lN (t - p) / lN 1500 * lN 1500 = -lN ((t - p) % 1500) := by
      rw [neg_div (by omega), Int64.neg_mul, Int64.sub_neg, lN_mul, Int64.add_comm, ← Int64.sub_eq_add_neg, neg_lN (by omega)]
      congr 2
      omega
    have e2 : (-lN (t - p) ^^^ lN 1500) < lN 0 := by
      rw [xor_neg, Int64.lt_iff_toInt_lt, neg_toInt (by omega), pk_lT (by omega)]
      omega
    show (if lg_cmp (-lN (t - p) ^^^ lN 1500) (lN 0) < nI 0 then (if lg_cmp (-lN (t - p) - -lN (t - p) / lN 1500 * lN 1500) (lN 0) = nI 0 then some (-lN (t - p) - -lN (t - p) / lN 1500 * lN 1500, g) else some (-lN (t - p) - -lN (t - p) / lN 1500 * lN 1500 + lN 1500, g)) else _) = _
    rw [if_pos ((lgl _ _).2 e2), e1]
    by_cases z : (t - p) % 1500 = 0
    · rw [z, if_pos ((lge _ _).2 (by decide))]
      congr 2
      rw [show (p + 1500 - t % 1500) % 1500 = 0 from by omega]
      decide
    · rw [if_neg (fun e => by
        have := (lge _ _).1 e
        have : (-lN ((t - p) % 1500)).toInt = (lN 0).toInt := by rw [this]
        rw [neg_toInt (by omega), pk_lT (by omega)] at this
        omega), Int64.add_comm, ← Int64.sub_eq_add_neg, lN_sub (by omega)]
      congr 3
      omega
theorem r_goTo {p : Nat} (C : RQ z L g q) (hp : p ≤ 1500) (hT : qT q < 2 ^ 60) (k : ∀ h', RQ z L h' (uT q (gt (qT q) p)) → P () h') : wp (f_RM_goTo F 496 (nI p) g) P := by
  have e := C.uT (gt (qT q) p)
  unfold f_RM_goTo
  rw [x_as C.sh.k, C.t, nI_l (by omega)]
  show wp (ck_bd (f_Ma_floorMod F (lN p - lN (qT q)) (lN 1500) g) _) P
  rw [fm_eq hp hT, x_bd, x_as C.sh.k, lN_add]
  exact wp_ret.2 (k _ e)
theorem r_held0 (k : PI (-1) g) : wp (f_RM_held F 496 (nI 0) g) PI := by
  unfold f_RM_held
  exact wp_ret.2 k
theorem r_held1 (C : RQ z L g q) (e : qE q = 0) (k : ∀ h', RQ z L h' (uN q (qN q + 1)) → PI (-1) h') : wp (f_RM_held F 496 (nI 1) g) PI := by
  unfold f_RM_held
  rw [if_neg (by decide), x_as C.sh.k, (C.r e).1]
  refine wp_ret.2 (k _ ?_)
  show RQ z L (wI g 496 31 (nI (qN q) + nI 1)) _
  rw [nI_add]
  exact C.uN _
