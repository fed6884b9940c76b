/-! ===== rows of bytes of the class ===== -/
def Row (h : ck_H) (r : Nat) : Prop := gk h r = 6 ∧ gR h r 0 = some (r + 1) ∧ gk h (r + 1) = 13 ∧ gz h (r + 1) = 1200
def CRow (h : ck_H) (r : Nat) (b : Bs) : Prop := gI h r 1 = nI b.1 ∧ b.1 ≤ 1200 ∧ ∀ i, i < b.1 → gI h (r + 1) i = (b.2 i).toInt32
theorem Row.un {h : ck_H} {r : Nat} (R : Row h r) : gk h r = 6 ∧ gR h r 0 = some (r + 1) ∧ gk h (r + 1) = 13 ∧ gz h (r + 1) = 1200 := R
theorem Row.ch {W : Wd} {h h' : ck_H} {r : Nat} (R : Row h r) (c : Ch W h h') : Row h' r :=
  ⟨(c.gk _).trans R.1, (c.gR _ _).trans R.2.1, (c.gk _).trans R.2.2.1, (c.gz _).trans R.2.2.2⟩
theorem CRow.ch {W : Wd} {h h' : ck_H} {r : Nat} {b : Bs} (R : CRow h r b) (c : Ch W h h') (w0 : W r 1 = false) (w1 : ∀ i, W (r + 1) i = false) : CRow h' r b :=
  ⟨(c.gI w0).trans R.1, R.2.1, fun i hi => (c.gI (w1 _)).trans (R.2.2 i hi)⟩
theorem CRow.cg {h : ck_H} {r : Nat} {b b' : Bs} (R : CRow h r b) (e1 : b'.1 = b.1) (e2 : ∀ i, i < b.1 → b'.2 i = b.2 i) : CRow h r b' :=
  ⟨e1 ▸ R.1, e1 ▸ R.2.1, fun i hi => by rw [e1] at hi; rw [e2 i hi]; exact R.2.2 i hi⟩
theorem t_addByte {F r : Nat} {v : Int32} {h : ck_H} {b : Bs} (R : Row h r) (C : CRow h r b) (hb : b.1 < 1200) {W : Wd} (w0 : W r 1 = true) (w1 : ∀ i, W (r + 1) i = true) {P : Unit → ck_H → Prop} (k : ∀ h', Ch W h h' → CRow h' r (bCat b 1 (fun _ => v.toInt8)) → P () h') : wp (f_Rw_addByte F r v h) P := by
  obtain ⟨k0, r0, k1, z1⟩ := R
  obtain ⟨s0, s1, s2⟩ := C
  unfold f_Rw_addByte
  simp (disch := omega) only [wp_as, wp_ifp, wp_ifn, wp_some, wp_then, wp_bd, wp_ret, wp_optS, wp_optN, gk_wI, gz_wI, gR_wI, gk_wC, gz_wC, gR_wC, gk_wJ, gz_wJ, gR_wJ, lit, litL, bb, ite01, ite01n, nI_l, lN_add, lN_sub, in_eq, l_1, pk_lLT, pk_lEQ, lgl, lgg, lge, n64, m8, m16, m24, m0, sh0, nI_add, pk_mul, nI_ltI, nI_leI, nI_eq, nI_clamp, pk_sub, pk_div, pk_rem, not_true_eq_false, not_false_eq_true, true_and, and_true, false_and, and_false, true_or, or_true, false_or, or_false, true_implies, false_implies, implies_true, if_true, if_false, Nat.not_lt_zero, Nat.add_zero, Nat.zero_add, and_self, eq_self, Nat.reduceLT, Nat.reduceLeDiff, Nat.reduceAdd, Nat.reduceEqDiff, Nat.reduceMul, Nat.reduceSub, Nat.reduceDiv, Nat.reduceMod, k0, r0, k1, z1, s0, hb]
  refine k _ (((Ch.refl h).wI (w1 _)).wI w0) ⟨?_, by rw [bCat_1]; omega, fun i hi => ?_⟩
  · simp [gI_wI, s0, nI_add, bCat]
  · rw [bCat_1] at hi
    simp only [gI_wI]
    by_cases e : i = b.1
    · subst e
      simp [bCat]
    · have : i < b.1 := by omega
      simp [e, bCat_lo this, s2 i this]
theorem t_addPair {F r : Nat} {v : Int32} {h : ck_H} {b : Bs} (R : Row h r) (C : CRow h r b) (hb : b.1 + 2 ≤ 1200) {W : Wd} (w0 : W r 1 = true) (w1 : ∀ i, W (r + 1) i = true) {P : Unit → ck_H → Prop} (k : ∀ h', Ch W h h' → CRow h' r (bCat b 2 (pby v)) → P () h') : wp (f_Rw_addPair F r v h) P := by
  unfold f_Rw_addPair
  simp (disch := omega) only [wp_as, wp_ifp, wp_ifn, wp_some, wp_then, wp_bd, wp_ret, wp_optS, wp_optN, gk_wI, gz_wI, gR_wI, gk_wC, gz_wC, gR_wC, gk_wJ, gz_wJ, gR_wJ, lit, litL, bb, ite01, ite01n, nI_l, lN_add, lN_sub, in_eq, l_1, pk_lLT, pk_lEQ, lgl, lgg, lge, n64, m8, m16, m24, m0, sh0, nI_add, pk_mul, nI_ltI, nI_leI, nI_eq, nI_clamp, pk_sub, pk_div, pk_rem, not_true_eq_false, not_false_eq_true, true_and, and_true, false_and, and_false, true_or, or_true, false_or, or_false, true_implies, false_implies, implies_true, if_true, if_false, Nat.not_lt_zero, Nat.add_zero, Nat.zero_add, and_self, eq_self, Nat.reduceLT, Nat.reduceLeDiff, Nat.reduceAdd, Nat.reduceEqDiff, Nat.reduceMul, Nat.reduceSub, Nat.reduceDiv, Nat.reduceMod, R.1]
  refine t_addByte R C (by omega) w0 w1 fun h1 c1 C1 => ?_
  refine ⟨(R.ch c1).1, ?_⟩
  refine t_addByte (R.ch c1) C1 (by rw [bCat_1]; omega) w0 w1 fun h2 c2 C2 => ?_
  refine k _ (c1.trans c2) (C2.cg rfl fun i hi => ?_)
  simp only [bCat] at hi ⊢
  by_cases e : i < b.1
  · simp [e, Nat.lt_succ_of_lt e]
  · by_cases e2 : i = b.1
    · subst e2
      simp [pby]
    · have : i = b.1 + 1 := by omega
      subst this
      simp [pby, e]
theorem t_addWord {F r : Nat} {v : Int32} {h : ck_H} {b : Bs} (R : Row h r) (C : CRow h r b) (hb : b.1 + 4 ≤ 1200) {W : Wd} (w0 : W r 1 = true) (w1 : ∀ i, W (r + 1) i = true) {P : Unit → ck_H → Prop} (k : ∀ h', Ch W h h' → CRow h' r (bCat b 4 (wby v)) → P () h') : wp (f_Rw_addWord F r v h) P := by
  unfold f_Rw_addWord
  simp (disch := omega) only [wp_as, wp_ifp, wp_ifn, wp_some, wp_then, wp_bd, wp_ret, wp_optS, wp_optN, gk_wI, gz_wI, gR_wI, gk_wC, gz_wC, gR_wC, gk_wJ, gz_wJ, gR_wJ, lit, litL, bb, ite01, ite01n, nI_l, lN_add, lN_sub, in_eq, l_1, pk_lLT, pk_lEQ, lgl, lgg, lge, n64, m8, m16, m24, m0, sh0, nI_add, pk_mul, nI_ltI, nI_leI, nI_eq, nI_clamp, pk_sub, pk_div, pk_rem, not_true_eq_false, not_false_eq_true, true_and, and_true, false_and, and_false, true_or, or_true, false_or, or_false, true_implies, false_implies, implies_true, if_true, if_false, Nat.not_lt_zero, Nat.add_zero, Nat.zero_add, and_self, eq_self, Nat.reduceLT, Nat.reduceLeDiff, Nat.reduceAdd, Nat.reduceEqDiff, Nat.reduceMul, Nat.reduceSub, Nat.reduceDiv, Nat.reduceMod, R.1]
  refine t_addPair R C (by omega) w0 w1 fun h1 c1 C1 => ?_
  refine ⟨(R.ch c1).1, ?_⟩
  refine t_addPair (R.ch c1) C1 (by rw [bCat_1]; omega) w0 w1 fun h2 c2 C2 => ?_
  refine k _ (c1.trans c2) (C2.cg rfl fun i hi => ?_)
  simp only [bCat] at hi ⊢
  by_cases e : i < b.1
  · simp [e, Nat.lt_add_right 2 e]
  · obtain ⟨j, rfl⟩ : ∃ j, i = b.1 + j := ⟨i - b.1, by omega⟩
    have hj : j = 0 ∨ j = 1 ∨ j = 2 ∨ j = 3 := by omega
    rcases hj with rfl | rfl | rfl | rfl
    · simp [pby, wby, sh16_8]
    · simp [pby, wby, e]
    · simp [pby, wby, e]
    · simp [pby, wby, e]
/-- bytes of an array that holds these -/
theorem t_addAll {F r a f n : Nat} {h : ck_H} {b : Bs} {g : Nat → Int8} (R : Row h r) (C : CRow h r b) (ka : gk h a = 13) (za : f + n ≤ gz h a) (zb : gz h a < 2 ^ 31) (hg : ∀ i, i < n → gI h a (f + i) = (g i).toInt32) (hb : b.1 + n ≤ 1200) {W : Wd} (w0 : W r 1 = true) (w1 : ∀ i, W (r + 1) i = true) {P : Unit → ck_H → Prop} (k : ∀ h', Ch W h h' → CRow h' r (bCat b n g) → P () h') : wp (f_Rw_addAll F r a (nI f) (nI n) h) P := by
  obtain ⟨k0, r0, k1, z1⟩ := R
  obtain ⟨s0, s1, s2⟩ := C
  have e1 : Int32.ofNat (gz h a) = nI (gz h a) := rfl
  unfold f_Rw_addAll
  simp (disch := omega) only [wp_as, wp_ifp, wp_ifn, wp_some, wp_then, wp_bd, wp_ret, wp_optS, wp_optN, gk_wI, gz_wI, gR_wI, gk_wC, gz_wC, gR_wC, gk_wJ, gz_wJ, gR_wJ, lit, litL, bb, ite01, ite01n, nI_l, lN_add, lN_sub, in_eq, l_1, pk_lLT, pk_lEQ, lgl, lgg, lge, n64, m8, m16, m24, m0, sh0, nI_add, pk_mul, nI_ltI, nI_leI, nI_eq, nI_clamp, pk_sub, pk_div, pk_rem, not_true_eq_false, not_false_eq_true, true_and, and_true, false_and, and_false, true_or, or_true, false_or, or_false, true_implies, false_implies, implies_true, if_true, if_false, Nat.not_lt_zero, Nat.add_zero, Nat.zero_add, and_self, eq_self, Nat.reduceLT, Nat.reduceLeDiff, Nat.reduceAdd, Nat.reduceEqDiff, Nat.reduceMul, Nat.reduceSub, Nat.reduceDiv, Nat.reduceMod, k0, r0, k1, z1, s0, hb, ka, e1]
  refine ⟨za, k _ (((Ch.refl h).wC w1).wI w0) ⟨?_, by rw [bCat_1]; omega, fun i hi => ?_⟩⟩
  · simp [gI_wI, gI_wC, s0, nI_add, bCat]
  · rw [bCat_1] at hi
    rw [gI_wI, if_neg (by omega), gI_wC, if_pos rfl]
    by_cases e : i < b.1
    · rw [pk_cpy_out (Or.inl e), bCat_lo e, s2 i e]
    · rw [pk_cpy_in (by omega) (by omega), bCat_hi e, hg _ (by omega)]
theorem t_byteAt {F r : Nat} {h : ck_H} {b : Bs} {v : Int32} (R : Row h r) (C : CRow h r b) : f_Rw_byteAt F r v h = some (if ¬ v < 0 ∧ v < nI b.1 then (b.2 v.toNatClampNeg).toInt32 &&& 255 else -1, h) := by
  obtain ⟨k0, r0, k1, z1⟩ := R
  obtain ⟨s0, s1, s2⟩ := C
  unfold f_Rw_byteAt
  by_cases q1 : v < 0
  · rw [if_pos q1, if_neg (fun q => q.1 q1)]
  · rw [if_neg q1, x_as k0, s0]
    by_cases q2 : v < nI b.1
    · rw [if_pos q2, if_pos (And.intro q1 q2)]
      obtain ⟨j, hj, rfl⟩ := nI_of q1
      rw [nI_ltI hj (by omega)] at q2
      rw [if_pos (by rw [lit, nI_ltI hj (by omega)]; omega), r0, x_some, x_as ⟨Or.inl k1, q1, by rw [nI_clamp hj, z1]; omega⟩, nI_clamp hj, s2 j q2]
    · rw [if_neg q2, if_neg (fun q => q2 q.2)]
theorem t_setPair {F r : Nat} {v : Int32} {h : ck_H} {b : Bs} (R : Row h r) (C : CRow h r b) (hb : 2 ≤ b.1) {W : Wd} (w1 : ∀ i, W (r + 1) i = true) {P : Unit → ck_H → Prop} (k : ∀ h', Ch W h h' → CRow h' r (b.1, fun i => if i < 2 then pby v i else b.2 i) → P () h') : wp (f_Rw_setPair F r 0 v h) P := by
  obtain ⟨k0, r0, k1, z1⟩ := R
  obtain ⟨s0, s1, s2⟩ := C
  unfold f_Rw_setPair
  simp (disch := omega) only [wp_as, wp_ifp, wp_ifn, wp_some, wp_then, wp_bd, wp_ret, wp_optS, wp_optN, gk_wI, gz_wI, gR_wI, gk_wC, gz_wC, gR_wC, gk_wJ, gz_wJ, gR_wJ, lit, litL, bb, ite01, ite01n, nI_l, lN_add, lN_sub, in_eq, l_1, pk_lLT, pk_lEQ, lgl, lgg, lge, n64, m8, m16, m24, m0, sh0, nI_add, pk_mul, nI_ltI, nI_leI, nI_eq, nI_clamp, pk_sub, pk_div, pk_rem, not_true_eq_false, not_false_eq_true, true_and, and_true, false_and, and_false, true_or, or_true, false_or, or_false, true_implies, false_implies, implies_true, if_true, if_false, Nat.not_lt_zero, Nat.add_zero, Nat.zero_add, and_self, eq_self, Nat.reduceLT, Nat.reduceLeDiff, Nat.reduceAdd, Nat.reduceEqDiff, Nat.reduceMul, Nat.reduceSub, Nat.reduceDiv, Nat.reduceMod, k0, r0, k1, z1, s0]
  refine k _ (((Ch.refl h).wI (w1 _)).wI (w1 _)) ⟨?_, s1, fun i hi => ?_⟩
  · simp [gI_wI, s0]
  · simp only [gI_wI]
    by_cases e : i = 0
    · subst e
      simp [pby]
    · by_cases e1 : i = 1
      · subst e1
        simp [pby]
      · simp [e, e1, show ¬ i < 2 by omega]
        exact s2 i hi
