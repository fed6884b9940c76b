/-- a place of an array of numbers is written -/
theorem ck_HRi {base b L : Nat} {xs : Nat → Int32} {D : va_G} {cy : Nat → ClassId} {h : ck_H} {H H1 : Heap} {a j : Nat} {x : Int32} (hb : b < base) (hH : ck_HR base b L xs D cy h H) (h13 : 13 ≤ gk h a) (h16 : gk h a < 16) (hf : gk h a = 13 → fits .byte (.int x) = true) (z : H1.size = H.size) (oq : ∀ q : Nat, q ≠ a → H1[q]? = H[q]?) (he : H1[a]? = some ((arrV (cy (gk h a - 13)) (gz h a) (fun i => .int (gI h a i))).setSlot j (.int x))) : ck_HR base b L xs D cy (wI h a j x) H1 := by
  refine hH.upd hb (by omega) rfl rfl (fun q hq => ⟨by funext i; simp [wI, u2, hq], rfl, rfl⟩) (fun hk i => ?_) z oq ?_
  · by_cases hi : i = j
    · simp only [gI, wI, u2, hi, and_self, if_true]
      exact hf hk
    · simp only [gI, wI, u2, hi, and_false, if_false]
      exact hH.2.2.2.1 a i hk
  · unfold ck_cell
    rw [if_neg (show ¬ gk (wI h a j x) a < 13 by show ¬ gk h a < 13; omega), if_pos (show gk (wI h a j x) a < 16 from h16), he, arrV_store]
    show _ = some (arrV (cy (gk h a - 13)) (gz h a) _)
    congr 2
    funext i
    by_cases hi : i = j
    · simp [updV, gI, wI, u2, hi]
    · simp [updV, gI, wI, u2, hi]
theorem ck_HRr {base b L : Nat} {xs : Nat → Int32} {D : va_G} {cy : Nat → ClassId} {h : ck_H} {H H1 : Heap} {a j : Nat} {x : Option Nat} (hb : b < base) (hH : ck_HR base b L xs D cy h H) (h16 : 16 ≤ gk h a) (h20 : gk h a ≤ 20) (z : H1.size = H.size) (oq : ∀ q : Nat, q ≠ a → H1[q]? = H[q]?) (he : H1[a]? = some ((arrV (cy (gk h a - 13)) (gz h a) (fun i => va_rf (gR h a i))).setSlot j (va_rf x))) : ck_HR base b L xs D cy (wR h a j x) H1 := by
  refine hH.upd hb (by omega) rfl rfl (fun q hq => ⟨rfl, by funext i; simp [wR, u2, hq], rfl⟩) (fun hk i => by omega) z oq ?_
  unfold ck_cell
  rw [if_neg (show ¬ gk (wR h a j x) a < 13 by show ¬ gk h a < 13; omega), if_neg (show ¬ gk (wR h a j x) a < 16 by show ¬ gk h a < 16; omega), he, arrV_store]
  show _ = some (arrV (cy (gk h a - 13)) (gz h a) _)
  congr 2
  funext i
  by_cases hi : i = j
  · simp [updV, gR, wR, u2, hi]
  · simp [updV, gR, wR, u2, hi]
set_option maxHeartbeats 1000000 in
theorem ck_r_iast {m : ck_M} {pc a : Nat} {j x : Int32} {ls : ck_L} {r0 : List Value} {h h' : ck_H} {r : Option Value} (hc : (ck_cd m).lookup pc = some .iastore) (ha : gk h a = 14) (h1 : ¬ j < 0) (h2 : j.toNatClampNeg < gz h a) (k : ck_S m (pc + 1) ls r0 (wI h a j.toNatClampNeg x) r h') : ck_S m pc ls (.int x :: .int j :: .ref a :: r0) h r h' := by
  obtain ⟨k1, k2, k3⟩ := k
  refine ⟨k1, k2, fun p l e R s mi args below meth c base b L xs D cy H locs cells slots lsM Q C hl hH hS hcl hsl0 hQ => ?_⟩
  have hcell := (hH.2.2.1 a (by omega)).2.2.ints rfl (by omega) (by omega)
  have hty : s.isArrayOf (arrV (cy (gk h a - 13)) (gz h a) (fun i => .int (gI h a i))) .int := by rw [ha]; exact (C.2.2.2.2.2.2.1.1.2 1 _ rfl).1 _ _
  exact W.iast C.1 C.2.1 hcell hty (fun q => by cases q) (ck_hin h1 h2 (arrV_size _ _ _)) rfl rfl (C.dec hc rfl) (fun H1 e1 e2 e3 => k3 p l e R s mi args below meth c base b L xs D cy H1 _ cells slots lsM Q C hl (ck_HRi C.2.2.2.2.2.2.2.2.2.2.2.2.2.1 hH (by omega) (by omega) (fun z => by omega) e2 e3 e1) (hS.put e2 e3 (hH.2.2.1 a (by omega)).1) hcl hsl0 hQ)
set_option maxHeartbeats 1000000 in
theorem ck_r_bast {m : ck_M} {pc a : Nat} {j x : Int32} {ls : ck_L} {r0 : List Value} {h h' : ck_H} {r : Option Value} (hc : (ck_cd m).lookup pc = some .bastore) (ha : gk h a = 13) (h1 : ¬ j < 0) (h2 : j.toNatClampNeg < gz h a) (k : ck_S m (pc + 1) ls r0 (wI h a j.toNatClampNeg x.toInt8.toInt32) r h') : ck_S m pc ls (.int x :: .int j :: .ref a :: r0) h r h' := by
  obtain ⟨k1, k2, k3⟩ := k
  refine ⟨k1, k2, fun p l e R s mi args below meth c base b L xs D cy H locs cells slots lsM Q C hl hH hS hcl hsl0 hQ => ?_⟩
  have hcell := (hH.2.2.1 a (by omega)).2.2.ints rfl (by omega) (by omega)
  have hty : s.isArrayOf (arrV (cy (gk h a - 13)) (gz h a) (fun i => .int (gI h a i))) .byte := by rw [ha]; exact (C.2.2.2.2.2.2.1.1.2 0 _ rfl).1 _ _
  exact W.bast C.1 C.2.1 hcell hty (fun q => by cases q) (ck_hin h1 h2 (arrV_size _ _ _)) rfl rfl (C.dec hc rfl) (fun H1 e1 e2 e3 => k3 p l e R s mi args below meth c base b L xs D cy H1 _ cells slots lsM Q C hl (ck_HRi C.2.2.2.2.2.2.2.2.2.2.2.2.2.1 hH (by omega) (by omega) (fun z => pk_fb x) e2 e3 e1) (hS.put e2 e3 (hH.2.2.1 a (by omega)).1) hcl hsl0 hQ)
set_option maxHeartbeats 1000000 in
theorem ck_r_zast {m : ck_M} {pc a : Nat} {j x : Int32} {ls : ck_L} {r0 : List Value} {h h' : ck_H} {r : Option Value} (hc : (ck_cd m).lookup pc = some .bastore) (ha : gk h a = 15) (hx : x = 0 ∨ x = 1) (h1 : ¬ j < 0) (h2 : j.toNatClampNeg < gz h a) (k : ck_S m (pc + 1) ls r0 (wI h a j.toNatClampNeg x) r h') : ck_S m pc ls (.int x :: .int j :: .ref a :: r0) h r h' := by
  obtain ⟨k1, k2, k3⟩ := k
  refine ⟨k1, k2, fun p l e R s mi args below meth c base b L xs D cy H locs cells slots lsM Q C hl hH hS hcl hsl0 hQ => ?_⟩
  have hcell := (hH.2.2.1 a (by omega)).2.2.ints rfl (by omega) (by omega)
  have hty : s.isArrayOf (arrV (cy (gk h a - 13)) (gz h a) (fun i => .int (gI h a i))) .boolean := by rw [ha]; exact (C.2.2.2.2.2.2.1.1.2 2 _ rfl).1 _ _
  have hn : narrow .boolean (.int x) = .int x := by rcases hx with rfl | rfl <;> rfl
  exact W.zast C.1 C.2.1 hcell hty (fun q => by cases q) (ck_hin h1 h2 (arrV_size _ _ _)) rfl rfl (C.dec hc rfl) (fun H1 e1 e2 e3 => k3 p l e R s mi args below meth c base b L xs D cy H1 _ cells slots lsM Q C hl (ck_HRi C.2.2.2.2.2.2.2.2.2.2.2.2.2.1 hH (by omega) (by omega) (fun z => by omega) e2 e3 (by rw [e1, hn])) (hS.put e2 e3 (hH.2.2.1 a (by omega)).1) hcl hsl0 hQ)
set_option maxHeartbeats 1000000 in
theorem ck_r_aast {m : ck_M} {pc a v : Nat} {j : Int32} {ls : ck_L} {r0 : List Value} {h h' : ck_H} {r : Option Value} (hc : (ck_cd m).lookup pc = some .aastore) (hv : gk h v < 13) (ha : ck_ka (gk h a) = some (gk h v)) (h1 : ¬ j < 0) (h2 : j.toNatClampNeg < gz h a) (k : ck_S m (pc + 1) ls r0 (wR h a j.toNatClampNeg (some v)) r h') : ck_S m pc ls (.ref v :: .int j :: .ref a :: r0) h r h' := by
  obtain ⟨k1, k2, k3⟩ := k
  refine ⟨k1, k2, fun p l e R s mi args below meth c base b L xs D cy H locs cells slots lsM Q C hl hH hS hcl hsl0 hQ => ?_⟩
  obtain ⟨g1, g2, -, t, ht⟩ := ck_ty_ref cy ha
  have hcell := (hH.2.2.1 a g2).2.2.refs rfl g1
  obtain ⟨cv, q1, q2, q3, -⟩ := (hH.2.2.1 v (by omega)).2.2.ob rfl hv
  have hcls := (C.2.2.2.2.2.2.1.1.1 _ _ (ck_cp _ hv).1).2
  obtain ⟨kA, comp, t1, t2, t3, -⟩ := (C.2.2.2.2.2.2.1.1.2 t _ ht).2
  have hcomp : comp = D.1 (gk h v) := Option.some.inj (t3.symm.trans hcls.1)
  subst hcomp
  obtain ⟨kC, hkC, -⟩ := hcls.2
  exact W.aast C.1 C.2.1 hcell (fun q z => by cases z) (fun z => by cases z) t1 t2 rfl hkC ⟨h1, by rw [arrV_size]; exact h2⟩ q1 (fun q z => by rw [q3] at z; cases z) (by rw [q2]; exact hkC) (by rw [q2]; exact va_assign hcls) rfl rfl (C.dec hc rfl) (fun H1 e1 e2 e3 => k3 p l e R s mi args below meth c base b L xs D cy H1 _ cells slots lsM Q C hl (ck_HRr C.2.2.2.2.2.2.2.2.2.2.2.2.2.1 hH g1 g2 e2 e3 e1) (hS.put e2 e3 (hH.2.2.1 a g2).1) hcl hsl0 hQ)
theorem ck_Sn {A : Nat → Prop} {H0 H H1 : Heap} {locs : List Loc} (hS : va_S A H0 H locs) (z : H1.size = H.size + 1) (o1 : ∀ q : Nat, q < H.size → H1[q]? = H[q]?) : va_S A H0 H1 locs :=
  ⟨Nat.le_trans hS.1 (by omega), fun x h1 h2 => (o1 x (Nat.lt_of_lt_of_le h1 hS.1)).trans (hS.2.1 x h1 h2), hS.2.2⟩
theorem ck_dv {c i : Nat} (h : ck_tc (ck_ft c i) (ck_ty c i) = true) (g : ck_H) (k n : Nat) : defaultValue (ck_ty c i) = ck_fv (wN g k n) (gn g) c i := by
  unfold ck_fv
  split
  · rename_i e0
    rw [e0] at h
    have e1 : ck_ty c i = .int := by
      cases e2 : ck_ty c i <;> rw [e2] at h <;> first | rfl | (simp [ck_tc] at h)
    rw [e1]; simp [defaultValue, gI, wN]
  · rename_i e0
    rw [e0] at h
    have e1 : ck_ty c i = .boolean := by
      cases e2 : ck_ty c i <;> rw [e2] at h <;> first | rfl | (simp [ck_tc] at h)
    rw [e1]; simp [defaultValue, gI, wN]
  · rename_i e0
    rw [e0] at h
    have e1 : ck_ty c i = .long := by
      cases e2 : ck_ty c i <;> rw [e2] at h <;> first | rfl | (simp [ck_tc] at h)
    rw [e1]; simp [defaultValue, gJ, wN]
  · rename_i n0 n1 n2
    have e1 : (∃ n, ck_ty c i = .object n) ∨ ∃ t, ck_ty c i = .array t := by
      cases e2 : ck_ty c i <;> rw [e2] at h <;> first | exact Or.inl ⟨_, rfl⟩ | exact Or.inr ⟨_, rfl⟩ | (exfalso; revert h; cases e3 : ck_ft c i with | zero => exact absurd e3 n0 | succ q => cases q with | zero => exact absurd e3 n1 | succ q => cases q with | zero => exact absurd e3 n2 | succ q => cases q <;> simp [ck_tc])
    rcases e1 with ⟨n, e1⟩ | ⟨n, e1⟩ <;> rw [e1] <;> simp [defaultValue, gR, wN, va_rf]
set_option maxHeartbeats 1000000 in
theorem ck_r_new {m : ck_M} {pc ix kc : Nat} {ls : ck_L} {r0 : List Value} {h h' : ck_H} {r : Option Value} (hc : (ck_cd m).lookup pc = some (.new ix)) (hk0 : ck_cr (ck_ow m) ix = some kc) (hk : kc < 13) (k : ck_S m (pc + 3) ls (.ref (gn h) :: r0) (wN h kc (ck_N kc)) r h') : ck_S m pc ls r0 h r h' := by
  obtain ⟨k1, k2, k3⟩ := k
  have e1 : gn (wN h kc (ck_N kc)) = gn h + 1 := rfl
  have e2 : gu (wN h kc (ck_N kc)) = gu h + ck_N kc := rfl
  rw [e1] at k1
  rw [e2] at k2
  refine ⟨by omega, by omega, fun p l e R s mi args below meth c base b L xs D cy H locs cells slots lsM Q C hl hH hS hcl hsl0 hQ => ?_⟩
  obtain ⟨c1, c2, c3, c4, c5, c6, c7⟩ := ck_cp kc hk
  have hKn := C.2.2.2.2.2.2.1.1.1 kc _ c1
  refine W.newcK C.1 C.2.1 C.2.2.2.2.1 (C.2.2.2.2.2.1 _ (ck_cr_ok hk0)) (C.2.2.2.2.2.1 _ c5) (C.2.2.2.2.2.1 _ c6) rfl (C.dec hc rfl) (by omega) (by omega) hKn.2.1 hH.1 fun H1 kC hkC f1 z1 o1 => ?_
  refine k3 p l e R s mi args below meth c base b L xs D cy H1 locs _ _ lsM Q C hl (hH.mk C.2.2.2.2.2.2.2.2.2.2.2.2.2.1 (by omega) z1 o1 ?_) (ck_Sn hS (by rw [z1, hH.1]) (fun q hq => o1 q (by rw [← hH.1]; exact hq))) (by rw [e1]; omega) (by rw [e2]; omega) hQ
  have ek : gk (wN h kc (ck_N kc)) (gn h) = kc := by rw [ck_gk_wN, if_pos rfl]
  unfold ck_cell
  rw [ek, if_pos hk]
  exact (u_born (ck_ty kc) C.gts (ck_cp.gin hk) hKn hkC f1 c3).to (fun j hj => ck_dv (c7 j hj).1 h kc (ck_N kc))
