set_option maxHeartbeats 1000000 in
theorem ck_r_newa {m : ck_M} {pc kc : Nat} {t : ArrayType} {n : Int32} {ls : ck_L} {r0 : List Value} {h h' : ck_H} {r : Option Value} (hc : (ck_cd m).lookup pc = some (.newarray t)) (hk0 : ck_ato t = some kc) (hn : ¬ n < 0) (hb : n.toNatClampNeg * 4 ≤ 536870912) (k : ck_S m (pc + 2) ls (.ref (gn h) :: r0) (wN h kc n.toNatClampNeg) r h') : ck_S m pc ls (.int n :: r0) h r h' := by
  obtain ⟨k1, k2, k3⟩ := k
  have e1 : gn (wN h kc n.toNatClampNeg) = gn h + 1 := rfl
  have e2 : gu (wN h kc n.toNatClampNeg) = gu h + n.toNatClampNeg := rfl
  rw [e1] at k1
  rw [e2] at k2
  have key : ck_w (.arrayClass (newarray.typeOf t)) ∧ n.toNatClampNeg * componentBytes (newarray.typeOf t) ≤ 536870912 ∧ 13 ≤ kc ∧ kc < 16 ∧ defaultValue (newarray.typeOf t) = .int 0 ∧ ∀ cy : Nat → ClassId, (ck_tys cy)[kc - 13]? = some (cy (kc - 13), newarray.typeOf t) := by
    cases t <;> simp [ck_ato] at hk0 <;> subst hk0
    · exact ⟨ck_ac_boolean, by show n.toNatClampNeg * 1 ≤ _; omega, by omega, by omega, rfl, fun _ => rfl⟩
    · exact ⟨ck_ac_byte, by show n.toNatClampNeg * 1 ≤ _; omega, by omega, by omega, rfl, fun _ => rfl⟩
    · exact ⟨ck_ac_int, by show n.toNatClampNeg * 4 ≤ _; omega, by omega, by omega, rfl, fun _ => rfl⟩
  obtain ⟨g1, g2, g3, g4, g5, g6⟩ := key
  refine ⟨by omega, by omega, fun p l e R s mi args below meth c base b L xs D cy H locs cells slots lsM Q C hl hH hS hcl hsl0 hQ => ?_⟩
  refine va_newaK C.1 C.2.1 (C.2.2.2.2.2.1 _ g1) rfl (C.dec hc rfl) rfl hn rfl g2 (by omega) (by omega) hH.1 fun H1 cA f1 z1 o1 hAr hNm => ?_
  have hcA : cA = cy (kc - 13) := by
    have hra := (C.2.2.2.2.2.2.1.1.2 _ _ (g6 cy)).2
    have h4 : s.vm.findClass ("[" ++ (newarray.typeOf t).toString) = some (cy (kc - 13)) := by
      cases t <;> simp [ck_ato] at hk0 <;> exact hra
    exact Option.some.inj (hNm.symm.trans h4)
  subst hcA
  refine k3 p l e R s mi args below meth c base b L xs D cy H1 locs _ _ lsM Q C hl (hH.mk C.2.2.2.2.2.2.2.2.2.2.2.2.2.1 (by omega) z1 o1 ?_) (ck_Sn hS (by rw [z1, hH.1]) (fun q hq => o1 q (by rw [← hH.1]; exact hq))) (by rw [e1]; omega) (by rw [e2]; omega) hQ
  have ek : gk (wN h kc n.toNatClampNeg) (gn h) = kc := by rw [ck_gk_wN, if_pos rfl]
  have ez : gz (wN h kc n.toNatClampNeg) (gn h) = n.toNatClampNeg := by rw [ck_gz_wN, if_pos rfl]
  unfold ck_cell
  rw [ek, ez, if_neg (by omega), if_pos g4, f1, g5]
  congr 2
  funext i
  simp [gI, wN]
set_option maxHeartbeats 1000000 in
theorem ck_r_anew {m : ck_M} {pc ix c0 kc : Nat} {n : Int32} {ls : ck_L} {r0 : List Value} {h h' : ck_H} {r : Option Value} (hc : (ck_cd m).lookup pc = some (.anewarray ix)) (hk0 : ck_cr (ck_ow m) ix = some c0) (hk1 : ck_ak c0 = some kc) (hn : ¬ n < 0) (hb : n.toNatClampNeg * 4 ≤ 536870912) (k : ck_S m (pc + 3) ls (.ref (gn h) :: r0) (wN h kc n.toNatClampNeg) r h') : ck_S m pc ls (.int n :: r0) h r h' := by
  obtain ⟨k1, k2, k3⟩ := k
  have e1 : gn (wN h kc n.toNatClampNeg) = gn h + 1 := rfl
  have e2 : gu (wN h kc n.toNatClampNeg) = gu h + n.toNatClampNeg := rfl
  rw [e1] at k1
  rw [e2] at k2
  refine ⟨by omega, by omega, fun p l e R s mi args below meth c base b L xs D cy H locs cells slots lsM Q C hl hH hS hcl hsl0 hQ => ?_⟩
  obtain ⟨g1, g2, g3, t, ht⟩ := ck_ty_ref cy (ck_ak_ka hk1).1
  refine W.anew C.1 C.2.1 C.2.2.2.2.1 (C.2.2.2.2.2.1 _ (ck_cr_ok hk0)) (va_AO.use (C.2.2.2.2.2.2.1.2.2.2 _ _ hk1)) rfl (C.dec hc rfl) rfl hn hb (by omega) (by omega) fun cA kA comp f1 f2 f3 f4 => ?_
  have hcA : cA = cy (kc - 13) := by
    obtain ⟨_, _, -, -, -, h4⟩ := (C.2.2.2.2.2.2.1.1.2 _ _ ht).2
    exact Option.some.inj (f1.symm.trans h4)
  subst hcA
  generalize hH1 : H.push ({ cls := cy (kc - 13), slots := Array.replicate n.toNatClampNeg .null, vm := .none } : Cell) = H1
  have z1 : H1.size = gn h + 1 := by rw [← hH1, Array.size_push, hH.1]
  have v1 : H1[gn h]? = some (arrV (cy (kc - 13)) n.toNatClampNeg (fun _ => .null)) := by rw [← hH1, ← hH.1, Array.getElem?_push_size, ← arrV_new]
  have o1 : ∀ q : Nat, q < gn h → H1[q]? = H[q]? := fun q hq => by rw [← hH1, Array.getElem?_push, if_neg (by rw [hH.1]; omega)]
  rw [hH.1]
  refine k3 p l e R s mi args below meth c base b L xs D cy H1 locs _ _ lsM Q C hl (hH.mk C.2.2.2.2.2.2.2.2.2.2.2.2.2.1 g2 z1 o1 ?_) (ck_Sn hS (by rw [z1, hH.1]) (fun q hq => o1 q (by rw [← hH.1]; exact hq))) (by rw [e1]; omega) (by rw [e2]; omega) hQ
  have ek : gk (wN h kc n.toNatClampNeg) (gn h) = kc := by rw [ck_gk_wN, if_pos rfl]
  have ez : gz (wN h kc n.toNatClampNeg) (gn h) = n.toNatClampNeg := by rw [ck_gz_wN, if_pos rfl]
  unfold ck_cell
  rw [ek, ez, if_neg (by omega), if_neg (by omega), v1]
  congr 2
  funext i
  simp [gR, wN, va_rf]
/-- the constructor of Object -/
theorem ck_r_obj {m : ck_M} {pc ix na a : Nat} {y : ck_M} {ls : ck_L} {r0 : List Value} {h h' : ck_H} {r : Option Value} (hc : (ck_cd m).lookup pc = some (.invokespecial ix)) (hm : ck_mr (ck_ow m) ix = some (9, na, y)) (h1 : 1 ≤ ck_fr m) (h2 : ck_sum r0 + 12 ≤ ck_lo m) (k : ck_S m (pc + 3) ls r0 h r h') : ck_S m pc ls (.ref a :: r0) h r h' := by
  refine ck_S.pure k fun p l e R s mi args below meth c base b L xs D cy H locs cells slots lsM Q C hl hH hS kk => ?_
  have hP : ck_w (.methodLink (ck_on (ck_ow m)) ix objectInit) := ck_mr_ok hm
  refine W.objInit (g := F0 mi pc lsM (.ref a :: r0)) C.1 C.2.1 C.2.2.2.2.1 (C.2.2.2.2.2.1 _ hP) (C.2.2.2.2.2.1 _ ck_obi.1) (C.2.2.2.2.2.1 _ ck_obi.2) rfl (by rw [C.2.2.1]; exact hl.1) rfl (C.dec hc rfl) (by rw [C.2.2.2.2.2.2.2.2.2.1]; exact h1) (by rw [C.2.2.2.2.2.2.2.2.2.2.1]; show 2 * 0 + ck_sum r0 + 12 ≤ _; omega) ?_
  exact kk _ hl
set_option maxHeartbeats 2000000 in
theorem ck_r_copy {m : ck_M} {pc ix na a a0 : Nat} {n dp sp : Int32} {y : ck_M} {ls : ck_L} {r0 : List Value} {h h' : ck_H} {r : Option Value} (hc : (ck_cd m).lookup pc = some (.invokestatic ix)) (hm : ck_mr (ck_ow m) ix = some (8, na, y)) (ha0 : gk h a0 = gk h a) (ha : gk h a = 13 ∨ gk h a = 14) (h1 : ¬ sp < 0) (h2 : ¬ dp < 0) (h3 : ¬ n < 0) (h4 : sp.toNatClampNeg + n.toNatClampNeg ≤ gz h a0) (h5 : dp.toNatClampNeg + n.toNatClampNeg ≤ gz h a) (hf : 1 ≤ ck_fr m) (hlo : ck_sum r0 + 18 ≤ ck_lo m) (k : ck_S m (pc + 3) ls r0 (wC h a0 sp.toNatClampNeg a dp.toNatClampNeg n.toNatClampNeg) r h') : ck_S m pc ls (.int n :: .int dp :: .ref a :: .int sp :: .ref a0 :: r0) h r h' := by
  obtain ⟨k1, k2, k3⟩ := k
  refine ⟨k1, k2, fun p l e R s mi args below meth c base b L xs D cy H locs cells slots lsM Q C hl hH hS hcl hsl0 hQ => ?_⟩
  have hP : ck_w (.methodLink (ck_on (ck_ow m)) ix arraycopyName) := ck_mr_ok hm
  have h13 : 13 ≤ gk h a ∧ gk h a < 16 := by omega
  have hc0 : H[a0]? = some (arrV (cy (gk h a - 13)) (gz h a0) (fun i => .int (gI h a0 i))) := (hH.2.2.1 a0 (by omega)).2.2.ints ha0 h13.1 h13.2
  have hc1 : H[a]? = some (arrV (cy (gk h a - 13)) (gz h a) (fun i => .int (gI h a i))) := (hH.2.2.1 a (by omega)).2.2.ints rfl h13.1 h13.2
  have hty : ∃ ty : FieldType, ArrOfT s (cy (gk h a - 13)) ty ∧ refKind ty = false ∧ ∀ i, fits ty (.int (gI h a0 i)) = true := by
    rcases ha with hk | hk
    · exact ⟨.byte, by rw [hk]; exact (C.2.2.2.2.2.2.1.1.2 0 _ rfl).1, rfl, fun i => hH.2.2.2.1 a0 i (by rw [ha0, hk])⟩
    · exact ⟨.int, by rw [hk]; exact (C.2.2.2.2.2.2.1.1.2 1 _ rfl).1, rfl, fun i => rfl⟩
  obtain ⟨ty, hAr, hprim, hfit⟩ := hty
  have nn : ∀ z : Int32, ¬ z < 0 → z.toInt = (z.toNatClampNeg : Int) := by
    intro z hz
    have hz0 : (0 : Int) ≤ z.toInt := by
      have := Int32.not_lt.mp hz
      simpa using Int32.le_iff_toInt_le.mp this
    show z.toInt = ((z.toInt.toNat : Nat) : Int)
    omega
  intro T hT X
  obtain ⟨-, kk0, hk0, cm0, hkk0⟩ := hAr (gz h a0) (fun j => .int (gI h a0 j))
  obtain ⟨-, kk1, hk1, cm1, hkk1⟩ := hAr (gz h a) (fun j => .int (gI h a j))
  obtain ⟨vm', X', step⟩ := X.arraycopy C.1 C.2.2.2.2.1 (C.2.2.2.2.2.1 _ hP) (C.2.2.2.2.2.1 _ ck_acp.1) (C.2.2.2.2.2.1 _ ck_acp.2.1) (C.2.2.2.2.2.1 _ ck_acp.2.2) (src := a0) (dst := a) (cs := arrV (cy (gk h a - 13)) (gz h a0) (fun i => .int (gI h a0 i))) (cd := arrV (cy (gk h a - 13)) (gz h a) (fun i => .int (gI h a i))) (srcPos := sp) (destPos := dp) (n := n) (by rw [hT]; exact hc0) (by rw [hT]; exact hc1)
    (fun _ z => by cases z) (fun _ z => by cases z) (fun z => by cases z) (fun z => by cases z) hk0 hk1 hkk0 hkk1 (by simp [hprim]) h1 h2 h3
    (by rw [nn sp h1, nn n h3, arrV_size]; omega) (by rw [nn dp h2, nn n h3, arrV_size]; omega)
    (fun vm₁ _ i hi => by
      have e : (arrV (cy (gk h a - 13)) (gz h a0) (fun i => .int (gI h a0 i))).slots.getD (sp.toNatClampNeg + i) .null = .int (gI h a0 (sp.toNatClampNeg + i)) := by
        rw [Array.getD_eq_getD_getElem?, arrV_read _ _ (by omega)]
        rfl
      refine ⟨?_, ?_⟩
      · rw [e]
        exact hfit _
      · rw [e]
        exact trivial)
    (g := F0 mi pc lsM (.int n :: .int dp :: .ref a :: .int sp :: .ref a0 :: r0)) rfl (by rw [C.2.2.1]; exact hl.1) (rest := r0) rfl (by rw [C.2.1]; exact C.dec hc rfl) (by rw [C.2.2.2.2.2.2.2.2.2.1]; exact hf) (by rw [C.2.2.2.2.2.2.2.2.2.2.1]; show 2 * 0 + ck_sum r0 + (7 + 11) ≤ _; omega)
  have ec : copied (arrV (cy (gk h a - 13)) (gz h a0) (fun i => .int (gI h a0 i))) (arrV (cy (gk h a - 13)) (gz h a) (fun i => .int (gI h a i))) sp dp n = arrV (cy (gk h a - 13)) (gz h a) (fun i => .int (va_cpy (gI h a0) (gI h a) sp.toNatClampNeg dp.toNatClampNeg n.toNatClampNeg i)) := va_copied (fun z => .int z) _ _ (gI h a0) (gI h a) h4
  rw [ec] at X' step
  have hlt : a < H.size := (Array.getElem?_eq_some_iff.mp hc1).1
  have hheap : ((T.setVm vm').setCell a (arrV (cy (gk h a - 13)) (gz h a) (fun i => .int (va_cpy (gI h a0) (gI h a) sp.toNatClampNeg dp.toNatClampNeg n.toNatClampNeg i)))).heap = H.setIfInBounds a (arrV (cy (gk h a - 13)) (gz h a) (fun i => .int (va_cpy (gI h a0) (gI h a) sp.toNatClampNeg dp.toNatClampNeg n.toNatClampNeg i))) := by rw [← hT]; rfl
  have oq : ∀ q : Nat, q ≠ a → (H.setIfInBounds a (arrV (cy (gk h a - 13)) (gz h a) (fun i => .int (va_cpy (gI h a0) (gI h a) sp.toNatClampNeg dp.toNatClampNeg n.toNatClampNeg i))))[q]? = H[q]? := fun q hq => by simp [Array.getElem?_setIfInBounds, Ne.symm hq]
  have hba := (hH.2.2.1 a (by omega)).1
  obtain ⟨t, a1, b1⟩ := k3 p l e R s mi args below meth c base b L xs D cy _ _ cells slots lsM Q C hl (hH.upd C.2.2.2.2.2.2.2.2.2.2.2.2.2.1 (a := a) (by omega) rfl rfl (fun q hq => ⟨by simp [wC, hq], rfl, rfl⟩) (fun hk i => by
      show fits .byte (.int ((if a = a then va_cpy (h.2.2.1 a0) (h.2.2.1 a) sp.toNatClampNeg dp.toNatClampNeg n.toNatClampNeg else h.2.2.1 a) i)) = true
      rw [if_pos rfl]
      unfold va_cpy
      split
      · exact hH.2.2.2.1 a0 _ (by rw [ha0, hk])
      · exact hH.2.2.2.1 a _ hk) (by simp) oq (by
      unfold ck_cell
      rw [if_neg (show ¬ gk (wC h a0 _ a _ _) a < 13 by show ¬ gk h a < 13; omega), if_pos (show gk (wC h a0 _ a _ _) a < 16 from h13.2)]
      show (H.setIfInBounds a _)[a]? = some (arrV (cy (gk h a - 13)) (gz h a) (fun i => .int ((if a = a then va_cpy (h.2.2.1 a0) (h.2.2.1 a) sp.toNatClampNeg dp.toNatClampNeg n.toNatClampNeg else h.2.2.1 a) i)))
      rw [if_pos rfl]
      simp [Array.getElem?_setIfInBounds, hlt]
      rfl)) ⟨by simp; exact hS.1, fun q g1 g2 => by
      rw [oq q (fun z => g2 (by rw [z]; exact hba))]
      exact hS.2.1 q g1 g2, fun q hq => by
      rcases List.mem_append.mp hq with z | z
      · exact hS.2.2 q z
      · obtain ⟨w, -, hw⟩ := List.mem_map.mp z
        rw [← hw]
        exact hba⟩ hcl hsl0 hQ _ hheap X'
  exact ⟨t, step t a1, b1⟩
