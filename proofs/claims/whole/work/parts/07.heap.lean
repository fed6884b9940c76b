theorem ck_C.gts {p : Program} {R : Room} {s : State} {mi : MethodId} {args : Array Value} {meth : Method} {c : Code} {m : ck_M} {base b L : Nat} {xs : Nat → Int32} {D : va_G} {cy : Nat → ClassId} (C : ck_C p R s mi args meth c m base b L xs D cy) : ∀ w ∈ ck_g, w.before args s = true := fun w h => C.2.2.2.2.2.1 w (ck_gof h)
theorem ck_cp.gin {k : Nat} (hk : k < 13) : ∀ w ∈ u_ws (ck_on k) (ck_T k) (ck_N k), w ∈ ck_g := fun w h => ck_gin ((ck_cp k hk).2.1 w h)
/-- the array classes -/
theorem ck_ty_int (cy : Nat → ClassId) {k : Nat} (h1 : 13 ≤ k) (h2 : k < 16) : ∃ (t : Nat) (ty : FieldType), (ck_tys cy)[t]? = some (cy (k - 13), ty) ∧ refKind ty = false := by
  have : k = 13 ∨ k = 14 ∨ k = 15 := by omega
  rcases this with rfl | rfl | rfl
  · exact ⟨0, _, rfl, rfl⟩
  · exact ⟨1, _, rfl, rfl⟩
  · exact ⟨2, _, rfl, rfl⟩
theorem ck_ty_ref (cy : Nat → ClassId) {k c : Nat} (h : ck_ka k = some c) : 16 ≤ k ∧ k ≤ 20 ∧ c < 13 ∧ ∃ t : Nat, (ck_tys cy)[t]? = some (cy (k - 13), FieldType.object (ck_on c)) := by
  have h2 := ck_look h
  simp only [List.mem_cons, Prod.mk.injEq, List.not_mem_nil, or_false] at h2
  rcases h2 with ⟨rfl, rfl⟩ | ⟨rfl, rfl⟩ | ⟨rfl, rfl⟩ | ⟨rfl, rfl⟩ | ⟨rfl, rfl⟩
  · exact ⟨by omega, by omega, by omega, 3, rfl⟩
  · exact ⟨by omega, by omega, by omega, 4, rfl⟩
  · exact ⟨by omega, by omega, by omega, 5, rfl⟩
  · exact ⟨by omega, by omega, by omega, 6, rfl⟩
  · exact ⟨by omega, by omega, by omega, 7, rfl⟩
theorem ck_ka_of {k : Nat} (h1 : 16 ≤ k) (h2 : k ≤ 20) : ∃ c, ck_ka k = some c := by
  have : k = 16 ∨ k = 17 ∨ k = 18 ∨ k = 19 ∨ k = 20 := by omega
  rcases this with rfl | rfl | rfl | rfl | rfl
  · exact ⟨_, rfl⟩
  · exact ⟨_, rfl⟩
  · exact ⟨_, rfl⟩
  · exact ⟨_, rfl⟩
  · exact ⟨_, rfl⟩
theorem ck_ak_ka {c k : Nat} (h : ck_ak c = some k) : ck_ka k = some c ∧ k ≤ 20 := by
  have h2 := ck_look h
  simp only [List.mem_cons, Prod.mk.injEq, List.not_mem_nil, or_false] at h2
  rcases h2 with ⟨rfl, rfl⟩ | ⟨rfl, rfl⟩ | ⟨rfl, rfl⟩ | ⟨rfl, rfl⟩ | ⟨rfl, rfl⟩ <;> exact ⟨rfl, by omega⟩
set_option maxHeartbeats 1000000 in
theorem ck_r_get {m : ck_M} {pc ix i kc a : Nat} {nest : Bool} {ls : ck_L} {r0 : List Value} {h h' : ck_H} {r : Option Value} (hc : (ck_cd m).lookup pc = some (.getfield ix)) (hf : ck_fl (ck_ow m) ix = some (kc, i, nest)) (ha : gk h a = kc) (hk : kc < 13) (hi : i < ck_N kc) (k : ck_S m (pc + 3) ls (ck_fv h a kc i :: r0) h r h') : ck_S m pc ls (.ref a :: r0) h r h' := by
  refine ck_S.pure k fun p l e R s mi args below meth c base b L xs D cy H locs cells slots lsM Q C hl hH hS kk => ?_
  have hP := ck_fl_ok hf
  obtain ⟨cell, q1, q2, q3, q4⟩ := (hH.2.2.1 a (by omega)).2.2.ob ha hk
  obtain ⟨c1, c2, c3, c4, c5, c6, c7⟩ := ck_cp kc hk
  obtain ⟨hSl, hfc, kC, hkC, hkind⟩ := C.2.2.2.2.2.2.1.1.1 kc _ c1
  obtain ⟨cf, kf, fi, f, hif, hsl⟩ := hSl i hi
  have hst := (u_facts hfc hkC (u_lays C.gts (ck_cp.gin hk) hi) hif).1
  have hv : cell.slots[f.slot]? = some (ck_fv h a kc i) := by rw [hsl]; exact q4 i hi
  cases nest with
  | false => exact W.getf C.1 C.2.1 C.2.2.2.2.1 (C.2.2.2.2.2.1 _ hP) hif hst q1 (by rw [q3]; exact fun z => by cases z) hv rfl rfl (C.dec hc rfl) (kk _ hl)
  | true => exact va_Wgetf C.1 C.2.1 C.2.2.2.2.1 (va_Nw.use rfl (C.2.2.2.2.2.2.1.2.1 _ hP)) hif hst q1 (by rw [q3]; exact fun z => by cases z) hv rfl rfl (C.dec hc rfl) (kk _ hl)
/-- what may be written to a field -/
theorem ck_put_ok {h h1 : ck_H} {a c i : Nat} {v : Value} (hp : ck_put h a c i v = some h1) (hty : ck_tc (ck_ft c i) (ck_ty c i) = true) : narrow (ck_ty c i) v = v ∧ fits (ck_ty c i) v = true ∧ gn h1 = gn h ∧ gu h1 = gu h ∧ h1.2.1 = h.2.1 ∧ (∀ q, q ≠ a → h1.2.2.1 q = h.2.2.1 q ∧ h1.2.2.2.1 q = h.2.2.2.1 q ∧ h1.2.2.2.2 q = h.2.2.2.2 q) ∧ (∀ j, ck_fv h1 a c j = updV (ck_fv h a c) i v j) := by
  unfold ck_put at hp
  split at hp
  · rename_i x e0
    cases hp
    rw [e0] at hty
    have e1 : ck_ty c i = .int := by
      cases e2 : ck_ty c i <;> rw [e2] at hty <;> first | rfl | (simp [ck_tc] at hty)
    rw [e1]
    refine ⟨rfl, rfl, rfl, rfl, rfl, fun q hq => ⟨?_, rfl, rfl⟩, fun j => ?_⟩
    · funext j; simp [wI, u2, hq]
    · by_cases hj : j = i
      · subst hj; simp [ck_fv, updV, e0, gI, wI, u2]
      · simp [ck_fv, updV, hj, gI, gJ, gR, wI, u2]
  · rename_i x e0
    split at hp
    · rename_i hx
      cases hp
      rw [e0] at hty
      have e1 : ck_ty c i = .boolean := by
        cases e2 : ck_ty c i <;> rw [e2] at hty <;> first | rfl | (simp [ck_tc] at hty)
      rw [e1]
      refine ⟨by rcases hx with rfl | rfl <;> rfl, by rcases hx with rfl | rfl <;> rfl, rfl, rfl, rfl, fun q hq => ⟨?_, rfl, rfl⟩, fun j => ?_⟩
      · funext j; simp [wI, u2, hq]
      · by_cases hj : j = i
        · subst hj; simp [ck_fv, updV, e0, gI, wI, u2]
        · simp [ck_fv, updV, hj, gI, gJ, gR, wI, u2]
    · cases hp
  · rename_i x e0
    cases hp
    rw [e0] at hty
    have e1 : ck_ty c i = .long := by
      cases e2 : ck_ty c i <;> rw [e2] at hty <;> first | rfl | (simp [ck_tc] at hty)
    rw [e1]
    refine ⟨rfl, rfl, rfl, rfl, rfl, fun q hq => ⟨rfl, rfl, ?_⟩, fun j => ?_⟩
    · funext j; simp [wJ, u2, hq]
    · by_cases hj : j = i
      · subst hj; simp [ck_fv, updV, e0, gJ, wJ, u2]
      · simp [ck_fv, updV, hj, gI, gJ, gR, wJ, u2]
  · rename_i x e0
    cases hp
    rw [e0] at hty
    have e1 : (∃ n, ck_ty c i = .object n) ∨ ∃ t, ck_ty c i = .array t := by
      cases e2 : ck_ty c i <;> rw [e2] at hty <;> first | exact Or.inl ⟨_, rfl⟩ | exact Or.inr ⟨_, rfl⟩ | (simp [ck_tc] at hty)
    refine ⟨by rcases e1 with ⟨n, e1⟩ | ⟨n, e1⟩ <;> rw [e1] <;> rfl, by rcases e1 with ⟨n, e1⟩ | ⟨n, e1⟩ <;> rw [e1] <;> rfl, rfl, rfl, rfl, fun q hq => ⟨rfl, ?_, rfl⟩, fun j => ?_⟩
    · funext j; simp [wR, u2, hq]
    · by_cases hj : j = i
      · subst hj; simp [ck_fv, updV, e0, gR, wR, u2, va_rf]
      · simp [ck_fv, updV, hj, gI, gJ, gR, wR, u2]
  · rename_i e0
    cases hp
    rw [e0] at hty
    have e1 : (∃ n, ck_ty c i = .object n) ∨ ∃ t, ck_ty c i = .array t := by
      cases e2 : ck_ty c i <;> rw [e2] at hty <;> first | exact Or.inl ⟨_, rfl⟩ | exact Or.inr ⟨_, rfl⟩ | (simp [ck_tc] at hty)
    refine ⟨by rcases e1 with ⟨n, e1⟩ | ⟨n, e1⟩ <;> rw [e1] <;> rfl, by rcases e1 with ⟨n, e1⟩ | ⟨n, e1⟩ <;> rw [e1] <;> rfl, rfl, rfl, rfl, fun q hq => ⟨rfl, ?_, rfl⟩, fun j => ?_⟩
    · funext j; simp [wR, u2, hq]
    · by_cases hj : j = i
      · subst hj; simp [ck_fv, updV, e0, gR, wR, u2, va_rf]
      · simp [ck_fv, updV, hj, gI, gJ, gR, wR, u2]
  · cases hp
set_option maxHeartbeats 1000000 in
theorem ck_r_put {m : ck_M} {pc ix i kc a : Nat} {v : Value} {ls : ck_L} {r0 : List Value} {h h1 h' : ck_H} {r : Option Value} (hc : (ck_cd m).lookup pc = some (.putfield ix)) (hf : ck_fl (ck_ow m) ix = some (kc, i, false)) (ha : gk h a = kc) (hk : kc < 13) (hi : i < ck_N kc) (hfin : ck_fin kc i = false ∨ ((ck_nm m).name = "<init>" ∧ kc = ck_ow m)) (hp : ck_put h a kc i v = some h1) (k : ck_S m (pc + 3) ls r0 h1 r h') : ck_S m pc ls (v :: .ref a :: r0) h r h' := by
  obtain ⟨c1, c2, c3, c4, c5, c6, c7⟩ := ck_cp kc hk
  obtain ⟨p1, p2, p3, p4, p5, p6, p7⟩ := ck_put_ok hp (c7 i hi).1
  obtain ⟨k1, k2, k3⟩ := k
  refine ⟨by rw [← p3]; exact k1, by rw [← p4]; exact k2, fun p l e R s mi args below meth c base b L xs D cy H locs cells slots lsM Q C hl hH hS hcl hsl0 hQ => ?_⟩
  have hP := ck_fl_ok hf
  obtain ⟨cell, q1, q2, q3, q4⟩ := (hH.2.2.1 a (by omega)).2.2.ob ha hk
  have hap := va_apart (own := ck_on kc) C.gts (ck_cp.gin hk) (ck_ty kc) c3 c4 C.2.2.2.2.2.2.1.1 c1
  obtain ⟨hSl, hfc, kC, hkC, hkind⟩ := C.2.2.2.2.2.2.1.1.1 kc _ c1
  obtain ⟨cf, kf, fi, f, hif, hsl⟩ := hSl i hi
  have hst := (u_facts hfc hkC (u_lays C.gts (ck_cp.gin hk) hi) hif).1
  have hlt : f.slot < cell.slots.size := by rw [hsl]; exact k2_hasslot (q4 i hi)
  have hfit := u_fits hfc hkC hkind (u_lays C.gts (ck_cp.gin hk) hi) hif (c3 i hi) p1 p2
  have fin : ∀ H' : Heap, H'[a]? = some (cell.setSlot f.slot v) → H'.size = H.size → (∀ q, q ≠ a → H'[q]? = H[q]?) → W p l e R s mi args below meth c H' (locs ++ [⟨a, f.slot⟩]) cells slots Q (F0 mi (pc + 3) lsM r0) := by
    intro H' e1 e2 e3
    refine k3 p l e R s mi args below meth c base b L xs D cy H' _ cells slots lsM Q C hl (hH.upd C.2.2.2.2.2.2.2.2.2.2.2.2.2.1 (by omega) p3 p5 p6 (fun z => by omega) e2 e3 ?_) (hS.put e2 e3 (hH.2.2.1 a (by omega)).1) (by rw [p3]; exact hcl) (by rw [p4]; exact hsl0) hQ
    have ek : gk h1 a = kc := by rw [← ha]; simp only [gk, p5]
    unfold ck_cell
    rw [ek, if_pos hk]
    rw [hsl] at e1
    exact t_OB.to (V := updV (ck_fv h a kc) i v) ⟨_, e1, q2, q3, t_set q4 hap hi v⟩ (fun j _ => (p7 j).symm)
  cases hfb : ck_fin kc i with
  | false =>
    have hlay := C.gts _ (ck_cp.gin hk _ (u_in_lay hi))
    unfold u_lay at hlay
    rw [if_neg (by rw [← (c7 i hi).2.1, hfb]; decide)] at hlay
    have h6 := u_store hfc hkC hkind hlay hif (c3 i hi) p1 p2
    exact W.putK C.1 C.2.1 (f := f) ⟨C.2.2.2.2.1, C.2.2.2.2.2.1 _ hP, ⟨_, _, _, hif⟩, hst⟩ (by rw [q2]; exact h6) q1 q3 hlt rfl rfl (C.dec hc rfl) fin
  | true =>
    obtain ⟨hin, hown⟩ : (ck_nm m).name = "<init>" ∧ kc = ck_ow m := by
      rcases hfin with hfin | hfin
      · rw [hfb] at hfin; cases hfin
      · exact hfin
    have hlay := C.gts _ (ck_cp.gin hk _ (u_in_lay hi))
    unfold u_lay at hlay
    rw [if_pos (by rw [← (c7 i hi).2.1, hfb])] at hlay
    have hcf : mi.cls = cf := by
      obtain ⟨_, _, c', _, _, _, -, -, hf', -, -, -, hown2, -⟩ := Cond.laysFinal_spec hlay
      have e1 : c' = cf := by have := hif.symm.trans hf'; simp at this; exact this.1.symm
      rw [(c7 i hi).2.2, hown] at hown2
      rw [← e1]; exact Option.some.inj (C.2.2.2.2.1.symm.trans hown2)
    exact W.putFinK C.1 C.2.1 C.2.2.2.2.1 (C.2.2.2.2.2.1 _ hP) hif hst hcf (C.2.2.2.2.2.2.2.2.1 hin) (by rw [q2]; exact hfit) q1 q3 hlt rfl rfl (C.dec hc rfl) fin
theorem ck_hin {j : Int32} {n N : Nat} (h1 : ¬ j < 0) (h2 : j.toNatClampNeg < n) (e : N = n) : ¬ (j < 0 ∨ N ≤ j.toNatClampNeg) := by
  rintro (q | q)
  · exact h1 q
  · omega
set_option maxHeartbeats 1000000 in
theorem ck_r_iald {m : ck_M} {pc a : Nat} {j : Int32} {ls : ck_L} {r0 : List Value} {h h' : ck_H} {r : Option Value} (hc : (ck_cd m).lookup pc = some .iaload) (ha : gk h a = 14 ∨ gk h a = 21) (h1 : ¬ j < 0) (h2 : j.toNatClampNeg < gz h a) (k : ck_S m (pc + 1) ls (.int (gI h a j.toNatClampNeg) :: r0) h r h') : ck_S m pc ls (.int j :: .ref a :: r0) h r h' := by
  refine ck_S.pure k fun p l e R s mi args below meth c base b L xs D cy H locs cells slots lsM Q C hl hH hS kk => ?_
  rcases ha with ha | ha
  · have hcell := (hH.2.2.1 a (by omega)).2.2.ints ha (by omega) (by omega)
    exact W.iald (v := .int (gI h a j.toNatClampNeg)) C.1 C.2.1 hcell ((C.2.2.2.2.2.2.1.1.2 1 _ rfl).1 _ _) (fun q => by cases q) (ck_hin h1 h2 (arrV_size _ _ _)) (arrV_read _ (fun i => .int (gI h a i)) h2) rfl rfl (C.dec hc rfl) (kk _ hl)
  · have hab := hH.2.2.2.2.2.2.2 a ha
    subst hab
    have hz := hH.2.2.2.2.2.1
    rw [hz] at h2
    rw [hH.2.2.2.2.2.2.1 _ h2] at kk
    exact va_sld C.1 C.2.1 C.2.2.2.2.2.2.2.2.2.2.2.2.1 (Nat.lt_of_lt_of_le C.2.2.2.2.2.2.2.2.2.2.2.2.2.1 C.2.2.2.2.2.2.2.2.2.2.2.1) (by have := C.2.2.2.2.2.2.2.2.2.2.2.2.2.1; omega) hS (ck_hin h1 h2 rfl) (C.dec hc rfl) (kk _ hl)
set_option maxHeartbeats 1000000 in
theorem ck_r_bald {m : ck_M} {pc a : Nat} {j : Int32} {ls : ck_L} {r0 : List Value} {h h' : ck_H} {r : Option Value} (hc : (ck_cd m).lookup pc = some .baload) (ha : gk h a = 13 ∨ gk h a = 15) (h1 : ¬ j < 0) (h2 : j.toNatClampNeg < gz h a) (k : ck_S m (pc + 1) ls (.int (gI h a j.toNatClampNeg) :: r0) h r h') : ck_S m pc ls (.int j :: .ref a :: r0) h r h' := by
  refine ck_S.pure k fun p l e R s mi args below meth c base b L xs D cy H locs cells slots lsM Q C hl hH hS kk => ?_
  rcases ha with ha | ha
  · have hcell := (hH.2.2.1 a (by omega)).2.2.ints ha (by omega) (by omega)
    exact W.bald (v := .int (gI h a j.toNatClampNeg)) C.1 C.2.1 hcell ((C.2.2.2.2.2.2.1.1.2 0 _ rfl).1 _ _) (fun q => by cases q) (ck_hin h1 h2 (arrV_size _ _ _)) (arrV_read _ (fun i => .int (gI h a i)) h2) rfl rfl (C.dec hc rfl) (kk _ hl)
  · have hcell := (hH.2.2.1 a (by omega)).2.2.ints ha (by omega) (by omega)
    exact W.zald (v := .int (gI h a j.toNatClampNeg)) C.1 C.2.1 hcell ((C.2.2.2.2.2.2.1.1.2 2 _ rfl).1 _ _) (fun q => by cases q) (ck_hin h1 h2 (arrV_size _ _ _)) (arrV_read _ (fun i => .int (gI h a i)) h2) rfl rfl (C.dec hc rfl) (kk _ hl)
set_option maxHeartbeats 1000000 in
theorem ck_r_aald {m : ck_M} {pc a : Nat} {j : Int32} {ls : ck_L} {r0 : List Value} {h h' : ck_H} {r : Option Value} (hc : (ck_cd m).lookup pc = some .aaload) (ha : 16 ≤ gk h a ∧ gk h a ≤ 20) (h1 : ¬ j < 0) (h2 : j.toNatClampNeg < gz h a) (k : ck_S m (pc + 1) ls (va_rf (gR h a j.toNatClampNeg) :: r0) h r h') : ck_S m pc ls (.int j :: .ref a :: r0) h r h' := by
  refine ck_S.pure k fun p l e R s mi args below meth c base b L xs D cy H locs cells slots lsM Q C hl hH hS kk => ?_
  have hcell := (hH.2.2.1 a ha.2).2.2.refs rfl ha.1
  obtain ⟨c0, hc0⟩ := ck_ka_of ha.1 ha.2
  obtain ⟨-, -, -, t, ht⟩ := ck_ty_ref cy hc0
  exact W.aald (v := va_rf (gR h a j.toNatClampNeg)) (ty := .object (ck_on c0)) C.1 C.2.1 hcell ((C.2.2.2.2.2.2.1.1.2 t _ ht).1 _ _) rfl (fun q => by cases q) (ck_hin h1 h2 (arrV_size _ _ _)) (arrV_read _ (fun i => va_rf (gR h a i)) h2) rfl rfl (C.dec hc rfl) (kk _ hl)
set_option maxHeartbeats 1000000 in
theorem ck_r_alen {m : ck_M} {pc a : Nat} {ls : ck_L} {r0 : List Value} {h h' : ck_H} {r : Option Value} (hc : (ck_cd m).lookup pc = some .arraylength) (ha : 13 ≤ gk h a ∧ gk h a ≤ 21) (k : ck_S m (pc + 1) ls (.int (Int32.ofNat (gz h a)) :: r0) h r h') : ck_S m pc ls (.ref a :: r0) h r h' := by
  refine ck_S.pure k fun p l e R s mi args below meth c base b L xs D cy H locs cells slots lsM Q C hl hH hS kk => ?_
  by_cases h16 : gk h a < 16
  · have hcell := (hH.2.2.1 a (by omega)).2.2.ints rfl ha.1 h16
    obtain ⟨t, ty, ht, -⟩ := ck_ty_int cy ha.1 h16
    exact W.alen (n := Int32.ofNat (gz h a)) C.1 C.2.1 hcell ((C.2.2.2.2.2.2.1.1.2 t _ ht).1 _ _) (by rw [arrV_size]) rfl rfl (C.dec hc rfl) (kk _ hl)
  · by_cases h21 : gk h a = 21
    · have hab := hH.2.2.2.2.2.2.2 a h21
      subst hab
      rw [hH.2.2.2.2.2.1] at kk
      exact va_slen C.1 C.2.1 C.2.2.2.2.2.2.2.2.2.2.2.2.1 (Nat.lt_of_lt_of_le C.2.2.2.2.2.2.2.2.2.2.2.2.2.1 C.2.2.2.2.2.2.2.2.2.2.2.1) (by have := C.2.2.2.2.2.2.2.2.2.2.2.2.2.1; omega) hS (C.dec hc rfl) (kk _ hl)
    · have hcell := (hH.2.2.1 a (by omega)).2.2.refs rfl (by omega)
      obtain ⟨c0, hc0⟩ := ck_ka_of (k := gk h a) (by omega) (by omega)
      obtain ⟨-, -, -, t, ht⟩ := ck_ty_ref cy hc0
      exact W.alen (n := Int32.ofNat (gz h a)) C.1 C.2.1 hcell ((C.2.2.2.2.2.2.1.1.2 t _ ht).1 _ _) (by rw [arrV_size]) rfl rfl (C.dec hc rfl) (kk _ hl)
