section CKR
variable {p : Program} {l : Launch} {e : Env} {R : Room} {s : State} {mi : MethodId} {args : Array Value} {below : List Frame} {meth : Method} {c : Code} {H : Heap} {locs : List Loc} {cells slots : Nat} {Q : State → Prop}
/-- behind a call -/
theorem ck_run {base b L mc ms pc : Nat} {xs : Nat → Int32} {D : va_G} {cy : Nat → ClassId} {r1 : Option Value} {h1 : ck_H} {lsM : Array Slot} {st0 rest : List Value} {a : Array Value} (hr : va_Run p l e R s mi args below meth c H locs cells slots mc ms (F0 mi pc lsM st0) rest (ck_Q base b L xs D cy r1 h1 a) (fun q => base ≤ q)) (hS : va_S (fun q => base ≤ q) s.heap H locs)
    (kk : ∀ (H1 : Heap) (locs1 : List Loc), ck_HR base b L xs D cy h1 H1 → va_S (fun q => base ≤ q) s.heap H1 locs1 → W p l e R s mi args below meth c H1 locs1 (cells + mc) (slots + ms) Q (F0 mi (pc + 3) lsM (r1.toList ++ rest))) : W p l e R s mi args below meth c H locs cells slots Q (F0 mi pc lsM st0) := by
  intro T hT X
  obtain ⟨v, st₀, t, T', L', h0, X', hL, e1, e2, ⟨hv, hh, hz, hk⟩, st⟩ := hr T hT X
  cases hv
  rw [h0] at hz hk
  obtain ⟨t2, a1, b1⟩ := kk T'.heap (locs ++ L') (by rw [e1]; exact hh) ⟨Nat.le_trans hS.1 (by rw [e1]; exact hz), fun q g1 g2 => by rw [e1, hk q (Nat.lt_of_lt_of_le g1 hS.1) g2]; exact hS.2.1 q g1 g2, fun q hq => by
      rcases List.mem_append.mp hq with z | z
      · exact hS.2.2 q z
      · exact hL q z⟩ T' rfl X'
  exact ⟨t2, st t2 a1, b1⟩
/-- the start of a callee -/
theorem ck_Pc.call {m : ck_M} {base b L : Nat} {xs : Nat → Int32} {D : va_G} {cy : Nat → ClassId} {As : List Value} {h : ck_H} (C : ck_C p R s mi args meth c m base b L xs D cy) (hH : ck_HR base b L xs D cy h H) (hS : va_S (fun q => base ≤ q) s.heap H locs) : ∀ U : State, U.heap = H → s.WarmedH U.vm → ck_Pc base b L xs D cy As h As.toArray U := by
  intro U hU hW
  have hbb := C.2.2.2.2.2.2.2.2.2.2.2.2.2.1
  have hbs := C.2.2.2.2.2.2.2.2.2.2.2.1
  refine ⟨rfl, C.2.2.2.2.2.2.1.warm hW, by rw [hU]; exact hH, ?_⟩
  rw [hU]
  exact va_X.moved hW.alike (C.2.2.2.2.2.2.2.2.2.2.2.2.1.kept (hS.2.1 b (by omega) (by omega)))
/-- the words of a callee hold at its start -/
theorem ck_pay {m y : ck_M} {base b L : Nat} {xs : Nat → Int32} {D : va_G} {cy : Nat → ClassId} (C : ck_C p R s mi args meth c m base b L xs D cy) (hy : ck_MP y) : ∀ w ∈ ck_ws y, ∀ (a' : Array Value) (U : State), s.WarmedH U.vm → w.before a' U = true := by
  intro w hw a' U hW
  have h1 : ck_w w := by
    rcases List.mem_cons.mp hw with rfl | h1
    · exact hy.1
    · exact ck_gof h1
  exact word_at hW (good_of_word h1.2) (C.2.2.2.2.2.1 w h1)
theorem ck_len_of {d : String} {n : Nat} (h : (parseMethodDescriptor d).map (fun d => d.parameters.length) = some n) : ∀ sig, parseMethodDescriptor d = some sig → n = sig.parameters.length := by
  intro sig hs
  rw [hs] at h
  exact (Option.some.inj h).symm
end CKR
set_option maxHeartbeats 1000000 in
theorem ck_r_callV {m y : ck_M} {pc ix na b0 : Nat} {As rest : List Value} {ls : ck_L} {h h1 h' : ck_H} {r1 r : Option Value} (hc : (ck_cd m).lookup pc = some (.invokevirtual ix)) (hm : ck_mr (ck_ow m) ix = some (0, na, y)) (hb0 : gk h b0 = ck_ow y) (hlt : ck_ow y < 13) (hn : As.length = na) (c1 : ck_sum rest ≤ 8) (c2 : ck_fr y + 1 ≤ ck_fr m) (c3 : 8 + (ck_ml y + 11) + ck_lo y ≤ ck_lo m) (c4 : (ck_ent (.ref b0 :: As)).length ≤ ck_ml y) (k1 : ck_S y 0 (ck_in (.ref b0 :: As) (ck_ml y)) [] h r1 h1) (k2 : ck_S m (pc + 3) ls (r1.toList ++ rest) h1 r h') : ck_S m pc ls (As.reverse ++ .ref b0 :: rest) h r h' := by
  obtain ⟨m1, m2, k3⟩ := k2
  have m3 := k1.1
  have m4 := k1.2.1
  refine ⟨by omega, by omega, fun p l e R s mi args below meth c base b L xs D cy H locs cells slots lsM Q C hl hH hS hcl hsl0 hQ => ?_⟩
  obtain ⟨l1, l2, l3, l4, l5⟩ := ck_mr_ok hm
  have hM := ck_met l5 k1 c4 l C.2.2.2.2.2.2.2.2.2.2.2.2.2.1 (L := L) xs D cy
  have hob := (hH.2.2.1 b0 (by omega)).2.2.ob hb0 hlt
  obtain ⟨cellB, q1, q2, q3, -⟩ := hob
  have hcls := (C.2.2.2.2.2.2.1.1.1 _ _ (ck_cp _ hlt).1).2.1
  have hT := C.2.2.2.2.2.1
  refine ck_run (va_runV (As := As) (rest := rest) (b := b0) (C := (ck_nm y).cls) (n := na) (Ts := ck_g) ⟨C.1, C.2.1, C.2.2.1, C.2.2.2.2.1, C.gts⟩ hM ⟨⟨rfl, rfl, by rw [C.2.2.2.2.2.2.2.2.2.1]; exact c2, by rw [C.2.2.2.2.2.2.2.2.2.2.1]; exact c3, ck_pay C l5, List.mem_cons_self, hT _ l5.1, hT _ l5.2.1, l5.2.2.2.1, ck_len_of l4, hT _ l1⟩, hT _ l2, hT _ l3⟩ ⟨ck_Pc.blind, ⟨cellB, q1, by rw [q3]; rfl, by rw [q2, ← l5.2.2.2.2.1]; exact hcls⟩, ck_Pc.call C hH hS⟩ rfl hn hl.1 rfl (lv_room c1) (C.dec hc rfl) ⟨by omega, by omega⟩) hS (fun H1 locs1 hH1 hS1 => ?_)
  exact k3 p l e R s mi args below meth c base b L xs D cy H1 locs1 _ _ lsM Q C hl hH1 hS1 (by omega) (by omega) hQ
set_option maxHeartbeats 1000000 in
theorem ck_r_callS {m y : ck_M} {pc ix na : Nat} {As rest : List Value} {ls : ck_L} {h h1 h' : ck_H} {r1 r : Option Value} (hc : (ck_cd m).lookup pc = some (.invokestatic ix)) (hm : ck_mr (ck_ow m) ix = some (1, na, y)) (hn : As.length = na) (c1 : ck_sum rest ≤ 8) (c2 : ck_fr y + 1 ≤ ck_fr m) (c3 : 8 + (ck_ml y + 11) + ck_lo y ≤ ck_lo m) (c4 : (ck_ent As).length ≤ ck_ml y) (k1 : ck_S y 0 (ck_in As (ck_ml y)) [] h r1 h1) (k2 : ck_S m (pc + 3) ls (r1.toList ++ rest) h1 r h') : ck_S m pc ls (As.reverse ++ rest) h r h' := by
  obtain ⟨m1, m2, k3⟩ := k2
  have m3 := k1.1
  have m4 := k1.2.1
  refine ⟨by omega, by omega, fun p l e R s mi args below meth c base b L xs D cy H locs cells slots lsM Q C hl hH hS hcl hsl0 hQ => ?_⟩
  obtain ⟨l1, l2, l4, l5⟩ := ck_mr_ok hm
  have hM := ck_met l5 k1 c4 l C.2.2.2.2.2.2.2.2.2.2.2.2.2.1 (L := L) xs D cy
  have hT := C.2.2.2.2.2.1
  refine ck_run (va_runS (As := As) (rest := rest) (n := na) (Ts := ck_g) ⟨C.1, C.2.1, C.2.2.1, C.2.2.2.2.1, C.gts⟩ hM ⟨⟨rfl, rfl, by rw [C.2.2.2.2.2.2.2.2.2.1]; exact c2, by rw [C.2.2.2.2.2.2.2.2.2.2.1]; exact c3, ck_pay C l5, List.mem_cons_self, hT _ l5.1, hT _ l5.2.1, l5.2.2.2.1, ck_len_of l4, hT _ l1⟩, hT _ l2⟩ ⟨ck_Pc.blind, ck_Pc.call C hH hS⟩ rfl hn hl.1 rfl (lv_room c1) (C.dec hc rfl) ⟨by omega, by omega⟩) hS (fun H1 locs1 hH1 hS1 => ?_)
  exact k3 p l e R s mi args below meth c base b L xs D cy H1 locs1 _ _ lsM Q C hl hH1 hS1 (by omega) (by omega) hQ
set_option maxHeartbeats 1000000 in
theorem ck_r_callI {m y : ck_M} {pc ix na b0 : Nat} {As rest : List Value} {ls : ck_L} {h h1 h' : ck_H} {r1 r : Option Value} (hc : (ck_cd m).lookup pc = some (.invokespecial ix)) (hm : ck_mr (ck_ow m) ix = some (2, na, y)) (hn : As.length = na) (c1 : ck_sum rest ≤ 8) (c2 : ck_fr y + 1 ≤ ck_fr m) (c3 : 8 + (ck_ml y + 11) + ck_lo y ≤ ck_lo m) (c4 : (ck_ent (.ref b0 :: As)).length ≤ ck_ml y) (k1 : ck_S y 0 (ck_in (.ref b0 :: As) (ck_ml y)) [] h r1 h1) (k2 : ck_S m (pc + 3) ls (r1.toList ++ rest) h1 r h') : ck_S m pc ls (As.reverse ++ .ref b0 :: rest) h r h' := by
  obtain ⟨m1, m2, k3⟩ := k2
  have m3 := k1.1
  have m4 := k1.2.1
  refine ⟨by omega, by omega, fun p l e R s mi args below meth c base b L xs D cy H locs cells slots lsM Q C hl hH hS hcl hsl0 hQ => ?_⟩
  obtain ⟨l1, l2, l3, l6, l4, l5⟩ := ck_mr_ok hm
  have hM := ck_met l5 k1 c4 l C.2.2.2.2.2.2.2.2.2.2.2.2.2.1 (L := L) xs D cy
  have hT := C.2.2.2.2.2.1
  have l6' : ck_rt y = none := l6
  refine ck_run (va_runI (As := As) (rest := rest) (b := b0) (n := na) (Ts := ck_g) (bytes := ck_bs y) (maxL := ck_ml y) ⟨C.1, C.2.1, C.2.2.1, C.2.2.2.2.1, C.gts⟩ hM ⟨⟨rfl, rfl, by rw [C.2.2.2.2.2.2.2.2.2.1]; exact c2, by rw [C.2.2.2.2.2.2.2.2.2.2.1]; exact c3, ck_pay C l5, by rw [← l6']; exact List.mem_cons_self, by rw [← l6']; exact hT _ l5.1, hT _ l5.2.1, l5.2.2.2.1, ck_len_of l4, hT _ l1⟩, l3, hT _ l2⟩ ⟨ck_Pc.blind, ck_Pc.call C hH hS⟩ rfl hn hl.1 rfl (lv_room c1) (C.dec hc rfl) ⟨by omega, by omega⟩) hS (fun H1 locs1 hH1 hS1 => ?_)
  exact k3 p l e R s mi args below meth c base b L xs D cy H1 locs1 _ _ lsM Q C hl hH1 hS1 (by omega) (by omega) hQ
set_option maxHeartbeats 1000000 in
theorem ck_r_callN {m y : ck_M} {pc ix na b0 : Nat} {As rest : List Value} {ls : ck_L} {h h1 h' : ck_H} {r1 r : Option Value} (hc : (ck_cd m).lookup pc = some (.invokespecial ix)) (hm : ck_mr (ck_ow m) ix = some (3, na, y)) (hn : As.length = na) (c1 : ck_sum rest ≤ 8) (c2 : ck_fr y + 1 ≤ ck_fr m) (c3 : 8 + (ck_ml y + 11) + ck_lo y ≤ ck_lo m) (c4 : (ck_ent (.ref b0 :: As)).length ≤ ck_ml y) (k1 : ck_S y 0 (ck_in (.ref b0 :: As) (ck_ml y)) [] h r1 h1) (k2 : ck_S m (pc + 3) ls (r1.toList ++ rest) h1 r h') : ck_S m pc ls (As.reverse ++ .ref b0 :: rest) h r h' := by
  obtain ⟨m1, m2, k3⟩ := k2
  have m3 := k1.1
  have m4 := k1.2.1
  refine ⟨by omega, by omega, fun p l e R s mi args below meth c base b L xs D cy H locs cells slots lsM Q C hl hH hS hcl hsl0 hQ => ?_⟩
  obtain ⟨l1, l2, l3, l6, l4, l5⟩ := ck_mr_ok hm
  have hM := ck_met l5 k1 c4 l C.2.2.2.2.2.2.2.2.2.2.2.2.2.1 (L := L) xs D cy
  have hT := C.2.2.2.2.2.1
  have l6' : ck_rt y = none := l6
  refine ck_run (va_runIN (As := As) (rest := rest) (b := b0) (n := na) (Ts := ck_g) (bytes := ck_bs y) (maxL := ck_ml y) (host := "CountKeyStore") ⟨C.1, C.2.1, C.2.2.1, C.2.2.2.2.1, C.gts⟩ hM ⟨⟨⟨rfl, rfl, by rw [C.2.2.2.2.2.2.2.2.2.1]; exact c2, by rw [C.2.2.2.2.2.2.2.2.2.2.1]; exact c3, ck_pay C l5, by rw [← l6']; exact List.mem_cons_self⟩, by rw [← l6']; exact hT _ l5.1, hT _ l5.2.1, l5.2.2.2.1, ck_len_of l4, va_Nw.use rfl (C.2.2.2.2.2.2.1.2.2.1 _ l1)⟩, l3, hT _ l2⟩ ⟨ck_Pc.blind, ck_Pc.call C hH hS⟩ rfl hn hl.1 rfl (lv_room c1) (C.dec hc rfl) ⟨by omega, by omega⟩) hS (fun H1 locs1 hH1 hS1 => ?_)
  exact k3 p l e R s mi args below meth c base b L xs D cy H1 locs1 _ _ lsM Q C hl hH1 hS1 (by omega) (by omega) hQ
/-- a return -/
theorem ck_r_ret {m : ck_M} {pc : Nat} {i : Instr} {ls : ck_L} {st : List Value} {h : ck_H} {r : Option Value} (hc : (ck_cd m).lookup pc = some i) (hr : ck_rv m st i = some r) : ck_S m pc ls st h r h := by
  refine ⟨Nat.le_refl _, Nat.le_refl _, fun p l e R s mi args below meth c base b L xs D cy H locs cells slots lsM Q C hl hH hS hcl hsl0 hQ => ?_⟩
  have e1 : cells = R.cells := by omega
  have e2 : slots = R.slots := by omega
  rw [e1, e2]
  exact hQ H locs pc lsM st i hc hr hH hS
