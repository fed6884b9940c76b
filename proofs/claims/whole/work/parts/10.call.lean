/-- a method's start and end, in our words -/
def ck_Pc (base b L : Nat) (xs : Nat → Int32) (D : va_G) (cy : Nat → ClassId) (As : List Value) (h : ck_H) : Array Value → State → Prop := fun v U => v = As.toArray ∧ ck_E D cy U ∧ ck_HR base b L xs D cy h U.heap ∧ va_X b L xs U U.heap
def ck_Q (base b L : Nat) (xs : Nat → Int32) (D : va_G) (cy : Nat → ClassId) (r : Option Value) (h' : ck_H) : Array Value → State → Outcome → State → Prop := fun _ st o t => o = .returned r ∧ ck_HR base b L xs D cy h' t.heap ∧ va_F (fun q => base ≤ q) st t
def ck_rm (y : ck_M) (mc ms : Nat) : Room := { frames := ck_fr y, cells := mc, slots := ms, locals := ck_lo y }
def ck_ws (y : ck_M) : List Cond := Cond.code (ck_nm y) (ck_bs y) (ck_ml y) (ck_rt y) :: ck_g
theorem ck_Pc.blind {base b L : Nat} {xs : Nat → Int32} {D : va_G} {cy : Nat → ClassId} {As : List Value} {h : ck_H} : FrameBlind (ck_Pc base b L xs D cy As h) := by
  intro a U g mk hp
  obtain ⟨h1, h2, h3, h4⟩ := hp
  exact ⟨h1, h2.same rfl, h3, va_X.moved (u := U) (Vm.Alike.refl U.vm) h4⟩
theorem ck_ent_sl : ∀ (As : List Value), (ck_ent As).length = (lg_sl As).length ∧ ∀ (i : Nat) (v : Value), (ck_ent As)[i]? = some (some v) → (lg_sl As)[i]? = some (.val v)
  | [] => ⟨rfl, fun i v h => by simp [ck_ent] at h⟩
  | w :: t => by
    obtain ⟨h1, h2⟩ := ck_ent_sl t
    by_cases hw : w.category = 2
    · have e1 : lg_sl (w :: t) = .val w :: .second :: lg_sl t := by simp [lg_sl, hw]
      have e2 : ck_ent (w :: t) = some w :: none :: ck_ent t := by simp [ck_ent, hw]
      rw [e1, e2]
      refine ⟨by simp [h1], fun i v h => ?_⟩
      cases i with
      | zero => simp at h ⊢; exact h
      | succ i =>
        cases i with
        | zero => simp at h
        | succ i => simp at h ⊢; exact h2 i v h
    · have e1 : lg_sl (w :: t) = .val w :: lg_sl t := by simp [lg_sl, hw]
      have e2 : ck_ent (w :: t) = some w :: ck_ent t := by simp [ck_ent, hw]
      rw [e1, e2]
      refine ⟨by simp [h1], fun i v h => ?_⟩
      cases i with
      | zero => simp at h ⊢; exact h
      | succ i => simp at h ⊢; exact h2 i v h
theorem ck_LR.entry (As : List Value) {n : Nat} (h : (ck_ent As).length ≤ n) : ck_LR ((lg_sl As ++ List.replicate (n - (lg_sl As).length) Slot.unset).toArray) n (ck_in As n) := by
  obtain ⟨h1, h2⟩ := ck_ent_sl As
  have hl := lv_entry As (n := n) (by rw [← h1]; exact h)
  refine ⟨hl.1, by simp [ck_in]; omega, hl.2.1, fun i v hv => ?_⟩
  have hi : i < (ck_ent As).length := by
    by_cases hi : i < (ck_ent As).length
    · exact hi
    · exfalso
      rw [ck_in, List.getElem?_append_right (by omega), List.getElem?_replicate] at hv
      split at hv <;> cases hv
  rw [ck_in, List.getElem?_append_left hi] at hv
  have h3 := h2 i v hv
  rw [List.getElem?_toArray, List.getElem?_append_left (by rw [← h1]; exact hi)]
  exact h3
set_option maxHeartbeats 1000000 in
/-- how a method of ours ends -/
theorem ck_Rt.of {p : Program} {l : Launch} {e : Env} {R : Room} {s : State} {mi : MethodId} {args : Array Value} {below : List Frame} {meth : Method} {c : Code} {m : ck_M} {base b L : Nat} {xs : Nat → Int32} {D : va_G} {cy : Nat → ClassId} {r : Option Value} {h' : ck_H} (C : ck_C p R s mi args meth c m base b L xs D cy) : ck_Rt p l e R s mi args below meth c m base b L xs D cy r h' (MQ below (ck_Q base b L xs D cy r h') args s R.cells R.slots (fun q => base ≤ q)) := by
  intro H locs pc lsM st i hi hrv hH hS
  have hlk := C.2.2.2.2.2.2.2.1
  have hr := C.2.2.2.1
  cases i <;> simp only [ck_rv] at hrv <;> try (cases hrv; done)
  · split at hrv
    · rename_i hst hrt
      cases hrv
      rw [hrt] at hr
      exact W.aret C.1 C.2.1 hr (Or.inl ⟨_, rfl⟩) (Or.inr ⟨_, rfl⟩) (fun t ht hW => ⟨rfl, by rw [ht]; exact hH, hS.F ht⟩) hS.2.2 (C.dec hi rfl)
    · rename_i hst hrt
      cases hrv
      rw [hrt] at hr
      exact W.aret C.1 C.2.1 hr (Or.inl ⟨_, rfl⟩) (Or.inl rfl) (fun t ht hW => ⟨rfl, by rw [ht]; exact hH, hS.F ht⟩) hS.2.2 (C.dec hi rfl)
    · cases hrv
  · split at hrv
    · rename_i hst hrt
      cases hrv
      rw [hrt] at hr
      exact W.iret C.1 C.2.1 hr (fun t ht hW => ⟨rfl, by rw [ht]; exact hH, hS.F ht⟩) hS.2.2 (C.dec hi rfl)
    · rename_i hst hrt
      split at hrv
      · rename_i hv
        cases hrv
        rw [hrt] at hr
        exact W.zret C.1 C.2.1 hr (by rcases hv with rfl | rfl <;> rfl) (fun t ht hW => ⟨rfl, by rw [ht]; exact hH, hS.F ht⟩) hS.2.2 (C.dec hi rfl)
      · cases hrv
    · cases hrv
  · split at hrv
    · rename_i hst hrt
      cases hrv
      rw [hrt] at hr
      exact W.lret C.1 C.2.1 hr (fun t ht hW => ⟨rfl, by rw [ht]; exact hH, hS.F ht⟩) hS.2.2 (C.dec hi rfl)
    · cases hrv
  · split at hrv
    · rename_i hst hrt
      cases hrv
      rw [hrt] at hr
      exact W.vret C.1 C.2.1 hr (fun t ht hW => ⟨rfl, by rw [ht]; exact hH, hS.F ht⟩) hS.2.2 (C.dec hi rfl)
    · cases hrv
set_option maxHeartbeats 1000000 in
theorem ck_met {y : ck_M} (hy : ck_MP y) {As : List Value} {h h' : ck_H} {r : Option Value} (hS : ck_S y 0 (ck_in As (ck_ml y)) [] h r h') (hent : (ck_ent As).length ≤ ck_ml y) (l : Launch) {base b L : Nat} (hbb : b < base) (xs : Nat → Int32) (D : va_G) (cy : Nat → ClassId) :
    Met l (ck_nm y) (ck_ws y) (ck_rm y (gn h' - gn h) (gu h' - gu h)) (ck_Pc base b L xs D cy As h) (ck_Q base b L xs D cy r h') (gn h' - gn h) (gu h' - gu h) (fun q => base ≤ q) := by
  obtain ⟨y1, y2, y3, y4, y5, y6⟩ := hy
  refine va_MetF (cc := ck_bs y) (maxL := ck_ml y) (ret := ck_rt y) y3 rfl ?_
  intro p e s mi args below meth c s₁ B hml hv
  obtain ⟨rfl, hE, hH, hX⟩ := hv
  have hts := atoms_spec (ws := ck_ws y) B.pre
  have hown : s.vm.findClass (ck_on (ck_ow y)) = some mi.cls := by rw [y5]; exact findClass_of_methodNamed B.named
  have C : ck_C p (ck_rm y (gn h' - gn h) (gu h' - gu h)) s mi As.toArray meth c y base b L xs D cy :=
    ⟨B.exec, B.bytes, hml, B.returns, hown, fun w hw => hts w (List.mem_cons_of_mem _ (ck_gin hw)), hE, B.notSynchronized, fun hn => ((name_of_methodNamed B.named B.method).1).trans hn, rfl, rfl, by rw [hH.1]; exact hH.2.1, hX, hbb, y6⟩
  rw [lg_entry_eq]
  exact hS.2.2 p l e (ck_rm y (gn h' - gn h) (gu h' - gu h)) s mi As.toArray below meth c base b L xs D cy s.heap [] 0 0 _ _ C (ck_LR.entry As hent) hH va_S.rf (Nat.zero_add _) (Nat.zero_add _) (ck_Rt.of C)
