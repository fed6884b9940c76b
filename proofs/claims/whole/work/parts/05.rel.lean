def ck_g : List Cond := lw_tbl.filter goodWord
theorem ck_gin {w : Cond} (h : ck_w w) : w ∈ ck_g := List.mem_filter.mpr h
theorem ck_gof {w : Cond} (h : w ∈ ck_g) : ck_w w := List.mem_filter.mp h
def ck_tys (cy : Nat → ClassId) : List (ClassId × FieldType) := [(cy 0, .byte), (cy 1, .int), (cy 2, .boolean), (cy 3, .object (ck_on 1)), (cy 4, .object (ck_on 2)), (cy 5, .object (ck_on 5)), (cy 6, .object (ck_on 8)), (cy 7, .object (ck_on 9))]
/-- what the tables say, at a state -/
def ck_E (D : va_G) (cy : Nat → ClassId) (U : State) : Prop := va_K D ck_cl (ck_tys cy) U ∧ (∀ w ∈ ck_nF, va_Nw w U) ∧ (∀ w ∈ ck_nM, va_Nw w U) ∧ (∀ c k, ck_ak c = some k → va_AO (ck_on c) U)
theorem ck_E.warm {D : va_G} {cy : Nat → ClassId} {s U : State} (h : ck_E D cy s) (hW : s.WarmedH U.vm) : ck_E D cy U := by
  obtain ⟨h1, h2, h3, h4⟩ := h
  refine ⟨va_K.moved hW.alike h1, fun w hw => ?_, fun w hw => ?_, fun c k hk => (h4 c k hk).moved hW.alike⟩
  · have h5 := h2 w hw
    simp only [ck_nF, List.mem_cons, List.not_mem_nil, or_false] at hw
    rcases hw with rfl | rfl | rfl | rfl <;> exact va_Nw.warmF hW h5
  · have h5 := h3 w hw
    simp only [ck_nM, List.mem_cons, List.not_mem_nil, or_false] at hw
    rcases hw with rfl | rfl | rfl | rfl | rfl | rfl | rfl | rfl <;> exact va_Nw.warmM hW h5
theorem ck_E.same {D : va_G} {cy : Nat → ClassId} {s U : State} (h : ck_E D cy s) (hv : s.vm = U.vm) : ck_E D cy U := by
  obtain ⟨h1, h2, h3, h4⟩ := h
  have ha : s.vm.Alike U.vm := by rw [hv]; exact Vm.Alike.refl _
  refine ⟨va_K.moved ha h1, fun w hw => ?_, fun w hw => ?_, fun c k hk => (h4 c k hk).moved ha⟩
  · have h5 := h2 w hw
    simp only [ck_nF, List.mem_cons, List.not_mem_nil, or_false] at hw
    rcases hw with rfl | rfl | rfl | rfl <;> exact va_Nw.same rfl hv h5
  · have h5 := h3 w hw
    simp only [ck_nM, List.mem_cons, List.not_mem_nil, or_false] at hw
    rcases hw with rfl | rfl | rfl | rfl | rfl | rfl | rfl | rfl <;> exact va_Nw.same rfl hv h5
/-- the cell at an address is as our heap says -/
def ck_cell (D : va_G) (cy : Nat → ClassId) (h : ck_H) (a : Nat) (H : Heap) : Prop :=
  if gk h a < 13 then t_OB a (D.1 (gk h a)) (ck_N (gk h a)) (D.2 (gk h a)) H (ck_fv h a (gk h a))
  else if gk h a < 16 then H[a]? = some (arrV (cy (gk h a - 13)) (gz h a) (fun i => .int (gI h a i)))
  else H[a]? = some (arrV (cy (gk h a - 13)) (gz h a) (fun i => va_rf (gR h a i)))
theorem ck_cell.ob {D : va_G} {cy : Nat → ClassId} {h : ck_H} {a c : Nat} {H : Heap} (hc : ck_cell D cy h a H) (hk : gk h a = c) (hlt : c < 13) : t_OB a (D.1 c) (ck_N c) (D.2 c) H (ck_fv h a c) := by
  subst hk
  unfold ck_cell at hc
  rwa [if_pos hlt] at hc
theorem ck_cell.ints {D : va_G} {cy : Nat → ClassId} {h : ck_H} {a c : Nat} {H : Heap} (hc : ck_cell D cy h a H) (hk : gk h a = c) (h1 : 13 ≤ c) (h2 : c < 16) : H[a]? = some (arrV (cy (c - 13)) (gz h a) (fun i => .int (gI h a i))) := by
  subst hk
  unfold ck_cell at hc
  rwa [if_neg (by omega), if_pos h2] at hc
theorem ck_cell.refs {D : va_G} {cy : Nat → ClassId} {h : ck_H} {a c : Nat} {H : Heap} (hc : ck_cell D cy h a H) (hk : gk h a = c) (h1 : 16 ≤ c) : H[a]? = some (arrV (cy (c - 13)) (gz h a) (fun i => va_rf (gR h a i))) := by
  subst hk
  unfold ck_cell at hc
  rwa [if_neg (by omega), if_neg (by omega)] at hc
theorem ck_cell.kept {D : va_G} {cy : Nat → ClassId} {h h1 : ck_H} {q : Nat} {H H1 : Heap} (hc : ck_cell D cy h q H) (ek : gk h1 q = gk h q) (ez : gz h1 q = gz h q) (eo : h1.2.2.1 q = h.2.2.1 q ∧ h1.2.2.2.1 q = h.2.2.2.1 q ∧ h1.2.2.2.2 q = h.2.2.2.2 q) (oq : H1[q]? = H[q]?) : ck_cell D cy h1 q H1 := by
  have e1 : ∀ i, gI h1 q i = gI h q i := fun i => congrFun eo.1 i
  have e2 : ∀ i, gR h1 q i = gR h q i := fun i => congrFun eo.2.1 i
  have e3 : ∀ i, gJ h1 q i = gJ h q i := fun i => congrFun eo.2.2 i
  have ef : ∀ k, ck_fv h1 q k = ck_fv h q k := fun k => funext fun i => by simp only [ck_fv, e1, e2, e3]
  unfold ck_cell at hc ⊢
  rw [ek, ez, ef, oq]
  simp only [e1, e2]
  split
  · rename_i hk
    rw [if_pos hk] at hc
    exact hc.kept oq
  · rename_i hk
    rw [if_neg hk] at hc
    exact hc
/-- our heap and the machine's -/
def ck_HR (base b L : Nat) (xs : Nat → Int32) (D : va_G) (cy : Nat → ClassId) (h : ck_H) (H : Heap) : Prop :=
  H.size = gn h ∧ base ≤ gn h ∧ (∀ a, gk h a ≤ 20 → base ≤ a ∧ a < gn h ∧ ck_cell D cy h a H) ∧ (∀ a i, gk h a = 13 → fits .byte (.int (gI h a i)) = true) ∧ gk h b = 21 ∧ gz h b = L ∧ (∀ i, i < L → gI h b i = xs i) ∧ (∀ a, gk h a = 21 → a = b)
theorem ck_HR.upd {base b L : Nat} {xs : Nat → Int32} {D : va_G} {cy : Nat → ClassId} {h h1 : ck_H} {H H1 : Heap} {a : Nat} (hb : b < base) (hH : ck_HR base b L xs D cy h H) (ha : gk h a ≤ 20) (e0 : gn h1 = gn h) (es : h1.2.1 = h.2.1)
    (eo : ∀ q, q ≠ a → h1.2.2.1 q = h.2.2.1 q ∧ h1.2.2.2.1 q = h.2.2.2.1 q ∧ h1.2.2.2.2 q = h.2.2.2.2 q) (hf : gk h a = 13 → ∀ i, fits .byte (.int (gI h1 a i)) = true) (z : H1.size = H.size) (oq : ∀ q : Nat, q ≠ a → H1[q]? = H[q]?) (hc : ck_cell D cy h1 a H1) : ck_HR base b L xs D cy h1 H1 := by
  have ek : ∀ q, gk h1 q = gk h q := fun q => by simp only [gk, es]
  have ez : ∀ q, gz h1 q = gz h q := fun q => by simp only [gz, es]
  obtain ⟨s1, s2, s3, s4, s5, s6, s7, s8⟩ := hH
  refine ⟨by rw [z, s1, e0], by rw [e0]; exact s2, fun q hq => ?_, fun q i hq => ?_, by rw [ek]; exact s5, by rw [ez]; exact s6, fun i hi => ?_, fun q hq => s8 q (by rw [← ek]; exact hq)⟩
  · rw [ek] at hq
    obtain ⟨t1, t2, t3⟩ := s3 q hq
    refine ⟨t1, by rw [e0]; exact t2, ?_⟩
    by_cases hqa : q = a
    · subst hqa; exact hc
    · exact t3.kept (ek q) (ez q) (eo q hqa) (oq q hqa)
  · rw [ek] at hq
    by_cases hqa : q = a
    · subst hqa; exact hf hq i
    · show fits .byte (.int (h1.2.2.1 q i)) = true
      rw [(eo q hqa).1]
      exact s4 q i hq
  · have hba : b ≠ a := by
      have := (s3 a ha).1
      omega
    show h1.2.2.1 b i = xs i
    rw [(eo b hba).1]
    exact s7 i hi
theorem ck_gk_wN (h : ck_H) (k n a : Nat) : gk (wN h k n) a = if a = gn h then k else gk h a := by
  simp only [gk, wN, va_up]
  split <;> rfl
theorem ck_gz_wN (h : ck_H) (k n a : Nat) : gz (wN h k n) a = if a = gn h then n else gz h a := by
  simp only [gz, wN, va_up]
  split <;> rfl
theorem ck_HR.mk {base b L : Nat} {xs : Nat → Int32} {D : va_G} {cy : Nat → ClassId} {h : ck_H} {H H1 : Heap} {k n : Nat} (hb : b < base) (hH : ck_HR base b L xs D cy h H) (hk : k ≤ 20) (z : H1.size = gn h + 1) (oq : ∀ q : Nat, q < gn h → H1[q]? = H[q]?) (hc : ck_cell D cy (wN h k n) (gn h) H1) : ck_HR base b L xs D cy (wN h k n) H1 := by
  obtain ⟨s1, s2, s3, s4, s5, s6, s7, s8⟩ := hH
  have hbn : b ≠ gn h := by omega
  have e0 : gn (wN h k n) = gn h + 1 := rfl
  have eo : ∀ q, q ≠ gn h → (wN h k n).2.2.1 q = h.2.2.1 q ∧ (wN h k n).2.2.2.1 q = h.2.2.2.1 q ∧ (wN h k n).2.2.2.2 q = h.2.2.2.2 q := fun q hq => by
    refine ⟨?_, ?_, ?_⟩ <;> funext j <;> simp only [wN, if_neg hq]
  refine ⟨by rw [z, e0], by rw [e0]; omega, fun q hq => ?_, fun q i hq => ?_, by rw [ck_gk_wN, if_neg hbn]; exact s5, by rw [ck_gz_wN, if_neg hbn]; exact s6, fun i hi => ?_, fun q hq => ?_⟩
  · by_cases hqn : q = gn h
    · subst hqn; exact ⟨s2, by rw [e0]; omega, hc⟩
    · rw [ck_gk_wN, if_neg hqn] at hq
      obtain ⟨t1, t2, t3⟩ := s3 q hq
      refine ⟨t1, by rw [e0]; omega, ?_⟩
      exact t3.kept (by rw [ck_gk_wN, if_neg hqn]) (by rw [ck_gz_wN, if_neg hqn]) (eo q hqn) (oq q t2)
  · by_cases hqn : q = gn h
    · subst hqn
      show fits .byte (.int (if gn h = gn h then 0 else h.2.2.1 (gn h) i)) = true
      rw [if_pos rfl]
      rfl
    · rw [ck_gk_wN, if_neg hqn] at hq
      show fits .byte (.int ((wN h k n).2.2.1 q i)) = true
      rw [(eo q hqn).1]
      exact s4 q i hq
  · show (wN h k n).2.2.1 b i = xs i
    rw [(eo b hbn).1]
    exact s7 i hi
  · by_cases hqn : q = gn h
    · rw [ck_gk_wN, if_pos hqn] at hq
      omega
    · rw [ck_gk_wN, if_neg hqn] at hq
      exact s8 q hq
/-- our locals and the machine's -/
def ck_LR (lsM : Array Slot) (n : Nat) (ls : ck_L) : Prop := lsM.size = n ∧ ls.length = n ∧ lv_wf lsM ∧ ∀ (i : Nat) (v : Value), ls[i]? = some (some v) → lsM[i]? = some (.val v)
def ck_lv (ls : ck_L) : List (Nat × Value) := (List.range ls.length).filterMap fun i => match ls[i]? with
  | some (some v) => some (i, v)
  | _ => none
theorem ck_lv_mem {ls : ck_L} {i : Nat} {v : Value} : (i, v) ∈ ck_lv ls ↔ ls[i]? = some (some v) := by
  unfold ck_lv
  rw [List.mem_filterMap]
  constructor
  · rintro ⟨j, -, hj⟩
    split at hj
    · rename_i w hw
      cases hj
      exact hw
    · cases hj
  · intro h
    refine ⟨i, List.mem_range.mpr (List.getElem?_eq_some_iff.mp h).1, ?_⟩
    rw [h]
theorem ck_LR.has {lsM : Array Slot} {n : Nat} {ls : ck_L} (h : ck_LR lsM n ls) : lv_has lsM n (ck_lv ls) := ⟨h.1, h.2.2.1, fun q hq => h.2.2.2 q.1 q.2 (ck_lv_mem.mp hq)⟩
theorem ck_LR.set1 {lsM : Array Slot} {n i : Nat} {ls ls' : ck_L} {v : Value} (h : ck_s1 ls i v = some ls') (hl : ls.length = n) (h2 : lv_has lsM n ((i, v) :: (ck_lv ls).filter (fun q => !(q.1 == i) && !(q.1 + 1 == i && q.2.category == 2)))) : ck_LR lsM n ls' := by
  unfold ck_s1 at h
  split at h
  · rename_i hc
    cases h
    rw [Bool.and_eq_true, decide_eq_true_eq] at hc
    refine ⟨h2.1, by rw [List.length_set]; exact hl, h2.2.1, fun j w hj => ?_⟩
    by_cases hji : j = i
    · subst hji
      rw [List.getElem?_set_self hc.1] at hj
      cases hj
      exact h2.2.2 (j, v) List.mem_cons_self
    · rw [List.getElem?_set_ne (Ne.symm hji)] at hj
      refine h2.2.2 (j, w) (List.mem_cons_of_mem _ (List.mem_filter.mpr ⟨ck_lv_mem.mpr hj, ?_⟩))
      simp only [Bool.and_eq_true, Bool.not_eq_true', beq_eq_false_iff_ne, ne_eq, Bool.and_eq_false_iff]
      refine ⟨hji, ?_⟩
      by_cases hj1 : j + 1 = i
      · right
        subst hj1
        have h3 := hc.2
        simp only [ck_nl, hj, beq_iff_eq] at h3
        omega
      · exact Or.inl hj1
  · cases h
theorem ck_LR.set2 {lsM : Array Slot} {n i : Nat} {ls ls' : ck_L} {v : Value} (h : ck_s2 ls i v = some ls') (hl : ls.length = n) (h2 : lv_has lsM n ((i, v) :: (ck_lv ls).filter (fun q => !(q.1 == i) && (!(q.1 == i + 1) && !(q.1 + 1 == i && q.2.category == 2))))) : ck_LR lsM n ls' := by
  unfold ck_s2 at h
  split at h
  · rename_i hc
    cases h
    rw [Bool.and_eq_true, decide_eq_true_eq] at hc
    refine ⟨h2.1, by rw [List.length_set, List.length_set]; exact hl, h2.2.1, fun j w hj => ?_⟩
    by_cases hj2 : j = i + 1
    · subst hj2
      rw [List.getElem?_set_self (by rw [List.length_set]; exact hc.1)] at hj
      cases hj
    · rw [List.getElem?_set_ne (Ne.symm hj2)] at hj
      by_cases hji : j = i
      · subst hji
        rw [List.getElem?_set_self (by omega)] at hj
        cases hj
        exact h2.2.2 (j, v) List.mem_cons_self
      · rw [List.getElem?_set_ne (Ne.symm hji)] at hj
        refine h2.2.2 (j, w) (List.mem_cons_of_mem _ (List.mem_filter.mpr ⟨ck_lv_mem.mpr hj, ?_⟩))
        simp only [Bool.and_eq_true, Bool.not_eq_true', beq_eq_false_iff_ne, ne_eq, Bool.and_eq_false_iff]
        refine ⟨hji, hj2, ?_⟩
        by_cases hj1 : j + 1 = i
        · right
          subst hj1
          have h3 := hc.2
          simp only [ck_nl, hj, beq_iff_eq] at h3
          omega
        · exact Or.inl hj1
  · cases h
theorem ck_s1_lt {ls ls' : ck_L} {i : Nat} {v : Value} (h : ck_s1 ls i v = some ls') : i < ls.length := by
  unfold ck_s1 at h
  split at h
  · rename_i hc
    rw [Bool.and_eq_true, decide_eq_true_eq] at hc
    exact hc.1
  · cases h
theorem ck_s2_lt {ls ls' : ck_L} {i : Nat} {v : Value} (h : ck_s2 ls i v = some ls') : i + 1 < ls.length := by
  unfold ck_s2 at h
  split at h
  · rename_i hc
    rw [Bool.and_eq_true, decide_eq_true_eq] at hc
    exact hc.1
  · cases h
/-- a frame of a method of ours -/
def ck_C (p : Program) (R : Room) (s : State) (mi : MethodId) (args : Array Value) (meth : Method) (c : Code) (m : ck_M) (base b L : Nat) (xs : Nat → Int32) (D : va_G) (cy : Nat → ClassId) : Prop :=
  p.tables.exec = Jvm.exec ∧ c.code = ck_bs m ∧ c.maxLocals = ck_ml m ∧ meth.sig.returnType = ck_rt m ∧ s.vm.findClass (ck_on (ck_ow m)) = some mi.cls ∧ (∀ w, ck_w w → w.before args s = true) ∧ ck_E D cy s ∧ meth.locks = false ∧ ((ck_nm m).name = "<init>" → meth.name = "<init>") ∧ R.frames = ck_fr m ∧ R.locals = ck_lo m ∧ base ≤ s.heap.size ∧ va_X b L xs s s.heap ∧ b < base ∧ ck_DP m
theorem ck_C.dec {p : Program} {R : Room} {s : State} {mi : MethodId} {args : Array Value} {meth : Method} {c : Code} {m : ck_M} {base b L : Nat} {xs : Nat → Int32} {D : va_G} {cy : Nat → ClassId} (C : ck_C p R s mi args meth c m base b L xs D cy) {pc n : Nat} {i : Instr} (h : (ck_cd m).lookup pc = some i) (hn : ck_len i = n + 1) : decode (ck_bs m) pc = .ok (i, n + 1) := by
  obtain ⟨k, h1, h2⟩ := ck_dec C.2.2.2.2.2.2.2.2.2.2.2.2.2.2 h
  rcases h2 with h2 | h2
  · omega
  · rw [h1, h2, hn]
/-- how a method ends -/
def ck_Rt (p : Program) (l : Launch) (e : Env) (R : Room) (s : State) (mi : MethodId) (args : Array Value) (below : List Frame) (meth : Method) (c : Code) (m : ck_M) (base b L : Nat) (xs : Nat → Int32) (D : va_G) (cy : Nat → ClassId) (r : Option Value) (h' : ck_H) (Q : State → Prop) : Prop :=
  ∀ (H : Heap) (locs : List Loc) (pc : Nat) (lsM : Array Slot) (st : List Value) (i : Instr), (ck_cd m).lookup pc = some i → ck_rv m st i = some r → ck_HR base b L xs D cy h' H → va_S (fun q => base ≤ q) s.heap H locs → W p l e R s mi args below meth c H locs R.cells R.slots Q (F0 mi pc lsM st)
/-- the machine does as ck_x, from here -/
def ck_S (m : ck_M) (pc : Nat) (ls : ck_L) (st : List Value) (h : ck_H) (r : Option Value) (h' : ck_H) : Prop := gn h ≤ gn h' ∧ gu h ≤ gu h' ∧
  ∀ (p : Program) (l : Launch) (e : Env) (R : Room) (s : State) (mi : MethodId) (args : Array Value) (below : List Frame) (meth : Method) (c : Code) (base b L : Nat) (xs : Nat → Int32) (D : va_G) (cy : Nat → ClassId) (H : Heap) (locs : List Loc) (cells slots : Nat) (lsM : Array Slot) (Q : State → Prop),
    ck_C p R s mi args meth c m base b L xs D cy → ck_LR lsM (ck_ml m) ls → ck_HR base b L xs D cy h H → va_S (fun q => base ≤ q) s.heap H locs → cells + (gn h' - gn h) = R.cells → slots + (gu h' - gu h) = R.slots → ck_Rt p l e R s mi args below meth c m base b L xs D cy r h' Q → W p l e R s mi args below meth c H locs cells slots Q (F0 mi pc lsM st)
/-- a step that leaves the heap -/
theorem ck_S.pure {m : ck_M} {pc pc' : Nat} {ls ls' : ck_L} {st st' : List Value} {h h' : ck_H} {r : Option Value} (k : ck_S m pc' ls' st' h r h')
    (f : ∀ (p : Program) (l : Launch) (e : Env) (R : Room) (s : State) (mi : MethodId) (args : Array Value) (below : List Frame) (meth : Method) (c : Code) (base b L : Nat) (xs : Nat → Int32) (D : va_G) (cy : Nat → ClassId) (H : Heap) (locs : List Loc) (cells slots : Nat) (lsM : Array Slot) (Q : State → Prop),
      ck_C p R s mi args meth c m base b L xs D cy → ck_LR lsM (ck_ml m) ls → ck_HR base b L xs D cy h H → va_S (fun q => base ≤ q) s.heap H locs → (∀ lsM', ck_LR lsM' (ck_ml m) ls' → W p l e R s mi args below meth c H locs cells slots Q (F0 mi pc' lsM' st')) → W p l e R s mi args below meth c H locs cells slots Q (F0 mi pc lsM st)) : ck_S m pc ls st h r h' :=
  ⟨k.1, k.2.1, fun p l e R s mi args below meth c base b L xs D cy H locs cells slots lsM Q C hl hH hS h1 h2 hQ => f p l e R s mi args below meth c base b L xs D cy H locs cells slots lsM Q C hl hH hS (fun lsM' hl' => k.2.2 p l e R s mi args below meth c base b L xs D cy H locs cells slots lsM' Q C hl' hH hS h1 h2 hQ)⟩
