/-! ===== the state of a program that runs ===== -/
/-- memory and so on; tracks; unit, next, point, record, passes, end -/
abbrev Q : Type := Ms × Ts × Nat × Nat × Nat × Nat × Nat × Nat
abbrev qM (q : Q) : Ms := q.1
abbrev qS (q : Q) : Ts := q.2.1
abbrev qU (q : Q) : Nat := q.2.2.1
abbrev qN (q : Q) : Nat := q.2.2.2.1
abbrev qP (q : Q) : Nat := q.2.2.2.2.1
abbrev qK (q : Q) : Nat := q.2.2.2.2.2.1
abbrev qB (q : Q) : Nat := q.2.2.2.2.2.2.1
abbrev qE (q : Q) : Nat := q.2.2.2.2.2.2.2
abbrev qT (q : Q) : Nat := mT (qM q)
abbrev qC (q : Q) : Nat → Nat → Int32 := mC (qM q)
/-- the track under the heads -/
def qW (q : Q) : Nat := 80 * qU q + (4 * mA (qM q) (qU q) 0 + mA (qM q) (qU q) 1)
abbrev qs (q : Q) : List Rc := qS q (qW q)
abbrev uT (q : Q) (t : Nat) : Q := ((mM (qM q), mC (qM q), mR (qM q), t, mA (qM q)), q.2)
abbrev uN (q : Q) (n : Nat) : Q := (qM q, qS q, qU q, n, q.2.2.2.2)
abbrev uP (q : Q) (p k : Nat) : Q := (qM q, qS q, qU q, qN q, p, k, q.2.2.2.2.2.2)
abbrev uB (q : Q) (b : Nat) : Q := (qM q, qS q, qU q, qN q, qP q, qK q, b, qE q)
abbrev uE (q : Q) (e : Nat) : Q := (qM q, qS q, qU q, qN q, qP q, qK q, qB q, e)
abbrev uS (q : Q) (ts : Ts) : Q := (qM q, ts, q.2.2)
abbrev uM (q : Q) (f : Nat → Int8) : Q := ((f, (qM q).2), q.2)
abbrev uR (q : Q) (k : Nat) (v : Int32) : Q := ((mM (qM q), mC (qM q), (fun j => if j = k then v else mR (qM q) j), mT (qM q), mA (qM q)), q.2)
abbrev uA (q : Q) (c d : Nat) : Q := ((mM (qM q), mC (qM q), mR (qM q), mT (qM q), fun u w => if u = qU q then (if w = 0 then c else d) else mA (qM q) u w), q.2)
def wQ : Wd := fun a i => wM a i || wTa a
def rQ : Wd := fun a i => rT a i || rM a i
def Cb (z h : ck_H) (q : Q) : Prop := Fr wQ z h ∧ ShC h ∧ CTs h (qS q) ∧ (∀ i, i < 2048 → gI h 335 i = (mM (qM q) i).toInt32) ∧ CC h (mC (qM q)) ∧ (∀ u w, u < 2 → w < 2 → gI h (ua u) (1 + w) = nI (mA (qM q) u w)) ∧ gR h 334 2 = some (ua (qU q))
def Cg (h : ck_H) (q : Q) : Prop := (∀ k, 1 ≤ k → k < 4 → gI h 334 (8 + k) = mR (qM q) k) ∧ gJ h 334 7 = lN (mT (qM q)) ∧ gI h 334 8 = nI (qE q) ∧ (qE q = 0 → gI h 334 3 = nI (qN q) ∧ gI h 334 4 = nI (qP q) ∧ (2 ≤ qP q → gI h 334 5 = nI (qK q)) ∧ gI h 334 6 = nI (qB q)) ∧ (qE q ≠ 0 → gI h 334 3 = nI 32)
def CQ (z h : ck_H) (q : Q) : Prop := Cb z h q ∧ Cg h q
def Rb (z g : ck_H) (q : Q) : Prop := Ch rQ z g ∧ ShR g ∧ RTs g (qS q) ∧ (∀ i, i < 2048 → gI g 508 i = (mM (qM q) i).toInt32) ∧ RC g (mC (qM q)) ∧ (∀ u w, u < 2 → w < 2 → gI g (513 + w) u = nI (mA (qM q) u w))
def Rg (L : Nat) (g : ck_H) (q : Q) : Prop := (∀ k, 1 ≤ k → k < 4 → gI g 496 (22 + k) = mR (qM q) k) ∧ gJ g 496 21 = lN (mT (qM q)) ∧ gI g 496 26 = nI (qU q) ∧ gI g 496 27 = nI L ∧ (qE q = 0 → gI g 496 31 = nI (qN q) ∧ gI g 496 28 = nI (qP q) ∧ (2 ≤ qP q → gI g 496 29 = nI (qK q)) ∧ gI g 496 30 = nI (qB q))
def RQ (z : ck_H) (L : Nat) (g : ck_H) (q : Q) : Prop := Rb z g q ∧ Rg L g q
def IQ (q : Q) : Prop := qU q < 2 ∧ (∀ u, u < 2 → mA (qM q) u 0 < 20 ∧ mA (qM q) u 1 < 4) ∧ qT q < 2 ^ 60 ∧ qB q < 2 ∧ qP q ≤ 4 ∧ (2 ≤ qP q → ∃ r, (qs q)[qK q]? = some r) ∧ ∀ T, T < 160 → GT (qS q T)
def w334 : Wd := fun a _ => a == 334
def r496 : Wd := fun a i => a == 496 && 21 ≤ i && i ≤ 31
variable {z h h' g g' : ck_H} {q : Q} {L F : Nat}
theorem CQ.sh (C : CQ z h q) : ShC h := C.1.2.1
theorem RQ.sh (C : RQ z L g q) : ShR g := C.1.2.1
theorem CQ.ts (C : CQ z h q) : CTs h (qS q) := C.1.2.2.1
theorem RQ.ts (C : RQ z L g q) : RTs g (qS q) := C.1.2.2.1
theorem CQ.mem (C : CQ z h q) : ∀ i, i < 2048 → gI h 335 i = (mM (qM q) i).toInt32 := C.1.2.2.2.1
theorem RQ.mem (C : RQ z L g q) : ∀ i, i < 2048 → gI g 508 i = (mM (qM q) i).toInt32 := C.1.2.2.2.1
theorem CQ.cc (C : CQ z h q) : CC h (qC q) := C.1.2.2.2.2.1
theorem RQ.cc (C : RQ z L g q) : RC g (qC q) := C.1.2.2.2.2.1
theorem CQ.arm (C : CQ z h q) : ∀ u w, u < 2 → w < 2 → gI h (ua u) (1 + w) = nI (mA (qM q) u w) := C.1.2.2.2.2.2.1
theorem RQ.arm (C : RQ z L g q) : ∀ u w, u < 2 → w < 2 → gI g (513 + w) u = nI (mA (qM q) u w) := C.1.2.2.2.2.2
theorem CQ.un (C : CQ z h q) : gR h 334 2 = some (ua (qU q)) := C.1.2.2.2.2.2.2
theorem CQ.t (C : CQ z h q) : gJ h 334 7 = lN (qT q) := C.2.2.1
theorem RQ.t (C : RQ z L g q) : gJ g 496 21 = lN (qT q) := C.2.2.1
theorem CQ.st (C : CQ z h q) : gI h 334 8 = nI (qE q) := C.2.2.2.1
theorem CQ.r (C : CQ z h q) (e : qE q = 0) : gI h 334 3 = nI (qN q) ∧ gI h 334 4 = nI (qP q) ∧ (2 ≤ qP q → gI h 334 5 = nI (qK q)) ∧ gI h 334 6 = nI (qB q) := C.2.2.2.2.1 e
theorem RQ.r (C : RQ z L g q) (e : qE q = 0) : gI g 496 31 = nI (qN q) ∧ gI g 496 28 = nI (qP q) ∧ (2 ≤ qP q → gI g 496 29 = nI (qK q)) ∧ gI g 496 30 = nI (qB q) := C.2.2.2.2.2 e
theorem RQ.u (C : RQ z L g q) : gI g 496 26 = nI (qU q) := C.2.2.2.1
theorem RQ.l (C : RQ z L g q) : gI g 496 27 = nI L := C.2.2.2.2.1
theorem RQ.reg (C : RQ z L g q) : ∀ k, 1 ≤ k → k < 4 → gI g 496 (22 + k) = mR (qM q) k := C.2.1
theorem CQ.reg (C : CQ z h q) : ∀ k, 1 ≤ k → k < 4 → gI h 334 (8 + k) = mR (qM q) k := C.2.1
theorem Ch.fw {W : Wd} (C : Cb z h q) (c : Ch W h h') (w : ∀ a i, W a i = true → wQ a i = true) : Fr wQ z h' ∧ ShC h' := by
  have f := C.1.trans ((Ch.fr c).mono w)
  exact ⟨f, C.2.1.ch c⟩
theorem Cb.w (C : Cb z h q) (c : Ch w334 h h') : Cb z h' q := by
  obtain ⟨a1, a2, a3, a4, a5, a6, a7⟩ := C
  have o : ∀ a i, a ≠ 334 → gI h' a i = gI h a i := fun a i n => c.gI (by simp [w334, n])
  refine ⟨a1.trans ((Ch.fr c).mono ?_), a2.ch c, a3.ch c ?_, fun i hi => ?_, fun i f hi hf => ?_, fun u w hu hw => ?_, ?_⟩
  · intro a i e
    simp [w334] at e
    subst e
    rfl
  · intro a i e
    simp only [w334, beq_eq_false_iff_ne]
    rintro rfl
    exact absurd e (by decide)
  · rw [o _ _ (by omega)]
    exact a4 i hi
  · rw [o _ _ (by omega)]
    exact a5 i f hi hf
  · rw [o _ _ (by unfold ua; omega)]
    exact a6 u w hu hw
  · rw [c.gR]
    exact a7
theorem Rb.w (C : Rb z g q) (c : Ch r496 g g') : Rb z g' q := by
  obtain ⟨a1, a2, a3, a4, a5, a6⟩ := C
  have o : ∀ a i, a ≠ 496 → gI g' a i = gI g a i := fun a i n => c.gI (by simp [r496, n])
  refine ⟨a1.trans (c.mono ?_), a2.ch c, a3.ch c ?_, fun i hi => ?_, fun i f hi hf => ?_, fun u w hu hw => ?_⟩
  · intro a i e
    simp [r496] at e
    obtain ⟨⟨rfl, e1⟩, e2⟩ := e
    simp [rQ, rM, e1, e2]
  · intro a i e
    simp [rT] at e
    have : a ≠ 496 := by omega
    simp [r496, this]
  · rw [o _ _ (by omega)]
    exact a4 i hi
  · rw [o _ _ (by omega)]
    exact a5 i f hi hf
  · rw [o _ _ (by omega)]
    exact a6 u w hu hw
theorem w3 (h : ck_H) (i : Nat) (x : Int32) : Ch w334 h (wI h 334 i x) := (Ch.refl h).wI rfl
theorem w3J (h : ck_H) (i : Nat) (x : Int64) : Ch w334 h (wJ h 334 i x) := (Ch.refl h).wJ rfl
theorem w4 (g : ck_H) {i : Nat} (x : Int32) (i1 : 21 ≤ i) (i2 : i ≤ 31) : Ch r496 g (wI g 496 i x) := (Ch.refl g).wI (by simp [r496, i1, i2])
theorem w4J (g : ck_H) (x : Int64) : Ch r496 g (wJ g 496 21 x) := (Ch.refl g).wJ (by simp [r496])
theorem gIo {a i b j : Nat} {x : Int32} (n : b ≠ a ∨ j ≠ i) : gI (wI h a i x) b j = gI h b j := by
  rw [gI_wI, if_neg]
  rintro ⟨rfl, rfl⟩
  exact n.elim (fun n => n rfl) (fun n => n rfl)
theorem gIs {a i : Nat} {x : Int32} : gI (wI h a i x) a i = x := by rw [gI_wI, if_pos ⟨rfl, rfl⟩]
theorem CQ.uT (C : CQ z h q) (t : Nat) : CQ z (wJ h 334 7 (lN t)) (uT q t) := by
  obtain ⟨b, c1, c2, c3, c4, c5⟩ := C
  refine ⟨b.w (w3J _ _ _), c1, ?_, c3, c4, c5⟩
  rw [gJ_wJ, if_pos ⟨rfl, rfl⟩]
  rfl
theorem CQ.uN (C : CQ z h q) (e : qE q = 0) (n : Nat) : CQ z (wI h 334 3 (nI n)) (uN q n) := by
  obtain ⟨b, c1, c2, c3, c4, c5⟩ := C
  refine ⟨b.w (w3 _ _ _), fun k k1 k4 => ?_, c2, ?_, fun _ => ⟨gIs, ?_, fun k => ?_, ?_⟩, fun k => absurd e k⟩
  · rw [gIo (Or.inr (by omega))]
    exact c1 k k1 k4
  · rw [gIo (Or.inr (by decide))]
    exact c3
  · rw [gIo (Or.inr (by decide))]
    exact (c4 e).2.1
  · rw [gIo (Or.inr (by decide))]
    exact (c4 e).2.2.1 k
  · rw [gIo (Or.inr (by decide))]
    exact (c4 e).2.2.2
theorem CQ.uB (C : CQ z h q) (b : Nat) : CQ z (wI h 334 6 (nI b)) (uB q b) := by
  obtain ⟨b, c1, c2, c3, c4, c5⟩ := C
  refine ⟨b.w (w3 _ _ _), fun k k1 k4 => ?_, c2, ?_, fun e => ⟨?_, ?_, fun k => ?_, gIs⟩, fun k => ?_⟩
  · rw [gIo (Or.inr (by omega))]
    exact c1 k k1 k4
  · rw [gIo (Or.inr (by decide))]
    exact c3
  · rw [gIo (Or.inr (by decide))]
    exact (c4 e).1
  · rw [gIo (Or.inr (by decide))]
    exact (c4 e).2.1
  · rw [gIo (Or.inr (by decide))]
    exact (c4 e).2.2.1 k
  · rw [gIo (Or.inr (by decide))]
    exact c5 k
theorem CQ.uP (C : CQ z h q) (p k : Nat) {v : Int32} (hv : 2 ≤ p → v = nI k) : CQ z (wI (wI h 334 4 (nI p)) 334 5 v) (uP q p k) := by
  obtain ⟨b, c1, c2, c3, c4, c5⟩ := C
  refine ⟨(b.w (w3 _ _ _)).w (w3 _ _ _), fun k k1 k4 => ?_, c2, ?_, fun e => ⟨?_, ?_, fun k => ?_, ?_⟩, fun k => ?_⟩
  · rw [gIo (Or.inr (by omega)), gIo (Or.inr (by omega))]
    exact c1 k k1 k4
  · rw [gIo (Or.inr (by decide)), gIo (Or.inr (by decide))]
    exact c3
  · rw [gIo (Or.inr (by decide)), gIo (Or.inr (by decide))]
    exact (c4 e).1
  · rw [gIo (Or.inr (by decide)), gIs]
  · rw [gIs]
    exact hv k
  · rw [gIo (Or.inr (by decide)), gIo (Or.inr (by decide))]
    exact (c4 e).2.2.2
  · rw [gIo (Or.inr (by decide)), gIo (Or.inr (by decide))]
    exact c5 k
theorem CQ.uE (C : CQ z h q) {e : Nat} (e0 : e ≠ 0) : CQ z (wI (wI h 334 8 (nI e)) 334 3 (nI 32)) (uE q e) := by
  obtain ⟨b, c1, c2, c3, c4, c5⟩ := C
  refine ⟨(b.w (w3 _ _ _)).w (w3 _ _ _), fun k k1 k4 => ?_, c2, ?_, fun k => absurd k e0, fun _ => gIs⟩
  · rw [gIo (Or.inr (by omega)), gIo (Or.inr (by omega))]
    exact c1 k k1 k4
  · rw [gIo (Or.inr (by decide)), gIs]
theorem CQ.uR (C : CQ z h q) {k : Nat} (v : Int32) (k1 : 1 ≤ k) (k4 : k < 4) : CQ z (wI h 334 (8 + k) v) (uR q k v) := by
  obtain ⟨b, c1, c2, c3, c4, c5⟩ := C
  refine ⟨b.w (w3 _ _ _), fun j k1 k4 => ?_, c2, ?_, fun e => ⟨?_, ?_, fun k => ?_, ?_⟩, fun k => ?_⟩
  · show _ = if j = k then v else mR (qM q) j
    by_cases e : j = k
    · subst e
      rw [gIs, if_pos rfl]
    · rw [gIo (Or.inr (by omega)), if_neg e]
      exact c1 j k1 k4
  · rw [gIo (Or.inr (by omega))]
    exact c3
  · rw [gIo (Or.inr (by omega))]
    exact (c4 e).1
  · rw [gIo (Or.inr (by omega))]
    exact (c4 e).2.1
  · rw [gIo (Or.inr (by omega))]
    exact (c4 e).2.2.1 k
  · rw [gIo (Or.inr (by omega))]
    exact (c4 e).2.2.2
  · rw [gIo (Or.inr (by omega))]
    exact c5 k
theorem Cg.fr (C : Cg h q) {q' : Q} (e1 : mR (qM q') = mR (qM q)) (e2 : mT (qM q') = mT (qM q)) (e3 : q'.2.2.2 = q.2.2.2) (o : ∀ i, gI h' 334 i = gI h 334 i) (oJ : gJ h' 334 7 = gJ h 334 7) : Cg h' q' := by
  obtain ⟨c1, c2, c3, c4, c5⟩ := C
  unfold Cg qN qP qK qB qE
  rw [e1, e2, e3, oJ]
  simp only [o]
  exact ⟨c1, c2, c3, c4, c5⟩
theorem CQ.uM (C : CQ z h q) {f : Nat → Int8} (c : Ch (fun a _ => a == 335) h h') (hf : ∀ j, j < 2048 → gI h' 335 j = (f j).toInt32) : CQ z h' (uM q f) := by
  obtain ⟨⟨a1, a2, a3, a4, a5, a6, a7⟩, C⟩ := C
  have o : ∀ a i, a ≠ 335 → gI h' a i = gI h a i := fun a i n => c.gI (by simp [n])
  refine ⟨⟨a1.trans ((Ch.fr c).mono ?_), a2.ch c, a3.ch c ?_, hf, fun i f hi hf => ?_, fun u w hu hw => ?_, ?_⟩, C.fr rfl rfl rfl (fun i => o _ _ (by decide)) (c.gJ rfl)⟩
  · intro a i e
    simp at e
    subst e
    rfl
  · intro a i e
    simp only [beq_eq_false_iff_ne]
    rintro rfl
    exact absurd e (by decide)
  · rw [o _ _ (by omega)]
    exact a5 i f hi hf
  · rw [o _ _ (by unfold ua; omega)]
    exact a6 u w hu hw
  · rw [c.gR]
    exact a7
theorem CQ.uA2 (C : CQ z h q) {c d : Nat} (cc : Ch (fun a _ => a == 10 || a == 172) h h') (e0 : gI h' (ua (qU q)) 1 = nI c) (e1 : gI h' (ua (qU q)) 2 = nI d) (eo : ∀ u w, u < 2 → w < 2 → u ≠ qU q → gI h' (ua u) (1 + w) = gI h (ua u) (1 + w)) : CQ z h' (uA q c d) := by
  obtain ⟨⟨a1, a2, a3, a4, a5, a6, a7⟩, C⟩ := C
  have o : ∀ a i, a ≠ 10 → a ≠ 172 → gI h' a i = gI h a i := fun a i n m => cc.gI (by simp [n, m])
  refine ⟨⟨a1.trans ((Ch.fr cc).mono ?_), a2.ch cc, a3.ch cc ?_, fun i hi => ?_, fun i f hi hf => ?_, fun u w hu' hw => ?_, ?_⟩, C.fr rfl rfl rfl (fun i => o _ _ (by decide) (by decide)) (cc.gJ rfl)⟩
  · intro a i e
    simp at e
    rcases e with rfl | rfl <;> rfl
  · intro a i e
    simp only [Bool.or_eq_false_iff, beq_eq_false_iff_ne]
    constructor <;> (rintro rfl; exact absurd e (by decide))
  · rw [o _ _ (by omega) (by omega)]
    exact a4 i hi
  · rw [o _ _ (by omega) (by omega)]
    exact a5 i f hi hf
  · show _ = nI (if u = qU q then (if w = 0 then c else d) else mA (qM q) u w)
    by_cases e : u = qU q
    · subst e
      have : w = 0 ∨ w = 1 := by omega
      rcases this with rfl | rfl
      · rw [if_pos rfl, if_pos rfl]
        exact e0
      · rw [if_pos rfl, if_neg (by decide)]
        exact e1
    · rw [if_neg e, eo u w hu' hw e]
      exact a6 u w hu' hw
  · rw [cc.gR]
    exact a7
theorem CQ.uA (C : CQ z h q) (hu : qU q < 2) (c d : Nat) : CQ z (wI (wI h (ua (qU q)) 1 (nI c)) (ua (qU q)) 2 (nI d)) (uA q c d) := by
  have hU : ua (qU q) = 10 ∨ ua (qU q) = 172 := by unfold ua; omega
  refine C.uA2 ?_ ?_ gIs fun u w _ _ e => ?_
  · refine Ch.wI (Ch.wI (Ch.refl _) ?_) ?_ <;> rcases hU with e | e <;> rw [e] <;> rfl
  · rw [gIo (Or.inr (by decide))]
    exact gIs
  · rw [gIo (Or.inl (by unfold ua; omega)), gIo (Or.inl (by unfold ua; omega))]
theorem cq_uA1 (C : CQ z h q) (hu : qU q < 2) (d : Nat) : CQ z (wI h (ua (qU q)) 2 (nI d)) (uA q (mA (qM q) (qU q) 0) d) := by
  have hU : ua (qU q) = 10 ∨ ua (qU q) = 172 := by unfold ua; omega
  refine C.uA2 ?_ ?_ gIs fun u w _ _ e => ?_
  · refine Ch.wI (Ch.refl _) ?_
    rcases hU with e | e <;> rw [e] <;> rfl
  · rw [gIo (Or.inr (by decide))]
    exact C.arm _ 0 hu (by decide)
  · rw [gIo (Or.inl (by unfold ua; omega))]
theorem CQ.uS (C : CQ z h q) {ts : Ts} (c : Ct h h') (n : CTs h' ts) : CQ z h' (uS q ts) := by
  obtain ⟨⟨a1, a2, a3, a4, a5, a6, a7⟩, C⟩ := C
  have o : ∀ a i, wTa a = false → gI h' a i = gI h a i := c.2.2.2.1
  refine ⟨⟨a1.trans (c.fr ?_), a2.ct c, n, fun i hi => ?_, fun i f hi hf => ?_, fun u w hu' hw => ?_, ?_⟩, C.fr rfl rfl rfl (fun i => o _ _ rfl) (c.2.2.2.2 _ _ rfl)⟩
  · intro a i e
    simp [wQ, e]
  · rw [o _ _ rfl]
    exact a4 i hi
  · rw [o _ _ (wT_f (by omega))]
    exact a5 i f hi hf
  · have hU : ua u = 10 ∨ ua u = 172 := by unfold ua; omega
    rw [o _ _ (by rcases hU with e | e <;> rw [e] <;> rfl)]
    exact a6 u w hu' hw
  · rw [c.2.2.1 _ _ (by decide) (Or.inl rfl)]
    exact a7
theorem RQ.uT (C : RQ z L g q) (t : Nat) : RQ z L (wJ g 496 21 (lN t)) (uT q t) := by
  obtain ⟨b, c1, c2, c3⟩ := C
  refine ⟨b.w (w4J _ _), c1, ?_, c3⟩
  rw [gJ_wJ, if_pos ⟨rfl, rfl⟩]
  rfl
theorem Rg.o {i : Nat} {v : Int32} {q' : Q} (C : Rg L g q) (e1 : mR (qM q') = mR (qM q)) (e2 : mT (qM q') = mT (qM q)) (e3 : qU q' = qU q) (i1 : i < 23 ∨ 27 < i) (o : qE q' = 0 → gI (wI g 496 i v) 496 31 = nI (qN q') ∧ gI (wI g 496 i v) 496 28 = nI (qP q') ∧ (2 ≤ qP q' → gI (wI g 496 i v) 496 29 = nI (qK q')) ∧ gI (wI g 496 i v) 496 30 = nI (qB q')) : Rg L (wI g 496 i v) q' := by
  obtain ⟨c1, c2, c3, c4, c5⟩ := C
  refine ⟨fun k k1 k4 => ?_, ?_, ?_, ?_, o⟩
  · rw [gIo (Or.inr (by omega)), e1]
    exact c1 k k1 k4
  · rw [e2]
    exact c2
  · rw [gIo (Or.inr (by omega)), e3]
    exact c3
  · rw [gIo (Or.inr (by omega))]
    exact c4
theorem RQ.st (C : RQ z L g q) (v : Int32) : RQ z L (wI g 496 22 v) q := by
  refine ⟨C.1.w (w4 _ _ (by decide) (by decide)), C.2.o rfl rfl rfl (Or.inl (by decide)) fun e => ⟨?_, ?_, fun k => ?_, ?_⟩⟩
  · rw [gIo (Or.inr (by decide))]
    exact (C.r e).1
  · rw [gIo (Or.inr (by decide))]
    exact (C.r e).2.1
  · rw [gIo (Or.inr (by decide))]
    exact (C.r e).2.2.1 k
  · rw [gIo (Or.inr (by decide))]
    exact (C.r e).2.2.2
theorem RQ.uN (C : RQ z L g q) (n : Nat) : RQ z L (wI g 496 31 (nI n)) (uN q n) := by
  refine ⟨C.1.w (w4 _ _ (by decide) (by decide)), C.2.o rfl rfl rfl (Or.inr (by decide)) fun e => ⟨gIs, ?_, fun k => ?_, ?_⟩⟩
  · rw [gIo (Or.inr (by decide))]
    exact (C.r e).2.1
  · rw [gIo (Or.inr (by decide))]
    exact (C.r e).2.2.1 k
  · rw [gIo (Or.inr (by decide))]
    exact (C.r e).2.2.2
theorem RQ.uB (C : RQ z L g q) (b : Nat) : RQ z L (wI g 496 30 (nI b)) (uB q b) := by
  refine ⟨C.1.w (w4 _ _ (by decide) (by decide)), C.2.o rfl rfl rfl (Or.inr (by decide)) fun e => ⟨?_, ?_, fun k => ?_, gIs⟩⟩
  · rw [gIo (Or.inr (by decide))]
    exact (C.r e).1
  · rw [gIo (Or.inr (by decide))]
    exact (C.r e).2.1
  · rw [gIo (Or.inr (by decide))]
    exact (C.r e).2.2.1 k
theorem RQ.uP1 (C : RQ z L g q) {p k : Nat} (hp : p < 2) : RQ z L (wI g 496 28 (nI p)) (uP q p k) := by
  refine ⟨C.1.w (w4 _ _ (by decide) (by decide)), C.2.o rfl rfl rfl (Or.inr (by decide)) fun e => ⟨?_, gIs, fun k => absurd k (Nat.not_le.2 hp), ?_⟩⟩
  · rw [gIo (Or.inr (by decide))]
    exact (C.r e).1
  · rw [gIo (Or.inr (by decide))]
    exact (C.r e).2.2.2
theorem RQ.uP (C : RQ z L g q) (p k : Nat) : RQ z L (wI (wI g 496 28 (nI p)) 496 29 (nI k)) (uP q p k) := by
  have c1 : RQ z L (wI g 496 28 (nI p)) (qM q, qS q, qU q, qN q, p, k, qB q, 1) := ⟨C.1.w (w4 _ _ (by decide) (by decide)), C.2.o rfl rfl rfl (Or.inr (by decide)) fun e => absurd e (show ¬ (1 : Nat) = 0 by decide)⟩
  refine ⟨c1.1.w (w4 _ _ (by decide) (by decide)), c1.2.o rfl rfl rfl (Or.inr (by decide)) fun e => ⟨?_, ?_, fun k => gIs, ?_⟩⟩
  · rw [gIo (Or.inr (by decide)), gIo (Or.inr (by decide))]
    exact (C.r e).1
  · rw [gIo (Or.inr (by decide)), gIs]
  · rw [gIo (Or.inr (by decide)), gIo (Or.inr (by decide))]
    exact (C.r e).2.2.2
theorem RQ.uE (C : RQ z L g q) {e : Nat} (e0 : e ≠ 0) : RQ z L g (uE q e) :=
  ⟨C.1, C.2.1, C.2.2.1, C.2.2.2.1, C.2.2.2.2.1, fun k => absurd k e0⟩
theorem RQ.any (C : RQ z L g q) (e0 : qE q ≠ 0) (n p k b : Nat) : RQ z L g (qM q, qS q, qU q, n, p, k, b, qE q) :=
  ⟨C.1, C.2.1, C.2.2.1, C.2.2.2.1, C.2.2.2.2.1, fun k => absurd k e0⟩
theorem CQ.any (C : CQ z h q) (e0 : qE q ≠ 0) (n p k b : Nat) : CQ z h (qM q, qS q, qU q, n, p, k, b, qE q) :=
  ⟨C.1, C.2.1, C.2.2.1, C.2.2.2.1, fun k => absurd k e0, C.2.2.2.2.2⟩
theorem RQ.uR (C : RQ z L g q) {k : Nat} (v : Int32) (k1 : 1 ≤ k) (k4 : k < 4) : RQ z L (wI g 496 (22 + k) v) (uR q k v) := by
  refine ⟨C.1.w (w4 _ _ (by omega) (by omega)), fun j k1 k4 => ?_, C.2.2.1, ?_, ?_, fun e => ⟨?_, ?_, fun k => ?_, ?_⟩⟩
  · show _ = if j = k then v else mR (qM q) j
    by_cases e : j = k
    · subst e
      rw [gIs, if_pos rfl]
    · rw [gIo (Or.inr (by omega)), if_neg e]
      exact C.2.1 j k1 k4
  · rw [gIo (Or.inr (by omega))]
    exact C.u
  · rw [gIo (Or.inr (by omega))]
    exact C.l
  · rw [gIo (Or.inr (by omega))]
    exact (C.r e).1
  · rw [gIo (Or.inr (by omega))]
    exact (C.r e).2.1
  · rw [gIo (Or.inr (by omega))]
    exact (C.r e).2.2.1 k
  · rw [gIo (Or.inr (by omega))]
    exact (C.r e).2.2.2
theorem Rg.fr (C : Rg L g q) {q' : Q} (e1 : mR (qM q') = mR (qM q)) (e2 : mT (qM q') = mT (qM q)) (e3 : q'.2.2 = q.2.2) (o : ∀ i, gI g' 496 i = gI g 496 i) (oJ : gJ g' 496 21 = gJ g 496 21) : Rg L g' q' := by
  obtain ⟨c1, c2, c3, c4, c5⟩ := C
  unfold Rg qN qP qK qB qE qU
  rw [e1, e2, e3, oJ]
  simp only [o]
  exact ⟨c1, c2, c3, c4, c5⟩
theorem RQ.uM (C : RQ z L g q) {f : Nat → Int8} (c : Ch (fun a _ => a == 508) g g') (hf : ∀ j, j < 2048 → gI g' 508 j = (f j).toInt32) : RQ z L g' (uM q f) := by
  obtain ⟨⟨a1, a2, a3, a4, a5, a6⟩, C⟩ := C
  have o : ∀ a i, a ≠ 508 → gI g' a i = gI g a i := fun a i n => c.gI (by simp [n])
  refine ⟨⟨a1.trans (c.mono ?_), a2.ch c, a3.ch c ?_, hf, fun i f hi hf => ?_, fun u w hu hw => ?_⟩, C.fr rfl rfl rfl (fun i => o _ _ (by decide)) (c.gJ rfl)⟩
  · intro a i e
    simp at e
    subst e
    rfl
  · intro a i e
    simp [rT] at e
    simp
    omega
  · rw [o _ _ (by omega)]
    exact a5 i f hi hf
  · rw [o _ _ (by omega)]
    exact a6 u w hu hw
theorem RQ.uS (C : RQ z L g q) {ts : Ts} (c : Ch rT g g') (n : RTs g' ts) : RQ z L g' (uS q ts) := by
  obtain ⟨⟨a1, a2, a3, a4, a5, a6⟩, C⟩ := C
  have o : ∀ a i, ¬ (497 ≤ a ∧ a ≤ 505) → gI g' a i = gI g a i := fun a i n => c.gI (by simp [rT]; omega)
  refine ⟨⟨a1.trans (c.mono ?_), a2.ch c, n, fun i hi => ?_, fun i f hi hf => ?_, fun u w hu hw => ?_⟩, C.fr rfl rfl rfl (fun i => o _ _ (by decide)) (c.gJ rfl)⟩
  · intro a i e
    simp [rQ, e]
  · rw [o _ _ (by omega)]
    exact a4 i hi
  · rw [o _ _ (by omega)]
    exact a5 i f hi hf
  · rw [o _ _ (by omega)]
    exact a6 u w hu hw
theorem RQ.uA (C : RQ z L g q) (hu : qU q < 2) (c d : Nat) : RQ z L (wI (wI g 513 (qU q) (nI c)) 514 (qU q) (nI d)) (uA q c d) := by
  obtain ⟨⟨a1, a2, a3, a4, a5, a6⟩, C⟩ := C
  have cc : Ch (fun a _ => a == 513 || a == 514) g (wI (wI g 513 (qU q) (nI c)) 514 (qU q) (nI d)) := Ch.wI (Ch.wI (Ch.refl _) rfl) rfl
  have o : ∀ a i, a ≠ 513 → a ≠ 514 → gI (wI (wI g 513 (qU q) (nI c)) 514 (qU q) (nI d)) a i = gI g a i := fun a i n m => cc.gI (by simp [n, m])
  refine ⟨⟨a1.trans (cc.mono ?_), a2.ch cc, a3.ch cc ?_, fun i hi => ?_, fun i f hi hf => ?_, fun u w hu' hw => ?_⟩, C.fr rfl rfl rfl (fun i => o _ _ (by decide) (by decide)) (cc.gJ rfl)⟩
  · intro a i e
    simp at e
    rcases e with rfl | rfl <;> rfl
  · intro a i e
    simp [rT] at e
    simp
    omega
  · rw [o _ _ (by omega) (by omega)]
    exact a4 i hi
  · rw [o _ _ (by omega) (by omega)]
    exact a5 i f hi hf
  · show _ = nI (if u = qU q then (if w = 0 then c else d) else mA (qM q) u w)
    have : w = 0 ∨ w = 1 := by omega
    by_cases e : u = qU q
    · subst e
      rcases this with rfl | rfl
      · rw [if_pos rfl, if_pos rfl, gIo (Or.inl (by decide))]
        exact gIs
      · rw [if_pos rfl, if_neg (by decide)]
        exact gIs
    · rw [if_neg e, gIo (Or.inr e), gIo (Or.inr e)]
      exact a6 u w hu' hw
