/-! ===== the tracks of the class, and what changes them ===== -/
def cntN (p : Nat → Bool) : Nat → Nat
  | 0 => 0
  | n + 1 => cntN p n + if p n then 1 else 0
theorem cntN_le (p : Nat → Bool) (n : Nat) : cntN p n ≤ n := by
  induction n with
  | zero => exact Nat.le_refl _
  | succ n ih =>
    unfold cntN
    split <;> omega
theorem cntN_eq {p q : Nat → Bool} {n : Nat} (h : ∀ i, i < n → q i = p i) : cntN q n = cntN p n := by
  induction n with
  | zero => rfl
  | succ n ih =>
    unfold cntN
    rw [ih (fun i hi => h i (by omega)), h n (by omega)]
theorem cntN_up {p q : Nat → Bool} {n T : Nat} (hT : T < n) (p0 : p T = false) (q1 : q T = true) (h : ∀ i, i ≠ T → q i = p i) : cntN q n = cntN p n + 1 := by
  induction n with
  | zero => omega
  | succ n ih =>
    unfold cntN
    by_cases e : T = n
    · subst e
      rw [cntN_eq (p := p) (fun i hi => h i (by omega)), p0, q1]
      rfl
    · rw [ih (by omega), h n (fun z => e z.symm)]
      omega
def cnt (h : ck_H) : Nat := cntN (fun T => (gR h (ta T) 0).isSome) 161
def CCel (h : ck_H) : Prop := (∀ T c, T < 161 → gR h (ta T) 0 = some c → 559 ≤ c ∧ c < gn h ∧ gk h c = 13 ∧ gz h c = 1500) ∧ (∀ T U c, T < 161 → U < 161 → gR h (ta T) 0 = some c → gR h (ta U) 0 = some c → T = U) ∧ gn h = 559 + cnt h ∧ gu h = 474219 + 1500 * cnt h
abbrev Ts : Type := Nat → List Rc
def CTs (h : ck_H) (ts : Ts) : Prop := CCel h ∧ ∀ T, T < 161 → CT h T (ts T)
def upT (ts : Ts) (T : Nat) (s : List Rc) : Ts := fun U => if U = T then s else ts U
theorem upT_s (ts : Ts) (T : Nat) (s : List Rc) : upT ts T s T = s := if_pos rfl
theorem upT_n {ts : Ts} {T U : Nat} {s : List Rc} (h : U ≠ T) : upT ts T s U = ts U := if_neg h
theorem CCel.ch {W : Wd} {h h' : ck_H} (C : CCel h) (c : Ch W h h') : CCel h' := by
  unfold CCel cnt at *
  simpa only [c.gk, c.gz, c.gR, c.gn, c.gu] using C
theorem CT.fr {h h' : ck_H} {U : Nat} {s : List Rc} (C : CT h U s) (e0 : gI h' (ta U) 2 = gI h (ta U) 2) (e1 : ∀ k, gI h' (ta U + 1) k = gI h (ta U + 1) k) (e2 : gR h' (ta U) 0 = gR h (ta U) 0) (e3 : ∀ c, gR h (ta U) 0 = some c → gk h' c = gk h c ∧ gz h' c = gz h c ∧ ∀ i, gI h' c i = gI h c i) : CT h' U s := by
  obtain ⟨g, c1, c2, c3⟩ := C
  refine ⟨g, e0.trans c1, fun k hk => (e1 k).trans (c2 k hk), fun k r hr => ?_⟩
  obtain ⟨c, x1, x2, x3, x4⟩ := c3 k r hr
  obtain ⟨y1, y2, y3⟩ := e3 c x1
  refine ⟨c, e2.trans x1, y1.trans x2, y2.trans x3, ?_⟩
  simpa only [CRec, y3] using x4
/-- what touches no track leaves them -/
theorem CTs.ch {W : Wd} {h h' : ck_H} {ts : Ts} (C : CTs h ts) (c : Ch W h h') (w : ∀ a i, wTa a = true → W a i = false) : CTs h' ts := by
  refine ⟨C.1.ch c, fun T hT => (C.2 T hT).fr (c.gI (w _ _ (ta_wT T))) (fun k => c.gI (w _ _ (ta_wT1 T))) (c.gR _ _) fun x hx => ⟨c.gk _, c.gz _, fun i => c.gI (w _ _ (wT_hi (C.1.1 T x hT hx).1))⟩⟩
/-- one track changes: its size, its begins, its cells -/
theorem CTs.up {W : Wd} {h h' : ck_H} {ts : Ts} {T : Nat} {s : List Rc} (C : CTs h ts) (hT : T < 161) (c : Ch W h h') (w : ∀ a i, W a i = true → a = ta T ∨ a = ta T + 1 ∨ gR h (ta T) 0 = some a) (N : CT h' T s) : CTs h' (upT ts T s) := by
  refine ⟨C.1.ch c, fun U hU => ?_⟩
  by_cases e : U = T
  · subst e
    rw [upT_s]
    exact N
  · rw [upT_n e]
    have n : ∀ a i, ¬ (a = ta T ∨ a = ta T + 1 ∨ gR h (ta T) 0 = some a) → W a i = false := by
      intro a i q
      cases x : W a i
      · rfl
      · exact absurd (w a i x) q
    have n1 : ta U ≠ ta T := fun q => e (ta_inj hU hT q)
    have p1 := @ta_in T
    have p2 := @ta_in U
    have low : ∀ x, gR h (ta T) 0 = some x → 559 ≤ x := fun x hx => (C.1.1 T x hT hx).1
    refine (C.2 U hU).fr (c.gI (n _ _ ?_)) (fun k => c.gI (n _ _ ?_)) (c.gR _ _) fun x hx => ⟨c.gk _, c.gz _, fun i => c.gI (n _ _ ?_)⟩
    · rintro (q | q | q)
      · exact n1 q
      · omega
      · have := low _ q
        omega
    · rintro (q | q | q)
      · omega
      · omega
      · have := low _ q
        omega
    · have h1 := (C.1.1 U x hU hx).1
      rintro (q | q | q)
      · omega
      · omega
      · exact e (C.1.2.1 U T x hU hT hx q)
theorem wT_of {h : ck_H} {T : Nat} (C : CCel h) (hT : T < 161) {W : Wd} (w : ∀ a i, W a i = true → a = ta T ∨ a = ta T + 1 ∨ gR h (ta T) 0 = some a) : ∀ a i, W a i = true → wTa a = true := by
  intro a i q
  rcases w a i q with rfl | rfl | e
  · exact ta_wT T
  · exact ta_wT1 T
  · exact wT_hi (C.1 T a hT e).1
section
variable {F T k : Nat} {h : ck_H} {ts : Ts} {r : Rc} {P : Unit → ck_H → Prop}
theorem t_keep {n : Nat} (S : ShC h) (C : CTs h ts) (hT : T < 161) (hn : n < 2 ^ 31) (kk : ∀ h', Ct h h' → Ch wT h h' → CTs h' (upT ts T ((ts T).take n)) → P () h') : wp (f_Tr_keepFirst F (ta T) (nI n) h) P := by
  have c0 := C.2 T hT
  have hl := c0.1.len
  unfold f_Tr_keepFirst
  simp (disch := omega) only [wp_as, wp_ifp, wp_ifn, wp_some, wp_then, wp_bd, wp_ret, wp_optS, wp_optN, gk_wI, gz_wI, gR_wI, gk_wC, gz_wC, gR_wC, gk_wJ, gz_wJ, gR_wJ, lit, litL, bb, ite01, ite01n, nI_l, lN_add, lN_sub, in_eq, l_1, pk_lLT, pk_lEQ, lgl, lgg, lge, n64,  m8, m16, m24, m0, sh0, nI_add, pk_mul, nI_ltI, nI_leI, nI_eq, nI_clamp, pk_sub, pk_div, pk_rem, not_true_eq_false, not_false_eq_true, true_and, and_true, false_and, and_false, true_or, or_true, false_or, or_false, true_implies, false_implies, implies_true, if_true, if_false, Nat.not_lt_zero, Nat.add_zero, Nat.zero_add, and_self, eq_self, Bool.false_eq_true, Nat.reduceLT, Nat.reduceLeDiff, Nat.reduceAdd, Nat.reduceEqDiff, Nat.reduceMul, Nat.reduceSub, Nat.reduceDiv, Nat.reduceMod, ub_and, b0, b1, ub_n, S.trk hT, c0.2.1]
  refine wp_ite (fun q => ?_) (fun q => ?_)
  · simp (disch := omega) only [wp_as, wp_ifp, wp_ifn, wp_some, wp_then, wp_bd, wp_ret, wp_optS, wp_optN, gk_wI, gz_wI, gR_wI, gk_wC, gz_wC, gR_wC, gk_wJ, gz_wJ, gR_wJ, lit, litL, bb, ite01, ite01n, nI_l, lN_add, lN_sub, in_eq, l_1, pk_lLT, pk_lEQ, lgl, lgg, lge, n64,  m8, m16, m24, m0, sh0, nI_add, pk_mul, nI_ltI, nI_leI, nI_eq, nI_clamp, pk_sub, pk_div, pk_rem, not_true_eq_false, not_false_eq_true, true_and, and_true, false_and, and_false, true_or, or_true, false_or, or_false, true_implies, false_implies, implies_true, if_true, if_false, Nat.not_lt_zero, Nat.add_zero, Nat.zero_add, and_self, eq_self, Bool.false_eq_true, Nat.reduceLT, Nat.reduceLeDiff, Nat.reduceAdd, Nat.reduceEqDiff, Nat.reduceMul, Nat.reduceSub, Nat.reduceDiv, Nat.reduceMod, ub_and, b0, b1, ub_n]
    have c : Ch (fun a _ => a == ta T) h (wI h (ta T) 2 (nI n)) := (Ch.refl h).wI (by simp)
    have w : ∀ a (i : Nat), (a == ta T) = true → a = ta T ∨ a = ta T + 1 ∨ gR h (ta T) 0 = some a := fun a i x => Or.inl (by simpa using x)
    have w2 := wT_of C.1 hT w
    refine kk _ (c.ct w2) (c.mono w2) (C.up hT c w ⟨c0.1.take n, ?_, fun j hj => ?_, fun j r hr => ?_⟩)
    · rw [gI_wI, if_pos (And.intro rfl rfl), List.length_take, Nat.min_eq_left (by omega)]
    · rw [List.length_take] at hj
      rw [gI_wI, if_neg (by omega), c0.2.2.1 j (by omega), bg_take (by omega)]
    · obtain ⟨hj, hr⟩ := at_take hr
      obtain ⟨x, x1, x2, x3, x4⟩ := c0.2.2.2 j r hr
      refine ⟨x, x1, x2, x3, ?_⟩
      have := (C.1.1 T x hT x1).1
      have := @ta_in T
      rw [bg_take (by omega)]
      have n : ∀ i, gI (wI h (ta T) 2 (nI n)) x i = gI h x i := fun i => by rw [gI_wI, if_neg (by omega)]
      simpa only [CRec, n] using x4
  · simp (disch := omega) only [wp_as, wp_ifp, wp_ifn, wp_some, wp_then, wp_bd, wp_ret, wp_optS, wp_optN, gk_wI, gz_wI, gR_wI, gk_wC, gz_wC, gR_wC, gk_wJ, gz_wJ, gR_wJ, lit, litL, bb, ite01, ite01n, nI_l, lN_add, lN_sub, in_eq, l_1, pk_lLT, pk_lEQ, lgl, lgg, lge, n64,  m8, m16, m24, m0, sh0, nI_add, pk_mul, nI_ltI, nI_leI, nI_eq, nI_clamp, pk_sub, pk_div, pk_rem, not_true_eq_false, not_false_eq_true, true_and, and_true, false_and, and_false, true_or, or_true, false_or, or_false, true_implies, false_implies, implies_true, if_true, if_false, Nat.not_lt_zero, Nat.add_zero, Nat.zero_add, and_self, eq_self, Bool.false_eq_true, Nat.reduceLT, Nat.reduceLeDiff, Nat.reduceAdd, Nat.reduceEqDiff, Nat.reduceMul, Nat.reduceSub, Nat.reduceDiv, Nat.reduceMod, ub_and, b0, b1, ub_n]
    have : upT ts T ((ts T).take n) = ts := by
      funext U
      unfold upT
      split
      · rename_i e
        rw [e, List.take_of_length_le (by omega)]
      · rfl
    refine kk _ (Ct.refl h) (Ch.refl h) ?_
    rw [this]
    exact C
end
/-- a record's own places change -/
theorem CTs.rc {h h' : ck_H} {ts : Ts} {T k c : Nat} {r r' : Rc} (C : CTs h ts) (hT : T < 161) (hr : (ts T)[k]? = some r) (e3 : gR h (ta T) 0 = some c) (el : rL r' = rL r) (o : okR r') (cc : Ch (fun a _ => a == c) h h') (out : ∀ i, i < bg (ts T) k ∨ bg (ts T) k + 30 + rL r ≤ i → gI h' c i = gI h c i) (R : CRec h' c (bg (ts T) k) r') : Ct h h' ∧ Ch wT h h' ∧ CTs h' (upT ts T ((ts T).set k r')) := by
  have c0 := C.2 T hT
  have w : ∀ a (i : Nat), (a == c) = true → a = ta T ∨ a = ta T + 1 ∨ gR h (ta T) 0 = some a := fun a i x => Or.inr (Or.inr (by simp at x; rw [x]; exact e3))
  have w2 := wT_of C.1 hT w
  have hc := C.1.1 T c hT e3
  have ht := @ta_in T
  refine ⟨cc.ct w2, cc.mono w2, C.up hT cc w ⟨c0.1.set hr el o, ?_, fun j hj => ?_, fun j x hx => ?_⟩⟩
  · rw [cc.gI (by simp; omega), c0.2.1, List.length_set]
  · rw [List.length_set] at hj
    rw [cc.gI (by simp; omega), c0.2.2.1 j (by omega), bg_set hr el]
  · refine ⟨c, (cc.gR _ _).trans e3, (cc.gk _).trans hc.2.2.1, (cc.gz _).trans hc.2.2.2, ?_⟩
    rw [bg_set hr el]
    rcases at_st hx with ⟨rfl, rfl⟩ | ⟨nj, hx⟩
    · exact R
    · obtain ⟨c', y1, y2, y3, y4⟩ := c0.2.2.2 j x hx
      have : c' = c := by rw [e3] at y1; cases y1; rfl
      subst this
      have ap : bg (ts T) j + 30 + rL x ≤ bg (ts T) k ∨ bg (ts T) k + 30 + rL r ≤ bg (ts T) j := by
        by_cases q : j < k
        · exact Or.inl (bg_lt hx q)
        · exact Or.inr (bg_lt hr (by omega))
      obtain ⟨x0, x1, x2, x3, x4, x5, x6, x7⟩ := y4
      refine ⟨?_, ?_, ?_, ?_, ?_, ?_, ?_, fun i hi => ?_⟩
      · rw [out _ (by omega)]; exact x0
      · rw [out _ (by omega)]; exact x1
      · rw [out _ (by omega)]; exact x2
      · rw [out _ (by omega)]; exact x3
      · rw [out _ (by omega)]; exact x4
      · rw [out _ (by omega)]; exact x5
      · rw [out _ (by omega)]; exact x6
      · rw [out _ (by omega)]; exact x7 i hi
section
variable {F T k : Nat} {h : ck_H} {ts : Ts} {r : Rc} {P : Unit → ck_H → Prop}
/-- another mark -/
def rMk (r : Rc) (b : Bool) : Rc := (r.1, r.2.1, b, r.2.2.2)
theorem t_mark {b : Bool} (S : ShC h) (C : CTs h ts) (hT : T < 161) (hr : (ts T)[k]? = some r) (kk : ∀ h', Ct h h' → Ch wT h h' → CTs h' (upT ts T ((ts T).set k (rMk r b))) → P () h') : wp (f_Tr_mark F (ta T) (nI k) (if b then nI 1 else nI 0) h) P := by
  have c0 := C.2 T hT
  obtain ⟨c, hk, hl, e0, e1, e2, e3, e4, e5, R, hp, o⟩ := c0.at hr
  have goal : wp (f_Tr_mark F (ta T) (nI k) (if b then nI 1 else nI 0) h) P ↔ P () (wI h c (bg (ts T) k + 6) (if b then nI 1 else nI 0)) := by
    unfold f_Tr_mark
    cases b
    · simp (disch := omega) only [wp_as, wp_ifp, wp_ifn, wp_some, wp_then, wp_bd, wp_ret, wp_optS, wp_optN, gk_wI, gz_wI, gR_wI, gk_wC, gz_wC, gR_wC, gk_wJ, gz_wJ, gR_wJ, lit, litL, bb, ite01, ite01n, nI_l, lN_add, lN_sub, in_eq, l_1, pk_lLT, pk_lEQ, lgl, lgg, lge, n64,  m8, m16, m24, m0, sh0, nI_add, pk_mul, nI_ltI, nI_leI, nI_eq, nI_clamp, pk_sub, pk_div, pk_rem, not_true_eq_false, not_false_eq_true, true_and, and_true, false_and, and_false, true_or, or_true, false_or, or_false, true_implies, false_implies, implies_true, if_true, if_false, Nat.not_lt_zero, Nat.add_zero, Nat.zero_add, and_self, eq_self, Bool.false_eq_true, Nat.reduceLT, Nat.reduceLeDiff, Nat.reduceAdd, Nat.reduceEqDiff, Nat.reduceMul, Nat.reduceSub, Nat.reduceDiv, Nat.reduceMod, ub_and, b0, b1, ub_n, S.trk hT, e0, e1, e3, e4, e5, q_has1 S hT c0 hr]
      constructor
      · exact fun q => q.2.2
      · exact fun q => ⟨by omega, by omega, q⟩
    · simp (disch := omega) only [wp_as, wp_ifp, wp_ifn, wp_some, wp_then, wp_bd, wp_ret, wp_optS, wp_optN, gk_wI, gz_wI, gR_wI, gk_wC, gz_wC, gR_wC, gk_wJ, gz_wJ, gR_wJ, lit, litL, bb, ite01, ite01n, nI_l, lN_add, lN_sub, in_eq, l_1, pk_lLT, pk_lEQ, lgl, lgg, lge, n64,  m8, m16, m24, m0, sh0, nI_add, pk_mul, nI_ltI, nI_leI, nI_eq, nI_clamp, pk_sub, pk_div, pk_rem, not_true_eq_false, not_false_eq_true, true_and, and_true, false_and, and_false, true_or, or_true, false_or, or_false, true_implies, false_implies, implies_true, if_true, if_false, Nat.not_lt_zero, Nat.add_zero, Nat.zero_add, and_self, eq_self, Bool.false_eq_true, Nat.reduceLT, Nat.reduceLeDiff, Nat.reduceAdd, Nat.reduceEqDiff, Nat.reduceMul, Nat.reduceSub, Nat.reduceDiv, Nat.reduceMod, ub_and, b0, b1, ub_n, S.trk hT, e0, e1, e3, e4, e5, q_has1 S hT c0 hr]
      constructor
      · exact fun q => q.2.2
      · exact fun q => ⟨by omega, by omega, q⟩
  rw [goal]
  have cc : Ch (fun a _ => a == c) h (wI h c (bg (ts T) k + 6) (if b then nI 1 else nI 0)) := (Ch.refl h).wI (by simp)
  obtain ⟨z1, z2, z3⟩ := C.rc (r' := rMk r b) hT hr e3 rfl o cc (fun i hi => by rw [gI_wI, if_neg (by omega)]) (by
    obtain ⟨x0, x1, x2, x3, x4, x5, x6, x7⟩ := R
    refine ⟨?_, ?_, ?_, ?_, ?_, ?_, ?_, fun i hi => ?_⟩
    · rw [gI_wI, if_neg (by omega)]; exact x0
    · rw [gI_wI, if_neg (by omega)]; exact x1
    · rw [gI_wI, if_neg (by omega)]; exact x2
    · rw [gI_wI, if_neg (by omega)]; exact x3
    · rw [gI_wI, if_neg (by omega)]; exact x4
    · rw [gI_wI, if_neg (by omega)]; exact x5
    · rw [gI_wI, if_pos (And.intro rfl rfl)]; rfl
    · rw [gI_wI, if_neg (by omega)]; exact x7 i hi)
  exact kk _ z1 z2 z3
theorem q_hasBytes {f n : Nat} {s : List Rc} (S : ShC h) (hT : T < 161) (C : CT h T s) (hr : s[k]? = some r) (hf : f + n ≤ rL r) : f_Tr_hasBytes F (ta T) (nI k) (nI f) (nI n) h = some (nI 1, h) := by
  obtain ⟨c, hk, hl, e0, e1, e2, e3, e4, e5, R, hp, o⟩ := C.at hr
  have e : bg s k + 30 + rL r - bg s k - 30 = rL r := by omega
  apply wp_out
  unfold f_Tr_hasBytes
  simp (disch := omega) only [wp_as, wp_ifp, wp_ifn, wp_some, wp_then, wp_bd, wp_ret, wp_optS, wp_optN, gk_wI, gz_wI, gR_wI, gk_wC, gz_wC, gR_wC, gk_wJ, gz_wJ, gR_wJ, lit, litL, bb, ite01, ite01n, nI_l, lN_add, lN_sub, in_eq, l_1, pk_lLT, pk_lEQ, lgl, lgg, lge, n64,  m8, m16, m24, m0, sh0, nI_add, pk_mul, nI_ltI, nI_leI, nI_eq, nI_clamp, pk_sub, pk_div, pk_rem, not_true_eq_false, not_false_eq_true, true_and, and_true, false_and, and_false, true_or, or_true, false_or, or_false, true_implies, false_implies, implies_true, if_true, if_false, Nat.not_lt_zero, Nat.add_zero, Nat.zero_add, and_self, eq_self, Bool.false_eq_true, Nat.reduceLT, Nat.reduceLeDiff, Nat.reduceAdd, Nat.reduceEqDiff, Nat.reduceMul, Nat.reduceSub, Nat.reduceDiv, Nat.reduceMod, ub_and, b0, b1, ub_n, S.trk hT, e0, e1, e2, q_has1 S hT C hr, e]
  omega
/-- n bytes at f become those of g -/
def rSt (r : Rc) (f n : Nat) (g : Nat → Int8) : Rc := (r.1, r.2.1, r.2.2.1, fun i => if f ≤ i ∧ i < f + n then g (i - f) else rX r i)
theorem t_store {f n a p : Nat} {g : Nat → Int8} (S : ShC h) (C : CTs h ts) (hT : T < 161) (hr : (ts T)[k]? = some r) (hf : f + n ≤ rL r) (ka : gk h a = 13) (za : p + n ≤ gz h a) (zb : gz h a < 2 ^ 31) (hg : ∀ i, i < n → gI h a (p + i) = (g i).toInt32) (kk : ∀ h', Ct h h' → Ch wT h h' → CTs h' (upT ts T ((ts T).set k (rSt r f n g))) → P () h') : wp (f_Tr_store F (ta T) (nI k) (nI f) a (nI p) (nI n) h) P := by
  have c0 := C.2 T hT
  obtain ⟨c, hk, hl, e0, e1, e2, e3, e4, e5, R, hp, o⟩ := c0.at hr
  have ez : Int32.ofNat (gz h a) = nI (gz h a) := rfl
  unfold f_Tr_store
  simp (disch := omega) only [wp_as, wp_ifp, wp_ifn, wp_some, wp_then, wp_bd, wp_ret, wp_optS, wp_optN, gk_wI, gz_wI, gR_wI, gk_wC, gz_wC, gR_wC, gk_wJ, gz_wJ, gR_wJ, lit, litL, bb, ite01, ite01n, nI_l, lN_add, lN_sub, in_eq, l_1, pk_lLT, pk_lEQ, lgl, lgg, lge, n64,  m8, m16, m24, m0, sh0, nI_add, pk_mul, nI_ltI, nI_leI, nI_eq, nI_clamp, pk_sub, pk_div, pk_rem, not_true_eq_false, not_false_eq_true, true_and, and_true, false_and, and_false, true_or, or_true, false_or, or_false, true_implies, false_implies, implies_true, if_true, if_false, Nat.not_lt_zero, Nat.add_zero, Nat.zero_add, and_self, eq_self, Bool.false_eq_true, Nat.reduceLT, Nat.reduceLeDiff, Nat.reduceAdd, Nat.reduceEqDiff, Nat.reduceMul, Nat.reduceSub, Nat.reduceDiv, Nat.reduceMod, ub_and, b0, b1, ub_n, S.trk hT, e0, e1, e3, e4, e5, q_hasBytes S hT c0 hr hf, ka, ez]
  refine ⟨by omega, by omega, ?_⟩
  have cc : Ch (fun a _ => a == c) h (wC h a p c (bg (ts T) k + 30 + f) n) := (Ch.refl h).wC (by simp)
  obtain ⟨z1, z2, z3⟩ := C.rc (r' := rSt r f n g) hT hr e3 rfl o cc (fun i hi => by rw [gI_wC, if_pos rfl, pk_cpy_out (by omega)]) (by
    obtain ⟨x0, x1, x2, x3, x4, x5, x6, x7⟩ := R
    refine ⟨?_, ?_, ?_, ?_, ?_, ?_, ?_, fun i hi => ?_⟩
    · rw [gI_wC, if_pos rfl, pk_cpy_out (by omega)]; exact x0
    · rw [gI_wC, if_pos rfl, pk_cpy_out (by omega)]; exact x1
    · rw [gI_wC, if_pos rfl, pk_cpy_out (by omega)]; exact x2
    · rw [gI_wC, if_pos rfl, pk_cpy_out (by omega)]; exact x3
    · rw [gI_wC, if_pos rfl, pk_cpy_out (by omega)]; exact x4
    · rw [gI_wC, if_pos rfl, pk_cpy_out (by omega)]; exact x5
    · rw [gI_wC, if_pos rfl, pk_cpy_out (by omega)]; exact x6
    · have hi' : i < rL r := hi
      simp only [rSt, rX]
      by_cases q : f ≤ i ∧ i < f + n
      · rw [if_pos q, gI_wC, if_pos rfl, pk_cpy_in (by omega) (by omega), ← hg (i - f) (by omega)]
        congr 1
        omega
      · rw [if_neg q, gI_wC, if_pos rfl, pk_cpy_out (by omega)]
        exact x7 i hi')
  exact kk _ z1 z2 z3
/-! filling -/
theorem t_fillL {a q : Nat} {v : Int32} (hq : q < 2 ^ 31) : ∀ (d n p : Nat) (h : ck_H), p + d = q → d < n → gk h a = 13 → q ≤ gz h a → (∀ h', Ch (fun b _ => b == a) h h' → (∀ j, gI h' a j = if p ≤ j ∧ j < q then v.toInt8.toInt32 else gI h a j) → P () h') → wp (f_Ar_fill_L10 F n a (nI q) v (nI p) h) P := by
  intro d
  induction d with
  | zero =>
    intro n p h hp hn ka za kk
    obtain ⟨n, rfl⟩ : ∃ n', n = n' + 1 := ⟨n - 1, by omega⟩
    unfold f_Ar_fill_L10
    simp (disch := omega) only [wp_as, wp_ifp, wp_ifn, wp_some, wp_then, wp_bd, wp_ret, wp_optS, wp_optN, gk_wI, gz_wI, gR_wI, gk_wC, gz_wC, gR_wC, gk_wJ, gz_wJ, gR_wJ, lit, litL, bb, ite01, ite01n, nI_l, lN_add, lN_sub, in_eq, l_1, pk_lLT, pk_lEQ, lgl, lgg, lge, n64,  m8, m16, m24, m0, sh0, nI_add, pk_mul, nI_ltI, nI_leI, nI_eq, nI_clamp, pk_sub, pk_div, pk_rem, not_true_eq_false, not_false_eq_true, true_and, and_true, false_and, and_false, true_or, or_true, false_or, or_false, true_implies, false_implies, implies_true, if_true, if_false, Nat.not_lt_zero, Nat.add_zero, Nat.zero_add, and_self, eq_self, Bool.false_eq_true, Nat.reduceLT, Nat.reduceLeDiff, Nat.reduceAdd, Nat.reduceEqDiff, Nat.reduceMul, Nat.reduceSub, Nat.reduceDiv, Nat.reduceMod, ub_and, b0, b1, ub_n]
    exact kk _ (Ch.refl h) fun j => by rw [if_neg (by omega)]
  | succ d ih =>
    intro n p h hp hn ka za kk
    obtain ⟨n, rfl⟩ : ∃ n', n = n' + 1 := ⟨n - 1, by omega⟩
    unfold f_Ar_fill_L10
    simp (disch := omega) only [wp_as, wp_ifp, wp_ifn, wp_some, wp_then, wp_bd, wp_ret, wp_optS, wp_optN, gk_wI, gz_wI, gR_wI, gk_wC, gz_wC, gR_wC, gk_wJ, gz_wJ, gR_wJ, lit, litL, bb, ite01, ite01n, nI_l, lN_add, lN_sub, in_eq, l_1, pk_lLT, pk_lEQ, lgl, lgg, lge, n64,  m8, m16, m24, m0, sh0, nI_add, pk_mul, nI_ltI, nI_leI, nI_eq, nI_clamp, pk_sub, pk_div, pk_rem, not_true_eq_false, not_false_eq_true, true_and, and_true, false_and, and_false, true_or, or_true, false_or, or_false, true_implies, false_implies, implies_true, if_true, if_false, Nat.not_lt_zero, Nat.add_zero, Nat.zero_add, and_self, eq_self, Bool.false_eq_true, Nat.reduceLT, Nat.reduceLeDiff, Nat.reduceAdd, Nat.reduceEqDiff, Nat.reduceMul, Nat.reduceSub, Nat.reduceDiv, Nat.reduceMod, ub_and, b0, b1, ub_n, ka]
    refine ⟨by omega, ?_⟩
    have c1 : Ch (fun b _ => b == a) h (wI h a p v.toInt8.toInt32) := (Ch.refl h).wI (by simp)
    refine ih n (p + 1) _ (by omega) (by omega) ka za fun h' c' e' => ?_
    refine kk _ (c1.trans c') fun j => ?_
    rw [e']
    by_cases e : p + 1 ≤ j ∧ j < q
    · rw [if_pos e, if_pos (by omega)]
    · rw [if_neg e, gI_wI]
      by_cases e2 : j = p
      · subst e2
        rw [if_pos (And.intro rfl rfl), if_pos (by omega)]
      · rw [if_neg (by omega), if_neg (by omega)]
theorem t_fill {a p q : Nat} {v : Int32} (hF : q < F) (hq : q < 2 ^ 31) (hp : p ≤ q) (ka : gk h a = 13) (za : q ≤ gz h a) (zb : gz h a < 2 ^ 31) (kk : ∀ h', Ch (fun b _ => b == a) h h' → (∀ j, gI h' a j = if p ≤ j ∧ j < q then v.toInt8.toInt32 else gI h a j) → P () h') : wp (f_Ar_fill F a (nI p) (nI q) v h) P := by
  have ez : Int32.ofNat (gz h a) = nI (gz h a) := rfl
  unfold f_Ar_fill f_Ar_rangeCheck
  simp (disch := omega) only [wp_as, wp_ifp, wp_ifn, wp_some, wp_then, wp_bd, wp_ret, wp_optS, wp_optN, gk_wI, gz_wI, gR_wI, gk_wC, gz_wC, gR_wC, gk_wJ, gz_wJ, gR_wJ, lit, litL, bb, ite01, ite01n, nI_l, lN_add, lN_sub, in_eq, l_1, pk_lLT, pk_lEQ, lgl, lgg, lge, n64,  m8, m16, m24, m0, sh0, nI_add, pk_mul, nI_ltI, nI_leI, nI_eq, nI_clamp, pk_sub, pk_div, pk_rem, not_true_eq_false, not_false_eq_true, true_and, and_true, false_and, and_false, true_or, or_true, false_or, or_false, true_implies, false_implies, implies_true, if_true, if_false, Nat.not_lt_zero, Nat.add_zero, Nat.zero_add, and_self, eq_self, Bool.false_eq_true, Nat.reduceLT, Nat.reduceLeDiff, Nat.reduceAdd, Nat.reduceEqDiff, Nat.reduceMul, Nat.reduceSub, Nat.reduceDiv, Nat.reduceMod, ub_and, b0, b1, ub_n, ka, ez]
  exact t_fillL hq (q - p) F p h (by omega) (by omega) ka za kk
theorem t_fill2L {a q : Nat} {v : Int32} (hq : q < 2 ^ 31) : ∀ (d n p : Nat) (h : ck_H), p + d = q → d < n → gk h a = 13 → q ≤ gz h a → (∀ h', Ch (fun b _ => b == a) h h' → (∀ j, gI h' a j = if p ≤ j ∧ j < q then v.toInt8.toInt32 else gI h a j) → P () h') → wp (f_Ar_fill2_L5 F n a v (nI p) (nI q) h) P := by
  intro d
  induction d with
  | zero =>
    intro n p h hp hn ka za kk
    obtain ⟨n, rfl⟩ : ∃ n', n = n' + 1 := ⟨n - 1, by omega⟩
    unfold f_Ar_fill2_L5
    simp (disch := omega) only [wp_as, wp_ifp, wp_ifn, wp_some, wp_then, wp_bd, wp_ret, wp_optS, wp_optN, gk_wI, gz_wI, gR_wI, gk_wC, gz_wC, gR_wC, gk_wJ, gz_wJ, gR_wJ, lit, litL, bb, ite01, ite01n, nI_l, lN_add, lN_sub, in_eq, l_1, pk_lLT, pk_lEQ, lgl, lgg, lge, n64,  m8, m16, m24, m0, sh0, nI_add, pk_mul, nI_ltI, nI_leI, nI_eq, nI_clamp, pk_sub, pk_div, pk_rem, not_true_eq_false, not_false_eq_true, true_and, and_true, false_and, and_false, true_or, or_true, false_or, or_false, true_implies, false_implies, implies_true, if_true, if_false, Nat.not_lt_zero, Nat.add_zero, Nat.zero_add, and_self, eq_self, Bool.false_eq_true, Nat.reduceLT, Nat.reduceLeDiff, Nat.reduceAdd, Nat.reduceEqDiff, Nat.reduceMul, Nat.reduceSub, Nat.reduceDiv, Nat.reduceMod, ub_and, b0, b1, ub_n]
    exact kk _ (Ch.refl h) fun j => by rw [if_neg (by omega)]
  | succ d ih =>
    intro n p h hp hn ka za kk
    obtain ⟨n, rfl⟩ : ∃ n', n = n' + 1 := ⟨n - 1, by omega⟩
    unfold f_Ar_fill2_L5
    simp (disch := omega) only [wp_as, wp_ifp, wp_ifn, wp_some, wp_then, wp_bd, wp_ret, wp_optS, wp_optN, gk_wI, gz_wI, gR_wI, gk_wC, gz_wC, gR_wC, gk_wJ, gz_wJ, gR_wJ, lit, litL, bb, ite01, ite01n, nI_l, lN_add, lN_sub, in_eq, l_1, pk_lLT, pk_lEQ, lgl, lgg, lge, n64,  m8, m16, m24, m0, sh0, nI_add, pk_mul, nI_ltI, nI_leI, nI_eq, nI_clamp, pk_sub, pk_div, pk_rem, not_true_eq_false, not_false_eq_true, true_and, and_true, false_and, and_false, true_or, or_true, false_or, or_false, true_implies, false_implies, implies_true, if_true, if_false, Nat.not_lt_zero, Nat.add_zero, Nat.zero_add, and_self, eq_self, Bool.false_eq_true, Nat.reduceLT, Nat.reduceLeDiff, Nat.reduceAdd, Nat.reduceEqDiff, Nat.reduceMul, Nat.reduceSub, Nat.reduceDiv, Nat.reduceMod, ub_and, b0, b1, ub_n, ka]
    refine ⟨by omega, ?_⟩
    have c1 : Ch (fun b _ => b == a) h (wI h a p v.toInt8.toInt32) := (Ch.refl h).wI (by simp)
    refine ih n (p + 1) _ (by omega) (by omega) ka za fun h' c' e' => ?_
    refine kk _ (c1.trans c') fun j => ?_
    rw [e']
    by_cases e : p + 1 ≤ j ∧ j < q
    · rw [if_pos e, if_pos (by omega)]
    · rw [if_neg e, gI_wI]
      by_cases e2 : j = p
      · subst e2
        rw [if_pos (And.intro rfl rfl), if_pos (by omega)]
      · rw [if_neg (by omega), if_neg (by omega)]
theorem t_fill2 {a q : Nat} {v : Int32} (hF : q < F) (hq : q < 2 ^ 31) (ka : gk h a = 13) (za : gz h a = q) (kk : ∀ h', Ch (fun b _ => b == a) h h' → (∀ j, j < q → gI h' a j = v.toInt8.toInt32) → P () h') : wp (f_Ar_fill2 F a v h) P := by
  have ez : Int32.ofNat q = nI q := rfl
  unfold f_Ar_fill2
  simp (disch := omega) only [wp_as, wp_ifp, wp_ifn, wp_some, wp_then, wp_bd, wp_ret, wp_optS, wp_optN, gk_wI, gz_wI, gR_wI, gk_wC, gz_wC, gR_wC, gk_wJ, gz_wJ, gR_wJ, lit, litL, bb, ite01, ite01n, nI_l, lN_add, lN_sub, in_eq, l_1, pk_lLT, pk_lEQ, lgl, lgg, lge, n64,  m8, m16, m24, m0, sh0, nI_add, pk_mul, nI_ltI, nI_leI, nI_eq, nI_clamp, pk_sub, pk_div, pk_rem, not_true_eq_false, not_false_eq_true, true_and, and_true, false_and, and_false, true_or, or_true, false_or, or_false, true_implies, false_implies, implies_true, if_true, if_false, Nat.not_lt_zero, Nat.add_zero, Nat.zero_add, and_self, eq_self, Bool.false_eq_true, Nat.reduceLT, Nat.reduceLeDiff, Nat.reduceAdd, Nat.reduceEqDiff, Nat.reduceMul, Nat.reduceSub, Nat.reduceDiv, Nat.reduceMod, ub_and, b0, b1, ub_n, ka, za, ez]
  exact t_fill2L hq q F 0 h (by omega) (by omega) ka (by omega) fun h' c e => kk h' c fun j hj => by rw [e, if_pos (by omega)]
theorem t_clear {f n : Nat} (hF : 2000 ≤ F) (S : ShC h) (C : CTs h ts) (hT : T < 161) (hr : (ts T)[k]? = some r) (hf : f + n ≤ rL r) (kk : ∀ h', Ct h h' → Ch wT h h' → CTs h' (upT ts T ((ts T).set k (rSt r f n fun _ => 0))) → P () h') : wp (f_Tr_clear F (ta T) (nI k) (nI f) (nI n) h) P := by
  have c0 := C.2 T hT
  obtain ⟨c, hk, hl, e0, e1, e2, e3, e4, e5, R, hp, o⟩ := c0.at hr
  unfold f_Tr_clear
  simp (disch := omega) only [wp_as, wp_ifp, wp_ifn, wp_some, wp_then, wp_bd, wp_ret, wp_optS, wp_optN, gk_wI, gz_wI, gR_wI, gk_wC, gz_wC, gR_wC, gk_wJ, gz_wJ, gR_wJ, lit, litL, bb, ite01, ite01n, nI_l, lN_add, lN_sub, in_eq, l_1, pk_lLT, pk_lEQ, lgl, lgg, lge, n64,  m8, m16, m24, m0, sh0, nI_add, pk_mul, nI_ltI, nI_leI, nI_eq, nI_clamp, pk_sub, pk_div, pk_rem, not_true_eq_false, not_false_eq_true, true_and, and_true, false_and, and_false, true_or, or_true, false_or, or_false, true_implies, false_implies, implies_true, if_true, if_false, Nat.not_lt_zero, Nat.add_zero, Nat.zero_add, and_self, eq_self, Bool.false_eq_true, Nat.reduceLT, Nat.reduceLeDiff, Nat.reduceAdd, Nat.reduceEqDiff, Nat.reduceMul, Nat.reduceSub, Nat.reduceDiv, Nat.reduceMod, ub_and, b0, b1, ub_n, S.trk hT, e0, e1, e3, e4, e5, q_hasBytes S hT c0 hr hf]
  refine ⟨by omega, ?_⟩
  refine t_fill (by omega) (by omega) (by omega) e4 (by omega) (by omega) fun h' cc e' => ?_
  obtain ⟨z1, z2, z3⟩ := C.rc (r' := rSt r f n fun _ => 0) hT hr e3 rfl o cc (fun i hi => by rw [e', if_neg (by omega)]) (by
    obtain ⟨x0, x1, x2, x3, x4, x5, x6, x7⟩ := R
    refine ⟨?_, ?_, ?_, ?_, ?_, ?_, ?_, fun i hi => ?_⟩
    · rw [e', if_neg (by omega)]; exact x0
    · rw [e', if_neg (by omega)]; exact x1
    · rw [e', if_neg (by omega)]; exact x2
    · rw [e', if_neg (by omega)]; exact x3
    · rw [e', if_neg (by omega)]; exact x4
    · rw [e', if_neg (by omega)]; exact x5
    · rw [e', if_neg (by omega)]; exact x6
    · have hi' : i < rL r := hi
      simp only [rSt, rX]
      by_cases q : f ≤ i ∧ i < f + n
      · rw [if_pos q, e', if_pos (by omega)]
        rfl
      · rw [if_neg q, e', if_neg (by omega)]
        exact x7 i hi')
  exact kk _ z1 z2 z3
theorem t_fetch {f n a p : Nat} {s : List Rc} (S : ShC h) (hT : T < 161) (C : CT h T s) (hr : s[k]? = some r) (hf : f + n ≤ rL r) (ka : gk h a = 13) (za : p + n ≤ gz h a) (zb : gz h a < 2 ^ 31) (kk : ∀ h', Ch (fun b _ => b == a) h h' → (∀ j, gI h' a j = if p ≤ j ∧ j < p + n then (rX r (f + (j - p))).toInt32 else gI h a j) → P () h') : wp (f_Tr_fetch F (ta T) (nI k) (nI f) a (nI p) (nI n) h) P := by
  obtain ⟨c, hk, hl, e0, e1, e2, e3, e4, e5, R, hp, o⟩ := C.at hr
  have ez : Int32.ofNat (gz h a) = nI (gz h a) := rfl
  unfold f_Tr_fetch
  simp (disch := omega) only [wp_as, wp_ifp, wp_ifn, wp_some, wp_then, wp_bd, wp_ret, wp_optS, wp_optN, gk_wI, gz_wI, gR_wI, gk_wC, gz_wC, gR_wC, gk_wJ, gz_wJ, gR_wJ, lit, litL, bb, ite01, ite01n, nI_l, lN_add, lN_sub, in_eq, l_1, pk_lLT, pk_lEQ, lgl, lgg, lge, n64,  m8, m16, m24, m0, sh0, nI_add, pk_mul, nI_ltI, nI_leI, nI_eq, nI_clamp, pk_sub, pk_div, pk_rem, not_true_eq_false, not_false_eq_true, true_and, and_true, false_and, and_false, true_or, or_true, false_or, or_false, true_implies, false_implies, implies_true, if_true, if_false, Nat.not_lt_zero, Nat.add_zero, Nat.zero_add, and_self, eq_self, Bool.false_eq_true, Nat.reduceLT, Nat.reduceLeDiff, Nat.reduceAdd, Nat.reduceEqDiff, Nat.reduceMul, Nat.reduceSub, Nat.reduceDiv, Nat.reduceMod, ub_and, b0, b1, ub_n, S.trk hT, e0, e1, e3, e4, e5, q_hasBytes S hT C hr hf, ka, ez]
  refine ⟨by omega, by omega, kk _ ((Ch.refl h).wC (by simp)) fun j => ?_⟩
  rw [gI_wC, if_pos rfl]
  by_cases q : p ≤ j ∧ j < p + n
  · rw [if_pos q, pk_cpy_in q.1 q.2, ← R.2.2.2.2.2.2.2 _ (by omega)]
    congr 1
    omega
  · rw [if_neg q, pk_cpy_out (by omega)]
end
