/-! ===== a new record behind the others (the class) ===== -/
section
variable {F T : Nat} {h : ck_H} {ts : Ts}
/-- the cells are made with the first record -/
theorem mk_cells (S : ShC h) (C : CTs h ts) (hT : T < 161) (e : gR h (ta T) 0 = none) : Ct h (wR (wN h 13 1500) (ta T) 0 (some (gn h))) ∧ CTs (wR (wN h 13 1500) (ta T) 0 (some (gn h))) ts := by
  obtain ⟨⟨c1, c2, c3, c4⟩, c5⟩ := C
  have hg : 559 ≤ gn h := by omega
  have ht := @ta_in T
  have fR : ∀ U, U < 161 → U ≠ T → gR (wR (wN h 13 1500) (ta T) 0 (some (gn h))) (ta U) 0 = gR h (ta U) 0 := by
    intro U hU n
    have := @ta_in U
    rw [gR_wR, if_neg (fun q => n (ta_inj hU hT q.1)), gR_wN, if_neg (by omega)]
  have fT : gR (wR (wN h 13 1500) (ta T) 0 (some (gn h))) (ta T) 0 = some (gn h) := by rw [gR_wR, if_pos (And.intro rfl rfl)]
  have fk : ∀ a, a < gn h → gk (wR (wN h 13 1500) (ta T) 0 (some (gn h))) a = gk h a := fun a ha => by rw [gk_wR, gk_wN, if_neg (by omega)]
  have fz : ∀ a, a < gn h → gz (wR (wN h 13 1500) (ta T) 0 (some (gn h))) a = gz h a := fun a ha => by rw [gz_wR, gz_wN, if_neg (by omega)]
  have fI : ∀ a i, a < gn h → gI (wR (wN h 13 1500) (ta T) 0 (some (gn h))) a i = gI h a i := fun a i ha => by rw [gI_wR, gI_wN, if_neg (by omega)]
  have cc : cnt (wR (wN h 13 1500) (ta T) 0 (some (gn h))) = cnt h + 1 := by
    have : ∀ n, n ≤ 161 → cntN (fun U => (gR (wR (wN h 13 1500) (ta T) 0 (some (gn h))) (ta U) 0).isSome) n = cntN (fun U => if U = T then true else (gR h (ta U) 0).isSome) n := fun n hn => cntN_eq fun i hi => by
      by_cases q : i = T
      · subst q
        simp only [fT, if_true, Option.isSome_some]
      · simp only [fR i (by omega) q, if_neg q]
    unfold cnt
    rw [this 161 (Nat.le_refl _), cntN_up (p := fun U => (gR h (ta U) 0).isSome) hT (by simp only [e, Option.isSome_none]) (by simp only [if_true]) (fun i n => by simp only [if_neg n])]
  refine ⟨⟨fun a ha => fk a (by omega), fun a ha => fz a (by omega), fun a i l q => ?_, fun a i q => ?_, fun a i q => ?_⟩, ⟨fun U c hU hc => ?_, fun U V c hU hV h1 h2 => ?_, ?_, ?_⟩, fun U hU => ?_⟩
  · have n2 : ¬ (a = ta T ∧ i = 0) := by
      rintro ⟨rfl, rfl⟩
      rcases q with q | q
      · rw [ta_wT] at q
        cases q
      · exact q rfl
    rw [gR_wR, if_neg n2, gR_wN, if_neg (by omega)]
  · have n1 : a ≠ gn h := by
      rintro rfl
      rw [wT_hi hg] at q
      cases q
    rw [gI_wR, gI_wN, if_neg n1]
  · have n1 : a ≠ gn h := by
      rintro rfl
      rw [wT_hi hg] at q
      cases q
    rw [gJ_wR, gJ_wN, if_neg n1]
  · by_cases q : U = T
    · subst q
      rw [fT] at hc
      cases hc
      refine ⟨hg, by rw [gn_wR, gn_wN]; omega, by rw [gk_wR, gk_wN, if_pos rfl], by rw [gz_wR, gz_wN, if_pos rfl]⟩
    · rw [fR U hU q] at hc
      obtain ⟨d1, d2, d3, d4⟩ := c1 U c hU hc
      exact ⟨d1, by rw [gn_wR, gn_wN]; omega, by rw [fk c d2]; exact d3, by rw [fz c d2]; exact d4⟩
  · by_cases q : U = T
    · by_cases q2 : V = T
      · rw [q, q2]
      · subst q
        rw [fT] at h1
        cases h1
        rw [fR V hV q2] at h2
        have := (c1 V _ hV h2).2.1
        omega
    · rw [fR U hU q] at h1
      by_cases q2 : V = T
      · subst q2
        rw [fT] at h2
        cases h2
        have := (c1 U _ hU h1).2.1
        omega
      · rw [fR V hV q2] at h2
        exact c2 U V c hU hV h1 h2
  · rw [cc, gn_wR, gn_wN]
    omega
  · rw [cc, gu_wR, gu_wN]
    omega
  · have hu := @ta_in U
    by_cases q : U = T
    · subst q
      obtain ⟨g, x1, x2, x3⟩ := c5 U hU
      refine ⟨g, by rw [fI _ _ (by omega)]; exact x1, fun k hk => by rw [fI _ _ (by omega)]; exact x2 k hk, fun k r hr => ?_⟩
      obtain ⟨c, y, _⟩ := x3 k r hr
      rw [e] at y
      cases y
    · refine (c5 U hU).fr (fI _ _ (by omega)) (fun k => fI _ _ (by omega)) (fR U hU q) fun c hc => ?_
      have := (c1 U c hU hc).2.1
      exact ⟨fk c this, fz c this, fun i => fI c i this⟩
/-- the record that a new one is: its count, its lengths, no mark, zeros -/
def rNew (c d n k l : Nat) : Rc := ((c, d, n), (k, l), false, fun _ => 0)
theorem app_1 (hF : 2000 ≤ F) {x y z kl dl c : Nat} (S : ShC h) (C : CTs h ts) (hT : T < 161) (e : gR h (ta T) 0 = some c) (o : okR (rNew x y z kl dl)) (room : 30 + ln (ts T) + 30 + (kl + dl) ≤ 1500) {P : Int32 → ck_H → Prop} (kk : ∀ h', Ct h h' → CTs h' (upT ts T (ts T ++ [rNew x y z kl dl])) → P (nI (ts T).length) h') : wp (f_Tr_append_J53 F (ta T) (nI x) (nI y) (nI z) (nI kl) (nI dl) (nI (kl + dl)) h) P := by
  have c0 := C.2 T hT
  have hl := c0.1.len
  have hl2 := ln_len (ts T)
  obtain ⟨d1, d2, d3, d4⟩ := C.1.1 T c hT e
  have e1 := c0.2.2.1 (ts T).length (by omega)
  rw [bg_len] at e1
  have ht := @ta_in T
  unfold f_Tr_append_J53
  simp (disch := omega) only [wp_as, wp_ifp, wp_ifn, wp_some, wp_then, wp_bd, wp_ret, wp_optS, wp_optN, gk_wI, gz_wI, gR_wI, gk_wC, gz_wC, gR_wC, gk_wJ, gz_wJ, gR_wJ, lit, litL, bb, ite01, ite01n, nI_l, lN_add, lN_sub, in_eq, l_1, pk_lLT, pk_lEQ, lgl, lgg, lge, n64,  m8, m16, m24, m0, sh0, nI_add, pk_mul, nI_ltI, nI_leI, nI_eq, nI_clamp, pk_sub, pk_div, pk_rem, not_true_eq_false, not_false_eq_true, true_and, and_true, false_and, and_false, true_or, or_true, false_or, or_false, true_implies, false_implies, implies_true, if_true, if_false, Nat.not_lt_zero, Nat.add_zero, Nat.zero_add, and_self, eq_self, Bool.false_eq_true, Nat.reduceLT, Nat.reduceLeDiff, Nat.reduceAdd, Nat.reduceEqDiff, Nat.reduceMul, Nat.reduceSub, Nat.reduceDiv, Nat.reduceMod, ub_and, b0, b1, ub_n, S.trk hT, c0.2.1, e1, e, d3, d4]
  refine ⟨by omega, ?_⟩
  refine t_fill (by omega) (by omega) (by omega) d3 (by omega) (by omega) fun h1 cc e' => ?_
  have S1 := S.ch cc
  have f0 : gR h1 (ta T) 0 = some c := (cc.gR _ _).trans e
  have f1 : gk h1 c = 13 := (cc.gk _).trans d3
  have f2 : gz h1 c = 1500 := (cc.gz _).trans d4
  have f3 : gI h1 (ta T) 2 = nI (ts T).length := (cc.gI (by simp; omega)).trans c0.2.1
  have n1 : ¬ (ta T = c) := by omega
  unfold f_Tr_append_J144
  simp (disch := omega) only [wp_as, wp_ifp, wp_ifn, wp_some, wp_then, wp_bd, wp_ret, wp_optS, wp_optN, gk_wI, gz_wI, gR_wI, gk_wC, gz_wC, gR_wC, gk_wJ, gz_wJ, gR_wJ, lit, litL, bb, ite01, ite01n, nI_l, lN_add, lN_sub, in_eq, l_1, pk_lLT, pk_lEQ, lgl, lgg, lge, n64,  m8, m16, m24, m0, sh0, nI_add, pk_mul, nI_ltI, nI_leI, nI_eq, nI_clamp, pk_sub, pk_div, pk_rem, not_true_eq_false, not_false_eq_true, true_and, and_true, false_and, and_false, true_or, or_true, false_or, or_false, true_implies, false_implies, implies_true, if_true, if_false, Nat.not_lt_zero, Nat.add_zero, Nat.zero_add, and_self, eq_self, Bool.false_eq_true, Nat.reduceLT, Nat.reduceLeDiff, Nat.reduceAdd, Nat.reduceEqDiff, Nat.reduceMul, Nat.reduceSub, Nat.reduceDiv, Nat.reduceMod, ub_and, b0, b1, ub_n, S1.trk hT, f0, f1, f2, gI_wI, n1, f3]
  have n2 : ¬ (c = ta T) := by omega
  have n3 : ¬ (c = ta T + 1) := by omega
  have n4 : ¬ (ta T = ta T + 1) := by omega
  have n5 : ¬ (ta T + 1 = ta T) := by omega
  have n6 : ¬ (ta T + 1 = c) := by omega
  refine ⟨by omega, by omega, by omega, by omega, by omega, by omega, by omega, ?_⟩
  have sh : nI dl >>> nI 8 = nI (dl / 256) := pk_shrN (by have := o.2.2.2.2; simp [rD, rNew] at this; omega) _ 8 (by decide)
  have ea : (if ta T = ta T + 1 ∧ (ts T).length = 1 then nI (30 + ln (ts T) + 30 + (kl + dl)) else nI ((ts T).length + 1)) - nI 1 = nI (ts T).length := by
    rw [if_neg (fun q => n4 q.1), pk_sub (by omega)]
    rfl
  rw [ea, sh]
  generalize eH : (wI (wI (wI (wI (wI (wI (wI (wI h1 c (30 + ln (ts T)) (nI x).toInt8.toInt32) c (30 + ln (ts T) + 1) (nI y).toInt8.toInt32) c (30 + ln (ts T) + 2) (nI z).toInt8.toInt32) c (30 + ln (ts T) + 3) (nI kl).toInt8.toInt32) c (30 + ln (ts T) + 4) (nI (dl / 256)).toInt8.toInt32) c (30 + ln (ts T) + 5) (nI dl).toInt8.toInt32) (ta T) 2 (nI ((ts T).length + 1))) (ta T + 1) ((ts T).length + 1) (nI (30 + ln (ts T) + 30 + (kl + dl)))) = H
  have cH : Ch (fun a _ => a == ta T || a == ta T + 1 || a == c) h H := by
    rw [← eH]
    have w0 : ∀ i : Nat, (ta T == ta T || ta T == ta T + 1 || ta T == c) = true := fun _ => by simp
    have w1 : ∀ i : Nat, (ta T + 1 == ta T || ta T + 1 == ta T + 1 || ta T + 1 == c) = true := fun _ => by simp
    have w2 : ∀ i : Nat, (c == ta T || c == ta T + 1 || c == c) = true := fun _ => by simp
    have c1 : Ch (fun a _ => a == ta T || a == ta T + 1 || a == c) h h1 := cc.mono fun a i q => by simp at q; simp [q]
    exact (((((((c1.wI (w2 0)).wI (w2 0)).wI (w2 0)).wI (w2 0)).wI (w2 0)).wI (w2 0)).wI (w0 0)).wI (w1 0)
  have hc : ∀ j, gI H c j = if j = 30 + ln (ts T) + 5 then (nI dl).toInt8.toInt32 else if j = 30 + ln (ts T) + 4 then (nI (dl / 256)).toInt8.toInt32 else if j = 30 + ln (ts T) + 3 then (nI kl).toInt8.toInt32 else if j = 30 + ln (ts T) + 2 then (nI z).toInt8.toInt32 else if j = 30 + ln (ts T) + 1 then (nI y).toInt8.toInt32 else if j = 30 + ln (ts T) then (nI x).toInt8.toInt32 else if 30 + ln (ts T) ≤ j ∧ j < 30 + ln (ts T) + 30 + (kl + dl) then nI 0 else gI h c j := by
    intro j
    rw [← eH]
    simp only [gI_wI, n2, n3, false_and, if_false, true_and, e', b0]
  have h2 : gI H (ta T) 2 = nI ((ts T).length + 1) := by
    rw [← eH, gI_wI, if_neg (fun q => n4 q.1), gI_wI, if_pos (And.intro rfl rfl)]
  have hb : ∀ j, gI H (ta T + 1) j = if j = (ts T).length + 1 then nI (30 + ln (ts T) + 30 + (kl + dl)) else gI h (ta T + 1) j := by
    intro j
    rw [← eH]
    simp only [gI_wI, n5, n6, false_and, if_false, true_and]
    rw [cc.gI (by simpa using n6)]
  have w : ∀ a (i : Nat), (a == ta T || a == ta T + 1 || a == c) = true → a = ta T ∨ a = ta T + 1 ∨ gR h (ta T) 0 = some a := by
    intro a i q
    simp at q
    rcases q with (q | q) | q
    · exact Or.inl q
    · exact Or.inr (Or.inl q)
    · exact Or.inr (Or.inr (by rw [q]; exact e))
  have rl : rL (rNew x y z kl dl) = kl + dl := rfl
  refine kk H (cH.ct (wT_of C.1 hT w)) (C.up hT cH w ⟨c0.1.app (by rw [rl]; omega) o, ?_, fun j hj => ?_, fun j r hr => ?_⟩)
  · rw [h2, List.length_append, List.length_singleton]
  · rw [List.length_append, List.length_singleton] at hj
    rw [hb]
    by_cases q : j = (ts T).length + 1
    · rw [if_pos q, q]
      have := bg_len (ts T ++ [rNew x y z kl dl])
      rw [List.length_append, List.length_singleton, ln_app, ln_cons, ln_nil, rl] at this
      rw [this]
      congr 1
      omega
    · rw [if_neg q, c0.2.2.1 j (by omega), bg_app (by omega)]
  · refine ⟨c, (cH.gR _ _).trans e, (cH.gk _).trans d3, (cH.gz _).trans d4, ?_⟩
    rcases at_app hr with ⟨hj, hr⟩ | ⟨rfl, rfl⟩
    · rw [bg_app (by omega)]
      obtain ⟨c', y1, y2, y3, y4⟩ := c0.2.2.2 j r hr
      have : c' = c := by rw [e] at y1; cases y1; rfl
      subst this
      have ap := bg_lt hr hj
      rw [bg_len] at ap
      have out : ∀ i, i < 30 + ln (ts T) → gI H c' i = gI h c' i := fun i hi => by
        rw [hc, if_neg (by omega), if_neg (by omega), if_neg (by omega), if_neg (by omega), if_neg (by omega), if_neg (by omega), if_neg (by omega)]
      obtain ⟨x0, x1, x2, x3, x4, x5, x6, x7⟩ := y4
      refine ⟨?_, ?_, ?_, ?_, ?_, ?_, ?_, fun i hi => ?_⟩
      · rw [out _ (by omega)]; exact x0
      · rw [out _ (by omega)]; exact x1
      · rw [out _ (by omega)]; exact x2
      · rw [out _ (by omega)]; exact x3
      · rw [out _ (by omega)]; exact x4
      · rw [out _ (by omega)]; exact x5
      · rw [out _ (by omega)]; exact x6
      · rw [out _ (by omega)]; exact x7 i hi
    · rw [bg_app (Nat.le_refl _), bg_len]
      refine ⟨?_, ?_, ?_, ?_, ?_, ?_, ?_, fun i hi => ?_⟩
      · rw [hc, if_neg (by omega), if_neg (by omega), if_neg (by omega), if_neg (by omega), if_neg (by omega), if_pos rfl]; rfl
      · rw [hc, if_neg (by omega), if_neg (by omega), if_neg (by omega), if_neg (by omega), if_pos rfl]; rfl
      · rw [hc, if_neg (by omega), if_neg (by omega), if_neg (by omega), if_pos rfl]; rfl
      · rw [hc, if_neg (by omega), if_neg (by omega), if_pos rfl]; rfl
      · rw [hc, if_neg (by omega), if_pos rfl]; rfl
      · rw [hc, if_pos rfl]; rfl
      · rw [hc, if_neg (by omega), if_neg (by omega), if_neg (by omega), if_neg (by omega), if_neg (by omega), if_neg (by omega), if_pos (by omega)]; rfl
      · rw [rl] at hi
        rw [hc, if_neg (by omega), if_neg (by omega), if_neg (by omega), if_neg (by omega), if_neg (by omega), if_neg (by omega), if_pos (by omega)]; rfl
theorem t_append (hF : 2000 ≤ F) {x y z kl dl : Nat} (S : ShC h) (C : CTs h ts) (hT : T < 161) (o : okR (rNew x y z kl dl)) (room : 30 + ln (ts T) + 30 + (kl + dl) ≤ 1500) {P : Int32 → ck_H → Prop} (kk : ∀ h', Ct h h' → CTs h' (upT ts T (ts T ++ [rNew x y z kl dl])) → P (nI (ts T).length) h') : wp (f_Tr_append F (ta T) (nI x) (nI y) (nI z) (nI kl) (nI dl) h) P := by
  have c0 := C.2 T hT
  have hl := c0.1.len
  have hl2 := ln_len (ts T)
  have o4 : kl ≤ 60 := o.2.2.2.1
  have o5 : dl ≤ 1200 := o.2.2.2.2
  have qr : f_Tr_hasRoom F (ta T) (nI (kl + dl)) h = some (nI 1, h) := by rw [q_room S hT c0 (by omega), if_pos room]
  unfold f_Tr_append
  simp (disch := omega) only [wp_as, wp_ifp, wp_ifn, wp_some, wp_then, wp_bd, wp_ret, wp_optS, wp_optN, gk_wI, gz_wI, gR_wI, gk_wC, gz_wC, gR_wC, gk_wJ, gz_wJ, gR_wJ, lit, litL, bb, ite01, ite01n, nI_l, lN_add, lN_sub, in_eq, l_1, pk_lLT, pk_lEQ, lgl, lgg, lge, n64,  m8, m16, m24, m0, sh0, nI_add, pk_mul, nI_ltI, nI_leI, nI_eq, nI_clamp, pk_sub, pk_div, pk_rem, not_true_eq_false, not_false_eq_true, true_and, and_true, false_and, and_false, true_or, or_true, false_or, or_false, true_implies, false_implies, implies_true, if_true, if_false, Nat.not_lt_zero, Nat.add_zero, Nat.zero_add, and_self, eq_self, Bool.false_eq_true, Nat.reduceLT, Nat.reduceLeDiff, Nat.reduceAdd, Nat.reduceEqDiff, Nat.reduceMul, Nat.reduceSub, Nat.reduceDiv, Nat.reduceMod, ub_and, b0, b1, ub_n, S.trk hT, c0.2.1, qr]
  cases e : gR h (ta T) 0 with
  | some c =>
    simp (disch := omega) only [wp_as, wp_ifp, wp_ifn, wp_some, wp_then, wp_bd, wp_ret, wp_optS, wp_optN, gk_wI, gz_wI, gR_wI, gk_wC, gz_wC, gR_wC, gk_wJ, gz_wJ, gR_wJ, lit, litL, bb, ite01, ite01n, nI_l, lN_add, lN_sub, in_eq, l_1, pk_lLT, pk_lEQ, lgl, lgg, lge, n64,  m8, m16, m24, m0, sh0, nI_add, pk_mul, nI_ltI, nI_leI, nI_eq, nI_clamp, pk_sub, pk_div, pk_rem, not_true_eq_false, not_false_eq_true, true_and, and_true, false_and, and_false, true_or, or_true, false_or, or_false, true_implies, false_implies, implies_true, if_true, if_false, Nat.not_lt_zero, Nat.add_zero, Nat.zero_add, and_self, eq_self, Bool.false_eq_true, Nat.reduceLT, Nat.reduceLeDiff, Nat.reduceAdd, Nat.reduceEqDiff, Nat.reduceMul, Nat.reduceSub, Nat.reduceDiv, Nat.reduceMod, ub_and, b0, b1, ub_n]
    exact app_1 hF S C hT e o room kk
  | none =>
    obtain ⟨t1, C1⟩ := mk_cells S C hT e
    have S1 := S.ct t1
    have nb : gk (wN h 13 1500) (ta T) = 8 := by
      have := (S1.trk hT).1
      rw [gk_wR] at this
      exact this
    simp (disch := omega) only [wp_as, wp_ifp, wp_ifn, wp_some, wp_then, wp_bd, wp_ret, wp_optS, wp_optN, gk_wI, gz_wI, gR_wI, gk_wC, gz_wC, gR_wC, gk_wJ, gz_wJ, gR_wJ, lit, litL, bb, ite01, ite01n, nI_l, lN_add, lN_sub, in_eq, l_1, pk_lLT, pk_lEQ, lgl, lgg, lge, n64,  m8, m16, m24, m0, sh0, nI_add, pk_mul, nI_ltI, nI_leI, nI_eq, nI_clamp, pk_sub, pk_div, pk_rem, not_true_eq_false, not_false_eq_true, true_and, and_true, false_and, and_false, true_or, or_true, false_or, or_false, true_implies, false_implies, implies_true, if_true, if_false, Nat.not_lt_zero, Nat.add_zero, Nat.zero_add, and_self, eq_self, Bool.false_eq_true, Nat.reduceLT, Nat.reduceLeDiff, Nat.reduceAdd, Nat.reduceEqDiff, Nat.reduceMul, Nat.reduceSub, Nat.reduceDiv, Nat.reduceMod, ub_and, b0, b1, ub_n, nb]
    exact app_1 hF S1 C1 hT (by rw [gR_wR, if_pos (And.intro rfl rfl)]) o room fun h' t' C' => kk h' (t1.trans t') C'
end
