def f_RM_prepare_L23 (F : Nat)  : Nat → Nat → Int32 → Int32 → Int32 → ck_H → Option (Unit × ck_H)
  | 0, _, _, _, _, _ => none
  | n + 1, a0, v1, v2, v3, h =>
    ck_as (gk h a0 = 12) <|
    ck_bd (f_RM_tracksOf F a0 v2 h) fun r2 h3 =>
    if v3 < r2 then
      ck_as (gk h3 a0 = 12) <|
      ck_some (gR h3 a0 35) fun b7 =>
      ck_as ((gk h3 b7 = 14 ∨ gk h3 b7 = 21) ∧ ¬ v2 < 0 ∧ (v2 : Int32).toNatClampNeg < gz h3 b7) <|
      if (gI h3 b7 (v2 : Int32).toNatClampNeg) = (4 : Int32) then
        if (0 : Int32) < v3 then
          ck_some (gR h3 a0 1) fun b12 =>
          ck_bd (f_RM_trackOf F a0 v2 v3 h3) fun r14 h15 =>
          ck_as ((gk h15 b12 = 14 ∨ gk h15 b12 = 21) ∧ ¬ r14 < 0 ∧ (r14 : Int32).toNatClampNeg < gz h15 b12) <|
          if (0 : Int32) < (gI h15 b12 (r14 : Int32).toNatClampNeg) then
            ck_as (gk h15 a0 = 12) <|
            ck_some (gR h15 a0 55) fun b20 =>
            ck_as (gk h15 b20 = 14 ∧ ¬ v1 < 0 ∧ (v1 : Int32).toNatClampNeg < gz h15 b20) <|
            ck_then (wI h15 b20 (v1 : Int32).toNatClampNeg v3) fun h23 =>
            f_RM_prepare_L23 F n a0 v1 v2 (v3 + 1) h23
          else
            f_RM_prepare_L23 F n a0 v1 v2 (v3 + 1) h15
        else
          f_RM_prepare_L23 F n a0 v1 v2 (v3 + 1) h3
      else
        ck_some (gR h3 a0 1) fun b25 =>
        ck_bd (f_RM_trackOf F a0 v2 v3 h3) fun r27 h28 =>
        ck_as (gk h28 b25 = 14 ∧ ¬ r27 < 0 ∧ (r27 : Int32).toNatClampNeg < gz h28 b25) <|
        ck_then (wI h28 b25 (r27 : Int32).toNatClampNeg 0) fun h31 =>
        f_RM_prepare_L23 F n a0 v1 v2 (v3 + 1) h31
    else
      some ((), h3)
set_option maxRecDepth 100000 in
set_option maxHeartbeats 4000000 in
theorem f_RM_prepare_L23_s (F : Nat)   : ∀ (n : Nat) (a0 : Nat) (v1 : Int32) (v2 : Int32) (v3 : Int32) (h : ck_H) (r : Unit) (h' : ck_H), f_RM_prepare_L23 F n a0 v1 v2 v3 h = some (r, h') → Go k_RM_prepare 23 [some (.ref a0), some (.int v1), some (.int v2), some (.int v3)] [] h (none, h') := by
  intro n
  induction n with
  | zero => intro a0 v1 v2 v3 h r h' e; simp only [f_RM_prepare_L23] at e; cases e
  | succ n ih =>
    intro a0 v1 v2 v3 h r h' e
    rw [f_RM_prepare_L23] at e
    refine go_iload_n rfl rfl ?_
    refine go_aload_n rfl rfl ?_
    refine go_iload_n rfl rfl ?_
    replace e := ck_as_e e
    obtain ⟨hk_1, e⟩ := e
    replace e := ck_bd_e e
    obtain ⟨r2, h3, e4, e⟩ := e
    refine go_callV (As := [.int v2]) (b0 := a0) (rest := [.int v3]) rfl rfl ⟨hk_1, by decide⟩ rfl ⟨Nat.le_of_ble_eq_true rfl, Nat.le_of_ble_eq_true rfl, Nat.le_of_ble_eq_true rfl, Nat.le_of_ble_eq_true rfl⟩ (s_RM_tracksOf e4) ?_
    show Go k_RM_prepare 29 [some (.ref a0), some (.int v1), some (.int v2), some (.int v3)] [.int r2, .int v3] h3 _
    refine go_icmp_ge (t := 88) rfl rfl (fun hx_5 => ?_) (fun hx_5 => ?_)
    · rw [if_pos hx_5] at e
      refine go_aload_n rfl rfl ?_
      replace e := ck_as_e e
      obtain ⟨hk_6, e⟩ := e
      replace e := ck_some_e e
      obtain ⟨b7, hq_8, e⟩ := e
      refine go_get (v := .ref b7) rfl rfl hk_6 (by decide) (by show va_rf (gR h3 a0 35) = _; rw [hq_8]; rfl) ?_
      refine go_iload_n rfl rfl ?_
      replace e := ck_as_e e
      obtain ⟨hc_9, e⟩ := e
      refine go_iald rfl hc_9 ?_
      refine go_iconst (v := 4) rfl (by decide) ?_
      refine go_icmp_eq (t := 57) rfl rfl (fun hx_10 => ?_) (fun hx_10 => ?_)
      · rw [if_pos hx_10] at e
        refine go_iload_n rfl rfl ?_
        refine go_if_le (t := 82) rfl rfl (fun hx_11 => ?_) (fun hx_11 => ?_)
        · rw [if_pos hx_11] at e
          refine go_aload_n rfl rfl ?_
          replace e := ck_some_e e
          obtain ⟨b12, hq_13, e⟩ := e
          refine go_get (v := .ref b12) rfl rfl hk_6 (by decide) (by show va_rf (gR h3 a0 1) = _; rw [hq_13]; rfl) ?_
          refine go_aload_n rfl rfl ?_
          refine go_iload_n rfl rfl ?_
          refine go_iload_n rfl rfl ?_
          replace e := ck_bd_e e
          obtain ⟨r14, h15, e16, e⟩ := e
          refine go_callV (As := [.int v2, .int v3]) (b0 := a0) (rest := [.ref b12]) rfl rfl ⟨hk_6, by decide⟩ rfl ⟨Nat.le_of_ble_eq_true rfl, Nat.le_of_ble_eq_true rfl, Nat.le_of_ble_eq_true rfl, Nat.le_of_ble_eq_true rfl⟩ (s_RM_trackOf e16) ?_
          show Go k_RM_prepare 71 [some (.ref a0), some (.int v1), some (.int v2), some (.int v3)] [.int r14, .ref b12] h15 _
          replace e := ck_as_e e
          obtain ⟨hc_17, e⟩ := e
          refine go_iald rfl hc_17 ?_
          refine go_if_le (t := 82) rfl rfl (fun hx_18 => ?_) (fun hx_18 => ?_)
          · rw [if_pos hx_18] at e
            refine go_aload_n rfl rfl ?_
            replace e := ck_as_e e
            obtain ⟨hk_19, e⟩ := e
            replace e := ck_some_e e
            obtain ⟨b20, hq_21, e⟩ := e
            refine go_get (v := .ref b20) rfl rfl hk_19 (by decide) (by show va_rf (gR h15 a0 55) = _; rw [hq_21]; rfl) ?_
            refine go_iload_n rfl rfl ?_
            refine go_iload_n rfl rfl ?_
            replace e := ck_as_e e
            obtain ⟨hc_22, e⟩ := e
            refine go_iast rfl hc_22 ?_
            have hk_24 : gk (wI h15 b20 (v1 : Int32).toNatClampNeg v3) a0 = 12 := ck_kI.trans hk_19
            generalize wI h15 b20 (v1 : Int32).toNatClampNeg v3 = h23 at e hk_24 ⊢
            replace e := ck_then_e e
            refine go_iinc (v := 1) rfl rfl (by decide) rfl ?_
            show Go k_RM_prepare 85 [some (.ref a0), some (.int v1), some (.int v2), some (.int (v3 + 1))] [] h23 _
            refine go_goto (t := 23) rfl rfl ?_
            refine go_forget (l := [some (.ref a0), some (.int v1), some (.int v2), some (.int (v3 + 1))]) ⟨Or.inl rfl, Or.inl rfl, Or.inl rfl, Or.inl rfl, trivial⟩ ?_
            exact ih _ _ _ _ _ _ _ e
          · rw [if_neg hx_18] at e
            refine go_iinc (v := 1) rfl rfl (by decide) rfl ?_
            show Go k_RM_prepare 85 [some (.ref a0), some (.int v1), some (.int v2), some (.int (v3 + 1))] [] h15 _
            refine go_goto (t := 23) rfl rfl ?_
            refine go_forget (l := [some (.ref a0), some (.int v1), some (.int v2), some (.int (v3 + 1))]) ⟨Or.inl rfl, Or.inl rfl, Or.inl rfl, Or.inl rfl, trivial⟩ ?_
            exact ih _ _ _ _ _ _ _ e
        · rw [if_neg hx_11] at e
          refine go_iinc (v := 1) rfl rfl (by decide) rfl ?_
          show Go k_RM_prepare 85 [some (.ref a0), some (.int v1), some (.int v2), some (.int (v3 + 1))] [] h3 _
          refine go_goto (t := 23) rfl rfl ?_
          refine go_forget (l := [some (.ref a0), some (.int v1), some (.int v2), some (.int (v3 + 1))]) ⟨Or.inl rfl, Or.inl rfl, Or.inl rfl, Or.inl rfl, trivial⟩ ?_
          exact ih _ _ _ _ _ _ _ e
      · rw [if_neg hx_10] at e
        refine go_aload_n rfl rfl ?_
        replace e := ck_some_e e
        obtain ⟨b25, hq_26, e⟩ := e
        refine go_get (v := .ref b25) rfl rfl hk_6 (by decide) (by show va_rf (gR h3 a0 1) = _; rw [hq_26]; rfl) ?_
        refine go_aload_n rfl rfl ?_
        refine go_iload_n rfl rfl ?_
        refine go_iload_n rfl rfl ?_
        replace e := ck_bd_e e
        obtain ⟨r27, h28, e29, e⟩ := e
        refine go_callV (As := [.int v2, .int v3]) (b0 := a0) (rest := [.ref b25]) rfl rfl ⟨hk_6, by decide⟩ rfl ⟨Nat.le_of_ble_eq_true rfl, Nat.le_of_ble_eq_true rfl, Nat.le_of_ble_eq_true rfl, Nat.le_of_ble_eq_true rfl⟩ (s_RM_trackOf e29) ?_
        show Go k_RM_prepare 52 [some (.ref a0), some (.int v1), some (.int v2), some (.int v3)] [.int r27, .ref b25] h28 _
        refine go_iconst (v := 0) rfl (by decide) ?_
        replace e := ck_as_e e
        obtain ⟨hc_30, e⟩ := e
        refine go_iast rfl hc_30 ?_
        generalize wI h28 b25 (r27 : Int32).toNatClampNeg 0 = h31 at e  ⊢
        replace e := ck_then_e e
        refine go_goto (t := 82) rfl rfl ?_
        refine go_iinc (v := 1) rfl rfl (by decide) rfl ?_
        show Go k_RM_prepare 85 [some (.ref a0), some (.int v1), some (.int v2), some (.int (v3 + 1))] [] h31 _
        refine go_goto (t := 23) rfl rfl ?_
        refine go_forget (l := [some (.ref a0), some (.int v1), some (.int v2), some (.int (v3 + 1))]) ⟨Or.inl rfl, Or.inl rfl, Or.inl rfl, Or.inl rfl, trivial⟩ ?_
        exact ih _ _ _ _ _ _ _ e
    · rw [if_neg hx_5] at e
      cases e
      exact go_ret rfl rfl
def f_RM_prepare (F : Nat) (a0 : Nat) (v1 : Int32) (v2 : Int32) (h : ck_H) : Option (Unit × ck_H) :=
  ck_as (gk h a0 = 12) <|
  ck_some (gR h a0 55) fun b2 =>
  ck_some (gR h a0 35) fun b4 =>
  ck_as ((gk h b4 = 14 ∨ gk h b4 = 21) ∧ ¬ v2 < 0 ∧ (v2 : Int32).toNatClampNeg < gz h b4) <|
  if (gI h b4 (v2 : Int32).toNatClampNeg) = (4 : Int32) then
    ck_as (gk h b2 = 14 ∧ ¬ v1 < 0 ∧ (v1 : Int32).toNatClampNeg < gz h b2) <|
    ck_then (wI h b2 (v1 : Int32).toNatClampNeg 1) fun h9 =>
    f_RM_prepare_L23 F F a0 v1 v2 0 h9
  else
    ck_as (gk h b2 = 14 ∧ ¬ v1 < 0 ∧ (v1 : Int32).toNatClampNeg < gz h b2) <|
    ck_then (wI h b2 (v1 : Int32).toNatClampNeg 0) fun h33 =>
    f_RM_prepare_L23 F F a0 v1 v2 0 h33
set_option maxRecDepth 100000 in
set_option maxHeartbeats 4000000 in
theorem s_RM_prepare {F : Nat} {a0 : Nat} {v1 : Int32} {v2 : Int32} {h h' : ck_H} {r : Unit} (e : f_RM_prepare F a0 v1 v2 h = some (r, h')) : Go k_RM_prepare 0 (ck_in [.ref a0, .int v1, .int v2] 4) [] h (none, h') := by
  unfold f_RM_prepare at e
  show Go k_RM_prepare 0 [some (.ref a0), some (.int v1), some (.int v2), none] [] h _
  refine go_aload_n rfl rfl ?_
  replace e := ck_as_e e
  obtain ⟨hk_1, e⟩ := e
  replace e := ck_some_e e
  obtain ⟨b2, hq_3, e⟩ := e
  refine go_get (v := .ref b2) rfl rfl hk_1 (by decide) (by show va_rf (gR h a0 55) = _; rw [hq_3]; rfl) ?_
  refine go_iload_n rfl rfl ?_
  refine go_aload_n rfl rfl ?_
  replace e := ck_some_e e
  obtain ⟨b4, hq_5, e⟩ := e
  refine go_get (v := .ref b4) rfl rfl hk_1 (by decide) (by show va_rf (gR h a0 35) = _; rw [hq_5]; rfl) ?_
  refine go_iload_n rfl rfl ?_
  replace e := ck_as_e e
  obtain ⟨hc_6, e⟩ := e
  refine go_iald rfl hc_6 ?_
  refine go_iconst (v := 4) rfl (by decide) ?_
  refine go_icmp_ne (t := 19) rfl rfl (fun hx_7 => ?_) (fun hx_7 => ?_)
  · rw [if_pos hx_7] at e
    refine go_iconst (v := 1) rfl (by decide) ?_
    refine go_goto (t := 20) rfl rfl ?_
    replace e := ck_as_e e
    obtain ⟨hc_8, e⟩ := e
    refine go_iast rfl hc_8 ?_
    have hk_10 : gk (wI h b2 (v1 : Int32).toNatClampNeg 1) a0 = 12 := ck_kI.trans hk_1
    generalize wI h b2 (v1 : Int32).toNatClampNeg 1 = h9 at e hk_10 ⊢
    replace e := ck_then_e e
    refine go_iconst (v := 0) rfl (by decide) ?_
    refine go_istore_n rfl rfl ?_
    show Go k_RM_prepare 23 [some (.ref a0), some (.int v1), some (.int v2), some (.int 0)] [] h9 _
    refine go_forget (l := [some (.ref a0), some (.int v1), some (.int v2), some (.int 0)]) ⟨Or.inl rfl, Or.inl rfl, Or.inl rfl, Or.inl rfl, trivial⟩ ?_
    exact f_RM_prepare_L23_s F F _ _ _ _ _ _ _ e
  · rw [if_neg hx_7] at e
    refine go_iconst (v := 0) rfl (by decide) ?_
    replace e := ck_as_e e
    obtain ⟨hc_32, e⟩ := e
    refine go_iast rfl hc_32 ?_
    have hk_34 : gk (wI h b2 (v1 : Int32).toNatClampNeg 0) a0 = 12 := ck_kI.trans hk_1
    generalize wI h b2 (v1 : Int32).toNatClampNeg 0 = h33 at e hk_34 ⊢
    replace e := ck_then_e e
    refine go_iconst (v := 0) rfl (by decide) ?_
    refine go_istore_n rfl rfl ?_
    show Go k_RM_prepare 23 [some (.ref a0), some (.int v1), some (.int v2), some (.int 0)] [] h33 _
    refine go_forget (l := [some (.ref a0), some (.int v1), some (.int v2), some (.int 0)]) ⟨Or.inl rfl, Or.inl rfl, Or.inl rfl, Or.inl rfl, trivial⟩ ?_
    exact f_RM_prepare_L23_s F F _ _ _ _ _ _ _ e
def f_RM_open_J98 (F : Nat)  (a0 : Nat) (v1 : Int32) (v2 : Int32) (v3 : Int32) (h : ck_H) : Option (Int32 × ck_H) :=
  if v3 = (4 : Int32) then
    some ((-4), h)
  else
    ck_as (gk h a0 = 12) <|
    ck_some (gR h a0 49) fun b3 =>
    ck_as (gk h b3 = 15 ∧ ((1 : Int32) = 0 ∨ (1 : Int32) = 1) ∧ ¬ v3 < 0 ∧ (v3 : Int32).toNatClampNeg < gz h b3) <|
    ck_then (wI h b3 (v3 : Int32).toNatClampNeg 1) fun h6 =>
    ck_some (gR h6 a0 50) fun b8 =>
    ck_as (gk h6 b8 = 14 ∧ ¬ v3 < 0 ∧ (v3 : Int32).toNatClampNeg < gz h6 b8) <|
    ck_then (wI h6 b8 (v3 : Int32).toNatClampNeg v2) fun h11 =>
    ck_some (gR h11 a0 51) fun b13 =>
    ck_as (gk h11 b13 = 14 ∧ ¬ v3 < 0 ∧ (v3 : Int32).toNatClampNeg < gz h11 b13) <|
    ck_then (wI h11 b13 (v3 : Int32).toNatClampNeg v1) fun h16 =>
    ck_some (gR h16 a0 52) fun b18 =>
    ck_as (gk h16 b18 = 14 ∧ ¬ v3 < 0 ∧ (v3 : Int32).toNatClampNeg < gz h16 b18) <|
    ck_then (wI h16 b18 (v3 : Int32).toNatClampNeg 0) fun h21 =>
    ck_some (gR h21 a0 54) fun b23 =>
    ck_as (gk h21 b23 = 14 ∧ ¬ v3 < 0 ∧ (v3 : Int32).toNatClampNeg < gz h21 b23) <|
    ck_then (wI h21 b23 (v3 : Int32).toNatClampNeg 0) fun h26 =>
    ck_some (gR h26 a0 56) fun b28 =>
    ck_as (gk h26 b28 = 14 ∧ ¬ v3 < 0 ∧ (v3 : Int32).toNatClampNeg < gz h26 b28) <|
    ck_then (wI h26 b28 (v3 : Int32).toNatClampNeg 0) fun h31 =>
    ck_some (gR h31 a0 66) fun b33 =>
    ck_as (gk h31 b33 = 15 ∧ ((0 : Int32) = 0 ∨ (0 : Int32) = 1) ∧ ¬ v3 < 0 ∧ (v3 : Int32).toNatClampNeg < gz h31 b33) <|
    ck_then (wI h31 b33 (v3 : Int32).toNatClampNeg 0) fun h36 =>
    ck_some (gR h36 a0 67) fun b38 =>
    ck_as (gk h36 b38 = 15 ∧ ((0 : Int32) = 0 ∨ (0 : Int32) = 1) ∧ ¬ v3 < 0 ∧ (v3 : Int32).toNatClampNeg < gz h36 b38) <|
    ck_then (wI h36 b38 (v3 : Int32).toNatClampNeg 0) fun h41 =>
    ck_bd (f_RM_begin F a0 v3 0 0 (-1) h41) fun _ h44 =>
    if v1 = (1 : Int32) then
      ck_as (gk h44 a0 = 12) <|
      ck_bd (f_RM_prepare F a0 v3 v2 h44) fun _ h49 =>
      some (v3, h49)
    else
      some (v3, h44)
set_option maxRecDepth 100000 in
set_option maxHeartbeats 4000000 in
theorem f_RM_open_J98_s (F : Nat)   (a0 : Nat) (v1 : Int32) (v2 : Int32) (v3 : Int32) (h : ck_H) (r : Int32) (h' : ck_H) (e : f_RM_open_J98 F  a0 v1 v2 v3 h = some (r, h')) : Go k_RM_open 98 [some (.ref a0), some (.int v1), some (.int v2), some (.int v3)] [] h (some (.int r), h') := by
  unfold f_RM_open_J98 at e
  refine go_iload_n rfl rfl ?_
  refine go_iconst (v := 4) rfl (by decide) ?_
  refine go_icmp_ne (t := 106) rfl rfl (fun hx_1 => ?_) (fun hx_1 => ?_)
  · rw [if_pos hx_1] at e
    refine go_bipush (v := (-4)) rfl (by decide) ?_
    cases e
    exact go_ret rfl rfl
  · rw [if_neg hx_1] at e
    refine go_aload_n rfl rfl ?_
    replace e := ck_as_e e
    obtain ⟨hk_2, e⟩ := e
    replace e := ck_some_e e
    obtain ⟨b3, hq_4, e⟩ := e
    refine go_get (v := .ref b3) rfl rfl hk_2 (by decide) (by show va_rf (gR h a0 49) = _; rw [hq_4]; rfl) ?_
    refine go_iload_n rfl rfl ?_
    refine go_iconst (v := 1) rfl (by decide) ?_
    replace e := ck_as_e e
    obtain ⟨hc_5, e⟩ := e
    refine go_zast rfl hc_5 ?_
    have hk_7 : gk (wI h b3 (v3 : Int32).toNatClampNeg 1) a0 = 12 := ck_kI.trans hk_2
    generalize wI h b3 (v3 : Int32).toNatClampNeg 1 = h6 at e hk_7 ⊢
    replace e := ck_then_e e
    refine go_aload_n rfl rfl ?_
    replace e := ck_some_e e
    obtain ⟨b8, hq_9, e⟩ := e
    refine go_get (v := .ref b8) rfl rfl hk_7 (by decide) (by show va_rf (gR h6 a0 50) = _; rw [hq_9]; rfl) ?_
    refine go_iload_n rfl rfl ?_
    refine go_iload_n rfl rfl ?_
    replace e := ck_as_e e
    obtain ⟨hc_10, e⟩ := e
    refine go_iast rfl hc_10 ?_
    have hk_12 : gk (wI h6 b8 (v3 : Int32).toNatClampNeg v2) a0 = 12 := ck_kI.trans hk_7
    generalize wI h6 b8 (v3 : Int32).toNatClampNeg v2 = h11 at e hk_12 ⊢
    replace e := ck_then_e e
    refine go_aload_n rfl rfl ?_
    replace e := ck_some_e e
    obtain ⟨b13, hq_14, e⟩ := e
    refine go_get (v := .ref b13) rfl rfl hk_12 (by decide) (by show va_rf (gR h11 a0 51) = _; rw [hq_14]; rfl) ?_
    refine go_iload_n rfl rfl ?_
    refine go_iload_n rfl rfl ?_
    replace e := ck_as_e e
    obtain ⟨hc_15, e⟩ := e
    refine go_iast rfl hc_15 ?_
    have hk_17 : gk (wI h11 b13 (v3 : Int32).toNatClampNeg v1) a0 = 12 := ck_kI.trans hk_12
    generalize wI h11 b13 (v3 : Int32).toNatClampNeg v1 = h16 at e hk_17 ⊢
    replace e := ck_then_e e
    refine go_aload_n rfl rfl ?_
    replace e := ck_some_e e
    obtain ⟨b18, hq_19, e⟩ := e
    refine go_get (v := .ref b18) rfl rfl hk_17 (by decide) (by show va_rf (gR h16 a0 52) = _; rw [hq_19]; rfl) ?_
    refine go_iload_n rfl rfl ?_
    refine go_iconst (v := 0) rfl (by decide) ?_
    replace e := ck_as_e e
    obtain ⟨hc_20, e⟩ := e
    refine go_iast rfl hc_20 ?_
    have hk_22 : gk (wI h16 b18 (v3 : Int32).toNatClampNeg 0) a0 = 12 := ck_kI.trans hk_17
    generalize wI h16 b18 (v3 : Int32).toNatClampNeg 0 = h21 at e hk_22 ⊢
    replace e := ck_then_e e
    refine go_aload_n rfl rfl ?_
    replace e := ck_some_e e
    obtain ⟨b23, hq_24, e⟩ := e
    refine go_get (v := .ref b23) rfl rfl hk_22 (by decide) (by show va_rf (gR h21 a0 54) = _; rw [hq_24]; rfl) ?_
    refine go_iload_n rfl rfl ?_
    refine go_iconst (v := 0) rfl (by decide) ?_
    replace e := ck_as_e e
    obtain ⟨hc_25, e⟩ := e
    refine go_iast rfl hc_25 ?_
    have hk_27 : gk (wI h21 b23 (v3 : Int32).toNatClampNeg 0) a0 = 12 := ck_kI.trans hk_22
    generalize wI h21 b23 (v3 : Int32).toNatClampNeg 0 = h26 at e hk_27 ⊢
    replace e := ck_then_e e
    refine go_aload_n rfl rfl ?_
    replace e := ck_some_e e
    obtain ⟨b28, hq_29, e⟩ := e
    refine go_get (v := .ref b28) rfl rfl hk_27 (by decide) (by show va_rf (gR h26 a0 56) = _; rw [hq_29]; rfl) ?_
    refine go_iload_n rfl rfl ?_
    refine go_iconst (v := 0) rfl (by decide) ?_
    replace e := ck_as_e e
    obtain ⟨hc_30, e⟩ := e
    refine go_iast rfl hc_30 ?_
    have hk_32 : gk (wI h26 b28 (v3 : Int32).toNatClampNeg 0) a0 = 12 := ck_kI.trans hk_27
    generalize wI h26 b28 (v3 : Int32).toNatClampNeg 0 = h31 at e hk_32 ⊢
    replace e := ck_then_e e
    refine go_aload_n rfl rfl ?_
    replace e := ck_some_e e
    obtain ⟨b33, hq_34, e⟩ := e
    refine go_get (v := .ref b33) rfl rfl hk_32 (by decide) (by show va_rf (gR h31 a0 66) = _; rw [hq_34]; rfl) ?_
    refine go_iload_n rfl rfl ?_
    refine go_iconst (v := 0) rfl (by decide) ?_
    replace e := ck_as_e e
    obtain ⟨hc_35, e⟩ := e
    refine go_zast rfl hc_35 ?_
    have hk_37 : gk (wI h31 b33 (v3 : Int32).toNatClampNeg 0) a0 = 12 := ck_kI.trans hk_32
    generalize wI h31 b33 (v3 : Int32).toNatClampNeg 0 = h36 at e hk_37 ⊢
    replace e := ck_then_e e
    refine go_aload_n rfl rfl ?_
    replace e := ck_some_e e
    obtain ⟨b38, hq_39, e⟩ := e
    refine go_get (v := .ref b38) rfl rfl hk_37 (by decide) (by show va_rf (gR h36 a0 67) = _; rw [hq_39]; rfl) ?_
    refine go_iload_n rfl rfl ?_
    refine go_iconst (v := 0) rfl (by decide) ?_
    replace e := ck_as_e e
    obtain ⟨hc_40, e⟩ := e
    refine go_zast rfl hc_40 ?_
    have hk_42 : gk (wI h36 b38 (v3 : Int32).toNatClampNeg 0) a0 = 12 := ck_kI.trans hk_37
    generalize wI h36 b38 (v3 : Int32).toNatClampNeg 0 = h41 at e hk_42 ⊢
    replace e := ck_then_e e
    refine go_aload_n rfl rfl ?_
    refine go_iload_n rfl rfl ?_
    refine go_iconst (v := 0) rfl (by decide) ?_
    refine go_iconst (v := 0) rfl (by decide) ?_
    refine go_iconst (v := (-1)) rfl (by decide) ?_
    replace e := ck_bd_e e
    obtain ⟨r43, h44, e45, e⟩ := e
    refine go_callV (As := [.int v3, .int 0, .int 0, .int (-1)]) (b0 := a0) (rest := []) rfl rfl ⟨hk_42, by decide⟩ rfl ⟨Nat.le_of_ble_eq_true rfl, Nat.le_of_ble_eq_true rfl, Nat.le_of_ble_eq_true rfl, Nat.le_of_ble_eq_true rfl⟩ (s_RM_begin e45) ?_
    show Go k_RM_open 170 [some (.ref a0), some (.int v1), some (.int v2), some (.int v3)] [] h44 _
    refine go_iload_n rfl rfl ?_
    refine go_iconst (v := 1) rfl (by decide) ?_
    refine go_icmp_ne (t := 181) rfl rfl (fun hx_46 => ?_) (fun hx_46 => ?_)
    · rw [if_pos hx_46] at e
      refine go_aload_n rfl rfl ?_
      refine go_iload_n rfl rfl ?_
      refine go_iload_n rfl rfl ?_
      replace e := ck_as_e e
      obtain ⟨hk_47, e⟩ := e
      replace e := ck_bd_e e
      obtain ⟨r48, h49, e50, e⟩ := e
      refine go_callV (As := [.int v3, .int v2]) (b0 := a0) (rest := []) rfl rfl ⟨hk_47, by decide⟩ rfl ⟨Nat.le_of_ble_eq_true rfl, Nat.le_of_ble_eq_true rfl, Nat.le_of_ble_eq_true rfl, Nat.le_of_ble_eq_true rfl⟩ (s_RM_prepare e50) ?_
      show Go k_RM_open 181 [some (.ref a0), some (.int v1), some (.int v2), some (.int v3)] [] h49 _
      refine go_iload_n rfl rfl ?_
      cases e
      exact go_ret rfl rfl
    · rw [if_neg hx_46] at e
      refine go_iload_n rfl rfl ?_
      cases e
      exact go_ret rfl rfl
def f_RM_open_L78 (F : Nat)  : Nat → Nat → Int32 → Int32 → Int32 → ck_H → Option (Int32 × ck_H)
  | 0, _, _, _, _, _ => none
  | n + 1, a0, v1, v2, v3, h =>
    if v3 < (4 : Int32) then
      ck_as (gk h a0 = 12) <|
      ck_some (gR h a0 49) fun b3 =>
      ck_as ((gk h b3 = 13 ∨ gk h b3 = 15) ∧ ¬ v3 < 0 ∧ (v3 : Int32).toNatClampNeg < gz h b3) <|
      if (gI h b3 (v3 : Int32).toNatClampNeg) = (0 : Int32) then
        f_RM_open_J98 F a0 v1 v2 v3 h
      else
        f_RM_open_L78 F n a0 v1 v2 (v3 + 1) h
    else
      f_RM_open_J98 F a0 v1 v2 v3 h
set_option maxRecDepth 100000 in
set_option maxHeartbeats 4000000 in
theorem f_RM_open_L78_s (F : Nat)   : ∀ (n : Nat) (a0 : Nat) (v1 : Int32) (v2 : Int32) (v3 : Int32) (h : ck_H) (r : Int32) (h' : ck_H), f_RM_open_L78 F n a0 v1 v2 v3 h = some (r, h') → Go k_RM_open 78 [some (.ref a0), some (.int v1), some (.int v2), some (.int v3)] [] h (some (.int r), h') := by
  intro n
  induction n with
  | zero => intro a0 v1 v2 v3 h r h' e; simp only [f_RM_open_L78] at e; cases e
  | succ n ih =>
    intro a0 v1 v2 v3 h r h' e
    rw [f_RM_open_L78] at e
    refine go_iload_n rfl rfl ?_
    refine go_iconst (v := 4) rfl (by decide) ?_
    refine go_icmp_ge (t := 98) rfl rfl (fun hx_1 => ?_) (fun hx_1 => ?_)
    · rw [if_pos hx_1] at e
      refine go_aload_n rfl rfl ?_
      replace e := ck_as_e e
      obtain ⟨hk_2, e⟩ := e
      replace e := ck_some_e e
      obtain ⟨b3, hq_4, e⟩ := e
      refine go_get (v := .ref b3) rfl rfl hk_2 (by decide) (by show va_rf (gR h a0 49) = _; rw [hq_4]; rfl) ?_
      refine go_iload_n rfl rfl ?_
      replace e := ck_as_e e
      obtain ⟨hc_5, e⟩ := e
      refine go_bald rfl hc_5 ?_
      refine go_if_eq (t := 98) rfl rfl (fun hx_6 => ?_) (fun hx_6 => ?_)
      · rw [if_pos hx_6] at e
        refine go_forget (l := [some (.ref a0), some (.int v1), some (.int v2), some (.int v3)]) ⟨Or.inl rfl, Or.inl rfl, Or.inl rfl, Or.inl rfl, trivial⟩ ?_
        exact f_RM_open_J98_s F a0 v1 v2 v3 _ _ _ e
      · rw [if_neg hx_6] at e
        refine go_iinc (v := 1) rfl rfl (by decide) rfl ?_
        show Go k_RM_open 95 [some (.ref a0), some (.int v1), some (.int v2), some (.int (v3 + 1))] [] h _
        refine go_goto (t := 78) rfl rfl ?_
        refine go_forget (l := [some (.ref a0), some (.int v1), some (.int v2), some (.int (v3 + 1))]) ⟨Or.inl rfl, Or.inl rfl, Or.inl rfl, Or.inl rfl, trivial⟩ ?_
        exact ih _ _ _ _ _ _ _ e
    · rw [if_neg hx_1] at e
      refine go_forget (l := [some (.ref a0), some (.int v1), some (.int v2), some (.int v3)]) ⟨Or.inl rfl, Or.inl rfl, Or.inl rfl, Or.inl rfl, trivial⟩ ?_
      exact f_RM_open_J98_s F a0 v1 v2 v3 _ _ _ e
def f_RM_open_J64 (F : Nat)  (a0 : Nat) (v1 : Int32) (v2 : Int32) (h : ck_H) : Option (Int32 × ck_H) :=
  ck_as (gk h a0 = 12) <|
  ck_bd (f_RM_isBusy F a0 v2 v1 h) fun r2 h3 =>
  if r2 = (0 : Int32) then
    f_RM_open_L78 F F a0 v1 v2 0 h3
  else
    some ((-8), h3)
set_option maxRecDepth 100000 in
set_option maxHeartbeats 4000000 in
theorem f_RM_open_J64_s (F : Nat)   (a0 : Nat) (v1 : Int32) (v2 : Int32) (h : ck_H) (r : Int32) (h' : ck_H) (e : f_RM_open_J64 F  a0 v1 v2 h = some (r, h')) : Go k_RM_open 64 [some (.ref a0), some (.int v1), some (.int v2), none] [] h (some (.int r), h') := by
  unfold f_RM_open_J64 at e
  refine go_aload_n rfl rfl ?_
  refine go_iload_n rfl rfl ?_
  refine go_iload_n rfl rfl ?_
  replace e := ck_as_e e
  obtain ⟨hk_1, e⟩ := e
  replace e := ck_bd_e e
  obtain ⟨r2, h3, e4, e⟩ := e
  refine go_callV (As := [.int v2, .int v1]) (b0 := a0) (rest := []) rfl rfl ⟨hk_1, by decide⟩ rfl ⟨Nat.le_of_ble_eq_true rfl, Nat.le_of_ble_eq_true rfl, Nat.le_of_ble_eq_true rfl, Nat.le_of_ble_eq_true rfl⟩ (s_RM_isBusy e4) ?_
  show Go k_RM_open 70 [some (.ref a0), some (.int v1), some (.int v2), none] [.int r2] h3 _
  refine go_if_eq (t := 76) rfl rfl (fun hx_5 => ?_) (fun hx_5 => ?_)
  · rw [if_pos hx_5] at e
    refine go_iconst (v := 0) rfl (by decide) ?_
    refine go_istore_n rfl rfl ?_
    show Go k_RM_open 78 [some (.ref a0), some (.int v1), some (.int v2), some (.int 0)] [] h3 _
    refine go_forget (l := [some (.ref a0), some (.int v1), some (.int v2), some (.int 0)]) ⟨Or.inl rfl, Or.inl rfl, Or.inl rfl, Or.inl rfl, trivial⟩ ?_
    exact f_RM_open_L78_s F F _ _ _ _ _ _ _ e
  · rw [if_neg hx_5] at e
    refine go_bipush (v := (-8)) rfl (by decide) ?_
    cases e
    exact go_ret rfl rfl
def f_RM_open_J46 (F : Nat)  (a0 : Nat) (v1 : Int32) (v2 : Int32) (h : ck_H) : Option (Int32 × ck_H) :=
  ck_as (gk h a0 = 12) <|
  ck_some (gR h a0 35) fun b2 =>
  ck_as ((gk h b2 = 14 ∨ gk h b2 = 21) ∧ ¬ v2 < 0 ∧ (v2 : Int32).toNatClampNeg < gz h b2) <|
  if (gI h b2 (v2 : Int32).toNatClampNeg) = (3 : Int32) then
    if v1 = (1 : Int32) then
      some ((-3), h)
    else
      f_RM_open_J64 F a0 v1 v2 h
  else
    f_RM_open_J64 F a0 v1 v2 h
set_option maxRecDepth 100000 in
set_option maxHeartbeats 4000000 in
theorem f_RM_open_J46_s (F : Nat)   (a0 : Nat) (v1 : Int32) (v2 : Int32) (h : ck_H) (r : Int32) (h' : ck_H) (e : f_RM_open_J46 F  a0 v1 v2 h = some (r, h')) : Go k_RM_open 46 [some (.ref a0), some (.int v1), some (.int v2), none] [] h (some (.int r), h') := by
  unfold f_RM_open_J46 at e
  refine go_aload_n rfl rfl ?_
  replace e := ck_as_e e
  obtain ⟨hk_1, e⟩ := e
  replace e := ck_some_e e
  obtain ⟨b2, hq_3, e⟩ := e
  refine go_get (v := .ref b2) rfl rfl hk_1 (by decide) (by show va_rf (gR h a0 35) = _; rw [hq_3]; rfl) ?_
  refine go_iload_n rfl rfl ?_
  replace e := ck_as_e e
  obtain ⟨hc_4, e⟩ := e
  refine go_iald rfl hc_4 ?_
  refine go_iconst (v := 3) rfl (by decide) ?_
  refine go_icmp_ne (t := 64) rfl rfl (fun hx_5 => ?_) (fun hx_5 => ?_)
  · rw [if_pos hx_5] at e
    refine go_iload_n rfl rfl ?_
    refine go_iconst (v := 1) rfl (by decide) ?_
    refine go_icmp_ne (t := 64) rfl rfl (fun hx_6 => ?_) (fun hx_6 => ?_)
    · rw [if_pos hx_6] at e
      refine go_bipush (v := (-3)) rfl (by decide) ?_
      cases e
      exact go_ret rfl rfl
    · rw [if_neg hx_6] at e
      refine go_forget (l := [some (.ref a0), some (.int v1), some (.int v2), none]) ⟨Or.inl rfl, Or.inl rfl, Or.inl rfl, Or.inl rfl, trivial⟩ ?_
      exact f_RM_open_J64_s F a0 v1 v2 _ _ _ e
  · rw [if_neg hx_5] at e
    refine go_forget (l := [some (.ref a0), some (.int v1), some (.int v2), none]) ⟨Or.inl rfl, Or.inl rfl, Or.inl rfl, Or.inl rfl, trivial⟩ ?_
    exact f_RM_open_J64_s F a0 v1 v2 _ _ _ e
def f_RM_open (F : Nat) (a0 : Nat) (v1 : Int32) (h : ck_H) : Option (Int32 × ck_H) :=
  ck_as (gk h a0 = 12) <|
  ck_bd (f_RM_takeName F a0 h) fun _ h3 =>
  ck_bd (f_RM_in F ((v1 : Int32).toInt64) 0 2 h3) fun r5 h6 =>
  if r5 = (0 : Int32) then
    some ((-2), h6)
  else
    ck_as (gk h6 a0 = 12) <|
    ck_bd (f_RM_findSet F a0 h6) fun r10 h11 =>
    if r10 = ((-1) : Int32) then
      some ((-1), h11)
    else
      ck_as (gk h11 a0 = 12) <|
      ck_some (gR h11 a0 35) fun b15 =>
      ck_as ((gk h11 b15 = 14 ∨ gk h11 b15 = 21) ∧ ¬ r10 < 0 ∧ (r10 : Int32).toNatClampNeg < gz h11 b15) <|
      if (gI h11 b15 (r10 : Int32).toNatClampNeg) = (4 : Int32) then
        if v1 = (2 : Int32) then
          some ((-3), h11)
        else
          f_RM_open_J46 F a0 v1 r10 h11
      else
        f_RM_open_J46 F a0 v1 r10 h11
set_option maxRecDepth 100000 in
set_option maxHeartbeats 4000000 in
theorem s_RM_open {F : Nat} {a0 : Nat} {v1 : Int32} {h h' : ck_H} {r : Int32} (e : f_RM_open F a0 v1 h = some (r, h')) : Go k_RM_open 0 (ck_in [.ref a0, .int v1] 4) [] h (some (.int r), h') := by
  unfold f_RM_open at e
  show Go k_RM_open 0 [some (.ref a0), some (.int v1), none, none] [] h _
  refine go_aload_n rfl rfl ?_
  replace e := ck_as_e e
  obtain ⟨hk_1, e⟩ := e
  replace e := ck_bd_e e
  obtain ⟨r2, h3, e4, e⟩ := e
  refine go_callV (As := []) (b0 := a0) (rest := []) rfl rfl ⟨hk_1, by decide⟩ rfl ⟨Nat.le_of_ble_eq_true rfl, Nat.le_of_ble_eq_true rfl, Nat.le_of_ble_eq_true rfl, Nat.le_of_ble_eq_true rfl⟩ (s_RM_takeName e4) ?_
  show Go k_RM_open 4 [some (.ref a0), some (.int v1), none, none] [] h3 _
  refine go_iload_n rfl rfl ?_
  refine go_i2l rfl ?_
  refine go_lconst (v := 0) rfl (by decide) ?_
  refine go_ldc2 (v := 2) rfl rfl ?_
  replace e := ck_bd_e e
  obtain ⟨r5, h6, e7, e⟩ := e
  refine go_callS (As := [.long ((v1 : Int32).toInt64), .long 0, .long 2]) (rest := []) rfl rfl rfl ⟨Nat.le_of_ble_eq_true rfl, Nat.le_of_ble_eq_true rfl, Nat.le_of_ble_eq_true rfl, Nat.le_of_ble_eq_true rfl⟩ (s_RM_in e7) ?_
  show Go k_RM_open 13 [some (.ref a0), some (.int v1), none, none] [.int r5] h6 _
  refine go_if_ne (t := 19) rfl rfl (fun hx_8 => ?_) (fun hx_8 => ?_)
  · rw [if_pos hx_8] at e
    refine go_bipush (v := (-2)) rfl (by decide) ?_
    cases e
    exact go_ret rfl rfl
  · rw [if_neg hx_8] at e
    refine go_aload_n rfl rfl ?_
    replace e := ck_as_e e
    obtain ⟨hk_9, e⟩ := e
    replace e := ck_bd_e e
    obtain ⟨r10, h11, e12, e⟩ := e
    refine go_callV (As := []) (b0 := a0) (rest := []) rfl rfl ⟨hk_9, by decide⟩ rfl ⟨Nat.le_of_ble_eq_true rfl, Nat.le_of_ble_eq_true rfl, Nat.le_of_ble_eq_true rfl, Nat.le_of_ble_eq_true rfl⟩ (s_RM_findSet e12) ?_
    show Go k_RM_open 23 [some (.ref a0), some (.int v1), none, none] [.int r10] h11 _
    refine go_istore_n rfl rfl ?_
    show Go k_RM_open 24 [some (.ref a0), some (.int v1), some (.int r10), none] [] h11 _
    refine go_iload_n rfl rfl ?_
    refine go_iconst (v := (-1)) rfl (by decide) ?_
    refine go_icmp_ne (t := 31) rfl rfl (fun hx_13 => ?_) (fun hx_13 => ?_)
    · rw [if_pos hx_13] at e
      refine go_iconst (v := (-1)) rfl (by decide) ?_
      cases e
      exact go_ret rfl rfl
    · rw [if_neg hx_13] at e
      refine go_aload_n rfl rfl ?_
      replace e := ck_as_e e
      obtain ⟨hk_14, e⟩ := e
      replace e := ck_some_e e
      obtain ⟨b15, hq_16, e⟩ := e
      refine go_get (v := .ref b15) rfl rfl hk_14 (by decide) (by show va_rf (gR h11 a0 35) = _; rw [hq_16]; rfl) ?_
      refine go_iload_n rfl rfl ?_
      replace e := ck_as_e e
      obtain ⟨hc_17, e⟩ := e
      refine go_iald rfl hc_17 ?_
      refine go_iconst (v := 4) rfl (by decide) ?_
      refine go_icmp_ne (t := 46) rfl rfl (fun hx_18 => ?_) (fun hx_18 => ?_)
      · rw [if_pos hx_18] at e
        refine go_iload_n rfl rfl ?_
        refine go_iconst (v := 2) rfl (by decide) ?_
        refine go_icmp_eq (t := 61) rfl rfl (fun hx_19 => ?_) (fun hx_19 => ?_)
        · rw [if_pos hx_19] at e
          refine go_bipush (v := (-3)) rfl (by decide) ?_
          cases e
          exact go_ret rfl rfl
        · rw [if_neg hx_19] at e
          refine go_forget (l := [some (.ref a0), some (.int v1), some (.int r10), none]) ⟨Or.inl rfl, Or.inl rfl, Or.inl rfl, Or.inl rfl, trivial⟩ ?_
          exact f_RM_open_J46_s F a0 v1 r10 _ _ _ e
      · rw [if_neg hx_18] at e
        refine go_forget (l := [some (.ref a0), some (.int v1), some (.int r10), none]) ⟨Or.inl rfl, Or.inl rfl, Or.inl rfl, Or.inl rfl, trivial⟩ ?_
        exact f_RM_open_J46_s F a0 v1 r10 _ _ _ e
def f_RM_isHandle (F : Nat) (a0 : Nat) (v1 : Int32) (h : ck_H) : Option (Int32 × ck_H) :=
  ck_bd (f_RM_in F ((v1 : Int32).toInt64) 0 3 h) fun r1 h2 =>
  if r1 = (0 : Int32) then
    some (0, h2)
  else
    ck_as (gk h2 a0 = 12) <|
    ck_some (gR h2 a0 49) fun b6 =>
    ck_as ((gk h2 b6 = 13 ∨ gk h2 b6 = 15) ∧ ¬ v1 < 0 ∧ (v1 : Int32).toNatClampNeg < gz h2 b6) <|
    if (gI h2 b6 (v1 : Int32).toNatClampNeg) = (0 : Int32) then
      some (0, h2)
    else
      some (1, h2)
set_option maxRecDepth 100000 in
set_option maxHeartbeats 4000000 in
theorem s_RM_isHandle {F : Nat} {a0 : Nat} {v1 : Int32} {h h' : ck_H} {r : Int32} (e : f_RM_isHandle F a0 v1 h = some (r, h')) : Go k_RM_isHandle 0 (ck_in [.ref a0, .int v1] 2) [] h (some (.int r), h') := by
  unfold f_RM_isHandle at e
  show Go k_RM_isHandle 0 [some (.ref a0), some (.int v1)] [] h _
  refine go_iload_n rfl rfl ?_
  refine go_i2l rfl ?_
  refine go_lconst (v := 0) rfl (by decide) ?_
  refine go_ldc2 (v := 3) rfl rfl ?_
  replace e := ck_bd_e e
  obtain ⟨r1, h2, e3, e⟩ := e
  refine go_callS (As := [.long ((v1 : Int32).toInt64), .long 0, .long 3]) (rest := []) rfl rfl rfl ⟨Nat.le_of_ble_eq_true rfl, Nat.le_of_ble_eq_true rfl, Nat.le_of_ble_eq_true rfl, Nat.le_of_ble_eq_true rfl⟩ (s_RM_in e3) ?_
  show Go k_RM_isHandle 9 [some (.ref a0), some (.int v1)] [.int r1] h2 _
  refine go_if_eq (t := 25) rfl rfl (fun hx_4 => ?_) (fun hx_4 => ?_)
  · rw [if_pos hx_4] at e
    refine go_iconst (v := 0) rfl (by decide) ?_
    cases e
    exact go_ret rfl (ck_rvb rfl (Or.inl rfl))
  · rw [if_neg hx_4] at e
    refine go_aload_n rfl rfl ?_
    replace e := ck_as_e e
    obtain ⟨hk_5, e⟩ := e
    replace e := ck_some_e e
    obtain ⟨b6, hq_7, e⟩ := e
    refine go_get (v := .ref b6) rfl rfl hk_5 (by decide) (by show va_rf (gR h2 a0 49) = _; rw [hq_7]; rfl) ?_
    refine go_iload_n rfl rfl ?_
    replace e := ck_as_e e
    obtain ⟨hc_8, e⟩ := e
    refine go_bald rfl hc_8 ?_
    refine go_if_eq (t := 25) rfl rfl (fun hx_9 => ?_) (fun hx_9 => ?_)
    · rw [if_pos hx_9] at e
      refine go_iconst (v := 0) rfl (by decide) ?_
      cases e
      exact go_ret rfl (ck_rvb rfl (Or.inl rfl))
    · rw [if_neg hx_9] at e
      refine go_iconst (v := 1) rfl (by decide) ?_
      refine go_goto (t := 26) rfl rfl ?_
      cases e
      exact go_ret rfl (ck_rvb rfl (Or.inr rfl))
def f_RM_hasRoom (F : Nat) (a0 : Nat) (v1 : Int32) (v2 : Int32) (h : ck_H) : Option (Int32 × ck_H) :=
  ck_as (gk h a0 = 12) <|
  ck_bd (f_RM_lastEnd F a0 v1 h) fun r2 h3 =>
  if (1500 : Int32) < ((r2 + 30) + v2) then
    some (0, h3)
  else
    some (1, h3)
set_option maxRecDepth 100000 in
set_option maxHeartbeats 4000000 in
theorem s_RM_hasRoom {F : Nat} {a0 : Nat} {v1 : Int32} {v2 : Int32} {h h' : ck_H} {r : Int32} (e : f_RM_hasRoom F a0 v1 v2 h = some (r, h')) : Go k_RM_hasRoom 0 (ck_in [.ref a0, .int v1, .int v2] 3) [] h (some (.int r), h') := by
  unfold f_RM_hasRoom at e
  show Go k_RM_hasRoom 0 [some (.ref a0), some (.int v1), some (.int v2)] [] h _
  refine go_aload_n rfl rfl ?_
  refine go_iload_n rfl rfl ?_
  replace e := ck_as_e e
  obtain ⟨hk_1, e⟩ := e
  replace e := ck_bd_e e
  obtain ⟨r2, h3, e4, e⟩ := e
  refine go_callV (As := [.int v1]) (b0 := a0) (rest := []) rfl rfl ⟨hk_1, by decide⟩ rfl ⟨Nat.le_of_ble_eq_true rfl, Nat.le_of_ble_eq_true rfl, Nat.le_of_ble_eq_true rfl, Nat.le_of_ble_eq_true rfl⟩ (s_RM_lastEnd e4) ?_
  show Go k_RM_hasRoom 5 [some (.ref a0), some (.int v1), some (.int v2)] [.int r2] h3 _
  refine go_bipush (v := 30) rfl (by decide) ?_
  refine go_iadd rfl ?_
  refine go_iload_n rfl rfl ?_
  refine go_iadd rfl ?_
  refine go_sipush (v := 1500) rfl (by decide) ?_
  refine go_icmp_gt (t := 20) rfl rfl (fun hx_5 => ?_) (fun hx_5 => ?_)
  · rw [if_pos hx_5] at e
    refine go_iconst (v := 0) rfl (by decide) ?_
    cases e
    exact go_ret rfl (ck_rvb rfl (Or.inl rfl))
  · rw [if_neg hx_5] at e
    refine go_iconst (v := 1) rfl (by decide) ?_
    refine go_goto (t := 21) rfl rfl ?_
    cases e
    exact go_ret rfl (ck_rvb rfl (Or.inr rfl))
def f_RM_writeBlock_L82 (F : Nat)  : Nat → Nat → Int32 → Int32 → Int32 → Int32 → Int32 → ck_H → Option (Unit × ck_H)
  | 0, _, _, _, _, _, _, _ => none
  | n + 1, a0, v1, v3, v4, v5, v6, h =>
    ck_as (gk h a0 = 12) <|
    ck_some (gR h a0 54) fun b2 =>
    ck_as ((gk h b2 = 14 ∨ gk h b2 = 21) ∧ ¬ v1 < 0 ∧ (v1 : Int32).toNatClampNeg < gz h b2) <|
    if v6 < (gI h b2 (v1 : Int32).toNatClampNeg) then
      ck_some (gR h a0 0) fun b6 =>
      ck_bd (f_RM_dataAt F a0 v4 v5 h) fun r8 h9 =>
      ck_as (gk h9 a0 = 12) <|
      ck_some (gR h9 a0 53) fun b12 =>
      ck_as ((gk h9 b12 = 13 ∨ gk h9 b12 = 15) ∧ ¬ ((1200 * v1) + v6) < 0 ∧ ((1200 * v1) + v6 : Int32).toNatClampNeg < gz h9 b12) <|
      ck_as (gk h9 b6 = 13 ∧ ¬ (r8 + v6) < 0 ∧ (r8 + v6 : Int32).toNatClampNeg < gz h9 b6) <|
      ck_then (wI h9 b6 (r8 + v6 : Int32).toNatClampNeg (gI h9 b12 ((1200 * v1) + v6 : Int32).toNatClampNeg : Int32).toInt8.toInt32) fun h16 =>
      f_RM_writeBlock_L82 F n a0 v1 v3 v4 v5 (v6 + 1) h16
    else
      ck_some (gR h a0 55) fun b18 =>
      ck_as (gk h b18 = 14 ∧ ¬ v1 < 0 ∧ (v1 : Int32).toNatClampNeg < gz h b18) <|
      ck_then (wI h b18 (v1 : Int32).toNatClampNeg v3) fun h21 =>
      ck_some (gR h21 a0 56) fun b23 =>
      ck_as ((gk h21 b23 = 14 ∨ gk h21 b23 = 21) ∧ ¬ v1 < 0 ∧ (v1 : Int32).toNatClampNeg < gz h21 b23) <|
      if (gI h21 b23 (v1 : Int32).toNatClampNeg) = (0 : Int32) then
        ck_some (gR h21 a0 57) fun b27 =>
        ck_as (gk h21 b27 = 14 ∧ ¬ v1 < 0 ∧ (v1 : Int32).toNatClampNeg < gz h21 b27) <|
        ck_then (wI h21 b27 (v1 : Int32).toNatClampNeg v3) fun h30 =>
        ck_some (gR h30 a0 58) fun b32 =>
        ck_as (gk h30 b32 = 14 ∧ ¬ v1 < 0 ∧ (v1 : Int32).toNatClampNeg < gz h30 b32) <|
        ck_then (wI h30 b32 (v1 : Int32).toNatClampNeg (v5 + 1)) fun h35 =>
        ck_some (gR h35 a0 56) fun b37 =>
        ck_as ((gk h35 b37 = 14 ∨ gk h35 b37 = 21) ∧ ¬ v1 < 0 ∧ (v1 : Int32).toNatClampNeg < gz h35 b37) <|
        ck_as (gk h35 b37 = 14 ∧ ¬ v1 < 0 ∧ (v1 : Int32).toNatClampNeg < gz h35 b37) <|
        ck_then (wI h35 b37 (v1 : Int32).toNatClampNeg ((gI h35 b37 (v1 : Int32).toNatClampNeg) + 1)) fun h41 =>
        ck_some (gR h41 a0 54) fun b43 =>
        ck_as (gk h41 b43 = 14 ∧ ¬ v1 < 0 ∧ (v1 : Int32).toNatClampNeg < gz h41 b43) <|
        ck_then (wI h41 b43 (v1 : Int32).toNatClampNeg 0) fun h46 =>
        some ((), h46)
      else
        ck_some (gR h21 a0 56) fun b48 =>
        ck_as ((gk h21 b48 = 14 ∨ gk h21 b48 = 21) ∧ ¬ v1 < 0 ∧ (v1 : Int32).toNatClampNeg < gz h21 b48) <|
        ck_as (gk h21 b48 = 14 ∧ ¬ v1 < 0 ∧ (v1 : Int32).toNatClampNeg < gz h21 b48) <|
        ck_then (wI h21 b48 (v1 : Int32).toNatClampNeg ((gI h21 b48 (v1 : Int32).toNatClampNeg) + 1)) fun h52 =>
        ck_some (gR h52 a0 54) fun b54 =>
        ck_as (gk h52 b54 = 14 ∧ ¬ v1 < 0 ∧ (v1 : Int32).toNatClampNeg < gz h52 b54) <|
        ck_then (wI h52 b54 (v1 : Int32).toNatClampNeg 0) fun h57 =>
        some ((), h57)
set_option maxRecDepth 100000 in
set_option maxHeartbeats 4000000 in
theorem f_RM_writeBlock_L82_s (F : Nat)   : ∀ (n : Nat) (a0 : Nat) (v1 : Int32) (v3 : Int32) (v4 : Int32) (v5 : Int32) (v6 : Int32) (h : ck_H) (r : Unit) (h' : ck_H), f_RM_writeBlock_L82 F n a0 v1 v3 v4 v5 v6 h = some (r, h') → Go k_RM_writeBlock 82 [some (.ref a0), some (.int v1), none, some (.int v3), some (.int v4), some (.int v5), some (.int v6)] [] h (none, h') := by
  intro n
  induction n with
  | zero => intro a0 v1 v3 v4 v5 v6 h r h' e; simp only [f_RM_writeBlock_L82] at e; cases e
  | succ n ih =>
    intro a0 v1 v3 v4 v5 v6 h r h' e
    rw [f_RM_writeBlock_L82] at e
    refine go_iload rfl rfl ?_
    refine go_aload_n rfl rfl ?_
    replace e := ck_as_e e
    obtain ⟨hk_1, e⟩ := e
    replace e := ck_some_e e
    obtain ⟨b2, hq_3, e⟩ := e
    refine go_get (v := .ref b2) rfl rfl hk_1 (by decide) (by show va_rf (gR h a0 54) = _; rw [hq_3]; rfl) ?_
    refine go_iload_n rfl rfl ?_
    replace e := ck_as_e e
    obtain ⟨hc_4, e⟩ := e
    refine go_iald rfl hc_4 ?_
    refine go_icmp_ge (t := 128) rfl rfl (fun hx_5 => ?_) (fun hx_5 => ?_)
    · rw [if_pos hx_5] at e
      refine go_aload_n rfl rfl ?_
      replace e := ck_some_e e
      obtain ⟨b6, hq_7, e⟩ := e
      refine go_get (v := .ref b6) rfl rfl hk_1 (by decide) (by show va_rf (gR h a0 0) = _; rw [hq_7]; rfl) ?_
      refine go_aload_n rfl rfl ?_
      refine go_iload rfl rfl ?_
      refine go_iload rfl rfl ?_
      replace e := ck_bd_e e
      obtain ⟨r8, h9, e10, e⟩ := e
      refine go_callV (As := [.int v4, .int v5]) (b0 := a0) (rest := [.ref b6]) rfl rfl ⟨hk_1, by decide⟩ rfl ⟨Nat.le_of_ble_eq_true rfl, Nat.le_of_ble_eq_true rfl, Nat.le_of_ble_eq_true rfl, Nat.le_of_ble_eq_true rfl⟩ (s_RM_dataAt e10) ?_
      show Go k_RM_writeBlock 105 [some (.ref a0), some (.int v1), none, some (.int v3), some (.int v4), some (.int v5), some (.int v6)] [.int r8, .ref b6] h9 _
      refine go_iload rfl rfl ?_
      refine go_iadd rfl ?_
      refine go_aload_n rfl rfl ?_
      replace e := ck_as_e e
      obtain ⟨hk_11, e⟩ := e
      replace e := ck_some_e e
      obtain ⟨b12, hq_13, e⟩ := e
      refine go_get (v := .ref b12) rfl rfl hk_11 (by decide) (by show va_rf (gR h9 a0 53) = _; rw [hq_13]; rfl) ?_
      refine go_sipush (v := 1200) rfl (by decide) ?_
      refine go_iload_n rfl rfl ?_
      refine go_imul rfl ?_
      refine go_iload rfl rfl ?_
      refine go_iadd rfl ?_
      replace e := ck_as_e e
      obtain ⟨hc_14, e⟩ := e
      refine go_bald rfl hc_14 ?_
      replace e := ck_as_e e
      obtain ⟨hc_15, e⟩ := e
      refine go_bast rfl hc_15 ?_
      have hk_17 : gk (wI h9 b6 (r8 + v6 : Int32).toNatClampNeg (gI h9 b12 ((1200 * v1) + v6 : Int32).toNatClampNeg : Int32).toInt8.toInt32) a0 = 12 := ck_kI.trans hk_11
      generalize wI h9 b6 (r8 + v6 : Int32).toNatClampNeg (gI h9 b12 ((1200 * v1) + v6 : Int32).toNatClampNeg : Int32).toInt8.toInt32 = h16 at e hk_17 ⊢
      replace e := ck_then_e e
      refine go_iinc (v := 1) rfl rfl (by decide) rfl ?_
      show Go k_RM_writeBlock 125 [some (.ref a0), some (.int v1), none, some (.int v3), some (.int v4), some (.int v5), some (.int (v6 + 1))] [] h16 _
      refine go_goto (t := 82) rfl rfl ?_
      refine go_forget (l := [some (.ref a0), some (.int v1), none, some (.int v3), some (.int v4), some (.int v5), some (.int (v6 + 1))]) ⟨Or.inl rfl, Or.inl rfl, Or.inl rfl, Or.inl rfl, Or.inl rfl, Or.inl rfl, Or.inl rfl, trivial⟩ ?_
      exact ih _ _ _ _ _ _ _ _ _ e
    · rw [if_neg hx_5] at e
      refine go_aload_n rfl rfl ?_
      replace e := ck_some_e e
      obtain ⟨b18, hq_19, e⟩ := e
      refine go_get (v := .ref b18) rfl rfl hk_1 (by decide) (by show va_rf (gR h a0 55) = _; rw [hq_19]; rfl) ?_
      refine go_iload_n rfl rfl ?_
      refine go_iload_n rfl rfl ?_
      replace e := ck_as_e e
      obtain ⟨hc_20, e⟩ := e
      refine go_iast rfl hc_20 ?_
      have hk_22 : gk (wI h b18 (v1 : Int32).toNatClampNeg v3) a0 = 12 := ck_kI.trans hk_1
      generalize wI h b18 (v1 : Int32).toNatClampNeg v3 = h21 at e hk_22 ⊢
      replace e := ck_then_e e
      refine go_aload_n rfl rfl ?_
      replace e := ck_some_e e
      obtain ⟨b23, hq_24, e⟩ := e
      refine go_get (v := .ref b23) rfl rfl hk_22 (by decide) (by show va_rf (gR h21 a0 56) = _; rw [hq_24]; rfl) ?_
      refine go_iload_n rfl rfl ?_
      replace e := ck_as_e e
      obtain ⟨hc_25, e⟩ := e
      refine go_iald rfl hc_25 ?_
      refine go_if_ne (t := 161) rfl rfl (fun hx_26 => ?_) (fun hx_26 => ?_)
      · rw [if_pos hx_26] at e
        refine go_aload_n rfl rfl ?_
        replace e := ck_some_e e
        obtain ⟨b27, hq_28, e⟩ := e
        refine go_get (v := .ref b27) rfl rfl hk_22 (by decide) (by show va_rf (gR h21 a0 57) = _; rw [hq_28]; rfl) ?_
        refine go_iload_n rfl rfl ?_
        refine go_iload_n rfl rfl ?_
        replace e := ck_as_e e
        obtain ⟨hc_29, e⟩ := e
        refine go_iast rfl hc_29 ?_
        have hk_31 : gk (wI h21 b27 (v1 : Int32).toNatClampNeg v3) a0 = 12 := ck_kI.trans hk_22
        generalize wI h21 b27 (v1 : Int32).toNatClampNeg v3 = h30 at e hk_31 ⊢
        replace e := ck_then_e e
        refine go_aload_n rfl rfl ?_
        replace e := ck_some_e e
        obtain ⟨b32, hq_33, e⟩ := e
        refine go_get (v := .ref b32) rfl rfl hk_31 (by decide) (by show va_rf (gR h30 a0 58) = _; rw [hq_33]; rfl) ?_
        refine go_iload_n rfl rfl ?_
        refine go_iload rfl rfl ?_
        refine go_iconst (v := 1) rfl (by decide) ?_
        refine go_iadd rfl ?_
        replace e := ck_as_e e
        obtain ⟨hc_34, e⟩ := e
        refine go_iast rfl hc_34 ?_
        have hk_36 : gk (wI h30 b32 (v1 : Int32).toNatClampNeg (v5 + 1)) a0 = 12 := ck_kI.trans hk_31
        generalize wI h30 b32 (v1 : Int32).toNatClampNeg (v5 + 1) = h35 at e hk_36 ⊢
        replace e := ck_then_e e
        refine go_aload_n rfl rfl ?_
        replace e := ck_some_e e
        obtain ⟨b37, hq_38, e⟩ := e
        refine go_get (v := .ref b37) rfl rfl hk_36 (by decide) (by show va_rf (gR h35 a0 56) = _; rw [hq_38]; rfl) ?_
        refine go_iload_n rfl rfl ?_
        refine go_dup2 rfl rfl rfl ?_
        replace e := ck_as_e e
        obtain ⟨hc_39, e⟩ := e
        refine go_iald rfl hc_39 ?_
        refine go_iconst (v := 1) rfl (by decide) ?_
        refine go_iadd rfl ?_
        replace e := ck_as_e e
        obtain ⟨hc_40, e⟩ := e
        refine go_iast rfl hc_40 ?_
        have hk_42 : gk (wI h35 b37 (v1 : Int32).toNatClampNeg ((gI h35 b37 (v1 : Int32).toNatClampNeg) + 1)) a0 = 12 := ck_kI.trans hk_36
        generalize wI h35 b37 (v1 : Int32).toNatClampNeg ((gI h35 b37 (v1 : Int32).toNatClampNeg) + 1) = h41 at e hk_42 ⊢
        replace e := ck_then_e e
        refine go_aload_n rfl rfl ?_
        replace e := ck_some_e e
        obtain ⟨b43, hq_44, e⟩ := e
        refine go_get (v := .ref b43) rfl rfl hk_42 (by decide) (by show va_rf (gR h41 a0 54) = _; rw [hq_44]; rfl) ?_
        refine go_iload_n rfl rfl ?_
        refine go_iconst (v := 0) rfl (by decide) ?_
        replace e := ck_as_e e
        obtain ⟨hc_45, e⟩ := e
        refine go_iast rfl hc_45 ?_
        have hk_47 : gk (wI h41 b43 (v1 : Int32).toNatClampNeg 0) a0 = 12 := ck_kI.trans hk_42
        generalize wI h41 b43 (v1 : Int32).toNatClampNeg 0 = h46 at e hk_47 ⊢
        replace e := ck_then_e e
        cases e
        exact go_ret rfl rfl
      · rw [if_neg hx_26] at e
        refine go_aload_n rfl rfl ?_
        replace e := ck_some_e e
        obtain ⟨b48, hq_49, e⟩ := e
        refine go_get (v := .ref b48) rfl rfl hk_22 (by decide) (by show va_rf (gR h21 a0 56) = _; rw [hq_49]; rfl) ?_
        refine go_iload_n rfl rfl ?_
        refine go_dup2 rfl rfl rfl ?_
        replace e := ck_as_e e
        obtain ⟨hc_50, e⟩ := e
        refine go_iald rfl hc_50 ?_
        refine go_iconst (v := 1) rfl (by decide) ?_
        refine go_iadd rfl ?_
        replace e := ck_as_e e
        obtain ⟨hc_51, e⟩ := e
        refine go_iast rfl hc_51 ?_
        have hk_53 : gk (wI h21 b48 (v1 : Int32).toNatClampNeg ((gI h21 b48 (v1 : Int32).toNatClampNeg) + 1)) a0 = 12 := ck_kI.trans hk_22
        generalize wI h21 b48 (v1 : Int32).toNatClampNeg ((gI h21 b48 (v1 : Int32).toNatClampNeg) + 1) = h52 at e hk_53 ⊢
        replace e := ck_then_e e
        refine go_aload_n rfl rfl ?_
        replace e := ck_some_e e
        obtain ⟨b54, hq_55, e⟩ := e
        refine go_get (v := .ref b54) rfl rfl hk_53 (by decide) (by show va_rf (gR h52 a0 54) = _; rw [hq_55]; rfl) ?_
        refine go_iload_n rfl rfl ?_
        refine go_iconst (v := 0) rfl (by decide) ?_
        replace e := ck_as_e e
        obtain ⟨hc_56, e⟩ := e
        refine go_iast rfl hc_56 ?_
        have hk_58 : gk (wI h52 b54 (v1 : Int32).toNatClampNeg 0) a0 = 12 := ck_kI.trans hk_53
        generalize wI h52 b54 (v1 : Int32).toNatClampNeg 0 = h57 at e hk_58 ⊢
        replace e := ck_then_e e
        cases e
        exact go_ret rfl rfl
def f_RM_writeBlock_L14 (F : Nat)  : Nat → Nat → Int32 → Int32 → Int32 → ck_H → Option (Unit × ck_H)
  | 0, _, _, _, _, _ => none
  | n + 1, a0, v1, v2, v3, h =>
    ck_as (gk h a0 = 12) <|
    ck_bd (f_RM_trackOf F a0 v2 v3 h) fun r2 h3 =>
    ck_as (gk h3 a0 = 12) <|
    ck_some (gR h3 a0 54) fun b6 =>
    ck_as ((gk h3 b6 = 14 ∨ gk h3 b6 = 21) ∧ ¬ v1 < 0 ∧ (v1 : Int32).toNatClampNeg < gz h3 b6) <|
    ck_bd (f_RM_hasRoom F a0 r2 (gI h3 b6 (v1 : Int32).toNatClampNeg) h3) fun r9 h10 =>
    if r9 = (0 : Int32) then
      f_RM_writeBlock_L14 F n a0 v1 v2 (v3 + 1) h10
    else
      ck_as (gk h10 a0 = 12) <|
      ck_bd (f_RM_trackOf F a0 v2 v3 h10) fun r14 h15 =>
      ck_as (gk h15 a0 = 12) <|
      ck_some (gR h15 a0 1) fun b18 =>
      ck_as ((gk h15 b18 = 14 ∨ gk h15 b18 = 21) ∧ ¬ r14 < 0 ∧ (r14 : Int32).toNatClampNeg < gz h15 b18) <|
      ck_some (gR h15 a0 54) fun b21 =>
      ck_as ((gk h15 b21 = 14 ∨ gk h15 b21 = 21) ∧ ¬ v1 < 0 ∧ (v1 : Int32).toNatClampNeg < gz h15 b21) <|
      ck_bd (f_RM_add F a0 r14 (r14 / 4) (r14 - r14 / 4 * 4) ((gI h15 b18 (r14 : Int32).toNatClampNeg) + 1) 0 (gI h15 b21 (v1 : Int32).toNatClampNeg) h15) fun r24 h25 =>
      f_RM_writeBlock_L82 F F a0 v1 v3 r14 r24 0 h25
set_option maxRecDepth 100000 in
set_option maxHeartbeats 4000000 in
theorem f_RM_writeBlock_L14_s (F : Nat)   : ∀ (n : Nat) (a0 : Nat) (v1 : Int32) (v2 : Int32) (v3 : Int32) (h : ck_H) (r : Unit) (h' : ck_H), f_RM_writeBlock_L14 F n a0 v1 v2 v3 h = some (r, h') → Go k_RM_writeBlock 14 [some (.ref a0), some (.int v1), some (.int v2), some (.int v3), none, none, none] [] h (none, h') := by
  intro n
  induction n with
  | zero => intro a0 v1 v2 v3 h r h' e; simp only [f_RM_writeBlock_L14] at e; cases e
  | succ n ih =>
    intro a0 v1 v2 v3 h r h' e
    rw [f_RM_writeBlock_L14] at e
    refine go_aload_n rfl rfl ?_
    refine go_aload_n rfl rfl ?_
    refine go_iload_n rfl rfl ?_
    refine go_iload_n rfl rfl ?_
    replace e := ck_as_e e
    obtain ⟨hk_1, e⟩ := e
    replace e := ck_bd_e e
    obtain ⟨r2, h3, e4, e⟩ := e
    refine go_callV (As := [.int v2, .int v3]) (b0 := a0) (rest := [.ref a0]) rfl rfl ⟨hk_1, by decide⟩ rfl ⟨Nat.le_of_ble_eq_true rfl, Nat.le_of_ble_eq_true rfl, Nat.le_of_ble_eq_true rfl, Nat.le_of_ble_eq_true rfl⟩ (s_RM_trackOf e4) ?_
    show Go k_RM_writeBlock 21 [some (.ref a0), some (.int v1), some (.int v2), some (.int v3), none, none, none] [.int r2, .ref a0] h3 _
    refine go_aload_n rfl rfl ?_
    replace e := ck_as_e e
    obtain ⟨hk_5, e⟩ := e
    replace e := ck_some_e e
    obtain ⟨b6, hq_7, e⟩ := e
    refine go_get (v := .ref b6) rfl rfl hk_5 (by decide) (by show va_rf (gR h3 a0 54) = _; rw [hq_7]; rfl) ?_
    refine go_iload_n rfl rfl ?_
    replace e := ck_as_e e
    obtain ⟨hc_8, e⟩ := e
    refine go_iald rfl hc_8 ?_
    replace e := ck_bd_e e
    obtain ⟨r9, h10, e11, e⟩ := e
    refine go_callV (As := [.int r2, .int (gI h3 b6 (v1 : Int32).toNatClampNeg)]) (b0 := a0) (rest := []) rfl rfl ⟨hk_5, by decide⟩ rfl ⟨Nat.le_of_ble_eq_true rfl, Nat.le_of_ble_eq_true rfl, Nat.le_of_ble_eq_true rfl, Nat.le_of_ble_eq_true rfl⟩ (s_RM_hasRoom e11) ?_
    show Go k_RM_writeBlock 30 [some (.ref a0), some (.int v1), some (.int v2), some (.int v3), none, none, none] [.int r9] h10 _
    refine go_if_ne (t := 39) rfl rfl (fun hx_12 => ?_) (fun hx_12 => ?_)
    · rw [if_pos hx_12] at e
      refine go_iinc (v := 1) rfl rfl (by decide) rfl ?_
      show Go k_RM_writeBlock 36 [some (.ref a0), some (.int v1), some (.int v2), some (.int (v3 + 1)), none, none, none] [] h10 _
      refine go_goto (t := 14) rfl rfl ?_
      refine go_forget (l := [some (.ref a0), some (.int v1), some (.int v2), some (.int (v3 + 1)), none, none, none]) ⟨Or.inl rfl, Or.inl rfl, Or.inl rfl, Or.inl rfl, Or.inl rfl, Or.inl rfl, Or.inl rfl, trivial⟩ ?_
      exact ih _ _ _ _ _ _ _ e
    · rw [if_neg hx_12] at e
      refine go_aload_n rfl rfl ?_
      refine go_iload_n rfl rfl ?_
      refine go_iload_n rfl rfl ?_
      replace e := ck_as_e e
      obtain ⟨hk_13, e⟩ := e
      replace e := ck_bd_e e
      obtain ⟨r14, h15, e16, e⟩ := e
      refine go_callV (As := [.int v2, .int v3]) (b0 := a0) (rest := []) rfl rfl ⟨hk_13, by decide⟩ rfl ⟨Nat.le_of_ble_eq_true rfl, Nat.le_of_ble_eq_true rfl, Nat.le_of_ble_eq_true rfl, Nat.le_of_ble_eq_true rfl⟩ (s_RM_trackOf e16) ?_
      show Go k_RM_writeBlock 45 [some (.ref a0), some (.int v1), some (.int v2), some (.int v3), none, none, none] [.int r14] h15 _
      refine go_istore rfl rfl ?_
      show Go k_RM_writeBlock 47 [some (.ref a0), some (.int v1), some (.int v2), some (.int v3), some (.int r14), none, none] [] h15 _
      refine go_aload_n rfl rfl ?_
      refine go_iload rfl rfl ?_
      refine go_iload rfl rfl ?_
      refine go_iconst (v := 4) rfl (by decide) ?_
      refine go_idiv rfl (by decide) ?_
      refine go_iload rfl rfl ?_
      refine go_iconst (v := 4) rfl (by decide) ?_
      refine go_irem rfl (by decide) ?_
      refine go_aload_n rfl rfl ?_
      replace e := ck_as_e e
      obtain ⟨hk_17, e⟩ := e
      replace e := ck_some_e e
      obtain ⟨b18, hq_19, e⟩ := e
      refine go_get (v := .ref b18) rfl rfl hk_17 (by decide) (by show va_rf (gR h15 a0 1) = _; rw [hq_19]; rfl) ?_
      refine go_iload rfl rfl ?_
      replace e := ck_as_e e
      obtain ⟨hc_20, e⟩ := e
      refine go_iald rfl hc_20 ?_
      refine go_iconst (v := 1) rfl (by decide) ?_
      refine go_iadd rfl ?_
      refine go_iconst (v := 0) rfl (by decide) ?_
      refine go_aload_n rfl rfl ?_
      replace e := ck_some_e e
      obtain ⟨b21, hq_22, e⟩ := e
      refine go_get (v := .ref b21) rfl rfl hk_17 (by decide) (by show va_rf (gR h15 a0 54) = _; rw [hq_22]; rfl) ?_
      refine go_iload_n rfl rfl ?_
      replace e := ck_as_e e
      obtain ⟨hc_23, e⟩ := e
      refine go_iald rfl hc_23 ?_
      replace e := ck_bd_e e
      obtain ⟨r24, h25, e26, e⟩ := e
      refine go_callV (As := [.int r14, .int (r14 / 4), .int (r14 - r14 / 4 * 4), .int ((gI h15 b18 (r14 : Int32).toNatClampNeg) + 1), .int 0, .int (gI h15 b21 (v1 : Int32).toNatClampNeg)]) (b0 := a0) (rest := []) rfl rfl ⟨hk_17, by decide⟩ rfl ⟨Nat.le_of_ble_eq_true rfl, Nat.le_of_ble_eq_true rfl, Nat.le_of_ble_eq_true rfl, Nat.le_of_ble_eq_true rfl⟩ (s_RM_add e26) ?_
      show Go k_RM_writeBlock 77 [some (.ref a0), some (.int v1), some (.int v2), some (.int v3), some (.int r14), none, none] [.int r24] h25 _
      refine go_istore rfl rfl ?_
      show Go k_RM_writeBlock 79 [some (.ref a0), some (.int v1), some (.int v2), some (.int v3), some (.int r14), some (.int r24), none] [] h25 _
      refine go_iconst (v := 0) rfl (by decide) ?_
      refine go_istore rfl rfl ?_
      show Go k_RM_writeBlock 82 [some (.ref a0), some (.int v1), some (.int v2), some (.int v3), some (.int r14), some (.int r24), some (.int 0)] [] h25 _
      refine go_forget (l := [some (.ref a0), some (.int v1), none, some (.int v3), some (.int r14), some (.int r24), some (.int 0)]) ⟨Or.inl rfl, Or.inl rfl, Or.inr ⟨rfl, fun _ q => by cases q; rfl⟩, Or.inl rfl, Or.inl rfl, Or.inl rfl, Or.inl rfl, trivial⟩ ?_
      exact f_RM_writeBlock_L82_s F F _ _ _ _ _ _ _ _ _ e
def f_RM_writeBlock (F : Nat) (a0 : Nat) (v1 : Int32) (h : ck_H) : Option (Unit × ck_H) :=
  ck_as (gk h a0 = 12) <|
  ck_some (gR h a0 50) fun b2 =>
  ck_as ((gk h b2 = 14 ∨ gk h b2 = 21) ∧ ¬ v1 < 0 ∧ (v1 : Int32).toNatClampNeg < gz h b2) <|
  ck_then (gI h b2 (v1 : Int32).toNatClampNeg) fun x5 =>
  ck_some (gR h a0 55) fun b6 =>
  ck_as ((gk h b6 = 14 ∨ gk h b6 = 21) ∧ ¬ v1 < 0 ∧ (v1 : Int32).toNatClampNeg < gz h b6) <|
  ck_then (gI h b6 (v1 : Int32).toNatClampNeg) fun x9 =>
  f_RM_writeBlock_L14 F F a0 v1 x5 x9 h
set_option maxRecDepth 100000 in
set_option maxHeartbeats 4000000 in
theorem s_RM_writeBlock {F : Nat} {a0 : Nat} {v1 : Int32} {h h' : ck_H} {r : Unit} (e : f_RM_writeBlock F a0 v1 h = some (r, h')) : Go k_RM_writeBlock 0 (ck_in [.ref a0, .int v1] 7) [] h (none, h') := by
  unfold f_RM_writeBlock at e
  show Go k_RM_writeBlock 0 [some (.ref a0), some (.int v1), none, none, none, none, none] [] h _
  refine go_aload_n rfl rfl ?_
  replace e := ck_as_e e
  obtain ⟨hk_1, e⟩ := e
  replace e := ck_some_e e
  obtain ⟨b2, hq_3, e⟩ := e
  refine go_get (v := .ref b2) rfl rfl hk_1 (by decide) (by show va_rf (gR h a0 50) = _; rw [hq_3]; rfl) ?_
  refine go_iload_n rfl rfl ?_
  replace e := ck_as_e e
  obtain ⟨hc_4, e⟩ := e
  refine go_iald rfl hc_4 ?_
  generalize gI h b2 (v1 : Int32).toNatClampNeg = x5 at e ⊢
  replace e := ck_then_e e
  refine go_istore_n rfl rfl ?_
  show Go k_RM_writeBlock 7 [some (.ref a0), some (.int v1), some (.int x5), none, none, none, none] [] h _
  refine go_aload_n rfl rfl ?_
  replace e := ck_some_e e
  obtain ⟨b6, hq_7, e⟩ := e
  refine go_get (v := .ref b6) rfl rfl hk_1 (by decide) (by show va_rf (gR h a0 55) = _; rw [hq_7]; rfl) ?_
  refine go_iload_n rfl rfl ?_
  replace e := ck_as_e e
  obtain ⟨hc_8, e⟩ := e
  refine go_iald rfl hc_8 ?_
  generalize gI h b6 (v1 : Int32).toNatClampNeg = x9 at e ⊢
  replace e := ck_then_e e
  refine go_istore_n rfl rfl ?_
  show Go k_RM_writeBlock 14 [some (.ref a0), some (.int v1), some (.int x5), some (.int x9), none, none, none] [] h _
  refine go_forget (l := [some (.ref a0), some (.int v1), some (.int x5), some (.int x9), none, none, none]) ⟨Or.inl rfl, Or.inl rfl, Or.inl rfl, Or.inl rfl, Or.inl rfl, Or.inl rfl, Or.inl rfl, trivial⟩ ?_
  exact f_RM_writeBlock_L14_s F F _ _ _ _ _ _ _ e
def f_RM_close (F : Nat) (a0 : Nat) (v1 : Int32) (h : ck_H) : Option (Int32 × ck_H) :=
  ck_as (gk h a0 = 12) <|
  ck_bd (f_RM_isHandle F a0 v1 h) fun r2 h3 =>
  if r2 = (0 : Int32) then
    some ((-1), h3)
  else
    ck_as (gk h3 a0 = 12) <|
    ck_some (gR h3 a0 51) fun b7 =>
    ck_as ((gk h3 b7 = 14 ∨ gk h3 b7 = 21) ∧ ¬ v1 < 0 ∧ (v1 : Int32).toNatClampNeg < gz h3 b7) <|
    if (gI h3 b7 (v1 : Int32).toNatClampNeg) = (1 : Int32) then
      ck_some (gR h3 a0 35) fun b11 =>
      ck_some (gR h3 a0 50) fun b13 =>
      ck_as ((gk h3 b13 = 14 ∨ gk h3 b13 = 21) ∧ ¬ v1 < 0 ∧ (v1 : Int32).toNatClampNeg < gz h3 b13) <|
      ck_as ((gk h3 b11 = 14 ∨ gk h3 b11 = 21) ∧ ¬ (gI h3 b13 (v1 : Int32).toNatClampNeg) < 0 ∧ (gI h3 b13 (v1 : Int32).toNatClampNeg : Int32).toNatClampNeg < gz h3 b11) <|
      if (gI h3 b11 (gI h3 b13 (v1 : Int32).toNatClampNeg : Int32).toNatClampNeg) = (4 : Int32) then
        ck_some (gR h3 a0 49) fun b18 =>
        ck_as (gk h3 b18 = 15 ∧ ((0 : Int32) = 0 ∨ (0 : Int32) = 1) ∧ ¬ v1 < 0 ∧ (v1 : Int32).toNatClampNeg < gz h3 b18) <|
        ck_then (wI h3 b18 (v1 : Int32).toNatClampNeg 0) fun h21 =>
        some (1, h21)
      else
        ck_some (gR h3 a0 54) fun b23 =>
        ck_as ((gk h3 b23 = 14 ∨ gk h3 b23 = 21) ∧ ¬ v1 < 0 ∧ (v1 : Int32).toNatClampNeg < gz h3 b23) <|
        if (0 : Int32) < (gI h3 b23 (v1 : Int32).toNatClampNeg) then
          ck_bd (f_RM_writeBlock F a0 v1 h3) fun _ h28 =>
          ck_as (gk h28 a0 = 12) <|
          ck_some (gR h28 a0 49) fun b31 =>
          ck_as (gk h28 b31 = 15 ∧ ((0 : Int32) = 0 ∨ (0 : Int32) = 1) ∧ ¬ v1 < 0 ∧ (v1 : Int32).toNatClampNeg < gz h28 b31) <|
          ck_then (wI h28 b31 (v1 : Int32).toNatClampNeg 0) fun h34 =>
          some (1, h34)
        else
          ck_some (gR h3 a0 49) fun b36 =>
          ck_as (gk h3 b36 = 15 ∧ ((0 : Int32) = 0 ∨ (0 : Int32) = 1) ∧ ¬ v1 < 0 ∧ (v1 : Int32).toNatClampNeg < gz h3 b36) <|
          ck_then (wI h3 b36 (v1 : Int32).toNatClampNeg 0) fun h39 =>
          some (1, h39)
    else
      ck_some (gR h3 a0 49) fun b41 =>
      ck_as (gk h3 b41 = 15 ∧ ((0 : Int32) = 0 ∨ (0 : Int32) = 1) ∧ ¬ v1 < 0 ∧ (v1 : Int32).toNatClampNeg < gz h3 b41) <|
      ck_then (wI h3 b41 (v1 : Int32).toNatClampNeg 0) fun h44 =>
      some (1, h44)
set_option maxRecDepth 100000 in
set_option maxHeartbeats 4000000 in
theorem s_RM_close {F : Nat} {a0 : Nat} {v1 : Int32} {h h' : ck_H} {r : Int32} (e : f_RM_close F a0 v1 h = some (r, h')) : Go k_RM_close 0 (ck_in [.ref a0, .int v1] 2) [] h (some (.int r), h') := by
  unfold f_RM_close at e
  show Go k_RM_close 0 [some (.ref a0), some (.int v1)] [] h _
  refine go_aload_n rfl rfl ?_
  refine go_iload_n rfl rfl ?_
  replace e := ck_as_e e
  obtain ⟨hk_1, e⟩ := e
  replace e := ck_bd_e e
  obtain ⟨r2, h3, e4, e⟩ := e
  refine go_callV (As := [.int v1]) (b0 := a0) (rest := []) rfl rfl ⟨hk_1, by decide⟩ rfl ⟨Nat.le_of_ble_eq_true rfl, Nat.le_of_ble_eq_true rfl, Nat.le_of_ble_eq_true rfl, Nat.le_of_ble_eq_true rfl⟩ (s_RM_isHandle e4) ?_
  show Go k_RM_close 5 [some (.ref a0), some (.int v1)] [.int r2] h3 _
  refine go_if_ne (t := 10) rfl rfl (fun hx_5 => ?_) (fun hx_5 => ?_)
  · rw [if_pos hx_5] at e
    refine go_iconst (v := (-1)) rfl (by decide) ?_
    cases e
    exact go_ret rfl rfl
  · rw [if_neg hx_5] at e
    refine go_aload_n rfl rfl ?_
    replace e := ck_as_e e
    obtain ⟨hk_6, e⟩ := e
    replace e := ck_some_e e
    obtain ⟨b7, hq_8, e⟩ := e
    refine go_get (v := .ref b7) rfl rfl hk_6 (by decide) (by show va_rf (gR h3 a0 51) = _; rw [hq_8]; rfl) ?_
    refine go_iload_n rfl rfl ?_
    replace e := ck_as_e e
    obtain ⟨hc_9, e⟩ := e
    refine go_iald rfl hc_9 ?_
    refine go_iconst (v := 1) rfl (by decide) ?_
    refine go_icmp_ne (t := 49) rfl rfl (fun hx_10 => ?_) (fun hx_10 => ?_)
    · rw [if_pos hx_10] at e
      refine go_aload_n rfl rfl ?_
      replace e := ck_some_e e
      obtain ⟨b11, hq_12, e⟩ := e
      refine go_get (v := .ref b11) rfl rfl hk_6 (by decide) (by show va_rf (gR h3 a0 35) = _; rw [hq_12]; rfl) ?_
      refine go_aload_n rfl rfl ?_
      replace e := ck_some_e e
      obtain ⟨b13, hq_14, e⟩ := e
      refine go_get (v := .ref b13) rfl rfl hk_6 (by decide) (by show va_rf (gR h3 a0 50) = _; rw [hq_14]; rfl) ?_
      refine go_iload_n rfl rfl ?_
      replace e := ck_as_e e
      obtain ⟨hc_15, e⟩ := e
      refine go_iald rfl hc_15 ?_
      replace e := ck_as_e e
      obtain ⟨hc_16, e⟩ := e
      refine go_iald rfl hc_16 ?_
      refine go_iconst (v := 4) rfl (by decide) ?_
      refine go_icmp_eq (t := 49) rfl rfl (fun hx_17 => ?_) (fun hx_17 => ?_)
      · rw [if_pos hx_17] at e
        refine go_aload_n rfl rfl ?_
        replace e := ck_some_e e
        obtain ⟨b18, hq_19, e⟩ := e
        refine go_get (v := .ref b18) rfl rfl hk_6 (by decide) (by show va_rf (gR h3 a0 49) = _; rw [hq_19]; rfl) ?_
        refine go_iload_n rfl rfl ?_
        refine go_iconst (v := 0) rfl (by decide) ?_
        replace e := ck_as_e e
        obtain ⟨hc_20, e⟩ := e
        refine go_zast rfl hc_20 ?_
        have hk_22 : gk (wI h3 b18 (v1 : Int32).toNatClampNeg 0) a0 = 12 := ck_kI.trans hk_6
        generalize wI h3 b18 (v1 : Int32).toNatClampNeg 0 = h21 at e hk_22 ⊢
        replace e := ck_then_e e
        refine go_iconst (v := 1) rfl (by decide) ?_
        cases e
        exact go_ret rfl rfl
      · rw [if_neg hx_17] at e
        refine go_aload_n rfl rfl ?_
        replace e := ck_some_e e
        obtain ⟨b23, hq_24, e⟩ := e
        refine go_get (v := .ref b23) rfl rfl hk_6 (by decide) (by show va_rf (gR h3 a0 54) = _; rw [hq_24]; rfl) ?_
        refine go_iload_n rfl rfl ?_
        replace e := ck_as_e e
        obtain ⟨hc_25, e⟩ := e
        refine go_iald rfl hc_25 ?_
        refine go_if_le (t := 49) rfl rfl (fun hx_26 => ?_) (fun hx_26 => ?_)
        · rw [if_pos hx_26] at e
          refine go_aload_n rfl rfl ?_
          refine go_iload_n rfl rfl ?_
          replace e := ck_bd_e e
          obtain ⟨r27, h28, e29, e⟩ := e
          refine go_callV (As := [.int v1]) (b0 := a0) (rest := []) rfl rfl ⟨hk_6, by decide⟩ rfl ⟨Nat.le_of_ble_eq_true rfl, Nat.le_of_ble_eq_true rfl, Nat.le_of_ble_eq_true rfl, Nat.le_of_ble_eq_true rfl⟩ (s_RM_writeBlock e29) ?_
          show Go k_RM_close 49 [some (.ref a0), some (.int v1)] [] h28 _
          refine go_aload_n rfl rfl ?_
          replace e := ck_as_e e
          obtain ⟨hk_30, e⟩ := e
          replace e := ck_some_e e
          obtain ⟨b31, hq_32, e⟩ := e
          refine go_get (v := .ref b31) rfl rfl hk_30 (by decide) (by show va_rf (gR h28 a0 49) = _; rw [hq_32]; rfl) ?_
          refine go_iload_n rfl rfl ?_
          refine go_iconst (v := 0) rfl (by decide) ?_
          replace e := ck_as_e e
          obtain ⟨hc_33, e⟩ := e
          refine go_zast rfl hc_33 ?_
          have hk_35 : gk (wI h28 b31 (v1 : Int32).toNatClampNeg 0) a0 = 12 := ck_kI.trans hk_30
          generalize wI h28 b31 (v1 : Int32).toNatClampNeg 0 = h34 at e hk_35 ⊢
          replace e := ck_then_e e
          refine go_iconst (v := 1) rfl (by decide) ?_
          cases e
          exact go_ret rfl rfl
        · rw [if_neg hx_26] at e
          refine go_aload_n rfl rfl ?_
          replace e := ck_some_e e
          obtain ⟨b36, hq_37, e⟩ := e
          refine go_get (v := .ref b36) rfl rfl hk_6 (by decide) (by show va_rf (gR h3 a0 49) = _; rw [hq_37]; rfl) ?_
          refine go_iload_n rfl rfl ?_
          refine go_iconst (v := 0) rfl (by decide) ?_
          replace e := ck_as_e e
          obtain ⟨hc_38, e⟩ := e
          refine go_zast rfl hc_38 ?_
          have hk_40 : gk (wI h3 b36 (v1 : Int32).toNatClampNeg 0) a0 = 12 := ck_kI.trans hk_6
          generalize wI h3 b36 (v1 : Int32).toNatClampNeg 0 = h39 at e hk_40 ⊢
          replace e := ck_then_e e
          refine go_iconst (v := 1) rfl (by decide) ?_
          cases e
          exact go_ret rfl rfl
    · rw [if_neg hx_10] at e
      refine go_aload_n rfl rfl ?_
      replace e := ck_some_e e
      obtain ⟨b41, hq_42, e⟩ := e
      refine go_get (v := .ref b41) rfl rfl hk_6 (by decide) (by show va_rf (gR h3 a0 49) = _; rw [hq_42]; rfl) ?_
      refine go_iload_n rfl rfl ?_
      refine go_iconst (v := 0) rfl (by decide) ?_
      replace e := ck_as_e e
      obtain ⟨hc_43, e⟩ := e
      refine go_zast rfl hc_43 ?_
      have hk_45 : gk (wI h3 b41 (v1 : Int32).toNatClampNeg 0) a0 = 12 := ck_kI.trans hk_6
      generalize wI h3 b41 (v1 : Int32).toNatClampNeg 0 = h44 at e hk_45 ⊢
      replace e := ck_then_e e
      refine go_iconst (v := 1) rfl (by decide) ?_
      cases e
      exact go_ret rfl rfl
def f_RM_think (F : Nat) (a0 : Nat) (v1 : Int32) (h : ck_H) : Option (Unit × ck_H) :=
  ck_as (gk h a0 = 12) <|
  ck_some (gR h a0 55) fun b2 =>
  ck_as ((gk h b2 = 14 ∨ gk h b2 = 21) ∧ ¬ v1 < 0 ∧ (v1 : Int32).toNatClampNeg < gz h b2) <|
  ck_then (wI h a0 73 (gI h b2 (v1 : Int32).toNatClampNeg)) fun h5 =>
  ck_some (gR h5 a0 50) fun b7 =>
  ck_as ((gk h5 b7 = 14 ∨ gk h5 b7 = 21) ∧ ¬ v1 < 0 ∧ (v1 : Int32).toNatClampNeg < gz h5 b7) <|
  ck_bd (f_RM_trackOf F a0 (gI h5 b7 (v1 : Int32).toNatClampNeg) (gI h5 a0 73) h5) fun r10 h11 =>
  ck_as (gk h11 a0 = 12) <|
  ck_bd (f_RM_lastEnd F a0 r10 h11) fun r14 h15 =>
  ck_as (gk h15 a0 = 12) <|
  ck_then (wI h15 a0 74 r14) fun h18 =>
  some ((), h18)
set_option maxRecDepth 100000 in
set_option maxHeartbeats 4000000 in
theorem s_RM_think {F : Nat} {a0 : Nat} {v1 : Int32} {h h' : ck_H} {r : Unit} (e : f_RM_think F a0 v1 h = some (r, h')) : Go k_RM_think 0 (ck_in [.ref a0, .int v1] 2) [] h (none, h') := by
  unfold f_RM_think at e
  show Go k_RM_think 0 [some (.ref a0), some (.int v1)] [] h _
  refine go_aload_n rfl rfl ?_
  refine go_aload_n rfl rfl ?_
  replace e := ck_as_e e
  obtain ⟨hk_1, e⟩ := e
  replace e := ck_some_e e
  obtain ⟨b2, hq_3, e⟩ := e
  refine go_get (v := .ref b2) rfl rfl hk_1 (by decide) (by show va_rf (gR h a0 55) = _; rw [hq_3]; rfl) ?_
  refine go_iload_n rfl rfl ?_
  replace e := ck_as_e e
  obtain ⟨hc_4, e⟩ := e
  refine go_iald rfl hc_4 ?_
  refine go_put (h1 := wI h a0 73 (gI h b2 (v1 : Int32).toNatClampNeg)) rfl rfl hk_1 ⟨by decide, by decide, Or.inl rfl⟩ rfl ?_
  have hk_6 : gk (wI h a0 73 (gI h b2 (v1 : Int32).toNatClampNeg)) a0 = 12 := ck_kI.trans hk_1
  generalize wI h a0 73 (gI h b2 (v1 : Int32).toNatClampNeg) = h5 at e hk_6 ⊢
  replace e := ck_then_e e
  refine go_aload_n rfl rfl ?_
  refine go_aload_n rfl rfl ?_
  refine go_aload_n rfl rfl ?_
  refine go_aload_n rfl rfl ?_
  replace e := ck_some_e e
  obtain ⟨b7, hq_8, e⟩ := e
  refine go_get (v := .ref b7) rfl rfl hk_6 (by decide) (by show va_rf (gR h5 a0 50) = _; rw [hq_8]; rfl) ?_
  refine go_iload_n rfl rfl ?_
  replace e := ck_as_e e
  obtain ⟨hc_9, e⟩ := e
  refine go_iald rfl hc_9 ?_
  refine go_aload_n rfl rfl ?_
  refine go_get (v := .int (gI h5 a0 73)) rfl rfl hk_6 (by decide) rfl ?_
  replace e := ck_bd_e e
  obtain ⟨r10, h11, e12, e⟩ := e
  refine go_callV (As := [.int (gI h5 b7 (v1 : Int32).toNatClampNeg), .int (gI h5 a0 73)]) (b0 := a0) (rest := [.ref a0, .ref a0]) rfl rfl ⟨hk_6, by decide⟩ rfl ⟨Nat.le_of_ble_eq_true rfl, Nat.le_of_ble_eq_true rfl, Nat.le_of_ble_eq_true rfl, Nat.le_of_ble_eq_true rfl⟩ (s_RM_trackOf e12) ?_
  show Go k_RM_think 26 [some (.ref a0), some (.int v1)] [.int r10, .ref a0, .ref a0] h11 _
  replace e := ck_as_e e
  obtain ⟨hk_13, e⟩ := e
  replace e := ck_bd_e e
  obtain ⟨r14, h15, e16, e⟩ := e
  refine go_callV (As := [.int r10]) (b0 := a0) (rest := [.ref a0]) rfl rfl ⟨hk_13, by decide⟩ rfl ⟨Nat.le_of_ble_eq_true rfl, Nat.le_of_ble_eq_true rfl, Nat.le_of_ble_eq_true rfl, Nat.le_of_ble_eq_true rfl⟩ (s_RM_lastEnd e16) ?_
  show Go k_RM_think 29 [some (.ref a0), some (.int v1)] [.int r14, .ref a0] h15 _
  replace e := ck_as_e e
  obtain ⟨hk_17, e⟩ := e
  refine go_put (h1 := wI h15 a0 74 r14) rfl rfl hk_17 ⟨by decide, by decide, Or.inl rfl⟩ rfl ?_
  have hk_19 : gk (wI h15 a0 74 r14) a0 = 12 := ck_kI.trans hk_17
  generalize wI h15 a0 74 r14 = h18 at e hk_19 ⊢
  replace e := ck_then_e e
  cases e
  exact go_ret rfl rfl
def f_RM_fits_L7 (F : Nat)  : Nat → Nat → Int32 → Int32 → ck_H → Option (Int32 × ck_H)
  | 0, _, _, _, _ => none
  | n + 1, a0, v2, v3, h =>
    ck_as (gk h a0 = 12) <|
    if (1500 : Int32) < (((gI h a0 74) + 30) + v2) then
      ck_then (wI h a0 73 ((gI h a0 73) + 1)) fun h3 =>
      ck_bd (f_RM_tracksOf F a0 v3 h3) fun r5 h6 =>
      if (gI h3 a0 73) < r5 then
        ck_as (gk h6 a0 = 12) <|
        ck_bd (f_RM_trackOf F a0 v3 (gI h6 a0 73) h6) fun r10 h11 =>
        ck_as (gk h11 a0 = 12) <|
        ck_bd (f_RM_lastEnd F a0 r10 h11) fun r14 h15 =>
        ck_as (gk h15 a0 = 12) <|
        ck_then (wI h15 a0 74 r14) fun h18 =>
        f_RM_fits_L7 F n a0 v2 v3 h18
      else
        some (0, h6)
    else
      ck_then (wI h a0 74 ((gI h a0 74) + (30 + v2))) fun h20 =>
      some (1, h20)
set_option maxRecDepth 100000 in
set_option maxHeartbeats 4000000 in
theorem f_RM_fits_L7_s (F : Nat)   : ∀ (n : Nat) (a0 : Nat) (v2 : Int32) (v3 : Int32) (h : ck_H) (r : Int32) (h' : ck_H), f_RM_fits_L7 F n a0 v2 v3 h = some (r, h') → Go k_RM_fits 7 [some (.ref a0), none, some (.int v2), some (.int v3)] [] h (some (.int r), h') := by
  intro n
  induction n with
  | zero => intro a0 v2 v3 h r h' e; simp only [f_RM_fits_L7] at e; cases e
  | succ n ih =>
    intro a0 v2 v3 h r h' e
    rw [f_RM_fits_L7] at e
    refine go_aload_n rfl rfl ?_
    replace e := ck_as_e e
    obtain ⟨hk_1, e⟩ := e
    refine go_get (v := .int (gI h a0 74)) rfl rfl hk_1 (by decide) rfl ?_
    refine go_bipush (v := 30) rfl (by decide) ?_
    refine go_iadd rfl ?_
    refine go_iload_n rfl rfl ?_
    refine go_iadd rfl ?_
    refine go_sipush (v := 1500) rfl (by decide) ?_
    refine go_icmp_le (t := 66) rfl rfl (fun hx_2 => ?_) (fun hx_2 => ?_)
    · rw [if_pos hx_2] at e
      refine go_aload_n rfl rfl ?_
      refine go_dup rfl rfl ?_
      refine go_get (v := .int (gI h a0 73)) rfl rfl hk_1 (by decide) rfl ?_
      refine go_iconst (v := 1) rfl (by decide) ?_
      refine go_iadd rfl ?_
      refine go_put (h1 := wI h a0 73 ((gI h a0 73) + 1)) rfl rfl hk_1 ⟨by decide, by decide, Or.inl rfl⟩ rfl ?_
      have hk_4 : gk (wI h a0 73 ((gI h a0 73) + 1)) a0 = 12 := ck_kI.trans hk_1
      generalize wI h a0 73 ((gI h a0 73) + 1) = h3 at e hk_4 ⊢
      replace e := ck_then_e e
      refine go_aload_n rfl rfl ?_
      refine go_get (v := .int (gI h3 a0 73)) rfl rfl hk_4 (by decide) rfl ?_
      refine go_aload_n rfl rfl ?_
      refine go_iload_n rfl rfl ?_
      replace e := ck_bd_e e
      obtain ⟨r5, h6, e7, e⟩ := e
      refine go_callV (As := [.int v3]) (b0 := a0) (rest := [.int (gI h3 a0 73)]) rfl rfl ⟨hk_4, by decide⟩ rfl ⟨Nat.le_of_ble_eq_true rfl, Nat.le_of_ble_eq_true rfl, Nat.le_of_ble_eq_true rfl, Nat.le_of_ble_eq_true rfl⟩ (s_RM_tracksOf e7) ?_
      show Go k_RM_fits 41 [some (.ref a0), none, some (.int v2), some (.int v3)] [.int r5, .int (gI h3 a0 73)] h6 _
      refine go_icmp_lt (t := 46) rfl rfl (fun hx_8 => ?_) (fun hx_8 => ?_)
      · rw [if_pos hx_8] at e
        refine go_aload_n rfl rfl ?_
        refine go_aload_n rfl rfl ?_
        refine go_aload_n rfl rfl ?_
        refine go_iload_n rfl rfl ?_
        refine go_aload_n rfl rfl ?_
        replace e := ck_as_e e
        obtain ⟨hk_9, e⟩ := e
        refine go_get (v := .int (gI h6 a0 73)) rfl rfl hk_9 (by decide) rfl ?_
        replace e := ck_bd_e e
        obtain ⟨r10, h11, e12, e⟩ := e
        refine go_callV (As := [.int v3, .int (gI h6 a0 73)]) (b0 := a0) (rest := [.ref a0, .ref a0]) rfl rfl ⟨hk_9, by decide⟩ rfl ⟨Nat.le_of_ble_eq_true rfl, Nat.le_of_ble_eq_true rfl, Nat.le_of_ble_eq_true rfl, Nat.le_of_ble_eq_true rfl⟩ (s_RM_trackOf e12) ?_
        show Go k_RM_fits 57 [some (.ref a0), none, some (.int v2), some (.int v3)] [.int r10, .ref a0, .ref a0] h11 _
        replace e := ck_as_e e
        obtain ⟨hk_13, e⟩ := e
        replace e := ck_bd_e e
        obtain ⟨r14, h15, e16, e⟩ := e
        refine go_callV (As := [.int r10]) (b0 := a0) (rest := [.ref a0]) rfl rfl ⟨hk_13, by decide⟩ rfl ⟨Nat.le_of_ble_eq_true rfl, Nat.le_of_ble_eq_true rfl, Nat.le_of_ble_eq_true rfl, Nat.le_of_ble_eq_true rfl⟩ (s_RM_lastEnd e16) ?_
        show Go k_RM_fits 60 [some (.ref a0), none, some (.int v2), some (.int v3)] [.int r14, .ref a0] h15 _
        replace e := ck_as_e e
        obtain ⟨hk_17, e⟩ := e
        refine go_put (h1 := wI h15 a0 74 r14) rfl rfl hk_17 ⟨by decide, by decide, Or.inl rfl⟩ rfl ?_
        have hk_19 : gk (wI h15 a0 74 r14) a0 = 12 := ck_kI.trans hk_17
        generalize wI h15 a0 74 r14 = h18 at e hk_19 ⊢
        replace e := ck_then_e e
        refine go_goto (t := 7) rfl rfl ?_
        refine go_forget (l := [some (.ref a0), none, some (.int v2), some (.int v3)]) ⟨Or.inl rfl, Or.inl rfl, Or.inl rfl, Or.inl rfl, trivial⟩ ?_
        exact ih _ _ _ _ _ _ e
      · rw [if_neg hx_8] at e
        refine go_iconst (v := 0) rfl (by decide) ?_
        cases e
        exact go_ret rfl (ck_rvb rfl (Or.inl rfl))
    · rw [if_neg hx_2] at e
      refine go_aload_n rfl rfl ?_
      refine go_dup rfl rfl ?_
      refine go_get (v := .int (gI h a0 74)) rfl rfl hk_1 (by decide) rfl ?_
      refine go_bipush (v := 30) rfl (by decide) ?_
      refine go_iload_n rfl rfl ?_
      refine go_iadd rfl ?_
      refine go_iadd rfl ?_
      refine go_put (h1 := wI h a0 74 ((gI h a0 74) + (30 + v2))) rfl rfl hk_1 ⟨by decide, by decide, Or.inl rfl⟩ rfl ?_
      have hk_21 : gk (wI h a0 74 ((gI h a0 74) + (30 + v2))) a0 = 12 := ck_kI.trans hk_1
      generalize wI h a0 74 ((gI h a0 74) + (30 + v2)) = h20 at e hk_21 ⊢
      replace e := ck_then_e e
      refine go_iconst (v := 1) rfl (by decide) ?_
      cases e
      exact go_ret rfl (ck_rvb rfl (Or.inr rfl))
def f_RM_fits (F : Nat) (a0 : Nat) (v1 : Int32) (v2 : Int32) (h : ck_H) : Option (Int32 × ck_H) :=
  ck_as (gk h a0 = 12) <|
  ck_some (gR h a0 50) fun b2 =>
  ck_as ((gk h b2 = 14 ∨ gk h b2 = 21) ∧ ¬ v1 < 0 ∧ (v1 : Int32).toNatClampNeg < gz h b2) <|
  ck_then (gI h b2 (v1 : Int32).toNatClampNeg) fun x5 =>
  f_RM_fits_L7 F F a0 v2 x5 h
set_option maxRecDepth 100000 in
set_option maxHeartbeats 4000000 in
theorem s_RM_fits {F : Nat} {a0 : Nat} {v1 : Int32} {v2 : Int32} {h h' : ck_H} {r : Int32} (e : f_RM_fits F a0 v1 v2 h = some (r, h')) : Go k_RM_fits 0 (ck_in [.ref a0, .int v1, .int v2] 4) [] h (some (.int r), h') := by
  unfold f_RM_fits at e
  show Go k_RM_fits 0 [some (.ref a0), some (.int v1), some (.int v2), none] [] h _
  refine go_aload_n rfl rfl ?_
  replace e := ck_as_e e
  obtain ⟨hk_1, e⟩ := e
  replace e := ck_some_e e
  obtain ⟨b2, hq_3, e⟩ := e
  refine go_get (v := .ref b2) rfl rfl hk_1 (by decide) (by show va_rf (gR h a0 50) = _; rw [hq_3]; rfl) ?_
  refine go_iload_n rfl rfl ?_
  replace e := ck_as_e e
  obtain ⟨hc_4, e⟩ := e
  refine go_iald rfl hc_4 ?_
  generalize gI h b2 (v1 : Int32).toNatClampNeg = x5 at e ⊢
  replace e := ck_then_e e
  refine go_istore_n rfl rfl ?_
  show Go k_RM_fits 7 [some (.ref a0), some (.int v1), some (.int v2), some (.int x5)] [] h _
  refine go_forget (l := [some (.ref a0), none, some (.int v2), some (.int x5)]) ⟨Or.inl rfl, Or.inr ⟨rfl, fun _ q => by cases q; rfl⟩, Or.inl rfl, Or.inl rfl, trivial⟩ ?_
  exact f_RM_fits_L7_s F F _ _ _ _ _ _ e
def f_RM_mayPutVariable (F : Nat) (a0 : Nat) (v1 : Int32) (v2 : Int32) (v3 : Int32) (h : ck_H) : Option (Int32 × ck_H) :=
  ck_as (gk h a0 = 12) <|
  ck_some (gR h a0 54) fun b2 =>
  ck_as ((gk h b2 = 14 ∨ gk h b2 = 21) ∧ ¬ v1 < 0 ∧ (v1 : Int32).toNatClampNeg < gz h b2) <|
  ck_then (gI h b2 (v1 : Int32).toNatClampNeg) fun x5 =>
  if (0 : Int32) < x5 then
    ck_some (gR h a0 37) fun b7 =>
    ck_as ((gk h b7 = 14 ∨ gk h b7 = 21) ∧ ¬ v2 < 0 ∧ (v2 : Int32).toNatClampNeg < gz h b7) <|
    if (gI h b7 (v2 : Int32).toNatClampNeg) < ((x5 + 2) + v3) then
      ck_bd (f_RM_fits F a0 v1 x5 h) fun r11 h12 =>
      if r11 = (0 : Int32) then
        some (0, h12)
      else
        if (0 : Int32) = (0 : Int32) then
          ck_as (gk h12 a0 = 12) <|
          ck_bd (f_RM_fits F a0 v1 ((2 + 2) + v3) h12) fun r17 h18 =>
          ck_as (r17 = 0 ∨ r17 = 1) <|
          some (r17, h18)
        else
          ck_as (gk h12 a0 = 12) <|
          ck_bd (f_RM_fits F a0 v1 ((0 + 2) + v3) h12) fun r22 h23 =>
          ck_as (r22 = 0 ∨ r22 = 1) <|
          some (r22, h23)
    else
      if x5 = (0 : Int32) then
        ck_bd (f_RM_fits F a0 v1 ((2 + 2) + v3) h) fun r27 h28 =>
        ck_as (r27 = 0 ∨ r27 = 1) <|
        some (r27, h28)
      else
        ck_bd (f_RM_fits F a0 v1 ((x5 + 2) + v3) h) fun r31 h32 =>
        ck_as (r31 = 0 ∨ r31 = 1) <|
        some (r31, h32)
  else
    if x5 = (0 : Int32) then
      ck_bd (f_RM_fits F a0 v1 ((2 + 2) + v3) h) fun r36 h37 =>
      ck_as (r36 = 0 ∨ r36 = 1) <|
      some (r36, h37)
    else
      ck_bd (f_RM_fits F a0 v1 ((x5 + 2) + v3) h) fun r40 h41 =>
      ck_as (r40 = 0 ∨ r40 = 1) <|
      some (r40, h41)
set_option maxRecDepth 100000 in
set_option maxHeartbeats 4000000 in
theorem s_RM_mayPutVariable {F : Nat} {a0 : Nat} {v1 : Int32} {v2 : Int32} {v3 : Int32} {h h' : ck_H} {r : Int32} (e : f_RM_mayPutVariable F a0 v1 v2 v3 h = some (r, h')) : Go k_RM_mayPutVariable 0 (ck_in [.ref a0, .int v1, .int v2, .int v3] 5) [] h (some (.int r), h') := by
  unfold f_RM_mayPutVariable at e
  show Go k_RM_mayPutVariable 0 [some (.ref a0), some (.int v1), some (.int v2), some (.int v3), none] [] h _
  refine go_aload_n rfl rfl ?_
  replace e := ck_as_e e
  obtain ⟨hk_1, e⟩ := e
  replace e := ck_some_e e
  obtain ⟨b2, hq_3, e⟩ := e
  refine go_get (v := .ref b2) rfl rfl hk_1 (by decide) (by show va_rf (gR h a0 54) = _; rw [hq_3]; rfl) ?_
  refine go_iload_n rfl rfl ?_
  replace e := ck_as_e e
  obtain ⟨hc_4, e⟩ := e
  refine go_iald rfl hc_4 ?_
  generalize gI h b2 (v1 : Int32).toNatClampNeg = x5 at e ⊢
  replace e := ck_then_e e
  refine go_istore rfl rfl ?_
  show Go k_RM_mayPutVariable 8 [some (.ref a0), some (.int v1), some (.int v2), some (.int v3), some (.int x5)] [] h _
  refine go_iload rfl rfl ?_
  refine go_if_le (t := 43) rfl rfl (fun hx_6 => ?_) (fun hx_6 => ?_)
  · rw [if_pos hx_6] at e
    refine go_iload rfl rfl ?_
    refine go_iconst (v := 2) rfl (by decide) ?_
    refine go_iadd rfl ?_
    refine go_iload_n rfl rfl ?_
    refine go_iadd rfl ?_
    refine go_aload_n rfl rfl ?_
    replace e := ck_some_e e
    obtain ⟨b7, hq_8, e⟩ := e
    refine go_get (v := .ref b7) rfl rfl hk_1 (by decide) (by show va_rf (gR h a0 37) = _; rw [hq_8]; rfl) ?_
    refine go_iload_n rfl rfl ?_
    replace e := ck_as_e e
    obtain ⟨hc_9, e⟩ := e
    refine go_iald rfl hc_9 ?_
    refine go_icmp_le (t := 43) rfl rfl (fun hx_10 => ?_) (fun hx_10 => ?_)
    · rw [if_pos hx_10] at e
      refine go_aload_n rfl rfl ?_
      refine go_iload_n rfl rfl ?_
      refine go_iload rfl rfl ?_
      replace e := ck_bd_e e
      obtain ⟨r11, h12, e13, e⟩ := e
      refine go_callV (As := [.int v1, .int x5]) (b0 := a0) (rest := []) rfl rfl ⟨hk_1, by decide⟩ rfl ⟨Nat.le_of_ble_eq_true rfl, Nat.le_of_ble_eq_true rfl, Nat.le_of_ble_eq_true rfl, Nat.le_of_ble_eq_true rfl⟩ (s_RM_fits e13) ?_
      show Go k_RM_mayPutVariable 35 [some (.ref a0), some (.int v1), some (.int v2), some (.int v3), some (.int x5)] [.int r11] h12 _
      refine go_if_ne (t := 40) rfl rfl (fun hx_14 => ?_) (fun hx_14 => ?_)
      · rw [if_pos hx_14] at e
        refine go_iconst (v := 0) rfl (by decide) ?_
        cases e
        exact go_ret rfl (ck_rvb rfl (Or.inl rfl))
      · rw [if_neg hx_14] at e
        refine go_iconst (v := 0) rfl (by decide) ?_
        refine go_istore rfl rfl ?_
        show Go k_RM_mayPutVariable 43 [some (.ref a0), some (.int v1), some (.int v2), some (.int v3), some (.int 0)] [] h12 _
        refine go_aload_n rfl rfl ?_
        refine go_iload_n rfl rfl ?_
        refine go_iload rfl rfl ?_
        refine go_if_ne (t := 54) rfl rfl (fun hx_15 => ?_) (fun hx_15 => ?_)
        · rw [if_pos hx_15] at e
          refine go_iconst (v := 2) rfl (by decide) ?_
          refine go_goto (t := 56) rfl rfl ?_
          refine go_iconst (v := 2) rfl (by decide) ?_
          refine go_iadd rfl ?_
          refine go_iload_n rfl rfl ?_
          refine go_iadd rfl ?_
          replace e := ck_as_e e
          obtain ⟨hk_16, e⟩ := e
          replace e := ck_bd_e e
          obtain ⟨r17, h18, e19, e⟩ := e
          refine go_callV (As := [.int v1, .int ((2 + 2) + v3)]) (b0 := a0) (rest := []) rfl rfl ⟨hk_16, by decide⟩ rfl ⟨Nat.le_of_ble_eq_true rfl, Nat.le_of_ble_eq_true rfl, Nat.le_of_ble_eq_true rfl, Nat.le_of_ble_eq_true rfl⟩ (s_RM_fits e19) ?_
          show Go k_RM_mayPutVariable 63 [some (.ref a0), some (.int v1), some (.int v2), some (.int v3), some (.int 0)] [.int r17] h18 _
          replace e := ck_as_e e
          obtain ⟨hc_20, e⟩ := e
          cases e
          exact go_ret rfl (ck_rvb rfl hc_20)
        · rw [if_neg hx_15] at e
          refine go_iload rfl rfl ?_
          refine go_iconst (v := 2) rfl (by decide) ?_
          refine go_iadd rfl ?_
          refine go_iload_n rfl rfl ?_
          refine go_iadd rfl ?_
          replace e := ck_as_e e
          obtain ⟨hk_21, e⟩ := e
          replace e := ck_bd_e e
          obtain ⟨r22, h23, e24, e⟩ := e
          refine go_callV (As := [.int v1, .int ((0 + 2) + v3)]) (b0 := a0) (rest := []) rfl rfl ⟨hk_21, by decide⟩ rfl ⟨Nat.le_of_ble_eq_true rfl, Nat.le_of_ble_eq_true rfl, Nat.le_of_ble_eq_true rfl, Nat.le_of_ble_eq_true rfl⟩ (s_RM_fits e24) ?_
          show Go k_RM_mayPutVariable 63 [some (.ref a0), some (.int v1), some (.int v2), some (.int v3), some (.int 0)] [.int r22] h23 _
          replace e := ck_as_e e
          obtain ⟨hc_25, e⟩ := e
          cases e
          exact go_ret rfl (ck_rvb rfl hc_25)
    · rw [if_neg hx_10] at e
      refine go_aload_n rfl rfl ?_
      refine go_iload_n rfl rfl ?_
      refine go_iload rfl rfl ?_
      refine go_if_ne (t := 54) rfl rfl (fun hx_26 => ?_) (fun hx_26 => ?_)
      · rw [if_pos hx_26] at e
        refine go_iconst (v := 2) rfl (by decide) ?_
        refine go_goto (t := 56) rfl rfl ?_
        refine go_iconst (v := 2) rfl (by decide) ?_
        refine go_iadd rfl ?_
        refine go_iload_n rfl rfl ?_
        refine go_iadd rfl ?_
        replace e := ck_bd_e e
        obtain ⟨r27, h28, e29, e⟩ := e
        refine go_callV (As := [.int v1, .int ((2 + 2) + v3)]) (b0 := a0) (rest := []) rfl rfl ⟨hk_1, by decide⟩ rfl ⟨Nat.le_of_ble_eq_true rfl, Nat.le_of_ble_eq_true rfl, Nat.le_of_ble_eq_true rfl, Nat.le_of_ble_eq_true rfl⟩ (s_RM_fits e29) ?_
        show Go k_RM_mayPutVariable 63 [some (.ref a0), some (.int v1), some (.int v2), some (.int v3), some (.int x5)] [.int r27] h28 _
        replace e := ck_as_e e
        obtain ⟨hc_30, e⟩ := e
        cases e
        exact go_ret rfl (ck_rvb rfl hc_30)
      · rw [if_neg hx_26] at e
        refine go_iload rfl rfl ?_
        refine go_iconst (v := 2) rfl (by decide) ?_
        refine go_iadd rfl ?_
        refine go_iload_n rfl rfl ?_
        refine go_iadd rfl ?_
        replace e := ck_bd_e e
        obtain ⟨r31, h32, e33, e⟩ := e
        refine go_callV (As := [.int v1, .int ((x5 + 2) + v3)]) (b0 := a0) (rest := []) rfl rfl ⟨hk_1, by decide⟩ rfl ⟨Nat.le_of_ble_eq_true rfl, Nat.le_of_ble_eq_true rfl, Nat.le_of_ble_eq_true rfl, Nat.le_of_ble_eq_true rfl⟩ (s_RM_fits e33) ?_
        show Go k_RM_mayPutVariable 63 [some (.ref a0), some (.int v1), some (.int v2), some (.int v3), some (.int x5)] [.int r31] h32 _
        replace e := ck_as_e e
        obtain ⟨hc_34, e⟩ := e
        cases e
        exact go_ret rfl (ck_rvb rfl hc_34)
  · rw [if_neg hx_6] at e
    refine go_aload_n rfl rfl ?_
    refine go_iload_n rfl rfl ?_
    refine go_iload rfl rfl ?_
    refine go_if_ne (t := 54) rfl rfl (fun hx_35 => ?_) (fun hx_35 => ?_)
    · rw [if_pos hx_35] at e
      refine go_iconst (v := 2) rfl (by decide) ?_
      refine go_goto (t := 56) rfl rfl ?_
      refine go_iconst (v := 2) rfl (by decide) ?_
      refine go_iadd rfl ?_
      refine go_iload_n rfl rfl ?_
      refine go_iadd rfl ?_
      replace e := ck_bd_e e
      obtain ⟨r36, h37, e38, e⟩ := e
      refine go_callV (As := [.int v1, .int ((2 + 2) + v3)]) (b0 := a0) (rest := []) rfl rfl ⟨hk_1, by decide⟩ rfl ⟨Nat.le_of_ble_eq_true rfl, Nat.le_of_ble_eq_true rfl, Nat.le_of_ble_eq_true rfl, Nat.le_of_ble_eq_true rfl⟩ (s_RM_fits e38) ?_
      show Go k_RM_mayPutVariable 63 [some (.ref a0), some (.int v1), some (.int v2), some (.int v3), some (.int x5)] [.int r36] h37 _
      replace e := ck_as_e e
      obtain ⟨hc_39, e⟩ := e
      cases e
      exact go_ret rfl (ck_rvb rfl hc_39)
    · rw [if_neg hx_35] at e
      refine go_iload rfl rfl ?_
      refine go_iconst (v := 2) rfl (by decide) ?_
      refine go_iadd rfl ?_
      refine go_iload_n rfl rfl ?_
      refine go_iadd rfl ?_
      replace e := ck_bd_e e
      obtain ⟨r40, h41, e42, e⟩ := e
      refine go_callV (As := [.int v1, .int ((x5 + 2) + v3)]) (b0 := a0) (rest := []) rfl rfl ⟨hk_1, by decide⟩ rfl ⟨Nat.le_of_ble_eq_true rfl, Nat.le_of_ble_eq_true rfl, Nat.le_of_ble_eq_true rfl, Nat.le_of_ble_eq_true rfl⟩ (s_RM_fits e42) ?_
      show Go k_RM_mayPutVariable 63 [some (.ref a0), some (.int v1), some (.int v2), some (.int v3), some (.int x5)] [.int r40] h41 _
      replace e := ck_as_e e
      obtain ⟨hc_43, e⟩ := e
      cases e
      exact go_ret rfl (ck_rvb rfl hc_43)
def f_RM_mayPutSpanned_J63 (F : Nat) (k14 : Nat → Int32 → Int32 → Int32 → Int32 → Int32 → Int32 → ck_H → Option (Int32 × ck_H)) (a0 : Nat) (v1 : Int32) (v2 : Int32) (v3 : Int32) (v4 : Int32) (v5 : Int32) (h : ck_H) : Option (Int32 × ck_H) :=
  ck_as (gk h a0 = 12) <|
  ck_some (gR h a0 37) fun b2 =>
  ck_as ((gk h b2 = 14 ∨ gk h b2 = 21) ∧ ¬ v2 < 0 ∧ (v2 : Int32).toNatClampNeg < gz h b2) <|
  ck_bd (f_Ma_min F v5 (((gI h b2 (v2 : Int32).toNatClampNeg) - v4) - 3) h) fun r5 h6 =>
  ck_then (v4 + (3 + r5)) fun x8 =>
  ck_then (v5 - r5) fun x9 =>
  if (0 : Int32) < x9 then
    k14 a0 v1 v2 v3 x8 x9 1 h6
  else
    k14 a0 v1 v2 v3 x8 x9 0 h6
set_option maxRecDepth 100000 in
set_option maxHeartbeats 4000000 in
theorem f_RM_mayPutSpanned_J63_s (F : Nat) (k14 : Nat → Int32 → Int32 → Int32 → Int32 → Int32 → Int32 → ck_H → Option (Int32 × ck_H)) (hk14 : ∀ (a0 : Nat) (v1 : Int32) (v2 : Int32) (v3 : Int32) (v4 : Int32) (v5 : Int32) (v6 : Int32) (h : ck_H) (r : Int32) (h' : ck_H), k14 a0 v1 v2 v3 v4 v5 v6 h = some (r, h') → Go k_RM_mayPutSpanned 14 [some (.ref a0), some (.int v1), some (.int v2), some (.int v3), some (.int v4), some (.int v5), some (.int v6), none] [] h (some (.int r), h')) (a0 : Nat) (v1 : Int32) (v2 : Int32) (v3 : Int32) (v4 : Int32) (v5 : Int32) (h : ck_H) (r : Int32) (h' : ck_H) (e : f_RM_mayPutSpanned_J63 F k14 a0 v1 v2 v3 v4 v5 h = some (r, h')) : Go k_RM_mayPutSpanned 63 [some (.ref a0), some (.int v1), some (.int v2), some (.int v3), some (.int v4), some (.int v5), none, none] [] h (some (.int r), h') := by
  unfold f_RM_mayPutSpanned_J63 at e
  refine go_iload rfl rfl ?_
  refine go_aload_n rfl rfl ?_
  replace e := ck_as_e e
  obtain ⟨hk_1, e⟩ := e
  replace e := ck_some_e e
  obtain ⟨b2, hq_3, e⟩ := e
  refine go_get (v := .ref b2) rfl rfl hk_1 (by decide) (by show va_rf (gR h a0 37) = _; rw [hq_3]; rfl) ?_
  refine go_iload_n rfl rfl ?_
  replace e := ck_as_e e
  obtain ⟨hc_4, e⟩ := e
  refine go_iald rfl hc_4 ?_
  refine go_iload rfl rfl ?_
  refine go_isub rfl ?_
  refine go_iconst (v := 3) rfl (by decide) ?_
  refine go_isub rfl ?_
  replace e := ck_bd_e e
  obtain ⟨r5, h6, e7, e⟩ := e
  refine go_callS (As := [.int v5, .int (((gI h b2 (v2 : Int32).toNatClampNeg) - v4) - 3)]) (rest := []) rfl rfl rfl ⟨Nat.le_of_ble_eq_true rfl, Nat.le_of_ble_eq_true rfl, Nat.le_of_ble_eq_true rfl, Nat.le_of_ble_eq_true rfl⟩ (s_Ma_min e7) ?_
  show Go k_RM_mayPutSpanned 79 [some (.ref a0), some (.int v1), some (.int v2), some (.int v3), some (.int v4), some (.int v5), none, none] [.int r5] h6 _
  refine go_istore rfl rfl ?_
  show Go k_RM_mayPutSpanned 81 [some (.ref a0), some (.int v1), some (.int v2), some (.int v3), some (.int v4), some (.int v5), none, some (.int r5)] [] h6 _
  refine go_iload rfl rfl ?_
  refine go_iconst (v := 3) rfl (by decide) ?_
  refine go_iload rfl rfl ?_
  refine go_iadd rfl ?_
  refine go_iadd rfl ?_
  generalize v4 + (3 + r5) = x8 at e ⊢
  replace e := ck_then_e e
  refine go_istore rfl rfl ?_
  show Go k_RM_mayPutSpanned 90 [some (.ref a0), some (.int v1), some (.int v2), some (.int v3), some (.int x8), some (.int v5), none, some (.int r5)] [] h6 _
  refine go_iload rfl rfl ?_
  refine go_iload rfl rfl ?_
  refine go_isub rfl ?_
  generalize v5 - r5 = x9 at e ⊢
  replace e := ck_then_e e
  refine go_istore rfl rfl ?_
  show Go k_RM_mayPutSpanned 97 [some (.ref a0), some (.int v1), some (.int v2), some (.int v3), some (.int x8), some (.int x9), none, some (.int r5)] [] h6 _
  refine go_iload rfl rfl ?_
  refine go_if_le (t := 106) rfl rfl (fun hx_10 => ?_) (fun hx_10 => ?_)
  · rw [if_pos hx_10] at e
    refine go_iconst (v := 1) rfl (by decide) ?_
    refine go_goto (t := 107) rfl rfl ?_
    refine go_istore rfl rfl ?_
    show Go k_RM_mayPutSpanned 109 [some (.ref a0), some (.int v1), some (.int v2), some (.int v3), some (.int x8), some (.int x9), some (.int 1), some (.int r5)] [] h6 _
    refine go_goto (t := 14) rfl rfl ?_
    refine go_forget (l := [some (.ref a0), some (.int v1), some (.int v2), some (.int v3), some (.int x8), some (.int x9), some (.int 1), none]) ⟨Or.inl rfl, Or.inl rfl, Or.inl rfl, Or.inl rfl, Or.inl rfl, Or.inl rfl, Or.inl rfl, Or.inr ⟨rfl, fun _ q => by cases q; rfl⟩, trivial⟩ ?_
    exact hk14 _ _ _ _ _ _ _ _ _ _ e
  · rw [if_neg hx_10] at e
    refine go_iconst (v := 0) rfl (by decide) ?_
    refine go_istore rfl rfl ?_
    show Go k_RM_mayPutSpanned 109 [some (.ref a0), some (.int v1), some (.int v2), some (.int v3), some (.int x8), some (.int x9), some (.int 0), some (.int r5)] [] h6 _
    refine go_goto (t := 14) rfl rfl ?_
    refine go_forget (l := [some (.ref a0), some (.int v1), some (.int v2), some (.int v3), some (.int x8), some (.int x9), some (.int 0), none]) ⟨Or.inl rfl, Or.inl rfl, Or.inl rfl, Or.inl rfl, Or.inl rfl, Or.inl rfl, Or.inl rfl, Or.inr ⟨rfl, fun _ q => by cases q; rfl⟩, trivial⟩ ?_
    exact hk14 _ _ _ _ _ _ _ _ _ _ e
def f_RM_mayPutSpanned_J45 (F : Nat) (k14 : Nat → Int32 → Int32 → Int32 → Int32 → Int32 → Int32 → ck_H → Option (Int32 × ck_H)) (a0 : Nat) (v1 : Int32) (v2 : Int32) (v3 : Int32) (v4 : Int32) (v5 : Int32) (s0 : Int32) (s1 : Int32) (h : ck_H) : Option (Int32 × ck_H) :=
  if s1 < s0 then
    ck_as (gk h a0 = 12) <|
    ck_bd (f_RM_fits F a0 v1 v4 h) fun r3 h4 =>
    if r3 = (0 : Int32) then
      some (0, h4)
    else
      f_RM_mayPutSpanned_J63 F k14 a0 v1 v2 v3 2 v5 h4
  else
    f_RM_mayPutSpanned_J63 F k14 a0 v1 v2 v3 v4 v5 h
set_option maxRecDepth 100000 in
set_option maxHeartbeats 4000000 in
theorem f_RM_mayPutSpanned_J45_s (F : Nat) (k14 : Nat → Int32 → Int32 → Int32 → Int32 → Int32 → Int32 → ck_H → Option (Int32 × ck_H)) (hk14 : ∀ (a0 : Nat) (v1 : Int32) (v2 : Int32) (v3 : Int32) (v4 : Int32) (v5 : Int32) (v6 : Int32) (h : ck_H) (r : Int32) (h' : ck_H), k14 a0 v1 v2 v3 v4 v5 v6 h = some (r, h') → Go k_RM_mayPutSpanned 14 [some (.ref a0), some (.int v1), some (.int v2), some (.int v3), some (.int v4), some (.int v5), some (.int v6), none] [] h (some (.int r), h')) (a0 : Nat) (v1 : Int32) (v2 : Int32) (v3 : Int32) (v4 : Int32) (v5 : Int32) (s0 : Int32) (s1 : Int32) (h : ck_H) (r : Int32) (h' : ck_H) (e : f_RM_mayPutSpanned_J45 F k14 a0 v1 v2 v3 v4 v5 s0 s1 h = some (r, h')) : Go k_RM_mayPutSpanned 45 [some (.ref a0), some (.int v1), some (.int v2), some (.int v3), some (.int v4), some (.int v5), none, none] [.int s0, .int s1] h (some (.int r), h') := by
  unfold f_RM_mayPutSpanned_J45 at e
  refine go_icmp_ge (t := 63) rfl rfl (fun hx_1 => ?_) (fun hx_1 => ?_)
  · rw [if_pos hx_1] at e
    refine go_aload_n rfl rfl ?_
    refine go_iload_n rfl rfl ?_
    refine go_iload rfl rfl ?_
    replace e := ck_as_e e
    obtain ⟨hk_2, e⟩ := e
    replace e := ck_bd_e e
    obtain ⟨r3, h4, e5, e⟩ := e
    refine go_callV (As := [.int v1, .int v4]) (b0 := a0) (rest := []) rfl rfl ⟨hk_2, by decide⟩ rfl ⟨Nat.le_of_ble_eq_true rfl, Nat.le_of_ble_eq_true rfl, Nat.le_of_ble_eq_true rfl, Nat.le_of_ble_eq_true rfl⟩ (s_RM_fits e5) ?_
    show Go k_RM_mayPutSpanned 55 [some (.ref a0), some (.int v1), some (.int v2), some (.int v3), some (.int v4), some (.int v5), none, none] [.int r3] h4 _
    refine go_if_ne (t := 60) rfl rfl (fun hx_6 => ?_) (fun hx_6 => ?_)
    · rw [if_pos hx_6] at e
      refine go_iconst (v := 0) rfl (by decide) ?_
      cases e
      exact go_ret rfl (ck_rvb rfl (Or.inl rfl))
    · rw [if_neg hx_6] at e
      refine go_iconst (v := 2) rfl (by decide) ?_
      refine go_istore rfl rfl ?_
      show Go k_RM_mayPutSpanned 63 [some (.ref a0), some (.int v1), some (.int v2), some (.int v3), some (.int 2), some (.int v5), none, none] [] h4 _
      refine go_forget (l := [some (.ref a0), some (.int v1), some (.int v2), some (.int v3), some (.int 2), some (.int v5), none, none]) ⟨Or.inl rfl, Or.inl rfl, Or.inl rfl, Or.inl rfl, Or.inl rfl, Or.inl rfl, Or.inl rfl, Or.inl rfl, trivial⟩ ?_
      exact f_RM_mayPutSpanned_J63_s F k14 hk14 a0 v1 v2 v3 2 v5 _ _ _ e
  · rw [if_neg hx_1] at e
    refine go_forget (l := [some (.ref a0), some (.int v1), some (.int v2), some (.int v3), some (.int v4), some (.int v5), none, none]) ⟨Or.inl rfl, Or.inl rfl, Or.inl rfl, Or.inl rfl, Or.inl rfl, Or.inl rfl, Or.inl rfl, Or.inl rfl, trivial⟩ ?_
    exact f_RM_mayPutSpanned_J63_s F k14 hk14 a0 v1 v2 v3 v4 v5 _ _ _ e
def f_RM_mayPutSpanned_J27 (F : Nat) (k14 : Nat → Int32 → Int32 → Int32 → Int32 → Int32 → Int32 → ck_H → Option (Int32 × ck_H)) (a0 : Nat) (v1 : Int32) (v2 : Int32) (v3 : Int32) (v4 : Int32) (v5 : Int32) (h : ck_H) : Option (Int32 × ck_H) :=
  ck_as (gk h a0 = 12) <|
  ck_some (gR h a0 37) fun b2 =>
  ck_as ((gk h b2 = 14 ∨ gk h b2 = 21) ∧ ¬ v2 < 0 ∧ (v2 : Int32).toNatClampNeg < gz h b2) <|
  if v3 = (0 : Int32) then
    f_RM_mayPutSpanned_J45 F k14 a0 v1 v2 v3 v4 v5 3 ((gI h b2 (v2 : Int32).toNatClampNeg) - v4) h
  else
    f_RM_mayPutSpanned_J45 F k14 a0 v1 v2 v3 v4 v5 4 ((gI h b2 (v2 : Int32).toNatClampNeg) - v4) h
set_option maxRecDepth 100000 in
set_option maxHeartbeats 4000000 in
theorem f_RM_mayPutSpanned_J27_s (F : Nat) (k14 : Nat → Int32 → Int32 → Int32 → Int32 → Int32 → Int32 → ck_H → Option (Int32 × ck_H)) (hk14 : ∀ (a0 : Nat) (v1 : Int32) (v2 : Int32) (v3 : Int32) (v4 : Int32) (v5 : Int32) (v6 : Int32) (h : ck_H) (r : Int32) (h' : ck_H), k14 a0 v1 v2 v3 v4 v5 v6 h = some (r, h') → Go k_RM_mayPutSpanned 14 [some (.ref a0), some (.int v1), some (.int v2), some (.int v3), some (.int v4), some (.int v5), some (.int v6), none] [] h (some (.int r), h')) (a0 : Nat) (v1 : Int32) (v2 : Int32) (v3 : Int32) (v4 : Int32) (v5 : Int32) (h : ck_H) (r : Int32) (h' : ck_H) (e : f_RM_mayPutSpanned_J27 F k14 a0 v1 v2 v3 v4 v5 h = some (r, h')) : Go k_RM_mayPutSpanned 27 [some (.ref a0), some (.int v1), some (.int v2), some (.int v3), some (.int v4), some (.int v5), none, none] [] h (some (.int r), h') := by
  unfold f_RM_mayPutSpanned_J27 at e
  refine go_aload_n rfl rfl ?_
  replace e := ck_as_e e
  obtain ⟨hk_1, e⟩ := e
  replace e := ck_some_e e
  obtain ⟨b2, hq_3, e⟩ := e
  refine go_get (v := .ref b2) rfl rfl hk_1 (by decide) (by show va_rf (gR h a0 37) = _; rw [hq_3]; rfl) ?_
  refine go_iload_n rfl rfl ?_
  replace e := ck_as_e e
  obtain ⟨hc_4, e⟩ := e
  refine go_iald rfl hc_4 ?_
  refine go_iload rfl rfl ?_
  refine go_isub rfl ?_
  refine go_iload_n rfl rfl ?_
  refine go_if_ne (t := 44) rfl rfl (fun hx_5 => ?_) (fun hx_5 => ?_)
  · rw [if_pos hx_5] at e
    refine go_iconst (v := 3) rfl (by decide) ?_
    refine go_goto (t := 45) rfl rfl ?_
    refine go_forget (l := [some (.ref a0), some (.int v1), some (.int v2), some (.int v3), some (.int v4), some (.int v5), none, none]) ⟨Or.inl rfl, Or.inl rfl, Or.inl rfl, Or.inl rfl, Or.inl rfl, Or.inl rfl, Or.inl rfl, Or.inl rfl, trivial⟩ ?_
    exact f_RM_mayPutSpanned_J45_s F k14 hk14 a0 v1 v2 v3 v4 v5 3 ((gI h b2 (v2 : Int32).toNatClampNeg) - v4) _ _ _ e
  · rw [if_neg hx_5] at e
    refine go_iconst (v := 4) rfl (by decide) ?_
    refine go_forget (l := [some (.ref a0), some (.int v1), some (.int v2), some (.int v3), some (.int v4), some (.int v5), none, none]) ⟨Or.inl rfl, Or.inl rfl, Or.inl rfl, Or.inl rfl, Or.inl rfl, Or.inl rfl, Or.inl rfl, Or.inl rfl, trivial⟩ ?_
    exact f_RM_mayPutSpanned_J45_s F k14 hk14 a0 v1 v2 v3 v4 v5 4 ((gI h b2 (v2 : Int32).toNatClampNeg) - v4) _ _ _ e
def f_RM_mayPutSpanned_L14 (F : Nat)  : Nat → Nat → Int32 → Int32 → Int32 → Int32 → Int32 → Int32 → ck_H → Option (Int32 × ck_H)
  | 0, _, _, _, _, _, _, _, _ => none
  | n + 1, a0, v1, v2, v3, v4, v5, v6, h =>
    if v6 = (0 : Int32) then
      ck_as (gk h a0 = 12) <|
      ck_bd (f_RM_fits F a0 v1 v4 h) fun r3 h4 =>
      ck_as (r3 = 0 ∨ r3 = 1) <|
      some (r3, h4)
    else
      if v4 = (0 : Int32) then
        f_RM_mayPutSpanned_J27 F (f_RM_mayPutSpanned_L14 F n) a0 v1 v2 v3 2 v5 h
      else
        f_RM_mayPutSpanned_J27 F (f_RM_mayPutSpanned_L14 F n) a0 v1 v2 v3 v4 v5 h
set_option maxRecDepth 100000 in
set_option maxHeartbeats 4000000 in
theorem f_RM_mayPutSpanned_L14_s (F : Nat)   : ∀ (n : Nat) (a0 : Nat) (v1 : Int32) (v2 : Int32) (v3 : Int32) (v4 : Int32) (v5 : Int32) (v6 : Int32) (h : ck_H) (r : Int32) (h' : ck_H), f_RM_mayPutSpanned_L14 F n a0 v1 v2 v3 v4 v5 v6 h = some (r, h') → Go k_RM_mayPutSpanned 14 [some (.ref a0), some (.int v1), some (.int v2), some (.int v3), some (.int v4), some (.int v5), some (.int v6), none] [] h (some (.int r), h') := by
  intro n
  induction n with
  | zero => intro a0 v1 v2 v3 v4 v5 v6 h r h' e; simp only [f_RM_mayPutSpanned_L14] at e; cases e
  | succ n ih =>
    intro a0 v1 v2 v3 v4 v5 v6 h r h' e
    rw [f_RM_mayPutSpanned_L14] at e
    refine go_iload rfl rfl ?_
    refine go_if_eq (t := 112) rfl rfl (fun hx_1 => ?_) (fun hx_1 => ?_)
    · rw [if_pos hx_1] at e
      refine go_aload_n rfl rfl ?_
      refine go_iload_n rfl rfl ?_
      refine go_iload rfl rfl ?_
      replace e := ck_as_e e
      obtain ⟨hk_2, e⟩ := e
      replace e := ck_bd_e e
      obtain ⟨r3, h4, e5, e⟩ := e
      refine go_callV (As := [.int v1, .int v4]) (b0 := a0) (rest := []) rfl rfl ⟨hk_2, by decide⟩ rfl ⟨Nat.le_of_ble_eq_true rfl, Nat.le_of_ble_eq_true rfl, Nat.le_of_ble_eq_true rfl, Nat.le_of_ble_eq_true rfl⟩ (s_RM_fits e5) ?_
      show Go k_RM_mayPutSpanned 119 [some (.ref a0), some (.int v1), some (.int v2), some (.int v3), some (.int v4), some (.int v5), some (.int v6), none] [.int r3] h4 _
      replace e := ck_as_e e
      obtain ⟨hc_6, e⟩ := e
      cases e
      exact go_ret rfl (ck_rvb rfl hc_6)
    · rw [if_neg hx_1] at e
      refine go_iload rfl rfl ?_
      refine go_if_ne (t := 27) rfl rfl (fun hx_7 => ?_) (fun hx_7 => ?_)
      · rw [if_pos hx_7] at e
        refine go_iconst (v := 2) rfl (by decide) ?_
        refine go_istore rfl rfl ?_
        show Go k_RM_mayPutSpanned 27 [some (.ref a0), some (.int v1), some (.int v2), some (.int v3), some (.int 2), some (.int v5), some (.int v6), none] [] h _
        refine go_forget (l := [some (.ref a0), some (.int v1), some (.int v2), some (.int v3), some (.int 2), some (.int v5), none, none]) ⟨Or.inl rfl, Or.inl rfl, Or.inl rfl, Or.inl rfl, Or.inl rfl, Or.inl rfl, Or.inr ⟨rfl, fun _ q => by cases q; rfl⟩, Or.inl rfl, trivial⟩ ?_
        exact f_RM_mayPutSpanned_J27_s F (f_RM_mayPutSpanned_L14 F n) ih a0 v1 v2 v3 2 v5 _ _ _ e
      · rw [if_neg hx_7] at e
        refine go_forget (l := [some (.ref a0), some (.int v1), some (.int v2), some (.int v3), some (.int v4), some (.int v5), none, none]) ⟨Or.inl rfl, Or.inl rfl, Or.inl rfl, Or.inl rfl, Or.inl rfl, Or.inl rfl, Or.inr ⟨rfl, fun _ q => by cases q; rfl⟩, Or.inl rfl, trivial⟩ ?_
        exact f_RM_mayPutSpanned_J27_s F (f_RM_mayPutSpanned_L14 F n) ih a0 v1 v2 v3 v4 v5 _ _ _ e
def f_RM_mayPutSpanned (F : Nat) (a0 : Nat) (v1 : Int32) (v2 : Int32) (v3 : Int32) (h : ck_H) : Option (Int32 × ck_H) :=
  ck_as (gk h a0 = 12) <|
  ck_some (gR h a0 54) fun b2 =>
  ck_as ((gk h b2 = 14 ∨ gk h b2 = 21) ∧ ¬ v1 < 0 ∧ (v1 : Int32).toNatClampNeg < gz h b2) <|
  ck_then (gI h b2 (v1 : Int32).toNatClampNeg) fun x5 =>
  f_RM_mayPutSpanned_L14 F F a0 v1 v2 v3 x5 v3 1 h
set_option maxRecDepth 100000 in
set_option maxHeartbeats 4000000 in
theorem s_RM_mayPutSpanned {F : Nat} {a0 : Nat} {v1 : Int32} {v2 : Int32} {v3 : Int32} {h h' : ck_H} {r : Int32} (e : f_RM_mayPutSpanned F a0 v1 v2 v3 h = some (r, h')) : Go k_RM_mayPutSpanned 0 (ck_in [.ref a0, .int v1, .int v2, .int v3] 8) [] h (some (.int r), h') := by
  unfold f_RM_mayPutSpanned at e
  show Go k_RM_mayPutSpanned 0 [some (.ref a0), some (.int v1), some (.int v2), some (.int v3), none, none, none, none] [] h _
  refine go_aload_n rfl rfl ?_
  replace e := ck_as_e e
  obtain ⟨hk_1, e⟩ := e
  replace e := ck_some_e e
  obtain ⟨b2, hq_3, e⟩ := e
  refine go_get (v := .ref b2) rfl rfl hk_1 (by decide) (by show va_rf (gR h a0 54) = _; rw [hq_3]; rfl) ?_
  refine go_iload_n rfl rfl ?_
  replace e := ck_as_e e
  obtain ⟨hc_4, e⟩ := e
  refine go_iald rfl hc_4 ?_
  generalize gI h b2 (v1 : Int32).toNatClampNeg = x5 at e ⊢
  replace e := ck_then_e e
  refine go_istore rfl rfl ?_
  show Go k_RM_mayPutSpanned 8 [some (.ref a0), some (.int v1), some (.int v2), some (.int v3), some (.int x5), none, none, none] [] h _
  refine go_iload_n rfl rfl ?_
  refine go_istore rfl rfl ?_
  show Go k_RM_mayPutSpanned 11 [some (.ref a0), some (.int v1), some (.int v2), some (.int v3), some (.int x5), some (.int v3), none, none] [] h _
  refine go_iconst (v := 1) rfl (by decide) ?_
  refine go_istore rfl rfl ?_
  show Go k_RM_mayPutSpanned 14 [some (.ref a0), some (.int v1), some (.int v2), some (.int v3), some (.int x5), some (.int v3), some (.int 1), none] [] h _
  refine go_forget (l := [some (.ref a0), some (.int v1), some (.int v2), some (.int v3), some (.int x5), some (.int v3), some (.int 1), none]) ⟨Or.inl rfl, Or.inl rfl, Or.inl rfl, Or.inl rfl, Or.inl rfl, Or.inl rfl, Or.inl rfl, Or.inl rfl, trivial⟩ ?_
  exact f_RM_mayPutSpanned_L14_s F F _ _ _ _ _ _ _ _ _ _ e
def f_RM_headed (F : Nat) (a0 : Nat) (v1 : Int32) (h : ck_H) : Option (Unit × ck_H) :=
  ck_as (gk h a0 = 12) <|
  ck_some (gR h a0 54) fun b2 =>
  ck_as ((gk h b2 = 14 ∨ gk h b2 = 21) ∧ ¬ v1 < 0 ∧ (v1 : Int32).toNatClampNeg < gz h b2) <|
  if (gI h b2 (v1 : Int32).toNatClampNeg) = (0 : Int32) then
    ck_some (gR h a0 54) fun b6 =>
    ck_as (gk h b6 = 14 ∧ ¬ v1 < 0 ∧ (v1 : Int32).toNatClampNeg < gz h b6) <|
    ck_then (wI h b6 (v1 : Int32).toNatClampNeg 2) fun h9 =>
    some ((), h9)
  else
    some ((), h)
set_option maxRecDepth 100000 in
set_option maxHeartbeats 4000000 in
theorem s_RM_headed {F : Nat} {a0 : Nat} {v1 : Int32} {h h' : ck_H} {r : Unit} (e : f_RM_headed F a0 v1 h = some (r, h')) : Go k_RM_headed 0 (ck_in [.ref a0, .int v1] 2) [] h (none, h') := by
  unfold f_RM_headed at e
  show Go k_RM_headed 0 [some (.ref a0), some (.int v1)] [] h _
  refine go_aload_n rfl rfl ?_
  replace e := ck_as_e e
  obtain ⟨hk_1, e⟩ := e
  replace e := ck_some_e e
  obtain ⟨b2, hq_3, e⟩ := e
  refine go_get (v := .ref b2) rfl rfl hk_1 (by decide) (by show va_rf (gR h a0 54) = _; rw [hq_3]; rfl) ?_
  refine go_iload_n rfl rfl ?_
  replace e := ck_as_e e
  obtain ⟨hc_4, e⟩ := e
  refine go_iald rfl hc_4 ?_
  refine go_if_ne (t := 16) rfl rfl (fun hx_5 => ?_) (fun hx_5 => ?_)
  · rw [if_pos hx_5] at e
    refine go_aload_n rfl rfl ?_
    replace e := ck_some_e e
    obtain ⟨b6, hq_7, e⟩ := e
    refine go_get (v := .ref b6) rfl rfl hk_1 (by decide) (by show va_rf (gR h a0 54) = _; rw [hq_7]; rfl) ?_
    refine go_iload_n rfl rfl ?_
    refine go_iconst (v := 2) rfl (by decide) ?_
    replace e := ck_as_e e
    obtain ⟨hc_8, e⟩ := e
    refine go_iast rfl hc_8 ?_
    have hk_10 : gk (wI h b6 (v1 : Int32).toNatClampNeg 2) a0 = 12 := ck_kI.trans hk_1
    generalize wI h b6 (v1 : Int32).toNatClampNeg 2 = h9 at e hk_10 ⊢
    replace e := ck_then_e e
    cases e
    exact go_ret rfl rfl
  · rw [if_neg hx_5] at e
    cases e
    exact go_ret rfl rfl
def f_RM_bytes_L3 (F : Nat)  : Nat → Nat → Int32 → Int32 → Int32 → Int32 → ck_H → Option (Unit × ck_H)
  | 0, _, _, _, _, _, _ => none
  | n + 1, a0, v1, v2, v3, v4, h =>
    if v4 < v3 then
      ck_as (gk h a0 = 12) <|
      ck_some (gR h a0 53) fun b3 =>
      ck_some (gR h a0 54) fun b5 =>
      ck_as ((gk h b5 = 14 ∨ gk h b5 = 21) ∧ ¬ v1 < 0 ∧ (v1 : Int32).toNatClampNeg < gz h b5) <|
      ck_some (gR h a0 9) fun b8 =>
      ck_as ((gk h b8 = 13 ∨ gk h b8 = 15) ∧ ¬ (v2 + v4) < 0 ∧ (v2 + v4 : Int32).toNatClampNeg < gz h b8) <|
      ck_as (gk h b3 = 13 ∧ ¬ (((1200 * v1) + (gI h b5 (v1 : Int32).toNatClampNeg)) + v4) < 0 ∧ (((1200 * v1) + (gI h b5 (v1 : Int32).toNatClampNeg)) + v4 : Int32).toNatClampNeg < gz h b3) <|
      ck_then (wI h b3 (((1200 * v1) + (gI h b5 (v1 : Int32).toNatClampNeg)) + v4 : Int32).toNatClampNeg (gI h b8 (v2 + v4 : Int32).toNatClampNeg : Int32).toInt8.toInt32) fun h12 =>
      f_RM_bytes_L3 F n a0 v1 v2 v3 (v4 + 1) h12
    else
      ck_as (gk h a0 = 12) <|
      ck_some (gR h a0 54) fun b15 =>
      ck_as ((gk h b15 = 14 ∨ gk h b15 = 21) ∧ ¬ v1 < 0 ∧ (v1 : Int32).toNatClampNeg < gz h b15) <|
      ck_as (gk h b15 = 14 ∧ ¬ v1 < 0 ∧ (v1 : Int32).toNatClampNeg < gz h b15) <|
      ck_then (wI h b15 (v1 : Int32).toNatClampNeg ((gI h b15 (v1 : Int32).toNatClampNeg) + v3)) fun h19 =>
      some ((), h19)
set_option maxRecDepth 100000 in
set_option maxHeartbeats 4000000 in
theorem f_RM_bytes_L3_s (F : Nat)   : ∀ (n : Nat) (a0 : Nat) (v1 : Int32) (v2 : Int32) (v3 : Int32) (v4 : Int32) (h : ck_H) (r : Unit) (h' : ck_H), f_RM_bytes_L3 F n a0 v1 v2 v3 v4 h = some (r, h') → Go k_RM_bytes 3 [some (.ref a0), some (.int v1), some (.int v2), some (.int v3), some (.int v4)] [] h (none, h') := by
  intro n
  induction n with
  | zero => intro a0 v1 v2 v3 v4 h r h' e; simp only [f_RM_bytes_L3] at e; cases e
  | succ n ih =>
    intro a0 v1 v2 v3 v4 h r h' e
    rw [f_RM_bytes_L3] at e
    refine go_iload rfl rfl ?_
    refine go_iload_n rfl rfl ?_
    refine go_icmp_ge (t := 44) rfl rfl (fun hx_1 => ?_) (fun hx_1 => ?_)
    · rw [if_pos hx_1] at e
      refine go_aload_n rfl rfl ?_
      replace e := ck_as_e e
      obtain ⟨hk_2, e⟩ := e
      replace e := ck_some_e e
      obtain ⟨b3, hq_4, e⟩ := e
      refine go_get (v := .ref b3) rfl rfl hk_2 (by decide) (by show va_rf (gR h a0 53) = _; rw [hq_4]; rfl) ?_
      refine go_sipush (v := 1200) rfl (by decide) ?_
      refine go_iload_n rfl rfl ?_
      refine go_imul rfl ?_
      refine go_aload_n rfl rfl ?_
      replace e := ck_some_e e
      obtain ⟨b5, hq_6, e⟩ := e
      refine go_get (v := .ref b5) rfl rfl hk_2 (by decide) (by show va_rf (gR h a0 54) = _; rw [hq_6]; rfl) ?_
      refine go_iload_n rfl rfl ?_
      replace e := ck_as_e e
      obtain ⟨hc_7, e⟩ := e
      refine go_iald rfl hc_7 ?_
      refine go_iadd rfl ?_
      refine go_iload rfl rfl ?_
      refine go_iadd rfl ?_
      refine go_aload_n rfl rfl ?_
      replace e := ck_some_e e
      obtain ⟨b8, hq_9, e⟩ := e
      refine go_get (v := .ref b8) rfl rfl hk_2 (by decide) (by show va_rf (gR h a0 9) = _; rw [hq_9]; rfl) ?_
      refine go_iload_n rfl rfl ?_
      refine go_iload rfl rfl ?_
      refine go_iadd rfl ?_
      replace e := ck_as_e e
      obtain ⟨hc_10, e⟩ := e
      refine go_bald rfl hc_10 ?_
      replace e := ck_as_e e
      obtain ⟨hc_11, e⟩ := e
      refine go_bast rfl hc_11 ?_
      have hk_13 : gk (wI h b3 (((1200 * v1) + (gI h b5 (v1 : Int32).toNatClampNeg)) + v4 : Int32).toNatClampNeg (gI h b8 (v2 + v4 : Int32).toNatClampNeg : Int32).toInt8.toInt32) a0 = 12 := ck_kI.trans hk_2
      generalize wI h b3 (((1200 * v1) + (gI h b5 (v1 : Int32).toNatClampNeg)) + v4 : Int32).toNatClampNeg (gI h b8 (v2 + v4 : Int32).toNatClampNeg : Int32).toInt8.toInt32 = h12 at e hk_13 ⊢
      replace e := ck_then_e e
      refine go_iinc (v := 1) rfl rfl (by decide) rfl ?_
      show Go k_RM_bytes 41 [some (.ref a0), some (.int v1), some (.int v2), some (.int v3), some (.int (v4 + 1))] [] h12 _
      refine go_goto (t := 3) rfl rfl ?_
      refine go_forget (l := [some (.ref a0), some (.int v1), some (.int v2), some (.int v3), some (.int (v4 + 1))]) ⟨Or.inl rfl, Or.inl rfl, Or.inl rfl, Or.inl rfl, Or.inl rfl, trivial⟩ ?_
      exact ih _ _ _ _ _ _ _ _ e
    · rw [if_neg hx_1] at e
      refine go_aload_n rfl rfl ?_
      replace e := ck_as_e e
      obtain ⟨hk_14, e⟩ := e
      replace e := ck_some_e e
      obtain ⟨b15, hq_16, e⟩ := e
      refine go_get (v := .ref b15) rfl rfl hk_14 (by decide) (by show va_rf (gR h a0 54) = _; rw [hq_16]; rfl) ?_
      refine go_iload_n rfl rfl ?_
      refine go_dup2 rfl rfl rfl ?_
      replace e := ck_as_e e
      obtain ⟨hc_17, e⟩ := e
      refine go_iald rfl hc_17 ?_
      refine go_iload_n rfl rfl ?_
      refine go_iadd rfl ?_
      replace e := ck_as_e e
      obtain ⟨hc_18, e⟩ := e
      refine go_iast rfl hc_18 ?_
      have hk_20 : gk (wI h b15 (v1 : Int32).toNatClampNeg ((gI h b15 (v1 : Int32).toNatClampNeg) + v3)) a0 = 12 := ck_kI.trans hk_14
      generalize wI h b15 (v1 : Int32).toNatClampNeg ((gI h b15 (v1 : Int32).toNatClampNeg) + v3) = h19 at e hk_20 ⊢
      replace e := ck_then_e e
      cases e
      exact go_ret rfl rfl
def f_RM_bytes (F : Nat) (a0 : Nat) (v1 : Int32) (v2 : Int32) (v3 : Int32) (h : ck_H) : Option (Unit × ck_H) :=
  f_RM_bytes_L3 F F a0 v1 v2 v3 0 h
set_option maxRecDepth 100000 in
set_option maxHeartbeats 4000000 in
theorem s_RM_bytes {F : Nat} {a0 : Nat} {v1 : Int32} {v2 : Int32} {v3 : Int32} {h h' : ck_H} {r : Unit} (e : f_RM_bytes F a0 v1 v2 v3 h = some (r, h')) : Go k_RM_bytes 0 (ck_in [.ref a0, .int v1, .int v2, .int v3] 5) [] h (none, h') := by
  unfold f_RM_bytes at e
  show Go k_RM_bytes 0 [some (.ref a0), some (.int v1), some (.int v2), some (.int v3), none] [] h _
  refine go_iconst (v := 0) rfl (by decide) ?_
  refine go_istore rfl rfl ?_
  show Go k_RM_bytes 3 [some (.ref a0), some (.int v1), some (.int v2), some (.int v3), some (.int 0)] [] h _
  refine go_forget (l := [some (.ref a0), some (.int v1), some (.int v2), some (.int v3), some (.int 0)]) ⟨Or.inl rfl, Or.inl rfl, Or.inl rfl, Or.inl rfl, Or.inl rfl, trivial⟩ ?_
  exact f_RM_bytes_L3_s F F _ _ _ _ _ _ _ _ e
def f_RM_tellSize (F : Nat) (a0 : Nat) (v1 : Int32) (h : ck_H) : Option (Unit × ck_H) :=
  ck_as (gk h a0 = 12) <|
  ck_some (gR h a0 53) fun b2 =>
  ck_some (gR h a0 54) fun b4 =>
  ck_as ((gk h b4 = 14 ∨ gk h b4 = 21) ∧ ¬ v1 < 0 ∧ (v1 : Int32).toNatClampNeg < gz h b4) <|
  ck_bd (f_RM_putTwo F b2 (1200 * v1) (gI h b4 (v1 : Int32).toNatClampNeg) h) fun _ h8 =>
  some ((), h8)
set_option maxRecDepth 100000 in
set_option maxHeartbeats 4000000 in
theorem s_RM_tellSize {F : Nat} {a0 : Nat} {v1 : Int32} {h h' : ck_H} {r : Unit} (e : f_RM_tellSize F a0 v1 h = some (r, h')) : Go k_RM_tellSize 0 (ck_in [.ref a0, .int v1] 2) [] h (none, h') := by
  unfold f_RM_tellSize at e
  show Go k_RM_tellSize 0 [some (.ref a0), some (.int v1)] [] h _
  refine go_aload_n rfl rfl ?_
  replace e := ck_as_e e
  obtain ⟨hk_1, e⟩ := e
  replace e := ck_some_e e
  obtain ⟨b2, hq_3, e⟩ := e
  refine go_get (v := .ref b2) rfl rfl hk_1 (by decide) (by show va_rf (gR h a0 53) = _; rw [hq_3]; rfl) ?_
  refine go_sipush (v := 1200) rfl (by decide) ?_
  refine go_iload_n rfl rfl ?_
  refine go_imul rfl ?_
  refine go_aload_n rfl rfl ?_
  replace e := ck_some_e e
  obtain ⟨b4, hq_5, e⟩ := e
  refine go_get (v := .ref b4) rfl rfl hk_1 (by decide) (by show va_rf (gR h a0 54) = _; rw [hq_5]; rfl) ?_
  refine go_iload_n rfl rfl ?_
  replace e := ck_as_e e
  obtain ⟨hc_6, e⟩ := e
  refine go_iald rfl hc_6 ?_
  replace e := ck_bd_e e
  obtain ⟨r7, h8, e9, e⟩ := e
  refine go_callS (As := [.ref b2, .int (1200 * v1), .int (gI h b4 (v1 : Int32).toNatClampNeg)]) (rest := []) rfl rfl rfl ⟨Nat.le_of_ble_eq_true rfl, Nat.le_of_ble_eq_true rfl, Nat.le_of_ble_eq_true rfl, Nat.le_of_ble_eq_true rfl⟩ (s_RM_putTwo e9) ?_
  show Go k_RM_tellSize 18 [some (.ref a0), some (.int v1)] [] h8 _
  cases e
  exact go_ret rfl rfl
def f_RM_putVariable_J33 (F : Nat)  (a0 : Nat) (v1 : Int32) (v3 : Int32) (h : ck_H) : Option (Unit × ck_H) :=
  ck_as (gk h a0 = 12) <|
  ck_bd (f_RM_headed F a0 v1 h) fun _ h3 =>
  ck_as (gk h3 a0 = 12) <|
  ck_some (gR h3 a0 53) fun b6 =>
  ck_some (gR h3 a0 54) fun b8 =>
  ck_as ((gk h3 b8 = 14 ∨ gk h3 b8 = 21) ∧ ¬ v1 < 0 ∧ (v1 : Int32).toNatClampNeg < gz h3 b8) <|
  ck_bd (f_RM_putTwo F b6 ((1200 * v1) + (gI h3 b8 (v1 : Int32).toNatClampNeg)) (v3 + 2) h3) fun _ h12 =>
  ck_as (gk h12 a0 = 12) <|
  ck_some (gR h12 a0 54) fun b15 =>
  ck_as ((gk h12 b15 = 14 ∨ gk h12 b15 = 21) ∧ ¬ v1 < 0 ∧ (v1 : Int32).toNatClampNeg < gz h12 b15) <|
  ck_as (gk h12 b15 = 14 ∧ ¬ v1 < 0 ∧ (v1 : Int32).toNatClampNeg < gz h12 b15) <|
  ck_then (wI h12 b15 (v1 : Int32).toNatClampNeg ((gI h12 b15 (v1 : Int32).toNatClampNeg) + 2)) fun h19 =>
  ck_bd (f_RM_bytes F a0 v1 0 v3 h19) fun _ h22 =>
  ck_as (gk h22 a0 = 12) <|
  ck_bd (f_RM_tellSize F a0 v1 h22) fun _ h26 =>
  some ((), h26)
set_option maxRecDepth 100000 in
set_option maxHeartbeats 4000000 in
theorem f_RM_putVariable_J33_s (F : Nat)   (a0 : Nat) (v1 : Int32) (v3 : Int32) (h : ck_H) (r : Unit) (h' : ck_H) (e : f_RM_putVariable_J33 F  a0 v1 v3 h = some (r, h')) : Go k_RM_putVariable 33 [some (.ref a0), some (.int v1), none, some (.int v3)] [] h (none, h') := by
  unfold f_RM_putVariable_J33 at e
  refine go_aload_n rfl rfl ?_
  refine go_iload_n rfl rfl ?_
  replace e := ck_as_e e
  obtain ⟨hk_1, e⟩ := e
  replace e := ck_bd_e e
  obtain ⟨r2, h3, e4, e⟩ := e
  refine go_callV (As := [.int v1]) (b0 := a0) (rest := []) rfl rfl ⟨hk_1, by decide⟩ rfl ⟨Nat.le_of_ble_eq_true rfl, Nat.le_of_ble_eq_true rfl, Nat.le_of_ble_eq_true rfl, Nat.le_of_ble_eq_true rfl⟩ (s_RM_headed e4) ?_
  show Go k_RM_putVariable 38 [some (.ref a0), some (.int v1), none, some (.int v3)] [] h3 _
  refine go_aload_n rfl rfl ?_
  replace e := ck_as_e e
  obtain ⟨hk_5, e⟩ := e
  replace e := ck_some_e e
  obtain ⟨b6, hq_7, e⟩ := e
  refine go_get (v := .ref b6) rfl rfl hk_5 (by decide) (by show va_rf (gR h3 a0 53) = _; rw [hq_7]; rfl) ?_
  refine go_sipush (v := 1200) rfl (by decide) ?_
  refine go_iload_n rfl rfl ?_
  refine go_imul rfl ?_
  refine go_aload_n rfl rfl ?_
  replace e := ck_some_e e
  obtain ⟨b8, hq_9, e⟩ := e
  refine go_get (v := .ref b8) rfl rfl hk_5 (by decide) (by show va_rf (gR h3 a0 54) = _; rw [hq_9]; rfl) ?_
  refine go_iload_n rfl rfl ?_
  replace e := ck_as_e e
  obtain ⟨hc_10, e⟩ := e
  refine go_iald rfl hc_10 ?_
  refine go_iadd rfl ?_
  refine go_iload_n rfl rfl ?_
  refine go_iconst (v := 2) rfl (by decide) ?_
  refine go_iadd rfl ?_
  replace e := ck_bd_e e
  obtain ⟨r11, h12, e13, e⟩ := e
  refine go_callS (As := [.ref b6, .int ((1200 * v1) + (gI h3 b8 (v1 : Int32).toNatClampNeg)), .int (v3 + 2)]) (rest := []) rfl rfl rfl ⟨Nat.le_of_ble_eq_true rfl, Nat.le_of_ble_eq_true rfl, Nat.le_of_ble_eq_true rfl, Nat.le_of_ble_eq_true rfl⟩ (s_RM_putTwo e13) ?_
  show Go k_RM_putVariable 60 [some (.ref a0), some (.int v1), none, some (.int v3)] [] h12 _
  refine go_aload_n rfl rfl ?_
  replace e := ck_as_e e
  obtain ⟨hk_14, e⟩ := e
  replace e := ck_some_e e
  obtain ⟨b15, hq_16, e⟩ := e
  refine go_get (v := .ref b15) rfl rfl hk_14 (by decide) (by show va_rf (gR h12 a0 54) = _; rw [hq_16]; rfl) ?_
  refine go_iload_n rfl rfl ?_
  refine go_dup2 rfl rfl rfl ?_
  replace e := ck_as_e e
  obtain ⟨hc_17, e⟩ := e
  refine go_iald rfl hc_17 ?_
  refine go_iconst (v := 2) rfl (by decide) ?_
  refine go_iadd rfl ?_
  replace e := ck_as_e e
  obtain ⟨hc_18, e⟩ := e
  refine go_iast rfl hc_18 ?_
  have hk_20 : gk (wI h12 b15 (v1 : Int32).toNatClampNeg ((gI h12 b15 (v1 : Int32).toNatClampNeg) + 2)) a0 = 12 := ck_kI.trans hk_14
  generalize wI h12 b15 (v1 : Int32).toNatClampNeg ((gI h12 b15 (v1 : Int32).toNatClampNeg) + 2) = h19 at e hk_20 ⊢
  replace e := ck_then_e e
  refine go_aload_n rfl rfl ?_
  refine go_iload_n rfl rfl ?_
  refine go_iconst (v := 0) rfl (by decide) ?_
  refine go_iload_n rfl rfl ?_
  replace e := ck_bd_e e
  obtain ⟨r21, h22, e23, e⟩ := e
  refine go_callV (As := [.int v1, .int 0, .int v3]) (b0 := a0) (rest := []) rfl rfl ⟨hk_20, by decide⟩ rfl ⟨Nat.le_of_ble_eq_true rfl, Nat.le_of_ble_eq_true rfl, Nat.le_of_ble_eq_true rfl, Nat.le_of_ble_eq_true rfl⟩ (s_RM_bytes e23) ?_
  show Go k_RM_putVariable 77 [some (.ref a0), some (.int v1), none, some (.int v3)] [] h22 _
  refine go_aload_n rfl rfl ?_
  refine go_iload_n rfl rfl ?_
  replace e := ck_as_e e
  obtain ⟨hk_24, e⟩ := e
  replace e := ck_bd_e e
  obtain ⟨r25, h26, e27, e⟩ := e
  refine go_callV (As := [.int v1]) (b0 := a0) (rest := []) rfl rfl ⟨hk_24, by decide⟩ rfl ⟨Nat.le_of_ble_eq_true rfl, Nat.le_of_ble_eq_true rfl, Nat.le_of_ble_eq_true rfl, Nat.le_of_ble_eq_true rfl⟩ (s_RM_tellSize e27) ?_
  show Go k_RM_putVariable 82 [some (.ref a0), some (.int v1), none, some (.int v3)] [] h26 _
  cases e
  exact go_ret rfl rfl
def f_RM_putVariable (F : Nat) (a0 : Nat) (v1 : Int32) (v2 : Int32) (v3 : Int32) (h : ck_H) : Option (Unit × ck_H) :=
  ck_as (gk h a0 = 12) <|
  ck_some (gR h a0 54) fun b2 =>
  ck_as ((gk h b2 = 14 ∨ gk h b2 = 21) ∧ ¬ v1 < 0 ∧ (v1 : Int32).toNatClampNeg < gz h b2) <|
  if (0 : Int32) < (gI h b2 (v1 : Int32).toNatClampNeg) then
    ck_some (gR h a0 54) fun b6 =>
    ck_as ((gk h b6 = 14 ∨ gk h b6 = 21) ∧ ¬ v1 < 0 ∧ (v1 : Int32).toNatClampNeg < gz h b6) <|
    ck_some (gR h a0 37) fun b9 =>
    ck_as ((gk h b9 = 14 ∨ gk h b9 = 21) ∧ ¬ v2 < 0 ∧ (v2 : Int32).toNatClampNeg < gz h b9) <|
    if (gI h b9 (v2 : Int32).toNatClampNeg) < (((gI h b6 (v1 : Int32).toNatClampNeg) + 2) + v3) then
      ck_bd (f_RM_writeBlock F a0 v1 h) fun _ h14 =>
      f_RM_putVariable_J33 F a0 v1 v3 h14
    else
      f_RM_putVariable_J33 F a0 v1 v3 h
  else
    f_RM_putVariable_J33 F a0 v1 v3 h
set_option maxRecDepth 100000 in
set_option maxHeartbeats 4000000 in
theorem s_RM_putVariable {F : Nat} {a0 : Nat} {v1 : Int32} {v2 : Int32} {v3 : Int32} {h h' : ck_H} {r : Unit} (e : f_RM_putVariable F a0 v1 v2 v3 h = some (r, h')) : Go k_RM_putVariable 0 (ck_in [.ref a0, .int v1, .int v2, .int v3] 4) [] h (none, h') := by
  unfold f_RM_putVariable at e
  show Go k_RM_putVariable 0 [some (.ref a0), some (.int v1), some (.int v2), some (.int v3)] [] h _
  refine go_aload_n rfl rfl ?_
  replace e := ck_as_e e
  obtain ⟨hk_1, e⟩ := e
  replace e := ck_some_e e
  obtain ⟨b2, hq_3, e⟩ := e
  refine go_get (v := .ref b2) rfl rfl hk_1 (by decide) (by show va_rf (gR h a0 54) = _; rw [hq_3]; rfl) ?_
  refine go_iload_n rfl rfl ?_
  replace e := ck_as_e e
  obtain ⟨hc_4, e⟩ := e
  refine go_iald rfl hc_4 ?_
  refine go_if_le (t := 33) rfl rfl (fun hx_5 => ?_) (fun hx_5 => ?_)
  · rw [if_pos hx_5] at e
    refine go_aload_n rfl rfl ?_
    replace e := ck_some_e e
    obtain ⟨b6, hq_7, e⟩ := e
    refine go_get (v := .ref b6) rfl rfl hk_1 (by decide) (by show va_rf (gR h a0 54) = _; rw [hq_7]; rfl) ?_
    refine go_iload_n rfl rfl ?_
    replace e := ck_as_e e
    obtain ⟨hc_8, e⟩ := e
    refine go_iald rfl hc_8 ?_
    refine go_iconst (v := 2) rfl (by decide) ?_
    refine go_iadd rfl ?_
    refine go_iload_n rfl rfl ?_
    refine go_iadd rfl ?_
    refine go_aload_n rfl rfl ?_
    replace e := ck_some_e e
    obtain ⟨b9, hq_10, e⟩ := e
    refine go_get (v := .ref b9) rfl rfl hk_1 (by decide) (by show va_rf (gR h a0 37) = _; rw [hq_10]; rfl) ?_
    refine go_iload_n rfl rfl ?_
    replace e := ck_as_e e
    obtain ⟨hc_11, e⟩ := e
    refine go_iald rfl hc_11 ?_
    refine go_icmp_le (t := 33) rfl rfl (fun hx_12 => ?_) (fun hx_12 => ?_)
    · rw [if_pos hx_12] at e
      refine go_aload_n rfl rfl ?_
      refine go_iload_n rfl rfl ?_
      replace e := ck_bd_e e
      obtain ⟨r13, h14, e15, e⟩ := e
      refine go_callV (As := [.int v1]) (b0 := a0) (rest := []) rfl rfl ⟨hk_1, by decide⟩ rfl ⟨Nat.le_of_ble_eq_true rfl, Nat.le_of_ble_eq_true rfl, Nat.le_of_ble_eq_true rfl, Nat.le_of_ble_eq_true rfl⟩ (s_RM_writeBlock e15) ?_
      show Go k_RM_putVariable 33 [some (.ref a0), some (.int v1), some (.int v2), some (.int v3)] [] h14 _
      refine go_forget (l := [some (.ref a0), some (.int v1), none, some (.int v3)]) ⟨Or.inl rfl, Or.inl rfl, Or.inr ⟨rfl, fun _ q => by cases q; rfl⟩, Or.inl rfl, trivial⟩ ?_
      exact f_RM_putVariable_J33_s F a0 v1 v3 _ _ _ e
    · rw [if_neg hx_12] at e
      refine go_forget (l := [some (.ref a0), some (.int v1), none, some (.int v3)]) ⟨Or.inl rfl, Or.inl rfl, Or.inr ⟨rfl, fun _ q => by cases q; rfl⟩, Or.inl rfl, trivial⟩ ?_
      exact f_RM_putVariable_J33_s F a0 v1 v3 _ _ _ e
  · rw [if_neg hx_5] at e
    refine go_forget (l := [some (.ref a0), some (.int v1), none, some (.int v3)]) ⟨Or.inl rfl, Or.inl rfl, Or.inr ⟨rfl, fun _ q => by cases q; rfl⟩, Or.inl rfl, trivial⟩ ?_
    exact f_RM_putVariable_J33_s F a0 v1 v3 _ _ _ e
