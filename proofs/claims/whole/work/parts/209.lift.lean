def f_Op_keepKeyed (F : Nat) (a0 : Nat) (a1 : Nat) (h : ck_H) : Option (Int32 × ck_H) :=
  ck_as (gk h a0 = 5) <|
  ck_opt (gR h a0 4) (
    some ((-3), h)
  ) fun b3 =>
  ck_some (gR h a0 4) fun b4 =>
  ck_as (gk h b4 = 2) <|
  if (gI h b4 6) = (3 : Int32) then
    if (gI h a0 8) = (2 : Int32) then
      ck_as (gk h a1 = 6) <|
      ck_some (gR h a0 4) fun b10 =>
      ck_as (gk h b10 = 2) <|
      ck_some (gR h a0 4) fun b13 =>
      ck_as (gk h b13 = 2) <|
      if (gI h a1 1) = ((gI h b10 7) + (gI h b13 8)) then
        ck_some (gR h a0 4) fun b17 =>
        ck_some (gR h a1 0) fun b19 =>
        ck_as (gk h b17 = 2) <|
        ck_bd (f_DS_homeOf F b17 b19 h) fun r22 h23 =>
        ck_as (gk h23 a0 = 5) <|
        ck_bd (f_Op_changeKeyed F a0 r22 a1 h23) fun r26 h27 =>
        if r26 = (0 : Int32) then
          ck_as (gk h27 a0 = 5) <|
          ck_bd (f_Op_addKeyed F a0 r22 a1 h27) fun r31 h32 =>
          if r31 = (0 : Int32) then
            some ((-4), h32)
          else
            ck_as (gk h32 a0 = 5) <|
            ck_then (wI h32 a0 9 ((gI h32 a0 9) + 1)) fun h36 =>
            some (2, h36)
        else
          ck_as (gk h27 a0 = 5) <|
          ck_then (wI h27 a0 9 ((gI h27 a0 9) + 1)) fun h39 =>
          some (1, h39)
      else
        some ((-5), h)
    else
      some ((-3), h)
  else
    some ((-3), h)
set_option maxRecDepth 100000 in
set_option maxHeartbeats 4000000 in
theorem s_Op_keepKeyed {F : Nat} {a0 : Nat} {a1 : Nat} {h h' : ck_H} {r : Int32} (e : f_Op_keepKeyed F a0 a1 h = some (r, h')) : Go k_Op_keepKeyed 0 (ck_in [.ref a0, .ref a1] 3) [] h (some (.int r), h') := by
  unfold f_Op_keepKeyed at e
  show Go k_Op_keepKeyed 0 [some (.ref a0), some (.ref a1), none] [] h _
  refine go_aload_n rfl rfl ?_
  replace e := ck_as_e e
  obtain ⟨hk_1, e⟩ := e
  replace e := ck_opt_e e
  rcases e with ⟨hq_2, e⟩ | ⟨b3, hq_2, e⟩
  · refine go_get (v := .null) rfl rfl hk_1 (by decide) (by show va_rf (gR h a0 4) = _; rw [hq_2]; rfl) ?_
    refine go_ifnullN (t := 26) rfl rfl ?_
    refine go_bipush (v := (-3)) rfl (by decide) ?_
    cases e
    exact go_ret rfl rfl
  refine go_get (v := .ref b3) rfl rfl hk_1 (by decide) (by show va_rf (gR h a0 4) = _; rw [hq_2]; rfl) ?_
  refine go_ifnull rfl ?_
  refine go_aload_n rfl rfl ?_
  replace e := ck_some_e e
  obtain ⟨b4, hq_5, e⟩ := e
  refine go_get (v := .ref b4) rfl rfl hk_1 (by decide) (by show va_rf (gR h a0 4) = _; rw [hq_5]; rfl) ?_
  replace e := ck_as_e e
  obtain ⟨hk_6, e⟩ := e
  refine go_get (v := .int (gI h b4 6)) rfl rfl hk_6 (by decide) rfl ?_
  refine go_iconst (v := 3) rfl (by decide) ?_
  refine go_icmp_ne (t := 26) rfl rfl (fun hx_7 => ?_) (fun hx_7 => ?_)
  · rw [if_pos hx_7] at e
    refine go_aload_n rfl rfl ?_
    refine go_get (v := .int (gI h a0 8)) rfl rfl hk_1 (by decide) rfl ?_
    refine go_iconst (v := 2) rfl (by decide) ?_
    refine go_icmp_eq (t := 29) rfl rfl (fun hx_8 => ?_) (fun hx_8 => ?_)
    · rw [if_pos hx_8] at e
      refine go_aload_n rfl rfl ?_
      replace e := ck_as_e e
      obtain ⟨hk_9, e⟩ := e
      refine go_get (v := .int (gI h a1 1)) rfl rfl hk_9 (by decide) rfl ?_
      refine go_aload_n rfl rfl ?_
      replace e := ck_some_e e
      obtain ⟨b10, hq_11, e⟩ := e
      refine go_get (v := .ref b10) rfl rfl hk_1 (by decide) (by show va_rf (gR h a0 4) = _; rw [hq_11]; rfl) ?_
      replace e := ck_as_e e
      obtain ⟨hk_12, e⟩ := e
      refine go_get (v := .int (gI h b10 7)) rfl rfl hk_12 (by decide) rfl ?_
      refine go_aload_n rfl rfl ?_
      replace e := ck_some_e e
      obtain ⟨b13, hq_14, e⟩ := e
      refine go_get (v := .ref b13) rfl rfl hk_1 (by decide) (by show va_rf (gR h a0 4) = _; rw [hq_14]; rfl) ?_
      replace e := ck_as_e e
      obtain ⟨hk_15, e⟩ := e
      refine go_get (v := .int (gI h b13 8)) rfl rfl hk_15 (by decide) rfl ?_
      refine go_iadd rfl ?_
      refine go_icmp_eq (t := 54) rfl rfl (fun hx_16 => ?_) (fun hx_16 => ?_)
      · rw [if_pos hx_16] at e
        refine go_aload_n rfl rfl ?_
        replace e := ck_some_e e
        obtain ⟨b17, hq_18, e⟩ := e
        refine go_get (v := .ref b17) rfl rfl hk_1 (by decide) (by show va_rf (gR h a0 4) = _; rw [hq_18]; rfl) ?_
        refine go_aload_n rfl rfl ?_
        replace e := ck_some_e e
        obtain ⟨b19, hq_20, e⟩ := e
        refine go_get (v := .ref b19) rfl rfl hk_9 (by decide) (by show va_rf (gR h a1 0) = _; rw [hq_20]; rfl) ?_
        replace e := ck_as_e e
        obtain ⟨hk_21, e⟩ := e
        replace e := ck_bd_e e
        obtain ⟨r22, h23, e24, e⟩ := e
        refine go_callV (As := [.ref b19]) (b0 := b17) (rest := []) rfl rfl ⟨hk_21, by decide⟩ rfl ⟨Nat.le_of_ble_eq_true rfl, Nat.le_of_ble_eq_true rfl, Nat.le_of_ble_eq_true rfl, Nat.le_of_ble_eq_true rfl⟩ (s_DS_homeOf e24) ?_
        show Go k_Op_keepKeyed 65 [some (.ref a0), some (.ref a1), none] [.int r22] h23 _
        refine go_istore_n rfl rfl ?_
        show Go k_Op_keepKeyed 66 [some (.ref a0), some (.ref a1), some (.int r22)] [] h23 _
        refine go_aload_n rfl rfl ?_
        refine go_iload_n rfl rfl ?_
        refine go_aload_n rfl rfl ?_
        replace e := ck_as_e e
        obtain ⟨hk_25, e⟩ := e
        replace e := ck_bd_e e
        obtain ⟨r26, h27, e28, e⟩ := e
        refine go_callV (As := [.int r22, .ref a1]) (b0 := a0) (rest := []) rfl rfl ⟨hk_25, by decide⟩ rfl ⟨Nat.le_of_ble_eq_true rfl, Nat.le_of_ble_eq_true rfl, Nat.le_of_ble_eq_true rfl, Nat.le_of_ble_eq_true rfl⟩ (s_Op_changeKeyed e28) ?_
        show Go k_Op_keepKeyed 72 [some (.ref a0), some (.ref a1), some (.int r22)] [.int r26] h27 _
        refine go_if_eq (t := 87) rfl rfl (fun hx_29 => ?_) (fun hx_29 => ?_)
        · rw [if_pos hx_29] at e
          refine go_aload_n rfl rfl ?_
          refine go_iload_n rfl rfl ?_
          refine go_aload_n rfl rfl ?_
          replace e := ck_as_e e
          obtain ⟨hk_30, e⟩ := e
          replace e := ck_bd_e e
          obtain ⟨r31, h32, e33, e⟩ := e
          refine go_callV (As := [.int r22, .ref a1]) (b0 := a0) (rest := []) rfl rfl ⟨hk_30, by decide⟩ rfl ⟨Nat.le_of_ble_eq_true rfl, Nat.le_of_ble_eq_true rfl, Nat.le_of_ble_eq_true rfl, Nat.le_of_ble_eq_true rfl⟩ (s_Op_addKeyed e33) ?_
          show Go k_Op_keepKeyed 93 [some (.ref a0), some (.ref a1), some (.int r22)] [.int r31] h32 _
          refine go_if_eq (t := 108) rfl rfl (fun hx_34 => ?_) (fun hx_34 => ?_)
          · rw [if_pos hx_34] at e
            refine go_bipush (v := (-4)) rfl (by decide) ?_
            cases e
            exact go_ret rfl rfl
          · rw [if_neg hx_34] at e
            refine go_aload_n rfl rfl ?_
            refine go_dup rfl rfl ?_
            replace e := ck_as_e e
            obtain ⟨hk_35, e⟩ := e
            refine go_get (v := .int (gI h32 a0 9)) rfl rfl hk_35 (by decide) rfl ?_
            refine go_iconst (v := 1) rfl (by decide) ?_
            refine go_iadd rfl ?_
            refine go_put (h1 := wI h32 a0 9 ((gI h32 a0 9) + 1)) rfl rfl hk_35 ⟨by decide, by decide, Or.inl rfl⟩ rfl ?_
            have hk_37 : gk (wI h32 a0 9 ((gI h32 a0 9) + 1)) a0 = 5 := ck_kI.trans hk_35
            generalize wI h32 a0 9 ((gI h32 a0 9) + 1) = h36 at e hk_37 ⊢
            replace e := ck_then_e e
            refine go_iconst (v := 2) rfl (by decide) ?_
            cases e
            exact go_ret rfl rfl
        · rw [if_neg hx_29] at e
          refine go_aload_n rfl rfl ?_
          refine go_dup rfl rfl ?_
          replace e := ck_as_e e
          obtain ⟨hk_38, e⟩ := e
          refine go_get (v := .int (gI h27 a0 9)) rfl rfl hk_38 (by decide) rfl ?_
          refine go_iconst (v := 1) rfl (by decide) ?_
          refine go_iadd rfl ?_
          refine go_put (h1 := wI h27 a0 9 ((gI h27 a0 9) + 1)) rfl rfl hk_38 ⟨by decide, by decide, Or.inl rfl⟩ rfl ?_
          have hk_40 : gk (wI h27 a0 9 ((gI h27 a0 9) + 1)) a0 = 5 := ck_kI.trans hk_38
          generalize wI h27 a0 9 ((gI h27 a0 9) + 1) = h39 at e hk_40 ⊢
          replace e := ck_then_e e
          refine go_iconst (v := 1) rfl (by decide) ?_
          cases e
          exact go_ret rfl rfl
      · rw [if_neg hx_16] at e
        refine go_bipush (v := (-5)) rfl (by decide) ?_
        cases e
        exact go_ret rfl rfl
    · rw [if_neg hx_8] at e
      refine go_bipush (v := (-3)) rfl (by decide) ?_
      cases e
      exact go_ret rfl rfl
  · rw [if_neg hx_7] at e
    refine go_bipush (v := (-3)) rfl (by decide) ?_
    cases e
    exact go_ret rfl rfl
def f_CS_putKeyed (F : Nat) (a0 : Nat) (v1 : Int32) (h : ck_H) : Option (Int32 × ck_H) :=
  ck_as (gk h a0 = 11) <|
  ck_bd (f_CS_openingAt F a0 v1 h) fun r2 h3 =>
  ck_opt r2 (
    ck_as (gk h3 a0 = 11) <|
    ck_some (gR h3 a0 0) fun b8 =>
    ck_as (gk h3 b8 = 6) <|
    ck_then (wI h3 b8 1 0) fun h11 =>
    some ((-3), h11)
  ) fun b6 =>
  ck_as (gk h3 a0 = 11) <|
  ck_some (gR h3 a0 0) fun b15 =>
  ck_as (gk h3 b6 = 5) <|
  ck_bd (f_Op_keepKeyed F b6 b15 h3) fun r18 h19 =>
  ck_as (gk h19 a0 = 11) <|
  ck_some (gR h19 a0 0) fun b22 =>
  ck_as (gk h19 b22 = 6) <|
  ck_then (wI h19 b22 1 0) fun h25 =>
  some (r18, h25)
set_option maxRecDepth 100000 in
set_option maxHeartbeats 4000000 in
theorem s_CS_putKeyed {F : Nat} {a0 : Nat} {v1 : Int32} {h h' : ck_H} {r : Int32} (e : f_CS_putKeyed F a0 v1 h = some (r, h')) : Go k_CS_putKeyed 0 (ck_in [.ref a0, .int v1] 4) [] h (some (.int r), h') := by
  unfold f_CS_putKeyed at e
  show Go k_CS_putKeyed 0 [some (.ref a0), some (.int v1), none, none] [] h _
  refine go_aload_n rfl rfl ?_
  refine go_iload_n rfl rfl ?_
  replace e := ck_as_e e
  obtain ⟨hk_1, e⟩ := e
  replace e := ck_bd_e e
  obtain ⟨r2, h3, e4, e⟩ := e
  refine go_callV (As := [.int v1]) (b0 := a0) (rest := []) rfl rfl ⟨hk_1, by decide⟩ rfl ⟨Nat.le_of_ble_eq_true rfl, Nat.le_of_ble_eq_true rfl, Nat.le_of_ble_eq_true rfl, Nat.le_of_ble_eq_true rfl⟩ (s_CS_openingAt e4) ?_
  replace e := ck_opt_e e
  rcases e with ⟨hq_5, e⟩ | ⟨b6, hq_5, e⟩
  · subst hq_5
    show Go k_CS_putKeyed 5 [some (.ref a0), some (.int v1), none, none] [.null] h3 _
    refine go_astore_nN rfl rfl ?_
    show Go k_CS_putKeyed 6 [some (.ref a0), some (.int v1), some .null, none] [] h3 _
    refine go_aload_nN rfl rfl ?_
    refine go_ifnonnullN rfl ?_
    refine go_bipush (v := (-3)) rfl (by decide) ?_
    refine go_goto (t := 23) rfl rfl ?_
    refine go_istore_n rfl rfl ?_
    show Go k_CS_putKeyed 24 [some (.ref a0), some (.int v1), some .null, some (.int (-3))] [] h3 _
    refine go_aload_n rfl rfl ?_
    replace e := ck_as_e e
    obtain ⟨hk_7, e⟩ := e
    replace e := ck_some_e e
    obtain ⟨b8, hq_9, e⟩ := e
    refine go_get (v := .ref b8) rfl rfl hk_7 (by decide) (by show va_rf (gR h3 a0 0) = _; rw [hq_9]; rfl) ?_
    refine go_iconst (v := 0) rfl (by decide) ?_
    replace e := ck_as_e e
    obtain ⟨hk_10, e⟩ := e
    refine go_put (h1 := wI h3 b8 1 0) rfl rfl hk_10 ⟨by decide, by decide, Or.inl rfl⟩ rfl ?_
    have hk_12 : gk (wI h3 b8 1 0) a0 = 11 := ck_kI.trans hk_7
    have hk_13 : gk (wI h3 b8 1 0) b8 = 6 := ck_kI.trans hk_10
    generalize wI h3 b8 1 0 = h11 at e hk_12 hk_13 ⊢
    replace e := ck_then_e e
    refine go_iload_n rfl rfl ?_
    cases e
    exact go_ret rfl rfl
  subst hq_5
  show Go k_CS_putKeyed 5 [some (.ref a0), some (.int v1), none, none] [.ref b6] h3 _
  refine go_astore_n rfl rfl ?_
  show Go k_CS_putKeyed 6 [some (.ref a0), some (.int v1), some (.ref b6), none] [] h3 _
  refine go_aload_n rfl rfl ?_
  refine go_ifnonnull (t := 15) rfl rfl ?_
  refine go_aload_n rfl rfl ?_
  refine go_aload_n rfl rfl ?_
  replace e := ck_as_e e
  obtain ⟨hk_14, e⟩ := e
  replace e := ck_some_e e
  obtain ⟨b15, hq_16, e⟩ := e
  refine go_get (v := .ref b15) rfl rfl hk_14 (by decide) (by show va_rf (gR h3 a0 0) = _; rw [hq_16]; rfl) ?_
  replace e := ck_as_e e
  obtain ⟨hk_17, e⟩ := e
  replace e := ck_bd_e e
  obtain ⟨r18, h19, e20, e⟩ := e
  refine go_callV (As := [.ref b15]) (b0 := b6) (rest := []) rfl rfl ⟨hk_17, by decide⟩ rfl ⟨Nat.le_of_ble_eq_true rfl, Nat.le_of_ble_eq_true rfl, Nat.le_of_ble_eq_true rfl, Nat.le_of_ble_eq_true rfl⟩ (s_Op_keepKeyed e20) ?_
  show Go k_CS_putKeyed 23 [some (.ref a0), some (.int v1), some (.ref b6), none] [.int r18] h19 _
  refine go_istore_n rfl rfl ?_
  show Go k_CS_putKeyed 24 [some (.ref a0), some (.int v1), some (.ref b6), some (.int r18)] [] h19 _
  refine go_aload_n rfl rfl ?_
  replace e := ck_as_e e
  obtain ⟨hk_21, e⟩ := e
  replace e := ck_some_e e
  obtain ⟨b22, hq_23, e⟩ := e
  refine go_get (v := .ref b22) rfl rfl hk_21 (by decide) (by show va_rf (gR h19 a0 0) = _; rw [hq_23]; rfl) ?_
  refine go_iconst (v := 0) rfl (by decide) ?_
  replace e := ck_as_e e
  obtain ⟨hk_24, e⟩ := e
  refine go_put (h1 := wI h19 b22 1 0) rfl rfl hk_24 ⟨by decide, by decide, Or.inl rfl⟩ rfl ?_
  have hk_26 : gk (wI h19 b22 1 0) a0 = 11 := ck_kI.trans hk_21
  have hk_27 : gk (wI h19 b22 1 0) b22 = 6 := ck_kI.trans hk_24
  generalize wI h19 b22 1 0 = h25 at e hk_26 hk_27 ⊢
  replace e := ck_then_e e
  refine go_iload_n rfl rfl ?_
  cases e
  exact go_ret rfl rfl
def f_Op_tellKeyed (F : Nat) (a0 : Nat) (a1 : Nat) (v2 : Int32) (a3 : Nat) (h : ck_H) : Option (Int32 × ck_H) :=
  ck_as (gk h a1 = 8) <|
  ck_bd (f_Tr_isSpoiled F a1 v2 h) fun r2 h3 =>
  if r2 = (0 : Int32) then
    ck_as (gk h3 a0 = 5) <|
    ck_some (gR h3 a0 4) fun b7 =>
    ck_as (gk h3 b7 = 2) <|
    ck_as (gk h3 a3 = 6) <|
    ck_some (gR h3 a3 0) fun b11 =>
    ck_some (gR h3 a0 4) fun b13 =>
    ck_as (gk h3 b13 = 2) <|
    ck_as (gk h3 a1 = 8) <|
    ck_bd (f_Tr_fetch F a1 v2 (gI h3 b7 7) b11 0 (gI h3 b13 8) h3) fun _ h18 =>
    ck_as (gk h18 a0 = 5) <|
    ck_some (gR h18 a0 4) fun b21 =>
    ck_as (gk h18 b21 = 2) <|
    ck_as (gk h18 a3 = 6) <|
    ck_then (wI h18 a3 1 (gI h18 b21 8)) fun h25 =>
    ck_then (wI h25 a0 9 ((gI h25 a0 9) + 1)) fun h29 =>
    ck_some (gR h29 a0 4) fun b33 =>
    ck_as (gk h29 b33 = 2) <|
    some (gI h29 b33 8, h29)
  else
    some ((-6), h3)
set_option maxRecDepth 100000 in
set_option maxHeartbeats 4000000 in
theorem s_Op_tellKeyed {F : Nat} {a0 : Nat} {a1 : Nat} {v2 : Int32} {a3 : Nat} {h h' : ck_H} {r : Int32} (e : f_Op_tellKeyed F a0 a1 v2 a3 h = some (r, h')) : Go k_Op_tellKeyed 0 (ck_in [.ref a0, .ref a1, .int v2, .ref a3] 4) [] h (some (.int r), h') := by
  unfold f_Op_tellKeyed at e
  show Go k_Op_tellKeyed 0 [some (.ref a0), some (.ref a1), some (.int v2), some (.ref a3)] [] h _
  refine go_aload_n rfl rfl ?_
  refine go_iload_n rfl rfl ?_
  replace e := ck_as_e e
  obtain ⟨hk_1, e⟩ := e
  replace e := ck_bd_e e
  obtain ⟨r2, h3, e4, e⟩ := e
  refine go_callV (As := [.int v2]) (b0 := a1) (rest := []) rfl rfl ⟨hk_1, by decide⟩ rfl ⟨Nat.le_of_ble_eq_true rfl, Nat.le_of_ble_eq_true rfl, Nat.le_of_ble_eq_true rfl, Nat.le_of_ble_eq_true rfl⟩ (s_Tr_isSpoiled e4) ?_
  show Go k_Op_tellKeyed 5 [some (.ref a0), some (.ref a1), some (.int v2), some (.ref a3)] [.int r2] h3 _
  refine go_if_eq (t := 11) rfl rfl (fun hx_5 => ?_) (fun hx_5 => ?_)
  · rw [if_pos hx_5] at e
    refine go_aload_n rfl rfl ?_
    refine go_iload_n rfl rfl ?_
    refine go_aload_n rfl rfl ?_
    replace e := ck_as_e e
    obtain ⟨hk_6, e⟩ := e
    replace e := ck_some_e e
    obtain ⟨b7, hq_8, e⟩ := e
    refine go_get (v := .ref b7) rfl rfl hk_6 (by decide) (by show va_rf (gR h3 a0 4) = _; rw [hq_8]; rfl) ?_
    replace e := ck_as_e e
    obtain ⟨hk_9, e⟩ := e
    refine go_get (v := .int (gI h3 b7 7)) rfl rfl hk_9 (by decide) rfl ?_
    refine go_aload_n rfl rfl ?_
    replace e := ck_as_e e
    obtain ⟨hk_10, e⟩ := e
    replace e := ck_some_e e
    obtain ⟨b11, hq_12, e⟩ := e
    refine go_get (v := .ref b11) rfl rfl hk_10 (by decide) (by show va_rf (gR h3 a3 0) = _; rw [hq_12]; rfl) ?_
    refine go_iconst (v := 0) rfl (by decide) ?_
    refine go_aload_n rfl rfl ?_
    replace e := ck_some_e e
    obtain ⟨b13, hq_14, e⟩ := e
    refine go_get (v := .ref b13) rfl rfl hk_6 (by decide) (by show va_rf (gR h3 a0 4) = _; rw [hq_14]; rfl) ?_
    replace e := ck_as_e e
    obtain ⟨hk_15, e⟩ := e
    refine go_get (v := .int (gI h3 b13 8)) rfl rfl hk_15 (by decide) rfl ?_
    replace e := ck_as_e e
    obtain ⟨hk_16, e⟩ := e
    replace e := ck_bd_e e
    obtain ⟨r17, h18, e19, e⟩ := e
    refine go_callV (As := [.int v2, .int (gI h3 b7 7), .ref b11, .int 0, .int (gI h3 b13 8)]) (b0 := a1) (rest := []) rfl rfl ⟨hk_16, by decide⟩ rfl ⟨Nat.le_of_ble_eq_true rfl, Nat.le_of_ble_eq_true rfl, Nat.le_of_ble_eq_true rfl, Nat.le_of_ble_eq_true rfl⟩ (s_Tr_fetch e19) ?_
    show Go k_Op_tellKeyed 35 [some (.ref a0), some (.ref a1), some (.int v2), some (.ref a3)] [] h18 _
    refine go_aload_n rfl rfl ?_
    refine go_aload_n rfl rfl ?_
    replace e := ck_as_e e
    obtain ⟨hk_20, e⟩ := e
    replace e := ck_some_e e
    obtain ⟨b21, hq_22, e⟩ := e
    refine go_get (v := .ref b21) rfl rfl hk_20 (by decide) (by show va_rf (gR h18 a0 4) = _; rw [hq_22]; rfl) ?_
    replace e := ck_as_e e
    obtain ⟨hk_23, e⟩ := e
    refine go_get (v := .int (gI h18 b21 8)) rfl rfl hk_23 (by decide) rfl ?_
    replace e := ck_as_e e
    obtain ⟨hk_24, e⟩ := e
    refine go_put (h1 := wI h18 a3 1 (gI h18 b21 8)) rfl rfl hk_24 ⟨by decide, by decide, Or.inl rfl⟩ rfl ?_
    have hk_26 : gk (wI h18 a3 1 (gI h18 b21 8)) a0 = 5 := ck_kI.trans hk_20
    have hk_27 : gk (wI h18 a3 1 (gI h18 b21 8)) b21 = 2 := ck_kI.trans hk_23
    have hk_28 : gk (wI h18 a3 1 (gI h18 b21 8)) a3 = 6 := ck_kI.trans hk_24
    generalize wI h18 a3 1 (gI h18 b21 8) = h25 at e hk_26 hk_27 hk_28 ⊢
    replace e := ck_then_e e
    refine go_aload_n rfl rfl ?_
    refine go_dup rfl rfl ?_
    refine go_get (v := .int (gI h25 a0 9)) rfl rfl hk_26 (by decide) rfl ?_
    refine go_iconst (v := 1) rfl (by decide) ?_
    refine go_iadd rfl ?_
    refine go_put (h1 := wI h25 a0 9 ((gI h25 a0 9) + 1)) rfl rfl hk_26 ⟨by decide, by decide, Or.inl rfl⟩ rfl ?_
    have hk_30 : gk (wI h25 a0 9 ((gI h25 a0 9) + 1)) a0 = 5 := ck_kI.trans hk_26
    have hk_31 : gk (wI h25 a0 9 ((gI h25 a0 9) + 1)) b21 = 2 := ck_kI.trans hk_27
    have hk_32 : gk (wI h25 a0 9 ((gI h25 a0 9) + 1)) a3 = 6 := ck_kI.trans hk_28
    generalize wI h25 a0 9 ((gI h25 a0 9) + 1) = h29 at e hk_30 hk_31 hk_32 ⊢
    replace e := ck_then_e e
    refine go_aload_n rfl rfl ?_
    replace e := ck_some_e e
    obtain ⟨b33, hq_34, e⟩ := e
    refine go_get (v := .ref b33) rfl rfl hk_30 (by decide) (by show va_rf (gR h29 a0 4) = _; rw [hq_34]; rfl) ?_
    replace e := ck_as_e e
    obtain ⟨hk_35, e⟩ := e
    refine go_get (v := .int (gI h29 b33 8)) rfl rfl hk_35 (by decide) rfl ?_
    cases e
    exact go_ret rfl rfl
  · rw [if_neg hx_5] at e
    refine go_bipush (v := (-6)) rfl (by decide) ?_
    cases e
    exact go_ret rfl rfl
def f_Op_findKeyed_L53 (F : Nat)  : Nat → Nat → Nat → Nat → Int32 → Int32 → ck_H → Option (Int32 × ck_H)
  | 0, _, _, _, _, _, _ => none
  | n + 1, a0, a1, a2, v3, v4, h =>
    if v4 < (4 : Int32) then
      ck_as (gk h a0 = 5) <|
      ck_bd (f_Op_trackLookedAt F a0 v3 v4 h) fun r3 h4 =>
      ck_opt r3 (
        f_Op_findKeyed_L53 F n a0 a1 a2 v3 (v4 + 1) h4
      ) fun b7 =>
      ck_as (gk h4 a1 = 6) <|
      ck_some (gR h4 a1 0) fun b9 =>
      ck_as (gk h4 a0 = 5) <|
      ck_some (gR h4 a0 4) fun b12 =>
      ck_as (gk h4 b12 = 2) <|
      ck_as (gk h4 b7 = 8) <|
      ck_bd (f_Tr_findKey F b7 b9 (gI h4 b12 7) h4) fun r16 h17 =>
      if r16 < (0 : Int32) then
        f_Op_findKeyed_L53 F n a0 a1 a2 v3 (v4 + 1) h17
      else
        ck_as (gk h17 a0 = 5) <|
        ck_bd (f_Op_tellKeyed F a0 b7 r16 a2 h17) fun r21 h22 =>
        some (r21, h22)
    else
      some ((-1), h)
set_option maxRecDepth 100000 in
set_option maxHeartbeats 4000000 in
theorem f_Op_findKeyed_L53_s (F : Nat)   : ∀ (n : Nat) (a0 : Nat) (a1 : Nat) (a2 : Nat) (v3 : Int32) (v4 : Int32) (h : ck_H) (r : Int32) (h' : ck_H), f_Op_findKeyed_L53 F n a0 a1 a2 v3 v4 h = some (r, h') → Go k_Op_findKeyed 53 [some (.ref a0), some (.ref a1), some (.ref a2), some (.int v3), some (.int v4), none, none] [] h (some (.int r), h') := by
  intro n
  induction n with
  | zero => intro a0 a1 a2 v3 v4 h r h' e; simp only [f_Op_findKeyed_L53] at e; cases e
  | succ n ih =>
    intro a0 a1 a2 v3 v4 h r h' e
    rw [f_Op_findKeyed_L53] at e
    refine go_iload rfl rfl ?_
    refine go_iconst (v := 4) rfl (by decide) ?_
    refine go_icmp_ge (t := 121) rfl rfl (fun hx_1 => ?_) (fun hx_1 => ?_)
    · rw [if_pos hx_1] at e
      refine go_aload_n rfl rfl ?_
      refine go_iload_n rfl rfl ?_
      refine go_iload rfl rfl ?_
      replace e := ck_as_e e
      obtain ⟨hk_2, e⟩ := e
      replace e := ck_bd_e e
      obtain ⟨r3, h4, e5, e⟩ := e
      refine go_callV (As := [.int v3, .int v4]) (b0 := a0) (rest := []) rfl rfl ⟨hk_2, by decide⟩ rfl ⟨Nat.le_of_ble_eq_true rfl, Nat.le_of_ble_eq_true rfl, Nat.le_of_ble_eq_true rfl, Nat.le_of_ble_eq_true rfl⟩ (s_Op_trackLookedAt e5) ?_
      replace e := ck_opt_e e
      rcases e with ⟨hq_6, e⟩ | ⟨b7, hq_6, e⟩
      · subst hq_6
        show Go k_Op_findKeyed 66 [some (.ref a0), some (.ref a1), some (.ref a2), some (.int v3), some (.int v4), none, none] [.null] h4 _
        refine go_astoreN rfl rfl ?_
        show Go k_Op_findKeyed 68 [some (.ref a0), some (.ref a1), some (.ref a2), some (.int v3), some (.int v4), some .null, none] [] h4 _
        refine go_aloadN rfl rfl ?_
        refine go_ifnonnullN rfl ?_
        refine go_iconst (v := (-1)) rfl (by decide) ?_
        refine go_goto (t := 93) rfl rfl ?_
        refine go_istore rfl rfl ?_
        show Go k_Op_findKeyed 95 [some (.ref a0), some (.ref a1), some (.ref a2), some (.int v3), some (.int v4), some .null, some (.int (-1))] [] h4 _
        refine go_aloadN rfl rfl ?_
        refine go_ifnullN (t := 115) rfl rfl ?_
        refine go_iinc (v := 1) rfl rfl (by decide) rfl ?_
        show Go k_Op_findKeyed 118 [some (.ref a0), some (.ref a1), some (.ref a2), some (.int v3), some (.int (v4 + 1)), some .null, some (.int (-1))] [] h4 _
        refine go_goto (t := 53) rfl rfl ?_
        refine go_forget (l := [some (.ref a0), some (.ref a1), some (.ref a2), some (.int v3), some (.int (v4 + 1)), none, none]) ⟨Or.inl rfl, Or.inl rfl, Or.inl rfl, Or.inl rfl, Or.inl rfl, Or.inr ⟨rfl, fun _ q => by cases q; rfl⟩, Or.inr ⟨rfl, fun _ q => by cases q; rfl⟩, trivial⟩ ?_
        exact ih _ _ _ _ _ _ _ _ e
      subst hq_6
      show Go k_Op_findKeyed 66 [some (.ref a0), some (.ref a1), some (.ref a2), some (.int v3), some (.int v4), none, none] [.ref b7] h4 _
      refine go_astore rfl rfl ?_
      show Go k_Op_findKeyed 68 [some (.ref a0), some (.ref a1), some (.ref a2), some (.int v3), some (.int v4), some (.ref b7), none] [] h4 _
      refine go_aload rfl rfl ?_
      refine go_ifnonnull (t := 77) rfl rfl ?_
      refine go_aload rfl rfl ?_
      refine go_aload_n rfl rfl ?_
      replace e := ck_as_e e
      obtain ⟨hk_8, e⟩ := e
      replace e := ck_some_e e
      obtain ⟨b9, hq_10, e⟩ := e
      refine go_get (v := .ref b9) rfl rfl hk_8 (by decide) (by show va_rf (gR h4 a1 0) = _; rw [hq_10]; rfl) ?_
      refine go_aload_n rfl rfl ?_
      replace e := ck_as_e e
      obtain ⟨hk_11, e⟩ := e
      replace e := ck_some_e e
      obtain ⟨b12, hq_13, e⟩ := e
      refine go_get (v := .ref b12) rfl rfl hk_11 (by decide) (by show va_rf (gR h4 a0 4) = _; rw [hq_13]; rfl) ?_
      replace e := ck_as_e e
      obtain ⟨hk_14, e⟩ := e
      refine go_get (v := .int (gI h4 b12 7)) rfl rfl hk_14 (by decide) rfl ?_
      replace e := ck_as_e e
      obtain ⟨hk_15, e⟩ := e
      replace e := ck_bd_e e
      obtain ⟨r16, h17, e18, e⟩ := e
      refine go_callV (As := [.ref b9, .int (gI h4 b12 7)]) (b0 := b7) (rest := []) rfl rfl ⟨hk_15, by decide⟩ rfl ⟨Nat.le_of_ble_eq_true rfl, Nat.le_of_ble_eq_true rfl, Nat.le_of_ble_eq_true rfl, Nat.le_of_ble_eq_true rfl⟩ (s_Tr_findKey e18) ?_
      show Go k_Op_findKeyed 93 [some (.ref a0), some (.ref a1), some (.ref a2), some (.int v3), some (.int v4), some (.ref b7), none] [.int r16] h17 _
      refine go_istore rfl rfl ?_
      show Go k_Op_findKeyed 95 [some (.ref a0), some (.ref a1), some (.ref a2), some (.int v3), some (.int v4), some (.ref b7), some (.int r16)] [] h17 _
      refine go_aload rfl rfl ?_
      refine go_ifnull rfl ?_
      refine go_iload rfl rfl ?_
      refine go_if_lt (t := 115) rfl rfl (fun hx_19 => ?_) (fun hx_19 => ?_)
      · rw [if_pos hx_19] at e
        refine go_iinc (v := 1) rfl rfl (by decide) rfl ?_
        show Go k_Op_findKeyed 118 [some (.ref a0), some (.ref a1), some (.ref a2), some (.int v3), some (.int (v4 + 1)), some (.ref b7), some (.int r16)] [] h17 _
        refine go_goto (t := 53) rfl rfl ?_
        refine go_forget (l := [some (.ref a0), some (.ref a1), some (.ref a2), some (.int v3), some (.int (v4 + 1)), none, none]) ⟨Or.inl rfl, Or.inl rfl, Or.inl rfl, Or.inl rfl, Or.inl rfl, Or.inr ⟨rfl, fun _ q => by cases q; rfl⟩, Or.inr ⟨rfl, fun _ q => by cases q; rfl⟩, trivial⟩ ?_
        exact ih _ _ _ _ _ _ _ _ e
      · rw [if_neg hx_19] at e
        refine go_aload_n rfl rfl ?_
        refine go_aload rfl rfl ?_
        refine go_iload rfl rfl ?_
        refine go_aload_n rfl rfl ?_
        replace e := ck_as_e e
        obtain ⟨hk_20, e⟩ := e
        replace e := ck_bd_e e
        obtain ⟨r21, h22, e23, e⟩ := e
        refine go_callV (As := [.ref b7, .int r16, .ref a2]) (b0 := a0) (rest := []) rfl rfl ⟨hk_20, by decide⟩ rfl ⟨Nat.le_of_ble_eq_true rfl, Nat.le_of_ble_eq_true rfl, Nat.le_of_ble_eq_true rfl, Nat.le_of_ble_eq_true rfl⟩ (s_Op_tellKeyed e23) ?_
        show Go k_Op_findKeyed 114 [some (.ref a0), some (.ref a1), some (.ref a2), some (.int v3), some (.int v4), some (.ref b7), some (.int r16)] [.int r21] h22 _
        cases e
        exact go_ret rfl rfl
    · rw [if_neg hx_1] at e
      refine go_iconst (v := (-1)) rfl (by decide) ?_
      cases e
      exact go_ret rfl rfl
def f_Op_findKeyed (F : Nat) (a0 : Nat) (a1 : Nat) (a2 : Nat) (h : ck_H) : Option (Int32 × ck_H) :=
  ck_as (gk h a0 = 5) <|
  ck_opt (gR h a0 4) (
    some ((-3), h)
  ) fun b3 =>
  ck_some (gR h a0 4) fun b4 =>
  ck_as (gk h b4 = 2) <|
  if (gI h b4 6) = (3 : Int32) then
    ck_as (gk h a1 = 6) <|
    ck_some (gR h a0 4) fun b9 =>
    ck_as (gk h b9 = 2) <|
    if (gI h a1 1) = (gI h b9 7) then
      ck_some (gR h a0 4) fun b13 =>
      ck_some (gR h a1 0) fun b15 =>
      ck_as (gk h b13 = 2) <|
      ck_bd (f_DS_homeOf F b13 b15 h) fun r18 h19 =>
      f_Op_findKeyed_L53 F F a0 a1 a2 r18 0 h19
    else
      some ((-5), h)
  else
    some ((-3), h)
set_option maxRecDepth 100000 in
set_option maxHeartbeats 4000000 in
theorem s_Op_findKeyed {F : Nat} {a0 : Nat} {a1 : Nat} {a2 : Nat} {h h' : ck_H} {r : Int32} (e : f_Op_findKeyed F a0 a1 a2 h = some (r, h')) : Go k_Op_findKeyed 0 (ck_in [.ref a0, .ref a1, .ref a2] 7) [] h (some (.int r), h') := by
  unfold f_Op_findKeyed at e
  show Go k_Op_findKeyed 0 [some (.ref a0), some (.ref a1), some (.ref a2), none, none, none, none] [] h _
  refine go_aload_n rfl rfl ?_
  replace e := ck_as_e e
  obtain ⟨hk_1, e⟩ := e
  replace e := ck_opt_e e
  rcases e with ⟨hq_2, e⟩ | ⟨b3, hq_2, e⟩
  · refine go_get (v := .null) rfl rfl hk_1 (by decide) (by show va_rf (gR h a0 4) = _; rw [hq_2]; rfl) ?_
    refine go_ifnullN (t := 18) rfl rfl ?_
    refine go_bipush (v := (-3)) rfl (by decide) ?_
    cases e
    exact go_ret rfl rfl
  refine go_get (v := .ref b3) rfl rfl hk_1 (by decide) (by show va_rf (gR h a0 4) = _; rw [hq_2]; rfl) ?_
  refine go_ifnull rfl ?_
  refine go_aload_n rfl rfl ?_
  replace e := ck_some_e e
  obtain ⟨b4, hq_5, e⟩ := e
  refine go_get (v := .ref b4) rfl rfl hk_1 (by decide) (by show va_rf (gR h a0 4) = _; rw [hq_5]; rfl) ?_
  replace e := ck_as_e e
  obtain ⟨hk_6, e⟩ := e
  refine go_get (v := .int (gI h b4 6)) rfl rfl hk_6 (by decide) rfl ?_
  refine go_iconst (v := 3) rfl (by decide) ?_
  refine go_icmp_eq (t := 21) rfl rfl (fun hx_7 => ?_) (fun hx_7 => ?_)
  · rw [if_pos hx_7] at e
    refine go_aload_n rfl rfl ?_
    replace e := ck_as_e e
    obtain ⟨hk_8, e⟩ := e
    refine go_get (v := .int (gI h a1 1)) rfl rfl hk_8 (by decide) rfl ?_
    refine go_aload_n rfl rfl ?_
    replace e := ck_some_e e
    obtain ⟨b9, hq_10, e⟩ := e
    refine go_get (v := .ref b9) rfl rfl hk_1 (by decide) (by show va_rf (gR h a0 4) = _; rw [hq_10]; rfl) ?_
    replace e := ck_as_e e
    obtain ⟨hk_11, e⟩ := e
    refine go_get (v := .int (gI h b9 7)) rfl rfl hk_11 (by decide) rfl ?_
    refine go_icmp_eq (t := 38) rfl rfl (fun hx_12 => ?_) (fun hx_12 => ?_)
    · rw [if_pos hx_12] at e
      refine go_aload_n rfl rfl ?_
      replace e := ck_some_e e
      obtain ⟨b13, hq_14, e⟩ := e
      refine go_get (v := .ref b13) rfl rfl hk_1 (by decide) (by show va_rf (gR h a0 4) = _; rw [hq_14]; rfl) ?_
      refine go_aload_n rfl rfl ?_
      replace e := ck_some_e e
      obtain ⟨b15, hq_16, e⟩ := e
      refine go_get (v := .ref b15) rfl rfl hk_8 (by decide) (by show va_rf (gR h a1 0) = _; rw [hq_16]; rfl) ?_
      replace e := ck_as_e e
      obtain ⟨hk_17, e⟩ := e
      replace e := ck_bd_e e
      obtain ⟨r18, h19, e20, e⟩ := e
      refine go_callV (As := [.ref b15]) (b0 := b13) (rest := []) rfl rfl ⟨hk_17, by decide⟩ rfl ⟨Nat.le_of_ble_eq_true rfl, Nat.le_of_ble_eq_true rfl, Nat.le_of_ble_eq_true rfl, Nat.le_of_ble_eq_true rfl⟩ (s_DS_homeOf e20) ?_
      show Go k_Op_findKeyed 49 [some (.ref a0), some (.ref a1), some (.ref a2), none, none, none, none] [.int r18] h19 _
      refine go_istore_n rfl rfl ?_
      show Go k_Op_findKeyed 50 [some (.ref a0), some (.ref a1), some (.ref a2), some (.int r18), none, none, none] [] h19 _
      refine go_iconst (v := 0) rfl (by decide) ?_
      refine go_istore rfl rfl ?_
      show Go k_Op_findKeyed 53 [some (.ref a0), some (.ref a1), some (.ref a2), some (.int r18), some (.int 0), none, none] [] h19 _
      refine go_forget (l := [some (.ref a0), some (.ref a1), some (.ref a2), some (.int r18), some (.int 0), none, none]) ⟨Or.inl rfl, Or.inl rfl, Or.inl rfl, Or.inl rfl, Or.inl rfl, Or.inl rfl, Or.inl rfl, trivial⟩ ?_
      exact f_Op_findKeyed_L53_s F F _ _ _ _ _ _ _ _ e
    · rw [if_neg hx_12] at e
      refine go_bipush (v := (-5)) rfl (by decide) ?_
      cases e
      exact go_ret rfl rfl
  · rw [if_neg hx_7] at e
    refine go_bipush (v := (-3)) rfl (by decide) ?_
    cases e
    exact go_ret rfl rfl
def f_CS_getKeyed (F : Nat) (a0 : Nat) (v1 : Int32) (h : ck_H) : Option (Int32 × ck_H) :=
  ck_as (gk h a0 = 11) <|
  ck_bd (f_CS_openingAt F a0 v1 h) fun r2 h3 =>
  ck_opt r2 (
    ck_as (gk h3 a0 = 11) <|
    ck_some (gR h3 a0 0) fun b8 =>
    ck_as (gk h3 b8 = 6) <|
    ck_then (wI h3 b8 1 0) fun h11 =>
    some ((-3), h11)
  ) fun b6 =>
  ck_as (gk h3 a0 = 11) <|
  ck_some (gR h3 a0 0) fun b15 =>
  ck_some (gR h3 a0 1) fun b17 =>
  ck_as (gk h3 b6 = 5) <|
  ck_bd (f_Op_findKeyed F b6 b15 b17 h3) fun r20 h21 =>
  ck_as (gk h21 a0 = 11) <|
  ck_some (gR h21 a0 0) fun b24 =>
  ck_as (gk h21 b24 = 6) <|
  ck_then (wI h21 b24 1 0) fun h27 =>
  some (r20, h27)
set_option maxRecDepth 100000 in
set_option maxHeartbeats 4000000 in
theorem s_CS_getKeyed {F : Nat} {a0 : Nat} {v1 : Int32} {h h' : ck_H} {r : Int32} (e : f_CS_getKeyed F a0 v1 h = some (r, h')) : Go k_CS_getKeyed 0 (ck_in [.ref a0, .int v1] 4) [] h (some (.int r), h') := by
  unfold f_CS_getKeyed at e
  show Go k_CS_getKeyed 0 [some (.ref a0), some (.int v1), none, none] [] h _
  refine go_aload_n rfl rfl ?_
  refine go_iload_n rfl rfl ?_
  replace e := ck_as_e e
  obtain ⟨hk_1, e⟩ := e
  replace e := ck_bd_e e
  obtain ⟨r2, h3, e4, e⟩ := e
  refine go_callV (As := [.int v1]) (b0 := a0) (rest := []) rfl rfl ⟨hk_1, by decide⟩ rfl ⟨Nat.le_of_ble_eq_true rfl, Nat.le_of_ble_eq_true rfl, Nat.le_of_ble_eq_true rfl, Nat.le_of_ble_eq_true rfl⟩ (s_CS_openingAt e4) ?_
  replace e := ck_opt_e e
  rcases e with ⟨hq_5, e⟩ | ⟨b6, hq_5, e⟩
  · subst hq_5
    show Go k_CS_getKeyed 5 [some (.ref a0), some (.int v1), none, none] [.null] h3 _
    refine go_astore_nN rfl rfl ?_
    show Go k_CS_getKeyed 6 [some (.ref a0), some (.int v1), some .null, none] [] h3 _
    refine go_aload_nN rfl rfl ?_
    refine go_ifnonnullN rfl ?_
    refine go_bipush (v := (-3)) rfl (by decide) ?_
    refine go_goto (t := 27) rfl rfl ?_
    refine go_istore_n rfl rfl ?_
    show Go k_CS_getKeyed 28 [some (.ref a0), some (.int v1), some .null, some (.int (-3))] [] h3 _
    refine go_aload_n rfl rfl ?_
    replace e := ck_as_e e
    obtain ⟨hk_7, e⟩ := e
    replace e := ck_some_e e
    obtain ⟨b8, hq_9, e⟩ := e
    refine go_get (v := .ref b8) rfl rfl hk_7 (by decide) (by show va_rf (gR h3 a0 0) = _; rw [hq_9]; rfl) ?_
    refine go_iconst (v := 0) rfl (by decide) ?_
    replace e := ck_as_e e
    obtain ⟨hk_10, e⟩ := e
    refine go_put (h1 := wI h3 b8 1 0) rfl rfl hk_10 ⟨by decide, by decide, Or.inl rfl⟩ rfl ?_
    have hk_12 : gk (wI h3 b8 1 0) a0 = 11 := ck_kI.trans hk_7
    have hk_13 : gk (wI h3 b8 1 0) b8 = 6 := ck_kI.trans hk_10
    generalize wI h3 b8 1 0 = h11 at e hk_12 hk_13 ⊢
    replace e := ck_then_e e
    refine go_iload_n rfl rfl ?_
    cases e
    exact go_ret rfl rfl
  subst hq_5
  show Go k_CS_getKeyed 5 [some (.ref a0), some (.int v1), none, none] [.ref b6] h3 _
  refine go_astore_n rfl rfl ?_
  show Go k_CS_getKeyed 6 [some (.ref a0), some (.int v1), some (.ref b6), none] [] h3 _
  refine go_aload_n rfl rfl ?_
  refine go_ifnonnull (t := 15) rfl rfl ?_
  refine go_aload_n rfl rfl ?_
  refine go_aload_n rfl rfl ?_
  replace e := ck_as_e e
  obtain ⟨hk_14, e⟩ := e
  replace e := ck_some_e e
  obtain ⟨b15, hq_16, e⟩ := e
  refine go_get (v := .ref b15) rfl rfl hk_14 (by decide) (by show va_rf (gR h3 a0 0) = _; rw [hq_16]; rfl) ?_
  refine go_aload_n rfl rfl ?_
  replace e := ck_some_e e
  obtain ⟨b17, hq_18, e⟩ := e
  refine go_get (v := .ref b17) rfl rfl hk_14 (by decide) (by show va_rf (gR h3 a0 1) = _; rw [hq_18]; rfl) ?_
  replace e := ck_as_e e
  obtain ⟨hk_19, e⟩ := e
  replace e := ck_bd_e e
  obtain ⟨r20, h21, e22, e⟩ := e
  refine go_callV (As := [.ref b15, .ref b17]) (b0 := b6) (rest := []) rfl rfl ⟨hk_19, by decide⟩ rfl ⟨Nat.le_of_ble_eq_true rfl, Nat.le_of_ble_eq_true rfl, Nat.le_of_ble_eq_true rfl, Nat.le_of_ble_eq_true rfl⟩ (s_Op_findKeyed e22) ?_
  show Go k_CS_getKeyed 27 [some (.ref a0), some (.int v1), some (.ref b6), none] [.int r20] h21 _
  refine go_istore_n rfl rfl ?_
  show Go k_CS_getKeyed 28 [some (.ref a0), some (.int v1), some (.ref b6), some (.int r20)] [] h21 _
  refine go_aload_n rfl rfl ?_
  replace e := ck_as_e e
  obtain ⟨hk_23, e⟩ := e
  replace e := ck_some_e e
  obtain ⟨b24, hq_25, e⟩ := e
  refine go_get (v := .ref b24) rfl rfl hk_23 (by decide) (by show va_rf (gR h21 a0 0) = _; rw [hq_25]; rfl) ?_
  refine go_iconst (v := 0) rfl (by decide) ?_
  replace e := ck_as_e e
  obtain ⟨hk_26, e⟩ := e
  refine go_put (h1 := wI h21 b24 1 0) rfl rfl hk_26 ⟨by decide, by decide, Or.inl rfl⟩ rfl ?_
  have hk_28 : gk (wI h21 b24 1 0) a0 = 11 := ck_kI.trans hk_23
  have hk_29 : gk (wI h21 b24 1 0) b24 = 6 := ck_kI.trans hk_26
  generalize wI h21 b24 1 0 = h27 at e hk_28 hk_29 ⊢
  replace e := ck_then_e e
  refine go_iload_n rfl rfl ?_
  cases e
  exact go_ret rfl rfl
def f_Mb_has (F : Nat) (a0 : Nat) (v1 : Int32) (h : ck_H) : Option (Int32 × ck_H) :=
  if v1 < (0 : Int32) then
    some (0, h)
  else
    ck_as (gk h a0 = 4) <|
    if v1 < (gI h a0 4) then
      if v1 < (40 : Int32) then
        some (1, h)
      else
        some (0, h)
    else
      some (0, h)
set_option maxRecDepth 100000 in
set_option maxHeartbeats 4000000 in
theorem s_Mb_has {F : Nat} {a0 : Nat} {v1 : Int32} {h h' : ck_H} {r : Int32} (e : f_Mb_has F a0 v1 h = some (r, h')) : Go k_Mb_has 0 (ck_in [.ref a0, .int v1] 2) [] h (some (.int r), h') := by
  unfold f_Mb_has at e
  show Go k_Mb_has 0 [some (.ref a0), some (.int v1)] [] h _
  refine go_iload_n rfl rfl ?_
  refine go_if_lt (t := 22) rfl rfl (fun hx_1 => ?_) (fun hx_1 => ?_)
  · rw [if_pos hx_1] at e
    refine go_iconst (v := 0) rfl (by decide) ?_
    cases e
    exact go_ret rfl (ck_rvb rfl (Or.inl rfl))
  · rw [if_neg hx_1] at e
    refine go_iload_n rfl rfl ?_
    refine go_aload_n rfl rfl ?_
    replace e := ck_as_e e
    obtain ⟨hk_2, e⟩ := e
    refine go_get (v := .int (gI h a0 4)) rfl rfl hk_2 (by decide) rfl ?_
    refine go_icmp_ge (t := 22) rfl rfl (fun hx_3 => ?_) (fun hx_3 => ?_)
    · rw [if_pos hx_3] at e
      refine go_iload_n rfl rfl ?_
      refine go_bipush (v := 40) rfl (by decide) ?_
      refine go_icmp_ge (t := 22) rfl rfl (fun hx_4 => ?_) (fun hx_4 => ?_)
      · rw [if_pos hx_4] at e
        refine go_iconst (v := 1) rfl (by decide) ?_
        refine go_goto (t := 23) rfl rfl ?_
        cases e
        exact go_ret rfl (ck_rvb rfl (Or.inr rfl))
      · rw [if_neg hx_4] at e
        refine go_iconst (v := 0) rfl (by decide) ?_
        cases e
        exact go_ret rfl (ck_rvb rfl (Or.inl rfl))
    · rw [if_neg hx_3] at e
      refine go_iconst (v := 0) rfl (by decide) ?_
      cases e
      exact go_ret rfl (ck_rvb rfl (Or.inl rfl))
def f_Mb_compare_L2 (F : Nat)  : Nat → Nat → Int32 → Nat → Int32 → ck_H → Option (Int32 × ck_H)
  | 0, _, _, _, _, _ => none
  | n + 1, a0, v1, a2, v3, h =>
    if v3 < (8 : Int32) then
      ck_as (13 ≤ gk h a2 ∧ gk h a2 ≤ 21) <|
      if v3 < (Int32.ofNat (gz h a2)) then
        ck_as (gk h a0 = 4) <|
        ck_bd (f_Mb_has F a0 v1 h) fun r5 h6 =>
        if r5 = (0 : Int32) then
          some (0, h6)
        else
          ck_as (gk h6 a0 = 4) <|
          ck_some (gR h6 a0 0) fun b10 =>
          ck_as ((gk h6 b10 = 13 ∨ gk h6 b10 = 15) ∧ ¬ ((v1 * 8) + v3) < 0 ∧ ((v1 * 8) + v3 : Int32).toNatClampNeg < gz h6 b10) <|
          ck_as ((gk h6 a2 = 13 ∨ gk h6 a2 = 15) ∧ ¬ v3 < 0 ∧ (v3 : Int32).toNatClampNeg < gz h6 a2) <|
          ck_then (((gI h6 b10 ((v1 * 8) + v3 : Int32).toNatClampNeg) &&& 255) - ((gI h6 a2 (v3 : Int32).toNatClampNeg) &&& 255)) fun x14 =>
          if x14 = (0 : Int32) then
            f_Mb_compare_L2 F n a0 v1 a2 (v3 + 1) h6
          else
            some (x14, h6)
      else
        some (0, h)
    else
      some (0, h)
set_option maxRecDepth 100000 in
set_option maxHeartbeats 4000000 in
theorem f_Mb_compare_L2_s (F : Nat)   : ∀ (n : Nat) (a0 : Nat) (v1 : Int32) (a2 : Nat) (v3 : Int32) (h : ck_H) (r : Int32) (h' : ck_H), f_Mb_compare_L2 F n a0 v1 a2 v3 h = some (r, h') → Go k_Mb_compare 2 [some (.ref a0), some (.int v1), some (.ref a2), some (.int v3), none] [] h (some (.int r), h') := by
  intro n
  induction n with
  | zero => intro a0 v1 a2 v3 h r h' e; simp only [f_Mb_compare_L2] at e; cases e
  | succ n ih =>
    intro a0 v1 a2 v3 h r h' e
    rw [f_Mb_compare_L2] at e
    refine go_iload_n rfl rfl ?_
    refine go_bipush (v := 8) rfl (by decide) ?_
    refine go_icmp_ge (t := 61) rfl rfl (fun hx_1 => ?_) (fun hx_1 => ?_)
    · rw [if_pos hx_1] at e
      refine go_iload_n rfl rfl ?_
      refine go_aload_n rfl rfl ?_
      replace e := ck_as_e e
      obtain ⟨hc_2, e⟩ := e
      refine go_alen rfl hc_2 ?_
      refine go_icmp_ge (t := 61) rfl rfl (fun hx_3 => ?_) (fun hx_3 => ?_)
      · rw [if_pos hx_3] at e
        refine go_aload_n rfl rfl ?_
        refine go_iload_n rfl rfl ?_
        replace e := ck_as_e e
        obtain ⟨hk_4, e⟩ := e
        replace e := ck_bd_e e
        obtain ⟨r5, h6, e7, e⟩ := e
        refine go_callV (As := [.int v1]) (b0 := a0) (rest := []) rfl rfl ⟨hk_4, by decide⟩ rfl ⟨Nat.le_of_ble_eq_true rfl, Nat.le_of_ble_eq_true rfl, Nat.le_of_ble_eq_true rfl, Nat.le_of_ble_eq_true rfl⟩ (s_Mb_has e7) ?_
        show Go k_Mb_compare 19 [some (.ref a0), some (.int v1), some (.ref a2), some (.int v3), none] [.int r5] h6 _
        refine go_if_eq (t := 61) rfl rfl (fun hx_8 => ?_) (fun hx_8 => ?_)
        · rw [if_pos hx_8] at e
          refine go_iconst (v := 0) rfl (by decide) ?_
          cases e
          exact go_ret rfl rfl
        · rw [if_neg hx_8] at e
          refine go_aload_n rfl rfl ?_
          replace e := ck_as_e e
          obtain ⟨hk_9, e⟩ := e
          replace e := ck_some_e e
          obtain ⟨b10, hq_11, e⟩ := e
          refine go_get (v := .ref b10) rfl rfl hk_9 (by decide) (by show va_rf (gR h6 a0 0) = _; rw [hq_11]; rfl) ?_
          refine go_iload_n rfl rfl ?_
          refine go_bipush (v := 8) rfl (by decide) ?_
          refine go_imul rfl ?_
          refine go_iload_n rfl rfl ?_
          refine go_iadd rfl ?_
          replace e := ck_as_e e
          obtain ⟨hc_12, e⟩ := e
          refine go_bald rfl hc_12 ?_
          refine go_sipush (v := 255) rfl (by decide) ?_
          refine go_iand rfl ?_
          refine go_aload_n rfl rfl ?_
          refine go_iload_n rfl rfl ?_
          replace e := ck_as_e e
          obtain ⟨hc_13, e⟩ := e
          refine go_bald rfl hc_13 ?_
          refine go_sipush (v := 255) rfl (by decide) ?_
          refine go_iand rfl ?_
          refine go_isub rfl ?_
          generalize ((gI h6 b10 ((v1 * 8) + v3 : Int32).toNatClampNeg) &&& 255) - ((gI h6 a2 (v3 : Int32).toNatClampNeg) &&& 255) = x14 at e ⊢
          replace e := ck_then_e e
          refine go_istore rfl rfl ?_
          show Go k_Mb_compare 47 [some (.ref a0), some (.int v1), some (.ref a2), some (.int v3), some (.int x14)] [] h6 _
          refine go_iload rfl rfl ?_
          refine go_if_eq (t := 55) rfl rfl (fun hx_15 => ?_) (fun hx_15 => ?_)
          · rw [if_pos hx_15] at e
            refine go_iinc (v := 1) rfl rfl (by decide) rfl ?_
            show Go k_Mb_compare 58 [some (.ref a0), some (.int v1), some (.ref a2), some (.int (v3 + 1)), some (.int x14)] [] h6 _
            refine go_goto (t := 2) rfl rfl ?_
            refine go_forget (l := [some (.ref a0), some (.int v1), some (.ref a2), some (.int (v3 + 1)), none]) ⟨Or.inl rfl, Or.inl rfl, Or.inl rfl, Or.inl rfl, Or.inr ⟨rfl, fun _ q => by cases q; rfl⟩, trivial⟩ ?_
            exact ih _ _ _ _ _ _ _ e
          · rw [if_neg hx_15] at e
            refine go_iload rfl rfl ?_
            cases e
            exact go_ret rfl rfl
      · rw [if_neg hx_3] at e
        refine go_iconst (v := 0) rfl (by decide) ?_
        cases e
        exact go_ret rfl rfl
    · rw [if_neg hx_1] at e
      refine go_iconst (v := 0) rfl (by decide) ?_
      cases e
      exact go_ret rfl rfl
def f_Mb_compare (F : Nat) (a0 : Nat) (v1 : Int32) (a2 : Nat) (h : ck_H) : Option (Int32 × ck_H) :=
  f_Mb_compare_L2 F F a0 v1 a2 0 h
set_option maxRecDepth 100000 in
set_option maxHeartbeats 4000000 in
theorem s_Mb_compare {F : Nat} {a0 : Nat} {v1 : Int32} {a2 : Nat} {h h' : ck_H} {r : Int32} (e : f_Mb_compare F a0 v1 a2 h = some (r, h')) : Go k_Mb_compare 0 (ck_in [.ref a0, .int v1, .ref a2] 5) [] h (some (.int r), h') := by
  unfold f_Mb_compare at e
  show Go k_Mb_compare 0 [some (.ref a0), some (.int v1), some (.ref a2), none, none] [] h _
  refine go_iconst (v := 0) rfl (by decide) ?_
  refine go_istore_n rfl rfl ?_
  show Go k_Mb_compare 2 [some (.ref a0), some (.int v1), some (.ref a2), some (.int 0), none] [] h _
  refine go_forget (l := [some (.ref a0), some (.int v1), some (.ref a2), some (.int 0), none]) ⟨Or.inl rfl, Or.inl rfl, Or.inl rfl, Or.inl rfl, Or.inl rfl, trivial⟩ ?_
  exact f_Mb_compare_L2_s F F _ _ _ _ _ _ _ e
def f_Mb_placeOf_L2 (F : Nat)  : Nat → Nat → Nat → Int32 → ck_H → Option (Int32 × ck_H)
  | 0, _, _, _, _ => none
  | n + 1, a0, a1, v2, h =>
    ck_as (gk h a0 = 4) <|
    if v2 < (gI h a0 4) then
      if v2 < (40 : Int32) then
        ck_bd (f_Mb_compare F a0 v2 a1 h) fun r4 h5 =>
        if r4 < (0 : Int32) then
          f_Mb_placeOf_L2 F n a0 a1 (v2 + 1) h5
        else
          some (v2, h5)
      else
        some (gI h a0 4, h)
    else
      some (gI h a0 4, h)
set_option maxRecDepth 100000 in
set_option maxHeartbeats 4000000 in
theorem f_Mb_placeOf_L2_s (F : Nat)   : ∀ (n : Nat) (a0 : Nat) (a1 : Nat) (v2 : Int32) (h : ck_H) (r : Int32) (h' : ck_H), f_Mb_placeOf_L2 F n a0 a1 v2 h = some (r, h') → Go k_Mb_placeOf 2 [some (.ref a0), some (.ref a1), some (.int v2)] [] h (some (.int r), h') := by
  intro n
  induction n with
  | zero => intro a0 a1 v2 h r h' e; simp only [f_Mb_placeOf_L2] at e; cases e
  | succ n ih =>
    intro a0 a1 v2 h r h' e
    rw [f_Mb_placeOf_L2] at e
    refine go_iload_n rfl rfl ?_
    refine go_aload_n rfl rfl ?_
    replace e := ck_as_e e
    obtain ⟨hk_1, e⟩ := e
    refine go_get (v := .int (gI h a0 4)) rfl rfl hk_1 (by decide) rfl ?_
    refine go_icmp_ge (t := 33) rfl rfl (fun hx_2 => ?_) (fun hx_2 => ?_)
    · rw [if_pos hx_2] at e
      refine go_iload_n rfl rfl ?_
      refine go_bipush (v := 40) rfl (by decide) ?_
      refine go_icmp_ge (t := 33) rfl rfl (fun hx_3 => ?_) (fun hx_3 => ?_)
      · rw [if_pos hx_3] at e
        refine go_aload_n rfl rfl ?_
        refine go_iload_n rfl rfl ?_
        refine go_aload_n rfl rfl ?_
        replace e := ck_bd_e e
        obtain ⟨r4, h5, e6, e⟩ := e
        refine go_callV (As := [.int v2, .ref a1]) (b0 := a0) (rest := []) rfl rfl ⟨hk_1, by decide⟩ rfl ⟨Nat.le_of_ble_eq_true rfl, Nat.le_of_ble_eq_true rfl, Nat.le_of_ble_eq_true rfl, Nat.le_of_ble_eq_true rfl⟩ (s_Mb_compare e6) ?_
        show Go k_Mb_placeOf 22 [some (.ref a0), some (.ref a1), some (.int v2)] [.int r4] h5 _
        refine go_if_lt (t := 27) rfl rfl (fun hx_7 => ?_) (fun hx_7 => ?_)
        · rw [if_pos hx_7] at e
          refine go_iinc (v := 1) rfl rfl (by decide) rfl ?_
          show Go k_Mb_placeOf 30 [some (.ref a0), some (.ref a1), some (.int (v2 + 1))] [] h5 _
          refine go_goto (t := 2) rfl rfl ?_
          refine go_forget (l := [some (.ref a0), some (.ref a1), some (.int (v2 + 1))]) ⟨Or.inl rfl, Or.inl rfl, Or.inl rfl, trivial⟩ ?_
          exact ih _ _ _ _ _ _ e
        · rw [if_neg hx_7] at e
          refine go_iload_n rfl rfl ?_
          cases e
          exact go_ret rfl rfl
      · rw [if_neg hx_3] at e
        refine go_aload_n rfl rfl ?_
        refine go_get (v := .int (gI h a0 4)) rfl rfl hk_1 (by decide) rfl ?_
        cases e
        exact go_ret rfl rfl
    · rw [if_neg hx_2] at e
      refine go_aload_n rfl rfl ?_
      refine go_get (v := .int (gI h a0 4)) rfl rfl hk_1 (by decide) rfl ?_
      cases e
      exact go_ret rfl rfl
def f_Mb_placeOf (F : Nat) (a0 : Nat) (a1 : Nat) (h : ck_H) : Option (Int32 × ck_H) :=
  f_Mb_placeOf_L2 F F a0 a1 0 h
set_option maxRecDepth 100000 in
set_option maxHeartbeats 4000000 in
theorem s_Mb_placeOf {F : Nat} {a0 : Nat} {a1 : Nat} {h h' : ck_H} {r : Int32} (e : f_Mb_placeOf F a0 a1 h = some (r, h')) : Go k_Mb_placeOf 0 (ck_in [.ref a0, .ref a1] 3) [] h (some (.int r), h') := by
  unfold f_Mb_placeOf at e
  show Go k_Mb_placeOf 0 [some (.ref a0), some (.ref a1), none] [] h _
  refine go_iconst (v := 0) rfl (by decide) ?_
  refine go_istore_n rfl rfl ?_
  show Go k_Mb_placeOf 2 [some (.ref a0), some (.ref a1), some (.int 0)] [] h _
  refine go_forget (l := [some (.ref a0), some (.ref a1), some (.int 0)]) ⟨Or.inl rfl, Or.inl rfl, Or.inl rfl, trivial⟩ ?_
  exact f_Mb_placeOf_L2_s F F _ _ _ _ _ _ e
def f_Mb_find (F : Nat) (a0 : Nat) (a1 : Nat) (h : ck_H) : Option (Int32 × ck_H) :=
  ck_as (gk h a0 = 4) <|
  ck_bd (f_Mb_placeOf F a0 a1 h) fun r2 h3 =>
  ck_as (gk h3 a0 = 4) <|
  ck_bd (f_Mb_has F a0 r2 h3) fun r6 h7 =>
  if r6 = (0 : Int32) then
    some ((-1), h7)
  else
    ck_as (gk h7 a0 = 4) <|
    ck_bd (f_Mb_compare F a0 r2 a1 h7) fun r11 h12 =>
    if r11 = (0 : Int32) then
      some (r2, h12)
    else
      some ((-1), h12)
set_option maxRecDepth 100000 in
set_option maxHeartbeats 4000000 in
theorem s_Mb_find {F : Nat} {a0 : Nat} {a1 : Nat} {h h' : ck_H} {r : Int32} (e : f_Mb_find F a0 a1 h = some (r, h')) : Go k_Mb_find 0 (ck_in [.ref a0, .ref a1] 3) [] h (some (.int r), h') := by
  unfold f_Mb_find at e
  show Go k_Mb_find 0 [some (.ref a0), some (.ref a1), none] [] h _
  refine go_aload_n rfl rfl ?_
  refine go_aload_n rfl rfl ?_
  replace e := ck_as_e e
  obtain ⟨hk_1, e⟩ := e
  replace e := ck_bd_e e
  obtain ⟨r2, h3, e4, e⟩ := e
  refine go_callV (As := [.ref a1]) (b0 := a0) (rest := []) rfl rfl ⟨hk_1, by decide⟩ rfl ⟨Nat.le_of_ble_eq_true rfl, Nat.le_of_ble_eq_true rfl, Nat.le_of_ble_eq_true rfl, Nat.le_of_ble_eq_true rfl⟩ (s_Mb_placeOf e4) ?_
  show Go k_Mb_find 5 [some (.ref a0), some (.ref a1), none] [.int r2] h3 _
  refine go_istore_n rfl rfl ?_
  show Go k_Mb_find 6 [some (.ref a0), some (.ref a1), some (.int r2)] [] h3 _
  refine go_aload_n rfl rfl ?_
  refine go_iload_n rfl rfl ?_
  replace e := ck_as_e e
  obtain ⟨hk_5, e⟩ := e
  replace e := ck_bd_e e
  obtain ⟨r6, h7, e8, e⟩ := e
  refine go_callV (As := [.int r2]) (b0 := a0) (rest := []) rfl rfl ⟨hk_5, by decide⟩ rfl ⟨Nat.le_of_ble_eq_true rfl, Nat.le_of_ble_eq_true rfl, Nat.le_of_ble_eq_true rfl, Nat.le_of_ble_eq_true rfl⟩ (s_Mb_has e8) ?_
  show Go k_Mb_find 11 [some (.ref a0), some (.ref a1), some (.int r2)] [.int r6] h7 _
  refine go_if_eq (t := 27) rfl rfl (fun hx_9 => ?_) (fun hx_9 => ?_)
  · rw [if_pos hx_9] at e
    refine go_iconst (v := (-1)) rfl (by decide) ?_
    cases e
    exact go_ret rfl rfl
  · rw [if_neg hx_9] at e
    refine go_aload_n rfl rfl ?_
    refine go_iload_n rfl rfl ?_
    refine go_aload_n rfl rfl ?_
    replace e := ck_as_e e
    obtain ⟨hk_10, e⟩ := e
    replace e := ck_bd_e e
    obtain ⟨r11, h12, e13, e⟩ := e
    refine go_callV (As := [.int r2, .ref a1]) (b0 := a0) (rest := []) rfl rfl ⟨hk_10, by decide⟩ rfl ⟨Nat.le_of_ble_eq_true rfl, Nat.le_of_ble_eq_true rfl, Nat.le_of_ble_eq_true rfl, Nat.le_of_ble_eq_true rfl⟩ (s_Mb_compare e13) ?_
    show Go k_Mb_find 20 [some (.ref a0), some (.ref a1), some (.int r2)] [.int r11] h12 _
    refine go_if_ne (t := 27) rfl rfl (fun hx_14 => ?_) (fun hx_14 => ?_)
    · rw [if_pos hx_14] at e
      refine go_iload_n rfl rfl ?_
      refine go_goto (t := 28) rfl rfl ?_
      cases e
      exact go_ret rfl rfl
    · rw [if_neg hx_14] at e
      refine go_iconst (v := (-1)) rfl (by decide) ?_
      cases e
      exact go_ret rfl rfl
def f_Mb_blocksOf (F : Nat) (a0 : Nat) (v1 : Int32) (h : ck_H) : Option (Int32 × ck_H) :=
  ck_as (gk h a0 = 4) <|
  ck_bd (f_Mb_has F a0 v1 h) fun r2 h3 =>
  if r2 = (0 : Int32) then
    some (0, h3)
  else
    ck_as (gk h3 a0 = 4) <|
    ck_some (gR h3 a0 3) fun b7 =>
    ck_as ((gk h3 b7 = 14 ∨ gk h3 b7 = 21) ∧ ¬ v1 < 0 ∧ (v1 : Int32).toNatClampNeg < gz h3 b7) <|
    some (gI h3 b7 (v1 : Int32).toNatClampNeg, h3)
set_option maxRecDepth 100000 in
set_option maxHeartbeats 4000000 in
theorem s_Mb_blocksOf {F : Nat} {a0 : Nat} {v1 : Int32} {h h' : ck_H} {r : Int32} (e : f_Mb_blocksOf F a0 v1 h = some (r, h')) : Go k_Mb_blocksOf 0 (ck_in [.ref a0, .int v1] 2) [] h (some (.int r), h') := by
  unfold f_Mb_blocksOf at e
  show Go k_Mb_blocksOf 0 [some (.ref a0), some (.int v1)] [] h _
  refine go_aload_n rfl rfl ?_
  refine go_iload_n rfl rfl ?_
  replace e := ck_as_e e
  obtain ⟨hk_1, e⟩ := e
  replace e := ck_bd_e e
  obtain ⟨r2, h3, e4, e⟩ := e
  refine go_callV (As := [.int v1]) (b0 := a0) (rest := []) rfl rfl ⟨hk_1, by decide⟩ rfl ⟨Nat.le_of_ble_eq_true rfl, Nat.le_of_ble_eq_true rfl, Nat.le_of_ble_eq_true rfl, Nat.le_of_ble_eq_true rfl⟩ (s_Mb_has e4) ?_
  show Go k_Mb_blocksOf 5 [some (.ref a0), some (.int v1)] [.int r2] h3 _
  refine go_if_eq (t := 17) rfl rfl (fun hx_5 => ?_) (fun hx_5 => ?_)
  · rw [if_pos hx_5] at e
    refine go_iconst (v := 0) rfl (by decide) ?_
    cases e
    exact go_ret rfl rfl
  · rw [if_neg hx_5] at e
    refine go_aload_n rfl rfl ?_
    replace e := ck_as_e e
    obtain ⟨hk_6, e⟩ := e
    replace e := ck_some_e e
    obtain ⟨b7, hq_8, e⟩ := e
    refine go_get (v := .ref b7) rfl rfl hk_6 (by decide) (by show va_rf (gR h3 a0 3) = _; rw [hq_8]; rfl) ?_
    refine go_iload_n rfl rfl ?_
    replace e := ck_as_e e
    obtain ⟨hc_9, e⟩ := e
    refine go_iald rfl hc_9 ?_
    refine go_goto (t := 18) rfl rfl ?_
    cases e
    exact go_ret rfl rfl
def f_Op_choose (F : Nat) (a0 : Nat) (a1 : Nat) (h : ck_H) : Option (Int32 × ck_H) :=
  ck_as (gk h a0 = 5) <|
  ck_opt (gR h a0 4) (
    some ((-3), h)
  ) fun b3 =>
  ck_some (gR h a0 4) fun b4 =>
  ck_as (gk h b4 = 2) <|
  if (gI h b4 6) = (4 : Int32) then
    if (gI h a0 8) = (1 : Int32) then
      some ((-3), h)
    else
      ck_some (gR h a0 4) fun b9 =>
      ck_as (gk h b9 = 2) <|
      ck_some (gR h b9 4) fun b12 =>
      ck_as (gk h b12 = 4) <|
      ck_bd (f_Mb_find F b12 a1 h) fun r15 h16 =>
      if r15 < (0 : Int32) then
        some ((-1), h16)
      else
        ck_as (gk h16 a0 = 5) <|
        ck_some (gR h16 a0 4) fun b20 =>
        ck_as (gk h16 b20 = 2) <|
        ck_some (gR h16 b20 4) fun b23 =>
        ck_as (gk h16 b23 = 4) <|
        ck_bd (f_Mb_blocksOf F b23 r15 h16) fun r26 h27 =>
        ck_as (gk h27 a0 = 5) <|
        ck_some (gR h27 a0 1) fun b30 =>
        ck_some (gR h27 a0 4) fun b32 =>
        ck_as (gk h27 b32 = 2) <|
        ck_some (gR h27 b32 4) fun b35 =>
        ck_as (gk h27 b35 = 4) <|
        ck_some (gR h27 b35 1) fun b38 =>
        ck_as ((gk h27 b38 = 14 ∨ gk h27 b38 = 21) ∧ ¬ r15 < 0 ∧ (r15 : Int32).toNatClampNeg < gz h27 b38) <|
        ck_some (gR h27 a0 4) fun b41 =>
        ck_as (gk h27 b41 = 2) <|
        ck_some (gR h27 b41 4) fun b44 =>
        ck_as (gk h27 b44 = 4) <|
        ck_some (gR h27 b44 2) fun b47 =>
        ck_as ((gk h27 b47 = 14 ∨ gk h27 b47 = 21) ∧ ¬ r15 < 0 ∧ (r15 : Int32).toNatClampNeg < gz h27 b47) <|
        ck_as (gk h27 b30 = 7) <|
        ck_bd (f_Sp_set F b30 (gI h27 b38 (r15 : Int32).toNatClampNeg) ((gI h27 b47 (r15 : Int32).toNatClampNeg) - 1) r26 h27) fun _ h52 =>
        ck_as (gk h52 a0 = 5) <|
        ck_then (wI h52 a0 6 1) fun h55 =>
        some (r26, h55)
  else
    some ((-3), h)
set_option maxRecDepth 100000 in
set_option maxHeartbeats 4000000 in
theorem s_Op_choose {F : Nat} {a0 : Nat} {a1 : Nat} {h h' : ck_H} {r : Int32} (e : f_Op_choose F a0 a1 h = some (r, h')) : Go k_Op_choose 0 (ck_in [.ref a0, .ref a1] 4) [] h (some (.int r), h') := by
  unfold f_Op_choose at e
  show Go k_Op_choose 0 [some (.ref a0), some (.ref a1), none, none] [] h _
  refine go_aload_n rfl rfl ?_
  replace e := ck_as_e e
  obtain ⟨hk_1, e⟩ := e
  replace e := ck_opt_e e
  rcases e with ⟨hq_2, e⟩ | ⟨b3, hq_2, e⟩
  · refine go_get (v := .null) rfl rfl hk_1 (by decide) (by show va_rf (gR h a0 4) = _; rw [hq_2]; rfl) ?_
    refine go_ifnullN (t := 26) rfl rfl ?_
    refine go_bipush (v := (-3)) rfl (by decide) ?_
    cases e
    exact go_ret rfl rfl
  refine go_get (v := .ref b3) rfl rfl hk_1 (by decide) (by show va_rf (gR h a0 4) = _; rw [hq_2]; rfl) ?_
  refine go_ifnull rfl ?_
  refine go_aload_n rfl rfl ?_
  replace e := ck_some_e e
  obtain ⟨b4, hq_5, e⟩ := e
  refine go_get (v := .ref b4) rfl rfl hk_1 (by decide) (by show va_rf (gR h a0 4) = _; rw [hq_5]; rfl) ?_
  replace e := ck_as_e e
  obtain ⟨hk_6, e⟩ := e
  refine go_get (v := .int (gI h b4 6)) rfl rfl hk_6 (by decide) rfl ?_
  refine go_iconst (v := 4) rfl (by decide) ?_
  refine go_icmp_ne (t := 26) rfl rfl (fun hx_7 => ?_) (fun hx_7 => ?_)
  · rw [if_pos hx_7] at e
    refine go_aload_n rfl rfl ?_
    refine go_get (v := .int (gI h a0 8)) rfl rfl hk_1 (by decide) rfl ?_
    refine go_iconst (v := 1) rfl (by decide) ?_
    refine go_icmp_ne (t := 29) rfl rfl (fun hx_8 => ?_) (fun hx_8 => ?_)
    · rw [if_pos hx_8] at e
      refine go_bipush (v := (-3)) rfl (by decide) ?_
      cases e
      exact go_ret rfl rfl
    · rw [if_neg hx_8] at e
      refine go_aload_n rfl rfl ?_
      replace e := ck_some_e e
      obtain ⟨b9, hq_10, e⟩ := e
      refine go_get (v := .ref b9) rfl rfl hk_1 (by decide) (by show va_rf (gR h a0 4) = _; rw [hq_10]; rfl) ?_
      replace e := ck_as_e e
      obtain ⟨hk_11, e⟩ := e
      replace e := ck_some_e e
      obtain ⟨b12, hq_13, e⟩ := e
      refine go_get (v := .ref b12) rfl rfl hk_11 (by decide) (by show va_rf (gR h b9 4) = _; rw [hq_13]; rfl) ?_
      refine go_aload_n rfl rfl ?_
      replace e := ck_as_e e
      obtain ⟨hk_14, e⟩ := e
      replace e := ck_bd_e e
      obtain ⟨r15, h16, e17, e⟩ := e
      refine go_callV (As := [.ref a1]) (b0 := b12) (rest := []) rfl rfl ⟨hk_14, by decide⟩ rfl ⟨Nat.le_of_ble_eq_true rfl, Nat.le_of_ble_eq_true rfl, Nat.le_of_ble_eq_true rfl, Nat.le_of_ble_eq_true rfl⟩ (s_Mb_find e17) ?_
      show Go k_Op_choose 40 [some (.ref a0), some (.ref a1), none, none] [.int r15] h16 _
      refine go_istore_n rfl rfl ?_
      show Go k_Op_choose 41 [some (.ref a0), some (.ref a1), some (.int r15), none] [] h16 _
      refine go_iload_n rfl rfl ?_
      refine go_if_ge (t := 47) rfl rfl (fun hx_18 => ?_) (fun hx_18 => ?_)
      · rw [if_pos hx_18] at e
        refine go_iconst (v := (-1)) rfl (by decide) ?_
        cases e
        exact go_ret rfl rfl
      · rw [if_neg hx_18] at e
        refine go_aload_n rfl rfl ?_
        replace e := ck_as_e e
        obtain ⟨hk_19, e⟩ := e
        replace e := ck_some_e e
        obtain ⟨b20, hq_21, e⟩ := e
        refine go_get (v := .ref b20) rfl rfl hk_19 (by decide) (by show va_rf (gR h16 a0 4) = _; rw [hq_21]; rfl) ?_
        replace e := ck_as_e e
        obtain ⟨hk_22, e⟩ := e
        replace e := ck_some_e e
        obtain ⟨b23, hq_24, e⟩ := e
        refine go_get (v := .ref b23) rfl rfl hk_22 (by decide) (by show va_rf (gR h16 b20 4) = _; rw [hq_24]; rfl) ?_
        refine go_iload_n rfl rfl ?_
        replace e := ck_as_e e
        obtain ⟨hk_25, e⟩ := e
        replace e := ck_bd_e e
        obtain ⟨r26, h27, e28, e⟩ := e
        refine go_callV (As := [.int r15]) (b0 := b23) (rest := []) rfl rfl ⟨hk_25, by decide⟩ rfl ⟨Nat.le_of_ble_eq_true rfl, Nat.le_of_ble_eq_true rfl, Nat.le_of_ble_eq_true rfl, Nat.le_of_ble_eq_true rfl⟩ (s_Mb_blocksOf e28) ?_
        show Go k_Op_choose 58 [some (.ref a0), some (.ref a1), some (.int r15), none] [.int r26] h27 _
        refine go_istore_n rfl rfl ?_
        show Go k_Op_choose 59 [some (.ref a0), some (.ref a1), some (.int r15), some (.int r26)] [] h27 _
        refine go_aload_n rfl rfl ?_
        replace e := ck_as_e e
        obtain ⟨hk_29, e⟩ := e
        replace e := ck_some_e e
        obtain ⟨b30, hq_31, e⟩ := e
        refine go_get (v := .ref b30) rfl rfl hk_29 (by decide) (by show va_rf (gR h27 a0 1) = _; rw [hq_31]; rfl) ?_
        refine go_aload_n rfl rfl ?_
        replace e := ck_some_e e
        obtain ⟨b32, hq_33, e⟩ := e
        refine go_get (v := .ref b32) rfl rfl hk_29 (by decide) (by show va_rf (gR h27 a0 4) = _; rw [hq_33]; rfl) ?_
        replace e := ck_as_e e
        obtain ⟨hk_34, e⟩ := e
        replace e := ck_some_e e
        obtain ⟨b35, hq_36, e⟩ := e
        refine go_get (v := .ref b35) rfl rfl hk_34 (by decide) (by show va_rf (gR h27 b32 4) = _; rw [hq_36]; rfl) ?_
        replace e := ck_as_e e
        obtain ⟨hk_37, e⟩ := e
        replace e := ck_some_e e
        obtain ⟨b38, hq_39, e⟩ := e
        refine go_get (v := .ref b38) rfl rfl hk_37 (by decide) (by show va_rf (gR h27 b35 1) = _; rw [hq_39]; rfl) ?_
        refine go_iload_n rfl rfl ?_
        replace e := ck_as_e e
        obtain ⟨hc_40, e⟩ := e
        refine go_iald rfl hc_40 ?_
        refine go_aload_n rfl rfl ?_
        replace e := ck_some_e e
        obtain ⟨b41, hq_42, e⟩ := e
        refine go_get (v := .ref b41) rfl rfl hk_29 (by decide) (by show va_rf (gR h27 a0 4) = _; rw [hq_42]; rfl) ?_
        replace e := ck_as_e e
        obtain ⟨hk_43, e⟩ := e
        replace e := ck_some_e e
        obtain ⟨b44, hq_45, e⟩ := e
        refine go_get (v := .ref b44) rfl rfl hk_43 (by decide) (by show va_rf (gR h27 b41 4) = _; rw [hq_45]; rfl) ?_
        replace e := ck_as_e e
        obtain ⟨hk_46, e⟩ := e
        replace e := ck_some_e e
        obtain ⟨b47, hq_48, e⟩ := e
        refine go_get (v := .ref b47) rfl rfl hk_46 (by decide) (by show va_rf (gR h27 b44 2) = _; rw [hq_48]; rfl) ?_
        refine go_iload_n rfl rfl ?_
        replace e := ck_as_e e
        obtain ⟨hc_49, e⟩ := e
        refine go_iald rfl hc_49 ?_
        refine go_iconst (v := 1) rfl (by decide) ?_
        refine go_isub rfl ?_
        refine go_iload_n rfl rfl ?_
        replace e := ck_as_e e
        obtain ⟨hk_50, e⟩ := e
        replace e := ck_bd_e e
        obtain ⟨r51, h52, e53, e⟩ := e
        refine go_callV (As := [.int (gI h27 b38 (r15 : Int32).toNatClampNeg), .int ((gI h27 b47 (r15 : Int32).toNatClampNeg) - 1), .int r26]) (b0 := b30) (rest := []) rfl rfl ⟨hk_50, by decide⟩ rfl ⟨Nat.le_of_ble_eq_true rfl, Nat.le_of_ble_eq_true rfl, Nat.le_of_ble_eq_true rfl, Nat.le_of_ble_eq_true rfl⟩ (s_Sp_set e53) ?_
        show Go k_Op_choose 93 [some (.ref a0), some (.ref a1), some (.int r15), some (.int r26)] [] h52 _
        refine go_aload_n rfl rfl ?_
        refine go_iconst (v := 1) rfl (by decide) ?_
        replace e := ck_as_e e
        obtain ⟨hk_54, e⟩ := e
        refine go_put (h1 := wI h52 a0 6 1) rfl rfl hk_54 ⟨by decide, by decide, Or.inl rfl⟩ (ck_putb rfl (Or.inr rfl)) ?_
        have hk_56 : gk (wI h52 a0 6 1) a0 = 5 := ck_kI.trans hk_54
        generalize wI h52 a0 6 1 = h55 at e hk_56 ⊢
        replace e := ck_then_e e
        refine go_iload_n rfl rfl ?_
        cases e
        exact go_ret rfl rfl
  · rw [if_neg hx_7] at e
    refine go_bipush (v := (-3)) rfl (by decide) ?_
    cases e
    exact go_ret rfl rfl
def f_CS_member (F : Nat) (a0 : Nat) (v1 : Int32) (h : ck_H) : Option (Int32 × ck_H) :=
  ck_as (gk h a0 = 11) <|
  ck_bd (f_CS_takeName F a0 h) fun _ h3 =>
  ck_as (gk h3 a0 = 11) <|
  ck_bd (f_CS_openingAt F a0 v1 h3) fun r6 h7 =>
  ck_opt r6 (
    some ((-3), h7)
  ) fun b10 =>
  ck_as (gk h7 a0 = 11) <|
  ck_some (gR h7 a0 3) fun b12 =>
  ck_as (gk h7 b10 = 5) <|
  ck_bd (f_Op_choose F b10 b12 h7) fun r15 h16 =>
  some (r15, h16)
set_option maxRecDepth 100000 in
set_option maxHeartbeats 4000000 in
theorem s_CS_member {F : Nat} {a0 : Nat} {v1 : Int32} {h h' : ck_H} {r : Int32} (e : f_CS_member F a0 v1 h = some (r, h')) : Go k_CS_member 0 (ck_in [.ref a0, .int v1] 3) [] h (some (.int r), h') := by
  unfold f_CS_member at e
  show Go k_CS_member 0 [some (.ref a0), some (.int v1), none] [] h _
  refine go_aload_n rfl rfl ?_
  replace e := ck_as_e e
  obtain ⟨hk_1, e⟩ := e
  replace e := ck_bd_e e
  obtain ⟨r2, h3, e4, e⟩ := e
  refine go_callV (As := []) (b0 := a0) (rest := []) rfl rfl ⟨hk_1, by decide⟩ rfl ⟨Nat.le_of_ble_eq_true rfl, Nat.le_of_ble_eq_true rfl, Nat.le_of_ble_eq_true rfl, Nat.le_of_ble_eq_true rfl⟩ (s_CS_takeName e4) ?_
  show Go k_CS_member 4 [some (.ref a0), some (.int v1), none] [] h3 _
  refine go_aload_n rfl rfl ?_
  refine go_iload_n rfl rfl ?_
  replace e := ck_as_e e
  obtain ⟨hk_5, e⟩ := e
  replace e := ck_bd_e e
  obtain ⟨r6, h7, e8, e⟩ := e
  refine go_callV (As := [.int v1]) (b0 := a0) (rest := []) rfl rfl ⟨hk_5, by decide⟩ rfl ⟨Nat.le_of_ble_eq_true rfl, Nat.le_of_ble_eq_true rfl, Nat.le_of_ble_eq_true rfl, Nat.le_of_ble_eq_true rfl⟩ (s_CS_openingAt e8) ?_
  replace e := ck_opt_e e
  rcases e with ⟨hq_9, e⟩ | ⟨b10, hq_9, e⟩
  · subst hq_9
    show Go k_CS_member 9 [some (.ref a0), some (.int v1), none] [.null] h7 _
    refine go_astore_nN rfl rfl ?_
    show Go k_CS_member 10 [some (.ref a0), some (.int v1), some .null] [] h7 _
    refine go_aload_nN rfl rfl ?_
    refine go_ifnonnullN rfl ?_
    refine go_bipush (v := (-3)) rfl (by decide) ?_
    refine go_goto (t := 27) rfl rfl ?_
    cases e
    exact go_ret rfl rfl
  subst hq_9
  show Go k_CS_member 9 [some (.ref a0), some (.int v1), none] [.ref b10] h7 _
  refine go_astore_n rfl rfl ?_
  show Go k_CS_member 10 [some (.ref a0), some (.int v1), some (.ref b10)] [] h7 _
  refine go_aload_n rfl rfl ?_
  refine go_ifnonnull (t := 19) rfl rfl ?_
  refine go_aload_n rfl rfl ?_
  refine go_aload_n rfl rfl ?_
  replace e := ck_as_e e
  obtain ⟨hk_11, e⟩ := e
  replace e := ck_some_e e
  obtain ⟨b12, hq_13, e⟩ := e
  refine go_get (v := .ref b12) rfl rfl hk_11 (by decide) (by show va_rf (gR h7 a0 3) = _; rw [hq_13]; rfl) ?_
  replace e := ck_as_e e
  obtain ⟨hk_14, e⟩ := e
  replace e := ck_bd_e e
  obtain ⟨r15, h16, e17, e⟩ := e
  refine go_callV (As := [.ref b12]) (b0 := b10) (rest := []) rfl rfl ⟨hk_14, by decide⟩ rfl ⟨Nat.le_of_ble_eq_true rfl, Nat.le_of_ble_eq_true rfl, Nat.le_of_ble_eq_true rfl, Nat.le_of_ble_eq_true rfl⟩ (s_Op_choose e17) ?_
  show Go k_CS_member 27 [some (.ref a0), some (.int v1), some (.ref b10)] [.int r15] h16 _
  cases e
  exact go_ret rfl rfl
def f_Mb_move (F : Nat) (a0 : Nat) (v1 : Int32) (v2 : Int32) (v3 : Int32) (h : ck_H) : Option (Unit × ck_H) :=
  if v3 < (0 : Int32) then
    some ((), h)
  else
    if v1 < (0 : Int32) then
      some ((), h)
    else
      if v2 < (0 : Int32) then
        some ((), h)
      else
        if (40 - v3) < v1 then
          some ((), h)
        else
          if (40 - v3) < v2 then
            some ((), h)
          else
            ck_as (gk h a0 = 4) <|
            ck_some (gR h a0 0) fun b7 =>
            ck_some (gR h a0 0) fun b9 =>
            ck_as (gk h b7 = gk h b9 ∧ (gk h b9 = 13 ∨ gk h b9 = 14) ∧ ¬ (v1 * 8) < 0 ∧ ¬ (v2 * 8) < 0 ∧ ¬ (v3 * 8) < 0 ∧ (v1 * 8 : Int32).toNatClampNeg + (v3 * 8 : Int32).toNatClampNeg ≤ gz h b7 ∧ (v2 * 8 : Int32).toNatClampNeg + (v3 * 8 : Int32).toNatClampNeg ≤ gz h b9) <|
            ck_then (wC h b7 (v1 * 8 : Int32).toNatClampNeg b9 (v2 * 8 : Int32).toNatClampNeg (v3 * 8 : Int32).toNatClampNeg) fun h12 =>
            ck_some (gR h12 a0 1) fun b14 =>
            ck_some (gR h12 a0 1) fun b16 =>
            ck_as (gk h12 b14 = gk h12 b16 ∧ (gk h12 b16 = 13 ∨ gk h12 b16 = 14) ∧ ¬ v1 < 0 ∧ ¬ v2 < 0 ∧ ¬ v3 < 0 ∧ (v1 : Int32).toNatClampNeg + (v3 : Int32).toNatClampNeg ≤ gz h12 b14 ∧ (v2 : Int32).toNatClampNeg + (v3 : Int32).toNatClampNeg ≤ gz h12 b16) <|
            ck_then (wC h12 b14 (v1 : Int32).toNatClampNeg b16 (v2 : Int32).toNatClampNeg (v3 : Int32).toNatClampNeg) fun h19 =>
            ck_some (gR h19 a0 2) fun b21 =>
            ck_some (gR h19 a0 2) fun b23 =>
            ck_as (gk h19 b21 = gk h19 b23 ∧ (gk h19 b23 = 13 ∨ gk h19 b23 = 14) ∧ ¬ v1 < 0 ∧ ¬ v2 < 0 ∧ ¬ v3 < 0 ∧ (v1 : Int32).toNatClampNeg + (v3 : Int32).toNatClampNeg ≤ gz h19 b21 ∧ (v2 : Int32).toNatClampNeg + (v3 : Int32).toNatClampNeg ≤ gz h19 b23) <|
            ck_then (wC h19 b21 (v1 : Int32).toNatClampNeg b23 (v2 : Int32).toNatClampNeg (v3 : Int32).toNatClampNeg) fun h26 =>
            ck_some (gR h26 a0 3) fun b28 =>
            ck_some (gR h26 a0 3) fun b30 =>
            ck_as (gk h26 b28 = gk h26 b30 ∧ (gk h26 b30 = 13 ∨ gk h26 b30 = 14) ∧ ¬ v1 < 0 ∧ ¬ v2 < 0 ∧ ¬ v3 < 0 ∧ (v1 : Int32).toNatClampNeg + (v3 : Int32).toNatClampNeg ≤ gz h26 b28 ∧ (v2 : Int32).toNatClampNeg + (v3 : Int32).toNatClampNeg ≤ gz h26 b30) <|
            ck_then (wC h26 b28 (v1 : Int32).toNatClampNeg b30 (v2 : Int32).toNatClampNeg (v3 : Int32).toNatClampNeg) fun h33 =>
            some ((), h33)
set_option maxRecDepth 100000 in
set_option maxHeartbeats 4000000 in
theorem s_Mb_move {F : Nat} {a0 : Nat} {v1 : Int32} {v2 : Int32} {v3 : Int32} {h h' : ck_H} {r : Unit} (e : f_Mb_move F a0 v1 v2 v3 h = some (r, h')) : Go k_Mb_move 0 (ck_in [.ref a0, .int v1, .int v2, .int v3] 4) [] h (none, h') := by
  unfold f_Mb_move at e
  show Go k_Mb_move 0 [some (.ref a0), some (.int v1), some (.int v2), some (.int v3)] [] h _
  refine go_iload_n rfl rfl ?_
  refine go_if_lt (t := 28) rfl rfl (fun hx_1 => ?_) (fun hx_1 => ?_)
  · rw [if_pos hx_1] at e
    cases e
    exact go_ret rfl rfl
  · rw [if_neg hx_1] at e
    refine go_iload_n rfl rfl ?_
    refine go_if_lt (t := 28) rfl rfl (fun hx_2 => ?_) (fun hx_2 => ?_)
    · rw [if_pos hx_2] at e
      cases e
      exact go_ret rfl rfl
    · rw [if_neg hx_2] at e
      refine go_iload_n rfl rfl ?_
      refine go_if_lt (t := 28) rfl rfl (fun hx_3 => ?_) (fun hx_3 => ?_)
      · rw [if_pos hx_3] at e
        cases e
        exact go_ret rfl rfl
      · rw [if_neg hx_3] at e
        refine go_iload_n rfl rfl ?_
        refine go_bipush (v := 40) rfl (by decide) ?_
        refine go_iload_n rfl rfl ?_
        refine go_isub rfl ?_
        refine go_icmp_gt (t := 28) rfl rfl (fun hx_4 => ?_) (fun hx_4 => ?_)
        · rw [if_pos hx_4] at e
          cases e
          exact go_ret rfl rfl
        · rw [if_neg hx_4] at e
          refine go_iload_n rfl rfl ?_
          refine go_bipush (v := 40) rfl (by decide) ?_
          refine go_iload_n rfl rfl ?_
          refine go_isub rfl ?_
          refine go_icmp_le (t := 29) rfl rfl (fun hx_5 => ?_) (fun hx_5 => ?_)
          · rw [if_pos hx_5] at e
            cases e
            exact go_ret rfl rfl
          · rw [if_neg hx_5] at e
            refine go_aload_n rfl rfl ?_
            replace e := ck_as_e e
            obtain ⟨hk_6, e⟩ := e
            replace e := ck_some_e e
            obtain ⟨b7, hq_8, e⟩ := e
            refine go_get (v := .ref b7) rfl rfl hk_6 (by decide) (by show va_rf (gR h a0 0) = _; rw [hq_8]; rfl) ?_
            refine go_iload_n rfl rfl ?_
            refine go_bipush (v := 8) rfl (by decide) ?_
            refine go_imul rfl ?_
            refine go_aload_n rfl rfl ?_
            replace e := ck_some_e e
            obtain ⟨b9, hq_10, e⟩ := e
            refine go_get (v := .ref b9) rfl rfl hk_6 (by decide) (by show va_rf (gR h a0 0) = _; rw [hq_10]; rfl) ?_
            refine go_iload_n rfl rfl ?_
            refine go_bipush (v := 8) rfl (by decide) ?_
            refine go_imul rfl ?_
            refine go_iload_n rfl rfl ?_
            refine go_bipush (v := 8) rfl (by decide) ?_
            refine go_imul rfl ?_
            replace e := ck_as_e e
            obtain ⟨hc_11, e⟩ := e
            refine go_copy rfl rfl ⟨Nat.le_of_ble_eq_true rfl, Nat.le_of_ble_eq_true rfl⟩ hc_11 ?_
            have hk_13 : gk (wC h b7 (v1 * 8 : Int32).toNatClampNeg b9 (v2 * 8 : Int32).toNatClampNeg (v3 * 8 : Int32).toNatClampNeg) a0 = 4 := ck_kC.trans hk_6
            generalize wC h b7 (v1 * 8 : Int32).toNatClampNeg b9 (v2 * 8 : Int32).toNatClampNeg (v3 * 8 : Int32).toNatClampNeg = h12 at e hk_13 ⊢
            replace e := ck_then_e e
            refine go_aload_n rfl rfl ?_
            replace e := ck_some_e e
            obtain ⟨b14, hq_15, e⟩ := e
            refine go_get (v := .ref b14) rfl rfl hk_13 (by decide) (by show va_rf (gR h12 a0 1) = _; rw [hq_15]; rfl) ?_
            refine go_iload_n rfl rfl ?_
            refine go_aload_n rfl rfl ?_
            replace e := ck_some_e e
            obtain ⟨b16, hq_17, e⟩ := e
            refine go_get (v := .ref b16) rfl rfl hk_13 (by decide) (by show va_rf (gR h12 a0 1) = _; rw [hq_17]; rfl) ?_
            refine go_iload_n rfl rfl ?_
            refine go_iload_n rfl rfl ?_
            replace e := ck_as_e e
            obtain ⟨hc_18, e⟩ := e
            refine go_copy rfl rfl ⟨Nat.le_of_ble_eq_true rfl, Nat.le_of_ble_eq_true rfl⟩ hc_18 ?_
            have hk_20 : gk (wC h12 b14 (v1 : Int32).toNatClampNeg b16 (v2 : Int32).toNatClampNeg (v3 : Int32).toNatClampNeg) a0 = 4 := ck_kC.trans hk_13
            generalize wC h12 b14 (v1 : Int32).toNatClampNeg b16 (v2 : Int32).toNatClampNeg (v3 : Int32).toNatClampNeg = h19 at e hk_20 ⊢
            replace e := ck_then_e e
            refine go_aload_n rfl rfl ?_
            replace e := ck_some_e e
            obtain ⟨b21, hq_22, e⟩ := e
            refine go_get (v := .ref b21) rfl rfl hk_20 (by decide) (by show va_rf (gR h19 a0 2) = _; rw [hq_22]; rfl) ?_
            refine go_iload_n rfl rfl ?_
            refine go_aload_n rfl rfl ?_
            replace e := ck_some_e e
            obtain ⟨b23, hq_24, e⟩ := e
            refine go_get (v := .ref b23) rfl rfl hk_20 (by decide) (by show va_rf (gR h19 a0 2) = _; rw [hq_24]; rfl) ?_
            refine go_iload_n rfl rfl ?_
            refine go_iload_n rfl rfl ?_
            replace e := ck_as_e e
            obtain ⟨hc_25, e⟩ := e
            refine go_copy rfl rfl ⟨Nat.le_of_ble_eq_true rfl, Nat.le_of_ble_eq_true rfl⟩ hc_25 ?_
            have hk_27 : gk (wC h19 b21 (v1 : Int32).toNatClampNeg b23 (v2 : Int32).toNatClampNeg (v3 : Int32).toNatClampNeg) a0 = 4 := ck_kC.trans hk_20
            generalize wC h19 b21 (v1 : Int32).toNatClampNeg b23 (v2 : Int32).toNatClampNeg (v3 : Int32).toNatClampNeg = h26 at e hk_27 ⊢
            replace e := ck_then_e e
            refine go_aload_n rfl rfl ?_
            replace e := ck_some_e e
            obtain ⟨b28, hq_29, e⟩ := e
            refine go_get (v := .ref b28) rfl rfl hk_27 (by decide) (by show va_rf (gR h26 a0 3) = _; rw [hq_29]; rfl) ?_
            refine go_iload_n rfl rfl ?_
            refine go_aload_n rfl rfl ?_
            replace e := ck_some_e e
            obtain ⟨b30, hq_31, e⟩ := e
            refine go_get (v := .ref b30) rfl rfl hk_27 (by decide) (by show va_rf (gR h26 a0 3) = _; rw [hq_31]; rfl) ?_
            refine go_iload_n rfl rfl ?_
            refine go_iload_n rfl rfl ?_
            replace e := ck_as_e e
            obtain ⟨hc_32, e⟩ := e
            refine go_copy rfl rfl ⟨Nat.le_of_ble_eq_true rfl, Nat.le_of_ble_eq_true rfl⟩ hc_32 ?_
            have hk_34 : gk (wC h26 b28 (v1 : Int32).toNatClampNeg b30 (v2 : Int32).toNatClampNeg (v3 : Int32).toNatClampNeg) a0 = 4 := ck_kC.trans hk_27
            generalize wC h26 b28 (v1 : Int32).toNatClampNeg b30 (v2 : Int32).toNatClampNeg (v3 : Int32).toNatClampNeg = h33 at e hk_34 ⊢
            replace e := ck_then_e e
            cases e
            exact go_ret rfl rfl
def f_Mb_insert (F : Nat) (a0 : Nat) (v1 : Int32) (a2 : Nat) (h : ck_H) : Option (Unit × ck_H) :=
  if v1 < (0 : Int32) then
    some ((), h)
  else
    ck_as (gk h a0 = 4) <|
    if (gI h a0 4) < v1 then
      some ((), h)
    else
      if (gI h a0 4) < (40 : Int32) then
        ck_as (13 ≤ gk h a2 ∧ gk h a2 ≤ 21) <|
        if (Int32.ofNat (gz h a2)) < (8 : Int32) then
          some ((), h)
        else
          ck_bd (f_Mb_move F a0 v1 (v1 + 1) ((gI h a0 4) - v1) h) fun _ h8 =>
          ck_as (gk h8 a0 = 4) <|
          ck_some (gR h8 a0 0) fun b11 =>
          ck_as (gk h8 a2 = gk h8 b11 ∧ (gk h8 b11 = 13 ∨ gk h8 b11 = 14) ∧ ¬ (0 : Int32) < 0 ∧ ¬ (v1 * 8) < 0 ∧ ¬ (8 : Int32) < 0 ∧ (0 : Int32).toNatClampNeg + (8 : Int32).toNatClampNeg ≤ gz h8 a2 ∧ (v1 * 8 : Int32).toNatClampNeg + (8 : Int32).toNatClampNeg ≤ gz h8 b11) <|
          ck_then (wC h8 a2 (0 : Int32).toNatClampNeg b11 (v1 * 8 : Int32).toNatClampNeg (8 : Int32).toNatClampNeg) fun h14 =>
          ck_then (wI h14 a0 4 ((gI h14 a0 4) + 1)) fun h16 =>
          some ((), h16)
      else
        some ((), h)
set_option maxRecDepth 100000 in
set_option maxHeartbeats 4000000 in
theorem s_Mb_insert {F : Nat} {a0 : Nat} {v1 : Int32} {a2 : Nat} {h h' : ck_H} {r : Unit} (e : f_Mb_insert F a0 v1 a2 h = some (r, h')) : Go k_Mb_insert 0 (ck_in [.ref a0, .int v1, .ref a2] 3) [] h (none, h') := by
  unfold f_Mb_insert at e
  show Go k_Mb_insert 0 [some (.ref a0), some (.int v1), some (.ref a2)] [] h _
  refine go_iload_n rfl rfl ?_
  refine go_if_lt (t := 28) rfl rfl (fun hx_1 => ?_) (fun hx_1 => ?_)
  · rw [if_pos hx_1] at e
    cases e
    exact go_ret rfl rfl
  · rw [if_neg hx_1] at e
    refine go_iload_n rfl rfl ?_
    refine go_aload_n rfl rfl ?_
    replace e := ck_as_e e
    obtain ⟨hk_2, e⟩ := e
    refine go_get (v := .int (gI h a0 4)) rfl rfl hk_2 (by decide) rfl ?_
    refine go_icmp_gt (t := 28) rfl rfl (fun hx_3 => ?_) (fun hx_3 => ?_)
    · rw [if_pos hx_3] at e
      cases e
      exact go_ret rfl rfl
    · rw [if_neg hx_3] at e
      refine go_aload_n rfl rfl ?_
      refine go_get (v := .int (gI h a0 4)) rfl rfl hk_2 (by decide) rfl ?_
      refine go_bipush (v := 40) rfl (by decide) ?_
      refine go_icmp_ge (t := 28) rfl rfl (fun hx_4 => ?_) (fun hx_4 => ?_)
      · rw [if_pos hx_4] at e
        refine go_aload_n rfl rfl ?_
        replace e := ck_as_e e
        obtain ⟨hc_5, e⟩ := e
        refine go_alen rfl hc_5 ?_
        refine go_bipush (v := 8) rfl (by decide) ?_
        refine go_icmp_ge (t := 29) rfl rfl (fun hx_6 => ?_) (fun hx_6 => ?_)
        · rw [if_pos hx_6] at e
          cases e
          exact go_ret rfl rfl
        · rw [if_neg hx_6] at e
          refine go_aload_n rfl rfl ?_
          refine go_iload_n rfl rfl ?_
          refine go_iload_n rfl rfl ?_
          refine go_iconst (v := 1) rfl (by decide) ?_
          refine go_iadd rfl ?_
          refine go_aload_n rfl rfl ?_
          refine go_get (v := .int (gI h a0 4)) rfl rfl hk_2 (by decide) rfl ?_
          refine go_iload_n rfl rfl ?_
          refine go_isub rfl ?_
          replace e := ck_bd_e e
          obtain ⟨r7, h8, e9, e⟩ := e
          refine go_callV (As := [.int v1, .int (v1 + 1), .int ((gI h a0 4) - v1)]) (b0 := a0) (rest := []) rfl rfl ⟨hk_2, by decide⟩ rfl ⟨Nat.le_of_ble_eq_true rfl, Nat.le_of_ble_eq_true rfl, Nat.le_of_ble_eq_true rfl, Nat.le_of_ble_eq_true rfl⟩ (s_Mb_move e9) ?_
          show Go k_Mb_insert 43 [some (.ref a0), some (.int v1), some (.ref a2)] [] h8 _
          refine go_aload_n rfl rfl ?_
          refine go_iconst (v := 0) rfl (by decide) ?_
          refine go_aload_n rfl rfl ?_
          replace e := ck_as_e e
          obtain ⟨hk_10, e⟩ := e
          replace e := ck_some_e e
          obtain ⟨b11, hq_12, e⟩ := e
          refine go_get (v := .ref b11) rfl rfl hk_10 (by decide) (by show va_rf (gR h8 a0 0) = _; rw [hq_12]; rfl) ?_
          refine go_iload_n rfl rfl ?_
          refine go_bipush (v := 8) rfl (by decide) ?_
          refine go_imul rfl ?_
          refine go_bipush (v := 8) rfl (by decide) ?_
          replace e := ck_as_e e
          obtain ⟨hc_13, e⟩ := e
          refine go_copy rfl rfl ⟨Nat.le_of_ble_eq_true rfl, Nat.le_of_ble_eq_true rfl⟩ hc_13 ?_
          have hk_15 : gk (wC h8 a2 (0 : Int32).toNatClampNeg b11 (v1 * 8 : Int32).toNatClampNeg (8 : Int32).toNatClampNeg) a0 = 4 := ck_kC.trans hk_10
          generalize wC h8 a2 (0 : Int32).toNatClampNeg b11 (v1 * 8 : Int32).toNatClampNeg (8 : Int32).toNatClampNeg = h14 at e hk_15 ⊢
          replace e := ck_then_e e
          refine go_aload_n rfl rfl ?_
          refine go_dup rfl rfl ?_
          refine go_get (v := .int (gI h14 a0 4)) rfl rfl hk_15 (by decide) rfl ?_
          refine go_iconst (v := 1) rfl (by decide) ?_
          refine go_iadd rfl ?_
          refine go_put (h1 := wI h14 a0 4 ((gI h14 a0 4) + 1)) rfl rfl hk_15 ⟨by decide, by decide, Or.inl rfl⟩ rfl ?_
          have hk_17 : gk (wI h14 a0 4 ((gI h14 a0 4) + 1)) a0 = 4 := ck_kI.trans hk_15
          generalize wI h14 a0 4 ((gI h14 a0 4) + 1) = h16 at e hk_17 ⊢
          replace e := ck_then_e e
          cases e
          exact go_ret rfl rfl
      · rw [if_neg hx_4] at e
        cases e
        exact go_ret rfl rfl
def f_Mb_setBegin (F : Nat) (a0 : Nat) (v1 : Int32) (v2 : Int32) (v3 : Int32) (h : ck_H) : Option (Unit × ck_H) :=
  ck_as (gk h a0 = 4) <|
  ck_bd (f_Mb_has F a0 v1 h) fun r2 h3 =>
  if r2 = (0 : Int32) then
    some ((), h3)
  else
    ck_as (gk h3 a0 = 4) <|
    ck_some (gR h3 a0 1) fun b7 =>
    ck_as (gk h3 b7 = 14 ∧ ¬ v1 < 0 ∧ (v1 : Int32).toNatClampNeg < gz h3 b7) <|
    ck_then (wI h3 b7 (v1 : Int32).toNatClampNeg v2) fun h10 =>
    ck_some (gR h10 a0 2) fun b12 =>
    ck_as (gk h10 b12 = 14 ∧ ¬ v1 < 0 ∧ (v1 : Int32).toNatClampNeg < gz h10 b12) <|
    ck_then (wI h10 b12 (v1 : Int32).toNatClampNeg v3) fun h15 =>
    some ((), h15)
set_option maxRecDepth 100000 in
set_option maxHeartbeats 4000000 in
theorem s_Mb_setBegin {F : Nat} {a0 : Nat} {v1 : Int32} {v2 : Int32} {v3 : Int32} {h h' : ck_H} {r : Unit} (e : f_Mb_setBegin F a0 v1 v2 v3 h = some (r, h')) : Go k_Mb_setBegin 0 (ck_in [.ref a0, .int v1, .int v2, .int v3] 4) [] h (none, h') := by
  unfold f_Mb_setBegin at e
  show Go k_Mb_setBegin 0 [some (.ref a0), some (.int v1), some (.int v2), some (.int v3)] [] h _
  refine go_aload_n rfl rfl ?_
  refine go_iload_n rfl rfl ?_
  replace e := ck_as_e e
  obtain ⟨hk_1, e⟩ := e
  replace e := ck_bd_e e
  obtain ⟨r2, h3, e4, e⟩ := e
  refine go_callV (As := [.int v1]) (b0 := a0) (rest := []) rfl rfl ⟨hk_1, by decide⟩ rfl ⟨Nat.le_of_ble_eq_true rfl, Nat.le_of_ble_eq_true rfl, Nat.le_of_ble_eq_true rfl, Nat.le_of_ble_eq_true rfl⟩ (s_Mb_has e4) ?_
  show Go k_Mb_setBegin 5 [some (.ref a0), some (.int v1), some (.int v2), some (.int v3)] [.int r2] h3 _
  refine go_if_eq (t := 22) rfl rfl (fun hx_5 => ?_) (fun hx_5 => ?_)
  · rw [if_pos hx_5] at e
    cases e
    exact go_ret rfl rfl
  · rw [if_neg hx_5] at e
    refine go_aload_n rfl rfl ?_
    replace e := ck_as_e e
    obtain ⟨hk_6, e⟩ := e
    replace e := ck_some_e e
    obtain ⟨b7, hq_8, e⟩ := e
    refine go_get (v := .ref b7) rfl rfl hk_6 (by decide) (by show va_rf (gR h3 a0 1) = _; rw [hq_8]; rfl) ?_
    refine go_iload_n rfl rfl ?_
    refine go_iload_n rfl rfl ?_
    replace e := ck_as_e e
    obtain ⟨hc_9, e⟩ := e
    refine go_iast rfl hc_9 ?_
    have hk_11 : gk (wI h3 b7 (v1 : Int32).toNatClampNeg v2) a0 = 4 := ck_kI.trans hk_6
    generalize wI h3 b7 (v1 : Int32).toNatClampNeg v2 = h10 at e hk_11 ⊢
    replace e := ck_then_e e
    refine go_aload_n rfl rfl ?_
    replace e := ck_some_e e
    obtain ⟨b12, hq_13, e⟩ := e
    refine go_get (v := .ref b12) rfl rfl hk_11 (by decide) (by show va_rf (gR h10 a0 2) = _; rw [hq_13]; rfl) ?_
    refine go_iload_n rfl rfl ?_
    refine go_iload_n rfl rfl ?_
    replace e := ck_as_e e
    obtain ⟨hc_14, e⟩ := e
    refine go_iast rfl hc_14 ?_
    have hk_16 : gk (wI h10 b12 (v1 : Int32).toNatClampNeg v3) a0 = 4 := ck_kI.trans hk_11
    generalize wI h10 b12 (v1 : Int32).toNatClampNeg v3 = h15 at e hk_16 ⊢
    replace e := ck_then_e e
    cases e
    exact go_ret rfl rfl
def f_Mb_setBlocks (F : Nat) (a0 : Nat) (v1 : Int32) (v2 : Int32) (h : ck_H) : Option (Unit × ck_H) :=
  ck_as (gk h a0 = 4) <|
  ck_bd (f_Mb_has F a0 v1 h) fun r2 h3 =>
  if r2 = (0 : Int32) then
    some ((), h3)
  else
    ck_as (gk h3 a0 = 4) <|
    ck_some (gR h3 a0 3) fun b7 =>
    ck_as (gk h3 b7 = 14 ∧ ¬ v1 < 0 ∧ (v1 : Int32).toNatClampNeg < gz h3 b7) <|
    ck_then (wI h3 b7 (v1 : Int32).toNatClampNeg v2) fun h10 =>
    some ((), h10)
set_option maxRecDepth 100000 in
set_option maxHeartbeats 4000000 in
theorem s_Mb_setBlocks {F : Nat} {a0 : Nat} {v1 : Int32} {v2 : Int32} {h h' : ck_H} {r : Unit} (e : f_Mb_setBlocks F a0 v1 v2 h = some (r, h')) : Go k_Mb_setBlocks 0 (ck_in [.ref a0, .int v1, .int v2] 3) [] h (none, h') := by
  unfold f_Mb_setBlocks at e
  show Go k_Mb_setBlocks 0 [some (.ref a0), some (.int v1), some (.int v2)] [] h _
  refine go_aload_n rfl rfl ?_
  refine go_iload_n rfl rfl ?_
  replace e := ck_as_e e
  obtain ⟨hk_1, e⟩ := e
  replace e := ck_bd_e e
  obtain ⟨r2, h3, e4, e⟩ := e
  refine go_callV (As := [.int v1]) (b0 := a0) (rest := []) rfl rfl ⟨hk_1, by decide⟩ rfl ⟨Nat.le_of_ble_eq_true rfl, Nat.le_of_ble_eq_true rfl, Nat.le_of_ble_eq_true rfl, Nat.le_of_ble_eq_true rfl⟩ (s_Mb_has e4) ?_
  show Go k_Mb_setBlocks 5 [some (.ref a0), some (.int v1), some (.int v2)] [.int r2] h3 _
  refine go_if_eq (t := 15) rfl rfl (fun hx_5 => ?_) (fun hx_5 => ?_)
  · rw [if_pos hx_5] at e
    cases e
    exact go_ret rfl rfl
  · rw [if_neg hx_5] at e
    refine go_aload_n rfl rfl ?_
    replace e := ck_as_e e
    obtain ⟨hk_6, e⟩ := e
    replace e := ck_some_e e
    obtain ⟨b7, hq_8, e⟩ := e
    refine go_get (v := .ref b7) rfl rfl hk_6 (by decide) (by show va_rf (gR h3 a0 3) = _; rw [hq_8]; rfl) ?_
    refine go_iload_n rfl rfl ?_
    refine go_iload_n rfl rfl ?_
    replace e := ck_as_e e
    obtain ⟨hc_9, e⟩ := e
    refine go_iast rfl hc_9 ?_
    have hk_11 : gk (wI h3 b7 (v1 : Int32).toNatClampNeg v2) a0 = 4 := ck_kI.trans hk_6
    generalize wI h3 b7 (v1 : Int32).toNatClampNeg v2 = h10 at e hk_11 ⊢
    replace e := ck_then_e e
    cases e
    exact go_ret rfl rfl
def f_Mk_stowAs (F : Nat) (a0 : Nat) (a1 : Nat) (v2 : Int32) (h : ck_H) : Option (Unit × ck_H) :=
  ck_as (gk h a0 = 3) <|
  ck_bd (f_Mk_writeBlock F a0 a1 h) fun _ h3 =>
  ck_as (gk h3 a1 = 2) <|
  ck_some (gR h3 a1 4) fun b6 =>
  ck_as (gk h3 a0 = 3) <|
  ck_as (gk h3 b6 = 4) <|
  ck_bd (f_Mb_setBegin F b6 v2 (gI h3 a0 1) (gI h3 a0 2) h3) fun _ h11 =>
  ck_as (gk h11 a1 = 2) <|
  ck_some (gR h11 a1 4) fun b14 =>
  ck_as (gk h11 a0 = 3) <|
  ck_as (gk h11 b14 = 4) <|
  ck_bd (f_Mb_setBlocks F b14 v2 (gI h11 a0 3) h11) fun _ h19 =>
  ck_as (gk h19 a0 = 3) <|
  ck_bd (f_Mk_beginMember F a0 h19) fun _ h23 =>
  some ((), h23)
set_option maxRecDepth 100000 in
set_option maxHeartbeats 4000000 in
theorem s_Mk_stowAs {F : Nat} {a0 : Nat} {a1 : Nat} {v2 : Int32} {h h' : ck_H} {r : Unit} (e : f_Mk_stowAs F a0 a1 v2 h = some (r, h')) : Go k_Mk_stowAs 0 (ck_in [.ref a0, .ref a1, .int v2] 3) [] h (none, h') := by
  unfold f_Mk_stowAs at e
  show Go k_Mk_stowAs 0 [some (.ref a0), some (.ref a1), some (.int v2)] [] h _
  refine go_aload_n rfl rfl ?_
  refine go_aload_n rfl rfl ?_
  replace e := ck_as_e e
  obtain ⟨hk_1, e⟩ := e
  replace e := ck_bd_e e
  obtain ⟨r2, h3, e4, e⟩ := e
  refine go_callV (As := [.ref a1]) (b0 := a0) (rest := []) rfl rfl ⟨hk_1, by decide⟩ rfl ⟨Nat.le_of_ble_eq_true rfl, Nat.le_of_ble_eq_true rfl, Nat.le_of_ble_eq_true rfl, Nat.le_of_ble_eq_true rfl⟩ (s_Mk_writeBlock e4) ?_
  show Go k_Mk_stowAs 5 [some (.ref a0), some (.ref a1), some (.int v2)] [] h3 _
  refine go_aload_n rfl rfl ?_
  replace e := ck_as_e e
  obtain ⟨hk_5, e⟩ := e
  replace e := ck_some_e e
  obtain ⟨b6, hq_7, e⟩ := e
  refine go_get (v := .ref b6) rfl rfl hk_5 (by decide) (by show va_rf (gR h3 a1 4) = _; rw [hq_7]; rfl) ?_
  refine go_iload_n rfl rfl ?_
  refine go_aload_n rfl rfl ?_
  replace e := ck_as_e e
  obtain ⟨hk_8, e⟩ := e
  refine go_get (v := .int (gI h3 a0 1)) rfl rfl hk_8 (by decide) rfl ?_
  refine go_aload_n rfl rfl ?_
  refine go_get (v := .int (gI h3 a0 2)) rfl rfl hk_8 (by decide) rfl ?_
  replace e := ck_as_e e
  obtain ⟨hk_9, e⟩ := e
  replace e := ck_bd_e e
  obtain ⟨r10, h11, e12, e⟩ := e
  refine go_callV (As := [.int v2, .int (gI h3 a0 1), .int (gI h3 a0 2)]) (b0 := b6) (rest := []) rfl rfl ⟨hk_9, by decide⟩ rfl ⟨Nat.le_of_ble_eq_true rfl, Nat.le_of_ble_eq_true rfl, Nat.le_of_ble_eq_true rfl, Nat.le_of_ble_eq_true rfl⟩ (s_Mb_setBegin e12) ?_
  show Go k_Mk_stowAs 21 [some (.ref a0), some (.ref a1), some (.int v2)] [] h11 _
  refine go_aload_n rfl rfl ?_
  replace e := ck_as_e e
  obtain ⟨hk_13, e⟩ := e
  replace e := ck_some_e e
  obtain ⟨b14, hq_15, e⟩ := e
  refine go_get (v := .ref b14) rfl rfl hk_13 (by decide) (by show va_rf (gR h11 a1 4) = _; rw [hq_15]; rfl) ?_
  refine go_iload_n rfl rfl ?_
  refine go_aload_n rfl rfl ?_
  replace e := ck_as_e e
  obtain ⟨hk_16, e⟩ := e
  refine go_get (v := .int (gI h11 a0 3)) rfl rfl hk_16 (by decide) rfl ?_
  replace e := ck_as_e e
  obtain ⟨hk_17, e⟩ := e
  replace e := ck_bd_e e
  obtain ⟨r18, h19, e20, e⟩ := e
  refine go_callV (As := [.int v2, .int (gI h11 a0 3)]) (b0 := b14) (rest := []) rfl rfl ⟨hk_17, by decide⟩ rfl ⟨Nat.le_of_ble_eq_true rfl, Nat.le_of_ble_eq_true rfl, Nat.le_of_ble_eq_true rfl, Nat.le_of_ble_eq_true rfl⟩ (s_Mb_setBlocks e20) ?_
  show Go k_Mk_stowAs 33 [some (.ref a0), some (.ref a1), some (.int v2)] [] h19 _
  refine go_aload_n rfl rfl ?_
  replace e := ck_as_e e
  obtain ⟨hk_21, e⟩ := e
  replace e := ck_bd_e e
  obtain ⟨r22, h23, e24, e⟩ := e
  refine go_callV (As := []) (b0 := a0) (rest := []) rfl rfl ⟨hk_21, by decide⟩ rfl ⟨Nat.le_of_ble_eq_true rfl, Nat.le_of_ble_eq_true rfl, Nat.le_of_ble_eq_true rfl, Nat.le_of_ble_eq_true rfl⟩ (s_Mk_beginMember e24) ?_
  show Go k_Mk_stowAs 37 [some (.ref a0), some (.ref a1), some (.int v2)] [] h23 _
  cases e
  exact go_ret rfl rfl
def f_Op_stowMember (F : Nat) (a0 : Nat) (a1 : Nat) (h : ck_H) : Option (Int32 × ck_H) :=
  ck_as (gk h a0 = 5) <|
  ck_opt (gR h a0 4) (
    some ((-3), h)
  ) fun b3 =>
  ck_some (gR h a0 4) fun b4 =>
  ck_as (gk h b4 = 2) <|
  if (gI h b4 6) = (4 : Int32) then
    if (gI h a0 8) = (1 : Int32) then
      ck_some (gR h a0 4) fun b9 =>
      ck_as (gk h b9 = 2) <|
      ck_opt (gR h b9 4) (
        none
      ) fun b13 =>
      ck_as (gk h b13 = 4) <|
      ck_bd (f_Mb_placeOf F b13 a1 h) fun r15 h16 =>
      ck_as (gk h16 b13 = 4) <|
      ck_bd (f_Mb_find F b13 a1 h16) fun r19 h20 =>
      if r19 < (0 : Int32) then
        ck_as (gk h20 b13 = 4) <|
        if (gI h20 b13 4) < (40 : Int32) then
          ck_bd (f_Mb_insert F b13 r15 a1 h20) fun _ h26 =>
          ck_as (gk h26 a0 = 5) <|
          ck_some (gR h26 a0 0) fun b29 =>
          ck_some (gR h26 a0 4) fun b31 =>
          ck_as (gk h26 b29 = 3) <|
          ck_bd (f_Mk_stowAs F b29 b31 r15 h26) fun _ h35 =>
          ck_as (gk h35 b13 = 4) <|
          some (gI h35 b13 4, h35)
        else
          some ((-4), h20)
      else
        ck_as (gk h20 a0 = 5) <|
        ck_some (gR h20 a0 0) fun b39 =>
        ck_some (gR h20 a0 4) fun b41 =>
        ck_as (gk h20 b39 = 3) <|
        ck_bd (f_Mk_stowAs F b39 b41 r15 h20) fun _ h45 =>
        ck_as (gk h45 b13 = 4) <|
        some (gI h45 b13 4, h45)
    else
      some ((-3), h)
  else
    some ((-3), h)
set_option maxRecDepth 100000 in
set_option maxHeartbeats 4000000 in
theorem s_Op_stowMember {F : Nat} {a0 : Nat} {a1 : Nat} {h h' : ck_H} {r : Int32} (e : f_Op_stowMember F a0 a1 h = some (r, h')) : Go k_Op_stowMember 0 (ck_in [.ref a0, .ref a1] 4) [] h (some (.int r), h') := by
  unfold f_Op_stowMember at e
  show Go k_Op_stowMember 0 [some (.ref a0), some (.ref a1), none, none] [] h _
  refine go_aload_n rfl rfl ?_
  replace e := ck_as_e e
  obtain ⟨hk_1, e⟩ := e
  replace e := ck_opt_e e
  rcases e with ⟨hq_2, e⟩ | ⟨b3, hq_2, e⟩
  · refine go_get (v := .null) rfl rfl hk_1 (by decide) (by show va_rf (gR h a0 4) = _; rw [hq_2]; rfl) ?_
    refine go_ifnullN (t := 26) rfl rfl ?_
    refine go_bipush (v := (-3)) rfl (by decide) ?_
    cases e
    exact go_ret rfl rfl
  refine go_get (v := .ref b3) rfl rfl hk_1 (by decide) (by show va_rf (gR h a0 4) = _; rw [hq_2]; rfl) ?_
  refine go_ifnull rfl ?_
  refine go_aload_n rfl rfl ?_
  replace e := ck_some_e e
  obtain ⟨b4, hq_5, e⟩ := e
  refine go_get (v := .ref b4) rfl rfl hk_1 (by decide) (by show va_rf (gR h a0 4) = _; rw [hq_5]; rfl) ?_
  replace e := ck_as_e e
  obtain ⟨hk_6, e⟩ := e
  refine go_get (v := .int (gI h b4 6)) rfl rfl hk_6 (by decide) rfl ?_
  refine go_iconst (v := 4) rfl (by decide) ?_
  refine go_icmp_ne (t := 26) rfl rfl (fun hx_7 => ?_) (fun hx_7 => ?_)
  · rw [if_pos hx_7] at e
    refine go_aload_n rfl rfl ?_
    refine go_get (v := .int (gI h a0 8)) rfl rfl hk_1 (by decide) rfl ?_
    refine go_iconst (v := 1) rfl (by decide) ?_
    refine go_icmp_eq (t := 29) rfl rfl (fun hx_8 => ?_) (fun hx_8 => ?_)
    · rw [if_pos hx_8] at e
      refine go_aload_n rfl rfl ?_
      replace e := ck_some_e e
      obtain ⟨b9, hq_10, e⟩ := e
      refine go_get (v := .ref b9) rfl rfl hk_1 (by decide) (by show va_rf (gR h a0 4) = _; rw [hq_10]; rfl) ?_
      replace e := ck_as_e e
      obtain ⟨hk_11, e⟩ := e
      replace e := ck_opt_e e
      rcases e with ⟨hq_12, e⟩ | ⟨b13, hq_12, e⟩
      · refine go_get (v := .null) rfl rfl hk_11 (by decide) (by show va_rf (gR h b9 4) = _; rw [hq_12]; rfl) ?_
        refine go_astore_nN rfl rfl ?_
        show Go k_Op_stowMember 37 [some (.ref a0), some (.ref a1), some .null, none] [] h _
        refine go_aload_nN rfl rfl ?_
        refine go_aload_n rfl rfl ?_
        cases e
      refine go_get (v := .ref b13) rfl rfl hk_11 (by decide) (by show va_rf (gR h b9 4) = _; rw [hq_12]; rfl) ?_
      refine go_astore_n rfl rfl ?_
      show Go k_Op_stowMember 37 [some (.ref a0), some (.ref a1), some (.ref b13), none] [] h _
      refine go_aload_n rfl rfl ?_
      refine go_aload_n rfl rfl ?_
      replace e := ck_as_e e
      obtain ⟨hk_14, e⟩ := e
      replace e := ck_bd_e e
      obtain ⟨r15, h16, e17, e⟩ := e
      refine go_callV (As := [.ref a1]) (b0 := b13) (rest := []) rfl rfl ⟨hk_14, by decide⟩ rfl ⟨Nat.le_of_ble_eq_true rfl, Nat.le_of_ble_eq_true rfl, Nat.le_of_ble_eq_true rfl, Nat.le_of_ble_eq_true rfl⟩ (s_Mb_placeOf e17) ?_
      show Go k_Op_stowMember 42 [some (.ref a0), some (.ref a1), some (.ref b13), none] [.int r15] h16 _
      refine go_istore_n rfl rfl ?_
      show Go k_Op_stowMember 43 [some (.ref a0), some (.ref a1), some (.ref b13), some (.int r15)] [] h16 _
      refine go_aload_n rfl rfl ?_
      refine go_aload_n rfl rfl ?_
      replace e := ck_as_e e
      obtain ⟨hk_18, e⟩ := e
      replace e := ck_bd_e e
      obtain ⟨r19, h20, e21, e⟩ := e
      refine go_callV (As := [.ref a1]) (b0 := b13) (rest := []) rfl rfl ⟨hk_18, by decide⟩ rfl ⟨Nat.le_of_ble_eq_true rfl, Nat.le_of_ble_eq_true rfl, Nat.le_of_ble_eq_true rfl, Nat.le_of_ble_eq_true rfl⟩ (s_Mb_find e21) ?_
      show Go k_Op_stowMember 48 [some (.ref a0), some (.ref a1), some (.ref b13), some (.int r15)] [.int r19] h20 _
      refine go_if_ge (t := 69) rfl rfl (fun hx_22 => ?_) (fun hx_22 => ?_)
      · rw [if_pos hx_22] at e
        refine go_aload_n rfl rfl ?_
        replace e := ck_as_e e
        obtain ⟨hk_23, e⟩ := e
        refine go_get (v := .int (gI h20 b13 4)) rfl rfl hk_23 (by decide) rfl ?_
        refine go_bipush (v := 40) rfl (by decide) ?_
        refine go_icmp_lt (t := 63) rfl rfl (fun hx_24 => ?_) (fun hx_24 => ?_)
        · rw [if_pos hx_24] at e
          refine go_aload_n rfl rfl ?_
          refine go_iload_n rfl rfl ?_
          refine go_aload_n rfl rfl ?_
          replace e := ck_bd_e e
          obtain ⟨r25, h26, e27, e⟩ := e
          refine go_callV (As := [.int r15, .ref a1]) (b0 := b13) (rest := []) rfl rfl ⟨hk_23, by decide⟩ rfl ⟨Nat.le_of_ble_eq_true rfl, Nat.le_of_ble_eq_true rfl, Nat.le_of_ble_eq_true rfl, Nat.le_of_ble_eq_true rfl⟩ (s_Mb_insert e27) ?_
          show Go k_Op_stowMember 69 [some (.ref a0), some (.ref a1), some (.ref b13), some (.int r15)] [] h26 _
          refine go_aload_n rfl rfl ?_
          replace e := ck_as_e e
          obtain ⟨hk_28, e⟩ := e
          replace e := ck_some_e e
          obtain ⟨b29, hq_30, e⟩ := e
          refine go_get (v := .ref b29) rfl rfl hk_28 (by decide) (by show va_rf (gR h26 a0 0) = _; rw [hq_30]; rfl) ?_
          refine go_aload_n rfl rfl ?_
          replace e := ck_some_e e
          obtain ⟨b31, hq_32, e⟩ := e
          refine go_get (v := .ref b31) rfl rfl hk_28 (by decide) (by show va_rf (gR h26 a0 4) = _; rw [hq_32]; rfl) ?_
          refine go_iload_n rfl rfl ?_
          replace e := ck_as_e e
          obtain ⟨hk_33, e⟩ := e
          replace e := ck_bd_e e
          obtain ⟨r34, h35, e36, e⟩ := e
          refine go_callV (As := [.ref b31, .int r15]) (b0 := b29) (rest := []) rfl rfl ⟨hk_33, by decide⟩ rfl ⟨Nat.le_of_ble_eq_true rfl, Nat.le_of_ble_eq_true rfl, Nat.le_of_ble_eq_true rfl, Nat.le_of_ble_eq_true rfl⟩ (s_Mk_stowAs e36) ?_
          show Go k_Op_stowMember 81 [some (.ref a0), some (.ref a1), some (.ref b13), some (.int r15)] [] h35 _
          refine go_aload_n rfl rfl ?_
          replace e := ck_as_e e
          obtain ⟨hk_37, e⟩ := e
          refine go_get (v := .int (gI h35 b13 4)) rfl rfl hk_37 (by decide) rfl ?_
          cases e
          exact go_ret rfl rfl
        · rw [if_neg hx_24] at e
          refine go_bipush (v := (-4)) rfl (by decide) ?_
          cases e
          exact go_ret rfl rfl
      · rw [if_neg hx_22] at e
        refine go_aload_n rfl rfl ?_
        replace e := ck_as_e e
        obtain ⟨hk_38, e⟩ := e
        replace e := ck_some_e e
        obtain ⟨b39, hq_40, e⟩ := e
        refine go_get (v := .ref b39) rfl rfl hk_38 (by decide) (by show va_rf (gR h20 a0 0) = _; rw [hq_40]; rfl) ?_
        refine go_aload_n rfl rfl ?_
        replace e := ck_some_e e
        obtain ⟨b41, hq_42, e⟩ := e
        refine go_get (v := .ref b41) rfl rfl hk_38 (by decide) (by show va_rf (gR h20 a0 4) = _; rw [hq_42]; rfl) ?_
        refine go_iload_n rfl rfl ?_
        replace e := ck_as_e e
        obtain ⟨hk_43, e⟩ := e
        replace e := ck_bd_e e
        obtain ⟨r44, h45, e46, e⟩ := e
        refine go_callV (As := [.ref b41, .int r15]) (b0 := b39) (rest := []) rfl rfl ⟨hk_43, by decide⟩ rfl ⟨Nat.le_of_ble_eq_true rfl, Nat.le_of_ble_eq_true rfl, Nat.le_of_ble_eq_true rfl, Nat.le_of_ble_eq_true rfl⟩ (s_Mk_stowAs e46) ?_
        show Go k_Op_stowMember 81 [some (.ref a0), some (.ref a1), some (.ref b13), some (.int r15)] [] h45 _
        refine go_aload_n rfl rfl ?_
        replace e := ck_as_e e
        obtain ⟨hk_47, e⟩ := e
        refine go_get (v := .int (gI h45 b13 4)) rfl rfl hk_47 (by decide) rfl ?_
        cases e
        exact go_ret rfl rfl
    · rw [if_neg hx_8] at e
      refine go_bipush (v := (-3)) rfl (by decide) ?_
      cases e
      exact go_ret rfl rfl
  · rw [if_neg hx_7] at e
    refine go_bipush (v := (-3)) rfl (by decide) ?_
    cases e
    exact go_ret rfl rfl
def f_Vo_fillLine_L30 (F : Nat)  : Nat → Nat → Nat → Int32 → Int32 → ck_H → Option (Unit × ck_H)
  | 0, _, _, _, _, _ => none
  | n + 1, a0, a1, v3, v4, h =>
    if v4 < v3 then
      ck_as (gk h a1 = 4) <|
      ck_bd (f_Mb_has F a1 v4 h) fun r3 h4 =>
      if r3 = (0 : Int32) then
        some ((), h4)
      else
        ck_as (gk h4 a0 = 10) <|
        ck_some (gR h4 a0 5) fun b8 =>
        ck_as (gk h4 a1 = 4) <|
        ck_some (gR h4 a1 0) fun b11 =>
        ck_as (gk h4 b8 = 6) <|
        ck_bd (f_Rw_addAll F b8 b11 (v4 * 8) 8 h4) fun _ h15 =>
        ck_as (gk h15 a0 = 10) <|
        ck_some (gR h15 a0 5) fun b18 =>
        ck_as (gk h15 a1 = 4) <|
        ck_some (gR h15 a1 1) fun b21 =>
        ck_as ((gk h15 b21 = 14 ∨ gk h15 b21 = 21) ∧ ¬ v4 < 0 ∧ (v4 : Int32).toNatClampNeg < gz h15 b21) <|
        ck_as (gk h15 b18 = 6) <|
        ck_bd (f_Rw_addByte F b18 (gI h15 b21 (v4 : Int32).toNatClampNeg) h15) fun _ h26 =>
        ck_as (gk h26 a0 = 10) <|
        ck_some (gR h26 a0 5) fun b29 =>
        ck_as (gk h26 a1 = 4) <|
        ck_some (gR h26 a1 2) fun b32 =>
        ck_as ((gk h26 b32 = 14 ∨ gk h26 b32 = 21) ∧ ¬ v4 < 0 ∧ (v4 : Int32).toNatClampNeg < gz h26 b32) <|
        ck_as (gk h26 b29 = 6) <|
        ck_bd (f_Rw_addByte F b29 (gI h26 b32 (v4 : Int32).toNatClampNeg) h26) fun _ h37 =>
        ck_as (gk h37 a0 = 10) <|
        ck_some (gR h37 a0 5) fun b40 =>
        ck_as (gk h37 a1 = 4) <|
        ck_some (gR h37 a1 3) fun b43 =>
        ck_as ((gk h37 b43 = 14 ∨ gk h37 b43 = 21) ∧ ¬ v4 < 0 ∧ (v4 : Int32).toNatClampNeg < gz h37 b43) <|
        ck_as (gk h37 b40 = 6) <|
        ck_bd (f_Rw_addPair F b40 (gI h37 b43 (v4 : Int32).toNatClampNeg) h37) fun _ h48 =>
        f_Vo_fillLine_L30 F n a0 a1 v3 (v4 + 1) h48
    else
      some ((), h)
set_option maxRecDepth 100000 in
set_option maxHeartbeats 4000000 in
theorem f_Vo_fillLine_L30_s (F : Nat)   : ∀ (n : Nat) (a0 : Nat) (a1 : Nat) (v3 : Int32) (v4 : Int32) (h : ck_H) (r : Unit) (h' : ck_H), f_Vo_fillLine_L30 F n a0 a1 v3 v4 h = some (r, h') → Go k_Vo_fillLine 30 [some (.ref a0), some (.ref a1), none, some (.int v3), some (.int v4)] [] h (none, h') := by
  intro n
  induction n with
  | zero => intro a0 a1 v3 v4 h r h' e; simp only [f_Vo_fillLine_L30] at e; cases e
  | succ n ih =>
    intro a0 a1 v3 v4 h r h' e
    rw [f_Vo_fillLine_L30] at e
    refine go_iload rfl rfl ?_
    refine go_iload_n rfl rfl ?_
    refine go_icmp_ge (t := 111) rfl rfl (fun hx_1 => ?_) (fun hx_1 => ?_)
    · rw [if_pos hx_1] at e
      refine go_aload_n rfl rfl ?_
      refine go_iload rfl rfl ?_
      replace e := ck_as_e e
      obtain ⟨hk_2, e⟩ := e
      replace e := ck_bd_e e
      obtain ⟨r3, h4, e5, e⟩ := e
      refine go_callV (As := [.int v4]) (b0 := a1) (rest := []) rfl rfl ⟨hk_2, by decide⟩ rfl ⟨Nat.le_of_ble_eq_true rfl, Nat.le_of_ble_eq_true rfl, Nat.le_of_ble_eq_true rfl, Nat.le_of_ble_eq_true rfl⟩ (s_Mb_has e5) ?_
      show Go k_Vo_fillLine 42 [some (.ref a0), some (.ref a1), none, some (.int v3), some (.int v4)] [.int r3] h4 _
      refine go_if_eq (t := 111) rfl rfl (fun hx_6 => ?_) (fun hx_6 => ?_)
      · rw [if_pos hx_6] at e
        cases e
        exact go_ret rfl rfl
      · rw [if_neg hx_6] at e
        refine go_aload_n rfl rfl ?_
        replace e := ck_as_e e
        obtain ⟨hk_7, e⟩ := e
        replace e := ck_some_e e
        obtain ⟨b8, hq_9, e⟩ := e
        refine go_get (v := .ref b8) rfl rfl hk_7 (by decide) (by show va_rf (gR h4 a0 5) = _; rw [hq_9]; rfl) ?_
        refine go_aload_n rfl rfl ?_
        replace e := ck_as_e e
        obtain ⟨hk_10, e⟩ := e
        replace e := ck_some_e e
        obtain ⟨b11, hq_12, e⟩ := e
        refine go_get (v := .ref b11) rfl rfl hk_10 (by decide) (by show va_rf (gR h4 a1 0) = _; rw [hq_12]; rfl) ?_
        refine go_iload rfl rfl ?_
        refine go_bipush (v := 8) rfl (by decide) ?_
        refine go_imul rfl ?_
        refine go_bipush (v := 8) rfl (by decide) ?_
        replace e := ck_as_e e
        obtain ⟨hk_13, e⟩ := e
        replace e := ck_bd_e e
        obtain ⟨r14, h15, e16, e⟩ := e
        refine go_callV (As := [.ref b11, .int (v4 * 8), .int 8]) (b0 := b8) (rest := []) rfl rfl ⟨hk_13, by decide⟩ rfl ⟨Nat.le_of_ble_eq_true rfl, Nat.le_of_ble_eq_true rfl, Nat.le_of_ble_eq_true rfl, Nat.le_of_ble_eq_true rfl⟩ (s_Rw_addAll e16) ?_
        show Go k_Vo_fillLine 63 [some (.ref a0), some (.ref a1), none, some (.int v3), some (.int v4)] [] h15 _
        refine go_aload_n rfl rfl ?_
        replace e := ck_as_e e
        obtain ⟨hk_17, e⟩ := e
        replace e := ck_some_e e
        obtain ⟨b18, hq_19, e⟩ := e
        refine go_get (v := .ref b18) rfl rfl hk_17 (by decide) (by show va_rf (gR h15 a0 5) = _; rw [hq_19]; rfl) ?_
        refine go_aload_n rfl rfl ?_
        replace e := ck_as_e e
        obtain ⟨hk_20, e⟩ := e
        replace e := ck_some_e e
        obtain ⟨b21, hq_22, e⟩ := e
        refine go_get (v := .ref b21) rfl rfl hk_20 (by decide) (by show va_rf (gR h15 a1 1) = _; rw [hq_22]; rfl) ?_
        refine go_iload rfl rfl ?_
        replace e := ck_as_e e
        obtain ⟨hc_23, e⟩ := e
        refine go_iald rfl hc_23 ?_
        replace e := ck_as_e e
        obtain ⟨hk_24, e⟩ := e
        replace e := ck_bd_e e
        obtain ⟨r25, h26, e27, e⟩ := e
        refine go_callV (As := [.int (gI h15 b21 (v4 : Int32).toNatClampNeg)]) (b0 := b18) (rest := []) rfl rfl ⟨hk_24, by decide⟩ rfl ⟨Nat.le_of_ble_eq_true rfl, Nat.le_of_ble_eq_true rfl, Nat.le_of_ble_eq_true rfl, Nat.le_of_ble_eq_true rfl⟩ (s_Rw_addByte e27) ?_
        show Go k_Vo_fillLine 77 [some (.ref a0), some (.ref a1), none, some (.int v3), some (.int v4)] [] h26 _
        refine go_aload_n rfl rfl ?_
        replace e := ck_as_e e
        obtain ⟨hk_28, e⟩ := e
        replace e := ck_some_e e
        obtain ⟨b29, hq_30, e⟩ := e
        refine go_get (v := .ref b29) rfl rfl hk_28 (by decide) (by show va_rf (gR h26 a0 5) = _; rw [hq_30]; rfl) ?_
        refine go_aload_n rfl rfl ?_
        replace e := ck_as_e e
        obtain ⟨hk_31, e⟩ := e
        replace e := ck_some_e e
        obtain ⟨b32, hq_33, e⟩ := e
        refine go_get (v := .ref b32) rfl rfl hk_31 (by decide) (by show va_rf (gR h26 a1 2) = _; rw [hq_33]; rfl) ?_
        refine go_iload rfl rfl ?_
        replace e := ck_as_e e
        obtain ⟨hc_34, e⟩ := e
        refine go_iald rfl hc_34 ?_
        replace e := ck_as_e e
        obtain ⟨hk_35, e⟩ := e
        replace e := ck_bd_e e
        obtain ⟨r36, h37, e38, e⟩ := e
        refine go_callV (As := [.int (gI h26 b32 (v4 : Int32).toNatClampNeg)]) (b0 := b29) (rest := []) rfl rfl ⟨hk_35, by decide⟩ rfl ⟨Nat.le_of_ble_eq_true rfl, Nat.le_of_ble_eq_true rfl, Nat.le_of_ble_eq_true rfl, Nat.le_of_ble_eq_true rfl⟩ (s_Rw_addByte e38) ?_
        show Go k_Vo_fillLine 91 [some (.ref a0), some (.ref a1), none, some (.int v3), some (.int v4)] [] h37 _
        refine go_aload_n rfl rfl ?_
        replace e := ck_as_e e
        obtain ⟨hk_39, e⟩ := e
        replace e := ck_some_e e
        obtain ⟨b40, hq_41, e⟩ := e
        refine go_get (v := .ref b40) rfl rfl hk_39 (by decide) (by show va_rf (gR h37 a0 5) = _; rw [hq_41]; rfl) ?_
        refine go_aload_n rfl rfl ?_
        replace e := ck_as_e e
        obtain ⟨hk_42, e⟩ := e
        replace e := ck_some_e e
        obtain ⟨b43, hq_44, e⟩ := e
        refine go_get (v := .ref b43) rfl rfl hk_42 (by decide) (by show va_rf (gR h37 a1 3) = _; rw [hq_44]; rfl) ?_
        refine go_iload rfl rfl ?_
        replace e := ck_as_e e
        obtain ⟨hc_45, e⟩ := e
        refine go_iald rfl hc_45 ?_
        replace e := ck_as_e e
        obtain ⟨hk_46, e⟩ := e
        replace e := ck_bd_e e
        obtain ⟨r47, h48, e49, e⟩ := e
        refine go_callV (As := [.int (gI h37 b43 (v4 : Int32).toNatClampNeg)]) (b0 := b40) (rest := []) rfl rfl ⟨hk_46, by decide⟩ rfl ⟨Nat.le_of_ble_eq_true rfl, Nat.le_of_ble_eq_true rfl, Nat.le_of_ble_eq_true rfl, Nat.le_of_ble_eq_true rfl⟩ (s_Rw_addPair e49) ?_
        show Go k_Vo_fillLine 105 [some (.ref a0), some (.ref a1), none, some (.int v3), some (.int v4)] [] h48 _
        refine go_iinc (v := 1) rfl rfl (by decide) rfl ?_
        show Go k_Vo_fillLine 108 [some (.ref a0), some (.ref a1), none, some (.int v3), some (.int (v4 + 1))] [] h48 _
        refine go_goto (t := 30) rfl rfl ?_
        refine go_forget (l := [some (.ref a0), some (.ref a1), none, some (.int v3), some (.int (v4 + 1))]) ⟨Or.inl rfl, Or.inl rfl, Or.inl rfl, Or.inl rfl, Or.inl rfl, trivial⟩ ?_
        exact ih _ _ _ _ _ _ _ e
    · rw [if_neg hx_1] at e
      cases e
      exact go_ret rfl rfl
def f_Vo_fillLine (F : Nat) (a0 : Nat) (a1 : Nat) (v2 : Int32) (v3 : Int32) (h : ck_H) : Option (Unit × ck_H) :=
  ck_as (gk h a0 = 10) <|
  ck_some (gR h a0 5) fun b2 =>
  ck_as (gk h b2 = 6) <|
  ck_then (wI h b2 1 0) fun h5 =>
  ck_some (gR h5 a0 5) fun b8 =>
  ck_as (gk h5 a1 = 4) <|
  ck_some (gR h5 a1 0) fun b11 =>
  ck_as (gk h5 b8 = 6) <|
  ck_bd (f_Rw_addAll F b8 b11 ((v3 - 1) * 8) 8 h5) fun _ h15 =>
  f_Vo_fillLine_L30 F F a0 a1 v3 v2 h15
set_option maxRecDepth 100000 in
set_option maxHeartbeats 4000000 in
theorem s_Vo_fillLine {F : Nat} {a0 : Nat} {a1 : Nat} {v2 : Int32} {v3 : Int32} {h h' : ck_H} {r : Unit} (e : f_Vo_fillLine F a0 a1 v2 v3 h = some (r, h')) : Go k_Vo_fillLine 0 (ck_in [.ref a0, .ref a1, .int v2, .int v3] 5) [] h (none, h') := by
  unfold f_Vo_fillLine at e
  show Go k_Vo_fillLine 0 [some (.ref a0), some (.ref a1), some (.int v2), some (.int v3), none] [] h _
  refine go_aload_n rfl rfl ?_
  replace e := ck_as_e e
  obtain ⟨hk_1, e⟩ := e
  replace e := ck_some_e e
  obtain ⟨b2, hq_3, e⟩ := e
  refine go_get (v := .ref b2) rfl rfl hk_1 (by decide) (by show va_rf (gR h a0 5) = _; rw [hq_3]; rfl) ?_
  refine go_iconst (v := 0) rfl (by decide) ?_
  replace e := ck_as_e e
  obtain ⟨hk_4, e⟩ := e
  refine go_put (h1 := wI h b2 1 0) rfl rfl hk_4 ⟨by decide, by decide, Or.inl rfl⟩ rfl ?_
  have hk_6 : gk (wI h b2 1 0) a0 = 10 := ck_kI.trans hk_1
  have hk_7 : gk (wI h b2 1 0) b2 = 6 := ck_kI.trans hk_4
  generalize wI h b2 1 0 = h5 at e hk_6 hk_7 ⊢
  replace e := ck_then_e e
  refine go_aload_n rfl rfl ?_
  replace e := ck_some_e e
  obtain ⟨b8, hq_9, e⟩ := e
  refine go_get (v := .ref b8) rfl rfl hk_6 (by decide) (by show va_rf (gR h5 a0 5) = _; rw [hq_9]; rfl) ?_
  refine go_aload_n rfl rfl ?_
  replace e := ck_as_e e
  obtain ⟨hk_10, e⟩ := e
  replace e := ck_some_e e
  obtain ⟨b11, hq_12, e⟩ := e
  refine go_get (v := .ref b11) rfl rfl hk_10 (by decide) (by show va_rf (gR h5 a1 0) = _; rw [hq_12]; rfl) ?_
  refine go_iload_n rfl rfl ?_
  refine go_iconst (v := 1) rfl (by decide) ?_
  refine go_isub rfl ?_
  refine go_bipush (v := 8) rfl (by decide) ?_
  refine go_imul rfl ?_
  refine go_bipush (v := 8) rfl (by decide) ?_
  replace e := ck_as_e e
  obtain ⟨hk_13, e⟩ := e
  replace e := ck_bd_e e
  obtain ⟨r14, h15, e16, e⟩ := e
  refine go_callV (As := [.ref b11, .int ((v3 - 1) * 8), .int 8]) (b0 := b8) (rest := []) rfl rfl ⟨hk_13, by decide⟩ rfl ⟨Nat.le_of_ble_eq_true rfl, Nat.le_of_ble_eq_true rfl, Nat.le_of_ble_eq_true rfl, Nat.le_of_ble_eq_true rfl⟩ (s_Rw_addAll e16) ?_
  show Go k_Vo_fillLine 27 [some (.ref a0), some (.ref a1), some (.int v2), some (.int v3), none] [] h15 _
  refine go_iload_n rfl rfl ?_
  refine go_istore rfl rfl ?_
  show Go k_Vo_fillLine 30 [some (.ref a0), some (.ref a1), some (.int v2), some (.int v3), some (.int v2)] [] h15 _
  refine go_forget (l := [some (.ref a0), some (.ref a1), none, some (.int v3), some (.int v2)]) ⟨Or.inl rfl, Or.inl rfl, Or.inr ⟨rfl, fun _ q => by cases q; rfl⟩, Or.inl rfl, Or.inl rfl, trivial⟩ ?_
  exact f_Vo_fillLine_L30_s F F _ _ _ _ _ _ _ e
