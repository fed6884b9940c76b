def f_Vo_writeList_L25 (F : Nat)  : Nat → Nat → Nat → Nat → Int32 → Int32 → ck_H → Option (Unit × ck_H)
  | 0, _, _, _, _, _, _ => none
  | n + 1, a0, a1, a2, v3, v4, h =>
    ck_as (gk h a1 = 2) <|
    ck_some (gR h a1 4) fun b2 =>
    ck_as (gk h b2 = 4) <|
    if v4 < (gI h b2 4) then
      ck_some (gR h a1 4) fun b6 =>
      ck_some (gR h a1 4) fun b8 =>
      ck_as (gk h b8 = 4) <|
      ck_bd (f_Ma_min F (gI h b8 4) (v4 + 4) h) fun r11 h12 =>
      ck_as (gk h12 a0 = 10) <|
      ck_bd (f_Vo_fillLine F a0 b6 v4 r11 h12) fun _ h16 =>
      ck_as (gk h16 a2 = 8) <|
      ck_bd (f_Tr_records F a2 h16) fun r19 h20 =>
      ck_as (gk h20 a0 = 10) <|
      ck_some (gR h20 a0 5) fun b23 =>
      ck_as (gk h20 b23 = 6) <|
      ck_as (gk h20 a2 = 8) <|
      ck_bd (f_Tr_append F a2 (v3 / 4) (v3 - v3 / 4 * 4) (r19 + 1) 8 ((gI h20 b23 1) - 8) h20) fun r27 h28 =>
      ck_as (gk h28 a0 = 10) <|
      ck_some (gR h28 a0 5) fun b31 =>
      ck_as (gk h28 b31 = 6) <|
      ck_some (gR h28 b31 0) fun b34 =>
      ck_some (gR h28 a0 5) fun b36 =>
      ck_as (gk h28 b36 = 6) <|
      ck_as (gk h28 a2 = 8) <|
      ck_bd (f_Tr_store F a2 r27 0 b34 0 (gI h28 b36 1) h28) fun _ h41 =>
      f_Vo_writeList_L25 F n a0 a1 a2 v3 (v4 + 4) h41
    else
      some ((), h)
set_option maxRecDepth 100000 in
set_option maxHeartbeats 4000000 in
theorem f_Vo_writeList_L25_s (F : Nat)   : ∀ (n : Nat) (a0 : Nat) (a1 : Nat) (a2 : Nat) (v3 : Int32) (v4 : Int32) (h : ck_H) (r : Unit) (h' : ck_H), f_Vo_writeList_L25 F n a0 a1 a2 v3 v4 h = some (r, h') → Go k_Vo_writeList 25 [some (.ref a0), some (.ref a1), some (.ref a2), some (.int v3), some (.int v4), none] [] h (none, h') := by
  intro n
  induction n with
  | zero => intro a0 a1 a2 v3 v4 h r h' e; simp only [f_Vo_writeList_L25] at e; cases e
  | succ n ih =>
    intro a0 a1 a2 v3 v4 h r h' e
    rw [f_Vo_writeList_L25] at e
    refine go_iload rfl rfl ?_
    refine go_aload_n rfl rfl ?_
    replace e := ck_as_e e
    obtain ⟨hk_1, e⟩ := e
    replace e := ck_some_e e
    obtain ⟨b2, hq_3, e⟩ := e
    refine go_get (v := .ref b2) rfl rfl hk_1 (by decide) (by show va_rf (gR h a1 4) = _; rw [hq_3]; rfl) ?_
    replace e := ck_as_e e
    obtain ⟨hk_4, e⟩ := e
    refine go_get (v := .int (gI h b2 4)) rfl rfl hk_4 (by decide) rfl ?_
    refine go_icmp_ge (t := 119) rfl rfl (fun hx_5 => ?_) (fun hx_5 => ?_)
    · rw [if_pos hx_5] at e
      refine go_aload_n rfl rfl ?_
      refine go_aload_n rfl rfl ?_
      replace e := ck_some_e e
      obtain ⟨b6, hq_7, e⟩ := e
      refine go_get (v := .ref b6) rfl rfl hk_1 (by decide) (by show va_rf (gR h a1 4) = _; rw [hq_7]; rfl) ?_
      refine go_iload rfl rfl ?_
      refine go_aload_n rfl rfl ?_
      replace e := ck_some_e e
      obtain ⟨b8, hq_9, e⟩ := e
      refine go_get (v := .ref b8) rfl rfl hk_1 (by decide) (by show va_rf (gR h a1 4) = _; rw [hq_9]; rfl) ?_
      replace e := ck_as_e e
      obtain ⟨hk_10, e⟩ := e
      refine go_get (v := .int (gI h b8 4)) rfl rfl hk_10 (by decide) rfl ?_
      refine go_iload rfl rfl ?_
      refine go_iconst (v := 4) rfl (by decide) ?_
      refine go_iadd rfl ?_
      replace e := ck_bd_e e
      obtain ⟨r11, h12, e13, e⟩ := e
      refine go_callS (As := [.int (gI h b8 4), .int (v4 + 4)]) (rest := [.int v4, .ref b6, .ref a0]) rfl rfl rfl ⟨Nat.le_of_ble_eq_true rfl, Nat.le_of_ble_eq_true rfl, Nat.le_of_ble_eq_true rfl, Nat.le_of_ble_eq_true rfl⟩ (s_Ma_min e13) ?_
      show Go k_Vo_writeList 58 [some (.ref a0), some (.ref a1), some (.ref a2), some (.int v3), some (.int v4), none] [.int r11, .int v4, .ref b6, .ref a0] h12 _
      replace e := ck_as_e e
      obtain ⟨hk_14, e⟩ := e
      replace e := ck_bd_e e
      obtain ⟨r15, h16, e17, e⟩ := e
      refine go_callV (As := [.ref b6, .int v4, .int r11]) (b0 := a0) (rest := []) rfl rfl ⟨hk_14, by decide⟩ rfl ⟨Nat.le_of_ble_eq_true rfl, Nat.le_of_ble_eq_true rfl, Nat.le_of_ble_eq_true rfl, Nat.le_of_ble_eq_true rfl⟩ (s_Vo_fillLine e17) ?_
      show Go k_Vo_writeList 61 [some (.ref a0), some (.ref a1), some (.ref a2), some (.int v3), some (.int v4), none] [] h16 _
      refine go_aload_n rfl rfl ?_
      refine go_iload_n rfl rfl ?_
      refine go_iconst (v := 4) rfl (by decide) ?_
      refine go_idiv rfl (by decide) ?_
      refine go_iload_n rfl rfl ?_
      refine go_iconst (v := 4) rfl (by decide) ?_
      refine go_irem rfl (by decide) ?_
      refine go_aload_n rfl rfl ?_
      replace e := ck_as_e e
      obtain ⟨hk_18, e⟩ := e
      replace e := ck_bd_e e
      obtain ⟨r19, h20, e21, e⟩ := e
      refine go_callV (As := []) (b0 := a2) (rest := [.int (v3 - v3 / 4 * 4), .int (v3 / 4), .ref a2]) rfl rfl ⟨hk_18, by decide⟩ rfl ⟨Nat.le_of_ble_eq_true rfl, Nat.le_of_ble_eq_true rfl, Nat.le_of_ble_eq_true rfl, Nat.le_of_ble_eq_true rfl⟩ (s_Tr_records e21) ?_
      show Go k_Vo_writeList 72 [some (.ref a0), some (.ref a1), some (.ref a2), some (.int v3), some (.int v4), none] [.int r19, .int (v3 - v3 / 4 * 4), .int (v3 / 4), .ref a2] h20 _
      refine go_iconst (v := 1) rfl (by decide) ?_
      refine go_iadd rfl ?_
      refine go_bipush (v := 8) rfl (by decide) ?_
      refine go_aload_n rfl rfl ?_
      replace e := ck_as_e e
      obtain ⟨hk_22, e⟩ := e
      replace e := ck_some_e e
      obtain ⟨b23, hq_24, e⟩ := e
      refine go_get (v := .ref b23) rfl rfl hk_22 (by decide) (by show va_rf (gR h20 a0 5) = _; rw [hq_24]; rfl) ?_
      replace e := ck_as_e e
      obtain ⟨hk_25, e⟩ := e
      refine go_get (v := .int (gI h20 b23 1)) rfl rfl hk_25 (by decide) rfl ?_
      refine go_bipush (v := 8) rfl (by decide) ?_
      refine go_isub rfl ?_
      replace e := ck_as_e e
      obtain ⟨hk_26, e⟩ := e
      replace e := ck_bd_e e
      obtain ⟨r27, h28, e29, e⟩ := e
      refine go_callV (As := [.int (v3 / 4), .int (v3 - v3 / 4 * 4), .int (r19 + 1), .int 8, .int ((gI h20 b23 1) - 8)]) (b0 := a2) (rest := []) rfl rfl ⟨hk_26, by decide⟩ rfl ⟨Nat.le_of_ble_eq_true rfl, Nat.le_of_ble_eq_true rfl, Nat.le_of_ble_eq_true rfl, Nat.le_of_ble_eq_true rfl⟩ (s_Tr_append e29) ?_
      show Go k_Vo_writeList 89 [some (.ref a0), some (.ref a1), some (.ref a2), some (.int v3), some (.int v4), none] [.int r27] h28 _
      refine go_istore rfl rfl ?_
      show Go k_Vo_writeList 91 [some (.ref a0), some (.ref a1), some (.ref a2), some (.int v3), some (.int v4), some (.int r27)] [] h28 _
      refine go_aload_n rfl rfl ?_
      refine go_iload rfl rfl ?_
      refine go_iconst (v := 0) rfl (by decide) ?_
      refine go_aload_n rfl rfl ?_
      replace e := ck_as_e e
      obtain ⟨hk_30, e⟩ := e
      replace e := ck_some_e e
      obtain ⟨b31, hq_32, e⟩ := e
      refine go_get (v := .ref b31) rfl rfl hk_30 (by decide) (by show va_rf (gR h28 a0 5) = _; rw [hq_32]; rfl) ?_
      replace e := ck_as_e e
      obtain ⟨hk_33, e⟩ := e
      replace e := ck_some_e e
      obtain ⟨b34, hq_35, e⟩ := e
      refine go_get (v := .ref b34) rfl rfl hk_33 (by decide) (by show va_rf (gR h28 b31 0) = _; rw [hq_35]; rfl) ?_
      refine go_iconst (v := 0) rfl (by decide) ?_
      refine go_aload_n rfl rfl ?_
      replace e := ck_some_e e
      obtain ⟨b36, hq_37, e⟩ := e
      refine go_get (v := .ref b36) rfl rfl hk_30 (by decide) (by show va_rf (gR h28 a0 5) = _; rw [hq_37]; rfl) ?_
      replace e := ck_as_e e
      obtain ⟨hk_38, e⟩ := e
      refine go_get (v := .int (gI h28 b36 1)) rfl rfl hk_38 (by decide) rfl ?_
      replace e := ck_as_e e
      obtain ⟨hk_39, e⟩ := e
      replace e := ck_bd_e e
      obtain ⟨r40, h41, e42, e⟩ := e
      refine go_callV (As := [.int r27, .int 0, .ref b34, .int 0, .int (gI h28 b36 1)]) (b0 := a2) (rest := []) rfl rfl ⟨hk_39, by decide⟩ rfl ⟨Nat.le_of_ble_eq_true rfl, Nat.le_of_ble_eq_true rfl, Nat.le_of_ble_eq_true rfl, Nat.le_of_ble_eq_true rfl⟩ (s_Tr_store e42) ?_
      show Go k_Vo_writeList 113 [some (.ref a0), some (.ref a1), some (.ref a2), some (.int v3), some (.int v4), some (.int r27)] [] h41 _
      refine go_iinc (v := 4) rfl rfl (by decide) rfl ?_
      show Go k_Vo_writeList 116 [some (.ref a0), some (.ref a1), some (.ref a2), some (.int v3), some (.int (v4 + 4)), some (.int r27)] [] h41 _
      refine go_goto (t := 25) rfl rfl ?_
      refine go_forget (l := [some (.ref a0), some (.ref a1), some (.ref a2), some (.int v3), some (.int (v4 + 4)), none]) ⟨Or.inl rfl, Or.inl rfl, Or.inl rfl, Or.inl rfl, Or.inl rfl, Or.inr ⟨rfl, fun _ q => by cases q; rfl⟩, trivial⟩ ?_
      exact ih _ _ _ _ _ _ _ _ e
    · rw [if_neg hx_5] at e
      cases e
      exact go_ret rfl rfl
def f_Vo_writeList (F : Nat) (a0 : Nat) (a1 : Nat) (h : ck_H) : Option (Unit × ck_H) :=
  ck_as (gk h a1 = 2) <|
  ck_bd (f_DS_trackAt F a1 0 h) fun r2 h3 =>
  ck_opt r2 (
    some ((), h3)
  ) fun b6 =>
  ck_as (gk h3 a1 = 2) <|
  ck_bd (f_DS_numberOf F a1 0 h3) fun r8 h9 =>
  ck_as (gk h9 b6 = 8) <|
  ck_bd (f_Tr_keepFirst F b6 0 h9) fun _ h13 =>
  f_Vo_writeList_L25 F F a0 a1 b6 r8 0 h13
set_option maxRecDepth 100000 in
set_option maxHeartbeats 4000000 in
theorem s_Vo_writeList {F : Nat} {a0 : Nat} {a1 : Nat} {h h' : ck_H} {r : Unit} (e : f_Vo_writeList F a0 a1 h = some (r, h')) : Go k_Vo_writeList 0 (ck_in [.ref a0, .ref a1] 6) [] h (none, h') := by
  unfold f_Vo_writeList at e
  show Go k_Vo_writeList 0 [some (.ref a0), some (.ref a1), none, none, none, none] [] h _
  refine go_aload_n rfl rfl ?_
  refine go_iconst (v := 0) rfl (by decide) ?_
  replace e := ck_as_e e
  obtain ⟨hk_1, e⟩ := e
  replace e := ck_bd_e e
  obtain ⟨r2, h3, e4, e⟩ := e
  refine go_callV (As := [.int 0]) (b0 := a1) (rest := []) rfl rfl ⟨hk_1, by decide⟩ rfl ⟨Nat.le_of_ble_eq_true rfl, Nat.le_of_ble_eq_true rfl, Nat.le_of_ble_eq_true rfl, Nat.le_of_ble_eq_true rfl⟩ (s_DS_trackAt e4) ?_
  replace e := ck_opt_e e
  rcases e with ⟨hq_5, e⟩ | ⟨b6, hq_5, e⟩
  · subst hq_5
    show Go k_Vo_writeList 5 [some (.ref a0), some (.ref a1), none, none, none, none] [.null] h3 _
    refine go_astore_nN rfl rfl ?_
    show Go k_Vo_writeList 6 [some (.ref a0), some (.ref a1), some .null, none, none, none] [] h3 _
    refine go_aload_nN rfl rfl ?_
    refine go_ifnonnullN rfl ?_
    cases e
    exact go_ret rfl rfl
  subst hq_5
  show Go k_Vo_writeList 5 [some (.ref a0), some (.ref a1), none, none, none, none] [.ref b6] h3 _
  refine go_astore_n rfl rfl ?_
  show Go k_Vo_writeList 6 [some (.ref a0), some (.ref a1), some (.ref b6), none, none, none] [] h3 _
  refine go_aload_n rfl rfl ?_
  refine go_ifnonnull (t := 11) rfl rfl ?_
  refine go_aload_n rfl rfl ?_
  refine go_iconst (v := 0) rfl (by decide) ?_
  replace e := ck_as_e e
  obtain ⟨hk_7, e⟩ := e
  replace e := ck_bd_e e
  obtain ⟨r8, h9, e10, e⟩ := e
  refine go_callV (As := [.int 0]) (b0 := a1) (rest := []) rfl rfl ⟨hk_7, by decide⟩ rfl ⟨Nat.le_of_ble_eq_true rfl, Nat.le_of_ble_eq_true rfl, Nat.le_of_ble_eq_true rfl, Nat.le_of_ble_eq_true rfl⟩ (s_DS_numberOf e10) ?_
  show Go k_Vo_writeList 16 [some (.ref a0), some (.ref a1), some (.ref b6), none, none, none] [.int r8] h9 _
  refine go_istore_n rfl rfl ?_
  show Go k_Vo_writeList 17 [some (.ref a0), some (.ref a1), some (.ref b6), some (.int r8), none, none] [] h9 _
  refine go_aload_n rfl rfl ?_
  refine go_iconst (v := 0) rfl (by decide) ?_
  replace e := ck_as_e e
  obtain ⟨hk_11, e⟩ := e
  replace e := ck_bd_e e
  obtain ⟨r12, h13, e14, e⟩ := e
  refine go_callV (As := [.int 0]) (b0 := b6) (rest := []) rfl rfl ⟨hk_11, by decide⟩ rfl ⟨Nat.le_of_ble_eq_true rfl, Nat.le_of_ble_eq_true rfl, Nat.le_of_ble_eq_true rfl, Nat.le_of_ble_eq_true rfl⟩ (s_Tr_keepFirst e14) ?_
  show Go k_Vo_writeList 22 [some (.ref a0), some (.ref a1), some (.ref b6), some (.int r8), none, none] [] h13 _
  refine go_iconst (v := 0) rfl (by decide) ?_
  refine go_istore rfl rfl ?_
  show Go k_Vo_writeList 25 [some (.ref a0), some (.ref a1), some (.ref b6), some (.int r8), some (.int 0), none] [] h13 _
  refine go_forget (l := [some (.ref a0), some (.ref a1), some (.ref b6), some (.int r8), some (.int 0), none]) ⟨Or.inl rfl, Or.inl rfl, Or.inl rfl, Or.inl rfl, Or.inl rfl, Or.inl rfl, trivial⟩ ?_
  exact f_Vo_writeList_L25_s F F _ _ _ _ _ _ _ _ e
def f_CS_stow (F : Nat) (a0 : Nat) (v1 : Int32) (h : ck_H) : Option (Int32 × ck_H) :=
  ck_as (gk h a0 = 11) <|
  ck_bd (f_CS_takeName F a0 h) fun _ h3 =>
  ck_as (gk h3 a0 = 11) <|
  ck_bd (f_CS_openingAt F a0 v1 h3) fun r6 h7 =>
  ck_opt r6 (
    some ((-3), h7)
  ) fun b10 =>
  ck_as (gk h7 a0 = 11) <|
  ck_some (gR h7 a0 3) fun b12 =>
  ck_as (gk h7 b10 = 5) <|
  ck_bd (f_Op_stowMember F b10 b12 h7) fun r15 h16 =>
  if r15 < (0 : Int32) then
    some (r15, h16)
  else
    ck_as (gk h16 b10 = 5) <|
    ck_opt (gR h16 b10 4) (
      some (r15, h16)
    ) fun b21 =>
    ck_as (gk h16 a0 = 11) <|
    ck_some (gR h16 a0 6) fun b23 =>
    ck_some (gR h16 b10 4) fun b25 =>
    ck_as (gk h16 b23 = 10) <|
    ck_bd (f_Vo_writeList F b23 b25 h16) fun _ h29 =>
    some (r15, h29)
set_option maxRecDepth 100000 in
set_option maxHeartbeats 4000000 in
theorem s_CS_stow {F : Nat} {a0 : Nat} {v1 : Int32} {h h' : ck_H} {r : Int32} (e : f_CS_stow F a0 v1 h = some (r, h')) : Go k_CS_stow 0 (ck_in [.ref a0, .int v1] 4) [] h (some (.int r), h') := by
  unfold f_CS_stow at e
  show Go k_CS_stow 0 [some (.ref a0), some (.int v1), none, none] [] h _
  refine go_aload_n rfl rfl ?_
  replace e := ck_as_e e
  obtain ⟨hk_1, e⟩ := e
  replace e := ck_bd_e e
  obtain ⟨r2, h3, e4, e⟩ := e
  refine go_callV (As := []) (b0 := a0) (rest := []) rfl rfl ⟨hk_1, by decide⟩ rfl ⟨Nat.le_of_ble_eq_true rfl, Nat.le_of_ble_eq_true rfl, Nat.le_of_ble_eq_true rfl, Nat.le_of_ble_eq_true rfl⟩ (s_CS_takeName e4) ?_
  show Go k_CS_stow 4 [some (.ref a0), some (.int v1), none, none] [] h3 _
  refine go_aload_n rfl rfl ?_
  refine go_iload_n rfl rfl ?_
  replace e := ck_as_e e
  obtain ⟨hk_5, e⟩ := e
  replace e := ck_bd_e e
  obtain ⟨r6, h7, e8, e⟩ := e
  refine go_callV (As := [.int v1]) (b0 := a0) (rest := []) rfl rfl ⟨hk_5, by decide⟩ rfl ⟨Nat.le_of_ble_eq_true rfl, Nat.le_of_ble_eq_true rfl, Nat.le_of_ble_eq_true rfl, Nat.le_of_ble_eq_true rfl⟩ (s_CS_openingAt e8) ?_
  replace e := ck_opt_e e
  rcases e with ⟨hq_9, e⟩ | ⟨b10, hq_9, e⟩
  · subst hq_9
    show Go k_CS_stow 9 [some (.ref a0), some (.int v1), none, none] [.null] h7 _
    refine go_astore_nN rfl rfl ?_
    show Go k_CS_stow 10 [some (.ref a0), some (.int v1), some .null, none] [] h7 _
    refine go_aload_nN rfl rfl ?_
    refine go_ifnonnullN rfl ?_
    refine go_bipush (v := (-3)) rfl (by decide) ?_
    cases e
    exact go_ret rfl rfl
  subst hq_9
  show Go k_CS_stow 9 [some (.ref a0), some (.int v1), none, none] [.ref b10] h7 _
  refine go_astore_n rfl rfl ?_
  show Go k_CS_stow 10 [some (.ref a0), some (.int v1), some (.ref b10), none] [] h7 _
  refine go_aload_n rfl rfl ?_
  refine go_ifnonnull (t := 17) rfl rfl ?_
  refine go_aload_n rfl rfl ?_
  refine go_aload_n rfl rfl ?_
  replace e := ck_as_e e
  obtain ⟨hk_11, e⟩ := e
  replace e := ck_some_e e
  obtain ⟨b12, hq_13, e⟩ := e
  refine go_get (v := .ref b12) rfl rfl hk_11 (by decide) (by show va_rf (gR h7 a0 3) = _; rw [hq_13]; rfl) ?_
  replace e := ck_as_e e
  obtain ⟨hk_14, e⟩ := e
  replace e := ck_bd_e e
  obtain ⟨r15, h16, e17, e⟩ := e
  refine go_callV (As := [.ref b12]) (b0 := b10) (rest := []) rfl rfl ⟨hk_14, by decide⟩ rfl ⟨Nat.le_of_ble_eq_true rfl, Nat.le_of_ble_eq_true rfl, Nat.le_of_ble_eq_true rfl, Nat.le_of_ble_eq_true rfl⟩ (s_Op_stowMember e17) ?_
  show Go k_CS_stow 25 [some (.ref a0), some (.int v1), some (.ref b10), none] [.int r15] h16 _
  refine go_istore_n rfl rfl ?_
  show Go k_CS_stow 26 [some (.ref a0), some (.int v1), some (.ref b10), some (.int r15)] [] h16 _
  refine go_iload_n rfl rfl ?_
  refine go_if_lt (t := 48) rfl rfl (fun hx_18 => ?_) (fun hx_18 => ?_)
  · rw [if_pos hx_18] at e
    refine go_iload_n rfl rfl ?_
    cases e
    exact go_ret rfl rfl
  · rw [if_neg hx_18] at e
    refine go_aload_n rfl rfl ?_
    replace e := ck_as_e e
    obtain ⟨hk_19, e⟩ := e
    replace e := ck_opt_e e
    rcases e with ⟨hq_20, e⟩ | ⟨b21, hq_20, e⟩
    · refine go_get (v := .null) rfl rfl hk_19 (by decide) (by show va_rf (gR h16 b10 4) = _; rw [hq_20]; rfl) ?_
      refine go_ifnullN (t := 48) rfl rfl ?_
      refine go_iload_n rfl rfl ?_
      cases e
      exact go_ret rfl rfl
    refine go_get (v := .ref b21) rfl rfl hk_19 (by decide) (by show va_rf (gR h16 b10 4) = _; rw [hq_20]; rfl) ?_
    refine go_ifnull rfl ?_
    refine go_aload_n rfl rfl ?_
    replace e := ck_as_e e
    obtain ⟨hk_22, e⟩ := e
    replace e := ck_some_e e
    obtain ⟨b23, hq_24, e⟩ := e
    refine go_get (v := .ref b23) rfl rfl hk_22 (by decide) (by show va_rf (gR h16 a0 6) = _; rw [hq_24]; rfl) ?_
    refine go_aload_n rfl rfl ?_
    replace e := ck_some_e e
    obtain ⟨b25, hq_26, e⟩ := e
    refine go_get (v := .ref b25) rfl rfl hk_19 (by decide) (by show va_rf (gR h16 b10 4) = _; rw [hq_26]; rfl) ?_
    replace e := ck_as_e e
    obtain ⟨hk_27, e⟩ := e
    replace e := ck_bd_e e
    obtain ⟨r28, h29, e30, e⟩ := e
    refine go_callV (As := [.ref b25]) (b0 := b23) (rest := []) rfl rfl ⟨hk_27, by decide⟩ rfl ⟨Nat.le_of_ble_eq_true rfl, Nat.le_of_ble_eq_true rfl, Nat.le_of_ble_eq_true rfl, Nat.le_of_ble_eq_true rfl⟩ (s_Vo_writeList e30) ?_
    show Go k_CS_stow 48 [some (.ref a0), some (.int v1), some (.ref b10), some (.int r15)] [] h29 _
    refine go_iload_n rfl rfl ?_
    cases e
    exact go_ret rfl rfl
def f_CS_libraryAt (F : Nat) (a0 : Nat) (v1 : Int32) (h : ck_H) : Option (Option Nat × ck_H) :=
  ck_as (gk h a0 = 11) <|
  ck_some (gR h a0 6) fun b2 =>
  ck_as (gk h b2 = 10) <|
  ck_bd (f_Vo_setAt F b2 v1 h) fun r5 h6 =>
  ck_opt r5 (
    some (none, h6)
  ) fun b9 =>
  ck_as (gk h6 b9 = 2) <|
  if (gI h6 b9 6) = (4 : Int32) then
    some (some b9, h6)
  else
    some (none, h6)
set_option maxRecDepth 100000 in
set_option maxHeartbeats 4000000 in
theorem s_CS_libraryAt {F : Nat} {a0 : Nat} {v1 : Int32} {h h' : ck_H} {r : Option Nat} (e : f_CS_libraryAt F a0 v1 h = some (r, h')) : Go k_CS_libraryAt 0 (ck_in [.ref a0, .int v1] 3) [] h (some (va_rf r), h') := by
  unfold f_CS_libraryAt at e
  show Go k_CS_libraryAt 0 [some (.ref a0), some (.int v1), none] [] h _
  refine go_aload_n rfl rfl ?_
  replace e := ck_as_e e
  obtain ⟨hk_1, e⟩ := e
  replace e := ck_some_e e
  obtain ⟨b2, hq_3, e⟩ := e
  refine go_get (v := .ref b2) rfl rfl hk_1 (by decide) (by show va_rf (gR h a0 6) = _; rw [hq_3]; rfl) ?_
  refine go_iload_n rfl rfl ?_
  replace e := ck_as_e e
  obtain ⟨hk_4, e⟩ := e
  replace e := ck_bd_e e
  obtain ⟨r5, h6, e7, e⟩ := e
  refine go_callV (As := [.int v1]) (b0 := b2) (rest := []) rfl rfl ⟨hk_4, by decide⟩ rfl ⟨Nat.le_of_ble_eq_true rfl, Nat.le_of_ble_eq_true rfl, Nat.le_of_ble_eq_true rfl, Nat.le_of_ble_eq_true rfl⟩ (s_Vo_setAt e7) ?_
  replace e := ck_opt_e e
  rcases e with ⟨hq_8, e⟩ | ⟨b9, hq_8, e⟩
  · subst hq_8
    show Go k_CS_libraryAt 8 [some (.ref a0), some (.int v1), none] [.null] h6 _
    refine go_astore_nN rfl rfl ?_
    show Go k_CS_libraryAt 9 [some (.ref a0), some (.int v1), some .null] [] h6 _
    refine go_aload_nN rfl rfl ?_
    refine go_ifnullN (t := 21) rfl rfl ?_
    refine go_null rfl ?_
    refine go_goto (t := 26) rfl rfl ?_
    cases e
    exact go_ret rfl rfl
  subst hq_8
  show Go k_CS_libraryAt 8 [some (.ref a0), some (.int v1), none] [.ref b9] h6 _
  refine go_astore_n rfl rfl ?_
  show Go k_CS_libraryAt 9 [some (.ref a0), some (.int v1), some (.ref b9)] [] h6 _
  refine go_aload_n rfl rfl ?_
  refine go_ifnull rfl ?_
  refine go_aload_n rfl rfl ?_
  replace e := ck_as_e e
  obtain ⟨hk_10, e⟩ := e
  refine go_get (v := .int (gI h6 b9 6)) rfl rfl hk_10 (by decide) rfl ?_
  refine go_iconst (v := 4) rfl (by decide) ?_
  refine go_icmp_eq (t := 25) rfl rfl (fun hx_11 => ?_) (fun hx_11 => ?_)
  · rw [if_pos hx_11] at e
    refine go_aload_n rfl rfl ?_
    cases e
    exact go_ret rfl rfl
  · rw [if_neg hx_11] at e
    refine go_null rfl ?_
    refine go_goto (t := 26) rfl rfl ?_
    cases e
    exact go_ret rfl rfl
def f_CS_memberAt (F : Nat) (a0 : Nat) (v1 : Int32) (v2 : Int32) (h : ck_H) : Option (Int32 × ck_H) :=
  ck_as (gk h a0 = 11) <|
  ck_bd (f_CS_libraryAt F a0 v1 h) fun r2 h3 =>
  ck_opt r2 (
    some ((-1), h3)
  ) fun b6 =>
  ck_as (gk h3 b6 = 2) <|
  ck_some (gR h3 b6 4) fun b8 =>
  ck_as (gk h3 b8 = 4) <|
  ck_bd (f_Mb_has F b8 v2 h3) fun r11 h12 =>
  if r11 = (0 : Int32) then
    some ((-1), h12)
  else
    ck_as (gk h12 a0 = 11) <|
    ck_some (gR h12 a0 1) fun b16 =>
    ck_as (gk h12 b16 = 6) <|
    ck_then (wI h12 b16 1 0) fun h19 =>
    ck_some (gR h19 a0 1) fun b22 =>
    ck_as (gk h19 b6 = 2) <|
    ck_some (gR h19 b6 4) fun b25 =>
    ck_as (gk h19 b25 = 4) <|
    ck_some (gR h19 b25 0) fun b28 =>
    ck_as (gk h19 b22 = 6) <|
    ck_bd (f_Rw_addAll F b22 b28 (v2 * 8) 8 h19) fun _ h32 =>
    some (8, h32)
set_option maxRecDepth 100000 in
set_option maxHeartbeats 4000000 in
theorem s_CS_memberAt {F : Nat} {a0 : Nat} {v1 : Int32} {v2 : Int32} {h h' : ck_H} {r : Int32} (e : f_CS_memberAt F a0 v1 v2 h = some (r, h')) : Go k_CS_memberAt 0 (ck_in [.ref a0, .int v1, .int v2] 4) [] h (some (.int r), h') := by
  unfold f_CS_memberAt at e
  show Go k_CS_memberAt 0 [some (.ref a0), some (.int v1), some (.int v2), none] [] h _
  refine go_aload_n rfl rfl ?_
  refine go_iload_n rfl rfl ?_
  replace e := ck_as_e e
  obtain ⟨hk_1, e⟩ := e
  replace e := ck_bd_e e
  obtain ⟨r2, h3, e4, e⟩ := e
  refine go_callV (As := [.int v1]) (b0 := a0) (rest := []) rfl rfl ⟨hk_1, by decide⟩ rfl ⟨Nat.le_of_ble_eq_true rfl, Nat.le_of_ble_eq_true rfl, Nat.le_of_ble_eq_true rfl, Nat.le_of_ble_eq_true rfl⟩ (s_CS_libraryAt e4) ?_
  replace e := ck_opt_e e
  rcases e with ⟨hq_5, e⟩ | ⟨b6, hq_5, e⟩
  · subst hq_5
    show Go k_CS_memberAt 5 [some (.ref a0), some (.int v1), some (.int v2), none] [.null] h3 _
    refine go_astore_nN rfl rfl ?_
    show Go k_CS_memberAt 6 [some (.ref a0), some (.int v1), some (.int v2), some .null] [] h3 _
    refine go_aload_nN rfl rfl ?_
    refine go_ifnullN (t := 21) rfl rfl ?_
    refine go_iconst (v := (-1)) rfl (by decide) ?_
    cases e
    exact go_ret rfl rfl
  subst hq_5
  show Go k_CS_memberAt 5 [some (.ref a0), some (.int v1), some (.int v2), none] [.ref b6] h3 _
  refine go_astore_n rfl rfl ?_
  show Go k_CS_memberAt 6 [some (.ref a0), some (.int v1), some (.int v2), some (.ref b6)] [] h3 _
  refine go_aload_n rfl rfl ?_
  refine go_ifnull rfl ?_
  refine go_aload_n rfl rfl ?_
  replace e := ck_as_e e
  obtain ⟨hk_7, e⟩ := e
  replace e := ck_some_e e
  obtain ⟨b8, hq_9, e⟩ := e
  refine go_get (v := .ref b8) rfl rfl hk_7 (by decide) (by show va_rf (gR h3 b6 4) = _; rw [hq_9]; rfl) ?_
  refine go_iload_n rfl rfl ?_
  replace e := ck_as_e e
  obtain ⟨hk_10, e⟩ := e
  replace e := ck_bd_e e
  obtain ⟨r11, h12, e13, e⟩ := e
  refine go_callV (As := [.int v2]) (b0 := b8) (rest := []) rfl rfl ⟨hk_10, by decide⟩ rfl ⟨Nat.le_of_ble_eq_true rfl, Nat.le_of_ble_eq_true rfl, Nat.le_of_ble_eq_true rfl, Nat.le_of_ble_eq_true rfl⟩ (s_Mb_has e13) ?_
  show Go k_CS_memberAt 18 [some (.ref a0), some (.int v1), some (.int v2), some (.ref b6)] [.int r11] h12 _
  refine go_if_ne (t := 23) rfl rfl (fun hx_14 => ?_) (fun hx_14 => ?_)
  · rw [if_pos hx_14] at e
    refine go_iconst (v := (-1)) rfl (by decide) ?_
    cases e
    exact go_ret rfl rfl
  · rw [if_neg hx_14] at e
    refine go_aload_n rfl rfl ?_
    replace e := ck_as_e e
    obtain ⟨hk_15, e⟩ := e
    replace e := ck_some_e e
    obtain ⟨b16, hq_17, e⟩ := e
    refine go_get (v := .ref b16) rfl rfl hk_15 (by decide) (by show va_rf (gR h12 a0 1) = _; rw [hq_17]; rfl) ?_
    refine go_iconst (v := 0) rfl (by decide) ?_
    replace e := ck_as_e e
    obtain ⟨hk_18, e⟩ := e
    refine go_put (h1 := wI h12 b16 1 0) rfl rfl hk_18 ⟨by decide, by decide, Or.inl rfl⟩ rfl ?_
    have hk_20 : gk (wI h12 b16 1 0) a0 = 11 := ck_kI.trans hk_15
    have hk_21 : gk (wI h12 b16 1 0) b16 = 6 := ck_kI.trans hk_18
    generalize wI h12 b16 1 0 = h19 at e hk_20 hk_21 ⊢
    replace e := ck_then_e e
    refine go_aload_n rfl rfl ?_
    replace e := ck_some_e e
    obtain ⟨b22, hq_23, e⟩ := e
    refine go_get (v := .ref b22) rfl rfl hk_20 (by decide) (by show va_rf (gR h19 a0 1) = _; rw [hq_23]; rfl) ?_
    refine go_aload_n rfl rfl ?_
    replace e := ck_as_e e
    obtain ⟨hk_24, e⟩ := e
    replace e := ck_some_e e
    obtain ⟨b25, hq_26, e⟩ := e
    refine go_get (v := .ref b25) rfl rfl hk_24 (by decide) (by show va_rf (gR h19 b6 4) = _; rw [hq_26]; rfl) ?_
    replace e := ck_as_e e
    obtain ⟨hk_27, e⟩ := e
    replace e := ck_some_e e
    obtain ⟨b28, hq_29, e⟩ := e
    refine go_get (v := .ref b28) rfl rfl hk_27 (by decide) (by show va_rf (gR h19 b25 0) = _; rw [hq_29]; rfl) ?_
    refine go_iload_n rfl rfl ?_
    refine go_bipush (v := 8) rfl (by decide) ?_
    refine go_imul rfl ?_
    refine go_bipush (v := 8) rfl (by decide) ?_
    replace e := ck_as_e e
    obtain ⟨hk_30, e⟩ := e
    replace e := ck_bd_e e
    obtain ⟨r31, h32, e33, e⟩ := e
    refine go_callV (As := [.ref b28, .int (v2 * 8), .int 8]) (b0 := b22) (rest := []) rfl rfl ⟨hk_30, by decide⟩ rfl ⟨Nat.le_of_ble_eq_true rfl, Nat.le_of_ble_eq_true rfl, Nat.le_of_ble_eq_true rfl, Nat.le_of_ble_eq_true rfl⟩ (s_Rw_addAll e33) ?_
    show Go k_CS_memberAt 51 [some (.ref a0), some (.int v1), some (.int v2), some (.ref b6)] [] h32 _
    refine go_bipush (v := 8) rfl (by decide) ?_
    cases e
    exact go_ret rfl rfl
def f_Mb_remove (F : Nat) (a0 : Nat) (v1 : Int32) (h : ck_H) : Option (Unit × ck_H) :=
  ck_as (gk h a0 = 4) <|
  ck_bd (f_Mb_has F a0 v1 h) fun r2 h3 =>
  if r2 = (0 : Int32) then
    some ((), h3)
  else
    ck_as (gk h3 a0 = 4) <|
    ck_bd (f_Mb_move F a0 (v1 + 1) v1 (((gI h3 a0 4) - v1) - 1) h3) fun _ h8 =>
    ck_as (gk h8 a0 = 4) <|
    ck_then (wI h8 a0 4 ((gI h8 a0 4) - 1)) fun h11 =>
    some ((), h11)
set_option maxRecDepth 100000 in
set_option maxHeartbeats 4000000 in
theorem s_Mb_remove {F : Nat} {a0 : Nat} {v1 : Int32} {h h' : ck_H} {r : Unit} (e : f_Mb_remove F a0 v1 h = some (r, h')) : Go k_Mb_remove 0 (ck_in [.ref a0, .int v1] 2) [] h (none, h') := by
  unfold f_Mb_remove at e
  show Go k_Mb_remove 0 [some (.ref a0), some (.int v1)] [] h _
  refine go_aload_n rfl rfl ?_
  refine go_iload_n rfl rfl ?_
  replace e := ck_as_e e
  obtain ⟨hk_1, e⟩ := e
  replace e := ck_bd_e e
  obtain ⟨r2, h3, e4, e⟩ := e
  refine go_callV (As := [.int v1]) (b0 := a0) (rest := []) rfl rfl ⟨hk_1, by decide⟩ rfl ⟨Nat.le_of_ble_eq_true rfl, Nat.le_of_ble_eq_true rfl, Nat.le_of_ble_eq_true rfl, Nat.le_of_ble_eq_true rfl⟩ (s_Mb_has e4) ?_
  show Go k_Mb_remove 5 [some (.ref a0), some (.int v1)] [.int r2] h3 _
  refine go_if_eq (t := 34) rfl rfl (fun hx_5 => ?_) (fun hx_5 => ?_)
  · rw [if_pos hx_5] at e
    cases e
    exact go_ret rfl rfl
  · rw [if_neg hx_5] at e
    refine go_aload_n rfl rfl ?_
    refine go_iload_n rfl rfl ?_
    refine go_iconst (v := 1) rfl (by decide) ?_
    refine go_iadd rfl ?_
    refine go_iload_n rfl rfl ?_
    refine go_aload_n rfl rfl ?_
    replace e := ck_as_e e
    obtain ⟨hk_6, e⟩ := e
    refine go_get (v := .int (gI h3 a0 4)) rfl rfl hk_6 (by decide) rfl ?_
    refine go_iload_n rfl rfl ?_
    refine go_isub rfl ?_
    refine go_iconst (v := 1) rfl (by decide) ?_
    refine go_isub rfl ?_
    replace e := ck_bd_e e
    obtain ⟨r7, h8, e9, e⟩ := e
    refine go_callV (As := [.int (v1 + 1), .int v1, .int (((gI h3 a0 4) - v1) - 1)]) (b0 := a0) (rest := []) rfl rfl ⟨hk_6, by decide⟩ rfl ⟨Nat.le_of_ble_eq_true rfl, Nat.le_of_ble_eq_true rfl, Nat.le_of_ble_eq_true rfl, Nat.le_of_ble_eq_true rfl⟩ (s_Mb_move e9) ?_
    show Go k_Mb_remove 24 [some (.ref a0), some (.int v1)] [] h8 _
    refine go_aload_n rfl rfl ?_
    refine go_dup rfl rfl ?_
    replace e := ck_as_e e
    obtain ⟨hk_10, e⟩ := e
    refine go_get (v := .int (gI h8 a0 4)) rfl rfl hk_10 (by decide) rfl ?_
    refine go_iconst (v := 1) rfl (by decide) ?_
    refine go_isub rfl ?_
    refine go_put (h1 := wI h8 a0 4 ((gI h8 a0 4) - 1)) rfl rfl hk_10 ⟨by decide, by decide, Or.inl rfl⟩ rfl ?_
    have hk_12 : gk (wI h8 a0 4 ((gI h8 a0 4) - 1)) a0 = 4 := ck_kI.trans hk_10
    generalize wI h8 a0 4 ((gI h8 a0 4) - 1) = h11 at e hk_12 ⊢
    replace e := ck_then_e e
    cases e
    exact go_ret rfl rfl
def f_CS_drop (F : Nat) (a0 : Nat) (v1 : Int32) (v2 : Int32) (h : ck_H) : Option (Int32 × ck_H) :=
  ck_as (gk h a0 = 11) <|
  ck_bd (f_CS_libraryAt F a0 v1 h) fun r2 h3 =>
  ck_opt r2 (
    some ((-1), h3)
  ) fun b6 =>
  ck_as (gk h3 b6 = 2) <|
  ck_some (gR h3 b6 4) fun b8 =>
  ck_as (gk h3 b8 = 4) <|
  ck_bd (f_Mb_has F b8 v2 h3) fun r11 h12 =>
  if r11 = (0 : Int32) then
    some ((-1), h12)
  else
    ck_as (gk h12 a0 = 11) <|
    ck_bd (f_CS_isOpenTo F a0 v1 1 h12) fun r16 h17 =>
    if r16 = (0 : Int32) then
      ck_as (gk h17 b6 = 2) <|
      ck_some (gR h17 b6 4) fun b21 =>
      ck_as (gk h17 b21 = 4) <|
      ck_bd (f_Mb_remove F b21 v2 h17) fun _ h25 =>
      ck_as (gk h25 a0 = 11) <|
      ck_some (gR h25 a0 6) fun b28 =>
      ck_as (gk h25 b28 = 10) <|
      ck_bd (f_Vo_writeList F b28 b6 h25) fun _ h32 =>
      ck_as (gk h32 b6 = 2) <|
      ck_some (gR h32 b6 4) fun b35 =>
      ck_as (gk h32 b35 = 4) <|
      some (gI h32 b35 4, h32)
    else
      some ((-8), h17)
set_option maxRecDepth 100000 in
set_option maxHeartbeats 4000000 in
theorem s_CS_drop {F : Nat} {a0 : Nat} {v1 : Int32} {v2 : Int32} {h h' : ck_H} {r : Int32} (e : f_CS_drop F a0 v1 v2 h = some (r, h')) : Go k_CS_drop 0 (ck_in [.ref a0, .int v1, .int v2] 4) [] h (some (.int r), h') := by
  unfold f_CS_drop at e
  show Go k_CS_drop 0 [some (.ref a0), some (.int v1), some (.int v2), none] [] h _
  refine go_aload_n rfl rfl ?_
  refine go_iload_n rfl rfl ?_
  replace e := ck_as_e e
  obtain ⟨hk_1, e⟩ := e
  replace e := ck_bd_e e
  obtain ⟨r2, h3, e4, e⟩ := e
  refine go_callV (As := [.int v1]) (b0 := a0) (rest := []) rfl rfl ⟨hk_1, by decide⟩ rfl ⟨Nat.le_of_ble_eq_true rfl, Nat.le_of_ble_eq_true rfl, Nat.le_of_ble_eq_true rfl, Nat.le_of_ble_eq_true rfl⟩ (s_CS_libraryAt e4) ?_
  replace e := ck_opt_e e
  rcases e with ⟨hq_5, e⟩ | ⟨b6, hq_5, e⟩
  · subst hq_5
    show Go k_CS_drop 5 [some (.ref a0), some (.int v1), some (.int v2), none] [.null] h3 _
    refine go_astore_nN rfl rfl ?_
    show Go k_CS_drop 6 [some (.ref a0), some (.int v1), some (.int v2), some .null] [] h3 _
    refine go_aload_nN rfl rfl ?_
    refine go_ifnullN (t := 21) rfl rfl ?_
    refine go_iconst (v := (-1)) rfl (by decide) ?_
    cases e
    exact go_ret rfl rfl
  subst hq_5
  show Go k_CS_drop 5 [some (.ref a0), some (.int v1), some (.int v2), none] [.ref b6] h3 _
  refine go_astore_n rfl rfl ?_
  show Go k_CS_drop 6 [some (.ref a0), some (.int v1), some (.int v2), some (.ref b6)] [] h3 _
  refine go_aload_n rfl rfl ?_
  refine go_ifnull rfl ?_
  refine go_aload_n rfl rfl ?_
  replace e := ck_as_e e
  obtain ⟨hk_7, e⟩ := e
  replace e := ck_some_e e
  obtain ⟨b8, hq_9, e⟩ := e
  refine go_get (v := .ref b8) rfl rfl hk_7 (by decide) (by show va_rf (gR h3 b6 4) = _; rw [hq_9]; rfl) ?_
  refine go_iload_n rfl rfl ?_
  replace e := ck_as_e e
  obtain ⟨hk_10, e⟩ := e
  replace e := ck_bd_e e
  obtain ⟨r11, h12, e13, e⟩ := e
  refine go_callV (As := [.int v2]) (b0 := b8) (rest := []) rfl rfl ⟨hk_10, by decide⟩ rfl ⟨Nat.le_of_ble_eq_true rfl, Nat.le_of_ble_eq_true rfl, Nat.le_of_ble_eq_true rfl, Nat.le_of_ble_eq_true rfl⟩ (s_Mb_has e13) ?_
  show Go k_CS_drop 18 [some (.ref a0), some (.int v1), some (.int v2), some (.ref b6)] [.int r11] h12 _
  refine go_if_ne (t := 23) rfl rfl (fun hx_14 => ?_) (fun hx_14 => ?_)
  · rw [if_pos hx_14] at e
    refine go_iconst (v := (-1)) rfl (by decide) ?_
    cases e
    exact go_ret rfl rfl
  · rw [if_neg hx_14] at e
    refine go_aload_n rfl rfl ?_
    refine go_iload_n rfl rfl ?_
    refine go_iconst (v := 1) rfl (by decide) ?_
    replace e := ck_as_e e
    obtain ⟨hk_15, e⟩ := e
    replace e := ck_bd_e e
    obtain ⟨r16, h17, e18, e⟩ := e
    refine go_callV (As := [.int v1, .int 1]) (b0 := a0) (rest := []) rfl rfl ⟨hk_15, by decide⟩ rfl ⟨Nat.le_of_ble_eq_true rfl, Nat.le_of_ble_eq_true rfl, Nat.le_of_ble_eq_true rfl, Nat.le_of_ble_eq_true rfl⟩ (s_CS_isOpenTo e18) ?_
    show Go k_CS_drop 29 [some (.ref a0), some (.int v1), some (.int v2), some (.ref b6)] [.int r16] h17 _
    refine go_if_eq (t := 35) rfl rfl (fun hx_19 => ?_) (fun hx_19 => ?_)
    · rw [if_pos hx_19] at e
      refine go_aload_n rfl rfl ?_
      replace e := ck_as_e e
      obtain ⟨hk_20, e⟩ := e
      replace e := ck_some_e e
      obtain ⟨b21, hq_22, e⟩ := e
      refine go_get (v := .ref b21) rfl rfl hk_20 (by decide) (by show va_rf (gR h17 b6 4) = _; rw [hq_22]; rfl) ?_
      refine go_iload_n rfl rfl ?_
      replace e := ck_as_e e
      obtain ⟨hk_23, e⟩ := e
      replace e := ck_bd_e e
      obtain ⟨r24, h25, e26, e⟩ := e
      refine go_callV (As := [.int v2]) (b0 := b21) (rest := []) rfl rfl ⟨hk_23, by decide⟩ rfl ⟨Nat.le_of_ble_eq_true rfl, Nat.le_of_ble_eq_true rfl, Nat.le_of_ble_eq_true rfl, Nat.le_of_ble_eq_true rfl⟩ (s_Mb_remove e26) ?_
      show Go k_CS_drop 43 [some (.ref a0), some (.int v1), some (.int v2), some (.ref b6)] [] h25 _
      refine go_aload_n rfl rfl ?_
      replace e := ck_as_e e
      obtain ⟨hk_27, e⟩ := e
      replace e := ck_some_e e
      obtain ⟨b28, hq_29, e⟩ := e
      refine go_get (v := .ref b28) rfl rfl hk_27 (by decide) (by show va_rf (gR h25 a0 6) = _; rw [hq_29]; rfl) ?_
      refine go_aload_n rfl rfl ?_
      replace e := ck_as_e e
      obtain ⟨hk_30, e⟩ := e
      replace e := ck_bd_e e
      obtain ⟨r31, h32, e33, e⟩ := e
      refine go_callV (As := [.ref b6]) (b0 := b28) (rest := []) rfl rfl ⟨hk_30, by decide⟩ rfl ⟨Nat.le_of_ble_eq_true rfl, Nat.le_of_ble_eq_true rfl, Nat.le_of_ble_eq_true rfl, Nat.le_of_ble_eq_true rfl⟩ (s_Vo_writeList e33) ?_
      show Go k_CS_drop 51 [some (.ref a0), some (.int v1), some (.int v2), some (.ref b6)] [] h32 _
      refine go_aload_n rfl rfl ?_
      replace e := ck_as_e e
      obtain ⟨hk_34, e⟩ := e
      replace e := ck_some_e e
      obtain ⟨b35, hq_36, e⟩ := e
      refine go_get (v := .ref b35) rfl rfl hk_34 (by decide) (by show va_rf (gR h32 b6 4) = _; rw [hq_36]; rfl) ?_
      replace e := ck_as_e e
      obtain ⟨hk_37, e⟩ := e
      refine go_get (v := .int (gI h32 b35 4)) rfl rfl hk_37 (by decide) rfl ?_
      cases e
      exact go_ret rfl rfl
    · rw [if_neg hx_19] at e
      refine go_bipush (v := (-8)) rfl (by decide) ?_
      cases e
      exact go_ret rfl rfl
def f_Tr_appendCopy (F : Nat) (a0 : Nat) (a1 : Nat) (v2 : Int32) (v3 : Int32) (v4 : Int32) (v5 : Int32) (h : ck_H) : Option (Unit × ck_H) :=
  ck_as (gk h a1 = 8) <|
  ck_bd (f_Tr_keyLength F a1 v2 h) fun r2 h3 =>
  ck_as (gk h3 a1 = 8) <|
  ck_bd (f_Tr_dataLength F a1 v2 h3) fun r6 h7 =>
  ck_as (gk h7 a0 = 8) <|
  ck_bd (f_Tr_append F a0 v3 v4 v5 r2 r6 h7) fun r10 h11 =>
  if r10 < (0 : Int32) then
    some ((), h11)
  else
    ck_as (gk h11 a1 = 8) <|
    ck_opt (gR h11 a1 0) (
      some ((), h11)
    ) fun b16 =>
    ck_bd (f_Tr_bytes F a1 v2 h11) fun r17 h18 =>
    ck_as (gk h18 a0 = 8) <|
    ck_bd (f_Tr_bytes F a0 r10 h18) fun r21 h22 =>
    if r17 = r21 then
      ck_as (gk h22 a1 = 8) <|
      ck_some (gR h22 a1 0) fun b26 =>
      ck_bd (f_Tr_beginOf F a1 v2 h22) fun r28 h29 =>
      ck_as (gk h29 a0 = 8) <|
      ck_bd (f_Tr_bytes F a0 r10 h29) fun r32 h33 =>
      ck_as (gk h33 a0 = 8) <|
      ck_bd (f_Tr_store F a0 r10 0 b26 (r28 + 30) r32 h33) fun _ h37 =>
      ck_as (gk h37 a1 = 8) <|
      ck_bd (f_Tr_isSpoiled F a1 v2 h37) fun r40 h41 =>
      ck_as (gk h41 a0 = 8) <|
      ck_bd (f_Tr_mark F a0 r10 r40 h41) fun _ h45 =>
      some ((), h45)
    else
      some ((), h22)
set_option maxRecDepth 100000 in
set_option maxHeartbeats 4000000 in
theorem s_Tr_appendCopy {F : Nat} {a0 : Nat} {a1 : Nat} {v2 : Int32} {v3 : Int32} {v4 : Int32} {v5 : Int32} {h h' : ck_H} {r : Unit} (e : f_Tr_appendCopy F a0 a1 v2 v3 v4 v5 h = some (r, h')) : Go k_Tr_appendCopy 0 (ck_in [.ref a0, .ref a1, .int v2, .int v3, .int v4, .int v5] 7) [] h (none, h') := by
  unfold f_Tr_appendCopy at e
  show Go k_Tr_appendCopy 0 [some (.ref a0), some (.ref a1), some (.int v2), some (.int v3), some (.int v4), some (.int v5), none] [] h _
  refine go_aload_n rfl rfl ?_
  refine go_iload_n rfl rfl ?_
  refine go_iload rfl rfl ?_
  refine go_iload rfl rfl ?_
  refine go_aload_n rfl rfl ?_
  refine go_iload_n rfl rfl ?_
  replace e := ck_as_e e
  obtain ⟨hk_1, e⟩ := e
  replace e := ck_bd_e e
  obtain ⟨r2, h3, e4, e⟩ := e
  refine go_callV (As := [.int v2]) (b0 := a1) (rest := [.int v5, .int v4, .int v3, .ref a0]) rfl rfl ⟨hk_1, by decide⟩ rfl ⟨Nat.le_of_ble_eq_true rfl, Nat.le_of_ble_eq_true rfl, Nat.le_of_ble_eq_true rfl, Nat.le_of_ble_eq_true rfl⟩ (s_Tr_keyLength e4) ?_
  show Go k_Tr_appendCopy 11 [some (.ref a0), some (.ref a1), some (.int v2), some (.int v3), some (.int v4), some (.int v5), none] [.int r2, .int v5, .int v4, .int v3, .ref a0] h3 _
  refine go_aload_n rfl rfl ?_
  refine go_iload_n rfl rfl ?_
  replace e := ck_as_e e
  obtain ⟨hk_5, e⟩ := e
  replace e := ck_bd_e e
  obtain ⟨r6, h7, e8, e⟩ := e
  refine go_callV (As := [.int v2]) (b0 := a1) (rest := [.int r2, .int v5, .int v4, .int v3, .ref a0]) rfl rfl ⟨hk_5, by decide⟩ rfl ⟨Nat.le_of_ble_eq_true rfl, Nat.le_of_ble_eq_true rfl, Nat.le_of_ble_eq_true rfl, Nat.le_of_ble_eq_true rfl⟩ (s_Tr_dataLength e8) ?_
  show Go k_Tr_appendCopy 16 [some (.ref a0), some (.ref a1), some (.int v2), some (.int v3), some (.int v4), some (.int v5), none] [.int r6, .int r2, .int v5, .int v4, .int v3, .ref a0] h7 _
  replace e := ck_as_e e
  obtain ⟨hk_9, e⟩ := e
  replace e := ck_bd_e e
  obtain ⟨r10, h11, e12, e⟩ := e
  refine go_callV (As := [.int v3, .int v4, .int v5, .int r2, .int r6]) (b0 := a0) (rest := []) rfl rfl ⟨hk_9, by decide⟩ rfl ⟨Nat.le_of_ble_eq_true rfl, Nat.le_of_ble_eq_true rfl, Nat.le_of_ble_eq_true rfl, Nat.le_of_ble_eq_true rfl⟩ (s_Tr_append e12) ?_
  show Go k_Tr_appendCopy 19 [some (.ref a0), some (.ref a1), some (.int v2), some (.int v3), some (.int v4), some (.int v5), none] [.int r10] h11 _
  refine go_istore rfl rfl ?_
  show Go k_Tr_appendCopy 21 [some (.ref a0), some (.ref a1), some (.int v2), some (.int v3), some (.int v4), some (.int v5), some (.int r10)] [] h11 _
  refine go_iload rfl rfl ?_
  refine go_if_lt (t := 47) rfl rfl (fun hx_13 => ?_) (fun hx_13 => ?_)
  · rw [if_pos hx_13] at e
    cases e
    exact go_ret rfl rfl
  · rw [if_neg hx_13] at e
    refine go_aload_n rfl rfl ?_
    replace e := ck_as_e e
    obtain ⟨hk_14, e⟩ := e
    replace e := ck_opt_e e
    rcases e with ⟨hq_15, e⟩ | ⟨b16, hq_15, e⟩
    · refine go_get (v := .null) rfl rfl hk_14 (by decide) (by show va_rf (gR h11 a1 0) = _; rw [hq_15]; rfl) ?_
      refine go_ifnullN (t := 47) rfl rfl ?_
      cases e
      exact go_ret rfl rfl
    refine go_get (v := .ref b16) rfl rfl hk_14 (by decide) (by show va_rf (gR h11 a1 0) = _; rw [hq_15]; rfl) ?_
    refine go_ifnull rfl ?_
    refine go_aload_n rfl rfl ?_
    refine go_iload_n rfl rfl ?_
    replace e := ck_bd_e e
    obtain ⟨r17, h18, e19, e⟩ := e
    refine go_callV (As := [.int v2]) (b0 := a1) (rest := []) rfl rfl ⟨hk_14, by decide⟩ rfl ⟨Nat.le_of_ble_eq_true rfl, Nat.le_of_ble_eq_true rfl, Nat.le_of_ble_eq_true rfl, Nat.le_of_ble_eq_true rfl⟩ (s_Tr_bytes e19) ?_
    show Go k_Tr_appendCopy 38 [some (.ref a0), some (.ref a1), some (.int v2), some (.int v3), some (.int v4), some (.int v5), some (.int r10)] [.int r17] h18 _
    refine go_aload_n rfl rfl ?_
    refine go_iload rfl rfl ?_
    replace e := ck_as_e e
    obtain ⟨hk_20, e⟩ := e
    replace e := ck_bd_e e
    obtain ⟨r21, h22, e23, e⟩ := e
    refine go_callV (As := [.int r10]) (b0 := a0) (rest := [.int r17]) rfl rfl ⟨hk_20, by decide⟩ rfl ⟨Nat.le_of_ble_eq_true rfl, Nat.le_of_ble_eq_true rfl, Nat.le_of_ble_eq_true rfl, Nat.le_of_ble_eq_true rfl⟩ (s_Tr_bytes e23) ?_
    show Go k_Tr_appendCopy 44 [some (.ref a0), some (.ref a1), some (.int v2), some (.int v3), some (.int v4), some (.int v5), some (.int r10)] [.int r21, .int r17] h22 _
    refine go_icmp_eq (t := 48) rfl rfl (fun hx_24 => ?_) (fun hx_24 => ?_)
    · rw [if_pos hx_24] at e
      refine go_aload_n rfl rfl ?_
      refine go_iload rfl rfl ?_
      refine go_iconst (v := 0) rfl (by decide) ?_
      refine go_aload_n rfl rfl ?_
      replace e := ck_as_e e
      obtain ⟨hk_25, e⟩ := e
      replace e := ck_some_e e
      obtain ⟨b26, hq_27, e⟩ := e
      refine go_get (v := .ref b26) rfl rfl hk_25 (by decide) (by show va_rf (gR h22 a1 0) = _; rw [hq_27]; rfl) ?_
      refine go_aload_n rfl rfl ?_
      refine go_iload_n rfl rfl ?_
      replace e := ck_bd_e e
      obtain ⟨r28, h29, e30, e⟩ := e
      refine go_callV (As := [.int v2]) (b0 := a1) (rest := [.ref b26, .int 0, .int r10, .ref a0]) rfl rfl ⟨hk_25, by decide⟩ rfl ⟨Nat.le_of_ble_eq_true rfl, Nat.le_of_ble_eq_true rfl, Nat.le_of_ble_eq_true rfl, Nat.le_of_ble_eq_true rfl⟩ (s_Tr_beginOf e30) ?_
      show Go k_Tr_appendCopy 61 [some (.ref a0), some (.ref a1), some (.int v2), some (.int v3), some (.int v4), some (.int v5), some (.int r10)] [.int r28, .ref b26, .int 0, .int r10, .ref a0] h29 _
      refine go_bipush (v := 30) rfl (by decide) ?_
      refine go_iadd rfl ?_
      refine go_aload_n rfl rfl ?_
      refine go_iload rfl rfl ?_
      replace e := ck_as_e e
      obtain ⟨hk_31, e⟩ := e
      replace e := ck_bd_e e
      obtain ⟨r32, h33, e34, e⟩ := e
      refine go_callV (As := [.int r10]) (b0 := a0) (rest := [.int (r28 + 30), .ref b26, .int 0, .int r10, .ref a0]) rfl rfl ⟨hk_31, by decide⟩ rfl ⟨Nat.le_of_ble_eq_true rfl, Nat.le_of_ble_eq_true rfl, Nat.le_of_ble_eq_true rfl, Nat.le_of_ble_eq_true rfl⟩ (s_Tr_bytes e34) ?_
      show Go k_Tr_appendCopy 70 [some (.ref a0), some (.ref a1), some (.int v2), some (.int v3), some (.int v4), some (.int v5), some (.int r10)] [.int r32, .int (r28 + 30), .ref b26, .int 0, .int r10, .ref a0] h33 _
      replace e := ck_as_e e
      obtain ⟨hk_35, e⟩ := e
      replace e := ck_bd_e e
      obtain ⟨r36, h37, e38, e⟩ := e
      refine go_callV (As := [.int r10, .int 0, .ref b26, .int (r28 + 30), .int r32]) (b0 := a0) (rest := []) rfl rfl ⟨hk_35, by decide⟩ rfl ⟨Nat.le_of_ble_eq_true rfl, Nat.le_of_ble_eq_true rfl, Nat.le_of_ble_eq_true rfl, Nat.le_of_ble_eq_true rfl⟩ (s_Tr_store e38) ?_
      show Go k_Tr_appendCopy 73 [some (.ref a0), some (.ref a1), some (.int v2), some (.int v3), some (.int v4), some (.int v5), some (.int r10)] [] h37 _
      refine go_aload_n rfl rfl ?_
      refine go_iload rfl rfl ?_
      refine go_aload_n rfl rfl ?_
      refine go_iload_n rfl rfl ?_
      replace e := ck_as_e e
      obtain ⟨hk_39, e⟩ := e
      replace e := ck_bd_e e
      obtain ⟨r40, h41, e42, e⟩ := e
      refine go_callV (As := [.int v2]) (b0 := a1) (rest := [.int r10, .ref a0]) rfl rfl ⟨hk_39, by decide⟩ rfl ⟨Nat.le_of_ble_eq_true rfl, Nat.le_of_ble_eq_true rfl, Nat.le_of_ble_eq_true rfl, Nat.le_of_ble_eq_true rfl⟩ (s_Tr_isSpoiled e42) ?_
      show Go k_Tr_appendCopy 81 [some (.ref a0), some (.ref a1), some (.int v2), some (.int v3), some (.int v4), some (.int v5), some (.int r10)] [.int r40, .int r10, .ref a0] h41 _
      replace e := ck_as_e e
      obtain ⟨hk_43, e⟩ := e
      replace e := ck_bd_e e
      obtain ⟨r44, h45, e46, e⟩ := e
      refine go_callV (As := [.int r10, .int r40]) (b0 := a0) (rest := []) rfl rfl ⟨hk_43, by decide⟩ rfl ⟨Nat.le_of_ble_eq_true rfl, Nat.le_of_ble_eq_true rfl, Nat.le_of_ble_eq_true rfl, Nat.le_of_ble_eq_true rfl⟩ (s_Tr_mark e46) ?_
      show Go k_Tr_appendCopy 84 [some (.ref a0), some (.ref a1), some (.int v2), some (.int v3), some (.int v4), some (.int v5), some (.int r10)] [] h45 _
      cases e
      exact go_ret rfl rfl
    · rw [if_neg hx_24] at e
      cases e
      exact go_ret rfl rfl
def f_Tr_copyOf_L7 (F : Nat)  : Nat → Nat → Nat → Int32 → ck_H → Option (Unit × ck_H)
  | 0, _, _, _, _ => none
  | n + 1, a0, a1, v2, h =>
    ck_as (gk h a1 = 8) <|
    if v2 < (gI h a1 2) then
      ck_bd (f_Tr_countByte F a1 v2 0 h) fun r3 h4 =>
      ck_as (gk h4 a1 = 8) <|
      ck_bd (f_Tr_countByte F a1 v2 1 h4) fun r7 h8 =>
      ck_as (gk h8 a1 = 8) <|
      ck_bd (f_Tr_countByte F a1 v2 2 h8) fun r11 h12 =>
      ck_as (gk h12 a0 = 8) <|
      ck_bd (f_Tr_appendCopy F a0 a1 v2 r3 r7 r11 h12) fun _ h16 =>
      f_Tr_copyOf_L7 F n a0 a1 (v2 + 1) h16
    else
      some ((), h)
set_option maxRecDepth 100000 in
set_option maxHeartbeats 4000000 in
theorem f_Tr_copyOf_L7_s (F : Nat)   : ∀ (n : Nat) (a0 : Nat) (a1 : Nat) (v2 : Int32) (h : ck_H) (r : Unit) (h' : ck_H), f_Tr_copyOf_L7 F n a0 a1 v2 h = some (r, h') → Go k_Tr_copyOf 7 [some (.ref a0), some (.ref a1), some (.int v2)] [] h (none, h') := by
  intro n
  induction n with
  | zero => intro a0 a1 v2 h r h' e; simp only [f_Tr_copyOf_L7] at e; cases e
  | succ n ih =>
    intro a0 a1 v2 h r h' e
    rw [f_Tr_copyOf_L7] at e
    refine go_iload_n rfl rfl ?_
    refine go_aload_n rfl rfl ?_
    replace e := ck_as_e e
    obtain ⟨hk_1, e⟩ := e
    refine go_get (v := .int (gI h a1 2)) rfl rfl hk_1 (by decide) rfl ?_
    refine go_icmp_ge (t := 45) rfl rfl (fun hx_2 => ?_) (fun hx_2 => ?_)
    · rw [if_pos hx_2] at e
      refine go_aload_n rfl rfl ?_
      refine go_aload_n rfl rfl ?_
      refine go_iload_n rfl rfl ?_
      refine go_aload_n rfl rfl ?_
      refine go_iload_n rfl rfl ?_
      refine go_iconst (v := 0) rfl (by decide) ?_
      replace e := ck_bd_e e
      obtain ⟨r3, h4, e5, e⟩ := e
      refine go_callV (As := [.int v2, .int 0]) (b0 := a1) (rest := [.int v2, .ref a1, .ref a0]) rfl rfl ⟨hk_1, by decide⟩ rfl ⟨Nat.le_of_ble_eq_true rfl, Nat.le_of_ble_eq_true rfl, Nat.le_of_ble_eq_true rfl, Nat.le_of_ble_eq_true rfl⟩ (s_Tr_countByte e5) ?_
      show Go k_Tr_copyOf 24 [some (.ref a0), some (.ref a1), some (.int v2)] [.int r3, .int v2, .ref a1, .ref a0] h4 _
      refine go_aload_n rfl rfl ?_
      refine go_iload_n rfl rfl ?_
      refine go_iconst (v := 1) rfl (by decide) ?_
      replace e := ck_as_e e
      obtain ⟨hk_6, e⟩ := e
      replace e := ck_bd_e e
      obtain ⟨r7, h8, e9, e⟩ := e
      refine go_callV (As := [.int v2, .int 1]) (b0 := a1) (rest := [.int r3, .int v2, .ref a1, .ref a0]) rfl rfl ⟨hk_6, by decide⟩ rfl ⟨Nat.le_of_ble_eq_true rfl, Nat.le_of_ble_eq_true rfl, Nat.le_of_ble_eq_true rfl, Nat.le_of_ble_eq_true rfl⟩ (s_Tr_countByte e9) ?_
      show Go k_Tr_copyOf 30 [some (.ref a0), some (.ref a1), some (.int v2)] [.int r7, .int r3, .int v2, .ref a1, .ref a0] h8 _
      refine go_aload_n rfl rfl ?_
      refine go_iload_n rfl rfl ?_
      refine go_iconst (v := 2) rfl (by decide) ?_
      replace e := ck_as_e e
      obtain ⟨hk_10, e⟩ := e
      replace e := ck_bd_e e
      obtain ⟨r11, h12, e13, e⟩ := e
      refine go_callV (As := [.int v2, .int 2]) (b0 := a1) (rest := [.int r7, .int r3, .int v2, .ref a1, .ref a0]) rfl rfl ⟨hk_10, by decide⟩ rfl ⟨Nat.le_of_ble_eq_true rfl, Nat.le_of_ble_eq_true rfl, Nat.le_of_ble_eq_true rfl, Nat.le_of_ble_eq_true rfl⟩ (s_Tr_countByte e13) ?_
      show Go k_Tr_copyOf 36 [some (.ref a0), some (.ref a1), some (.int v2)] [.int r11, .int r7, .int r3, .int v2, .ref a1, .ref a0] h12 _
      replace e := ck_as_e e
      obtain ⟨hk_14, e⟩ := e
      replace e := ck_bd_e e
      obtain ⟨r15, h16, e17, e⟩ := e
      refine go_callV (As := [.ref a1, .int v2, .int r3, .int r7, .int r11]) (b0 := a0) (rest := []) rfl rfl ⟨hk_14, by decide⟩ rfl ⟨Nat.le_of_ble_eq_true rfl, Nat.le_of_ble_eq_true rfl, Nat.le_of_ble_eq_true rfl, Nat.le_of_ble_eq_true rfl⟩ (s_Tr_appendCopy e17) ?_
      show Go k_Tr_copyOf 39 [some (.ref a0), some (.ref a1), some (.int v2)] [] h16 _
      refine go_iinc (v := 1) rfl rfl (by decide) rfl ?_
      show Go k_Tr_copyOf 42 [some (.ref a0), some (.ref a1), some (.int (v2 + 1))] [] h16 _
      refine go_goto (t := 7) rfl rfl ?_
      refine go_forget (l := [some (.ref a0), some (.ref a1), some (.int (v2 + 1))]) ⟨Or.inl rfl, Or.inl rfl, Or.inl rfl, trivial⟩ ?_
      exact ih _ _ _ _ _ _ e
    · rw [if_neg hx_2] at e
      cases e
      exact go_ret rfl rfl
def f_Tr_copyOf (F : Nat) (a0 : Nat) (a1 : Nat) (h : ck_H) : Option (Unit × ck_H) :=
  ck_as (gk h a0 = 8) <|
  ck_then (wI h a0 2 0) fun h2 =>
  f_Tr_copyOf_L7 F F a0 a1 0 h2
set_option maxRecDepth 100000 in
set_option maxHeartbeats 4000000 in
theorem s_Tr_copyOf {F : Nat} {a0 : Nat} {a1 : Nat} {h h' : ck_H} {r : Unit} (e : f_Tr_copyOf F a0 a1 h = some (r, h')) : Go k_Tr_copyOf 0 (ck_in [.ref a0, .ref a1] 3) [] h (none, h') := by
  unfold f_Tr_copyOf at e
  show Go k_Tr_copyOf 0 [some (.ref a0), some (.ref a1), none] [] h _
  refine go_aload_n rfl rfl ?_
  refine go_iconst (v := 0) rfl (by decide) ?_
  replace e := ck_as_e e
  obtain ⟨hk_1, e⟩ := e
  refine go_put (h1 := wI h a0 2 0) rfl rfl hk_1 ⟨by decide, by decide, Or.inl rfl⟩ rfl ?_
  have hk_3 : gk (wI h a0 2 0) a0 = 8 := ck_kI.trans hk_1
  generalize wI h a0 2 0 = h2 at e hk_3 ⊢
  replace e := ck_then_e e
  refine go_iconst (v := 0) rfl (by decide) ?_
  refine go_istore_n rfl rfl ?_
  show Go k_Tr_copyOf 7 [some (.ref a0), some (.ref a1), some (.int 0)] [] h2 _
  refine go_forget (l := [some (.ref a0), some (.ref a1), some (.int 0)]) ⟨Or.inl rfl, Or.inl rfl, Or.inl rfl, trivial⟩ ?_
  exact f_Tr_copyOf_L7_s F F _ _ _ _ _ _ e
def f_Mb_beginningAt_L2 (F : Nat)  : Nat → Nat → Int32 → Int32 → Int32 → ck_H → Option (Int32 × ck_H)
  | 0, _, _, _, _, _ => none
  | n + 1, a0, v1, v2, v3, h =>
    ck_as (gk h a0 = 4) <|
    if v3 < (gI h a0 4) then
      if v3 < (40 : Int32) then
        ck_some (gR h a0 3) fun b4 =>
        ck_as ((gk h b4 = 14 ∨ gk h b4 = 21) ∧ ¬ v3 < 0 ∧ (v3 : Int32).toNatClampNeg < gz h b4) <|
        if (0 : Int32) < (gI h b4 (v3 : Int32).toNatClampNeg) then
          ck_some (gR h a0 1) fun b8 =>
          ck_as ((gk h b8 = 14 ∨ gk h b8 = 21) ∧ ¬ v3 < 0 ∧ (v3 : Int32).toNatClampNeg < gz h b8) <|
          if (gI h b8 (v3 : Int32).toNatClampNeg) = v1 then
            ck_some (gR h a0 2) fun b12 =>
            ck_as ((gk h b12 = 14 ∨ gk h b12 = 21) ∧ ¬ v3 < 0 ∧ (v3 : Int32).toNatClampNeg < gz h b12) <|
            if (gI h b12 (v3 : Int32).toNatClampNeg) = v2 then
              some (v3, h)
            else
              f_Mb_beginningAt_L2 F n a0 v1 v2 (v3 + 1) h
          else
            f_Mb_beginningAt_L2 F n a0 v1 v2 (v3 + 1) h
        else
          f_Mb_beginningAt_L2 F n a0 v1 v2 (v3 + 1) h
      else
        some ((-1), h)
    else
      some ((-1), h)
set_option maxRecDepth 100000 in
set_option maxHeartbeats 4000000 in
theorem f_Mb_beginningAt_L2_s (F : Nat)   : ∀ (n : Nat) (a0 : Nat) (v1 : Int32) (v2 : Int32) (v3 : Int32) (h : ck_H) (r : Int32) (h' : ck_H), f_Mb_beginningAt_L2 F n a0 v1 v2 v3 h = some (r, h') → Go k_Mb_beginningAt 2 [some (.ref a0), some (.int v1), some (.int v2), some (.int v3)] [] h (some (.int r), h') := by
  intro n
  induction n with
  | zero => intro a0 v1 v2 v3 h r h' e; simp only [f_Mb_beginningAt_L2] at e; cases e
  | succ n ih =>
    intro a0 v1 v2 v3 h r h' e
    rw [f_Mb_beginningAt_L2] at e
    refine go_iload_n rfl rfl ?_
    refine go_aload_n rfl rfl ?_
    replace e := ck_as_e e
    obtain ⟨hk_1, e⟩ := e
    refine go_get (v := .int (gI h a0 4)) rfl rfl hk_1 (by decide) rfl ?_
    refine go_icmp_ge (t := 53) rfl rfl (fun hx_2 => ?_) (fun hx_2 => ?_)
    · rw [if_pos hx_2] at e
      refine go_iload_n rfl rfl ?_
      refine go_bipush (v := 40) rfl (by decide) ?_
      refine go_icmp_ge (t := 53) rfl rfl (fun hx_3 => ?_) (fun hx_3 => ?_)
      · rw [if_pos hx_3] at e
        refine go_aload_n rfl rfl ?_
        replace e := ck_some_e e
        obtain ⟨b4, hq_5, e⟩ := e
        refine go_get (v := .ref b4) rfl rfl hk_1 (by decide) (by show va_rf (gR h a0 3) = _; rw [hq_5]; rfl) ?_
        refine go_iload_n rfl rfl ?_
        replace e := ck_as_e e
        obtain ⟨hc_6, e⟩ := e
        refine go_iald rfl hc_6 ?_
        refine go_if_le (t := 47) rfl rfl (fun hx_7 => ?_) (fun hx_7 => ?_)
        · rw [if_pos hx_7] at e
          refine go_aload_n rfl rfl ?_
          replace e := ck_some_e e
          obtain ⟨b8, hq_9, e⟩ := e
          refine go_get (v := .ref b8) rfl rfl hk_1 (by decide) (by show va_rf (gR h a0 1) = _; rw [hq_9]; rfl) ?_
          refine go_iload_n rfl rfl ?_
          replace e := ck_as_e e
          obtain ⟨hc_10, e⟩ := e
          refine go_iald rfl hc_10 ?_
          refine go_iload_n rfl rfl ?_
          refine go_icmp_ne (t := 47) rfl rfl (fun hx_11 => ?_) (fun hx_11 => ?_)
          · rw [if_pos hx_11] at e
            refine go_aload_n rfl rfl ?_
            replace e := ck_some_e e
            obtain ⟨b12, hq_13, e⟩ := e
            refine go_get (v := .ref b12) rfl rfl hk_1 (by decide) (by show va_rf (gR h a0 2) = _; rw [hq_13]; rfl) ?_
            refine go_iload_n rfl rfl ?_
            replace e := ck_as_e e
            obtain ⟨hc_14, e⟩ := e
            refine go_iald rfl hc_14 ?_
            refine go_iload_n rfl rfl ?_
            refine go_icmp_ne (t := 47) rfl rfl (fun hx_15 => ?_) (fun hx_15 => ?_)
            · rw [if_pos hx_15] at e
              refine go_iload_n rfl rfl ?_
              cases e
              exact go_ret rfl rfl
            · rw [if_neg hx_15] at e
              refine go_iinc (v := 1) rfl rfl (by decide) rfl ?_
              show Go k_Mb_beginningAt 50 [some (.ref a0), some (.int v1), some (.int v2), some (.int (v3 + 1))] [] h _
              refine go_goto (t := 2) rfl rfl ?_
              refine go_forget (l := [some (.ref a0), some (.int v1), some (.int v2), some (.int (v3 + 1))]) ⟨Or.inl rfl, Or.inl rfl, Or.inl rfl, Or.inl rfl, trivial⟩ ?_
              exact ih _ _ _ _ _ _ _ e
          · rw [if_neg hx_11] at e
            refine go_iinc (v := 1) rfl rfl (by decide) rfl ?_
            show Go k_Mb_beginningAt 50 [some (.ref a0), some (.int v1), some (.int v2), some (.int (v3 + 1))] [] h _
            refine go_goto (t := 2) rfl rfl ?_
            refine go_forget (l := [some (.ref a0), some (.int v1), some (.int v2), some (.int (v3 + 1))]) ⟨Or.inl rfl, Or.inl rfl, Or.inl rfl, Or.inl rfl, trivial⟩ ?_
            exact ih _ _ _ _ _ _ _ e
        · rw [if_neg hx_7] at e
          refine go_iinc (v := 1) rfl rfl (by decide) rfl ?_
          show Go k_Mb_beginningAt 50 [some (.ref a0), some (.int v1), some (.int v2), some (.int (v3 + 1))] [] h _
          refine go_goto (t := 2) rfl rfl ?_
          refine go_forget (l := [some (.ref a0), some (.int v1), some (.int v2), some (.int (v3 + 1))]) ⟨Or.inl rfl, Or.inl rfl, Or.inl rfl, Or.inl rfl, trivial⟩ ?_
          exact ih _ _ _ _ _ _ _ e
      · rw [if_neg hx_3] at e
        refine go_iconst (v := (-1)) rfl (by decide) ?_
        cases e
        exact go_ret rfl rfl
    · rw [if_neg hx_2] at e
      refine go_iconst (v := (-1)) rfl (by decide) ?_
      cases e
      exact go_ret rfl rfl
def f_Mb_beginningAt (F : Nat) (a0 : Nat) (v1 : Int32) (v2 : Int32) (h : ck_H) : Option (Int32 × ck_H) :=
  f_Mb_beginningAt_L2 F F a0 v1 v2 0 h
set_option maxRecDepth 100000 in
set_option maxHeartbeats 4000000 in
theorem s_Mb_beginningAt {F : Nat} {a0 : Nat} {v1 : Int32} {v2 : Int32} {h h' : ck_H} {r : Int32} (e : f_Mb_beginningAt F a0 v1 v2 h = some (r, h')) : Go k_Mb_beginningAt 0 (ck_in [.ref a0, .int v1, .int v2] 4) [] h (some (.int r), h') := by
  unfold f_Mb_beginningAt at e
  show Go k_Mb_beginningAt 0 [some (.ref a0), some (.int v1), some (.int v2), none] [] h _
  refine go_iconst (v := 0) rfl (by decide) ?_
  refine go_istore_n rfl rfl ?_
  show Go k_Mb_beginningAt 2 [some (.ref a0), some (.int v1), some (.int v2), some (.int 0)] [] h _
  refine go_forget (l := [some (.ref a0), some (.int v1), some (.int v2), some (.int 0)]) ⟨Or.inl rfl, Or.inl rfl, Or.inl rfl, Or.inl rfl, trivial⟩ ?_
  exact f_Mb_beginningAt_L2_s F F _ _ _ _ _ _ _ e
def f_Vo_moveBlock (F : Nat) (a0 : Nat) (a1 : Nat) (v2 : Int32) (v3 : Int32) (h : ck_H) : Option (Int32 × ck_H) :=
  ck_as (gk h a1 = 2) <|
  ck_bd (f_DS_trackAt F a1 v2 h) fun r2 h3 =>
  ck_opt r2 (
    some (0, h3)
  ) fun b6 =>
  ck_as (gk h3 a1 = 2) <|
  ck_bd (f_DS_numberOf F a1 v2 h3) fun r8 h9 =>
  ck_as (gk h9 a0 = 10) <|
  ck_some (gR h9 a0 6) fun b12 =>
  ck_as (gk h9 b6 = 8) <|
  ck_bd (f_Tr_records F b6 h9) fun r15 h16 =>
  ck_as (gk h16 b6 = 8) <|
  ck_bd (f_Tr_appendCopy F b6 b12 v3 (r8 / 4) (r8 - r8 / 4 * 4) (r15 + 1) h16) fun _ h20 =>
  ck_as (gk h20 b6 = 8) <|
  ck_bd (f_Tr_records F b6 h20) fun r23 h24 =>
  some (r23, h24)
set_option maxRecDepth 100000 in
set_option maxHeartbeats 4000000 in
theorem s_Vo_moveBlock {F : Nat} {a0 : Nat} {a1 : Nat} {v2 : Int32} {v3 : Int32} {h h' : ck_H} {r : Int32} (e : f_Vo_moveBlock F a0 a1 v2 v3 h = some (r, h')) : Go k_Vo_moveBlock 0 (ck_in [.ref a0, .ref a1, .int v2, .int v3] 6) [] h (some (.int r), h') := by
  unfold f_Vo_moveBlock at e
  show Go k_Vo_moveBlock 0 [some (.ref a0), some (.ref a1), some (.int v2), some (.int v3), none, none] [] h _
  refine go_aload_n rfl rfl ?_
  refine go_iload_n rfl rfl ?_
  replace e := ck_as_e e
  obtain ⟨hk_1, e⟩ := e
  replace e := ck_bd_e e
  obtain ⟨r2, h3, e4, e⟩ := e
  refine go_callV (As := [.int v2]) (b0 := a1) (rest := []) rfl rfl ⟨hk_1, by decide⟩ rfl ⟨Nat.le_of_ble_eq_true rfl, Nat.le_of_ble_eq_true rfl, Nat.le_of_ble_eq_true rfl, Nat.le_of_ble_eq_true rfl⟩ (s_DS_trackAt e4) ?_
  replace e := ck_opt_e e
  rcases e with ⟨hq_5, e⟩ | ⟨b6, hq_5, e⟩
  · subst hq_5
    show Go k_Vo_moveBlock 5 [some (.ref a0), some (.ref a1), some (.int v2), some (.int v3), none, none] [.null] h3 _
    refine go_astoreN rfl rfl ?_
    show Go k_Vo_moveBlock 7 [some (.ref a0), some (.ref a1), some (.int v2), some (.int v3), some .null, none] [] h3 _
    refine go_aloadN rfl rfl ?_
    refine go_ifnonnullN rfl ?_
    refine go_iconst (v := 0) rfl (by decide) ?_
    cases e
    exact go_ret rfl rfl
  subst hq_5
  show Go k_Vo_moveBlock 5 [some (.ref a0), some (.ref a1), some (.int v2), some (.int v3), none, none] [.ref b6] h3 _
  refine go_astore rfl rfl ?_
  show Go k_Vo_moveBlock 7 [some (.ref a0), some (.ref a1), some (.int v2), some (.int v3), some (.ref b6), none] [] h3 _
  refine go_aload rfl rfl ?_
  refine go_ifnonnull (t := 14) rfl rfl ?_
  refine go_aload_n rfl rfl ?_
  refine go_iload_n rfl rfl ?_
  replace e := ck_as_e e
  obtain ⟨hk_7, e⟩ := e
  replace e := ck_bd_e e
  obtain ⟨r8, h9, e10, e⟩ := e
  refine go_callV (As := [.int v2]) (b0 := a1) (rest := []) rfl rfl ⟨hk_7, by decide⟩ rfl ⟨Nat.le_of_ble_eq_true rfl, Nat.le_of_ble_eq_true rfl, Nat.le_of_ble_eq_true rfl, Nat.le_of_ble_eq_true rfl⟩ (s_DS_numberOf e10) ?_
  show Go k_Vo_moveBlock 19 [some (.ref a0), some (.ref a1), some (.int v2), some (.int v3), some (.ref b6), none] [.int r8] h9 _
  refine go_istore rfl rfl ?_
  show Go k_Vo_moveBlock 21 [some (.ref a0), some (.ref a1), some (.int v2), some (.int v3), some (.ref b6), some (.int r8)] [] h9 _
  refine go_aload rfl rfl ?_
  refine go_aload_n rfl rfl ?_
  replace e := ck_as_e e
  obtain ⟨hk_11, e⟩ := e
  replace e := ck_some_e e
  obtain ⟨b12, hq_13, e⟩ := e
  refine go_get (v := .ref b12) rfl rfl hk_11 (by decide) (by show va_rf (gR h9 a0 6) = _; rw [hq_13]; rfl) ?_
  refine go_iload_n rfl rfl ?_
  refine go_iload rfl rfl ?_
  refine go_iconst (v := 4) rfl (by decide) ?_
  refine go_idiv rfl (by decide) ?_
  refine go_iload rfl rfl ?_
  refine go_iconst (v := 4) rfl (by decide) ?_
  refine go_irem rfl (by decide) ?_
  refine go_aload rfl rfl ?_
  replace e := ck_as_e e
  obtain ⟨hk_14, e⟩ := e
  replace e := ck_bd_e e
  obtain ⟨r15, h16, e17, e⟩ := e
  refine go_callV (As := []) (b0 := b6) (rest := [.int (r8 - r8 / 4 * 4), .int (r8 / 4), .int v3, .ref b12, .ref b6]) rfl rfl ⟨hk_14, by decide⟩ rfl ⟨Nat.le_of_ble_eq_true rfl, Nat.le_of_ble_eq_true rfl, Nat.le_of_ble_eq_true rfl, Nat.le_of_ble_eq_true rfl⟩ (s_Tr_records e17) ?_
  show Go k_Vo_moveBlock 41 [some (.ref a0), some (.ref a1), some (.int v2), some (.int v3), some (.ref b6), some (.int r8)] [.int r15, .int (r8 - r8 / 4 * 4), .int (r8 / 4), .int v3, .ref b12, .ref b6] h16 _
  refine go_iconst (v := 1) rfl (by decide) ?_
  refine go_iadd rfl ?_
  replace e := ck_as_e e
  obtain ⟨hk_18, e⟩ := e
  replace e := ck_bd_e e
  obtain ⟨r19, h20, e21, e⟩ := e
  refine go_callV (As := [.ref b12, .int v3, .int (r8 / 4), .int (r8 - r8 / 4 * 4), .int (r15 + 1)]) (b0 := b6) (rest := []) rfl rfl ⟨hk_18, by decide⟩ rfl ⟨Nat.le_of_ble_eq_true rfl, Nat.le_of_ble_eq_true rfl, Nat.le_of_ble_eq_true rfl, Nat.le_of_ble_eq_true rfl⟩ (s_Tr_appendCopy e21) ?_
  show Go k_Vo_moveBlock 46 [some (.ref a0), some (.ref a1), some (.int v2), some (.int v3), some (.ref b6), some (.int r8)] [] h20 _
  refine go_aload rfl rfl ?_
  replace e := ck_as_e e
  obtain ⟨hk_22, e⟩ := e
  replace e := ck_bd_e e
  obtain ⟨r23, h24, e25, e⟩ := e
  refine go_callV (As := []) (b0 := b6) (rest := []) rfl rfl ⟨hk_22, by decide⟩ rfl ⟨Nat.le_of_ble_eq_true rfl, Nat.le_of_ble_eq_true rfl, Nat.le_of_ble_eq_true rfl, Nat.le_of_ble_eq_true rfl⟩ (s_Tr_records e25) ?_
  show Go k_Vo_moveBlock 51 [some (.ref a0), some (.ref a1), some (.int v2), some (.int v3), some (.ref b6), some (.int r8)] [.int r23] h24 _
  cases e
  exact go_ret rfl rfl
def f_Vo_pressTogether_J112 (F : Nat) (k22 : Nat → Nat → Int32 → Int32 → Int32 → Int32 → Int32 → ck_H → Option (Int32 × ck_H)) (k63 : Nat → Nat → Int32 → Int32 → Int32 → Int32 → Int32 → Int32 → ck_H → Option (Int32 × ck_H)) (a0 : Nat) (a1 : Nat) (v3 : Int32) (v5 : Int32) (v6 : Int32) (v7 : Int32) (v9 : Int32) (v10 : Int32) (s0 : Int32) (h : ck_H) : Option (Int32 × ck_H) :=
  if (0 : Int32) < s0 then
    ck_as (gk h a0 = 10) <|
    ck_some (gR h a0 6) fun b3 =>
    ck_as (gk h b3 = 8) <|
    ck_bd (f_Tr_bytes F b3 v9 h) fun r6 h7 =>
    ck_as (gk h7 a1 = 2) <|
    ck_bd (f_DS_roomFrom F a1 v5 r6 h7) fun r10 h11 =>
    ck_bd (f_Ma_max F v5 r10 h11) fun r13 h14 =>
    ck_as (gk h14 a0 = 10) <|
    ck_bd (f_Vo_moveBlock F a0 a1 r13 v9 h14) fun r17 h18 =>
    none
  else
    k63 a0 a1 v3 s0 v5 v6 v7 (v9 + 1) h
set_option maxRecDepth 100000 in
set_option maxHeartbeats 4000000 in
theorem f_Vo_pressTogether_J112_s (F : Nat) (k22 : Nat → Nat → Int32 → Int32 → Int32 → Int32 → Int32 → ck_H → Option (Int32 × ck_H)) (k63 : Nat → Nat → Int32 → Int32 → Int32 → Int32 → Int32 → Int32 → ck_H → Option (Int32 × ck_H)) (hk22 : ∀ (a0 : Nat) (a1 : Nat) (v3 : Int32) (v4 : Int32) (v5 : Int32) (v6 : Int32) (v7 : Int32) (h : ck_H) (r : Int32) (h' : ck_H), k22 a0 a1 v3 v4 v5 v6 v7 h = some (r, h') → Go k_Vo_pressTogether 22 [some (.ref a0), some (.ref a1), some .null, some (.int v3), some (.int v4), some (.int v5), some (.int v6), some (.int v7), none, none, none, none] [] h (some (.int r), h')) (hk63 : ∀ (a0 : Nat) (a1 : Nat) (v3 : Int32) (v4 : Int32) (v5 : Int32) (v6 : Int32) (v7 : Int32) (v9 : Int32) (h : ck_H) (r : Int32) (h' : ck_H), k63 a0 a1 v3 v4 v5 v6 v7 v9 h = some (r, h') → Go k_Vo_pressTogether 63 [some (.ref a0), some (.ref a1), some .null, some (.int v3), some (.int v4), some (.int v5), some (.int v6), some (.int v7), none, some (.int v9), none, none] [] h (some (.int r), h')) (a0 : Nat) (a1 : Nat) (v3 : Int32) (v5 : Int32) (v6 : Int32) (v7 : Int32) (v9 : Int32) (v10 : Int32) (s0 : Int32) (h : ck_H) (r : Int32) (h' : ck_H) (e : f_Vo_pressTogether_J112 F k22 k63 a0 a1 v3 v5 v6 v7 v9 v10 s0 h = some (r, h')) : Go k_Vo_pressTogether 112 [some (.ref a0), some (.ref a1), some .null, some (.int v3), none, some (.int v5), some (.int v6), some (.int v7), none, some (.int v9), some (.int v10), none] [.int s0] h (some (.int r), h') := by
  unfold f_Vo_pressTogether_J112 at e
  refine go_istore rfl rfl ?_
  show Go k_Vo_pressTogether 114 [some (.ref a0), some (.ref a1), some .null, some (.int v3), some (.int s0), some (.int v5), some (.int v6), some (.int v7), none, some (.int v9), some (.int v10), none] [] h _
  refine go_iload rfl rfl ?_
  refine go_if_le (t := 168) rfl rfl (fun hx_1 => ?_) (fun hx_1 => ?_)
  · rw [if_pos hx_1] at e
    refine go_iload rfl rfl ?_
    refine go_aload_n rfl rfl ?_
    refine go_iload rfl rfl ?_
    refine go_aload_n rfl rfl ?_
    replace e := ck_as_e e
    obtain ⟨hk_2, e⟩ := e
    replace e := ck_some_e e
    obtain ⟨b3, hq_4, e⟩ := e
    refine go_get (v := .ref b3) rfl rfl hk_2 (by decide) (by show va_rf (gR h a0 6) = _; rw [hq_4]; rfl) ?_
    refine go_iload rfl rfl ?_
    replace e := ck_as_e e
    obtain ⟨hk_5, e⟩ := e
    replace e := ck_bd_e e
    obtain ⟨r6, h7, e8, e⟩ := e
    refine go_callV (As := [.int v9]) (b0 := b3) (rest := [.int v5, .ref a1, .int v5]) rfl rfl ⟨hk_5, by decide⟩ rfl ⟨Nat.le_of_ble_eq_true rfl, Nat.le_of_ble_eq_true rfl, Nat.le_of_ble_eq_true rfl, Nat.le_of_ble_eq_true rfl⟩ (s_Tr_bytes e8) ?_
    show Go k_Vo_pressTogether 133 [some (.ref a0), some (.ref a1), some .null, some (.int v3), some (.int s0), some (.int v5), some (.int v6), some (.int v7), none, some (.int v9), some (.int v10), none] [.int r6, .int v5, .ref a1, .int v5] h7 _
    replace e := ck_as_e e
    obtain ⟨hk_9, e⟩ := e
    replace e := ck_bd_e e
    obtain ⟨r10, h11, e12, e⟩ := e
    refine go_callV (As := [.int v5, .int r6]) (b0 := a1) (rest := [.int v5]) rfl rfl ⟨hk_9, by decide⟩ rfl ⟨Nat.le_of_ble_eq_true rfl, Nat.le_of_ble_eq_true rfl, Nat.le_of_ble_eq_true rfl, Nat.le_of_ble_eq_true rfl⟩ (s_DS_roomFrom e12) ?_
    show Go k_Vo_pressTogether 136 [some (.ref a0), some (.ref a1), some .null, some (.int v3), some (.int s0), some (.int v5), some (.int v6), some (.int v7), none, some (.int v9), some (.int v10), none] [.int r10, .int v5] h11 _
    replace e := ck_bd_e e
    obtain ⟨r13, h14, e15, e⟩ := e
    refine go_callS (As := [.int v5, .int r10]) (rest := []) rfl rfl rfl ⟨Nat.le_of_ble_eq_true rfl, Nat.le_of_ble_eq_true rfl, Nat.le_of_ble_eq_true rfl, Nat.le_of_ble_eq_true rfl⟩ (s_Ma_max e15) ?_
    show Go k_Vo_pressTogether 139 [some (.ref a0), some (.ref a1), some .null, some (.int v3), some (.int s0), some (.int v5), some (.int v6), some (.int v7), none, some (.int v9), some (.int v10), none] [.int r13] h14 _
    refine go_istore rfl rfl ?_
    show Go k_Vo_pressTogether 141 [some (.ref a0), some (.ref a1), some .null, some (.int v3), some (.int s0), some (.int r13), some (.int v6), some (.int v7), none, some (.int v9), some (.int v10), none] [] h14 _
    refine go_aload_n rfl rfl ?_
    refine go_aload_n rfl rfl ?_
    refine go_iload rfl rfl ?_
    refine go_iload rfl rfl ?_
    replace e := ck_as_e e
    obtain ⟨hk_16, e⟩ := e
    replace e := ck_bd_e e
    obtain ⟨r17, h18, e19, e⟩ := e
    refine go_callV (As := [.ref a1, .int r13, .int v9]) (b0 := a0) (rest := []) rfl rfl ⟨hk_16, by decide⟩ rfl ⟨Nat.le_of_ble_eq_true rfl, Nat.le_of_ble_eq_true rfl, Nat.le_of_ble_eq_true rfl, Nat.le_of_ble_eq_true rfl⟩ (s_Vo_moveBlock e19) ?_
    show Go k_Vo_pressTogether 150 [some (.ref a0), some (.ref a1), some .null, some (.int v3), some (.int s0), some (.int r13), some (.int v6), some (.int v7), none, some (.int v9), some (.int v10), none] [.int r17] h18 _
    refine go_istore rfl rfl ?_
    show Go k_Vo_pressTogether 152 [some (.ref a0), some (.ref a1), some .null, some (.int v3), some (.int s0), some (.int r13), some (.int v6), some (.int v7), none, some (.int v9), some (.int v10), some (.int r17)] [] h18 _
    refine go_aload_nN rfl rfl ?_
    refine go_iload rfl rfl ?_
    refine go_iload rfl rfl ?_
    refine go_iload rfl rfl ?_
    cases e
  · rw [if_neg hx_1] at e
    refine go_iinc (v := 1) rfl rfl (by decide) rfl ?_
    show Go k_Vo_pressTogether 171 [some (.ref a0), some (.ref a1), some .null, some (.int v3), some (.int s0), some (.int v5), some (.int v6), some (.int v7), none, some (.int (v9 + 1)), some (.int v10), none] [] h _
    refine go_goto (t := 63) rfl rfl ?_
    refine go_forget (l := [some (.ref a0), some (.ref a1), some .null, some (.int v3), some (.int s0), some (.int v5), some (.int v6), some (.int v7), none, some (.int (v9 + 1)), none, none]) ⟨Or.inl rfl, Or.inl rfl, Or.inl rfl, Or.inl rfl, Or.inl rfl, Or.inl rfl, Or.inl rfl, Or.inl rfl, Or.inl rfl, Or.inl rfl, Or.inr ⟨rfl, fun _ q => by cases q; rfl⟩, Or.inl rfl, trivial⟩ ?_
    exact hk63 _ _ _ _ _ _ _ _ _ _ _ e
def f_Vo_pressTogether_J94 (F : Nat) (k22 : Nat → Nat → Int32 → Int32 → Int32 → Int32 → Int32 → ck_H → Option (Int32 × ck_H)) (k63 : Nat → Nat → Int32 → Int32 → Int32 → Int32 → Int32 → Int32 → ck_H → Option (Int32 × ck_H)) (a0 : Nat) (a1 : Nat) (v3 : Int32) (v4 : Int32) (v5 : Int32) (v6 : Int32) (v7 : Int32) (v9 : Int32) (s0 : Int32) (h : ck_H) : Option (Int32 × ck_H) :=
  if s0 < (0 : Int32) then
    f_Vo_pressTogether_J112 F k22 k63 a0 a1 v3 v5 v6 v7 v9 s0 v4 h
  else
    none
set_option maxRecDepth 100000 in
set_option maxHeartbeats 4000000 in
theorem f_Vo_pressTogether_J94_s (F : Nat) (k22 : Nat → Nat → Int32 → Int32 → Int32 → Int32 → Int32 → ck_H → Option (Int32 × ck_H)) (k63 : Nat → Nat → Int32 → Int32 → Int32 → Int32 → Int32 → Int32 → ck_H → Option (Int32 × ck_H)) (hk22 : ∀ (a0 : Nat) (a1 : Nat) (v3 : Int32) (v4 : Int32) (v5 : Int32) (v6 : Int32) (v7 : Int32) (h : ck_H) (r : Int32) (h' : ck_H), k22 a0 a1 v3 v4 v5 v6 v7 h = some (r, h') → Go k_Vo_pressTogether 22 [some (.ref a0), some (.ref a1), some .null, some (.int v3), some (.int v4), some (.int v5), some (.int v6), some (.int v7), none, none, none, none] [] h (some (.int r), h')) (hk63 : ∀ (a0 : Nat) (a1 : Nat) (v3 : Int32) (v4 : Int32) (v5 : Int32) (v6 : Int32) (v7 : Int32) (v9 : Int32) (h : ck_H) (r : Int32) (h' : ck_H), k63 a0 a1 v3 v4 v5 v6 v7 v9 h = some (r, h') → Go k_Vo_pressTogether 63 [some (.ref a0), some (.ref a1), some .null, some (.int v3), some (.int v4), some (.int v5), some (.int v6), some (.int v7), none, some (.int v9), none, none] [] h (some (.int r), h')) (a0 : Nat) (a1 : Nat) (v3 : Int32) (v4 : Int32) (v5 : Int32) (v6 : Int32) (v7 : Int32) (v9 : Int32) (s0 : Int32) (h : ck_H) (r : Int32) (h' : ck_H) (e : f_Vo_pressTogether_J94 F k22 k63 a0 a1 v3 v4 v5 v6 v7 v9 s0 h = some (r, h')) : Go k_Vo_pressTogether 94 [some (.ref a0), some (.ref a1), some .null, some (.int v3), some (.int v4), some (.int v5), some (.int v6), some (.int v7), none, some (.int v9), none, none] [.int s0] h (some (.int r), h') := by
  unfold f_Vo_pressTogether_J94 at e
  refine go_istore rfl rfl ?_
  show Go k_Vo_pressTogether 96 [some (.ref a0), some (.ref a1), some .null, some (.int v3), some (.int v4), some (.int v5), some (.int v6), some (.int v7), none, some (.int v9), some (.int s0), none] [] h _
  refine go_iload rfl rfl ?_
  refine go_if_ge (t := 106) rfl rfl (fun hx_1 => ?_) (fun hx_1 => ?_)
  · rw [if_pos hx_1] at e
    refine go_iload rfl rfl ?_
    refine go_goto (t := 112) rfl rfl ?_
    refine go_forget (l := [some (.ref a0), some (.ref a1), some .null, some (.int v3), none, some (.int v5), some (.int v6), some (.int v7), none, some (.int v9), some (.int s0), none]) ⟨Or.inl rfl, Or.inl rfl, Or.inl rfl, Or.inl rfl, Or.inr ⟨rfl, fun _ q => by cases q; rfl⟩, Or.inl rfl, Or.inl rfl, Or.inl rfl, Or.inl rfl, Or.inl rfl, Or.inl rfl, Or.inl rfl, trivial⟩ ?_
    exact f_Vo_pressTogether_J112_s F k22 k63 hk22 hk63 a0 a1 v3 v5 v6 v7 v9 s0 v4 _ _ _ e
  · rw [if_neg hx_1] at e
    refine go_aload_nN rfl rfl ?_
    refine go_iload rfl rfl ?_
    cases e
def f_Vo_pressTogether_L63 (F : Nat) (k22 : Nat → Nat → Int32 → Int32 → Int32 → Int32 → Int32 → ck_H → Option (Int32 × ck_H)) : Nat → Nat → Nat → Int32 → Int32 → Int32 → Int32 → Int32 → Int32 → ck_H → Option (Int32 × ck_H)
  | 0, _, _, _, _, _, _, _, _, _ => none
  | n + 1, a0, a1, v3, v4, v5, v6, v7, v9, h =>
    ck_as (gk h a0 = 10) <|
    ck_some (gR h a0 6) fun b2 =>
    ck_as (gk h b2 = 8) <|
    ck_bd (f_Tr_records F b2 h) fun r5 h6 =>
    if v9 < r5 then
      if (0 : Int32) < v4 then
        f_Vo_pressTogether_J94 F k22 (f_Vo_pressTogether_L63 F k22 n) a0 a1 v3 v4 v5 v6 v7 v9 (-1) h6
      else
        none
    else
      k22 a0 a1 v3 v4 v5 v6 (v7 + 1) h6
set_option maxRecDepth 100000 in
set_option maxHeartbeats 4000000 in
theorem f_Vo_pressTogether_L63_s (F : Nat) (k22 : Nat → Nat → Int32 → Int32 → Int32 → Int32 → Int32 → ck_H → Option (Int32 × ck_H)) (hk22 : ∀ (a0 : Nat) (a1 : Nat) (v3 : Int32) (v4 : Int32) (v5 : Int32) (v6 : Int32) (v7 : Int32) (h : ck_H) (r : Int32) (h' : ck_H), k22 a0 a1 v3 v4 v5 v6 v7 h = some (r, h') → Go k_Vo_pressTogether 22 [some (.ref a0), some (.ref a1), some .null, some (.int v3), some (.int v4), some (.int v5), some (.int v6), some (.int v7), none, none, none, none] [] h (some (.int r), h')) : ∀ (n : Nat) (a0 : Nat) (a1 : Nat) (v3 : Int32) (v4 : Int32) (v5 : Int32) (v6 : Int32) (v7 : Int32) (v9 : Int32) (h : ck_H) (r : Int32) (h' : ck_H), f_Vo_pressTogether_L63 F k22 n a0 a1 v3 v4 v5 v6 v7 v9 h = some (r, h') → Go k_Vo_pressTogether 63 [some (.ref a0), some (.ref a1), some .null, some (.int v3), some (.int v4), some (.int v5), some (.int v6), some (.int v7), none, some (.int v9), none, none] [] h (some (.int r), h') := by
  intro n
  induction n with
  | zero => intro a0 a1 v3 v4 v5 v6 v7 v9 h r h' e; simp only [f_Vo_pressTogether_L63] at e; cases e
  | succ n ih =>
    intro a0 a1 v3 v4 v5 v6 v7 v9 h r h' e
    rw [f_Vo_pressTogether_L63] at e
    refine go_iload rfl rfl ?_
    refine go_aload_n rfl rfl ?_
    replace e := ck_as_e e
    obtain ⟨hk_1, e⟩ := e
    replace e := ck_some_e e
    obtain ⟨b2, hq_3, e⟩ := e
    refine go_get (v := .ref b2) rfl rfl hk_1 (by decide) (by show va_rf (gR h a0 6) = _; rw [hq_3]; rfl) ?_
    replace e := ck_as_e e
    obtain ⟨hk_4, e⟩ := e
    replace e := ck_bd_e e
    obtain ⟨r5, h6, e7, e⟩ := e
    refine go_callV (As := []) (b0 := b2) (rest := [.int v9]) rfl rfl ⟨hk_4, by decide⟩ rfl ⟨Nat.le_of_ble_eq_true rfl, Nat.le_of_ble_eq_true rfl, Nat.le_of_ble_eq_true rfl, Nat.le_of_ble_eq_true rfl⟩ (s_Tr_records e7) ?_
    show Go k_Vo_pressTogether 72 [some (.ref a0), some (.ref a1), some .null, some (.int v3), some (.int v4), some (.int v5), some (.int v6), some (.int v7), none, some (.int v9), none, none] [.int r5, .int v9] h6 _
    refine go_icmp_ge (t := 174) rfl rfl (fun hx_8 => ?_) (fun hx_8 => ?_)
    · rw [if_pos hx_8] at e
      refine go_iload rfl rfl ?_
      refine go_if_le (t := 84) rfl rfl (fun hx_9 => ?_) (fun hx_9 => ?_)
      · rw [if_pos hx_9] at e
        refine go_iconst (v := (-1)) rfl (by decide) ?_
        refine go_goto (t := 94) rfl rfl ?_
        refine go_forget (l := [some (.ref a0), some (.ref a1), some .null, some (.int v3), some (.int v4), some (.int v5), some (.int v6), some (.int v7), none, some (.int v9), none, none]) ⟨Or.inl rfl, Or.inl rfl, Or.inl rfl, Or.inl rfl, Or.inl rfl, Or.inl rfl, Or.inl rfl, Or.inl rfl, Or.inl rfl, Or.inl rfl, Or.inl rfl, Or.inl rfl, trivial⟩ ?_
        exact f_Vo_pressTogether_J94_s F k22 (f_Vo_pressTogether_L63 F k22 n) hk22 ih a0 a1 v3 v4 v5 v6 v7 v9 (-1) _ _ _ e
      · rw [if_neg hx_9] at e
        refine go_aload_nN rfl rfl ?_
        refine go_iload rfl rfl ?_
        refine go_iload rfl rfl ?_
        refine go_iconst (v := 1) rfl (by decide) ?_
        refine go_iadd rfl ?_
        cases e
    · rw [if_neg hx_8] at e
      refine go_iinc (v := 1) rfl rfl (by decide) rfl ?_
      show Go k_Vo_pressTogether 177 [some (.ref a0), some (.ref a1), some .null, some (.int v3), some (.int v4), some (.int v5), some (.int v6), some (.int (v7 + 1)), none, some (.int v9), none, none] [] h6 _
      refine go_goto (t := 22) rfl rfl ?_
      refine go_forget (l := [some (.ref a0), some (.ref a1), some .null, some (.int v3), some (.int v4), some (.int v5), some (.int v6), some (.int (v7 + 1)), none, none, none, none]) ⟨Or.inl rfl, Or.inl rfl, Or.inl rfl, Or.inl rfl, Or.inl rfl, Or.inl rfl, Or.inl rfl, Or.inl rfl, Or.inl rfl, Or.inr ⟨rfl, fun _ q => by cases q; rfl⟩, Or.inl rfl, Or.inl rfl, trivial⟩ ?_
      exact hk22 _ _ _ _ _ _ _ _ _ _ e
def f_Vo_pressTogether_L22 (F : Nat)  : Nat → Nat → Nat → Int32 → Int32 → Int32 → Int32 → Int32 → ck_H → Option (Int32 × ck_H)
  | 0, _, _, _, _, _, _, _, _ => none
  | n + 1, a0, a1, v3, v4, v5, v6, v7, h =>
    if v7 < v6 then
      ck_as (gk h a1 = 2) <|
      ck_bd (f_DS_trackAt F a1 v7 h) fun r3 h4 =>
      ck_opt r3 (
        f_Vo_pressTogether_L22 F n a0 a1 v3 v4 v5 v6 (v7 + 1) h4
      ) fun b7 =>
      ck_as (gk h4 a0 = 10) <|
      ck_some (gR h4 a0 6) fun b9 =>
      ck_as (gk h4 b9 = 8) <|
      ck_bd (f_Tr_copyOf F b9 b7 h4) fun _ h13 =>
      ck_as (gk h13 b7 = 8) <|
      ck_bd (f_Tr_keepFirst F b7 0 h13) fun _ h17 =>
      f_Vo_pressTogether_L63 F (f_Vo_pressTogether_L22 F n) F a0 a1 v3 v4 v5 v6 v7 0 h17
    else
      ck_as (gk h a0 = 10) <|
      ck_bd (f_Vo_writeList F a0 a1 h) fun _ h22 =>
      some (v3, h22)
set_option maxRecDepth 100000 in
set_option maxHeartbeats 4000000 in
theorem f_Vo_pressTogether_L22_s (F : Nat)   : ∀ (n : Nat) (a0 : Nat) (a1 : Nat) (v3 : Int32) (v4 : Int32) (v5 : Int32) (v6 : Int32) (v7 : Int32) (h : ck_H) (r : Int32) (h' : ck_H), f_Vo_pressTogether_L22 F n a0 a1 v3 v4 v5 v6 v7 h = some (r, h') → Go k_Vo_pressTogether 22 [some (.ref a0), some (.ref a1), some .null, some (.int v3), some (.int v4), some (.int v5), some (.int v6), some (.int v7), none, none, none, none] [] h (some (.int r), h') := by
  intro n
  induction n with
  | zero => intro a0 a1 v3 v4 v5 v6 v7 h r h' e; simp only [f_Vo_pressTogether_L22] at e; cases e
  | succ n ih =>
    intro a0 a1 v3 v4 v5 v6 v7 h r h' e
    rw [f_Vo_pressTogether_L22] at e
    refine go_iload rfl rfl ?_
    refine go_iload rfl rfl ?_
    refine go_icmp_ge (t := 180) rfl rfl (fun hx_1 => ?_) (fun hx_1 => ?_)
    · rw [if_pos hx_1] at e
      refine go_aload_n rfl rfl ?_
      refine go_iload rfl rfl ?_
      replace e := ck_as_e e
      obtain ⟨hk_2, e⟩ := e
      replace e := ck_bd_e e
      obtain ⟨r3, h4, e5, e⟩ := e
      refine go_callV (As := [.int v7]) (b0 := a1) (rest := []) rfl rfl ⟨hk_2, by decide⟩ rfl ⟨Nat.le_of_ble_eq_true rfl, Nat.le_of_ble_eq_true rfl, Nat.le_of_ble_eq_true rfl, Nat.le_of_ble_eq_true rfl⟩ (s_DS_trackAt e5) ?_
      replace e := ck_opt_e e
      rcases e with ⟨hq_6, e⟩ | ⟨b7, hq_6, e⟩
      · subst hq_6
        show Go k_Vo_pressTogether 35 [some (.ref a0), some (.ref a1), some .null, some (.int v3), some (.int v4), some (.int v5), some (.int v6), some (.int v7), none, none, none, none] [.null] h4 _
        refine go_astoreN rfl rfl ?_
        show Go k_Vo_pressTogether 37 [some (.ref a0), some (.ref a1), some .null, some (.int v3), some (.int v4), some (.int v5), some (.int v6), some (.int v7), some .null, none, none, none] [] h4 _
        refine go_aloadN rfl rfl ?_
        refine go_ifnonnullN rfl ?_
        refine go_goto (t := 174) rfl rfl ?_
        refine go_iinc (v := 1) rfl rfl (by decide) rfl ?_
        show Go k_Vo_pressTogether 177 [some (.ref a0), some (.ref a1), some .null, some (.int v3), some (.int v4), some (.int v5), some (.int v6), some (.int (v7 + 1)), some .null, none, none, none] [] h4 _
        refine go_goto (t := 22) rfl rfl ?_
        refine go_forget (l := [some (.ref a0), some (.ref a1), some .null, some (.int v3), some (.int v4), some (.int v5), some (.int v6), some (.int (v7 + 1)), none, none, none, none]) ⟨Or.inl rfl, Or.inl rfl, Or.inl rfl, Or.inl rfl, Or.inl rfl, Or.inl rfl, Or.inl rfl, Or.inl rfl, Or.inr ⟨rfl, fun _ q => by cases q; rfl⟩, Or.inl rfl, Or.inl rfl, Or.inl rfl, trivial⟩ ?_
        exact ih _ _ _ _ _ _ _ _ _ _ e
      subst hq_6
      show Go k_Vo_pressTogether 35 [some (.ref a0), some (.ref a1), some .null, some (.int v3), some (.int v4), some (.int v5), some (.int v6), some (.int v7), none, none, none, none] [.ref b7] h4 _
      refine go_astore rfl rfl ?_
      show Go k_Vo_pressTogether 37 [some (.ref a0), some (.ref a1), some .null, some (.int v3), some (.int v4), some (.int v5), some (.int v6), some (.int v7), some (.ref b7), none, none, none] [] h4 _
      refine go_aload rfl rfl ?_
      refine go_ifnonnull (t := 45) rfl rfl ?_
      refine go_aload_n rfl rfl ?_
      replace e := ck_as_e e
      obtain ⟨hk_8, e⟩ := e
      replace e := ck_some_e e
      obtain ⟨b9, hq_10, e⟩ := e
      refine go_get (v := .ref b9) rfl rfl hk_8 (by decide) (by show va_rf (gR h4 a0 6) = _; rw [hq_10]; rfl) ?_
      refine go_aload rfl rfl ?_
      replace e := ck_as_e e
      obtain ⟨hk_11, e⟩ := e
      replace e := ck_bd_e e
      obtain ⟨r12, h13, e14, e⟩ := e
      refine go_callV (As := [.ref b7]) (b0 := b9) (rest := []) rfl rfl ⟨hk_11, by decide⟩ rfl ⟨Nat.le_of_ble_eq_true rfl, Nat.le_of_ble_eq_true rfl, Nat.le_of_ble_eq_true rfl, Nat.le_of_ble_eq_true rfl⟩ (s_Tr_copyOf e14) ?_
      show Go k_Vo_pressTogether 54 [some (.ref a0), some (.ref a1), some .null, some (.int v3), some (.int v4), some (.int v5), some (.int v6), some (.int v7), some (.ref b7), none, none, none] [] h13 _
      refine go_aload rfl rfl ?_
      refine go_iconst (v := 0) rfl (by decide) ?_
      replace e := ck_as_e e
      obtain ⟨hk_15, e⟩ := e
      replace e := ck_bd_e e
      obtain ⟨r16, h17, e18, e⟩ := e
      refine go_callV (As := [.int 0]) (b0 := b7) (rest := []) rfl rfl ⟨hk_15, by decide⟩ rfl ⟨Nat.le_of_ble_eq_true rfl, Nat.le_of_ble_eq_true rfl, Nat.le_of_ble_eq_true rfl, Nat.le_of_ble_eq_true rfl⟩ (s_Tr_keepFirst e18) ?_
      show Go k_Vo_pressTogether 60 [some (.ref a0), some (.ref a1), some .null, some (.int v3), some (.int v4), some (.int v5), some (.int v6), some (.int v7), some (.ref b7), none, none, none] [] h17 _
      refine go_iconst (v := 0) rfl (by decide) ?_
      refine go_istore rfl rfl ?_
      show Go k_Vo_pressTogether 63 [some (.ref a0), some (.ref a1), some .null, some (.int v3), some (.int v4), some (.int v5), some (.int v6), some (.int v7), some (.ref b7), some (.int 0), none, none] [] h17 _
      refine go_forget (l := [some (.ref a0), some (.ref a1), some .null, some (.int v3), some (.int v4), some (.int v5), some (.int v6), some (.int v7), none, some (.int 0), none, none]) ⟨Or.inl rfl, Or.inl rfl, Or.inl rfl, Or.inl rfl, Or.inl rfl, Or.inl rfl, Or.inl rfl, Or.inl rfl, Or.inr ⟨rfl, fun _ q => by cases q; rfl⟩, Or.inl rfl, Or.inl rfl, Or.inl rfl, trivial⟩ ?_
      exact f_Vo_pressTogether_L63_s F (f_Vo_pressTogether_L22 F n) ih F _ _ _ _ _ _ _ _ _ _ _ e
    · rw [if_neg hx_1] at e
      refine go_aload_n rfl rfl ?_
      refine go_aload_n rfl rfl ?_
      replace e := ck_as_e e
      obtain ⟨hk_20, e⟩ := e
      replace e := ck_bd_e e
      obtain ⟨r21, h22, e23, e⟩ := e
      refine go_callV (As := [.ref a1]) (b0 := a0) (rest := []) rfl rfl ⟨hk_20, by decide⟩ rfl ⟨Nat.le_of_ble_eq_true rfl, Nat.le_of_ble_eq_true rfl, Nat.le_of_ble_eq_true rfl, Nat.le_of_ble_eq_true rfl⟩ (s_Vo_writeList e23) ?_
      show Go k_Vo_pressTogether 185 [some (.ref a0), some (.ref a1), some .null, some (.int v3), some (.int v4), some (.int v5), some (.int v6), some (.int v7), none, none, none, none] [] h22 _
      refine go_iload_n rfl rfl ?_
      cases e
      exact go_ret rfl rfl
def f_Vo_pressTogether_J112_5 (F : Nat) (k22 : Nat → Nat → Nat → Int32 → Int32 → Int32 → Int32 → Int32 → ck_H → Option (Int32 × ck_H)) (k63 : Nat → Nat → Nat → Int32 → Int32 → Int32 → Int32 → Int32 → Int32 → ck_H → Option (Int32 × ck_H)) (a0 : Nat) (a1 : Nat) (a2 : Nat) (v3 : Int32) (v5 : Int32) (v6 : Int32) (v7 : Int32) (v9 : Int32) (v10 : Int32) (s0 : Int32) (h : ck_H) : Option (Int32 × ck_H) :=
  if (0 : Int32) < s0 then
    ck_as (gk h a0 = 10) <|
    ck_some (gR h a0 6) fun b3 =>
    ck_as (gk h b3 = 8) <|
    ck_bd (f_Tr_bytes F b3 v9 h) fun r6 h7 =>
    ck_as (gk h7 a1 = 2) <|
    ck_bd (f_DS_roomFrom F a1 v5 r6 h7) fun r10 h11 =>
    ck_bd (f_Ma_max F v5 r10 h11) fun r13 h14 =>
    ck_as (gk h14 a0 = 10) <|
    ck_bd (f_Vo_moveBlock F a0 a1 r13 v9 h14) fun r17 h18 =>
    ck_as (gk h18 a2 = 4) <|
    ck_bd (f_Mb_setBegin F a2 v10 r13 r17 h18) fun _ h22 =>
    k63 a0 a1 a2 (v3 + 1) (s0 + (-1)) r13 v6 v7 (v9 + 1) h22
  else
    k63 a0 a1 a2 v3 s0 v5 v6 v7 (v9 + 1) h
set_option maxRecDepth 100000 in
set_option maxHeartbeats 4000000 in
theorem f_Vo_pressTogether_J112_5_s (F : Nat) (k22 : Nat → Nat → Nat → Int32 → Int32 → Int32 → Int32 → Int32 → ck_H → Option (Int32 × ck_H)) (k63 : Nat → Nat → Nat → Int32 → Int32 → Int32 → Int32 → Int32 → Int32 → ck_H → Option (Int32 × ck_H)) (hk22 : ∀ (a0 : Nat) (a1 : Nat) (a2 : Nat) (v3 : Int32) (v4 : Int32) (v5 : Int32) (v6 : Int32) (v7 : Int32) (h : ck_H) (r : Int32) (h' : ck_H), k22 a0 a1 a2 v3 v4 v5 v6 v7 h = some (r, h') → Go k_Vo_pressTogether 22 [some (.ref a0), some (.ref a1), some (.ref a2), some (.int v3), some (.int v4), some (.int v5), some (.int v6), some (.int v7), none, none, none, none] [] h (some (.int r), h')) (hk63 : ∀ (a0 : Nat) (a1 : Nat) (a2 : Nat) (v3 : Int32) (v4 : Int32) (v5 : Int32) (v6 : Int32) (v7 : Int32) (v9 : Int32) (h : ck_H) (r : Int32) (h' : ck_H), k63 a0 a1 a2 v3 v4 v5 v6 v7 v9 h = some (r, h') → Go k_Vo_pressTogether 63 [some (.ref a0), some (.ref a1), some (.ref a2), some (.int v3), some (.int v4), some (.int v5), some (.int v6), some (.int v7), none, some (.int v9), none, none] [] h (some (.int r), h')) (a0 : Nat) (a1 : Nat) (a2 : Nat) (v3 : Int32) (v5 : Int32) (v6 : Int32) (v7 : Int32) (v9 : Int32) (v10 : Int32) (s0 : Int32) (h : ck_H) (r : Int32) (h' : ck_H) (e : f_Vo_pressTogether_J112_5 F k22 k63 a0 a1 a2 v3 v5 v6 v7 v9 v10 s0 h = some (r, h')) : Go k_Vo_pressTogether 112 [some (.ref a0), some (.ref a1), some (.ref a2), some (.int v3), none, some (.int v5), some (.int v6), some (.int v7), none, some (.int v9), some (.int v10), none] [.int s0] h (some (.int r), h') := by
  unfold f_Vo_pressTogether_J112_5 at e
  refine go_istore rfl rfl ?_
  show Go k_Vo_pressTogether 114 [some (.ref a0), some (.ref a1), some (.ref a2), some (.int v3), some (.int s0), some (.int v5), some (.int v6), some (.int v7), none, some (.int v9), some (.int v10), none] [] h _
  refine go_iload rfl rfl ?_
  refine go_if_le (t := 168) rfl rfl (fun hx_1 => ?_) (fun hx_1 => ?_)
  · rw [if_pos hx_1] at e
    refine go_iload rfl rfl ?_
    refine go_aload_n rfl rfl ?_
    refine go_iload rfl rfl ?_
    refine go_aload_n rfl rfl ?_
    replace e := ck_as_e e
    obtain ⟨hk_2, e⟩ := e
    replace e := ck_some_e e
    obtain ⟨b3, hq_4, e⟩ := e
    refine go_get (v := .ref b3) rfl rfl hk_2 (by decide) (by show va_rf (gR h a0 6) = _; rw [hq_4]; rfl) ?_
    refine go_iload rfl rfl ?_
    replace e := ck_as_e e
    obtain ⟨hk_5, e⟩ := e
    replace e := ck_bd_e e
    obtain ⟨r6, h7, e8, e⟩ := e
    refine go_callV (As := [.int v9]) (b0 := b3) (rest := [.int v5, .ref a1, .int v5]) rfl rfl ⟨hk_5, by decide⟩ rfl ⟨Nat.le_of_ble_eq_true rfl, Nat.le_of_ble_eq_true rfl, Nat.le_of_ble_eq_true rfl, Nat.le_of_ble_eq_true rfl⟩ (s_Tr_bytes e8) ?_
    show Go k_Vo_pressTogether 133 [some (.ref a0), some (.ref a1), some (.ref a2), some (.int v3), some (.int s0), some (.int v5), some (.int v6), some (.int v7), none, some (.int v9), some (.int v10), none] [.int r6, .int v5, .ref a1, .int v5] h7 _
    replace e := ck_as_e e
    obtain ⟨hk_9, e⟩ := e
    replace e := ck_bd_e e
    obtain ⟨r10, h11, e12, e⟩ := e
    refine go_callV (As := [.int v5, .int r6]) (b0 := a1) (rest := [.int v5]) rfl rfl ⟨hk_9, by decide⟩ rfl ⟨Nat.le_of_ble_eq_true rfl, Nat.le_of_ble_eq_true rfl, Nat.le_of_ble_eq_true rfl, Nat.le_of_ble_eq_true rfl⟩ (s_DS_roomFrom e12) ?_
    show Go k_Vo_pressTogether 136 [some (.ref a0), some (.ref a1), some (.ref a2), some (.int v3), some (.int s0), some (.int v5), some (.int v6), some (.int v7), none, some (.int v9), some (.int v10), none] [.int r10, .int v5] h11 _
    replace e := ck_bd_e e
    obtain ⟨r13, h14, e15, e⟩ := e
    refine go_callS (As := [.int v5, .int r10]) (rest := []) rfl rfl rfl ⟨Nat.le_of_ble_eq_true rfl, Nat.le_of_ble_eq_true rfl, Nat.le_of_ble_eq_true rfl, Nat.le_of_ble_eq_true rfl⟩ (s_Ma_max e15) ?_
    show Go k_Vo_pressTogether 139 [some (.ref a0), some (.ref a1), some (.ref a2), some (.int v3), some (.int s0), some (.int v5), some (.int v6), some (.int v7), none, some (.int v9), some (.int v10), none] [.int r13] h14 _
    refine go_istore rfl rfl ?_
    show Go k_Vo_pressTogether 141 [some (.ref a0), some (.ref a1), some (.ref a2), some (.int v3), some (.int s0), some (.int r13), some (.int v6), some (.int v7), none, some (.int v9), some (.int v10), none] [] h14 _
    refine go_aload_n rfl rfl ?_
    refine go_aload_n rfl rfl ?_
    refine go_iload rfl rfl ?_
    refine go_iload rfl rfl ?_
    replace e := ck_as_e e
    obtain ⟨hk_16, e⟩ := e
    replace e := ck_bd_e e
    obtain ⟨r17, h18, e19, e⟩ := e
    refine go_callV (As := [.ref a1, .int r13, .int v9]) (b0 := a0) (rest := []) rfl rfl ⟨hk_16, by decide⟩ rfl ⟨Nat.le_of_ble_eq_true rfl, Nat.le_of_ble_eq_true rfl, Nat.le_of_ble_eq_true rfl, Nat.le_of_ble_eq_true rfl⟩ (s_Vo_moveBlock e19) ?_
    show Go k_Vo_pressTogether 150 [some (.ref a0), some (.ref a1), some (.ref a2), some (.int v3), some (.int s0), some (.int r13), some (.int v6), some (.int v7), none, some (.int v9), some (.int v10), none] [.int r17] h18 _
    refine go_istore rfl rfl ?_
    show Go k_Vo_pressTogether 152 [some (.ref a0), some (.ref a1), some (.ref a2), some (.int v3), some (.int s0), some (.int r13), some (.int v6), some (.int v7), none, some (.int v9), some (.int v10), some (.int r17)] [] h18 _
    refine go_aload_n rfl rfl ?_
    refine go_iload rfl rfl ?_
    refine go_iload rfl rfl ?_
    refine go_iload rfl rfl ?_
    replace e := ck_as_e e
    obtain ⟨hk_20, e⟩ := e
    replace e := ck_bd_e e
    obtain ⟨r21, h22, e23, e⟩ := e
    refine go_callV (As := [.int v10, .int r13, .int r17]) (b0 := a2) (rest := []) rfl rfl ⟨hk_20, by decide⟩ rfl ⟨Nat.le_of_ble_eq_true rfl, Nat.le_of_ble_eq_true rfl, Nat.le_of_ble_eq_true rfl, Nat.le_of_ble_eq_true rfl⟩ (s_Mb_setBegin e23) ?_
    show Go k_Vo_pressTogether 162 [some (.ref a0), some (.ref a1), some (.ref a2), some (.int v3), some (.int s0), some (.int r13), some (.int v6), some (.int v7), none, some (.int v9), some (.int v10), some (.int r17)] [] h22 _
    refine go_iinc (v := (-1)) rfl rfl (by decide) rfl ?_
    show Go k_Vo_pressTogether 165 [some (.ref a0), some (.ref a1), some (.ref a2), some (.int v3), some (.int (s0 + (-1))), some (.int r13), some (.int v6), some (.int v7), none, some (.int v9), some (.int v10), some (.int r17)] [] h22 _
    refine go_iinc (v := 1) rfl rfl (by decide) rfl ?_
    show Go k_Vo_pressTogether 168 [some (.ref a0), some (.ref a1), some (.ref a2), some (.int (v3 + 1)), some (.int (s0 + (-1))), some (.int r13), some (.int v6), some (.int v7), none, some (.int v9), some (.int v10), some (.int r17)] [] h22 _
    refine go_iinc (v := 1) rfl rfl (by decide) rfl ?_
    show Go k_Vo_pressTogether 171 [some (.ref a0), some (.ref a1), some (.ref a2), some (.int (v3 + 1)), some (.int (s0 + (-1))), some (.int r13), some (.int v6), some (.int v7), none, some (.int (v9 + 1)), some (.int v10), some (.int r17)] [] h22 _
    refine go_goto (t := 63) rfl rfl ?_
    refine go_forget (l := [some (.ref a0), some (.ref a1), some (.ref a2), some (.int (v3 + 1)), some (.int (s0 + (-1))), some (.int r13), some (.int v6), some (.int v7), none, some (.int (v9 + 1)), none, none]) ⟨Or.inl rfl, Or.inl rfl, Or.inl rfl, Or.inl rfl, Or.inl rfl, Or.inl rfl, Or.inl rfl, Or.inl rfl, Or.inl rfl, Or.inl rfl, Or.inr ⟨rfl, fun _ q => by cases q; rfl⟩, Or.inr ⟨rfl, fun _ q => by cases q; rfl⟩, trivial⟩ ?_
    exact hk63 _ _ _ _ _ _ _ _ _ _ _ _ e
  · rw [if_neg hx_1] at e
    refine go_iinc (v := 1) rfl rfl (by decide) rfl ?_
    show Go k_Vo_pressTogether 171 [some (.ref a0), some (.ref a1), some (.ref a2), some (.int v3), some (.int s0), some (.int v5), some (.int v6), some (.int v7), none, some (.int (v9 + 1)), some (.int v10), none] [] h _
    refine go_goto (t := 63) rfl rfl ?_
    refine go_forget (l := [some (.ref a0), some (.ref a1), some (.ref a2), some (.int v3), some (.int s0), some (.int v5), some (.int v6), some (.int v7), none, some (.int (v9 + 1)), none, none]) ⟨Or.inl rfl, Or.inl rfl, Or.inl rfl, Or.inl rfl, Or.inl rfl, Or.inl rfl, Or.inl rfl, Or.inl rfl, Or.inl rfl, Or.inl rfl, Or.inr ⟨rfl, fun _ q => by cases q; rfl⟩, Or.inl rfl, trivial⟩ ?_
    exact hk63 _ _ _ _ _ _ _ _ _ _ _ _ e
def f_Vo_pressTogether_J94_4 (F : Nat) (k22 : Nat → Nat → Nat → Int32 → Int32 → Int32 → Int32 → Int32 → ck_H → Option (Int32 × ck_H)) (k63 : Nat → Nat → Nat → Int32 → Int32 → Int32 → Int32 → Int32 → Int32 → ck_H → Option (Int32 × ck_H)) (a0 : Nat) (a1 : Nat) (a2 : Nat) (v3 : Int32) (v4 : Int32) (v5 : Int32) (v6 : Int32) (v7 : Int32) (v9 : Int32) (s0 : Int32) (h : ck_H) : Option (Int32 × ck_H) :=
  if s0 < (0 : Int32) then
    f_Vo_pressTogether_J112_5 F k22 k63 a0 a1 a2 v3 v5 v6 v7 v9 s0 v4 h
  else
    ck_as (gk h a2 = 4) <|
    ck_bd (f_Mb_blocksOf F a2 s0 h) fun r25 h26 =>
    f_Vo_pressTogether_J112_5 F k22 k63 a0 a1 a2 v3 v5 v6 v7 v9 s0 r25 h26
set_option maxRecDepth 100000 in
set_option maxHeartbeats 4000000 in
theorem f_Vo_pressTogether_J94_4_s (F : Nat) (k22 : Nat → Nat → Nat → Int32 → Int32 → Int32 → Int32 → Int32 → ck_H → Option (Int32 × ck_H)) (k63 : Nat → Nat → Nat → Int32 → Int32 → Int32 → Int32 → Int32 → Int32 → ck_H → Option (Int32 × ck_H)) (hk22 : ∀ (a0 : Nat) (a1 : Nat) (a2 : Nat) (v3 : Int32) (v4 : Int32) (v5 : Int32) (v6 : Int32) (v7 : Int32) (h : ck_H) (r : Int32) (h' : ck_H), k22 a0 a1 a2 v3 v4 v5 v6 v7 h = some (r, h') → Go k_Vo_pressTogether 22 [some (.ref a0), some (.ref a1), some (.ref a2), some (.int v3), some (.int v4), some (.int v5), some (.int v6), some (.int v7), none, none, none, none] [] h (some (.int r), h')) (hk63 : ∀ (a0 : Nat) (a1 : Nat) (a2 : Nat) (v3 : Int32) (v4 : Int32) (v5 : Int32) (v6 : Int32) (v7 : Int32) (v9 : Int32) (h : ck_H) (r : Int32) (h' : ck_H), k63 a0 a1 a2 v3 v4 v5 v6 v7 v9 h = some (r, h') → Go k_Vo_pressTogether 63 [some (.ref a0), some (.ref a1), some (.ref a2), some (.int v3), some (.int v4), some (.int v5), some (.int v6), some (.int v7), none, some (.int v9), none, none] [] h (some (.int r), h')) (a0 : Nat) (a1 : Nat) (a2 : Nat) (v3 : Int32) (v4 : Int32) (v5 : Int32) (v6 : Int32) (v7 : Int32) (v9 : Int32) (s0 : Int32) (h : ck_H) (r : Int32) (h' : ck_H) (e : f_Vo_pressTogether_J94_4 F k22 k63 a0 a1 a2 v3 v4 v5 v6 v7 v9 s0 h = some (r, h')) : Go k_Vo_pressTogether 94 [some (.ref a0), some (.ref a1), some (.ref a2), some (.int v3), some (.int v4), some (.int v5), some (.int v6), some (.int v7), none, some (.int v9), none, none] [.int s0] h (some (.int r), h') := by
  unfold f_Vo_pressTogether_J94_4 at e
  refine go_istore rfl rfl ?_
  show Go k_Vo_pressTogether 96 [some (.ref a0), some (.ref a1), some (.ref a2), some (.int v3), some (.int v4), some (.int v5), some (.int v6), some (.int v7), none, some (.int v9), some (.int s0), none] [] h _
  refine go_iload rfl rfl ?_
  refine go_if_ge (t := 106) rfl rfl (fun hx_1 => ?_) (fun hx_1 => ?_)
  · rw [if_pos hx_1] at e
    refine go_iload rfl rfl ?_
    refine go_goto (t := 112) rfl rfl ?_
    refine go_forget (l := [some (.ref a0), some (.ref a1), some (.ref a2), some (.int v3), none, some (.int v5), some (.int v6), some (.int v7), none, some (.int v9), some (.int s0), none]) ⟨Or.inl rfl, Or.inl rfl, Or.inl rfl, Or.inl rfl, Or.inr ⟨rfl, fun _ q => by cases q; rfl⟩, Or.inl rfl, Or.inl rfl, Or.inl rfl, Or.inl rfl, Or.inl rfl, Or.inl rfl, Or.inl rfl, trivial⟩ ?_
    exact f_Vo_pressTogether_J112_5_s F k22 k63 hk22 hk63 a0 a1 a2 v3 v5 v6 v7 v9 s0 v4 _ _ _ e
  · rw [if_neg hx_1] at e
    refine go_aload_n rfl rfl ?_
    refine go_iload rfl rfl ?_
    replace e := ck_as_e e
    obtain ⟨hk_24, e⟩ := e
    replace e := ck_bd_e e
    obtain ⟨r25, h26, e27, e⟩ := e
    refine go_callV (As := [.int s0]) (b0 := a2) (rest := []) rfl rfl ⟨hk_24, by decide⟩ rfl ⟨Nat.le_of_ble_eq_true rfl, Nat.le_of_ble_eq_true rfl, Nat.le_of_ble_eq_true rfl, Nat.le_of_ble_eq_true rfl⟩ (s_Mb_blocksOf e27) ?_
    show Go k_Vo_pressTogether 112 [some (.ref a0), some (.ref a1), some (.ref a2), some (.int v3), some (.int v4), some (.int v5), some (.int v6), some (.int v7), none, some (.int v9), some (.int s0), none] [.int r25] h26 _
    refine go_forget (l := [some (.ref a0), some (.ref a1), some (.ref a2), some (.int v3), none, some (.int v5), some (.int v6), some (.int v7), none, some (.int v9), some (.int s0), none]) ⟨Or.inl rfl, Or.inl rfl, Or.inl rfl, Or.inl rfl, Or.inr ⟨rfl, fun _ q => by cases q; rfl⟩, Or.inl rfl, Or.inl rfl, Or.inl rfl, Or.inl rfl, Or.inl rfl, Or.inl rfl, Or.inl rfl, trivial⟩ ?_
    exact f_Vo_pressTogether_J112_5_s F k22 k63 hk22 hk63 a0 a1 a2 v3 v5 v6 v7 v9 s0 r25 _ _ _ e
def f_Vo_pressTogether_L63_4 (F : Nat) (k22 : Nat → Nat → Nat → Int32 → Int32 → Int32 → Int32 → Int32 → ck_H → Option (Int32 × ck_H)) : Nat → Nat → Nat → Nat → Int32 → Int32 → Int32 → Int32 → Int32 → Int32 → ck_H → Option (Int32 × ck_H)
  | 0, _, _, _, _, _, _, _, _, _, _ => none
  | n + 1, a0, a1, a2, v3, v4, v5, v6, v7, v9, h =>
    ck_as (gk h a0 = 10) <|
    ck_some (gR h a0 6) fun b2 =>
    ck_as (gk h b2 = 8) <|
    ck_bd (f_Tr_records F b2 h) fun r5 h6 =>
    if v9 < r5 then
      if (0 : Int32) < v4 then
        f_Vo_pressTogether_J94_4 F k22 (f_Vo_pressTogether_L63_4 F k22 n) a0 a1 a2 v3 v4 v5 v6 v7 v9 (-1) h6
      else
        ck_as (gk h6 a2 = 4) <|
        ck_bd (f_Mb_beginningAt F a2 v7 (v9 + 1) h6) fun r29 h30 =>
        f_Vo_pressTogether_J94_4 F k22 (f_Vo_pressTogether_L63_4 F k22 n) a0 a1 a2 v3 v4 v5 v6 v7 v9 r29 h30
    else
      k22 a0 a1 a2 v3 v4 v5 v6 (v7 + 1) h6
set_option maxRecDepth 100000 in
set_option maxHeartbeats 4000000 in
theorem f_Vo_pressTogether_L63_4_s (F : Nat) (k22 : Nat → Nat → Nat → Int32 → Int32 → Int32 → Int32 → Int32 → ck_H → Option (Int32 × ck_H)) (hk22 : ∀ (a0 : Nat) (a1 : Nat) (a2 : Nat) (v3 : Int32) (v4 : Int32) (v5 : Int32) (v6 : Int32) (v7 : Int32) (h : ck_H) (r : Int32) (h' : ck_H), k22 a0 a1 a2 v3 v4 v5 v6 v7 h = some (r, h') → Go k_Vo_pressTogether 22 [some (.ref a0), some (.ref a1), some (.ref a2), some (.int v3), some (.int v4), some (.int v5), some (.int v6), some (.int v7), none, none, none, none] [] h (some (.int r), h')) : ∀ (n : Nat) (a0 : Nat) (a1 : Nat) (a2 : Nat) (v3 : Int32) (v4 : Int32) (v5 : Int32) (v6 : Int32) (v7 : Int32) (v9 : Int32) (h : ck_H) (r : Int32) (h' : ck_H), f_Vo_pressTogether_L63_4 F k22 n a0 a1 a2 v3 v4 v5 v6 v7 v9 h = some (r, h') → Go k_Vo_pressTogether 63 [some (.ref a0), some (.ref a1), some (.ref a2), some (.int v3), some (.int v4), some (.int v5), some (.int v6), some (.int v7), none, some (.int v9), none, none] [] h (some (.int r), h') := by
  intro n
  induction n with
  | zero => intro a0 a1 a2 v3 v4 v5 v6 v7 v9 h r h' e; simp only [f_Vo_pressTogether_L63_4] at e; cases e
  | succ n ih =>
    intro a0 a1 a2 v3 v4 v5 v6 v7 v9 h r h' e
    rw [f_Vo_pressTogether_L63_4] at e
    refine go_iload rfl rfl ?_
    refine go_aload_n rfl rfl ?_
    replace e := ck_as_e e
    obtain ⟨hk_1, e⟩ := e
    replace e := ck_some_e e
    obtain ⟨b2, hq_3, e⟩ := e
    refine go_get (v := .ref b2) rfl rfl hk_1 (by decide) (by show va_rf (gR h a0 6) = _; rw [hq_3]; rfl) ?_
    replace e := ck_as_e e
    obtain ⟨hk_4, e⟩ := e
    replace e := ck_bd_e e
    obtain ⟨r5, h6, e7, e⟩ := e
    refine go_callV (As := []) (b0 := b2) (rest := [.int v9]) rfl rfl ⟨hk_4, by decide⟩ rfl ⟨Nat.le_of_ble_eq_true rfl, Nat.le_of_ble_eq_true rfl, Nat.le_of_ble_eq_true rfl, Nat.le_of_ble_eq_true rfl⟩ (s_Tr_records e7) ?_
    show Go k_Vo_pressTogether 72 [some (.ref a0), some (.ref a1), some (.ref a2), some (.int v3), some (.int v4), some (.int v5), some (.int v6), some (.int v7), none, some (.int v9), none, none] [.int r5, .int v9] h6 _
    refine go_icmp_ge (t := 174) rfl rfl (fun hx_8 => ?_) (fun hx_8 => ?_)
    · rw [if_pos hx_8] at e
      refine go_iload rfl rfl ?_
      refine go_if_le (t := 84) rfl rfl (fun hx_9 => ?_) (fun hx_9 => ?_)
      · rw [if_pos hx_9] at e
        refine go_iconst (v := (-1)) rfl (by decide) ?_
        refine go_goto (t := 94) rfl rfl ?_
        refine go_forget (l := [some (.ref a0), some (.ref a1), some (.ref a2), some (.int v3), some (.int v4), some (.int v5), some (.int v6), some (.int v7), none, some (.int v9), none, none]) ⟨Or.inl rfl, Or.inl rfl, Or.inl rfl, Or.inl rfl, Or.inl rfl, Or.inl rfl, Or.inl rfl, Or.inl rfl, Or.inl rfl, Or.inl rfl, Or.inl rfl, Or.inl rfl, trivial⟩ ?_
        exact f_Vo_pressTogether_J94_4_s F k22 (f_Vo_pressTogether_L63_4 F k22 n) hk22 ih a0 a1 a2 v3 v4 v5 v6 v7 v9 (-1) _ _ _ e
      · rw [if_neg hx_9] at e
        refine go_aload_n rfl rfl ?_
        refine go_iload rfl rfl ?_
        refine go_iload rfl rfl ?_
        refine go_iconst (v := 1) rfl (by decide) ?_
        refine go_iadd rfl ?_
        replace e := ck_as_e e
        obtain ⟨hk_28, e⟩ := e
        replace e := ck_bd_e e
        obtain ⟨r29, h30, e31, e⟩ := e
        refine go_callV (As := [.int v7, .int (v9 + 1)]) (b0 := a2) (rest := []) rfl rfl ⟨hk_28, by decide⟩ rfl ⟨Nat.le_of_ble_eq_true rfl, Nat.le_of_ble_eq_true rfl, Nat.le_of_ble_eq_true rfl, Nat.le_of_ble_eq_true rfl⟩ (s_Mb_beginningAt e31) ?_
        show Go k_Vo_pressTogether 94 [some (.ref a0), some (.ref a1), some (.ref a2), some (.int v3), some (.int v4), some (.int v5), some (.int v6), some (.int v7), none, some (.int v9), none, none] [.int r29] h30 _
        refine go_forget (l := [some (.ref a0), some (.ref a1), some (.ref a2), some (.int v3), some (.int v4), some (.int v5), some (.int v6), some (.int v7), none, some (.int v9), none, none]) ⟨Or.inl rfl, Or.inl rfl, Or.inl rfl, Or.inl rfl, Or.inl rfl, Or.inl rfl, Or.inl rfl, Or.inl rfl, Or.inl rfl, Or.inl rfl, Or.inl rfl, Or.inl rfl, trivial⟩ ?_
        exact f_Vo_pressTogether_J94_4_s F k22 (f_Vo_pressTogether_L63_4 F k22 n) hk22 ih a0 a1 a2 v3 v4 v5 v6 v7 v9 r29 _ _ _ e
    · rw [if_neg hx_8] at e
      refine go_iinc (v := 1) rfl rfl (by decide) rfl ?_
      show Go k_Vo_pressTogether 177 [some (.ref a0), some (.ref a1), some (.ref a2), some (.int v3), some (.int v4), some (.int v5), some (.int v6), some (.int (v7 + 1)), none, some (.int v9), none, none] [] h6 _
      refine go_goto (t := 22) rfl rfl ?_
      refine go_forget (l := [some (.ref a0), some (.ref a1), some (.ref a2), some (.int v3), some (.int v4), some (.int v5), some (.int v6), some (.int (v7 + 1)), none, none, none, none]) ⟨Or.inl rfl, Or.inl rfl, Or.inl rfl, Or.inl rfl, Or.inl rfl, Or.inl rfl, Or.inl rfl, Or.inl rfl, Or.inl rfl, Or.inr ⟨rfl, fun _ q => by cases q; rfl⟩, Or.inl rfl, Or.inl rfl, trivial⟩ ?_
      exact hk22 _ _ _ _ _ _ _ _ _ _ _ e
def f_Vo_pressTogether_L22_4 (F : Nat)  : Nat → Nat → Nat → Nat → Int32 → Int32 → Int32 → Int32 → Int32 → ck_H → Option (Int32 × ck_H)
  | 0, _, _, _, _, _, _, _, _, _ => none
  | n + 1, a0, a1, a2, v3, v4, v5, v6, v7, h =>
    if v7 < v6 then
      ck_as (gk h a1 = 2) <|
      ck_bd (f_DS_trackAt F a1 v7 h) fun r3 h4 =>
      ck_opt r3 (
        f_Vo_pressTogether_L22_4 F n a0 a1 a2 v3 v4 v5 v6 (v7 + 1) h4
      ) fun b7 =>
      ck_as (gk h4 a0 = 10) <|
      ck_some (gR h4 a0 6) fun b9 =>
      ck_as (gk h4 b9 = 8) <|
      ck_bd (f_Tr_copyOf F b9 b7 h4) fun _ h13 =>
      ck_as (gk h13 b7 = 8) <|
      ck_bd (f_Tr_keepFirst F b7 0 h13) fun _ h17 =>
      f_Vo_pressTogether_L63_4 F (f_Vo_pressTogether_L22_4 F n) F a0 a1 a2 v3 v4 v5 v6 v7 0 h17
    else
      ck_as (gk h a0 = 10) <|
      ck_bd (f_Vo_writeList F a0 a1 h) fun _ h34 =>
      some (v3, h34)
set_option maxRecDepth 100000 in
set_option maxHeartbeats 4000000 in
theorem f_Vo_pressTogether_L22_4_s (F : Nat)   : ∀ (n : Nat) (a0 : Nat) (a1 : Nat) (a2 : Nat) (v3 : Int32) (v4 : Int32) (v5 : Int32) (v6 : Int32) (v7 : Int32) (h : ck_H) (r : Int32) (h' : ck_H), f_Vo_pressTogether_L22_4 F n a0 a1 a2 v3 v4 v5 v6 v7 h = some (r, h') → Go k_Vo_pressTogether 22 [some (.ref a0), some (.ref a1), some (.ref a2), some (.int v3), some (.int v4), some (.int v5), some (.int v6), some (.int v7), none, none, none, none] [] h (some (.int r), h') := by
  intro n
  induction n with
  | zero => intro a0 a1 a2 v3 v4 v5 v6 v7 h r h' e; simp only [f_Vo_pressTogether_L22_4] at e; cases e
  | succ n ih =>
    intro a0 a1 a2 v3 v4 v5 v6 v7 h r h' e
    rw [f_Vo_pressTogether_L22_4] at e
    refine go_iload rfl rfl ?_
    refine go_iload rfl rfl ?_
    refine go_icmp_ge (t := 180) rfl rfl (fun hx_1 => ?_) (fun hx_1 => ?_)
    · rw [if_pos hx_1] at e
      refine go_aload_n rfl rfl ?_
      refine go_iload rfl rfl ?_
      replace e := ck_as_e e
      obtain ⟨hk_2, e⟩ := e
      replace e := ck_bd_e e
      obtain ⟨r3, h4, e5, e⟩ := e
      refine go_callV (As := [.int v7]) (b0 := a1) (rest := []) rfl rfl ⟨hk_2, by decide⟩ rfl ⟨Nat.le_of_ble_eq_true rfl, Nat.le_of_ble_eq_true rfl, Nat.le_of_ble_eq_true rfl, Nat.le_of_ble_eq_true rfl⟩ (s_DS_trackAt e5) ?_
      replace e := ck_opt_e e
      rcases e with ⟨hq_6, e⟩ | ⟨b7, hq_6, e⟩
      · subst hq_6
        show Go k_Vo_pressTogether 35 [some (.ref a0), some (.ref a1), some (.ref a2), some (.int v3), some (.int v4), some (.int v5), some (.int v6), some (.int v7), none, none, none, none] [.null] h4 _
        refine go_astoreN rfl rfl ?_
        show Go k_Vo_pressTogether 37 [some (.ref a0), some (.ref a1), some (.ref a2), some (.int v3), some (.int v4), some (.int v5), some (.int v6), some (.int v7), some .null, none, none, none] [] h4 _
        refine go_aloadN rfl rfl ?_
        refine go_ifnonnullN rfl ?_
        refine go_goto (t := 174) rfl rfl ?_
        refine go_iinc (v := 1) rfl rfl (by decide) rfl ?_
        show Go k_Vo_pressTogether 177 [some (.ref a0), some (.ref a1), some (.ref a2), some (.int v3), some (.int v4), some (.int v5), some (.int v6), some (.int (v7 + 1)), some .null, none, none, none] [] h4 _
        refine go_goto (t := 22) rfl rfl ?_
        refine go_forget (l := [some (.ref a0), some (.ref a1), some (.ref a2), some (.int v3), some (.int v4), some (.int v5), some (.int v6), some (.int (v7 + 1)), none, none, none, none]) ⟨Or.inl rfl, Or.inl rfl, Or.inl rfl, Or.inl rfl, Or.inl rfl, Or.inl rfl, Or.inl rfl, Or.inl rfl, Or.inr ⟨rfl, fun _ q => by cases q; rfl⟩, Or.inl rfl, Or.inl rfl, Or.inl rfl, trivial⟩ ?_
        exact ih _ _ _ _ _ _ _ _ _ _ _ e
      subst hq_6
      show Go k_Vo_pressTogether 35 [some (.ref a0), some (.ref a1), some (.ref a2), some (.int v3), some (.int v4), some (.int v5), some (.int v6), some (.int v7), none, none, none, none] [.ref b7] h4 _
      refine go_astore rfl rfl ?_
      show Go k_Vo_pressTogether 37 [some (.ref a0), some (.ref a1), some (.ref a2), some (.int v3), some (.int v4), some (.int v5), some (.int v6), some (.int v7), some (.ref b7), none, none, none] [] h4 _
      refine go_aload rfl rfl ?_
      refine go_ifnonnull (t := 45) rfl rfl ?_
      refine go_aload_n rfl rfl ?_
      replace e := ck_as_e e
      obtain ⟨hk_8, e⟩ := e
      replace e := ck_some_e e
      obtain ⟨b9, hq_10, e⟩ := e
      refine go_get (v := .ref b9) rfl rfl hk_8 (by decide) (by show va_rf (gR h4 a0 6) = _; rw [hq_10]; rfl) ?_
      refine go_aload rfl rfl ?_
      replace e := ck_as_e e
      obtain ⟨hk_11, e⟩ := e
      replace e := ck_bd_e e
      obtain ⟨r12, h13, e14, e⟩ := e
      refine go_callV (As := [.ref b7]) (b0 := b9) (rest := []) rfl rfl ⟨hk_11, by decide⟩ rfl ⟨Nat.le_of_ble_eq_true rfl, Nat.le_of_ble_eq_true rfl, Nat.le_of_ble_eq_true rfl, Nat.le_of_ble_eq_true rfl⟩ (s_Tr_copyOf e14) ?_
      show Go k_Vo_pressTogether 54 [some (.ref a0), some (.ref a1), some (.ref a2), some (.int v3), some (.int v4), some (.int v5), some (.int v6), some (.int v7), some (.ref b7), none, none, none] [] h13 _
      refine go_aload rfl rfl ?_
      refine go_iconst (v := 0) rfl (by decide) ?_
      replace e := ck_as_e e
      obtain ⟨hk_15, e⟩ := e
      replace e := ck_bd_e e
      obtain ⟨r16, h17, e18, e⟩ := e
      refine go_callV (As := [.int 0]) (b0 := b7) (rest := []) rfl rfl ⟨hk_15, by decide⟩ rfl ⟨Nat.le_of_ble_eq_true rfl, Nat.le_of_ble_eq_true rfl, Nat.le_of_ble_eq_true rfl, Nat.le_of_ble_eq_true rfl⟩ (s_Tr_keepFirst e18) ?_
      show Go k_Vo_pressTogether 60 [some (.ref a0), some (.ref a1), some (.ref a2), some (.int v3), some (.int v4), some (.int v5), some (.int v6), some (.int v7), some (.ref b7), none, none, none] [] h17 _
      refine go_iconst (v := 0) rfl (by decide) ?_
      refine go_istore rfl rfl ?_
      show Go k_Vo_pressTogether 63 [some (.ref a0), some (.ref a1), some (.ref a2), some (.int v3), some (.int v4), some (.int v5), some (.int v6), some (.int v7), some (.ref b7), some (.int 0), none, none] [] h17 _
      refine go_forget (l := [some (.ref a0), some (.ref a1), some (.ref a2), some (.int v3), some (.int v4), some (.int v5), some (.int v6), some (.int v7), none, some (.int 0), none, none]) ⟨Or.inl rfl, Or.inl rfl, Or.inl rfl, Or.inl rfl, Or.inl rfl, Or.inl rfl, Or.inl rfl, Or.inl rfl, Or.inr ⟨rfl, fun _ q => by cases q; rfl⟩, Or.inl rfl, Or.inl rfl, Or.inl rfl, trivial⟩ ?_
      exact f_Vo_pressTogether_L63_4_s F (f_Vo_pressTogether_L22_4 F n) ih F _ _ _ _ _ _ _ _ _ _ _ _ e
    · rw [if_neg hx_1] at e
      refine go_aload_n rfl rfl ?_
      refine go_aload_n rfl rfl ?_
      replace e := ck_as_e e
      obtain ⟨hk_32, e⟩ := e
      replace e := ck_bd_e e
      obtain ⟨r33, h34, e35, e⟩ := e
      refine go_callV (As := [.ref a1]) (b0 := a0) (rest := []) rfl rfl ⟨hk_32, by decide⟩ rfl ⟨Nat.le_of_ble_eq_true rfl, Nat.le_of_ble_eq_true rfl, Nat.le_of_ble_eq_true rfl, Nat.le_of_ble_eq_true rfl⟩ (s_Vo_writeList e35) ?_
      show Go k_Vo_pressTogether 185 [some (.ref a0), some (.ref a1), some (.ref a2), some (.int v3), some (.int v4), some (.int v5), some (.int v6), some (.int v7), none, none, none, none] [] h34 _
      refine go_iload_n rfl rfl ?_
      cases e
      exact go_ret rfl rfl
def f_Vo_pressTogether (F : Nat) (a0 : Nat) (a1 : Nat) (h : ck_H) : Option (Int32 × ck_H) :=
  ck_as (gk h a1 = 2) <|
  ck_opt (gR h a1 4) (
    ck_bd (f_DS_tracks F a1 h) fun r4 h5 =>
    f_Vo_pressTogether_L22 F F a0 a1 0 0 1 r4 1 h5
  ) fun b3 =>
  ck_bd (f_DS_tracks F a1 h) fun r24 h25 =>
  f_Vo_pressTogether_L22_4 F F a0 a1 b3 0 0 1 r24 1 h25
set_option maxRecDepth 100000 in
set_option maxHeartbeats 4000000 in
theorem s_Vo_pressTogether {F : Nat} {a0 : Nat} {a1 : Nat} {h h' : ck_H} {r : Int32} (e : f_Vo_pressTogether F a0 a1 h = some (r, h')) : Go k_Vo_pressTogether 0 (ck_in [.ref a0, .ref a1] 12) [] h (some (.int r), h') := by
  unfold f_Vo_pressTogether at e
  show Go k_Vo_pressTogether 0 [some (.ref a0), some (.ref a1), none, none, none, none, none, none, none, none, none, none] [] h _
  refine go_aload_n rfl rfl ?_
  replace e := ck_as_e e
  obtain ⟨hk_1, e⟩ := e
  replace e := ck_opt_e e
  rcases e with ⟨hq_2, e⟩ | ⟨b3, hq_2, e⟩
  · refine go_get (v := .null) rfl rfl hk_1 (by decide) (by show va_rf (gR h a1 4) = _; rw [hq_2]; rfl) ?_
    refine go_astore_nN rfl rfl ?_
    show Go k_Vo_pressTogether 5 [some (.ref a0), some (.ref a1), some .null, none, none, none, none, none, none, none, none, none] [] h _
    refine go_iconst (v := 0) rfl (by decide) ?_
    refine go_istore_n rfl rfl ?_
    show Go k_Vo_pressTogether 7 [some (.ref a0), some (.ref a1), some .null, some (.int 0), none, none, none, none, none, none, none, none] [] h _
    refine go_iconst (v := 0) rfl (by decide) ?_
    refine go_istore rfl rfl ?_
    show Go k_Vo_pressTogether 10 [some (.ref a0), some (.ref a1), some .null, some (.int 0), some (.int 0), none, none, none, none, none, none, none] [] h _
    refine go_iconst (v := 1) rfl (by decide) ?_
    refine go_istore rfl rfl ?_
    show Go k_Vo_pressTogether 13 [some (.ref a0), some (.ref a1), some .null, some (.int 0), some (.int 0), some (.int 1), none, none, none, none, none, none] [] h _
    refine go_aload_n rfl rfl ?_
    replace e := ck_bd_e e
    obtain ⟨r4, h5, e6, e⟩ := e
    refine go_callV (As := []) (b0 := a1) (rest := []) rfl rfl ⟨hk_1, by decide⟩ rfl ⟨Nat.le_of_ble_eq_true rfl, Nat.le_of_ble_eq_true rfl, Nat.le_of_ble_eq_true rfl, Nat.le_of_ble_eq_true rfl⟩ (s_DS_tracks e6) ?_
    show Go k_Vo_pressTogether 17 [some (.ref a0), some (.ref a1), some .null, some (.int 0), some (.int 0), some (.int 1), none, none, none, none, none, none] [.int r4] h5 _
    refine go_istore rfl rfl ?_
    show Go k_Vo_pressTogether 19 [some (.ref a0), some (.ref a1), some .null, some (.int 0), some (.int 0), some (.int 1), some (.int r4), none, none, none, none, none] [] h5 _
    refine go_iconst (v := 1) rfl (by decide) ?_
    refine go_istore rfl rfl ?_
    show Go k_Vo_pressTogether 22 [some (.ref a0), some (.ref a1), some .null, some (.int 0), some (.int 0), some (.int 1), some (.int r4), some (.int 1), none, none, none, none] [] h5 _
    refine go_forget (l := [some (.ref a0), some (.ref a1), some .null, some (.int 0), some (.int 0), some (.int 1), some (.int r4), some (.int 1), none, none, none, none]) ⟨Or.inl rfl, Or.inl rfl, Or.inl rfl, Or.inl rfl, Or.inl rfl, Or.inl rfl, Or.inl rfl, Or.inl rfl, Or.inl rfl, Or.inl rfl, Or.inl rfl, Or.inl rfl, trivial⟩ ?_
    exact f_Vo_pressTogether_L22_s F F _ _ _ _ _ _ _ _ _ _ e
  refine go_get (v := .ref b3) rfl rfl hk_1 (by decide) (by show va_rf (gR h a1 4) = _; rw [hq_2]; rfl) ?_
  refine go_astore_n rfl rfl ?_
  show Go k_Vo_pressTogether 5 [some (.ref a0), some (.ref a1), some (.ref b3), none, none, none, none, none, none, none, none, none] [] h _
  refine go_iconst (v := 0) rfl (by decide) ?_
  refine go_istore_n rfl rfl ?_
  show Go k_Vo_pressTogether 7 [some (.ref a0), some (.ref a1), some (.ref b3), some (.int 0), none, none, none, none, none, none, none, none] [] h _
  refine go_iconst (v := 0) rfl (by decide) ?_
  refine go_istore rfl rfl ?_
  show Go k_Vo_pressTogether 10 [some (.ref a0), some (.ref a1), some (.ref b3), some (.int 0), some (.int 0), none, none, none, none, none, none, none] [] h _
  refine go_iconst (v := 1) rfl (by decide) ?_
  refine go_istore rfl rfl ?_
  show Go k_Vo_pressTogether 13 [some (.ref a0), some (.ref a1), some (.ref b3), some (.int 0), some (.int 0), some (.int 1), none, none, none, none, none, none] [] h _
  refine go_aload_n rfl rfl ?_
  replace e := ck_bd_e e
  obtain ⟨r24, h25, e26, e⟩ := e
  refine go_callV (As := []) (b0 := a1) (rest := []) rfl rfl ⟨hk_1, by decide⟩ rfl ⟨Nat.le_of_ble_eq_true rfl, Nat.le_of_ble_eq_true rfl, Nat.le_of_ble_eq_true rfl, Nat.le_of_ble_eq_true rfl⟩ (s_DS_tracks e26) ?_
  show Go k_Vo_pressTogether 17 [some (.ref a0), some (.ref a1), some (.ref b3), some (.int 0), some (.int 0), some (.int 1), none, none, none, none, none, none] [.int r24] h25 _
  refine go_istore rfl rfl ?_
  show Go k_Vo_pressTogether 19 [some (.ref a0), some (.ref a1), some (.ref b3), some (.int 0), some (.int 0), some (.int 1), some (.int r24), none, none, none, none, none] [] h25 _
  refine go_iconst (v := 1) rfl (by decide) ?_
  refine go_istore rfl rfl ?_
  show Go k_Vo_pressTogether 22 [some (.ref a0), some (.ref a1), some (.ref b3), some (.int 0), some (.int 0), some (.int 1), some (.int r24), some (.int 1), none, none, none, none] [] h25 _
  refine go_forget (l := [some (.ref a0), some (.ref a1), some (.ref b3), some (.int 0), some (.int 0), some (.int 1), some (.int r24), some (.int 1), none, none, none, none]) ⟨Or.inl rfl, Or.inl rfl, Or.inl rfl, Or.inl rfl, Or.inl rfl, Or.inl rfl, Or.inl rfl, Or.inl rfl, Or.inl rfl, Or.inl rfl, Or.inl rfl, Or.inl rfl, trivial⟩ ?_
  exact f_Vo_pressTogether_L22_4_s F F _ _ _ _ _ _ _ _ _ _ _ e
def f_CS_press (F : Nat) (a0 : Nat) (v1 : Int32) (h : ck_H) : Option (Int32 × ck_H) :=
  ck_as (gk h a0 = 11) <|
  ck_bd (f_CS_libraryAt F a0 v1 h) fun r2 h3 =>
  ck_opt r2 (
    some ((-1), h3)
  ) fun b6 =>
  ck_as (gk h3 a0 = 11) <|
  ck_bd (f_CS_openCount F a0 v1 h3) fun r8 h9 =>
  if (0 : Int32) < r8 then
    some ((-8), h9)
  else
    ck_as (gk h9 a0 = 11) <|
    ck_some (gR h9 a0 6) fun b13 =>
    ck_as (gk h9 b13 = 10) <|
    ck_bd (f_Vo_pressTogether F b13 b6 h9) fun r16 h17 =>
    some (r16, h17)
set_option maxRecDepth 100000 in
set_option maxHeartbeats 4000000 in
theorem s_CS_press {F : Nat} {a0 : Nat} {v1 : Int32} {h h' : ck_H} {r : Int32} (e : f_CS_press F a0 v1 h = some (r, h')) : Go k_CS_press 0 (ck_in [.ref a0, .int v1] 3) [] h (some (.int r), h') := by
  unfold f_CS_press at e
  show Go k_CS_press 0 [some (.ref a0), some (.int v1), none] [] h _
  refine go_aload_n rfl rfl ?_
  refine go_iload_n rfl rfl ?_
  replace e := ck_as_e e
  obtain ⟨hk_1, e⟩ := e
  replace e := ck_bd_e e
  obtain ⟨r2, h3, e4, e⟩ := e
  refine go_callV (As := [.int v1]) (b0 := a0) (rest := []) rfl rfl ⟨hk_1, by decide⟩ rfl ⟨Nat.le_of_ble_eq_true rfl, Nat.le_of_ble_eq_true rfl, Nat.le_of_ble_eq_true rfl, Nat.le_of_ble_eq_true rfl⟩ (s_CS_libraryAt e4) ?_
  replace e := ck_opt_e e
  rcases e with ⟨hq_5, e⟩ | ⟨b6, hq_5, e⟩
  · subst hq_5
    show Go k_CS_press 5 [some (.ref a0), some (.int v1), none] [.null] h3 _
    refine go_astore_nN rfl rfl ?_
    show Go k_CS_press 6 [some (.ref a0), some (.int v1), some .null] [] h3 _
    refine go_aload_nN rfl rfl ?_
    refine go_ifnonnullN rfl ?_
    refine go_iconst (v := (-1)) rfl (by decide) ?_
    cases e
    exact go_ret rfl rfl
  subst hq_5
  show Go k_CS_press 5 [some (.ref a0), some (.int v1), none] [.ref b6] h3 _
  refine go_astore_n rfl rfl ?_
  show Go k_CS_press 6 [some (.ref a0), some (.int v1), some (.ref b6)] [] h3 _
  refine go_aload_n rfl rfl ?_
  refine go_ifnonnull (t := 12) rfl rfl ?_
  refine go_aload_n rfl rfl ?_
  refine go_iload_n rfl rfl ?_
  replace e := ck_as_e e
  obtain ⟨hk_7, e⟩ := e
  replace e := ck_bd_e e
  obtain ⟨r8, h9, e10, e⟩ := e
  refine go_callV (As := [.int v1]) (b0 := a0) (rest := []) rfl rfl ⟨hk_7, by decide⟩ rfl ⟨Nat.le_of_ble_eq_true rfl, Nat.le_of_ble_eq_true rfl, Nat.le_of_ble_eq_true rfl, Nat.le_of_ble_eq_true rfl⟩ (s_CS_openCount e10) ?_
  show Go k_CS_press 17 [some (.ref a0), some (.int v1), some (.ref b6)] [.int r8] h9 _
  refine go_if_le (t := 23) rfl rfl (fun hx_11 => ?_) (fun hx_11 => ?_)
  · rw [if_pos hx_11] at e
    refine go_bipush (v := (-8)) rfl (by decide) ?_
    cases e
    exact go_ret rfl rfl
  · rw [if_neg hx_11] at e
    refine go_aload_n rfl rfl ?_
    replace e := ck_as_e e
    obtain ⟨hk_12, e⟩ := e
    replace e := ck_some_e e
    obtain ⟨b13, hq_14, e⟩ := e
    refine go_get (v := .ref b13) rfl rfl hk_12 (by decide) (by show va_rf (gR h9 a0 6) = _; rw [hq_14]; rfl) ?_
    refine go_aload_n rfl rfl ?_
    replace e := ck_as_e e
    obtain ⟨hk_15, e⟩ := e
    replace e := ck_bd_e e
    obtain ⟨r16, h17, e18, e⟩ := e
    refine go_callV (As := [.ref b6]) (b0 := b13) (rest := []) rfl rfl ⟨hk_15, by decide⟩ rfl ⟨Nat.le_of_ble_eq_true rfl, Nat.le_of_ble_eq_true rfl, Nat.le_of_ble_eq_true rfl, Nat.le_of_ble_eq_true rfl⟩ (s_Vo_pressTogether e18) ?_
    show Go k_CS_press 31 [some (.ref a0), some (.int v1), some (.ref b6)] [.int r16] h17 _
    cases e
    exact go_ret rfl rfl
def f_CS_opened (F : Nat) (a0 : Nat) (v1 : Int32) (v2 : Int32) (h : ck_H) : Option (Int32 × ck_H) :=
  ck_as (gk h a0 = 11) <|
  ck_bd (f_CS_openingAt F a0 v1 h) fun r2 h3 =>
  ck_opt r2 (
    some ((-1), h3)
  ) fun b6 =>
  if v2 = 0 then
    ck_as (gk h3 b6 = 5) <|
    some (gI h3 b6 7, h3)
  else
  if v2 = 1 then
    ck_as (gk h3 b6 = 5) <|
    some (gI h3 b6 8, h3)
  else
  if v2 = 2 then
    ck_as (gk h3 b6 = 5) <|
    some (gI h3 b6 9, h3)
  else
  if v2 = 3 then
    ck_as (gk h3 b6 = 5) <|
    ck_some (gR h3 b6 0) fun b15 =>
    ck_as (gk h3 b15 = 3) <|
    ck_some (gR h3 b15 0) fun b18 =>
    ck_as (gk h3 b18 = 6) <|
    some (gI h3 b18 1, h3)
  else
    some ((-1), h3)
set_option maxRecDepth 100000 in
set_option maxHeartbeats 4000000 in
theorem s_CS_opened {F : Nat} {a0 : Nat} {v1 : Int32} {v2 : Int32} {h h' : ck_H} {r : Int32} (e : f_CS_opened F a0 v1 v2 h = some (r, h')) : Go k_CS_opened 0 (ck_in [.ref a0, .int v1, .int v2] 4) [] h (some (.int r), h') := by
  unfold f_CS_opened at e
  show Go k_CS_opened 0 [some (.ref a0), some (.int v1), some (.int v2), none] [] h _
  refine go_aload_n rfl rfl ?_
  refine go_iload_n rfl rfl ?_
  replace e := ck_as_e e
  obtain ⟨hk_1, e⟩ := e
  replace e := ck_bd_e e
  obtain ⟨r2, h3, e4, e⟩ := e
  refine go_callV (As := [.int v1]) (b0 := a0) (rest := []) rfl rfl ⟨hk_1, by decide⟩ rfl ⟨Nat.le_of_ble_eq_true rfl, Nat.le_of_ble_eq_true rfl, Nat.le_of_ble_eq_true rfl, Nat.le_of_ble_eq_true rfl⟩ (s_CS_openingAt e4) ?_
  replace e := ck_opt_e e
  rcases e with ⟨hq_5, e⟩ | ⟨b6, hq_5, e⟩
  · subst hq_5
    show Go k_CS_opened 5 [some (.ref a0), some (.int v1), some (.int v2), none] [.null] h3 _
    refine go_astore_nN rfl rfl ?_
    show Go k_CS_opened 6 [some (.ref a0), some (.int v1), some (.int v2), some .null] [] h3 _
    refine go_aload_nN rfl rfl ?_
    refine go_ifnonnullN rfl ?_
    refine go_iconst (v := (-1)) rfl (by decide) ?_
    cases e
    exact go_ret rfl rfl
  subst hq_5
  show Go k_CS_opened 5 [some (.ref a0), some (.int v1), some (.int v2), none] [.ref b6] h3 _
  refine go_astore_n rfl rfl ?_
  show Go k_CS_opened 6 [some (.ref a0), some (.int v1), some (.int v2), some (.ref b6)] [] h3 _
  refine go_aload_n rfl rfl ?_
  refine go_ifnonnull (t := 12) rfl rfl ?_
  refine go_iload_n rfl rfl ?_
  by_cases hx_7 : v2 = 0
  · rw [if_pos hx_7] at e
    refine go_tswI (off := 31) (t := 44) rfl (by rw [hx_7]; decide) (by rw [hx_7]; rfl) rfl ?_
    refine go_aload_n rfl rfl ?_
    replace e := ck_as_e e
    obtain ⟨hk_8, e⟩ := e
    refine go_get (v := .int (gI h3 b6 7)) rfl rfl hk_8 (by decide) rfl ?_
    cases e
    exact go_ret rfl rfl
  rw [if_neg hx_7] at e
  by_cases hx_9 : v2 = 1
  · rw [if_pos hx_9] at e
    refine go_tswI (off := 36) (t := 49) rfl (by rw [hx_9]; decide) (by rw [hx_9]; rfl) rfl ?_
    refine go_aload_n rfl rfl ?_
    replace e := ck_as_e e
    obtain ⟨hk_10, e⟩ := e
    refine go_get (v := .int (gI h3 b6 8)) rfl rfl hk_10 (by decide) rfl ?_
    cases e
    exact go_ret rfl rfl
  rw [if_neg hx_9] at e
  by_cases hx_11 : v2 = 2
  · rw [if_pos hx_11] at e
    refine go_tswI (off := 41) (t := 54) rfl (by rw [hx_11]; decide) (by rw [hx_11]; rfl) rfl ?_
    refine go_aload_n rfl rfl ?_
    replace e := ck_as_e e
    obtain ⟨hk_12, e⟩ := e
    refine go_get (v := .int (gI h3 b6 9)) rfl rfl hk_12 (by decide) rfl ?_
    cases e
    exact go_ret rfl rfl
  rw [if_neg hx_11] at e
  by_cases hx_13 : v2 = 3
  · rw [if_pos hx_13] at e
    refine go_tswI (off := 46) (t := 59) rfl (by rw [hx_13]; decide) (by rw [hx_13]; rfl) rfl ?_
    refine go_aload_n rfl rfl ?_
    replace e := ck_as_e e
    obtain ⟨hk_14, e⟩ := e
    replace e := ck_some_e e
    obtain ⟨b15, hq_16, e⟩ := e
    refine go_get (v := .ref b15) rfl rfl hk_14 (by decide) (by show va_rf (gR h3 b6 0) = _; rw [hq_16]; rfl) ?_
    replace e := ck_as_e e
    obtain ⟨hk_17, e⟩ := e
    replace e := ck_some_e e
    obtain ⟨b18, hq_19, e⟩ := e
    refine go_get (v := .ref b18) rfl rfl hk_17 (by decide) (by show va_rf (gR h3 b15 0) = _; rw [hq_19]; rfl) ?_
    replace e := ck_as_e e
    obtain ⟨hk_20, e⟩ := e
    refine go_get (v := .int (gI h3 b18 1)) rfl rfl hk_20 (by decide) rfl ?_
    cases e
    exact go_ret rfl rfl
  rw [if_neg hx_13] at e
  have hz_ : (v2 : Int32).toInt < 0 ∨ 3 < (v2 : Int32).toInt := by
    have z0 := lv_neT hx_7 (k := 0) (a := 0) rfl
    have z1 := lv_neT hx_9 (k := 1) (a := 1) rfl
    have z2 := lv_neT hx_11 (k := 2) (a := 2) rfl
    have z3 := lv_neT hx_13 (k := 3) (a := 3) rfl
    omega
  refine go_tswO (m := k_CS_opened) (pc := 13) (t := 70) (d := 57) (offs := #[31, 36, 41, 46]) rfl hz_ rfl ?_
  refine go_iconst (v := (-1)) rfl (by decide) ?_
  cases e
  exact go_ret rfl rfl
