def f_Op_finish (F : Nat) (a0 : Nat) (h : ck_H) : Option (Unit × ck_H) :=
  ck_as (gk h a0 = 5) <|
  ck_opt (gR h a0 4) (
    ck_some (gR h a0 0) fun b4 =>
    ck_as (gk h b4 = 3) <|
    ck_bd (f_Mk_begin F b4 h) fun _ h8 =>
    ck_as (gk h8 a0 = 5) <|
    ck_then (wR h8 a0 4 none) fun h11 =>
    some ((), h11)
  ) fun b3 =>
  ck_some (gR h a0 4) fun b13 =>
  ck_as (gk h b13 = 2) <|
  if (gI h b13 6) = (4 : Int32) then
    ck_some (gR h a0 0) fun b17 =>
    ck_as (gk h b17 = 3) <|
    ck_bd (f_Mk_begin F b17 h) fun _ h21 =>
    ck_as (gk h21 a0 = 5) <|
    ck_then (wR h21 a0 4 none) fun h24 =>
    some ((), h24)
  else
    ck_some (gR h a0 0) fun b26 =>
    ck_some (gR h a0 4) fun b28 =>
    ck_as (gk h b26 = 3) <|
    ck_bd (f_Mk_writeBlock F b26 b28 h) fun _ h32 =>
    ck_as (gk h32 a0 = 5) <|
    ck_some (gR h32 a0 0) fun b35 =>
    ck_as (gk h32 b35 = 3) <|
    ck_bd (f_Mk_begin F b35 h32) fun _ h39 =>
    ck_as (gk h39 a0 = 5) <|
    ck_then (wR h39 a0 4 none) fun h42 =>
    some ((), h42)
set_option maxRecDepth 100000 in
set_option maxHeartbeats 4000000 in
theorem s_Op_finish {F : Nat} {a0 : Nat} {h h' : ck_H} {r : Unit} (e : f_Op_finish F a0 h = some (r, h')) : Go k_Op_finish 0 (ck_in [.ref a0] 1) [] h (none, h') := by
  unfold f_Op_finish at e
  show Go k_Op_finish 0 [some (.ref a0)] [] h _
  refine go_aload_n rfl rfl ?_
  replace e := ck_as_e e
  obtain ⟨hk_1, e⟩ := e
  replace e := ck_opt_e e
  rcases e with ⟨hq_2, e⟩ | ⟨b3, hq_2, e⟩
  · refine go_get (v := .null) rfl rfl hk_1 (by decide) (by show va_rf (gR h a0 4) = _; rw [hq_2]; rfl) ?_
    refine go_ifnullN (t := 29) rfl rfl ?_
    refine go_aload_n rfl rfl ?_
    replace e := ck_some_e e
    obtain ⟨b4, hq_5, e⟩ := e
    refine go_get (v := .ref b4) rfl rfl hk_1 (by decide) (by show va_rf (gR h a0 0) = _; rw [hq_5]; rfl) ?_
    replace e := ck_as_e e
    obtain ⟨hk_6, e⟩ := e
    replace e := ck_bd_e e
    obtain ⟨r7, h8, e9, e⟩ := e
    refine go_callV (As := []) (b0 := b4) (rest := []) rfl rfl ⟨hk_6, by decide⟩ rfl ⟨Nat.le_of_ble_eq_true rfl, Nat.le_of_ble_eq_true rfl, Nat.le_of_ble_eq_true rfl, Nat.le_of_ble_eq_true rfl⟩ (s_Mk_begin e9) ?_
    show Go k_Op_finish 36 [some (.ref a0)] [] h8 _
    refine go_aload_n rfl rfl ?_
    refine go_null rfl ?_
    replace e := ck_as_e e
    obtain ⟨hk_10, e⟩ := e
    refine go_put (h1 := wR h8 a0 4 none) rfl rfl hk_10 ⟨by decide, by decide, Or.inl rfl⟩ rfl ?_
    have hk_12 : gk (wR h8 a0 4 none) a0 = 5 := ck_kR.trans hk_10
    generalize wR h8 a0 4 none = h11 at e hk_12 ⊢
    replace e := ck_then_e e
    cases e
    exact go_ret rfl rfl
  refine go_get (v := .ref b3) rfl rfl hk_1 (by decide) (by show va_rf (gR h a0 4) = _; rw [hq_2]; rfl) ?_
  refine go_ifnull rfl ?_
  refine go_aload_n rfl rfl ?_
  replace e := ck_some_e e
  obtain ⟨b13, hq_14, e⟩ := e
  refine go_get (v := .ref b13) rfl rfl hk_1 (by decide) (by show va_rf (gR h a0 4) = _; rw [hq_14]; rfl) ?_
  replace e := ck_as_e e
  obtain ⟨hk_15, e⟩ := e
  refine go_get (v := .int (gI h b13 6)) rfl rfl hk_15 (by decide) rfl ?_
  refine go_iconst (v := 4) rfl (by decide) ?_
  refine go_icmp_eq (t := 29) rfl rfl (fun hx_16 => ?_) (fun hx_16 => ?_)
  · rw [if_pos hx_16] at e
    refine go_aload_n rfl rfl ?_
    replace e := ck_some_e e
    obtain ⟨b17, hq_18, e⟩ := e
    refine go_get (v := .ref b17) rfl rfl hk_1 (by decide) (by show va_rf (gR h a0 0) = _; rw [hq_18]; rfl) ?_
    replace e := ck_as_e e
    obtain ⟨hk_19, e⟩ := e
    replace e := ck_bd_e e
    obtain ⟨r20, h21, e22, e⟩ := e
    refine go_callV (As := []) (b0 := b17) (rest := []) rfl rfl ⟨hk_19, by decide⟩ rfl ⟨Nat.le_of_ble_eq_true rfl, Nat.le_of_ble_eq_true rfl, Nat.le_of_ble_eq_true rfl, Nat.le_of_ble_eq_true rfl⟩ (s_Mk_begin e22) ?_
    show Go k_Op_finish 36 [some (.ref a0)] [] h21 _
    refine go_aload_n rfl rfl ?_
    refine go_null rfl ?_
    replace e := ck_as_e e
    obtain ⟨hk_23, e⟩ := e
    refine go_put (h1 := wR h21 a0 4 none) rfl rfl hk_23 ⟨by decide, by decide, Or.inl rfl⟩ rfl ?_
    have hk_25 : gk (wR h21 a0 4 none) a0 = 5 := ck_kR.trans hk_23
    generalize wR h21 a0 4 none = h24 at e hk_25 ⊢
    replace e := ck_then_e e
    cases e
    exact go_ret rfl rfl
  · rw [if_neg hx_16] at e
    refine go_aload_n rfl rfl ?_
    replace e := ck_some_e e
    obtain ⟨b26, hq_27, e⟩ := e
    refine go_get (v := .ref b26) rfl rfl hk_1 (by decide) (by show va_rf (gR h a0 0) = _; rw [hq_27]; rfl) ?_
    refine go_aload_n rfl rfl ?_
    replace e := ck_some_e e
    obtain ⟨b28, hq_29, e⟩ := e
    refine go_get (v := .ref b28) rfl rfl hk_1 (by decide) (by show va_rf (gR h a0 4) = _; rw [hq_29]; rfl) ?_
    replace e := ck_as_e e
    obtain ⟨hk_30, e⟩ := e
    replace e := ck_bd_e e
    obtain ⟨r31, h32, e33, e⟩ := e
    refine go_callV (As := [.ref b28]) (b0 := b26) (rest := []) rfl rfl ⟨hk_30, by decide⟩ rfl ⟨Nat.le_of_ble_eq_true rfl, Nat.le_of_ble_eq_true rfl, Nat.le_of_ble_eq_true rfl, Nat.le_of_ble_eq_true rfl⟩ (s_Mk_writeBlock e33) ?_
    show Go k_Op_finish 29 [some (.ref a0)] [] h32 _
    refine go_aload_n rfl rfl ?_
    replace e := ck_as_e e
    obtain ⟨hk_34, e⟩ := e
    replace e := ck_some_e e
    obtain ⟨b35, hq_36, e⟩ := e
    refine go_get (v := .ref b35) rfl rfl hk_34 (by decide) (by show va_rf (gR h32 a0 0) = _; rw [hq_36]; rfl) ?_
    replace e := ck_as_e e
    obtain ⟨hk_37, e⟩ := e
    replace e := ck_bd_e e
    obtain ⟨r38, h39, e40, e⟩ := e
    refine go_callV (As := []) (b0 := b35) (rest := []) rfl rfl ⟨hk_37, by decide⟩ rfl ⟨Nat.le_of_ble_eq_true rfl, Nat.le_of_ble_eq_true rfl, Nat.le_of_ble_eq_true rfl, Nat.le_of_ble_eq_true rfl⟩ (s_Mk_begin e40) ?_
    show Go k_Op_finish 36 [some (.ref a0)] [] h39 _
    refine go_aload_n rfl rfl ?_
    refine go_null rfl ?_
    replace e := ck_as_e e
    obtain ⟨hk_41, e⟩ := e
    refine go_put (h1 := wR h39 a0 4 none) rfl rfl hk_41 ⟨by decide, by decide, Or.inl rfl⟩ rfl ?_
    have hk_43 : gk (wR h39 a0 4 none) a0 = 5 := ck_kR.trans hk_41
    generalize wR h39 a0 4 none = h42 at e hk_43 ⊢
    replace e := ck_then_e e
    cases e
    exact go_ret rfl rfl
def f_CS_close (F : Nat) (a0 : Nat) (v1 : Int32) (h : ck_H) : Option (Int32 × ck_H) :=
  ck_as (gk h a0 = 11) <|
  ck_bd (f_CS_openingAt F a0 v1 h) fun r2 h3 =>
  ck_opt r2 (
    some ((-1), h3)
  ) fun b6 =>
  ck_as (gk h3 b6 = 5) <|
  ck_bd (f_Op_finish F b6 h3) fun _ h9 =>
  some (1, h9)
set_option maxRecDepth 100000 in
set_option maxHeartbeats 4000000 in
theorem s_CS_close {F : Nat} {a0 : Nat} {v1 : Int32} {h h' : ck_H} {r : Int32} (e : f_CS_close F a0 v1 h = some (r, h')) : Go k_CS_close 0 (ck_in [.ref a0, .int v1] 3) [] h (some (.int r), h') := by
  unfold f_CS_close at e
  show Go k_CS_close 0 [some (.ref a0), some (.int v1), none] [] h _
  refine go_aload_n rfl rfl ?_
  refine go_iload_n rfl rfl ?_
  replace e := ck_as_e e
  obtain ⟨hk_1, e⟩ := e
  replace e := ck_bd_e e
  obtain ⟨r2, h3, e4, e⟩ := e
  refine go_callV (As := [.int v1]) (b0 := a0) (rest := []) rfl rfl ⟨hk_1, by decide⟩ rfl ⟨Nat.le_of_ble_eq_true rfl, Nat.le_of_ble_eq_true rfl, Nat.le_of_ble_eq_true rfl, Nat.le_of_ble_eq_true rfl⟩ (s_CS_openingAt e4) ?_
  replace e := ck_opt_e e
  rcases e with ⟨hq_5, e⟩ | ⟨b6, hq_5, e⟩
  · subst hq_5
    show Go k_CS_close 5 [some (.ref a0), some (.int v1), none] [.null] h3 _
    refine go_astore_nN rfl rfl ?_
    show Go k_CS_close 6 [some (.ref a0), some (.int v1), some .null] [] h3 _
    refine go_aload_nN rfl rfl ?_
    refine go_ifnonnullN rfl ?_
    refine go_iconst (v := (-1)) rfl (by decide) ?_
    cases e
    exact go_ret rfl rfl
  subst hq_5
  show Go k_CS_close 5 [some (.ref a0), some (.int v1), none] [.ref b6] h3 _
  refine go_astore_n rfl rfl ?_
  show Go k_CS_close 6 [some (.ref a0), some (.int v1), some (.ref b6)] [] h3 _
  refine go_aload_n rfl rfl ?_
  refine go_ifnonnull (t := 12) rfl rfl ?_
  refine go_aload_n rfl rfl ?_
  replace e := ck_as_e e
  obtain ⟨hk_7, e⟩ := e
  replace e := ck_bd_e e
  obtain ⟨r8, h9, e10, e⟩ := e
  refine go_callV (As := []) (b0 := b6) (rest := []) rfl rfl ⟨hk_7, by decide⟩ rfl ⟨Nat.le_of_ble_eq_true rfl, Nat.le_of_ble_eq_true rfl, Nat.le_of_ble_eq_true rfl, Nat.le_of_ble_eq_true rfl⟩ (s_Op_finish e10) ?_
  show Go k_CS_close 16 [some (.ref a0), some (.int v1), some (.ref b6)] [] h9 _
  refine go_iconst (v := 1) rfl (by decide) ?_
  cases e
  exact go_ret rfl rfl
def f_Op_hasLength (F : Nat) (a0 : Nat) (v1 : Int32) (h : ck_H) : Option (Int32 × ck_H) :=
  ck_as (gk h a0 = 5) <|
  ck_some (gR h a0 4) fun b2 =>
  ck_as (gk h b2 = 2) <|
  if (gI h b2 6) = 1 then
    ck_some (gR h a0 4) fun b6 =>
    ck_as (gk h b6 = 2) <|
    if ((gI h b6 8) - 4) < v1 then
      some (0, h)
    else
      some (1, h)
  else
  if (gI h b2 6) = 2 then
    some (1, h)
  else
    ck_some (gR h a0 4) fun b11 =>
    ck_as (gk h b11 = 2) <|
    if v1 = (gI h b11 7) then
      some (1, h)
    else
      some (0, h)
set_option maxRecDepth 100000 in
set_option maxHeartbeats 4000000 in
theorem s_Op_hasLength {F : Nat} {a0 : Nat} {v1 : Int32} {h h' : ck_H} {r : Int32} (e : f_Op_hasLength F a0 v1 h = some (r, h')) : Go k_Op_hasLength 0 (ck_in [.ref a0, .int v1] 2) [] h (some (.int r), h') := by
  unfold f_Op_hasLength at e
  show Go k_Op_hasLength 0 [some (.ref a0), some (.int v1)] [] h _
  refine go_aload_n rfl rfl ?_
  replace e := ck_as_e e
  obtain ⟨hk_1, e⟩ := e
  replace e := ck_some_e e
  obtain ⟨b2, hq_3, e⟩ := e
  refine go_get (v := .ref b2) rfl rfl hk_1 (by decide) (by show va_rf (gR h a0 4) = _; rw [hq_3]; rfl) ?_
  replace e := ck_as_e e
  obtain ⟨hk_4, e⟩ := e
  refine go_get (v := .int (gI h b2 6)) rfl rfl hk_4 (by decide) rfl ?_
  by_cases hx_5 : (gI h b2 6) = 1
  · rw [if_pos hx_5] at e
    refine go_lsw (t := 32) rfl rfl (by rw [hx_5]; rfl) ?_
    refine go_iload_n rfl rfl ?_
    refine go_aload_n rfl rfl ?_
    replace e := ck_some_e e
    obtain ⟨b6, hq_7, e⟩ := e
    refine go_get (v := .ref b6) rfl rfl hk_1 (by decide) (by show va_rf (gR h a0 4) = _; rw [hq_7]; rfl) ?_
    replace e := ck_as_e e
    obtain ⟨hk_8, e⟩ := e
    refine go_get (v := .int (gI h b6 8)) rfl rfl hk_8 (by decide) rfl ?_
    refine go_iconst (v := 4) rfl (by decide) ?_
    refine go_isub rfl ?_
    refine go_icmp_gt (t := 49) rfl rfl (fun hx_9 => ?_) (fun hx_9 => ?_)
    · rw [if_pos hx_9] at e
      refine go_iconst (v := 0) rfl (by decide) ?_
      cases e
      exact go_ret rfl (ck_rvb rfl (Or.inl rfl))
    · rw [if_neg hx_9] at e
      refine go_iconst (v := 1) rfl (by decide) ?_
      refine go_goto (t := 50) rfl rfl ?_
      cases e
      exact go_ret rfl (ck_rvb rfl (Or.inr rfl))
  rw [if_neg hx_5] at e
  by_cases hx_10 : (gI h b2 6) = 2
  · rw [if_pos hx_10] at e
    refine go_lsw (t := 51) rfl rfl (by rw [hx_10]; rfl) ?_
    refine go_iconst (v := 1) rfl (by decide) ?_
    cases e
    exact go_ret rfl (ck_rvb rfl (Or.inr rfl))
  rw [if_neg hx_10] at e
  refine go_lsw (t := 53) rfl rfl (by show ck_tg _ (Op.lookupswitch.offset [(1, 25), (2, 44)] _ _) = _; rw [lv_osw (k := 1) (a := 1) hx_5 rfl, lv_osw (k := 2) (a := 2) hx_10 rfl]; rfl) ?_
  refine go_iload_n rfl rfl ?_
  refine go_aload_n rfl rfl ?_
  replace e := ck_some_e e
  obtain ⟨b11, hq_12, e⟩ := e
  refine go_get (v := .ref b11) rfl rfl hk_1 (by decide) (by show va_rf (gR h a0 4) = _; rw [hq_12]; rfl) ?_
  replace e := ck_as_e e
  obtain ⟨hk_13, e⟩ := e
  refine go_get (v := .int (gI h b11 7)) rfl rfl hk_13 (by decide) rfl ?_
  refine go_icmp_ne (t := 68) rfl rfl (fun hx_14 => ?_) (fun hx_14 => ?_)
  · rw [if_pos hx_14] at e
    refine go_iconst (v := 1) rfl (by decide) ?_
    refine go_goto (t := 69) rfl rfl ?_
    cases e
    exact go_ret rfl (ck_rvb rfl (Or.inr rfl))
  · rw [if_neg hx_14] at e
    refine go_iconst (v := 0) rfl (by decide) ?_
    cases e
    exact go_ret rfl (ck_rvb rfl (Or.inl rfl))
def f_Tr_lastEnd (F : Nat) (a0 : Nat) (h : ck_H) : Option (Int32 × ck_H) :=
  ck_as (gk h a0 = 8) <|
  ck_some (gR h a0 1) fun b2 =>
  ck_as ((gk h b2 = 14 ∨ gk h b2 = 21) ∧ ¬ (gI h a0 2) < 0 ∧ (gI h a0 2 : Int32).toNatClampNeg < gz h b2) <|
  some (gI h b2 (gI h a0 2 : Int32).toNatClampNeg, h)
set_option maxRecDepth 100000 in
set_option maxHeartbeats 4000000 in
theorem s_Tr_lastEnd {F : Nat} {a0 : Nat} {h h' : ck_H} {r : Int32} (e : f_Tr_lastEnd F a0 h = some (r, h')) : Go k_Tr_lastEnd 0 (ck_in [.ref a0] 1) [] h (some (.int r), h') := by
  unfold f_Tr_lastEnd at e
  show Go k_Tr_lastEnd 0 [some (.ref a0)] [] h _
  refine go_aload_n rfl rfl ?_
  replace e := ck_as_e e
  obtain ⟨hk_1, e⟩ := e
  replace e := ck_some_e e
  obtain ⟨b2, hq_3, e⟩ := e
  refine go_get (v := .ref b2) rfl rfl hk_1 (by decide) (by show va_rf (gR h a0 1) = _; rw [hq_3]; rfl) ?_
  refine go_aload_n rfl rfl ?_
  refine go_get (v := .int (gI h a0 2)) rfl rfl hk_1 (by decide) rfl ?_
  replace e := ck_as_e e
  obtain ⟨hc_4, e⟩ := e
  refine go_iald rfl hc_4 ?_
  cases e
  exact go_ret rfl rfl
def f_Mk_planBlock (F : Nat) (a0 : Nat) (a1 : Nat) (v2 : Int32) (h : ck_H) : Option (Int32 × ck_H) :=
  ck_as (gk h a0 = 3) <|
  if (1500 : Int32) < (((gI h a0 5) + 30) + v2) then
    ck_as (gk h a1 = 2) <|
    ck_bd (f_DS_roomFrom F a1 ((gI h a0 4) + 1) v2 h) fun r4 h5 =>
    ck_as (gk h5 a1 = 2) <|
    ck_bd (f_DS_trackAt F a1 r4 h5) fun r8 h9 =>
    ck_opt r8 (
      some (0, h9)
    ) fun b12 =>
    ck_as (gk h9 a0 = 3) <|
    ck_then (wI h9 a0 4 r4) fun h14 =>
    ck_as (gk h14 b12 = 8) <|
    ck_bd (f_Tr_lastEnd F b12 h14) fun r17 h18 =>
    ck_as (gk h18 a0 = 3) <|
    ck_then (wI h18 a0 5 ((r17 + 30) + v2)) fun h21 =>
    some (1, h21)
  else
    ck_then (wI h a0 5 ((gI h a0 5) + (30 + v2))) fun h23 =>
    some (1, h23)
set_option maxRecDepth 100000 in
set_option maxHeartbeats 4000000 in
theorem s_Mk_planBlock {F : Nat} {a0 : Nat} {a1 : Nat} {v2 : Int32} {h h' : ck_H} {r : Int32} (e : f_Mk_planBlock F a0 a1 v2 h = some (r, h')) : Go k_Mk_planBlock 0 (ck_in [.ref a0, .ref a1, .int v2] 5) [] h (some (.int r), h') := by
  unfold f_Mk_planBlock at e
  show Go k_Mk_planBlock 0 [some (.ref a0), some (.ref a1), some (.int v2), none, none] [] h _
  refine go_aload_n rfl rfl ?_
  replace e := ck_as_e e
  obtain ⟨hk_1, e⟩ := e
  refine go_get (v := .int (gI h a0 5)) rfl rfl hk_1 (by decide) rfl ?_
  refine go_bipush (v := 30) rfl (by decide) ?_
  refine go_iadd rfl ?_
  refine go_iload_n rfl rfl ?_
  refine go_iadd rfl ?_
  refine go_sipush (v := 1500) rfl (by decide) ?_
  refine go_icmp_gt (t := 30) rfl rfl (fun hx_2 => ?_) (fun hx_2 => ?_)
  · rw [if_pos hx_2] at e
    refine go_aload_n rfl rfl ?_
    refine go_aload_n rfl rfl ?_
    refine go_get (v := .int (gI h a0 4)) rfl rfl hk_1 (by decide) rfl ?_
    refine go_iconst (v := 1) rfl (by decide) ?_
    refine go_iadd rfl ?_
    refine go_iload_n rfl rfl ?_
    replace e := ck_as_e e
    obtain ⟨hk_3, e⟩ := e
    replace e := ck_bd_e e
    obtain ⟨r4, h5, e6, e⟩ := e
    refine go_callV (As := [.int ((gI h a0 4) + 1), .int v2]) (b0 := a1) (rest := []) rfl rfl ⟨hk_3, by decide⟩ rfl ⟨Nat.le_of_ble_eq_true rfl, Nat.le_of_ble_eq_true rfl, Nat.le_of_ble_eq_true rfl, Nat.le_of_ble_eq_true rfl⟩ (s_DS_roomFrom e6) ?_
    show Go k_Mk_planBlock 41 [some (.ref a0), some (.ref a1), some (.int v2), none, none] [.int r4] h5 _
    refine go_istore_n rfl rfl ?_
    show Go k_Mk_planBlock 42 [some (.ref a0), some (.ref a1), some (.int v2), some (.int r4), none] [] h5 _
    refine go_aload_n rfl rfl ?_
    refine go_iload_n rfl rfl ?_
    replace e := ck_as_e e
    obtain ⟨hk_7, e⟩ := e
    replace e := ck_bd_e e
    obtain ⟨r8, h9, e10, e⟩ := e
    refine go_callV (As := [.int r4]) (b0 := a1) (rest := []) rfl rfl ⟨hk_7, by decide⟩ rfl ⟨Nat.le_of_ble_eq_true rfl, Nat.le_of_ble_eq_true rfl, Nat.le_of_ble_eq_true rfl, Nat.le_of_ble_eq_true rfl⟩ (s_DS_trackAt e10) ?_
    replace e := ck_opt_e e
    rcases e with ⟨hq_11, e⟩ | ⟨b12, hq_11, e⟩
    · subst hq_11
      show Go k_Mk_planBlock 47 [some (.ref a0), some (.ref a1), some (.int v2), some (.int r4), none] [.null] h9 _
      refine go_astoreN rfl rfl ?_
      show Go k_Mk_planBlock 49 [some (.ref a0), some (.ref a1), some (.int v2), some (.int r4), some .null] [] h9 _
      refine go_aloadN rfl rfl ?_
      refine go_ifnonnullN rfl ?_
      refine go_iconst (v := 0) rfl (by decide) ?_
      cases e
      exact go_ret rfl (ck_rvb rfl (Or.inl rfl))
    subst hq_11
    show Go k_Mk_planBlock 47 [some (.ref a0), some (.ref a1), some (.int v2), some (.int r4), none] [.ref b12] h9 _
    refine go_astore rfl rfl ?_
    show Go k_Mk_planBlock 49 [some (.ref a0), some (.ref a1), some (.int v2), some (.int r4), some (.ref b12)] [] h9 _
    refine go_aload rfl rfl ?_
    refine go_ifnonnull (t := 56) rfl rfl ?_
    refine go_aload_n rfl rfl ?_
    refine go_iload_n rfl rfl ?_
    replace e := ck_as_e e
    obtain ⟨hk_13, e⟩ := e
    refine go_put (h1 := wI h9 a0 4 r4) rfl rfl hk_13 ⟨by decide, by decide, Or.inl rfl⟩ rfl ?_
    have hk_15 : gk (wI h9 a0 4 r4) a0 = 3 := ck_kI.trans hk_13
    generalize wI h9 a0 4 r4 = h14 at e hk_15 ⊢
    replace e := ck_then_e e
    refine go_aload_n rfl rfl ?_
    refine go_aload rfl rfl ?_
    replace e := ck_as_e e
    obtain ⟨hk_16, e⟩ := e
    replace e := ck_bd_e e
    obtain ⟨r17, h18, e19, e⟩ := e
    refine go_callV (As := []) (b0 := b12) (rest := [.ref a0]) rfl rfl ⟨hk_16, by decide⟩ rfl ⟨Nat.le_of_ble_eq_true rfl, Nat.le_of_ble_eq_true rfl, Nat.le_of_ble_eq_true rfl, Nat.le_of_ble_eq_true rfl⟩ (s_Tr_lastEnd e19) ?_
    show Go k_Mk_planBlock 67 [some (.ref a0), some (.ref a1), some (.int v2), some (.int r4), some (.ref b12)] [.int r17, .ref a0] h18 _
    refine go_bipush (v := 30) rfl (by decide) ?_
    refine go_iadd rfl ?_
    refine go_iload_n rfl rfl ?_
    refine go_iadd rfl ?_
    replace e := ck_as_e e
    obtain ⟨hk_20, e⟩ := e
    refine go_put (h1 := wI h18 a0 5 ((r17 + 30) + v2)) rfl rfl hk_20 ⟨by decide, by decide, Or.inl rfl⟩ rfl ?_
    have hk_22 : gk (wI h18 a0 5 ((r17 + 30) + v2)) a0 = 3 := ck_kI.trans hk_20
    generalize wI h18 a0 5 ((r17 + 30) + v2) = h21 at e hk_22 ⊢
    replace e := ck_then_e e
    refine go_iconst (v := 1) rfl (by decide) ?_
    cases e
    exact go_ret rfl (ck_rvb rfl (Or.inr rfl))
  · rw [if_neg hx_2] at e
    refine go_aload_n rfl rfl ?_
    refine go_dup rfl rfl ?_
    refine go_get (v := .int (gI h a0 5)) rfl rfl hk_1 (by decide) rfl ?_
    refine go_bipush (v := 30) rfl (by decide) ?_
    refine go_iload_n rfl rfl ?_
    refine go_iadd rfl ?_
    refine go_iadd rfl ?_
    refine go_put (h1 := wI h a0 5 ((gI h a0 5) + (30 + v2))) rfl rfl hk_1 ⟨by decide, by decide, Or.inl rfl⟩ rfl ?_
    have hk_24 : gk (wI h a0 5 ((gI h a0 5) + (30 + v2))) a0 = 3 := ck_kI.trans hk_1
    generalize wI h a0 5 ((gI h a0 5) + (30 + v2)) = h23 at e hk_24 ⊢
    replace e := ck_then_e e
    refine go_iconst (v := 1) rfl (by decide) ?_
    cases e
    exact go_ret rfl (ck_rvb rfl (Or.inr rfl))
def f_Mk_planVariable (F : Nat) (a0 : Nat) (a1 : Nat) (v2 : Int32) (h : ck_H) : Option (Int32 × ck_H) :=
  ck_as (gk h a0 = 3) <|
  ck_some (gR h a0 0) fun b2 =>
  ck_as (gk h b2 = 6) <|
  ck_bd (f_Ma_max F 2 (gI h b2 1) h) fun r5 h6 =>
  ck_as (gk h6 a1 = 2) <|
  if (gI h6 a1 8) < ((r5 + 2) + v2) then
    ck_as (gk h6 a0 = 3) <|
    ck_bd (f_Mk_planBlock F a0 a1 r5 h6) fun r11 h12 =>
    if r11 = (0 : Int32) then
      some (0, h12)
    else
      ck_as (gk h12 a0 = 3) <|
      ck_bd (f_Mk_planBlock F a0 a1 (4 + v2) h12) fun r16 h17 =>
      if r16 = (0 : Int32) then
        some (0, h17)
      else
        some (1, h17)
  else
    ck_as (gk h6 a0 = 3) <|
    ck_bd (f_Mk_planBlock F a0 a1 ((r5 + 2) + v2) h6) fun r21 h22 =>
    ck_as (r21 = 0 ∨ r21 = 1) <|
    some (r21, h22)
set_option maxRecDepth 100000 in
set_option maxHeartbeats 4000000 in
theorem s_Mk_planVariable {F : Nat} {a0 : Nat} {a1 : Nat} {v2 : Int32} {h h' : ck_H} {r : Int32} (e : f_Mk_planVariable F a0 a1 v2 h = some (r, h')) : Go k_Mk_planVariable 0 (ck_in [.ref a0, .ref a1, .int v2] 4) [] h (some (.int r), h') := by
  unfold f_Mk_planVariable at e
  show Go k_Mk_planVariable 0 [some (.ref a0), some (.ref a1), some (.int v2), none] [] h _
  refine go_iconst (v := 2) rfl (by decide) ?_
  refine go_aload_n rfl rfl ?_
  replace e := ck_as_e e
  obtain ⟨hk_1, e⟩ := e
  replace e := ck_some_e e
  obtain ⟨b2, hq_3, e⟩ := e
  refine go_get (v := .ref b2) rfl rfl hk_1 (by decide) (by show va_rf (gR h a0 0) = _; rw [hq_3]; rfl) ?_
  replace e := ck_as_e e
  obtain ⟨hk_4, e⟩ := e
  refine go_get (v := .int (gI h b2 1)) rfl rfl hk_4 (by decide) rfl ?_
  replace e := ck_bd_e e
  obtain ⟨r5, h6, e7, e⟩ := e
  refine go_callS (As := [.int 2, .int (gI h b2 1)]) (rest := []) rfl rfl rfl ⟨Nat.le_of_ble_eq_true rfl, Nat.le_of_ble_eq_true rfl, Nat.le_of_ble_eq_true rfl, Nat.le_of_ble_eq_true rfl⟩ (s_Ma_max e7) ?_
  show Go k_Mk_planVariable 11 [some (.ref a0), some (.ref a1), some (.int v2), none] [.int r5] h6 _
  refine go_istore_n rfl rfl ?_
  show Go k_Mk_planVariable 12 [some (.ref a0), some (.ref a1), some (.int v2), some (.int r5)] [] h6 _
  refine go_iload_n rfl rfl ?_
  refine go_iconst (v := 2) rfl (by decide) ?_
  refine go_iadd rfl ?_
  refine go_iload_n rfl rfl ?_
  refine go_iadd rfl ?_
  refine go_aload_n rfl rfl ?_
  replace e := ck_as_e e
  obtain ⟨hk_8, e⟩ := e
  refine go_get (v := .int (gI h6 a1 8)) rfl rfl hk_8 (by decide) rfl ?_
  refine go_icmp_gt (t := 35) rfl rfl (fun hx_9 => ?_) (fun hx_9 => ?_)
  · rw [if_pos hx_9] at e
    refine go_aload_n rfl rfl ?_
    refine go_aload_n rfl rfl ?_
    refine go_iload_n rfl rfl ?_
    replace e := ck_as_e e
    obtain ⟨hk_10, e⟩ := e
    replace e := ck_bd_e e
    obtain ⟨r11, h12, e13, e⟩ := e
    refine go_callV (As := [.ref a1, .int r5]) (b0 := a0) (rest := []) rfl rfl ⟨hk_10, by decide⟩ rfl ⟨Nat.le_of_ble_eq_true rfl, Nat.le_of_ble_eq_true rfl, Nat.le_of_ble_eq_true rfl, Nat.le_of_ble_eq_true rfl⟩ (s_Mk_planBlock e13) ?_
    show Go k_Mk_planVariable 41 [some (.ref a0), some (.ref a1), some (.int v2), some (.int r5)] [.int r11] h12 _
    refine go_if_eq (t := 59) rfl rfl (fun hx_14 => ?_) (fun hx_14 => ?_)
    · rw [if_pos hx_14] at e
      refine go_iconst (v := 0) rfl (by decide) ?_
      cases e
      exact go_ret rfl (ck_rvb rfl (Or.inl rfl))
    · rw [if_neg hx_14] at e
      refine go_aload_n rfl rfl ?_
      refine go_aload_n rfl rfl ?_
      refine go_iconst (v := 4) rfl (by decide) ?_
      refine go_iload_n rfl rfl ?_
      refine go_iadd rfl ?_
      replace e := ck_as_e e
      obtain ⟨hk_15, e⟩ := e
      replace e := ck_bd_e e
      obtain ⟨r16, h17, e18, e⟩ := e
      refine go_callV (As := [.ref a1, .int (4 + v2)]) (b0 := a0) (rest := []) rfl rfl ⟨hk_15, by decide⟩ rfl ⟨Nat.le_of_ble_eq_true rfl, Nat.le_of_ble_eq_true rfl, Nat.le_of_ble_eq_true rfl, Nat.le_of_ble_eq_true rfl⟩ (s_Mk_planBlock e18) ?_
      show Go k_Mk_planVariable 52 [some (.ref a0), some (.ref a1), some (.int v2), some (.int r5)] [.int r16] h17 _
      refine go_if_eq (t := 59) rfl rfl (fun hx_19 => ?_) (fun hx_19 => ?_)
      · rw [if_pos hx_19] at e
        refine go_iconst (v := 0) rfl (by decide) ?_
        cases e
        exact go_ret rfl (ck_rvb rfl (Or.inl rfl))
      · rw [if_neg hx_19] at e
        refine go_iconst (v := 1) rfl (by decide) ?_
        refine go_goto (t := 60) rfl rfl ?_
        cases e
        exact go_ret rfl (ck_rvb rfl (Or.inr rfl))
  · rw [if_neg hx_9] at e
    refine go_aload_n rfl rfl ?_
    refine go_aload_n rfl rfl ?_
    refine go_iload_n rfl rfl ?_
    refine go_iconst (v := 2) rfl (by decide) ?_
    refine go_iadd rfl ?_
    refine go_iload_n rfl rfl ?_
    refine go_iadd rfl ?_
    replace e := ck_as_e e
    obtain ⟨hk_20, e⟩ := e
    replace e := ck_bd_e e
    obtain ⟨r21, h22, e23, e⟩ := e
    refine go_callV (As := [.ref a1, .int ((r5 + 2) + v2)]) (b0 := a0) (rest := []) rfl rfl ⟨hk_20, by decide⟩ rfl ⟨Nat.le_of_ble_eq_true rfl, Nat.le_of_ble_eq_true rfl, Nat.le_of_ble_eq_true rfl, Nat.le_of_ble_eq_true rfl⟩ (s_Mk_planBlock e23) ?_
    show Go k_Mk_planVariable 34 [some (.ref a0), some (.ref a1), some (.int v2), some (.int r5)] [.int r21] h22 _
    replace e := ck_as_e e
    obtain ⟨hc_24, e⟩ := e
    cases e
    exact go_ret rfl (ck_rvb rfl hc_24)
def f_Mk_leastFree (F : Nat) (v0 : Int32) (h : ck_H) : Option (Int32 × ck_H) :=
  if v0 = (0 : Int32) then
    some (3, h)
  else
    some (4, h)
set_option maxRecDepth 100000 in
set_option maxHeartbeats 4000000 in
theorem s_Mk_leastFree {F : Nat} {v0 : Int32} {h h' : ck_H} {r : Int32} (e : f_Mk_leastFree F v0 h = some (r, h')) : Go k_Mk_leastFree 0 (ck_in [.int v0] 1) [] h (some (.int r), h') := by
  unfold f_Mk_leastFree at e
  show Go k_Mk_leastFree 0 [some (.int v0)] [] h _
  refine go_iload_n rfl rfl ?_
  refine go_if_ne (t := 8) rfl rfl (fun hx_1 => ?_) (fun hx_1 => ?_)
  · rw [if_pos hx_1] at e
    refine go_iconst (v := 3) rfl (by decide) ?_
    refine go_goto (t := 9) rfl rfl ?_
    cases e
    exact go_ret rfl rfl
  · rw [if_neg hx_1] at e
    refine go_iconst (v := 4) rfl (by decide) ?_
    cases e
    exact go_ret rfl rfl
def f_Mk_planSpanned_J61 (F : Nat) (k18 : Nat → Nat → Int32 → Int32 → Int32 → Int32 → ck_H → Option (Int32 × ck_H)) (a0 : Nat) (a1 : Nat) (v2 : Int32) (v3 : Int32) (v4 : Int32) (v5 : Int32) (h : ck_H) : Option (Int32 × ck_H) :=
  ck_as (gk h a1 = 2) <|
  ck_bd (f_Ma_min F v4 (((gI h a1 8) - v3) - 3) h) fun r2 h3 =>
  ck_then (v3 + (3 + r2)) fun x5 =>
  ck_then (v4 - r2) fun x6 =>
  k18 a0 a1 v2 x5 x6 (v5 + 1) h3
set_option maxRecDepth 100000 in
set_option maxHeartbeats 4000000 in
theorem f_Mk_planSpanned_J61_s (F : Nat) (k18 : Nat → Nat → Int32 → Int32 → Int32 → Int32 → ck_H → Option (Int32 × ck_H)) (hk18 : ∀ (a0 : Nat) (a1 : Nat) (v2 : Int32) (v3 : Int32) (v4 : Int32) (v5 : Int32) (h : ck_H) (r : Int32) (h' : ck_H), k18 a0 a1 v2 v3 v4 v5 h = some (r, h') → Go k_Mk_planSpanned 18 [some (.ref a0), some (.ref a1), some (.int v2), some (.int v3), some (.int v4), some (.int v5), none] [] h (some (.int r), h')) (a0 : Nat) (a1 : Nat) (v2 : Int32) (v3 : Int32) (v4 : Int32) (v5 : Int32) (h : ck_H) (r : Int32) (h' : ck_H) (e : f_Mk_planSpanned_J61 F k18 a0 a1 v2 v3 v4 v5 h = some (r, h')) : Go k_Mk_planSpanned 61 [some (.ref a0), some (.ref a1), some (.int v2), some (.int v3), some (.int v4), some (.int v5), none] [] h (some (.int r), h') := by
  unfold f_Mk_planSpanned_J61 at e
  refine go_iload rfl rfl ?_
  refine go_aload_n rfl rfl ?_
  replace e := ck_as_e e
  obtain ⟨hk_1, e⟩ := e
  refine go_get (v := .int (gI h a1 8)) rfl rfl hk_1 (by decide) rfl ?_
  refine go_iload_n rfl rfl ?_
  refine go_isub rfl ?_
  refine go_iconst (v := 3) rfl (by decide) ?_
  refine go_isub rfl ?_
  replace e := ck_bd_e e
  obtain ⟨r2, h3, e4, e⟩ := e
  refine go_callS (As := [.int v4, .int (((gI h a1 8) - v3) - 3)]) (rest := []) rfl rfl rfl ⟨Nat.le_of_ble_eq_true rfl, Nat.le_of_ble_eq_true rfl, Nat.le_of_ble_eq_true rfl, Nat.le_of_ble_eq_true rfl⟩ (s_Ma_min e4) ?_
  show Go k_Mk_planSpanned 74 [some (.ref a0), some (.ref a1), some (.int v2), some (.int v3), some (.int v4), some (.int v5), none] [.int r2] h3 _
  refine go_istore rfl rfl ?_
  show Go k_Mk_planSpanned 76 [some (.ref a0), some (.ref a1), some (.int v2), some (.int v3), some (.int v4), some (.int v5), some (.int r2)] [] h3 _
  refine go_iload_n rfl rfl ?_
  refine go_iconst (v := 3) rfl (by decide) ?_
  refine go_iload rfl rfl ?_
  refine go_iadd rfl ?_
  refine go_iadd rfl ?_
  generalize v3 + (3 + r2) = x5 at e ⊢
  replace e := ck_then_e e
  refine go_istore_n rfl rfl ?_
  show Go k_Mk_planSpanned 83 [some (.ref a0), some (.ref a1), some (.int v2), some (.int x5), some (.int v4), some (.int v5), some (.int r2)] [] h3 _
  refine go_iload rfl rfl ?_
  refine go_iload rfl rfl ?_
  refine go_isub rfl ?_
  generalize v4 - r2 = x6 at e ⊢
  replace e := ck_then_e e
  refine go_istore rfl rfl ?_
  show Go k_Mk_planSpanned 90 [some (.ref a0), some (.ref a1), some (.int v2), some (.int x5), some (.int x6), some (.int v5), some (.int r2)] [] h3 _
  refine go_iinc (v := 1) rfl rfl (by decide) rfl ?_
  show Go k_Mk_planSpanned 93 [some (.ref a0), some (.ref a1), some (.int v2), some (.int x5), some (.int x6), some (.int (v5 + 1)), some (.int r2)] [] h3 _
  refine go_goto (t := 18) rfl rfl ?_
  refine go_forget (l := [some (.ref a0), some (.ref a1), some (.int v2), some (.int x5), some (.int x6), some (.int (v5 + 1)), none]) ⟨Or.inl rfl, Or.inl rfl, Or.inl rfl, Or.inl rfl, Or.inl rfl, Or.inl rfl, Or.inr ⟨rfl, fun _ q => by cases q; rfl⟩, trivial⟩ ?_
  exact hk18 _ _ _ _ _ _ _ _ _ e
def f_Mk_planSpanned_J35 (F : Nat) (k18 : Nat → Nat → Int32 → Int32 → Int32 → Int32 → ck_H → Option (Int32 × ck_H)) (a0 : Nat) (a1 : Nat) (v2 : Int32) (v3 : Int32) (v4 : Int32) (v5 : Int32) (h : ck_H) : Option (Int32 × ck_H) :=
  ck_as (gk h a1 = 2) <|
  ck_bd (f_Mk_leastFree F v2 h) fun r2 h3 =>
  if ((gI h a1 8) - v3) < r2 then
    ck_as (gk h3 a0 = 3) <|
    ck_bd (f_Mk_planBlock F a0 a1 v3 h3) fun r7 h8 =>
    if r7 = (0 : Int32) then
      some (0, h8)
    else
      f_Mk_planSpanned_J61 F k18 a0 a1 v2 2 v4 v5 h8
  else
    f_Mk_planSpanned_J61 F k18 a0 a1 v2 v3 v4 v5 h3
set_option maxRecDepth 100000 in
set_option maxHeartbeats 4000000 in
theorem f_Mk_planSpanned_J35_s (F : Nat) (k18 : Nat → Nat → Int32 → Int32 → Int32 → Int32 → ck_H → Option (Int32 × ck_H)) (hk18 : ∀ (a0 : Nat) (a1 : Nat) (v2 : Int32) (v3 : Int32) (v4 : Int32) (v5 : Int32) (h : ck_H) (r : Int32) (h' : ck_H), k18 a0 a1 v2 v3 v4 v5 h = some (r, h') → Go k_Mk_planSpanned 18 [some (.ref a0), some (.ref a1), some (.int v2), some (.int v3), some (.int v4), some (.int v5), none] [] h (some (.int r), h')) (a0 : Nat) (a1 : Nat) (v2 : Int32) (v3 : Int32) (v4 : Int32) (v5 : Int32) (h : ck_H) (r : Int32) (h' : ck_H) (e : f_Mk_planSpanned_J35 F k18 a0 a1 v2 v3 v4 v5 h = some (r, h')) : Go k_Mk_planSpanned 35 [some (.ref a0), some (.ref a1), some (.int v2), some (.int v3), some (.int v4), some (.int v5), none] [] h (some (.int r), h') := by
  unfold f_Mk_planSpanned_J35 at e
  refine go_aload_n rfl rfl ?_
  replace e := ck_as_e e
  obtain ⟨hk_1, e⟩ := e
  refine go_get (v := .int (gI h a1 8)) rfl rfl hk_1 (by decide) rfl ?_
  refine go_iload_n rfl rfl ?_
  refine go_isub rfl ?_
  refine go_iload_n rfl rfl ?_
  replace e := ck_bd_e e
  obtain ⟨r2, h3, e4, e⟩ := e
  refine go_callS (As := [.int v2]) (rest := [.int ((gI h a1 8) - v3)]) rfl rfl rfl ⟨Nat.le_of_ble_eq_true rfl, Nat.le_of_ble_eq_true rfl, Nat.le_of_ble_eq_true rfl, Nat.le_of_ble_eq_true rfl⟩ (s_Mk_leastFree e4) ?_
  show Go k_Mk_planSpanned 45 [some (.ref a0), some (.ref a1), some (.int v2), some (.int v3), some (.int v4), some (.int v5), none] [.int r2, .int ((gI h a1 8) - v3)] h3 _
  refine go_icmp_ge (t := 61) rfl rfl (fun hx_5 => ?_) (fun hx_5 => ?_)
  · rw [if_pos hx_5] at e
    refine go_aload_n rfl rfl ?_
    refine go_aload_n rfl rfl ?_
    refine go_iload_n rfl rfl ?_
    replace e := ck_as_e e
    obtain ⟨hk_6, e⟩ := e
    replace e := ck_bd_e e
    obtain ⟨r7, h8, e9, e⟩ := e
    refine go_callV (As := [.ref a1, .int v3]) (b0 := a0) (rest := []) rfl rfl ⟨hk_6, by decide⟩ rfl ⟨Nat.le_of_ble_eq_true rfl, Nat.le_of_ble_eq_true rfl, Nat.le_of_ble_eq_true rfl, Nat.le_of_ble_eq_true rfl⟩ (s_Mk_planBlock e9) ?_
    show Go k_Mk_planSpanned 54 [some (.ref a0), some (.ref a1), some (.int v2), some (.int v3), some (.int v4), some (.int v5), none] [.int r7] h8 _
    refine go_if_ne (t := 59) rfl rfl (fun hx_10 => ?_) (fun hx_10 => ?_)
    · rw [if_pos hx_10] at e
      refine go_iconst (v := 0) rfl (by decide) ?_
      cases e
      exact go_ret rfl (ck_rvb rfl (Or.inl rfl))
    · rw [if_neg hx_10] at e
      refine go_iconst (v := 2) rfl (by decide) ?_
      refine go_istore_n rfl rfl ?_
      show Go k_Mk_planSpanned 61 [some (.ref a0), some (.ref a1), some (.int v2), some (.int 2), some (.int v4), some (.int v5), none] [] h8 _
      refine go_forget (l := [some (.ref a0), some (.ref a1), some (.int v2), some (.int 2), some (.int v4), some (.int v5), none]) ⟨Or.inl rfl, Or.inl rfl, Or.inl rfl, Or.inl rfl, Or.inl rfl, Or.inl rfl, Or.inl rfl, trivial⟩ ?_
      exact f_Mk_planSpanned_J61_s F k18 hk18 a0 a1 v2 2 v4 v5 _ _ _ e
  · rw [if_neg hx_5] at e
    refine go_forget (l := [some (.ref a0), some (.ref a1), some (.int v2), some (.int v3), some (.int v4), some (.int v5), none]) ⟨Or.inl rfl, Or.inl rfl, Or.inl rfl, Or.inl rfl, Or.inl rfl, Or.inl rfl, Or.inl rfl, trivial⟩ ?_
    exact f_Mk_planSpanned_J61_s F k18 hk18 a0 a1 v2 v3 v4 v5 _ _ _ e
def f_Mk_planSpanned_L18 (F : Nat)  : Nat → Nat → Nat → Int32 → Int32 → Int32 → Int32 → ck_H → Option (Int32 × ck_H)
  | 0, _, _, _, _, _, _, _ => none
  | n + 1, a0, a1, v2, v3, v4, v5, h =>
    if v5 = (0 : Int32) then
      f_Mk_planSpanned_J35 F (f_Mk_planSpanned_L18 F n) a0 a1 v2 v3 v4 v5 h
    else
      if (0 : Int32) < v4 then
        if v5 < (1000000 : Int32) then
          f_Mk_planSpanned_J35 F (f_Mk_planSpanned_L18 F n) a0 a1 v2 v3 v4 v5 h
        else
          ck_as (gk h a0 = 3) <|
          ck_bd (f_Mk_planBlock F a0 a1 v3 h) fun r14 h15 =>
          ck_as (r14 = 0 ∨ r14 = 1) <|
          some (r14, h15)
      else
        ck_as (gk h a0 = 3) <|
        ck_bd (f_Mk_planBlock F a0 a1 v3 h) fun r19 h20 =>
        ck_as (r19 = 0 ∨ r19 = 1) <|
        some (r19, h20)
set_option maxRecDepth 100000 in
set_option maxHeartbeats 4000000 in
theorem f_Mk_planSpanned_L18_s (F : Nat)   : ∀ (n : Nat) (a0 : Nat) (a1 : Nat) (v2 : Int32) (v3 : Int32) (v4 : Int32) (v5 : Int32) (h : ck_H) (r : Int32) (h' : ck_H), f_Mk_planSpanned_L18 F n a0 a1 v2 v3 v4 v5 h = some (r, h') → Go k_Mk_planSpanned 18 [some (.ref a0), some (.ref a1), some (.int v2), some (.int v3), some (.int v4), some (.int v5), none] [] h (some (.int r), h') := by
  intro n
  induction n with
  | zero => intro a0 a1 v2 v3 v4 v5 h r h' e; simp only [f_Mk_planSpanned_L18] at e; cases e
  | succ n ih =>
    intro a0 a1 v2 v3 v4 v5 h r h' e
    rw [f_Mk_planSpanned_L18] at e
    refine go_iload rfl rfl ?_
    refine go_if_eq (t := 35) rfl rfl (fun hx_1 => ?_) (fun hx_1 => ?_)
    · rw [if_pos hx_1] at e
      refine go_forget (l := [some (.ref a0), some (.ref a1), some (.int v2), some (.int v3), some (.int v4), some (.int v5), none]) ⟨Or.inl rfl, Or.inl rfl, Or.inl rfl, Or.inl rfl, Or.inl rfl, Or.inl rfl, Or.inl rfl, trivial⟩ ?_
      exact f_Mk_planSpanned_J35_s F (f_Mk_planSpanned_L18 F n) ih a0 a1 v2 v3 v4 v5 _ _ _ e
    · rw [if_neg hx_1] at e
      refine go_iload rfl rfl ?_
      refine go_if_le (t := 96) rfl rfl (fun hx_11 => ?_) (fun hx_11 => ?_)
      · rw [if_pos hx_11] at e
        refine go_iload rfl rfl ?_
        refine go_ldc (v := 1000000) rfl rfl ?_
        refine go_icmp_ge (t := 96) rfl rfl (fun hx_12 => ?_) (fun hx_12 => ?_)
        · rw [if_pos hx_12] at e
          refine go_forget (l := [some (.ref a0), some (.ref a1), some (.int v2), some (.int v3), some (.int v4), some (.int v5), none]) ⟨Or.inl rfl, Or.inl rfl, Or.inl rfl, Or.inl rfl, Or.inl rfl, Or.inl rfl, Or.inl rfl, trivial⟩ ?_
          exact f_Mk_planSpanned_J35_s F (f_Mk_planSpanned_L18 F n) ih a0 a1 v2 v3 v4 v5 _ _ _ e
        · rw [if_neg hx_12] at e
          refine go_aload_n rfl rfl ?_
          refine go_aload_n rfl rfl ?_
          refine go_iload_n rfl rfl ?_
          replace e := ck_as_e e
          obtain ⟨hk_13, e⟩ := e
          replace e := ck_bd_e e
          obtain ⟨r14, h15, e16, e⟩ := e
          refine go_callV (As := [.ref a1, .int v3]) (b0 := a0) (rest := []) rfl rfl ⟨hk_13, by decide⟩ rfl ⟨Nat.le_of_ble_eq_true rfl, Nat.le_of_ble_eq_true rfl, Nat.le_of_ble_eq_true rfl, Nat.le_of_ble_eq_true rfl⟩ (s_Mk_planBlock e16) ?_
          show Go k_Mk_planSpanned 102 [some (.ref a0), some (.ref a1), some (.int v2), some (.int v3), some (.int v4), some (.int v5), none] [.int r14] h15 _
          replace e := ck_as_e e
          obtain ⟨hc_17, e⟩ := e
          cases e
          exact go_ret rfl (ck_rvb rfl hc_17)
      · rw [if_neg hx_11] at e
        refine go_aload_n rfl rfl ?_
        refine go_aload_n rfl rfl ?_
        refine go_iload_n rfl rfl ?_
        replace e := ck_as_e e
        obtain ⟨hk_18, e⟩ := e
        replace e := ck_bd_e e
        obtain ⟨r19, h20, e21, e⟩ := e
        refine go_callV (As := [.ref a1, .int v3]) (b0 := a0) (rest := []) rfl rfl ⟨hk_18, by decide⟩ rfl ⟨Nat.le_of_ble_eq_true rfl, Nat.le_of_ble_eq_true rfl, Nat.le_of_ble_eq_true rfl, Nat.le_of_ble_eq_true rfl⟩ (s_Mk_planBlock e21) ?_
        show Go k_Mk_planSpanned 102 [some (.ref a0), some (.ref a1), some (.int v2), some (.int v3), some (.int v4), some (.int v5), none] [.int r19] h20 _
        replace e := ck_as_e e
        obtain ⟨hc_22, e⟩ := e
        cases e
        exact go_ret rfl (ck_rvb rfl hc_22)
def f_Mk_planSpanned (F : Nat) (a0 : Nat) (a1 : Nat) (v2 : Int32) (h : ck_H) : Option (Int32 × ck_H) :=
  ck_as (gk h a0 = 3) <|
  ck_some (gR h a0 0) fun b2 =>
  ck_as (gk h b2 = 6) <|
  ck_bd (f_Ma_max F 2 (gI h b2 1) h) fun r5 h6 =>
  f_Mk_planSpanned_L18 F F a0 a1 v2 r5 v2 0 h6
set_option maxRecDepth 100000 in
set_option maxHeartbeats 4000000 in
theorem s_Mk_planSpanned {F : Nat} {a0 : Nat} {a1 : Nat} {v2 : Int32} {h h' : ck_H} {r : Int32} (e : f_Mk_planSpanned F a0 a1 v2 h = some (r, h')) : Go k_Mk_planSpanned 0 (ck_in [.ref a0, .ref a1, .int v2] 7) [] h (some (.int r), h') := by
  unfold f_Mk_planSpanned at e
  show Go k_Mk_planSpanned 0 [some (.ref a0), some (.ref a1), some (.int v2), none, none, none, none] [] h _
  refine go_iconst (v := 2) rfl (by decide) ?_
  refine go_aload_n rfl rfl ?_
  replace e := ck_as_e e
  obtain ⟨hk_1, e⟩ := e
  replace e := ck_some_e e
  obtain ⟨b2, hq_3, e⟩ := e
  refine go_get (v := .ref b2) rfl rfl hk_1 (by decide) (by show va_rf (gR h a0 0) = _; rw [hq_3]; rfl) ?_
  replace e := ck_as_e e
  obtain ⟨hk_4, e⟩ := e
  refine go_get (v := .int (gI h b2 1)) rfl rfl hk_4 (by decide) rfl ?_
  replace e := ck_bd_e e
  obtain ⟨r5, h6, e7, e⟩ := e
  refine go_callS (As := [.int 2, .int (gI h b2 1)]) (rest := []) rfl rfl rfl ⟨Nat.le_of_ble_eq_true rfl, Nat.le_of_ble_eq_true rfl, Nat.le_of_ble_eq_true rfl, Nat.le_of_ble_eq_true rfl⟩ (s_Ma_max e7) ?_
  show Go k_Mk_planSpanned 11 [some (.ref a0), some (.ref a1), some (.int v2), none, none, none, none] [.int r5] h6 _
  refine go_istore_n rfl rfl ?_
  show Go k_Mk_planSpanned 12 [some (.ref a0), some (.ref a1), some (.int v2), some (.int r5), none, none, none] [] h6 _
  refine go_iload_n rfl rfl ?_
  refine go_istore rfl rfl ?_
  show Go k_Mk_planSpanned 15 [some (.ref a0), some (.ref a1), some (.int v2), some (.int r5), some (.int v2), none, none] [] h6 _
  refine go_iconst (v := 0) rfl (by decide) ?_
  refine go_istore rfl rfl ?_
  show Go k_Mk_planSpanned 18 [some (.ref a0), some (.ref a1), some (.int v2), some (.int r5), some (.int v2), some (.int 0), none] [] h6 _
  refine go_forget (l := [some (.ref a0), some (.ref a1), some (.int v2), some (.int r5), some (.int v2), some (.int 0), none]) ⟨Or.inl rfl, Or.inl rfl, Or.inl rfl, Or.inl rfl, Or.inl rfl, Or.inl rfl, Or.inl rfl, trivial⟩ ?_
  exact f_Mk_planSpanned_L18_s F F _ _ _ _ _ _ _ _ _ e
def f_Mk_accepts_J32 (F : Nat)  (a0 : Nat) (a1 : Nat) (v2 : Int32) (s0 : Int32) (s1 : Nat) (h : ck_H) : Option (Int32 × ck_H) :=
  ck_as (gk h s1 = 3) <|
  ck_then (wI h s1 5 s0) fun h2 =>
  ck_as (gk h2 a1 = 2) <|
  if (gI h2 a1 6) = 1 then
    ck_as (gk h2 a0 = 3) <|
    ck_bd (f_Mk_planVariable F a0 a1 v2 h2) fun r7 h8 =>
    ck_as (r7 = 0 ∨ r7 = 1) <|
    some (r7, h8)
  else
  if (gI h2 a1 6) = 2 then
    ck_as (gk h2 a0 = 3) <|
    ck_bd (f_Mk_planSpanned F a0 a1 v2 h2) fun r13 h14 =>
    ck_as (r13 = 0 ∨ r13 = 1) <|
    some (r13, h14)
  else
    ck_as (gk h2 a0 = 3) <|
    ck_some (gR h2 a0 0) fun b18 =>
    ck_as (gk h2 b18 = 6) <|
    ck_bd (f_Mk_planBlock F a0 a1 ((gI h2 b18 1) + v2) h2) fun r21 h22 =>
    ck_as (r21 = 0 ∨ r21 = 1) <|
    some (r21, h22)
set_option maxRecDepth 100000 in
set_option maxHeartbeats 4000000 in
theorem f_Mk_accepts_J32_s (F : Nat)   (a0 : Nat) (a1 : Nat) (v2 : Int32) (s0 : Int32) (s1 : Nat) (h : ck_H) (r : Int32) (h' : ck_H) (e : f_Mk_accepts_J32 F  a0 a1 v2 s0 s1 h = some (r, h')) : Go k_Mk_accepts 32 [some (.ref a0), some (.ref a1), some (.int v2), none] [.int s0, .ref s1] h (some (.int r), h') := by
  unfold f_Mk_accepts_J32 at e
  replace e := ck_as_e e
  obtain ⟨hk_1, e⟩ := e
  refine go_put (h1 := wI h s1 5 s0) rfl rfl hk_1 ⟨by decide, by decide, Or.inl rfl⟩ rfl ?_
  have hk_3 : gk (wI h s1 5 s0) s1 = 3 := ck_kI.trans hk_1
  generalize wI h s1 5 s0 = h2 at e hk_3 ⊢
  replace e := ck_then_e e
  refine go_aload_n rfl rfl ?_
  replace e := ck_as_e e
  obtain ⟨hk_4, e⟩ := e
  refine go_get (v := .int (gI h2 a1 6)) rfl rfl hk_4 (by decide) rfl ?_
  by_cases hx_5 : (gI h2 a1 6) = 1
  · rw [if_pos hx_5] at e
    refine go_lsw (t := 64) rfl rfl (by rw [hx_5]; rfl) ?_
    refine go_aload_n rfl rfl ?_
    refine go_aload_n rfl rfl ?_
    refine go_iload_n rfl rfl ?_
    replace e := ck_as_e e
    obtain ⟨hk_6, e⟩ := e
    replace e := ck_bd_e e
    obtain ⟨r7, h8, e9, e⟩ := e
    refine go_callV (As := [.ref a1, .int v2]) (b0 := a0) (rest := []) rfl rfl ⟨hk_6, by decide⟩ rfl ⟨Nat.le_of_ble_eq_true rfl, Nat.le_of_ble_eq_true rfl, Nat.le_of_ble_eq_true rfl, Nat.le_of_ble_eq_true rfl⟩ (s_Mk_planVariable e9) ?_
    show Go k_Mk_accepts 70 [some (.ref a0), some (.ref a1), some (.int v2), none] [.int r7] h8 _
    replace e := ck_as_e e
    obtain ⟨hc_10, e⟩ := e
    cases e
    exact go_ret rfl (ck_rvb rfl hc_10)
  rw [if_neg hx_5] at e
  by_cases hx_11 : (gI h2 a1 6) = 2
  · rw [if_pos hx_11] at e
    refine go_lsw (t := 71) rfl rfl (by rw [hx_11]; rfl) ?_
    refine go_aload_n rfl rfl ?_
    refine go_aload_n rfl rfl ?_
    refine go_iload_n rfl rfl ?_
    replace e := ck_as_e e
    obtain ⟨hk_12, e⟩ := e
    replace e := ck_bd_e e
    obtain ⟨r13, h14, e15, e⟩ := e
    refine go_callV (As := [.ref a1, .int v2]) (b0 := a0) (rest := []) rfl rfl ⟨hk_12, by decide⟩ rfl ⟨Nat.le_of_ble_eq_true rfl, Nat.le_of_ble_eq_true rfl, Nat.le_of_ble_eq_true rfl, Nat.le_of_ble_eq_true rfl⟩ (s_Mk_planSpanned e15) ?_
    show Go k_Mk_accepts 77 [some (.ref a0), some (.ref a1), some (.int v2), none] [.int r13] h14 _
    replace e := ck_as_e e
    obtain ⟨hc_16, e⟩ := e
    cases e
    exact go_ret rfl (ck_rvb rfl hc_16)
  rw [if_neg hx_11] at e
  refine go_lsw (t := 78) rfl rfl (by show ck_tg _ (Op.lookupswitch.offset [(1, 25), (2, 32)] _ _) = _; rw [lv_osw (k := 1) (a := 1) hx_5 rfl, lv_osw (k := 2) (a := 2) hx_11 rfl]; rfl) ?_
  refine go_aload_n rfl rfl ?_
  refine go_aload_n rfl rfl ?_
  refine go_aload_n rfl rfl ?_
  replace e := ck_as_e e
  obtain ⟨hk_17, e⟩ := e
  replace e := ck_some_e e
  obtain ⟨b18, hq_19, e⟩ := e
  refine go_get (v := .ref b18) rfl rfl hk_17 (by decide) (by show va_rf (gR h2 a0 0) = _; rw [hq_19]; rfl) ?_
  replace e := ck_as_e e
  obtain ⟨hk_20, e⟩ := e
  refine go_get (v := .int (gI h2 b18 1)) rfl rfl hk_20 (by decide) rfl ?_
  refine go_iload_n rfl rfl ?_
  refine go_iadd rfl ?_
  replace e := ck_bd_e e
  obtain ⟨r21, h22, e23, e⟩ := e
  refine go_callV (As := [.ref a1, .int ((gI h2 b18 1) + v2)]) (b0 := a0) (rest := []) rfl rfl ⟨hk_17, by decide⟩ rfl ⟨Nat.le_of_ble_eq_true rfl, Nat.le_of_ble_eq_true rfl, Nat.le_of_ble_eq_true rfl, Nat.le_of_ble_eq_true rfl⟩ (s_Mk_planBlock e23) ?_
  show Go k_Mk_accepts 92 [some (.ref a0), some (.ref a1), some (.int v2), none] [.int r21] h22 _
  replace e := ck_as_e e
  obtain ⟨hc_24, e⟩ := e
  cases e
  exact go_ret rfl (ck_rvb rfl hc_24)
def f_Mk_accepts (F : Nat) (a0 : Nat) (a1 : Nat) (v2 : Int32) (h : ck_H) : Option (Int32 × ck_H) :=
  ck_as (gk h a1 = 2) <|
  ck_bd (f_DS_lastBlockTrack F a1 h) fun r2 h3 =>
  ck_as (gk h3 a0 = 3) <|
  ck_then (wI h3 a0 4 r2) fun h6 =>
  ck_as (gk h6 a1 = 2) <|
  ck_bd (f_DS_trackAt F a1 (gI h6 a0 4) h6) fun r9 h10 =>
  ck_opt r9 (
    f_Mk_accepts_J32 F a0 a1 v2 1500 a0 h10
  ) fun b13 =>
  ck_as (gk h10 b13 = 8) <|
  ck_bd (f_Tr_lastEnd F b13 h10) fun r26 h27 =>
  f_Mk_accepts_J32 F a0 a1 v2 r26 a0 h27
set_option maxRecDepth 100000 in
set_option maxHeartbeats 4000000 in
theorem s_Mk_accepts {F : Nat} {a0 : Nat} {a1 : Nat} {v2 : Int32} {h h' : ck_H} {r : Int32} (e : f_Mk_accepts F a0 a1 v2 h = some (r, h')) : Go k_Mk_accepts 0 (ck_in [.ref a0, .ref a1, .int v2] 4) [] h (some (.int r), h') := by
  unfold f_Mk_accepts at e
  show Go k_Mk_accepts 0 [some (.ref a0), some (.ref a1), some (.int v2), none] [] h _
  refine go_aload_n rfl rfl ?_
  refine go_aload_n rfl rfl ?_
  replace e := ck_as_e e
  obtain ⟨hk_1, e⟩ := e
  replace e := ck_bd_e e
  obtain ⟨r2, h3, e4, e⟩ := e
  refine go_callV (As := []) (b0 := a1) (rest := [.ref a0]) rfl rfl ⟨hk_1, by decide⟩ rfl ⟨Nat.le_of_ble_eq_true rfl, Nat.le_of_ble_eq_true rfl, Nat.le_of_ble_eq_true rfl, Nat.le_of_ble_eq_true rfl⟩ (s_DS_lastBlockTrack e4) ?_
  show Go k_Mk_accepts 5 [some (.ref a0), some (.ref a1), some (.int v2), none] [.int r2, .ref a0] h3 _
  replace e := ck_as_e e
  obtain ⟨hk_5, e⟩ := e
  refine go_put (h1 := wI h3 a0 4 r2) rfl rfl hk_5 ⟨by decide, by decide, Or.inl rfl⟩ rfl ?_
  have hk_7 : gk (wI h3 a0 4 r2) a0 = 3 := ck_kI.trans hk_5
  generalize wI h3 a0 4 r2 = h6 at e hk_7 ⊢
  replace e := ck_then_e e
  refine go_aload_n rfl rfl ?_
  refine go_aload_n rfl rfl ?_
  refine go_get (v := .int (gI h6 a0 4)) rfl rfl hk_7 (by decide) rfl ?_
  replace e := ck_as_e e
  obtain ⟨hk_8, e⟩ := e
  replace e := ck_bd_e e
  obtain ⟨r9, h10, e11, e⟩ := e
  refine go_callV (As := [.int (gI h6 a0 4)]) (b0 := a1) (rest := []) rfl rfl ⟨hk_8, by decide⟩ rfl ⟨Nat.le_of_ble_eq_true rfl, Nat.le_of_ble_eq_true rfl, Nat.le_of_ble_eq_true rfl, Nat.le_of_ble_eq_true rfl⟩ (s_DS_trackAt e11) ?_
  replace e := ck_opt_e e
  rcases e with ⟨hq_12, e⟩ | ⟨b13, hq_12, e⟩
  · subst hq_12
    show Go k_Mk_accepts 16 [some (.ref a0), some (.ref a1), some (.int v2), none] [.null] h10 _
    refine go_astore_nN rfl rfl ?_
    show Go k_Mk_accepts 17 [some (.ref a0), some (.ref a1), some (.int v2), some .null] [] h10 _
    refine go_aload_n rfl rfl ?_
    refine go_aload_nN rfl rfl ?_
    refine go_ifnonnullN rfl ?_
    refine go_sipush (v := 1500) rfl (by decide) ?_
    refine go_goto (t := 32) rfl rfl ?_
    refine go_forget (l := [some (.ref a0), some (.ref a1), some (.int v2), none]) ⟨Or.inl rfl, Or.inl rfl, Or.inl rfl, Or.inr ⟨rfl, fun _ q => by cases q; rfl⟩, trivial⟩ ?_
    exact f_Mk_accepts_J32_s F a0 a1 v2 1500 a0 _ _ _ e
  subst hq_12
  show Go k_Mk_accepts 16 [some (.ref a0), some (.ref a1), some (.int v2), none] [.ref b13] h10 _
  refine go_astore_n rfl rfl ?_
  show Go k_Mk_accepts 17 [some (.ref a0), some (.ref a1), some (.int v2), some (.ref b13)] [] h10 _
  refine go_aload_n rfl rfl ?_
  refine go_aload_n rfl rfl ?_
  refine go_ifnonnull (t := 28) rfl rfl ?_
  refine go_aload_n rfl rfl ?_
  replace e := ck_as_e e
  obtain ⟨hk_25, e⟩ := e
  replace e := ck_bd_e e
  obtain ⟨r26, h27, e28, e⟩ := e
  refine go_callV (As := []) (b0 := b13) (rest := [.ref a0]) rfl rfl ⟨hk_25, by decide⟩ rfl ⟨Nat.le_of_ble_eq_true rfl, Nat.le_of_ble_eq_true rfl, Nat.le_of_ble_eq_true rfl, Nat.le_of_ble_eq_true rfl⟩ (s_Tr_lastEnd e28) ?_
  show Go k_Mk_accepts 32 [some (.ref a0), some (.ref a1), some (.int v2), some (.ref b13)] [.int r26, .ref a0] h27 _
  refine go_forget (l := [some (.ref a0), some (.ref a1), some (.int v2), none]) ⟨Or.inl rfl, Or.inl rfl, Or.inl rfl, Or.inr ⟨rfl, fun _ q => by cases q; rfl⟩, trivial⟩ ?_
  exact f_Mk_accepts_J32_s F a0 a1 v2 r26 a0 _ _ _ e
def f_Mk_beginBlock (F : Nat) (a0 : Nat) (h : ck_H) : Option (Unit × ck_H) :=
  ck_as (gk h a0 = 3) <|
  ck_some (gR h a0 0) fun b2 =>
  ck_as (gk h b2 = 6) <|
  if (gI h b2 1) = (0 : Int32) then
    ck_some (gR h a0 0) fun b6 =>
    ck_as (gk h b6 = 6) <|
    ck_bd (f_Rw_addPair F b6 0 h) fun _ h10 =>
    some ((), h10)
  else
    some ((), h)
set_option maxRecDepth 100000 in
set_option maxHeartbeats 4000000 in
theorem s_Mk_beginBlock {F : Nat} {a0 : Nat} {h h' : ck_H} {r : Unit} (e : f_Mk_beginBlock F a0 h = some (r, h')) : Go k_Mk_beginBlock 0 (ck_in [.ref a0] 1) [] h (none, h') := by
  unfold f_Mk_beginBlock at e
  show Go k_Mk_beginBlock 0 [some (.ref a0)] [] h _
  refine go_aload_n rfl rfl ?_
  replace e := ck_as_e e
  obtain ⟨hk_1, e⟩ := e
  replace e := ck_some_e e
  obtain ⟨b2, hq_3, e⟩ := e
  refine go_get (v := .ref b2) rfl rfl hk_1 (by decide) (by show va_rf (gR h a0 0) = _; rw [hq_3]; rfl) ?_
  replace e := ck_as_e e
  obtain ⟨hk_4, e⟩ := e
  refine go_get (v := .int (gI h b2 1)) rfl rfl hk_4 (by decide) rfl ?_
  refine go_if_ne (t := 18) rfl rfl (fun hx_5 => ?_) (fun hx_5 => ?_)
  · rw [if_pos hx_5] at e
    refine go_aload_n rfl rfl ?_
    replace e := ck_some_e e
    obtain ⟨b6, hq_7, e⟩ := e
    refine go_get (v := .ref b6) rfl rfl hk_1 (by decide) (by show va_rf (gR h a0 0) = _; rw [hq_7]; rfl) ?_
    refine go_iconst (v := 0) rfl (by decide) ?_
    replace e := ck_as_e e
    obtain ⟨hk_8, e⟩ := e
    replace e := ck_bd_e e
    obtain ⟨r9, h10, e11, e⟩ := e
    refine go_callV (As := [.int 0]) (b0 := b6) (rest := []) rfl rfl ⟨hk_8, by decide⟩ rfl ⟨Nat.le_of_ble_eq_true rfl, Nat.le_of_ble_eq_true rfl, Nat.le_of_ble_eq_true rfl, Nat.le_of_ble_eq_true rfl⟩ (s_Rw_addPair e11) ?_
    show Go k_Mk_beginBlock 18 [some (.ref a0)] [] h10 _
    cases e
    exact go_ret rfl rfl
  · rw [if_neg hx_5] at e
    cases e
    exact go_ret rfl rfl
def f_Mk_takeVariable_J26 (F : Nat)  (a0 : Nat) (a2 : Nat) (h : ck_H) : Option (Unit × ck_H) :=
  ck_as (gk h a0 = 3) <|
  ck_bd (f_Mk_beginBlock F a0 h) fun _ h3 =>
  ck_as (gk h3 a0 = 3) <|
  ck_some (gR h3 a0 0) fun b6 =>
  ck_as (gk h3 a2 = 6) <|
  ck_as (gk h3 b6 = 6) <|
  ck_bd (f_Rw_addPair F b6 (2 + (gI h3 a2 1)) h3) fun _ h11 =>
  ck_as (gk h11 a0 = 3) <|
  ck_some (gR h11 a0 0) fun b14 =>
  ck_as (gk h11 a2 = 6) <|
  ck_some (gR h11 a2 0) fun b17 =>
  ck_as (gk h11 b14 = 6) <|
  ck_bd (f_Rw_addAll F b14 b17 0 (gI h11 a2 1) h11) fun _ h21 =>
  some ((), h21)
set_option maxRecDepth 100000 in
set_option maxHeartbeats 4000000 in
theorem f_Mk_takeVariable_J26_s (F : Nat)   (a0 : Nat) (a2 : Nat) (h : ck_H) (r : Unit) (h' : ck_H) (e : f_Mk_takeVariable_J26 F  a0 a2 h = some (r, h')) : Go k_Mk_takeVariable 26 [some (.ref a0), none, some (.ref a2)] [] h (none, h') := by
  unfold f_Mk_takeVariable_J26 at e
  refine go_aload_n rfl rfl ?_
  replace e := ck_as_e e
  obtain ⟨hk_1, e⟩ := e
  replace e := ck_bd_e e
  obtain ⟨r2, h3, e4, e⟩ := e
  refine go_callV (As := []) (b0 := a0) (rest := []) rfl rfl ⟨hk_1, by decide⟩ rfl ⟨Nat.le_of_ble_eq_true rfl, Nat.le_of_ble_eq_true rfl, Nat.le_of_ble_eq_true rfl, Nat.le_of_ble_eq_true rfl⟩ (s_Mk_beginBlock e4) ?_
  show Go k_Mk_takeVariable 30 [some (.ref a0), none, some (.ref a2)] [] h3 _
  refine go_aload_n rfl rfl ?_
  replace e := ck_as_e e
  obtain ⟨hk_5, e⟩ := e
  replace e := ck_some_e e
  obtain ⟨b6, hq_7, e⟩ := e
  refine go_get (v := .ref b6) rfl rfl hk_5 (by decide) (by show va_rf (gR h3 a0 0) = _; rw [hq_7]; rfl) ?_
  refine go_iconst (v := 2) rfl (by decide) ?_
  refine go_aload_n rfl rfl ?_
  replace e := ck_as_e e
  obtain ⟨hk_8, e⟩ := e
  refine go_get (v := .int (gI h3 a2 1)) rfl rfl hk_8 (by decide) rfl ?_
  refine go_iadd rfl ?_
  replace e := ck_as_e e
  obtain ⟨hk_9, e⟩ := e
  replace e := ck_bd_e e
  obtain ⟨r10, h11, e12, e⟩ := e
  refine go_callV (As := [.int (2 + (gI h3 a2 1))]) (b0 := b6) (rest := []) rfl rfl ⟨hk_9, by decide⟩ rfl ⟨Nat.le_of_ble_eq_true rfl, Nat.le_of_ble_eq_true rfl, Nat.le_of_ble_eq_true rfl, Nat.le_of_ble_eq_true rfl⟩ (s_Rw_addPair e12) ?_
  show Go k_Mk_takeVariable 43 [some (.ref a0), none, some (.ref a2)] [] h11 _
  refine go_aload_n rfl rfl ?_
  replace e := ck_as_e e
  obtain ⟨hk_13, e⟩ := e
  replace e := ck_some_e e
  obtain ⟨b14, hq_15, e⟩ := e
  refine go_get (v := .ref b14) rfl rfl hk_13 (by decide) (by show va_rf (gR h11 a0 0) = _; rw [hq_15]; rfl) ?_
  refine go_aload_n rfl rfl ?_
  replace e := ck_as_e e
  obtain ⟨hk_16, e⟩ := e
  replace e := ck_some_e e
  obtain ⟨b17, hq_18, e⟩ := e
  refine go_get (v := .ref b17) rfl rfl hk_16 (by decide) (by show va_rf (gR h11 a2 0) = _; rw [hq_18]; rfl) ?_
  refine go_iconst (v := 0) rfl (by decide) ?_
  refine go_aload_n rfl rfl ?_
  refine go_get (v := .int (gI h11 a2 1)) rfl rfl hk_16 (by decide) rfl ?_
  replace e := ck_as_e e
  obtain ⟨hk_19, e⟩ := e
  replace e := ck_bd_e e
  obtain ⟨r20, h21, e22, e⟩ := e
  refine go_callV (As := [.ref b17, .int 0, .int (gI h11 a2 1)]) (b0 := b14) (rest := []) rfl rfl ⟨hk_19, by decide⟩ rfl ⟨Nat.le_of_ble_eq_true rfl, Nat.le_of_ble_eq_true rfl, Nat.le_of_ble_eq_true rfl, Nat.le_of_ble_eq_true rfl⟩ (s_Rw_addAll e22) ?_
  show Go k_Mk_takeVariable 59 [some (.ref a0), none, some (.ref a2)] [] h21 _
  cases e
  exact go_ret rfl rfl
def f_Mk_takeVariable (F : Nat) (a0 : Nat) (a1 : Nat) (a2 : Nat) (h : ck_H) : Option (Unit × ck_H) :=
  ck_as (gk h a0 = 3) <|
  ck_some (gR h a0 0) fun b2 =>
  ck_as (gk h b2 = 6) <|
  ck_as (gk h a2 = 6) <|
  ck_as (gk h a1 = 2) <|
  if (gI h a1 8) < (((gI h b2 1) + 2) + (gI h a2 1)) then
    ck_bd (f_Mk_writeBlock F a0 a1 h) fun _ h9 =>
    f_Mk_takeVariable_J26 F a0 a2 h9
  else
    f_Mk_takeVariable_J26 F a0 a2 h
set_option maxRecDepth 100000 in
set_option maxHeartbeats 4000000 in
theorem s_Mk_takeVariable {F : Nat} {a0 : Nat} {a1 : Nat} {a2 : Nat} {h h' : ck_H} {r : Unit} (e : f_Mk_takeVariable F a0 a1 a2 h = some (r, h')) : Go k_Mk_takeVariable 0 (ck_in [.ref a0, .ref a1, .ref a2] 3) [] h (none, h') := by
  unfold f_Mk_takeVariable at e
  show Go k_Mk_takeVariable 0 [some (.ref a0), some (.ref a1), some (.ref a2)] [] h _
  refine go_aload_n rfl rfl ?_
  replace e := ck_as_e e
  obtain ⟨hk_1, e⟩ := e
  replace e := ck_some_e e
  obtain ⟨b2, hq_3, e⟩ := e
  refine go_get (v := .ref b2) rfl rfl hk_1 (by decide) (by show va_rf (gR h a0 0) = _; rw [hq_3]; rfl) ?_
  replace e := ck_as_e e
  obtain ⟨hk_4, e⟩ := e
  refine go_get (v := .int (gI h b2 1)) rfl rfl hk_4 (by decide) rfl ?_
  refine go_iconst (v := 2) rfl (by decide) ?_
  refine go_iadd rfl ?_
  refine go_aload_n rfl rfl ?_
  replace e := ck_as_e e
  obtain ⟨hk_5, e⟩ := e
  refine go_get (v := .int (gI h a2 1)) rfl rfl hk_5 (by decide) rfl ?_
  refine go_iadd rfl ?_
  refine go_aload_n rfl rfl ?_
  replace e := ck_as_e e
  obtain ⟨hk_6, e⟩ := e
  refine go_get (v := .int (gI h a1 8)) rfl rfl hk_6 (by decide) rfl ?_
  refine go_icmp_le (t := 26) rfl rfl (fun hx_7 => ?_) (fun hx_7 => ?_)
  · rw [if_pos hx_7] at e
    refine go_aload_n rfl rfl ?_
    refine go_aload_n rfl rfl ?_
    replace e := ck_bd_e e
    obtain ⟨r8, h9, e10, e⟩ := e
    refine go_callV (As := [.ref a1]) (b0 := a0) (rest := []) rfl rfl ⟨hk_1, by decide⟩ rfl ⟨Nat.le_of_ble_eq_true rfl, Nat.le_of_ble_eq_true rfl, Nat.le_of_ble_eq_true rfl, Nat.le_of_ble_eq_true rfl⟩ (s_Mk_writeBlock e10) ?_
    show Go k_Mk_takeVariable 26 [some (.ref a0), some (.ref a1), some (.ref a2)] [] h9 _
    refine go_forget (l := [some (.ref a0), none, some (.ref a2)]) ⟨Or.inl rfl, Or.inr ⟨rfl, fun _ q => by cases q; rfl⟩, Or.inl rfl, trivial⟩ ?_
    exact f_Mk_takeVariable_J26_s F a0 a2 _ _ _ e
  · rw [if_neg hx_7] at e
    refine go_forget (l := [some (.ref a0), none, some (.ref a2)]) ⟨Or.inl rfl, Or.inr ⟨rfl, fun _ q => by cases q; rfl⟩, Or.inl rfl, trivial⟩ ?_
    exact f_Mk_takeVariable_J26_s F a0 a2 _ _ _ e
def f_DS_typeOf (F : Nat) (v0 : Int32) (v1 : Int32) (h : ck_H) : Option (Int32 × ck_H) :=
  if v0 = (0 : Int32) then
    if v1 = (0 : Int32) then
      some (3, h)
    else
      some (2, h)
  else
    if v1 = (0 : Int32) then
      some (1, h)
    else
      some (0, h)
set_option maxRecDepth 100000 in
set_option maxHeartbeats 4000000 in
theorem s_DS_typeOf {F : Nat} {v0 : Int32} {v1 : Int32} {h h' : ck_H} {r : Int32} (e : f_DS_typeOf F v0 v1 h = some (r, h')) : Go k_DS_typeOf 0 (ck_in [.int v0, .int v1] 2) [] h (some (.int r), h') := by
  unfold f_DS_typeOf at e
  show Go k_DS_typeOf 0 [some (.int v0), some (.int v1)] [] h _
  refine go_iload_n rfl rfl ?_
  refine go_if_eq (t := 14) rfl rfl (fun hx_1 => ?_) (fun hx_1 => ?_)
  · rw [if_pos hx_1] at e
    refine go_iload_n rfl rfl ?_
    refine go_if_eq (t := 22) rfl rfl (fun hx_2 => ?_) (fun hx_2 => ?_)
    · rw [if_pos hx_2] at e
      refine go_iconst (v := 3) rfl (by decide) ?_
      cases e
      exact go_ret rfl rfl
    · rw [if_neg hx_2] at e
      refine go_iconst (v := 2) rfl (by decide) ?_
      refine go_goto (t := 23) rfl rfl ?_
      cases e
      exact go_ret rfl rfl
  · rw [if_neg hx_1] at e
    refine go_iload_n rfl rfl ?_
    refine go_if_eq (t := 12) rfl rfl (fun hx_3 => ?_) (fun hx_3 => ?_)
    · rw [if_pos hx_3] at e
      refine go_iconst (v := 1) rfl (by decide) ?_
      cases e
      exact go_ret rfl rfl
    · rw [if_neg hx_3] at e
      refine go_iconst (v := 0) rfl (by decide) ?_
      refine go_goto (t := 13) rfl rfl ?_
      cases e
      exact go_ret rfl rfl
def f_Mk_takeSpanned_J121 (F : Nat) (k5 : Nat → Nat → Nat → Int32 → Int32 → ck_H → Option (Unit × ck_H)) (a0 : Nat) (a1 : Nat) (a2 : Nat) (v3 : Int32) (v4 : Int32) (v5 : Int32) (s0 : Int32) (s1 : Int32) (s2 : Nat) (h : ck_H) : Option (Unit × ck_H) :=
  ck_bd (f_DS_typeOf F s1 s0 h) fun r1 h2 =>
  ck_as (gk h2 s2 = 6) <|
  ck_bd (f_Rw_addByte F s2 r1 h2) fun _ h6 =>
  ck_as (gk h6 a0 = 3) <|
  ck_some (gR h6 a0 0) fun b9 =>
  ck_as (gk h6 a2 = 6) <|
  ck_some (gR h6 a2 0) fun b12 =>
  ck_as (gk h6 b9 = 6) <|
  ck_bd (f_Rw_addAll F b9 b12 v3 v5 h6) fun _ h16 =>
  ck_then (v3 + v5) fun x18 =>
  k5 a0 a1 a2 x18 (v4 + 1) h16
set_option maxRecDepth 100000 in
set_option maxHeartbeats 4000000 in
theorem f_Mk_takeSpanned_J121_s (F : Nat) (k5 : Nat → Nat → Nat → Int32 → Int32 → ck_H → Option (Unit × ck_H)) (hk5 : ∀ (a0 : Nat) (a1 : Nat) (a2 : Nat) (v3 : Int32) (v4 : Int32) (h : ck_H) (r : Unit) (h' : ck_H), k5 a0 a1 a2 v3 v4 h = some (r, h') → Go k_Mk_takeSpanned 5 [some (.ref a0), some (.ref a1), some (.ref a2), some (.int v3), some (.int v4), none] [] h (none, h')) (a0 : Nat) (a1 : Nat) (a2 : Nat) (v3 : Int32) (v4 : Int32) (v5 : Int32) (s0 : Int32) (s1 : Int32) (s2 : Nat) (h : ck_H) (r : Unit) (h' : ck_H) (e : f_Mk_takeSpanned_J121 F k5 a0 a1 a2 v3 v4 v5 s0 s1 s2 h = some (r, h')) : Go k_Mk_takeSpanned 121 [some (.ref a0), some (.ref a1), some (.ref a2), some (.int v3), some (.int v4), some (.int v5)] [.int s0, .int s1, .ref s2] h (none, h') := by
  unfold f_Mk_takeSpanned_J121 at e
  replace e := ck_bd_e e
  obtain ⟨r1, h2, e3, e⟩ := e
  refine go_callS (As := [.int s1, .int s0]) (rest := [.ref s2]) rfl rfl rfl ⟨Nat.le_of_ble_eq_true rfl, Nat.le_of_ble_eq_true rfl, Nat.le_of_ble_eq_true rfl, Nat.le_of_ble_eq_true rfl⟩ (s_DS_typeOf e3) ?_
  show Go k_Mk_takeSpanned 124 [some (.ref a0), some (.ref a1), some (.ref a2), some (.int v3), some (.int v4), some (.int v5)] [.int r1, .ref s2] h2 _
  replace e := ck_as_e e
  obtain ⟨hk_4, e⟩ := e
  replace e := ck_bd_e e
  obtain ⟨r5, h6, e7, e⟩ := e
  refine go_callV (As := [.int r1]) (b0 := s2) (rest := []) rfl rfl ⟨hk_4, by decide⟩ rfl ⟨Nat.le_of_ble_eq_true rfl, Nat.le_of_ble_eq_true rfl, Nat.le_of_ble_eq_true rfl, Nat.le_of_ble_eq_true rfl⟩ (s_Rw_addByte e7) ?_
  show Go k_Mk_takeSpanned 127 [some (.ref a0), some (.ref a1), some (.ref a2), some (.int v3), some (.int v4), some (.int v5)] [] h6 _
  refine go_aload_n rfl rfl ?_
  replace e := ck_as_e e
  obtain ⟨hk_8, e⟩ := e
  replace e := ck_some_e e
  obtain ⟨b9, hq_10, e⟩ := e
  refine go_get (v := .ref b9) rfl rfl hk_8 (by decide) (by show va_rf (gR h6 a0 0) = _; rw [hq_10]; rfl) ?_
  refine go_aload_n rfl rfl ?_
  replace e := ck_as_e e
  obtain ⟨hk_11, e⟩ := e
  replace e := ck_some_e e
  obtain ⟨b12, hq_13, e⟩ := e
  refine go_get (v := .ref b12) rfl rfl hk_11 (by decide) (by show va_rf (gR h6 a2 0) = _; rw [hq_13]; rfl) ?_
  refine go_iload_n rfl rfl ?_
  refine go_iload rfl rfl ?_
  replace e := ck_as_e e
  obtain ⟨hk_14, e⟩ := e
  replace e := ck_bd_e e
  obtain ⟨r15, h16, e17, e⟩ := e
  refine go_callV (As := [.ref b12, .int v3, .int v5]) (b0 := b9) (rest := []) rfl rfl ⟨hk_14, by decide⟩ rfl ⟨Nat.le_of_ble_eq_true rfl, Nat.le_of_ble_eq_true rfl, Nat.le_of_ble_eq_true rfl, Nat.le_of_ble_eq_true rfl⟩ (s_Rw_addAll e17) ?_
  show Go k_Mk_takeSpanned 141 [some (.ref a0), some (.ref a1), some (.ref a2), some (.int v3), some (.int v4), some (.int v5)] [] h16 _
  refine go_iload_n rfl rfl ?_
  refine go_iload rfl rfl ?_
  refine go_iadd rfl ?_
  generalize v3 + v5 = x18 at e ⊢
  replace e := ck_then_e e
  refine go_istore_n rfl rfl ?_
  show Go k_Mk_takeSpanned 146 [some (.ref a0), some (.ref a1), some (.ref a2), some (.int x18), some (.int v4), some (.int v5)] [] h16 _
  refine go_iinc (v := 1) rfl rfl (by decide) rfl ?_
  show Go k_Mk_takeSpanned 149 [some (.ref a0), some (.ref a1), some (.ref a2), some (.int x18), some (.int (v4 + 1)), some (.int v5)] [] h16 _
  refine go_goto (t := 5) rfl rfl ?_
  refine go_forget (l := [some (.ref a0), some (.ref a1), some (.ref a2), some (.int x18), some (.int (v4 + 1)), none]) ⟨Or.inl rfl, Or.inl rfl, Or.inl rfl, Or.inl rfl, Or.inl rfl, Or.inr ⟨rfl, fun _ q => by cases q; rfl⟩, trivial⟩ ?_
  exact hk5 _ _ _ _ _ _ _ _ e
def f_Mk_takeSpanned_J105 (F : Nat) (k5 : Nat → Nat → Nat → Int32 → Int32 → ck_H → Option (Unit × ck_H)) (a0 : Nat) (a1 : Nat) (a2 : Nat) (v3 : Int32) (v4 : Int32) (v5 : Int32) (s0 : Int32) (s1 : Nat) (h : ck_H) : Option (Unit × ck_H) :=
  ck_as (gk h a2 = 6) <|
  if (v3 + v5) = (gI h a2 1) then
    f_Mk_takeSpanned_J121 F k5 a0 a1 a2 v3 v4 v5 1 s0 s1 h
  else
    f_Mk_takeSpanned_J121 F k5 a0 a1 a2 v3 v4 v5 0 s0 s1 h
set_option maxRecDepth 100000 in
set_option maxHeartbeats 4000000 in
theorem f_Mk_takeSpanned_J105_s (F : Nat) (k5 : Nat → Nat → Nat → Int32 → Int32 → ck_H → Option (Unit × ck_H)) (hk5 : ∀ (a0 : Nat) (a1 : Nat) (a2 : Nat) (v3 : Int32) (v4 : Int32) (h : ck_H) (r : Unit) (h' : ck_H), k5 a0 a1 a2 v3 v4 h = some (r, h') → Go k_Mk_takeSpanned 5 [some (.ref a0), some (.ref a1), some (.ref a2), some (.int v3), some (.int v4), none] [] h (none, h')) (a0 : Nat) (a1 : Nat) (a2 : Nat) (v3 : Int32) (v4 : Int32) (v5 : Int32) (s0 : Int32) (s1 : Nat) (h : ck_H) (r : Unit) (h' : ck_H) (e : f_Mk_takeSpanned_J105 F k5 a0 a1 a2 v3 v4 v5 s0 s1 h = some (r, h')) : Go k_Mk_takeSpanned 105 [some (.ref a0), some (.ref a1), some (.ref a2), some (.int v3), some (.int v4), some (.int v5)] [.int s0, .ref s1] h (none, h') := by
  unfold f_Mk_takeSpanned_J105 at e
  refine go_iload_n rfl rfl ?_
  refine go_iload rfl rfl ?_
  refine go_iadd rfl ?_
  refine go_aload_n rfl rfl ?_
  replace e := ck_as_e e
  obtain ⟨hk_1, e⟩ := e
  refine go_get (v := .int (gI h a2 1)) rfl rfl hk_1 (by decide) rfl ?_
  refine go_icmp_ne (t := 120) rfl rfl (fun hx_2 => ?_) (fun hx_2 => ?_)
  · rw [if_pos hx_2] at e
    refine go_iconst (v := 1) rfl (by decide) ?_
    refine go_goto (t := 121) rfl rfl ?_
    refine go_forget (l := [some (.ref a0), some (.ref a1), some (.ref a2), some (.int v3), some (.int v4), some (.int v5)]) ⟨Or.inl rfl, Or.inl rfl, Or.inl rfl, Or.inl rfl, Or.inl rfl, Or.inl rfl, trivial⟩ ?_
    exact f_Mk_takeSpanned_J121_s F k5 hk5 a0 a1 a2 v3 v4 v5 1 s0 s1 _ _ _ e
  · rw [if_neg hx_2] at e
    refine go_iconst (v := 0) rfl (by decide) ?_
    refine go_forget (l := [some (.ref a0), some (.ref a1), some (.ref a2), some (.int v3), some (.int v4), some (.int v5)]) ⟨Or.inl rfl, Or.inl rfl, Or.inl rfl, Or.inl rfl, Or.inl rfl, Or.inl rfl, trivial⟩ ?_
    exact f_Mk_takeSpanned_J121_s F k5 hk5 a0 a1 a2 v3 v4 v5 0 s0 s1 _ _ _ e
def f_Mk_takeSpanned_J52 (F : Nat) (k5 : Nat → Nat → Nat → Int32 → Int32 → ck_H → Option (Unit × ck_H)) (a0 : Nat) (a1 : Nat) (a2 : Nat) (v3 : Int32) (v4 : Int32) (h : ck_H) : Option (Unit × ck_H) :=
  ck_as (gk h a0 = 3) <|
  ck_bd (f_Mk_beginBlock F a0 h) fun _ h3 =>
  ck_as (gk h3 a2 = 6) <|
  ck_as (gk h3 a1 = 2) <|
  ck_as (gk h3 a0 = 3) <|
  ck_some (gR h3 a0 0) fun b8 =>
  ck_as (gk h3 b8 = 6) <|
  ck_bd (f_Ma_min F ((gI h3 a2 1) - v3) (((gI h3 a1 8) - (gI h3 b8 1)) - 3) h3) fun r11 h12 =>
  ck_as (gk h12 a0 = 3) <|
  ck_some (gR h12 a0 0) fun b15 =>
  ck_as (gk h12 b15 = 6) <|
  ck_bd (f_Rw_addPair F b15 (3 + r11) h12) fun _ h19 =>
  ck_as (gk h19 a0 = 3) <|
  ck_some (gR h19 a0 0) fun b22 =>
  if v3 = (0 : Int32) then
    f_Mk_takeSpanned_J105 F k5 a0 a1 a2 v3 v4 r11 1 b22 h19
  else
    f_Mk_takeSpanned_J105 F k5 a0 a1 a2 v3 v4 r11 0 b22 h19
set_option maxRecDepth 100000 in
set_option maxHeartbeats 4000000 in
theorem f_Mk_takeSpanned_J52_s (F : Nat) (k5 : Nat → Nat → Nat → Int32 → Int32 → ck_H → Option (Unit × ck_H)) (hk5 : ∀ (a0 : Nat) (a1 : Nat) (a2 : Nat) (v3 : Int32) (v4 : Int32) (h : ck_H) (r : Unit) (h' : ck_H), k5 a0 a1 a2 v3 v4 h = some (r, h') → Go k_Mk_takeSpanned 5 [some (.ref a0), some (.ref a1), some (.ref a2), some (.int v3), some (.int v4), none] [] h (none, h')) (a0 : Nat) (a1 : Nat) (a2 : Nat) (v3 : Int32) (v4 : Int32) (h : ck_H) (r : Unit) (h' : ck_H) (e : f_Mk_takeSpanned_J52 F k5 a0 a1 a2 v3 v4 h = some (r, h')) : Go k_Mk_takeSpanned 52 [some (.ref a0), some (.ref a1), some (.ref a2), some (.int v3), some (.int v4), none] [] h (none, h') := by
  unfold f_Mk_takeSpanned_J52 at e
  refine go_aload_n rfl rfl ?_
  replace e := ck_as_e e
  obtain ⟨hk_1, e⟩ := e
  replace e := ck_bd_e e
  obtain ⟨r2, h3, e4, e⟩ := e
  refine go_callV (As := []) (b0 := a0) (rest := []) rfl rfl ⟨hk_1, by decide⟩ rfl ⟨Nat.le_of_ble_eq_true rfl, Nat.le_of_ble_eq_true rfl, Nat.le_of_ble_eq_true rfl, Nat.le_of_ble_eq_true rfl⟩ (s_Mk_beginBlock e4) ?_
  show Go k_Mk_takeSpanned 56 [some (.ref a0), some (.ref a1), some (.ref a2), some (.int v3), some (.int v4), none] [] h3 _
  refine go_aload_n rfl rfl ?_
  replace e := ck_as_e e
  obtain ⟨hk_5, e⟩ := e
  refine go_get (v := .int (gI h3 a2 1)) rfl rfl hk_5 (by decide) rfl ?_
  refine go_iload_n rfl rfl ?_
  refine go_isub rfl ?_
  refine go_aload_n rfl rfl ?_
  replace e := ck_as_e e
  obtain ⟨hk_6, e⟩ := e
  refine go_get (v := .int (gI h3 a1 8)) rfl rfl hk_6 (by decide) rfl ?_
  refine go_aload_n rfl rfl ?_
  replace e := ck_as_e e
  obtain ⟨hk_7, e⟩ := e
  replace e := ck_some_e e
  obtain ⟨b8, hq_9, e⟩ := e
  refine go_get (v := .ref b8) rfl rfl hk_7 (by decide) (by show va_rf (gR h3 a0 0) = _; rw [hq_9]; rfl) ?_
  replace e := ck_as_e e
  obtain ⟨hk_10, e⟩ := e
  refine go_get (v := .int (gI h3 b8 1)) rfl rfl hk_10 (by decide) rfl ?_
  refine go_isub rfl ?_
  refine go_iconst (v := 3) rfl (by decide) ?_
  refine go_isub rfl ?_
  replace e := ck_bd_e e
  obtain ⟨r11, h12, e13, e⟩ := e
  refine go_callS (As := [.int ((gI h3 a2 1) - v3), .int (((gI h3 a1 8) - (gI h3 b8 1)) - 3)]) (rest := []) rfl rfl rfl ⟨Nat.le_of_ble_eq_true rfl, Nat.le_of_ble_eq_true rfl, Nat.le_of_ble_eq_true rfl, Nat.le_of_ble_eq_true rfl⟩ (s_Ma_min e13) ?_
  show Go k_Mk_takeSpanned 79 [some (.ref a0), some (.ref a1), some (.ref a2), some (.int v3), some (.int v4), none] [.int r11] h12 _
  refine go_istore rfl rfl ?_
  show Go k_Mk_takeSpanned 81 [some (.ref a0), some (.ref a1), some (.ref a2), some (.int v3), some (.int v4), some (.int r11)] [] h12 _
  refine go_aload_n rfl rfl ?_
  replace e := ck_as_e e
  obtain ⟨hk_14, e⟩ := e
  replace e := ck_some_e e
  obtain ⟨b15, hq_16, e⟩ := e
  refine go_get (v := .ref b15) rfl rfl hk_14 (by decide) (by show va_rf (gR h12 a0 0) = _; rw [hq_16]; rfl) ?_
  refine go_iconst (v := 3) rfl (by decide) ?_
  refine go_iload rfl rfl ?_
  refine go_iadd rfl ?_
  replace e := ck_as_e e
  obtain ⟨hk_17, e⟩ := e
  replace e := ck_bd_e e
  obtain ⟨r18, h19, e20, e⟩ := e
  refine go_callV (As := [.int (3 + r11)]) (b0 := b15) (rest := []) rfl rfl ⟨hk_17, by decide⟩ rfl ⟨Nat.le_of_ble_eq_true rfl, Nat.le_of_ble_eq_true rfl, Nat.le_of_ble_eq_true rfl, Nat.le_of_ble_eq_true rfl⟩ (s_Rw_addPair e20) ?_
  show Go k_Mk_takeSpanned 92 [some (.ref a0), some (.ref a1), some (.ref a2), some (.int v3), some (.int v4), some (.int r11)] [] h19 _
  refine go_aload_n rfl rfl ?_
  replace e := ck_as_e e
  obtain ⟨hk_21, e⟩ := e
  replace e := ck_some_e e
  obtain ⟨b22, hq_23, e⟩ := e
  refine go_get (v := .ref b22) rfl rfl hk_21 (by decide) (by show va_rf (gR h19 a0 0) = _; rw [hq_23]; rfl) ?_
  refine go_iload_n rfl rfl ?_
  refine go_if_ne (t := 104) rfl rfl (fun hx_24 => ?_) (fun hx_24 => ?_)
  · rw [if_pos hx_24] at e
    refine go_iconst (v := 1) rfl (by decide) ?_
    refine go_goto (t := 105) rfl rfl ?_
    refine go_forget (l := [some (.ref a0), some (.ref a1), some (.ref a2), some (.int v3), some (.int v4), some (.int r11)]) ⟨Or.inl rfl, Or.inl rfl, Or.inl rfl, Or.inl rfl, Or.inl rfl, Or.inl rfl, trivial⟩ ?_
    exact f_Mk_takeSpanned_J105_s F k5 hk5 a0 a1 a2 v3 v4 r11 1 b22 _ _ _ e
  · rw [if_neg hx_24] at e
    refine go_iconst (v := 0) rfl (by decide) ?_
    refine go_forget (l := [some (.ref a0), some (.ref a1), some (.ref a2), some (.int v3), some (.int v4), some (.int r11)]) ⟨Or.inl rfl, Or.inl rfl, Or.inl rfl, Or.inl rfl, Or.inl rfl, Or.inl rfl, trivial⟩ ?_
    exact f_Mk_takeSpanned_J105_s F k5 hk5 a0 a1 a2 v3 v4 r11 0 b22 _ _ _ e
def f_Mk_takeSpanned_J25 (F : Nat) (k5 : Nat → Nat → Nat → Int32 → Int32 → ck_H → Option (Unit × ck_H)) (a0 : Nat) (a1 : Nat) (a2 : Nat) (v3 : Int32) (v4 : Int32) (h : ck_H) : Option (Unit × ck_H) :=
  ck_as (gk h a1 = 2) <|
  ck_as (gk h a0 = 3) <|
  ck_some (gR h a0 0) fun b3 =>
  ck_as (gk h b3 = 6) <|
  ck_as (gk h a2 = 6) <|
  ck_bd (f_Mk_leastFree F (gI h a2 1) h) fun r7 h8 =>
  if ((gI h a1 8) - (gI h b3 1)) < r7 then
    ck_as (gk h8 a0 = 3) <|
    ck_bd (f_Mk_writeBlock F a0 a1 h8) fun _ h13 =>
    f_Mk_takeSpanned_J52 F k5 a0 a1 a2 v3 v4 h13
  else
    f_Mk_takeSpanned_J52 F k5 a0 a1 a2 v3 v4 h8
set_option maxRecDepth 100000 in
set_option maxHeartbeats 4000000 in
theorem f_Mk_takeSpanned_J25_s (F : Nat) (k5 : Nat → Nat → Nat → Int32 → Int32 → ck_H → Option (Unit × ck_H)) (hk5 : ∀ (a0 : Nat) (a1 : Nat) (a2 : Nat) (v3 : Int32) (v4 : Int32) (h : ck_H) (r : Unit) (h' : ck_H), k5 a0 a1 a2 v3 v4 h = some (r, h') → Go k_Mk_takeSpanned 5 [some (.ref a0), some (.ref a1), some (.ref a2), some (.int v3), some (.int v4), none] [] h (none, h')) (a0 : Nat) (a1 : Nat) (a2 : Nat) (v3 : Int32) (v4 : Int32) (h : ck_H) (r : Unit) (h' : ck_H) (e : f_Mk_takeSpanned_J25 F k5 a0 a1 a2 v3 v4 h = some (r, h')) : Go k_Mk_takeSpanned 25 [some (.ref a0), some (.ref a1), some (.ref a2), some (.int v3), some (.int v4), none] [] h (none, h') := by
  unfold f_Mk_takeSpanned_J25 at e
  refine go_aload_n rfl rfl ?_
  replace e := ck_as_e e
  obtain ⟨hk_1, e⟩ := e
  refine go_get (v := .int (gI h a1 8)) rfl rfl hk_1 (by decide) rfl ?_
  refine go_aload_n rfl rfl ?_
  replace e := ck_as_e e
  obtain ⟨hk_2, e⟩ := e
  replace e := ck_some_e e
  obtain ⟨b3, hq_4, e⟩ := e
  refine go_get (v := .ref b3) rfl rfl hk_2 (by decide) (by show va_rf (gR h a0 0) = _; rw [hq_4]; rfl) ?_
  replace e := ck_as_e e
  obtain ⟨hk_5, e⟩ := e
  refine go_get (v := .int (gI h b3 1)) rfl rfl hk_5 (by decide) rfl ?_
  refine go_isub rfl ?_
  refine go_aload_n rfl rfl ?_
  replace e := ck_as_e e
  obtain ⟨hk_6, e⟩ := e
  refine go_get (v := .int (gI h a2 1)) rfl rfl hk_6 (by decide) rfl ?_
  replace e := ck_bd_e e
  obtain ⟨r7, h8, e9, e⟩ := e
  refine go_callS (As := [.int (gI h a2 1)]) (rest := [.int ((gI h a1 8) - (gI h b3 1))]) rfl rfl rfl ⟨Nat.le_of_ble_eq_true rfl, Nat.le_of_ble_eq_true rfl, Nat.le_of_ble_eq_true rfl, Nat.le_of_ble_eq_true rfl⟩ (s_Mk_leastFree e9) ?_
  show Go k_Mk_takeSpanned 44 [some (.ref a0), some (.ref a1), some (.ref a2), some (.int v3), some (.int v4), none] [.int r7, .int ((gI h a1 8) - (gI h b3 1))] h8 _
  refine go_icmp_ge (t := 52) rfl rfl (fun hx_10 => ?_) (fun hx_10 => ?_)
  · rw [if_pos hx_10] at e
    refine go_aload_n rfl rfl ?_
    refine go_aload_n rfl rfl ?_
    replace e := ck_as_e e
    obtain ⟨hk_11, e⟩ := e
    replace e := ck_bd_e e
    obtain ⟨r12, h13, e14, e⟩ := e
    refine go_callV (As := [.ref a1]) (b0 := a0) (rest := []) rfl rfl ⟨hk_11, by decide⟩ rfl ⟨Nat.le_of_ble_eq_true rfl, Nat.le_of_ble_eq_true rfl, Nat.le_of_ble_eq_true rfl, Nat.le_of_ble_eq_true rfl⟩ (s_Mk_writeBlock e14) ?_
    show Go k_Mk_takeSpanned 52 [some (.ref a0), some (.ref a1), some (.ref a2), some (.int v3), some (.int v4), none] [] h13 _
    refine go_forget (l := [some (.ref a0), some (.ref a1), some (.ref a2), some (.int v3), some (.int v4), none]) ⟨Or.inl rfl, Or.inl rfl, Or.inl rfl, Or.inl rfl, Or.inl rfl, Or.inl rfl, trivial⟩ ?_
    exact f_Mk_takeSpanned_J52_s F k5 hk5 a0 a1 a2 v3 v4 _ _ _ e
  · rw [if_neg hx_10] at e
    refine go_forget (l := [some (.ref a0), some (.ref a1), some (.ref a2), some (.int v3), some (.int v4), none]) ⟨Or.inl rfl, Or.inl rfl, Or.inl rfl, Or.inl rfl, Or.inl rfl, Or.inl rfl, trivial⟩ ?_
    exact f_Mk_takeSpanned_J52_s F k5 hk5 a0 a1 a2 v3 v4 _ _ _ e
def f_Mk_takeSpanned_L5 (F : Nat)  : Nat → Nat → Nat → Nat → Int32 → Int32 → ck_H → Option (Unit × ck_H)
  | 0, _, _, _, _, _, _ => none
  | n + 1, a0, a1, a2, v3, v4, h =>
    if v4 = (0 : Int32) then
      f_Mk_takeSpanned_J25 F (f_Mk_takeSpanned_L5 F n) a0 a1 a2 v3 v4 h
    else
      ck_as (gk h a2 = 6) <|
      if v3 < (gI h a2 1) then
        if v4 < (1000000 : Int32) then
          f_Mk_takeSpanned_J25 F (f_Mk_takeSpanned_L5 F n) a0 a1 a2 v3 v4 h
        else
          some ((), h)
      else
        some ((), h)
set_option maxRecDepth 100000 in
set_option maxHeartbeats 4000000 in
theorem f_Mk_takeSpanned_L5_s (F : Nat)   : ∀ (n : Nat) (a0 : Nat) (a1 : Nat) (a2 : Nat) (v3 : Int32) (v4 : Int32) (h : ck_H) (r : Unit) (h' : ck_H), f_Mk_takeSpanned_L5 F n a0 a1 a2 v3 v4 h = some (r, h') → Go k_Mk_takeSpanned 5 [some (.ref a0), some (.ref a1), some (.ref a2), some (.int v3), some (.int v4), none] [] h (none, h') := by
  intro n
  induction n with
  | zero => intro a0 a1 a2 v3 v4 h r h' e; simp only [f_Mk_takeSpanned_L5] at e; cases e
  | succ n ih =>
    intro a0 a1 a2 v3 v4 h r h' e
    rw [f_Mk_takeSpanned_L5] at e
    refine go_iload rfl rfl ?_
    refine go_if_eq (t := 25) rfl rfl (fun hx_1 => ?_) (fun hx_1 => ?_)
    · rw [if_pos hx_1] at e
      refine go_forget (l := [some (.ref a0), some (.ref a1), some (.ref a2), some (.int v3), some (.int v4), none]) ⟨Or.inl rfl, Or.inl rfl, Or.inl rfl, Or.inl rfl, Or.inl rfl, Or.inl rfl, trivial⟩ ?_
      exact f_Mk_takeSpanned_J25_s F (f_Mk_takeSpanned_L5 F n) ih a0 a1 a2 v3 v4 _ _ _ e
    · rw [if_neg hx_1] at e
      refine go_iload_n rfl rfl ?_
      refine go_aload_n rfl rfl ?_
      replace e := ck_as_e e
      obtain ⟨hk_25, e⟩ := e
      refine go_get (v := .int (gI h a2 1)) rfl rfl hk_25 (by decide) rfl ?_
      refine go_icmp_ge (t := 152) rfl rfl (fun hx_26 => ?_) (fun hx_26 => ?_)
      · rw [if_pos hx_26] at e
        refine go_iload rfl rfl ?_
        refine go_ldc (v := 1000000) rfl rfl ?_
        refine go_icmp_ge (t := 152) rfl rfl (fun hx_27 => ?_) (fun hx_27 => ?_)
        · rw [if_pos hx_27] at e
          refine go_forget (l := [some (.ref a0), some (.ref a1), some (.ref a2), some (.int v3), some (.int v4), none]) ⟨Or.inl rfl, Or.inl rfl, Or.inl rfl, Or.inl rfl, Or.inl rfl, Or.inl rfl, trivial⟩ ?_
          exact f_Mk_takeSpanned_J25_s F (f_Mk_takeSpanned_L5 F n) ih a0 a1 a2 v3 v4 _ _ _ e
        · rw [if_neg hx_27] at e
          cases e
          exact go_ret rfl rfl
      · rw [if_neg hx_26] at e
        cases e
        exact go_ret rfl rfl
def f_Mk_takeSpanned (F : Nat) (a0 : Nat) (a1 : Nat) (a2 : Nat) (h : ck_H) : Option (Unit × ck_H) :=
  f_Mk_takeSpanned_L5 F F a0 a1 a2 0 0 h
set_option maxRecDepth 100000 in
set_option maxHeartbeats 4000000 in
theorem s_Mk_takeSpanned {F : Nat} {a0 : Nat} {a1 : Nat} {a2 : Nat} {h h' : ck_H} {r : Unit} (e : f_Mk_takeSpanned F a0 a1 a2 h = some (r, h')) : Go k_Mk_takeSpanned 0 (ck_in [.ref a0, .ref a1, .ref a2] 6) [] h (none, h') := by
  unfold f_Mk_takeSpanned at e
  show Go k_Mk_takeSpanned 0 [some (.ref a0), some (.ref a1), some (.ref a2), none, none, none] [] h _
  refine go_iconst (v := 0) rfl (by decide) ?_
  refine go_istore_n rfl rfl ?_
  show Go k_Mk_takeSpanned 2 [some (.ref a0), some (.ref a1), some (.ref a2), some (.int 0), none, none] [] h _
  refine go_iconst (v := 0) rfl (by decide) ?_
  refine go_istore rfl rfl ?_
  show Go k_Mk_takeSpanned 5 [some (.ref a0), some (.ref a1), some (.ref a2), some (.int 0), some (.int 0), none] [] h _
  refine go_forget (l := [some (.ref a0), some (.ref a1), some (.ref a2), some (.int 0), some (.int 0), none]) ⟨Or.inl rfl, Or.inl rfl, Or.inl rfl, Or.inl rfl, Or.inl rfl, Or.inl rfl, trivial⟩ ?_
  exact f_Mk_takeSpanned_L5_s F F _ _ _ _ _ _ _ _ e
def f_Mk_takeFixed (F : Nat) (a0 : Nat) (a1 : Nat) (a2 : Nat) (h : ck_H) : Option (Unit × ck_H) :=
  ck_as (gk h a0 = 3) <|
  ck_some (gR h a0 0) fun b2 =>
  ck_as (gk h a2 = 6) <|
  ck_some (gR h a2 0) fun b5 =>
  ck_as (gk h b2 = 6) <|
  ck_bd (f_Rw_addAll F b2 b5 0 (gI h a2 1) h) fun _ h9 =>
  ck_as (gk h9 a0 = 3) <|
  ck_some (gR h9 a0 0) fun b12 =>
  ck_as (gk h9 b12 = 6) <|
  ck_as (gk h9 a1 = 2) <|
  if (gI h9 b12 1) < ((gI h9 a1 7) * (gI h9 a1 8)) then
    some ((), h9)
  else
    ck_bd (f_Mk_writeBlock F a0 a1 h9) fun _ h18 =>
    some ((), h18)
set_option maxRecDepth 100000 in
set_option maxHeartbeats 4000000 in
theorem s_Mk_takeFixed {F : Nat} {a0 : Nat} {a1 : Nat} {a2 : Nat} {h h' : ck_H} {r : Unit} (e : f_Mk_takeFixed F a0 a1 a2 h = some (r, h')) : Go k_Mk_takeFixed 0 (ck_in [.ref a0, .ref a1, .ref a2] 3) [] h (none, h') := by
  unfold f_Mk_takeFixed at e
  show Go k_Mk_takeFixed 0 [some (.ref a0), some (.ref a1), some (.ref a2)] [] h _
  refine go_aload_n rfl rfl ?_
  replace e := ck_as_e e
  obtain ⟨hk_1, e⟩ := e
  replace e := ck_some_e e
  obtain ⟨b2, hq_3, e⟩ := e
  refine go_get (v := .ref b2) rfl rfl hk_1 (by decide) (by show va_rf (gR h a0 0) = _; rw [hq_3]; rfl) ?_
  refine go_aload_n rfl rfl ?_
  replace e := ck_as_e e
  obtain ⟨hk_4, e⟩ := e
  replace e := ck_some_e e
  obtain ⟨b5, hq_6, e⟩ := e
  refine go_get (v := .ref b5) rfl rfl hk_4 (by decide) (by show va_rf (gR h a2 0) = _; rw [hq_6]; rfl) ?_
  refine go_iconst (v := 0) rfl (by decide) ?_
  refine go_aload_n rfl rfl ?_
  refine go_get (v := .int (gI h a2 1)) rfl rfl hk_4 (by decide) rfl ?_
  replace e := ck_as_e e
  obtain ⟨hk_7, e⟩ := e
  replace e := ck_bd_e e
  obtain ⟨r8, h9, e10, e⟩ := e
  refine go_callV (As := [.ref b5, .int 0, .int (gI h a2 1)]) (b0 := b2) (rest := []) rfl rfl ⟨hk_7, by decide⟩ rfl ⟨Nat.le_of_ble_eq_true rfl, Nat.le_of_ble_eq_true rfl, Nat.le_of_ble_eq_true rfl, Nat.le_of_ble_eq_true rfl⟩ (s_Rw_addAll e10) ?_
  show Go k_Mk_takeFixed 16 [some (.ref a0), some (.ref a1), some (.ref a2)] [] h9 _
  refine go_aload_n rfl rfl ?_
  replace e := ck_as_e e
  obtain ⟨hk_11, e⟩ := e
  replace e := ck_some_e e
  obtain ⟨b12, hq_13, e⟩ := e
  refine go_get (v := .ref b12) rfl rfl hk_11 (by decide) (by show va_rf (gR h9 a0 0) = _; rw [hq_13]; rfl) ?_
  replace e := ck_as_e e
  obtain ⟨hk_14, e⟩ := e
  refine go_get (v := .int (gI h9 b12 1)) rfl rfl hk_14 (by decide) rfl ?_
  refine go_aload_n rfl rfl ?_
  replace e := ck_as_e e
  obtain ⟨hk_15, e⟩ := e
  refine go_get (v := .int (gI h9 a1 7)) rfl rfl hk_15 (by decide) rfl ?_
  refine go_aload_n rfl rfl ?_
  refine go_get (v := .int (gI h9 a1 8)) rfl rfl hk_15 (by decide) rfl ?_
  refine go_imul rfl ?_
  refine go_icmp_lt (t := 40) rfl rfl (fun hx_16 => ?_) (fun hx_16 => ?_)
  · rw [if_pos hx_16] at e
    cases e
    exact go_ret rfl rfl
  · rw [if_neg hx_16] at e
    refine go_aload_n rfl rfl ?_
    refine go_aload_n rfl rfl ?_
    replace e := ck_bd_e e
    obtain ⟨r17, h18, e19, e⟩ := e
    refine go_callV (As := [.ref a1]) (b0 := a0) (rest := []) rfl rfl ⟨hk_11, by decide⟩ rfl ⟨Nat.le_of_ble_eq_true rfl, Nat.le_of_ble_eq_true rfl, Nat.le_of_ble_eq_true rfl, Nat.le_of_ble_eq_true rfl⟩ (s_Mk_writeBlock e19) ?_
    show Go k_Mk_takeFixed 40 [some (.ref a0), some (.ref a1), some (.ref a2)] [] h18 _
    cases e
    exact go_ret rfl rfl
def f_Mk_take (F : Nat) (a0 : Nat) (a1 : Nat) (a2 : Nat) (h : ck_H) : Option (Unit × ck_H) :=
  ck_as (gk h a1 = 2) <|
  if (gI h a1 6) = 1 then
    ck_as (gk h a0 = 3) <|
    ck_bd (f_Mk_takeVariable F a0 a1 a2 h) fun _ h5 =>
    some ((), h5)
  else
  if (gI h a1 6) = 2 then
    ck_as (gk h a0 = 3) <|
    ck_bd (f_Mk_takeSpanned F a0 a1 a2 h) fun _ h10 =>
    some ((), h10)
  else
    ck_as (gk h a0 = 3) <|
    ck_bd (f_Mk_takeFixed F a0 a1 a2 h) fun _ h14 =>
    some ((), h14)
set_option maxRecDepth 100000 in
set_option maxHeartbeats 4000000 in
theorem s_Mk_take {F : Nat} {a0 : Nat} {a1 : Nat} {a2 : Nat} {h h' : ck_H} {r : Unit} (e : f_Mk_take F a0 a1 a2 h = some (r, h')) : Go k_Mk_take 0 (ck_in [.ref a0, .ref a1, .ref a2] 3) [] h (none, h') := by
  unfold f_Mk_take at e
  show Go k_Mk_take 0 [some (.ref a0), some (.ref a1), some (.ref a2)] [] h _
  refine go_aload_n rfl rfl ?_
  replace e := ck_as_e e
  obtain ⟨hk_1, e⟩ := e
  refine go_get (v := .int (gI h a1 6)) rfl rfl hk_1 (by decide) rfl ?_
  by_cases hx_2 : (gI h a1 6) = 1
  · rw [if_pos hx_2] at e
    refine go_lsw (t := 32) rfl rfl (by rw [hx_2]; rfl) ?_
    refine go_aload_n rfl rfl ?_
    refine go_aload_n rfl rfl ?_
    refine go_aload_n rfl rfl ?_
    replace e := ck_as_e e
    obtain ⟨hk_3, e⟩ := e
    replace e := ck_bd_e e
    obtain ⟨r4, h5, e6, e⟩ := e
    refine go_callV (As := [.ref a1, .ref a2]) (b0 := a0) (rest := []) rfl rfl ⟨hk_3, by decide⟩ rfl ⟨Nat.le_of_ble_eq_true rfl, Nat.le_of_ble_eq_true rfl, Nat.le_of_ble_eq_true rfl, Nat.le_of_ble_eq_true rfl⟩ (s_Mk_takeVariable e6) ?_
    show Go k_Mk_take 38 [some (.ref a0), some (.ref a1), some (.ref a2)] [] h5 _
    refine go_goto (t := 56) rfl rfl ?_
    cases e
    exact go_ret rfl rfl
  rw [if_neg hx_2] at e
  by_cases hx_7 : (gI h a1 6) = 2
  · rw [if_pos hx_7] at e
    refine go_lsw (t := 41) rfl rfl (by rw [hx_7]; rfl) ?_
    refine go_aload_n rfl rfl ?_
    refine go_aload_n rfl rfl ?_
    refine go_aload_n rfl rfl ?_
    replace e := ck_as_e e
    obtain ⟨hk_8, e⟩ := e
    replace e := ck_bd_e e
    obtain ⟨r9, h10, e11, e⟩ := e
    refine go_callV (As := [.ref a1, .ref a2]) (b0 := a0) (rest := []) rfl rfl ⟨hk_8, by decide⟩ rfl ⟨Nat.le_of_ble_eq_true rfl, Nat.le_of_ble_eq_true rfl, Nat.le_of_ble_eq_true rfl, Nat.le_of_ble_eq_true rfl⟩ (s_Mk_takeSpanned e11) ?_
    show Go k_Mk_take 47 [some (.ref a0), some (.ref a1), some (.ref a2)] [] h10 _
    refine go_goto (t := 56) rfl rfl ?_
    cases e
    exact go_ret rfl rfl
  rw [if_neg hx_7] at e
  refine go_lsw (t := 50) rfl rfl (by show ck_tg _ (Op.lookupswitch.offset [(1, 28), (2, 37)] _ _) = _; rw [lv_osw (k := 1) (a := 1) hx_2 rfl, lv_osw (k := 2) (a := 2) hx_7 rfl]; rfl) ?_
  refine go_aload_n rfl rfl ?_
  refine go_aload_n rfl rfl ?_
  refine go_aload_n rfl rfl ?_
  replace e := ck_as_e e
  obtain ⟨hk_12, e⟩ := e
  replace e := ck_bd_e e
  obtain ⟨r13, h14, e15, e⟩ := e
  refine go_callV (As := [.ref a1, .ref a2]) (b0 := a0) (rest := []) rfl rfl ⟨hk_12, by decide⟩ rfl ⟨Nat.le_of_ble_eq_true rfl, Nat.le_of_ble_eq_true rfl, Nat.le_of_ble_eq_true rfl, Nat.le_of_ble_eq_true rfl⟩ (s_Mk_takeFixed e15) ?_
  show Go k_Mk_take 56 [some (.ref a0), some (.ref a1), some (.ref a2)] [] h14 _
  cases e
  exact go_ret rfl rfl
def f_Op_putRecord (F : Nat) (a0 : Nat) (a1 : Nat) (h : ck_H) : Option (Int32 × ck_H) :=
  ck_as (gk h a0 = 5) <|
  ck_opt (gR h a0 4) (
    some ((-3), h)
  ) fun b3 =>
  if (gI h a0 8) = (1 : Int32) then
    ck_as (gk h a1 = 6) <|
    ck_bd (f_Op_hasLength F a0 (gI h a1 1) h) fun r6 h7 =>
    if r6 = (0 : Int32) then
      some ((-5), h7)
    else
      ck_as (gk h7 a0 = 5) <|
      ck_some (gR h7 a0 0) fun b11 =>
      ck_some (gR h7 a0 4) fun b13 =>
      ck_as (gk h7 a1 = 6) <|
      ck_as (gk h7 b11 = 3) <|
      ck_bd (f_Mk_accepts F b11 b13 (gI h7 a1 1) h7) fun r17 h18 =>
      if r17 = (0 : Int32) then
        some ((-4), h18)
      else
        ck_as (gk h18 a0 = 5) <|
        ck_some (gR h18 a0 0) fun b22 =>
        ck_some (gR h18 a0 4) fun b24 =>
        ck_as (gk h18 b22 = 3) <|
        ck_bd (f_Mk_take F b22 b24 a1 h18) fun _ h28 =>
        ck_as (gk h28 a0 = 5) <|
        ck_then (wI h28 a0 9 ((gI h28 a0 9) + 1)) fun h31 =>
        some (1, h31)
  else
    some ((-3), h)
set_option maxRecDepth 100000 in
set_option maxHeartbeats 4000000 in
theorem s_Op_putRecord {F : Nat} {a0 : Nat} {a1 : Nat} {h h' : ck_H} {r : Int32} (e : f_Op_putRecord F a0 a1 h = some (r, h')) : Go k_Op_putRecord 0 (ck_in [.ref a0, .ref a1] 2) [] h (some (.int r), h') := by
  unfold f_Op_putRecord at e
  show Go k_Op_putRecord 0 [some (.ref a0), some (.ref a1)] [] h _
  refine go_aload_n rfl rfl ?_
  replace e := ck_as_e e
  obtain ⟨hk_1, e⟩ := e
  replace e := ck_opt_e e
  rcases e with ⟨hq_2, e⟩ | ⟨b3, hq_2, e⟩
  · refine go_get (v := .null) rfl rfl hk_1 (by decide) (by show va_rf (gR h a0 4) = _; rw [hq_2]; rfl) ?_
    refine go_ifnullN (t := 15) rfl rfl ?_
    refine go_bipush (v := (-3)) rfl (by decide) ?_
    cases e
    exact go_ret rfl rfl
  refine go_get (v := .ref b3) rfl rfl hk_1 (by decide) (by show va_rf (gR h a0 4) = _; rw [hq_2]; rfl) ?_
  refine go_ifnull rfl ?_
  refine go_aload_n rfl rfl ?_
  refine go_get (v := .int (gI h a0 8)) rfl rfl hk_1 (by decide) rfl ?_
  refine go_iconst (v := 1) rfl (by decide) ?_
  refine go_icmp_eq (t := 18) rfl rfl (fun hx_4 => ?_) (fun hx_4 => ?_)
  · rw [if_pos hx_4] at e
    refine go_aload_n rfl rfl ?_
    refine go_aload_n rfl rfl ?_
    replace e := ck_as_e e
    obtain ⟨hk_5, e⟩ := e
    refine go_get (v := .int (gI h a1 1)) rfl rfl hk_5 (by decide) rfl ?_
    replace e := ck_bd_e e
    obtain ⟨r6, h7, e8, e⟩ := e
    refine go_callV (As := [.int (gI h a1 1)]) (b0 := a0) (rest := []) rfl rfl ⟨hk_1, by decide⟩ rfl ⟨Nat.le_of_ble_eq_true rfl, Nat.le_of_ble_eq_true rfl, Nat.le_of_ble_eq_true rfl, Nat.le_of_ble_eq_true rfl⟩ (s_Op_hasLength e8) ?_
    show Go k_Op_putRecord 26 [some (.ref a0), some (.ref a1)] [.int r6] h7 _
    refine go_if_ne (t := 32) rfl rfl (fun hx_9 => ?_) (fun hx_9 => ?_)
    · rw [if_pos hx_9] at e
      refine go_bipush (v := (-5)) rfl (by decide) ?_
      cases e
      exact go_ret rfl rfl
    · rw [if_neg hx_9] at e
      refine go_aload_n rfl rfl ?_
      replace e := ck_as_e e
      obtain ⟨hk_10, e⟩ := e
      replace e := ck_some_e e
      obtain ⟨b11, hq_12, e⟩ := e
      refine go_get (v := .ref b11) rfl rfl hk_10 (by decide) (by show va_rf (gR h7 a0 0) = _; rw [hq_12]; rfl) ?_
      refine go_aload_n rfl rfl ?_
      replace e := ck_some_e e
      obtain ⟨b13, hq_14, e⟩ := e
      refine go_get (v := .ref b13) rfl rfl hk_10 (by decide) (by show va_rf (gR h7 a0 4) = _; rw [hq_14]; rfl) ?_
      refine go_aload_n rfl rfl ?_
      replace e := ck_as_e e
      obtain ⟨hk_15, e⟩ := e
      refine go_get (v := .int (gI h7 a1 1)) rfl rfl hk_15 (by decide) rfl ?_
      replace e := ck_as_e e
      obtain ⟨hk_16, e⟩ := e
      replace e := ck_bd_e e
      obtain ⟨r17, h18, e19, e⟩ := e
      refine go_callV (As := [.ref b13, .int (gI h7 a1 1)]) (b0 := b11) (rest := []) rfl rfl ⟨hk_16, by decide⟩ rfl ⟨Nat.le_of_ble_eq_true rfl, Nat.le_of_ble_eq_true rfl, Nat.le_of_ble_eq_true rfl, Nat.le_of_ble_eq_true rfl⟩ (s_Mk_accepts e19) ?_
      show Go k_Op_putRecord 47 [some (.ref a0), some (.ref a1)] [.int r17] h18 _
      refine go_if_ne (t := 53) rfl rfl (fun hx_20 => ?_) (fun hx_20 => ?_)
      · rw [if_pos hx_20] at e
        refine go_bipush (v := (-4)) rfl (by decide) ?_
        cases e
        exact go_ret rfl rfl
      · rw [if_neg hx_20] at e
        refine go_aload_n rfl rfl ?_
        replace e := ck_as_e e
        obtain ⟨hk_21, e⟩ := e
        replace e := ck_some_e e
        obtain ⟨b22, hq_23, e⟩ := e
        refine go_get (v := .ref b22) rfl rfl hk_21 (by decide) (by show va_rf (gR h18 a0 0) = _; rw [hq_23]; rfl) ?_
        refine go_aload_n rfl rfl ?_
        replace e := ck_some_e e
        obtain ⟨b24, hq_25, e⟩ := e
        refine go_get (v := .ref b24) rfl rfl hk_21 (by decide) (by show va_rf (gR h18 a0 4) = _; rw [hq_25]; rfl) ?_
        refine go_aload_n rfl rfl ?_
        replace e := ck_as_e e
        obtain ⟨hk_26, e⟩ := e
        replace e := ck_bd_e e
        obtain ⟨r27, h28, e29, e⟩ := e
        refine go_callV (As := [.ref b24, .ref a1]) (b0 := b22) (rest := []) rfl rfl ⟨hk_26, by decide⟩ rfl ⟨Nat.le_of_ble_eq_true rfl, Nat.le_of_ble_eq_true rfl, Nat.le_of_ble_eq_true rfl, Nat.le_of_ble_eq_true rfl⟩ (s_Mk_take e29) ?_
        show Go k_Op_putRecord 65 [some (.ref a0), some (.ref a1)] [] h28 _
        refine go_aload_n rfl rfl ?_
        refine go_dup rfl rfl ?_
        replace e := ck_as_e e
        obtain ⟨hk_30, e⟩ := e
        refine go_get (v := .int (gI h28 a0 9)) rfl rfl hk_30 (by decide) rfl ?_
        refine go_iconst (v := 1) rfl (by decide) ?_
        refine go_iadd rfl ?_
        refine go_put (h1 := wI h28 a0 9 ((gI h28 a0 9) + 1)) rfl rfl hk_30 ⟨by decide, by decide, Or.inl rfl⟩ rfl ?_
        have hk_32 : gk (wI h28 a0 9 ((gI h28 a0 9) + 1)) a0 = 5 := ck_kI.trans hk_30
        generalize wI h28 a0 9 ((gI h28 a0 9) + 1) = h31 at e hk_32 ⊢
        replace e := ck_then_e e
        refine go_iconst (v := 1) rfl (by decide) ?_
        cases e
        exact go_ret rfl rfl
  · rw [if_neg hx_4] at e
    refine go_bipush (v := (-3)) rfl (by decide) ?_
    cases e
    exact go_ret rfl rfl
def f_CS_put (F : Nat) (a0 : Nat) (v1 : Int32) (h : ck_H) : Option (Int32 × ck_H) :=
  ck_as (gk h a0 = 11) <|
  ck_bd (f_CS_openingAt F a0 v1 h) fun r2 h3 =>
  ck_opt r2 (
    ck_as (gk h3 a0 = 11) <|
    ck_some (gR h3 a0 0) fun b8 =>
    ck_as (gk h3 b8 = 6) <|
    ck_then (wI h3 b8 1 0) fun h11 =>
    some ((-1), h11)
  ) fun b6 =>
  ck_as (gk h3 a0 = 11) <|
  ck_some (gR h3 a0 0) fun b15 =>
  ck_as (gk h3 b6 = 5) <|
  ck_bd (f_Op_putRecord F b6 b15 h3) fun r18 h19 =>
  ck_as (gk h19 a0 = 11) <|
  ck_some (gR h19 a0 0) fun b22 =>
  ck_as (gk h19 b22 = 6) <|
  ck_then (wI h19 b22 1 0) fun h25 =>
  some (r18, h25)
set_option maxRecDepth 100000 in
set_option maxHeartbeats 4000000 in
theorem s_CS_put {F : Nat} {a0 : Nat} {v1 : Int32} {h h' : ck_H} {r : Int32} (e : f_CS_put F a0 v1 h = some (r, h')) : Go k_CS_put 0 (ck_in [.ref a0, .int v1] 4) [] h (some (.int r), h') := by
  unfold f_CS_put at e
  show Go k_CS_put 0 [some (.ref a0), some (.int v1), none, none] [] h _
  refine go_aload_n rfl rfl ?_
  refine go_iload_n rfl rfl ?_
  replace e := ck_as_e e
  obtain ⟨hk_1, e⟩ := e
  replace e := ck_bd_e e
  obtain ⟨r2, h3, e4, e⟩ := e
  refine go_callV (As := [.int v1]) (b0 := a0) (rest := []) rfl rfl ⟨hk_1, by decide⟩ rfl ⟨Nat.le_of_ble_eq_true rfl, Nat.le_of_ble_eq_true rfl, Nat.le_of_ble_eq_true rfl, Nat.le_of_ble_eq_true rfl⟩ (s_CS_openingAt e4) ?_
  replace e := ck_opt_e e
  rcases e with ⟨hq_5, e⟩ | ⟨b6, hq_5, e⟩
  · subst hq_5
    show Go k_CS_put 5 [some (.ref a0), some (.int v1), none, none] [.null] h3 _
    refine go_astore_nN rfl rfl ?_
    show Go k_CS_put 6 [some (.ref a0), some (.int v1), some .null, none] [] h3 _
    refine go_aload_nN rfl rfl ?_
    refine go_ifnonnullN rfl ?_
    refine go_iconst (v := (-1)) rfl (by decide) ?_
    refine go_goto (t := 22) rfl rfl ?_
    refine go_istore_n rfl rfl ?_
    show Go k_CS_put 23 [some (.ref a0), some (.int v1), some .null, some (.int (-1))] [] h3 _
    refine go_aload_n rfl rfl ?_
    replace e := ck_as_e e
    obtain ⟨hk_7, e⟩ := e
    replace e := ck_some_e e
    obtain ⟨b8, hq_9, e⟩ := e
    refine go_get (v := .ref b8) rfl rfl hk_7 (by decide) (by show va_rf (gR h3 a0 0) = _; rw [hq_9]; rfl) ?_
    refine go_iconst (v := 0) rfl (by decide) ?_
    replace e := ck_as_e e
    obtain ⟨hk_10, e⟩ := e
    refine go_put (h1 := wI h3 b8 1 0) rfl rfl hk_10 ⟨by decide, by decide, Or.inl rfl⟩ rfl ?_
    have hk_12 : gk (wI h3 b8 1 0) a0 = 11 := ck_kI.trans hk_7
    have hk_13 : gk (wI h3 b8 1 0) b8 = 6 := ck_kI.trans hk_10
    generalize wI h3 b8 1 0 = h11 at e hk_12 hk_13 ⊢
    replace e := ck_then_e e
    refine go_iload_n rfl rfl ?_
    cases e
    exact go_ret rfl rfl
  subst hq_5
  show Go k_CS_put 5 [some (.ref a0), some (.int v1), none, none] [.ref b6] h3 _
  refine go_astore_n rfl rfl ?_
  show Go k_CS_put 6 [some (.ref a0), some (.int v1), some (.ref b6), none] [] h3 _
  refine go_aload_n rfl rfl ?_
  refine go_ifnonnull (t := 14) rfl rfl ?_
  refine go_aload_n rfl rfl ?_
  refine go_aload_n rfl rfl ?_
  replace e := ck_as_e e
  obtain ⟨hk_14, e⟩ := e
  replace e := ck_some_e e
  obtain ⟨b15, hq_16, e⟩ := e
  refine go_get (v := .ref b15) rfl rfl hk_14 (by decide) (by show va_rf (gR h3 a0 0) = _; rw [hq_16]; rfl) ?_
  replace e := ck_as_e e
  obtain ⟨hk_17, e⟩ := e
  replace e := ck_bd_e e
  obtain ⟨r18, h19, e20, e⟩ := e
  refine go_callV (As := [.ref b15]) (b0 := b6) (rest := []) rfl rfl ⟨hk_17, by decide⟩ rfl ⟨Nat.le_of_ble_eq_true rfl, Nat.le_of_ble_eq_true rfl, Nat.le_of_ble_eq_true rfl, Nat.le_of_ble_eq_true rfl⟩ (s_Op_putRecord e20) ?_
  show Go k_CS_put 22 [some (.ref a0), some (.int v1), some (.ref b6), none] [.int r18] h19 _
  refine go_istore_n rfl rfl ?_
  show Go k_CS_put 23 [some (.ref a0), some (.int v1), some (.ref b6), some (.int r18)] [] h19 _
  refine go_aload_n rfl rfl ?_
  replace e := ck_as_e e
  obtain ⟨hk_21, e⟩ := e
  replace e := ck_some_e e
  obtain ⟨b22, hq_23, e⟩ := e
  refine go_get (v := .ref b22) rfl rfl hk_21 (by decide) (by show va_rf (gR h19 a0 0) = _; rw [hq_23]; rfl) ?_
  refine go_iconst (v := 0) rfl (by decide) ?_
  replace e := ck_as_e e
  obtain ⟨hk_24, e⟩ := e
  refine go_put (h1 := wI h19 b22 1 0) rfl rfl hk_24 ⟨by decide, by decide, Or.inl rfl⟩ rfl ?_
  have hk_26 : gk (wI h19 b22 1 0) a0 = 11 := ck_kI.trans hk_21
  have hk_27 : gk (wI h19 b22 1 0) b22 = 6 := ck_kI.trans hk_24
  generalize wI h19 b22 1 0 = h25 at e hk_26 hk_27 ⊢
  replace e := ck_then_e e
  refine go_iload_n rfl rfl ?_
  cases e
  exact go_ret rfl rfl
def f_Sp_passBlock (F : Nat) (a0 : Nat) (h : ck_H) : Option (Unit × ck_H) :=
  ck_as (gk h a0 = 7) <|
  ck_then (wI h a0 1 ((gI h a0 1) + 1)) fun h2 =>
  ck_then (wI h2 a0 2 0) fun h4 =>
  ck_then (wI h4 a0 3 ((gI h4 a0 3) - 1)) fun h6 =>
  some ((), h6)
set_option maxRecDepth 100000 in
set_option maxHeartbeats 4000000 in
theorem s_Sp_passBlock {F : Nat} {a0 : Nat} {h h' : ck_H} {r : Unit} (e : f_Sp_passBlock F a0 h = some (r, h')) : Go k_Sp_passBlock 0 (ck_in [.ref a0] 1) [] h (none, h') := by
  unfold f_Sp_passBlock at e
  show Go k_Sp_passBlock 0 [some (.ref a0)] [] h _
  refine go_aload_n rfl rfl ?_
  refine go_dup rfl rfl ?_
  replace e := ck_as_e e
  obtain ⟨hk_1, e⟩ := e
  refine go_get (v := .int (gI h a0 1)) rfl rfl hk_1 (by decide) rfl ?_
  refine go_iconst (v := 1) rfl (by decide) ?_
  refine go_iadd rfl ?_
  refine go_put (h1 := wI h a0 1 ((gI h a0 1) + 1)) rfl rfl hk_1 ⟨by decide, by decide, Or.inl rfl⟩ rfl ?_
  have hk_3 : gk (wI h a0 1 ((gI h a0 1) + 1)) a0 = 7 := ck_kI.trans hk_1
  generalize wI h a0 1 ((gI h a0 1) + 1) = h2 at e hk_3 ⊢
  replace e := ck_then_e e
  refine go_aload_n rfl rfl ?_
  refine go_iconst (v := 0) rfl (by decide) ?_
  refine go_put (h1 := wI h2 a0 2 0) rfl rfl hk_3 ⟨by decide, by decide, Or.inl rfl⟩ rfl ?_
  have hk_5 : gk (wI h2 a0 2 0) a0 = 7 := ck_kI.trans hk_3
  generalize wI h2 a0 2 0 = h4 at e hk_5 ⊢
  replace e := ck_then_e e
  refine go_aload_n rfl rfl ?_
  refine go_dup rfl rfl ?_
  refine go_get (v := .int (gI h4 a0 3)) rfl rfl hk_5 (by decide) rfl ?_
  refine go_iconst (v := 1) rfl (by decide) ?_
  refine go_isub rfl ?_
  refine go_put (h1 := wI h4 a0 3 ((gI h4 a0 3) - 1)) rfl rfl hk_5 ⟨by decide, by decide, Or.inl rfl⟩ rfl ?_
  have hk_7 : gk (wI h4 a0 3 ((gI h4 a0 3) - 1)) a0 = 7 := ck_kI.trans hk_5
  generalize wI h4 a0 3 ((gI h4 a0 3) - 1) = h6 at e hk_7 ⊢
  replace e := ck_then_e e
  cases e
  exact go_ret rfl rfl
def f_Sp_settle_L2 (F : Nat)  : Nat → Nat → Nat → Int32 → ck_H → Option (Option Nat × ck_H)
  | 0, _, _, _, _ => none
  | n + 1, a0, a1, v2, h =>
    if v2 < (1000000 : Int32) then
      ck_as (gk h a0 = 7) <|
      if (0 : Int32) < (gI h a0 3) then
        ck_as (gk h a1 = 2) <|
        ck_bd (f_DS_trackAt F a1 (gI h a0 0) h) fun r5 h6 =>
        ck_opt r5 (
          some (none, h6)
        ) fun b9 =>
        ck_as (gk h6 a0 = 7) <|
        ck_as (gk h6 b9 = 8) <|
        ck_bd (f_Tr_has F b9 (gI h6 a0 1) h6) fun r12 h13 =>
        if r12 = (0 : Int32) then
          ck_as (gk h13 a0 = 7) <|
          ck_then (wI h13 a0 0 ((gI h13 a0 0) + 1)) fun h17 =>
          ck_then (wI h17 a0 1 0) fun h19 =>
          ck_then (wI h19 a0 2 0) fun h21 =>
          f_Sp_settle_L2 F n a0 a1 (v2 + 1) h21
        else
          ck_as (gk h13 a0 = 7) <|
          ck_as (gk h13 b9 = 8) <|
          ck_bd (f_Tr_dataLength F b9 (gI h13 a0 1) h13) fun r25 h26 =>
          if (gI h13 a0 2) < r25 then
            some (some b9, h26)
          else
            ck_as (gk h26 a0 = 7) <|
            ck_bd (f_Sp_passBlock F a0 h26) fun _ h31 =>
            f_Sp_settle_L2 F n a0 a1 (v2 + 1) h31
      else
        some (none, h)
    else
      some (none, h)
set_option maxRecDepth 100000 in
set_option maxHeartbeats 4000000 in
theorem f_Sp_settle_L2_s (F : Nat)   : ∀ (n : Nat) (a0 : Nat) (a1 : Nat) (v2 : Int32) (h : ck_H) (r : Option Nat) (h' : ck_H), f_Sp_settle_L2 F n a0 a1 v2 h = some (r, h') → Go k_Sp_settle 2 [some (.ref a0), some (.ref a1), some (.int v2), none] [] h (some (va_rf r), h') := by
  intro n
  induction n with
  | zero => intro a0 a1 v2 h r h' e; simp only [f_Sp_settle_L2] at e; cases e
  | succ n ih =>
    intro a0 a1 v2 h r h' e
    rw [f_Sp_settle_L2] at e
    refine go_iload_n rfl rfl ?_
    refine go_ldc (v := 1000000) rfl rfl ?_
    refine go_icmp_ge (t := 94) rfl rfl (fun hx_1 => ?_) (fun hx_1 => ?_)
    · rw [if_pos hx_1] at e
      refine go_aload_n rfl rfl ?_
      replace e := ck_as_e e
      obtain ⟨hk_2, e⟩ := e
      refine go_get (v := .int (gI h a0 3)) rfl rfl hk_2 (by decide) rfl ?_
      refine go_if_le (t := 94) rfl rfl (fun hx_3 => ?_) (fun hx_3 => ?_)
      · rw [if_pos hx_3] at e
        refine go_aload_n rfl rfl ?_
        refine go_aload_n rfl rfl ?_
        refine go_get (v := .int (gI h a0 0)) rfl rfl hk_2 (by decide) rfl ?_
        replace e := ck_as_e e
        obtain ⟨hk_4, e⟩ := e
        replace e := ck_bd_e e
        obtain ⟨r5, h6, e7, e⟩ := e
        refine go_callV (As := [.int (gI h a0 0)]) (b0 := a1) (rest := []) rfl rfl ⟨hk_4, by decide⟩ rfl ⟨Nat.le_of_ble_eq_true rfl, Nat.le_of_ble_eq_true rfl, Nat.le_of_ble_eq_true rfl, Nat.le_of_ble_eq_true rfl⟩ (s_DS_trackAt e7) ?_
        replace e := ck_opt_e e
        rcases e with ⟨hq_8, e⟩ | ⟨b9, hq_8, e⟩
        · subst hq_8
          show Go k_Sp_settle 23 [some (.ref a0), some (.ref a1), some (.int v2), none] [.null] h6 _
          refine go_astore_nN rfl rfl ?_
          show Go k_Sp_settle 24 [some (.ref a0), some (.ref a1), some (.int v2), some .null] [] h6 _
          refine go_aload_nN rfl rfl ?_
          refine go_ifnonnullN rfl ?_
          refine go_null rfl ?_
          cases e
          exact go_ret rfl rfl
        subst hq_8
        show Go k_Sp_settle 23 [some (.ref a0), some (.ref a1), some (.int v2), none] [.ref b9] h6 _
        refine go_astore_n rfl rfl ?_
        show Go k_Sp_settle 24 [some (.ref a0), some (.ref a1), some (.int v2), some (.ref b9)] [] h6 _
        refine go_aload_n rfl rfl ?_
        refine go_ifnonnull (t := 30) rfl rfl ?_
        refine go_aload_n rfl rfl ?_
        refine go_aload_n rfl rfl ?_
        replace e := ck_as_e e
        obtain ⟨hk_10, e⟩ := e
        refine go_get (v := .int (gI h6 a0 1)) rfl rfl hk_10 (by decide) rfl ?_
        replace e := ck_as_e e
        obtain ⟨hk_11, e⟩ := e
        replace e := ck_bd_e e
        obtain ⟨r12, h13, e14, e⟩ := e
        refine go_callV (As := [.int (gI h6 a0 1)]) (b0 := b9) (rest := []) rfl rfl ⟨hk_11, by decide⟩ rfl ⟨Nat.le_of_ble_eq_true rfl, Nat.le_of_ble_eq_true rfl, Nat.le_of_ble_eq_true rfl, Nat.le_of_ble_eq_true rfl⟩ (s_Tr_has e14) ?_
        show Go k_Sp_settle 38 [some (.ref a0), some (.ref a1), some (.int v2), some (.ref b9)] [.int r12] h13 _
        refine go_if_ne (t := 64) rfl rfl (fun hx_15 => ?_) (fun hx_15 => ?_)
        · rw [if_pos hx_15] at e
          refine go_aload_n rfl rfl ?_
          refine go_dup rfl rfl ?_
          replace e := ck_as_e e
          obtain ⟨hk_16, e⟩ := e
          refine go_get (v := .int (gI h13 a0 0)) rfl rfl hk_16 (by decide) rfl ?_
          refine go_iconst (v := 1) rfl (by decide) ?_
          refine go_iadd rfl ?_
          refine go_put (h1 := wI h13 a0 0 ((gI h13 a0 0) + 1)) rfl rfl hk_16 ⟨by decide, by decide, Or.inl rfl⟩ rfl ?_
          have hk_18 : gk (wI h13 a0 0 ((gI h13 a0 0) + 1)) a0 = 7 := ck_kI.trans hk_16
          generalize wI h13 a0 0 ((gI h13 a0 0) + 1) = h17 at e hk_18 ⊢
          replace e := ck_then_e e
          refine go_aload_n rfl rfl ?_
          refine go_iconst (v := 0) rfl (by decide) ?_
          refine go_put (h1 := wI h17 a0 1 0) rfl rfl hk_18 ⟨by decide, by decide, Or.inl rfl⟩ rfl ?_
          have hk_20 : gk (wI h17 a0 1 0) a0 = 7 := ck_kI.trans hk_18
          generalize wI h17 a0 1 0 = h19 at e hk_20 ⊢
          replace e := ck_then_e e
          refine go_aload_n rfl rfl ?_
          refine go_iconst (v := 0) rfl (by decide) ?_
          refine go_put (h1 := wI h19 a0 2 0) rfl rfl hk_20 ⟨by decide, by decide, Or.inl rfl⟩ rfl ?_
          have hk_22 : gk (wI h19 a0 2 0) a0 = 7 := ck_kI.trans hk_20
          generalize wI h19 a0 2 0 = h21 at e hk_22 ⊢
          replace e := ck_then_e e
          refine go_goto (t := 88) rfl rfl ?_
          refine go_iinc (v := 1) rfl rfl (by decide) rfl ?_
          show Go k_Sp_settle 91 [some (.ref a0), some (.ref a1), some (.int (v2 + 1)), some (.ref b9)] [] h21 _
          refine go_goto (t := 2) rfl rfl ?_
          refine go_forget (l := [some (.ref a0), some (.ref a1), some (.int (v2 + 1)), none]) ⟨Or.inl rfl, Or.inl rfl, Or.inl rfl, Or.inr ⟨rfl, fun _ q => by cases q; rfl⟩, trivial⟩ ?_
          exact ih _ _ _ _ _ _ e
        · rw [if_neg hx_15] at e
          refine go_aload_n rfl rfl ?_
          replace e := ck_as_e e
          obtain ⟨hk_23, e⟩ := e
          refine go_get (v := .int (gI h13 a0 2)) rfl rfl hk_23 (by decide) rfl ?_
          refine go_aload_n rfl rfl ?_
          refine go_aload_n rfl rfl ?_
          refine go_get (v := .int (gI h13 a0 1)) rfl rfl hk_23 (by decide) rfl ?_
          replace e := ck_as_e e
          obtain ⟨hk_24, e⟩ := e
          replace e := ck_bd_e e
          obtain ⟨r25, h26, e27, e⟩ := e
          refine go_callV (As := [.int (gI h13 a0 1)]) (b0 := b9) (rest := [.int (gI h13 a0 2)]) rfl rfl ⟨hk_24, by decide⟩ rfl ⟨Nat.le_of_ble_eq_true rfl, Nat.le_of_ble_eq_true rfl, Nat.le_of_ble_eq_true rfl, Nat.le_of_ble_eq_true rfl⟩ (s_Tr_dataLength e27) ?_
          show Go k_Sp_settle 76 [some (.ref a0), some (.ref a1), some (.int v2), some (.ref b9)] [.int r25, .int (gI h13 a0 2)] h26 _
          refine go_icmp_lt (t := 86) rfl rfl (fun hx_28 => ?_) (fun hx_28 => ?_)
          · rw [if_pos hx_28] at e
            refine go_aload_n rfl rfl ?_
            cases e
            exact go_ret rfl rfl
          · rw [if_neg hx_28] at e
            refine go_aload_n rfl rfl ?_
            replace e := ck_as_e e
            obtain ⟨hk_29, e⟩ := e
            replace e := ck_bd_e e
            obtain ⟨r30, h31, e32, e⟩ := e
            refine go_callV (As := []) (b0 := a0) (rest := []) rfl rfl ⟨hk_29, by decide⟩ rfl ⟨Nat.le_of_ble_eq_true rfl, Nat.le_of_ble_eq_true rfl, Nat.le_of_ble_eq_true rfl, Nat.le_of_ble_eq_true rfl⟩ (s_Sp_passBlock e32) ?_
            show Go k_Sp_settle 83 [some (.ref a0), some (.ref a1), some (.int v2), some (.ref b9)] [] h31 _
            refine go_goto (t := 88) rfl rfl ?_
            refine go_iinc (v := 1) rfl rfl (by decide) rfl ?_
            show Go k_Sp_settle 91 [some (.ref a0), some (.ref a1), some (.int (v2 + 1)), some (.ref b9)] [] h31 _
            refine go_goto (t := 2) rfl rfl ?_
            refine go_forget (l := [some (.ref a0), some (.ref a1), some (.int (v2 + 1)), none]) ⟨Or.inl rfl, Or.inl rfl, Or.inl rfl, Or.inr ⟨rfl, fun _ q => by cases q; rfl⟩, trivial⟩ ?_
            exact ih _ _ _ _ _ _ e
      · rw [if_neg hx_3] at e
        refine go_null rfl ?_
        cases e
        exact go_ret rfl rfl
    · rw [if_neg hx_1] at e
      refine go_null rfl ?_
      cases e
      exact go_ret rfl rfl
def f_Sp_settle (F : Nat) (a0 : Nat) (a1 : Nat) (h : ck_H) : Option (Option Nat × ck_H) :=
  f_Sp_settle_L2 F F a0 a1 0 h
set_option maxRecDepth 100000 in
set_option maxHeartbeats 4000000 in
theorem s_Sp_settle {F : Nat} {a0 : Nat} {a1 : Nat} {h h' : ck_H} {r : Option Nat} (e : f_Sp_settle F a0 a1 h = some (r, h')) : Go k_Sp_settle 0 (ck_in [.ref a0, .ref a1] 4) [] h (some (va_rf r), h') := by
  unfold f_Sp_settle at e
  show Go k_Sp_settle 0 [some (.ref a0), some (.ref a1), none, none] [] h _
  refine go_iconst (v := 0) rfl (by decide) ?_
  refine go_istore_n rfl rfl ?_
  show Go k_Sp_settle 2 [some (.ref a0), some (.ref a1), some (.int 0), none] [] h _
  refine go_forget (l := [some (.ref a0), some (.ref a1), some (.int 0), none]) ⟨Or.inl rfl, Or.inl rfl, Or.inl rfl, Or.inl rfl, trivial⟩ ?_
  exact f_Sp_settle_L2_s F F _ _ _ _ _ _ e
def f_Sp_entersBlock (F : Nat) (a0 : Nat) (h : ck_H) : Option (Int32 × ck_H) :=
  ck_as (gk h a0 = 7) <|
  if (gI h a0 2) = (0 : Int32) then
    some (1, h)
  else
    some (0, h)
set_option maxRecDepth 100000 in
set_option maxHeartbeats 4000000 in
theorem s_Sp_entersBlock {F : Nat} {a0 : Nat} {h h' : ck_H} {r : Int32} (e : f_Sp_entersBlock F a0 h = some (r, h')) : Go k_Sp_entersBlock 0 (ck_in [.ref a0] 1) [] h (some (.int r), h') := by
  unfold f_Sp_entersBlock at e
  show Go k_Sp_entersBlock 0 [some (.ref a0)] [] h _
  refine go_aload_n rfl rfl ?_
  replace e := ck_as_e e
  obtain ⟨hk_1, e⟩ := e
  refine go_get (v := .int (gI h a0 2)) rfl rfl hk_1 (by decide) rfl ?_
  refine go_if_ne (t := 11) rfl rfl (fun hx_2 => ?_) (fun hx_2 => ?_)
  · rw [if_pos hx_2] at e
    refine go_iconst (v := 1) rfl (by decide) ?_
    refine go_goto (t := 12) rfl rfl ?_
    cases e
    exact go_ret rfl (ck_rvb rfl (Or.inr rfl))
  · rw [if_neg hx_2] at e
    refine go_iconst (v := 0) rfl (by decide) ?_
    cases e
    exact go_ret rfl (ck_rvb rfl (Or.inl rfl))
def f_DS_pieceType (F : Nat) (a0 : Nat) (a1 : Nat) (v2 : Int32) (v3 : Int32) (h : ck_H) : Option (Int32 × ck_H) :=
  ck_as (gk h a0 = 2) <|
  if (gI h a0 6) = (2 : Int32) then
    ck_as (gk h a1 = 8) <|
    ck_bd (f_Tr_byteOf F a1 v2 (v3 + 2) h) fun r4 h5 =>
    some (r4, h5)
  else
    some (0, h)
set_option maxRecDepth 100000 in
set_option maxHeartbeats 4000000 in
theorem s_DS_pieceType {F : Nat} {a0 : Nat} {a1 : Nat} {v2 : Int32} {v3 : Int32} {h h' : ck_H} {r : Int32} (e : f_DS_pieceType F a0 a1 v2 v3 h = some (r, h')) : Go k_DS_pieceType 0 (ck_in [.ref a0, .ref a1, .int v2, .int v3] 4) [] h (some (.int r), h') := by
  unfold f_DS_pieceType at e
  show Go k_DS_pieceType 0 [some (.ref a0), some (.ref a1), some (.int v2), some (.int v3)] [] h _
  refine go_aload_n rfl rfl ?_
  replace e := ck_as_e e
  obtain ⟨hk_1, e⟩ := e
  refine go_get (v := .int (gI h a0 6)) rfl rfl hk_1 (by decide) rfl ?_
  refine go_iconst (v := 2) rfl (by decide) ?_
  refine go_icmp_ne (t := 19) rfl rfl (fun hx_2 => ?_) (fun hx_2 => ?_)
  · rw [if_pos hx_2] at e
    refine go_aload_n rfl rfl ?_
    refine go_iload_n rfl rfl ?_
    refine go_iload_n rfl rfl ?_
    refine go_iconst (v := 2) rfl (by decide) ?_
    refine go_iadd rfl ?_
    replace e := ck_as_e e
    obtain ⟨hk_3, e⟩ := e
    replace e := ck_bd_e e
    obtain ⟨r4, h5, e6, e⟩ := e
    refine go_callV (As := [.int v2, .int (v3 + 2)]) (b0 := a1) (rest := []) rfl rfl ⟨hk_3, by decide⟩ rfl ⟨Nat.le_of_ble_eq_true rfl, Nat.le_of_ble_eq_true rfl, Nat.le_of_ble_eq_true rfl, Nat.le_of_ble_eq_true rfl⟩ (s_Tr_byteOf e6) ?_
    show Go k_DS_pieceType 16 [some (.ref a0), some (.ref a1), some (.int v2), some (.int v3)] [.int r4] h5 _
    refine go_goto (t := 20) rfl rfl ?_
    cases e
    exact go_ret rfl rfl
  · rw [if_neg hx_2] at e
    refine go_iconst (v := 0) rfl (by decide) ?_
    cases e
    exact go_ret rfl rfl
def f_DS_begins (F : Nat) (v0 : Int32) (h : ck_H) : Option (Int32 × ck_H) :=
  if v0 = (0 : Int32) then
    some (1, h)
  else
    if v0 = (1 : Int32) then
      some (1, h)
    else
      some (0, h)
set_option maxRecDepth 100000 in
set_option maxHeartbeats 4000000 in
theorem s_DS_begins {F : Nat} {v0 : Int32} {h h' : ck_H} {r : Int32} (e : f_DS_begins F v0 h = some (r, h')) : Go k_DS_begins 0 (ck_in [.int v0] 1) [] h (some (.int r), h') := by
  unfold f_DS_begins at e
  show Go k_DS_begins 0 [some (.int v0)] [] h _
  refine go_iload_n rfl rfl ?_
  refine go_if_eq (t := 9) rfl rfl (fun hx_1 => ?_) (fun hx_1 => ?_)
  · rw [if_pos hx_1] at e
    refine go_iconst (v := 1) rfl (by decide) ?_
    refine go_goto (t := 14) rfl rfl ?_
    cases e
    exact go_ret rfl (ck_rvb rfl (Or.inr rfl))
  · rw [if_neg hx_1] at e
    refine go_iload_n rfl rfl ?_
    refine go_iconst (v := 1) rfl (by decide) ?_
    refine go_icmp_ne (t := 13) rfl rfl (fun hx_2 => ?_) (fun hx_2 => ?_)
    · rw [if_pos hx_2] at e
      refine go_iconst (v := 1) rfl (by decide) ?_
      refine go_goto (t := 14) rfl rfl ?_
      cases e
      exact go_ret rfl (ck_rvb rfl (Or.inr rfl))
    · rw [if_neg hx_2] at e
      refine go_iconst (v := 0) rfl (by decide) ?_
      cases e
      exact go_ret rfl (ck_rvb rfl (Or.inl rfl))
def f_Sp_copyOf (F : Nat) (a0 : Nat) (a1 : Nat) (h : ck_H) : Option (Unit × ck_H) :=
  ck_as (gk h a1 = 7) <|
  ck_as (gk h a0 = 7) <|
  ck_then (wI h a0 0 (gI h a1 0)) fun h3 =>
  ck_then (wI h3 a0 1 (gI h3 a1 1)) fun h6 =>
  ck_then (wI h6 a0 2 (gI h6 a1 2)) fun h9 =>
  ck_then (wI h9 a0 3 (gI h9 a1 3)) fun h12 =>
  some ((), h12)
set_option maxRecDepth 100000 in
set_option maxHeartbeats 4000000 in
theorem s_Sp_copyOf {F : Nat} {a0 : Nat} {a1 : Nat} {h h' : ck_H} {r : Unit} (e : f_Sp_copyOf F a0 a1 h = some (r, h')) : Go k_Sp_copyOf 0 (ck_in [.ref a0, .ref a1] 2) [] h (none, h') := by
  unfold f_Sp_copyOf at e
  show Go k_Sp_copyOf 0 [some (.ref a0), some (.ref a1)] [] h _
  refine go_aload_n rfl rfl ?_
  refine go_aload_n rfl rfl ?_
  replace e := ck_as_e e
  obtain ⟨hk_1, e⟩ := e
  refine go_get (v := .int (gI h a1 0)) rfl rfl hk_1 (by decide) rfl ?_
  replace e := ck_as_e e
  obtain ⟨hk_2, e⟩ := e
  refine go_put (h1 := wI h a0 0 (gI h a1 0)) rfl rfl hk_2 ⟨by decide, by decide, Or.inl rfl⟩ rfl ?_
  have hk_4 : gk (wI h a0 0 (gI h a1 0)) a1 = 7 := ck_kI.trans hk_1
  have hk_5 : gk (wI h a0 0 (gI h a1 0)) a0 = 7 := ck_kI.trans hk_2
  generalize wI h a0 0 (gI h a1 0) = h3 at e hk_4 hk_5 ⊢
  replace e := ck_then_e e
  refine go_aload_n rfl rfl ?_
  refine go_aload_n rfl rfl ?_
  refine go_get (v := .int (gI h3 a1 1)) rfl rfl hk_4 (by decide) rfl ?_
  refine go_put (h1 := wI h3 a0 1 (gI h3 a1 1)) rfl rfl hk_5 ⟨by decide, by decide, Or.inl rfl⟩ rfl ?_
  have hk_7 : gk (wI h3 a0 1 (gI h3 a1 1)) a1 = 7 := ck_kI.trans hk_4
  have hk_8 : gk (wI h3 a0 1 (gI h3 a1 1)) a0 = 7 := ck_kI.trans hk_5
  generalize wI h3 a0 1 (gI h3 a1 1) = h6 at e hk_7 hk_8 ⊢
  replace e := ck_then_e e
  refine go_aload_n rfl rfl ?_
  refine go_aload_n rfl rfl ?_
  refine go_get (v := .int (gI h6 a1 2)) rfl rfl hk_7 (by decide) rfl ?_
  refine go_put (h1 := wI h6 a0 2 (gI h6 a1 2)) rfl rfl hk_8 ⟨by decide, by decide, Or.inl rfl⟩ rfl ?_
  have hk_10 : gk (wI h6 a0 2 (gI h6 a1 2)) a1 = 7 := ck_kI.trans hk_7
  have hk_11 : gk (wI h6 a0 2 (gI h6 a1 2)) a0 = 7 := ck_kI.trans hk_8
  generalize wI h6 a0 2 (gI h6 a1 2) = h9 at e hk_10 hk_11 ⊢
  replace e := ck_then_e e
  refine go_aload_n rfl rfl ?_
  refine go_aload_n rfl rfl ?_
  refine go_get (v := .int (gI h9 a1 3)) rfl rfl hk_10 (by decide) rfl ?_
  refine go_put (h1 := wI h9 a0 3 (gI h9 a1 3)) rfl rfl hk_11 ⟨by decide, by decide, Or.inl rfl⟩ rfl ?_
  have hk_13 : gk (wI h9 a0 3 (gI h9 a1 3)) a1 = 7 := ck_kI.trans hk_10
  have hk_14 : gk (wI h9 a0 3 (gI h9 a1 3)) a0 = 7 := ck_kI.trans hk_11
  generalize wI h9 a0 3 (gI h9 a1 3) = h12 at e hk_13 hk_14 ⊢
  replace e := ck_then_e e
  cases e
  exact go_ret rfl rfl
def f_DS_pieceLead (F : Nat) (a0 : Nat) (h : ck_H) : Option (Int32 × ck_H) :=
  ck_as (gk h a0 = 2) <|
  if (gI h a0 6) = (2 : Int32) then
    some (3, h)
  else
    if (gI h a0 6) = (1 : Int32) then
      some (2, h)
    else
      some (0, h)
set_option maxRecDepth 100000 in
set_option maxHeartbeats 4000000 in
theorem s_DS_pieceLead {F : Nat} {a0 : Nat} {h h' : ck_H} {r : Int32} (e : f_DS_pieceLead F a0 h = some (r, h')) : Go k_DS_pieceLead 0 (ck_in [.ref a0] 1) [] h (some (.int r), h') := by
  unfold f_DS_pieceLead at e
  show Go k_DS_pieceLead 0 [some (.ref a0)] [] h _
  refine go_aload_n rfl rfl ?_
  replace e := ck_as_e e
  obtain ⟨hk_1, e⟩ := e
  refine go_get (v := .int (gI h a0 6)) rfl rfl hk_1 (by decide) rfl ?_
  refine go_iconst (v := 2) rfl (by decide) ?_
  refine go_icmp_ne (t := 10) rfl rfl (fun hx_2 => ?_) (fun hx_2 => ?_)
  · rw [if_pos hx_2] at e
    refine go_iconst (v := 3) rfl (by decide) ?_
    cases e
    exact go_ret rfl rfl
  · rw [if_neg hx_2] at e
    refine go_aload_n rfl rfl ?_
    refine go_get (v := .int (gI h a0 6)) rfl rfl hk_1 (by decide) rfl ?_
    refine go_iconst (v := 1) rfl (by decide) ?_
    refine go_icmp_ne (t := 22) rfl rfl (fun hx_3 => ?_) (fun hx_3 => ?_)
    · rw [if_pos hx_3] at e
      refine go_iconst (v := 2) rfl (by decide) ?_
      refine go_goto (t := 23) rfl rfl ?_
      cases e
      exact go_ret rfl rfl
    · rw [if_neg hx_3] at e
      refine go_iconst (v := 0) rfl (by decide) ?_
      cases e
      exact go_ret rfl rfl
def f_Tr_pairOf (F : Nat) (a0 : Nat) (v1 : Int32) (v2 : Int32) (h : ck_H) : Option (Int32 × ck_H) :=
  ck_as (gk h a0 = 8) <|
  ck_bd (f_Tr_byteOf F a0 v1 v2 h) fun r2 h3 =>
  ck_as (gk h3 a0 = 8) <|
  ck_bd (f_Tr_byteOf F a0 v1 (v2 + 1) h3) fun r6 h7 =>
  some ((r2 * 256) + r6, h7)
set_option maxRecDepth 100000 in
set_option maxHeartbeats 4000000 in
theorem s_Tr_pairOf {F : Nat} {a0 : Nat} {v1 : Int32} {v2 : Int32} {h h' : ck_H} {r : Int32} (e : f_Tr_pairOf F a0 v1 v2 h = some (r, h')) : Go k_Tr_pairOf 0 (ck_in [.ref a0, .int v1, .int v2] 3) [] h (some (.int r), h') := by
  unfold f_Tr_pairOf at e
  show Go k_Tr_pairOf 0 [some (.ref a0), some (.int v1), some (.int v2)] [] h _
  refine go_aload_n rfl rfl ?_
  refine go_iload_n rfl rfl ?_
  refine go_iload_n rfl rfl ?_
  replace e := ck_as_e e
  obtain ⟨hk_1, e⟩ := e
  replace e := ck_bd_e e
  obtain ⟨r2, h3, e4, e⟩ := e
  refine go_callV (As := [.int v1, .int v2]) (b0 := a0) (rest := []) rfl rfl ⟨hk_1, by decide⟩ rfl ⟨Nat.le_of_ble_eq_true rfl, Nat.le_of_ble_eq_true rfl, Nat.le_of_ble_eq_true rfl, Nat.le_of_ble_eq_true rfl⟩ (s_Tr_byteOf e4) ?_
  show Go k_Tr_pairOf 6 [some (.ref a0), some (.int v1), some (.int v2)] [.int r2] h3 _
  refine go_sipush (v := 256) rfl (by decide) ?_
  refine go_imul rfl ?_
  refine go_aload_n rfl rfl ?_
  refine go_iload_n rfl rfl ?_
  refine go_iload_n rfl rfl ?_
  refine go_iconst (v := 1) rfl (by decide) ?_
  refine go_iadd rfl ?_
  replace e := ck_as_e e
  obtain ⟨hk_5, e⟩ := e
  replace e := ck_bd_e e
  obtain ⟨r6, h7, e8, e⟩ := e
  refine go_callV (As := [.int v1, .int (v2 + 1)]) (b0 := a0) (rest := [.int (r2 * 256)]) rfl rfl ⟨hk_5, by decide⟩ rfl ⟨Nat.le_of_ble_eq_true rfl, Nat.le_of_ble_eq_true rfl, Nat.le_of_ble_eq_true rfl, Nat.le_of_ble_eq_true rfl⟩ (s_Tr_byteOf e8) ?_
  show Go k_Tr_pairOf 18 [some (.ref a0), some (.int v1), some (.int v2)] [.int r6, .int (r2 * 256)] h7 _
  refine go_iadd rfl ?_
  cases e
  exact go_ret rfl rfl
