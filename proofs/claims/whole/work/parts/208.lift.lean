def f_DS_pieceLength (F : Nat) (a0 : Nat) (a1 : Nat) (v2 : Int32) (v3 : Int32) (h : ck_H) : Option (Int32 × ck_H) :=
  ck_as (gk h a0 = 2) <|
  ck_bd (f_DS_pieceLead F a0 h) fun r2 h3 =>
  if r2 = (0 : Int32) then
    ck_as (gk h3 a0 = 2) <|
    ck_then (gI h3 a0 7) fun x7 =>
    ck_bd (f_DS_pieceLead F a0 h3) fun r8 h9 =>
    ck_bd (f_Ma_max F 1 r8 h9) fun r11 h12 =>
    ck_bd (f_Ma_max F r11 x7 h12) fun r14 h15 =>
    some (r14, h15)
  else
    ck_as (gk h3 a1 = 8) <|
    ck_bd (f_Tr_pairOf F a1 v2 v3 h3) fun r18 h19 =>
    ck_as (gk h19 a0 = 2) <|
    ck_bd (f_DS_pieceLead F a0 h19) fun r22 h23 =>
    ck_bd (f_Ma_max F 1 r22 h23) fun r25 h26 =>
    ck_bd (f_Ma_max F r25 r18 h26) fun r28 h29 =>
    some (r28, h29)
set_option maxRecDepth 100000 in
set_option maxHeartbeats 4000000 in
theorem s_DS_pieceLength {F : Nat} {a0 : Nat} {a1 : Nat} {v2 : Int32} {v3 : Int32} {h h' : ck_H} {r : Int32} (e : f_DS_pieceLength F a0 a1 v2 v3 h = some (r, h')) : Go k_DS_pieceLength 0 (ck_in [.ref a0, .ref a1, .int v2, .int v3] 5) [] h (some (.int r), h') := by
  unfold f_DS_pieceLength at e
  show Go k_DS_pieceLength 0 [some (.ref a0), some (.ref a1), some (.int v2), some (.int v3), none] [] h _
  refine go_aload_n rfl rfl ?_
  replace e := ck_as_e e
  obtain ⟨hk_1, e⟩ := e
  replace e := ck_bd_e e
  obtain ⟨r2, h3, e4, e⟩ := e
  refine go_callV (As := []) (b0 := a0) (rest := []) rfl rfl ⟨hk_1, by decide⟩ rfl ⟨Nat.le_of_ble_eq_true rfl, Nat.le_of_ble_eq_true rfl, Nat.le_of_ble_eq_true rfl, Nat.le_of_ble_eq_true rfl⟩ (s_DS_pieceLead e4) ?_
  show Go k_DS_pieceLength 4 [some (.ref a0), some (.ref a1), some (.int v2), some (.int v3), none] [.int r2] h3 _
  refine go_if_ne (t := 14) rfl rfl (fun hx_5 => ?_) (fun hx_5 => ?_)
  · rw [if_pos hx_5] at e
    refine go_aload_n rfl rfl ?_
    replace e := ck_as_e e
    obtain ⟨hk_6, e⟩ := e
    refine go_get (v := .int (gI h3 a0 7)) rfl rfl hk_6 (by decide) rfl ?_
    refine go_goto (t := 20) rfl rfl ?_
    generalize gI h3 a0 7 = x7 at e ⊢
    replace e := ck_then_e e
    refine go_istore rfl rfl ?_
    show Go k_DS_pieceLength 22 [some (.ref a0), some (.ref a1), some (.int v2), some (.int v3), some (.int x7)] [] h3 _
    refine go_iconst (v := 1) rfl (by decide) ?_
    refine go_aload_n rfl rfl ?_
    replace e := ck_bd_e e
    obtain ⟨r8, h9, e10, e⟩ := e
    refine go_callV (As := []) (b0 := a0) (rest := [.int 1]) rfl rfl ⟨hk_6, by decide⟩ rfl ⟨Nat.le_of_ble_eq_true rfl, Nat.le_of_ble_eq_true rfl, Nat.le_of_ble_eq_true rfl, Nat.le_of_ble_eq_true rfl⟩ (s_DS_pieceLead e10) ?_
    show Go k_DS_pieceLength 27 [some (.ref a0), some (.ref a1), some (.int v2), some (.int v3), some (.int x7)] [.int r8, .int 1] h9 _
    replace e := ck_bd_e e
    obtain ⟨r11, h12, e13, e⟩ := e
    refine go_callS (As := [.int 1, .int r8]) (rest := []) rfl rfl rfl ⟨Nat.le_of_ble_eq_true rfl, Nat.le_of_ble_eq_true rfl, Nat.le_of_ble_eq_true rfl, Nat.le_of_ble_eq_true rfl⟩ (s_Ma_max e13) ?_
    show Go k_DS_pieceLength 30 [some (.ref a0), some (.ref a1), some (.int v2), some (.int v3), some (.int x7)] [.int r11] h12 _
    refine go_iload rfl rfl ?_
    replace e := ck_bd_e e
    obtain ⟨r14, h15, e16, e⟩ := e
    refine go_callS (As := [.int r11, .int x7]) (rest := []) rfl rfl rfl ⟨Nat.le_of_ble_eq_true rfl, Nat.le_of_ble_eq_true rfl, Nat.le_of_ble_eq_true rfl, Nat.le_of_ble_eq_true rfl⟩ (s_Ma_max e16) ?_
    show Go k_DS_pieceLength 35 [some (.ref a0), some (.ref a1), some (.int v2), some (.int v3), some (.int x7)] [.int r14] h15 _
    cases e
    exact go_ret rfl rfl
  · rw [if_neg hx_5] at e
    refine go_aload_n rfl rfl ?_
    refine go_iload_n rfl rfl ?_
    refine go_iload_n rfl rfl ?_
    replace e := ck_as_e e
    obtain ⟨hk_17, e⟩ := e
    replace e := ck_bd_e e
    obtain ⟨r18, h19, e20, e⟩ := e
    refine go_callV (As := [.int v2, .int v3]) (b0 := a1) (rest := []) rfl rfl ⟨hk_17, by decide⟩ rfl ⟨Nat.le_of_ble_eq_true rfl, Nat.le_of_ble_eq_true rfl, Nat.le_of_ble_eq_true rfl, Nat.le_of_ble_eq_true rfl⟩ (s_Tr_pairOf e20) ?_
    show Go k_DS_pieceLength 20 [some (.ref a0), some (.ref a1), some (.int v2), some (.int v3), none] [.int r18] h19 _
    refine go_istore rfl rfl ?_
    show Go k_DS_pieceLength 22 [some (.ref a0), some (.ref a1), some (.int v2), some (.int v3), some (.int r18)] [] h19 _
    refine go_iconst (v := 1) rfl (by decide) ?_
    refine go_aload_n rfl rfl ?_
    replace e := ck_as_e e
    obtain ⟨hk_21, e⟩ := e
    replace e := ck_bd_e e
    obtain ⟨r22, h23, e24, e⟩ := e
    refine go_callV (As := []) (b0 := a0) (rest := [.int 1]) rfl rfl ⟨hk_21, by decide⟩ rfl ⟨Nat.le_of_ble_eq_true rfl, Nat.le_of_ble_eq_true rfl, Nat.le_of_ble_eq_true rfl, Nat.le_of_ble_eq_true rfl⟩ (s_DS_pieceLead e24) ?_
    show Go k_DS_pieceLength 27 [some (.ref a0), some (.ref a1), some (.int v2), some (.int v3), some (.int r18)] [.int r22, .int 1] h23 _
    replace e := ck_bd_e e
    obtain ⟨r25, h26, e27, e⟩ := e
    refine go_callS (As := [.int 1, .int r22]) (rest := []) rfl rfl rfl ⟨Nat.le_of_ble_eq_true rfl, Nat.le_of_ble_eq_true rfl, Nat.le_of_ble_eq_true rfl, Nat.le_of_ble_eq_true rfl⟩ (s_Ma_max e27) ?_
    show Go k_DS_pieceLength 30 [some (.ref a0), some (.ref a1), some (.int v2), some (.int v3), some (.int r18)] [.int r25] h26 _
    refine go_iload rfl rfl ?_
    replace e := ck_bd_e e
    obtain ⟨r28, h29, e30, e⟩ := e
    refine go_callS (As := [.int r25, .int r18]) (rest := []) rfl rfl rfl ⟨Nat.le_of_ble_eq_true rfl, Nat.le_of_ble_eq_true rfl, Nat.le_of_ble_eq_true rfl, Nat.le_of_ble_eq_true rfl⟩ (s_Ma_max e30) ?_
    show Go k_DS_pieceLength 35 [some (.ref a0), some (.ref a1), some (.int v2), some (.int v3), some (.int r18)] [.int r28] h29 _
    cases e
    exact go_ret rfl rfl
def f_Op_addPiece (F : Nat) (a0 : Nat) (a1 : Nat) (a2 : Nat) (a3 : Nat) (h : ck_H) : Option (Unit × ck_H) :=
  ck_as (gk h a0 = 5) <|
  ck_some (gR h a0 4) fun b2 =>
  ck_as (gk h a2 = 7) <|
  ck_as (gk h b2 = 2) <|
  ck_bd (f_DS_pieceLength F b2 a1 (gI h a2 1) (gI h a2 2) h) fun r6 h7 =>
  ck_as (gk h7 a0 = 5) <|
  ck_some (gR h7 a0 4) fun b10 =>
  ck_as (gk h7 b10 = 2) <|
  ck_bd (f_DS_pieceLead F b10 h7) fun r13 h14 =>
  ck_then (r6 - r13) fun x16 =>
  ck_as (gk h14 a3 = 6) <|
  if (1200 - (gI h14 a3 1)) < x16 then
    some ((), h14)
  else
    ck_as (gk h14 a2 = 7) <|
    ck_as (gk h14 a0 = 5) <|
    ck_some (gR h14 a0 4) fun b21 =>
    ck_as (gk h14 b21 = 2) <|
    ck_bd (f_DS_pieceLead F b21 h14) fun r24 h25 =>
    ck_as (gk h25 a3 = 6) <|
    ck_some (gR h25 a3 0) fun b28 =>
    ck_as (gk h25 a1 = 8) <|
    ck_bd (f_Tr_fetch F a1 (gI h14 a2 1) ((gI h14 a2 2) + r24) b28 (gI h25 a3 1) x16 h25) fun _ h32 =>
    ck_as (gk h32 a3 = 6) <|
    ck_then (wI h32 a3 1 ((gI h32 a3 1) + x16)) fun h35 =>
    some ((), h35)
set_option maxRecDepth 100000 in
set_option maxHeartbeats 4000000 in
theorem s_Op_addPiece {F : Nat} {a0 : Nat} {a1 : Nat} {a2 : Nat} {a3 : Nat} {h h' : ck_H} {r : Unit} (e : f_Op_addPiece F a0 a1 a2 a3 h = some (r, h')) : Go k_Op_addPiece 0 (ck_in [.ref a0, .ref a1, .ref a2, .ref a3] 5) [] h (none, h') := by
  unfold f_Op_addPiece at e
  show Go k_Op_addPiece 0 [some (.ref a0), some (.ref a1), some (.ref a2), some (.ref a3), none] [] h _
  refine go_aload_n rfl rfl ?_
  replace e := ck_as_e e
  obtain ⟨hk_1, e⟩ := e
  replace e := ck_some_e e
  obtain ⟨b2, hq_3, e⟩ := e
  refine go_get (v := .ref b2) rfl rfl hk_1 (by decide) (by show va_rf (gR h a0 4) = _; rw [hq_3]; rfl) ?_
  refine go_aload_n rfl rfl ?_
  refine go_aload_n rfl rfl ?_
  replace e := ck_as_e e
  obtain ⟨hk_4, e⟩ := e
  refine go_get (v := .int (gI h a2 1)) rfl rfl hk_4 (by decide) rfl ?_
  refine go_aload_n rfl rfl ?_
  refine go_get (v := .int (gI h a2 2)) rfl rfl hk_4 (by decide) rfl ?_
  replace e := ck_as_e e
  obtain ⟨hk_5, e⟩ := e
  replace e := ck_bd_e e
  obtain ⟨r6, h7, e8, e⟩ := e
  refine go_callV (As := [.ref a1, .int (gI h a2 1), .int (gI h a2 2)]) (b0 := b2) (rest := []) rfl rfl ⟨hk_5, by decide⟩ rfl ⟨Nat.le_of_ble_eq_true rfl, Nat.le_of_ble_eq_true rfl, Nat.le_of_ble_eq_true rfl, Nat.le_of_ble_eq_true rfl⟩ (s_DS_pieceLength e8) ?_
  show Go k_Op_addPiece 16 [some (.ref a0), some (.ref a1), some (.ref a2), some (.ref a3), none] [.int r6] h7 _
  refine go_aload_n rfl rfl ?_
  replace e := ck_as_e e
  obtain ⟨hk_9, e⟩ := e
  replace e := ck_some_e e
  obtain ⟨b10, hq_11, e⟩ := e
  refine go_get (v := .ref b10) rfl rfl hk_9 (by decide) (by show va_rf (gR h7 a0 4) = _; rw [hq_11]; rfl) ?_
  replace e := ck_as_e e
  obtain ⟨hk_12, e⟩ := e
  replace e := ck_bd_e e
  obtain ⟨r13, h14, e15, e⟩ := e
  refine go_callV (As := []) (b0 := b10) (rest := [.int r6]) rfl rfl ⟨hk_12, by decide⟩ rfl ⟨Nat.le_of_ble_eq_true rfl, Nat.le_of_ble_eq_true rfl, Nat.le_of_ble_eq_true rfl, Nat.le_of_ble_eq_true rfl⟩ (s_DS_pieceLead e15) ?_
  show Go k_Op_addPiece 23 [some (.ref a0), some (.ref a1), some (.ref a2), some (.ref a3), none] [.int r13, .int r6] h14 _
  refine go_isub rfl ?_
  generalize r6 - r13 = x16 at e ⊢
  replace e := ck_then_e e
  refine go_istore rfl rfl ?_
  show Go k_Op_addPiece 26 [some (.ref a0), some (.ref a1), some (.ref a2), some (.ref a3), some (.int x16)] [] h14 _
  refine go_iload rfl rfl ?_
  refine go_sipush (v := 1200) rfl (by decide) ?_
  refine go_aload_n rfl rfl ?_
  replace e := ck_as_e e
  obtain ⟨hk_17, e⟩ := e
  refine go_get (v := .int (gI h14 a3 1)) rfl rfl hk_17 (by decide) rfl ?_
  refine go_isub rfl ?_
  refine go_icmp_gt (t := 80) rfl rfl (fun hx_18 => ?_) (fun hx_18 => ?_)
  · rw [if_pos hx_18] at e
    cases e
    exact go_ret rfl rfl
  · rw [if_neg hx_18] at e
    refine go_aload_n rfl rfl ?_
    refine go_aload_n rfl rfl ?_
    replace e := ck_as_e e
    obtain ⟨hk_19, e⟩ := e
    refine go_get (v := .int (gI h14 a2 1)) rfl rfl hk_19 (by decide) rfl ?_
    refine go_aload_n rfl rfl ?_
    refine go_get (v := .int (gI h14 a2 2)) rfl rfl hk_19 (by decide) rfl ?_
    refine go_aload_n rfl rfl ?_
    replace e := ck_as_e e
    obtain ⟨hk_20, e⟩ := e
    replace e := ck_some_e e
    obtain ⟨b21, hq_22, e⟩ := e
    refine go_get (v := .ref b21) rfl rfl hk_20 (by decide) (by show va_rf (gR h14 a0 4) = _; rw [hq_22]; rfl) ?_
    replace e := ck_as_e e
    obtain ⟨hk_23, e⟩ := e
    replace e := ck_bd_e e
    obtain ⟨r24, h25, e26, e⟩ := e
    refine go_callV (As := []) (b0 := b21) (rest := [.int (gI h14 a2 2), .int (gI h14 a2 1), .ref a1]) rfl rfl ⟨hk_23, by decide⟩ rfl ⟨Nat.le_of_ble_eq_true rfl, Nat.le_of_ble_eq_true rfl, Nat.le_of_ble_eq_true rfl, Nat.le_of_ble_eq_true rfl⟩ (s_DS_pieceLead e26) ?_
    show Go k_Op_addPiece 55 [some (.ref a0), some (.ref a1), some (.ref a2), some (.ref a3), some (.int x16)] [.int r24, .int (gI h14 a2 2), .int (gI h14 a2 1), .ref a1] h25 _
    refine go_iadd rfl ?_
    refine go_aload_n rfl rfl ?_
    replace e := ck_as_e e
    obtain ⟨hk_27, e⟩ := e
    replace e := ck_some_e e
    obtain ⟨b28, hq_29, e⟩ := e
    refine go_get (v := .ref b28) rfl rfl hk_27 (by decide) (by show va_rf (gR h25 a3 0) = _; rw [hq_29]; rfl) ?_
    refine go_aload_n rfl rfl ?_
    refine go_get (v := .int (gI h25 a3 1)) rfl rfl hk_27 (by decide) rfl ?_
    refine go_iload rfl rfl ?_
    replace e := ck_as_e e
    obtain ⟨hk_30, e⟩ := e
    replace e := ck_bd_e e
    obtain ⟨r31, h32, e33, e⟩ := e
    refine go_callV (As := [.int (gI h14 a2 1), .int ((gI h14 a2 2) + r24), .ref b28, .int (gI h25 a3 1), .int x16]) (b0 := a1) (rest := []) rfl rfl ⟨hk_30, by decide⟩ rfl ⟨Nat.le_of_ble_eq_true rfl, Nat.le_of_ble_eq_true rfl, Nat.le_of_ble_eq_true rfl, Nat.le_of_ble_eq_true rfl⟩ (s_Tr_fetch e33) ?_
    show Go k_Op_addPiece 69 [some (.ref a0), some (.ref a1), some (.ref a2), some (.ref a3), some (.int x16)] [] h32 _
    refine go_aload_n rfl rfl ?_
    refine go_dup rfl rfl ?_
    replace e := ck_as_e e
    obtain ⟨hk_34, e⟩ := e
    refine go_get (v := .int (gI h32 a3 1)) rfl rfl hk_34 (by decide) rfl ?_
    refine go_iload rfl rfl ?_
    refine go_iadd rfl ?_
    refine go_put (h1 := wI h32 a3 1 ((gI h32 a3 1) + x16)) rfl rfl hk_34 ⟨by decide, by decide, Or.inl rfl⟩ rfl ?_
    have hk_36 : gk (wI h32 a3 1 ((gI h32 a3 1) + x16)) a3 = 6 := ck_kI.trans hk_34
    generalize wI h32 a3 1 ((gI h32 a3 1) + x16) = h35 at e hk_36 ⊢
    replace e := ck_then_e e
    cases e
    exact go_ret rfl rfl
def f_DS_ends (F : Nat) (v0 : Int32) (h : ck_H) : Option (Int32 × ck_H) :=
  if v0 = (0 : Int32) then
    some (1, h)
  else
    if v0 = (2 : Int32) then
      some (1, h)
    else
      some (0, h)
set_option maxRecDepth 100000 in
set_option maxHeartbeats 4000000 in
theorem s_DS_ends {F : Nat} {v0 : Int32} {h h' : ck_H} {r : Int32} (e : f_DS_ends F v0 h = some (r, h')) : Go k_DS_ends 0 (ck_in [.int v0] 1) [] h (some (.int r), h') := by
  unfold f_DS_ends at e
  show Go k_DS_ends 0 [some (.int v0)] [] h _
  refine go_iload_n rfl rfl ?_
  refine go_if_eq (t := 9) rfl rfl (fun hx_1 => ?_) (fun hx_1 => ?_)
  · rw [if_pos hx_1] at e
    refine go_iconst (v := 1) rfl (by decide) ?_
    refine go_goto (t := 14) rfl rfl ?_
    cases e
    exact go_ret rfl (ck_rvb rfl (Or.inr rfl))
  · rw [if_neg hx_1] at e
    refine go_iload_n rfl rfl ?_
    refine go_iconst (v := 2) rfl (by decide) ?_
    refine go_icmp_ne (t := 13) rfl rfl (fun hx_2 => ?_) (fun hx_2 => ?_)
    · rw [if_pos hx_2] at e
      refine go_iconst (v := 1) rfl (by decide) ?_
      refine go_goto (t := 14) rfl rfl ?_
      cases e
      exact go_ret rfl (ck_rvb rfl (Or.inr rfl))
    · rw [if_neg hx_2] at e
      refine go_iconst (v := 0) rfl (by decide) ?_
      cases e
      exact go_ret rfl (ck_rvb rfl (Or.inl rfl))
def f_Op_collect_J155 (F : Nat) (k9 : Nat → Nat → Int32 → Int32 → ck_H → Option (Int32 × ck_H)) (a0 : Nat) (a1 : Nat) (v2 : Int32) (v3 : Int32) (a4 : Nat) (v5 : Int32) (h : ck_H) : Option (Int32 × ck_H) :=
  ck_as (gk h a0 = 5) <|
  ck_some (gR h a0 1) fun b2 =>
  ck_as (gk h b2 = 7) <|
  ck_some (gR h a0 4) fun b5 =>
  ck_some (gR h a0 1) fun b7 =>
  ck_as (gk h b7 = 7) <|
  ck_some (gR h a0 1) fun b10 =>
  ck_as (gk h b10 = 7) <|
  ck_as (gk h b5 = 2) <|
  ck_bd (f_DS_pieceLength F b5 a4 (gI h b7 1) (gI h b10 2) h) fun r14 h15 =>
  ck_as (gk h15 b2 = 7) <|
  ck_then (wI h15 b2 2 ((gI h b2 2) + r14)) fun h18 =>
  if v2 = (0 : Int32) then
    k9 a0 a1 v2 (v3 + 1) h18
  else
    ck_bd (f_DS_ends F v5 h18) fun r21 h22 =>
    if r21 = (0 : Int32) then
      k9 a0 a1 v2 (v3 + 1) h22
    else
      ck_as (gk h22 a1 = 6) <|
      some (gI h22 a1 1, h22)
set_option maxRecDepth 100000 in
set_option maxHeartbeats 4000000 in
theorem f_Op_collect_J155_s (F : Nat) (k9 : Nat → Nat → Int32 → Int32 → ck_H → Option (Int32 × ck_H)) (hk9 : ∀ (a0 : Nat) (a1 : Nat) (v2 : Int32) (v3 : Int32) (h : ck_H) (r : Int32) (h' : ck_H), k9 a0 a1 v2 v3 h = some (r, h') → Go k_Op_collect 9 [some (.ref a0), some (.ref a1), some (.int v2), some (.int v3), none, none] [] h (some (.int r), h')) (a0 : Nat) (a1 : Nat) (v2 : Int32) (v3 : Int32) (a4 : Nat) (v5 : Int32) (h : ck_H) (r : Int32) (h' : ck_H) (e : f_Op_collect_J155 F k9 a0 a1 v2 v3 a4 v5 h = some (r, h')) : Go k_Op_collect 155 [some (.ref a0), some (.ref a1), some (.int v2), some (.int v3), some (.ref a4), some (.int v5)] [] h (some (.int r), h') := by
  unfold f_Op_collect_J155 at e
  refine go_aload_n rfl rfl ?_
  replace e := ck_as_e e
  obtain ⟨hk_1, e⟩ := e
  replace e := ck_some_e e
  obtain ⟨b2, hq_3, e⟩ := e
  refine go_get (v := .ref b2) rfl rfl hk_1 (by decide) (by show va_rf (gR h a0 1) = _; rw [hq_3]; rfl) ?_
  refine go_dup rfl rfl ?_
  replace e := ck_as_e e
  obtain ⟨hk_4, e⟩ := e
  refine go_get (v := .int (gI h b2 2)) rfl rfl hk_4 (by decide) rfl ?_
  refine go_aload_n rfl rfl ?_
  replace e := ck_some_e e
  obtain ⟨b5, hq_6, e⟩ := e
  refine go_get (v := .ref b5) rfl rfl hk_1 (by decide) (by show va_rf (gR h a0 4) = _; rw [hq_6]; rfl) ?_
  refine go_aload rfl rfl ?_
  refine go_aload_n rfl rfl ?_
  replace e := ck_some_e e
  obtain ⟨b7, hq_8, e⟩ := e
  refine go_get (v := .ref b7) rfl rfl hk_1 (by decide) (by show va_rf (gR h a0 1) = _; rw [hq_8]; rfl) ?_
  replace e := ck_as_e e
  obtain ⟨hk_9, e⟩ := e
  refine go_get (v := .int (gI h b7 1)) rfl rfl hk_9 (by decide) rfl ?_
  refine go_aload_n rfl rfl ?_
  replace e := ck_some_e e
  obtain ⟨b10, hq_11, e⟩ := e
  refine go_get (v := .ref b10) rfl rfl hk_1 (by decide) (by show va_rf (gR h a0 1) = _; rw [hq_11]; rfl) ?_
  replace e := ck_as_e e
  obtain ⟨hk_12, e⟩ := e
  refine go_get (v := .int (gI h b10 2)) rfl rfl hk_12 (by decide) rfl ?_
  replace e := ck_as_e e
  obtain ⟨hk_13, e⟩ := e
  replace e := ck_bd_e e
  obtain ⟨r14, h15, e16, e⟩ := e
  refine go_callV (As := [.ref a4, .int (gI h b7 1), .int (gI h b10 2)]) (b0 := b5) (rest := [.int (gI h b2 2), .ref b2]) rfl rfl ⟨hk_13, by decide⟩ rfl ⟨Nat.le_of_ble_eq_true rfl, Nat.le_of_ble_eq_true rfl, Nat.le_of_ble_eq_true rfl, Nat.le_of_ble_eq_true rfl⟩ (s_DS_pieceLength e16) ?_
  show Go k_Op_collect 186 [some (.ref a0), some (.ref a1), some (.int v2), some (.int v3), some (.ref a4), some (.int v5)] [.int r14, .int (gI h b2 2), .ref b2] h15 _
  refine go_iadd rfl ?_
  replace e := ck_as_e e
  obtain ⟨hk_17, e⟩ := e
  refine go_put (h1 := wI h15 b2 2 ((gI h b2 2) + r14)) rfl rfl hk_17 ⟨by decide, by decide, Or.inl rfl⟩ rfl ?_
  have hk_19 : gk (wI h15 b2 2 ((gI h b2 2) + r14)) b2 = 7 := ck_kI.trans hk_17
  generalize wI h15 b2 2 ((gI h b2 2) + r14) = h18 at e hk_19 ⊢
  replace e := ck_then_e e
  refine go_iload_n rfl rfl ?_
  refine go_if_eq (t := 207) rfl rfl (fun hx_20 => ?_) (fun hx_20 => ?_)
  · rw [if_pos hx_20] at e
    refine go_iinc (v := 1) rfl rfl (by decide) rfl ?_
    show Go k_Op_collect 210 [some (.ref a0), some (.ref a1), some (.int v2), some (.int (v3 + 1)), some (.ref a4), some (.int v5)] [] h18 _
    refine go_goto (t := 9) rfl rfl ?_
    refine go_forget (l := [some (.ref a0), some (.ref a1), some (.int v2), some (.int (v3 + 1)), none, none]) ⟨Or.inl rfl, Or.inl rfl, Or.inl rfl, Or.inl rfl, Or.inr ⟨rfl, fun _ q => by cases q; rfl⟩, Or.inr ⟨rfl, fun _ q => by cases q; rfl⟩, trivial⟩ ?_
    exact hk9 _ _ _ _ _ _ _ e
  · rw [if_neg hx_20] at e
    refine go_iload rfl rfl ?_
    replace e := ck_bd_e e
    obtain ⟨r21, h22, e23, e⟩ := e
    refine go_callS (As := [.int v5]) (rest := []) rfl rfl rfl ⟨Nat.le_of_ble_eq_true rfl, Nat.le_of_ble_eq_true rfl, Nat.le_of_ble_eq_true rfl, Nat.le_of_ble_eq_true rfl⟩ (s_DS_ends e23) ?_
    show Go k_Op_collect 199 [some (.ref a0), some (.ref a1), some (.int v2), some (.int v3), some (.ref a4), some (.int v5)] [.int r21] h22 _
    refine go_if_eq (t := 207) rfl rfl (fun hx_24 => ?_) (fun hx_24 => ?_)
    · rw [if_pos hx_24] at e
      refine go_iinc (v := 1) rfl rfl (by decide) rfl ?_
      show Go k_Op_collect 210 [some (.ref a0), some (.ref a1), some (.int v2), some (.int (v3 + 1)), some (.ref a4), some (.int v5)] [] h22 _
      refine go_goto (t := 9) rfl rfl ?_
      refine go_forget (l := [some (.ref a0), some (.ref a1), some (.int v2), some (.int (v3 + 1)), none, none]) ⟨Or.inl rfl, Or.inl rfl, Or.inl rfl, Or.inl rfl, Or.inr ⟨rfl, fun _ q => by cases q; rfl⟩, Or.inr ⟨rfl, fun _ q => by cases q; rfl⟩, trivial⟩ ?_
      exact hk9 _ _ _ _ _ _ _ e
    · rw [if_neg hx_24] at e
      refine go_aload_n rfl rfl ?_
      replace e := ck_as_e e
      obtain ⟨hk_25, e⟩ := e
      refine go_get (v := .int (gI h22 a1 1)) rfl rfl hk_25 (by decide) rfl ?_
      cases e
      exact go_ret rfl rfl
def f_Op_collect_J140 (F : Nat) (k9 : Nat → Nat → Int32 → Int32 → ck_H → Option (Int32 × ck_H)) (a0 : Nat) (a1 : Nat) (v2 : Int32) (v3 : Int32) (a4 : Nat) (v5 : Int32) (h : ck_H) : Option (Int32 × ck_H) :=
  if v2 = (0 : Int32) then
    f_Op_collect_J155 F k9 a0 a1 v2 v3 a4 v5 h
  else
    ck_as (gk h a0 = 5) <|
    ck_some (gR h a0 1) fun b27 =>
    ck_bd (f_Op_addPiece F a0 a4 b27 a1 h) fun _ h30 =>
    f_Op_collect_J155 F k9 a0 a1 v2 v3 a4 v5 h30
set_option maxRecDepth 100000 in
set_option maxHeartbeats 4000000 in
theorem f_Op_collect_J140_s (F : Nat) (k9 : Nat → Nat → Int32 → Int32 → ck_H → Option (Int32 × ck_H)) (hk9 : ∀ (a0 : Nat) (a1 : Nat) (v2 : Int32) (v3 : Int32) (h : ck_H) (r : Int32) (h' : ck_H), k9 a0 a1 v2 v3 h = some (r, h') → Go k_Op_collect 9 [some (.ref a0), some (.ref a1), some (.int v2), some (.int v3), none, none] [] h (some (.int r), h')) (a0 : Nat) (a1 : Nat) (v2 : Int32) (v3 : Int32) (a4 : Nat) (v5 : Int32) (h : ck_H) (r : Int32) (h' : ck_H) (e : f_Op_collect_J140 F k9 a0 a1 v2 v3 a4 v5 h = some (r, h')) : Go k_Op_collect 140 [some (.ref a0), some (.ref a1), some (.int v2), some (.int v3), some (.ref a4), some (.int v5)] [] h (some (.int r), h') := by
  unfold f_Op_collect_J140 at e
  refine go_iload_n rfl rfl ?_
  refine go_if_eq (t := 155) rfl rfl (fun hx_1 => ?_) (fun hx_1 => ?_)
  · rw [if_pos hx_1] at e
    refine go_forget (l := [some (.ref a0), some (.ref a1), some (.int v2), some (.int v3), some (.ref a4), some (.int v5)]) ⟨Or.inl rfl, Or.inl rfl, Or.inl rfl, Or.inl rfl, Or.inl rfl, Or.inl rfl, trivial⟩ ?_
    exact f_Op_collect_J155_s F k9 hk9 a0 a1 v2 v3 a4 v5 _ _ _ e
  · rw [if_neg hx_1] at e
    refine go_aload_n rfl rfl ?_
    refine go_aload rfl rfl ?_
    refine go_aload_n rfl rfl ?_
    replace e := ck_as_e e
    obtain ⟨hk_26, e⟩ := e
    replace e := ck_some_e e
    obtain ⟨b27, hq_28, e⟩ := e
    refine go_get (v := .ref b27) rfl rfl hk_26 (by decide) (by show va_rf (gR h a0 1) = _; rw [hq_28]; rfl) ?_
    refine go_aload_n rfl rfl ?_
    replace e := ck_bd_e e
    obtain ⟨r29, h30, e31, e⟩ := e
    refine go_callV (As := [.ref a4, .ref b27, .ref a1]) (b0 := a0) (rest := []) rfl rfl ⟨hk_26, by decide⟩ rfl ⟨Nat.le_of_ble_eq_true rfl, Nat.le_of_ble_eq_true rfl, Nat.le_of_ble_eq_true rfl, Nat.le_of_ble_eq_true rfl⟩ (s_Op_addPiece e31) ?_
    show Go k_Op_collect 155 [some (.ref a0), some (.ref a1), some (.int v2), some (.int v3), some (.ref a4), some (.int v5)] [] h30 _
    refine go_forget (l := [some (.ref a0), some (.ref a1), some (.int v2), some (.int v3), some (.ref a4), some (.int v5)]) ⟨Or.inl rfl, Or.inl rfl, Or.inl rfl, Or.inl rfl, Or.inl rfl, Or.inl rfl, trivial⟩ ?_
    exact f_Op_collect_J155_s F k9 hk9 a0 a1 v2 v3 a4 v5 _ _ _ e
def f_Op_collect_J70 (F : Nat) (k9 : Nat → Nat → Int32 → Int32 → ck_H → Option (Int32 × ck_H)) (a0 : Nat) (a1 : Nat) (v2 : Int32) (v3 : Int32) (a4 : Nat) (h : ck_H) : Option (Int32 × ck_H) :=
  ck_as (gk h a0 = 5) <|
  ck_some (gR h a0 1) fun b2 =>
  ck_some (gR h a0 1) fun b4 =>
  ck_as (gk h b4 = 7) <|
  ck_some (gR h a0 4) fun b7 =>
  ck_as (gk h b7 = 2) <|
  ck_bd (f_DS_blockLead F b7 h) fun r10 h11 =>
  ck_bd (f_Ma_max F (gI h b4 2) r10 h11) fun r13 h14 =>
  ck_as (gk h14 b2 = 7) <|
  ck_then (wI h14 b2 2 r13) fun h17 =>
  ck_as (gk h17 a0 = 5) <|
  ck_some (gR h17 a0 4) fun b20 =>
  ck_some (gR h17 a0 1) fun b22 =>
  ck_as (gk h17 b22 = 7) <|
  ck_some (gR h17 a0 1) fun b25 =>
  ck_as (gk h17 b25 = 7) <|
  ck_as (gk h17 b20 = 2) <|
  ck_bd (f_DS_pieceType F b20 a4 (gI h17 b22 1) (gI h17 b25 2) h17) fun r29 h30 =>
  ck_bd (f_DS_begins F r29 h30) fun r32 h33 =>
  if r32 = (0 : Int32) then
    f_Op_collect_J140 F k9 a0 a1 v2 v3 a4 r29 h33
  else
    ck_as (gk h33 a0 = 5) <|
    ck_some (gR h33 a0 2) fun b37 =>
    ck_some (gR h33 a0 1) fun b39 =>
    ck_as (gk h33 b37 = 7) <|
    ck_bd (f_Sp_copyOf F b37 b39 h33) fun _ h43 =>
    f_Op_collect_J140 F k9 a0 a1 1 v3 a4 r29 h43
set_option maxRecDepth 100000 in
set_option maxHeartbeats 4000000 in
theorem f_Op_collect_J70_s (F : Nat) (k9 : Nat → Nat → Int32 → Int32 → ck_H → Option (Int32 × ck_H)) (hk9 : ∀ (a0 : Nat) (a1 : Nat) (v2 : Int32) (v3 : Int32) (h : ck_H) (r : Int32) (h' : ck_H), k9 a0 a1 v2 v3 h = some (r, h') → Go k_Op_collect 9 [some (.ref a0), some (.ref a1), some (.int v2), some (.int v3), none, none] [] h (some (.int r), h')) (a0 : Nat) (a1 : Nat) (v2 : Int32) (v3 : Int32) (a4 : Nat) (h : ck_H) (r : Int32) (h' : ck_H) (e : f_Op_collect_J70 F k9 a0 a1 v2 v3 a4 h = some (r, h')) : Go k_Op_collect 70 [some (.ref a0), some (.ref a1), some (.int v2), some (.int v3), some (.ref a4), none] [] h (some (.int r), h') := by
  unfold f_Op_collect_J70 at e
  refine go_aload_n rfl rfl ?_
  replace e := ck_as_e e
  obtain ⟨hk_1, e⟩ := e
  replace e := ck_some_e e
  obtain ⟨b2, hq_3, e⟩ := e
  refine go_get (v := .ref b2) rfl rfl hk_1 (by decide) (by show va_rf (gR h a0 1) = _; rw [hq_3]; rfl) ?_
  refine go_aload_n rfl rfl ?_
  replace e := ck_some_e e
  obtain ⟨b4, hq_5, e⟩ := e
  refine go_get (v := .ref b4) rfl rfl hk_1 (by decide) (by show va_rf (gR h a0 1) = _; rw [hq_5]; rfl) ?_
  replace e := ck_as_e e
  obtain ⟨hk_6, e⟩ := e
  refine go_get (v := .int (gI h b4 2)) rfl rfl hk_6 (by decide) rfl ?_
  refine go_aload_n rfl rfl ?_
  replace e := ck_some_e e
  obtain ⟨b7, hq_8, e⟩ := e
  refine go_get (v := .ref b7) rfl rfl hk_1 (by decide) (by show va_rf (gR h a0 4) = _; rw [hq_8]; rfl) ?_
  replace e := ck_as_e e
  obtain ⟨hk_9, e⟩ := e
  replace e := ck_bd_e e
  obtain ⟨r10, h11, e12, e⟩ := e
  refine go_callV (As := []) (b0 := b7) (rest := [.int (gI h b4 2), .ref b2]) rfl rfl ⟨hk_9, by decide⟩ rfl ⟨Nat.le_of_ble_eq_true rfl, Nat.le_of_ble_eq_true rfl, Nat.le_of_ble_eq_true rfl, Nat.le_of_ble_eq_true rfl⟩ (s_DS_blockLead e12) ?_
  show Go k_Op_collect 88 [some (.ref a0), some (.ref a1), some (.int v2), some (.int v3), some (.ref a4), none] [.int r10, .int (gI h b4 2), .ref b2] h11 _
  replace e := ck_bd_e e
  obtain ⟨r13, h14, e15, e⟩ := e
  refine go_callS (As := [.int (gI h b4 2), .int r10]) (rest := [.ref b2]) rfl rfl rfl ⟨Nat.le_of_ble_eq_true rfl, Nat.le_of_ble_eq_true rfl, Nat.le_of_ble_eq_true rfl, Nat.le_of_ble_eq_true rfl⟩ (s_Ma_max e15) ?_
  show Go k_Op_collect 91 [some (.ref a0), some (.ref a1), some (.int v2), some (.int v3), some (.ref a4), none] [.int r13, .ref b2] h14 _
  replace e := ck_as_e e
  obtain ⟨hk_16, e⟩ := e
  refine go_put (h1 := wI h14 b2 2 r13) rfl rfl hk_16 ⟨by decide, by decide, Or.inl rfl⟩ rfl ?_
  have hk_18 : gk (wI h14 b2 2 r13) b2 = 7 := ck_kI.trans hk_16
  generalize wI h14 b2 2 r13 = h17 at e hk_18 ⊢
  replace e := ck_then_e e
  refine go_aload_n rfl rfl ?_
  replace e := ck_as_e e
  obtain ⟨hk_19, e⟩ := e
  replace e := ck_some_e e
  obtain ⟨b20, hq_21, e⟩ := e
  refine go_get (v := .ref b20) rfl rfl hk_19 (by decide) (by show va_rf (gR h17 a0 4) = _; rw [hq_21]; rfl) ?_
  refine go_aload rfl rfl ?_
  refine go_aload_n rfl rfl ?_
  replace e := ck_some_e e
  obtain ⟨b22, hq_23, e⟩ := e
  refine go_get (v := .ref b22) rfl rfl hk_19 (by decide) (by show va_rf (gR h17 a0 1) = _; rw [hq_23]; rfl) ?_
  replace e := ck_as_e e
  obtain ⟨hk_24, e⟩ := e
  refine go_get (v := .int (gI h17 b22 1)) rfl rfl hk_24 (by decide) rfl ?_
  refine go_aload_n rfl rfl ?_
  replace e := ck_some_e e
  obtain ⟨b25, hq_26, e⟩ := e
  refine go_get (v := .ref b25) rfl rfl hk_19 (by decide) (by show va_rf (gR h17 a0 1) = _; rw [hq_26]; rfl) ?_
  replace e := ck_as_e e
  obtain ⟨hk_27, e⟩ := e
  refine go_get (v := .int (gI h17 b25 2)) rfl rfl hk_27 (by decide) rfl ?_
  replace e := ck_as_e e
  obtain ⟨hk_28, e⟩ := e
  replace e := ck_bd_e e
  obtain ⟨r29, h30, e31, e⟩ := e
  refine go_callV (As := [.ref a4, .int (gI h17 b22 1), .int (gI h17 b25 2)]) (b0 := b20) (rest := []) rfl rfl ⟨hk_28, by decide⟩ rfl ⟨Nat.le_of_ble_eq_true rfl, Nat.le_of_ble_eq_true rfl, Nat.le_of_ble_eq_true rfl, Nat.le_of_ble_eq_true rfl⟩ (s_DS_pieceType e31) ?_
  show Go k_Op_collect 117 [some (.ref a0), some (.ref a1), some (.int v2), some (.int v3), some (.ref a4), none] [.int r29] h30 _
  refine go_istore rfl rfl ?_
  show Go k_Op_collect 119 [some (.ref a0), some (.ref a1), some (.int v2), some (.int v3), some (.ref a4), some (.int r29)] [] h30 _
  refine go_iload rfl rfl ?_
  replace e := ck_bd_e e
  obtain ⟨r32, h33, e34, e⟩ := e
  refine go_callS (As := [.int r29]) (rest := []) rfl rfl rfl ⟨Nat.le_of_ble_eq_true rfl, Nat.le_of_ble_eq_true rfl, Nat.le_of_ble_eq_true rfl, Nat.le_of_ble_eq_true rfl⟩ (s_DS_begins e34) ?_
  show Go k_Op_collect 124 [some (.ref a0), some (.ref a1), some (.int v2), some (.int v3), some (.ref a4), some (.int r29)] [.int r32] h33 _
  refine go_if_eq (t := 140) rfl rfl (fun hx_35 => ?_) (fun hx_35 => ?_)
  · rw [if_pos hx_35] at e
    refine go_forget (l := [some (.ref a0), some (.ref a1), some (.int v2), some (.int v3), some (.ref a4), some (.int r29)]) ⟨Or.inl rfl, Or.inl rfl, Or.inl rfl, Or.inl rfl, Or.inl rfl, Or.inl rfl, trivial⟩ ?_
    exact f_Op_collect_J140_s F k9 hk9 a0 a1 v2 v3 a4 r29 _ _ _ e
  · rw [if_neg hx_35] at e
    refine go_iconst (v := 1) rfl (by decide) ?_
    refine go_istore_n rfl rfl ?_
    show Go k_Op_collect 129 [some (.ref a0), some (.ref a1), some (.int 1), some (.int v3), some (.ref a4), some (.int r29)] [] h33 _
    refine go_aload_n rfl rfl ?_
    replace e := ck_as_e e
    obtain ⟨hk_36, e⟩ := e
    replace e := ck_some_e e
    obtain ⟨b37, hq_38, e⟩ := e
    refine go_get (v := .ref b37) rfl rfl hk_36 (by decide) (by show va_rf (gR h33 a0 2) = _; rw [hq_38]; rfl) ?_
    refine go_aload_n rfl rfl ?_
    replace e := ck_some_e e
    obtain ⟨b39, hq_40, e⟩ := e
    refine go_get (v := .ref b39) rfl rfl hk_36 (by decide) (by show va_rf (gR h33 a0 1) = _; rw [hq_40]; rfl) ?_
    replace e := ck_as_e e
    obtain ⟨hk_41, e⟩ := e
    replace e := ck_bd_e e
    obtain ⟨r42, h43, e44, e⟩ := e
    refine go_callV (As := [.ref b39]) (b0 := b37) (rest := []) rfl rfl ⟨hk_41, by decide⟩ rfl ⟨Nat.le_of_ble_eq_true rfl, Nat.le_of_ble_eq_true rfl, Nat.le_of_ble_eq_true rfl, Nat.le_of_ble_eq_true rfl⟩ (s_Sp_copyOf e44) ?_
    show Go k_Op_collect 140 [some (.ref a0), some (.ref a1), some (.int 1), some (.int v3), some (.ref a4), some (.int r29)] [] h43 _
    refine go_forget (l := [some (.ref a0), some (.ref a1), some (.int 1), some (.int v3), some (.ref a4), some (.int r29)]) ⟨Or.inl rfl, Or.inl rfl, Or.inl rfl, Or.inl rfl, Or.inl rfl, Or.inl rfl, trivial⟩ ?_
    exact f_Op_collect_J140_s F k9 hk9 a0 a1 1 v3 a4 r29 _ _ _ e
def f_Op_collect_L9 (F : Nat)  : Nat → Nat → Nat → Int32 → Int32 → ck_H → Option (Int32 × ck_H)
  | 0, _, _, _, _, _ => none
  | n + 1, a0, a1, v2, v3, h =>
    if v3 < (1000000 : Int32) then
      ck_as (gk h a0 = 5) <|
      ck_some (gR h a0 1) fun b3 =>
      ck_some (gR h a0 4) fun b5 =>
      ck_as (gk h b3 = 7) <|
      ck_bd (f_Sp_settle F b3 b5 h) fun r8 h9 =>
      ck_opt r8 (
        some ((-1), h9)
      ) fun b12 =>
      ck_as (gk h9 a0 = 5) <|
      ck_some (gR h9 a0 1) fun b14 =>
      ck_as (gk h9 b14 = 7) <|
      ck_bd (f_Sp_entersBlock F b14 h9) fun r17 h18 =>
      if r17 = (0 : Int32) then
        f_Op_collect_J70 F (f_Op_collect_L9 F n) a0 a1 v2 v3 b12 h18
      else
        ck_as (gk h18 a0 = 5) <|
        ck_some (gR h18 a0 1) fun b46 =>
        ck_as (gk h18 b46 = 7) <|
        ck_as (gk h18 b12 = 8) <|
        ck_bd (f_Tr_isSpoiled F b12 (gI h18 b46 1) h18) fun r50 h51 =>
        if r50 = (0 : Int32) then
          f_Op_collect_J70 F (f_Op_collect_L9 F n) a0 a1 v2 v3 b12 h51
        else
          ck_as (gk h51 a0 = 5) <|
          ck_some (gR h51 a0 1) fun b55 =>
          ck_as (gk h51 b55 = 7) <|
          ck_bd (f_Sp_passBlock F b55 h51) fun _ h59 =>
          some ((-6), h59)
    else
      some ((-1), h)
set_option maxRecDepth 100000 in
set_option maxHeartbeats 4000000 in
theorem f_Op_collect_L9_s (F : Nat)   : ∀ (n : Nat) (a0 : Nat) (a1 : Nat) (v2 : Int32) (v3 : Int32) (h : ck_H) (r : Int32) (h' : ck_H), f_Op_collect_L9 F n a0 a1 v2 v3 h = some (r, h') → Go k_Op_collect 9 [some (.ref a0), some (.ref a1), some (.int v2), some (.int v3), none, none] [] h (some (.int r), h') := by
  intro n
  induction n with
  | zero => intro a0 a1 v2 v3 h r h' e; simp only [f_Op_collect_L9] at e; cases e
  | succ n ih =>
    intro a0 a1 v2 v3 h r h' e
    rw [f_Op_collect_L9] at e
    refine go_iload_n rfl rfl ?_
    refine go_ldc (v := 1000000) rfl rfl ?_
    refine go_icmp_ge (t := 213) rfl rfl (fun hx_1 => ?_) (fun hx_1 => ?_)
    · rw [if_pos hx_1] at e
      refine go_aload_n rfl rfl ?_
      replace e := ck_as_e e
      obtain ⟨hk_2, e⟩ := e
      replace e := ck_some_e e
      obtain ⟨b3, hq_4, e⟩ := e
      refine go_get (v := .ref b3) rfl rfl hk_2 (by decide) (by show va_rf (gR h a0 1) = _; rw [hq_4]; rfl) ?_
      refine go_aload_n rfl rfl ?_
      replace e := ck_some_e e
      obtain ⟨b5, hq_6, e⟩ := e
      refine go_get (v := .ref b5) rfl rfl hk_2 (by decide) (by show va_rf (gR h a0 4) = _; rw [hq_6]; rfl) ?_
      replace e := ck_as_e e
      obtain ⟨hk_7, e⟩ := e
      replace e := ck_bd_e e
      obtain ⟨r8, h9, e10, e⟩ := e
      refine go_callV (As := [.ref b5]) (b0 := b3) (rest := []) rfl rfl ⟨hk_7, by decide⟩ rfl ⟨Nat.le_of_ble_eq_true rfl, Nat.le_of_ble_eq_true rfl, Nat.le_of_ble_eq_true rfl, Nat.le_of_ble_eq_true rfl⟩ (s_Sp_settle e10) ?_
      replace e := ck_opt_e e
      rcases e with ⟨hq_11, e⟩ | ⟨b12, hq_11, e⟩
      · subst hq_11
        show Go k_Op_collect 26 [some (.ref a0), some (.ref a1), some (.int v2), some (.int v3), none, none] [.null] h9 _
        refine go_astoreN rfl rfl ?_
        show Go k_Op_collect 28 [some (.ref a0), some (.ref a1), some (.int v2), some (.int v3), some .null, none] [] h9 _
        refine go_aloadN rfl rfl ?_
        refine go_ifnonnullN rfl ?_
        refine go_iconst (v := (-1)) rfl (by decide) ?_
        cases e
        exact go_ret rfl rfl
      subst hq_11
      show Go k_Op_collect 26 [some (.ref a0), some (.ref a1), some (.int v2), some (.int v3), none, none] [.ref b12] h9 _
      refine go_astore rfl rfl ?_
      show Go k_Op_collect 28 [some (.ref a0), some (.ref a1), some (.int v2), some (.int v3), some (.ref b12), none] [] h9 _
      refine go_aload rfl rfl ?_
      refine go_ifnonnull (t := 35) rfl rfl ?_
      refine go_aload_n rfl rfl ?_
      replace e := ck_as_e e
      obtain ⟨hk_13, e⟩ := e
      replace e := ck_some_e e
      obtain ⟨b14, hq_15, e⟩ := e
      refine go_get (v := .ref b14) rfl rfl hk_13 (by decide) (by show va_rf (gR h9 a0 1) = _; rw [hq_15]; rfl) ?_
      replace e := ck_as_e e
      obtain ⟨hk_16, e⟩ := e
      replace e := ck_bd_e e
      obtain ⟨r17, h18, e19, e⟩ := e
      refine go_callV (As := []) (b0 := b14) (rest := []) rfl rfl ⟨hk_16, by decide⟩ rfl ⟨Nat.le_of_ble_eq_true rfl, Nat.le_of_ble_eq_true rfl, Nat.le_of_ble_eq_true rfl, Nat.le_of_ble_eq_true rfl⟩ (s_Sp_entersBlock e19) ?_
      show Go k_Op_collect 42 [some (.ref a0), some (.ref a1), some (.int v2), some (.int v3), some (.ref b12), none] [.int r17] h18 _
      refine go_if_eq (t := 70) rfl rfl (fun hx_20 => ?_) (fun hx_20 => ?_)
      · rw [if_pos hx_20] at e
        refine go_forget (l := [some (.ref a0), some (.ref a1), some (.int v2), some (.int v3), some (.ref b12), none]) ⟨Or.inl rfl, Or.inl rfl, Or.inl rfl, Or.inl rfl, Or.inl rfl, Or.inl rfl, trivial⟩ ?_
        exact f_Op_collect_J70_s F (f_Op_collect_L9 F n) ih a0 a1 v2 v3 b12 _ _ _ e
      · rw [if_neg hx_20] at e
        refine go_aload rfl rfl ?_
        refine go_aload_n rfl rfl ?_
        replace e := ck_as_e e
        obtain ⟨hk_45, e⟩ := e
        replace e := ck_some_e e
        obtain ⟨b46, hq_47, e⟩ := e
        refine go_get (v := .ref b46) rfl rfl hk_45 (by decide) (by show va_rf (gR h18 a0 1) = _; rw [hq_47]; rfl) ?_
        replace e := ck_as_e e
        obtain ⟨hk_48, e⟩ := e
        refine go_get (v := .int (gI h18 b46 1)) rfl rfl hk_48 (by decide) rfl ?_
        replace e := ck_as_e e
        obtain ⟨hk_49, e⟩ := e
        replace e := ck_bd_e e
        obtain ⟨r50, h51, e52, e⟩ := e
        refine go_callV (As := [.int (gI h18 b46 1)]) (b0 := b12) (rest := []) rfl rfl ⟨hk_49, by decide⟩ rfl ⟨Nat.le_of_ble_eq_true rfl, Nat.le_of_ble_eq_true rfl, Nat.le_of_ble_eq_true rfl, Nat.le_of_ble_eq_true rfl⟩ (s_Tr_isSpoiled e52) ?_
        show Go k_Op_collect 57 [some (.ref a0), some (.ref a1), some (.int v2), some (.int v3), some (.ref b12), none] [.int r50] h51 _
        refine go_if_eq (t := 70) rfl rfl (fun hx_53 => ?_) (fun hx_53 => ?_)
        · rw [if_pos hx_53] at e
          refine go_forget (l := [some (.ref a0), some (.ref a1), some (.int v2), some (.int v3), some (.ref b12), none]) ⟨Or.inl rfl, Or.inl rfl, Or.inl rfl, Or.inl rfl, Or.inl rfl, Or.inl rfl, trivial⟩ ?_
          exact f_Op_collect_J70_s F (f_Op_collect_L9 F n) ih a0 a1 v2 v3 b12 _ _ _ e
        · rw [if_neg hx_53] at e
          refine go_aload_n rfl rfl ?_
          replace e := ck_as_e e
          obtain ⟨hk_54, e⟩ := e
          replace e := ck_some_e e
          obtain ⟨b55, hq_56, e⟩ := e
          refine go_get (v := .ref b55) rfl rfl hk_54 (by decide) (by show va_rf (gR h51 a0 1) = _; rw [hq_56]; rfl) ?_
          replace e := ck_as_e e
          obtain ⟨hk_57, e⟩ := e
          replace e := ck_bd_e e
          obtain ⟨r58, h59, e60, e⟩ := e
          refine go_callV (As := []) (b0 := b55) (rest := []) rfl rfl ⟨hk_57, by decide⟩ rfl ⟨Nat.le_of_ble_eq_true rfl, Nat.le_of_ble_eq_true rfl, Nat.le_of_ble_eq_true rfl, Nat.le_of_ble_eq_true rfl⟩ (s_Sp_passBlock e60) ?_
          show Go k_Op_collect 67 [some (.ref a0), some (.ref a1), some (.int v2), some (.int v3), some (.ref b12), none] [] h59 _
          refine go_bipush (v := (-6)) rfl (by decide) ?_
          cases e
          exact go_ret rfl rfl
    · rw [if_neg hx_1] at e
      refine go_iconst (v := (-1)) rfl (by decide) ?_
      cases e
      exact go_ret rfl rfl
def f_Op_collect (F : Nat) (a0 : Nat) (a1 : Nat) (h : ck_H) : Option (Int32 × ck_H) :=
  ck_as (gk h a1 = 6) <|
  ck_then (wI h a1 1 0) fun h2 =>
  f_Op_collect_L9 F F a0 a1 0 0 h2
set_option maxRecDepth 100000 in
set_option maxHeartbeats 4000000 in
theorem s_Op_collect {F : Nat} {a0 : Nat} {a1 : Nat} {h h' : ck_H} {r : Int32} (e : f_Op_collect F a0 a1 h = some (r, h')) : Go k_Op_collect 0 (ck_in [.ref a0, .ref a1] 6) [] h (some (.int r), h') := by
  unfold f_Op_collect at e
  show Go k_Op_collect 0 [some (.ref a0), some (.ref a1), none, none, none, none] [] h _
  refine go_iconst (v := 0) rfl (by decide) ?_
  refine go_istore_n rfl rfl ?_
  show Go k_Op_collect 2 [some (.ref a0), some (.ref a1), some (.int 0), none, none, none] [] h _
  refine go_aload_n rfl rfl ?_
  refine go_iconst (v := 0) rfl (by decide) ?_
  replace e := ck_as_e e
  obtain ⟨hk_1, e⟩ := e
  refine go_put (h1 := wI h a1 1 0) rfl rfl hk_1 ⟨by decide, by decide, Or.inl rfl⟩ rfl ?_
  have hk_3 : gk (wI h a1 1 0) a1 = 6 := ck_kI.trans hk_1
  generalize wI h a1 1 0 = h2 at e hk_3 ⊢
  replace e := ck_then_e e
  refine go_iconst (v := 0) rfl (by decide) ?_
  refine go_istore_n rfl rfl ?_
  show Go k_Op_collect 9 [some (.ref a0), some (.ref a1), some (.int 0), some (.int 0), none, none] [] h2 _
  refine go_forget (l := [some (.ref a0), some (.ref a1), some (.int 0), some (.int 0), none, none]) ⟨Or.inl rfl, Or.inl rfl, Or.inl rfl, Or.inl rfl, Or.inl rfl, Or.inl rfl, trivial⟩ ?_
  exact f_Op_collect_L9_s F F _ _ _ _ _ _ _ e
def f_Op_getRecord (F : Nat) (a0 : Nat) (a1 : Nat) (a2 : Nat) (h : ck_H) : Option (Int32 × ck_H) :=
  ck_as (gk h a0 = 5) <|
  ck_opt (gR h a0 4) (
    some ((-3), h)
  ) fun b3 =>
  if (gI h a0 8) = (1 : Int32) then
    some ((-3), h)
  else
    ck_some (gR h a0 4) fun b5 =>
    ck_as (gk h b5 = 2) <|
    if (gI h b5 6) = (3 : Int32) then
      some ((-3), h)
    else
      if (gI h a0 6) = (0 : Int32) then
        some ((-3), h)
      else
        ck_then (wI h a0 5 (-1)) fun h10 =>
        ck_bd (f_Op_collect F a0 a2 h10) fun r13 h14 =>
        if r13 < (0 : Int32) then
          some (r13, h14)
        else
          ck_as (gk h14 a1 = 6) <|
          ck_then (wI h14 a1 1 0) fun h18 =>
          ck_as (gk h18 a2 = 6) <|
          ck_some (gR h18 a2 0) fun b21 =>
          ck_bd (f_Rw_addAll F a1 b21 0 (gI h18 a2 1) h18) fun _ h24 =>
          ck_as (gk h24 a2 = 6) <|
          ck_as (gk h24 a0 = 5) <|
          ck_then (wI h24 a0 5 (gI h24 a2 1)) fun h28 =>
          ck_then (wI h28 a0 9 ((gI h28 a0 9) + 1)) fun h31 =>
          some (gI h31 a2 1, h31)
set_option maxRecDepth 100000 in
set_option maxHeartbeats 4000000 in
theorem s_Op_getRecord {F : Nat} {a0 : Nat} {a1 : Nat} {a2 : Nat} {h h' : ck_H} {r : Int32} (e : f_Op_getRecord F a0 a1 a2 h = some (r, h')) : Go k_Op_getRecord 0 (ck_in [.ref a0, .ref a1, .ref a2] 4) [] h (some (.int r), h') := by
  unfold f_Op_getRecord at e
  show Go k_Op_getRecord 0 [some (.ref a0), some (.ref a1), some (.ref a2), none] [] h _
  refine go_aload_n rfl rfl ?_
  replace e := ck_as_e e
  obtain ⟨hk_1, e⟩ := e
  replace e := ck_opt_e e
  rcases e with ⟨hq_2, e⟩ | ⟨b3, hq_2, e⟩
  · refine go_get (v := .null) rfl rfl hk_1 (by decide) (by show va_rf (gR h a0 4) = _; rw [hq_2]; rfl) ?_
    refine go_ifnullN (t := 33) rfl rfl ?_
    refine go_bipush (v := (-3)) rfl (by decide) ?_
    cases e
    exact go_ret rfl rfl
  refine go_get (v := .ref b3) rfl rfl hk_1 (by decide) (by show va_rf (gR h a0 4) = _; rw [hq_2]; rfl) ?_
  refine go_ifnull rfl ?_
  refine go_aload_n rfl rfl ?_
  refine go_get (v := .int (gI h a0 8)) rfl rfl hk_1 (by decide) rfl ?_
  refine go_iconst (v := 1) rfl (by decide) ?_
  refine go_icmp_eq (t := 33) rfl rfl (fun hx_4 => ?_) (fun hx_4 => ?_)
  · rw [if_pos hx_4] at e
    refine go_bipush (v := (-3)) rfl (by decide) ?_
    cases e
    exact go_ret rfl rfl
  · rw [if_neg hx_4] at e
    refine go_aload_n rfl rfl ?_
    replace e := ck_some_e e
    obtain ⟨b5, hq_6, e⟩ := e
    refine go_get (v := .ref b5) rfl rfl hk_1 (by decide) (by show va_rf (gR h a0 4) = _; rw [hq_6]; rfl) ?_
    replace e := ck_as_e e
    obtain ⟨hk_7, e⟩ := e
    refine go_get (v := .int (gI h b5 6)) rfl rfl hk_7 (by decide) rfl ?_
    refine go_iconst (v := 3) rfl (by decide) ?_
    refine go_icmp_eq (t := 33) rfl rfl (fun hx_8 => ?_) (fun hx_8 => ?_)
    · rw [if_pos hx_8] at e
      refine go_bipush (v := (-3)) rfl (by decide) ?_
      cases e
      exact go_ret rfl rfl
    · rw [if_neg hx_8] at e
      refine go_aload_n rfl rfl ?_
      refine go_get (v := .int (gI h a0 6)) rfl rfl hk_1 (by decide) rfl ?_
      refine go_if_ne (t := 36) rfl rfl (fun hx_9 => ?_) (fun hx_9 => ?_)
      · rw [if_pos hx_9] at e
        refine go_bipush (v := (-3)) rfl (by decide) ?_
        cases e
        exact go_ret rfl rfl
      · rw [if_neg hx_9] at e
        refine go_aload_n rfl rfl ?_
        refine go_iconst (v := (-1)) rfl (by decide) ?_
        refine go_put (h1 := wI h a0 5 (-1)) rfl rfl hk_1 ⟨by decide, by decide, Or.inl rfl⟩ rfl ?_
        have hk_11 : gk (wI h a0 5 (-1)) a0 = 5 := ck_kI.trans hk_1
        have hk_12 : gk (wI h a0 5 (-1)) b5 = 2 := ck_kI.trans hk_7
        generalize wI h a0 5 (-1) = h10 at e hk_11 hk_12 ⊢
        replace e := ck_then_e e
        refine go_aload_n rfl rfl ?_
        refine go_aload_n rfl rfl ?_
        replace e := ck_bd_e e
        obtain ⟨r13, h14, e15, e⟩ := e
        refine go_callV (As := [.ref a2]) (b0 := a0) (rest := []) rfl rfl ⟨hk_11, by decide⟩ rfl ⟨Nat.le_of_ble_eq_true rfl, Nat.le_of_ble_eq_true rfl, Nat.le_of_ble_eq_true rfl, Nat.le_of_ble_eq_true rfl⟩ (s_Op_collect e15) ?_
        show Go k_Op_getRecord 46 [some (.ref a0), some (.ref a1), some (.ref a2), none] [.int r13] h14 _
        refine go_istore_n rfl rfl ?_
        show Go k_Op_getRecord 47 [some (.ref a0), some (.ref a1), some (.ref a2), some (.int r13)] [] h14 _
        refine go_iload_n rfl rfl ?_
        refine go_if_ge (t := 53) rfl rfl (fun hx_16 => ?_) (fun hx_16 => ?_)
        · rw [if_pos hx_16] at e
          refine go_iload_n rfl rfl ?_
          cases e
          exact go_ret rfl rfl
        · rw [if_neg hx_16] at e
          refine go_aload_n rfl rfl ?_
          refine go_iconst (v := 0) rfl (by decide) ?_
          replace e := ck_as_e e
          obtain ⟨hk_17, e⟩ := e
          refine go_put (h1 := wI h14 a1 1 0) rfl rfl hk_17 ⟨by decide, by decide, Or.inl rfl⟩ rfl ?_
          have hk_19 : gk (wI h14 a1 1 0) a1 = 6 := ck_kI.trans hk_17
          generalize wI h14 a1 1 0 = h18 at e hk_19 ⊢
          replace e := ck_then_e e
          refine go_aload_n rfl rfl ?_
          refine go_aload_n rfl rfl ?_
          replace e := ck_as_e e
          obtain ⟨hk_20, e⟩ := e
          replace e := ck_some_e e
          obtain ⟨b21, hq_22, e⟩ := e
          refine go_get (v := .ref b21) rfl rfl hk_20 (by decide) (by show va_rf (gR h18 a2 0) = _; rw [hq_22]; rfl) ?_
          refine go_iconst (v := 0) rfl (by decide) ?_
          refine go_aload_n rfl rfl ?_
          refine go_get (v := .int (gI h18 a2 1)) rfl rfl hk_20 (by decide) rfl ?_
          replace e := ck_bd_e e
          obtain ⟨r23, h24, e25, e⟩ := e
          refine go_callV (As := [.ref b21, .int 0, .int (gI h18 a2 1)]) (b0 := a1) (rest := []) rfl rfl ⟨hk_19, by decide⟩ rfl ⟨Nat.le_of_ble_eq_true rfl, Nat.le_of_ble_eq_true rfl, Nat.le_of_ble_eq_true rfl, Nat.le_of_ble_eq_true rfl⟩ (s_Rw_addAll e25) ?_
          show Go k_Op_getRecord 71 [some (.ref a0), some (.ref a1), some (.ref a2), some (.int r13)] [] h24 _
          refine go_aload_n rfl rfl ?_
          refine go_aload_n rfl rfl ?_
          replace e := ck_as_e e
          obtain ⟨hk_26, e⟩ := e
          refine go_get (v := .int (gI h24 a2 1)) rfl rfl hk_26 (by decide) rfl ?_
          replace e := ck_as_e e
          obtain ⟨hk_27, e⟩ := e
          refine go_put (h1 := wI h24 a0 5 (gI h24 a2 1)) rfl rfl hk_27 ⟨by decide, by decide, Or.inl rfl⟩ rfl ?_
          have hk_29 : gk (wI h24 a0 5 (gI h24 a2 1)) a2 = 6 := ck_kI.trans hk_26
          have hk_30 : gk (wI h24 a0 5 (gI h24 a2 1)) a0 = 5 := ck_kI.trans hk_27
          generalize wI h24 a0 5 (gI h24 a2 1) = h28 at e hk_29 hk_30 ⊢
          replace e := ck_then_e e
          refine go_aload_n rfl rfl ?_
          refine go_dup rfl rfl ?_
          refine go_get (v := .int (gI h28 a0 9)) rfl rfl hk_30 (by decide) rfl ?_
          refine go_iconst (v := 1) rfl (by decide) ?_
          refine go_iadd rfl ?_
          refine go_put (h1 := wI h28 a0 9 ((gI h28 a0 9) + 1)) rfl rfl hk_30 ⟨by decide, by decide, Or.inl rfl⟩ rfl ?_
          have hk_32 : gk (wI h28 a0 9 ((gI h28 a0 9) + 1)) a2 = 6 := ck_kI.trans hk_29
          have hk_33 : gk (wI h28 a0 9 ((gI h28 a0 9) + 1)) a0 = 5 := ck_kI.trans hk_30
          generalize wI h28 a0 9 ((gI h28 a0 9) + 1) = h31 at e hk_32 hk_33 ⊢
          replace e := ck_then_e e
          refine go_aload_n rfl rfl ?_
          refine go_get (v := .int (gI h31 a2 1)) rfl rfl hk_32 (by decide) rfl ?_
          cases e
          exact go_ret rfl rfl
def f_CS_get (F : Nat) (a0 : Nat) (v1 : Int32) (h : ck_H) : Option (Int32 × ck_H) :=
  ck_as (gk h a0 = 11) <|
  ck_bd (f_CS_openingAt F a0 v1 h) fun r2 h3 =>
  ck_opt r2 (
    some ((-3), h3)
  ) fun b6 =>
  ck_as (gk h3 a0 = 11) <|
  ck_some (gR h3 a0 1) fun b8 =>
  ck_some (gR h3 a0 2) fun b10 =>
  ck_as (gk h3 b6 = 5) <|
  ck_bd (f_Op_getRecord F b6 b8 b10 h3) fun r13 h14 =>
  some (r13, h14)
set_option maxRecDepth 100000 in
set_option maxHeartbeats 4000000 in
theorem s_CS_get {F : Nat} {a0 : Nat} {v1 : Int32} {h h' : ck_H} {r : Int32} (e : f_CS_get F a0 v1 h = some (r, h')) : Go k_CS_get 0 (ck_in [.ref a0, .int v1] 3) [] h (some (.int r), h') := by
  unfold f_CS_get at e
  show Go k_CS_get 0 [some (.ref a0), some (.int v1), none] [] h _
  refine go_aload_n rfl rfl ?_
  refine go_iload_n rfl rfl ?_
  replace e := ck_as_e e
  obtain ⟨hk_1, e⟩ := e
  replace e := ck_bd_e e
  obtain ⟨r2, h3, e4, e⟩ := e
  refine go_callV (As := [.int v1]) (b0 := a0) (rest := []) rfl rfl ⟨hk_1, by decide⟩ rfl ⟨Nat.le_of_ble_eq_true rfl, Nat.le_of_ble_eq_true rfl, Nat.le_of_ble_eq_true rfl, Nat.le_of_ble_eq_true rfl⟩ (s_CS_openingAt e4) ?_
  replace e := ck_opt_e e
  rcases e with ⟨hq_5, e⟩ | ⟨b6, hq_5, e⟩
  · subst hq_5
    show Go k_CS_get 5 [some (.ref a0), some (.int v1), none] [.null] h3 _
    refine go_astore_nN rfl rfl ?_
    show Go k_CS_get 6 [some (.ref a0), some (.int v1), some .null] [] h3 _
    refine go_aload_nN rfl rfl ?_
    refine go_ifnonnullN rfl ?_
    refine go_bipush (v := (-3)) rfl (by decide) ?_
    refine go_goto (t := 27) rfl rfl ?_
    cases e
    exact go_ret rfl rfl
  subst hq_5
  show Go k_CS_get 5 [some (.ref a0), some (.int v1), none] [.ref b6] h3 _
  refine go_astore_n rfl rfl ?_
  show Go k_CS_get 6 [some (.ref a0), some (.int v1), some (.ref b6)] [] h3 _
  refine go_aload_n rfl rfl ?_
  refine go_ifnonnull (t := 15) rfl rfl ?_
  refine go_aload_n rfl rfl ?_
  refine go_aload_n rfl rfl ?_
  replace e := ck_as_e e
  obtain ⟨hk_7, e⟩ := e
  replace e := ck_some_e e
  obtain ⟨b8, hq_9, e⟩ := e
  refine go_get (v := .ref b8) rfl rfl hk_7 (by decide) (by show va_rf (gR h3 a0 1) = _; rw [hq_9]; rfl) ?_
  refine go_aload_n rfl rfl ?_
  replace e := ck_some_e e
  obtain ⟨b10, hq_11, e⟩ := e
  refine go_get (v := .ref b10) rfl rfl hk_7 (by decide) (by show va_rf (gR h3 a0 2) = _; rw [hq_11]; rfl) ?_
  replace e := ck_as_e e
  obtain ⟨hk_12, e⟩ := e
  replace e := ck_bd_e e
  obtain ⟨r13, h14, e15, e⟩ := e
  refine go_callV (As := [.ref b8, .ref b10]) (b0 := b6) (rest := []) rfl rfl ⟨hk_12, by decide⟩ rfl ⟨Nat.le_of_ble_eq_true rfl, Nat.le_of_ble_eq_true rfl, Nat.le_of_ble_eq_true rfl, Nat.le_of_ble_eq_true rfl⟩ (s_Op_getRecord e15) ?_
  show Go k_CS_get 27 [some (.ref a0), some (.int v1), some (.ref b6)] [.int r13] h14 _
  cases e
  exact go_ret rfl rfl
def f_Op_rewriteRecord_J188 (F : Nat) (k54 : Nat → Nat → Int32 → Int32 → ck_H → Option (Int32 × ck_H)) (a0 : Nat) (a1 : Nat) (v2 : Int32) (v3 : Int32) (a4 : Nat) (v5 : Int32) (v6 : Int32) (h : ck_H) : Option (Int32 × ck_H) :=
  ck_as (gk h a0 = 5) <|
  ck_some (gR h a0 4) fun b2 =>
  ck_some (gR h a0 3) fun b4 =>
  ck_as (gk h b4 = 7) <|
  ck_some (gR h a0 3) fun b7 =>
  ck_as (gk h b7 = 7) <|
  ck_as (gk h b2 = 2) <|
  ck_bd (f_DS_pieceType F b2 a4 (gI h b4 1) (gI h b7 2) h) fun r11 h12 =>
  ck_bd (f_DS_ends F r11 h12) fun r14 h15 =>
  if r14 = (0 : Int32) then
    ck_then (v2 + v6) fun x18 =>
    ck_as (gk h15 a0 = 5) <|
    ck_some (gR h15 a0 3) fun b20 =>
    ck_as (gk h15 b20 = 7) <|
    ck_then (wI h15 b20 2 ((gI h15 b20 2) + v5)) fun h23 =>
    k54 a0 a1 x18 (v3 + 1) h23
  else
    some (1, h15)
set_option maxRecDepth 100000 in
set_option maxHeartbeats 4000000 in
theorem f_Op_rewriteRecord_J188_s (F : Nat) (k54 : Nat → Nat → Int32 → Int32 → ck_H → Option (Int32 × ck_H)) (hk54 : ∀ (a0 : Nat) (a1 : Nat) (v2 : Int32) (v3 : Int32) (h : ck_H) (r : Int32) (h' : ck_H), k54 a0 a1 v2 v3 h = some (r, h') → Go k_Op_rewriteRecord 54 [some (.ref a0), some (.ref a1), some (.int v2), some (.int v3), none, none, none] [] h (some (.int r), h')) (a0 : Nat) (a1 : Nat) (v2 : Int32) (v3 : Int32) (a4 : Nat) (v5 : Int32) (v6 : Int32) (h : ck_H) (r : Int32) (h' : ck_H) (e : f_Op_rewriteRecord_J188 F k54 a0 a1 v2 v3 a4 v5 v6 h = some (r, h')) : Go k_Op_rewriteRecord 188 [some (.ref a0), some (.ref a1), some (.int v2), some (.int v3), some (.ref a4), some (.int v5), some (.int v6)] [] h (some (.int r), h') := by
  unfold f_Op_rewriteRecord_J188 at e
  refine go_aload_n rfl rfl ?_
  replace e := ck_as_e e
  obtain ⟨hk_1, e⟩ := e
  replace e := ck_some_e e
  obtain ⟨b2, hq_3, e⟩ := e
  refine go_get (v := .ref b2) rfl rfl hk_1 (by decide) (by show va_rf (gR h a0 4) = _; rw [hq_3]; rfl) ?_
  refine go_aload rfl rfl ?_
  refine go_aload_n rfl rfl ?_
  replace e := ck_some_e e
  obtain ⟨b4, hq_5, e⟩ := e
  refine go_get (v := .ref b4) rfl rfl hk_1 (by decide) (by show va_rf (gR h a0 3) = _; rw [hq_5]; rfl) ?_
  replace e := ck_as_e e
  obtain ⟨hk_6, e⟩ := e
  refine go_get (v := .int (gI h b4 1)) rfl rfl hk_6 (by decide) rfl ?_
  refine go_aload_n rfl rfl ?_
  replace e := ck_some_e e
  obtain ⟨b7, hq_8, e⟩ := e
  refine go_get (v := .ref b7) rfl rfl hk_1 (by decide) (by show va_rf (gR h a0 3) = _; rw [hq_8]; rfl) ?_
  replace e := ck_as_e e
  obtain ⟨hk_9, e⟩ := e
  refine go_get (v := .int (gI h b7 2)) rfl rfl hk_9 (by decide) rfl ?_
  replace e := ck_as_e e
  obtain ⟨hk_10, e⟩ := e
  replace e := ck_bd_e e
  obtain ⟨r11, h12, e13, e⟩ := e
  refine go_callV (As := [.ref a4, .int (gI h b4 1), .int (gI h b7 2)]) (b0 := b2) (rest := []) rfl rfl ⟨hk_10, by decide⟩ rfl ⟨Nat.le_of_ble_eq_true rfl, Nat.le_of_ble_eq_true rfl, Nat.le_of_ble_eq_true rfl, Nat.le_of_ble_eq_true rfl⟩ (s_DS_pieceType e13) ?_
  show Go k_Op_rewriteRecord 211 [some (.ref a0), some (.ref a1), some (.int v2), some (.int v3), some (.ref a4), some (.int v5), some (.int v6)] [.int r11] h12 _
  replace e := ck_bd_e e
  obtain ⟨r14, h15, e16, e⟩ := e
  refine go_callS (As := [.int r11]) (rest := []) rfl rfl rfl ⟨Nat.le_of_ble_eq_true rfl, Nat.le_of_ble_eq_true rfl, Nat.le_of_ble_eq_true rfl, Nat.le_of_ble_eq_true rfl⟩ (s_DS_ends e16) ?_
  show Go k_Op_rewriteRecord 214 [some (.ref a0), some (.ref a1), some (.int v2), some (.int v3), some (.ref a4), some (.int v5), some (.int v6)] [.int r14] h15 _
  refine go_if_eq (t := 219) rfl rfl (fun hx_17 => ?_) (fun hx_17 => ?_)
  · rw [if_pos hx_17] at e
    refine go_iload_n rfl rfl ?_
    refine go_iload rfl rfl ?_
    refine go_iadd rfl ?_
    generalize v2 + v6 = x18 at e ⊢
    replace e := ck_then_e e
    refine go_istore_n rfl rfl ?_
    show Go k_Op_rewriteRecord 224 [some (.ref a0), some (.ref a1), some (.int x18), some (.int v3), some (.ref a4), some (.int v5), some (.int v6)] [] h15 _
    refine go_aload_n rfl rfl ?_
    replace e := ck_as_e e
    obtain ⟨hk_19, e⟩ := e
    replace e := ck_some_e e
    obtain ⟨b20, hq_21, e⟩ := e
    refine go_get (v := .ref b20) rfl rfl hk_19 (by decide) (by show va_rf (gR h15 a0 3) = _; rw [hq_21]; rfl) ?_
    refine go_dup rfl rfl ?_
    replace e := ck_as_e e
    obtain ⟨hk_22, e⟩ := e
    refine go_get (v := .int (gI h15 b20 2)) rfl rfl hk_22 (by decide) rfl ?_
    refine go_iload rfl rfl ?_
    refine go_iadd rfl ?_
    refine go_put (h1 := wI h15 b20 2 ((gI h15 b20 2) + v5)) rfl rfl hk_22 ⟨by decide, by decide, Or.inl rfl⟩ rfl ?_
    have hk_24 : gk (wI h15 b20 2 ((gI h15 b20 2) + v5)) a0 = 5 := ck_kI.trans hk_19
    have hk_25 : gk (wI h15 b20 2 ((gI h15 b20 2) + v5)) b20 = 7 := ck_kI.trans hk_22
    generalize wI h15 b20 2 ((gI h15 b20 2) + v5) = h23 at e hk_24 hk_25 ⊢
    replace e := ck_then_e e
    refine go_iinc (v := 1) rfl rfl (by decide) rfl ?_
    show Go k_Op_rewriteRecord 241 [some (.ref a0), some (.ref a1), some (.int x18), some (.int (v3 + 1)), some (.ref a4), some (.int v5), some (.int v6)] [] h23 _
    refine go_goto (t := 54) rfl rfl ?_
    refine go_forget (l := [some (.ref a0), some (.ref a1), some (.int x18), some (.int (v3 + 1)), none, none, none]) ⟨Or.inl rfl, Or.inl rfl, Or.inl rfl, Or.inl rfl, Or.inr ⟨rfl, fun _ q => by cases q; rfl⟩, Or.inr ⟨rfl, fun _ q => by cases q; rfl⟩, Or.inr ⟨rfl, fun _ q => by cases q; rfl⟩, trivial⟩ ?_
    exact hk54 _ _ _ _ _ _ _ e
  · rw [if_neg hx_17] at e
    refine go_iconst (v := 1) rfl (by decide) ?_
    cases e
    exact go_ret rfl rfl
def f_Op_rewriteRecord_L54 (F : Nat)  : Nat → Nat → Nat → Int32 → Int32 → ck_H → Option (Int32 × ck_H)
  | 0, _, _, _, _, _ => none
  | n + 1, a0, a1, v2, v3, h =>
    if v3 < (1000000 : Int32) then
      ck_as (gk h a0 = 5) <|
      ck_some (gR h a0 3) fun b3 =>
      ck_some (gR h a0 4) fun b5 =>
      ck_as (gk h b3 = 7) <|
      ck_bd (f_Sp_settle F b3 b5 h) fun r8 h9 =>
      ck_opt r8 (
        some (1, h9)
      ) fun b12 =>
      ck_as (gk h9 a0 = 5) <|
      ck_some (gR h9 a0 3) fun b14 =>
      ck_some (gR h9 a0 3) fun b16 =>
      ck_as (gk h9 b16 = 7) <|
      ck_some (gR h9 a0 4) fun b19 =>
      ck_as (gk h9 b19 = 2) <|
      ck_bd (f_DS_blockLead F b19 h9) fun r22 h23 =>
      ck_bd (f_Ma_max F (gI h9 b16 2) r22 h23) fun r25 h26 =>
      ck_as (gk h26 b14 = 7) <|
      ck_then (wI h26 b14 2 r25) fun h29 =>
      ck_as (gk h29 a0 = 5) <|
      ck_some (gR h29 a0 4) fun b32 =>
      ck_some (gR h29 a0 3) fun b34 =>
      ck_as (gk h29 b34 = 7) <|
      ck_some (gR h29 a0 3) fun b37 =>
      ck_as (gk h29 b37 = 7) <|
      ck_as (gk h29 b32 = 2) <|
      ck_bd (f_DS_pieceLength F b32 b12 (gI h29 b34 1) (gI h29 b37 2) h29) fun r41 h42 =>
      ck_as (gk h42 a0 = 5) <|
      ck_some (gR h42 a0 4) fun b45 =>
      ck_as (gk h42 b45 = 2) <|
      ck_bd (f_DS_pieceLead F b45 h42) fun r48 h49 =>
      ck_then (r41 - r48) fun x51 =>
      ck_as (gk h49 a0 = 5) <|
      ck_some (gR h49 a0 3) fun b53 =>
      ck_as (gk h49 b53 = 7) <|
      ck_some (gR h49 a0 3) fun b56 =>
      ck_as (gk h49 b56 = 7) <|
      ck_some (gR h49 a0 4) fun b59 =>
      ck_as (gk h49 b59 = 2) <|
      ck_bd (f_DS_pieceLead F b59 h49) fun r62 h63 =>
      ck_as (gk h63 a1 = 6) <|
      ck_some (gR h63 a1 0) fun b66 =>
      ck_as (gk h63 b12 = 8) <|
      ck_bd (f_Tr_store F b12 (gI h49 b53 1) ((gI h49 b56 2) + r62) b66 v2 x51 h63) fun _ h70 =>
      ck_as (gk h70 a0 = 5) <|
      ck_some (gR h70 a0 3) fun b73 =>
      ck_as (gk h70 b73 = 7) <|
      ck_as (gk h70 b12 = 8) <|
      ck_bd (f_Tr_mark F b12 (gI h70 b73 1) 0 h70) fun _ h78 =>
      f_Op_rewriteRecord_J188 F (f_Op_rewriteRecord_L54 F n) a0 a1 v2 v3 b12 r41 x51 h78
    else
      some (1, h)
set_option maxRecDepth 100000 in
set_option maxHeartbeats 4000000 in
theorem f_Op_rewriteRecord_L54_s (F : Nat)   : ∀ (n : Nat) (a0 : Nat) (a1 : Nat) (v2 : Int32) (v3 : Int32) (h : ck_H) (r : Int32) (h' : ck_H), f_Op_rewriteRecord_L54 F n a0 a1 v2 v3 h = some (r, h') → Go k_Op_rewriteRecord 54 [some (.ref a0), some (.ref a1), some (.int v2), some (.int v3), none, none, none] [] h (some (.int r), h') := by
  intro n
  induction n with
  | zero => intro a0 a1 v2 v3 h r h' e; simp only [f_Op_rewriteRecord_L54] at e; cases e
  | succ n ih =>
    intro a0 a1 v2 v3 h r h' e
    rw [f_Op_rewriteRecord_L54] at e
    refine go_iload_n rfl rfl ?_
    refine go_ldc (v := 1000000) rfl rfl ?_
    refine go_icmp_ge (t := 244) rfl rfl (fun hx_1 => ?_) (fun hx_1 => ?_)
    · rw [if_pos hx_1] at e
      refine go_aload_n rfl rfl ?_
      replace e := ck_as_e e
      obtain ⟨hk_2, e⟩ := e
      replace e := ck_some_e e
      obtain ⟨b3, hq_4, e⟩ := e
      refine go_get (v := .ref b3) rfl rfl hk_2 (by decide) (by show va_rf (gR h a0 3) = _; rw [hq_4]; rfl) ?_
      refine go_aload_n rfl rfl ?_
      replace e := ck_some_e e
      obtain ⟨b5, hq_6, e⟩ := e
      refine go_get (v := .ref b5) rfl rfl hk_2 (by decide) (by show va_rf (gR h a0 4) = _; rw [hq_6]; rfl) ?_
      replace e := ck_as_e e
      obtain ⟨hk_7, e⟩ := e
      replace e := ck_bd_e e
      obtain ⟨r8, h9, e10, e⟩ := e
      refine go_callV (As := [.ref b5]) (b0 := b3) (rest := []) rfl rfl ⟨hk_7, by decide⟩ rfl ⟨Nat.le_of_ble_eq_true rfl, Nat.le_of_ble_eq_true rfl, Nat.le_of_ble_eq_true rfl, Nat.le_of_ble_eq_true rfl⟩ (s_Sp_settle e10) ?_
      replace e := ck_opt_e e
      rcases e with ⟨hq_11, e⟩ | ⟨b12, hq_11, e⟩
      · subst hq_11
        show Go k_Op_rewriteRecord 71 [some (.ref a0), some (.ref a1), some (.int v2), some (.int v3), none, none, none] [.null] h9 _
        refine go_astoreN rfl rfl ?_
        show Go k_Op_rewriteRecord 73 [some (.ref a0), some (.ref a1), some (.int v2), some (.int v3), some .null, none, none] [] h9 _
        refine go_aloadN rfl rfl ?_
        refine go_ifnonnullN rfl ?_
        refine go_iconst (v := 1) rfl (by decide) ?_
        cases e
        exact go_ret rfl rfl
      subst hq_11
      show Go k_Op_rewriteRecord 71 [some (.ref a0), some (.ref a1), some (.int v2), some (.int v3), none, none, none] [.ref b12] h9 _
      refine go_astore rfl rfl ?_
      show Go k_Op_rewriteRecord 73 [some (.ref a0), some (.ref a1), some (.int v2), some (.int v3), some (.ref b12), none, none] [] h9 _
      refine go_aload rfl rfl ?_
      refine go_ifnonnull (t := 80) rfl rfl ?_
      refine go_aload_n rfl rfl ?_
      replace e := ck_as_e e
      obtain ⟨hk_13, e⟩ := e
      replace e := ck_some_e e
      obtain ⟨b14, hq_15, e⟩ := e
      refine go_get (v := .ref b14) rfl rfl hk_13 (by decide) (by show va_rf (gR h9 a0 3) = _; rw [hq_15]; rfl) ?_
      refine go_aload_n rfl rfl ?_
      replace e := ck_some_e e
      obtain ⟨b16, hq_17, e⟩ := e
      refine go_get (v := .ref b16) rfl rfl hk_13 (by decide) (by show va_rf (gR h9 a0 3) = _; rw [hq_17]; rfl) ?_
      replace e := ck_as_e e
      obtain ⟨hk_18, e⟩ := e
      refine go_get (v := .int (gI h9 b16 2)) rfl rfl hk_18 (by decide) rfl ?_
      refine go_aload_n rfl rfl ?_
      replace e := ck_some_e e
      obtain ⟨b19, hq_20, e⟩ := e
      refine go_get (v := .ref b19) rfl rfl hk_13 (by decide) (by show va_rf (gR h9 a0 4) = _; rw [hq_20]; rfl) ?_
      replace e := ck_as_e e
      obtain ⟨hk_21, e⟩ := e
      replace e := ck_bd_e e
      obtain ⟨r22, h23, e24, e⟩ := e
      refine go_callV (As := []) (b0 := b19) (rest := [.int (gI h9 b16 2), .ref b14]) rfl rfl ⟨hk_21, by decide⟩ rfl ⟨Nat.le_of_ble_eq_true rfl, Nat.le_of_ble_eq_true rfl, Nat.le_of_ble_eq_true rfl, Nat.le_of_ble_eq_true rfl⟩ (s_DS_blockLead e24) ?_
      show Go k_Op_rewriteRecord 98 [some (.ref a0), some (.ref a1), some (.int v2), some (.int v3), some (.ref b12), none, none] [.int r22, .int (gI h9 b16 2), .ref b14] h23 _
      replace e := ck_bd_e e
      obtain ⟨r25, h26, e27, e⟩ := e
      refine go_callS (As := [.int (gI h9 b16 2), .int r22]) (rest := [.ref b14]) rfl rfl rfl ⟨Nat.le_of_ble_eq_true rfl, Nat.le_of_ble_eq_true rfl, Nat.le_of_ble_eq_true rfl, Nat.le_of_ble_eq_true rfl⟩ (s_Ma_max e27) ?_
      show Go k_Op_rewriteRecord 101 [some (.ref a0), some (.ref a1), some (.int v2), some (.int v3), some (.ref b12), none, none] [.int r25, .ref b14] h26 _
      replace e := ck_as_e e
      obtain ⟨hk_28, e⟩ := e
      refine go_put (h1 := wI h26 b14 2 r25) rfl rfl hk_28 ⟨by decide, by decide, Or.inl rfl⟩ rfl ?_
      have hk_30 : gk (wI h26 b14 2 r25) b14 = 7 := ck_kI.trans hk_28
      generalize wI h26 b14 2 r25 = h29 at e hk_30 ⊢
      replace e := ck_then_e e
      refine go_aload_n rfl rfl ?_
      replace e := ck_as_e e
      obtain ⟨hk_31, e⟩ := e
      replace e := ck_some_e e
      obtain ⟨b32, hq_33, e⟩ := e
      refine go_get (v := .ref b32) rfl rfl hk_31 (by decide) (by show va_rf (gR h29 a0 4) = _; rw [hq_33]; rfl) ?_
      refine go_aload rfl rfl ?_
      refine go_aload_n rfl rfl ?_
      replace e := ck_some_e e
      obtain ⟨b34, hq_35, e⟩ := e
      refine go_get (v := .ref b34) rfl rfl hk_31 (by decide) (by show va_rf (gR h29 a0 3) = _; rw [hq_35]; rfl) ?_
      replace e := ck_as_e e
      obtain ⟨hk_36, e⟩ := e
      refine go_get (v := .int (gI h29 b34 1)) rfl rfl hk_36 (by decide) rfl ?_
      refine go_aload_n rfl rfl ?_
      replace e := ck_some_e e
      obtain ⟨b37, hq_38, e⟩ := e
      refine go_get (v := .ref b37) rfl rfl hk_31 (by decide) (by show va_rf (gR h29 a0 3) = _; rw [hq_38]; rfl) ?_
      replace e := ck_as_e e
      obtain ⟨hk_39, e⟩ := e
      refine go_get (v := .int (gI h29 b37 2)) rfl rfl hk_39 (by decide) rfl ?_
      replace e := ck_as_e e
      obtain ⟨hk_40, e⟩ := e
      replace e := ck_bd_e e
      obtain ⟨r41, h42, e43, e⟩ := e
      refine go_callV (As := [.ref b12, .int (gI h29 b34 1), .int (gI h29 b37 2)]) (b0 := b32) (rest := []) rfl rfl ⟨hk_40, by decide⟩ rfl ⟨Nat.le_of_ble_eq_true rfl, Nat.le_of_ble_eq_true rfl, Nat.le_of_ble_eq_true rfl, Nat.le_of_ble_eq_true rfl⟩ (s_DS_pieceLength e43) ?_
      show Go k_Op_rewriteRecord 127 [some (.ref a0), some (.ref a1), some (.int v2), some (.int v3), some (.ref b12), none, none] [.int r41] h42 _
      refine go_istore rfl rfl ?_
      show Go k_Op_rewriteRecord 129 [some (.ref a0), some (.ref a1), some (.int v2), some (.int v3), some (.ref b12), some (.int r41), none] [] h42 _
      refine go_iload rfl rfl ?_
      refine go_aload_n rfl rfl ?_
      replace e := ck_as_e e
      obtain ⟨hk_44, e⟩ := e
      replace e := ck_some_e e
      obtain ⟨b45, hq_46, e⟩ := e
      refine go_get (v := .ref b45) rfl rfl hk_44 (by decide) (by show va_rf (gR h42 a0 4) = _; rw [hq_46]; rfl) ?_
      replace e := ck_as_e e
      obtain ⟨hk_47, e⟩ := e
      replace e := ck_bd_e e
      obtain ⟨r48, h49, e50, e⟩ := e
      refine go_callV (As := []) (b0 := b45) (rest := [.int r41]) rfl rfl ⟨hk_47, by decide⟩ rfl ⟨Nat.le_of_ble_eq_true rfl, Nat.le_of_ble_eq_true rfl, Nat.le_of_ble_eq_true rfl, Nat.le_of_ble_eq_true rfl⟩ (s_DS_pieceLead e50) ?_
      show Go k_Op_rewriteRecord 138 [some (.ref a0), some (.ref a1), some (.int v2), some (.int v3), some (.ref b12), some (.int r41), none] [.int r48, .int r41] h49 _
      refine go_isub rfl ?_
      generalize r41 - r48 = x51 at e ⊢
      replace e := ck_then_e e
      refine go_istore rfl rfl ?_
      show Go k_Op_rewriteRecord 141 [some (.ref a0), some (.ref a1), some (.int v2), some (.int v3), some (.ref b12), some (.int r41), some (.int x51)] [] h49 _
      refine go_aload rfl rfl ?_
      refine go_aload_n rfl rfl ?_
      replace e := ck_as_e e
      obtain ⟨hk_52, e⟩ := e
      replace e := ck_some_e e
      obtain ⟨b53, hq_54, e⟩ := e
      refine go_get (v := .ref b53) rfl rfl hk_52 (by decide) (by show va_rf (gR h49 a0 3) = _; rw [hq_54]; rfl) ?_
      replace e := ck_as_e e
      obtain ⟨hk_55, e⟩ := e
      refine go_get (v := .int (gI h49 b53 1)) rfl rfl hk_55 (by decide) rfl ?_
      refine go_aload_n rfl rfl ?_
      replace e := ck_some_e e
      obtain ⟨b56, hq_57, e⟩ := e
      refine go_get (v := .ref b56) rfl rfl hk_52 (by decide) (by show va_rf (gR h49 a0 3) = _; rw [hq_57]; rfl) ?_
      replace e := ck_as_e e
      obtain ⟨hk_58, e⟩ := e
      refine go_get (v := .int (gI h49 b56 2)) rfl rfl hk_58 (by decide) rfl ?_
      refine go_aload_n rfl rfl ?_
      replace e := ck_some_e e
      obtain ⟨b59, hq_60, e⟩ := e
      refine go_get (v := .ref b59) rfl rfl hk_52 (by decide) (by show va_rf (gR h49 a0 4) = _; rw [hq_60]; rfl) ?_
      replace e := ck_as_e e
      obtain ⟨hk_61, e⟩ := e
      replace e := ck_bd_e e
      obtain ⟨r62, h63, e64, e⟩ := e
      refine go_callV (As := []) (b0 := b59) (rest := [.int (gI h49 b56 2), .int (gI h49 b53 1), .ref b12]) rfl rfl ⟨hk_61, by decide⟩ rfl ⟨Nat.le_of_ble_eq_true rfl, Nat.le_of_ble_eq_true rfl, Nat.le_of_ble_eq_true rfl, Nat.le_of_ble_eq_true rfl⟩ (s_DS_pieceLead e64) ?_
      show Go k_Op_rewriteRecord 164 [some (.ref a0), some (.ref a1), some (.int v2), some (.int v3), some (.ref b12), some (.int r41), some (.int x51)] [.int r62, .int (gI h49 b56 2), .int (gI h49 b53 1), .ref b12] h63 _
      refine go_iadd rfl ?_
      refine go_aload_n rfl rfl ?_
      replace e := ck_as_e e
      obtain ⟨hk_65, e⟩ := e
      replace e := ck_some_e e
      obtain ⟨b66, hq_67, e⟩ := e
      refine go_get (v := .ref b66) rfl rfl hk_65 (by decide) (by show va_rf (gR h63 a1 0) = _; rw [hq_67]; rfl) ?_
      refine go_iload_n rfl rfl ?_
      refine go_iload rfl rfl ?_
      replace e := ck_as_e e
      obtain ⟨hk_68, e⟩ := e
      replace e := ck_bd_e e
      obtain ⟨r69, h70, e71, e⟩ := e
      refine go_callV (As := [.int (gI h49 b53 1), .int ((gI h49 b56 2) + r62), .ref b66, .int v2, .int x51]) (b0 := b12) (rest := []) rfl rfl ⟨hk_68, by decide⟩ rfl ⟨Nat.le_of_ble_eq_true rfl, Nat.le_of_ble_eq_true rfl, Nat.le_of_ble_eq_true rfl, Nat.le_of_ble_eq_true rfl⟩ (s_Tr_store e71) ?_
      show Go k_Op_rewriteRecord 175 [some (.ref a0), some (.ref a1), some (.int v2), some (.int v3), some (.ref b12), some (.int r41), some (.int x51)] [] h70 _
      refine go_aload rfl rfl ?_
      refine go_aload_n rfl rfl ?_
      replace e := ck_as_e e
      obtain ⟨hk_72, e⟩ := e
      replace e := ck_some_e e
      obtain ⟨b73, hq_74, e⟩ := e
      refine go_get (v := .ref b73) rfl rfl hk_72 (by decide) (by show va_rf (gR h70 a0 3) = _; rw [hq_74]; rfl) ?_
      replace e := ck_as_e e
      obtain ⟨hk_75, e⟩ := e
      refine go_get (v := .int (gI h70 b73 1)) rfl rfl hk_75 (by decide) rfl ?_
      refine go_iconst (v := 0) rfl (by decide) ?_
      replace e := ck_as_e e
      obtain ⟨hk_76, e⟩ := e
      replace e := ck_bd_e e
      obtain ⟨r77, h78, e79, e⟩ := e
      refine go_callV (As := [.int (gI h70 b73 1), .int 0]) (b0 := b12) (rest := []) rfl rfl ⟨hk_76, by decide⟩ rfl ⟨Nat.le_of_ble_eq_true rfl, Nat.le_of_ble_eq_true rfl, Nat.le_of_ble_eq_true rfl, Nat.le_of_ble_eq_true rfl⟩ (s_Tr_mark e79) ?_
      show Go k_Op_rewriteRecord 188 [some (.ref a0), some (.ref a1), some (.int v2), some (.int v3), some (.ref b12), some (.int r41), some (.int x51)] [] h78 _
      refine go_forget (l := [some (.ref a0), some (.ref a1), some (.int v2), some (.int v3), some (.ref b12), some (.int r41), some (.int x51)]) ⟨Or.inl rfl, Or.inl rfl, Or.inl rfl, Or.inl rfl, Or.inl rfl, Or.inl rfl, Or.inl rfl, trivial⟩ ?_
      exact f_Op_rewriteRecord_J188_s F (f_Op_rewriteRecord_L54 F n) ih a0 a1 v2 v3 b12 r41 x51 _ _ _ e
    · rw [if_neg hx_1] at e
      refine go_iconst (v := 1) rfl (by decide) ?_
      cases e
      exact go_ret rfl rfl
def f_Op_rewriteRecord (F : Nat) (a0 : Nat) (a1 : Nat) (h : ck_H) : Option (Int32 × ck_H) :=
  ck_as (gk h a0 = 5) <|
  ck_opt (gR h a0 4) (
    some ((-3), h)
  ) fun b3 =>
  if (gI h a0 8) = (2 : Int32) then
    if (gI h a0 5) < (0 : Int32) then
      some ((-3), h)
    else
      ck_as (gk h a1 = 6) <|
      if (gI h a1 1) = (gI h a0 5) then
        ck_some (gR h a0 3) fun b8 =>
        ck_some (gR h a0 2) fun b10 =>
        ck_as (gk h b8 = 7) <|
        ck_bd (f_Sp_copyOf F b8 b10 h) fun _ h14 =>
        f_Op_rewriteRecord_L54 F F a0 a1 0 0 h14
      else
        some ((-5), h)
  else
    some ((-3), h)
set_option maxRecDepth 100000 in
set_option maxHeartbeats 4000000 in
theorem s_Op_rewriteRecord {F : Nat} {a0 : Nat} {a1 : Nat} {h h' : ck_H} {r : Int32} (e : f_Op_rewriteRecord F a0 a1 h = some (r, h')) : Go k_Op_rewriteRecord 0 (ck_in [.ref a0, .ref a1] 7) [] h (some (.int r), h') := by
  unfold f_Op_rewriteRecord at e
  show Go k_Op_rewriteRecord 0 [some (.ref a0), some (.ref a1), none, none, none, none, none] [] h _
  refine go_aload_n rfl rfl ?_
  replace e := ck_as_e e
  obtain ⟨hk_1, e⟩ := e
  replace e := ck_opt_e e
  rcases e with ⟨hq_2, e⟩ | ⟨b3, hq_2, e⟩
  · refine go_get (v := .null) rfl rfl hk_1 (by decide) (by show va_rf (gR h a0 4) = _; rw [hq_2]; rfl) ?_
    refine go_ifnullN (t := 22) rfl rfl ?_
    refine go_bipush (v := (-3)) rfl (by decide) ?_
    cases e
    exact go_ret rfl rfl
  refine go_get (v := .ref b3) rfl rfl hk_1 (by decide) (by show va_rf (gR h a0 4) = _; rw [hq_2]; rfl) ?_
  refine go_ifnull rfl ?_
  refine go_aload_n rfl rfl ?_
  refine go_get (v := .int (gI h a0 8)) rfl rfl hk_1 (by decide) rfl ?_
  refine go_iconst (v := 2) rfl (by decide) ?_
  refine go_icmp_ne (t := 22) rfl rfl (fun hx_4 => ?_) (fun hx_4 => ?_)
  · rw [if_pos hx_4] at e
    refine go_aload_n rfl rfl ?_
    refine go_get (v := .int (gI h a0 5)) rfl rfl hk_1 (by decide) rfl ?_
    refine go_if_ge (t := 25) rfl rfl (fun hx_5 => ?_) (fun hx_5 => ?_)
    · rw [if_pos hx_5] at e
      refine go_bipush (v := (-3)) rfl (by decide) ?_
      cases e
      exact go_ret rfl rfl
    · rw [if_neg hx_5] at e
      refine go_aload_n rfl rfl ?_
      replace e := ck_as_e e
      obtain ⟨hk_6, e⟩ := e
      refine go_get (v := .int (gI h a1 1)) rfl rfl hk_6 (by decide) rfl ?_
      refine go_aload_n rfl rfl ?_
      refine go_get (v := .int (gI h a0 5)) rfl rfl hk_1 (by decide) rfl ?_
      refine go_icmp_eq (t := 39) rfl rfl (fun hx_7 => ?_) (fun hx_7 => ?_)
      · rw [if_pos hx_7] at e
        refine go_aload_n rfl rfl ?_
        replace e := ck_some_e e
        obtain ⟨b8, hq_9, e⟩ := e
        refine go_get (v := .ref b8) rfl rfl hk_1 (by decide) (by show va_rf (gR h a0 3) = _; rw [hq_9]; rfl) ?_
        refine go_aload_n rfl rfl ?_
        replace e := ck_some_e e
        obtain ⟨b10, hq_11, e⟩ := e
        refine go_get (v := .ref b10) rfl rfl hk_1 (by decide) (by show va_rf (gR h a0 2) = _; rw [hq_11]; rfl) ?_
        replace e := ck_as_e e
        obtain ⟨hk_12, e⟩ := e
        replace e := ck_bd_e e
        obtain ⟨r13, h14, e15, e⟩ := e
        refine go_callV (As := [.ref b10]) (b0 := b8) (rest := []) rfl rfl ⟨hk_12, by decide⟩ rfl ⟨Nat.le_of_ble_eq_true rfl, Nat.le_of_ble_eq_true rfl, Nat.le_of_ble_eq_true rfl, Nat.le_of_ble_eq_true rfl⟩ (s_Sp_copyOf e15) ?_
        show Go k_Op_rewriteRecord 50 [some (.ref a0), some (.ref a1), none, none, none, none, none] [] h14 _
        refine go_iconst (v := 0) rfl (by decide) ?_
        refine go_istore_n rfl rfl ?_
        show Go k_Op_rewriteRecord 52 [some (.ref a0), some (.ref a1), some (.int 0), none, none, none, none] [] h14 _
        refine go_iconst (v := 0) rfl (by decide) ?_
        refine go_istore_n rfl rfl ?_
        show Go k_Op_rewriteRecord 54 [some (.ref a0), some (.ref a1), some (.int 0), some (.int 0), none, none, none] [] h14 _
        refine go_forget (l := [some (.ref a0), some (.ref a1), some (.int 0), some (.int 0), none, none, none]) ⟨Or.inl rfl, Or.inl rfl, Or.inl rfl, Or.inl rfl, Or.inl rfl, Or.inl rfl, Or.inl rfl, trivial⟩ ?_
        exact f_Op_rewriteRecord_L54_s F F _ _ _ _ _ _ _ e
      · rw [if_neg hx_7] at e
        refine go_bipush (v := (-5)) rfl (by decide) ?_
        cases e
        exact go_ret rfl rfl
  · rw [if_neg hx_4] at e
    refine go_bipush (v := (-3)) rfl (by decide) ?_
    cases e
    exact go_ret rfl rfl
def f_CS_rewrite (F : Nat) (a0 : Nat) (v1 : Int32) (h : ck_H) : Option (Int32 × ck_H) :=
  ck_as (gk h a0 = 11) <|
  ck_bd (f_CS_openingAt F a0 v1 h) fun r2 h3 =>
  ck_opt r2 (
    ck_as (gk h3 a0 = 11) <|
    ck_some (gR h3 a0 0) fun b8 =>
    ck_as (gk h3 b8 = 6) <|
    ck_then (wI h3 b8 1 0) fun h11 =>
    some ((-3), h11)
  ) fun b6 =>
  ck_as (gk h3 a0 = 11) <|
  ck_some (gR h3 a0 0) fun b15 =>
  ck_as (gk h3 b6 = 5) <|
  ck_bd (f_Op_rewriteRecord F b6 b15 h3) fun r18 h19 =>
  ck_as (gk h19 a0 = 11) <|
  ck_some (gR h19 a0 0) fun b22 =>
  ck_as (gk h19 b22 = 6) <|
  ck_then (wI h19 b22 1 0) fun h25 =>
  some (r18, h25)
set_option maxRecDepth 100000 in
set_option maxHeartbeats 4000000 in
theorem s_CS_rewrite {F : Nat} {a0 : Nat} {v1 : Int32} {h h' : ck_H} {r : Int32} (e : f_CS_rewrite F a0 v1 h = some (r, h')) : Go k_CS_rewrite 0 (ck_in [.ref a0, .int v1] 4) [] h (some (.int r), h') := by
  unfold f_CS_rewrite at e
  show Go k_CS_rewrite 0 [some (.ref a0), some (.int v1), none, none] [] h _
  refine go_aload_n rfl rfl ?_
  refine go_iload_n rfl rfl ?_
  replace e := ck_as_e e
  obtain ⟨hk_1, e⟩ := e
  replace e := ck_bd_e e
  obtain ⟨r2, h3, e4, e⟩ := e
  refine go_callV (As := [.int v1]) (b0 := a0) (rest := []) rfl rfl ⟨hk_1, by decide⟩ rfl ⟨Nat.le_of_ble_eq_true rfl, Nat.le_of_ble_eq_true rfl, Nat.le_of_ble_eq_true rfl, Nat.le_of_ble_eq_true rfl⟩ (s_CS_openingAt e4) ?_
  replace e := ck_opt_e e
  rcases e with ⟨hq_5, e⟩ | ⟨b6, hq_5, e⟩
  · subst hq_5
    show Go k_CS_rewrite 5 [some (.ref a0), some (.int v1), none, none] [.null] h3 _
    refine go_astore_nN rfl rfl ?_
    show Go k_CS_rewrite 6 [some (.ref a0), some (.int v1), some .null, none] [] h3 _
    refine go_aload_nN rfl rfl ?_
    refine go_ifnonnullN rfl ?_
    refine go_bipush (v := (-3)) rfl (by decide) ?_
    refine go_goto (t := 23) rfl rfl ?_
    refine go_istore_n rfl rfl ?_
    show Go k_CS_rewrite 24 [some (.ref a0), some (.int v1), some .null, some (.int (-3))] [] h3 _
    refine go_aload_n rfl rfl ?_
    replace e := ck_as_e e
    obtain ⟨hk_7, e⟩ := e
    replace e := ck_some_e e
    obtain ⟨b8, hq_9, e⟩ := e
    refine go_get (v := .ref b8) rfl rfl hk_7 (by decide) (by show va_rf (gR h3 a0 0) = _; rw [hq_9]; rfl) ?_
    refine go_iconst (v := 0) rfl (by decide) ?_
    replace e := ck_as_e e
    obtain ⟨hk_10, e⟩ := e
    refine go_put (h1 := wI h3 b8 1 0) rfl rfl hk_10 ⟨by decide, by decide, Or.inl rfl⟩ rfl ?_
    have hk_12 : gk (wI h3 b8 1 0) a0 = 11 := ck_kI.trans hk_7
    have hk_13 : gk (wI h3 b8 1 0) b8 = 6 := ck_kI.trans hk_10
    generalize wI h3 b8 1 0 = h11 at e hk_12 hk_13 ⊢
    replace e := ck_then_e e
    refine go_iload_n rfl rfl ?_
    cases e
    exact go_ret rfl rfl
  subst hq_5
  show Go k_CS_rewrite 5 [some (.ref a0), some (.int v1), none, none] [.ref b6] h3 _
  refine go_astore_n rfl rfl ?_
  show Go k_CS_rewrite 6 [some (.ref a0), some (.int v1), some (.ref b6), none] [] h3 _
  refine go_aload_n rfl rfl ?_
  refine go_ifnonnull (t := 15) rfl rfl ?_
  refine go_aload_n rfl rfl ?_
  refine go_aload_n rfl rfl ?_
  replace e := ck_as_e e
  obtain ⟨hk_14, e⟩ := e
  replace e := ck_some_e e
  obtain ⟨b15, hq_16, e⟩ := e
  refine go_get (v := .ref b15) rfl rfl hk_14 (by decide) (by show va_rf (gR h3 a0 0) = _; rw [hq_16]; rfl) ?_
  replace e := ck_as_e e
  obtain ⟨hk_17, e⟩ := e
  replace e := ck_bd_e e
  obtain ⟨r18, h19, e20, e⟩ := e
  refine go_callV (As := [.ref b15]) (b0 := b6) (rest := []) rfl rfl ⟨hk_17, by decide⟩ rfl ⟨Nat.le_of_ble_eq_true rfl, Nat.le_of_ble_eq_true rfl, Nat.le_of_ble_eq_true rfl, Nat.le_of_ble_eq_true rfl⟩ (s_Op_rewriteRecord e20) ?_
  show Go k_CS_rewrite 23 [some (.ref a0), some (.int v1), some (.ref b6), none] [.int r18] h19 _
  refine go_istore_n rfl rfl ?_
  show Go k_CS_rewrite 24 [some (.ref a0), some (.int v1), some (.ref b6), some (.int r18)] [] h19 _
  refine go_aload_n rfl rfl ?_
  replace e := ck_as_e e
  obtain ⟨hk_21, e⟩ := e
  replace e := ck_some_e e
  obtain ⟨b22, hq_23, e⟩ := e
  refine go_get (v := .ref b22) rfl rfl hk_21 (by decide) (by show va_rf (gR h19 a0 0) = _; rw [hq_23]; rfl) ?_
  refine go_iconst (v := 0) rfl (by decide) ?_
  replace e := ck_as_e e
  obtain ⟨hk_24, e⟩ := e
  refine go_put (h1 := wI h19 b22 1 0) rfl rfl hk_24 ⟨by decide, by decide, Or.inl rfl⟩ rfl ?_
  have hk_26 : gk (wI h19 b22 1 0) a0 = 11 := ck_kI.trans hk_21
  have hk_27 : gk (wI h19 b22 1 0) b22 = 6 := ck_kI.trans hk_24
  generalize wI h19 b22 1 0 = h25 at e hk_26 hk_27 ⊢
  replace e := ck_then_e e
  refine go_iload_n rfl rfl ?_
  cases e
  exact go_ret rfl rfl
def f_DS_homeOf_L10 (F : Nat)  : Nat → Nat → Nat → Int32 → Int32 → Int32 → ck_H → Option (Int32 × ck_H)
  | 0, _, _, _, _, _, _ => none
  | n + 1, a0, a1, v2, v3, v4, h =>
    ck_as (gk h a0 = 2) <|
    if v4 < (gI h a0 7) then
      ck_as (13 ≤ gk h a1 ∧ gk h a1 ≤ 21) <|
      if v4 < (Int32.ofNat (gz h a1)) then
        if (0 : Int32) < v2 then
          ck_as ((gk h a1 = 13 ∨ gk h a1 = 15) ∧ ¬ v4 < 0 ∧ (v4 : Int32).toNatClampNeg < gz h a1) <|
          ck_as (¬ v2 = 0) <|
          ck_then (((v3 * 256) + ((gI h a1 (v4 : Int32).toNatClampNeg) &&& 255)) - ((v3 * 256) + ((gI h a1 (v4 : Int32).toNatClampNeg) &&& 255)) / v2 * v2) fun x8 =>
          f_DS_homeOf_L10 F n a0 a1 v2 x8 (v4 + 1) h
        else
          some (v3, h)
      else
        some (v3, h)
    else
      some (v3, h)
set_option maxRecDepth 100000 in
set_option maxHeartbeats 4000000 in
theorem f_DS_homeOf_L10_s (F : Nat)   : ∀ (n : Nat) (a0 : Nat) (a1 : Nat) (v2 : Int32) (v3 : Int32) (v4 : Int32) (h : ck_H) (r : Int32) (h' : ck_H), f_DS_homeOf_L10 F n a0 a1 v2 v3 v4 h = some (r, h') → Go k_DS_homeOf 10 [some (.ref a0), some (.ref a1), some (.int v2), some (.int v3), some (.int v4)] [] h (some (.int r), h') := by
  intro n
  induction n with
  | zero => intro a0 a1 v2 v3 v4 h r h' e; simp only [f_DS_homeOf_L10] at e; cases e
  | succ n ih =>
    intro a0 a1 v2 v3 v4 h r h' e
    rw [f_DS_homeOf_L10] at e
    refine go_iload rfl rfl ?_
    refine go_aload_n rfl rfl ?_
    replace e := ck_as_e e
    obtain ⟨hk_1, e⟩ := e
    refine go_get (v := .int (gI h a0 7)) rfl rfl hk_1 (by decide) rfl ?_
    refine go_icmp_ge (t := 53) rfl rfl (fun hx_2 => ?_) (fun hx_2 => ?_)
    · rw [if_pos hx_2] at e
      refine go_iload rfl rfl ?_
      refine go_aload_n rfl rfl ?_
      replace e := ck_as_e e
      obtain ⟨hc_3, e⟩ := e
      refine go_alen rfl hc_3 ?_
      refine go_icmp_ge (t := 53) rfl rfl (fun hx_4 => ?_) (fun hx_4 => ?_)
      · rw [if_pos hx_4] at e
        refine go_iload_n rfl rfl ?_
        refine go_if_le (t := 53) rfl rfl (fun hx_5 => ?_) (fun hx_5 => ?_)
        · rw [if_pos hx_5] at e
          refine go_iload_n rfl rfl ?_
          refine go_sipush (v := 256) rfl (by decide) ?_
          refine go_imul rfl ?_
          refine go_aload_n rfl rfl ?_
          refine go_iload rfl rfl ?_
          replace e := ck_as_e e
          obtain ⟨hc_6, e⟩ := e
          refine go_bald rfl hc_6 ?_
          refine go_sipush (v := 255) rfl (by decide) ?_
          refine go_iand rfl ?_
          refine go_iadd rfl ?_
          refine go_iload_n rfl rfl ?_
          replace e := ck_as_e e
          obtain ⟨hc_7, e⟩ := e
          refine go_irem rfl hc_7 ?_
          generalize ((v3 * 256) + ((gI h a1 (v4 : Int32).toNatClampNeg) &&& 255)) - ((v3 * 256) + ((gI h a1 (v4 : Int32).toNatClampNeg) &&& 255)) / v2 * v2 = x8 at e ⊢
          replace e := ck_then_e e
          refine go_istore_n rfl rfl ?_
          show Go k_DS_homeOf 47 [some (.ref a0), some (.ref a1), some (.int v2), some (.int x8), some (.int v4)] [] h _
          refine go_iinc (v := 1) rfl rfl (by decide) rfl ?_
          show Go k_DS_homeOf 50 [some (.ref a0), some (.ref a1), some (.int v2), some (.int x8), some (.int (v4 + 1))] [] h _
          refine go_goto (t := 10) rfl rfl ?_
          refine go_forget (l := [some (.ref a0), some (.ref a1), some (.int v2), some (.int x8), some (.int (v4 + 1))]) ⟨Or.inl rfl, Or.inl rfl, Or.inl rfl, Or.inl rfl, Or.inl rfl, trivial⟩ ?_
          exact ih _ _ _ _ _ _ _ _ e
        · rw [if_neg hx_5] at e
          refine go_iload_n rfl rfl ?_
          cases e
          exact go_ret rfl rfl
      · rw [if_neg hx_4] at e
        refine go_iload_n rfl rfl ?_
        cases e
        exact go_ret rfl rfl
    · rw [if_neg hx_2] at e
      refine go_iload_n rfl rfl ?_
      cases e
      exact go_ret rfl rfl
def f_DS_homeOf (F : Nat) (a0 : Nat) (a1 : Nat) (h : ck_H) : Option (Int32 × ck_H) :=
  ck_as (gk h a0 = 2) <|
  ck_bd (f_DS_tracks F a0 h) fun r2 h3 =>
  f_DS_homeOf_L10 F F a0 a1 r2 0 0 h3
set_option maxRecDepth 100000 in
set_option maxHeartbeats 4000000 in
theorem s_DS_homeOf {F : Nat} {a0 : Nat} {a1 : Nat} {h h' : ck_H} {r : Int32} (e : f_DS_homeOf F a0 a1 h = some (r, h')) : Go k_DS_homeOf 0 (ck_in [.ref a0, .ref a1] 5) [] h (some (.int r), h') := by
  unfold f_DS_homeOf at e
  show Go k_DS_homeOf 0 [some (.ref a0), some (.ref a1), none, none, none] [] h _
  refine go_aload_n rfl rfl ?_
  replace e := ck_as_e e
  obtain ⟨hk_1, e⟩ := e
  replace e := ck_bd_e e
  obtain ⟨r2, h3, e4, e⟩ := e
  refine go_callV (As := []) (b0 := a0) (rest := []) rfl rfl ⟨hk_1, by decide⟩ rfl ⟨Nat.le_of_ble_eq_true rfl, Nat.le_of_ble_eq_true rfl, Nat.le_of_ble_eq_true rfl, Nat.le_of_ble_eq_true rfl⟩ (s_DS_tracks e4) ?_
  show Go k_DS_homeOf 4 [some (.ref a0), some (.ref a1), none, none, none] [.int r2] h3 _
  refine go_istore_n rfl rfl ?_
  show Go k_DS_homeOf 5 [some (.ref a0), some (.ref a1), some (.int r2), none, none] [] h3 _
  refine go_iconst (v := 0) rfl (by decide) ?_
  refine go_istore_n rfl rfl ?_
  show Go k_DS_homeOf 7 [some (.ref a0), some (.ref a1), some (.int r2), some (.int 0), none] [] h3 _
  refine go_iconst (v := 0) rfl (by decide) ?_
  refine go_istore rfl rfl ?_
  show Go k_DS_homeOf 10 [some (.ref a0), some (.ref a1), some (.int r2), some (.int 0), some (.int 0)] [] h3 _
  refine go_forget (l := [some (.ref a0), some (.ref a1), some (.int r2), some (.int 0), some (.int 0)]) ⟨Or.inl rfl, Or.inl rfl, Or.inl rfl, Or.inl rfl, Or.inl rfl, trivial⟩ ?_
  exact f_DS_homeOf_L10_s F F _ _ _ _ _ _ _ _ e
def f_DS_lookedAt (F : Nat) (a0 : Nat) (v1 : Int32) (v2 : Int32) (h : ck_H) : Option (Int32 × ck_H) :=
  ck_as (gk h a0 = 2) <|
  ck_bd (f_DS_tracks F a0 h) fun r2 h3 =>
  if v2 < (0 : Int32) then
    some ((-1), h3)
  else
    if v2 < (4 : Int32) then
      if v2 < r2 then
        ck_as (¬ r2 = 0) <|
        ck_as (gk h3 a0 = 2) <|
        ck_bd (f_DS_numberOf F a0 ((v1 + v2) - (v1 + v2) / r2 * r2) h3) fun r10 h11 =>
        some (r10, h11)
      else
        some ((-1), h3)
    else
      some ((-1), h3)
set_option maxRecDepth 100000 in
set_option maxHeartbeats 4000000 in
theorem s_DS_lookedAt {F : Nat} {a0 : Nat} {v1 : Int32} {v2 : Int32} {h h' : ck_H} {r : Int32} (e : f_DS_lookedAt F a0 v1 v2 h = some (r, h')) : Go k_DS_lookedAt 0 (ck_in [.ref a0, .int v1, .int v2] 4) [] h (some (.int r), h') := by
  unfold f_DS_lookedAt at e
  show Go k_DS_lookedAt 0 [some (.ref a0), some (.int v1), some (.int v2), none] [] h _
  refine go_aload_n rfl rfl ?_
  replace e := ck_as_e e
  obtain ⟨hk_1, e⟩ := e
  replace e := ck_bd_e e
  obtain ⟨r2, h3, e4, e⟩ := e
  refine go_callV (As := []) (b0 := a0) (rest := []) rfl rfl ⟨hk_1, by decide⟩ rfl ⟨Nat.le_of_ble_eq_true rfl, Nat.le_of_ble_eq_true rfl, Nat.le_of_ble_eq_true rfl, Nat.le_of_ble_eq_true rfl⟩ (s_DS_tracks e4) ?_
  show Go k_DS_lookedAt 4 [some (.ref a0), some (.int v1), some (.int v2), none] [.int r2] h3 _
  refine go_istore_n rfl rfl ?_
  show Go k_DS_lookedAt 5 [some (.ref a0), some (.int v1), some (.int v2), some (.int r2)] [] h3 _
  refine go_iload_n rfl rfl ?_
  refine go_if_lt (t := 31) rfl rfl (fun hx_5 => ?_) (fun hx_5 => ?_)
  · rw [if_pos hx_5] at e
    refine go_iconst (v := (-1)) rfl (by decide) ?_
    cases e
    exact go_ret rfl rfl
  · rw [if_neg hx_5] at e
    refine go_iload_n rfl rfl ?_
    refine go_iconst (v := 4) rfl (by decide) ?_
    refine go_icmp_ge (t := 31) rfl rfl (fun hx_6 => ?_) (fun hx_6 => ?_)
    · rw [if_pos hx_6] at e
      refine go_iload_n rfl rfl ?_
      refine go_iload_n rfl rfl ?_
      refine go_icmp_ge (t := 31) rfl rfl (fun hx_7 => ?_) (fun hx_7 => ?_)
      · rw [if_pos hx_7] at e
        refine go_aload_n rfl rfl ?_
        refine go_iload_n rfl rfl ?_
        refine go_iload_n rfl rfl ?_
        refine go_iadd rfl ?_
        refine go_iload_n rfl rfl ?_
        replace e := ck_as_e e
        obtain ⟨hc_8, e⟩ := e
        refine go_irem rfl hc_8 ?_
        replace e := ck_as_e e
        obtain ⟨hk_9, e⟩ := e
        replace e := ck_bd_e e
        obtain ⟨r10, h11, e12, e⟩ := e
        refine go_callV (As := [.int ((v1 + v2) - (v1 + v2) / r2 * r2)]) (b0 := a0) (rest := []) rfl rfl ⟨hk_9, by decide⟩ rfl ⟨Nat.le_of_ble_eq_true rfl, Nat.le_of_ble_eq_true rfl, Nat.le_of_ble_eq_true rfl, Nat.le_of_ble_eq_true rfl⟩ (s_DS_numberOf e12) ?_
        show Go k_DS_lookedAt 28 [some (.ref a0), some (.int v1), some (.int v2), some (.int r2)] [.int r10] h11 _
        refine go_goto (t := 32) rfl rfl ?_
        cases e
        exact go_ret rfl rfl
      · rw [if_neg hx_7] at e
        refine go_iconst (v := (-1)) rfl (by decide) ?_
        cases e
        exact go_ret rfl rfl
    · rw [if_neg hx_6] at e
      refine go_iconst (v := (-1)) rfl (by decide) ?_
      cases e
      exact go_ret rfl rfl
def f_Op_trackLookedAt (F : Nat) (a0 : Nat) (v1 : Int32) (v2 : Int32) (h : ck_H) : Option (Option Nat × ck_H) :=
  ck_as (gk h a0 = 5) <|
  ck_some (gR h a0 4) fun b2 =>
  ck_as (gk h b2 = 2) <|
  ck_some (gR h b2 0) fun b5 =>
  ck_some (gR h a0 4) fun b7 =>
  ck_as (gk h b7 = 2) <|
  ck_bd (f_DS_lookedAt F b7 v1 v2 h) fun r10 h11 =>
  ck_as (gk h11 b5 = 9) <|
  ck_bd (f_Un_trackAt F b5 r10 h11) fun r14 h15 =>
  ck_opt r14 (
    some (none, h15)
  ) fun b18 =>
  some (some b18, h15)
set_option maxRecDepth 100000 in
set_option maxHeartbeats 4000000 in
theorem s_Op_trackLookedAt {F : Nat} {a0 : Nat} {v1 : Int32} {v2 : Int32} {h h' : ck_H} {r : Option Nat} (e : f_Op_trackLookedAt F a0 v1 v2 h = some (r, h')) : Go k_Op_trackLookedAt 0 (ck_in [.ref a0, .int v1, .int v2] 3) [] h (some (va_rf r), h') := by
  unfold f_Op_trackLookedAt at e
  show Go k_Op_trackLookedAt 0 [some (.ref a0), some (.int v1), some (.int v2)] [] h _
  refine go_aload_n rfl rfl ?_
  replace e := ck_as_e e
  obtain ⟨hk_1, e⟩ := e
  replace e := ck_some_e e
  obtain ⟨b2, hq_3, e⟩ := e
  refine go_get (v := .ref b2) rfl rfl hk_1 (by decide) (by show va_rf (gR h a0 4) = _; rw [hq_3]; rfl) ?_
  replace e := ck_as_e e
  obtain ⟨hk_4, e⟩ := e
  replace e := ck_some_e e
  obtain ⟨b5, hq_6, e⟩ := e
  refine go_get (v := .ref b5) rfl rfl hk_4 (by decide) (by show va_rf (gR h b2 0) = _; rw [hq_6]; rfl) ?_
  refine go_aload_n rfl rfl ?_
  replace e := ck_some_e e
  obtain ⟨b7, hq_8, e⟩ := e
  refine go_get (v := .ref b7) rfl rfl hk_1 (by decide) (by show va_rf (gR h a0 4) = _; rw [hq_8]; rfl) ?_
  refine go_iload_n rfl rfl ?_
  refine go_iload_n rfl rfl ?_
  replace e := ck_as_e e
  obtain ⟨hk_9, e⟩ := e
  replace e := ck_bd_e e
  obtain ⟨r10, h11, e12, e⟩ := e
  refine go_callV (As := [.int v1, .int v2]) (b0 := b7) (rest := [.ref b5]) rfl rfl ⟨hk_9, by decide⟩ rfl ⟨Nat.le_of_ble_eq_true rfl, Nat.le_of_ble_eq_true rfl, Nat.le_of_ble_eq_true rfl, Nat.le_of_ble_eq_true rfl⟩ (s_DS_lookedAt e12) ?_
  show Go k_Op_trackLookedAt 16 [some (.ref a0), some (.int v1), some (.int v2)] [.int r10, .ref b5] h11 _
  replace e := ck_as_e e
  obtain ⟨hk_13, e⟩ := e
  replace e := ck_bd_e e
  obtain ⟨r14, h15, e16, e⟩ := e
  refine go_callV (As := [.int r10]) (b0 := b5) (rest := []) rfl rfl ⟨hk_13, by decide⟩ rfl ⟨Nat.le_of_ble_eq_true rfl, Nat.le_of_ble_eq_true rfl, Nat.le_of_ble_eq_true rfl, Nat.le_of_ble_eq_true rfl⟩ (s_Un_trackAt e16) ?_
  replace e := ck_opt_e e
  rcases e with ⟨hq_17, e⟩ | ⟨b18, hq_17, e⟩
  · subst hq_17
    show Go k_Op_trackLookedAt 19 [some (.ref a0), some (.int v1), some (.int v2)] [.null] h15 _
    cases e
    exact go_ret rfl rfl
  subst hq_17
  show Go k_Op_trackLookedAt 19 [some (.ref a0), some (.int v1), some (.int v2)] [.ref b18] h15 _
  cases e
  exact go_ret rfl rfl
def f_Tr_hasKey (F : Nat) (a0 : Nat) (v1 : Int32) (a2 : Nat) (v3 : Int32) (v4 : Int32) (h : ck_H) : Option (Int32 × ck_H) :=
  ck_as (gk h a0 = 8) <|
  ck_bd (f_Tr_keyLength F a0 v1 h) fun r2 h3 =>
  if r2 = v4 then
    ck_as (gk h3 a0 = 8) <|
    ck_bd (f_Tr_compareKey F a0 v1 a2 v3 v4 h3) fun r7 h8 =>
    if r7 = (0 : Int32) then
      some (1, h8)
    else
      some (0, h8)
  else
    some (0, h3)
set_option maxRecDepth 100000 in
set_option maxHeartbeats 4000000 in
theorem s_Tr_hasKey {F : Nat} {a0 : Nat} {v1 : Int32} {a2 : Nat} {v3 : Int32} {v4 : Int32} {h h' : ck_H} {r : Int32} (e : f_Tr_hasKey F a0 v1 a2 v3 v4 h = some (r, h')) : Go k_Tr_hasKey 0 (ck_in [.ref a0, .int v1, .ref a2, .int v3, .int v4] 5) [] h (some (.int r), h') := by
  unfold f_Tr_hasKey at e
  show Go k_Tr_hasKey 0 [some (.ref a0), some (.int v1), some (.ref a2), some (.int v3), some (.int v4)] [] h _
  refine go_aload_n rfl rfl ?_
  refine go_iload_n rfl rfl ?_
  replace e := ck_as_e e
  obtain ⟨hk_1, e⟩ := e
  replace e := ck_bd_e e
  obtain ⟨r2, h3, e4, e⟩ := e
  refine go_callV (As := [.int v1]) (b0 := a0) (rest := []) rfl rfl ⟨hk_1, by decide⟩ rfl ⟨Nat.le_of_ble_eq_true rfl, Nat.le_of_ble_eq_true rfl, Nat.le_of_ble_eq_true rfl, Nat.le_of_ble_eq_true rfl⟩ (s_Tr_keyLength e4) ?_
  show Go k_Tr_hasKey 5 [some (.ref a0), some (.int v1), some (.ref a2), some (.int v3), some (.int v4)] [.int r2] h3 _
  refine go_iload rfl rfl ?_
  refine go_icmp_ne (t := 26) rfl rfl (fun hx_5 => ?_) (fun hx_5 => ?_)
  · rw [if_pos hx_5] at e
    refine go_aload_n rfl rfl ?_
    refine go_iload_n rfl rfl ?_
    refine go_aload_n rfl rfl ?_
    refine go_iload_n rfl rfl ?_
    refine go_iload rfl rfl ?_
    replace e := ck_as_e e
    obtain ⟨hk_6, e⟩ := e
    replace e := ck_bd_e e
    obtain ⟨r7, h8, e9, e⟩ := e
    refine go_callV (As := [.int v1, .ref a2, .int v3, .int v4]) (b0 := a0) (rest := []) rfl rfl ⟨hk_6, by decide⟩ rfl ⟨Nat.le_of_ble_eq_true rfl, Nat.le_of_ble_eq_true rfl, Nat.le_of_ble_eq_true rfl, Nat.le_of_ble_eq_true rfl⟩ (s_Tr_compareKey e9) ?_
    show Go k_Tr_hasKey 19 [some (.ref a0), some (.int v1), some (.ref a2), some (.int v3), some (.int v4)] [.int r7] h8 _
    refine go_if_ne (t := 26) rfl rfl (fun hx_10 => ?_) (fun hx_10 => ?_)
    · rw [if_pos hx_10] at e
      refine go_iconst (v := 1) rfl (by decide) ?_
      refine go_goto (t := 27) rfl rfl ?_
      cases e
      exact go_ret rfl (ck_rvb rfl (Or.inr rfl))
    · rw [if_neg hx_10] at e
      refine go_iconst (v := 0) rfl (by decide) ?_
      cases e
      exact go_ret rfl (ck_rvb rfl (Or.inl rfl))
  · rw [if_neg hx_5] at e
    refine go_iconst (v := 0) rfl (by decide) ?_
    cases e
    exact go_ret rfl (ck_rvb rfl (Or.inl rfl))
def f_Tr_findKey_L2 (F : Nat)  : Nat → Nat → Nat → Int32 → Int32 → ck_H → Option (Int32 × ck_H)
  | 0, _, _, _, _, _ => none
  | n + 1, a0, a1, v2, v3, h =>
    ck_as (gk h a0 = 8) <|
    if v3 < (gI h a0 2) then
      ck_bd (f_Tr_hasKey F a0 v3 a1 0 v2 h) fun r3 h4 =>
      if r3 = (0 : Int32) then
        f_Tr_findKey_L2 F n a0 a1 v2 (v3 + 1) h4
      else
        some (v3, h4)
    else
      some ((-1), h)
set_option maxRecDepth 100000 in
set_option maxHeartbeats 4000000 in
theorem f_Tr_findKey_L2_s (F : Nat)   : ∀ (n : Nat) (a0 : Nat) (a1 : Nat) (v2 : Int32) (v3 : Int32) (h : ck_H) (r : Int32) (h' : ck_H), f_Tr_findKey_L2 F n a0 a1 v2 v3 h = some (r, h') → Go k_Tr_findKey 2 [some (.ref a0), some (.ref a1), some (.int v2), some (.int v3)] [] h (some (.int r), h') := by
  intro n
  induction n with
  | zero => intro a0 a1 v2 v3 h r h' e; simp only [f_Tr_findKey_L2] at e; cases e
  | succ n ih =>
    intro a0 a1 v2 v3 h r h' e
    rw [f_Tr_findKey_L2] at e
    refine go_iload_n rfl rfl ?_
    refine go_aload_n rfl rfl ?_
    replace e := ck_as_e e
    obtain ⟨hk_1, e⟩ := e
    refine go_get (v := .int (gI h a0 2)) rfl rfl hk_1 (by decide) rfl ?_
    refine go_icmp_ge (t := 29) rfl rfl (fun hx_2 => ?_) (fun hx_2 => ?_)
    · rw [if_pos hx_2] at e
      refine go_aload_n rfl rfl ?_
      refine go_iload_n rfl rfl ?_
      refine go_aload_n rfl rfl ?_
      refine go_iconst (v := 0) rfl (by decide) ?_
      refine go_iload_n rfl rfl ?_
      replace e := ck_bd_e e
      obtain ⟨r3, h4, e5, e⟩ := e
      refine go_callV (As := [.int v3, .ref a1, .int 0, .int v2]) (b0 := a0) (rest := []) rfl rfl ⟨hk_1, by decide⟩ rfl ⟨Nat.le_of_ble_eq_true rfl, Nat.le_of_ble_eq_true rfl, Nat.le_of_ble_eq_true rfl, Nat.le_of_ble_eq_true rfl⟩ (s_Tr_hasKey e5) ?_
      show Go k_Tr_findKey 18 [some (.ref a0), some (.ref a1), some (.int v2), some (.int v3)] [.int r3] h4 _
      refine go_if_eq (t := 23) rfl rfl (fun hx_6 => ?_) (fun hx_6 => ?_)
      · rw [if_pos hx_6] at e
        refine go_iinc (v := 1) rfl rfl (by decide) rfl ?_
        show Go k_Tr_findKey 26 [some (.ref a0), some (.ref a1), some (.int v2), some (.int (v3 + 1))] [] h4 _
        refine go_goto (t := 2) rfl rfl ?_
        refine go_forget (l := [some (.ref a0), some (.ref a1), some (.int v2), some (.int (v3 + 1))]) ⟨Or.inl rfl, Or.inl rfl, Or.inl rfl, Or.inl rfl, trivial⟩ ?_
        exact ih _ _ _ _ _ _ _ e
      · rw [if_neg hx_6] at e
        refine go_iload_n rfl rfl ?_
        cases e
        exact go_ret rfl rfl
    · rw [if_neg hx_2] at e
      refine go_iconst (v := (-1)) rfl (by decide) ?_
      cases e
      exact go_ret rfl rfl
def f_Tr_findKey (F : Nat) (a0 : Nat) (a1 : Nat) (v2 : Int32) (h : ck_H) : Option (Int32 × ck_H) :=
  f_Tr_findKey_L2 F F a0 a1 v2 0 h
set_option maxRecDepth 100000 in
set_option maxHeartbeats 4000000 in
theorem s_Tr_findKey {F : Nat} {a0 : Nat} {a1 : Nat} {v2 : Int32} {h h' : ck_H} {r : Int32} (e : f_Tr_findKey F a0 a1 v2 h = some (r, h')) : Go k_Tr_findKey 0 (ck_in [.ref a0, .ref a1, .int v2] 4) [] h (some (.int r), h') := by
  unfold f_Tr_findKey at e
  show Go k_Tr_findKey 0 [some (.ref a0), some (.ref a1), some (.int v2), none] [] h _
  refine go_iconst (v := 0) rfl (by decide) ?_
  refine go_istore_n rfl rfl ?_
  show Go k_Tr_findKey 2 [some (.ref a0), some (.ref a1), some (.int v2), some (.int 0)] [] h _
  refine go_forget (l := [some (.ref a0), some (.ref a1), some (.int v2), some (.int 0)]) ⟨Or.inl rfl, Or.inl rfl, Or.inl rfl, Or.inl rfl, trivial⟩ ?_
  exact f_Tr_findKey_L2_s F F _ _ _ _ _ _ _ e
def f_Op_changeKeyed_J40 (F : Nat) (k2 : Nat → Int32 → Nat → Int32 → ck_H → Option (Int32 × ck_H)) (a0 : Nat) (v1 : Int32) (a2 : Nat) (v3 : Int32) (s0 : Int32) (h : ck_H) : Option (Int32 × ck_H) :=
  k2 a0 v1 a2 (v3 + 1) h
set_option maxRecDepth 100000 in
set_option maxHeartbeats 4000000 in
theorem f_Op_changeKeyed_J40_s (F : Nat) (k2 : Nat → Int32 → Nat → Int32 → ck_H → Option (Int32 × ck_H)) (hk2 : ∀ (a0 : Nat) (v1 : Int32) (a2 : Nat) (v3 : Int32) (h : ck_H) (r : Int32) (h' : ck_H), k2 a0 v1 a2 v3 h = some (r, h') → Go k_Op_changeKeyed 2 [some (.ref a0), some (.int v1), some (.ref a2), some (.int v3), none, none] [] h (some (.int r), h')) (a0 : Nat) (v1 : Int32) (a2 : Nat) (v3 : Int32) (s0 : Int32) (h : ck_H) (r : Int32) (h' : ck_H) (e : f_Op_changeKeyed_J40 F k2 a0 v1 a2 v3 s0 h = some (r, h')) : Go k_Op_changeKeyed 40 [some (.ref a0), some (.int v1), some (.ref a2), some (.int v3), some .null, none] [.int s0] h (some (.int r), h') := by
  unfold f_Op_changeKeyed_J40 at e
  refine go_istore rfl rfl ?_
  show Go k_Op_changeKeyed 42 [some (.ref a0), some (.int v1), some (.ref a2), some (.int v3), some .null, some (.int s0)] [] h _
  refine go_aloadN rfl rfl ?_
  refine go_ifnullN (t := 94) rfl rfl ?_
  refine go_iinc (v := 1) rfl rfl (by decide) rfl ?_
  show Go k_Op_changeKeyed 97 [some (.ref a0), some (.int v1), some (.ref a2), some (.int (v3 + 1)), some .null, some (.int s0)] [] h _
  refine go_goto (t := 2) rfl rfl ?_
  refine go_forget (l := [some (.ref a0), some (.int v1), some (.ref a2), some (.int (v3 + 1)), none, none]) ⟨Or.inl rfl, Or.inl rfl, Or.inl rfl, Or.inl rfl, Or.inr ⟨rfl, fun _ q => by cases q; rfl⟩, Or.inr ⟨rfl, fun _ q => by cases q; rfl⟩, trivial⟩ ?_
  exact hk2 _ _ _ _ _ _ _ e
def f_Op_changeKeyed_J40_1 (F : Nat) (k2 : Nat → Int32 → Nat → Int32 → ck_H → Option (Int32 × ck_H)) (a0 : Nat) (v1 : Int32) (a2 : Nat) (v3 : Int32) (a4 : Nat) (s0 : Int32) (h : ck_H) : Option (Int32 × ck_H) :=
  if s0 < (0 : Int32) then
    k2 a0 v1 a2 (v3 + 1) h
  else
    ck_as (gk h a0 = 5) <|
    ck_some (gR h a0 4) fun b3 =>
    ck_as (gk h b3 = 2) <|
    ck_as (gk h a2 = 6) <|
    ck_some (gR h a2 0) fun b7 =>
    ck_some (gR h a0 4) fun b9 =>
    ck_as (gk h b9 = 2) <|
    ck_some (gR h a0 4) fun b12 =>
    ck_as (gk h b12 = 2) <|
    ck_as (gk h a4 = 8) <|
    ck_bd (f_Tr_store F a4 s0 (gI h b3 7) b7 (gI h b9 7) (gI h b12 8) h) fun _ h17 =>
    ck_as (gk h17 a4 = 8) <|
    ck_bd (f_Tr_mark F a4 s0 0 h17) fun _ h21 =>
    some (1, h21)
set_option maxRecDepth 100000 in
set_option maxHeartbeats 4000000 in
theorem f_Op_changeKeyed_J40_1_s (F : Nat) (k2 : Nat → Int32 → Nat → Int32 → ck_H → Option (Int32 × ck_H)) (hk2 : ∀ (a0 : Nat) (v1 : Int32) (a2 : Nat) (v3 : Int32) (h : ck_H) (r : Int32) (h' : ck_H), k2 a0 v1 a2 v3 h = some (r, h') → Go k_Op_changeKeyed 2 [some (.ref a0), some (.int v1), some (.ref a2), some (.int v3), none, none] [] h (some (.int r), h')) (a0 : Nat) (v1 : Int32) (a2 : Nat) (v3 : Int32) (a4 : Nat) (s0 : Int32) (h : ck_H) (r : Int32) (h' : ck_H) (e : f_Op_changeKeyed_J40_1 F k2 a0 v1 a2 v3 a4 s0 h = some (r, h')) : Go k_Op_changeKeyed 40 [some (.ref a0), some (.int v1), some (.ref a2), some (.int v3), some (.ref a4), none] [.int s0] h (some (.int r), h') := by
  unfold f_Op_changeKeyed_J40_1 at e
  refine go_istore rfl rfl ?_
  show Go k_Op_changeKeyed 42 [some (.ref a0), some (.int v1), some (.ref a2), some (.int v3), some (.ref a4), some (.int s0)] [] h _
  refine go_aload rfl rfl ?_
  refine go_ifnull rfl ?_
  refine go_iload rfl rfl ?_
  refine go_if_lt (t := 94) rfl rfl (fun hx_1 => ?_) (fun hx_1 => ?_)
  · rw [if_pos hx_1] at e
    refine go_iinc (v := 1) rfl rfl (by decide) rfl ?_
    show Go k_Op_changeKeyed 97 [some (.ref a0), some (.int v1), some (.ref a2), some (.int (v3 + 1)), some (.ref a4), some (.int s0)] [] h _
    refine go_goto (t := 2) rfl rfl ?_
    refine go_forget (l := [some (.ref a0), some (.int v1), some (.ref a2), some (.int (v3 + 1)), none, none]) ⟨Or.inl rfl, Or.inl rfl, Or.inl rfl, Or.inl rfl, Or.inr ⟨rfl, fun _ q => by cases q; rfl⟩, Or.inr ⟨rfl, fun _ q => by cases q; rfl⟩, trivial⟩ ?_
    exact hk2 _ _ _ _ _ _ _ e
  · rw [if_neg hx_1] at e
    refine go_aload rfl rfl ?_
    refine go_iload rfl rfl ?_
    refine go_aload_n rfl rfl ?_
    replace e := ck_as_e e
    obtain ⟨hk_2, e⟩ := e
    replace e := ck_some_e e
    obtain ⟨b3, hq_4, e⟩ := e
    refine go_get (v := .ref b3) rfl rfl hk_2 (by decide) (by show va_rf (gR h a0 4) = _; rw [hq_4]; rfl) ?_
    replace e := ck_as_e e
    obtain ⟨hk_5, e⟩ := e
    refine go_get (v := .int (gI h b3 7)) rfl rfl hk_5 (by decide) rfl ?_
    refine go_aload_n rfl rfl ?_
    replace e := ck_as_e e
    obtain ⟨hk_6, e⟩ := e
    replace e := ck_some_e e
    obtain ⟨b7, hq_8, e⟩ := e
    refine go_get (v := .ref b7) rfl rfl hk_6 (by decide) (by show va_rf (gR h a2 0) = _; rw [hq_8]; rfl) ?_
    refine go_aload_n rfl rfl ?_
    replace e := ck_some_e e
    obtain ⟨b9, hq_10, e⟩ := e
    refine go_get (v := .ref b9) rfl rfl hk_2 (by decide) (by show va_rf (gR h a0 4) = _; rw [hq_10]; rfl) ?_
    replace e := ck_as_e e
    obtain ⟨hk_11, e⟩ := e
    refine go_get (v := .int (gI h b9 7)) rfl rfl hk_11 (by decide) rfl ?_
    refine go_aload_n rfl rfl ?_
    replace e := ck_some_e e
    obtain ⟨b12, hq_13, e⟩ := e
    refine go_get (v := .ref b12) rfl rfl hk_2 (by decide) (by show va_rf (gR h a0 4) = _; rw [hq_13]; rfl) ?_
    replace e := ck_as_e e
    obtain ⟨hk_14, e⟩ := e
    refine go_get (v := .int (gI h b12 8)) rfl rfl hk_14 (by decide) rfl ?_
    replace e := ck_as_e e
    obtain ⟨hk_15, e⟩ := e
    replace e := ck_bd_e e
    obtain ⟨r16, h17, e18, e⟩ := e
    refine go_callV (As := [.int s0, .int (gI h b3 7), .ref b7, .int (gI h b9 7), .int (gI h b12 8)]) (b0 := a4) (rest := []) rfl rfl ⟨hk_15, by decide⟩ rfl ⟨Nat.le_of_ble_eq_true rfl, Nat.le_of_ble_eq_true rfl, Nat.le_of_ble_eq_true rfl, Nat.le_of_ble_eq_true rfl⟩ (s_Tr_store e18) ?_
    show Go k_Op_changeKeyed 84 [some (.ref a0), some (.int v1), some (.ref a2), some (.int v3), some (.ref a4), some (.int s0)] [] h17 _
    refine go_aload rfl rfl ?_
    refine go_iload rfl rfl ?_
    refine go_iconst (v := 0) rfl (by decide) ?_
    replace e := ck_as_e e
    obtain ⟨hk_19, e⟩ := e
    replace e := ck_bd_e e
    obtain ⟨r20, h21, e22, e⟩ := e
    refine go_callV (As := [.int s0, .int 0]) (b0 := a4) (rest := []) rfl rfl ⟨hk_19, by decide⟩ rfl ⟨Nat.le_of_ble_eq_true rfl, Nat.le_of_ble_eq_true rfl, Nat.le_of_ble_eq_true rfl, Nat.le_of_ble_eq_true rfl⟩ (s_Tr_mark e22) ?_
    show Go k_Op_changeKeyed 92 [some (.ref a0), some (.int v1), some (.ref a2), some (.int v3), some (.ref a4), some (.int s0)] [] h21 _
    refine go_iconst (v := 1) rfl (by decide) ?_
    cases e
    exact go_ret rfl (ck_rvb rfl (Or.inr rfl))
def f_Op_changeKeyed_L2 (F : Nat)  : Nat → Nat → Int32 → Nat → Int32 → ck_H → Option (Int32 × ck_H)
  | 0, _, _, _, _, _ => none
  | n + 1, a0, v1, a2, v3, h =>
    if v3 < (4 : Int32) then
      ck_as (gk h a0 = 5) <|
      ck_bd (f_Op_trackLookedAt F a0 v1 v3 h) fun r3 h4 =>
      ck_opt r3 (
        f_Op_changeKeyed_J40 F (f_Op_changeKeyed_L2 F n) a0 v1 a2 v3 (-1) h4
      ) fun b7 =>
      ck_as (gk h4 a2 = 6) <|
      ck_some (gR h4 a2 0) fun b9 =>
      ck_as (gk h4 a0 = 5) <|
      ck_some (gR h4 a0 4) fun b12 =>
      ck_as (gk h4 b12 = 2) <|
      ck_as (gk h4 b7 = 8) <|
      ck_bd (f_Tr_findKey F b7 b9 (gI h4 b12 7) h4) fun r16 h17 =>
      f_Op_changeKeyed_J40_1 F (f_Op_changeKeyed_L2 F n) a0 v1 a2 v3 b7 r16 h17
    else
      some (0, h)
set_option maxRecDepth 100000 in
set_option maxHeartbeats 4000000 in
theorem f_Op_changeKeyed_L2_s (F : Nat)   : ∀ (n : Nat) (a0 : Nat) (v1 : Int32) (a2 : Nat) (v3 : Int32) (h : ck_H) (r : Int32) (h' : ck_H), f_Op_changeKeyed_L2 F n a0 v1 a2 v3 h = some (r, h') → Go k_Op_changeKeyed 2 [some (.ref a0), some (.int v1), some (.ref a2), some (.int v3), none, none] [] h (some (.int r), h') := by
  intro n
  induction n with
  | zero => intro a0 v1 a2 v3 h r h' e; simp only [f_Op_changeKeyed_L2] at e; cases e
  | succ n ih =>
    intro a0 v1 a2 v3 h r h' e
    rw [f_Op_changeKeyed_L2] at e
    refine go_iload_n rfl rfl ?_
    refine go_iconst (v := 4) rfl (by decide) ?_
    refine go_icmp_ge (t := 100) rfl rfl (fun hx_1 => ?_) (fun hx_1 => ?_)
    · rw [if_pos hx_1] at e
      refine go_aload_n rfl rfl ?_
      refine go_iload_n rfl rfl ?_
      refine go_iload_n rfl rfl ?_
      replace e := ck_as_e e
      obtain ⟨hk_2, e⟩ := e
      replace e := ck_bd_e e
      obtain ⟨r3, h4, e5, e⟩ := e
      refine go_callV (As := [.int v1, .int v3]) (b0 := a0) (rest := []) rfl rfl ⟨hk_2, by decide⟩ rfl ⟨Nat.le_of_ble_eq_true rfl, Nat.le_of_ble_eq_true rfl, Nat.le_of_ble_eq_true rfl, Nat.le_of_ble_eq_true rfl⟩ (s_Op_trackLookedAt e5) ?_
      replace e := ck_opt_e e
      rcases e with ⟨hq_6, e⟩ | ⟨b7, hq_6, e⟩
      · subst hq_6
        show Go k_Op_changeKeyed 13 [some (.ref a0), some (.int v1), some (.ref a2), some (.int v3), none, none] [.null] h4 _
        refine go_astoreN rfl rfl ?_
        show Go k_Op_changeKeyed 15 [some (.ref a0), some (.int v1), some (.ref a2), some (.int v3), some .null, none] [] h4 _
        refine go_aloadN rfl rfl ?_
        refine go_ifnonnullN rfl ?_
        refine go_iconst (v := (-1)) rfl (by decide) ?_
        refine go_goto (t := 40) rfl rfl ?_
        refine go_forget (l := [some (.ref a0), some (.int v1), some (.ref a2), some (.int v3), some .null, none]) ⟨Or.inl rfl, Or.inl rfl, Or.inl rfl, Or.inl rfl, Or.inl rfl, Or.inl rfl, trivial⟩ ?_
        exact f_Op_changeKeyed_J40_s F (f_Op_changeKeyed_L2 F n) ih a0 v1 a2 v3 (-1) _ _ _ e
      subst hq_6
      show Go k_Op_changeKeyed 13 [some (.ref a0), some (.int v1), some (.ref a2), some (.int v3), none, none] [.ref b7] h4 _
      refine go_astore rfl rfl ?_
      show Go k_Op_changeKeyed 15 [some (.ref a0), some (.int v1), some (.ref a2), some (.int v3), some (.ref b7), none] [] h4 _
      refine go_aload rfl rfl ?_
      refine go_ifnonnull (t := 24) rfl rfl ?_
      refine go_aload rfl rfl ?_
      refine go_aload_n rfl rfl ?_
      replace e := ck_as_e e
      obtain ⟨hk_8, e⟩ := e
      replace e := ck_some_e e
      obtain ⟨b9, hq_10, e⟩ := e
      refine go_get (v := .ref b9) rfl rfl hk_8 (by decide) (by show va_rf (gR h4 a2 0) = _; rw [hq_10]; rfl) ?_
      refine go_aload_n rfl rfl ?_
      replace e := ck_as_e e
      obtain ⟨hk_11, e⟩ := e
      replace e := ck_some_e e
      obtain ⟨b12, hq_13, e⟩ := e
      refine go_get (v := .ref b12) rfl rfl hk_11 (by decide) (by show va_rf (gR h4 a0 4) = _; rw [hq_13]; rfl) ?_
      replace e := ck_as_e e
      obtain ⟨hk_14, e⟩ := e
      refine go_get (v := .int (gI h4 b12 7)) rfl rfl hk_14 (by decide) rfl ?_
      replace e := ck_as_e e
      obtain ⟨hk_15, e⟩ := e
      replace e := ck_bd_e e
      obtain ⟨r16, h17, e18, e⟩ := e
      refine go_callV (As := [.ref b9, .int (gI h4 b12 7)]) (b0 := b7) (rest := []) rfl rfl ⟨hk_15, by decide⟩ rfl ⟨Nat.le_of_ble_eq_true rfl, Nat.le_of_ble_eq_true rfl, Nat.le_of_ble_eq_true rfl, Nat.le_of_ble_eq_true rfl⟩ (s_Tr_findKey e18) ?_
      show Go k_Op_changeKeyed 40 [some (.ref a0), some (.int v1), some (.ref a2), some (.int v3), some (.ref b7), none] [.int r16] h17 _
      refine go_forget (l := [some (.ref a0), some (.int v1), some (.ref a2), some (.int v3), some (.ref b7), none]) ⟨Or.inl rfl, Or.inl rfl, Or.inl rfl, Or.inl rfl, Or.inl rfl, Or.inl rfl, trivial⟩ ?_
      exact f_Op_changeKeyed_J40_1_s F (f_Op_changeKeyed_L2 F n) ih a0 v1 a2 v3 b7 r16 _ _ _ e
    · rw [if_neg hx_1] at e
      refine go_iconst (v := 0) rfl (by decide) ?_
      cases e
      exact go_ret rfl (ck_rvb rfl (Or.inl rfl))
def f_Op_changeKeyed (F : Nat) (a0 : Nat) (v1 : Int32) (a2 : Nat) (h : ck_H) : Option (Int32 × ck_H) :=
  f_Op_changeKeyed_L2 F F a0 v1 a2 0 h
set_option maxRecDepth 100000 in
set_option maxHeartbeats 4000000 in
theorem s_Op_changeKeyed {F : Nat} {a0 : Nat} {v1 : Int32} {a2 : Nat} {h h' : ck_H} {r : Int32} (e : f_Op_changeKeyed F a0 v1 a2 h = some (r, h')) : Go k_Op_changeKeyed 0 (ck_in [.ref a0, .int v1, .ref a2] 6) [] h (some (.int r), h') := by
  unfold f_Op_changeKeyed at e
  show Go k_Op_changeKeyed 0 [some (.ref a0), some (.int v1), some (.ref a2), none, none, none] [] h _
  refine go_iconst (v := 0) rfl (by decide) ?_
  refine go_istore_n rfl rfl ?_
  show Go k_Op_changeKeyed 2 [some (.ref a0), some (.int v1), some (.ref a2), some (.int 0), none, none] [] h _
  refine go_forget (l := [some (.ref a0), some (.int v1), some (.ref a2), some (.int 0), none, none]) ⟨Or.inl rfl, Or.inl rfl, Or.inl rfl, Or.inl rfl, Or.inl rfl, Or.inl rfl, trivial⟩ ?_
  exact f_Op_changeKeyed_L2_s F F _ _ _ _ _ _ _ e
def f_Op_addKeyed_L2 (F : Nat)  : Nat → Nat → Int32 → Nat → Int32 → ck_H → Option (Int32 × ck_H)
  | 0, _, _, _, _, _ => none
  | n + 1, a0, v1, a2, v3, h =>
    if v3 < (4 : Int32) then
      ck_as (gk h a0 = 5) <|
      ck_bd (f_Op_trackLookedAt F a0 v1 v3 h) fun r3 h4 =>
      ck_opt r3 (
        f_Op_addKeyed_L2 F n a0 v1 a2 (v3 + 1) h4
      ) fun b7 =>
      ck_as (gk h4 a2 = 6) <|
      ck_as (gk h4 b7 = 8) <|
      ck_bd (f_Tr_hasRoom F b7 (gI h4 a2 1) h4) fun r10 h11 =>
      if r10 = (0 : Int32) then
        f_Op_addKeyed_L2 F n a0 v1 a2 (v3 + 1) h11
      else
        ck_as (gk h11 a0 = 5) <|
        ck_some (gR h11 a0 4) fun b15 =>
        ck_as (gk h11 b15 = 2) <|
        ck_bd (f_DS_lookedAt F b15 v1 v3 h11) fun r18 h19 =>
        ck_as (gk h19 b7 = 8) <|
        ck_bd (f_Tr_records F b7 h19) fun r22 h23 =>
        ck_as (gk h23 a0 = 5) <|
        ck_some (gR h23 a0 4) fun b26 =>
        ck_as (gk h23 b26 = 2) <|
        ck_some (gR h23 a0 4) fun b29 =>
        ck_as (gk h23 b29 = 2) <|
        ck_as (gk h23 b7 = 8) <|
        ck_bd (f_Tr_append F b7 (r18 / 4) (r18 - r18 / 4 * 4) (r22 + 1) (gI h23 b26 7) (gI h23 b29 8) h23) fun r33 h34 =>
        ck_as (gk h34 a2 = 6) <|
        ck_some (gR h34 a2 0) fun b37 =>
        ck_as (gk h34 b7 = 8) <|
        ck_bd (f_Tr_store F b7 r33 0 b37 0 (gI h34 a2 1) h34) fun _ h41 =>
        some (1, h41)
    else
      some (0, h)
set_option maxRecDepth 100000 in
set_option maxHeartbeats 4000000 in
theorem f_Op_addKeyed_L2_s (F : Nat)   : ∀ (n : Nat) (a0 : Nat) (v1 : Int32) (a2 : Nat) (v3 : Int32) (h : ck_H) (r : Int32) (h' : ck_H), f_Op_addKeyed_L2 F n a0 v1 a2 v3 h = some (r, h') → Go k_Op_addKeyed 2 [some (.ref a0), some (.int v1), some (.ref a2), some (.int v3), none, none, none] [] h (some (.int r), h') := by
  intro n
  induction n with
  | zero => intro a0 v1 a2 v3 h r h' e; simp only [f_Op_addKeyed_L2] at e; cases e
  | succ n ih =>
    intro a0 v1 a2 v3 h r h' e
    rw [f_Op_addKeyed_L2] at e
    refine go_iload_n rfl rfl ?_
    refine go_iconst (v := 4) rfl (by decide) ?_
    refine go_icmp_ge (t := 104) rfl rfl (fun hx_1 => ?_) (fun hx_1 => ?_)
    · rw [if_pos hx_1] at e
      refine go_aload_n rfl rfl ?_
      refine go_iload_n rfl rfl ?_
      refine go_iload_n rfl rfl ?_
      replace e := ck_as_e e
      obtain ⟨hk_2, e⟩ := e
      replace e := ck_bd_e e
      obtain ⟨r3, h4, e5, e⟩ := e
      refine go_callV (As := [.int v1, .int v3]) (b0 := a0) (rest := []) rfl rfl ⟨hk_2, by decide⟩ rfl ⟨Nat.le_of_ble_eq_true rfl, Nat.le_of_ble_eq_true rfl, Nat.le_of_ble_eq_true rfl, Nat.le_of_ble_eq_true rfl⟩ (s_Op_trackLookedAt e5) ?_
      replace e := ck_opt_e e
      rcases e with ⟨hq_6, e⟩ | ⟨b7, hq_6, e⟩
      · subst hq_6
        show Go k_Op_addKeyed 13 [some (.ref a0), some (.int v1), some (.ref a2), some (.int v3), none, none, none] [.null] h4 _
        refine go_astoreN rfl rfl ?_
        show Go k_Op_addKeyed 15 [some (.ref a0), some (.int v1), some (.ref a2), some (.int v3), some .null, none, none] [] h4 _
        refine go_aloadN rfl rfl ?_
        refine go_ifnullN (t := 98) rfl rfl ?_
        refine go_iinc (v := 1) rfl rfl (by decide) rfl ?_
        show Go k_Op_addKeyed 101 [some (.ref a0), some (.int v1), some (.ref a2), some (.int (v3 + 1)), some .null, none, none] [] h4 _
        refine go_goto (t := 2) rfl rfl ?_
        refine go_forget (l := [some (.ref a0), some (.int v1), some (.ref a2), some (.int (v3 + 1)), none, none, none]) ⟨Or.inl rfl, Or.inl rfl, Or.inl rfl, Or.inl rfl, Or.inr ⟨rfl, fun _ q => by cases q; rfl⟩, Or.inl rfl, Or.inl rfl, trivial⟩ ?_
        exact ih _ _ _ _ _ _ _ e
      subst hq_6
      show Go k_Op_addKeyed 13 [some (.ref a0), some (.int v1), some (.ref a2), some (.int v3), none, none, none] [.ref b7] h4 _
      refine go_astore rfl rfl ?_
      show Go k_Op_addKeyed 15 [some (.ref a0), some (.int v1), some (.ref a2), some (.int v3), some (.ref b7), none, none] [] h4 _
      refine go_aload rfl rfl ?_
      refine go_ifnull rfl ?_
      refine go_aload rfl rfl ?_
      refine go_aload_n rfl rfl ?_
      replace e := ck_as_e e
      obtain ⟨hk_8, e⟩ := e
      refine go_get (v := .int (gI h4 a2 1)) rfl rfl hk_8 (by decide) rfl ?_
      replace e := ck_as_e e
      obtain ⟨hk_9, e⟩ := e
      replace e := ck_bd_e e
      obtain ⟨r10, h11, e12, e⟩ := e
      refine go_callV (As := [.int (gI h4 a2 1)]) (b0 := b7) (rest := []) rfl rfl ⟨hk_9, by decide⟩ rfl ⟨Nat.le_of_ble_eq_true rfl, Nat.le_of_ble_eq_true rfl, Nat.le_of_ble_eq_true rfl, Nat.le_of_ble_eq_true rfl⟩ (s_Tr_hasRoom e12) ?_
      show Go k_Op_addKeyed 29 [some (.ref a0), some (.int v1), some (.ref a2), some (.int v3), some (.ref b7), none, none] [.int r10] h11 _
      refine go_if_eq (t := 98) rfl rfl (fun hx_13 => ?_) (fun hx_13 => ?_)
      · rw [if_pos hx_13] at e
        refine go_iinc (v := 1) rfl rfl (by decide) rfl ?_
        show Go k_Op_addKeyed 101 [some (.ref a0), some (.int v1), some (.ref a2), some (.int (v3 + 1)), some (.ref b7), none, none] [] h11 _
        refine go_goto (t := 2) rfl rfl ?_
        refine go_forget (l := [some (.ref a0), some (.int v1), some (.ref a2), some (.int (v3 + 1)), none, none, none]) ⟨Or.inl rfl, Or.inl rfl, Or.inl rfl, Or.inl rfl, Or.inr ⟨rfl, fun _ q => by cases q; rfl⟩, Or.inl rfl, Or.inl rfl, trivial⟩ ?_
        exact ih _ _ _ _ _ _ _ e
      · rw [if_neg hx_13] at e
        refine go_aload_n rfl rfl ?_
        replace e := ck_as_e e
        obtain ⟨hk_14, e⟩ := e
        replace e := ck_some_e e
        obtain ⟨b15, hq_16, e⟩ := e
        refine go_get (v := .ref b15) rfl rfl hk_14 (by decide) (by show va_rf (gR h11 a0 4) = _; rw [hq_16]; rfl) ?_
        refine go_iload_n rfl rfl ?_
        refine go_iload_n rfl rfl ?_
        replace e := ck_as_e e
        obtain ⟨hk_17, e⟩ := e
        replace e := ck_bd_e e
        obtain ⟨r18, h19, e20, e⟩ := e
        refine go_callV (As := [.int v1, .int v3]) (b0 := b15) (rest := []) rfl rfl ⟨hk_17, by decide⟩ rfl ⟨Nat.le_of_ble_eq_true rfl, Nat.le_of_ble_eq_true rfl, Nat.le_of_ble_eq_true rfl, Nat.le_of_ble_eq_true rfl⟩ (s_DS_lookedAt e20) ?_
        show Go k_Op_addKeyed 41 [some (.ref a0), some (.int v1), some (.ref a2), some (.int v3), some (.ref b7), none, none] [.int r18] h19 _
        refine go_istore rfl rfl ?_
        show Go k_Op_addKeyed 43 [some (.ref a0), some (.int v1), some (.ref a2), some (.int v3), some (.ref b7), some (.int r18), none] [] h19 _
        refine go_aload rfl rfl ?_
        refine go_iload rfl rfl ?_
        refine go_iconst (v := 4) rfl (by decide) ?_
        refine go_idiv rfl (by decide) ?_
        refine go_iload rfl rfl ?_
        refine go_iconst (v := 4) rfl (by decide) ?_
        refine go_irem rfl (by decide) ?_
        refine go_aload rfl rfl ?_
        replace e := ck_as_e e
        obtain ⟨hk_21, e⟩ := e
        replace e := ck_bd_e e
        obtain ⟨r22, h23, e24, e⟩ := e
        refine go_callV (As := []) (b0 := b7) (rest := [.int (r18 - r18 / 4 * 4), .int (r18 / 4), .ref b7]) rfl rfl ⟨hk_21, by decide⟩ rfl ⟨Nat.le_of_ble_eq_true rfl, Nat.le_of_ble_eq_true rfl, Nat.le_of_ble_eq_true rfl, Nat.le_of_ble_eq_true rfl⟩ (s_Tr_records e24) ?_
        show Go k_Op_addKeyed 58 [some (.ref a0), some (.int v1), some (.ref a2), some (.int v3), some (.ref b7), some (.int r18), none] [.int r22, .int (r18 - r18 / 4 * 4), .int (r18 / 4), .ref b7] h23 _
        refine go_iconst (v := 1) rfl (by decide) ?_
        refine go_iadd rfl ?_
        refine go_aload_n rfl rfl ?_
        replace e := ck_as_e e
        obtain ⟨hk_25, e⟩ := e
        replace e := ck_some_e e
        obtain ⟨b26, hq_27, e⟩ := e
        refine go_get (v := .ref b26) rfl rfl hk_25 (by decide) (by show va_rf (gR h23 a0 4) = _; rw [hq_27]; rfl) ?_
        replace e := ck_as_e e
        obtain ⟨hk_28, e⟩ := e
        refine go_get (v := .int (gI h23 b26 7)) rfl rfl hk_28 (by decide) rfl ?_
        refine go_aload_n rfl rfl ?_
        replace e := ck_some_e e
        obtain ⟨b29, hq_30, e⟩ := e
        refine go_get (v := .ref b29) rfl rfl hk_25 (by decide) (by show va_rf (gR h23 a0 4) = _; rw [hq_30]; rfl) ?_
        replace e := ck_as_e e
        obtain ⟨hk_31, e⟩ := e
        refine go_get (v := .int (gI h23 b29 8)) rfl rfl hk_31 (by decide) rfl ?_
        replace e := ck_as_e e
        obtain ⟨hk_32, e⟩ := e
        replace e := ck_bd_e e
        obtain ⟨r33, h34, e35, e⟩ := e
        refine go_callV (As := [.int (r18 / 4), .int (r18 - r18 / 4 * 4), .int (r22 + 1), .int (gI h23 b26 7), .int (gI h23 b29 8)]) (b0 := b7) (rest := []) rfl rfl ⟨hk_32, by decide⟩ rfl ⟨Nat.le_of_ble_eq_true rfl, Nat.le_of_ble_eq_true rfl, Nat.le_of_ble_eq_true rfl, Nat.le_of_ble_eq_true rfl⟩ (s_Tr_append e35) ?_
        show Go k_Op_addKeyed 77 [some (.ref a0), some (.int v1), some (.ref a2), some (.int v3), some (.ref b7), some (.int r18), none] [.int r33] h34 _
        refine go_istore rfl rfl ?_
        show Go k_Op_addKeyed 79 [some (.ref a0), some (.int v1), some (.ref a2), some (.int v3), some (.ref b7), some (.int r18), some (.int r33)] [] h34 _
        refine go_aload rfl rfl ?_
        refine go_iload rfl rfl ?_
        refine go_iconst (v := 0) rfl (by decide) ?_
        refine go_aload_n rfl rfl ?_
        replace e := ck_as_e e
        obtain ⟨hk_36, e⟩ := e
        replace e := ck_some_e e
        obtain ⟨b37, hq_38, e⟩ := e
        refine go_get (v := .ref b37) rfl rfl hk_36 (by decide) (by show va_rf (gR h34 a2 0) = _; rw [hq_38]; rfl) ?_
        refine go_iconst (v := 0) rfl (by decide) ?_
        refine go_aload_n rfl rfl ?_
        refine go_get (v := .int (gI h34 a2 1)) rfl rfl hk_36 (by decide) rfl ?_
        replace e := ck_as_e e
        obtain ⟨hk_39, e⟩ := e
        replace e := ck_bd_e e
        obtain ⟨r40, h41, e42, e⟩ := e
        refine go_callV (As := [.int r33, .int 0, .ref b37, .int 0, .int (gI h34 a2 1)]) (b0 := b7) (rest := []) rfl rfl ⟨hk_39, by decide⟩ rfl ⟨Nat.le_of_ble_eq_true rfl, Nat.le_of_ble_eq_true rfl, Nat.le_of_ble_eq_true rfl, Nat.le_of_ble_eq_true rfl⟩ (s_Tr_store e42) ?_
        show Go k_Op_addKeyed 96 [some (.ref a0), some (.int v1), some (.ref a2), some (.int v3), some (.ref b7), some (.int r18), some (.int r33)] [] h41 _
        refine go_iconst (v := 1) rfl (by decide) ?_
        cases e
        exact go_ret rfl (ck_rvb rfl (Or.inr rfl))
    · rw [if_neg hx_1] at e
      refine go_iconst (v := 0) rfl (by decide) ?_
      cases e
      exact go_ret rfl (ck_rvb rfl (Or.inl rfl))
def f_Op_addKeyed (F : Nat) (a0 : Nat) (v1 : Int32) (a2 : Nat) (h : ck_H) : Option (Int32 × ck_H) :=
  f_Op_addKeyed_L2 F F a0 v1 a2 0 h
set_option maxRecDepth 100000 in
set_option maxHeartbeats 4000000 in
theorem s_Op_addKeyed {F : Nat} {a0 : Nat} {v1 : Int32} {a2 : Nat} {h h' : ck_H} {r : Int32} (e : f_Op_addKeyed F a0 v1 a2 h = some (r, h')) : Go k_Op_addKeyed 0 (ck_in [.ref a0, .int v1, .ref a2] 7) [] h (some (.int r), h') := by
  unfold f_Op_addKeyed at e
  show Go k_Op_addKeyed 0 [some (.ref a0), some (.int v1), some (.ref a2), none, none, none, none] [] h _
  refine go_iconst (v := 0) rfl (by decide) ?_
  refine go_istore_n rfl rfl ?_
  show Go k_Op_addKeyed 2 [some (.ref a0), some (.int v1), some (.ref a2), some (.int 0), none, none, none] [] h _
  refine go_forget (l := [some (.ref a0), some (.int v1), some (.ref a2), some (.int 0), none, none, none]) ⟨Or.inl rfl, Or.inl rfl, Or.inl rfl, Or.inl rfl, Or.inl rfl, Or.inl rfl, Or.inl rfl, trivial⟩ ?_
  exact f_Op_addKeyed_L2_s F F _ _ _ _ _ _ _ e
