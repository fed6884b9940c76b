def f_RM_searchKey_J155 (F : Nat)  (a0 : Nat) (v1 : Int32) (v4 : Int32) (v5 : Int32) (h : ck_H) : Option (Int32 × ck_H) :=
  ck_as (gk h a0 = 12) <|
  ck_some (gR h a0 17) fun b2 =>
  ck_as ((gk h b2 = 14 ∨ gk h b2 = 21) ∧ ¬ v1 < 0 ∧ (v1 : Int32).toNatClampNeg < gz h b2) <|
  if v4 = (gI h b2 (v1 : Int32).toNatClampNeg) then
    ck_some (gR h a0 15) fun b6 =>
    ck_as ((gk h b6 = 14 ∨ gk h b6 = 21) ∧ ¬ v1 < 0 ∧ (v1 : Int32).toNatClampNeg < gz h b6) <|
    if (gI h b6 (v1 : Int32).toNatClampNeg) = (5 : Int32) then
      if v5 = (0 : Int32) then
        ck_bd (f_RM_held F a0 1 h) fun r11 h12 =>
        some (r11, h12)
      else
        ck_bd (f_RM_held F a0 0 h) fun r14 h15 =>
        some (r14, h15)
    else
      if v5 < (0 : Int32) then
        ck_bd (f_RM_held F a0 0 h) fun r18 h19 =>
        some (r18, h19)
      else
        ck_bd (f_RM_held F a0 1 h) fun r21 h22 =>
        some (r21, h22)
  else
    ck_bd (f_RM_held F a0 0 h) fun r24 h25 =>
    some (r24, h25)
set_option maxRecDepth 100000 in
set_option maxHeartbeats 4000000 in
theorem f_RM_searchKey_J155_s (F : Nat)   (a0 : Nat) (v1 : Int32) (v4 : Int32) (v5 : Int32) (h : ck_H) (r : Int32) (h' : ck_H) (e : f_RM_searchKey_J155 F  a0 v1 v4 v5 h = some (r, h')) : Go k_RM_searchKey 155 [some (.ref a0), some (.int v1), none, none, some (.int v4), some (.int v5), none] [] h (some (.int r), h') := by
  unfold f_RM_searchKey_J155 at e
  refine go_aload_n rfl rfl ?_
  refine go_iload rfl rfl ?_
  refine go_aload_n rfl rfl ?_
  replace e := ck_as_e e
  obtain ⟨hk_1, e⟩ := e
  replace e := ck_some_e e
  obtain ⟨b2, hq_3, e⟩ := e
  refine go_get (v := .ref b2) rfl rfl hk_1 (by decide) (by show va_rf (gR h a0 17) = _; rw [hq_3]; rfl) ?_
  refine go_iload_n rfl rfl ?_
  replace e := ck_as_e e
  obtain ⟨hc_4, e⟩ := e
  refine go_iald rfl hc_4 ?_
  refine go_icmp_ne (t := 194) rfl rfl (fun hx_5 => ?_) (fun hx_5 => ?_)
  · rw [if_pos hx_5] at e
    refine go_aload_n rfl rfl ?_
    replace e := ck_some_e e
    obtain ⟨b6, hq_7, e⟩ := e
    refine go_get (v := .ref b6) rfl rfl hk_1 (by decide) (by show va_rf (gR h a0 15) = _; rw [hq_7]; rfl) ?_
    refine go_iload_n rfl rfl ?_
    replace e := ck_as_e e
    obtain ⟨hc_8, e⟩ := e
    refine go_iald rfl hc_8 ?_
    refine go_iconst (v := 5) rfl (by decide) ?_
    refine go_icmp_ne (t := 185) rfl rfl (fun hx_9 => ?_) (fun hx_9 => ?_)
    · rw [if_pos hx_9] at e
      refine go_iload rfl rfl ?_
      refine go_if_ne (t := 194) rfl rfl (fun hx_10 => ?_) (fun hx_10 => ?_)
      · rw [if_pos hx_10] at e
        refine go_goto (t := 190) rfl rfl ?_
        refine go_iconst (v := 1) rfl (by decide) ?_
        refine go_goto (t := 195) rfl rfl ?_
        replace e := ck_bd_e e
        obtain ⟨r11, h12, e13, e⟩ := e
        refine go_callV (As := [.int 1]) (b0 := a0) (rest := []) rfl rfl ⟨hk_1, by decide⟩ rfl ⟨Nat.le_of_ble_eq_true rfl, Nat.le_of_ble_eq_true rfl, Nat.le_of_ble_eq_true rfl, Nat.le_of_ble_eq_true rfl⟩ (s_RM_held e13) ?_
        show Go k_RM_searchKey 198 [some (.ref a0), some (.int v1), none, none, some (.int v4), some (.int v5), none] [.int r11] h12 _
        cases e
        exact go_ret rfl rfl
      · rw [if_neg hx_10] at e
        refine go_iconst (v := 0) rfl (by decide) ?_
        replace e := ck_bd_e e
        obtain ⟨r14, h15, e16, e⟩ := e
        refine go_callV (As := [.int 0]) (b0 := a0) (rest := []) rfl rfl ⟨hk_1, by decide⟩ rfl ⟨Nat.le_of_ble_eq_true rfl, Nat.le_of_ble_eq_true rfl, Nat.le_of_ble_eq_true rfl, Nat.le_of_ble_eq_true rfl⟩ (s_RM_held e16) ?_
        show Go k_RM_searchKey 198 [some (.ref a0), some (.int v1), none, none, some (.int v4), some (.int v5), none] [.int r14] h15 _
        cases e
        exact go_ret rfl rfl
    · rw [if_neg hx_9] at e
      refine go_iload rfl rfl ?_
      refine go_if_lt (t := 194) rfl rfl (fun hx_17 => ?_) (fun hx_17 => ?_)
      · rw [if_pos hx_17] at e
        refine go_iconst (v := 0) rfl (by decide) ?_
        replace e := ck_bd_e e
        obtain ⟨r18, h19, e20, e⟩ := e
        refine go_callV (As := [.int 0]) (b0 := a0) (rest := []) rfl rfl ⟨hk_1, by decide⟩ rfl ⟨Nat.le_of_ble_eq_true rfl, Nat.le_of_ble_eq_true rfl, Nat.le_of_ble_eq_true rfl, Nat.le_of_ble_eq_true rfl⟩ (s_RM_held e20) ?_
        show Go k_RM_searchKey 198 [some (.ref a0), some (.int v1), none, none, some (.int v4), some (.int v5), none] [.int r18] h19 _
        cases e
        exact go_ret rfl rfl
      · rw [if_neg hx_17] at e
        refine go_iconst (v := 1) rfl (by decide) ?_
        refine go_goto (t := 195) rfl rfl ?_
        replace e := ck_bd_e e
        obtain ⟨r21, h22, e23, e⟩ := e
        refine go_callV (As := [.int 1]) (b0 := a0) (rest := []) rfl rfl ⟨hk_1, by decide⟩ rfl ⟨Nat.le_of_ble_eq_true rfl, Nat.le_of_ble_eq_true rfl, Nat.le_of_ble_eq_true rfl, Nat.le_of_ble_eq_true rfl⟩ (s_RM_held e23) ?_
        show Go k_RM_searchKey 198 [some (.ref a0), some (.int v1), none, none, some (.int v4), some (.int v5), none] [.int r21] h22 _
        cases e
        exact go_ret rfl rfl
  · rw [if_neg hx_5] at e
    refine go_iconst (v := 0) rfl (by decide) ?_
    replace e := ck_bd_e e
    obtain ⟨r24, h25, e26, e⟩ := e
    refine go_callV (As := [.int 0]) (b0 := a0) (rest := []) rfl rfl ⟨hk_1, by decide⟩ rfl ⟨Nat.le_of_ble_eq_true rfl, Nat.le_of_ble_eq_true rfl, Nat.le_of_ble_eq_true rfl, Nat.le_of_ble_eq_true rfl⟩ (s_RM_held e26) ?_
    show Go k_RM_searchKey 198 [some (.ref a0), some (.int v1), none, none, some (.int v4), some (.int v5), none] [.int r24] h25 _
    cases e
    exact go_ret rfl rfl
def f_RM_searchKey_L74 (F : Nat)  : Nat → Nat → Int32 → Int32 → Int32 → Int32 → Int32 → Int32 → ck_H → Option (Int32 × ck_H)
  | 0, _, _, _, _, _, _, _, _ => none
  | n + 1, a0, v1, v2, v3, v4, v5, v6, h =>
    if v6 < (0 : Int32) then
      f_RM_searchKey_J155 F a0 v1 v4 v5 h
    else
      ck_as (gk h a0 = 12) <|
      ck_some (gR h a0 0) fun b28 =>
      ck_bd (f_RM_keyAt F a0 v3 v2 h) fun r30 h31 =>
      ck_as ((gk h31 b28 = 13 ∨ gk h31 b28 = 15) ∧ ¬ (r30 + v6) < 0 ∧ (r30 + v6 : Int32).toNatClampNeg < gz h31 b28) <|
      ck_as (gk h31 a0 = 12) <|
      ck_some (gR h31 a0 14) fun b35 =>
      ck_some (gR h31 a0 16) fun b37 =>
      ck_as ((gk h31 b37 = 14 ∨ gk h31 b37 = 21) ∧ ¬ v1 < 0 ∧ (v1 : Int32).toNatClampNeg < gz h31 b37) <|
      ck_as ((gk h31 b35 = 13 ∨ gk h31 b35 = 15) ∧ ¬ ((gI h31 b37 (v1 : Int32).toNatClampNeg) + v6) < 0 ∧ ((gI h31 b37 (v1 : Int32).toNatClampNeg) + v6 : Int32).toNatClampNeg < gz h31 b35) <|
      if (gI h31 b28 (r30 + v6 : Int32).toNatClampNeg) = (gI h31 b35 ((gI h31 b37 (v1 : Int32).toNatClampNeg) + v6 : Int32).toNatClampNeg) then
        f_RM_searchKey_L74 F n a0 v1 v2 v3 v4 v5 (v6 + (-1)) h31
      else
        ck_some (gR h31 a0 0) fun b42 =>
        ck_bd (f_RM_keyAt F a0 v3 v2 h31) fun r44 h45 =>
        ck_as ((gk h45 b42 = 13 ∨ gk h45 b42 = 15) ∧ ¬ (r44 + v6) < 0 ∧ (r44 + v6 : Int32).toNatClampNeg < gz h45 b42) <|
        ck_as (gk h45 a0 = 12) <|
        ck_some (gR h45 a0 14) fun b49 =>
        ck_some (gR h45 a0 16) fun b51 =>
        ck_as ((gk h45 b51 = 14 ∨ gk h45 b51 = 21) ∧ ¬ v1 < 0 ∧ (v1 : Int32).toNatClampNeg < gz h45 b51) <|
        ck_as ((gk h45 b49 = 13 ∨ gk h45 b49 = 15) ∧ ¬ ((gI h45 b51 (v1 : Int32).toNatClampNeg) + v6) < 0 ∧ ((gI h45 b51 (v1 : Int32).toNatClampNeg) + v6 : Int32).toNatClampNeg < gz h45 b49) <|
        ck_then (((gI h45 b42 (r44 + v6 : Int32).toNatClampNeg) &&& 255) - ((gI h45 b49 ((gI h45 b51 (v1 : Int32).toNatClampNeg) + v6 : Int32).toNatClampNeg) &&& 255)) fun x55 =>
        f_RM_searchKey_L74 F n a0 v1 v2 v3 v4 x55 (v6 + (-1)) h45
set_option maxRecDepth 100000 in
set_option maxHeartbeats 4000000 in
theorem f_RM_searchKey_L74_s (F : Nat)   : ∀ (n : Nat) (a0 : Nat) (v1 : Int32) (v2 : Int32) (v3 : Int32) (v4 : Int32) (v5 : Int32) (v6 : Int32) (h : ck_H) (r : Int32) (h' : ck_H), f_RM_searchKey_L74 F n a0 v1 v2 v3 v4 v5 v6 h = some (r, h') → Go k_RM_searchKey 74 [some (.ref a0), some (.int v1), some (.int v2), some (.int v3), some (.int v4), some (.int v5), some (.int v6)] [] h (some (.int r), h') := by
  intro n
  induction n with
  | zero => intro a0 v1 v2 v3 v4 v5 v6 h r h' e; simp only [f_RM_searchKey_L74] at e; cases e
  | succ n ih =>
    intro a0 v1 v2 v3 v4 v5 v6 h r h' e
    rw [f_RM_searchKey_L74] at e
    refine go_iload rfl rfl ?_
    refine go_if_lt (t := 155) rfl rfl (fun hx_1 => ?_) (fun hx_1 => ?_)
    · rw [if_pos hx_1] at e
      refine go_forget (l := [some (.ref a0), some (.int v1), none, none, some (.int v4), some (.int v5), none]) ⟨Or.inl rfl, Or.inl rfl, Or.inr ⟨rfl, fun _ q => by cases q; rfl⟩, Or.inr ⟨rfl, fun _ q => by cases q; rfl⟩, Or.inl rfl, Or.inl rfl, Or.inr ⟨rfl, fun _ q => by cases q; rfl⟩, trivial⟩ ?_
      exact f_RM_searchKey_J155_s F a0 v1 v4 v5 _ _ _ e
    · rw [if_neg hx_1] at e
      refine go_aload_n rfl rfl ?_
      replace e := ck_as_e e
      obtain ⟨hk_27, e⟩ := e
      replace e := ck_some_e e
      obtain ⟨b28, hq_29, e⟩ := e
      refine go_get (v := .ref b28) rfl rfl hk_27 (by decide) (by show va_rf (gR h a0 0) = _; rw [hq_29]; rfl) ?_
      refine go_aload_n rfl rfl ?_
      refine go_iload_n rfl rfl ?_
      refine go_iload_n rfl rfl ?_
      replace e := ck_bd_e e
      obtain ⟨r30, h31, e32, e⟩ := e
      refine go_callV (As := [.int v3, .int v2]) (b0 := a0) (rest := [.ref b28]) rfl rfl ⟨hk_27, by decide⟩ rfl ⟨Nat.le_of_ble_eq_true rfl, Nat.le_of_ble_eq_true rfl, Nat.le_of_ble_eq_true rfl, Nat.le_of_ble_eq_true rfl⟩ (s_RM_keyAt e32) ?_
      show Go k_RM_searchKey 89 [some (.ref a0), some (.int v1), some (.int v2), some (.int v3), some (.int v4), some (.int v5), some (.int v6)] [.int r30, .ref b28] h31 _
      refine go_iload rfl rfl ?_
      refine go_iadd rfl ?_
      replace e := ck_as_e e
      obtain ⟨hc_33, e⟩ := e
      refine go_bald rfl hc_33 ?_
      refine go_aload_n rfl rfl ?_
      replace e := ck_as_e e
      obtain ⟨hk_34, e⟩ := e
      replace e := ck_some_e e
      obtain ⟨b35, hq_36, e⟩ := e
      refine go_get (v := .ref b35) rfl rfl hk_34 (by decide) (by show va_rf (gR h31 a0 14) = _; rw [hq_36]; rfl) ?_
      refine go_aload_n rfl rfl ?_
      replace e := ck_some_e e
      obtain ⟨b37, hq_38, e⟩ := e
      refine go_get (v := .ref b37) rfl rfl hk_34 (by decide) (by show va_rf (gR h31 a0 16) = _; rw [hq_38]; rfl) ?_
      refine go_iload_n rfl rfl ?_
      replace e := ck_as_e e
      obtain ⟨hc_39, e⟩ := e
      refine go_iald rfl hc_39 ?_
      refine go_iload rfl rfl ?_
      refine go_iadd rfl ?_
      replace e := ck_as_e e
      obtain ⟨hc_40, e⟩ := e
      refine go_bald rfl hc_40 ?_
      refine go_icmp_eq (t := 149) rfl rfl (fun hx_41 => ?_) (fun hx_41 => ?_)
      · rw [if_pos hx_41] at e
        refine go_iinc (v := (-1)) rfl rfl (by decide) rfl ?_
        show Go k_RM_searchKey 152 [some (.ref a0), some (.int v1), some (.int v2), some (.int v3), some (.int v4), some (.int v5), some (.int (v6 + (-1)))] [] h31 _
        refine go_goto (t := 74) rfl rfl ?_
        refine go_forget (l := [some (.ref a0), some (.int v1), some (.int v2), some (.int v3), some (.int v4), some (.int v5), some (.int (v6 + (-1)))]) ⟨Or.inl rfl, Or.inl rfl, Or.inl rfl, Or.inl rfl, Or.inl rfl, Or.inl rfl, Or.inl rfl, trivial⟩ ?_
        exact ih _ _ _ _ _ _ _ _ _ _ e
      · rw [if_neg hx_41] at e
        refine go_aload_n rfl rfl ?_
        replace e := ck_some_e e
        obtain ⟨b42, hq_43, e⟩ := e
        refine go_get (v := .ref b42) rfl rfl hk_34 (by decide) (by show va_rf (gR h31 a0 0) = _; rw [hq_43]; rfl) ?_
        refine go_aload_n rfl rfl ?_
        refine go_iload_n rfl rfl ?_
        refine go_iload_n rfl rfl ?_
        replace e := ck_bd_e e
        obtain ⟨r44, h45, e46, e⟩ := e
        refine go_callV (As := [.int v3, .int v2]) (b0 := a0) (rest := [.ref b42]) rfl rfl ⟨hk_34, by decide⟩ rfl ⟨Nat.le_of_ble_eq_true rfl, Nat.le_of_ble_eq_true rfl, Nat.le_of_ble_eq_true rfl, Nat.le_of_ble_eq_true rfl⟩ (s_RM_keyAt e46) ?_
        show Go k_RM_searchKey 120 [some (.ref a0), some (.int v1), some (.int v2), some (.int v3), some (.int v4), some (.int v5), some (.int v6)] [.int r44, .ref b42] h45 _
        refine go_iload rfl rfl ?_
        refine go_iadd rfl ?_
        replace e := ck_as_e e
        obtain ⟨hc_47, e⟩ := e
        refine go_bald rfl hc_47 ?_
        refine go_sipush (v := 255) rfl (by decide) ?_
        refine go_iand rfl ?_
        refine go_aload_n rfl rfl ?_
        replace e := ck_as_e e
        obtain ⟨hk_48, e⟩ := e
        replace e := ck_some_e e
        obtain ⟨b49, hq_50, e⟩ := e
        refine go_get (v := .ref b49) rfl rfl hk_48 (by decide) (by show va_rf (gR h45 a0 14) = _; rw [hq_50]; rfl) ?_
        refine go_aload_n rfl rfl ?_
        replace e := ck_some_e e
        obtain ⟨b51, hq_52, e⟩ := e
        refine go_get (v := .ref b51) rfl rfl hk_48 (by decide) (by show va_rf (gR h45 a0 16) = _; rw [hq_52]; rfl) ?_
        refine go_iload_n rfl rfl ?_
        replace e := ck_as_e e
        obtain ⟨hc_53, e⟩ := e
        refine go_iald rfl hc_53 ?_
        refine go_iload rfl rfl ?_
        refine go_iadd rfl ?_
        replace e := ck_as_e e
        obtain ⟨hc_54, e⟩ := e
        refine go_bald rfl hc_54 ?_
        refine go_sipush (v := 255) rfl (by decide) ?_
        refine go_iand rfl ?_
        refine go_isub rfl ?_
        generalize ((gI h45 b42 (r44 + v6 : Int32).toNatClampNeg) &&& 255) - ((gI h45 b49 ((gI h45 b51 (v1 : Int32).toNatClampNeg) + v6 : Int32).toNatClampNeg) &&& 255) = x55 at e ⊢
        replace e := ck_then_e e
        refine go_istore rfl rfl ?_
        show Go k_RM_searchKey 149 [some (.ref a0), some (.int v1), some (.int v2), some (.int v3), some (.int v4), some (.int x55), some (.int v6)] [] h45 _
        refine go_iinc (v := (-1)) rfl rfl (by decide) rfl ?_
        show Go k_RM_searchKey 152 [some (.ref a0), some (.int v1), some (.int v2), some (.int v3), some (.int v4), some (.int x55), some (.int (v6 + (-1)))] [] h45 _
        refine go_goto (t := 74) rfl rfl ?_
        refine go_forget (l := [some (.ref a0), some (.int v1), some (.int v2), some (.int v3), some (.int v4), some (.int x55), some (.int (v6 + (-1)))]) ⟨Or.inl rfl, Or.inl rfl, Or.inl rfl, Or.inl rfl, Or.inl rfl, Or.inl rfl, Or.inl rfl, trivial⟩ ?_
        exact ih _ _ _ _ _ _ _ _ _ _ e
def f_RM_searchKey (F : Nat) (a0 : Nat) (v1 : Int32) (h : ck_H) : Option (Int32 × ck_H) :=
  ck_as (gk h a0 = 12) <|
  ck_bd (f_RM_countRecord F a0 h) fun r2 h3 =>
  if r2 = ((-1) : Int32) then
    some (1, h3)
  else
    ck_as (gk h3 a0 = 12) <|
    ck_bd (f_RM_track F a0 h3) fun r7 h8 =>
    ck_as (gk h8 a0 = 12) <|
    ck_some (gR h8 a0 6) fun b11 =>
    ck_bd (f_RM_at F r7 r2 h8) fun r13 h14 =>
    ck_as ((gk h14 b11 = 14 ∨ gk h14 b11 = 21) ∧ ¬ r13 < 0 ∧ (r13 : Int32).toNatClampNeg < gz h14 b11) <|
    ck_then (gI h14 b11 (r13 : Int32).toNatClampNeg) fun x17 =>
    ck_as (gk h14 a0 = 12) <|
    ck_then (wJ h14 a0 21 ((gJ h14 a0 21) + ((10 + x17 : Int32).toInt64))) fun h19 =>
    ck_then (wI h19 a0 28 3) fun h21 =>
    ck_then (wI h21 a0 29 r2) fun h23 =>
    ck_some (gR h23 a0 17) fun b25 =>
    ck_as ((gk h23 b25 = 14 ∨ gk h23 b25 = 21) ∧ ¬ v1 < 0 ∧ (v1 : Int32).toNatClampNeg < gz h23 b25) <|
    if x17 = (gI h23 b25 (v1 : Int32).toNatClampNeg) then
      ck_then (x17 - 1) fun x29 =>
      f_RM_searchKey_L74 F F a0 v1 r2 r7 x17 0 x29 h23
    else
      f_RM_searchKey_J155 F a0 v1 x17 0 h23
set_option maxRecDepth 100000 in
set_option maxHeartbeats 4000000 in
theorem s_RM_searchKey {F : Nat} {a0 : Nat} {v1 : Int32} {h h' : ck_H} {r : Int32} (e : f_RM_searchKey F a0 v1 h = some (r, h')) : Go k_RM_searchKey 0 (ck_in [.ref a0, .int v1] 7) [] h (some (.int r), h') := by
  unfold f_RM_searchKey at e
  show Go k_RM_searchKey 0 [some (.ref a0), some (.int v1), none, none, none, none, none] [] h _
  refine go_aload_n rfl rfl ?_
  replace e := ck_as_e e
  obtain ⟨hk_1, e⟩ := e
  replace e := ck_bd_e e
  obtain ⟨r2, h3, e4, e⟩ := e
  refine go_callV (As := []) (b0 := a0) (rest := []) rfl rfl ⟨hk_1, by decide⟩ rfl ⟨Nat.le_of_ble_eq_true rfl, Nat.le_of_ble_eq_true rfl, Nat.le_of_ble_eq_true rfl, Nat.le_of_ble_eq_true rfl⟩ (s_RM_countRecord e4) ?_
  show Go k_RM_searchKey 4 [some (.ref a0), some (.int v1), none, none, none, none, none] [.int r2] h3 _
  refine go_istore_n rfl rfl ?_
  show Go k_RM_searchKey 5 [some (.ref a0), some (.int v1), some (.int r2), none, none, none, none] [] h3 _
  refine go_iload_n rfl rfl ?_
  refine go_iconst (v := (-1)) rfl (by decide) ?_
  refine go_icmp_ne (t := 12) rfl rfl (fun hx_5 => ?_) (fun hx_5 => ?_)
  · rw [if_pos hx_5] at e
    refine go_iconst (v := 1) rfl (by decide) ?_
    cases e
    exact go_ret rfl rfl
  · rw [if_neg hx_5] at e
    refine go_aload_n rfl rfl ?_
    replace e := ck_as_e e
    obtain ⟨hk_6, e⟩ := e
    replace e := ck_bd_e e
    obtain ⟨r7, h8, e9, e⟩ := e
    refine go_callV (As := []) (b0 := a0) (rest := []) rfl rfl ⟨hk_6, by decide⟩ rfl ⟨Nat.le_of_ble_eq_true rfl, Nat.le_of_ble_eq_true rfl, Nat.le_of_ble_eq_true rfl, Nat.le_of_ble_eq_true rfl⟩ (s_RM_track e9) ?_
    show Go k_RM_searchKey 16 [some (.ref a0), some (.int v1), some (.int r2), none, none, none, none] [.int r7] h8 _
    refine go_istore_n rfl rfl ?_
    show Go k_RM_searchKey 17 [some (.ref a0), some (.int v1), some (.int r2), some (.int r7), none, none, none] [] h8 _
    refine go_aload_n rfl rfl ?_
    replace e := ck_as_e e
    obtain ⟨hk_10, e⟩ := e
    replace e := ck_some_e e
    obtain ⟨b11, hq_12, e⟩ := e
    refine go_get (v := .ref b11) rfl rfl hk_10 (by decide) (by show va_rf (gR h8 a0 6) = _; rw [hq_12]; rfl) ?_
    refine go_iload_n rfl rfl ?_
    refine go_iload_n rfl rfl ?_
    replace e := ck_bd_e e
    obtain ⟨r13, h14, e15, e⟩ := e
    refine go_callS (As := [.int r7, .int r2]) (rest := [.ref b11]) rfl rfl rfl ⟨Nat.le_of_ble_eq_true rfl, Nat.le_of_ble_eq_true rfl, Nat.le_of_ble_eq_true rfl, Nat.le_of_ble_eq_true rfl⟩ (s_RM_at e15) ?_
    show Go k_RM_searchKey 26 [some (.ref a0), some (.int v1), some (.int r2), some (.int r7), none, none, none] [.int r13, .ref b11] h14 _
    replace e := ck_as_e e
    obtain ⟨hc_16, e⟩ := e
    refine go_iald rfl hc_16 ?_
    generalize gI h14 b11 (r13 : Int32).toNatClampNeg = x17 at e ⊢
    replace e := ck_then_e e
    refine go_istore rfl rfl ?_
    show Go k_RM_searchKey 29 [some (.ref a0), some (.int v1), some (.int r2), some (.int r7), some (.int x17), none, none] [] h14 _
    refine go_aload_n rfl rfl ?_
    refine go_dup rfl rfl ?_
    replace e := ck_as_e e
    obtain ⟨hk_18, e⟩ := e
    refine go_get (v := .long (gJ h14 a0 21)) rfl rfl hk_18 (by decide) rfl ?_
    refine go_bipush (v := 10) rfl (by decide) ?_
    refine go_iload rfl rfl ?_
    refine go_iadd rfl ?_
    refine go_i2l rfl ?_
    refine go_ladd rfl ?_
    refine go_put (h1 := wJ h14 a0 21 ((gJ h14 a0 21) + ((10 + x17 : Int32).toInt64))) rfl rfl hk_18 ⟨by decide, by decide, Or.inl rfl⟩ rfl ?_
    have hk_20 : gk (wJ h14 a0 21 ((gJ h14 a0 21) + ((10 + x17 : Int32).toInt64))) a0 = 12 := ck_kJ.trans hk_18
    generalize wJ h14 a0 21 ((gJ h14 a0 21) + ((10 + x17 : Int32).toInt64)) = h19 at e hk_20 ⊢
    replace e := ck_then_e e
    refine go_aload_n rfl rfl ?_
    refine go_iconst (v := 3) rfl (by decide) ?_
    refine go_put (h1 := wI h19 a0 28 3) rfl rfl hk_20 ⟨by decide, by decide, Or.inl rfl⟩ rfl ?_
    have hk_22 : gk (wI h19 a0 28 3) a0 = 12 := ck_kI.trans hk_20
    generalize wI h19 a0 28 3 = h21 at e hk_22 ⊢
    replace e := ck_then_e e
    refine go_aload_n rfl rfl ?_
    refine go_iload_n rfl rfl ?_
    refine go_put (h1 := wI h21 a0 29 r2) rfl rfl hk_22 ⟨by decide, by decide, Or.inl rfl⟩ rfl ?_
    have hk_24 : gk (wI h21 a0 29 r2) a0 = 12 := ck_kI.trans hk_22
    generalize wI h21 a0 29 r2 = h23 at e hk_24 ⊢
    replace e := ck_then_e e
    refine go_iconst (v := 0) rfl (by decide) ?_
    refine go_istore rfl rfl ?_
    show Go k_RM_searchKey 57 [some (.ref a0), some (.int v1), some (.int r2), some (.int r7), some (.int x17), some (.int 0), none] [] h23 _
    refine go_iload rfl rfl ?_
    refine go_aload_n rfl rfl ?_
    replace e := ck_some_e e
    obtain ⟨b25, hq_26, e⟩ := e
    refine go_get (v := .ref b25) rfl rfl hk_24 (by decide) (by show va_rf (gR h23 a0 17) = _; rw [hq_26]; rfl) ?_
    refine go_iload_n rfl rfl ?_
    replace e := ck_as_e e
    obtain ⟨hc_27, e⟩ := e
    refine go_iald rfl hc_27 ?_
    refine go_icmp_ne (t := 155) rfl rfl (fun hx_28 => ?_) (fun hx_28 => ?_)
    · rw [if_pos hx_28] at e
      refine go_iload rfl rfl ?_
      refine go_iconst (v := 1) rfl (by decide) ?_
      refine go_isub rfl ?_
      generalize x17 - 1 = x29 at e ⊢
      replace e := ck_then_e e
      refine go_istore rfl rfl ?_
      show Go k_RM_searchKey 74 [some (.ref a0), some (.int v1), some (.int r2), some (.int r7), some (.int x17), some (.int 0), some (.int x29)] [] h23 _
      refine go_forget (l := [some (.ref a0), some (.int v1), some (.int r2), some (.int r7), some (.int x17), some (.int 0), some (.int x29)]) ⟨Or.inl rfl, Or.inl rfl, Or.inl rfl, Or.inl rfl, Or.inl rfl, Or.inl rfl, Or.inl rfl, trivial⟩ ?_
      exact f_RM_searchKey_L74_s F F _ _ _ _ _ _ _ _ _ _ e
    · rw [if_neg hx_28] at e
      refine go_forget (l := [some (.ref a0), some (.int v1), none, none, some (.int x17), some (.int 0), none]) ⟨Or.inl rfl, Or.inl rfl, Or.inr ⟨rfl, fun _ q => by cases q; rfl⟩, Or.inr ⟨rfl, fun _ q => by cases q; rfl⟩, Or.inl rfl, Or.inl rfl, Or.inl rfl, trivial⟩ ?_
      exact f_RM_searchKey_J155_s F a0 v1 x17 0 _ _ _ e
def f_RM_drops (F : Nat) (a0 : Nat) (v1 : Int32) (h : ck_H) : Option (Int32 × ck_H) :=
  ck_as (gk h a0 = 12) <|
  ck_some (gR h a0 18) fun b2 =>
  ck_as ((gk h b2 = 14 ∨ gk h b2 = 21) ∧ ¬ v1 < 0 ∧ (v1 : Int32).toNatClampNeg < gz h b2) <|
  if ((gI h b2 (v1 : Int32).toNatClampNeg) &&& 4) = (4 : Int32) then
    some (1, h)
  else
    some (0, h)
set_option maxRecDepth 100000 in
set_option maxHeartbeats 4000000 in
theorem s_RM_drops {F : Nat} {a0 : Nat} {v1 : Int32} {h h' : ck_H} {r : Int32} (e : f_RM_drops F a0 v1 h = some (r, h')) : Go k_RM_drops 0 (ck_in [.ref a0, .int v1] 2) [] h (some (.int r), h') := by
  unfold f_RM_drops at e
  show Go k_RM_drops 0 [some (.ref a0), some (.int v1)] [] h _
  refine go_aload_n rfl rfl ?_
  replace e := ck_as_e e
  obtain ⟨hk_1, e⟩ := e
  replace e := ck_some_e e
  obtain ⟨b2, hq_3, e⟩ := e
  refine go_get (v := .ref b2) rfl rfl hk_1 (by decide) (by show va_rf (gR h a0 18) = _; rw [hq_3]; rfl) ?_
  refine go_iload_n rfl rfl ?_
  replace e := ck_as_e e
  obtain ⟨hc_4, e⟩ := e
  refine go_iald rfl hc_4 ?_
  refine go_iconst (v := 4) rfl (by decide) ?_
  refine go_iand rfl ?_
  refine go_iconst (v := 4) rfl (by decide) ?_
  refine go_icmp_ne (t := 16) rfl rfl (fun hx_5 => ?_) (fun hx_5 => ?_)
  · rw [if_pos hx_5] at e
    refine go_iconst (v := 1) rfl (by decide) ?_
    refine go_goto (t := 17) rfl rfl ?_
    cases e
    exact go_ret rfl (ck_rvb rfl (Or.inr rfl))
  · rw [if_neg hx_5] at e
    refine go_iconst (v := 0) rfl (by decide) ?_
    cases e
    exact go_ret rfl (ck_rvb rfl (Or.inl rfl))
def f_RM_byteOf (F : Nat) (a0 : Nat) (v1 : Int32) (v2 : Int32) (v3 : Int32) (h : ck_H) : Option (Int32 × ck_H) :=
  ck_bd (f_RM_at F v1 v2 h) fun r1 h2 =>
  if v3 = 0 then
    ck_as (gk h2 a0 = 12) <|
    ck_some (gR h2 a0 3) fun b6 =>
    ck_as ((gk h2 b6 = 14 ∨ gk h2 b6 = 21) ∧ ¬ r1 < 0 ∧ (r1 : Int32).toNatClampNeg < gz h2 b6) <|
    some (gI h2 b6 (r1 : Int32).toNatClampNeg, h2)
  else
  if v3 = 1 then
    ck_as (gk h2 a0 = 12) <|
    ck_some (gR h2 a0 4) fun b11 =>
    ck_as ((gk h2 b11 = 14 ∨ gk h2 b11 = 21) ∧ ¬ r1 < 0 ∧ (r1 : Int32).toNatClampNeg < gz h2 b11) <|
    some (gI h2 b11 (r1 : Int32).toNatClampNeg, h2)
  else
  if v3 = 2 then
    ck_as (gk h2 a0 = 12) <|
    ck_some (gR h2 a0 5) fun b16 =>
    ck_as ((gk h2 b16 = 14 ∨ gk h2 b16 = 21) ∧ ¬ r1 < 0 ∧ (r1 : Int32).toNatClampNeg < gz h2 b16) <|
    some (gI h2 b16 (r1 : Int32).toNatClampNeg, h2)
  else
  if v3 = 3 then
    ck_as (gk h2 a0 = 12) <|
    ck_some (gR h2 a0 6) fun b21 =>
    ck_as ((gk h2 b21 = 14 ∨ gk h2 b21 = 21) ∧ ¬ r1 < 0 ∧ (r1 : Int32).toNatClampNeg < gz h2 b21) <|
    some (gI h2 b21 (r1 : Int32).toNatClampNeg, h2)
  else
  if v3 = 4 then
    ck_as (gk h2 a0 = 12) <|
    ck_some (gR h2 a0 7) fun b26 =>
    ck_as ((gk h2 b26 = 14 ∨ gk h2 b26 = 21) ∧ ¬ r1 < 0 ∧ (r1 : Int32).toNatClampNeg < gz h2 b26) <|
    some ((gI h2 b26 (r1 : Int32).toNatClampNeg) >>> (8 &&& 31), h2)
  else
  if v3 = 5 then
    ck_as (gk h2 a0 = 12) <|
    ck_some (gR h2 a0 7) fun b31 =>
    ck_as ((gk h2 b31 = 14 ∨ gk h2 b31 = 21) ∧ ¬ r1 < 0 ∧ (r1 : Int32).toNatClampNeg < gz h2 b31) <|
    some ((gI h2 b31 (r1 : Int32).toNatClampNeg) &&& 255, h2)
  else
    ck_as (gk h2 a0 = 12) <|
    ck_some (gR h2 a0 0) fun b35 =>
    ck_bd (f_RM_keyAt F a0 v1 v2 h2) fun r37 h38 =>
    ck_as ((gk h38 b35 = 13 ∨ gk h38 b35 = 15) ∧ ¬ ((r37 + v3) - 6) < 0 ∧ ((r37 + v3) - 6 : Int32).toNatClampNeg < gz h38 b35) <|
    some (gI h38 b35 ((r37 + v3) - 6 : Int32).toNatClampNeg, h38)
set_option maxRecDepth 100000 in
set_option maxHeartbeats 4000000 in
theorem s_RM_byteOf {F : Nat} {a0 : Nat} {v1 : Int32} {v2 : Int32} {v3 : Int32} {h h' : ck_H} {r : Int32} (e : f_RM_byteOf F a0 v1 v2 v3 h = some (r, h')) : Go k_RM_byteOf 0 (ck_in [.ref a0, .int v1, .int v2, .int v3] 5) [] h (some (.int r), h') := by
  unfold f_RM_byteOf at e
  show Go k_RM_byteOf 0 [some (.ref a0), some (.int v1), some (.int v2), some (.int v3), none] [] h _
  refine go_iload_n rfl rfl ?_
  refine go_iload_n rfl rfl ?_
  replace e := ck_bd_e e
  obtain ⟨r1, h2, e3, e⟩ := e
  refine go_callS (As := [.int v1, .int v2]) (rest := []) rfl rfl rfl ⟨Nat.le_of_ble_eq_true rfl, Nat.le_of_ble_eq_true rfl, Nat.le_of_ble_eq_true rfl, Nat.le_of_ble_eq_true rfl⟩ (s_RM_at e3) ?_
  show Go k_RM_byteOf 5 [some (.ref a0), some (.int v1), some (.int v2), some (.int v3), none] [.int r1] h2 _
  refine go_istore rfl rfl ?_
  show Go k_RM_byteOf 7 [some (.ref a0), some (.int v1), some (.int v2), some (.int v3), some (.int r1)] [] h2 _
  refine go_iload_n rfl rfl ?_
  by_cases hx_4 : v3 = 0
  · rw [if_pos hx_4] at e
    refine go_tswI (off := 40) (t := 48) rfl (by rw [hx_4]; decide) (by rw [hx_4]; rfl) rfl ?_
    refine go_aload_n rfl rfl ?_
    replace e := ck_as_e e
    obtain ⟨hk_5, e⟩ := e
    replace e := ck_some_e e
    obtain ⟨b6, hq_7, e⟩ := e
    refine go_get (v := .ref b6) rfl rfl hk_5 (by decide) (by show va_rf (gR h2 a0 3) = _; rw [hq_7]; rfl) ?_
    refine go_iload rfl rfl ?_
    replace e := ck_as_e e
    obtain ⟨hc_8, e⟩ := e
    refine go_iald rfl hc_8 ?_
    cases e
    exact go_ret rfl rfl
  rw [if_neg hx_4] at e
  by_cases hx_9 : v3 = 1
  · rw [if_pos hx_9] at e
    refine go_tswI (off := 48) (t := 56) rfl (by rw [hx_9]; decide) (by rw [hx_9]; rfl) rfl ?_
    refine go_aload_n rfl rfl ?_
    replace e := ck_as_e e
    obtain ⟨hk_10, e⟩ := e
    replace e := ck_some_e e
    obtain ⟨b11, hq_12, e⟩ := e
    refine go_get (v := .ref b11) rfl rfl hk_10 (by decide) (by show va_rf (gR h2 a0 4) = _; rw [hq_12]; rfl) ?_
    refine go_iload rfl rfl ?_
    replace e := ck_as_e e
    obtain ⟨hc_13, e⟩ := e
    refine go_iald rfl hc_13 ?_
    cases e
    exact go_ret rfl rfl
  rw [if_neg hx_9] at e
  by_cases hx_14 : v3 = 2
  · rw [if_pos hx_14] at e
    refine go_tswI (off := 56) (t := 64) rfl (by rw [hx_14]; decide) (by rw [hx_14]; rfl) rfl ?_
    refine go_aload_n rfl rfl ?_
    replace e := ck_as_e e
    obtain ⟨hk_15, e⟩ := e
    replace e := ck_some_e e
    obtain ⟨b16, hq_17, e⟩ := e
    refine go_get (v := .ref b16) rfl rfl hk_15 (by decide) (by show va_rf (gR h2 a0 5) = _; rw [hq_17]; rfl) ?_
    refine go_iload rfl rfl ?_
    replace e := ck_as_e e
    obtain ⟨hc_18, e⟩ := e
    refine go_iald rfl hc_18 ?_
    cases e
    exact go_ret rfl rfl
  rw [if_neg hx_14] at e
  by_cases hx_19 : v3 = 3
  · rw [if_pos hx_19] at e
    refine go_tswI (off := 64) (t := 72) rfl (by rw [hx_19]; decide) (by rw [hx_19]; rfl) rfl ?_
    refine go_aload_n rfl rfl ?_
    replace e := ck_as_e e
    obtain ⟨hk_20, e⟩ := e
    replace e := ck_some_e e
    obtain ⟨b21, hq_22, e⟩ := e
    refine go_get (v := .ref b21) rfl rfl hk_20 (by decide) (by show va_rf (gR h2 a0 6) = _; rw [hq_22]; rfl) ?_
    refine go_iload rfl rfl ?_
    replace e := ck_as_e e
    obtain ⟨hc_23, e⟩ := e
    refine go_iald rfl hc_23 ?_
    cases e
    exact go_ret rfl rfl
  rw [if_neg hx_19] at e
  by_cases hx_24 : v3 = 4
  · rw [if_pos hx_24] at e
    refine go_tswI (off := 72) (t := 80) rfl (by rw [hx_24]; decide) (by rw [hx_24]; rfl) rfl ?_
    refine go_aload_n rfl rfl ?_
    replace e := ck_as_e e
    obtain ⟨hk_25, e⟩ := e
    replace e := ck_some_e e
    obtain ⟨b26, hq_27, e⟩ := e
    refine go_get (v := .ref b26) rfl rfl hk_25 (by decide) (by show va_rf (gR h2 a0 7) = _; rw [hq_27]; rfl) ?_
    refine go_iload rfl rfl ?_
    replace e := ck_as_e e
    obtain ⟨hc_28, e⟩ := e
    refine go_iald rfl hc_28 ?_
    refine go_bipush (v := 8) rfl (by decide) ?_
    refine go_ishr rfl ?_
    cases e
    exact go_ret rfl rfl
  rw [if_neg hx_24] at e
  by_cases hx_29 : v3 = 5
  · rw [if_pos hx_29] at e
    refine go_tswI (off := 83) (t := 91) rfl (by rw [hx_29]; decide) (by rw [hx_29]; rfl) rfl ?_
    refine go_aload_n rfl rfl ?_
    replace e := ck_as_e e
    obtain ⟨hk_30, e⟩ := e
    replace e := ck_some_e e
    obtain ⟨b31, hq_32, e⟩ := e
    refine go_get (v := .ref b31) rfl rfl hk_30 (by decide) (by show va_rf (gR h2 a0 7) = _; rw [hq_32]; rfl) ?_
    refine go_iload rfl rfl ?_
    replace e := ck_as_e e
    obtain ⟨hc_33, e⟩ := e
    refine go_iald rfl hc_33 ?_
    refine go_sipush (v := 255) rfl (by decide) ?_
    refine go_iand rfl ?_
    cases e
    exact go_ret rfl rfl
  rw [if_neg hx_29] at e
  have hz_ : (v3 : Int32).toInt < 0 ∨ 5 < (v3 : Int32).toInt := by
    have z0 := lv_neT hx_4 (k := 0) (a := 0) rfl
    have z1 := lv_neT hx_9 (k := 1) (a := 1) rfl
    have z2 := lv_neT hx_14 (k := 2) (a := 2) rfl
    have z3 := lv_neT hx_19 (k := 3) (a := 3) rfl
    have z4 := lv_neT hx_24 (k := 4) (a := 4) rfl
    have z5 := lv_neT hx_29 (k := 5) (a := 5) rfl
    omega
  refine go_tswO (m := k_RM_byteOf) (pc := 8) (t := 103) (d := 95) (offs := #[40, 48, 56, 64, 72, 83]) rfl hz_ rfl ?_
  refine go_aload_n rfl rfl ?_
  replace e := ck_as_e e
  obtain ⟨hk_34, e⟩ := e
  replace e := ck_some_e e
  obtain ⟨b35, hq_36, e⟩ := e
  refine go_get (v := .ref b35) rfl rfl hk_34 (by decide) (by show va_rf (gR h2 a0 0) = _; rw [hq_36]; rfl) ?_
  refine go_aload_n rfl rfl ?_
  refine go_iload_n rfl rfl ?_
  refine go_iload_n rfl rfl ?_
  replace e := ck_bd_e e
  obtain ⟨r37, h38, e39, e⟩ := e
  refine go_callV (As := [.int v1, .int v2]) (b0 := a0) (rest := [.ref b35]) rfl rfl ⟨hk_34, by decide⟩ rfl ⟨Nat.le_of_ble_eq_true rfl, Nat.le_of_ble_eq_true rfl, Nat.le_of_ble_eq_true rfl, Nat.le_of_ble_eq_true rfl⟩ (s_RM_keyAt e39) ?_
  show Go k_RM_byteOf 113 [some (.ref a0), some (.int v1), some (.int v2), some (.int v3), some (.int r1)] [.int r37, .ref b35] h38 _
  refine go_iload_n rfl rfl ?_
  refine go_iadd rfl ?_
  refine go_bipush (v := 6) rfl (by decide) ?_
  refine go_isub rfl ?_
  replace e := ck_as_e e
  obtain ⟨hc_40, e⟩ := e
  refine go_bald rfl hc_40 ?_
  cases e
  exact go_ret rfl rfl
def f_RM_isAny (F : Nat) (a0 : Nat) (v1 : Int32) (h : ck_H) : Option (Int32 × ck_H) :=
  ck_as (gk h a0 = 12) <|
  ck_some (gR h a0 18) fun b2 =>
  ck_as ((gk h b2 = 14 ∨ gk h b2 = 21) ∧ ¬ v1 < 0 ∧ (v1 : Int32).toNatClampNeg < gz h b2) <|
  if ((gI h b2 (v1 : Int32).toNatClampNeg) &&& 2) = (2 : Int32) then
    some (1, h)
  else
    some (0, h)
set_option maxRecDepth 100000 in
set_option maxHeartbeats 4000000 in
theorem s_RM_isAny {F : Nat} {a0 : Nat} {v1 : Int32} {h h' : ck_H} {r : Int32} (e : f_RM_isAny F a0 v1 h = some (r, h')) : Go k_RM_isAny 0 (ck_in [.ref a0, .int v1] 2) [] h (some (.int r), h') := by
  unfold f_RM_isAny at e
  show Go k_RM_isAny 0 [some (.ref a0), some (.int v1)] [] h _
  refine go_aload_n rfl rfl ?_
  replace e := ck_as_e e
  obtain ⟨hk_1, e⟩ := e
  replace e := ck_some_e e
  obtain ⟨b2, hq_3, e⟩ := e
  refine go_get (v := .ref b2) rfl rfl hk_1 (by decide) (by show va_rf (gR h a0 18) = _; rw [hq_3]; rfl) ?_
  refine go_iload_n rfl rfl ?_
  replace e := ck_as_e e
  obtain ⟨hc_4, e⟩ := e
  refine go_iald rfl hc_4 ?_
  refine go_iconst (v := 2) rfl (by decide) ?_
  refine go_iand rfl ?_
  refine go_iconst (v := 2) rfl (by decide) ?_
  refine go_icmp_ne (t := 16) rfl rfl (fun hx_5 => ?_) (fun hx_5 => ?_)
  · rw [if_pos hx_5] at e
    refine go_iconst (v := 1) rfl (by decide) ?_
    refine go_goto (t := 17) rfl rfl ?_
    cases e
    exact go_ret rfl (ck_rvb rfl (Or.inr rfl))
  · rw [if_neg hx_5] at e
    refine go_iconst (v := 0) rfl (by decide) ?_
    cases e
    exact go_ret rfl (ck_rvb rfl (Or.inl rfl))
def f_RM_brought_J63 (F : Nat)  (a0 : Nat) (v1 : Int32) (v2 : Int32) (v3 : Int32) (v5 : Int32) (v6 : Int32) (v7 : Int32) (h : ck_H) : Option (Int32 × ck_H) :=
  ck_as (gk h a0 = 12) <|
  ck_some (gR h a0 17) fun b2 =>
  ck_as ((gk h b2 = 14 ∨ gk h b2 = 21) ∧ ¬ v1 < 0 ∧ (v1 : Int32).toNatClampNeg < gz h b2) <|
  ck_then (wI h a0 23 ((gI h b2 (v1 : Int32).toNatClampNeg) - v7)) fun h5 =>
  if v6 = (0 : Int32) then
    ck_some (gR h5 a0 17) fun b8 =>
    ck_as ((gk h5 b8 = 14 ∨ gk h5 b8 = 21) ∧ ¬ v1 < 0 ∧ (v1 : Int32).toNatClampNeg < gz h5 b8) <|
    if (gI h5 b8 (v1 : Int32).toNatClampNeg) = v5 then
      some ((-1), h5)
    else
      ck_bd (f_RM_isAny F a0 v1 h5) fun r12 h13 =>
      if r12 = (0 : Int32) then
        some (3, h13)
      else
        some ((-1), h13)
  else
    ck_some (gR h5 a0 8) fun b16 =>
    ck_bd (f_RM_at F v2 v3 h5) fun r18 h19 =>
    ck_as ((gk h19 b16 = 13 ∨ gk h19 b16 = 15) ∧ ¬ r18 < 0 ∧ (r18 : Int32).toNatClampNeg < gz h19 b16) <|
    if (gI h19 b16 (r18 : Int32).toNatClampNeg) = (0 : Int32) then
      ck_as (gk h19 a0 = 12) <|
      ck_some (gR h19 a0 17) fun b24 =>
      ck_as ((gk h19 b24 = 14 ∨ gk h19 b24 = 21) ∧ ¬ v1 < 0 ∧ (v1 : Int32).toNatClampNeg < gz h19 b24) <|
      if (gI h19 b24 (v1 : Int32).toNatClampNeg) = v5 then
        some ((-1), h19)
      else
        ck_bd (f_RM_isAny F a0 v1 h19) fun r28 h29 =>
        if r28 = (0 : Int32) then
          some (3, h29)
        else
          some ((-1), h29)
    else
      some (5, h19)
set_option maxRecDepth 100000 in
set_option maxHeartbeats 4000000 in
theorem f_RM_brought_J63_s (F : Nat)   (a0 : Nat) (v1 : Int32) (v2 : Int32) (v3 : Int32) (v5 : Int32) (v6 : Int32) (v7 : Int32) (h : ck_H) (r : Int32) (h' : ck_H) (e : f_RM_brought_J63 F  a0 v1 v2 v3 v5 v6 v7 h = some (r, h')) : Go k_RM_brought 63 [some (.ref a0), some (.int v1), some (.int v2), some (.int v3), none, some (.int v5), some (.int v6), some (.int v7), none] [] h (some (.int r), h') := by
  unfold f_RM_brought_J63 at e
  refine go_aload_n rfl rfl ?_
  refine go_aload_n rfl rfl ?_
  replace e := ck_as_e e
  obtain ⟨hk_1, e⟩ := e
  replace e := ck_some_e e
  obtain ⟨b2, hq_3, e⟩ := e
  refine go_get (v := .ref b2) rfl rfl hk_1 (by decide) (by show va_rf (gR h a0 17) = _; rw [hq_3]; rfl) ?_
  refine go_iload_n rfl rfl ?_
  replace e := ck_as_e e
  obtain ⟨hc_4, e⟩ := e
  refine go_iald rfl hc_4 ?_
  refine go_iload rfl rfl ?_
  refine go_isub rfl ?_
  refine go_put (h1 := wI h a0 23 ((gI h b2 (v1 : Int32).toNatClampNeg) - v7)) rfl rfl hk_1 ⟨by decide, by decide, Or.inl rfl⟩ rfl ?_
  have hk_6 : gk (wI h a0 23 ((gI h b2 (v1 : Int32).toNatClampNeg) - v7)) a0 = 12 := ck_kI.trans hk_1
  generalize wI h a0 23 ((gI h b2 (v1 : Int32).toNatClampNeg) - v7) = h5 at e hk_6 ⊢
  replace e := ck_then_e e
  refine go_iload rfl rfl ?_
  refine go_if_eq (t := 96) rfl rfl (fun hx_7 => ?_) (fun hx_7 => ?_)
  · rw [if_pos hx_7] at e
    refine go_aload_n rfl rfl ?_
    replace e := ck_some_e e
    obtain ⟨b8, hq_9, e⟩ := e
    refine go_get (v := .ref b8) rfl rfl hk_6 (by decide) (by show va_rf (gR h5 a0 17) = _; rw [hq_9]; rfl) ?_
    refine go_iload_n rfl rfl ?_
    replace e := ck_as_e e
    obtain ⟨hc_10, e⟩ := e
    refine go_iald rfl hc_10 ?_
    refine go_iload rfl rfl ?_
    refine go_icmp_eq (t := 119) rfl rfl (fun hx_11 => ?_) (fun hx_11 => ?_)
    · rw [if_pos hx_11] at e
      refine go_iconst (v := (-1)) rfl (by decide) ?_
      cases e
      exact go_ret rfl rfl
    · rw [if_neg hx_11] at e
      refine go_aload_n rfl rfl ?_
      refine go_iload_n rfl rfl ?_
      replace e := ck_bd_e e
      obtain ⟨r12, h13, e14, e⟩ := e
      refine go_callV (As := [.int v1]) (b0 := a0) (rest := []) rfl rfl ⟨hk_6, by decide⟩ rfl ⟨Nat.le_of_ble_eq_true rfl, Nat.le_of_ble_eq_true rfl, Nat.le_of_ble_eq_true rfl, Nat.le_of_ble_eq_true rfl⟩ (s_RM_isAny e14) ?_
      show Go k_RM_brought 112 [some (.ref a0), some (.int v1), some (.int v2), some (.int v3), none, some (.int v5), some (.int v6), some (.int v7), none] [.int r12] h13 _
      refine go_if_ne (t := 119) rfl rfl (fun hx_15 => ?_) (fun hx_15 => ?_)
      · rw [if_pos hx_15] at e
        refine go_iconst (v := 3) rfl (by decide) ?_
        refine go_goto (t := 120) rfl rfl ?_
        cases e
        exact go_ret rfl rfl
      · rw [if_neg hx_15] at e
        refine go_iconst (v := (-1)) rfl (by decide) ?_
        cases e
        exact go_ret rfl rfl
  · rw [if_neg hx_7] at e
    refine go_aload_n rfl rfl ?_
    replace e := ck_some_e e
    obtain ⟨b16, hq_17, e⟩ := e
    refine go_get (v := .ref b16) rfl rfl hk_6 (by decide) (by show va_rf (gR h5 a0 8) = _; rw [hq_17]; rfl) ?_
    refine go_iload_n rfl rfl ?_
    refine go_iload_n rfl rfl ?_
    replace e := ck_bd_e e
    obtain ⟨r18, h19, e20, e⟩ := e
    refine go_callS (As := [.int v2, .int v3]) (rest := [.ref b16]) rfl rfl rfl ⟨Nat.le_of_ble_eq_true rfl, Nat.le_of_ble_eq_true rfl, Nat.le_of_ble_eq_true rfl, Nat.le_of_ble_eq_true rfl⟩ (s_RM_at e20) ?_
    show Go k_RM_brought 90 [some (.ref a0), some (.int v1), some (.int v2), some (.int v3), none, some (.int v5), some (.int v6), some (.int v7), none] [.int r18, .ref b16] h19 _
    replace e := ck_as_e e
    obtain ⟨hc_21, e⟩ := e
    refine go_bald rfl hc_21 ?_
    refine go_if_eq (t := 96) rfl rfl (fun hx_22 => ?_) (fun hx_22 => ?_)
    · rw [if_pos hx_22] at e
      refine go_aload_n rfl rfl ?_
      replace e := ck_as_e e
      obtain ⟨hk_23, e⟩ := e
      replace e := ck_some_e e
      obtain ⟨b24, hq_25, e⟩ := e
      refine go_get (v := .ref b24) rfl rfl hk_23 (by decide) (by show va_rf (gR h19 a0 17) = _; rw [hq_25]; rfl) ?_
      refine go_iload_n rfl rfl ?_
      replace e := ck_as_e e
      obtain ⟨hc_26, e⟩ := e
      refine go_iald rfl hc_26 ?_
      refine go_iload rfl rfl ?_
      refine go_icmp_eq (t := 119) rfl rfl (fun hx_27 => ?_) (fun hx_27 => ?_)
      · rw [if_pos hx_27] at e
        refine go_iconst (v := (-1)) rfl (by decide) ?_
        cases e
        exact go_ret rfl rfl
      · rw [if_neg hx_27] at e
        refine go_aload_n rfl rfl ?_
        refine go_iload_n rfl rfl ?_
        replace e := ck_bd_e e
        obtain ⟨r28, h29, e30, e⟩ := e
        refine go_callV (As := [.int v1]) (b0 := a0) (rest := []) rfl rfl ⟨hk_23, by decide⟩ rfl ⟨Nat.le_of_ble_eq_true rfl, Nat.le_of_ble_eq_true rfl, Nat.le_of_ble_eq_true rfl, Nat.le_of_ble_eq_true rfl⟩ (s_RM_isAny e30) ?_
        show Go k_RM_brought 112 [some (.ref a0), some (.int v1), some (.int v2), some (.int v3), none, some (.int v5), some (.int v6), some (.int v7), none] [.int r28] h29 _
        refine go_if_ne (t := 119) rfl rfl (fun hx_31 => ?_) (fun hx_31 => ?_)
        · rw [if_pos hx_31] at e
          refine go_iconst (v := 3) rfl (by decide) ?_
          refine go_goto (t := 120) rfl rfl ?_
          cases e
          exact go_ret rfl rfl
        · rw [if_neg hx_31] at e
          refine go_iconst (v := (-1)) rfl (by decide) ?_
          cases e
          exact go_ret rfl rfl
    · rw [if_neg hx_22] at e
      refine go_iconst (v := 5) rfl (by decide) ?_
      cases e
      exact go_ret rfl rfl
def f_RM_brought_L16 (F : Nat)  : Nat → Nat → Int32 → Int32 → Int32 → Int32 → Int32 → Int32 → Int32 → Int32 → ck_H → Option (Int32 × ck_H)
  | 0, _, _, _, _, _, _, _, _, _, _ => none
  | n + 1, a0, v1, v2, v3, v4, v5, v6, v7, v8, h =>
    if v8 < v7 then
      ck_as (gk h a0 = 12) <|
      ck_bd (f_RM_drops F a0 v1 h) fun r3 h4 =>
      if r3 = (0 : Int32) then
        ck_as (gk h4 a0 = 12) <|
        ck_some (gR h4 a0 14) fun b8 =>
        ck_some (gR h4 a0 16) fun b10 =>
        ck_as ((gk h4 b10 = 14 ∨ gk h4 b10 = 21) ∧ ¬ v1 < 0 ∧ (v1 : Int32).toNatClampNeg < gz h4 b10) <|
        ck_bd (f_RM_byteOf F a0 v2 v3 (v4 + v8) h4) fun r13 h14 =>
        ck_as (gk h14 b8 = 13 ∧ ¬ ((gI h4 b10 (v1 : Int32).toNatClampNeg) + v8) < 0 ∧ ((gI h4 b10 (v1 : Int32).toNatClampNeg) + v8 : Int32).toNatClampNeg < gz h14 b8) <|
        ck_then (wI h14 b8 ((gI h4 b10 (v1 : Int32).toNatClampNeg) + v8 : Int32).toNatClampNeg ((r13 : Int32).toInt8.toInt32 : Int32).toInt8.toInt32) fun h17 =>
        f_RM_brought_L16 F n a0 v1 v2 v3 v4 v5 v6 v7 (v8 + 1) h17
      else
        f_RM_brought_J63 F a0 v1 v2 v3 v5 v6 v7 h4
    else
      f_RM_brought_J63 F a0 v1 v2 v3 v5 v6 v7 h
set_option maxRecDepth 100000 in
set_option maxHeartbeats 4000000 in
theorem f_RM_brought_L16_s (F : Nat)   : ∀ (n : Nat) (a0 : Nat) (v1 : Int32) (v2 : Int32) (v3 : Int32) (v4 : Int32) (v5 : Int32) (v6 : Int32) (v7 : Int32) (v8 : Int32) (h : ck_H) (r : Int32) (h' : ck_H), f_RM_brought_L16 F n a0 v1 v2 v3 v4 v5 v6 v7 v8 h = some (r, h') → Go k_RM_brought 16 [some (.ref a0), some (.int v1), some (.int v2), some (.int v3), some (.int v4), some (.int v5), some (.int v6), some (.int v7), some (.int v8)] [] h (some (.int r), h') := by
  intro n
  induction n with
  | zero => intro a0 v1 v2 v3 v4 v5 v6 v7 v8 h r h' e; simp only [f_RM_brought_L16] at e; cases e
  | succ n ih =>
    intro a0 v1 v2 v3 v4 v5 v6 v7 v8 h r h' e
    rw [f_RM_brought_L16] at e
    refine go_iload rfl rfl ?_
    refine go_iload rfl rfl ?_
    refine go_icmp_ge (t := 63) rfl rfl (fun hx_1 => ?_) (fun hx_1 => ?_)
    · rw [if_pos hx_1] at e
      refine go_aload_n rfl rfl ?_
      refine go_iload_n rfl rfl ?_
      replace e := ck_as_e e
      obtain ⟨hk_2, e⟩ := e
      replace e := ck_bd_e e
      obtain ⟨r3, h4, e5, e⟩ := e
      refine go_callV (As := [.int v1]) (b0 := a0) (rest := []) rfl rfl ⟨hk_2, by decide⟩ rfl ⟨Nat.le_of_ble_eq_true rfl, Nat.le_of_ble_eq_true rfl, Nat.le_of_ble_eq_true rfl, Nat.le_of_ble_eq_true rfl⟩ (s_RM_drops e5) ?_
      show Go k_RM_brought 28 [some (.ref a0), some (.int v1), some (.int v2), some (.int v3), some (.int v4), some (.int v5), some (.int v6), some (.int v7), some (.int v8)] [.int r3] h4 _
      refine go_if_ne (t := 63) rfl rfl (fun hx_6 => ?_) (fun hx_6 => ?_)
      · rw [if_pos hx_6] at e
        refine go_aload_n rfl rfl ?_
        replace e := ck_as_e e
        obtain ⟨hk_7, e⟩ := e
        replace e := ck_some_e e
        obtain ⟨b8, hq_9, e⟩ := e
        refine go_get (v := .ref b8) rfl rfl hk_7 (by decide) (by show va_rf (gR h4 a0 14) = _; rw [hq_9]; rfl) ?_
        refine go_aload_n rfl rfl ?_
        replace e := ck_some_e e
        obtain ⟨b10, hq_11, e⟩ := e
        refine go_get (v := .ref b10) rfl rfl hk_7 (by decide) (by show va_rf (gR h4 a0 16) = _; rw [hq_11]; rfl) ?_
        refine go_iload_n rfl rfl ?_
        replace e := ck_as_e e
        obtain ⟨hc_12, e⟩ := e
        refine go_iald rfl hc_12 ?_
        refine go_iload rfl rfl ?_
        refine go_iadd rfl ?_
        refine go_aload_n rfl rfl ?_
        refine go_iload_n rfl rfl ?_
        refine go_iload_n rfl rfl ?_
        refine go_iload rfl rfl ?_
        refine go_iload rfl rfl ?_
        refine go_iadd rfl ?_
        replace e := ck_bd_e e
        obtain ⟨r13, h14, e15, e⟩ := e
        refine go_callV (As := [.int v2, .int v3, .int (v4 + v8)]) (b0 := a0) (rest := [.int ((gI h4 b10 (v1 : Int32).toNatClampNeg) + v8), .ref b8]) rfl rfl ⟨hk_7, by decide⟩ rfl ⟨Nat.le_of_ble_eq_true rfl, Nat.le_of_ble_eq_true rfl, Nat.le_of_ble_eq_true rfl, Nat.le_of_ble_eq_true rfl⟩ (s_RM_byteOf e15) ?_
        show Go k_RM_brought 55 [some (.ref a0), some (.int v1), some (.int v2), some (.int v3), some (.int v4), some (.int v5), some (.int v6), some (.int v7), some (.int v8)] [.int r13, .int ((gI h4 b10 (v1 : Int32).toNatClampNeg) + v8), .ref b8] h14 _
        refine go_i2b rfl ?_
        replace e := ck_as_e e
        obtain ⟨hc_16, e⟩ := e
        refine go_bast rfl hc_16 ?_
        generalize wI h14 b8 ((gI h4 b10 (v1 : Int32).toNatClampNeg) + v8 : Int32).toNatClampNeg ((r13 : Int32).toInt8.toInt32 : Int32).toInt8.toInt32 = h17 at e  ⊢
        replace e := ck_then_e e
        refine go_iinc (v := 1) rfl rfl (by decide) rfl ?_
        show Go k_RM_brought 60 [some (.ref a0), some (.int v1), some (.int v2), some (.int v3), some (.int v4), some (.int v5), some (.int v6), some (.int v7), some (.int (v8 + 1))] [] h17 _
        refine go_goto (t := 16) rfl rfl ?_
        refine go_forget (l := [some (.ref a0), some (.int v1), some (.int v2), some (.int v3), some (.int v4), some (.int v5), some (.int v6), some (.int v7), some (.int (v8 + 1))]) ⟨Or.inl rfl, Or.inl rfl, Or.inl rfl, Or.inl rfl, Or.inl rfl, Or.inl rfl, Or.inl rfl, Or.inl rfl, Or.inl rfl, trivial⟩ ?_
        exact ih _ _ _ _ _ _ _ _ _ _ _ _ e
      · rw [if_neg hx_6] at e
        refine go_forget (l := [some (.ref a0), some (.int v1), some (.int v2), some (.int v3), none, some (.int v5), some (.int v6), some (.int v7), none]) ⟨Or.inl rfl, Or.inl rfl, Or.inl rfl, Or.inl rfl, Or.inr ⟨rfl, fun _ q => by cases q; rfl⟩, Or.inl rfl, Or.inl rfl, Or.inl rfl, Or.inr ⟨rfl, fun _ q => by cases q; rfl⟩, trivial⟩ ?_
        exact f_RM_brought_J63_s F a0 v1 v2 v3 v5 v6 v7 _ _ _ e
    · rw [if_neg hx_1] at e
      refine go_forget (l := [some (.ref a0), some (.int v1), some (.int v2), some (.int v3), none, some (.int v5), some (.int v6), some (.int v7), none]) ⟨Or.inl rfl, Or.inl rfl, Or.inl rfl, Or.inl rfl, Or.inr ⟨rfl, fun _ q => by cases q; rfl⟩, Or.inl rfl, Or.inl rfl, Or.inl rfl, Or.inr ⟨rfl, fun _ q => by cases q; rfl⟩, trivial⟩ ?_
      exact f_RM_brought_J63_s F a0 v1 v2 v3 v5 v6 v7 _ _ _ e
def f_RM_brought (F : Nat) (a0 : Nat) (v1 : Int32) (v2 : Int32) (v3 : Int32) (v4 : Int32) (v5 : Int32) (v6 : Int32) (h : ck_H) : Option (Int32 × ck_H) :=
  ck_as (gk h a0 = 12) <|
  ck_some (gR h a0 17) fun b2 =>
  ck_as ((gk h b2 = 14 ∨ gk h b2 = 21) ∧ ¬ v1 < 0 ∧ (v1 : Int32).toNatClampNeg < gz h b2) <|
  ck_bd (f_Ma_min F (gI h b2 (v1 : Int32).toNatClampNeg) v5 h) fun r5 h6 =>
  f_RM_brought_L16 F F a0 v1 v2 v3 v4 v5 v6 r5 0 h6
set_option maxRecDepth 100000 in
set_option maxHeartbeats 4000000 in
theorem s_RM_brought {F : Nat} {a0 : Nat} {v1 : Int32} {v2 : Int32} {v3 : Int32} {v4 : Int32} {v5 : Int32} {v6 : Int32} {h h' : ck_H} {r : Int32} (e : f_RM_brought F a0 v1 v2 v3 v4 v5 v6 h = some (r, h')) : Go k_RM_brought 0 (ck_in [.ref a0, .int v1, .int v2, .int v3, .int v4, .int v5, .int v6] 9) [] h (some (.int r), h') := by
  unfold f_RM_brought at e
  show Go k_RM_brought 0 [some (.ref a0), some (.int v1), some (.int v2), some (.int v3), some (.int v4), some (.int v5), some (.int v6), none, none] [] h _
  refine go_aload_n rfl rfl ?_
  replace e := ck_as_e e
  obtain ⟨hk_1, e⟩ := e
  replace e := ck_some_e e
  obtain ⟨b2, hq_3, e⟩ := e
  refine go_get (v := .ref b2) rfl rfl hk_1 (by decide) (by show va_rf (gR h a0 17) = _; rw [hq_3]; rfl) ?_
  refine go_iload_n rfl rfl ?_
  replace e := ck_as_e e
  obtain ⟨hc_4, e⟩ := e
  refine go_iald rfl hc_4 ?_
  refine go_iload rfl rfl ?_
  replace e := ck_bd_e e
  obtain ⟨r5, h6, e7, e⟩ := e
  refine go_callS (As := [.int (gI h b2 (v1 : Int32).toNatClampNeg), .int v5]) (rest := []) rfl rfl rfl ⟨Nat.le_of_ble_eq_true rfl, Nat.le_of_ble_eq_true rfl, Nat.le_of_ble_eq_true rfl, Nat.le_of_ble_eq_true rfl⟩ (s_Ma_min e7) ?_
  show Go k_RM_brought 11 [some (.ref a0), some (.int v1), some (.int v2), some (.int v3), some (.int v4), some (.int v5), some (.int v6), none, none] [.int r5] h6 _
  refine go_istore rfl rfl ?_
  show Go k_RM_brought 13 [some (.ref a0), some (.int v1), some (.int v2), some (.int v3), some (.int v4), some (.int v5), some (.int v6), some (.int r5), none] [] h6 _
  refine go_iconst (v := 0) rfl (by decide) ?_
  refine go_istore rfl rfl ?_
  show Go k_RM_brought 16 [some (.ref a0), some (.int v1), some (.int v2), some (.int v3), some (.int v4), some (.int v5), some (.int v6), some (.int r5), some (.int 0)] [] h6 _
  refine go_forget (l := [some (.ref a0), some (.int v1), some (.int v2), some (.int v3), some (.int v4), some (.int v5), some (.int v6), some (.int r5), some (.int 0)]) ⟨Or.inl rfl, Or.inl rfl, Or.inl rfl, Or.inl rfl, Or.inl rfl, Or.inl rfl, Or.inl rfl, Or.inl rfl, Or.inl rfl, trivial⟩ ?_
  exact f_RM_brought_L16_s F F _ _ _ _ _ _ _ _ _ _ _ _ e
def f_RM_readCount (F : Nat) (a0 : Nat) (v1 : Int32) (h : ck_H) : Option (Int32 × ck_H) :=
  ck_as (gk h a0 = 12) <|
  ck_bd (f_RM_nextRecord F a0 h) fun r2 h3 =>
  if r2 = ((-1) : Int32) then
    some (1, h3)
  else
    ck_as (gk h3 a0 = 12) <|
    ck_then (wJ h3 a0 21 ((gJ h3 a0 21) + 10)) fun h7 =>
    ck_then (wI h7 a0 28 2) fun h9 =>
    ck_then (wI h9 a0 29 r2) fun h11 =>
    ck_bd (f_RM_track F a0 h11) fun r13 h14 =>
    ck_as (gk h14 a0 = 12) <|
    ck_bd (f_RM_brought F a0 v1 r13 r2 0 6 0 h14) fun r17 h18 =>
    some (r17, h18)
set_option maxRecDepth 100000 in
set_option maxHeartbeats 4000000 in
theorem s_RM_readCount {F : Nat} {a0 : Nat} {v1 : Int32} {h h' : ck_H} {r : Int32} (e : f_RM_readCount F a0 v1 h = some (r, h')) : Go k_RM_readCount 0 (ck_in [.ref a0, .int v1] 3) [] h (some (.int r), h') := by
  unfold f_RM_readCount at e
  show Go k_RM_readCount 0 [some (.ref a0), some (.int v1), none] [] h _
  refine go_aload_n rfl rfl ?_
  replace e := ck_as_e e
  obtain ⟨hk_1, e⟩ := e
  replace e := ck_bd_e e
  obtain ⟨r2, h3, e4, e⟩ := e
  refine go_callV (As := []) (b0 := a0) (rest := []) rfl rfl ⟨hk_1, by decide⟩ rfl ⟨Nat.le_of_ble_eq_true rfl, Nat.le_of_ble_eq_true rfl, Nat.le_of_ble_eq_true rfl, Nat.le_of_ble_eq_true rfl⟩ (s_RM_nextRecord e4) ?_
  show Go k_RM_readCount 4 [some (.ref a0), some (.int v1), none] [.int r2] h3 _
  refine go_istore_n rfl rfl ?_
  show Go k_RM_readCount 5 [some (.ref a0), some (.int v1), some (.int r2)] [] h3 _
  refine go_iload_n rfl rfl ?_
  refine go_iconst (v := (-1)) rfl (by decide) ?_
  refine go_icmp_ne (t := 12) rfl rfl (fun hx_5 => ?_) (fun hx_5 => ?_)
  · rw [if_pos hx_5] at e
    refine go_iconst (v := 1) rfl (by decide) ?_
    cases e
    exact go_ret rfl rfl
  · rw [if_neg hx_5] at e
    refine go_aload_n rfl rfl ?_
    refine go_dup rfl rfl ?_
    replace e := ck_as_e e
    obtain ⟨hk_6, e⟩ := e
    refine go_get (v := .long (gJ h3 a0 21)) rfl rfl hk_6 (by decide) rfl ?_
    refine go_ldc2 (v := 10) rfl rfl ?_
    refine go_ladd rfl ?_
    refine go_put (h1 := wJ h3 a0 21 ((gJ h3 a0 21) + 10)) rfl rfl hk_6 ⟨by decide, by decide, Or.inl rfl⟩ rfl ?_
    have hk_8 : gk (wJ h3 a0 21 ((gJ h3 a0 21) + 10)) a0 = 12 := ck_kJ.trans hk_6
    generalize wJ h3 a0 21 ((gJ h3 a0 21) + 10) = h7 at e hk_8 ⊢
    replace e := ck_then_e e
    refine go_aload_n rfl rfl ?_
    refine go_iconst (v := 2) rfl (by decide) ?_
    refine go_put (h1 := wI h7 a0 28 2) rfl rfl hk_8 ⟨by decide, by decide, Or.inl rfl⟩ rfl ?_
    have hk_10 : gk (wI h7 a0 28 2) a0 = 12 := ck_kI.trans hk_8
    generalize wI h7 a0 28 2 = h9 at e hk_10 ⊢
    replace e := ck_then_e e
    refine go_aload_n rfl rfl ?_
    refine go_iload_n rfl rfl ?_
    refine go_put (h1 := wI h9 a0 29 r2) rfl rfl hk_10 ⟨by decide, by decide, Or.inl rfl⟩ rfl ?_
    have hk_12 : gk (wI h9 a0 29 r2) a0 = 12 := ck_kI.trans hk_10
    generalize wI h9 a0 29 r2 = h11 at e hk_12 ⊢
    replace e := ck_then_e e
    refine go_aload_n rfl rfl ?_
    refine go_iload_n rfl rfl ?_
    refine go_aload_n rfl rfl ?_
    replace e := ck_bd_e e
    obtain ⟨r13, h14, e15, e⟩ := e
    refine go_callV (As := []) (b0 := a0) (rest := [.int v1, .ref a0]) rfl rfl ⟨hk_12, by decide⟩ rfl ⟨Nat.le_of_ble_eq_true rfl, Nat.le_of_ble_eq_true rfl, Nat.le_of_ble_eq_true rfl, Nat.le_of_ble_eq_true rfl⟩ (s_RM_track e15) ?_
    show Go k_RM_readCount 40 [some (.ref a0), some (.int v1), some (.int r2)] [.int r13, .int v1, .ref a0] h14 _
    refine go_iload_n rfl rfl ?_
    refine go_iconst (v := 0) rfl (by decide) ?_
    refine go_bipush (v := 6) rfl (by decide) ?_
    refine go_iconst (v := 0) rfl (by decide) ?_
    replace e := ck_as_e e
    obtain ⟨hk_16, e⟩ := e
    replace e := ck_bd_e e
    obtain ⟨r17, h18, e19, e⟩ := e
    refine go_callV (As := [.int v1, .int r13, .int r2, .int 0, .int 6, .int 0]) (b0 := a0) (rest := []) rfl rfl ⟨hk_16, by decide⟩ rfl ⟨Nat.le_of_ble_eq_true rfl, Nat.le_of_ble_eq_true rfl, Nat.le_of_ble_eq_true rfl, Nat.le_of_ble_eq_true rfl⟩ (s_RM_brought e19) ?_
    show Go k_RM_readCount 48 [some (.ref a0), some (.int v1), some (.int r2)] [.int r17] h18 _
    cases e
    exact go_ret rfl rfl
def f_RM_readData_J86 (F : Nat)  (a0 : Nat) (v1 : Int32) (v2 : Int32) (v4 : Int32) (v5 : Int32) (s0 : Int32) (s1 : Int64) (s2 : Nat) (h : ck_H) : Option (Int32 × ck_H) :=
  ck_as (gk h a0 = 12) <|
  ck_some (gR h a0 7) fun b2 =>
  ck_as ((gk h b2 = 14 ∨ gk h b2 = 21) ∧ ¬ v5 < 0 ∧ (v5 : Int32).toNatClampNeg < gz h b2) <|
  ck_as (gk h s2 = 12) <|
  ck_then (wJ h s2 21 (s1 + (((s0 + (gI h b2 (v5 : Int32).toNatClampNeg)) + 10 : Int32).toInt64))) fun h6 =>
  ck_then (wI h6 a0 28 0) fun h9 =>
  ck_some (gR h9 a0 15) fun b12 =>
  ck_as ((gk h9 b12 = 14 ∨ gk h9 b12 = 21) ∧ ¬ v1 < 0 ∧ (v1 : Int32).toNatClampNeg < gz h9 b12) <|
  if (gI h9 b12 (v1 : Int32).toNatClampNeg) = (9 : Int32) then
    ck_some (gR h9 a0 6) fun b16 =>
    ck_as ((gk h9 b16 = 14 ∨ gk h9 b16 = 21) ∧ ¬ v5 < 0 ∧ (v5 : Int32).toNatClampNeg < gz h9 b16) <|
    ck_some (gR h9 a0 7) fun b19 =>
    ck_as ((gk h9 b19 = 14 ∨ gk h9 b19 = 21) ∧ ¬ v5 < 0 ∧ (v5 : Int32).toNatClampNeg < gz h9 b19) <|
    ck_bd (f_RM_brought F a0 v1 v2 v4 6 ((gI h9 b16 (v5 : Int32).toNatClampNeg) + (gI h9 b19 (v5 : Int32).toNatClampNeg)) 1 h9) fun r22 h23 =>
    some (r22, h23)
  else
    ck_some (gR h9 a0 6) fun b25 =>
    ck_as ((gk h9 b25 = 14 ∨ gk h9 b25 = 21) ∧ ¬ v5 < 0 ∧ (v5 : Int32).toNatClampNeg < gz h9 b25) <|
    ck_some (gR h9 a0 7) fun b28 =>
    ck_as ((gk h9 b28 = 14 ∨ gk h9 b28 = 21) ∧ ¬ v5 < 0 ∧ (v5 : Int32).toNatClampNeg < gz h9 b28) <|
    ck_bd (f_RM_brought F a0 v1 v2 v4 (6 + (gI h9 b25 (v5 : Int32).toNatClampNeg)) (gI h9 b28 (v5 : Int32).toNatClampNeg) 1 h9) fun r31 h32 =>
    some (r31, h32)
set_option maxRecDepth 100000 in
set_option maxHeartbeats 4000000 in
theorem f_RM_readData_J86_s (F : Nat)   (a0 : Nat) (v1 : Int32) (v2 : Int32) (v4 : Int32) (v5 : Int32) (s0 : Int32) (s1 : Int64) (s2 : Nat) (h : ck_H) (r : Int32) (h' : ck_H) (e : f_RM_readData_J86 F  a0 v1 v2 v4 v5 s0 s1 s2 h = some (r, h')) : Go k_RM_readData 86 [some (.ref a0), some (.int v1), some (.int v2), none, some (.int v4), some (.int v5)] [.int s0, .long s1, .ref s2] h (some (.int r), h') := by
  unfold f_RM_readData_J86 at e
  refine go_aload_n rfl rfl ?_
  replace e := ck_as_e e
  obtain ⟨hk_1, e⟩ := e
  replace e := ck_some_e e
  obtain ⟨b2, hq_3, e⟩ := e
  refine go_get (v := .ref b2) rfl rfl hk_1 (by decide) (by show va_rf (gR h a0 7) = _; rw [hq_3]; rfl) ?_
  refine go_iload rfl rfl ?_
  replace e := ck_as_e e
  obtain ⟨hc_4, e⟩ := e
  refine go_iald rfl hc_4 ?_
  refine go_iadd rfl ?_
  refine go_bipush (v := 10) rfl (by decide) ?_
  refine go_iadd rfl ?_
  refine go_i2l rfl ?_
  refine go_ladd rfl ?_
  replace e := ck_as_e e
  obtain ⟨hk_5, e⟩ := e
  refine go_put (h1 := wJ h s2 21 (s1 + (((s0 + (gI h b2 (v5 : Int32).toNatClampNeg)) + 10 : Int32).toInt64))) rfl rfl hk_5 ⟨by decide, by decide, Or.inl rfl⟩ rfl ?_
  have hk_7 : gk (wJ h s2 21 (s1 + (((s0 + (gI h b2 (v5 : Int32).toNatClampNeg)) + 10 : Int32).toInt64))) a0 = 12 := ck_kJ.trans hk_1
  have hk_8 : gk (wJ h s2 21 (s1 + (((s0 + (gI h b2 (v5 : Int32).toNatClampNeg)) + 10 : Int32).toInt64))) s2 = 12 := ck_kJ.trans hk_5
  generalize wJ h s2 21 (s1 + (((s0 + (gI h b2 (v5 : Int32).toNatClampNeg)) + 10 : Int32).toInt64)) = h6 at e hk_7 hk_8 ⊢
  replace e := ck_then_e e
  refine go_aload_n rfl rfl ?_
  refine go_iconst (v := 0) rfl (by decide) ?_
  refine go_put (h1 := wI h6 a0 28 0) rfl rfl hk_7 ⟨by decide, by decide, Or.inl rfl⟩ rfl ?_
  have hk_10 : gk (wI h6 a0 28 0) a0 = 12 := ck_kI.trans hk_7
  have hk_11 : gk (wI h6 a0 28 0) s2 = 12 := ck_kI.trans hk_8
  generalize wI h6 a0 28 0 = h9 at e hk_10 hk_11 ⊢
  replace e := ck_then_e e
  refine go_aload_n rfl rfl ?_
  replace e := ck_some_e e
  obtain ⟨b12, hq_13, e⟩ := e
  refine go_get (v := .ref b12) rfl rfl hk_10 (by decide) (by show va_rf (gR h9 a0 15) = _; rw [hq_13]; rfl) ?_
  refine go_iload_n rfl rfl ?_
  replace e := ck_as_e e
  obtain ⟨hc_14, e⟩ := e
  refine go_iald rfl hc_14 ?_
  refine go_bipush (v := 9) rfl (by decide) ?_
  refine go_icmp_ne (t := 147) rfl rfl (fun hx_15 => ?_) (fun hx_15 => ?_)
  · rw [if_pos hx_15] at e
    refine go_aload_n rfl rfl ?_
    refine go_iload_n rfl rfl ?_
    refine go_iload_n rfl rfl ?_
    refine go_iload rfl rfl ?_
    refine go_bipush (v := 6) rfl (by decide) ?_
    refine go_aload_n rfl rfl ?_
    replace e := ck_some_e e
    obtain ⟨b16, hq_17, e⟩ := e
    refine go_get (v := .ref b16) rfl rfl hk_10 (by decide) (by show va_rf (gR h9 a0 6) = _; rw [hq_17]; rfl) ?_
    refine go_iload rfl rfl ?_
    replace e := ck_as_e e
    obtain ⟨hc_18, e⟩ := e
    refine go_iald rfl hc_18 ?_
    refine go_aload_n rfl rfl ?_
    replace e := ck_some_e e
    obtain ⟨b19, hq_20, e⟩ := e
    refine go_get (v := .ref b19) rfl rfl hk_10 (by decide) (by show va_rf (gR h9 a0 7) = _; rw [hq_20]; rfl) ?_
    refine go_iload rfl rfl ?_
    replace e := ck_as_e e
    obtain ⟨hc_21, e⟩ := e
    refine go_iald rfl hc_21 ?_
    refine go_iadd rfl ?_
    refine go_iconst (v := 1) rfl (by decide) ?_
    replace e := ck_bd_e e
    obtain ⟨r22, h23, e24, e⟩ := e
    refine go_callV (As := [.int v1, .int v2, .int v4, .int 6, .int ((gI h9 b16 (v5 : Int32).toNatClampNeg) + (gI h9 b19 (v5 : Int32).toNatClampNeg)), .int 1]) (b0 := a0) (rest := []) rfl rfl ⟨hk_10, by decide⟩ rfl ⟨Nat.le_of_ble_eq_true rfl, Nat.le_of_ble_eq_true rfl, Nat.le_of_ble_eq_true rfl, Nat.le_of_ble_eq_true rfl⟩ (s_RM_brought e24) ?_
    show Go k_RM_readData 144 [some (.ref a0), some (.int v1), some (.int v2), none, some (.int v4), some (.int v5)] [.int r22] h23 _
    refine go_goto (t := 173) rfl rfl ?_
    cases e
    exact go_ret rfl rfl
  · rw [if_neg hx_15] at e
    refine go_aload_n rfl rfl ?_
    refine go_iload_n rfl rfl ?_
    refine go_iload_n rfl rfl ?_
    refine go_iload rfl rfl ?_
    refine go_bipush (v := 6) rfl (by decide) ?_
    refine go_aload_n rfl rfl ?_
    replace e := ck_some_e e
    obtain ⟨b25, hq_26, e⟩ := e
    refine go_get (v := .ref b25) rfl rfl hk_10 (by decide) (by show va_rf (gR h9 a0 6) = _; rw [hq_26]; rfl) ?_
    refine go_iload rfl rfl ?_
    replace e := ck_as_e e
    obtain ⟨hc_27, e⟩ := e
    refine go_iald rfl hc_27 ?_
    refine go_iadd rfl ?_
    refine go_aload_n rfl rfl ?_
    replace e := ck_some_e e
    obtain ⟨b28, hq_29, e⟩ := e
    refine go_get (v := .ref b28) rfl rfl hk_10 (by decide) (by show va_rf (gR h9 a0 7) = _; rw [hq_29]; rfl) ?_
    refine go_iload rfl rfl ?_
    replace e := ck_as_e e
    obtain ⟨hc_30, e⟩ := e
    refine go_iald rfl hc_30 ?_
    refine go_iconst (v := 1) rfl (by decide) ?_
    replace e := ck_bd_e e
    obtain ⟨r31, h32, e33, e⟩ := e
    refine go_callV (As := [.int v1, .int v2, .int v4, .int (6 + (gI h9 b25 (v5 : Int32).toNatClampNeg)), .int (gI h9 b28 (v5 : Int32).toNatClampNeg), .int 1]) (b0 := a0) (rest := []) rfl rfl ⟨hk_10, by decide⟩ rfl ⟨Nat.le_of_ble_eq_true rfl, Nat.le_of_ble_eq_true rfl, Nat.le_of_ble_eq_true rfl, Nat.le_of_ble_eq_true rfl⟩ (s_RM_brought e33) ?_
    show Go k_RM_readData 173 [some (.ref a0), some (.int v1), some (.int v2), none, some (.int v4), some (.int v5)] [.int r31] h32 _
    cases e
    exact go_ret rfl rfl
def f_RM_readData_J45 (F : Nat)  (a0 : Nat) (v1 : Int32) (v2 : Int32) (v3 : Int32) (s0 : Int32) (h : ck_H) : Option (Int32 × ck_H) :=
  if s0 = ((-1) : Int32) then
    some (1, h)
  else
    ck_bd (f_RM_at F v2 s0 h) fun r2 h3 =>
    ck_as (gk h3 a0 = 12) <|
    if v3 = (0 : Int32) then
      ck_some (gR h3 a0 6) fun b7 =>
      ck_as ((gk h3 b7 = 14 ∨ gk h3 b7 = 21) ∧ ¬ r2 < 0 ∧ (r2 : Int32).toNatClampNeg < gz h3 b7) <|
      f_RM_readData_J86 F a0 v1 v2 s0 r2 (10 + (gI h3 b7 (r2 : Int32).toNatClampNeg)) (gJ h3 a0 21) a0 h3
    else
      f_RM_readData_J86 F a0 v1 v2 s0 r2 0 (gJ h3 a0 21) a0 h3
set_option maxRecDepth 100000 in
set_option maxHeartbeats 4000000 in
theorem f_RM_readData_J45_s (F : Nat)   (a0 : Nat) (v1 : Int32) (v2 : Int32) (v3 : Int32) (s0 : Int32) (h : ck_H) (r : Int32) (h' : ck_H) (e : f_RM_readData_J45 F  a0 v1 v2 v3 s0 h = some (r, h')) : Go k_RM_readData 45 [some (.ref a0), some (.int v1), some (.int v2), some (.int v3), none, none] [.int s0] h (some (.int r), h') := by
  unfold f_RM_readData_J45 at e
  refine go_istore rfl rfl ?_
  show Go k_RM_readData 47 [some (.ref a0), some (.int v1), some (.int v2), some (.int v3), some (.int s0), none] [] h _
  refine go_iload rfl rfl ?_
  refine go_iconst (v := (-1)) rfl (by decide) ?_
  refine go_icmp_ne (t := 55) rfl rfl (fun hx_1 => ?_) (fun hx_1 => ?_)
  · rw [if_pos hx_1] at e
    refine go_iconst (v := 1) rfl (by decide) ?_
    cases e
    exact go_ret rfl rfl
  · rw [if_neg hx_1] at e
    refine go_iload_n rfl rfl ?_
    refine go_iload rfl rfl ?_
    replace e := ck_bd_e e
    obtain ⟨r2, h3, e4, e⟩ := e
    refine go_callS (As := [.int v2, .int s0]) (rest := []) rfl rfl rfl ⟨Nat.le_of_ble_eq_true rfl, Nat.le_of_ble_eq_true rfl, Nat.le_of_ble_eq_true rfl, Nat.le_of_ble_eq_true rfl⟩ (s_RM_at e4) ?_
    show Go k_RM_readData 61 [some (.ref a0), some (.int v1), some (.int v2), some (.int v3), some (.int s0), none] [.int r2] h3 _
    refine go_istore rfl rfl ?_
    show Go k_RM_readData 63 [some (.ref a0), some (.int v1), some (.int v2), some (.int v3), some (.int s0), some (.int r2)] [] h3 _
    refine go_aload_n rfl rfl ?_
    refine go_dup rfl rfl ?_
    replace e := ck_as_e e
    obtain ⟨hk_5, e⟩ := e
    refine go_get (v := .long (gJ h3 a0 21)) rfl rfl hk_5 (by decide) rfl ?_
    refine go_iload_n rfl rfl ?_
    refine go_if_eq (t := 76) rfl rfl (fun hx_6 => ?_) (fun hx_6 => ?_)
    · rw [if_pos hx_6] at e
      refine go_bipush (v := 10) rfl (by decide) ?_
      refine go_aload_n rfl rfl ?_
      replace e := ck_some_e e
      obtain ⟨b7, hq_8, e⟩ := e
      refine go_get (v := .ref b7) rfl rfl hk_5 (by decide) (by show va_rf (gR h3 a0 6) = _; rw [hq_8]; rfl) ?_
      refine go_iload rfl rfl ?_
      replace e := ck_as_e e
      obtain ⟨hc_9, e⟩ := e
      refine go_iald rfl hc_9 ?_
      refine go_iadd rfl ?_
      refine go_forget (l := [some (.ref a0), some (.int v1), some (.int v2), none, some (.int s0), some (.int r2)]) ⟨Or.inl rfl, Or.inl rfl, Or.inl rfl, Or.inr ⟨rfl, fun _ q => by cases q; rfl⟩, Or.inl rfl, Or.inl rfl, trivial⟩ ?_
      exact f_RM_readData_J86_s F a0 v1 v2 s0 r2 (10 + (gI h3 b7 (r2 : Int32).toNatClampNeg)) (gJ h3 a0 21) a0 _ _ _ e
    · rw [if_neg hx_6] at e
      refine go_iconst (v := 0) rfl (by decide) ?_
      refine go_goto (t := 86) rfl rfl ?_
      refine go_forget (l := [some (.ref a0), some (.int v1), some (.int v2), none, some (.int s0), some (.int r2)]) ⟨Or.inl rfl, Or.inl rfl, Or.inl rfl, Or.inr ⟨rfl, fun _ q => by cases q; rfl⟩, Or.inl rfl, Or.inl rfl, trivial⟩ ?_
      exact f_RM_readData_J86_s F a0 v1 v2 s0 r2 0 (gJ h3 a0 21) a0 _ _ _ e
def f_RM_readData_J29 (F : Nat)  (a0 : Nat) (v1 : Int32) (v2 : Int32) (s0 : Int32) (h : ck_H) : Option (Int32 × ck_H) :=
  if s0 = (0 : Int32) then
    ck_as (gk h a0 = 12) <|
    ck_bd (f_RM_countRecord F a0 h) fun r3 h4 =>
    f_RM_readData_J45 F a0 v1 v2 s0 r3 h4
  else
    ck_as (gk h a0 = 12) <|
    f_RM_readData_J45 F a0 v1 v2 s0 (gI h a0 29) h
set_option maxRecDepth 100000 in
set_option maxHeartbeats 4000000 in
theorem f_RM_readData_J29_s (F : Nat)   (a0 : Nat) (v1 : Int32) (v2 : Int32) (s0 : Int32) (h : ck_H) (r : Int32) (h' : ck_H) (e : f_RM_readData_J29 F  a0 v1 v2 s0 h = some (r, h')) : Go k_RM_readData 29 [some (.ref a0), some (.int v1), some (.int v2), none, none, none] [.int s0] h (some (.int r), h') := by
  unfold f_RM_readData_J29 at e
  refine go_istore_n rfl rfl ?_
  show Go k_RM_readData 30 [some (.ref a0), some (.int v1), some (.int v2), some (.int s0), none, none] [] h _
  refine go_iload_n rfl rfl ?_
  refine go_if_eq (t := 41) rfl rfl (fun hx_1 => ?_) (fun hx_1 => ?_)
  · rw [if_pos hx_1] at e
    refine go_aload_n rfl rfl ?_
    replace e := ck_as_e e
    obtain ⟨hk_2, e⟩ := e
    replace e := ck_bd_e e
    obtain ⟨r3, h4, e5, e⟩ := e
    refine go_callV (As := []) (b0 := a0) (rest := []) rfl rfl ⟨hk_2, by decide⟩ rfl ⟨Nat.le_of_ble_eq_true rfl, Nat.le_of_ble_eq_true rfl, Nat.le_of_ble_eq_true rfl, Nat.le_of_ble_eq_true rfl⟩ (s_RM_countRecord e5) ?_
    show Go k_RM_readData 45 [some (.ref a0), some (.int v1), some (.int v2), some (.int s0), none, none] [.int r3] h4 _
    refine go_forget (l := [some (.ref a0), some (.int v1), some (.int v2), some (.int s0), none, none]) ⟨Or.inl rfl, Or.inl rfl, Or.inl rfl, Or.inl rfl, Or.inl rfl, Or.inl rfl, trivial⟩ ?_
    exact f_RM_readData_J45_s F a0 v1 v2 s0 r3 _ _ _ e
  · rw [if_neg hx_1] at e
    refine go_aload_n rfl rfl ?_
    replace e := ck_as_e e
    obtain ⟨hk_34, e⟩ := e
    refine go_get (v := .int (gI h a0 29)) rfl rfl hk_34 (by decide) rfl ?_
    refine go_goto (t := 45) rfl rfl ?_
    refine go_forget (l := [some (.ref a0), some (.int v1), some (.int v2), some (.int s0), none, none]) ⟨Or.inl rfl, Or.inl rfl, Or.inl rfl, Or.inl rfl, Or.inl rfl, Or.inl rfl, trivial⟩ ?_
    exact f_RM_readData_J45_s F a0 v1 v2 s0 (gI h a0 29) _ _ _ e
def f_RM_readData_J28 (F : Nat)  (a0 : Nat) (v1 : Int32) (v2 : Int32) (h : ck_H) : Option (Int32 × ck_H) :=
  f_RM_readData_J29 F a0 v1 v2 0 h
set_option maxRecDepth 100000 in
set_option maxHeartbeats 4000000 in
theorem f_RM_readData_J28_s (F : Nat)   (a0 : Nat) (v1 : Int32) (v2 : Int32) (h : ck_H) (r : Int32) (h' : ck_H) (e : f_RM_readData_J28 F  a0 v1 v2 h = some (r, h')) : Go k_RM_readData 28 [some (.ref a0), some (.int v1), some (.int v2), none, none, none] [] h (some (.int r), h') := by
  unfold f_RM_readData_J28 at e
  refine go_iconst (v := 0) rfl (by decide) ?_
  refine go_forget (l := [some (.ref a0), some (.int v1), some (.int v2), none, none, none]) ⟨Or.inl rfl, Or.inl rfl, Or.inl rfl, Or.inl rfl, Or.inl rfl, Or.inl rfl, trivial⟩ ?_
  exact f_RM_readData_J29_s F a0 v1 v2 0 _ _ _ e
def f_RM_readData (F : Nat) (a0 : Nat) (v1 : Int32) (h : ck_H) : Option (Int32 × ck_H) :=
  ck_as (gk h a0 = 12) <|
  ck_bd (f_RM_track F a0 h) fun r2 h3 =>
  ck_as (gk h3 a0 = 12) <|
  ck_some (gR h3 a0 15) fun b6 =>
  ck_as ((gk h3 b6 = 14 ∨ gk h3 b6 = 21) ∧ ¬ v1 < 0 ∧ (v1 : Int32).toNatClampNeg < gz h3 b6) <|
  if (gI h3 b6 (v1 : Int32).toNatClampNeg) = (10 : Int32) then
    if (gI h3 a0 28) = (3 : Int32) then
      f_RM_readData_J29 F a0 v1 r2 1 h3
    else
      f_RM_readData_J28 F a0 v1 r2 h3
  else
    f_RM_readData_J28 F a0 v1 r2 h3
set_option maxRecDepth 100000 in
set_option maxHeartbeats 4000000 in
theorem s_RM_readData {F : Nat} {a0 : Nat} {v1 : Int32} {h h' : ck_H} {r : Int32} (e : f_RM_readData F a0 v1 h = some (r, h')) : Go k_RM_readData 0 (ck_in [.ref a0, .int v1] 6) [] h (some (.int r), h') := by
  unfold f_RM_readData at e
  show Go k_RM_readData 0 [some (.ref a0), some (.int v1), none, none, none, none] [] h _
  refine go_aload_n rfl rfl ?_
  replace e := ck_as_e e
  obtain ⟨hk_1, e⟩ := e
  replace e := ck_bd_e e
  obtain ⟨r2, h3, e4, e⟩ := e
  refine go_callV (As := []) (b0 := a0) (rest := []) rfl rfl ⟨hk_1, by decide⟩ rfl ⟨Nat.le_of_ble_eq_true rfl, Nat.le_of_ble_eq_true rfl, Nat.le_of_ble_eq_true rfl, Nat.le_of_ble_eq_true rfl⟩ (s_RM_track e4) ?_
  show Go k_RM_readData 4 [some (.ref a0), some (.int v1), none, none, none, none] [.int r2] h3 _
  refine go_istore_n rfl rfl ?_
  show Go k_RM_readData 5 [some (.ref a0), some (.int v1), some (.int r2), none, none, none] [] h3 _
  refine go_aload_n rfl rfl ?_
  replace e := ck_as_e e
  obtain ⟨hk_5, e⟩ := e
  replace e := ck_some_e e
  obtain ⟨b6, hq_7, e⟩ := e
  refine go_get (v := .ref b6) rfl rfl hk_5 (by decide) (by show va_rf (gR h3 a0 15) = _; rw [hq_7]; rfl) ?_
  refine go_iload_n rfl rfl ?_
  replace e := ck_as_e e
  obtain ⟨hc_8, e⟩ := e
  refine go_iald rfl hc_8 ?_
  refine go_bipush (v := 10) rfl (by decide) ?_
  refine go_icmp_ne (t := 28) rfl rfl (fun hx_9 => ?_) (fun hx_9 => ?_)
  · rw [if_pos hx_9] at e
    refine go_aload_n rfl rfl ?_
    refine go_get (v := .int (gI h3 a0 28)) rfl rfl hk_5 (by decide) rfl ?_
    refine go_iconst (v := 3) rfl (by decide) ?_
    refine go_icmp_ne (t := 28) rfl rfl (fun hx_10 => ?_) (fun hx_10 => ?_)
    · rw [if_pos hx_10] at e
      refine go_iconst (v := 1) rfl (by decide) ?_
      refine go_goto (t := 29) rfl rfl ?_
      refine go_forget (l := [some (.ref a0), some (.int v1), some (.int r2), none, none, none]) ⟨Or.inl rfl, Or.inl rfl, Or.inl rfl, Or.inl rfl, Or.inl rfl, Or.inl rfl, trivial⟩ ?_
      exact f_RM_readData_J29_s F a0 v1 r2 1 _ _ _ e
    · rw [if_neg hx_10] at e
      refine go_forget (l := [some (.ref a0), some (.int v1), some (.int r2), none, none, none]) ⟨Or.inl rfl, Or.inl rfl, Or.inl rfl, Or.inl rfl, Or.inl rfl, Or.inl rfl, trivial⟩ ?_
      exact f_RM_readData_J28_s F a0 v1 r2 _ _ _ e
  · rw [if_neg hx_9] at e
    refine go_forget (l := [some (.ref a0), some (.int v1), some (.int r2), none, none, none]) ⟨Or.inl rfl, Or.inl rfl, Or.inl rfl, Or.inl rfl, Or.inl rfl, Or.inl rfl, trivial⟩ ?_
    exact f_RM_readData_J28_s F a0 v1 r2 _ _ _ e
def f_RM_readAll (F : Nat) (a0 : Nat) (v1 : Int32) (h : ck_H) : Option (Int32 × ck_H) :=
  ck_as (gk h a0 = 12) <|
  ck_bd (f_RM_nextRecord F a0 h) fun r2 h3 =>
  if r2 = ((-1) : Int32) then
    some (1, h3)
  else
    ck_as (gk h3 a0 = 12) <|
    ck_bd (f_RM_track F a0 h3) fun r7 h8 =>
    ck_as (gk h8 a0 = 12) <|
    ck_some (gR h8 a0 6) fun b11 =>
    ck_bd (f_RM_at F r7 r2 h8) fun r13 h14 =>
    ck_as ((gk h14 b11 = 14 ∨ gk h14 b11 = 21) ∧ ¬ r13 < 0 ∧ (r13 : Int32).toNatClampNeg < gz h14 b11) <|
    ck_as (gk h14 a0 = 12) <|
    ck_some (gR h14 a0 7) fun b18 =>
    ck_bd (f_RM_at F r7 r2 h14) fun r20 h21 =>
    ck_as ((gk h21 b18 = 14 ∨ gk h21 b18 = 21) ∧ ¬ r20 < 0 ∧ (r20 : Int32).toNatClampNeg < gz h21 b18) <|
    ck_then ((gI h14 b11 (r13 : Int32).toNatClampNeg) + (gI h21 b18 (r20 : Int32).toNatClampNeg)) fun x24 =>
    ck_as (gk h21 a0 = 12) <|
    ck_then (wJ h21 a0 21 ((gJ h21 a0 21) + ((30 + x24 : Int32).toInt64))) fun h26 =>
    ck_then (wI h26 a0 28 0) fun h28 =>
    ck_bd (f_RM_brought F a0 v1 r7 r2 0 (6 + x24) 1 h28) fun r30 h31 =>
    some (r30, h31)
set_option maxRecDepth 100000 in
set_option maxHeartbeats 4000000 in
theorem s_RM_readAll {F : Nat} {a0 : Nat} {v1 : Int32} {h h' : ck_H} {r : Int32} (e : f_RM_readAll F a0 v1 h = some (r, h')) : Go k_RM_readAll 0 (ck_in [.ref a0, .int v1] 5) [] h (some (.int r), h') := by
  unfold f_RM_readAll at e
  show Go k_RM_readAll 0 [some (.ref a0), some (.int v1), none, none, none] [] h _
  refine go_aload_n rfl rfl ?_
  replace e := ck_as_e e
  obtain ⟨hk_1, e⟩ := e
  replace e := ck_bd_e e
  obtain ⟨r2, h3, e4, e⟩ := e
  refine go_callV (As := []) (b0 := a0) (rest := []) rfl rfl ⟨hk_1, by decide⟩ rfl ⟨Nat.le_of_ble_eq_true rfl, Nat.le_of_ble_eq_true rfl, Nat.le_of_ble_eq_true rfl, Nat.le_of_ble_eq_true rfl⟩ (s_RM_nextRecord e4) ?_
  show Go k_RM_readAll 4 [some (.ref a0), some (.int v1), none, none, none] [.int r2] h3 _
  refine go_istore_n rfl rfl ?_
  show Go k_RM_readAll 5 [some (.ref a0), some (.int v1), some (.int r2), none, none] [] h3 _
  refine go_iload_n rfl rfl ?_
  refine go_iconst (v := (-1)) rfl (by decide) ?_
  refine go_icmp_ne (t := 12) rfl rfl (fun hx_5 => ?_) (fun hx_5 => ?_)
  · rw [if_pos hx_5] at e
    refine go_iconst (v := 1) rfl (by decide) ?_
    cases e
    exact go_ret rfl rfl
  · rw [if_neg hx_5] at e
    refine go_aload_n rfl rfl ?_
    replace e := ck_as_e e
    obtain ⟨hk_6, e⟩ := e
    replace e := ck_bd_e e
    obtain ⟨r7, h8, e9, e⟩ := e
    refine go_callV (As := []) (b0 := a0) (rest := []) rfl rfl ⟨hk_6, by decide⟩ rfl ⟨Nat.le_of_ble_eq_true rfl, Nat.le_of_ble_eq_true rfl, Nat.le_of_ble_eq_true rfl, Nat.le_of_ble_eq_true rfl⟩ (s_RM_track e9) ?_
    show Go k_RM_readAll 16 [some (.ref a0), some (.int v1), some (.int r2), none, none] [.int r7] h8 _
    refine go_istore_n rfl rfl ?_
    show Go k_RM_readAll 17 [some (.ref a0), some (.int v1), some (.int r2), some (.int r7), none] [] h8 _
    refine go_aload_n rfl rfl ?_
    replace e := ck_as_e e
    obtain ⟨hk_10, e⟩ := e
    replace e := ck_some_e e
    obtain ⟨b11, hq_12, e⟩ := e
    refine go_get (v := .ref b11) rfl rfl hk_10 (by decide) (by show va_rf (gR h8 a0 6) = _; rw [hq_12]; rfl) ?_
    refine go_iload_n rfl rfl ?_
    refine go_iload_n rfl rfl ?_
    replace e := ck_bd_e e
    obtain ⟨r13, h14, e15, e⟩ := e
    refine go_callS (As := [.int r7, .int r2]) (rest := [.ref b11]) rfl rfl rfl ⟨Nat.le_of_ble_eq_true rfl, Nat.le_of_ble_eq_true rfl, Nat.le_of_ble_eq_true rfl, Nat.le_of_ble_eq_true rfl⟩ (s_RM_at e15) ?_
    show Go k_RM_readAll 26 [some (.ref a0), some (.int v1), some (.int r2), some (.int r7), none] [.int r13, .ref b11] h14 _
    replace e := ck_as_e e
    obtain ⟨hc_16, e⟩ := e
    refine go_iald rfl hc_16 ?_
    refine go_aload_n rfl rfl ?_
    replace e := ck_as_e e
    obtain ⟨hk_17, e⟩ := e
    replace e := ck_some_e e
    obtain ⟨b18, hq_19, e⟩ := e
    refine go_get (v := .ref b18) rfl rfl hk_17 (by decide) (by show va_rf (gR h14 a0 7) = _; rw [hq_19]; rfl) ?_
    refine go_iload_n rfl rfl ?_
    refine go_iload_n rfl rfl ?_
    replace e := ck_bd_e e
    obtain ⟨r20, h21, e22, e⟩ := e
    refine go_callS (As := [.int r7, .int r2]) (rest := [.ref b18, .int (gI h14 b11 (r13 : Int32).toNatClampNeg)]) rfl rfl rfl ⟨Nat.le_of_ble_eq_true rfl, Nat.le_of_ble_eq_true rfl, Nat.le_of_ble_eq_true rfl, Nat.le_of_ble_eq_true rfl⟩ (s_RM_at e22) ?_
    show Go k_RM_readAll 36 [some (.ref a0), some (.int v1), some (.int r2), some (.int r7), none] [.int r20, .ref b18, .int (gI h14 b11 (r13 : Int32).toNatClampNeg)] h21 _
    replace e := ck_as_e e
    obtain ⟨hc_23, e⟩ := e
    refine go_iald rfl hc_23 ?_
    refine go_iadd rfl ?_
    generalize (gI h14 b11 (r13 : Int32).toNatClampNeg) + (gI h21 b18 (r20 : Int32).toNatClampNeg) = x24 at e ⊢
    replace e := ck_then_e e
    refine go_istore rfl rfl ?_
    show Go k_RM_readAll 40 [some (.ref a0), some (.int v1), some (.int r2), some (.int r7), some (.int x24)] [] h21 _
    refine go_aload_n rfl rfl ?_
    refine go_dup rfl rfl ?_
    replace e := ck_as_e e
    obtain ⟨hk_25, e⟩ := e
    refine go_get (v := .long (gJ h21 a0 21)) rfl rfl hk_25 (by decide) rfl ?_
    refine go_bipush (v := 30) rfl (by decide) ?_
    refine go_iload rfl rfl ?_
    refine go_iadd rfl ?_
    refine go_i2l rfl ?_
    refine go_ladd rfl ?_
    refine go_put (h1 := wJ h21 a0 21 ((gJ h21 a0 21) + ((30 + x24 : Int32).toInt64))) rfl rfl hk_25 ⟨by decide, by decide, Or.inl rfl⟩ rfl ?_
    have hk_27 : gk (wJ h21 a0 21 ((gJ h21 a0 21) + ((30 + x24 : Int32).toInt64))) a0 = 12 := ck_kJ.trans hk_25
    generalize wJ h21 a0 21 ((gJ h21 a0 21) + ((30 + x24 : Int32).toInt64)) = h26 at e hk_27 ⊢
    replace e := ck_then_e e
    refine go_aload_n rfl rfl ?_
    refine go_iconst (v := 0) rfl (by decide) ?_
    refine go_put (h1 := wI h26 a0 28 0) rfl rfl hk_27 ⟨by decide, by decide, Or.inl rfl⟩ rfl ?_
    have hk_29 : gk (wI h26 a0 28 0) a0 = 12 := ck_kI.trans hk_27
    generalize wI h26 a0 28 0 = h28 at e hk_29 ⊢
    replace e := ck_then_e e
    refine go_aload_n rfl rfl ?_
    refine go_iload_n rfl rfl ?_
    refine go_iload_n rfl rfl ?_
    refine go_iload_n rfl rfl ?_
    refine go_iconst (v := 0) rfl (by decide) ?_
    refine go_bipush (v := 6) rfl (by decide) ?_
    refine go_iload rfl rfl ?_
    refine go_iadd rfl ?_
    refine go_iconst (v := 1) rfl (by decide) ?_
    replace e := ck_bd_e e
    obtain ⟨r30, h31, e32, e⟩ := e
    refine go_callV (As := [.int v1, .int r7, .int r2, .int 0, .int (6 + x24), .int 1]) (b0 := a0) (rest := []) rfl rfl ⟨hk_29, by decide⟩ rfl ⟨Nat.le_of_ble_eq_true rfl, Nat.le_of_ble_eq_true rfl, Nat.le_of_ble_eq_true rfl, Nat.le_of_ble_eq_true rfl⟩ (s_RM_brought e32) ?_
    show Go k_RM_readAll 74 [some (.ref a0), some (.int v1), some (.int r2), some (.int r7), some (.int x24)] [.int r30] h31 _
    cases e
    exact go_ret rfl rfl
def f_RM_dataAt (F : Nat) (a0 : Nat) (v1 : Int32) (v2 : Int32) (h : ck_H) : Option (Int32 × ck_H) :=
  ck_as (gk h a0 = 12) <|
  ck_bd (f_RM_keyAt F a0 v1 v2 h) fun r2 h3 =>
  ck_as (gk h3 a0 = 12) <|
  ck_some (gR h3 a0 6) fun b6 =>
  ck_bd (f_RM_at F v1 v2 h3) fun r8 h9 =>
  ck_as ((gk h9 b6 = 14 ∨ gk h9 b6 = 21) ∧ ¬ r8 < 0 ∧ (r8 : Int32).toNatClampNeg < gz h9 b6) <|
  some (r2 + (gI h9 b6 (r8 : Int32).toNatClampNeg), h9)
set_option maxRecDepth 100000 in
set_option maxHeartbeats 4000000 in
theorem s_RM_dataAt {F : Nat} {a0 : Nat} {v1 : Int32} {v2 : Int32} {h h' : ck_H} {r : Int32} (e : f_RM_dataAt F a0 v1 v2 h = some (r, h')) : Go k_RM_dataAt 0 (ck_in [.ref a0, .int v1, .int v2] 3) [] h (some (.int r), h') := by
  unfold f_RM_dataAt at e
  show Go k_RM_dataAt 0 [some (.ref a0), some (.int v1), some (.int v2)] [] h _
  refine go_aload_n rfl rfl ?_
  refine go_iload_n rfl rfl ?_
  refine go_iload_n rfl rfl ?_
  replace e := ck_as_e e
  obtain ⟨hk_1, e⟩ := e
  replace e := ck_bd_e e
  obtain ⟨r2, h3, e4, e⟩ := e
  refine go_callV (As := [.int v1, .int v2]) (b0 := a0) (rest := []) rfl rfl ⟨hk_1, by decide⟩ rfl ⟨Nat.le_of_ble_eq_true rfl, Nat.le_of_ble_eq_true rfl, Nat.le_of_ble_eq_true rfl, Nat.le_of_ble_eq_true rfl⟩ (s_RM_keyAt e4) ?_
  show Go k_RM_dataAt 6 [some (.ref a0), some (.int v1), some (.int v2)] [.int r2] h3 _
  refine go_aload_n rfl rfl ?_
  replace e := ck_as_e e
  obtain ⟨hk_5, e⟩ := e
  replace e := ck_some_e e
  obtain ⟨b6, hq_7, e⟩ := e
  refine go_get (v := .ref b6) rfl rfl hk_5 (by decide) (by show va_rf (gR h3 a0 6) = _; rw [hq_7]; rfl) ?_
  refine go_iload_n rfl rfl ?_
  refine go_iload_n rfl rfl ?_
  replace e := ck_bd_e e
  obtain ⟨r8, h9, e10, e⟩ := e
  refine go_callS (As := [.int v1, .int v2]) (rest := [.ref b6, .int r2]) rfl rfl rfl ⟨Nat.le_of_ble_eq_true rfl, Nat.le_of_ble_eq_true rfl, Nat.le_of_ble_eq_true rfl, Nat.le_of_ble_eq_true rfl⟩ (s_RM_at e10) ?_
  show Go k_RM_dataAt 15 [some (.ref a0), some (.int v1), some (.int v2)] [.int r8, .ref b6, .int r2] h9 _
  replace e := ck_as_e e
  obtain ⟨hc_11, e⟩ := e
  refine go_iald rfl hc_11 ?_
  refine go_iadd rfl ?_
  cases e
  exact go_ret rfl rfl
def f_RM_writeData_L152 (F : Nat)  : Nat → Nat → Int32 → Int32 → Int32 → Int32 → Int32 → ck_H → Option (Int32 × ck_H)
  | 0, _, _, _, _, _, _, _ => none
  | n + 1, a0, v1, v4, v7, v8, v9, h =>
    if v9 < v7 then
      ck_as (gk h a0 = 12) <|
      ck_some (gR h a0 0) fun b3 =>
      ck_some (gR h a0 17) fun b5 =>
      ck_as ((gk h b5 = 14 ∨ gk h b5 = 21) ∧ ¬ v1 < 0 ∧ (v1 : Int32).toNatClampNeg < gz h b5) <|
      if v9 < (gI h b5 (v1 : Int32).toNatClampNeg) then
        ck_some (gR h a0 14) fun b9 =>
        ck_some (gR h a0 16) fun b11 =>
        ck_as ((gk h b11 = 14 ∨ gk h b11 = 21) ∧ ¬ v1 < 0 ∧ (v1 : Int32).toNatClampNeg < gz h b11) <|
        ck_as ((gk h b9 = 13 ∨ gk h b9 = 15) ∧ ¬ ((gI h b11 (v1 : Int32).toNatClampNeg) + v9) < 0 ∧ ((gI h b11 (v1 : Int32).toNatClampNeg) + v9 : Int32).toNatClampNeg < gz h b9) <|
        ck_as (gk h b3 = 13 ∧ ¬ (v8 + v9) < 0 ∧ (v8 + v9 : Int32).toNatClampNeg < gz h b3) <|
        ck_then (wI h b3 (v8 + v9 : Int32).toNatClampNeg (gI h b9 ((gI h b11 (v1 : Int32).toNatClampNeg) + v9 : Int32).toNatClampNeg : Int32).toInt8.toInt32) fun h16 =>
        f_RM_writeData_L152 F n a0 v1 v4 v7 v8 (v9 + 1) h16
      else
        ck_as (gk h b3 = 13 ∧ ¬ (v8 + v9) < 0 ∧ (v8 + v9 : Int32).toNatClampNeg < gz h b3) <|
        ck_then (wI h b3 (v8 + v9 : Int32).toNatClampNeg (0 : Int32).toInt8.toInt32) fun h19 =>
        f_RM_writeData_L152 F n a0 v1 v4 v7 v8 (v9 + 1) h19
    else
      ck_as (gk h a0 = 12) <|
      ck_some (gR h a0 8) fun b22 =>
      ck_as (gk h b22 = 15 ∧ ((0 : Int32) = 0 ∨ (0 : Int32) = 1) ∧ ¬ v4 < 0 ∧ (v4 : Int32).toNatClampNeg < gz h b22) <|
      ck_then (wI h b22 (v4 : Int32).toNatClampNeg 0) fun h25 =>
      ck_some (gR h25 a0 17) fun b27 =>
      ck_as ((gk h25 b27 = 14 ∨ gk h25 b27 = 21) ∧ ¬ v1 < 0 ∧ (v1 : Int32).toNatClampNeg < gz h25 b27) <|
      ck_some (gR h25 a0 17) fun b30 =>
      ck_as ((gk h25 b30 = 14 ∨ gk h25 b30 = 21) ∧ ¬ v1 < 0 ∧ (v1 : Int32).toNatClampNeg < gz h25 b30) <|
      ck_bd (f_Ma_min F (gI h25 b30 (v1 : Int32).toNatClampNeg) v7 h25) fun r33 h34 =>
      ck_as (gk h34 a0 = 12) <|
      ck_then (wI h34 a0 23 ((gI h25 b27 (v1 : Int32).toNatClampNeg) - r33)) fun h37 =>
      ck_some (gR h37 a0 17) fun b39 =>
      ck_as ((gk h37 b39 = 14 ∨ gk h37 b39 = 21) ∧ ¬ v1 < 0 ∧ (v1 : Int32).toNatClampNeg < gz h37 b39) <|
      if (gI h37 b39 (v1 : Int32).toNatClampNeg) = v7 then
        some ((-1), h37)
      else
        ck_bd (f_RM_isAny F a0 v1 h37) fun r43 h44 =>
        if r43 = (0 : Int32) then
          some (3, h44)
        else
          some ((-1), h44)
set_option maxRecDepth 100000 in
set_option maxHeartbeats 4000000 in
theorem f_RM_writeData_L152_s (F : Nat)   : ∀ (n : Nat) (a0 : Nat) (v1 : Int32) (v4 : Int32) (v7 : Int32) (v8 : Int32) (v9 : Int32) (h : ck_H) (r : Int32) (h' : ck_H), f_RM_writeData_L152 F n a0 v1 v4 v7 v8 v9 h = some (r, h') → Go k_RM_writeData 152 [some (.ref a0), some (.int v1), none, none, some (.int v4), none, none, some (.int v7), some (.int v8), some (.int v9)] [] h (some (.int r), h') := by
  intro n
  induction n with
  | zero => intro a0 v1 v4 v7 v8 v9 h r h' e; simp only [f_RM_writeData_L152] at e; cases e
  | succ n ih =>
    intro a0 v1 v4 v7 v8 v9 h r h' e
    rw [f_RM_writeData_L152] at e
    refine go_iload rfl rfl ?_
    refine go_iload rfl rfl ?_
    refine go_icmp_ge (t := 204) rfl rfl (fun hx_1 => ?_) (fun hx_1 => ?_)
    · rw [if_pos hx_1] at e
      refine go_aload_n rfl rfl ?_
      replace e := ck_as_e e
      obtain ⟨hk_2, e⟩ := e
      replace e := ck_some_e e
      obtain ⟨b3, hq_4, e⟩ := e
      refine go_get (v := .ref b3) rfl rfl hk_2 (by decide) (by show va_rf (gR h a0 0) = _; rw [hq_4]; rfl) ?_
      refine go_iload rfl rfl ?_
      refine go_iload rfl rfl ?_
      refine go_iadd rfl ?_
      refine go_iload rfl rfl ?_
      refine go_aload_n rfl rfl ?_
      replace e := ck_some_e e
      obtain ⟨b5, hq_6, e⟩ := e
      refine go_get (v := .ref b5) rfl rfl hk_2 (by decide) (by show va_rf (gR h a0 17) = _; rw [hq_6]; rfl) ?_
      refine go_iload_n rfl rfl ?_
      replace e := ck_as_e e
      obtain ⟨hc_7, e⟩ := e
      refine go_iald rfl hc_7 ?_
      refine go_icmp_ge (t := 196) rfl rfl (fun hx_8 => ?_) (fun hx_8 => ?_)
      · rw [if_pos hx_8] at e
        refine go_aload_n rfl rfl ?_
        replace e := ck_some_e e
        obtain ⟨b9, hq_10, e⟩ := e
        refine go_get (v := .ref b9) rfl rfl hk_2 (by decide) (by show va_rf (gR h a0 14) = _; rw [hq_10]; rfl) ?_
        refine go_aload_n rfl rfl ?_
        replace e := ck_some_e e
        obtain ⟨b11, hq_12, e⟩ := e
        refine go_get (v := .ref b11) rfl rfl hk_2 (by decide) (by show va_rf (gR h a0 16) = _; rw [hq_12]; rfl) ?_
        refine go_iload_n rfl rfl ?_
        replace e := ck_as_e e
        obtain ⟨hc_13, e⟩ := e
        refine go_iald rfl hc_13 ?_
        refine go_iload rfl rfl ?_
        refine go_iadd rfl ?_
        replace e := ck_as_e e
        obtain ⟨hc_14, e⟩ := e
        refine go_bald rfl hc_14 ?_
        refine go_goto (t := 197) rfl rfl ?_
        replace e := ck_as_e e
        obtain ⟨hc_15, e⟩ := e
        refine go_bast rfl hc_15 ?_
        have hk_17 : gk (wI h b3 (v8 + v9 : Int32).toNatClampNeg (gI h b9 ((gI h b11 (v1 : Int32).toNatClampNeg) + v9 : Int32).toNatClampNeg : Int32).toInt8.toInt32) a0 = 12 := ck_kI.trans hk_2
        generalize wI h b3 (v8 + v9 : Int32).toNatClampNeg (gI h b9 ((gI h b11 (v1 : Int32).toNatClampNeg) + v9 : Int32).toNatClampNeg : Int32).toInt8.toInt32 = h16 at e hk_17 ⊢
        replace e := ck_then_e e
        refine go_iinc (v := 1) rfl rfl (by decide) rfl ?_
        show Go k_RM_writeData 201 [some (.ref a0), some (.int v1), none, none, some (.int v4), none, none, some (.int v7), some (.int v8), some (.int (v9 + 1))] [] h16 _
        refine go_goto (t := 152) rfl rfl ?_
        refine go_forget (l := [some (.ref a0), some (.int v1), none, none, some (.int v4), none, none, some (.int v7), some (.int v8), some (.int (v9 + 1))]) ⟨Or.inl rfl, Or.inl rfl, Or.inl rfl, Or.inl rfl, Or.inl rfl, Or.inl rfl, Or.inl rfl, Or.inl rfl, Or.inl rfl, Or.inl rfl, trivial⟩ ?_
        exact ih _ _ _ _ _ _ _ _ _ e
      · rw [if_neg hx_8] at e
        refine go_iconst (v := 0) rfl (by decide) ?_
        replace e := ck_as_e e
        obtain ⟨hc_18, e⟩ := e
        refine go_bast rfl hc_18 ?_
        have hk_20 : gk (wI h b3 (v8 + v9 : Int32).toNatClampNeg (0 : Int32).toInt8.toInt32) a0 = 12 := ck_kI.trans hk_2
        generalize wI h b3 (v8 + v9 : Int32).toNatClampNeg (0 : Int32).toInt8.toInt32 = h19 at e hk_20 ⊢
        replace e := ck_then_e e
        refine go_iinc (v := 1) rfl rfl (by decide) rfl ?_
        show Go k_RM_writeData 201 [some (.ref a0), some (.int v1), none, none, some (.int v4), none, none, some (.int v7), some (.int v8), some (.int (v9 + 1))] [] h19 _
        refine go_goto (t := 152) rfl rfl ?_
        refine go_forget (l := [some (.ref a0), some (.int v1), none, none, some (.int v4), none, none, some (.int v7), some (.int v8), some (.int (v9 + 1))]) ⟨Or.inl rfl, Or.inl rfl, Or.inl rfl, Or.inl rfl, Or.inl rfl, Or.inl rfl, Or.inl rfl, Or.inl rfl, Or.inl rfl, Or.inl rfl, trivial⟩ ?_
        exact ih _ _ _ _ _ _ _ _ _ e
    · rw [if_neg hx_1] at e
      refine go_aload_n rfl rfl ?_
      replace e := ck_as_e e
      obtain ⟨hk_21, e⟩ := e
      replace e := ck_some_e e
      obtain ⟨b22, hq_23, e⟩ := e
      refine go_get (v := .ref b22) rfl rfl hk_21 (by decide) (by show va_rf (gR h a0 8) = _; rw [hq_23]; rfl) ?_
      refine go_iload rfl rfl ?_
      refine go_iconst (v := 0) rfl (by decide) ?_
      replace e := ck_as_e e
      obtain ⟨hc_24, e⟩ := e
      refine go_zast rfl hc_24 ?_
      have hk_26 : gk (wI h b22 (v4 : Int32).toNatClampNeg 0) a0 = 12 := ck_kI.trans hk_21
      generalize wI h b22 (v4 : Int32).toNatClampNeg 0 = h25 at e hk_26 ⊢
      replace e := ck_then_e e
      refine go_aload_n rfl rfl ?_
      refine go_aload_n rfl rfl ?_
      replace e := ck_some_e e
      obtain ⟨b27, hq_28, e⟩ := e
      refine go_get (v := .ref b27) rfl rfl hk_26 (by decide) (by show va_rf (gR h25 a0 17) = _; rw [hq_28]; rfl) ?_
      refine go_iload_n rfl rfl ?_
      replace e := ck_as_e e
      obtain ⟨hc_29, e⟩ := e
      refine go_iald rfl hc_29 ?_
      refine go_aload_n rfl rfl ?_
      replace e := ck_some_e e
      obtain ⟨b30, hq_31, e⟩ := e
      refine go_get (v := .ref b30) rfl rfl hk_26 (by decide) (by show va_rf (gR h25 a0 17) = _; rw [hq_31]; rfl) ?_
      refine go_iload_n rfl rfl ?_
      replace e := ck_as_e e
      obtain ⟨hc_32, e⟩ := e
      refine go_iald rfl hc_32 ?_
      refine go_iload rfl rfl ?_
      replace e := ck_bd_e e
      obtain ⟨r33, h34, e35, e⟩ := e
      refine go_callS (As := [.int (gI h25 b30 (v1 : Int32).toNatClampNeg), .int v7]) (rest := [.int (gI h25 b27 (v1 : Int32).toNatClampNeg), .ref a0]) rfl rfl rfl ⟨Nat.le_of_ble_eq_true rfl, Nat.le_of_ble_eq_true rfl, Nat.le_of_ble_eq_true rfl, Nat.le_of_ble_eq_true rfl⟩ (s_Ma_min e35) ?_
      show Go k_RM_writeData 230 [some (.ref a0), some (.int v1), none, none, some (.int v4), none, none, some (.int v7), some (.int v8), some (.int v9)] [.int r33, .int (gI h25 b27 (v1 : Int32).toNatClampNeg), .ref a0] h34 _
      refine go_isub rfl ?_
      replace e := ck_as_e e
      obtain ⟨hk_36, e⟩ := e
      refine go_put (h1 := wI h34 a0 23 ((gI h25 b27 (v1 : Int32).toNatClampNeg) - r33)) rfl rfl hk_36 ⟨by decide, by decide, Or.inl rfl⟩ rfl ?_
      have hk_38 : gk (wI h34 a0 23 ((gI h25 b27 (v1 : Int32).toNatClampNeg) - r33)) a0 = 12 := ck_kI.trans hk_36
      generalize wI h34 a0 23 ((gI h25 b27 (v1 : Int32).toNatClampNeg) - r33) = h37 at e hk_38 ⊢
      replace e := ck_then_e e
      refine go_aload_n rfl rfl ?_
      replace e := ck_some_e e
      obtain ⟨b39, hq_40, e⟩ := e
      refine go_get (v := .ref b39) rfl rfl hk_38 (by decide) (by show va_rf (gR h37 a0 17) = _; rw [hq_40]; rfl) ?_
      refine go_iload_n rfl rfl ?_
      replace e := ck_as_e e
      obtain ⟨hc_41, e⟩ := e
      refine go_iald rfl hc_41 ?_
      refine go_iload rfl rfl ?_
      refine go_icmp_eq (t := 257) rfl rfl (fun hx_42 => ?_) (fun hx_42 => ?_)
      · rw [if_pos hx_42] at e
        refine go_iconst (v := (-1)) rfl (by decide) ?_
        cases e
        exact go_ret rfl rfl
      · rw [if_neg hx_42] at e
        refine go_aload_n rfl rfl ?_
        refine go_iload_n rfl rfl ?_
        replace e := ck_bd_e e
        obtain ⟨r43, h44, e45, e⟩ := e
        refine go_callV (As := [.int v1]) (b0 := a0) (rest := []) rfl rfl ⟨hk_38, by decide⟩ rfl ⟨Nat.le_of_ble_eq_true rfl, Nat.le_of_ble_eq_true rfl, Nat.le_of_ble_eq_true rfl, Nat.le_of_ble_eq_true rfl⟩ (s_RM_isAny e45) ?_
        show Go k_RM_writeData 250 [some (.ref a0), some (.int v1), none, none, some (.int v4), none, none, some (.int v7), some (.int v8), some (.int v9)] [.int r43] h44 _
        refine go_if_ne (t := 257) rfl rfl (fun hx_46 => ?_) (fun hx_46 => ?_)
        · rw [if_pos hx_46] at e
          refine go_iconst (v := 3) rfl (by decide) ?_
          refine go_goto (t := 258) rfl rfl ?_
          cases e
          exact go_ret rfl rfl
        · rw [if_neg hx_46] at e
          refine go_iconst (v := (-1)) rfl (by decide) ?_
          cases e
          exact go_ret rfl rfl
def f_RM_writeData_J125 (F : Nat)  (a0 : Nat) (v1 : Int32) (v2 : Int32) (v3 : Int32) (v4 : Int32) (v6 : Int32) (s0 : Int32) (h : ck_H) : Option (Int32 × ck_H) :=
  if v6 = (0 : Int32) then
    ck_as (gk h a0 = 12) <|
    ck_bd (f_RM_dataAt F a0 v2 v3 h) fun r3 h4 =>
    f_RM_writeData_L152 F F a0 v1 v4 s0 r3 0 h4
  else
    ck_as (gk h a0 = 12) <|
    ck_bd (f_RM_keyAt F a0 v2 v3 h) fun r48 h49 =>
    f_RM_writeData_L152 F F a0 v1 v4 s0 r48 0 h49
set_option maxRecDepth 100000 in
set_option maxHeartbeats 4000000 in
theorem f_RM_writeData_J125_s (F : Nat)   (a0 : Nat) (v1 : Int32) (v2 : Int32) (v3 : Int32) (v4 : Int32) (v6 : Int32) (s0 : Int32) (h : ck_H) (r : Int32) (h' : ck_H) (e : f_RM_writeData_J125 F  a0 v1 v2 v3 v4 v6 s0 h = some (r, h')) : Go k_RM_writeData 125 [some (.ref a0), some (.int v1), some (.int v2), some (.int v3), some (.int v4), none, some (.int v6), none, none, none] [.int s0] h (some (.int r), h') := by
  unfold f_RM_writeData_J125 at e
  refine go_istore rfl rfl ?_
  show Go k_RM_writeData 127 [some (.ref a0), some (.int v1), some (.int v2), some (.int v3), some (.int v4), none, some (.int v6), some (.int s0), none, none] [] h _
  refine go_iload rfl rfl ?_
  refine go_if_eq (t := 141) rfl rfl (fun hx_1 => ?_) (fun hx_1 => ?_)
  · rw [if_pos hx_1] at e
    refine go_aload_n rfl rfl ?_
    refine go_iload_n rfl rfl ?_
    refine go_iload_n rfl rfl ?_
    replace e := ck_as_e e
    obtain ⟨hk_2, e⟩ := e
    replace e := ck_bd_e e
    obtain ⟨r3, h4, e5, e⟩ := e
    refine go_callV (As := [.int v2, .int v3]) (b0 := a0) (rest := []) rfl rfl ⟨hk_2, by decide⟩ rfl ⟨Nat.le_of_ble_eq_true rfl, Nat.le_of_ble_eq_true rfl, Nat.le_of_ble_eq_true rfl, Nat.le_of_ble_eq_true rfl⟩ (s_RM_dataAt e5) ?_
    show Go k_RM_writeData 147 [some (.ref a0), some (.int v1), some (.int v2), some (.int v3), some (.int v4), none, some (.int v6), some (.int s0), none, none] [.int r3] h4 _
    refine go_istore rfl rfl ?_
    show Go k_RM_writeData 149 [some (.ref a0), some (.int v1), some (.int v2), some (.int v3), some (.int v4), none, some (.int v6), some (.int s0), some (.int r3), none] [] h4 _
    refine go_iconst (v := 0) rfl (by decide) ?_
    refine go_istore rfl rfl ?_
    show Go k_RM_writeData 152 [some (.ref a0), some (.int v1), some (.int v2), some (.int v3), some (.int v4), none, some (.int v6), some (.int s0), some (.int r3), some (.int 0)] [] h4 _
    refine go_forget (l := [some (.ref a0), some (.int v1), none, none, some (.int v4), none, none, some (.int s0), some (.int r3), some (.int 0)]) ⟨Or.inl rfl, Or.inl rfl, Or.inr ⟨rfl, fun _ q => by cases q; rfl⟩, Or.inr ⟨rfl, fun _ q => by cases q; rfl⟩, Or.inl rfl, Or.inl rfl, Or.inr ⟨rfl, fun _ q => by cases q; rfl⟩, Or.inl rfl, Or.inl rfl, Or.inl rfl, trivial⟩ ?_
    exact f_RM_writeData_L152_s F F _ _ _ _ _ _ _ _ _ e
  · rw [if_neg hx_1] at e
    refine go_aload_n rfl rfl ?_
    refine go_iload_n rfl rfl ?_
    refine go_iload_n rfl rfl ?_
    replace e := ck_as_e e
    obtain ⟨hk_47, e⟩ := e
    replace e := ck_bd_e e
    obtain ⟨r48, h49, e50, e⟩ := e
    refine go_callV (As := [.int v2, .int v3]) (b0 := a0) (rest := []) rfl rfl ⟨hk_47, by decide⟩ rfl ⟨Nat.le_of_ble_eq_true rfl, Nat.le_of_ble_eq_true rfl, Nat.le_of_ble_eq_true rfl, Nat.le_of_ble_eq_true rfl⟩ (s_RM_keyAt e50) ?_
    show Go k_RM_writeData 138 [some (.ref a0), some (.int v1), some (.int v2), some (.int v3), some (.int v4), none, some (.int v6), some (.int s0), none, none] [.int r48] h49 _
    refine go_goto (t := 147) rfl rfl ?_
    refine go_istore rfl rfl ?_
    show Go k_RM_writeData 149 [some (.ref a0), some (.int v1), some (.int v2), some (.int v3), some (.int v4), none, some (.int v6), some (.int s0), some (.int r48), none] [] h49 _
    refine go_iconst (v := 0) rfl (by decide) ?_
    refine go_istore rfl rfl ?_
    show Go k_RM_writeData 152 [some (.ref a0), some (.int v1), some (.int v2), some (.int v3), some (.int v4), none, some (.int v6), some (.int s0), some (.int r48), some (.int 0)] [] h49 _
    refine go_forget (l := [some (.ref a0), some (.int v1), none, none, some (.int v4), none, none, some (.int s0), some (.int r48), some (.int 0)]) ⟨Or.inl rfl, Or.inl rfl, Or.inr ⟨rfl, fun _ q => by cases q; rfl⟩, Or.inr ⟨rfl, fun _ q => by cases q; rfl⟩, Or.inl rfl, Or.inl rfl, Or.inr ⟨rfl, fun _ q => by cases q; rfl⟩, Or.inl rfl, Or.inl rfl, Or.inl rfl, trivial⟩ ?_
    exact f_RM_writeData_L152_s F F _ _ _ _ _ _ _ _ _ e
def f_RM_writeData_J74 (F : Nat)  (a0 : Nat) (v1 : Int32) (v2 : Int32) (v3 : Int32) (v4 : Int32) (v6 : Int32) (s0 : Int32) (s1 : Int64) (s2 : Nat) (h : ck_H) : Option (Int32 × ck_H) :=
  ck_as (gk h a0 = 12) <|
  ck_some (gR h a0 7) fun b2 =>
  ck_as ((gk h b2 = 14 ∨ gk h b2 = 21) ∧ ¬ v4 < 0 ∧ (v4 : Int32).toNatClampNeg < gz h b2) <|
  ck_as (gk h s2 = 12) <|
  ck_then (wJ h s2 21 (s1 + (((s0 + (gI h b2 (v4 : Int32).toNatClampNeg)) + 10 : Int32).toInt64))) fun h6 =>
  ck_then (wI h6 a0 28 0) fun h9 =>
  if v6 = (0 : Int32) then
    ck_some (gR h9 a0 7) fun b13 =>
    ck_as ((gk h9 b13 = 14 ∨ gk h9 b13 = 21) ∧ ¬ v4 < 0 ∧ (v4 : Int32).toNatClampNeg < gz h9 b13) <|
    f_RM_writeData_J125 F a0 v1 v2 v3 v4 v6 (gI h9 b13 (v4 : Int32).toNatClampNeg) h9
  else
    ck_some (gR h9 a0 6) fun b51 =>
    ck_as ((gk h9 b51 = 14 ∨ gk h9 b51 = 21) ∧ ¬ v4 < 0 ∧ (v4 : Int32).toNatClampNeg < gz h9 b51) <|
    ck_some (gR h9 a0 7) fun b54 =>
    ck_as ((gk h9 b54 = 14 ∨ gk h9 b54 = 21) ∧ ¬ v4 < 0 ∧ (v4 : Int32).toNatClampNeg < gz h9 b54) <|
    f_RM_writeData_J125 F a0 v1 v2 v3 v4 v6 ((gI h9 b51 (v4 : Int32).toNatClampNeg) + (gI h9 b54 (v4 : Int32).toNatClampNeg)) h9
set_option maxRecDepth 100000 in
set_option maxHeartbeats 4000000 in
theorem f_RM_writeData_J74_s (F : Nat)   (a0 : Nat) (v1 : Int32) (v2 : Int32) (v3 : Int32) (v4 : Int32) (v6 : Int32) (s0 : Int32) (s1 : Int64) (s2 : Nat) (h : ck_H) (r : Int32) (h' : ck_H) (e : f_RM_writeData_J74 F  a0 v1 v2 v3 v4 v6 s0 s1 s2 h = some (r, h')) : Go k_RM_writeData 74 [some (.ref a0), some (.int v1), some (.int v2), some (.int v3), some (.int v4), none, some (.int v6), none, none, none] [.int s0, .long s1, .ref s2] h (some (.int r), h') := by
  unfold f_RM_writeData_J74 at e
  refine go_aload_n rfl rfl ?_
  replace e := ck_as_e e
  obtain ⟨hk_1, e⟩ := e
  replace e := ck_some_e e
  obtain ⟨b2, hq_3, e⟩ := e
  refine go_get (v := .ref b2) rfl rfl hk_1 (by decide) (by show va_rf (gR h a0 7) = _; rw [hq_3]; rfl) ?_
  refine go_iload rfl rfl ?_
  replace e := ck_as_e e
  obtain ⟨hc_4, e⟩ := e
  refine go_iald rfl hc_4 ?_
  refine go_iadd rfl ?_
  refine go_bipush (v := 10) rfl (by decide) ?_
  refine go_iadd rfl ?_
  refine go_i2l rfl ?_
  refine go_ladd rfl ?_
  replace e := ck_as_e e
  obtain ⟨hk_5, e⟩ := e
  refine go_put (h1 := wJ h s2 21 (s1 + (((s0 + (gI h b2 (v4 : Int32).toNatClampNeg)) + 10 : Int32).toInt64))) rfl rfl hk_5 ⟨by decide, by decide, Or.inl rfl⟩ rfl ?_
  have hk_7 : gk (wJ h s2 21 (s1 + (((s0 + (gI h b2 (v4 : Int32).toNatClampNeg)) + 10 : Int32).toInt64))) a0 = 12 := ck_kJ.trans hk_1
  have hk_8 : gk (wJ h s2 21 (s1 + (((s0 + (gI h b2 (v4 : Int32).toNatClampNeg)) + 10 : Int32).toInt64))) s2 = 12 := ck_kJ.trans hk_5
  generalize wJ h s2 21 (s1 + (((s0 + (gI h b2 (v4 : Int32).toNatClampNeg)) + 10 : Int32).toInt64)) = h6 at e hk_7 hk_8 ⊢
  replace e := ck_then_e e
  refine go_aload_n rfl rfl ?_
  refine go_iconst (v := 0) rfl (by decide) ?_
  refine go_put (h1 := wI h6 a0 28 0) rfl rfl hk_7 ⟨by decide, by decide, Or.inl rfl⟩ rfl ?_
  have hk_10 : gk (wI h6 a0 28 0) a0 = 12 := ck_kI.trans hk_7
  have hk_11 : gk (wI h6 a0 28 0) s2 = 12 := ck_kI.trans hk_8
  generalize wI h6 a0 28 0 = h9 at e hk_10 hk_11 ⊢
  replace e := ck_then_e e
  refine go_iload rfl rfl ?_
  refine go_if_eq (t := 118) rfl rfl (fun hx_12 => ?_) (fun hx_12 => ?_)
  · rw [if_pos hx_12] at e
    refine go_aload_n rfl rfl ?_
    replace e := ck_some_e e
    obtain ⟨b13, hq_14, e⟩ := e
    refine go_get (v := .ref b13) rfl rfl hk_10 (by decide) (by show va_rf (gR h9 a0 7) = _; rw [hq_14]; rfl) ?_
    refine go_iload rfl rfl ?_
    replace e := ck_as_e e
    obtain ⟨hc_15, e⟩ := e
    refine go_iald rfl hc_15 ?_
    refine go_forget (l := [some (.ref a0), some (.int v1), some (.int v2), some (.int v3), some (.int v4), none, some (.int v6), none, none, none]) ⟨Or.inl rfl, Or.inl rfl, Or.inl rfl, Or.inl rfl, Or.inl rfl, Or.inl rfl, Or.inl rfl, Or.inl rfl, Or.inl rfl, Or.inl rfl, trivial⟩ ?_
    exact f_RM_writeData_J125_s F a0 v1 v2 v3 v4 v6 (gI h9 b13 (v4 : Int32).toNatClampNeg) _ _ _ e
  · rw [if_neg hx_12] at e
    refine go_aload_n rfl rfl ?_
    replace e := ck_some_e e
    obtain ⟨b51, hq_52, e⟩ := e
    refine go_get (v := .ref b51) rfl rfl hk_10 (by decide) (by show va_rf (gR h9 a0 6) = _; rw [hq_52]; rfl) ?_
    refine go_iload rfl rfl ?_
    replace e := ck_as_e e
    obtain ⟨hc_53, e⟩ := e
    refine go_iald rfl hc_53 ?_
    refine go_aload_n rfl rfl ?_
    replace e := ck_some_e e
    obtain ⟨b54, hq_55, e⟩ := e
    refine go_get (v := .ref b54) rfl rfl hk_10 (by decide) (by show va_rf (gR h9 a0 7) = _; rw [hq_55]; rfl) ?_
    refine go_iload rfl rfl ?_
    replace e := ck_as_e e
    obtain ⟨hc_56, e⟩ := e
    refine go_iald rfl hc_56 ?_
    refine go_iadd rfl ?_
    refine go_goto (t := 125) rfl rfl ?_
    refine go_forget (l := [some (.ref a0), some (.int v1), some (.int v2), some (.int v3), some (.int v4), none, some (.int v6), none, none, none]) ⟨Or.inl rfl, Or.inl rfl, Or.inl rfl, Or.inl rfl, Or.inl rfl, Or.inl rfl, Or.inl rfl, Or.inl rfl, Or.inl rfl, Or.inl rfl, trivial⟩ ?_
    exact f_RM_writeData_J125_s F a0 v1 v2 v3 v4 v6 ((gI h9 b51 (v4 : Int32).toNatClampNeg) + (gI h9 b54 (v4 : Int32).toNatClampNeg)) _ _ _ e
def f_RM_writeData_J48 (F : Nat)  (a0 : Nat) (v1 : Int32) (v2 : Int32) (v3 : Int32) (v4 : Int32) (v5 : Int32) (s0 : Int32) (h : ck_H) : Option (Int32 × ck_H) :=
  ck_as (gk h a0 = 12) <|
  if v5 = (0 : Int32) then
    ck_some (gR h a0 6) fun b3 =>
    ck_as ((gk h b3 = 14 ∨ gk h b3 = 21) ∧ ¬ v4 < 0 ∧ (v4 : Int32).toNatClampNeg < gz h b3) <|
    f_RM_writeData_J74 F a0 v1 v2 v3 v4 s0 (10 + (gI h b3 (v4 : Int32).toNatClampNeg)) (gJ h a0 21) a0 h
  else
    f_RM_writeData_J74 F a0 v1 v2 v3 v4 s0 0 (gJ h a0 21) a0 h
set_option maxRecDepth 100000 in
set_option maxHeartbeats 4000000 in
theorem f_RM_writeData_J48_s (F : Nat)   (a0 : Nat) (v1 : Int32) (v2 : Int32) (v3 : Int32) (v4 : Int32) (v5 : Int32) (s0 : Int32) (h : ck_H) (r : Int32) (h' : ck_H) (e : f_RM_writeData_J48 F  a0 v1 v2 v3 v4 v5 s0 h = some (r, h')) : Go k_RM_writeData 48 [some (.ref a0), some (.int v1), some (.int v2), some (.int v3), some (.int v4), some (.int v5), none, none, none, none] [.int s0] h (some (.int r), h') := by
  unfold f_RM_writeData_J48 at e
  refine go_istore rfl rfl ?_
  show Go k_RM_writeData 50 [some (.ref a0), some (.int v1), some (.int v2), some (.int v3), some (.int v4), some (.int v5), some (.int s0), none, none, none] [] h _
  refine go_aload_n rfl rfl ?_
  refine go_dup rfl rfl ?_
  replace e := ck_as_e e
  obtain ⟨hk_1, e⟩ := e
  refine go_get (v := .long (gJ h a0 21)) rfl rfl hk_1 (by decide) rfl ?_
  refine go_iload rfl rfl ?_
  refine go_if_eq (t := 64) rfl rfl (fun hx_2 => ?_) (fun hx_2 => ?_)
  · rw [if_pos hx_2] at e
    refine go_bipush (v := 10) rfl (by decide) ?_
    refine go_aload_n rfl rfl ?_
    replace e := ck_some_e e
    obtain ⟨b3, hq_4, e⟩ := e
    refine go_get (v := .ref b3) rfl rfl hk_1 (by decide) (by show va_rf (gR h a0 6) = _; rw [hq_4]; rfl) ?_
    refine go_iload rfl rfl ?_
    replace e := ck_as_e e
    obtain ⟨hc_5, e⟩ := e
    refine go_iald rfl hc_5 ?_
    refine go_iadd rfl ?_
    refine go_forget (l := [some (.ref a0), some (.int v1), some (.int v2), some (.int v3), some (.int v4), none, some (.int s0), none, none, none]) ⟨Or.inl rfl, Or.inl rfl, Or.inl rfl, Or.inl rfl, Or.inl rfl, Or.inr ⟨rfl, fun _ q => by cases q; rfl⟩, Or.inl rfl, Or.inl rfl, Or.inl rfl, Or.inl rfl, trivial⟩ ?_
    exact f_RM_writeData_J74_s F a0 v1 v2 v3 v4 s0 (10 + (gI h b3 (v4 : Int32).toNatClampNeg)) (gJ h a0 21) a0 _ _ _ e
  · rw [if_neg hx_2] at e
    refine go_iconst (v := 0) rfl (by decide) ?_
    refine go_goto (t := 74) rfl rfl ?_
    refine go_forget (l := [some (.ref a0), some (.int v1), some (.int v2), some (.int v3), some (.int v4), none, some (.int s0), none, none, none]) ⟨Or.inl rfl, Or.inl rfl, Or.inl rfl, Or.inl rfl, Or.inl rfl, Or.inr ⟨rfl, fun _ q => by cases q; rfl⟩, Or.inl rfl, Or.inl rfl, Or.inl rfl, Or.inl rfl, trivial⟩ ?_
    exact f_RM_writeData_J74_s F a0 v1 v2 v3 v4 s0 0 (gJ h a0 21) a0 _ _ _ e
def f_RM_writeData_J30 (F : Nat)  (a0 : Nat) (v1 : Int32) (v2 : Int32) (v3 : Int32) (v4 : Int32) (s0 : Int32) (h : ck_H) : Option (Int32 × ck_H) :=
  ck_as (gk h a0 = 12) <|
  ck_some (gR h a0 15) fun b2 =>
  ck_as ((gk h b2 = 14 ∨ gk h b2 = 21) ∧ ¬ v1 < 0 ∧ (v1 : Int32).toNatClampNeg < gz h b2) <|
  if (gI h b2 (v1 : Int32).toNatClampNeg) = (13 : Int32) then
    f_RM_writeData_J48 F a0 v1 v2 v3 v4 s0 1 h
  else
    f_RM_writeData_J48 F a0 v1 v2 v3 v4 s0 0 h
set_option maxRecDepth 100000 in
set_option maxHeartbeats 4000000 in
theorem f_RM_writeData_J30_s (F : Nat)   (a0 : Nat) (v1 : Int32) (v2 : Int32) (v3 : Int32) (v4 : Int32) (s0 : Int32) (h : ck_H) (r : Int32) (h' : ck_H) (e : f_RM_writeData_J30 F  a0 v1 v2 v3 v4 s0 h = some (r, h')) : Go k_RM_writeData 30 [some (.ref a0), some (.int v1), some (.int v2), some (.int v3), some (.int v4), none, none, none, none, none] [.int s0] h (some (.int r), h') := by
  unfold f_RM_writeData_J30 at e
  refine go_istore rfl rfl ?_
  show Go k_RM_writeData 32 [some (.ref a0), some (.int v1), some (.int v2), some (.int v3), some (.int v4), some (.int s0), none, none, none, none] [] h _
  refine go_aload_n rfl rfl ?_
  replace e := ck_as_e e
  obtain ⟨hk_1, e⟩ := e
  replace e := ck_some_e e
  obtain ⟨b2, hq_3, e⟩ := e
  refine go_get (v := .ref b2) rfl rfl hk_1 (by decide) (by show va_rf (gR h a0 15) = _; rw [hq_3]; rfl) ?_
  refine go_iload_n rfl rfl ?_
  replace e := ck_as_e e
  obtain ⟨hc_4, e⟩ := e
  refine go_iald rfl hc_4 ?_
  refine go_bipush (v := 13) rfl (by decide) ?_
  refine go_icmp_ne (t := 47) rfl rfl (fun hx_5 => ?_) (fun hx_5 => ?_)
  · rw [if_pos hx_5] at e
    refine go_iconst (v := 1) rfl (by decide) ?_
    refine go_goto (t := 48) rfl rfl ?_
    refine go_forget (l := [some (.ref a0), some (.int v1), some (.int v2), some (.int v3), some (.int v4), some (.int s0), none, none, none, none]) ⟨Or.inl rfl, Or.inl rfl, Or.inl rfl, Or.inl rfl, Or.inl rfl, Or.inl rfl, Or.inl rfl, Or.inl rfl, Or.inl rfl, Or.inl rfl, trivial⟩ ?_
    exact f_RM_writeData_J48_s F a0 v1 v2 v3 v4 s0 1 _ _ _ e
  · rw [if_neg hx_5] at e
    refine go_iconst (v := 0) rfl (by decide) ?_
    refine go_forget (l := [some (.ref a0), some (.int v1), some (.int v2), some (.int v3), some (.int v4), some (.int s0), none, none, none, none]) ⟨Or.inl rfl, Or.inl rfl, Or.inl rfl, Or.inl rfl, Or.inl rfl, Or.inl rfl, Or.inl rfl, Or.inl rfl, Or.inl rfl, Or.inl rfl, trivial⟩ ?_
    exact f_RM_writeData_J48_s F a0 v1 v2 v3 v4 s0 0 _ _ _ e
def f_RM_writeData (F : Nat) (a0 : Nat) (v1 : Int32) (h : ck_H) : Option (Int32 × ck_H) :=
  ck_as (gk h a0 = 12) <|
  ck_bd (f_RM_track F a0 h) fun r2 h3 =>
  ck_as (gk h3 a0 = 12) <|
  ck_then (gI h3 a0 29) fun x6 =>
  ck_bd (f_RM_at F r2 x6 h3) fun r7 h8 =>
  ck_as (gk h8 a0 = 12) <|
  if (gI h8 a0 28) = (3 : Int32) then
    f_RM_writeData_J30 F a0 v1 r2 x6 r7 1 h8
  else
    f_RM_writeData_J30 F a0 v1 r2 x6 r7 0 h8
set_option maxRecDepth 100000 in
set_option maxHeartbeats 4000000 in
theorem s_RM_writeData {F : Nat} {a0 : Nat} {v1 : Int32} {h h' : ck_H} {r : Int32} (e : f_RM_writeData F a0 v1 h = some (r, h')) : Go k_RM_writeData 0 (ck_in [.ref a0, .int v1] 10) [] h (some (.int r), h') := by
  unfold f_RM_writeData at e
  show Go k_RM_writeData 0 [some (.ref a0), some (.int v1), none, none, none, none, none, none, none, none] [] h _
  refine go_aload_n rfl rfl ?_
  replace e := ck_as_e e
  obtain ⟨hk_1, e⟩ := e
  replace e := ck_bd_e e
  obtain ⟨r2, h3, e4, e⟩ := e
  refine go_callV (As := []) (b0 := a0) (rest := []) rfl rfl ⟨hk_1, by decide⟩ rfl ⟨Nat.le_of_ble_eq_true rfl, Nat.le_of_ble_eq_true rfl, Nat.le_of_ble_eq_true rfl, Nat.le_of_ble_eq_true rfl⟩ (s_RM_track e4) ?_
  show Go k_RM_writeData 4 [some (.ref a0), some (.int v1), none, none, none, none, none, none, none, none] [.int r2] h3 _
  refine go_istore_n rfl rfl ?_
  show Go k_RM_writeData 5 [some (.ref a0), some (.int v1), some (.int r2), none, none, none, none, none, none, none] [] h3 _
  refine go_aload_n rfl rfl ?_
  replace e := ck_as_e e
  obtain ⟨hk_5, e⟩ := e
  refine go_get (v := .int (gI h3 a0 29)) rfl rfl hk_5 (by decide) rfl ?_
  generalize gI h3 a0 29 = x6 at e ⊢
  replace e := ck_then_e e
  refine go_istore_n rfl rfl ?_
  show Go k_RM_writeData 10 [some (.ref a0), some (.int v1), some (.int r2), some (.int x6), none, none, none, none, none, none] [] h3 _
  refine go_iload_n rfl rfl ?_
  refine go_iload_n rfl rfl ?_
  replace e := ck_bd_e e
  obtain ⟨r7, h8, e9, e⟩ := e
  refine go_callS (As := [.int r2, .int x6]) (rest := []) rfl rfl rfl ⟨Nat.le_of_ble_eq_true rfl, Nat.le_of_ble_eq_true rfl, Nat.le_of_ble_eq_true rfl, Nat.le_of_ble_eq_true rfl⟩ (s_RM_at e9) ?_
  show Go k_RM_writeData 15 [some (.ref a0), some (.int v1), some (.int r2), some (.int x6), none, none, none, none, none, none] [.int r7] h8 _
  refine go_istore rfl rfl ?_
  show Go k_RM_writeData 17 [some (.ref a0), some (.int v1), some (.int r2), some (.int x6), some (.int r7), none, none, none, none, none] [] h8 _
  refine go_aload_n rfl rfl ?_
  replace e := ck_as_e e
  obtain ⟨hk_10, e⟩ := e
  refine go_get (v := .int (gI h8 a0 28)) rfl rfl hk_10 (by decide) rfl ?_
  refine go_iconst (v := 3) rfl (by decide) ?_
  refine go_icmp_ne (t := 29) rfl rfl (fun hx_11 => ?_) (fun hx_11 => ?_)
  · rw [if_pos hx_11] at e
    refine go_iconst (v := 1) rfl (by decide) ?_
    refine go_goto (t := 30) rfl rfl ?_
    refine go_forget (l := [some (.ref a0), some (.int v1), some (.int r2), some (.int x6), some (.int r7), none, none, none, none, none]) ⟨Or.inl rfl, Or.inl rfl, Or.inl rfl, Or.inl rfl, Or.inl rfl, Or.inl rfl, Or.inl rfl, Or.inl rfl, Or.inl rfl, Or.inl rfl, trivial⟩ ?_
    exact f_RM_writeData_J30_s F a0 v1 r2 x6 r7 1 _ _ _ e
  · rw [if_neg hx_11] at e
    refine go_iconst (v := 0) rfl (by decide) ?_
    refine go_forget (l := [some (.ref a0), some (.int v1), some (.int r2), some (.int x6), some (.int r7), none, none, none, none, none]) ⟨Or.inl rfl, Or.inl rfl, Or.inl rfl, Or.inl rfl, Or.inl rfl, Or.inl rfl, Or.inl rfl, Or.inl rfl, Or.inl rfl, Or.inl rfl, trivial⟩ ?_
    exact f_RM_writeData_J30_s F a0 v1 r2 x6 r7 0 _ _ _ e
def f_RM_endOf (F : Nat) (a0 : Nat) (v1 : Int32) (v2 : Int32) (h : ck_H) : Option (Int32 × ck_H) :=
  ck_as (gk h a0 = 12) <|
  ck_some (gR h a0 2) fun b2 =>
  ck_bd (f_RM_at F v1 v2 h) fun r4 h5 =>
  ck_as ((gk h5 b2 = 14 ∨ gk h5 b2 = 21) ∧ ¬ r4 < 0 ∧ (r4 : Int32).toNatClampNeg < gz h5 b2) <|
  ck_as (gk h5 a0 = 12) <|
  ck_some (gR h5 a0 6) fun b9 =>
  ck_bd (f_RM_at F v1 v2 h5) fun r11 h12 =>
  ck_as ((gk h12 b9 = 14 ∨ gk h12 b9 = 21) ∧ ¬ r11 < 0 ∧ (r11 : Int32).toNatClampNeg < gz h12 b9) <|
  ck_as (gk h12 a0 = 12) <|
  ck_some (gR h12 a0 7) fun b16 =>
  ck_bd (f_RM_at F v1 v2 h12) fun r18 h19 =>
  ck_as ((gk h19 b16 = 14 ∨ gk h19 b16 = 21) ∧ ¬ r18 < 0 ∧ (r18 : Int32).toNatClampNeg < gz h19 b16) <|
  some ((((gI h5 b2 (r4 : Int32).toNatClampNeg) + 30) + (gI h12 b9 (r11 : Int32).toNatClampNeg)) + (gI h19 b16 (r18 : Int32).toNatClampNeg), h19)
set_option maxRecDepth 100000 in
set_option maxHeartbeats 4000000 in
theorem s_RM_endOf {F : Nat} {a0 : Nat} {v1 : Int32} {v2 : Int32} {h h' : ck_H} {r : Int32} (e : f_RM_endOf F a0 v1 v2 h = some (r, h')) : Go k_RM_endOf 0 (ck_in [.ref a0, .int v1, .int v2] 3) [] h (some (.int r), h') := by
  unfold f_RM_endOf at e
  show Go k_RM_endOf 0 [some (.ref a0), some (.int v1), some (.int v2)] [] h _
  refine go_aload_n rfl rfl ?_
  replace e := ck_as_e e
  obtain ⟨hk_1, e⟩ := e
  replace e := ck_some_e e
  obtain ⟨b2, hq_3, e⟩ := e
  refine go_get (v := .ref b2) rfl rfl hk_1 (by decide) (by show va_rf (gR h a0 2) = _; rw [hq_3]; rfl) ?_
  refine go_iload_n rfl rfl ?_
  refine go_iload_n rfl rfl ?_
  replace e := ck_bd_e e
  obtain ⟨r4, h5, e6, e⟩ := e
  refine go_callS (As := [.int v1, .int v2]) (rest := [.ref b2]) rfl rfl rfl ⟨Nat.le_of_ble_eq_true rfl, Nat.le_of_ble_eq_true rfl, Nat.le_of_ble_eq_true rfl, Nat.le_of_ble_eq_true rfl⟩ (s_RM_at e6) ?_
  show Go k_RM_endOf 9 [some (.ref a0), some (.int v1), some (.int v2)] [.int r4, .ref b2] h5 _
  replace e := ck_as_e e
  obtain ⟨hc_7, e⟩ := e
  refine go_iald rfl hc_7 ?_
  refine go_bipush (v := 30) rfl (by decide) ?_
  refine go_iadd rfl ?_
  refine go_aload_n rfl rfl ?_
  replace e := ck_as_e e
  obtain ⟨hk_8, e⟩ := e
  replace e := ck_some_e e
  obtain ⟨b9, hq_10, e⟩ := e
  refine go_get (v := .ref b9) rfl rfl hk_8 (by decide) (by show va_rf (gR h5 a0 6) = _; rw [hq_10]; rfl) ?_
  refine go_iload_n rfl rfl ?_
  refine go_iload_n rfl rfl ?_
  replace e := ck_bd_e e
  obtain ⟨r11, h12, e13, e⟩ := e
  refine go_callS (As := [.int v1, .int v2]) (rest := [.ref b9, .int ((gI h5 b2 (r4 : Int32).toNatClampNeg) + 30)]) rfl rfl rfl ⟨Nat.le_of_ble_eq_true rfl, Nat.le_of_ble_eq_true rfl, Nat.le_of_ble_eq_true rfl, Nat.le_of_ble_eq_true rfl⟩ (s_RM_at e13) ?_
  show Go k_RM_endOf 22 [some (.ref a0), some (.int v1), some (.int v2)] [.int r11, .ref b9, .int ((gI h5 b2 (r4 : Int32).toNatClampNeg) + 30)] h12 _
  replace e := ck_as_e e
  obtain ⟨hc_14, e⟩ := e
  refine go_iald rfl hc_14 ?_
  refine go_iadd rfl ?_
  refine go_aload_n rfl rfl ?_
  replace e := ck_as_e e
  obtain ⟨hk_15, e⟩ := e
  replace e := ck_some_e e
  obtain ⟨b16, hq_17, e⟩ := e
  refine go_get (v := .ref b16) rfl rfl hk_15 (by decide) (by show va_rf (gR h12 a0 7) = _; rw [hq_17]; rfl) ?_
  refine go_iload_n rfl rfl ?_
  refine go_iload_n rfl rfl ?_
  replace e := ck_bd_e e
  obtain ⟨r18, h19, e20, e⟩ := e
  refine go_callS (As := [.int v1, .int v2]) (rest := [.ref b16, .int (((gI h5 b2 (r4 : Int32).toNatClampNeg) + 30) + (gI h12 b9 (r11 : Int32).toNatClampNeg))]) rfl rfl rfl ⟨Nat.le_of_ble_eq_true rfl, Nat.le_of_ble_eq_true rfl, Nat.le_of_ble_eq_true rfl, Nat.le_of_ble_eq_true rfl⟩ (s_RM_at e20) ?_
  show Go k_RM_endOf 33 [some (.ref a0), some (.int v1), some (.int v2)] [.int r18, .ref b16, .int (((gI h5 b2 (r4 : Int32).toNatClampNeg) + 30) + (gI h12 b9 (r11 : Int32).toNatClampNeg))] h19 _
  replace e := ck_as_e e
  obtain ⟨hc_21, e⟩ := e
  refine go_iald rfl hc_21 ?_
  refine go_iadd rfl ?_
  cases e
  exact go_ret rfl rfl
def f_RM_lastEnd (F : Nat) (a0 : Nat) (v1 : Int32) (h : ck_H) : Option (Int32 × ck_H) :=
  ck_as (gk h a0 = 12) <|
  ck_some (gR h a0 1) fun b2 =>
  ck_as ((gk h b2 = 14 ∨ gk h b2 = 21) ∧ ¬ v1 < 0 ∧ (v1 : Int32).toNatClampNeg < gz h b2) <|
  if (gI h b2 (v1 : Int32).toNatClampNeg) = (0 : Int32) then
    some (30, h)
  else
    ck_some (gR h a0 1) fun b6 =>
    ck_as ((gk h b6 = 14 ∨ gk h b6 = 21) ∧ ¬ v1 < 0 ∧ (v1 : Int32).toNatClampNeg < gz h b6) <|
    ck_bd (f_RM_endOf F a0 v1 ((gI h b6 (v1 : Int32).toNatClampNeg) - 1) h) fun r9 h10 =>
    some (r9, h10)
set_option maxRecDepth 100000 in
set_option maxHeartbeats 4000000 in
theorem s_RM_lastEnd {F : Nat} {a0 : Nat} {v1 : Int32} {h h' : ck_H} {r : Int32} (e : f_RM_lastEnd F a0 v1 h = some (r, h')) : Go k_RM_lastEnd 0 (ck_in [.ref a0, .int v1] 2) [] h (some (.int r), h') := by
  unfold f_RM_lastEnd at e
  show Go k_RM_lastEnd 0 [some (.ref a0), some (.int v1)] [] h _
  refine go_aload_n rfl rfl ?_
  replace e := ck_as_e e
  obtain ⟨hk_1, e⟩ := e
  replace e := ck_some_e e
  obtain ⟨b2, hq_3, e⟩ := e
  refine go_get (v := .ref b2) rfl rfl hk_1 (by decide) (by show va_rf (gR h a0 1) = _; rw [hq_3]; rfl) ?_
  refine go_iload_n rfl rfl ?_
  replace e := ck_as_e e
  obtain ⟨hc_4, e⟩ := e
  refine go_iald rfl hc_4 ?_
  refine go_if_ne (t := 14) rfl rfl (fun hx_5 => ?_) (fun hx_5 => ?_)
  · rw [if_pos hx_5] at e
    refine go_bipush (v := 30) rfl (by decide) ?_
    refine go_goto (t := 27) rfl rfl ?_
    cases e
    exact go_ret rfl rfl
  · rw [if_neg hx_5] at e
    refine go_aload_n rfl rfl ?_
    refine go_iload_n rfl rfl ?_
    refine go_aload_n rfl rfl ?_
    replace e := ck_some_e e
    obtain ⟨b6, hq_7, e⟩ := e
    refine go_get (v := .ref b6) rfl rfl hk_1 (by decide) (by show va_rf (gR h a0 1) = _; rw [hq_7]; rfl) ?_
    refine go_iload_n rfl rfl ?_
    replace e := ck_as_e e
    obtain ⟨hc_8, e⟩ := e
    refine go_iald rfl hc_8 ?_
    refine go_iconst (v := 1) rfl (by decide) ?_
    refine go_isub rfl ?_
    replace e := ck_bd_e e
    obtain ⟨r9, h10, e11, e⟩ := e
    refine go_callV (As := [.int v1, .int ((gI h b6 (v1 : Int32).toNatClampNeg) - 1)]) (b0 := a0) (rest := []) rfl rfl ⟨hk_1, by decide⟩ rfl ⟨Nat.le_of_ble_eq_true rfl, Nat.le_of_ble_eq_true rfl, Nat.le_of_ble_eq_true rfl, Nat.le_of_ble_eq_true rfl⟩ (s_RM_endOf e11) ?_
    show Go k_RM_lastEnd 27 [some (.ref a0), some (.int v1)] [.int r9] h10 _
    cases e
    exact go_ret rfl rfl
