def f_RM_getWhole_J103 (F : Nat)  (a0 : Nat) (v1 : Int32) (v3 : Int32) (v4 : Int32) (h : ck_H) : Option (Int32 × ck_H) :=
  ck_as (gk h a0 = 12) <|
  ck_bd (f_RM_piece F a0 v1 v3 v4 h) fun _ h3 =>
  ck_as (gk h3 a0 = 12) <|
  ck_some (gR h3 a0 64) fun b6 =>
  ck_as (gk h3 b6 = 14 ∧ ¬ v1 < 0 ∧ (v1 : Int32).toNatClampNeg < gz h3 b6) <|
  ck_then (wI h3 b6 (v1 : Int32).toNatClampNeg (v3 + v4)) fun h9 =>
  ck_bd (f_RM_tell F a0 v1 h9) fun r11 h12 =>
  some (r11, h12)
set_option maxRecDepth 100000 in
set_option maxHeartbeats 4000000 in
theorem f_RM_getWhole_J103_s (F : Nat)   (a0 : Nat) (v1 : Int32) (v3 : Int32) (v4 : Int32) (h : ck_H) (r : Int32) (h' : ck_H) (e : f_RM_getWhole_J103 F  a0 v1 v3 v4 h = some (r, h')) : Go k_RM_getWhole 103 [some (.ref a0), some (.int v1), none, some (.int v3), some (.int v4)] [] h (some (.int r), h') := by
  unfold f_RM_getWhole_J103 at e
  refine go_aload_n rfl rfl ?_
  refine go_iload_n rfl rfl ?_
  refine go_iload_n rfl rfl ?_
  refine go_iload rfl rfl ?_
  replace e := ck_as_e e
  obtain ⟨hk_1, e⟩ := e
  replace e := ck_bd_e e
  obtain ⟨r2, h3, e4, e⟩ := e
  refine go_callV (As := [.int v1, .int v3, .int v4]) (b0 := a0) (rest := []) rfl rfl ⟨hk_1, by decide⟩ rfl ⟨Nat.le_of_ble_eq_true rfl, Nat.le_of_ble_eq_true rfl, Nat.le_of_ble_eq_true rfl, Nat.le_of_ble_eq_true rfl⟩ (s_RM_piece e4) ?_
  show Go k_RM_getWhole 111 [some (.ref a0), some (.int v1), none, some (.int v3), some (.int v4)] [] h3 _
  refine go_aload_n rfl rfl ?_
  replace e := ck_as_e e
  obtain ⟨hk_5, e⟩ := e
  replace e := ck_some_e e
  obtain ⟨b6, hq_7, e⟩ := e
  refine go_get (v := .ref b6) rfl rfl hk_5 (by decide) (by show va_rf (gR h3 a0 64) = _; rw [hq_7]; rfl) ?_
  refine go_iload_n rfl rfl ?_
  refine go_iload_n rfl rfl ?_
  refine go_iload rfl rfl ?_
  refine go_iadd rfl ?_
  replace e := ck_as_e e
  obtain ⟨hc_8, e⟩ := e
  refine go_iast rfl hc_8 ?_
  have hk_10 : gk (wI h3 b6 (v1 : Int32).toNatClampNeg (v3 + v4)) a0 = 12 := ck_kI.trans hk_5
  generalize wI h3 b6 (v1 : Int32).toNatClampNeg (v3 + v4) = h9 at e hk_10 ⊢
  replace e := ck_then_e e
  refine go_aload_n rfl rfl ?_
  refine go_iload_n rfl rfl ?_
  replace e := ck_bd_e e
  obtain ⟨r11, h12, e13, e⟩ := e
  refine go_callV (As := [.int v1]) (b0 := a0) (rest := []) rfl rfl ⟨hk_10, by decide⟩ rfl ⟨Nat.le_of_ble_eq_true rfl, Nat.le_of_ble_eq_true rfl, Nat.le_of_ble_eq_true rfl, Nat.le_of_ble_eq_true rfl⟩ (s_RM_tell e13) ?_
  show Go k_RM_getWhole 126 [some (.ref a0), some (.int v1), none, some (.int v3), some (.int v4)] [.int r11] h12 _
  cases e
  exact go_ret rfl rfl
def f_RM_getWhole_L7 (F : Nat)  : Nat → Nat → Int32 → Int32 → ck_H → Option (Int32 × ck_H)
  | 0, _, _, _, _ => none
  | n + 1, a0, v1, v2, h =>
    ck_as (gk h a0 = 12) <|
    ck_bd (f_RM_isThrough F a0 v1 h) fun r2 h3 =>
    if r2 = (0 : Int32) then
      ck_as (gk h3 a0 = 12) <|
      ck_some (gR h3 a0 72) fun b7 =>
      ck_as (gk h3 b7 = 14 ∧ ¬ v1 < 0 ∧ (v1 : Int32).toNatClampNeg < gz h3 b7) <|
      ck_then (wI h3 b7 (v1 : Int32).toNatClampNeg 0) fun h10 =>
      ck_some (gR h10 a0 64) fun b12 =>
      ck_as ((gk h10 b12 = 14 ∨ gk h10 b12 = 21) ∧ ¬ v1 < 0 ∧ (v1 : Int32).toNatClampNeg < gz h10 b12) <|
      ck_then (gI h10 b12 (v1 : Int32).toNatClampNeg) fun x15 =>
      ck_some (gR h10 a0 36) fun b16 =>
      ck_as ((gk h10 b16 = 14 ∨ gk h10 b16 = 21) ∧ ¬ v2 < 0 ∧ (v2 : Int32).toNatClampNeg < gz h10 b16) <|
      ck_then (gI h10 b16 (v2 : Int32).toNatClampNeg) fun x19 =>
      ck_some (gR h10 a0 35) fun b20 =>
      ck_as ((gk h10 b20 = 14 ∨ gk h10 b20 = 21) ∧ ¬ v2 < 0 ∧ (v2 : Int32).toNatClampNeg < gz h10 b20) <|
      if (gI h10 b20 (v2 : Int32).toNatClampNeg) = (1 : Int32) then
        ck_some (gR h10 a0 0) fun b24 =>
        ck_some (gR h10 a0 62) fun b26 =>
        ck_as ((gk h10 b26 = 14 ∨ gk h10 b26 = 21) ∧ ¬ v1 < 0 ∧ (v1 : Int32).toNatClampNeg < gz h10 b26) <|
        ck_some (gR h10 a0 63) fun b29 =>
        ck_as ((gk h10 b29 = 14 ∨ gk h10 b29 = 21) ∧ ¬ v1 < 0 ∧ (v1 : Int32).toNatClampNeg < gz h10 b29) <|
        ck_bd (f_RM_dataAt F a0 (gI h10 b26 (v1 : Int32).toNatClampNeg) (gI h10 b29 (v1 : Int32).toNatClampNeg) h10) fun r32 h33 =>
        ck_bd (f_RM_two F b24 (r32 + x15) h33) fun r35 h36 =>
        ck_then (r35 - 2) fun x38 =>
        f_RM_getWhole_J103 F a0 v1 (x15 + 2) x38 h36
      else
        f_RM_getWhole_J103 F a0 v1 x15 x19 h10
    else
      ck_as (gk h3 a0 = 12) <|
      ck_bd (f_RM_goOn F a0 v1 h3) fun r40 h41 =>
      if r40 = (0 : Int32) then
        some ((-1), h41)
      else
        if r40 = ((-6) : Int32) then
          some ((-6), h41)
        else
          f_RM_getWhole_L7 F n a0 v1 v2 h41
set_option maxRecDepth 100000 in
set_option maxHeartbeats 4000000 in
theorem f_RM_getWhole_L7_s (F : Nat)   : ∀ (n : Nat) (a0 : Nat) (v1 : Int32) (v2 : Int32) (h : ck_H) (r : Int32) (h' : ck_H), f_RM_getWhole_L7 F n a0 v1 v2 h = some (r, h') → Go k_RM_getWhole 7 [some (.ref a0), some (.int v1), some (.int v2), none, none] [] h (some (.int r), h') := by
  intro n
  induction n with
  | zero => intro a0 v1 v2 h r h' e; simp only [f_RM_getWhole_L7] at e; cases e
  | succ n ih =>
    intro a0 v1 v2 h r h' e
    rw [f_RM_getWhole_L7] at e
    refine go_aload_n rfl rfl ?_
    refine go_iload_n rfl rfl ?_
    replace e := ck_as_e e
    obtain ⟨hk_1, e⟩ := e
    replace e := ck_bd_e e
    obtain ⟨r2, h3, e4, e⟩ := e
    refine go_callV (As := [.int v1]) (b0 := a0) (rest := []) rfl rfl ⟨hk_1, by decide⟩ rfl ⟨Nat.le_of_ble_eq_true rfl, Nat.le_of_ble_eq_true rfl, Nat.le_of_ble_eq_true rfl, Nat.le_of_ble_eq_true rfl⟩ (s_RM_isThrough e4) ?_
    show Go k_RM_getWhole 12 [some (.ref a0), some (.int v1), some (.int v2), none, none] [.int r2] h3 _
    refine go_if_eq (t := 39) rfl rfl (fun hx_5 => ?_) (fun hx_5 => ?_)
    · rw [if_pos hx_5] at e
      refine go_aload_n rfl rfl ?_
      replace e := ck_as_e e
      obtain ⟨hk_6, e⟩ := e
      replace e := ck_some_e e
      obtain ⟨b7, hq_8, e⟩ := e
      refine go_get (v := .ref b7) rfl rfl hk_6 (by decide) (by show va_rf (gR h3 a0 72) = _; rw [hq_8]; rfl) ?_
      refine go_iload_n rfl rfl ?_
      refine go_iconst (v := 0) rfl (by decide) ?_
      replace e := ck_as_e e
      obtain ⟨hc_9, e⟩ := e
      refine go_iast rfl hc_9 ?_
      have hk_11 : gk (wI h3 b7 (v1 : Int32).toNatClampNeg 0) a0 = 12 := ck_kI.trans hk_6
      generalize wI h3 b7 (v1 : Int32).toNatClampNeg 0 = h10 at e hk_11 ⊢
      replace e := ck_then_e e
      refine go_aload_n rfl rfl ?_
      replace e := ck_some_e e
      obtain ⟨b12, hq_13, e⟩ := e
      refine go_get (v := .ref b12) rfl rfl hk_11 (by decide) (by show va_rf (gR h10 a0 64) = _; rw [hq_13]; rfl) ?_
      refine go_iload_n rfl rfl ?_
      replace e := ck_as_e e
      obtain ⟨hc_14, e⟩ := e
      refine go_iald rfl hc_14 ?_
      generalize gI h10 b12 (v1 : Int32).toNatClampNeg = x15 at e ⊢
      replace e := ck_then_e e
      refine go_istore_n rfl rfl ?_
      show Go k_RM_getWhole 53 [some (.ref a0), some (.int v1), some (.int v2), some (.int x15), none] [] h10 _
      refine go_aload_n rfl rfl ?_
      replace e := ck_some_e e
      obtain ⟨b16, hq_17, e⟩ := e
      refine go_get (v := .ref b16) rfl rfl hk_11 (by decide) (by show va_rf (gR h10 a0 36) = _; rw [hq_17]; rfl) ?_
      refine go_iload_n rfl rfl ?_
      replace e := ck_as_e e
      obtain ⟨hc_18, e⟩ := e
      refine go_iald rfl hc_18 ?_
      generalize gI h10 b16 (v2 : Int32).toNatClampNeg = x19 at e ⊢
      replace e := ck_then_e e
      refine go_istore rfl rfl ?_
      show Go k_RM_getWhole 61 [some (.ref a0), some (.int v1), some (.int v2), some (.int x15), some (.int x19)] [] h10 _
      refine go_aload_n rfl rfl ?_
      replace e := ck_some_e e
      obtain ⟨b20, hq_21, e⟩ := e
      refine go_get (v := .ref b20) rfl rfl hk_11 (by decide) (by show va_rf (gR h10 a0 35) = _; rw [hq_21]; rfl) ?_
      refine go_iload_n rfl rfl ?_
      replace e := ck_as_e e
      obtain ⟨hc_22, e⟩ := e
      refine go_iald rfl hc_22 ?_
      refine go_iconst (v := 1) rfl (by decide) ?_
      refine go_icmp_ne (t := 103) rfl rfl (fun hx_23 => ?_) (fun hx_23 => ?_)
      · rw [if_pos hx_23] at e
        refine go_aload_n rfl rfl ?_
        replace e := ck_some_e e
        obtain ⟨b24, hq_25, e⟩ := e
        refine go_get (v := .ref b24) rfl rfl hk_11 (by decide) (by show va_rf (gR h10 a0 0) = _; rw [hq_25]; rfl) ?_
        refine go_aload_n rfl rfl ?_
        refine go_aload_n rfl rfl ?_
        replace e := ck_some_e e
        obtain ⟨b26, hq_27, e⟩ := e
        refine go_get (v := .ref b26) rfl rfl hk_11 (by decide) (by show va_rf (gR h10 a0 62) = _; rw [hq_27]; rfl) ?_
        refine go_iload_n rfl rfl ?_
        replace e := ck_as_e e
        obtain ⟨hc_28, e⟩ := e
        refine go_iald rfl hc_28 ?_
        refine go_aload_n rfl rfl ?_
        replace e := ck_some_e e
        obtain ⟨b29, hq_30, e⟩ := e
        refine go_get (v := .ref b29) rfl rfl hk_11 (by decide) (by show va_rf (gR h10 a0 63) = _; rw [hq_30]; rfl) ?_
        refine go_iload_n rfl rfl ?_
        replace e := ck_as_e e
        obtain ⟨hc_31, e⟩ := e
        refine go_iald rfl hc_31 ?_
        replace e := ck_bd_e e
        obtain ⟨r32, h33, e34, e⟩ := e
        refine go_callV (As := [.int (gI h10 b26 (v1 : Int32).toNatClampNeg), .int (gI h10 b29 (v1 : Int32).toNatClampNeg)]) (b0 := a0) (rest := [.ref b24]) rfl rfl ⟨hk_11, by decide⟩ rfl ⟨Nat.le_of_ble_eq_true rfl, Nat.le_of_ble_eq_true rfl, Nat.le_of_ble_eq_true rfl, Nat.le_of_ble_eq_true rfl⟩ (s_RM_dataAt e34) ?_
        show Go k_RM_getWhole 91 [some (.ref a0), some (.int v1), some (.int v2), some (.int x15), some (.int x19)] [.int r32, .ref b24] h33 _
        refine go_iload_n rfl rfl ?_
        refine go_iadd rfl ?_
        replace e := ck_bd_e e
        obtain ⟨r35, h36, e37, e⟩ := e
        refine go_callS (As := [.ref b24, .int (r32 + x15)]) (rest := []) rfl rfl rfl ⟨Nat.le_of_ble_eq_true rfl, Nat.le_of_ble_eq_true rfl, Nat.le_of_ble_eq_true rfl, Nat.le_of_ble_eq_true rfl⟩ (s_RM_two e37) ?_
        show Go k_RM_getWhole 96 [some (.ref a0), some (.int v1), some (.int v2), some (.int x15), some (.int x19)] [.int r35] h36 _
        refine go_iconst (v := 2) rfl (by decide) ?_
        refine go_isub rfl ?_
        generalize r35 - 2 = x38 at e ⊢
        replace e := ck_then_e e
        refine go_istore rfl rfl ?_
        show Go k_RM_getWhole 100 [some (.ref a0), some (.int v1), some (.int v2), some (.int x15), some (.int x38)] [] h36 _
        refine go_iinc (v := 2) rfl rfl (by decide) rfl ?_
        show Go k_RM_getWhole 103 [some (.ref a0), some (.int v1), some (.int v2), some (.int (x15 + 2)), some (.int x38)] [] h36 _
        refine go_forget (l := [some (.ref a0), some (.int v1), none, some (.int (x15 + 2)), some (.int x38)]) ⟨Or.inl rfl, Or.inl rfl, Or.inr ⟨rfl, fun _ q => by cases q; rfl⟩, Or.inl rfl, Or.inl rfl, trivial⟩ ?_
        exact f_RM_getWhole_J103_s F a0 v1 (x15 + 2) x38 _ _ _ e
      · rw [if_neg hx_23] at e
        refine go_forget (l := [some (.ref a0), some (.int v1), none, some (.int x15), some (.int x19)]) ⟨Or.inl rfl, Or.inl rfl, Or.inr ⟨rfl, fun _ q => by cases q; rfl⟩, Or.inl rfl, Or.inl rfl, trivial⟩ ?_
        exact f_RM_getWhole_J103_s F a0 v1 x15 x19 _ _ _ e
    · rw [if_neg hx_5] at e
      refine go_aload_n rfl rfl ?_
      refine go_iload_n rfl rfl ?_
      replace e := ck_as_e e
      obtain ⟨hk_39, e⟩ := e
      replace e := ck_bd_e e
      obtain ⟨r40, h41, e42, e⟩ := e
      refine go_callV (As := [.int v1]) (b0 := a0) (rest := []) rfl rfl ⟨hk_39, by decide⟩ rfl ⟨Nat.le_of_ble_eq_true rfl, Nat.le_of_ble_eq_true rfl, Nat.le_of_ble_eq_true rfl, Nat.le_of_ble_eq_true rfl⟩ (s_RM_goOn e42) ?_
      show Go k_RM_getWhole 20 [some (.ref a0), some (.int v1), some (.int v2), none, none] [.int r40] h41 _
      refine go_istore_n rfl rfl ?_
      show Go k_RM_getWhole 21 [some (.ref a0), some (.int v1), some (.int v2), some (.int r40), none] [] h41 _
      refine go_iload_n rfl rfl ?_
      refine go_if_ne (t := 27) rfl rfl (fun hx_43 => ?_) (fun hx_43 => ?_)
      · rw [if_pos hx_43] at e
        refine go_iconst (v := (-1)) rfl (by decide) ?_
        cases e
        exact go_ret rfl rfl
      · rw [if_neg hx_43] at e
        refine go_iload_n rfl rfl ?_
        refine go_bipush (v := (-6)) rfl (by decide) ?_
        refine go_icmp_ne (t := 36) rfl rfl (fun hx_44 => ?_) (fun hx_44 => ?_)
        · rw [if_pos hx_44] at e
          refine go_bipush (v := (-6)) rfl (by decide) ?_
          cases e
          exact go_ret rfl rfl
        · rw [if_neg hx_44] at e
          refine go_goto (t := 7) rfl rfl ?_
          refine go_forget (l := [some (.ref a0), some (.int v1), some (.int v2), none, none]) ⟨Or.inl rfl, Or.inl rfl, Or.inl rfl, Or.inr ⟨rfl, fun _ q => by cases q; rfl⟩, Or.inl rfl, trivial⟩ ?_
          exact ih _ _ _ _ _ _ e
def f_RM_getWhole (F : Nat) (a0 : Nat) (v1 : Int32) (h : ck_H) : Option (Int32 × ck_H) :=
  ck_as (gk h a0 = 12) <|
  ck_some (gR h a0 50) fun b2 =>
  ck_as ((gk h b2 = 14 ∨ gk h b2 = 21) ∧ ¬ v1 < 0 ∧ (v1 : Int32).toNatClampNeg < gz h b2) <|
  ck_then (gI h b2 (v1 : Int32).toNatClampNeg) fun x5 =>
  f_RM_getWhole_L7 F F a0 v1 x5 h
set_option maxRecDepth 100000 in
set_option maxHeartbeats 4000000 in
theorem s_RM_getWhole {F : Nat} {a0 : Nat} {v1 : Int32} {h h' : ck_H} {r : Int32} (e : f_RM_getWhole F a0 v1 h = some (r, h')) : Go k_RM_getWhole 0 (ck_in [.ref a0, .int v1] 5) [] h (some (.int r), h') := by
  unfold f_RM_getWhole at e
  show Go k_RM_getWhole 0 [some (.ref a0), some (.int v1), none, none, none] [] h _
  refine go_aload_n rfl rfl ?_
  replace e := ck_as_e e
  obtain ⟨hk_1, e⟩ := e
  replace e := ck_some_e e
  obtain ⟨b2, hq_3, e⟩ := e
  refine go_get (v := .ref b2) rfl rfl hk_1 (by decide) (by show va_rf (gR h a0 50) = _; rw [hq_3]; rfl) ?_
  refine go_iload_n rfl rfl ?_
  replace e := ck_as_e e
  obtain ⟨hc_4, e⟩ := e
  refine go_iald rfl hc_4 ?_
  generalize gI h b2 (v1 : Int32).toNatClampNeg = x5 at e ⊢
  replace e := ck_then_e e
  refine go_istore_n rfl rfl ?_
  show Go k_RM_getWhole 7 [some (.ref a0), some (.int v1), some (.int x5), none, none] [] h _
  refine go_forget (l := [some (.ref a0), some (.int v1), some (.int x5), none, none]) ⟨Or.inl rfl, Or.inl rfl, Or.inl rfl, Or.inl rfl, Or.inl rfl, trivial⟩ ?_
  exact f_RM_getWhole_L7_s F F _ _ _ _ _ _ e
def f_RM_get_J60 (F : Nat)  (a0 : Nat) (v1 : Int32) (h : ck_H) : Option (Int32 × ck_H) :=
  ck_as (gk h a0 = 12) <|
  ck_some (gR h a0 67) fun b2 =>
  ck_as (gk h b2 = 15 ∧ ((0 : Int32) = 0 ∨ (0 : Int32) = 1) ∧ ¬ v1 < 0 ∧ (v1 : Int32).toNatClampNeg < gz h b2) <|
  ck_then (wI h b2 (v1 : Int32).toNatClampNeg 0) fun h5 =>
  ck_some (gR h5 a0 35) fun b7 =>
  ck_some (gR h5 a0 50) fun b9 =>
  ck_as ((gk h5 b9 = 14 ∨ gk h5 b9 = 21) ∧ ¬ v1 < 0 ∧ (v1 : Int32).toNatClampNeg < gz h5 b9) <|
  ck_as ((gk h5 b7 = 14 ∨ gk h5 b7 = 21) ∧ ¬ (gI h5 b9 (v1 : Int32).toNatClampNeg) < 0 ∧ (gI h5 b9 (v1 : Int32).toNatClampNeg : Int32).toNatClampNeg < gz h5 b7) <|
  if (gI h5 b7 (gI h5 b9 (v1 : Int32).toNatClampNeg : Int32).toNatClampNeg) = (2 : Int32) then
    ck_bd (f_RM_getSpanned F a0 v1 h5) fun r14 h15 =>
    some (r14, h15)
  else
    ck_bd (f_RM_getWhole F a0 v1 h5) fun r17 h18 =>
    some (r17, h18)
set_option maxRecDepth 100000 in
set_option maxHeartbeats 4000000 in
theorem f_RM_get_J60_s (F : Nat)   (a0 : Nat) (v1 : Int32) (h : ck_H) (r : Int32) (h' : ck_H) (e : f_RM_get_J60 F  a0 v1 h = some (r, h')) : Go k_RM_get 60 [some (.ref a0), some (.int v1)] [] h (some (.int r), h') := by
  unfold f_RM_get_J60 at e
  refine go_aload_n rfl rfl ?_
  replace e := ck_as_e e
  obtain ⟨hk_1, e⟩ := e
  replace e := ck_some_e e
  obtain ⟨b2, hq_3, e⟩ := e
  refine go_get (v := .ref b2) rfl rfl hk_1 (by decide) (by show va_rf (gR h a0 67) = _; rw [hq_3]; rfl) ?_
  refine go_iload_n rfl rfl ?_
  refine go_iconst (v := 0) rfl (by decide) ?_
  replace e := ck_as_e e
  obtain ⟨hc_4, e⟩ := e
  refine go_zast rfl hc_4 ?_
  have hk_6 : gk (wI h b2 (v1 : Int32).toNatClampNeg 0) a0 = 12 := ck_kI.trans hk_1
  generalize wI h b2 (v1 : Int32).toNatClampNeg 0 = h5 at e hk_6 ⊢
  replace e := ck_then_e e
  refine go_aload_n rfl rfl ?_
  replace e := ck_some_e e
  obtain ⟨b7, hq_8, e⟩ := e
  refine go_get (v := .ref b7) rfl rfl hk_6 (by decide) (by show va_rf (gR h5 a0 35) = _; rw [hq_8]; rfl) ?_
  refine go_aload_n rfl rfl ?_
  replace e := ck_some_e e
  obtain ⟨b9, hq_10, e⟩ := e
  refine go_get (v := .ref b9) rfl rfl hk_6 (by decide) (by show va_rf (gR h5 a0 50) = _; rw [hq_10]; rfl) ?_
  refine go_iload_n rfl rfl ?_
  replace e := ck_as_e e
  obtain ⟨hc_11, e⟩ := e
  refine go_iald rfl hc_11 ?_
  replace e := ck_as_e e
  obtain ⟨hc_12, e⟩ := e
  refine go_iald rfl hc_12 ?_
  refine go_iconst (v := 2) rfl (by decide) ?_
  refine go_icmp_ne (t := 90) rfl rfl (fun hx_13 => ?_) (fun hx_13 => ?_)
  · rw [if_pos hx_13] at e
    refine go_aload_n rfl rfl ?_
    refine go_iload_n rfl rfl ?_
    replace e := ck_bd_e e
    obtain ⟨r14, h15, e16, e⟩ := e
    refine go_callV (As := [.int v1]) (b0 := a0) (rest := []) rfl rfl ⟨hk_6, by decide⟩ rfl ⟨Nat.le_of_ble_eq_true rfl, Nat.le_of_ble_eq_true rfl, Nat.le_of_ble_eq_true rfl, Nat.le_of_ble_eq_true rfl⟩ (s_RM_getSpanned e16) ?_
    show Go k_RM_get 87 [some (.ref a0), some (.int v1)] [.int r14] h15 _
    refine go_goto (t := 95) rfl rfl ?_
    cases e
    exact go_ret rfl rfl
  · rw [if_neg hx_13] at e
    refine go_aload_n rfl rfl ?_
    refine go_iload_n rfl rfl ?_
    replace e := ck_bd_e e
    obtain ⟨r17, h18, e19, e⟩ := e
    refine go_callV (As := [.int v1]) (b0 := a0) (rest := []) rfl rfl ⟨hk_6, by decide⟩ rfl ⟨Nat.le_of_ble_eq_true rfl, Nat.le_of_ble_eq_true rfl, Nat.le_of_ble_eq_true rfl, Nat.le_of_ble_eq_true rfl⟩ (s_RM_getWhole e19) ?_
    show Go k_RM_get 95 [some (.ref a0), some (.int v1)] [.int r17] h18 _
    cases e
    exact go_ret rfl rfl
def f_RM_get (F : Nat) (a0 : Nat) (v1 : Int32) (h : ck_H) : Option (Int32 × ck_H) :=
  ck_as (gk h a0 = 12) <|
  ck_bd (f_RM_isHandle F a0 v1 h) fun r2 h3 =>
  if r2 = (0 : Int32) then
    some ((-3), h3)
  else
    ck_as (gk h3 a0 = 12) <|
    ck_some (gR h3 a0 51) fun b7 =>
    ck_as ((gk h3 b7 = 14 ∨ gk h3 b7 = 21) ∧ ¬ v1 < 0 ∧ (v1 : Int32).toNatClampNeg < gz h3 b7) <|
    if (gI h3 b7 (v1 : Int32).toNatClampNeg) = (1 : Int32) then
      some ((-3), h3)
    else
      ck_some (gR h3 a0 35) fun b11 =>
      ck_some (gR h3 a0 50) fun b13 =>
      ck_as ((gk h3 b13 = 14 ∨ gk h3 b13 = 21) ∧ ¬ v1 < 0 ∧ (v1 : Int32).toNatClampNeg < gz h3 b13) <|
      ck_as ((gk h3 b11 = 14 ∨ gk h3 b11 = 21) ∧ ¬ (gI h3 b13 (v1 : Int32).toNatClampNeg) < 0 ∧ (gI h3 b13 (v1 : Int32).toNatClampNeg : Int32).toNatClampNeg < gz h3 b11) <|
      if (gI h3 b11 (gI h3 b13 (v1 : Int32).toNatClampNeg : Int32).toNatClampNeg) = (3 : Int32) then
        some ((-3), h3)
      else
        ck_some (gR h3 a0 35) fun b18 =>
        ck_some (gR h3 a0 50) fun b20 =>
        ck_as ((gk h3 b20 = 14 ∨ gk h3 b20 = 21) ∧ ¬ v1 < 0 ∧ (v1 : Int32).toNatClampNeg < gz h3 b20) <|
        ck_as ((gk h3 b18 = 14 ∨ gk h3 b18 = 21) ∧ ¬ (gI h3 b20 (v1 : Int32).toNatClampNeg) < 0 ∧ (gI h3 b20 (v1 : Int32).toNatClampNeg : Int32).toNatClampNeg < gz h3 b18) <|
        if (gI h3 b18 (gI h3 b20 (v1 : Int32).toNatClampNeg : Int32).toNatClampNeg) = (4 : Int32) then
          ck_some (gR h3 a0 66) fun b25 =>
          ck_as ((gk h3 b25 = 13 ∨ gk h3 b25 = 15) ∧ ¬ v1 < 0 ∧ (v1 : Int32).toNatClampNeg < gz h3 b25) <|
          if (gI h3 b25 (v1 : Int32).toNatClampNeg) = (0 : Int32) then
            some ((-3), h3)
          else
            f_RM_get_J60 F a0 v1 h3
        else
          f_RM_get_J60 F a0 v1 h3
set_option maxRecDepth 100000 in
set_option maxHeartbeats 4000000 in
theorem s_RM_get {F : Nat} {a0 : Nat} {v1 : Int32} {h h' : ck_H} {r : Int32} (e : f_RM_get F a0 v1 h = some (r, h')) : Go k_RM_get 0 (ck_in [.ref a0, .int v1] 2) [] h (some (.int r), h') := by
  unfold f_RM_get at e
  show Go k_RM_get 0 [some (.ref a0), some (.int v1)] [] h _
  refine go_aload_n rfl rfl ?_
  refine go_iload_n rfl rfl ?_
  replace e := ck_as_e e
  obtain ⟨hk_1, e⟩ := e
  replace e := ck_bd_e e
  obtain ⟨r2, h3, e4, e⟩ := e
  refine go_callV (As := [.int v1]) (b0 := a0) (rest := []) rfl rfl ⟨hk_1, by decide⟩ rfl ⟨Nat.le_of_ble_eq_true rfl, Nat.le_of_ble_eq_true rfl, Nat.le_of_ble_eq_true rfl, Nat.le_of_ble_eq_true rfl⟩ (s_RM_isHandle e4) ?_
  show Go k_RM_get 5 [some (.ref a0), some (.int v1)] [.int r2] h3 _
  refine go_if_eq (t := 57) rfl rfl (fun hx_5 => ?_) (fun hx_5 => ?_)
  · rw [if_pos hx_5] at e
    refine go_bipush (v := (-3)) rfl (by decide) ?_
    cases e
    exact go_ret rfl rfl
  · rw [if_neg hx_5] at e
    refine go_aload_n rfl rfl ?_
    replace e := ck_as_e e
    obtain ⟨hk_6, e⟩ := e
    replace e := ck_some_e e
    obtain ⟨b7, hq_8, e⟩ := e
    refine go_get (v := .ref b7) rfl rfl hk_6 (by decide) (by show va_rf (gR h3 a0 51) = _; rw [hq_8]; rfl) ?_
    refine go_iload_n rfl rfl ?_
    replace e := ck_as_e e
    obtain ⟨hc_9, e⟩ := e
    refine go_iald rfl hc_9 ?_
    refine go_iconst (v := 1) rfl (by decide) ?_
    refine go_icmp_eq (t := 57) rfl rfl (fun hx_10 => ?_) (fun hx_10 => ?_)
    · rw [if_pos hx_10] at e
      refine go_bipush (v := (-3)) rfl (by decide) ?_
      cases e
      exact go_ret rfl rfl
    · rw [if_neg hx_10] at e
      refine go_aload_n rfl rfl ?_
      replace e := ck_some_e e
      obtain ⟨b11, hq_12, e⟩ := e
      refine go_get (v := .ref b11) rfl rfl hk_6 (by decide) (by show va_rf (gR h3 a0 35) = _; rw [hq_12]; rfl) ?_
      refine go_aload_n rfl rfl ?_
      replace e := ck_some_e e
      obtain ⟨b13, hq_14, e⟩ := e
      refine go_get (v := .ref b13) rfl rfl hk_6 (by decide) (by show va_rf (gR h3 a0 50) = _; rw [hq_14]; rfl) ?_
      refine go_iload_n rfl rfl ?_
      replace e := ck_as_e e
      obtain ⟨hc_15, e⟩ := e
      refine go_iald rfl hc_15 ?_
      replace e := ck_as_e e
      obtain ⟨hc_16, e⟩ := e
      refine go_iald rfl hc_16 ?_
      refine go_iconst (v := 3) rfl (by decide) ?_
      refine go_icmp_eq (t := 57) rfl rfl (fun hx_17 => ?_) (fun hx_17 => ?_)
      · rw [if_pos hx_17] at e
        refine go_bipush (v := (-3)) rfl (by decide) ?_
        cases e
        exact go_ret rfl rfl
      · rw [if_neg hx_17] at e
        refine go_aload_n rfl rfl ?_
        replace e := ck_some_e e
        obtain ⟨b18, hq_19, e⟩ := e
        refine go_get (v := .ref b18) rfl rfl hk_6 (by decide) (by show va_rf (gR h3 a0 35) = _; rw [hq_19]; rfl) ?_
        refine go_aload_n rfl rfl ?_
        replace e := ck_some_e e
        obtain ⟨b20, hq_21, e⟩ := e
        refine go_get (v := .ref b20) rfl rfl hk_6 (by decide) (by show va_rf (gR h3 a0 50) = _; rw [hq_21]; rfl) ?_
        refine go_iload_n rfl rfl ?_
        replace e := ck_as_e e
        obtain ⟨hc_22, e⟩ := e
        refine go_iald rfl hc_22 ?_
        replace e := ck_as_e e
        obtain ⟨hc_23, e⟩ := e
        refine go_iald rfl hc_23 ?_
        refine go_iconst (v := 4) rfl (by decide) ?_
        refine go_icmp_ne (t := 60) rfl rfl (fun hx_24 => ?_) (fun hx_24 => ?_)
        · rw [if_pos hx_24] at e
          refine go_aload_n rfl rfl ?_
          replace e := ck_some_e e
          obtain ⟨b25, hq_26, e⟩ := e
          refine go_get (v := .ref b25) rfl rfl hk_6 (by decide) (by show va_rf (gR h3 a0 66) = _; rw [hq_26]; rfl) ?_
          refine go_iload_n rfl rfl ?_
          replace e := ck_as_e e
          obtain ⟨hc_27, e⟩ := e
          refine go_bald rfl hc_27 ?_
          refine go_if_ne (t := 60) rfl rfl (fun hx_28 => ?_) (fun hx_28 => ?_)
          · rw [if_pos hx_28] at e
            refine go_bipush (v := (-3)) rfl (by decide) ?_
            cases e
            exact go_ret rfl rfl
          · rw [if_neg hx_28] at e
            refine go_forget (l := [some (.ref a0), some (.int v1)]) ⟨Or.inl rfl, Or.inl rfl, trivial⟩ ?_
            exact f_RM_get_J60_s F a0 v1 _ _ _ e
        · rw [if_neg hx_24] at e
          refine go_forget (l := [some (.ref a0), some (.int v1)]) ⟨Or.inl rfl, Or.inl rfl, trivial⟩ ?_
          exact f_RM_get_J60_s F a0 v1 _ _ _ e
def f_RM_rewrite_L143 (F : Nat) (k95 : Nat → Int32 → Int32 → Int32 → ck_H → Option (Int32 × ck_H)) : Nat → Nat → Int32 → Int32 → Int32 → Int32 → Int32 → ck_H → Option (Int32 × ck_H)
  | 0, _, _, _, _, _, _, _ => none
  | n + 1, a0, v1, v4, v5, v6, v7, h =>
    ck_as (gk h a0 = 12) <|
    ck_some (gR h a0 71) fun b2 =>
    ck_as ((gk h b2 = 14 ∨ gk h b2 = 21) ∧ ¬ v5 < 0 ∧ (v5 : Int32).toNatClampNeg < gz h b2) <|
    if v7 < (gI h b2 (v5 : Int32).toNatClampNeg) then
      ck_some (gR h a0 0) fun b6 =>
      ck_some (gR h a0 9) fun b8 =>
      ck_as ((gk h b8 = 13 ∨ gk h b8 = 15) ∧ ¬ (v4 + v7) < 0 ∧ (v4 + v7 : Int32).toNatClampNeg < gz h b8) <|
      ck_as (gk h b6 = 13 ∧ ¬ (v6 + v7) < 0 ∧ (v6 + v7 : Int32).toNatClampNeg < gz h b6) <|
      ck_then (wI h b6 (v6 + v7 : Int32).toNatClampNeg (gI h b8 (v4 + v7 : Int32).toNatClampNeg : Int32).toInt8.toInt32) fun h12 =>
      f_RM_rewrite_L143 F k95 n a0 v1 v4 v5 v6 (v7 + 1) h12
    else
      ck_some (gR h a0 8) fun b14 =>
      ck_some (gR h a0 68) fun b16 =>
      ck_as ((gk h b16 = 14 ∨ gk h b16 = 21) ∧ ¬ v5 < 0 ∧ (v5 : Int32).toNatClampNeg < gz h b16) <|
      ck_some (gR h a0 69) fun b19 =>
      ck_as ((gk h b19 = 14 ∨ gk h b19 = 21) ∧ ¬ v5 < 0 ∧ (v5 : Int32).toNatClampNeg < gz h b19) <|
      ck_bd (f_RM_at F (gI h b16 (v5 : Int32).toNatClampNeg) (gI h b19 (v5 : Int32).toNatClampNeg) h) fun r22 h23 =>
      ck_as (gk h23 b14 = 15 ∧ ((0 : Int32) = 0 ∨ (0 : Int32) = 1) ∧ ¬ r22 < 0 ∧ (r22 : Int32).toNatClampNeg < gz h23 b14) <|
      ck_then (wI h23 b14 (r22 : Int32).toNatClampNeg 0) fun h26 =>
      ck_as (gk h26 a0 = 12) <|
      ck_some (gR h26 a0 71) fun b28 =>
      ck_as ((gk h26 b28 = 14 ∨ gk h26 b28 = 21) ∧ ¬ v5 < 0 ∧ (v5 : Int32).toNatClampNeg < gz h26 b28) <|
      ck_then (v4 + (gI h26 b28 (v5 : Int32).toNatClampNeg)) fun x31 =>
      k95 a0 v1 x31 (v5 + 1) h26
set_option maxRecDepth 100000 in
set_option maxHeartbeats 4000000 in
theorem f_RM_rewrite_L143_s (F : Nat) (k95 : Nat → Int32 → Int32 → Int32 → ck_H → Option (Int32 × ck_H)) (hk95 : ∀ (a0 : Nat) (v1 : Int32) (v4 : Int32) (v5 : Int32) (h : ck_H) (r : Int32) (h' : ck_H), k95 a0 v1 v4 v5 h = some (r, h') → Go k_RM_rewrite 95 [some (.ref a0), some (.int v1), none, none, some (.int v4), some (.int v5), none, none] [] h (some (.int r), h')) : ∀ (n : Nat) (a0 : Nat) (v1 : Int32) (v4 : Int32) (v5 : Int32) (v6 : Int32) (v7 : Int32) (h : ck_H) (r : Int32) (h' : ck_H), f_RM_rewrite_L143 F k95 n a0 v1 v4 v5 v6 v7 h = some (r, h') → Go k_RM_rewrite 143 [some (.ref a0), some (.int v1), none, none, some (.int v4), some (.int v5), some (.int v6), some (.int v7)] [] h (some (.int r), h') := by
  intro n
  induction n with
  | zero => intro a0 v1 v4 v5 v6 v7 h r h' e; simp only [f_RM_rewrite_L143] at e; cases e
  | succ n ih =>
    intro a0 v1 v4 v5 v6 v7 h r h' e
    rw [f_RM_rewrite_L143] at e
    refine go_iload rfl rfl ?_
    refine go_aload_n rfl rfl ?_
    replace e := ck_as_e e
    obtain ⟨hk_1, e⟩ := e
    replace e := ck_some_e e
    obtain ⟨b2, hq_3, e⟩ := e
    refine go_get (v := .ref b2) rfl rfl hk_1 (by decide) (by show va_rf (gR h a0 71) = _; rw [hq_3]; rfl) ?_
    refine go_iload rfl rfl ?_
    replace e := ck_as_e e
    obtain ⟨hc_4, e⟩ := e
    refine go_iald rfl hc_4 ?_
    refine go_icmp_ge (t := 181) rfl rfl (fun hx_5 => ?_) (fun hx_5 => ?_)
    · rw [if_pos hx_5] at e
      refine go_aload_n rfl rfl ?_
      replace e := ck_some_e e
      obtain ⟨b6, hq_7, e⟩ := e
      refine go_get (v := .ref b6) rfl rfl hk_1 (by decide) (by show va_rf (gR h a0 0) = _; rw [hq_7]; rfl) ?_
      refine go_iload rfl rfl ?_
      refine go_iload rfl rfl ?_
      refine go_iadd rfl ?_
      refine go_aload_n rfl rfl ?_
      replace e := ck_some_e e
      obtain ⟨b8, hq_9, e⟩ := e
      refine go_get (v := .ref b8) rfl rfl hk_1 (by decide) (by show va_rf (gR h a0 9) = _; rw [hq_9]; rfl) ?_
      refine go_iload rfl rfl ?_
      refine go_iload rfl rfl ?_
      refine go_iadd rfl ?_
      replace e := ck_as_e e
      obtain ⟨hc_10, e⟩ := e
      refine go_bald rfl hc_10 ?_
      replace e := ck_as_e e
      obtain ⟨hc_11, e⟩ := e
      refine go_bast rfl hc_11 ?_
      have hk_13 : gk (wI h b6 (v6 + v7 : Int32).toNatClampNeg (gI h b8 (v4 + v7 : Int32).toNatClampNeg : Int32).toInt8.toInt32) a0 = 12 := ck_kI.trans hk_1
      generalize wI h b6 (v6 + v7 : Int32).toNatClampNeg (gI h b8 (v4 + v7 : Int32).toNatClampNeg : Int32).toInt8.toInt32 = h12 at e hk_13 ⊢
      replace e := ck_then_e e
      refine go_iinc (v := 1) rfl rfl (by decide) rfl ?_
      show Go k_RM_rewrite 178 [some (.ref a0), some (.int v1), none, none, some (.int v4), some (.int v5), some (.int v6), some (.int (v7 + 1))] [] h12 _
      refine go_goto (t := 143) rfl rfl ?_
      refine go_forget (l := [some (.ref a0), some (.int v1), none, none, some (.int v4), some (.int v5), some (.int v6), some (.int (v7 + 1))]) ⟨Or.inl rfl, Or.inl rfl, Or.inl rfl, Or.inl rfl, Or.inl rfl, Or.inl rfl, Or.inl rfl, Or.inl rfl, trivial⟩ ?_
      exact ih _ _ _ _ _ _ _ _ _ e
    · rw [if_neg hx_5] at e
      refine go_aload_n rfl rfl ?_
      replace e := ck_some_e e
      obtain ⟨b14, hq_15, e⟩ := e
      refine go_get (v := .ref b14) rfl rfl hk_1 (by decide) (by show va_rf (gR h a0 8) = _; rw [hq_15]; rfl) ?_
      refine go_aload_n rfl rfl ?_
      replace e := ck_some_e e
      obtain ⟨b16, hq_17, e⟩ := e
      refine go_get (v := .ref b16) rfl rfl hk_1 (by decide) (by show va_rf (gR h a0 68) = _; rw [hq_17]; rfl) ?_
      refine go_iload rfl rfl ?_
      replace e := ck_as_e e
      obtain ⟨hc_18, e⟩ := e
      refine go_iald rfl hc_18 ?_
      refine go_aload_n rfl rfl ?_
      replace e := ck_some_e e
      obtain ⟨b19, hq_20, e⟩ := e
      refine go_get (v := .ref b19) rfl rfl hk_1 (by decide) (by show va_rf (gR h a0 69) = _; rw [hq_20]; rfl) ?_
      refine go_iload rfl rfl ?_
      replace e := ck_as_e e
      obtain ⟨hc_21, e⟩ := e
      refine go_iald rfl hc_21 ?_
      replace e := ck_bd_e e
      obtain ⟨r22, h23, e24, e⟩ := e
      refine go_callS (As := [.int (gI h b16 (v5 : Int32).toNatClampNeg), .int (gI h b19 (v5 : Int32).toNatClampNeg)]) (rest := [.ref b14]) rfl rfl rfl ⟨Nat.le_of_ble_eq_true rfl, Nat.le_of_ble_eq_true rfl, Nat.le_of_ble_eq_true rfl, Nat.le_of_ble_eq_true rfl⟩ (s_RM_at e24) ?_
      show Go k_RM_rewrite 202 [some (.ref a0), some (.int v1), none, none, some (.int v4), some (.int v5), some (.int v6), some (.int v7)] [.int r22, .ref b14] h23 _
      refine go_iconst (v := 0) rfl (by decide) ?_
      replace e := ck_as_e e
      obtain ⟨hc_25, e⟩ := e
      refine go_zast rfl hc_25 ?_
      generalize wI h23 b14 (r22 : Int32).toNatClampNeg 0 = h26 at e  ⊢
      replace e := ck_then_e e
      refine go_iload rfl rfl ?_
      refine go_aload_n rfl rfl ?_
      replace e := ck_as_e e
      obtain ⟨hk_27, e⟩ := e
      replace e := ck_some_e e
      obtain ⟨b28, hq_29, e⟩ := e
      refine go_get (v := .ref b28) rfl rfl hk_27 (by decide) (by show va_rf (gR h26 a0 71) = _; rw [hq_29]; rfl) ?_
      refine go_iload rfl rfl ?_
      replace e := ck_as_e e
      obtain ⟨hc_30, e⟩ := e
      refine go_iald rfl hc_30 ?_
      refine go_iadd rfl ?_
      generalize v4 + (gI h26 b28 (v5 : Int32).toNatClampNeg) = x31 at e ⊢
      replace e := ck_then_e e
      refine go_istore rfl rfl ?_
      show Go k_RM_rewrite 216 [some (.ref a0), some (.int v1), none, none, some (.int x31), some (.int v5), some (.int v6), some (.int v7)] [] h26 _
      refine go_iinc (v := 1) rfl rfl (by decide) rfl ?_
      show Go k_RM_rewrite 219 [some (.ref a0), some (.int v1), none, none, some (.int x31), some (.int (v5 + 1)), some (.int v6), some (.int v7)] [] h26 _
      refine go_goto (t := 95) rfl rfl ?_
      refine go_forget (l := [some (.ref a0), some (.int v1), none, none, some (.int x31), some (.int (v5 + 1)), none, none]) ⟨Or.inl rfl, Or.inl rfl, Or.inl rfl, Or.inl rfl, Or.inl rfl, Or.inl rfl, Or.inr ⟨rfl, fun _ q => by cases q; rfl⟩, Or.inr ⟨rfl, fun _ q => by cases q; rfl⟩, trivial⟩ ?_
      exact hk95 _ _ _ _ _ _ _ e
def f_RM_rewrite_L95 (F : Nat)  : Nat → Nat → Int32 → Int32 → Int32 → ck_H → Option (Int32 × ck_H)
  | 0, _, _, _, _, _ => none
  | n + 1, a0, v1, v4, v5, h =>
    ck_as (gk h a0 = 12) <|
    ck_some (gR h a0 72) fun b2 =>
    ck_as ((gk h b2 = 14 ∨ gk h b2 = 21) ∧ ¬ v1 < 0 ∧ (v1 : Int32).toNatClampNeg < gz h b2) <|
    if v5 < ((400 * v1) + (gI h b2 (v1 : Int32).toNatClampNeg)) then
      ck_some (gR h a0 68) fun b6 =>
      ck_as ((gk h b6 = 14 ∨ gk h b6 = 21) ∧ ¬ v5 < 0 ∧ (v5 : Int32).toNatClampNeg < gz h b6) <|
      ck_some (gR h a0 69) fun b9 =>
      ck_as ((gk h b9 = 14 ∨ gk h b9 = 21) ∧ ¬ v5 < 0 ∧ (v5 : Int32).toNatClampNeg < gz h b9) <|
      ck_bd (f_RM_dataAt F a0 (gI h b6 (v5 : Int32).toNatClampNeg) (gI h b9 (v5 : Int32).toNatClampNeg) h) fun r12 h13 =>
      ck_as (gk h13 a0 = 12) <|
      ck_some (gR h13 a0 70) fun b16 =>
      ck_as ((gk h13 b16 = 14 ∨ gk h13 b16 = 21) ∧ ¬ v5 < 0 ∧ (v5 : Int32).toNatClampNeg < gz h13 b16) <|
      ck_then (r12 + (gI h13 b16 (v5 : Int32).toNatClampNeg)) fun x19 =>
      f_RM_rewrite_L143 F (f_RM_rewrite_L95 F n) F a0 v1 v4 v5 x19 0 h13
    else
      some (1, h)
set_option maxRecDepth 100000 in
set_option maxHeartbeats 4000000 in
theorem f_RM_rewrite_L95_s (F : Nat)   : ∀ (n : Nat) (a0 : Nat) (v1 : Int32) (v4 : Int32) (v5 : Int32) (h : ck_H) (r : Int32) (h' : ck_H), f_RM_rewrite_L95 F n a0 v1 v4 v5 h = some (r, h') → Go k_RM_rewrite 95 [some (.ref a0), some (.int v1), none, none, some (.int v4), some (.int v5), none, none] [] h (some (.int r), h') := by
  intro n
  induction n with
  | zero => intro a0 v1 v4 v5 h r h' e; simp only [f_RM_rewrite_L95] at e; cases e
  | succ n ih =>
    intro a0 v1 v4 v5 h r h' e
    rw [f_RM_rewrite_L95] at e
    refine go_iload rfl rfl ?_
    refine go_sipush (v := 400) rfl (by decide) ?_
    refine go_iload_n rfl rfl ?_
    refine go_imul rfl ?_
    refine go_aload_n rfl rfl ?_
    replace e := ck_as_e e
    obtain ⟨hk_1, e⟩ := e
    replace e := ck_some_e e
    obtain ⟨b2, hq_3, e⟩ := e
    refine go_get (v := .ref b2) rfl rfl hk_1 (by decide) (by show va_rf (gR h a0 72) = _; rw [hq_3]; rfl) ?_
    refine go_iload_n rfl rfl ?_
    replace e := ck_as_e e
    obtain ⟨hc_4, e⟩ := e
    refine go_iald rfl hc_4 ?_
    refine go_iadd rfl ?_
    refine go_icmp_ge (t := 222) rfl rfl (fun hx_5 => ?_) (fun hx_5 => ?_)
    · rw [if_pos hx_5] at e
      refine go_aload_n rfl rfl ?_
      refine go_aload_n rfl rfl ?_
      replace e := ck_some_e e
      obtain ⟨b6, hq_7, e⟩ := e
      refine go_get (v := .ref b6) rfl rfl hk_1 (by decide) (by show va_rf (gR h a0 68) = _; rw [hq_7]; rfl) ?_
      refine go_iload rfl rfl ?_
      replace e := ck_as_e e
      obtain ⟨hc_8, e⟩ := e
      refine go_iald rfl hc_8 ?_
      refine go_aload_n rfl rfl ?_
      replace e := ck_some_e e
      obtain ⟨b9, hq_10, e⟩ := e
      refine go_get (v := .ref b9) rfl rfl hk_1 (by decide) (by show va_rf (gR h a0 69) = _; rw [hq_10]; rfl) ?_
      refine go_iload rfl rfl ?_
      replace e := ck_as_e e
      obtain ⟨hc_11, e⟩ := e
      refine go_iald rfl hc_11 ?_
      replace e := ck_bd_e e
      obtain ⟨r12, h13, e14, e⟩ := e
      refine go_callV (As := [.int (gI h b6 (v5 : Int32).toNatClampNeg), .int (gI h b9 (v5 : Int32).toNatClampNeg)]) (b0 := a0) (rest := []) rfl rfl ⟨hk_1, by decide⟩ rfl ⟨Nat.le_of_ble_eq_true rfl, Nat.le_of_ble_eq_true rfl, Nat.le_of_ble_eq_true rfl, Nat.le_of_ble_eq_true rfl⟩ (s_RM_dataAt e14) ?_
      show Go k_RM_rewrite 130 [some (.ref a0), some (.int v1), none, none, some (.int v4), some (.int v5), none, none] [.int r12] h13 _
      refine go_aload_n rfl rfl ?_
      replace e := ck_as_e e
      obtain ⟨hk_15, e⟩ := e
      replace e := ck_some_e e
      obtain ⟨b16, hq_17, e⟩ := e
      refine go_get (v := .ref b16) rfl rfl hk_15 (by decide) (by show va_rf (gR h13 a0 70) = _; rw [hq_17]; rfl) ?_
      refine go_iload rfl rfl ?_
      replace e := ck_as_e e
      obtain ⟨hc_18, e⟩ := e
      refine go_iald rfl hc_18 ?_
      refine go_iadd rfl ?_
      generalize r12 + (gI h13 b16 (v5 : Int32).toNatClampNeg) = x19 at e ⊢
      replace e := ck_then_e e
      refine go_istore rfl rfl ?_
      show Go k_RM_rewrite 140 [some (.ref a0), some (.int v1), none, none, some (.int v4), some (.int v5), some (.int x19), none] [] h13 _
      refine go_iconst (v := 0) rfl (by decide) ?_
      refine go_istore rfl rfl ?_
      show Go k_RM_rewrite 143 [some (.ref a0), some (.int v1), none, none, some (.int v4), some (.int v5), some (.int x19), some (.int 0)] [] h13 _
      refine go_forget (l := [some (.ref a0), some (.int v1), none, none, some (.int v4), some (.int v5), some (.int x19), some (.int 0)]) ⟨Or.inl rfl, Or.inl rfl, Or.inl rfl, Or.inl rfl, Or.inl rfl, Or.inl rfl, Or.inl rfl, Or.inl rfl, trivial⟩ ?_
      exact f_RM_rewrite_L143_s F (f_RM_rewrite_L95 F n) ih F _ _ _ _ _ _ _ _ _ e
    · rw [if_neg hx_5] at e
      refine go_iconst (v := 1) rfl (by decide) ?_
      cases e
      exact go_ret rfl rfl
def f_RM_rewrite_L44 (F : Nat)  : Nat → Nat → Int32 → Int32 → Int32 → Int32 → ck_H → Option (Int32 × ck_H)
  | 0, _, _, _, _, _, _ => none
  | n + 1, a0, v1, v2, v3, v4, h =>
    ck_as (gk h a0 = 12) <|
    ck_some (gR h a0 72) fun b2 =>
    ck_as ((gk h b2 = 14 ∨ gk h b2 = 21) ∧ ¬ v1 < 0 ∧ (v1 : Int32).toNatClampNeg < gz h b2) <|
    if v4 < ((400 * v1) + (gI h b2 (v1 : Int32).toNatClampNeg)) then
      ck_some (gR h a0 71) fun b6 =>
      ck_as ((gk h b6 = 14 ∨ gk h b6 = 21) ∧ ¬ v4 < 0 ∧ (v4 : Int32).toNatClampNeg < gz h b6) <|
      ck_then (v3 + (gI h b6 (v4 : Int32).toNatClampNeg)) fun x9 =>
      f_RM_rewrite_L44 F n a0 v1 v2 x9 (v4 + 1) h
    else
      if v2 = v3 then
        ck_then (400 * v1) fun x11 =>
        f_RM_rewrite_L95 F F a0 v1 0 x11 h
      else
        some ((-5), h)
set_option maxRecDepth 100000 in
set_option maxHeartbeats 4000000 in
theorem f_RM_rewrite_L44_s (F : Nat)   : ∀ (n : Nat) (a0 : Nat) (v1 : Int32) (v2 : Int32) (v3 : Int32) (v4 : Int32) (h : ck_H) (r : Int32) (h' : ck_H), f_RM_rewrite_L44 F n a0 v1 v2 v3 v4 h = some (r, h') → Go k_RM_rewrite 44 [some (.ref a0), some (.int v1), some (.int v2), some (.int v3), some (.int v4), none, none, none] [] h (some (.int r), h') := by
  intro n
  induction n with
  | zero => intro a0 v1 v2 v3 v4 h r h' e; simp only [f_RM_rewrite_L44] at e; cases e
  | succ n ih =>
    intro a0 v1 v2 v3 v4 h r h' e
    rw [f_RM_rewrite_L44] at e
    refine go_iload rfl rfl ?_
    refine go_sipush (v := 400) rfl (by decide) ?_
    refine go_iload_n rfl rfl ?_
    refine go_imul rfl ?_
    refine go_aload_n rfl rfl ?_
    replace e := ck_as_e e
    obtain ⟨hk_1, e⟩ := e
    replace e := ck_some_e e
    obtain ⟨b2, hq_3, e⟩ := e
    refine go_get (v := .ref b2) rfl rfl hk_1 (by decide) (by show va_rf (gR h a0 72) = _; rw [hq_3]; rfl) ?_
    refine go_iload_n rfl rfl ?_
    replace e := ck_as_e e
    obtain ⟨hc_4, e⟩ := e
    refine go_iald rfl hc_4 ?_
    refine go_iadd rfl ?_
    refine go_icmp_ge (t := 77) rfl rfl (fun hx_5 => ?_) (fun hx_5 => ?_)
    · rw [if_pos hx_5] at e
      refine go_iload_n rfl rfl ?_
      refine go_aload_n rfl rfl ?_
      replace e := ck_some_e e
      obtain ⟨b6, hq_7, e⟩ := e
      refine go_get (v := .ref b6) rfl rfl hk_1 (by decide) (by show va_rf (gR h a0 71) = _; rw [hq_7]; rfl) ?_
      refine go_iload rfl rfl ?_
      replace e := ck_as_e e
      obtain ⟨hc_8, e⟩ := e
      refine go_iald rfl hc_8 ?_
      refine go_iadd rfl ?_
      generalize v3 + (gI h b6 (v4 : Int32).toNatClampNeg) = x9 at e ⊢
      replace e := ck_then_e e
      refine go_istore_n rfl rfl ?_
      show Go k_RM_rewrite 71 [some (.ref a0), some (.int v1), some (.int v2), some (.int x9), some (.int v4), none, none, none] [] h _
      refine go_iinc (v := 1) rfl rfl (by decide) rfl ?_
      show Go k_RM_rewrite 74 [some (.ref a0), some (.int v1), some (.int v2), some (.int x9), some (.int (v4 + 1)), none, none, none] [] h _
      refine go_goto (t := 44) rfl rfl ?_
      refine go_forget (l := [some (.ref a0), some (.int v1), some (.int v2), some (.int x9), some (.int (v4 + 1)), none, none, none]) ⟨Or.inl rfl, Or.inl rfl, Or.inl rfl, Or.inl rfl, Or.inl rfl, Or.inl rfl, Or.inl rfl, Or.inl rfl, trivial⟩ ?_
      exact ih _ _ _ _ _ _ _ _ e
    · rw [if_neg hx_5] at e
      refine go_iload_n rfl rfl ?_
      refine go_iload_n rfl rfl ?_
      refine go_icmp_eq (t := 85) rfl rfl (fun hx_10 => ?_) (fun hx_10 => ?_)
      · rw [if_pos hx_10] at e
        refine go_iconst (v := 0) rfl (by decide) ?_
        refine go_istore rfl rfl ?_
        show Go k_RM_rewrite 88 [some (.ref a0), some (.int v1), some (.int v2), some (.int v3), some (.int 0), none, none, none] [] h _
        refine go_sipush (v := 400) rfl (by decide) ?_
        refine go_iload_n rfl rfl ?_
        refine go_imul rfl ?_
        generalize 400 * v1 = x11 at e ⊢
        replace e := ck_then_e e
        refine go_istore rfl rfl ?_
        show Go k_RM_rewrite 95 [some (.ref a0), some (.int v1), some (.int v2), some (.int v3), some (.int 0), some (.int x11), none, none] [] h _
        refine go_forget (l := [some (.ref a0), some (.int v1), none, none, some (.int 0), some (.int x11), none, none]) ⟨Or.inl rfl, Or.inl rfl, Or.inr ⟨rfl, fun _ q => by cases q; rfl⟩, Or.inr ⟨rfl, fun _ q => by cases q; rfl⟩, Or.inl rfl, Or.inl rfl, Or.inl rfl, Or.inl rfl, trivial⟩ ?_
        exact f_RM_rewrite_L95_s F F _ _ _ _ _ _ _ e
      · rw [if_neg hx_10] at e
        refine go_bipush (v := (-5)) rfl (by decide) ?_
        cases e
        exact go_ret rfl rfl
def f_RM_rewrite (F : Nat) (a0 : Nat) (v1 : Int32) (h : ck_H) : Option (Int32 × ck_H) :=
  ck_as (gk h a0 = 12) <|
  ck_bd (f_RM_read F a0 h) fun r2 h3 =>
  ck_as (gk h3 a0 = 12) <|
  ck_bd (f_RM_isHandle F a0 v1 h3) fun r6 h7 =>
  if r6 = (0 : Int32) then
    some ((-3), h7)
  else
    ck_as (gk h7 a0 = 12) <|
    ck_some (gR h7 a0 51) fun b11 =>
    ck_as ((gk h7 b11 = 14 ∨ gk h7 b11 = 21) ∧ ¬ v1 < 0 ∧ (v1 : Int32).toNatClampNeg < gz h7 b11) <|
    if (gI h7 b11 (v1 : Int32).toNatClampNeg) = (2 : Int32) then
      ck_some (gR h7 a0 67) fun b15 =>
      ck_as ((gk h7 b15 = 13 ∨ gk h7 b15 = 15) ∧ ¬ v1 < 0 ∧ (v1 : Int32).toNatClampNeg < gz h7 b15) <|
      if (gI h7 b15 (v1 : Int32).toNatClampNeg) = (0 : Int32) then
        some ((-3), h7)
      else
        ck_then (400 * v1) fun x19 =>
        f_RM_rewrite_L44 F F a0 v1 r2 0 x19 h7
    else
      some ((-3), h7)
set_option maxRecDepth 100000 in
set_option maxHeartbeats 4000000 in
theorem s_RM_rewrite {F : Nat} {a0 : Nat} {v1 : Int32} {h h' : ck_H} {r : Int32} (e : f_RM_rewrite F a0 v1 h = some (r, h')) : Go k_RM_rewrite 0 (ck_in [.ref a0, .int v1] 8) [] h (some (.int r), h') := by
  unfold f_RM_rewrite at e
  show Go k_RM_rewrite 0 [some (.ref a0), some (.int v1), none, none, none, none, none, none] [] h _
  refine go_aload_n rfl rfl ?_
  replace e := ck_as_e e
  obtain ⟨hk_1, e⟩ := e
  replace e := ck_bd_e e
  obtain ⟨r2, h3, e4, e⟩ := e
  refine go_callV (As := []) (b0 := a0) (rest := []) rfl rfl ⟨hk_1, by decide⟩ rfl ⟨Nat.le_of_ble_eq_true rfl, Nat.le_of_ble_eq_true rfl, Nat.le_of_ble_eq_true rfl, Nat.le_of_ble_eq_true rfl⟩ (s_RM_read e4) ?_
  show Go k_RM_rewrite 4 [some (.ref a0), some (.int v1), none, none, none, none, none, none] [.int r2] h3 _
  refine go_istore_n rfl rfl ?_
  show Go k_RM_rewrite 5 [some (.ref a0), some (.int v1), some (.int r2), none, none, none, none, none] [] h3 _
  refine go_aload_n rfl rfl ?_
  refine go_iload_n rfl rfl ?_
  replace e := ck_as_e e
  obtain ⟨hk_5, e⟩ := e
  replace e := ck_bd_e e
  obtain ⟨r6, h7, e8, e⟩ := e
  refine go_callV (As := [.int v1]) (b0 := a0) (rest := []) rfl rfl ⟨hk_5, by decide⟩ rfl ⟨Nat.le_of_ble_eq_true rfl, Nat.le_of_ble_eq_true rfl, Nat.le_of_ble_eq_true rfl, Nat.le_of_ble_eq_true rfl⟩ (s_RM_isHandle e8) ?_
  show Go k_RM_rewrite 10 [some (.ref a0), some (.int v1), some (.int r2), none, none, none, none, none] [.int r6] h7 _
  refine go_if_eq (t := 32) rfl rfl (fun hx_9 => ?_) (fun hx_9 => ?_)
  · rw [if_pos hx_9] at e
    refine go_bipush (v := (-3)) rfl (by decide) ?_
    cases e
    exact go_ret rfl rfl
  · rw [if_neg hx_9] at e
    refine go_aload_n rfl rfl ?_
    replace e := ck_as_e e
    obtain ⟨hk_10, e⟩ := e
    replace e := ck_some_e e
    obtain ⟨b11, hq_12, e⟩ := e
    refine go_get (v := .ref b11) rfl rfl hk_10 (by decide) (by show va_rf (gR h7 a0 51) = _; rw [hq_12]; rfl) ?_
    refine go_iload_n rfl rfl ?_
    replace e := ck_as_e e
    obtain ⟨hc_13, e⟩ := e
    refine go_iald rfl hc_13 ?_
    refine go_iconst (v := 2) rfl (by decide) ?_
    refine go_icmp_ne (t := 32) rfl rfl (fun hx_14 => ?_) (fun hx_14 => ?_)
    · rw [if_pos hx_14] at e
      refine go_aload_n rfl rfl ?_
      replace e := ck_some_e e
      obtain ⟨b15, hq_16, e⟩ := e
      refine go_get (v := .ref b15) rfl rfl hk_10 (by decide) (by show va_rf (gR h7 a0 67) = _; rw [hq_16]; rfl) ?_
      refine go_iload_n rfl rfl ?_
      replace e := ck_as_e e
      obtain ⟨hc_17, e⟩ := e
      refine go_bald rfl hc_17 ?_
      refine go_if_ne (t := 35) rfl rfl (fun hx_18 => ?_) (fun hx_18 => ?_)
      · rw [if_pos hx_18] at e
        refine go_bipush (v := (-3)) rfl (by decide) ?_
        cases e
        exact go_ret rfl rfl
      · rw [if_neg hx_18] at e
        refine go_iconst (v := 0) rfl (by decide) ?_
        refine go_istore_n rfl rfl ?_
        show Go k_RM_rewrite 37 [some (.ref a0), some (.int v1), some (.int r2), some (.int 0), none, none, none, none] [] h7 _
        refine go_sipush (v := 400) rfl (by decide) ?_
        refine go_iload_n rfl rfl ?_
        refine go_imul rfl ?_
        generalize 400 * v1 = x19 at e ⊢
        replace e := ck_then_e e
        refine go_istore rfl rfl ?_
        show Go k_RM_rewrite 44 [some (.ref a0), some (.int v1), some (.int r2), some (.int 0), some (.int x19), none, none, none] [] h7 _
        refine go_forget (l := [some (.ref a0), some (.int v1), some (.int r2), some (.int 0), some (.int x19), none, none, none]) ⟨Or.inl rfl, Or.inl rfl, Or.inl rfl, Or.inl rfl, Or.inl rfl, Or.inl rfl, Or.inl rfl, Or.inl rfl, trivial⟩ ?_
        exact f_RM_rewrite_L44_s F F _ _ _ _ _ _ _ _ e
    · rw [if_neg hx_14] at e
      refine go_bipush (v := (-3)) rfl (by decide) ?_
      cases e
      exact go_ret rfl rfl
def f_RM_lookedMany (F : Nat) (a0 : Nat) (v1 : Int32) (h : ck_H) : Option (Int32 × ck_H) :=
  ck_as (gk h a0 = 12) <|
  ck_bd (f_RM_tracksOf F a0 v1 h) fun r2 h3 =>
  ck_bd (f_Ma_min F 4 r2 h3) fun r5 h6 =>
  some (r5, h6)
set_option maxRecDepth 100000 in
set_option maxHeartbeats 4000000 in
theorem s_RM_lookedMany {F : Nat} {a0 : Nat} {v1 : Int32} {h h' : ck_H} {r : Int32} (e : f_RM_lookedMany F a0 v1 h = some (r, h')) : Go k_RM_lookedMany 0 (ck_in [.ref a0, .int v1] 2) [] h (some (.int r), h') := by
  unfold f_RM_lookedMany at e
  show Go k_RM_lookedMany 0 [some (.ref a0), some (.int v1)] [] h _
  refine go_iconst (v := 4) rfl (by decide) ?_
  refine go_aload_n rfl rfl ?_
  refine go_iload_n rfl rfl ?_
  replace e := ck_as_e e
  obtain ⟨hk_1, e⟩ := e
  replace e := ck_bd_e e
  obtain ⟨r2, h3, e4, e⟩ := e
  refine go_callV (As := [.int v1]) (b0 := a0) (rest := [.int 4]) rfl rfl ⟨hk_1, by decide⟩ rfl ⟨Nat.le_of_ble_eq_true rfl, Nat.le_of_ble_eq_true rfl, Nat.le_of_ble_eq_true rfl, Nat.le_of_ble_eq_true rfl⟩ (s_RM_tracksOf e4) ?_
  show Go k_RM_lookedMany 6 [some (.ref a0), some (.int v1)] [.int r2, .int 4] h3 _
  replace e := ck_bd_e e
  obtain ⟨r5, h6, e7, e⟩ := e
  refine go_callS (As := [.int 4, .int r2]) (rest := []) rfl rfl rfl ⟨Nat.le_of_ble_eq_true rfl, Nat.le_of_ble_eq_true rfl, Nat.le_of_ble_eq_true rfl, Nat.le_of_ble_eq_true rfl⟩ (s_Ma_min e7) ?_
  show Go k_RM_lookedMany 9 [some (.ref a0), some (.int v1)] [.int r5] h6 _
  cases e
  exact go_ret rfl rfl
def f_RM_lookedTrack_L12 (F : Nat)  : Nat → Nat → Int32 → Int32 → Int32 → Int64 → Int32 → ck_H → Option (Int32 × ck_H)
  | 0, _, _, _, _, _, _, _ => none
  | n + 1, a0, v1, v2, v3, w4, v6, h =>
    ck_as (gk h a0 = 12) <|
    ck_some (gR h a0 36) fun b2 =>
    ck_as ((gk h b2 = 14 ∨ gk h b2 = 21) ∧ ¬ v1 < 0 ∧ (v1 : Int32).toNatClampNeg < gz h b2) <|
    if v6 < (gI h b2 (v1 : Int32).toNatClampNeg) then
      ck_some (gR h a0 9) fun b6 =>
      ck_as ((gk h b6 = 13 ∨ gk h b6 = 15) ∧ ¬ v6 < 0 ∧ (v6 : Int32).toNatClampNeg < gz h b6) <|
      ck_as (¬ ((v3 : Int32).toInt64) = 0) <|
      ck_then (((w4 * 256) + (((gI h b6 (v6 : Int32).toNatClampNeg) &&& 255 : Int32).toInt64)) - ((w4 * 256) + (((gI h b6 (v6 : Int32).toNatClampNeg) &&& 255 : Int32).toInt64)) / ((v3 : Int32).toInt64) * ((v3 : Int32).toInt64)) fun x10 =>
      f_RM_lookedTrack_L12 F n a0 v1 v2 v3 x10 (v6 + 1) h
    else
      ck_as (¬ ((v3 : Int32).toInt64) = 0) <|
      ck_bd (f_RM_trackOf F a0 v1 (((w4 + ((v2 : Int32).toInt64)) - (w4 + ((v2 : Int32).toInt64)) / ((v3 : Int32).toInt64) * ((v3 : Int32).toInt64) : Int64).toInt32) h) fun r12 h13 =>
      some (r12, h13)
set_option maxRecDepth 100000 in
set_option maxHeartbeats 4000000 in
theorem f_RM_lookedTrack_L12_s (F : Nat)   : ∀ (n : Nat) (a0 : Nat) (v1 : Int32) (v2 : Int32) (v3 : Int32) (w4 : Int64) (v6 : Int32) (h : ck_H) (r : Int32) (h' : ck_H), f_RM_lookedTrack_L12 F n a0 v1 v2 v3 w4 v6 h = some (r, h') → Go k_RM_lookedTrack 12 [some (.ref a0), some (.int v1), some (.int v2), some (.int v3), some (.long w4), none, some (.int v6)] [] h (some (.int r), h') := by
  intro n
  induction n with
  | zero => intro a0 v1 v2 v3 w4 v6 h r h' e; simp only [f_RM_lookedTrack_L12] at e; cases e
  | succ n ih =>
    intro a0 v1 v2 v3 w4 v6 h r h' e
    rw [f_RM_lookedTrack_L12] at e
    refine go_iload rfl rfl ?_
    refine go_aload_n rfl rfl ?_
    replace e := ck_as_e e
    obtain ⟨hk_1, e⟩ := e
    replace e := ck_some_e e
    obtain ⟨b2, hq_3, e⟩ := e
    refine go_get (v := .ref b2) rfl rfl hk_1 (by decide) (by show va_rf (gR h a0 36) = _; rw [hq_3]; rfl) ?_
    refine go_iload_n rfl rfl ?_
    replace e := ck_as_e e
    obtain ⟨hc_4, e⟩ := e
    refine go_iald rfl hc_4 ?_
    refine go_icmp_ge (t := 53) rfl rfl (fun hx_5 => ?_) (fun hx_5 => ?_)
    · rw [if_pos hx_5] at e
      refine go_lload rfl rfl ?_
      refine go_ldc2 (v := 256) rfl rfl ?_
      refine go_lmul rfl ?_
      refine go_aload_n rfl rfl ?_
      replace e := ck_some_e e
      obtain ⟨b6, hq_7, e⟩ := e
      refine go_get (v := .ref b6) rfl rfl hk_1 (by decide) (by show va_rf (gR h a0 9) = _; rw [hq_7]; rfl) ?_
      refine go_iload rfl rfl ?_
      replace e := ck_as_e e
      obtain ⟨hc_8, e⟩ := e
      refine go_bald rfl hc_8 ?_
      refine go_sipush (v := 255) rfl (by decide) ?_
      refine go_iand rfl ?_
      refine go_i2l rfl ?_
      refine go_ladd rfl ?_
      refine go_iload_n rfl rfl ?_
      refine go_i2l rfl ?_
      replace e := ck_as_e e
      obtain ⟨hc_9, e⟩ := e
      refine go_lrem rfl hc_9 ?_
      generalize ((w4 * 256) + (((gI h b6 (v6 : Int32).toNatClampNeg) &&& 255 : Int32).toInt64)) - ((w4 * 256) + (((gI h b6 (v6 : Int32).toNatClampNeg) &&& 255 : Int32).toInt64)) / ((v3 : Int32).toInt64) * ((v3 : Int32).toInt64) = x10 at e ⊢
      replace e := ck_then_e e
      refine go_lstore rfl rfl ?_
      show Go k_RM_lookedTrack 47 [some (.ref a0), some (.int v1), some (.int v2), some (.int v3), some (.long x10), none, some (.int v6)] [] h _
      refine go_iinc (v := 1) rfl rfl (by decide) rfl ?_
      show Go k_RM_lookedTrack 50 [some (.ref a0), some (.int v1), some (.int v2), some (.int v3), some (.long x10), none, some (.int (v6 + 1))] [] h _
      refine go_goto (t := 12) rfl rfl ?_
      refine go_forget (l := [some (.ref a0), some (.int v1), some (.int v2), some (.int v3), some (.long x10), none, some (.int (v6 + 1))]) ⟨Or.inl rfl, Or.inl rfl, Or.inl rfl, Or.inl rfl, Or.inl rfl, Or.inl rfl, Or.inl rfl, trivial⟩ ?_
      exact ih _ _ _ _ _ _ _ _ _ e
    · rw [if_neg hx_5] at e
      refine go_aload_n rfl rfl ?_
      refine go_iload_n rfl rfl ?_
      refine go_lload rfl rfl ?_
      refine go_iload_n rfl rfl ?_
      refine go_i2l rfl ?_
      refine go_ladd rfl ?_
      refine go_iload_n rfl rfl ?_
      refine go_i2l rfl ?_
      replace e := ck_as_e e
      obtain ⟨hc_11, e⟩ := e
      refine go_lrem rfl hc_11 ?_
      refine go_l2i rfl ?_
      replace e := ck_bd_e e
      obtain ⟨r12, h13, e14, e⟩ := e
      refine go_callV (As := [.int v1, .int (((w4 + ((v2 : Int32).toInt64)) - (w4 + ((v2 : Int32).toInt64)) / ((v3 : Int32).toInt64) * ((v3 : Int32).toInt64) : Int64).toInt32)]) (b0 := a0) (rest := []) rfl rfl ⟨hk_1, by decide⟩ rfl ⟨Nat.le_of_ble_eq_true rfl, Nat.le_of_ble_eq_true rfl, Nat.le_of_ble_eq_true rfl, Nat.le_of_ble_eq_true rfl⟩ (s_RM_trackOf e14) ?_
      show Go k_RM_lookedTrack 67 [some (.ref a0), some (.int v1), some (.int v2), some (.int v3), some (.long w4), none, some (.int v6)] [.int r12] h13 _
      cases e
      exact go_ret rfl rfl
def f_RM_lookedTrack (F : Nat) (a0 : Nat) (v1 : Int32) (v2 : Int32) (h : ck_H) : Option (Int32 × ck_H) :=
  ck_as (gk h a0 = 12) <|
  ck_bd (f_RM_tracksOf F a0 v1 h) fun r2 h3 =>
  f_RM_lookedTrack_L12 F F a0 v1 v2 r2 0 0 h3
set_option maxRecDepth 100000 in
set_option maxHeartbeats 4000000 in
theorem s_RM_lookedTrack {F : Nat} {a0 : Nat} {v1 : Int32} {v2 : Int32} {h h' : ck_H} {r : Int32} (e : f_RM_lookedTrack F a0 v1 v2 h = some (r, h')) : Go k_RM_lookedTrack 0 (ck_in [.ref a0, .int v1, .int v2] 7) [] h (some (.int r), h') := by
  unfold f_RM_lookedTrack at e
  show Go k_RM_lookedTrack 0 [some (.ref a0), some (.int v1), some (.int v2), none, none, none, none] [] h _
  refine go_aload_n rfl rfl ?_
  refine go_iload_n rfl rfl ?_
  replace e := ck_as_e e
  obtain ⟨hk_1, e⟩ := e
  replace e := ck_bd_e e
  obtain ⟨r2, h3, e4, e⟩ := e
  refine go_callV (As := [.int v1]) (b0 := a0) (rest := []) rfl rfl ⟨hk_1, by decide⟩ rfl ⟨Nat.le_of_ble_eq_true rfl, Nat.le_of_ble_eq_true rfl, Nat.le_of_ble_eq_true rfl, Nat.le_of_ble_eq_true rfl⟩ (s_RM_tracksOf e4) ?_
  show Go k_RM_lookedTrack 5 [some (.ref a0), some (.int v1), some (.int v2), none, none, none, none] [.int r2] h3 _
  refine go_istore_n rfl rfl ?_
  show Go k_RM_lookedTrack 6 [some (.ref a0), some (.int v1), some (.int v2), some (.int r2), none, none, none] [] h3 _
  refine go_lconst (v := 0) rfl (by decide) ?_
  refine go_lstore rfl rfl ?_
  show Go k_RM_lookedTrack 9 [some (.ref a0), some (.int v1), some (.int v2), some (.int r2), some (.long 0), none, none] [] h3 _
  refine go_iconst (v := 0) rfl (by decide) ?_
  refine go_istore rfl rfl ?_
  show Go k_RM_lookedTrack 12 [some (.ref a0), some (.int v1), some (.int v2), some (.int r2), some (.long 0), none, some (.int 0)] [] h3 _
  refine go_forget (l := [some (.ref a0), some (.int v1), some (.int v2), some (.int r2), some (.long 0), none, some (.int 0)]) ⟨Or.inl rfl, Or.inl rfl, Or.inl rfl, Or.inl rfl, Or.inl rfl, Or.inl rfl, Or.inl rfl, trivial⟩ ?_
  exact f_RM_lookedTrack_L12_s F F _ _ _ _ _ _ _ _ _ e
def f_RM_keyedOn_L41 (F : Nat) (k2 : Nat → Int32 → Int32 → Int32 → ck_H → Option (Int32 × ck_H)) : Nat → Nat → Int32 → Int32 → Int32 → Int32 → Int32 → ck_H → Option (Int32 × ck_H)
  | 0, _, _, _, _, _, _, _ => none
  | n + 1, a0, v1, v2, v3, v4, v5, h =>
    ck_as (gk h a0 = 12) <|
    ck_some (gR h a0 36) fun b2 =>
    ck_as ((gk h b2 = 14 ∨ gk h b2 = 21) ∧ ¬ v1 < 0 ∧ (v1 : Int32).toNatClampNeg < gz h b2) <|
    if v5 < (gI h b2 (v1 : Int32).toNatClampNeg) then
      if v4 = (0 : Int32) then
        if v4 = (0 : Int32) then
          k2 a0 v1 v2 (v3 + 1) h
        else
          some (v3, h)
      else
        ck_some (gR h a0 0) fun b8 =>
        ck_bd (f_RM_keyAt F a0 v2 v3 h) fun r10 h11 =>
        ck_as ((gk h11 b8 = 13 ∨ gk h11 b8 = 15) ∧ ¬ (r10 + v5) < 0 ∧ (r10 + v5 : Int32).toNatClampNeg < gz h11 b8) <|
        ck_as (gk h11 a0 = 12) <|
        ck_some (gR h11 a0 9) fun b15 =>
        ck_as ((gk h11 b15 = 13 ∨ gk h11 b15 = 15) ∧ ¬ v5 < 0 ∧ (v5 : Int32).toNatClampNeg < gz h11 b15) <|
        if (gI h11 b8 (r10 + v5 : Int32).toNatClampNeg) = (gI h11 b15 (v5 : Int32).toNatClampNeg) then
          f_RM_keyedOn_L41 F k2 n a0 v1 v2 v3 1 (v5 + 1) h11
        else
          f_RM_keyedOn_L41 F k2 n a0 v1 v2 v3 0 (v5 + 1) h11
    else
      if v4 = (0 : Int32) then
        k2 a0 v1 v2 (v3 + 1) h
      else
        some (v3, h)
set_option maxRecDepth 100000 in
set_option maxHeartbeats 4000000 in
theorem f_RM_keyedOn_L41_s (F : Nat) (k2 : Nat → Int32 → Int32 → Int32 → ck_H → Option (Int32 × ck_H)) (hk2 : ∀ (a0 : Nat) (v1 : Int32) (v2 : Int32) (v3 : Int32) (h : ck_H) (r : Int32) (h' : ck_H), k2 a0 v1 v2 v3 h = some (r, h') → Go k_RM_keyedOn 2 [some (.ref a0), some (.int v1), some (.int v2), some (.int v3), none, none] [] h (some (.int r), h')) : ∀ (n : Nat) (a0 : Nat) (v1 : Int32) (v2 : Int32) (v3 : Int32) (v4 : Int32) (v5 : Int32) (h : ck_H) (r : Int32) (h' : ck_H), f_RM_keyedOn_L41 F k2 n a0 v1 v2 v3 v4 v5 h = some (r, h') → Go k_RM_keyedOn 41 [some (.ref a0), some (.int v1), some (.int v2), some (.int v3), some (.int v4), some (.int v5)] [] h (some (.int r), h') := by
  intro n
  induction n with
  | zero => intro a0 v1 v2 v3 v4 v5 h r h' e; simp only [f_RM_keyedOn_L41] at e; cases e
  | succ n ih =>
    intro a0 v1 v2 v3 v4 v5 h r h' e
    rw [f_RM_keyedOn_L41] at e
    refine go_iload rfl rfl ?_
    refine go_aload_n rfl rfl ?_
    replace e := ck_as_e e
    obtain ⟨hk_1, e⟩ := e
    replace e := ck_some_e e
    obtain ⟨b2, hq_3, e⟩ := e
    refine go_get (v := .ref b2) rfl rfl hk_1 (by decide) (by show va_rf (gR h a0 36) = _; rw [hq_3]; rfl) ?_
    refine go_iload_n rfl rfl ?_
    replace e := ck_as_e e
    obtain ⟨hc_4, e⟩ := e
    refine go_iald rfl hc_4 ?_
    refine go_icmp_ge (t := 94) rfl rfl (fun hx_5 => ?_) (fun hx_5 => ?_)
    · rw [if_pos hx_5] at e
      refine go_iload rfl rfl ?_
      refine go_if_eq (t := 94) rfl rfl (fun hx_6 => ?_) (fun hx_6 => ?_)
      · rw [if_pos hx_6] at e
        refine go_iload rfl rfl ?_
        refine go_if_eq (t := 101) rfl rfl (fun hx_7 => ?_) (fun hx_7 => ?_)
        · rw [if_pos hx_7] at e
          refine go_iinc (v := 1) rfl rfl (by decide) rfl ?_
          show Go k_RM_keyedOn 104 [some (.ref a0), some (.int v1), some (.int v2), some (.int (v3 + 1)), some (.int v4), some (.int v5)] [] h _
          refine go_goto (t := 2) rfl rfl ?_
          refine go_forget (l := [some (.ref a0), some (.int v1), some (.int v2), some (.int (v3 + 1)), none, none]) ⟨Or.inl rfl, Or.inl rfl, Or.inl rfl, Or.inl rfl, Or.inr ⟨rfl, fun _ q => by cases q; rfl⟩, Or.inr ⟨rfl, fun _ q => by cases q; rfl⟩, trivial⟩ ?_
          exact hk2 _ _ _ _ _ _ _ e
        · rw [if_neg hx_7] at e
          refine go_iload_n rfl rfl ?_
          cases e
          exact go_ret rfl rfl
      · rw [if_neg hx_6] at e
        refine go_aload_n rfl rfl ?_
        replace e := ck_some_e e
        obtain ⟨b8, hq_9, e⟩ := e
        refine go_get (v := .ref b8) rfl rfl hk_1 (by decide) (by show va_rf (gR h a0 0) = _; rw [hq_9]; rfl) ?_
        refine go_aload_n rfl rfl ?_
        refine go_iload_n rfl rfl ?_
        refine go_iload_n rfl rfl ?_
        replace e := ck_bd_e e
        obtain ⟨r10, h11, e12, e⟩ := e
        refine go_callV (As := [.int v2, .int v3]) (b0 := a0) (rest := [.ref b8]) rfl rfl ⟨hk_1, by decide⟩ rfl ⟨Nat.le_of_ble_eq_true rfl, Nat.le_of_ble_eq_true rfl, Nat.le_of_ble_eq_true rfl, Nat.le_of_ble_eq_true rfl⟩ (s_RM_keyAt e12) ?_
        show Go k_RM_keyedOn 67 [some (.ref a0), some (.int v1), some (.int v2), some (.int v3), some (.int v4), some (.int v5)] [.int r10, .ref b8] h11 _
        refine go_iload rfl rfl ?_
        refine go_iadd rfl ?_
        replace e := ck_as_e e
        obtain ⟨hc_13, e⟩ := e
        refine go_bald rfl hc_13 ?_
        refine go_aload_n rfl rfl ?_
        replace e := ck_as_e e
        obtain ⟨hk_14, e⟩ := e
        replace e := ck_some_e e
        obtain ⟨b15, hq_16, e⟩ := e
        refine go_get (v := .ref b15) rfl rfl hk_14 (by decide) (by show va_rf (gR h11 a0 9) = _; rw [hq_16]; rfl) ?_
        refine go_iload rfl rfl ?_
        replace e := ck_as_e e
        obtain ⟨hc_17, e⟩ := e
        refine go_bald rfl hc_17 ?_
        refine go_icmp_ne (t := 85) rfl rfl (fun hx_18 => ?_) (fun hx_18 => ?_)
        · rw [if_pos hx_18] at e
          refine go_iconst (v := 1) rfl (by decide) ?_
          refine go_goto (t := 86) rfl rfl ?_
          refine go_istore rfl rfl ?_
          show Go k_RM_keyedOn 88 [some (.ref a0), some (.int v1), some (.int v2), some (.int v3), some (.int 1), some (.int v5)] [] h11 _
          refine go_iinc (v := 1) rfl rfl (by decide) rfl ?_
          show Go k_RM_keyedOn 91 [some (.ref a0), some (.int v1), some (.int v2), some (.int v3), some (.int 1), some (.int (v5 + 1))] [] h11 _
          refine go_goto (t := 41) rfl rfl ?_
          refine go_forget (l := [some (.ref a0), some (.int v1), some (.int v2), some (.int v3), some (.int 1), some (.int (v5 + 1))]) ⟨Or.inl rfl, Or.inl rfl, Or.inl rfl, Or.inl rfl, Or.inl rfl, Or.inl rfl, trivial⟩ ?_
          exact ih _ _ _ _ _ _ _ _ _ e
        · rw [if_neg hx_18] at e
          refine go_iconst (v := 0) rfl (by decide) ?_
          refine go_istore rfl rfl ?_
          show Go k_RM_keyedOn 88 [some (.ref a0), some (.int v1), some (.int v2), some (.int v3), some (.int 0), some (.int v5)] [] h11 _
          refine go_iinc (v := 1) rfl rfl (by decide) rfl ?_
          show Go k_RM_keyedOn 91 [some (.ref a0), some (.int v1), some (.int v2), some (.int v3), some (.int 0), some (.int (v5 + 1))] [] h11 _
          refine go_goto (t := 41) rfl rfl ?_
          refine go_forget (l := [some (.ref a0), some (.int v1), some (.int v2), some (.int v3), some (.int 0), some (.int (v5 + 1))]) ⟨Or.inl rfl, Or.inl rfl, Or.inl rfl, Or.inl rfl, Or.inl rfl, Or.inl rfl, trivial⟩ ?_
          exact ih _ _ _ _ _ _ _ _ _ e
    · rw [if_neg hx_5] at e
      refine go_iload rfl rfl ?_
      refine go_if_eq (t := 101) rfl rfl (fun hx_19 => ?_) (fun hx_19 => ?_)
      · rw [if_pos hx_19] at e
        refine go_iinc (v := 1) rfl rfl (by decide) rfl ?_
        show Go k_RM_keyedOn 104 [some (.ref a0), some (.int v1), some (.int v2), some (.int (v3 + 1)), some (.int v4), some (.int v5)] [] h _
        refine go_goto (t := 2) rfl rfl ?_
        refine go_forget (l := [some (.ref a0), some (.int v1), some (.int v2), some (.int (v3 + 1)), none, none]) ⟨Or.inl rfl, Or.inl rfl, Or.inl rfl, Or.inl rfl, Or.inr ⟨rfl, fun _ q => by cases q; rfl⟩, Or.inr ⟨rfl, fun _ q => by cases q; rfl⟩, trivial⟩ ?_
        exact hk2 _ _ _ _ _ _ _ e
      · rw [if_neg hx_19] at e
        refine go_iload_n rfl rfl ?_
        cases e
        exact go_ret rfl rfl
def f_RM_keyedOn_L2 (F : Nat)  : Nat → Nat → Int32 → Int32 → Int32 → ck_H → Option (Int32 × ck_H)
  | 0, _, _, _, _, _ => none
  | n + 1, a0, v1, v2, v3, h =>
    ck_as (gk h a0 = 12) <|
    ck_some (gR h a0 1) fun b2 =>
    ck_as ((gk h b2 = 14 ∨ gk h b2 = 21) ∧ ¬ v2 < 0 ∧ (v2 : Int32).toNatClampNeg < gz h b2) <|
    if v3 < (gI h b2 (v2 : Int32).toNatClampNeg) then
      ck_some (gR h a0 6) fun b6 =>
      ck_bd (f_RM_at F v2 v3 h) fun r8 h9 =>
      ck_as ((gk h9 b6 = 14 ∨ gk h9 b6 = 21) ∧ ¬ r8 < 0 ∧ (r8 : Int32).toNatClampNeg < gz h9 b6) <|
      ck_as (gk h9 a0 = 12) <|
      ck_some (gR h9 a0 36) fun b13 =>
      ck_as ((gk h9 b13 = 14 ∨ gk h9 b13 = 21) ∧ ¬ v1 < 0 ∧ (v1 : Int32).toNatClampNeg < gz h9 b13) <|
      if (gI h9 b6 (r8 : Int32).toNatClampNeg) = (gI h9 b13 (v1 : Int32).toNatClampNeg) then
        f_RM_keyedOn_L41 F (f_RM_keyedOn_L2 F n) F a0 v1 v2 v3 1 0 h9
      else
        f_RM_keyedOn_L41 F (f_RM_keyedOn_L2 F n) F a0 v1 v2 v3 0 0 h9
    else
      some ((-1), h)
set_option maxRecDepth 100000 in
set_option maxHeartbeats 4000000 in
theorem f_RM_keyedOn_L2_s (F : Nat)   : ∀ (n : Nat) (a0 : Nat) (v1 : Int32) (v2 : Int32) (v3 : Int32) (h : ck_H) (r : Int32) (h' : ck_H), f_RM_keyedOn_L2 F n a0 v1 v2 v3 h = some (r, h') → Go k_RM_keyedOn 2 [some (.ref a0), some (.int v1), some (.int v2), some (.int v3), none, none] [] h (some (.int r), h') := by
  intro n
  induction n with
  | zero => intro a0 v1 v2 v3 h r h' e; simp only [f_RM_keyedOn_L2] at e; cases e
  | succ n ih =>
    intro a0 v1 v2 v3 h r h' e
    rw [f_RM_keyedOn_L2] at e
    refine go_iload_n rfl rfl ?_
    refine go_aload_n rfl rfl ?_
    replace e := ck_as_e e
    obtain ⟨hk_1, e⟩ := e
    replace e := ck_some_e e
    obtain ⟨b2, hq_3, e⟩ := e
    refine go_get (v := .ref b2) rfl rfl hk_1 (by decide) (by show va_rf (gR h a0 1) = _; rw [hq_3]; rfl) ?_
    refine go_iload_n rfl rfl ?_
    replace e := ck_as_e e
    obtain ⟨hc_4, e⟩ := e
    refine go_iald rfl hc_4 ?_
    refine go_icmp_ge (t := 107) rfl rfl (fun hx_5 => ?_) (fun hx_5 => ?_)
    · rw [if_pos hx_5] at e
      refine go_aload_n rfl rfl ?_
      replace e := ck_some_e e
      obtain ⟨b6, hq_7, e⟩ := e
      refine go_get (v := .ref b6) rfl rfl hk_1 (by decide) (by show va_rf (gR h a0 6) = _; rw [hq_7]; rfl) ?_
      refine go_iload_n rfl rfl ?_
      refine go_iload_n rfl rfl ?_
      replace e := ck_bd_e e
      obtain ⟨r8, h9, e10, e⟩ := e
      refine go_callS (As := [.int v2, .int v3]) (rest := [.ref b6]) rfl rfl rfl ⟨Nat.le_of_ble_eq_true rfl, Nat.le_of_ble_eq_true rfl, Nat.le_of_ble_eq_true rfl, Nat.le_of_ble_eq_true rfl⟩ (s_RM_at e10) ?_
      show Go k_RM_keyedOn 21 [some (.ref a0), some (.int v1), some (.int v2), some (.int v3), none, none] [.int r8, .ref b6] h9 _
      replace e := ck_as_e e
      obtain ⟨hc_11, e⟩ := e
      refine go_iald rfl hc_11 ?_
      refine go_aload_n rfl rfl ?_
      replace e := ck_as_e e
      obtain ⟨hk_12, e⟩ := e
      replace e := ck_some_e e
      obtain ⟨b13, hq_14, e⟩ := e
      refine go_get (v := .ref b13) rfl rfl hk_12 (by decide) (by show va_rf (gR h9 a0 36) = _; rw [hq_14]; rfl) ?_
      refine go_iload_n rfl rfl ?_
      replace e := ck_as_e e
      obtain ⟨hc_15, e⟩ := e
      refine go_iald rfl hc_15 ?_
      refine go_icmp_ne (t := 35) rfl rfl (fun hx_16 => ?_) (fun hx_16 => ?_)
      · rw [if_pos hx_16] at e
        refine go_iconst (v := 1) rfl (by decide) ?_
        refine go_goto (t := 36) rfl rfl ?_
        refine go_istore rfl rfl ?_
        show Go k_RM_keyedOn 38 [some (.ref a0), some (.int v1), some (.int v2), some (.int v3), some (.int 1), none] [] h9 _
        refine go_iconst (v := 0) rfl (by decide) ?_
        refine go_istore rfl rfl ?_
        show Go k_RM_keyedOn 41 [some (.ref a0), some (.int v1), some (.int v2), some (.int v3), some (.int 1), some (.int 0)] [] h9 _
        refine go_forget (l := [some (.ref a0), some (.int v1), some (.int v2), some (.int v3), some (.int 1), some (.int 0)]) ⟨Or.inl rfl, Or.inl rfl, Or.inl rfl, Or.inl rfl, Or.inl rfl, Or.inl rfl, trivial⟩ ?_
        exact f_RM_keyedOn_L41_s F (f_RM_keyedOn_L2 F n) ih F _ _ _ _ _ _ _ _ _ e
      · rw [if_neg hx_16] at e
        refine go_iconst (v := 0) rfl (by decide) ?_
        refine go_istore rfl rfl ?_
        show Go k_RM_keyedOn 38 [some (.ref a0), some (.int v1), some (.int v2), some (.int v3), some (.int 0), none] [] h9 _
        refine go_iconst (v := 0) rfl (by decide) ?_
        refine go_istore rfl rfl ?_
        show Go k_RM_keyedOn 41 [some (.ref a0), some (.int v1), some (.int v2), some (.int v3), some (.int 0), some (.int 0)] [] h9 _
        refine go_forget (l := [some (.ref a0), some (.int v1), some (.int v2), some (.int v3), some (.int 0), some (.int 0)]) ⟨Or.inl rfl, Or.inl rfl, Or.inl rfl, Or.inl rfl, Or.inl rfl, Or.inl rfl, trivial⟩ ?_
        exact f_RM_keyedOn_L41_s F (f_RM_keyedOn_L2 F n) ih F _ _ _ _ _ _ _ _ _ e
    · rw [if_neg hx_5] at e
      refine go_iconst (v := (-1)) rfl (by decide) ?_
      cases e
      exact go_ret rfl rfl
def f_RM_keyedOn (F : Nat) (a0 : Nat) (v1 : Int32) (v2 : Int32) (h : ck_H) : Option (Int32 × ck_H) :=
  f_RM_keyedOn_L2 F F a0 v1 v2 0 h
set_option maxRecDepth 100000 in
set_option maxHeartbeats 4000000 in
theorem s_RM_keyedOn {F : Nat} {a0 : Nat} {v1 : Int32} {v2 : Int32} {h h' : ck_H} {r : Int32} (e : f_RM_keyedOn F a0 v1 v2 h = some (r, h')) : Go k_RM_keyedOn 0 (ck_in [.ref a0, .int v1, .int v2] 6) [] h (some (.int r), h') := by
  unfold f_RM_keyedOn at e
  show Go k_RM_keyedOn 0 [some (.ref a0), some (.int v1), some (.int v2), none, none, none] [] h _
  refine go_iconst (v := 0) rfl (by decide) ?_
  refine go_istore_n rfl rfl ?_
  show Go k_RM_keyedOn 2 [some (.ref a0), some (.int v1), some (.int v2), some (.int 0), none, none] [] h _
  refine go_forget (l := [some (.ref a0), some (.int v1), some (.int v2), some (.int 0), none, none]) ⟨Or.inl rfl, Or.inl rfl, Or.inl rfl, Or.inl rfl, Or.inl rfl, Or.inl rfl, trivial⟩ ?_
  exact f_RM_keyedOn_L2_s F F _ _ _ _ _ _ _ e
def f_RM_keep_L3 (F : Nat)  : Nat → Nat → Int32 → Int32 → Int32 → Int32 → ck_H → Option (Unit × ck_H)
  | 0, _, _, _, _, _, _ => none
  | n + 1, a0, v1, v2, v3, v4, h =>
    ck_as (gk h a0 = 12) <|
    ck_some (gR h a0 37) fun b2 =>
    ck_as ((gk h b2 = 14 ∨ gk h b2 = 21) ∧ ¬ v1 < 0 ∧ (v1 : Int32).toNatClampNeg < gz h b2) <|
    if v4 < (gI h b2 (v1 : Int32).toNatClampNeg) then
      ck_some (gR h a0 0) fun b6 =>
      ck_bd (f_RM_dataAt F a0 v2 v3 h) fun r8 h9 =>
      ck_as (gk h9 a0 = 12) <|
      ck_some (gR h9 a0 9) fun b12 =>
      ck_some (gR h9 a0 36) fun b14 =>
      ck_as ((gk h9 b14 = 14 ∨ gk h9 b14 = 21) ∧ ¬ v1 < 0 ∧ (v1 : Int32).toNatClampNeg < gz h9 b14) <|
      ck_as ((gk h9 b12 = 13 ∨ gk h9 b12 = 15) ∧ ¬ ((gI h9 b14 (v1 : Int32).toNatClampNeg) + v4) < 0 ∧ ((gI h9 b14 (v1 : Int32).toNatClampNeg) + v4 : Int32).toNatClampNeg < gz h9 b12) <|
      ck_as (gk h9 b6 = 13 ∧ ¬ (r8 + v4) < 0 ∧ (r8 + v4 : Int32).toNatClampNeg < gz h9 b6) <|
      ck_then (wI h9 b6 (r8 + v4 : Int32).toNatClampNeg (gI h9 b12 ((gI h9 b14 (v1 : Int32).toNatClampNeg) + v4 : Int32).toNatClampNeg : Int32).toInt8.toInt32) fun h19 =>
      f_RM_keep_L3 F n a0 v1 v2 v3 (v4 + 1) h19
    else
      ck_some (gR h a0 8) fun b21 =>
      ck_bd (f_RM_at F v2 v3 h) fun r23 h24 =>
      ck_as (gk h24 b21 = 15 ∧ ((0 : Int32) = 0 ∨ (0 : Int32) = 1) ∧ ¬ r23 < 0 ∧ (r23 : Int32).toNatClampNeg < gz h24 b21) <|
      ck_then (wI h24 b21 (r23 : Int32).toNatClampNeg 0) fun h27 =>
      some ((), h27)
set_option maxRecDepth 100000 in
set_option maxHeartbeats 4000000 in
theorem f_RM_keep_L3_s (F : Nat)   : ∀ (n : Nat) (a0 : Nat) (v1 : Int32) (v2 : Int32) (v3 : Int32) (v4 : Int32) (h : ck_H) (r : Unit) (h' : ck_H), f_RM_keep_L3 F n a0 v1 v2 v3 v4 h = some (r, h') → Go k_RM_keep 3 [some (.ref a0), some (.int v1), some (.int v2), some (.int v3), some (.int v4)] [] h (none, h') := by
  intro n
  induction n with
  | zero => intro a0 v1 v2 v3 v4 h r h' e; simp only [f_RM_keep_L3] at e; cases e
  | succ n ih =>
    intro a0 v1 v2 v3 v4 h r h' e
    rw [f_RM_keep_L3] at e
    refine go_iload rfl rfl ?_
    refine go_aload_n rfl rfl ?_
    replace e := ck_as_e e
    obtain ⟨hk_1, e⟩ := e
    replace e := ck_some_e e
    obtain ⟨b2, hq_3, e⟩ := e
    refine go_get (v := .ref b2) rfl rfl hk_1 (by decide) (by show va_rf (gR h a0 37) = _; rw [hq_3]; rfl) ?_
    refine go_iload_n rfl rfl ?_
    replace e := ck_as_e e
    obtain ⟨hc_4, e⟩ := e
    refine go_iald rfl hc_4 ?_
    refine go_icmp_ge (t := 48) rfl rfl (fun hx_5 => ?_) (fun hx_5 => ?_)
    · rw [if_pos hx_5] at e
      refine go_aload_n rfl rfl ?_
      replace e := ck_some_e e
      obtain ⟨b6, hq_7, e⟩ := e
      refine go_get (v := .ref b6) rfl rfl hk_1 (by decide) (by show va_rf (gR h a0 0) = _; rw [hq_7]; rfl) ?_
      refine go_aload_n rfl rfl ?_
      refine go_iload_n rfl rfl ?_
      refine go_iload_n rfl rfl ?_
      replace e := ck_bd_e e
      obtain ⟨r8, h9, e10, e⟩ := e
      refine go_callV (As := [.int v2, .int v3]) (b0 := a0) (rest := [.ref b6]) rfl rfl ⟨hk_1, by decide⟩ rfl ⟨Nat.le_of_ble_eq_true rfl, Nat.le_of_ble_eq_true rfl, Nat.le_of_ble_eq_true rfl, Nat.le_of_ble_eq_true rfl⟩ (s_RM_dataAt e10) ?_
      show Go k_RM_keep 24 [some (.ref a0), some (.int v1), some (.int v2), some (.int v3), some (.int v4)] [.int r8, .ref b6] h9 _
      refine go_iload rfl rfl ?_
      refine go_iadd rfl ?_
      refine go_aload_n rfl rfl ?_
      replace e := ck_as_e e
      obtain ⟨hk_11, e⟩ := e
      replace e := ck_some_e e
      obtain ⟨b12, hq_13, e⟩ := e
      refine go_get (v := .ref b12) rfl rfl hk_11 (by decide) (by show va_rf (gR h9 a0 9) = _; rw [hq_13]; rfl) ?_
      refine go_aload_n rfl rfl ?_
      replace e := ck_some_e e
      obtain ⟨b14, hq_15, e⟩ := e
      refine go_get (v := .ref b14) rfl rfl hk_11 (by decide) (by show va_rf (gR h9 a0 36) = _; rw [hq_15]; rfl) ?_
      refine go_iload_n rfl rfl ?_
      replace e := ck_as_e e
      obtain ⟨hc_16, e⟩ := e
      refine go_iald rfl hc_16 ?_
      refine go_iload rfl rfl ?_
      refine go_iadd rfl ?_
      replace e := ck_as_e e
      obtain ⟨hc_17, e⟩ := e
      refine go_bald rfl hc_17 ?_
      replace e := ck_as_e e
      obtain ⟨hc_18, e⟩ := e
      refine go_bast rfl hc_18 ?_
      have hk_20 : gk (wI h9 b6 (r8 + v4 : Int32).toNatClampNeg (gI h9 b12 ((gI h9 b14 (v1 : Int32).toNatClampNeg) + v4 : Int32).toNatClampNeg : Int32).toInt8.toInt32) a0 = 12 := ck_kI.trans hk_11
      generalize wI h9 b6 (r8 + v4 : Int32).toNatClampNeg (gI h9 b12 ((gI h9 b14 (v1 : Int32).toNatClampNeg) + v4 : Int32).toNatClampNeg : Int32).toInt8.toInt32 = h19 at e hk_20 ⊢
      replace e := ck_then_e e
      refine go_iinc (v := 1) rfl rfl (by decide) rfl ?_
      show Go k_RM_keep 45 [some (.ref a0), some (.int v1), some (.int v2), some (.int v3), some (.int (v4 + 1))] [] h19 _
      refine go_goto (t := 3) rfl rfl ?_
      refine go_forget (l := [some (.ref a0), some (.int v1), some (.int v2), some (.int v3), some (.int (v4 + 1))]) ⟨Or.inl rfl, Or.inl rfl, Or.inl rfl, Or.inl rfl, Or.inl rfl, trivial⟩ ?_
      exact ih _ _ _ _ _ _ _ _ e
    · rw [if_neg hx_5] at e
      refine go_aload_n rfl rfl ?_
      replace e := ck_some_e e
      obtain ⟨b21, hq_22, e⟩ := e
      refine go_get (v := .ref b21) rfl rfl hk_1 (by decide) (by show va_rf (gR h a0 8) = _; rw [hq_22]; rfl) ?_
      refine go_iload_n rfl rfl ?_
      refine go_iload_n rfl rfl ?_
      replace e := ck_bd_e e
      obtain ⟨r23, h24, e25, e⟩ := e
      refine go_callS (As := [.int v2, .int v3]) (rest := [.ref b21]) rfl rfl rfl ⟨Nat.le_of_ble_eq_true rfl, Nat.le_of_ble_eq_true rfl, Nat.le_of_ble_eq_true rfl, Nat.le_of_ble_eq_true rfl⟩ (s_RM_at e25) ?_
      show Go k_RM_keep 57 [some (.ref a0), some (.int v1), some (.int v2), some (.int v3), some (.int v4)] [.int r23, .ref b21] h24 _
      refine go_iconst (v := 0) rfl (by decide) ?_
      replace e := ck_as_e e
      obtain ⟨hc_26, e⟩ := e
      refine go_zast rfl hc_26 ?_
      generalize wI h24 b21 (r23 : Int32).toNatClampNeg 0 = h27 at e  ⊢
      replace e := ck_then_e e
      cases e
      exact go_ret rfl rfl
def f_RM_keep (F : Nat) (a0 : Nat) (v1 : Int32) (v2 : Int32) (v3 : Int32) (h : ck_H) : Option (Unit × ck_H) :=
  f_RM_keep_L3 F F a0 v1 v2 v3 0 h
set_option maxRecDepth 100000 in
set_option maxHeartbeats 4000000 in
theorem s_RM_keep {F : Nat} {a0 : Nat} {v1 : Int32} {v2 : Int32} {v3 : Int32} {h h' : ck_H} {r : Unit} (e : f_RM_keep F a0 v1 v2 v3 h = some (r, h')) : Go k_RM_keep 0 (ck_in [.ref a0, .int v1, .int v2, .int v3] 5) [] h (none, h') := by
  unfold f_RM_keep at e
  show Go k_RM_keep 0 [some (.ref a0), some (.int v1), some (.int v2), some (.int v3), none] [] h _
  refine go_iconst (v := 0) rfl (by decide) ?_
  refine go_istore rfl rfl ?_
  show Go k_RM_keep 3 [some (.ref a0), some (.int v1), some (.int v2), some (.int v3), some (.int 0)] [] h _
  refine go_forget (l := [some (.ref a0), some (.int v1), some (.int v2), some (.int v3), some (.int 0)]) ⟨Or.inl rfl, Or.inl rfl, Or.inl rfl, Or.inl rfl, Or.inl rfl, trivial⟩ ?_
  exact f_RM_keep_L3_s F F _ _ _ _ _ _ _ _ e
def f_RM_putKeyed_L210 (F : Nat)  : Nat → Nat → Int32 → Int32 → Int32 → Int32 → Int32 → ck_H → Option (Int32 × ck_H)
  | 0, _, _, _, _, _, _, _ => none
  | n + 1, a0, v1, v3, v5, v6, v7, h =>
    ck_as (gk h a0 = 12) <|
    ck_some (gR h a0 36) fun b2 =>
    ck_as ((gk h b2 = 14 ∨ gk h b2 = 21) ∧ ¬ v3 < 0 ∧ (v3 : Int32).toNatClampNeg < gz h b2) <|
    if v7 < (gI h b2 (v3 : Int32).toNatClampNeg) then
      ck_some (gR h a0 0) fun b6 =>
      ck_bd (f_RM_keyAt F a0 v5 v6 h) fun r8 h9 =>
      ck_as (gk h9 a0 = 12) <|
      ck_some (gR h9 a0 9) fun b12 =>
      ck_as ((gk h9 b12 = 13 ∨ gk h9 b12 = 15) ∧ ¬ v7 < 0 ∧ (v7 : Int32).toNatClampNeg < gz h9 b12) <|
      ck_as (gk h9 b6 = 13 ∧ ¬ (r8 + v7) < 0 ∧ (r8 + v7 : Int32).toNatClampNeg < gz h9 b6) <|
      ck_then (wI h9 b6 (r8 + v7 : Int32).toNatClampNeg (gI h9 b12 (v7 : Int32).toNatClampNeg : Int32).toInt8.toInt32) fun h16 =>
      f_RM_putKeyed_L210 F n a0 v1 v3 v5 v6 (v7 + 1) h16
    else
      ck_bd (f_RM_keep F a0 v3 v5 v6 h) fun _ h19 =>
      ck_as (gk h19 a0 = 12) <|
      ck_some (gR h19 a0 52) fun b22 =>
      ck_as ((gk h19 b22 = 14 ∨ gk h19 b22 = 21) ∧ ¬ v1 < 0 ∧ (v1 : Int32).toNatClampNeg < gz h19 b22) <|
      ck_as (gk h19 b22 = 14 ∧ ¬ v1 < 0 ∧ (v1 : Int32).toNatClampNeg < gz h19 b22) <|
      ck_then (wI h19 b22 (v1 : Int32).toNatClampNeg ((gI h19 b22 (v1 : Int32).toNatClampNeg) + 1)) fun h26 =>
      some (2, h26)
set_option maxRecDepth 100000 in
set_option maxHeartbeats 4000000 in
theorem f_RM_putKeyed_L210_s (F : Nat)   : ∀ (n : Nat) (a0 : Nat) (v1 : Int32) (v3 : Int32) (v5 : Int32) (v6 : Int32) (v7 : Int32) (h : ck_H) (r : Int32) (h' : ck_H), f_RM_putKeyed_L210 F n a0 v1 v3 v5 v6 v7 h = some (r, h') → Go k_RM_putKeyed 210 [some (.ref a0), some (.int v1), none, some (.int v3), none, some (.int v5), some (.int v6), some (.int v7)] [] h (some (.int r), h') := by
  intro n
  induction n with
  | zero => intro a0 v1 v3 v5 v6 v7 h r h' e; simp only [f_RM_putKeyed_L210] at e; cases e
  | succ n ih =>
    intro a0 v1 v3 v5 v6 v7 h r h' e
    rw [f_RM_putKeyed_L210] at e
    refine go_iload rfl rfl ?_
    refine go_aload_n rfl rfl ?_
    replace e := ck_as_e e
    obtain ⟨hk_1, e⟩ := e
    replace e := ck_some_e e
    obtain ⟨b2, hq_3, e⟩ := e
    refine go_get (v := .ref b2) rfl rfl hk_1 (by decide) (by show va_rf (gR h a0 36) = _; rw [hq_3]; rfl) ?_
    refine go_iload_n rfl rfl ?_
    replace e := ck_as_e e
    obtain ⟨hc_4, e⟩ := e
    refine go_iald rfl hc_4 ?_
    refine go_icmp_ge (t := 250) rfl rfl (fun hx_5 => ?_) (fun hx_5 => ?_)
    · rw [if_pos hx_5] at e
      refine go_aload_n rfl rfl ?_
      replace e := ck_some_e e
      obtain ⟨b6, hq_7, e⟩ := e
      refine go_get (v := .ref b6) rfl rfl hk_1 (by decide) (by show va_rf (gR h a0 0) = _; rw [hq_7]; rfl) ?_
      refine go_aload_n rfl rfl ?_
      refine go_iload rfl rfl ?_
      refine go_iload rfl rfl ?_
      replace e := ck_bd_e e
      obtain ⟨r8, h9, e10, e⟩ := e
      refine go_callV (As := [.int v5, .int v6]) (b0 := a0) (rest := [.ref b6]) rfl rfl ⟨hk_1, by decide⟩ rfl ⟨Nat.le_of_ble_eq_true rfl, Nat.le_of_ble_eq_true rfl, Nat.le_of_ble_eq_true rfl, Nat.le_of_ble_eq_true rfl⟩ (s_RM_keyAt e10) ?_
      show Go k_RM_putKeyed 233 [some (.ref a0), some (.int v1), none, some (.int v3), none, some (.int v5), some (.int v6), some (.int v7)] [.int r8, .ref b6] h9 _
      refine go_iload rfl rfl ?_
      refine go_iadd rfl ?_
      refine go_aload_n rfl rfl ?_
      replace e := ck_as_e e
      obtain ⟨hk_11, e⟩ := e
      replace e := ck_some_e e
      obtain ⟨b12, hq_13, e⟩ := e
      refine go_get (v := .ref b12) rfl rfl hk_11 (by decide) (by show va_rf (gR h9 a0 9) = _; rw [hq_13]; rfl) ?_
      refine go_iload rfl rfl ?_
      replace e := ck_as_e e
      obtain ⟨hc_14, e⟩ := e
      refine go_bald rfl hc_14 ?_
      replace e := ck_as_e e
      obtain ⟨hc_15, e⟩ := e
      refine go_bast rfl hc_15 ?_
      have hk_17 : gk (wI h9 b6 (r8 + v7 : Int32).toNatClampNeg (gI h9 b12 (v7 : Int32).toNatClampNeg : Int32).toInt8.toInt32) a0 = 12 := ck_kI.trans hk_11
      generalize wI h9 b6 (r8 + v7 : Int32).toNatClampNeg (gI h9 b12 (v7 : Int32).toNatClampNeg : Int32).toInt8.toInt32 = h16 at e hk_17 ⊢
      replace e := ck_then_e e
      refine go_iinc (v := 1) rfl rfl (by decide) rfl ?_
      show Go k_RM_putKeyed 247 [some (.ref a0), some (.int v1), none, some (.int v3), none, some (.int v5), some (.int v6), some (.int (v7 + 1))] [] h16 _
      refine go_goto (t := 210) rfl rfl ?_
      refine go_forget (l := [some (.ref a0), some (.int v1), none, some (.int v3), none, some (.int v5), some (.int v6), some (.int (v7 + 1))]) ⟨Or.inl rfl, Or.inl rfl, Or.inl rfl, Or.inl rfl, Or.inl rfl, Or.inl rfl, Or.inl rfl, Or.inl rfl, trivial⟩ ?_
      exact ih _ _ _ _ _ _ _ _ _ e
    · rw [if_neg hx_5] at e
      refine go_aload_n rfl rfl ?_
      refine go_iload_n rfl rfl ?_
      refine go_iload rfl rfl ?_
      refine go_iload rfl rfl ?_
      replace e := ck_bd_e e
      obtain ⟨r18, h19, e20, e⟩ := e
      refine go_callV (As := [.int v3, .int v5, .int v6]) (b0 := a0) (rest := []) rfl rfl ⟨hk_1, by decide⟩ rfl ⟨Nat.le_of_ble_eq_true rfl, Nat.le_of_ble_eq_true rfl, Nat.le_of_ble_eq_true rfl, Nat.le_of_ble_eq_true rfl⟩ (s_RM_keep e20) ?_
      show Go k_RM_putKeyed 259 [some (.ref a0), some (.int v1), none, some (.int v3), none, some (.int v5), some (.int v6), some (.int v7)] [] h19 _
      refine go_aload_n rfl rfl ?_
      replace e := ck_as_e e
      obtain ⟨hk_21, e⟩ := e
      replace e := ck_some_e e
      obtain ⟨b22, hq_23, e⟩ := e
      refine go_get (v := .ref b22) rfl rfl hk_21 (by decide) (by show va_rf (gR h19 a0 52) = _; rw [hq_23]; rfl) ?_
      refine go_iload_n rfl rfl ?_
      refine go_dup2 rfl rfl rfl ?_
      replace e := ck_as_e e
      obtain ⟨hc_24, e⟩ := e
      refine go_iald rfl hc_24 ?_
      refine go_iconst (v := 1) rfl (by decide) ?_
      refine go_iadd rfl ?_
      replace e := ck_as_e e
      obtain ⟨hc_25, e⟩ := e
      refine go_iast rfl hc_25 ?_
      have hk_27 : gk (wI h19 b22 (v1 : Int32).toNatClampNeg ((gI h19 b22 (v1 : Int32).toNatClampNeg) + 1)) a0 = 12 := ck_kI.trans hk_21
      generalize wI h19 b22 (v1 : Int32).toNatClampNeg ((gI h19 b22 (v1 : Int32).toNatClampNeg) + 1) = h26 at e hk_27 ⊢
      replace e := ck_then_e e
      refine go_iconst (v := 2) rfl (by decide) ?_
      cases e
      exact go_ret rfl rfl
def f_RM_putKeyed_L138 (F : Nat)  : Nat → Nat → Int32 → Int32 → Int32 → Int32 → ck_H → Option (Int32 × ck_H)
  | 0, _, _, _, _, _, _ => none
  | n + 1, a0, v1, v2, v3, v4, h =>
    ck_as (gk h a0 = 12) <|
    ck_bd (f_RM_lookedMany F a0 v3 h) fun r2 h3 =>
    if v4 < r2 then
      ck_as (gk h3 a0 = 12) <|
      ck_bd (f_RM_lookedTrack F a0 v3 v4 h3) fun r7 h8 =>
      ck_as (gk h8 a0 = 12) <|
      ck_bd (f_RM_hasRoom F a0 r7 v2 h8) fun r11 h12 =>
      if r11 = (0 : Int32) then
        f_RM_putKeyed_L138 F n a0 v1 v2 v3 (v4 + 1) h12
      else
        ck_as (gk h12 a0 = 12) <|
        ck_some (gR h12 a0 1) fun b16 =>
        ck_as ((gk h12 b16 = 14 ∨ gk h12 b16 = 21) ∧ ¬ r7 < 0 ∧ (r7 : Int32).toNatClampNeg < gz h12 b16) <|
        ck_some (gR h12 a0 36) fun b19 =>
        ck_as ((gk h12 b19 = 14 ∨ gk h12 b19 = 21) ∧ ¬ v3 < 0 ∧ (v3 : Int32).toNatClampNeg < gz h12 b19) <|
        ck_some (gR h12 a0 37) fun b22 =>
        ck_as ((gk h12 b22 = 14 ∨ gk h12 b22 = 21) ∧ ¬ v3 < 0 ∧ (v3 : Int32).toNatClampNeg < gz h12 b22) <|
        ck_bd (f_RM_add F a0 r7 (r7 / 4) (r7 - r7 / 4 * 4) ((gI h12 b16 (r7 : Int32).toNatClampNeg) + 1) (gI h12 b19 (v3 : Int32).toNatClampNeg) (gI h12 b22 (v3 : Int32).toNatClampNeg) h12) fun r25 h26 =>
        f_RM_putKeyed_L210 F F a0 v1 v3 r7 r25 0 h26
    else
      some ((-4), h3)
set_option maxRecDepth 100000 in
set_option maxHeartbeats 4000000 in
theorem f_RM_putKeyed_L138_s (F : Nat)   : ∀ (n : Nat) (a0 : Nat) (v1 : Int32) (v2 : Int32) (v3 : Int32) (v4 : Int32) (h : ck_H) (r : Int32) (h' : ck_H), f_RM_putKeyed_L138 F n a0 v1 v2 v3 v4 h = some (r, h') → Go k_RM_putKeyed 138 [some (.ref a0), some (.int v1), some (.int v2), some (.int v3), some (.int v4), none, none, none] [] h (some (.int r), h') := by
  intro n
  induction n with
  | zero => intro a0 v1 v2 v3 v4 h r h' e; simp only [f_RM_putKeyed_L138] at e; cases e
  | succ n ih =>
    intro a0 v1 v2 v3 v4 h r h' e
    rw [f_RM_putKeyed_L138] at e
    refine go_iload rfl rfl ?_
    refine go_aload_n rfl rfl ?_
    refine go_iload_n rfl rfl ?_
    replace e := ck_as_e e
    obtain ⟨hk_1, e⟩ := e
    replace e := ck_bd_e e
    obtain ⟨r2, h3, e4, e⟩ := e
    refine go_callV (As := [.int v3]) (b0 := a0) (rest := [.int v4]) rfl rfl ⟨hk_1, by decide⟩ rfl ⟨Nat.le_of_ble_eq_true rfl, Nat.le_of_ble_eq_true rfl, Nat.le_of_ble_eq_true rfl, Nat.le_of_ble_eq_true rfl⟩ (s_RM_lookedMany e4) ?_
    show Go k_RM_putKeyed 145 [some (.ref a0), some (.int v1), some (.int v2), some (.int v3), some (.int v4), none, none, none] [.int r2, .int v4] h3 _
    refine go_icmp_ge (t := 277) rfl rfl (fun hx_5 => ?_) (fun hx_5 => ?_)
    · rw [if_pos hx_5] at e
      refine go_aload_n rfl rfl ?_
      refine go_iload_n rfl rfl ?_
      refine go_iload rfl rfl ?_
      replace e := ck_as_e e
      obtain ⟨hk_6, e⟩ := e
      replace e := ck_bd_e e
      obtain ⟨r7, h8, e9, e⟩ := e
      refine go_callV (As := [.int v3, .int v4]) (b0 := a0) (rest := []) rfl rfl ⟨hk_6, by decide⟩ rfl ⟨Nat.le_of_ble_eq_true rfl, Nat.le_of_ble_eq_true rfl, Nat.le_of_ble_eq_true rfl, Nat.le_of_ble_eq_true rfl⟩ (s_RM_lookedTrack e9) ?_
      show Go k_RM_putKeyed 155 [some (.ref a0), some (.int v1), some (.int v2), some (.int v3), some (.int v4), none, none, none] [.int r7] h8 _
      refine go_istore rfl rfl ?_
      show Go k_RM_putKeyed 157 [some (.ref a0), some (.int v1), some (.int v2), some (.int v3), some (.int v4), some (.int r7), none, none] [] h8 _
      refine go_aload_n rfl rfl ?_
      refine go_iload rfl rfl ?_
      refine go_iload_n rfl rfl ?_
      replace e := ck_as_e e
      obtain ⟨hk_10, e⟩ := e
      replace e := ck_bd_e e
      obtain ⟨r11, h12, e13, e⟩ := e
      refine go_callV (As := [.int r7, .int v2]) (b0 := a0) (rest := []) rfl rfl ⟨hk_10, by decide⟩ rfl ⟨Nat.le_of_ble_eq_true rfl, Nat.le_of_ble_eq_true rfl, Nat.le_of_ble_eq_true rfl, Nat.le_of_ble_eq_true rfl⟩ (s_RM_hasRoom e13) ?_
      show Go k_RM_putKeyed 164 [some (.ref a0), some (.int v1), some (.int v2), some (.int v3), some (.int v4), some (.int r7), none, none] [.int r11] h12 _
      refine go_if_ne (t := 170) rfl rfl (fun hx_14 => ?_) (fun hx_14 => ?_)
      · rw [if_pos hx_14] at e
        refine go_goto (t := 271) rfl rfl ?_
        refine go_iinc (v := 1) rfl rfl (by decide) rfl ?_
        show Go k_RM_putKeyed 274 [some (.ref a0), some (.int v1), some (.int v2), some (.int v3), some (.int (v4 + 1)), some (.int r7), none, none] [] h12 _
        refine go_goto (t := 138) rfl rfl ?_
        refine go_forget (l := [some (.ref a0), some (.int v1), some (.int v2), some (.int v3), some (.int (v4 + 1)), none, none, none]) ⟨Or.inl rfl, Or.inl rfl, Or.inl rfl, Or.inl rfl, Or.inl rfl, Or.inr ⟨rfl, fun _ q => by cases q; rfl⟩, Or.inl rfl, Or.inl rfl, trivial⟩ ?_
        exact ih _ _ _ _ _ _ _ _ e
      · rw [if_neg hx_14] at e
        refine go_aload_n rfl rfl ?_
        refine go_iload rfl rfl ?_
        refine go_iload rfl rfl ?_
        refine go_iconst (v := 4) rfl (by decide) ?_
        refine go_idiv rfl (by decide) ?_
        refine go_iload rfl rfl ?_
        refine go_iconst (v := 4) rfl (by decide) ?_
        refine go_irem rfl (by decide) ?_
        refine go_aload_n rfl rfl ?_
        replace e := ck_as_e e
        obtain ⟨hk_15, e⟩ := e
        replace e := ck_some_e e
        obtain ⟨b16, hq_17, e⟩ := e
        refine go_get (v := .ref b16) rfl rfl hk_15 (by decide) (by show va_rf (gR h12 a0 1) = _; rw [hq_17]; rfl) ?_
        refine go_iload rfl rfl ?_
        replace e := ck_as_e e
        obtain ⟨hc_18, e⟩ := e
        refine go_iald rfl hc_18 ?_
        refine go_iconst (v := 1) rfl (by decide) ?_
        refine go_iadd rfl ?_
        refine go_aload_n rfl rfl ?_
        replace e := ck_some_e e
        obtain ⟨b19, hq_20, e⟩ := e
        refine go_get (v := .ref b19) rfl rfl hk_15 (by decide) (by show va_rf (gR h12 a0 36) = _; rw [hq_20]; rfl) ?_
        refine go_iload_n rfl rfl ?_
        replace e := ck_as_e e
        obtain ⟨hc_21, e⟩ := e
        refine go_iald rfl hc_21 ?_
        refine go_aload_n rfl rfl ?_
        replace e := ck_some_e e
        obtain ⟨b22, hq_23, e⟩ := e
        refine go_get (v := .ref b22) rfl rfl hk_15 (by decide) (by show va_rf (gR h12 a0 37) = _; rw [hq_23]; rfl) ?_
        refine go_iload_n rfl rfl ?_
        replace e := ck_as_e e
        obtain ⟨hc_24, e⟩ := e
        refine go_iald rfl hc_24 ?_
        replace e := ck_bd_e e
        obtain ⟨r25, h26, e27, e⟩ := e
        refine go_callV (As := [.int r7, .int (r7 / 4), .int (r7 - r7 / 4 * 4), .int ((gI h12 b16 (r7 : Int32).toNatClampNeg) + 1), .int (gI h12 b19 (v3 : Int32).toNatClampNeg), .int (gI h12 b22 (v3 : Int32).toNatClampNeg)]) (b0 := a0) (rest := []) rfl rfl ⟨hk_15, by decide⟩ rfl ⟨Nat.le_of_ble_eq_true rfl, Nat.le_of_ble_eq_true rfl, Nat.le_of_ble_eq_true rfl, Nat.le_of_ble_eq_true rfl⟩ (s_RM_add e27) ?_
        show Go k_RM_putKeyed 205 [some (.ref a0), some (.int v1), some (.int v2), some (.int v3), some (.int v4), some (.int r7), none, none] [.int r25] h26 _
        refine go_istore rfl rfl ?_
        show Go k_RM_putKeyed 207 [some (.ref a0), some (.int v1), some (.int v2), some (.int v3), some (.int v4), some (.int r7), some (.int r25), none] [] h26 _
        refine go_iconst (v := 0) rfl (by decide) ?_
        refine go_istore rfl rfl ?_
        show Go k_RM_putKeyed 210 [some (.ref a0), some (.int v1), some (.int v2), some (.int v3), some (.int v4), some (.int r7), some (.int r25), some (.int 0)] [] h26 _
        refine go_forget (l := [some (.ref a0), some (.int v1), none, some (.int v3), none, some (.int r7), some (.int r25), some (.int 0)]) ⟨Or.inl rfl, Or.inl rfl, Or.inr ⟨rfl, fun _ q => by cases q; rfl⟩, Or.inl rfl, Or.inr ⟨rfl, fun _ q => by cases q; rfl⟩, Or.inl rfl, Or.inl rfl, Or.inl rfl, trivial⟩ ?_
        exact f_RM_putKeyed_L210_s F F _ _ _ _ _ _ _ _ _ e
    · rw [if_neg hx_5] at e
      refine go_bipush (v := (-4)) rfl (by decide) ?_
      cases e
      exact go_ret rfl rfl
def f_RM_putKeyed_L71 (F : Nat)  : Nat → Nat → Int32 → Int32 → Int32 → Int32 → ck_H → Option (Int32 × ck_H)
  | 0, _, _, _, _, _, _ => none
  | n + 1, a0, v1, v2, v3, v4, h =>
    ck_as (gk h a0 = 12) <|
    ck_bd (f_RM_lookedMany F a0 v3 h) fun r2 h3 =>
    if v4 < r2 then
      ck_as (gk h3 a0 = 12) <|
      ck_bd (f_RM_lookedTrack F a0 v3 v4 h3) fun r7 h8 =>
      ck_as (gk h8 a0 = 12) <|
      ck_bd (f_RM_keyedOn F a0 v3 r7 h8) fun r11 h12 =>
      if r11 = ((-1) : Int32) then
        f_RM_putKeyed_L71 F n a0 v1 v2 v3 (v4 + 1) h12
      else
        ck_as (gk h12 a0 = 12) <|
        ck_bd (f_RM_keep F a0 v3 r7 r11 h12) fun _ h17 =>
        ck_as (gk h17 a0 = 12) <|
        ck_some (gR h17 a0 52) fun b20 =>
        ck_as ((gk h17 b20 = 14 ∨ gk h17 b20 = 21) ∧ ¬ v1 < 0 ∧ (v1 : Int32).toNatClampNeg < gz h17 b20) <|
        ck_as (gk h17 b20 = 14 ∧ ¬ v1 < 0 ∧ (v1 : Int32).toNatClampNeg < gz h17 b20) <|
        ck_then (wI h17 b20 (v1 : Int32).toNatClampNeg ((gI h17 b20 (v1 : Int32).toNatClampNeg) + 1)) fun h24 =>
        some (1, h24)
    else
      f_RM_putKeyed_L138 F F a0 v1 v2 v3 0 h3
set_option maxRecDepth 100000 in
set_option maxHeartbeats 4000000 in
theorem f_RM_putKeyed_L71_s (F : Nat)   : ∀ (n : Nat) (a0 : Nat) (v1 : Int32) (v2 : Int32) (v3 : Int32) (v4 : Int32) (h : ck_H) (r : Int32) (h' : ck_H), f_RM_putKeyed_L71 F n a0 v1 v2 v3 v4 h = some (r, h') → Go k_RM_putKeyed 71 [some (.ref a0), some (.int v1), some (.int v2), some (.int v3), some (.int v4), none, none, none] [] h (some (.int r), h') := by
  intro n
  induction n with
  | zero => intro a0 v1 v2 v3 v4 h r h' e; simp only [f_RM_putKeyed_L71] at e; cases e
  | succ n ih =>
    intro a0 v1 v2 v3 v4 h r h' e
    rw [f_RM_putKeyed_L71] at e
    refine go_iload rfl rfl ?_
    refine go_aload_n rfl rfl ?_
    refine go_iload_n rfl rfl ?_
    replace e := ck_as_e e
    obtain ⟨hk_1, e⟩ := e
    replace e := ck_bd_e e
    obtain ⟨r2, h3, e4, e⟩ := e
    refine go_callV (As := [.int v3]) (b0 := a0) (rest := [.int v4]) rfl rfl ⟨hk_1, by decide⟩ rfl ⟨Nat.le_of_ble_eq_true rfl, Nat.le_of_ble_eq_true rfl, Nat.le_of_ble_eq_true rfl, Nat.le_of_ble_eq_true rfl⟩ (s_RM_lookedMany e4) ?_
    show Go k_RM_putKeyed 78 [some (.ref a0), some (.int v1), some (.int v2), some (.int v3), some (.int v4), none, none, none] [.int r2, .int v4] h3 _
    refine go_icmp_ge (t := 135) rfl rfl (fun hx_5 => ?_) (fun hx_5 => ?_)
    · rw [if_pos hx_5] at e
      refine go_aload_n rfl rfl ?_
      refine go_iload_n rfl rfl ?_
      refine go_iload rfl rfl ?_
      replace e := ck_as_e e
      obtain ⟨hk_6, e⟩ := e
      replace e := ck_bd_e e
      obtain ⟨r7, h8, e9, e⟩ := e
      refine go_callV (As := [.int v3, .int v4]) (b0 := a0) (rest := []) rfl rfl ⟨hk_6, by decide⟩ rfl ⟨Nat.le_of_ble_eq_true rfl, Nat.le_of_ble_eq_true rfl, Nat.le_of_ble_eq_true rfl, Nat.le_of_ble_eq_true rfl⟩ (s_RM_lookedTrack e9) ?_
      show Go k_RM_putKeyed 88 [some (.ref a0), some (.int v1), some (.int v2), some (.int v3), some (.int v4), none, none, none] [.int r7] h8 _
      refine go_istore rfl rfl ?_
      show Go k_RM_putKeyed 90 [some (.ref a0), some (.int v1), some (.int v2), some (.int v3), some (.int v4), some (.int r7), none, none] [] h8 _
      refine go_aload_n rfl rfl ?_
      refine go_iload_n rfl rfl ?_
      refine go_iload rfl rfl ?_
      replace e := ck_as_e e
      obtain ⟨hk_10, e⟩ := e
      replace e := ck_bd_e e
      obtain ⟨r11, h12, e13, e⟩ := e
      refine go_callV (As := [.int v3, .int r7]) (b0 := a0) (rest := []) rfl rfl ⟨hk_10, by decide⟩ rfl ⟨Nat.le_of_ble_eq_true rfl, Nat.le_of_ble_eq_true rfl, Nat.le_of_ble_eq_true rfl, Nat.le_of_ble_eq_true rfl⟩ (s_RM_keyedOn e13) ?_
      show Go k_RM_putKeyed 97 [some (.ref a0), some (.int v1), some (.int v2), some (.int v3), some (.int v4), some (.int r7), none, none] [.int r11] h12 _
      refine go_istore rfl rfl ?_
      show Go k_RM_putKeyed 99 [some (.ref a0), some (.int v1), some (.int v2), some (.int v3), some (.int v4), some (.int r7), some (.int r11), none] [] h12 _
      refine go_iload rfl rfl ?_
      refine go_iconst (v := (-1)) rfl (by decide) ?_
      refine go_icmp_ne (t := 108) rfl rfl (fun hx_14 => ?_) (fun hx_14 => ?_)
      · rw [if_pos hx_14] at e
        refine go_goto (t := 129) rfl rfl ?_
        refine go_iinc (v := 1) rfl rfl (by decide) rfl ?_
        show Go k_RM_putKeyed 132 [some (.ref a0), some (.int v1), some (.int v2), some (.int v3), some (.int (v4 + 1)), some (.int r7), some (.int r11), none] [] h12 _
        refine go_goto (t := 71) rfl rfl ?_
        refine go_forget (l := [some (.ref a0), some (.int v1), some (.int v2), some (.int v3), some (.int (v4 + 1)), none, none, none]) ⟨Or.inl rfl, Or.inl rfl, Or.inl rfl, Or.inl rfl, Or.inl rfl, Or.inr ⟨rfl, fun _ q => by cases q; rfl⟩, Or.inr ⟨rfl, fun _ q => by cases q; rfl⟩, Or.inl rfl, trivial⟩ ?_
        exact ih _ _ _ _ _ _ _ _ e
      · rw [if_neg hx_14] at e
        refine go_aload_n rfl rfl ?_
        refine go_iload_n rfl rfl ?_
        refine go_iload rfl rfl ?_
        refine go_iload rfl rfl ?_
        replace e := ck_as_e e
        obtain ⟨hk_15, e⟩ := e
        replace e := ck_bd_e e
        obtain ⟨r16, h17, e18, e⟩ := e
        refine go_callV (As := [.int v3, .int r7, .int r11]) (b0 := a0) (rest := []) rfl rfl ⟨hk_15, by decide⟩ rfl ⟨Nat.le_of_ble_eq_true rfl, Nat.le_of_ble_eq_true rfl, Nat.le_of_ble_eq_true rfl, Nat.le_of_ble_eq_true rfl⟩ (s_RM_keep e18) ?_
        show Go k_RM_putKeyed 117 [some (.ref a0), some (.int v1), some (.int v2), some (.int v3), some (.int v4), some (.int r7), some (.int r11), none] [] h17 _
        refine go_aload_n rfl rfl ?_
        replace e := ck_as_e e
        obtain ⟨hk_19, e⟩ := e
        replace e := ck_some_e e
        obtain ⟨b20, hq_21, e⟩ := e
        refine go_get (v := .ref b20) rfl rfl hk_19 (by decide) (by show va_rf (gR h17 a0 52) = _; rw [hq_21]; rfl) ?_
        refine go_iload_n rfl rfl ?_
        refine go_dup2 rfl rfl rfl ?_
        replace e := ck_as_e e
        obtain ⟨hc_22, e⟩ := e
        refine go_iald rfl hc_22 ?_
        refine go_iconst (v := 1) rfl (by decide) ?_
        refine go_iadd rfl ?_
        replace e := ck_as_e e
        obtain ⟨hc_23, e⟩ := e
        refine go_iast rfl hc_23 ?_
        have hk_25 : gk (wI h17 b20 (v1 : Int32).toNatClampNeg ((gI h17 b20 (v1 : Int32).toNatClampNeg) + 1)) a0 = 12 := ck_kI.trans hk_19
        generalize wI h17 b20 (v1 : Int32).toNatClampNeg ((gI h17 b20 (v1 : Int32).toNatClampNeg) + 1) = h24 at e hk_25 ⊢
        replace e := ck_then_e e
        refine go_iconst (v := 1) rfl (by decide) ?_
        cases e
        exact go_ret rfl rfl
    · rw [if_neg hx_5] at e
      refine go_iconst (v := 0) rfl (by decide) ?_
      refine go_istore rfl rfl ?_
      show Go k_RM_putKeyed 138 [some (.ref a0), some (.int v1), some (.int v2), some (.int v3), some (.int 0), none, none, none] [] h3 _
      refine go_forget (l := [some (.ref a0), some (.int v1), some (.int v2), some (.int v3), some (.int 0), none, none, none]) ⟨Or.inl rfl, Or.inl rfl, Or.inl rfl, Or.inl rfl, Or.inl rfl, Or.inl rfl, Or.inl rfl, Or.inl rfl, trivial⟩ ?_
      exact f_RM_putKeyed_L138_s F F _ _ _ _ _ _ _ _ e
def f_RM_putKeyed (F : Nat) (a0 : Nat) (v1 : Int32) (h : ck_H) : Option (Int32 × ck_H) :=
  ck_as (gk h a0 = 12) <|
  ck_bd (f_RM_read F a0 h) fun r2 h3 =>
  ck_as (gk h3 a0 = 12) <|
  ck_bd (f_RM_isHandle F a0 v1 h3) fun r6 h7 =>
  if r6 = (0 : Int32) then
    some ((-3), h7)
  else
    ck_as (gk h7 a0 = 12) <|
    ck_some (gR h7 a0 35) fun b11 =>
    ck_some (gR h7 a0 50) fun b13 =>
    ck_as ((gk h7 b13 = 14 ∨ gk h7 b13 = 21) ∧ ¬ v1 < 0 ∧ (v1 : Int32).toNatClampNeg < gz h7 b13) <|
    ck_as ((gk h7 b11 = 14 ∨ gk h7 b11 = 21) ∧ ¬ (gI h7 b13 (v1 : Int32).toNatClampNeg) < 0 ∧ (gI h7 b13 (v1 : Int32).toNatClampNeg : Int32).toNatClampNeg < gz h7 b11) <|
    if (gI h7 b11 (gI h7 b13 (v1 : Int32).toNatClampNeg : Int32).toNatClampNeg) = (3 : Int32) then
      ck_some (gR h7 a0 51) fun b18 =>
      ck_as ((gk h7 b18 = 14 ∨ gk h7 b18 = 21) ∧ ¬ v1 < 0 ∧ (v1 : Int32).toNatClampNeg < gz h7 b18) <|
      if (gI h7 b18 (v1 : Int32).toNatClampNeg) = (2 : Int32) then
        ck_some (gR h7 a0 50) fun b22 =>
        ck_as ((gk h7 b22 = 14 ∨ gk h7 b22 = 21) ∧ ¬ v1 < 0 ∧ (v1 : Int32).toNatClampNeg < gz h7 b22) <|
        ck_then (gI h7 b22 (v1 : Int32).toNatClampNeg) fun x25 =>
        ck_some (gR h7 a0 36) fun b26 =>
        ck_as ((gk h7 b26 = 14 ∨ gk h7 b26 = 21) ∧ ¬ x25 < 0 ∧ (x25 : Int32).toNatClampNeg < gz h7 b26) <|
        ck_some (gR h7 a0 37) fun b29 =>
        ck_as ((gk h7 b29 = 14 ∨ gk h7 b29 = 21) ∧ ¬ x25 < 0 ∧ (x25 : Int32).toNatClampNeg < gz h7 b29) <|
        if r2 = ((gI h7 b26 (x25 : Int32).toNatClampNeg) + (gI h7 b29 (x25 : Int32).toNatClampNeg)) then
          f_RM_putKeyed_L71 F F a0 v1 r2 x25 0 h7
        else
          some ((-5), h7)
      else
        some ((-3), h7)
    else
      some ((-3), h7)
set_option maxRecDepth 100000 in
set_option maxHeartbeats 4000000 in
theorem s_RM_putKeyed {F : Nat} {a0 : Nat} {v1 : Int32} {h h' : ck_H} {r : Int32} (e : f_RM_putKeyed F a0 v1 h = some (r, h')) : Go k_RM_putKeyed 0 (ck_in [.ref a0, .int v1] 8) [] h (some (.int r), h') := by
  unfold f_RM_putKeyed at e
  show Go k_RM_putKeyed 0 [some (.ref a0), some (.int v1), none, none, none, none, none, none] [] h _
  refine go_aload_n rfl rfl ?_
  replace e := ck_as_e e
  obtain ⟨hk_1, e⟩ := e
  replace e := ck_bd_e e
  obtain ⟨r2, h3, e4, e⟩ := e
  refine go_callV (As := []) (b0 := a0) (rest := []) rfl rfl ⟨hk_1, by decide⟩ rfl ⟨Nat.le_of_ble_eq_true rfl, Nat.le_of_ble_eq_true rfl, Nat.le_of_ble_eq_true rfl, Nat.le_of_ble_eq_true rfl⟩ (s_RM_read e4) ?_
  show Go k_RM_putKeyed 4 [some (.ref a0), some (.int v1), none, none, none, none, none, none] [.int r2] h3 _
  refine go_istore_n rfl rfl ?_
  show Go k_RM_putKeyed 5 [some (.ref a0), some (.int v1), some (.int r2), none, none, none, none, none] [] h3 _
  refine go_aload_n rfl rfl ?_
  refine go_iload_n rfl rfl ?_
  replace e := ck_as_e e
  obtain ⟨hk_5, e⟩ := e
  replace e := ck_bd_e e
  obtain ⟨r6, h7, e8, e⟩ := e
  refine go_callV (As := [.int v1]) (b0 := a0) (rest := []) rfl rfl ⟨hk_5, by decide⟩ rfl ⟨Nat.le_of_ble_eq_true rfl, Nat.le_of_ble_eq_true rfl, Nat.le_of_ble_eq_true rfl, Nat.le_of_ble_eq_true rfl⟩ (s_RM_isHandle e8) ?_
  show Go k_RM_putKeyed 10 [some (.ref a0), some (.int v1), some (.int r2), none, none, none, none, none] [.int r6] h7 _
  refine go_if_eq (t := 38) rfl rfl (fun hx_9 => ?_) (fun hx_9 => ?_)
  · rw [if_pos hx_9] at e
    refine go_bipush (v := (-3)) rfl (by decide) ?_
    cases e
    exact go_ret rfl rfl
  · rw [if_neg hx_9] at e
    refine go_aload_n rfl rfl ?_
    replace e := ck_as_e e
    obtain ⟨hk_10, e⟩ := e
    replace e := ck_some_e e
    obtain ⟨b11, hq_12, e⟩ := e
    refine go_get (v := .ref b11) rfl rfl hk_10 (by decide) (by show va_rf (gR h7 a0 35) = _; rw [hq_12]; rfl) ?_
    refine go_aload_n rfl rfl ?_
    replace e := ck_some_e e
    obtain ⟨b13, hq_14, e⟩ := e
    refine go_get (v := .ref b13) rfl rfl hk_10 (by decide) (by show va_rf (gR h7 a0 50) = _; rw [hq_14]; rfl) ?_
    refine go_iload_n rfl rfl ?_
    replace e := ck_as_e e
    obtain ⟨hc_15, e⟩ := e
    refine go_iald rfl hc_15 ?_
    replace e := ck_as_e e
    obtain ⟨hc_16, e⟩ := e
    refine go_iald rfl hc_16 ?_
    refine go_iconst (v := 3) rfl (by decide) ?_
    refine go_icmp_ne (t := 38) rfl rfl (fun hx_17 => ?_) (fun hx_17 => ?_)
    · rw [if_pos hx_17] at e
      refine go_aload_n rfl rfl ?_
      replace e := ck_some_e e
      obtain ⟨b18, hq_19, e⟩ := e
      refine go_get (v := .ref b18) rfl rfl hk_10 (by decide) (by show va_rf (gR h7 a0 51) = _; rw [hq_19]; rfl) ?_
      refine go_iload_n rfl rfl ?_
      replace e := ck_as_e e
      obtain ⟨hc_20, e⟩ := e
      refine go_iald rfl hc_20 ?_
      refine go_iconst (v := 2) rfl (by decide) ?_
      refine go_icmp_eq (t := 41) rfl rfl (fun hx_21 => ?_) (fun hx_21 => ?_)
      · rw [if_pos hx_21] at e
        refine go_aload_n rfl rfl ?_
        replace e := ck_some_e e
        obtain ⟨b22, hq_23, e⟩ := e
        refine go_get (v := .ref b22) rfl rfl hk_10 (by decide) (by show va_rf (gR h7 a0 50) = _; rw [hq_23]; rfl) ?_
        refine go_iload_n rfl rfl ?_
        replace e := ck_as_e e
        obtain ⟨hc_24, e⟩ := e
        refine go_iald rfl hc_24 ?_
        generalize gI h7 b22 (v1 : Int32).toNatClampNeg = x25 at e ⊢
        replace e := ck_then_e e
        refine go_istore_n rfl rfl ?_
        show Go k_RM_putKeyed 48 [some (.ref a0), some (.int v1), some (.int r2), some (.int x25), none, none, none, none] [] h7 _
        refine go_iload_n rfl rfl ?_
        refine go_aload_n rfl rfl ?_
        replace e := ck_some_e e
        obtain ⟨b26, hq_27, e⟩ := e
        refine go_get (v := .ref b26) rfl rfl hk_10 (by decide) (by show va_rf (gR h7 a0 36) = _; rw [hq_27]; rfl) ?_
        refine go_iload_n rfl rfl ?_
        replace e := ck_as_e e
        obtain ⟨hc_28, e⟩ := e
        refine go_iald rfl hc_28 ?_
        refine go_aload_n rfl rfl ?_
        replace e := ck_some_e e
        obtain ⟨b29, hq_30, e⟩ := e
        refine go_get (v := .ref b29) rfl rfl hk_10 (by decide) (by show va_rf (gR h7 a0 37) = _; rw [hq_30]; rfl) ?_
        refine go_iload_n rfl rfl ?_
        replace e := ck_as_e e
        obtain ⟨hc_31, e⟩ := e
        refine go_iald rfl hc_31 ?_
        refine go_iadd rfl ?_
        refine go_icmp_eq (t := 68) rfl rfl (fun hx_32 => ?_) (fun hx_32 => ?_)
        · rw [if_pos hx_32] at e
          refine go_iconst (v := 0) rfl (by decide) ?_
          refine go_istore rfl rfl ?_
          show Go k_RM_putKeyed 71 [some (.ref a0), some (.int v1), some (.int r2), some (.int x25), some (.int 0), none, none, none] [] h7 _
          refine go_forget (l := [some (.ref a0), some (.int v1), some (.int r2), some (.int x25), some (.int 0), none, none, none]) ⟨Or.inl rfl, Or.inl rfl, Or.inl rfl, Or.inl rfl, Or.inl rfl, Or.inl rfl, Or.inl rfl, Or.inl rfl, trivial⟩ ?_
          exact f_RM_putKeyed_L71_s F F _ _ _ _ _ _ _ _ e
        · rw [if_neg hx_32] at e
          refine go_bipush (v := (-5)) rfl (by decide) ?_
          cases e
          exact go_ret rfl rfl
      · rw [if_neg hx_21] at e
        refine go_bipush (v := (-3)) rfl (by decide) ?_
        cases e
        exact go_ret rfl rfl
    · rw [if_neg hx_17] at e
      refine go_bipush (v := (-3)) rfl (by decide) ?_
      cases e
      exact go_ret rfl rfl
def f_RM_getKeyed_L112 (F : Nat)  : Nat → Nat → Int32 → Int32 → Int32 → Int32 → Int32 → ck_H → Option (Int32 × ck_H)
  | 0, _, _, _, _, _, _, _ => none
  | n + 1, a0, v1, v3, v5, v6, v7, h =>
    ck_as (gk h a0 = 12) <|
    ck_some (gR h a0 37) fun b2 =>
    ck_as ((gk h b2 = 14 ∨ gk h b2 = 21) ∧ ¬ v3 < 0 ∧ (v3 : Int32).toNatClampNeg < gz h b2) <|
    if v7 < (gI h b2 (v3 : Int32).toNatClampNeg) then
      ck_some (gR h a0 10) fun b6 =>
      ck_some (gR h a0 0) fun b8 =>
      ck_bd (f_RM_dataAt F a0 v5 v6 h) fun r10 h11 =>
      ck_as ((gk h11 b8 = 13 ∨ gk h11 b8 = 15) ∧ ¬ (r10 + v7) < 0 ∧ (r10 + v7 : Int32).toNatClampNeg < gz h11 b8) <|
      ck_as (gk h11 b6 = 13 ∧ ¬ v7 < 0 ∧ (v7 : Int32).toNatClampNeg < gz h11 b6) <|
      ck_then (wI h11 b6 (v7 : Int32).toNatClampNeg (gI h11 b8 (r10 + v7 : Int32).toNatClampNeg : Int32).toInt8.toInt32) fun h15 =>
      f_RM_getKeyed_L112 F n a0 v1 v3 v5 v6 (v7 + 1) h15
    else
      ck_some (gR h a0 37) fun b16 =>
      ck_as ((gk h b16 = 14 ∨ gk h b16 = 21) ∧ ¬ v3 < 0 ∧ (v3 : Int32).toNatClampNeg < gz h b16) <|
      ck_then (wI h a0 12 (gI h b16 (v3 : Int32).toNatClampNeg)) fun h19 =>
      ck_some (gR h19 a0 52) fun b21 =>
      ck_as ((gk h19 b21 = 14 ∨ gk h19 b21 = 21) ∧ ¬ v1 < 0 ∧ (v1 : Int32).toNatClampNeg < gz h19 b21) <|
      ck_as (gk h19 b21 = 14 ∧ ¬ v1 < 0 ∧ (v1 : Int32).toNatClampNeg < gz h19 b21) <|
      ck_then (wI h19 b21 (v1 : Int32).toNatClampNeg ((gI h19 b21 (v1 : Int32).toNatClampNeg) + 1)) fun h25 =>
      ck_some (gR h25 a0 37) fun b27 =>
      ck_as ((gk h25 b27 = 14 ∨ gk h25 b27 = 21) ∧ ¬ v3 < 0 ∧ (v3 : Int32).toNatClampNeg < gz h25 b27) <|
      some (gI h25 b27 (v3 : Int32).toNatClampNeg, h25)
set_option maxRecDepth 100000 in
set_option maxHeartbeats 4000000 in
theorem f_RM_getKeyed_L112_s (F : Nat)   : ∀ (n : Nat) (a0 : Nat) (v1 : Int32) (v3 : Int32) (v5 : Int32) (v6 : Int32) (v7 : Int32) (h : ck_H) (r : Int32) (h' : ck_H), f_RM_getKeyed_L112 F n a0 v1 v3 v5 v6 v7 h = some (r, h') → Go k_RM_getKeyed 112 [some (.ref a0), some (.int v1), none, some (.int v3), none, some (.int v5), some (.int v6), some (.int v7)] [] h (some (.int r), h') := by
  intro n
  induction n with
  | zero => intro a0 v1 v3 v5 v6 v7 h r h' e; simp only [f_RM_getKeyed_L112] at e; cases e
  | succ n ih =>
    intro a0 v1 v3 v5 v6 v7 h r h' e
    rw [f_RM_getKeyed_L112] at e
    refine go_iload rfl rfl ?_
    refine go_aload_n rfl rfl ?_
    replace e := ck_as_e e
    obtain ⟨hk_1, e⟩ := e
    replace e := ck_some_e e
    obtain ⟨b2, hq_3, e⟩ := e
    refine go_get (v := .ref b2) rfl rfl hk_1 (by decide) (by show va_rf (gR h a0 37) = _; rw [hq_3]; rfl) ?_
    refine go_iload_n rfl rfl ?_
    replace e := ck_as_e e
    obtain ⟨hc_4, e⟩ := e
    refine go_iald rfl hc_4 ?_
    refine go_icmp_ge (t := 152) rfl rfl (fun hx_5 => ?_) (fun hx_5 => ?_)
    · rw [if_pos hx_5] at e
      refine go_aload_n rfl rfl ?_
      replace e := ck_some_e e
      obtain ⟨b6, hq_7, e⟩ := e
      refine go_get (v := .ref b6) rfl rfl hk_1 (by decide) (by show va_rf (gR h a0 10) = _; rw [hq_7]; rfl) ?_
      refine go_iload rfl rfl ?_
      refine go_aload_n rfl rfl ?_
      replace e := ck_some_e e
      obtain ⟨b8, hq_9, e⟩ := e
      refine go_get (v := .ref b8) rfl rfl hk_1 (by decide) (by show va_rf (gR h a0 0) = _; rw [hq_9]; rfl) ?_
      refine go_aload_n rfl rfl ?_
      refine go_iload rfl rfl ?_
      refine go_iload rfl rfl ?_
      replace e := ck_bd_e e
      obtain ⟨r10, h11, e12, e⟩ := e
      refine go_callV (As := [.int v5, .int v6]) (b0 := a0) (rest := [.ref b8, .int v7, .ref b6]) rfl rfl ⟨hk_1, by decide⟩ rfl ⟨Nat.le_of_ble_eq_true rfl, Nat.le_of_ble_eq_true rfl, Nat.le_of_ble_eq_true rfl, Nat.le_of_ble_eq_true rfl⟩ (s_RM_dataAt e12) ?_
      show Go k_RM_getKeyed 141 [some (.ref a0), some (.int v1), none, some (.int v3), none, some (.int v5), some (.int v6), some (.int v7)] [.int r10, .ref b8, .int v7, .ref b6] h11 _
      refine go_iload rfl rfl ?_
      refine go_iadd rfl ?_
      replace e := ck_as_e e
      obtain ⟨hc_13, e⟩ := e
      refine go_bald rfl hc_13 ?_
      replace e := ck_as_e e
      obtain ⟨hc_14, e⟩ := e
      refine go_bast rfl hc_14 ?_
      generalize wI h11 b6 (v7 : Int32).toNatClampNeg (gI h11 b8 (r10 + v7 : Int32).toNatClampNeg : Int32).toInt8.toInt32 = h15 at e  ⊢
      replace e := ck_then_e e
      refine go_iinc (v := 1) rfl rfl (by decide) rfl ?_
      show Go k_RM_getKeyed 149 [some (.ref a0), some (.int v1), none, some (.int v3), none, some (.int v5), some (.int v6), some (.int (v7 + 1))] [] h15 _
      refine go_goto (t := 112) rfl rfl ?_
      refine go_forget (l := [some (.ref a0), some (.int v1), none, some (.int v3), none, some (.int v5), some (.int v6), some (.int (v7 + 1))]) ⟨Or.inl rfl, Or.inl rfl, Or.inl rfl, Or.inl rfl, Or.inl rfl, Or.inl rfl, Or.inl rfl, Or.inl rfl, trivial⟩ ?_
      exact ih _ _ _ _ _ _ _ _ _ e
    · rw [if_neg hx_5] at e
      refine go_aload_n rfl rfl ?_
      refine go_aload_n rfl rfl ?_
      replace e := ck_some_e e
      obtain ⟨b16, hq_17, e⟩ := e
      refine go_get (v := .ref b16) rfl rfl hk_1 (by decide) (by show va_rf (gR h a0 37) = _; rw [hq_17]; rfl) ?_
      refine go_iload_n rfl rfl ?_
      replace e := ck_as_e e
      obtain ⟨hc_18, e⟩ := e
      refine go_iald rfl hc_18 ?_
      refine go_put (h1 := wI h a0 12 (gI h b16 (v3 : Int32).toNatClampNeg)) rfl rfl hk_1 ⟨by decide, by decide, Or.inl rfl⟩ rfl ?_
      have hk_20 : gk (wI h a0 12 (gI h b16 (v3 : Int32).toNatClampNeg)) a0 = 12 := ck_kI.trans hk_1
      generalize wI h a0 12 (gI h b16 (v3 : Int32).toNatClampNeg) = h19 at e hk_20 ⊢
      replace e := ck_then_e e
      refine go_aload_n rfl rfl ?_
      replace e := ck_some_e e
      obtain ⟨b21, hq_22, e⟩ := e
      refine go_get (v := .ref b21) rfl rfl hk_20 (by decide) (by show va_rf (gR h19 a0 52) = _; rw [hq_22]; rfl) ?_
      refine go_iload_n rfl rfl ?_
      refine go_dup2 rfl rfl rfl ?_
      replace e := ck_as_e e
      obtain ⟨hc_23, e⟩ := e
      refine go_iald rfl hc_23 ?_
      refine go_iconst (v := 1) rfl (by decide) ?_
      refine go_iadd rfl ?_
      replace e := ck_as_e e
      obtain ⟨hc_24, e⟩ := e
      refine go_iast rfl hc_24 ?_
      have hk_26 : gk (wI h19 b21 (v1 : Int32).toNatClampNeg ((gI h19 b21 (v1 : Int32).toNatClampNeg) + 1)) a0 = 12 := ck_kI.trans hk_20
      generalize wI h19 b21 (v1 : Int32).toNatClampNeg ((gI h19 b21 (v1 : Int32).toNatClampNeg) + 1) = h25 at e hk_26 ⊢
      replace e := ck_then_e e
      refine go_aload_n rfl rfl ?_
      replace e := ck_some_e e
      obtain ⟨b27, hq_28, e⟩ := e
      refine go_get (v := .ref b27) rfl rfl hk_26 (by decide) (by show va_rf (gR h25 a0 37) = _; rw [hq_28]; rfl) ?_
      refine go_iload_n rfl rfl ?_
      replace e := ck_as_e e
      obtain ⟨hc_29, e⟩ := e
      refine go_iald rfl hc_29 ?_
      cases e
      exact go_ret rfl rfl
def f_RM_getKeyed_L54 (F : Nat)  : Nat → Nat → Int32 → Int32 → Int32 → ck_H → Option (Int32 × ck_H)
  | 0, _, _, _, _, _ => none
  | n + 1, a0, v1, v3, v4, h =>
    ck_as (gk h a0 = 12) <|
    ck_bd (f_RM_lookedMany F a0 v3 h) fun r2 h3 =>
    if v4 < r2 then
      ck_as (gk h3 a0 = 12) <|
      ck_bd (f_RM_lookedTrack F a0 v3 v4 h3) fun r7 h8 =>
      ck_as (gk h8 a0 = 12) <|
      ck_bd (f_RM_keyedOn F a0 v3 r7 h8) fun r11 h12 =>
      if r11 = ((-1) : Int32) then
        f_RM_getKeyed_L54 F n a0 v1 v3 (v4 + 1) h12
      else
        ck_as (gk h12 a0 = 12) <|
        ck_some (gR h12 a0 8) fun b16 =>
        ck_bd (f_RM_at F r7 r11 h12) fun r18 h19 =>
        ck_as ((gk h19 b16 = 13 ∨ gk h19 b16 = 15) ∧ ¬ r18 < 0 ∧ (r18 : Int32).toNatClampNeg < gz h19 b16) <|
        if (gI h19 b16 (r18 : Int32).toNatClampNeg) = (0 : Int32) then
          f_RM_getKeyed_L112 F F a0 v1 v3 r7 r11 0 h19
        else
          some ((-6), h19)
    else
      some ((-1), h3)
set_option maxRecDepth 100000 in
set_option maxHeartbeats 4000000 in
theorem f_RM_getKeyed_L54_s (F : Nat)   : ∀ (n : Nat) (a0 : Nat) (v1 : Int32) (v3 : Int32) (v4 : Int32) (h : ck_H) (r : Int32) (h' : ck_H), f_RM_getKeyed_L54 F n a0 v1 v3 v4 h = some (r, h') → Go k_RM_getKeyed 54 [some (.ref a0), some (.int v1), none, some (.int v3), some (.int v4), none, none, none] [] h (some (.int r), h') := by
  intro n
  induction n with
  | zero => intro a0 v1 v3 v4 h r h' e; simp only [f_RM_getKeyed_L54] at e; cases e
  | succ n ih =>
    intro a0 v1 v3 v4 h r h' e
    rw [f_RM_getKeyed_L54] at e
    refine go_iload rfl rfl ?_
    refine go_aload_n rfl rfl ?_
    refine go_iload_n rfl rfl ?_
    replace e := ck_as_e e
    obtain ⟨hk_1, e⟩ := e
    replace e := ck_bd_e e
    obtain ⟨r2, h3, e4, e⟩ := e
    refine go_callV (As := [.int v3]) (b0 := a0) (rest := [.int v4]) rfl rfl ⟨hk_1, by decide⟩ rfl ⟨Nat.le_of_ble_eq_true rfl, Nat.le_of_ble_eq_true rfl, Nat.le_of_ble_eq_true rfl, Nat.le_of_ble_eq_true rfl⟩ (s_RM_lookedMany e4) ?_
    show Go k_RM_getKeyed 61 [some (.ref a0), some (.int v1), none, some (.int v3), some (.int v4), none, none, none] [.int r2, .int v4] h3 _
    refine go_icmp_ge (t := 185) rfl rfl (fun hx_5 => ?_) (fun hx_5 => ?_)
    · rw [if_pos hx_5] at e
      refine go_aload_n rfl rfl ?_
      refine go_iload_n rfl rfl ?_
      refine go_iload rfl rfl ?_
      replace e := ck_as_e e
      obtain ⟨hk_6, e⟩ := e
      replace e := ck_bd_e e
      obtain ⟨r7, h8, e9, e⟩ := e
      refine go_callV (As := [.int v3, .int v4]) (b0 := a0) (rest := []) rfl rfl ⟨hk_6, by decide⟩ rfl ⟨Nat.le_of_ble_eq_true rfl, Nat.le_of_ble_eq_true rfl, Nat.le_of_ble_eq_true rfl, Nat.le_of_ble_eq_true rfl⟩ (s_RM_lookedTrack e9) ?_
      show Go k_RM_getKeyed 71 [some (.ref a0), some (.int v1), none, some (.int v3), some (.int v4), none, none, none] [.int r7] h8 _
      refine go_istore rfl rfl ?_
      show Go k_RM_getKeyed 73 [some (.ref a0), some (.int v1), none, some (.int v3), some (.int v4), some (.int r7), none, none] [] h8 _
      refine go_aload_n rfl rfl ?_
      refine go_iload_n rfl rfl ?_
      refine go_iload rfl rfl ?_
      replace e := ck_as_e e
      obtain ⟨hk_10, e⟩ := e
      replace e := ck_bd_e e
      obtain ⟨r11, h12, e13, e⟩ := e
      refine go_callV (As := [.int v3, .int r7]) (b0 := a0) (rest := []) rfl rfl ⟨hk_10, by decide⟩ rfl ⟨Nat.le_of_ble_eq_true rfl, Nat.le_of_ble_eq_true rfl, Nat.le_of_ble_eq_true rfl, Nat.le_of_ble_eq_true rfl⟩ (s_RM_keyedOn e13) ?_
      show Go k_RM_getKeyed 80 [some (.ref a0), some (.int v1), none, some (.int v3), some (.int v4), some (.int r7), none, none] [.int r11] h12 _
      refine go_istore rfl rfl ?_
      show Go k_RM_getKeyed 82 [some (.ref a0), some (.int v1), none, some (.int v3), some (.int v4), some (.int r7), some (.int r11), none] [] h12 _
      refine go_iload rfl rfl ?_
      refine go_iconst (v := (-1)) rfl (by decide) ?_
      refine go_icmp_ne (t := 91) rfl rfl (fun hx_14 => ?_) (fun hx_14 => ?_)
      · rw [if_pos hx_14] at e
        refine go_goto (t := 179) rfl rfl ?_
        refine go_iinc (v := 1) rfl rfl (by decide) rfl ?_
        show Go k_RM_getKeyed 182 [some (.ref a0), some (.int v1), none, some (.int v3), some (.int (v4 + 1)), some (.int r7), some (.int r11), none] [] h12 _
        refine go_goto (t := 54) rfl rfl ?_
        refine go_forget (l := [some (.ref a0), some (.int v1), none, some (.int v3), some (.int (v4 + 1)), none, none, none]) ⟨Or.inl rfl, Or.inl rfl, Or.inl rfl, Or.inl rfl, Or.inl rfl, Or.inr ⟨rfl, fun _ q => by cases q; rfl⟩, Or.inr ⟨rfl, fun _ q => by cases q; rfl⟩, Or.inl rfl, trivial⟩ ?_
        exact ih _ _ _ _ _ _ _ e
      · rw [if_neg hx_14] at e
        refine go_aload_n rfl rfl ?_
        replace e := ck_as_e e
        obtain ⟨hk_15, e⟩ := e
        replace e := ck_some_e e
        obtain ⟨b16, hq_17, e⟩ := e
        refine go_get (v := .ref b16) rfl rfl hk_15 (by decide) (by show va_rf (gR h12 a0 8) = _; rw [hq_17]; rfl) ?_
        refine go_iload rfl rfl ?_
        refine go_iload rfl rfl ?_
        replace e := ck_bd_e e
        obtain ⟨r18, h19, e20, e⟩ := e
        refine go_callS (As := [.int r7, .int r11]) (rest := [.ref b16]) rfl rfl rfl ⟨Nat.le_of_ble_eq_true rfl, Nat.le_of_ble_eq_true rfl, Nat.le_of_ble_eq_true rfl, Nat.le_of_ble_eq_true rfl⟩ (s_RM_at e20) ?_
        show Go k_RM_getKeyed 102 [some (.ref a0), some (.int v1), none, some (.int v3), some (.int v4), some (.int r7), some (.int r11), none] [.int r18, .ref b16] h19 _
        replace e := ck_as_e e
        obtain ⟨hc_21, e⟩ := e
        refine go_bald rfl hc_21 ?_
        refine go_if_eq (t := 109) rfl rfl (fun hx_22 => ?_) (fun hx_22 => ?_)
        · rw [if_pos hx_22] at e
          refine go_iconst (v := 0) rfl (by decide) ?_
          refine go_istore rfl rfl ?_
          show Go k_RM_getKeyed 112 [some (.ref a0), some (.int v1), none, some (.int v3), some (.int v4), some (.int r7), some (.int r11), some (.int 0)] [] h19 _
          refine go_forget (l := [some (.ref a0), some (.int v1), none, some (.int v3), none, some (.int r7), some (.int r11), some (.int 0)]) ⟨Or.inl rfl, Or.inl rfl, Or.inl rfl, Or.inl rfl, Or.inr ⟨rfl, fun _ q => by cases q; rfl⟩, Or.inl rfl, Or.inl rfl, Or.inl rfl, trivial⟩ ?_
          exact f_RM_getKeyed_L112_s F F _ _ _ _ _ _ _ _ _ e
        · rw [if_neg hx_22] at e
          refine go_bipush (v := (-6)) rfl (by decide) ?_
          cases e
          exact go_ret rfl rfl
    · rw [if_neg hx_5] at e
      refine go_iconst (v := (-1)) rfl (by decide) ?_
      cases e
      exact go_ret rfl rfl
def f_RM_getKeyed (F : Nat) (a0 : Nat) (v1 : Int32) (h : ck_H) : Option (Int32 × ck_H) :=
  ck_as (gk h a0 = 12) <|
  ck_bd (f_RM_read F a0 h) fun r2 h3 =>
  ck_as (gk h3 a0 = 12) <|
  ck_bd (f_RM_isHandle F a0 v1 h3) fun r6 h7 =>
  if r6 = (0 : Int32) then
    some ((-3), h7)
  else
    ck_as (gk h7 a0 = 12) <|
    ck_some (gR h7 a0 35) fun b11 =>
    ck_some (gR h7 a0 50) fun b13 =>
    ck_as ((gk h7 b13 = 14 ∨ gk h7 b13 = 21) ∧ ¬ v1 < 0 ∧ (v1 : Int32).toNatClampNeg < gz h7 b13) <|
    ck_as ((gk h7 b11 = 14 ∨ gk h7 b11 = 21) ∧ ¬ (gI h7 b13 (v1 : Int32).toNatClampNeg) < 0 ∧ (gI h7 b13 (v1 : Int32).toNatClampNeg : Int32).toNatClampNeg < gz h7 b11) <|
    if (gI h7 b11 (gI h7 b13 (v1 : Int32).toNatClampNeg : Int32).toNatClampNeg) = (3 : Int32) then
      ck_some (gR h7 a0 50) fun b18 =>
      ck_as ((gk h7 b18 = 14 ∨ gk h7 b18 = 21) ∧ ¬ v1 < 0 ∧ (v1 : Int32).toNatClampNeg < gz h7 b18) <|
      ck_then (gI h7 b18 (v1 : Int32).toNatClampNeg) fun x21 =>
      ck_some (gR h7 a0 36) fun b22 =>
      ck_as ((gk h7 b22 = 14 ∨ gk h7 b22 = 21) ∧ ¬ x21 < 0 ∧ (x21 : Int32).toNatClampNeg < gz h7 b22) <|
      if r2 = (gI h7 b22 (x21 : Int32).toNatClampNeg) then
        f_RM_getKeyed_L54 F F a0 v1 x21 0 h7
      else
        some ((-5), h7)
    else
      some ((-3), h7)
set_option maxRecDepth 100000 in
set_option maxHeartbeats 4000000 in
theorem s_RM_getKeyed {F : Nat} {a0 : Nat} {v1 : Int32} {h h' : ck_H} {r : Int32} (e : f_RM_getKeyed F a0 v1 h = some (r, h')) : Go k_RM_getKeyed 0 (ck_in [.ref a0, .int v1] 8) [] h (some (.int r), h') := by
  unfold f_RM_getKeyed at e
  show Go k_RM_getKeyed 0 [some (.ref a0), some (.int v1), none, none, none, none, none, none] [] h _
  refine go_aload_n rfl rfl ?_
  replace e := ck_as_e e
  obtain ⟨hk_1, e⟩ := e
  replace e := ck_bd_e e
  obtain ⟨r2, h3, e4, e⟩ := e
  refine go_callV (As := []) (b0 := a0) (rest := []) rfl rfl ⟨hk_1, by decide⟩ rfl ⟨Nat.le_of_ble_eq_true rfl, Nat.le_of_ble_eq_true rfl, Nat.le_of_ble_eq_true rfl, Nat.le_of_ble_eq_true rfl⟩ (s_RM_read e4) ?_
  show Go k_RM_getKeyed 4 [some (.ref a0), some (.int v1), none, none, none, none, none, none] [.int r2] h3 _
  refine go_istore_n rfl rfl ?_
  show Go k_RM_getKeyed 5 [some (.ref a0), some (.int v1), some (.int r2), none, none, none, none, none] [] h3 _
  refine go_aload_n rfl rfl ?_
  refine go_iload_n rfl rfl ?_
  replace e := ck_as_e e
  obtain ⟨hk_5, e⟩ := e
  replace e := ck_bd_e e
  obtain ⟨r6, h7, e8, e⟩ := e
  refine go_callV (As := [.int v1]) (b0 := a0) (rest := []) rfl rfl ⟨hk_5, by decide⟩ rfl ⟨Nat.le_of_ble_eq_true rfl, Nat.le_of_ble_eq_true rfl, Nat.le_of_ble_eq_true rfl, Nat.le_of_ble_eq_true rfl⟩ (s_RM_isHandle e8) ?_
  show Go k_RM_getKeyed 10 [some (.ref a0), some (.int v1), some (.int r2), none, none, none, none, none] [.int r6] h7 _
  refine go_if_eq (t := 28) rfl rfl (fun hx_9 => ?_) (fun hx_9 => ?_)
  · rw [if_pos hx_9] at e
    refine go_bipush (v := (-3)) rfl (by decide) ?_
    cases e
    exact go_ret rfl rfl
  · rw [if_neg hx_9] at e
    refine go_aload_n rfl rfl ?_
    replace e := ck_as_e e
    obtain ⟨hk_10, e⟩ := e
    replace e := ck_some_e e
    obtain ⟨b11, hq_12, e⟩ := e
    refine go_get (v := .ref b11) rfl rfl hk_10 (by decide) (by show va_rf (gR h7 a0 35) = _; rw [hq_12]; rfl) ?_
    refine go_aload_n rfl rfl ?_
    replace e := ck_some_e e
    obtain ⟨b13, hq_14, e⟩ := e
    refine go_get (v := .ref b13) rfl rfl hk_10 (by decide) (by show va_rf (gR h7 a0 50) = _; rw [hq_14]; rfl) ?_
    refine go_iload_n rfl rfl ?_
    replace e := ck_as_e e
    obtain ⟨hc_15, e⟩ := e
    refine go_iald rfl hc_15 ?_
    replace e := ck_as_e e
    obtain ⟨hc_16, e⟩ := e
    refine go_iald rfl hc_16 ?_
    refine go_iconst (v := 3) rfl (by decide) ?_
    refine go_icmp_eq (t := 31) rfl rfl (fun hx_17 => ?_) (fun hx_17 => ?_)
    · rw [if_pos hx_17] at e
      refine go_aload_n rfl rfl ?_
      replace e := ck_some_e e
      obtain ⟨b18, hq_19, e⟩ := e
      refine go_get (v := .ref b18) rfl rfl hk_10 (by decide) (by show va_rf (gR h7 a0 50) = _; rw [hq_19]; rfl) ?_
      refine go_iload_n rfl rfl ?_
      replace e := ck_as_e e
      obtain ⟨hc_20, e⟩ := e
      refine go_iald rfl hc_20 ?_
      generalize gI h7 b18 (v1 : Int32).toNatClampNeg = x21 at e ⊢
      replace e := ck_then_e e
      refine go_istore_n rfl rfl ?_
      show Go k_RM_getKeyed 38 [some (.ref a0), some (.int v1), some (.int r2), some (.int x21), none, none, none, none] [] h7 _
      refine go_iload_n rfl rfl ?_
      refine go_aload_n rfl rfl ?_
      replace e := ck_some_e e
      obtain ⟨b22, hq_23, e⟩ := e
      refine go_get (v := .ref b22) rfl rfl hk_10 (by decide) (by show va_rf (gR h7 a0 36) = _; rw [hq_23]; rfl) ?_
      refine go_iload_n rfl rfl ?_
      replace e := ck_as_e e
      obtain ⟨hc_24, e⟩ := e
      refine go_iald rfl hc_24 ?_
      refine go_icmp_eq (t := 51) rfl rfl (fun hx_25 => ?_) (fun hx_25 => ?_)
      · rw [if_pos hx_25] at e
        refine go_iconst (v := 0) rfl (by decide) ?_
        refine go_istore rfl rfl ?_
        show Go k_RM_getKeyed 54 [some (.ref a0), some (.int v1), some (.int r2), some (.int x21), some (.int 0), none, none, none] [] h7 _
        refine go_forget (l := [some (.ref a0), some (.int v1), none, some (.int x21), some (.int 0), none, none, none]) ⟨Or.inl rfl, Or.inl rfl, Or.inr ⟨rfl, fun _ q => by cases q; rfl⟩, Or.inl rfl, Or.inl rfl, Or.inl rfl, Or.inl rfl, Or.inl rfl, trivial⟩ ?_
        exact f_RM_getKeyed_L54_s F F _ _ _ _ _ _ _ e
      · rw [if_neg hx_25] at e
        refine go_bipush (v := (-5)) rfl (by decide) ?_
        cases e
        exact go_ret rfl rfl
    · rw [if_neg hx_17] at e
      refine go_bipush (v := (-3)) rfl (by decide) ?_
      cases e
      exact go_ret rfl rfl
