def f_RM_add_L112 (F : Nat)  : Nat → Nat → Int32 → Int32 → Int32 → Int32 → Int32 → ck_H → Option (Int32 × ck_H)
  | 0, _, _, _, _, _, _, _ => none
  | n + 1, a0, v1, v5, v6, v7, v8, h =>
    if v8 < (v5 + v6) then
      ck_as (gk h a0 = 12) <|
      ck_some (gR h a0 0) fun b3 =>
      ck_bd (f_RM_keyAt F a0 v1 v7 h) fun r5 h6 =>
      ck_as (gk h6 b3 = 13 ∧ ¬ (r5 + v8) < 0 ∧ (r5 + v8 : Int32).toNatClampNeg < gz h6 b3) <|
      ck_then (wI h6 b3 (r5 + v8 : Int32).toNatClampNeg (0 : Int32).toInt8.toInt32) fun h9 =>
      f_RM_add_L112 F n a0 v1 v5 v6 v7 (v8 + 1) h9
    else
      some (v7, h)
set_option maxRecDepth 100000 in
set_option maxHeartbeats 4000000 in
theorem f_RM_add_L112_s (F : Nat)   : ∀ (n : Nat) (a0 : Nat) (v1 : Int32) (v5 : Int32) (v6 : Int32) (v7 : Int32) (v8 : Int32) (h : ck_H) (r : Int32) (h' : ck_H), f_RM_add_L112 F n a0 v1 v5 v6 v7 v8 h = some (r, h') → Go k_RM_add 112 [some (.ref a0), some (.int v1), none, none, none, some (.int v5), some (.int v6), some (.int v7), some (.int v8)] [] h (some (.int r), h') := by
  intro n
  induction n with
  | zero => intro a0 v1 v5 v6 v7 v8 h r h' e; simp only [f_RM_add_L112] at e; cases e
  | succ n ih =>
    intro a0 v1 v5 v6 v7 v8 h r h' e
    rw [f_RM_add_L112] at e
    refine go_iload rfl rfl ?_
    refine go_iload rfl rfl ?_
    refine go_iload rfl rfl ?_
    refine go_iadd rfl ?_
    refine go_icmp_ge (t := 144) rfl rfl (fun hx_1 => ?_) (fun hx_1 => ?_)
    · rw [if_pos hx_1] at e
      refine go_aload_n rfl rfl ?_
      replace e := ck_as_e e
      obtain ⟨hk_2, e⟩ := e
      replace e := ck_some_e e
      obtain ⟨b3, hq_4, e⟩ := e
      refine go_get (v := .ref b3) rfl rfl hk_2 (by decide) (by show va_rf (gR h a0 0) = _; rw [hq_4]; rfl) ?_
      refine go_aload_n rfl rfl ?_
      refine go_iload_n rfl rfl ?_
      refine go_iload rfl rfl ?_
      replace e := ck_bd_e e
      obtain ⟨r5, h6, e7, e⟩ := e
      refine go_callV (As := [.int v1, .int v7]) (b0 := a0) (rest := [.ref b3]) rfl rfl ⟨hk_2, by decide⟩ rfl ⟨Nat.le_of_ble_eq_true rfl, Nat.le_of_ble_eq_true rfl, Nat.le_of_ble_eq_true rfl, Nat.le_of_ble_eq_true rfl⟩ (s_RM_keyAt e7) ?_
      show Go k_RM_add 133 [some (.ref a0), some (.int v1), none, none, none, some (.int v5), some (.int v6), some (.int v7), some (.int v8)] [.int r5, .ref b3] h6 _
      refine go_iload rfl rfl ?_
      refine go_iadd rfl ?_
      refine go_iconst (v := 0) rfl (by decide) ?_
      replace e := ck_as_e e
      obtain ⟨hc_8, e⟩ := e
      refine go_bast rfl hc_8 ?_
      generalize wI h6 b3 (r5 + v8 : Int32).toNatClampNeg (0 : Int32).toInt8.toInt32 = h9 at e  ⊢
      replace e := ck_then_e e
      refine go_iinc (v := 1) rfl rfl (by decide) rfl ?_
      show Go k_RM_add 141 [some (.ref a0), some (.int v1), none, none, none, some (.int v5), some (.int v6), some (.int v7), some (.int (v8 + 1))] [] h9 _
      refine go_goto (t := 112) rfl rfl ?_
      refine go_forget (l := [some (.ref a0), some (.int v1), none, none, none, some (.int v5), some (.int v6), some (.int v7), some (.int (v8 + 1))]) ⟨Or.inl rfl, Or.inl rfl, Or.inl rfl, Or.inl rfl, Or.inl rfl, Or.inl rfl, Or.inl rfl, Or.inl rfl, Or.inl rfl, trivial⟩ ?_
      exact ih _ _ _ _ _ _ _ _ _ e
    · rw [if_neg hx_1] at e
      refine go_iload rfl rfl ?_
      cases e
      exact go_ret rfl rfl
def f_RM_add_J97 (F : Nat)  (a0 : Nat) (v1 : Int32) (v5 : Int32) (v6 : Int32) (v7 : Int32) (h : ck_H) : Option (Int32 × ck_H) :=
  ck_as (gk h a0 = 12) <|
  ck_some (gR h a0 8) fun b2 =>
  ck_bd (f_RM_at F v1 v7 h) fun r4 h5 =>
  ck_as (gk h5 b2 = 15 ∧ ((0 : Int32) = 0 ∨ (0 : Int32) = 1) ∧ ¬ r4 < 0 ∧ (r4 : Int32).toNatClampNeg < gz h5 b2) <|
  ck_then (wI h5 b2 (r4 : Int32).toNatClampNeg 0) fun h8 =>
  f_RM_add_L112 F F a0 v1 v5 v6 v7 0 h8
set_option maxRecDepth 100000 in
set_option maxHeartbeats 4000000 in
theorem f_RM_add_J97_s (F : Nat)   (a0 : Nat) (v1 : Int32) (v5 : Int32) (v6 : Int32) (v7 : Int32) (h : ck_H) (r : Int32) (h' : ck_H) (e : f_RM_add_J97 F  a0 v1 v5 v6 v7 h = some (r, h')) : Go k_RM_add 97 [some (.ref a0), some (.int v1), none, none, none, some (.int v5), some (.int v6), some (.int v7), none] [] h (some (.int r), h') := by
  unfold f_RM_add_J97 at e
  refine go_aload_n rfl rfl ?_
  replace e := ck_as_e e
  obtain ⟨hk_1, e⟩ := e
  replace e := ck_some_e e
  obtain ⟨b2, hq_3, e⟩ := e
  refine go_get (v := .ref b2) rfl rfl hk_1 (by decide) (by show va_rf (gR h a0 8) = _; rw [hq_3]; rfl) ?_
  refine go_iload_n rfl rfl ?_
  refine go_iload rfl rfl ?_
  replace e := ck_bd_e e
  obtain ⟨r4, h5, e6, e⟩ := e
  refine go_callS (As := [.int v1, .int v7]) (rest := [.ref b2]) rfl rfl rfl ⟨Nat.le_of_ble_eq_true rfl, Nat.le_of_ble_eq_true rfl, Nat.le_of_ble_eq_true rfl, Nat.le_of_ble_eq_true rfl⟩ (s_RM_at e6) ?_
  show Go k_RM_add 107 [some (.ref a0), some (.int v1), none, none, none, some (.int v5), some (.int v6), some (.int v7), none] [.int r4, .ref b2] h5 _
  refine go_iconst (v := 0) rfl (by decide) ?_
  replace e := ck_as_e e
  obtain ⟨hc_7, e⟩ := e
  refine go_zast rfl hc_7 ?_
  generalize wI h5 b2 (r4 : Int32).toNatClampNeg 0 = h8 at e  ⊢
  replace e := ck_then_e e
  refine go_iconst (v := 0) rfl (by decide) ?_
  refine go_istore rfl rfl ?_
  show Go k_RM_add 112 [some (.ref a0), some (.int v1), none, none, none, some (.int v5), some (.int v6), some (.int v7), some (.int 0)] [] h8 _
  refine go_forget (l := [some (.ref a0), some (.int v1), none, none, none, some (.int v5), some (.int v6), some (.int v7), some (.int 0)]) ⟨Or.inl rfl, Or.inl rfl, Or.inl rfl, Or.inl rfl, Or.inl rfl, Or.inl rfl, Or.inl rfl, Or.inl rfl, Or.inl rfl, trivial⟩ ?_
  exact f_RM_add_L112_s F F _ _ _ _ _ _ _ _ _ e
def f_RM_add (F : Nat) (a0 : Nat) (v1 : Int32) (v2 : Int32) (v3 : Int32) (v4 : Int32) (v5 : Int32) (v6 : Int32) (h : ck_H) : Option (Int32 × ck_H) :=
  ck_as (gk h a0 = 12) <|
  ck_some (gR h a0 1) fun b2 =>
  ck_as ((gk h b2 = 14 ∨ gk h b2 = 21) ∧ ¬ v1 < 0 ∧ (v1 : Int32).toNatClampNeg < gz h b2) <|
  ck_then (gI h b2 (v1 : Int32).toNatClampNeg) fun x5 =>
  ck_some (gR h a0 2) fun b6 =>
  ck_bd (f_RM_at F v1 x5 h) fun r8 h9 =>
  ck_as (gk h9 a0 = 12) <|
  ck_bd (f_RM_lastEnd F a0 v1 h9) fun r12 h13 =>
  ck_as (gk h13 b6 = 14 ∧ ¬ r8 < 0 ∧ (r8 : Int32).toNatClampNeg < gz h13 b6) <|
  ck_then (wI h13 b6 (r8 : Int32).toNatClampNeg r12) fun h16 =>
  ck_as (gk h16 a0 = 12) <|
  ck_some (gR h16 a0 1) fun b18 =>
  ck_as ((gk h16 b18 = 14 ∨ gk h16 b18 = 21) ∧ ¬ v1 < 0 ∧ (v1 : Int32).toNatClampNeg < gz h16 b18) <|
  ck_as (gk h16 b18 = 14 ∧ ¬ v1 < 0 ∧ (v1 : Int32).toNatClampNeg < gz h16 b18) <|
  ck_then (wI h16 b18 (v1 : Int32).toNatClampNeg ((gI h16 b18 (v1 : Int32).toNatClampNeg) + 1)) fun h22 =>
  ck_some (gR h22 a0 3) fun b24 =>
  ck_bd (f_RM_at F v1 x5 h22) fun r26 h27 =>
  ck_as (gk h27 b24 = 14 ∧ ¬ r26 < 0 ∧ (r26 : Int32).toNatClampNeg < gz h27 b24) <|
  ck_then (wI h27 b24 (r26 : Int32).toNatClampNeg v2) fun h30 =>
  ck_as (gk h30 a0 = 12) <|
  ck_some (gR h30 a0 4) fun b32 =>
  ck_bd (f_RM_at F v1 x5 h30) fun r34 h35 =>
  ck_as (gk h35 b32 = 14 ∧ ¬ r34 < 0 ∧ (r34 : Int32).toNatClampNeg < gz h35 b32) <|
  ck_then (wI h35 b32 (r34 : Int32).toNatClampNeg v3) fun h38 =>
  ck_as (gk h38 a0 = 12) <|
  ck_some (gR h38 a0 5) fun b40 =>
  ck_bd (f_RM_at F v1 x5 h38) fun r42 h43 =>
  ck_as (gk h43 b40 = 14 ∧ ¬ r42 < 0 ∧ (r42 : Int32).toNatClampNeg < gz h43 b40) <|
  ck_then (wI h43 b40 (r42 : Int32).toNatClampNeg v4) fun h46 =>
  ck_as (gk h46 a0 = 12) <|
  ck_some (gR h46 a0 6) fun b48 =>
  ck_bd (f_RM_at F v1 x5 h46) fun r50 h51 =>
  ck_as (gk h51 b48 = 14 ∧ ¬ r50 < 0 ∧ (r50 : Int32).toNatClampNeg < gz h51 b48) <|
  ck_then (wI h51 b48 (r50 : Int32).toNatClampNeg v5) fun h54 =>
  ck_as (gk h54 a0 = 12) <|
  ck_some (gR h54 a0 7) fun b56 =>
  ck_bd (f_RM_at F v1 x5 h54) fun r58 h59 =>
  ck_as (gk h59 b56 = 14 ∧ ¬ r58 < 0 ∧ (r58 : Int32).toNatClampNeg < gz h59 b56) <|
  ck_then (wI h59 b56 (r58 : Int32).toNatClampNeg v6) fun h62 =>
  f_RM_add_J97 F a0 v1 v5 v6 x5 h62
set_option maxRecDepth 100000 in
set_option maxHeartbeats 4000000 in
theorem s_RM_add {F : Nat} {a0 : Nat} {v1 : Int32} {v2 : Int32} {v3 : Int32} {v4 : Int32} {v5 : Int32} {v6 : Int32} {h h' : ck_H} {r : Int32} (e : f_RM_add F a0 v1 v2 v3 v4 v5 v6 h = some (r, h')) : Go k_RM_add 0 (ck_in [.ref a0, .int v1, .int v2, .int v3, .int v4, .int v5, .int v6] 9) [] h (some (.int r), h') := by
  unfold f_RM_add at e
  show Go k_RM_add 0 [some (.ref a0), some (.int v1), some (.int v2), some (.int v3), some (.int v4), some (.int v5), some (.int v6), none, none] [] h _
  refine go_aload_n rfl rfl ?_
  replace e := ck_as_e e
  obtain ⟨hk_1, e⟩ := e
  replace e := ck_some_e e
  obtain ⟨b2, hq_3, e⟩ := e
  refine go_get (v := .ref b2) rfl rfl hk_1 (by decide) (by show va_rf (gR h a0 1) = _; rw [hq_3]; rfl) ?_
  refine go_iload_n rfl rfl ?_
  replace e := ck_as_e e
  obtain ⟨hc_4, e⟩ := e
  refine go_iald rfl hc_4 ?_
  generalize gI h b2 (v1 : Int32).toNatClampNeg = x5 at e ⊢
  replace e := ck_then_e e
  refine go_istore rfl rfl ?_
  show Go k_RM_add 8 [some (.ref a0), some (.int v1), some (.int v2), some (.int v3), some (.int v4), some (.int v5), some (.int v6), some (.int x5), none] [] h _
  refine go_aload_n rfl rfl ?_
  replace e := ck_some_e e
  obtain ⟨b6, hq_7, e⟩ := e
  refine go_get (v := .ref b6) rfl rfl hk_1 (by decide) (by show va_rf (gR h a0 2) = _; rw [hq_7]; rfl) ?_
  refine go_iload_n rfl rfl ?_
  refine go_iload rfl rfl ?_
  replace e := ck_bd_e e
  obtain ⟨r8, h9, e10, e⟩ := e
  refine go_callS (As := [.int v1, .int x5]) (rest := [.ref b6]) rfl rfl rfl ⟨Nat.le_of_ble_eq_true rfl, Nat.le_of_ble_eq_true rfl, Nat.le_of_ble_eq_true rfl, Nat.le_of_ble_eq_true rfl⟩ (s_RM_at e10) ?_
  show Go k_RM_add 18 [some (.ref a0), some (.int v1), some (.int v2), some (.int v3), some (.int v4), some (.int v5), some (.int v6), some (.int x5), none] [.int r8, .ref b6] h9 _
  refine go_aload_n rfl rfl ?_
  refine go_iload_n rfl rfl ?_
  replace e := ck_as_e e
  obtain ⟨hk_11, e⟩ := e
  replace e := ck_bd_e e
  obtain ⟨r12, h13, e14, e⟩ := e
  refine go_callV (As := [.int v1]) (b0 := a0) (rest := [.int r8, .ref b6]) rfl rfl ⟨hk_11, by decide⟩ rfl ⟨Nat.le_of_ble_eq_true rfl, Nat.le_of_ble_eq_true rfl, Nat.le_of_ble_eq_true rfl, Nat.le_of_ble_eq_true rfl⟩ (s_RM_lastEnd e14) ?_
  show Go k_RM_add 23 [some (.ref a0), some (.int v1), some (.int v2), some (.int v3), some (.int v4), some (.int v5), some (.int v6), some (.int x5), none] [.int r12, .int r8, .ref b6] h13 _
  replace e := ck_as_e e
  obtain ⟨hc_15, e⟩ := e
  refine go_iast rfl hc_15 ?_
  generalize wI h13 b6 (r8 : Int32).toNatClampNeg r12 = h16 at e  ⊢
  replace e := ck_then_e e
  refine go_aload_n rfl rfl ?_
  replace e := ck_as_e e
  obtain ⟨hk_17, e⟩ := e
  replace e := ck_some_e e
  obtain ⟨b18, hq_19, e⟩ := e
  refine go_get (v := .ref b18) rfl rfl hk_17 (by decide) (by show va_rf (gR h16 a0 1) = _; rw [hq_19]; rfl) ?_
  refine go_iload_n rfl rfl ?_
  refine go_dup2 rfl rfl rfl ?_
  replace e := ck_as_e e
  obtain ⟨hc_20, e⟩ := e
  refine go_iald rfl hc_20 ?_
  refine go_iconst (v := 1) rfl (by decide) ?_
  refine go_iadd rfl ?_
  replace e := ck_as_e e
  obtain ⟨hc_21, e⟩ := e
  refine go_iast rfl hc_21 ?_
  have hk_23 : gk (wI h16 b18 (v1 : Int32).toNatClampNeg ((gI h16 b18 (v1 : Int32).toNatClampNeg) + 1)) a0 = 12 := ck_kI.trans hk_17
  generalize wI h16 b18 (v1 : Int32).toNatClampNeg ((gI h16 b18 (v1 : Int32).toNatClampNeg) + 1) = h22 at e hk_23 ⊢
  replace e := ck_then_e e
  refine go_aload_n rfl rfl ?_
  replace e := ck_some_e e
  obtain ⟨b24, hq_25, e⟩ := e
  refine go_get (v := .ref b24) rfl rfl hk_23 (by decide) (by show va_rf (gR h22 a0 3) = _; rw [hq_25]; rfl) ?_
  refine go_iload_n rfl rfl ?_
  refine go_iload rfl rfl ?_
  replace e := ck_bd_e e
  obtain ⟨r26, h27, e28, e⟩ := e
  refine go_callS (As := [.int v1, .int x5]) (rest := [.ref b24]) rfl rfl rfl ⟨Nat.le_of_ble_eq_true rfl, Nat.le_of_ble_eq_true rfl, Nat.le_of_ble_eq_true rfl, Nat.le_of_ble_eq_true rfl⟩ (s_RM_at e28) ?_
  show Go k_RM_add 44 [some (.ref a0), some (.int v1), some (.int v2), some (.int v3), some (.int v4), some (.int v5), some (.int v6), some (.int x5), none] [.int r26, .ref b24] h27 _
  refine go_iload_n rfl rfl ?_
  replace e := ck_as_e e
  obtain ⟨hc_29, e⟩ := e
  refine go_iast rfl hc_29 ?_
  generalize wI h27 b24 (r26 : Int32).toNatClampNeg v2 = h30 at e  ⊢
  replace e := ck_then_e e
  refine go_aload_n rfl rfl ?_
  replace e := ck_as_e e
  obtain ⟨hk_31, e⟩ := e
  replace e := ck_some_e e
  obtain ⟨b32, hq_33, e⟩ := e
  refine go_get (v := .ref b32) rfl rfl hk_31 (by decide) (by show va_rf (gR h30 a0 4) = _; rw [hq_33]; rfl) ?_
  refine go_iload_n rfl rfl ?_
  refine go_iload rfl rfl ?_
  replace e := ck_bd_e e
  obtain ⟨r34, h35, e36, e⟩ := e
  refine go_callS (As := [.int v1, .int x5]) (rest := [.ref b32]) rfl rfl rfl ⟨Nat.le_of_ble_eq_true rfl, Nat.le_of_ble_eq_true rfl, Nat.le_of_ble_eq_true rfl, Nat.le_of_ble_eq_true rfl⟩ (s_RM_at e36) ?_
  show Go k_RM_add 56 [some (.ref a0), some (.int v1), some (.int v2), some (.int v3), some (.int v4), some (.int v5), some (.int v6), some (.int x5), none] [.int r34, .ref b32] h35 _
  refine go_iload_n rfl rfl ?_
  replace e := ck_as_e e
  obtain ⟨hc_37, e⟩ := e
  refine go_iast rfl hc_37 ?_
  generalize wI h35 b32 (r34 : Int32).toNatClampNeg v3 = h38 at e  ⊢
  replace e := ck_then_e e
  refine go_aload_n rfl rfl ?_
  replace e := ck_as_e e
  obtain ⟨hk_39, e⟩ := e
  replace e := ck_some_e e
  obtain ⟨b40, hq_41, e⟩ := e
  refine go_get (v := .ref b40) rfl rfl hk_39 (by decide) (by show va_rf (gR h38 a0 5) = _; rw [hq_41]; rfl) ?_
  refine go_iload_n rfl rfl ?_
  refine go_iload rfl rfl ?_
  replace e := ck_bd_e e
  obtain ⟨r42, h43, e44, e⟩ := e
  refine go_callS (As := [.int v1, .int x5]) (rest := [.ref b40]) rfl rfl rfl ⟨Nat.le_of_ble_eq_true rfl, Nat.le_of_ble_eq_true rfl, Nat.le_of_ble_eq_true rfl, Nat.le_of_ble_eq_true rfl⟩ (s_RM_at e44) ?_
  show Go k_RM_add 68 [some (.ref a0), some (.int v1), some (.int v2), some (.int v3), some (.int v4), some (.int v5), some (.int v6), some (.int x5), none] [.int r42, .ref b40] h43 _
  refine go_iload rfl rfl ?_
  replace e := ck_as_e e
  obtain ⟨hc_45, e⟩ := e
  refine go_iast rfl hc_45 ?_
  generalize wI h43 b40 (r42 : Int32).toNatClampNeg v4 = h46 at e  ⊢
  replace e := ck_then_e e
  refine go_aload_n rfl rfl ?_
  replace e := ck_as_e e
  obtain ⟨hk_47, e⟩ := e
  replace e := ck_some_e e
  obtain ⟨b48, hq_49, e⟩ := e
  refine go_get (v := .ref b48) rfl rfl hk_47 (by decide) (by show va_rf (gR h46 a0 6) = _; rw [hq_49]; rfl) ?_
  refine go_iload_n rfl rfl ?_
  refine go_iload rfl rfl ?_
  replace e := ck_bd_e e
  obtain ⟨r50, h51, e52, e⟩ := e
  refine go_callS (As := [.int v1, .int x5]) (rest := [.ref b48]) rfl rfl rfl ⟨Nat.le_of_ble_eq_true rfl, Nat.le_of_ble_eq_true rfl, Nat.le_of_ble_eq_true rfl, Nat.le_of_ble_eq_true rfl⟩ (s_RM_at e52) ?_
  show Go k_RM_add 81 [some (.ref a0), some (.int v1), some (.int v2), some (.int v3), some (.int v4), some (.int v5), some (.int v6), some (.int x5), none] [.int r50, .ref b48] h51 _
  refine go_iload rfl rfl ?_
  replace e := ck_as_e e
  obtain ⟨hc_53, e⟩ := e
  refine go_iast rfl hc_53 ?_
  generalize wI h51 b48 (r50 : Int32).toNatClampNeg v5 = h54 at e  ⊢
  replace e := ck_then_e e
  refine go_aload_n rfl rfl ?_
  replace e := ck_as_e e
  obtain ⟨hk_55, e⟩ := e
  replace e := ck_some_e e
  obtain ⟨b56, hq_57, e⟩ := e
  refine go_get (v := .ref b56) rfl rfl hk_55 (by decide) (by show va_rf (gR h54 a0 7) = _; rw [hq_57]; rfl) ?_
  refine go_iload_n rfl rfl ?_
  refine go_iload rfl rfl ?_
  replace e := ck_bd_e e
  obtain ⟨r58, h59, e60, e⟩ := e
  refine go_callS (As := [.int v1, .int x5]) (rest := [.ref b56]) rfl rfl rfl ⟨Nat.le_of_ble_eq_true rfl, Nat.le_of_ble_eq_true rfl, Nat.le_of_ble_eq_true rfl, Nat.le_of_ble_eq_true rfl⟩ (s_RM_at e60) ?_
  show Go k_RM_add 94 [some (.ref a0), some (.int v1), some (.int v2), some (.int v3), some (.int v4), some (.int v5), some (.int v6), some (.int x5), none] [.int r58, .ref b56] h59 _
  refine go_iload rfl rfl ?_
  replace e := ck_as_e e
  obtain ⟨hc_61, e⟩ := e
  refine go_iast rfl hc_61 ?_
  generalize wI h59 b56 (r58 : Int32).toNatClampNeg v6 = h62 at e  ⊢
  replace e := ck_then_e e
  refine go_forget (l := [some (.ref a0), some (.int v1), none, none, none, some (.int v5), some (.int v6), some (.int x5), none]) ⟨Or.inl rfl, Or.inl rfl, Or.inr ⟨rfl, fun _ q => by cases q; rfl⟩, Or.inr ⟨rfl, fun _ q => by cases q; rfl⟩, Or.inr ⟨rfl, fun _ q => by cases q; rfl⟩, Or.inl rfl, Or.inl rfl, Or.inl rfl, Or.inl rfl, trivial⟩ ?_
  exact f_RM_add_J97_s F a0 v1 v5 v6 x5 _ _ _ e
def f_RM_writeRecord_J251 (F : Nat)  (a0 : Nat) (v1 : Int32) (v2 : Int32) (v7 : Int32) (v8 : Int32) (h : ck_H) : Option (Int32 × ck_H) :=
  ck_as (gk h a0 = 12) <|
  ck_bd (f_RM_endOf F a0 v2 v7 h) fun r2 h3 =>
  ck_as (gk h3 a0 = 12) <|
  ck_bd (f_RM_goTo F a0 r2 h3) fun _ h7 =>
  ck_as (gk h7 a0 = 12) <|
  ck_then (wI h7 a0 28 4) fun h10 =>
  ck_then (wI h10 a0 29 v7) fun h12 =>
  ck_some (gR h12 a0 17) fun b14 =>
  ck_as ((gk h12 b14 = 14 ∨ gk h12 b14 = 21) ∧ ¬ v1 < 0 ∧ (v1 : Int32).toNatClampNeg < gz h12 b14) <|
  ck_bd (f_Ma_max F 0 ((gI h12 b14 (v1 : Int32).toNatClampNeg) - v8) h12) fun r17 h18 =>
  ck_as (gk h18 a0 = 12) <|
  ck_then (wI h18 a0 23 r17) fun h21 =>
  ck_some (gR h21 a0 17) fun b23 =>
  ck_as ((gk h21 b23 = 14 ∨ gk h21 b23 = 21) ∧ ¬ v1 < 0 ∧ (v1 : Int32).toNatClampNeg < gz h21 b23) <|
  if (gI h21 b23 (v1 : Int32).toNatClampNeg) = v8 then
    some ((-1), h21)
  else
    ck_bd (f_RM_isAny F a0 v1 h21) fun r27 h28 =>
    if r27 = (0 : Int32) then
      some (3, h28)
    else
      some ((-1), h28)
set_option maxRecDepth 100000 in
set_option maxHeartbeats 4000000 in
theorem f_RM_writeRecord_J251_s (F : Nat)   (a0 : Nat) (v1 : Int32) (v2 : Int32) (v7 : Int32) (v8 : Int32) (h : ck_H) (r : Int32) (h' : ck_H) (e : f_RM_writeRecord_J251 F  a0 v1 v2 v7 v8 h = some (r, h')) : Go k_RM_writeRecord 251 [some (.ref a0), some (.int v1), some (.int v2), none, none, none, none, some (.int v7), some (.int v8), none] [] h (some (.int r), h') := by
  unfold f_RM_writeRecord_J251 at e
  refine go_aload_n rfl rfl ?_
  refine go_aload_n rfl rfl ?_
  refine go_iload_n rfl rfl ?_
  refine go_iload rfl rfl ?_
  replace e := ck_as_e e
  obtain ⟨hk_1, e⟩ := e
  replace e := ck_bd_e e
  obtain ⟨r2, h3, e4, e⟩ := e
  refine go_callV (As := [.int v2, .int v7]) (b0 := a0) (rest := [.ref a0]) rfl rfl ⟨hk_1, by decide⟩ rfl ⟨Nat.le_of_ble_eq_true rfl, Nat.le_of_ble_eq_true rfl, Nat.le_of_ble_eq_true rfl, Nat.le_of_ble_eq_true rfl⟩ (s_RM_endOf e4) ?_
  show Go k_RM_writeRecord 259 [some (.ref a0), some (.int v1), some (.int v2), none, none, none, none, some (.int v7), some (.int v8), none] [.int r2, .ref a0] h3 _
  replace e := ck_as_e e
  obtain ⟨hk_5, e⟩ := e
  replace e := ck_bd_e e
  obtain ⟨r6, h7, e8, e⟩ := e
  refine go_callV (As := [.int r2]) (b0 := a0) (rest := []) rfl rfl ⟨hk_5, by decide⟩ rfl ⟨Nat.le_of_ble_eq_true rfl, Nat.le_of_ble_eq_true rfl, Nat.le_of_ble_eq_true rfl, Nat.le_of_ble_eq_true rfl⟩ (s_RM_goTo e8) ?_
  show Go k_RM_writeRecord 262 [some (.ref a0), some (.int v1), some (.int v2), none, none, none, none, some (.int v7), some (.int v8), none] [] h7 _
  refine go_aload_n rfl rfl ?_
  refine go_iconst (v := 4) rfl (by decide) ?_
  replace e := ck_as_e e
  obtain ⟨hk_9, e⟩ := e
  refine go_put (h1 := wI h7 a0 28 4) rfl rfl hk_9 ⟨by decide, by decide, Or.inl rfl⟩ rfl ?_
  have hk_11 : gk (wI h7 a0 28 4) a0 = 12 := ck_kI.trans hk_9
  generalize wI h7 a0 28 4 = h10 at e hk_11 ⊢
  replace e := ck_then_e e
  refine go_aload_n rfl rfl ?_
  refine go_iload rfl rfl ?_
  refine go_put (h1 := wI h10 a0 29 v7) rfl rfl hk_11 ⟨by decide, by decide, Or.inl rfl⟩ rfl ?_
  have hk_13 : gk (wI h10 a0 29 v7) a0 = 12 := ck_kI.trans hk_11
  generalize wI h10 a0 29 v7 = h12 at e hk_13 ⊢
  replace e := ck_then_e e
  refine go_aload_n rfl rfl ?_
  refine go_iconst (v := 0) rfl (by decide) ?_
  refine go_aload_n rfl rfl ?_
  replace e := ck_some_e e
  obtain ⟨b14, hq_15, e⟩ := e
  refine go_get (v := .ref b14) rfl rfl hk_13 (by decide) (by show va_rf (gR h12 a0 17) = _; rw [hq_15]; rfl) ?_
  refine go_iload_n rfl rfl ?_
  replace e := ck_as_e e
  obtain ⟨hc_16, e⟩ := e
  refine go_iald rfl hc_16 ?_
  refine go_iload rfl rfl ?_
  refine go_isub rfl ?_
  replace e := ck_bd_e e
  obtain ⟨r17, h18, e19, e⟩ := e
  refine go_callS (As := [.int 0, .int ((gI h12 b14 (v1 : Int32).toNatClampNeg) - v8)]) (rest := [.ref a0]) rfl rfl rfl ⟨Nat.le_of_ble_eq_true rfl, Nat.le_of_ble_eq_true rfl, Nat.le_of_ble_eq_true rfl, Nat.le_of_ble_eq_true rfl⟩ (s_Ma_max e19) ?_
  show Go k_RM_writeRecord 287 [some (.ref a0), some (.int v1), some (.int v2), none, none, none, none, some (.int v7), some (.int v8), none] [.int r17, .ref a0] h18 _
  replace e := ck_as_e e
  obtain ⟨hk_20, e⟩ := e
  refine go_put (h1 := wI h18 a0 23 r17) rfl rfl hk_20 ⟨by decide, by decide, Or.inl rfl⟩ rfl ?_
  have hk_22 : gk (wI h18 a0 23 r17) a0 = 12 := ck_kI.trans hk_20
  generalize wI h18 a0 23 r17 = h21 at e hk_22 ⊢
  replace e := ck_then_e e
  refine go_aload_n rfl rfl ?_
  replace e := ck_some_e e
  obtain ⟨b23, hq_24, e⟩ := e
  refine go_get (v := .ref b23) rfl rfl hk_22 (by decide) (by show va_rf (gR h21 a0 17) = _; rw [hq_24]; rfl) ?_
  refine go_iload_n rfl rfl ?_
  replace e := ck_as_e e
  obtain ⟨hc_25, e⟩ := e
  refine go_iald rfl hc_25 ?_
  refine go_iload rfl rfl ?_
  refine go_icmp_eq (t := 313) rfl rfl (fun hx_26 => ?_) (fun hx_26 => ?_)
  · rw [if_pos hx_26] at e
    refine go_iconst (v := (-1)) rfl (by decide) ?_
    cases e
    exact go_ret rfl rfl
  · rw [if_neg hx_26] at e
    refine go_aload_n rfl rfl ?_
    refine go_iload_n rfl rfl ?_
    replace e := ck_bd_e e
    obtain ⟨r27, h28, e29, e⟩ := e
    refine go_callV (As := [.int v1]) (b0 := a0) (rest := []) rfl rfl ⟨hk_22, by decide⟩ rfl ⟨Nat.le_of_ble_eq_true rfl, Nat.le_of_ble_eq_true rfl, Nat.le_of_ble_eq_true rfl, Nat.le_of_ble_eq_true rfl⟩ (s_RM_isAny e29) ?_
    show Go k_RM_writeRecord 306 [some (.ref a0), some (.int v1), some (.int v2), none, none, none, none, some (.int v7), some (.int v8), none] [.int r27] h28 _
    refine go_if_ne (t := 313) rfl rfl (fun hx_30 => ?_) (fun hx_30 => ?_)
    · rw [if_pos hx_30] at e
      refine go_iconst (v := 3) rfl (by decide) ?_
      refine go_goto (t := 314) rfl rfl ?_
      cases e
      exact go_ret rfl rfl
    · rw [if_neg hx_30] at e
      refine go_iconst (v := (-1)) rfl (by decide) ?_
      cases e
      exact go_ret rfl rfl
def f_RM_writeRecord_L200 (F : Nat)  : Nat → Nat → Int32 → Int32 → Int32 → Int32 → Int32 → Int32 → ck_H → Option (Int32 × ck_H)
  | 0, _, _, _, _, _, _, _, _ => none
  | n + 1, a0, v1, v2, v3, v7, v8, v9, h =>
    if v9 < v8 then
      ck_as (gk h a0 = 12) <|
      ck_some (gR h a0 17) fun b3 =>
      ck_as ((gk h b3 = 14 ∨ gk h b3 = 21) ∧ ¬ v1 < 0 ∧ (v1 : Int32).toNatClampNeg < gz h b3) <|
      if v9 < (gI h b3 (v1 : Int32).toNatClampNeg) then
        ck_some (gR h a0 0) fun b7 =>
        ck_bd (f_RM_keyAt F a0 v2 v7 h) fun r9 h10 =>
        ck_as (gk h10 a0 = 12) <|
        ck_some (gR h10 a0 14) fun b13 =>
        ck_as ((gk h10 b13 = 13 ∨ gk h10 b13 = 15) ∧ ¬ (v3 + v9) < 0 ∧ (v3 + v9 : Int32).toNatClampNeg < gz h10 b13) <|
        ck_as (gk h10 b7 = 13 ∧ ¬ ((r9 + v9) - 6) < 0 ∧ ((r9 + v9) - 6 : Int32).toNatClampNeg < gz h10 b7) <|
        ck_then (wI h10 b7 ((r9 + v9) - 6 : Int32).toNatClampNeg (gI h10 b13 (v3 + v9 : Int32).toNatClampNeg : Int32).toInt8.toInt32) fun h17 =>
        f_RM_writeRecord_L200 F n a0 v1 v2 v3 v7 v8 (v9 + 1) h17
      else
        f_RM_writeRecord_J251 F a0 v1 v2 v7 v8 h
    else
      f_RM_writeRecord_J251 F a0 v1 v2 v7 v8 h
set_option maxRecDepth 100000 in
set_option maxHeartbeats 4000000 in
theorem f_RM_writeRecord_L200_s (F : Nat)   : ∀ (n : Nat) (a0 : Nat) (v1 : Int32) (v2 : Int32) (v3 : Int32) (v7 : Int32) (v8 : Int32) (v9 : Int32) (h : ck_H) (r : Int32) (h' : ck_H), f_RM_writeRecord_L200 F n a0 v1 v2 v3 v7 v8 v9 h = some (r, h') → Go k_RM_writeRecord 200 [some (.ref a0), some (.int v1), some (.int v2), some (.int v3), none, none, none, some (.int v7), some (.int v8), some (.int v9)] [] h (some (.int r), h') := by
  intro n
  induction n with
  | zero => intro a0 v1 v2 v3 v7 v8 v9 h r h' e; simp only [f_RM_writeRecord_L200] at e; cases e
  | succ n ih =>
    intro a0 v1 v2 v3 v7 v8 v9 h r h' e
    rw [f_RM_writeRecord_L200] at e
    refine go_iload rfl rfl ?_
    refine go_iload rfl rfl ?_
    refine go_icmp_ge (t := 251) rfl rfl (fun hx_1 => ?_) (fun hx_1 => ?_)
    · rw [if_pos hx_1] at e
      refine go_iload rfl rfl ?_
      refine go_aload_n rfl rfl ?_
      replace e := ck_as_e e
      obtain ⟨hk_2, e⟩ := e
      replace e := ck_some_e e
      obtain ⟨b3, hq_4, e⟩ := e
      refine go_get (v := .ref b3) rfl rfl hk_2 (by decide) (by show va_rf (gR h a0 17) = _; rw [hq_4]; rfl) ?_
      refine go_iload_n rfl rfl ?_
      replace e := ck_as_e e
      obtain ⟨hc_5, e⟩ := e
      refine go_iald rfl hc_5 ?_
      refine go_icmp_ge (t := 251) rfl rfl (fun hx_6 => ?_) (fun hx_6 => ?_)
      · rw [if_pos hx_6] at e
        refine go_aload_n rfl rfl ?_
        replace e := ck_some_e e
        obtain ⟨b7, hq_8, e⟩ := e
        refine go_get (v := .ref b7) rfl rfl hk_2 (by decide) (by show va_rf (gR h a0 0) = _; rw [hq_8]; rfl) ?_
        refine go_aload_n rfl rfl ?_
        refine go_iload_n rfl rfl ?_
        refine go_iload rfl rfl ?_
        replace e := ck_bd_e e
        obtain ⟨r9, h10, e11, e⟩ := e
        refine go_callV (As := [.int v2, .int v7]) (b0 := a0) (rest := [.ref b7]) rfl rfl ⟨hk_2, by decide⟩ rfl ⟨Nat.le_of_ble_eq_true rfl, Nat.le_of_ble_eq_true rfl, Nat.le_of_ble_eq_true rfl, Nat.le_of_ble_eq_true rfl⟩ (s_RM_keyAt e11) ?_
        show Go k_RM_writeRecord 229 [some (.ref a0), some (.int v1), some (.int v2), some (.int v3), none, none, none, some (.int v7), some (.int v8), some (.int v9)] [.int r9, .ref b7] h10 _
        refine go_iload rfl rfl ?_
        refine go_iadd rfl ?_
        refine go_bipush (v := 6) rfl (by decide) ?_
        refine go_isub rfl ?_
        refine go_aload_n rfl rfl ?_
        replace e := ck_as_e e
        obtain ⟨hk_12, e⟩ := e
        replace e := ck_some_e e
        obtain ⟨b13, hq_14, e⟩ := e
        refine go_get (v := .ref b13) rfl rfl hk_12 (by decide) (by show va_rf (gR h10 a0 14) = _; rw [hq_14]; rfl) ?_
        refine go_iload_n rfl rfl ?_
        refine go_iload rfl rfl ?_
        refine go_iadd rfl ?_
        replace e := ck_as_e e
        obtain ⟨hc_15, e⟩ := e
        refine go_bald rfl hc_15 ?_
        replace e := ck_as_e e
        obtain ⟨hc_16, e⟩ := e
        refine go_bast rfl hc_16 ?_
        have hk_18 : gk (wI h10 b7 ((r9 + v9) - 6 : Int32).toNatClampNeg (gI h10 b13 (v3 + v9 : Int32).toNatClampNeg : Int32).toInt8.toInt32) a0 = 12 := ck_kI.trans hk_12
        generalize wI h10 b7 ((r9 + v9) - 6 : Int32).toNatClampNeg (gI h10 b13 (v3 + v9 : Int32).toNatClampNeg : Int32).toInt8.toInt32 = h17 at e hk_18 ⊢
        replace e := ck_then_e e
        refine go_iinc (v := 1) rfl rfl (by decide) rfl ?_
        show Go k_RM_writeRecord 248 [some (.ref a0), some (.int v1), some (.int v2), some (.int v3), none, none, none, some (.int v7), some (.int v8), some (.int (v9 + 1))] [] h17 _
        refine go_goto (t := 200) rfl rfl ?_
        refine go_forget (l := [some (.ref a0), some (.int v1), some (.int v2), some (.int v3), none, none, none, some (.int v7), some (.int v8), some (.int (v9 + 1))]) ⟨Or.inl rfl, Or.inl rfl, Or.inl rfl, Or.inl rfl, Or.inl rfl, Or.inl rfl, Or.inl rfl, Or.inl rfl, Or.inl rfl, Or.inl rfl, trivial⟩ ?_
        exact ih _ _ _ _ _ _ _ _ _ _ e
      · rw [if_neg hx_6] at e
        refine go_forget (l := [some (.ref a0), some (.int v1), some (.int v2), none, none, none, none, some (.int v7), some (.int v8), none]) ⟨Or.inl rfl, Or.inl rfl, Or.inl rfl, Or.inr ⟨rfl, fun _ q => by cases q; rfl⟩, Or.inl rfl, Or.inl rfl, Or.inl rfl, Or.inl rfl, Or.inl rfl, Or.inr ⟨rfl, fun _ q => by cases q; rfl⟩, trivial⟩ ?_
        exact f_RM_writeRecord_J251_s F a0 v1 v2 v7 v8 _ _ _ e
    · rw [if_neg hx_1] at e
      refine go_forget (l := [some (.ref a0), some (.int v1), some (.int v2), none, none, none, none, some (.int v7), some (.int v8), none]) ⟨Or.inl rfl, Or.inl rfl, Or.inl rfl, Or.inr ⟨rfl, fun _ q => by cases q; rfl⟩, Or.inl rfl, Or.inl rfl, Or.inl rfl, Or.inl rfl, Or.inl rfl, Or.inr ⟨rfl, fun _ q => by cases q; rfl⟩, trivial⟩ ?_
      exact f_RM_writeRecord_J251_s F a0 v1 v2 v7 v8 _ _ _ e
def f_RM_writeRecord_J140 (F : Nat)  (a0 : Nat) (v1 : Int32) (v2 : Int32) (v3 : Int32) (v4 : Int32) (v5 : Int32) (s0 : Int32) (s1 : Int32) (s2 : Nat) (h : ck_H) : Option (Int32 × ck_H) :=
  ck_as (gk h s2 = 14 ∧ ¬ s1 < 0 ∧ (s1 : Int32).toNatClampNeg < gz h s2) <|
  ck_then (wI h s2 (s1 : Int32).toNatClampNeg s0) fun h2 =>
  ck_as (gk h2 a0 = 12) <|
  ck_some (gR h2 a0 14) fun b4 =>
  ck_as ((gk h2 b4 = 13 ∨ gk h2 b4 = 15) ∧ ¬ v3 < 0 ∧ (v3 : Int32).toNatClampNeg < gz h2 b4) <|
  ck_some (gR h2 a0 14) fun b7 =>
  ck_as ((gk h2 b7 = 13 ∨ gk h2 b7 = 15) ∧ ¬ (v3 + 1) < 0 ∧ (v3 + 1 : Int32).toNatClampNeg < gz h2 b7) <|
  ck_some (gR h2 a0 14) fun b10 =>
  ck_as ((gk h2 b10 = 13 ∨ gk h2 b10 = 15) ∧ ¬ (v3 + 2) < 0 ∧ (v3 + 2 : Int32).toNatClampNeg < gz h2 b10) <|
  ck_bd (f_RM_add F a0 v2 ((gI h2 b4 (v3 : Int32).toNatClampNeg) &&& 255) ((gI h2 b7 (v3 + 1 : Int32).toNatClampNeg) &&& 255) ((gI h2 b10 (v3 + 2 : Int32).toNatClampNeg) &&& 255) v4 v5 h2) fun r13 h14 =>
  ck_then ((6 + v4) + v5) fun x16 =>
  f_RM_writeRecord_L200 F F a0 v1 v2 v3 r13 x16 6 h14
set_option maxRecDepth 100000 in
set_option maxHeartbeats 4000000 in
theorem f_RM_writeRecord_J140_s (F : Nat)   (a0 : Nat) (v1 : Int32) (v2 : Int32) (v3 : Int32) (v4 : Int32) (v5 : Int32) (s0 : Int32) (s1 : Int32) (s2 : Nat) (h : ck_H) (r : Int32) (h' : ck_H) (e : f_RM_writeRecord_J140 F  a0 v1 v2 v3 v4 v5 s0 s1 s2 h = some (r, h')) : Go k_RM_writeRecord 140 [some (.ref a0), some (.int v1), some (.int v2), some (.int v3), some (.int v4), some (.int v5), none, none, none, none] [.int s0, .int s1, .ref s2] h (some (.int r), h') := by
  unfold f_RM_writeRecord_J140 at e
  replace e := ck_as_e e
  obtain ⟨hc_1, e⟩ := e
  refine go_iast rfl hc_1 ?_
  generalize wI h s2 (s1 : Int32).toNatClampNeg s0 = h2 at e  ⊢
  replace e := ck_then_e e
  refine go_aload_n rfl rfl ?_
  refine go_iload_n rfl rfl ?_
  refine go_aload_n rfl rfl ?_
  replace e := ck_as_e e
  obtain ⟨hk_3, e⟩ := e
  replace e := ck_some_e e
  obtain ⟨b4, hq_5, e⟩ := e
  refine go_get (v := .ref b4) rfl rfl hk_3 (by decide) (by show va_rf (gR h2 a0 14) = _; rw [hq_5]; rfl) ?_
  refine go_iload_n rfl rfl ?_
  replace e := ck_as_e e
  obtain ⟨hc_6, e⟩ := e
  refine go_bald rfl hc_6 ?_
  refine go_sipush (v := 255) rfl (by decide) ?_
  refine go_iand rfl ?_
  refine go_aload_n rfl rfl ?_
  replace e := ck_some_e e
  obtain ⟨b7, hq_8, e⟩ := e
  refine go_get (v := .ref b7) rfl rfl hk_3 (by decide) (by show va_rf (gR h2 a0 14) = _; rw [hq_8]; rfl) ?_
  refine go_iload_n rfl rfl ?_
  refine go_iconst (v := 1) rfl (by decide) ?_
  refine go_iadd rfl ?_
  replace e := ck_as_e e
  obtain ⟨hc_9, e⟩ := e
  refine go_bald rfl hc_9 ?_
  refine go_sipush (v := 255) rfl (by decide) ?_
  refine go_iand rfl ?_
  refine go_aload_n rfl rfl ?_
  replace e := ck_some_e e
  obtain ⟨b10, hq_11, e⟩ := e
  refine go_get (v := .ref b10) rfl rfl hk_3 (by decide) (by show va_rf (gR h2 a0 14) = _; rw [hq_11]; rfl) ?_
  refine go_iload_n rfl rfl ?_
  refine go_iconst (v := 2) rfl (by decide) ?_
  refine go_iadd rfl ?_
  replace e := ck_as_e e
  obtain ⟨hc_12, e⟩ := e
  refine go_bald rfl hc_12 ?_
  refine go_sipush (v := 255) rfl (by decide) ?_
  refine go_iand rfl ?_
  refine go_iload rfl rfl ?_
  refine go_iload rfl rfl ?_
  replace e := ck_bd_e e
  obtain ⟨r13, h14, e15, e⟩ := e
  refine go_callV (As := [.int v2, .int ((gI h2 b4 (v3 : Int32).toNatClampNeg) &&& 255), .int ((gI h2 b7 (v3 + 1 : Int32).toNatClampNeg) &&& 255), .int ((gI h2 b10 (v3 + 2 : Int32).toNatClampNeg) &&& 255), .int v4, .int v5]) (b0 := a0) (rest := []) rfl rfl ⟨hk_3, by decide⟩ rfl ⟨Nat.le_of_ble_eq_true rfl, Nat.le_of_ble_eq_true rfl, Nat.le_of_ble_eq_true rfl, Nat.le_of_ble_eq_true rfl⟩ (s_RM_add e15) ?_
  show Go k_RM_writeRecord 184 [some (.ref a0), some (.int v1), some (.int v2), some (.int v3), some (.int v4), some (.int v5), none, none, none, none] [.int r13] h14 _
  refine go_istore rfl rfl ?_
  show Go k_RM_writeRecord 186 [some (.ref a0), some (.int v1), some (.int v2), some (.int v3), some (.int v4), some (.int v5), none, some (.int r13), none, none] [] h14 _
  refine go_bipush (v := 6) rfl (by decide) ?_
  refine go_iload rfl rfl ?_
  refine go_iadd rfl ?_
  refine go_iload rfl rfl ?_
  refine go_iadd rfl ?_
  generalize (6 + v4) + v5 = x16 at e ⊢
  replace e := ck_then_e e
  refine go_istore rfl rfl ?_
  show Go k_RM_writeRecord 196 [some (.ref a0), some (.int v1), some (.int v2), some (.int v3), some (.int v4), some (.int v5), none, some (.int r13), some (.int x16), none] [] h14 _
  refine go_bipush (v := 6) rfl (by decide) ?_
  refine go_istore rfl rfl ?_
  show Go k_RM_writeRecord 200 [some (.ref a0), some (.int v1), some (.int v2), some (.int v3), some (.int v4), some (.int v5), none, some (.int r13), some (.int x16), some (.int 6)] [] h14 _
  refine go_forget (l := [some (.ref a0), some (.int v1), some (.int v2), some (.int v3), none, none, none, some (.int r13), some (.int x16), some (.int 6)]) ⟨Or.inl rfl, Or.inl rfl, Or.inl rfl, Or.inl rfl, Or.inr ⟨rfl, fun _ q => by cases q; rfl⟩, Or.inr ⟨rfl, fun _ q => by cases q; rfl⟩, Or.inl rfl, Or.inl rfl, Or.inl rfl, Or.inl rfl, trivial⟩ ?_
  exact f_RM_writeRecord_L200_s F F _ _ _ _ _ _ _ _ _ _ e
def f_RM_writeRecord_J96 (F : Nat)  (a0 : Nat) (v1 : Int32) (v2 : Int32) (v3 : Int32) (v4 : Int32) (v5 : Int32) (s0 : Int32) (h : ck_H) : Option (Int32 × ck_H) :=
  if (1500 : Int32) < (((s0 + 30) + v4) + v5) then
    some (2, h)
  else
    ck_as (gk h a0 = 12) <|
    ck_some (gR h a0 1) fun b3 =>
    if (gI h a0 28) = (1 : Int32) then
      f_RM_writeRecord_J140 F a0 v1 v2 v3 v4 v5 0 v2 b3 h
    else
      f_RM_writeRecord_J140 F a0 v1 v2 v3 v4 v5 ((gI h a0 29) + 1) v2 b3 h
set_option maxRecDepth 100000 in
set_option maxHeartbeats 4000000 in
theorem f_RM_writeRecord_J96_s (F : Nat)   (a0 : Nat) (v1 : Int32) (v2 : Int32) (v3 : Int32) (v4 : Int32) (v5 : Int32) (s0 : Int32) (h : ck_H) (r : Int32) (h' : ck_H) (e : f_RM_writeRecord_J96 F  a0 v1 v2 v3 v4 v5 s0 h = some (r, h')) : Go k_RM_writeRecord 96 [some (.ref a0), some (.int v1), some (.int v2), some (.int v3), some (.int v4), some (.int v5), none, none, none, none] [.int s0] h (some (.int r), h') := by
  unfold f_RM_writeRecord_J96 at e
  refine go_istore rfl rfl ?_
  show Go k_RM_writeRecord 98 [some (.ref a0), some (.int v1), some (.int v2), some (.int v3), some (.int v4), some (.int v5), some (.int s0), none, none, none] [] h _
  refine go_iload rfl rfl ?_
  refine go_bipush (v := 30) rfl (by decide) ?_
  refine go_iadd rfl ?_
  refine go_iload rfl rfl ?_
  refine go_iadd rfl ?_
  refine go_iload rfl rfl ?_
  refine go_iadd rfl ?_
  refine go_sipush (v := 1500) rfl (by decide) ?_
  refine go_icmp_le (t := 117) rfl rfl (fun hx_1 => ?_) (fun hx_1 => ?_)
  · rw [if_pos hx_1] at e
    refine go_iconst (v := 2) rfl (by decide) ?_
    cases e
    exact go_ret rfl rfl
  · rw [if_neg hx_1] at e
    refine go_aload_n rfl rfl ?_
    replace e := ck_as_e e
    obtain ⟨hk_2, e⟩ := e
    replace e := ck_some_e e
    obtain ⟨b3, hq_4, e⟩ := e
    refine go_get (v := .ref b3) rfl rfl hk_2 (by decide) (by show va_rf (gR h a0 1) = _; rw [hq_4]; rfl) ?_
    refine go_iload_n rfl rfl ?_
    refine go_aload_n rfl rfl ?_
    refine go_get (v := .int (gI h a0 28)) rfl rfl hk_2 (by decide) rfl ?_
    refine go_iconst (v := 1) rfl (by decide) ?_
    refine go_icmp_ne (t := 134) rfl rfl (fun hx_5 => ?_) (fun hx_5 => ?_)
    · rw [if_pos hx_5] at e
      refine go_iconst (v := 0) rfl (by decide) ?_
      refine go_goto (t := 140) rfl rfl ?_
      refine go_forget (l := [some (.ref a0), some (.int v1), some (.int v2), some (.int v3), some (.int v4), some (.int v5), none, none, none, none]) ⟨Or.inl rfl, Or.inl rfl, Or.inl rfl, Or.inl rfl, Or.inl rfl, Or.inl rfl, Or.inr ⟨rfl, fun _ q => by cases q; rfl⟩, Or.inl rfl, Or.inl rfl, Or.inl rfl, trivial⟩ ?_
      exact f_RM_writeRecord_J140_s F a0 v1 v2 v3 v4 v5 0 v2 b3 _ _ _ e
    · rw [if_neg hx_5] at e
      refine go_aload_n rfl rfl ?_
      refine go_get (v := .int (gI h a0 29)) rfl rfl hk_2 (by decide) rfl ?_
      refine go_iconst (v := 1) rfl (by decide) ?_
      refine go_iadd rfl ?_
      refine go_forget (l := [some (.ref a0), some (.int v1), some (.int v2), some (.int v3), some (.int v4), some (.int v5), none, none, none, none]) ⟨Or.inl rfl, Or.inl rfl, Or.inl rfl, Or.inl rfl, Or.inl rfl, Or.inl rfl, Or.inr ⟨rfl, fun _ q => by cases q; rfl⟩, Or.inl rfl, Or.inl rfl, Or.inl rfl, trivial⟩ ?_
      exact f_RM_writeRecord_J140_s F a0 v1 v2 v3 v4 v5 ((gI h a0 29) + 1) v2 b3 _ _ _ e
def f_RM_writeRecord (F : Nat) (a0 : Nat) (v1 : Int32) (h : ck_H) : Option (Int32 × ck_H) :=
  ck_as (gk h a0 = 12) <|
  ck_bd (f_RM_track F a0 h) fun r2 h3 =>
  ck_as (gk h3 a0 = 12) <|
  ck_some (gR h3 a0 16) fun b6 =>
  ck_as ((gk h3 b6 = 14 ∨ gk h3 b6 = 21) ∧ ¬ v1 < 0 ∧ (v1 : Int32).toNatClampNeg < gz h3 b6) <|
  ck_then (gI h3 b6 (v1 : Int32).toNatClampNeg) fun x9 =>
  ck_some (gR h3 a0 14) fun b10 =>
  ck_as ((gk h3 b10 = 13 ∨ gk h3 b10 = 15) ∧ ¬ (x9 + 3) < 0 ∧ (x9 + 3 : Int32).toNatClampNeg < gz h3 b10) <|
  ck_then ((gI h3 b10 (x9 + 3 : Int32).toNatClampNeg) &&& 255) fun x13 =>
  ck_some (gR h3 a0 14) fun b14 =>
  ck_as ((gk h3 b14 = 13 ∨ gk h3 b14 = 15) ∧ ¬ (x9 + 4) < 0 ∧ (x9 + 4 : Int32).toNatClampNeg < gz h3 b14) <|
  ck_some (gR h3 a0 14) fun b17 =>
  ck_as ((gk h3 b17 = 13 ∨ gk h3 b17 = 15) ∧ ¬ (x9 + 5) < 0 ∧ (x9 + 5 : Int32).toNatClampNeg < gz h3 b17) <|
  ck_then ((((gI h3 b14 (x9 + 4 : Int32).toNatClampNeg) &&& 255) <<< (8 &&& 31)) ||| ((gI h3 b17 (x9 + 5 : Int32).toNatClampNeg) &&& 255)) fun x20 =>
  if (60 : Int32) < x13 then
    some (7, h3)
  else
    if (1200 : Int32) < x20 then
      some (7, h3)
    else
      if (gI h3 a0 28) = (1 : Int32) then
        f_RM_writeRecord_J96 F a0 v1 r2 x9 x13 x20 30 h3
      else
        ck_bd (f_RM_endOf F a0 r2 (gI h3 a0 29) h3) fun r31 h32 =>
        f_RM_writeRecord_J96 F a0 v1 r2 x9 x13 x20 r31 h32
set_option maxRecDepth 100000 in
set_option maxHeartbeats 4000000 in
theorem s_RM_writeRecord {F : Nat} {a0 : Nat} {v1 : Int32} {h h' : ck_H} {r : Int32} (e : f_RM_writeRecord F a0 v1 h = some (r, h')) : Go k_RM_writeRecord 0 (ck_in [.ref a0, .int v1] 10) [] h (some (.int r), h') := by
  unfold f_RM_writeRecord at e
  show Go k_RM_writeRecord 0 [some (.ref a0), some (.int v1), none, none, none, none, none, none, none, none] [] h _
  refine go_aload_n rfl rfl ?_
  replace e := ck_as_e e
  obtain ⟨hk_1, e⟩ := e
  replace e := ck_bd_e e
  obtain ⟨r2, h3, e4, e⟩ := e
  refine go_callV (As := []) (b0 := a0) (rest := []) rfl rfl ⟨hk_1, by decide⟩ rfl ⟨Nat.le_of_ble_eq_true rfl, Nat.le_of_ble_eq_true rfl, Nat.le_of_ble_eq_true rfl, Nat.le_of_ble_eq_true rfl⟩ (s_RM_track e4) ?_
  show Go k_RM_writeRecord 4 [some (.ref a0), some (.int v1), none, none, none, none, none, none, none, none] [.int r2] h3 _
  refine go_istore_n rfl rfl ?_
  show Go k_RM_writeRecord 5 [some (.ref a0), some (.int v1), some (.int r2), none, none, none, none, none, none, none] [] h3 _
  refine go_aload_n rfl rfl ?_
  replace e := ck_as_e e
  obtain ⟨hk_5, e⟩ := e
  replace e := ck_some_e e
  obtain ⟨b6, hq_7, e⟩ := e
  refine go_get (v := .ref b6) rfl rfl hk_5 (by decide) (by show va_rf (gR h3 a0 16) = _; rw [hq_7]; rfl) ?_
  refine go_iload_n rfl rfl ?_
  replace e := ck_as_e e
  obtain ⟨hc_8, e⟩ := e
  refine go_iald rfl hc_8 ?_
  generalize gI h3 b6 (v1 : Int32).toNatClampNeg = x9 at e ⊢
  replace e := ck_then_e e
  refine go_istore_n rfl rfl ?_
  show Go k_RM_writeRecord 12 [some (.ref a0), some (.int v1), some (.int r2), some (.int x9), none, none, none, none, none, none] [] h3 _
  refine go_aload_n rfl rfl ?_
  replace e := ck_some_e e
  obtain ⟨b10, hq_11, e⟩ := e
  refine go_get (v := .ref b10) rfl rfl hk_5 (by decide) (by show va_rf (gR h3 a0 14) = _; rw [hq_11]; rfl) ?_
  refine go_iload_n rfl rfl ?_
  refine go_iconst (v := 3) rfl (by decide) ?_
  refine go_iadd rfl ?_
  replace e := ck_as_e e
  obtain ⟨hc_12, e⟩ := e
  refine go_bald rfl hc_12 ?_
  refine go_sipush (v := 255) rfl (by decide) ?_
  refine go_iand rfl ?_
  generalize (gI h3 b10 (x9 + 3 : Int32).toNatClampNeg) &&& 255 = x13 at e ⊢
  replace e := ck_then_e e
  refine go_istore rfl rfl ?_
  show Go k_RM_writeRecord 26 [some (.ref a0), some (.int v1), some (.int r2), some (.int x9), some (.int x13), none, none, none, none, none] [] h3 _
  refine go_aload_n rfl rfl ?_
  replace e := ck_some_e e
  obtain ⟨b14, hq_15, e⟩ := e
  refine go_get (v := .ref b14) rfl rfl hk_5 (by decide) (by show va_rf (gR h3 a0 14) = _; rw [hq_15]; rfl) ?_
  refine go_iload_n rfl rfl ?_
  refine go_iconst (v := 4) rfl (by decide) ?_
  refine go_iadd rfl ?_
  replace e := ck_as_e e
  obtain ⟨hc_16, e⟩ := e
  refine go_bald rfl hc_16 ?_
  refine go_sipush (v := 255) rfl (by decide) ?_
  refine go_iand rfl ?_
  refine go_bipush (v := 8) rfl (by decide) ?_
  refine go_ishl rfl ?_
  refine go_aload_n rfl rfl ?_
  replace e := ck_some_e e
  obtain ⟨b17, hq_18, e⟩ := e
  refine go_get (v := .ref b17) rfl rfl hk_5 (by decide) (by show va_rf (gR h3 a0 14) = _; rw [hq_18]; rfl) ?_
  refine go_iload_n rfl rfl ?_
  refine go_iconst (v := 5) rfl (by decide) ?_
  refine go_iadd rfl ?_
  replace e := ck_as_e e
  obtain ⟨hc_19, e⟩ := e
  refine go_bald rfl hc_19 ?_
  refine go_sipush (v := 255) rfl (by decide) ?_
  refine go_iand rfl ?_
  refine go_ior rfl ?_
  generalize (((gI h3 b14 (x9 + 4 : Int32).toNatClampNeg) &&& 255) <<< (8 &&& 31)) ||| ((gI h3 b17 (x9 + 5 : Int32).toNatClampNeg) &&& 255) = x20 at e ⊢
  replace e := ck_then_e e
  refine go_istore rfl rfl ?_
  show Go k_RM_writeRecord 56 [some (.ref a0), some (.int v1), some (.int r2), some (.int x9), some (.int x13), some (.int x20), none, none, none, none] [] h3 _
  refine go_iload rfl rfl ?_
  refine go_bipush (v := 60) rfl (by decide) ?_
  refine go_icmp_gt (t := 71) rfl rfl (fun hx_21 => ?_) (fun hx_21 => ?_)
  · rw [if_pos hx_21] at e
    refine go_bipush (v := 7) rfl (by decide) ?_
    cases e
    exact go_ret rfl rfl
  · rw [if_neg hx_21] at e
    refine go_iload rfl rfl ?_
    refine go_sipush (v := 1200) rfl (by decide) ?_
    refine go_icmp_le (t := 74) rfl rfl (fun hx_22 => ?_) (fun hx_22 => ?_)
    · rw [if_pos hx_22] at e
      refine go_bipush (v := 7) rfl (by decide) ?_
      cases e
      exact go_ret rfl rfl
    · rw [if_neg hx_22] at e
      refine go_aload_n rfl rfl ?_
      refine go_get (v := .int (gI h3 a0 28)) rfl rfl hk_5 (by decide) rfl ?_
      refine go_iconst (v := 1) rfl (by decide) ?_
      refine go_icmp_ne (t := 87) rfl rfl (fun hx_23 => ?_) (fun hx_23 => ?_)
      · rw [if_pos hx_23] at e
        refine go_bipush (v := 30) rfl (by decide) ?_
        refine go_goto (t := 96) rfl rfl ?_
        refine go_forget (l := [some (.ref a0), some (.int v1), some (.int r2), some (.int x9), some (.int x13), some (.int x20), none, none, none, none]) ⟨Or.inl rfl, Or.inl rfl, Or.inl rfl, Or.inl rfl, Or.inl rfl, Or.inl rfl, Or.inl rfl, Or.inl rfl, Or.inl rfl, Or.inl rfl, trivial⟩ ?_
        exact f_RM_writeRecord_J96_s F a0 v1 r2 x9 x13 x20 30 _ _ _ e
      · rw [if_neg hx_23] at e
        refine go_aload_n rfl rfl ?_
        refine go_iload_n rfl rfl ?_
        refine go_aload_n rfl rfl ?_
        refine go_get (v := .int (gI h3 a0 29)) rfl rfl hk_5 (by decide) rfl ?_
        replace e := ck_bd_e e
        obtain ⟨r31, h32, e33, e⟩ := e
        refine go_callV (As := [.int r2, .int (gI h3 a0 29)]) (b0 := a0) (rest := []) rfl rfl ⟨hk_5, by decide⟩ rfl ⟨Nat.le_of_ble_eq_true rfl, Nat.le_of_ble_eq_true rfl, Nat.le_of_ble_eq_true rfl, Nat.le_of_ble_eq_true rfl⟩ (s_RM_endOf e33) ?_
        show Go k_RM_writeRecord 96 [some (.ref a0), some (.int v1), some (.int r2), some (.int x9), some (.int x13), some (.int x20), none, none, none, none] [.int r31] h32 _
        refine go_forget (l := [some (.ref a0), some (.int v1), some (.int r2), some (.int x9), some (.int x13), some (.int x20), none, none, none, none]) ⟨Or.inl rfl, Or.inl rfl, Or.inl rfl, Or.inl rfl, Or.inl rfl, Or.inl rfl, Or.inl rfl, Or.inl rfl, Or.inl rfl, Or.inl rfl, trivial⟩ ?_
        exact f_RM_writeRecord_J96_s F a0 v1 r2 x9 x13 x20 r31 _ _ _ e
def f_RM_erase_J38 (F : Nat)  (a0 : Nat) (v1 : Int32) (v2 : Int32) (s0 : Int32) (s1 : Int32) (s2 : Nat) (h : ck_H) : Option (Int32 × ck_H) :=
  ck_as (gk h s2 = 14 ∧ ¬ s1 < 0 ∧ (s1 : Int32).toNatClampNeg < gz h s2) <|
  ck_then (wI h s2 (s1 : Int32).toNatClampNeg s0) fun h2 =>
  if v2 = (0 : Int32) then
    ck_as (gk h2 a0 = 12) <|
    ck_bd (f_RM_endOf F a0 v1 (gI h2 a0 29) h2) fun r5 h6 =>
    ck_as (gk h6 a0 = 12) <|
    ck_bd (f_RM_goTo F a0 r5 h6) fun _ h10 =>
    ck_as (gk h10 a0 = 12) <|
    ck_then (wI h10 a0 28 0) fun h13 =>
    some ((-1), h13)
  else
    ck_as (gk h2 a0 = 12) <|
    ck_bd (f_RM_goTo F a0 30 h2) fun _ h17 =>
    ck_as (gk h17 a0 = 12) <|
    ck_then (wI h17 a0 28 0) fun h20 =>
    some ((-1), h20)
set_option maxRecDepth 100000 in
set_option maxHeartbeats 4000000 in
theorem f_RM_erase_J38_s (F : Nat)   (a0 : Nat) (v1 : Int32) (v2 : Int32) (s0 : Int32) (s1 : Int32) (s2 : Nat) (h : ck_H) (r : Int32) (h' : ck_H) (e : f_RM_erase_J38 F  a0 v1 v2 s0 s1 s2 h = some (r, h')) : Go k_RM_erase 38 [some (.ref a0), some (.int v1), some (.int v2)] [.int s0, .int s1, .ref s2] h (some (.int r), h') := by
  unfold f_RM_erase_J38 at e
  replace e := ck_as_e e
  obtain ⟨hc_1, e⟩ := e
  refine go_iast rfl hc_1 ?_
  generalize wI h s2 (s1 : Int32).toNatClampNeg s0 = h2 at e  ⊢
  replace e := ck_then_e e
  refine go_aload_n rfl rfl ?_
  refine go_iload_n rfl rfl ?_
  refine go_if_eq (t := 49) rfl rfl (fun hx_3 => ?_) (fun hx_3 => ?_)
  · rw [if_pos hx_3] at e
    refine go_aload_n rfl rfl ?_
    refine go_iload_n rfl rfl ?_
    refine go_aload_n rfl rfl ?_
    replace e := ck_as_e e
    obtain ⟨hk_4, e⟩ := e
    refine go_get (v := .int (gI h2 a0 29)) rfl rfl hk_4 (by decide) rfl ?_
    replace e := ck_bd_e e
    obtain ⟨r5, h6, e7, e⟩ := e
    refine go_callV (As := [.int v1, .int (gI h2 a0 29)]) (b0 := a0) (rest := [.ref a0]) rfl rfl ⟨hk_4, by decide⟩ rfl ⟨Nat.le_of_ble_eq_true rfl, Nat.le_of_ble_eq_true rfl, Nat.le_of_ble_eq_true rfl, Nat.le_of_ble_eq_true rfl⟩ (s_RM_endOf e7) ?_
    show Go k_RM_erase 58 [some (.ref a0), some (.int v1), some (.int v2)] [.int r5, .ref a0] h6 _
    replace e := ck_as_e e
    obtain ⟨hk_8, e⟩ := e
    replace e := ck_bd_e e
    obtain ⟨r9, h10, e11, e⟩ := e
    refine go_callV (As := [.int r5]) (b0 := a0) (rest := []) rfl rfl ⟨hk_8, by decide⟩ rfl ⟨Nat.le_of_ble_eq_true rfl, Nat.le_of_ble_eq_true rfl, Nat.le_of_ble_eq_true rfl, Nat.le_of_ble_eq_true rfl⟩ (s_RM_goTo e11) ?_
    show Go k_RM_erase 61 [some (.ref a0), some (.int v1), some (.int v2)] [] h10 _
    refine go_aload_n rfl rfl ?_
    refine go_iconst (v := 0) rfl (by decide) ?_
    replace e := ck_as_e e
    obtain ⟨hk_12, e⟩ := e
    refine go_put (h1 := wI h10 a0 28 0) rfl rfl hk_12 ⟨by decide, by decide, Or.inl rfl⟩ rfl ?_
    have hk_14 : gk (wI h10 a0 28 0) a0 = 12 := ck_kI.trans hk_12
    generalize wI h10 a0 28 0 = h13 at e hk_14 ⊢
    replace e := ck_then_e e
    refine go_iconst (v := (-1)) rfl (by decide) ?_
    cases e
    exact go_ret rfl rfl
  · rw [if_neg hx_3] at e
    refine go_bipush (v := 30) rfl (by decide) ?_
    refine go_goto (t := 58) rfl rfl ?_
    replace e := ck_as_e e
    obtain ⟨hk_15, e⟩ := e
    replace e := ck_bd_e e
    obtain ⟨r16, h17, e18, e⟩ := e
    refine go_callV (As := [.int 30]) (b0 := a0) (rest := []) rfl rfl ⟨hk_15, by decide⟩ rfl ⟨Nat.le_of_ble_eq_true rfl, Nat.le_of_ble_eq_true rfl, Nat.le_of_ble_eq_true rfl, Nat.le_of_ble_eq_true rfl⟩ (s_RM_goTo e18) ?_
    show Go k_RM_erase 61 [some (.ref a0), some (.int v1), some (.int v2)] [] h17 _
    refine go_aload_n rfl rfl ?_
    refine go_iconst (v := 0) rfl (by decide) ?_
    replace e := ck_as_e e
    obtain ⟨hk_19, e⟩ := e
    refine go_put (h1 := wI h17 a0 28 0) rfl rfl hk_19 ⟨by decide, by decide, Or.inl rfl⟩ rfl ?_
    have hk_21 : gk (wI h17 a0 28 0) a0 = 12 := ck_kI.trans hk_19
    generalize wI h17 a0 28 0 = h20 at e hk_21 ⊢
    replace e := ck_then_e e
    refine go_iconst (v := (-1)) rfl (by decide) ?_
    cases e
    exact go_ret rfl rfl
def f_RM_erase_J18 (F : Nat)  (a0 : Nat) (v1 : Int32) (s0 : Int32) (h : ck_H) : Option (Int32 × ck_H) :=
  ck_as (gk h a0 = 12) <|
  ck_some (gR h a0 1) fun b2 =>
  if s0 = (0 : Int32) then
    f_RM_erase_J38 F a0 v1 s0 ((gI h a0 29) + 1) v1 b2 h
  else
    f_RM_erase_J38 F a0 v1 s0 0 v1 b2 h
set_option maxRecDepth 100000 in
set_option maxHeartbeats 4000000 in
theorem f_RM_erase_J18_s (F : Nat)   (a0 : Nat) (v1 : Int32) (s0 : Int32) (h : ck_H) (r : Int32) (h' : ck_H) (e : f_RM_erase_J18 F  a0 v1 s0 h = some (r, h')) : Go k_RM_erase 18 [some (.ref a0), some (.int v1), none] [.int s0] h (some (.int r), h') := by
  unfold f_RM_erase_J18 at e
  refine go_istore_n rfl rfl ?_
  show Go k_RM_erase 19 [some (.ref a0), some (.int v1), some (.int s0)] [] h _
  refine go_aload_n rfl rfl ?_
  replace e := ck_as_e e
  obtain ⟨hk_1, e⟩ := e
  replace e := ck_some_e e
  obtain ⟨b2, hq_3, e⟩ := e
  refine go_get (v := .ref b2) rfl rfl hk_1 (by decide) (by show va_rf (gR h a0 1) = _; rw [hq_3]; rfl) ?_
  refine go_iload_n rfl rfl ?_
  refine go_iload_n rfl rfl ?_
  refine go_if_eq (t := 32) rfl rfl (fun hx_4 => ?_) (fun hx_4 => ?_)
  · rw [if_pos hx_4] at e
    refine go_aload_n rfl rfl ?_
    refine go_get (v := .int (gI h a0 29)) rfl rfl hk_1 (by decide) rfl ?_
    refine go_iconst (v := 1) rfl (by decide) ?_
    refine go_iadd rfl ?_
    refine go_forget (l := [some (.ref a0), some (.int v1), some (.int s0)]) ⟨Or.inl rfl, Or.inl rfl, Or.inl rfl, trivial⟩ ?_
    exact f_RM_erase_J38_s F a0 v1 s0 ((gI h a0 29) + 1) v1 b2 _ _ _ e
  · rw [if_neg hx_4] at e
    refine go_iconst (v := 0) rfl (by decide) ?_
    refine go_goto (t := 38) rfl rfl ?_
    refine go_forget (l := [some (.ref a0), some (.int v1), some (.int s0)]) ⟨Or.inl rfl, Or.inl rfl, Or.inl rfl, trivial⟩ ?_
    exact f_RM_erase_J38_s F a0 v1 s0 0 v1 b2 _ _ _ e
def f_RM_erase (F : Nat) (a0 : Nat) (h : ck_H) : Option (Int32 × ck_H) :=
  ck_as (gk h a0 = 12) <|
  ck_bd (f_RM_track F a0 h) fun r2 h3 =>
  ck_as (gk h3 a0 = 12) <|
  if (gI h3 a0 28) = (1 : Int32) then
    f_RM_erase_J18 F a0 r2 1 h3
  else
    f_RM_erase_J18 F a0 r2 0 h3
set_option maxRecDepth 100000 in
set_option maxHeartbeats 4000000 in
theorem s_RM_erase {F : Nat} {a0 : Nat} {h h' : ck_H} {r : Int32} (e : f_RM_erase F a0 h = some (r, h')) : Go k_RM_erase 0 (ck_in [.ref a0] 3) [] h (some (.int r), h') := by
  unfold f_RM_erase at e
  show Go k_RM_erase 0 [some (.ref a0), none, none] [] h _
  refine go_aload_n rfl rfl ?_
  replace e := ck_as_e e
  obtain ⟨hk_1, e⟩ := e
  replace e := ck_bd_e e
  obtain ⟨r2, h3, e4, e⟩ := e
  refine go_callV (As := []) (b0 := a0) (rest := []) rfl rfl ⟨hk_1, by decide⟩ rfl ⟨Nat.le_of_ble_eq_true rfl, Nat.le_of_ble_eq_true rfl, Nat.le_of_ble_eq_true rfl, Nat.le_of_ble_eq_true rfl⟩ (s_RM_track e4) ?_
  show Go k_RM_erase 4 [some (.ref a0), none, none] [.int r2] h3 _
  refine go_istore_n rfl rfl ?_
  show Go k_RM_erase 5 [some (.ref a0), some (.int r2), none] [] h3 _
  refine go_aload_n rfl rfl ?_
  replace e := ck_as_e e
  obtain ⟨hk_5, e⟩ := e
  refine go_get (v := .int (gI h3 a0 28)) rfl rfl hk_5 (by decide) rfl ?_
  refine go_iconst (v := 1) rfl (by decide) ?_
  refine go_icmp_ne (t := 17) rfl rfl (fun hx_6 => ?_) (fun hx_6 => ?_)
  · rw [if_pos hx_6] at e
    refine go_iconst (v := 1) rfl (by decide) ?_
    refine go_goto (t := 18) rfl rfl ?_
    refine go_forget (l := [some (.ref a0), some (.int r2), none]) ⟨Or.inl rfl, Or.inl rfl, Or.inl rfl, trivial⟩ ?_
    exact f_RM_erase_J18_s F a0 r2 1 _ _ _ e
  · rw [if_neg hx_6] at e
    refine go_iconst (v := 0) rfl (by decide) ?_
    refine go_forget (l := [some (.ref a0), some (.int r2), none]) ⟨Or.inl rfl, Or.inl rfl, Or.inl rfl, trivial⟩ ?_
    exact f_RM_erase_J18_s F a0 r2 0 _ _ _ e
def f_RM_does (F : Nat) (a0 : Nat) (v1 : Int32) (h : ck_H) : Option (Int32 × ck_H) :=
  ck_as (gk h a0 = 12) <|
  ck_some (gR h a0 16) fun b2 =>
  ck_as ((gk h b2 = 14 ∨ gk h b2 = 21) ∧ ¬ v1 < 0 ∧ (v1 : Int32).toNatClampNeg < gz h b2) <|
  ck_then (gI h b2 (v1 : Int32).toNatClampNeg) fun x5 =>
  ck_some (gR h a0 15) fun b6 =>
  ck_as ((gk h b6 = 14 ∨ gk h b6 = 21) ∧ ¬ v1 < 0 ∧ (v1 : Int32).toNatClampNeg < gz h b6) <|
  if (gI h b6 (v1 : Int32).toNatClampNeg) = 1 then
    ck_some (gR h a0 14) fun b10 =>
    ck_as ((gk h b10 = 13 ∨ gk h b10 = 15) ∧ ¬ x5 < 0 ∧ (x5 : Int32).toNatClampNeg < gz h b10) <|
    ck_some (gR h a0 14) fun b13 =>
    ck_as ((gk h b13 = 13 ∨ gk h b13 = 15) ∧ ¬ (x5 + 1) < 0 ∧ (x5 + 1 : Int32).toNatClampNeg < gz h b13) <|
    ck_bd (f_RM_seek F a0 ((gI h b10 (x5 : Int32).toNatClampNeg) &&& 255) ((gI h b13 (x5 + 1 : Int32).toNatClampNeg) &&& 255) 1 h) fun r16 h17 =>
    some (r16, h17)
  else
  if (gI h b6 (v1 : Int32).toNatClampNeg) = 2 then
    ck_some (gR h a0 19) fun b20 =>
    ck_as ((gk h b20 = 14 ∨ gk h b20 = 21) ∧ ¬ (gI h a0 26) < 0 ∧ (gI h a0 26 : Int32).toNatClampNeg < gz h b20) <|
    ck_some (gR h a0 14) fun b23 =>
    ck_as ((gk h b23 = 13 ∨ gk h b23 = 15) ∧ ¬ x5 < 0 ∧ (x5 : Int32).toNatClampNeg < gz h b23) <|
    ck_bd (f_RM_seek F a0 (gI h b20 (gI h a0 26 : Int32).toNatClampNeg) ((gI h b23 (x5 : Int32).toNatClampNeg) &&& 255) 0 h) fun r26 h27 =>
    some (r26, h27)
  else
  if (gI h b6 (v1 : Int32).toNatClampNeg) = 3 then
    ck_bd (f_RM_home F a0 x5 h) fun r30 h31 =>
    some (r30, h31)
  else
  if (gI h b6 (v1 : Int32).toNatClampNeg) = 4 then
    ck_bd (f_RM_searchId F a0 x5 h) fun r34 h35 =>
    some (r34, h35)
  else
  if (gI h b6 (v1 : Int32).toNatClampNeg) = 5 then
    ck_bd (f_RM_searchKey F a0 v1 h) fun r38 h39 =>
    some (r38, h39)
  else
  if (gI h b6 (v1 : Int32).toNatClampNeg) = 6 then
    ck_bd (f_RM_searchKey F a0 v1 h) fun r42 h43 =>
    some (r42, h43)
  else
  if (gI h b6 (v1 : Int32).toNatClampNeg) = 7 then
    ck_then (wI h a0 31 x5) fun h46 =>
    some ((-1), h46)
  else
  if (gI h b6 (v1 : Int32).toNatClampNeg) = 8 then
    ck_bd (f_RM_readCount F a0 v1 h) fun r49 h50 =>
    some (r49, h50)
  else
  if (gI h b6 (v1 : Int32).toNatClampNeg) = 9 then
    ck_bd (f_RM_readData F a0 v1 h) fun r53 h54 =>
    some (r53, h54)
  else
  if (gI h b6 (v1 : Int32).toNatClampNeg) = 10 then
    ck_bd (f_RM_readData F a0 v1 h) fun r57 h58 =>
    some (r57, h58)
  else
  if (gI h b6 (v1 : Int32).toNatClampNeg) = 11 then
    ck_bd (f_RM_readAll F a0 v1 h) fun r61 h62 =>
    some (r61, h62)
  else
  if (gI h b6 (v1 : Int32).toNatClampNeg) = 12 then
    ck_bd (f_RM_writeData F a0 v1 h) fun r65 h66 =>
    some (r65, h66)
  else
  if (gI h b6 (v1 : Int32).toNatClampNeg) = 13 then
    ck_bd (f_RM_writeData F a0 v1 h) fun r69 h70 =>
    some (r69, h70)
  else
  if (gI h b6 (v1 : Int32).toNatClampNeg) = 14 then
    ck_bd (f_RM_writeRecord F a0 v1 h) fun r73 h74 =>
    some (r73, h74)
  else
  if (gI h b6 (v1 : Int32).toNatClampNeg) = 15 then
    ck_bd (f_RM_erase F a0 h) fun r77 h78 =>
    some (r77, h78)
  else
    some ((-1), h)
set_option maxRecDepth 100000 in
set_option maxHeartbeats 4000000 in
theorem s_RM_does {F : Nat} {a0 : Nat} {v1 : Int32} {h h' : ck_H} {r : Int32} (e : f_RM_does F a0 v1 h = some (r, h')) : Go k_RM_does 0 (ck_in [.ref a0, .int v1] 3) [] h (some (.int r), h') := by
  unfold f_RM_does at e
  show Go k_RM_does 0 [some (.ref a0), some (.int v1), none] [] h _
  refine go_aload_n rfl rfl ?_
  replace e := ck_as_e e
  obtain ⟨hk_1, e⟩ := e
  replace e := ck_some_e e
  obtain ⟨b2, hq_3, e⟩ := e
  refine go_get (v := .ref b2) rfl rfl hk_1 (by decide) (by show va_rf (gR h a0 16) = _; rw [hq_3]; rfl) ?_
  refine go_iload_n rfl rfl ?_
  replace e := ck_as_e e
  obtain ⟨hc_4, e⟩ := e
  refine go_iald rfl hc_4 ?_
  generalize gI h b2 (v1 : Int32).toNatClampNeg = x5 at e ⊢
  replace e := ck_then_e e
  refine go_istore_n rfl rfl ?_
  show Go k_RM_does 7 [some (.ref a0), some (.int v1), some (.int x5)] [] h _
  refine go_aload_n rfl rfl ?_
  replace e := ck_some_e e
  obtain ⟨b6, hq_7, e⟩ := e
  refine go_get (v := .ref b6) rfl rfl hk_1 (by decide) (by show va_rf (gR h a0 15) = _; rw [hq_7]; rfl) ?_
  refine go_iload_n rfl rfl ?_
  replace e := ck_as_e e
  obtain ⟨hc_8, e⟩ := e
  refine go_iald rfl hc_8 ?_
  by_cases hx_9 : (gI h b6 (v1 : Int32).toNatClampNeg) = 1
  · rw [if_pos hx_9] at e
    refine go_tswI (off := 75) (t := 88) rfl (by rw [hx_9]; decide) (by rw [hx_9]; rfl) rfl ?_
    refine go_aload_n rfl rfl ?_
    refine go_aload_n rfl rfl ?_
    replace e := ck_some_e e
    obtain ⟨b10, hq_11, e⟩ := e
    refine go_get (v := .ref b10) rfl rfl hk_1 (by decide) (by show va_rf (gR h a0 14) = _; rw [hq_11]; rfl) ?_
    refine go_iload_n rfl rfl ?_
    replace e := ck_as_e e
    obtain ⟨hc_12, e⟩ := e
    refine go_bald rfl hc_12 ?_
    refine go_sipush (v := 255) rfl (by decide) ?_
    refine go_iand rfl ?_
    refine go_aload_n rfl rfl ?_
    replace e := ck_some_e e
    obtain ⟨b13, hq_14, e⟩ := e
    refine go_get (v := .ref b13) rfl rfl hk_1 (by decide) (by show va_rf (gR h a0 14) = _; rw [hq_14]; rfl) ?_
    refine go_iload_n rfl rfl ?_
    refine go_iconst (v := 1) rfl (by decide) ?_
    refine go_iadd rfl ?_
    replace e := ck_as_e e
    obtain ⟨hc_15, e⟩ := e
    refine go_bald rfl hc_15 ?_
    refine go_sipush (v := 255) rfl (by decide) ?_
    refine go_iand rfl ?_
    refine go_iconst (v := 1) rfl (by decide) ?_
    replace e := ck_bd_e e
    obtain ⟨r16, h17, e18, e⟩ := e
    refine go_callV (As := [.int ((gI h b10 (x5 : Int32).toNatClampNeg) &&& 255), .int ((gI h b13 (x5 + 1 : Int32).toNatClampNeg) &&& 255), .int 1]) (b0 := a0) (rest := []) rfl rfl ⟨hk_1, by decide⟩ rfl ⟨Nat.le_of_ble_eq_true rfl, Nat.le_of_ble_eq_true rfl, Nat.le_of_ble_eq_true rfl, Nat.le_of_ble_eq_true rfl⟩ (s_RM_seek e18) ?_
    show Go k_RM_does 115 [some (.ref a0), some (.int v1), some (.int x5)] [.int r16] h17 _
    cases e
    exact go_ret rfl rfl
  rw [if_neg hx_9] at e
  by_cases hx_19 : (gI h b6 (v1 : Int32).toNatClampNeg) = 2
  · rw [if_pos hx_19] at e
    refine go_tswI (off := 103) (t := 116) rfl (by rw [hx_19]; decide) (by rw [hx_19]; rfl) rfl ?_
    refine go_aload_n rfl rfl ?_
    refine go_aload_n rfl rfl ?_
    replace e := ck_some_e e
    obtain ⟨b20, hq_21, e⟩ := e
    refine go_get (v := .ref b20) rfl rfl hk_1 (by decide) (by show va_rf (gR h a0 19) = _; rw [hq_21]; rfl) ?_
    refine go_aload_n rfl rfl ?_
    refine go_get (v := .int (gI h a0 26)) rfl rfl hk_1 (by decide) rfl ?_
    replace e := ck_as_e e
    obtain ⟨hc_22, e⟩ := e
    refine go_iald rfl hc_22 ?_
    refine go_aload_n rfl rfl ?_
    replace e := ck_some_e e
    obtain ⟨b23, hq_24, e⟩ := e
    refine go_get (v := .ref b23) rfl rfl hk_1 (by decide) (by show va_rf (gR h a0 14) = _; rw [hq_24]; rfl) ?_
    refine go_iload_n rfl rfl ?_
    replace e := ck_as_e e
    obtain ⟨hc_25, e⟩ := e
    refine go_bald rfl hc_25 ?_
    refine go_sipush (v := 255) rfl (by decide) ?_
    refine go_iand rfl ?_
    refine go_iconst (v := 0) rfl (by decide) ?_
    replace e := ck_bd_e e
    obtain ⟨r26, h27, e28, e⟩ := e
    refine go_callV (As := [.int (gI h b20 (gI h a0 26 : Int32).toNatClampNeg), .int ((gI h b23 (x5 : Int32).toNatClampNeg) &&& 255), .int 0]) (b0 := a0) (rest := []) rfl rfl ⟨hk_1, by decide⟩ rfl ⟨Nat.le_of_ble_eq_true rfl, Nat.le_of_ble_eq_true rfl, Nat.le_of_ble_eq_true rfl, Nat.le_of_ble_eq_true rfl⟩ (s_RM_seek e28) ?_
    show Go k_RM_does 140 [some (.ref a0), some (.int v1), some (.int x5)] [.int r26] h27 _
    cases e
    exact go_ret rfl rfl
  rw [if_neg hx_19] at e
  by_cases hx_29 : (gI h b6 (v1 : Int32).toNatClampNeg) = 3
  · rw [if_pos hx_29] at e
    refine go_tswI (off := 128) (t := 141) rfl (by rw [hx_29]; decide) (by rw [hx_29]; rfl) rfl ?_
    refine go_aload_n rfl rfl ?_
    refine go_iload_n rfl rfl ?_
    replace e := ck_bd_e e
    obtain ⟨r30, h31, e32, e⟩ := e
    refine go_callV (As := [.int x5]) (b0 := a0) (rest := []) rfl rfl ⟨hk_1, by decide⟩ rfl ⟨Nat.le_of_ble_eq_true rfl, Nat.le_of_ble_eq_true rfl, Nat.le_of_ble_eq_true rfl, Nat.le_of_ble_eq_true rfl⟩ (s_RM_home e32) ?_
    show Go k_RM_does 146 [some (.ref a0), some (.int v1), some (.int x5)] [.int r30] h31 _
    cases e
    exact go_ret rfl rfl
  rw [if_neg hx_29] at e
  by_cases hx_33 : (gI h b6 (v1 : Int32).toNatClampNeg) = 4
  · rw [if_pos hx_33] at e
    refine go_tswI (off := 134) (t := 147) rfl (by rw [hx_33]; decide) (by rw [hx_33]; rfl) rfl ?_
    refine go_aload_n rfl rfl ?_
    refine go_iload_n rfl rfl ?_
    replace e := ck_bd_e e
    obtain ⟨r34, h35, e36, e⟩ := e
    refine go_callV (As := [.int x5]) (b0 := a0) (rest := []) rfl rfl ⟨hk_1, by decide⟩ rfl ⟨Nat.le_of_ble_eq_true rfl, Nat.le_of_ble_eq_true rfl, Nat.le_of_ble_eq_true rfl, Nat.le_of_ble_eq_true rfl⟩ (s_RM_searchId e36) ?_
    show Go k_RM_does 152 [some (.ref a0), some (.int v1), some (.int x5)] [.int r34] h35 _
    cases e
    exact go_ret rfl rfl
  rw [if_neg hx_33] at e
  by_cases hx_37 : (gI h b6 (v1 : Int32).toNatClampNeg) = 5
  · rw [if_pos hx_37] at e
    refine go_tswI (off := 140) (t := 153) rfl (by rw [hx_37]; decide) (by rw [hx_37]; rfl) rfl ?_
    refine go_aload_n rfl rfl ?_
    refine go_iload_n rfl rfl ?_
    replace e := ck_bd_e e
    obtain ⟨r38, h39, e40, e⟩ := e
    refine go_callV (As := [.int v1]) (b0 := a0) (rest := []) rfl rfl ⟨hk_1, by decide⟩ rfl ⟨Nat.le_of_ble_eq_true rfl, Nat.le_of_ble_eq_true rfl, Nat.le_of_ble_eq_true rfl, Nat.le_of_ble_eq_true rfl⟩ (s_RM_searchKey e40) ?_
    show Go k_RM_does 158 [some (.ref a0), some (.int v1), some (.int x5)] [.int r38] h39 _
    cases e
    exact go_ret rfl rfl
  rw [if_neg hx_37] at e
  by_cases hx_41 : (gI h b6 (v1 : Int32).toNatClampNeg) = 6
  · rw [if_pos hx_41] at e
    refine go_tswI (off := 140) (t := 153) rfl (by rw [hx_41]; decide) (by rw [hx_41]; rfl) rfl ?_
    refine go_aload_n rfl rfl ?_
    refine go_iload_n rfl rfl ?_
    replace e := ck_bd_e e
    obtain ⟨r42, h43, e44, e⟩ := e
    refine go_callV (As := [.int v1]) (b0 := a0) (rest := []) rfl rfl ⟨hk_1, by decide⟩ rfl ⟨Nat.le_of_ble_eq_true rfl, Nat.le_of_ble_eq_true rfl, Nat.le_of_ble_eq_true rfl, Nat.le_of_ble_eq_true rfl⟩ (s_RM_searchKey e44) ?_
    show Go k_RM_does 158 [some (.ref a0), some (.int v1), some (.int x5)] [.int r42] h43 _
    cases e
    exact go_ret rfl rfl
  rw [if_neg hx_41] at e
  by_cases hx_45 : (gI h b6 (v1 : Int32).toNatClampNeg) = 7
  · rw [if_pos hx_45] at e
    refine go_tswI (off := 146) (t := 159) rfl (by rw [hx_45]; decide) (by rw [hx_45]; rfl) rfl ?_
    refine go_aload_n rfl rfl ?_
    refine go_iload_n rfl rfl ?_
    refine go_put (h1 := wI h a0 31 x5) rfl rfl hk_1 ⟨by decide, by decide, Or.inl rfl⟩ rfl ?_
    have hk_47 : gk (wI h a0 31 x5) a0 = 12 := ck_kI.trans hk_1
    generalize wI h a0 31 x5 = h46 at e hk_47 ⊢
    replace e := ck_then_e e
    refine go_iconst (v := (-1)) rfl (by decide) ?_
    cases e
    exact go_ret rfl rfl
  rw [if_neg hx_45] at e
  by_cases hx_48 : (gI h b6 (v1 : Int32).toNatClampNeg) = 8
  · rw [if_pos hx_48] at e
    refine go_tswI (off := 153) (t := 166) rfl (by rw [hx_48]; decide) (by rw [hx_48]; rfl) rfl ?_
    refine go_aload_n rfl rfl ?_
    refine go_iload_n rfl rfl ?_
    replace e := ck_bd_e e
    obtain ⟨r49, h50, e51, e⟩ := e
    refine go_callV (As := [.int v1]) (b0 := a0) (rest := []) rfl rfl ⟨hk_1, by decide⟩ rfl ⟨Nat.le_of_ble_eq_true rfl, Nat.le_of_ble_eq_true rfl, Nat.le_of_ble_eq_true rfl, Nat.le_of_ble_eq_true rfl⟩ (s_RM_readCount e51) ?_
    show Go k_RM_does 171 [some (.ref a0), some (.int v1), some (.int x5)] [.int r49] h50 _
    cases e
    exact go_ret rfl rfl
  rw [if_neg hx_48] at e
  by_cases hx_52 : (gI h b6 (v1 : Int32).toNatClampNeg) = 9
  · rw [if_pos hx_52] at e
    refine go_tswI (off := 159) (t := 172) rfl (by rw [hx_52]; decide) (by rw [hx_52]; rfl) rfl ?_
    refine go_aload_n rfl rfl ?_
    refine go_iload_n rfl rfl ?_
    replace e := ck_bd_e e
    obtain ⟨r53, h54, e55, e⟩ := e
    refine go_callV (As := [.int v1]) (b0 := a0) (rest := []) rfl rfl ⟨hk_1, by decide⟩ rfl ⟨Nat.le_of_ble_eq_true rfl, Nat.le_of_ble_eq_true rfl, Nat.le_of_ble_eq_true rfl, Nat.le_of_ble_eq_true rfl⟩ (s_RM_readData e55) ?_
    show Go k_RM_does 177 [some (.ref a0), some (.int v1), some (.int x5)] [.int r53] h54 _
    cases e
    exact go_ret rfl rfl
  rw [if_neg hx_52] at e
  by_cases hx_56 : (gI h b6 (v1 : Int32).toNatClampNeg) = 10
  · rw [if_pos hx_56] at e
    refine go_tswI (off := 159) (t := 172) rfl (by rw [hx_56]; decide) (by rw [hx_56]; rfl) rfl ?_
    refine go_aload_n rfl rfl ?_
    refine go_iload_n rfl rfl ?_
    replace e := ck_bd_e e
    obtain ⟨r57, h58, e59, e⟩ := e
    refine go_callV (As := [.int v1]) (b0 := a0) (rest := []) rfl rfl ⟨hk_1, by decide⟩ rfl ⟨Nat.le_of_ble_eq_true rfl, Nat.le_of_ble_eq_true rfl, Nat.le_of_ble_eq_true rfl, Nat.le_of_ble_eq_true rfl⟩ (s_RM_readData e59) ?_
    show Go k_RM_does 177 [some (.ref a0), some (.int v1), some (.int x5)] [.int r57] h58 _
    cases e
    exact go_ret rfl rfl
  rw [if_neg hx_56] at e
  by_cases hx_60 : (gI h b6 (v1 : Int32).toNatClampNeg) = 11
  · rw [if_pos hx_60] at e
    refine go_tswI (off := 165) (t := 178) rfl (by rw [hx_60]; decide) (by rw [hx_60]; rfl) rfl ?_
    refine go_aload_n rfl rfl ?_
    refine go_iload_n rfl rfl ?_
    replace e := ck_bd_e e
    obtain ⟨r61, h62, e63, e⟩ := e
    refine go_callV (As := [.int v1]) (b0 := a0) (rest := []) rfl rfl ⟨hk_1, by decide⟩ rfl ⟨Nat.le_of_ble_eq_true rfl, Nat.le_of_ble_eq_true rfl, Nat.le_of_ble_eq_true rfl, Nat.le_of_ble_eq_true rfl⟩ (s_RM_readAll e63) ?_
    show Go k_RM_does 183 [some (.ref a0), some (.int v1), some (.int x5)] [.int r61] h62 _
    cases e
    exact go_ret rfl rfl
  rw [if_neg hx_60] at e
  by_cases hx_64 : (gI h b6 (v1 : Int32).toNatClampNeg) = 12
  · rw [if_pos hx_64] at e
    refine go_tswI (off := 171) (t := 184) rfl (by rw [hx_64]; decide) (by rw [hx_64]; rfl) rfl ?_
    refine go_aload_n rfl rfl ?_
    refine go_iload_n rfl rfl ?_
    replace e := ck_bd_e e
    obtain ⟨r65, h66, e67, e⟩ := e
    refine go_callV (As := [.int v1]) (b0 := a0) (rest := []) rfl rfl ⟨hk_1, by decide⟩ rfl ⟨Nat.le_of_ble_eq_true rfl, Nat.le_of_ble_eq_true rfl, Nat.le_of_ble_eq_true rfl, Nat.le_of_ble_eq_true rfl⟩ (s_RM_writeData e67) ?_
    show Go k_RM_does 189 [some (.ref a0), some (.int v1), some (.int x5)] [.int r65] h66 _
    cases e
    exact go_ret rfl rfl
  rw [if_neg hx_64] at e
  by_cases hx_68 : (gI h b6 (v1 : Int32).toNatClampNeg) = 13
  · rw [if_pos hx_68] at e
    refine go_tswI (off := 171) (t := 184) rfl (by rw [hx_68]; decide) (by rw [hx_68]; rfl) rfl ?_
    refine go_aload_n rfl rfl ?_
    refine go_iload_n rfl rfl ?_
    replace e := ck_bd_e e
    obtain ⟨r69, h70, e71, e⟩ := e
    refine go_callV (As := [.int v1]) (b0 := a0) (rest := []) rfl rfl ⟨hk_1, by decide⟩ rfl ⟨Nat.le_of_ble_eq_true rfl, Nat.le_of_ble_eq_true rfl, Nat.le_of_ble_eq_true rfl, Nat.le_of_ble_eq_true rfl⟩ (s_RM_writeData e71) ?_
    show Go k_RM_does 189 [some (.ref a0), some (.int v1), some (.int x5)] [.int r69] h70 _
    cases e
    exact go_ret rfl rfl
  rw [if_neg hx_68] at e
  by_cases hx_72 : (gI h b6 (v1 : Int32).toNatClampNeg) = 14
  · rw [if_pos hx_72] at e
    refine go_tswI (off := 177) (t := 190) rfl (by rw [hx_72]; decide) (by rw [hx_72]; rfl) rfl ?_
    refine go_aload_n rfl rfl ?_
    refine go_iload_n rfl rfl ?_
    replace e := ck_bd_e e
    obtain ⟨r73, h74, e75, e⟩ := e
    refine go_callV (As := [.int v1]) (b0 := a0) (rest := []) rfl rfl ⟨hk_1, by decide⟩ rfl ⟨Nat.le_of_ble_eq_true rfl, Nat.le_of_ble_eq_true rfl, Nat.le_of_ble_eq_true rfl, Nat.le_of_ble_eq_true rfl⟩ (s_RM_writeRecord e75) ?_
    show Go k_RM_does 195 [some (.ref a0), some (.int v1), some (.int x5)] [.int r73] h74 _
    cases e
    exact go_ret rfl rfl
  rw [if_neg hx_72] at e
  by_cases hx_76 : (gI h b6 (v1 : Int32).toNatClampNeg) = 15
  · rw [if_pos hx_76] at e
    refine go_tswI (off := 183) (t := 196) rfl (by rw [hx_76]; decide) (by rw [hx_76]; rfl) rfl ?_
    refine go_aload_n rfl rfl ?_
    replace e := ck_bd_e e
    obtain ⟨r77, h78, e79, e⟩ := e
    refine go_callV (As := []) (b0 := a0) (rest := []) rfl rfl ⟨hk_1, by decide⟩ rfl ⟨Nat.le_of_ble_eq_true rfl, Nat.le_of_ble_eq_true rfl, Nat.le_of_ble_eq_true rfl, Nat.le_of_ble_eq_true rfl⟩ (s_RM_erase e79) ?_
    show Go k_RM_does 200 [some (.ref a0), some (.int v1), some (.int x5)] [.int r77] h78 _
    cases e
    exact go_ret rfl rfl
  rw [if_neg hx_76] at e
  have hz_ : (gI h b6 (v1 : Int32).toNatClampNeg : Int32).toInt < 1 ∨ 15 < (gI h b6 (v1 : Int32).toNatClampNeg : Int32).toInt := by
    have z0 := lv_neT hx_9 (k := 1) (a := 1) rfl
    have z1 := lv_neT hx_19 (k := 2) (a := 2) rfl
    have z2 := lv_neT hx_29 (k := 3) (a := 3) rfl
    have z3 := lv_neT hx_33 (k := 4) (a := 4) rfl
    have z4 := lv_neT hx_37 (k := 5) (a := 5) rfl
    have z5 := lv_neT hx_41 (k := 6) (a := 6) rfl
    have z6 := lv_neT hx_45 (k := 7) (a := 7) rfl
    have z7 := lv_neT hx_48 (k := 8) (a := 8) rfl
    have z8 := lv_neT hx_52 (k := 9) (a := 9) rfl
    have z9 := lv_neT hx_56 (k := 10) (a := 10) rfl
    have z10 := lv_neT hx_60 (k := 11) (a := 11) rfl
    have z11 := lv_neT hx_64 (k := 12) (a := 12) rfl
    have z12 := lv_neT hx_68 (k := 13) (a := 13) rfl
    have z13 := lv_neT hx_72 (k := 14) (a := 14) rfl
    have z14 := lv_neT hx_76 (k := 15) (a := 15) rfl
    omega
  refine go_tswO (m := k_RM_does) (pc := 13) (t := 201) (d := 188) (offs := #[75, 103, 128, 134, 140, 140, 146, 153, 159, 159, 165, 171, 171, 177, 183]) rfl hz_ rfl ?_
  refine go_iconst (v := (-1)) rfl (by decide) ?_
  cases e
  exact go_ret rfl rfl
def f_RM_run_L20 (F : Nat)  : Nat → Nat → ck_H → Option (Unit × ck_H)
  | 0, _, _ => none
  | n + 1, a0, h =>
    ck_as (gk h a0 = 12) <|
    if (gI h a0 22) = ((-1) : Int32) then
      ck_then (gI h a0 31) fun x3 =>
      if x3 < (gI h a0 27) then
        ck_then (wI h a0 25 ((gI h a0 25) + 1)) fun h5 =>
        ck_then (wI h5 a0 24 x3) fun h7 =>
        ck_then (wI h7 a0 23 0) fun h9 =>
        ck_then (wI h9 a0 31 (x3 + 1)) fun h11 =>
        ck_bd (f_RM_does F a0 x3 h11) fun r13 h14 =>
        ck_as (gk h14 a0 = 12) <|
        ck_then (wI h14 a0 22 r13) fun h17 =>
        ck_some (gR h17 a0 15) fun b19 =>
        ck_as ((gk h17 b19 = 14 ∨ gk h17 b19 = 21) ∧ ¬ x3 < 0 ∧ (x3 : Int32).toNatClampNeg < gz h17 b19) <|
        ck_bd (f_RM_isSearch F a0 (gI h17 b19 (x3 : Int32).toNatClampNeg) h17) fun r22 h23 =>
        if r22 = (0 : Int32) then
          ck_as (gk h23 a0 = 12) <|
          ck_some (gR h23 a0 15) fun b27 =>
          ck_as ((gk h23 b27 = 14 ∨ gk h23 b27 = 21) ∧ ¬ x3 < 0 ∧ (x3 : Int32).toNatClampNeg < gz h23 b27) <|
          if (gI h23 b27 (x3 : Int32).toNatClampNeg) = (7 : Int32) then
            f_RM_run_L20 F n a0 h23
          else
            ck_some (gR h23 a0 15) fun b31 =>
            ck_as ((gk h23 b31 = 14 ∨ gk h23 b31 = 21) ∧ ¬ x3 < 0 ∧ (x3 : Int32).toNatClampNeg < gz h23 b31) <|
            if (gI h23 b31 (x3 : Int32).toNatClampNeg) = (16 : Int32) then
              f_RM_run_L20 F n a0 h23
            else
              ck_then (wI h23 a0 30 0) fun h35 =>
              f_RM_run_L20 F n a0 h35
        else
          f_RM_run_L20 F n a0 h23
      else
        ck_then (wI h a0 22 0) fun h37 =>
        f_RM_run_L20 F n a0 h37
    else
      some ((), h)
set_option maxRecDepth 100000 in
set_option maxHeartbeats 4000000 in
theorem f_RM_run_L20_s (F : Nat)   : ∀ (n : Nat) (a0 : Nat) (h : ck_H) (r : Unit) (h' : ck_H), f_RM_run_L20 F n a0 h = some (r, h') → Go k_RM_run 20 [some (.ref a0), none] [] h (none, h') := by
  intro n
  induction n with
  | zero => intro a0 h r h' e; simp only [f_RM_run_L20] at e; cases e
  | succ n ih =>
    intro a0 h r h' e
    rw [f_RM_run_L20] at e
    refine go_aload_n rfl rfl ?_
    replace e := ck_as_e e
    obtain ⟨hk_1, e⟩ := e
    refine go_get (v := .int (gI h a0 22)) rfl rfl hk_1 (by decide) rfl ?_
    refine go_iconst (v := (-1)) rfl (by decide) ?_
    refine go_icmp_ne (t := 128) rfl rfl (fun hx_2 => ?_) (fun hx_2 => ?_)
    · rw [if_pos hx_2] at e
      refine go_aload_n rfl rfl ?_
      refine go_get (v := .int (gI h a0 31)) rfl rfl hk_1 (by decide) rfl ?_
      generalize gI h a0 31 = x3 at e ⊢
      replace e := ck_then_e e
      refine go_istore_n rfl rfl ?_
      show Go k_RM_run 33 [some (.ref a0), some (.int x3)] [] h _
      refine go_iload_n rfl rfl ?_
      refine go_aload_n rfl rfl ?_
      refine go_get (v := .int (gI h a0 27)) rfl rfl hk_1 (by decide) rfl ?_
      refine go_icmp_lt (t := 49) rfl rfl (fun hx_4 => ?_) (fun hx_4 => ?_)
      · rw [if_pos hx_4] at e
        refine go_aload_n rfl rfl ?_
        refine go_dup rfl rfl ?_
        refine go_get (v := .int (gI h a0 25)) rfl rfl hk_1 (by decide) rfl ?_
        refine go_iconst (v := 1) rfl (by decide) ?_
        refine go_iadd rfl ?_
        refine go_put (h1 := wI h a0 25 ((gI h a0 25) + 1)) rfl rfl hk_1 ⟨by decide, by decide, Or.inl rfl⟩ rfl ?_
        have hk_6 : gk (wI h a0 25 ((gI h a0 25) + 1)) a0 = 12 := ck_kI.trans hk_1
        generalize wI h a0 25 ((gI h a0 25) + 1) = h5 at e hk_6 ⊢
        replace e := ck_then_e e
        refine go_aload_n rfl rfl ?_
        refine go_iload_n rfl rfl ?_
        refine go_put (h1 := wI h5 a0 24 x3) rfl rfl hk_6 ⟨by decide, by decide, Or.inl rfl⟩ rfl ?_
        have hk_8 : gk (wI h5 a0 24 x3) a0 = 12 := ck_kI.trans hk_6
        generalize wI h5 a0 24 x3 = h7 at e hk_8 ⊢
        replace e := ck_then_e e
        refine go_aload_n rfl rfl ?_
        refine go_iconst (v := 0) rfl (by decide) ?_
        refine go_put (h1 := wI h7 a0 23 0) rfl rfl hk_8 ⟨by decide, by decide, Or.inl rfl⟩ rfl ?_
        have hk_10 : gk (wI h7 a0 23 0) a0 = 12 := ck_kI.trans hk_8
        generalize wI h7 a0 23 0 = h9 at e hk_10 ⊢
        replace e := ck_then_e e
        refine go_aload_n rfl rfl ?_
        refine go_iload_n rfl rfl ?_
        refine go_iconst (v := 1) rfl (by decide) ?_
        refine go_iadd rfl ?_
        refine go_put (h1 := wI h9 a0 31 (x3 + 1)) rfl rfl hk_10 ⟨by decide, by decide, Or.inl rfl⟩ rfl ?_
        have hk_12 : gk (wI h9 a0 31 (x3 + 1)) a0 = 12 := ck_kI.trans hk_10
        generalize wI h9 a0 31 (x3 + 1) = h11 at e hk_12 ⊢
        replace e := ck_then_e e
        refine go_aload_n rfl rfl ?_
        refine go_aload_n rfl rfl ?_
        refine go_iload_n rfl rfl ?_
        replace e := ck_bd_e e
        obtain ⟨r13, h14, e15, e⟩ := e
        refine go_callV (As := [.int x3]) (b0 := a0) (rest := [.ref a0]) rfl rfl ⟨hk_12, by decide⟩ rfl ⟨Nat.le_of_ble_eq_true rfl, Nat.le_of_ble_eq_true rfl, Nat.le_of_ble_eq_true rfl, Nat.le_of_ble_eq_true rfl⟩ (s_RM_does e15) ?_
        show Go k_RM_run 82 [some (.ref a0), some (.int x3)] [.int r13, .ref a0] h14 _
        replace e := ck_as_e e
        obtain ⟨hk_16, e⟩ := e
        refine go_put (h1 := wI h14 a0 22 r13) rfl rfl hk_16 ⟨by decide, by decide, Or.inl rfl⟩ rfl ?_
        have hk_18 : gk (wI h14 a0 22 r13) a0 = 12 := ck_kI.trans hk_16
        generalize wI h14 a0 22 r13 = h17 at e hk_18 ⊢
        replace e := ck_then_e e
        refine go_aload_n rfl rfl ?_
        refine go_aload_n rfl rfl ?_
        replace e := ck_some_e e
        obtain ⟨b19, hq_20, e⟩ := e
        refine go_get (v := .ref b19) rfl rfl hk_18 (by decide) (by show va_rf (gR h17 a0 15) = _; rw [hq_20]; rfl) ?_
        refine go_iload_n rfl rfl ?_
        replace e := ck_as_e e
        obtain ⟨hc_21, e⟩ := e
        refine go_iald rfl hc_21 ?_
        replace e := ck_bd_e e
        obtain ⟨r22, h23, e24, e⟩ := e
        refine go_callV (As := [.int (gI h17 b19 (x3 : Int32).toNatClampNeg)]) (b0 := a0) (rest := []) rfl rfl ⟨hk_18, by decide⟩ rfl ⟨Nat.le_of_ble_eq_true rfl, Nat.le_of_ble_eq_true rfl, Nat.le_of_ble_eq_true rfl, Nat.le_of_ble_eq_true rfl⟩ (s_RM_isSearch e24) ?_
        show Go k_RM_run 95 [some (.ref a0), some (.int x3)] [.int r22] h23 _
        refine go_if_ne (t := 125) rfl rfl (fun hx_25 => ?_) (fun hx_25 => ?_)
        · rw [if_pos hx_25] at e
          refine go_aload_n rfl rfl ?_
          replace e := ck_as_e e
          obtain ⟨hk_26, e⟩ := e
          replace e := ck_some_e e
          obtain ⟨b27, hq_28, e⟩ := e
          refine go_get (v := .ref b27) rfl rfl hk_26 (by decide) (by show va_rf (gR h23 a0 15) = _; rw [hq_28]; rfl) ?_
          refine go_iload_n rfl rfl ?_
          replace e := ck_as_e e
          obtain ⟨hc_29, e⟩ := e
          refine go_iald rfl hc_29 ?_
          refine go_bipush (v := 7) rfl (by decide) ?_
          refine go_icmp_eq (t := 125) rfl rfl (fun hx_30 => ?_) (fun hx_30 => ?_)
          · rw [if_pos hx_30] at e
            refine go_goto (t := 20) rfl rfl ?_
            refine go_forget (l := [some (.ref a0), none]) ⟨Or.inl rfl, Or.inr ⟨rfl, fun _ q => by cases q; rfl⟩, trivial⟩ ?_
            exact ih _ _ _ _ e
          · rw [if_neg hx_30] at e
            refine go_aload_n rfl rfl ?_
            replace e := ck_some_e e
            obtain ⟨b31, hq_32, e⟩ := e
            refine go_get (v := .ref b31) rfl rfl hk_26 (by decide) (by show va_rf (gR h23 a0 15) = _; rw [hq_32]; rfl) ?_
            refine go_iload_n rfl rfl ?_
            replace e := ck_as_e e
            obtain ⟨hc_33, e⟩ := e
            refine go_iald rfl hc_33 ?_
            refine go_bipush (v := 16) rfl (by decide) ?_
            refine go_icmp_eq (t := 125) rfl rfl (fun hx_34 => ?_) (fun hx_34 => ?_)
            · rw [if_pos hx_34] at e
              refine go_goto (t := 20) rfl rfl ?_
              refine go_forget (l := [some (.ref a0), none]) ⟨Or.inl rfl, Or.inr ⟨rfl, fun _ q => by cases q; rfl⟩, trivial⟩ ?_
              exact ih _ _ _ _ e
            · rw [if_neg hx_34] at e
              refine go_aload_n rfl rfl ?_
              refine go_iconst (v := 0) rfl (by decide) ?_
              refine go_put (h1 := wI h23 a0 30 0) rfl rfl hk_26 ⟨by decide, by decide, Or.inl rfl⟩ rfl ?_
              have hk_36 : gk (wI h23 a0 30 0) a0 = 12 := ck_kI.trans hk_26
              generalize wI h23 a0 30 0 = h35 at e hk_36 ⊢
              replace e := ck_then_e e
              refine go_goto (t := 20) rfl rfl ?_
              refine go_forget (l := [some (.ref a0), none]) ⟨Or.inl rfl, Or.inr ⟨rfl, fun _ q => by cases q; rfl⟩, trivial⟩ ?_
              exact ih _ _ _ _ e
        · rw [if_neg hx_25] at e
          refine go_goto (t := 20) rfl rfl ?_
          refine go_forget (l := [some (.ref a0), none]) ⟨Or.inl rfl, Or.inr ⟨rfl, fun _ q => by cases q; rfl⟩, trivial⟩ ?_
          exact ih _ _ _ _ e
      · rw [if_neg hx_4] at e
        refine go_aload_n rfl rfl ?_
        refine go_iconst (v := 0) rfl (by decide) ?_
        refine go_put (h1 := wI h a0 22 0) rfl rfl hk_1 ⟨by decide, by decide, Or.inl rfl⟩ rfl ?_
        have hk_38 : gk (wI h a0 22 0) a0 = 12 := ck_kI.trans hk_1
        generalize wI h a0 22 0 = h37 at e hk_38 ⊢
        replace e := ck_then_e e
        refine go_goto (t := 125) rfl rfl ?_
        refine go_goto (t := 20) rfl rfl ?_
        refine go_forget (l := [some (.ref a0), none]) ⟨Or.inl rfl, Or.inr ⟨rfl, fun _ q => by cases q; rfl⟩, trivial⟩ ?_
        exact ih _ _ _ _ e
    · rw [if_neg hx_2] at e
      cases e
      exact go_ret rfl rfl
def f_RM_run (F : Nat) (a0 : Nat) (h : ck_H) : Option (Unit × ck_H) :=
  ck_as (gk h a0 = 12) <|
  ck_then (wI h a0 28 0) fun h2 =>
  ck_then (wI h2 a0 30 0) fun h4 =>
  ck_then (wI h4 a0 31 0) fun h6 =>
  ck_then (wI h6 a0 22 (-1)) fun h8 =>
  f_RM_run_L20 F F a0 h8
set_option maxRecDepth 100000 in
set_option maxHeartbeats 4000000 in
theorem s_RM_run {F : Nat} {a0 : Nat} {h h' : ck_H} {r : Unit} (e : f_RM_run F a0 h = some (r, h')) : Go k_RM_run 0 (ck_in [.ref a0] 2) [] h (none, h') := by
  unfold f_RM_run at e
  show Go k_RM_run 0 [some (.ref a0), none] [] h _
  refine go_aload_n rfl rfl ?_
  refine go_iconst (v := 0) rfl (by decide) ?_
  replace e := ck_as_e e
  obtain ⟨hk_1, e⟩ := e
  refine go_put (h1 := wI h a0 28 0) rfl rfl hk_1 ⟨by decide, by decide, Or.inl rfl⟩ rfl ?_
  have hk_3 : gk (wI h a0 28 0) a0 = 12 := ck_kI.trans hk_1
  generalize wI h a0 28 0 = h2 at e hk_3 ⊢
  replace e := ck_then_e e
  refine go_aload_n rfl rfl ?_
  refine go_iconst (v := 0) rfl (by decide) ?_
  refine go_put (h1 := wI h2 a0 30 0) rfl rfl hk_3 ⟨by decide, by decide, Or.inl rfl⟩ rfl ?_
  have hk_5 : gk (wI h2 a0 30 0) a0 = 12 := ck_kI.trans hk_3
  generalize wI h2 a0 30 0 = h4 at e hk_5 ⊢
  replace e := ck_then_e e
  refine go_aload_n rfl rfl ?_
  refine go_iconst (v := 0) rfl (by decide) ?_
  refine go_put (h1 := wI h4 a0 31 0) rfl rfl hk_5 ⟨by decide, by decide, Or.inl rfl⟩ rfl ?_
  have hk_7 : gk (wI h4 a0 31 0) a0 = 12 := ck_kI.trans hk_5
  generalize wI h4 a0 31 0 = h6 at e hk_7 ⊢
  replace e := ck_then_e e
  refine go_aload_n rfl rfl ?_
  refine go_iconst (v := (-1)) rfl (by decide) ?_
  refine go_put (h1 := wI h6 a0 22 (-1)) rfl rfl hk_7 ⟨by decide, by decide, Or.inl rfl⟩ rfl ?_
  have hk_9 : gk (wI h6 a0 22 (-1)) a0 = 12 := ck_kI.trans hk_7
  generalize wI h6 a0 22 (-1) = h8 at e hk_9 ⊢
  replace e := ck_then_e e
  refine go_forget (l := [some (.ref a0), none]) ⟨Or.inl rfl, Or.inl rfl, trivial⟩ ?_
  exact f_RM_run_L20_s F F _ _ _ _ e
def f_RM_start (F : Nat) (a0 : Nat) (v1 : Int32) (h : ck_H) : Option (Int32 × ck_H) :=
  ck_bd (f_RM_in F ((v1 : Int32).toInt64) 0 1 h) fun r1 h2 =>
  if r1 = (0 : Int32) then
    some ((-2), h2)
  else
    ck_as (gk h2 a0 = 12) <|
    ck_then (wI h2 a0 26 v1) fun h6 =>
    ck_then (wI h6 a0 23 0) fun h8 =>
    ck_then (wI h8 a0 24 (-1)) fun h10 =>
    ck_then (wI h10 a0 25 0) fun h12 =>
    ck_bd (f_RM_checks F a0 h12) fun r14 h15 =>
    if r14 = (0 : Int32) then
      ck_as (gk h15 a0 = 12) <|
      ck_then (wI h15 a0 22 4) fun h19 =>
      some (gI h19 a0 22, h19)
    else
      if v1 = (0 : Int32) then
        ck_as (gk h15 a0 = 12) <|
        ck_bd (f_RM_writes F a0 h15) fun r23 h24 =>
        if r23 = (0 : Int32) then
          ck_as (gk h24 a0 = 12) <|
          ck_bd (f_RM_run F a0 h24) fun _ h29 =>
          ck_as (gk h29 a0 = 12) <|
          some (gI h29 a0 22, h29)
        else
          ck_as (gk h24 a0 = 12) <|
          ck_then (wI h24 a0 22 8) fun h33 =>
          some (gI h33 a0 22, h33)
      else
        ck_as (gk h15 a0 = 12) <|
        ck_bd (f_RM_run F a0 h15) fun _ h37 =>
        ck_as (gk h37 a0 = 12) <|
        some (gI h37 a0 22, h37)
set_option maxRecDepth 100000 in
set_option maxHeartbeats 4000000 in
theorem s_RM_start {F : Nat} {a0 : Nat} {v1 : Int32} {h h' : ck_H} {r : Int32} (e : f_RM_start F a0 v1 h = some (r, h')) : Go k_RM_start 0 (ck_in [.ref a0, .int v1] 2) [] h (some (.int r), h') := by
  unfold f_RM_start at e
  show Go k_RM_start 0 [some (.ref a0), some (.int v1)] [] h _
  refine go_iload_n rfl rfl ?_
  refine go_i2l rfl ?_
  refine go_lconst (v := 0) rfl (by decide) ?_
  refine go_lconst (v := 1) rfl (by decide) ?_
  replace e := ck_bd_e e
  obtain ⟨r1, h2, e3, e⟩ := e
  refine go_callS (As := [.long ((v1 : Int32).toInt64), .long 0, .long 1]) (rest := []) rfl rfl rfl ⟨Nat.le_of_ble_eq_true rfl, Nat.le_of_ble_eq_true rfl, Nat.le_of_ble_eq_true rfl, Nat.le_of_ble_eq_true rfl⟩ (s_RM_in e3) ?_
  show Go k_RM_start 7 [some (.ref a0), some (.int v1)] [.int r1] h2 _
  refine go_if_ne (t := 13) rfl rfl (fun hx_4 => ?_) (fun hx_4 => ?_)
  · rw [if_pos hx_4] at e
    refine go_bipush (v := (-2)) rfl (by decide) ?_
    cases e
    exact go_ret rfl rfl
  · rw [if_neg hx_4] at e
    refine go_aload_n rfl rfl ?_
    refine go_iload_n rfl rfl ?_
    replace e := ck_as_e e
    obtain ⟨hk_5, e⟩ := e
    refine go_put (h1 := wI h2 a0 26 v1) rfl rfl hk_5 ⟨by decide, by decide, Or.inl rfl⟩ rfl ?_
    have hk_7 : gk (wI h2 a0 26 v1) a0 = 12 := ck_kI.trans hk_5
    generalize wI h2 a0 26 v1 = h6 at e hk_7 ⊢
    replace e := ck_then_e e
    refine go_aload_n rfl rfl ?_
    refine go_iconst (v := 0) rfl (by decide) ?_
    refine go_put (h1 := wI h6 a0 23 0) rfl rfl hk_7 ⟨by decide, by decide, Or.inl rfl⟩ rfl ?_
    have hk_9 : gk (wI h6 a0 23 0) a0 = 12 := ck_kI.trans hk_7
    generalize wI h6 a0 23 0 = h8 at e hk_9 ⊢
    replace e := ck_then_e e
    refine go_aload_n rfl rfl ?_
    refine go_iconst (v := (-1)) rfl (by decide) ?_
    refine go_put (h1 := wI h8 a0 24 (-1)) rfl rfl hk_9 ⟨by decide, by decide, Or.inl rfl⟩ rfl ?_
    have hk_11 : gk (wI h8 a0 24 (-1)) a0 = 12 := ck_kI.trans hk_9
    generalize wI h8 a0 24 (-1) = h10 at e hk_11 ⊢
    replace e := ck_then_e e
    refine go_aload_n rfl rfl ?_
    refine go_iconst (v := 0) rfl (by decide) ?_
    refine go_put (h1 := wI h10 a0 25 0) rfl rfl hk_11 ⟨by decide, by decide, Or.inl rfl⟩ rfl ?_
    have hk_13 : gk (wI h10 a0 25 0) a0 = 12 := ck_kI.trans hk_11
    generalize wI h10 a0 25 0 = h12 at e hk_13 ⊢
    replace e := ck_then_e e
    refine go_aload_n rfl rfl ?_
    replace e := ck_bd_e e
    obtain ⟨r14, h15, e16, e⟩ := e
    refine go_callV (As := []) (b0 := a0) (rest := []) rfl rfl ⟨hk_13, by decide⟩ rfl ⟨Nat.le_of_ble_eq_true rfl, Nat.le_of_ble_eq_true rfl, Nat.le_of_ble_eq_true rfl, Nat.le_of_ble_eq_true rfl⟩ (s_RM_checks e16) ?_
    show Go k_RM_start 37 [some (.ref a0), some (.int v1)] [.int r14] h15 _
    refine go_if_ne (t := 48) rfl rfl (fun hx_17 => ?_) (fun hx_17 => ?_)
    · rw [if_pos hx_17] at e
      refine go_aload_n rfl rfl ?_
      refine go_iconst (v := 4) rfl (by decide) ?_
      replace e := ck_as_e e
      obtain ⟨hk_18, e⟩ := e
      refine go_put (h1 := wI h15 a0 22 4) rfl rfl hk_18 ⟨by decide, by decide, Or.inl rfl⟩ rfl ?_
      have hk_20 : gk (wI h15 a0 22 4) a0 = 12 := ck_kI.trans hk_18
      generalize wI h15 a0 22 4 = h19 at e hk_20 ⊢
      replace e := ck_then_e e
      refine go_goto (t := 72) rfl rfl ?_
      refine go_aload_n rfl rfl ?_
      refine go_get (v := .int (gI h19 a0 22)) rfl rfl hk_20 (by decide) rfl ?_
      cases e
      exact go_ret rfl rfl
    · rw [if_neg hx_17] at e
      refine go_iload_n rfl rfl ?_
      refine go_if_ne (t := 68) rfl rfl (fun hx_21 => ?_) (fun hx_21 => ?_)
      · rw [if_pos hx_21] at e
        refine go_aload_n rfl rfl ?_
        replace e := ck_as_e e
        obtain ⟨hk_22, e⟩ := e
        replace e := ck_bd_e e
        obtain ⟨r23, h24, e25, e⟩ := e
        refine go_callV (As := []) (b0 := a0) (rest := []) rfl rfl ⟨hk_22, by decide⟩ rfl ⟨Nat.le_of_ble_eq_true rfl, Nat.le_of_ble_eq_true rfl, Nat.le_of_ble_eq_true rfl, Nat.le_of_ble_eq_true rfl⟩ (s_RM_writes e25) ?_
        show Go k_RM_start 56 [some (.ref a0), some (.int v1)] [.int r23] h24 _
        refine go_if_eq (t := 68) rfl rfl (fun hx_26 => ?_) (fun hx_26 => ?_)
        · rw [if_pos hx_26] at e
          refine go_aload_n rfl rfl ?_
          replace e := ck_as_e e
          obtain ⟨hk_27, e⟩ := e
          replace e := ck_bd_e e
          obtain ⟨r28, h29, e30, e⟩ := e
          refine go_callV (As := []) (b0 := a0) (rest := []) rfl rfl ⟨hk_27, by decide⟩ rfl ⟨Nat.le_of_ble_eq_true rfl, Nat.le_of_ble_eq_true rfl, Nat.le_of_ble_eq_true rfl, Nat.le_of_ble_eq_true rfl⟩ (s_RM_run e30) ?_
          show Go k_RM_start 72 [some (.ref a0), some (.int v1)] [] h29 _
          refine go_aload_n rfl rfl ?_
          replace e := ck_as_e e
          obtain ⟨hk_31, e⟩ := e
          refine go_get (v := .int (gI h29 a0 22)) rfl rfl hk_31 (by decide) rfl ?_
          cases e
          exact go_ret rfl rfl
        · rw [if_neg hx_26] at e
          refine go_aload_n rfl rfl ?_
          refine go_bipush (v := 8) rfl (by decide) ?_
          replace e := ck_as_e e
          obtain ⟨hk_32, e⟩ := e
          refine go_put (h1 := wI h24 a0 22 8) rfl rfl hk_32 ⟨by decide, by decide, Or.inl rfl⟩ rfl ?_
          have hk_34 : gk (wI h24 a0 22 8) a0 = 12 := ck_kI.trans hk_32
          generalize wI h24 a0 22 8 = h33 at e hk_34 ⊢
          replace e := ck_then_e e
          refine go_goto (t := 72) rfl rfl ?_
          refine go_aload_n rfl rfl ?_
          refine go_get (v := .int (gI h33 a0 22)) rfl rfl hk_34 (by decide) rfl ?_
          cases e
          exact go_ret rfl rfl
      · rw [if_neg hx_21] at e
        refine go_aload_n rfl rfl ?_
        replace e := ck_as_e e
        obtain ⟨hk_35, e⟩ := e
        replace e := ck_bd_e e
        obtain ⟨r36, h37, e38, e⟩ := e
        refine go_callV (As := []) (b0 := a0) (rest := []) rfl rfl ⟨hk_35, by decide⟩ rfl ⟨Nat.le_of_ble_eq_true rfl, Nat.le_of_ble_eq_true rfl, Nat.le_of_ble_eq_true rfl, Nat.le_of_ble_eq_true rfl⟩ (s_RM_run e38) ?_
        show Go k_RM_start 72 [some (.ref a0), some (.int v1)] [] h37 _
        refine go_aload_n rfl rfl ?_
        replace e := ck_as_e e
        obtain ⟨hk_39, e⟩ := e
        refine go_get (v := .int (gI h37 a0 22)) rfl rfl hk_39 (by decide) rfl ?_
        cases e
        exact go_ret rfl rfl
def f_RM_status (F : Nat) (a0 : Nat) (v1 : Int32) (h : ck_H) : Option (Int32 × ck_H) :=
  if v1 = 0 then
    ck_as (gk h a0 = 12) <|
    some (gI h a0 22, h)
  else
  if v1 = 1 then
    ck_as (gk h a0 = 12) <|
    some (gI h a0 23, h)
  else
  if v1 = 2 then
    ck_as (gk h a0 = 12) <|
    some (gI h a0 24, h)
  else
  if v1 = 3 then
    ck_as (gk h a0 = 12) <|
    some (gI h a0 25, h)
  else
    some ((-1), h)
set_option maxRecDepth 100000 in
set_option maxHeartbeats 4000000 in
theorem s_RM_status {F : Nat} {a0 : Nat} {v1 : Int32} {h h' : ck_H} {r : Int32} (e : f_RM_status F a0 v1 h = some (r, h')) : Go k_RM_status 0 (ck_in [.ref a0, .int v1] 2) [] h (some (.int r), h') := by
  unfold f_RM_status at e
  show Go k_RM_status 0 [some (.ref a0), some (.int v1)] [] h _
  refine go_iload_n rfl rfl ?_
  by_cases hx_1 : v1 = 0
  · rw [if_pos hx_1] at e
    refine go_tswI (off := 31) (t := 32) rfl (by rw [hx_1]; decide) (by rw [hx_1]; rfl) rfl ?_
    refine go_aload_n rfl rfl ?_
    replace e := ck_as_e e
    obtain ⟨hk_2, e⟩ := e
    refine go_get (v := .int (gI h a0 22)) rfl rfl hk_2 (by decide) rfl ?_
    cases e
    exact go_ret rfl rfl
  rw [if_neg hx_1] at e
  by_cases hx_3 : v1 = 1
  · rw [if_pos hx_3] at e
    refine go_tswI (off := 36) (t := 37) rfl (by rw [hx_3]; decide) (by rw [hx_3]; rfl) rfl ?_
    refine go_aload_n rfl rfl ?_
    replace e := ck_as_e e
    obtain ⟨hk_4, e⟩ := e
    refine go_get (v := .int (gI h a0 23)) rfl rfl hk_4 (by decide) rfl ?_
    cases e
    exact go_ret rfl rfl
  rw [if_neg hx_3] at e
  by_cases hx_5 : v1 = 2
  · rw [if_pos hx_5] at e
    refine go_tswI (off := 41) (t := 42) rfl (by rw [hx_5]; decide) (by rw [hx_5]; rfl) rfl ?_
    refine go_aload_n rfl rfl ?_
    replace e := ck_as_e e
    obtain ⟨hk_6, e⟩ := e
    refine go_get (v := .int (gI h a0 24)) rfl rfl hk_6 (by decide) rfl ?_
    cases e
    exact go_ret rfl rfl
  rw [if_neg hx_5] at e
  by_cases hx_7 : v1 = 3
  · rw [if_pos hx_7] at e
    refine go_tswI (off := 46) (t := 47) rfl (by rw [hx_7]; decide) (by rw [hx_7]; rfl) rfl ?_
    refine go_aload_n rfl rfl ?_
    replace e := ck_as_e e
    obtain ⟨hk_8, e⟩ := e
    refine go_get (v := .int (gI h a0 25)) rfl rfl hk_8 (by decide) rfl ?_
    cases e
    exact go_ret rfl rfl
  rw [if_neg hx_7] at e
  have hz_ : (v1 : Int32).toInt < 0 ∨ 3 < (v1 : Int32).toInt := by
    have z0 := lv_neT hx_1 (k := 0) (a := 0) rfl
    have z1 := lv_neT hx_3 (k := 1) (a := 1) rfl
    have z2 := lv_neT hx_5 (k := 2) (a := 2) rfl
    have z3 := lv_neT hx_7 (k := 3) (a := 3) rfl
    omega
  refine go_tswO (m := k_RM_status) (pc := 1) (t := 52) (d := 51) (offs := #[31, 36, 41, 46]) rfl hz_ rfl ?_
  refine go_iconst (v := (-1)) rfl (by decide) ?_
  cases e
  exact go_ret rfl rfl
def f_RM_time (F : Nat) (a0 : Nat) (h : ck_H) : Option (Int64 × ck_H) :=
  ck_as (gk h a0 = 12) <|
  some (gJ h a0 21, h)
set_option maxRecDepth 100000 in
set_option maxHeartbeats 4000000 in
theorem s_RM_time {F : Nat} {a0 : Nat} {h h' : ck_H} {r : Int64} (e : f_RM_time F a0 h = some (r, h')) : Go k_RM_time 0 (ck_in [.ref a0] 1) [] h (some (.long r), h') := by
  unfold f_RM_time at e
  show Go k_RM_time 0 [some (.ref a0)] [] h _
  refine go_aload_n rfl rfl ?_
  replace e := ck_as_e e
  obtain ⟨hk_1, e⟩ := e
  refine go_get (v := .long (gJ h a0 21)) rfl rfl hk_1 (by decide) rfl ?_
  cases e
  exact go_ret rfl rfl
def f_RM_arm (F : Nat) (a0 : Nat) (v1 : Int32) (v2 : Int32) (h : ck_H) : Option (Int32 × ck_H) :=
  ck_bd (f_RM_in F ((v1 : Int32).toInt64) 0 1 h) fun r1 h2 =>
  if r1 = (0 : Int32) then
    some ((-2), h2)
  else
    if v2 = (0 : Int32) then
      ck_as (gk h2 a0 = 12) <|
      ck_some (gR h2 a0 19) fun b7 =>
      ck_as ((gk h2 b7 = 14 ∨ gk h2 b7 = 21) ∧ ¬ v1 < 0 ∧ (v1 : Int32).toNatClampNeg < gz h2 b7) <|
      some (gI h2 b7 (v1 : Int32).toNatClampNeg, h2)
    else
      if v2 = (1 : Int32) then
        ck_as (gk h2 a0 = 12) <|
        ck_some (gR h2 a0 20) fun b12 =>
        ck_as ((gk h2 b12 = 14 ∨ gk h2 b12 = 21) ∧ ¬ v1 < 0 ∧ (v1 : Int32).toNatClampNeg < gz h2 b12) <|
        some (gI h2 b12 (v1 : Int32).toNatClampNeg, h2)
      else
        some ((-2), h2)
set_option maxRecDepth 100000 in
set_option maxHeartbeats 4000000 in
theorem s_RM_arm {F : Nat} {a0 : Nat} {v1 : Int32} {v2 : Int32} {h h' : ck_H} {r : Int32} (e : f_RM_arm F a0 v1 v2 h = some (r, h')) : Go k_RM_arm 0 (ck_in [.ref a0, .int v1, .int v2] 3) [] h (some (.int r), h') := by
  unfold f_RM_arm at e
  show Go k_RM_arm 0 [some (.ref a0), some (.int v1), some (.int v2)] [] h _
  refine go_iload_n rfl rfl ?_
  refine go_i2l rfl ?_
  refine go_lconst (v := 0) rfl (by decide) ?_
  refine go_lconst (v := 1) rfl (by decide) ?_
  replace e := ck_bd_e e
  obtain ⟨r1, h2, e3, e⟩ := e
  refine go_callS (As := [.long ((v1 : Int32).toInt64), .long 0, .long 1]) (rest := []) rfl rfl rfl ⟨Nat.le_of_ble_eq_true rfl, Nat.le_of_ble_eq_true rfl, Nat.le_of_ble_eq_true rfl, Nat.le_of_ble_eq_true rfl⟩ (s_RM_in e3) ?_
  show Go k_RM_arm 7 [some (.ref a0), some (.int v1), some (.int v2)] [.int r1] h2 _
  refine go_if_ne (t := 15) rfl rfl (fun hx_4 => ?_) (fun hx_4 => ?_)
  · rw [if_pos hx_4] at e
    refine go_bipush (v := (-2)) rfl (by decide) ?_
    refine go_goto (t := 44) rfl rfl ?_
    cases e
    exact go_ret rfl rfl
  · rw [if_neg hx_4] at e
    refine go_iload_n rfl rfl ?_
    refine go_if_ne (t := 28) rfl rfl (fun hx_5 => ?_) (fun hx_5 => ?_)
    · rw [if_pos hx_5] at e
      refine go_aload_n rfl rfl ?_
      replace e := ck_as_e e
      obtain ⟨hk_6, e⟩ := e
      replace e := ck_some_e e
      obtain ⟨b7, hq_8, e⟩ := e
      refine go_get (v := .ref b7) rfl rfl hk_6 (by decide) (by show va_rf (gR h2 a0 19) = _; rw [hq_8]; rfl) ?_
      refine go_iload_n rfl rfl ?_
      replace e := ck_as_e e
      obtain ⟨hc_9, e⟩ := e
      refine go_iald rfl hc_9 ?_
      refine go_goto (t := 44) rfl rfl ?_
      cases e
      exact go_ret rfl rfl
    · rw [if_neg hx_5] at e
      refine go_iload_n rfl rfl ?_
      refine go_iconst (v := 1) rfl (by decide) ?_
      refine go_icmp_ne (t := 42) rfl rfl (fun hx_10 => ?_) (fun hx_10 => ?_)
      · rw [if_pos hx_10] at e
        refine go_aload_n rfl rfl ?_
        replace e := ck_as_e e
        obtain ⟨hk_11, e⟩ := e
        replace e := ck_some_e e
        obtain ⟨b12, hq_13, e⟩ := e
        refine go_get (v := .ref b12) rfl rfl hk_11 (by decide) (by show va_rf (gR h2 a0 20) = _; rw [hq_13]; rfl) ?_
        refine go_iload_n rfl rfl ?_
        replace e := ck_as_e e
        obtain ⟨hc_14, e⟩ := e
        refine go_iald rfl hc_14 ?_
        refine go_goto (t := 44) rfl rfl ?_
        cases e
        exact go_ret rfl rfl
      · rw [if_neg hx_10] at e
        refine go_bipush (v := (-2)) rfl (by decide) ?_
        cases e
        exact go_ret rfl rfl
def f_RM_isRecord (F : Nat) (a0 : Nat) (v1 : Int32) (v2 : Int32) (v3 : Int32) (h : ck_H) : Option (Int32 × ck_H) :=
  ck_bd (f_RM_in F ((v1 : Int32).toInt64) 0 1 h) fun r1 h2 =>
  if r1 = (0 : Int32) then
    some (0, h2)
  else
    ck_bd (f_RM_in F ((v2 : Int32).toInt64) 0 79 h2) fun r5 h6 =>
    if r5 = (0 : Int32) then
      some (0, h6)
    else
      ck_as (gk h6 a0 = 12) <|
      ck_some (gR h6 a0 1) fun b10 =>
      ck_as ((gk h6 b10 = 14 ∨ gk h6 b10 = 21) ∧ ¬ ((80 * v1) + v2) < 0 ∧ ((80 * v1) + v2 : Int32).toNatClampNeg < gz h6 b10) <|
      ck_bd (f_RM_in F ((v3 : Int32).toInt64) 0 (((gI h6 b10 ((80 * v1) + v2 : Int32).toNatClampNeg : Int32).toInt64) - 1) h6) fun r13 h14 =>
      if r13 = (0 : Int32) then
        some (0, h14)
      else
        some (1, h14)
set_option maxRecDepth 100000 in
set_option maxHeartbeats 4000000 in
theorem s_RM_isRecord {F : Nat} {a0 : Nat} {v1 : Int32} {v2 : Int32} {v3 : Int32} {h h' : ck_H} {r : Int32} (e : f_RM_isRecord F a0 v1 v2 v3 h = some (r, h')) : Go k_RM_isRecord 0 (ck_in [.ref a0, .int v1, .int v2, .int v3] 4) [] h (some (.int r), h') := by
  unfold f_RM_isRecord at e
  show Go k_RM_isRecord 0 [some (.ref a0), some (.int v1), some (.int v2), some (.int v3)] [] h _
  refine go_iload_n rfl rfl ?_
  refine go_i2l rfl ?_
  refine go_lconst (v := 0) rfl (by decide) ?_
  refine go_lconst (v := 1) rfl (by decide) ?_
  replace e := ck_bd_e e
  obtain ⟨r1, h2, e3, e⟩ := e
  refine go_callS (As := [.long ((v1 : Int32).toInt64), .long 0, .long 1]) (rest := []) rfl rfl rfl ⟨Nat.le_of_ble_eq_true rfl, Nat.le_of_ble_eq_true rfl, Nat.le_of_ble_eq_true rfl, Nat.le_of_ble_eq_true rfl⟩ (s_RM_in e3) ?_
  show Go k_RM_isRecord 7 [some (.ref a0), some (.int v1), some (.int v2), some (.int v3)] [.int r1] h2 _
  refine go_if_eq (t := 49) rfl rfl (fun hx_4 => ?_) (fun hx_4 => ?_)
  · rw [if_pos hx_4] at e
    refine go_iconst (v := 0) rfl (by decide) ?_
    cases e
    exact go_ret rfl (ck_rvb rfl (Or.inl rfl))
  · rw [if_neg hx_4] at e
    refine go_iload_n rfl rfl ?_
    refine go_i2l rfl ?_
    refine go_lconst (v := 0) rfl (by decide) ?_
    refine go_ldc2 (v := 79) rfl rfl ?_
    replace e := ck_bd_e e
    obtain ⟨r5, h6, e7, e⟩ := e
    refine go_callS (As := [.long ((v2 : Int32).toInt64), .long 0, .long 79]) (rest := []) rfl rfl rfl ⟨Nat.le_of_ble_eq_true rfl, Nat.le_of_ble_eq_true rfl, Nat.le_of_ble_eq_true rfl, Nat.le_of_ble_eq_true rfl⟩ (s_RM_in e7) ?_
    show Go k_RM_isRecord 19 [some (.ref a0), some (.int v1), some (.int v2), some (.int v3)] [.int r5] h6 _
    refine go_if_eq (t := 49) rfl rfl (fun hx_8 => ?_) (fun hx_8 => ?_)
    · rw [if_pos hx_8] at e
      refine go_iconst (v := 0) rfl (by decide) ?_
      cases e
      exact go_ret rfl (ck_rvb rfl (Or.inl rfl))
    · rw [if_neg hx_8] at e
      refine go_iload_n rfl rfl ?_
      refine go_i2l rfl ?_
      refine go_lconst (v := 0) rfl (by decide) ?_
      refine go_aload_n rfl rfl ?_
      replace e := ck_as_e e
      obtain ⟨hk_9, e⟩ := e
      replace e := ck_some_e e
      obtain ⟨b10, hq_11, e⟩ := e
      refine go_get (v := .ref b10) rfl rfl hk_9 (by decide) (by show va_rf (gR h6 a0 1) = _; rw [hq_11]; rfl) ?_
      refine go_bipush (v := 80) rfl (by decide) ?_
      refine go_iload_n rfl rfl ?_
      refine go_imul rfl ?_
      refine go_iload_n rfl rfl ?_
      refine go_iadd rfl ?_
      replace e := ck_as_e e
      obtain ⟨hc_12, e⟩ := e
      refine go_iald rfl hc_12 ?_
      refine go_i2l rfl ?_
      refine go_lconst (v := 1) rfl (by decide) ?_
      refine go_lsub rfl ?_
      replace e := ck_bd_e e
      obtain ⟨r13, h14, e15, e⟩ := e
      refine go_callS (As := [.long ((v3 : Int32).toInt64), .long 0, .long (((gI h6 b10 ((80 * v1) + v2 : Int32).toNatClampNeg : Int32).toInt64) - 1)]) (rest := []) rfl rfl rfl ⟨Nat.le_of_ble_eq_true rfl, Nat.le_of_ble_eq_true rfl, Nat.le_of_ble_eq_true rfl, Nat.le_of_ble_eq_true rfl⟩ (s_RM_in e15) ?_
      show Go k_RM_isRecord 42 [some (.ref a0), some (.int v1), some (.int v2), some (.int v3)] [.int r13] h14 _
      refine go_if_eq (t := 49) rfl rfl (fun hx_16 => ?_) (fun hx_16 => ?_)
      · rw [if_pos hx_16] at e
        refine go_iconst (v := 0) rfl (by decide) ?_
        cases e
        exact go_ret rfl (ck_rvb rfl (Or.inl rfl))
      · rw [if_neg hx_16] at e
        refine go_iconst (v := 1) rfl (by decide) ?_
        refine go_goto (t := 50) rfl rfl ?_
        cases e
        exact go_ret rfl (ck_rvb rfl (Or.inr rfl))
