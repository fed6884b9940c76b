def f_RM_record (F : Nat) (a0 : Nat) (v1 : Int32) (v2 : Int32) (v3 : Int32) (v4 : Int32) (h : ck_H) : Option (Int32 × ck_H) :=
  ck_as (gk h a0 = 12) <|
  ck_bd (f_RM_isRecord F a0 v1 v2 v3 h) fun r2 h3 =>
  if r2 = (0 : Int32) then
    some ((-1), h3)
  else
    ck_then ((80 * v1) + v2) fun x6 =>
    ck_bd (f_RM_at F x6 v3 h3) fun r7 h8 =>
    if v4 = 0 then
      ck_as (gk h8 a0 = 12) <|
      ck_some (gR h8 a0 3) fun b12 =>
      ck_as ((gk h8 b12 = 14 ∨ gk h8 b12 = 21) ∧ ¬ r7 < 0 ∧ (r7 : Int32).toNatClampNeg < gz h8 b12) <|
      some (gI h8 b12 (r7 : Int32).toNatClampNeg, h8)
    else
    if v4 = 1 then
      ck_as (gk h8 a0 = 12) <|
      ck_some (gR h8 a0 4) fun b17 =>
      ck_as ((gk h8 b17 = 14 ∨ gk h8 b17 = 21) ∧ ¬ r7 < 0 ∧ (r7 : Int32).toNatClampNeg < gz h8 b17) <|
      some (gI h8 b17 (r7 : Int32).toNatClampNeg, h8)
    else
    if v4 = 2 then
      ck_as (gk h8 a0 = 12) <|
      ck_some (gR h8 a0 5) fun b22 =>
      ck_as ((gk h8 b22 = 14 ∨ gk h8 b22 = 21) ∧ ¬ r7 < 0 ∧ (r7 : Int32).toNatClampNeg < gz h8 b22) <|
      some (gI h8 b22 (r7 : Int32).toNatClampNeg, h8)
    else
    if v4 = 3 then
      ck_as (gk h8 a0 = 12) <|
      ck_some (gR h8 a0 6) fun b27 =>
      ck_as ((gk h8 b27 = 14 ∨ gk h8 b27 = 21) ∧ ¬ r7 < 0 ∧ (r7 : Int32).toNatClampNeg < gz h8 b27) <|
      some (gI h8 b27 (r7 : Int32).toNatClampNeg, h8)
    else
    if v4 = 4 then
      ck_as (gk h8 a0 = 12) <|
      ck_some (gR h8 a0 7) fun b32 =>
      ck_as ((gk h8 b32 = 14 ∨ gk h8 b32 = 21) ∧ ¬ r7 < 0 ∧ (r7 : Int32).toNatClampNeg < gz h8 b32) <|
      some (gI h8 b32 (r7 : Int32).toNatClampNeg, h8)
    else
    if v4 = 5 then
      ck_as (gk h8 a0 = 12) <|
      ck_some (gR h8 a0 2) fun b37 =>
      ck_as ((gk h8 b37 = 14 ∨ gk h8 b37 = 21) ∧ ¬ r7 < 0 ∧ (r7 : Int32).toNatClampNeg < gz h8 b37) <|
      some (gI h8 b37 (r7 : Int32).toNatClampNeg, h8)
    else
    if v4 = 6 then
      ck_as (gk h8 a0 = 12) <|
      ck_some (gR h8 a0 8) fun b42 =>
      ck_as ((gk h8 b42 = 13 ∨ gk h8 b42 = 15) ∧ ¬ r7 < 0 ∧ (r7 : Int32).toNatClampNeg < gz h8 b42) <|
      if (gI h8 b42 (r7 : Int32).toNatClampNeg) = (0 : Int32) then
        some (0, h8)
      else
        some (1, h8)
    else
      ck_as (gk h8 a0 = 12) <|
      ck_some (gR h8 a0 6) fun b47 =>
      ck_as ((gk h8 b47 = 14 ∨ gk h8 b47 = 21) ∧ ¬ r7 < 0 ∧ (r7 : Int32).toNatClampNeg < gz h8 b47) <|
      ck_bd (f_RM_in F ((v4 : Int32).toInt64) 100 (99 + ((gI h8 b47 (r7 : Int32).toNatClampNeg : Int32).toInt64)) h8) fun r50 h51 =>
      if r50 = (0 : Int32) then
        ck_as (gk h51 a0 = 12) <|
        ck_some (gR h51 a0 7) fun b55 =>
        ck_as ((gk h51 b55 = 14 ∨ gk h51 b55 = 21) ∧ ¬ r7 < 0 ∧ (r7 : Int32).toNatClampNeg < gz h51 b55) <|
        ck_bd (f_RM_in F ((v4 : Int32).toInt64) 200 (199 + ((gI h51 b55 (r7 : Int32).toNatClampNeg : Int32).toInt64)) h51) fun r58 h59 =>
        if r58 = (0 : Int32) then
          some ((-1), h59)
        else
          ck_as (gk h59 a0 = 12) <|
          ck_some (gR h59 a0 0) fun b63 =>
          ck_bd (f_RM_dataAt F a0 x6 v3 h59) fun r65 h66 =>
          ck_as ((gk h66 b63 = 13 ∨ gk h66 b63 = 15) ∧ ¬ ((r65 + v4) - 200) < 0 ∧ ((r65 + v4) - 200 : Int32).toNatClampNeg < gz h66 b63) <|
          some ((gI h66 b63 ((r65 + v4) - 200 : Int32).toNatClampNeg) &&& 255, h66)
      else
        ck_as (gk h51 a0 = 12) <|
        ck_some (gR h51 a0 0) fun b70 =>
        ck_bd (f_RM_keyAt F a0 x6 v3 h51) fun r72 h73 =>
        ck_as ((gk h73 b70 = 13 ∨ gk h73 b70 = 15) ∧ ¬ ((r72 + v4) - 100) < 0 ∧ ((r72 + v4) - 100 : Int32).toNatClampNeg < gz h73 b70) <|
        some ((gI h73 b70 ((r72 + v4) - 100 : Int32).toNatClampNeg) &&& 255, h73)
set_option maxRecDepth 100000 in
set_option maxHeartbeats 4000000 in
theorem s_RM_record {F : Nat} {a0 : Nat} {v1 : Int32} {v2 : Int32} {v3 : Int32} {v4 : Int32} {h h' : ck_H} {r : Int32} (e : f_RM_record F a0 v1 v2 v3 v4 h = some (r, h')) : Go k_RM_record 0 (ck_in [.ref a0, .int v1, .int v2, .int v3, .int v4] 7) [] h (some (.int r), h') := by
  unfold f_RM_record at e
  show Go k_RM_record 0 [some (.ref a0), some (.int v1), some (.int v2), some (.int v3), some (.int v4), none, none] [] h _
  refine go_aload_n rfl rfl ?_
  refine go_iload_n rfl rfl ?_
  refine go_iload_n rfl rfl ?_
  refine go_iload_n rfl rfl ?_
  replace e := ck_as_e e
  obtain ⟨hk_1, e⟩ := e
  replace e := ck_bd_e e
  obtain ⟨r2, h3, e4, e⟩ := e
  refine go_callV (As := [.int v1, .int v2, .int v3]) (b0 := a0) (rest := []) rfl rfl ⟨hk_1, by decide⟩ rfl ⟨Nat.le_of_ble_eq_true rfl, Nat.le_of_ble_eq_true rfl, Nat.le_of_ble_eq_true rfl, Nat.le_of_ble_eq_true rfl⟩ (s_RM_isRecord e4) ?_
  show Go k_RM_record 7 [some (.ref a0), some (.int v1), some (.int v2), some (.int v3), some (.int v4), none, none] [.int r2] h3 _
  refine go_if_ne (t := 12) rfl rfl (fun hx_5 => ?_) (fun hx_5 => ?_)
  · rw [if_pos hx_5] at e
    refine go_iconst (v := (-1)) rfl (by decide) ?_
    cases e
    exact go_ret rfl rfl
  · rw [if_neg hx_5] at e
    refine go_bipush (v := 80) rfl (by decide) ?_
    refine go_iload_n rfl rfl ?_
    refine go_imul rfl ?_
    refine go_iload_n rfl rfl ?_
    refine go_iadd rfl ?_
    generalize (80 * v1) + v2 = x6 at e ⊢
    replace e := ck_then_e e
    refine go_istore rfl rfl ?_
    show Go k_RM_record 20 [some (.ref a0), some (.int v1), some (.int v2), some (.int v3), some (.int v4), some (.int x6), none] [] h3 _
    refine go_iload rfl rfl ?_
    refine go_iload_n rfl rfl ?_
    replace e := ck_bd_e e
    obtain ⟨r7, h8, e9, e⟩ := e
    refine go_callS (As := [.int x6, .int v3]) (rest := []) rfl rfl rfl ⟨Nat.le_of_ble_eq_true rfl, Nat.le_of_ble_eq_true rfl, Nat.le_of_ble_eq_true rfl, Nat.le_of_ble_eq_true rfl⟩ (s_RM_at e9) ?_
    show Go k_RM_record 26 [some (.ref a0), some (.int v1), some (.int v2), some (.int v3), some (.int v4), some (.int x6), none] [.int r7] h8 _
    refine go_istore rfl rfl ?_
    show Go k_RM_record 28 [some (.ref a0), some (.int v1), some (.int v2), some (.int v3), some (.int v4), some (.int x6), some (.int r7)] [] h8 _
    refine go_iload rfl rfl ?_
    by_cases hx_10 : v4 = 0
    · rw [if_pos hx_10] at e
      refine go_tswI (off := 42) (t := 72) rfl (by rw [hx_10]; decide) (by rw [hx_10]; rfl) rfl ?_
      refine go_aload_n rfl rfl ?_
      replace e := ck_as_e e
      obtain ⟨hk_11, e⟩ := e
      replace e := ck_some_e e
      obtain ⟨b12, hq_13, e⟩ := e
      refine go_get (v := .ref b12) rfl rfl hk_11 (by decide) (by show va_rf (gR h8 a0 3) = _; rw [hq_13]; rfl) ?_
      refine go_iload rfl rfl ?_
      replace e := ck_as_e e
      obtain ⟨hc_14, e⟩ := e
      refine go_iald rfl hc_14 ?_
      cases e
      exact go_ret rfl rfl
    rw [if_neg hx_10] at e
    by_cases hx_15 : v4 = 1
    · rw [if_pos hx_15] at e
      refine go_tswI (off := 50) (t := 80) rfl (by rw [hx_15]; decide) (by rw [hx_15]; rfl) rfl ?_
      refine go_aload_n rfl rfl ?_
      replace e := ck_as_e e
      obtain ⟨hk_16, e⟩ := e
      replace e := ck_some_e e
      obtain ⟨b17, hq_18, e⟩ := e
      refine go_get (v := .ref b17) rfl rfl hk_16 (by decide) (by show va_rf (gR h8 a0 4) = _; rw [hq_18]; rfl) ?_
      refine go_iload rfl rfl ?_
      replace e := ck_as_e e
      obtain ⟨hc_19, e⟩ := e
      refine go_iald rfl hc_19 ?_
      cases e
      exact go_ret rfl rfl
    rw [if_neg hx_15] at e
    by_cases hx_20 : v4 = 2
    · rw [if_pos hx_20] at e
      refine go_tswI (off := 58) (t := 88) rfl (by rw [hx_20]; decide) (by rw [hx_20]; rfl) rfl ?_
      refine go_aload_n rfl rfl ?_
      replace e := ck_as_e e
      obtain ⟨hk_21, e⟩ := e
      replace e := ck_some_e e
      obtain ⟨b22, hq_23, e⟩ := e
      refine go_get (v := .ref b22) rfl rfl hk_21 (by decide) (by show va_rf (gR h8 a0 5) = _; rw [hq_23]; rfl) ?_
      refine go_iload rfl rfl ?_
      replace e := ck_as_e e
      obtain ⟨hc_24, e⟩ := e
      refine go_iald rfl hc_24 ?_
      cases e
      exact go_ret rfl rfl
    rw [if_neg hx_20] at e
    by_cases hx_25 : v4 = 3
    · rw [if_pos hx_25] at e
      refine go_tswI (off := 66) (t := 96) rfl (by rw [hx_25]; decide) (by rw [hx_25]; rfl) rfl ?_
      refine go_aload_n rfl rfl ?_
      replace e := ck_as_e e
      obtain ⟨hk_26, e⟩ := e
      replace e := ck_some_e e
      obtain ⟨b27, hq_28, e⟩ := e
      refine go_get (v := .ref b27) rfl rfl hk_26 (by decide) (by show va_rf (gR h8 a0 6) = _; rw [hq_28]; rfl) ?_
      refine go_iload rfl rfl ?_
      replace e := ck_as_e e
      obtain ⟨hc_29, e⟩ := e
      refine go_iald rfl hc_29 ?_
      cases e
      exact go_ret rfl rfl
    rw [if_neg hx_25] at e
    by_cases hx_30 : v4 = 4
    · rw [if_pos hx_30] at e
      refine go_tswI (off := 74) (t := 104) rfl (by rw [hx_30]; decide) (by rw [hx_30]; rfl) rfl ?_
      refine go_aload_n rfl rfl ?_
      replace e := ck_as_e e
      obtain ⟨hk_31, e⟩ := e
      replace e := ck_some_e e
      obtain ⟨b32, hq_33, e⟩ := e
      refine go_get (v := .ref b32) rfl rfl hk_31 (by decide) (by show va_rf (gR h8 a0 7) = _; rw [hq_33]; rfl) ?_
      refine go_iload rfl rfl ?_
      replace e := ck_as_e e
      obtain ⟨hc_34, e⟩ := e
      refine go_iald rfl hc_34 ?_
      cases e
      exact go_ret rfl rfl
    rw [if_neg hx_30] at e
    by_cases hx_35 : v4 = 5
    · rw [if_pos hx_35] at e
      refine go_tswI (off := 82) (t := 112) rfl (by rw [hx_35]; decide) (by rw [hx_35]; rfl) rfl ?_
      refine go_aload_n rfl rfl ?_
      replace e := ck_as_e e
      obtain ⟨hk_36, e⟩ := e
      replace e := ck_some_e e
      obtain ⟨b37, hq_38, e⟩ := e
      refine go_get (v := .ref b37) rfl rfl hk_36 (by decide) (by show va_rf (gR h8 a0 2) = _; rw [hq_38]; rfl) ?_
      refine go_iload rfl rfl ?_
      replace e := ck_as_e e
      obtain ⟨hc_39, e⟩ := e
      refine go_iald rfl hc_39 ?_
      cases e
      exact go_ret rfl rfl
    rw [if_neg hx_35] at e
    by_cases hx_40 : v4 = 6
    · rw [if_pos hx_40] at e
      refine go_tswI (off := 90) (t := 120) rfl (by rw [hx_40]; decide) (by rw [hx_40]; rfl) rfl ?_
      refine go_aload_n rfl rfl ?_
      replace e := ck_as_e e
      obtain ⟨hk_41, e⟩ := e
      replace e := ck_some_e e
      obtain ⟨b42, hq_43, e⟩ := e
      refine go_get (v := .ref b42) rfl rfl hk_41 (by decide) (by show va_rf (gR h8 a0 8) = _; rw [hq_43]; rfl) ?_
      refine go_iload rfl rfl ?_
      replace e := ck_as_e e
      obtain ⟨hc_44, e⟩ := e
      refine go_bald rfl hc_44 ?_
      refine go_if_eq (t := 134) rfl rfl (fun hx_45 => ?_) (fun hx_45 => ?_)
      · rw [if_pos hx_45] at e
        refine go_iconst (v := 0) rfl (by decide) ?_
        cases e
        exact go_ret rfl rfl
      · rw [if_neg hx_45] at e
        refine go_iconst (v := 1) rfl (by decide) ?_
        refine go_goto (t := 135) rfl rfl ?_
        cases e
        exact go_ret rfl rfl
    rw [if_neg hx_40] at e
    have hz_ : (v4 : Int32).toInt < 0 ∨ 6 < (v4 : Int32).toInt := by
      have z0 := lv_neT hx_10 (k := 0) (a := 0) rfl
      have z1 := lv_neT hx_15 (k := 1) (a := 1) rfl
      have z2 := lv_neT hx_20 (k := 2) (a := 2) rfl
      have z3 := lv_neT hx_25 (k := 3) (a := 3) rfl
      have z4 := lv_neT hx_30 (k := 4) (a := 4) rfl
      have z5 := lv_neT hx_35 (k := 5) (a := 5) rfl
      have z6 := lv_neT hx_40 (k := 6) (a := 6) rfl
      omega
    refine go_tswO (m := k_RM_record) (pc := 30) (t := 136) (d := 106) (offs := #[42, 50, 58, 66, 74, 82, 90]) rfl hz_ rfl ?_
    refine go_iload rfl rfl ?_
    refine go_i2l rfl ?_
    refine go_ldc2 (v := 100) rfl rfl ?_
    refine go_ldc2 (v := 99) rfl rfl ?_
    refine go_aload_n rfl rfl ?_
    replace e := ck_as_e e
    obtain ⟨hk_46, e⟩ := e
    replace e := ck_some_e e
    obtain ⟨b47, hq_48, e⟩ := e
    refine go_get (v := .ref b47) rfl rfl hk_46 (by decide) (by show va_rf (gR h8 a0 6) = _; rw [hq_48]; rfl) ?_
    refine go_iload rfl rfl ?_
    replace e := ck_as_e e
    obtain ⟨hc_49, e⟩ := e
    refine go_iald rfl hc_49 ?_
    refine go_i2l rfl ?_
    refine go_ladd rfl ?_
    replace e := ck_bd_e e
    obtain ⟨r50, h51, e52, e⟩ := e
    refine go_callS (As := [.long ((v4 : Int32).toInt64), .long 100, .long (99 + ((gI h8 b47 (r7 : Int32).toNatClampNeg : Int32).toInt64))]) (rest := []) rfl rfl rfl ⟨Nat.le_of_ble_eq_true rfl, Nat.le_of_ble_eq_true rfl, Nat.le_of_ble_eq_true rfl, Nat.le_of_ble_eq_true rfl⟩ (s_RM_in e52) ?_
    show Go k_RM_record 157 [some (.ref a0), some (.int v1), some (.int v2), some (.int v3), some (.int v4), some (.int x6), some (.int r7)] [.int r50] h51 _
    refine go_if_eq (t := 183) rfl rfl (fun hx_53 => ?_) (fun hx_53 => ?_)
    · rw [if_pos hx_53] at e
      refine go_iload rfl rfl ?_
      refine go_i2l rfl ?_
      refine go_ldc2 (v := 200) rfl rfl ?_
      refine go_ldc2 (v := 199) rfl rfl ?_
      refine go_aload_n rfl rfl ?_
      replace e := ck_as_e e
      obtain ⟨hk_54, e⟩ := e
      replace e := ck_some_e e
      obtain ⟨b55, hq_56, e⟩ := e
      refine go_get (v := .ref b55) rfl rfl hk_54 (by decide) (by show va_rf (gR h51 a0 7) = _; rw [hq_56]; rfl) ?_
      refine go_iload rfl rfl ?_
      replace e := ck_as_e e
      obtain ⟨hc_57, e⟩ := e
      refine go_iald rfl hc_57 ?_
      refine go_i2l rfl ?_
      refine go_ladd rfl ?_
      replace e := ck_bd_e e
      obtain ⟨r58, h59, e60, e⟩ := e
      refine go_callS (As := [.long ((v4 : Int32).toInt64), .long 200, .long (199 + ((gI h51 b55 (r7 : Int32).toNatClampNeg : Int32).toInt64))]) (rest := []) rfl rfl rfl ⟨Nat.le_of_ble_eq_true rfl, Nat.le_of_ble_eq_true rfl, Nat.le_of_ble_eq_true rfl, Nat.le_of_ble_eq_true rfl⟩ (s_RM_in e60) ?_
      show Go k_RM_record 204 [some (.ref a0), some (.int v1), some (.int v2), some (.int v3), some (.int v4), some (.int x6), some (.int r7)] [.int r58] h59 _
      refine go_if_eq (t := 233) rfl rfl (fun hx_61 => ?_) (fun hx_61 => ?_)
      · rw [if_pos hx_61] at e
        refine go_iconst (v := (-1)) rfl (by decide) ?_
        cases e
        exact go_ret rfl rfl
      · rw [if_neg hx_61] at e
        refine go_aload_n rfl rfl ?_
        replace e := ck_as_e e
        obtain ⟨hk_62, e⟩ := e
        replace e := ck_some_e e
        obtain ⟨b63, hq_64, e⟩ := e
        refine go_get (v := .ref b63) rfl rfl hk_62 (by decide) (by show va_rf (gR h59 a0 0) = _; rw [hq_64]; rfl) ?_
        refine go_aload_n rfl rfl ?_
        refine go_iload rfl rfl ?_
        refine go_iload_n rfl rfl ?_
        replace e := ck_bd_e e
        obtain ⟨r65, h66, e67, e⟩ := e
        refine go_callV (As := [.int x6, .int v3]) (b0 := a0) (rest := [.ref b63]) rfl rfl ⟨hk_62, by decide⟩ rfl ⟨Nat.le_of_ble_eq_true rfl, Nat.le_of_ble_eq_true rfl, Nat.le_of_ble_eq_true rfl, Nat.le_of_ble_eq_true rfl⟩ (s_RM_dataAt e67) ?_
        show Go k_RM_record 218 [some (.ref a0), some (.int v1), some (.int v2), some (.int v3), some (.int v4), some (.int x6), some (.int r7)] [.int r65, .ref b63] h66 _
        refine go_iload rfl rfl ?_
        refine go_iadd rfl ?_
        refine go_sipush (v := 200) rfl (by decide) ?_
        refine go_isub rfl ?_
        replace e := ck_as_e e
        obtain ⟨hc_68, e⟩ := e
        refine go_bald rfl hc_68 ?_
        refine go_sipush (v := 255) rfl (by decide) ?_
        refine go_iand rfl ?_
        refine go_goto (t := 234) rfl rfl ?_
        cases e
        exact go_ret rfl rfl
    · rw [if_neg hx_53] at e
      refine go_aload_n rfl rfl ?_
      replace e := ck_as_e e
      obtain ⟨hk_69, e⟩ := e
      replace e := ck_some_e e
      obtain ⟨b70, hq_71, e⟩ := e
      refine go_get (v := .ref b70) rfl rfl hk_69 (by decide) (by show va_rf (gR h51 a0 0) = _; rw [hq_71]; rfl) ?_
      refine go_aload_n rfl rfl ?_
      refine go_iload rfl rfl ?_
      refine go_iload_n rfl rfl ?_
      replace e := ck_bd_e e
      obtain ⟨r72, h73, e74, e⟩ := e
      refine go_callV (As := [.int x6, .int v3]) (b0 := a0) (rest := [.ref b70]) rfl rfl ⟨hk_69, by decide⟩ rfl ⟨Nat.le_of_ble_eq_true rfl, Nat.le_of_ble_eq_true rfl, Nat.le_of_ble_eq_true rfl, Nat.le_of_ble_eq_true rfl⟩ (s_RM_keyAt e74) ?_
      show Go k_RM_record 171 [some (.ref a0), some (.int v1), some (.int v2), some (.int v3), some (.int v4), some (.int x6), some (.int r7)] [.int r72, .ref b70] h73 _
      refine go_iload rfl rfl ?_
      refine go_iadd rfl ?_
      refine go_bipush (v := 100) rfl (by decide) ?_
      refine go_isub rfl ?_
      replace e := ck_as_e e
      obtain ⟨hc_75, e⟩ := e
      refine go_bald rfl hc_75 ?_
      refine go_sipush (v := 255) rfl (by decide) ?_
      refine go_iand rfl ?_
      cases e
      exact go_ret rfl rfl
def f_RM_spoil (F : Nat) (a0 : Nat) (v1 : Int32) (v2 : Int32) (v3 : Int32) (h : ck_H) : Option (Int32 × ck_H) :=
  ck_as (gk h a0 = 12) <|
  ck_bd (f_RM_isRecord F a0 v1 v2 v3 h) fun r2 h3 =>
  if r2 = (0 : Int32) then
    some (0, h3)
  else
    ck_as (gk h3 a0 = 12) <|
    ck_some (gR h3 a0 8) fun b7 =>
    ck_bd (f_RM_at F ((80 * v1) + v2) v3 h3) fun r9 h10 =>
    ck_as (gk h10 b7 = 15 ∧ ((1 : Int32) = 0 ∨ (1 : Int32) = 1) ∧ ¬ r9 < 0 ∧ (r9 : Int32).toNatClampNeg < gz h10 b7) <|
    ck_then (wI h10 b7 (r9 : Int32).toNatClampNeg 1) fun h13 =>
    some (1, h13)
set_option maxRecDepth 100000 in
set_option maxHeartbeats 4000000 in
theorem s_RM_spoil {F : Nat} {a0 : Nat} {v1 : Int32} {v2 : Int32} {v3 : Int32} {h h' : ck_H} {r : Int32} (e : f_RM_spoil F a0 v1 v2 v3 h = some (r, h')) : Go k_RM_spoil 0 (ck_in [.ref a0, .int v1, .int v2, .int v3] 4) [] h (some (.int r), h') := by
  unfold f_RM_spoil at e
  show Go k_RM_spoil 0 [some (.ref a0), some (.int v1), some (.int v2), some (.int v3)] [] h _
  refine go_aload_n rfl rfl ?_
  refine go_iload_n rfl rfl ?_
  refine go_iload_n rfl rfl ?_
  refine go_iload_n rfl rfl ?_
  replace e := ck_as_e e
  obtain ⟨hk_1, e⟩ := e
  replace e := ck_bd_e e
  obtain ⟨r2, h3, e4, e⟩ := e
  refine go_callV (As := [.int v1, .int v2, .int v3]) (b0 := a0) (rest := []) rfl rfl ⟨hk_1, by decide⟩ rfl ⟨Nat.le_of_ble_eq_true rfl, Nat.le_of_ble_eq_true rfl, Nat.le_of_ble_eq_true rfl, Nat.le_of_ble_eq_true rfl⟩ (s_RM_isRecord e4) ?_
  show Go k_RM_spoil 7 [some (.ref a0), some (.int v1), some (.int v2), some (.int v3)] [.int r2] h3 _
  refine go_if_ne (t := 12) rfl rfl (fun hx_5 => ?_) (fun hx_5 => ?_)
  · rw [if_pos hx_5] at e
    refine go_iconst (v := 0) rfl (by decide) ?_
    cases e
    exact go_ret rfl (ck_rvb rfl (Or.inl rfl))
  · rw [if_neg hx_5] at e
    refine go_aload_n rfl rfl ?_
    replace e := ck_as_e e
    obtain ⟨hk_6, e⟩ := e
    replace e := ck_some_e e
    obtain ⟨b7, hq_8, e⟩ := e
    refine go_get (v := .ref b7) rfl rfl hk_6 (by decide) (by show va_rf (gR h3 a0 8) = _; rw [hq_8]; rfl) ?_
    refine go_bipush (v := 80) rfl (by decide) ?_
    refine go_iload_n rfl rfl ?_
    refine go_imul rfl ?_
    refine go_iload_n rfl rfl ?_
    refine go_iadd rfl ?_
    refine go_iload_n rfl rfl ?_
    replace e := ck_bd_e e
    obtain ⟨r9, h10, e11, e⟩ := e
    refine go_callS (As := [.int ((80 * v1) + v2), .int v3]) (rest := [.ref b7]) rfl rfl rfl ⟨Nat.le_of_ble_eq_true rfl, Nat.le_of_ble_eq_true rfl, Nat.le_of_ble_eq_true rfl, Nat.le_of_ble_eq_true rfl⟩ (s_RM_at e11) ?_
    show Go k_RM_spoil 26 [some (.ref a0), some (.int v1), some (.int v2), some (.int v3)] [.int r9, .ref b7] h10 _
    refine go_iconst (v := 1) rfl (by decide) ?_
    replace e := ck_as_e e
    obtain ⟨hc_12, e⟩ := e
    refine go_zast rfl hc_12 ?_
    generalize wI h10 b7 (r9 : Int32).toNatClampNeg 1 = h13 at e  ⊢
    replace e := ck_then_e e
    refine go_iconst (v := 1) rfl (by decide) ?_
    cases e
    exact go_ret rfl (ck_rvb rfl (Or.inr rfl))
def f_RM_takeName_L7 (F : Nat)  : Nat → Nat → Int32 → Int32 → ck_H → Option (Unit × ck_H)
  | 0, _, _, _, _ => none
  | n + 1, a0, v1, v2, h =>
    if v2 < (8 : Int32) then
      ck_as (gk h a0 = 12) <|
      ck_some (gR h a0 34) fun b3 =>
      if v2 < v1 then
        ck_some (gR h a0 9) fun b6 =>
        ck_as ((gk h b6 = 13 ∨ gk h b6 = 15) ∧ ¬ v2 < 0 ∧ (v2 : Int32).toNatClampNeg < gz h b6) <|
        ck_as (gk h b3 = 13 ∧ ¬ v2 < 0 ∧ (v2 : Int32).toNatClampNeg < gz h b3) <|
        ck_then (wI h b3 (v2 : Int32).toNatClampNeg (gI h b6 (v2 : Int32).toNatClampNeg : Int32).toInt8.toInt32) fun h10 =>
        f_RM_takeName_L7 F n a0 v1 (v2 + 1) h10
      else
        ck_as (gk h b3 = 13 ∧ ¬ v2 < 0 ∧ (v2 : Int32).toNatClampNeg < gz h b3) <|
        ck_then (wI h b3 (v2 : Int32).toNatClampNeg (32 : Int32).toInt8.toInt32) fun h13 =>
        f_RM_takeName_L7 F n a0 v1 (v2 + 1) h13
    else
      some ((), h)
set_option maxRecDepth 100000 in
set_option maxHeartbeats 4000000 in
theorem f_RM_takeName_L7_s (F : Nat)   : ∀ (n : Nat) (a0 : Nat) (v1 : Int32) (v2 : Int32) (h : ck_H) (r : Unit) (h' : ck_H), f_RM_takeName_L7 F n a0 v1 v2 h = some (r, h') → Go k_RM_takeName 7 [some (.ref a0), some (.int v1), some (.int v2)] [] h (none, h') := by
  intro n
  induction n with
  | zero => intro a0 v1 v2 h r h' e; simp only [f_RM_takeName_L7] at e; cases e
  | succ n ih =>
    intro a0 v1 v2 h r h' e
    rw [f_RM_takeName_L7] at e
    refine go_iload_n rfl rfl ?_
    refine go_bipush (v := 8) rfl (by decide) ?_
    refine go_icmp_ge (t := 41) rfl rfl (fun hx_1 => ?_) (fun hx_1 => ?_)
    · rw [if_pos hx_1] at e
      refine go_aload_n rfl rfl ?_
      replace e := ck_as_e e
      obtain ⟨hk_2, e⟩ := e
      replace e := ck_some_e e
      obtain ⟨b3, hq_4, e⟩ := e
      refine go_get (v := .ref b3) rfl rfl hk_2 (by decide) (by show va_rf (gR h a0 34) = _; rw [hq_4]; rfl) ?_
      refine go_iload_n rfl rfl ?_
      refine go_iload_n rfl rfl ?_
      refine go_iload_n rfl rfl ?_
      refine go_icmp_ge (t := 32) rfl rfl (fun hx_5 => ?_) (fun hx_5 => ?_)
      · rw [if_pos hx_5] at e
        refine go_aload_n rfl rfl ?_
        replace e := ck_some_e e
        obtain ⟨b6, hq_7, e⟩ := e
        refine go_get (v := .ref b6) rfl rfl hk_2 (by decide) (by show va_rf (gR h a0 9) = _; rw [hq_7]; rfl) ?_
        refine go_iload_n rfl rfl ?_
        replace e := ck_as_e e
        obtain ⟨hc_8, e⟩ := e
        refine go_bald rfl hc_8 ?_
        refine go_goto (t := 34) rfl rfl ?_
        replace e := ck_as_e e
        obtain ⟨hc_9, e⟩ := e
        refine go_bast rfl hc_9 ?_
        have hk_11 : gk (wI h b3 (v2 : Int32).toNatClampNeg (gI h b6 (v2 : Int32).toNatClampNeg : Int32).toInt8.toInt32) a0 = 12 := ck_kI.trans hk_2
        generalize wI h b3 (v2 : Int32).toNatClampNeg (gI h b6 (v2 : Int32).toNatClampNeg : Int32).toInt8.toInt32 = h10 at e hk_11 ⊢
        replace e := ck_then_e e
        refine go_iinc (v := 1) rfl rfl (by decide) rfl ?_
        show Go k_RM_takeName 38 [some (.ref a0), some (.int v1), some (.int (v2 + 1))] [] h10 _
        refine go_goto (t := 7) rfl rfl ?_
        refine go_forget (l := [some (.ref a0), some (.int v1), some (.int (v2 + 1))]) ⟨Or.inl rfl, Or.inl rfl, Or.inl rfl, trivial⟩ ?_
        exact ih _ _ _ _ _ _ e
      · rw [if_neg hx_5] at e
        refine go_bipush (v := 32) rfl (by decide) ?_
        replace e := ck_as_e e
        obtain ⟨hc_12, e⟩ := e
        refine go_bast rfl hc_12 ?_
        have hk_14 : gk (wI h b3 (v2 : Int32).toNatClampNeg (32 : Int32).toInt8.toInt32) a0 = 12 := ck_kI.trans hk_2
        generalize wI h b3 (v2 : Int32).toNatClampNeg (32 : Int32).toInt8.toInt32 = h13 at e hk_14 ⊢
        replace e := ck_then_e e
        refine go_iinc (v := 1) rfl rfl (by decide) rfl ?_
        show Go k_RM_takeName 38 [some (.ref a0), some (.int v1), some (.int (v2 + 1))] [] h13 _
        refine go_goto (t := 7) rfl rfl ?_
        refine go_forget (l := [some (.ref a0), some (.int v1), some (.int (v2 + 1))]) ⟨Or.inl rfl, Or.inl rfl, Or.inl rfl, trivial⟩ ?_
        exact ih _ _ _ _ _ _ e
    · rw [if_neg hx_1] at e
      cases e
      exact go_ret rfl rfl
def f_RM_takeName (F : Nat) (a0 : Nat) (h : ck_H) : Option (Unit × ck_H) :=
  ck_as (gk h a0 = 12) <|
  ck_bd (f_RM_read F a0 h) fun r2 h3 =>
  f_RM_takeName_L7 F F a0 r2 0 h3
set_option maxRecDepth 100000 in
set_option maxHeartbeats 4000000 in
theorem s_RM_takeName {F : Nat} {a0 : Nat} {h h' : ck_H} {r : Unit} (e : f_RM_takeName F a0 h = some (r, h')) : Go k_RM_takeName 0 (ck_in [.ref a0] 3) [] h (none, h') := by
  unfold f_RM_takeName at e
  show Go k_RM_takeName 0 [some (.ref a0), none, none] [] h _
  refine go_aload_n rfl rfl ?_
  replace e := ck_as_e e
  obtain ⟨hk_1, e⟩ := e
  replace e := ck_bd_e e
  obtain ⟨r2, h3, e4, e⟩ := e
  refine go_callV (As := []) (b0 := a0) (rest := []) rfl rfl ⟨hk_1, by decide⟩ rfl ⟨Nat.le_of_ble_eq_true rfl, Nat.le_of_ble_eq_true rfl, Nat.le_of_ble_eq_true rfl, Nat.le_of_ble_eq_true rfl⟩ (s_RM_read e4) ?_
  show Go k_RM_takeName 4 [some (.ref a0), none, none] [.int r2] h3 _
  refine go_istore_n rfl rfl ?_
  show Go k_RM_takeName 5 [some (.ref a0), some (.int r2), none] [] h3 _
  refine go_iconst (v := 0) rfl (by decide) ?_
  refine go_istore_n rfl rfl ?_
  show Go k_RM_takeName 7 [some (.ref a0), some (.int r2), some (.int 0)] [] h3 _
  refine go_forget (l := [some (.ref a0), some (.int r2), some (.int 0)]) ⟨Or.inl rfl, Or.inl rfl, Or.inl rfl, trivial⟩ ?_
  exact f_RM_takeName_L7_s F F _ _ _ _ _ _ e
def f_RM_mayBe_J14 (F : Nat)  (v0 : Int32) (v2 : Int32) (v3 : Int32) (s0 : Int64) (s1 : Int64) (h : ck_H) : Option (Int32 × ck_H) :=
  ck_bd (f_RM_in F s1 s0 79 h) fun r1 h2 =>
  if r1 = (0 : Int32) then
    some (0, h2)
  else
    if v0 = 0 then
      ck_bd (f_RM_in F ((v2 : Int32).toInt64) 1 200 h2) fun r6 h7 =>
      if r6 = (0 : Int32) then
        some (0, h7)
      else
        ck_bd (f_RM_in F ((v3 : Int32).toInt64) 1 20 h7) fun r10 h11 =>
        if r10 = (0 : Int32) then
          some (0, h11)
        else
          if (1200 : Int32) < (v2 * v3) then
            some (0, h11)
          else
            some (1, h11)
    else
    if v0 = 1 then
      if v2 = (0 : Int32) then
        ck_bd (f_RM_in F ((v3 : Int32).toInt64) 8 1200 h2) fun r17 h18 =>
        if r17 = (0 : Int32) then
          some (0, h18)
        else
          some (1, h18)
      else
        some (0, h2)
    else
    if v0 = 2 then
      if v2 = (0 : Int32) then
        ck_bd (f_RM_in F ((v3 : Int32).toInt64) 8 1200 h2) fun r23 h24 =>
        if r23 = (0 : Int32) then
          some (0, h24)
        else
          some (1, h24)
      else
        some (0, h2)
    else
    if v0 = 3 then
      ck_bd (f_RM_in F ((v2 : Int32).toInt64) 1 8 h2) fun r28 h29 =>
      if r28 = (0 : Int32) then
        some (0, h29)
      else
        ck_bd (f_RM_in F ((v3 : Int32).toInt64) 0 400 h29) fun r32 h33 =>
        if r32 = (0 : Int32) then
          some (0, h33)
        else
          some (1, h33)
    else
    if v0 = 4 then
      ck_bd (f_RM_in F ((v2 : Int32).toInt64) 1 200 h2) fun r37 h38 =>
      if r37 = (0 : Int32) then
        some (0, h38)
      else
        ck_bd (f_RM_in F ((v3 : Int32).toInt64) 1 20 h38) fun r41 h42 =>
        if r41 = (0 : Int32) then
          some (0, h42)
        else
          if (1200 : Int32) < (v2 * v3) then
            some (0, h42)
          else
            some (1, h42)
    else
      some (0, h2)
set_option maxRecDepth 100000 in
set_option maxHeartbeats 4000000 in
theorem f_RM_mayBe_J14_s (F : Nat)   (v0 : Int32) (v2 : Int32) (v3 : Int32) (s0 : Int64) (s1 : Int64) (h : ck_H) (r : Int32) (h' : ck_H) (e : f_RM_mayBe_J14 F  v0 v2 v3 s0 s1 h = some (r, h')) : Go k_RM_mayBe 14 [some (.int v0), none, some (.int v2), some (.int v3)] [.long s0, .long s1] h (some (.int r), h') := by
  unfold f_RM_mayBe_J14 at e
  refine go_ldc2 (v := 79) rfl rfl ?_
  replace e := ck_bd_e e
  obtain ⟨r1, h2, e3, e⟩ := e
  refine go_callS (As := [.long s1, .long s0, .long 79]) (rest := []) rfl rfl rfl ⟨Nat.le_of_ble_eq_true rfl, Nat.le_of_ble_eq_true rfl, Nat.le_of_ble_eq_true rfl, Nat.le_of_ble_eq_true rfl⟩ (s_RM_in e3) ?_
  show Go k_RM_mayBe 20 [some (.int v0), none, some (.int v2), some (.int v3)] [.int r1] h2 _
  refine go_if_ne (t := 25) rfl rfl (fun hx_4 => ?_) (fun hx_4 => ?_)
  · rw [if_pos hx_4] at e
    refine go_iconst (v := 0) rfl (by decide) ?_
    cases e
    exact go_ret rfl (ck_rvb rfl (Or.inl rfl))
  · rw [if_neg hx_4] at e
    refine go_iload_n rfl rfl ?_
    by_cases hx_5 : v0 = 0
    · rw [if_pos hx_5] at e
      refine go_tswI (off := 34) (t := 60) rfl (by rw [hx_5]; decide) (by rw [hx_5]; rfl) rfl ?_
      refine go_iload_n rfl rfl ?_
      refine go_i2l rfl ?_
      refine go_lconst (v := 1) rfl (by decide) ?_
      refine go_ldc2 (v := 200) rfl rfl ?_
      replace e := ck_bd_e e
      obtain ⟨r6, h7, e8, e⟩ := e
      refine go_callS (As := [.long ((v2 : Int32).toInt64), .long 1, .long 200]) (rest := []) rfl rfl rfl ⟨Nat.le_of_ble_eq_true rfl, Nat.le_of_ble_eq_true rfl, Nat.le_of_ble_eq_true rfl, Nat.le_of_ble_eq_true rfl⟩ (s_RM_in e8) ?_
      show Go k_RM_mayBe 69 [some (.int v0), none, some (.int v2), some (.int v3)] [.int r6] h7 _
      refine go_if_eq (t := 97) rfl rfl (fun hx_9 => ?_) (fun hx_9 => ?_)
      · rw [if_pos hx_9] at e
        refine go_iconst (v := 0) rfl (by decide) ?_
        cases e
        exact go_ret rfl (ck_rvb rfl (Or.inl rfl))
      · rw [if_neg hx_9] at e
        refine go_iload_n rfl rfl ?_
        refine go_i2l rfl ?_
        refine go_lconst (v := 1) rfl (by decide) ?_
        refine go_ldc2 (v := 20) rfl rfl ?_
        replace e := ck_bd_e e
        obtain ⟨r10, h11, e12, e⟩ := e
        refine go_callS (As := [.long ((v3 : Int32).toInt64), .long 1, .long 20]) (rest := []) rfl rfl rfl ⟨Nat.le_of_ble_eq_true rfl, Nat.le_of_ble_eq_true rfl, Nat.le_of_ble_eq_true rfl, Nat.le_of_ble_eq_true rfl⟩ (s_RM_in e12) ?_
        show Go k_RM_mayBe 81 [some (.int v0), none, some (.int v2), some (.int v3)] [.int r10] h11 _
        refine go_if_eq (t := 97) rfl rfl (fun hx_13 => ?_) (fun hx_13 => ?_)
        · rw [if_pos hx_13] at e
          refine go_iconst (v := 0) rfl (by decide) ?_
          cases e
          exact go_ret rfl (ck_rvb rfl (Or.inl rfl))
        · rw [if_neg hx_13] at e
          refine go_iload_n rfl rfl ?_
          refine go_iload_n rfl rfl ?_
          refine go_imul rfl ?_
          refine go_sipush (v := 1200) rfl (by decide) ?_
          refine go_icmp_gt (t := 97) rfl rfl (fun hx_14 => ?_) (fun hx_14 => ?_)
          · rw [if_pos hx_14] at e
            refine go_iconst (v := 0) rfl (by decide) ?_
            cases e
            exact go_ret rfl (ck_rvb rfl (Or.inl rfl))
          · rw [if_neg hx_14] at e
            refine go_iconst (v := 1) rfl (by decide) ?_
            refine go_goto (t := 98) rfl rfl ?_
            cases e
            exact go_ret rfl (ck_rvb rfl (Or.inr rfl))
    rw [if_neg hx_5] at e
    by_cases hx_15 : v0 = 1
    · rw [if_pos hx_15] at e
      refine go_tswI (off := 73) (t := 99) rfl (by rw [hx_15]; decide) (by rw [hx_15]; rfl) rfl ?_
      refine go_iload_n rfl rfl ?_
      refine go_if_ne (t := 121) rfl rfl (fun hx_16 => ?_) (fun hx_16 => ?_)
      · rw [if_pos hx_16] at e
        refine go_iload_n rfl rfl ?_
        refine go_i2l rfl ?_
        refine go_ldc2 (v := 8) rfl rfl ?_
        refine go_ldc2 (v := 1200) rfl rfl ?_
        replace e := ck_bd_e e
        obtain ⟨r17, h18, e19, e⟩ := e
        refine go_callS (As := [.long ((v3 : Int32).toInt64), .long 8, .long 1200]) (rest := []) rfl rfl rfl ⟨Nat.le_of_ble_eq_true rfl, Nat.le_of_ble_eq_true rfl, Nat.le_of_ble_eq_true rfl, Nat.le_of_ble_eq_true rfl⟩ (s_RM_in e19) ?_
        show Go k_RM_mayBe 114 [some (.int v0), none, some (.int v2), some (.int v3)] [.int r17] h18 _
        refine go_if_eq (t := 121) rfl rfl (fun hx_20 => ?_) (fun hx_20 => ?_)
        · rw [if_pos hx_20] at e
          refine go_iconst (v := 0) rfl (by decide) ?_
          cases e
          exact go_ret rfl (ck_rvb rfl (Or.inl rfl))
        · rw [if_neg hx_20] at e
          refine go_iconst (v := 1) rfl (by decide) ?_
          refine go_goto (t := 122) rfl rfl ?_
          cases e
          exact go_ret rfl (ck_rvb rfl (Or.inr rfl))
      · rw [if_neg hx_16] at e
        refine go_iconst (v := 0) rfl (by decide) ?_
        cases e
        exact go_ret rfl (ck_rvb rfl (Or.inl rfl))
    rw [if_neg hx_15] at e
    by_cases hx_21 : v0 = 2
    · rw [if_pos hx_21] at e
      refine go_tswI (off := 73) (t := 99) rfl (by rw [hx_21]; decide) (by rw [hx_21]; rfl) rfl ?_
      refine go_iload_n rfl rfl ?_
      refine go_if_ne (t := 121) rfl rfl (fun hx_22 => ?_) (fun hx_22 => ?_)
      · rw [if_pos hx_22] at e
        refine go_iload_n rfl rfl ?_
        refine go_i2l rfl ?_
        refine go_ldc2 (v := 8) rfl rfl ?_
        refine go_ldc2 (v := 1200) rfl rfl ?_
        replace e := ck_bd_e e
        obtain ⟨r23, h24, e25, e⟩ := e
        refine go_callS (As := [.long ((v3 : Int32).toInt64), .long 8, .long 1200]) (rest := []) rfl rfl rfl ⟨Nat.le_of_ble_eq_true rfl, Nat.le_of_ble_eq_true rfl, Nat.le_of_ble_eq_true rfl, Nat.le_of_ble_eq_true rfl⟩ (s_RM_in e25) ?_
        show Go k_RM_mayBe 114 [some (.int v0), none, some (.int v2), some (.int v3)] [.int r23] h24 _
        refine go_if_eq (t := 121) rfl rfl (fun hx_26 => ?_) (fun hx_26 => ?_)
        · rw [if_pos hx_26] at e
          refine go_iconst (v := 0) rfl (by decide) ?_
          cases e
          exact go_ret rfl (ck_rvb rfl (Or.inl rfl))
        · rw [if_neg hx_26] at e
          refine go_iconst (v := 1) rfl (by decide) ?_
          refine go_goto (t := 122) rfl rfl ?_
          cases e
          exact go_ret rfl (ck_rvb rfl (Or.inr rfl))
      · rw [if_neg hx_22] at e
        refine go_iconst (v := 0) rfl (by decide) ?_
        cases e
        exact go_ret rfl (ck_rvb rfl (Or.inl rfl))
    rw [if_neg hx_21] at e
    by_cases hx_27 : v0 = 3
    · rw [if_pos hx_27] at e
      refine go_tswI (off := 97) (t := 123) rfl (by rw [hx_27]; decide) (by rw [hx_27]; rfl) rfl ?_
      refine go_iload_n rfl rfl ?_
      refine go_i2l rfl ?_
      refine go_lconst (v := 1) rfl (by decide) ?_
      refine go_ldc2 (v := 8) rfl rfl ?_
      replace e := ck_bd_e e
      obtain ⟨r28, h29, e30, e⟩ := e
      refine go_callS (As := [.long ((v2 : Int32).toInt64), .long 1, .long 8]) (rest := []) rfl rfl rfl ⟨Nat.le_of_ble_eq_true rfl, Nat.le_of_ble_eq_true rfl, Nat.le_of_ble_eq_true rfl, Nat.le_of_ble_eq_true rfl⟩ (s_RM_in e30) ?_
      show Go k_RM_mayBe 132 [some (.int v0), none, some (.int v2), some (.int v3)] [.int r28] h29 _
      refine go_if_eq (t := 151) rfl rfl (fun hx_31 => ?_) (fun hx_31 => ?_)
      · rw [if_pos hx_31] at e
        refine go_iconst (v := 0) rfl (by decide) ?_
        cases e
        exact go_ret rfl (ck_rvb rfl (Or.inl rfl))
      · rw [if_neg hx_31] at e
        refine go_iload_n rfl rfl ?_
        refine go_i2l rfl ?_
        refine go_lconst (v := 0) rfl (by decide) ?_
        refine go_ldc2 (v := 400) rfl rfl ?_
        replace e := ck_bd_e e
        obtain ⟨r32, h33, e34, e⟩ := e
        refine go_callS (As := [.long ((v3 : Int32).toInt64), .long 0, .long 400]) (rest := []) rfl rfl rfl ⟨Nat.le_of_ble_eq_true rfl, Nat.le_of_ble_eq_true rfl, Nat.le_of_ble_eq_true rfl, Nat.le_of_ble_eq_true rfl⟩ (s_RM_in e34) ?_
        show Go k_RM_mayBe 144 [some (.int v0), none, some (.int v2), some (.int v3)] [.int r32] h33 _
        refine go_if_eq (t := 151) rfl rfl (fun hx_35 => ?_) (fun hx_35 => ?_)
        · rw [if_pos hx_35] at e
          refine go_iconst (v := 0) rfl (by decide) ?_
          cases e
          exact go_ret rfl (ck_rvb rfl (Or.inl rfl))
        · rw [if_neg hx_35] at e
          refine go_iconst (v := 1) rfl (by decide) ?_
          refine go_goto (t := 152) rfl rfl ?_
          cases e
          exact go_ret rfl (ck_rvb rfl (Or.inr rfl))
    rw [if_neg hx_27] at e
    by_cases hx_36 : v0 = 4
    · rw [if_pos hx_36] at e
      refine go_tswI (off := 34) (t := 60) rfl (by rw [hx_36]; decide) (by rw [hx_36]; rfl) rfl ?_
      refine go_iload_n rfl rfl ?_
      refine go_i2l rfl ?_
      refine go_lconst (v := 1) rfl (by decide) ?_
      refine go_ldc2 (v := 200) rfl rfl ?_
      replace e := ck_bd_e e
      obtain ⟨r37, h38, e39, e⟩ := e
      refine go_callS (As := [.long ((v2 : Int32).toInt64), .long 1, .long 200]) (rest := []) rfl rfl rfl ⟨Nat.le_of_ble_eq_true rfl, Nat.le_of_ble_eq_true rfl, Nat.le_of_ble_eq_true rfl, Nat.le_of_ble_eq_true rfl⟩ (s_RM_in e39) ?_
      show Go k_RM_mayBe 69 [some (.int v0), none, some (.int v2), some (.int v3)] [.int r37] h38 _
      refine go_if_eq (t := 97) rfl rfl (fun hx_40 => ?_) (fun hx_40 => ?_)
      · rw [if_pos hx_40] at e
        refine go_iconst (v := 0) rfl (by decide) ?_
        cases e
        exact go_ret rfl (ck_rvb rfl (Or.inl rfl))
      · rw [if_neg hx_40] at e
        refine go_iload_n rfl rfl ?_
        refine go_i2l rfl ?_
        refine go_lconst (v := 1) rfl (by decide) ?_
        refine go_ldc2 (v := 20) rfl rfl ?_
        replace e := ck_bd_e e
        obtain ⟨r41, h42, e43, e⟩ := e
        refine go_callS (As := [.long ((v3 : Int32).toInt64), .long 1, .long 20]) (rest := []) rfl rfl rfl ⟨Nat.le_of_ble_eq_true rfl, Nat.le_of_ble_eq_true rfl, Nat.le_of_ble_eq_true rfl, Nat.le_of_ble_eq_true rfl⟩ (s_RM_in e43) ?_
        show Go k_RM_mayBe 81 [some (.int v0), none, some (.int v2), some (.int v3)] [.int r41] h42 _
        refine go_if_eq (t := 97) rfl rfl (fun hx_44 => ?_) (fun hx_44 => ?_)
        · rw [if_pos hx_44] at e
          refine go_iconst (v := 0) rfl (by decide) ?_
          cases e
          exact go_ret rfl (ck_rvb rfl (Or.inl rfl))
        · rw [if_neg hx_44] at e
          refine go_iload_n rfl rfl ?_
          refine go_iload_n rfl rfl ?_
          refine go_imul rfl ?_
          refine go_sipush (v := 1200) rfl (by decide) ?_
          refine go_icmp_gt (t := 97) rfl rfl (fun hx_45 => ?_) (fun hx_45 => ?_)
          · rw [if_pos hx_45] at e
            refine go_iconst (v := 0) rfl (by decide) ?_
            cases e
            exact go_ret rfl (ck_rvb rfl (Or.inl rfl))
          · rw [if_neg hx_45] at e
            refine go_iconst (v := 1) rfl (by decide) ?_
            refine go_goto (t := 98) rfl rfl ?_
            cases e
            exact go_ret rfl (ck_rvb rfl (Or.inr rfl))
    rw [if_neg hx_36] at e
    have hz_ : (v0 : Int32).toInt < 0 ∨ 4 < (v0 : Int32).toInt := by
      have z0 := lv_neT hx_5 (k := 0) (a := 0) rfl
      have z1 := lv_neT hx_15 (k := 1) (a := 1) rfl
      have z2 := lv_neT hx_21 (k := 2) (a := 2) rfl
      have z3 := lv_neT hx_27 (k := 3) (a := 3) rfl
      have z4 := lv_neT hx_36 (k := 4) (a := 4) rfl
      omega
    refine go_tswO (m := k_RM_mayBe) (pc := 26) (t := 153) (d := 127) (offs := #[34, 73, 73, 97, 34]) rfl hz_ rfl ?_
    refine go_iconst (v := 0) rfl (by decide) ?_
    cases e
    exact go_ret rfl (ck_rvb rfl (Or.inl rfl))
def f_RM_mayBe (F : Nat) (v0 : Int32) (v1 : Int32) (v2 : Int32) (v3 : Int32) (h : ck_H) : Option (Int32 × ck_H) :=
  if v0 = (4 : Int32) then
    f_RM_mayBe_J14 F v0 v2 v3 2 ((v1 : Int32).toInt64) h
  else
    f_RM_mayBe_J14 F v0 v2 v3 1 ((v1 : Int32).toInt64) h
set_option maxRecDepth 100000 in
set_option maxHeartbeats 4000000 in
theorem s_RM_mayBe {F : Nat} {v0 : Int32} {v1 : Int32} {v2 : Int32} {v3 : Int32} {h h' : ck_H} {r : Int32} (e : f_RM_mayBe F v0 v1 v2 v3 h = some (r, h')) : Go k_RM_mayBe 0 (ck_in [.int v0, .int v1, .int v2, .int v3] 4) [] h (some (.int r), h') := by
  unfold f_RM_mayBe at e
  show Go k_RM_mayBe 0 [some (.int v0), some (.int v1), some (.int v2), some (.int v3)] [] h _
  refine go_iload_n rfl rfl ?_
  refine go_i2l rfl ?_
  refine go_iload_n rfl rfl ?_
  refine go_iconst (v := 4) rfl (by decide) ?_
  refine go_icmp_ne (t := 13) rfl rfl (fun hx_1 => ?_) (fun hx_1 => ?_)
  · rw [if_pos hx_1] at e
    refine go_ldc2 (v := 2) rfl rfl ?_
    refine go_goto (t := 14) rfl rfl ?_
    refine go_forget (l := [some (.int v0), none, some (.int v2), some (.int v3)]) ⟨Or.inl rfl, Or.inr ⟨rfl, fun _ q => by cases q; rfl⟩, Or.inl rfl, Or.inl rfl, trivial⟩ ?_
    exact f_RM_mayBe_J14_s F v0 v2 v3 2 ((v1 : Int32).toInt64) _ _ _ e
  · rw [if_neg hx_1] at e
    refine go_lconst (v := 1) rfl (by decide) ?_
    refine go_forget (l := [some (.int v0), none, some (.int v2), some (.int v3)]) ⟨Or.inl rfl, Or.inr ⟨rfl, fun _ q => by cases q; rfl⟩, Or.inl rfl, Or.inl rfl, trivial⟩ ?_
    exact f_RM_mayBe_J14_s F v0 v2 v3 1 ((v1 : Int32).toInt64) _ _ _ e
def f_RM_isNamed_L2 (F : Nat)  : Nat → Nat → Nat → Int32 → Int32 → ck_H → Option (Int32 × ck_H)
  | 0, _, _, _, _, _ => none
  | n + 1, a0, a1, v2, v3, h =>
    if v3 < (8 : Int32) then
      ck_as ((gk h a1 = 13 ∨ gk h a1 = 15) ∧ ¬ (v2 + v3) < 0 ∧ (v2 + v3 : Int32).toNatClampNeg < gz h a1) <|
      ck_as (gk h a0 = 12) <|
      ck_some (gR h a0 34) fun b4 =>
      ck_as ((gk h b4 = 13 ∨ gk h b4 = 15) ∧ ¬ v3 < 0 ∧ (v3 : Int32).toNatClampNeg < gz h b4) <|
      if (gI h a1 (v2 + v3 : Int32).toNatClampNeg) = (gI h b4 (v3 : Int32).toNatClampNeg) then
        f_RM_isNamed_L2 F n a0 a1 v2 (v3 + 1) h
      else
        some (0, h)
    else
      some (1, h)
set_option maxRecDepth 100000 in
set_option maxHeartbeats 4000000 in
theorem f_RM_isNamed_L2_s (F : Nat)   : ∀ (n : Nat) (a0 : Nat) (a1 : Nat) (v2 : Int32) (v3 : Int32) (h : ck_H) (r : Int32) (h' : ck_H), f_RM_isNamed_L2 F n a0 a1 v2 v3 h = some (r, h') → Go k_RM_isNamed 2 [some (.ref a0), some (.ref a1), some (.int v2), some (.int v3)] [] h (some (.int r), h') := by
  intro n
  induction n with
  | zero => intro a0 a1 v2 v3 h r h' e; simp only [f_RM_isNamed_L2] at e; cases e
  | succ n ih =>
    intro a0 a1 v2 v3 h r h' e
    rw [f_RM_isNamed_L2] at e
    refine go_iload_n rfl rfl ?_
    refine go_bipush (v := 8) rfl (by decide) ?_
    refine go_icmp_ge (t := 30) rfl rfl (fun hx_1 => ?_) (fun hx_1 => ?_)
    · rw [if_pos hx_1] at e
      refine go_aload_n rfl rfl ?_
      refine go_iload_n rfl rfl ?_
      refine go_iload_n rfl rfl ?_
      refine go_iadd rfl ?_
      replace e := ck_as_e e
      obtain ⟨hc_2, e⟩ := e
      refine go_bald rfl hc_2 ?_
      refine go_aload_n rfl rfl ?_
      replace e := ck_as_e e
      obtain ⟨hk_3, e⟩ := e
      replace e := ck_some_e e
      obtain ⟨b4, hq_5, e⟩ := e
      refine go_get (v := .ref b4) rfl rfl hk_3 (by decide) (by show va_rf (gR h a0 34) = _; rw [hq_5]; rfl) ?_
      refine go_iload_n rfl rfl ?_
      replace e := ck_as_e e
      obtain ⟨hc_6, e⟩ := e
      refine go_bald rfl hc_6 ?_
      refine go_icmp_eq (t := 24) rfl rfl (fun hx_7 => ?_) (fun hx_7 => ?_)
      · rw [if_pos hx_7] at e
        refine go_iinc (v := 1) rfl rfl (by decide) rfl ?_
        show Go k_RM_isNamed 27 [some (.ref a0), some (.ref a1), some (.int v2), some (.int (v3 + 1))] [] h _
        refine go_goto (t := 2) rfl rfl ?_
        refine go_forget (l := [some (.ref a0), some (.ref a1), some (.int v2), some (.int (v3 + 1))]) ⟨Or.inl rfl, Or.inl rfl, Or.inl rfl, Or.inl rfl, trivial⟩ ?_
        exact ih _ _ _ _ _ _ _ e
      · rw [if_neg hx_7] at e
        refine go_iconst (v := 0) rfl (by decide) ?_
        cases e
        exact go_ret rfl (ck_rvb rfl (Or.inl rfl))
    · rw [if_neg hx_1] at e
      refine go_iconst (v := 1) rfl (by decide) ?_
      cases e
      exact go_ret rfl (ck_rvb rfl (Or.inr rfl))
def f_RM_isNamed (F : Nat) (a0 : Nat) (a1 : Nat) (v2 : Int32) (h : ck_H) : Option (Int32 × ck_H) :=
  f_RM_isNamed_L2 F F a0 a1 v2 0 h
set_option maxRecDepth 100000 in
set_option maxHeartbeats 4000000 in
theorem s_RM_isNamed {F : Nat} {a0 : Nat} {a1 : Nat} {v2 : Int32} {h h' : ck_H} {r : Int32} (e : f_RM_isNamed F a0 a1 v2 h = some (r, h')) : Go k_RM_isNamed 0 (ck_in [.ref a0, .ref a1, .int v2] 4) [] h (some (.int r), h') := by
  unfold f_RM_isNamed at e
  show Go k_RM_isNamed 0 [some (.ref a0), some (.ref a1), some (.int v2), none] [] h _
  refine go_iconst (v := 0) rfl (by decide) ?_
  refine go_istore_n rfl rfl ?_
  show Go k_RM_isNamed 2 [some (.ref a0), some (.ref a1), some (.int v2), some (.int 0)] [] h _
  refine go_forget (l := [some (.ref a0), some (.ref a1), some (.int v2), some (.int 0)]) ⟨Or.inl rfl, Or.inl rfl, Or.inl rfl, Or.inl rfl, trivial⟩ ?_
  exact f_RM_isNamed_L2_s F F _ _ _ _ _ _ _ e
def f_RM_findSet_L2 (F : Nat)  : Nat → Nat → Int32 → ck_H → Option (Int32 × ck_H)
  | 0, _, _, _ => none
  | n + 1, a0, v1, h =>
    if v1 < (10 : Int32) then
      ck_as (gk h a0 = 12) <|
      ck_some (gR h a0 32) fun b3 =>
      ck_as ((gk h b3 = 13 ∨ gk h b3 = 15) ∧ ¬ v1 < 0 ∧ (v1 : Int32).toNatClampNeg < gz h b3) <|
      if (gI h b3 (v1 : Int32).toNatClampNeg) = (0 : Int32) then
        f_RM_findSet_L2 F n a0 (v1 + 1) h
      else
        ck_some (gR h a0 33) fun b7 =>
        ck_bd (f_RM_isNamed F a0 b7 (8 * v1) h) fun r9 h10 =>
        if r9 = (0 : Int32) then
          f_RM_findSet_L2 F n a0 (v1 + 1) h10
        else
          some (v1, h10)
    else
      some ((-1), h)
set_option maxRecDepth 100000 in
set_option maxHeartbeats 4000000 in
theorem f_RM_findSet_L2_s (F : Nat)   : ∀ (n : Nat) (a0 : Nat) (v1 : Int32) (h : ck_H) (r : Int32) (h' : ck_H), f_RM_findSet_L2 F n a0 v1 h = some (r, h') → Go k_RM_findSet 2 [some (.ref a0), some (.int v1)] [] h (some (.int r), h') := by
  intro n
  induction n with
  | zero => intro a0 v1 h r h' e; simp only [f_RM_findSet_L2] at e; cases e
  | succ n ih =>
    intro a0 v1 h r h' e
    rw [f_RM_findSet_L2] at e
    refine go_iload_n rfl rfl ?_
    refine go_bipush (v := 10) rfl (by decide) ?_
    refine go_icmp_ge (t := 40) rfl rfl (fun hx_1 => ?_) (fun hx_1 => ?_)
    · rw [if_pos hx_1] at e
      refine go_aload_n rfl rfl ?_
      replace e := ck_as_e e
      obtain ⟨hk_2, e⟩ := e
      replace e := ck_some_e e
      obtain ⟨b3, hq_4, e⟩ := e
      refine go_get (v := .ref b3) rfl rfl hk_2 (by decide) (by show va_rf (gR h a0 32) = _; rw [hq_4]; rfl) ?_
      refine go_iload_n rfl rfl ?_
      replace e := ck_as_e e
      obtain ⟨hc_5, e⟩ := e
      refine go_bald rfl hc_5 ?_
      refine go_if_eq (t := 34) rfl rfl (fun hx_6 => ?_) (fun hx_6 => ?_)
      · rw [if_pos hx_6] at e
        refine go_iinc (v := 1) rfl rfl (by decide) rfl ?_
        show Go k_RM_findSet 37 [some (.ref a0), some (.int (v1 + 1))] [] h _
        refine go_goto (t := 2) rfl rfl ?_
        refine go_forget (l := [some (.ref a0), some (.int (v1 + 1))]) ⟨Or.inl rfl, Or.inl rfl, trivial⟩ ?_
        exact ih _ _ _ _ _ e
      · rw [if_neg hx_6] at e
        refine go_aload_n rfl rfl ?_
        refine go_aload_n rfl rfl ?_
        replace e := ck_some_e e
        obtain ⟨b7, hq_8, e⟩ := e
        refine go_get (v := .ref b7) rfl rfl hk_2 (by decide) (by show va_rf (gR h a0 33) = _; rw [hq_8]; rfl) ?_
        refine go_bipush (v := 8) rfl (by decide) ?_
        refine go_iload_n rfl rfl ?_
        refine go_imul rfl ?_
        replace e := ck_bd_e e
        obtain ⟨r9, h10, e11, e⟩ := e
        refine go_callV (As := [.ref b7, .int (8 * v1)]) (b0 := a0) (rest := []) rfl rfl ⟨hk_2, by decide⟩ rfl ⟨Nat.le_of_ble_eq_true rfl, Nat.le_of_ble_eq_true rfl, Nat.le_of_ble_eq_true rfl, Nat.le_of_ble_eq_true rfl⟩ (s_RM_isNamed e11) ?_
        show Go k_RM_findSet 29 [some (.ref a0), some (.int v1)] [.int r9] h10 _
        refine go_if_eq (t := 34) rfl rfl (fun hx_12 => ?_) (fun hx_12 => ?_)
        · rw [if_pos hx_12] at e
          refine go_iinc (v := 1) rfl rfl (by decide) rfl ?_
          show Go k_RM_findSet 37 [some (.ref a0), some (.int (v1 + 1))] [] h10 _
          refine go_goto (t := 2) rfl rfl ?_
          refine go_forget (l := [some (.ref a0), some (.int (v1 + 1))]) ⟨Or.inl rfl, Or.inl rfl, trivial⟩ ?_
          exact ih _ _ _ _ _ e
        · rw [if_neg hx_12] at e
          refine go_iload_n rfl rfl ?_
          cases e
          exact go_ret rfl rfl
    · rw [if_neg hx_1] at e
      refine go_iconst (v := (-1)) rfl (by decide) ?_
      cases e
      exact go_ret rfl rfl
def f_RM_findSet (F : Nat) (a0 : Nat) (h : ck_H) : Option (Int32 × ck_H) :=
  f_RM_findSet_L2 F F a0 0 h
set_option maxRecDepth 100000 in
set_option maxHeartbeats 4000000 in
theorem s_RM_findSet {F : Nat} {a0 : Nat} {h h' : ck_H} {r : Int32} (e : f_RM_findSet F a0 h = some (r, h')) : Go k_RM_findSet 0 (ck_in [.ref a0] 2) [] h (some (.int r), h') := by
  unfold f_RM_findSet at e
  show Go k_RM_findSet 0 [some (.ref a0), none] [] h _
  refine go_iconst (v := 0) rfl (by decide) ?_
  refine go_istore_n rfl rfl ?_
  show Go k_RM_findSet 2 [some (.ref a0), some (.int 0)] [] h _
  refine go_forget (l := [some (.ref a0), some (.int 0)]) ⟨Or.inl rfl, Or.inl rfl, trivial⟩ ?_
  exact f_RM_findSet_L2_s F F _ _ _ _ _ e
def f_RM_isFree_L18 (F : Nat) (k8 : Nat → Int32 → Int32 → ck_H → Option (Int32 × ck_H)) : Nat → Nat → Int32 → Int32 → Int32 → ck_H → Option (Int32 × ck_H)
  | 0, _, _, _, _, _ => none
  | n + 1, a0, v1, v2, v3, h =>
    ck_as (gk h a0 = 12) <|
    ck_some (gR h a0 32) fun b2 =>
    ck_as ((gk h b2 = 13 ∨ gk h b2 = 15) ∧ ¬ v2 < 0 ∧ (v2 : Int32).toNatClampNeg < gz h b2) <|
    if (gI h b2 (v2 : Int32).toNatClampNeg) = (0 : Int32) then
      k8 a0 v1 (v2 + 1) h
    else
      ck_some (gR h a0 38) fun b6 =>
      ck_as ((gk h b6 = 14 ∨ gk h b6 = 21) ∧ ¬ v2 < 0 ∧ (v2 : Int32).toNatClampNeg < gz h b6) <|
      if v3 < ((4 * v2) + (gI h b6 (v2 : Int32).toNatClampNeg)) then
        ck_some (gR h a0 39) fun b10 =>
        ck_as ((gk h b10 = 14 ∨ gk h b10 = 21) ∧ ¬ v3 < 0 ∧ (v3 : Int32).toNatClampNeg < gz h b10) <|
        ck_some (gR h a0 39) fun b13 =>
        ck_as ((gk h b13 = 14 ∨ gk h b13 = 21) ∧ ¬ v3 < 0 ∧ (v3 : Int32).toNatClampNeg < gz h b13) <|
        ck_some (gR h a0 40) fun b16 =>
        ck_as ((gk h b16 = 14 ∨ gk h b16 = 21) ∧ ¬ v3 < 0 ∧ (v3 : Int32).toNatClampNeg < gz h b16) <|
        ck_bd (f_RM_in F ((v1 : Int32).toInt64) ((gI h b10 (v3 : Int32).toNatClampNeg : Int32).toInt64) ((((gI h b13 (v3 : Int32).toNatClampNeg) + (gI h b16 (v3 : Int32).toNatClampNeg) : Int32).toInt64) - 1) h) fun r19 h20 =>
        if r19 = (0 : Int32) then
          f_RM_isFree_L18 F k8 n a0 v1 v2 (v3 + 1) h20
        else
          some (0, h20)
      else
        k8 a0 v1 (v2 + 1) h
set_option maxRecDepth 100000 in
set_option maxHeartbeats 4000000 in
theorem f_RM_isFree_L18_s (F : Nat) (k8 : Nat → Int32 → Int32 → ck_H → Option (Int32 × ck_H)) (hk8 : ∀ (a0 : Nat) (v1 : Int32) (v2 : Int32) (h : ck_H) (r : Int32) (h' : ck_H), k8 a0 v1 v2 h = some (r, h') → Go k_RM_isFree 8 [some (.ref a0), some (.int v1), some (.int v2), none] [] h (some (.int r), h')) : ∀ (n : Nat) (a0 : Nat) (v1 : Int32) (v2 : Int32) (v3 : Int32) (h : ck_H) (r : Int32) (h' : ck_H), f_RM_isFree_L18 F k8 n a0 v1 v2 v3 h = some (r, h') → Go k_RM_isFree 18 [some (.ref a0), some (.int v1), some (.int v2), some (.int v3)] [] h (some (.int r), h') := by
  intro n
  induction n with
  | zero => intro a0 v1 v2 v3 h r h' e; simp only [f_RM_isFree_L18] at e; cases e
  | succ n ih =>
    intro a0 v1 v2 v3 h r h' e
    rw [f_RM_isFree_L18] at e
    refine go_aload_n rfl rfl ?_
    replace e := ck_as_e e
    obtain ⟨hk_1, e⟩ := e
    replace e := ck_some_e e
    obtain ⟨b2, hq_3, e⟩ := e
    refine go_get (v := .ref b2) rfl rfl hk_1 (by decide) (by show va_rf (gR h a0 32) = _; rw [hq_3]; rfl) ?_
    refine go_iload_n rfl rfl ?_
    replace e := ck_as_e e
    obtain ⟨hc_4, e⟩ := e
    refine go_bald rfl hc_4 ?_
    refine go_if_eq (t := 80) rfl rfl (fun hx_5 => ?_) (fun hx_5 => ?_)
    · rw [if_pos hx_5] at e
      refine go_iinc (v := 1) rfl rfl (by decide) rfl ?_
      show Go k_RM_isFree 83 [some (.ref a0), some (.int v1), some (.int (v2 + 1)), some (.int v3)] [] h _
      refine go_goto (t := 8) rfl rfl ?_
      refine go_forget (l := [some (.ref a0), some (.int v1), some (.int (v2 + 1)), none]) ⟨Or.inl rfl, Or.inl rfl, Or.inl rfl, Or.inr ⟨rfl, fun _ q => by cases q; rfl⟩, trivial⟩ ?_
      exact hk8 _ _ _ _ _ _ e
    · rw [if_neg hx_5] at e
      refine go_iload_n rfl rfl ?_
      refine go_iconst (v := 4) rfl (by decide) ?_
      refine go_iload_n rfl rfl ?_
      refine go_imul rfl ?_
      refine go_aload_n rfl rfl ?_
      replace e := ck_some_e e
      obtain ⟨b6, hq_7, e⟩ := e
      refine go_get (v := .ref b6) rfl rfl hk_1 (by decide) (by show va_rf (gR h a0 38) = _; rw [hq_7]; rfl) ?_
      refine go_iload_n rfl rfl ?_
      replace e := ck_as_e e
      obtain ⟨hc_8, e⟩ := e
      refine go_iald rfl hc_8 ?_
      refine go_iadd rfl ?_
      refine go_icmp_ge (t := 80) rfl rfl (fun hx_9 => ?_) (fun hx_9 => ?_)
      · rw [if_pos hx_9] at e
        refine go_iload_n rfl rfl ?_
        refine go_i2l rfl ?_
        refine go_aload_n rfl rfl ?_
        replace e := ck_some_e e
        obtain ⟨b10, hq_11, e⟩ := e
        refine go_get (v := .ref b10) rfl rfl hk_1 (by decide) (by show va_rf (gR h a0 39) = _; rw [hq_11]; rfl) ?_
        refine go_iload_n rfl rfl ?_
        replace e := ck_as_e e
        obtain ⟨hc_12, e⟩ := e
        refine go_iald rfl hc_12 ?_
        refine go_i2l rfl ?_
        refine go_aload_n rfl rfl ?_
        replace e := ck_some_e e
        obtain ⟨b13, hq_14, e⟩ := e
        refine go_get (v := .ref b13) rfl rfl hk_1 (by decide) (by show va_rf (gR h a0 39) = _; rw [hq_14]; rfl) ?_
        refine go_iload_n rfl rfl ?_
        replace e := ck_as_e e
        obtain ⟨hc_15, e⟩ := e
        refine go_iald rfl hc_15 ?_
        refine go_aload_n rfl rfl ?_
        replace e := ck_some_e e
        obtain ⟨b16, hq_17, e⟩ := e
        refine go_get (v := .ref b16) rfl rfl hk_1 (by decide) (by show va_rf (gR h a0 40) = _; rw [hq_17]; rfl) ?_
        refine go_iload_n rfl rfl ?_
        replace e := ck_as_e e
        obtain ⟨hc_18, e⟩ := e
        refine go_iald rfl hc_18 ?_
        refine go_iadd rfl ?_
        refine go_i2l rfl ?_
        refine go_lconst (v := 1) rfl (by decide) ?_
        refine go_lsub rfl ?_
        replace e := ck_bd_e e
        obtain ⟨r19, h20, e21, e⟩ := e
        refine go_callS (As := [.long ((v1 : Int32).toInt64), .long ((gI h b10 (v3 : Int32).toNatClampNeg : Int32).toInt64), .long ((((gI h b13 (v3 : Int32).toNatClampNeg) + (gI h b16 (v3 : Int32).toNatClampNeg) : Int32).toInt64) - 1)]) (rest := []) rfl rfl rfl ⟨Nat.le_of_ble_eq_true rfl, Nat.le_of_ble_eq_true rfl, Nat.le_of_ble_eq_true rfl, Nat.le_of_ble_eq_true rfl⟩ (s_RM_in e21) ?_
        show Go k_RM_isFree 69 [some (.ref a0), some (.int v1), some (.int v2), some (.int v3)] [.int r19] h20 _
        refine go_if_eq (t := 74) rfl rfl (fun hx_22 => ?_) (fun hx_22 => ?_)
        · rw [if_pos hx_22] at e
          refine go_iinc (v := 1) rfl rfl (by decide) rfl ?_
          show Go k_RM_isFree 77 [some (.ref a0), some (.int v1), some (.int v2), some (.int (v3 + 1))] [] h20 _
          refine go_goto (t := 18) rfl rfl ?_
          refine go_forget (l := [some (.ref a0), some (.int v1), some (.int v2), some (.int (v3 + 1))]) ⟨Or.inl rfl, Or.inl rfl, Or.inl rfl, Or.inl rfl, trivial⟩ ?_
          exact ih _ _ _ _ _ _ _ e
        · rw [if_neg hx_22] at e
          refine go_iconst (v := 0) rfl (by decide) ?_
          cases e
          exact go_ret rfl (ck_rvb rfl (Or.inl rfl))
      · rw [if_neg hx_9] at e
        refine go_iinc (v := 1) rfl rfl (by decide) rfl ?_
        show Go k_RM_isFree 83 [some (.ref a0), some (.int v1), some (.int (v2 + 1)), some (.int v3)] [] h _
        refine go_goto (t := 8) rfl rfl ?_
        refine go_forget (l := [some (.ref a0), some (.int v1), some (.int (v2 + 1)), none]) ⟨Or.inl rfl, Or.inl rfl, Or.inl rfl, Or.inr ⟨rfl, fun _ q => by cases q; rfl⟩, trivial⟩ ?_
        exact hk8 _ _ _ _ _ _ e
def f_RM_isFree_L8 (F : Nat)  : Nat → Nat → Int32 → Int32 → ck_H → Option (Int32 × ck_H)
  | 0, _, _, _, _ => none
  | n + 1, a0, v1, v2, h =>
    if v2 < (10 : Int32) then
      ck_then (4 * v2) fun x2 =>
      f_RM_isFree_L18 F (f_RM_isFree_L8 F n) F a0 v1 v2 x2 h
    else
      some (1, h)
set_option maxRecDepth 100000 in
set_option maxHeartbeats 4000000 in
theorem f_RM_isFree_L8_s (F : Nat)   : ∀ (n : Nat) (a0 : Nat) (v1 : Int32) (v2 : Int32) (h : ck_H) (r : Int32) (h' : ck_H), f_RM_isFree_L8 F n a0 v1 v2 h = some (r, h') → Go k_RM_isFree 8 [some (.ref a0), some (.int v1), some (.int v2), none] [] h (some (.int r), h') := by
  intro n
  induction n with
  | zero => intro a0 v1 v2 h r h' e; simp only [f_RM_isFree_L8] at e; cases e
  | succ n ih =>
    intro a0 v1 v2 h r h' e
    rw [f_RM_isFree_L8] at e
    refine go_iload_n rfl rfl ?_
    refine go_bipush (v := 10) rfl (by decide) ?_
    refine go_icmp_ge (t := 86) rfl rfl (fun hx_1 => ?_) (fun hx_1 => ?_)
    · rw [if_pos hx_1] at e
      refine go_iconst (v := 4) rfl (by decide) ?_
      refine go_iload_n rfl rfl ?_
      refine go_imul rfl ?_
      generalize 4 * v2 = x2 at e ⊢
      replace e := ck_then_e e
      refine go_istore_n rfl rfl ?_
      show Go k_RM_isFree 18 [some (.ref a0), some (.int v1), some (.int v2), some (.int x2)] [] h _
      refine go_forget (l := [some (.ref a0), some (.int v1), some (.int v2), some (.int x2)]) ⟨Or.inl rfl, Or.inl rfl, Or.inl rfl, Or.inl rfl, trivial⟩ ?_
      exact f_RM_isFree_L18_s F (f_RM_isFree_L8 F n) ih F _ _ _ _ _ _ _ e
    · rw [if_neg hx_1] at e
      refine go_iconst (v := 1) rfl (by decide) ?_
      cases e
      exact go_ret rfl (ck_rvb rfl (Or.inr rfl))
def f_RM_isFree (F : Nat) (a0 : Nat) (v1 : Int32) (h : ck_H) : Option (Int32 × ck_H) :=
  if v1 = (0 : Int32) then
    some (0, h)
  else
    f_RM_isFree_L8 F F a0 v1 0 h
set_option maxRecDepth 100000 in
set_option maxHeartbeats 4000000 in
theorem s_RM_isFree {F : Nat} {a0 : Nat} {v1 : Int32} {h h' : ck_H} {r : Int32} (e : f_RM_isFree F a0 v1 h = some (r, h')) : Go k_RM_isFree 0 (ck_in [.ref a0, .int v1] 4) [] h (some (.int r), h') := by
  unfold f_RM_isFree at e
  show Go k_RM_isFree 0 [some (.ref a0), some (.int v1), none, none] [] h _
  refine go_iload_n rfl rfl ?_
  refine go_if_ne (t := 6) rfl rfl (fun hx_1 => ?_) (fun hx_1 => ?_)
  · rw [if_pos hx_1] at e
    refine go_iconst (v := 0) rfl (by decide) ?_
    cases e
    exact go_ret rfl (ck_rvb rfl (Or.inl rfl))
  · rw [if_neg hx_1] at e
    refine go_iconst (v := 0) rfl (by decide) ?_
    refine go_istore_n rfl rfl ?_
    show Go k_RM_isFree 8 [some (.ref a0), some (.int v1), some (.int 0), none] [] h _
    refine go_forget (l := [some (.ref a0), some (.int v1), some (.int 0), none]) ⟨Or.inl rfl, Or.inl rfl, Or.inl rfl, Or.inl rfl, trivial⟩ ?_
    exact f_RM_isFree_L8_s F F _ _ _ _ _ _ e
def f_RM_freeFrom_L2 (F : Nat)  : Nat → Nat → Int32 → Int32 → ck_H → Option (Int32 × ck_H)
  | 0, _, _, _, _ => none
  | n + 1, a0, v1, v2, h =>
    if (v1 + v2) < (80 : Int32) then
      ck_as (gk h a0 = 12) <|
      ck_bd (f_RM_isFree F a0 (v1 + v2) h) fun r3 h4 =>
      if r3 = (0 : Int32) then
        some (v2, h4)
      else
        f_RM_freeFrom_L2 F n a0 v1 (v2 + 1) h4
    else
      some (v2, h)
set_option maxRecDepth 100000 in
set_option maxHeartbeats 4000000 in
theorem f_RM_freeFrom_L2_s (F : Nat)   : ∀ (n : Nat) (a0 : Nat) (v1 : Int32) (v2 : Int32) (h : ck_H) (r : Int32) (h' : ck_H), f_RM_freeFrom_L2 F n a0 v1 v2 h = some (r, h') → Go k_RM_freeFrom 2 [some (.ref a0), some (.int v1), some (.int v2)] [] h (some (.int r), h') := by
  intro n
  induction n with
  | zero => intro a0 v1 v2 h r h' e; simp only [f_RM_freeFrom_L2] at e; cases e
  | succ n ih =>
    intro a0 v1 v2 h r h' e
    rw [f_RM_freeFrom_L2] at e
    refine go_iload_n rfl rfl ?_
    refine go_iload_n rfl rfl ?_
    refine go_iadd rfl ?_
    refine go_bipush (v := 80) rfl (by decide) ?_
    refine go_icmp_ge (t := 26) rfl rfl (fun hx_1 => ?_) (fun hx_1 => ?_)
    · rw [if_pos hx_1] at e
      refine go_aload_n rfl rfl ?_
      refine go_iload_n rfl rfl ?_
      refine go_iload_n rfl rfl ?_
      refine go_iadd rfl ?_
      replace e := ck_as_e e
      obtain ⟨hk_2, e⟩ := e
      replace e := ck_bd_e e
      obtain ⟨r3, h4, e5, e⟩ := e
      refine go_callV (As := [.int (v1 + v2)]) (b0 := a0) (rest := []) rfl rfl ⟨hk_2, by decide⟩ rfl ⟨Nat.le_of_ble_eq_true rfl, Nat.le_of_ble_eq_true rfl, Nat.le_of_ble_eq_true rfl, Nat.le_of_ble_eq_true rfl⟩ (s_RM_isFree e5) ?_
      show Go k_RM_freeFrom 17 [some (.ref a0), some (.int v1), some (.int v2)] [.int r3] h4 _
      refine go_if_eq (t := 26) rfl rfl (fun hx_6 => ?_) (fun hx_6 => ?_)
      · rw [if_pos hx_6] at e
        refine go_iload_n rfl rfl ?_
        cases e
        exact go_ret rfl rfl
      · rw [if_neg hx_6] at e
        refine go_iinc (v := 1) rfl rfl (by decide) rfl ?_
        show Go k_RM_freeFrom 23 [some (.ref a0), some (.int v1), some (.int (v2 + 1))] [] h4 _
        refine go_goto (t := 2) rfl rfl ?_
        refine go_forget (l := [some (.ref a0), some (.int v1), some (.int (v2 + 1))]) ⟨Or.inl rfl, Or.inl rfl, Or.inl rfl, trivial⟩ ?_
        exact ih _ _ _ _ _ _ e
    · rw [if_neg hx_1] at e
      refine go_iload_n rfl rfl ?_
      cases e
      exact go_ret rfl rfl
def f_RM_freeFrom (F : Nat) (a0 : Nat) (v1 : Int32) (h : ck_H) : Option (Int32 × ck_H) :=
  f_RM_freeFrom_L2 F F a0 v1 0 h
set_option maxRecDepth 100000 in
set_option maxHeartbeats 4000000 in
theorem s_RM_freeFrom {F : Nat} {a0 : Nat} {v1 : Int32} {h h' : ck_H} {r : Int32} (e : f_RM_freeFrom F a0 v1 h = some (r, h')) : Go k_RM_freeFrom 0 (ck_in [.ref a0, .int v1] 3) [] h (some (.int r), h') := by
  unfold f_RM_freeFrom at e
  show Go k_RM_freeFrom 0 [some (.ref a0), some (.int v1), none] [] h _
  refine go_iconst (v := 0) rfl (by decide) ?_
  refine go_istore_n rfl rfl ?_
  show Go k_RM_freeFrom 2 [some (.ref a0), some (.int v1), some (.int 0)] [] h _
  refine go_forget (l := [some (.ref a0), some (.int v1), some (.int 0)]) ⟨Or.inl rfl, Or.inl rfl, Or.inl rfl, trivial⟩ ?_
  exact f_RM_freeFrom_L2_s F F _ _ _ _ _ _ e
def f_RM_findsRow_L7 (F : Nat)  : Nat → Nat → Int32 → Int32 → ck_H → Option (Int32 × ck_H)
  | 0, _, _, _, _ => none
  | n + 1, a0, v1, v2, h =>
    if v2 < (80 : Int32) then
      ck_as (gk h a0 = 12) <|
      ck_bd (f_RM_freeFrom F a0 v2 h) fun r3 h4 =>
      if r3 < v1 then
        ck_then (v2 + (r3 + 1)) fun x7 =>
        f_RM_findsRow_L7 F n a0 v1 x7 h4
      else
        ck_as (gk h4 a0 = 12) <|
        ck_some (gR h4 a0 46) fun b9 =>
        ck_as (gk h4 b9 = 14 ∧ ¬ (0 : Int32) < 0 ∧ (0 : Int32).toNatClampNeg < gz h4 b9) <|
        ck_then (wI h4 b9 (0 : Int32).toNatClampNeg v2) fun h12 =>
        ck_some (gR h12 a0 47) fun b14 =>
        ck_as (gk h12 b14 = 14 ∧ ¬ (0 : Int32) < 0 ∧ (0 : Int32).toNatClampNeg < gz h12 b14) <|
        ck_then (wI h12 b14 (0 : Int32).toNatClampNeg v1) fun h17 =>
        some (1, h17)
    else
      some (0, h)
set_option maxRecDepth 100000 in
set_option maxHeartbeats 4000000 in
theorem f_RM_findsRow_L7_s (F : Nat)   : ∀ (n : Nat) (a0 : Nat) (v1 : Int32) (v2 : Int32) (h : ck_H) (r : Int32) (h' : ck_H), f_RM_findsRow_L7 F n a0 v1 v2 h = some (r, h') → Go k_RM_findsRow 7 [some (.ref a0), some (.int v1), some (.int v2), none] [] h (some (.int r), h') := by
  intro n
  induction n with
  | zero => intro a0 v1 v2 h r h' e; simp only [f_RM_findsRow_L7] at e; cases e
  | succ n ih =>
    intro a0 v1 v2 h r h' e
    rw [f_RM_findsRow_L7] at e
    refine go_iload_n rfl rfl ?_
    refine go_bipush (v := 80) rfl (by decide) ?_
    refine go_icmp_ge (t := 49) rfl rfl (fun hx_1 => ?_) (fun hx_1 => ?_)
    · rw [if_pos hx_1] at e
      refine go_aload_n rfl rfl ?_
      refine go_iload_n rfl rfl ?_
      replace e := ck_as_e e
      obtain ⟨hk_2, e⟩ := e
      replace e := ck_bd_e e
      obtain ⟨r3, h4, e5, e⟩ := e
      refine go_callV (As := [.int v2]) (b0 := a0) (rest := []) rfl rfl ⟨hk_2, by decide⟩ rfl ⟨Nat.le_of_ble_eq_true rfl, Nat.le_of_ble_eq_true rfl, Nat.le_of_ble_eq_true rfl, Nat.le_of_ble_eq_true rfl⟩ (s_RM_freeFrom e5) ?_
      show Go k_RM_findsRow 18 [some (.ref a0), some (.int v1), some (.int v2), none] [.int r3] h4 _
      refine go_istore_n rfl rfl ?_
      show Go k_RM_findsRow 19 [some (.ref a0), some (.int v1), some (.int v2), some (.int r3)] [] h4 _
      refine go_iload_n rfl rfl ?_
      refine go_iload_n rfl rfl ?_
      refine go_icmp_lt (t := 40) rfl rfl (fun hx_6 => ?_) (fun hx_6 => ?_)
      · rw [if_pos hx_6] at e
        refine go_iload_n rfl rfl ?_
        refine go_iload_n rfl rfl ?_
        refine go_iconst (v := 1) rfl (by decide) ?_
        refine go_iadd rfl ?_
        refine go_iadd rfl ?_
        generalize v2 + (r3 + 1) = x7 at e ⊢
        replace e := ck_then_e e
        refine go_istore_n rfl rfl ?_
        show Go k_RM_findsRow 46 [some (.ref a0), some (.int v1), some (.int x7), some (.int r3)] [] h4 _
        refine go_goto (t := 7) rfl rfl ?_
        refine go_forget (l := [some (.ref a0), some (.int v1), some (.int x7), none]) ⟨Or.inl rfl, Or.inl rfl, Or.inl rfl, Or.inr ⟨rfl, fun _ q => by cases q; rfl⟩, trivial⟩ ?_
        exact ih _ _ _ _ _ _ e
      · rw [if_neg hx_6] at e
        refine go_aload_n rfl rfl ?_
        replace e := ck_as_e e
        obtain ⟨hk_8, e⟩ := e
        replace e := ck_some_e e
        obtain ⟨b9, hq_10, e⟩ := e
        refine go_get (v := .ref b9) rfl rfl hk_8 (by decide) (by show va_rf (gR h4 a0 46) = _; rw [hq_10]; rfl) ?_
        refine go_iconst (v := 0) rfl (by decide) ?_
        refine go_iload_n rfl rfl ?_
        replace e := ck_as_e e
        obtain ⟨hc_11, e⟩ := e
        refine go_iast rfl hc_11 ?_
        have hk_13 : gk (wI h4 b9 (0 : Int32).toNatClampNeg v2) a0 = 12 := ck_kI.trans hk_8
        generalize wI h4 b9 (0 : Int32).toNatClampNeg v2 = h12 at e hk_13 ⊢
        replace e := ck_then_e e
        refine go_aload_n rfl rfl ?_
        replace e := ck_some_e e
        obtain ⟨b14, hq_15, e⟩ := e
        refine go_get (v := .ref b14) rfl rfl hk_13 (by decide) (by show va_rf (gR h12 a0 47) = _; rw [hq_15]; rfl) ?_
        refine go_iconst (v := 0) rfl (by decide) ?_
        refine go_iload_n rfl rfl ?_
        replace e := ck_as_e e
        obtain ⟨hc_16, e⟩ := e
        refine go_iast rfl hc_16 ?_
        have hk_18 : gk (wI h12 b14 (0 : Int32).toNatClampNeg v1) a0 = 12 := ck_kI.trans hk_13
        generalize wI h12 b14 (0 : Int32).toNatClampNeg v1 = h17 at e hk_18 ⊢
        replace e := ck_then_e e
        refine go_iconst (v := 1) rfl (by decide) ?_
        cases e
        exact go_ret rfl (ck_rvb rfl (Or.inr rfl))
    · rw [if_neg hx_1] at e
      refine go_iconst (v := 0) rfl (by decide) ?_
      cases e
      exact go_ret rfl (ck_rvb rfl (Or.inl rfl))
def f_RM_findsRow (F : Nat) (a0 : Nat) (v1 : Int32) (h : ck_H) : Option (Int32 × ck_H) :=
  ck_as (gk h a0 = 12) <|
  ck_then (wI h a0 48 1) fun h2 =>
  f_RM_findsRow_L7 F F a0 v1 1 h2
set_option maxRecDepth 100000 in
set_option maxHeartbeats 4000000 in
theorem s_RM_findsRow {F : Nat} {a0 : Nat} {v1 : Int32} {h h' : ck_H} {r : Int32} (e : f_RM_findsRow F a0 v1 h = some (r, h')) : Go k_RM_findsRow 0 (ck_in [.ref a0, .int v1] 4) [] h (some (.int r), h') := by
  unfold f_RM_findsRow at e
  show Go k_RM_findsRow 0 [some (.ref a0), some (.int v1), none, none] [] h _
  refine go_aload_n rfl rfl ?_
  refine go_iconst (v := 1) rfl (by decide) ?_
  replace e := ck_as_e e
  obtain ⟨hk_1, e⟩ := e
  refine go_put (h1 := wI h a0 48 1) rfl rfl hk_1 ⟨by decide, by decide, Or.inl rfl⟩ rfl ?_
  have hk_3 : gk (wI h a0 48 1) a0 = 12 := ck_kI.trans hk_1
  generalize wI h a0 48 1 = h2 at e hk_3 ⊢
  replace e := ck_then_e e
  refine go_iconst (v := 1) rfl (by decide) ?_
  refine go_istore_n rfl rfl ?_
  show Go k_RM_findsRow 7 [some (.ref a0), some (.int v1), some (.int 1), none] [] h2 _
  refine go_forget (l := [some (.ref a0), some (.int v1), some (.int 1), none]) ⟨Or.inl rfl, Or.inl rfl, Or.inl rfl, Or.inl rfl, trivial⟩ ?_
  exact f_RM_findsRow_L7_s F F _ _ _ _ _ _ e
def f_RM_finds_L10 (F : Nat)  : Nat → Nat → Int32 → Int32 → Int32 → ck_H → Option (Int32 × ck_H)
  | 0, _, _, _, _, _ => none
  | n + 1, a0, v2, v3, v4, h =>
    if (0 : Int32) < v3 then
      if v4 < (80 : Int32) then
        ck_as (gk h a0 = 12) <|
        ck_bd (f_RM_freeFrom F a0 v4 h) fun r4 h5 =>
        if (0 : Int32) < r4 then
          ck_as (gk h5 a0 = 12) <|
          if (gI h5 a0 48) = v2 then
            some (0, h5)
          else
            ck_some (gR h5 a0 46) fun b10 =>
            ck_as (gk h5 b10 = 14 ∧ ¬ (gI h5 a0 48) < 0 ∧ (gI h5 a0 48 : Int32).toNatClampNeg < gz h5 b10) <|
            ck_then (wI h5 b10 (gI h5 a0 48 : Int32).toNatClampNeg v4) fun h13 =>
            ck_some (gR h13 a0 47) fun b15 =>
            ck_bd (f_Ma_min F r4 v3 h13) fun r17 h18 =>
            ck_as (gk h18 b15 = 14 ∧ ¬ (gI h13 a0 48) < 0 ∧ (gI h13 a0 48 : Int32).toNatClampNeg < gz h18 b15) <|
            ck_then (wI h18 b15 (gI h13 a0 48 : Int32).toNatClampNeg r17) fun h21 =>
            ck_as (gk h21 a0 = 12) <|
            ck_some (gR h21 a0 47) fun b23 =>
            ck_as ((gk h21 b23 = 14 ∨ gk h21 b23 = 21) ∧ ¬ (gI h21 a0 48) < 0 ∧ (gI h21 a0 48 : Int32).toNatClampNeg < gz h21 b23) <|
            ck_then (v3 - (gI h21 b23 (gI h21 a0 48 : Int32).toNatClampNeg)) fun x26 =>
            ck_then (wI h21 a0 48 ((gI h21 a0 48) + 1)) fun h27 =>
            ck_then (v4 + (r4 + 1)) fun x29 =>
            f_RM_finds_L10 F n a0 v2 x26 x29 h27
        else
          ck_then (v4 + (r4 + 1)) fun x30 =>
          f_RM_finds_L10 F n a0 v2 v3 x30 h5
      else
        if v3 = (0 : Int32) then
          some (1, h)
        else
          some (0, h)
    else
      if v3 = (0 : Int32) then
        some (1, h)
      else
        some (0, h)
set_option maxRecDepth 100000 in
set_option maxHeartbeats 4000000 in
theorem f_RM_finds_L10_s (F : Nat)   : ∀ (n : Nat) (a0 : Nat) (v2 : Int32) (v3 : Int32) (v4 : Int32) (h : ck_H) (r : Int32) (h' : ck_H), f_RM_finds_L10 F n a0 v2 v3 v4 h = some (r, h') → Go k_RM_finds 10 [some (.ref a0), none, some (.int v2), some (.int v3), some (.int v4), none] [] h (some (.int r), h') := by
  intro n
  induction n with
  | zero => intro a0 v2 v3 v4 h r h' e; simp only [f_RM_finds_L10] at e; cases e
  | succ n ih =>
    intro a0 v2 v3 v4 h r h' e
    rw [f_RM_finds_L10] at e
    refine go_iload_n rfl rfl ?_
    refine go_if_le (t := 104) rfl rfl (fun hx_1 => ?_) (fun hx_1 => ?_)
    · rw [if_pos hx_1] at e
      refine go_iload rfl rfl ?_
      refine go_bipush (v := 80) rfl (by decide) ?_
      refine go_icmp_ge (t := 104) rfl rfl (fun hx_2 => ?_) (fun hx_2 => ?_)
      · rw [if_pos hx_2] at e
        refine go_aload_n rfl rfl ?_
        refine go_iload rfl rfl ?_
        replace e := ck_as_e e
        obtain ⟨hk_3, e⟩ := e
        replace e := ck_bd_e e
        obtain ⟨r4, h5, e6, e⟩ := e
        refine go_callV (As := [.int v4]) (b0 := a0) (rest := []) rfl rfl ⟨hk_3, by decide⟩ rfl ⟨Nat.le_of_ble_eq_true rfl, Nat.le_of_ble_eq_true rfl, Nat.le_of_ble_eq_true rfl, Nat.le_of_ble_eq_true rfl⟩ (s_RM_freeFrom e6) ?_
        show Go k_RM_finds 27 [some (.ref a0), none, some (.int v2), some (.int v3), some (.int v4), none] [.int r4] h5 _
        refine go_istore rfl rfl ?_
        show Go k_RM_finds 29 [some (.ref a0), none, some (.int v2), some (.int v3), some (.int v4), some (.int r4)] [] h5 _
        refine go_iload rfl rfl ?_
        refine go_if_le (t := 92) rfl rfl (fun hx_7 => ?_) (fun hx_7 => ?_)
        · rw [if_pos hx_7] at e
          refine go_aload_n rfl rfl ?_
          replace e := ck_as_e e
          obtain ⟨hk_8, e⟩ := e
          refine go_get (v := .int (gI h5 a0 48)) rfl rfl hk_8 (by decide) rfl ?_
          refine go_iload_n rfl rfl ?_
          refine go_icmp_ne (t := 44) rfl rfl (fun hx_9 => ?_) (fun hx_9 => ?_)
          · rw [if_pos hx_9] at e
            refine go_iconst (v := 0) rfl (by decide) ?_
            cases e
            exact go_ret rfl (ck_rvb rfl (Or.inl rfl))
          · rw [if_neg hx_9] at e
            refine go_aload_n rfl rfl ?_
            replace e := ck_some_e e
            obtain ⟨b10, hq_11, e⟩ := e
            refine go_get (v := .ref b10) rfl rfl hk_8 (by decide) (by show va_rf (gR h5 a0 46) = _; rw [hq_11]; rfl) ?_
            refine go_aload_n rfl rfl ?_
            refine go_get (v := .int (gI h5 a0 48)) rfl rfl hk_8 (by decide) rfl ?_
            refine go_iload rfl rfl ?_
            replace e := ck_as_e e
            obtain ⟨hc_12, e⟩ := e
            refine go_iast rfl hc_12 ?_
            have hk_14 : gk (wI h5 b10 (gI h5 a0 48 : Int32).toNatClampNeg v4) a0 = 12 := ck_kI.trans hk_8
            generalize wI h5 b10 (gI h5 a0 48 : Int32).toNatClampNeg v4 = h13 at e hk_14 ⊢
            replace e := ck_then_e e
            refine go_aload_n rfl rfl ?_
            replace e := ck_some_e e
            obtain ⟨b15, hq_16, e⟩ := e
            refine go_get (v := .ref b15) rfl rfl hk_14 (by decide) (by show va_rf (gR h13 a0 47) = _; rw [hq_16]; rfl) ?_
            refine go_aload_n rfl rfl ?_
            refine go_get (v := .int (gI h13 a0 48)) rfl rfl hk_14 (by decide) rfl ?_
            refine go_iload rfl rfl ?_
            refine go_iload_n rfl rfl ?_
            replace e := ck_bd_e e
            obtain ⟨r17, h18, e19, e⟩ := e
            refine go_callS (As := [.int r4, .int v3]) (rest := [.int (gI h13 a0 48), .ref b15]) rfl rfl rfl ⟨Nat.le_of_ble_eq_true rfl, Nat.le_of_ble_eq_true rfl, Nat.le_of_ble_eq_true rfl, Nat.le_of_ble_eq_true rfl⟩ (s_Ma_min e19) ?_
            show Go k_RM_finds 69 [some (.ref a0), none, some (.int v2), some (.int v3), some (.int v4), some (.int r4)] [.int r17, .int (gI h13 a0 48), .ref b15] h18 _
            replace e := ck_as_e e
            obtain ⟨hc_20, e⟩ := e
            refine go_iast rfl hc_20 ?_
            generalize wI h18 b15 (gI h13 a0 48 : Int32).toNatClampNeg r17 = h21 at e  ⊢
            replace e := ck_then_e e
            refine go_iload_n rfl rfl ?_
            refine go_aload_n rfl rfl ?_
            replace e := ck_as_e e
            obtain ⟨hk_22, e⟩ := e
            replace e := ck_some_e e
            obtain ⟨b23, hq_24, e⟩ := e
            refine go_get (v := .ref b23) rfl rfl hk_22 (by decide) (by show va_rf (gR h21 a0 47) = _; rw [hq_24]; rfl) ?_
            refine go_aload_n rfl rfl ?_
            refine go_get (v := .int (gI h21 a0 48)) rfl rfl hk_22 (by decide) rfl ?_
            replace e := ck_as_e e
            obtain ⟨hc_25, e⟩ := e
            refine go_iald rfl hc_25 ?_
            refine go_isub rfl ?_
            generalize v3 - (gI h21 b23 (gI h21 a0 48 : Int32).toNatClampNeg) = x26 at e ⊢
            replace e := ck_then_e e
            refine go_istore_n rfl rfl ?_
            show Go k_RM_finds 82 [some (.ref a0), none, some (.int v2), some (.int x26), some (.int v4), some (.int r4)] [] h21 _
            refine go_aload_n rfl rfl ?_
            refine go_dup rfl rfl ?_
            refine go_get (v := .int (gI h21 a0 48)) rfl rfl hk_22 (by decide) rfl ?_
            refine go_iconst (v := 1) rfl (by decide) ?_
            refine go_iadd rfl ?_
            refine go_put (h1 := wI h21 a0 48 ((gI h21 a0 48) + 1)) rfl rfl hk_22 ⟨by decide, by decide, Or.inl rfl⟩ rfl ?_
            have hk_28 : gk (wI h21 a0 48 ((gI h21 a0 48) + 1)) a0 = 12 := ck_kI.trans hk_22
            generalize wI h21 a0 48 ((gI h21 a0 48) + 1) = h27 at e hk_28 ⊢
            replace e := ck_then_e e
            refine go_iload rfl rfl ?_
            refine go_iload rfl rfl ?_
            refine go_iconst (v := 1) rfl (by decide) ?_
            refine go_iadd rfl ?_
            refine go_iadd rfl ?_
            generalize v4 + (r4 + 1) = x29 at e ⊢
            replace e := ck_then_e e
            refine go_istore rfl rfl ?_
            show Go k_RM_finds 101 [some (.ref a0), none, some (.int v2), some (.int x26), some (.int x29), some (.int r4)] [] h27 _
            refine go_goto (t := 10) rfl rfl ?_
            refine go_forget (l := [some (.ref a0), none, some (.int v2), some (.int x26), some (.int x29), none]) ⟨Or.inl rfl, Or.inl rfl, Or.inl rfl, Or.inl rfl, Or.inl rfl, Or.inr ⟨rfl, fun _ q => by cases q; rfl⟩, trivial⟩ ?_
            exact ih _ _ _ _ _ _ _ e
        · rw [if_neg hx_7] at e
          refine go_iload rfl rfl ?_
          refine go_iload rfl rfl ?_
          refine go_iconst (v := 1) rfl (by decide) ?_
          refine go_iadd rfl ?_
          refine go_iadd rfl ?_
          generalize v4 + (r4 + 1) = x30 at e ⊢
          replace e := ck_then_e e
          refine go_istore rfl rfl ?_
          show Go k_RM_finds 101 [some (.ref a0), none, some (.int v2), some (.int v3), some (.int x30), some (.int r4)] [] h5 _
          refine go_goto (t := 10) rfl rfl ?_
          refine go_forget (l := [some (.ref a0), none, some (.int v2), some (.int v3), some (.int x30), none]) ⟨Or.inl rfl, Or.inl rfl, Or.inl rfl, Or.inl rfl, Or.inl rfl, Or.inr ⟨rfl, fun _ q => by cases q; rfl⟩, trivial⟩ ?_
          exact ih _ _ _ _ _ _ _ e
      · rw [if_neg hx_2] at e
        refine go_iload_n rfl rfl ?_
        refine go_if_ne (t := 112) rfl rfl (fun hx_31 => ?_) (fun hx_31 => ?_)
        · rw [if_pos hx_31] at e
          refine go_iconst (v := 1) rfl (by decide) ?_
          refine go_goto (t := 113) rfl rfl ?_
          cases e
          exact go_ret rfl (ck_rvb rfl (Or.inr rfl))
        · rw [if_neg hx_31] at e
          refine go_iconst (v := 0) rfl (by decide) ?_
          cases e
          exact go_ret rfl (ck_rvb rfl (Or.inl rfl))
    · rw [if_neg hx_1] at e
      refine go_iload_n rfl rfl ?_
      refine go_if_ne (t := 112) rfl rfl (fun hx_32 => ?_) (fun hx_32 => ?_)
      · rw [if_pos hx_32] at e
        refine go_iconst (v := 1) rfl (by decide) ?_
        refine go_goto (t := 113) rfl rfl ?_
        cases e
        exact go_ret rfl (ck_rvb rfl (Or.inr rfl))
      · rw [if_neg hx_32] at e
        refine go_iconst (v := 0) rfl (by decide) ?_
        cases e
        exact go_ret rfl (ck_rvb rfl (Or.inl rfl))
def f_RM_finds (F : Nat) (a0 : Nat) (v1 : Int32) (v2 : Int32) (h : ck_H) : Option (Int32 × ck_H) :=
  ck_as (gk h a0 = 12) <|
  ck_then (wI h a0 48 0) fun h2 =>
  f_RM_finds_L10 F F a0 v2 v1 1 h2
set_option maxRecDepth 100000 in
set_option maxHeartbeats 4000000 in
theorem s_RM_finds {F : Nat} {a0 : Nat} {v1 : Int32} {v2 : Int32} {h h' : ck_H} {r : Int32} (e : f_RM_finds F a0 v1 v2 h = some (r, h')) : Go k_RM_finds 0 (ck_in [.ref a0, .int v1, .int v2] 6) [] h (some (.int r), h') := by
  unfold f_RM_finds at e
  show Go k_RM_finds 0 [some (.ref a0), some (.int v1), some (.int v2), none, none, none] [] h _
  refine go_aload_n rfl rfl ?_
  refine go_iconst (v := 0) rfl (by decide) ?_
  replace e := ck_as_e e
  obtain ⟨hk_1, e⟩ := e
  refine go_put (h1 := wI h a0 48 0) rfl rfl hk_1 ⟨by decide, by decide, Or.inl rfl⟩ rfl ?_
  have hk_3 : gk (wI h a0 48 0) a0 = 12 := ck_kI.trans hk_1
  generalize wI h a0 48 0 = h2 at e hk_3 ⊢
  replace e := ck_then_e e
  refine go_iload_n rfl rfl ?_
  refine go_istore_n rfl rfl ?_
  show Go k_RM_finds 7 [some (.ref a0), some (.int v1), some (.int v2), some (.int v1), none, none] [] h2 _
  refine go_iconst (v := 1) rfl (by decide) ?_
  refine go_istore rfl rfl ?_
  show Go k_RM_finds 10 [some (.ref a0), some (.int v1), some (.int v2), some (.int v1), some (.int 1), none] [] h2 _
  refine go_forget (l := [some (.ref a0), none, some (.int v2), some (.int v1), some (.int 1), none]) ⟨Or.inl rfl, Or.inr ⟨rfl, fun _ q => by cases q; rfl⟩, Or.inl rfl, Or.inl rfl, Or.inl rfl, Or.inl rfl, trivial⟩ ?_
  exact f_RM_finds_L10_s F F _ _ _ _ _ _ _ e
def f_RM_clearRuns_L17 (F : Nat) (k2 : Nat → Int32 → ck_H → Option (Unit × ck_H)) : Nat → Nat → Int32 → Int32 → ck_H → Option (Unit × ck_H)
  | 0, _, _, _, _ => none
  | n + 1, a0, v1, v2, h =>
    ck_as (gk h a0 = 12) <|
    ck_some (gR h a0 46) fun b2 =>
    ck_as ((gk h b2 = 14 ∨ gk h b2 = 21) ∧ ¬ v1 < 0 ∧ (v1 : Int32).toNatClampNeg < gz h b2) <|
    ck_some (gR h a0 47) fun b5 =>
    ck_as ((gk h b5 = 14 ∨ gk h b5 = 21) ∧ ¬ v1 < 0 ∧ (v1 : Int32).toNatClampNeg < gz h b5) <|
    if v2 < ((gI h b2 (v1 : Int32).toNatClampNeg) + (gI h b5 (v1 : Int32).toNatClampNeg)) then
      ck_some (gR h a0 1) fun b9 =>
      ck_as (gk h b9 = 14 ∧ ¬ v2 < 0 ∧ (v2 : Int32).toNatClampNeg < gz h b9) <|
      ck_then (wI h b9 (v2 : Int32).toNatClampNeg 0) fun h12 =>
      f_RM_clearRuns_L17 F k2 n a0 v1 (v2 + 1) h12
    else
      k2 a0 (v1 + 1) h
set_option maxRecDepth 100000 in
set_option maxHeartbeats 4000000 in
theorem f_RM_clearRuns_L17_s (F : Nat) (k2 : Nat → Int32 → ck_H → Option (Unit × ck_H)) (hk2 : ∀ (a0 : Nat) (v1 : Int32) (h : ck_H) (r : Unit) (h' : ck_H), k2 a0 v1 h = some (r, h') → Go k_RM_clearRuns 2 [some (.ref a0), some (.int v1), none] [] h (none, h')) : ∀ (n : Nat) (a0 : Nat) (v1 : Int32) (v2 : Int32) (h : ck_H) (r : Unit) (h' : ck_H), f_RM_clearRuns_L17 F k2 n a0 v1 v2 h = some (r, h') → Go k_RM_clearRuns 17 [some (.ref a0), some (.int v1), some (.int v2)] [] h (none, h') := by
  intro n
  induction n with
  | zero => intro a0 v1 v2 h r h' e; simp only [f_RM_clearRuns_L17] at e; cases e
  | succ n ih =>
    intro a0 v1 v2 h r h' e
    rw [f_RM_clearRuns_L17] at e
    refine go_iload_n rfl rfl ?_
    refine go_aload_n rfl rfl ?_
    replace e := ck_as_e e
    obtain ⟨hk_1, e⟩ := e
    replace e := ck_some_e e
    obtain ⟨b2, hq_3, e⟩ := e
    refine go_get (v := .ref b2) rfl rfl hk_1 (by decide) (by show va_rf (gR h a0 46) = _; rw [hq_3]; rfl) ?_
    refine go_iload_n rfl rfl ?_
    replace e := ck_as_e e
    obtain ⟨hc_4, e⟩ := e
    refine go_iald rfl hc_4 ?_
    refine go_aload_n rfl rfl ?_
    replace e := ck_some_e e
    obtain ⟨b5, hq_6, e⟩ := e
    refine go_get (v := .ref b5) rfl rfl hk_1 (by decide) (by show va_rf (gR h a0 47) = _; rw [hq_6]; rfl) ?_
    refine go_iload_n rfl rfl ?_
    replace e := ck_as_e e
    obtain ⟨hc_7, e⟩ := e
    refine go_iald rfl hc_7 ?_
    refine go_iadd rfl ?_
    refine go_icmp_ge (t := 47) rfl rfl (fun hx_8 => ?_) (fun hx_8 => ?_)
    · rw [if_pos hx_8] at e
      refine go_aload_n rfl rfl ?_
      replace e := ck_some_e e
      obtain ⟨b9, hq_10, e⟩ := e
      refine go_get (v := .ref b9) rfl rfl hk_1 (by decide) (by show va_rf (gR h a0 1) = _; rw [hq_10]; rfl) ?_
      refine go_iload_n rfl rfl ?_
      refine go_iconst (v := 0) rfl (by decide) ?_
      replace e := ck_as_e e
      obtain ⟨hc_11, e⟩ := e
      refine go_iast rfl hc_11 ?_
      have hk_13 : gk (wI h b9 (v2 : Int32).toNatClampNeg 0) a0 = 12 := ck_kI.trans hk_1
      generalize wI h b9 (v2 : Int32).toNatClampNeg 0 = h12 at e hk_13 ⊢
      replace e := ck_then_e e
      refine go_iinc (v := 1) rfl rfl (by decide) rfl ?_
      show Go k_RM_clearRuns 44 [some (.ref a0), some (.int v1), some (.int (v2 + 1))] [] h12 _
      refine go_goto (t := 17) rfl rfl ?_
      refine go_forget (l := [some (.ref a0), some (.int v1), some (.int (v2 + 1))]) ⟨Or.inl rfl, Or.inl rfl, Or.inl rfl, trivial⟩ ?_
      exact ih _ _ _ _ _ _ e
    · rw [if_neg hx_8] at e
      refine go_iinc (v := 1) rfl rfl (by decide) rfl ?_
      show Go k_RM_clearRuns 50 [some (.ref a0), some (.int (v1 + 1)), some (.int v2)] [] h _
      refine go_goto (t := 2) rfl rfl ?_
      refine go_forget (l := [some (.ref a0), some (.int (v1 + 1)), none]) ⟨Or.inl rfl, Or.inl rfl, Or.inr ⟨rfl, fun _ q => by cases q; rfl⟩, trivial⟩ ?_
      exact hk2 _ _ _ _ _ e
def f_RM_clearRuns_L2 (F : Nat)  : Nat → Nat → Int32 → ck_H → Option (Unit × ck_H)
  | 0, _, _, _ => none
  | n + 1, a0, v1, h =>
    ck_as (gk h a0 = 12) <|
    if v1 < (gI h a0 48) then
      ck_some (gR h a0 46) fun b3 =>
      ck_as ((gk h b3 = 14 ∨ gk h b3 = 21) ∧ ¬ v1 < 0 ∧ (v1 : Int32).toNatClampNeg < gz h b3) <|
      ck_then (gI h b3 (v1 : Int32).toNatClampNeg) fun x6 =>
      f_RM_clearRuns_L17 F (f_RM_clearRuns_L2 F n) F a0 v1 x6 h
    else
      some ((), h)
set_option maxRecDepth 100000 in
set_option maxHeartbeats 4000000 in
theorem f_RM_clearRuns_L2_s (F : Nat)   : ∀ (n : Nat) (a0 : Nat) (v1 : Int32) (h : ck_H) (r : Unit) (h' : ck_H), f_RM_clearRuns_L2 F n a0 v1 h = some (r, h') → Go k_RM_clearRuns 2 [some (.ref a0), some (.int v1), none] [] h (none, h') := by
  intro n
  induction n with
  | zero => intro a0 v1 h r h' e; simp only [f_RM_clearRuns_L2] at e; cases e
  | succ n ih =>
    intro a0 v1 h r h' e
    rw [f_RM_clearRuns_L2] at e
    refine go_iload_n rfl rfl ?_
    refine go_aload_n rfl rfl ?_
    replace e := ck_as_e e
    obtain ⟨hk_1, e⟩ := e
    refine go_get (v := .int (gI h a0 48)) rfl rfl hk_1 (by decide) rfl ?_
    refine go_icmp_ge (t := 53) rfl rfl (fun hx_2 => ?_) (fun hx_2 => ?_)
    · rw [if_pos hx_2] at e
      refine go_aload_n rfl rfl ?_
      replace e := ck_some_e e
      obtain ⟨b3, hq_4, e⟩ := e
      refine go_get (v := .ref b3) rfl rfl hk_1 (by decide) (by show va_rf (gR h a0 46) = _; rw [hq_4]; rfl) ?_
      refine go_iload_n rfl rfl ?_
      replace e := ck_as_e e
      obtain ⟨hc_5, e⟩ := e
      refine go_iald rfl hc_5 ?_
      generalize gI h b3 (v1 : Int32).toNatClampNeg = x6 at e ⊢
      replace e := ck_then_e e
      refine go_istore_n rfl rfl ?_
      show Go k_RM_clearRuns 17 [some (.ref a0), some (.int v1), some (.int x6)] [] h _
      refine go_forget (l := [some (.ref a0), some (.int v1), some (.int x6)]) ⟨Or.inl rfl, Or.inl rfl, Or.inl rfl, trivial⟩ ?_
      exact f_RM_clearRuns_L17_s F (f_RM_clearRuns_L2 F n) ih F _ _ _ _ _ _ e
    · rw [if_neg hx_2] at e
      cases e
      exact go_ret rfl rfl
def f_RM_clearRuns (F : Nat) (a0 : Nat) (h : ck_H) : Option (Unit × ck_H) :=
  f_RM_clearRuns_L2 F F a0 0 h
set_option maxRecDepth 100000 in
set_option maxHeartbeats 4000000 in
theorem s_RM_clearRuns {F : Nat} {a0 : Nat} {h h' : ck_H} {r : Unit} (e : f_RM_clearRuns F a0 h = some (r, h')) : Go k_RM_clearRuns 0 (ck_in [.ref a0] 3) [] h (none, h') := by
  unfold f_RM_clearRuns at e
  show Go k_RM_clearRuns 0 [some (.ref a0), none, none] [] h _
  refine go_iconst (v := 0) rfl (by decide) ?_
  refine go_istore_n rfl rfl ?_
  show Go k_RM_clearRuns 2 [some (.ref a0), some (.int 0), none] [] h _
  refine go_forget (l := [some (.ref a0), some (.int 0), none]) ⟨Or.inl rfl, Or.inl rfl, Or.inl rfl, trivial⟩ ?_
  exact f_RM_clearRuns_L2_s F F _ _ _ _ _ e
def f_RM_putTwo (F : Nat) (a0 : Nat) (v1 : Int32) (v2 : Int32) (h : ck_H) : Option (Unit × ck_H) :=
  ck_as (gk h a0 = 13 ∧ ¬ v1 < 0 ∧ (v1 : Int32).toNatClampNeg < gz h a0) <|
  ck_then (wI h a0 (v1 : Int32).toNatClampNeg ((v2 >>> (8 &&& 31) : Int32).toInt8.toInt32 : Int32).toInt8.toInt32) fun h2 =>
  ck_as (gk h2 a0 = 13 ∧ ¬ (v1 + 1) < 0 ∧ (v1 + 1 : Int32).toNatClampNeg < gz h2 a0) <|
  ck_then (wI h2 a0 (v1 + 1 : Int32).toNatClampNeg ((v2 : Int32).toInt8.toInt32 : Int32).toInt8.toInt32) fun h4 =>
  some ((), h4)
set_option maxRecDepth 100000 in
set_option maxHeartbeats 4000000 in
theorem s_RM_putTwo {F : Nat} {a0 : Nat} {v1 : Int32} {v2 : Int32} {h h' : ck_H} {r : Unit} (e : f_RM_putTwo F a0 v1 v2 h = some (r, h')) : Go k_RM_putTwo 0 (ck_in [.ref a0, .int v1, .int v2] 3) [] h (none, h') := by
  unfold f_RM_putTwo at e
  show Go k_RM_putTwo 0 [some (.ref a0), some (.int v1), some (.int v2)] [] h _
  refine go_aload_n rfl rfl ?_
  refine go_iload_n rfl rfl ?_
  refine go_iload_n rfl rfl ?_
  refine go_bipush (v := 8) rfl (by decide) ?_
  refine go_ishr rfl ?_
  refine go_i2b rfl ?_
  replace e := ck_as_e e
  obtain ⟨hc_1, e⟩ := e
  refine go_bast rfl hc_1 ?_
  generalize wI h a0 (v1 : Int32).toNatClampNeg ((v2 >>> (8 &&& 31) : Int32).toInt8.toInt32 : Int32).toInt8.toInt32 = h2 at e  ⊢
  replace e := ck_then_e e
  refine go_aload_n rfl rfl ?_
  refine go_iload_n rfl rfl ?_
  refine go_iconst (v := 1) rfl (by decide) ?_
  refine go_iadd rfl ?_
  refine go_iload_n rfl rfl ?_
  refine go_i2b rfl ?_
  replace e := ck_as_e e
  obtain ⟨hc_3, e⟩ := e
  refine go_bast rfl hc_3 ?_
  generalize wI h2 a0 (v1 + 1 : Int32).toNatClampNeg ((v2 : Int32).toInt8.toInt32 : Int32).toInt8.toInt32 = h4 at e  ⊢
  replace e := ck_then_e e
  cases e
  exact go_ret rfl rfl
def f_RM_writeTable_L159 (F : Nat) (k9 : Nat → Int32 → ck_H → Option (Unit × ck_H)) : Nat → Nat → Int32 → Int32 → Int32 → ck_H → Option (Unit × ck_H)
  | 0, _, _, _, _, _ => none
  | n + 1, a0, v1, v3, v4, h =>
    ck_as (gk h a0 = 12) <|
    ck_some (gR h a0 38) fun b2 =>
    ck_as ((gk h b2 = 14 ∨ gk h b2 = 21) ∧ ¬ v1 < 0 ∧ (v1 : Int32).toNatClampNeg < gz h b2) <|
    if v4 < (gI h b2 (v1 : Int32).toNatClampNeg) then
      ck_some (gR h a0 0) fun b6 =>
      ck_some (gR h a0 39) fun b8 =>
      ck_as ((gk h b8 = 14 ∨ gk h b8 = 21) ∧ ¬ ((4 * v1) + v4) < 0 ∧ ((4 * v1) + v4 : Int32).toNatClampNeg < gz h b8) <|
      ck_as (gk h b6 = 13 ∧ ¬ ((v3 + 6) + (2 * v4)) < 0 ∧ ((v3 + 6) + (2 * v4) : Int32).toNatClampNeg < gz h b6) <|
      ck_then (wI h b6 ((v3 + 6) + (2 * v4) : Int32).toNatClampNeg ((gI h b8 ((4 * v1) + v4 : Int32).toNatClampNeg : Int32).toInt8.toInt32 : Int32).toInt8.toInt32) fun h12 =>
      ck_some (gR h12 a0 0) fun b14 =>
      ck_some (gR h12 a0 40) fun b16 =>
      ck_as ((gk h12 b16 = 14 ∨ gk h12 b16 = 21) ∧ ¬ ((4 * v1) + v4) < 0 ∧ ((4 * v1) + v4 : Int32).toNatClampNeg < gz h12 b16) <|
      ck_as (gk h12 b14 = 13 ∧ ¬ ((v3 + 7) + (2 * v4)) < 0 ∧ ((v3 + 7) + (2 * v4) : Int32).toNatClampNeg < gz h12 b14) <|
      ck_then (wI h12 b14 ((v3 + 7) + (2 * v4) : Int32).toNatClampNeg ((gI h12 b16 ((4 * v1) + v4 : Int32).toNatClampNeg : Int32).toInt8.toInt32 : Int32).toInt8.toInt32) fun h20 =>
      f_RM_writeTable_L159 F k9 n a0 v1 v3 (v4 + 1) h20
    else
      k9 a0 (v1 + 1) h
set_option maxRecDepth 100000 in
set_option maxHeartbeats 4000000 in
theorem f_RM_writeTable_L159_s (F : Nat) (k9 : Nat → Int32 → ck_H → Option (Unit × ck_H)) (hk9 : ∀ (a0 : Nat) (v1 : Int32) (h : ck_H) (r : Unit) (h' : ck_H), k9 a0 v1 h = some (r, h') → Go k_RM_writeTable 9 [some (.ref a0), some (.int v1), none, none, none] [] h (none, h')) : ∀ (n : Nat) (a0 : Nat) (v1 : Int32) (v3 : Int32) (v4 : Int32) (h : ck_H) (r : Unit) (h' : ck_H), f_RM_writeTable_L159 F k9 n a0 v1 v3 v4 h = some (r, h') → Go k_RM_writeTable 159 [some (.ref a0), some (.int v1), none, some (.int v3), some (.int v4)] [] h (none, h') := by
  intro n
  induction n with
  | zero => intro a0 v1 v3 v4 h r h' e; simp only [f_RM_writeTable_L159] at e; cases e
  | succ n ih =>
    intro a0 v1 v3 v4 h r h' e
    rw [f_RM_writeTable_L159] at e
    refine go_iload rfl rfl ?_
    refine go_aload_n rfl rfl ?_
    replace e := ck_as_e e
    obtain ⟨hk_1, e⟩ := e
    replace e := ck_some_e e
    obtain ⟨b2, hq_3, e⟩ := e
    refine go_get (v := .ref b2) rfl rfl hk_1 (by decide) (by show va_rf (gR h a0 38) = _; rw [hq_3]; rfl) ?_
    refine go_iload_n rfl rfl ?_
    replace e := ck_as_e e
    obtain ⟨hc_4, e⟩ := e
    refine go_iald rfl hc_4 ?_
    refine go_icmp_ge (t := 228) rfl rfl (fun hx_5 => ?_) (fun hx_5 => ?_)
    · rw [if_pos hx_5] at e
      refine go_aload_n rfl rfl ?_
      replace e := ck_some_e e
      obtain ⟨b6, hq_7, e⟩ := e
      refine go_get (v := .ref b6) rfl rfl hk_1 (by decide) (by show va_rf (gR h a0 0) = _; rw [hq_7]; rfl) ?_
      refine go_iload_n rfl rfl ?_
      refine go_bipush (v := 6) rfl (by decide) ?_
      refine go_iadd rfl ?_
      refine go_iconst (v := 2) rfl (by decide) ?_
      refine go_iload rfl rfl ?_
      refine go_imul rfl ?_
      refine go_iadd rfl ?_
      refine go_aload_n rfl rfl ?_
      replace e := ck_some_e e
      obtain ⟨b8, hq_9, e⟩ := e
      refine go_get (v := .ref b8) rfl rfl hk_1 (by decide) (by show va_rf (gR h a0 39) = _; rw [hq_9]; rfl) ?_
      refine go_iconst (v := 4) rfl (by decide) ?_
      refine go_iload_n rfl rfl ?_
      refine go_imul rfl ?_
      refine go_iload rfl rfl ?_
      refine go_iadd rfl ?_
      replace e := ck_as_e e
      obtain ⟨hc_10, e⟩ := e
      refine go_iald rfl hc_10 ?_
      refine go_i2b rfl ?_
      replace e := ck_as_e e
      obtain ⟨hc_11, e⟩ := e
      refine go_bast rfl hc_11 ?_
      have hk_13 : gk (wI h b6 ((v3 + 6) + (2 * v4) : Int32).toNatClampNeg ((gI h b8 ((4 * v1) + v4 : Int32).toNatClampNeg : Int32).toInt8.toInt32 : Int32).toInt8.toInt32) a0 = 12 := ck_kI.trans hk_1
      generalize wI h b6 ((v3 + 6) + (2 * v4) : Int32).toNatClampNeg ((gI h b8 ((4 * v1) + v4 : Int32).toNatClampNeg : Int32).toInt8.toInt32 : Int32).toInt8.toInt32 = h12 at e hk_13 ⊢
      replace e := ck_then_e e
      refine go_aload_n rfl rfl ?_
      replace e := ck_some_e e
      obtain ⟨b14, hq_15, e⟩ := e
      refine go_get (v := .ref b14) rfl rfl hk_13 (by decide) (by show va_rf (gR h12 a0 0) = _; rw [hq_15]; rfl) ?_
      refine go_iload_n rfl rfl ?_
      refine go_bipush (v := 7) rfl (by decide) ?_
      refine go_iadd rfl ?_
      refine go_iconst (v := 2) rfl (by decide) ?_
      refine go_iload rfl rfl ?_
      refine go_imul rfl ?_
      refine go_iadd rfl ?_
      refine go_aload_n rfl rfl ?_
      replace e := ck_some_e e
      obtain ⟨b16, hq_17, e⟩ := e
      refine go_get (v := .ref b16) rfl rfl hk_13 (by decide) (by show va_rf (gR h12 a0 40) = _; rw [hq_17]; rfl) ?_
      refine go_iconst (v := 4) rfl (by decide) ?_
      refine go_iload_n rfl rfl ?_
      refine go_imul rfl ?_
      refine go_iload rfl rfl ?_
      refine go_iadd rfl ?_
      replace e := ck_as_e e
      obtain ⟨hc_18, e⟩ := e
      refine go_iald rfl hc_18 ?_
      refine go_i2b rfl ?_
      replace e := ck_as_e e
      obtain ⟨hc_19, e⟩ := e
      refine go_bast rfl hc_19 ?_
      have hk_21 : gk (wI h12 b14 ((v3 + 7) + (2 * v4) : Int32).toNatClampNeg ((gI h12 b16 ((4 * v1) + v4 : Int32).toNatClampNeg : Int32).toInt8.toInt32 : Int32).toInt8.toInt32) a0 = 12 := ck_kI.trans hk_13
      generalize wI h12 b14 ((v3 + 7) + (2 * v4) : Int32).toNatClampNeg ((gI h12 b16 ((4 * v1) + v4 : Int32).toNatClampNeg : Int32).toInt8.toInt32 : Int32).toInt8.toInt32 = h20 at e hk_21 ⊢
      replace e := ck_then_e e
      refine go_iinc (v := 1) rfl rfl (by decide) rfl ?_
      show Go k_RM_writeTable 225 [some (.ref a0), some (.int v1), none, some (.int v3), some (.int (v4 + 1))] [] h20 _
      refine go_goto (t := 159) rfl rfl ?_
      refine go_forget (l := [some (.ref a0), some (.int v1), none, some (.int v3), some (.int (v4 + 1))]) ⟨Or.inl rfl, Or.inl rfl, Or.inl rfl, Or.inl rfl, Or.inl rfl, trivial⟩ ?_
      exact ih _ _ _ _ _ _ _ e
    · rw [if_neg hx_5] at e
      refine go_iinc (v := 1) rfl rfl (by decide) rfl ?_
      show Go k_RM_writeTable 231 [some (.ref a0), some (.int (v1 + 1)), none, some (.int v3), some (.int v4)] [] h _
      refine go_goto (t := 9) rfl rfl ?_
      refine go_forget (l := [some (.ref a0), some (.int (v1 + 1)), none, none, none]) ⟨Or.inl rfl, Or.inl rfl, Or.inl rfl, Or.inr ⟨rfl, fun _ q => by cases q; rfl⟩, Or.inr ⟨rfl, fun _ q => by cases q; rfl⟩, trivial⟩ ?_
      exact hk9 _ _ _ _ _ e
def f_RM_writeTable_L53 (F : Nat) (k9 : Nat → Int32 → ck_H → Option (Unit × ck_H)) : Nat → Nat → Int32 → Int32 → Int32 → ck_H → Option (Unit × ck_H)
  | 0, _, _, _, _, _ => none
  | n + 1, a0, v1, v2, v3, h =>
    if v3 < (8 : Int32) then
      ck_as (gk h a0 = 12) <|
      ck_some (gR h a0 0) fun b3 =>
      ck_bd (f_RM_keyAt F a0 0 v2 h) fun r5 h6 =>
      ck_as (gk h6 a0 = 12) <|
      ck_some (gR h6 a0 33) fun b9 =>
      ck_as ((gk h6 b9 = 13 ∨ gk h6 b9 = 15) ∧ ¬ ((8 * v1) + v3) < 0 ∧ ((8 * v1) + v3 : Int32).toNatClampNeg < gz h6 b9) <|
      ck_as (gk h6 b3 = 15 ∧ ((gI h6 b9 ((8 * v1) + v3 : Int32).toNatClampNeg) = 0 ∨ (gI h6 b9 ((8 * v1) + v3 : Int32).toNatClampNeg) = 1) ∧ ¬ (r5 + v3) < 0 ∧ (r5 + v3 : Int32).toNatClampNeg < gz h6 b3) <|
      ck_then (wI h6 b3 (r5 + v3 : Int32).toNatClampNeg (gI h6 b9 ((8 * v1) + v3 : Int32).toNatClampNeg)) fun h13 =>
      f_RM_writeTable_L53 F k9 n a0 v1 v2 (v3 + 1) h13
    else
      ck_as (gk h a0 = 12) <|
      ck_bd (f_RM_dataAt F a0 0 v2 h) fun r16 h17 =>
      ck_as (gk h17 a0 = 12) <|
      ck_some (gR h17 a0 0) fun b20 =>
      ck_some (gR h17 a0 35) fun b22 =>
      ck_as ((gk h17 b22 = 14 ∨ gk h17 b22 = 21) ∧ ¬ v1 < 0 ∧ (v1 : Int32).toNatClampNeg < gz h17 b22) <|
      ck_as (gk h17 b20 = 13 ∧ ¬ r16 < 0 ∧ (r16 : Int32).toNatClampNeg < gz h17 b20) <|
      ck_then (wI h17 b20 (r16 : Int32).toNatClampNeg ((gI h17 b22 (v1 : Int32).toNatClampNeg : Int32).toInt8.toInt32 : Int32).toInt8.toInt32) fun h26 =>
      ck_some (gR h26 a0 0) fun b28 =>
      ck_some (gR h26 a0 36) fun b30 =>
      ck_as ((gk h26 b30 = 14 ∨ gk h26 b30 = 21) ∧ ¬ v1 < 0 ∧ (v1 : Int32).toNatClampNeg < gz h26 b30) <|
      ck_bd (f_RM_putTwo F b28 (r16 + 1) (gI h26 b30 (v1 : Int32).toNatClampNeg) h26) fun _ h34 =>
      ck_as (gk h34 a0 = 12) <|
      ck_some (gR h34 a0 0) fun b37 =>
      ck_some (gR h34 a0 37) fun b39 =>
      ck_as ((gk h34 b39 = 14 ∨ gk h34 b39 = 21) ∧ ¬ v1 < 0 ∧ (v1 : Int32).toNatClampNeg < gz h34 b39) <|
      ck_bd (f_RM_putTwo F b37 (r16 + 3) (gI h34 b39 (v1 : Int32).toNatClampNeg) h34) fun _ h43 =>
      ck_as (gk h43 a0 = 12) <|
      ck_some (gR h43 a0 0) fun b46 =>
      ck_some (gR h43 a0 38) fun b48 =>
      ck_as ((gk h43 b48 = 14 ∨ gk h43 b48 = 21) ∧ ¬ v1 < 0 ∧ (v1 : Int32).toNatClampNeg < gz h43 b48) <|
      ck_as (gk h43 b46 = 13 ∧ ¬ (r16 + 5) < 0 ∧ (r16 + 5 : Int32).toNatClampNeg < gz h43 b46) <|
      ck_then (wI h43 b46 (r16 + 5 : Int32).toNatClampNeg ((gI h43 b48 (v1 : Int32).toNatClampNeg : Int32).toInt8.toInt32 : Int32).toInt8.toInt32) fun h52 =>
      f_RM_writeTable_L159 F k9 F a0 v1 r16 0 h52
set_option maxRecDepth 100000 in
set_option maxHeartbeats 4000000 in
theorem f_RM_writeTable_L53_s (F : Nat) (k9 : Nat → Int32 → ck_H → Option (Unit × ck_H)) (hk9 : ∀ (a0 : Nat) (v1 : Int32) (h : ck_H) (r : Unit) (h' : ck_H), k9 a0 v1 h = some (r, h') → Go k_RM_writeTable 9 [some (.ref a0), some (.int v1), none, none, none] [] h (none, h')) : ∀ (n : Nat) (a0 : Nat) (v1 : Int32) (v2 : Int32) (v3 : Int32) (h : ck_H) (r : Unit) (h' : ck_H), f_RM_writeTable_L53 F k9 n a0 v1 v2 v3 h = some (r, h') → Go k_RM_writeTable 53 [some (.ref a0), some (.int v1), some (.int v2), some (.int v3), none] [] h (none, h') := by
  intro n
  induction n with
  | zero => intro a0 v1 v2 v3 h r h' e; simp only [f_RM_writeTable_L53] at e; cases e
  | succ n ih =>
    intro a0 v1 v2 v3 h r h' e
    rw [f_RM_writeTable_L53] at e
    refine go_iload_n rfl rfl ?_
    refine go_bipush (v := 8) rfl (by decide) ?_
    refine go_icmp_ge (t := 89) rfl rfl (fun hx_1 => ?_) (fun hx_1 => ?_)
    · rw [if_pos hx_1] at e
      refine go_aload_n rfl rfl ?_
      replace e := ck_as_e e
      obtain ⟨hk_2, e⟩ := e
      replace e := ck_some_e e
      obtain ⟨b3, hq_4, e⟩ := e
      refine go_get (v := .ref b3) rfl rfl hk_2 (by decide) (by show va_rf (gR h a0 0) = _; rw [hq_4]; rfl) ?_
      refine go_aload_n rfl rfl ?_
      refine go_iconst (v := 0) rfl (by decide) ?_
      refine go_iload_n rfl rfl ?_
      replace e := ck_bd_e e
      obtain ⟨r5, h6, e7, e⟩ := e
      refine go_callV (As := [.int 0, .int v2]) (b0 := a0) (rest := [.ref b3]) rfl rfl ⟨hk_2, by decide⟩ rfl ⟨Nat.le_of_ble_eq_true rfl, Nat.le_of_ble_eq_true rfl, Nat.le_of_ble_eq_true rfl, Nat.le_of_ble_eq_true rfl⟩ (s_RM_keyAt e7) ?_
      show Go k_RM_writeTable 69 [some (.ref a0), some (.int v1), some (.int v2), some (.int v3), none] [.int r5, .ref b3] h6 _
      refine go_iload_n rfl rfl ?_
      refine go_iadd rfl ?_
      refine go_aload_n rfl rfl ?_
      replace e := ck_as_e e
      obtain ⟨hk_8, e⟩ := e
      replace e := ck_some_e e
      obtain ⟨b9, hq_10, e⟩ := e
      refine go_get (v := .ref b9) rfl rfl hk_8 (by decide) (by show va_rf (gR h6 a0 33) = _; rw [hq_10]; rfl) ?_
      refine go_bipush (v := 8) rfl (by decide) ?_
      refine go_iload_n rfl rfl ?_
      refine go_imul rfl ?_
      refine go_iload_n rfl rfl ?_
      refine go_iadd rfl ?_
      replace e := ck_as_e e
      obtain ⟨hc_11, e⟩ := e
      refine go_bald rfl hc_11 ?_
      replace e := ck_as_e e
      obtain ⟨hc_12, e⟩ := e
      refine go_zast rfl hc_12 ?_
      have hk_14 : gk (wI h6 b3 (r5 + v3 : Int32).toNatClampNeg (gI h6 b9 ((8 * v1) + v3 : Int32).toNatClampNeg)) a0 = 12 := ck_kI.trans hk_8
      generalize wI h6 b3 (r5 + v3 : Int32).toNatClampNeg (gI h6 b9 ((8 * v1) + v3 : Int32).toNatClampNeg) = h13 at e hk_14 ⊢
      replace e := ck_then_e e
      refine go_iinc (v := 1) rfl rfl (by decide) rfl ?_
      show Go k_RM_writeTable 86 [some (.ref a0), some (.int v1), some (.int v2), some (.int (v3 + 1)), none] [] h13 _
      refine go_goto (t := 53) rfl rfl ?_
      refine go_forget (l := [some (.ref a0), some (.int v1), some (.int v2), some (.int (v3 + 1)), none]) ⟨Or.inl rfl, Or.inl rfl, Or.inl rfl, Or.inl rfl, Or.inl rfl, trivial⟩ ?_
      exact ih _ _ _ _ _ _ _ e
    · rw [if_neg hx_1] at e
      refine go_aload_n rfl rfl ?_
      refine go_iconst (v := 0) rfl (by decide) ?_
      refine go_iload_n rfl rfl ?_
      replace e := ck_as_e e
      obtain ⟨hk_15, e⟩ := e
      replace e := ck_bd_e e
      obtain ⟨r16, h17, e18, e⟩ := e
      refine go_callV (As := [.int 0, .int v2]) (b0 := a0) (rest := []) rfl rfl ⟨hk_15, by decide⟩ rfl ⟨Nat.le_of_ble_eq_true rfl, Nat.le_of_ble_eq_true rfl, Nat.le_of_ble_eq_true rfl, Nat.le_of_ble_eq_true rfl⟩ (s_RM_dataAt e18) ?_
      show Go k_RM_writeTable 95 [some (.ref a0), some (.int v1), some (.int v2), some (.int v3), none] [.int r16] h17 _
      refine go_istore_n rfl rfl ?_
      show Go k_RM_writeTable 96 [some (.ref a0), some (.int v1), some (.int v2), some (.int r16), none] [] h17 _
      refine go_aload_n rfl rfl ?_
      replace e := ck_as_e e
      obtain ⟨hk_19, e⟩ := e
      replace e := ck_some_e e
      obtain ⟨b20, hq_21, e⟩ := e
      refine go_get (v := .ref b20) rfl rfl hk_19 (by decide) (by show va_rf (gR h17 a0 0) = _; rw [hq_21]; rfl) ?_
      refine go_iload_n rfl rfl ?_
      refine go_aload_n rfl rfl ?_
      replace e := ck_some_e e
      obtain ⟨b22, hq_23, e⟩ := e
      refine go_get (v := .ref b22) rfl rfl hk_19 (by decide) (by show va_rf (gR h17 a0 35) = _; rw [hq_23]; rfl) ?_
      refine go_iload_n rfl rfl ?_
      replace e := ck_as_e e
      obtain ⟨hc_24, e⟩ := e
      refine go_iald rfl hc_24 ?_
      refine go_i2b rfl ?_
      replace e := ck_as_e e
      obtain ⟨hc_25, e⟩ := e
      refine go_bast rfl hc_25 ?_
      have hk_27 : gk (wI h17 b20 (r16 : Int32).toNatClampNeg ((gI h17 b22 (v1 : Int32).toNatClampNeg : Int32).toInt8.toInt32 : Int32).toInt8.toInt32) a0 = 12 := ck_kI.trans hk_19
      generalize wI h17 b20 (r16 : Int32).toNatClampNeg ((gI h17 b22 (v1 : Int32).toNatClampNeg : Int32).toInt8.toInt32 : Int32).toInt8.toInt32 = h26 at e hk_27 ⊢
      replace e := ck_then_e e
      refine go_aload_n rfl rfl ?_
      replace e := ck_some_e e
      obtain ⟨b28, hq_29, e⟩ := e
      refine go_get (v := .ref b28) rfl rfl hk_27 (by decide) (by show va_rf (gR h26 a0 0) = _; rw [hq_29]; rfl) ?_
      refine go_iload_n rfl rfl ?_
      refine go_iconst (v := 1) rfl (by decide) ?_
      refine go_iadd rfl ?_
      refine go_aload_n rfl rfl ?_
      replace e := ck_some_e e
      obtain ⟨b30, hq_31, e⟩ := e
      refine go_get (v := .ref b30) rfl rfl hk_27 (by decide) (by show va_rf (gR h26 a0 36) = _; rw [hq_31]; rfl) ?_
      refine go_iload_n rfl rfl ?_
      replace e := ck_as_e e
      obtain ⟨hc_32, e⟩ := e
      refine go_iald rfl hc_32 ?_
      replace e := ck_bd_e e
      obtain ⟨r33, h34, e35, e⟩ := e
      refine go_callS (As := [.ref b28, .int (r16 + 1), .int (gI h26 b30 (v1 : Int32).toNatClampNeg)]) (rest := []) rfl rfl rfl ⟨Nat.le_of_ble_eq_true rfl, Nat.le_of_ble_eq_true rfl, Nat.le_of_ble_eq_true rfl, Nat.le_of_ble_eq_true rfl⟩ (s_RM_putTwo e35) ?_
      show Go k_RM_writeTable 125 [some (.ref a0), some (.int v1), some (.int v2), some (.int r16), none] [] h34 _
      refine go_aload_n rfl rfl ?_
      replace e := ck_as_e e
      obtain ⟨hk_36, e⟩ := e
      replace e := ck_some_e e
      obtain ⟨b37, hq_38, e⟩ := e
      refine go_get (v := .ref b37) rfl rfl hk_36 (by decide) (by show va_rf (gR h34 a0 0) = _; rw [hq_38]; rfl) ?_
      refine go_iload_n rfl rfl ?_
      refine go_iconst (v := 3) rfl (by decide) ?_
      refine go_iadd rfl ?_
      refine go_aload_n rfl rfl ?_
      replace e := ck_some_e e
      obtain ⟨b39, hq_40, e⟩ := e
      refine go_get (v := .ref b39) rfl rfl hk_36 (by decide) (by show va_rf (gR h34 a0 37) = _; rw [hq_40]; rfl) ?_
      refine go_iload_n rfl rfl ?_
      replace e := ck_as_e e
      obtain ⟨hc_41, e⟩ := e
      refine go_iald rfl hc_41 ?_
      replace e := ck_bd_e e
      obtain ⟨r42, h43, e44, e⟩ := e
      refine go_callS (As := [.ref b37, .int (r16 + 3), .int (gI h34 b39 (v1 : Int32).toNatClampNeg)]) (rest := []) rfl rfl rfl ⟨Nat.le_of_ble_eq_true rfl, Nat.le_of_ble_eq_true rfl, Nat.le_of_ble_eq_true rfl, Nat.le_of_ble_eq_true rfl⟩ (s_RM_putTwo e44) ?_
      show Go k_RM_writeTable 141 [some (.ref a0), some (.int v1), some (.int v2), some (.int r16), none] [] h43 _
      refine go_aload_n rfl rfl ?_
      replace e := ck_as_e e
      obtain ⟨hk_45, e⟩ := e
      replace e := ck_some_e e
      obtain ⟨b46, hq_47, e⟩ := e
      refine go_get (v := .ref b46) rfl rfl hk_45 (by decide) (by show va_rf (gR h43 a0 0) = _; rw [hq_47]; rfl) ?_
      refine go_iload_n rfl rfl ?_
      refine go_iconst (v := 5) rfl (by decide) ?_
      refine go_iadd rfl ?_
      refine go_aload_n rfl rfl ?_
      replace e := ck_some_e e
      obtain ⟨b48, hq_49, e⟩ := e
      refine go_get (v := .ref b48) rfl rfl hk_45 (by decide) (by show va_rf (gR h43 a0 38) = _; rw [hq_49]; rfl) ?_
      refine go_iload_n rfl rfl ?_
      replace e := ck_as_e e
      obtain ⟨hc_50, e⟩ := e
      refine go_iald rfl hc_50 ?_
      refine go_i2b rfl ?_
      replace e := ck_as_e e
      obtain ⟨hc_51, e⟩ := e
      refine go_bast rfl hc_51 ?_
      have hk_53 : gk (wI h43 b46 (r16 + 5 : Int32).toNatClampNeg ((gI h43 b48 (v1 : Int32).toNatClampNeg : Int32).toInt8.toInt32 : Int32).toInt8.toInt32) a0 = 12 := ck_kI.trans hk_45
      generalize wI h43 b46 (r16 + 5 : Int32).toNatClampNeg ((gI h43 b48 (v1 : Int32).toNatClampNeg : Int32).toInt8.toInt32 : Int32).toInt8.toInt32 = h52 at e hk_53 ⊢
      replace e := ck_then_e e
      refine go_iconst (v := 0) rfl (by decide) ?_
      refine go_istore rfl rfl ?_
      show Go k_RM_writeTable 159 [some (.ref a0), some (.int v1), some (.int v2), some (.int r16), some (.int 0)] [] h52 _
      refine go_forget (l := [some (.ref a0), some (.int v1), none, some (.int r16), some (.int 0)]) ⟨Or.inl rfl, Or.inl rfl, Or.inr ⟨rfl, fun _ q => by cases q; rfl⟩, Or.inl rfl, Or.inl rfl, trivial⟩ ?_
      exact f_RM_writeTable_L159_s F k9 hk9 F _ _ _ _ _ _ _ e
def f_RM_writeTable_L9 (F : Nat)  : Nat → Nat → Int32 → ck_H → Option (Unit × ck_H)
  | 0, _, _, _ => none
  | n + 1, a0, v1, h =>
    if v1 < (10 : Int32) then
      ck_as (gk h a0 = 12) <|
      ck_some (gR h a0 32) fun b3 =>
      ck_as ((gk h b3 = 13 ∨ gk h b3 = 15) ∧ ¬ v1 < 0 ∧ (v1 : Int32).toNatClampNeg < gz h b3) <|
      if (gI h b3 (v1 : Int32).toNatClampNeg) = (0 : Int32) then
        f_RM_writeTable_L9 F n a0 (v1 + 1) h
      else
        ck_some (gR h a0 38) fun b7 =>
        ck_as ((gk h b7 = 14 ∨ gk h b7 = 21) ∧ ¬ v1 < 0 ∧ (v1 : Int32).toNatClampNeg < gz h b7) <|
        ck_bd (f_RM_add F a0 0 0 0 (v1 + 1) 8 (6 + (2 * (gI h b7 (v1 : Int32).toNatClampNeg))) h) fun r10 h11 =>
        f_RM_writeTable_L53 F (f_RM_writeTable_L9 F n) F a0 v1 r10 0 h11
    else
      some ((), h)
set_option maxRecDepth 100000 in
set_option maxHeartbeats 4000000 in
theorem f_RM_writeTable_L9_s (F : Nat)   : ∀ (n : Nat) (a0 : Nat) (v1 : Int32) (h : ck_H) (r : Unit) (h' : ck_H), f_RM_writeTable_L9 F n a0 v1 h = some (r, h') → Go k_RM_writeTable 9 [some (.ref a0), some (.int v1), none, none, none] [] h (none, h') := by
  intro n
  induction n with
  | zero => intro a0 v1 h r h' e; simp only [f_RM_writeTable_L9] at e; cases e
  | succ n ih =>
    intro a0 v1 h r h' e
    rw [f_RM_writeTable_L9] at e
    refine go_iload_n rfl rfl ?_
    refine go_bipush (v := 10) rfl (by decide) ?_
    refine go_icmp_ge (t := 234) rfl rfl (fun hx_1 => ?_) (fun hx_1 => ?_)
    · rw [if_pos hx_1] at e
      refine go_aload_n rfl rfl ?_
      replace e := ck_as_e e
      obtain ⟨hk_2, e⟩ := e
      replace e := ck_some_e e
      obtain ⟨b3, hq_4, e⟩ := e
      refine go_get (v := .ref b3) rfl rfl hk_2 (by decide) (by show va_rf (gR h a0 32) = _; rw [hq_4]; rfl) ?_
      refine go_iload_n rfl rfl ?_
      replace e := ck_as_e e
      obtain ⟨hc_5, e⟩ := e
      refine go_bald rfl hc_5 ?_
      refine go_if_ne (t := 27) rfl rfl (fun hx_6 => ?_) (fun hx_6 => ?_)
      · rw [if_pos hx_6] at e
        refine go_goto (t := 228) rfl rfl ?_
        refine go_iinc (v := 1) rfl rfl (by decide) rfl ?_
        show Go k_RM_writeTable 231 [some (.ref a0), some (.int (v1 + 1)), none, none, none] [] h _
        refine go_goto (t := 9) rfl rfl ?_
        refine go_forget (l := [some (.ref a0), some (.int (v1 + 1)), none, none, none]) ⟨Or.inl rfl, Or.inl rfl, Or.inl rfl, Or.inl rfl, Or.inl rfl, trivial⟩ ?_
        exact ih _ _ _ _ _ e
      · rw [if_neg hx_6] at e
        refine go_aload_n rfl rfl ?_
        refine go_iconst (v := 0) rfl (by decide) ?_
        refine go_iconst (v := 0) rfl (by decide) ?_
        refine go_iconst (v := 0) rfl (by decide) ?_
        refine go_iload_n rfl rfl ?_
        refine go_iconst (v := 1) rfl (by decide) ?_
        refine go_iadd rfl ?_
        refine go_bipush (v := 8) rfl (by decide) ?_
        refine go_bipush (v := 6) rfl (by decide) ?_
        refine go_iconst (v := 2) rfl (by decide) ?_
        refine go_aload_n rfl rfl ?_
        replace e := ck_some_e e
        obtain ⟨b7, hq_8, e⟩ := e
        refine go_get (v := .ref b7) rfl rfl hk_2 (by decide) (by show va_rf (gR h a0 38) = _; rw [hq_8]; rfl) ?_
        refine go_iload_n rfl rfl ?_
        replace e := ck_as_e e
        obtain ⟨hc_9, e⟩ := e
        refine go_iald rfl hc_9 ?_
        refine go_imul rfl ?_
        refine go_iadd rfl ?_
        replace e := ck_bd_e e
        obtain ⟨r10, h11, e12, e⟩ := e
        refine go_callV (As := [.int 0, .int 0, .int 0, .int (v1 + 1), .int 8, .int (6 + (2 * (gI h b7 (v1 : Int32).toNatClampNeg)))]) (b0 := a0) (rest := []) rfl rfl ⟨hk_2, by decide⟩ rfl ⟨Nat.le_of_ble_eq_true rfl, Nat.le_of_ble_eq_true rfl, Nat.le_of_ble_eq_true rfl, Nat.le_of_ble_eq_true rfl⟩ (s_RM_add e12) ?_
        show Go k_RM_writeTable 50 [some (.ref a0), some (.int v1), none, none, none] [.int r10] h11 _
        refine go_istore_n rfl rfl ?_
        show Go k_RM_writeTable 51 [some (.ref a0), some (.int v1), some (.int r10), none, none] [] h11 _
        refine go_iconst (v := 0) rfl (by decide) ?_
        refine go_istore_n rfl rfl ?_
        show Go k_RM_writeTable 53 [some (.ref a0), some (.int v1), some (.int r10), some (.int 0), none] [] h11 _
        refine go_forget (l := [some (.ref a0), some (.int v1), some (.int r10), some (.int 0), none]) ⟨Or.inl rfl, Or.inl rfl, Or.inl rfl, Or.inl rfl, Or.inl rfl, trivial⟩ ?_
        exact f_RM_writeTable_L53_s F (f_RM_writeTable_L9 F n) ih F _ _ _ _ _ _ _ e
    · rw [if_neg hx_1] at e
      cases e
      exact go_ret rfl rfl
def f_RM_writeTable (F : Nat) (a0 : Nat) (h : ck_H) : Option (Unit × ck_H) :=
  ck_as (gk h a0 = 12) <|
  ck_some (gR h a0 1) fun b2 =>
  ck_as (gk h b2 = 14 ∧ ¬ (0 : Int32) < 0 ∧ (0 : Int32).toNatClampNeg < gz h b2) <|
  ck_then (wI h b2 (0 : Int32).toNatClampNeg 0) fun h5 =>
  f_RM_writeTable_L9 F F a0 0 h5
set_option maxRecDepth 100000 in
set_option maxHeartbeats 4000000 in
theorem s_RM_writeTable {F : Nat} {a0 : Nat} {h h' : ck_H} {r : Unit} (e : f_RM_writeTable F a0 h = some (r, h')) : Go k_RM_writeTable 0 (ck_in [.ref a0] 5) [] h (none, h') := by
  unfold f_RM_writeTable at e
  show Go k_RM_writeTable 0 [some (.ref a0), none, none, none, none] [] h _
  refine go_aload_n rfl rfl ?_
  replace e := ck_as_e e
  obtain ⟨hk_1, e⟩ := e
  replace e := ck_some_e e
  obtain ⟨b2, hq_3, e⟩ := e
  refine go_get (v := .ref b2) rfl rfl hk_1 (by decide) (by show va_rf (gR h a0 1) = _; rw [hq_3]; rfl) ?_
  refine go_iconst (v := 0) rfl (by decide) ?_
  refine go_iconst (v := 0) rfl (by decide) ?_
  replace e := ck_as_e e
  obtain ⟨hc_4, e⟩ := e
  refine go_iast rfl hc_4 ?_
  have hk_6 : gk (wI h b2 (0 : Int32).toNatClampNeg 0) a0 = 12 := ck_kI.trans hk_1
  generalize wI h b2 (0 : Int32).toNatClampNeg 0 = h5 at e hk_6 ⊢
  replace e := ck_then_e e
  refine go_iconst (v := 0) rfl (by decide) ?_
  refine go_istore_n rfl rfl ?_
  show Go k_RM_writeTable 9 [some (.ref a0), some (.int 0), none, none, none] [] h5 _
  refine go_forget (l := [some (.ref a0), some (.int 0), none, none, none]) ⟨Or.inl rfl, Or.inl rfl, Or.inl rfl, Or.inl rfl, Or.inl rfl, trivial⟩ ?_
  exact f_RM_writeTable_L9_s F F _ _ _ _ _ e
