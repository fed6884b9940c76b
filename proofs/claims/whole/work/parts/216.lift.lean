def f_RM_allocate_L173 (F : Nat)  : Nat → Nat → Int32 → Int32 → ck_H → Option (Int32 × ck_H)
  | 0, _, _, _, _ => none
  | n + 1, a0, v6, v7, h =>
    ck_as (gk h a0 = 12) <|
    if v7 < (gI h a0 48) then
      ck_some (gR h a0 39) fun b3 =>
      ck_some (gR h a0 46) fun b5 =>
      ck_as ((gk h b5 = 14 ∨ gk h b5 = 21) ∧ ¬ v7 < 0 ∧ (v7 : Int32).toNatClampNeg < gz h b5) <|
      ck_as (gk h b3 = 14 ∧ ¬ ((4 * v6) + v7) < 0 ∧ ((4 * v6) + v7 : Int32).toNatClampNeg < gz h b3) <|
      ck_then (wI h b3 ((4 * v6) + v7 : Int32).toNatClampNeg (gI h b5 (v7 : Int32).toNatClampNeg)) fun h9 =>
      ck_some (gR h9 a0 40) fun b11 =>
      ck_some (gR h9 a0 47) fun b13 =>
      ck_as ((gk h9 b13 = 14 ∨ gk h9 b13 = 21) ∧ ¬ v7 < 0 ∧ (v7 : Int32).toNatClampNeg < gz h9 b13) <|
      ck_as (gk h9 b11 = 14 ∧ ¬ ((4 * v6) + v7) < 0 ∧ ((4 * v6) + v7 : Int32).toNatClampNeg < gz h9 b11) <|
      ck_then (wI h9 b11 ((4 * v6) + v7 : Int32).toNatClampNeg (gI h9 b13 (v7 : Int32).toNatClampNeg)) fun h17 =>
      f_RM_allocate_L173 F n a0 v6 (v7 + 1) h17
    else
      ck_some (gR h a0 45) fun b19 =>
      ck_as (gk h b19 = 14 ∧ ¬ v6 < 0 ∧ (v6 : Int32).toNatClampNeg < gz h b19) <|
      ck_then (wI h b19 (v6 : Int32).toNatClampNeg 0) fun h22 =>
      ck_bd (f_RM_clearRuns F a0 h22) fun _ h25 =>
      ck_as (gk h25 a0 = 12) <|
      ck_bd (f_RM_writeTable F a0 h25) fun _ h29 =>
      some (v6, h29)
set_option maxRecDepth 100000 in
set_option maxHeartbeats 4000000 in
theorem f_RM_allocate_L173_s (F : Nat)   : ∀ (n : Nat) (a0 : Nat) (v6 : Int32) (v7 : Int32) (h : ck_H) (r : Int32) (h' : ck_H), f_RM_allocate_L173 F n a0 v6 v7 h = some (r, h') → Go k_RM_allocate 173 [some (.ref a0), none, none, none, none, none, some (.int v6), some (.int v7)] [] h (some (.int r), h') := by
  intro n
  induction n with
  | zero => intro a0 v6 v7 h r h' e; simp only [f_RM_allocate_L173] at e; cases e
  | succ n ih =>
    intro a0 v6 v7 h r h' e
    rw [f_RM_allocate_L173] at e
    refine go_iload rfl rfl ?_
    refine go_aload_n rfl rfl ?_
    replace e := ck_as_e e
    obtain ⟨hk_1, e⟩ := e
    refine go_get (v := .int (gI h a0 48)) rfl rfl hk_1 (by decide) rfl ?_
    refine go_icmp_ge (t := 226) rfl rfl (fun hx_2 => ?_) (fun hx_2 => ?_)
    · rw [if_pos hx_2] at e
      refine go_aload_n rfl rfl ?_
      replace e := ck_some_e e
      obtain ⟨b3, hq_4, e⟩ := e
      refine go_get (v := .ref b3) rfl rfl hk_1 (by decide) (by show va_rf (gR h a0 39) = _; rw [hq_4]; rfl) ?_
      refine go_iconst (v := 4) rfl (by decide) ?_
      refine go_iload rfl rfl ?_
      refine go_imul rfl ?_
      refine go_iload rfl rfl ?_
      refine go_iadd rfl ?_
      refine go_aload_n rfl rfl ?_
      replace e := ck_some_e e
      obtain ⟨b5, hq_6, e⟩ := e
      refine go_get (v := .ref b5) rfl rfl hk_1 (by decide) (by show va_rf (gR h a0 46) = _; rw [hq_6]; rfl) ?_
      refine go_iload rfl rfl ?_
      replace e := ck_as_e e
      obtain ⟨hc_7, e⟩ := e
      refine go_iald rfl hc_7 ?_
      replace e := ck_as_e e
      obtain ⟨hc_8, e⟩ := e
      refine go_iast rfl hc_8 ?_
      have hk_10 : gk (wI h b3 ((4 * v6) + v7 : Int32).toNatClampNeg (gI h b5 (v7 : Int32).toNatClampNeg)) a0 = 12 := ck_kI.trans hk_1
      generalize wI h b3 ((4 * v6) + v7 : Int32).toNatClampNeg (gI h b5 (v7 : Int32).toNatClampNeg) = h9 at e hk_10 ⊢
      replace e := ck_then_e e
      refine go_aload_n rfl rfl ?_
      replace e := ck_some_e e
      obtain ⟨b11, hq_12, e⟩ := e
      refine go_get (v := .ref b11) rfl rfl hk_10 (by decide) (by show va_rf (gR h9 a0 40) = _; rw [hq_12]; rfl) ?_
      refine go_iconst (v := 4) rfl (by decide) ?_
      refine go_iload rfl rfl ?_
      refine go_imul rfl ?_
      refine go_iload rfl rfl ?_
      refine go_iadd rfl ?_
      refine go_aload_n rfl rfl ?_
      replace e := ck_some_e e
      obtain ⟨b13, hq_14, e⟩ := e
      refine go_get (v := .ref b13) rfl rfl hk_10 (by decide) (by show va_rf (gR h9 a0 47) = _; rw [hq_14]; rfl) ?_
      refine go_iload rfl rfl ?_
      replace e := ck_as_e e
      obtain ⟨hc_15, e⟩ := e
      refine go_iald rfl hc_15 ?_
      replace e := ck_as_e e
      obtain ⟨hc_16, e⟩ := e
      refine go_iast rfl hc_16 ?_
      have hk_18 : gk (wI h9 b11 ((4 * v6) + v7 : Int32).toNatClampNeg (gI h9 b13 (v7 : Int32).toNatClampNeg)) a0 = 12 := ck_kI.trans hk_10
      generalize wI h9 b11 ((4 * v6) + v7 : Int32).toNatClampNeg (gI h9 b13 (v7 : Int32).toNatClampNeg) = h17 at e hk_18 ⊢
      replace e := ck_then_e e
      refine go_iinc (v := 1) rfl rfl (by decide) rfl ?_
      show Go k_RM_allocate 223 [some (.ref a0), none, none, none, none, none, some (.int v6), some (.int (v7 + 1))] [] h17 _
      refine go_goto (t := 173) rfl rfl ?_
      refine go_forget (l := [some (.ref a0), none, none, none, none, none, some (.int v6), some (.int (v7 + 1))]) ⟨Or.inl rfl, Or.inl rfl, Or.inl rfl, Or.inl rfl, Or.inl rfl, Or.inl rfl, Or.inl rfl, Or.inl rfl, trivial⟩ ?_
      exact ih _ _ _ _ _ _ e
    · rw [if_neg hx_2] at e
      refine go_aload_n rfl rfl ?_
      replace e := ck_some_e e
      obtain ⟨b19, hq_20, e⟩ := e
      refine go_get (v := .ref b19) rfl rfl hk_1 (by decide) (by show va_rf (gR h a0 45) = _; rw [hq_20]; rfl) ?_
      refine go_iload rfl rfl ?_
      refine go_iconst (v := 0) rfl (by decide) ?_
      replace e := ck_as_e e
      obtain ⟨hc_21, e⟩ := e
      refine go_iast rfl hc_21 ?_
      have hk_23 : gk (wI h b19 (v6 : Int32).toNatClampNeg 0) a0 = 12 := ck_kI.trans hk_1
      generalize wI h b19 (v6 : Int32).toNatClampNeg 0 = h22 at e hk_23 ⊢
      replace e := ck_then_e e
      refine go_aload_n rfl rfl ?_
      replace e := ck_bd_e e
      obtain ⟨r24, h25, e26, e⟩ := e
      refine go_callV (As := []) (b0 := a0) (rest := []) rfl rfl ⟨hk_23, by decide⟩ rfl ⟨Nat.le_of_ble_eq_true rfl, Nat.le_of_ble_eq_true rfl, Nat.le_of_ble_eq_true rfl, Nat.le_of_ble_eq_true rfl⟩ (s_RM_clearRuns e26) ?_
      show Go k_RM_allocate 238 [some (.ref a0), none, none, none, none, none, some (.int v6), some (.int v7)] [] h25 _
      refine go_aload_n rfl rfl ?_
      replace e := ck_as_e e
      obtain ⟨hk_27, e⟩ := e
      replace e := ck_bd_e e
      obtain ⟨r28, h29, e30, e⟩ := e
      refine go_callV (As := []) (b0 := a0) (rest := []) rfl rfl ⟨hk_27, by decide⟩ rfl ⟨Nat.le_of_ble_eq_true rfl, Nat.le_of_ble_eq_true rfl, Nat.le_of_ble_eq_true rfl, Nat.le_of_ble_eq_true rfl⟩ (s_RM_writeTable e30) ?_
      show Go k_RM_allocate 242 [some (.ref a0), none, none, none, none, none, some (.int v6), some (.int v7)] [] h29 _
      refine go_iload rfl rfl ?_
      cases e
      exact go_ret rfl rfl
def f_RM_allocate_L101 (F : Nat)  : Nat → Nat → Int32 → Int32 → Int32 → Int32 → Int32 → ck_H → Option (Int32 × ck_H)
  | 0, _, _, _, _, _, _, _ => none
  | n + 1, a0, v1, v3, v4, v6, v7, h =>
    if v7 < (8 : Int32) then
      ck_as (gk h a0 = 12) <|
      ck_some (gR h a0 33) fun b3 =>
      ck_some (gR h a0 34) fun b5 =>
      ck_as ((gk h b5 = 13 ∨ gk h b5 = 15) ∧ ¬ v7 < 0 ∧ (v7 : Int32).toNatClampNeg < gz h b5) <|
      ck_as (gk h b3 = 15 ∧ ((gI h b5 (v7 : Int32).toNatClampNeg) = 0 ∨ (gI h b5 (v7 : Int32).toNatClampNeg) = 1) ∧ ¬ ((8 * v6) + v7) < 0 ∧ ((8 * v6) + v7 : Int32).toNatClampNeg < gz h b3) <|
      ck_then (wI h b3 ((8 * v6) + v7 : Int32).toNatClampNeg (gI h b5 (v7 : Int32).toNatClampNeg)) fun h9 =>
      f_RM_allocate_L101 F n a0 v1 v3 v4 v6 (v7 + 1) h9
    else
      ck_as (gk h a0 = 12) <|
      ck_some (gR h a0 35) fun b12 =>
      ck_as (gk h b12 = 14 ∧ ¬ v6 < 0 ∧ (v6 : Int32).toNatClampNeg < gz h b12) <|
      ck_then (wI h b12 (v6 : Int32).toNatClampNeg v1) fun h15 =>
      ck_some (gR h15 a0 36) fun b17 =>
      ck_as (gk h15 b17 = 14 ∧ ¬ v6 < 0 ∧ (v6 : Int32).toNatClampNeg < gz h15 b17) <|
      ck_then (wI h15 b17 (v6 : Int32).toNatClampNeg v3) fun h20 =>
      ck_some (gR h20 a0 37) fun b22 =>
      ck_as (gk h20 b22 = 14 ∧ ¬ v6 < 0 ∧ (v6 : Int32).toNatClampNeg < gz h20 b22) <|
      ck_then (wI h20 b22 (v6 : Int32).toNatClampNeg v4) fun h25 =>
      ck_some (gR h25 a0 38) fun b27 =>
      ck_as (gk h25 b27 = 14 ∧ ¬ v6 < 0 ∧ (v6 : Int32).toNatClampNeg < gz h25 b27) <|
      ck_then (wI h25 b27 (v6 : Int32).toNatClampNeg (gI h25 a0 48)) fun h30 =>
      f_RM_allocate_L173 F F a0 v6 0 h30
set_option maxRecDepth 100000 in
set_option maxHeartbeats 4000000 in
theorem f_RM_allocate_L101_s (F : Nat)   : ∀ (n : Nat) (a0 : Nat) (v1 : Int32) (v3 : Int32) (v4 : Int32) (v6 : Int32) (v7 : Int32) (h : ck_H) (r : Int32) (h' : ck_H), f_RM_allocate_L101 F n a0 v1 v3 v4 v6 v7 h = some (r, h') → Go k_RM_allocate 101 [some (.ref a0), some (.int v1), none, some (.int v3), some (.int v4), none, some (.int v6), some (.int v7)] [] h (some (.int r), h') := by
  intro n
  induction n with
  | zero => intro a0 v1 v3 v4 v6 v7 h r h' e; simp only [f_RM_allocate_L101] at e; cases e
  | succ n ih =>
    intro a0 v1 v3 v4 v6 v7 h r h' e
    rw [f_RM_allocate_L101] at e
    refine go_iload rfl rfl ?_
    refine go_bipush (v := 8) rfl (by decide) ?_
    refine go_icmp_ge (t := 134) rfl rfl (fun hx_1 => ?_) (fun hx_1 => ?_)
    · rw [if_pos hx_1] at e
      refine go_aload_n rfl rfl ?_
      replace e := ck_as_e e
      obtain ⟨hk_2, e⟩ := e
      replace e := ck_some_e e
      obtain ⟨b3, hq_4, e⟩ := e
      refine go_get (v := .ref b3) rfl rfl hk_2 (by decide) (by show va_rf (gR h a0 33) = _; rw [hq_4]; rfl) ?_
      refine go_bipush (v := 8) rfl (by decide) ?_
      refine go_iload rfl rfl ?_
      refine go_imul rfl ?_
      refine go_iload rfl rfl ?_
      refine go_iadd rfl ?_
      refine go_aload_n rfl rfl ?_
      replace e := ck_some_e e
      obtain ⟨b5, hq_6, e⟩ := e
      refine go_get (v := .ref b5) rfl rfl hk_2 (by decide) (by show va_rf (gR h a0 34) = _; rw [hq_6]; rfl) ?_
      refine go_iload rfl rfl ?_
      replace e := ck_as_e e
      obtain ⟨hc_7, e⟩ := e
      refine go_bald rfl hc_7 ?_
      replace e := ck_as_e e
      obtain ⟨hc_8, e⟩ := e
      refine go_zast rfl hc_8 ?_
      have hk_10 : gk (wI h b3 ((8 * v6) + v7 : Int32).toNatClampNeg (gI h b5 (v7 : Int32).toNatClampNeg)) a0 = 12 := ck_kI.trans hk_2
      generalize wI h b3 ((8 * v6) + v7 : Int32).toNatClampNeg (gI h b5 (v7 : Int32).toNatClampNeg) = h9 at e hk_10 ⊢
      replace e := ck_then_e e
      refine go_iinc (v := 1) rfl rfl (by decide) rfl ?_
      show Go k_RM_allocate 131 [some (.ref a0), some (.int v1), none, some (.int v3), some (.int v4), none, some (.int v6), some (.int (v7 + 1))] [] h9 _
      refine go_goto (t := 101) rfl rfl ?_
      refine go_forget (l := [some (.ref a0), some (.int v1), none, some (.int v3), some (.int v4), none, some (.int v6), some (.int (v7 + 1))]) ⟨Or.inl rfl, Or.inl rfl, Or.inl rfl, Or.inl rfl, Or.inl rfl, Or.inl rfl, Or.inl rfl, Or.inl rfl, trivial⟩ ?_
      exact ih _ _ _ _ _ _ _ _ _ e
    · rw [if_neg hx_1] at e
      refine go_aload_n rfl rfl ?_
      replace e := ck_as_e e
      obtain ⟨hk_11, e⟩ := e
      replace e := ck_some_e e
      obtain ⟨b12, hq_13, e⟩ := e
      refine go_get (v := .ref b12) rfl rfl hk_11 (by decide) (by show va_rf (gR h a0 35) = _; rw [hq_13]; rfl) ?_
      refine go_iload rfl rfl ?_
      refine go_iload_n rfl rfl ?_
      replace e := ck_as_e e
      obtain ⟨hc_14, e⟩ := e
      refine go_iast rfl hc_14 ?_
      have hk_16 : gk (wI h b12 (v6 : Int32).toNatClampNeg v1) a0 = 12 := ck_kI.trans hk_11
      generalize wI h b12 (v6 : Int32).toNatClampNeg v1 = h15 at e hk_16 ⊢
      replace e := ck_then_e e
      refine go_aload_n rfl rfl ?_
      replace e := ck_some_e e
      obtain ⟨b17, hq_18, e⟩ := e
      refine go_get (v := .ref b17) rfl rfl hk_16 (by decide) (by show va_rf (gR h15 a0 36) = _; rw [hq_18]; rfl) ?_
      refine go_iload rfl rfl ?_
      refine go_iload_n rfl rfl ?_
      replace e := ck_as_e e
      obtain ⟨hc_19, e⟩ := e
      refine go_iast rfl hc_19 ?_
      have hk_21 : gk (wI h15 b17 (v6 : Int32).toNatClampNeg v3) a0 = 12 := ck_kI.trans hk_16
      generalize wI h15 b17 (v6 : Int32).toNatClampNeg v3 = h20 at e hk_21 ⊢
      replace e := ck_then_e e
      refine go_aload_n rfl rfl ?_
      replace e := ck_some_e e
      obtain ⟨b22, hq_23, e⟩ := e
      refine go_get (v := .ref b22) rfl rfl hk_21 (by decide) (by show va_rf (gR h20 a0 37) = _; rw [hq_23]; rfl) ?_
      refine go_iload rfl rfl ?_
      refine go_iload rfl rfl ?_
      replace e := ck_as_e e
      obtain ⟨hc_24, e⟩ := e
      refine go_iast rfl hc_24 ?_
      have hk_26 : gk (wI h20 b22 (v6 : Int32).toNatClampNeg v4) a0 = 12 := ck_kI.trans hk_21
      generalize wI h20 b22 (v6 : Int32).toNatClampNeg v4 = h25 at e hk_26 ⊢
      replace e := ck_then_e e
      refine go_aload_n rfl rfl ?_
      replace e := ck_some_e e
      obtain ⟨b27, hq_28, e⟩ := e
      refine go_get (v := .ref b27) rfl rfl hk_26 (by decide) (by show va_rf (gR h25 a0 38) = _; rw [hq_28]; rfl) ?_
      refine go_iload rfl rfl ?_
      refine go_aload_n rfl rfl ?_
      refine go_get (v := .int (gI h25 a0 48)) rfl rfl hk_26 (by decide) rfl ?_
      replace e := ck_as_e e
      obtain ⟨hc_29, e⟩ := e
      refine go_iast rfl hc_29 ?_
      have hk_31 : gk (wI h25 b27 (v6 : Int32).toNatClampNeg (gI h25 a0 48)) a0 = 12 := ck_kI.trans hk_26
      generalize wI h25 b27 (v6 : Int32).toNatClampNeg (gI h25 a0 48) = h30 at e hk_31 ⊢
      replace e := ck_then_e e
      refine go_iconst (v := 0) rfl (by decide) ?_
      refine go_istore rfl rfl ?_
      show Go k_RM_allocate 173 [some (.ref a0), some (.int v1), none, some (.int v3), some (.int v4), none, some (.int v6), some (.int 0)] [] h30 _
      refine go_forget (l := [some (.ref a0), none, none, none, none, none, some (.int v6), some (.int 0)]) ⟨Or.inl rfl, Or.inr ⟨rfl, fun _ q => by cases q; rfl⟩, Or.inl rfl, Or.inr ⟨rfl, fun _ q => by cases q; rfl⟩, Or.inr ⟨rfl, fun _ q => by cases q; rfl⟩, Or.inl rfl, Or.inl rfl, Or.inl rfl, trivial⟩ ?_
      exact f_RM_allocate_L173_s F F _ _ _ _ _ _ e
def f_RM_allocate_J55 (F : Nat)  (a0 : Nat) (v1 : Int32) (v2 : Int32) (v3 : Int32) (v4 : Int32) (v5 : Int32) (v6 : Int32) (h : ck_H) : Option (Int32 × ck_H) :=
  if v6 = (10 : Int32) then
    some ((-4), h)
  else
    if v5 = (0 : Int32) then
      ck_as (gk h a0 = 12) <|
      ck_bd (f_RM_finds F a0 v2 4 h) fun r4 h5 =>
      if r4 = (0 : Int32) then
        some ((-4), h5)
      else
        ck_as (gk h5 a0 = 12) <|
        ck_some (gR h5 a0 32) fun b9 =>
        ck_as (gk h5 b9 = 15 ∧ ((1 : Int32) = 0 ∨ (1 : Int32) = 1) ∧ ¬ v6 < 0 ∧ (v6 : Int32).toNatClampNeg < gz h5 b9) <|
        ck_then (wI h5 b9 (v6 : Int32).toNatClampNeg 1) fun h12 =>
        f_RM_allocate_L101 F F a0 v1 v3 v4 v6 0 h12
    else
      ck_as (gk h a0 = 12) <|
      ck_bd (f_RM_findsRow F a0 v2 h) fun r33 h34 =>
      if r33 = (0 : Int32) then
        some ((-4), h34)
      else
        ck_as (gk h34 a0 = 12) <|
        ck_some (gR h34 a0 32) fun b38 =>
        ck_as (gk h34 b38 = 15 ∧ ((1 : Int32) = 0 ∨ (1 : Int32) = 1) ∧ ¬ v6 < 0 ∧ (v6 : Int32).toNatClampNeg < gz h34 b38) <|
        ck_then (wI h34 b38 (v6 : Int32).toNatClampNeg 1) fun h41 =>
        f_RM_allocate_L101 F F a0 v1 v3 v4 v6 0 h41
set_option maxRecDepth 100000 in
set_option maxHeartbeats 4000000 in
theorem f_RM_allocate_J55_s (F : Nat)   (a0 : Nat) (v1 : Int32) (v2 : Int32) (v3 : Int32) (v4 : Int32) (v5 : Int32) (v6 : Int32) (h : ck_H) (r : Int32) (h' : ck_H) (e : f_RM_allocate_J55 F  a0 v1 v2 v3 v4 v5 v6 h = some (r, h')) : Go k_RM_allocate 55 [some (.ref a0), some (.int v1), some (.int v2), some (.int v3), some (.int v4), some (.int v5), some (.int v6), none] [] h (some (.int r), h') := by
  unfold f_RM_allocate_J55 at e
  refine go_iload rfl rfl ?_
  refine go_bipush (v := 10) rfl (by decide) ?_
  refine go_icmp_eq (t := 87) rfl rfl (fun hx_1 => ?_) (fun hx_1 => ?_)
  · rw [if_pos hx_1] at e
    refine go_bipush (v := (-4)) rfl (by decide) ?_
    cases e
    exact go_ret rfl rfl
  · rw [if_neg hx_1] at e
    refine go_iload rfl rfl ?_
    refine go_if_eq (t := 78) rfl rfl (fun hx_2 => ?_) (fun hx_2 => ?_)
    · rw [if_pos hx_2] at e
      refine go_aload_n rfl rfl ?_
      refine go_iload_n rfl rfl ?_
      refine go_iconst (v := 4) rfl (by decide) ?_
      replace e := ck_as_e e
      obtain ⟨hk_3, e⟩ := e
      replace e := ck_bd_e e
      obtain ⟨r4, h5, e6, e⟩ := e
      refine go_callV (As := [.int v2, .int 4]) (b0 := a0) (rest := []) rfl rfl ⟨hk_3, by decide⟩ rfl ⟨Nat.le_of_ble_eq_true rfl, Nat.le_of_ble_eq_true rfl, Nat.le_of_ble_eq_true rfl, Nat.le_of_ble_eq_true rfl⟩ (s_RM_finds e6) ?_
      show Go k_RM_allocate 84 [some (.ref a0), some (.int v1), some (.int v2), some (.int v3), some (.int v4), some (.int v5), some (.int v6), none] [.int r4] h5 _
      refine go_if_ne (t := 90) rfl rfl (fun hx_7 => ?_) (fun hx_7 => ?_)
      · rw [if_pos hx_7] at e
        refine go_bipush (v := (-4)) rfl (by decide) ?_
        cases e
        exact go_ret rfl rfl
      · rw [if_neg hx_7] at e
        refine go_aload_n rfl rfl ?_
        replace e := ck_as_e e
        obtain ⟨hk_8, e⟩ := e
        replace e := ck_some_e e
        obtain ⟨b9, hq_10, e⟩ := e
        refine go_get (v := .ref b9) rfl rfl hk_8 (by decide) (by show va_rf (gR h5 a0 32) = _; rw [hq_10]; rfl) ?_
        refine go_iload rfl rfl ?_
        refine go_iconst (v := 1) rfl (by decide) ?_
        replace e := ck_as_e e
        obtain ⟨hc_11, e⟩ := e
        refine go_zast rfl hc_11 ?_
        have hk_13 : gk (wI h5 b9 (v6 : Int32).toNatClampNeg 1) a0 = 12 := ck_kI.trans hk_8
        generalize wI h5 b9 (v6 : Int32).toNatClampNeg 1 = h12 at e hk_13 ⊢
        replace e := ck_then_e e
        refine go_iconst (v := 0) rfl (by decide) ?_
        refine go_istore rfl rfl ?_
        show Go k_RM_allocate 101 [some (.ref a0), some (.int v1), some (.int v2), some (.int v3), some (.int v4), some (.int v5), some (.int v6), some (.int 0)] [] h12 _
        refine go_forget (l := [some (.ref a0), some (.int v1), none, some (.int v3), some (.int v4), none, some (.int v6), some (.int 0)]) ⟨Or.inl rfl, Or.inl rfl, Or.inr ⟨rfl, fun _ q => by cases q; rfl⟩, Or.inl rfl, Or.inl rfl, Or.inr ⟨rfl, fun _ q => by cases q; rfl⟩, Or.inl rfl, Or.inl rfl, trivial⟩ ?_
        exact f_RM_allocate_L101_s F F _ _ _ _ _ _ _ _ _ e
    · rw [if_neg hx_2] at e
      refine go_aload_n rfl rfl ?_
      refine go_iload_n rfl rfl ?_
      replace e := ck_as_e e
      obtain ⟨hk_32, e⟩ := e
      replace e := ck_bd_e e
      obtain ⟨r33, h34, e35, e⟩ := e
      refine go_callV (As := [.int v2]) (b0 := a0) (rest := []) rfl rfl ⟨hk_32, by decide⟩ rfl ⟨Nat.le_of_ble_eq_true rfl, Nat.le_of_ble_eq_true rfl, Nat.le_of_ble_eq_true rfl, Nat.le_of_ble_eq_true rfl⟩ (s_RM_findsRow e35) ?_
      show Go k_RM_allocate 72 [some (.ref a0), some (.int v1), some (.int v2), some (.int v3), some (.int v4), some (.int v5), some (.int v6), none] [.int r33] h34 _
      refine go_if_eq (t := 87) rfl rfl (fun hx_36 => ?_) (fun hx_36 => ?_)
      · rw [if_pos hx_36] at e
        refine go_bipush (v := (-4)) rfl (by decide) ?_
        cases e
        exact go_ret rfl rfl
      · rw [if_neg hx_36] at e
        refine go_goto (t := 90) rfl rfl ?_
        refine go_aload_n rfl rfl ?_
        replace e := ck_as_e e
        obtain ⟨hk_37, e⟩ := e
        replace e := ck_some_e e
        obtain ⟨b38, hq_39, e⟩ := e
        refine go_get (v := .ref b38) rfl rfl hk_37 (by decide) (by show va_rf (gR h34 a0 32) = _; rw [hq_39]; rfl) ?_
        refine go_iload rfl rfl ?_
        refine go_iconst (v := 1) rfl (by decide) ?_
        replace e := ck_as_e e
        obtain ⟨hc_40, e⟩ := e
        refine go_zast rfl hc_40 ?_
        have hk_42 : gk (wI h34 b38 (v6 : Int32).toNatClampNeg 1) a0 = 12 := ck_kI.trans hk_37
        generalize wI h34 b38 (v6 : Int32).toNatClampNeg 1 = h41 at e hk_42 ⊢
        replace e := ck_then_e e
        refine go_iconst (v := 0) rfl (by decide) ?_
        refine go_istore rfl rfl ?_
        show Go k_RM_allocate 101 [some (.ref a0), some (.int v1), some (.int v2), some (.int v3), some (.int v4), some (.int v5), some (.int v6), some (.int 0)] [] h41 _
        refine go_forget (l := [some (.ref a0), some (.int v1), none, some (.int v3), some (.int v4), none, some (.int v6), some (.int 0)]) ⟨Or.inl rfl, Or.inl rfl, Or.inr ⟨rfl, fun _ q => by cases q; rfl⟩, Or.inl rfl, Or.inl rfl, Or.inr ⟨rfl, fun _ q => by cases q; rfl⟩, Or.inl rfl, Or.inl rfl, trivial⟩ ?_
        exact f_RM_allocate_L101_s F F _ _ _ _ _ _ _ _ _ e
def f_RM_allocate_L32 (F : Nat)  : Nat → Nat → Int32 → Int32 → Int32 → Int32 → Int32 → Int32 → ck_H → Option (Int32 × ck_H)
  | 0, _, _, _, _, _, _, _, _ => none
  | n + 1, a0, v1, v2, v3, v4, v5, v6, h =>
    if v6 < (10 : Int32) then
      ck_as (gk h a0 = 12) <|
      ck_some (gR h a0 32) fun b3 =>
      ck_as ((gk h b3 = 13 ∨ gk h b3 = 15) ∧ ¬ v6 < 0 ∧ (v6 : Int32).toNatClampNeg < gz h b3) <|
      if (gI h b3 (v6 : Int32).toNatClampNeg) = (0 : Int32) then
        f_RM_allocate_J55 F a0 v1 v2 v3 v4 v5 v6 h
      else
        f_RM_allocate_L32 F n a0 v1 v2 v3 v4 v5 (v6 + 1) h
    else
      f_RM_allocate_J55 F a0 v1 v2 v3 v4 v5 v6 h
set_option maxRecDepth 100000 in
set_option maxHeartbeats 4000000 in
theorem f_RM_allocate_L32_s (F : Nat)   : ∀ (n : Nat) (a0 : Nat) (v1 : Int32) (v2 : Int32) (v3 : Int32) (v4 : Int32) (v5 : Int32) (v6 : Int32) (h : ck_H) (r : Int32) (h' : ck_H), f_RM_allocate_L32 F n a0 v1 v2 v3 v4 v5 v6 h = some (r, h') → Go k_RM_allocate 32 [some (.ref a0), some (.int v1), some (.int v2), some (.int v3), some (.int v4), some (.int v5), some (.int v6), none] [] h (some (.int r), h') := by
  intro n
  induction n with
  | zero => intro a0 v1 v2 v3 v4 v5 v6 h r h' e; simp only [f_RM_allocate_L32] at e; cases e
  | succ n ih =>
    intro a0 v1 v2 v3 v4 v5 v6 h r h' e
    rw [f_RM_allocate_L32] at e
    refine go_iload rfl rfl ?_
    refine go_bipush (v := 10) rfl (by decide) ?_
    refine go_icmp_ge (t := 55) rfl rfl (fun hx_1 => ?_) (fun hx_1 => ?_)
    · rw [if_pos hx_1] at e
      refine go_aload_n rfl rfl ?_
      replace e := ck_as_e e
      obtain ⟨hk_2, e⟩ := e
      replace e := ck_some_e e
      obtain ⟨b3, hq_4, e⟩ := e
      refine go_get (v := .ref b3) rfl rfl hk_2 (by decide) (by show va_rf (gR h a0 32) = _; rw [hq_4]; rfl) ?_
      refine go_iload rfl rfl ?_
      replace e := ck_as_e e
      obtain ⟨hc_5, e⟩ := e
      refine go_bald rfl hc_5 ?_
      refine go_if_eq (t := 55) rfl rfl (fun hx_6 => ?_) (fun hx_6 => ?_)
      · rw [if_pos hx_6] at e
        refine go_forget (l := [some (.ref a0), some (.int v1), some (.int v2), some (.int v3), some (.int v4), some (.int v5), some (.int v6), none]) ⟨Or.inl rfl, Or.inl rfl, Or.inl rfl, Or.inl rfl, Or.inl rfl, Or.inl rfl, Or.inl rfl, Or.inl rfl, trivial⟩ ?_
        exact f_RM_allocate_J55_s F a0 v1 v2 v3 v4 v5 v6 _ _ _ e
      · rw [if_neg hx_6] at e
        refine go_iinc (v := 1) rfl rfl (by decide) rfl ?_
        show Go k_RM_allocate 52 [some (.ref a0), some (.int v1), some (.int v2), some (.int v3), some (.int v4), some (.int v5), some (.int (v6 + 1)), none] [] h _
        refine go_goto (t := 32) rfl rfl ?_
        refine go_forget (l := [some (.ref a0), some (.int v1), some (.int v2), some (.int v3), some (.int v4), some (.int v5), some (.int (v6 + 1)), none]) ⟨Or.inl rfl, Or.inl rfl, Or.inl rfl, Or.inl rfl, Or.inl rfl, Or.inl rfl, Or.inl rfl, Or.inl rfl, trivial⟩ ?_
        exact ih _ _ _ _ _ _ _ _ _ _ e
    · rw [if_neg hx_1] at e
      refine go_forget (l := [some (.ref a0), some (.int v1), some (.int v2), some (.int v3), some (.int v4), some (.int v5), some (.int v6), none]) ⟨Or.inl rfl, Or.inl rfl, Or.inl rfl, Or.inl rfl, Or.inl rfl, Or.inl rfl, Or.inl rfl, Or.inl rfl, trivial⟩ ?_
      exact f_RM_allocate_J55_s F a0 v1 v2 v3 v4 v5 v6 _ _ _ e
def f_RM_allocate (F : Nat) (a0 : Nat) (v1 : Int32) (v2 : Int32) (v3 : Int32) (v4 : Int32) (v5 : Int32) (h : ck_H) : Option (Int32 × ck_H) :=
  ck_as (gk h a0 = 12) <|
  ck_bd (f_RM_takeName F a0 h) fun _ h3 =>
  ck_bd (f_RM_mayBe F v1 v2 v3 v4 h3) fun r5 h6 =>
  if r5 = (0 : Int32) then
    some ((-2), h6)
  else
    ck_as (gk h6 a0 = 12) <|
    ck_bd (f_RM_findSet F a0 h6) fun r10 h11 =>
    if r10 = ((-1) : Int32) then
      f_RM_allocate_L32 F F a0 v1 v2 v3 v4 v5 0 h11
    else
      some ((-7), h11)
set_option maxRecDepth 100000 in
set_option maxHeartbeats 4000000 in
theorem s_RM_allocate {F : Nat} {a0 : Nat} {v1 : Int32} {v2 : Int32} {v3 : Int32} {v4 : Int32} {v5 : Int32} {h h' : ck_H} {r : Int32} (e : f_RM_allocate F a0 v1 v2 v3 v4 v5 h = some (r, h')) : Go k_RM_allocate 0 (ck_in [.ref a0, .int v1, .int v2, .int v3, .int v4, .int v5] 8) [] h (some (.int r), h') := by
  unfold f_RM_allocate at e
  show Go k_RM_allocate 0 [some (.ref a0), some (.int v1), some (.int v2), some (.int v3), some (.int v4), some (.int v5), none, none] [] h _
  refine go_aload_n rfl rfl ?_
  replace e := ck_as_e e
  obtain ⟨hk_1, e⟩ := e
  replace e := ck_bd_e e
  obtain ⟨r2, h3, e4, e⟩ := e
  refine go_callV (As := []) (b0 := a0) (rest := []) rfl rfl ⟨hk_1, by decide⟩ rfl ⟨Nat.le_of_ble_eq_true rfl, Nat.le_of_ble_eq_true rfl, Nat.le_of_ble_eq_true rfl, Nat.le_of_ble_eq_true rfl⟩ (s_RM_takeName e4) ?_
  show Go k_RM_allocate 4 [some (.ref a0), some (.int v1), some (.int v2), some (.int v3), some (.int v4), some (.int v5), none, none] [] h3 _
  refine go_iload_n rfl rfl ?_
  refine go_iload_n rfl rfl ?_
  refine go_iload_n rfl rfl ?_
  refine go_iload rfl rfl ?_
  replace e := ck_bd_e e
  obtain ⟨r5, h6, e7, e⟩ := e
  refine go_callS (As := [.int v1, .int v2, .int v3, .int v4]) (rest := []) rfl rfl rfl ⟨Nat.le_of_ble_eq_true rfl, Nat.le_of_ble_eq_true rfl, Nat.le_of_ble_eq_true rfl, Nat.le_of_ble_eq_true rfl⟩ (s_RM_mayBe e7) ?_
  show Go k_RM_allocate 12 [some (.ref a0), some (.int v1), some (.int v2), some (.int v3), some (.int v4), some (.int v5), none, none] [.int r5] h6 _
  refine go_if_ne (t := 18) rfl rfl (fun hx_8 => ?_) (fun hx_8 => ?_)
  · rw [if_pos hx_8] at e
    refine go_bipush (v := (-2)) rfl (by decide) ?_
    cases e
    exact go_ret rfl rfl
  · rw [if_neg hx_8] at e
    refine go_aload_n rfl rfl ?_
    replace e := ck_as_e e
    obtain ⟨hk_9, e⟩ := e
    replace e := ck_bd_e e
    obtain ⟨r10, h11, e12, e⟩ := e
    refine go_callV (As := []) (b0 := a0) (rest := []) rfl rfl ⟨hk_9, by decide⟩ rfl ⟨Nat.le_of_ble_eq_true rfl, Nat.le_of_ble_eq_true rfl, Nat.le_of_ble_eq_true rfl, Nat.le_of_ble_eq_true rfl⟩ (s_RM_findSet e12) ?_
    show Go k_RM_allocate 22 [some (.ref a0), some (.int v1), some (.int v2), some (.int v3), some (.int v4), some (.int v5), none, none] [.int r10] h11 _
    refine go_iconst (v := (-1)) rfl (by decide) ?_
    refine go_icmp_eq (t := 29) rfl rfl (fun hx_13 => ?_) (fun hx_13 => ?_)
    · rw [if_pos hx_13] at e
      refine go_iconst (v := 0) rfl (by decide) ?_
      refine go_istore rfl rfl ?_
      show Go k_RM_allocate 32 [some (.ref a0), some (.int v1), some (.int v2), some (.int v3), some (.int v4), some (.int v5), some (.int 0), none] [] h11 _
      refine go_forget (l := [some (.ref a0), some (.int v1), some (.int v2), some (.int v3), some (.int v4), some (.int v5), some (.int 0), none]) ⟨Or.inl rfl, Or.inl rfl, Or.inl rfl, Or.inl rfl, Or.inl rfl, Or.inl rfl, Or.inl rfl, Or.inl rfl, trivial⟩ ?_
      exact f_RM_allocate_L32_s F F _ _ _ _ _ _ _ _ _ _ e
    · rw [if_neg hx_13] at e
      refine go_bipush (v := (-7)) rfl (by decide) ?_
      cases e
      exact go_ret rfl rfl
def f_RM_opens_L4 (F : Nat)  : Nat → Nat → Int32 → Int32 → Int32 → ck_H → Option (Int32 × ck_H)
  | 0, _, _, _, _, _ => none
  | n + 1, a0, v1, v2, v3, h =>
    if v3 < (4 : Int32) then
      ck_as (gk h a0 = 12) <|
      ck_some (gR h a0 49) fun b3 =>
      ck_as ((gk h b3 = 13 ∨ gk h b3 = 15) ∧ ¬ v3 < 0 ∧ (v3 : Int32).toNatClampNeg < gz h b3) <|
      if (gI h b3 (v3 : Int32).toNatClampNeg) = (0 : Int32) then
        ck_then (v2 + 0) fun x7 =>
        f_RM_opens_L4 F n a0 v1 x7 (v3 + 1) h
      else
        ck_some (gR h a0 50) fun b8 =>
        ck_as ((gk h b8 = 14 ∨ gk h b8 = 21) ∧ ¬ v3 < 0 ∧ (v3 : Int32).toNatClampNeg < gz h b8) <|
        if (gI h b8 (v3 : Int32).toNatClampNeg) = v1 then
          ck_then (v2 + 1) fun x12 =>
          f_RM_opens_L4 F n a0 v1 x12 (v3 + 1) h
        else
          ck_then (v2 + 0) fun x13 =>
          f_RM_opens_L4 F n a0 v1 x13 (v3 + 1) h
    else
      some (v2, h)
set_option maxRecDepth 100000 in
set_option maxHeartbeats 4000000 in
theorem f_RM_opens_L4_s (F : Nat)   : ∀ (n : Nat) (a0 : Nat) (v1 : Int32) (v2 : Int32) (v3 : Int32) (h : ck_H) (r : Int32) (h' : ck_H), f_RM_opens_L4 F n a0 v1 v2 v3 h = some (r, h') → Go k_RM_opens 4 [some (.ref a0), some (.int v1), some (.int v2), some (.int v3)] [] h (some (.int r), h') := by
  intro n
  induction n with
  | zero => intro a0 v1 v2 v3 h r h' e; simp only [f_RM_opens_L4] at e; cases e
  | succ n ih =>
    intro a0 v1 v2 v3 h r h' e
    rw [f_RM_opens_L4] at e
    refine go_iload_n rfl rfl ?_
    refine go_iconst (v := 4) rfl (by decide) ?_
    refine go_icmp_ge (t := 42) rfl rfl (fun hx_1 => ?_) (fun hx_1 => ?_)
    · rw [if_pos hx_1] at e
      refine go_iload_n rfl rfl ?_
      refine go_aload_n rfl rfl ?_
      replace e := ck_as_e e
      obtain ⟨hk_2, e⟩ := e
      replace e := ck_some_e e
      obtain ⟨b3, hq_4, e⟩ := e
      refine go_get (v := .ref b3) rfl rfl hk_2 (by decide) (by show va_rf (gR h a0 49) = _; rw [hq_4]; rfl) ?_
      refine go_iload_n rfl rfl ?_
      replace e := ck_as_e e
      obtain ⟨hc_5, e⟩ := e
      refine go_bald rfl hc_5 ?_
      refine go_if_eq (t := 33) rfl rfl (fun hx_6 => ?_) (fun hx_6 => ?_)
      · rw [if_pos hx_6] at e
        refine go_iconst (v := 0) rfl (by decide) ?_
        refine go_iadd rfl ?_
        generalize v2 + 0 = x7 at e ⊢
        replace e := ck_then_e e
        refine go_istore_n rfl rfl ?_
        show Go k_RM_opens 36 [some (.ref a0), some (.int v1), some (.int x7), some (.int v3)] [] h _
        refine go_iinc (v := 1) rfl rfl (by decide) rfl ?_
        show Go k_RM_opens 39 [some (.ref a0), some (.int v1), some (.int x7), some (.int (v3 + 1))] [] h _
        refine go_goto (t := 4) rfl rfl ?_
        refine go_forget (l := [some (.ref a0), some (.int v1), some (.int x7), some (.int (v3 + 1))]) ⟨Or.inl rfl, Or.inl rfl, Or.inl rfl, Or.inl rfl, trivial⟩ ?_
        exact ih _ _ _ _ _ _ _ e
      · rw [if_neg hx_6] at e
        refine go_aload_n rfl rfl ?_
        replace e := ck_some_e e
        obtain ⟨b8, hq_9, e⟩ := e
        refine go_get (v := .ref b8) rfl rfl hk_2 (by decide) (by show va_rf (gR h a0 50) = _; rw [hq_9]; rfl) ?_
        refine go_iload_n rfl rfl ?_
        replace e := ck_as_e e
        obtain ⟨hc_10, e⟩ := e
        refine go_iald rfl hc_10 ?_
        refine go_iload_n rfl rfl ?_
        refine go_icmp_ne (t := 33) rfl rfl (fun hx_11 => ?_) (fun hx_11 => ?_)
        · rw [if_pos hx_11] at e
          refine go_iconst (v := 1) rfl (by decide) ?_
          refine go_goto (t := 34) rfl rfl ?_
          refine go_iadd rfl ?_
          generalize v2 + 1 = x12 at e ⊢
          replace e := ck_then_e e
          refine go_istore_n rfl rfl ?_
          show Go k_RM_opens 36 [some (.ref a0), some (.int v1), some (.int x12), some (.int v3)] [] h _
          refine go_iinc (v := 1) rfl rfl (by decide) rfl ?_
          show Go k_RM_opens 39 [some (.ref a0), some (.int v1), some (.int x12), some (.int (v3 + 1))] [] h _
          refine go_goto (t := 4) rfl rfl ?_
          refine go_forget (l := [some (.ref a0), some (.int v1), some (.int x12), some (.int (v3 + 1))]) ⟨Or.inl rfl, Or.inl rfl, Or.inl rfl, Or.inl rfl, trivial⟩ ?_
          exact ih _ _ _ _ _ _ _ e
        · rw [if_neg hx_11] at e
          refine go_iconst (v := 0) rfl (by decide) ?_
          refine go_iadd rfl ?_
          generalize v2 + 0 = x13 at e ⊢
          replace e := ck_then_e e
          refine go_istore_n rfl rfl ?_
          show Go k_RM_opens 36 [some (.ref a0), some (.int v1), some (.int x13), some (.int v3)] [] h _
          refine go_iinc (v := 1) rfl rfl (by decide) rfl ?_
          show Go k_RM_opens 39 [some (.ref a0), some (.int v1), some (.int x13), some (.int (v3 + 1))] [] h _
          refine go_goto (t := 4) rfl rfl ?_
          refine go_forget (l := [some (.ref a0), some (.int v1), some (.int x13), some (.int (v3 + 1))]) ⟨Or.inl rfl, Or.inl rfl, Or.inl rfl, Or.inl rfl, trivial⟩ ?_
          exact ih _ _ _ _ _ _ _ e
    · rw [if_neg hx_1] at e
      refine go_iload_n rfl rfl ?_
      cases e
      exact go_ret rfl rfl
def f_RM_opens (F : Nat) (a0 : Nat) (v1 : Int32) (h : ck_H) : Option (Int32 × ck_H) :=
  f_RM_opens_L4 F F a0 v1 0 0 h
set_option maxRecDepth 100000 in
set_option maxHeartbeats 4000000 in
theorem s_RM_opens {F : Nat} {a0 : Nat} {v1 : Int32} {h h' : ck_H} {r : Int32} (e : f_RM_opens F a0 v1 h = some (r, h')) : Go k_RM_opens 0 (ck_in [.ref a0, .int v1] 4) [] h (some (.int r), h') := by
  unfold f_RM_opens at e
  show Go k_RM_opens 0 [some (.ref a0), some (.int v1), none, none] [] h _
  refine go_iconst (v := 0) rfl (by decide) ?_
  refine go_istore_n rfl rfl ?_
  show Go k_RM_opens 2 [some (.ref a0), some (.int v1), some (.int 0), none] [] h _
  refine go_iconst (v := 0) rfl (by decide) ?_
  refine go_istore_n rfl rfl ?_
  show Go k_RM_opens 4 [some (.ref a0), some (.int v1), some (.int 0), some (.int 0)] [] h _
  refine go_forget (l := [some (.ref a0), some (.int v1), some (.int 0), some (.int 0)]) ⟨Or.inl rfl, Or.inl rfl, Or.inl rfl, Or.inl rfl, trivial⟩ ?_
  exact f_RM_opens_L4_s F F _ _ _ _ _ _ _ e
def f_RM_tracksOf_L4 (F : Nat)  : Nat → Nat → Int32 → Int32 → Int32 → ck_H → Option (Int32 × ck_H)
  | 0, _, _, _, _, _ => none
  | n + 1, a0, v1, v2, v3, h =>
    ck_as (gk h a0 = 12) <|
    ck_some (gR h a0 38) fun b2 =>
    ck_as ((gk h b2 = 14 ∨ gk h b2 = 21) ∧ ¬ v1 < 0 ∧ (v1 : Int32).toNatClampNeg < gz h b2) <|
    if v3 < (gI h b2 (v1 : Int32).toNatClampNeg) then
      ck_some (gR h a0 40) fun b6 =>
      ck_as ((gk h b6 = 14 ∨ gk h b6 = 21) ∧ ¬ ((4 * v1) + v3) < 0 ∧ ((4 * v1) + v3 : Int32).toNatClampNeg < gz h b6) <|
      ck_then (v2 + (gI h b6 ((4 * v1) + v3 : Int32).toNatClampNeg)) fun x9 =>
      f_RM_tracksOf_L4 F n a0 v1 x9 (v3 + 1) h
    else
      some (v2, h)
set_option maxRecDepth 100000 in
set_option maxHeartbeats 4000000 in
theorem f_RM_tracksOf_L4_s (F : Nat)   : ∀ (n : Nat) (a0 : Nat) (v1 : Int32) (v2 : Int32) (v3 : Int32) (h : ck_H) (r : Int32) (h' : ck_H), f_RM_tracksOf_L4 F n a0 v1 v2 v3 h = some (r, h') → Go k_RM_tracksOf 4 [some (.ref a0), some (.int v1), some (.int v2), some (.int v3)] [] h (some (.int r), h') := by
  intro n
  induction n with
  | zero => intro a0 v1 v2 v3 h r h' e; simp only [f_RM_tracksOf_L4] at e; cases e
  | succ n ih =>
    intro a0 v1 v2 v3 h r h' e
    rw [f_RM_tracksOf_L4] at e
    refine go_iload_n rfl rfl ?_
    refine go_aload_n rfl rfl ?_
    replace e := ck_as_e e
    obtain ⟨hk_1, e⟩ := e
    replace e := ck_some_e e
    obtain ⟨b2, hq_3, e⟩ := e
    refine go_get (v := .ref b2) rfl rfl hk_1 (by decide) (by show va_rf (gR h a0 38) = _; rw [hq_3]; rfl) ?_
    refine go_iload_n rfl rfl ?_
    replace e := ck_as_e e
    obtain ⟨hc_4, e⟩ := e
    refine go_iald rfl hc_4 ?_
    refine go_icmp_ge (t := 33) rfl rfl (fun hx_5 => ?_) (fun hx_5 => ?_)
    · rw [if_pos hx_5] at e
      refine go_iload_n rfl rfl ?_
      refine go_aload_n rfl rfl ?_
      replace e := ck_some_e e
      obtain ⟨b6, hq_7, e⟩ := e
      refine go_get (v := .ref b6) rfl rfl hk_1 (by decide) (by show va_rf (gR h a0 40) = _; rw [hq_7]; rfl) ?_
      refine go_iconst (v := 4) rfl (by decide) ?_
      refine go_iload_n rfl rfl ?_
      refine go_imul rfl ?_
      refine go_iload_n rfl rfl ?_
      refine go_iadd rfl ?_
      replace e := ck_as_e e
      obtain ⟨hc_8, e⟩ := e
      refine go_iald rfl hc_8 ?_
      refine go_iadd rfl ?_
      generalize v2 + (gI h b6 ((4 * v1) + v3 : Int32).toNatClampNeg) = x9 at e ⊢
      replace e := ck_then_e e
      refine go_istore_n rfl rfl ?_
      show Go k_RM_tracksOf 27 [some (.ref a0), some (.int v1), some (.int x9), some (.int v3)] [] h _
      refine go_iinc (v := 1) rfl rfl (by decide) rfl ?_
      show Go k_RM_tracksOf 30 [some (.ref a0), some (.int v1), some (.int x9), some (.int (v3 + 1))] [] h _
      refine go_goto (t := 4) rfl rfl ?_
      refine go_forget (l := [some (.ref a0), some (.int v1), some (.int x9), some (.int (v3 + 1))]) ⟨Or.inl rfl, Or.inl rfl, Or.inl rfl, Or.inl rfl, trivial⟩ ?_
      exact ih _ _ _ _ _ _ _ e
    · rw [if_neg hx_5] at e
      refine go_iload_n rfl rfl ?_
      cases e
      exact go_ret rfl rfl
def f_RM_tracksOf (F : Nat) (a0 : Nat) (v1 : Int32) (h : ck_H) : Option (Int32 × ck_H) :=
  f_RM_tracksOf_L4 F F a0 v1 0 0 h
set_option maxRecDepth 100000 in
set_option maxHeartbeats 4000000 in
theorem s_RM_tracksOf {F : Nat} {a0 : Nat} {v1 : Int32} {h h' : ck_H} {r : Int32} (e : f_RM_tracksOf F a0 v1 h = some (r, h')) : Go k_RM_tracksOf 0 (ck_in [.ref a0, .int v1] 4) [] h (some (.int r), h') := by
  unfold f_RM_tracksOf at e
  show Go k_RM_tracksOf 0 [some (.ref a0), some (.int v1), none, none] [] h _
  refine go_iconst (v := 0) rfl (by decide) ?_
  refine go_istore_n rfl rfl ?_
  show Go k_RM_tracksOf 2 [some (.ref a0), some (.int v1), some (.int 0), none] [] h _
  refine go_iconst (v := 0) rfl (by decide) ?_
  refine go_istore_n rfl rfl ?_
  show Go k_RM_tracksOf 4 [some (.ref a0), some (.int v1), some (.int 0), some (.int 0)] [] h _
  refine go_forget (l := [some (.ref a0), some (.int v1), some (.int 0), some (.int 0)]) ⟨Or.inl rfl, Or.inl rfl, Or.inl rfl, Or.inl rfl, trivial⟩ ?_
  exact f_RM_tracksOf_L4_s F F _ _ _ _ _ _ _ e
def f_RM_trackOf_L7 (F : Nat)  : Nat → Nat → Int32 → Int32 → ck_H → Option (Int32 × ck_H)
  | 0, _, _, _, _ => none
  | n + 1, a0, v3, v4, h =>
    ck_as (gk h a0 = 12) <|
    ck_some (gR h a0 40) fun b2 =>
    ck_as ((gk h b2 = 14 ∨ gk h b2 = 21) ∧ ¬ v4 < 0 ∧ (v4 : Int32).toNatClampNeg < gz h b2) <|
    if v3 < (gI h b2 (v4 : Int32).toNatClampNeg) then
      ck_some (gR h a0 39) fun b6 =>
      ck_as ((gk h b6 = 14 ∨ gk h b6 = 21) ∧ ¬ v4 < 0 ∧ (v4 : Int32).toNatClampNeg < gz h b6) <|
      some ((gI h b6 (v4 : Int32).toNatClampNeg) + v3, h)
    else
      ck_some (gR h a0 40) fun b9 =>
      ck_as ((gk h b9 = 14 ∨ gk h b9 = 21) ∧ ¬ v4 < 0 ∧ (v4 : Int32).toNatClampNeg < gz h b9) <|
      ck_then (v3 - (gI h b9 (v4 : Int32).toNatClampNeg)) fun x12 =>
      f_RM_trackOf_L7 F n a0 x12 (v4 + 1) h
set_option maxRecDepth 100000 in
set_option maxHeartbeats 4000000 in
theorem f_RM_trackOf_L7_s (F : Nat)   : ∀ (n : Nat) (a0 : Nat) (v3 : Int32) (v4 : Int32) (h : ck_H) (r : Int32) (h' : ck_H), f_RM_trackOf_L7 F n a0 v3 v4 h = some (r, h') → Go k_RM_trackOf 7 [some (.ref a0), none, none, some (.int v3), some (.int v4)] [] h (some (.int r), h') := by
  intro n
  induction n with
  | zero => intro a0 v3 v4 h r h' e; simp only [f_RM_trackOf_L7] at e; cases e
  | succ n ih =>
    intro a0 v3 v4 h r h' e
    rw [f_RM_trackOf_L7] at e
    refine go_iload_n rfl rfl ?_
    refine go_aload_n rfl rfl ?_
    replace e := ck_as_e e
    obtain ⟨hk_1, e⟩ := e
    replace e := ck_some_e e
    obtain ⟨b2, hq_3, e⟩ := e
    refine go_get (v := .ref b2) rfl rfl hk_1 (by decide) (by show va_rf (gR h a0 40) = _; rw [hq_3]; rfl) ?_
    refine go_iload rfl rfl ?_
    replace e := ck_as_e e
    obtain ⟨hc_4, e⟩ := e
    refine go_iald rfl hc_4 ?_
    refine go_icmp_lt (t := 34) rfl rfl (fun hx_5 => ?_) (fun hx_5 => ?_)
    · rw [if_pos hx_5] at e
      refine go_aload_n rfl rfl ?_
      replace e := ck_some_e e
      obtain ⟨b6, hq_7, e⟩ := e
      refine go_get (v := .ref b6) rfl rfl hk_1 (by decide) (by show va_rf (gR h a0 39) = _; rw [hq_7]; rfl) ?_
      refine go_iload rfl rfl ?_
      replace e := ck_as_e e
      obtain ⟨hc_8, e⟩ := e
      refine go_iald rfl hc_8 ?_
      refine go_iload_n rfl rfl ?_
      refine go_iadd rfl ?_
      cases e
      exact go_ret rfl rfl
    · rw [if_neg hx_5] at e
      refine go_iload_n rfl rfl ?_
      refine go_aload_n rfl rfl ?_
      replace e := ck_some_e e
      obtain ⟨b9, hq_10, e⟩ := e
      refine go_get (v := .ref b9) rfl rfl hk_1 (by decide) (by show va_rf (gR h a0 40) = _; rw [hq_10]; rfl) ?_
      refine go_iload rfl rfl ?_
      replace e := ck_as_e e
      obtain ⟨hc_11, e⟩ := e
      refine go_iald rfl hc_11 ?_
      refine go_isub rfl ?_
      generalize v3 - (gI h b9 (v4 : Int32).toNatClampNeg) = x12 at e ⊢
      replace e := ck_then_e e
      refine go_istore_n rfl rfl ?_
      show Go k_RM_trackOf 28 [some (.ref a0), none, none, some (.int x12), some (.int v4)] [] h _
      refine go_iinc (v := 1) rfl rfl (by decide) rfl ?_
      show Go k_RM_trackOf 31 [some (.ref a0), none, none, some (.int x12), some (.int (v4 + 1))] [] h _
      refine go_goto (t := 7) rfl rfl ?_
      refine go_forget (l := [some (.ref a0), none, none, some (.int x12), some (.int (v4 + 1))]) ⟨Or.inl rfl, Or.inl rfl, Or.inl rfl, Or.inl rfl, Or.inl rfl, trivial⟩ ?_
      exact ih _ _ _ _ _ _ e
def f_RM_trackOf (F : Nat) (a0 : Nat) (v1 : Int32) (v2 : Int32) (h : ck_H) : Option (Int32 × ck_H) :=
  ck_then (4 * v1) fun x1 =>
  f_RM_trackOf_L7 F F a0 v2 x1 h
set_option maxRecDepth 100000 in
set_option maxHeartbeats 4000000 in
theorem s_RM_trackOf {F : Nat} {a0 : Nat} {v1 : Int32} {v2 : Int32} {h h' : ck_H} {r : Int32} (e : f_RM_trackOf F a0 v1 v2 h = some (r, h')) : Go k_RM_trackOf 0 (ck_in [.ref a0, .int v1, .int v2] 5) [] h (some (.int r), h') := by
  unfold f_RM_trackOf at e
  show Go k_RM_trackOf 0 [some (.ref a0), some (.int v1), some (.int v2), none, none] [] h _
  refine go_iload_n rfl rfl ?_
  refine go_istore_n rfl rfl ?_
  show Go k_RM_trackOf 2 [some (.ref a0), some (.int v1), some (.int v2), some (.int v2), none] [] h _
  refine go_iconst (v := 4) rfl (by decide) ?_
  refine go_iload_n rfl rfl ?_
  refine go_imul rfl ?_
  generalize 4 * v1 = x1 at e ⊢
  replace e := ck_then_e e
  refine go_istore rfl rfl ?_
  show Go k_RM_trackOf 7 [some (.ref a0), some (.int v1), some (.int v2), some (.int v2), some (.int x1)] [] h _
  refine go_forget (l := [some (.ref a0), none, none, some (.int v2), some (.int x1)]) ⟨Or.inl rfl, Or.inr ⟨rfl, fun _ q => by cases q; rfl⟩, Or.inr ⟨rfl, fun _ q => by cases q; rfl⟩, Or.inl rfl, Or.inl rfl, trivial⟩ ?_
  exact f_RM_trackOf_L7_s F F _ _ _ _ _ _ e
def f_RM_scratch_L29 (F : Nat)  : Nat → Nat → Int32 → Int32 → ck_H → Option (Int32 × ck_H)
  | 0, _, _, _, _ => none
  | n + 1, a0, v1, v2, h =>
    ck_as (gk h a0 = 12) <|
    ck_bd (f_RM_tracksOf F a0 v1 h) fun r2 h3 =>
    if v2 < r2 then
      ck_as (gk h3 a0 = 12) <|
      ck_some (gR h3 a0 1) fun b7 =>
      ck_bd (f_RM_trackOf F a0 v1 v2 h3) fun r9 h10 =>
      ck_as (gk h10 b7 = 14 ∧ ¬ r9 < 0 ∧ (r9 : Int32).toNatClampNeg < gz h10 b7) <|
      ck_then (wI h10 b7 (r9 : Int32).toNatClampNeg 0) fun h13 =>
      f_RM_scratch_L29 F n a0 v1 (v2 + 1) h13
    else
      ck_as (gk h3 a0 = 12) <|
      ck_some (gR h3 a0 32) fun b15 =>
      ck_as (gk h3 b15 = 15 ∧ ((0 : Int32) = 0 ∨ (0 : Int32) = 1) ∧ ¬ v1 < 0 ∧ (v1 : Int32).toNatClampNeg < gz h3 b15) <|
      ck_then (wI h3 b15 (v1 : Int32).toNatClampNeg 0) fun h18 =>
      ck_bd (f_RM_writeTable F a0 h18) fun _ h21 =>
      some (v1, h21)
set_option maxRecDepth 100000 in
set_option maxHeartbeats 4000000 in
theorem f_RM_scratch_L29_s (F : Nat)   : ∀ (n : Nat) (a0 : Nat) (v1 : Int32) (v2 : Int32) (h : ck_H) (r : Int32) (h' : ck_H), f_RM_scratch_L29 F n a0 v1 v2 h = some (r, h') → Go k_RM_scratch 29 [some (.ref a0), some (.int v1), some (.int v2)] [] h (some (.int r), h') := by
  intro n
  induction n with
  | zero => intro a0 v1 v2 h r h' e; simp only [f_RM_scratch_L29] at e; cases e
  | succ n ih =>
    intro a0 v1 v2 h r h' e
    rw [f_RM_scratch_L29] at e
    refine go_iload_n rfl rfl ?_
    refine go_aload_n rfl rfl ?_
    refine go_iload_n rfl rfl ?_
    replace e := ck_as_e e
    obtain ⟨hk_1, e⟩ := e
    replace e := ck_bd_e e
    obtain ⟨r2, h3, e4, e⟩ := e
    refine go_callV (As := [.int v1]) (b0 := a0) (rest := [.int v2]) rfl rfl ⟨hk_1, by decide⟩ rfl ⟨Nat.le_of_ble_eq_true rfl, Nat.le_of_ble_eq_true rfl, Nat.le_of_ble_eq_true rfl, Nat.le_of_ble_eq_true rfl⟩ (s_RM_tracksOf e4) ?_
    show Go k_RM_scratch 35 [some (.ref a0), some (.int v1), some (.int v2)] [.int r2, .int v2] h3 _
    refine go_icmp_ge (t := 56) rfl rfl (fun hx_5 => ?_) (fun hx_5 => ?_)
    · rw [if_pos hx_5] at e
      refine go_aload_n rfl rfl ?_
      replace e := ck_as_e e
      obtain ⟨hk_6, e⟩ := e
      replace e := ck_some_e e
      obtain ⟨b7, hq_8, e⟩ := e
      refine go_get (v := .ref b7) rfl rfl hk_6 (by decide) (by show va_rf (gR h3 a0 1) = _; rw [hq_8]; rfl) ?_
      refine go_aload_n rfl rfl ?_
      refine go_iload_n rfl rfl ?_
      refine go_iload_n rfl rfl ?_
      replace e := ck_bd_e e
      obtain ⟨r9, h10, e11, e⟩ := e
      refine go_callV (As := [.int v1, .int v2]) (b0 := a0) (rest := [.ref b7]) rfl rfl ⟨hk_6, by decide⟩ rfl ⟨Nat.le_of_ble_eq_true rfl, Nat.le_of_ble_eq_true rfl, Nat.le_of_ble_eq_true rfl, Nat.le_of_ble_eq_true rfl⟩ (s_RM_trackOf e11) ?_
      show Go k_RM_scratch 48 [some (.ref a0), some (.int v1), some (.int v2)] [.int r9, .ref b7] h10 _
      refine go_iconst (v := 0) rfl (by decide) ?_
      replace e := ck_as_e e
      obtain ⟨hc_12, e⟩ := e
      refine go_iast rfl hc_12 ?_
      generalize wI h10 b7 (r9 : Int32).toNatClampNeg 0 = h13 at e  ⊢
      replace e := ck_then_e e
      refine go_iinc (v := 1) rfl rfl (by decide) rfl ?_
      show Go k_RM_scratch 53 [some (.ref a0), some (.int v1), some (.int (v2 + 1))] [] h13 _
      refine go_goto (t := 29) rfl rfl ?_
      refine go_forget (l := [some (.ref a0), some (.int v1), some (.int (v2 + 1))]) ⟨Or.inl rfl, Or.inl rfl, Or.inl rfl, trivial⟩ ?_
      exact ih _ _ _ _ _ _ e
    · rw [if_neg hx_5] at e
      refine go_aload_n rfl rfl ?_
      replace e := ck_as_e e
      obtain ⟨hk_14, e⟩ := e
      replace e := ck_some_e e
      obtain ⟨b15, hq_16, e⟩ := e
      refine go_get (v := .ref b15) rfl rfl hk_14 (by decide) (by show va_rf (gR h3 a0 32) = _; rw [hq_16]; rfl) ?_
      refine go_iload_n rfl rfl ?_
      refine go_iconst (v := 0) rfl (by decide) ?_
      replace e := ck_as_e e
      obtain ⟨hc_17, e⟩ := e
      refine go_zast rfl hc_17 ?_
      have hk_19 : gk (wI h3 b15 (v1 : Int32).toNatClampNeg 0) a0 = 12 := ck_kI.trans hk_14
      generalize wI h3 b15 (v1 : Int32).toNatClampNeg 0 = h18 at e hk_19 ⊢
      replace e := ck_then_e e
      refine go_aload_n rfl rfl ?_
      replace e := ck_bd_e e
      obtain ⟨r20, h21, e22, e⟩ := e
      refine go_callV (As := []) (b0 := a0) (rest := []) rfl rfl ⟨hk_19, by decide⟩ rfl ⟨Nat.le_of_ble_eq_true rfl, Nat.le_of_ble_eq_true rfl, Nat.le_of_ble_eq_true rfl, Nat.le_of_ble_eq_true rfl⟩ (s_RM_writeTable e22) ?_
      show Go k_RM_scratch 67 [some (.ref a0), some (.int v1), some (.int v2)] [] h21 _
      refine go_iload_n rfl rfl ?_
      cases e
      exact go_ret rfl rfl
def f_RM_scratch (F : Nat) (a0 : Nat) (h : ck_H) : Option (Int32 × ck_H) :=
  ck_as (gk h a0 = 12) <|
  ck_bd (f_RM_takeName F a0 h) fun _ h3 =>
  ck_as (gk h3 a0 = 12) <|
  ck_bd (f_RM_findSet F a0 h3) fun r6 h7 =>
  if r6 = ((-1) : Int32) then
    some ((-1), h7)
  else
    ck_as (gk h7 a0 = 12) <|
    ck_bd (f_RM_opens F a0 r6 h7) fun r11 h12 =>
    if (0 : Int32) < r11 then
      some ((-8), h12)
    else
      f_RM_scratch_L29 F F a0 r6 0 h12
set_option maxRecDepth 100000 in
set_option maxHeartbeats 4000000 in
theorem s_RM_scratch {F : Nat} {a0 : Nat} {h h' : ck_H} {r : Int32} (e : f_RM_scratch F a0 h = some (r, h')) : Go k_RM_scratch 0 (ck_in [.ref a0] 3) [] h (some (.int r), h') := by
  unfold f_RM_scratch at e
  show Go k_RM_scratch 0 [some (.ref a0), none, none] [] h _
  refine go_aload_n rfl rfl ?_
  replace e := ck_as_e e
  obtain ⟨hk_1, e⟩ := e
  replace e := ck_bd_e e
  obtain ⟨r2, h3, e4, e⟩ := e
  refine go_callV (As := []) (b0 := a0) (rest := []) rfl rfl ⟨hk_1, by decide⟩ rfl ⟨Nat.le_of_ble_eq_true rfl, Nat.le_of_ble_eq_true rfl, Nat.le_of_ble_eq_true rfl, Nat.le_of_ble_eq_true rfl⟩ (s_RM_takeName e4) ?_
  show Go k_RM_scratch 4 [some (.ref a0), none, none] [] h3 _
  refine go_aload_n rfl rfl ?_
  replace e := ck_as_e e
  obtain ⟨hk_5, e⟩ := e
  replace e := ck_bd_e e
  obtain ⟨r6, h7, e8, e⟩ := e
  refine go_callV (As := []) (b0 := a0) (rest := []) rfl rfl ⟨hk_5, by decide⟩ rfl ⟨Nat.le_of_ble_eq_true rfl, Nat.le_of_ble_eq_true rfl, Nat.le_of_ble_eq_true rfl, Nat.le_of_ble_eq_true rfl⟩ (s_RM_findSet e8) ?_
  show Go k_RM_scratch 8 [some (.ref a0), none, none] [.int r6] h7 _
  refine go_istore_n rfl rfl ?_
  show Go k_RM_scratch 9 [some (.ref a0), some (.int r6), none] [] h7 _
  refine go_iload_n rfl rfl ?_
  refine go_iconst (v := (-1)) rfl (by decide) ?_
  refine go_icmp_ne (t := 16) rfl rfl (fun hx_9 => ?_) (fun hx_9 => ?_)
  · rw [if_pos hx_9] at e
    refine go_iconst (v := (-1)) rfl (by decide) ?_
    cases e
    exact go_ret rfl rfl
  · rw [if_neg hx_9] at e
    refine go_aload_n rfl rfl ?_
    refine go_iload_n rfl rfl ?_
    replace e := ck_as_e e
    obtain ⟨hk_10, e⟩ := e
    replace e := ck_bd_e e
    obtain ⟨r11, h12, e13, e⟩ := e
    refine go_callV (As := [.int r6]) (b0 := a0) (rest := []) rfl rfl ⟨hk_10, by decide⟩ rfl ⟨Nat.le_of_ble_eq_true rfl, Nat.le_of_ble_eq_true rfl, Nat.le_of_ble_eq_true rfl, Nat.le_of_ble_eq_true rfl⟩ (s_RM_opens e13) ?_
    show Go k_RM_scratch 21 [some (.ref a0), some (.int r6), none] [.int r11] h12 _
    refine go_if_le (t := 27) rfl rfl (fun hx_14 => ?_) (fun hx_14 => ?_)
    · rw [if_pos hx_14] at e
      refine go_bipush (v := (-8)) rfl (by decide) ?_
      cases e
      exact go_ret rfl rfl
    · rw [if_neg hx_14] at e
      refine go_iconst (v := 0) rfl (by decide) ?_
      refine go_istore_n rfl rfl ?_
      show Go k_RM_scratch 29 [some (.ref a0), some (.int r6), some (.int 0)] [] h12 _
      refine go_forget (l := [some (.ref a0), some (.int r6), some (.int 0)]) ⟨Or.inl rfl, Or.inl rfl, Or.inl rfl, trivial⟩ ?_
      exact f_RM_scratch_L29_s F F _ _ _ _ _ _ e
def f_RM_extend_L69 (F : Nat)  : Nat → Nat → Int32 → Int32 → ck_H → Option (Int32 × ck_H)
  | 0, _, _, _, _ => none
  | n + 1, a0, v2, v3, h =>
    ck_as (gk h a0 = 12) <|
    if v3 < (gI h a0 48) then
      ck_some (gR h a0 38) fun b3 =>
      ck_as ((gk h b3 = 14 ∨ gk h b3 = 21) ∧ ¬ v2 < 0 ∧ (v2 : Int32).toNatClampNeg < gz h b3) <|
      ck_then (((4 * v2) + (gI h b3 (v2 : Int32).toNatClampNeg)) - 1) fun x6 =>
      ck_some (gR h a0 46) fun b7 =>
      ck_as ((gk h b7 = 14 ∨ gk h b7 = 21) ∧ ¬ v3 < 0 ∧ (v3 : Int32).toNatClampNeg < gz h b7) <|
      ck_some (gR h a0 39) fun b10 =>
      ck_as ((gk h b10 = 14 ∨ gk h b10 = 21) ∧ ¬ x6 < 0 ∧ (x6 : Int32).toNatClampNeg < gz h b10) <|
      ck_some (gR h a0 40) fun b13 =>
      ck_as ((gk h b13 = 14 ∨ gk h b13 = 21) ∧ ¬ x6 < 0 ∧ (x6 : Int32).toNatClampNeg < gz h b13) <|
      if (gI h b7 (v3 : Int32).toNatClampNeg) = ((gI h b10 (x6 : Int32).toNatClampNeg) + (gI h b13 (x6 : Int32).toNatClampNeg)) then
        ck_some (gR h a0 40) fun b17 =>
        ck_as ((gk h b17 = 14 ∨ gk h b17 = 21) ∧ ¬ x6 < 0 ∧ (x6 : Int32).toNatClampNeg < gz h b17) <|
        ck_some (gR h a0 47) fun b20 =>
        ck_as ((gk h b20 = 14 ∨ gk h b20 = 21) ∧ ¬ v3 < 0 ∧ (v3 : Int32).toNatClampNeg < gz h b20) <|
        ck_as (gk h b17 = 14 ∧ ¬ x6 < 0 ∧ (x6 : Int32).toNatClampNeg < gz h b17) <|
        ck_then (wI h b17 (x6 : Int32).toNatClampNeg ((gI h b17 (x6 : Int32).toNatClampNeg) + (gI h b20 (v3 : Int32).toNatClampNeg))) fun h24 =>
        f_RM_extend_L69 F n a0 v2 (v3 + 1) h24
      else
        ck_some (gR h a0 39) fun b26 =>
        ck_some (gR h a0 46) fun b28 =>
        ck_as ((gk h b28 = 14 ∨ gk h b28 = 21) ∧ ¬ v3 < 0 ∧ (v3 : Int32).toNatClampNeg < gz h b28) <|
        ck_as (gk h b26 = 14 ∧ ¬ (x6 + 1) < 0 ∧ (x6 + 1 : Int32).toNatClampNeg < gz h b26) <|
        ck_then (wI h b26 (x6 + 1 : Int32).toNatClampNeg (gI h b28 (v3 : Int32).toNatClampNeg)) fun h32 =>
        ck_some (gR h32 a0 40) fun b34 =>
        ck_some (gR h32 a0 47) fun b36 =>
        ck_as ((gk h32 b36 = 14 ∨ gk h32 b36 = 21) ∧ ¬ v3 < 0 ∧ (v3 : Int32).toNatClampNeg < gz h32 b36) <|
        ck_as (gk h32 b34 = 14 ∧ ¬ (x6 + 1) < 0 ∧ (x6 + 1 : Int32).toNatClampNeg < gz h32 b34) <|
        ck_then (wI h32 b34 (x6 + 1 : Int32).toNatClampNeg (gI h32 b36 (v3 : Int32).toNatClampNeg)) fun h40 =>
        ck_some (gR h40 a0 38) fun b42 =>
        ck_as ((gk h40 b42 = 14 ∨ gk h40 b42 = 21) ∧ ¬ v2 < 0 ∧ (v2 : Int32).toNatClampNeg < gz h40 b42) <|
        ck_as (gk h40 b42 = 14 ∧ ¬ v2 < 0 ∧ (v2 : Int32).toNatClampNeg < gz h40 b42) <|
        ck_then (wI h40 b42 (v2 : Int32).toNatClampNeg ((gI h40 b42 (v2 : Int32).toNatClampNeg) + 1)) fun h46 =>
        f_RM_extend_L69 F n a0 v2 (v3 + 1) h46
    else
      ck_bd (f_RM_writeTable F a0 h) fun _ h49 =>
      ck_as (gk h49 a0 = 12) <|
      ck_bd (f_RM_tracksOf F a0 v2 h49) fun r52 h53 =>
      some (r52, h53)
set_option maxRecDepth 100000 in
set_option maxHeartbeats 4000000 in
theorem f_RM_extend_L69_s (F : Nat)   : ∀ (n : Nat) (a0 : Nat) (v2 : Int32) (v3 : Int32) (h : ck_H) (r : Int32) (h' : ck_H), f_RM_extend_L69 F n a0 v2 v3 h = some (r, h') → Go k_RM_extend 69 [some (.ref a0), none, some (.int v2), some (.int v3), none] [] h (some (.int r), h') := by
  intro n
  induction n with
  | zero => intro a0 v2 v3 h r h' e; simp only [f_RM_extend_L69] at e; cases e
  | succ n ih =>
    intro a0 v2 v3 h r h' e
    rw [f_RM_extend_L69] at e
    refine go_iload_n rfl rfl ?_
    refine go_aload_n rfl rfl ?_
    replace e := ck_as_e e
    obtain ⟨hk_1, e⟩ := e
    refine go_get (v := .int (gI h a0 48)) rfl rfl hk_1 (by decide) rfl ?_
    refine go_icmp_ge (t := 180) rfl rfl (fun hx_2 => ?_) (fun hx_2 => ?_)
    · rw [if_pos hx_2] at e
      refine go_iconst (v := 4) rfl (by decide) ?_
      refine go_iload_n rfl rfl ?_
      refine go_imul rfl ?_
      refine go_aload_n rfl rfl ?_
      replace e := ck_some_e e
      obtain ⟨b3, hq_4, e⟩ := e
      refine go_get (v := .ref b3) rfl rfl hk_1 (by decide) (by show va_rf (gR h a0 38) = _; rw [hq_4]; rfl) ?_
      refine go_iload_n rfl rfl ?_
      replace e := ck_as_e e
      obtain ⟨hc_5, e⟩ := e
      refine go_iald rfl hc_5 ?_
      refine go_iadd rfl ?_
      refine go_iconst (v := 1) rfl (by decide) ?_
      refine go_isub rfl ?_
      generalize ((4 * v2) + (gI h b3 (v2 : Int32).toNatClampNeg)) - 1 = x6 at e ⊢
      replace e := ck_then_e e
      refine go_istore rfl rfl ?_
      show Go k_RM_extend 91 [some (.ref a0), none, some (.int v2), some (.int v3), some (.int x6)] [] h _
      refine go_aload_n rfl rfl ?_
      replace e := ck_some_e e
      obtain ⟨b7, hq_8, e⟩ := e
      refine go_get (v := .ref b7) rfl rfl hk_1 (by decide) (by show va_rf (gR h a0 46) = _; rw [hq_8]; rfl) ?_
      refine go_iload_n rfl rfl ?_
      replace e := ck_as_e e
      obtain ⟨hc_9, e⟩ := e
      refine go_iald rfl hc_9 ?_
      refine go_aload_n rfl rfl ?_
      replace e := ck_some_e e
      obtain ⟨b10, hq_11, e⟩ := e
      refine go_get (v := .ref b10) rfl rfl hk_1 (by decide) (by show va_rf (gR h a0 39) = _; rw [hq_11]; rfl) ?_
      refine go_iload rfl rfl ?_
      replace e := ck_as_e e
      obtain ⟨hc_12, e⟩ := e
      refine go_iald rfl hc_12 ?_
      refine go_aload_n rfl rfl ?_
      replace e := ck_some_e e
      obtain ⟨b13, hq_14, e⟩ := e
      refine go_get (v := .ref b13) rfl rfl hk_1 (by decide) (by show va_rf (gR h a0 40) = _; rw [hq_14]; rfl) ?_
      refine go_iload rfl rfl ?_
      replace e := ck_as_e e
      obtain ⟨hc_15, e⟩ := e
      refine go_iald rfl hc_15 ?_
      refine go_iadd rfl ?_
      refine go_icmp_ne (t := 134) rfl rfl (fun hx_16 => ?_) (fun hx_16 => ?_)
      · rw [if_pos hx_16] at e
        refine go_aload_n rfl rfl ?_
        replace e := ck_some_e e
        obtain ⟨b17, hq_18, e⟩ := e
        refine go_get (v := .ref b17) rfl rfl hk_1 (by decide) (by show va_rf (gR h a0 40) = _; rw [hq_18]; rfl) ?_
        refine go_iload rfl rfl ?_
        refine go_dup2 rfl rfl rfl ?_
        replace e := ck_as_e e
        obtain ⟨hc_19, e⟩ := e
        refine go_iald rfl hc_19 ?_
        refine go_aload_n rfl rfl ?_
        replace e := ck_some_e e
        obtain ⟨b20, hq_21, e⟩ := e
        refine go_get (v := .ref b20) rfl rfl hk_1 (by decide) (by show va_rf (gR h a0 47) = _; rw [hq_21]; rfl) ?_
        refine go_iload_n rfl rfl ?_
        replace e := ck_as_e e
        obtain ⟨hc_22, e⟩ := e
        refine go_iald rfl hc_22 ?_
        refine go_iadd rfl ?_
        replace e := ck_as_e e
        obtain ⟨hc_23, e⟩ := e
        refine go_iast rfl hc_23 ?_
        have hk_25 : gk (wI h b17 (x6 : Int32).toNatClampNeg ((gI h b17 (x6 : Int32).toNatClampNeg) + (gI h b20 (v3 : Int32).toNatClampNeg))) a0 = 12 := ck_kI.trans hk_1
        generalize wI h b17 (x6 : Int32).toNatClampNeg ((gI h b17 (x6 : Int32).toNatClampNeg) + (gI h b20 (v3 : Int32).toNatClampNeg)) = h24 at e hk_25 ⊢
        replace e := ck_then_e e
        refine go_goto (t := 174) rfl rfl ?_
        refine go_iinc (v := 1) rfl rfl (by decide) rfl ?_
        show Go k_RM_extend 177 [some (.ref a0), none, some (.int v2), some (.int (v3 + 1)), some (.int x6)] [] h24 _
        refine go_goto (t := 69) rfl rfl ?_
        refine go_forget (l := [some (.ref a0), none, some (.int v2), some (.int (v3 + 1)), none]) ⟨Or.inl rfl, Or.inl rfl, Or.inl rfl, Or.inl rfl, Or.inr ⟨rfl, fun _ q => by cases q; rfl⟩, trivial⟩ ?_
        exact ih _ _ _ _ _ _ e
      · rw [if_neg hx_16] at e
        refine go_aload_n rfl rfl ?_
        replace e := ck_some_e e
        obtain ⟨b26, hq_27, e⟩ := e
        refine go_get (v := .ref b26) rfl rfl hk_1 (by decide) (by show va_rf (gR h a0 39) = _; rw [hq_27]; rfl) ?_
        refine go_iload rfl rfl ?_
        refine go_iconst (v := 1) rfl (by decide) ?_
        refine go_iadd rfl ?_
        refine go_aload_n rfl rfl ?_
        replace e := ck_some_e e
        obtain ⟨b28, hq_29, e⟩ := e
        refine go_get (v := .ref b28) rfl rfl hk_1 (by decide) (by show va_rf (gR h a0 46) = _; rw [hq_29]; rfl) ?_
        refine go_iload_n rfl rfl ?_
        replace e := ck_as_e e
        obtain ⟨hc_30, e⟩ := e
        refine go_iald rfl hc_30 ?_
        replace e := ck_as_e e
        obtain ⟨hc_31, e⟩ := e
        refine go_iast rfl hc_31 ?_
        have hk_33 : gk (wI h b26 (x6 + 1 : Int32).toNatClampNeg (gI h b28 (v3 : Int32).toNatClampNeg)) a0 = 12 := ck_kI.trans hk_1
        generalize wI h b26 (x6 + 1 : Int32).toNatClampNeg (gI h b28 (v3 : Int32).toNatClampNeg) = h32 at e hk_33 ⊢
        replace e := ck_then_e e
        refine go_aload_n rfl rfl ?_
        replace e := ck_some_e e
        obtain ⟨b34, hq_35, e⟩ := e
        refine go_get (v := .ref b34) rfl rfl hk_33 (by decide) (by show va_rf (gR h32 a0 40) = _; rw [hq_35]; rfl) ?_
        refine go_iload rfl rfl ?_
        refine go_iconst (v := 1) rfl (by decide) ?_
        refine go_iadd rfl ?_
        refine go_aload_n rfl rfl ?_
        replace e := ck_some_e e
        obtain ⟨b36, hq_37, e⟩ := e
        refine go_get (v := .ref b36) rfl rfl hk_33 (by decide) (by show va_rf (gR h32 a0 47) = _; rw [hq_37]; rfl) ?_
        refine go_iload_n rfl rfl ?_
        replace e := ck_as_e e
        obtain ⟨hc_38, e⟩ := e
        refine go_iald rfl hc_38 ?_
        replace e := ck_as_e e
        obtain ⟨hc_39, e⟩ := e
        refine go_iast rfl hc_39 ?_
        have hk_41 : gk (wI h32 b34 (x6 + 1 : Int32).toNatClampNeg (gI h32 b36 (v3 : Int32).toNatClampNeg)) a0 = 12 := ck_kI.trans hk_33
        generalize wI h32 b34 (x6 + 1 : Int32).toNatClampNeg (gI h32 b36 (v3 : Int32).toNatClampNeg) = h40 at e hk_41 ⊢
        replace e := ck_then_e e
        refine go_aload_n rfl rfl ?_
        replace e := ck_some_e e
        obtain ⟨b42, hq_43, e⟩ := e
        refine go_get (v := .ref b42) rfl rfl hk_41 (by decide) (by show va_rf (gR h40 a0 38) = _; rw [hq_43]; rfl) ?_
        refine go_iload_n rfl rfl ?_
        refine go_dup2 rfl rfl rfl ?_
        replace e := ck_as_e e
        obtain ⟨hc_44, e⟩ := e
        refine go_iald rfl hc_44 ?_
        refine go_iconst (v := 1) rfl (by decide) ?_
        refine go_iadd rfl ?_
        replace e := ck_as_e e
        obtain ⟨hc_45, e⟩ := e
        refine go_iast rfl hc_45 ?_
        have hk_47 : gk (wI h40 b42 (v2 : Int32).toNatClampNeg ((gI h40 b42 (v2 : Int32).toNatClampNeg) + 1)) a0 = 12 := ck_kI.trans hk_41
        generalize wI h40 b42 (v2 : Int32).toNatClampNeg ((gI h40 b42 (v2 : Int32).toNatClampNeg) + 1) = h46 at e hk_47 ⊢
        replace e := ck_then_e e
        refine go_iinc (v := 1) rfl rfl (by decide) rfl ?_
        show Go k_RM_extend 177 [some (.ref a0), none, some (.int v2), some (.int (v3 + 1)), some (.int x6)] [] h46 _
        refine go_goto (t := 69) rfl rfl ?_
        refine go_forget (l := [some (.ref a0), none, some (.int v2), some (.int (v3 + 1)), none]) ⟨Or.inl rfl, Or.inl rfl, Or.inl rfl, Or.inl rfl, Or.inr ⟨rfl, fun _ q => by cases q; rfl⟩, trivial⟩ ?_
        exact ih _ _ _ _ _ _ e
    · rw [if_neg hx_2] at e
      refine go_aload_n rfl rfl ?_
      replace e := ck_bd_e e
      obtain ⟨r48, h49, e50, e⟩ := e
      refine go_callV (As := []) (b0 := a0) (rest := []) rfl rfl ⟨hk_1, by decide⟩ rfl ⟨Nat.le_of_ble_eq_true rfl, Nat.le_of_ble_eq_true rfl, Nat.le_of_ble_eq_true rfl, Nat.le_of_ble_eq_true rfl⟩ (s_RM_writeTable e50) ?_
      show Go k_RM_extend 184 [some (.ref a0), none, some (.int v2), some (.int v3), none] [] h49 _
      refine go_aload_n rfl rfl ?_
      refine go_iload_n rfl rfl ?_
      replace e := ck_as_e e
      obtain ⟨hk_51, e⟩ := e
      replace e := ck_bd_e e
      obtain ⟨r52, h53, e54, e⟩ := e
      refine go_callV (As := [.int v2]) (b0 := a0) (rest := []) rfl rfl ⟨hk_51, by decide⟩ rfl ⟨Nat.le_of_ble_eq_true rfl, Nat.le_of_ble_eq_true rfl, Nat.le_of_ble_eq_true rfl, Nat.le_of_ble_eq_true rfl⟩ (s_RM_tracksOf e54) ?_
      show Go k_RM_extend 189 [some (.ref a0), none, some (.int v2), some (.int v3), none] [.int r52] h53 _
      cases e
      exact go_ret rfl rfl
def f_RM_extend (F : Nat) (a0 : Nat) (v1 : Int32) (h : ck_H) : Option (Int32 × ck_H) :=
  ck_as (gk h a0 = 12) <|
  ck_bd (f_RM_takeName F a0 h) fun _ h3 =>
  ck_bd (f_RM_in F ((v1 : Int32).toInt64) 1 79 h3) fun r5 h6 =>
  if r5 = (0 : Int32) then
    some ((-2), h6)
  else
    ck_as (gk h6 a0 = 12) <|
    ck_bd (f_RM_findSet F a0 h6) fun r10 h11 =>
    if r10 = ((-1) : Int32) then
      some ((-1), h11)
    else
      ck_as (gk h11 a0 = 12) <|
      ck_some (gR h11 a0 35) fun b15 =>
      ck_as ((gk h11 b15 = 14 ∨ gk h11 b15 = 21) ∧ ¬ r10 < 0 ∧ (r10 : Int32).toNatClampNeg < gz h11 b15) <|
      if (gI h11 b15 (r10 : Int32).toNatClampNeg) = (3 : Int32) then
        some ((-3), h11)
      else
        ck_some (gR h11 a0 38) fun b19 =>
        ck_as ((gk h11 b19 = 14 ∨ gk h11 b19 = 21) ∧ ¬ r10 < 0 ∧ (r10 : Int32).toNatClampNeg < gz h11 b19) <|
        ck_bd (f_RM_finds F a0 v1 (4 - (gI h11 b19 (r10 : Int32).toNatClampNeg)) h11) fun r22 h23 =>
        if r22 = (0 : Int32) then
          some ((-4), h23)
        else
          ck_as (gk h23 a0 = 12) <|
          ck_bd (f_RM_clearRuns F a0 h23) fun _ h28 =>
          f_RM_extend_L69 F F a0 r10 0 h28
set_option maxRecDepth 100000 in
set_option maxHeartbeats 4000000 in
theorem s_RM_extend {F : Nat} {a0 : Nat} {v1 : Int32} {h h' : ck_H} {r : Int32} (e : f_RM_extend F a0 v1 h = some (r, h')) : Go k_RM_extend 0 (ck_in [.ref a0, .int v1] 5) [] h (some (.int r), h') := by
  unfold f_RM_extend at e
  show Go k_RM_extend 0 [some (.ref a0), some (.int v1), none, none, none] [] h _
  refine go_aload_n rfl rfl ?_
  replace e := ck_as_e e
  obtain ⟨hk_1, e⟩ := e
  replace e := ck_bd_e e
  obtain ⟨r2, h3, e4, e⟩ := e
  refine go_callV (As := []) (b0 := a0) (rest := []) rfl rfl ⟨hk_1, by decide⟩ rfl ⟨Nat.le_of_ble_eq_true rfl, Nat.le_of_ble_eq_true rfl, Nat.le_of_ble_eq_true rfl, Nat.le_of_ble_eq_true rfl⟩ (s_RM_takeName e4) ?_
  show Go k_RM_extend 4 [some (.ref a0), some (.int v1), none, none, none] [] h3 _
  refine go_iload_n rfl rfl ?_
  refine go_i2l rfl ?_
  refine go_lconst (v := 1) rfl (by decide) ?_
  refine go_ldc2 (v := 79) rfl rfl ?_
  replace e := ck_bd_e e
  obtain ⟨r5, h6, e7, e⟩ := e
  refine go_callS (As := [.long ((v1 : Int32).toInt64), .long 1, .long 79]) (rest := []) rfl rfl rfl ⟨Nat.le_of_ble_eq_true rfl, Nat.le_of_ble_eq_true rfl, Nat.le_of_ble_eq_true rfl, Nat.le_of_ble_eq_true rfl⟩ (s_RM_in e7) ?_
  show Go k_RM_extend 13 [some (.ref a0), some (.int v1), none, none, none] [.int r5] h6 _
  refine go_if_ne (t := 19) rfl rfl (fun hx_8 => ?_) (fun hx_8 => ?_)
  · rw [if_pos hx_8] at e
    refine go_bipush (v := (-2)) rfl (by decide) ?_
    cases e
    exact go_ret rfl rfl
  · rw [if_neg hx_8] at e
    refine go_aload_n rfl rfl ?_
    replace e := ck_as_e e
    obtain ⟨hk_9, e⟩ := e
    replace e := ck_bd_e e
    obtain ⟨r10, h11, e12, e⟩ := e
    refine go_callV (As := []) (b0 := a0) (rest := []) rfl rfl ⟨hk_9, by decide⟩ rfl ⟨Nat.le_of_ble_eq_true rfl, Nat.le_of_ble_eq_true rfl, Nat.le_of_ble_eq_true rfl, Nat.le_of_ble_eq_true rfl⟩ (s_RM_findSet e12) ?_
    show Go k_RM_extend 23 [some (.ref a0), some (.int v1), none, none, none] [.int r10] h11 _
    refine go_istore_n rfl rfl ?_
    show Go k_RM_extend 24 [some (.ref a0), some (.int v1), some (.int r10), none, none] [] h11 _
    refine go_iload_n rfl rfl ?_
    refine go_iconst (v := (-1)) rfl (by decide) ?_
    refine go_icmp_ne (t := 31) rfl rfl (fun hx_13 => ?_) (fun hx_13 => ?_)
    · rw [if_pos hx_13] at e
      refine go_iconst (v := (-1)) rfl (by decide) ?_
      cases e
      exact go_ret rfl rfl
    · rw [if_neg hx_13] at e
      refine go_aload_n rfl rfl ?_
      replace e := ck_as_e e
      obtain ⟨hk_14, e⟩ := e
      replace e := ck_some_e e
      obtain ⟨b15, hq_16, e⟩ := e
      refine go_get (v := .ref b15) rfl rfl hk_14 (by decide) (by show va_rf (gR h11 a0 35) = _; rw [hq_16]; rfl) ?_
      refine go_iload_n rfl rfl ?_
      replace e := ck_as_e e
      obtain ⟨hc_17, e⟩ := e
      refine go_iald rfl hc_17 ?_
      refine go_iconst (v := 3) rfl (by decide) ?_
      refine go_icmp_ne (t := 44) rfl rfl (fun hx_18 => ?_) (fun hx_18 => ?_)
      · rw [if_pos hx_18] at e
        refine go_bipush (v := (-3)) rfl (by decide) ?_
        cases e
        exact go_ret rfl rfl
      · rw [if_neg hx_18] at e
        refine go_aload_n rfl rfl ?_
        refine go_iload_n rfl rfl ?_
        refine go_iconst (v := 4) rfl (by decide) ?_
        refine go_aload_n rfl rfl ?_
        replace e := ck_some_e e
        obtain ⟨b19, hq_20, e⟩ := e
        refine go_get (v := .ref b19) rfl rfl hk_14 (by decide) (by show va_rf (gR h11 a0 38) = _; rw [hq_20]; rfl) ?_
        refine go_iload_n rfl rfl ?_
        replace e := ck_as_e e
        obtain ⟨hc_21, e⟩ := e
        refine go_iald rfl hc_21 ?_
        refine go_isub rfl ?_
        replace e := ck_bd_e e
        obtain ⟨r22, h23, e24, e⟩ := e
        refine go_callV (As := [.int v1, .int (4 - (gI h11 b19 (r10 : Int32).toNatClampNeg))]) (b0 := a0) (rest := []) rfl rfl ⟨hk_14, by decide⟩ rfl ⟨Nat.le_of_ble_eq_true rfl, Nat.le_of_ble_eq_true rfl, Nat.le_of_ble_eq_true rfl, Nat.le_of_ble_eq_true rfl⟩ (s_RM_finds e24) ?_
        show Go k_RM_extend 57 [some (.ref a0), some (.int v1), some (.int r10), none, none] [.int r22] h23 _
        refine go_if_ne (t := 63) rfl rfl (fun hx_25 => ?_) (fun hx_25 => ?_)
        · rw [if_pos hx_25] at e
          refine go_bipush (v := (-4)) rfl (by decide) ?_
          cases e
          exact go_ret rfl rfl
        · rw [if_neg hx_25] at e
          refine go_aload_n rfl rfl ?_
          replace e := ck_as_e e
          obtain ⟨hk_26, e⟩ := e
          replace e := ck_bd_e e
          obtain ⟨r27, h28, e29, e⟩ := e
          refine go_callV (As := []) (b0 := a0) (rest := []) rfl rfl ⟨hk_26, by decide⟩ rfl ⟨Nat.le_of_ble_eq_true rfl, Nat.le_of_ble_eq_true rfl, Nat.le_of_ble_eq_true rfl, Nat.le_of_ble_eq_true rfl⟩ (s_RM_clearRuns e29) ?_
          show Go k_RM_extend 67 [some (.ref a0), some (.int v1), some (.int r10), none, none] [] h28 _
          refine go_iconst (v := 0) rfl (by decide) ?_
          refine go_istore_n rfl rfl ?_
          show Go k_RM_extend 69 [some (.ref a0), some (.int v1), some (.int r10), some (.int 0), none] [] h28 _
          refine go_forget (l := [some (.ref a0), none, some (.int r10), some (.int 0), none]) ⟨Or.inl rfl, Or.inr ⟨rfl, fun _ q => by cases q; rfl⟩, Or.inl rfl, Or.inl rfl, Or.inl rfl, trivial⟩ ?_
          exact f_RM_extend_L69_s F F _ _ _ _ _ _ e
def f_RM_hasSet (F : Nat) (a0 : Nat) (v1 : Int32) (h : ck_H) : Option (Int32 × ck_H) :=
  ck_bd (f_RM_in F ((v1 : Int32).toInt64) 0 9 h) fun r1 h2 =>
  if r1 = (0 : Int32) then
    some (0, h2)
  else
    ck_as (gk h2 a0 = 12) <|
    ck_some (gR h2 a0 32) fun b6 =>
    ck_as ((gk h2 b6 = 13 ∨ gk h2 b6 = 15) ∧ ¬ v1 < 0 ∧ (v1 : Int32).toNatClampNeg < gz h2 b6) <|
    if (gI h2 b6 (v1 : Int32).toNatClampNeg) = (0 : Int32) then
      some (0, h2)
    else
      some (1, h2)
set_option maxRecDepth 100000 in
set_option maxHeartbeats 4000000 in
theorem s_RM_hasSet {F : Nat} {a0 : Nat} {v1 : Int32} {h h' : ck_H} {r : Int32} (e : f_RM_hasSet F a0 v1 h = some (r, h')) : Go k_RM_hasSet 0 (ck_in [.ref a0, .int v1] 2) [] h (some (.int r), h') := by
  unfold f_RM_hasSet at e
  show Go k_RM_hasSet 0 [some (.ref a0), some (.int v1)] [] h _
  refine go_iload_n rfl rfl ?_
  refine go_i2l rfl ?_
  refine go_lconst (v := 0) rfl (by decide) ?_
  refine go_ldc2 (v := 9) rfl rfl ?_
  replace e := ck_bd_e e
  obtain ⟨r1, h2, e3, e⟩ := e
  refine go_callS (As := [.long ((v1 : Int32).toInt64), .long 0, .long 9]) (rest := []) rfl rfl rfl ⟨Nat.le_of_ble_eq_true rfl, Nat.le_of_ble_eq_true rfl, Nat.le_of_ble_eq_true rfl, Nat.le_of_ble_eq_true rfl⟩ (s_RM_in e3) ?_
  show Go k_RM_hasSet 9 [some (.ref a0), some (.int v1)] [.int r1] h2 _
  refine go_if_eq (t := 25) rfl rfl (fun hx_4 => ?_) (fun hx_4 => ?_)
  · rw [if_pos hx_4] at e
    refine go_iconst (v := 0) rfl (by decide) ?_
    cases e
    exact go_ret rfl (ck_rvb rfl (Or.inl rfl))
  · rw [if_neg hx_4] at e
    refine go_aload_n rfl rfl ?_
    replace e := ck_as_e e
    obtain ⟨hk_5, e⟩ := e
    replace e := ck_some_e e
    obtain ⟨b6, hq_7, e⟩ := e
    refine go_get (v := .ref b6) rfl rfl hk_5 (by decide) (by show va_rf (gR h2 a0 32) = _; rw [hq_7]; rfl) ?_
    refine go_iload_n rfl rfl ?_
    replace e := ck_as_e e
    obtain ⟨hc_8, e⟩ := e
    refine go_bald rfl hc_8 ?_
    refine go_if_eq (t := 25) rfl rfl (fun hx_9 => ?_) (fun hx_9 => ?_)
    · rw [if_pos hx_9] at e
      refine go_iconst (v := 0) rfl (by decide) ?_
      cases e
      exact go_ret rfl (ck_rvb rfl (Or.inl rfl))
    · rw [if_neg hx_9] at e
      refine go_iconst (v := 1) rfl (by decide) ?_
      refine go_goto (t := 26) rfl rfl ?_
      cases e
      exact go_ret rfl (ck_rvb rfl (Or.inr rfl))
def f_RM_dataSet (F : Nat) (a0 : Nat) (v1 : Int32) (v2 : Int32) (h : ck_H) : Option (Int32 × ck_H) :=
  ck_as (gk h a0 = 12) <|
  ck_bd (f_RM_hasSet F a0 v1 h) fun r2 h3 =>
  if r2 = (0 : Int32) then
    some ((-1), h3)
  else
    if v2 = 0 then
      ck_as (gk h3 a0 = 12) <|
      ck_some (gR h3 a0 35) fun b8 =>
      ck_as ((gk h3 b8 = 14 ∨ gk h3 b8 = 21) ∧ ¬ v1 < 0 ∧ (v1 : Int32).toNatClampNeg < gz h3 b8) <|
      some (gI h3 b8 (v1 : Int32).toNatClampNeg, h3)
    else
    if v2 = 1 then
      ck_as (gk h3 a0 = 12) <|
      ck_some (gR h3 a0 36) fun b13 =>
      ck_as ((gk h3 b13 = 14 ∨ gk h3 b13 = 21) ∧ ¬ v1 < 0 ∧ (v1 : Int32).toNatClampNeg < gz h3 b13) <|
      some (gI h3 b13 (v1 : Int32).toNatClampNeg, h3)
    else
    if v2 = 2 then
      ck_as (gk h3 a0 = 12) <|
      ck_some (gR h3 a0 37) fun b18 =>
      ck_as ((gk h3 b18 = 14 ∨ gk h3 b18 = 21) ∧ ¬ v1 < 0 ∧ (v1 : Int32).toNatClampNeg < gz h3 b18) <|
      some (gI h3 b18 (v1 : Int32).toNatClampNeg, h3)
    else
    if v2 = 3 then
      ck_as (gk h3 a0 = 12) <|
      ck_bd (f_RM_tracksOf F a0 v1 h3) fun r23 h24 =>
      some (r23, h24)
    else
    if v2 = 4 then
      ck_as (gk h3 a0 = 12) <|
      ck_some (gR h3 a0 38) fun b28 =>
      ck_as ((gk h3 b28 = 14 ∨ gk h3 b28 = 21) ∧ ¬ v1 < 0 ∧ (v1 : Int32).toNatClampNeg < gz h3 b28) <|
      some (gI h3 b28 (v1 : Int32).toNatClampNeg, h3)
    else
    if v2 = 5 then
      ck_as (gk h3 a0 = 12) <|
      ck_bd (f_RM_opens F a0 v1 h3) fun r33 h34 =>
      some (r33, h34)
    else
    if v2 = 6 then
      ck_as (gk h3 a0 = 12) <|
      ck_some (gR h3 a0 35) fun b38 =>
      ck_as ((gk h3 b38 = 14 ∨ gk h3 b38 = 21) ∧ ¬ v1 < 0 ∧ (v1 : Int32).toNatClampNeg < gz h3 b38) <|
      if (gI h3 b38 (v1 : Int32).toNatClampNeg) = (4 : Int32) then
        ck_some (gR h3 a0 45) fun b42 =>
        ck_as ((gk h3 b42 = 14 ∨ gk h3 b42 = 21) ∧ ¬ v1 < 0 ∧ (v1 : Int32).toNatClampNeg < gz h3 b42) <|
        some (gI h3 b42 (v1 : Int32).toNatClampNeg, h3)
      else
        some (0, h3)
    else
      ck_bd (f_RM_in F ((v2 : Int32).toInt64) 10 17 h3) fun r45 h46 =>
      if r45 = (0 : Int32) then
        ck_as (gk h46 a0 = 12) <|
        ck_some (gR h46 a0 38) fun b50 =>
        ck_as ((gk h46 b50 = 14 ∨ gk h46 b50 = 21) ∧ ¬ v1 < 0 ∧ (v1 : Int32).toNatClampNeg < gz h46 b50) <|
        ck_bd (f_RM_in F ((v2 : Int32).toInt64) 20 (19 + ((2 * (gI h46 b50 (v1 : Int32).toNatClampNeg) : Int32).toInt64)) h46) fun r53 h54 =>
        if r53 = (0 : Int32) then
          some ((-1), h54)
        else
          ck_then ((4 * v1) + ((v2 - 20) / 2)) fun x57 =>
          if (v2 - v2 / 2 * 2) = (0 : Int32) then
            ck_as (gk h54 a0 = 12) <|
            ck_some (gR h54 a0 39) fun b60 =>
            ck_as ((gk h54 b60 = 14 ∨ gk h54 b60 = 21) ∧ ¬ x57 < 0 ∧ (x57 : Int32).toNatClampNeg < gz h54 b60) <|
            some (gI h54 b60 (x57 : Int32).toNatClampNeg, h54)
          else
            ck_as (gk h54 a0 = 12) <|
            ck_some (gR h54 a0 40) fun b64 =>
            ck_as ((gk h54 b64 = 14 ∨ gk h54 b64 = 21) ∧ ¬ x57 < 0 ∧ (x57 : Int32).toNatClampNeg < gz h54 b64) <|
            some (gI h54 b64 (x57 : Int32).toNatClampNeg, h54)
      else
        ck_as (gk h46 a0 = 12) <|
        ck_some (gR h46 a0 33) fun b68 =>
        ck_as ((gk h46 b68 = 13 ∨ gk h46 b68 = 15) ∧ ¬ (((8 * v1) + v2) - 10) < 0 ∧ (((8 * v1) + v2) - 10 : Int32).toNatClampNeg < gz h46 b68) <|
        some ((gI h46 b68 (((8 * v1) + v2) - 10 : Int32).toNatClampNeg) &&& 255, h46)
set_option maxRecDepth 100000 in
set_option maxHeartbeats 4000000 in
theorem s_RM_dataSet {F : Nat} {a0 : Nat} {v1 : Int32} {v2 : Int32} {h h' : ck_H} {r : Int32} (e : f_RM_dataSet F a0 v1 v2 h = some (r, h')) : Go k_RM_dataSet 0 (ck_in [.ref a0, .int v1, .int v2] 4) [] h (some (.int r), h') := by
  unfold f_RM_dataSet at e
  show Go k_RM_dataSet 0 [some (.ref a0), some (.int v1), some (.int v2), none] [] h _
  refine go_aload_n rfl rfl ?_
  refine go_iload_n rfl rfl ?_
  replace e := ck_as_e e
  obtain ⟨hk_1, e⟩ := e
  replace e := ck_bd_e e
  obtain ⟨r2, h3, e4, e⟩ := e
  refine go_callV (As := [.int v1]) (b0 := a0) (rest := []) rfl rfl ⟨hk_1, by decide⟩ rfl ⟨Nat.le_of_ble_eq_true rfl, Nat.le_of_ble_eq_true rfl, Nat.le_of_ble_eq_true rfl, Nat.le_of_ble_eq_true rfl⟩ (s_RM_hasSet e4) ?_
  show Go k_RM_dataSet 5 [some (.ref a0), some (.int v1), some (.int v2), none] [.int r2] h3 _
  refine go_if_ne (t := 10) rfl rfl (fun hx_5 => ?_) (fun hx_5 => ?_)
  · rw [if_pos hx_5] at e
    refine go_iconst (v := (-1)) rfl (by decide) ?_
    cases e
    exact go_ret rfl rfl
  · rw [if_neg hx_5] at e
    refine go_iload_n rfl rfl ?_
    by_cases hx_6 : v2 = 0
    · rw [if_pos hx_6] at e
      refine go_tswI (off := 41) (t := 52) rfl (by rw [hx_6]; decide) (by rw [hx_6]; rfl) rfl ?_
      refine go_aload_n rfl rfl ?_
      replace e := ck_as_e e
      obtain ⟨hk_7, e⟩ := e
      replace e := ck_some_e e
      obtain ⟨b8, hq_9, e⟩ := e
      refine go_get (v := .ref b8) rfl rfl hk_7 (by decide) (by show va_rf (gR h3 a0 35) = _; rw [hq_9]; rfl) ?_
      refine go_iload_n rfl rfl ?_
      replace e := ck_as_e e
      obtain ⟨hc_10, e⟩ := e
      refine go_iald rfl hc_10 ?_
      cases e
      exact go_ret rfl rfl
    rw [if_neg hx_6] at e
    by_cases hx_11 : v2 = 1
    · rw [if_pos hx_11] at e
      refine go_tswI (off := 48) (t := 59) rfl (by rw [hx_11]; decide) (by rw [hx_11]; rfl) rfl ?_
      refine go_aload_n rfl rfl ?_
      replace e := ck_as_e e
      obtain ⟨hk_12, e⟩ := e
      replace e := ck_some_e e
      obtain ⟨b13, hq_14, e⟩ := e
      refine go_get (v := .ref b13) rfl rfl hk_12 (by decide) (by show va_rf (gR h3 a0 36) = _; rw [hq_14]; rfl) ?_
      refine go_iload_n rfl rfl ?_
      replace e := ck_as_e e
      obtain ⟨hc_15, e⟩ := e
      refine go_iald rfl hc_15 ?_
      cases e
      exact go_ret rfl rfl
    rw [if_neg hx_11] at e
    by_cases hx_16 : v2 = 2
    · rw [if_pos hx_16] at e
      refine go_tswI (off := 55) (t := 66) rfl (by rw [hx_16]; decide) (by rw [hx_16]; rfl) rfl ?_
      refine go_aload_n rfl rfl ?_
      replace e := ck_as_e e
      obtain ⟨hk_17, e⟩ := e
      replace e := ck_some_e e
      obtain ⟨b18, hq_19, e⟩ := e
      refine go_get (v := .ref b18) rfl rfl hk_17 (by decide) (by show va_rf (gR h3 a0 37) = _; rw [hq_19]; rfl) ?_
      refine go_iload_n rfl rfl ?_
      replace e := ck_as_e e
      obtain ⟨hc_20, e⟩ := e
      refine go_iald rfl hc_20 ?_
      cases e
      exact go_ret rfl rfl
    rw [if_neg hx_16] at e
    by_cases hx_21 : v2 = 3
    · rw [if_pos hx_21] at e
      refine go_tswI (off := 62) (t := 73) rfl (by rw [hx_21]; decide) (by rw [hx_21]; rfl) rfl ?_
      refine go_aload_n rfl rfl ?_
      refine go_iload_n rfl rfl ?_
      replace e := ck_as_e e
      obtain ⟨hk_22, e⟩ := e
      replace e := ck_bd_e e
      obtain ⟨r23, h24, e25, e⟩ := e
      refine go_callV (As := [.int v1]) (b0 := a0) (rest := []) rfl rfl ⟨hk_22, by decide⟩ rfl ⟨Nat.le_of_ble_eq_true rfl, Nat.le_of_ble_eq_true rfl, Nat.le_of_ble_eq_true rfl, Nat.le_of_ble_eq_true rfl⟩ (s_RM_tracksOf e25) ?_
      show Go k_RM_dataSet 78 [some (.ref a0), some (.int v1), some (.int v2), none] [.int r23] h24 _
      cases e
      exact go_ret rfl rfl
    rw [if_neg hx_21] at e
    by_cases hx_26 : v2 = 4
    · rw [if_pos hx_26] at e
      refine go_tswI (off := 68) (t := 79) rfl (by rw [hx_26]; decide) (by rw [hx_26]; rfl) rfl ?_
      refine go_aload_n rfl rfl ?_
      replace e := ck_as_e e
      obtain ⟨hk_27, e⟩ := e
      replace e := ck_some_e e
      obtain ⟨b28, hq_29, e⟩ := e
      refine go_get (v := .ref b28) rfl rfl hk_27 (by decide) (by show va_rf (gR h3 a0 38) = _; rw [hq_29]; rfl) ?_
      refine go_iload_n rfl rfl ?_
      replace e := ck_as_e e
      obtain ⟨hc_30, e⟩ := e
      refine go_iald rfl hc_30 ?_
      cases e
      exact go_ret rfl rfl
    rw [if_neg hx_26] at e
    by_cases hx_31 : v2 = 5
    · rw [if_pos hx_31] at e
      refine go_tswI (off := 75) (t := 86) rfl (by rw [hx_31]; decide) (by rw [hx_31]; rfl) rfl ?_
      refine go_aload_n rfl rfl ?_
      refine go_iload_n rfl rfl ?_
      replace e := ck_as_e e
      obtain ⟨hk_32, e⟩ := e
      replace e := ck_bd_e e
      obtain ⟨r33, h34, e35, e⟩ := e
      refine go_callV (As := [.int v1]) (b0 := a0) (rest := []) rfl rfl ⟨hk_32, by decide⟩ rfl ⟨Nat.le_of_ble_eq_true rfl, Nat.le_of_ble_eq_true rfl, Nat.le_of_ble_eq_true rfl, Nat.le_of_ble_eq_true rfl⟩ (s_RM_opens e35) ?_
      show Go k_RM_dataSet 91 [some (.ref a0), some (.int v1), some (.int v2), none] [.int r33] h34 _
      cases e
      exact go_ret rfl rfl
    rw [if_neg hx_31] at e
    by_cases hx_36 : v2 = 6
    · rw [if_pos hx_36] at e
      refine go_tswI (off := 81) (t := 92) rfl (by rw [hx_36]; decide) (by rw [hx_36]; rfl) rfl ?_
      refine go_aload_n rfl rfl ?_
      replace e := ck_as_e e
      obtain ⟨hk_37, e⟩ := e
      replace e := ck_some_e e
      obtain ⟨b38, hq_39, e⟩ := e
      refine go_get (v := .ref b38) rfl rfl hk_37 (by decide) (by show va_rf (gR h3 a0 35) = _; rw [hq_39]; rfl) ?_
      refine go_iload_n rfl rfl ?_
      replace e := ck_as_e e
      obtain ⟨hc_40, e⟩ := e
      refine go_iald rfl hc_40 ?_
      refine go_iconst (v := 4) rfl (by decide) ?_
      refine go_icmp_ne (t := 111) rfl rfl (fun hx_41 => ?_) (fun hx_41 => ?_)
      · rw [if_pos hx_41] at e
        refine go_aload_n rfl rfl ?_
        replace e := ck_some_e e
        obtain ⟨b42, hq_43, e⟩ := e
        refine go_get (v := .ref b42) rfl rfl hk_37 (by decide) (by show va_rf (gR h3 a0 45) = _; rw [hq_43]; rfl) ?_
        refine go_iload_n rfl rfl ?_
        replace e := ck_as_e e
        obtain ⟨hc_44, e⟩ := e
        refine go_iald rfl hc_44 ?_
        refine go_goto (t := 112) rfl rfl ?_
        cases e
        exact go_ret rfl rfl
      · rw [if_neg hx_41] at e
        refine go_iconst (v := 0) rfl (by decide) ?_
        cases e
        exact go_ret rfl rfl
    rw [if_neg hx_36] at e
    have hz_ : (v2 : Int32).toInt < 0 ∨ 6 < (v2 : Int32).toInt := by
      have z0 := lv_neT hx_6 (k := 0) (a := 0) rfl
      have z1 := lv_neT hx_11 (k := 1) (a := 1) rfl
      have z2 := lv_neT hx_16 (k := 2) (a := 2) rfl
      have z3 := lv_neT hx_21 (k := 3) (a := 3) rfl
      have z4 := lv_neT hx_26 (k := 4) (a := 4) rfl
      have z5 := lv_neT hx_31 (k := 5) (a := 5) rfl
      have z6 := lv_neT hx_36 (k := 6) (a := 6) rfl
      omega
    refine go_tswO (m := k_RM_dataSet) (pc := 11) (t := 113) (d := 102) (offs := #[41, 48, 55, 62, 68, 75, 81]) rfl hz_ rfl ?_
    refine go_iload_n rfl rfl ?_
    refine go_i2l rfl ?_
    refine go_ldc2 (v := 10) rfl rfl ?_
    refine go_ldc2 (v := 17) rfl rfl ?_
    replace e := ck_bd_e e
    obtain ⟨r45, h46, e47, e⟩ := e
    refine go_callS (As := [.long ((v2 : Int32).toInt64), .long 10, .long 17]) (rest := []) rfl rfl rfl ⟨Nat.le_of_ble_eq_true rfl, Nat.le_of_ble_eq_true rfl, Nat.le_of_ble_eq_true rfl, Nat.le_of_ble_eq_true rfl⟩ (s_RM_in e47) ?_
    show Go k_RM_dataSet 124 [some (.ref a0), some (.int v1), some (.int v2), none] [.int r45] h46 _
    refine go_if_eq (t := 146) rfl rfl (fun hx_48 => ?_) (fun hx_48 => ?_)
    · rw [if_pos hx_48] at e
      refine go_iload_n rfl rfl ?_
      refine go_i2l rfl ?_
      refine go_ldc2 (v := 20) rfl rfl ?_
      refine go_ldc2 (v := 19) rfl rfl ?_
      refine go_iconst (v := 2) rfl (by decide) ?_
      refine go_aload_n rfl rfl ?_
      replace e := ck_as_e e
      obtain ⟨hk_49, e⟩ := e
      replace e := ck_some_e e
      obtain ⟨b50, hq_51, e⟩ := e
      refine go_get (v := .ref b50) rfl rfl hk_49 (by decide) (by show va_rf (gR h46 a0 38) = _; rw [hq_51]; rfl) ?_
      refine go_iload_n rfl rfl ?_
      replace e := ck_as_e e
      obtain ⟨hc_52, e⟩ := e
      refine go_iald rfl hc_52 ?_
      refine go_imul rfl ?_
      refine go_i2l rfl ?_
      refine go_ladd rfl ?_
      replace e := ck_bd_e e
      obtain ⟨r53, h54, e55, e⟩ := e
      refine go_callS (As := [.long ((v2 : Int32).toInt64), .long 20, .long (19 + ((2 * (gI h46 b50 (v1 : Int32).toNatClampNeg) : Int32).toInt64))]) (rest := []) rfl rfl rfl ⟨Nat.le_of_ble_eq_true rfl, Nat.le_of_ble_eq_true rfl, Nat.le_of_ble_eq_true rfl, Nat.le_of_ble_eq_true rfl⟩ (s_RM_in e55) ?_
      show Go k_RM_dataSet 167 [some (.ref a0), some (.int v1), some (.int v2), none] [.int r53] h54 _
      refine go_if_ne (t := 172) rfl rfl (fun hx_56 => ?_) (fun hx_56 => ?_)
      · rw [if_pos hx_56] at e
        refine go_iconst (v := (-1)) rfl (by decide) ?_
        cases e
        exact go_ret rfl rfl
      · rw [if_neg hx_56] at e
        refine go_iconst (v := 4) rfl (by decide) ?_
        refine go_iload_n rfl rfl ?_
        refine go_imul rfl ?_
        refine go_iload_n rfl rfl ?_
        refine go_bipush (v := 20) rfl (by decide) ?_
        refine go_isub rfl ?_
        refine go_iconst (v := 2) rfl (by decide) ?_
        refine go_idiv rfl (by decide) ?_
        refine go_iadd rfl ?_
        generalize (4 * v1) + ((v2 - 20) / 2) = x57 at e ⊢
        replace e := ck_then_e e
        refine go_istore_n rfl rfl ?_
        show Go k_RM_dataSet 183 [some (.ref a0), some (.int v1), some (.int v2), some (.int x57)] [] h54 _
        refine go_iload_n rfl rfl ?_
        refine go_iconst (v := 2) rfl (by decide) ?_
        refine go_irem rfl (by decide) ?_
        refine go_if_ne (t := 198) rfl rfl (fun hx_58 => ?_) (fun hx_58 => ?_)
        · rw [if_pos hx_58] at e
          refine go_aload_n rfl rfl ?_
          replace e := ck_as_e e
          obtain ⟨hk_59, e⟩ := e
          replace e := ck_some_e e
          obtain ⟨b60, hq_61, e⟩ := e
          refine go_get (v := .ref b60) rfl rfl hk_59 (by decide) (by show va_rf (gR h54 a0 39) = _; rw [hq_61]; rfl) ?_
          refine go_iload_n rfl rfl ?_
          replace e := ck_as_e e
          obtain ⟨hc_62, e⟩ := e
          refine go_iald rfl hc_62 ?_
          refine go_goto (t := 204) rfl rfl ?_
          cases e
          exact go_ret rfl rfl
        · rw [if_neg hx_58] at e
          refine go_aload_n rfl rfl ?_
          replace e := ck_as_e e
          obtain ⟨hk_63, e⟩ := e
          replace e := ck_some_e e
          obtain ⟨b64, hq_65, e⟩ := e
          refine go_get (v := .ref b64) rfl rfl hk_63 (by decide) (by show va_rf (gR h54 a0 40) = _; rw [hq_65]; rfl) ?_
          refine go_iload_n rfl rfl ?_
          replace e := ck_as_e e
          obtain ⟨hc_66, e⟩ := e
          refine go_iald rfl hc_66 ?_
          cases e
          exact go_ret rfl rfl
    · rw [if_neg hx_48] at e
      refine go_aload_n rfl rfl ?_
      replace e := ck_as_e e
      obtain ⟨hk_67, e⟩ := e
      replace e := ck_some_e e
      obtain ⟨b68, hq_69, e⟩ := e
      refine go_get (v := .ref b68) rfl rfl hk_67 (by decide) (by show va_rf (gR h46 a0 33) = _; rw [hq_69]; rfl) ?_
      refine go_bipush (v := 8) rfl (by decide) ?_
      refine go_iload_n rfl rfl ?_
      refine go_imul rfl ?_
      refine go_iload_n rfl rfl ?_
      refine go_iadd rfl ?_
      refine go_bipush (v := 10) rfl (by decide) ?_
      refine go_isub rfl ?_
      replace e := ck_as_e e
      obtain ⟨hc_70, e⟩ := e
      refine go_bald rfl hc_70 ?_
      refine go_sipush (v := 255) rfl (by decide) ?_
      refine go_iand rfl ?_
      cases e
      exact go_ret rfl rfl
def f_RM_count_L38 (F : Nat)  : Nat → Nat → Int32 → Int32 → ck_H → Option (Int32 × ck_H)
  | 0, _, _, _, _ => none
  | n + 1, a0, v2, v3, h =>
    if v3 < (80 : Int32) then
      ck_as (gk h a0 = 12) <|
      ck_bd (f_RM_isFree F a0 v3 h) fun r3 h4 =>
      if r3 = (0 : Int32) then
        ck_then (v2 + 0) fun x7 =>
        f_RM_count_L38 F n a0 x7 (v3 + 1) h4
      else
        ck_then (v2 + 1) fun x8 =>
        f_RM_count_L38 F n a0 x8 (v3 + 1) h4
    else
      some (v2, h)
set_option maxRecDepth 100000 in
set_option maxHeartbeats 4000000 in
theorem f_RM_count_L38_s (F : Nat)   : ∀ (n : Nat) (a0 : Nat) (v2 : Int32) (v3 : Int32) (h : ck_H) (r : Int32) (h' : ck_H), f_RM_count_L38 F n a0 v2 v3 h = some (r, h') → Go k_RM_count 38 [some (.ref a0), none, some (.int v2), some (.int v3)] [] h (some (.int r), h') := by
  intro n
  induction n with
  | zero => intro a0 v2 v3 h r h' e; simp only [f_RM_count_L38] at e; cases e
  | succ n ih =>
    intro a0 v2 v3 h r h' e
    rw [f_RM_count_L38] at e
    refine go_iload_n rfl rfl ?_
    refine go_bipush (v := 80) rfl (by decide) ?_
    refine go_icmp_ge (t := 66) rfl rfl (fun hx_1 => ?_) (fun hx_1 => ?_)
    · rw [if_pos hx_1] at e
      refine go_iload_n rfl rfl ?_
      refine go_aload_n rfl rfl ?_
      refine go_iload_n rfl rfl ?_
      replace e := ck_as_e e
      obtain ⟨hk_2, e⟩ := e
      replace e := ck_bd_e e
      obtain ⟨r3, h4, e5, e⟩ := e
      refine go_callV (As := [.int v3]) (b0 := a0) (rest := [.int v2]) rfl rfl ⟨hk_2, by decide⟩ rfl ⟨Nat.le_of_ble_eq_true rfl, Nat.le_of_ble_eq_true rfl, Nat.le_of_ble_eq_true rfl, Nat.le_of_ble_eq_true rfl⟩ (s_RM_isFree e5) ?_
      show Go k_RM_count 50 [some (.ref a0), none, some (.int v2), some (.int v3)] [.int r3, .int v2] h4 _
      refine go_if_eq (t := 57) rfl rfl (fun hx_6 => ?_) (fun hx_6 => ?_)
      · rw [if_pos hx_6] at e
        refine go_iconst (v := 0) rfl (by decide) ?_
        refine go_iadd rfl ?_
        generalize v2 + 0 = x7 at e ⊢
        replace e := ck_then_e e
        refine go_istore_n rfl rfl ?_
        show Go k_RM_count 60 [some (.ref a0), none, some (.int x7), some (.int v3)] [] h4 _
        refine go_iinc (v := 1) rfl rfl (by decide) rfl ?_
        show Go k_RM_count 63 [some (.ref a0), none, some (.int x7), some (.int (v3 + 1))] [] h4 _
        refine go_goto (t := 38) rfl rfl ?_
        refine go_forget (l := [some (.ref a0), none, some (.int x7), some (.int (v3 + 1))]) ⟨Or.inl rfl, Or.inl rfl, Or.inl rfl, Or.inl rfl, trivial⟩ ?_
        exact ih _ _ _ _ _ _ e
      · rw [if_neg hx_6] at e
        refine go_iconst (v := 1) rfl (by decide) ?_
        refine go_goto (t := 58) rfl rfl ?_
        refine go_iadd rfl ?_
        generalize v2 + 1 = x8 at e ⊢
        replace e := ck_then_e e
        refine go_istore_n rfl rfl ?_
        show Go k_RM_count 60 [some (.ref a0), none, some (.int x8), some (.int v3)] [] h4 _
        refine go_iinc (v := 1) rfl rfl (by decide) rfl ?_
        show Go k_RM_count 63 [some (.ref a0), none, some (.int x8), some (.int (v3 + 1))] [] h4 _
        refine go_goto (t := 38) rfl rfl ?_
        refine go_forget (l := [some (.ref a0), none, some (.int x8), some (.int (v3 + 1))]) ⟨Or.inl rfl, Or.inl rfl, Or.inl rfl, Or.inl rfl, trivial⟩ ?_
        exact ih _ _ _ _ _ _ e
    · rw [if_neg hx_1] at e
      refine go_iload_n rfl rfl ?_
      cases e
      exact go_ret rfl rfl
def f_RM_count_L70 (F : Nat)  : Nat → Nat → Int32 → Int32 → ck_H → Option (Int32 × ck_H)
  | 0, _, _, _, _ => none
  | n + 1, a0, v2, v3, h =>
    if v3 < (10 : Int32) then
      ck_as (gk h a0 = 12) <|
      ck_some (gR h a0 32) fun b3 =>
      ck_as ((gk h b3 = 13 ∨ gk h b3 = 15) ∧ ¬ v3 < 0 ∧ (v3 : Int32).toNatClampNeg < gz h b3) <|
      if (gI h b3 (v3 : Int32).toNatClampNeg) = (0 : Int32) then
        ck_then (v2 + 0) fun x7 =>
        f_RM_count_L70 F n a0 x7 (v3 + 1) h
      else
        ck_then (v2 + 1) fun x8 =>
        f_RM_count_L70 F n a0 x8 (v3 + 1) h
    else
      some (v2, h)
set_option maxRecDepth 100000 in
set_option maxHeartbeats 4000000 in
theorem f_RM_count_L70_s (F : Nat)   : ∀ (n : Nat) (a0 : Nat) (v2 : Int32) (v3 : Int32) (h : ck_H) (r : Int32) (h' : ck_H), f_RM_count_L70 F n a0 v2 v3 h = some (r, h') → Go k_RM_count 70 [some (.ref a0), none, some (.int v2), some (.int v3)] [] h (some (.int r), h') := by
  intro n
  induction n with
  | zero => intro a0 v2 v3 h r h' e; simp only [f_RM_count_L70] at e; cases e
  | succ n ih =>
    intro a0 v2 v3 h r h' e
    rw [f_RM_count_L70] at e
    refine go_iload_n rfl rfl ?_
    refine go_bipush (v := 10) rfl (by decide) ?_
    refine go_icmp_ge (t := 99) rfl rfl (fun hx_1 => ?_) (fun hx_1 => ?_)
    · rw [if_pos hx_1] at e
      refine go_iload_n rfl rfl ?_
      refine go_aload_n rfl rfl ?_
      replace e := ck_as_e e
      obtain ⟨hk_2, e⟩ := e
      replace e := ck_some_e e
      obtain ⟨b3, hq_4, e⟩ := e
      refine go_get (v := .ref b3) rfl rfl hk_2 (by decide) (by show va_rf (gR h a0 32) = _; rw [hq_4]; rfl) ?_
      refine go_iload_n rfl rfl ?_
      replace e := ck_as_e e
      obtain ⟨hc_5, e⟩ := e
      refine go_bald rfl hc_5 ?_
      refine go_if_eq (t := 90) rfl rfl (fun hx_6 => ?_) (fun hx_6 => ?_)
      · rw [if_pos hx_6] at e
        refine go_iconst (v := 0) rfl (by decide) ?_
        refine go_iadd rfl ?_
        generalize v2 + 0 = x7 at e ⊢
        replace e := ck_then_e e
        refine go_istore_n rfl rfl ?_
        show Go k_RM_count 93 [some (.ref a0), none, some (.int x7), some (.int v3)] [] h _
        refine go_iinc (v := 1) rfl rfl (by decide) rfl ?_
        show Go k_RM_count 96 [some (.ref a0), none, some (.int x7), some (.int (v3 + 1))] [] h _
        refine go_goto (t := 70) rfl rfl ?_
        refine go_forget (l := [some (.ref a0), none, some (.int x7), some (.int (v3 + 1))]) ⟨Or.inl rfl, Or.inl rfl, Or.inl rfl, Or.inl rfl, trivial⟩ ?_
        exact ih _ _ _ _ _ _ e
      · rw [if_neg hx_6] at e
        refine go_iconst (v := 1) rfl (by decide) ?_
        refine go_goto (t := 91) rfl rfl ?_
        refine go_iadd rfl ?_
        generalize v2 + 1 = x8 at e ⊢
        replace e := ck_then_e e
        refine go_istore_n rfl rfl ?_
        show Go k_RM_count 93 [some (.ref a0), none, some (.int x8), some (.int v3)] [] h _
        refine go_iinc (v := 1) rfl rfl (by decide) rfl ?_
        show Go k_RM_count 96 [some (.ref a0), none, some (.int x8), some (.int (v3 + 1))] [] h _
        refine go_goto (t := 70) rfl rfl ?_
        refine go_forget (l := [some (.ref a0), none, some (.int x8), some (.int (v3 + 1))]) ⟨Or.inl rfl, Or.inl rfl, Or.inl rfl, Or.inl rfl, trivial⟩ ?_
        exact ih _ _ _ _ _ _ e
    · rw [if_neg hx_1] at e
      refine go_iload_n rfl rfl ?_
      cases e
      exact go_ret rfl rfl
def f_RM_count_L103 (F : Nat)  : Nat → Nat → Int32 → Int32 → ck_H → Option (Int32 × ck_H)
  | 0, _, _, _, _ => none
  | n + 1, a0, v2, v3, h =>
    if v3 < (4 : Int32) then
      ck_as (gk h a0 = 12) <|
      ck_some (gR h a0 49) fun b3 =>
      ck_as ((gk h b3 = 13 ∨ gk h b3 = 15) ∧ ¬ v3 < 0 ∧ (v3 : Int32).toNatClampNeg < gz h b3) <|
      if (gI h b3 (v3 : Int32).toNatClampNeg) = (0 : Int32) then
        ck_then (v2 + 0) fun x7 =>
        f_RM_count_L103 F n a0 x7 (v3 + 1) h
      else
        ck_then (v2 + 1) fun x8 =>
        f_RM_count_L103 F n a0 x8 (v3 + 1) h
    else
      some (v2, h)
set_option maxRecDepth 100000 in
set_option maxHeartbeats 4000000 in
theorem f_RM_count_L103_s (F : Nat)   : ∀ (n : Nat) (a0 : Nat) (v2 : Int32) (v3 : Int32) (h : ck_H) (r : Int32) (h' : ck_H), f_RM_count_L103 F n a0 v2 v3 h = some (r, h') → Go k_RM_count 103 [some (.ref a0), none, some (.int v2), some (.int v3)] [] h (some (.int r), h') := by
  intro n
  induction n with
  | zero => intro a0 v2 v3 h r h' e; simp only [f_RM_count_L103] at e; cases e
  | succ n ih =>
    intro a0 v2 v3 h r h' e
    rw [f_RM_count_L103] at e
    refine go_iload_n rfl rfl ?_
    refine go_iconst (v := 4) rfl (by decide) ?_
    refine go_icmp_ge (t := 131) rfl rfl (fun hx_1 => ?_) (fun hx_1 => ?_)
    · rw [if_pos hx_1] at e
      refine go_iload_n rfl rfl ?_
      refine go_aload_n rfl rfl ?_
      replace e := ck_as_e e
      obtain ⟨hk_2, e⟩ := e
      replace e := ck_some_e e
      obtain ⟨b3, hq_4, e⟩ := e
      refine go_get (v := .ref b3) rfl rfl hk_2 (by decide) (by show va_rf (gR h a0 49) = _; rw [hq_4]; rfl) ?_
      refine go_iload_n rfl rfl ?_
      replace e := ck_as_e e
      obtain ⟨hc_5, e⟩ := e
      refine go_bald rfl hc_5 ?_
      refine go_if_eq (t := 122) rfl rfl (fun hx_6 => ?_) (fun hx_6 => ?_)
      · rw [if_pos hx_6] at e
        refine go_iconst (v := 0) rfl (by decide) ?_
        refine go_iadd rfl ?_
        generalize v2 + 0 = x7 at e ⊢
        replace e := ck_then_e e
        refine go_istore_n rfl rfl ?_
        show Go k_RM_count 125 [some (.ref a0), none, some (.int x7), some (.int v3)] [] h _
        refine go_iinc (v := 1) rfl rfl (by decide) rfl ?_
        show Go k_RM_count 128 [some (.ref a0), none, some (.int x7), some (.int (v3 + 1))] [] h _
        refine go_goto (t := 103) rfl rfl ?_
        refine go_forget (l := [some (.ref a0), none, some (.int x7), some (.int (v3 + 1))]) ⟨Or.inl rfl, Or.inl rfl, Or.inl rfl, Or.inl rfl, trivial⟩ ?_
        exact ih _ _ _ _ _ _ e
      · rw [if_neg hx_6] at e
        refine go_iconst (v := 1) rfl (by decide) ?_
        refine go_goto (t := 123) rfl rfl ?_
        refine go_iadd rfl ?_
        generalize v2 + 1 = x8 at e ⊢
        replace e := ck_then_e e
        refine go_istore_n rfl rfl ?_
        show Go k_RM_count 125 [some (.ref a0), none, some (.int x8), some (.int v3)] [] h _
        refine go_iinc (v := 1) rfl rfl (by decide) rfl ?_
        show Go k_RM_count 128 [some (.ref a0), none, some (.int x8), some (.int (v3 + 1))] [] h _
        refine go_goto (t := 103) rfl rfl ?_
        refine go_forget (l := [some (.ref a0), none, some (.int x8), some (.int (v3 + 1))]) ⟨Or.inl rfl, Or.inl rfl, Or.inl rfl, Or.inl rfl, trivial⟩ ?_
        exact ih _ _ _ _ _ _ e
    · rw [if_neg hx_1] at e
      refine go_iload_n rfl rfl ?_
      cases e
      exact go_ret rfl rfl
def f_RM_count (F : Nat) (a0 : Nat) (v1 : Int32) (h : ck_H) : Option (Int32 × ck_H) :=
  if v1 = 0 then
    f_RM_count_L38 F F a0 0 1 h
  else
  if v1 = 1 then
    f_RM_count_L70 F F a0 0 0 h
  else
  if v1 = 2 then
    f_RM_count_L103 F F a0 0 0 h
  else
  if v1 = 3 then
    ck_as (gk h a0 = 12) <|
    some (gI h a0 11, h)
  else
  if v1 = 4 then
    ck_as (gk h a0 = 12) <|
    some (gI h a0 12, h)
  else
    some ((-1), h)
set_option maxRecDepth 100000 in
set_option maxHeartbeats 4000000 in
theorem s_RM_count {F : Nat} {a0 : Nat} {v1 : Int32} {h h' : ck_H} {r : Int32} (e : f_RM_count F a0 v1 h = some (r, h')) : Go k_RM_count 0 (ck_in [.ref a0, .int v1] 4) [] h (some (.int r), h') := by
  unfold f_RM_count at e
  show Go k_RM_count 0 [some (.ref a0), some (.int v1), none, none] [] h _
  refine go_iconst (v := 0) rfl (by decide) ?_
  refine go_istore_n rfl rfl ?_
  show Go k_RM_count 2 [some (.ref a0), some (.int v1), some (.int 0), none] [] h _
  refine go_iload_n rfl rfl ?_
  by_cases hx_1 : v1 = 0
  · rw [if_pos hx_1] at e
    refine go_tswI (off := 33) (t := 36) rfl (by rw [hx_1]; decide) (by rw [hx_1]; rfl) rfl ?_
    refine go_iconst (v := 1) rfl (by decide) ?_
    refine go_istore_n rfl rfl ?_
    show Go k_RM_count 38 [some (.ref a0), some (.int v1), some (.int 0), some (.int 1)] [] h _
    refine go_forget (l := [some (.ref a0), none, some (.int 0), some (.int 1)]) ⟨Or.inl rfl, Or.inr ⟨rfl, fun _ q => by cases q; rfl⟩, Or.inl rfl, Or.inl rfl, trivial⟩ ?_
    exact f_RM_count_L38_s F F _ _ _ _ _ _ e
  rw [if_neg hx_1] at e
  by_cases hx_9 : v1 = 1
  · rw [if_pos hx_9] at e
    refine go_tswI (off := 65) (t := 68) rfl (by rw [hx_9]; decide) (by rw [hx_9]; rfl) rfl ?_
    refine go_iconst (v := 0) rfl (by decide) ?_
    refine go_istore_n rfl rfl ?_
    show Go k_RM_count 70 [some (.ref a0), some (.int v1), some (.int 0), some (.int 0)] [] h _
    refine go_forget (l := [some (.ref a0), none, some (.int 0), some (.int 0)]) ⟨Or.inl rfl, Or.inr ⟨rfl, fun _ q => by cases q; rfl⟩, Or.inl rfl, Or.inl rfl, trivial⟩ ?_
    exact f_RM_count_L70_s F F _ _ _ _ _ _ e
  rw [if_neg hx_9] at e
  by_cases hx_10 : v1 = 2
  · rw [if_pos hx_10] at e
    refine go_tswI (off := 98) (t := 101) rfl (by rw [hx_10]; decide) (by rw [hx_10]; rfl) rfl ?_
    refine go_iconst (v := 0) rfl (by decide) ?_
    refine go_istore_n rfl rfl ?_
    show Go k_RM_count 103 [some (.ref a0), some (.int v1), some (.int 0), some (.int 0)] [] h _
    refine go_forget (l := [some (.ref a0), none, some (.int 0), some (.int 0)]) ⟨Or.inl rfl, Or.inr ⟨rfl, fun _ q => by cases q; rfl⟩, Or.inl rfl, Or.inl rfl, trivial⟩ ?_
    exact f_RM_count_L103_s F F _ _ _ _ _ _ e
  rw [if_neg hx_10] at e
  by_cases hx_11 : v1 = 3
  · rw [if_pos hx_11] at e
    refine go_tswI (off := 130) (t := 133) rfl (by rw [hx_11]; decide) (by rw [hx_11]; rfl) rfl ?_
    refine go_aload_n rfl rfl ?_
    replace e := ck_as_e e
    obtain ⟨hk_12, e⟩ := e
    refine go_get (v := .int (gI h a0 11)) rfl rfl hk_12 (by decide) rfl ?_
    cases e
    exact go_ret rfl rfl
  rw [if_neg hx_11] at e
  by_cases hx_13 : v1 = 4
  · rw [if_pos hx_13] at e
    refine go_tswI (off := 135) (t := 138) rfl (by rw [hx_13]; decide) (by rw [hx_13]; rfl) rfl ?_
    refine go_aload_n rfl rfl ?_
    replace e := ck_as_e e
    obtain ⟨hk_14, e⟩ := e
    refine go_get (v := .int (gI h a0 12)) rfl rfl hk_14 (by decide) rfl ?_
    cases e
    exact go_ret rfl rfl
  rw [if_neg hx_13] at e
  have hz_ : (v1 : Int32).toInt < 0 ∨ 4 < (v1 : Int32).toInt := by
    have z0 := lv_neT hx_1 (k := 0) (a := 0) rfl
    have z1 := lv_neT hx_9 (k := 1) (a := 1) rfl
    have z2 := lv_neT hx_10 (k := 2) (a := 2) rfl
    have z3 := lv_neT hx_11 (k := 3) (a := 3) rfl
    have z4 := lv_neT hx_13 (k := 4) (a := 4) rfl
    omega
  refine go_tswO (m := k_RM_count) (pc := 3) (t := 143) (d := 140) (offs := #[33, 65, 98, 130, 135]) rfl hz_ rfl ?_
  refine go_iconst (v := (-1)) rfl (by decide) ?_
  cases e
  exact go_ret rfl rfl
def f_RM_isBusy_L5 (F : Nat)  : Nat → Nat → Int32 → Int32 → Int32 → Int32 → ck_H → Option (Int32 × ck_H)
  | 0, _, _, _, _, _, _ => none
  | n + 1, a0, v1, v2, v3, v4, h =>
    if v4 < (4 : Int32) then
      if v3 = (0 : Int32) then
        ck_as (gk h a0 = 12) <|
        ck_some (gR h a0 49) fun b4 =>
        ck_as ((gk h b4 = 13 ∨ gk h b4 = 15) ∧ ¬ v4 < 0 ∧ (v4 : Int32).toNatClampNeg < gz h b4) <|
        if (gI h b4 (v4 : Int32).toNatClampNeg) = (0 : Int32) then
          f_RM_isBusy_L5 F n a0 v1 v2 0 (v4 + 1) h
        else
          ck_some (gR h a0 50) fun b8 =>
          ck_as ((gk h b8 = 14 ∨ gk h b8 = 21) ∧ ¬ v4 < 0 ∧ (v4 : Int32).toNatClampNeg < gz h b8) <|
          if (gI h b8 (v4 : Int32).toNatClampNeg) = v1 then
            if v2 = (0 : Int32) then
              ck_some (gR h a0 51) fun b13 =>
              ck_as ((gk h b13 = 14 ∨ gk h b13 = 21) ∧ ¬ v4 < 0 ∧ (v4 : Int32).toNatClampNeg < gz h b13) <|
              if (gI h b13 (v4 : Int32).toNatClampNeg) = (0 : Int32) then
                f_RM_isBusy_L5 F n a0 v1 v2 0 (v4 + 1) h
              else
                f_RM_isBusy_L5 F n a0 v1 v2 1 (v4 + 1) h
            else
              f_RM_isBusy_L5 F n a0 v1 v2 1 (v4 + 1) h
          else
            f_RM_isBusy_L5 F n a0 v1 v2 0 (v4 + 1) h
      else
        f_RM_isBusy_L5 F n a0 v1 v2 1 (v4 + 1) h
    else
      ck_as (v3 = 0 ∨ v3 = 1) <|
      some (v3, h)
set_option maxRecDepth 100000 in
set_option maxHeartbeats 4000000 in
theorem f_RM_isBusy_L5_s (F : Nat)   : ∀ (n : Nat) (a0 : Nat) (v1 : Int32) (v2 : Int32) (v3 : Int32) (v4 : Int32) (h : ck_H) (r : Int32) (h' : ck_H), f_RM_isBusy_L5 F n a0 v1 v2 v3 v4 h = some (r, h') → Go k_RM_isBusy 5 [some (.ref a0), some (.int v1), some (.int v2), some (.int v3), some (.int v4)] [] h (some (.int r), h') := by
  intro n
  induction n with
  | zero => intro a0 v1 v2 v3 v4 h r h' e; simp only [f_RM_isBusy_L5] at e; cases e
  | succ n ih =>
    intro a0 v1 v2 v3 v4 h r h' e
    rw [f_RM_isBusy_L5] at e
    refine go_iload rfl rfl ?_
    refine go_iconst (v := 4) rfl (by decide) ?_
    refine go_icmp_ge (t := 62) rfl rfl (fun hx_1 => ?_) (fun hx_1 => ?_)
    · rw [if_pos hx_1] at e
      refine go_iload_n rfl rfl ?_
      refine go_if_ne (t := 50) rfl rfl (fun hx_2 => ?_) (fun hx_2 => ?_)
      · rw [if_pos hx_2] at e
        refine go_aload_n rfl rfl ?_
        replace e := ck_as_e e
        obtain ⟨hk_3, e⟩ := e
        replace e := ck_some_e e
        obtain ⟨b4, hq_5, e⟩ := e
        refine go_get (v := .ref b4) rfl rfl hk_3 (by decide) (by show va_rf (gR h a0 49) = _; rw [hq_5]; rfl) ?_
        refine go_iload rfl rfl ?_
        replace e := ck_as_e e
        obtain ⟨hc_6, e⟩ := e
        refine go_bald rfl hc_6 ?_
        refine go_if_eq (t := 54) rfl rfl (fun hx_7 => ?_) (fun hx_7 => ?_)
        · rw [if_pos hx_7] at e
          refine go_iconst (v := 0) rfl (by decide) ?_
          refine go_istore_n rfl rfl ?_
          show Go k_RM_isBusy 56 [some (.ref a0), some (.int v1), some (.int v2), some (.int 0), some (.int v4)] [] h _
          refine go_iinc (v := 1) rfl rfl (by decide) rfl ?_
          show Go k_RM_isBusy 59 [some (.ref a0), some (.int v1), some (.int v2), some (.int 0), some (.int (v4 + 1))] [] h _
          refine go_goto (t := 5) rfl rfl ?_
          refine go_forget (l := [some (.ref a0), some (.int v1), some (.int v2), some (.int 0), some (.int (v4 + 1))]) ⟨Or.inl rfl, Or.inl rfl, Or.inl rfl, Or.inl rfl, Or.inl rfl, trivial⟩ ?_
          exact ih _ _ _ _ _ _ _ _ e
        · rw [if_neg hx_7] at e
          refine go_aload_n rfl rfl ?_
          replace e := ck_some_e e
          obtain ⟨b8, hq_9, e⟩ := e
          refine go_get (v := .ref b8) rfl rfl hk_3 (by decide) (by show va_rf (gR h a0 50) = _; rw [hq_9]; rfl) ?_
          refine go_iload rfl rfl ?_
          replace e := ck_as_e e
          obtain ⟨hc_10, e⟩ := e
          refine go_iald rfl hc_10 ?_
          refine go_iload_n rfl rfl ?_
          refine go_icmp_ne (t := 54) rfl rfl (fun hx_11 => ?_) (fun hx_11 => ?_)
          · rw [if_pos hx_11] at e
            refine go_iload_n rfl rfl ?_
            refine go_if_ne (t := 50) rfl rfl (fun hx_12 => ?_) (fun hx_12 => ?_)
            · rw [if_pos hx_12] at e
              refine go_aload_n rfl rfl ?_
              replace e := ck_some_e e
              obtain ⟨b13, hq_14, e⟩ := e
              refine go_get (v := .ref b13) rfl rfl hk_3 (by decide) (by show va_rf (gR h a0 51) = _; rw [hq_14]; rfl) ?_
              refine go_iload rfl rfl ?_
              replace e := ck_as_e e
              obtain ⟨hc_15, e⟩ := e
              refine go_iald rfl hc_15 ?_
              refine go_if_eq (t := 54) rfl rfl (fun hx_16 => ?_) (fun hx_16 => ?_)
              · rw [if_pos hx_16] at e
                refine go_iconst (v := 0) rfl (by decide) ?_
                refine go_istore_n rfl rfl ?_
                show Go k_RM_isBusy 56 [some (.ref a0), some (.int v1), some (.int v2), some (.int 0), some (.int v4)] [] h _
                refine go_iinc (v := 1) rfl rfl (by decide) rfl ?_
                show Go k_RM_isBusy 59 [some (.ref a0), some (.int v1), some (.int v2), some (.int 0), some (.int (v4 + 1))] [] h _
                refine go_goto (t := 5) rfl rfl ?_
                refine go_forget (l := [some (.ref a0), some (.int v1), some (.int v2), some (.int 0), some (.int (v4 + 1))]) ⟨Or.inl rfl, Or.inl rfl, Or.inl rfl, Or.inl rfl, Or.inl rfl, trivial⟩ ?_
                exact ih _ _ _ _ _ _ _ _ e
              · rw [if_neg hx_16] at e
                refine go_iconst (v := 1) rfl (by decide) ?_
                refine go_goto (t := 55) rfl rfl ?_
                refine go_istore_n rfl rfl ?_
                show Go k_RM_isBusy 56 [some (.ref a0), some (.int v1), some (.int v2), some (.int 1), some (.int v4)] [] h _
                refine go_iinc (v := 1) rfl rfl (by decide) rfl ?_
                show Go k_RM_isBusy 59 [some (.ref a0), some (.int v1), some (.int v2), some (.int 1), some (.int (v4 + 1))] [] h _
                refine go_goto (t := 5) rfl rfl ?_
                refine go_forget (l := [some (.ref a0), some (.int v1), some (.int v2), some (.int 1), some (.int (v4 + 1))]) ⟨Or.inl rfl, Or.inl rfl, Or.inl rfl, Or.inl rfl, Or.inl rfl, trivial⟩ ?_
                exact ih _ _ _ _ _ _ _ _ e
            · rw [if_neg hx_12] at e
              refine go_iconst (v := 1) rfl (by decide) ?_
              refine go_goto (t := 55) rfl rfl ?_
              refine go_istore_n rfl rfl ?_
              show Go k_RM_isBusy 56 [some (.ref a0), some (.int v1), some (.int v2), some (.int 1), some (.int v4)] [] h _
              refine go_iinc (v := 1) rfl rfl (by decide) rfl ?_
              show Go k_RM_isBusy 59 [some (.ref a0), some (.int v1), some (.int v2), some (.int 1), some (.int (v4 + 1))] [] h _
              refine go_goto (t := 5) rfl rfl ?_
              refine go_forget (l := [some (.ref a0), some (.int v1), some (.int v2), some (.int 1), some (.int (v4 + 1))]) ⟨Or.inl rfl, Or.inl rfl, Or.inl rfl, Or.inl rfl, Or.inl rfl, trivial⟩ ?_
              exact ih _ _ _ _ _ _ _ _ e
          · rw [if_neg hx_11] at e
            refine go_iconst (v := 0) rfl (by decide) ?_
            refine go_istore_n rfl rfl ?_
            show Go k_RM_isBusy 56 [some (.ref a0), some (.int v1), some (.int v2), some (.int 0), some (.int v4)] [] h _
            refine go_iinc (v := 1) rfl rfl (by decide) rfl ?_
            show Go k_RM_isBusy 59 [some (.ref a0), some (.int v1), some (.int v2), some (.int 0), some (.int (v4 + 1))] [] h _
            refine go_goto (t := 5) rfl rfl ?_
            refine go_forget (l := [some (.ref a0), some (.int v1), some (.int v2), some (.int 0), some (.int (v4 + 1))]) ⟨Or.inl rfl, Or.inl rfl, Or.inl rfl, Or.inl rfl, Or.inl rfl, trivial⟩ ?_
            exact ih _ _ _ _ _ _ _ _ e
      · rw [if_neg hx_2] at e
        refine go_iconst (v := 1) rfl (by decide) ?_
        refine go_goto (t := 55) rfl rfl ?_
        refine go_istore_n rfl rfl ?_
        show Go k_RM_isBusy 56 [some (.ref a0), some (.int v1), some (.int v2), some (.int 1), some (.int v4)] [] h _
        refine go_iinc (v := 1) rfl rfl (by decide) rfl ?_
        show Go k_RM_isBusy 59 [some (.ref a0), some (.int v1), some (.int v2), some (.int 1), some (.int (v4 + 1))] [] h _
        refine go_goto (t := 5) rfl rfl ?_
        refine go_forget (l := [some (.ref a0), some (.int v1), some (.int v2), some (.int 1), some (.int (v4 + 1))]) ⟨Or.inl rfl, Or.inl rfl, Or.inl rfl, Or.inl rfl, Or.inl rfl, trivial⟩ ?_
        exact ih _ _ _ _ _ _ _ _ e
    · rw [if_neg hx_1] at e
      refine go_iload_n rfl rfl ?_
      replace e := ck_as_e e
      obtain ⟨hc_17, e⟩ := e
      cases e
      exact go_ret rfl (ck_rvb rfl hc_17)
def f_RM_isBusy (F : Nat) (a0 : Nat) (v1 : Int32) (v2 : Int32) (h : ck_H) : Option (Int32 × ck_H) :=
  f_RM_isBusy_L5 F F a0 v1 v2 0 0 h
set_option maxRecDepth 100000 in
set_option maxHeartbeats 4000000 in
theorem s_RM_isBusy {F : Nat} {a0 : Nat} {v1 : Int32} {v2 : Int32} {h h' : ck_H} {r : Int32} (e : f_RM_isBusy F a0 v1 v2 h = some (r, h')) : Go k_RM_isBusy 0 (ck_in [.ref a0, .int v1, .int v2] 5) [] h (some (.int r), h') := by
  unfold f_RM_isBusy at e
  show Go k_RM_isBusy 0 [some (.ref a0), some (.int v1), some (.int v2), none, none] [] h _
  refine go_iconst (v := 0) rfl (by decide) ?_
  refine go_istore_n rfl rfl ?_
  show Go k_RM_isBusy 2 [some (.ref a0), some (.int v1), some (.int v2), some (.int 0), none] [] h _
  refine go_iconst (v := 0) rfl (by decide) ?_
  refine go_istore rfl rfl ?_
  show Go k_RM_isBusy 5 [some (.ref a0), some (.int v1), some (.int v2), some (.int 0), some (.int 0)] [] h _
  refine go_forget (l := [some (.ref a0), some (.int v1), some (.int v2), some (.int 0), some (.int 0)]) ⟨Or.inl rfl, Or.inl rfl, Or.inl rfl, Or.inl rfl, Or.inl rfl, trivial⟩ ?_
  exact f_RM_isBusy_L5_s F F _ _ _ _ _ _ _ _ e
def f_RM_begin (F : Nat) (a0 : Nat) (v1 : Int32) (v2 : Int32) (v3 : Int32) (v4 : Int32) (h : ck_H) : Option (Unit × ck_H) :=
  ck_as (gk h a0 = 12) <|
  ck_some (gR h a0 59) fun b2 =>
  ck_as (gk h b2 = 14 ∧ ¬ v1 < 0 ∧ (v1 : Int32).toNatClampNeg < gz h b2) <|
  ck_then (wI h b2 (v1 : Int32).toNatClampNeg v2) fun h5 =>
  ck_some (gR h5 a0 60) fun b7 =>
  ck_as (gk h5 b7 = 14 ∧ ¬ v1 < 0 ∧ (v1 : Int32).toNatClampNeg < gz h5 b7) <|
  ck_then (wI h5 b7 (v1 : Int32).toNatClampNeg v3) fun h10 =>
  ck_some (gR h10 a0 61) fun b12 =>
  ck_as (gk h10 b12 = 14 ∧ ¬ v1 < 0 ∧ (v1 : Int32).toNatClampNeg < gz h10 b12) <|
  ck_then (wI h10 b12 (v1 : Int32).toNatClampNeg v4) fun h15 =>
  ck_some (gR h15 a0 65) fun b17 =>
  ck_as (gk h15 b17 = 15 ∧ ((0 : Int32) = 0 ∨ (0 : Int32) = 1) ∧ ¬ v1 < 0 ∧ (v1 : Int32).toNatClampNeg < gz h15 b17) <|
  ck_then (wI h15 b17 (v1 : Int32).toNatClampNeg 0) fun h20 =>
  some ((), h20)
set_option maxRecDepth 100000 in
set_option maxHeartbeats 4000000 in
theorem s_RM_begin {F : Nat} {a0 : Nat} {v1 : Int32} {v2 : Int32} {v3 : Int32} {v4 : Int32} {h h' : ck_H} {r : Unit} (e : f_RM_begin F a0 v1 v2 v3 v4 h = some (r, h')) : Go k_RM_begin 0 (ck_in [.ref a0, .int v1, .int v2, .int v3, .int v4] 5) [] h (none, h') := by
  unfold f_RM_begin at e
  show Go k_RM_begin 0 [some (.ref a0), some (.int v1), some (.int v2), some (.int v3), some (.int v4)] [] h _
  refine go_aload_n rfl rfl ?_
  replace e := ck_as_e e
  obtain ⟨hk_1, e⟩ := e
  replace e := ck_some_e e
  obtain ⟨b2, hq_3, e⟩ := e
  refine go_get (v := .ref b2) rfl rfl hk_1 (by decide) (by show va_rf (gR h a0 59) = _; rw [hq_3]; rfl) ?_
  refine go_iload_n rfl rfl ?_
  refine go_iload_n rfl rfl ?_
  replace e := ck_as_e e
  obtain ⟨hc_4, e⟩ := e
  refine go_iast rfl hc_4 ?_
  have hk_6 : gk (wI h b2 (v1 : Int32).toNatClampNeg v2) a0 = 12 := ck_kI.trans hk_1
  generalize wI h b2 (v1 : Int32).toNatClampNeg v2 = h5 at e hk_6 ⊢
  replace e := ck_then_e e
  refine go_aload_n rfl rfl ?_
  replace e := ck_some_e e
  obtain ⟨b7, hq_8, e⟩ := e
  refine go_get (v := .ref b7) rfl rfl hk_6 (by decide) (by show va_rf (gR h5 a0 60) = _; rw [hq_8]; rfl) ?_
  refine go_iload_n rfl rfl ?_
  refine go_iload_n rfl rfl ?_
  replace e := ck_as_e e
  obtain ⟨hc_9, e⟩ := e
  refine go_iast rfl hc_9 ?_
  have hk_11 : gk (wI h5 b7 (v1 : Int32).toNatClampNeg v3) a0 = 12 := ck_kI.trans hk_6
  generalize wI h5 b7 (v1 : Int32).toNatClampNeg v3 = h10 at e hk_11 ⊢
  replace e := ck_then_e e
  refine go_aload_n rfl rfl ?_
  replace e := ck_some_e e
  obtain ⟨b12, hq_13, e⟩ := e
  refine go_get (v := .ref b12) rfl rfl hk_11 (by decide) (by show va_rf (gR h10 a0 61) = _; rw [hq_13]; rfl) ?_
  refine go_iload_n rfl rfl ?_
  refine go_iload rfl rfl ?_
  replace e := ck_as_e e
  obtain ⟨hc_14, e⟩ := e
  refine go_iast rfl hc_14 ?_
  have hk_16 : gk (wI h10 b12 (v1 : Int32).toNatClampNeg v4) a0 = 12 := ck_kI.trans hk_11
  generalize wI h10 b12 (v1 : Int32).toNatClampNeg v4 = h15 at e hk_16 ⊢
  replace e := ck_then_e e
  refine go_aload_n rfl rfl ?_
  replace e := ck_some_e e
  obtain ⟨b17, hq_18, e⟩ := e
  refine go_get (v := .ref b17) rfl rfl hk_16 (by decide) (by show va_rf (gR h15 a0 65) = _; rw [hq_18]; rfl) ?_
  refine go_iload_n rfl rfl ?_
  refine go_iconst (v := 0) rfl (by decide) ?_
  replace e := ck_as_e e
  obtain ⟨hc_19, e⟩ := e
  refine go_zast rfl hc_19 ?_
  have hk_21 : gk (wI h15 b17 (v1 : Int32).toNatClampNeg 0) a0 = 12 := ck_kI.trans hk_16
  generalize wI h15 b17 (v1 : Int32).toNatClampNeg 0 = h20 at e hk_21 ⊢
  replace e := ck_then_e e
  cases e
  exact go_ret rfl rfl
