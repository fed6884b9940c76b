def f_RM_findMember_L2 (F : Nat)  : Nat → Nat → Int32 → Int32 → ck_H → Option (Int32 × ck_H)
  | 0, _, _, _, _ => none
  | n + 1, a0, v1, v2, h =>
    ck_as (gk h a0 = 12) <|
    ck_some (gR h a0 45) fun b2 =>
    ck_as ((gk h b2 = 14 ∨ gk h b2 = 21) ∧ ¬ v1 < 0 ∧ (v1 : Int32).toNatClampNeg < gz h b2) <|
    if v2 < (gI h b2 (v1 : Int32).toNatClampNeg) then
      ck_some (gR h a0 41) fun b6 =>
      ck_bd (f_RM_isNamed F a0 b6 (8 * ((40 * v1) + v2)) h) fun r8 h9 =>
      if r8 = (0 : Int32) then
        f_RM_findMember_L2 F n a0 v1 (v2 + 1) h9
      else
        some (v2, h9)
    else
      some ((-1), h)
set_option maxRecDepth 100000 in
set_option maxHeartbeats 4000000 in
theorem f_RM_findMember_L2_s (F : Nat)   : ∀ (n : Nat) (a0 : Nat) (v1 : Int32) (v2 : Int32) (h : ck_H) (r : Int32) (h' : ck_H), f_RM_findMember_L2 F n a0 v1 v2 h = some (r, h') → Go k_RM_findMember 2 [some (.ref a0), some (.int v1), some (.int v2)] [] h (some (.int r), h') := by
  intro n
  induction n with
  | zero => intro a0 v1 v2 h r h' e; simp only [f_RM_findMember_L2] at e; cases e
  | succ n ih =>
    intro a0 v1 v2 h r h' e
    rw [f_RM_findMember_L2] at e
    refine go_iload_n rfl rfl ?_
    refine go_aload_n rfl rfl ?_
    replace e := ck_as_e e
    obtain ⟨hk_1, e⟩ := e
    replace e := ck_some_e e
    obtain ⟨b2, hq_3, e⟩ := e
    refine go_get (v := .ref b2) rfl rfl hk_1 (by decide) (by show va_rf (gR h a0 45) = _; rw [hq_3]; rfl) ?_
    refine go_iload_n rfl rfl ?_
    replace e := ck_as_e e
    obtain ⟨hc_4, e⟩ := e
    refine go_iald rfl hc_4 ?_
    refine go_icmp_ge (t := 40) rfl rfl (fun hx_5 => ?_) (fun hx_5 => ?_)
    · rw [if_pos hx_5] at e
      refine go_aload_n rfl rfl ?_
      refine go_aload_n rfl rfl ?_
      replace e := ck_some_e e
      obtain ⟨b6, hq_7, e⟩ := e
      refine go_get (v := .ref b6) rfl rfl hk_1 (by decide) (by show va_rf (gR h a0 41) = _; rw [hq_7]; rfl) ?_
      refine go_bipush (v := 8) rfl (by decide) ?_
      refine go_bipush (v := 40) rfl (by decide) ?_
      refine go_iload_n rfl rfl ?_
      refine go_imul rfl ?_
      refine go_iload_n rfl rfl ?_
      refine go_iadd rfl ?_
      refine go_imul rfl ?_
      replace e := ck_bd_e e
      obtain ⟨r8, h9, e10, e⟩ := e
      refine go_callV (As := [.ref b6, .int (8 * ((40 * v1) + v2))]) (b0 := a0) (rest := []) rfl rfl ⟨hk_1, by decide⟩ rfl ⟨Nat.le_of_ble_eq_true rfl, Nat.le_of_ble_eq_true rfl, Nat.le_of_ble_eq_true rfl, Nat.le_of_ble_eq_true rfl⟩ (s_RM_isNamed e10) ?_
      show Go k_RM_findMember 29 [some (.ref a0), some (.int v1), some (.int v2)] [.int r8] h9 _
      refine go_if_eq (t := 34) rfl rfl (fun hx_11 => ?_) (fun hx_11 => ?_)
      · rw [if_pos hx_11] at e
        refine go_iinc (v := 1) rfl rfl (by decide) rfl ?_
        show Go k_RM_findMember 37 [some (.ref a0), some (.int v1), some (.int (v2 + 1))] [] h9 _
        refine go_goto (t := 2) rfl rfl ?_
        refine go_forget (l := [some (.ref a0), some (.int v1), some (.int (v2 + 1))]) ⟨Or.inl rfl, Or.inl rfl, Or.inl rfl, trivial⟩ ?_
        exact ih _ _ _ _ _ _ e
      · rw [if_neg hx_11] at e
        refine go_iload_n rfl rfl ?_
        cases e
        exact go_ret rfl rfl
    · rw [if_neg hx_5] at e
      refine go_iconst (v := (-1)) rfl (by decide) ?_
      cases e
      exact go_ret rfl rfl
def f_RM_findMember (F : Nat) (a0 : Nat) (v1 : Int32) (h : ck_H) : Option (Int32 × ck_H) :=
  f_RM_findMember_L2 F F a0 v1 0 h
set_option maxRecDepth 100000 in
set_option maxHeartbeats 4000000 in
theorem s_RM_findMember {F : Nat} {a0 : Nat} {v1 : Int32} {h h' : ck_H} {r : Int32} (e : f_RM_findMember F a0 v1 h = some (r, h')) : Go k_RM_findMember 0 (ck_in [.ref a0, .int v1] 3) [] h (some (.int r), h') := by
  unfold f_RM_findMember at e
  show Go k_RM_findMember 0 [some (.ref a0), some (.int v1), none] [] h _
  refine go_iconst (v := 0) rfl (by decide) ?_
  refine go_istore_n rfl rfl ?_
  show Go k_RM_findMember 2 [some (.ref a0), some (.int v1), some (.int 0)] [] h _
  refine go_forget (l := [some (.ref a0), some (.int v1), some (.int 0)]) ⟨Or.inl rfl, Or.inl rfl, Or.inl rfl, trivial⟩ ?_
  exact f_RM_findMember_L2_s F F _ _ _ _ _ _ e
def f_RM_member (F : Nat) (a0 : Nat) (v1 : Int32) (h : ck_H) : Option (Int32 × ck_H) :=
  ck_as (gk h a0 = 12) <|
  ck_bd (f_RM_takeName F a0 h) fun _ h3 =>
  ck_as (gk h3 a0 = 12) <|
  ck_bd (f_RM_isHandle F a0 v1 h3) fun r6 h7 =>
  if r6 = (0 : Int32) then
    some ((-3), h7)
  else
    ck_as (gk h7 a0 = 12) <|
    ck_some (gR h7 a0 35) fun b11 =>
    ck_some (gR h7 a0 50) fun b13 =>
    ck_as ((gk h7 b13 = 14 ∨ gk h7 b13 = 21) ∧ ¬ v1 < 0 ∧ (v1 : Int32).toNatClampNeg < gz h7 b13) <|
    ck_as ((gk h7 b11 = 14 ∨ gk h7 b11 = 21) ∧ ¬ (gI h7 b13 (v1 : Int32).toNatClampNeg) < 0 ∧ (gI h7 b13 (v1 : Int32).toNatClampNeg : Int32).toNatClampNeg < gz h7 b11) <|
    if (gI h7 b11 (gI h7 b13 (v1 : Int32).toNatClampNeg : Int32).toNatClampNeg) = (4 : Int32) then
      ck_some (gR h7 a0 51) fun b18 =>
      ck_as ((gk h7 b18 = 14 ∨ gk h7 b18 = 21) ∧ ¬ v1 < 0 ∧ (v1 : Int32).toNatClampNeg < gz h7 b18) <|
      if (gI h7 b18 (v1 : Int32).toNatClampNeg) = (1 : Int32) then
        some ((-3), h7)
      else
        ck_some (gR h7 a0 50) fun b22 =>
        ck_as ((gk h7 b22 = 14 ∨ gk h7 b22 = 21) ∧ ¬ v1 < 0 ∧ (v1 : Int32).toNatClampNeg < gz h7 b22) <|
        ck_then (gI h7 b22 (v1 : Int32).toNatClampNeg) fun x25 =>
        ck_bd (f_RM_findMember F a0 x25 h7) fun r26 h27 =>
        if r26 = ((-1) : Int32) then
          some ((-1), h27)
        else
          ck_then ((40 * x25) + r26) fun x30 =>
          ck_as (gk h27 a0 = 12) <|
          ck_some (gR h27 a0 66) fun b32 =>
          ck_as (gk h27 b32 = 15 ∧ ((1 : Int32) = 0 ∨ (1 : Int32) = 1) ∧ ¬ v1 < 0 ∧ (v1 : Int32).toNatClampNeg < gz h27 b32) <|
          ck_then (wI h27 b32 (v1 : Int32).toNatClampNeg 1) fun h35 =>
          ck_some (gR h35 a0 67) fun b37 =>
          ck_as (gk h35 b37 = 15 ∧ ((0 : Int32) = 0 ∨ (0 : Int32) = 1) ∧ ¬ v1 < 0 ∧ (v1 : Int32).toNatClampNeg < gz h35 b37) <|
          ck_then (wI h35 b37 (v1 : Int32).toNatClampNeg 0) fun h40 =>
          ck_some (gR h40 a0 42) fun b42 =>
          ck_as ((gk h40 b42 = 14 ∨ gk h40 b42 = 21) ∧ ¬ x30 < 0 ∧ (x30 : Int32).toNatClampNeg < gz h40 b42) <|
          ck_some (gR h40 a0 43) fun b45 =>
          ck_as ((gk h40 b45 = 14 ∨ gk h40 b45 = 21) ∧ ¬ x30 < 0 ∧ (x30 : Int32).toNatClampNeg < gz h40 b45) <|
          ck_some (gR h40 a0 44) fun b48 =>
          ck_as ((gk h40 b48 = 14 ∨ gk h40 b48 = 21) ∧ ¬ x30 < 0 ∧ (x30 : Int32).toNatClampNeg < gz h40 b48) <|
          ck_bd (f_RM_begin F a0 v1 (gI h40 b42 (x30 : Int32).toNatClampNeg) ((gI h40 b45 (x30 : Int32).toNatClampNeg) - 1) (gI h40 b48 (x30 : Int32).toNatClampNeg) h40) fun _ h52 =>
          ck_as (gk h52 a0 = 12) <|
          ck_some (gR h52 a0 44) fun b55 =>
          ck_as ((gk h52 b55 = 14 ∨ gk h52 b55 = 21) ∧ ¬ x30 < 0 ∧ (x30 : Int32).toNatClampNeg < gz h52 b55) <|
          some (gI h52 b55 (x30 : Int32).toNatClampNeg, h52)
    else
      some ((-3), h7)
set_option maxRecDepth 100000 in
set_option maxHeartbeats 4000000 in
theorem s_RM_member {F : Nat} {a0 : Nat} {v1 : Int32} {h h' : ck_H} {r : Int32} (e : f_RM_member F a0 v1 h = some (r, h')) : Go k_RM_member 0 (ck_in [.ref a0, .int v1] 5) [] h (some (.int r), h') := by
  unfold f_RM_member at e
  show Go k_RM_member 0 [some (.ref a0), some (.int v1), none, none, none] [] h _
  refine go_aload_n rfl rfl ?_
  replace e := ck_as_e e
  obtain ⟨hk_1, e⟩ := e
  replace e := ck_bd_e e
  obtain ⟨r2, h3, e4, e⟩ := e
  refine go_callV (As := []) (b0 := a0) (rest := []) rfl rfl ⟨hk_1, by decide⟩ rfl ⟨Nat.le_of_ble_eq_true rfl, Nat.le_of_ble_eq_true rfl, Nat.le_of_ble_eq_true rfl, Nat.le_of_ble_eq_true rfl⟩ (s_RM_takeName e4) ?_
  show Go k_RM_member 4 [some (.ref a0), some (.int v1), none, none, none] [] h3 _
  refine go_aload_n rfl rfl ?_
  refine go_iload_n rfl rfl ?_
  replace e := ck_as_e e
  obtain ⟨hk_5, e⟩ := e
  replace e := ck_bd_e e
  obtain ⟨r6, h7, e8, e⟩ := e
  refine go_callV (As := [.int v1]) (b0 := a0) (rest := []) rfl rfl ⟨hk_5, by decide⟩ rfl ⟨Nat.le_of_ble_eq_true rfl, Nat.le_of_ble_eq_true rfl, Nat.le_of_ble_eq_true rfl, Nat.le_of_ble_eq_true rfl⟩ (s_RM_isHandle e8) ?_
  show Go k_RM_member 9 [some (.ref a0), some (.int v1), none, none, none] [.int r6] h7 _
  refine go_if_eq (t := 37) rfl rfl (fun hx_9 => ?_) (fun hx_9 => ?_)
  · rw [if_pos hx_9] at e
    refine go_bipush (v := (-3)) rfl (by decide) ?_
    cases e
    exact go_ret rfl rfl
  · rw [if_neg hx_9] at e
    refine go_aload_n rfl rfl ?_
    replace e := ck_as_e e
    obtain ⟨hk_10, e⟩ := e
    replace e := ck_some_e e
    obtain ⟨b11, hq_12, e⟩ := e
    refine go_get (v := .ref b11) rfl rfl hk_10 (by decide) (by show va_rf (gR h7 a0 35) = _; rw [hq_12]; rfl) ?_
    refine go_aload_n rfl rfl ?_
    replace e := ck_some_e e
    obtain ⟨b13, hq_14, e⟩ := e
    refine go_get (v := .ref b13) rfl rfl hk_10 (by decide) (by show va_rf (gR h7 a0 50) = _; rw [hq_14]; rfl) ?_
    refine go_iload_n rfl rfl ?_
    replace e := ck_as_e e
    obtain ⟨hc_15, e⟩ := e
    refine go_iald rfl hc_15 ?_
    replace e := ck_as_e e
    obtain ⟨hc_16, e⟩ := e
    refine go_iald rfl hc_16 ?_
    refine go_iconst (v := 4) rfl (by decide) ?_
    refine go_icmp_ne (t := 37) rfl rfl (fun hx_17 => ?_) (fun hx_17 => ?_)
    · rw [if_pos hx_17] at e
      refine go_aload_n rfl rfl ?_
      replace e := ck_some_e e
      obtain ⟨b18, hq_19, e⟩ := e
      refine go_get (v := .ref b18) rfl rfl hk_10 (by decide) (by show va_rf (gR h7 a0 51) = _; rw [hq_19]; rfl) ?_
      refine go_iload_n rfl rfl ?_
      replace e := ck_as_e e
      obtain ⟨hc_20, e⟩ := e
      refine go_iald rfl hc_20 ?_
      refine go_iconst (v := 1) rfl (by decide) ?_
      refine go_icmp_ne (t := 40) rfl rfl (fun hx_21 => ?_) (fun hx_21 => ?_)
      · rw [if_pos hx_21] at e
        refine go_bipush (v := (-3)) rfl (by decide) ?_
        cases e
        exact go_ret rfl rfl
      · rw [if_neg hx_21] at e
        refine go_aload_n rfl rfl ?_
        replace e := ck_some_e e
        obtain ⟨b22, hq_23, e⟩ := e
        refine go_get (v := .ref b22) rfl rfl hk_10 (by decide) (by show va_rf (gR h7 a0 50) = _; rw [hq_23]; rfl) ?_
        refine go_iload_n rfl rfl ?_
        replace e := ck_as_e e
        obtain ⟨hc_24, e⟩ := e
        refine go_iald rfl hc_24 ?_
        generalize gI h7 b22 (v1 : Int32).toNatClampNeg = x25 at e ⊢
        replace e := ck_then_e e
        refine go_istore_n rfl rfl ?_
        show Go k_RM_member 47 [some (.ref a0), some (.int v1), some (.int x25), none, none] [] h7 _
        refine go_aload_n rfl rfl ?_
        refine go_iload_n rfl rfl ?_
        replace e := ck_bd_e e
        obtain ⟨r26, h27, e28, e⟩ := e
        refine go_callV (As := [.int x25]) (b0 := a0) (rest := []) rfl rfl ⟨hk_10, by decide⟩ rfl ⟨Nat.le_of_ble_eq_true rfl, Nat.le_of_ble_eq_true rfl, Nat.le_of_ble_eq_true rfl, Nat.le_of_ble_eq_true rfl⟩ (s_RM_findMember e28) ?_
        show Go k_RM_member 52 [some (.ref a0), some (.int v1), some (.int x25), none, none] [.int r26] h27 _
        refine go_istore_n rfl rfl ?_
        show Go k_RM_member 53 [some (.ref a0), some (.int v1), some (.int x25), some (.int r26), none] [] h27 _
        refine go_iload_n rfl rfl ?_
        refine go_iconst (v := (-1)) rfl (by decide) ?_
        refine go_icmp_ne (t := 60) rfl rfl (fun hx_29 => ?_) (fun hx_29 => ?_)
        · rw [if_pos hx_29] at e
          refine go_iconst (v := (-1)) rfl (by decide) ?_
          cases e
          exact go_ret rfl rfl
        · rw [if_neg hx_29] at e
          refine go_bipush (v := 40) rfl (by decide) ?_
          refine go_iload_n rfl rfl ?_
          refine go_imul rfl ?_
          refine go_iload_n rfl rfl ?_
          refine go_iadd rfl ?_
          generalize (40 * x25) + r26 = x30 at e ⊢
          replace e := ck_then_e e
          refine go_istore rfl rfl ?_
          show Go k_RM_member 68 [some (.ref a0), some (.int v1), some (.int x25), some (.int r26), some (.int x30)] [] h27 _
          refine go_aload_n rfl rfl ?_
          replace e := ck_as_e e
          obtain ⟨hk_31, e⟩ := e
          replace e := ck_some_e e
          obtain ⟨b32, hq_33, e⟩ := e
          refine go_get (v := .ref b32) rfl rfl hk_31 (by decide) (by show va_rf (gR h27 a0 66) = _; rw [hq_33]; rfl) ?_
          refine go_iload_n rfl rfl ?_
          refine go_iconst (v := 1) rfl (by decide) ?_
          replace e := ck_as_e e
          obtain ⟨hc_34, e⟩ := e
          refine go_zast rfl hc_34 ?_
          have hk_36 : gk (wI h27 b32 (v1 : Int32).toNatClampNeg 1) a0 = 12 := ck_kI.trans hk_31
          generalize wI h27 b32 (v1 : Int32).toNatClampNeg 1 = h35 at e hk_36 ⊢
          replace e := ck_then_e e
          refine go_aload_n rfl rfl ?_
          replace e := ck_some_e e
          obtain ⟨b37, hq_38, e⟩ := e
          refine go_get (v := .ref b37) rfl rfl hk_36 (by decide) (by show va_rf (gR h35 a0 67) = _; rw [hq_38]; rfl) ?_
          refine go_iload_n rfl rfl ?_
          refine go_iconst (v := 0) rfl (by decide) ?_
          replace e := ck_as_e e
          obtain ⟨hc_39, e⟩ := e
          refine go_zast rfl hc_39 ?_
          have hk_41 : gk (wI h35 b37 (v1 : Int32).toNatClampNeg 0) a0 = 12 := ck_kI.trans hk_36
          generalize wI h35 b37 (v1 : Int32).toNatClampNeg 0 = h40 at e hk_41 ⊢
          replace e := ck_then_e e
          refine go_aload_n rfl rfl ?_
          refine go_iload_n rfl rfl ?_
          refine go_aload_n rfl rfl ?_
          replace e := ck_some_e e
          obtain ⟨b42, hq_43, e⟩ := e
          refine go_get (v := .ref b42) rfl rfl hk_41 (by decide) (by show va_rf (gR h40 a0 42) = _; rw [hq_43]; rfl) ?_
          refine go_iload rfl rfl ?_
          replace e := ck_as_e e
          obtain ⟨hc_44, e⟩ := e
          refine go_iald rfl hc_44 ?_
          refine go_aload_n rfl rfl ?_
          replace e := ck_some_e e
          obtain ⟨b45, hq_46, e⟩ := e
          refine go_get (v := .ref b45) rfl rfl hk_41 (by decide) (by show va_rf (gR h40 a0 43) = _; rw [hq_46]; rfl) ?_
          refine go_iload rfl rfl ?_
          replace e := ck_as_e e
          obtain ⟨hc_47, e⟩ := e
          refine go_iald rfl hc_47 ?_
          refine go_iconst (v := 1) rfl (by decide) ?_
          refine go_isub rfl ?_
          refine go_aload_n rfl rfl ?_
          replace e := ck_some_e e
          obtain ⟨b48, hq_49, e⟩ := e
          refine go_get (v := .ref b48) rfl rfl hk_41 (by decide) (by show va_rf (gR h40 a0 44) = _; rw [hq_49]; rfl) ?_
          refine go_iload rfl rfl ?_
          replace e := ck_as_e e
          obtain ⟨hc_50, e⟩ := e
          refine go_iald rfl hc_50 ?_
          replace e := ck_bd_e e
          obtain ⟨r51, h52, e53, e⟩ := e
          refine go_callV (As := [.int v1, .int (gI h40 b42 (x30 : Int32).toNatClampNeg), .int ((gI h40 b45 (x30 : Int32).toNatClampNeg) - 1), .int (gI h40 b48 (x30 : Int32).toNatClampNeg)]) (b0 := a0) (rest := []) rfl rfl ⟨hk_41, by decide⟩ rfl ⟨Nat.le_of_ble_eq_true rfl, Nat.le_of_ble_eq_true rfl, Nat.le_of_ble_eq_true rfl, Nat.le_of_ble_eq_true rfl⟩ (s_RM_begin e53) ?_
          show Go k_RM_member 110 [some (.ref a0), some (.int v1), some (.int x25), some (.int r26), some (.int x30)] [] h52 _
          refine go_aload_n rfl rfl ?_
          replace e := ck_as_e e
          obtain ⟨hk_54, e⟩ := e
          replace e := ck_some_e e
          obtain ⟨b55, hq_56, e⟩ := e
          refine go_get (v := .ref b55) rfl rfl hk_54 (by decide) (by show va_rf (gR h52 a0 44) = _; rw [hq_56]; rfl) ?_
          refine go_iload rfl rfl ?_
          replace e := ck_as_e e
          obtain ⟨hc_57, e⟩ := e
          refine go_iald rfl hc_57 ?_
          cases e
          exact go_ret rfl rfl
    · rw [if_neg hx_17] at e
      refine go_bipush (v := (-3)) rfl (by decide) ?_
      cases e
      exact go_ret rfl rfl
def f_RM_order_L2 (F : Nat)  : Nat → Nat → Int32 → Int32 → ck_H → Option (Int32 × ck_H)
  | 0, _, _, _, _ => none
  | n + 1, a0, v1, v2, h =>
    if v2 < (8 : Int32) then
      ck_as (gk h a0 = 12) <|
      ck_some (gR h a0 34) fun b3 =>
      ck_as ((gk h b3 = 13 ∨ gk h b3 = 15) ∧ ¬ v2 < 0 ∧ (v2 : Int32).toNatClampNeg < gz h b3) <|
      ck_some (gR h a0 41) fun b6 =>
      ck_as ((gk h b6 = 13 ∨ gk h b6 = 15) ∧ ¬ ((8 * v1) + v2) < 0 ∧ ((8 * v1) + v2 : Int32).toNatClampNeg < gz h b6) <|
      if (gI h b3 (v2 : Int32).toNatClampNeg) = (gI h b6 ((8 * v1) + v2 : Int32).toNatClampNeg) then
        f_RM_order_L2 F n a0 v1 (v2 + 1) h
      else
        ck_some (gR h a0 34) fun b10 =>
        ck_as ((gk h b10 = 13 ∨ gk h b10 = 15) ∧ ¬ v2 < 0 ∧ (v2 : Int32).toNatClampNeg < gz h b10) <|
        ck_some (gR h a0 41) fun b13 =>
        ck_as ((gk h b13 = 13 ∨ gk h b13 = 15) ∧ ¬ ((8 * v1) + v2) < 0 ∧ ((8 * v1) + v2 : Int32).toNatClampNeg < gz h b13) <|
        some (((gI h b10 (v2 : Int32).toNatClampNeg) &&& 255) - ((gI h b13 ((8 * v1) + v2 : Int32).toNatClampNeg) &&& 255), h)
    else
      some (0, h)
set_option maxRecDepth 100000 in
set_option maxHeartbeats 4000000 in
theorem f_RM_order_L2_s (F : Nat)   : ∀ (n : Nat) (a0 : Nat) (v1 : Int32) (v2 : Int32) (h : ck_H) (r : Int32) (h' : ck_H), f_RM_order_L2 F n a0 v1 v2 h = some (r, h') → Go k_RM_order 2 [some (.ref a0), some (.int v1), some (.int v2)] [] h (some (.int r), h') := by
  intro n
  induction n with
  | zero => intro a0 v1 v2 h r h' e; simp only [f_RM_order_L2] at e; cases e
  | succ n ih =>
    intro a0 v1 v2 h r h' e
    rw [f_RM_order_L2] at e
    refine go_iload_n rfl rfl ?_
    refine go_bipush (v := 8) rfl (by decide) ?_
    refine go_icmp_ge (t := 61) rfl rfl (fun hx_1 => ?_) (fun hx_1 => ?_)
    · rw [if_pos hx_1] at e
      refine go_aload_n rfl rfl ?_
      replace e := ck_as_e e
      obtain ⟨hk_2, e⟩ := e
      replace e := ck_some_e e
      obtain ⟨b3, hq_4, e⟩ := e
      refine go_get (v := .ref b3) rfl rfl hk_2 (by decide) (by show va_rf (gR h a0 34) = _; rw [hq_4]; rfl) ?_
      refine go_iload_n rfl rfl ?_
      replace e := ck_as_e e
      obtain ⟨hc_5, e⟩ := e
      refine go_bald rfl hc_5 ?_
      refine go_aload_n rfl rfl ?_
      replace e := ck_some_e e
      obtain ⟨b6, hq_7, e⟩ := e
      refine go_get (v := .ref b6) rfl rfl hk_2 (by decide) (by show va_rf (gR h a0 41) = _; rw [hq_7]; rfl) ?_
      refine go_bipush (v := 8) rfl (by decide) ?_
      refine go_iload_n rfl rfl ?_
      refine go_imul rfl ?_
      refine go_iload_n rfl rfl ?_
      refine go_iadd rfl ?_
      replace e := ck_as_e e
      obtain ⟨hc_8, e⟩ := e
      refine go_bald rfl hc_8 ?_
      refine go_icmp_eq (t := 55) rfl rfl (fun hx_9 => ?_) (fun hx_9 => ?_)
      · rw [if_pos hx_9] at e
        refine go_iinc (v := 1) rfl rfl (by decide) rfl ?_
        show Go k_RM_order 58 [some (.ref a0), some (.int v1), some (.int (v2 + 1))] [] h _
        refine go_goto (t := 2) rfl rfl ?_
        refine go_forget (l := [some (.ref a0), some (.int v1), some (.int (v2 + 1))]) ⟨Or.inl rfl, Or.inl rfl, Or.inl rfl, trivial⟩ ?_
        exact ih _ _ _ _ _ _ e
      · rw [if_neg hx_9] at e
        refine go_aload_n rfl rfl ?_
        replace e := ck_some_e e
        obtain ⟨b10, hq_11, e⟩ := e
        refine go_get (v := .ref b10) rfl rfl hk_2 (by decide) (by show va_rf (gR h a0 34) = _; rw [hq_11]; rfl) ?_
        refine go_iload_n rfl rfl ?_
        replace e := ck_as_e e
        obtain ⟨hc_12, e⟩ := e
        refine go_bald rfl hc_12 ?_
        refine go_sipush (v := 255) rfl (by decide) ?_
        refine go_iand rfl ?_
        refine go_aload_n rfl rfl ?_
        replace e := ck_some_e e
        obtain ⟨b13, hq_14, e⟩ := e
        refine go_get (v := .ref b13) rfl rfl hk_2 (by decide) (by show va_rf (gR h a0 41) = _; rw [hq_14]; rfl) ?_
        refine go_bipush (v := 8) rfl (by decide) ?_
        refine go_iload_n rfl rfl ?_
        refine go_imul rfl ?_
        refine go_iload_n rfl rfl ?_
        refine go_iadd rfl ?_
        replace e := ck_as_e e
        obtain ⟨hc_15, e⟩ := e
        refine go_bald rfl hc_15 ?_
        refine go_sipush (v := 255) rfl (by decide) ?_
        refine go_iand rfl ?_
        refine go_isub rfl ?_
        cases e
        exact go_ret rfl rfl
    · rw [if_neg hx_1] at e
      refine go_iconst (v := 0) rfl (by decide) ?_
      cases e
      exact go_ret rfl rfl
def f_RM_order (F : Nat) (a0 : Nat) (v1 : Int32) (h : ck_H) : Option (Int32 × ck_H) :=
  f_RM_order_L2 F F a0 v1 0 h
set_option maxRecDepth 100000 in
set_option maxHeartbeats 4000000 in
theorem s_RM_order {F : Nat} {a0 : Nat} {v1 : Int32} {h h' : ck_H} {r : Int32} (e : f_RM_order F a0 v1 h = some (r, h')) : Go k_RM_order 0 (ck_in [.ref a0, .int v1] 3) [] h (some (.int r), h') := by
  unfold f_RM_order at e
  show Go k_RM_order 0 [some (.ref a0), some (.int v1), none] [] h _
  refine go_iconst (v := 0) rfl (by decide) ?_
  refine go_istore_n rfl rfl ?_
  show Go k_RM_order 2 [some (.ref a0), some (.int v1), some (.int 0)] [] h _
  refine go_forget (l := [some (.ref a0), some (.int v1), some (.int 0)]) ⟨Or.inl rfl, Or.inl rfl, Or.inl rfl, trivial⟩ ?_
  exact f_RM_order_L2_s F F _ _ _ _ _ _ e
def f_RM_copyMember_L2 (F : Nat)  : Nat → Nat → Int32 → Int32 → Int32 → ck_H → Option (Unit × ck_H)
  | 0, _, _, _, _, _ => none
  | n + 1, a0, v1, v2, v3, h =>
    if v3 < (8 : Int32) then
      ck_as (gk h a0 = 12) <|
      ck_some (gR h a0 41) fun b3 =>
      ck_some (gR h a0 41) fun b5 =>
      ck_as ((gk h b5 = 13 ∨ gk h b5 = 15) ∧ ¬ ((8 * v2) + v3) < 0 ∧ ((8 * v2) + v3 : Int32).toNatClampNeg < gz h b5) <|
      ck_as (gk h b3 = 13 ∧ ¬ ((8 * v1) + v3) < 0 ∧ ((8 * v1) + v3 : Int32).toNatClampNeg < gz h b3) <|
      ck_then (wI h b3 ((8 * v1) + v3 : Int32).toNatClampNeg (gI h b5 ((8 * v2) + v3 : Int32).toNatClampNeg : Int32).toInt8.toInt32) fun h9 =>
      f_RM_copyMember_L2 F n a0 v1 v2 (v3 + 1) h9
    else
      ck_as (gk h a0 = 12) <|
      ck_some (gR h a0 42) fun b12 =>
      ck_some (gR h a0 42) fun b14 =>
      ck_as ((gk h b14 = 14 ∨ gk h b14 = 21) ∧ ¬ v2 < 0 ∧ (v2 : Int32).toNatClampNeg < gz h b14) <|
      ck_as (gk h b12 = 14 ∧ ¬ v1 < 0 ∧ (v1 : Int32).toNatClampNeg < gz h b12) <|
      ck_then (wI h b12 (v1 : Int32).toNatClampNeg (gI h b14 (v2 : Int32).toNatClampNeg)) fun h18 =>
      ck_some (gR h18 a0 43) fun b20 =>
      ck_some (gR h18 a0 43) fun b22 =>
      ck_as ((gk h18 b22 = 14 ∨ gk h18 b22 = 21) ∧ ¬ v2 < 0 ∧ (v2 : Int32).toNatClampNeg < gz h18 b22) <|
      ck_as (gk h18 b20 = 14 ∧ ¬ v1 < 0 ∧ (v1 : Int32).toNatClampNeg < gz h18 b20) <|
      ck_then (wI h18 b20 (v1 : Int32).toNatClampNeg (gI h18 b22 (v2 : Int32).toNatClampNeg)) fun h26 =>
      ck_some (gR h26 a0 44) fun b28 =>
      ck_some (gR h26 a0 44) fun b30 =>
      ck_as ((gk h26 b30 = 14 ∨ gk h26 b30 = 21) ∧ ¬ v2 < 0 ∧ (v2 : Int32).toNatClampNeg < gz h26 b30) <|
      ck_as (gk h26 b28 = 14 ∧ ¬ v1 < 0 ∧ (v1 : Int32).toNatClampNeg < gz h26 b28) <|
      ck_then (wI h26 b28 (v1 : Int32).toNatClampNeg (gI h26 b30 (v2 : Int32).toNatClampNeg)) fun h34 =>
      some ((), h34)
set_option maxRecDepth 100000 in
set_option maxHeartbeats 4000000 in
theorem f_RM_copyMember_L2_s (F : Nat)   : ∀ (n : Nat) (a0 : Nat) (v1 : Int32) (v2 : Int32) (v3 : Int32) (h : ck_H) (r : Unit) (h' : ck_H), f_RM_copyMember_L2 F n a0 v1 v2 v3 h = some (r, h') → Go k_RM_copyMember 2 [some (.ref a0), some (.int v1), some (.int v2), some (.int v3)] [] h (none, h') := by
  intro n
  induction n with
  | zero => intro a0 v1 v2 v3 h r h' e; simp only [f_RM_copyMember_L2] at e; cases e
  | succ n ih =>
    intro a0 v1 v2 v3 h r h' e
    rw [f_RM_copyMember_L2] at e
    refine go_iload_n rfl rfl ?_
    refine go_bipush (v := 8) rfl (by decide) ?_
    refine go_icmp_ge (t := 36) rfl rfl (fun hx_1 => ?_) (fun hx_1 => ?_)
    · rw [if_pos hx_1] at e
      refine go_aload_n rfl rfl ?_
      replace e := ck_as_e e
      obtain ⟨hk_2, e⟩ := e
      replace e := ck_some_e e
      obtain ⟨b3, hq_4, e⟩ := e
      refine go_get (v := .ref b3) rfl rfl hk_2 (by decide) (by show va_rf (gR h a0 41) = _; rw [hq_4]; rfl) ?_
      refine go_bipush (v := 8) rfl (by decide) ?_
      refine go_iload_n rfl rfl ?_
      refine go_imul rfl ?_
      refine go_iload_n rfl rfl ?_
      refine go_iadd rfl ?_
      refine go_aload_n rfl rfl ?_
      replace e := ck_some_e e
      obtain ⟨b5, hq_6, e⟩ := e
      refine go_get (v := .ref b5) rfl rfl hk_2 (by decide) (by show va_rf (gR h a0 41) = _; rw [hq_6]; rfl) ?_
      refine go_bipush (v := 8) rfl (by decide) ?_
      refine go_iload_n rfl rfl ?_
      refine go_imul rfl ?_
      refine go_iload_n rfl rfl ?_
      refine go_iadd rfl ?_
      replace e := ck_as_e e
      obtain ⟨hc_7, e⟩ := e
      refine go_bald rfl hc_7 ?_
      replace e := ck_as_e e
      obtain ⟨hc_8, e⟩ := e
      refine go_bast rfl hc_8 ?_
      have hk_10 : gk (wI h b3 ((8 * v1) + v3 : Int32).toNatClampNeg (gI h b5 ((8 * v2) + v3 : Int32).toNatClampNeg : Int32).toInt8.toInt32) a0 = 12 := ck_kI.trans hk_2
      generalize wI h b3 ((8 * v1) + v3 : Int32).toNatClampNeg (gI h b5 ((8 * v2) + v3 : Int32).toNatClampNeg : Int32).toInt8.toInt32 = h9 at e hk_10 ⊢
      replace e := ck_then_e e
      refine go_iinc (v := 1) rfl rfl (by decide) rfl ?_
      show Go k_RM_copyMember 33 [some (.ref a0), some (.int v1), some (.int v2), some (.int (v3 + 1))] [] h9 _
      refine go_goto (t := 2) rfl rfl ?_
      refine go_forget (l := [some (.ref a0), some (.int v1), some (.int v2), some (.int (v3 + 1))]) ⟨Or.inl rfl, Or.inl rfl, Or.inl rfl, Or.inl rfl, trivial⟩ ?_
      exact ih _ _ _ _ _ _ _ e
    · rw [if_neg hx_1] at e
      refine go_aload_n rfl rfl ?_
      replace e := ck_as_e e
      obtain ⟨hk_11, e⟩ := e
      replace e := ck_some_e e
      obtain ⟨b12, hq_13, e⟩ := e
      refine go_get (v := .ref b12) rfl rfl hk_11 (by decide) (by show va_rf (gR h a0 42) = _; rw [hq_13]; rfl) ?_
      refine go_iload_n rfl rfl ?_
      refine go_aload_n rfl rfl ?_
      replace e := ck_some_e e
      obtain ⟨b14, hq_15, e⟩ := e
      refine go_get (v := .ref b14) rfl rfl hk_11 (by decide) (by show va_rf (gR h a0 42) = _; rw [hq_15]; rfl) ?_
      refine go_iload_n rfl rfl ?_
      replace e := ck_as_e e
      obtain ⟨hc_16, e⟩ := e
      refine go_iald rfl hc_16 ?_
      replace e := ck_as_e e
      obtain ⟨hc_17, e⟩ := e
      refine go_iast rfl hc_17 ?_
      have hk_19 : gk (wI h b12 (v1 : Int32).toNatClampNeg (gI h b14 (v2 : Int32).toNatClampNeg)) a0 = 12 := ck_kI.trans hk_11
      generalize wI h b12 (v1 : Int32).toNatClampNeg (gI h b14 (v2 : Int32).toNatClampNeg) = h18 at e hk_19 ⊢
      replace e := ck_then_e e
      refine go_aload_n rfl rfl ?_
      replace e := ck_some_e e
      obtain ⟨b20, hq_21, e⟩ := e
      refine go_get (v := .ref b20) rfl rfl hk_19 (by decide) (by show va_rf (gR h18 a0 43) = _; rw [hq_21]; rfl) ?_
      refine go_iload_n rfl rfl ?_
      refine go_aload_n rfl rfl ?_
      replace e := ck_some_e e
      obtain ⟨b22, hq_23, e⟩ := e
      refine go_get (v := .ref b22) rfl rfl hk_19 (by decide) (by show va_rf (gR h18 a0 43) = _; rw [hq_23]; rfl) ?_
      refine go_iload_n rfl rfl ?_
      replace e := ck_as_e e
      obtain ⟨hc_24, e⟩ := e
      refine go_iald rfl hc_24 ?_
      replace e := ck_as_e e
      obtain ⟨hc_25, e⟩ := e
      refine go_iast rfl hc_25 ?_
      have hk_27 : gk (wI h18 b20 (v1 : Int32).toNatClampNeg (gI h18 b22 (v2 : Int32).toNatClampNeg)) a0 = 12 := ck_kI.trans hk_19
      generalize wI h18 b20 (v1 : Int32).toNatClampNeg (gI h18 b22 (v2 : Int32).toNatClampNeg) = h26 at e hk_27 ⊢
      replace e := ck_then_e e
      refine go_aload_n rfl rfl ?_
      replace e := ck_some_e e
      obtain ⟨b28, hq_29, e⟩ := e
      refine go_get (v := .ref b28) rfl rfl hk_27 (by decide) (by show va_rf (gR h26 a0 44) = _; rw [hq_29]; rfl) ?_
      refine go_iload_n rfl rfl ?_
      refine go_aload_n rfl rfl ?_
      replace e := ck_some_e e
      obtain ⟨b30, hq_31, e⟩ := e
      refine go_get (v := .ref b30) rfl rfl hk_27 (by decide) (by show va_rf (gR h26 a0 44) = _; rw [hq_31]; rfl) ?_
      refine go_iload_n rfl rfl ?_
      replace e := ck_as_e e
      obtain ⟨hc_32, e⟩ := e
      refine go_iald rfl hc_32 ?_
      replace e := ck_as_e e
      obtain ⟨hc_33, e⟩ := e
      refine go_iast rfl hc_33 ?_
      have hk_35 : gk (wI h26 b28 (v1 : Int32).toNatClampNeg (gI h26 b30 (v2 : Int32).toNatClampNeg)) a0 = 12 := ck_kI.trans hk_27
      generalize wI h26 b28 (v1 : Int32).toNatClampNeg (gI h26 b30 (v2 : Int32).toNatClampNeg) = h34 at e hk_35 ⊢
      replace e := ck_then_e e
      cases e
      exact go_ret rfl rfl
def f_RM_copyMember (F : Nat) (a0 : Nat) (v1 : Int32) (v2 : Int32) (h : ck_H) : Option (Unit × ck_H) :=
  f_RM_copyMember_L2 F F a0 v1 v2 0 h
set_option maxRecDepth 100000 in
set_option maxHeartbeats 4000000 in
theorem s_RM_copyMember {F : Nat} {a0 : Nat} {v1 : Int32} {v2 : Int32} {h h' : ck_H} {r : Unit} (e : f_RM_copyMember F a0 v1 v2 h = some (r, h')) : Go k_RM_copyMember 0 (ck_in [.ref a0, .int v1, .int v2] 4) [] h (none, h') := by
  unfold f_RM_copyMember at e
  show Go k_RM_copyMember 0 [some (.ref a0), some (.int v1), some (.int v2), none] [] h _
  refine go_iconst (v := 0) rfl (by decide) ?_
  refine go_istore_n rfl rfl ?_
  show Go k_RM_copyMember 2 [some (.ref a0), some (.int v1), some (.int v2), some (.int 0)] [] h _
  refine go_forget (l := [some (.ref a0), some (.int v1), some (.int v2), some (.int 0)]) ⟨Or.inl rfl, Or.inl rfl, Or.inl rfl, Or.inl rfl, trivial⟩ ?_
  exact f_RM_copyMember_L2_s F F _ _ _ _ _ _ _ e
def f_RM_writeList_L160 (F : Nat) (k16 : Nat → Int32 → Int32 → Int32 → ck_H → Option (Unit × ck_H)) (k124 : Nat → Int32 → Int32 → Int32 → Int32 → Int32 → Int32 → ck_H → Option (Unit × ck_H)) : Nat → Nat → Int32 → Int32 → Int32 → Int32 → Int32 → Int32 → Int32 → Int32 → Int32 → ck_H → Option (Unit × ck_H)
  | 0, _, _, _, _, _, _, _, _, _, _, _ => none
  | n + 1, a0, v1, v2, v3, v4, v5, v6, v7, v8, v9, h =>
    if v9 < (8 : Int32) then
      ck_as (gk h a0 = 12) <|
      ck_some (gR h a0 0) fun b3 =>
      ck_some (gR h a0 41) fun b5 =>
      ck_as ((gk h b5 = 13 ∨ gk h b5 = 15) ∧ ¬ ((8 * v7) + v9) < 0 ∧ ((8 * v7) + v9 : Int32).toNatClampNeg < gz h b5) <|
      ck_as (gk h b3 = 13 ∧ ¬ (v8 + v9) < 0 ∧ (v8 + v9 : Int32).toNatClampNeg < gz h b3) <|
      ck_then (wI h b3 (v8 + v9 : Int32).toNatClampNeg (gI h b5 ((8 * v7) + v9 : Int32).toNatClampNeg : Int32).toInt8.toInt32) fun h9 =>
      f_RM_writeList_L160 F k16 k124 n a0 v1 v2 v3 v4 v5 v6 v7 v8 (v9 + 1) h9
    else
      ck_as (gk h a0 = 12) <|
      ck_some (gR h a0 0) fun b12 =>
      ck_some (gR h a0 42) fun b14 =>
      ck_as ((gk h b14 = 14 ∨ gk h b14 = 21) ∧ ¬ v7 < 0 ∧ (v7 : Int32).toNatClampNeg < gz h b14) <|
      ck_as (gk h b12 = 13 ∧ ¬ (v8 + 8) < 0 ∧ (v8 + 8 : Int32).toNatClampNeg < gz h b12) <|
      ck_then (wI h b12 (v8 + 8 : Int32).toNatClampNeg ((gI h b14 (v7 : Int32).toNatClampNeg : Int32).toInt8.toInt32 : Int32).toInt8.toInt32) fun h18 =>
      ck_some (gR h18 a0 0) fun b20 =>
      ck_some (gR h18 a0 43) fun b22 =>
      ck_as ((gk h18 b22 = 14 ∨ gk h18 b22 = 21) ∧ ¬ v7 < 0 ∧ (v7 : Int32).toNatClampNeg < gz h18 b22) <|
      ck_as (gk h18 b20 = 13 ∧ ¬ (v8 + 9) < 0 ∧ (v8 + 9 : Int32).toNatClampNeg < gz h18 b20) <|
      ck_then (wI h18 b20 (v8 + 9 : Int32).toNatClampNeg ((gI h18 b22 (v7 : Int32).toNatClampNeg : Int32).toInt8.toInt32 : Int32).toInt8.toInt32) fun h26 =>
      ck_some (gR h26 a0 0) fun b28 =>
      ck_some (gR h26 a0 44) fun b30 =>
      ck_as ((gk h26 b30 = 14 ∨ gk h26 b30 = 21) ∧ ¬ v7 < 0 ∧ (v7 : Int32).toNatClampNeg < gz h26 b30) <|
      ck_bd (f_RM_putTwo F b28 (v8 + 10) (gI h26 b30 (v7 : Int32).toNatClampNeg) h26) fun _ h34 =>
      k124 a0 v1 v2 v3 v4 v5 (v6 + 1) h34
set_option maxRecDepth 100000 in
set_option maxHeartbeats 4000000 in
theorem f_RM_writeList_L160_s (F : Nat) (k16 : Nat → Int32 → Int32 → Int32 → ck_H → Option (Unit × ck_H)) (k124 : Nat → Int32 → Int32 → Int32 → Int32 → Int32 → Int32 → ck_H → Option (Unit × ck_H)) (hk16 : ∀ (a0 : Nat) (v1 : Int32) (v2 : Int32) (v3 : Int32) (h : ck_H) (r : Unit) (h' : ck_H), k16 a0 v1 v2 v3 h = some (r, h') → Go k_RM_writeList 16 [some (.ref a0), some (.int v1), some (.int v2), some (.int v3), none, none, none, none, none, none] [] h (none, h')) (hk124 : ∀ (a0 : Nat) (v1 : Int32) (v2 : Int32) (v3 : Int32) (v4 : Int32) (v5 : Int32) (v6 : Int32) (h : ck_H) (r : Unit) (h' : ck_H), k124 a0 v1 v2 v3 v4 v5 v6 h = some (r, h') → Go k_RM_writeList 124 [some (.ref a0), some (.int v1), some (.int v2), some (.int v3), some (.int v4), some (.int v5), some (.int v6), none, none, none] [] h (none, h')) : ∀ (n : Nat) (a0 : Nat) (v1 : Int32) (v2 : Int32) (v3 : Int32) (v4 : Int32) (v5 : Int32) (v6 : Int32) (v7 : Int32) (v8 : Int32) (v9 : Int32) (h : ck_H) (r : Unit) (h' : ck_H), f_RM_writeList_L160 F k16 k124 n a0 v1 v2 v3 v4 v5 v6 v7 v8 v9 h = some (r, h') → Go k_RM_writeList 160 [some (.ref a0), some (.int v1), some (.int v2), some (.int v3), some (.int v4), some (.int v5), some (.int v6), some (.int v7), some (.int v8), some (.int v9)] [] h (none, h') := by
  intro n
  induction n with
  | zero => intro a0 v1 v2 v3 v4 v5 v6 v7 v8 v9 h r h' e; simp only [f_RM_writeList_L160] at e; cases e
  | succ n ih =>
    intro a0 v1 v2 v3 v4 v5 v6 v7 v8 v9 h r h' e
    rw [f_RM_writeList_L160] at e
    refine go_iload rfl rfl ?_
    refine go_bipush (v := 8) rfl (by decide) ?_
    refine go_icmp_ge (t := 196) rfl rfl (fun hx_1 => ?_) (fun hx_1 => ?_)
    · rw [if_pos hx_1] at e
      refine go_aload_n rfl rfl ?_
      replace e := ck_as_e e
      obtain ⟨hk_2, e⟩ := e
      replace e := ck_some_e e
      obtain ⟨b3, hq_4, e⟩ := e
      refine go_get (v := .ref b3) rfl rfl hk_2 (by decide) (by show va_rf (gR h a0 0) = _; rw [hq_4]; rfl) ?_
      refine go_iload rfl rfl ?_
      refine go_iload rfl rfl ?_
      refine go_iadd rfl ?_
      refine go_aload_n rfl rfl ?_
      replace e := ck_some_e e
      obtain ⟨b5, hq_6, e⟩ := e
      refine go_get (v := .ref b5) rfl rfl hk_2 (by decide) (by show va_rf (gR h a0 41) = _; rw [hq_6]; rfl) ?_
      refine go_bipush (v := 8) rfl (by decide) ?_
      refine go_iload rfl rfl ?_
      refine go_imul rfl ?_
      refine go_iload rfl rfl ?_
      refine go_iadd rfl ?_
      replace e := ck_as_e e
      obtain ⟨hc_7, e⟩ := e
      refine go_bald rfl hc_7 ?_
      replace e := ck_as_e e
      obtain ⟨hc_8, e⟩ := e
      refine go_bast rfl hc_8 ?_
      have hk_10 : gk (wI h b3 (v8 + v9 : Int32).toNatClampNeg (gI h b5 ((8 * v7) + v9 : Int32).toNatClampNeg : Int32).toInt8.toInt32) a0 = 12 := ck_kI.trans hk_2
      generalize wI h b3 (v8 + v9 : Int32).toNatClampNeg (gI h b5 ((8 * v7) + v9 : Int32).toNatClampNeg : Int32).toInt8.toInt32 = h9 at e hk_10 ⊢
      replace e := ck_then_e e
      refine go_iinc (v := 1) rfl rfl (by decide) rfl ?_
      show Go k_RM_writeList 193 [some (.ref a0), some (.int v1), some (.int v2), some (.int v3), some (.int v4), some (.int v5), some (.int v6), some (.int v7), some (.int v8), some (.int (v9 + 1))] [] h9 _
      refine go_goto (t := 160) rfl rfl ?_
      refine go_forget (l := [some (.ref a0), some (.int v1), some (.int v2), some (.int v3), some (.int v4), some (.int v5), some (.int v6), some (.int v7), some (.int v8), some (.int (v9 + 1))]) ⟨Or.inl rfl, Or.inl rfl, Or.inl rfl, Or.inl rfl, Or.inl rfl, Or.inl rfl, Or.inl rfl, Or.inl rfl, Or.inl rfl, Or.inl rfl, trivial⟩ ?_
      exact ih _ _ _ _ _ _ _ _ _ _ _ _ _ e
    · rw [if_neg hx_1] at e
      refine go_aload_n rfl rfl ?_
      replace e := ck_as_e e
      obtain ⟨hk_11, e⟩ := e
      replace e := ck_some_e e
      obtain ⟨b12, hq_13, e⟩ := e
      refine go_get (v := .ref b12) rfl rfl hk_11 (by decide) (by show va_rf (gR h a0 0) = _; rw [hq_13]; rfl) ?_
      refine go_iload rfl rfl ?_
      refine go_bipush (v := 8) rfl (by decide) ?_
      refine go_iadd rfl ?_
      refine go_aload_n rfl rfl ?_
      replace e := ck_some_e e
      obtain ⟨b14, hq_15, e⟩ := e
      refine go_get (v := .ref b14) rfl rfl hk_11 (by decide) (by show va_rf (gR h a0 42) = _; rw [hq_15]; rfl) ?_
      refine go_iload rfl rfl ?_
      replace e := ck_as_e e
      obtain ⟨hc_16, e⟩ := e
      refine go_iald rfl hc_16 ?_
      refine go_i2b rfl ?_
      replace e := ck_as_e e
      obtain ⟨hc_17, e⟩ := e
      refine go_bast rfl hc_17 ?_
      have hk_19 : gk (wI h b12 (v8 + 8 : Int32).toNatClampNeg ((gI h b14 (v7 : Int32).toNatClampNeg : Int32).toInt8.toInt32 : Int32).toInt8.toInt32) a0 = 12 := ck_kI.trans hk_11
      generalize wI h b12 (v8 + 8 : Int32).toNatClampNeg ((gI h b14 (v7 : Int32).toNatClampNeg : Int32).toInt8.toInt32 : Int32).toInt8.toInt32 = h18 at e hk_19 ⊢
      replace e := ck_then_e e
      refine go_aload_n rfl rfl ?_
      replace e := ck_some_e e
      obtain ⟨b20, hq_21, e⟩ := e
      refine go_get (v := .ref b20) rfl rfl hk_19 (by decide) (by show va_rf (gR h18 a0 0) = _; rw [hq_21]; rfl) ?_
      refine go_iload rfl rfl ?_
      refine go_bipush (v := 9) rfl (by decide) ?_
      refine go_iadd rfl ?_
      refine go_aload_n rfl rfl ?_
      replace e := ck_some_e e
      obtain ⟨b22, hq_23, e⟩ := e
      refine go_get (v := .ref b22) rfl rfl hk_19 (by decide) (by show va_rf (gR h18 a0 43) = _; rw [hq_23]; rfl) ?_
      refine go_iload rfl rfl ?_
      replace e := ck_as_e e
      obtain ⟨hc_24, e⟩ := e
      refine go_iald rfl hc_24 ?_
      refine go_i2b rfl ?_
      replace e := ck_as_e e
      obtain ⟨hc_25, e⟩ := e
      refine go_bast rfl hc_25 ?_
      have hk_27 : gk (wI h18 b20 (v8 + 9 : Int32).toNatClampNeg ((gI h18 b22 (v7 : Int32).toNatClampNeg : Int32).toInt8.toInt32 : Int32).toInt8.toInt32) a0 = 12 := ck_kI.trans hk_19
      generalize wI h18 b20 (v8 + 9 : Int32).toNatClampNeg ((gI h18 b22 (v7 : Int32).toNatClampNeg : Int32).toInt8.toInt32 : Int32).toInt8.toInt32 = h26 at e hk_27 ⊢
      replace e := ck_then_e e
      refine go_aload_n rfl rfl ?_
      replace e := ck_some_e e
      obtain ⟨b28, hq_29, e⟩ := e
      refine go_get (v := .ref b28) rfl rfl hk_27 (by decide) (by show va_rf (gR h26 a0 0) = _; rw [hq_29]; rfl) ?_
      refine go_iload rfl rfl ?_
      refine go_bipush (v := 10) rfl (by decide) ?_
      refine go_iadd rfl ?_
      refine go_aload_n rfl rfl ?_
      replace e := ck_some_e e
      obtain ⟨b30, hq_31, e⟩ := e
      refine go_get (v := .ref b30) rfl rfl hk_27 (by decide) (by show va_rf (gR h26 a0 44) = _; rw [hq_31]; rfl) ?_
      refine go_iload rfl rfl ?_
      replace e := ck_as_e e
      obtain ⟨hc_32, e⟩ := e
      refine go_iald rfl hc_32 ?_
      replace e := ck_bd_e e
      obtain ⟨r33, h34, e35, e⟩ := e
      refine go_callS (As := [.ref b28, .int (v8 + 10), .int (gI h26 b30 (v7 : Int32).toNatClampNeg)]) (rest := []) rfl rfl rfl ⟨Nat.le_of_ble_eq_true rfl, Nat.le_of_ble_eq_true rfl, Nat.le_of_ble_eq_true rfl, Nat.le_of_ble_eq_true rfl⟩ (s_RM_putTwo e35) ?_
      show Go k_RM_writeList 251 [some (.ref a0), some (.int v1), some (.int v2), some (.int v3), some (.int v4), some (.int v5), some (.int v6), some (.int v7), some (.int v8), some (.int v9)] [] h34 _
      refine go_iinc (v := 1) rfl rfl (by decide) rfl ?_
      show Go k_RM_writeList 254 [some (.ref a0), some (.int v1), some (.int v2), some (.int v3), some (.int v4), some (.int v5), some (.int (v6 + 1)), some (.int v7), some (.int v8), some (.int v9)] [] h34 _
      refine go_goto (t := 124) rfl rfl ?_
      refine go_forget (l := [some (.ref a0), some (.int v1), some (.int v2), some (.int v3), some (.int v4), some (.int v5), some (.int (v6 + 1)), none, none, none]) ⟨Or.inl rfl, Or.inl rfl, Or.inl rfl, Or.inl rfl, Or.inl rfl, Or.inl rfl, Or.inl rfl, Or.inr ⟨rfl, fun _ q => by cases q; rfl⟩, Or.inr ⟨rfl, fun _ q => by cases q; rfl⟩, Or.inr ⟨rfl, fun _ q => by cases q; rfl⟩, trivial⟩ ?_
      exact hk124 _ _ _ _ _ _ _ _ _ _ e
def f_RM_writeList_L124 (F : Nat) (k16 : Nat → Int32 → Int32 → Int32 → ck_H → Option (Unit × ck_H)) : Nat → Nat → Int32 → Int32 → Int32 → Int32 → Int32 → Int32 → ck_H → Option (Unit × ck_H)
  | 0, _, _, _, _, _, _, _, _ => none
  | n + 1, a0, v1, v2, v3, v4, v5, v6, h =>
    if v6 < v4 then
      ck_then (((40 * v1) + v3) + v6) fun x2 =>
      ck_as (gk h a0 = 12) <|
      ck_bd (f_RM_dataAt F a0 v2 v5 h) fun r4 h5 =>
      ck_then (r4 + (12 * v6)) fun x7 =>
      f_RM_writeList_L160 F k16 (f_RM_writeList_L124 F k16 n) F a0 v1 v2 v3 v4 v5 v6 x2 x7 0 h5
    else
      k16 a0 v1 v2 (v3 + 4) h
set_option maxRecDepth 100000 in
set_option maxHeartbeats 4000000 in
theorem f_RM_writeList_L124_s (F : Nat) (k16 : Nat → Int32 → Int32 → Int32 → ck_H → Option (Unit × ck_H)) (hk16 : ∀ (a0 : Nat) (v1 : Int32) (v2 : Int32) (v3 : Int32) (h : ck_H) (r : Unit) (h' : ck_H), k16 a0 v1 v2 v3 h = some (r, h') → Go k_RM_writeList 16 [some (.ref a0), some (.int v1), some (.int v2), some (.int v3), none, none, none, none, none, none] [] h (none, h')) : ∀ (n : Nat) (a0 : Nat) (v1 : Int32) (v2 : Int32) (v3 : Int32) (v4 : Int32) (v5 : Int32) (v6 : Int32) (h : ck_H) (r : Unit) (h' : ck_H), f_RM_writeList_L124 F k16 n a0 v1 v2 v3 v4 v5 v6 h = some (r, h') → Go k_RM_writeList 124 [some (.ref a0), some (.int v1), some (.int v2), some (.int v3), some (.int v4), some (.int v5), some (.int v6), none, none, none] [] h (none, h') := by
  intro n
  induction n with
  | zero => intro a0 v1 v2 v3 v4 v5 v6 h r h' e; simp only [f_RM_writeList_L124] at e; cases e
  | succ n ih =>
    intro a0 v1 v2 v3 v4 v5 v6 h r h' e
    rw [f_RM_writeList_L124] at e
    refine go_iload rfl rfl ?_
    refine go_iload rfl rfl ?_
    refine go_icmp_ge (t := 257) rfl rfl (fun hx_1 => ?_) (fun hx_1 => ?_)
    · rw [if_pos hx_1] at e
      refine go_bipush (v := 40) rfl (by decide) ?_
      refine go_iload_n rfl rfl ?_
      refine go_imul rfl ?_
      refine go_iload_n rfl rfl ?_
      refine go_iadd rfl ?_
      refine go_iload rfl rfl ?_
      refine go_iadd rfl ?_
      generalize ((40 * v1) + v3) + v6 = x2 at e ⊢
      replace e := ck_then_e e
      refine go_istore rfl rfl ?_
      show Go k_RM_writeList 142 [some (.ref a0), some (.int v1), some (.int v2), some (.int v3), some (.int v4), some (.int v5), some (.int v6), some (.int x2), none, none] [] h _
      refine go_aload_n rfl rfl ?_
      refine go_iload_n rfl rfl ?_
      refine go_iload rfl rfl ?_
      replace e := ck_as_e e
      obtain ⟨hk_3, e⟩ := e
      replace e := ck_bd_e e
      obtain ⟨r4, h5, e6, e⟩ := e
      refine go_callV (As := [.int v2, .int v5]) (b0 := a0) (rest := []) rfl rfl ⟨hk_3, by decide⟩ rfl ⟨Nat.le_of_ble_eq_true rfl, Nat.le_of_ble_eq_true rfl, Nat.le_of_ble_eq_true rfl, Nat.le_of_ble_eq_true rfl⟩ (s_RM_dataAt e6) ?_
      show Go k_RM_writeList 149 [some (.ref a0), some (.int v1), some (.int v2), some (.int v3), some (.int v4), some (.int v5), some (.int v6), some (.int x2), none, none] [.int r4] h5 _
      refine go_bipush (v := 12) rfl (by decide) ?_
      refine go_iload rfl rfl ?_
      refine go_imul rfl ?_
      refine go_iadd rfl ?_
      generalize r4 + (12 * v6) = x7 at e ⊢
      replace e := ck_then_e e
      refine go_istore rfl rfl ?_
      show Go k_RM_writeList 157 [some (.ref a0), some (.int v1), some (.int v2), some (.int v3), some (.int v4), some (.int v5), some (.int v6), some (.int x2), some (.int x7), none] [] h5 _
      refine go_iconst (v := 0) rfl (by decide) ?_
      refine go_istore rfl rfl ?_
      show Go k_RM_writeList 160 [some (.ref a0), some (.int v1), some (.int v2), some (.int v3), some (.int v4), some (.int v5), some (.int v6), some (.int x2), some (.int x7), some (.int 0)] [] h5 _
      refine go_forget (l := [some (.ref a0), some (.int v1), some (.int v2), some (.int v3), some (.int v4), some (.int v5), some (.int v6), some (.int x2), some (.int x7), some (.int 0)]) ⟨Or.inl rfl, Or.inl rfl, Or.inl rfl, Or.inl rfl, Or.inl rfl, Or.inl rfl, Or.inl rfl, Or.inl rfl, Or.inl rfl, Or.inl rfl, trivial⟩ ?_
      exact f_RM_writeList_L160_s F k16 (f_RM_writeList_L124 F k16 n) hk16 ih F _ _ _ _ _ _ _ _ _ _ _ _ _ e
    · rw [if_neg hx_1] at e
      refine go_iinc (v := 4) rfl rfl (by decide) rfl ?_
      show Go k_RM_writeList 260 [some (.ref a0), some (.int v1), some (.int v2), some (.int (v3 + 4)), some (.int v4), some (.int v5), some (.int v6), none, none, none] [] h _
      refine go_goto (t := 16) rfl rfl ?_
      refine go_forget (l := [some (.ref a0), some (.int v1), some (.int v2), some (.int (v3 + 4)), none, none, none, none, none, none]) ⟨Or.inl rfl, Or.inl rfl, Or.inl rfl, Or.inl rfl, Or.inr ⟨rfl, fun _ q => by cases q; rfl⟩, Or.inr ⟨rfl, fun _ q => by cases q; rfl⟩, Or.inr ⟨rfl, fun _ q => by cases q; rfl⟩, Or.inl rfl, Or.inl rfl, Or.inl rfl, trivial⟩ ?_
      exact hk16 _ _ _ _ _ _ _ e
def f_RM_writeList_L71 (F : Nat) (k16 : Nat → Int32 → Int32 → Int32 → ck_H → Option (Unit × ck_H)) : Nat → Nat → Int32 → Int32 → Int32 → Int32 → Int32 → Int32 → ck_H → Option (Unit × ck_H)
  | 0, _, _, _, _, _, _, _, _ => none
  | n + 1, a0, v1, v2, v3, v4, v5, v6, h =>
    if v6 < (8 : Int32) then
      ck_as (gk h a0 = 12) <|
      ck_some (gR h a0 0) fun b3 =>
      ck_bd (f_RM_keyAt F a0 v2 v5 h) fun r5 h6 =>
      ck_as (gk h6 a0 = 12) <|
      ck_some (gR h6 a0 41) fun b9 =>
      ck_as ((gk h6 b9 = 13 ∨ gk h6 b9 = 15) ∧ ¬ ((8 * ((((40 * v1) + v3) + v4) - 1)) + v6) < 0 ∧ ((8 * ((((40 * v1) + v3) + v4) - 1)) + v6 : Int32).toNatClampNeg < gz h6 b9) <|
      ck_as (gk h6 b3 = 13 ∧ ¬ (r5 + v6) < 0 ∧ (r5 + v6 : Int32).toNatClampNeg < gz h6 b3) <|
      ck_then (wI h6 b3 (r5 + v6 : Int32).toNatClampNeg (gI h6 b9 ((8 * ((((40 * v1) + v3) + v4) - 1)) + v6 : Int32).toNatClampNeg : Int32).toInt8.toInt32) fun h13 =>
      f_RM_writeList_L71 F k16 n a0 v1 v2 v3 v4 v5 (v6 + 1) h13
    else
      f_RM_writeList_L124 F k16 F a0 v1 v2 v3 v4 v5 0 h
set_option maxRecDepth 100000 in
set_option maxHeartbeats 4000000 in
theorem f_RM_writeList_L71_s (F : Nat) (k16 : Nat → Int32 → Int32 → Int32 → ck_H → Option (Unit × ck_H)) (hk16 : ∀ (a0 : Nat) (v1 : Int32) (v2 : Int32) (v3 : Int32) (h : ck_H) (r : Unit) (h' : ck_H), k16 a0 v1 v2 v3 h = some (r, h') → Go k_RM_writeList 16 [some (.ref a0), some (.int v1), some (.int v2), some (.int v3), none, none, none, none, none, none] [] h (none, h')) : ∀ (n : Nat) (a0 : Nat) (v1 : Int32) (v2 : Int32) (v3 : Int32) (v4 : Int32) (v5 : Int32) (v6 : Int32) (h : ck_H) (r : Unit) (h' : ck_H), f_RM_writeList_L71 F k16 n a0 v1 v2 v3 v4 v5 v6 h = some (r, h') → Go k_RM_writeList 71 [some (.ref a0), some (.int v1), some (.int v2), some (.int v3), some (.int v4), some (.int v5), some (.int v6), none, none, none] [] h (none, h') := by
  intro n
  induction n with
  | zero => intro a0 v1 v2 v3 v4 v5 v6 h r h' e; simp only [f_RM_writeList_L71] at e; cases e
  | succ n ih =>
    intro a0 v1 v2 v3 v4 v5 v6 h r h' e
    rw [f_RM_writeList_L71] at e
    refine go_iload rfl rfl ?_
    refine go_bipush (v := 8) rfl (by decide) ?_
    refine go_icmp_ge (t := 121) rfl rfl (fun hx_1 => ?_) (fun hx_1 => ?_)
    · rw [if_pos hx_1] at e
      refine go_aload_n rfl rfl ?_
      replace e := ck_as_e e
      obtain ⟨hk_2, e⟩ := e
      replace e := ck_some_e e
      obtain ⟨b3, hq_4, e⟩ := e
      refine go_get (v := .ref b3) rfl rfl hk_2 (by decide) (by show va_rf (gR h a0 0) = _; rw [hq_4]; rfl) ?_
      refine go_aload_n rfl rfl ?_
      refine go_iload_n rfl rfl ?_
      refine go_iload rfl rfl ?_
      replace e := ck_bd_e e
      obtain ⟨r5, h6, e7, e⟩ := e
      refine go_callV (As := [.int v2, .int v5]) (b0 := a0) (rest := [.ref b3]) rfl rfl ⟨hk_2, by decide⟩ rfl ⟨Nat.le_of_ble_eq_true rfl, Nat.le_of_ble_eq_true rfl, Nat.le_of_ble_eq_true rfl, Nat.le_of_ble_eq_true rfl⟩ (s_RM_keyAt e7) ?_
      show Go k_RM_writeList 89 [some (.ref a0), some (.int v1), some (.int v2), some (.int v3), some (.int v4), some (.int v5), some (.int v6), none, none, none] [.int r5, .ref b3] h6 _
      refine go_iload rfl rfl ?_
      refine go_iadd rfl ?_
      refine go_aload_n rfl rfl ?_
      replace e := ck_as_e e
      obtain ⟨hk_8, e⟩ := e
      replace e := ck_some_e e
      obtain ⟨b9, hq_10, e⟩ := e
      refine go_get (v := .ref b9) rfl rfl hk_8 (by decide) (by show va_rf (gR h6 a0 41) = _; rw [hq_10]; rfl) ?_
      refine go_bipush (v := 8) rfl (by decide) ?_
      refine go_bipush (v := 40) rfl (by decide) ?_
      refine go_iload_n rfl rfl ?_
      refine go_imul rfl ?_
      refine go_iload_n rfl rfl ?_
      refine go_iadd rfl ?_
      refine go_iload rfl rfl ?_
      refine go_iadd rfl ?_
      refine go_iconst (v := 1) rfl (by decide) ?_
      refine go_isub rfl ?_
      refine go_imul rfl ?_
      refine go_iload rfl rfl ?_
      refine go_iadd rfl ?_
      replace e := ck_as_e e
      obtain ⟨hc_11, e⟩ := e
      refine go_bald rfl hc_11 ?_
      replace e := ck_as_e e
      obtain ⟨hc_12, e⟩ := e
      refine go_bast rfl hc_12 ?_
      have hk_14 : gk (wI h6 b3 (r5 + v6 : Int32).toNatClampNeg (gI h6 b9 ((8 * ((((40 * v1) + v3) + v4) - 1)) + v6 : Int32).toNatClampNeg : Int32).toInt8.toInt32) a0 = 12 := ck_kI.trans hk_8
      generalize wI h6 b3 (r5 + v6 : Int32).toNatClampNeg (gI h6 b9 ((8 * ((((40 * v1) + v3) + v4) - 1)) + v6 : Int32).toNatClampNeg : Int32).toInt8.toInt32 = h13 at e hk_14 ⊢
      replace e := ck_then_e e
      refine go_iinc (v := 1) rfl rfl (by decide) rfl ?_
      show Go k_RM_writeList 118 [some (.ref a0), some (.int v1), some (.int v2), some (.int v3), some (.int v4), some (.int v5), some (.int (v6 + 1)), none, none, none] [] h13 _
      refine go_goto (t := 71) rfl rfl ?_
      refine go_forget (l := [some (.ref a0), some (.int v1), some (.int v2), some (.int v3), some (.int v4), some (.int v5), some (.int (v6 + 1)), none, none, none]) ⟨Or.inl rfl, Or.inl rfl, Or.inl rfl, Or.inl rfl, Or.inl rfl, Or.inl rfl, Or.inl rfl, Or.inl rfl, Or.inl rfl, Or.inl rfl, trivial⟩ ?_
      exact ih _ _ _ _ _ _ _ _ _ _ e
    · rw [if_neg hx_1] at e
      refine go_iconst (v := 0) rfl (by decide) ?_
      refine go_istore rfl rfl ?_
      show Go k_RM_writeList 124 [some (.ref a0), some (.int v1), some (.int v2), some (.int v3), some (.int v4), some (.int v5), some (.int 0), none, none, none] [] h _
      refine go_forget (l := [some (.ref a0), some (.int v1), some (.int v2), some (.int v3), some (.int v4), some (.int v5), some (.int 0), none, none, none]) ⟨Or.inl rfl, Or.inl rfl, Or.inl rfl, Or.inl rfl, Or.inl rfl, Or.inl rfl, Or.inl rfl, Or.inl rfl, Or.inl rfl, Or.inl rfl, trivial⟩ ?_
      exact f_RM_writeList_L124_s F k16 hk16 F _ _ _ _ _ _ _ _ _ _ e
def f_RM_writeList_L16 (F : Nat)  : Nat → Nat → Int32 → Int32 → Int32 → ck_H → Option (Unit × ck_H)
  | 0, _, _, _, _, _ => none
  | n + 1, a0, v1, v2, v3, h =>
    ck_as (gk h a0 = 12) <|
    ck_some (gR h a0 45) fun b2 =>
    ck_as ((gk h b2 = 14 ∨ gk h b2 = 21) ∧ ¬ v1 < 0 ∧ (v1 : Int32).toNatClampNeg < gz h b2) <|
    if v3 < (gI h b2 (v1 : Int32).toNatClampNeg) then
      ck_some (gR h a0 45) fun b6 =>
      ck_as ((gk h b6 = 14 ∨ gk h b6 = 21) ∧ ¬ v1 < 0 ∧ (v1 : Int32).toNatClampNeg < gz h b6) <|
      ck_bd (f_Ma_min F 4 ((gI h b6 (v1 : Int32).toNatClampNeg) - v3) h) fun r9 h10 =>
      ck_as (gk h10 a0 = 12) <|
      ck_some (gR h10 a0 1) fun b13 =>
      ck_as ((gk h10 b13 = 14 ∨ gk h10 b13 = 21) ∧ ¬ v2 < 0 ∧ (v2 : Int32).toNatClampNeg < gz h10 b13) <|
      ck_bd (f_RM_add F a0 v2 (v2 / 4) (v2 - v2 / 4 * 4) ((gI h10 b13 (v2 : Int32).toNatClampNeg) + 1) 8 (12 * r9) h10) fun r16 h17 =>
      f_RM_writeList_L71 F (f_RM_writeList_L16 F n) F a0 v1 v2 v3 r9 r16 0 h17
    else
      some ((), h)
set_option maxRecDepth 100000 in
set_option maxHeartbeats 4000000 in
theorem f_RM_writeList_L16_s (F : Nat)   : ∀ (n : Nat) (a0 : Nat) (v1 : Int32) (v2 : Int32) (v3 : Int32) (h : ck_H) (r : Unit) (h' : ck_H), f_RM_writeList_L16 F n a0 v1 v2 v3 h = some (r, h') → Go k_RM_writeList 16 [some (.ref a0), some (.int v1), some (.int v2), some (.int v3), none, none, none, none, none, none] [] h (none, h') := by
  intro n
  induction n with
  | zero => intro a0 v1 v2 v3 h r h' e; simp only [f_RM_writeList_L16] at e; cases e
  | succ n ih =>
    intro a0 v1 v2 v3 h r h' e
    rw [f_RM_writeList_L16] at e
    refine go_iload_n rfl rfl ?_
    refine go_aload_n rfl rfl ?_
    replace e := ck_as_e e
    obtain ⟨hk_1, e⟩ := e
    replace e := ck_some_e e
    obtain ⟨b2, hq_3, e⟩ := e
    refine go_get (v := .ref b2) rfl rfl hk_1 (by decide) (by show va_rf (gR h a0 45) = _; rw [hq_3]; rfl) ?_
    refine go_iload_n rfl rfl ?_
    replace e := ck_as_e e
    obtain ⟨hc_4, e⟩ := e
    refine go_iald rfl hc_4 ?_
    refine go_icmp_ge (t := 263) rfl rfl (fun hx_5 => ?_) (fun hx_5 => ?_)
    · rw [if_pos hx_5] at e
      refine go_iconst (v := 4) rfl (by decide) ?_
      refine go_aload_n rfl rfl ?_
      replace e := ck_some_e e
      obtain ⟨b6, hq_7, e⟩ := e
      refine go_get (v := .ref b6) rfl rfl hk_1 (by decide) (by show va_rf (gR h a0 45) = _; rw [hq_7]; rfl) ?_
      refine go_iload_n rfl rfl ?_
      replace e := ck_as_e e
      obtain ⟨hc_8, e⟩ := e
      refine go_iald rfl hc_8 ?_
      refine go_iload_n rfl rfl ?_
      refine go_isub rfl ?_
      replace e := ck_bd_e e
      obtain ⟨r9, h10, e11, e⟩ := e
      refine go_callS (As := [.int 4, .int ((gI h b6 (v1 : Int32).toNatClampNeg) - v3)]) (rest := []) rfl rfl rfl ⟨Nat.le_of_ble_eq_true rfl, Nat.le_of_ble_eq_true rfl, Nat.le_of_ble_eq_true rfl, Nat.le_of_ble_eq_true rfl⟩ (s_Ma_min e11) ?_
      show Go k_RM_writeList 38 [some (.ref a0), some (.int v1), some (.int v2), some (.int v3), none, none, none, none, none, none] [.int r9] h10 _
      refine go_istore rfl rfl ?_
      show Go k_RM_writeList 40 [some (.ref a0), some (.int v1), some (.int v2), some (.int v3), some (.int r9), none, none, none, none, none] [] h10 _
      refine go_aload_n rfl rfl ?_
      refine go_iload_n rfl rfl ?_
      refine go_iload_n rfl rfl ?_
      refine go_iconst (v := 4) rfl (by decide) ?_
      refine go_idiv rfl (by decide) ?_
      refine go_iload_n rfl rfl ?_
      refine go_iconst (v := 4) rfl (by decide) ?_
      refine go_irem rfl (by decide) ?_
      refine go_aload_n rfl rfl ?_
      replace e := ck_as_e e
      obtain ⟨hk_12, e⟩ := e
      replace e := ck_some_e e
      obtain ⟨b13, hq_14, e⟩ := e
      refine go_get (v := .ref b13) rfl rfl hk_12 (by decide) (by show va_rf (gR h10 a0 1) = _; rw [hq_14]; rfl) ?_
      refine go_iload_n rfl rfl ?_
      replace e := ck_as_e e
      obtain ⟨hc_15, e⟩ := e
      refine go_iald rfl hc_15 ?_
      refine go_iconst (v := 1) rfl (by decide) ?_
      refine go_iadd rfl ?_
      refine go_bipush (v := 8) rfl (by decide) ?_
      refine go_bipush (v := 12) rfl (by decide) ?_
      refine go_iload rfl rfl ?_
      refine go_imul rfl ?_
      replace e := ck_bd_e e
      obtain ⟨r16, h17, e18, e⟩ := e
      refine go_callV (As := [.int v2, .int (v2 / 4), .int (v2 - v2 / 4 * 4), .int ((gI h10 b13 (v2 : Int32).toNatClampNeg) + 1), .int 8, .int (12 * r9)]) (b0 := a0) (rest := []) rfl rfl ⟨hk_12, by decide⟩ rfl ⟨Nat.le_of_ble_eq_true rfl, Nat.le_of_ble_eq_true rfl, Nat.le_of_ble_eq_true rfl, Nat.le_of_ble_eq_true rfl⟩ (s_RM_add e18) ?_
      show Go k_RM_writeList 66 [some (.ref a0), some (.int v1), some (.int v2), some (.int v3), some (.int r9), none, none, none, none, none] [.int r16] h17 _
      refine go_istore rfl rfl ?_
      show Go k_RM_writeList 68 [some (.ref a0), some (.int v1), some (.int v2), some (.int v3), some (.int r9), some (.int r16), none, none, none, none] [] h17 _
      refine go_iconst (v := 0) rfl (by decide) ?_
      refine go_istore rfl rfl ?_
      show Go k_RM_writeList 71 [some (.ref a0), some (.int v1), some (.int v2), some (.int v3), some (.int r9), some (.int r16), some (.int 0), none, none, none] [] h17 _
      refine go_forget (l := [some (.ref a0), some (.int v1), some (.int v2), some (.int v3), some (.int r9), some (.int r16), some (.int 0), none, none, none]) ⟨Or.inl rfl, Or.inl rfl, Or.inl rfl, Or.inl rfl, Or.inl rfl, Or.inl rfl, Or.inl rfl, Or.inl rfl, Or.inl rfl, Or.inl rfl, trivial⟩ ?_
      exact f_RM_writeList_L71_s F (f_RM_writeList_L16 F n) ih F _ _ _ _ _ _ _ _ _ _ e
    · rw [if_neg hx_5] at e
      cases e
      exact go_ret rfl rfl
def f_RM_writeList (F : Nat) (a0 : Nat) (v1 : Int32) (h : ck_H) : Option (Unit × ck_H) :=
  ck_as (gk h a0 = 12) <|
  ck_bd (f_RM_trackOf F a0 v1 0 h) fun r2 h3 =>
  ck_as (gk h3 a0 = 12) <|
  ck_some (gR h3 a0 1) fun b6 =>
  ck_as (gk h3 b6 = 14 ∧ ¬ r2 < 0 ∧ (r2 : Int32).toNatClampNeg < gz h3 b6) <|
  ck_then (wI h3 b6 (r2 : Int32).toNatClampNeg 0) fun h9 =>
  f_RM_writeList_L16 F F a0 v1 r2 0 h9
set_option maxRecDepth 100000 in
set_option maxHeartbeats 4000000 in
theorem s_RM_writeList {F : Nat} {a0 : Nat} {v1 : Int32} {h h' : ck_H} {r : Unit} (e : f_RM_writeList F a0 v1 h = some (r, h')) : Go k_RM_writeList 0 (ck_in [.ref a0, .int v1] 10) [] h (none, h') := by
  unfold f_RM_writeList at e
  show Go k_RM_writeList 0 [some (.ref a0), some (.int v1), none, none, none, none, none, none, none, none] [] h _
  refine go_aload_n rfl rfl ?_
  refine go_iload_n rfl rfl ?_
  refine go_iconst (v := 0) rfl (by decide) ?_
  replace e := ck_as_e e
  obtain ⟨hk_1, e⟩ := e
  replace e := ck_bd_e e
  obtain ⟨r2, h3, e4, e⟩ := e
  refine go_callV (As := [.int v1, .int 0]) (b0 := a0) (rest := []) rfl rfl ⟨hk_1, by decide⟩ rfl ⟨Nat.le_of_ble_eq_true rfl, Nat.le_of_ble_eq_true rfl, Nat.le_of_ble_eq_true rfl, Nat.le_of_ble_eq_true rfl⟩ (s_RM_trackOf e4) ?_
  show Go k_RM_writeList 6 [some (.ref a0), some (.int v1), none, none, none, none, none, none, none, none] [.int r2] h3 _
  refine go_istore_n rfl rfl ?_
  show Go k_RM_writeList 7 [some (.ref a0), some (.int v1), some (.int r2), none, none, none, none, none, none, none] [] h3 _
  refine go_aload_n rfl rfl ?_
  replace e := ck_as_e e
  obtain ⟨hk_5, e⟩ := e
  replace e := ck_some_e e
  obtain ⟨b6, hq_7, e⟩ := e
  refine go_get (v := .ref b6) rfl rfl hk_5 (by decide) (by show va_rf (gR h3 a0 1) = _; rw [hq_7]; rfl) ?_
  refine go_iload_n rfl rfl ?_
  refine go_iconst (v := 0) rfl (by decide) ?_
  replace e := ck_as_e e
  obtain ⟨hc_8, e⟩ := e
  refine go_iast rfl hc_8 ?_
  have hk_10 : gk (wI h3 b6 (r2 : Int32).toNatClampNeg 0) a0 = 12 := ck_kI.trans hk_5
  generalize wI h3 b6 (r2 : Int32).toNatClampNeg 0 = h9 at e hk_10 ⊢
  replace e := ck_then_e e
  refine go_iconst (v := 0) rfl (by decide) ?_
  refine go_istore_n rfl rfl ?_
  show Go k_RM_writeList 16 [some (.ref a0), some (.int v1), some (.int r2), some (.int 0), none, none, none, none, none, none] [] h9 _
  refine go_forget (l := [some (.ref a0), some (.int v1), some (.int r2), some (.int 0), none, none, none, none, none, none]) ⟨Or.inl rfl, Or.inl rfl, Or.inl rfl, Or.inl rfl, Or.inl rfl, Or.inl rfl, Or.inl rfl, Or.inl rfl, Or.inl rfl, Or.inl rfl, trivial⟩ ?_
  exact f_RM_writeList_L16_s F F _ _ _ _ _ _ _ e
def f_RM_stow_J246 (F : Nat)  (a0 : Nat) (v1 : Int32) (v2 : Int32) (v4 : Int32) (s0 : Int32) (s1 : Int32) (s2 : Nat) (h : ck_H) : Option (Int32 × ck_H) :=
  ck_as (gk h s2 = 14 ∧ ¬ s1 < 0 ∧ (s1 : Int32).toNatClampNeg < gz h s2) <|
  ck_then (wI h s2 (s1 : Int32).toNatClampNeg s0) fun h2 =>
  ck_as (gk h2 a0 = 12) <|
  ck_some (gR h2 a0 44) fun b4 =>
  ck_some (gR h2 a0 56) fun b6 =>
  ck_as ((gk h2 b6 = 14 ∨ gk h2 b6 = 21) ∧ ¬ v1 < 0 ∧ (v1 : Int32).toNatClampNeg < gz h2 b6) <|
  ck_as (gk h2 b4 = 14 ∧ ¬ v4 < 0 ∧ (v4 : Int32).toNatClampNeg < gz h2 b4) <|
  ck_then (wI h2 b4 (v4 : Int32).toNatClampNeg (gI h2 b6 (v1 : Int32).toNatClampNeg)) fun h10 =>
  ck_some (gR h10 a0 56) fun b12 =>
  ck_as (gk h10 b12 = 14 ∧ ¬ v1 < 0 ∧ (v1 : Int32).toNatClampNeg < gz h10 b12) <|
  ck_then (wI h10 b12 (v1 : Int32).toNatClampNeg 0) fun h15 =>
  ck_bd (f_RM_writeList F a0 v2 h15) fun _ h18 =>
  ck_as (gk h18 a0 = 12) <|
  ck_some (gR h18 a0 45) fun b21 =>
  ck_as ((gk h18 b21 = 14 ∨ gk h18 b21 = 21) ∧ ¬ v2 < 0 ∧ (v2 : Int32).toNatClampNeg < gz h18 b21) <|
  some (gI h18 b21 (v2 : Int32).toNatClampNeg, h18)
set_option maxRecDepth 100000 in
set_option maxHeartbeats 4000000 in
theorem f_RM_stow_J246_s (F : Nat)   (a0 : Nat) (v1 : Int32) (v2 : Int32) (v4 : Int32) (s0 : Int32) (s1 : Int32) (s2 : Nat) (h : ck_H) (r : Int32) (h' : ck_H) (e : f_RM_stow_J246 F  a0 v1 v2 v4 s0 s1 s2 h = some (r, h')) : Go k_RM_stow 246 [some (.ref a0), some (.int v1), some (.int v2), none, some (.int v4), none] [.int s0, .int s1, .ref s2] h (some (.int r), h') := by
  unfold f_RM_stow_J246 at e
  replace e := ck_as_e e
  obtain ⟨hc_1, e⟩ := e
  refine go_iast rfl hc_1 ?_
  generalize wI h s2 (s1 : Int32).toNatClampNeg s0 = h2 at e  ⊢
  replace e := ck_then_e e
  refine go_aload_n rfl rfl ?_
  replace e := ck_as_e e
  obtain ⟨hk_3, e⟩ := e
  replace e := ck_some_e e
  obtain ⟨b4, hq_5, e⟩ := e
  refine go_get (v := .ref b4) rfl rfl hk_3 (by decide) (by show va_rf (gR h2 a0 44) = _; rw [hq_5]; rfl) ?_
  refine go_iload rfl rfl ?_
  refine go_aload_n rfl rfl ?_
  replace e := ck_some_e e
  obtain ⟨b6, hq_7, e⟩ := e
  refine go_get (v := .ref b6) rfl rfl hk_3 (by decide) (by show va_rf (gR h2 a0 56) = _; rw [hq_7]; rfl) ?_
  refine go_iload_n rfl rfl ?_
  replace e := ck_as_e e
  obtain ⟨hc_8, e⟩ := e
  refine go_iald rfl hc_8 ?_
  replace e := ck_as_e e
  obtain ⟨hc_9, e⟩ := e
  refine go_iast rfl hc_9 ?_
  have hk_11 : gk (wI h2 b4 (v4 : Int32).toNatClampNeg (gI h2 b6 (v1 : Int32).toNatClampNeg)) a0 = 12 := ck_kI.trans hk_3
  generalize wI h2 b4 (v4 : Int32).toNatClampNeg (gI h2 b6 (v1 : Int32).toNatClampNeg) = h10 at e hk_11 ⊢
  replace e := ck_then_e e
  refine go_aload_n rfl rfl ?_
  replace e := ck_some_e e
  obtain ⟨b12, hq_13, e⟩ := e
  refine go_get (v := .ref b12) rfl rfl hk_11 (by decide) (by show va_rf (gR h10 a0 56) = _; rw [hq_13]; rfl) ?_
  refine go_iload_n rfl rfl ?_
  refine go_iconst (v := 0) rfl (by decide) ?_
  replace e := ck_as_e e
  obtain ⟨hc_14, e⟩ := e
  refine go_iast rfl hc_14 ?_
  have hk_16 : gk (wI h10 b12 (v1 : Int32).toNatClampNeg 0) a0 = 12 := ck_kI.trans hk_11
  generalize wI h10 b12 (v1 : Int32).toNatClampNeg 0 = h15 at e hk_16 ⊢
  replace e := ck_then_e e
  refine go_aload_n rfl rfl ?_
  refine go_iload_n rfl rfl ?_
  replace e := ck_bd_e e
  obtain ⟨r17, h18, e19, e⟩ := e
  refine go_callV (As := [.int v2]) (b0 := a0) (rest := []) rfl rfl ⟨hk_16, by decide⟩ rfl ⟨Nat.le_of_ble_eq_true rfl, Nat.le_of_ble_eq_true rfl, Nat.le_of_ble_eq_true rfl, Nat.le_of_ble_eq_true rfl⟩ (s_RM_writeList e19) ?_
  show Go k_RM_stow 272 [some (.ref a0), some (.int v1), some (.int v2), none, some (.int v4), none] [] h18 _
  refine go_aload_n rfl rfl ?_
  replace e := ck_as_e e
  obtain ⟨hk_20, e⟩ := e
  replace e := ck_some_e e
  obtain ⟨b21, hq_22, e⟩ := e
  refine go_get (v := .ref b21) rfl rfl hk_20 (by decide) (by show va_rf (gR h18 a0 45) = _; rw [hq_22]; rfl) ?_
  refine go_iload_n rfl rfl ?_
  replace e := ck_as_e e
  obtain ⟨hc_23, e⟩ := e
  refine go_iald rfl hc_23 ?_
  cases e
  exact go_ret rfl rfl
def f_RM_stow_J220 (F : Nat)  (a0 : Nat) (v1 : Int32) (v2 : Int32) (v4 : Int32) (s0 : Int32) (s1 : Int32) (s2 : Nat) (h : ck_H) : Option (Int32 × ck_H) :=
  ck_as (gk h s2 = 14 ∧ ¬ s1 < 0 ∧ (s1 : Int32).toNatClampNeg < gz h s2) <|
  ck_then (wI h s2 (s1 : Int32).toNatClampNeg s0) fun h2 =>
  ck_as (gk h2 a0 = 12) <|
  ck_some (gR h2 a0 43) fun b4 =>
  ck_some (gR h2 a0 56) fun b6 =>
  ck_as ((gk h2 b6 = 14 ∨ gk h2 b6 = 21) ∧ ¬ v1 < 0 ∧ (v1 : Int32).toNatClampNeg < gz h2 b6) <|
  if (gI h2 b6 (v1 : Int32).toNatClampNeg) = (0 : Int32) then
    f_RM_stow_J246 F a0 v1 v2 v4 0 v4 b4 h2
  else
    ck_some (gR h2 a0 58) fun b24 =>
    ck_as ((gk h2 b24 = 14 ∨ gk h2 b24 = 21) ∧ ¬ v1 < 0 ∧ (v1 : Int32).toNatClampNeg < gz h2 b24) <|
    f_RM_stow_J246 F a0 v1 v2 v4 (gI h2 b24 (v1 : Int32).toNatClampNeg) v4 b4 h2
set_option maxRecDepth 100000 in
set_option maxHeartbeats 4000000 in
theorem f_RM_stow_J220_s (F : Nat)   (a0 : Nat) (v1 : Int32) (v2 : Int32) (v4 : Int32) (s0 : Int32) (s1 : Int32) (s2 : Nat) (h : ck_H) (r : Int32) (h' : ck_H) (e : f_RM_stow_J220 F  a0 v1 v2 v4 s0 s1 s2 h = some (r, h')) : Go k_RM_stow 220 [some (.ref a0), some (.int v1), some (.int v2), none, some (.int v4), none] [.int s0, .int s1, .ref s2] h (some (.int r), h') := by
  unfold f_RM_stow_J220 at e
  replace e := ck_as_e e
  obtain ⟨hc_1, e⟩ := e
  refine go_iast rfl hc_1 ?_
  generalize wI h s2 (s1 : Int32).toNatClampNeg s0 = h2 at e  ⊢
  replace e := ck_then_e e
  refine go_aload_n rfl rfl ?_
  replace e := ck_as_e e
  obtain ⟨hk_3, e⟩ := e
  replace e := ck_some_e e
  obtain ⟨b4, hq_5, e⟩ := e
  refine go_get (v := .ref b4) rfl rfl hk_3 (by decide) (by show va_rf (gR h2 a0 43) = _; rw [hq_5]; rfl) ?_
  refine go_iload rfl rfl ?_
  refine go_aload_n rfl rfl ?_
  replace e := ck_some_e e
  obtain ⟨b6, hq_7, e⟩ := e
  refine go_get (v := .ref b6) rfl rfl hk_3 (by decide) (by show va_rf (gR h2 a0 56) = _; rw [hq_7]; rfl) ?_
  refine go_iload_n rfl rfl ?_
  replace e := ck_as_e e
  obtain ⟨hc_8, e⟩ := e
  refine go_iald rfl hc_8 ?_
  refine go_if_ne (t := 240) rfl rfl (fun hx_9 => ?_) (fun hx_9 => ?_)
  · rw [if_pos hx_9] at e
    refine go_iconst (v := 0) rfl (by decide) ?_
    refine go_goto (t := 246) rfl rfl ?_
    refine go_forget (l := [some (.ref a0), some (.int v1), some (.int v2), none, some (.int v4), none]) ⟨Or.inl rfl, Or.inl rfl, Or.inl rfl, Or.inl rfl, Or.inl rfl, Or.inl rfl, trivial⟩ ?_
    exact f_RM_stow_J246_s F a0 v1 v2 v4 0 v4 b4 _ _ _ e
  · rw [if_neg hx_9] at e
    refine go_aload_n rfl rfl ?_
    replace e := ck_some_e e
    obtain ⟨b24, hq_25, e⟩ := e
    refine go_get (v := .ref b24) rfl rfl hk_3 (by decide) (by show va_rf (gR h2 a0 58) = _; rw [hq_25]; rfl) ?_
    refine go_iload_n rfl rfl ?_
    replace e := ck_as_e e
    obtain ⟨hc_26, e⟩ := e
    refine go_iald rfl hc_26 ?_
    refine go_forget (l := [some (.ref a0), some (.int v1), some (.int v2), none, some (.int v4), none]) ⟨Or.inl rfl, Or.inl rfl, Or.inl rfl, Or.inl rfl, Or.inl rfl, Or.inl rfl, trivial⟩ ?_
    exact f_RM_stow_J246_s F a0 v1 v2 v4 (gI h2 b24 (v1 : Int32).toNatClampNeg) v4 b4 _ _ _ e
def f_RM_stow_L162 (F : Nat)  : Nat → Nat → Int32 → Int32 → Int32 → Int32 → ck_H → Option (Int32 × ck_H)
  | 0, _, _, _, _, _, _ => none
  | n + 1, a0, v1, v2, v4, v5, h =>
    if v5 < (8 : Int32) then
      ck_as (gk h a0 = 12) <|
      ck_some (gR h a0 41) fun b3 =>
      ck_some (gR h a0 34) fun b5 =>
      ck_as ((gk h b5 = 13 ∨ gk h b5 = 15) ∧ ¬ v5 < 0 ∧ (v5 : Int32).toNatClampNeg < gz h b5) <|
      ck_as (gk h b3 = 13 ∧ ¬ ((8 * v4) + v5) < 0 ∧ ((8 * v4) + v5 : Int32).toNatClampNeg < gz h b3) <|
      ck_then (wI h b3 ((8 * v4) + v5 : Int32).toNatClampNeg (gI h b5 (v5 : Int32).toNatClampNeg : Int32).toInt8.toInt32) fun h9 =>
      f_RM_stow_L162 F n a0 v1 v2 v4 (v5 + 1) h9
    else
      ck_as (gk h a0 = 12) <|
      ck_some (gR h a0 42) fun b12 =>
      ck_some (gR h a0 56) fun b14 =>
      ck_as ((gk h b14 = 14 ∨ gk h b14 = 21) ∧ ¬ v1 < 0 ∧ (v1 : Int32).toNatClampNeg < gz h b14) <|
      if (gI h b14 (v1 : Int32).toNatClampNeg) = (0 : Int32) then
        f_RM_stow_J220 F a0 v1 v2 v4 0 v4 b12 h
      else
        ck_some (gR h a0 57) fun b27 =>
        ck_as ((gk h b27 = 14 ∨ gk h b27 = 21) ∧ ¬ v1 < 0 ∧ (v1 : Int32).toNatClampNeg < gz h b27) <|
        f_RM_stow_J220 F a0 v1 v2 v4 (gI h b27 (v1 : Int32).toNatClampNeg) v4 b12 h
set_option maxRecDepth 100000 in
set_option maxHeartbeats 4000000 in
theorem f_RM_stow_L162_s (F : Nat)   : ∀ (n : Nat) (a0 : Nat) (v1 : Int32) (v2 : Int32) (v4 : Int32) (v5 : Int32) (h : ck_H) (r : Int32) (h' : ck_H), f_RM_stow_L162 F n a0 v1 v2 v4 v5 h = some (r, h') → Go k_RM_stow 162 [some (.ref a0), some (.int v1), some (.int v2), none, some (.int v4), some (.int v5)] [] h (some (.int r), h') := by
  intro n
  induction n with
  | zero => intro a0 v1 v2 v4 v5 h r h' e; simp only [f_RM_stow_L162] at e; cases e
  | succ n ih =>
    intro a0 v1 v2 v4 v5 h r h' e
    rw [f_RM_stow_L162] at e
    refine go_iload rfl rfl ?_
    refine go_bipush (v := 8) rfl (by decide) ?_
    refine go_icmp_ge (t := 195) rfl rfl (fun hx_1 => ?_) (fun hx_1 => ?_)
    · rw [if_pos hx_1] at e
      refine go_aload_n rfl rfl ?_
      replace e := ck_as_e e
      obtain ⟨hk_2, e⟩ := e
      replace e := ck_some_e e
      obtain ⟨b3, hq_4, e⟩ := e
      refine go_get (v := .ref b3) rfl rfl hk_2 (by decide) (by show va_rf (gR h a0 41) = _; rw [hq_4]; rfl) ?_
      refine go_bipush (v := 8) rfl (by decide) ?_
      refine go_iload rfl rfl ?_
      refine go_imul rfl ?_
      refine go_iload rfl rfl ?_
      refine go_iadd rfl ?_
      refine go_aload_n rfl rfl ?_
      replace e := ck_some_e e
      obtain ⟨b5, hq_6, e⟩ := e
      refine go_get (v := .ref b5) rfl rfl hk_2 (by decide) (by show va_rf (gR h a0 34) = _; rw [hq_6]; rfl) ?_
      refine go_iload rfl rfl ?_
      replace e := ck_as_e e
      obtain ⟨hc_7, e⟩ := e
      refine go_bald rfl hc_7 ?_
      replace e := ck_as_e e
      obtain ⟨hc_8, e⟩ := e
      refine go_bast rfl hc_8 ?_
      have hk_10 : gk (wI h b3 ((8 * v4) + v5 : Int32).toNatClampNeg (gI h b5 (v5 : Int32).toNatClampNeg : Int32).toInt8.toInt32) a0 = 12 := ck_kI.trans hk_2
      generalize wI h b3 ((8 * v4) + v5 : Int32).toNatClampNeg (gI h b5 (v5 : Int32).toNatClampNeg : Int32).toInt8.toInt32 = h9 at e hk_10 ⊢
      replace e := ck_then_e e
      refine go_iinc (v := 1) rfl rfl (by decide) rfl ?_
      show Go k_RM_stow 192 [some (.ref a0), some (.int v1), some (.int v2), none, some (.int v4), some (.int (v5 + 1))] [] h9 _
      refine go_goto (t := 162) rfl rfl ?_
      refine go_forget (l := [some (.ref a0), some (.int v1), some (.int v2), none, some (.int v4), some (.int (v5 + 1))]) ⟨Or.inl rfl, Or.inl rfl, Or.inl rfl, Or.inl rfl, Or.inl rfl, Or.inl rfl, trivial⟩ ?_
      exact ih _ _ _ _ _ _ _ _ e
    · rw [if_neg hx_1] at e
      refine go_aload_n rfl rfl ?_
      replace e := ck_as_e e
      obtain ⟨hk_11, e⟩ := e
      replace e := ck_some_e e
      obtain ⟨b12, hq_13, e⟩ := e
      refine go_get (v := .ref b12) rfl rfl hk_11 (by decide) (by show va_rf (gR h a0 42) = _; rw [hq_13]; rfl) ?_
      refine go_iload rfl rfl ?_
      refine go_aload_n rfl rfl ?_
      replace e := ck_some_e e
      obtain ⟨b14, hq_15, e⟩ := e
      refine go_get (v := .ref b14) rfl rfl hk_11 (by decide) (by show va_rf (gR h a0 56) = _; rw [hq_15]; rfl) ?_
      refine go_iload_n rfl rfl ?_
      replace e := ck_as_e e
      obtain ⟨hc_16, e⟩ := e
      refine go_iald rfl hc_16 ?_
      refine go_if_ne (t := 214) rfl rfl (fun hx_17 => ?_) (fun hx_17 => ?_)
      · rw [if_pos hx_17] at e
        refine go_iconst (v := 0) rfl (by decide) ?_
        refine go_goto (t := 220) rfl rfl ?_
        refine go_forget (l := [some (.ref a0), some (.int v1), some (.int v2), none, some (.int v4), none]) ⟨Or.inl rfl, Or.inl rfl, Or.inl rfl, Or.inl rfl, Or.inl rfl, Or.inr ⟨rfl, fun _ q => by cases q; rfl⟩, trivial⟩ ?_
        exact f_RM_stow_J220_s F a0 v1 v2 v4 0 v4 b12 _ _ _ e
      · rw [if_neg hx_17] at e
        refine go_aload_n rfl rfl ?_
        replace e := ck_some_e e
        obtain ⟨b27, hq_28, e⟩ := e
        refine go_get (v := .ref b27) rfl rfl hk_11 (by decide) (by show va_rf (gR h a0 57) = _; rw [hq_28]; rfl) ?_
        refine go_iload_n rfl rfl ?_
        replace e := ck_as_e e
        obtain ⟨hc_29, e⟩ := e
        refine go_iald rfl hc_29 ?_
        refine go_forget (l := [some (.ref a0), some (.int v1), some (.int v2), none, some (.int v4), none]) ⟨Or.inl rfl, Or.inl rfl, Or.inl rfl, Or.inl rfl, Or.inl rfl, Or.inr ⟨rfl, fun _ q => by cases q; rfl⟩, trivial⟩ ?_
        exact f_RM_stow_J220_s F a0 v1 v2 v4 (gI h b27 (v1 : Int32).toNatClampNeg) v4 b12 _ _ _ e
def f_RM_stow_J141 (F : Nat)  (a0 : Nat) (v1 : Int32) (v2 : Int32) (v3 : Int32) (h : ck_H) : Option (Int32 × ck_H) :=
  ck_as (gk h a0 = 12) <|
  ck_some (gR h a0 45) fun b2 =>
  ck_as ((gk h b2 = 14 ∨ gk h b2 = 21) ∧ ¬ v2 < 0 ∧ (v2 : Int32).toNatClampNeg < gz h b2) <|
  ck_as (gk h b2 = 14 ∧ ¬ v2 < 0 ∧ (v2 : Int32).toNatClampNeg < gz h b2) <|
  ck_then (wI h b2 (v2 : Int32).toNatClampNeg ((gI h b2 (v2 : Int32).toNatClampNeg) + 1)) fun h6 =>
  ck_then ((40 * v2) + v3) fun x8 =>
  f_RM_stow_L162 F F a0 v1 v2 x8 0 h6
set_option maxRecDepth 100000 in
set_option maxHeartbeats 4000000 in
theorem f_RM_stow_J141_s (F : Nat)   (a0 : Nat) (v1 : Int32) (v2 : Int32) (v3 : Int32) (h : ck_H) (r : Int32) (h' : ck_H) (e : f_RM_stow_J141 F  a0 v1 v2 v3 h = some (r, h')) : Go k_RM_stow 141 [some (.ref a0), some (.int v1), some (.int v2), some (.int v3), none, none] [] h (some (.int r), h') := by
  unfold f_RM_stow_J141 at e
  refine go_aload_n rfl rfl ?_
  replace e := ck_as_e e
  obtain ⟨hk_1, e⟩ := e
  replace e := ck_some_e e
  obtain ⟨b2, hq_3, e⟩ := e
  refine go_get (v := .ref b2) rfl rfl hk_1 (by decide) (by show va_rf (gR h a0 45) = _; rw [hq_3]; rfl) ?_
  refine go_iload_n rfl rfl ?_
  refine go_dup2 rfl rfl rfl ?_
  replace e := ck_as_e e
  obtain ⟨hc_4, e⟩ := e
  refine go_iald rfl hc_4 ?_
  refine go_iconst (v := 1) rfl (by decide) ?_
  refine go_iadd rfl ?_
  replace e := ck_as_e e
  obtain ⟨hc_5, e⟩ := e
  refine go_iast rfl hc_5 ?_
  have hk_7 : gk (wI h b2 (v2 : Int32).toNatClampNeg ((gI h b2 (v2 : Int32).toNatClampNeg) + 1)) a0 = 12 := ck_kI.trans hk_1
  generalize wI h b2 (v2 : Int32).toNatClampNeg ((gI h b2 (v2 : Int32).toNatClampNeg) + 1) = h6 at e hk_7 ⊢
  replace e := ck_then_e e
  refine go_bipush (v := 40) rfl (by decide) ?_
  refine go_iload_n rfl rfl ?_
  refine go_imul rfl ?_
  refine go_iload_n rfl rfl ?_
  refine go_iadd rfl ?_
  generalize (40 * v2) + v3 = x8 at e ⊢
  replace e := ck_then_e e
  refine go_istore rfl rfl ?_
  show Go k_RM_stow 159 [some (.ref a0), some (.int v1), some (.int v2), some (.int v3), some (.int x8), none] [] h6 _
  refine go_iconst (v := 0) rfl (by decide) ?_
  refine go_istore rfl rfl ?_
  show Go k_RM_stow 162 [some (.ref a0), some (.int v1), some (.int v2), some (.int v3), some (.int x8), some (.int 0)] [] h6 _
  refine go_forget (l := [some (.ref a0), some (.int v1), some (.int v2), none, some (.int x8), some (.int 0)]) ⟨Or.inl rfl, Or.inl rfl, Or.inl rfl, Or.inr ⟨rfl, fun _ q => by cases q; rfl⟩, Or.inl rfl, Or.inl rfl, trivial⟩ ?_
  exact f_RM_stow_L162_s F F _ _ _ _ _ _ _ _ e
def f_RM_stow_L98 (F : Nat)  : Nat → Nat → Int32 → Int32 → Int32 → ck_H → Option (Int32 × ck_H)
  | 0, _, _, _, _, _ => none
  | n + 1, a0, v1, v2, v3, h =>
    if (0 : Int32) < v3 then
      ck_as (gk h a0 = 12) <|
      ck_bd (f_RM_order F a0 (((40 * v2) + v3) - 1) h) fun r3 h4 =>
      if r3 < (0 : Int32) then
        ck_as (gk h4 a0 = 12) <|
        ck_bd (f_RM_copyMember F a0 ((40 * v2) + v3) (((40 * v2) + v3) - 1) h4) fun _ h9 =>
        f_RM_stow_L98 F n a0 v1 v2 (v3 + (-1)) h9
      else
        f_RM_stow_J141 F a0 v1 v2 v3 h4
    else
      f_RM_stow_J141 F a0 v1 v2 v3 h
set_option maxRecDepth 100000 in
set_option maxHeartbeats 4000000 in
theorem f_RM_stow_L98_s (F : Nat)   : ∀ (n : Nat) (a0 : Nat) (v1 : Int32) (v2 : Int32) (v3 : Int32) (h : ck_H) (r : Int32) (h' : ck_H), f_RM_stow_L98 F n a0 v1 v2 v3 h = some (r, h') → Go k_RM_stow 98 [some (.ref a0), some (.int v1), some (.int v2), some (.int v3), none, none] [] h (some (.int r), h') := by
  intro n
  induction n with
  | zero => intro a0 v1 v2 v3 h r h' e; simp only [f_RM_stow_L98] at e; cases e
  | succ n ih =>
    intro a0 v1 v2 v3 h r h' e
    rw [f_RM_stow_L98] at e
    refine go_iload_n rfl rfl ?_
    refine go_if_le (t := 141) rfl rfl (fun hx_1 => ?_) (fun hx_1 => ?_)
    · rw [if_pos hx_1] at e
      refine go_aload_n rfl rfl ?_
      refine go_bipush (v := 40) rfl (by decide) ?_
      refine go_iload_n rfl rfl ?_
      refine go_imul rfl ?_
      refine go_iload_n rfl rfl ?_
      refine go_iadd rfl ?_
      refine go_iconst (v := 1) rfl (by decide) ?_
      refine go_isub rfl ?_
      replace e := ck_as_e e
      obtain ⟨hk_2, e⟩ := e
      replace e := ck_bd_e e
      obtain ⟨r3, h4, e5, e⟩ := e
      refine go_callV (As := [.int (((40 * v2) + v3) - 1)]) (b0 := a0) (rest := []) rfl rfl ⟨hk_2, by decide⟩ rfl ⟨Nat.le_of_ble_eq_true rfl, Nat.le_of_ble_eq_true rfl, Nat.le_of_ble_eq_true rfl, Nat.le_of_ble_eq_true rfl⟩ (s_RM_order e5) ?_
      show Go k_RM_stow 114 [some (.ref a0), some (.int v1), some (.int v2), some (.int v3), none, none] [.int r3] h4 _
      refine go_if_ge (t := 141) rfl rfl (fun hx_6 => ?_) (fun hx_6 => ?_)
      · rw [if_pos hx_6] at e
        refine go_aload_n rfl rfl ?_
        refine go_bipush (v := 40) rfl (by decide) ?_
        refine go_iload_n rfl rfl ?_
        refine go_imul rfl ?_
        refine go_iload_n rfl rfl ?_
        refine go_iadd rfl ?_
        refine go_bipush (v := 40) rfl (by decide) ?_
        refine go_iload_n rfl rfl ?_
        refine go_imul rfl ?_
        refine go_iload_n rfl rfl ?_
        refine go_iadd rfl ?_
        refine go_iconst (v := 1) rfl (by decide) ?_
        refine go_isub rfl ?_
        replace e := ck_as_e e
        obtain ⟨hk_7, e⟩ := e
        replace e := ck_bd_e e
        obtain ⟨r8, h9, e10, e⟩ := e
        refine go_callV (As := [.int ((40 * v2) + v3), .int (((40 * v2) + v3) - 1)]) (b0 := a0) (rest := []) rfl rfl ⟨hk_7, by decide⟩ rfl ⟨Nat.le_of_ble_eq_true rfl, Nat.le_of_ble_eq_true rfl, Nat.le_of_ble_eq_true rfl, Nat.le_of_ble_eq_true rfl⟩ (s_RM_copyMember e10) ?_
        show Go k_RM_stow 135 [some (.ref a0), some (.int v1), some (.int v2), some (.int v3), none, none] [] h9 _
        refine go_iinc (v := (-1)) rfl rfl (by decide) rfl ?_
        show Go k_RM_stow 138 [some (.ref a0), some (.int v1), some (.int v2), some (.int (v3 + (-1))), none, none] [] h9 _
        refine go_goto (t := 98) rfl rfl ?_
        refine go_forget (l := [some (.ref a0), some (.int v1), some (.int v2), some (.int (v3 + (-1))), none, none]) ⟨Or.inl rfl, Or.inl rfl, Or.inl rfl, Or.inl rfl, Or.inl rfl, Or.inl rfl, trivial⟩ ?_
        exact ih _ _ _ _ _ _ _ e
      · rw [if_neg hx_6] at e
        refine go_forget (l := [some (.ref a0), some (.int v1), some (.int v2), some (.int v3), none, none]) ⟨Or.inl rfl, Or.inl rfl, Or.inl rfl, Or.inl rfl, Or.inl rfl, Or.inl rfl, trivial⟩ ?_
        exact f_RM_stow_J141_s F a0 v1 v2 v3 _ _ _ e
    · rw [if_neg hx_1] at e
      refine go_forget (l := [some (.ref a0), some (.int v1), some (.int v2), some (.int v3), none, none]) ⟨Or.inl rfl, Or.inl rfl, Or.inl rfl, Or.inl rfl, Or.inl rfl, Or.inl rfl, trivial⟩ ?_
      exact f_RM_stow_J141_s F a0 v1 v2 v3 _ _ _ e
def f_RM_stow_J86 (F : Nat)  (a0 : Nat) (v1 : Int32) (v2 : Int32) (v3 : Int32) (h : ck_H) : Option (Int32 × ck_H) :=
  if v3 = ((-1) : Int32) then
    ck_as (gk h a0 = 12) <|
    ck_some (gR h a0 45) fun b3 =>
    ck_as ((gk h b3 = 14 ∨ gk h b3 = 21) ∧ ¬ v2 < 0 ∧ (v2 : Int32).toNatClampNeg < gz h b3) <|
    ck_then (gI h b3 (v2 : Int32).toNatClampNeg) fun x6 =>
    f_RM_stow_L98 F F a0 v1 v2 x6 h
  else
    ck_then ((40 * v2) + v3) fun x30 =>
    f_RM_stow_L162 F F a0 v1 v2 x30 0 h
set_option maxRecDepth 100000 in
set_option maxHeartbeats 4000000 in
theorem f_RM_stow_J86_s (F : Nat)   (a0 : Nat) (v1 : Int32) (v2 : Int32) (v3 : Int32) (h : ck_H) (r : Int32) (h' : ck_H) (e : f_RM_stow_J86 F  a0 v1 v2 v3 h = some (r, h')) : Go k_RM_stow 86 [some (.ref a0), some (.int v1), some (.int v2), some (.int v3), none, none] [] h (some (.int r), h') := by
  unfold f_RM_stow_J86 at e
  refine go_iload_n rfl rfl ?_
  refine go_iconst (v := (-1)) rfl (by decide) ?_
  refine go_icmp_ne (t := 151) rfl rfl (fun hx_1 => ?_) (fun hx_1 => ?_)
  · rw [if_pos hx_1] at e
    refine go_aload_n rfl rfl ?_
    replace e := ck_as_e e
    obtain ⟨hk_2, e⟩ := e
    replace e := ck_some_e e
    obtain ⟨b3, hq_4, e⟩ := e
    refine go_get (v := .ref b3) rfl rfl hk_2 (by decide) (by show va_rf (gR h a0 45) = _; rw [hq_4]; rfl) ?_
    refine go_iload_n rfl rfl ?_
    replace e := ck_as_e e
    obtain ⟨hc_5, e⟩ := e
    refine go_iald rfl hc_5 ?_
    generalize gI h b3 (v2 : Int32).toNatClampNeg = x6 at e ⊢
    replace e := ck_then_e e
    refine go_istore_n rfl rfl ?_
    show Go k_RM_stow 98 [some (.ref a0), some (.int v1), some (.int v2), some (.int x6), none, none] [] h _
    refine go_forget (l := [some (.ref a0), some (.int v1), some (.int v2), some (.int x6), none, none]) ⟨Or.inl rfl, Or.inl rfl, Or.inl rfl, Or.inl rfl, Or.inl rfl, Or.inl rfl, trivial⟩ ?_
    exact f_RM_stow_L98_s F F _ _ _ _ _ _ _ e
  · rw [if_neg hx_1] at e
    refine go_bipush (v := 40) rfl (by decide) ?_
    refine go_iload_n rfl rfl ?_
    refine go_imul rfl ?_
    refine go_iload_n rfl rfl ?_
    refine go_iadd rfl ?_
    generalize (40 * v2) + v3 = x30 at e ⊢
    replace e := ck_then_e e
    refine go_istore rfl rfl ?_
    show Go k_RM_stow 159 [some (.ref a0), some (.int v1), some (.int v2), some (.int v3), some (.int x30), none] [] h _
    refine go_iconst (v := 0) rfl (by decide) ?_
    refine go_istore rfl rfl ?_
    show Go k_RM_stow 162 [some (.ref a0), some (.int v1), some (.int v2), some (.int v3), some (.int x30), some (.int 0)] [] h _
    refine go_forget (l := [some (.ref a0), some (.int v1), some (.int v2), none, some (.int x30), some (.int 0)]) ⟨Or.inl rfl, Or.inl rfl, Or.inl rfl, Or.inr ⟨rfl, fun _ q => by cases q; rfl⟩, Or.inl rfl, Or.inl rfl, trivial⟩ ?_
    exact f_RM_stow_L162_s F F _ _ _ _ _ _ _ _ e
def f_RM_stow_J72 (F : Nat)  (a0 : Nat) (v1 : Int32) (v2 : Int32) (v3 : Int32) (h : ck_H) : Option (Int32 × ck_H) :=
  ck_as (gk h a0 = 12) <|
  ck_some (gR h a0 54) fun b2 =>
  ck_as ((gk h b2 = 14 ∨ gk h b2 = 21) ∧ ¬ v1 < 0 ∧ (v1 : Int32).toNatClampNeg < gz h b2) <|
  if (0 : Int32) < (gI h b2 (v1 : Int32).toNatClampNeg) then
    ck_bd (f_RM_writeBlock F a0 v1 h) fun _ h7 =>
    f_RM_stow_J86 F a0 v1 v2 v3 h7
  else
    f_RM_stow_J86 F a0 v1 v2 v3 h
set_option maxRecDepth 100000 in
set_option maxHeartbeats 4000000 in
theorem f_RM_stow_J72_s (F : Nat)   (a0 : Nat) (v1 : Int32) (v2 : Int32) (v3 : Int32) (h : ck_H) (r : Int32) (h' : ck_H) (e : f_RM_stow_J72 F  a0 v1 v2 v3 h = some (r, h')) : Go k_RM_stow 72 [some (.ref a0), some (.int v1), some (.int v2), some (.int v3), none, none] [] h (some (.int r), h') := by
  unfold f_RM_stow_J72 at e
  refine go_aload_n rfl rfl ?_
  replace e := ck_as_e e
  obtain ⟨hk_1, e⟩ := e
  replace e := ck_some_e e
  obtain ⟨b2, hq_3, e⟩ := e
  refine go_get (v := .ref b2) rfl rfl hk_1 (by decide) (by show va_rf (gR h a0 54) = _; rw [hq_3]; rfl) ?_
  refine go_iload_n rfl rfl ?_
  replace e := ck_as_e e
  obtain ⟨hc_4, e⟩ := e
  refine go_iald rfl hc_4 ?_
  refine go_if_le (t := 86) rfl rfl (fun hx_5 => ?_) (fun hx_5 => ?_)
  · rw [if_pos hx_5] at e
    refine go_aload_n rfl rfl ?_
    refine go_iload_n rfl rfl ?_
    replace e := ck_bd_e e
    obtain ⟨r6, h7, e8, e⟩ := e
    refine go_callV (As := [.int v1]) (b0 := a0) (rest := []) rfl rfl ⟨hk_1, by decide⟩ rfl ⟨Nat.le_of_ble_eq_true rfl, Nat.le_of_ble_eq_true rfl, Nat.le_of_ble_eq_true rfl, Nat.le_of_ble_eq_true rfl⟩ (s_RM_writeBlock e8) ?_
    show Go k_RM_stow 86 [some (.ref a0), some (.int v1), some (.int v2), some (.int v3), none, none] [] h7 _
    refine go_forget (l := [some (.ref a0), some (.int v1), some (.int v2), some (.int v3), none, none]) ⟨Or.inl rfl, Or.inl rfl, Or.inl rfl, Or.inl rfl, Or.inl rfl, Or.inl rfl, trivial⟩ ?_
    exact f_RM_stow_J86_s F a0 v1 v2 v3 _ _ _ e
  · rw [if_neg hx_5] at e
    refine go_forget (l := [some (.ref a0), some (.int v1), some (.int v2), some (.int v3), none, none]) ⟨Or.inl rfl, Or.inl rfl, Or.inl rfl, Or.inl rfl, Or.inl rfl, Or.inl rfl, trivial⟩ ?_
    exact f_RM_stow_J86_s F a0 v1 v2 v3 _ _ _ e
def f_RM_stow (F : Nat) (a0 : Nat) (v1 : Int32) (h : ck_H) : Option (Int32 × ck_H) :=
  ck_as (gk h a0 = 12) <|
  ck_bd (f_RM_takeName F a0 h) fun _ h3 =>
  ck_as (gk h3 a0 = 12) <|
  ck_bd (f_RM_isHandle F a0 v1 h3) fun r6 h7 =>
  if r6 = (0 : Int32) then
    some ((-3), h7)
  else
    ck_as (gk h7 a0 = 12) <|
    ck_some (gR h7 a0 35) fun b11 =>
    ck_some (gR h7 a0 50) fun b13 =>
    ck_as ((gk h7 b13 = 14 ∨ gk h7 b13 = 21) ∧ ¬ v1 < 0 ∧ (v1 : Int32).toNatClampNeg < gz h7 b13) <|
    ck_as ((gk h7 b11 = 14 ∨ gk h7 b11 = 21) ∧ ¬ (gI h7 b13 (v1 : Int32).toNatClampNeg) < 0 ∧ (gI h7 b13 (v1 : Int32).toNatClampNeg : Int32).toNatClampNeg < gz h7 b11) <|
    if (gI h7 b11 (gI h7 b13 (v1 : Int32).toNatClampNeg : Int32).toNatClampNeg) = (4 : Int32) then
      ck_some (gR h7 a0 51) fun b18 =>
      ck_as ((gk h7 b18 = 14 ∨ gk h7 b18 = 21) ∧ ¬ v1 < 0 ∧ (v1 : Int32).toNatClampNeg < gz h7 b18) <|
      if (gI h7 b18 (v1 : Int32).toNatClampNeg) = (1 : Int32) then
        ck_some (gR h7 a0 50) fun b22 =>
        ck_as ((gk h7 b22 = 14 ∨ gk h7 b22 = 21) ∧ ¬ v1 < 0 ∧ (v1 : Int32).toNatClampNeg < gz h7 b22) <|
        ck_then (gI h7 b22 (v1 : Int32).toNatClampNeg) fun x25 =>
        ck_bd (f_RM_findMember F a0 x25 h7) fun r26 h27 =>
        if r26 = ((-1) : Int32) then
          ck_as (gk h27 a0 = 12) <|
          ck_some (gR h27 a0 45) fun b31 =>
          ck_as ((gk h27 b31 = 14 ∨ gk h27 b31 = 21) ∧ ¬ x25 < 0 ∧ (x25 : Int32).toNatClampNeg < gz h27 b31) <|
          if (gI h27 b31 (x25 : Int32).toNatClampNeg) = (40 : Int32) then
            some ((-4), h27)
          else
            f_RM_stow_J72 F a0 v1 x25 r26 h27
        else
          f_RM_stow_J72 F a0 v1 x25 r26 h27
      else
        some ((-3), h7)
    else
      some ((-3), h7)
set_option maxRecDepth 100000 in
set_option maxHeartbeats 4000000 in
theorem s_RM_stow {F : Nat} {a0 : Nat} {v1 : Int32} {h h' : ck_H} {r : Int32} (e : f_RM_stow F a0 v1 h = some (r, h')) : Go k_RM_stow 0 (ck_in [.ref a0, .int v1] 6) [] h (some (.int r), h') := by
  unfold f_RM_stow at e
  show Go k_RM_stow 0 [some (.ref a0), some (.int v1), none, none, none, none] [] h _
  refine go_aload_n rfl rfl ?_
  replace e := ck_as_e e
  obtain ⟨hk_1, e⟩ := e
  replace e := ck_bd_e e
  obtain ⟨r2, h3, e4, e⟩ := e
  refine go_callV (As := []) (b0 := a0) (rest := []) rfl rfl ⟨hk_1, by decide⟩ rfl ⟨Nat.le_of_ble_eq_true rfl, Nat.le_of_ble_eq_true rfl, Nat.le_of_ble_eq_true rfl, Nat.le_of_ble_eq_true rfl⟩ (s_RM_takeName e4) ?_
  show Go k_RM_stow 4 [some (.ref a0), some (.int v1), none, none, none, none] [] h3 _
  refine go_aload_n rfl rfl ?_
  refine go_iload_n rfl rfl ?_
  replace e := ck_as_e e
  obtain ⟨hk_5, e⟩ := e
  replace e := ck_bd_e e
  obtain ⟨r6, h7, e8, e⟩ := e
  refine go_callV (As := [.int v1]) (b0 := a0) (rest := []) rfl rfl ⟨hk_5, by decide⟩ rfl ⟨Nat.le_of_ble_eq_true rfl, Nat.le_of_ble_eq_true rfl, Nat.le_of_ble_eq_true rfl, Nat.le_of_ble_eq_true rfl⟩ (s_RM_isHandle e8) ?_
  show Go k_RM_stow 9 [some (.ref a0), some (.int v1), none, none, none, none] [.int r6] h7 _
  refine go_if_eq (t := 37) rfl rfl (fun hx_9 => ?_) (fun hx_9 => ?_)
  · rw [if_pos hx_9] at e
    refine go_bipush (v := (-3)) rfl (by decide) ?_
    cases e
    exact go_ret rfl rfl
  · rw [if_neg hx_9] at e
    refine go_aload_n rfl rfl ?_
    replace e := ck_as_e e
    obtain ⟨hk_10, e⟩ := e
    replace e := ck_some_e e
    obtain ⟨b11, hq_12, e⟩ := e
    refine go_get (v := .ref b11) rfl rfl hk_10 (by decide) (by show va_rf (gR h7 a0 35) = _; rw [hq_12]; rfl) ?_
    refine go_aload_n rfl rfl ?_
    replace e := ck_some_e e
    obtain ⟨b13, hq_14, e⟩ := e
    refine go_get (v := .ref b13) rfl rfl hk_10 (by decide) (by show va_rf (gR h7 a0 50) = _; rw [hq_14]; rfl) ?_
    refine go_iload_n rfl rfl ?_
    replace e := ck_as_e e
    obtain ⟨hc_15, e⟩ := e
    refine go_iald rfl hc_15 ?_
    replace e := ck_as_e e
    obtain ⟨hc_16, e⟩ := e
    refine go_iald rfl hc_16 ?_
    refine go_iconst (v := 4) rfl (by decide) ?_
    refine go_icmp_ne (t := 37) rfl rfl (fun hx_17 => ?_) (fun hx_17 => ?_)
    · rw [if_pos hx_17] at e
      refine go_aload_n rfl rfl ?_
      replace e := ck_some_e e
      obtain ⟨b18, hq_19, e⟩ := e
      refine go_get (v := .ref b18) rfl rfl hk_10 (by decide) (by show va_rf (gR h7 a0 51) = _; rw [hq_19]; rfl) ?_
      refine go_iload_n rfl rfl ?_
      replace e := ck_as_e e
      obtain ⟨hc_20, e⟩ := e
      refine go_iald rfl hc_20 ?_
      refine go_iconst (v := 1) rfl (by decide) ?_
      refine go_icmp_eq (t := 40) rfl rfl (fun hx_21 => ?_) (fun hx_21 => ?_)
      · rw [if_pos hx_21] at e
        refine go_aload_n rfl rfl ?_
        replace e := ck_some_e e
        obtain ⟨b22, hq_23, e⟩ := e
        refine go_get (v := .ref b22) rfl rfl hk_10 (by decide) (by show va_rf (gR h7 a0 50) = _; rw [hq_23]; rfl) ?_
        refine go_iload_n rfl rfl ?_
        replace e := ck_as_e e
        obtain ⟨hc_24, e⟩ := e
        refine go_iald rfl hc_24 ?_
        generalize gI h7 b22 (v1 : Int32).toNatClampNeg = x25 at e ⊢
        replace e := ck_then_e e
        refine go_istore_n rfl rfl ?_
        show Go k_RM_stow 47 [some (.ref a0), some (.int v1), some (.int x25), none, none, none] [] h7 _
        refine go_aload_n rfl rfl ?_
        refine go_iload_n rfl rfl ?_
        replace e := ck_bd_e e
        obtain ⟨r26, h27, e28, e⟩ := e
        refine go_callV (As := [.int x25]) (b0 := a0) (rest := []) rfl rfl ⟨hk_10, by decide⟩ rfl ⟨Nat.le_of_ble_eq_true rfl, Nat.le_of_ble_eq_true rfl, Nat.le_of_ble_eq_true rfl, Nat.le_of_ble_eq_true rfl⟩ (s_RM_findMember e28) ?_
        show Go k_RM_stow 52 [some (.ref a0), some (.int v1), some (.int x25), none, none, none] [.int r26] h27 _
        refine go_istore_n rfl rfl ?_
        show Go k_RM_stow 53 [some (.ref a0), some (.int v1), some (.int x25), some (.int r26), none, none] [] h27 _
        refine go_iload_n rfl rfl ?_
        refine go_iconst (v := (-1)) rfl (by decide) ?_
        refine go_icmp_ne (t := 72) rfl rfl (fun hx_29 => ?_) (fun hx_29 => ?_)
        · rw [if_pos hx_29] at e
          refine go_aload_n rfl rfl ?_
          replace e := ck_as_e e
          obtain ⟨hk_30, e⟩ := e
          replace e := ck_some_e e
          obtain ⟨b31, hq_32, e⟩ := e
          refine go_get (v := .ref b31) rfl rfl hk_30 (by decide) (by show va_rf (gR h27 a0 45) = _; rw [hq_32]; rfl) ?_
          refine go_iload_n rfl rfl ?_
          replace e := ck_as_e e
          obtain ⟨hc_33, e⟩ := e
          refine go_iald rfl hc_33 ?_
          refine go_bipush (v := 40) rfl (by decide) ?_
          refine go_icmp_ne (t := 72) rfl rfl (fun hx_34 => ?_) (fun hx_34 => ?_)
          · rw [if_pos hx_34] at e
            refine go_bipush (v := (-4)) rfl (by decide) ?_
            cases e
            exact go_ret rfl rfl
          · rw [if_neg hx_34] at e
            refine go_forget (l := [some (.ref a0), some (.int v1), some (.int x25), some (.int r26), none, none]) ⟨Or.inl rfl, Or.inl rfl, Or.inl rfl, Or.inl rfl, Or.inl rfl, Or.inl rfl, trivial⟩ ?_
            exact f_RM_stow_J72_s F a0 v1 x25 r26 _ _ _ e
        · rw [if_neg hx_29] at e
          refine go_forget (l := [some (.ref a0), some (.int v1), some (.int x25), some (.int r26), none, none]) ⟨Or.inl rfl, Or.inl rfl, Or.inl rfl, Or.inl rfl, Or.inl rfl, Or.inl rfl, trivial⟩ ?_
          exact f_RM_stow_J72_s F a0 v1 x25 r26 _ _ _ e
      · rw [if_neg hx_21] at e
        refine go_bipush (v := (-3)) rfl (by decide) ?_
        cases e
        exact go_ret rfl rfl
    · rw [if_neg hx_17] at e
      refine go_bipush (v := (-3)) rfl (by decide) ?_
      cases e
      exact go_ret rfl rfl
def f_RM_isLibrary (F : Nat) (a0 : Nat) (v1 : Int32) (h : ck_H) : Option (Int32 × ck_H) :=
  ck_as (gk h a0 = 12) <|
  ck_bd (f_RM_hasSet F a0 v1 h) fun r2 h3 =>
  if r2 = (0 : Int32) then
    some (0, h3)
  else
    ck_as (gk h3 a0 = 12) <|
    ck_some (gR h3 a0 35) fun b7 =>
    ck_as ((gk h3 b7 = 14 ∨ gk h3 b7 = 21) ∧ ¬ v1 < 0 ∧ (v1 : Int32).toNatClampNeg < gz h3 b7) <|
    if (gI h3 b7 (v1 : Int32).toNatClampNeg) = (4 : Int32) then
      some (1, h3)
    else
      some (0, h3)
set_option maxRecDepth 100000 in
set_option maxHeartbeats 4000000 in
theorem s_RM_isLibrary {F : Nat} {a0 : Nat} {v1 : Int32} {h h' : ck_H} {r : Int32} (e : f_RM_isLibrary F a0 v1 h = some (r, h')) : Go k_RM_isLibrary 0 (ck_in [.ref a0, .int v1] 2) [] h (some (.int r), h') := by
  unfold f_RM_isLibrary at e
  show Go k_RM_isLibrary 0 [some (.ref a0), some (.int v1)] [] h _
  refine go_aload_n rfl rfl ?_
  refine go_iload_n rfl rfl ?_
  replace e := ck_as_e e
  obtain ⟨hk_1, e⟩ := e
  replace e := ck_bd_e e
  obtain ⟨r2, h3, e4, e⟩ := e
  refine go_callV (As := [.int v1]) (b0 := a0) (rest := []) rfl rfl ⟨hk_1, by decide⟩ rfl ⟨Nat.le_of_ble_eq_true rfl, Nat.le_of_ble_eq_true rfl, Nat.le_of_ble_eq_true rfl, Nat.le_of_ble_eq_true rfl⟩ (s_RM_hasSet e4) ?_
  show Go k_RM_isLibrary 5 [some (.ref a0), some (.int v1)] [.int r2] h3 _
  refine go_if_eq (t := 22) rfl rfl (fun hx_5 => ?_) (fun hx_5 => ?_)
  · rw [if_pos hx_5] at e
    refine go_iconst (v := 0) rfl (by decide) ?_
    cases e
    exact go_ret rfl (ck_rvb rfl (Or.inl rfl))
  · rw [if_neg hx_5] at e
    refine go_aload_n rfl rfl ?_
    replace e := ck_as_e e
    obtain ⟨hk_6, e⟩ := e
    replace e := ck_some_e e
    obtain ⟨b7, hq_8, e⟩ := e
    refine go_get (v := .ref b7) rfl rfl hk_6 (by decide) (by show va_rf (gR h3 a0 35) = _; rw [hq_8]; rfl) ?_
    refine go_iload_n rfl rfl ?_
    replace e := ck_as_e e
    obtain ⟨hc_9, e⟩ := e
    refine go_iald rfl hc_9 ?_
    refine go_iconst (v := 4) rfl (by decide) ?_
    refine go_icmp_ne (t := 22) rfl rfl (fun hx_10 => ?_) (fun hx_10 => ?_)
    · rw [if_pos hx_10] at e
      refine go_iconst (v := 1) rfl (by decide) ?_
      refine go_goto (t := 23) rfl rfl ?_
      cases e
      exact go_ret rfl (ck_rvb rfl (Or.inr rfl))
    · rw [if_neg hx_10] at e
      refine go_iconst (v := 0) rfl (by decide) ?_
      cases e
      exact go_ret rfl (ck_rvb rfl (Or.inl rfl))
def f_RM_memberAt_L30 (F : Nat)  : Nat → Nat → Int32 → Int32 → Int32 → ck_H → Option (Int32 × ck_H)
  | 0, _, _, _, _, _ => none
  | n + 1, a0, v1, v2, v3, h =>
    if v3 < (8 : Int32) then
      ck_as (gk h a0 = 12) <|
      ck_some (gR h a0 10) fun b3 =>
      ck_some (gR h a0 41) fun b5 =>
      ck_as ((gk h b5 = 13 ∨ gk h b5 = 15) ∧ ¬ ((8 * ((40 * v1) + v2)) + v3) < 0 ∧ ((8 * ((40 * v1) + v2)) + v3 : Int32).toNatClampNeg < gz h b5) <|
      ck_as (gk h b3 = 13 ∧ ¬ v3 < 0 ∧ (v3 : Int32).toNatClampNeg < gz h b3) <|
      ck_then (wI h b3 (v3 : Int32).toNatClampNeg (gI h b5 ((8 * ((40 * v1) + v2)) + v3 : Int32).toNatClampNeg : Int32).toInt8.toInt32) fun h9 =>
      f_RM_memberAt_L30 F n a0 v1 v2 (v3 + 1) h9
    else
      ck_as (gk h a0 = 12) <|
      ck_then (wI h a0 12 8) fun h12 =>
      some (8, h12)
set_option maxRecDepth 100000 in
set_option maxHeartbeats 4000000 in
theorem f_RM_memberAt_L30_s (F : Nat)   : ∀ (n : Nat) (a0 : Nat) (v1 : Int32) (v2 : Int32) (v3 : Int32) (h : ck_H) (r : Int32) (h' : ck_H), f_RM_memberAt_L30 F n a0 v1 v2 v3 h = some (r, h') → Go k_RM_memberAt 30 [some (.ref a0), some (.int v1), some (.int v2), some (.int v3)] [] h (some (.int r), h') := by
  intro n
  induction n with
  | zero => intro a0 v1 v2 v3 h r h' e; simp only [f_RM_memberAt_L30] at e; cases e
  | succ n ih =>
    intro a0 v1 v2 v3 h r h' e
    rw [f_RM_memberAt_L30] at e
    refine go_iload_n rfl rfl ?_
    refine go_bipush (v := 8) rfl (by decide) ?_
    refine go_icmp_ge (t := 64) rfl rfl (fun hx_1 => ?_) (fun hx_1 => ?_)
    · rw [if_pos hx_1] at e
      refine go_aload_n rfl rfl ?_
      replace e := ck_as_e e
      obtain ⟨hk_2, e⟩ := e
      replace e := ck_some_e e
      obtain ⟨b3, hq_4, e⟩ := e
      refine go_get (v := .ref b3) rfl rfl hk_2 (by decide) (by show va_rf (gR h a0 10) = _; rw [hq_4]; rfl) ?_
      refine go_iload_n rfl rfl ?_
      refine go_aload_n rfl rfl ?_
      replace e := ck_some_e e
      obtain ⟨b5, hq_6, e⟩ := e
      refine go_get (v := .ref b5) rfl rfl hk_2 (by decide) (by show va_rf (gR h a0 41) = _; rw [hq_6]; rfl) ?_
      refine go_bipush (v := 8) rfl (by decide) ?_
      refine go_bipush (v := 40) rfl (by decide) ?_
      refine go_iload_n rfl rfl ?_
      refine go_imul rfl ?_
      refine go_iload_n rfl rfl ?_
      refine go_iadd rfl ?_
      refine go_imul rfl ?_
      refine go_iload_n rfl rfl ?_
      refine go_iadd rfl ?_
      replace e := ck_as_e e
      obtain ⟨hc_7, e⟩ := e
      refine go_bald rfl hc_7 ?_
      replace e := ck_as_e e
      obtain ⟨hc_8, e⟩ := e
      refine go_bast rfl hc_8 ?_
      have hk_10 : gk (wI h b3 (v3 : Int32).toNatClampNeg (gI h b5 ((8 * ((40 * v1) + v2)) + v3 : Int32).toNatClampNeg : Int32).toInt8.toInt32) a0 = 12 := ck_kI.trans hk_2
      generalize wI h b3 (v3 : Int32).toNatClampNeg (gI h b5 ((8 * ((40 * v1) + v2)) + v3 : Int32).toNatClampNeg : Int32).toInt8.toInt32 = h9 at e hk_10 ⊢
      replace e := ck_then_e e
      refine go_iinc (v := 1) rfl rfl (by decide) rfl ?_
      show Go k_RM_memberAt 61 [some (.ref a0), some (.int v1), some (.int v2), some (.int (v3 + 1))] [] h9 _
      refine go_goto (t := 30) rfl rfl ?_
      refine go_forget (l := [some (.ref a0), some (.int v1), some (.int v2), some (.int (v3 + 1))]) ⟨Or.inl rfl, Or.inl rfl, Or.inl rfl, Or.inl rfl, trivial⟩ ?_
      exact ih _ _ _ _ _ _ _ e
    · rw [if_neg hx_1] at e
      refine go_aload_n rfl rfl ?_
      refine go_bipush (v := 8) rfl (by decide) ?_
      replace e := ck_as_e e
      obtain ⟨hk_11, e⟩ := e
      refine go_put (h1 := wI h a0 12 8) rfl rfl hk_11 ⟨by decide, by decide, Or.inl rfl⟩ rfl ?_
      have hk_13 : gk (wI h a0 12 8) a0 = 12 := ck_kI.trans hk_11
      generalize wI h a0 12 8 = h12 at e hk_13 ⊢
      replace e := ck_then_e e
      refine go_bipush (v := 8) rfl (by decide) ?_
      cases e
      exact go_ret rfl rfl
def f_RM_memberAt (F : Nat) (a0 : Nat) (v1 : Int32) (v2 : Int32) (h : ck_H) : Option (Int32 × ck_H) :=
  ck_as (gk h a0 = 12) <|
  ck_bd (f_RM_isLibrary F a0 v1 h) fun r2 h3 =>
  if r2 = (0 : Int32) then
    some ((-1), h3)
  else
    ck_as (gk h3 a0 = 12) <|
    ck_some (gR h3 a0 45) fun b7 =>
    ck_as ((gk h3 b7 = 14 ∨ gk h3 b7 = 21) ∧ ¬ v1 < 0 ∧ (v1 : Int32).toNatClampNeg < gz h3 b7) <|
    ck_bd (f_RM_in F ((v2 : Int32).toInt64) 0 (((gI h3 b7 (v1 : Int32).toNatClampNeg : Int32).toInt64) - 1) h3) fun r10 h11 =>
    if r10 = (0 : Int32) then
      some ((-1), h11)
    else
      f_RM_memberAt_L30 F F a0 v1 v2 0 h11
set_option maxRecDepth 100000 in
set_option maxHeartbeats 4000000 in
theorem s_RM_memberAt {F : Nat} {a0 : Nat} {v1 : Int32} {v2 : Int32} {h h' : ck_H} {r : Int32} (e : f_RM_memberAt F a0 v1 v2 h = some (r, h')) : Go k_RM_memberAt 0 (ck_in [.ref a0, .int v1, .int v2] 4) [] h (some (.int r), h') := by
  unfold f_RM_memberAt at e
  show Go k_RM_memberAt 0 [some (.ref a0), some (.int v1), some (.int v2), none] [] h _
  refine go_aload_n rfl rfl ?_
  refine go_iload_n rfl rfl ?_
  replace e := ck_as_e e
  obtain ⟨hk_1, e⟩ := e
  replace e := ck_bd_e e
  obtain ⟨r2, h3, e4, e⟩ := e
  refine go_callV (As := [.int v1]) (b0 := a0) (rest := []) rfl rfl ⟨hk_1, by decide⟩ rfl ⟨Nat.le_of_ble_eq_true rfl, Nat.le_of_ble_eq_true rfl, Nat.le_of_ble_eq_true rfl, Nat.le_of_ble_eq_true rfl⟩ (s_RM_isLibrary e4) ?_
  show Go k_RM_memberAt 5 [some (.ref a0), some (.int v1), some (.int v2), none] [.int r2] h3 _
  refine go_if_eq (t := 26) rfl rfl (fun hx_5 => ?_) (fun hx_5 => ?_)
  · rw [if_pos hx_5] at e
    refine go_iconst (v := (-1)) rfl (by decide) ?_
    cases e
    exact go_ret rfl rfl
  · rw [if_neg hx_5] at e
    refine go_iload_n rfl rfl ?_
    refine go_i2l rfl ?_
    refine go_lconst (v := 0) rfl (by decide) ?_
    refine go_aload_n rfl rfl ?_
    replace e := ck_as_e e
    obtain ⟨hk_6, e⟩ := e
    replace e := ck_some_e e
    obtain ⟨b7, hq_8, e⟩ := e
    refine go_get (v := .ref b7) rfl rfl hk_6 (by decide) (by show va_rf (gR h3 a0 45) = _; rw [hq_8]; rfl) ?_
    refine go_iload_n rfl rfl ?_
    replace e := ck_as_e e
    obtain ⟨hc_9, e⟩ := e
    refine go_iald rfl hc_9 ?_
    refine go_i2l rfl ?_
    refine go_lconst (v := 1) rfl (by decide) ?_
    refine go_lsub rfl ?_
    replace e := ck_bd_e e
    obtain ⟨r10, h11, e12, e⟩ := e
    refine go_callS (As := [.long ((v2 : Int32).toInt64), .long 0, .long (((gI h3 b7 (v1 : Int32).toNatClampNeg : Int32).toInt64) - 1)]) (rest := []) rfl rfl rfl ⟨Nat.le_of_ble_eq_true rfl, Nat.le_of_ble_eq_true rfl, Nat.le_of_ble_eq_true rfl, Nat.le_of_ble_eq_true rfl⟩ (s_RM_in e12) ?_
    show Go k_RM_memberAt 23 [some (.ref a0), some (.int v1), some (.int v2), none] [.int r10] h11 _
    refine go_if_ne (t := 28) rfl rfl (fun hx_13 => ?_) (fun hx_13 => ?_)
    · rw [if_pos hx_13] at e
      refine go_iconst (v := (-1)) rfl (by decide) ?_
      cases e
      exact go_ret rfl rfl
    · rw [if_neg hx_13] at e
      refine go_iconst (v := 0) rfl (by decide) ?_
      refine go_istore_n rfl rfl ?_
      show Go k_RM_memberAt 30 [some (.ref a0), some (.int v1), some (.int v2), some (.int 0)] [] h11 _
      refine go_forget (l := [some (.ref a0), some (.int v1), some (.int v2), some (.int 0)]) ⟨Or.inl rfl, Or.inl rfl, Or.inl rfl, Or.inl rfl, trivial⟩ ?_
      exact f_RM_memberAt_L30_s F F _ _ _ _ _ _ _ e
def f_RM_drop_L85 (F : Nat)  : Nat → Nat → Int32 → Int32 → ck_H → Option (Int32 × ck_H)
  | 0, _, _, _, _ => none
  | n + 1, a0, v1, v3, h =>
    ck_as (gk h a0 = 12) <|
    ck_some (gR h a0 45) fun b2 =>
    ck_as ((gk h b2 = 14 ∨ gk h b2 = 21) ∧ ¬ v1 < 0 ∧ (v1 : Int32).toNatClampNeg < gz h b2) <|
    if v3 < (gI h b2 (v1 : Int32).toNatClampNeg) then
      ck_bd (f_RM_copyMember F a0 ((40 * v1) + v3) (((40 * v1) + v3) + 1) h) fun _ h7 =>
      f_RM_drop_L85 F n a0 v1 (v3 + 1) h7
    else
      ck_bd (f_RM_writeList F a0 v1 h) fun _ h10 =>
      ck_as (gk h10 a0 = 12) <|
      ck_some (gR h10 a0 45) fun b13 =>
      ck_as ((gk h10 b13 = 14 ∨ gk h10 b13 = 21) ∧ ¬ v1 < 0 ∧ (v1 : Int32).toNatClampNeg < gz h10 b13) <|
      some (gI h10 b13 (v1 : Int32).toNatClampNeg, h10)
set_option maxRecDepth 100000 in
set_option maxHeartbeats 4000000 in
theorem f_RM_drop_L85_s (F : Nat)   : ∀ (n : Nat) (a0 : Nat) (v1 : Int32) (v3 : Int32) (h : ck_H) (r : Int32) (h' : ck_H), f_RM_drop_L85 F n a0 v1 v3 h = some (r, h') → Go k_RM_drop 85 [some (.ref a0), some (.int v1), none, some (.int v3)] [] h (some (.int r), h') := by
  intro n
  induction n with
  | zero => intro a0 v1 v3 h r h' e; simp only [f_RM_drop_L85] at e; cases e
  | succ n ih =>
    intro a0 v1 v3 h r h' e
    rw [f_RM_drop_L85] at e
    refine go_iload_n rfl rfl ?_
    refine go_aload_n rfl rfl ?_
    replace e := ck_as_e e
    obtain ⟨hk_1, e⟩ := e
    replace e := ck_some_e e
    obtain ⟨b2, hq_3, e⟩ := e
    refine go_get (v := .ref b2) rfl rfl hk_1 (by decide) (by show va_rf (gR h a0 45) = _; rw [hq_3]; rfl) ?_
    refine go_iload_n rfl rfl ?_
    replace e := ck_as_e e
    obtain ⟨hc_4, e⟩ := e
    refine go_iald rfl hc_4 ?_
    refine go_icmp_ge (t := 119) rfl rfl (fun hx_5 => ?_) (fun hx_5 => ?_)
    · rw [if_pos hx_5] at e
      refine go_aload_n rfl rfl ?_
      refine go_bipush (v := 40) rfl (by decide) ?_
      refine go_iload_n rfl rfl ?_
      refine go_imul rfl ?_
      refine go_iload_n rfl rfl ?_
      refine go_iadd rfl ?_
      refine go_bipush (v := 40) rfl (by decide) ?_
      refine go_iload_n rfl rfl ?_
      refine go_imul rfl ?_
      refine go_iload_n rfl rfl ?_
      refine go_iadd rfl ?_
      refine go_iconst (v := 1) rfl (by decide) ?_
      refine go_iadd rfl ?_
      replace e := ck_bd_e e
      obtain ⟨r6, h7, e8, e⟩ := e
      refine go_callV (As := [.int ((40 * v1) + v3), .int (((40 * v1) + v3) + 1)]) (b0 := a0) (rest := []) rfl rfl ⟨hk_1, by decide⟩ rfl ⟨Nat.le_of_ble_eq_true rfl, Nat.le_of_ble_eq_true rfl, Nat.le_of_ble_eq_true rfl, Nat.le_of_ble_eq_true rfl⟩ (s_RM_copyMember e8) ?_
      show Go k_RM_drop 113 [some (.ref a0), some (.int v1), none, some (.int v3)] [] h7 _
      refine go_iinc (v := 1) rfl rfl (by decide) rfl ?_
      show Go k_RM_drop 116 [some (.ref a0), some (.int v1), none, some (.int (v3 + 1))] [] h7 _
      refine go_goto (t := 85) rfl rfl ?_
      refine go_forget (l := [some (.ref a0), some (.int v1), none, some (.int (v3 + 1))]) ⟨Or.inl rfl, Or.inl rfl, Or.inl rfl, Or.inl rfl, trivial⟩ ?_
      exact ih _ _ _ _ _ _ e
    · rw [if_neg hx_5] at e
      refine go_aload_n rfl rfl ?_
      refine go_iload_n rfl rfl ?_
      replace e := ck_bd_e e
      obtain ⟨r9, h10, e11, e⟩ := e
      refine go_callV (As := [.int v1]) (b0 := a0) (rest := []) rfl rfl ⟨hk_1, by decide⟩ rfl ⟨Nat.le_of_ble_eq_true rfl, Nat.le_of_ble_eq_true rfl, Nat.le_of_ble_eq_true rfl, Nat.le_of_ble_eq_true rfl⟩ (s_RM_writeList e11) ?_
      show Go k_RM_drop 124 [some (.ref a0), some (.int v1), none, some (.int v3)] [] h10 _
      refine go_aload_n rfl rfl ?_
      replace e := ck_as_e e
      obtain ⟨hk_12, e⟩ := e
      replace e := ck_some_e e
      obtain ⟨b13, hq_14, e⟩ := e
      refine go_get (v := .ref b13) rfl rfl hk_12 (by decide) (by show va_rf (gR h10 a0 45) = _; rw [hq_14]; rfl) ?_
      refine go_iload_n rfl rfl ?_
      replace e := ck_as_e e
      obtain ⟨hc_15, e⟩ := e
      refine go_iald rfl hc_15 ?_
      cases e
      exact go_ret rfl rfl
def f_RM_drop_L30 (F : Nat)  : Nat → Nat → Int32 → Int32 → Int32 → ck_H → Option (Int32 × ck_H)
  | 0, _, _, _, _, _ => none
  | n + 1, a0, v1, v2, v3, h =>
    if v3 < (4 : Int32) then
      ck_as (gk h a0 = 12) <|
      ck_some (gR h a0 49) fun b3 =>
      ck_as ((gk h b3 = 13 ∨ gk h b3 = 15) ∧ ¬ v3 < 0 ∧ (v3 : Int32).toNatClampNeg < gz h b3) <|
      if (gI h b3 (v3 : Int32).toNatClampNeg) = (0 : Int32) then
        f_RM_drop_L30 F n a0 v1 v2 (v3 + 1) h
      else
        ck_some (gR h a0 50) fun b7 =>
        ck_as ((gk h b7 = 14 ∨ gk h b7 = 21) ∧ ¬ v3 < 0 ∧ (v3 : Int32).toNatClampNeg < gz h b7) <|
        if (gI h b7 (v3 : Int32).toNatClampNeg) = v1 then
          ck_some (gR h a0 51) fun b11 =>
          ck_as ((gk h b11 = 14 ∨ gk h b11 = 21) ∧ ¬ v3 < 0 ∧ (v3 : Int32).toNatClampNeg < gz h b11) <|
          if (gI h b11 (v3 : Int32).toNatClampNeg) = (1 : Int32) then
            some ((-8), h)
          else
            f_RM_drop_L30 F n a0 v1 v2 (v3 + 1) h
        else
          f_RM_drop_L30 F n a0 v1 v2 (v3 + 1) h
    else
      ck_as (gk h a0 = 12) <|
      ck_some (gR h a0 45) fun b16 =>
      ck_as ((gk h b16 = 14 ∨ gk h b16 = 21) ∧ ¬ v1 < 0 ∧ (v1 : Int32).toNatClampNeg < gz h b16) <|
      ck_as (gk h b16 = 14 ∧ ¬ v1 < 0 ∧ (v1 : Int32).toNatClampNeg < gz h b16) <|
      ck_then (wI h b16 (v1 : Int32).toNatClampNeg ((gI h b16 (v1 : Int32).toNatClampNeg) - 1)) fun h20 =>
      f_RM_drop_L85 F F a0 v1 v2 h20
set_option maxRecDepth 100000 in
set_option maxHeartbeats 4000000 in
theorem f_RM_drop_L30_s (F : Nat)   : ∀ (n : Nat) (a0 : Nat) (v1 : Int32) (v2 : Int32) (v3 : Int32) (h : ck_H) (r : Int32) (h' : ck_H), f_RM_drop_L30 F n a0 v1 v2 v3 h = some (r, h') → Go k_RM_drop 30 [some (.ref a0), some (.int v1), some (.int v2), some (.int v3)] [] h (some (.int r), h') := by
  intro n
  induction n with
  | zero => intro a0 v1 v2 v3 h r h' e; simp only [f_RM_drop_L30] at e; cases e
  | succ n ih =>
    intro a0 v1 v2 v3 h r h' e
    rw [f_RM_drop_L30] at e
    refine go_iload_n rfl rfl ?_
    refine go_iconst (v := 4) rfl (by decide) ?_
    refine go_icmp_ge (t := 73) rfl rfl (fun hx_1 => ?_) (fun hx_1 => ?_)
    · rw [if_pos hx_1] at e
      refine go_aload_n rfl rfl ?_
      replace e := ck_as_e e
      obtain ⟨hk_2, e⟩ := e
      replace e := ck_some_e e
      obtain ⟨b3, hq_4, e⟩ := e
      refine go_get (v := .ref b3) rfl rfl hk_2 (by decide) (by show va_rf (gR h a0 49) = _; rw [hq_4]; rfl) ?_
      refine go_iload_n rfl rfl ?_
      replace e := ck_as_e e
      obtain ⟨hc_5, e⟩ := e
      refine go_bald rfl hc_5 ?_
      refine go_if_eq (t := 67) rfl rfl (fun hx_6 => ?_) (fun hx_6 => ?_)
      · rw [if_pos hx_6] at e
        refine go_iinc (v := 1) rfl rfl (by decide) rfl ?_
        show Go k_RM_drop 70 [some (.ref a0), some (.int v1), some (.int v2), some (.int (v3 + 1))] [] h _
        refine go_goto (t := 30) rfl rfl ?_
        refine go_forget (l := [some (.ref a0), some (.int v1), some (.int v2), some (.int (v3 + 1))]) ⟨Or.inl rfl, Or.inl rfl, Or.inl rfl, Or.inl rfl, trivial⟩ ?_
        exact ih _ _ _ _ _ _ _ e
      · rw [if_neg hx_6] at e
        refine go_aload_n rfl rfl ?_
        replace e := ck_some_e e
        obtain ⟨b7, hq_8, e⟩ := e
        refine go_get (v := .ref b7) rfl rfl hk_2 (by decide) (by show va_rf (gR h a0 50) = _; rw [hq_8]; rfl) ?_
        refine go_iload_n rfl rfl ?_
        replace e := ck_as_e e
        obtain ⟨hc_9, e⟩ := e
        refine go_iald rfl hc_9 ?_
        refine go_iload_n rfl rfl ?_
        refine go_icmp_ne (t := 67) rfl rfl (fun hx_10 => ?_) (fun hx_10 => ?_)
        · rw [if_pos hx_10] at e
          refine go_aload_n rfl rfl ?_
          replace e := ck_some_e e
          obtain ⟨b11, hq_12, e⟩ := e
          refine go_get (v := .ref b11) rfl rfl hk_2 (by decide) (by show va_rf (gR h a0 51) = _; rw [hq_12]; rfl) ?_
          refine go_iload_n rfl rfl ?_
          replace e := ck_as_e e
          obtain ⟨hc_13, e⟩ := e
          refine go_iald rfl hc_13 ?_
          refine go_iconst (v := 1) rfl (by decide) ?_
          refine go_icmp_ne (t := 67) rfl rfl (fun hx_14 => ?_) (fun hx_14 => ?_)
          · rw [if_pos hx_14] at e
            refine go_bipush (v := (-8)) rfl (by decide) ?_
            cases e
            exact go_ret rfl rfl
          · rw [if_neg hx_14] at e
            refine go_iinc (v := 1) rfl rfl (by decide) rfl ?_
            show Go k_RM_drop 70 [some (.ref a0), some (.int v1), some (.int v2), some (.int (v3 + 1))] [] h _
            refine go_goto (t := 30) rfl rfl ?_
            refine go_forget (l := [some (.ref a0), some (.int v1), some (.int v2), some (.int (v3 + 1))]) ⟨Or.inl rfl, Or.inl rfl, Or.inl rfl, Or.inl rfl, trivial⟩ ?_
            exact ih _ _ _ _ _ _ _ e
        · rw [if_neg hx_10] at e
          refine go_iinc (v := 1) rfl rfl (by decide) rfl ?_
          show Go k_RM_drop 70 [some (.ref a0), some (.int v1), some (.int v2), some (.int (v3 + 1))] [] h _
          refine go_goto (t := 30) rfl rfl ?_
          refine go_forget (l := [some (.ref a0), some (.int v1), some (.int v2), some (.int (v3 + 1))]) ⟨Or.inl rfl, Or.inl rfl, Or.inl rfl, Or.inl rfl, trivial⟩ ?_
          exact ih _ _ _ _ _ _ _ e
    · rw [if_neg hx_1] at e
      refine go_aload_n rfl rfl ?_
      replace e := ck_as_e e
      obtain ⟨hk_15, e⟩ := e
      replace e := ck_some_e e
      obtain ⟨b16, hq_17, e⟩ := e
      refine go_get (v := .ref b16) rfl rfl hk_15 (by decide) (by show va_rf (gR h a0 45) = _; rw [hq_17]; rfl) ?_
      refine go_iload_n rfl rfl ?_
      refine go_dup2 rfl rfl rfl ?_
      replace e := ck_as_e e
      obtain ⟨hc_18, e⟩ := e
      refine go_iald rfl hc_18 ?_
      refine go_iconst (v := 1) rfl (by decide) ?_
      refine go_isub rfl ?_
      replace e := ck_as_e e
      obtain ⟨hc_19, e⟩ := e
      refine go_iast rfl hc_19 ?_
      have hk_21 : gk (wI h b16 (v1 : Int32).toNatClampNeg ((gI h b16 (v1 : Int32).toNatClampNeg) - 1)) a0 = 12 := ck_kI.trans hk_15
      generalize wI h b16 (v1 : Int32).toNatClampNeg ((gI h b16 (v1 : Int32).toNatClampNeg) - 1) = h20 at e hk_21 ⊢
      replace e := ck_then_e e
      refine go_iload_n rfl rfl ?_
      refine go_istore_n rfl rfl ?_
      show Go k_RM_drop 85 [some (.ref a0), some (.int v1), some (.int v2), some (.int v2)] [] h20 _
      refine go_forget (l := [some (.ref a0), some (.int v1), none, some (.int v2)]) ⟨Or.inl rfl, Or.inl rfl, Or.inr ⟨rfl, fun _ q => by cases q; rfl⟩, Or.inl rfl, trivial⟩ ?_
      exact f_RM_drop_L85_s F F _ _ _ _ _ _ e
def f_RM_drop (F : Nat) (a0 : Nat) (v1 : Int32) (v2 : Int32) (h : ck_H) : Option (Int32 × ck_H) :=
  ck_as (gk h a0 = 12) <|
  ck_bd (f_RM_isLibrary F a0 v1 h) fun r2 h3 =>
  if r2 = (0 : Int32) then
    some ((-1), h3)
  else
    ck_as (gk h3 a0 = 12) <|
    ck_some (gR h3 a0 45) fun b7 =>
    ck_as ((gk h3 b7 = 14 ∨ gk h3 b7 = 21) ∧ ¬ v1 < 0 ∧ (v1 : Int32).toNatClampNeg < gz h3 b7) <|
    ck_bd (f_RM_in F ((v2 : Int32).toInt64) 0 (((gI h3 b7 (v1 : Int32).toNatClampNeg : Int32).toInt64) - 1) h3) fun r10 h11 =>
    if r10 = (0 : Int32) then
      some ((-1), h11)
    else
      f_RM_drop_L30 F F a0 v1 v2 0 h11
set_option maxRecDepth 100000 in
set_option maxHeartbeats 4000000 in
theorem s_RM_drop {F : Nat} {a0 : Nat} {v1 : Int32} {v2 : Int32} {h h' : ck_H} {r : Int32} (e : f_RM_drop F a0 v1 v2 h = some (r, h')) : Go k_RM_drop 0 (ck_in [.ref a0, .int v1, .int v2] 4) [] h (some (.int r), h') := by
  unfold f_RM_drop at e
  show Go k_RM_drop 0 [some (.ref a0), some (.int v1), some (.int v2), none] [] h _
  refine go_aload_n rfl rfl ?_
  refine go_iload_n rfl rfl ?_
  replace e := ck_as_e e
  obtain ⟨hk_1, e⟩ := e
  replace e := ck_bd_e e
  obtain ⟨r2, h3, e4, e⟩ := e
  refine go_callV (As := [.int v1]) (b0 := a0) (rest := []) rfl rfl ⟨hk_1, by decide⟩ rfl ⟨Nat.le_of_ble_eq_true rfl, Nat.le_of_ble_eq_true rfl, Nat.le_of_ble_eq_true rfl, Nat.le_of_ble_eq_true rfl⟩ (s_RM_isLibrary e4) ?_
  show Go k_RM_drop 5 [some (.ref a0), some (.int v1), some (.int v2), none] [.int r2] h3 _
  refine go_if_eq (t := 26) rfl rfl (fun hx_5 => ?_) (fun hx_5 => ?_)
  · rw [if_pos hx_5] at e
    refine go_iconst (v := (-1)) rfl (by decide) ?_
    cases e
    exact go_ret rfl rfl
  · rw [if_neg hx_5] at e
    refine go_iload_n rfl rfl ?_
    refine go_i2l rfl ?_
    refine go_lconst (v := 0) rfl (by decide) ?_
    refine go_aload_n rfl rfl ?_
    replace e := ck_as_e e
    obtain ⟨hk_6, e⟩ := e
    replace e := ck_some_e e
    obtain ⟨b7, hq_8, e⟩ := e
    refine go_get (v := .ref b7) rfl rfl hk_6 (by decide) (by show va_rf (gR h3 a0 45) = _; rw [hq_8]; rfl) ?_
    refine go_iload_n rfl rfl ?_
    replace e := ck_as_e e
    obtain ⟨hc_9, e⟩ := e
    refine go_iald rfl hc_9 ?_
    refine go_i2l rfl ?_
    refine go_lconst (v := 1) rfl (by decide) ?_
    refine go_lsub rfl ?_
    replace e := ck_bd_e e
    obtain ⟨r10, h11, e12, e⟩ := e
    refine go_callS (As := [.long ((v2 : Int32).toInt64), .long 0, .long (((gI h3 b7 (v1 : Int32).toNatClampNeg : Int32).toInt64) - 1)]) (rest := []) rfl rfl rfl ⟨Nat.le_of_ble_eq_true rfl, Nat.le_of_ble_eq_true rfl, Nat.le_of_ble_eq_true rfl, Nat.le_of_ble_eq_true rfl⟩ (s_RM_in e12) ?_
    show Go k_RM_drop 23 [some (.ref a0), some (.int v1), some (.int v2), none] [.int r10] h11 _
    refine go_if_ne (t := 28) rfl rfl (fun hx_13 => ?_) (fun hx_13 => ?_)
    · rw [if_pos hx_13] at e
      refine go_iconst (v := (-1)) rfl (by decide) ?_
      cases e
      exact go_ret rfl rfl
    · rw [if_neg hx_13] at e
      refine go_iconst (v := 0) rfl (by decide) ?_
      refine go_istore_n rfl rfl ?_
      show Go k_RM_drop 30 [some (.ref a0), some (.int v1), some (.int v2), some (.int 0)] [] h11 _
      refine go_forget (l := [some (.ref a0), some (.int v1), some (.int v2), some (.int 0)]) ⟨Or.inl rfl, Or.inl rfl, Or.inl rfl, Or.inl rfl, trivial⟩ ?_
      exact f_RM_drop_L30_s F F _ _ _ _ _ _ _ e
