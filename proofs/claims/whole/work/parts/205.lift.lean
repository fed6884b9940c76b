def f_Rw_addAll (F : Nat) (a0 : Nat) (a1 : Nat) (v2 : Int32) (v3 : Int32) (h : ck_H) : Option (Unit × ck_H) :=
  if v3 < (0 : Int32) then
    some ((), h)
  else
    ck_as (gk h a0 = 6) <|
    if (1200 - (gI h a0 1)) < v3 then
      some ((), h)
    else
      if v2 < (0 : Int32) then
        some ((), h)
      else
        ck_as (13 ≤ gk h a1 ∧ gk h a1 ≤ 21) <|
        if ((Int32.ofNat (gz h a1)) - v3) < v2 then
          some ((), h)
        else
          ck_some (gR h a0 0) fun b7 =>
          ck_as (gk h a1 = gk h b7 ∧ (gk h b7 = 13 ∨ gk h b7 = 14) ∧ ¬ v2 < 0 ∧ ¬ (gI h a0 1) < 0 ∧ ¬ v3 < 0 ∧ (v2 : Int32).toNatClampNeg + (v3 : Int32).toNatClampNeg ≤ gz h a1 ∧ (gI h a0 1 : Int32).toNatClampNeg + (v3 : Int32).toNatClampNeg ≤ gz h b7) <|
          ck_then (wC h a1 (v2 : Int32).toNatClampNeg b7 (gI h a0 1 : Int32).toNatClampNeg (v3 : Int32).toNatClampNeg) fun h10 =>
          ck_then (wI h10 a0 1 ((gI h10 a0 1) + v3)) fun h12 =>
          some ((), h12)
set_option maxRecDepth 100000 in
set_option maxHeartbeats 4000000 in
theorem s_Rw_addAll {F : Nat} {a0 : Nat} {a1 : Nat} {v2 : Int32} {v3 : Int32} {h h' : ck_H} {r : Unit} (e : f_Rw_addAll F a0 a1 v2 v3 h = some (r, h')) : Go k_Rw_addAll 0 (ck_in [.ref a0, .ref a1, .int v2, .int v3] 4) [] h (none, h') := by
  unfold f_Rw_addAll at e
  show Go k_Rw_addAll 0 [some (.ref a0), some (.ref a1), some (.int v2), some (.int v3)] [] h _
  refine go_iload_n rfl rfl ?_
  refine go_if_lt (t := 28) rfl rfl (fun hx_1 => ?_) (fun hx_1 => ?_)
  · rw [if_pos hx_1] at e
    cases e
    exact go_ret rfl rfl
  · rw [if_neg hx_1] at e
    refine go_iload_n rfl rfl ?_
    refine go_sipush (v := 1200) rfl (by decide) ?_
    refine go_aload_n rfl rfl ?_
    replace e := ck_as_e e
    obtain ⟨hk_2, e⟩ := e
    refine go_get (v := .int (gI h a0 1)) rfl rfl hk_2 (by decide) rfl ?_
    refine go_isub rfl ?_
    refine go_icmp_gt (t := 28) rfl rfl (fun hx_3 => ?_) (fun hx_3 => ?_)
    · rw [if_pos hx_3] at e
      cases e
      exact go_ret rfl rfl
    · rw [if_neg hx_3] at e
      refine go_iload_n rfl rfl ?_
      refine go_if_lt (t := 28) rfl rfl (fun hx_4 => ?_) (fun hx_4 => ?_)
      · rw [if_pos hx_4] at e
        cases e
        exact go_ret rfl rfl
      · rw [if_neg hx_4] at e
        refine go_iload_n rfl rfl ?_
        refine go_aload_n rfl rfl ?_
        replace e := ck_as_e e
        obtain ⟨hc_5, e⟩ := e
        refine go_alen rfl hc_5 ?_
        refine go_iload_n rfl rfl ?_
        refine go_isub rfl ?_
        refine go_icmp_le (t := 29) rfl rfl (fun hx_6 => ?_) (fun hx_6 => ?_)
        · rw [if_pos hx_6] at e
          cases e
          exact go_ret rfl rfl
        · rw [if_neg hx_6] at e
          refine go_aload_n rfl rfl ?_
          refine go_iload_n rfl rfl ?_
          refine go_aload_n rfl rfl ?_
          replace e := ck_some_e e
          obtain ⟨b7, hq_8, e⟩ := e
          refine go_get (v := .ref b7) rfl rfl hk_2 (by decide) (by show va_rf (gR h a0 0) = _; rw [hq_8]; rfl) ?_
          refine go_aload_n rfl rfl ?_
          refine go_get (v := .int (gI h a0 1)) rfl rfl hk_2 (by decide) rfl ?_
          refine go_iload_n rfl rfl ?_
          replace e := ck_as_e e
          obtain ⟨hc_9, e⟩ := e
          refine go_copy rfl rfl ⟨Nat.le_of_ble_eq_true rfl, Nat.le_of_ble_eq_true rfl⟩ hc_9 ?_
          have hk_11 : gk (wC h a1 (v2 : Int32).toNatClampNeg b7 (gI h a0 1 : Int32).toNatClampNeg (v3 : Int32).toNatClampNeg) a0 = 6 := ck_kC.trans hk_2
          generalize wC h a1 (v2 : Int32).toNatClampNeg b7 (gI h a0 1 : Int32).toNatClampNeg (v3 : Int32).toNatClampNeg = h10 at e hk_11 ⊢
          replace e := ck_then_e e
          refine go_aload_n rfl rfl ?_
          refine go_dup rfl rfl ?_
          refine go_get (v := .int (gI h10 a0 1)) rfl rfl hk_11 (by decide) rfl ?_
          refine go_iload_n rfl rfl ?_
          refine go_iadd rfl ?_
          refine go_put (h1 := wI h10 a0 1 ((gI h10 a0 1) + v3)) rfl rfl hk_11 ⟨by decide, by decide, Or.inl rfl⟩ rfl ?_
          have hk_13 : gk (wI h10 a0 1 ((gI h10 a0 1) + v3)) a0 = 6 := ck_kI.trans hk_11
          generalize wI h10 a0 1 ((gI h10 a0 1) + v3) = h12 at e hk_13 ⊢
          replace e := ck_then_e e
          cases e
          exact go_ret rfl rfl
def f_Vo_writeEntry_J118 (F : Nat)  (a0 : Nat) (a1 : Nat) (v2 : Int32) (h : ck_H) : Option (Unit × ck_H) :=
  ck_as (gk h a0 = 10) <|
  ck_some (gR h a0 5) fun b2 =>
  ck_as (gk h b2 = 6) <|
  ck_as (gk h a1 = 8) <|
  ck_bd (f_Tr_append F a1 0 0 (v2 + 1) 8 ((gI h b2 1) - 8) h) fun r6 h7 =>
  ck_as (gk h7 a0 = 10) <|
  ck_some (gR h7 a0 5) fun b10 =>
  ck_as (gk h7 b10 = 6) <|
  ck_some (gR h7 b10 0) fun b13 =>
  ck_some (gR h7 a0 5) fun b15 =>
  ck_as (gk h7 b15 = 6) <|
  ck_as (gk h7 a1 = 8) <|
  ck_bd (f_Tr_store F a1 r6 0 b13 0 (gI h7 b15 1) h7) fun _ h20 =>
  some ((), h20)
set_option maxRecDepth 100000 in
set_option maxHeartbeats 4000000 in
theorem f_Vo_writeEntry_J118_s (F : Nat)   (a0 : Nat) (a1 : Nat) (v2 : Int32) (h : ck_H) (r : Unit) (h' : ck_H) (e : f_Vo_writeEntry_J118 F  a0 a1 v2 h = some (r, h')) : Go k_Vo_writeEntry 118 [some (.ref a0), some (.ref a1), some (.int v2), none, none] [] h (none, h') := by
  unfold f_Vo_writeEntry_J118 at e
  refine go_aload_n rfl rfl ?_
  refine go_iconst (v := 0) rfl (by decide) ?_
  refine go_iconst (v := 0) rfl (by decide) ?_
  refine go_iload_n rfl rfl ?_
  refine go_iconst (v := 1) rfl (by decide) ?_
  refine go_iadd rfl ?_
  refine go_bipush (v := 8) rfl (by decide) ?_
  refine go_aload_n rfl rfl ?_
  replace e := ck_as_e e
  obtain ⟨hk_1, e⟩ := e
  replace e := ck_some_e e
  obtain ⟨b2, hq_3, e⟩ := e
  refine go_get (v := .ref b2) rfl rfl hk_1 (by decide) (by show va_rf (gR h a0 5) = _; rw [hq_3]; rfl) ?_
  replace e := ck_as_e e
  obtain ⟨hk_4, e⟩ := e
  refine go_get (v := .int (gI h b2 1)) rfl rfl hk_4 (by decide) rfl ?_
  refine go_bipush (v := 8) rfl (by decide) ?_
  refine go_isub rfl ?_
  replace e := ck_as_e e
  obtain ⟨hk_5, e⟩ := e
  replace e := ck_bd_e e
  obtain ⟨r6, h7, e8, e⟩ := e
  refine go_callV (As := [.int 0, .int 0, .int (v2 + 1), .int 8, .int ((gI h b2 1) - 8)]) (b0 := a1) (rest := []) rfl rfl ⟨hk_5, by decide⟩ rfl ⟨Nat.le_of_ble_eq_true rfl, Nat.le_of_ble_eq_true rfl, Nat.le_of_ble_eq_true rfl, Nat.le_of_ble_eq_true rfl⟩ (s_Tr_append e8) ?_
  show Go k_Vo_writeEntry 139 [some (.ref a0), some (.ref a1), some (.int v2), none, none] [.int r6] h7 _
  refine go_istore rfl rfl ?_
  show Go k_Vo_writeEntry 141 [some (.ref a0), some (.ref a1), some (.int v2), none, some (.int r6)] [] h7 _
  refine go_aload_n rfl rfl ?_
  refine go_iload rfl rfl ?_
  refine go_iconst (v := 0) rfl (by decide) ?_
  refine go_aload_n rfl rfl ?_
  replace e := ck_as_e e
  obtain ⟨hk_9, e⟩ := e
  replace e := ck_some_e e
  obtain ⟨b10, hq_11, e⟩ := e
  refine go_get (v := .ref b10) rfl rfl hk_9 (by decide) (by show va_rf (gR h7 a0 5) = _; rw [hq_11]; rfl) ?_
  replace e := ck_as_e e
  obtain ⟨hk_12, e⟩ := e
  replace e := ck_some_e e
  obtain ⟨b13, hq_14, e⟩ := e
  refine go_get (v := .ref b13) rfl rfl hk_12 (by decide) (by show va_rf (gR h7 b10 0) = _; rw [hq_14]; rfl) ?_
  refine go_iconst (v := 0) rfl (by decide) ?_
  refine go_aload_n rfl rfl ?_
  replace e := ck_some_e e
  obtain ⟨b15, hq_16, e⟩ := e
  refine go_get (v := .ref b15) rfl rfl hk_9 (by decide) (by show va_rf (gR h7 a0 5) = _; rw [hq_16]; rfl) ?_
  replace e := ck_as_e e
  obtain ⟨hk_17, e⟩ := e
  refine go_get (v := .int (gI h7 b15 1)) rfl rfl hk_17 (by decide) rfl ?_
  replace e := ck_as_e e
  obtain ⟨hk_18, e⟩ := e
  replace e := ck_bd_e e
  obtain ⟨r19, h20, e21, e⟩ := e
  refine go_callV (As := [.int r6, .int 0, .ref b13, .int 0, .int (gI h7 b15 1)]) (b0 := a1) (rest := []) rfl rfl ⟨hk_18, by decide⟩ rfl ⟨Nat.le_of_ble_eq_true rfl, Nat.le_of_ble_eq_true rfl, Nat.le_of_ble_eq_true rfl, Nat.le_of_ble_eq_true rfl⟩ (s_Tr_store e21) ?_
  show Go k_Vo_writeEntry 163 [some (.ref a0), some (.ref a1), some (.int v2), none, some (.int r6)] [] h20 _
  cases e
  exact go_ret rfl rfl
def f_Vo_writeEntry_L69 (F : Nat)  : Nat → Nat → Nat → Int32 → Nat → Int32 → ck_H → Option (Unit × ck_H)
  | 0, _, _, _, _, _, _ => none
  | n + 1, a0, a1, v2, a3, v4, h =>
    ck_as (gk h a3 = 2) <|
    if v4 < (gI h a3 9) then
      if v4 < (4 : Int32) then
        ck_as (gk h a0 = 10) <|
        ck_some (gR h a0 5) fun b5 =>
        ck_some (gR h a3 2) fun b7 =>
        ck_as ((gk h b7 = 14 ∨ gk h b7 = 21) ∧ ¬ v4 < 0 ∧ (v4 : Int32).toNatClampNeg < gz h b7) <|
        ck_as (gk h b5 = 6) <|
        ck_bd (f_Rw_addByte F b5 (gI h b7 (v4 : Int32).toNatClampNeg) h) fun _ h12 =>
        ck_as (gk h12 a0 = 10) <|
        ck_some (gR h12 a0 5) fun b15 =>
        ck_as (gk h12 a3 = 2) <|
        ck_some (gR h12 a3 3) fun b18 =>
        ck_as ((gk h12 b18 = 14 ∨ gk h12 b18 = 21) ∧ ¬ v4 < 0 ∧ (v4 : Int32).toNatClampNeg < gz h12 b18) <|
        ck_as (gk h12 b15 = 6) <|
        ck_bd (f_Rw_addByte F b15 (gI h12 b18 (v4 : Int32).toNatClampNeg) h12) fun _ h23 =>
        f_Vo_writeEntry_L69 F n a0 a1 v2 a3 (v4 + 1) h23
      else
        f_Vo_writeEntry_J118 F a0 a1 v2 h
    else
      f_Vo_writeEntry_J118 F a0 a1 v2 h
set_option maxRecDepth 100000 in
set_option maxHeartbeats 4000000 in
theorem f_Vo_writeEntry_L69_s (F : Nat)   : ∀ (n : Nat) (a0 : Nat) (a1 : Nat) (v2 : Int32) (a3 : Nat) (v4 : Int32) (h : ck_H) (r : Unit) (h' : ck_H), f_Vo_writeEntry_L69 F n a0 a1 v2 a3 v4 h = some (r, h') → Go k_Vo_writeEntry 69 [some (.ref a0), some (.ref a1), some (.int v2), some (.ref a3), some (.int v4)] [] h (none, h') := by
  intro n
  induction n with
  | zero => intro a0 a1 v2 a3 v4 h r h' e; simp only [f_Vo_writeEntry_L69] at e; cases e
  | succ n ih =>
    intro a0 a1 v2 a3 v4 h r h' e
    rw [f_Vo_writeEntry_L69] at e
    refine go_iload rfl rfl ?_
    refine go_aload_n rfl rfl ?_
    replace e := ck_as_e e
    obtain ⟨hk_1, e⟩ := e
    refine go_get (v := .int (gI h a3 9)) rfl rfl hk_1 (by decide) rfl ?_
    refine go_icmp_ge (t := 118) rfl rfl (fun hx_2 => ?_) (fun hx_2 => ?_)
    · rw [if_pos hx_2] at e
      refine go_iload rfl rfl ?_
      refine go_iconst (v := 4) rfl (by decide) ?_
      refine go_icmp_ge (t := 118) rfl rfl (fun hx_3 => ?_) (fun hx_3 => ?_)
      · rw [if_pos hx_3] at e
        refine go_aload_n rfl rfl ?_
        replace e := ck_as_e e
        obtain ⟨hk_4, e⟩ := e
        replace e := ck_some_e e
        obtain ⟨b5, hq_6, e⟩ := e
        refine go_get (v := .ref b5) rfl rfl hk_4 (by decide) (by show va_rf (gR h a0 5) = _; rw [hq_6]; rfl) ?_
        refine go_aload_n rfl rfl ?_
        replace e := ck_some_e e
        obtain ⟨b7, hq_8, e⟩ := e
        refine go_get (v := .ref b7) rfl rfl hk_1 (by decide) (by show va_rf (gR h a3 2) = _; rw [hq_8]; rfl) ?_
        refine go_iload rfl rfl ?_
        replace e := ck_as_e e
        obtain ⟨hc_9, e⟩ := e
        refine go_iald rfl hc_9 ?_
        replace e := ck_as_e e
        obtain ⟨hk_10, e⟩ := e
        replace e := ck_bd_e e
        obtain ⟨r11, h12, e13, e⟩ := e
        refine go_callV (As := [.int (gI h b7 (v4 : Int32).toNatClampNeg)]) (b0 := b5) (rest := []) rfl rfl ⟨hk_10, by decide⟩ rfl ⟨Nat.le_of_ble_eq_true rfl, Nat.le_of_ble_eq_true rfl, Nat.le_of_ble_eq_true rfl, Nat.le_of_ble_eq_true rfl⟩ (s_Rw_addByte e13) ?_
        show Go k_Vo_writeEntry 98 [some (.ref a0), some (.ref a1), some (.int v2), some (.ref a3), some (.int v4)] [] h12 _
        refine go_aload_n rfl rfl ?_
        replace e := ck_as_e e
        obtain ⟨hk_14, e⟩ := e
        replace e := ck_some_e e
        obtain ⟨b15, hq_16, e⟩ := e
        refine go_get (v := .ref b15) rfl rfl hk_14 (by decide) (by show va_rf (gR h12 a0 5) = _; rw [hq_16]; rfl) ?_
        refine go_aload_n rfl rfl ?_
        replace e := ck_as_e e
        obtain ⟨hk_17, e⟩ := e
        replace e := ck_some_e e
        obtain ⟨b18, hq_19, e⟩ := e
        refine go_get (v := .ref b18) rfl rfl hk_17 (by decide) (by show va_rf (gR h12 a3 3) = _; rw [hq_19]; rfl) ?_
        refine go_iload rfl rfl ?_
        replace e := ck_as_e e
        obtain ⟨hc_20, e⟩ := e
        refine go_iald rfl hc_20 ?_
        replace e := ck_as_e e
        obtain ⟨hk_21, e⟩ := e
        replace e := ck_bd_e e
        obtain ⟨r22, h23, e24, e⟩ := e
        refine go_callV (As := [.int (gI h12 b18 (v4 : Int32).toNatClampNeg)]) (b0 := b15) (rest := []) rfl rfl ⟨hk_21, by decide⟩ rfl ⟨Nat.le_of_ble_eq_true rfl, Nat.le_of_ble_eq_true rfl, Nat.le_of_ble_eq_true rfl, Nat.le_of_ble_eq_true rfl⟩ (s_Rw_addByte e24) ?_
        show Go k_Vo_writeEntry 112 [some (.ref a0), some (.ref a1), some (.int v2), some (.ref a3), some (.int v4)] [] h23 _
        refine go_iinc (v := 1) rfl rfl (by decide) rfl ?_
        show Go k_Vo_writeEntry 115 [some (.ref a0), some (.ref a1), some (.int v2), some (.ref a3), some (.int (v4 + 1))] [] h23 _
        refine go_goto (t := 69) rfl rfl ?_
        refine go_forget (l := [some (.ref a0), some (.ref a1), some (.int v2), some (.ref a3), some (.int (v4 + 1))]) ⟨Or.inl rfl, Or.inl rfl, Or.inl rfl, Or.inl rfl, Or.inl rfl, trivial⟩ ?_
        exact ih _ _ _ _ _ _ _ _ e
      · rw [if_neg hx_3] at e
        refine go_forget (l := [some (.ref a0), some (.ref a1), some (.int v2), none, none]) ⟨Or.inl rfl, Or.inl rfl, Or.inl rfl, Or.inr ⟨rfl, fun _ q => by cases q; rfl⟩, Or.inr ⟨rfl, fun _ q => by cases q; rfl⟩, trivial⟩ ?_
        exact f_Vo_writeEntry_J118_s F a0 a1 v2 _ _ _ e
    · rw [if_neg hx_2] at e
      refine go_forget (l := [some (.ref a0), some (.ref a1), some (.int v2), none, none]) ⟨Or.inl rfl, Or.inl rfl, Or.inl rfl, Or.inr ⟨rfl, fun _ q => by cases q; rfl⟩, Or.inr ⟨rfl, fun _ q => by cases q; rfl⟩, trivial⟩ ?_
      exact f_Vo_writeEntry_J118_s F a0 a1 v2 _ _ _ e
def f_Vo_writeEntry (F : Nat) (a0 : Nat) (a1 : Nat) (v2 : Int32) (a3 : Nat) (h : ck_H) : Option (Unit × ck_H) :=
  ck_as (gk h a0 = 10) <|
  ck_some (gR h a0 5) fun b2 =>
  ck_as (gk h b2 = 6) <|
  ck_then (wI h b2 1 0) fun h5 =>
  ck_some (gR h5 a0 5) fun b8 =>
  ck_as (gk h5 a3 = 2) <|
  ck_some (gR h5 a3 1) fun b11 =>
  ck_as (gk h5 b8 = 6) <|
  ck_bd (f_Rw_addAll F b8 b11 0 8 h5) fun _ h15 =>
  ck_as (gk h15 a0 = 10) <|
  ck_some (gR h15 a0 5) fun b18 =>
  ck_as (gk h15 a3 = 2) <|
  ck_as (gk h15 b18 = 6) <|
  ck_bd (f_Rw_addByte F b18 (gI h15 a3 6) h15) fun _ h23 =>
  ck_as (gk h23 a0 = 10) <|
  ck_some (gR h23 a0 5) fun b26 =>
  ck_as (gk h23 a3 = 2) <|
  ck_as (gk h23 b26 = 6) <|
  ck_bd (f_Rw_addPair F b26 (gI h23 a3 7) h23) fun _ h31 =>
  ck_as (gk h31 a0 = 10) <|
  ck_some (gR h31 a0 5) fun b34 =>
  ck_as (gk h31 a3 = 2) <|
  ck_as (gk h31 b34 = 6) <|
  ck_bd (f_Rw_addPair F b34 (gI h31 a3 8) h31) fun _ h39 =>
  ck_as (gk h39 a0 = 10) <|
  ck_some (gR h39 a0 5) fun b42 =>
  ck_as (gk h39 a3 = 2) <|
  ck_as (gk h39 b42 = 6) <|
  ck_bd (f_Rw_addByte F b42 (gI h39 a3 9) h39) fun _ h47 =>
  f_Vo_writeEntry_L69 F F a0 a1 v2 a3 0 h47
set_option maxRecDepth 100000 in
set_option maxHeartbeats 4000000 in
theorem s_Vo_writeEntry {F : Nat} {a0 : Nat} {a1 : Nat} {v2 : Int32} {a3 : Nat} {h h' : ck_H} {r : Unit} (e : f_Vo_writeEntry F a0 a1 v2 a3 h = some (r, h')) : Go k_Vo_writeEntry 0 (ck_in [.ref a0, .ref a1, .int v2, .ref a3] 5) [] h (none, h') := by
  unfold f_Vo_writeEntry at e
  show Go k_Vo_writeEntry 0 [some (.ref a0), some (.ref a1), some (.int v2), some (.ref a3), none] [] h _
  refine go_aload_n rfl rfl ?_
  replace e := ck_as_e e
  obtain ⟨hk_1, e⟩ := e
  replace e := ck_some_e e
  obtain ⟨b2, hq_3, e⟩ := e
  refine go_get (v := .ref b2) rfl rfl hk_1 (by decide) (by show va_rf (gR h a0 5) = _; rw [hq_3]; rfl) ?_
  refine go_iconst (v := 0) rfl (by decide) ?_
  replace e := ck_as_e e
  obtain ⟨hk_4, e⟩ := e
  refine go_put (h1 := wI h b2 1 0) rfl rfl hk_4 ⟨by decide, by decide, Or.inl rfl⟩ rfl ?_
  have hk_6 : gk (wI h b2 1 0) a0 = 10 := ck_kI.trans hk_1
  have hk_7 : gk (wI h b2 1 0) b2 = 6 := ck_kI.trans hk_4
  generalize wI h b2 1 0 = h5 at e hk_6 hk_7 ⊢
  replace e := ck_then_e e
  refine go_aload_n rfl rfl ?_
  replace e := ck_some_e e
  obtain ⟨b8, hq_9, e⟩ := e
  refine go_get (v := .ref b8) rfl rfl hk_6 (by decide) (by show va_rf (gR h5 a0 5) = _; rw [hq_9]; rfl) ?_
  refine go_aload_n rfl rfl ?_
  replace e := ck_as_e e
  obtain ⟨hk_10, e⟩ := e
  replace e := ck_some_e e
  obtain ⟨b11, hq_12, e⟩ := e
  refine go_get (v := .ref b11) rfl rfl hk_10 (by decide) (by show va_rf (gR h5 a3 1) = _; rw [hq_12]; rfl) ?_
  refine go_iconst (v := 0) rfl (by decide) ?_
  refine go_bipush (v := 8) rfl (by decide) ?_
  replace e := ck_as_e e
  obtain ⟨hk_13, e⟩ := e
  replace e := ck_bd_e e
  obtain ⟨r14, h15, e16, e⟩ := e
  refine go_callV (As := [.ref b11, .int 0, .int 8]) (b0 := b8) (rest := []) rfl rfl ⟨hk_13, by decide⟩ rfl ⟨Nat.le_of_ble_eq_true rfl, Nat.le_of_ble_eq_true rfl, Nat.le_of_ble_eq_true rfl, Nat.le_of_ble_eq_true rfl⟩ (s_Rw_addAll e16) ?_
  show Go k_Vo_writeEntry 22 [some (.ref a0), some (.ref a1), some (.int v2), some (.ref a3), none] [] h15 _
  refine go_aload_n rfl rfl ?_
  replace e := ck_as_e e
  obtain ⟨hk_17, e⟩ := e
  replace e := ck_some_e e
  obtain ⟨b18, hq_19, e⟩ := e
  refine go_get (v := .ref b18) rfl rfl hk_17 (by decide) (by show va_rf (gR h15 a0 5) = _; rw [hq_19]; rfl) ?_
  refine go_aload_n rfl rfl ?_
  replace e := ck_as_e e
  obtain ⟨hk_20, e⟩ := e
  refine go_get (v := .int (gI h15 a3 6)) rfl rfl hk_20 (by decide) rfl ?_
  replace e := ck_as_e e
  obtain ⟨hk_21, e⟩ := e
  replace e := ck_bd_e e
  obtain ⟨r22, h23, e24, e⟩ := e
  refine go_callV (As := [.int (gI h15 a3 6)]) (b0 := b18) (rest := []) rfl rfl ⟨hk_21, by decide⟩ rfl ⟨Nat.le_of_ble_eq_true rfl, Nat.le_of_ble_eq_true rfl, Nat.le_of_ble_eq_true rfl, Nat.le_of_ble_eq_true rfl⟩ (s_Rw_addByte e24) ?_
  show Go k_Vo_writeEntry 33 [some (.ref a0), some (.ref a1), some (.int v2), some (.ref a3), none] [] h23 _
  refine go_aload_n rfl rfl ?_
  replace e := ck_as_e e
  obtain ⟨hk_25, e⟩ := e
  replace e := ck_some_e e
  obtain ⟨b26, hq_27, e⟩ := e
  refine go_get (v := .ref b26) rfl rfl hk_25 (by decide) (by show va_rf (gR h23 a0 5) = _; rw [hq_27]; rfl) ?_
  refine go_aload_n rfl rfl ?_
  replace e := ck_as_e e
  obtain ⟨hk_28, e⟩ := e
  refine go_get (v := .int (gI h23 a3 7)) rfl rfl hk_28 (by decide) rfl ?_
  replace e := ck_as_e e
  obtain ⟨hk_29, e⟩ := e
  replace e := ck_bd_e e
  obtain ⟨r30, h31, e32, e⟩ := e
  refine go_callV (As := [.int (gI h23 a3 7)]) (b0 := b26) (rest := []) rfl rfl ⟨hk_29, by decide⟩ rfl ⟨Nat.le_of_ble_eq_true rfl, Nat.le_of_ble_eq_true rfl, Nat.le_of_ble_eq_true rfl, Nat.le_of_ble_eq_true rfl⟩ (s_Rw_addPair e32) ?_
  show Go k_Vo_writeEntry 44 [some (.ref a0), some (.ref a1), some (.int v2), some (.ref a3), none] [] h31 _
  refine go_aload_n rfl rfl ?_
  replace e := ck_as_e e
  obtain ⟨hk_33, e⟩ := e
  replace e := ck_some_e e
  obtain ⟨b34, hq_35, e⟩ := e
  refine go_get (v := .ref b34) rfl rfl hk_33 (by decide) (by show va_rf (gR h31 a0 5) = _; rw [hq_35]; rfl) ?_
  refine go_aload_n rfl rfl ?_
  replace e := ck_as_e e
  obtain ⟨hk_36, e⟩ := e
  refine go_get (v := .int (gI h31 a3 8)) rfl rfl hk_36 (by decide) rfl ?_
  replace e := ck_as_e e
  obtain ⟨hk_37, e⟩ := e
  replace e := ck_bd_e e
  obtain ⟨r38, h39, e40, e⟩ := e
  refine go_callV (As := [.int (gI h31 a3 8)]) (b0 := b34) (rest := []) rfl rfl ⟨hk_37, by decide⟩ rfl ⟨Nat.le_of_ble_eq_true rfl, Nat.le_of_ble_eq_true rfl, Nat.le_of_ble_eq_true rfl, Nat.le_of_ble_eq_true rfl⟩ (s_Rw_addPair e40) ?_
  show Go k_Vo_writeEntry 55 [some (.ref a0), some (.ref a1), some (.int v2), some (.ref a3), none] [] h39 _
  refine go_aload_n rfl rfl ?_
  replace e := ck_as_e e
  obtain ⟨hk_41, e⟩ := e
  replace e := ck_some_e e
  obtain ⟨b42, hq_43, e⟩ := e
  refine go_get (v := .ref b42) rfl rfl hk_41 (by decide) (by show va_rf (gR h39 a0 5) = _; rw [hq_43]; rfl) ?_
  refine go_aload_n rfl rfl ?_
  replace e := ck_as_e e
  obtain ⟨hk_44, e⟩ := e
  refine go_get (v := .int (gI h39 a3 9)) rfl rfl hk_44 (by decide) rfl ?_
  replace e := ck_as_e e
  obtain ⟨hk_45, e⟩ := e
  replace e := ck_bd_e e
  obtain ⟨r46, h47, e48, e⟩ := e
  refine go_callV (As := [.int (gI h39 a3 9)]) (b0 := b42) (rest := []) rfl rfl ⟨hk_45, by decide⟩ rfl ⟨Nat.le_of_ble_eq_true rfl, Nat.le_of_ble_eq_true rfl, Nat.le_of_ble_eq_true rfl, Nat.le_of_ble_eq_true rfl⟩ (s_Rw_addByte e48) ?_
  show Go k_Vo_writeEntry 66 [some (.ref a0), some (.ref a1), some (.int v2), some (.ref a3), none] [] h47 _
  refine go_iconst (v := 0) rfl (by decide) ?_
  refine go_istore rfl rfl ?_
  show Go k_Vo_writeEntry 69 [some (.ref a0), some (.ref a1), some (.int v2), some (.ref a3), some (.int 0)] [] h47 _
  refine go_forget (l := [some (.ref a0), some (.ref a1), some (.int v2), some (.ref a3), some (.int 0)]) ⟨Or.inl rfl, Or.inl rfl, Or.inl rfl, Or.inl rfl, Or.inl rfl, trivial⟩ ?_
  exact f_Vo_writeEntry_L69_s F F _ _ _ _ _ _ _ _ e
def f_Vo_writeTable_L17 (F : Nat)  : Nat → Nat → Nat → Int32 → ck_H → Option (Unit × ck_H)
  | 0, _, _, _, _ => none
  | n + 1, a0, a1, v2, h =>
    if v2 < (10 : Int32) then
      ck_as (gk h a0 = 10) <|
      ck_some (gR h a0 1) fun b3 =>
      ck_as ((16 ≤ gk h b3 ∧ gk h b3 ≤ 20) ∧ ¬ v2 < 0 ∧ (v2 : Int32).toNatClampNeg < gz h b3) <|
      ck_some (gR h b3 (v2 : Int32).toNatClampNeg) fun b6 =>
      ck_as (gk h b6 = 2) <|
      if (gI h b6 5) = (0 : Int32) then
        f_Vo_writeTable_L17 F n a0 a1 (v2 + 1) h
      else
        ck_some (gR h a0 1) fun b10 =>
        ck_as ((16 ≤ gk h b10 ∧ gk h b10 ≤ 20) ∧ ¬ v2 < 0 ∧ (v2 : Int32).toNatClampNeg < gz h b10) <|
        ck_some (gR h b10 (v2 : Int32).toNatClampNeg) fun b13 =>
        ck_bd (f_Vo_writeEntry F a0 a1 v2 b13 h) fun _ h16 =>
        f_Vo_writeTable_L17 F n a0 a1 (v2 + 1) h16
    else
      some ((), h)
set_option maxRecDepth 100000 in
set_option maxHeartbeats 4000000 in
theorem f_Vo_writeTable_L17_s (F : Nat)   : ∀ (n : Nat) (a0 : Nat) (a1 : Nat) (v2 : Int32) (h : ck_H) (r : Unit) (h' : ck_H), f_Vo_writeTable_L17 F n a0 a1 v2 h = some (r, h') → Go k_Vo_writeTable 17 [some (.ref a0), some (.ref a1), some (.int v2)] [] h (none, h') := by
  intro n
  induction n with
  | zero => intro a0 a1 v2 h r h' e; simp only [f_Vo_writeTable_L17] at e; cases e
  | succ n ih =>
    intro a0 a1 v2 h r h' e
    rw [f_Vo_writeTable_L17] at e
    refine go_iload_n rfl rfl ?_
    refine go_bipush (v := 10) rfl (by decide) ?_
    refine go_icmp_ge (t := 53) rfl rfl (fun hx_1 => ?_) (fun hx_1 => ?_)
    · rw [if_pos hx_1] at e
      refine go_aload_n rfl rfl ?_
      replace e := ck_as_e e
      obtain ⟨hk_2, e⟩ := e
      replace e := ck_some_e e
      obtain ⟨b3, hq_4, e⟩ := e
      refine go_get (v := .ref b3) rfl rfl hk_2 (by decide) (by show va_rf (gR h a0 1) = _; rw [hq_4]; rfl) ?_
      refine go_iload_n rfl rfl ?_
      replace e := ck_as_e e
      obtain ⟨hc_5, e⟩ := e
      replace e := ck_some_e e
      obtain ⟨b6, hq_7, e⟩ := e
      refine go_aald (v := .ref b6) rfl hc_5 (by rw [hq_7]; rfl) ?_
      replace e := ck_as_e e
      obtain ⟨hk_8, e⟩ := e
      refine go_get (v := .int (gI h b6 5)) rfl rfl hk_8 (by decide) rfl ?_
      refine go_if_eq (t := 47) rfl rfl (fun hx_9 => ?_) (fun hx_9 => ?_)
      · rw [if_pos hx_9] at e
        refine go_iinc (v := 1) rfl rfl (by decide) rfl ?_
        show Go k_Vo_writeTable 50 [some (.ref a0), some (.ref a1), some (.int (v2 + 1))] [] h _
        refine go_goto (t := 17) rfl rfl ?_
        refine go_forget (l := [some (.ref a0), some (.ref a1), some (.int (v2 + 1))]) ⟨Or.inl rfl, Or.inl rfl, Or.inl rfl, trivial⟩ ?_
        exact ih _ _ _ _ _ _ e
      · rw [if_neg hx_9] at e
        refine go_aload_n rfl rfl ?_
        refine go_aload_n rfl rfl ?_
        refine go_iload_n rfl rfl ?_
        refine go_aload_n rfl rfl ?_
        replace e := ck_some_e e
        obtain ⟨b10, hq_11, e⟩ := e
        refine go_get (v := .ref b10) rfl rfl hk_2 (by decide) (by show va_rf (gR h a0 1) = _; rw [hq_11]; rfl) ?_
        refine go_iload_n rfl rfl ?_
        replace e := ck_as_e e
        obtain ⟨hc_12, e⟩ := e
        replace e := ck_some_e e
        obtain ⟨b13, hq_14, e⟩ := e
        refine go_aald (v := .ref b13) rfl hc_12 (by rw [hq_14]; rfl) ?_
        replace e := ck_bd_e e
        obtain ⟨r15, h16, e17, e⟩ := e
        refine go_callV (As := [.ref a1, .int v2, .ref b13]) (b0 := a0) (rest := []) rfl rfl ⟨hk_2, by decide⟩ rfl ⟨Nat.le_of_ble_eq_true rfl, Nat.le_of_ble_eq_true rfl, Nat.le_of_ble_eq_true rfl, Nat.le_of_ble_eq_true rfl⟩ (s_Vo_writeEntry e17) ?_
        show Go k_Vo_writeTable 47 [some (.ref a0), some (.ref a1), some (.int v2)] [] h16 _
        refine go_iinc (v := 1) rfl rfl (by decide) rfl ?_
        show Go k_Vo_writeTable 50 [some (.ref a0), some (.ref a1), some (.int (v2 + 1))] [] h16 _
        refine go_goto (t := 17) rfl rfl ?_
        refine go_forget (l := [some (.ref a0), some (.ref a1), some (.int (v2 + 1))]) ⟨Or.inl rfl, Or.inl rfl, Or.inl rfl, trivial⟩ ?_
        exact ih _ _ _ _ _ _ e
    · rw [if_neg hx_1] at e
      cases e
      exact go_ret rfl rfl
def f_Vo_writeTable (F : Nat) (a0 : Nat) (h : ck_H) : Option (Unit × ck_H) :=
  ck_as (gk h a0 = 10) <|
  ck_some (gR h a0 0) fun b2 =>
  ck_as (gk h b2 = 9) <|
  ck_some (gR h b2 0) fun b5 =>
  ck_as ((16 ≤ gk h b5 ∧ gk h b5 ≤ 20) ∧ ¬ (0 : Int32) < 0 ∧ (0 : Int32).toNatClampNeg < gz h b5) <|
  ck_opt (gR h b5 (0 : Int32).toNatClampNeg) (
    none
  ) fun b9 =>
  ck_as (gk h b9 = 8) <|
  ck_bd (f_Tr_keepFirst F b9 0 h) fun _ h12 =>
  f_Vo_writeTable_L17 F F a0 b9 0 h12
set_option maxRecDepth 100000 in
set_option maxHeartbeats 4000000 in
theorem s_Vo_writeTable {F : Nat} {a0 : Nat} {h h' : ck_H} {r : Unit} (e : f_Vo_writeTable F a0 h = some (r, h')) : Go k_Vo_writeTable 0 (ck_in [.ref a0] 3) [] h (none, h') := by
  unfold f_Vo_writeTable at e
  show Go k_Vo_writeTable 0 [some (.ref a0), none, none] [] h _
  refine go_aload_n rfl rfl ?_
  replace e := ck_as_e e
  obtain ⟨hk_1, e⟩ := e
  replace e := ck_some_e e
  obtain ⟨b2, hq_3, e⟩ := e
  refine go_get (v := .ref b2) rfl rfl hk_1 (by decide) (by show va_rf (gR h a0 0) = _; rw [hq_3]; rfl) ?_
  replace e := ck_as_e e
  obtain ⟨hk_4, e⟩ := e
  replace e := ck_some_e e
  obtain ⟨b5, hq_6, e⟩ := e
  refine go_get (v := .ref b5) rfl rfl hk_4 (by decide) (by show va_rf (gR h b2 0) = _; rw [hq_6]; rfl) ?_
  refine go_iconst (v := 0) rfl (by decide) ?_
  replace e := ck_as_e e
  obtain ⟨hc_7, e⟩ := e
  replace e := ck_opt_e e
  rcases e with ⟨hq_8, e⟩ | ⟨b9, hq_8, e⟩
  · refine go_aald (v := .null) rfl hc_7 (by rw [hq_8]; rfl) ?_
    refine go_astore_nN rfl rfl ?_
    show Go k_Vo_writeTable 10 [some (.ref a0), some .null, none] [] h _
    refine go_aload_nN rfl rfl ?_
    refine go_iconst (v := 0) rfl (by decide) ?_
    cases e
  refine go_aald (v := .ref b9) rfl hc_7 (by rw [hq_8]; rfl) ?_
  refine go_astore_n rfl rfl ?_
  show Go k_Vo_writeTable 10 [some (.ref a0), some (.ref b9), none] [] h _
  refine go_aload_n rfl rfl ?_
  refine go_iconst (v := 0) rfl (by decide) ?_
  replace e := ck_as_e e
  obtain ⟨hk_10, e⟩ := e
  replace e := ck_bd_e e
  obtain ⟨r11, h12, e13, e⟩ := e
  refine go_callV (As := [.int 0]) (b0 := b9) (rest := []) rfl rfl ⟨hk_10, by decide⟩ rfl ⟨Nat.le_of_ble_eq_true rfl, Nat.le_of_ble_eq_true rfl, Nat.le_of_ble_eq_true rfl, Nat.le_of_ble_eq_true rfl⟩ (s_Tr_keepFirst e13) ?_
  show Go k_Vo_writeTable 15 [some (.ref a0), some (.ref b9), none] [] h12 _
  refine go_iconst (v := 0) rfl (by decide) ?_
  refine go_istore_n rfl rfl ?_
  show Go k_Vo_writeTable 17 [some (.ref a0), some (.ref b9), some (.int 0)] [] h12 _
  refine go_forget (l := [some (.ref a0), some (.ref b9), some (.int 0)]) ⟨Or.inl rfl, Or.inl rfl, Or.inl rfl, trivial⟩ ?_
  exact f_Vo_writeTable_L17_s F F _ _ _ _ _ _ e
def f_Vo_create (F : Nat) (a0 : Nat) (v1 : Int32) (a2 : Nat) (v3 : Int32) (v4 : Int32) (v5 : Int32) (h : ck_H) : Option (Unit × ck_H) :=
  if v1 < (0 : Int32) then
    some ((), h)
  else
    if v1 < (10 : Int32) then
      ck_as (13 ≤ gk h a2 ∧ gk h a2 ≤ 21) <|
      if (Int32.ofNat (gz h a2)) < (8 : Int32) then
        some ((), h)
      else
        ck_as (gk h a0 = 10) <|
        ck_some (gR h a0 1) fun b6 =>
        ck_as ((16 ≤ gk h b6 ∧ gk h b6 ≤ 20) ∧ ¬ v1 < 0 ∧ (v1 : Int32).toNatClampNeg < gz h b6) <|
        ck_opt (gR h b6 (v1 : Int32).toNatClampNeg) (
          none
        ) fun b10 =>
        ck_as (gk h b10 = 2) <|
        ck_some (gR h b10 1) fun b12 =>
        ck_as (gk h a2 = gk h b12 ∧ (gk h b12 = 13 ∨ gk h b12 = 14) ∧ ¬ (0 : Int32) < 0 ∧ ¬ (0 : Int32) < 0 ∧ ¬ (8 : Int32) < 0 ∧ (0 : Int32).toNatClampNeg + (8 : Int32).toNatClampNeg ≤ gz h a2 ∧ (0 : Int32).toNatClampNeg + (8 : Int32).toNatClampNeg ≤ gz h b12) <|
        ck_then (wC h a2 (0 : Int32).toNatClampNeg b12 (0 : Int32).toNatClampNeg (8 : Int32).toNatClampNeg) fun h15 =>
        ck_then (wI h15 b10 5 1) fun h18 =>
        ck_then (wI h18 b10 6 v3) fun h21 =>
        ck_then (wI h21 b10 7 v4) fun h24 =>
        ck_then (wI h24 b10 8 v5) fun h27 =>
        ck_then (wI h27 b10 9 0) fun h30 =>
        ck_some (gR h30 b10 4) fun b33 =>
        ck_as (gk h30 b33 = 4) <|
        ck_then (wI h30 b33 4 0) fun h36 =>
        ck_bd (f_Vo_giveRuns F a0 b10 h36) fun _ h41 =>
        ck_as (gk h41 a0 = 10) <|
        ck_bd (f_Vo_writeTable F a0 h41) fun _ h45 =>
        some ((), h45)
    else
      some ((), h)
set_option maxRecDepth 100000 in
set_option maxHeartbeats 4000000 in
theorem s_Vo_create {F : Nat} {a0 : Nat} {v1 : Int32} {a2 : Nat} {v3 : Int32} {v4 : Int32} {v5 : Int32} {h h' : ck_H} {r : Unit} (e : f_Vo_create F a0 v1 a2 v3 v4 v5 h = some (r, h')) : Go k_Vo_create 0 (ck_in [.ref a0, .int v1, .ref a2, .int v3, .int v4, .int v5] 7) [] h (none, h') := by
  unfold f_Vo_create at e
  show Go k_Vo_create 0 [some (.ref a0), some (.int v1), some (.ref a2), some (.int v3), some (.int v4), some (.int v5), none] [] h _
  refine go_iload_n rfl rfl ?_
  refine go_if_lt (t := 17) rfl rfl (fun hx_1 => ?_) (fun hx_1 => ?_)
  · rw [if_pos hx_1] at e
    cases e
    exact go_ret rfl rfl
  · rw [if_neg hx_1] at e
    refine go_iload_n rfl rfl ?_
    refine go_bipush (v := 10) rfl (by decide) ?_
    refine go_icmp_ge (t := 17) rfl rfl (fun hx_2 => ?_) (fun hx_2 => ?_)
    · rw [if_pos hx_2] at e
      refine go_aload_n rfl rfl ?_
      replace e := ck_as_e e
      obtain ⟨hc_3, e⟩ := e
      refine go_alen rfl hc_3 ?_
      refine go_bipush (v := 8) rfl (by decide) ?_
      refine go_icmp_ge (t := 18) rfl rfl (fun hx_4 => ?_) (fun hx_4 => ?_)
      · rw [if_pos hx_4] at e
        cases e
        exact go_ret rfl rfl
      · rw [if_neg hx_4] at e
        refine go_aload_n rfl rfl ?_
        replace e := ck_as_e e
        obtain ⟨hk_5, e⟩ := e
        replace e := ck_some_e e
        obtain ⟨b6, hq_7, e⟩ := e
        refine go_get (v := .ref b6) rfl rfl hk_5 (by decide) (by show va_rf (gR h a0 1) = _; rw [hq_7]; rfl) ?_
        refine go_iload_n rfl rfl ?_
        replace e := ck_as_e e
        obtain ⟨hc_8, e⟩ := e
        replace e := ck_opt_e e
        rcases e with ⟨hq_9, e⟩ | ⟨b10, hq_9, e⟩
        · refine go_aald (v := .null) rfl hc_8 (by rw [hq_9]; rfl) ?_
          refine go_astoreN rfl rfl ?_
          show Go k_Vo_create 26 [some (.ref a0), some (.int v1), some (.ref a2), some (.int v3), some (.int v4), some (.int v5), some .null] [] h _
          refine go_aload_n rfl rfl ?_
          refine go_iconst (v := 0) rfl (by decide) ?_
          refine go_aloadN rfl rfl ?_
          cases e
        refine go_aald (v := .ref b10) rfl hc_8 (by rw [hq_9]; rfl) ?_
        refine go_astore rfl rfl ?_
        show Go k_Vo_create 26 [some (.ref a0), some (.int v1), some (.ref a2), some (.int v3), some (.int v4), some (.int v5), some (.ref b10)] [] h _
        refine go_aload_n rfl rfl ?_
        refine go_iconst (v := 0) rfl (by decide) ?_
        refine go_aload rfl rfl ?_
        replace e := ck_as_e e
        obtain ⟨hk_11, e⟩ := e
        replace e := ck_some_e e
        obtain ⟨b12, hq_13, e⟩ := e
        refine go_get (v := .ref b12) rfl rfl hk_11 (by decide) (by show va_rf (gR h b10 1) = _; rw [hq_13]; rfl) ?_
        refine go_iconst (v := 0) rfl (by decide) ?_
        refine go_bipush (v := 8) rfl (by decide) ?_
        replace e := ck_as_e e
        obtain ⟨hc_14, e⟩ := e
        refine go_copy rfl rfl ⟨Nat.le_of_ble_eq_true rfl, Nat.le_of_ble_eq_true rfl⟩ hc_14 ?_
        have hk_16 : gk (wC h a2 (0 : Int32).toNatClampNeg b12 (0 : Int32).toNatClampNeg (8 : Int32).toNatClampNeg) a0 = 10 := ck_kC.trans hk_5
        have hk_17 : gk (wC h a2 (0 : Int32).toNatClampNeg b12 (0 : Int32).toNatClampNeg (8 : Int32).toNatClampNeg) b10 = 2 := ck_kC.trans hk_11
        generalize wC h a2 (0 : Int32).toNatClampNeg b12 (0 : Int32).toNatClampNeg (8 : Int32).toNatClampNeg = h15 at e hk_16 hk_17 ⊢
        replace e := ck_then_e e
        refine go_aload rfl rfl ?_
        refine go_iconst (v := 1) rfl (by decide) ?_
        refine go_put (h1 := wI h15 b10 5 1) rfl rfl hk_17 ⟨by decide, by decide, Or.inl rfl⟩ (ck_putb rfl (Or.inr rfl)) ?_
        have hk_19 : gk (wI h15 b10 5 1) a0 = 10 := ck_kI.trans hk_16
        have hk_20 : gk (wI h15 b10 5 1) b10 = 2 := ck_kI.trans hk_17
        generalize wI h15 b10 5 1 = h18 at e hk_19 hk_20 ⊢
        replace e := ck_then_e e
        refine go_aload rfl rfl ?_
        refine go_iload_n rfl rfl ?_
        refine go_put (h1 := wI h18 b10 6 v3) rfl rfl hk_20 ⟨by decide, by decide, Or.inl rfl⟩ rfl ?_
        have hk_22 : gk (wI h18 b10 6 v3) a0 = 10 := ck_kI.trans hk_19
        have hk_23 : gk (wI h18 b10 6 v3) b10 = 2 := ck_kI.trans hk_20
        generalize wI h18 b10 6 v3 = h21 at e hk_22 hk_23 ⊢
        replace e := ck_then_e e
        refine go_aload rfl rfl ?_
        refine go_iload rfl rfl ?_
        refine go_put (h1 := wI h21 b10 7 v4) rfl rfl hk_23 ⟨by decide, by decide, Or.inl rfl⟩ rfl ?_
        have hk_25 : gk (wI h21 b10 7 v4) a0 = 10 := ck_kI.trans hk_22
        have hk_26 : gk (wI h21 b10 7 v4) b10 = 2 := ck_kI.trans hk_23
        generalize wI h21 b10 7 v4 = h24 at e hk_25 hk_26 ⊢
        replace e := ck_then_e e
        refine go_aload rfl rfl ?_
        refine go_iload rfl rfl ?_
        refine go_put (h1 := wI h24 b10 8 v5) rfl rfl hk_26 ⟨by decide, by decide, Or.inl rfl⟩ rfl ?_
        have hk_28 : gk (wI h24 b10 8 v5) a0 = 10 := ck_kI.trans hk_25
        have hk_29 : gk (wI h24 b10 8 v5) b10 = 2 := ck_kI.trans hk_26
        generalize wI h24 b10 8 v5 = h27 at e hk_28 hk_29 ⊢
        replace e := ck_then_e e
        refine go_aload rfl rfl ?_
        refine go_iconst (v := 0) rfl (by decide) ?_
        refine go_put (h1 := wI h27 b10 9 0) rfl rfl hk_29 ⟨by decide, by decide, Or.inl rfl⟩ rfl ?_
        have hk_31 : gk (wI h27 b10 9 0) a0 = 10 := ck_kI.trans hk_28
        have hk_32 : gk (wI h27 b10 9 0) b10 = 2 := ck_kI.trans hk_29
        generalize wI h27 b10 9 0 = h30 at e hk_31 hk_32 ⊢
        replace e := ck_then_e e
        refine go_aload rfl rfl ?_
        replace e := ck_some_e e
        obtain ⟨b33, hq_34, e⟩ := e
        refine go_get (v := .ref b33) rfl rfl hk_32 (by decide) (by show va_rf (gR h30 b10 4) = _; rw [hq_34]; rfl) ?_
        refine go_iconst (v := 0) rfl (by decide) ?_
        replace e := ck_as_e e
        obtain ⟨hk_35, e⟩ := e
        refine go_put (h1 := wI h30 b33 4 0) rfl rfl hk_35 ⟨by decide, by decide, Or.inl rfl⟩ rfl ?_
        have hk_37 : gk (wI h30 b33 4 0) a0 = 10 := ck_kI.trans hk_31
        have hk_38 : gk (wI h30 b33 4 0) b10 = 2 := ck_kI.trans hk_32
        have hk_39 : gk (wI h30 b33 4 0) b33 = 4 := ck_kI.trans hk_35
        generalize wI h30 b33 4 0 = h36 at e hk_37 hk_38 hk_39 ⊢
        replace e := ck_then_e e
        refine go_aload_n rfl rfl ?_
        refine go_aload rfl rfl ?_
        replace e := ck_bd_e e
        obtain ⟨r40, h41, e42, e⟩ := e
        refine go_callV (As := [.ref b10]) (b0 := a0) (rest := []) rfl rfl ⟨hk_37, by decide⟩ rfl ⟨Nat.le_of_ble_eq_true rfl, Nat.le_of_ble_eq_true rfl, Nat.le_of_ble_eq_true rfl, Nat.le_of_ble_eq_true rfl⟩ (s_Vo_giveRuns e42) ?_
        show Go k_Vo_create 86 [some (.ref a0), some (.int v1), some (.ref a2), some (.int v3), some (.int v4), some (.int v5), some (.ref b10)] [] h41 _
        refine go_aload_n rfl rfl ?_
        replace e := ck_as_e e
        obtain ⟨hk_43, e⟩ := e
        replace e := ck_bd_e e
        obtain ⟨r44, h45, e46, e⟩ := e
        refine go_callV (As := []) (b0 := a0) (rest := []) rfl rfl ⟨hk_43, by decide⟩ rfl ⟨Nat.le_of_ble_eq_true rfl, Nat.le_of_ble_eq_true rfl, Nat.le_of_ble_eq_true rfl, Nat.le_of_ble_eq_true rfl⟩ (s_Vo_writeTable e46) ?_
        show Go k_Vo_create 90 [some (.ref a0), some (.int v1), some (.ref a2), some (.int v3), some (.int v4), some (.int v5), some (.ref b10)] [] h45 _
        cases e
        exact go_ret rfl rfl
    · rw [if_neg hx_2] at e
      cases e
      exact go_ret rfl rfl
def f_CS_allocate_J100 (F : Nat)  (a0 : Nat) (v1 : Int32) (v3 : Int32) (v4 : Int32) (v7 : Int32) (s0 : Int32) (h : ck_H) : Option (Int32 × ck_H) :=
  if s0 = (0 : Int32) then
    some ((-4), h)
  else
    ck_as (gk h a0 = 11) <|
    ck_some (gR h a0 6) fun b3 =>
    ck_some (gR h a0 3) fun b5 =>
    ck_as (gk h b3 = 10) <|
    ck_bd (f_Vo_create F b3 v7 b5 v1 v3 v4 h) fun _ h9 =>
    some (v7, h9)
set_option maxRecDepth 100000 in
set_option maxHeartbeats 4000000 in
theorem f_CS_allocate_J100_s (F : Nat)   (a0 : Nat) (v1 : Int32) (v3 : Int32) (v4 : Int32) (v7 : Int32) (s0 : Int32) (h : ck_H) (r : Int32) (h' : ck_H) (e : f_CS_allocate_J100 F  a0 v1 v3 v4 v7 s0 h = some (r, h')) : Go k_CS_allocate 100 [some (.ref a0), some (.int v1), none, some (.int v3), some (.int v4), none, none, some (.int v7), none] [.int s0] h (some (.int r), h') := by
  unfold f_CS_allocate_J100 at e
  refine go_istore rfl rfl ?_
  show Go k_CS_allocate 102 [some (.ref a0), some (.int v1), none, some (.int v3), some (.int v4), none, none, some (.int v7), some (.int s0)] [] h _
  refine go_iload rfl rfl ?_
  refine go_if_ne (t := 110) rfl rfl (fun hx_1 => ?_) (fun hx_1 => ?_)
  · rw [if_pos hx_1] at e
    refine go_bipush (v := (-4)) rfl (by decide) ?_
    cases e
    exact go_ret rfl rfl
  · rw [if_neg hx_1] at e
    refine go_aload_n rfl rfl ?_
    replace e := ck_as_e e
    obtain ⟨hk_2, e⟩ := e
    replace e := ck_some_e e
    obtain ⟨b3, hq_4, e⟩ := e
    refine go_get (v := .ref b3) rfl rfl hk_2 (by decide) (by show va_rf (gR h a0 6) = _; rw [hq_4]; rfl) ?_
    refine go_iload rfl rfl ?_
    refine go_aload_n rfl rfl ?_
    replace e := ck_some_e e
    obtain ⟨b5, hq_6, e⟩ := e
    refine go_get (v := .ref b5) rfl rfl hk_2 (by decide) (by show va_rf (gR h a0 3) = _; rw [hq_6]; rfl) ?_
    refine go_iload_n rfl rfl ?_
    refine go_iload_n rfl rfl ?_
    refine go_iload rfl rfl ?_
    replace e := ck_as_e e
    obtain ⟨hk_7, e⟩ := e
    replace e := ck_bd_e e
    obtain ⟨r8, h9, e10, e⟩ := e
    refine go_callV (As := [.int v7, .ref b5, .int v1, .int v3, .int v4]) (b0 := b3) (rest := []) rfl rfl ⟨hk_7, by decide⟩ rfl ⟨Nat.le_of_ble_eq_true rfl, Nat.le_of_ble_eq_true rfl, Nat.le_of_ble_eq_true rfl, Nat.le_of_ble_eq_true rfl⟩ (s_Vo_create e10) ?_
    show Go k_CS_allocate 127 [some (.ref a0), some (.int v1), none, some (.int v3), some (.int v4), none, none, some (.int v7), some (.int s0)] [] h9 _
    refine go_iload rfl rfl ?_
    cases e
    exact go_ret rfl rfl
def f_CS_allocate_J14 (F : Nat)  (a0 : Nat) (v1 : Int32) (v2 : Int32) (v3 : Int32) (v4 : Int32) (v5 : Int32) (s0 : Int32) (h : ck_H) : Option (Int32 × ck_H) :=
  ck_bd (f_DS_allows F v1 v3 v4 h) fun r1 h2 =>
  if r1 = (0 : Int32) then
    some ((-2), h2)
  else
    if v2 < s0 then
      some ((-2), h2)
    else
      if v2 < (80 : Int32) then
        ck_as (gk h2 a0 = 11) <|
        ck_some (gR h2 a0 6) fun b8 =>
        ck_some (gR h2 a0 3) fun b10 =>
        ck_as (gk h2 b8 = 10) <|
        ck_bd (f_Vo_find F b8 b10 h2) fun r13 h14 =>
        if r13 < (0 : Int32) then
          ck_as (gk h14 a0 = 11) <|
          ck_some (gR h14 a0 6) fun b18 =>
          ck_as (gk h14 b18 = 10) <|
          ck_bd (f_Vo_lowestFree F b18 h14) fun r21 h22 =>
          if r21 < (0 : Int32) then
            some ((-4), h22)
          else
            if v5 = (0 : Int32) then
              ck_as (gk h22 a0 = 11) <|
              ck_some (gR h22 a0 6) fun b27 =>
              ck_as (gk h22 b27 = 10) <|
              ck_bd (f_Vo_findRuns F b27 v2 4 h22) fun r30 h31 =>
              f_CS_allocate_J100 F a0 v1 v3 v4 r21 r30 h31
            else
              ck_as (gk h22 a0 = 11) <|
              ck_some (gR h22 a0 6) fun b34 =>
              ck_as (gk h22 b34 = 10) <|
              ck_bd (f_Vo_findOneRun F b34 v2 h22) fun r37 h38 =>
              f_CS_allocate_J100 F a0 v1 v3 v4 r21 r37 h38
        else
          some ((-7), h14)
      else
        some ((-2), h2)
set_option maxRecDepth 100000 in
set_option maxHeartbeats 4000000 in
theorem f_CS_allocate_J14_s (F : Nat)   (a0 : Nat) (v1 : Int32) (v2 : Int32) (v3 : Int32) (v4 : Int32) (v5 : Int32) (s0 : Int32) (h : ck_H) (r : Int32) (h' : ck_H) (e : f_CS_allocate_J14 F  a0 v1 v2 v3 v4 v5 s0 h = some (r, h')) : Go k_CS_allocate 14 [some (.ref a0), some (.int v1), some (.int v2), some (.int v3), some (.int v4), some (.int v5), none, none, none] [.int s0] h (some (.int r), h') := by
  unfold f_CS_allocate_J14 at e
  refine go_istore rfl rfl ?_
  show Go k_CS_allocate 16 [some (.ref a0), some (.int v1), some (.int v2), some (.int v3), some (.int v4), some (.int v5), some (.int s0), none, none] [] h _
  refine go_iload_n rfl rfl ?_
  refine go_iload_n rfl rfl ?_
  refine go_iload rfl rfl ?_
  replace e := ck_bd_e e
  obtain ⟨r1, h2, e3, e⟩ := e
  refine go_callS (As := [.int v1, .int v3, .int v4]) (rest := []) rfl rfl rfl ⟨Nat.le_of_ble_eq_true rfl, Nat.le_of_ble_eq_true rfl, Nat.le_of_ble_eq_true rfl, Nat.le_of_ble_eq_true rfl⟩ (s_DS_allows e3) ?_
  show Go k_CS_allocate 23 [some (.ref a0), some (.int v1), some (.int v2), some (.int v3), some (.int v4), some (.int v5), some (.int s0), none, none] [.int r1] h2 _
  refine go_if_eq (t := 38) rfl rfl (fun hx_4 => ?_) (fun hx_4 => ?_)
  · rw [if_pos hx_4] at e
    refine go_bipush (v := (-2)) rfl (by decide) ?_
    cases e
    exact go_ret rfl rfl
  · rw [if_neg hx_4] at e
    refine go_iload_n rfl rfl ?_
    refine go_iload rfl rfl ?_
    refine go_icmp_lt (t := 38) rfl rfl (fun hx_5 => ?_) (fun hx_5 => ?_)
    · rw [if_pos hx_5] at e
      refine go_bipush (v := (-2)) rfl (by decide) ?_
      cases e
      exact go_ret rfl rfl
    · rw [if_neg hx_5] at e
      refine go_iload_n rfl rfl ?_
      refine go_bipush (v := 80) rfl (by decide) ?_
      refine go_icmp_lt (t := 41) rfl rfl (fun hx_6 => ?_) (fun hx_6 => ?_)
      · rw [if_pos hx_6] at e
        refine go_aload_n rfl rfl ?_
        replace e := ck_as_e e
        obtain ⟨hk_7, e⟩ := e
        replace e := ck_some_e e
        obtain ⟨b8, hq_9, e⟩ := e
        refine go_get (v := .ref b8) rfl rfl hk_7 (by decide) (by show va_rf (gR h2 a0 6) = _; rw [hq_9]; rfl) ?_
        refine go_aload_n rfl rfl ?_
        replace e := ck_some_e e
        obtain ⟨b10, hq_11, e⟩ := e
        refine go_get (v := .ref b10) rfl rfl hk_7 (by decide) (by show va_rf (gR h2 a0 3) = _; rw [hq_11]; rfl) ?_
        replace e := ck_as_e e
        obtain ⟨hk_12, e⟩ := e
        replace e := ck_bd_e e
        obtain ⟨r13, h14, e15, e⟩ := e
        refine go_callV (As := [.ref b10]) (b0 := b8) (rest := []) rfl rfl ⟨hk_12, by decide⟩ rfl ⟨Nat.le_of_ble_eq_true rfl, Nat.le_of_ble_eq_true rfl, Nat.le_of_ble_eq_true rfl, Nat.le_of_ble_eq_true rfl⟩ (s_Vo_find e15) ?_
        show Go k_CS_allocate 52 [some (.ref a0), some (.int v1), some (.int v2), some (.int v3), some (.int v4), some (.int v5), some (.int s0), none, none] [.int r13] h14 _
        refine go_if_lt (t := 58) rfl rfl (fun hx_16 => ?_) (fun hx_16 => ?_)
        · rw [if_pos hx_16] at e
          refine go_aload_n rfl rfl ?_
          replace e := ck_as_e e
          obtain ⟨hk_17, e⟩ := e
          replace e := ck_some_e e
          obtain ⟨b18, hq_19, e⟩ := e
          refine go_get (v := .ref b18) rfl rfl hk_17 (by decide) (by show va_rf (gR h14 a0 6) = _; rw [hq_19]; rfl) ?_
          replace e := ck_as_e e
          obtain ⟨hk_20, e⟩ := e
          replace e := ck_bd_e e
          obtain ⟨r21, h22, e23, e⟩ := e
          refine go_callV (As := []) (b0 := b18) (rest := []) rfl rfl ⟨hk_20, by decide⟩ rfl ⟨Nat.le_of_ble_eq_true rfl, Nat.le_of_ble_eq_true rfl, Nat.le_of_ble_eq_true rfl, Nat.le_of_ble_eq_true rfl⟩ (s_Vo_lowestFree e23) ?_
          show Go k_CS_allocate 65 [some (.ref a0), some (.int v1), some (.int v2), some (.int v3), some (.int v4), some (.int v5), some (.int s0), none, none] [.int r21] h22 _
          refine go_istore rfl rfl ?_
          show Go k_CS_allocate 67 [some (.ref a0), some (.int v1), some (.int v2), some (.int v3), some (.int v4), some (.int v5), some (.int s0), some (.int r21), none] [] h22 _
          refine go_iload rfl rfl ?_
          refine go_if_ge (t := 75) rfl rfl (fun hx_24 => ?_) (fun hx_24 => ?_)
          · rw [if_pos hx_24] at e
            refine go_bipush (v := (-4)) rfl (by decide) ?_
            cases e
            exact go_ret rfl rfl
          · rw [if_neg hx_24] at e
            refine go_iload rfl rfl ?_
            refine go_if_eq (t := 91) rfl rfl (fun hx_25 => ?_) (fun hx_25 => ?_)
            · rw [if_pos hx_25] at e
              refine go_aload_n rfl rfl ?_
              replace e := ck_as_e e
              obtain ⟨hk_26, e⟩ := e
              replace e := ck_some_e e
              obtain ⟨b27, hq_28, e⟩ := e
              refine go_get (v := .ref b27) rfl rfl hk_26 (by decide) (by show va_rf (gR h22 a0 6) = _; rw [hq_28]; rfl) ?_
              refine go_iload_n rfl rfl ?_
              refine go_iconst (v := 4) rfl (by decide) ?_
              replace e := ck_as_e e
              obtain ⟨hk_29, e⟩ := e
              replace e := ck_bd_e e
              obtain ⟨r30, h31, e32, e⟩ := e
              refine go_callV (As := [.int v2, .int 4]) (b0 := b27) (rest := []) rfl rfl ⟨hk_29, by decide⟩ rfl ⟨Nat.le_of_ble_eq_true rfl, Nat.le_of_ble_eq_true rfl, Nat.le_of_ble_eq_true rfl, Nat.le_of_ble_eq_true rfl⟩ (s_Vo_findRuns e32) ?_
              show Go k_CS_allocate 100 [some (.ref a0), some (.int v1), some (.int v2), some (.int v3), some (.int v4), some (.int v5), some (.int s0), some (.int r21), none] [.int r30] h31 _
              refine go_forget (l := [some (.ref a0), some (.int v1), none, some (.int v3), some (.int v4), none, none, some (.int r21), none]) ⟨Or.inl rfl, Or.inl rfl, Or.inr ⟨rfl, fun _ q => by cases q; rfl⟩, Or.inl rfl, Or.inl rfl, Or.inr ⟨rfl, fun _ q => by cases q; rfl⟩, Or.inr ⟨rfl, fun _ q => by cases q; rfl⟩, Or.inl rfl, Or.inl rfl, trivial⟩ ?_
              exact f_CS_allocate_J100_s F a0 v1 v3 v4 r21 r30 _ _ _ e
            · rw [if_neg hx_25] at e
              refine go_aload_n rfl rfl ?_
              replace e := ck_as_e e
              obtain ⟨hk_33, e⟩ := e
              replace e := ck_some_e e
              obtain ⟨b34, hq_35, e⟩ := e
              refine go_get (v := .ref b34) rfl rfl hk_33 (by decide) (by show va_rf (gR h22 a0 6) = _; rw [hq_35]; rfl) ?_
              refine go_iload_n rfl rfl ?_
              replace e := ck_as_e e
              obtain ⟨hk_36, e⟩ := e
              replace e := ck_bd_e e
              obtain ⟨r37, h38, e39, e⟩ := e
              refine go_callV (As := [.int v2]) (b0 := b34) (rest := []) rfl rfl ⟨hk_36, by decide⟩ rfl ⟨Nat.le_of_ble_eq_true rfl, Nat.le_of_ble_eq_true rfl, Nat.le_of_ble_eq_true rfl, Nat.le_of_ble_eq_true rfl⟩ (s_Vo_findOneRun e39) ?_
              show Go k_CS_allocate 88 [some (.ref a0), some (.int v1), some (.int v2), some (.int v3), some (.int v4), some (.int v5), some (.int s0), some (.int r21), none] [.int r37] h38 _
              refine go_goto (t := 100) rfl rfl ?_
              refine go_forget (l := [some (.ref a0), some (.int v1), none, some (.int v3), some (.int v4), none, none, some (.int r21), none]) ⟨Or.inl rfl, Or.inl rfl, Or.inr ⟨rfl, fun _ q => by cases q; rfl⟩, Or.inl rfl, Or.inl rfl, Or.inr ⟨rfl, fun _ q => by cases q; rfl⟩, Or.inr ⟨rfl, fun _ q => by cases q; rfl⟩, Or.inl rfl, Or.inl rfl, trivial⟩ ?_
              exact f_CS_allocate_J100_s F a0 v1 v3 v4 r21 r37 _ _ _ e
        · rw [if_neg hx_16] at e
          refine go_bipush (v := (-7)) rfl (by decide) ?_
          cases e
          exact go_ret rfl rfl
      · rw [if_neg hx_6] at e
        refine go_bipush (v := (-2)) rfl (by decide) ?_
        cases e
        exact go_ret rfl rfl
def f_CS_allocate (F : Nat) (a0 : Nat) (v1 : Int32) (v2 : Int32) (v3 : Int32) (v4 : Int32) (v5 : Int32) (h : ck_H) : Option (Int32 × ck_H) :=
  ck_as (gk h a0 = 11) <|
  ck_bd (f_CS_takeName F a0 h) fun _ h3 =>
  if v1 = (4 : Int32) then
    f_CS_allocate_J14 F a0 v1 v2 v3 v4 v5 2 h3
  else
    f_CS_allocate_J14 F a0 v1 v2 v3 v4 v5 1 h3
set_option maxRecDepth 100000 in
set_option maxHeartbeats 4000000 in
theorem s_CS_allocate {F : Nat} {a0 : Nat} {v1 : Int32} {v2 : Int32} {v3 : Int32} {v4 : Int32} {v5 : Int32} {h h' : ck_H} {r : Int32} (e : f_CS_allocate F a0 v1 v2 v3 v4 v5 h = some (r, h')) : Go k_CS_allocate 0 (ck_in [.ref a0, .int v1, .int v2, .int v3, .int v4, .int v5] 9) [] h (some (.int r), h') := by
  unfold f_CS_allocate at e
  show Go k_CS_allocate 0 [some (.ref a0), some (.int v1), some (.int v2), some (.int v3), some (.int v4), some (.int v5), none, none, none] [] h _
  refine go_aload_n rfl rfl ?_
  replace e := ck_as_e e
  obtain ⟨hk_1, e⟩ := e
  replace e := ck_bd_e e
  obtain ⟨r2, h3, e4, e⟩ := e
  refine go_callV (As := []) (b0 := a0) (rest := []) rfl rfl ⟨hk_1, by decide⟩ rfl ⟨Nat.le_of_ble_eq_true rfl, Nat.le_of_ble_eq_true rfl, Nat.le_of_ble_eq_true rfl, Nat.le_of_ble_eq_true rfl⟩ (s_CS_takeName e4) ?_
  show Go k_CS_allocate 4 [some (.ref a0), some (.int v1), some (.int v2), some (.int v3), some (.int v4), some (.int v5), none, none, none] [] h3 _
  refine go_iload_n rfl rfl ?_
  refine go_iconst (v := 4) rfl (by decide) ?_
  refine go_icmp_ne (t := 13) rfl rfl (fun hx_5 => ?_) (fun hx_5 => ?_)
  · rw [if_pos hx_5] at e
    refine go_iconst (v := 2) rfl (by decide) ?_
    refine go_goto (t := 14) rfl rfl ?_
    refine go_forget (l := [some (.ref a0), some (.int v1), some (.int v2), some (.int v3), some (.int v4), some (.int v5), none, none, none]) ⟨Or.inl rfl, Or.inl rfl, Or.inl rfl, Or.inl rfl, Or.inl rfl, Or.inl rfl, Or.inl rfl, Or.inl rfl, Or.inl rfl, trivial⟩ ?_
    exact f_CS_allocate_J14_s F a0 v1 v2 v3 v4 v5 2 _ _ _ e
  · rw [if_neg hx_5] at e
    refine go_iconst (v := 1) rfl (by decide) ?_
    refine go_forget (l := [some (.ref a0), some (.int v1), some (.int v2), some (.int v3), some (.int v4), some (.int v5), none, none, none]) ⟨Or.inl rfl, Or.inl rfl, Or.inl rfl, Or.inl rfl, Or.inl rfl, Or.inl rfl, Or.inl rfl, Or.inl rfl, Or.inl rfl, trivial⟩ ?_
    exact f_CS_allocate_J14_s F a0 v1 v2 v3 v4 v5 1 _ _ _ e
def f_Vo_setAt (F : Nat) (a0 : Nat) (v1 : Int32) (h : ck_H) : Option (Option Nat × ck_H) :=
  if v1 < (0 : Int32) then
    some (none, h)
  else
    if v1 < (10 : Int32) then
      ck_as (gk h a0 = 10) <|
      ck_some (gR h a0 1) fun b4 =>
      ck_as ((16 ≤ gk h b4 ∧ gk h b4 ≤ 20) ∧ ¬ v1 < 0 ∧ (v1 : Int32).toNatClampNeg < gz h b4) <|
      ck_some (gR h b4 (v1 : Int32).toNatClampNeg) fun b7 =>
      ck_as (gk h b7 = 2) <|
      if (gI h b7 5) = (0 : Int32) then
        some (none, h)
      else
        ck_some (gR h a0 1) fun b11 =>
        ck_as ((16 ≤ gk h b11 ∧ gk h b11 ≤ 20) ∧ ¬ v1 < 0 ∧ (v1 : Int32).toNatClampNeg < gz h b11) <|
        ck_opt (gR h b11 (v1 : Int32).toNatClampNeg) (
          some (none, h)
        ) fun b15 =>
        some (some b15, h)
    else
      some (none, h)
set_option maxRecDepth 100000 in
set_option maxHeartbeats 4000000 in
theorem s_Vo_setAt {F : Nat} {a0 : Nat} {v1 : Int32} {h h' : ck_H} {r : Option Nat} (e : f_Vo_setAt F a0 v1 h = some (r, h')) : Go k_Vo_setAt 0 (ck_in [.ref a0, .int v1] 2) [] h (some (va_rf r), h') := by
  unfold f_Vo_setAt at e
  show Go k_Vo_setAt 0 [some (.ref a0), some (.int v1)] [] h _
  refine go_iload_n rfl rfl ?_
  refine go_if_lt (t := 22) rfl rfl (fun hx_1 => ?_) (fun hx_1 => ?_)
  · rw [if_pos hx_1] at e
    refine go_null rfl ?_
    refine go_goto (t := 32) rfl rfl ?_
    cases e
    exact go_ret rfl rfl
  · rw [if_neg hx_1] at e
    refine go_iload_n rfl rfl ?_
    refine go_bipush (v := 10) rfl (by decide) ?_
    refine go_icmp_ge (t := 22) rfl rfl (fun hx_2 => ?_) (fun hx_2 => ?_)
    · rw [if_pos hx_2] at e
      refine go_aload_n rfl rfl ?_
      replace e := ck_as_e e
      obtain ⟨hk_3, e⟩ := e
      replace e := ck_some_e e
      obtain ⟨b4, hq_5, e⟩ := e
      refine go_get (v := .ref b4) rfl rfl hk_3 (by decide) (by show va_rf (gR h a0 1) = _; rw [hq_5]; rfl) ?_
      refine go_iload_n rfl rfl ?_
      replace e := ck_as_e e
      obtain ⟨hc_6, e⟩ := e
      replace e := ck_some_e e
      obtain ⟨b7, hq_8, e⟩ := e
      refine go_aald (v := .ref b7) rfl hc_6 (by rw [hq_8]; rfl) ?_
      replace e := ck_as_e e
      obtain ⟨hk_9, e⟩ := e
      refine go_get (v := .int (gI h b7 5)) rfl rfl hk_9 (by decide) rfl ?_
      refine go_if_ne (t := 26) rfl rfl (fun hx_10 => ?_) (fun hx_10 => ?_)
      · rw [if_pos hx_10] at e
        refine go_null rfl ?_
        refine go_goto (t := 32) rfl rfl ?_
        cases e
        exact go_ret rfl rfl
      · rw [if_neg hx_10] at e
        refine go_aload_n rfl rfl ?_
        replace e := ck_some_e e
        obtain ⟨b11, hq_12, e⟩ := e
        refine go_get (v := .ref b11) rfl rfl hk_3 (by decide) (by show va_rf (gR h a0 1) = _; rw [hq_12]; rfl) ?_
        refine go_iload_n rfl rfl ?_
        replace e := ck_as_e e
        obtain ⟨hc_13, e⟩ := e
        replace e := ck_opt_e e
        rcases e with ⟨hq_14, e⟩ | ⟨b15, hq_14, e⟩
        · refine go_aald (v := .null) rfl hc_13 (by rw [hq_14]; rfl) ?_
          cases e
          exact go_ret rfl rfl
        refine go_aald (v := .ref b15) rfl hc_13 (by rw [hq_14]; rfl) ?_
        cases e
        exact go_ret rfl rfl
    · rw [if_neg hx_2] at e
      refine go_null rfl ?_
      refine go_goto (t := 32) rfl rfl ?_
      cases e
      exact go_ret rfl rfl
def f_Op_isOf (F : Nat) (a0 : Nat) (v1 : Int32) (h : ck_H) : Option (Int32 × ck_H) :=
  ck_as (gk h a0 = 5) <|
  ck_opt (gR h a0 4) (
    some (0, h)
  ) fun b3 =>
  if (gI h a0 7) = v1 then
    some (1, h)
  else
    some (0, h)
set_option maxRecDepth 100000 in
set_option maxHeartbeats 4000000 in
theorem s_Op_isOf {F : Nat} {a0 : Nat} {v1 : Int32} {h h' : ck_H} {r : Int32} (e : f_Op_isOf F a0 v1 h = some (r, h')) : Go k_Op_isOf 0 (ck_in [.ref a0, .int v1] 2) [] h (some (.int r), h') := by
  unfold f_Op_isOf at e
  show Go k_Op_isOf 0 [some (.ref a0), some (.int v1)] [] h _
  refine go_aload_n rfl rfl ?_
  replace e := ck_as_e e
  obtain ⟨hk_1, e⟩ := e
  replace e := ck_opt_e e
  rcases e with ⟨hq_2, e⟩ | ⟨b3, hq_2, e⟩
  · refine go_get (v := .null) rfl rfl hk_1 (by decide) (by show va_rf (gR h a0 4) = _; rw [hq_2]; rfl) ?_
    refine go_ifnullN (t := 19) rfl rfl ?_
    refine go_iconst (v := 0) rfl (by decide) ?_
    cases e
    exact go_ret rfl (ck_rvb rfl (Or.inl rfl))
  refine go_get (v := .ref b3) rfl rfl hk_1 (by decide) (by show va_rf (gR h a0 4) = _; rw [hq_2]; rfl) ?_
  refine go_ifnull rfl ?_
  refine go_aload_n rfl rfl ?_
  refine go_get (v := .int (gI h a0 7)) rfl rfl hk_1 (by decide) rfl ?_
  refine go_iload_n rfl rfl ?_
  refine go_icmp_ne (t := 19) rfl rfl (fun hx_4 => ?_) (fun hx_4 => ?_)
  · rw [if_pos hx_4] at e
    refine go_iconst (v := 1) rfl (by decide) ?_
    refine go_goto (t := 20) rfl rfl ?_
    cases e
    exact go_ret rfl (ck_rvb rfl (Or.inr rfl))
  · rw [if_neg hx_4] at e
    refine go_iconst (v := 0) rfl (by decide) ?_
    cases e
    exact go_ret rfl (ck_rvb rfl (Or.inl rfl))
def f_CS_openCount_L4 (F : Nat)  : Nat → Nat → Int32 → Int32 → Int32 → ck_H → Option (Int32 × ck_H)
  | 0, _, _, _, _, _ => none
  | n + 1, a0, v1, v2, v3, h =>
    if v3 < (4 : Int32) then
      ck_as (gk h a0 = 11) <|
      ck_some (gR h a0 7) fun b3 =>
      ck_as ((16 ≤ gk h b3 ∧ gk h b3 ≤ 20) ∧ ¬ v3 < 0 ∧ (v3 : Int32).toNatClampNeg < gz h b3) <|
      ck_some (gR h b3 (v3 : Int32).toNatClampNeg) fun b6 =>
      ck_as (gk h b6 = 5) <|
      ck_bd (f_Op_isOf F b6 v1 h) fun r9 h10 =>
      if r9 = (0 : Int32) then
        ck_then (v2 + 0) fun x13 =>
        f_CS_openCount_L4 F n a0 v1 x13 (v3 + 1) h10
      else
        ck_then (v2 + 1) fun x14 =>
        f_CS_openCount_L4 F n a0 v1 x14 (v3 + 1) h10
    else
      some (v2, h)
set_option maxRecDepth 100000 in
set_option maxHeartbeats 4000000 in
theorem f_CS_openCount_L4_s (F : Nat)   : ∀ (n : Nat) (a0 : Nat) (v1 : Int32) (v2 : Int32) (v3 : Int32) (h : ck_H) (r : Int32) (h' : ck_H), f_CS_openCount_L4 F n a0 v1 v2 v3 h = some (r, h') → Go k_CS_openCount 4 [some (.ref a0), some (.int v1), some (.int v2), some (.int v3)] [] h (some (.int r), h') := by
  intro n
  induction n with
  | zero => intro a0 v1 v2 v3 h r h' e; simp only [f_CS_openCount_L4] at e; cases e
  | succ n ih =>
    intro a0 v1 v2 v3 h r h' e
    rw [f_CS_openCount_L4] at e
    refine go_iload_n rfl rfl ?_
    refine go_iconst (v := 4) rfl (by decide) ?_
    refine go_icmp_ge (t := 36) rfl rfl (fun hx_1 => ?_) (fun hx_1 => ?_)
    · rw [if_pos hx_1] at e
      refine go_iload_n rfl rfl ?_
      refine go_aload_n rfl rfl ?_
      replace e := ck_as_e e
      obtain ⟨hk_2, e⟩ := e
      replace e := ck_some_e e
      obtain ⟨b3, hq_4, e⟩ := e
      refine go_get (v := .ref b3) rfl rfl hk_2 (by decide) (by show va_rf (gR h a0 7) = _; rw [hq_4]; rfl) ?_
      refine go_iload_n rfl rfl ?_
      replace e := ck_as_e e
      obtain ⟨hc_5, e⟩ := e
      replace e := ck_some_e e
      obtain ⟨b6, hq_7, e⟩ := e
      refine go_aald (v := .ref b6) rfl hc_5 (by rw [hq_7]; rfl) ?_
      refine go_iload_n rfl rfl ?_
      replace e := ck_as_e e
      obtain ⟨hk_8, e⟩ := e
      replace e := ck_bd_e e
      obtain ⟨r9, h10, e11, e⟩ := e
      refine go_callV (As := [.int v1]) (b0 := b6) (rest := [.int v2]) rfl rfl ⟨hk_8, by decide⟩ rfl ⟨Nat.le_of_ble_eq_true rfl, Nat.le_of_ble_eq_true rfl, Nat.le_of_ble_eq_true rfl, Nat.le_of_ble_eq_true rfl⟩ (s_Op_isOf e11) ?_
      show Go k_CS_openCount 20 [some (.ref a0), some (.int v1), some (.int v2), some (.int v3)] [.int r9, .int v2] h10 _
      refine go_if_eq (t := 27) rfl rfl (fun hx_12 => ?_) (fun hx_12 => ?_)
      · rw [if_pos hx_12] at e
        refine go_iconst (v := 0) rfl (by decide) ?_
        refine go_iadd rfl ?_
        generalize v2 + 0 = x13 at e ⊢
        replace e := ck_then_e e
        refine go_istore_n rfl rfl ?_
        show Go k_CS_openCount 30 [some (.ref a0), some (.int v1), some (.int x13), some (.int v3)] [] h10 _
        refine go_iinc (v := 1) rfl rfl (by decide) rfl ?_
        show Go k_CS_openCount 33 [some (.ref a0), some (.int v1), some (.int x13), some (.int (v3 + 1))] [] h10 _
        refine go_goto (t := 4) rfl rfl ?_
        refine go_forget (l := [some (.ref a0), some (.int v1), some (.int x13), some (.int (v3 + 1))]) ⟨Or.inl rfl, Or.inl rfl, Or.inl rfl, Or.inl rfl, trivial⟩ ?_
        exact ih _ _ _ _ _ _ _ e
      · rw [if_neg hx_12] at e
        refine go_iconst (v := 1) rfl (by decide) ?_
        refine go_goto (t := 28) rfl rfl ?_
        refine go_iadd rfl ?_
        generalize v2 + 1 = x14 at e ⊢
        replace e := ck_then_e e
        refine go_istore_n rfl rfl ?_
        show Go k_CS_openCount 30 [some (.ref a0), some (.int v1), some (.int x14), some (.int v3)] [] h10 _
        refine go_iinc (v := 1) rfl rfl (by decide) rfl ?_
        show Go k_CS_openCount 33 [some (.ref a0), some (.int v1), some (.int x14), some (.int (v3 + 1))] [] h10 _
        refine go_goto (t := 4) rfl rfl ?_
        refine go_forget (l := [some (.ref a0), some (.int v1), some (.int x14), some (.int (v3 + 1))]) ⟨Or.inl rfl, Or.inl rfl, Or.inl rfl, Or.inl rfl, trivial⟩ ?_
        exact ih _ _ _ _ _ _ _ e
    · rw [if_neg hx_1] at e
      refine go_iload_n rfl rfl ?_
      cases e
      exact go_ret rfl rfl
def f_CS_openCount (F : Nat) (a0 : Nat) (v1 : Int32) (h : ck_H) : Option (Int32 × ck_H) :=
  f_CS_openCount_L4 F F a0 v1 0 0 h
set_option maxRecDepth 100000 in
set_option maxHeartbeats 4000000 in
theorem s_CS_openCount {F : Nat} {a0 : Nat} {v1 : Int32} {h h' : ck_H} {r : Int32} (e : f_CS_openCount F a0 v1 h = some (r, h')) : Go k_CS_openCount 0 (ck_in [.ref a0, .int v1] 4) [] h (some (.int r), h') := by
  unfold f_CS_openCount at e
  show Go k_CS_openCount 0 [some (.ref a0), some (.int v1), none, none] [] h _
  refine go_iconst (v := 0) rfl (by decide) ?_
  refine go_istore_n rfl rfl ?_
  show Go k_CS_openCount 2 [some (.ref a0), some (.int v1), some (.int 0), none] [] h _
  refine go_iconst (v := 0) rfl (by decide) ?_
  refine go_istore_n rfl rfl ?_
  show Go k_CS_openCount 4 [some (.ref a0), some (.int v1), some (.int 0), some (.int 0)] [] h _
  refine go_forget (l := [some (.ref a0), some (.int v1), some (.int 0), some (.int 0)]) ⟨Or.inl rfl, Or.inl rfl, Or.inl rfl, Or.inl rfl, trivial⟩ ?_
  exact f_CS_openCount_L4_s F F _ _ _ _ _ _ _ e
def f_Vo_remove_L2 (F : Nat)  : Nat → Nat → Nat → Int32 → ck_H → Option (Unit × ck_H)
  | 0, _, _, _, _ => none
  | n + 1, a0, a1, v2, h =>
    ck_as (gk h a1 = 2) <|
    if v2 < (gI h a1 9) then
      if v2 < (4 : Int32) then
        ck_some (gR h a1 2) fun b4 =>
        ck_as ((gk h b4 = 14 ∨ gk h b4 = 21) ∧ ¬ v2 < 0 ∧ (v2 : Int32).toNatClampNeg < gz h b4) <|
        ck_some (gR h a1 3) fun b7 =>
        ck_as ((gk h b7 = 14 ∨ gk h b7 = 21) ∧ ¬ v2 < 0 ∧ (v2 : Int32).toNatClampNeg < gz h b7) <|
        ck_as (gk h a0 = 10) <|
        ck_bd (f_Vo_setTaken F a0 (gI h b4 (v2 : Int32).toNatClampNeg) (gI h b7 (v2 : Int32).toNatClampNeg) 0 h) fun _ h12 =>
        f_Vo_remove_L2 F n a0 a1 (v2 + 1) h12
      else
        ck_then (wI h a1 5 0) fun h14 =>
        ck_as (gk h14 a0 = 10) <|
        ck_bd (f_Vo_writeTable F a0 h14) fun _ h18 =>
        some ((), h18)
    else
      ck_then (wI h a1 5 0) fun h20 =>
      ck_as (gk h20 a0 = 10) <|
      ck_bd (f_Vo_writeTable F a0 h20) fun _ h24 =>
      some ((), h24)
set_option maxRecDepth 100000 in
set_option maxHeartbeats 4000000 in
theorem f_Vo_remove_L2_s (F : Nat)   : ∀ (n : Nat) (a0 : Nat) (a1 : Nat) (v2 : Int32) (h : ck_H) (r : Unit) (h' : ck_H), f_Vo_remove_L2 F n a0 a1 v2 h = some (r, h') → Go k_Vo_remove 2 [some (.ref a0), some (.ref a1), some (.int v2)] [] h (none, h') := by
  intro n
  induction n with
  | zero => intro a0 a1 v2 h r h' e; simp only [f_Vo_remove_L2] at e; cases e
  | succ n ih =>
    intro a0 a1 v2 h r h' e
    rw [f_Vo_remove_L2] at e
    refine go_iload_n rfl rfl ?_
    refine go_aload_n rfl rfl ?_
    replace e := ck_as_e e
    obtain ⟨hk_1, e⟩ := e
    refine go_get (v := .int (gI h a1 9)) rfl rfl hk_1 (by decide) rfl ?_
    refine go_icmp_ge (t := 38) rfl rfl (fun hx_2 => ?_) (fun hx_2 => ?_)
    · rw [if_pos hx_2] at e
      refine go_iload_n rfl rfl ?_
      refine go_iconst (v := 4) rfl (by decide) ?_
      refine go_icmp_ge (t := 38) rfl rfl (fun hx_3 => ?_) (fun hx_3 => ?_)
      · rw [if_pos hx_3] at e
        refine go_aload_n rfl rfl ?_
        refine go_aload_n rfl rfl ?_
        replace e := ck_some_e e
        obtain ⟨b4, hq_5, e⟩ := e
        refine go_get (v := .ref b4) rfl rfl hk_1 (by decide) (by show va_rf (gR h a1 2) = _; rw [hq_5]; rfl) ?_
        refine go_iload_n rfl rfl ?_
        replace e := ck_as_e e
        obtain ⟨hc_6, e⟩ := e
        refine go_iald rfl hc_6 ?_
        refine go_aload_n rfl rfl ?_
        replace e := ck_some_e e
        obtain ⟨b7, hq_8, e⟩ := e
        refine go_get (v := .ref b7) rfl rfl hk_1 (by decide) (by show va_rf (gR h a1 3) = _; rw [hq_8]; rfl) ?_
        refine go_iload_n rfl rfl ?_
        replace e := ck_as_e e
        obtain ⟨hc_9, e⟩ := e
        refine go_iald rfl hc_9 ?_
        refine go_iconst (v := 0) rfl (by decide) ?_
        replace e := ck_as_e e
        obtain ⟨hk_10, e⟩ := e
        replace e := ck_bd_e e
        obtain ⟨r11, h12, e13, e⟩ := e
        refine go_callV (As := [.int (gI h b4 (v2 : Int32).toNatClampNeg), .int (gI h b7 (v2 : Int32).toNatClampNeg), .int 0]) (b0 := a0) (rest := []) rfl rfl ⟨hk_10, by decide⟩ rfl ⟨Nat.le_of_ble_eq_true rfl, Nat.le_of_ble_eq_true rfl, Nat.le_of_ble_eq_true rfl, Nat.le_of_ble_eq_true rfl⟩ (s_Vo_setTaken e13) ?_
        show Go k_Vo_remove 32 [some (.ref a0), some (.ref a1), some (.int v2)] [] h12 _
        refine go_iinc (v := 1) rfl rfl (by decide) rfl ?_
        show Go k_Vo_remove 35 [some (.ref a0), some (.ref a1), some (.int (v2 + 1))] [] h12 _
        refine go_goto (t := 2) rfl rfl ?_
        refine go_forget (l := [some (.ref a0), some (.ref a1), some (.int (v2 + 1))]) ⟨Or.inl rfl, Or.inl rfl, Or.inl rfl, trivial⟩ ?_
        exact ih _ _ _ _ _ _ e
      · rw [if_neg hx_3] at e
        refine go_aload_n rfl rfl ?_
        refine go_iconst (v := 0) rfl (by decide) ?_
        refine go_put (h1 := wI h a1 5 0) rfl rfl hk_1 ⟨by decide, by decide, Or.inl rfl⟩ (ck_putb rfl (Or.inl rfl)) ?_
        have hk_15 : gk (wI h a1 5 0) a1 = 2 := ck_kI.trans hk_1
        generalize wI h a1 5 0 = h14 at e hk_15 ⊢
        replace e := ck_then_e e
        refine go_aload_n rfl rfl ?_
        replace e := ck_as_e e
        obtain ⟨hk_16, e⟩ := e
        replace e := ck_bd_e e
        obtain ⟨r17, h18, e19, e⟩ := e
        refine go_callV (As := []) (b0 := a0) (rest := []) rfl rfl ⟨hk_16, by decide⟩ rfl ⟨Nat.le_of_ble_eq_true rfl, Nat.le_of_ble_eq_true rfl, Nat.le_of_ble_eq_true rfl, Nat.le_of_ble_eq_true rfl⟩ (s_Vo_writeTable e19) ?_
        show Go k_Vo_remove 47 [some (.ref a0), some (.ref a1), some (.int v2)] [] h18 _
        cases e
        exact go_ret rfl rfl
    · rw [if_neg hx_2] at e
      refine go_aload_n rfl rfl ?_
      refine go_iconst (v := 0) rfl (by decide) ?_
      refine go_put (h1 := wI h a1 5 0) rfl rfl hk_1 ⟨by decide, by decide, Or.inl rfl⟩ (ck_putb rfl (Or.inl rfl)) ?_
      have hk_21 : gk (wI h a1 5 0) a1 = 2 := ck_kI.trans hk_1
      generalize wI h a1 5 0 = h20 at e hk_21 ⊢
      replace e := ck_then_e e
      refine go_aload_n rfl rfl ?_
      replace e := ck_as_e e
      obtain ⟨hk_22, e⟩ := e
      replace e := ck_bd_e e
      obtain ⟨r23, h24, e25, e⟩ := e
      refine go_callV (As := []) (b0 := a0) (rest := []) rfl rfl ⟨hk_22, by decide⟩ rfl ⟨Nat.le_of_ble_eq_true rfl, Nat.le_of_ble_eq_true rfl, Nat.le_of_ble_eq_true rfl, Nat.le_of_ble_eq_true rfl⟩ (s_Vo_writeTable e25) ?_
      show Go k_Vo_remove 47 [some (.ref a0), some (.ref a1), some (.int v2)] [] h24 _
      cases e
      exact go_ret rfl rfl
def f_Vo_remove (F : Nat) (a0 : Nat) (a1 : Nat) (h : ck_H) : Option (Unit × ck_H) :=
  f_Vo_remove_L2 F F a0 a1 0 h
set_option maxRecDepth 100000 in
set_option maxHeartbeats 4000000 in
theorem s_Vo_remove {F : Nat} {a0 : Nat} {a1 : Nat} {h h' : ck_H} {r : Unit} (e : f_Vo_remove F a0 a1 h = some (r, h')) : Go k_Vo_remove 0 (ck_in [.ref a0, .ref a1] 3) [] h (none, h') := by
  unfold f_Vo_remove at e
  show Go k_Vo_remove 0 [some (.ref a0), some (.ref a1), none] [] h _
  refine go_iconst (v := 0) rfl (by decide) ?_
  refine go_istore_n rfl rfl ?_
  show Go k_Vo_remove 2 [some (.ref a0), some (.ref a1), some (.int 0)] [] h _
  refine go_forget (l := [some (.ref a0), some (.ref a1), some (.int 0)]) ⟨Or.inl rfl, Or.inl rfl, Or.inl rfl, trivial⟩ ?_
  exact f_Vo_remove_L2_s F F _ _ _ _ _ _ e
def f_CS_scratch (F : Nat) (a0 : Nat) (h : ck_H) : Option (Int32 × ck_H) :=
  ck_as (gk h a0 = 11) <|
  ck_bd (f_CS_takeName F a0 h) fun _ h3 =>
  ck_as (gk h3 a0 = 11) <|
  ck_some (gR h3 a0 6) fun b6 =>
  ck_some (gR h3 a0 3) fun b8 =>
  ck_as (gk h3 b6 = 10) <|
  ck_bd (f_Vo_find F b6 b8 h3) fun r11 h12 =>
  ck_as (gk h12 a0 = 11) <|
  ck_some (gR h12 a0 6) fun b15 =>
  ck_as (gk h12 b15 = 10) <|
  ck_bd (f_Vo_setAt F b15 r11 h12) fun r18 h19 =>
  ck_opt r18 (
    some ((-1), h19)
  ) fun b22 =>
  ck_as (gk h19 a0 = 11) <|
  ck_bd (f_CS_openCount F a0 r11 h19) fun r24 h25 =>
  if (0 : Int32) < r24 then
    some ((-8), h25)
  else
    ck_as (gk h25 a0 = 11) <|
    ck_some (gR h25 a0 6) fun b29 =>
    ck_as (gk h25 b29 = 10) <|
    ck_bd (f_Vo_remove F b29 b22 h25) fun _ h33 =>
    some (r11, h33)
set_option maxRecDepth 100000 in
set_option maxHeartbeats 4000000 in
theorem s_CS_scratch {F : Nat} {a0 : Nat} {h h' : ck_H} {r : Int32} (e : f_CS_scratch F a0 h = some (r, h')) : Go k_CS_scratch 0 (ck_in [.ref a0] 3) [] h (some (.int r), h') := by
  unfold f_CS_scratch at e
  show Go k_CS_scratch 0 [some (.ref a0), none, none] [] h _
  refine go_aload_n rfl rfl ?_
  replace e := ck_as_e e
  obtain ⟨hk_1, e⟩ := e
  replace e := ck_bd_e e
  obtain ⟨r2, h3, e4, e⟩ := e
  refine go_callV (As := []) (b0 := a0) (rest := []) rfl rfl ⟨hk_1, by decide⟩ rfl ⟨Nat.le_of_ble_eq_true rfl, Nat.le_of_ble_eq_true rfl, Nat.le_of_ble_eq_true rfl, Nat.le_of_ble_eq_true rfl⟩ (s_CS_takeName e4) ?_
  show Go k_CS_scratch 4 [some (.ref a0), none, none] [] h3 _
  refine go_aload_n rfl rfl ?_
  replace e := ck_as_e e
  obtain ⟨hk_5, e⟩ := e
  replace e := ck_some_e e
  obtain ⟨b6, hq_7, e⟩ := e
  refine go_get (v := .ref b6) rfl rfl hk_5 (by decide) (by show va_rf (gR h3 a0 6) = _; rw [hq_7]; rfl) ?_
  refine go_aload_n rfl rfl ?_
  replace e := ck_some_e e
  obtain ⟨b8, hq_9, e⟩ := e
  refine go_get (v := .ref b8) rfl rfl hk_5 (by decide) (by show va_rf (gR h3 a0 3) = _; rw [hq_9]; rfl) ?_
  replace e := ck_as_e e
  obtain ⟨hk_10, e⟩ := e
  replace e := ck_bd_e e
  obtain ⟨r11, h12, e13, e⟩ := e
  refine go_callV (As := [.ref b8]) (b0 := b6) (rest := []) rfl rfl ⟨hk_10, by decide⟩ rfl ⟨Nat.le_of_ble_eq_true rfl, Nat.le_of_ble_eq_true rfl, Nat.le_of_ble_eq_true rfl, Nat.le_of_ble_eq_true rfl⟩ (s_Vo_find e13) ?_
  show Go k_CS_scratch 15 [some (.ref a0), none, none] [.int r11] h12 _
  refine go_istore_n rfl rfl ?_
  show Go k_CS_scratch 16 [some (.ref a0), some (.int r11), none] [] h12 _
  refine go_aload_n rfl rfl ?_
  replace e := ck_as_e e
  obtain ⟨hk_14, e⟩ := e
  replace e := ck_some_e e
  obtain ⟨b15, hq_16, e⟩ := e
  refine go_get (v := .ref b15) rfl rfl hk_14 (by decide) (by show va_rf (gR h12 a0 6) = _; rw [hq_16]; rfl) ?_
  refine go_iload_n rfl rfl ?_
  replace e := ck_as_e e
  obtain ⟨hk_17, e⟩ := e
  replace e := ck_bd_e e
  obtain ⟨r18, h19, e20, e⟩ := e
  refine go_callV (As := [.int r11]) (b0 := b15) (rest := []) rfl rfl ⟨hk_17, by decide⟩ rfl ⟨Nat.le_of_ble_eq_true rfl, Nat.le_of_ble_eq_true rfl, Nat.le_of_ble_eq_true rfl, Nat.le_of_ble_eq_true rfl⟩ (s_Vo_setAt e20) ?_
  replace e := ck_opt_e e
  rcases e with ⟨hq_21, e⟩ | ⟨b22, hq_21, e⟩
  · subst hq_21
    show Go k_CS_scratch 24 [some (.ref a0), some (.int r11), none] [.null] h19 _
    refine go_astore_nN rfl rfl ?_
    show Go k_CS_scratch 25 [some (.ref a0), some (.int r11), some .null] [] h19 _
    refine go_aload_nN rfl rfl ?_
    refine go_ifnonnullN rfl ?_
    refine go_iconst (v := (-1)) rfl (by decide) ?_
    cases e
    exact go_ret rfl rfl
  subst hq_21
  show Go k_CS_scratch 24 [some (.ref a0), some (.int r11), none] [.ref b22] h19 _
  refine go_astore_n rfl rfl ?_
  show Go k_CS_scratch 25 [some (.ref a0), some (.int r11), some (.ref b22)] [] h19 _
  refine go_aload_n rfl rfl ?_
  refine go_ifnonnull (t := 31) rfl rfl ?_
  refine go_aload_n rfl rfl ?_
  refine go_iload_n rfl rfl ?_
  replace e := ck_as_e e
  obtain ⟨hk_23, e⟩ := e
  replace e := ck_bd_e e
  obtain ⟨r24, h25, e26, e⟩ := e
  refine go_callV (As := [.int r11]) (b0 := a0) (rest := []) rfl rfl ⟨hk_23, by decide⟩ rfl ⟨Nat.le_of_ble_eq_true rfl, Nat.le_of_ble_eq_true rfl, Nat.le_of_ble_eq_true rfl, Nat.le_of_ble_eq_true rfl⟩ (s_CS_openCount e26) ?_
  show Go k_CS_scratch 36 [some (.ref a0), some (.int r11), some (.ref b22)] [.int r24] h25 _
  refine go_if_le (t := 42) rfl rfl (fun hx_27 => ?_) (fun hx_27 => ?_)
  · rw [if_pos hx_27] at e
    refine go_bipush (v := (-8)) rfl (by decide) ?_
    cases e
    exact go_ret rfl rfl
  · rw [if_neg hx_27] at e
    refine go_aload_n rfl rfl ?_
    replace e := ck_as_e e
    obtain ⟨hk_28, e⟩ := e
    replace e := ck_some_e e
    obtain ⟨b29, hq_30, e⟩ := e
    refine go_get (v := .ref b29) rfl rfl hk_28 (by decide) (by show va_rf (gR h25 a0 6) = _; rw [hq_30]; rfl) ?_
    refine go_aload_n rfl rfl ?_
    replace e := ck_as_e e
    obtain ⟨hk_31, e⟩ := e
    replace e := ck_bd_e e
    obtain ⟨r32, h33, e34, e⟩ := e
    refine go_callV (As := [.ref b22]) (b0 := b29) (rest := []) rfl rfl ⟨hk_31, by decide⟩ rfl ⟨Nat.le_of_ble_eq_true rfl, Nat.le_of_ble_eq_true rfl, Nat.le_of_ble_eq_true rfl, Nat.le_of_ble_eq_true rfl⟩ (s_Vo_remove e34) ?_
    show Go k_CS_scratch 50 [some (.ref a0), some (.int r11), some (.ref b22)] [] h33 _
    refine go_iload_n rfl rfl ?_
    cases e
    exact go_ret rfl rfl
def f_DS_tracks_L4 (F : Nat)  : Nat → Nat → Int32 → Int32 → ck_H → Option (Int32 × ck_H)
  | 0, _, _, _, _ => none
  | n + 1, a0, v1, v2, h =>
    ck_as (gk h a0 = 2) <|
    if v2 < (gI h a0 9) then
      if v2 < (4 : Int32) then
        ck_some (gR h a0 3) fun b4 =>
        ck_as ((gk h b4 = 14 ∨ gk h b4 = 21) ∧ ¬ v2 < 0 ∧ (v2 : Int32).toNatClampNeg < gz h b4) <|
        ck_then (v1 + (gI h b4 (v2 : Int32).toNatClampNeg)) fun x7 =>
        f_DS_tracks_L4 F n a0 x7 (v2 + 1) h
      else
        some (v1, h)
    else
      some (v1, h)
set_option maxRecDepth 100000 in
set_option maxHeartbeats 4000000 in
theorem f_DS_tracks_L4_s (F : Nat)   : ∀ (n : Nat) (a0 : Nat) (v1 : Int32) (v2 : Int32) (h : ck_H) (r : Int32) (h' : ck_H), f_DS_tracks_L4 F n a0 v1 v2 h = some (r, h') → Go k_DS_tracks 4 [some (.ref a0), some (.int v1), some (.int v2)] [] h (some (.int r), h') := by
  intro n
  induction n with
  | zero => intro a0 v1 v2 h r h' e; simp only [f_DS_tracks_L4] at e; cases e
  | succ n ih =>
    intro a0 v1 v2 h r h' e
    rw [f_DS_tracks_L4] at e
    refine go_iload_n rfl rfl ?_
    refine go_aload_n rfl rfl ?_
    replace e := ck_as_e e
    obtain ⟨hk_1, e⟩ := e
    refine go_get (v := .int (gI h a0 9)) rfl rfl hk_1 (by decide) rfl ?_
    refine go_icmp_ge (t := 32) rfl rfl (fun hx_2 => ?_) (fun hx_2 => ?_)
    · rw [if_pos hx_2] at e
      refine go_iload_n rfl rfl ?_
      refine go_iconst (v := 4) rfl (by decide) ?_
      refine go_icmp_ge (t := 32) rfl rfl (fun hx_3 => ?_) (fun hx_3 => ?_)
      · rw [if_pos hx_3] at e
        refine go_iload_n rfl rfl ?_
        refine go_aload_n rfl rfl ?_
        replace e := ck_some_e e
        obtain ⟨b4, hq_5, e⟩ := e
        refine go_get (v := .ref b4) rfl rfl hk_1 (by decide) (by show va_rf (gR h a0 3) = _; rw [hq_5]; rfl) ?_
        refine go_iload_n rfl rfl ?_
        replace e := ck_as_e e
        obtain ⟨hc_6, e⟩ := e
        refine go_iald rfl hc_6 ?_
        refine go_iadd rfl ?_
        generalize v1 + (gI h b4 (v2 : Int32).toNatClampNeg) = x7 at e ⊢
        replace e := ck_then_e e
        refine go_istore_n rfl rfl ?_
        show Go k_DS_tracks 26 [some (.ref a0), some (.int x7), some (.int v2)] [] h _
        refine go_iinc (v := 1) rfl rfl (by decide) rfl ?_
        show Go k_DS_tracks 29 [some (.ref a0), some (.int x7), some (.int (v2 + 1))] [] h _
        refine go_goto (t := 4) rfl rfl ?_
        refine go_forget (l := [some (.ref a0), some (.int x7), some (.int (v2 + 1))]) ⟨Or.inl rfl, Or.inl rfl, Or.inl rfl, trivial⟩ ?_
        exact ih _ _ _ _ _ _ e
      · rw [if_neg hx_3] at e
        refine go_iload_n rfl rfl ?_
        cases e
        exact go_ret rfl rfl
    · rw [if_neg hx_2] at e
      refine go_iload_n rfl rfl ?_
      cases e
      exact go_ret rfl rfl
def f_DS_tracks (F : Nat) (a0 : Nat) (h : ck_H) : Option (Int32 × ck_H) :=
  f_DS_tracks_L4 F F a0 0 0 h
set_option maxRecDepth 100000 in
set_option maxHeartbeats 4000000 in
theorem s_DS_tracks {F : Nat} {a0 : Nat} {h h' : ck_H} {r : Int32} (e : f_DS_tracks F a0 h = some (r, h')) : Go k_DS_tracks 0 (ck_in [.ref a0] 3) [] h (some (.int r), h') := by
  unfold f_DS_tracks at e
  show Go k_DS_tracks 0 [some (.ref a0), none, none] [] h _
  refine go_iconst (v := 0) rfl (by decide) ?_
  refine go_istore_n rfl rfl ?_
  show Go k_DS_tracks 2 [some (.ref a0), some (.int 0), none] [] h _
  refine go_iconst (v := 0) rfl (by decide) ?_
  refine go_istore_n rfl rfl ?_
  show Go k_DS_tracks 4 [some (.ref a0), some (.int 0), some (.int 0)] [] h _
  refine go_forget (l := [some (.ref a0), some (.int 0), some (.int 0)]) ⟨Or.inl rfl, Or.inl rfl, Or.inl rfl, trivial⟩ ?_
  exact f_DS_tracks_L4_s F F _ _ _ _ _ _ e
def f_CS_extend (F : Nat) (a0 : Nat) (v1 : Int32) (h : ck_H) : Option (Int32 × ck_H) :=
  ck_as (gk h a0 = 11) <|
  ck_bd (f_CS_takeName F a0 h) fun _ h3 =>
  if v1 < (1 : Int32) then
    some ((-2), h3)
  else
    if v1 < (80 : Int32) then
      ck_as (gk h3 a0 = 11) <|
      ck_some (gR h3 a0 6) fun b8 =>
      ck_some (gR h3 a0 6) fun b10 =>
      ck_some (gR h3 a0 3) fun b12 =>
      ck_as (gk h3 b10 = 10) <|
      ck_bd (f_Vo_find F b10 b12 h3) fun r15 h16 =>
      ck_as (gk h16 b8 = 10) <|
      ck_bd (f_Vo_setAt F b8 r15 h16) fun r19 h20 =>
      ck_opt r19 (
        some ((-1), h20)
      ) fun b23 =>
      ck_as (gk h20 b23 = 2) <|
      if (gI h20 b23 6) = (3 : Int32) then
        some ((-3), h20)
      else
        ck_as (gk h20 a0 = 11) <|
        ck_some (gR h20 a0 6) fun b27 =>
        ck_as (gk h20 b27 = 10) <|
        ck_bd (f_Vo_findRuns F b27 v1 (4 - (gI h20 b23 9)) h20) fun r30 h31 =>
        if r30 = (0 : Int32) then
          some ((-4), h31)
        else
          ck_as (gk h31 a0 = 11) <|
          ck_some (gR h31 a0 6) fun b35 =>
          ck_as (gk h31 b35 = 10) <|
          ck_bd (f_Vo_giveRuns F b35 b23 h31) fun _ h39 =>
          ck_as (gk h39 a0 = 11) <|
          ck_some (gR h39 a0 6) fun b42 =>
          ck_as (gk h39 b42 = 10) <|
          ck_bd (f_Vo_writeTable F b42 h39) fun _ h46 =>
          ck_as (gk h46 b23 = 2) <|
          ck_bd (f_DS_tracks F b23 h46) fun r49 h50 =>
          some (r49, h50)
    else
      some ((-2), h3)
set_option maxRecDepth 100000 in
set_option maxHeartbeats 4000000 in
theorem s_CS_extend {F : Nat} {a0 : Nat} {v1 : Int32} {h h' : ck_H} {r : Int32} (e : f_CS_extend F a0 v1 h = some (r, h')) : Go k_CS_extend 0 (ck_in [.ref a0, .int v1] 3) [] h (some (.int r), h') := by
  unfold f_CS_extend at e
  show Go k_CS_extend 0 [some (.ref a0), some (.int v1), none] [] h _
  refine go_aload_n rfl rfl ?_
  replace e := ck_as_e e
  obtain ⟨hk_1, e⟩ := e
  replace e := ck_bd_e e
  obtain ⟨r2, h3, e4, e⟩ := e
  refine go_callV (As := []) (b0 := a0) (rest := []) rfl rfl ⟨hk_1, by decide⟩ rfl ⟨Nat.le_of_ble_eq_true rfl, Nat.le_of_ble_eq_true rfl, Nat.le_of_ble_eq_true rfl, Nat.le_of_ble_eq_true rfl⟩ (s_CS_takeName e4) ?_
  show Go k_CS_extend 4 [some (.ref a0), some (.int v1), none] [] h3 _
  refine go_iload_n rfl rfl ?_
  refine go_iconst (v := 1) rfl (by decide) ?_
  refine go_icmp_lt (t := 15) rfl rfl (fun hx_5 => ?_) (fun hx_5 => ?_)
  · rw [if_pos hx_5] at e
    refine go_bipush (v := (-2)) rfl (by decide) ?_
    cases e
    exact go_ret rfl rfl
  · rw [if_neg hx_5] at e
    refine go_iload_n rfl rfl ?_
    refine go_bipush (v := 80) rfl (by decide) ?_
    refine go_icmp_lt (t := 18) rfl rfl (fun hx_6 => ?_) (fun hx_6 => ?_)
    · rw [if_pos hx_6] at e
      refine go_aload_n rfl rfl ?_
      replace e := ck_as_e e
      obtain ⟨hk_7, e⟩ := e
      replace e := ck_some_e e
      obtain ⟨b8, hq_9, e⟩ := e
      refine go_get (v := .ref b8) rfl rfl hk_7 (by decide) (by show va_rf (gR h3 a0 6) = _; rw [hq_9]; rfl) ?_
      refine go_aload_n rfl rfl ?_
      replace e := ck_some_e e
      obtain ⟨b10, hq_11, e⟩ := e
      refine go_get (v := .ref b10) rfl rfl hk_7 (by decide) (by show va_rf (gR h3 a0 6) = _; rw [hq_11]; rfl) ?_
      refine go_aload_n rfl rfl ?_
      replace e := ck_some_e e
      obtain ⟨b12, hq_13, e⟩ := e
      refine go_get (v := .ref b12) rfl rfl hk_7 (by decide) (by show va_rf (gR h3 a0 3) = _; rw [hq_13]; rfl) ?_
      replace e := ck_as_e e
      obtain ⟨hk_14, e⟩ := e
      replace e := ck_bd_e e
      obtain ⟨r15, h16, e17, e⟩ := e
      refine go_callV (As := [.ref b12]) (b0 := b10) (rest := [.ref b8]) rfl rfl ⟨hk_14, by decide⟩ rfl ⟨Nat.le_of_ble_eq_true rfl, Nat.le_of_ble_eq_true rfl, Nat.le_of_ble_eq_true rfl, Nat.le_of_ble_eq_true rfl⟩ (s_Vo_find e17) ?_
      show Go k_CS_extend 33 [some (.ref a0), some (.int v1), none] [.int r15, .ref b8] h16 _
      replace e := ck_as_e e
      obtain ⟨hk_18, e⟩ := e
      replace e := ck_bd_e e
      obtain ⟨r19, h20, e21, e⟩ := e
      refine go_callV (As := [.int r15]) (b0 := b8) (rest := []) rfl rfl ⟨hk_18, by decide⟩ rfl ⟨Nat.le_of_ble_eq_true rfl, Nat.le_of_ble_eq_true rfl, Nat.le_of_ble_eq_true rfl, Nat.le_of_ble_eq_true rfl⟩ (s_Vo_setAt e21) ?_
      replace e := ck_opt_e e
      rcases e with ⟨hq_22, e⟩ | ⟨b23, hq_22, e⟩
      · subst hq_22
        show Go k_CS_extend 36 [some (.ref a0), some (.int v1), none] [.null] h20 _
        refine go_astore_nN rfl rfl ?_
        show Go k_CS_extend 37 [some (.ref a0), some (.int v1), some .null] [] h20 _
        refine go_aload_nN rfl rfl ?_
        refine go_ifnonnullN rfl ?_
        refine go_iconst (v := (-1)) rfl (by decide) ?_
        cases e
        exact go_ret rfl rfl
      subst hq_22
      show Go k_CS_extend 36 [some (.ref a0), some (.int v1), none] [.ref b23] h20 _
      refine go_astore_n rfl rfl ?_
      show Go k_CS_extend 37 [some (.ref a0), some (.int v1), some (.ref b23)] [] h20 _
      refine go_aload_n rfl rfl ?_
      refine go_ifnonnull (t := 43) rfl rfl ?_
      refine go_aload_n rfl rfl ?_
      replace e := ck_as_e e
      obtain ⟨hk_24, e⟩ := e
      refine go_get (v := .int (gI h20 b23 6)) rfl rfl hk_24 (by decide) rfl ?_
      refine go_iconst (v := 3) rfl (by decide) ?_
      refine go_icmp_ne (t := 54) rfl rfl (fun hx_25 => ?_) (fun hx_25 => ?_)
      · rw [if_pos hx_25] at e
        refine go_bipush (v := (-3)) rfl (by decide) ?_
        cases e
        exact go_ret rfl rfl
      · rw [if_neg hx_25] at e
        refine go_aload_n rfl rfl ?_
        replace e := ck_as_e e
        obtain ⟨hk_26, e⟩ := e
        replace e := ck_some_e e
        obtain ⟨b27, hq_28, e⟩ := e
        refine go_get (v := .ref b27) rfl rfl hk_26 (by decide) (by show va_rf (gR h20 a0 6) = _; rw [hq_28]; rfl) ?_
        refine go_iload_n rfl rfl ?_
        refine go_iconst (v := 4) rfl (by decide) ?_
        refine go_aload_n rfl rfl ?_
        refine go_get (v := .int (gI h20 b23 9)) rfl rfl hk_24 (by decide) rfl ?_
        refine go_isub rfl ?_
        replace e := ck_as_e e
        obtain ⟨hk_29, e⟩ := e
        replace e := ck_bd_e e
        obtain ⟨r30, h31, e32, e⟩ := e
        refine go_callV (As := [.int v1, .int (4 - (gI h20 b23 9))]) (b0 := b27) (rest := []) rfl rfl ⟨hk_29, by decide⟩ rfl ⟨Nat.le_of_ble_eq_true rfl, Nat.le_of_ble_eq_true rfl, Nat.le_of_ble_eq_true rfl, Nat.le_of_ble_eq_true rfl⟩ (s_Vo_findRuns e32) ?_
        show Go k_CS_extend 68 [some (.ref a0), some (.int v1), some (.ref b23)] [.int r30] h31 _
        refine go_if_ne (t := 74) rfl rfl (fun hx_33 => ?_) (fun hx_33 => ?_)
        · rw [if_pos hx_33] at e
          refine go_bipush (v := (-4)) rfl (by decide) ?_
          cases e
          exact go_ret rfl rfl
        · rw [if_neg hx_33] at e
          refine go_aload_n rfl rfl ?_
          replace e := ck_as_e e
          obtain ⟨hk_34, e⟩ := e
          replace e := ck_some_e e
          obtain ⟨b35, hq_36, e⟩ := e
          refine go_get (v := .ref b35) rfl rfl hk_34 (by decide) (by show va_rf (gR h31 a0 6) = _; rw [hq_36]; rfl) ?_
          refine go_aload_n rfl rfl ?_
          replace e := ck_as_e e
          obtain ⟨hk_37, e⟩ := e
          replace e := ck_bd_e e
          obtain ⟨r38, h39, e40, e⟩ := e
          refine go_callV (As := [.ref b23]) (b0 := b35) (rest := []) rfl rfl ⟨hk_37, by decide⟩ rfl ⟨Nat.le_of_ble_eq_true rfl, Nat.le_of_ble_eq_true rfl, Nat.le_of_ble_eq_true rfl, Nat.le_of_ble_eq_true rfl⟩ (s_Vo_giveRuns e40) ?_
          show Go k_CS_extend 82 [some (.ref a0), some (.int v1), some (.ref b23)] [] h39 _
          refine go_aload_n rfl rfl ?_
          replace e := ck_as_e e
          obtain ⟨hk_41, e⟩ := e
          replace e := ck_some_e e
          obtain ⟨b42, hq_43, e⟩ := e
          refine go_get (v := .ref b42) rfl rfl hk_41 (by decide) (by show va_rf (gR h39 a0 6) = _; rw [hq_43]; rfl) ?_
          replace e := ck_as_e e
          obtain ⟨hk_44, e⟩ := e
          replace e := ck_bd_e e
          obtain ⟨r45, h46, e47, e⟩ := e
          refine go_callV (As := []) (b0 := b42) (rest := []) rfl rfl ⟨hk_44, by decide⟩ rfl ⟨Nat.le_of_ble_eq_true rfl, Nat.le_of_ble_eq_true rfl, Nat.le_of_ble_eq_true rfl, Nat.le_of_ble_eq_true rfl⟩ (s_Vo_writeTable e47) ?_
          show Go k_CS_extend 89 [some (.ref a0), some (.int v1), some (.ref b23)] [] h46 _
          refine go_aload_n rfl rfl ?_
          replace e := ck_as_e e
          obtain ⟨hk_48, e⟩ := e
          replace e := ck_bd_e e
          obtain ⟨r49, h50, e51, e⟩ := e
          refine go_callV (As := []) (b0 := b23) (rest := []) rfl rfl ⟨hk_48, by decide⟩ rfl ⟨Nat.le_of_ble_eq_true rfl, Nat.le_of_ble_eq_true rfl, Nat.le_of_ble_eq_true rfl, Nat.le_of_ble_eq_true rfl⟩ (s_DS_tracks e51) ?_
          show Go k_CS_extend 93 [some (.ref a0), some (.int v1), some (.ref b23)] [.int r49] h50 _
          cases e
          exact go_ret rfl rfl
    · rw [if_neg hx_6] at e
      refine go_bipush (v := (-2)) rfl (by decide) ?_
      cases e
      exact go_ret rfl rfl
def f_DS_nameOrExtent_J26 (F : Nat)  (a0 : Nat) (v1 : Int32) (h : ck_H) : Option (Int32 × ck_H) :=
  if v1 < (20 : Int32) then
    some ((-1), h)
  else
    ck_as (gk h a0 = 2) <|
    if v1 < (20 + (2 * (gI h a0 9))) then
      if v1 < (28 : Int32) then
        ck_then ((v1 - 20) / 2) fun x5 =>
        if (v1 - v1 / 2 * 2) = (0 : Int32) then
          ck_some (gR h a0 2) fun b7 =>
          ck_as ((gk h b7 = 14 ∨ gk h b7 = 21) ∧ ¬ x5 < 0 ∧ (x5 : Int32).toNatClampNeg < gz h b7) <|
          some (gI h b7 (x5 : Int32).toNatClampNeg, h)
        else
          ck_some (gR h a0 3) fun b10 =>
          ck_as ((gk h b10 = 14 ∨ gk h b10 = 21) ∧ ¬ x5 < 0 ∧ (x5 : Int32).toNatClampNeg < gz h b10) <|
          some (gI h b10 (x5 : Int32).toNatClampNeg, h)
      else
        some ((-1), h)
    else
      some ((-1), h)
set_option maxRecDepth 100000 in
set_option maxHeartbeats 4000000 in
theorem f_DS_nameOrExtent_J26_s (F : Nat)   (a0 : Nat) (v1 : Int32) (h : ck_H) (r : Int32) (h' : ck_H) (e : f_DS_nameOrExtent_J26 F  a0 v1 h = some (r, h')) : Go k_DS_nameOrExtent 26 [some (.ref a0), some (.int v1), none] [] h (some (.int r), h') := by
  unfold f_DS_nameOrExtent_J26 at e
  refine go_iload_n rfl rfl ?_
  refine go_bipush (v := 20) rfl (by decide) ?_
  refine go_icmp_lt (t := 51) rfl rfl (fun hx_1 => ?_) (fun hx_1 => ?_)
  · rw [if_pos hx_1] at e
    refine go_iconst (v := (-1)) rfl (by decide) ?_
    cases e
    exact go_ret rfl rfl
  · rw [if_neg hx_1] at e
    refine go_iload_n rfl rfl ?_
    refine go_bipush (v := 20) rfl (by decide) ?_
    refine go_iconst (v := 2) rfl (by decide) ?_
    refine go_aload_n rfl rfl ?_
    replace e := ck_as_e e
    obtain ⟨hk_2, e⟩ := e
    refine go_get (v := .int (gI h a0 9)) rfl rfl hk_2 (by decide) rfl ?_
    refine go_imul rfl ?_
    refine go_iadd rfl ?_
    refine go_icmp_ge (t := 51) rfl rfl (fun hx_3 => ?_) (fun hx_3 => ?_)
    · rw [if_pos hx_3] at e
      refine go_iload_n rfl rfl ?_
      refine go_bipush (v := 28) rfl (by decide) ?_
      refine go_icmp_lt (t := 53) rfl rfl (fun hx_4 => ?_) (fun hx_4 => ?_)
      · rw [if_pos hx_4] at e
        refine go_iload_n rfl rfl ?_
        refine go_bipush (v := 20) rfl (by decide) ?_
        refine go_isub rfl ?_
        refine go_iconst (v := 2) rfl (by decide) ?_
        refine go_idiv rfl (by decide) ?_
        generalize (v1 - 20) / 2 = x5 at e ⊢
        replace e := ck_then_e e
        refine go_istore_n rfl rfl ?_
        show Go k_DS_nameOrExtent 60 [some (.ref a0), some (.int v1), some (.int x5)] [] h _
        refine go_iload_n rfl rfl ?_
        refine go_iconst (v := 2) rfl (by decide) ?_
        refine go_irem rfl (by decide) ?_
        refine go_if_ne (t := 75) rfl rfl (fun hx_6 => ?_) (fun hx_6 => ?_)
        · rw [if_pos hx_6] at e
          refine go_aload_n rfl rfl ?_
          replace e := ck_some_e e
          obtain ⟨b7, hq_8, e⟩ := e
          refine go_get (v := .ref b7) rfl rfl hk_2 (by decide) (by show va_rf (gR h a0 2) = _; rw [hq_8]; rfl) ?_
          refine go_iload_n rfl rfl ?_
          replace e := ck_as_e e
          obtain ⟨hc_9, e⟩ := e
          refine go_iald rfl hc_9 ?_
          refine go_goto (t := 81) rfl rfl ?_
          cases e
          exact go_ret rfl rfl
        · rw [if_neg hx_6] at e
          refine go_aload_n rfl rfl ?_
          replace e := ck_some_e e
          obtain ⟨b10, hq_11, e⟩ := e
          refine go_get (v := .ref b10) rfl rfl hk_2 (by decide) (by show va_rf (gR h a0 3) = _; rw [hq_11]; rfl) ?_
          refine go_iload_n rfl rfl ?_
          replace e := ck_as_e e
          obtain ⟨hc_12, e⟩ := e
          refine go_iald rfl hc_12 ?_
          cases e
          exact go_ret rfl rfl
      · rw [if_neg hx_4] at e
        refine go_iconst (v := (-1)) rfl (by decide) ?_
        cases e
        exact go_ret rfl rfl
    · rw [if_neg hx_3] at e
      refine go_iconst (v := (-1)) rfl (by decide) ?_
      cases e
      exact go_ret rfl rfl
def f_DS_nameOrExtent (F : Nat) (a0 : Nat) (v1 : Int32) (h : ck_H) : Option (Int32 × ck_H) :=
  if v1 < (10 : Int32) then
    f_DS_nameOrExtent_J26 F a0 v1 h
  else
    if v1 < (18 : Int32) then
      ck_as (gk h a0 = 2) <|
      ck_some (gR h a0 1) fun b15 =>
      ck_as ((gk h b15 = 13 ∨ gk h b15 = 15) ∧ ¬ (v1 - 10) < 0 ∧ (v1 - 10 : Int32).toNatClampNeg < gz h b15) <|
      some ((gI h b15 (v1 - 10 : Int32).toNatClampNeg) &&& 255, h)
    else
      f_DS_nameOrExtent_J26 F a0 v1 h
set_option maxRecDepth 100000 in
set_option maxHeartbeats 4000000 in
theorem s_DS_nameOrExtent {F : Nat} {a0 : Nat} {v1 : Int32} {h h' : ck_H} {r : Int32} (e : f_DS_nameOrExtent F a0 v1 h = some (r, h')) : Go k_DS_nameOrExtent 0 (ck_in [.ref a0, .int v1] 3) [] h (some (.int r), h') := by
  unfold f_DS_nameOrExtent at e
  show Go k_DS_nameOrExtent 0 [some (.ref a0), some (.int v1), none] [] h _
  refine go_iload_n rfl rfl ?_
  refine go_bipush (v := 10) rfl (by decide) ?_
  refine go_icmp_lt (t := 26) rfl rfl (fun hx_1 => ?_) (fun hx_1 => ?_)
  · rw [if_pos hx_1] at e
    refine go_forget (l := [some (.ref a0), some (.int v1), none]) ⟨Or.inl rfl, Or.inl rfl, Or.inl rfl, trivial⟩ ?_
    exact f_DS_nameOrExtent_J26_s F a0 v1 _ _ _ e
  · rw [if_neg hx_1] at e
    refine go_iload_n rfl rfl ?_
    refine go_bipush (v := 18) rfl (by decide) ?_
    refine go_icmp_ge (t := 26) rfl rfl (fun hx_13 => ?_) (fun hx_13 => ?_)
    · rw [if_pos hx_13] at e
      refine go_aload_n rfl rfl ?_
      replace e := ck_as_e e
      obtain ⟨hk_14, e⟩ := e
      replace e := ck_some_e e
      obtain ⟨b15, hq_16, e⟩ := e
      refine go_get (v := .ref b15) rfl rfl hk_14 (by decide) (by show va_rf (gR h a0 1) = _; rw [hq_16]; rfl) ?_
      refine go_iload_n rfl rfl ?_
      refine go_bipush (v := 10) rfl (by decide) ?_
      refine go_isub rfl ?_
      replace e := ck_as_e e
      obtain ⟨hc_17, e⟩ := e
      refine go_bald rfl hc_17 ?_
      refine go_sipush (v := 255) rfl (by decide) ?_
      refine go_iand rfl ?_
      cases e
      exact go_ret rfl rfl
    · rw [if_neg hx_13] at e
      refine go_forget (l := [some (.ref a0), some (.int v1), none]) ⟨Or.inl rfl, Or.inl rfl, Or.inl rfl, trivial⟩ ?_
      exact f_DS_nameOrExtent_J26_s F a0 v1 _ _ _ e
def f_CS_dataSet (F : Nat) (a0 : Nat) (v1 : Int32) (v2 : Int32) (h : ck_H) : Option (Int32 × ck_H) :=
  ck_as (gk h a0 = 11) <|
  ck_some (gR h a0 6) fun b2 =>
  ck_as (gk h b2 = 10) <|
  ck_bd (f_Vo_setAt F b2 v1 h) fun r5 h6 =>
  ck_opt r5 (
    some ((-1), h6)
  ) fun b9 =>
  if v2 = 0 then
    ck_as (gk h6 b9 = 2) <|
    some (gI h6 b9 6, h6)
  else
  if v2 = 1 then
    ck_as (gk h6 b9 = 2) <|
    some (gI h6 b9 7, h6)
  else
  if v2 = 2 then
    ck_as (gk h6 b9 = 2) <|
    some (gI h6 b9 8, h6)
  else
  if v2 = 3 then
    ck_as (gk h6 b9 = 2) <|
    ck_bd (f_DS_tracks F b9 h6) fun r18 h19 =>
    some (r18, h19)
  else
  if v2 = 4 then
    ck_as (gk h6 b9 = 2) <|
    some (gI h6 b9 9, h6)
  else
  if v2 = 5 then
    ck_as (gk h6 a0 = 11) <|
    ck_bd (f_CS_openCount F a0 v1 h6) fun r25 h26 =>
    some (r25, h26)
  else
  if v2 = 6 then
    ck_as (gk h6 b9 = 2) <|
    ck_some (gR h6 b9 4) fun b30 =>
    ck_as (gk h6 b30 = 4) <|
    some (gI h6 b30 4, h6)
  else
    ck_as (gk h6 b9 = 2) <|
    ck_bd (f_DS_nameOrExtent F b9 v2 h6) fun r34 h35 =>
    some (r34, h35)
set_option maxRecDepth 100000 in
set_option maxHeartbeats 4000000 in
theorem s_CS_dataSet {F : Nat} {a0 : Nat} {v1 : Int32} {v2 : Int32} {h h' : ck_H} {r : Int32} (e : f_CS_dataSet F a0 v1 v2 h = some (r, h')) : Go k_CS_dataSet 0 (ck_in [.ref a0, .int v1, .int v2] 4) [] h (some (.int r), h') := by
  unfold f_CS_dataSet at e
  show Go k_CS_dataSet 0 [some (.ref a0), some (.int v1), some (.int v2), none] [] h _
  refine go_aload_n rfl rfl ?_
  replace e := ck_as_e e
  obtain ⟨hk_1, e⟩ := e
  replace e := ck_some_e e
  obtain ⟨b2, hq_3, e⟩ := e
  refine go_get (v := .ref b2) rfl rfl hk_1 (by decide) (by show va_rf (gR h a0 6) = _; rw [hq_3]; rfl) ?_
  refine go_iload_n rfl rfl ?_
  replace e := ck_as_e e
  obtain ⟨hk_4, e⟩ := e
  replace e := ck_bd_e e
  obtain ⟨r5, h6, e7, e⟩ := e
  refine go_callV (As := [.int v1]) (b0 := b2) (rest := []) rfl rfl ⟨hk_4, by decide⟩ rfl ⟨Nat.le_of_ble_eq_true rfl, Nat.le_of_ble_eq_true rfl, Nat.le_of_ble_eq_true rfl, Nat.le_of_ble_eq_true rfl⟩ (s_Vo_setAt e7) ?_
  replace e := ck_opt_e e
  rcases e with ⟨hq_8, e⟩ | ⟨b9, hq_8, e⟩
  · subst hq_8
    show Go k_CS_dataSet 8 [some (.ref a0), some (.int v1), some (.int v2), none] [.null] h6 _
    refine go_astore_nN rfl rfl ?_
    show Go k_CS_dataSet 9 [some (.ref a0), some (.int v1), some (.int v2), some .null] [] h6 _
    refine go_aload_nN rfl rfl ?_
    refine go_ifnonnullN rfl ?_
    refine go_iconst (v := (-1)) rfl (by decide) ?_
    cases e
    exact go_ret rfl rfl
  subst hq_8
  show Go k_CS_dataSet 8 [some (.ref a0), some (.int v1), some (.int v2), none] [.ref b9] h6 _
  refine go_astore_n rfl rfl ?_
  show Go k_CS_dataSet 9 [some (.ref a0), some (.int v1), some (.int v2), some (.ref b9)] [] h6 _
  refine go_aload_n rfl rfl ?_
  refine go_ifnonnull (t := 15) rfl rfl ?_
  refine go_iload_n rfl rfl ?_
  by_cases hx_10 : v2 = 0
  · rw [if_pos hx_10] at e
    refine go_tswI (off := 44) (t := 60) rfl (by rw [hx_10]; decide) (by rw [hx_10]; rfl) rfl ?_
    refine go_aload_n rfl rfl ?_
    replace e := ck_as_e e
    obtain ⟨hk_11, e⟩ := e
    refine go_get (v := .int (gI h6 b9 6)) rfl rfl hk_11 (by decide) rfl ?_
    cases e
    exact go_ret rfl rfl
  rw [if_neg hx_10] at e
  by_cases hx_12 : v2 = 1
  · rw [if_pos hx_12] at e
    refine go_tswI (off := 49) (t := 65) rfl (by rw [hx_12]; decide) (by rw [hx_12]; rfl) rfl ?_
    refine go_aload_n rfl rfl ?_
    replace e := ck_as_e e
    obtain ⟨hk_13, e⟩ := e
    refine go_get (v := .int (gI h6 b9 7)) rfl rfl hk_13 (by decide) rfl ?_
    cases e
    exact go_ret rfl rfl
  rw [if_neg hx_12] at e
  by_cases hx_14 : v2 = 2
  · rw [if_pos hx_14] at e
    refine go_tswI (off := 54) (t := 70) rfl (by rw [hx_14]; decide) (by rw [hx_14]; rfl) rfl ?_
    refine go_aload_n rfl rfl ?_
    replace e := ck_as_e e
    obtain ⟨hk_15, e⟩ := e
    refine go_get (v := .int (gI h6 b9 8)) rfl rfl hk_15 (by decide) rfl ?_
    cases e
    exact go_ret rfl rfl
  rw [if_neg hx_14] at e
  by_cases hx_16 : v2 = 3
  · rw [if_pos hx_16] at e
    refine go_tswI (off := 59) (t := 75) rfl (by rw [hx_16]; decide) (by rw [hx_16]; rfl) rfl ?_
    refine go_aload_n rfl rfl ?_
    replace e := ck_as_e e
    obtain ⟨hk_17, e⟩ := e
    replace e := ck_bd_e e
    obtain ⟨r18, h19, e20, e⟩ := e
    refine go_callV (As := []) (b0 := b9) (rest := []) rfl rfl ⟨hk_17, by decide⟩ rfl ⟨Nat.le_of_ble_eq_true rfl, Nat.le_of_ble_eq_true rfl, Nat.le_of_ble_eq_true rfl, Nat.le_of_ble_eq_true rfl⟩ (s_DS_tracks e20) ?_
    show Go k_CS_dataSet 79 [some (.ref a0), some (.int v1), some (.int v2), some (.ref b9)] [.int r18] h19 _
    cases e
    exact go_ret rfl rfl
  rw [if_neg hx_16] at e
  by_cases hx_21 : v2 = 4
  · rw [if_pos hx_21] at e
    refine go_tswI (off := 64) (t := 80) rfl (by rw [hx_21]; decide) (by rw [hx_21]; rfl) rfl ?_
    refine go_aload_n rfl rfl ?_
    replace e := ck_as_e e
    obtain ⟨hk_22, e⟩ := e
    refine go_get (v := .int (gI h6 b9 9)) rfl rfl hk_22 (by decide) rfl ?_
    cases e
    exact go_ret rfl rfl
  rw [if_neg hx_21] at e
  by_cases hx_23 : v2 = 5
  · rw [if_pos hx_23] at e
    refine go_tswI (off := 69) (t := 85) rfl (by rw [hx_23]; decide) (by rw [hx_23]; rfl) rfl ?_
    refine go_aload_n rfl rfl ?_
    refine go_iload_n rfl rfl ?_
    replace e := ck_as_e e
    obtain ⟨hk_24, e⟩ := e
    replace e := ck_bd_e e
    obtain ⟨r25, h26, e27, e⟩ := e
    refine go_callV (As := [.int v1]) (b0 := a0) (rest := []) rfl rfl ⟨hk_24, by decide⟩ rfl ⟨Nat.le_of_ble_eq_true rfl, Nat.le_of_ble_eq_true rfl, Nat.le_of_ble_eq_true rfl, Nat.le_of_ble_eq_true rfl⟩ (s_CS_openCount e27) ?_
    show Go k_CS_dataSet 90 [some (.ref a0), some (.int v1), some (.int v2), some (.ref b9)] [.int r25] h26 _
    cases e
    exact go_ret rfl rfl
  rw [if_neg hx_23] at e
  by_cases hx_28 : v2 = 6
  · rw [if_pos hx_28] at e
    refine go_tswI (off := 75) (t := 91) rfl (by rw [hx_28]; decide) (by rw [hx_28]; rfl) rfl ?_
    refine go_aload_n rfl rfl ?_
    replace e := ck_as_e e
    obtain ⟨hk_29, e⟩ := e
    replace e := ck_some_e e
    obtain ⟨b30, hq_31, e⟩ := e
    refine go_get (v := .ref b30) rfl rfl hk_29 (by decide) (by show va_rf (gR h6 b9 4) = _; rw [hq_31]; rfl) ?_
    replace e := ck_as_e e
    obtain ⟨hk_32, e⟩ := e
    refine go_get (v := .int (gI h6 b30 4)) rfl rfl hk_32 (by decide) rfl ?_
    cases e
    exact go_ret rfl rfl
  rw [if_neg hx_28] at e
  have hz_ : (v2 : Int32).toInt < 0 ∨ 6 < (v2 : Int32).toInt := by
    have z0 := lv_neT hx_10 (k := 0) (a := 0) rfl
    have z1 := lv_neT hx_12 (k := 1) (a := 1) rfl
    have z2 := lv_neT hx_14 (k := 2) (a := 2) rfl
    have z3 := lv_neT hx_16 (k := 3) (a := 3) rfl
    have z4 := lv_neT hx_21 (k := 4) (a := 4) rfl
    have z5 := lv_neT hx_23 (k := 5) (a := 5) rfl
    have z6 := lv_neT hx_28 (k := 6) (a := 6) rfl
    omega
  refine go_tswO (m := k_CS_dataSet) (pc := 16) (t := 99) (d := 83) (offs := #[44, 49, 54, 59, 64, 69, 75]) rfl hz_ rfl ?_
  refine go_aload_n rfl rfl ?_
  refine go_iload_n rfl rfl ?_
  replace e := ck_as_e e
  obtain ⟨hk_33, e⟩ := e
  replace e := ck_bd_e e
  obtain ⟨r34, h35, e36, e⟩ := e
  refine go_callV (As := [.int v2]) (b0 := b9) (rest := []) rfl rfl ⟨hk_33, by decide⟩ rfl ⟨Nat.le_of_ble_eq_true rfl, Nat.le_of_ble_eq_true rfl, Nat.le_of_ble_eq_true rfl, Nat.le_of_ble_eq_true rfl⟩ (s_DS_nameOrExtent e36) ?_
  show Go k_CS_dataSet 104 [some (.ref a0), some (.int v1), some (.int v2), some (.ref b9)] [.int r34] h35 _
  cases e
  exact go_ret rfl rfl
def f_Vo_freeTracks_L4 (F : Nat)  : Nat → Nat → Int32 → Int32 → ck_H → Option (Int32 × ck_H)
  | 0, _, _, _, _ => none
  | n + 1, a0, v1, v2, h =>
    if v2 < (80 : Int32) then
      ck_as (gk h a0 = 10) <|
      ck_some (gR h a0 2) fun b3 =>
      ck_as ((gk h b3 = 13 ∨ gk h b3 = 15) ∧ ¬ v2 < 0 ∧ (v2 : Int32).toNatClampNeg < gz h b3) <|
      if (gI h b3 (v2 : Int32).toNatClampNeg) = (0 : Int32) then
        ck_then (v1 + 1) fun x7 =>
        f_Vo_freeTracks_L4 F n a0 x7 (v2 + 1) h
      else
        ck_then (v1 + 0) fun x8 =>
        f_Vo_freeTracks_L4 F n a0 x8 (v2 + 1) h
    else
      some (v1, h)
set_option maxRecDepth 100000 in
set_option maxHeartbeats 4000000 in
theorem f_Vo_freeTracks_L4_s (F : Nat)   : ∀ (n : Nat) (a0 : Nat) (v1 : Int32) (v2 : Int32) (h : ck_H) (r : Int32) (h' : ck_H), f_Vo_freeTracks_L4 F n a0 v1 v2 h = some (r, h') → Go k_Vo_freeTracks 4 [some (.ref a0), some (.int v1), some (.int v2)] [] h (some (.int r), h') := by
  intro n
  induction n with
  | zero => intro a0 v1 v2 h r h' e; simp only [f_Vo_freeTracks_L4] at e; cases e
  | succ n ih =>
    intro a0 v1 v2 h r h' e
    rw [f_Vo_freeTracks_L4] at e
    refine go_iload_n rfl rfl ?_
    refine go_bipush (v := 80) rfl (by decide) ?_
    refine go_icmp_ge (t := 33) rfl rfl (fun hx_1 => ?_) (fun hx_1 => ?_)
    · rw [if_pos hx_1] at e
      refine go_iload_n rfl rfl ?_
      refine go_aload_n rfl rfl ?_
      replace e := ck_as_e e
      obtain ⟨hk_2, e⟩ := e
      replace e := ck_some_e e
      obtain ⟨b3, hq_4, e⟩ := e
      refine go_get (v := .ref b3) rfl rfl hk_2 (by decide) (by show va_rf (gR h a0 2) = _; rw [hq_4]; rfl) ?_
      refine go_iload_n rfl rfl ?_
      replace e := ck_as_e e
      obtain ⟨hc_5, e⟩ := e
      refine go_bald rfl hc_5 ?_
      refine go_if_eq (t := 24) rfl rfl (fun hx_6 => ?_) (fun hx_6 => ?_)
      · rw [if_pos hx_6] at e
        refine go_iconst (v := 1) rfl (by decide) ?_
        refine go_iadd rfl ?_
        generalize v1 + 1 = x7 at e ⊢
        replace e := ck_then_e e
        refine go_istore_n rfl rfl ?_
        show Go k_Vo_freeTracks 27 [some (.ref a0), some (.int x7), some (.int v2)] [] h _
        refine go_iinc (v := 1) rfl rfl (by decide) rfl ?_
        show Go k_Vo_freeTracks 30 [some (.ref a0), some (.int x7), some (.int (v2 + 1))] [] h _
        refine go_goto (t := 4) rfl rfl ?_
        refine go_forget (l := [some (.ref a0), some (.int x7), some (.int (v2 + 1))]) ⟨Or.inl rfl, Or.inl rfl, Or.inl rfl, trivial⟩ ?_
        exact ih _ _ _ _ _ _ e
      · rw [if_neg hx_6] at e
        refine go_iconst (v := 0) rfl (by decide) ?_
        refine go_goto (t := 25) rfl rfl ?_
        refine go_iadd rfl ?_
        generalize v1 + 0 = x8 at e ⊢
        replace e := ck_then_e e
        refine go_istore_n rfl rfl ?_
        show Go k_Vo_freeTracks 27 [some (.ref a0), some (.int x8), some (.int v2)] [] h _
        refine go_iinc (v := 1) rfl rfl (by decide) rfl ?_
        show Go k_Vo_freeTracks 30 [some (.ref a0), some (.int x8), some (.int (v2 + 1))] [] h _
        refine go_goto (t := 4) rfl rfl ?_
        refine go_forget (l := [some (.ref a0), some (.int x8), some (.int (v2 + 1))]) ⟨Or.inl rfl, Or.inl rfl, Or.inl rfl, trivial⟩ ?_
        exact ih _ _ _ _ _ _ e
    · rw [if_neg hx_1] at e
      refine go_iload_n rfl rfl ?_
      cases e
      exact go_ret rfl rfl
def f_Vo_freeTracks (F : Nat) (a0 : Nat) (h : ck_H) : Option (Int32 × ck_H) :=
  f_Vo_freeTracks_L4 F F a0 0 0 h
set_option maxRecDepth 100000 in
set_option maxHeartbeats 4000000 in
theorem s_Vo_freeTracks {F : Nat} {a0 : Nat} {h h' : ck_H} {r : Int32} (e : f_Vo_freeTracks F a0 h = some (r, h')) : Go k_Vo_freeTracks 0 (ck_in [.ref a0] 3) [] h (some (.int r), h') := by
  unfold f_Vo_freeTracks at e
  show Go k_Vo_freeTracks 0 [some (.ref a0), none, none] [] h _
  refine go_iconst (v := 0) rfl (by decide) ?_
  refine go_istore_n rfl rfl ?_
  show Go k_Vo_freeTracks 2 [some (.ref a0), some (.int 0), none] [] h _
  refine go_iconst (v := 0) rfl (by decide) ?_
  refine go_istore_n rfl rfl ?_
  show Go k_Vo_freeTracks 4 [some (.ref a0), some (.int 0), some (.int 0)] [] h _
  refine go_forget (l := [some (.ref a0), some (.int 0), some (.int 0)]) ⟨Or.inl rfl, Or.inl rfl, Or.inl rfl, trivial⟩ ?_
  exact f_Vo_freeTracks_L4_s F F _ _ _ _ _ _ e
def f_Vo_setCount_L4 (F : Nat)  : Nat → Nat → Int32 → Int32 → ck_H → Option (Int32 × ck_H)
  | 0, _, _, _, _ => none
  | n + 1, a0, v1, v2, h =>
    if v2 < (10 : Int32) then
      ck_as (gk h a0 = 10) <|
      ck_some (gR h a0 1) fun b3 =>
      ck_as ((16 ≤ gk h b3 ∧ gk h b3 ≤ 20) ∧ ¬ v2 < 0 ∧ (v2 : Int32).toNatClampNeg < gz h b3) <|
      ck_some (gR h b3 (v2 : Int32).toNatClampNeg) fun b6 =>
      ck_as (gk h b6 = 2) <|
      if (gI h b6 5) = (0 : Int32) then
        ck_then (v1 + 0) fun x10 =>
        f_Vo_setCount_L4 F n a0 x10 (v2 + 1) h
      else
        ck_then (v1 + 1) fun x11 =>
        f_Vo_setCount_L4 F n a0 x11 (v2 + 1) h
    else
      some (v1, h)
set_option maxRecDepth 100000 in
set_option maxHeartbeats 4000000 in
theorem f_Vo_setCount_L4_s (F : Nat)   : ∀ (n : Nat) (a0 : Nat) (v1 : Int32) (v2 : Int32) (h : ck_H) (r : Int32) (h' : ck_H), f_Vo_setCount_L4 F n a0 v1 v2 h = some (r, h') → Go k_Vo_setCount 4 [some (.ref a0), some (.int v1), some (.int v2)] [] h (some (.int r), h') := by
  intro n
  induction n with
  | zero => intro a0 v1 v2 h r h' e; simp only [f_Vo_setCount_L4] at e; cases e
  | succ n ih =>
    intro a0 v1 v2 h r h' e
    rw [f_Vo_setCount_L4] at e
    refine go_iload_n rfl rfl ?_
    refine go_bipush (v := 10) rfl (by decide) ?_
    refine go_icmp_ge (t := 36) rfl rfl (fun hx_1 => ?_) (fun hx_1 => ?_)
    · rw [if_pos hx_1] at e
      refine go_iload_n rfl rfl ?_
      refine go_aload_n rfl rfl ?_
      replace e := ck_as_e e
      obtain ⟨hk_2, e⟩ := e
      replace e := ck_some_e e
      obtain ⟨b3, hq_4, e⟩ := e
      refine go_get (v := .ref b3) rfl rfl hk_2 (by decide) (by show va_rf (gR h a0 1) = _; rw [hq_4]; rfl) ?_
      refine go_iload_n rfl rfl ?_
      replace e := ck_as_e e
      obtain ⟨hc_5, e⟩ := e
      replace e := ck_some_e e
      obtain ⟨b6, hq_7, e⟩ := e
      refine go_aald (v := .ref b6) rfl hc_5 (by rw [hq_7]; rfl) ?_
      replace e := ck_as_e e
      obtain ⟨hk_8, e⟩ := e
      refine go_get (v := .int (gI h b6 5)) rfl rfl hk_8 (by decide) rfl ?_
      refine go_if_eq (t := 27) rfl rfl (fun hx_9 => ?_) (fun hx_9 => ?_)
      · rw [if_pos hx_9] at e
        refine go_iconst (v := 0) rfl (by decide) ?_
        refine go_iadd rfl ?_
        generalize v1 + 0 = x10 at e ⊢
        replace e := ck_then_e e
        refine go_istore_n rfl rfl ?_
        show Go k_Vo_setCount 30 [some (.ref a0), some (.int x10), some (.int v2)] [] h _
        refine go_iinc (v := 1) rfl rfl (by decide) rfl ?_
        show Go k_Vo_setCount 33 [some (.ref a0), some (.int x10), some (.int (v2 + 1))] [] h _
        refine go_goto (t := 4) rfl rfl ?_
        refine go_forget (l := [some (.ref a0), some (.int x10), some (.int (v2 + 1))]) ⟨Or.inl rfl, Or.inl rfl, Or.inl rfl, trivial⟩ ?_
        exact ih _ _ _ _ _ _ e
      · rw [if_neg hx_9] at e
        refine go_iconst (v := 1) rfl (by decide) ?_
        refine go_goto (t := 28) rfl rfl ?_
        refine go_iadd rfl ?_
        generalize v1 + 1 = x11 at e ⊢
        replace e := ck_then_e e
        refine go_istore_n rfl rfl ?_
        show Go k_Vo_setCount 30 [some (.ref a0), some (.int x11), some (.int v2)] [] h _
        refine go_iinc (v := 1) rfl rfl (by decide) rfl ?_
        show Go k_Vo_setCount 33 [some (.ref a0), some (.int x11), some (.int (v2 + 1))] [] h _
        refine go_goto (t := 4) rfl rfl ?_
        refine go_forget (l := [some (.ref a0), some (.int x11), some (.int (v2 + 1))]) ⟨Or.inl rfl, Or.inl rfl, Or.inl rfl, trivial⟩ ?_
        exact ih _ _ _ _ _ _ e
    · rw [if_neg hx_1] at e
      refine go_iload_n rfl rfl ?_
      cases e
      exact go_ret rfl rfl
def f_Vo_setCount (F : Nat) (a0 : Nat) (h : ck_H) : Option (Int32 × ck_H) :=
  f_Vo_setCount_L4 F F a0 0 0 h
set_option maxRecDepth 100000 in
set_option maxHeartbeats 4000000 in
theorem s_Vo_setCount {F : Nat} {a0 : Nat} {h h' : ck_H} {r : Int32} (e : f_Vo_setCount F a0 h = some (r, h')) : Go k_Vo_setCount 0 (ck_in [.ref a0] 3) [] h (some (.int r), h') := by
  unfold f_Vo_setCount at e
  show Go k_Vo_setCount 0 [some (.ref a0), none, none] [] h _
  refine go_iconst (v := 0) rfl (by decide) ?_
  refine go_istore_n rfl rfl ?_
  show Go k_Vo_setCount 2 [some (.ref a0), some (.int 0), none] [] h _
  refine go_iconst (v := 0) rfl (by decide) ?_
  refine go_istore_n rfl rfl ?_
  show Go k_Vo_setCount 4 [some (.ref a0), some (.int 0), some (.int 0)] [] h _
  refine go_forget (l := [some (.ref a0), some (.int 0), some (.int 0)]) ⟨Or.inl rfl, Or.inl rfl, Or.inl rfl, trivial⟩ ?_
  exact f_Vo_setCount_L4_s F F _ _ _ _ _ _ e
def f_Op_isOpen (F : Nat) (a0 : Nat) (h : ck_H) : Option (Int32 × ck_H) :=
  ck_as (gk h a0 = 5) <|
  ck_opt (gR h a0 4) (
    some (0, h)
  ) fun b3 =>
  some (1, h)
set_option maxRecDepth 100000 in
set_option maxHeartbeats 4000000 in
theorem s_Op_isOpen {F : Nat} {a0 : Nat} {h h' : ck_H} {r : Int32} (e : f_Op_isOpen F a0 h = some (r, h')) : Go k_Op_isOpen 0 (ck_in [.ref a0] 1) [] h (some (.int r), h') := by
  unfold f_Op_isOpen at e
  show Go k_Op_isOpen 0 [some (.ref a0)] [] h _
  refine go_aload_n rfl rfl ?_
  replace e := ck_as_e e
  obtain ⟨hk_1, e⟩ := e
  replace e := ck_opt_e e
  rcases e with ⟨hq_2, e⟩ | ⟨b3, hq_2, e⟩
  · refine go_get (v := .null) rfl rfl hk_1 (by decide) (by show va_rf (gR h a0 4) = _; rw [hq_2]; rfl) ?_
    refine go_ifnullN (t := 11) rfl rfl ?_
    refine go_iconst (v := 0) rfl (by decide) ?_
    cases e
    exact go_ret rfl (ck_rvb rfl (Or.inl rfl))
  refine go_get (v := .ref b3) rfl rfl hk_1 (by decide) (by show va_rf (gR h a0 4) = _; rw [hq_2]; rfl) ?_
  refine go_ifnull rfl ?_
  refine go_iconst (v := 1) rfl (by decide) ?_
  refine go_goto (t := 12) rfl rfl ?_
  cases e
  exact go_ret rfl (ck_rvb rfl (Or.inr rfl))
