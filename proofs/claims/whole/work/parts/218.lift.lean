def f_RM_putSpanned_J172 (F : Nat) (k6 : Nat → Int32 → Int32 → Int32 → Int32 → Int32 → ck_H → Option (Unit × ck_H)) (a0 : Nat) (v1 : Int32) (v2 : Int32) (v3 : Int32) (v4 : Int32) (v6 : Int32) (s0 : Int32) (s1 : Int32) (s2 : Nat) (h : ck_H) : Option (Unit × ck_H) :=
  ck_as (gk h s2 = 13 ∧ ¬ s1 < 0 ∧ (s1 : Int32).toNatClampNeg < gz h s2) <|
  ck_then (wI h s2 (s1 : Int32).toNatClampNeg ((s0 : Int32).toInt8.toInt32 : Int32).toInt8.toInt32) fun h2 =>
  ck_as (gk h2 a0 = 12) <|
  ck_some (gR h2 a0 54) fun b4 =>
  ck_as ((gk h2 b4 = 14 ∨ gk h2 b4 = 21) ∧ ¬ v1 < 0 ∧ (v1 : Int32).toNatClampNeg < gz h2 b4) <|
  ck_as (gk h2 b4 = 14 ∧ ¬ v1 < 0 ∧ (v1 : Int32).toNatClampNeg < gz h2 b4) <|
  ck_then (wI h2 b4 (v1 : Int32).toNatClampNeg ((gI h2 b4 (v1 : Int32).toNatClampNeg) + 3)) fun h8 =>
  ck_bd (f_RM_bytes F a0 v1 v4 v6 h8) fun _ h11 =>
  ck_as (gk h11 a0 = 12) <|
  ck_bd (f_RM_tellSize F a0 v1 h11) fun _ h15 =>
  ck_then (v4 + v6) fun x17 =>
  if x17 < v3 then
    k6 a0 v1 v2 v3 x17 1 h15
  else
    k6 a0 v1 v2 v3 x17 0 h15
set_option maxRecDepth 100000 in
set_option maxHeartbeats 4000000 in
theorem f_RM_putSpanned_J172_s (F : Nat) (k6 : Nat → Int32 → Int32 → Int32 → Int32 → Int32 → ck_H → Option (Unit × ck_H)) (hk6 : ∀ (a0 : Nat) (v1 : Int32) (v2 : Int32) (v3 : Int32) (v4 : Int32) (v5 : Int32) (h : ck_H) (r : Unit) (h' : ck_H), k6 a0 v1 v2 v3 v4 v5 h = some (r, h') → Go k_RM_putSpanned 6 [some (.ref a0), some (.int v1), some (.int v2), some (.int v3), some (.int v4), some (.int v5), none, none, none] [] h (none, h')) (a0 : Nat) (v1 : Int32) (v2 : Int32) (v3 : Int32) (v4 : Int32) (v6 : Int32) (s0 : Int32) (s1 : Int32) (s2 : Nat) (h : ck_H) (r : Unit) (h' : ck_H) (e : f_RM_putSpanned_J172 F k6 a0 v1 v2 v3 v4 v6 s0 s1 s2 h = some (r, h')) : Go k_RM_putSpanned 172 [some (.ref a0), some (.int v1), some (.int v2), some (.int v3), some (.int v4), none, some (.int v6), none, none] [.int s0, .int s1, .ref s2] h (none, h') := by
  unfold f_RM_putSpanned_J172 at e
  refine go_i2b rfl ?_
  replace e := ck_as_e e
  obtain ⟨hc_1, e⟩ := e
  refine go_bast rfl hc_1 ?_
  generalize wI h s2 (s1 : Int32).toNatClampNeg ((s0 : Int32).toInt8.toInt32 : Int32).toInt8.toInt32 = h2 at e  ⊢
  replace e := ck_then_e e
  refine go_aload_n rfl rfl ?_
  replace e := ck_as_e e
  obtain ⟨hk_3, e⟩ := e
  replace e := ck_some_e e
  obtain ⟨b4, hq_5, e⟩ := e
  refine go_get (v := .ref b4) rfl rfl hk_3 (by decide) (by show va_rf (gR h2 a0 54) = _; rw [hq_5]; rfl) ?_
  refine go_iload_n rfl rfl ?_
  refine go_dup2 rfl rfl rfl ?_
  replace e := ck_as_e e
  obtain ⟨hc_6, e⟩ := e
  refine go_iald rfl hc_6 ?_
  refine go_iconst (v := 3) rfl (by decide) ?_
  refine go_iadd rfl ?_
  replace e := ck_as_e e
  obtain ⟨hc_7, e⟩ := e
  refine go_iast rfl hc_7 ?_
  have hk_9 : gk (wI h2 b4 (v1 : Int32).toNatClampNeg ((gI h2 b4 (v1 : Int32).toNatClampNeg) + 3)) a0 = 12 := ck_kI.trans hk_3
  generalize wI h2 b4 (v1 : Int32).toNatClampNeg ((gI h2 b4 (v1 : Int32).toNatClampNeg) + 3) = h8 at e hk_9 ⊢
  replace e := ck_then_e e
  refine go_aload_n rfl rfl ?_
  refine go_iload_n rfl rfl ?_
  refine go_iload rfl rfl ?_
  refine go_iload rfl rfl ?_
  replace e := ck_bd_e e
  obtain ⟨r10, h11, e12, e⟩ := e
  refine go_callV (As := [.int v1, .int v4, .int v6]) (b0 := a0) (rest := []) rfl rfl ⟨hk_9, by decide⟩ rfl ⟨Nat.le_of_ble_eq_true rfl, Nat.le_of_ble_eq_true rfl, Nat.le_of_ble_eq_true rfl, Nat.le_of_ble_eq_true rfl⟩ (s_RM_bytes e12) ?_
  show Go k_RM_putSpanned 193 [some (.ref a0), some (.int v1), some (.int v2), some (.int v3), some (.int v4), none, some (.int v6), none, none] [] h11 _
  refine go_aload_n rfl rfl ?_
  refine go_iload_n rfl rfl ?_
  replace e := ck_as_e e
  obtain ⟨hk_13, e⟩ := e
  replace e := ck_bd_e e
  obtain ⟨r14, h15, e16, e⟩ := e
  refine go_callV (As := [.int v1]) (b0 := a0) (rest := []) rfl rfl ⟨hk_13, by decide⟩ rfl ⟨Nat.le_of_ble_eq_true rfl, Nat.le_of_ble_eq_true rfl, Nat.le_of_ble_eq_true rfl, Nat.le_of_ble_eq_true rfl⟩ (s_RM_tellSize e16) ?_
  show Go k_RM_putSpanned 198 [some (.ref a0), some (.int v1), some (.int v2), some (.int v3), some (.int v4), none, some (.int v6), none, none] [] h15 _
  refine go_iload rfl rfl ?_
  refine go_iload rfl rfl ?_
  refine go_iadd rfl ?_
  generalize v4 + v6 = x17 at e ⊢
  replace e := ck_then_e e
  refine go_istore rfl rfl ?_
  show Go k_RM_putSpanned 205 [some (.ref a0), some (.int v1), some (.int v2), some (.int v3), some (.int x17), none, some (.int v6), none, none] [] h15 _
  refine go_iload rfl rfl ?_
  refine go_iload_n rfl rfl ?_
  refine go_icmp_ge (t := 215) rfl rfl (fun hx_18 => ?_) (fun hx_18 => ?_)
  · rw [if_pos hx_18] at e
    refine go_iconst (v := 1) rfl (by decide) ?_
    refine go_goto (t := 216) rfl rfl ?_
    refine go_istore rfl rfl ?_
    show Go k_RM_putSpanned 218 [some (.ref a0), some (.int v1), some (.int v2), some (.int v3), some (.int x17), some (.int 1), some (.int v6), none, none] [] h15 _
    refine go_goto (t := 6) rfl rfl ?_
    refine go_forget (l := [some (.ref a0), some (.int v1), some (.int v2), some (.int v3), some (.int x17), some (.int 1), none, none, none]) ⟨Or.inl rfl, Or.inl rfl, Or.inl rfl, Or.inl rfl, Or.inl rfl, Or.inl rfl, Or.inr ⟨rfl, fun _ q => by cases q; rfl⟩, Or.inl rfl, Or.inl rfl, trivial⟩ ?_
    exact hk6 _ _ _ _ _ _ _ _ _ e
  · rw [if_neg hx_18] at e
    refine go_iconst (v := 0) rfl (by decide) ?_
    refine go_istore rfl rfl ?_
    show Go k_RM_putSpanned 218 [some (.ref a0), some (.int v1), some (.int v2), some (.int v3), some (.int x17), some (.int 0), some (.int v6), none, none] [] h15 _
    refine go_goto (t := 6) rfl rfl ?_
    refine go_forget (l := [some (.ref a0), some (.int v1), some (.int v2), some (.int v3), some (.int x17), some (.int 0), none, none, none]) ⟨Or.inl rfl, Or.inl rfl, Or.inl rfl, Or.inl rfl, Or.inl rfl, Or.inl rfl, Or.inr ⟨rfl, fun _ q => by cases q; rfl⟩, Or.inl rfl, Or.inl rfl, trivial⟩ ?_
    exact hk6 _ _ _ _ _ _ _ _ _ e
def f_RM_putSpanned_J101 (F : Nat) (k6 : Nat → Int32 → Int32 → Int32 → Int32 → Int32 → ck_H → Option (Unit × ck_H)) (a0 : Nat) (v1 : Int32) (v2 : Int32) (v3 : Int32) (v4 : Int32) (v6 : Int32) (v7 : Int32) (s0 : Int32) (h : ck_H) : Option (Unit × ck_H) :=
  ck_as (gk h a0 = 12) <|
  ck_some (gR h a0 53) fun b2 =>
  ck_some (gR h a0 54) fun b4 =>
  ck_as ((gk h b4 = 14 ∨ gk h b4 = 21) ∧ ¬ v1 < 0 ∧ (v1 : Int32).toNatClampNeg < gz h b4) <|
  ck_bd (f_RM_putTwo F b2 ((1200 * v1) + (gI h b4 (v1 : Int32).toNatClampNeg)) (v6 + 3) h) fun _ h8 =>
  ck_as (gk h8 a0 = 12) <|
  ck_some (gR h8 a0 53) fun b11 =>
  ck_some (gR h8 a0 54) fun b13 =>
  ck_as ((gk h8 b13 = 14 ∨ gk h8 b13 = 21) ∧ ¬ v1 < 0 ∧ (v1 : Int32).toNatClampNeg < gz h8 b13) <|
  if v7 = (0 : Int32) then
    if s0 = (0 : Int32) then
      f_RM_putSpanned_J172 F k6 a0 v1 v2 v3 v4 v6 3 (((1200 * v1) + (gI h8 b13 (v1 : Int32).toNatClampNeg)) + 2) b11 h8
    else
      f_RM_putSpanned_J172 F k6 a0 v1 v2 v3 v4 v6 2 (((1200 * v1) + (gI h8 b13 (v1 : Int32).toNatClampNeg)) + 2) b11 h8
  else
    if s0 = (0 : Int32) then
      f_RM_putSpanned_J172 F k6 a0 v1 v2 v3 v4 v6 1 (((1200 * v1) + (gI h8 b13 (v1 : Int32).toNatClampNeg)) + 2) b11 h8
    else
      f_RM_putSpanned_J172 F k6 a0 v1 v2 v3 v4 v6 0 (((1200 * v1) + (gI h8 b13 (v1 : Int32).toNatClampNeg)) + 2) b11 h8
set_option maxRecDepth 100000 in
set_option maxHeartbeats 4000000 in
theorem f_RM_putSpanned_J101_s (F : Nat) (k6 : Nat → Int32 → Int32 → Int32 → Int32 → Int32 → ck_H → Option (Unit × ck_H)) (hk6 : ∀ (a0 : Nat) (v1 : Int32) (v2 : Int32) (v3 : Int32) (v4 : Int32) (v5 : Int32) (h : ck_H) (r : Unit) (h' : ck_H), k6 a0 v1 v2 v3 v4 v5 h = some (r, h') → Go k_RM_putSpanned 6 [some (.ref a0), some (.int v1), some (.int v2), some (.int v3), some (.int v4), some (.int v5), none, none, none] [] h (none, h')) (a0 : Nat) (v1 : Int32) (v2 : Int32) (v3 : Int32) (v4 : Int32) (v6 : Int32) (v7 : Int32) (s0 : Int32) (h : ck_H) (r : Unit) (h' : ck_H) (e : f_RM_putSpanned_J101 F k6 a0 v1 v2 v3 v4 v6 v7 s0 h = some (r, h')) : Go k_RM_putSpanned 101 [some (.ref a0), some (.int v1), some (.int v2), some (.int v3), some (.int v4), none, some (.int v6), some (.int v7), none] [.int s0] h (none, h') := by
  unfold f_RM_putSpanned_J101 at e
  refine go_istore rfl rfl ?_
  show Go k_RM_putSpanned 103 [some (.ref a0), some (.int v1), some (.int v2), some (.int v3), some (.int v4), none, some (.int v6), some (.int v7), some (.int s0)] [] h _
  refine go_aload_n rfl rfl ?_
  replace e := ck_as_e e
  obtain ⟨hk_1, e⟩ := e
  replace e := ck_some_e e
  obtain ⟨b2, hq_3, e⟩ := e
  refine go_get (v := .ref b2) rfl rfl hk_1 (by decide) (by show va_rf (gR h a0 53) = _; rw [hq_3]; rfl) ?_
  refine go_sipush (v := 1200) rfl (by decide) ?_
  refine go_iload_n rfl rfl ?_
  refine go_imul rfl ?_
  refine go_aload_n rfl rfl ?_
  replace e := ck_some_e e
  obtain ⟨b4, hq_5, e⟩ := e
  refine go_get (v := .ref b4) rfl rfl hk_1 (by decide) (by show va_rf (gR h a0 54) = _; rw [hq_5]; rfl) ?_
  refine go_iload_n rfl rfl ?_
  replace e := ck_as_e e
  obtain ⟨hc_6, e⟩ := e
  refine go_iald rfl hc_6 ?_
  refine go_iadd rfl ?_
  refine go_iload rfl rfl ?_
  refine go_iconst (v := 3) rfl (by decide) ?_
  refine go_iadd rfl ?_
  replace e := ck_bd_e e
  obtain ⟨r7, h8, e9, e⟩ := e
  refine go_callS (As := [.ref b2, .int ((1200 * v1) + (gI h b4 (v1 : Int32).toNatClampNeg)), .int (v6 + 3)]) (rest := []) rfl rfl rfl ⟨Nat.le_of_ble_eq_true rfl, Nat.le_of_ble_eq_true rfl, Nat.le_of_ble_eq_true rfl, Nat.le_of_ble_eq_true rfl⟩ (s_RM_putTwo e9) ?_
  show Go k_RM_putSpanned 126 [some (.ref a0), some (.int v1), some (.int v2), some (.int v3), some (.int v4), none, some (.int v6), some (.int v7), some (.int s0)] [] h8 _
  refine go_aload_n rfl rfl ?_
  replace e := ck_as_e e
  obtain ⟨hk_10, e⟩ := e
  replace e := ck_some_e e
  obtain ⟨b11, hq_12, e⟩ := e
  refine go_get (v := .ref b11) rfl rfl hk_10 (by decide) (by show va_rf (gR h8 a0 53) = _; rw [hq_12]; rfl) ?_
  refine go_sipush (v := 1200) rfl (by decide) ?_
  refine go_iload_n rfl rfl ?_
  refine go_imul rfl ?_
  refine go_aload_n rfl rfl ?_
  replace e := ck_some_e e
  obtain ⟨b13, hq_14, e⟩ := e
  refine go_get (v := .ref b13) rfl rfl hk_10 (by decide) (by show va_rf (gR h8 a0 54) = _; rw [hq_14]; rfl) ?_
  refine go_iload_n rfl rfl ?_
  replace e := ck_as_e e
  obtain ⟨hc_15, e⟩ := e
  refine go_iald rfl hc_15 ?_
  refine go_iadd rfl ?_
  refine go_iconst (v := 2) rfl (by decide) ?_
  refine go_iadd rfl ?_
  refine go_iload rfl rfl ?_
  refine go_if_eq (t := 162) rfl rfl (fun hx_16 => ?_) (fun hx_16 => ?_)
  · rw [if_pos hx_16] at e
    refine go_iload rfl rfl ?_
    refine go_if_eq (t := 171) rfl rfl (fun hx_17 => ?_) (fun hx_17 => ?_)
    · rw [if_pos hx_17] at e
      refine go_iconst (v := 3) rfl (by decide) ?_
      refine go_forget (l := [some (.ref a0), some (.int v1), some (.int v2), some (.int v3), some (.int v4), none, some (.int v6), none, none]) ⟨Or.inl rfl, Or.inl rfl, Or.inl rfl, Or.inl rfl, Or.inl rfl, Or.inl rfl, Or.inl rfl, Or.inr ⟨rfl, fun _ q => by cases q; rfl⟩, Or.inr ⟨rfl, fun _ q => by cases q; rfl⟩, trivial⟩ ?_
      exact f_RM_putSpanned_J172_s F k6 hk6 a0 v1 v2 v3 v4 v6 3 (((1200 * v1) + (gI h8 b13 (v1 : Int32).toNatClampNeg)) + 2) b11 _ _ _ e
    · rw [if_neg hx_17] at e
      refine go_iconst (v := 2) rfl (by decide) ?_
      refine go_goto (t := 172) rfl rfl ?_
      refine go_forget (l := [some (.ref a0), some (.int v1), some (.int v2), some (.int v3), some (.int v4), none, some (.int v6), none, none]) ⟨Or.inl rfl, Or.inl rfl, Or.inl rfl, Or.inl rfl, Or.inl rfl, Or.inl rfl, Or.inl rfl, Or.inr ⟨rfl, fun _ q => by cases q; rfl⟩, Or.inr ⟨rfl, fun _ q => by cases q; rfl⟩, trivial⟩ ?_
      exact f_RM_putSpanned_J172_s F k6 hk6 a0 v1 v2 v3 v4 v6 2 (((1200 * v1) + (gI h8 b13 (v1 : Int32).toNatClampNeg)) + 2) b11 _ _ _ e
  · rw [if_neg hx_16] at e
    refine go_iload rfl rfl ?_
    refine go_if_eq (t := 158) rfl rfl (fun hx_19 => ?_) (fun hx_19 => ?_)
    · rw [if_pos hx_19] at e
      refine go_iconst (v := 1) rfl (by decide) ?_
      refine go_goto (t := 172) rfl rfl ?_
      refine go_forget (l := [some (.ref a0), some (.int v1), some (.int v2), some (.int v3), some (.int v4), none, some (.int v6), none, none]) ⟨Or.inl rfl, Or.inl rfl, Or.inl rfl, Or.inl rfl, Or.inl rfl, Or.inl rfl, Or.inl rfl, Or.inr ⟨rfl, fun _ q => by cases q; rfl⟩, Or.inr ⟨rfl, fun _ q => by cases q; rfl⟩, trivial⟩ ?_
      exact f_RM_putSpanned_J172_s F k6 hk6 a0 v1 v2 v3 v4 v6 1 (((1200 * v1) + (gI h8 b13 (v1 : Int32).toNatClampNeg)) + 2) b11 _ _ _ e
    · rw [if_neg hx_19] at e
      refine go_iconst (v := 0) rfl (by decide) ?_
      refine go_goto (t := 172) rfl rfl ?_
      refine go_forget (l := [some (.ref a0), some (.int v1), some (.int v2), some (.int v3), some (.int v4), none, some (.int v6), none, none]) ⟨Or.inl rfl, Or.inl rfl, Or.inl rfl, Or.inl rfl, Or.inl rfl, Or.inl rfl, Or.inl rfl, Or.inr ⟨rfl, fun _ q => by cases q; rfl⟩, Or.inr ⟨rfl, fun _ q => by cases q; rfl⟩, trivial⟩ ?_
      exact f_RM_putSpanned_J172_s F k6 hk6 a0 v1 v2 v3 v4 v6 0 (((1200 * v1) + (gI h8 b13 (v1 : Int32).toNatClampNeg)) + 2) b11 _ _ _ e
def f_RM_putSpanned_J85 (F : Nat) (k6 : Nat → Int32 → Int32 → Int32 → Int32 → Int32 → ck_H → Option (Unit × ck_H)) (a0 : Nat) (v1 : Int32) (v2 : Int32) (v3 : Int32) (v4 : Int32) (v6 : Int32) (s0 : Int32) (h : ck_H) : Option (Unit × ck_H) :=
  if (v4 + v6) = v3 then
    f_RM_putSpanned_J101 F k6 a0 v1 v2 v3 v4 v6 s0 1 h
  else
    f_RM_putSpanned_J101 F k6 a0 v1 v2 v3 v4 v6 s0 0 h
set_option maxRecDepth 100000 in
set_option maxHeartbeats 4000000 in
theorem f_RM_putSpanned_J85_s (F : Nat) (k6 : Nat → Int32 → Int32 → Int32 → Int32 → Int32 → ck_H → Option (Unit × ck_H)) (hk6 : ∀ (a0 : Nat) (v1 : Int32) (v2 : Int32) (v3 : Int32) (v4 : Int32) (v5 : Int32) (h : ck_H) (r : Unit) (h' : ck_H), k6 a0 v1 v2 v3 v4 v5 h = some (r, h') → Go k_RM_putSpanned 6 [some (.ref a0), some (.int v1), some (.int v2), some (.int v3), some (.int v4), some (.int v5), none, none, none] [] h (none, h')) (a0 : Nat) (v1 : Int32) (v2 : Int32) (v3 : Int32) (v4 : Int32) (v6 : Int32) (s0 : Int32) (h : ck_H) (r : Unit) (h' : ck_H) (e : f_RM_putSpanned_J85 F k6 a0 v1 v2 v3 v4 v6 s0 h = some (r, h')) : Go k_RM_putSpanned 85 [some (.ref a0), some (.int v1), some (.int v2), some (.int v3), some (.int v4), none, some (.int v6), none, none] [.int s0] h (none, h') := by
  unfold f_RM_putSpanned_J85 at e
  refine go_istore rfl rfl ?_
  show Go k_RM_putSpanned 87 [some (.ref a0), some (.int v1), some (.int v2), some (.int v3), some (.int v4), none, some (.int v6), some (.int s0), none] [] h _
  refine go_iload rfl rfl ?_
  refine go_iload rfl rfl ?_
  refine go_iadd rfl ?_
  refine go_iload_n rfl rfl ?_
  refine go_icmp_ne (t := 100) rfl rfl (fun hx_1 => ?_) (fun hx_1 => ?_)
  · rw [if_pos hx_1] at e
    refine go_iconst (v := 1) rfl (by decide) ?_
    refine go_goto (t := 101) rfl rfl ?_
    refine go_forget (l := [some (.ref a0), some (.int v1), some (.int v2), some (.int v3), some (.int v4), none, some (.int v6), some (.int s0), none]) ⟨Or.inl rfl, Or.inl rfl, Or.inl rfl, Or.inl rfl, Or.inl rfl, Or.inl rfl, Or.inl rfl, Or.inl rfl, Or.inl rfl, trivial⟩ ?_
    exact f_RM_putSpanned_J101_s F k6 hk6 a0 v1 v2 v3 v4 v6 s0 1 _ _ _ e
  · rw [if_neg hx_1] at e
    refine go_iconst (v := 0) rfl (by decide) ?_
    refine go_forget (l := [some (.ref a0), some (.int v1), some (.int v2), some (.int v3), some (.int v4), none, some (.int v6), some (.int s0), none]) ⟨Or.inl rfl, Or.inl rfl, Or.inl rfl, Or.inl rfl, Or.inl rfl, Or.inl rfl, Or.inl rfl, Or.inl rfl, Or.inl rfl, trivial⟩ ?_
    exact f_RM_putSpanned_J101_s F k6 hk6 a0 v1 v2 v3 v4 v6 s0 0 _ _ _ e
def f_RM_putSpanned_J51 (F : Nat) (k6 : Nat → Int32 → Int32 → Int32 → Int32 → Int32 → ck_H → Option (Unit × ck_H)) (a0 : Nat) (v1 : Int32) (v2 : Int32) (v3 : Int32) (v4 : Int32) (h : ck_H) : Option (Unit × ck_H) :=
  ck_as (gk h a0 = 12) <|
  ck_some (gR h a0 37) fun b2 =>
  ck_as ((gk h b2 = 14 ∨ gk h b2 = 21) ∧ ¬ v2 < 0 ∧ (v2 : Int32).toNatClampNeg < gz h b2) <|
  ck_some (gR h a0 54) fun b5 =>
  ck_as ((gk h b5 = 14 ∨ gk h b5 = 21) ∧ ¬ v1 < 0 ∧ (v1 : Int32).toNatClampNeg < gz h b5) <|
  ck_bd (f_Ma_min F (v3 - v4) (((gI h b2 (v2 : Int32).toNatClampNeg) - (gI h b5 (v1 : Int32).toNatClampNeg)) - 3) h) fun r8 h9 =>
  if v4 = (0 : Int32) then
    f_RM_putSpanned_J85 F k6 a0 v1 v2 v3 v4 r8 1 h9
  else
    f_RM_putSpanned_J85 F k6 a0 v1 v2 v3 v4 r8 0 h9
set_option maxRecDepth 100000 in
set_option maxHeartbeats 4000000 in
theorem f_RM_putSpanned_J51_s (F : Nat) (k6 : Nat → Int32 → Int32 → Int32 → Int32 → Int32 → ck_H → Option (Unit × ck_H)) (hk6 : ∀ (a0 : Nat) (v1 : Int32) (v2 : Int32) (v3 : Int32) (v4 : Int32) (v5 : Int32) (h : ck_H) (r : Unit) (h' : ck_H), k6 a0 v1 v2 v3 v4 v5 h = some (r, h') → Go k_RM_putSpanned 6 [some (.ref a0), some (.int v1), some (.int v2), some (.int v3), some (.int v4), some (.int v5), none, none, none] [] h (none, h')) (a0 : Nat) (v1 : Int32) (v2 : Int32) (v3 : Int32) (v4 : Int32) (h : ck_H) (r : Unit) (h' : ck_H) (e : f_RM_putSpanned_J51 F k6 a0 v1 v2 v3 v4 h = some (r, h')) : Go k_RM_putSpanned 51 [some (.ref a0), some (.int v1), some (.int v2), some (.int v3), some (.int v4), none, none, none, none] [] h (none, h') := by
  unfold f_RM_putSpanned_J51 at e
  refine go_iload_n rfl rfl ?_
  refine go_iload rfl rfl ?_
  refine go_isub rfl ?_
  refine go_aload_n rfl rfl ?_
  replace e := ck_as_e e
  obtain ⟨hk_1, e⟩ := e
  replace e := ck_some_e e
  obtain ⟨b2, hq_3, e⟩ := e
  refine go_get (v := .ref b2) rfl rfl hk_1 (by decide) (by show va_rf (gR h a0 37) = _; rw [hq_3]; rfl) ?_
  refine go_iload_n rfl rfl ?_
  replace e := ck_as_e e
  obtain ⟨hc_4, e⟩ := e
  refine go_iald rfl hc_4 ?_
  refine go_aload_n rfl rfl ?_
  replace e := ck_some_e e
  obtain ⟨b5, hq_6, e⟩ := e
  refine go_get (v := .ref b5) rfl rfl hk_1 (by decide) (by show va_rf (gR h a0 54) = _; rw [hq_6]; rfl) ?_
  refine go_iload_n rfl rfl ?_
  replace e := ck_as_e e
  obtain ⟨hc_7, e⟩ := e
  refine go_iald rfl hc_7 ?_
  refine go_isub rfl ?_
  refine go_iconst (v := 3) rfl (by decide) ?_
  refine go_isub rfl ?_
  replace e := ck_bd_e e
  obtain ⟨r8, h9, e10, e⟩ := e
  refine go_callS (As := [.int (v3 - v4), .int (((gI h b2 (v2 : Int32).toNatClampNeg) - (gI h b5 (v1 : Int32).toNatClampNeg)) - 3)]) (rest := []) rfl rfl rfl ⟨Nat.le_of_ble_eq_true rfl, Nat.le_of_ble_eq_true rfl, Nat.le_of_ble_eq_true rfl, Nat.le_of_ble_eq_true rfl⟩ (s_Ma_min e10) ?_
  show Go k_RM_putSpanned 73 [some (.ref a0), some (.int v1), some (.int v2), some (.int v3), some (.int v4), none, none, none, none] [.int r8] h9 _
  refine go_istore rfl rfl ?_
  show Go k_RM_putSpanned 75 [some (.ref a0), some (.int v1), some (.int v2), some (.int v3), some (.int v4), none, some (.int r8), none, none] [] h9 _
  refine go_iload rfl rfl ?_
  refine go_if_ne (t := 84) rfl rfl (fun hx_11 => ?_) (fun hx_11 => ?_)
  · rw [if_pos hx_11] at e
    refine go_iconst (v := 1) rfl (by decide) ?_
    refine go_goto (t := 85) rfl rfl ?_
    refine go_forget (l := [some (.ref a0), some (.int v1), some (.int v2), some (.int v3), some (.int v4), none, some (.int r8), none, none]) ⟨Or.inl rfl, Or.inl rfl, Or.inl rfl, Or.inl rfl, Or.inl rfl, Or.inl rfl, Or.inl rfl, Or.inl rfl, Or.inl rfl, trivial⟩ ?_
    exact f_RM_putSpanned_J85_s F k6 hk6 a0 v1 v2 v3 v4 r8 1 _ _ _ e
  · rw [if_neg hx_11] at e
    refine go_iconst (v := 0) rfl (by decide) ?_
    refine go_forget (l := [some (.ref a0), some (.int v1), some (.int v2), some (.int v3), some (.int v4), none, some (.int r8), none, none]) ⟨Or.inl rfl, Or.inl rfl, Or.inl rfl, Or.inl rfl, Or.inl rfl, Or.inl rfl, Or.inl rfl, Or.inl rfl, Or.inl rfl, trivial⟩ ?_
    exact f_RM_putSpanned_J85_s F k6 hk6 a0 v1 v2 v3 v4 r8 0 _ _ _ e
def f_RM_putSpanned_J38 (F : Nat) (k6 : Nat → Int32 → Int32 → Int32 → Int32 → Int32 → ck_H → Option (Unit × ck_H)) (a0 : Nat) (v1 : Int32) (v2 : Int32) (v3 : Int32) (v4 : Int32) (s0 : Int32) (s1 : Int32) (h : ck_H) : Option (Unit × ck_H) :=
  if s1 < s0 then
    ck_as (gk h a0 = 12) <|
    ck_bd (f_RM_writeBlock F a0 v1 h) fun _ h4 =>
    ck_as (gk h4 a0 = 12) <|
    ck_bd (f_RM_headed F a0 v1 h4) fun _ h8 =>
    f_RM_putSpanned_J51 F k6 a0 v1 v2 v3 v4 h8
  else
    f_RM_putSpanned_J51 F k6 a0 v1 v2 v3 v4 h
set_option maxRecDepth 100000 in
set_option maxHeartbeats 4000000 in
theorem f_RM_putSpanned_J38_s (F : Nat) (k6 : Nat → Int32 → Int32 → Int32 → Int32 → Int32 → ck_H → Option (Unit × ck_H)) (hk6 : ∀ (a0 : Nat) (v1 : Int32) (v2 : Int32) (v3 : Int32) (v4 : Int32) (v5 : Int32) (h : ck_H) (r : Unit) (h' : ck_H), k6 a0 v1 v2 v3 v4 v5 h = some (r, h') → Go k_RM_putSpanned 6 [some (.ref a0), some (.int v1), some (.int v2), some (.int v3), some (.int v4), some (.int v5), none, none, none] [] h (none, h')) (a0 : Nat) (v1 : Int32) (v2 : Int32) (v3 : Int32) (v4 : Int32) (s0 : Int32) (s1 : Int32) (h : ck_H) (r : Unit) (h' : ck_H) (e : f_RM_putSpanned_J38 F k6 a0 v1 v2 v3 v4 s0 s1 h = some (r, h')) : Go k_RM_putSpanned 38 [some (.ref a0), some (.int v1), some (.int v2), some (.int v3), some (.int v4), none, none, none, none] [.int s0, .int s1] h (none, h') := by
  unfold f_RM_putSpanned_J38 at e
  refine go_icmp_ge (t := 51) rfl rfl (fun hx_1 => ?_) (fun hx_1 => ?_)
  · rw [if_pos hx_1] at e
    refine go_aload_n rfl rfl ?_
    refine go_iload_n rfl rfl ?_
    replace e := ck_as_e e
    obtain ⟨hk_2, e⟩ := e
    replace e := ck_bd_e e
    obtain ⟨r3, h4, e5, e⟩ := e
    refine go_callV (As := [.int v1]) (b0 := a0) (rest := []) rfl rfl ⟨hk_2, by decide⟩ rfl ⟨Nat.le_of_ble_eq_true rfl, Nat.le_of_ble_eq_true rfl, Nat.le_of_ble_eq_true rfl, Nat.le_of_ble_eq_true rfl⟩ (s_RM_writeBlock e5) ?_
    show Go k_RM_putSpanned 46 [some (.ref a0), some (.int v1), some (.int v2), some (.int v3), some (.int v4), none, none, none, none] [] h4 _
    refine go_aload_n rfl rfl ?_
    refine go_iload_n rfl rfl ?_
    replace e := ck_as_e e
    obtain ⟨hk_6, e⟩ := e
    replace e := ck_bd_e e
    obtain ⟨r7, h8, e9, e⟩ := e
    refine go_callV (As := [.int v1]) (b0 := a0) (rest := []) rfl rfl ⟨hk_6, by decide⟩ rfl ⟨Nat.le_of_ble_eq_true rfl, Nat.le_of_ble_eq_true rfl, Nat.le_of_ble_eq_true rfl, Nat.le_of_ble_eq_true rfl⟩ (s_RM_headed e9) ?_
    show Go k_RM_putSpanned 51 [some (.ref a0), some (.int v1), some (.int v2), some (.int v3), some (.int v4), none, none, none, none] [] h8 _
    refine go_forget (l := [some (.ref a0), some (.int v1), some (.int v2), some (.int v3), some (.int v4), none, none, none, none]) ⟨Or.inl rfl, Or.inl rfl, Or.inl rfl, Or.inl rfl, Or.inl rfl, Or.inl rfl, Or.inl rfl, Or.inl rfl, Or.inl rfl, trivial⟩ ?_
    exact f_RM_putSpanned_J51_s F k6 hk6 a0 v1 v2 v3 v4 _ _ _ e
  · rw [if_neg hx_1] at e
    refine go_forget (l := [some (.ref a0), some (.int v1), some (.int v2), some (.int v3), some (.int v4), none, none, none, none]) ⟨Or.inl rfl, Or.inl rfl, Or.inl rfl, Or.inl rfl, Or.inl rfl, Or.inl rfl, Or.inl rfl, Or.inl rfl, Or.inl rfl, trivial⟩ ?_
    exact f_RM_putSpanned_J51_s F k6 hk6 a0 v1 v2 v3 v4 _ _ _ e
def f_RM_putSpanned_L6 (F : Nat)  : Nat → Nat → Int32 → Int32 → Int32 → Int32 → Int32 → ck_H → Option (Unit × ck_H)
  | 0, _, _, _, _, _, _, _ => none
  | n + 1, a0, v1, v2, v3, v4, v5, h =>
    if v5 = (0 : Int32) then
      some ((), h)
    else
      ck_as (gk h a0 = 12) <|
      ck_bd (f_RM_headed F a0 v1 h) fun _ h4 =>
      ck_as (gk h4 a0 = 12) <|
      ck_some (gR h4 a0 37) fun b7 =>
      ck_as ((gk h4 b7 = 14 ∨ gk h4 b7 = 21) ∧ ¬ v2 < 0 ∧ (v2 : Int32).toNatClampNeg < gz h4 b7) <|
      ck_some (gR h4 a0 54) fun b10 =>
      ck_as ((gk h4 b10 = 14 ∨ gk h4 b10 = 21) ∧ ¬ v1 < 0 ∧ (v1 : Int32).toNatClampNeg < gz h4 b10) <|
      if v3 = (0 : Int32) then
        f_RM_putSpanned_J38 F (f_RM_putSpanned_L6 F n) a0 v1 v2 v3 v4 3 ((gI h4 b7 (v2 : Int32).toNatClampNeg) - (gI h4 b10 (v1 : Int32).toNatClampNeg)) h4
      else
        f_RM_putSpanned_J38 F (f_RM_putSpanned_L6 F n) a0 v1 v2 v3 v4 4 ((gI h4 b7 (v2 : Int32).toNatClampNeg) - (gI h4 b10 (v1 : Int32).toNatClampNeg)) h4
set_option maxRecDepth 100000 in
set_option maxHeartbeats 4000000 in
theorem f_RM_putSpanned_L6_s (F : Nat)   : ∀ (n : Nat) (a0 : Nat) (v1 : Int32) (v2 : Int32) (v3 : Int32) (v4 : Int32) (v5 : Int32) (h : ck_H) (r : Unit) (h' : ck_H), f_RM_putSpanned_L6 F n a0 v1 v2 v3 v4 v5 h = some (r, h') → Go k_RM_putSpanned 6 [some (.ref a0), some (.int v1), some (.int v2), some (.int v3), some (.int v4), some (.int v5), none, none, none] [] h (none, h') := by
  intro n
  induction n with
  | zero => intro a0 v1 v2 v3 v4 v5 h r h' e; simp only [f_RM_putSpanned_L6] at e; cases e
  | succ n ih =>
    intro a0 v1 v2 v3 v4 v5 h r h' e
    rw [f_RM_putSpanned_L6] at e
    refine go_iload rfl rfl ?_
    refine go_if_eq (t := 221) rfl rfl (fun hx_1 => ?_) (fun hx_1 => ?_)
    · rw [if_pos hx_1] at e
      cases e
      exact go_ret rfl rfl
    · rw [if_neg hx_1] at e
      refine go_aload_n rfl rfl ?_
      refine go_iload_n rfl rfl ?_
      replace e := ck_as_e e
      obtain ⟨hk_2, e⟩ := e
      replace e := ck_bd_e e
      obtain ⟨r3, h4, e5, e⟩ := e
      refine go_callV (As := [.int v1]) (b0 := a0) (rest := []) rfl rfl ⟨hk_2, by decide⟩ rfl ⟨Nat.le_of_ble_eq_true rfl, Nat.le_of_ble_eq_true rfl, Nat.le_of_ble_eq_true rfl, Nat.le_of_ble_eq_true rfl⟩ (s_RM_headed e5) ?_
      show Go k_RM_putSpanned 16 [some (.ref a0), some (.int v1), some (.int v2), some (.int v3), some (.int v4), some (.int v5), none, none, none] [] h4 _
      refine go_aload_n rfl rfl ?_
      replace e := ck_as_e e
      obtain ⟨hk_6, e⟩ := e
      replace e := ck_some_e e
      obtain ⟨b7, hq_8, e⟩ := e
      refine go_get (v := .ref b7) rfl rfl hk_6 (by decide) (by show va_rf (gR h4 a0 37) = _; rw [hq_8]; rfl) ?_
      refine go_iload_n rfl rfl ?_
      replace e := ck_as_e e
      obtain ⟨hc_9, e⟩ := e
      refine go_iald rfl hc_9 ?_
      refine go_aload_n rfl rfl ?_
      replace e := ck_some_e e
      obtain ⟨b10, hq_11, e⟩ := e
      refine go_get (v := .ref b10) rfl rfl hk_6 (by decide) (by show va_rf (gR h4 a0 54) = _; rw [hq_11]; rfl) ?_
      refine go_iload_n rfl rfl ?_
      replace e := ck_as_e e
      obtain ⟨hc_12, e⟩ := e
      refine go_iald rfl hc_12 ?_
      refine go_isub rfl ?_
      refine go_iload_n rfl rfl ?_
      refine go_if_ne (t := 37) rfl rfl (fun hx_13 => ?_) (fun hx_13 => ?_)
      · rw [if_pos hx_13] at e
        refine go_iconst (v := 3) rfl (by decide) ?_
        refine go_goto (t := 38) rfl rfl ?_
        refine go_forget (l := [some (.ref a0), some (.int v1), some (.int v2), some (.int v3), some (.int v4), none, none, none, none]) ⟨Or.inl rfl, Or.inl rfl, Or.inl rfl, Or.inl rfl, Or.inl rfl, Or.inr ⟨rfl, fun _ q => by cases q; rfl⟩, Or.inl rfl, Or.inl rfl, Or.inl rfl, trivial⟩ ?_
        exact f_RM_putSpanned_J38_s F (f_RM_putSpanned_L6 F n) ih a0 v1 v2 v3 v4 3 ((gI h4 b7 (v2 : Int32).toNatClampNeg) - (gI h4 b10 (v1 : Int32).toNatClampNeg)) _ _ _ e
      · rw [if_neg hx_13] at e
        refine go_iconst (v := 4) rfl (by decide) ?_
        refine go_forget (l := [some (.ref a0), some (.int v1), some (.int v2), some (.int v3), some (.int v4), none, none, none, none]) ⟨Or.inl rfl, Or.inl rfl, Or.inl rfl, Or.inl rfl, Or.inl rfl, Or.inr ⟨rfl, fun _ q => by cases q; rfl⟩, Or.inl rfl, Or.inl rfl, Or.inl rfl, trivial⟩ ?_
        exact f_RM_putSpanned_J38_s F (f_RM_putSpanned_L6 F n) ih a0 v1 v2 v3 v4 4 ((gI h4 b7 (v2 : Int32).toNatClampNeg) - (gI h4 b10 (v1 : Int32).toNatClampNeg)) _ _ _ e
def f_RM_putSpanned (F : Nat) (a0 : Nat) (v1 : Int32) (v2 : Int32) (v3 : Int32) (h : ck_H) : Option (Unit × ck_H) :=
  f_RM_putSpanned_L6 F F a0 v1 v2 v3 0 1 h
set_option maxRecDepth 100000 in
set_option maxHeartbeats 4000000 in
theorem s_RM_putSpanned {F : Nat} {a0 : Nat} {v1 : Int32} {v2 : Int32} {v3 : Int32} {h h' : ck_H} {r : Unit} (e : f_RM_putSpanned F a0 v1 v2 v3 h = some (r, h')) : Go k_RM_putSpanned 0 (ck_in [.ref a0, .int v1, .int v2, .int v3] 9) [] h (none, h') := by
  unfold f_RM_putSpanned at e
  show Go k_RM_putSpanned 0 [some (.ref a0), some (.int v1), some (.int v2), some (.int v3), none, none, none, none, none] [] h _
  refine go_iconst (v := 0) rfl (by decide) ?_
  refine go_istore rfl rfl ?_
  show Go k_RM_putSpanned 3 [some (.ref a0), some (.int v1), some (.int v2), some (.int v3), some (.int 0), none, none, none, none] [] h _
  refine go_iconst (v := 1) rfl (by decide) ?_
  refine go_istore rfl rfl ?_
  show Go k_RM_putSpanned 6 [some (.ref a0), some (.int v1), some (.int v2), some (.int v3), some (.int 0), some (.int 1), none, none, none] [] h _
  refine go_forget (l := [some (.ref a0), some (.int v1), some (.int v2), some (.int v3), some (.int 0), some (.int 1), none, none, none]) ⟨Or.inl rfl, Or.inl rfl, Or.inl rfl, Or.inl rfl, Or.inl rfl, Or.inl rfl, Or.inl rfl, Or.inl rfl, Or.inl rfl, trivial⟩ ?_
  exact f_RM_putSpanned_L6_s F F _ _ _ _ _ _ _ _ _ e
def f_RM_put_J147 (F : Nat)  (a0 : Nat) (v1 : Int32) (v2 : Int32) (v3 : Int32) (v4 : Int32) (h : ck_H) : Option (Int32 × ck_H) :=
  if v4 = 1 then
    ck_as (gk h a0 = 12) <|
    ck_bd (f_RM_putVariable F a0 v1 v3 v2 h) fun _ h4 =>
    ck_as (gk h4 a0 = 12) <|
    ck_some (gR h4 a0 52) fun b7 =>
    ck_as ((gk h4 b7 = 14 ∨ gk h4 b7 = 21) ∧ ¬ v1 < 0 ∧ (v1 : Int32).toNatClampNeg < gz h4 b7) <|
    ck_as (gk h4 b7 = 14 ∧ ¬ v1 < 0 ∧ (v1 : Int32).toNatClampNeg < gz h4 b7) <|
    ck_then (wI h4 b7 (v1 : Int32).toNatClampNeg ((gI h4 b7 (v1 : Int32).toNatClampNeg) + 1)) fun h11 =>
    some (1, h11)
  else
  if v4 = 2 then
    ck_as (gk h a0 = 12) <|
    ck_bd (f_RM_putSpanned F a0 v1 v3 v2 h) fun _ h16 =>
    ck_as (gk h16 a0 = 12) <|
    ck_some (gR h16 a0 52) fun b19 =>
    ck_as ((gk h16 b19 = 14 ∨ gk h16 b19 = 21) ∧ ¬ v1 < 0 ∧ (v1 : Int32).toNatClampNeg < gz h16 b19) <|
    ck_as (gk h16 b19 = 14 ∧ ¬ v1 < 0 ∧ (v1 : Int32).toNatClampNeg < gz h16 b19) <|
    ck_then (wI h16 b19 (v1 : Int32).toNatClampNeg ((gI h16 b19 (v1 : Int32).toNatClampNeg) + 1)) fun h23 =>
    some (1, h23)
  else
    ck_as (gk h a0 = 12) <|
    ck_bd (f_RM_bytes F a0 v1 0 v2 h) fun _ h27 =>
    ck_as (gk h27 a0 = 12) <|
    ck_some (gR h27 a0 54) fun b30 =>
    ck_as ((gk h27 b30 = 14 ∨ gk h27 b30 = 21) ∧ ¬ v1 < 0 ∧ (v1 : Int32).toNatClampNeg < gz h27 b30) <|
    ck_some (gR h27 a0 36) fun b33 =>
    ck_as ((gk h27 b33 = 14 ∨ gk h27 b33 = 21) ∧ ¬ v3 < 0 ∧ (v3 : Int32).toNatClampNeg < gz h27 b33) <|
    ck_some (gR h27 a0 37) fun b36 =>
    ck_as ((gk h27 b36 = 14 ∨ gk h27 b36 = 21) ∧ ¬ v3 < 0 ∧ (v3 : Int32).toNatClampNeg < gz h27 b36) <|
    if (gI h27 b30 (v1 : Int32).toNatClampNeg) = ((gI h27 b33 (v3 : Int32).toNatClampNeg) * (gI h27 b36 (v3 : Int32).toNatClampNeg)) then
      ck_bd (f_RM_writeBlock F a0 v1 h27) fun _ h41 =>
      ck_as (gk h41 a0 = 12) <|
      ck_some (gR h41 a0 52) fun b44 =>
      ck_as ((gk h41 b44 = 14 ∨ gk h41 b44 = 21) ∧ ¬ v1 < 0 ∧ (v1 : Int32).toNatClampNeg < gz h41 b44) <|
      ck_as (gk h41 b44 = 14 ∧ ¬ v1 < 0 ∧ (v1 : Int32).toNatClampNeg < gz h41 b44) <|
      ck_then (wI h41 b44 (v1 : Int32).toNatClampNeg ((gI h41 b44 (v1 : Int32).toNatClampNeg) + 1)) fun h48 =>
      some (1, h48)
    else
      ck_some (gR h27 a0 52) fun b50 =>
      ck_as ((gk h27 b50 = 14 ∨ gk h27 b50 = 21) ∧ ¬ v1 < 0 ∧ (v1 : Int32).toNatClampNeg < gz h27 b50) <|
      ck_as (gk h27 b50 = 14 ∧ ¬ v1 < 0 ∧ (v1 : Int32).toNatClampNeg < gz h27 b50) <|
      ck_then (wI h27 b50 (v1 : Int32).toNatClampNeg ((gI h27 b50 (v1 : Int32).toNatClampNeg) + 1)) fun h54 =>
      some (1, h54)
set_option maxRecDepth 100000 in
set_option maxHeartbeats 4000000 in
theorem f_RM_put_J147_s (F : Nat)   (a0 : Nat) (v1 : Int32) (v2 : Int32) (v3 : Int32) (v4 : Int32) (h : ck_H) (r : Int32) (h' : ck_H) (e : f_RM_put_J147 F  a0 v1 v2 v3 v4 h = some (r, h')) : Go k_RM_put 147 [some (.ref a0), some (.int v1), some (.int v2), some (.int v3), some (.int v4)] [] h (some (.int r), h') := by
  unfold f_RM_put_J147 at e
  refine go_iload rfl rfl ?_
  by_cases hx_1 : v4 = 1
  · rw [if_pos hx_1] at e
    refine go_lsw (t := 176) rfl rfl (by rw [hx_1]; rfl) ?_
    refine go_aload_n rfl rfl ?_
    refine go_iload_n rfl rfl ?_
    refine go_iload_n rfl rfl ?_
    refine go_iload_n rfl rfl ?_
    replace e := ck_as_e e
    obtain ⟨hk_2, e⟩ := e
    replace e := ck_bd_e e
    obtain ⟨r3, h4, e5, e⟩ := e
    refine go_callV (As := [.int v1, .int v3, .int v2]) (b0 := a0) (rest := []) rfl rfl ⟨hk_2, by decide⟩ rfl ⟨Nat.le_of_ble_eq_true rfl, Nat.le_of_ble_eq_true rfl, Nat.le_of_ble_eq_true rfl, Nat.le_of_ble_eq_true rfl⟩ (s_RM_putVariable e5) ?_
    show Go k_RM_put 183 [some (.ref a0), some (.int v1), some (.int v2), some (.int v3), some (.int v4)] [] h4 _
    refine go_goto (t := 230) rfl rfl ?_
    refine go_aload_n rfl rfl ?_
    replace e := ck_as_e e
    obtain ⟨hk_6, e⟩ := e
    replace e := ck_some_e e
    obtain ⟨b7, hq_8, e⟩ := e
    refine go_get (v := .ref b7) rfl rfl hk_6 (by decide) (by show va_rf (gR h4 a0 52) = _; rw [hq_8]; rfl) ?_
    refine go_iload_n rfl rfl ?_
    refine go_dup2 rfl rfl rfl ?_
    replace e := ck_as_e e
    obtain ⟨hc_9, e⟩ := e
    refine go_iald rfl hc_9 ?_
    refine go_iconst (v := 1) rfl (by decide) ?_
    refine go_iadd rfl ?_
    replace e := ck_as_e e
    obtain ⟨hc_10, e⟩ := e
    refine go_iast rfl hc_10 ?_
    have hk_12 : gk (wI h4 b7 (v1 : Int32).toNatClampNeg ((gI h4 b7 (v1 : Int32).toNatClampNeg) + 1)) a0 = 12 := ck_kI.trans hk_6
    generalize wI h4 b7 (v1 : Int32).toNatClampNeg ((gI h4 b7 (v1 : Int32).toNatClampNeg) + 1) = h11 at e hk_12 ⊢
    replace e := ck_then_e e
    refine go_iconst (v := 1) rfl (by decide) ?_
    cases e
    exact go_ret rfl rfl
  rw [if_neg hx_1] at e
  by_cases hx_13 : v4 = 2
  · rw [if_pos hx_13] at e
    refine go_lsw (t := 186) rfl rfl (by rw [hx_13]; rfl) ?_
    refine go_aload_n rfl rfl ?_
    refine go_iload_n rfl rfl ?_
    refine go_iload_n rfl rfl ?_
    refine go_iload_n rfl rfl ?_
    replace e := ck_as_e e
    obtain ⟨hk_14, e⟩ := e
    replace e := ck_bd_e e
    obtain ⟨r15, h16, e17, e⟩ := e
    refine go_callV (As := [.int v1, .int v3, .int v2]) (b0 := a0) (rest := []) rfl rfl ⟨hk_14, by decide⟩ rfl ⟨Nat.le_of_ble_eq_true rfl, Nat.le_of_ble_eq_true rfl, Nat.le_of_ble_eq_true rfl, Nat.le_of_ble_eq_true rfl⟩ (s_RM_putSpanned e17) ?_
    show Go k_RM_put 193 [some (.ref a0), some (.int v1), some (.int v2), some (.int v3), some (.int v4)] [] h16 _
    refine go_goto (t := 230) rfl rfl ?_
    refine go_aload_n rfl rfl ?_
    replace e := ck_as_e e
    obtain ⟨hk_18, e⟩ := e
    replace e := ck_some_e e
    obtain ⟨b19, hq_20, e⟩ := e
    refine go_get (v := .ref b19) rfl rfl hk_18 (by decide) (by show va_rf (gR h16 a0 52) = _; rw [hq_20]; rfl) ?_
    refine go_iload_n rfl rfl ?_
    refine go_dup2 rfl rfl rfl ?_
    replace e := ck_as_e e
    obtain ⟨hc_21, e⟩ := e
    refine go_iald rfl hc_21 ?_
    refine go_iconst (v := 1) rfl (by decide) ?_
    refine go_iadd rfl ?_
    replace e := ck_as_e e
    obtain ⟨hc_22, e⟩ := e
    refine go_iast rfl hc_22 ?_
    have hk_24 : gk (wI h16 b19 (v1 : Int32).toNatClampNeg ((gI h16 b19 (v1 : Int32).toNatClampNeg) + 1)) a0 = 12 := ck_kI.trans hk_18
    generalize wI h16 b19 (v1 : Int32).toNatClampNeg ((gI h16 b19 (v1 : Int32).toNatClampNeg) + 1) = h23 at e hk_24 ⊢
    replace e := ck_then_e e
    refine go_iconst (v := 1) rfl (by decide) ?_
    cases e
    exact go_ret rfl rfl
  rw [if_neg hx_13] at e
  refine go_lsw (t := 196) rfl rfl (by show ck_tg _ (Op.lookupswitch.offset [(1, 27), (2, 37)] _ _) = _; rw [lv_osw (k := 1) (a := 1) hx_1 rfl, lv_osw (k := 2) (a := 2) hx_13 rfl]; rfl) ?_
  refine go_aload_n rfl rfl ?_
  refine go_iload_n rfl rfl ?_
  refine go_iconst (v := 0) rfl (by decide) ?_
  refine go_iload_n rfl rfl ?_
  replace e := ck_as_e e
  obtain ⟨hk_25, e⟩ := e
  replace e := ck_bd_e e
  obtain ⟨r26, h27, e28, e⟩ := e
  refine go_callV (As := [.int v1, .int 0, .int v2]) (b0 := a0) (rest := []) rfl rfl ⟨hk_25, by decide⟩ rfl ⟨Nat.le_of_ble_eq_true rfl, Nat.le_of_ble_eq_true rfl, Nat.le_of_ble_eq_true rfl, Nat.le_of_ble_eq_true rfl⟩ (s_RM_bytes e28) ?_
  show Go k_RM_put 203 [some (.ref a0), some (.int v1), some (.int v2), some (.int v3), some (.int v4)] [] h27 _
  refine go_aload_n rfl rfl ?_
  replace e := ck_as_e e
  obtain ⟨hk_29, e⟩ := e
  replace e := ck_some_e e
  obtain ⟨b30, hq_31, e⟩ := e
  refine go_get (v := .ref b30) rfl rfl hk_29 (by decide) (by show va_rf (gR h27 a0 54) = _; rw [hq_31]; rfl) ?_
  refine go_iload_n rfl rfl ?_
  replace e := ck_as_e e
  obtain ⟨hc_32, e⟩ := e
  refine go_iald rfl hc_32 ?_
  refine go_aload_n rfl rfl ?_
  replace e := ck_some_e e
  obtain ⟨b33, hq_34, e⟩ := e
  refine go_get (v := .ref b33) rfl rfl hk_29 (by decide) (by show va_rf (gR h27 a0 36) = _; rw [hq_34]; rfl) ?_
  refine go_iload_n rfl rfl ?_
  replace e := ck_as_e e
  obtain ⟨hc_35, e⟩ := e
  refine go_iald rfl hc_35 ?_
  refine go_aload_n rfl rfl ?_
  replace e := ck_some_e e
  obtain ⟨b36, hq_37, e⟩ := e
  refine go_get (v := .ref b36) rfl rfl hk_29 (by decide) (by show va_rf (gR h27 a0 37) = _; rw [hq_37]; rfl) ?_
  refine go_iload_n rfl rfl ?_
  replace e := ck_as_e e
  obtain ⟨hc_38, e⟩ := e
  refine go_iald rfl hc_38 ?_
  refine go_imul rfl ?_
  refine go_icmp_ne (t := 230) rfl rfl (fun hx_39 => ?_) (fun hx_39 => ?_)
  · rw [if_pos hx_39] at e
    refine go_aload_n rfl rfl ?_
    refine go_iload_n rfl rfl ?_
    replace e := ck_bd_e e
    obtain ⟨r40, h41, e42, e⟩ := e
    refine go_callV (As := [.int v1]) (b0 := a0) (rest := []) rfl rfl ⟨hk_29, by decide⟩ rfl ⟨Nat.le_of_ble_eq_true rfl, Nat.le_of_ble_eq_true rfl, Nat.le_of_ble_eq_true rfl, Nat.le_of_ble_eq_true rfl⟩ (s_RM_writeBlock e42) ?_
    show Go k_RM_put 230 [some (.ref a0), some (.int v1), some (.int v2), some (.int v3), some (.int v4)] [] h41 _
    refine go_aload_n rfl rfl ?_
    replace e := ck_as_e e
    obtain ⟨hk_43, e⟩ := e
    replace e := ck_some_e e
    obtain ⟨b44, hq_45, e⟩ := e
    refine go_get (v := .ref b44) rfl rfl hk_43 (by decide) (by show va_rf (gR h41 a0 52) = _; rw [hq_45]; rfl) ?_
    refine go_iload_n rfl rfl ?_
    refine go_dup2 rfl rfl rfl ?_
    replace e := ck_as_e e
    obtain ⟨hc_46, e⟩ := e
    refine go_iald rfl hc_46 ?_
    refine go_iconst (v := 1) rfl (by decide) ?_
    refine go_iadd rfl ?_
    replace e := ck_as_e e
    obtain ⟨hc_47, e⟩ := e
    refine go_iast rfl hc_47 ?_
    have hk_49 : gk (wI h41 b44 (v1 : Int32).toNatClampNeg ((gI h41 b44 (v1 : Int32).toNatClampNeg) + 1)) a0 = 12 := ck_kI.trans hk_43
    generalize wI h41 b44 (v1 : Int32).toNatClampNeg ((gI h41 b44 (v1 : Int32).toNatClampNeg) + 1) = h48 at e hk_49 ⊢
    replace e := ck_then_e e
    refine go_iconst (v := 1) rfl (by decide) ?_
    cases e
    exact go_ret rfl rfl
  · rw [if_neg hx_39] at e
    refine go_aload_n rfl rfl ?_
    replace e := ck_some_e e
    obtain ⟨b50, hq_51, e⟩ := e
    refine go_get (v := .ref b50) rfl rfl hk_29 (by decide) (by show va_rf (gR h27 a0 52) = _; rw [hq_51]; rfl) ?_
    refine go_iload_n rfl rfl ?_
    refine go_dup2 rfl rfl rfl ?_
    replace e := ck_as_e e
    obtain ⟨hc_52, e⟩ := e
    refine go_iald rfl hc_52 ?_
    refine go_iconst (v := 1) rfl (by decide) ?_
    refine go_iadd rfl ?_
    replace e := ck_as_e e
    obtain ⟨hc_53, e⟩ := e
    refine go_iast rfl hc_53 ?_
    have hk_55 : gk (wI h27 b50 (v1 : Int32).toNatClampNeg ((gI h27 b50 (v1 : Int32).toNatClampNeg) + 1)) a0 = 12 := ck_kI.trans hk_29
    generalize wI h27 b50 (v1 : Int32).toNatClampNeg ((gI h27 b50 (v1 : Int32).toNatClampNeg) + 1) = h54 at e hk_55 ⊢
    replace e := ck_then_e e
    refine go_iconst (v := 1) rfl (by decide) ?_
    cases e
    exact go_ret rfl rfl
def f_RM_put_J85 (F : Nat)  (a0 : Nat) (v1 : Int32) (v2 : Int32) (v3 : Int32) (v4 : Int32) (h : ck_H) : Option (Int32 × ck_H) :=
  ck_as (gk h a0 = 12) <|
  ck_bd (f_RM_think F a0 v1 h) fun _ h3 =>
  if v4 = (1 : Int32) then
    ck_as (gk h3 a0 = 12) <|
    ck_bd (f_RM_mayPutVariable F a0 v1 v3 v2 h3) fun r7 h8 =>
    if r7 = (0 : Int32) then
      some ((-4), h8)
    else
      f_RM_put_J147 F a0 v1 v2 v3 v4 h8
  else
    if v4 = (2 : Int32) then
      ck_as (gk h3 a0 = 12) <|
      ck_bd (f_RM_mayPutSpanned F a0 v1 v3 v2 h3) fun r58 h59 =>
      if r58 = (0 : Int32) then
        some ((-4), h59)
      else
        f_RM_put_J147 F a0 v1 v2 v3 v4 h59
    else
      ck_as (gk h3 a0 = 12) <|
      ck_some (gR h3 a0 54) fun b63 =>
      ck_as ((gk h3 b63 = 14 ∨ gk h3 b63 = 21) ∧ ¬ v1 < 0 ∧ (v1 : Int32).toNatClampNeg < gz h3 b63) <|
      ck_bd (f_RM_fits F a0 v1 ((gI h3 b63 (v1 : Int32).toNatClampNeg) + v2) h3) fun r66 h67 =>
      if r66 = (0 : Int32) then
        some ((-4), h67)
      else
        f_RM_put_J147 F a0 v1 v2 v3 v4 h67
set_option maxRecDepth 100000 in
set_option maxHeartbeats 4000000 in
theorem f_RM_put_J85_s (F : Nat)   (a0 : Nat) (v1 : Int32) (v2 : Int32) (v3 : Int32) (v4 : Int32) (h : ck_H) (r : Int32) (h' : ck_H) (e : f_RM_put_J85 F  a0 v1 v2 v3 v4 h = some (r, h')) : Go k_RM_put 85 [some (.ref a0), some (.int v1), some (.int v2), some (.int v3), some (.int v4)] [] h (some (.int r), h') := by
  unfold f_RM_put_J85 at e
  refine go_aload_n rfl rfl ?_
  refine go_iload_n rfl rfl ?_
  replace e := ck_as_e e
  obtain ⟨hk_1, e⟩ := e
  replace e := ck_bd_e e
  obtain ⟨r2, h3, e4, e⟩ := e
  refine go_callV (As := [.int v1]) (b0 := a0) (rest := []) rfl rfl ⟨hk_1, by decide⟩ rfl ⟨Nat.le_of_ble_eq_true rfl, Nat.le_of_ble_eq_true rfl, Nat.le_of_ble_eq_true rfl, Nat.le_of_ble_eq_true rfl⟩ (s_RM_think e4) ?_
  show Go k_RM_put 90 [some (.ref a0), some (.int v1), some (.int v2), some (.int v3), some (.int v4)] [] h3 _
  refine go_iload rfl rfl ?_
  refine go_iconst (v := 1) rfl (by decide) ?_
  refine go_icmp_ne (t := 109) rfl rfl (fun hx_5 => ?_) (fun hx_5 => ?_)
  · rw [if_pos hx_5] at e
    refine go_aload_n rfl rfl ?_
    refine go_iload_n rfl rfl ?_
    refine go_iload_n rfl rfl ?_
    refine go_iload_n rfl rfl ?_
    replace e := ck_as_e e
    obtain ⟨hk_6, e⟩ := e
    replace e := ck_bd_e e
    obtain ⟨r7, h8, e9, e⟩ := e
    refine go_callV (As := [.int v1, .int v3, .int v2]) (b0 := a0) (rest := []) rfl rfl ⟨hk_6, by decide⟩ rfl ⟨Nat.le_of_ble_eq_true rfl, Nat.le_of_ble_eq_true rfl, Nat.le_of_ble_eq_true rfl, Nat.le_of_ble_eq_true rfl⟩ (s_RM_mayPutVariable e9) ?_
    show Go k_RM_put 103 [some (.ref a0), some (.int v1), some (.int v2), some (.int v3), some (.int v4)] [.int r7] h8 _
    refine go_if_ne (t := 147) rfl rfl (fun hx_10 => ?_) (fun hx_10 => ?_)
    · rw [if_pos hx_10] at e
      refine go_goto (t := 144) rfl rfl ?_
      refine go_bipush (v := (-4)) rfl (by decide) ?_
      cases e
      exact go_ret rfl rfl
    · rw [if_neg hx_10] at e
      refine go_forget (l := [some (.ref a0), some (.int v1), some (.int v2), some (.int v3), some (.int v4)]) ⟨Or.inl rfl, Or.inl rfl, Or.inl rfl, Or.inl rfl, Or.inl rfl, trivial⟩ ?_
      exact f_RM_put_J147_s F a0 v1 v2 v3 v4 _ _ _ e
  · rw [if_neg hx_5] at e
    refine go_iload rfl rfl ?_
    refine go_iconst (v := 2) rfl (by decide) ?_
    refine go_icmp_ne (t := 128) rfl rfl (fun hx_56 => ?_) (fun hx_56 => ?_)
    · rw [if_pos hx_56] at e
      refine go_aload_n rfl rfl ?_
      refine go_iload_n rfl rfl ?_
      refine go_iload_n rfl rfl ?_
      refine go_iload_n rfl rfl ?_
      replace e := ck_as_e e
      obtain ⟨hk_57, e⟩ := e
      replace e := ck_bd_e e
      obtain ⟨r58, h59, e60, e⟩ := e
      refine go_callV (As := [.int v1, .int v3, .int v2]) (b0 := a0) (rest := []) rfl rfl ⟨hk_57, by decide⟩ rfl ⟨Nat.le_of_ble_eq_true rfl, Nat.le_of_ble_eq_true rfl, Nat.le_of_ble_eq_true rfl, Nat.le_of_ble_eq_true rfl⟩ (s_RM_mayPutSpanned e60) ?_
      show Go k_RM_put 122 [some (.ref a0), some (.int v1), some (.int v2), some (.int v3), some (.int v4)] [.int r58] h59 _
      refine go_if_ne (t := 147) rfl rfl (fun hx_61 => ?_) (fun hx_61 => ?_)
      · rw [if_pos hx_61] at e
        refine go_goto (t := 144) rfl rfl ?_
        refine go_bipush (v := (-4)) rfl (by decide) ?_
        cases e
        exact go_ret rfl rfl
      · rw [if_neg hx_61] at e
        refine go_forget (l := [some (.ref a0), some (.int v1), some (.int v2), some (.int v3), some (.int v4)]) ⟨Or.inl rfl, Or.inl rfl, Or.inl rfl, Or.inl rfl, Or.inl rfl, trivial⟩ ?_
        exact f_RM_put_J147_s F a0 v1 v2 v3 v4 _ _ _ e
    · rw [if_neg hx_56] at e
      refine go_aload_n rfl rfl ?_
      refine go_iload_n rfl rfl ?_
      refine go_aload_n rfl rfl ?_
      replace e := ck_as_e e
      obtain ⟨hk_62, e⟩ := e
      replace e := ck_some_e e
      obtain ⟨b63, hq_64, e⟩ := e
      refine go_get (v := .ref b63) rfl rfl hk_62 (by decide) (by show va_rf (gR h3 a0 54) = _; rw [hq_64]; rfl) ?_
      refine go_iload_n rfl rfl ?_
      replace e := ck_as_e e
      obtain ⟨hc_65, e⟩ := e
      refine go_iald rfl hc_65 ?_
      refine go_iload_n rfl rfl ?_
      refine go_iadd rfl ?_
      replace e := ck_bd_e e
      obtain ⟨r66, h67, e68, e⟩ := e
      refine go_callV (As := [.int v1, .int ((gI h3 b63 (v1 : Int32).toNatClampNeg) + v2)]) (b0 := a0) (rest := []) rfl rfl ⟨hk_62, by decide⟩ rfl ⟨Nat.le_of_ble_eq_true rfl, Nat.le_of_ble_eq_true rfl, Nat.le_of_ble_eq_true rfl, Nat.le_of_ble_eq_true rfl⟩ (s_RM_fits e68) ?_
      show Go k_RM_put 141 [some (.ref a0), some (.int v1), some (.int v2), some (.int v3), some (.int v4)] [.int r66] h67 _
      refine go_if_ne (t := 147) rfl rfl (fun hx_69 => ?_) (fun hx_69 => ?_)
      · rw [if_pos hx_69] at e
        refine go_bipush (v := (-4)) rfl (by decide) ?_
        cases e
        exact go_ret rfl rfl
      · rw [if_neg hx_69] at e
        refine go_forget (l := [some (.ref a0), some (.int v1), some (.int v2), some (.int v3), some (.int v4)]) ⟨Or.inl rfl, Or.inl rfl, Or.inl rfl, Or.inl rfl, Or.inl rfl, trivial⟩ ?_
        exact f_RM_put_J147_s F a0 v1 v2 v3 v4 _ _ _ e
def f_RM_put_J64 (F : Nat)  (a0 : Nat) (v1 : Int32) (v2 : Int32) (v3 : Int32) (v4 : Int32) (h : ck_H) : Option (Int32 × ck_H) :=
  if v4 = (1 : Int32) then
    ck_as (gk h a0 = 12) <|
    ck_some (gR h a0 37) fun b3 =>
    ck_as ((gk h b3 = 14 ∨ gk h b3 = 21) ∧ ¬ v3 < 0 ∧ (v3 : Int32).toNatClampNeg < gz h b3) <|
    if ((gI h b3 (v3 : Int32).toNatClampNeg) - 4) < v2 then
      some ((-5), h)
    else
      f_RM_put_J85 F a0 v1 v2 v3 v4 h
  else
    f_RM_put_J85 F a0 v1 v2 v3 v4 h
set_option maxRecDepth 100000 in
set_option maxHeartbeats 4000000 in
theorem f_RM_put_J64_s (F : Nat)   (a0 : Nat) (v1 : Int32) (v2 : Int32) (v3 : Int32) (v4 : Int32) (h : ck_H) (r : Int32) (h' : ck_H) (e : f_RM_put_J64 F  a0 v1 v2 v3 v4 h = some (r, h')) : Go k_RM_put 64 [some (.ref a0), some (.int v1), some (.int v2), some (.int v3), some (.int v4)] [] h (some (.int r), h') := by
  unfold f_RM_put_J64 at e
  refine go_iload rfl rfl ?_
  refine go_iconst (v := 1) rfl (by decide) ?_
  refine go_icmp_ne (t := 85) rfl rfl (fun hx_1 => ?_) (fun hx_1 => ?_)
  · rw [if_pos hx_1] at e
    refine go_iload_n rfl rfl ?_
    refine go_aload_n rfl rfl ?_
    replace e := ck_as_e e
    obtain ⟨hk_2, e⟩ := e
    replace e := ck_some_e e
    obtain ⟨b3, hq_4, e⟩ := e
    refine go_get (v := .ref b3) rfl rfl hk_2 (by decide) (by show va_rf (gR h a0 37) = _; rw [hq_4]; rfl) ?_
    refine go_iload_n rfl rfl ?_
    replace e := ck_as_e e
    obtain ⟨hc_5, e⟩ := e
    refine go_iald rfl hc_5 ?_
    refine go_iconst (v := 4) rfl (by decide) ?_
    refine go_isub rfl ?_
    refine go_icmp_le (t := 85) rfl rfl (fun hx_6 => ?_) (fun hx_6 => ?_)
    · rw [if_pos hx_6] at e
      refine go_bipush (v := (-5)) rfl (by decide) ?_
      cases e
      exact go_ret rfl rfl
    · rw [if_neg hx_6] at e
      refine go_forget (l := [some (.ref a0), some (.int v1), some (.int v2), some (.int v3), some (.int v4)]) ⟨Or.inl rfl, Or.inl rfl, Or.inl rfl, Or.inl rfl, Or.inl rfl, trivial⟩ ?_
      exact f_RM_put_J85_s F a0 v1 v2 v3 v4 _ _ _ e
  · rw [if_neg hx_1] at e
    refine go_forget (l := [some (.ref a0), some (.int v1), some (.int v2), some (.int v3), some (.int v4)]) ⟨Or.inl rfl, Or.inl rfl, Or.inl rfl, Or.inl rfl, Or.inl rfl, trivial⟩ ?_
    exact f_RM_put_J85_s F a0 v1 v2 v3 v4 _ _ _ e
def f_RM_put_J54 (F : Nat)  (a0 : Nat) (v1 : Int32) (v2 : Int32) (v3 : Int32) (v4 : Int32) (h : ck_H) : Option (Int32 × ck_H) :=
  ck_as (gk h a0 = 12) <|
  ck_some (gR h a0 36) fun b2 =>
  ck_as ((gk h b2 = 14 ∨ gk h b2 = 21) ∧ ¬ v3 < 0 ∧ (v3 : Int32).toNatClampNeg < gz h b2) <|
  if v2 = (gI h b2 (v3 : Int32).toNatClampNeg) then
    f_RM_put_J64 F a0 v1 v2 v3 v4 h
  else
    some ((-5), h)
set_option maxRecDepth 100000 in
set_option maxHeartbeats 4000000 in
theorem f_RM_put_J54_s (F : Nat)   (a0 : Nat) (v1 : Int32) (v2 : Int32) (v3 : Int32) (v4 : Int32) (h : ck_H) (r : Int32) (h' : ck_H) (e : f_RM_put_J54 F  a0 v1 v2 v3 v4 h = some (r, h')) : Go k_RM_put 54 [some (.ref a0), some (.int v1), some (.int v2), some (.int v3), some (.int v4)] [] h (some (.int r), h') := by
  unfold f_RM_put_J54 at e
  refine go_iload_n rfl rfl ?_
  refine go_aload_n rfl rfl ?_
  replace e := ck_as_e e
  obtain ⟨hk_1, e⟩ := e
  replace e := ck_some_e e
  obtain ⟨b2, hq_3, e⟩ := e
  refine go_get (v := .ref b2) rfl rfl hk_1 (by decide) (by show va_rf (gR h a0 36) = _; rw [hq_3]; rfl) ?_
  refine go_iload_n rfl rfl ?_
  replace e := ck_as_e e
  obtain ⟨hc_4, e⟩ := e
  refine go_iald rfl hc_4 ?_
  refine go_icmp_ne (t := 82) rfl rfl (fun hx_5 => ?_) (fun hx_5 => ?_)
  · rw [if_pos hx_5] at e
    refine go_forget (l := [some (.ref a0), some (.int v1), some (.int v2), some (.int v3), some (.int v4)]) ⟨Or.inl rfl, Or.inl rfl, Or.inl rfl, Or.inl rfl, Or.inl rfl, trivial⟩ ?_
    exact f_RM_put_J64_s F a0 v1 v2 v3 v4 _ _ _ e
  · rw [if_neg hx_5] at e
    refine go_bipush (v := (-5)) rfl (by decide) ?_
    cases e
    exact go_ret rfl rfl
def f_RM_put (F : Nat) (a0 : Nat) (v1 : Int32) (h : ck_H) : Option (Int32 × ck_H) :=
  ck_as (gk h a0 = 12) <|
  ck_bd (f_RM_read F a0 h) fun r2 h3 =>
  ck_as (gk h3 a0 = 12) <|
  ck_bd (f_RM_isHandle F a0 v1 h3) fun r6 h7 =>
  if r6 = (0 : Int32) then
    some ((-1), h7)
  else
    ck_as (gk h7 a0 = 12) <|
    ck_some (gR h7 a0 51) fun b11 =>
    ck_as ((gk h7 b11 = 14 ∨ gk h7 b11 = 21) ∧ ¬ v1 < 0 ∧ (v1 : Int32).toNatClampNeg < gz h7 b11) <|
    if (gI h7 b11 (v1 : Int32).toNatClampNeg) = (1 : Int32) then
      ck_some (gR h7 a0 50) fun b15 =>
      ck_as ((gk h7 b15 = 14 ∨ gk h7 b15 = 21) ∧ ¬ v1 < 0 ∧ (v1 : Int32).toNatClampNeg < gz h7 b15) <|
      ck_then (gI h7 b15 (v1 : Int32).toNatClampNeg) fun x18 =>
      ck_some (gR h7 a0 35) fun b19 =>
      ck_as ((gk h7 b19 = 14 ∨ gk h7 b19 = 21) ∧ ¬ x18 < 0 ∧ (x18 : Int32).toNatClampNeg < gz h7 b19) <|
      ck_then (gI h7 b19 (x18 : Int32).toNatClampNeg) fun x22 =>
      if x22 = (0 : Int32) then
        f_RM_put_J54 F a0 v1 r2 x18 x22 h7
      else
        if x22 = (4 : Int32) then
          f_RM_put_J54 F a0 v1 r2 x18 x22 h7
        else
          f_RM_put_J64 F a0 v1 r2 x18 x22 h7
    else
      some ((-3), h7)
set_option maxRecDepth 100000 in
set_option maxHeartbeats 4000000 in
theorem s_RM_put {F : Nat} {a0 : Nat} {v1 : Int32} {h h' : ck_H} {r : Int32} (e : f_RM_put F a0 v1 h = some (r, h')) : Go k_RM_put 0 (ck_in [.ref a0, .int v1] 5) [] h (some (.int r), h') := by
  unfold f_RM_put at e
  show Go k_RM_put 0 [some (.ref a0), some (.int v1), none, none, none] [] h _
  refine go_aload_n rfl rfl ?_
  replace e := ck_as_e e
  obtain ⟨hk_1, e⟩ := e
  replace e := ck_bd_e e
  obtain ⟨r2, h3, e4, e⟩ := e
  refine go_callV (As := []) (b0 := a0) (rest := []) rfl rfl ⟨hk_1, by decide⟩ rfl ⟨Nat.le_of_ble_eq_true rfl, Nat.le_of_ble_eq_true rfl, Nat.le_of_ble_eq_true rfl, Nat.le_of_ble_eq_true rfl⟩ (s_RM_read e4) ?_
  show Go k_RM_put 4 [some (.ref a0), some (.int v1), none, none, none] [.int r2] h3 _
  refine go_istore_n rfl rfl ?_
  show Go k_RM_put 5 [some (.ref a0), some (.int v1), some (.int r2), none, none] [] h3 _
  refine go_aload_n rfl rfl ?_
  refine go_iload_n rfl rfl ?_
  replace e := ck_as_e e
  obtain ⟨hk_5, e⟩ := e
  replace e := ck_bd_e e
  obtain ⟨r6, h7, e8, e⟩ := e
  refine go_callV (As := [.int v1]) (b0 := a0) (rest := []) rfl rfl ⟨hk_5, by decide⟩ rfl ⟨Nat.le_of_ble_eq_true rfl, Nat.le_of_ble_eq_true rfl, Nat.le_of_ble_eq_true rfl, Nat.le_of_ble_eq_true rfl⟩ (s_RM_isHandle e8) ?_
  show Go k_RM_put 10 [some (.ref a0), some (.int v1), some (.int r2), none, none] [.int r6] h7 _
  refine go_if_ne (t := 15) rfl rfl (fun hx_9 => ?_) (fun hx_9 => ?_)
  · rw [if_pos hx_9] at e
    refine go_iconst (v := (-1)) rfl (by decide) ?_
    cases e
    exact go_ret rfl rfl
  · rw [if_neg hx_9] at e
    refine go_aload_n rfl rfl ?_
    replace e := ck_as_e e
    obtain ⟨hk_10, e⟩ := e
    replace e := ck_some_e e
    obtain ⟨b11, hq_12, e⟩ := e
    refine go_get (v := .ref b11) rfl rfl hk_10 (by decide) (by show va_rf (gR h7 a0 51) = _; rw [hq_12]; rfl) ?_
    refine go_iload_n rfl rfl ?_
    replace e := ck_as_e e
    obtain ⟨hc_13, e⟩ := e
    refine go_iald rfl hc_13 ?_
    refine go_iconst (v := 1) rfl (by decide) ?_
    refine go_icmp_eq (t := 28) rfl rfl (fun hx_14 => ?_) (fun hx_14 => ?_)
    · rw [if_pos hx_14] at e
      refine go_aload_n rfl rfl ?_
      replace e := ck_some_e e
      obtain ⟨b15, hq_16, e⟩ := e
      refine go_get (v := .ref b15) rfl rfl hk_10 (by decide) (by show va_rf (gR h7 a0 50) = _; rw [hq_16]; rfl) ?_
      refine go_iload_n rfl rfl ?_
      replace e := ck_as_e e
      obtain ⟨hc_17, e⟩ := e
      refine go_iald rfl hc_17 ?_
      generalize gI h7 b15 (v1 : Int32).toNatClampNeg = x18 at e ⊢
      replace e := ck_then_e e
      refine go_istore_n rfl rfl ?_
      show Go k_RM_put 35 [some (.ref a0), some (.int v1), some (.int r2), some (.int x18), none] [] h7 _
      refine go_aload_n rfl rfl ?_
      replace e := ck_some_e e
      obtain ⟨b19, hq_20, e⟩ := e
      refine go_get (v := .ref b19) rfl rfl hk_10 (by decide) (by show va_rf (gR h7 a0 35) = _; rw [hq_20]; rfl) ?_
      refine go_iload_n rfl rfl ?_
      replace e := ck_as_e e
      obtain ⟨hc_21, e⟩ := e
      refine go_iald rfl hc_21 ?_
      generalize gI h7 b19 (x18 : Int32).toNatClampNeg = x22 at e ⊢
      replace e := ck_then_e e
      refine go_istore rfl rfl ?_
      show Go k_RM_put 43 [some (.ref a0), some (.int v1), some (.int r2), some (.int x18), some (.int x22)] [] h7 _
      refine go_iload rfl rfl ?_
      refine go_if_eq (t := 54) rfl rfl (fun hx_23 => ?_) (fun hx_23 => ?_)
      · rw [if_pos hx_23] at e
        refine go_forget (l := [some (.ref a0), some (.int v1), some (.int r2), some (.int x18), some (.int x22)]) ⟨Or.inl rfl, Or.inl rfl, Or.inl rfl, Or.inl rfl, Or.inl rfl, trivial⟩ ?_
        exact f_RM_put_J54_s F a0 v1 r2 x18 x22 _ _ _ e
      · rw [if_neg hx_23] at e
        refine go_iload rfl rfl ?_
        refine go_iconst (v := 4) rfl (by decide) ?_
        refine go_icmp_ne (t := 64) rfl rfl (fun hx_70 => ?_) (fun hx_70 => ?_)
        · rw [if_pos hx_70] at e
          refine go_forget (l := [some (.ref a0), some (.int v1), some (.int r2), some (.int x18), some (.int x22)]) ⟨Or.inl rfl, Or.inl rfl, Or.inl rfl, Or.inl rfl, Or.inl rfl, trivial⟩ ?_
          exact f_RM_put_J54_s F a0 v1 r2 x18 x22 _ _ _ e
        · rw [if_neg hx_70] at e
          refine go_forget (l := [some (.ref a0), some (.int v1), some (.int r2), some (.int x18), some (.int x22)]) ⟨Or.inl rfl, Or.inl rfl, Or.inl rfl, Or.inl rfl, Or.inl rfl, trivial⟩ ?_
          exact f_RM_put_J64_s F a0 v1 r2 x18 x22 _ _ _ e
    · rw [if_neg hx_14] at e
      refine go_bipush (v := (-3)) rfl (by decide) ?_
      cases e
      exact go_ret rfl rfl
def f_RM_isThrough (F : Nat) (a0 : Nat) (v1 : Int32) (h : ck_H) : Option (Int32 × ck_H) :=
  ck_as (gk h a0 = 12) <|
  ck_some (gR h a0 65) fun b2 =>
  ck_as ((gk h b2 = 13 ∨ gk h b2 = 15) ∧ ¬ v1 < 0 ∧ (v1 : Int32).toNatClampNeg < gz h b2) <|
  if (gI h b2 (v1 : Int32).toNatClampNeg) = (0 : Int32) then
    some (1, h)
  else
    ck_some (gR h a0 64) fun b6 =>
    ck_as ((gk h b6 = 14 ∨ gk h b6 = 21) ∧ ¬ v1 < 0 ∧ (v1 : Int32).toNatClampNeg < gz h b6) <|
    ck_some (gR h a0 7) fun b9 =>
    ck_some (gR h a0 62) fun b11 =>
    ck_as ((gk h b11 = 14 ∨ gk h b11 = 21) ∧ ¬ v1 < 0 ∧ (v1 : Int32).toNatClampNeg < gz h b11) <|
    ck_some (gR h a0 63) fun b14 =>
    ck_as ((gk h b14 = 14 ∨ gk h b14 = 21) ∧ ¬ v1 < 0 ∧ (v1 : Int32).toNatClampNeg < gz h b14) <|
    ck_bd (f_RM_at F (gI h b11 (v1 : Int32).toNatClampNeg) (gI h b14 (v1 : Int32).toNatClampNeg) h) fun r17 h18 =>
    ck_as ((gk h18 b9 = 14 ∨ gk h18 b9 = 21) ∧ ¬ r17 < 0 ∧ (r17 : Int32).toNatClampNeg < gz h18 b9) <|
    if (gI h b6 (v1 : Int32).toNatClampNeg) < (gI h18 b9 (r17 : Int32).toNatClampNeg) then
      some (0, h18)
    else
      some (1, h18)
set_option maxRecDepth 100000 in
set_option maxHeartbeats 4000000 in
theorem s_RM_isThrough {F : Nat} {a0 : Nat} {v1 : Int32} {h h' : ck_H} {r : Int32} (e : f_RM_isThrough F a0 v1 h = some (r, h')) : Go k_RM_isThrough 0 (ck_in [.ref a0, .int v1] 2) [] h (some (.int r), h') := by
  unfold f_RM_isThrough at e
  show Go k_RM_isThrough 0 [some (.ref a0), some (.int v1)] [] h _
  refine go_aload_n rfl rfl ?_
  replace e := ck_as_e e
  obtain ⟨hk_1, e⟩ := e
  replace e := ck_some_e e
  obtain ⟨b2, hq_3, e⟩ := e
  refine go_get (v := .ref b2) rfl rfl hk_1 (by decide) (by show va_rf (gR h a0 65) = _; rw [hq_3]; rfl) ?_
  refine go_iload_n rfl rfl ?_
  replace e := ck_as_e e
  obtain ⟨hc_4, e⟩ := e
  refine go_bald rfl hc_4 ?_
  refine go_if_eq (t := 38) rfl rfl (fun hx_5 => ?_) (fun hx_5 => ?_)
  · rw [if_pos hx_5] at e
    refine go_iconst (v := 1) rfl (by decide) ?_
    refine go_goto (t := 43) rfl rfl ?_
    cases e
    exact go_ret rfl (ck_rvb rfl (Or.inr rfl))
  · rw [if_neg hx_5] at e
    refine go_aload_n rfl rfl ?_
    replace e := ck_some_e e
    obtain ⟨b6, hq_7, e⟩ := e
    refine go_get (v := .ref b6) rfl rfl hk_1 (by decide) (by show va_rf (gR h a0 64) = _; rw [hq_7]; rfl) ?_
    refine go_iload_n rfl rfl ?_
    replace e := ck_as_e e
    obtain ⟨hc_8, e⟩ := e
    refine go_iald rfl hc_8 ?_
    refine go_aload_n rfl rfl ?_
    replace e := ck_some_e e
    obtain ⟨b9, hq_10, e⟩ := e
    refine go_get (v := .ref b9) rfl rfl hk_1 (by decide) (by show va_rf (gR h a0 7) = _; rw [hq_10]; rfl) ?_
    refine go_aload_n rfl rfl ?_
    replace e := ck_some_e e
    obtain ⟨b11, hq_12, e⟩ := e
    refine go_get (v := .ref b11) rfl rfl hk_1 (by decide) (by show va_rf (gR h a0 62) = _; rw [hq_12]; rfl) ?_
    refine go_iload_n rfl rfl ?_
    replace e := ck_as_e e
    obtain ⟨hc_13, e⟩ := e
    refine go_iald rfl hc_13 ?_
    refine go_aload_n rfl rfl ?_
    replace e := ck_some_e e
    obtain ⟨b14, hq_15, e⟩ := e
    refine go_get (v := .ref b14) rfl rfl hk_1 (by decide) (by show va_rf (gR h a0 63) = _; rw [hq_15]; rfl) ?_
    refine go_iload_n rfl rfl ?_
    replace e := ck_as_e e
    obtain ⟨hc_16, e⟩ := e
    refine go_iald rfl hc_16 ?_
    replace e := ck_bd_e e
    obtain ⟨r17, h18, e19, e⟩ := e
    refine go_callS (As := [.int (gI h b11 (v1 : Int32).toNatClampNeg), .int (gI h b14 (v1 : Int32).toNatClampNeg)]) (rest := [.ref b9, .int (gI h b6 (v1 : Int32).toNatClampNeg)]) rfl rfl rfl ⟨Nat.le_of_ble_eq_true rfl, Nat.le_of_ble_eq_true rfl, Nat.le_of_ble_eq_true rfl, Nat.le_of_ble_eq_true rfl⟩ (s_RM_at e19) ?_
    show Go k_RM_isThrough 34 [some (.ref a0), some (.int v1)] [.int r17, .ref b9, .int (gI h b6 (v1 : Int32).toNatClampNeg)] h18 _
    replace e := ck_as_e e
    obtain ⟨hc_20, e⟩ := e
    refine go_iald rfl hc_20 ?_
    refine go_icmp_lt (t := 42) rfl rfl (fun hx_21 => ?_) (fun hx_21 => ?_)
    · rw [if_pos hx_21] at e
      refine go_iconst (v := 0) rfl (by decide) ?_
      cases e
      exact go_ret rfl (ck_rvb rfl (Or.inl rfl))
    · rw [if_neg hx_21] at e
      refine go_iconst (v := 1) rfl (by decide) ?_
      refine go_goto (t := 43) rfl rfl ?_
      cases e
      exact go_ret rfl (ck_rvb rfl (Or.inr rfl))
def f_RM_goOn_J149 (F : Nat)  (a0 : Nat) (v1 : Int32) (v2 : Int32) (v3 : Int32) (v4 : Int32) (h : ck_H) : Option (Int32 × ck_H) :=
  ck_as (gk h a0 = 12) <|
  ck_some (gR h a0 8) fun b2 =>
  ck_bd (f_RM_at F v3 v4 h) fun r4 h5 =>
  ck_as ((gk h5 b2 = 13 ∨ gk h5 b2 = 15) ∧ ¬ r4 < 0 ∧ (r4 : Int32).toNatClampNeg < gz h5 b2) <|
  if (gI h5 b2 (r4 : Int32).toNatClampNeg) = (0 : Int32) then
    ck_as (gk h5 a0 = 12) <|
    ck_some (gR h5 a0 65) fun b10 =>
    ck_as (gk h5 b10 = 15 ∧ ((1 : Int32) = 0 ∨ (1 : Int32) = 1) ∧ ¬ v1 < 0 ∧ (v1 : Int32).toNatClampNeg < gz h5 b10) <|
    ck_then (wI h5 b10 (v1 : Int32).toNatClampNeg 1) fun h13 =>
    ck_some (gR h13 a0 62) fun b15 =>
    ck_as (gk h13 b15 = 14 ∧ ¬ v1 < 0 ∧ (v1 : Int32).toNatClampNeg < gz h13 b15) <|
    ck_then (wI h13 b15 (v1 : Int32).toNatClampNeg v3) fun h18 =>
    ck_some (gR h18 a0 63) fun b20 =>
    ck_as (gk h18 b20 = 14 ∧ ¬ v1 < 0 ∧ (v1 : Int32).toNatClampNeg < gz h18 b20) <|
    ck_then (wI h18 b20 (v1 : Int32).toNatClampNeg v4) fun h23 =>
    ck_some (gR h23 a0 64) fun b25 =>
    ck_some (gR h23 a0 35) fun b27 =>
    ck_as ((gk h23 b27 = 14 ∨ gk h23 b27 = 21) ∧ ¬ v2 < 0 ∧ (v2 : Int32).toNatClampNeg < gz h23 b27) <|
    if (gI h23 b27 (v2 : Int32).toNatClampNeg) = (1 : Int32) then
      ck_as (gk h23 b25 = 14 ∧ ¬ v1 < 0 ∧ (v1 : Int32).toNatClampNeg < gz h23 b25) <|
      ck_then (wI h23 b25 (v1 : Int32).toNatClampNeg 2) fun h32 =>
      some (1, h32)
    else
      ck_some (gR h23 a0 35) fun b34 =>
      ck_as ((gk h23 b34 = 14 ∨ gk h23 b34 = 21) ∧ ¬ v2 < 0 ∧ (v2 : Int32).toNatClampNeg < gz h23 b34) <|
      if (gI h23 b34 (v2 : Int32).toNatClampNeg) = (2 : Int32) then
        ck_as (gk h23 b25 = 14 ∧ ¬ v1 < 0 ∧ (v1 : Int32).toNatClampNeg < gz h23 b25) <|
        ck_then (wI h23 b25 (v1 : Int32).toNatClampNeg 2) fun h39 =>
        some (1, h39)
      else
        ck_as (gk h23 b25 = 14 ∧ ¬ v1 < 0 ∧ (v1 : Int32).toNatClampNeg < gz h23 b25) <|
        ck_then (wI h23 b25 (v1 : Int32).toNatClampNeg 0) fun h42 =>
        some (1, h42)
  else
    some ((-6), h5)
set_option maxRecDepth 100000 in
set_option maxHeartbeats 4000000 in
theorem f_RM_goOn_J149_s (F : Nat)   (a0 : Nat) (v1 : Int32) (v2 : Int32) (v3 : Int32) (v4 : Int32) (h : ck_H) (r : Int32) (h' : ck_H) (e : f_RM_goOn_J149 F  a0 v1 v2 v3 v4 h = some (r, h')) : Go k_RM_goOn 149 [some (.ref a0), some (.int v1), some (.int v2), some (.int v3), some (.int v4)] [] h (some (.int r), h') := by
  unfold f_RM_goOn_J149 at e
  refine go_aload_n rfl rfl ?_
  replace e := ck_as_e e
  obtain ⟨hk_1, e⟩ := e
  replace e := ck_some_e e
  obtain ⟨b2, hq_3, e⟩ := e
  refine go_get (v := .ref b2) rfl rfl hk_1 (by decide) (by show va_rf (gR h a0 8) = _; rw [hq_3]; rfl) ?_
  refine go_iload_n rfl rfl ?_
  refine go_iload rfl rfl ?_
  replace e := ck_bd_e e
  obtain ⟨r4, h5, e6, e⟩ := e
  refine go_callS (As := [.int v3, .int v4]) (rest := [.ref b2]) rfl rfl rfl ⟨Nat.le_of_ble_eq_true rfl, Nat.le_of_ble_eq_true rfl, Nat.le_of_ble_eq_true rfl, Nat.le_of_ble_eq_true rfl⟩ (s_RM_at e6) ?_
  show Go k_RM_goOn 159 [some (.ref a0), some (.int v1), some (.int v2), some (.int v3), some (.int v4)] [.int r4, .ref b2] h5 _
  replace e := ck_as_e e
  obtain ⟨hc_7, e⟩ := e
  refine go_bald rfl hc_7 ?_
  refine go_if_eq (t := 166) rfl rfl (fun hx_8 => ?_) (fun hx_8 => ?_)
  · rw [if_pos hx_8] at e
    refine go_aload_n rfl rfl ?_
    replace e := ck_as_e e
    obtain ⟨hk_9, e⟩ := e
    replace e := ck_some_e e
    obtain ⟨b10, hq_11, e⟩ := e
    refine go_get (v := .ref b10) rfl rfl hk_9 (by decide) (by show va_rf (gR h5 a0 65) = _; rw [hq_11]; rfl) ?_
    refine go_iload_n rfl rfl ?_
    refine go_iconst (v := 1) rfl (by decide) ?_
    replace e := ck_as_e e
    obtain ⟨hc_12, e⟩ := e
    refine go_zast rfl hc_12 ?_
    have hk_14 : gk (wI h5 b10 (v1 : Int32).toNatClampNeg 1) a0 = 12 := ck_kI.trans hk_9
    generalize wI h5 b10 (v1 : Int32).toNatClampNeg 1 = h13 at e hk_14 ⊢
    replace e := ck_then_e e
    refine go_aload_n rfl rfl ?_
    replace e := ck_some_e e
    obtain ⟨b15, hq_16, e⟩ := e
    refine go_get (v := .ref b15) rfl rfl hk_14 (by decide) (by show va_rf (gR h13 a0 62) = _; rw [hq_16]; rfl) ?_
    refine go_iload_n rfl rfl ?_
    refine go_iload_n rfl rfl ?_
    replace e := ck_as_e e
    obtain ⟨hc_17, e⟩ := e
    refine go_iast rfl hc_17 ?_
    have hk_19 : gk (wI h13 b15 (v1 : Int32).toNatClampNeg v3) a0 = 12 := ck_kI.trans hk_14
    generalize wI h13 b15 (v1 : Int32).toNatClampNeg v3 = h18 at e hk_19 ⊢
    replace e := ck_then_e e
    refine go_aload_n rfl rfl ?_
    replace e := ck_some_e e
    obtain ⟨b20, hq_21, e⟩ := e
    refine go_get (v := .ref b20) rfl rfl hk_19 (by decide) (by show va_rf (gR h18 a0 63) = _; rw [hq_21]; rfl) ?_
    refine go_iload_n rfl rfl ?_
    refine go_iload rfl rfl ?_
    replace e := ck_as_e e
    obtain ⟨hc_22, e⟩ := e
    refine go_iast rfl hc_22 ?_
    have hk_24 : gk (wI h18 b20 (v1 : Int32).toNatClampNeg v4) a0 = 12 := ck_kI.trans hk_19
    generalize wI h18 b20 (v1 : Int32).toNatClampNeg v4 = h23 at e hk_24 ⊢
    replace e := ck_then_e e
    refine go_aload_n rfl rfl ?_
    replace e := ck_some_e e
    obtain ⟨b25, hq_26, e⟩ := e
    refine go_get (v := .ref b25) rfl rfl hk_24 (by decide) (by show va_rf (gR h23 a0 64) = _; rw [hq_26]; rfl) ?_
    refine go_iload_n rfl rfl ?_
    refine go_aload_n rfl rfl ?_
    replace e := ck_some_e e
    obtain ⟨b27, hq_28, e⟩ := e
    refine go_get (v := .ref b27) rfl rfl hk_24 (by decide) (by show va_rf (gR h23 a0 35) = _; rw [hq_28]; rfl) ?_
    refine go_iload_n rfl rfl ?_
    replace e := ck_as_e e
    obtain ⟨hc_29, e⟩ := e
    refine go_iald rfl hc_29 ?_
    refine go_iconst (v := 1) rfl (by decide) ?_
    refine go_icmp_eq (t := 213) rfl rfl (fun hx_30 => ?_) (fun hx_30 => ?_)
    · rw [if_pos hx_30] at e
      refine go_iconst (v := 2) rfl (by decide) ?_
      refine go_goto (t := 218) rfl rfl ?_
      replace e := ck_as_e e
      obtain ⟨hc_31, e⟩ := e
      refine go_iast rfl hc_31 ?_
      have hk_33 : gk (wI h23 b25 (v1 : Int32).toNatClampNeg 2) a0 = 12 := ck_kI.trans hk_24
      generalize wI h23 b25 (v1 : Int32).toNatClampNeg 2 = h32 at e hk_33 ⊢
      replace e := ck_then_e e
      refine go_iconst (v := 1) rfl (by decide) ?_
      cases e
      exact go_ret rfl rfl
    · rw [if_neg hx_30] at e
      refine go_aload_n rfl rfl ?_
      replace e := ck_some_e e
      obtain ⟨b34, hq_35, e⟩ := e
      refine go_get (v := .ref b34) rfl rfl hk_24 (by decide) (by show va_rf (gR h23 a0 35) = _; rw [hq_35]; rfl) ?_
      refine go_iload_n rfl rfl ?_
      replace e := ck_as_e e
      obtain ⟨hc_36, e⟩ := e
      refine go_iald rfl hc_36 ?_
      refine go_iconst (v := 2) rfl (by decide) ?_
      refine go_icmp_ne (t := 217) rfl rfl (fun hx_37 => ?_) (fun hx_37 => ?_)
      · rw [if_pos hx_37] at e
        refine go_iconst (v := 2) rfl (by decide) ?_
        refine go_goto (t := 218) rfl rfl ?_
        replace e := ck_as_e e
        obtain ⟨hc_38, e⟩ := e
        refine go_iast rfl hc_38 ?_
        have hk_40 : gk (wI h23 b25 (v1 : Int32).toNatClampNeg 2) a0 = 12 := ck_kI.trans hk_24
        generalize wI h23 b25 (v1 : Int32).toNatClampNeg 2 = h39 at e hk_40 ⊢
        replace e := ck_then_e e
        refine go_iconst (v := 1) rfl (by decide) ?_
        cases e
        exact go_ret rfl rfl
      · rw [if_neg hx_37] at e
        refine go_iconst (v := 0) rfl (by decide) ?_
        replace e := ck_as_e e
        obtain ⟨hc_41, e⟩ := e
        refine go_iast rfl hc_41 ?_
        have hk_43 : gk (wI h23 b25 (v1 : Int32).toNatClampNeg 0) a0 = 12 := ck_kI.trans hk_24
        generalize wI h23 b25 (v1 : Int32).toNatClampNeg 0 = h42 at e hk_43 ⊢
        replace e := ck_then_e e
        refine go_iconst (v := 1) rfl (by decide) ?_
        cases e
        exact go_ret rfl rfl
  · rw [if_neg hx_8] at e
    refine go_bipush (v := (-6)) rfl (by decide) ?_
    cases e
    exact go_ret rfl rfl
def f_RM_goOn_J84 (F : Nat)  (a0 : Nat) (v1 : Int32) (v2 : Int32) (h : ck_H) : Option (Int32 × ck_H) :=
  ck_as (gk h a0 = 12) <|
  ck_some (gR h a0 59) fun b2 =>
  ck_as ((gk h b2 = 14 ∨ gk h b2 = 21) ∧ ¬ v1 < 0 ∧ (v1 : Int32).toNatClampNeg < gz h b2) <|
  ck_bd (f_RM_tracksOf F a0 v2 h) fun r5 h6 =>
  if (gI h b2 (v1 : Int32).toNatClampNeg) < r5 then
    ck_as (gk h6 a0 = 12) <|
    ck_some (gR h6 a0 59) fun b10 =>
    ck_as ((gk h6 b10 = 14 ∨ gk h6 b10 = 21) ∧ ¬ v1 < 0 ∧ (v1 : Int32).toNatClampNeg < gz h6 b10) <|
    ck_bd (f_RM_trackOf F a0 v2 (gI h6 b10 (v1 : Int32).toNatClampNeg) h6) fun r13 h14 =>
    ck_as (gk h14 a0 = 12) <|
    ck_some (gR h14 a0 60) fun b17 =>
    ck_as ((gk h14 b17 = 14 ∨ gk h14 b17 = 21) ∧ ¬ v1 < 0 ∧ (v1 : Int32).toNatClampNeg < gz h14 b17) <|
    ck_then (gI h14 b17 (v1 : Int32).toNatClampNeg) fun x20 =>
    ck_some (gR h14 a0 60) fun b21 =>
    ck_as ((gk h14 b21 = 14 ∨ gk h14 b21 = 21) ∧ ¬ v1 < 0 ∧ (v1 : Int32).toNatClampNeg < gz h14 b21) <|
    ck_as (gk h14 b21 = 14 ∧ ¬ v1 < 0 ∧ (v1 : Int32).toNatClampNeg < gz h14 b21) <|
    ck_then (wI h14 b21 (v1 : Int32).toNatClampNeg ((gI h14 b21 (v1 : Int32).toNatClampNeg) + 1)) fun h25 =>
    ck_some (gR h25 a0 61) fun b27 =>
    ck_as ((gk h25 b27 = 14 ∨ gk h25 b27 = 21) ∧ ¬ v1 < 0 ∧ (v1 : Int32).toNatClampNeg < gz h25 b27) <|
    if (0 : Int32) < (gI h25 b27 (v1 : Int32).toNatClampNeg) then
      ck_some (gR h25 a0 61) fun b31 =>
      ck_as ((gk h25 b31 = 14 ∨ gk h25 b31 = 21) ∧ ¬ v1 < 0 ∧ (v1 : Int32).toNatClampNeg < gz h25 b31) <|
      ck_as (gk h25 b31 = 14 ∧ ¬ v1 < 0 ∧ (v1 : Int32).toNatClampNeg < gz h25 b31) <|
      ck_then (wI h25 b31 (v1 : Int32).toNatClampNeg ((gI h25 b31 (v1 : Int32).toNatClampNeg) - 1)) fun h35 =>
      f_RM_goOn_J149 F a0 v1 v2 r13 x20 h35
    else
      f_RM_goOn_J149 F a0 v1 v2 r13 x20 h25
  else
    some (0, h6)
set_option maxRecDepth 100000 in
set_option maxHeartbeats 4000000 in
theorem f_RM_goOn_J84_s (F : Nat)   (a0 : Nat) (v1 : Int32) (v2 : Int32) (h : ck_H) (r : Int32) (h' : ck_H) (e : f_RM_goOn_J84 F  a0 v1 v2 h = some (r, h')) : Go k_RM_goOn 84 [some (.ref a0), some (.int v1), some (.int v2), none, none] [] h (some (.int r), h') := by
  unfold f_RM_goOn_J84 at e
  refine go_aload_n rfl rfl ?_
  replace e := ck_as_e e
  obtain ⟨hk_1, e⟩ := e
  replace e := ck_some_e e
  obtain ⟨b2, hq_3, e⟩ := e
  refine go_get (v := .ref b2) rfl rfl hk_1 (by decide) (by show va_rf (gR h a0 59) = _; rw [hq_3]; rfl) ?_
  refine go_iload_n rfl rfl ?_
  replace e := ck_as_e e
  obtain ⟨hc_4, e⟩ := e
  refine go_iald rfl hc_4 ?_
  refine go_aload_n rfl rfl ?_
  refine go_iload_n rfl rfl ?_
  replace e := ck_bd_e e
  obtain ⟨r5, h6, e7, e⟩ := e
  refine go_callV (As := [.int v2]) (b0 := a0) (rest := [.int (gI h b2 (v1 : Int32).toNatClampNeg)]) rfl rfl ⟨hk_1, by decide⟩ rfl ⟨Nat.le_of_ble_eq_true rfl, Nat.le_of_ble_eq_true rfl, Nat.le_of_ble_eq_true rfl, Nat.le_of_ble_eq_true rfl⟩ (s_RM_tracksOf e7) ?_
  show Go k_RM_goOn 95 [some (.ref a0), some (.int v1), some (.int v2), none, none] [.int r5, .int (gI h b2 (v1 : Int32).toNatClampNeg)] h6 _
  refine go_icmp_lt (t := 100) rfl rfl (fun hx_8 => ?_) (fun hx_8 => ?_)
  · rw [if_pos hx_8] at e
    refine go_aload_n rfl rfl ?_
    refine go_iload_n rfl rfl ?_
    refine go_aload_n rfl rfl ?_
    replace e := ck_as_e e
    obtain ⟨hk_9, e⟩ := e
    replace e := ck_some_e e
    obtain ⟨b10, hq_11, e⟩ := e
    refine go_get (v := .ref b10) rfl rfl hk_9 (by decide) (by show va_rf (gR h6 a0 59) = _; rw [hq_11]; rfl) ?_
    refine go_iload_n rfl rfl ?_
    replace e := ck_as_e e
    obtain ⟨hc_12, e⟩ := e
    refine go_iald rfl hc_12 ?_
    replace e := ck_bd_e e
    obtain ⟨r13, h14, e15, e⟩ := e
    refine go_callV (As := [.int v2, .int (gI h6 b10 (v1 : Int32).toNatClampNeg)]) (b0 := a0) (rest := []) rfl rfl ⟨hk_9, by decide⟩ rfl ⟨Nat.le_of_ble_eq_true rfl, Nat.le_of_ble_eq_true rfl, Nat.le_of_ble_eq_true rfl, Nat.le_of_ble_eq_true rfl⟩ (s_RM_trackOf e15) ?_
    show Go k_RM_goOn 111 [some (.ref a0), some (.int v1), some (.int v2), none, none] [.int r13] h14 _
    refine go_istore_n rfl rfl ?_
    show Go k_RM_goOn 112 [some (.ref a0), some (.int v1), some (.int v2), some (.int r13), none] [] h14 _
    refine go_aload_n rfl rfl ?_
    replace e := ck_as_e e
    obtain ⟨hk_16, e⟩ := e
    replace e := ck_some_e e
    obtain ⟨b17, hq_18, e⟩ := e
    refine go_get (v := .ref b17) rfl rfl hk_16 (by decide) (by show va_rf (gR h14 a0 60) = _; rw [hq_18]; rfl) ?_
    refine go_iload_n rfl rfl ?_
    replace e := ck_as_e e
    obtain ⟨hc_19, e⟩ := e
    refine go_iald rfl hc_19 ?_
    generalize gI h14 b17 (v1 : Int32).toNatClampNeg = x20 at e ⊢
    replace e := ck_then_e e
    refine go_istore rfl rfl ?_
    show Go k_RM_goOn 120 [some (.ref a0), some (.int v1), some (.int v2), some (.int r13), some (.int x20)] [] h14 _
    refine go_aload_n rfl rfl ?_
    replace e := ck_some_e e
    obtain ⟨b21, hq_22, e⟩ := e
    refine go_get (v := .ref b21) rfl rfl hk_16 (by decide) (by show va_rf (gR h14 a0 60) = _; rw [hq_22]; rfl) ?_
    refine go_iload_n rfl rfl ?_
    refine go_dup2 rfl rfl rfl ?_
    replace e := ck_as_e e
    obtain ⟨hc_23, e⟩ := e
    refine go_iald rfl hc_23 ?_
    refine go_iconst (v := 1) rfl (by decide) ?_
    refine go_iadd rfl ?_
    replace e := ck_as_e e
    obtain ⟨hc_24, e⟩ := e
    refine go_iast rfl hc_24 ?_
    have hk_26 : gk (wI h14 b21 (v1 : Int32).toNatClampNeg ((gI h14 b21 (v1 : Int32).toNatClampNeg) + 1)) a0 = 12 := ck_kI.trans hk_16
    generalize wI h14 b21 (v1 : Int32).toNatClampNeg ((gI h14 b21 (v1 : Int32).toNatClampNeg) + 1) = h25 at e hk_26 ⊢
    replace e := ck_then_e e
    refine go_aload_n rfl rfl ?_
    replace e := ck_some_e e
    obtain ⟨b27, hq_28, e⟩ := e
    refine go_get (v := .ref b27) rfl rfl hk_26 (by decide) (by show va_rf (gR h25 a0 61) = _; rw [hq_28]; rfl) ?_
    refine go_iload_n rfl rfl ?_
    replace e := ck_as_e e
    obtain ⟨hc_29, e⟩ := e
    refine go_iald rfl hc_29 ?_
    refine go_if_le (t := 149) rfl rfl (fun hx_30 => ?_) (fun hx_30 => ?_)
    · rw [if_pos hx_30] at e
      refine go_aload_n rfl rfl ?_
      replace e := ck_some_e e
      obtain ⟨b31, hq_32, e⟩ := e
      refine go_get (v := .ref b31) rfl rfl hk_26 (by decide) (by show va_rf (gR h25 a0 61) = _; rw [hq_32]; rfl) ?_
      refine go_iload_n rfl rfl ?_
      refine go_dup2 rfl rfl rfl ?_
      replace e := ck_as_e e
      obtain ⟨hc_33, e⟩ := e
      refine go_iald rfl hc_33 ?_
      refine go_iconst (v := 1) rfl (by decide) ?_
      refine go_isub rfl ?_
      replace e := ck_as_e e
      obtain ⟨hc_34, e⟩ := e
      refine go_iast rfl hc_34 ?_
      have hk_36 : gk (wI h25 b31 (v1 : Int32).toNatClampNeg ((gI h25 b31 (v1 : Int32).toNatClampNeg) - 1)) a0 = 12 := ck_kI.trans hk_26
      generalize wI h25 b31 (v1 : Int32).toNatClampNeg ((gI h25 b31 (v1 : Int32).toNatClampNeg) - 1) = h35 at e hk_36 ⊢
      replace e := ck_then_e e
      refine go_forget (l := [some (.ref a0), some (.int v1), some (.int v2), some (.int r13), some (.int x20)]) ⟨Or.inl rfl, Or.inl rfl, Or.inl rfl, Or.inl rfl, Or.inl rfl, trivial⟩ ?_
      exact f_RM_goOn_J149_s F a0 v1 v2 r13 x20 _ _ _ e
    · rw [if_neg hx_30] at e
      refine go_forget (l := [some (.ref a0), some (.int v1), some (.int v2), some (.int r13), some (.int x20)]) ⟨Or.inl rfl, Or.inl rfl, Or.inl rfl, Or.inl rfl, Or.inl rfl, trivial⟩ ?_
      exact f_RM_goOn_J149_s F a0 v1 v2 r13 x20 _ _ _ e
  · rw [if_neg hx_8] at e
    refine go_iconst (v := 0) rfl (by decide) ?_
    cases e
    exact go_ret rfl rfl
def f_RM_goOn_L25 (F : Nat)  : Nat → Nat → Int32 → Int32 → ck_H → Option (Int32 × ck_H)
  | 0, _, _, _, _ => none
  | n + 1, a0, v1, v2, h =>
    ck_as (gk h a0 = 12) <|
    ck_some (gR h a0 59) fun b2 =>
    ck_as ((gk h b2 = 14 ∨ gk h b2 = 21) ∧ ¬ v1 < 0 ∧ (v1 : Int32).toNatClampNeg < gz h b2) <|
    ck_bd (f_RM_tracksOf F a0 v2 h) fun r5 h6 =>
    if (gI h b2 (v1 : Int32).toNatClampNeg) < r5 then
      ck_as (gk h6 a0 = 12) <|
      ck_some (gR h6 a0 60) fun b10 =>
      ck_as ((gk h6 b10 = 14 ∨ gk h6 b10 = 21) ∧ ¬ v1 < 0 ∧ (v1 : Int32).toNatClampNeg < gz h6 b10) <|
      ck_some (gR h6 a0 1) fun b13 =>
      ck_some (gR h6 a0 59) fun b15 =>
      ck_as ((gk h6 b15 = 14 ∨ gk h6 b15 = 21) ∧ ¬ v1 < 0 ∧ (v1 : Int32).toNatClampNeg < gz h6 b15) <|
      ck_bd (f_RM_trackOf F a0 v2 (gI h6 b15 (v1 : Int32).toNatClampNeg) h6) fun r18 h19 =>
      ck_as ((gk h19 b13 = 14 ∨ gk h19 b13 = 21) ∧ ¬ r18 < 0 ∧ (r18 : Int32).toNatClampNeg < gz h19 b13) <|
      if (gI h6 b10 (v1 : Int32).toNatClampNeg) < (gI h19 b13 (r18 : Int32).toNatClampNeg) then
        f_RM_goOn_J84 F a0 v1 v2 h19
      else
        ck_as (gk h19 a0 = 12) <|
        ck_some (gR h19 a0 59) fun b45 =>
        ck_as ((gk h19 b45 = 14 ∨ gk h19 b45 = 21) ∧ ¬ v1 < 0 ∧ (v1 : Int32).toNatClampNeg < gz h19 b45) <|
        ck_as (gk h19 b45 = 14 ∧ ¬ v1 < 0 ∧ (v1 : Int32).toNatClampNeg < gz h19 b45) <|
        ck_then (wI h19 b45 (v1 : Int32).toNatClampNeg ((gI h19 b45 (v1 : Int32).toNatClampNeg) + 1)) fun h49 =>
        ck_some (gR h49 a0 60) fun b51 =>
        ck_as (gk h49 b51 = 14 ∧ ¬ v1 < 0 ∧ (v1 : Int32).toNatClampNeg < gz h49 b51) <|
        ck_then (wI h49 b51 (v1 : Int32).toNatClampNeg 0) fun h54 =>
        f_RM_goOn_L25 F n a0 v1 v2 h54
    else
      f_RM_goOn_J84 F a0 v1 v2 h6
set_option maxRecDepth 100000 in
set_option maxHeartbeats 4000000 in
theorem f_RM_goOn_L25_s (F : Nat)   : ∀ (n : Nat) (a0 : Nat) (v1 : Int32) (v2 : Int32) (h : ck_H) (r : Int32) (h' : ck_H), f_RM_goOn_L25 F n a0 v1 v2 h = some (r, h') → Go k_RM_goOn 25 [some (.ref a0), some (.int v1), some (.int v2), none, none] [] h (some (.int r), h') := by
  intro n
  induction n with
  | zero => intro a0 v1 v2 h r h' e; simp only [f_RM_goOn_L25] at e; cases e
  | succ n ih =>
    intro a0 v1 v2 h r h' e
    rw [f_RM_goOn_L25] at e
    refine go_aload_n rfl rfl ?_
    replace e := ck_as_e e
    obtain ⟨hk_1, e⟩ := e
    replace e := ck_some_e e
    obtain ⟨b2, hq_3, e⟩ := e
    refine go_get (v := .ref b2) rfl rfl hk_1 (by decide) (by show va_rf (gR h a0 59) = _; rw [hq_3]; rfl) ?_
    refine go_iload_n rfl rfl ?_
    replace e := ck_as_e e
    obtain ⟨hc_4, e⟩ := e
    refine go_iald rfl hc_4 ?_
    refine go_aload_n rfl rfl ?_
    refine go_iload_n rfl rfl ?_
    replace e := ck_bd_e e
    obtain ⟨r5, h6, e7, e⟩ := e
    refine go_callV (As := [.int v2]) (b0 := a0) (rest := [.int (gI h b2 (v1 : Int32).toNatClampNeg)]) rfl rfl ⟨hk_1, by decide⟩ rfl ⟨Nat.le_of_ble_eq_true rfl, Nat.le_of_ble_eq_true rfl, Nat.le_of_ble_eq_true rfl, Nat.le_of_ble_eq_true rfl⟩ (s_RM_tracksOf e7) ?_
    show Go k_RM_goOn 36 [some (.ref a0), some (.int v1), some (.int v2), none, none] [.int r5, .int (gI h b2 (v1 : Int32).toNatClampNeg)] h6 _
    refine go_icmp_ge (t := 84) rfl rfl (fun hx_8 => ?_) (fun hx_8 => ?_)
    · rw [if_pos hx_8] at e
      refine go_aload_n rfl rfl ?_
      replace e := ck_as_e e
      obtain ⟨hk_9, e⟩ := e
      replace e := ck_some_e e
      obtain ⟨b10, hq_11, e⟩ := e
      refine go_get (v := .ref b10) rfl rfl hk_9 (by decide) (by show va_rf (gR h6 a0 60) = _; rw [hq_11]; rfl) ?_
      refine go_iload_n rfl rfl ?_
      replace e := ck_as_e e
      obtain ⟨hc_12, e⟩ := e
      refine go_iald rfl hc_12 ?_
      refine go_aload_n rfl rfl ?_
      replace e := ck_some_e e
      obtain ⟨b13, hq_14, e⟩ := e
      refine go_get (v := .ref b13) rfl rfl hk_9 (by decide) (by show va_rf (gR h6 a0 1) = _; rw [hq_14]; rfl) ?_
      refine go_aload_n rfl rfl ?_
      refine go_iload_n rfl rfl ?_
      refine go_aload_n rfl rfl ?_
      replace e := ck_some_e e
      obtain ⟨b15, hq_16, e⟩ := e
      refine go_get (v := .ref b15) rfl rfl hk_9 (by decide) (by show va_rf (gR h6 a0 59) = _; rw [hq_16]; rfl) ?_
      refine go_iload_n rfl rfl ?_
      replace e := ck_as_e e
      obtain ⟨hc_17, e⟩ := e
      refine go_iald rfl hc_17 ?_
      replace e := ck_bd_e e
      obtain ⟨r18, h19, e20, e⟩ := e
      refine go_callV (As := [.int v2, .int (gI h6 b15 (v1 : Int32).toNatClampNeg)]) (b0 := a0) (rest := [.ref b13, .int (gI h6 b10 (v1 : Int32).toNatClampNeg)]) rfl rfl ⟨hk_9, by decide⟩ rfl ⟨Nat.le_of_ble_eq_true rfl, Nat.le_of_ble_eq_true rfl, Nat.le_of_ble_eq_true rfl, Nat.le_of_ble_eq_true rfl⟩ (s_RM_trackOf e20) ?_
      show Go k_RM_goOn 60 [some (.ref a0), some (.int v1), some (.int v2), none, none] [.int r18, .ref b13, .int (gI h6 b10 (v1 : Int32).toNatClampNeg)] h19 _
      replace e := ck_as_e e
      obtain ⟨hc_21, e⟩ := e
      refine go_iald rfl hc_21 ?_
      refine go_icmp_lt (t := 84) rfl rfl (fun hx_22 => ?_) (fun hx_22 => ?_)
      · rw [if_pos hx_22] at e
        refine go_forget (l := [some (.ref a0), some (.int v1), some (.int v2), none, none]) ⟨Or.inl rfl, Or.inl rfl, Or.inl rfl, Or.inl rfl, Or.inl rfl, trivial⟩ ?_
        exact f_RM_goOn_J84_s F a0 v1 v2 _ _ _ e
      · rw [if_neg hx_22] at e
        refine go_aload_n rfl rfl ?_
        replace e := ck_as_e e
        obtain ⟨hk_44, e⟩ := e
        replace e := ck_some_e e
        obtain ⟨b45, hq_46, e⟩ := e
        refine go_get (v := .ref b45) rfl rfl hk_44 (by decide) (by show va_rf (gR h19 a0 59) = _; rw [hq_46]; rfl) ?_
        refine go_iload_n rfl rfl ?_
        refine go_dup2 rfl rfl rfl ?_
        replace e := ck_as_e e
        obtain ⟨hc_47, e⟩ := e
        refine go_iald rfl hc_47 ?_
        refine go_iconst (v := 1) rfl (by decide) ?_
        refine go_iadd rfl ?_
        replace e := ck_as_e e
        obtain ⟨hc_48, e⟩ := e
        refine go_iast rfl hc_48 ?_
        have hk_50 : gk (wI h19 b45 (v1 : Int32).toNatClampNeg ((gI h19 b45 (v1 : Int32).toNatClampNeg) + 1)) a0 = 12 := ck_kI.trans hk_44
        generalize wI h19 b45 (v1 : Int32).toNatClampNeg ((gI h19 b45 (v1 : Int32).toNatClampNeg) + 1) = h49 at e hk_50 ⊢
        replace e := ck_then_e e
        refine go_aload_n rfl rfl ?_
        replace e := ck_some_e e
        obtain ⟨b51, hq_52, e⟩ := e
        refine go_get (v := .ref b51) rfl rfl hk_50 (by decide) (by show va_rf (gR h49 a0 60) = _; rw [hq_52]; rfl) ?_
        refine go_iload_n rfl rfl ?_
        refine go_iconst (v := 0) rfl (by decide) ?_
        replace e := ck_as_e e
        obtain ⟨hc_53, e⟩ := e
        refine go_iast rfl hc_53 ?_
        have hk_55 : gk (wI h49 b51 (v1 : Int32).toNatClampNeg 0) a0 = 12 := ck_kI.trans hk_50
        generalize wI h49 b51 (v1 : Int32).toNatClampNeg 0 = h54 at e hk_55 ⊢
        replace e := ck_then_e e
        refine go_goto (t := 25) rfl rfl ?_
        refine go_forget (l := [some (.ref a0), some (.int v1), some (.int v2), none, none]) ⟨Or.inl rfl, Or.inl rfl, Or.inl rfl, Or.inl rfl, Or.inl rfl, trivial⟩ ?_
        exact ih _ _ _ _ _ _ e
    · rw [if_neg hx_8] at e
      refine go_forget (l := [some (.ref a0), some (.int v1), some (.int v2), none, none]) ⟨Or.inl rfl, Or.inl rfl, Or.inl rfl, Or.inl rfl, Or.inl rfl, trivial⟩ ?_
      exact f_RM_goOn_J84_s F a0 v1 v2 _ _ _ e
def f_RM_goOn (F : Nat) (a0 : Nat) (v1 : Int32) (h : ck_H) : Option (Int32 × ck_H) :=
  ck_as (gk h a0 = 12) <|
  ck_some (gR h a0 50) fun b2 =>
  ck_as ((gk h b2 = 14 ∨ gk h b2 = 21) ∧ ¬ v1 < 0 ∧ (v1 : Int32).toNatClampNeg < gz h b2) <|
  ck_then (gI h b2 (v1 : Int32).toNatClampNeg) fun x5 =>
  ck_some (gR h a0 65) fun b6 =>
  ck_as (gk h b6 = 15 ∧ ((0 : Int32) = 0 ∨ (0 : Int32) = 1) ∧ ¬ v1 < 0 ∧ (v1 : Int32).toNatClampNeg < gz h b6) <|
  ck_then (wI h b6 (v1 : Int32).toNatClampNeg 0) fun h9 =>
  ck_some (gR h9 a0 61) fun b11 =>
  ck_as ((gk h9 b11 = 14 ∨ gk h9 b11 = 21) ∧ ¬ v1 < 0 ∧ (v1 : Int32).toNatClampNeg < gz h9 b11) <|
  if (gI h9 b11 (v1 : Int32).toNatClampNeg) = (0 : Int32) then
    some (0, h9)
  else
    f_RM_goOn_L25 F F a0 v1 x5 h9
set_option maxRecDepth 100000 in
set_option maxHeartbeats 4000000 in
theorem s_RM_goOn {F : Nat} {a0 : Nat} {v1 : Int32} {h h' : ck_H} {r : Int32} (e : f_RM_goOn F a0 v1 h = some (r, h')) : Go k_RM_goOn 0 (ck_in [.ref a0, .int v1] 5) [] h (some (.int r), h') := by
  unfold f_RM_goOn at e
  show Go k_RM_goOn 0 [some (.ref a0), some (.int v1), none, none, none] [] h _
  refine go_aload_n rfl rfl ?_
  replace e := ck_as_e e
  obtain ⟨hk_1, e⟩ := e
  replace e := ck_some_e e
  obtain ⟨b2, hq_3, e⟩ := e
  refine go_get (v := .ref b2) rfl rfl hk_1 (by decide) (by show va_rf (gR h a0 50) = _; rw [hq_3]; rfl) ?_
  refine go_iload_n rfl rfl ?_
  replace e := ck_as_e e
  obtain ⟨hc_4, e⟩ := e
  refine go_iald rfl hc_4 ?_
  generalize gI h b2 (v1 : Int32).toNatClampNeg = x5 at e ⊢
  replace e := ck_then_e e
  refine go_istore_n rfl rfl ?_
  show Go k_RM_goOn 7 [some (.ref a0), some (.int v1), some (.int x5), none, none] [] h _
  refine go_aload_n rfl rfl ?_
  replace e := ck_some_e e
  obtain ⟨b6, hq_7, e⟩ := e
  refine go_get (v := .ref b6) rfl rfl hk_1 (by decide) (by show va_rf (gR h a0 65) = _; rw [hq_7]; rfl) ?_
  refine go_iload_n rfl rfl ?_
  refine go_iconst (v := 0) rfl (by decide) ?_
  replace e := ck_as_e e
  obtain ⟨hc_8, e⟩ := e
  refine go_zast rfl hc_8 ?_
  have hk_10 : gk (wI h b6 (v1 : Int32).toNatClampNeg 0) a0 = 12 := ck_kI.trans hk_1
  generalize wI h b6 (v1 : Int32).toNatClampNeg 0 = h9 at e hk_10 ⊢
  replace e := ck_then_e e
  refine go_aload_n rfl rfl ?_
  replace e := ck_some_e e
  obtain ⟨b11, hq_12, e⟩ := e
  refine go_get (v := .ref b11) rfl rfl hk_10 (by decide) (by show va_rf (gR h9 a0 61) = _; rw [hq_12]; rfl) ?_
  refine go_iload_n rfl rfl ?_
  replace e := ck_as_e e
  obtain ⟨hc_13, e⟩ := e
  refine go_iald rfl hc_13 ?_
  refine go_if_ne (t := 25) rfl rfl (fun hx_14 => ?_) (fun hx_14 => ?_)
  · rw [if_pos hx_14] at e
    refine go_iconst (v := 0) rfl (by decide) ?_
    cases e
    exact go_ret rfl rfl
  · rw [if_neg hx_14] at e
    refine go_forget (l := [some (.ref a0), some (.int v1), some (.int x5), none, none]) ⟨Or.inl rfl, Or.inl rfl, Or.inl rfl, Or.inl rfl, Or.inl rfl, trivial⟩ ?_
    exact f_RM_goOn_L25_s F F _ _ _ _ _ _ e
def f_RM_two (F : Nat) (a0 : Nat) (v1 : Int32) (h : ck_H) : Option (Int32 × ck_H) :=
  ck_as ((gk h a0 = 13 ∨ gk h a0 = 15) ∧ ¬ v1 < 0 ∧ (v1 : Int32).toNatClampNeg < gz h a0) <|
  ck_as ((gk h a0 = 13 ∨ gk h a0 = 15) ∧ ¬ (v1 + 1) < 0 ∧ (v1 + 1 : Int32).toNatClampNeg < gz h a0) <|
  some ((((gI h a0 (v1 : Int32).toNatClampNeg) &&& 255) <<< (8 &&& 31)) ||| ((gI h a0 (v1 + 1 : Int32).toNatClampNeg) &&& 255), h)
set_option maxRecDepth 100000 in
set_option maxHeartbeats 4000000 in
theorem s_RM_two {F : Nat} {a0 : Nat} {v1 : Int32} {h h' : ck_H} {r : Int32} (e : f_RM_two F a0 v1 h = some (r, h')) : Go k_RM_two 0 (ck_in [.ref a0, .int v1] 2) [] h (some (.int r), h') := by
  unfold f_RM_two at e
  show Go k_RM_two 0 [some (.ref a0), some (.int v1)] [] h _
  refine go_aload_n rfl rfl ?_
  refine go_iload_n rfl rfl ?_
  replace e := ck_as_e e
  obtain ⟨hc_1, e⟩ := e
  refine go_bald rfl hc_1 ?_
  refine go_sipush (v := 255) rfl (by decide) ?_
  refine go_iand rfl ?_
  refine go_bipush (v := 8) rfl (by decide) ?_
  refine go_ishl rfl ?_
  refine go_aload_n rfl rfl ?_
  refine go_iload_n rfl rfl ?_
  refine go_iconst (v := 1) rfl (by decide) ?_
  refine go_iadd rfl ?_
  replace e := ck_as_e e
  obtain ⟨hc_2, e⟩ := e
  refine go_bald rfl hc_2 ?_
  refine go_sipush (v := 255) rfl (by decide) ?_
  refine go_iand rfl ?_
  refine go_ior rfl ?_
  cases e
  exact go_ret rfl rfl
def f_RM_piece (F : Nat) (a0 : Nat) (v1 : Int32) (v2 : Int32) (v3 : Int32) (h : ck_H) : Option (Unit × ck_H) :=
  ck_as (gk h a0 = 12) <|
  ck_some (gR h a0 72) fun b2 =>
  ck_as ((gk h b2 = 14 ∨ gk h b2 = 21) ∧ ¬ v1 < 0 ∧ (v1 : Int32).toNatClampNeg < gz h b2) <|
  ck_then ((400 * v1) + (gI h b2 (v1 : Int32).toNatClampNeg)) fun x5 =>
  ck_some (gR h a0 68) fun b6 =>
  ck_some (gR h a0 62) fun b8 =>
  ck_as ((gk h b8 = 14 ∨ gk h b8 = 21) ∧ ¬ v1 < 0 ∧ (v1 : Int32).toNatClampNeg < gz h b8) <|
  ck_as (gk h b6 = 14 ∧ ¬ x5 < 0 ∧ (x5 : Int32).toNatClampNeg < gz h b6) <|
  ck_then (wI h b6 (x5 : Int32).toNatClampNeg (gI h b8 (v1 : Int32).toNatClampNeg)) fun h12 =>
  ck_some (gR h12 a0 69) fun b14 =>
  ck_some (gR h12 a0 63) fun b16 =>
  ck_as ((gk h12 b16 = 14 ∨ gk h12 b16 = 21) ∧ ¬ v1 < 0 ∧ (v1 : Int32).toNatClampNeg < gz h12 b16) <|
  ck_as (gk h12 b14 = 14 ∧ ¬ x5 < 0 ∧ (x5 : Int32).toNatClampNeg < gz h12 b14) <|
  ck_then (wI h12 b14 (x5 : Int32).toNatClampNeg (gI h12 b16 (v1 : Int32).toNatClampNeg)) fun h20 =>
  ck_some (gR h20 a0 70) fun b22 =>
  ck_as (gk h20 b22 = 14 ∧ ¬ x5 < 0 ∧ (x5 : Int32).toNatClampNeg < gz h20 b22) <|
  ck_then (wI h20 b22 (x5 : Int32).toNatClampNeg v2) fun h25 =>
  ck_some (gR h25 a0 71) fun b27 =>
  ck_as (gk h25 b27 = 14 ∧ ¬ x5 < 0 ∧ (x5 : Int32).toNatClampNeg < gz h25 b27) <|
  ck_then (wI h25 b27 (x5 : Int32).toNatClampNeg v3) fun h30 =>
  ck_some (gR h30 a0 72) fun b32 =>
  ck_as ((gk h30 b32 = 14 ∨ gk h30 b32 = 21) ∧ ¬ v1 < 0 ∧ (v1 : Int32).toNatClampNeg < gz h30 b32) <|
  ck_as (gk h30 b32 = 14 ∧ ¬ v1 < 0 ∧ (v1 : Int32).toNatClampNeg < gz h30 b32) <|
  ck_then (wI h30 b32 (v1 : Int32).toNatClampNeg ((gI h30 b32 (v1 : Int32).toNatClampNeg) + 1)) fun h36 =>
  some ((), h36)
set_option maxRecDepth 100000 in
set_option maxHeartbeats 4000000 in
theorem s_RM_piece {F : Nat} {a0 : Nat} {v1 : Int32} {v2 : Int32} {v3 : Int32} {h h' : ck_H} {r : Unit} (e : f_RM_piece F a0 v1 v2 v3 h = some (r, h')) : Go k_RM_piece 0 (ck_in [.ref a0, .int v1, .int v2, .int v3] 5) [] h (none, h') := by
  unfold f_RM_piece at e
  show Go k_RM_piece 0 [some (.ref a0), some (.int v1), some (.int v2), some (.int v3), none] [] h _
  refine go_sipush (v := 400) rfl (by decide) ?_
  refine go_iload_n rfl rfl ?_
  refine go_imul rfl ?_
  refine go_aload_n rfl rfl ?_
  replace e := ck_as_e e
  obtain ⟨hk_1, e⟩ := e
  replace e := ck_some_e e
  obtain ⟨b2, hq_3, e⟩ := e
  refine go_get (v := .ref b2) rfl rfl hk_1 (by decide) (by show va_rf (gR h a0 72) = _; rw [hq_3]; rfl) ?_
  refine go_iload_n rfl rfl ?_
  replace e := ck_as_e e
  obtain ⟨hc_4, e⟩ := e
  refine go_iald rfl hc_4 ?_
  refine go_iadd rfl ?_
  generalize (400 * v1) + (gI h b2 (v1 : Int32).toNatClampNeg) = x5 at e ⊢
  replace e := ck_then_e e
  refine go_istore rfl rfl ?_
  show Go k_RM_piece 14 [some (.ref a0), some (.int v1), some (.int v2), some (.int v3), some (.int x5)] [] h _
  refine go_aload_n rfl rfl ?_
  replace e := ck_some_e e
  obtain ⟨b6, hq_7, e⟩ := e
  refine go_get (v := .ref b6) rfl rfl hk_1 (by decide) (by show va_rf (gR h a0 68) = _; rw [hq_7]; rfl) ?_
  refine go_iload rfl rfl ?_
  refine go_aload_n rfl rfl ?_
  replace e := ck_some_e e
  obtain ⟨b8, hq_9, e⟩ := e
  refine go_get (v := .ref b8) rfl rfl hk_1 (by decide) (by show va_rf (gR h a0 62) = _; rw [hq_9]; rfl) ?_
  refine go_iload_n rfl rfl ?_
  replace e := ck_as_e e
  obtain ⟨hc_10, e⟩ := e
  refine go_iald rfl hc_10 ?_
  replace e := ck_as_e e
  obtain ⟨hc_11, e⟩ := e
  refine go_iast rfl hc_11 ?_
  have hk_13 : gk (wI h b6 (x5 : Int32).toNatClampNeg (gI h b8 (v1 : Int32).toNatClampNeg)) a0 = 12 := ck_kI.trans hk_1
  generalize wI h b6 (x5 : Int32).toNatClampNeg (gI h b8 (v1 : Int32).toNatClampNeg) = h12 at e hk_13 ⊢
  replace e := ck_then_e e
  refine go_aload_n rfl rfl ?_
  replace e := ck_some_e e
  obtain ⟨b14, hq_15, e⟩ := e
  refine go_get (v := .ref b14) rfl rfl hk_13 (by decide) (by show va_rf (gR h12 a0 69) = _; rw [hq_15]; rfl) ?_
  refine go_iload rfl rfl ?_
  refine go_aload_n rfl rfl ?_
  replace e := ck_some_e e
  obtain ⟨b16, hq_17, e⟩ := e
  refine go_get (v := .ref b16) rfl rfl hk_13 (by decide) (by show va_rf (gR h12 a0 63) = _; rw [hq_17]; rfl) ?_
  refine go_iload_n rfl rfl ?_
  replace e := ck_as_e e
  obtain ⟨hc_18, e⟩ := e
  refine go_iald rfl hc_18 ?_
  replace e := ck_as_e e
  obtain ⟨hc_19, e⟩ := e
  refine go_iast rfl hc_19 ?_
  have hk_21 : gk (wI h12 b14 (x5 : Int32).toNatClampNeg (gI h12 b16 (v1 : Int32).toNatClampNeg)) a0 = 12 := ck_kI.trans hk_13
  generalize wI h12 b14 (x5 : Int32).toNatClampNeg (gI h12 b16 (v1 : Int32).toNatClampNeg) = h20 at e hk_21 ⊢
  replace e := ck_then_e e
  refine go_aload_n rfl rfl ?_
  replace e := ck_some_e e
  obtain ⟨b22, hq_23, e⟩ := e
  refine go_get (v := .ref b22) rfl rfl hk_21 (by decide) (by show va_rf (gR h20 a0 70) = _; rw [hq_23]; rfl) ?_
  refine go_iload rfl rfl ?_
  refine go_iload_n rfl rfl ?_
  replace e := ck_as_e e
  obtain ⟨hc_24, e⟩ := e
  refine go_iast rfl hc_24 ?_
  have hk_26 : gk (wI h20 b22 (x5 : Int32).toNatClampNeg v2) a0 = 12 := ck_kI.trans hk_21
  generalize wI h20 b22 (x5 : Int32).toNatClampNeg v2 = h25 at e hk_26 ⊢
  replace e := ck_then_e e
  refine go_aload_n rfl rfl ?_
  replace e := ck_some_e e
  obtain ⟨b27, hq_28, e⟩ := e
  refine go_get (v := .ref b27) rfl rfl hk_26 (by decide) (by show va_rf (gR h25 a0 71) = _; rw [hq_28]; rfl) ?_
  refine go_iload rfl rfl ?_
  refine go_iload_n rfl rfl ?_
  replace e := ck_as_e e
  obtain ⟨hc_29, e⟩ := e
  refine go_iast rfl hc_29 ?_
  have hk_31 : gk (wI h25 b27 (x5 : Int32).toNatClampNeg v3) a0 = 12 := ck_kI.trans hk_26
  generalize wI h25 b27 (x5 : Int32).toNatClampNeg v3 = h30 at e hk_31 ⊢
  replace e := ck_then_e e
  refine go_aload_n rfl rfl ?_
  replace e := ck_some_e e
  obtain ⟨b32, hq_33, e⟩ := e
  refine go_get (v := .ref b32) rfl rfl hk_31 (by decide) (by show va_rf (gR h30 a0 72) = _; rw [hq_33]; rfl) ?_
  refine go_iload_n rfl rfl ?_
  refine go_dup2 rfl rfl rfl ?_
  replace e := ck_as_e e
  obtain ⟨hc_34, e⟩ := e
  refine go_iald rfl hc_34 ?_
  refine go_iconst (v := 1) rfl (by decide) ?_
  refine go_iadd rfl ?_
  replace e := ck_as_e e
  obtain ⟨hc_35, e⟩ := e
  refine go_iast rfl hc_35 ?_
  have hk_37 : gk (wI h30 b32 (v1 : Int32).toNatClampNeg ((gI h30 b32 (v1 : Int32).toNatClampNeg) + 1)) a0 = 12 := ck_kI.trans hk_31
  generalize wI h30 b32 (v1 : Int32).toNatClampNeg ((gI h30 b32 (v1 : Int32).toNatClampNeg) + 1) = h36 at e hk_37 ⊢
  replace e := ck_then_e e
  cases e
  exact go_ret rfl rfl
def f_RM_tell_L54 (F : Nat) (k11 : Nat → Int32 → Int32 → ck_H → Option (Int32 × ck_H)) : Nat → Nat → Int32 → Int32 → Int32 → Int32 → ck_H → Option (Int32 × ck_H)
  | 0, _, _, _, _, _, _ => none
  | n + 1, a0, v1, v2, v3, v4, h =>
    ck_as (gk h a0 = 12) <|
    ck_some (gR h a0 71) fun b2 =>
    ck_as ((gk h b2 = 14 ∨ gk h b2 = 21) ∧ ¬ v2 < 0 ∧ (v2 : Int32).toNatClampNeg < gz h b2) <|
    if v4 < (gI h b2 (v2 : Int32).toNatClampNeg) then
      ck_some (gR h a0 10) fun b6 =>
      ck_some (gR h a0 0) fun b8 =>
      ck_as ((gk h b8 = 13 ∨ gk h b8 = 15) ∧ ¬ (v3 + v4) < 0 ∧ (v3 + v4 : Int32).toNatClampNeg < gz h b8) <|
      ck_as (gk h b6 = 13 ∧ ¬ ((gI h a0 12) + v4) < 0 ∧ ((gI h a0 12) + v4 : Int32).toNatClampNeg < gz h b6) <|
      ck_then (wI h b6 ((gI h a0 12) + v4 : Int32).toNatClampNeg (gI h b8 (v3 + v4 : Int32).toNatClampNeg : Int32).toInt8.toInt32) fun h12 =>
      f_RM_tell_L54 F k11 n a0 v1 v2 v3 (v4 + 1) h12
    else
      ck_some (gR h a0 71) fun b14 =>
      ck_as ((gk h b14 = 14 ∨ gk h b14 = 21) ∧ ¬ v2 < 0 ∧ (v2 : Int32).toNatClampNeg < gz h b14) <|
      ck_then (wI h a0 12 ((gI h a0 12) + (gI h b14 (v2 : Int32).toNatClampNeg))) fun h17 =>
      k11 a0 v1 (v2 + 1) h17
set_option maxRecDepth 100000 in
set_option maxHeartbeats 4000000 in
theorem f_RM_tell_L54_s (F : Nat) (k11 : Nat → Int32 → Int32 → ck_H → Option (Int32 × ck_H)) (hk11 : ∀ (a0 : Nat) (v1 : Int32) (v2 : Int32) (h : ck_H) (r : Int32) (h' : ck_H), k11 a0 v1 v2 h = some (r, h') → Go k_RM_tell 11 [some (.ref a0), some (.int v1), some (.int v2), none, none] [] h (some (.int r), h')) : ∀ (n : Nat) (a0 : Nat) (v1 : Int32) (v2 : Int32) (v3 : Int32) (v4 : Int32) (h : ck_H) (r : Int32) (h' : ck_H), f_RM_tell_L54 F k11 n a0 v1 v2 v3 v4 h = some (r, h') → Go k_RM_tell 54 [some (.ref a0), some (.int v1), some (.int v2), some (.int v3), some (.int v4)] [] h (some (.int r), h') := by
  intro n
  induction n with
  | zero => intro a0 v1 v2 v3 v4 h r h' e; simp only [f_RM_tell_L54] at e; cases e
  | succ n ih =>
    intro a0 v1 v2 v3 v4 h r h' e
    rw [f_RM_tell_L54] at e
    refine go_iload rfl rfl ?_
    refine go_aload_n rfl rfl ?_
    replace e := ck_as_e e
    obtain ⟨hk_1, e⟩ := e
    replace e := ck_some_e e
    obtain ⟨b2, hq_3, e⟩ := e
    refine go_get (v := .ref b2) rfl rfl hk_1 (by decide) (by show va_rf (gR h a0 71) = _; rw [hq_3]; rfl) ?_
    refine go_iload_n rfl rfl ?_
    replace e := ck_as_e e
    obtain ⟨hc_4, e⟩ := e
    refine go_iald rfl hc_4 ?_
    refine go_icmp_ge (t := 92) rfl rfl (fun hx_5 => ?_) (fun hx_5 => ?_)
    · rw [if_pos hx_5] at e
      refine go_aload_n rfl rfl ?_
      replace e := ck_some_e e
      obtain ⟨b6, hq_7, e⟩ := e
      refine go_get (v := .ref b6) rfl rfl hk_1 (by decide) (by show va_rf (gR h a0 10) = _; rw [hq_7]; rfl) ?_
      refine go_aload_n rfl rfl ?_
      refine go_get (v := .int (gI h a0 12)) rfl rfl hk_1 (by decide) rfl ?_
      refine go_iload rfl rfl ?_
      refine go_iadd rfl ?_
      refine go_aload_n rfl rfl ?_
      replace e := ck_some_e e
      obtain ⟨b8, hq_9, e⟩ := e
      refine go_get (v := .ref b8) rfl rfl hk_1 (by decide) (by show va_rf (gR h a0 0) = _; rw [hq_9]; rfl) ?_
      refine go_iload_n rfl rfl ?_
      refine go_iload rfl rfl ?_
      refine go_iadd rfl ?_
      replace e := ck_as_e e
      obtain ⟨hc_10, e⟩ := e
      refine go_bald rfl hc_10 ?_
      replace e := ck_as_e e
      obtain ⟨hc_11, e⟩ := e
      refine go_bast rfl hc_11 ?_
      have hk_13 : gk (wI h b6 ((gI h a0 12) + v4 : Int32).toNatClampNeg (gI h b8 (v3 + v4 : Int32).toNatClampNeg : Int32).toInt8.toInt32) a0 = 12 := ck_kI.trans hk_1
      generalize wI h b6 ((gI h a0 12) + v4 : Int32).toNatClampNeg (gI h b8 (v3 + v4 : Int32).toNatClampNeg : Int32).toInt8.toInt32 = h12 at e hk_13 ⊢
      replace e := ck_then_e e
      refine go_iinc (v := 1) rfl rfl (by decide) rfl ?_
      show Go k_RM_tell 89 [some (.ref a0), some (.int v1), some (.int v2), some (.int v3), some (.int (v4 + 1))] [] h12 _
      refine go_goto (t := 54) rfl rfl ?_
      refine go_forget (l := [some (.ref a0), some (.int v1), some (.int v2), some (.int v3), some (.int (v4 + 1))]) ⟨Or.inl rfl, Or.inl rfl, Or.inl rfl, Or.inl rfl, Or.inl rfl, trivial⟩ ?_
      exact ih _ _ _ _ _ _ _ _ e
    · rw [if_neg hx_5] at e
      refine go_aload_n rfl rfl ?_
      refine go_dup rfl rfl ?_
      refine go_get (v := .int (gI h a0 12)) rfl rfl hk_1 (by decide) rfl ?_
      refine go_aload_n rfl rfl ?_
      replace e := ck_some_e e
      obtain ⟨b14, hq_15, e⟩ := e
      refine go_get (v := .ref b14) rfl rfl hk_1 (by decide) (by show va_rf (gR h a0 71) = _; rw [hq_15]; rfl) ?_
      refine go_iload_n rfl rfl ?_
      replace e := ck_as_e e
      obtain ⟨hc_16, e⟩ := e
      refine go_iald rfl hc_16 ?_
      refine go_iadd rfl ?_
      refine go_put (h1 := wI h a0 12 ((gI h a0 12) + (gI h b14 (v2 : Int32).toNatClampNeg))) rfl rfl hk_1 ⟨by decide, by decide, Or.inl rfl⟩ rfl ?_
      have hk_18 : gk (wI h a0 12 ((gI h a0 12) + (gI h b14 (v2 : Int32).toNatClampNeg))) a0 = 12 := ck_kI.trans hk_1
      generalize wI h a0 12 ((gI h a0 12) + (gI h b14 (v2 : Int32).toNatClampNeg)) = h17 at e hk_18 ⊢
      replace e := ck_then_e e
      refine go_iinc (v := 1) rfl rfl (by decide) rfl ?_
      show Go k_RM_tell 110 [some (.ref a0), some (.int v1), some (.int (v2 + 1)), some (.int v3), some (.int v4)] [] h17 _
      refine go_goto (t := 11) rfl rfl ?_
      refine go_forget (l := [some (.ref a0), some (.int v1), some (.int (v2 + 1)), none, none]) ⟨Or.inl rfl, Or.inl rfl, Or.inl rfl, Or.inr ⟨rfl, fun _ q => by cases q; rfl⟩, Or.inr ⟨rfl, fun _ q => by cases q; rfl⟩, trivial⟩ ?_
      exact hk11 _ _ _ _ _ _ e
def f_RM_tell_L11 (F : Nat)  : Nat → Nat → Int32 → Int32 → ck_H → Option (Int32 × ck_H)
  | 0, _, _, _, _ => none
  | n + 1, a0, v1, v2, h =>
    ck_as (gk h a0 = 12) <|
    ck_some (gR h a0 72) fun b2 =>
    ck_as ((gk h b2 = 14 ∨ gk h b2 = 21) ∧ ¬ v1 < 0 ∧ (v1 : Int32).toNatClampNeg < gz h b2) <|
    if v2 < ((400 * v1) + (gI h b2 (v1 : Int32).toNatClampNeg)) then
      ck_some (gR h a0 68) fun b6 =>
      ck_as ((gk h b6 = 14 ∨ gk h b6 = 21) ∧ ¬ v2 < 0 ∧ (v2 : Int32).toNatClampNeg < gz h b6) <|
      ck_some (gR h a0 69) fun b9 =>
      ck_as ((gk h b9 = 14 ∨ gk h b9 = 21) ∧ ¬ v2 < 0 ∧ (v2 : Int32).toNatClampNeg < gz h b9) <|
      ck_bd (f_RM_dataAt F a0 (gI h b6 (v2 : Int32).toNatClampNeg) (gI h b9 (v2 : Int32).toNatClampNeg) h) fun r12 h13 =>
      ck_as (gk h13 a0 = 12) <|
      ck_some (gR h13 a0 70) fun b16 =>
      ck_as ((gk h13 b16 = 14 ∨ gk h13 b16 = 21) ∧ ¬ v2 < 0 ∧ (v2 : Int32).toNatClampNeg < gz h13 b16) <|
      ck_then (r12 + (gI h13 b16 (v2 : Int32).toNatClampNeg)) fun x19 =>
      f_RM_tell_L54 F (f_RM_tell_L11 F n) F a0 v1 v2 x19 0 h13
    else
      ck_some (gR h a0 67) fun b20 =>
      ck_as (gk h b20 = 15 ∧ ((1 : Int32) = 0 ∨ (1 : Int32) = 1) ∧ ¬ v1 < 0 ∧ (v1 : Int32).toNatClampNeg < gz h b20) <|
      ck_then (wI h b20 (v1 : Int32).toNatClampNeg 1) fun h23 =>
      ck_some (gR h23 a0 52) fun b25 =>
      ck_as ((gk h23 b25 = 14 ∨ gk h23 b25 = 21) ∧ ¬ v1 < 0 ∧ (v1 : Int32).toNatClampNeg < gz h23 b25) <|
      ck_as (gk h23 b25 = 14 ∧ ¬ v1 < 0 ∧ (v1 : Int32).toNatClampNeg < gz h23 b25) <|
      ck_then (wI h23 b25 (v1 : Int32).toNatClampNeg ((gI h23 b25 (v1 : Int32).toNatClampNeg) + 1)) fun h29 =>
      some (gI h29 a0 12, h29)
set_option maxRecDepth 100000 in
set_option maxHeartbeats 4000000 in
theorem f_RM_tell_L11_s (F : Nat)   : ∀ (n : Nat) (a0 : Nat) (v1 : Int32) (v2 : Int32) (h : ck_H) (r : Int32) (h' : ck_H), f_RM_tell_L11 F n a0 v1 v2 h = some (r, h') → Go k_RM_tell 11 [some (.ref a0), some (.int v1), some (.int v2), none, none] [] h (some (.int r), h') := by
  intro n
  induction n with
  | zero => intro a0 v1 v2 h r h' e; simp only [f_RM_tell_L11] at e; cases e
  | succ n ih =>
    intro a0 v1 v2 h r h' e
    rw [f_RM_tell_L11] at e
    refine go_iload_n rfl rfl ?_
    refine go_sipush (v := 400) rfl (by decide) ?_
    refine go_iload_n rfl rfl ?_
    refine go_imul rfl ?_
    refine go_aload_n rfl rfl ?_
    replace e := ck_as_e e
    obtain ⟨hk_1, e⟩ := e
    replace e := ck_some_e e
    obtain ⟨b2, hq_3, e⟩ := e
    refine go_get (v := .ref b2) rfl rfl hk_1 (by decide) (by show va_rf (gR h a0 72) = _; rw [hq_3]; rfl) ?_
    refine go_iload_n rfl rfl ?_
    replace e := ck_as_e e
    obtain ⟨hc_4, e⟩ := e
    refine go_iald rfl hc_4 ?_
    refine go_iadd rfl ?_
    refine go_icmp_ge (t := 113) rfl rfl (fun hx_5 => ?_) (fun hx_5 => ?_)
    · rw [if_pos hx_5] at e
      refine go_aload_n rfl rfl ?_
      refine go_aload_n rfl rfl ?_
      replace e := ck_some_e e
      obtain ⟨b6, hq_7, e⟩ := e
      refine go_get (v := .ref b6) rfl rfl hk_1 (by decide) (by show va_rf (gR h a0 68) = _; rw [hq_7]; rfl) ?_
      refine go_iload_n rfl rfl ?_
      replace e := ck_as_e e
      obtain ⟨hc_8, e⟩ := e
      refine go_iald rfl hc_8 ?_
      refine go_aload_n rfl rfl ?_
      replace e := ck_some_e e
      obtain ⟨b9, hq_10, e⟩ := e
      refine go_get (v := .ref b9) rfl rfl hk_1 (by decide) (by show va_rf (gR h a0 69) = _; rw [hq_10]; rfl) ?_
      refine go_iload_n rfl rfl ?_
      replace e := ck_as_e e
      obtain ⟨hc_11, e⟩ := e
      refine go_iald rfl hc_11 ?_
      replace e := ck_bd_e e
      obtain ⟨r12, h13, e14, e⟩ := e
      refine go_callV (As := [.int (gI h b6 (v2 : Int32).toNatClampNeg), .int (gI h b9 (v2 : Int32).toNatClampNeg)]) (b0 := a0) (rest := []) rfl rfl ⟨hk_1, by decide⟩ rfl ⟨Nat.le_of_ble_eq_true rfl, Nat.le_of_ble_eq_true rfl, Nat.le_of_ble_eq_true rfl, Nat.le_of_ble_eq_true rfl⟩ (s_RM_dataAt e14) ?_
      show Go k_RM_tell 43 [some (.ref a0), some (.int v1), some (.int v2), none, none] [.int r12] h13 _
      refine go_aload_n rfl rfl ?_
      replace e := ck_as_e e
      obtain ⟨hk_15, e⟩ := e
      replace e := ck_some_e e
      obtain ⟨b16, hq_17, e⟩ := e
      refine go_get (v := .ref b16) rfl rfl hk_15 (by decide) (by show va_rf (gR h13 a0 70) = _; rw [hq_17]; rfl) ?_
      refine go_iload_n rfl rfl ?_
      replace e := ck_as_e e
      obtain ⟨hc_18, e⟩ := e
      refine go_iald rfl hc_18 ?_
      refine go_iadd rfl ?_
      generalize r12 + (gI h13 b16 (v2 : Int32).toNatClampNeg) = x19 at e ⊢
      replace e := ck_then_e e
      refine go_istore_n rfl rfl ?_
      show Go k_RM_tell 51 [some (.ref a0), some (.int v1), some (.int v2), some (.int x19), none] [] h13 _
      refine go_iconst (v := 0) rfl (by decide) ?_
      refine go_istore rfl rfl ?_
      show Go k_RM_tell 54 [some (.ref a0), some (.int v1), some (.int v2), some (.int x19), some (.int 0)] [] h13 _
      refine go_forget (l := [some (.ref a0), some (.int v1), some (.int v2), some (.int x19), some (.int 0)]) ⟨Or.inl rfl, Or.inl rfl, Or.inl rfl, Or.inl rfl, Or.inl rfl, trivial⟩ ?_
      exact f_RM_tell_L54_s F (f_RM_tell_L11 F n) ih F _ _ _ _ _ _ _ _ e
    · rw [if_neg hx_5] at e
      refine go_aload_n rfl rfl ?_
      replace e := ck_some_e e
      obtain ⟨b20, hq_21, e⟩ := e
      refine go_get (v := .ref b20) rfl rfl hk_1 (by decide) (by show va_rf (gR h a0 67) = _; rw [hq_21]; rfl) ?_
      refine go_iload_n rfl rfl ?_
      refine go_iconst (v := 1) rfl (by decide) ?_
      replace e := ck_as_e e
      obtain ⟨hc_22, e⟩ := e
      refine go_zast rfl hc_22 ?_
      have hk_24 : gk (wI h b20 (v1 : Int32).toNatClampNeg 1) a0 = 12 := ck_kI.trans hk_1
      generalize wI h b20 (v1 : Int32).toNatClampNeg 1 = h23 at e hk_24 ⊢
      replace e := ck_then_e e
      refine go_aload_n rfl rfl ?_
      replace e := ck_some_e e
      obtain ⟨b25, hq_26, e⟩ := e
      refine go_get (v := .ref b25) rfl rfl hk_24 (by decide) (by show va_rf (gR h23 a0 52) = _; rw [hq_26]; rfl) ?_
      refine go_iload_n rfl rfl ?_
      refine go_dup2 rfl rfl rfl ?_
      replace e := ck_as_e e
      obtain ⟨hc_27, e⟩ := e
      refine go_iald rfl hc_27 ?_
      refine go_iconst (v := 1) rfl (by decide) ?_
      refine go_iadd rfl ?_
      replace e := ck_as_e e
      obtain ⟨hc_28, e⟩ := e
      refine go_iast rfl hc_28 ?_
      have hk_30 : gk (wI h23 b25 (v1 : Int32).toNatClampNeg ((gI h23 b25 (v1 : Int32).toNatClampNeg) + 1)) a0 = 12 := ck_kI.trans hk_24
      generalize wI h23 b25 (v1 : Int32).toNatClampNeg ((gI h23 b25 (v1 : Int32).toNatClampNeg) + 1) = h29 at e hk_30 ⊢
      replace e := ck_then_e e
      refine go_aload_n rfl rfl ?_
      refine go_get (v := .int (gI h29 a0 12)) rfl rfl hk_30 (by decide) rfl ?_
      cases e
      exact go_ret rfl rfl
def f_RM_tell (F : Nat) (a0 : Nat) (v1 : Int32) (h : ck_H) : Option (Int32 × ck_H) :=
  ck_as (gk h a0 = 12) <|
  ck_then (wI h a0 12 0) fun h2 =>
  ck_then (400 * v1) fun x4 =>
  f_RM_tell_L11 F F a0 v1 x4 h2
set_option maxRecDepth 100000 in
set_option maxHeartbeats 4000000 in
theorem s_RM_tell {F : Nat} {a0 : Nat} {v1 : Int32} {h h' : ck_H} {r : Int32} (e : f_RM_tell F a0 v1 h = some (r, h')) : Go k_RM_tell 0 (ck_in [.ref a0, .int v1] 5) [] h (some (.int r), h') := by
  unfold f_RM_tell at e
  show Go k_RM_tell 0 [some (.ref a0), some (.int v1), none, none, none] [] h _
  refine go_aload_n rfl rfl ?_
  refine go_iconst (v := 0) rfl (by decide) ?_
  replace e := ck_as_e e
  obtain ⟨hk_1, e⟩ := e
  refine go_put (h1 := wI h a0 12 0) rfl rfl hk_1 ⟨by decide, by decide, Or.inl rfl⟩ rfl ?_
  have hk_3 : gk (wI h a0 12 0) a0 = 12 := ck_kI.trans hk_1
  generalize wI h a0 12 0 = h2 at e hk_3 ⊢
  replace e := ck_then_e e
  refine go_sipush (v := 400) rfl (by decide) ?_
  refine go_iload_n rfl rfl ?_
  refine go_imul rfl ?_
  generalize 400 * v1 = x4 at e ⊢
  replace e := ck_then_e e
  refine go_istore_n rfl rfl ?_
  show Go k_RM_tell 11 [some (.ref a0), some (.int v1), some (.int x4), none, none] [] h2 _
  refine go_forget (l := [some (.ref a0), some (.int v1), some (.int x4), none, none]) ⟨Or.inl rfl, Or.inl rfl, Or.inl rfl, Or.inl rfl, Or.inl rfl, trivial⟩ ?_
  exact f_RM_tell_L11_s F F _ _ _ _ _ _ e
def f_RM_getSpanned_J123 (F : Nat) (k9 : Nat → Int32 → Int32 → ck_H → Option (Int32 × ck_H)) (a0 : Nat) (v1 : Int32) (v2 : Int32) (v4 : Int32) (v5 : Int32) (v6 : Int32) (h : ck_H) : Option (Int32 × ck_H) :=
  if v2 = (0 : Int32) then
    k9 a0 v1 v2 h
  else
    ck_as (gk h a0 = 12) <|
    ck_bd (f_RM_piece F a0 v1 v6 v4 h) fun _ h4 =>
    if v5 = (0 : Int32) then
      ck_as (gk h4 a0 = 12) <|
      ck_bd (f_RM_tell F a0 v1 h4) fun r8 h9 =>
      some (r8, h9)
    else
      if v5 = (2 : Int32) then
        ck_as (gk h4 a0 = 12) <|
        ck_bd (f_RM_tell F a0 v1 h4) fun r13 h14 =>
        some (r13, h14)
      else
        k9 a0 v1 v2 h4
set_option maxRecDepth 100000 in
set_option maxHeartbeats 4000000 in
theorem f_RM_getSpanned_J123_s (F : Nat) (k9 : Nat → Int32 → Int32 → ck_H → Option (Int32 × ck_H)) (hk9 : ∀ (a0 : Nat) (v1 : Int32) (v2 : Int32) (h : ck_H) (r : Int32) (h' : ck_H), k9 a0 v1 v2 h = some (r, h') → Go k_RM_getSpanned 9 [some (.ref a0), some (.int v1), some (.int v2), none, none, none, none] [] h (some (.int r), h')) (a0 : Nat) (v1 : Int32) (v2 : Int32) (v4 : Int32) (v5 : Int32) (v6 : Int32) (h : ck_H) (r : Int32) (h' : ck_H) (e : f_RM_getSpanned_J123 F k9 a0 v1 v2 v4 v5 v6 h = some (r, h')) : Go k_RM_getSpanned 123 [some (.ref a0), some (.int v1), some (.int v2), none, some (.int v4), some (.int v5), some (.int v6)] [] h (some (.int r), h') := by
  unfold f_RM_getSpanned_J123 at e
  refine go_iload_n rfl rfl ?_
  refine go_if_ne (t := 130) rfl rfl (fun hx_1 => ?_) (fun hx_1 => ?_)
  · rw [if_pos hx_1] at e
    refine go_goto (t := 9) rfl rfl ?_
    refine go_forget (l := [some (.ref a0), some (.int v1), some (.int v2), none, none, none, none]) ⟨Or.inl rfl, Or.inl rfl, Or.inl rfl, Or.inl rfl, Or.inr ⟨rfl, fun _ q => by cases q; rfl⟩, Or.inr ⟨rfl, fun _ q => by cases q; rfl⟩, Or.inr ⟨rfl, fun _ q => by cases q; rfl⟩, trivial⟩ ?_
    exact hk9 _ _ _ _ _ _ e
  · rw [if_neg hx_1] at e
    refine go_aload_n rfl rfl ?_
    refine go_iload_n rfl rfl ?_
    refine go_iload rfl rfl ?_
    refine go_iload rfl rfl ?_
    replace e := ck_as_e e
    obtain ⟨hk_2, e⟩ := e
    replace e := ck_bd_e e
    obtain ⟨r3, h4, e5, e⟩ := e
    refine go_callV (As := [.int v1, .int v6, .int v4]) (b0 := a0) (rest := []) rfl rfl ⟨hk_2, by decide⟩ rfl ⟨Nat.le_of_ble_eq_true rfl, Nat.le_of_ble_eq_true rfl, Nat.le_of_ble_eq_true rfl, Nat.le_of_ble_eq_true rfl⟩ (s_RM_piece e5) ?_
    show Go k_RM_getSpanned 139 [some (.ref a0), some (.int v1), some (.int v2), none, some (.int v4), some (.int v5), some (.int v6)] [] h4 _
    refine go_iload rfl rfl ?_
    refine go_if_eq (t := 150) rfl rfl (fun hx_6 => ?_) (fun hx_6 => ?_)
    · rw [if_pos hx_6] at e
      refine go_aload_n rfl rfl ?_
      refine go_iload_n rfl rfl ?_
      replace e := ck_as_e e
      obtain ⟨hk_7, e⟩ := e
      replace e := ck_bd_e e
      obtain ⟨r8, h9, e10, e⟩ := e
      refine go_callV (As := [.int v1]) (b0 := a0) (rest := []) rfl rfl ⟨hk_7, by decide⟩ rfl ⟨Nat.le_of_ble_eq_true rfl, Nat.le_of_ble_eq_true rfl, Nat.le_of_ble_eq_true rfl, Nat.le_of_ble_eq_true rfl⟩ (s_RM_tell e10) ?_
      show Go k_RM_getSpanned 155 [some (.ref a0), some (.int v1), some (.int v2), none, some (.int v4), some (.int v5), some (.int v6)] [.int r8] h9 _
      cases e
      exact go_ret rfl rfl
    · rw [if_neg hx_6] at e
      refine go_iload rfl rfl ?_
      refine go_iconst (v := 2) rfl (by decide) ?_
      refine go_icmp_ne (t := 156) rfl rfl (fun hx_11 => ?_) (fun hx_11 => ?_)
      · rw [if_pos hx_11] at e
        refine go_aload_n rfl rfl ?_
        refine go_iload_n rfl rfl ?_
        replace e := ck_as_e e
        obtain ⟨hk_12, e⟩ := e
        replace e := ck_bd_e e
        obtain ⟨r13, h14, e15, e⟩ := e
        refine go_callV (As := [.int v1]) (b0 := a0) (rest := []) rfl rfl ⟨hk_12, by decide⟩ rfl ⟨Nat.le_of_ble_eq_true rfl, Nat.le_of_ble_eq_true rfl, Nat.le_of_ble_eq_true rfl, Nat.le_of_ble_eq_true rfl⟩ (s_RM_tell e15) ?_
        show Go k_RM_getSpanned 155 [some (.ref a0), some (.int v1), some (.int v2), none, some (.int v4), some (.int v5), some (.int v6)] [.int r13] h14 _
        cases e
        exact go_ret rfl rfl
      · rw [if_neg hx_11] at e
        refine go_goto (t := 9) rfl rfl ?_
        refine go_forget (l := [some (.ref a0), some (.int v1), some (.int v2), none, none, none, none]) ⟨Or.inl rfl, Or.inl rfl, Or.inl rfl, Or.inl rfl, Or.inr ⟨rfl, fun _ q => by cases q; rfl⟩, Or.inr ⟨rfl, fun _ q => by cases q; rfl⟩, Or.inr ⟨rfl, fun _ q => by cases q; rfl⟩, trivial⟩ ?_
        exact hk9 _ _ _ _ _ _ e
def f_RM_getSpanned_L9 (F : Nat)  : Nat → Nat → Int32 → Int32 → ck_H → Option (Int32 × ck_H)
  | 0, _, _, _, _ => none
  | n + 1, a0, v1, v2, h =>
    ck_as (gk h a0 = 12) <|
    ck_bd (f_RM_isThrough F a0 v1 h) fun r2 h3 =>
    if r2 = (0 : Int32) then
      ck_as (gk h3 a0 = 12) <|
      ck_some (gR h3 a0 62) fun b7 =>
      ck_as ((gk h3 b7 = 14 ∨ gk h3 b7 = 21) ∧ ¬ v1 < 0 ∧ (v1 : Int32).toNatClampNeg < gz h3 b7) <|
      ck_some (gR h3 a0 63) fun b10 =>
      ck_as ((gk h3 b10 = 14 ∨ gk h3 b10 = 21) ∧ ¬ v1 < 0 ∧ (v1 : Int32).toNatClampNeg < gz h3 b10) <|
      ck_bd (f_RM_dataAt F a0 (gI h3 b7 (v1 : Int32).toNatClampNeg) (gI h3 b10 (v1 : Int32).toNatClampNeg) h3) fun r13 h14 =>
      ck_as (gk h14 a0 = 12) <|
      ck_some (gR h14 a0 64) fun b17 =>
      ck_as ((gk h14 b17 = 14 ∨ gk h14 b17 = 21) ∧ ¬ v1 < 0 ∧ (v1 : Int32).toNatClampNeg < gz h14 b17) <|
      ck_then (r13 + (gI h14 b17 (v1 : Int32).toNatClampNeg)) fun x20 =>
      ck_some (gR h14 a0 0) fun b21 =>
      ck_bd (f_RM_two F b21 x20 h14) fun r23 h24 =>
      ck_then (r23 - 3) fun x26 =>
      ck_as (gk h24 a0 = 12) <|
      ck_some (gR h24 a0 0) fun b28 =>
      ck_as ((gk h24 b28 = 13 ∨ gk h24 b28 = 15) ∧ ¬ (x20 + 2) < 0 ∧ (x20 + 2 : Int32).toNatClampNeg < gz h24 b28) <|
      ck_then (gI h24 b28 (x20 + 2 : Int32).toNatClampNeg) fun x31 =>
      ck_some (gR h24 a0 64) fun b32 =>
      ck_as ((gk h24 b32 = 14 ∨ gk h24 b32 = 21) ∧ ¬ v1 < 0 ∧ (v1 : Int32).toNatClampNeg < gz h24 b32) <|
      ck_then ((gI h24 b32 (v1 : Int32).toNatClampNeg) + 3) fun x35 =>
      ck_some (gR h24 a0 64) fun b36 =>
      ck_as (gk h24 b36 = 14 ∧ ¬ v1 < 0 ∧ (v1 : Int32).toNatClampNeg < gz h24 b36) <|
      ck_then (wI h24 b36 (v1 : Int32).toNatClampNeg (x35 + x26)) fun h39 =>
      if x31 < (2 : Int32) then
        ck_some (gR h39 a0 72) fun b42 =>
        ck_as (gk h39 b42 = 14 ∧ ¬ v1 < 0 ∧ (v1 : Int32).toNatClampNeg < gz h39 b42) <|
        ck_then (wI h39 b42 (v1 : Int32).toNatClampNeg 0) fun h45 =>
        f_RM_getSpanned_J123 F (f_RM_getSpanned_L9 F n) a0 v1 1 x26 x31 x35 h45
      else
        f_RM_getSpanned_J123 F (f_RM_getSpanned_L9 F n) a0 v1 v2 x26 x31 x35 h39
    else
      ck_as (gk h3 a0 = 12) <|
      ck_bd (f_RM_goOn F a0 v1 h3) fun r48 h49 =>
      if r48 = (0 : Int32) then
        some ((-1), h49)
      else
        if r48 = ((-6) : Int32) then
          some ((-6), h49)
        else
          f_RM_getSpanned_L9 F n a0 v1 v2 h49
set_option maxRecDepth 100000 in
set_option maxHeartbeats 4000000 in
theorem f_RM_getSpanned_L9_s (F : Nat)   : ∀ (n : Nat) (a0 : Nat) (v1 : Int32) (v2 : Int32) (h : ck_H) (r : Int32) (h' : ck_H), f_RM_getSpanned_L9 F n a0 v1 v2 h = some (r, h') → Go k_RM_getSpanned 9 [some (.ref a0), some (.int v1), some (.int v2), none, none, none, none] [] h (some (.int r), h') := by
  intro n
  induction n with
  | zero => intro a0 v1 v2 h r h' e; simp only [f_RM_getSpanned_L9] at e; cases e
  | succ n ih =>
    intro a0 v1 v2 h r h' e
    rw [f_RM_getSpanned_L9] at e
    refine go_aload_n rfl rfl ?_
    refine go_iload_n rfl rfl ?_
    replace e := ck_as_e e
    obtain ⟨hk_1, e⟩ := e
    replace e := ck_bd_e e
    obtain ⟨r2, h3, e4, e⟩ := e
    refine go_callV (As := [.int v1]) (b0 := a0) (rest := []) rfl rfl ⟨hk_1, by decide⟩ rfl ⟨Nat.le_of_ble_eq_true rfl, Nat.le_of_ble_eq_true rfl, Nat.le_of_ble_eq_true rfl, Nat.le_of_ble_eq_true rfl⟩ (s_RM_isThrough e4) ?_
    show Go k_RM_getSpanned 14 [some (.ref a0), some (.int v1), some (.int v2), none, none, none, none] [.int r2] h3 _
    refine go_if_eq (t := 41) rfl rfl (fun hx_5 => ?_) (fun hx_5 => ?_)
    · rw [if_pos hx_5] at e
      refine go_aload_n rfl rfl ?_
      refine go_aload_n rfl rfl ?_
      replace e := ck_as_e e
      obtain ⟨hk_6, e⟩ := e
      replace e := ck_some_e e
      obtain ⟨b7, hq_8, e⟩ := e
      refine go_get (v := .ref b7) rfl rfl hk_6 (by decide) (by show va_rf (gR h3 a0 62) = _; rw [hq_8]; rfl) ?_
      refine go_iload_n rfl rfl ?_
      replace e := ck_as_e e
      obtain ⟨hc_9, e⟩ := e
      refine go_iald rfl hc_9 ?_
      refine go_aload_n rfl rfl ?_
      replace e := ck_some_e e
      obtain ⟨b10, hq_11, e⟩ := e
      refine go_get (v := .ref b10) rfl rfl hk_6 (by decide) (by show va_rf (gR h3 a0 63) = _; rw [hq_11]; rfl) ?_
      refine go_iload_n rfl rfl ?_
      replace e := ck_as_e e
      obtain ⟨hc_12, e⟩ := e
      refine go_iald rfl hc_12 ?_
      replace e := ck_bd_e e
      obtain ⟨r13, h14, e15, e⟩ := e
      refine go_callV (As := [.int (gI h3 b7 (v1 : Int32).toNatClampNeg), .int (gI h3 b10 (v1 : Int32).toNatClampNeg)]) (b0 := a0) (rest := []) rfl rfl ⟨hk_6, by decide⟩ rfl ⟨Nat.le_of_ble_eq_true rfl, Nat.le_of_ble_eq_true rfl, Nat.le_of_ble_eq_true rfl, Nat.le_of_ble_eq_true rfl⟩ (s_RM_dataAt e15) ?_
      show Go k_RM_getSpanned 57 [some (.ref a0), some (.int v1), some (.int v2), none, none, none, none] [.int r13] h14 _
      refine go_aload_n rfl rfl ?_
      replace e := ck_as_e e
      obtain ⟨hk_16, e⟩ := e
      replace e := ck_some_e e
      obtain ⟨b17, hq_18, e⟩ := e
      refine go_get (v := .ref b17) rfl rfl hk_16 (by decide) (by show va_rf (gR h14 a0 64) = _; rw [hq_18]; rfl) ?_
      refine go_iload_n rfl rfl ?_
      replace e := ck_as_e e
      obtain ⟨hc_19, e⟩ := e
      refine go_iald rfl hc_19 ?_
      refine go_iadd rfl ?_
      generalize r13 + (gI h14 b17 (v1 : Int32).toNatClampNeg) = x20 at e ⊢
      replace e := ck_then_e e
      refine go_istore_n rfl rfl ?_
      show Go k_RM_getSpanned 65 [some (.ref a0), some (.int v1), some (.int v2), some (.int x20), none, none, none] [] h14 _
      refine go_aload_n rfl rfl ?_
      replace e := ck_some_e e
      obtain ⟨b21, hq_22, e⟩ := e
      refine go_get (v := .ref b21) rfl rfl hk_16 (by decide) (by show va_rf (gR h14 a0 0) = _; rw [hq_22]; rfl) ?_
      refine go_iload_n rfl rfl ?_
      replace e := ck_bd_e e
      obtain ⟨r23, h24, e25, e⟩ := e
      refine go_callS (As := [.ref b21, .int x20]) (rest := []) rfl rfl rfl ⟨Nat.le_of_ble_eq_true rfl, Nat.le_of_ble_eq_true rfl, Nat.le_of_ble_eq_true rfl, Nat.le_of_ble_eq_true rfl⟩ (s_RM_two e25) ?_
      show Go k_RM_getSpanned 73 [some (.ref a0), some (.int v1), some (.int v2), some (.int x20), none, none, none] [.int r23] h24 _
      refine go_iconst (v := 3) rfl (by decide) ?_
      refine go_isub rfl ?_
      generalize r23 - 3 = x26 at e ⊢
      replace e := ck_then_e e
      refine go_istore rfl rfl ?_
      show Go k_RM_getSpanned 77 [some (.ref a0), some (.int v1), some (.int v2), some (.int x20), some (.int x26), none, none] [] h24 _
      refine go_aload_n rfl rfl ?_
      replace e := ck_as_e e
      obtain ⟨hk_27, e⟩ := e
      replace e := ck_some_e e
      obtain ⟨b28, hq_29, e⟩ := e
      refine go_get (v := .ref b28) rfl rfl hk_27 (by decide) (by show va_rf (gR h24 a0 0) = _; rw [hq_29]; rfl) ?_
      refine go_iload_n rfl rfl ?_
      refine go_iconst (v := 2) rfl (by decide) ?_
      refine go_iadd rfl ?_
      replace e := ck_as_e e
      obtain ⟨hc_30, e⟩ := e
      refine go_bald rfl hc_30 ?_
      generalize gI h24 b28 (x20 + 2 : Int32).toNatClampNeg = x31 at e ⊢
      replace e := ck_then_e e
      refine go_istore rfl rfl ?_
      show Go k_RM_getSpanned 87 [some (.ref a0), some (.int v1), some (.int v2), some (.int x20), some (.int x26), some (.int x31), none] [] h24 _
      refine go_aload_n rfl rfl ?_
      replace e := ck_some_e e
      obtain ⟨b32, hq_33, e⟩ := e
      refine go_get (v := .ref b32) rfl rfl hk_27 (by decide) (by show va_rf (gR h24 a0 64) = _; rw [hq_33]; rfl) ?_
      refine go_iload_n rfl rfl ?_
      replace e := ck_as_e e
      obtain ⟨hc_34, e⟩ := e
      refine go_iald rfl hc_34 ?_
      refine go_iconst (v := 3) rfl (by decide) ?_
      refine go_iadd rfl ?_
      generalize (gI h24 b32 (v1 : Int32).toNatClampNeg) + 3 = x35 at e ⊢
      replace e := ck_then_e e
      refine go_istore rfl rfl ?_
      show Go k_RM_getSpanned 97 [some (.ref a0), some (.int v1), some (.int v2), some (.int x20), some (.int x26), some (.int x31), some (.int x35)] [] h24 _
      refine go_aload_n rfl rfl ?_
      replace e := ck_some_e e
      obtain ⟨b36, hq_37, e⟩ := e
      refine go_get (v := .ref b36) rfl rfl hk_27 (by decide) (by show va_rf (gR h24 a0 64) = _; rw [hq_37]; rfl) ?_
      refine go_iload_n rfl rfl ?_
      refine go_iload rfl rfl ?_
      refine go_iload rfl rfl ?_
      refine go_iadd rfl ?_
      replace e := ck_as_e e
      obtain ⟨hc_38, e⟩ := e
      refine go_iast rfl hc_38 ?_
      have hk_40 : gk (wI h24 b36 (v1 : Int32).toNatClampNeg (x35 + x26)) a0 = 12 := ck_kI.trans hk_27
      generalize wI h24 b36 (v1 : Int32).toNatClampNeg (x35 + x26) = h39 at e hk_40 ⊢
      replace e := ck_then_e e
      refine go_iload rfl rfl ?_
      refine go_iconst (v := 2) rfl (by decide) ?_
      refine go_icmp_ge (t := 123) rfl rfl (fun hx_41 => ?_) (fun hx_41 => ?_)
      · rw [if_pos hx_41] at e
        refine go_aload_n rfl rfl ?_
        replace e := ck_some_e e
        obtain ⟨b42, hq_43, e⟩ := e
        refine go_get (v := .ref b42) rfl rfl hk_40 (by decide) (by show va_rf (gR h39 a0 72) = _; rw [hq_43]; rfl) ?_
        refine go_iload_n rfl rfl ?_
        refine go_iconst (v := 0) rfl (by decide) ?_
        replace e := ck_as_e e
        obtain ⟨hc_44, e⟩ := e
        refine go_iast rfl hc_44 ?_
        have hk_46 : gk (wI h39 b42 (v1 : Int32).toNatClampNeg 0) a0 = 12 := ck_kI.trans hk_40
        generalize wI h39 b42 (v1 : Int32).toNatClampNeg 0 = h45 at e hk_46 ⊢
        replace e := ck_then_e e
        refine go_iconst (v := 1) rfl (by decide) ?_
        refine go_istore_n rfl rfl ?_
        show Go k_RM_getSpanned 123 [some (.ref a0), some (.int v1), some (.int 1), some (.int x20), some (.int x26), some (.int x31), some (.int x35)] [] h45 _
        refine go_forget (l := [some (.ref a0), some (.int v1), some (.int 1), none, some (.int x26), some (.int x31), some (.int x35)]) ⟨Or.inl rfl, Or.inl rfl, Or.inl rfl, Or.inr ⟨rfl, fun _ q => by cases q; rfl⟩, Or.inl rfl, Or.inl rfl, Or.inl rfl, trivial⟩ ?_
        exact f_RM_getSpanned_J123_s F (f_RM_getSpanned_L9 F n) ih a0 v1 1 x26 x31 x35 _ _ _ e
      · rw [if_neg hx_41] at e
        refine go_forget (l := [some (.ref a0), some (.int v1), some (.int v2), none, some (.int x26), some (.int x31), some (.int x35)]) ⟨Or.inl rfl, Or.inl rfl, Or.inl rfl, Or.inr ⟨rfl, fun _ q => by cases q; rfl⟩, Or.inl rfl, Or.inl rfl, Or.inl rfl, trivial⟩ ?_
        exact f_RM_getSpanned_J123_s F (f_RM_getSpanned_L9 F n) ih a0 v1 v2 x26 x31 x35 _ _ _ e
    · rw [if_neg hx_5] at e
      refine go_aload_n rfl rfl ?_
      refine go_iload_n rfl rfl ?_
      replace e := ck_as_e e
      obtain ⟨hk_47, e⟩ := e
      replace e := ck_bd_e e
      obtain ⟨r48, h49, e50, e⟩ := e
      refine go_callV (As := [.int v1]) (b0 := a0) (rest := []) rfl rfl ⟨hk_47, by decide⟩ rfl ⟨Nat.le_of_ble_eq_true rfl, Nat.le_of_ble_eq_true rfl, Nat.le_of_ble_eq_true rfl, Nat.le_of_ble_eq_true rfl⟩ (s_RM_goOn e50) ?_
      show Go k_RM_getSpanned 22 [some (.ref a0), some (.int v1), some (.int v2), none, none, none, none] [.int r48] h49 _
      refine go_istore_n rfl rfl ?_
      show Go k_RM_getSpanned 23 [some (.ref a0), some (.int v1), some (.int v2), some (.int r48), none, none, none] [] h49 _
      refine go_iload_n rfl rfl ?_
      refine go_if_ne (t := 29) rfl rfl (fun hx_51 => ?_) (fun hx_51 => ?_)
      · rw [if_pos hx_51] at e
        refine go_iconst (v := (-1)) rfl (by decide) ?_
        cases e
        exact go_ret rfl rfl
      · rw [if_neg hx_51] at e
        refine go_iload_n rfl rfl ?_
        refine go_bipush (v := (-6)) rfl (by decide) ?_
        refine go_icmp_ne (t := 38) rfl rfl (fun hx_52 => ?_) (fun hx_52 => ?_)
        · rw [if_pos hx_52] at e
          refine go_bipush (v := (-6)) rfl (by decide) ?_
          cases e
          exact go_ret rfl rfl
        · rw [if_neg hx_52] at e
          refine go_goto (t := 9) rfl rfl ?_
          refine go_forget (l := [some (.ref a0), some (.int v1), some (.int v2), none, none, none, none]) ⟨Or.inl rfl, Or.inl rfl, Or.inl rfl, Or.inr ⟨rfl, fun _ q => by cases q; rfl⟩, Or.inl rfl, Or.inl rfl, Or.inl rfl, trivial⟩ ?_
          exact ih _ _ _ _ _ _ e
def f_RM_getSpanned (F : Nat) (a0 : Nat) (v1 : Int32) (h : ck_H) : Option (Int32 × ck_H) :=
  ck_as (gk h a0 = 12) <|
  ck_some (gR h a0 72) fun b2 =>
  ck_as (gk h b2 = 14 ∧ ¬ v1 < 0 ∧ (v1 : Int32).toNatClampNeg < gz h b2) <|
  ck_then (wI h b2 (v1 : Int32).toNatClampNeg 0) fun h5 =>
  f_RM_getSpanned_L9 F F a0 v1 0 h5
set_option maxRecDepth 100000 in
set_option maxHeartbeats 4000000 in
theorem s_RM_getSpanned {F : Nat} {a0 : Nat} {v1 : Int32} {h h' : ck_H} {r : Int32} (e : f_RM_getSpanned F a0 v1 h = some (r, h')) : Go k_RM_getSpanned 0 (ck_in [.ref a0, .int v1] 7) [] h (some (.int r), h') := by
  unfold f_RM_getSpanned at e
  show Go k_RM_getSpanned 0 [some (.ref a0), some (.int v1), none, none, none, none, none] [] h _
  refine go_aload_n rfl rfl ?_
  replace e := ck_as_e e
  obtain ⟨hk_1, e⟩ := e
  replace e := ck_some_e e
  obtain ⟨b2, hq_3, e⟩ := e
  refine go_get (v := .ref b2) rfl rfl hk_1 (by decide) (by show va_rf (gR h a0 72) = _; rw [hq_3]; rfl) ?_
  refine go_iload_n rfl rfl ?_
  refine go_iconst (v := 0) rfl (by decide) ?_
  replace e := ck_as_e e
  obtain ⟨hc_4, e⟩ := e
  refine go_iast rfl hc_4 ?_
  have hk_6 : gk (wI h b2 (v1 : Int32).toNatClampNeg 0) a0 = 12 := ck_kI.trans hk_1
  generalize wI h b2 (v1 : Int32).toNatClampNeg 0 = h5 at e hk_6 ⊢
  replace e := ck_then_e e
  refine go_iconst (v := 0) rfl (by decide) ?_
  refine go_istore_n rfl rfl ?_
  show Go k_RM_getSpanned 9 [some (.ref a0), some (.int v1), some (.int 0), none, none, none, none] [] h5 _
  refine go_forget (l := [some (.ref a0), some (.int v1), some (.int 0), none, none, none, none]) ⟨Or.inl rfl, Or.inl rfl, Or.inl rfl, Or.inl rfl, Or.inl rfl, Or.inl rfl, Or.inl rfl, trivial⟩ ?_
  exact f_RM_getSpanned_L9_s F F _ _ _ _ _ _ e
