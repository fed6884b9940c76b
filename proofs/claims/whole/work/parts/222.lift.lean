def f_Lw_law_J609 (F : Nat) (k18 : Nat → Nat → Nat → Int32 → ck_H → Option (Int32 × ck_H)) (a0 : Nat) (a1 : Nat) (a2 : Nat) (v3 : Int32) (s0 : Int32) (s1 : Int32) (s2 : Int32) (s3 : Int32) (s4 : Int32) (s5 : Nat) (h : ck_H) : Option (Int32 × ck_H) :=
  ck_as (gk h s5 = 11) <|
  ck_bd (f_CS_allocate F s5 s4 s3 s2 s1 s0 h) fun r2 h3 =>
  ck_as ((gk h3 a0 = 14 ∨ gk h3 a0 = 21) ∧ ¬ (v3 + 1) < 0 ∧ (v3 + 1 : Int32).toNatClampNeg < gz h3 a0) <|
  ck_as ((gk h3 a0 = 14 ∨ gk h3 a0 = 21) ∧ ¬ (v3 + 2) < 0 ∧ (v3 + 2 : Int32).toNatClampNeg < gz h3 a0) <|
  ck_as ((gk h3 a0 = 14 ∨ gk h3 a0 = 21) ∧ ¬ (v3 + 3) < 0 ∧ (v3 + 3 : Int32).toNatClampNeg < gz h3 a0) <|
  ck_as ((gk h3 a0 = 14 ∨ gk h3 a0 = 21) ∧ ¬ (v3 + 4) < 0 ∧ (v3 + 4 : Int32).toNatClampNeg < gz h3 a0) <|
  ck_as ((gk h3 a0 = 14 ∨ gk h3 a0 = 21) ∧ ¬ (v3 + 5) < 0 ∧ (v3 + 5 : Int32).toNatClampNeg < gz h3 a0) <|
  if (gI h3 a0 (v3 + 5 : Int32).toNatClampNeg) = (0 : Int32) then
    ck_as (gk h3 a2 = 12) <|
    ck_bd (f_RM_allocate F a2 (gI h3 a0 (v3 + 1 : Int32).toNatClampNeg) (gI h3 a0 (v3 + 2 : Int32).toNatClampNeg) (gI h3 a0 (v3 + 3 : Int32).toNatClampNeg) (gI h3 a0 (v3 + 4 : Int32).toNatClampNeg) 0 h3) fun r12 h13 =>
    if r2 = r12 then
      k18 a0 a1 a2 (v3 + 6) h13
    else
      some (0, h13)
  else
    ck_as (gk h3 a2 = 12) <|
    ck_bd (f_RM_allocate F a2 (gI h3 a0 (v3 + 1 : Int32).toNatClampNeg) (gI h3 a0 (v3 + 2 : Int32).toNatClampNeg) (gI h3 a0 (v3 + 3 : Int32).toNatClampNeg) (gI h3 a0 (v3 + 4 : Int32).toNatClampNeg) 1 h3) fun r17 h18 =>
    if r2 = r17 then
      k18 a0 a1 a2 (v3 + 6) h18
    else
      some (0, h18)
set_option maxRecDepth 100000 in
set_option maxHeartbeats 4000000 in
theorem f_Lw_law_J609_s (F : Nat) (k18 : Nat → Nat → Nat → Int32 → ck_H → Option (Int32 × ck_H)) (hk18 : ∀ (a0 : Nat) (a1 : Nat) (a2 : Nat) (v3 : Int32) (h : ck_H) (r : Int32) (h' : ck_H), k18 a0 a1 a2 v3 h = some (r, h') → Go k_Lw_law 18 [some (.ref a0), some (.ref a1), some (.ref a2), some (.int v3)] [] h (some (.int r), h')) (a0 : Nat) (a1 : Nat) (a2 : Nat) (v3 : Int32) (s0 : Int32) (s1 : Int32) (s2 : Int32) (s3 : Int32) (s4 : Int32) (s5 : Nat) (h : ck_H) (r : Int32) (h' : ck_H) (e : f_Lw_law_J609 F k18 a0 a1 a2 v3 s0 s1 s2 s3 s4 s5 h = some (r, h')) : Go k_Lw_law 609 [some (.ref a0), some (.ref a1), some (.ref a2), some (.int v3)] [.int s0, .int s1, .int s2, .int s3, .int s4, .ref s5] h (some (.int r), h') := by
  unfold f_Lw_law_J609 at e
  replace e := ck_as_e e
  obtain ⟨hk_1, e⟩ := e
  replace e := ck_bd_e e
  obtain ⟨r2, h3, e4, e⟩ := e
  refine go_callV (As := [.int s4, .int s3, .int s2, .int s1, .int s0]) (b0 := s5) (rest := []) rfl rfl ⟨hk_1, by decide⟩ rfl ⟨Nat.le_of_ble_eq_true rfl, Nat.le_of_ble_eq_true rfl, Nat.le_of_ble_eq_true rfl, Nat.le_of_ble_eq_true rfl⟩ (s_CS_allocate e4) ?_
  show Go k_Lw_law 612 [some (.ref a0), some (.ref a1), some (.ref a2), some (.int v3)] [.int r2] h3 _
  refine go_aload_n rfl rfl ?_
  refine go_aload_n rfl rfl ?_
  refine go_iload_n rfl rfl ?_
  refine go_iconst (v := 1) rfl (by decide) ?_
  refine go_iadd rfl ?_
  replace e := ck_as_e e
  obtain ⟨hc_5, e⟩ := e
  refine go_iald rfl hc_5 ?_
  refine go_aload_n rfl rfl ?_
  refine go_iload_n rfl rfl ?_
  refine go_iconst (v := 2) rfl (by decide) ?_
  refine go_iadd rfl ?_
  replace e := ck_as_e e
  obtain ⟨hc_6, e⟩ := e
  refine go_iald rfl hc_6 ?_
  refine go_aload_n rfl rfl ?_
  refine go_iload_n rfl rfl ?_
  refine go_iconst (v := 3) rfl (by decide) ?_
  refine go_iadd rfl ?_
  replace e := ck_as_e e
  obtain ⟨hc_7, e⟩ := e
  refine go_iald rfl hc_7 ?_
  refine go_aload_n rfl rfl ?_
  refine go_iload_n rfl rfl ?_
  refine go_iconst (v := 4) rfl (by decide) ?_
  refine go_iadd rfl ?_
  replace e := ck_as_e e
  obtain ⟨hc_8, e⟩ := e
  refine go_iald rfl hc_8 ?_
  refine go_aload_n rfl rfl ?_
  refine go_iload_n rfl rfl ?_
  refine go_iconst (v := 5) rfl (by decide) ?_
  refine go_iadd rfl ?_
  replace e := ck_as_e e
  obtain ⟨hc_9, e⟩ := e
  refine go_iald rfl hc_9 ?_
  refine go_if_eq (t := 645) rfl rfl (fun hx_10 => ?_) (fun hx_10 => ?_)
  · rw [if_pos hx_10] at e
    refine go_iconst (v := 0) rfl (by decide) ?_
    replace e := ck_as_e e
    obtain ⟨hk_11, e⟩ := e
    replace e := ck_bd_e e
    obtain ⟨r12, h13, e14, e⟩ := e
    refine go_callV (As := [.int (gI h3 a0 (v3 + 1 : Int32).toNatClampNeg), .int (gI h3 a0 (v3 + 2 : Int32).toNatClampNeg), .int (gI h3 a0 (v3 + 3 : Int32).toNatClampNeg), .int (gI h3 a0 (v3 + 4 : Int32).toNatClampNeg), .int 0]) (b0 := a2) (rest := [.int r2]) rfl rfl ⟨hk_11, by decide⟩ rfl ⟨Nat.le_of_ble_eq_true rfl, Nat.le_of_ble_eq_true rfl, Nat.le_of_ble_eq_true rfl, Nat.le_of_ble_eq_true rfl⟩ (s_RM_allocate e14) ?_
    show Go k_Lw_law 649 [some (.ref a0), some (.ref a1), some (.ref a2), some (.int v3)] [.int r12, .int r2] h13 _
    refine go_icmp_eq (t := 1075) rfl rfl (fun hx_15 => ?_) (fun hx_15 => ?_)
    · rw [if_pos hx_15] at e
      refine go_iinc (v := 6) rfl rfl (by decide) rfl ?_
      show Go k_Lw_law 1078 [some (.ref a0), some (.ref a1), some (.ref a2), some (.int (v3 + 6))] [] h13 _
      refine go_goto (t := 18) rfl rfl ?_
      refine go_forget (l := [some (.ref a0), some (.ref a1), some (.ref a2), some (.int (v3 + 6))]) ⟨Or.inl rfl, Or.inl rfl, Or.inl rfl, Or.inl rfl, trivial⟩ ?_
      exact hk18 _ _ _ _ _ _ _ e
    · rw [if_neg hx_15] at e
      refine go_iconst (v := 0) rfl (by decide) ?_
      cases e
      exact go_ret rfl (ck_rvb rfl (Or.inl rfl))
  · rw [if_neg hx_10] at e
    refine go_iconst (v := 1) rfl (by decide) ?_
    refine go_goto (t := 646) rfl rfl ?_
    replace e := ck_as_e e
    obtain ⟨hk_16, e⟩ := e
    replace e := ck_bd_e e
    obtain ⟨r17, h18, e19, e⟩ := e
    refine go_callV (As := [.int (gI h3 a0 (v3 + 1 : Int32).toNatClampNeg), .int (gI h3 a0 (v3 + 2 : Int32).toNatClampNeg), .int (gI h3 a0 (v3 + 3 : Int32).toNatClampNeg), .int (gI h3 a0 (v3 + 4 : Int32).toNatClampNeg), .int 1]) (b0 := a2) (rest := [.int r2]) rfl rfl ⟨hk_16, by decide⟩ rfl ⟨Nat.le_of_ble_eq_true rfl, Nat.le_of_ble_eq_true rfl, Nat.le_of_ble_eq_true rfl, Nat.le_of_ble_eq_true rfl⟩ (s_RM_allocate e19) ?_
    show Go k_Lw_law 649 [some (.ref a0), some (.ref a1), some (.ref a2), some (.int v3)] [.int r17, .int r2] h18 _
    refine go_icmp_eq (t := 1075) rfl rfl (fun hx_20 => ?_) (fun hx_20 => ?_)
    · rw [if_pos hx_20] at e
      refine go_iinc (v := 6) rfl rfl (by decide) rfl ?_
      show Go k_Lw_law 1078 [some (.ref a0), some (.ref a1), some (.ref a2), some (.int (v3 + 6))] [] h18 _
      refine go_goto (t := 18) rfl rfl ?_
      refine go_forget (l := [some (.ref a0), some (.ref a1), some (.ref a2), some (.int (v3 + 6))]) ⟨Or.inl rfl, Or.inl rfl, Or.inl rfl, Or.inl rfl, trivial⟩ ?_
      exact hk18 _ _ _ _ _ _ _ e
    · rw [if_neg hx_20] at e
      refine go_iconst (v := 0) rfl (by decide) ?_
      cases e
      exact go_ret rfl (ck_rvb rfl (Or.inl rfl))
def f_Lw_law_L18 (F : Nat)  : Nat → Nat → Nat → Nat → Int32 → ck_H → Option (Int32 × ck_H)
  | 0, _, _, _, _, _ => none
  | n + 1, a0, a1, a2, v3, h =>
    ck_as (13 ≤ gk h a0 ∧ gk h a0 ≤ 21) <|
    if ((Int32.ofNat (gz h a0)) - 6) < v3 then
      some (1, h)
    else
      ck_as ((gk h a0 = 14 ∨ gk h a0 = 21) ∧ ¬ v3 < 0 ∧ (v3 : Int32).toNatClampNeg < gz h a0) <|
      if ((gI h a0 (v3 : Int32).toNatClampNeg) &&& 31) = 0 then
        ck_as ((gk h a0 = 14 ∨ gk h a0 = 21) ∧ ¬ (v3 + 1) < 0 ∧ (v3 + 1 : Int32).toNatClampNeg < gz h a0) <|
        ck_as ((gk h a0 = 14 ∨ gk h a0 = 21) ∧ ¬ (v3 + 2) < 0 ∧ (v3 + 2 : Int32).toNatClampNeg < gz h a0) <|
        ck_as ((gk h a0 = 14 ∨ gk h a0 = 21) ∧ ¬ (v3 + 3) < 0 ∧ (v3 + 3 : Int32).toNatClampNeg < gz h a0) <|
        ck_as ((gk h a0 = 14 ∨ gk h a0 = 21) ∧ ¬ (v3 + 4) < 0 ∧ (v3 + 4 : Int32).toNatClampNeg < gz h a0) <|
        ck_as ((gk h a0 = 14 ∨ gk h a0 = 21) ∧ ¬ (v3 + 5) < 0 ∧ (v3 + 5 : Int32).toNatClampNeg < gz h a0) <|
        ck_as (gk h a1 = 11) <|
        ck_bd (f_CS_feed F a1 (gI h a0 (v3 + 1 : Int32).toNatClampNeg) (gI h a0 (v3 + 2 : Int32).toNatClampNeg) (gI h a0 (v3 + 3 : Int32).toNatClampNeg) (gI h a0 (v3 + 4 : Int32).toNatClampNeg) (gI h a0 (v3 + 5 : Int32).toNatClampNeg) h) fun r11 h12 =>
        ck_as ((gk h12 a0 = 14 ∨ gk h12 a0 = 21) ∧ ¬ (v3 + 1) < 0 ∧ (v3 + 1 : Int32).toNatClampNeg < gz h12 a0) <|
        ck_as ((gk h12 a0 = 14 ∨ gk h12 a0 = 21) ∧ ¬ (v3 + 2) < 0 ∧ (v3 + 2 : Int32).toNatClampNeg < gz h12 a0) <|
        ck_as ((gk h12 a0 = 14 ∨ gk h12 a0 = 21) ∧ ¬ (v3 + 3) < 0 ∧ (v3 + 3 : Int32).toNatClampNeg < gz h12 a0) <|
        ck_as ((gk h12 a0 = 14 ∨ gk h12 a0 = 21) ∧ ¬ (v3 + 4) < 0 ∧ (v3 + 4 : Int32).toNatClampNeg < gz h12 a0) <|
        ck_as ((gk h12 a0 = 14 ∨ gk h12 a0 = 21) ∧ ¬ (v3 + 5) < 0 ∧ (v3 + 5 : Int32).toNatClampNeg < gz h12 a0) <|
        ck_as (gk h12 a2 = 12) <|
        ck_bd (f_RM_feed F a2 (gI h12 a0 (v3 + 1 : Int32).toNatClampNeg) (gI h12 a0 (v3 + 2 : Int32).toNatClampNeg) (gI h12 a0 (v3 + 3 : Int32).toNatClampNeg) (gI h12 a0 (v3 + 4 : Int32).toNatClampNeg) (gI h12 a0 (v3 + 5 : Int32).toNatClampNeg) h12) fun r20 h21 =>
        if r11 = r20 then
          f_Lw_law_L18 F n a0 a1 a2 (v3 + 6) h21
        else
          some (0, h21)
      else
      if ((gI h a0 (v3 : Int32).toNatClampNeg) &&& 31) = 1 then
        ck_as ((gk h a0 = 14 ∨ gk h a0 = 21) ∧ ¬ (v3 + 1) < 0 ∧ (v3 + 1 : Int32).toNatClampNeg < gz h a0) <|
        ck_as (gk h a1 = 11) <|
        ck_bd (f_CS_end F a1 (gI h a0 (v3 + 1 : Int32).toNatClampNeg) h) fun r27 h28 =>
        ck_as ((gk h28 a0 = 14 ∨ gk h28 a0 = 21) ∧ ¬ (v3 + 1) < 0 ∧ (v3 + 1 : Int32).toNatClampNeg < gz h28 a0) <|
        ck_as (gk h28 a2 = 12) <|
        ck_bd (f_RM_end F a2 (gI h28 a0 (v3 + 1 : Int32).toNatClampNeg) h28) fun r32 h33 =>
        if r27 = r32 then
          f_Lw_law_L18 F n a0 a1 a2 (v3 + 6) h33
        else
          some (0, h33)
      else
      if ((gI h a0 (v3 : Int32).toNatClampNeg) &&& 31) = 2 then
        ck_as ((gk h a0 = 14 ∨ gk h a0 = 21) ∧ ¬ (v3 + 1) < 0 ∧ (v3 + 1 : Int32).toNatClampNeg < gz h a0) <|
        ck_as (gk h a1 = 11) <|
        ck_bd (f_CS_out F a1 (gI h a0 (v3 + 1 : Int32).toNatClampNeg) h) fun r39 h40 =>
        ck_as ((gk h40 a0 = 14 ∨ gk h40 a0 = 21) ∧ ¬ (v3 + 1) < 0 ∧ (v3 + 1 : Int32).toNatClampNeg < gz h40 a0) <|
        ck_as (gk h40 a2 = 12) <|
        ck_bd (f_RM_out F a2 (gI h40 a0 (v3 + 1 : Int32).toNatClampNeg) h40) fun r44 h45 =>
        if r39 = r44 then
          f_Lw_law_L18 F n a0 a1 a2 (v3 + 6) h45
        else
          some (0, h45)
      else
      if ((gI h a0 (v3 : Int32).toNatClampNeg) &&& 31) = 3 then
        ck_as ((gk h a0 = 14 ∨ gk h a0 = 21) ∧ ¬ (v3 + 1) < 0 ∧ (v3 + 1 : Int32).toNatClampNeg < gz h a0) <|
        ck_as ((gk h a0 = 14 ∨ gk h a0 = 21) ∧ ¬ (v3 + 2) < 0 ∧ (v3 + 2 : Int32).toNatClampNeg < gz h a0) <|
        ck_as ((gk h a0 = 14 ∨ gk h a0 = 21) ∧ ¬ (v3 + 3) < 0 ∧ (v3 + 3 : Int32).toNatClampNeg < gz h a0) <|
        ck_as ((gk h a0 = 14 ∨ gk h a0 = 21) ∧ ¬ (v3 + 4) < 0 ∧ (v3 + 4 : Int32).toNatClampNeg < gz h a0) <|
        ck_as ((gk h a0 = 14 ∨ gk h a0 = 21) ∧ ¬ (v3 + 5) < 0 ∧ (v3 + 5 : Int32).toNatClampNeg < gz h a0) <|
        ck_as (gk h a1 = 11) <|
        ck_bd (f_CS_command F a1 (gI h a0 (v3 + 1 : Int32).toNatClampNeg) (gI h a0 (v3 + 2 : Int32).toNatClampNeg) (gI h a0 (v3 + 3 : Int32).toNatClampNeg) (gI h a0 (v3 + 4 : Int32).toNatClampNeg) (gI h a0 (v3 + 5 : Int32).toNatClampNeg) h) fun r55 h56 =>
        ck_as ((gk h56 a0 = 14 ∨ gk h56 a0 = 21) ∧ ¬ (v3 + 1) < 0 ∧ (v3 + 1 : Int32).toNatClampNeg < gz h56 a0) <|
        ck_as ((gk h56 a0 = 14 ∨ gk h56 a0 = 21) ∧ ¬ (v3 + 2) < 0 ∧ (v3 + 2 : Int32).toNatClampNeg < gz h56 a0) <|
        ck_as ((gk h56 a0 = 14 ∨ gk h56 a0 = 21) ∧ ¬ (v3 + 3) < 0 ∧ (v3 + 3 : Int32).toNatClampNeg < gz h56 a0) <|
        ck_as ((gk h56 a0 = 14 ∨ gk h56 a0 = 21) ∧ ¬ (v3 + 4) < 0 ∧ (v3 + 4 : Int32).toNatClampNeg < gz h56 a0) <|
        ck_as ((gk h56 a0 = 14 ∨ gk h56 a0 = 21) ∧ ¬ (v3 + 5) < 0 ∧ (v3 + 5 : Int32).toNatClampNeg < gz h56 a0) <|
        ck_as (gk h56 a2 = 12) <|
        ck_bd (f_RM_command F a2 (gI h56 a0 (v3 + 1 : Int32).toNatClampNeg) (gI h56 a0 (v3 + 2 : Int32).toNatClampNeg) (gI h56 a0 (v3 + 3 : Int32).toNatClampNeg) (gI h56 a0 (v3 + 4 : Int32).toNatClampNeg) (gI h56 a0 (v3 + 5 : Int32).toNatClampNeg) h56) fun r64 h65 =>
        if r55 = r64 then
          f_Lw_law_L18 F n a0 a1 a2 (v3 + 6) h65
        else
          some (0, h65)
      else
      if ((gI h a0 (v3 : Int32).toNatClampNeg) &&& 31) = 4 then
        ck_as ((gk h a0 = 14 ∨ gk h a0 = 21) ∧ ¬ (v3 + 1) < 0 ∧ (v3 + 1 : Int32).toNatClampNeg < gz h a0) <|
        ck_as (gk h a1 = 11) <|
        ck_bd (f_CS_memory F a1 (gI h a0 (v3 + 1 : Int32).toNatClampNeg) h) fun r71 h72 =>
        ck_as ((gk h72 a0 = 14 ∨ gk h72 a0 = 21) ∧ ¬ (v3 + 1) < 0 ∧ (v3 + 1 : Int32).toNatClampNeg < gz h72 a0) <|
        ck_as (gk h72 a2 = 12) <|
        ck_bd (f_RM_memory F a2 (gI h72 a0 (v3 + 1 : Int32).toNatClampNeg) h72) fun r76 h77 =>
        if r71 = r76 then
          f_Lw_law_L18 F n a0 a1 a2 (v3 + 6) h77
        else
          some (0, h77)
      else
      if ((gI h a0 (v3 : Int32).toNatClampNeg) &&& 31) = 5 then
        ck_as ((gk h a0 = 14 ∨ gk h a0 = 21) ∧ ¬ (v3 + 1) < 0 ∧ (v3 + 1 : Int32).toNatClampNeg < gz h a0) <|
        ck_as (gk h a1 = 11) <|
        ck_bd (f_CS_poke F a1 (gI h a0 (v3 + 1 : Int32).toNatClampNeg) h) fun r83 h84 =>
        ck_as ((gk h84 a0 = 14 ∨ gk h84 a0 = 21) ∧ ¬ (v3 + 1) < 0 ∧ (v3 + 1 : Int32).toNatClampNeg < gz h84 a0) <|
        ck_as (gk h84 a2 = 12) <|
        ck_bd (f_RM_poke F a2 (gI h84 a0 (v3 + 1 : Int32).toNatClampNeg) h84) fun r88 h89 =>
        if r83 = r88 then
          f_Lw_law_L18 F n a0 a1 a2 (v3 + 6) h89
        else
          some (0, h89)
      else
      if ((gI h a0 (v3 : Int32).toNatClampNeg) &&& 31) = 6 then
        ck_as ((gk h a0 = 14 ∨ gk h a0 = 21) ∧ ¬ (v3 + 1) < 0 ∧ (v3 + 1 : Int32).toNatClampNeg < gz h a0) <|
        ck_as (gk h a1 = 11) <|
        ck_bd (f_CS_start F a1 (gI h a0 (v3 + 1 : Int32).toNatClampNeg) h) fun r95 h96 =>
        ck_as ((gk h96 a0 = 14 ∨ gk h96 a0 = 21) ∧ ¬ (v3 + 1) < 0 ∧ (v3 + 1 : Int32).toNatClampNeg < gz h96 a0) <|
        ck_as (gk h96 a2 = 12) <|
        ck_bd (f_RM_start F a2 (gI h96 a0 (v3 + 1 : Int32).toNatClampNeg) h96) fun r100 h101 =>
        if r95 = r100 then
          f_Lw_law_L18 F n a0 a1 a2 (v3 + 6) h101
        else
          some (0, h101)
      else
      if ((gI h a0 (v3 : Int32).toNatClampNeg) &&& 31) = 7 then
        ck_as ((gk h a0 = 14 ∨ gk h a0 = 21) ∧ ¬ (v3 + 1) < 0 ∧ (v3 + 1 : Int32).toNatClampNeg < gz h a0) <|
        ck_as (gk h a1 = 11) <|
        ck_bd (f_CS_status F a1 (gI h a0 (v3 + 1 : Int32).toNatClampNeg) h) fun r107 h108 =>
        ck_as ((gk h108 a0 = 14 ∨ gk h108 a0 = 21) ∧ ¬ (v3 + 1) < 0 ∧ (v3 + 1 : Int32).toNatClampNeg < gz h108 a0) <|
        ck_as (gk h108 a2 = 12) <|
        ck_bd (f_RM_status F a2 (gI h108 a0 (v3 + 1 : Int32).toNatClampNeg) h108) fun r112 h113 =>
        if r107 = r112 then
          f_Lw_law_L18 F n a0 a1 a2 (v3 + 6) h113
        else
          some (0, h113)
      else
      if ((gI h a0 (v3 : Int32).toNatClampNeg) &&& 31) = 8 then
        ck_as (gk h a1 = 11) <|
        ck_bd (f_CS_time F a1 h) fun r118 h119 =>
        ck_as (gk h119 a2 = 12) <|
        ck_bd (f_RM_time F a2 h119) fun r122 h123 =>
        if (lg_cmp r118 r122) = (0 : Int32) then
          f_Lw_law_L18 F n a0 a1 a2 (v3 + 6) h123
        else
          some (0, h123)
      else
      if ((gI h a0 (v3 : Int32).toNatClampNeg) &&& 31) = 9 then
        ck_as ((gk h a0 = 14 ∨ gk h a0 = 21) ∧ ¬ (v3 + 1) < 0 ∧ (v3 + 1 : Int32).toNatClampNeg < gz h a0) <|
        ck_as ((gk h a0 = 14 ∨ gk h a0 = 21) ∧ ¬ (v3 + 2) < 0 ∧ (v3 + 2 : Int32).toNatClampNeg < gz h a0) <|
        ck_as (gk h a1 = 11) <|
        ck_bd (f_CS_arm F a1 (gI h a0 (v3 + 1 : Int32).toNatClampNeg) (gI h a0 (v3 + 2 : Int32).toNatClampNeg) h) fun r130 h131 =>
        ck_as ((gk h131 a0 = 14 ∨ gk h131 a0 = 21) ∧ ¬ (v3 + 1) < 0 ∧ (v3 + 1 : Int32).toNatClampNeg < gz h131 a0) <|
        ck_as ((gk h131 a0 = 14 ∨ gk h131 a0 = 21) ∧ ¬ (v3 + 2) < 0 ∧ (v3 + 2 : Int32).toNatClampNeg < gz h131 a0) <|
        ck_as (gk h131 a2 = 12) <|
        ck_bd (f_RM_arm F a2 (gI h131 a0 (v3 + 1 : Int32).toNatClampNeg) (gI h131 a0 (v3 + 2 : Int32).toNatClampNeg) h131) fun r136 h137 =>
        if r130 = r136 then
          f_Lw_law_L18 F n a0 a1 a2 (v3 + 6) h137
        else
          some (0, h137)
      else
      if ((gI h a0 (v3 : Int32).toNatClampNeg) &&& 31) = 10 then
        ck_as ((gk h a0 = 14 ∨ gk h a0 = 21) ∧ ¬ (v3 + 1) < 0 ∧ (v3 + 1 : Int32).toNatClampNeg < gz h a0) <|
        ck_as ((gk h a0 = 14 ∨ gk h a0 = 21) ∧ ¬ (v3 + 2) < 0 ∧ (v3 + 2 : Int32).toNatClampNeg < gz h a0) <|
        ck_as ((gk h a0 = 14 ∨ gk h a0 = 21) ∧ ¬ (v3 + 3) < 0 ∧ (v3 + 3 : Int32).toNatClampNeg < gz h a0) <|
        ck_as ((gk h a0 = 14 ∨ gk h a0 = 21) ∧ ¬ (v3 + 4) < 0 ∧ (v3 + 4 : Int32).toNatClampNeg < gz h a0) <|
        ck_as (gk h a1 = 11) <|
        ck_bd (f_CS_record F a1 (gI h a0 (v3 + 1 : Int32).toNatClampNeg) (gI h a0 (v3 + 2 : Int32).toNatClampNeg) (gI h a0 (v3 + 3 : Int32).toNatClampNeg) (gI h a0 (v3 + 4 : Int32).toNatClampNeg) h) fun r146 h147 =>
        ck_as ((gk h147 a0 = 14 ∨ gk h147 a0 = 21) ∧ ¬ (v3 + 1) < 0 ∧ (v3 + 1 : Int32).toNatClampNeg < gz h147 a0) <|
        ck_as ((gk h147 a0 = 14 ∨ gk h147 a0 = 21) ∧ ¬ (v3 + 2) < 0 ∧ (v3 + 2 : Int32).toNatClampNeg < gz h147 a0) <|
        ck_as ((gk h147 a0 = 14 ∨ gk h147 a0 = 21) ∧ ¬ (v3 + 3) < 0 ∧ (v3 + 3 : Int32).toNatClampNeg < gz h147 a0) <|
        ck_as ((gk h147 a0 = 14 ∨ gk h147 a0 = 21) ∧ ¬ (v3 + 4) < 0 ∧ (v3 + 4 : Int32).toNatClampNeg < gz h147 a0) <|
        ck_as (gk h147 a2 = 12) <|
        ck_bd (f_RM_record F a2 (gI h147 a0 (v3 + 1 : Int32).toNatClampNeg) (gI h147 a0 (v3 + 2 : Int32).toNatClampNeg) (gI h147 a0 (v3 + 3 : Int32).toNatClampNeg) (gI h147 a0 (v3 + 4 : Int32).toNatClampNeg) h147) fun r154 h155 =>
        if r146 = r154 then
          f_Lw_law_L18 F n a0 a1 a2 (v3 + 6) h155
        else
          some (0, h155)
      else
      if ((gI h a0 (v3 : Int32).toNatClampNeg) &&& 31) = 11 then
        ck_as ((gk h a0 = 14 ∨ gk h a0 = 21) ∧ ¬ (v3 + 1) < 0 ∧ (v3 + 1 : Int32).toNatClampNeg < gz h a0) <|
        ck_as ((gk h a0 = 14 ∨ gk h a0 = 21) ∧ ¬ (v3 + 2) < 0 ∧ (v3 + 2 : Int32).toNatClampNeg < gz h a0) <|
        ck_as ((gk h a0 = 14 ∨ gk h a0 = 21) ∧ ¬ (v3 + 3) < 0 ∧ (v3 + 3 : Int32).toNatClampNeg < gz h a0) <|
        ck_as (gk h a1 = 11) <|
        ck_bd (f_CS_spoil F a1 (gI h a0 (v3 + 1 : Int32).toNatClampNeg) (gI h a0 (v3 + 2 : Int32).toNatClampNeg) (gI h a0 (v3 + 3 : Int32).toNatClampNeg) h) fun r163 h164 =>
        ck_as ((gk h164 a0 = 14 ∨ gk h164 a0 = 21) ∧ ¬ (v3 + 1) < 0 ∧ (v3 + 1 : Int32).toNatClampNeg < gz h164 a0) <|
        ck_as ((gk h164 a0 = 14 ∨ gk h164 a0 = 21) ∧ ¬ (v3 + 2) < 0 ∧ (v3 + 2 : Int32).toNatClampNeg < gz h164 a0) <|
        ck_as ((gk h164 a0 = 14 ∨ gk h164 a0 = 21) ∧ ¬ (v3 + 3) < 0 ∧ (v3 + 3 : Int32).toNatClampNeg < gz h164 a0) <|
        ck_as (gk h164 a2 = 12) <|
        ck_bd (f_RM_spoil F a2 (gI h164 a0 (v3 + 1 : Int32).toNatClampNeg) (gI h164 a0 (v3 + 2 : Int32).toNatClampNeg) (gI h164 a0 (v3 + 3 : Int32).toNatClampNeg) h164) fun r170 h171 =>
        if r163 = r170 then
          f_Lw_law_L18 F n a0 a1 a2 (v3 + 6) h171
        else
          some (0, h171)
      else
      if ((gI h a0 (v3 : Int32).toNatClampNeg) &&& 31) = 12 then
        ck_as ((gk h a0 = 14 ∨ gk h a0 = 21) ∧ ¬ (v3 + 1) < 0 ∧ (v3 + 1 : Int32).toNatClampNeg < gz h a0) <|
        ck_as ((gk h a0 = 14 ∨ gk h a0 = 21) ∧ ¬ (v3 + 2) < 0 ∧ (v3 + 2 : Int32).toNatClampNeg < gz h a0) <|
        ck_as ((gk h a0 = 14 ∨ gk h a0 = 21) ∧ ¬ (v3 + 3) < 0 ∧ (v3 + 3 : Int32).toNatClampNeg < gz h a0) <|
        ck_as ((gk h a0 = 14 ∨ gk h a0 = 21) ∧ ¬ (v3 + 4) < 0 ∧ (v3 + 4 : Int32).toNatClampNeg < gz h a0) <|
        ck_as ((gk h a0 = 14 ∨ gk h a0 = 21) ∧ ¬ (v3 + 5) < 0 ∧ (v3 + 5 : Int32).toNatClampNeg < gz h a0) <|
        if (gI h a0 (v3 + 5 : Int32).toNatClampNeg) = (0 : Int32) then
          f_Lw_law_J609 F (f_Lw_law_L18 F n) a0 a1 a2 v3 0 (gI h a0 (v3 + 4 : Int32).toNatClampNeg) (gI h a0 (v3 + 3 : Int32).toNatClampNeg) (gI h a0 (v3 + 2 : Int32).toNatClampNeg) (gI h a0 (v3 + 1 : Int32).toNatClampNeg) a1 h
        else
          f_Lw_law_J609 F (f_Lw_law_L18 F n) a0 a1 a2 v3 1 (gI h a0 (v3 + 4 : Int32).toNatClampNeg) (gI h a0 (v3 + 3 : Int32).toNatClampNeg) (gI h a0 (v3 + 2 : Int32).toNatClampNeg) (gI h a0 (v3 + 1 : Int32).toNatClampNeg) a1 h
      else
      if ((gI h a0 (v3 : Int32).toNatClampNeg) &&& 31) = 13 then
        ck_as (gk h a1 = 11) <|
        ck_bd (f_CS_scratch F a1 h) fun r183 h184 =>
        ck_as (gk h184 a2 = 12) <|
        ck_bd (f_RM_scratch F a2 h184) fun r187 h188 =>
        if r183 = r187 then
          f_Lw_law_L18 F n a0 a1 a2 (v3 + 6) h188
        else
          some (0, h188)
      else
      if ((gI h a0 (v3 : Int32).toNatClampNeg) &&& 31) = 14 then
        ck_as ((gk h a0 = 14 ∨ gk h a0 = 21) ∧ ¬ (v3 + 1) < 0 ∧ (v3 + 1 : Int32).toNatClampNeg < gz h a0) <|
        ck_as (gk h a1 = 11) <|
        ck_bd (f_CS_extend F a1 (gI h a0 (v3 + 1 : Int32).toNatClampNeg) h) fun r194 h195 =>
        ck_as ((gk h195 a0 = 14 ∨ gk h195 a0 = 21) ∧ ¬ (v3 + 1) < 0 ∧ (v3 + 1 : Int32).toNatClampNeg < gz h195 a0) <|
        ck_as (gk h195 a2 = 12) <|
        ck_bd (f_RM_extend F a2 (gI h195 a0 (v3 + 1 : Int32).toNatClampNeg) h195) fun r199 h200 =>
        if r194 = r199 then
          f_Lw_law_L18 F n a0 a1 a2 (v3 + 6) h200
        else
          some (0, h200)
      else
      if ((gI h a0 (v3 : Int32).toNatClampNeg) &&& 31) = 15 then
        ck_as ((gk h a0 = 14 ∨ gk h a0 = 21) ∧ ¬ (v3 + 1) < 0 ∧ (v3 + 1 : Int32).toNatClampNeg < gz h a0) <|
        ck_as ((gk h a0 = 14 ∨ gk h a0 = 21) ∧ ¬ (v3 + 2) < 0 ∧ (v3 + 2 : Int32).toNatClampNeg < gz h a0) <|
        ck_as (gk h a1 = 11) <|
        ck_bd (f_CS_dataSet F a1 (gI h a0 (v3 + 1 : Int32).toNatClampNeg) (gI h a0 (v3 + 2 : Int32).toNatClampNeg) h) fun r207 h208 =>
        ck_as ((gk h208 a0 = 14 ∨ gk h208 a0 = 21) ∧ ¬ (v3 + 1) < 0 ∧ (v3 + 1 : Int32).toNatClampNeg < gz h208 a0) <|
        ck_as ((gk h208 a0 = 14 ∨ gk h208 a0 = 21) ∧ ¬ (v3 + 2) < 0 ∧ (v3 + 2 : Int32).toNatClampNeg < gz h208 a0) <|
        ck_as (gk h208 a2 = 12) <|
        ck_bd (f_RM_dataSet F a2 (gI h208 a0 (v3 + 1 : Int32).toNatClampNeg) (gI h208 a0 (v3 + 2 : Int32).toNatClampNeg) h208) fun r213 h214 =>
        if r207 = r213 then
          f_Lw_law_L18 F n a0 a1 a2 (v3 + 6) h214
        else
          some (0, h214)
      else
      if ((gI h a0 (v3 : Int32).toNatClampNeg) &&& 31) = 16 then
        ck_as ((gk h a0 = 14 ∨ gk h a0 = 21) ∧ ¬ (v3 + 1) < 0 ∧ (v3 + 1 : Int32).toNatClampNeg < gz h a0) <|
        ck_as (gk h a1 = 11) <|
        ck_bd (f_CS_count F a1 (gI h a0 (v3 + 1 : Int32).toNatClampNeg) h) fun r220 h221 =>
        ck_as ((gk h221 a0 = 14 ∨ gk h221 a0 = 21) ∧ ¬ (v3 + 1) < 0 ∧ (v3 + 1 : Int32).toNatClampNeg < gz h221 a0) <|
        ck_as (gk h221 a2 = 12) <|
        ck_bd (f_RM_count F a2 (gI h221 a0 (v3 + 1 : Int32).toNatClampNeg) h221) fun r225 h226 =>
        if r220 = r225 then
          f_Lw_law_L18 F n a0 a1 a2 (v3 + 6) h226
        else
          some (0, h226)
      else
      if ((gI h a0 (v3 : Int32).toNatClampNeg) &&& 31) = 17 then
        ck_as ((gk h a0 = 14 ∨ gk h a0 = 21) ∧ ¬ (v3 + 1) < 0 ∧ (v3 + 1 : Int32).toNatClampNeg < gz h a0) <|
        ck_as (gk h a1 = 11) <|
        ck_bd (f_CS_open F a1 (gI h a0 (v3 + 1 : Int32).toNatClampNeg) h) fun r232 h233 =>
        ck_as ((gk h233 a0 = 14 ∨ gk h233 a0 = 21) ∧ ¬ (v3 + 1) < 0 ∧ (v3 + 1 : Int32).toNatClampNeg < gz h233 a0) <|
        ck_as (gk h233 a2 = 12) <|
        ck_bd (f_RM_open F a2 (gI h233 a0 (v3 + 1 : Int32).toNatClampNeg) h233) fun r237 h238 =>
        if r232 = r237 then
          f_Lw_law_L18 F n a0 a1 a2 (v3 + 6) h238
        else
          some (0, h238)
      else
      if ((gI h a0 (v3 : Int32).toNatClampNeg) &&& 31) = 18 then
        ck_as ((gk h a0 = 14 ∨ gk h a0 = 21) ∧ ¬ (v3 + 1) < 0 ∧ (v3 + 1 : Int32).toNatClampNeg < gz h a0) <|
        ck_as (gk h a1 = 11) <|
        ck_bd (f_CS_close F a1 (gI h a0 (v3 + 1 : Int32).toNatClampNeg) h) fun r244 h245 =>
        ck_as ((gk h245 a0 = 14 ∨ gk h245 a0 = 21) ∧ ¬ (v3 + 1) < 0 ∧ (v3 + 1 : Int32).toNatClampNeg < gz h245 a0) <|
        ck_as (gk h245 a2 = 12) <|
        ck_bd (f_RM_close F a2 (gI h245 a0 (v3 + 1 : Int32).toNatClampNeg) h245) fun r249 h250 =>
        if r244 = r249 then
          f_Lw_law_L18 F n a0 a1 a2 (v3 + 6) h250
        else
          some (0, h250)
      else
      if ((gI h a0 (v3 : Int32).toNatClampNeg) &&& 31) = 19 then
        ck_as ((gk h a0 = 14 ∨ gk h a0 = 21) ∧ ¬ (v3 + 1) < 0 ∧ (v3 + 1 : Int32).toNatClampNeg < gz h a0) <|
        ck_as (gk h a1 = 11) <|
        ck_bd (f_CS_put F a1 (gI h a0 (v3 + 1 : Int32).toNatClampNeg) h) fun r256 h257 =>
        ck_as ((gk h257 a0 = 14 ∨ gk h257 a0 = 21) ∧ ¬ (v3 + 1) < 0 ∧ (v3 + 1 : Int32).toNatClampNeg < gz h257 a0) <|
        ck_as (gk h257 a2 = 12) <|
        ck_bd (f_RM_put F a2 (gI h257 a0 (v3 + 1 : Int32).toNatClampNeg) h257) fun r261 h262 =>
        if r256 = r261 then
          f_Lw_law_L18 F n a0 a1 a2 (v3 + 6) h262
        else
          some (0, h262)
      else
      if ((gI h a0 (v3 : Int32).toNatClampNeg) &&& 31) = 20 then
        ck_as ((gk h a0 = 14 ∨ gk h a0 = 21) ∧ ¬ (v3 + 1) < 0 ∧ (v3 + 1 : Int32).toNatClampNeg < gz h a0) <|
        ck_as (gk h a1 = 11) <|
        ck_bd (f_CS_get F a1 (gI h a0 (v3 + 1 : Int32).toNatClampNeg) h) fun r268 h269 =>
        ck_as ((gk h269 a0 = 14 ∨ gk h269 a0 = 21) ∧ ¬ (v3 + 1) < 0 ∧ (v3 + 1 : Int32).toNatClampNeg < gz h269 a0) <|
        ck_as (gk h269 a2 = 12) <|
        ck_bd (f_RM_get F a2 (gI h269 a0 (v3 + 1 : Int32).toNatClampNeg) h269) fun r273 h274 =>
        if r268 = r273 then
          f_Lw_law_L18 F n a0 a1 a2 (v3 + 6) h274
        else
          some (0, h274)
      else
      if ((gI h a0 (v3 : Int32).toNatClampNeg) &&& 31) = 21 then
        ck_as ((gk h a0 = 14 ∨ gk h a0 = 21) ∧ ¬ (v3 + 1) < 0 ∧ (v3 + 1 : Int32).toNatClampNeg < gz h a0) <|
        ck_as (gk h a1 = 11) <|
        ck_bd (f_CS_rewrite F a1 (gI h a0 (v3 + 1 : Int32).toNatClampNeg) h) fun r280 h281 =>
        ck_as ((gk h281 a0 = 14 ∨ gk h281 a0 = 21) ∧ ¬ (v3 + 1) < 0 ∧ (v3 + 1 : Int32).toNatClampNeg < gz h281 a0) <|
        ck_as (gk h281 a2 = 12) <|
        ck_bd (f_RM_rewrite F a2 (gI h281 a0 (v3 + 1 : Int32).toNatClampNeg) h281) fun r285 h286 =>
        if r280 = r285 then
          f_Lw_law_L18 F n a0 a1 a2 (v3 + 6) h286
        else
          some (0, h286)
      else
      if ((gI h a0 (v3 : Int32).toNatClampNeg) &&& 31) = 22 then
        ck_as ((gk h a0 = 14 ∨ gk h a0 = 21) ∧ ¬ (v3 + 1) < 0 ∧ (v3 + 1 : Int32).toNatClampNeg < gz h a0) <|
        ck_as (gk h a1 = 11) <|
        ck_bd (f_CS_putKeyed F a1 (gI h a0 (v3 + 1 : Int32).toNatClampNeg) h) fun r292 h293 =>
        ck_as ((gk h293 a0 = 14 ∨ gk h293 a0 = 21) ∧ ¬ (v3 + 1) < 0 ∧ (v3 + 1 : Int32).toNatClampNeg < gz h293 a0) <|
        ck_as (gk h293 a2 = 12) <|
        ck_bd (f_RM_putKeyed F a2 (gI h293 a0 (v3 + 1 : Int32).toNatClampNeg) h293) fun r297 h298 =>
        if r292 = r297 then
          f_Lw_law_L18 F n a0 a1 a2 (v3 + 6) h298
        else
          some (0, h298)
      else
      if ((gI h a0 (v3 : Int32).toNatClampNeg) &&& 31) = 23 then
        ck_as ((gk h a0 = 14 ∨ gk h a0 = 21) ∧ ¬ (v3 + 1) < 0 ∧ (v3 + 1 : Int32).toNatClampNeg < gz h a0) <|
        ck_as (gk h a1 = 11) <|
        ck_bd (f_CS_getKeyed F a1 (gI h a0 (v3 + 1 : Int32).toNatClampNeg) h) fun r304 h305 =>
        ck_as ((gk h305 a0 = 14 ∨ gk h305 a0 = 21) ∧ ¬ (v3 + 1) < 0 ∧ (v3 + 1 : Int32).toNatClampNeg < gz h305 a0) <|
        ck_as (gk h305 a2 = 12) <|
        ck_bd (f_RM_getKeyed F a2 (gI h305 a0 (v3 + 1 : Int32).toNatClampNeg) h305) fun r309 h310 =>
        if r304 = r309 then
          f_Lw_law_L18 F n a0 a1 a2 (v3 + 6) h310
        else
          some (0, h310)
      else
      if ((gI h a0 (v3 : Int32).toNatClampNeg) &&& 31) = 24 then
        ck_as ((gk h a0 = 14 ∨ gk h a0 = 21) ∧ ¬ (v3 + 1) < 0 ∧ (v3 + 1 : Int32).toNatClampNeg < gz h a0) <|
        ck_as (gk h a1 = 11) <|
        ck_bd (f_CS_member F a1 (gI h a0 (v3 + 1 : Int32).toNatClampNeg) h) fun r316 h317 =>
        ck_as ((gk h317 a0 = 14 ∨ gk h317 a0 = 21) ∧ ¬ (v3 + 1) < 0 ∧ (v3 + 1 : Int32).toNatClampNeg < gz h317 a0) <|
        ck_as (gk h317 a2 = 12) <|
        ck_bd (f_RM_member F a2 (gI h317 a0 (v3 + 1 : Int32).toNatClampNeg) h317) fun r321 h322 =>
        if r316 = r321 then
          f_Lw_law_L18 F n a0 a1 a2 (v3 + 6) h322
        else
          some (0, h322)
      else
      if ((gI h a0 (v3 : Int32).toNatClampNeg) &&& 31) = 25 then
        ck_as ((gk h a0 = 14 ∨ gk h a0 = 21) ∧ ¬ (v3 + 1) < 0 ∧ (v3 + 1 : Int32).toNatClampNeg < gz h a0) <|
        ck_as (gk h a1 = 11) <|
        ck_bd (f_CS_stow F a1 (gI h a0 (v3 + 1 : Int32).toNatClampNeg) h) fun r328 h329 =>
        ck_as ((gk h329 a0 = 14 ∨ gk h329 a0 = 21) ∧ ¬ (v3 + 1) < 0 ∧ (v3 + 1 : Int32).toNatClampNeg < gz h329 a0) <|
        ck_as (gk h329 a2 = 12) <|
        ck_bd (f_RM_stow F a2 (gI h329 a0 (v3 + 1 : Int32).toNatClampNeg) h329) fun r333 h334 =>
        if r328 = r333 then
          f_Lw_law_L18 F n a0 a1 a2 (v3 + 6) h334
        else
          some (0, h334)
      else
      if ((gI h a0 (v3 : Int32).toNatClampNeg) &&& 31) = 26 then
        ck_as ((gk h a0 = 14 ∨ gk h a0 = 21) ∧ ¬ (v3 + 1) < 0 ∧ (v3 + 1 : Int32).toNatClampNeg < gz h a0) <|
        ck_as ((gk h a0 = 14 ∨ gk h a0 = 21) ∧ ¬ (v3 + 2) < 0 ∧ (v3 + 2 : Int32).toNatClampNeg < gz h a0) <|
        ck_as (gk h a1 = 11) <|
        ck_bd (f_CS_memberAt F a1 (gI h a0 (v3 + 1 : Int32).toNatClampNeg) (gI h a0 (v3 + 2 : Int32).toNatClampNeg) h) fun r341 h342 =>
        ck_as ((gk h342 a0 = 14 ∨ gk h342 a0 = 21) ∧ ¬ (v3 + 1) < 0 ∧ (v3 + 1 : Int32).toNatClampNeg < gz h342 a0) <|
        ck_as ((gk h342 a0 = 14 ∨ gk h342 a0 = 21) ∧ ¬ (v3 + 2) < 0 ∧ (v3 + 2 : Int32).toNatClampNeg < gz h342 a0) <|
        ck_as (gk h342 a2 = 12) <|
        ck_bd (f_RM_memberAt F a2 (gI h342 a0 (v3 + 1 : Int32).toNatClampNeg) (gI h342 a0 (v3 + 2 : Int32).toNatClampNeg) h342) fun r347 h348 =>
        if r341 = r347 then
          f_Lw_law_L18 F n a0 a1 a2 (v3 + 6) h348
        else
          some (0, h348)
      else
      if ((gI h a0 (v3 : Int32).toNatClampNeg) &&& 31) = 27 then
        ck_as ((gk h a0 = 14 ∨ gk h a0 = 21) ∧ ¬ (v3 + 1) < 0 ∧ (v3 + 1 : Int32).toNatClampNeg < gz h a0) <|
        ck_as ((gk h a0 = 14 ∨ gk h a0 = 21) ∧ ¬ (v3 + 2) < 0 ∧ (v3 + 2 : Int32).toNatClampNeg < gz h a0) <|
        ck_as (gk h a1 = 11) <|
        ck_bd (f_CS_drop F a1 (gI h a0 (v3 + 1 : Int32).toNatClampNeg) (gI h a0 (v3 + 2 : Int32).toNatClampNeg) h) fun r355 h356 =>
        ck_as ((gk h356 a0 = 14 ∨ gk h356 a0 = 21) ∧ ¬ (v3 + 1) < 0 ∧ (v3 + 1 : Int32).toNatClampNeg < gz h356 a0) <|
        ck_as ((gk h356 a0 = 14 ∨ gk h356 a0 = 21) ∧ ¬ (v3 + 2) < 0 ∧ (v3 + 2 : Int32).toNatClampNeg < gz h356 a0) <|
        ck_as (gk h356 a2 = 12) <|
        ck_bd (f_RM_drop F a2 (gI h356 a0 (v3 + 1 : Int32).toNatClampNeg) (gI h356 a0 (v3 + 2 : Int32).toNatClampNeg) h356) fun r361 h362 =>
        if r355 = r361 then
          f_Lw_law_L18 F n a0 a1 a2 (v3 + 6) h362
        else
          some (0, h362)
      else
      if ((gI h a0 (v3 : Int32).toNatClampNeg) &&& 31) = 28 then
        ck_as ((gk h a0 = 14 ∨ gk h a0 = 21) ∧ ¬ (v3 + 1) < 0 ∧ (v3 + 1 : Int32).toNatClampNeg < gz h a0) <|
        ck_as (gk h a1 = 11) <|
        ck_bd (f_CS_press F a1 (gI h a0 (v3 + 1 : Int32).toNatClampNeg) h) fun r368 h369 =>
        ck_as ((gk h369 a0 = 14 ∨ gk h369 a0 = 21) ∧ ¬ (v3 + 1) < 0 ∧ (v3 + 1 : Int32).toNatClampNeg < gz h369 a0) <|
        ck_as (gk h369 a2 = 12) <|
        ck_bd (f_RM_press F a2 (gI h369 a0 (v3 + 1 : Int32).toNatClampNeg) h369) fun r373 h374 =>
        if r368 = r373 then
          f_Lw_law_L18 F n a0 a1 a2 (v3 + 6) h374
        else
          some (0, h374)
      else
      if ((gI h a0 (v3 : Int32).toNatClampNeg) &&& 31) = 29 then
        ck_as ((gk h a0 = 14 ∨ gk h a0 = 21) ∧ ¬ (v3 + 1) < 0 ∧ (v3 + 1 : Int32).toNatClampNeg < gz h a0) <|
        ck_as ((gk h a0 = 14 ∨ gk h a0 = 21) ∧ ¬ (v3 + 2) < 0 ∧ (v3 + 2 : Int32).toNatClampNeg < gz h a0) <|
        ck_as (gk h a1 = 11) <|
        ck_bd (f_CS_opened F a1 (gI h a0 (v3 + 1 : Int32).toNatClampNeg) (gI h a0 (v3 + 2 : Int32).toNatClampNeg) h) fun r381 h382 =>
        ck_as ((gk h382 a0 = 14 ∨ gk h382 a0 = 21) ∧ ¬ (v3 + 1) < 0 ∧ (v3 + 1 : Int32).toNatClampNeg < gz h382 a0) <|
        ck_as ((gk h382 a0 = 14 ∨ gk h382 a0 = 21) ∧ ¬ (v3 + 2) < 0 ∧ (v3 + 2 : Int32).toNatClampNeg < gz h382 a0) <|
        ck_as (gk h382 a2 = 12) <|
        ck_bd (f_RM_opened F a2 (gI h382 a0 (v3 + 1 : Int32).toNatClampNeg) (gI h382 a0 (v3 + 2 : Int32).toNatClampNeg) h382) fun r387 h388 =>
        if r381 = r387 then
          f_Lw_law_L18 F n a0 a1 a2 (v3 + 6) h388
        else
          some (0, h388)
      else
        f_Lw_law_L18 F n a0 a1 a2 (v3 + 6) h
set_option maxRecDepth 100000 in
set_option maxHeartbeats 4000000 in
theorem f_Lw_law_L18_s (F : Nat)   : ∀ (n : Nat) (a0 : Nat) (a1 : Nat) (a2 : Nat) (v3 : Int32) (h : ck_H) (r : Int32) (h' : ck_H), f_Lw_law_L18 F n a0 a1 a2 v3 h = some (r, h') → Go k_Lw_law 18 [some (.ref a0), some (.ref a1), some (.ref a2), some (.int v3)] [] h (some (.int r), h') := by
  intro n
  induction n with
  | zero => intro a0 a1 a2 v3 h r h' e; simp only [f_Lw_law_L18] at e; cases e
  | succ n ih =>
    intro a0 a1 a2 v3 h r h' e
    rw [f_Lw_law_L18] at e
    refine go_iload_n rfl rfl ?_
    refine go_aload_n rfl rfl ?_
    replace e := ck_as_e e
    obtain ⟨hc_1, e⟩ := e
    refine go_alen rfl hc_1 ?_
    refine go_bipush (v := 6) rfl (by decide) ?_
    refine go_isub rfl ?_
    refine go_icmp_gt (t := 1081) rfl rfl (fun hx_2 => ?_) (fun hx_2 => ?_)
    · rw [if_pos hx_2] at e
      refine go_iconst (v := 1) rfl (by decide) ?_
      cases e
      exact go_ret rfl (ck_rvb rfl (Or.inr rfl))
    · rw [if_neg hx_2] at e
      refine go_aload_n rfl rfl ?_
      refine go_iload_n rfl rfl ?_
      replace e := ck_as_e e
      obtain ⟨hc_3, e⟩ := e
      refine go_iald rfl hc_3 ?_
      refine go_bipush (v := 31) rfl (by decide) ?_
      refine go_iand rfl ?_
      by_cases hx_4 : ((gI h a0 (v3 : Int32).toNatClampNeg) &&& 31) = 0
      · rw [if_pos hx_4] at e
        refine go_tswI (off := 135) (t := 168) rfl (by rw [hx_4]; decide) (by rw [hx_4]; rfl) rfl ?_
        refine go_aload_n rfl rfl ?_
        refine go_aload_n rfl rfl ?_
        refine go_iload_n rfl rfl ?_
        refine go_iconst (v := 1) rfl (by decide) ?_
        refine go_iadd rfl ?_
        replace e := ck_as_e e
        obtain ⟨hc_5, e⟩ := e
        refine go_iald rfl hc_5 ?_
        refine go_aload_n rfl rfl ?_
        refine go_iload_n rfl rfl ?_
        refine go_iconst (v := 2) rfl (by decide) ?_
        refine go_iadd rfl ?_
        replace e := ck_as_e e
        obtain ⟨hc_6, e⟩ := e
        refine go_iald rfl hc_6 ?_
        refine go_aload_n rfl rfl ?_
        refine go_iload_n rfl rfl ?_
        refine go_iconst (v := 3) rfl (by decide) ?_
        refine go_iadd rfl ?_
        replace e := ck_as_e e
        obtain ⟨hc_7, e⟩ := e
        refine go_iald rfl hc_7 ?_
        refine go_aload_n rfl rfl ?_
        refine go_iload_n rfl rfl ?_
        refine go_iconst (v := 4) rfl (by decide) ?_
        refine go_iadd rfl ?_
        replace e := ck_as_e e
        obtain ⟨hc_8, e⟩ := e
        refine go_iald rfl hc_8 ?_
        refine go_aload_n rfl rfl ?_
        refine go_iload_n rfl rfl ?_
        refine go_iconst (v := 5) rfl (by decide) ?_
        refine go_iadd rfl ?_
        replace e := ck_as_e e
        obtain ⟨hc_9, e⟩ := e
        refine go_iald rfl hc_9 ?_
        replace e := ck_as_e e
        obtain ⟨hk_10, e⟩ := e
        replace e := ck_bd_e e
        obtain ⟨r11, h12, e13, e⟩ := e
        refine go_callV (As := [.int (gI h a0 (v3 + 1 : Int32).toNatClampNeg), .int (gI h a0 (v3 + 2 : Int32).toNatClampNeg), .int (gI h a0 (v3 + 3 : Int32).toNatClampNeg), .int (gI h a0 (v3 + 4 : Int32).toNatClampNeg), .int (gI h a0 (v3 + 5 : Int32).toNatClampNeg)]) (b0 := a1) (rest := []) rfl rfl ⟨hk_10, by decide⟩ rfl ⟨Nat.le_of_ble_eq_true rfl, Nat.le_of_ble_eq_true rfl, Nat.le_of_ble_eq_true rfl, Nat.le_of_ble_eq_true rfl⟩ (s_CS_feed e13) ?_
        show Go k_Lw_law 197 [some (.ref a0), some (.ref a1), some (.ref a2), some (.int v3)] [.int r11] h12 _
        refine go_aload_n rfl rfl ?_
        refine go_aload_n rfl rfl ?_
        refine go_iload_n rfl rfl ?_
        refine go_iconst (v := 1) rfl (by decide) ?_
        refine go_iadd rfl ?_
        replace e := ck_as_e e
        obtain ⟨hc_14, e⟩ := e
        refine go_iald rfl hc_14 ?_
        refine go_aload_n rfl rfl ?_
        refine go_iload_n rfl rfl ?_
        refine go_iconst (v := 2) rfl (by decide) ?_
        refine go_iadd rfl ?_
        replace e := ck_as_e e
        obtain ⟨hc_15, e⟩ := e
        refine go_iald rfl hc_15 ?_
        refine go_aload_n rfl rfl ?_
        refine go_iload_n rfl rfl ?_
        refine go_iconst (v := 3) rfl (by decide) ?_
        refine go_iadd rfl ?_
        replace e := ck_as_e e
        obtain ⟨hc_16, e⟩ := e
        refine go_iald rfl hc_16 ?_
        refine go_aload_n rfl rfl ?_
        refine go_iload_n rfl rfl ?_
        refine go_iconst (v := 4) rfl (by decide) ?_
        refine go_iadd rfl ?_
        replace e := ck_as_e e
        obtain ⟨hc_17, e⟩ := e
        refine go_iald rfl hc_17 ?_
        refine go_aload_n rfl rfl ?_
        refine go_iload_n rfl rfl ?_
        refine go_iconst (v := 5) rfl (by decide) ?_
        refine go_iadd rfl ?_
        replace e := ck_as_e e
        obtain ⟨hc_18, e⟩ := e
        refine go_iald rfl hc_18 ?_
        replace e := ck_as_e e
        obtain ⟨hk_19, e⟩ := e
        replace e := ck_bd_e e
        obtain ⟨r20, h21, e22, e⟩ := e
        refine go_callV (As := [.int (gI h12 a0 (v3 + 1 : Int32).toNatClampNeg), .int (gI h12 a0 (v3 + 2 : Int32).toNatClampNeg), .int (gI h12 a0 (v3 + 3 : Int32).toNatClampNeg), .int (gI h12 a0 (v3 + 4 : Int32).toNatClampNeg), .int (gI h12 a0 (v3 + 5 : Int32).toNatClampNeg)]) (b0 := a2) (rest := [.int r11]) rfl rfl ⟨hk_19, by decide⟩ rfl ⟨Nat.le_of_ble_eq_true rfl, Nat.le_of_ble_eq_true rfl, Nat.le_of_ble_eq_true rfl, Nat.le_of_ble_eq_true rfl⟩ (s_RM_feed e22) ?_
        show Go k_Lw_law 226 [some (.ref a0), some (.ref a1), some (.ref a2), some (.int v3)] [.int r20, .int r11] h21 _
        refine go_icmp_eq (t := 1075) rfl rfl (fun hx_23 => ?_) (fun hx_23 => ?_)
        · rw [if_pos hx_23] at e
          refine go_iinc (v := 6) rfl rfl (by decide) rfl ?_
          show Go k_Lw_law 1078 [some (.ref a0), some (.ref a1), some (.ref a2), some (.int (v3 + 6))] [] h21 _
          refine go_goto (t := 18) rfl rfl ?_
          refine go_forget (l := [some (.ref a0), some (.ref a1), some (.ref a2), some (.int (v3 + 6))]) ⟨Or.inl rfl, Or.inl rfl, Or.inl rfl, Or.inl rfl, trivial⟩ ?_
          exact ih _ _ _ _ _ _ _ e
        · rw [if_neg hx_23] at e
          refine go_iconst (v := 0) rfl (by decide) ?_
          cases e
          exact go_ret rfl (ck_rvb rfl (Or.inl rfl))
      rw [if_neg hx_4] at e
      by_cases hx_24 : ((gI h a0 (v3 : Int32).toNatClampNeg) &&& 31) = 1
      · rw [if_pos hx_24] at e
        refine go_tswI (off := 198) (t := 231) rfl (by rw [hx_24]; decide) (by rw [hx_24]; rfl) rfl ?_
        refine go_aload_n rfl rfl ?_
        refine go_aload_n rfl rfl ?_
        refine go_iload_n rfl rfl ?_
        refine go_iconst (v := 1) rfl (by decide) ?_
        refine go_iadd rfl ?_
        replace e := ck_as_e e
        obtain ⟨hc_25, e⟩ := e
        refine go_iald rfl hc_25 ?_
        replace e := ck_as_e e
        obtain ⟨hk_26, e⟩ := e
        replace e := ck_bd_e e
        obtain ⟨r27, h28, e29, e⟩ := e
        refine go_callV (As := [.int (gI h a0 (v3 + 1 : Int32).toNatClampNeg)]) (b0 := a1) (rest := []) rfl rfl ⟨hk_26, by decide⟩ rfl ⟨Nat.le_of_ble_eq_true rfl, Nat.le_of_ble_eq_true rfl, Nat.le_of_ble_eq_true rfl, Nat.le_of_ble_eq_true rfl⟩ (s_CS_end e29) ?_
        show Go k_Lw_law 240 [some (.ref a0), some (.ref a1), some (.ref a2), some (.int v3)] [.int r27] h28 _
        refine go_aload_n rfl rfl ?_
        refine go_aload_n rfl rfl ?_
        refine go_iload_n rfl rfl ?_
        refine go_iconst (v := 1) rfl (by decide) ?_
        refine go_iadd rfl ?_
        replace e := ck_as_e e
        obtain ⟨hc_30, e⟩ := e
        refine go_iald rfl hc_30 ?_
        replace e := ck_as_e e
        obtain ⟨hk_31, e⟩ := e
        replace e := ck_bd_e e
        obtain ⟨r32, h33, e34, e⟩ := e
        refine go_callV (As := [.int (gI h28 a0 (v3 + 1 : Int32).toNatClampNeg)]) (b0 := a2) (rest := [.int r27]) rfl rfl ⟨hk_31, by decide⟩ rfl ⟨Nat.le_of_ble_eq_true rfl, Nat.le_of_ble_eq_true rfl, Nat.le_of_ble_eq_true rfl, Nat.le_of_ble_eq_true rfl⟩ (s_RM_end e34) ?_
        show Go k_Lw_law 249 [some (.ref a0), some (.ref a1), some (.ref a2), some (.int v3)] [.int r32, .int r27] h33 _
        refine go_icmp_eq (t := 1075) rfl rfl (fun hx_35 => ?_) (fun hx_35 => ?_)
        · rw [if_pos hx_35] at e
          refine go_iinc (v := 6) rfl rfl (by decide) rfl ?_
          show Go k_Lw_law 1078 [some (.ref a0), some (.ref a1), some (.ref a2), some (.int (v3 + 6))] [] h33 _
          refine go_goto (t := 18) rfl rfl ?_
          refine go_forget (l := [some (.ref a0), some (.ref a1), some (.ref a2), some (.int (v3 + 6))]) ⟨Or.inl rfl, Or.inl rfl, Or.inl rfl, Or.inl rfl, trivial⟩ ?_
          exact ih _ _ _ _ _ _ _ e
        · rw [if_neg hx_35] at e
          refine go_iconst (v := 0) rfl (by decide) ?_
          cases e
          exact go_ret rfl (ck_rvb rfl (Or.inl rfl))
      rw [if_neg hx_24] at e
      by_cases hx_36 : ((gI h a0 (v3 : Int32).toNatClampNeg) &&& 31) = 2
      · rw [if_pos hx_36] at e
        refine go_tswI (off := 221) (t := 254) rfl (by rw [hx_36]; decide) (by rw [hx_36]; rfl) rfl ?_
        refine go_aload_n rfl rfl ?_
        refine go_aload_n rfl rfl ?_
        refine go_iload_n rfl rfl ?_
        refine go_iconst (v := 1) rfl (by decide) ?_
        refine go_iadd rfl ?_
        replace e := ck_as_e e
        obtain ⟨hc_37, e⟩ := e
        refine go_iald rfl hc_37 ?_
        replace e := ck_as_e e
        obtain ⟨hk_38, e⟩ := e
        replace e := ck_bd_e e
        obtain ⟨r39, h40, e41, e⟩ := e
        refine go_callV (As := [.int (gI h a0 (v3 + 1 : Int32).toNatClampNeg)]) (b0 := a1) (rest := []) rfl rfl ⟨hk_38, by decide⟩ rfl ⟨Nat.le_of_ble_eq_true rfl, Nat.le_of_ble_eq_true rfl, Nat.le_of_ble_eq_true rfl, Nat.le_of_ble_eq_true rfl⟩ (s_CS_out e41) ?_
        show Go k_Lw_law 263 [some (.ref a0), some (.ref a1), some (.ref a2), some (.int v3)] [.int r39] h40 _
        refine go_aload_n rfl rfl ?_
        refine go_aload_n rfl rfl ?_
        refine go_iload_n rfl rfl ?_
        refine go_iconst (v := 1) rfl (by decide) ?_
        refine go_iadd rfl ?_
        replace e := ck_as_e e
        obtain ⟨hc_42, e⟩ := e
        refine go_iald rfl hc_42 ?_
        replace e := ck_as_e e
        obtain ⟨hk_43, e⟩ := e
        replace e := ck_bd_e e
        obtain ⟨r44, h45, e46, e⟩ := e
        refine go_callV (As := [.int (gI h40 a0 (v3 + 1 : Int32).toNatClampNeg)]) (b0 := a2) (rest := [.int r39]) rfl rfl ⟨hk_43, by decide⟩ rfl ⟨Nat.le_of_ble_eq_true rfl, Nat.le_of_ble_eq_true rfl, Nat.le_of_ble_eq_true rfl, Nat.le_of_ble_eq_true rfl⟩ (s_RM_out e46) ?_
        show Go k_Lw_law 272 [some (.ref a0), some (.ref a1), some (.ref a2), some (.int v3)] [.int r44, .int r39] h45 _
        refine go_icmp_eq (t := 1075) rfl rfl (fun hx_47 => ?_) (fun hx_47 => ?_)
        · rw [if_pos hx_47] at e
          refine go_iinc (v := 6) rfl rfl (by decide) rfl ?_
          show Go k_Lw_law 1078 [some (.ref a0), some (.ref a1), some (.ref a2), some (.int (v3 + 6))] [] h45 _
          refine go_goto (t := 18) rfl rfl ?_
          refine go_forget (l := [some (.ref a0), some (.ref a1), some (.ref a2), some (.int (v3 + 6))]) ⟨Or.inl rfl, Or.inl rfl, Or.inl rfl, Or.inl rfl, trivial⟩ ?_
          exact ih _ _ _ _ _ _ _ e
        · rw [if_neg hx_47] at e
          refine go_iconst (v := 0) rfl (by decide) ?_
          cases e
          exact go_ret rfl (ck_rvb rfl (Or.inl rfl))
      rw [if_neg hx_36] at e
      by_cases hx_48 : ((gI h a0 (v3 : Int32).toNatClampNeg) &&& 31) = 3
      · rw [if_pos hx_48] at e
        refine go_tswI (off := 244) (t := 277) rfl (by rw [hx_48]; decide) (by rw [hx_48]; rfl) rfl ?_
        refine go_aload_n rfl rfl ?_
        refine go_aload_n rfl rfl ?_
        refine go_iload_n rfl rfl ?_
        refine go_iconst (v := 1) rfl (by decide) ?_
        refine go_iadd rfl ?_
        replace e := ck_as_e e
        obtain ⟨hc_49, e⟩ := e
        refine go_iald rfl hc_49 ?_
        refine go_aload_n rfl rfl ?_
        refine go_iload_n rfl rfl ?_
        refine go_iconst (v := 2) rfl (by decide) ?_
        refine go_iadd rfl ?_
        replace e := ck_as_e e
        obtain ⟨hc_50, e⟩ := e
        refine go_iald rfl hc_50 ?_
        refine go_aload_n rfl rfl ?_
        refine go_iload_n rfl rfl ?_
        refine go_iconst (v := 3) rfl (by decide) ?_
        refine go_iadd rfl ?_
        replace e := ck_as_e e
        obtain ⟨hc_51, e⟩ := e
        refine go_iald rfl hc_51 ?_
        refine go_aload_n rfl rfl ?_
        refine go_iload_n rfl rfl ?_
        refine go_iconst (v := 4) rfl (by decide) ?_
        refine go_iadd rfl ?_
        replace e := ck_as_e e
        obtain ⟨hc_52, e⟩ := e
        refine go_iald rfl hc_52 ?_
        refine go_aload_n rfl rfl ?_
        refine go_iload_n rfl rfl ?_
        refine go_iconst (v := 5) rfl (by decide) ?_
        refine go_iadd rfl ?_
        replace e := ck_as_e e
        obtain ⟨hc_53, e⟩ := e
        refine go_iald rfl hc_53 ?_
        replace e := ck_as_e e
        obtain ⟨hk_54, e⟩ := e
        replace e := ck_bd_e e
        obtain ⟨r55, h56, e57, e⟩ := e
        refine go_callV (As := [.int (gI h a0 (v3 + 1 : Int32).toNatClampNeg), .int (gI h a0 (v3 + 2 : Int32).toNatClampNeg), .int (gI h a0 (v3 + 3 : Int32).toNatClampNeg), .int (gI h a0 (v3 + 4 : Int32).toNatClampNeg), .int (gI h a0 (v3 + 5 : Int32).toNatClampNeg)]) (b0 := a1) (rest := []) rfl rfl ⟨hk_54, by decide⟩ rfl ⟨Nat.le_of_ble_eq_true rfl, Nat.le_of_ble_eq_true rfl, Nat.le_of_ble_eq_true rfl, Nat.le_of_ble_eq_true rfl⟩ (s_CS_command e57) ?_
        show Go k_Lw_law 306 [some (.ref a0), some (.ref a1), some (.ref a2), some (.int v3)] [.int r55] h56 _
        refine go_aload_n rfl rfl ?_
        refine go_aload_n rfl rfl ?_
        refine go_iload_n rfl rfl ?_
        refine go_iconst (v := 1) rfl (by decide) ?_
        refine go_iadd rfl ?_
        replace e := ck_as_e e
        obtain ⟨hc_58, e⟩ := e
        refine go_iald rfl hc_58 ?_
        refine go_aload_n rfl rfl ?_
        refine go_iload_n rfl rfl ?_
        refine go_iconst (v := 2) rfl (by decide) ?_
        refine go_iadd rfl ?_
        replace e := ck_as_e e
        obtain ⟨hc_59, e⟩ := e
        refine go_iald rfl hc_59 ?_
        refine go_aload_n rfl rfl ?_
        refine go_iload_n rfl rfl ?_
        refine go_iconst (v := 3) rfl (by decide) ?_
        refine go_iadd rfl ?_
        replace e := ck_as_e e
        obtain ⟨hc_60, e⟩ := e
        refine go_iald rfl hc_60 ?_
        refine go_aload_n rfl rfl ?_
        refine go_iload_n rfl rfl ?_
        refine go_iconst (v := 4) rfl (by decide) ?_
        refine go_iadd rfl ?_
        replace e := ck_as_e e
        obtain ⟨hc_61, e⟩ := e
        refine go_iald rfl hc_61 ?_
        refine go_aload_n rfl rfl ?_
        refine go_iload_n rfl rfl ?_
        refine go_iconst (v := 5) rfl (by decide) ?_
        refine go_iadd rfl ?_
        replace e := ck_as_e e
        obtain ⟨hc_62, e⟩ := e
        refine go_iald rfl hc_62 ?_
        replace e := ck_as_e e
        obtain ⟨hk_63, e⟩ := e
        replace e := ck_bd_e e
        obtain ⟨r64, h65, e66, e⟩ := e
        refine go_callV (As := [.int (gI h56 a0 (v3 + 1 : Int32).toNatClampNeg), .int (gI h56 a0 (v3 + 2 : Int32).toNatClampNeg), .int (gI h56 a0 (v3 + 3 : Int32).toNatClampNeg), .int (gI h56 a0 (v3 + 4 : Int32).toNatClampNeg), .int (gI h56 a0 (v3 + 5 : Int32).toNatClampNeg)]) (b0 := a2) (rest := [.int r55]) rfl rfl ⟨hk_63, by decide⟩ rfl ⟨Nat.le_of_ble_eq_true rfl, Nat.le_of_ble_eq_true rfl, Nat.le_of_ble_eq_true rfl, Nat.le_of_ble_eq_true rfl⟩ (s_RM_command e66) ?_
        show Go k_Lw_law 335 [some (.ref a0), some (.ref a1), some (.ref a2), some (.int v3)] [.int r64, .int r55] h65 _
        refine go_icmp_eq (t := 1075) rfl rfl (fun hx_67 => ?_) (fun hx_67 => ?_)
        · rw [if_pos hx_67] at e
          refine go_iinc (v := 6) rfl rfl (by decide) rfl ?_
          show Go k_Lw_law 1078 [some (.ref a0), some (.ref a1), some (.ref a2), some (.int (v3 + 6))] [] h65 _
          refine go_goto (t := 18) rfl rfl ?_
          refine go_forget (l := [some (.ref a0), some (.ref a1), some (.ref a2), some (.int (v3 + 6))]) ⟨Or.inl rfl, Or.inl rfl, Or.inl rfl, Or.inl rfl, trivial⟩ ?_
          exact ih _ _ _ _ _ _ _ e
        · rw [if_neg hx_67] at e
          refine go_iconst (v := 0) rfl (by decide) ?_
          cases e
          exact go_ret rfl (ck_rvb rfl (Or.inl rfl))
      rw [if_neg hx_48] at e
      by_cases hx_68 : ((gI h a0 (v3 : Int32).toNatClampNeg) &&& 31) = 4
      · rw [if_pos hx_68] at e
        refine go_tswI (off := 307) (t := 340) rfl (by rw [hx_68]; decide) (by rw [hx_68]; rfl) rfl ?_
        refine go_aload_n rfl rfl ?_
        refine go_aload_n rfl rfl ?_
        refine go_iload_n rfl rfl ?_
        refine go_iconst (v := 1) rfl (by decide) ?_
        refine go_iadd rfl ?_
        replace e := ck_as_e e
        obtain ⟨hc_69, e⟩ := e
        refine go_iald rfl hc_69 ?_
        replace e := ck_as_e e
        obtain ⟨hk_70, e⟩ := e
        replace e := ck_bd_e e
        obtain ⟨r71, h72, e73, e⟩ := e
        refine go_callV (As := [.int (gI h a0 (v3 + 1 : Int32).toNatClampNeg)]) (b0 := a1) (rest := []) rfl rfl ⟨hk_70, by decide⟩ rfl ⟨Nat.le_of_ble_eq_true rfl, Nat.le_of_ble_eq_true rfl, Nat.le_of_ble_eq_true rfl, Nat.le_of_ble_eq_true rfl⟩ (s_CS_memory e73) ?_
        show Go k_Lw_law 349 [some (.ref a0), some (.ref a1), some (.ref a2), some (.int v3)] [.int r71] h72 _
        refine go_aload_n rfl rfl ?_
        refine go_aload_n rfl rfl ?_
        refine go_iload_n rfl rfl ?_
        refine go_iconst (v := 1) rfl (by decide) ?_
        refine go_iadd rfl ?_
        replace e := ck_as_e e
        obtain ⟨hc_74, e⟩ := e
        refine go_iald rfl hc_74 ?_
        replace e := ck_as_e e
        obtain ⟨hk_75, e⟩ := e
        replace e := ck_bd_e e
        obtain ⟨r76, h77, e78, e⟩ := e
        refine go_callV (As := [.int (gI h72 a0 (v3 + 1 : Int32).toNatClampNeg)]) (b0 := a2) (rest := [.int r71]) rfl rfl ⟨hk_75, by decide⟩ rfl ⟨Nat.le_of_ble_eq_true rfl, Nat.le_of_ble_eq_true rfl, Nat.le_of_ble_eq_true rfl, Nat.le_of_ble_eq_true rfl⟩ (s_RM_memory e78) ?_
        show Go k_Lw_law 358 [some (.ref a0), some (.ref a1), some (.ref a2), some (.int v3)] [.int r76, .int r71] h77 _
        refine go_icmp_eq (t := 1075) rfl rfl (fun hx_79 => ?_) (fun hx_79 => ?_)
        · rw [if_pos hx_79] at e
          refine go_iinc (v := 6) rfl rfl (by decide) rfl ?_
          show Go k_Lw_law 1078 [some (.ref a0), some (.ref a1), some (.ref a2), some (.int (v3 + 6))] [] h77 _
          refine go_goto (t := 18) rfl rfl ?_
          refine go_forget (l := [some (.ref a0), some (.ref a1), some (.ref a2), some (.int (v3 + 6))]) ⟨Or.inl rfl, Or.inl rfl, Or.inl rfl, Or.inl rfl, trivial⟩ ?_
          exact ih _ _ _ _ _ _ _ e
        · rw [if_neg hx_79] at e
          refine go_iconst (v := 0) rfl (by decide) ?_
          cases e
          exact go_ret rfl (ck_rvb rfl (Or.inl rfl))
      rw [if_neg hx_68] at e
      by_cases hx_80 : ((gI h a0 (v3 : Int32).toNatClampNeg) &&& 31) = 5
      · rw [if_pos hx_80] at e
        refine go_tswI (off := 330) (t := 363) rfl (by rw [hx_80]; decide) (by rw [hx_80]; rfl) rfl ?_
        refine go_aload_n rfl rfl ?_
        refine go_aload_n rfl rfl ?_
        refine go_iload_n rfl rfl ?_
        refine go_iconst (v := 1) rfl (by decide) ?_
        refine go_iadd rfl ?_
        replace e := ck_as_e e
        obtain ⟨hc_81, e⟩ := e
        refine go_iald rfl hc_81 ?_
        replace e := ck_as_e e
        obtain ⟨hk_82, e⟩ := e
        replace e := ck_bd_e e
        obtain ⟨r83, h84, e85, e⟩ := e
        refine go_callV (As := [.int (gI h a0 (v3 + 1 : Int32).toNatClampNeg)]) (b0 := a1) (rest := []) rfl rfl ⟨hk_82, by decide⟩ rfl ⟨Nat.le_of_ble_eq_true rfl, Nat.le_of_ble_eq_true rfl, Nat.le_of_ble_eq_true rfl, Nat.le_of_ble_eq_true rfl⟩ (s_CS_poke e85) ?_
        show Go k_Lw_law 372 [some (.ref a0), some (.ref a1), some (.ref a2), some (.int v3)] [.int r83] h84 _
        refine go_aload_n rfl rfl ?_
        refine go_aload_n rfl rfl ?_
        refine go_iload_n rfl rfl ?_
        refine go_iconst (v := 1) rfl (by decide) ?_
        refine go_iadd rfl ?_
        replace e := ck_as_e e
        obtain ⟨hc_86, e⟩ := e
        refine go_iald rfl hc_86 ?_
        replace e := ck_as_e e
        obtain ⟨hk_87, e⟩ := e
        replace e := ck_bd_e e
        obtain ⟨r88, h89, e90, e⟩ := e
        refine go_callV (As := [.int (gI h84 a0 (v3 + 1 : Int32).toNatClampNeg)]) (b0 := a2) (rest := [.int r83]) rfl rfl ⟨hk_87, by decide⟩ rfl ⟨Nat.le_of_ble_eq_true rfl, Nat.le_of_ble_eq_true rfl, Nat.le_of_ble_eq_true rfl, Nat.le_of_ble_eq_true rfl⟩ (s_RM_poke e90) ?_
        show Go k_Lw_law 381 [some (.ref a0), some (.ref a1), some (.ref a2), some (.int v3)] [.int r88, .int r83] h89 _
        refine go_icmp_eq (t := 1075) rfl rfl (fun hx_91 => ?_) (fun hx_91 => ?_)
        · rw [if_pos hx_91] at e
          refine go_iinc (v := 6) rfl rfl (by decide) rfl ?_
          show Go k_Lw_law 1078 [some (.ref a0), some (.ref a1), some (.ref a2), some (.int (v3 + 6))] [] h89 _
          refine go_goto (t := 18) rfl rfl ?_
          refine go_forget (l := [some (.ref a0), some (.ref a1), some (.ref a2), some (.int (v3 + 6))]) ⟨Or.inl rfl, Or.inl rfl, Or.inl rfl, Or.inl rfl, trivial⟩ ?_
          exact ih _ _ _ _ _ _ _ e
        · rw [if_neg hx_91] at e
          refine go_iconst (v := 0) rfl (by decide) ?_
          cases e
          exact go_ret rfl (ck_rvb rfl (Or.inl rfl))
      rw [if_neg hx_80] at e
      by_cases hx_92 : ((gI h a0 (v3 : Int32).toNatClampNeg) &&& 31) = 6
      · rw [if_pos hx_92] at e
        refine go_tswI (off := 353) (t := 386) rfl (by rw [hx_92]; decide) (by rw [hx_92]; rfl) rfl ?_
        refine go_aload_n rfl rfl ?_
        refine go_aload_n rfl rfl ?_
        refine go_iload_n rfl rfl ?_
        refine go_iconst (v := 1) rfl (by decide) ?_
        refine go_iadd rfl ?_
        replace e := ck_as_e e
        obtain ⟨hc_93, e⟩ := e
        refine go_iald rfl hc_93 ?_
        replace e := ck_as_e e
        obtain ⟨hk_94, e⟩ := e
        replace e := ck_bd_e e
        obtain ⟨r95, h96, e97, e⟩ := e
        refine go_callV (As := [.int (gI h a0 (v3 + 1 : Int32).toNatClampNeg)]) (b0 := a1) (rest := []) rfl rfl ⟨hk_94, by decide⟩ rfl ⟨Nat.le_of_ble_eq_true rfl, Nat.le_of_ble_eq_true rfl, Nat.le_of_ble_eq_true rfl, Nat.le_of_ble_eq_true rfl⟩ (s_CS_start e97) ?_
        show Go k_Lw_law 395 [some (.ref a0), some (.ref a1), some (.ref a2), some (.int v3)] [.int r95] h96 _
        refine go_aload_n rfl rfl ?_
        refine go_aload_n rfl rfl ?_
        refine go_iload_n rfl rfl ?_
        refine go_iconst (v := 1) rfl (by decide) ?_
        refine go_iadd rfl ?_
        replace e := ck_as_e e
        obtain ⟨hc_98, e⟩ := e
        refine go_iald rfl hc_98 ?_
        replace e := ck_as_e e
        obtain ⟨hk_99, e⟩ := e
        replace e := ck_bd_e e
        obtain ⟨r100, h101, e102, e⟩ := e
        refine go_callV (As := [.int (gI h96 a0 (v3 + 1 : Int32).toNatClampNeg)]) (b0 := a2) (rest := [.int r95]) rfl rfl ⟨hk_99, by decide⟩ rfl ⟨Nat.le_of_ble_eq_true rfl, Nat.le_of_ble_eq_true rfl, Nat.le_of_ble_eq_true rfl, Nat.le_of_ble_eq_true rfl⟩ (s_RM_start e102) ?_
        show Go k_Lw_law 404 [some (.ref a0), some (.ref a1), some (.ref a2), some (.int v3)] [.int r100, .int r95] h101 _
        refine go_icmp_eq (t := 1075) rfl rfl (fun hx_103 => ?_) (fun hx_103 => ?_)
        · rw [if_pos hx_103] at e
          refine go_iinc (v := 6) rfl rfl (by decide) rfl ?_
          show Go k_Lw_law 1078 [some (.ref a0), some (.ref a1), some (.ref a2), some (.int (v3 + 6))] [] h101 _
          refine go_goto (t := 18) rfl rfl ?_
          refine go_forget (l := [some (.ref a0), some (.ref a1), some (.ref a2), some (.int (v3 + 6))]) ⟨Or.inl rfl, Or.inl rfl, Or.inl rfl, Or.inl rfl, trivial⟩ ?_
          exact ih _ _ _ _ _ _ _ e
        · rw [if_neg hx_103] at e
          refine go_iconst (v := 0) rfl (by decide) ?_
          cases e
          exact go_ret rfl (ck_rvb rfl (Or.inl rfl))
      rw [if_neg hx_92] at e
      by_cases hx_104 : ((gI h a0 (v3 : Int32).toNatClampNeg) &&& 31) = 7
      · rw [if_pos hx_104] at e
        refine go_tswI (off := 376) (t := 409) rfl (by rw [hx_104]; decide) (by rw [hx_104]; rfl) rfl ?_
        refine go_aload_n rfl rfl ?_
        refine go_aload_n rfl rfl ?_
        refine go_iload_n rfl rfl ?_
        refine go_iconst (v := 1) rfl (by decide) ?_
        refine go_iadd rfl ?_
        replace e := ck_as_e e
        obtain ⟨hc_105, e⟩ := e
        refine go_iald rfl hc_105 ?_
        replace e := ck_as_e e
        obtain ⟨hk_106, e⟩ := e
        replace e := ck_bd_e e
        obtain ⟨r107, h108, e109, e⟩ := e
        refine go_callV (As := [.int (gI h a0 (v3 + 1 : Int32).toNatClampNeg)]) (b0 := a1) (rest := []) rfl rfl ⟨hk_106, by decide⟩ rfl ⟨Nat.le_of_ble_eq_true rfl, Nat.le_of_ble_eq_true rfl, Nat.le_of_ble_eq_true rfl, Nat.le_of_ble_eq_true rfl⟩ (s_CS_status e109) ?_
        show Go k_Lw_law 418 [some (.ref a0), some (.ref a1), some (.ref a2), some (.int v3)] [.int r107] h108 _
        refine go_aload_n rfl rfl ?_
        refine go_aload_n rfl rfl ?_
        refine go_iload_n rfl rfl ?_
        refine go_iconst (v := 1) rfl (by decide) ?_
        refine go_iadd rfl ?_
        replace e := ck_as_e e
        obtain ⟨hc_110, e⟩ := e
        refine go_iald rfl hc_110 ?_
        replace e := ck_as_e e
        obtain ⟨hk_111, e⟩ := e
        replace e := ck_bd_e e
        obtain ⟨r112, h113, e114, e⟩ := e
        refine go_callV (As := [.int (gI h108 a0 (v3 + 1 : Int32).toNatClampNeg)]) (b0 := a2) (rest := [.int r107]) rfl rfl ⟨hk_111, by decide⟩ rfl ⟨Nat.le_of_ble_eq_true rfl, Nat.le_of_ble_eq_true rfl, Nat.le_of_ble_eq_true rfl, Nat.le_of_ble_eq_true rfl⟩ (s_RM_status e114) ?_
        show Go k_Lw_law 427 [some (.ref a0), some (.ref a1), some (.ref a2), some (.int v3)] [.int r112, .int r107] h113 _
        refine go_icmp_eq (t := 1075) rfl rfl (fun hx_115 => ?_) (fun hx_115 => ?_)
        · rw [if_pos hx_115] at e
          refine go_iinc (v := 6) rfl rfl (by decide) rfl ?_
          show Go k_Lw_law 1078 [some (.ref a0), some (.ref a1), some (.ref a2), some (.int (v3 + 6))] [] h113 _
          refine go_goto (t := 18) rfl rfl ?_
          refine go_forget (l := [some (.ref a0), some (.ref a1), some (.ref a2), some (.int (v3 + 6))]) ⟨Or.inl rfl, Or.inl rfl, Or.inl rfl, Or.inl rfl, trivial⟩ ?_
          exact ih _ _ _ _ _ _ _ e
        · rw [if_neg hx_115] at e
          refine go_iconst (v := 0) rfl (by decide) ?_
          cases e
          exact go_ret rfl (ck_rvb rfl (Or.inl rfl))
      rw [if_neg hx_104] at e
      by_cases hx_116 : ((gI h a0 (v3 : Int32).toNatClampNeg) &&& 31) = 8
      · rw [if_pos hx_116] at e
        refine go_tswI (off := 399) (t := 432) rfl (by rw [hx_116]; decide) (by rw [hx_116]; rfl) rfl ?_
        refine go_aload_n rfl rfl ?_
        replace e := ck_as_e e
        obtain ⟨hk_117, e⟩ := e
        replace e := ck_bd_e e
        obtain ⟨r118, h119, e120, e⟩ := e
        refine go_callV (As := []) (b0 := a1) (rest := []) rfl rfl ⟨hk_117, by decide⟩ rfl ⟨Nat.le_of_ble_eq_true rfl, Nat.le_of_ble_eq_true rfl, Nat.le_of_ble_eq_true rfl, Nat.le_of_ble_eq_true rfl⟩ (s_CS_time e120) ?_
        show Go k_Lw_law 436 [some (.ref a0), some (.ref a1), some (.ref a2), some (.int v3)] [.long r118] h119 _
        refine go_aload_n rfl rfl ?_
        replace e := ck_as_e e
        obtain ⟨hk_121, e⟩ := e
        replace e := ck_bd_e e
        obtain ⟨r122, h123, e124, e⟩ := e
        refine go_callV (As := []) (b0 := a2) (rest := [.long r118]) rfl rfl ⟨hk_121, by decide⟩ rfl ⟨Nat.le_of_ble_eq_true rfl, Nat.le_of_ble_eq_true rfl, Nat.le_of_ble_eq_true rfl, Nat.le_of_ble_eq_true rfl⟩ (s_RM_time e124) ?_
        show Go k_Lw_law 440 [some (.ref a0), some (.ref a1), some (.ref a2), some (.int v3)] [.long r122, .long r118] h123 _
        refine go_lcmp rfl ?_
        refine go_if_eq (t := 1075) rfl rfl (fun hx_125 => ?_) (fun hx_125 => ?_)
        · rw [if_pos hx_125] at e
          refine go_iinc (v := 6) rfl rfl (by decide) rfl ?_
          show Go k_Lw_law 1078 [some (.ref a0), some (.ref a1), some (.ref a2), some (.int (v3 + 6))] [] h123 _
          refine go_goto (t := 18) rfl rfl ?_
          refine go_forget (l := [some (.ref a0), some (.ref a1), some (.ref a2), some (.int (v3 + 6))]) ⟨Or.inl rfl, Or.inl rfl, Or.inl rfl, Or.inl rfl, trivial⟩ ?_
          exact ih _ _ _ _ _ _ _ e
        · rw [if_neg hx_125] at e
          refine go_iconst (v := 0) rfl (by decide) ?_
          cases e
          exact go_ret rfl (ck_rvb rfl (Or.inl rfl))
      rw [if_neg hx_116] at e
      by_cases hx_126 : ((gI h a0 (v3 : Int32).toNatClampNeg) &&& 31) = 9
      · rw [if_pos hx_126] at e
        refine go_tswI (off := 413) (t := 446) rfl (by rw [hx_126]; decide) (by rw [hx_126]; rfl) rfl ?_
        refine go_aload_n rfl rfl ?_
        refine go_aload_n rfl rfl ?_
        refine go_iload_n rfl rfl ?_
        refine go_iconst (v := 1) rfl (by decide) ?_
        refine go_iadd rfl ?_
        replace e := ck_as_e e
        obtain ⟨hc_127, e⟩ := e
        refine go_iald rfl hc_127 ?_
        refine go_aload_n rfl rfl ?_
        refine go_iload_n rfl rfl ?_
        refine go_iconst (v := 2) rfl (by decide) ?_
        refine go_iadd rfl ?_
        replace e := ck_as_e e
        obtain ⟨hc_128, e⟩ := e
        refine go_iald rfl hc_128 ?_
        replace e := ck_as_e e
        obtain ⟨hk_129, e⟩ := e
        replace e := ck_bd_e e
        obtain ⟨r130, h131, e132, e⟩ := e
        refine go_callV (As := [.int (gI h a0 (v3 + 1 : Int32).toNatClampNeg), .int (gI h a0 (v3 + 2 : Int32).toNatClampNeg)]) (b0 := a1) (rest := []) rfl rfl ⟨hk_129, by decide⟩ rfl ⟨Nat.le_of_ble_eq_true rfl, Nat.le_of_ble_eq_true rfl, Nat.le_of_ble_eq_true rfl, Nat.le_of_ble_eq_true rfl⟩ (s_CS_arm e132) ?_
        show Go k_Lw_law 460 [some (.ref a0), some (.ref a1), some (.ref a2), some (.int v3)] [.int r130] h131 _
        refine go_aload_n rfl rfl ?_
        refine go_aload_n rfl rfl ?_
        refine go_iload_n rfl rfl ?_
        refine go_iconst (v := 1) rfl (by decide) ?_
        refine go_iadd rfl ?_
        replace e := ck_as_e e
        obtain ⟨hc_133, e⟩ := e
        refine go_iald rfl hc_133 ?_
        refine go_aload_n rfl rfl ?_
        refine go_iload_n rfl rfl ?_
        refine go_iconst (v := 2) rfl (by decide) ?_
        refine go_iadd rfl ?_
        replace e := ck_as_e e
        obtain ⟨hc_134, e⟩ := e
        refine go_iald rfl hc_134 ?_
        replace e := ck_as_e e
        obtain ⟨hk_135, e⟩ := e
        replace e := ck_bd_e e
        obtain ⟨r136, h137, e138, e⟩ := e
        refine go_callV (As := [.int (gI h131 a0 (v3 + 1 : Int32).toNatClampNeg), .int (gI h131 a0 (v3 + 2 : Int32).toNatClampNeg)]) (b0 := a2) (rest := [.int r130]) rfl rfl ⟨hk_135, by decide⟩ rfl ⟨Nat.le_of_ble_eq_true rfl, Nat.le_of_ble_eq_true rfl, Nat.le_of_ble_eq_true rfl, Nat.le_of_ble_eq_true rfl⟩ (s_RM_arm e138) ?_
        show Go k_Lw_law 474 [some (.ref a0), some (.ref a1), some (.ref a2), some (.int v3)] [.int r136, .int r130] h137 _
        refine go_icmp_eq (t := 1075) rfl rfl (fun hx_139 => ?_) (fun hx_139 => ?_)
        · rw [if_pos hx_139] at e
          refine go_iinc (v := 6) rfl rfl (by decide) rfl ?_
          show Go k_Lw_law 1078 [some (.ref a0), some (.ref a1), some (.ref a2), some (.int (v3 + 6))] [] h137 _
          refine go_goto (t := 18) rfl rfl ?_
          refine go_forget (l := [some (.ref a0), some (.ref a1), some (.ref a2), some (.int (v3 + 6))]) ⟨Or.inl rfl, Or.inl rfl, Or.inl rfl, Or.inl rfl, trivial⟩ ?_
          exact ih _ _ _ _ _ _ _ e
        · rw [if_neg hx_139] at e
          refine go_iconst (v := 0) rfl (by decide) ?_
          cases e
          exact go_ret rfl (ck_rvb rfl (Or.inl rfl))
      rw [if_neg hx_126] at e
      by_cases hx_140 : ((gI h a0 (v3 : Int32).toNatClampNeg) &&& 31) = 10
      · rw [if_pos hx_140] at e
        refine go_tswI (off := 446) (t := 479) rfl (by rw [hx_140]; decide) (by rw [hx_140]; rfl) rfl ?_
        refine go_aload_n rfl rfl ?_
        refine go_aload_n rfl rfl ?_
        refine go_iload_n rfl rfl ?_
        refine go_iconst (v := 1) rfl (by decide) ?_
        refine go_iadd rfl ?_
        replace e := ck_as_e e
        obtain ⟨hc_141, e⟩ := e
        refine go_iald rfl hc_141 ?_
        refine go_aload_n rfl rfl ?_
        refine go_iload_n rfl rfl ?_
        refine go_iconst (v := 2) rfl (by decide) ?_
        refine go_iadd rfl ?_
        replace e := ck_as_e e
        obtain ⟨hc_142, e⟩ := e
        refine go_iald rfl hc_142 ?_
        refine go_aload_n rfl rfl ?_
        refine go_iload_n rfl rfl ?_
        refine go_iconst (v := 3) rfl (by decide) ?_
        refine go_iadd rfl ?_
        replace e := ck_as_e e
        obtain ⟨hc_143, e⟩ := e
        refine go_iald rfl hc_143 ?_
        refine go_aload_n rfl rfl ?_
        refine go_iload_n rfl rfl ?_
        refine go_iconst (v := 4) rfl (by decide) ?_
        refine go_iadd rfl ?_
        replace e := ck_as_e e
        obtain ⟨hc_144, e⟩ := e
        refine go_iald rfl hc_144 ?_
        replace e := ck_as_e e
        obtain ⟨hk_145, e⟩ := e
        replace e := ck_bd_e e
        obtain ⟨r146, h147, e148, e⟩ := e
        refine go_callV (As := [.int (gI h a0 (v3 + 1 : Int32).toNatClampNeg), .int (gI h a0 (v3 + 2 : Int32).toNatClampNeg), .int (gI h a0 (v3 + 3 : Int32).toNatClampNeg), .int (gI h a0 (v3 + 4 : Int32).toNatClampNeg)]) (b0 := a1) (rest := []) rfl rfl ⟨hk_145, by decide⟩ rfl ⟨Nat.le_of_ble_eq_true rfl, Nat.le_of_ble_eq_true rfl, Nat.le_of_ble_eq_true rfl, Nat.le_of_ble_eq_true rfl⟩ (s_CS_record e148) ?_
        show Go k_Lw_law 503 [some (.ref a0), some (.ref a1), some (.ref a2), some (.int v3)] [.int r146] h147 _
        refine go_aload_n rfl rfl ?_
        refine go_aload_n rfl rfl ?_
        refine go_iload_n rfl rfl ?_
        refine go_iconst (v := 1) rfl (by decide) ?_
        refine go_iadd rfl ?_
        replace e := ck_as_e e
        obtain ⟨hc_149, e⟩ := e
        refine go_iald rfl hc_149 ?_
        refine go_aload_n rfl rfl ?_
        refine go_iload_n rfl rfl ?_
        refine go_iconst (v := 2) rfl (by decide) ?_
        refine go_iadd rfl ?_
        replace e := ck_as_e e
        obtain ⟨hc_150, e⟩ := e
        refine go_iald rfl hc_150 ?_
        refine go_aload_n rfl rfl ?_
        refine go_iload_n rfl rfl ?_
        refine go_iconst (v := 3) rfl (by decide) ?_
        refine go_iadd rfl ?_
        replace e := ck_as_e e
        obtain ⟨hc_151, e⟩ := e
        refine go_iald rfl hc_151 ?_
        refine go_aload_n rfl rfl ?_
        refine go_iload_n rfl rfl ?_
        refine go_iconst (v := 4) rfl (by decide) ?_
        refine go_iadd rfl ?_
        replace e := ck_as_e e
        obtain ⟨hc_152, e⟩ := e
        refine go_iald rfl hc_152 ?_
        replace e := ck_as_e e
        obtain ⟨hk_153, e⟩ := e
        replace e := ck_bd_e e
        obtain ⟨r154, h155, e156, e⟩ := e
        refine go_callV (As := [.int (gI h147 a0 (v3 + 1 : Int32).toNatClampNeg), .int (gI h147 a0 (v3 + 2 : Int32).toNatClampNeg), .int (gI h147 a0 (v3 + 3 : Int32).toNatClampNeg), .int (gI h147 a0 (v3 + 4 : Int32).toNatClampNeg)]) (b0 := a2) (rest := [.int r146]) rfl rfl ⟨hk_153, by decide⟩ rfl ⟨Nat.le_of_ble_eq_true rfl, Nat.le_of_ble_eq_true rfl, Nat.le_of_ble_eq_true rfl, Nat.le_of_ble_eq_true rfl⟩ (s_RM_record e156) ?_
        show Go k_Lw_law 527 [some (.ref a0), some (.ref a1), some (.ref a2), some (.int v3)] [.int r154, .int r146] h155 _
        refine go_icmp_eq (t := 1075) rfl rfl (fun hx_157 => ?_) (fun hx_157 => ?_)
        · rw [if_pos hx_157] at e
          refine go_iinc (v := 6) rfl rfl (by decide) rfl ?_
          show Go k_Lw_law 1078 [some (.ref a0), some (.ref a1), some (.ref a2), some (.int (v3 + 6))] [] h155 _
          refine go_goto (t := 18) rfl rfl ?_
          refine go_forget (l := [some (.ref a0), some (.ref a1), some (.ref a2), some (.int (v3 + 6))]) ⟨Or.inl rfl, Or.inl rfl, Or.inl rfl, Or.inl rfl, trivial⟩ ?_
          exact ih _ _ _ _ _ _ _ e
        · rw [if_neg hx_157] at e
          refine go_iconst (v := 0) rfl (by decide) ?_
          cases e
          exact go_ret rfl (ck_rvb rfl (Or.inl rfl))
      rw [if_neg hx_140] at e
      by_cases hx_158 : ((gI h a0 (v3 : Int32).toNatClampNeg) &&& 31) = 11
      · rw [if_pos hx_158] at e
        refine go_tswI (off := 499) (t := 532) rfl (by rw [hx_158]; decide) (by rw [hx_158]; rfl) rfl ?_
        refine go_aload_n rfl rfl ?_
        refine go_aload_n rfl rfl ?_
        refine go_iload_n rfl rfl ?_
        refine go_iconst (v := 1) rfl (by decide) ?_
        refine go_iadd rfl ?_
        replace e := ck_as_e e
        obtain ⟨hc_159, e⟩ := e
        refine go_iald rfl hc_159 ?_
        refine go_aload_n rfl rfl ?_
        refine go_iload_n rfl rfl ?_
        refine go_iconst (v := 2) rfl (by decide) ?_
        refine go_iadd rfl ?_
        replace e := ck_as_e e
        obtain ⟨hc_160, e⟩ := e
        refine go_iald rfl hc_160 ?_
        refine go_aload_n rfl rfl ?_
        refine go_iload_n rfl rfl ?_
        refine go_iconst (v := 3) rfl (by decide) ?_
        refine go_iadd rfl ?_
        replace e := ck_as_e e
        obtain ⟨hc_161, e⟩ := e
        refine go_iald rfl hc_161 ?_
        replace e := ck_as_e e
        obtain ⟨hk_162, e⟩ := e
        replace e := ck_bd_e e
        obtain ⟨r163, h164, e165, e⟩ := e
        refine go_callV (As := [.int (gI h a0 (v3 + 1 : Int32).toNatClampNeg), .int (gI h a0 (v3 + 2 : Int32).toNatClampNeg), .int (gI h a0 (v3 + 3 : Int32).toNatClampNeg)]) (b0 := a1) (rest := []) rfl rfl ⟨hk_162, by decide⟩ rfl ⟨Nat.le_of_ble_eq_true rfl, Nat.le_of_ble_eq_true rfl, Nat.le_of_ble_eq_true rfl, Nat.le_of_ble_eq_true rfl⟩ (s_CS_spoil e165) ?_
        show Go k_Lw_law 551 [some (.ref a0), some (.ref a1), some (.ref a2), some (.int v3)] [.int r163] h164 _
        refine go_aload_n rfl rfl ?_
        refine go_aload_n rfl rfl ?_
        refine go_iload_n rfl rfl ?_
        refine go_iconst (v := 1) rfl (by decide) ?_
        refine go_iadd rfl ?_
        replace e := ck_as_e e
        obtain ⟨hc_166, e⟩ := e
        refine go_iald rfl hc_166 ?_
        refine go_aload_n rfl rfl ?_
        refine go_iload_n rfl rfl ?_
        refine go_iconst (v := 2) rfl (by decide) ?_
        refine go_iadd rfl ?_
        replace e := ck_as_e e
        obtain ⟨hc_167, e⟩ := e
        refine go_iald rfl hc_167 ?_
        refine go_aload_n rfl rfl ?_
        refine go_iload_n rfl rfl ?_
        refine go_iconst (v := 3) rfl (by decide) ?_
        refine go_iadd rfl ?_
        replace e := ck_as_e e
        obtain ⟨hc_168, e⟩ := e
        refine go_iald rfl hc_168 ?_
        replace e := ck_as_e e
        obtain ⟨hk_169, e⟩ := e
        replace e := ck_bd_e e
        obtain ⟨r170, h171, e172, e⟩ := e
        refine go_callV (As := [.int (gI h164 a0 (v3 + 1 : Int32).toNatClampNeg), .int (gI h164 a0 (v3 + 2 : Int32).toNatClampNeg), .int (gI h164 a0 (v3 + 3 : Int32).toNatClampNeg)]) (b0 := a2) (rest := [.int r163]) rfl rfl ⟨hk_169, by decide⟩ rfl ⟨Nat.le_of_ble_eq_true rfl, Nat.le_of_ble_eq_true rfl, Nat.le_of_ble_eq_true rfl, Nat.le_of_ble_eq_true rfl⟩ (s_RM_spoil e172) ?_
        show Go k_Lw_law 570 [some (.ref a0), some (.ref a1), some (.ref a2), some (.int v3)] [.int r170, .int r163] h171 _
        refine go_icmp_eq (t := 1075) rfl rfl (fun hx_173 => ?_) (fun hx_173 => ?_)
        · rw [if_pos hx_173] at e
          refine go_iinc (v := 6) rfl rfl (by decide) rfl ?_
          show Go k_Lw_law 1078 [some (.ref a0), some (.ref a1), some (.ref a2), some (.int (v3 + 6))] [] h171 _
          refine go_goto (t := 18) rfl rfl ?_
          refine go_forget (l := [some (.ref a0), some (.ref a1), some (.ref a2), some (.int (v3 + 6))]) ⟨Or.inl rfl, Or.inl rfl, Or.inl rfl, Or.inl rfl, trivial⟩ ?_
          exact ih _ _ _ _ _ _ _ e
        · rw [if_neg hx_173] at e
          refine go_iconst (v := 0) rfl (by decide) ?_
          cases e
          exact go_ret rfl (ck_rvb rfl (Or.inl rfl))
      rw [if_neg hx_158] at e
      by_cases hx_174 : ((gI h a0 (v3 : Int32).toNatClampNeg) &&& 31) = 12
      · rw [if_pos hx_174] at e
        refine go_tswI (off := 542) (t := 575) rfl (by rw [hx_174]; decide) (by rw [hx_174]; rfl) rfl ?_
        refine go_aload_n rfl rfl ?_
        refine go_aload_n rfl rfl ?_
        refine go_iload_n rfl rfl ?_
        refine go_iconst (v := 1) rfl (by decide) ?_
        refine go_iadd rfl ?_
        replace e := ck_as_e e
        obtain ⟨hc_175, e⟩ := e
        refine go_iald rfl hc_175 ?_
        refine go_aload_n rfl rfl ?_
        refine go_iload_n rfl rfl ?_
        refine go_iconst (v := 2) rfl (by decide) ?_
        refine go_iadd rfl ?_
        replace e := ck_as_e e
        obtain ⟨hc_176, e⟩ := e
        refine go_iald rfl hc_176 ?_
        refine go_aload_n rfl rfl ?_
        refine go_iload_n rfl rfl ?_
        refine go_iconst (v := 3) rfl (by decide) ?_
        refine go_iadd rfl ?_
        replace e := ck_as_e e
        obtain ⟨hc_177, e⟩ := e
        refine go_iald rfl hc_177 ?_
        refine go_aload_n rfl rfl ?_
        refine go_iload_n rfl rfl ?_
        refine go_iconst (v := 4) rfl (by decide) ?_
        refine go_iadd rfl ?_
        replace e := ck_as_e e
        obtain ⟨hc_178, e⟩ := e
        refine go_iald rfl hc_178 ?_
        refine go_aload_n rfl rfl ?_
        refine go_iload_n rfl rfl ?_
        refine go_iconst (v := 5) rfl (by decide) ?_
        refine go_iadd rfl ?_
        replace e := ck_as_e e
        obtain ⟨hc_179, e⟩ := e
        refine go_iald rfl hc_179 ?_
        refine go_if_eq (t := 608) rfl rfl (fun hx_180 => ?_) (fun hx_180 => ?_)
        · rw [if_pos hx_180] at e
          refine go_iconst (v := 0) rfl (by decide) ?_
          refine go_forget (l := [some (.ref a0), some (.ref a1), some (.ref a2), some (.int v3)]) ⟨Or.inl rfl, Or.inl rfl, Or.inl rfl, Or.inl rfl, trivial⟩ ?_
          exact f_Lw_law_J609_s F (f_Lw_law_L18 F n) ih a0 a1 a2 v3 0 (gI h a0 (v3 + 4 : Int32).toNatClampNeg) (gI h a0 (v3 + 3 : Int32).toNatClampNeg) (gI h a0 (v3 + 2 : Int32).toNatClampNeg) (gI h a0 (v3 + 1 : Int32).toNatClampNeg) a1 _ _ _ e
        · rw [if_neg hx_180] at e
          refine go_iconst (v := 1) rfl (by decide) ?_
          refine go_goto (t := 609) rfl rfl ?_
          refine go_forget (l := [some (.ref a0), some (.ref a1), some (.ref a2), some (.int v3)]) ⟨Or.inl rfl, Or.inl rfl, Or.inl rfl, Or.inl rfl, trivial⟩ ?_
          exact f_Lw_law_J609_s F (f_Lw_law_L18 F n) ih a0 a1 a2 v3 1 (gI h a0 (v3 + 4 : Int32).toNatClampNeg) (gI h a0 (v3 + 3 : Int32).toNatClampNeg) (gI h a0 (v3 + 2 : Int32).toNatClampNeg) (gI h a0 (v3 + 1 : Int32).toNatClampNeg) a1 _ _ _ e
      rw [if_neg hx_174] at e
      by_cases hx_181 : ((gI h a0 (v3 : Int32).toNatClampNeg) &&& 31) = 13
      · rw [if_pos hx_181] at e
        refine go_tswI (off := 621) (t := 654) rfl (by rw [hx_181]; decide) (by rw [hx_181]; rfl) rfl ?_
        refine go_aload_n rfl rfl ?_
        replace e := ck_as_e e
        obtain ⟨hk_182, e⟩ := e
        replace e := ck_bd_e e
        obtain ⟨r183, h184, e185, e⟩ := e
        refine go_callV (As := []) (b0 := a1) (rest := []) rfl rfl ⟨hk_182, by decide⟩ rfl ⟨Nat.le_of_ble_eq_true rfl, Nat.le_of_ble_eq_true rfl, Nat.le_of_ble_eq_true rfl, Nat.le_of_ble_eq_true rfl⟩ (s_CS_scratch e185) ?_
        show Go k_Lw_law 658 [some (.ref a0), some (.ref a1), some (.ref a2), some (.int v3)] [.int r183] h184 _
        refine go_aload_n rfl rfl ?_
        replace e := ck_as_e e
        obtain ⟨hk_186, e⟩ := e
        replace e := ck_bd_e e
        obtain ⟨r187, h188, e189, e⟩ := e
        refine go_callV (As := []) (b0 := a2) (rest := [.int r183]) rfl rfl ⟨hk_186, by decide⟩ rfl ⟨Nat.le_of_ble_eq_true rfl, Nat.le_of_ble_eq_true rfl, Nat.le_of_ble_eq_true rfl, Nat.le_of_ble_eq_true rfl⟩ (s_RM_scratch e189) ?_
        show Go k_Lw_law 662 [some (.ref a0), some (.ref a1), some (.ref a2), some (.int v3)] [.int r187, .int r183] h188 _
        refine go_icmp_eq (t := 1075) rfl rfl (fun hx_190 => ?_) (fun hx_190 => ?_)
        · rw [if_pos hx_190] at e
          refine go_iinc (v := 6) rfl rfl (by decide) rfl ?_
          show Go k_Lw_law 1078 [some (.ref a0), some (.ref a1), some (.ref a2), some (.int (v3 + 6))] [] h188 _
          refine go_goto (t := 18) rfl rfl ?_
          refine go_forget (l := [some (.ref a0), some (.ref a1), some (.ref a2), some (.int (v3 + 6))]) ⟨Or.inl rfl, Or.inl rfl, Or.inl rfl, Or.inl rfl, trivial⟩ ?_
          exact ih _ _ _ _ _ _ _ e
        · rw [if_neg hx_190] at e
          refine go_iconst (v := 0) rfl (by decide) ?_
          cases e
          exact go_ret rfl (ck_rvb rfl (Or.inl rfl))
      rw [if_neg hx_181] at e
      by_cases hx_191 : ((gI h a0 (v3 : Int32).toNatClampNeg) &&& 31) = 14
      · rw [if_pos hx_191] at e
        refine go_tswI (off := 634) (t := 667) rfl (by rw [hx_191]; decide) (by rw [hx_191]; rfl) rfl ?_
        refine go_aload_n rfl rfl ?_
        refine go_aload_n rfl rfl ?_
        refine go_iload_n rfl rfl ?_
        refine go_iconst (v := 1) rfl (by decide) ?_
        refine go_iadd rfl ?_
        replace e := ck_as_e e
        obtain ⟨hc_192, e⟩ := e
        refine go_iald rfl hc_192 ?_
        replace e := ck_as_e e
        obtain ⟨hk_193, e⟩ := e
        replace e := ck_bd_e e
        obtain ⟨r194, h195, e196, e⟩ := e
        refine go_callV (As := [.int (gI h a0 (v3 + 1 : Int32).toNatClampNeg)]) (b0 := a1) (rest := []) rfl rfl ⟨hk_193, by decide⟩ rfl ⟨Nat.le_of_ble_eq_true rfl, Nat.le_of_ble_eq_true rfl, Nat.le_of_ble_eq_true rfl, Nat.le_of_ble_eq_true rfl⟩ (s_CS_extend e196) ?_
        show Go k_Lw_law 676 [some (.ref a0), some (.ref a1), some (.ref a2), some (.int v3)] [.int r194] h195 _
        refine go_aload_n rfl rfl ?_
        refine go_aload_n rfl rfl ?_
        refine go_iload_n rfl rfl ?_
        refine go_iconst (v := 1) rfl (by decide) ?_
        refine go_iadd rfl ?_
        replace e := ck_as_e e
        obtain ⟨hc_197, e⟩ := e
        refine go_iald rfl hc_197 ?_
        replace e := ck_as_e e
        obtain ⟨hk_198, e⟩ := e
        replace e := ck_bd_e e
        obtain ⟨r199, h200, e201, e⟩ := e
        refine go_callV (As := [.int (gI h195 a0 (v3 + 1 : Int32).toNatClampNeg)]) (b0 := a2) (rest := [.int r194]) rfl rfl ⟨hk_198, by decide⟩ rfl ⟨Nat.le_of_ble_eq_true rfl, Nat.le_of_ble_eq_true rfl, Nat.le_of_ble_eq_true rfl, Nat.le_of_ble_eq_true rfl⟩ (s_RM_extend e201) ?_
        show Go k_Lw_law 685 [some (.ref a0), some (.ref a1), some (.ref a2), some (.int v3)] [.int r199, .int r194] h200 _
        refine go_icmp_eq (t := 1075) rfl rfl (fun hx_202 => ?_) (fun hx_202 => ?_)
        · rw [if_pos hx_202] at e
          refine go_iinc (v := 6) rfl rfl (by decide) rfl ?_
          show Go k_Lw_law 1078 [some (.ref a0), some (.ref a1), some (.ref a2), some (.int (v3 + 6))] [] h200 _
          refine go_goto (t := 18) rfl rfl ?_
          refine go_forget (l := [some (.ref a0), some (.ref a1), some (.ref a2), some (.int (v3 + 6))]) ⟨Or.inl rfl, Or.inl rfl, Or.inl rfl, Or.inl rfl, trivial⟩ ?_
          exact ih _ _ _ _ _ _ _ e
        · rw [if_neg hx_202] at e
          refine go_iconst (v := 0) rfl (by decide) ?_
          cases e
          exact go_ret rfl (ck_rvb rfl (Or.inl rfl))
      rw [if_neg hx_191] at e
      by_cases hx_203 : ((gI h a0 (v3 : Int32).toNatClampNeg) &&& 31) = 15
      · rw [if_pos hx_203] at e
        refine go_tswI (off := 657) (t := 690) rfl (by rw [hx_203]; decide) (by rw [hx_203]; rfl) rfl ?_
        refine go_aload_n rfl rfl ?_
        refine go_aload_n rfl rfl ?_
        refine go_iload_n rfl rfl ?_
        refine go_iconst (v := 1) rfl (by decide) ?_
        refine go_iadd rfl ?_
        replace e := ck_as_e e
        obtain ⟨hc_204, e⟩ := e
        refine go_iald rfl hc_204 ?_
        refine go_aload_n rfl rfl ?_
        refine go_iload_n rfl rfl ?_
        refine go_iconst (v := 2) rfl (by decide) ?_
        refine go_iadd rfl ?_
        replace e := ck_as_e e
        obtain ⟨hc_205, e⟩ := e
        refine go_iald rfl hc_205 ?_
        replace e := ck_as_e e
        obtain ⟨hk_206, e⟩ := e
        replace e := ck_bd_e e
        obtain ⟨r207, h208, e209, e⟩ := e
        refine go_callV (As := [.int (gI h a0 (v3 + 1 : Int32).toNatClampNeg), .int (gI h a0 (v3 + 2 : Int32).toNatClampNeg)]) (b0 := a1) (rest := []) rfl rfl ⟨hk_206, by decide⟩ rfl ⟨Nat.le_of_ble_eq_true rfl, Nat.le_of_ble_eq_true rfl, Nat.le_of_ble_eq_true rfl, Nat.le_of_ble_eq_true rfl⟩ (s_CS_dataSet e209) ?_
        show Go k_Lw_law 704 [some (.ref a0), some (.ref a1), some (.ref a2), some (.int v3)] [.int r207] h208 _
        refine go_aload_n rfl rfl ?_
        refine go_aload_n rfl rfl ?_
        refine go_iload_n rfl rfl ?_
        refine go_iconst (v := 1) rfl (by decide) ?_
        refine go_iadd rfl ?_
        replace e := ck_as_e e
        obtain ⟨hc_210, e⟩ := e
        refine go_iald rfl hc_210 ?_
        refine go_aload_n rfl rfl ?_
        refine go_iload_n rfl rfl ?_
        refine go_iconst (v := 2) rfl (by decide) ?_
        refine go_iadd rfl ?_
        replace e := ck_as_e e
        obtain ⟨hc_211, e⟩ := e
        refine go_iald rfl hc_211 ?_
        replace e := ck_as_e e
        obtain ⟨hk_212, e⟩ := e
        replace e := ck_bd_e e
        obtain ⟨r213, h214, e215, e⟩ := e
        refine go_callV (As := [.int (gI h208 a0 (v3 + 1 : Int32).toNatClampNeg), .int (gI h208 a0 (v3 + 2 : Int32).toNatClampNeg)]) (b0 := a2) (rest := [.int r207]) rfl rfl ⟨hk_212, by decide⟩ rfl ⟨Nat.le_of_ble_eq_true rfl, Nat.le_of_ble_eq_true rfl, Nat.le_of_ble_eq_true rfl, Nat.le_of_ble_eq_true rfl⟩ (s_RM_dataSet e215) ?_
        show Go k_Lw_law 718 [some (.ref a0), some (.ref a1), some (.ref a2), some (.int v3)] [.int r213, .int r207] h214 _
        refine go_icmp_eq (t := 1075) rfl rfl (fun hx_216 => ?_) (fun hx_216 => ?_)
        · rw [if_pos hx_216] at e
          refine go_iinc (v := 6) rfl rfl (by decide) rfl ?_
          show Go k_Lw_law 1078 [some (.ref a0), some (.ref a1), some (.ref a2), some (.int (v3 + 6))] [] h214 _
          refine go_goto (t := 18) rfl rfl ?_
          refine go_forget (l := [some (.ref a0), some (.ref a1), some (.ref a2), some (.int (v3 + 6))]) ⟨Or.inl rfl, Or.inl rfl, Or.inl rfl, Or.inl rfl, trivial⟩ ?_
          exact ih _ _ _ _ _ _ _ e
        · rw [if_neg hx_216] at e
          refine go_iconst (v := 0) rfl (by decide) ?_
          cases e
          exact go_ret rfl (ck_rvb rfl (Or.inl rfl))
      rw [if_neg hx_203] at e
      by_cases hx_217 : ((gI h a0 (v3 : Int32).toNatClampNeg) &&& 31) = 16
      · rw [if_pos hx_217] at e
        refine go_tswI (off := 690) (t := 723) rfl (by rw [hx_217]; decide) (by rw [hx_217]; rfl) rfl ?_
        refine go_aload_n rfl rfl ?_
        refine go_aload_n rfl rfl ?_
        refine go_iload_n rfl rfl ?_
        refine go_iconst (v := 1) rfl (by decide) ?_
        refine go_iadd rfl ?_
        replace e := ck_as_e e
        obtain ⟨hc_218, e⟩ := e
        refine go_iald rfl hc_218 ?_
        replace e := ck_as_e e
        obtain ⟨hk_219, e⟩ := e
        replace e := ck_bd_e e
        obtain ⟨r220, h221, e222, e⟩ := e
        refine go_callV (As := [.int (gI h a0 (v3 + 1 : Int32).toNatClampNeg)]) (b0 := a1) (rest := []) rfl rfl ⟨hk_219, by decide⟩ rfl ⟨Nat.le_of_ble_eq_true rfl, Nat.le_of_ble_eq_true rfl, Nat.le_of_ble_eq_true rfl, Nat.le_of_ble_eq_true rfl⟩ (s_CS_count e222) ?_
        show Go k_Lw_law 732 [some (.ref a0), some (.ref a1), some (.ref a2), some (.int v3)] [.int r220] h221 _
        refine go_aload_n rfl rfl ?_
        refine go_aload_n rfl rfl ?_
        refine go_iload_n rfl rfl ?_
        refine go_iconst (v := 1) rfl (by decide) ?_
        refine go_iadd rfl ?_
        replace e := ck_as_e e
        obtain ⟨hc_223, e⟩ := e
        refine go_iald rfl hc_223 ?_
        replace e := ck_as_e e
        obtain ⟨hk_224, e⟩ := e
        replace e := ck_bd_e e
        obtain ⟨r225, h226, e227, e⟩ := e
        refine go_callV (As := [.int (gI h221 a0 (v3 + 1 : Int32).toNatClampNeg)]) (b0 := a2) (rest := [.int r220]) rfl rfl ⟨hk_224, by decide⟩ rfl ⟨Nat.le_of_ble_eq_true rfl, Nat.le_of_ble_eq_true rfl, Nat.le_of_ble_eq_true rfl, Nat.le_of_ble_eq_true rfl⟩ (s_RM_count e227) ?_
        show Go k_Lw_law 741 [some (.ref a0), some (.ref a1), some (.ref a2), some (.int v3)] [.int r225, .int r220] h226 _
        refine go_icmp_eq (t := 1075) rfl rfl (fun hx_228 => ?_) (fun hx_228 => ?_)
        · rw [if_pos hx_228] at e
          refine go_iinc (v := 6) rfl rfl (by decide) rfl ?_
          show Go k_Lw_law 1078 [some (.ref a0), some (.ref a1), some (.ref a2), some (.int (v3 + 6))] [] h226 _
          refine go_goto (t := 18) rfl rfl ?_
          refine go_forget (l := [some (.ref a0), some (.ref a1), some (.ref a2), some (.int (v3 + 6))]) ⟨Or.inl rfl, Or.inl rfl, Or.inl rfl, Or.inl rfl, trivial⟩ ?_
          exact ih _ _ _ _ _ _ _ e
        · rw [if_neg hx_228] at e
          refine go_iconst (v := 0) rfl (by decide) ?_
          cases e
          exact go_ret rfl (ck_rvb rfl (Or.inl rfl))
      rw [if_neg hx_217] at e
      by_cases hx_229 : ((gI h a0 (v3 : Int32).toNatClampNeg) &&& 31) = 17
      · rw [if_pos hx_229] at e
        refine go_tswI (off := 713) (t := 746) rfl (by rw [hx_229]; decide) (by rw [hx_229]; rfl) rfl ?_
        refine go_aload_n rfl rfl ?_
        refine go_aload_n rfl rfl ?_
        refine go_iload_n rfl rfl ?_
        refine go_iconst (v := 1) rfl (by decide) ?_
        refine go_iadd rfl ?_
        replace e := ck_as_e e
        obtain ⟨hc_230, e⟩ := e
        refine go_iald rfl hc_230 ?_
        replace e := ck_as_e e
        obtain ⟨hk_231, e⟩ := e
        replace e := ck_bd_e e
        obtain ⟨r232, h233, e234, e⟩ := e
        refine go_callV (As := [.int (gI h a0 (v3 + 1 : Int32).toNatClampNeg)]) (b0 := a1) (rest := []) rfl rfl ⟨hk_231, by decide⟩ rfl ⟨Nat.le_of_ble_eq_true rfl, Nat.le_of_ble_eq_true rfl, Nat.le_of_ble_eq_true rfl, Nat.le_of_ble_eq_true rfl⟩ (s_CS_open e234) ?_
        show Go k_Lw_law 755 [some (.ref a0), some (.ref a1), some (.ref a2), some (.int v3)] [.int r232] h233 _
        refine go_aload_n rfl rfl ?_
        refine go_aload_n rfl rfl ?_
        refine go_iload_n rfl rfl ?_
        refine go_iconst (v := 1) rfl (by decide) ?_
        refine go_iadd rfl ?_
        replace e := ck_as_e e
        obtain ⟨hc_235, e⟩ := e
        refine go_iald rfl hc_235 ?_
        replace e := ck_as_e e
        obtain ⟨hk_236, e⟩ := e
        replace e := ck_bd_e e
        obtain ⟨r237, h238, e239, e⟩ := e
        refine go_callV (As := [.int (gI h233 a0 (v3 + 1 : Int32).toNatClampNeg)]) (b0 := a2) (rest := [.int r232]) rfl rfl ⟨hk_236, by decide⟩ rfl ⟨Nat.le_of_ble_eq_true rfl, Nat.le_of_ble_eq_true rfl, Nat.le_of_ble_eq_true rfl, Nat.le_of_ble_eq_true rfl⟩ (s_RM_open e239) ?_
        show Go k_Lw_law 764 [some (.ref a0), some (.ref a1), some (.ref a2), some (.int v3)] [.int r237, .int r232] h238 _
        refine go_icmp_eq (t := 1075) rfl rfl (fun hx_240 => ?_) (fun hx_240 => ?_)
        · rw [if_pos hx_240] at e
          refine go_iinc (v := 6) rfl rfl (by decide) rfl ?_
          show Go k_Lw_law 1078 [some (.ref a0), some (.ref a1), some (.ref a2), some (.int (v3 + 6))] [] h238 _
          refine go_goto (t := 18) rfl rfl ?_
          refine go_forget (l := [some (.ref a0), some (.ref a1), some (.ref a2), some (.int (v3 + 6))]) ⟨Or.inl rfl, Or.inl rfl, Or.inl rfl, Or.inl rfl, trivial⟩ ?_
          exact ih _ _ _ _ _ _ _ e
        · rw [if_neg hx_240] at e
          refine go_iconst (v := 0) rfl (by decide) ?_
          cases e
          exact go_ret rfl (ck_rvb rfl (Or.inl rfl))
      rw [if_neg hx_229] at e
      by_cases hx_241 : ((gI h a0 (v3 : Int32).toNatClampNeg) &&& 31) = 18
      · rw [if_pos hx_241] at e
        refine go_tswI (off := 736) (t := 769) rfl (by rw [hx_241]; decide) (by rw [hx_241]; rfl) rfl ?_
        refine go_aload_n rfl rfl ?_
        refine go_aload_n rfl rfl ?_
        refine go_iload_n rfl rfl ?_
        refine go_iconst (v := 1) rfl (by decide) ?_
        refine go_iadd rfl ?_
        replace e := ck_as_e e
        obtain ⟨hc_242, e⟩ := e
        refine go_iald rfl hc_242 ?_
        replace e := ck_as_e e
        obtain ⟨hk_243, e⟩ := e
        replace e := ck_bd_e e
        obtain ⟨r244, h245, e246, e⟩ := e
        refine go_callV (As := [.int (gI h a0 (v3 + 1 : Int32).toNatClampNeg)]) (b0 := a1) (rest := []) rfl rfl ⟨hk_243, by decide⟩ rfl ⟨Nat.le_of_ble_eq_true rfl, Nat.le_of_ble_eq_true rfl, Nat.le_of_ble_eq_true rfl, Nat.le_of_ble_eq_true rfl⟩ (s_CS_close e246) ?_
        show Go k_Lw_law 778 [some (.ref a0), some (.ref a1), some (.ref a2), some (.int v3)] [.int r244] h245 _
        refine go_aload_n rfl rfl ?_
        refine go_aload_n rfl rfl ?_
        refine go_iload_n rfl rfl ?_
        refine go_iconst (v := 1) rfl (by decide) ?_
        refine go_iadd rfl ?_
        replace e := ck_as_e e
        obtain ⟨hc_247, e⟩ := e
        refine go_iald rfl hc_247 ?_
        replace e := ck_as_e e
        obtain ⟨hk_248, e⟩ := e
        replace e := ck_bd_e e
        obtain ⟨r249, h250, e251, e⟩ := e
        refine go_callV (As := [.int (gI h245 a0 (v3 + 1 : Int32).toNatClampNeg)]) (b0 := a2) (rest := [.int r244]) rfl rfl ⟨hk_248, by decide⟩ rfl ⟨Nat.le_of_ble_eq_true rfl, Nat.le_of_ble_eq_true rfl, Nat.le_of_ble_eq_true rfl, Nat.le_of_ble_eq_true rfl⟩ (s_RM_close e251) ?_
        show Go k_Lw_law 787 [some (.ref a0), some (.ref a1), some (.ref a2), some (.int v3)] [.int r249, .int r244] h250 _
        refine go_icmp_eq (t := 1075) rfl rfl (fun hx_252 => ?_) (fun hx_252 => ?_)
        · rw [if_pos hx_252] at e
          refine go_iinc (v := 6) rfl rfl (by decide) rfl ?_
          show Go k_Lw_law 1078 [some (.ref a0), some (.ref a1), some (.ref a2), some (.int (v3 + 6))] [] h250 _
          refine go_goto (t := 18) rfl rfl ?_
          refine go_forget (l := [some (.ref a0), some (.ref a1), some (.ref a2), some (.int (v3 + 6))]) ⟨Or.inl rfl, Or.inl rfl, Or.inl rfl, Or.inl rfl, trivial⟩ ?_
          exact ih _ _ _ _ _ _ _ e
        · rw [if_neg hx_252] at e
          refine go_iconst (v := 0) rfl (by decide) ?_
          cases e
          exact go_ret rfl (ck_rvb rfl (Or.inl rfl))
      rw [if_neg hx_241] at e
      by_cases hx_253 : ((gI h a0 (v3 : Int32).toNatClampNeg) &&& 31) = 19
      · rw [if_pos hx_253] at e
        refine go_tswI (off := 759) (t := 792) rfl (by rw [hx_253]; decide) (by rw [hx_253]; rfl) rfl ?_
        refine go_aload_n rfl rfl ?_
        refine go_aload_n rfl rfl ?_
        refine go_iload_n rfl rfl ?_
        refine go_iconst (v := 1) rfl (by decide) ?_
        refine go_iadd rfl ?_
        replace e := ck_as_e e
        obtain ⟨hc_254, e⟩ := e
        refine go_iald rfl hc_254 ?_
        replace e := ck_as_e e
        obtain ⟨hk_255, e⟩ := e
        replace e := ck_bd_e e
        obtain ⟨r256, h257, e258, e⟩ := e
        refine go_callV (As := [.int (gI h a0 (v3 + 1 : Int32).toNatClampNeg)]) (b0 := a1) (rest := []) rfl rfl ⟨hk_255, by decide⟩ rfl ⟨Nat.le_of_ble_eq_true rfl, Nat.le_of_ble_eq_true rfl, Nat.le_of_ble_eq_true rfl, Nat.le_of_ble_eq_true rfl⟩ (s_CS_put e258) ?_
        show Go k_Lw_law 801 [some (.ref a0), some (.ref a1), some (.ref a2), some (.int v3)] [.int r256] h257 _
        refine go_aload_n rfl rfl ?_
        refine go_aload_n rfl rfl ?_
        refine go_iload_n rfl rfl ?_
        refine go_iconst (v := 1) rfl (by decide) ?_
        refine go_iadd rfl ?_
        replace e := ck_as_e e
        obtain ⟨hc_259, e⟩ := e
        refine go_iald rfl hc_259 ?_
        replace e := ck_as_e e
        obtain ⟨hk_260, e⟩ := e
        replace e := ck_bd_e e
        obtain ⟨r261, h262, e263, e⟩ := e
        refine go_callV (As := [.int (gI h257 a0 (v3 + 1 : Int32).toNatClampNeg)]) (b0 := a2) (rest := [.int r256]) rfl rfl ⟨hk_260, by decide⟩ rfl ⟨Nat.le_of_ble_eq_true rfl, Nat.le_of_ble_eq_true rfl, Nat.le_of_ble_eq_true rfl, Nat.le_of_ble_eq_true rfl⟩ (s_RM_put e263) ?_
        show Go k_Lw_law 810 [some (.ref a0), some (.ref a1), some (.ref a2), some (.int v3)] [.int r261, .int r256] h262 _
        refine go_icmp_eq (t := 1075) rfl rfl (fun hx_264 => ?_) (fun hx_264 => ?_)
        · rw [if_pos hx_264] at e
          refine go_iinc (v := 6) rfl rfl (by decide) rfl ?_
          show Go k_Lw_law 1078 [some (.ref a0), some (.ref a1), some (.ref a2), some (.int (v3 + 6))] [] h262 _
          refine go_goto (t := 18) rfl rfl ?_
          refine go_forget (l := [some (.ref a0), some (.ref a1), some (.ref a2), some (.int (v3 + 6))]) ⟨Or.inl rfl, Or.inl rfl, Or.inl rfl, Or.inl rfl, trivial⟩ ?_
          exact ih _ _ _ _ _ _ _ e
        · rw [if_neg hx_264] at e
          refine go_iconst (v := 0) rfl (by decide) ?_
          cases e
          exact go_ret rfl (ck_rvb rfl (Or.inl rfl))
      rw [if_neg hx_253] at e
      by_cases hx_265 : ((gI h a0 (v3 : Int32).toNatClampNeg) &&& 31) = 20
      · rw [if_pos hx_265] at e
        refine go_tswI (off := 782) (t := 815) rfl (by rw [hx_265]; decide) (by rw [hx_265]; rfl) rfl ?_
        refine go_aload_n rfl rfl ?_
        refine go_aload_n rfl rfl ?_
        refine go_iload_n rfl rfl ?_
        refine go_iconst (v := 1) rfl (by decide) ?_
        refine go_iadd rfl ?_
        replace e := ck_as_e e
        obtain ⟨hc_266, e⟩ := e
        refine go_iald rfl hc_266 ?_
        replace e := ck_as_e e
        obtain ⟨hk_267, e⟩ := e
        replace e := ck_bd_e e
        obtain ⟨r268, h269, e270, e⟩ := e
        refine go_callV (As := [.int (gI h a0 (v3 + 1 : Int32).toNatClampNeg)]) (b0 := a1) (rest := []) rfl rfl ⟨hk_267, by decide⟩ rfl ⟨Nat.le_of_ble_eq_true rfl, Nat.le_of_ble_eq_true rfl, Nat.le_of_ble_eq_true rfl, Nat.le_of_ble_eq_true rfl⟩ (s_CS_get e270) ?_
        show Go k_Lw_law 824 [some (.ref a0), some (.ref a1), some (.ref a2), some (.int v3)] [.int r268] h269 _
        refine go_aload_n rfl rfl ?_
        refine go_aload_n rfl rfl ?_
        refine go_iload_n rfl rfl ?_
        refine go_iconst (v := 1) rfl (by decide) ?_
        refine go_iadd rfl ?_
        replace e := ck_as_e e
        obtain ⟨hc_271, e⟩ := e
        refine go_iald rfl hc_271 ?_
        replace e := ck_as_e e
        obtain ⟨hk_272, e⟩ := e
        replace e := ck_bd_e e
        obtain ⟨r273, h274, e275, e⟩ := e
        refine go_callV (As := [.int (gI h269 a0 (v3 + 1 : Int32).toNatClampNeg)]) (b0 := a2) (rest := [.int r268]) rfl rfl ⟨hk_272, by decide⟩ rfl ⟨Nat.le_of_ble_eq_true rfl, Nat.le_of_ble_eq_true rfl, Nat.le_of_ble_eq_true rfl, Nat.le_of_ble_eq_true rfl⟩ (s_RM_get e275) ?_
        show Go k_Lw_law 833 [some (.ref a0), some (.ref a1), some (.ref a2), some (.int v3)] [.int r273, .int r268] h274 _
        refine go_icmp_eq (t := 1075) rfl rfl (fun hx_276 => ?_) (fun hx_276 => ?_)
        · rw [if_pos hx_276] at e
          refine go_iinc (v := 6) rfl rfl (by decide) rfl ?_
          show Go k_Lw_law 1078 [some (.ref a0), some (.ref a1), some (.ref a2), some (.int (v3 + 6))] [] h274 _
          refine go_goto (t := 18) rfl rfl ?_
          refine go_forget (l := [some (.ref a0), some (.ref a1), some (.ref a2), some (.int (v3 + 6))]) ⟨Or.inl rfl, Or.inl rfl, Or.inl rfl, Or.inl rfl, trivial⟩ ?_
          exact ih _ _ _ _ _ _ _ e
        · rw [if_neg hx_276] at e
          refine go_iconst (v := 0) rfl (by decide) ?_
          cases e
          exact go_ret rfl (ck_rvb rfl (Or.inl rfl))
      rw [if_neg hx_265] at e
      by_cases hx_277 : ((gI h a0 (v3 : Int32).toNatClampNeg) &&& 31) = 21
      · rw [if_pos hx_277] at e
        refine go_tswI (off := 805) (t := 838) rfl (by rw [hx_277]; decide) (by rw [hx_277]; rfl) rfl ?_
        refine go_aload_n rfl rfl ?_
        refine go_aload_n rfl rfl ?_
        refine go_iload_n rfl rfl ?_
        refine go_iconst (v := 1) rfl (by decide) ?_
        refine go_iadd rfl ?_
        replace e := ck_as_e e
        obtain ⟨hc_278, e⟩ := e
        refine go_iald rfl hc_278 ?_
        replace e := ck_as_e e
        obtain ⟨hk_279, e⟩ := e
        replace e := ck_bd_e e
        obtain ⟨r280, h281, e282, e⟩ := e
        refine go_callV (As := [.int (gI h a0 (v3 + 1 : Int32).toNatClampNeg)]) (b0 := a1) (rest := []) rfl rfl ⟨hk_279, by decide⟩ rfl ⟨Nat.le_of_ble_eq_true rfl, Nat.le_of_ble_eq_true rfl, Nat.le_of_ble_eq_true rfl, Nat.le_of_ble_eq_true rfl⟩ (s_CS_rewrite e282) ?_
        show Go k_Lw_law 847 [some (.ref a0), some (.ref a1), some (.ref a2), some (.int v3)] [.int r280] h281 _
        refine go_aload_n rfl rfl ?_
        refine go_aload_n rfl rfl ?_
        refine go_iload_n rfl rfl ?_
        refine go_iconst (v := 1) rfl (by decide) ?_
        refine go_iadd rfl ?_
        replace e := ck_as_e e
        obtain ⟨hc_283, e⟩ := e
        refine go_iald rfl hc_283 ?_
        replace e := ck_as_e e
        obtain ⟨hk_284, e⟩ := e
        replace e := ck_bd_e e
        obtain ⟨r285, h286, e287, e⟩ := e
        refine go_callV (As := [.int (gI h281 a0 (v3 + 1 : Int32).toNatClampNeg)]) (b0 := a2) (rest := [.int r280]) rfl rfl ⟨hk_284, by decide⟩ rfl ⟨Nat.le_of_ble_eq_true rfl, Nat.le_of_ble_eq_true rfl, Nat.le_of_ble_eq_true rfl, Nat.le_of_ble_eq_true rfl⟩ (s_RM_rewrite e287) ?_
        show Go k_Lw_law 856 [some (.ref a0), some (.ref a1), some (.ref a2), some (.int v3)] [.int r285, .int r280] h286 _
        refine go_icmp_eq (t := 1075) rfl rfl (fun hx_288 => ?_) (fun hx_288 => ?_)
        · rw [if_pos hx_288] at e
          refine go_iinc (v := 6) rfl rfl (by decide) rfl ?_
          show Go k_Lw_law 1078 [some (.ref a0), some (.ref a1), some (.ref a2), some (.int (v3 + 6))] [] h286 _
          refine go_goto (t := 18) rfl rfl ?_
          refine go_forget (l := [some (.ref a0), some (.ref a1), some (.ref a2), some (.int (v3 + 6))]) ⟨Or.inl rfl, Or.inl rfl, Or.inl rfl, Or.inl rfl, trivial⟩ ?_
          exact ih _ _ _ _ _ _ _ e
        · rw [if_neg hx_288] at e
          refine go_iconst (v := 0) rfl (by decide) ?_
          cases e
          exact go_ret rfl (ck_rvb rfl (Or.inl rfl))
      rw [if_neg hx_277] at e
      by_cases hx_289 : ((gI h a0 (v3 : Int32).toNatClampNeg) &&& 31) = 22
      · rw [if_pos hx_289] at e
        refine go_tswI (off := 828) (t := 861) rfl (by rw [hx_289]; decide) (by rw [hx_289]; rfl) rfl ?_
        refine go_aload_n rfl rfl ?_
        refine go_aload_n rfl rfl ?_
        refine go_iload_n rfl rfl ?_
        refine go_iconst (v := 1) rfl (by decide) ?_
        refine go_iadd rfl ?_
        replace e := ck_as_e e
        obtain ⟨hc_290, e⟩ := e
        refine go_iald rfl hc_290 ?_
        replace e := ck_as_e e
        obtain ⟨hk_291, e⟩ := e
        replace e := ck_bd_e e
        obtain ⟨r292, h293, e294, e⟩ := e
        refine go_callV (As := [.int (gI h a0 (v3 + 1 : Int32).toNatClampNeg)]) (b0 := a1) (rest := []) rfl rfl ⟨hk_291, by decide⟩ rfl ⟨Nat.le_of_ble_eq_true rfl, Nat.le_of_ble_eq_true rfl, Nat.le_of_ble_eq_true rfl, Nat.le_of_ble_eq_true rfl⟩ (s_CS_putKeyed e294) ?_
        show Go k_Lw_law 870 [some (.ref a0), some (.ref a1), some (.ref a2), some (.int v3)] [.int r292] h293 _
        refine go_aload_n rfl rfl ?_
        refine go_aload_n rfl rfl ?_
        refine go_iload_n rfl rfl ?_
        refine go_iconst (v := 1) rfl (by decide) ?_
        refine go_iadd rfl ?_
        replace e := ck_as_e e
        obtain ⟨hc_295, e⟩ := e
        refine go_iald rfl hc_295 ?_
        replace e := ck_as_e e
        obtain ⟨hk_296, e⟩ := e
        replace e := ck_bd_e e
        obtain ⟨r297, h298, e299, e⟩ := e
        refine go_callV (As := [.int (gI h293 a0 (v3 + 1 : Int32).toNatClampNeg)]) (b0 := a2) (rest := [.int r292]) rfl rfl ⟨hk_296, by decide⟩ rfl ⟨Nat.le_of_ble_eq_true rfl, Nat.le_of_ble_eq_true rfl, Nat.le_of_ble_eq_true rfl, Nat.le_of_ble_eq_true rfl⟩ (s_RM_putKeyed e299) ?_
        show Go k_Lw_law 879 [some (.ref a0), some (.ref a1), some (.ref a2), some (.int v3)] [.int r297, .int r292] h298 _
        refine go_icmp_eq (t := 1075) rfl rfl (fun hx_300 => ?_) (fun hx_300 => ?_)
        · rw [if_pos hx_300] at e
          refine go_iinc (v := 6) rfl rfl (by decide) rfl ?_
          show Go k_Lw_law 1078 [some (.ref a0), some (.ref a1), some (.ref a2), some (.int (v3 + 6))] [] h298 _
          refine go_goto (t := 18) rfl rfl ?_
          refine go_forget (l := [some (.ref a0), some (.ref a1), some (.ref a2), some (.int (v3 + 6))]) ⟨Or.inl rfl, Or.inl rfl, Or.inl rfl, Or.inl rfl, trivial⟩ ?_
          exact ih _ _ _ _ _ _ _ e
        · rw [if_neg hx_300] at e
          refine go_iconst (v := 0) rfl (by decide) ?_
          cases e
          exact go_ret rfl (ck_rvb rfl (Or.inl rfl))
      rw [if_neg hx_289] at e
      by_cases hx_301 : ((gI h a0 (v3 : Int32).toNatClampNeg) &&& 31) = 23
      · rw [if_pos hx_301] at e
        refine go_tswI (off := 851) (t := 884) rfl (by rw [hx_301]; decide) (by rw [hx_301]; rfl) rfl ?_
        refine go_aload_n rfl rfl ?_
        refine go_aload_n rfl rfl ?_
        refine go_iload_n rfl rfl ?_
        refine go_iconst (v := 1) rfl (by decide) ?_
        refine go_iadd rfl ?_
        replace e := ck_as_e e
        obtain ⟨hc_302, e⟩ := e
        refine go_iald rfl hc_302 ?_
        replace e := ck_as_e e
        obtain ⟨hk_303, e⟩ := e
        replace e := ck_bd_e e
        obtain ⟨r304, h305, e306, e⟩ := e
        refine go_callV (As := [.int (gI h a0 (v3 + 1 : Int32).toNatClampNeg)]) (b0 := a1) (rest := []) rfl rfl ⟨hk_303, by decide⟩ rfl ⟨Nat.le_of_ble_eq_true rfl, Nat.le_of_ble_eq_true rfl, Nat.le_of_ble_eq_true rfl, Nat.le_of_ble_eq_true rfl⟩ (s_CS_getKeyed e306) ?_
        show Go k_Lw_law 893 [some (.ref a0), some (.ref a1), some (.ref a2), some (.int v3)] [.int r304] h305 _
        refine go_aload_n rfl rfl ?_
        refine go_aload_n rfl rfl ?_
        refine go_iload_n rfl rfl ?_
        refine go_iconst (v := 1) rfl (by decide) ?_
        refine go_iadd rfl ?_
        replace e := ck_as_e e
        obtain ⟨hc_307, e⟩ := e
        refine go_iald rfl hc_307 ?_
        replace e := ck_as_e e
        obtain ⟨hk_308, e⟩ := e
        replace e := ck_bd_e e
        obtain ⟨r309, h310, e311, e⟩ := e
        refine go_callV (As := [.int (gI h305 a0 (v3 + 1 : Int32).toNatClampNeg)]) (b0 := a2) (rest := [.int r304]) rfl rfl ⟨hk_308, by decide⟩ rfl ⟨Nat.le_of_ble_eq_true rfl, Nat.le_of_ble_eq_true rfl, Nat.le_of_ble_eq_true rfl, Nat.le_of_ble_eq_true rfl⟩ (s_RM_getKeyed e311) ?_
        show Go k_Lw_law 902 [some (.ref a0), some (.ref a1), some (.ref a2), some (.int v3)] [.int r309, .int r304] h310 _
        refine go_icmp_eq (t := 1075) rfl rfl (fun hx_312 => ?_) (fun hx_312 => ?_)
        · rw [if_pos hx_312] at e
          refine go_iinc (v := 6) rfl rfl (by decide) rfl ?_
          show Go k_Lw_law 1078 [some (.ref a0), some (.ref a1), some (.ref a2), some (.int (v3 + 6))] [] h310 _
          refine go_goto (t := 18) rfl rfl ?_
          refine go_forget (l := [some (.ref a0), some (.ref a1), some (.ref a2), some (.int (v3 + 6))]) ⟨Or.inl rfl, Or.inl rfl, Or.inl rfl, Or.inl rfl, trivial⟩ ?_
          exact ih _ _ _ _ _ _ _ e
        · rw [if_neg hx_312] at e
          refine go_iconst (v := 0) rfl (by decide) ?_
          cases e
          exact go_ret rfl (ck_rvb rfl (Or.inl rfl))
      rw [if_neg hx_301] at e
      by_cases hx_313 : ((gI h a0 (v3 : Int32).toNatClampNeg) &&& 31) = 24
      · rw [if_pos hx_313] at e
        refine go_tswI (off := 874) (t := 907) rfl (by rw [hx_313]; decide) (by rw [hx_313]; rfl) rfl ?_
        refine go_aload_n rfl rfl ?_
        refine go_aload_n rfl rfl ?_
        refine go_iload_n rfl rfl ?_
        refine go_iconst (v := 1) rfl (by decide) ?_
        refine go_iadd rfl ?_
        replace e := ck_as_e e
        obtain ⟨hc_314, e⟩ := e
        refine go_iald rfl hc_314 ?_
        replace e := ck_as_e e
        obtain ⟨hk_315, e⟩ := e
        replace e := ck_bd_e e
        obtain ⟨r316, h317, e318, e⟩ := e
        refine go_callV (As := [.int (gI h a0 (v3 + 1 : Int32).toNatClampNeg)]) (b0 := a1) (rest := []) rfl rfl ⟨hk_315, by decide⟩ rfl ⟨Nat.le_of_ble_eq_true rfl, Nat.le_of_ble_eq_true rfl, Nat.le_of_ble_eq_true rfl, Nat.le_of_ble_eq_true rfl⟩ (s_CS_member e318) ?_
        show Go k_Lw_law 916 [some (.ref a0), some (.ref a1), some (.ref a2), some (.int v3)] [.int r316] h317 _
        refine go_aload_n rfl rfl ?_
        refine go_aload_n rfl rfl ?_
        refine go_iload_n rfl rfl ?_
        refine go_iconst (v := 1) rfl (by decide) ?_
        refine go_iadd rfl ?_
        replace e := ck_as_e e
        obtain ⟨hc_319, e⟩ := e
        refine go_iald rfl hc_319 ?_
        replace e := ck_as_e e
        obtain ⟨hk_320, e⟩ := e
        replace e := ck_bd_e e
        obtain ⟨r321, h322, e323, e⟩ := e
        refine go_callV (As := [.int (gI h317 a0 (v3 + 1 : Int32).toNatClampNeg)]) (b0 := a2) (rest := [.int r316]) rfl rfl ⟨hk_320, by decide⟩ rfl ⟨Nat.le_of_ble_eq_true rfl, Nat.le_of_ble_eq_true rfl, Nat.le_of_ble_eq_true rfl, Nat.le_of_ble_eq_true rfl⟩ (s_RM_member e323) ?_
        show Go k_Lw_law 925 [some (.ref a0), some (.ref a1), some (.ref a2), some (.int v3)] [.int r321, .int r316] h322 _
        refine go_icmp_eq (t := 1075) rfl rfl (fun hx_324 => ?_) (fun hx_324 => ?_)
        · rw [if_pos hx_324] at e
          refine go_iinc (v := 6) rfl rfl (by decide) rfl ?_
          show Go k_Lw_law 1078 [some (.ref a0), some (.ref a1), some (.ref a2), some (.int (v3 + 6))] [] h322 _
          refine go_goto (t := 18) rfl rfl ?_
          refine go_forget (l := [some (.ref a0), some (.ref a1), some (.ref a2), some (.int (v3 + 6))]) ⟨Or.inl rfl, Or.inl rfl, Or.inl rfl, Or.inl rfl, trivial⟩ ?_
          exact ih _ _ _ _ _ _ _ e
        · rw [if_neg hx_324] at e
          refine go_iconst (v := 0) rfl (by decide) ?_
          cases e
          exact go_ret rfl (ck_rvb rfl (Or.inl rfl))
      rw [if_neg hx_313] at e
      by_cases hx_325 : ((gI h a0 (v3 : Int32).toNatClampNeg) &&& 31) = 25
      · rw [if_pos hx_325] at e
        refine go_tswI (off := 897) (t := 930) rfl (by rw [hx_325]; decide) (by rw [hx_325]; rfl) rfl ?_
        refine go_aload_n rfl rfl ?_
        refine go_aload_n rfl rfl ?_
        refine go_iload_n rfl rfl ?_
        refine go_iconst (v := 1) rfl (by decide) ?_
        refine go_iadd rfl ?_
        replace e := ck_as_e e
        obtain ⟨hc_326, e⟩ := e
        refine go_iald rfl hc_326 ?_
        replace e := ck_as_e e
        obtain ⟨hk_327, e⟩ := e
        replace e := ck_bd_e e
        obtain ⟨r328, h329, e330, e⟩ := e
        refine go_callV (As := [.int (gI h a0 (v3 + 1 : Int32).toNatClampNeg)]) (b0 := a1) (rest := []) rfl rfl ⟨hk_327, by decide⟩ rfl ⟨Nat.le_of_ble_eq_true rfl, Nat.le_of_ble_eq_true rfl, Nat.le_of_ble_eq_true rfl, Nat.le_of_ble_eq_true rfl⟩ (s_CS_stow e330) ?_
        show Go k_Lw_law 939 [some (.ref a0), some (.ref a1), some (.ref a2), some (.int v3)] [.int r328] h329 _
        refine go_aload_n rfl rfl ?_
        refine go_aload_n rfl rfl ?_
        refine go_iload_n rfl rfl ?_
        refine go_iconst (v := 1) rfl (by decide) ?_
        refine go_iadd rfl ?_
        replace e := ck_as_e e
        obtain ⟨hc_331, e⟩ := e
        refine go_iald rfl hc_331 ?_
        replace e := ck_as_e e
        obtain ⟨hk_332, e⟩ := e
        replace e := ck_bd_e e
        obtain ⟨r333, h334, e335, e⟩ := e
        refine go_callV (As := [.int (gI h329 a0 (v3 + 1 : Int32).toNatClampNeg)]) (b0 := a2) (rest := [.int r328]) rfl rfl ⟨hk_332, by decide⟩ rfl ⟨Nat.le_of_ble_eq_true rfl, Nat.le_of_ble_eq_true rfl, Nat.le_of_ble_eq_true rfl, Nat.le_of_ble_eq_true rfl⟩ (s_RM_stow e335) ?_
        show Go k_Lw_law 948 [some (.ref a0), some (.ref a1), some (.ref a2), some (.int v3)] [.int r333, .int r328] h334 _
        refine go_icmp_eq (t := 1075) rfl rfl (fun hx_336 => ?_) (fun hx_336 => ?_)
        · rw [if_pos hx_336] at e
          refine go_iinc (v := 6) rfl rfl (by decide) rfl ?_
          show Go k_Lw_law 1078 [some (.ref a0), some (.ref a1), some (.ref a2), some (.int (v3 + 6))] [] h334 _
          refine go_goto (t := 18) rfl rfl ?_
          refine go_forget (l := [some (.ref a0), some (.ref a1), some (.ref a2), some (.int (v3 + 6))]) ⟨Or.inl rfl, Or.inl rfl, Or.inl rfl, Or.inl rfl, trivial⟩ ?_
          exact ih _ _ _ _ _ _ _ e
        · rw [if_neg hx_336] at e
          refine go_iconst (v := 0) rfl (by decide) ?_
          cases e
          exact go_ret rfl (ck_rvb rfl (Or.inl rfl))
      rw [if_neg hx_325] at e
      by_cases hx_337 : ((gI h a0 (v3 : Int32).toNatClampNeg) &&& 31) = 26
      · rw [if_pos hx_337] at e
        refine go_tswI (off := 920) (t := 953) rfl (by rw [hx_337]; decide) (by rw [hx_337]; rfl) rfl ?_
        refine go_aload_n rfl rfl ?_
        refine go_aload_n rfl rfl ?_
        refine go_iload_n rfl rfl ?_
        refine go_iconst (v := 1) rfl (by decide) ?_
        refine go_iadd rfl ?_
        replace e := ck_as_e e
        obtain ⟨hc_338, e⟩ := e
        refine go_iald rfl hc_338 ?_
        refine go_aload_n rfl rfl ?_
        refine go_iload_n rfl rfl ?_
        refine go_iconst (v := 2) rfl (by decide) ?_
        refine go_iadd rfl ?_
        replace e := ck_as_e e
        obtain ⟨hc_339, e⟩ := e
        refine go_iald rfl hc_339 ?_
        replace e := ck_as_e e
        obtain ⟨hk_340, e⟩ := e
        replace e := ck_bd_e e
        obtain ⟨r341, h342, e343, e⟩ := e
        refine go_callV (As := [.int (gI h a0 (v3 + 1 : Int32).toNatClampNeg), .int (gI h a0 (v3 + 2 : Int32).toNatClampNeg)]) (b0 := a1) (rest := []) rfl rfl ⟨hk_340, by decide⟩ rfl ⟨Nat.le_of_ble_eq_true rfl, Nat.le_of_ble_eq_true rfl, Nat.le_of_ble_eq_true rfl, Nat.le_of_ble_eq_true rfl⟩ (s_CS_memberAt e343) ?_
        show Go k_Lw_law 967 [some (.ref a0), some (.ref a1), some (.ref a2), some (.int v3)] [.int r341] h342 _
        refine go_aload_n rfl rfl ?_
        refine go_aload_n rfl rfl ?_
        refine go_iload_n rfl rfl ?_
        refine go_iconst (v := 1) rfl (by decide) ?_
        refine go_iadd rfl ?_
        replace e := ck_as_e e
        obtain ⟨hc_344, e⟩ := e
        refine go_iald rfl hc_344 ?_
        refine go_aload_n rfl rfl ?_
        refine go_iload_n rfl rfl ?_
        refine go_iconst (v := 2) rfl (by decide) ?_
        refine go_iadd rfl ?_
        replace e := ck_as_e e
        obtain ⟨hc_345, e⟩ := e
        refine go_iald rfl hc_345 ?_
        replace e := ck_as_e e
        obtain ⟨hk_346, e⟩ := e
        replace e := ck_bd_e e
        obtain ⟨r347, h348, e349, e⟩ := e
        refine go_callV (As := [.int (gI h342 a0 (v3 + 1 : Int32).toNatClampNeg), .int (gI h342 a0 (v3 + 2 : Int32).toNatClampNeg)]) (b0 := a2) (rest := [.int r341]) rfl rfl ⟨hk_346, by decide⟩ rfl ⟨Nat.le_of_ble_eq_true rfl, Nat.le_of_ble_eq_true rfl, Nat.le_of_ble_eq_true rfl, Nat.le_of_ble_eq_true rfl⟩ (s_RM_memberAt e349) ?_
        show Go k_Lw_law 981 [some (.ref a0), some (.ref a1), some (.ref a2), some (.int v3)] [.int r347, .int r341] h348 _
        refine go_icmp_eq (t := 1075) rfl rfl (fun hx_350 => ?_) (fun hx_350 => ?_)
        · rw [if_pos hx_350] at e
          refine go_iinc (v := 6) rfl rfl (by decide) rfl ?_
          show Go k_Lw_law 1078 [some (.ref a0), some (.ref a1), some (.ref a2), some (.int (v3 + 6))] [] h348 _
          refine go_goto (t := 18) rfl rfl ?_
          refine go_forget (l := [some (.ref a0), some (.ref a1), some (.ref a2), some (.int (v3 + 6))]) ⟨Or.inl rfl, Or.inl rfl, Or.inl rfl, Or.inl rfl, trivial⟩ ?_
          exact ih _ _ _ _ _ _ _ e
        · rw [if_neg hx_350] at e
          refine go_iconst (v := 0) rfl (by decide) ?_
          cases e
          exact go_ret rfl (ck_rvb rfl (Or.inl rfl))
      rw [if_neg hx_337] at e
      by_cases hx_351 : ((gI h a0 (v3 : Int32).toNatClampNeg) &&& 31) = 27
      · rw [if_pos hx_351] at e
        refine go_tswI (off := 953) (t := 986) rfl (by rw [hx_351]; decide) (by rw [hx_351]; rfl) rfl ?_
        refine go_aload_n rfl rfl ?_
        refine go_aload_n rfl rfl ?_
        refine go_iload_n rfl rfl ?_
        refine go_iconst (v := 1) rfl (by decide) ?_
        refine go_iadd rfl ?_
        replace e := ck_as_e e
        obtain ⟨hc_352, e⟩ := e
        refine go_iald rfl hc_352 ?_
        refine go_aload_n rfl rfl ?_
        refine go_iload_n rfl rfl ?_
        refine go_iconst (v := 2) rfl (by decide) ?_
        refine go_iadd rfl ?_
        replace e := ck_as_e e
        obtain ⟨hc_353, e⟩ := e
        refine go_iald rfl hc_353 ?_
        replace e := ck_as_e e
        obtain ⟨hk_354, e⟩ := e
        replace e := ck_bd_e e
        obtain ⟨r355, h356, e357, e⟩ := e
        refine go_callV (As := [.int (gI h a0 (v3 + 1 : Int32).toNatClampNeg), .int (gI h a0 (v3 + 2 : Int32).toNatClampNeg)]) (b0 := a1) (rest := []) rfl rfl ⟨hk_354, by decide⟩ rfl ⟨Nat.le_of_ble_eq_true rfl, Nat.le_of_ble_eq_true rfl, Nat.le_of_ble_eq_true rfl, Nat.le_of_ble_eq_true rfl⟩ (s_CS_drop e357) ?_
        show Go k_Lw_law 1000 [some (.ref a0), some (.ref a1), some (.ref a2), some (.int v3)] [.int r355] h356 _
        refine go_aload_n rfl rfl ?_
        refine go_aload_n rfl rfl ?_
        refine go_iload_n rfl rfl ?_
        refine go_iconst (v := 1) rfl (by decide) ?_
        refine go_iadd rfl ?_
        replace e := ck_as_e e
        obtain ⟨hc_358, e⟩ := e
        refine go_iald rfl hc_358 ?_
        refine go_aload_n rfl rfl ?_
        refine go_iload_n rfl rfl ?_
        refine go_iconst (v := 2) rfl (by decide) ?_
        refine go_iadd rfl ?_
        replace e := ck_as_e e
        obtain ⟨hc_359, e⟩ := e
        refine go_iald rfl hc_359 ?_
        replace e := ck_as_e e
        obtain ⟨hk_360, e⟩ := e
        replace e := ck_bd_e e
        obtain ⟨r361, h362, e363, e⟩ := e
        refine go_callV (As := [.int (gI h356 a0 (v3 + 1 : Int32).toNatClampNeg), .int (gI h356 a0 (v3 + 2 : Int32).toNatClampNeg)]) (b0 := a2) (rest := [.int r355]) rfl rfl ⟨hk_360, by decide⟩ rfl ⟨Nat.le_of_ble_eq_true rfl, Nat.le_of_ble_eq_true rfl, Nat.le_of_ble_eq_true rfl, Nat.le_of_ble_eq_true rfl⟩ (s_RM_drop e363) ?_
        show Go k_Lw_law 1014 [some (.ref a0), some (.ref a1), some (.ref a2), some (.int v3)] [.int r361, .int r355] h362 _
        refine go_icmp_eq (t := 1075) rfl rfl (fun hx_364 => ?_) (fun hx_364 => ?_)
        · rw [if_pos hx_364] at e
          refine go_iinc (v := 6) rfl rfl (by decide) rfl ?_
          show Go k_Lw_law 1078 [some (.ref a0), some (.ref a1), some (.ref a2), some (.int (v3 + 6))] [] h362 _
          refine go_goto (t := 18) rfl rfl ?_
          refine go_forget (l := [some (.ref a0), some (.ref a1), some (.ref a2), some (.int (v3 + 6))]) ⟨Or.inl rfl, Or.inl rfl, Or.inl rfl, Or.inl rfl, trivial⟩ ?_
          exact ih _ _ _ _ _ _ _ e
        · rw [if_neg hx_364] at e
          refine go_iconst (v := 0) rfl (by decide) ?_
          cases e
          exact go_ret rfl (ck_rvb rfl (Or.inl rfl))
      rw [if_neg hx_351] at e
      by_cases hx_365 : ((gI h a0 (v3 : Int32).toNatClampNeg) &&& 31) = 28
      · rw [if_pos hx_365] at e
        refine go_tswI (off := 986) (t := 1019) rfl (by rw [hx_365]; decide) (by rw [hx_365]; rfl) rfl ?_
        refine go_aload_n rfl rfl ?_
        refine go_aload_n rfl rfl ?_
        refine go_iload_n rfl rfl ?_
        refine go_iconst (v := 1) rfl (by decide) ?_
        refine go_iadd rfl ?_
        replace e := ck_as_e e
        obtain ⟨hc_366, e⟩ := e
        refine go_iald rfl hc_366 ?_
        replace e := ck_as_e e
        obtain ⟨hk_367, e⟩ := e
        replace e := ck_bd_e e
        obtain ⟨r368, h369, e370, e⟩ := e
        refine go_callV (As := [.int (gI h a0 (v3 + 1 : Int32).toNatClampNeg)]) (b0 := a1) (rest := []) rfl rfl ⟨hk_367, by decide⟩ rfl ⟨Nat.le_of_ble_eq_true rfl, Nat.le_of_ble_eq_true rfl, Nat.le_of_ble_eq_true rfl, Nat.le_of_ble_eq_true rfl⟩ (s_CS_press e370) ?_
        show Go k_Lw_law 1028 [some (.ref a0), some (.ref a1), some (.ref a2), some (.int v3)] [.int r368] h369 _
        refine go_aload_n rfl rfl ?_
        refine go_aload_n rfl rfl ?_
        refine go_iload_n rfl rfl ?_
        refine go_iconst (v := 1) rfl (by decide) ?_
        refine go_iadd rfl ?_
        replace e := ck_as_e e
        obtain ⟨hc_371, e⟩ := e
        refine go_iald rfl hc_371 ?_
        replace e := ck_as_e e
        obtain ⟨hk_372, e⟩ := e
        replace e := ck_bd_e e
        obtain ⟨r373, h374, e375, e⟩ := e
        refine go_callV (As := [.int (gI h369 a0 (v3 + 1 : Int32).toNatClampNeg)]) (b0 := a2) (rest := [.int r368]) rfl rfl ⟨hk_372, by decide⟩ rfl ⟨Nat.le_of_ble_eq_true rfl, Nat.le_of_ble_eq_true rfl, Nat.le_of_ble_eq_true rfl, Nat.le_of_ble_eq_true rfl⟩ (s_RM_press e375) ?_
        show Go k_Lw_law 1037 [some (.ref a0), some (.ref a1), some (.ref a2), some (.int v3)] [.int r373, .int r368] h374 _
        refine go_icmp_eq (t := 1075) rfl rfl (fun hx_376 => ?_) (fun hx_376 => ?_)
        · rw [if_pos hx_376] at e
          refine go_iinc (v := 6) rfl rfl (by decide) rfl ?_
          show Go k_Lw_law 1078 [some (.ref a0), some (.ref a1), some (.ref a2), some (.int (v3 + 6))] [] h374 _
          refine go_goto (t := 18) rfl rfl ?_
          refine go_forget (l := [some (.ref a0), some (.ref a1), some (.ref a2), some (.int (v3 + 6))]) ⟨Or.inl rfl, Or.inl rfl, Or.inl rfl, Or.inl rfl, trivial⟩ ?_
          exact ih _ _ _ _ _ _ _ e
        · rw [if_neg hx_376] at e
          refine go_iconst (v := 0) rfl (by decide) ?_
          cases e
          exact go_ret rfl (ck_rvb rfl (Or.inl rfl))
      rw [if_neg hx_365] at e
      by_cases hx_377 : ((gI h a0 (v3 : Int32).toNatClampNeg) &&& 31) = 29
      · rw [if_pos hx_377] at e
        refine go_tswI (off := 1009) (t := 1042) rfl (by rw [hx_377]; decide) (by rw [hx_377]; rfl) rfl ?_
        refine go_aload_n rfl rfl ?_
        refine go_aload_n rfl rfl ?_
        refine go_iload_n rfl rfl ?_
        refine go_iconst (v := 1) rfl (by decide) ?_
        refine go_iadd rfl ?_
        replace e := ck_as_e e
        obtain ⟨hc_378, e⟩ := e
        refine go_iald rfl hc_378 ?_
        refine go_aload_n rfl rfl ?_
        refine go_iload_n rfl rfl ?_
        refine go_iconst (v := 2) rfl (by decide) ?_
        refine go_iadd rfl ?_
        replace e := ck_as_e e
        obtain ⟨hc_379, e⟩ := e
        refine go_iald rfl hc_379 ?_
        replace e := ck_as_e e
        obtain ⟨hk_380, e⟩ := e
        replace e := ck_bd_e e
        obtain ⟨r381, h382, e383, e⟩ := e
        refine go_callV (As := [.int (gI h a0 (v3 + 1 : Int32).toNatClampNeg), .int (gI h a0 (v3 + 2 : Int32).toNatClampNeg)]) (b0 := a1) (rest := []) rfl rfl ⟨hk_380, by decide⟩ rfl ⟨Nat.le_of_ble_eq_true rfl, Nat.le_of_ble_eq_true rfl, Nat.le_of_ble_eq_true rfl, Nat.le_of_ble_eq_true rfl⟩ (s_CS_opened e383) ?_
        show Go k_Lw_law 1056 [some (.ref a0), some (.ref a1), some (.ref a2), some (.int v3)] [.int r381] h382 _
        refine go_aload_n rfl rfl ?_
        refine go_aload_n rfl rfl ?_
        refine go_iload_n rfl rfl ?_
        refine go_iconst (v := 1) rfl (by decide) ?_
        refine go_iadd rfl ?_
        replace e := ck_as_e e
        obtain ⟨hc_384, e⟩ := e
        refine go_iald rfl hc_384 ?_
        refine go_aload_n rfl rfl ?_
        refine go_iload_n rfl rfl ?_
        refine go_iconst (v := 2) rfl (by decide) ?_
        refine go_iadd rfl ?_
        replace e := ck_as_e e
        obtain ⟨hc_385, e⟩ := e
        refine go_iald rfl hc_385 ?_
        replace e := ck_as_e e
        obtain ⟨hk_386, e⟩ := e
        replace e := ck_bd_e e
        obtain ⟨r387, h388, e389, e⟩ := e
        refine go_callV (As := [.int (gI h382 a0 (v3 + 1 : Int32).toNatClampNeg), .int (gI h382 a0 (v3 + 2 : Int32).toNatClampNeg)]) (b0 := a2) (rest := [.int r381]) rfl rfl ⟨hk_386, by decide⟩ rfl ⟨Nat.le_of_ble_eq_true rfl, Nat.le_of_ble_eq_true rfl, Nat.le_of_ble_eq_true rfl, Nat.le_of_ble_eq_true rfl⟩ (s_RM_opened e389) ?_
        show Go k_Lw_law 1070 [some (.ref a0), some (.ref a1), some (.ref a2), some (.int v3)] [.int r387, .int r381] h388 _
        refine go_icmp_eq (t := 1075) rfl rfl (fun hx_390 => ?_) (fun hx_390 => ?_)
        · rw [if_pos hx_390] at e
          refine go_iinc (v := 6) rfl rfl (by decide) rfl ?_
          show Go k_Lw_law 1078 [some (.ref a0), some (.ref a1), some (.ref a2), some (.int (v3 + 6))] [] h388 _
          refine go_goto (t := 18) rfl rfl ?_
          refine go_forget (l := [some (.ref a0), some (.ref a1), some (.ref a2), some (.int (v3 + 6))]) ⟨Or.inl rfl, Or.inl rfl, Or.inl rfl, Or.inl rfl, trivial⟩ ?_
          exact ih _ _ _ _ _ _ _ e
        · rw [if_neg hx_390] at e
          refine go_iconst (v := 0) rfl (by decide) ?_
          cases e
          exact go_ret rfl (ck_rvb rfl (Or.inl rfl))
      rw [if_neg hx_377] at e
      have hz_ : ((gI h a0 (v3 : Int32).toNatClampNeg) &&& 31 : Int32).toInt < 0 ∨ 29 < ((gI h a0 (v3 : Int32).toNatClampNeg) &&& 31 : Int32).toInt := by
        have z0 := lv_neT hx_4 (k := 0) (a := 0) rfl
        have z1 := lv_neT hx_24 (k := 1) (a := 1) rfl
        have z2 := lv_neT hx_36 (k := 2) (a := 2) rfl
        have z3 := lv_neT hx_48 (k := 3) (a := 3) rfl
        have z4 := lv_neT hx_68 (k := 4) (a := 4) rfl
        have z5 := lv_neT hx_80 (k := 5) (a := 5) rfl
        have z6 := lv_neT hx_92 (k := 6) (a := 6) rfl
        have z7 := lv_neT hx_104 (k := 7) (a := 7) rfl
        have z8 := lv_neT hx_116 (k := 8) (a := 8) rfl
        have z9 := lv_neT hx_126 (k := 9) (a := 9) rfl
        have z10 := lv_neT hx_140 (k := 10) (a := 10) rfl
        have z11 := lv_neT hx_158 (k := 11) (a := 11) rfl
        have z12 := lv_neT hx_174 (k := 12) (a := 12) rfl
        have z13 := lv_neT hx_181 (k := 13) (a := 13) rfl
        have z14 := lv_neT hx_191 (k := 14) (a := 14) rfl
        have z15 := lv_neT hx_203 (k := 15) (a := 15) rfl
        have z16 := lv_neT hx_217 (k := 16) (a := 16) rfl
        have z17 := lv_neT hx_229 (k := 17) (a := 17) rfl
        have z18 := lv_neT hx_241 (k := 18) (a := 18) rfl
        have z19 := lv_neT hx_253 (k := 19) (a := 19) rfl
        have z20 := lv_neT hx_265 (k := 20) (a := 20) rfl
        have z21 := lv_neT hx_277 (k := 21) (a := 21) rfl
        have z22 := lv_neT hx_289 (k := 22) (a := 22) rfl
        have z23 := lv_neT hx_301 (k := 23) (a := 23) rfl
        have z24 := lv_neT hx_313 (k := 24) (a := 24) rfl
        have z25 := lv_neT hx_325 (k := 25) (a := 25) rfl
        have z26 := lv_neT hx_337 (k := 26) (a := 26) rfl
        have z27 := lv_neT hx_351 (k := 27) (a := 27) rfl
        have z28 := lv_neT hx_365 (k := 28) (a := 28) rfl
        have z29 := lv_neT hx_377 (k := 29) (a := 29) rfl
        omega
      refine go_tswO (m := k_Lw_law) (pc := 33) (t := 1075) (d := 1042) (offs := #[135, 198, 221, 244, 307, 330, 353, 376, 399, 413, 446, 499, 542, 621, 634, 657, 690, 713, 736, 759, 782, 805, 828, 851, 874, 897, 920, 953, 986, 1009]) rfl hz_ rfl ?_
      refine go_iinc (v := 6) rfl rfl (by decide) rfl ?_
      show Go k_Lw_law 1078 [some (.ref a0), some (.ref a1), some (.ref a2), some (.int (v3 + 6))] [] h _
      refine go_goto (t := 18) rfl rfl ?_
      refine go_forget (l := [some (.ref a0), some (.ref a1), some (.ref a2), some (.int (v3 + 6))]) ⟨Or.inl rfl, Or.inl rfl, Or.inl rfl, Or.inl rfl, trivial⟩ ?_
      exact ih _ _ _ _ _ _ _ e
def f_Lw_law (F : Nat) (a0 : Nat) (h : ck_H) : Option (Int32 × ck_H) :=
  ck_then (gn h) fun b1 =>
  ck_then (wN h 11 8) fun h2 =>
  ck_bd (f_CS_init F b1 h2) fun _ h6 =>
  ck_then (gn h6) fun b8 =>
  ck_then (wN h6 12 79) fun h9 =>
  ck_bd (f_RM_init F b8 h9) fun _ h13 =>
  f_Lw_law_L18 F F a0 b1 b8 0 h13
set_option maxRecDepth 100000 in
set_option maxHeartbeats 4000000 in
theorem s_Lw_law {F : Nat} {a0 : Nat} {h h' : ck_H} {r : Int32} (e : f_Lw_law F a0 h = some (r, h')) : Go k_Lw_law 0 (ck_in [.ref a0] 4) [] h (some (.int r), h') := by
  unfold f_Lw_law at e
  show Go k_Lw_law 0 [some (.ref a0), none, none, none] [] h _
  refine go_new (kc := 11) (n := 8) rfl rfl (by decide) rfl ?_
  obtain ⟨b1, hg_3⟩ : ∃ z, z = gn h := ⟨_, rfl⟩
  rw [← hg_3] at e ⊢
  replace e := ck_then_e e
  have hk_4 : gk (wN h 11 8) b1 = 11 := by rw [hg_3, ck_gk_wN, if_pos rfl]
  generalize wN h 11 8 = h2 at e hk_4 ⊢
  replace e := ck_then_e e
  refine go_dup rfl rfl ?_
  replace e := ck_bd_e e
  obtain ⟨r5, h6, e7, e⟩ := e
  refine go_callI (As := []) (b0 := b1) (rest := [.ref b1]) rfl rfl rfl ⟨Nat.le_of_ble_eq_true rfl, Nat.le_of_ble_eq_true rfl, Nat.le_of_ble_eq_true rfl, Nat.le_of_ble_eq_true rfl⟩ (s_CS_init e7) ?_
  show Go k_Lw_law 7 [some (.ref a0), none, none, none] [.ref b1] h6 _
  refine go_astore_n rfl rfl ?_
  show Go k_Lw_law 8 [some (.ref a0), some (.ref b1), none, none] [] h6 _
  refine go_new (kc := 12) (n := 79) rfl rfl (by decide) rfl ?_
  obtain ⟨b8, hg_10⟩ : ∃ z, z = gn h6 := ⟨_, rfl⟩
  rw [← hg_10] at e ⊢
  replace e := ck_then_e e
  have hk_11 : gk (wN h6 12 79) b8 = 12 := by rw [hg_10, ck_gk_wN, if_pos rfl]
  generalize wN h6 12 79 = h9 at e hk_11 ⊢
  replace e := ck_then_e e
  refine go_dup rfl rfl ?_
  replace e := ck_bd_e e
  obtain ⟨r12, h13, e14, e⟩ := e
  refine go_callI (As := []) (b0 := b8) (rest := [.ref b8]) rfl rfl rfl ⟨Nat.le_of_ble_eq_true rfl, Nat.le_of_ble_eq_true rfl, Nat.le_of_ble_eq_true rfl, Nat.le_of_ble_eq_true rfl⟩ (s_RM_init e14) ?_
  show Go k_Lw_law 15 [some (.ref a0), some (.ref b1), none, none] [.ref b8] h13 _
  refine go_astore_n rfl rfl ?_
  show Go k_Lw_law 16 [some (.ref a0), some (.ref b1), some (.ref b8), none] [] h13 _
  refine go_iconst (v := 0) rfl (by decide) ?_
  refine go_istore_n rfl rfl ?_
  show Go k_Lw_law 18 [some (.ref a0), some (.ref b1), some (.ref b8), some (.int 0)] [] h13 _
  refine go_forget (l := [some (.ref a0), some (.ref b1), some (.ref b8), some (.int 0)]) ⟨Or.inl rfl, Or.inl rfl, Or.inl rfl, Or.inl rfl, trivial⟩ ?_
  exact f_Lw_law_L18_s F F _ _ _ _ _ _ _ e
