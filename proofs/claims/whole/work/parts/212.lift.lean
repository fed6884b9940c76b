def f_RM_isRight_J137 (F : Nat)  (a0 : Nat) (v1 : Int32) (v2 : Int32) (v3 : Int32) (s0 : Int32) (h : ck_H) : Option (Int32 × ck_H) :=
  ck_as (gk h a0 = 12) <|
  ck_bd (f_RM_leader F a0 v1 h) fun r2 h3 =>
  if v2 = 1 then
    if v3 = (2 : Int32) then
      some (1, h3)
    else
      some (0, h3)
  else
  if v2 = 2 then
    if v3 = (1 : Int32) then
      some (1, h3)
    else
      some (0, h3)
  else
  if v2 = 3 then
    if v3 = (2 : Int32) then
      some (1, h3)
    else
      some (0, h3)
  else
  if v2 = 4 then
    if v3 = (3 : Int32) then
      some (1, h3)
    else
      some (0, h3)
  else
  if v2 = 5 then
    ck_bd (f_RM_in F ((v3 : Int32).toInt64) 1 60 h3) fun r14 h15 =>
    ck_as (r14 = 0 ∨ r14 = 1) <|
    some (r14, h15)
  else
  if v2 = 6 then
    ck_bd (f_RM_in F ((v3 : Int32).toInt64) 1 60 h3) fun r19 h20 =>
    ck_as (r19 = 0 ∨ r19 = 1) <|
    some (r19, h20)
  else
  if v2 = 7 then
    some (1, h3)
  else
  if v2 = 8 then
    some (1, h3)
  else
  if v2 = 9 then
    some (1, h3)
  else
  if v2 = 10 then
    some (1, h3)
  else
  if v2 = 11 then
    some (1, h3)
  else
  if v2 = 12 then
    if r2 = (4 : Int32) then
      some (1, h3)
    else
      if r2 = (5 : Int32) then
        some (1, h3)
      else
        if r2 = (6 : Int32) then
          some (1, h3)
        else
          some (0, h3)
  else
  if v2 = 13 then
    if r2 = (4 : Int32) then
      some (1, h3)
    else
      some (0, h3)
  else
  if v2 = 14 then
    if v3 < (6 : Int32) then
      some (0, h3)
    else
      if r2 = (0 : Int32) then
        if s0 = (0 : Int32) then
          some (0, h3)
        else
          some (1, h3)
      else
        some (1, h3)
  else
  if v2 = 15 then
    if r2 = (0 : Int32) then
      if s0 = (0 : Int32) then
        some (0, h3)
      else
        some (1, h3)
    else
      some (1, h3)
  else
    some (1, h3)
set_option maxRecDepth 100000 in
set_option maxHeartbeats 4000000 in
theorem f_RM_isRight_J137_s (F : Nat)   (a0 : Nat) (v1 : Int32) (v2 : Int32) (v3 : Int32) (s0 : Int32) (h : ck_H) (r : Int32) (h' : ck_H) (e : f_RM_isRight_J137 F  a0 v1 v2 v3 s0 h = some (r, h')) : Go k_RM_isRight 137 [some (.ref a0), some (.int v1), some (.int v2), some (.int v3), none, none] [.int s0] h (some (.int r), h') := by
  unfold f_RM_isRight_J137 at e
  refine go_istore rfl rfl ?_
  show Go k_RM_isRight 139 [some (.ref a0), some (.int v1), some (.int v2), some (.int v3), some (.int s0), none] [] h _
  refine go_aload_n rfl rfl ?_
  refine go_iload_n rfl rfl ?_
  replace e := ck_as_e e
  obtain ⟨hk_1, e⟩ := e
  replace e := ck_bd_e e
  obtain ⟨r2, h3, e4, e⟩ := e
  refine go_callV (As := [.int v1]) (b0 := a0) (rest := []) rfl rfl ⟨hk_1, by decide⟩ rfl ⟨Nat.le_of_ble_eq_true rfl, Nat.le_of_ble_eq_true rfl, Nat.le_of_ble_eq_true rfl, Nat.le_of_ble_eq_true rfl⟩ (s_RM_leader e4) ?_
  show Go k_RM_isRight 144 [some (.ref a0), some (.int v1), some (.int v2), some (.int v3), some (.int s0), none] [.int r2] h3 _
  refine go_istore rfl rfl ?_
  show Go k_RM_isRight 146 [some (.ref a0), some (.int v1), some (.int v2), some (.int v3), some (.int s0), some (.int r2)] [] h3 _
  refine go_iload_n rfl rfl ?_
  by_cases hx_5 : v2 = 1
  · rw [if_pos hx_5] at e
    refine go_tswI (off := 73) (t := 220) rfl (by rw [hx_5]; decide) (by rw [hx_5]; rfl) rfl ?_
    refine go_iload_n rfl rfl ?_
    refine go_iconst (v := 2) rfl (by decide) ?_
    refine go_icmp_ne (t := 229) rfl rfl (fun hx_6 => ?_) (fun hx_6 => ?_)
    · rw [if_pos hx_6] at e
      refine go_iconst (v := 1) rfl (by decide) ?_
      refine go_goto (t := 230) rfl rfl ?_
      cases e
      exact go_ret rfl (ck_rvb rfl (Or.inr rfl))
    · rw [if_neg hx_6] at e
      refine go_iconst (v := 0) rfl (by decide) ?_
      cases e
      exact go_ret rfl (ck_rvb rfl (Or.inl rfl))
  rw [if_neg hx_5] at e
  by_cases hx_7 : v2 = 2
  · rw [if_pos hx_7] at e
    refine go_tswI (off := 84) (t := 231) rfl (by rw [hx_7]; decide) (by rw [hx_7]; rfl) rfl ?_
    refine go_iload_n rfl rfl ?_
    refine go_iconst (v := 1) rfl (by decide) ?_
    refine go_icmp_ne (t := 240) rfl rfl (fun hx_8 => ?_) (fun hx_8 => ?_)
    · rw [if_pos hx_8] at e
      refine go_iconst (v := 1) rfl (by decide) ?_
      refine go_goto (t := 241) rfl rfl ?_
      cases e
      exact go_ret rfl (ck_rvb rfl (Or.inr rfl))
    · rw [if_neg hx_8] at e
      refine go_iconst (v := 0) rfl (by decide) ?_
      cases e
      exact go_ret rfl (ck_rvb rfl (Or.inl rfl))
  rw [if_neg hx_7] at e
  by_cases hx_9 : v2 = 3
  · rw [if_pos hx_9] at e
    refine go_tswI (off := 73) (t := 220) rfl (by rw [hx_9]; decide) (by rw [hx_9]; rfl) rfl ?_
    refine go_iload_n rfl rfl ?_
    refine go_iconst (v := 2) rfl (by decide) ?_
    refine go_icmp_ne (t := 229) rfl rfl (fun hx_10 => ?_) (fun hx_10 => ?_)
    · rw [if_pos hx_10] at e
      refine go_iconst (v := 1) rfl (by decide) ?_
      refine go_goto (t := 230) rfl rfl ?_
      cases e
      exact go_ret rfl (ck_rvb rfl (Or.inr rfl))
    · rw [if_neg hx_10] at e
      refine go_iconst (v := 0) rfl (by decide) ?_
      cases e
      exact go_ret rfl (ck_rvb rfl (Or.inl rfl))
  rw [if_neg hx_9] at e
  by_cases hx_11 : v2 = 4
  · rw [if_pos hx_11] at e
    refine go_tswI (off := 95) (t := 242) rfl (by rw [hx_11]; decide) (by rw [hx_11]; rfl) rfl ?_
    refine go_iload_n rfl rfl ?_
    refine go_iconst (v := 3) rfl (by decide) ?_
    refine go_icmp_ne (t := 251) rfl rfl (fun hx_12 => ?_) (fun hx_12 => ?_)
    · rw [if_pos hx_12] at e
      refine go_iconst (v := 1) rfl (by decide) ?_
      refine go_goto (t := 252) rfl rfl ?_
      cases e
      exact go_ret rfl (ck_rvb rfl (Or.inr rfl))
    · rw [if_neg hx_12] at e
      refine go_iconst (v := 0) rfl (by decide) ?_
      cases e
      exact go_ret rfl (ck_rvb rfl (Or.inl rfl))
  rw [if_neg hx_11] at e
  by_cases hx_13 : v2 = 5
  · rw [if_pos hx_13] at e
    refine go_tswI (off := 106) (t := 253) rfl (by rw [hx_13]; decide) (by rw [hx_13]; rfl) rfl ?_
    refine go_iload_n rfl rfl ?_
    refine go_i2l rfl ?_
    refine go_lconst (v := 1) rfl (by decide) ?_
    refine go_ldc2 (v := 60) rfl rfl ?_
    replace e := ck_bd_e e
    obtain ⟨r14, h15, e16, e⟩ := e
    refine go_callS (As := [.long ((v3 : Int32).toInt64), .long 1, .long 60]) (rest := []) rfl rfl rfl ⟨Nat.le_of_ble_eq_true rfl, Nat.le_of_ble_eq_true rfl, Nat.le_of_ble_eq_true rfl, Nat.le_of_ble_eq_true rfl⟩ (s_RM_in e16) ?_
    show Go k_RM_isRight 262 [some (.ref a0), some (.int v1), some (.int v2), some (.int v3), some (.int s0), some (.int r2)] [.int r14] h15 _
    replace e := ck_as_e e
    obtain ⟨hc_17, e⟩ := e
    cases e
    exact go_ret rfl (ck_rvb rfl hc_17)
  rw [if_neg hx_13] at e
  by_cases hx_18 : v2 = 6
  · rw [if_pos hx_18] at e
    refine go_tswI (off := 106) (t := 253) rfl (by rw [hx_18]; decide) (by rw [hx_18]; rfl) rfl ?_
    refine go_iload_n rfl rfl ?_
    refine go_i2l rfl ?_
    refine go_lconst (v := 1) rfl (by decide) ?_
    refine go_ldc2 (v := 60) rfl rfl ?_
    replace e := ck_bd_e e
    obtain ⟨r19, h20, e21, e⟩ := e
    refine go_callS (As := [.long ((v3 : Int32).toInt64), .long 1, .long 60]) (rest := []) rfl rfl rfl ⟨Nat.le_of_ble_eq_true rfl, Nat.le_of_ble_eq_true rfl, Nat.le_of_ble_eq_true rfl, Nat.le_of_ble_eq_true rfl⟩ (s_RM_in e21) ?_
    show Go k_RM_isRight 262 [some (.ref a0), some (.int v1), some (.int v2), some (.int v3), some (.int s0), some (.int r2)] [.int r19] h20 _
    replace e := ck_as_e e
    obtain ⟨hc_22, e⟩ := e
    cases e
    exact go_ret rfl (ck_rvb rfl hc_22)
  rw [if_neg hx_18] at e
  by_cases hx_23 : v2 = 7
  · rw [if_pos hx_23] at e
    refine go_tswI (off := 191) (t := 338) rfl (by rw [hx_23]; decide) (by rw [hx_23]; rfl) rfl ?_
    refine go_iconst (v := 1) rfl (by decide) ?_
    cases e
    exact go_ret rfl (ck_rvb rfl (Or.inr rfl))
  rw [if_neg hx_23] at e
  by_cases hx_24 : v2 = 8
  · rw [if_pos hx_24] at e
    refine go_tswI (off := 191) (t := 338) rfl (by rw [hx_24]; decide) (by rw [hx_24]; rfl) rfl ?_
    refine go_iconst (v := 1) rfl (by decide) ?_
    cases e
    exact go_ret rfl (ck_rvb rfl (Or.inr rfl))
  rw [if_neg hx_24] at e
  by_cases hx_25 : v2 = 9
  · rw [if_pos hx_25] at e
    refine go_tswI (off := 191) (t := 338) rfl (by rw [hx_25]; decide) (by rw [hx_25]; rfl) rfl ?_
    refine go_iconst (v := 1) rfl (by decide) ?_
    cases e
    exact go_ret rfl (ck_rvb rfl (Or.inr rfl))
  rw [if_neg hx_25] at e
  by_cases hx_26 : v2 = 10
  · rw [if_pos hx_26] at e
    refine go_tswI (off := 191) (t := 338) rfl (by rw [hx_26]; decide) (by rw [hx_26]; rfl) rfl ?_
    refine go_iconst (v := 1) rfl (by decide) ?_
    cases e
    exact go_ret rfl (ck_rvb rfl (Or.inr rfl))
  rw [if_neg hx_26] at e
  by_cases hx_27 : v2 = 11
  · rw [if_pos hx_27] at e
    refine go_tswI (off := 191) (t := 338) rfl (by rw [hx_27]; decide) (by rw [hx_27]; rfl) rfl ?_
    refine go_iconst (v := 1) rfl (by decide) ?_
    cases e
    exact go_ret rfl (ck_rvb rfl (Or.inr rfl))
  rw [if_neg hx_27] at e
  by_cases hx_28 : v2 = 12
  · rw [if_pos hx_28] at e
    refine go_tswI (off := 116) (t := 263) rfl (by rw [hx_28]; decide) (by rw [hx_28]; rfl) rfl ?_
    refine go_iload rfl rfl ?_
    refine go_iconst (v := 4) rfl (by decide) ?_
    refine go_icmp_eq (t := 282) rfl rfl (fun hx_29 => ?_) (fun hx_29 => ?_)
    · rw [if_pos hx_29] at e
      refine go_iconst (v := 1) rfl (by decide) ?_
      refine go_goto (t := 287) rfl rfl ?_
      cases e
      exact go_ret rfl (ck_rvb rfl (Or.inr rfl))
    · rw [if_neg hx_29] at e
      refine go_iload rfl rfl ?_
      refine go_iconst (v := 5) rfl (by decide) ?_
      refine go_icmp_eq (t := 282) rfl rfl (fun hx_30 => ?_) (fun hx_30 => ?_)
      · rw [if_pos hx_30] at e
        refine go_iconst (v := 1) rfl (by decide) ?_
        refine go_goto (t := 287) rfl rfl ?_
        cases e
        exact go_ret rfl (ck_rvb rfl (Or.inr rfl))
      · rw [if_neg hx_30] at e
        refine go_iload rfl rfl ?_
        refine go_bipush (v := 6) rfl (by decide) ?_
        refine go_icmp_ne (t := 286) rfl rfl (fun hx_31 => ?_) (fun hx_31 => ?_)
        · rw [if_pos hx_31] at e
          refine go_iconst (v := 1) rfl (by decide) ?_
          refine go_goto (t := 287) rfl rfl ?_
          cases e
          exact go_ret rfl (ck_rvb rfl (Or.inr rfl))
        · rw [if_neg hx_31] at e
          refine go_iconst (v := 0) rfl (by decide) ?_
          cases e
          exact go_ret rfl (ck_rvb rfl (Or.inl rfl))
  rw [if_neg hx_28] at e
  by_cases hx_32 : v2 = 13
  · rw [if_pos hx_32] at e
    refine go_tswI (off := 141) (t := 288) rfl (by rw [hx_32]; decide) (by rw [hx_32]; rfl) rfl ?_
    refine go_iload rfl rfl ?_
    refine go_iconst (v := 4) rfl (by decide) ?_
    refine go_icmp_ne (t := 298) rfl rfl (fun hx_33 => ?_) (fun hx_33 => ?_)
    · rw [if_pos hx_33] at e
      refine go_iconst (v := 1) rfl (by decide) ?_
      refine go_goto (t := 299) rfl rfl ?_
      cases e
      exact go_ret rfl (ck_rvb rfl (Or.inr rfl))
    · rw [if_neg hx_33] at e
      refine go_iconst (v := 0) rfl (by decide) ?_
      cases e
      exact go_ret rfl (ck_rvb rfl (Or.inl rfl))
  rw [if_neg hx_32] at e
  by_cases hx_34 : v2 = 14
  · rw [if_pos hx_34] at e
    refine go_tswI (off := 153) (t := 300) rfl (by rw [hx_34]; decide) (by rw [hx_34]; rfl) rfl ?_
    refine go_iload_n rfl rfl ?_
    refine go_bipush (v := 6) rfl (by decide) ?_
    refine go_icmp_lt (t := 320) rfl rfl (fun hx_35 => ?_) (fun hx_35 => ?_)
    · rw [if_pos hx_35] at e
      refine go_iconst (v := 0) rfl (by decide) ?_
      cases e
      exact go_ret rfl (ck_rvb rfl (Or.inl rfl))
    · rw [if_neg hx_35] at e
      refine go_iload rfl rfl ?_
      refine go_if_ne (t := 316) rfl rfl (fun hx_36 => ?_) (fun hx_36 => ?_)
      · rw [if_pos hx_36] at e
        refine go_iload rfl rfl ?_
        refine go_if_eq (t := 320) rfl rfl (fun hx_37 => ?_) (fun hx_37 => ?_)
        · rw [if_pos hx_37] at e
          refine go_iconst (v := 0) rfl (by decide) ?_
          cases e
          exact go_ret rfl (ck_rvb rfl (Or.inl rfl))
        · rw [if_neg hx_37] at e
          refine go_iconst (v := 1) rfl (by decide) ?_
          refine go_goto (t := 321) rfl rfl ?_
          cases e
          exact go_ret rfl (ck_rvb rfl (Or.inr rfl))
      · rw [if_neg hx_36] at e
        refine go_iconst (v := 1) rfl (by decide) ?_
        refine go_goto (t := 321) rfl rfl ?_
        cases e
        exact go_ret rfl (ck_rvb rfl (Or.inr rfl))
  rw [if_neg hx_34] at e
  by_cases hx_38 : v2 = 15
  · rw [if_pos hx_38] at e
    refine go_tswI (off := 175) (t := 322) rfl (by rw [hx_38]; decide) (by rw [hx_38]; rfl) rfl ?_
    refine go_iload rfl rfl ?_
    refine go_if_ne (t := 332) rfl rfl (fun hx_39 => ?_) (fun hx_39 => ?_)
    · rw [if_pos hx_39] at e
      refine go_iload rfl rfl ?_
      refine go_if_eq (t := 336) rfl rfl (fun hx_40 => ?_) (fun hx_40 => ?_)
      · rw [if_pos hx_40] at e
        refine go_iconst (v := 0) rfl (by decide) ?_
        cases e
        exact go_ret rfl (ck_rvb rfl (Or.inl rfl))
      · rw [if_neg hx_40] at e
        refine go_iconst (v := 1) rfl (by decide) ?_
        refine go_goto (t := 337) rfl rfl ?_
        cases e
        exact go_ret rfl (ck_rvb rfl (Or.inr rfl))
    · rw [if_neg hx_39] at e
      refine go_iconst (v := 1) rfl (by decide) ?_
      refine go_goto (t := 337) rfl rfl ?_
      cases e
      exact go_ret rfl (ck_rvb rfl (Or.inr rfl))
  rw [if_neg hx_38] at e
  have hz_ : (v2 : Int32).toInt < 1 ∨ 15 < (v2 : Int32).toInt := by
    have z0 := lv_neT hx_5 (k := 1) (a := 1) rfl
    have z1 := lv_neT hx_7 (k := 2) (a := 2) rfl
    have z2 := lv_neT hx_9 (k := 3) (a := 3) rfl
    have z3 := lv_neT hx_11 (k := 4) (a := 4) rfl
    have z4 := lv_neT hx_13 (k := 5) (a := 5) rfl
    have z5 := lv_neT hx_18 (k := 6) (a := 6) rfl
    have z6 := lv_neT hx_23 (k := 7) (a := 7) rfl
    have z7 := lv_neT hx_24 (k := 8) (a := 8) rfl
    have z8 := lv_neT hx_25 (k := 9) (a := 9) rfl
    have z9 := lv_neT hx_26 (k := 10) (a := 10) rfl
    have z10 := lv_neT hx_27 (k := 11) (a := 11) rfl
    have z11 := lv_neT hx_28 (k := 12) (a := 12) rfl
    have z12 := lv_neT hx_32 (k := 13) (a := 13) rfl
    have z13 := lv_neT hx_34 (k := 14) (a := 14) rfl
    have z14 := lv_neT hx_38 (k := 15) (a := 15) rfl
    omega
  refine go_tswO (m := k_RM_isRight) (pc := 147) (t := 338) (d := 191) (offs := #[73, 84, 73, 95, 106, 106, 191, 191, 191, 191, 191, 116, 141, 153, 175]) rfl hz_ rfl ?_
  refine go_iconst (v := 1) rfl (by decide) ?_
  cases e
  exact go_ret rfl (ck_rvb rfl (Or.inr rfl))
def f_RM_isRight_J136 (F : Nat)  (a0 : Nat) (v1 : Int32) (v2 : Int32) (v3 : Int32) (h : ck_H) : Option (Int32 × ck_H) :=
  f_RM_isRight_J137 F a0 v1 v2 v3 0 h
set_option maxRecDepth 100000 in
set_option maxHeartbeats 4000000 in
theorem f_RM_isRight_J136_s (F : Nat)   (a0 : Nat) (v1 : Int32) (v2 : Int32) (v3 : Int32) (h : ck_H) (r : Int32) (h' : ck_H) (e : f_RM_isRight_J136 F  a0 v1 v2 v3 h = some (r, h')) : Go k_RM_isRight 136 [some (.ref a0), some (.int v1), some (.int v2), some (.int v3), none, none] [] h (some (.int r), h') := by
  unfold f_RM_isRight_J136 at e
  refine go_iconst (v := 0) rfl (by decide) ?_
  refine go_forget (l := [some (.ref a0), some (.int v1), some (.int v2), some (.int v3), none, none]) ⟨Or.inl rfl, Or.inl rfl, Or.inl rfl, Or.inl rfl, Or.inl rfl, Or.inl rfl, trivial⟩ ?_
  exact f_RM_isRight_J137_s F a0 v1 v2 v3 0 _ _ _ e
def f_RM_isRight_J115 (F : Nat)  (a0 : Nat) (v1 : Int32) (v2 : Int32) (v3 : Int32) (h : ck_H) : Option (Int32 × ck_H) :=
  if (0 : Int32) < v1 then
    ck_as (gk h a0 = 12) <|
    ck_some (gR h a0 15) fun b3 =>
    ck_as ((gk h b3 = 14 ∨ gk h b3 = 21) ∧ ¬ (v1 - 1) < 0 ∧ (v1 - 1 : Int32).toNatClampNeg < gz h b3) <|
    if (gI h b3 (v1 - 1 : Int32).toNatClampNeg) = (14 : Int32) then
      f_RM_isRight_J137 F a0 v1 v2 v3 1 h
    else
      f_RM_isRight_J136 F a0 v1 v2 v3 h
  else
    f_RM_isRight_J136 F a0 v1 v2 v3 h
set_option maxRecDepth 100000 in
set_option maxHeartbeats 4000000 in
theorem f_RM_isRight_J115_s (F : Nat)   (a0 : Nat) (v1 : Int32) (v2 : Int32) (v3 : Int32) (h : ck_H) (r : Int32) (h' : ck_H) (e : f_RM_isRight_J115 F  a0 v1 v2 v3 h = some (r, h')) : Go k_RM_isRight 115 [some (.ref a0), some (.int v1), some (.int v2), some (.int v3), none, none] [] h (some (.int r), h') := by
  unfold f_RM_isRight_J115 at e
  refine go_iload_n rfl rfl ?_
  refine go_if_le (t := 136) rfl rfl (fun hx_1 => ?_) (fun hx_1 => ?_)
  · rw [if_pos hx_1] at e
    refine go_aload_n rfl rfl ?_
    replace e := ck_as_e e
    obtain ⟨hk_2, e⟩ := e
    replace e := ck_some_e e
    obtain ⟨b3, hq_4, e⟩ := e
    refine go_get (v := .ref b3) rfl rfl hk_2 (by decide) (by show va_rf (gR h a0 15) = _; rw [hq_4]; rfl) ?_
    refine go_iload_n rfl rfl ?_
    refine go_iconst (v := 1) rfl (by decide) ?_
    refine go_isub rfl ?_
    replace e := ck_as_e e
    obtain ⟨hc_5, e⟩ := e
    refine go_iald rfl hc_5 ?_
    refine go_bipush (v := 14) rfl (by decide) ?_
    refine go_icmp_ne (t := 136) rfl rfl (fun hx_6 => ?_) (fun hx_6 => ?_)
    · rw [if_pos hx_6] at e
      refine go_iconst (v := 1) rfl (by decide) ?_
      refine go_goto (t := 137) rfl rfl ?_
      refine go_forget (l := [some (.ref a0), some (.int v1), some (.int v2), some (.int v3), none, none]) ⟨Or.inl rfl, Or.inl rfl, Or.inl rfl, Or.inl rfl, Or.inl rfl, Or.inl rfl, trivial⟩ ?_
      exact f_RM_isRight_J137_s F a0 v1 v2 v3 1 _ _ _ e
    · rw [if_neg hx_6] at e
      refine go_forget (l := [some (.ref a0), some (.int v1), some (.int v2), some (.int v3), none, none]) ⟨Or.inl rfl, Or.inl rfl, Or.inl rfl, Or.inl rfl, Or.inl rfl, Or.inl rfl, trivial⟩ ?_
      exact f_RM_isRight_J136_s F a0 v1 v2 v3 _ _ _ e
  · rw [if_neg hx_1] at e
    refine go_forget (l := [some (.ref a0), some (.int v1), some (.int v2), some (.int v3), none, none]) ⟨Or.inl rfl, Or.inl rfl, Or.inl rfl, Or.inl rfl, Or.inl rfl, Or.inl rfl, trivial⟩ ?_
    exact f_RM_isRight_J136_s F a0 v1 v2 v3 _ _ _ e
def f_RM_isRight (F : Nat) (a0 : Nat) (v1 : Int32) (h : ck_H) : Option (Int32 × ck_H) :=
  ck_as (gk h a0 = 12) <|
  ck_some (gR h a0 15) fun b2 =>
  ck_as ((gk h b2 = 14 ∨ gk h b2 = 21) ∧ ¬ v1 < 0 ∧ (v1 : Int32).toNatClampNeg < gz h b2) <|
  ck_then (gI h b2 (v1 : Int32).toNatClampNeg) fun x5 =>
  ck_bd (f_RM_in F ((x5 : Int32).toInt64) 1 16 h) fun r6 h7 =>
  if r6 = (0 : Int32) then
    some (0, h7)
  else
    ck_as (gk h7 a0 = 12) <|
    ck_some (gR h7 a0 17) fun b11 =>
    ck_as ((gk h7 b11 = 14 ∨ gk h7 b11 = 21) ∧ ¬ v1 < 0 ∧ (v1 : Int32).toNatClampNeg < gz h7 b11) <|
    ck_then (gI h7 b11 (v1 : Int32).toNatClampNeg) fun x14 =>
    if x5 = (7 : Int32) then
      if (0 : Int32) < v1 then
        ck_some (gR h7 a0 15) fun b17 =>
        ck_as ((gk h7 b17 = 14 ∨ gk h7 b17 = 21) ∧ ¬ (v1 - 1) < 0 ∧ (v1 - 1 : Int32).toNatClampNeg < gz h7 b17) <|
        ck_bd (f_RM_isSearch F a0 (gI h7 b17 (v1 - 1 : Int32).toNatClampNeg) h7) fun r20 h21 =>
        if r20 = (0 : Int32) then
          some (0, h21)
        else
          ck_as (gk h21 a0 = 12) <|
          ck_some (gR h21 a0 16) fun b25 =>
          ck_as ((gk h21 b25 = 14 ∨ gk h21 b25 = 21) ∧ ¬ v1 < 0 ∧ (v1 : Int32).toNatClampNeg < gz h21 b25) <|
          if (gI h21 b25 (v1 : Int32).toNatClampNeg) = (v1 - 1) then
            some (1, h21)
          else
            some (0, h21)
      else
        some (0, h7)
    else
      if x5 = (15 : Int32) then
        f_RM_isRight_J115 F a0 v1 x5 x14 h7
      else
        if x5 = (16 : Int32) then
          f_RM_isRight_J115 F a0 v1 x5 x14 h7
        else
          ck_some (gR h7 a0 16) fun b42 =>
          ck_as ((gk h7 b42 = 14 ∨ gk h7 b42 = 21) ∧ ¬ v1 < 0 ∧ (v1 : Int32).toNatClampNeg < gz h7 b42) <|
          if (gI h7 b42 (v1 : Int32).toNatClampNeg) < (0 : Int32) then
            some (0, h7)
          else
            if x14 < (0 : Int32) then
              some (0, h7)
            else
              ck_some (gR h7 a0 16) fun b47 =>
              ck_as ((gk h7 b47 = 14 ∨ gk h7 b47 = 21) ∧ ¬ v1 < 0 ∧ (v1 : Int32).toNatClampNeg < gz h7 b47) <|
              if (0 : Int32) < (lg_cmp (((gI h7 b47 (v1 : Int32).toNatClampNeg : Int32).toInt64) + ((x14 : Int32).toInt64)) 2048) then
                some (0, h7)
              else
                f_RM_isRight_J115 F a0 v1 x5 x14 h7
set_option maxRecDepth 100000 in
set_option maxHeartbeats 4000000 in
theorem s_RM_isRight {F : Nat} {a0 : Nat} {v1 : Int32} {h h' : ck_H} {r : Int32} (e : f_RM_isRight F a0 v1 h = some (r, h')) : Go k_RM_isRight 0 (ck_in [.ref a0, .int v1] 6) [] h (some (.int r), h') := by
  unfold f_RM_isRight at e
  show Go k_RM_isRight 0 [some (.ref a0), some (.int v1), none, none, none, none] [] h _
  refine go_aload_n rfl rfl ?_
  replace e := ck_as_e e
  obtain ⟨hk_1, e⟩ := e
  replace e := ck_some_e e
  obtain ⟨b2, hq_3, e⟩ := e
  refine go_get (v := .ref b2) rfl rfl hk_1 (by decide) (by show va_rf (gR h a0 15) = _; rw [hq_3]; rfl) ?_
  refine go_iload_n rfl rfl ?_
  replace e := ck_as_e e
  obtain ⟨hc_4, e⟩ := e
  refine go_iald rfl hc_4 ?_
  generalize gI h b2 (v1 : Int32).toNatClampNeg = x5 at e ⊢
  replace e := ck_then_e e
  refine go_istore_n rfl rfl ?_
  show Go k_RM_isRight 7 [some (.ref a0), some (.int v1), some (.int x5), none, none, none] [] h _
  refine go_iload_n rfl rfl ?_
  refine go_i2l rfl ?_
  refine go_lconst (v := 1) rfl (by decide) ?_
  refine go_ldc2 (v := 16) rfl rfl ?_
  replace e := ck_bd_e e
  obtain ⟨r6, h7, e8, e⟩ := e
  refine go_callS (As := [.long ((x5 : Int32).toInt64), .long 1, .long 16]) (rest := []) rfl rfl rfl ⟨Nat.le_of_ble_eq_true rfl, Nat.le_of_ble_eq_true rfl, Nat.le_of_ble_eq_true rfl, Nat.le_of_ble_eq_true rfl⟩ (s_RM_in e8) ?_
  show Go k_RM_isRight 16 [some (.ref a0), some (.int v1), some (.int x5), none, none, none] [.int r6] h7 _
  refine go_if_ne (t := 21) rfl rfl (fun hx_9 => ?_) (fun hx_9 => ?_)
  · rw [if_pos hx_9] at e
    refine go_iconst (v := 0) rfl (by decide) ?_
    cases e
    exact go_ret rfl (ck_rvb rfl (Or.inl rfl))
  · rw [if_neg hx_9] at e
    refine go_aload_n rfl rfl ?_
    replace e := ck_as_e e
    obtain ⟨hk_10, e⟩ := e
    replace e := ck_some_e e
    obtain ⟨b11, hq_12, e⟩ := e
    refine go_get (v := .ref b11) rfl rfl hk_10 (by decide) (by show va_rf (gR h7 a0 17) = _; rw [hq_12]; rfl) ?_
    refine go_iload_n rfl rfl ?_
    replace e := ck_as_e e
    obtain ⟨hc_13, e⟩ := e
    refine go_iald rfl hc_13 ?_
    generalize gI h7 b11 (v1 : Int32).toNatClampNeg = x14 at e ⊢
    replace e := ck_then_e e
    refine go_istore_n rfl rfl ?_
    show Go k_RM_isRight 28 [some (.ref a0), some (.int v1), some (.int x5), some (.int x14), none, none] [] h7 _
    refine go_iload_n rfl rfl ?_
    refine go_bipush (v := 7) rfl (by decide) ?_
    refine go_icmp_ne (t := 71) rfl rfl (fun hx_15 => ?_) (fun hx_15 => ?_)
    · rw [if_pos hx_15] at e
      refine go_iload_n rfl rfl ?_
      refine go_if_le (t := 69) rfl rfl (fun hx_16 => ?_) (fun hx_16 => ?_)
      · rw [if_pos hx_16] at e
        refine go_aload_n rfl rfl ?_
        refine go_aload_n rfl rfl ?_
        replace e := ck_some_e e
        obtain ⟨b17, hq_18, e⟩ := e
        refine go_get (v := .ref b17) rfl rfl hk_10 (by decide) (by show va_rf (gR h7 a0 15) = _; rw [hq_18]; rfl) ?_
        refine go_iload_n rfl rfl ?_
        refine go_iconst (v := 1) rfl (by decide) ?_
        refine go_isub rfl ?_
        replace e := ck_as_e e
        obtain ⟨hc_19, e⟩ := e
        refine go_iald rfl hc_19 ?_
        replace e := ck_bd_e e
        obtain ⟨r20, h21, e22, e⟩ := e
        refine go_callV (As := [.int (gI h7 b17 (v1 - 1 : Int32).toNatClampNeg)]) (b0 := a0) (rest := []) rfl rfl ⟨hk_10, by decide⟩ rfl ⟨Nat.le_of_ble_eq_true rfl, Nat.le_of_ble_eq_true rfl, Nat.le_of_ble_eq_true rfl, Nat.le_of_ble_eq_true rfl⟩ (s_RM_isSearch e22) ?_
        show Go k_RM_isRight 50 [some (.ref a0), some (.int v1), some (.int x5), some (.int x14), none, none] [.int r20] h21 _
        refine go_if_eq (t := 69) rfl rfl (fun hx_23 => ?_) (fun hx_23 => ?_)
        · rw [if_pos hx_23] at e
          refine go_iconst (v := 0) rfl (by decide) ?_
          cases e
          exact go_ret rfl (ck_rvb rfl (Or.inl rfl))
        · rw [if_neg hx_23] at e
          refine go_aload_n rfl rfl ?_
          replace e := ck_as_e e
          obtain ⟨hk_24, e⟩ := e
          replace e := ck_some_e e
          obtain ⟨b25, hq_26, e⟩ := e
          refine go_get (v := .ref b25) rfl rfl hk_24 (by decide) (by show va_rf (gR h21 a0 16) = _; rw [hq_26]; rfl) ?_
          refine go_iload_n rfl rfl ?_
          replace e := ck_as_e e
          obtain ⟨hc_27, e⟩ := e
          refine go_iald rfl hc_27 ?_
          refine go_iload_n rfl rfl ?_
          refine go_iconst (v := 1) rfl (by decide) ?_
          refine go_isub rfl ?_
          refine go_icmp_ne (t := 69) rfl rfl (fun hx_28 => ?_) (fun hx_28 => ?_)
          · rw [if_pos hx_28] at e
            refine go_iconst (v := 1) rfl (by decide) ?_
            refine go_goto (t := 70) rfl rfl ?_
            cases e
            exact go_ret rfl (ck_rvb rfl (Or.inr rfl))
          · rw [if_neg hx_28] at e
            refine go_iconst (v := 0) rfl (by decide) ?_
            cases e
            exact go_ret rfl (ck_rvb rfl (Or.inl rfl))
      · rw [if_neg hx_16] at e
        refine go_iconst (v := 0) rfl (by decide) ?_
        cases e
        exact go_ret rfl (ck_rvb rfl (Or.inl rfl))
    · rw [if_neg hx_15] at e
      refine go_iload_n rfl rfl ?_
      refine go_bipush (v := 15) rfl (by decide) ?_
      refine go_icmp_eq (t := 115) rfl rfl (fun hx_29 => ?_) (fun hx_29 => ?_)
      · rw [if_pos hx_29] at e
        refine go_forget (l := [some (.ref a0), some (.int v1), some (.int x5), some (.int x14), none, none]) ⟨Or.inl rfl, Or.inl rfl, Or.inl rfl, Or.inl rfl, Or.inl rfl, Or.inl rfl, trivial⟩ ?_
        exact f_RM_isRight_J115_s F a0 v1 x5 x14 _ _ _ e
      · rw [if_neg hx_29] at e
        refine go_iload_n rfl rfl ?_
        refine go_bipush (v := 16) rfl (by decide) ?_
        refine go_icmp_eq (t := 115) rfl rfl (fun hx_41 => ?_) (fun hx_41 => ?_)
        · rw [if_pos hx_41] at e
          refine go_forget (l := [some (.ref a0), some (.int v1), some (.int x5), some (.int x14), none, none]) ⟨Or.inl rfl, Or.inl rfl, Or.inl rfl, Or.inl rfl, Or.inl rfl, Or.inl rfl, trivial⟩ ?_
          exact f_RM_isRight_J115_s F a0 v1 x5 x14 _ _ _ e
        · rw [if_neg hx_41] at e
          refine go_aload_n rfl rfl ?_
          replace e := ck_some_e e
          obtain ⟨b42, hq_43, e⟩ := e
          refine go_get (v := .ref b42) rfl rfl hk_10 (by decide) (by show va_rf (gR h7 a0 16) = _; rw [hq_43]; rfl) ?_
          refine go_iload_n rfl rfl ?_
          replace e := ck_as_e e
          obtain ⟨hc_44, e⟩ := e
          refine go_iald rfl hc_44 ?_
          refine go_if_lt (t := 113) rfl rfl (fun hx_45 => ?_) (fun hx_45 => ?_)
          · rw [if_pos hx_45] at e
            refine go_iconst (v := 0) rfl (by decide) ?_
            cases e
            exact go_ret rfl (ck_rvb rfl (Or.inl rfl))
          · rw [if_neg hx_45] at e
            refine go_iload_n rfl rfl ?_
            refine go_if_lt (t := 113) rfl rfl (fun hx_46 => ?_) (fun hx_46 => ?_)
            · rw [if_pos hx_46] at e
              refine go_iconst (v := 0) rfl (by decide) ?_
              cases e
              exact go_ret rfl (ck_rvb rfl (Or.inl rfl))
            · rw [if_neg hx_46] at e
              refine go_aload_n rfl rfl ?_
              replace e := ck_some_e e
              obtain ⟨b47, hq_48, e⟩ := e
              refine go_get (v := .ref b47) rfl rfl hk_10 (by decide) (by show va_rf (gR h7 a0 16) = _; rw [hq_48]; rfl) ?_
              refine go_iload_n rfl rfl ?_
              replace e := ck_as_e e
              obtain ⟨hc_49, e⟩ := e
              refine go_iald rfl hc_49 ?_
              refine go_i2l rfl ?_
              refine go_iload_n rfl rfl ?_
              refine go_i2l rfl ?_
              refine go_ladd rfl ?_
              refine go_ldc2 (v := 2048) rfl rfl ?_
              refine go_lcmp rfl ?_
              refine go_if_le (t := 115) rfl rfl (fun hx_50 => ?_) (fun hx_50 => ?_)
              · rw [if_pos hx_50] at e
                refine go_iconst (v := 0) rfl (by decide) ?_
                cases e
                exact go_ret rfl (ck_rvb rfl (Or.inl rfl))
              · rw [if_neg hx_50] at e
                refine go_forget (l := [some (.ref a0), some (.int v1), some (.int x5), some (.int x14), none, none]) ⟨Or.inl rfl, Or.inl rfl, Or.inl rfl, Or.inl rfl, Or.inl rfl, Or.inl rfl, trivial⟩ ?_
                exact f_RM_isRight_J115_s F a0 v1 x5 x14 _ _ _ e
def f_RM_checks_L62 (F : Nat)  : Nat → Nat → Int32 → ck_H → Option (Int32 × ck_H)
  | 0, _, _, _ => none
  | n + 1, a0, v1, h =>
    ck_as (gk h a0 = 12) <|
    if v1 < (gI h a0 27) then
      ck_bd (f_RM_isRight F a0 v1 h) fun r3 h4 =>
      if r3 = (0 : Int32) then
        some (0, h4)
      else
        f_RM_checks_L62 F n a0 (v1 + 1) h4
    else
      some (1, h)
set_option maxRecDepth 100000 in
set_option maxHeartbeats 4000000 in
theorem f_RM_checks_L62_s (F : Nat)   : ∀ (n : Nat) (a0 : Nat) (v1 : Int32) (h : ck_H) (r : Int32) (h' : ck_H), f_RM_checks_L62 F n a0 v1 h = some (r, h') → Go k_RM_checks 62 [some (.ref a0), some (.int v1)] [] h (some (.int r), h') := by
  intro n
  induction n with
  | zero => intro a0 v1 h r h' e; simp only [f_RM_checks_L62] at e; cases e
  | succ n ih =>
    intro a0 v1 h r h' e
    rw [f_RM_checks_L62] at e
    refine go_iload_n rfl rfl ?_
    refine go_aload_n rfl rfl ?_
    replace e := ck_as_e e
    obtain ⟨hk_1, e⟩ := e
    refine go_get (v := .int (gI h a0 27)) rfl rfl hk_1 (by decide) rfl ?_
    refine go_icmp_ge (t := 86) rfl rfl (fun hx_2 => ?_) (fun hx_2 => ?_)
    · rw [if_pos hx_2] at e
      refine go_aload_n rfl rfl ?_
      refine go_iload_n rfl rfl ?_
      replace e := ck_bd_e e
      obtain ⟨r3, h4, e5, e⟩ := e
      refine go_callV (As := [.int v1]) (b0 := a0) (rest := []) rfl rfl ⟨hk_1, by decide⟩ rfl ⟨Nat.le_of_ble_eq_true rfl, Nat.le_of_ble_eq_true rfl, Nat.le_of_ble_eq_true rfl, Nat.le_of_ble_eq_true rfl⟩ (s_RM_isRight e5) ?_
      show Go k_RM_checks 75 [some (.ref a0), some (.int v1)] [.int r3] h4 _
      refine go_if_ne (t := 80) rfl rfl (fun hx_6 => ?_) (fun hx_6 => ?_)
      · rw [if_pos hx_6] at e
        refine go_iconst (v := 0) rfl (by decide) ?_
        cases e
        exact go_ret rfl (ck_rvb rfl (Or.inl rfl))
      · rw [if_neg hx_6] at e
        refine go_iinc (v := 1) rfl rfl (by decide) rfl ?_
        show Go k_RM_checks 83 [some (.ref a0), some (.int (v1 + 1))] [] h4 _
        refine go_goto (t := 62) rfl rfl ?_
        refine go_forget (l := [some (.ref a0), some (.int (v1 + 1))]) ⟨Or.inl rfl, Or.inl rfl, trivial⟩ ?_
        exact ih _ _ _ _ _ e
    · rw [if_neg hx_2] at e
      refine go_iconst (v := 1) rfl (by decide) ?_
      cases e
      exact go_ret rfl (ck_rvb rfl (Or.inr rfl))
def f_RM_checks_J40 (F : Nat)  (a0 : Nat) (h : ck_H) : Option (Int32 × ck_H) :=
  ck_as (gk h a0 = 12) <|
  if (gI h a0 27) = (32 : Int32) then
    ck_bd (f_RM_chains F a0 31 h) fun r3 h4 =>
    if r3 = (0 : Int32) then
      f_RM_checks_L62 F F a0 0 h4
    else
      some (0, h4)
  else
    f_RM_checks_L62 F F a0 0 h
set_option maxRecDepth 100000 in
set_option maxHeartbeats 4000000 in
theorem f_RM_checks_J40_s (F : Nat)   (a0 : Nat) (h : ck_H) (r : Int32) (h' : ck_H) (e : f_RM_checks_J40 F  a0 h = some (r, h')) : Go k_RM_checks 40 [some (.ref a0), none] [] h (some (.int r), h') := by
  unfold f_RM_checks_J40 at e
  refine go_aload_n rfl rfl ?_
  replace e := ck_as_e e
  obtain ⟨hk_1, e⟩ := e
  refine go_get (v := .int (gI h a0 27)) rfl rfl hk_1 (by decide) rfl ?_
  refine go_bipush (v := 32) rfl (by decide) ?_
  refine go_icmp_ne (t := 60) rfl rfl (fun hx_2 => ?_) (fun hx_2 => ?_)
  · rw [if_pos hx_2] at e
    refine go_aload_n rfl rfl ?_
    refine go_bipush (v := 31) rfl (by decide) ?_
    replace e := ck_bd_e e
    obtain ⟨r3, h4, e5, e⟩ := e
    refine go_callV (As := [.int 31]) (b0 := a0) (rest := []) rfl rfl ⟨hk_1, by decide⟩ rfl ⟨Nat.le_of_ble_eq_true rfl, Nat.le_of_ble_eq_true rfl, Nat.le_of_ble_eq_true rfl, Nat.le_of_ble_eq_true rfl⟩ (s_RM_chains e5) ?_
    show Go k_RM_checks 55 [some (.ref a0), none] [.int r3] h4 _
    refine go_if_eq (t := 60) rfl rfl (fun hx_6 => ?_) (fun hx_6 => ?_)
    · rw [if_pos hx_6] at e
      refine go_iconst (v := 0) rfl (by decide) ?_
      refine go_istore_n rfl rfl ?_
      show Go k_RM_checks 62 [some (.ref a0), some (.int 0)] [] h4 _
      refine go_forget (l := [some (.ref a0), some (.int 0)]) ⟨Or.inl rfl, Or.inl rfl, trivial⟩ ?_
      exact f_RM_checks_L62_s F F _ _ _ _ _ e
    · rw [if_neg hx_6] at e
      refine go_iconst (v := 0) rfl (by decide) ?_
      cases e
      exact go_ret rfl (ck_rvb rfl (Or.inl rfl))
  · rw [if_neg hx_2] at e
    refine go_iconst (v := 0) rfl (by decide) ?_
    refine go_istore_n rfl rfl ?_
    show Go k_RM_checks 62 [some (.ref a0), some (.int 0)] [] h _
    refine go_forget (l := [some (.ref a0), some (.int 0)]) ⟨Or.inl rfl, Or.inl rfl, trivial⟩ ?_
    exact f_RM_checks_L62_s F F _ _ _ _ _ e
def f_RM_checks_L5 (F : Nat)  : Nat → Nat → ck_H → Option (Int32 × ck_H)
  | 0, _, _ => none
  | n + 1, a0, h =>
    ck_as (gk h a0 = 12) <|
    if (gI h a0 27) < (32 : Int32) then
      ck_bd (f_RM_chains F a0 ((gI h a0 27) - 1) h) fun r3 h4 =>
      if r3 = (0 : Int32) then
        f_RM_checks_J40 F a0 h4
      else
        ck_as (gk h4 a0 = 12) <|
        ck_then (wI h4 a0 27 ((gI h4 a0 27) + 1)) fun h8 =>
        f_RM_checks_L5 F n a0 h8
    else
      f_RM_checks_J40 F a0 h
set_option maxRecDepth 100000 in
set_option maxHeartbeats 4000000 in
theorem f_RM_checks_L5_s (F : Nat)   : ∀ (n : Nat) (a0 : Nat) (h : ck_H) (r : Int32) (h' : ck_H), f_RM_checks_L5 F n a0 h = some (r, h') → Go k_RM_checks 5 [some (.ref a0), none] [] h (some (.int r), h') := by
  intro n
  induction n with
  | zero => intro a0 h r h' e; simp only [f_RM_checks_L5] at e; cases e
  | succ n ih =>
    intro a0 h r h' e
    rw [f_RM_checks_L5] at e
    refine go_aload_n rfl rfl ?_
    replace e := ck_as_e e
    obtain ⟨hk_1, e⟩ := e
    refine go_get (v := .int (gI h a0 27)) rfl rfl hk_1 (by decide) rfl ?_
    refine go_bipush (v := 32) rfl (by decide) ?_
    refine go_icmp_ge (t := 40) rfl rfl (fun hx_2 => ?_) (fun hx_2 => ?_)
    · rw [if_pos hx_2] at e
      refine go_aload_n rfl rfl ?_
      refine go_aload_n rfl rfl ?_
      refine go_get (v := .int (gI h a0 27)) rfl rfl hk_1 (by decide) rfl ?_
      refine go_iconst (v := 1) rfl (by decide) ?_
      refine go_isub rfl ?_
      replace e := ck_bd_e e
      obtain ⟨r3, h4, e5, e⟩ := e
      refine go_callV (As := [.int ((gI h a0 27) - 1)]) (b0 := a0) (rest := []) rfl rfl ⟨hk_1, by decide⟩ rfl ⟨Nat.le_of_ble_eq_true rfl, Nat.le_of_ble_eq_true rfl, Nat.le_of_ble_eq_true rfl, Nat.le_of_ble_eq_true rfl⟩ (s_RM_chains e5) ?_
      show Go k_RM_checks 24 [some (.ref a0), none] [.int r3] h4 _
      refine go_if_eq (t := 40) rfl rfl (fun hx_6 => ?_) (fun hx_6 => ?_)
      · rw [if_pos hx_6] at e
        refine go_forget (l := [some (.ref a0), none]) ⟨Or.inl rfl, Or.inl rfl, trivial⟩ ?_
        exact f_RM_checks_J40_s F a0 _ _ _ e
      · rw [if_neg hx_6] at e
        refine go_aload_n rfl rfl ?_
        refine go_dup rfl rfl ?_
        replace e := ck_as_e e
        obtain ⟨hk_7, e⟩ := e
        refine go_get (v := .int (gI h4 a0 27)) rfl rfl hk_7 (by decide) rfl ?_
        refine go_iconst (v := 1) rfl (by decide) ?_
        refine go_iadd rfl ?_
        refine go_put (h1 := wI h4 a0 27 ((gI h4 a0 27) + 1)) rfl rfl hk_7 ⟨by decide, by decide, Or.inl rfl⟩ rfl ?_
        have hk_9 : gk (wI h4 a0 27 ((gI h4 a0 27) + 1)) a0 = 12 := ck_kI.trans hk_7
        generalize wI h4 a0 27 ((gI h4 a0 27) + 1) = h8 at e hk_9 ⊢
        replace e := ck_then_e e
        refine go_goto (t := 5) rfl rfl ?_
        refine go_forget (l := [some (.ref a0), none]) ⟨Or.inl rfl, Or.inl rfl, trivial⟩ ?_
        exact ih _ _ _ _ e
    · rw [if_neg hx_2] at e
      refine go_forget (l := [some (.ref a0), none]) ⟨Or.inl rfl, Or.inl rfl, trivial⟩ ?_
      exact f_RM_checks_J40_s F a0 _ _ _ e
def f_RM_checks (F : Nat) (a0 : Nat) (h : ck_H) : Option (Int32 × ck_H) :=
  ck_as (gk h a0 = 12) <|
  ck_then (wI h a0 27 1) fun h2 =>
  f_RM_checks_L5 F F a0 h2
set_option maxRecDepth 100000 in
set_option maxHeartbeats 4000000 in
theorem s_RM_checks {F : Nat} {a0 : Nat} {h h' : ck_H} {r : Int32} (e : f_RM_checks F a0 h = some (r, h')) : Go k_RM_checks 0 (ck_in [.ref a0] 2) [] h (some (.int r), h') := by
  unfold f_RM_checks at e
  show Go k_RM_checks 0 [some (.ref a0), none] [] h _
  refine go_aload_n rfl rfl ?_
  refine go_iconst (v := 1) rfl (by decide) ?_
  replace e := ck_as_e e
  obtain ⟨hk_1, e⟩ := e
  refine go_put (h1 := wI h a0 27 1) rfl rfl hk_1 ⟨by decide, by decide, Or.inl rfl⟩ rfl ?_
  have hk_3 : gk (wI h a0 27 1) a0 = 12 := ck_kI.trans hk_1
  generalize wI h a0 27 1 = h2 at e hk_3 ⊢
  replace e := ck_then_e e
  refine go_forget (l := [some (.ref a0), none]) ⟨Or.inl rfl, Or.inl rfl, trivial⟩ ?_
  exact f_RM_checks_L5_s F F _ _ _ _ e
def f_RM_writes_L2 (F : Nat)  : Nat → Nat → Int32 → ck_H → Option (Int32 × ck_H)
  | 0, _, _, _ => none
  | n + 1, a0, v1, h =>
    ck_as (gk h a0 = 12) <|
    if v1 < (gI h a0 27) then
      ck_some (gR h a0 15) fun b3 =>
      ck_as ((gk h b3 = 14 ∨ gk h b3 = 21) ∧ ¬ v1 < 0 ∧ (v1 : Int32).toNatClampNeg < gz h b3) <|
      ck_bd (f_RM_in F ((gI h b3 (v1 : Int32).toNatClampNeg : Int32).toInt64) 12 15 h) fun r6 h7 =>
      if r6 = (0 : Int32) then
        f_RM_writes_L2 F n a0 (v1 + 1) h7
      else
        some (1, h7)
    else
      some (0, h)
set_option maxRecDepth 100000 in
set_option maxHeartbeats 4000000 in
theorem f_RM_writes_L2_s (F : Nat)   : ∀ (n : Nat) (a0 : Nat) (v1 : Int32) (h : ck_H) (r : Int32) (h' : ck_H), f_RM_writes_L2 F n a0 v1 h = some (r, h') → Go k_RM_writes 2 [some (.ref a0), some (.int v1)] [] h (some (.int r), h') := by
  intro n
  induction n with
  | zero => intro a0 v1 h r h' e; simp only [f_RM_writes_L2] at e; cases e
  | succ n ih =>
    intro a0 v1 h r h' e
    rw [f_RM_writes_L2] at e
    refine go_iload_n rfl rfl ?_
    refine go_aload_n rfl rfl ?_
    replace e := ck_as_e e
    obtain ⟨hk_1, e⟩ := e
    refine go_get (v := .int (gI h a0 27)) rfl rfl hk_1 (by decide) rfl ?_
    refine go_icmp_ge (t := 37) rfl rfl (fun hx_2 => ?_) (fun hx_2 => ?_)
    · rw [if_pos hx_2] at e
      refine go_aload_n rfl rfl ?_
      replace e := ck_some_e e
      obtain ⟨b3, hq_4, e⟩ := e
      refine go_get (v := .ref b3) rfl rfl hk_1 (by decide) (by show va_rf (gR h a0 15) = _; rw [hq_4]; rfl) ?_
      refine go_iload_n rfl rfl ?_
      replace e := ck_as_e e
      obtain ⟨hc_5, e⟩ := e
      refine go_iald rfl hc_5 ?_
      refine go_i2l rfl ?_
      refine go_ldc2 (v := 12) rfl rfl ?_
      refine go_ldc2 (v := 15) rfl rfl ?_
      replace e := ck_bd_e e
      obtain ⟨r6, h7, e8, e⟩ := e
      refine go_callS (As := [.long ((gI h b3 (v1 : Int32).toNatClampNeg : Int32).toInt64), .long 12, .long 15]) (rest := []) rfl rfl rfl ⟨Nat.le_of_ble_eq_true rfl, Nat.le_of_ble_eq_true rfl, Nat.le_of_ble_eq_true rfl, Nat.le_of_ble_eq_true rfl⟩ (s_RM_in e8) ?_
      show Go k_RM_writes 26 [some (.ref a0), some (.int v1)] [.int r6] h7 _
      refine go_if_eq (t := 31) rfl rfl (fun hx_9 => ?_) (fun hx_9 => ?_)
      · rw [if_pos hx_9] at e
        refine go_iinc (v := 1) rfl rfl (by decide) rfl ?_
        show Go k_RM_writes 34 [some (.ref a0), some (.int (v1 + 1))] [] h7 _
        refine go_goto (t := 2) rfl rfl ?_
        refine go_forget (l := [some (.ref a0), some (.int (v1 + 1))]) ⟨Or.inl rfl, Or.inl rfl, trivial⟩ ?_
        exact ih _ _ _ _ _ e
      · rw [if_neg hx_9] at e
        refine go_iconst (v := 1) rfl (by decide) ?_
        cases e
        exact go_ret rfl (ck_rvb rfl (Or.inr rfl))
    · rw [if_neg hx_2] at e
      refine go_iconst (v := 0) rfl (by decide) ?_
      cases e
      exact go_ret rfl (ck_rvb rfl (Or.inl rfl))
def f_RM_writes (F : Nat) (a0 : Nat) (h : ck_H) : Option (Int32 × ck_H) :=
  f_RM_writes_L2 F F a0 0 h
set_option maxRecDepth 100000 in
set_option maxHeartbeats 4000000 in
theorem s_RM_writes {F : Nat} {a0 : Nat} {h h' : ck_H} {r : Int32} (e : f_RM_writes F a0 h = some (r, h')) : Go k_RM_writes 0 (ck_in [.ref a0] 2) [] h (some (.int r), h') := by
  unfold f_RM_writes at e
  show Go k_RM_writes 0 [some (.ref a0), none] [] h _
  refine go_iconst (v := 0) rfl (by decide) ?_
  refine go_istore_n rfl rfl ?_
  show Go k_RM_writes 2 [some (.ref a0), some (.int 0)] [] h _
  refine go_forget (l := [some (.ref a0), some (.int 0)]) ⟨Or.inl rfl, Or.inl rfl, trivial⟩ ?_
  exact f_RM_writes_L2_s F F _ _ _ _ _ e
def f_RM_seek (F : Nat) (a0 : Nat) (v1 : Int32) (v2 : Int32) (v3 : Int32) (h : ck_H) : Option (Int32 × ck_H) :=
  ck_as (gk h a0 = 12) <|
  ck_then (wI h a0 28 0) fun h2 =>
  if v1 < (20 : Int32) then
    if v2 < (4 : Int32) then
      if v3 = (0 : Int32) then
        ck_some (gR h2 a0 19) fun b7 =>
        ck_as (gk h2 b7 = 14 ∧ ¬ (gI h2 a0 26) < 0 ∧ (gI h2 a0 26 : Int32).toNatClampNeg < gz h2 b7) <|
        ck_then (wI h2 b7 (gI h2 a0 26 : Int32).toNatClampNeg v1) fun h10 =>
        ck_some (gR h10 a0 20) fun b12 =>
        ck_as (gk h10 b12 = 14 ∧ ¬ (gI h10 a0 26) < 0 ∧ (gI h10 a0 26 : Int32).toNatClampNeg < gz h10 b12) <|
        ck_then (wI h10 b12 (gI h10 a0 26 : Int32).toNatClampNeg v2) fun h15 =>
        some ((-1), h15)
      else
        ck_some (gR h2 a0 19) fun b17 =>
        ck_as ((gk h2 b17 = 14 ∨ gk h2 b17 = 21) ∧ ¬ (gI h2 a0 26) < 0 ∧ (gI h2 a0 26 : Int32).toNatClampNeg < gz h2 b17) <|
        if v1 = (gI h2 b17 (gI h2 a0 26 : Int32).toNatClampNeg) then
          ck_some (gR h2 a0 19) fun b21 =>
          ck_as (gk h2 b21 = 14 ∧ ¬ (gI h2 a0 26) < 0 ∧ (gI h2 a0 26 : Int32).toNatClampNeg < gz h2 b21) <|
          ck_then (wI h2 b21 (gI h2 a0 26 : Int32).toNatClampNeg v1) fun h24 =>
          ck_some (gR h24 a0 20) fun b26 =>
          ck_as (gk h24 b26 = 14 ∧ ¬ (gI h24 a0 26) < 0 ∧ (gI h24 a0 26 : Int32).toNatClampNeg < gz h24 b26) <|
          ck_then (wI h24 b26 (gI h24 a0 26 : Int32).toNatClampNeg v2) fun h29 =>
          some ((-1), h29)
        else
          ck_some (gR h2 a0 19) fun b31 =>
          ck_as ((gk h2 b31 = 14 ∨ gk h2 b31 = 21) ∧ ¬ (gI h2 a0 26) < 0 ∧ (gI h2 a0 26 : Int32).toNatClampNeg < gz h2 b31) <|
          ck_bd (f_Ma_abs F (v1 - (gI h2 b31 (gI h2 a0 26 : Int32).toNatClampNeg)) h2) fun r34 h35 =>
          ck_as (gk h35 a0 = 12) <|
          ck_then (wJ h35 a0 21 ((gJ h2 a0 21) + ((50 + (20 * r34) : Int32).toInt64))) fun h38 =>
          ck_some (gR h38 a0 19) fun b40 =>
          ck_as (gk h38 b40 = 14 ∧ ¬ (gI h38 a0 26) < 0 ∧ (gI h38 a0 26 : Int32).toNatClampNeg < gz h38 b40) <|
          ck_then (wI h38 b40 (gI h38 a0 26 : Int32).toNatClampNeg v1) fun h43 =>
          ck_some (gR h43 a0 20) fun b45 =>
          ck_as (gk h43 b45 = 14 ∧ ¬ (gI h43 a0 26) < 0 ∧ (gI h43 a0 26 : Int32).toNatClampNeg < gz h43 b45) <|
          ck_then (wI h43 b45 (gI h43 a0 26 : Int32).toNatClampNeg v2) fun h48 =>
          some ((-1), h48)
    else
      some (6, h2)
  else
    some (6, h2)
set_option maxRecDepth 100000 in
set_option maxHeartbeats 4000000 in
theorem s_RM_seek {F : Nat} {a0 : Nat} {v1 : Int32} {v2 : Int32} {v3 : Int32} {h h' : ck_H} {r : Int32} (e : f_RM_seek F a0 v1 v2 v3 h = some (r, h')) : Go k_RM_seek 0 (ck_in [.ref a0, .int v1, .int v2, .int v3] 4) [] h (some (.int r), h') := by
  unfold f_RM_seek at e
  show Go k_RM_seek 0 [some (.ref a0), some (.int v1), some (.int v2), some (.int v3)] [] h _
  refine go_aload_n rfl rfl ?_
  refine go_iconst (v := 0) rfl (by decide) ?_
  replace e := ck_as_e e
  obtain ⟨hk_1, e⟩ := e
  refine go_put (h1 := wI h a0 28 0) rfl rfl hk_1 ⟨by decide, by decide, Or.inl rfl⟩ rfl ?_
  have hk_3 : gk (wI h a0 28 0) a0 = 12 := ck_kI.trans hk_1
  generalize wI h a0 28 0 = h2 at e hk_3 ⊢
  replace e := ck_then_e e
  refine go_iload_n rfl rfl ?_
  refine go_bipush (v := 20) rfl (by decide) ?_
  refine go_icmp_ge (t := 16) rfl rfl (fun hx_4 => ?_) (fun hx_4 => ?_)
  · rw [if_pos hx_4] at e
    refine go_iload_n rfl rfl ?_
    refine go_iconst (v := 4) rfl (by decide) ?_
    refine go_icmp_lt (t := 19) rfl rfl (fun hx_5 => ?_) (fun hx_5 => ?_)
    · rw [if_pos hx_5] at e
      refine go_iload_n rfl rfl ?_
      refine go_if_eq (t := 66) rfl rfl (fun hx_6 => ?_) (fun hx_6 => ?_)
      · rw [if_pos hx_6] at e
        refine go_aload_n rfl rfl ?_
        replace e := ck_some_e e
        obtain ⟨b7, hq_8, e⟩ := e
        refine go_get (v := .ref b7) rfl rfl hk_3 (by decide) (by show va_rf (gR h2 a0 19) = _; rw [hq_8]; rfl) ?_
        refine go_aload_n rfl rfl ?_
        refine go_get (v := .int (gI h2 a0 26)) rfl rfl hk_3 (by decide) rfl ?_
        refine go_iload_n rfl rfl ?_
        replace e := ck_as_e e
        obtain ⟨hc_9, e⟩ := e
        refine go_iast rfl hc_9 ?_
        have hk_11 : gk (wI h2 b7 (gI h2 a0 26 : Int32).toNatClampNeg v1) a0 = 12 := ck_kI.trans hk_3
        generalize wI h2 b7 (gI h2 a0 26 : Int32).toNatClampNeg v1 = h10 at e hk_11 ⊢
        replace e := ck_then_e e
        refine go_aload_n rfl rfl ?_
        replace e := ck_some_e e
        obtain ⟨b12, hq_13, e⟩ := e
        refine go_get (v := .ref b12) rfl rfl hk_11 (by decide) (by show va_rf (gR h10 a0 20) = _; rw [hq_13]; rfl) ?_
        refine go_aload_n rfl rfl ?_
        refine go_get (v := .int (gI h10 a0 26)) rfl rfl hk_11 (by decide) rfl ?_
        refine go_iload_n rfl rfl ?_
        replace e := ck_as_e e
        obtain ⟨hc_14, e⟩ := e
        refine go_iast rfl hc_14 ?_
        have hk_16 : gk (wI h10 b12 (gI h10 a0 26 : Int32).toNatClampNeg v2) a0 = 12 := ck_kI.trans hk_11
        generalize wI h10 b12 (gI h10 a0 26 : Int32).toNatClampNeg v2 = h15 at e hk_16 ⊢
        replace e := ck_then_e e
        refine go_iconst (v := (-1)) rfl (by decide) ?_
        cases e
        exact go_ret rfl rfl
      · rw [if_neg hx_6] at e
        refine go_iload_n rfl rfl ?_
        refine go_aload_n rfl rfl ?_
        replace e := ck_some_e e
        obtain ⟨b17, hq_18, e⟩ := e
        refine go_get (v := .ref b17) rfl rfl hk_3 (by decide) (by show va_rf (gR h2 a0 19) = _; rw [hq_18]; rfl) ?_
        refine go_aload_n rfl rfl ?_
        refine go_get (v := .int (gI h2 a0 26)) rfl rfl hk_3 (by decide) rfl ?_
        replace e := ck_as_e e
        obtain ⟨hc_19, e⟩ := e
        refine go_iald rfl hc_19 ?_
        refine go_icmp_eq (t := 66) rfl rfl (fun hx_20 => ?_) (fun hx_20 => ?_)
        · rw [if_pos hx_20] at e
          refine go_aload_n rfl rfl ?_
          replace e := ck_some_e e
          obtain ⟨b21, hq_22, e⟩ := e
          refine go_get (v := .ref b21) rfl rfl hk_3 (by decide) (by show va_rf (gR h2 a0 19) = _; rw [hq_22]; rfl) ?_
          refine go_aload_n rfl rfl ?_
          refine go_get (v := .int (gI h2 a0 26)) rfl rfl hk_3 (by decide) rfl ?_
          refine go_iload_n rfl rfl ?_
          replace e := ck_as_e e
          obtain ⟨hc_23, e⟩ := e
          refine go_iast rfl hc_23 ?_
          have hk_25 : gk (wI h2 b21 (gI h2 a0 26 : Int32).toNatClampNeg v1) a0 = 12 := ck_kI.trans hk_3
          generalize wI h2 b21 (gI h2 a0 26 : Int32).toNatClampNeg v1 = h24 at e hk_25 ⊢
          replace e := ck_then_e e
          refine go_aload_n rfl rfl ?_
          replace e := ck_some_e e
          obtain ⟨b26, hq_27, e⟩ := e
          refine go_get (v := .ref b26) rfl rfl hk_25 (by decide) (by show va_rf (gR h24 a0 20) = _; rw [hq_27]; rfl) ?_
          refine go_aload_n rfl rfl ?_
          refine go_get (v := .int (gI h24 a0 26)) rfl rfl hk_25 (by decide) rfl ?_
          refine go_iload_n rfl rfl ?_
          replace e := ck_as_e e
          obtain ⟨hc_28, e⟩ := e
          refine go_iast rfl hc_28 ?_
          have hk_30 : gk (wI h24 b26 (gI h24 a0 26 : Int32).toNatClampNeg v2) a0 = 12 := ck_kI.trans hk_25
          generalize wI h24 b26 (gI h24 a0 26 : Int32).toNatClampNeg v2 = h29 at e hk_30 ⊢
          replace e := ck_then_e e
          refine go_iconst (v := (-1)) rfl (by decide) ?_
          cases e
          exact go_ret rfl rfl
        · rw [if_neg hx_20] at e
          refine go_aload_n rfl rfl ?_
          refine go_dup rfl rfl ?_
          refine go_get (v := .long (gJ h2 a0 21)) rfl rfl hk_3 (by decide) rfl ?_
          refine go_bipush (v := 50) rfl (by decide) ?_
          refine go_bipush (v := 20) rfl (by decide) ?_
          refine go_iload_n rfl rfl ?_
          refine go_aload_n rfl rfl ?_
          replace e := ck_some_e e
          obtain ⟨b31, hq_32, e⟩ := e
          refine go_get (v := .ref b31) rfl rfl hk_3 (by decide) (by show va_rf (gR h2 a0 19) = _; rw [hq_32]; rfl) ?_
          refine go_aload_n rfl rfl ?_
          refine go_get (v := .int (gI h2 a0 26)) rfl rfl hk_3 (by decide) rfl ?_
          replace e := ck_as_e e
          obtain ⟨hc_33, e⟩ := e
          refine go_iald rfl hc_33 ?_
          refine go_isub rfl ?_
          replace e := ck_bd_e e
          obtain ⟨r34, h35, e36, e⟩ := e
          refine go_callS (As := [.int (v1 - (gI h2 b31 (gI h2 a0 26 : Int32).toNatClampNeg))]) (rest := [.int 20, .int 50, .long (gJ h2 a0 21), .ref a0]) rfl rfl rfl ⟨Nat.le_of_ble_eq_true rfl, Nat.le_of_ble_eq_true rfl, Nat.le_of_ble_eq_true rfl, Nat.le_of_ble_eq_true rfl⟩ (s_Ma_abs e36) ?_
          show Go k_RM_seek 59 [some (.ref a0), some (.int v1), some (.int v2), some (.int v3)] [.int r34, .int 20, .int 50, .long (gJ h2 a0 21), .ref a0] h35 _
          refine go_imul rfl ?_
          refine go_iadd rfl ?_
          refine go_i2l rfl ?_
          refine go_ladd rfl ?_
          replace e := ck_as_e e
          obtain ⟨hk_37, e⟩ := e
          refine go_put (h1 := wJ h35 a0 21 ((gJ h2 a0 21) + ((50 + (20 * r34) : Int32).toInt64))) rfl rfl hk_37 ⟨by decide, by decide, Or.inl rfl⟩ rfl ?_
          have hk_39 : gk (wJ h35 a0 21 ((gJ h2 a0 21) + ((50 + (20 * r34) : Int32).toInt64))) a0 = 12 := ck_kJ.trans hk_37
          generalize wJ h35 a0 21 ((gJ h2 a0 21) + ((50 + (20 * r34) : Int32).toInt64)) = h38 at e hk_39 ⊢
          replace e := ck_then_e e
          refine go_aload_n rfl rfl ?_
          replace e := ck_some_e e
          obtain ⟨b40, hq_41, e⟩ := e
          refine go_get (v := .ref b40) rfl rfl hk_39 (by decide) (by show va_rf (gR h38 a0 19) = _; rw [hq_41]; rfl) ?_
          refine go_aload_n rfl rfl ?_
          refine go_get (v := .int (gI h38 a0 26)) rfl rfl hk_39 (by decide) rfl ?_
          refine go_iload_n rfl rfl ?_
          replace e := ck_as_e e
          obtain ⟨hc_42, e⟩ := e
          refine go_iast rfl hc_42 ?_
          have hk_44 : gk (wI h38 b40 (gI h38 a0 26 : Int32).toNatClampNeg v1) a0 = 12 := ck_kI.trans hk_39
          generalize wI h38 b40 (gI h38 a0 26 : Int32).toNatClampNeg v1 = h43 at e hk_44 ⊢
          replace e := ck_then_e e
          refine go_aload_n rfl rfl ?_
          replace e := ck_some_e e
          obtain ⟨b45, hq_46, e⟩ := e
          refine go_get (v := .ref b45) rfl rfl hk_44 (by decide) (by show va_rf (gR h43 a0 20) = _; rw [hq_46]; rfl) ?_
          refine go_aload_n rfl rfl ?_
          refine go_get (v := .int (gI h43 a0 26)) rfl rfl hk_44 (by decide) rfl ?_
          refine go_iload_n rfl rfl ?_
          replace e := ck_as_e e
          obtain ⟨hc_47, e⟩ := e
          refine go_iast rfl hc_47 ?_
          have hk_49 : gk (wI h43 b45 (gI h43 a0 26 : Int32).toNatClampNeg v2) a0 = 12 := ck_kI.trans hk_44
          generalize wI h43 b45 (gI h43 a0 26 : Int32).toNatClampNeg v2 = h48 at e hk_49 ⊢
          replace e := ck_then_e e
          refine go_iconst (v := (-1)) rfl (by decide) ?_
          cases e
          exact go_ret rfl rfl
    · rw [if_neg hx_5] at e
      refine go_bipush (v := 6) rfl (by decide) ?_
      cases e
      exact go_ret rfl rfl
  · rw [if_neg hx_4] at e
    refine go_bipush (v := 6) rfl (by decide) ?_
    cases e
    exact go_ret rfl rfl
def f_Ma_floorMod (F : Nat) (w0 : Int64) (w2 : Int64) (h : ck_H) : Option (Int64 × ck_H) :=
  ck_as (¬ w2 = 0) <|
  ck_then (w0 - w0 / w2 * w2) fun x2 =>
  if (lg_cmp (w0 ^^^ w2) 0) < (0 : Int32) then
    if (lg_cmp x2 0) = (0 : Int32) then
      some (x2, h)
    else
      some (x2 + w2, h)
  else
    some (x2, h)
set_option maxRecDepth 100000 in
set_option maxHeartbeats 4000000 in
theorem s_Ma_floorMod {F : Nat} {w0 : Int64} {w2 : Int64} {h h' : ck_H} {r : Int64} (e : f_Ma_floorMod F w0 w2 h = some (r, h')) : Go k_Ma_floorMod 0 (ck_in [.long w0, .long w2] 6) [] h (some (.long r), h') := by
  unfold f_Ma_floorMod at e
  show Go k_Ma_floorMod 0 [some (.long w0), none, some (.long w2), none, none, none] [] h _
  refine go_lload_n rfl rfl ?_
  refine go_lload_n rfl rfl ?_
  replace e := ck_as_e e
  obtain ⟨hc_1, e⟩ := e
  refine go_lrem rfl hc_1 ?_
  generalize w0 - w0 / w2 * w2 = x2 at e ⊢
  replace e := ck_then_e e
  refine go_lstore rfl rfl ?_
  show Go k_Ma_floorMod 5 [some (.long w0), none, some (.long w2), none, some (.long x2), none] [] h _
  refine go_lload_n rfl rfl ?_
  refine go_lload_n rfl rfl ?_
  refine go_lxor rfl ?_
  refine go_lconst (v := 0) rfl (by decide) ?_
  refine go_lcmp rfl ?_
  refine go_if_ge (t := 25) rfl rfl (fun hx_3 => ?_) (fun hx_3 => ?_)
  · rw [if_pos hx_3] at e
    refine go_lload rfl rfl ?_
    refine go_lconst (v := 0) rfl (by decide) ?_
    refine go_lcmp rfl ?_
    refine go_if_eq (t := 25) rfl rfl (fun hx_4 => ?_) (fun hx_4 => ?_)
    · rw [if_pos hx_4] at e
      refine go_lload rfl rfl ?_
      cases e
      exact go_ret rfl rfl
    · rw [if_neg hx_4] at e
      refine go_lload rfl rfl ?_
      refine go_lload_n rfl rfl ?_
      refine go_ladd rfl ?_
      cases e
      exact go_ret rfl rfl
  · rw [if_neg hx_3] at e
    refine go_lload rfl rfl ?_
    cases e
    exact go_ret rfl rfl
def f_RM_goTo (F : Nat) (a0 : Nat) (v1 : Int32) (h : ck_H) : Option (Unit × ck_H) :=
  ck_as (gk h a0 = 12) <|
  ck_bd (f_Ma_floorMod F (((v1 : Int32).toInt64) - (gJ h a0 21)) 1500 h) fun r2 h3 =>
  ck_as (gk h3 a0 = 12) <|
  ck_then (wJ h3 a0 21 ((gJ h a0 21) + r2)) fun h6 =>
  some ((), h6)
set_option maxRecDepth 100000 in
set_option maxHeartbeats 4000000 in
theorem s_RM_goTo {F : Nat} {a0 : Nat} {v1 : Int32} {h h' : ck_H} {r : Unit} (e : f_RM_goTo F a0 v1 h = some (r, h')) : Go k_RM_goTo 0 (ck_in [.ref a0, .int v1] 2) [] h (none, h') := by
  unfold f_RM_goTo at e
  show Go k_RM_goTo 0 [some (.ref a0), some (.int v1)] [] h _
  refine go_aload_n rfl rfl ?_
  refine go_dup rfl rfl ?_
  replace e := ck_as_e e
  obtain ⟨hk_1, e⟩ := e
  refine go_get (v := .long (gJ h a0 21)) rfl rfl hk_1 (by decide) rfl ?_
  refine go_iload_n rfl rfl ?_
  refine go_i2l rfl ?_
  refine go_aload_n rfl rfl ?_
  refine go_get (v := .long (gJ h a0 21)) rfl rfl hk_1 (by decide) rfl ?_
  refine go_lsub rfl ?_
  refine go_ldc2 (v := 1500) rfl rfl ?_
  replace e := ck_bd_e e
  obtain ⟨r2, h3, e4, e⟩ := e
  refine go_callS (As := [.long (((v1 : Int32).toInt64) - (gJ h a0 21)), .long 1500]) (rest := [.long (gJ h a0 21), .ref a0]) rfl rfl rfl ⟨Nat.le_of_ble_eq_true rfl, Nat.le_of_ble_eq_true rfl, Nat.le_of_ble_eq_true rfl, Nat.le_of_ble_eq_true rfl⟩ (s_Ma_floorMod e4) ?_
  show Go k_RM_goTo 18 [some (.ref a0), some (.int v1)] [.long r2, .long (gJ h a0 21), .ref a0] h3 _
  refine go_ladd rfl ?_
  replace e := ck_as_e e
  obtain ⟨hk_5, e⟩ := e
  refine go_put (h1 := wJ h3 a0 21 ((gJ h a0 21) + r2)) rfl rfl hk_5 ⟨by decide, by decide, Or.inl rfl⟩ rfl ?_
  have hk_7 : gk (wJ h3 a0 21 ((gJ h a0 21) + r2)) a0 = 12 := ck_kJ.trans hk_5
  generalize wJ h3 a0 21 ((gJ h a0 21) + r2) = h6 at e hk_7 ⊢
  replace e := ck_then_e e
  cases e
  exact go_ret rfl rfl
def f_RM_held (F : Nat) (a0 : Nat) (v1 : Int32) (h : ck_H) : Option (Int32 × ck_H) :=
  if v1 = (0 : Int32) then
    some ((-1), h)
  else
    ck_as (gk h a0 = 12) <|
    ck_then (wI h a0 31 ((gI h a0 31) + 1)) fun h3 =>
    some ((-1), h3)
set_option maxRecDepth 100000 in
set_option maxHeartbeats 4000000 in
theorem s_RM_held {F : Nat} {a0 : Nat} {v1 : Int32} {h h' : ck_H} {r : Int32} (e : f_RM_held F a0 v1 h = some (r, h')) : Go k_RM_held 0 (ck_in [.ref a0, .int v1] 2) [] h (some (.int r), h') := by
  unfold f_RM_held at e
  show Go k_RM_held 0 [some (.ref a0), some (.int v1)] [] h _
  refine go_iload_n rfl rfl ?_
  refine go_if_eq (t := 14) rfl rfl (fun hx_1 => ?_) (fun hx_1 => ?_)
  · rw [if_pos hx_1] at e
    refine go_iconst (v := (-1)) rfl (by decide) ?_
    cases e
    exact go_ret rfl rfl
  · rw [if_neg hx_1] at e
    refine go_aload_n rfl rfl ?_
    refine go_dup rfl rfl ?_
    replace e := ck_as_e e
    obtain ⟨hk_2, e⟩ := e
    refine go_get (v := .int (gI h a0 31)) rfl rfl hk_2 (by decide) rfl ?_
    refine go_iconst (v := 1) rfl (by decide) ?_
    refine go_iadd rfl ?_
    refine go_put (h1 := wI h a0 31 ((gI h a0 31) + 1)) rfl rfl hk_2 ⟨by decide, by decide, Or.inl rfl⟩ rfl ?_
    have hk_4 : gk (wI h a0 31 ((gI h a0 31) + 1)) a0 = 12 := ck_kI.trans hk_2
    generalize wI h a0 31 ((gI h a0 31) + 1) = h3 at e hk_4 ⊢
    replace e := ck_then_e e
    refine go_iconst (v := (-1)) rfl (by decide) ?_
    cases e
    exact go_ret rfl rfl
def f_RM_home_J73 (F : Nat)  (a0 : Nat) (s0 : Int32) (h : ck_H) : Option (Int32 × ck_H) :=
  if s0 = (0 : Int32) then
    ck_as (gk h a0 = 12) <|
    ck_then (wI h a0 30 ((gI h a0 30) + 1)) fun h3 =>
    if (gI h3 a0 30) = (2 : Int32) then
      some (1, h3)
    else
      ck_bd (f_RM_held F a0 s0 h3) fun r6 h7 =>
      some (r6, h7)
  else
    ck_as (gk h a0 = 12) <|
    ck_bd (f_RM_held F a0 s0 h) fun r10 h11 =>
    some (r10, h11)
set_option maxRecDepth 100000 in
set_option maxHeartbeats 4000000 in
theorem f_RM_home_J73_s (F : Nat)   (a0 : Nat) (s0 : Int32) (h : ck_H) (r : Int32) (h' : ck_H) (e : f_RM_home_J73 F  a0 s0 h = some (r, h')) : Go k_RM_home 73 [some (.ref a0), none, none] [.int s0] h (some (.int r), h') := by
  unfold f_RM_home_J73 at e
  refine go_istore_n rfl rfl ?_
  show Go k_RM_home 74 [some (.ref a0), none, some (.int s0)] [] h _
  refine go_iload_n rfl rfl ?_
  refine go_if_ne (t := 98) rfl rfl (fun hx_1 => ?_) (fun hx_1 => ?_)
  · rw [if_pos hx_1] at e
    refine go_aload_n rfl rfl ?_
    refine go_dup rfl rfl ?_
    replace e := ck_as_e e
    obtain ⟨hk_2, e⟩ := e
    refine go_get (v := .int (gI h a0 30)) rfl rfl hk_2 (by decide) rfl ?_
    refine go_iconst (v := 1) rfl (by decide) ?_
    refine go_iadd rfl ?_
    refine go_put (h1 := wI h a0 30 ((gI h a0 30) + 1)) rfl rfl hk_2 ⟨by decide, by decide, Or.inl rfl⟩ rfl ?_
    have hk_4 : gk (wI h a0 30 ((gI h a0 30) + 1)) a0 = 12 := ck_kI.trans hk_2
    generalize wI h a0 30 ((gI h a0 30) + 1) = h3 at e hk_4 ⊢
    replace e := ck_then_e e
    refine go_aload_n rfl rfl ?_
    refine go_get (v := .int (gI h3 a0 30)) rfl rfl hk_4 (by decide) rfl ?_
    refine go_iconst (v := 2) rfl (by decide) ?_
    refine go_icmp_ne (t := 98) rfl rfl (fun hx_5 => ?_) (fun hx_5 => ?_)
    · rw [if_pos hx_5] at e
      refine go_iconst (v := 1) rfl (by decide) ?_
      cases e
      exact go_ret rfl rfl
    · rw [if_neg hx_5] at e
      refine go_aload_n rfl rfl ?_
      refine go_iload_n rfl rfl ?_
      replace e := ck_bd_e e
      obtain ⟨r6, h7, e8, e⟩ := e
      refine go_callV (As := [.int s0]) (b0 := a0) (rest := []) rfl rfl ⟨hk_4, by decide⟩ rfl ⟨Nat.le_of_ble_eq_true rfl, Nat.le_of_ble_eq_true rfl, Nat.le_of_ble_eq_true rfl, Nat.le_of_ble_eq_true rfl⟩ (s_RM_held e8) ?_
      show Go k_RM_home 103 [some (.ref a0), none, some (.int s0)] [.int r6] h7 _
      cases e
      exact go_ret rfl rfl
  · rw [if_neg hx_1] at e
    refine go_aload_n rfl rfl ?_
    refine go_iload_n rfl rfl ?_
    replace e := ck_as_e e
    obtain ⟨hk_9, e⟩ := e
    replace e := ck_bd_e e
    obtain ⟨r10, h11, e12, e⟩ := e
    refine go_callV (As := [.int s0]) (b0 := a0) (rest := []) rfl rfl ⟨hk_9, by decide⟩ rfl ⟨Nat.le_of_ble_eq_true rfl, Nat.le_of_ble_eq_true rfl, Nat.le_of_ble_eq_true rfl, Nat.le_of_ble_eq_true rfl⟩ (s_RM_held e12) ?_
    show Go k_RM_home 103 [some (.ref a0), none, some (.int s0)] [.int r10] h11 _
    cases e
    exact go_ret rfl rfl
def f_RM_home_J72 (F : Nat)  (a0 : Nat) (h : ck_H) : Option (Int32 × ck_H) :=
  f_RM_home_J73 F a0 0 h
set_option maxRecDepth 100000 in
set_option maxHeartbeats 4000000 in
theorem f_RM_home_J72_s (F : Nat)   (a0 : Nat) (h : ck_H) (r : Int32) (h' : ck_H) (e : f_RM_home_J72 F  a0 h = some (r, h')) : Go k_RM_home 72 [some (.ref a0), none, none] [] h (some (.int r), h') := by
  unfold f_RM_home_J72 at e
  refine go_iconst (v := 0) rfl (by decide) ?_
  refine go_forget (l := [some (.ref a0), none, none]) ⟨Or.inl rfl, Or.inl rfl, Or.inl rfl, trivial⟩ ?_
  exact f_RM_home_J73_s F a0 0 _ _ _ e
def f_RM_home (F : Nat) (a0 : Nat) (v1 : Int32) (h : ck_H) : Option (Int32 × ck_H) :=
  ck_as (gk h a0 = 12) <|
  ck_bd (f_RM_goTo F a0 0 h) fun _ h3 =>
  ck_as (gk h3 a0 = 12) <|
  ck_then (wJ h3 a0 21 ((gJ h3 a0 21) + 30)) fun h6 =>
  ck_then (wI h6 a0 28 1) fun h8 =>
  ck_some (gR h8 a0 14) fun b10 =>
  ck_as ((gk h8 b10 = 13 ∨ gk h8 b10 = 15) ∧ ¬ v1 < 0 ∧ (v1 : Int32).toNatClampNeg < gz h8 b10) <|
  ck_some (gR h8 a0 19) fun b13 =>
  ck_as ((gk h8 b13 = 14 ∨ gk h8 b13 = 21) ∧ ¬ (gI h8 a0 26) < 0 ∧ (gI h8 a0 26 : Int32).toNatClampNeg < gz h8 b13) <|
  if ((gI h8 b10 (v1 : Int32).toNatClampNeg) &&& 255) = (gI h8 b13 (gI h8 a0 26 : Int32).toNatClampNeg) then
    ck_some (gR h8 a0 14) fun b17 =>
    ck_as ((gk h8 b17 = 13 ∨ gk h8 b17 = 15) ∧ ¬ (v1 + 1) < 0 ∧ (v1 + 1 : Int32).toNatClampNeg < gz h8 b17) <|
    ck_some (gR h8 a0 20) fun b20 =>
    ck_as ((gk h8 b20 = 14 ∨ gk h8 b20 = 21) ∧ ¬ (gI h8 a0 26) < 0 ∧ (gI h8 a0 26 : Int32).toNatClampNeg < gz h8 b20) <|
    if ((gI h8 b17 (v1 + 1 : Int32).toNatClampNeg) &&& 255) = (gI h8 b20 (gI h8 a0 26 : Int32).toNatClampNeg) then
      f_RM_home_J73 F a0 1 h8
    else
      f_RM_home_J72 F a0 h8
  else
    f_RM_home_J72 F a0 h8
set_option maxRecDepth 100000 in
set_option maxHeartbeats 4000000 in
theorem s_RM_home {F : Nat} {a0 : Nat} {v1 : Int32} {h h' : ck_H} {r : Int32} (e : f_RM_home F a0 v1 h = some (r, h')) : Go k_RM_home 0 (ck_in [.ref a0, .int v1] 3) [] h (some (.int r), h') := by
  unfold f_RM_home at e
  show Go k_RM_home 0 [some (.ref a0), some (.int v1), none] [] h _
  refine go_aload_n rfl rfl ?_
  refine go_iconst (v := 0) rfl (by decide) ?_
  replace e := ck_as_e e
  obtain ⟨hk_1, e⟩ := e
  replace e := ck_bd_e e
  obtain ⟨r2, h3, e4, e⟩ := e
  refine go_callV (As := [.int 0]) (b0 := a0) (rest := []) rfl rfl ⟨hk_1, by decide⟩ rfl ⟨Nat.le_of_ble_eq_true rfl, Nat.le_of_ble_eq_true rfl, Nat.le_of_ble_eq_true rfl, Nat.le_of_ble_eq_true rfl⟩ (s_RM_goTo e4) ?_
  show Go k_RM_home 5 [some (.ref a0), some (.int v1), none] [] h3 _
  refine go_aload_n rfl rfl ?_
  refine go_dup rfl rfl ?_
  replace e := ck_as_e e
  obtain ⟨hk_5, e⟩ := e
  refine go_get (v := .long (gJ h3 a0 21)) rfl rfl hk_5 (by decide) rfl ?_
  refine go_ldc2 (v := 30) rfl rfl ?_
  refine go_ladd rfl ?_
  refine go_put (h1 := wJ h3 a0 21 ((gJ h3 a0 21) + 30)) rfl rfl hk_5 ⟨by decide, by decide, Or.inl rfl⟩ rfl ?_
  have hk_7 : gk (wJ h3 a0 21 ((gJ h3 a0 21) + 30)) a0 = 12 := ck_kJ.trans hk_5
  generalize wJ h3 a0 21 ((gJ h3 a0 21) + 30) = h6 at e hk_7 ⊢
  replace e := ck_then_e e
  refine go_aload_n rfl rfl ?_
  refine go_iconst (v := 1) rfl (by decide) ?_
  refine go_put (h1 := wI h6 a0 28 1) rfl rfl hk_7 ⟨by decide, by decide, Or.inl rfl⟩ rfl ?_
  have hk_9 : gk (wI h6 a0 28 1) a0 = 12 := ck_kI.trans hk_7
  generalize wI h6 a0 28 1 = h8 at e hk_9 ⊢
  replace e := ck_then_e e
  refine go_aload_n rfl rfl ?_
  replace e := ck_some_e e
  obtain ⟨b10, hq_11, e⟩ := e
  refine go_get (v := .ref b10) rfl rfl hk_9 (by decide) (by show va_rf (gR h8 a0 14) = _; rw [hq_11]; rfl) ?_
  refine go_iload_n rfl rfl ?_
  replace e := ck_as_e e
  obtain ⟨hc_12, e⟩ := e
  refine go_bald rfl hc_12 ?_
  refine go_sipush (v := 255) rfl (by decide) ?_
  refine go_iand rfl ?_
  refine go_aload_n rfl rfl ?_
  replace e := ck_some_e e
  obtain ⟨b13, hq_14, e⟩ := e
  refine go_get (v := .ref b13) rfl rfl hk_9 (by decide) (by show va_rf (gR h8 a0 19) = _; rw [hq_14]; rfl) ?_
  refine go_aload_n rfl rfl ?_
  refine go_get (v := .int (gI h8 a0 26)) rfl rfl hk_9 (by decide) rfl ?_
  replace e := ck_as_e e
  obtain ⟨hc_15, e⟩ := e
  refine go_iald rfl hc_15 ?_
  refine go_icmp_ne (t := 72) rfl rfl (fun hx_16 => ?_) (fun hx_16 => ?_)
  · rw [if_pos hx_16] at e
    refine go_aload_n rfl rfl ?_
    replace e := ck_some_e e
    obtain ⟨b17, hq_18, e⟩ := e
    refine go_get (v := .ref b17) rfl rfl hk_9 (by decide) (by show va_rf (gR h8 a0 14) = _; rw [hq_18]; rfl) ?_
    refine go_iload_n rfl rfl ?_
    refine go_iconst (v := 1) rfl (by decide) ?_
    refine go_iadd rfl ?_
    replace e := ck_as_e e
    obtain ⟨hc_19, e⟩ := e
    refine go_bald rfl hc_19 ?_
    refine go_sipush (v := 255) rfl (by decide) ?_
    refine go_iand rfl ?_
    refine go_aload_n rfl rfl ?_
    replace e := ck_some_e e
    obtain ⟨b20, hq_21, e⟩ := e
    refine go_get (v := .ref b20) rfl rfl hk_9 (by decide) (by show va_rf (gR h8 a0 20) = _; rw [hq_21]; rfl) ?_
    refine go_aload_n rfl rfl ?_
    refine go_get (v := .int (gI h8 a0 26)) rfl rfl hk_9 (by decide) rfl ?_
    replace e := ck_as_e e
    obtain ⟨hc_22, e⟩ := e
    refine go_iald rfl hc_22 ?_
    refine go_icmp_ne (t := 72) rfl rfl (fun hx_23 => ?_) (fun hx_23 => ?_)
    · rw [if_pos hx_23] at e
      refine go_iconst (v := 1) rfl (by decide) ?_
      refine go_goto (t := 73) rfl rfl ?_
      refine go_forget (l := [some (.ref a0), none, none]) ⟨Or.inl rfl, Or.inr ⟨rfl, fun _ q => by cases q; rfl⟩, Or.inl rfl, trivial⟩ ?_
      exact f_RM_home_J73_s F a0 1 _ _ _ e
    · rw [if_neg hx_23] at e
      refine go_forget (l := [some (.ref a0), none, none]) ⟨Or.inl rfl, Or.inr ⟨rfl, fun _ q => by cases q; rfl⟩, Or.inl rfl, trivial⟩ ?_
      exact f_RM_home_J72_s F a0 _ _ _ e
  · rw [if_neg hx_16] at e
    refine go_forget (l := [some (.ref a0), none, none]) ⟨Or.inl rfl, Or.inr ⟨rfl, fun _ q => by cases q; rfl⟩, Or.inl rfl, trivial⟩ ?_
    exact f_RM_home_J72_s F a0 _ _ _ e
def f_RM_track (F : Nat) (a0 : Nat) (h : ck_H) : Option (Int32 × ck_H) :=
  ck_as (gk h a0 = 12) <|
  ck_some (gR h a0 19) fun b2 =>
  ck_as ((gk h b2 = 14 ∨ gk h b2 = 21) ∧ ¬ (gI h a0 26) < 0 ∧ (gI h a0 26 : Int32).toNatClampNeg < gz h b2) <|
  ck_some (gR h a0 20) fun b5 =>
  ck_as ((gk h b5 = 14 ∨ gk h b5 = 21) ∧ ¬ (gI h a0 26) < 0 ∧ (gI h a0 26 : Int32).toNatClampNeg < gz h b5) <|
  some (((80 * (gI h a0 26)) + (4 * (gI h b2 (gI h a0 26 : Int32).toNatClampNeg))) + (gI h b5 (gI h a0 26 : Int32).toNatClampNeg), h)
set_option maxRecDepth 100000 in
set_option maxHeartbeats 4000000 in
theorem s_RM_track {F : Nat} {a0 : Nat} {h h' : ck_H} {r : Int32} (e : f_RM_track F a0 h = some (r, h')) : Go k_RM_track 0 (ck_in [.ref a0] 1) [] h (some (.int r), h') := by
  unfold f_RM_track at e
  show Go k_RM_track 0 [some (.ref a0)] [] h _
  refine go_bipush (v := 80) rfl (by decide) ?_
  refine go_aload_n rfl rfl ?_
  replace e := ck_as_e e
  obtain ⟨hk_1, e⟩ := e
  refine go_get (v := .int (gI h a0 26)) rfl rfl hk_1 (by decide) rfl ?_
  refine go_imul rfl ?_
  refine go_iconst (v := 4) rfl (by decide) ?_
  refine go_aload_n rfl rfl ?_
  replace e := ck_some_e e
  obtain ⟨b2, hq_3, e⟩ := e
  refine go_get (v := .ref b2) rfl rfl hk_1 (by decide) (by show va_rf (gR h a0 19) = _; rw [hq_3]; rfl) ?_
  refine go_aload_n rfl rfl ?_
  refine go_get (v := .int (gI h a0 26)) rfl rfl hk_1 (by decide) rfl ?_
  replace e := ck_as_e e
  obtain ⟨hc_4, e⟩ := e
  refine go_iald rfl hc_4 ?_
  refine go_imul rfl ?_
  refine go_iadd rfl ?_
  refine go_aload_n rfl rfl ?_
  replace e := ck_some_e e
  obtain ⟨b5, hq_6, e⟩ := e
  refine go_get (v := .ref b5) rfl rfl hk_1 (by decide) (by show va_rf (gR h a0 20) = _; rw [hq_6]; rfl) ?_
  refine go_aload_n rfl rfl ?_
  refine go_get (v := .int (gI h a0 26)) rfl rfl hk_1 (by decide) rfl ?_
  replace e := ck_as_e e
  obtain ⟨hc_7, e⟩ := e
  refine go_iald rfl hc_7 ?_
  refine go_iadd rfl ?_
  cases e
  exact go_ret rfl rfl
def f_RM_at (F : Nat) (v0 : Int32) (v1 : Int32) (h : ck_H) : Option (Int32 × ck_H) :=
  some ((50 * v0) + v1, h)
set_option maxRecDepth 100000 in
set_option maxHeartbeats 4000000 in
theorem s_RM_at {F : Nat} {v0 : Int32} {v1 : Int32} {h h' : ck_H} {r : Int32} (e : f_RM_at F v0 v1 h = some (r, h')) : Go k_RM_at 0 (ck_in [.int v0, .int v1] 2) [] h (some (.int r), h') := by
  unfold f_RM_at at e
  show Go k_RM_at 0 [some (.int v0), some (.int v1)] [] h _
  refine go_bipush (v := 50) rfl (by decide) ?_
  refine go_iload_n rfl rfl ?_
  refine go_imul rfl ?_
  refine go_iload_n rfl rfl ?_
  refine go_iadd rfl ?_
  cases e
  exact go_ret rfl rfl
def f_RM_nextRecord_L17 (F : Nat) (k5 : Nat → Int32 → ck_H → Option (Int32 × ck_H)) : Nat → Nat → Int32 → Int32 → Int32 → ck_H → Option (Int32 × ck_H)
  | 0, _, _, _, _, _ => none
  | n + 1, a0, v1, v2, v3, h =>
    ck_as (gk h a0 = 12) <|
    ck_some (gR h a0 1) fun b2 =>
    ck_as ((gk h b2 = 14 ∨ gk h b2 = 21) ∧ ¬ v1 < 0 ∧ (v1 : Int32).toNatClampNeg < gz h b2) <|
    if v3 < (gI h b2 (v1 : Int32).toNatClampNeg) then
      ck_some (gR h a0 2) fun b6 =>
      ck_bd (f_RM_at F v1 v3 h) fun r8 h9 =>
      ck_as ((gk h9 b6 = 14 ∨ gk h9 b6 = 21) ∧ ¬ r8 < 0 ∧ (r8 : Int32).toNatClampNeg < gz h9 b6) <|
      if (gI h9 b6 (r8 : Int32).toNatClampNeg) < v2 then
        f_RM_nextRecord_L17 F k5 n a0 v1 v2 (v3 + 1) h9
      else
        ck_as (gk h9 a0 = 12) <|
        ck_some (gR h9 a0 2) fun b14 =>
        ck_bd (f_RM_at F v1 v3 h9) fun r16 h17 =>
        ck_as ((gk h17 b14 = 14 ∨ gk h17 b14 = 21) ∧ ¬ r16 < 0 ∧ (r16 : Int32).toNatClampNeg < gz h17 b14) <|
        ck_as (gk h17 a0 = 12) <|
        ck_bd (f_RM_goTo F a0 (gI h17 b14 (r16 : Int32).toNatClampNeg) h17) fun _ h22 =>
        some (v3, h22)
    else
      ck_then (wJ h a0 21 ((gJ h a0 21) + ((1500 - v2 : Int32).toInt64))) fun h24 =>
      ck_then (wI h24 a0 30 ((gI h24 a0 30) + 1)) fun h26 =>
      if (gI h26 a0 30) = (2 : Int32) then
        some ((-1), h26)
      else
        k5 a0 v1 h26
set_option maxRecDepth 100000 in
set_option maxHeartbeats 4000000 in
theorem f_RM_nextRecord_L17_s (F : Nat) (k5 : Nat → Int32 → ck_H → Option (Int32 × ck_H)) (hk5 : ∀ (a0 : Nat) (v1 : Int32) (h : ck_H) (r : Int32) (h' : ck_H), k5 a0 v1 h = some (r, h') → Go k_RM_nextRecord 5 [some (.ref a0), some (.int v1), none, none] [] h (some (.int r), h')) : ∀ (n : Nat) (a0 : Nat) (v1 : Int32) (v2 : Int32) (v3 : Int32) (h : ck_H) (r : Int32) (h' : ck_H), f_RM_nextRecord_L17 F k5 n a0 v1 v2 v3 h = some (r, h') → Go k_RM_nextRecord 17 [some (.ref a0), some (.int v1), some (.int v2), some (.int v3)] [] h (some (.int r), h') := by
  intro n
  induction n with
  | zero => intro a0 v1 v2 v3 h r h' e; simp only [f_RM_nextRecord_L17] at e; cases e
  | succ n ih =>
    intro a0 v1 v2 v3 h r h' e
    rw [f_RM_nextRecord_L17] at e
    refine go_iload_n rfl rfl ?_
    refine go_aload_n rfl rfl ?_
    replace e := ck_as_e e
    obtain ⟨hk_1, e⟩ := e
    replace e := ck_some_e e
    obtain ⟨b2, hq_3, e⟩ := e
    refine go_get (v := .ref b2) rfl rfl hk_1 (by decide) (by show va_rf (gR h a0 1) = _; rw [hq_3]; rfl) ?_
    refine go_iload_n rfl rfl ?_
    replace e := ck_as_e e
    obtain ⟨hc_4, e⟩ := e
    refine go_iald rfl hc_4 ?_
    refine go_icmp_ge (t := 66) rfl rfl (fun hx_5 => ?_) (fun hx_5 => ?_)
    · rw [if_pos hx_5] at e
      refine go_aload_n rfl rfl ?_
      replace e := ck_some_e e
      obtain ⟨b6, hq_7, e⟩ := e
      refine go_get (v := .ref b6) rfl rfl hk_1 (by decide) (by show va_rf (gR h a0 2) = _; rw [hq_7]; rfl) ?_
      refine go_iload_n rfl rfl ?_
      refine go_iload_n rfl rfl ?_
      replace e := ck_bd_e e
      obtain ⟨r8, h9, e10, e⟩ := e
      refine go_callS (As := [.int v1, .int v3]) (rest := [.ref b6]) rfl rfl rfl ⟨Nat.le_of_ble_eq_true rfl, Nat.le_of_ble_eq_true rfl, Nat.le_of_ble_eq_true rfl, Nat.le_of_ble_eq_true rfl⟩ (s_RM_at e10) ?_
      show Go k_RM_nextRecord 36 [some (.ref a0), some (.int v1), some (.int v2), some (.int v3)] [.int r8, .ref b6] h9 _
      replace e := ck_as_e e
      obtain ⟨hc_11, e⟩ := e
      refine go_iald rfl hc_11 ?_
      refine go_iload_n rfl rfl ?_
      refine go_icmp_ge (t := 44) rfl rfl (fun hx_12 => ?_) (fun hx_12 => ?_)
      · rw [if_pos hx_12] at e
        refine go_goto (t := 60) rfl rfl ?_
        refine go_iinc (v := 1) rfl rfl (by decide) rfl ?_
        show Go k_RM_nextRecord 63 [some (.ref a0), some (.int v1), some (.int v2), some (.int (v3 + 1))] [] h9 _
        refine go_goto (t := 17) rfl rfl ?_
        refine go_forget (l := [some (.ref a0), some (.int v1), some (.int v2), some (.int (v3 + 1))]) ⟨Or.inl rfl, Or.inl rfl, Or.inl rfl, Or.inl rfl, trivial⟩ ?_
        exact ih _ _ _ _ _ _ _ e
      · rw [if_neg hx_12] at e
        refine go_aload_n rfl rfl ?_
        refine go_aload_n rfl rfl ?_
        replace e := ck_as_e e
        obtain ⟨hk_13, e⟩ := e
        replace e := ck_some_e e
        obtain ⟨b14, hq_15, e⟩ := e
        refine go_get (v := .ref b14) rfl rfl hk_13 (by decide) (by show va_rf (gR h9 a0 2) = _; rw [hq_15]; rfl) ?_
        refine go_iload_n rfl rfl ?_
        refine go_iload_n rfl rfl ?_
        replace e := ck_bd_e e
        obtain ⟨r16, h17, e18, e⟩ := e
        refine go_callS (As := [.int v1, .int v3]) (rest := [.ref b14, .ref a0]) rfl rfl rfl ⟨Nat.le_of_ble_eq_true rfl, Nat.le_of_ble_eq_true rfl, Nat.le_of_ble_eq_true rfl, Nat.le_of_ble_eq_true rfl⟩ (s_RM_at e18) ?_
        show Go k_RM_nextRecord 54 [some (.ref a0), some (.int v1), some (.int v2), some (.int v3)] [.int r16, .ref b14, .ref a0] h17 _
        replace e := ck_as_e e
        obtain ⟨hc_19, e⟩ := e
        refine go_iald rfl hc_19 ?_
        replace e := ck_as_e e
        obtain ⟨hk_20, e⟩ := e
        replace e := ck_bd_e e
        obtain ⟨r21, h22, e23, e⟩ := e
        refine go_callV (As := [.int (gI h17 b14 (r16 : Int32).toNatClampNeg)]) (b0 := a0) (rest := []) rfl rfl ⟨hk_20, by decide⟩ rfl ⟨Nat.le_of_ble_eq_true rfl, Nat.le_of_ble_eq_true rfl, Nat.le_of_ble_eq_true rfl, Nat.le_of_ble_eq_true rfl⟩ (s_RM_goTo e23) ?_
        show Go k_RM_nextRecord 58 [some (.ref a0), some (.int v1), some (.int v2), some (.int v3)] [] h22 _
        refine go_iload_n rfl rfl ?_
        cases e
        exact go_ret rfl rfl
    · rw [if_neg hx_5] at e
      refine go_aload_n rfl rfl ?_
      refine go_dup rfl rfl ?_
      refine go_get (v := .long (gJ h a0 21)) rfl rfl hk_1 (by decide) rfl ?_
      refine go_sipush (v := 1500) rfl (by decide) ?_
      refine go_iload_n rfl rfl ?_
      refine go_isub rfl ?_
      refine go_i2l rfl ?_
      refine go_ladd rfl ?_
      refine go_put (h1 := wJ h a0 21 ((gJ h a0 21) + ((1500 - v2 : Int32).toInt64))) rfl rfl hk_1 ⟨by decide, by decide, Or.inl rfl⟩ rfl ?_
      have hk_25 : gk (wJ h a0 21 ((gJ h a0 21) + ((1500 - v2 : Int32).toInt64))) a0 = 12 := ck_kJ.trans hk_1
      generalize wJ h a0 21 ((gJ h a0 21) + ((1500 - v2 : Int32).toInt64)) = h24 at e hk_25 ⊢
      replace e := ck_then_e e
      refine go_aload_n rfl rfl ?_
      refine go_dup rfl rfl ?_
      refine go_get (v := .int (gI h24 a0 30)) rfl rfl hk_25 (by decide) rfl ?_
      refine go_iconst (v := 1) rfl (by decide) ?_
      refine go_iadd rfl ?_
      refine go_put (h1 := wI h24 a0 30 ((gI h24 a0 30) + 1)) rfl rfl hk_25 ⟨by decide, by decide, Or.inl rfl⟩ rfl ?_
      have hk_27 : gk (wI h24 a0 30 ((gI h24 a0 30) + 1)) a0 = 12 := ck_kI.trans hk_25
      generalize wI h24 a0 30 ((gI h24 a0 30) + 1) = h26 at e hk_27 ⊢
      replace e := ck_then_e e
      refine go_aload_n rfl rfl ?_
      refine go_get (v := .int (gI h26 a0 30)) rfl rfl hk_27 (by decide) rfl ?_
      refine go_iconst (v := 2) rfl (by decide) ?_
      refine go_icmp_ne (t := 101) rfl rfl (fun hx_28 => ?_) (fun hx_28 => ?_)
      · rw [if_pos hx_28] at e
        refine go_iconst (v := (-1)) rfl (by decide) ?_
        cases e
        exact go_ret rfl rfl
      · rw [if_neg hx_28] at e
        refine go_goto (t := 5) rfl rfl ?_
        refine go_forget (l := [some (.ref a0), some (.int v1), none, none]) ⟨Or.inl rfl, Or.inl rfl, Or.inr ⟨rfl, fun _ q => by cases q; rfl⟩, Or.inr ⟨rfl, fun _ q => by cases q; rfl⟩, trivial⟩ ?_
        exact hk5 _ _ _ _ _ e
def f_RM_nextRecord_L5 (F : Nat)  : Nat → Nat → Int32 → ck_H → Option (Int32 × ck_H)
  | 0, _, _, _ => none
  | n + 1, a0, v1, h =>
    ck_as (gk h a0 = 12) <|
    ck_then (((gJ h a0 21) - (gJ h a0 21) / 1500 * 1500 : Int64).toInt32) fun x2 =>
    f_RM_nextRecord_L17 F (f_RM_nextRecord_L5 F n) F a0 v1 x2 0 h
set_option maxRecDepth 100000 in
set_option maxHeartbeats 4000000 in
theorem f_RM_nextRecord_L5_s (F : Nat)   : ∀ (n : Nat) (a0 : Nat) (v1 : Int32) (h : ck_H) (r : Int32) (h' : ck_H), f_RM_nextRecord_L5 F n a0 v1 h = some (r, h') → Go k_RM_nextRecord 5 [some (.ref a0), some (.int v1), none, none] [] h (some (.int r), h') := by
  intro n
  induction n with
  | zero => intro a0 v1 h r h' e; simp only [f_RM_nextRecord_L5] at e; cases e
  | succ n ih =>
    intro a0 v1 h r h' e
    rw [f_RM_nextRecord_L5] at e
    refine go_aload_n rfl rfl ?_
    replace e := ck_as_e e
    obtain ⟨hk_1, e⟩ := e
    refine go_get (v := .long (gJ h a0 21)) rfl rfl hk_1 (by decide) rfl ?_
    refine go_ldc2 (v := 1500) rfl rfl ?_
    refine go_lrem rfl (by decide) ?_
    refine go_l2i rfl ?_
    generalize ((gJ h a0 21) - (gJ h a0 21) / 1500 * 1500 : Int64).toInt32 = x2 at e ⊢
    replace e := ck_then_e e
    refine go_istore_n rfl rfl ?_
    show Go k_RM_nextRecord 15 [some (.ref a0), some (.int v1), some (.int x2), none] [] h _
    refine go_iconst (v := 0) rfl (by decide) ?_
    refine go_istore_n rfl rfl ?_
    show Go k_RM_nextRecord 17 [some (.ref a0), some (.int v1), some (.int x2), some (.int 0)] [] h _
    refine go_forget (l := [some (.ref a0), some (.int v1), some (.int x2), some (.int 0)]) ⟨Or.inl rfl, Or.inl rfl, Or.inl rfl, Or.inl rfl, trivial⟩ ?_
    exact f_RM_nextRecord_L17_s F (f_RM_nextRecord_L5 F n) ih F _ _ _ _ _ _ _ e
def f_RM_nextRecord (F : Nat) (a0 : Nat) (h : ck_H) : Option (Int32 × ck_H) :=
  ck_as (gk h a0 = 12) <|
  ck_bd (f_RM_track F a0 h) fun r2 h3 =>
  f_RM_nextRecord_L5 F F a0 r2 h3
set_option maxRecDepth 100000 in
set_option maxHeartbeats 4000000 in
theorem s_RM_nextRecord {F : Nat} {a0 : Nat} {h h' : ck_H} {r : Int32} (e : f_RM_nextRecord F a0 h = some (r, h')) : Go k_RM_nextRecord 0 (ck_in [.ref a0] 4) [] h (some (.int r), h') := by
  unfold f_RM_nextRecord at e
  show Go k_RM_nextRecord 0 [some (.ref a0), none, none, none] [] h _
  refine go_aload_n rfl rfl ?_
  replace e := ck_as_e e
  obtain ⟨hk_1, e⟩ := e
  replace e := ck_bd_e e
  obtain ⟨r2, h3, e4, e⟩ := e
  refine go_callV (As := []) (b0 := a0) (rest := []) rfl rfl ⟨hk_1, by decide⟩ rfl ⟨Nat.le_of_ble_eq_true rfl, Nat.le_of_ble_eq_true rfl, Nat.le_of_ble_eq_true rfl, Nat.le_of_ble_eq_true rfl⟩ (s_RM_track e4) ?_
  show Go k_RM_nextRecord 4 [some (.ref a0), none, none, none] [.int r2] h3 _
  refine go_istore_n rfl rfl ?_
  show Go k_RM_nextRecord 5 [some (.ref a0), some (.int r2), none, none] [] h3 _
  refine go_forget (l := [some (.ref a0), some (.int r2), none, none]) ⟨Or.inl rfl, Or.inl rfl, Or.inl rfl, Or.inl rfl, trivial⟩ ?_
  exact f_RM_nextRecord_L5_s F F _ _ _ _ _ e
def f_RM_searchId (F : Nat) (a0 : Nat) (v1 : Int32) (h : ck_H) : Option (Int32 × ck_H) :=
  ck_as (gk h a0 = 12) <|
  ck_bd (f_RM_nextRecord F a0 h) fun r2 h3 =>
  if r2 = ((-1) : Int32) then
    some (1, h3)
  else
    ck_as (gk h3 a0 = 12) <|
    ck_then (wJ h3 a0 21 ((gJ h3 a0 21) + 10)) fun h7 =>
    ck_then (wI h7 a0 28 2) fun h9 =>
    ck_then (wI h9 a0 29 r2) fun h11 =>
    ck_bd (f_RM_track F a0 h11) fun r13 h14 =>
    ck_bd (f_RM_at F r13 r2 h14) fun r16 h17 =>
    ck_as (gk h17 a0 = 12) <|
    ck_some (gR h17 a0 3) fun b20 =>
    ck_as ((gk h17 b20 = 14 ∨ gk h17 b20 = 21) ∧ ¬ r16 < 0 ∧ (r16 : Int32).toNatClampNeg < gz h17 b20) <|
    ck_some (gR h17 a0 14) fun b23 =>
    ck_as ((gk h17 b23 = 13 ∨ gk h17 b23 = 15) ∧ ¬ v1 < 0 ∧ (v1 : Int32).toNatClampNeg < gz h17 b23) <|
    if (gI h17 b20 (r16 : Int32).toNatClampNeg) = ((gI h17 b23 (v1 : Int32).toNatClampNeg) &&& 255) then
      ck_some (gR h17 a0 4) fun b27 =>
      ck_as ((gk h17 b27 = 14 ∨ gk h17 b27 = 21) ∧ ¬ r16 < 0 ∧ (r16 : Int32).toNatClampNeg < gz h17 b27) <|
      ck_some (gR h17 a0 14) fun b30 =>
      ck_as ((gk h17 b30 = 13 ∨ gk h17 b30 = 15) ∧ ¬ (v1 + 1) < 0 ∧ (v1 + 1 : Int32).toNatClampNeg < gz h17 b30) <|
      if (gI h17 b27 (r16 : Int32).toNatClampNeg) = ((gI h17 b30 (v1 + 1 : Int32).toNatClampNeg) &&& 255) then
        ck_some (gR h17 a0 5) fun b34 =>
        ck_as ((gk h17 b34 = 14 ∨ gk h17 b34 = 21) ∧ ¬ r16 < 0 ∧ (r16 : Int32).toNatClampNeg < gz h17 b34) <|
        ck_some (gR h17 a0 14) fun b37 =>
        ck_as ((gk h17 b37 = 13 ∨ gk h17 b37 = 15) ∧ ¬ (v1 + 2) < 0 ∧ (v1 + 2 : Int32).toNatClampNeg < gz h17 b37) <|
        if (gI h17 b34 (r16 : Int32).toNatClampNeg) = ((gI h17 b37 (v1 + 2 : Int32).toNatClampNeg) &&& 255) then
          ck_bd (f_RM_held F a0 1 h17) fun r41 h42 =>
          some (r41, h42)
        else
          ck_bd (f_RM_held F a0 0 h17) fun r44 h45 =>
          some (r44, h45)
      else
        ck_bd (f_RM_held F a0 0 h17) fun r47 h48 =>
        some (r47, h48)
    else
      ck_bd (f_RM_held F a0 0 h17) fun r50 h51 =>
      some (r50, h51)
set_option maxRecDepth 100000 in
set_option maxHeartbeats 4000000 in
theorem s_RM_searchId {F : Nat} {a0 : Nat} {v1 : Int32} {h h' : ck_H} {r : Int32} (e : f_RM_searchId F a0 v1 h = some (r, h')) : Go k_RM_searchId 0 (ck_in [.ref a0, .int v1] 4) [] h (some (.int r), h') := by
  unfold f_RM_searchId at e
  show Go k_RM_searchId 0 [some (.ref a0), some (.int v1), none, none] [] h _
  refine go_aload_n rfl rfl ?_
  replace e := ck_as_e e
  obtain ⟨hk_1, e⟩ := e
  replace e := ck_bd_e e
  obtain ⟨r2, h3, e4, e⟩ := e
  refine go_callV (As := []) (b0 := a0) (rest := []) rfl rfl ⟨hk_1, by decide⟩ rfl ⟨Nat.le_of_ble_eq_true rfl, Nat.le_of_ble_eq_true rfl, Nat.le_of_ble_eq_true rfl, Nat.le_of_ble_eq_true rfl⟩ (s_RM_nextRecord e4) ?_
  show Go k_RM_searchId 4 [some (.ref a0), some (.int v1), none, none] [.int r2] h3 _
  refine go_istore_n rfl rfl ?_
  show Go k_RM_searchId 5 [some (.ref a0), some (.int v1), some (.int r2), none] [] h3 _
  refine go_iload_n rfl rfl ?_
  refine go_iconst (v := (-1)) rfl (by decide) ?_
  refine go_icmp_ne (t := 12) rfl rfl (fun hx_5 => ?_) (fun hx_5 => ?_)
  · rw [if_pos hx_5] at e
    refine go_iconst (v := 1) rfl (by decide) ?_
    cases e
    exact go_ret rfl rfl
  · rw [if_neg hx_5] at e
    refine go_aload_n rfl rfl ?_
    refine go_dup rfl rfl ?_
    replace e := ck_as_e e
    obtain ⟨hk_6, e⟩ := e
    refine go_get (v := .long (gJ h3 a0 21)) rfl rfl hk_6 (by decide) rfl ?_
    refine go_ldc2 (v := 10) rfl rfl ?_
    refine go_ladd rfl ?_
    refine go_put (h1 := wJ h3 a0 21 ((gJ h3 a0 21) + 10)) rfl rfl hk_6 ⟨by decide, by decide, Or.inl rfl⟩ rfl ?_
    have hk_8 : gk (wJ h3 a0 21 ((gJ h3 a0 21) + 10)) a0 = 12 := ck_kJ.trans hk_6
    generalize wJ h3 a0 21 ((gJ h3 a0 21) + 10) = h7 at e hk_8 ⊢
    replace e := ck_then_e e
    refine go_aload_n rfl rfl ?_
    refine go_iconst (v := 2) rfl (by decide) ?_
    refine go_put (h1 := wI h7 a0 28 2) rfl rfl hk_8 ⟨by decide, by decide, Or.inl rfl⟩ rfl ?_
    have hk_10 : gk (wI h7 a0 28 2) a0 = 12 := ck_kI.trans hk_8
    generalize wI h7 a0 28 2 = h9 at e hk_10 ⊢
    replace e := ck_then_e e
    refine go_aload_n rfl rfl ?_
    refine go_iload_n rfl rfl ?_
    refine go_put (h1 := wI h9 a0 29 r2) rfl rfl hk_10 ⟨by decide, by decide, Or.inl rfl⟩ rfl ?_
    have hk_12 : gk (wI h9 a0 29 r2) a0 = 12 := ck_kI.trans hk_10
    generalize wI h9 a0 29 r2 = h11 at e hk_12 ⊢
    replace e := ck_then_e e
    refine go_aload_n rfl rfl ?_
    replace e := ck_bd_e e
    obtain ⟨r13, h14, e15, e⟩ := e
    refine go_callV (As := []) (b0 := a0) (rest := []) rfl rfl ⟨hk_12, by decide⟩ rfl ⟨Nat.le_of_ble_eq_true rfl, Nat.le_of_ble_eq_true rfl, Nat.le_of_ble_eq_true rfl, Nat.le_of_ble_eq_true rfl⟩ (s_RM_track e15) ?_
    show Go k_RM_searchId 38 [some (.ref a0), some (.int v1), some (.int r2), none] [.int r13] h14 _
    refine go_iload_n rfl rfl ?_
    replace e := ck_bd_e e
    obtain ⟨r16, h17, e18, e⟩ := e
    refine go_callS (As := [.int r13, .int r2]) (rest := []) rfl rfl rfl ⟨Nat.le_of_ble_eq_true rfl, Nat.le_of_ble_eq_true rfl, Nat.le_of_ble_eq_true rfl, Nat.le_of_ble_eq_true rfl⟩ (s_RM_at e18) ?_
    show Go k_RM_searchId 42 [some (.ref a0), some (.int v1), some (.int r2), none] [.int r16] h17 _
    refine go_istore_n rfl rfl ?_
    show Go k_RM_searchId 43 [some (.ref a0), some (.int v1), some (.int r2), some (.int r16)] [] h17 _
    refine go_aload_n rfl rfl ?_
    refine go_aload_n rfl rfl ?_
    replace e := ck_as_e e
    obtain ⟨hk_19, e⟩ := e
    replace e := ck_some_e e
    obtain ⟨b20, hq_21, e⟩ := e
    refine go_get (v := .ref b20) rfl rfl hk_19 (by decide) (by show va_rf (gR h17 a0 3) = _; rw [hq_21]; rfl) ?_
    refine go_iload_n rfl rfl ?_
    replace e := ck_as_e e
    obtain ⟨hc_22, e⟩ := e
    refine go_iald rfl hc_22 ?_
    refine go_aload_n rfl rfl ?_
    replace e := ck_some_e e
    obtain ⟨b23, hq_24, e⟩ := e
    refine go_get (v := .ref b23) rfl rfl hk_19 (by decide) (by show va_rf (gR h17 a0 14) = _; rw [hq_24]; rfl) ?_
    refine go_iload_n rfl rfl ?_
    replace e := ck_as_e e
    obtain ⟨hc_25, e⟩ := e
    refine go_bald rfl hc_25 ?_
    refine go_sipush (v := 255) rfl (by decide) ?_
    refine go_iand rfl ?_
    refine go_icmp_ne (t := 109) rfl rfl (fun hx_26 => ?_) (fun hx_26 => ?_)
    · rw [if_pos hx_26] at e
      refine go_aload_n rfl rfl ?_
      replace e := ck_some_e e
      obtain ⟨b27, hq_28, e⟩ := e
      refine go_get (v := .ref b27) rfl rfl hk_19 (by decide) (by show va_rf (gR h17 a0 4) = _; rw [hq_28]; rfl) ?_
      refine go_iload_n rfl rfl ?_
      replace e := ck_as_e e
      obtain ⟨hc_29, e⟩ := e
      refine go_iald rfl hc_29 ?_
      refine go_aload_n rfl rfl ?_
      replace e := ck_some_e e
      obtain ⟨b30, hq_31, e⟩ := e
      refine go_get (v := .ref b30) rfl rfl hk_19 (by decide) (by show va_rf (gR h17 a0 14) = _; rw [hq_31]; rfl) ?_
      refine go_iload_n rfl rfl ?_
      refine go_iconst (v := 1) rfl (by decide) ?_
      refine go_iadd rfl ?_
      replace e := ck_as_e e
      obtain ⟨hc_32, e⟩ := e
      refine go_bald rfl hc_32 ?_
      refine go_sipush (v := 255) rfl (by decide) ?_
      refine go_iand rfl ?_
      refine go_icmp_ne (t := 109) rfl rfl (fun hx_33 => ?_) (fun hx_33 => ?_)
      · rw [if_pos hx_33] at e
        refine go_aload_n rfl rfl ?_
        replace e := ck_some_e e
        obtain ⟨b34, hq_35, e⟩ := e
        refine go_get (v := .ref b34) rfl rfl hk_19 (by decide) (by show va_rf (gR h17 a0 5) = _; rw [hq_35]; rfl) ?_
        refine go_iload_n rfl rfl ?_
        replace e := ck_as_e e
        obtain ⟨hc_36, e⟩ := e
        refine go_iald rfl hc_36 ?_
        refine go_aload_n rfl rfl ?_
        replace e := ck_some_e e
        obtain ⟨b37, hq_38, e⟩ := e
        refine go_get (v := .ref b37) rfl rfl hk_19 (by decide) (by show va_rf (gR h17 a0 14) = _; rw [hq_38]; rfl) ?_
        refine go_iload_n rfl rfl ?_
        refine go_iconst (v := 2) rfl (by decide) ?_
        refine go_iadd rfl ?_
        replace e := ck_as_e e
        obtain ⟨hc_39, e⟩ := e
        refine go_bald rfl hc_39 ?_
        refine go_sipush (v := 255) rfl (by decide) ?_
        refine go_iand rfl ?_
        refine go_icmp_ne (t := 109) rfl rfl (fun hx_40 => ?_) (fun hx_40 => ?_)
        · rw [if_pos hx_40] at e
          refine go_iconst (v := 1) rfl (by decide) ?_
          refine go_goto (t := 110) rfl rfl ?_
          replace e := ck_bd_e e
          obtain ⟨r41, h42, e43, e⟩ := e
          refine go_callV (As := [.int 1]) (b0 := a0) (rest := []) rfl rfl ⟨hk_19, by decide⟩ rfl ⟨Nat.le_of_ble_eq_true rfl, Nat.le_of_ble_eq_true rfl, Nat.le_of_ble_eq_true rfl, Nat.le_of_ble_eq_true rfl⟩ (s_RM_held e43) ?_
          show Go k_RM_searchId 113 [some (.ref a0), some (.int v1), some (.int r2), some (.int r16)] [.int r41] h42 _
          cases e
          exact go_ret rfl rfl
        · rw [if_neg hx_40] at e
          refine go_iconst (v := 0) rfl (by decide) ?_
          replace e := ck_bd_e e
          obtain ⟨r44, h45, e46, e⟩ := e
          refine go_callV (As := [.int 0]) (b0 := a0) (rest := []) rfl rfl ⟨hk_19, by decide⟩ rfl ⟨Nat.le_of_ble_eq_true rfl, Nat.le_of_ble_eq_true rfl, Nat.le_of_ble_eq_true rfl, Nat.le_of_ble_eq_true rfl⟩ (s_RM_held e46) ?_
          show Go k_RM_searchId 113 [some (.ref a0), some (.int v1), some (.int r2), some (.int r16)] [.int r44] h45 _
          cases e
          exact go_ret rfl rfl
      · rw [if_neg hx_33] at e
        refine go_iconst (v := 0) rfl (by decide) ?_
        replace e := ck_bd_e e
        obtain ⟨r47, h48, e49, e⟩ := e
        refine go_callV (As := [.int 0]) (b0 := a0) (rest := []) rfl rfl ⟨hk_19, by decide⟩ rfl ⟨Nat.le_of_ble_eq_true rfl, Nat.le_of_ble_eq_true rfl, Nat.le_of_ble_eq_true rfl, Nat.le_of_ble_eq_true rfl⟩ (s_RM_held e49) ?_
        show Go k_RM_searchId 113 [some (.ref a0), some (.int v1), some (.int r2), some (.int r16)] [.int r47] h48 _
        cases e
        exact go_ret rfl rfl
    · rw [if_neg hx_26] at e
      refine go_iconst (v := 0) rfl (by decide) ?_
      replace e := ck_bd_e e
      obtain ⟨r50, h51, e52, e⟩ := e
      refine go_callV (As := [.int 0]) (b0 := a0) (rest := []) rfl rfl ⟨hk_19, by decide⟩ rfl ⟨Nat.le_of_ble_eq_true rfl, Nat.le_of_ble_eq_true rfl, Nat.le_of_ble_eq_true rfl, Nat.le_of_ble_eq_true rfl⟩ (s_RM_held e52) ?_
      show Go k_RM_searchId 113 [some (.ref a0), some (.int v1), some (.int r2), some (.int r16)] [.int r50] h51 _
      cases e
      exact go_ret rfl rfl
def f_RM_countRecord (F : Nat) (a0 : Nat) (h : ck_H) : Option (Int32 × ck_H) :=
  ck_as (gk h a0 = 12) <|
  if (gI h a0 28) = (2 : Int32) then
    some (gI h a0 29, h)
  else
    ck_bd (f_RM_nextRecord F a0 h) fun r3 h4 =>
    if r3 = ((-1) : Int32) then
      some (r3, h4)
    else
      ck_as (gk h4 a0 = 12) <|
      ck_then (wJ h4 a0 21 ((gJ h4 a0 21) + 10)) fun h8 =>
      some (r3, h8)
set_option maxRecDepth 100000 in
set_option maxHeartbeats 4000000 in
theorem s_RM_countRecord {F : Nat} {a0 : Nat} {h h' : ck_H} {r : Int32} (e : f_RM_countRecord F a0 h = some (r, h')) : Go k_RM_countRecord 0 (ck_in [.ref a0] 2) [] h (some (.int r), h') := by
  unfold f_RM_countRecord at e
  show Go k_RM_countRecord 0 [some (.ref a0), none] [] h _
  refine go_aload_n rfl rfl ?_
  replace e := ck_as_e e
  obtain ⟨hk_1, e⟩ := e
  refine go_get (v := .int (gI h a0 28)) rfl rfl hk_1 (by decide) rfl ?_
  refine go_iconst (v := 2) rfl (by decide) ?_
  refine go_icmp_ne (t := 13) rfl rfl (fun hx_2 => ?_) (fun hx_2 => ?_)
  · rw [if_pos hx_2] at e
    refine go_aload_n rfl rfl ?_
    refine go_get (v := .int (gI h a0 29)) rfl rfl hk_1 (by decide) rfl ?_
    cases e
    exact go_ret rfl rfl
  · rw [if_neg hx_2] at e
    refine go_aload_n rfl rfl ?_
    replace e := ck_bd_e e
    obtain ⟨r3, h4, e5, e⟩ := e
    refine go_callV (As := []) (b0 := a0) (rest := []) rfl rfl ⟨hk_1, by decide⟩ rfl ⟨Nat.le_of_ble_eq_true rfl, Nat.le_of_ble_eq_true rfl, Nat.le_of_ble_eq_true rfl, Nat.le_of_ble_eq_true rfl⟩ (s_RM_nextRecord e5) ?_
    show Go k_RM_countRecord 17 [some (.ref a0), none] [.int r3] h4 _
    refine go_istore_n rfl rfl ?_
    show Go k_RM_countRecord 18 [some (.ref a0), some (.int r3)] [] h4 _
    refine go_iload_n rfl rfl ?_
    refine go_iconst (v := (-1)) rfl (by decide) ?_
    refine go_icmp_eq (t := 35) rfl rfl (fun hx_6 => ?_) (fun hx_6 => ?_)
    · rw [if_pos hx_6] at e
      refine go_iload_n rfl rfl ?_
      cases e
      exact go_ret rfl rfl
    · rw [if_neg hx_6] at e
      refine go_aload_n rfl rfl ?_
      refine go_dup rfl rfl ?_
      replace e := ck_as_e e
      obtain ⟨hk_7, e⟩ := e
      refine go_get (v := .long (gJ h4 a0 21)) rfl rfl hk_7 (by decide) rfl ?_
      refine go_ldc2 (v := 10) rfl rfl ?_
      refine go_ladd rfl ?_
      refine go_put (h1 := wJ h4 a0 21 ((gJ h4 a0 21) + 10)) rfl rfl hk_7 ⟨by decide, by decide, Or.inl rfl⟩ rfl ?_
      have hk_9 : gk (wJ h4 a0 21 ((gJ h4 a0 21) + 10)) a0 = 12 := ck_kJ.trans hk_7
      generalize wJ h4 a0 21 ((gJ h4 a0 21) + 10) = h8 at e hk_9 ⊢
      replace e := ck_then_e e
      refine go_iload_n rfl rfl ?_
      cases e
      exact go_ret rfl rfl
def f_RM_keyAt (F : Nat) (a0 : Nat) (v1 : Int32) (v2 : Int32) (h : ck_H) : Option (Int32 × ck_H) :=
  ck_as (gk h a0 = 12) <|
  ck_some (gR h a0 2) fun b2 =>
  ck_bd (f_RM_at F v1 v2 h) fun r4 h5 =>
  ck_as ((gk h5 b2 = 14 ∨ gk h5 b2 = 21) ∧ ¬ r4 < 0 ∧ (r4 : Int32).toNatClampNeg < gz h5 b2) <|
  some (((1500 * v1) + (gI h5 b2 (r4 : Int32).toNatClampNeg)) + 30, h5)
set_option maxRecDepth 100000 in
set_option maxHeartbeats 4000000 in
theorem s_RM_keyAt {F : Nat} {a0 : Nat} {v1 : Int32} {v2 : Int32} {h h' : ck_H} {r : Int32} (e : f_RM_keyAt F a0 v1 v2 h = some (r, h')) : Go k_RM_keyAt 0 (ck_in [.ref a0, .int v1, .int v2] 3) [] h (some (.int r), h') := by
  unfold f_RM_keyAt at e
  show Go k_RM_keyAt 0 [some (.ref a0), some (.int v1), some (.int v2)] [] h _
  refine go_sipush (v := 1500) rfl (by decide) ?_
  refine go_iload_n rfl rfl ?_
  refine go_imul rfl ?_
  refine go_aload_n rfl rfl ?_
  replace e := ck_as_e e
  obtain ⟨hk_1, e⟩ := e
  replace e := ck_some_e e
  obtain ⟨b2, hq_3, e⟩ := e
  refine go_get (v := .ref b2) rfl rfl hk_1 (by decide) (by show va_rf (gR h a0 2) = _; rw [hq_3]; rfl) ?_
  refine go_iload_n rfl rfl ?_
  refine go_iload_n rfl rfl ?_
  replace e := ck_bd_e e
  obtain ⟨r4, h5, e6, e⟩ := e
  refine go_callS (As := [.int v1, .int v2]) (rest := [.ref b2, .int (1500 * v1)]) rfl rfl rfl ⟨Nat.le_of_ble_eq_true rfl, Nat.le_of_ble_eq_true rfl, Nat.le_of_ble_eq_true rfl, Nat.le_of_ble_eq_true rfl⟩ (s_RM_at e6) ?_
  show Go k_RM_keyAt 14 [some (.ref a0), some (.int v1), some (.int v2)] [.int r4, .ref b2, .int (1500 * v1)] h5 _
  replace e := ck_as_e e
  obtain ⟨hc_7, e⟩ := e
  refine go_iald rfl hc_7 ?_
  refine go_iadd rfl ?_
  refine go_bipush (v := 30) rfl (by decide) ?_
  refine go_iadd rfl ?_
  cases e
  exact go_ret rfl rfl
