def f_Ch_programLength_L2 (F : Nat)  : Nat → Nat → Int32 → ck_H → Option (Int32 × ck_H)
  | 0, _, _, _ => none
  | n + 1, a0, v1, h =>
    if v1 < (32 : Int32) then
      ck_as (gk h a0 = 0) <|
      ck_some (gR h a0 1) fun b3 =>
      ck_as ((16 ≤ gk h b3 ∧ gk h b3 ≤ 20) ∧ ¬ v1 < 0 ∧ (v1 : Int32).toNatClampNeg < gz h b3) <|
      ck_some (gR h b3 (v1 : Int32).toNatClampNeg) fun b6 =>
      ck_as (gk h b6 = 1) <|
      ck_bd (f_Cm_chains F b6 h) fun r9 h10 =>
      if r9 = (0 : Int32) then
        some (v1 + 1, h10)
      else
        f_Ch_programLength_L2 F n a0 (v1 + 1) h10
    else
      some (33, h)
set_option maxRecDepth 100000 in
set_option maxHeartbeats 4000000 in
theorem f_Ch_programLength_L2_s (F : Nat)   : ∀ (n : Nat) (a0 : Nat) (v1 : Int32) (h : ck_H) (r : Int32) (h' : ck_H), f_Ch_programLength_L2 F n a0 v1 h = some (r, h') → Go k_Ch_programLength 2 [some (.ref a0), some (.int v1)] [] h (some (.int r), h') := by
  intro n
  induction n with
  | zero => intro a0 v1 h r h' e; simp only [f_Ch_programLength_L2] at e; cases e
  | succ n ih =>
    intro a0 v1 h r h' e
    rw [f_Ch_programLength_L2] at e
    refine go_iload_n rfl rfl ?_
    refine go_bipush (v := 32) rfl (by decide) ?_
    refine go_icmp_ge (t := 30) rfl rfl (fun hx_1 => ?_) (fun hx_1 => ?_)
    · rw [if_pos hx_1] at e
      refine go_aload_n rfl rfl ?_
      replace e := ck_as_e e
      obtain ⟨hk_2, e⟩ := e
      replace e := ck_some_e e
      obtain ⟨b3, hq_4, e⟩ := e
      refine go_get (v := .ref b3) rfl rfl hk_2 (by decide) (by show va_rf (gR h a0 1) = _; rw [hq_4]; rfl) ?_
      refine go_iload_n rfl rfl ?_
      replace e := ck_as_e e
      obtain ⟨hc_5, e⟩ := e
      replace e := ck_some_e e
      obtain ⟨b6, hq_7, e⟩ := e
      refine go_aald (v := .ref b6) rfl hc_5 (by rw [hq_7]; rfl) ?_
      replace e := ck_as_e e
      obtain ⟨hk_8, e⟩ := e
      replace e := ck_bd_e e
      obtain ⟨r9, h10, e11, e⟩ := e
      refine go_callV (As := []) (b0 := b6) (rest := []) rfl rfl ⟨hk_8, by decide⟩ rfl ⟨Nat.le_of_ble_eq_true rfl, Nat.le_of_ble_eq_true rfl, Nat.le_of_ble_eq_true rfl, Nat.le_of_ble_eq_true rfl⟩ (s_Cm_chains e11) ?_
      show Go k_Ch_programLength 17 [some (.ref a0), some (.int v1)] [.int r9] h10 _
      refine go_if_ne (t := 24) rfl rfl (fun hx_12 => ?_) (fun hx_12 => ?_)
      · rw [if_pos hx_12] at e
        refine go_iload_n rfl rfl ?_
        refine go_iconst (v := 1) rfl (by decide) ?_
        refine go_iadd rfl ?_
        cases e
        exact go_ret rfl rfl
      · rw [if_neg hx_12] at e
        refine go_iinc (v := 1) rfl rfl (by decide) rfl ?_
        show Go k_Ch_programLength 27 [some (.ref a0), some (.int (v1 + 1))] [] h10 _
        refine go_goto (t := 2) rfl rfl ?_
        refine go_forget (l := [some (.ref a0), some (.int (v1 + 1))]) ⟨Or.inl rfl, Or.inl rfl, trivial⟩ ?_
        exact ih _ _ _ _ _ e
    · rw [if_neg hx_1] at e
      refine go_bipush (v := 33) rfl (by decide) ?_
      cases e
      exact go_ret rfl rfl
def f_Ch_programLength (F : Nat) (a0 : Nat) (h : ck_H) : Option (Int32 × ck_H) :=
  f_Ch_programLength_L2 F F a0 0 h
set_option maxRecDepth 100000 in
set_option maxHeartbeats 4000000 in
theorem s_Ch_programLength {F : Nat} {a0 : Nat} {h h' : ck_H} {r : Int32} (e : f_Ch_programLength F a0 h = some (r, h')) : Go k_Ch_programLength 0 (ck_in [.ref a0] 2) [] h (some (.int r), h') := by
  unfold f_Ch_programLength at e
  show Go k_Ch_programLength 0 [some (.ref a0), none] [] h _
  refine go_iconst (v := 0) rfl (by decide) ?_
  refine go_istore_n rfl rfl ?_
  show Go k_Ch_programLength 2 [some (.ref a0), some (.int 0)] [] h _
  refine go_forget (l := [some (.ref a0), some (.int 0)]) ⟨Or.inl rfl, Or.inl rfl, trivial⟩ ?_
  exact f_Ch_programLength_L2_s F F _ _ _ _ _ e
def f_Ch_usesMemory (F : Nat) (v0 : Int32) (h : ck_H) : Option (Int32 × ck_H) :=
  if v0 = (7 : Int32) then
    some (0, h)
  else
    if v0 = (15 : Int32) then
      some (0, h)
    else
      if v0 = (16 : Int32) then
        some (0, h)
      else
        some (1, h)
set_option maxRecDepth 100000 in
set_option maxHeartbeats 4000000 in
theorem s_Ch_usesMemory {F : Nat} {v0 : Int32} {h h' : ck_H} {r : Int32} (e : f_Ch_usesMemory F v0 h = some (r, h')) : Go k_Ch_usesMemory 0 (ck_in [.int v0] 1) [] h (some (.int r), h') := by
  unfold f_Ch_usesMemory at e
  show Go k_Ch_usesMemory 0 [some (.int v0)] [] h _
  refine go_iload_n rfl rfl ?_
  refine go_bipush (v := 7) rfl (by decide) ?_
  refine go_icmp_eq (t := 22) rfl rfl (fun hx_1 => ?_) (fun hx_1 => ?_)
  · rw [if_pos hx_1] at e
    refine go_iconst (v := 0) rfl (by decide) ?_
    cases e
    exact go_ret rfl (ck_rvb rfl (Or.inl rfl))
  · rw [if_neg hx_1] at e
    refine go_iload_n rfl rfl ?_
    refine go_bipush (v := 15) rfl (by decide) ?_
    refine go_icmp_eq (t := 22) rfl rfl (fun hx_2 => ?_) (fun hx_2 => ?_)
    · rw [if_pos hx_2] at e
      refine go_iconst (v := 0) rfl (by decide) ?_
      cases e
      exact go_ret rfl (ck_rvb rfl (Or.inl rfl))
    · rw [if_neg hx_2] at e
      refine go_iload_n rfl rfl ?_
      refine go_bipush (v := 16) rfl (by decide) ?_
      refine go_icmp_eq (t := 22) rfl rfl (fun hx_3 => ?_) (fun hx_3 => ?_)
      · rw [if_pos hx_3] at e
        refine go_iconst (v := 0) rfl (by decide) ?_
        cases e
        exact go_ret rfl (ck_rvb rfl (Or.inl rfl))
      · rw [if_neg hx_3] at e
        refine go_iconst (v := 1) rfl (by decide) ?_
        refine go_goto (t := 23) rfl rfl ?_
        cases e
        exact go_ret rfl (ck_rvb rfl (Or.inr rfl))
def f_Ch_isInMemory (F : Nat) (a0 : Nat) (h : ck_H) : Option (Int32 × ck_H) :=
  ck_as (gk h a0 = 1) <|
  if (gI h a0 1) < (0 : Int32) then
    some (0, h)
  else
    if (gI h a0 2) < (0 : Int32) then
      some (0, h)
    else
      if (2048 : Int32) < (gI h a0 2) then
        some (0, h)
      else
        if (2048 - (gI h a0 2)) < (gI h a0 1) then
          some (0, h)
        else
          some (1, h)
set_option maxRecDepth 100000 in
set_option maxHeartbeats 4000000 in
theorem s_Ch_isInMemory {F : Nat} {a0 : Nat} {h h' : ck_H} {r : Int32} (e : f_Ch_isInMemory F a0 h = some (r, h')) : Go k_Ch_isInMemory 0 (ck_in [.ref a0] 1) [] h (some (.int r), h') := by
  unfold f_Ch_isInMemory at e
  show Go k_Ch_isInMemory 0 [some (.ref a0)] [] h _
  refine go_aload_n rfl rfl ?_
  replace e := ck_as_e e
  obtain ⟨hk_1, e⟩ := e
  refine go_get (v := .int (gI h a0 1)) rfl rfl hk_1 (by decide) rfl ?_
  refine go_if_lt (t := 43) rfl rfl (fun hx_2 => ?_) (fun hx_2 => ?_)
  · rw [if_pos hx_2] at e
    refine go_iconst (v := 0) rfl (by decide) ?_
    cases e
    exact go_ret rfl (ck_rvb rfl (Or.inl rfl))
  · rw [if_neg hx_2] at e
    refine go_aload_n rfl rfl ?_
    refine go_get (v := .int (gI h a0 2)) rfl rfl hk_1 (by decide) rfl ?_
    refine go_if_lt (t := 43) rfl rfl (fun hx_3 => ?_) (fun hx_3 => ?_)
    · rw [if_pos hx_3] at e
      refine go_iconst (v := 0) rfl (by decide) ?_
      cases e
      exact go_ret rfl (ck_rvb rfl (Or.inl rfl))
    · rw [if_neg hx_3] at e
      refine go_aload_n rfl rfl ?_
      refine go_get (v := .int (gI h a0 2)) rfl rfl hk_1 (by decide) rfl ?_
      refine go_sipush (v := 2048) rfl (by decide) ?_
      refine go_icmp_gt (t := 43) rfl rfl (fun hx_4 => ?_) (fun hx_4 => ?_)
      · rw [if_pos hx_4] at e
        refine go_iconst (v := 0) rfl (by decide) ?_
        cases e
        exact go_ret rfl (ck_rvb rfl (Or.inl rfl))
      · rw [if_neg hx_4] at e
        refine go_aload_n rfl rfl ?_
        refine go_get (v := .int (gI h a0 1)) rfl rfl hk_1 (by decide) rfl ?_
        refine go_sipush (v := 2048) rfl (by decide) ?_
        refine go_aload_n rfl rfl ?_
        refine go_get (v := .int (gI h a0 2)) rfl rfl hk_1 (by decide) rfl ?_
        refine go_isub rfl ?_
        refine go_icmp_gt (t := 43) rfl rfl (fun hx_5 => ?_) (fun hx_5 => ?_)
        · rw [if_pos hx_5] at e
          refine go_iconst (v := 0) rfl (by decide) ?_
          cases e
          exact go_ret rfl (ck_rvb rfl (Or.inl rfl))
        · rw [if_neg hx_5] at e
          refine go_iconst (v := 1) rfl (by decide) ?_
          refine go_goto (t := 44) rfl rfl ?_
          cases e
          exact go_ret rfl (ck_rvb rfl (Or.inr rfl))
def f_Ch_hasItsLength (F : Nat) (a0 : Nat) (h : ck_H) : Option (Int32 × ck_H) :=
  ck_as (gk h a0 = 1) <|
  if (gI h a0 0) = 1 then
    if (gI h a0 2) = (2 : Int32) then
      some (1, h)
    else
      some (0, h)
  else
  if (gI h a0 0) = 2 then
    if (gI h a0 2) = (1 : Int32) then
      some (1, h)
    else
      some (0, h)
  else
  if (gI h a0 0) = 3 then
    if (gI h a0 2) = (2 : Int32) then
      some (1, h)
    else
      some (0, h)
  else
  if (gI h a0 0) = 4 then
    if (gI h a0 2) = (3 : Int32) then
      some (1, h)
    else
      some (0, h)
  else
  if (gI h a0 0) = 5 then
    if (gI h a0 2) < (1 : Int32) then
      some (0, h)
    else
      if (60 : Int32) < (gI h a0 2) then
        some (0, h)
      else
        some (1, h)
  else
  if (gI h a0 0) = 6 then
    if (gI h a0 2) < (1 : Int32) then
      some (0, h)
    else
      if (60 : Int32) < (gI h a0 2) then
        some (0, h)
      else
        some (1, h)
  else
  if (gI h a0 0) = 7 then
    some (1, h)
  else
  if (gI h a0 0) = 8 then
    some (1, h)
  else
  if (gI h a0 0) = 9 then
    some (1, h)
  else
  if (gI h a0 0) = 10 then
    some (1, h)
  else
  if (gI h a0 0) = 11 then
    some (1, h)
  else
  if (gI h a0 0) = 12 then
    some (1, h)
  else
  if (gI h a0 0) = 13 then
    some (1, h)
  else
  if (gI h a0 0) = 14 then
    if (gI h a0 2) < (6 : Int32) then
      some (0, h)
    else
      some (1, h)
  else
    some (1, h)
set_option maxRecDepth 100000 in
set_option maxHeartbeats 4000000 in
theorem s_Ch_hasItsLength {F : Nat} {a0 : Nat} {h h' : ck_H} {r : Int32} (e : f_Ch_hasItsLength F a0 h = some (r, h')) : Go k_Ch_hasItsLength 0 (ck_in [.ref a0] 1) [] h (some (.int r), h') := by
  unfold f_Ch_hasItsLength at e
  show Go k_Ch_hasItsLength 0 [some (.ref a0)] [] h _
  refine go_aload_n rfl rfl ?_
  replace e := ck_as_e e
  obtain ⟨hk_1, e⟩ := e
  refine go_get (v := .int (gI h a0 0)) rfl rfl hk_1 (by decide) rfl ?_
  by_cases hx_2 : (gI h a0 0) = 1
  · rw [if_pos hx_2] at e
    refine go_tswI (off := 72) (t := 76) rfl (by rw [hx_2]; decide) (by rw [hx_2]; rfl) rfl ?_
    refine go_aload_n rfl rfl ?_
    refine go_get (v := .int (gI h a0 2)) rfl rfl hk_1 (by decide) rfl ?_
    refine go_iconst (v := 2) rfl (by decide) ?_
    refine go_icmp_ne (t := 88) rfl rfl (fun hx_3 => ?_) (fun hx_3 => ?_)
    · rw [if_pos hx_3] at e
      refine go_iconst (v := 1) rfl (by decide) ?_
      refine go_goto (t := 89) rfl rfl ?_
      cases e
      exact go_ret rfl (ck_rvb rfl (Or.inr rfl))
    · rw [if_neg hx_3] at e
      refine go_iconst (v := 0) rfl (by decide) ?_
      cases e
      exact go_ret rfl (ck_rvb rfl (Or.inl rfl))
  rw [if_neg hx_2] at e
  by_cases hx_4 : (gI h a0 0) = 2
  · rw [if_pos hx_4] at e
    refine go_tswI (off := 86) (t := 90) rfl (by rw [hx_4]; decide) (by rw [hx_4]; rfl) rfl ?_
    refine go_aload_n rfl rfl ?_
    refine go_get (v := .int (gI h a0 2)) rfl rfl hk_1 (by decide) rfl ?_
    refine go_iconst (v := 1) rfl (by decide) ?_
    refine go_icmp_ne (t := 102) rfl rfl (fun hx_5 => ?_) (fun hx_5 => ?_)
    · rw [if_pos hx_5] at e
      refine go_iconst (v := 1) rfl (by decide) ?_
      refine go_goto (t := 103) rfl rfl ?_
      cases e
      exact go_ret rfl (ck_rvb rfl (Or.inr rfl))
    · rw [if_neg hx_5] at e
      refine go_iconst (v := 0) rfl (by decide) ?_
      cases e
      exact go_ret rfl (ck_rvb rfl (Or.inl rfl))
  rw [if_neg hx_4] at e
  by_cases hx_6 : (gI h a0 0) = 3
  · rw [if_pos hx_6] at e
    refine go_tswI (off := 72) (t := 76) rfl (by rw [hx_6]; decide) (by rw [hx_6]; rfl) rfl ?_
    refine go_aload_n rfl rfl ?_
    refine go_get (v := .int (gI h a0 2)) rfl rfl hk_1 (by decide) rfl ?_
    refine go_iconst (v := 2) rfl (by decide) ?_
    refine go_icmp_ne (t := 88) rfl rfl (fun hx_7 => ?_) (fun hx_7 => ?_)
    · rw [if_pos hx_7] at e
      refine go_iconst (v := 1) rfl (by decide) ?_
      refine go_goto (t := 89) rfl rfl ?_
      cases e
      exact go_ret rfl (ck_rvb rfl (Or.inr rfl))
    · rw [if_neg hx_7] at e
      refine go_iconst (v := 0) rfl (by decide) ?_
      cases e
      exact go_ret rfl (ck_rvb rfl (Or.inl rfl))
  rw [if_neg hx_6] at e
  by_cases hx_8 : (gI h a0 0) = 4
  · rw [if_pos hx_8] at e
    refine go_tswI (off := 100) (t := 104) rfl (by rw [hx_8]; decide) (by rw [hx_8]; rfl) rfl ?_
    refine go_aload_n rfl rfl ?_
    refine go_get (v := .int (gI h a0 2)) rfl rfl hk_1 (by decide) rfl ?_
    refine go_iconst (v := 3) rfl (by decide) ?_
    refine go_icmp_ne (t := 116) rfl rfl (fun hx_9 => ?_) (fun hx_9 => ?_)
    · rw [if_pos hx_9] at e
      refine go_iconst (v := 1) rfl (by decide) ?_
      refine go_goto (t := 117) rfl rfl ?_
      cases e
      exact go_ret rfl (ck_rvb rfl (Or.inr rfl))
    · rw [if_neg hx_9] at e
      refine go_iconst (v := 0) rfl (by decide) ?_
      cases e
      exact go_ret rfl (ck_rvb rfl (Or.inl rfl))
  rw [if_neg hx_8] at e
  by_cases hx_10 : (gI h a0 0) = 5
  · rw [if_pos hx_10] at e
    refine go_tswI (off := 114) (t := 118) rfl (by rw [hx_10]; decide) (by rw [hx_10]; rfl) rfl ?_
    refine go_aload_n rfl rfl ?_
    refine go_get (v := .int (gI h a0 2)) rfl rfl hk_1 (by decide) rfl ?_
    refine go_iconst (v := 1) rfl (by decide) ?_
    refine go_icmp_lt (t := 139) rfl rfl (fun hx_11 => ?_) (fun hx_11 => ?_)
    · rw [if_pos hx_11] at e
      refine go_iconst (v := 0) rfl (by decide) ?_
      cases e
      exact go_ret rfl (ck_rvb rfl (Or.inl rfl))
    · rw [if_neg hx_11] at e
      refine go_aload_n rfl rfl ?_
      refine go_get (v := .int (gI h a0 2)) rfl rfl hk_1 (by decide) rfl ?_
      refine go_bipush (v := 60) rfl (by decide) ?_
      refine go_icmp_gt (t := 139) rfl rfl (fun hx_12 => ?_) (fun hx_12 => ?_)
      · rw [if_pos hx_12] at e
        refine go_iconst (v := 0) rfl (by decide) ?_
        cases e
        exact go_ret rfl (ck_rvb rfl (Or.inl rfl))
      · rw [if_neg hx_12] at e
        refine go_iconst (v := 1) rfl (by decide) ?_
        refine go_goto (t := 140) rfl rfl ?_
        cases e
        exact go_ret rfl (ck_rvb rfl (Or.inr rfl))
  rw [if_neg hx_10] at e
  by_cases hx_13 : (gI h a0 0) = 6
  · rw [if_pos hx_13] at e
    refine go_tswI (off := 114) (t := 118) rfl (by rw [hx_13]; decide) (by rw [hx_13]; rfl) rfl ?_
    refine go_aload_n rfl rfl ?_
    refine go_get (v := .int (gI h a0 2)) rfl rfl hk_1 (by decide) rfl ?_
    refine go_iconst (v := 1) rfl (by decide) ?_
    refine go_icmp_lt (t := 139) rfl rfl (fun hx_14 => ?_) (fun hx_14 => ?_)
    · rw [if_pos hx_14] at e
      refine go_iconst (v := 0) rfl (by decide) ?_
      cases e
      exact go_ret rfl (ck_rvb rfl (Or.inl rfl))
    · rw [if_neg hx_14] at e
      refine go_aload_n rfl rfl ?_
      refine go_get (v := .int (gI h a0 2)) rfl rfl hk_1 (by decide) rfl ?_
      refine go_bipush (v := 60) rfl (by decide) ?_
      refine go_icmp_gt (t := 139) rfl rfl (fun hx_15 => ?_) (fun hx_15 => ?_)
      · rw [if_pos hx_15] at e
        refine go_iconst (v := 0) rfl (by decide) ?_
        cases e
        exact go_ret rfl (ck_rvb rfl (Or.inl rfl))
      · rw [if_neg hx_15] at e
        refine go_iconst (v := 1) rfl (by decide) ?_
        refine go_goto (t := 140) rfl rfl ?_
        cases e
        exact go_ret rfl (ck_rvb rfl (Or.inr rfl))
  rw [if_neg hx_13] at e
  by_cases hx_16 : (gI h a0 0) = 7
  · rw [if_pos hx_16] at e
    refine go_tswI (off := 152) (t := 156) rfl (by rw [hx_16]; decide) (by rw [hx_16]; rfl) rfl ?_
    refine go_iconst (v := 1) rfl (by decide) ?_
    cases e
    exact go_ret rfl (ck_rvb rfl (Or.inr rfl))
  rw [if_neg hx_16] at e
  by_cases hx_17 : (gI h a0 0) = 8
  · rw [if_pos hx_17] at e
    refine go_tswI (off := 152) (t := 156) rfl (by rw [hx_17]; decide) (by rw [hx_17]; rfl) rfl ?_
    refine go_iconst (v := 1) rfl (by decide) ?_
    cases e
    exact go_ret rfl (ck_rvb rfl (Or.inr rfl))
  rw [if_neg hx_17] at e
  by_cases hx_18 : (gI h a0 0) = 9
  · rw [if_pos hx_18] at e
    refine go_tswI (off := 152) (t := 156) rfl (by rw [hx_18]; decide) (by rw [hx_18]; rfl) rfl ?_
    refine go_iconst (v := 1) rfl (by decide) ?_
    cases e
    exact go_ret rfl (ck_rvb rfl (Or.inr rfl))
  rw [if_neg hx_18] at e
  by_cases hx_19 : (gI h a0 0) = 10
  · rw [if_pos hx_19] at e
    refine go_tswI (off := 152) (t := 156) rfl (by rw [hx_19]; decide) (by rw [hx_19]; rfl) rfl ?_
    refine go_iconst (v := 1) rfl (by decide) ?_
    cases e
    exact go_ret rfl (ck_rvb rfl (Or.inr rfl))
  rw [if_neg hx_19] at e
  by_cases hx_20 : (gI h a0 0) = 11
  · rw [if_pos hx_20] at e
    refine go_tswI (off := 152) (t := 156) rfl (by rw [hx_20]; decide) (by rw [hx_20]; rfl) rfl ?_
    refine go_iconst (v := 1) rfl (by decide) ?_
    cases e
    exact go_ret rfl (ck_rvb rfl (Or.inr rfl))
  rw [if_neg hx_20] at e
  by_cases hx_21 : (gI h a0 0) = 12
  · rw [if_pos hx_21] at e
    refine go_tswI (off := 152) (t := 156) rfl (by rw [hx_21]; decide) (by rw [hx_21]; rfl) rfl ?_
    refine go_iconst (v := 1) rfl (by decide) ?_
    cases e
    exact go_ret rfl (ck_rvb rfl (Or.inr rfl))
  rw [if_neg hx_21] at e
  by_cases hx_22 : (gI h a0 0) = 13
  · rw [if_pos hx_22] at e
    refine go_tswI (off := 152) (t := 156) rfl (by rw [hx_22]; decide) (by rw [hx_22]; rfl) rfl ?_
    refine go_iconst (v := 1) rfl (by decide) ?_
    cases e
    exact go_ret rfl (ck_rvb rfl (Or.inr rfl))
  rw [if_neg hx_22] at e
  by_cases hx_23 : (gI h a0 0) = 14
  · rw [if_pos hx_23] at e
    refine go_tswI (off := 137) (t := 141) rfl (by rw [hx_23]; decide) (by rw [hx_23]; rfl) rfl ?_
    refine go_aload_n rfl rfl ?_
    refine go_get (v := .int (gI h a0 2)) rfl rfl hk_1 (by decide) rfl ?_
    refine go_bipush (v := 6) rfl (by decide) ?_
    refine go_icmp_lt (t := 154) rfl rfl (fun hx_24 => ?_) (fun hx_24 => ?_)
    · rw [if_pos hx_24] at e
      refine go_iconst (v := 0) rfl (by decide) ?_
      cases e
      exact go_ret rfl (ck_rvb rfl (Or.inl rfl))
    · rw [if_neg hx_24] at e
      refine go_iconst (v := 1) rfl (by decide) ?_
      refine go_goto (t := 155) rfl rfl ?_
      cases e
      exact go_ret rfl (ck_rvb rfl (Or.inr rfl))
  rw [if_neg hx_23] at e
  have hz_ : (gI h a0 0 : Int32).toInt < 1 ∨ 14 < (gI h a0 0 : Int32).toInt := by
    have z0 := lv_neT hx_2 (k := 1) (a := 1) rfl
    have z1 := lv_neT hx_4 (k := 2) (a := 2) rfl
    have z2 := lv_neT hx_6 (k := 3) (a := 3) rfl
    have z3 := lv_neT hx_8 (k := 4) (a := 4) rfl
    have z4 := lv_neT hx_10 (k := 5) (a := 5) rfl
    have z5 := lv_neT hx_13 (k := 6) (a := 6) rfl
    have z6 := lv_neT hx_16 (k := 7) (a := 7) rfl
    have z7 := lv_neT hx_17 (k := 8) (a := 8) rfl
    have z8 := lv_neT hx_18 (k := 9) (a := 9) rfl
    have z9 := lv_neT hx_19 (k := 10) (a := 10) rfl
    have z10 := lv_neT hx_20 (k := 11) (a := 11) rfl
    have z11 := lv_neT hx_21 (k := 12) (a := 12) rfl
    have z12 := lv_neT hx_22 (k := 13) (a := 13) rfl
    have z13 := lv_neT hx_23 (k := 14) (a := 14) rfl
    omega
  refine go_tswO (m := k_Ch_hasItsLength) (pc := 4) (t := 156) (d := 152) (offs := #[72, 86, 72, 100, 114, 114, 152, 152, 152, 152, 152, 152, 152, 137]) rfl hz_ rfl ?_
  refine go_iconst (v := 1) rfl (by decide) ?_
  cases e
  exact go_ret rfl (ck_rvb rfl (Or.inr rfl))
def f_Ch_opAt (F : Nat) (a0 : Nat) (v1 : Int32) (h : ck_H) : Option (Int32 × ck_H) :=
  if v1 < (0 : Int32) then
    some ((-1), h)
  else
    if v1 < (32 : Int32) then
      ck_as (gk h a0 = 0) <|
      ck_some (gR h a0 1) fun b4 =>
      ck_as ((16 ≤ gk h b4 ∧ gk h b4 ≤ 20) ∧ ¬ v1 < 0 ∧ (v1 : Int32).toNatClampNeg < gz h b4) <|
      ck_some (gR h b4 (v1 : Int32).toNatClampNeg) fun b7 =>
      ck_as (gk h b7 = 1) <|
      some (gI h b7 0, h)
    else
      some ((-1), h)
set_option maxRecDepth 100000 in
set_option maxHeartbeats 4000000 in
theorem s_Ch_opAt {F : Nat} {a0 : Nat} {v1 : Int32} {h h' : ck_H} {r : Int32} (e : f_Ch_opAt F a0 v1 h = some (r, h')) : Go k_Ch_opAt 0 (ck_in [.ref a0, .int v1] 2) [] h (some (.int r), h') := by
  unfold f_Ch_opAt at e
  show Go k_Ch_opAt 0 [some (.ref a0), some (.int v1)] [] h _
  refine go_iload_n rfl rfl ?_
  refine go_if_lt (t := 10) rfl rfl (fun hx_1 => ?_) (fun hx_1 => ?_)
  · rw [if_pos hx_1] at e
    refine go_iconst (v := (-1)) rfl (by decide) ?_
    refine go_goto (t := 23) rfl rfl ?_
    cases e
    exact go_ret rfl rfl
  · rw [if_neg hx_1] at e
    refine go_iload_n rfl rfl ?_
    refine go_bipush (v := 32) rfl (by decide) ?_
    refine go_icmp_lt (t := 14) rfl rfl (fun hx_2 => ?_) (fun hx_2 => ?_)
    · rw [if_pos hx_2] at e
      refine go_aload_n rfl rfl ?_
      replace e := ck_as_e e
      obtain ⟨hk_3, e⟩ := e
      replace e := ck_some_e e
      obtain ⟨b4, hq_5, e⟩ := e
      refine go_get (v := .ref b4) rfl rfl hk_3 (by decide) (by show va_rf (gR h a0 1) = _; rw [hq_5]; rfl) ?_
      refine go_iload_n rfl rfl ?_
      replace e := ck_as_e e
      obtain ⟨hc_6, e⟩ := e
      replace e := ck_some_e e
      obtain ⟨b7, hq_8, e⟩ := e
      refine go_aald (v := .ref b7) rfl hc_6 (by rw [hq_8]; rfl) ?_
      replace e := ck_as_e e
      obtain ⟨hk_9, e⟩ := e
      refine go_get (v := .int (gI h b7 0)) rfl rfl hk_9 (by decide) rfl ?_
      cases e
      exact go_ret rfl rfl
    · rw [if_neg hx_2] at e
      refine go_iconst (v := (-1)) rfl (by decide) ?_
      refine go_goto (t := 23) rfl rfl ?_
      cases e
      exact go_ret rfl rfl
def f_Ch_leaderOf (F : Nat) (a0 : Nat) (v1 : Int32) (h : ck_H) : Option (Int32 × ck_H) :=
  ck_as (gk h a0 = 0) <|
  ck_bd (f_Ch_opAt F a0 (v1 - 1) h) fun r2 h3 =>
  if r2 = (7 : Int32) then
    ck_as (gk h3 a0 = 0) <|
    ck_bd (f_Ch_opAt F a0 (v1 - 2) h3) fun r7 h8 =>
    some (r7, h8)
  else
    some ((-1), h3)
set_option maxRecDepth 100000 in
set_option maxHeartbeats 4000000 in
theorem s_Ch_leaderOf {F : Nat} {a0 : Nat} {v1 : Int32} {h h' : ck_H} {r : Int32} (e : f_Ch_leaderOf F a0 v1 h = some (r, h')) : Go k_Ch_leaderOf 0 (ck_in [.ref a0, .int v1] 2) [] h (some (.int r), h') := by
  unfold f_Ch_leaderOf at e
  show Go k_Ch_leaderOf 0 [some (.ref a0), some (.int v1)] [] h _
  refine go_aload_n rfl rfl ?_
  refine go_iload_n rfl rfl ?_
  refine go_iconst (v := 1) rfl (by decide) ?_
  refine go_isub rfl ?_
  replace e := ck_as_e e
  obtain ⟨hk_1, e⟩ := e
  replace e := ck_bd_e e
  obtain ⟨r2, h3, e4, e⟩ := e
  refine go_callV (As := [.int (v1 - 1)]) (b0 := a0) (rest := []) rfl rfl ⟨hk_1, by decide⟩ rfl ⟨Nat.le_of_ble_eq_true rfl, Nat.le_of_ble_eq_true rfl, Nat.le_of_ble_eq_true rfl, Nat.le_of_ble_eq_true rfl⟩ (s_Ch_opAt e4) ?_
  show Go k_Ch_leaderOf 7 [some (.ref a0), some (.int v1)] [.int r2] h3 _
  refine go_bipush (v := 7) rfl (by decide) ?_
  refine go_icmp_ne (t := 22) rfl rfl (fun hx_5 => ?_) (fun hx_5 => ?_)
  · rw [if_pos hx_5] at e
    refine go_aload_n rfl rfl ?_
    refine go_iload_n rfl rfl ?_
    refine go_iconst (v := 2) rfl (by decide) ?_
    refine go_isub rfl ?_
    replace e := ck_as_e e
    obtain ⟨hk_6, e⟩ := e
    replace e := ck_bd_e e
    obtain ⟨r7, h8, e9, e⟩ := e
    refine go_callV (As := [.int (v1 - 2)]) (b0 := a0) (rest := []) rfl rfl ⟨hk_6, by decide⟩ rfl ⟨Nat.le_of_ble_eq_true rfl, Nat.le_of_ble_eq_true rfl, Nat.le_of_ble_eq_true rfl, Nat.le_of_ble_eq_true rfl⟩ (s_Ch_opAt e9) ?_
    show Go k_Ch_leaderOf 19 [some (.ref a0), some (.int v1)] [.int r7] h8 _
    refine go_goto (t := 23) rfl rfl ?_
    cases e
    exact go_ret rfl rfl
  · rw [if_neg hx_5] at e
    refine go_iconst (v := (-1)) rfl (by decide) ?_
    cases e
    exact go_ret rfl rfl
def f_Ch_isSearch (F : Nat) (v0 : Int32) (h : ck_H) : Option (Int32 × ck_H) :=
  if v0 < (3 : Int32) then
    some (0, h)
  else
    if (6 : Int32) < v0 then
      some (0, h)
    else
      some (1, h)
set_option maxRecDepth 100000 in
set_option maxHeartbeats 4000000 in
theorem s_Ch_isSearch {F : Nat} {v0 : Int32} {h h' : ck_H} {r : Int32} (e : f_Ch_isSearch F v0 h = some (r, h')) : Go k_Ch_isSearch 0 (ck_in [.int v0] 1) [] h (some (.int r), h') := by
  unfold f_Ch_isSearch at e
  show Go k_Ch_isSearch 0 [some (.int v0)] [] h _
  refine go_iload_n rfl rfl ?_
  refine go_iconst (v := 3) rfl (by decide) ?_
  refine go_icmp_lt (t := 15) rfl rfl (fun hx_1 => ?_) (fun hx_1 => ?_)
  · rw [if_pos hx_1] at e
    refine go_iconst (v := 0) rfl (by decide) ?_
    cases e
    exact go_ret rfl (ck_rvb rfl (Or.inl rfl))
  · rw [if_neg hx_1] at e
    refine go_iload_n rfl rfl ?_
    refine go_bipush (v := 6) rfl (by decide) ?_
    refine go_icmp_gt (t := 15) rfl rfl (fun hx_2 => ?_) (fun hx_2 => ?_)
    · rw [if_pos hx_2] at e
      refine go_iconst (v := 0) rfl (by decide) ?_
      cases e
      exact go_ret rfl (ck_rvb rfl (Or.inl rfl))
    · rw [if_neg hx_2] at e
      refine go_iconst (v := 1) rfl (by decide) ?_
      refine go_goto (t := 16) rfl rfl ?_
      cases e
      exact go_ret rfl (ck_rvb rfl (Or.inr rfl))
def f_Ch_standsRight (F : Nat) (a0 : Nat) (v1 : Int32) (h : ck_H) : Option (Int32 × ck_H) :=
  ck_as (gk h a0 = 0) <|
  ck_bd (f_Ch_leaderOf F a0 v1 h) fun r2 h3 =>
  ck_as (gk h3 a0 = 0) <|
  ck_bd (f_Ch_opAt F a0 v1 h3) fun r6 h7 =>
  if r6 = 7 then
    ck_as (gk h7 a0 = 0) <|
    ck_bd (f_Ch_opAt F a0 (v1 - 1) h7) fun r11 h12 =>
    ck_bd (f_Ch_isSearch F r11 h12) fun r14 h15 =>
    if r14 = (0 : Int32) then
      some (0, h15)
    else
      ck_as (gk h15 a0 = 0) <|
      ck_some (gR h15 a0 1) fun b19 =>
      ck_as ((16 ≤ gk h15 b19 ∧ gk h15 b19 ≤ 20) ∧ ¬ v1 < 0 ∧ (v1 : Int32).toNatClampNeg < gz h15 b19) <|
      ck_some (gR h15 b19 (v1 : Int32).toNatClampNeg) fun b22 =>
      ck_as (gk h15 b22 = 1) <|
      if (gI h15 b22 1) = (v1 - 1) then
        some (1, h15)
      else
        some (0, h15)
  else
  if r6 = 8 then
    some (1, h7)
  else
  if r6 = 9 then
    some (1, h7)
  else
  if r6 = 10 then
    some (1, h7)
  else
  if r6 = 11 then
    some (1, h7)
  else
  if r6 = 12 then
    if r2 = (4 : Int32) then
      some (1, h7)
    else
      if r2 = (5 : Int32) then
        some (1, h7)
      else
        if r2 = (6 : Int32) then
          some (1, h7)
        else
          some (0, h7)
  else
  if r6 = 13 then
    if r2 = (4 : Int32) then
      some (1, h7)
    else
      some (0, h7)
  else
  if r6 = 14 then
    ck_bd (f_Ch_isSearch F r2 h7) fun r37 h38 =>
    if r37 = (0 : Int32) then
      ck_as (gk h38 a0 = 0) <|
      ck_bd (f_Ch_opAt F a0 (v1 - 1) h38) fun r42 h43 =>
      if r42 = (14 : Int32) then
        some (1, h43)
      else
        some (0, h43)
    else
      some (1, h38)
  else
  if r6 = 15 then
    ck_bd (f_Ch_isSearch F r2 h7) fun r47 h48 =>
    if r47 = (0 : Int32) then
      ck_as (gk h48 a0 = 0) <|
      ck_bd (f_Ch_opAt F a0 (v1 - 1) h48) fun r52 h53 =>
      if r52 = (14 : Int32) then
        some (1, h53)
      else
        some (0, h53)
    else
      some (1, h48)
  else
    some (1, h7)
set_option maxRecDepth 100000 in
set_option maxHeartbeats 4000000 in
theorem s_Ch_standsRight {F : Nat} {a0 : Nat} {v1 : Int32} {h h' : ck_H} {r : Int32} (e : f_Ch_standsRight F a0 v1 h = some (r, h')) : Go k_Ch_standsRight 0 (ck_in [.ref a0, .int v1] 3) [] h (some (.int r), h') := by
  unfold f_Ch_standsRight at e
  show Go k_Ch_standsRight 0 [some (.ref a0), some (.int v1), none] [] h _
  refine go_aload_n rfl rfl ?_
  refine go_iload_n rfl rfl ?_
  replace e := ck_as_e e
  obtain ⟨hk_1, e⟩ := e
  replace e := ck_bd_e e
  obtain ⟨r2, h3, e4, e⟩ := e
  refine go_callV (As := [.int v1]) (b0 := a0) (rest := []) rfl rfl ⟨hk_1, by decide⟩ rfl ⟨Nat.le_of_ble_eq_true rfl, Nat.le_of_ble_eq_true rfl, Nat.le_of_ble_eq_true rfl, Nat.le_of_ble_eq_true rfl⟩ (s_Ch_leaderOf e4) ?_
  show Go k_Ch_standsRight 5 [some (.ref a0), some (.int v1), none] [.int r2] h3 _
  refine go_istore_n rfl rfl ?_
  show Go k_Ch_standsRight 6 [some (.ref a0), some (.int v1), some (.int r2)] [] h3 _
  refine go_aload_n rfl rfl ?_
  refine go_iload_n rfl rfl ?_
  replace e := ck_as_e e
  obtain ⟨hk_5, e⟩ := e
  replace e := ck_bd_e e
  obtain ⟨r6, h7, e8, e⟩ := e
  refine go_callV (As := [.int v1]) (b0 := a0) (rest := []) rfl rfl ⟨hk_5, by decide⟩ rfl ⟨Nat.le_of_ble_eq_true rfl, Nat.le_of_ble_eq_true rfl, Nat.le_of_ble_eq_true rfl, Nat.le_of_ble_eq_true rfl⟩ (s_Ch_opAt e8) ?_
  show Go k_Ch_standsRight 11 [some (.ref a0), some (.int v1), some (.int r2)] [.int r6] h7 _
  by_cases hx_9 : r6 = 7
  · rw [if_pos hx_9] at e
    refine go_tswI (off := 49) (t := 60) rfl (by rw [hx_9]; decide) (by rw [hx_9]; rfl) rfl ?_
    refine go_aload_n rfl rfl ?_
    refine go_iload_n rfl rfl ?_
    refine go_iconst (v := 1) rfl (by decide) ?_
    refine go_isub rfl ?_
    replace e := ck_as_e e
    obtain ⟨hk_10, e⟩ := e
    replace e := ck_bd_e e
    obtain ⟨r11, h12, e13, e⟩ := e
    refine go_callV (As := [.int (v1 - 1)]) (b0 := a0) (rest := []) rfl rfl ⟨hk_10, by decide⟩ rfl ⟨Nat.le_of_ble_eq_true rfl, Nat.le_of_ble_eq_true rfl, Nat.le_of_ble_eq_true rfl, Nat.le_of_ble_eq_true rfl⟩ (s_Ch_opAt e13) ?_
    show Go k_Ch_standsRight 67 [some (.ref a0), some (.int v1), some (.int r2)] [.int r11] h12 _
    replace e := ck_bd_e e
    obtain ⟨r14, h15, e16, e⟩ := e
    refine go_callS (As := [.int r11]) (rest := []) rfl rfl rfl ⟨Nat.le_of_ble_eq_true rfl, Nat.le_of_ble_eq_true rfl, Nat.le_of_ble_eq_true rfl, Nat.le_of_ble_eq_true rfl⟩ (s_Ch_isSearch e16) ?_
    show Go k_Ch_standsRight 70 [some (.ref a0), some (.int v1), some (.int r2)] [.int r14] h15 _
    refine go_if_eq (t := 92) rfl rfl (fun hx_17 => ?_) (fun hx_17 => ?_)
    · rw [if_pos hx_17] at e
      refine go_iconst (v := 0) rfl (by decide) ?_
      cases e
      exact go_ret rfl (ck_rvb rfl (Or.inl rfl))
    · rw [if_neg hx_17] at e
      refine go_aload_n rfl rfl ?_
      replace e := ck_as_e e
      obtain ⟨hk_18, e⟩ := e
      replace e := ck_some_e e
      obtain ⟨b19, hq_20, e⟩ := e
      refine go_get (v := .ref b19) rfl rfl hk_18 (by decide) (by show va_rf (gR h15 a0 1) = _; rw [hq_20]; rfl) ?_
      refine go_iload_n rfl rfl ?_
      replace e := ck_as_e e
      obtain ⟨hc_21, e⟩ := e
      replace e := ck_some_e e
      obtain ⟨b22, hq_23, e⟩ := e
      refine go_aald (v := .ref b22) rfl hc_21 (by rw [hq_23]; rfl) ?_
      replace e := ck_as_e e
      obtain ⟨hk_24, e⟩ := e
      refine go_get (v := .int (gI h15 b22 1)) rfl rfl hk_24 (by decide) rfl ?_
      refine go_iload_n rfl rfl ?_
      refine go_iconst (v := 1) rfl (by decide) ?_
      refine go_isub rfl ?_
      refine go_icmp_ne (t := 92) rfl rfl (fun hx_25 => ?_) (fun hx_25 => ?_)
      · rw [if_pos hx_25] at e
        refine go_iconst (v := 1) rfl (by decide) ?_
        refine go_goto (t := 93) rfl rfl ?_
        cases e
        exact go_ret rfl (ck_rvb rfl (Or.inr rfl))
      · rw [if_neg hx_25] at e
        refine go_iconst (v := 0) rfl (by decide) ?_
        cases e
        exact go_ret rfl (ck_rvb rfl (Or.inl rfl))
  rw [if_neg hx_9] at e
  by_cases hx_26 : r6 = 8
  · rw [if_pos hx_26] at e
    refine go_tswI (off := 141) (t := 152) rfl (by rw [hx_26]; decide) (by rw [hx_26]; rfl) rfl ?_
    refine go_iconst (v := 1) rfl (by decide) ?_
    cases e
    exact go_ret rfl (ck_rvb rfl (Or.inr rfl))
  rw [if_neg hx_26] at e
  by_cases hx_27 : r6 = 9
  · rw [if_pos hx_27] at e
    refine go_tswI (off := 141) (t := 152) rfl (by rw [hx_27]; decide) (by rw [hx_27]; rfl) rfl ?_
    refine go_iconst (v := 1) rfl (by decide) ?_
    cases e
    exact go_ret rfl (ck_rvb rfl (Or.inr rfl))
  rw [if_neg hx_27] at e
  by_cases hx_28 : r6 = 10
  · rw [if_pos hx_28] at e
    refine go_tswI (off := 141) (t := 152) rfl (by rw [hx_28]; decide) (by rw [hx_28]; rfl) rfl ?_
    refine go_iconst (v := 1) rfl (by decide) ?_
    cases e
    exact go_ret rfl (ck_rvb rfl (Or.inr rfl))
  rw [if_neg hx_28] at e
  by_cases hx_29 : r6 = 11
  · rw [if_pos hx_29] at e
    refine go_tswI (off := 141) (t := 152) rfl (by rw [hx_29]; decide) (by rw [hx_29]; rfl) rfl ?_
    refine go_iconst (v := 1) rfl (by decide) ?_
    cases e
    exact go_ret rfl (ck_rvb rfl (Or.inr rfl))
  rw [if_neg hx_29] at e
  by_cases hx_30 : r6 = 12
  · rw [if_pos hx_30] at e
    refine go_tswI (off := 83) (t := 94) rfl (by rw [hx_30]; decide) (by rw [hx_30]; rfl) rfl ?_
    refine go_iload_n rfl rfl ?_
    refine go_iconst (v := 4) rfl (by decide) ?_
    refine go_icmp_eq (t := 110) rfl rfl (fun hx_31 => ?_) (fun hx_31 => ?_)
    · rw [if_pos hx_31] at e
      refine go_iconst (v := 1) rfl (by decide) ?_
      refine go_goto (t := 115) rfl rfl ?_
      cases e
      exact go_ret rfl (ck_rvb rfl (Or.inr rfl))
    · rw [if_neg hx_31] at e
      refine go_iload_n rfl rfl ?_
      refine go_iconst (v := 5) rfl (by decide) ?_
      refine go_icmp_eq (t := 110) rfl rfl (fun hx_32 => ?_) (fun hx_32 => ?_)
      · rw [if_pos hx_32] at e
        refine go_iconst (v := 1) rfl (by decide) ?_
        refine go_goto (t := 115) rfl rfl ?_
        cases e
        exact go_ret rfl (ck_rvb rfl (Or.inr rfl))
      · rw [if_neg hx_32] at e
        refine go_iload_n rfl rfl ?_
        refine go_bipush (v := 6) rfl (by decide) ?_
        refine go_icmp_ne (t := 114) rfl rfl (fun hx_33 => ?_) (fun hx_33 => ?_)
        · rw [if_pos hx_33] at e
          refine go_iconst (v := 1) rfl (by decide) ?_
          refine go_goto (t := 115) rfl rfl ?_
          cases e
          exact go_ret rfl (ck_rvb rfl (Or.inr rfl))
        · rw [if_neg hx_33] at e
          refine go_iconst (v := 0) rfl (by decide) ?_
          cases e
          exact go_ret rfl (ck_rvb rfl (Or.inl rfl))
  rw [if_neg hx_30] at e
  by_cases hx_34 : r6 = 13
  · rw [if_pos hx_34] at e
    refine go_tswI (off := 105) (t := 116) rfl (by rw [hx_34]; decide) (by rw [hx_34]; rfl) rfl ?_
    refine go_iload_n rfl rfl ?_
    refine go_iconst (v := 4) rfl (by decide) ?_
    refine go_icmp_ne (t := 125) rfl rfl (fun hx_35 => ?_) (fun hx_35 => ?_)
    · rw [if_pos hx_35] at e
      refine go_iconst (v := 1) rfl (by decide) ?_
      refine go_goto (t := 126) rfl rfl ?_
      cases e
      exact go_ret rfl (ck_rvb rfl (Or.inr rfl))
    · rw [if_neg hx_35] at e
      refine go_iconst (v := 0) rfl (by decide) ?_
      cases e
      exact go_ret rfl (ck_rvb rfl (Or.inl rfl))
  rw [if_neg hx_34] at e
  by_cases hx_36 : r6 = 14
  · rw [if_pos hx_36] at e
    refine go_tswI (off := 116) (t := 127) rfl (by rw [hx_36]; decide) (by rw [hx_36]; rfl) rfl ?_
    refine go_iload_n rfl rfl ?_
    replace e := ck_bd_e e
    obtain ⟨r37, h38, e39, e⟩ := e
    refine go_callS (As := [.int r2]) (rest := []) rfl rfl rfl ⟨Nat.le_of_ble_eq_true rfl, Nat.le_of_ble_eq_true rfl, Nat.le_of_ble_eq_true rfl, Nat.le_of_ble_eq_true rfl⟩ (s_Ch_isSearch e39) ?_
    show Go k_Ch_standsRight 131 [some (.ref a0), some (.int v1), some (.int r2)] [.int r37] h38 _
    refine go_if_ne (t := 146) rfl rfl (fun hx_40 => ?_) (fun hx_40 => ?_)
    · rw [if_pos hx_40] at e
      refine go_aload_n rfl rfl ?_
      refine go_iload_n rfl rfl ?_
      refine go_iconst (v := 1) rfl (by decide) ?_
      refine go_isub rfl ?_
      replace e := ck_as_e e
      obtain ⟨hk_41, e⟩ := e
      replace e := ck_bd_e e
      obtain ⟨r42, h43, e44, e⟩ := e
      refine go_callV (As := [.int (v1 - 1)]) (b0 := a0) (rest := []) rfl rfl ⟨hk_41, by decide⟩ rfl ⟨Nat.le_of_ble_eq_true rfl, Nat.le_of_ble_eq_true rfl, Nat.le_of_ble_eq_true rfl, Nat.le_of_ble_eq_true rfl⟩ (s_Ch_opAt e44) ?_
      show Go k_Ch_standsRight 141 [some (.ref a0), some (.int v1), some (.int r2)] [.int r42] h43 _
      refine go_bipush (v := 14) rfl (by decide) ?_
      refine go_icmp_ne (t := 150) rfl rfl (fun hx_45 => ?_) (fun hx_45 => ?_)
      · rw [if_pos hx_45] at e
        refine go_iconst (v := 1) rfl (by decide) ?_
        refine go_goto (t := 151) rfl rfl ?_
        cases e
        exact go_ret rfl (ck_rvb rfl (Or.inr rfl))
      · rw [if_neg hx_45] at e
        refine go_iconst (v := 0) rfl (by decide) ?_
        cases e
        exact go_ret rfl (ck_rvb rfl (Or.inl rfl))
    · rw [if_neg hx_40] at e
      refine go_iconst (v := 1) rfl (by decide) ?_
      refine go_goto (t := 151) rfl rfl ?_
      cases e
      exact go_ret rfl (ck_rvb rfl (Or.inr rfl))
  rw [if_neg hx_36] at e
  by_cases hx_46 : r6 = 15
  · rw [if_pos hx_46] at e
    refine go_tswI (off := 116) (t := 127) rfl (by rw [hx_46]; decide) (by rw [hx_46]; rfl) rfl ?_
    refine go_iload_n rfl rfl ?_
    replace e := ck_bd_e e
    obtain ⟨r47, h48, e49, e⟩ := e
    refine go_callS (As := [.int r2]) (rest := []) rfl rfl rfl ⟨Nat.le_of_ble_eq_true rfl, Nat.le_of_ble_eq_true rfl, Nat.le_of_ble_eq_true rfl, Nat.le_of_ble_eq_true rfl⟩ (s_Ch_isSearch e49) ?_
    show Go k_Ch_standsRight 131 [some (.ref a0), some (.int v1), some (.int r2)] [.int r47] h48 _
    refine go_if_ne (t := 146) rfl rfl (fun hx_50 => ?_) (fun hx_50 => ?_)
    · rw [if_pos hx_50] at e
      refine go_aload_n rfl rfl ?_
      refine go_iload_n rfl rfl ?_
      refine go_iconst (v := 1) rfl (by decide) ?_
      refine go_isub rfl ?_
      replace e := ck_as_e e
      obtain ⟨hk_51, e⟩ := e
      replace e := ck_bd_e e
      obtain ⟨r52, h53, e54, e⟩ := e
      refine go_callV (As := [.int (v1 - 1)]) (b0 := a0) (rest := []) rfl rfl ⟨hk_51, by decide⟩ rfl ⟨Nat.le_of_ble_eq_true rfl, Nat.le_of_ble_eq_true rfl, Nat.le_of_ble_eq_true rfl, Nat.le_of_ble_eq_true rfl⟩ (s_Ch_opAt e54) ?_
      show Go k_Ch_standsRight 141 [some (.ref a0), some (.int v1), some (.int r2)] [.int r52] h53 _
      refine go_bipush (v := 14) rfl (by decide) ?_
      refine go_icmp_ne (t := 150) rfl rfl (fun hx_55 => ?_) (fun hx_55 => ?_)
      · rw [if_pos hx_55] at e
        refine go_iconst (v := 1) rfl (by decide) ?_
        refine go_goto (t := 151) rfl rfl ?_
        cases e
        exact go_ret rfl (ck_rvb rfl (Or.inr rfl))
      · rw [if_neg hx_55] at e
        refine go_iconst (v := 0) rfl (by decide) ?_
        cases e
        exact go_ret rfl (ck_rvb rfl (Or.inl rfl))
    · rw [if_neg hx_50] at e
      refine go_iconst (v := 1) rfl (by decide) ?_
      refine go_goto (t := 151) rfl rfl ?_
      cases e
      exact go_ret rfl (ck_rvb rfl (Or.inr rfl))
  rw [if_neg hx_46] at e
  have hz_ : (r6 : Int32).toInt < 7 ∨ 15 < (r6 : Int32).toInt := by
    have z0 := lv_neT hx_9 (k := 7) (a := 7) rfl
    have z1 := lv_neT hx_26 (k := 8) (a := 8) rfl
    have z2 := lv_neT hx_27 (k := 9) (a := 9) rfl
    have z3 := lv_neT hx_28 (k := 10) (a := 10) rfl
    have z4 := lv_neT hx_29 (k := 11) (a := 11) rfl
    have z5 := lv_neT hx_30 (k := 12) (a := 12) rfl
    have z6 := lv_neT hx_34 (k := 13) (a := 13) rfl
    have z7 := lv_neT hx_36 (k := 14) (a := 14) rfl
    have z8 := lv_neT hx_46 (k := 15) (a := 15) rfl
    omega
  refine go_tswO (m := k_Ch_standsRight) (pc := 11) (t := 152) (d := 141) (offs := #[49, 141, 141, 141, 141, 83, 105, 116, 116]) rfl hz_ rfl ?_
  refine go_iconst (v := 1) rfl (by decide) ?_
  cases e
  exact go_ret rfl (ck_rvb rfl (Or.inr rfl))
def f_Ch_isAllowed (F : Nat) (a0 : Nat) (v1 : Int32) (h : ck_H) : Option (Int32 × ck_H) :=
  ck_as (gk h a0 = 0) <|
  ck_some (gR h a0 1) fun b2 =>
  ck_as ((16 ≤ gk h b2 ∧ gk h b2 ≤ 20) ∧ ¬ v1 < 0 ∧ (v1 : Int32).toNatClampNeg < gz h b2) <|
  ck_opt (gR h b2 (v1 : Int32).toNatClampNeg) (
    none
  ) fun b6 =>
  ck_as (gk h b6 = 1) <|
  if (gI h b6 0) < (1 : Int32) then
    some (0, h)
  else
    if (16 : Int32) < (gI h b6 0) then
      some (0, h)
    else
      ck_bd (f_Ch_usesMemory F (gI h b6 0) h) fun r10 h11 =>
      if r10 = (0 : Int32) then
        ck_bd (f_Ch_hasItsLength F b6 h11) fun r14 h15 =>
        if r14 = (0 : Int32) then
          some (0, h15)
        else
          ck_as (gk h15 a0 = 0) <|
          ck_bd (f_Ch_standsRight F a0 v1 h15) fun r19 h20 =>
          if r19 = (0 : Int32) then
            some (0, h20)
          else
            some (1, h20)
      else
        ck_bd (f_Ch_isInMemory F b6 h11) fun r23 h24 =>
        if r23 = (0 : Int32) then
          some (0, h24)
        else
          ck_bd (f_Ch_hasItsLength F b6 h24) fun r27 h28 =>
          if r27 = (0 : Int32) then
            some (0, h28)
          else
            ck_as (gk h28 a0 = 0) <|
            ck_bd (f_Ch_standsRight F a0 v1 h28) fun r32 h33 =>
            if r32 = (0 : Int32) then
              some (0, h33)
            else
              some (1, h33)
set_option maxRecDepth 100000 in
set_option maxHeartbeats 4000000 in
theorem s_Ch_isAllowed {F : Nat} {a0 : Nat} {v1 : Int32} {h h' : ck_H} {r : Int32} (e : f_Ch_isAllowed F a0 v1 h = some (r, h')) : Go k_Ch_isAllowed 0 (ck_in [.ref a0, .int v1] 3) [] h (some (.int r), h') := by
  unfold f_Ch_isAllowed at e
  show Go k_Ch_isAllowed 0 [some (.ref a0), some (.int v1), none] [] h _
  refine go_aload_n rfl rfl ?_
  replace e := ck_as_e e
  obtain ⟨hk_1, e⟩ := e
  replace e := ck_some_e e
  obtain ⟨b2, hq_3, e⟩ := e
  refine go_get (v := .ref b2) rfl rfl hk_1 (by decide) (by show va_rf (gR h a0 1) = _; rw [hq_3]; rfl) ?_
  refine go_iload_n rfl rfl ?_
  replace e := ck_as_e e
  obtain ⟨hc_4, e⟩ := e
  replace e := ck_opt_e e
  rcases e with ⟨hq_5, e⟩ | ⟨b6, hq_5, e⟩
  · refine go_aald (v := .null) rfl hc_4 (by rw [hq_5]; rfl) ?_
    refine go_astore_nN rfl rfl ?_
    show Go k_Ch_isAllowed 7 [some (.ref a0), some (.int v1), some .null] [] h _
    refine go_aload_nN rfl rfl ?_
    cases e
  refine go_aald (v := .ref b6) rfl hc_4 (by rw [hq_5]; rfl) ?_
  refine go_astore_n rfl rfl ?_
  show Go k_Ch_isAllowed 7 [some (.ref a0), some (.int v1), some (.ref b6)] [] h _
  refine go_aload_n rfl rfl ?_
  replace e := ck_as_e e
  obtain ⟨hk_7, e⟩ := e
  refine go_get (v := .int (gI h b6 0)) rfl rfl hk_7 (by decide) rfl ?_
  refine go_iconst (v := 1) rfl (by decide) ?_
  refine go_icmp_lt (t := 24) rfl rfl (fun hx_8 => ?_) (fun hx_8 => ?_)
  · rw [if_pos hx_8] at e
    refine go_iconst (v := 0) rfl (by decide) ?_
    cases e
    exact go_ret rfl (ck_rvb rfl (Or.inl rfl))
  · rw [if_neg hx_8] at e
    refine go_aload_n rfl rfl ?_
    refine go_get (v := .int (gI h b6 0)) rfl rfl hk_7 (by decide) rfl ?_
    refine go_bipush (v := 16) rfl (by decide) ?_
    refine go_icmp_le (t := 26) rfl rfl (fun hx_9 => ?_) (fun hx_9 => ?_)
    · rw [if_pos hx_9] at e
      refine go_iconst (v := 0) rfl (by decide) ?_
      cases e
      exact go_ret rfl (ck_rvb rfl (Or.inl rfl))
    · rw [if_neg hx_9] at e
      refine go_aload_n rfl rfl ?_
      refine go_get (v := .int (gI h b6 0)) rfl rfl hk_7 (by decide) rfl ?_
      replace e := ck_bd_e e
      obtain ⟨r10, h11, e12, e⟩ := e
      refine go_callS (As := [.int (gI h b6 0)]) (rest := []) rfl rfl rfl ⟨Nat.le_of_ble_eq_true rfl, Nat.le_of_ble_eq_true rfl, Nat.le_of_ble_eq_true rfl, Nat.le_of_ble_eq_true rfl⟩ (s_Ch_usesMemory e12) ?_
      show Go k_Ch_isAllowed 33 [some (.ref a0), some (.int v1), some (.ref b6)] [.int r10] h11 _
      refine go_if_eq (t := 43) rfl rfl (fun hx_13 => ?_) (fun hx_13 => ?_)
      · rw [if_pos hx_13] at e
        refine go_aload_n rfl rfl ?_
        replace e := ck_bd_e e
        obtain ⟨r14, h15, e16, e⟩ := e
        refine go_callS (As := [.ref b6]) (rest := []) rfl rfl rfl ⟨Nat.le_of_ble_eq_true rfl, Nat.le_of_ble_eq_true rfl, Nat.le_of_ble_eq_true rfl, Nat.le_of_ble_eq_true rfl⟩ (s_Ch_hasItsLength e16) ?_
        show Go k_Ch_isAllowed 47 [some (.ref a0), some (.int v1), some (.ref b6)] [.int r14] h15 _
        refine go_if_eq (t := 62) rfl rfl (fun hx_17 => ?_) (fun hx_17 => ?_)
        · rw [if_pos hx_17] at e
          refine go_iconst (v := 0) rfl (by decide) ?_
          cases e
          exact go_ret rfl (ck_rvb rfl (Or.inl rfl))
        · rw [if_neg hx_17] at e
          refine go_aload_n rfl rfl ?_
          refine go_iload_n rfl rfl ?_
          replace e := ck_as_e e
          obtain ⟨hk_18, e⟩ := e
          replace e := ck_bd_e e
          obtain ⟨r19, h20, e21, e⟩ := e
          refine go_callV (As := [.int v1]) (b0 := a0) (rest := []) rfl rfl ⟨hk_18, by decide⟩ rfl ⟨Nat.le_of_ble_eq_true rfl, Nat.le_of_ble_eq_true rfl, Nat.le_of_ble_eq_true rfl, Nat.le_of_ble_eq_true rfl⟩ (s_Ch_standsRight e21) ?_
          show Go k_Ch_isAllowed 55 [some (.ref a0), some (.int v1), some (.ref b6)] [.int r19] h20 _
          refine go_if_eq (t := 62) rfl rfl (fun hx_22 => ?_) (fun hx_22 => ?_)
          · rw [if_pos hx_22] at e
            refine go_iconst (v := 0) rfl (by decide) ?_
            cases e
            exact go_ret rfl (ck_rvb rfl (Or.inl rfl))
          · rw [if_neg hx_22] at e
            refine go_iconst (v := 1) rfl (by decide) ?_
            refine go_goto (t := 63) rfl rfl ?_
            cases e
            exact go_ret rfl (ck_rvb rfl (Or.inr rfl))
      · rw [if_neg hx_13] at e
        refine go_aload_n rfl rfl ?_
        replace e := ck_bd_e e
        obtain ⟨r23, h24, e25, e⟩ := e
        refine go_callS (As := [.ref b6]) (rest := []) rfl rfl rfl ⟨Nat.le_of_ble_eq_true rfl, Nat.le_of_ble_eq_true rfl, Nat.le_of_ble_eq_true rfl, Nat.le_of_ble_eq_true rfl⟩ (s_Ch_isInMemory e25) ?_
        show Go k_Ch_isAllowed 40 [some (.ref a0), some (.int v1), some (.ref b6)] [.int r23] h24 _
        refine go_if_eq (t := 62) rfl rfl (fun hx_26 => ?_) (fun hx_26 => ?_)
        · rw [if_pos hx_26] at e
          refine go_iconst (v := 0) rfl (by decide) ?_
          cases e
          exact go_ret rfl (ck_rvb rfl (Or.inl rfl))
        · rw [if_neg hx_26] at e
          refine go_aload_n rfl rfl ?_
          replace e := ck_bd_e e
          obtain ⟨r27, h28, e29, e⟩ := e
          refine go_callS (As := [.ref b6]) (rest := []) rfl rfl rfl ⟨Nat.le_of_ble_eq_true rfl, Nat.le_of_ble_eq_true rfl, Nat.le_of_ble_eq_true rfl, Nat.le_of_ble_eq_true rfl⟩ (s_Ch_hasItsLength e29) ?_
          show Go k_Ch_isAllowed 47 [some (.ref a0), some (.int v1), some (.ref b6)] [.int r27] h28 _
          refine go_if_eq (t := 62) rfl rfl (fun hx_30 => ?_) (fun hx_30 => ?_)
          · rw [if_pos hx_30] at e
            refine go_iconst (v := 0) rfl (by decide) ?_
            cases e
            exact go_ret rfl (ck_rvb rfl (Or.inl rfl))
          · rw [if_neg hx_30] at e
            refine go_aload_n rfl rfl ?_
            refine go_iload_n rfl rfl ?_
            replace e := ck_as_e e
            obtain ⟨hk_31, e⟩ := e
            replace e := ck_bd_e e
            obtain ⟨r32, h33, e34, e⟩ := e
            refine go_callV (As := [.int v1]) (b0 := a0) (rest := []) rfl rfl ⟨hk_31, by decide⟩ rfl ⟨Nat.le_of_ble_eq_true rfl, Nat.le_of_ble_eq_true rfl, Nat.le_of_ble_eq_true rfl, Nat.le_of_ble_eq_true rfl⟩ (s_Ch_standsRight e34) ?_
            show Go k_Ch_isAllowed 55 [some (.ref a0), some (.int v1), some (.ref b6)] [.int r32] h33 _
            refine go_if_eq (t := 62) rfl rfl (fun hx_35 => ?_) (fun hx_35 => ?_)
            · rw [if_pos hx_35] at e
              refine go_iconst (v := 0) rfl (by decide) ?_
              cases e
              exact go_ret rfl (ck_rvb rfl (Or.inl rfl))
            · rw [if_neg hx_35] at e
              refine go_iconst (v := 1) rfl (by decide) ?_
              refine go_goto (t := 63) rfl rfl ?_
              cases e
              exact go_ret rfl (ck_rvb rfl (Or.inr rfl))
def f_Ch_passesCheck_L10 (F : Nat)  : Nat → Nat → Int32 → Int32 → ck_H → Option (Int32 × ck_H)
  | 0, _, _, _, _ => none
  | n + 1, a0, v1, v2, h =>
    if v2 < v1 then
      ck_as (gk h a0 = 0) <|
      ck_bd (f_Ch_isAllowed F a0 v2 h) fun r3 h4 =>
      if r3 = (0 : Int32) then
        some (0, h4)
      else
        f_Ch_passesCheck_L10 F n a0 v1 (v2 + 1) h4
    else
      some (1, h)
set_option maxRecDepth 100000 in
set_option maxHeartbeats 4000000 in
theorem f_Ch_passesCheck_L10_s (F : Nat)   : ∀ (n : Nat) (a0 : Nat) (v1 : Int32) (v2 : Int32) (h : ck_H) (r : Int32) (h' : ck_H), f_Ch_passesCheck_L10 F n a0 v1 v2 h = some (r, h') → Go k_Ch_passesCheck 10 [some (.ref a0), some (.int v1), some (.int v2)] [] h (some (.int r), h') := by
  intro n
  induction n with
  | zero => intro a0 v1 v2 h r h' e; simp only [f_Ch_passesCheck_L10] at e; cases e
  | succ n ih =>
    intro a0 v1 v2 h r h' e
    rw [f_Ch_passesCheck_L10] at e
    refine go_iload_n rfl rfl ?_
    refine go_iload_n rfl rfl ?_
    refine go_icmp_ge (t := 31) rfl rfl (fun hx_1 => ?_) (fun hx_1 => ?_)
    · rw [if_pos hx_1] at e
      refine go_aload_n rfl rfl ?_
      refine go_iload_n rfl rfl ?_
      replace e := ck_as_e e
      obtain ⟨hk_2, e⟩ := e
      replace e := ck_bd_e e
      obtain ⟨r3, h4, e5, e⟩ := e
      refine go_callV (As := [.int v2]) (b0 := a0) (rest := []) rfl rfl ⟨hk_2, by decide⟩ rfl ⟨Nat.le_of_ble_eq_true rfl, Nat.le_of_ble_eq_true rfl, Nat.le_of_ble_eq_true rfl, Nat.le_of_ble_eq_true rfl⟩ (s_Ch_isAllowed e5) ?_
      show Go k_Ch_passesCheck 20 [some (.ref a0), some (.int v1), some (.int v2)] [.int r3] h4 _
      refine go_if_ne (t := 25) rfl rfl (fun hx_6 => ?_) (fun hx_6 => ?_)
      · rw [if_pos hx_6] at e
        refine go_iconst (v := 0) rfl (by decide) ?_
        cases e
        exact go_ret rfl (ck_rvb rfl (Or.inl rfl))
      · rw [if_neg hx_6] at e
        refine go_iinc (v := 1) rfl rfl (by decide) rfl ?_
        show Go k_Ch_passesCheck 28 [some (.ref a0), some (.int v1), some (.int (v2 + 1))] [] h4 _
        refine go_goto (t := 10) rfl rfl ?_
        refine go_forget (l := [some (.ref a0), some (.int v1), some (.int (v2 + 1))]) ⟨Or.inl rfl, Or.inl rfl, Or.inl rfl, trivial⟩ ?_
        exact ih _ _ _ _ _ _ e
    · rw [if_neg hx_1] at e
      refine go_iconst (v := 1) rfl (by decide) ?_
      cases e
      exact go_ret rfl (ck_rvb rfl (Or.inr rfl))
def f_Ch_passesCheck (F : Nat) (a0 : Nat) (v1 : Int32) (h : ck_H) : Option (Int32 × ck_H) :=
  if (32 : Int32) < v1 then
    some (0, h)
  else
    f_Ch_passesCheck_L10 F F a0 v1 0 h
set_option maxRecDepth 100000 in
set_option maxHeartbeats 4000000 in
theorem s_Ch_passesCheck {F : Nat} {a0 : Nat} {v1 : Int32} {h h' : ck_H} {r : Int32} (e : f_Ch_passesCheck F a0 v1 h = some (r, h')) : Go k_Ch_passesCheck 0 (ck_in [.ref a0, .int v1] 3) [] h (some (.int r), h') := by
  unfold f_Ch_passesCheck at e
  show Go k_Ch_passesCheck 0 [some (.ref a0), some (.int v1), none] [] h _
  refine go_iload_n rfl rfl ?_
  refine go_bipush (v := 32) rfl (by decide) ?_
  refine go_icmp_le (t := 8) rfl rfl (fun hx_1 => ?_) (fun hx_1 => ?_)
  · rw [if_pos hx_1] at e
    refine go_iconst (v := 0) rfl (by decide) ?_
    cases e
    exact go_ret rfl (ck_rvb rfl (Or.inl rfl))
  · rw [if_neg hx_1] at e
    refine go_iconst (v := 0) rfl (by decide) ?_
    refine go_istore_n rfl rfl ?_
    show Go k_Ch_passesCheck 10 [some (.ref a0), some (.int v1), some (.int 0)] [] h _
    refine go_forget (l := [some (.ref a0), some (.int v1), some (.int 0)]) ⟨Or.inl rfl, Or.inl rfl, Or.inl rfl, trivial⟩ ?_
    exact f_Ch_passesCheck_L10_s F F _ _ _ _ _ _ e
def f_Ch_writes_L2 (F : Nat)  : Nat → Nat → Int32 → Int32 → ck_H → Option (Int32 × ck_H)
  | 0, _, _, _, _ => none
  | n + 1, a0, v1, v2, h =>
    if v2 < v1 then
      if v2 < (32 : Int32) then
        ck_as (gk h a0 = 0) <|
        ck_some (gR h a0 1) fun b4 =>
        ck_as ((16 ≤ gk h b4 ∧ gk h b4 ≤ 20) ∧ ¬ v2 < 0 ∧ (v2 : Int32).toNatClampNeg < gz h b4) <|
        ck_some (gR h b4 (v2 : Int32).toNatClampNeg) fun b7 =>
        ck_as (gk h b7 = 1) <|
        if (gI h b7 0) < (12 : Int32) then
          f_Ch_writes_L2 F n a0 v1 (v2 + 1) h
        else
          ck_some (gR h a0 1) fun b11 =>
          ck_as ((16 ≤ gk h b11 ∧ gk h b11 ≤ 20) ∧ ¬ v2 < 0 ∧ (v2 : Int32).toNatClampNeg < gz h b11) <|
          ck_some (gR h b11 (v2 : Int32).toNatClampNeg) fun b14 =>
          ck_as (gk h b14 = 1) <|
          if (15 : Int32) < (gI h b14 0) then
            f_Ch_writes_L2 F n a0 v1 (v2 + 1) h
          else
            some (1, h)
      else
        some (0, h)
    else
      some (0, h)
set_option maxRecDepth 100000 in
set_option maxHeartbeats 4000000 in
theorem f_Ch_writes_L2_s (F : Nat)   : ∀ (n : Nat) (a0 : Nat) (v1 : Int32) (v2 : Int32) (h : ck_H) (r : Int32) (h' : ck_H), f_Ch_writes_L2 F n a0 v1 v2 h = some (r, h') → Go k_Ch_writes 2 [some (.ref a0), some (.int v1), some (.int v2)] [] h (some (.int r), h') := by
  intro n
  induction n with
  | zero => intro a0 v1 v2 h r h' e; simp only [f_Ch_writes_L2] at e; cases e
  | succ n ih =>
    intro a0 v1 v2 h r h' e
    rw [f_Ch_writes_L2] at e
    refine go_iload_n rfl rfl ?_
    refine go_iload_n rfl rfl ?_
    refine go_icmp_ge (t := 49) rfl rfl (fun hx_1 => ?_) (fun hx_1 => ?_)
    · rw [if_pos hx_1] at e
      refine go_iload_n rfl rfl ?_
      refine go_bipush (v := 32) rfl (by decide) ?_
      refine go_icmp_ge (t := 49) rfl rfl (fun hx_2 => ?_) (fun hx_2 => ?_)
      · rw [if_pos hx_2] at e
        refine go_aload_n rfl rfl ?_
        replace e := ck_as_e e
        obtain ⟨hk_3, e⟩ := e
        replace e := ck_some_e e
        obtain ⟨b4, hq_5, e⟩ := e
        refine go_get (v := .ref b4) rfl rfl hk_3 (by decide) (by show va_rf (gR h a0 1) = _; rw [hq_5]; rfl) ?_
        refine go_iload_n rfl rfl ?_
        replace e := ck_as_e e
        obtain ⟨hc_6, e⟩ := e
        replace e := ck_some_e e
        obtain ⟨b7, hq_8, e⟩ := e
        refine go_aald (v := .ref b7) rfl hc_6 (by rw [hq_8]; rfl) ?_
        replace e := ck_as_e e
        obtain ⟨hk_9, e⟩ := e
        refine go_get (v := .int (gI h b7 0)) rfl rfl hk_9 (by decide) rfl ?_
        refine go_bipush (v := 12) rfl (by decide) ?_
        refine go_icmp_lt (t := 43) rfl rfl (fun hx_10 => ?_) (fun hx_10 => ?_)
        · rw [if_pos hx_10] at e
          refine go_iinc (v := 1) rfl rfl (by decide) rfl ?_
          show Go k_Ch_writes 46 [some (.ref a0), some (.int v1), some (.int (v2 + 1))] [] h _
          refine go_goto (t := 2) rfl rfl ?_
          refine go_forget (l := [some (.ref a0), some (.int v1), some (.int (v2 + 1))]) ⟨Or.inl rfl, Or.inl rfl, Or.inl rfl, trivial⟩ ?_
          exact ih _ _ _ _ _ _ e
        · rw [if_neg hx_10] at e
          refine go_aload_n rfl rfl ?_
          replace e := ck_some_e e
          obtain ⟨b11, hq_12, e⟩ := e
          refine go_get (v := .ref b11) rfl rfl hk_3 (by decide) (by show va_rf (gR h a0 1) = _; rw [hq_12]; rfl) ?_
          refine go_iload_n rfl rfl ?_
          replace e := ck_as_e e
          obtain ⟨hc_13, e⟩ := e
          replace e := ck_some_e e
          obtain ⟨b14, hq_15, e⟩ := e
          refine go_aald (v := .ref b14) rfl hc_13 (by rw [hq_15]; rfl) ?_
          replace e := ck_as_e e
          obtain ⟨hk_16, e⟩ := e
          refine go_get (v := .int (gI h b14 0)) rfl rfl hk_16 (by decide) rfl ?_
          refine go_bipush (v := 15) rfl (by decide) ?_
          refine go_icmp_gt (t := 43) rfl rfl (fun hx_17 => ?_) (fun hx_17 => ?_)
          · rw [if_pos hx_17] at e
            refine go_iinc (v := 1) rfl rfl (by decide) rfl ?_
            show Go k_Ch_writes 46 [some (.ref a0), some (.int v1), some (.int (v2 + 1))] [] h _
            refine go_goto (t := 2) rfl rfl ?_
            refine go_forget (l := [some (.ref a0), some (.int v1), some (.int (v2 + 1))]) ⟨Or.inl rfl, Or.inl rfl, Or.inl rfl, trivial⟩ ?_
            exact ih _ _ _ _ _ _ e
          · rw [if_neg hx_17] at e
            refine go_iconst (v := 1) rfl (by decide) ?_
            cases e
            exact go_ret rfl (ck_rvb rfl (Or.inr rfl))
      · rw [if_neg hx_2] at e
        refine go_iconst (v := 0) rfl (by decide) ?_
        cases e
        exact go_ret rfl (ck_rvb rfl (Or.inl rfl))
    · rw [if_neg hx_1] at e
      refine go_iconst (v := 0) rfl (by decide) ?_
      cases e
      exact go_ret rfl (ck_rvb rfl (Or.inl rfl))
def f_Ch_writes (F : Nat) (a0 : Nat) (v1 : Int32) (h : ck_H) : Option (Int32 × ck_H) :=
  f_Ch_writes_L2 F F a0 v1 0 h
set_option maxRecDepth 100000 in
set_option maxHeartbeats 4000000 in
theorem s_Ch_writes {F : Nat} {a0 : Nat} {v1 : Int32} {h h' : ck_H} {r : Int32} (e : f_Ch_writes F a0 v1 h = some (r, h')) : Go k_Ch_writes 0 (ck_in [.ref a0, .int v1] 3) [] h (some (.int r), h') := by
  unfold f_Ch_writes at e
  show Go k_Ch_writes 0 [some (.ref a0), some (.int v1), none] [] h _
  refine go_iconst (v := 0) rfl (by decide) ?_
  refine go_istore_n rfl rfl ?_
  show Go k_Ch_writes 2 [some (.ref a0), some (.int v1), some (.int 0)] [] h _
  refine go_forget (l := [some (.ref a0), some (.int v1), some (.int 0)]) ⟨Or.inl rfl, Or.inl rfl, Or.inl rfl, trivial⟩ ?_
  exact f_Ch_writes_L2_s F F _ _ _ _ _ _ e
def f_Ch_stop (F : Nat) (a0 : Nat) (v1 : Int32) (h : ck_H) : Option (Unit × ck_H) :=
  ck_as (gk h a0 = 0) <|
  ck_then (wI h a0 8 v1) fun h2 =>
  ck_then (wI h2 a0 3 32) fun h4 =>
  some ((), h4)
set_option maxRecDepth 100000 in
set_option maxHeartbeats 4000000 in
theorem s_Ch_stop {F : Nat} {a0 : Nat} {v1 : Int32} {h h' : ck_H} {r : Unit} (e : f_Ch_stop F a0 v1 h = some (r, h')) : Go k_Ch_stop 0 (ck_in [.ref a0, .int v1] 2) [] h (none, h') := by
  unfold f_Ch_stop at e
  show Go k_Ch_stop 0 [some (.ref a0), some (.int v1)] [] h _
  refine go_aload_n rfl rfl ?_
  refine go_iload_n rfl rfl ?_
  replace e := ck_as_e e
  obtain ⟨hk_1, e⟩ := e
  refine go_put (h1 := wI h a0 8 v1) rfl rfl hk_1 ⟨by decide, by decide, Or.inl rfl⟩ rfl ?_
  have hk_3 : gk (wI h a0 8 v1) a0 = 0 := ck_kI.trans hk_1
  generalize wI h a0 8 v1 = h2 at e hk_3 ⊢
  replace e := ck_then_e e
  refine go_aload_n rfl rfl ?_
  refine go_bipush (v := 32) rfl (by decide) ?_
  refine go_put (h1 := wI h2 a0 3 32) rfl rfl hk_3 ⟨by decide, by decide, Or.inl rfl⟩ rfl ?_
  have hk_5 : gk (wI h2 a0 3 32) a0 = 0 := ck_kI.trans hk_3
  generalize wI h2 a0 3 32 = h4 at e hk_5 ⊢
  replace e := ck_then_e e
  cases e
  exact go_ret rfl rfl
def f_Ma_abs (F : Nat) (v0 : Int32) (h : ck_H) : Option (Int32 × ck_H) :=
  if v0 < (0 : Int32) then
    some (-v0, h)
  else
    some (v0, h)
set_option maxRecDepth 100000 in
set_option maxHeartbeats 4000000 in
theorem s_Ma_abs {F : Nat} {v0 : Int32} {h h' : ck_H} {r : Int32} (e : f_Ma_abs F v0 h = some (r, h')) : Go k_Ma_abs 0 (ck_in [.int v0] 1) [] h (some (.int r), h') := by
  unfold f_Ma_abs at e
  show Go k_Ma_abs 0 [some (.int v0)] [] h _
  refine go_iload_n rfl rfl ?_
  refine go_if_ge (t := 9) rfl rfl (fun hx_1 => ?_) (fun hx_1 => ?_)
  · rw [if_pos hx_1] at e
    refine go_iload_n rfl rfl ?_
    refine go_ineg rfl ?_
    refine go_goto (t := 10) rfl rfl ?_
    cases e
    exact go_ret rfl rfl
  · rw [if_neg hx_1] at e
    refine go_iload_n rfl rfl ?_
    cases e
    exact go_ret rfl rfl
def f_Ch_seek (F : Nat) (a0 : Nat) (a1 : Nat) (h : ck_H) : Option (Unit × ck_H) :=
  ck_as (gk h a1 = 1) <|
  ck_as (gk h a0 = 0) <|
  ck_bd (f_Ch_byteAt F a0 (gI h a1 1) h) fun r3 h4 =>
  ck_as (gk h4 a1 = 1) <|
  ck_as (gk h4 a0 = 0) <|
  ck_bd (f_Ch_byteAt F a0 ((gI h4 a1 1) + 1) h4) fun r8 h9 =>
  if r3 < (20 : Int32) then
    if r8 < (4 : Int32) then
      ck_as (gk h9 a0 = 0) <|
      ck_some (gR h9 a0 2) fun b14 =>
      ck_as (gk h9 b14 = 9) <|
      if r3 = (gI h9 b14 1) then
        ck_some (gR h9 a0 2) fun b18 =>
        ck_as (gk h9 b18 = 9) <|
        ck_then (wI h9 b18 1 r3) fun h21 =>
        ck_some (gR h21 a0 2) fun b25 =>
        ck_as (gk h21 b25 = 9) <|
        ck_then (wI h21 b25 2 r8) fun h28 =>
        ck_bd (f_Ch_setPoint F a0 0 (-1) h28) fun _ h34 =>
        some ((), h34)
      else
        ck_some (gR h9 a0 2) fun b36 =>
        ck_as (gk h9 b36 = 9) <|
        ck_bd (f_Ma_abs F (r3 - (gI h9 b36 1)) h9) fun r39 h40 =>
        ck_as (gk h40 a0 = 0) <|
        ck_then (wJ h40 a0 7 ((gJ h9 a0 7) + ((50 + (20 * r39) : Int32).toInt64))) fun h43 =>
        ck_some (gR h43 a0 2) fun b45 =>
        ck_as (gk h43 b45 = 9) <|
        ck_then (wI h43 b45 1 r3) fun h48 =>
        ck_some (gR h48 a0 2) fun b51 =>
        ck_as (gk h48 b51 = 9) <|
        ck_then (wI h48 b51 2 r8) fun h54 =>
        ck_bd (f_Ch_setPoint F a0 0 (-1) h54) fun _ h59 =>
        some ((), h59)
    else
      ck_as (gk h9 a0 = 0) <|
      ck_bd (f_Ch_stop F a0 6 h9) fun _ h63 =>
      some ((), h63)
  else
    ck_as (gk h9 a0 = 0) <|
    ck_bd (f_Ch_stop F a0 6 h9) fun _ h67 =>
    some ((), h67)
set_option maxRecDepth 100000 in
set_option maxHeartbeats 4000000 in
theorem s_Ch_seek {F : Nat} {a0 : Nat} {a1 : Nat} {h h' : ck_H} {r : Unit} (e : f_Ch_seek F a0 a1 h = some (r, h')) : Go k_Ch_seek 0 (ck_in [.ref a0, .ref a1] 4) [] h (none, h') := by
  unfold f_Ch_seek at e
  show Go k_Ch_seek 0 [some (.ref a0), some (.ref a1), none, none] [] h _
  refine go_aload_n rfl rfl ?_
  refine go_aload_n rfl rfl ?_
  replace e := ck_as_e e
  obtain ⟨hk_1, e⟩ := e
  refine go_get (v := .int (gI h a1 1)) rfl rfl hk_1 (by decide) rfl ?_
  replace e := ck_as_e e
  obtain ⟨hk_2, e⟩ := e
  replace e := ck_bd_e e
  obtain ⟨r3, h4, e5, e⟩ := e
  refine go_callV (As := [.int (gI h a1 1)]) (b0 := a0) (rest := []) rfl rfl ⟨hk_2, by decide⟩ rfl ⟨Nat.le_of_ble_eq_true rfl, Nat.le_of_ble_eq_true rfl, Nat.le_of_ble_eq_true rfl, Nat.le_of_ble_eq_true rfl⟩ (s_Ch_byteAt e5) ?_
  show Go k_Ch_seek 8 [some (.ref a0), some (.ref a1), none, none] [.int r3] h4 _
  refine go_istore_n rfl rfl ?_
  show Go k_Ch_seek 9 [some (.ref a0), some (.ref a1), some (.int r3), none] [] h4 _
  refine go_aload_n rfl rfl ?_
  refine go_aload_n rfl rfl ?_
  replace e := ck_as_e e
  obtain ⟨hk_6, e⟩ := e
  refine go_get (v := .int (gI h4 a1 1)) rfl rfl hk_6 (by decide) rfl ?_
  refine go_iconst (v := 1) rfl (by decide) ?_
  refine go_iadd rfl ?_
  replace e := ck_as_e e
  obtain ⟨hk_7, e⟩ := e
  replace e := ck_bd_e e
  obtain ⟨r8, h9, e10, e⟩ := e
  refine go_callV (As := [.int ((gI h4 a1 1) + 1)]) (b0 := a0) (rest := []) rfl rfl ⟨hk_7, by decide⟩ rfl ⟨Nat.le_of_ble_eq_true rfl, Nat.le_of_ble_eq_true rfl, Nat.le_of_ble_eq_true rfl, Nat.le_of_ble_eq_true rfl⟩ (s_Ch_byteAt e10) ?_
  show Go k_Ch_seek 19 [some (.ref a0), some (.ref a1), some (.int r3), none] [.int r8] h9 _
  refine go_istore_n rfl rfl ?_
  show Go k_Ch_seek 20 [some (.ref a0), some (.ref a1), some (.int r3), some (.int r8)] [] h9 _
  refine go_iload_n rfl rfl ?_
  refine go_bipush (v := 20) rfl (by decide) ?_
  refine go_icmp_ge (t := 31) rfl rfl (fun hx_11 => ?_) (fun hx_11 => ?_)
  · rw [if_pos hx_11] at e
    refine go_iload_n rfl rfl ?_
    refine go_iconst (v := 4) rfl (by decide) ?_
    refine go_icmp_lt (t := 38) rfl rfl (fun hx_12 => ?_) (fun hx_12 => ?_)
    · rw [if_pos hx_12] at e
      refine go_iload_n rfl rfl ?_
      refine go_aload_n rfl rfl ?_
      replace e := ck_as_e e
      obtain ⟨hk_13, e⟩ := e
      replace e := ck_some_e e
      obtain ⟨b14, hq_15, e⟩ := e
      refine go_get (v := .ref b14) rfl rfl hk_13 (by decide) (by show va_rf (gR h9 a0 2) = _; rw [hq_15]; rfl) ?_
      replace e := ck_as_e e
      obtain ⟨hk_16, e⟩ := e
      refine go_get (v := .int (gI h9 b14 1)) rfl rfl hk_16 (by decide) rfl ?_
      refine go_icmp_eq (t := 77) rfl rfl (fun hx_17 => ?_) (fun hx_17 => ?_)
      · rw [if_pos hx_17] at e
        refine go_aload_n rfl rfl ?_
        replace e := ck_some_e e
        obtain ⟨b18, hq_19, e⟩ := e
        refine go_get (v := .ref b18) rfl rfl hk_13 (by decide) (by show va_rf (gR h9 a0 2) = _; rw [hq_19]; rfl) ?_
        refine go_iload_n rfl rfl ?_
        replace e := ck_as_e e
        obtain ⟨hk_20, e⟩ := e
        refine go_put (h1 := wI h9 b18 1 r3) rfl rfl hk_20 ⟨by decide, by decide, Or.inl rfl⟩ rfl ?_
        have hk_22 : gk (wI h9 b18 1 r3) a0 = 0 := ck_kI.trans hk_13
        have hk_23 : gk (wI h9 b18 1 r3) b14 = 9 := ck_kI.trans hk_16
        have hk_24 : gk (wI h9 b18 1 r3) b18 = 9 := ck_kI.trans hk_20
        generalize wI h9 b18 1 r3 = h21 at e hk_22 hk_23 hk_24 ⊢
        replace e := ck_then_e e
        refine go_aload_n rfl rfl ?_
        replace e := ck_some_e e
        obtain ⟨b25, hq_26, e⟩ := e
        refine go_get (v := .ref b25) rfl rfl hk_22 (by decide) (by show va_rf (gR h21 a0 2) = _; rw [hq_26]; rfl) ?_
        refine go_iload_n rfl rfl ?_
        replace e := ck_as_e e
        obtain ⟨hk_27, e⟩ := e
        refine go_put (h1 := wI h21 b25 2 r8) rfl rfl hk_27 ⟨by decide, by decide, Or.inl rfl⟩ rfl ?_
        have hk_29 : gk (wI h21 b25 2 r8) a0 = 0 := ck_kI.trans hk_22
        have hk_30 : gk (wI h21 b25 2 r8) b14 = 9 := ck_kI.trans hk_23
        have hk_31 : gk (wI h21 b25 2 r8) b18 = 9 := ck_kI.trans hk_24
        have hk_32 : gk (wI h21 b25 2 r8) b25 = 9 := ck_kI.trans hk_27
        generalize wI h21 b25 2 r8 = h28 at e hk_29 hk_30 hk_31 hk_32 ⊢
        replace e := ck_then_e e
        refine go_aload_n rfl rfl ?_
        refine go_iconst (v := 0) rfl (by decide) ?_
        refine go_iconst (v := (-1)) rfl (by decide) ?_
        replace e := ck_bd_e e
        obtain ⟨r33, h34, e35, e⟩ := e
        refine go_callV (As := [.int 0, .int (-1)]) (b0 := a0) (rest := []) rfl rfl ⟨hk_29, by decide⟩ rfl ⟨Nat.le_of_ble_eq_true rfl, Nat.le_of_ble_eq_true rfl, Nat.le_of_ble_eq_true rfl, Nat.le_of_ble_eq_true rfl⟩ (s_Ch_setPoint e35) ?_
        show Go k_Ch_seek 99 [some (.ref a0), some (.ref a1), some (.int r3), some (.int r8)] [] h34 _
        cases e
        exact go_ret rfl rfl
      · rw [if_neg hx_17] at e
        refine go_aload_n rfl rfl ?_
        refine go_dup rfl rfl ?_
        refine go_get (v := .long (gJ h9 a0 7)) rfl rfl hk_13 (by decide) rfl ?_
        refine go_bipush (v := 50) rfl (by decide) ?_
        refine go_bipush (v := 20) rfl (by decide) ?_
        refine go_iload_n rfl rfl ?_
        refine go_aload_n rfl rfl ?_
        replace e := ck_some_e e
        obtain ⟨b36, hq_37, e⟩ := e
        refine go_get (v := .ref b36) rfl rfl hk_13 (by decide) (by show va_rf (gR h9 a0 2) = _; rw [hq_37]; rfl) ?_
        replace e := ck_as_e e
        obtain ⟨hk_38, e⟩ := e
        refine go_get (v := .int (gI h9 b36 1)) rfl rfl hk_38 (by decide) rfl ?_
        refine go_isub rfl ?_
        replace e := ck_bd_e e
        obtain ⟨r39, h40, e41, e⟩ := e
        refine go_callS (As := [.int (r3 - (gI h9 b36 1))]) (rest := [.int 20, .int 50, .long (gJ h9 a0 7), .ref a0]) rfl rfl rfl ⟨Nat.le_of_ble_eq_true rfl, Nat.le_of_ble_eq_true rfl, Nat.le_of_ble_eq_true rfl, Nat.le_of_ble_eq_true rfl⟩ (s_Ma_abs e41) ?_
        show Go k_Ch_seek 70 [some (.ref a0), some (.ref a1), some (.int r3), some (.int r8)] [.int r39, .int 20, .int 50, .long (gJ h9 a0 7), .ref a0] h40 _
        refine go_imul rfl ?_
        refine go_iadd rfl ?_
        refine go_i2l rfl ?_
        refine go_ladd rfl ?_
        replace e := ck_as_e e
        obtain ⟨hk_42, e⟩ := e
        refine go_put (h1 := wJ h40 a0 7 ((gJ h9 a0 7) + ((50 + (20 * r39) : Int32).toInt64))) rfl rfl hk_42 ⟨by decide, by decide, Or.inl rfl⟩ rfl ?_
        have hk_44 : gk (wJ h40 a0 7 ((gJ h9 a0 7) + ((50 + (20 * r39) : Int32).toInt64))) a0 = 0 := ck_kJ.trans hk_42
        generalize wJ h40 a0 7 ((gJ h9 a0 7) + ((50 + (20 * r39) : Int32).toInt64)) = h43 at e hk_44 ⊢
        replace e := ck_then_e e
        refine go_aload_n rfl rfl ?_
        replace e := ck_some_e e
        obtain ⟨b45, hq_46, e⟩ := e
        refine go_get (v := .ref b45) rfl rfl hk_44 (by decide) (by show va_rf (gR h43 a0 2) = _; rw [hq_46]; rfl) ?_
        refine go_iload_n rfl rfl ?_
        replace e := ck_as_e e
        obtain ⟨hk_47, e⟩ := e
        refine go_put (h1 := wI h43 b45 1 r3) rfl rfl hk_47 ⟨by decide, by decide, Or.inl rfl⟩ rfl ?_
        have hk_49 : gk (wI h43 b45 1 r3) a0 = 0 := ck_kI.trans hk_44
        have hk_50 : gk (wI h43 b45 1 r3) b45 = 9 := ck_kI.trans hk_47
        generalize wI h43 b45 1 r3 = h48 at e hk_49 hk_50 ⊢
        replace e := ck_then_e e
        refine go_aload_n rfl rfl ?_
        replace e := ck_some_e e
        obtain ⟨b51, hq_52, e⟩ := e
        refine go_get (v := .ref b51) rfl rfl hk_49 (by decide) (by show va_rf (gR h48 a0 2) = _; rw [hq_52]; rfl) ?_
        refine go_iload_n rfl rfl ?_
        replace e := ck_as_e e
        obtain ⟨hk_53, e⟩ := e
        refine go_put (h1 := wI h48 b51 2 r8) rfl rfl hk_53 ⟨by decide, by decide, Or.inl rfl⟩ rfl ?_
        have hk_55 : gk (wI h48 b51 2 r8) a0 = 0 := ck_kI.trans hk_49
        have hk_56 : gk (wI h48 b51 2 r8) b45 = 9 := ck_kI.trans hk_50
        have hk_57 : gk (wI h48 b51 2 r8) b51 = 9 := ck_kI.trans hk_53
        generalize wI h48 b51 2 r8 = h54 at e hk_55 hk_56 hk_57 ⊢
        replace e := ck_then_e e
        refine go_aload_n rfl rfl ?_
        refine go_iconst (v := 0) rfl (by decide) ?_
        refine go_iconst (v := (-1)) rfl (by decide) ?_
        replace e := ck_bd_e e
        obtain ⟨r58, h59, e60, e⟩ := e
        refine go_callV (As := [.int 0, .int (-1)]) (b0 := a0) (rest := []) rfl rfl ⟨hk_55, by decide⟩ rfl ⟨Nat.le_of_ble_eq_true rfl, Nat.le_of_ble_eq_true rfl, Nat.le_of_ble_eq_true rfl, Nat.le_of_ble_eq_true rfl⟩ (s_Ch_setPoint e60) ?_
        show Go k_Ch_seek 99 [some (.ref a0), some (.ref a1), some (.int r3), some (.int r8)] [] h59 _
        cases e
        exact go_ret rfl rfl
    · rw [if_neg hx_12] at e
      refine go_aload_n rfl rfl ?_
      refine go_bipush (v := 6) rfl (by decide) ?_
      replace e := ck_as_e e
      obtain ⟨hk_61, e⟩ := e
      replace e := ck_bd_e e
      obtain ⟨r62, h63, e64, e⟩ := e
      refine go_callV (As := [.int 6]) (b0 := a0) (rest := []) rfl rfl ⟨hk_61, by decide⟩ rfl ⟨Nat.le_of_ble_eq_true rfl, Nat.le_of_ble_eq_true rfl, Nat.le_of_ble_eq_true rfl, Nat.le_of_ble_eq_true rfl⟩ (s_Ch_stop e64) ?_
      show Go k_Ch_seek 37 [some (.ref a0), some (.ref a1), some (.int r3), some (.int r8)] [] h63 _
      cases e
      exact go_ret rfl rfl
  · rw [if_neg hx_11] at e
    refine go_aload_n rfl rfl ?_
    refine go_bipush (v := 6) rfl (by decide) ?_
    replace e := ck_as_e e
    obtain ⟨hk_65, e⟩ := e
    replace e := ck_bd_e e
    obtain ⟨r66, h67, e68, e⟩ := e
    refine go_callV (As := [.int 6]) (b0 := a0) (rest := []) rfl rfl ⟨hk_65, by decide⟩ rfl ⟨Nat.le_of_ble_eq_true rfl, Nat.le_of_ble_eq_true rfl, Nat.le_of_ble_eq_true rfl, Nat.le_of_ble_eq_true rfl⟩ (s_Ch_stop e68) ?_
    show Go k_Ch_seek 37 [some (.ref a0), some (.ref a1), some (.int r3), some (.int r8)] [] h67 _
    cases e
    exact go_ret rfl rfl
def f_Ch_chooseHead (F : Nat) (a0 : Nat) (a1 : Nat) (h : ck_H) : Option (Unit × ck_H) :=
  ck_as (gk h a1 = 1) <|
  ck_as (gk h a0 = 0) <|
  ck_bd (f_Ch_byteAt F a0 (gI h a1 1) h) fun r3 h4 =>
  if r3 < (4 : Int32) then
    ck_as (gk h4 a0 = 0) <|
    ck_some (gR h4 a0 2) fun b8 =>
    ck_as (gk h4 b8 = 9) <|
    ck_then (wI h4 b8 2 r3) fun h11 =>
    ck_bd (f_Ch_setPoint F a0 0 (-1) h11) fun _ h15 =>
    some ((), h15)
  else
    ck_as (gk h4 a0 = 0) <|
    ck_bd (f_Ch_stop F a0 6 h4) fun _ h19 =>
    some ((), h19)
set_option maxRecDepth 100000 in
set_option maxHeartbeats 4000000 in
theorem s_Ch_chooseHead {F : Nat} {a0 : Nat} {a1 : Nat} {h h' : ck_H} {r : Unit} (e : f_Ch_chooseHead F a0 a1 h = some (r, h')) : Go k_Ch_chooseHead 0 (ck_in [.ref a0, .ref a1] 3) [] h (none, h') := by
  unfold f_Ch_chooseHead at e
  show Go k_Ch_chooseHead 0 [some (.ref a0), some (.ref a1), none] [] h _
  refine go_aload_n rfl rfl ?_
  refine go_aload_n rfl rfl ?_
  replace e := ck_as_e e
  obtain ⟨hk_1, e⟩ := e
  refine go_get (v := .int (gI h a1 1)) rfl rfl hk_1 (by decide) rfl ?_
  replace e := ck_as_e e
  obtain ⟨hk_2, e⟩ := e
  replace e := ck_bd_e e
  obtain ⟨r3, h4, e5, e⟩ := e
  refine go_callV (As := [.int (gI h a1 1)]) (b0 := a0) (rest := []) rfl rfl ⟨hk_2, by decide⟩ rfl ⟨Nat.le_of_ble_eq_true rfl, Nat.le_of_ble_eq_true rfl, Nat.le_of_ble_eq_true rfl, Nat.le_of_ble_eq_true rfl⟩ (s_Ch_byteAt e5) ?_
  show Go k_Ch_chooseHead 8 [some (.ref a0), some (.ref a1), none] [.int r3] h4 _
  refine go_istore_n rfl rfl ?_
  show Go k_Ch_chooseHead 9 [some (.ref a0), some (.ref a1), some (.int r3)] [] h4 _
  refine go_iload_n rfl rfl ?_
  refine go_iconst (v := 4) rfl (by decide) ?_
  refine go_icmp_lt (t := 21) rfl rfl (fun hx_6 => ?_) (fun hx_6 => ?_)
  · rw [if_pos hx_6] at e
    refine go_aload_n rfl rfl ?_
    replace e := ck_as_e e
    obtain ⟨hk_7, e⟩ := e
    replace e := ck_some_e e
    obtain ⟨b8, hq_9, e⟩ := e
    refine go_get (v := .ref b8) rfl rfl hk_7 (by decide) (by show va_rf (gR h4 a0 2) = _; rw [hq_9]; rfl) ?_
    refine go_iload_n rfl rfl ?_
    replace e := ck_as_e e
    obtain ⟨hk_10, e⟩ := e
    refine go_put (h1 := wI h4 b8 2 r3) rfl rfl hk_10 ⟨by decide, by decide, Or.inl rfl⟩ rfl ?_
    have hk_12 : gk (wI h4 b8 2 r3) a0 = 0 := ck_kI.trans hk_7
    have hk_13 : gk (wI h4 b8 2 r3) b8 = 9 := ck_kI.trans hk_10
    generalize wI h4 b8 2 r3 = h11 at e hk_12 hk_13 ⊢
    replace e := ck_then_e e
    refine go_aload_n rfl rfl ?_
    refine go_iconst (v := 0) rfl (by decide) ?_
    refine go_iconst (v := (-1)) rfl (by decide) ?_
    replace e := ck_bd_e e
    obtain ⟨r14, h15, e16, e⟩ := e
    refine go_callV (As := [.int 0, .int (-1)]) (b0 := a0) (rest := []) rfl rfl ⟨hk_12, by decide⟩ rfl ⟨Nat.le_of_ble_eq_true rfl, Nat.le_of_ble_eq_true rfl, Nat.le_of_ble_eq_true rfl, Nat.le_of_ble_eq_true rfl⟩ (s_Ch_setPoint e16) ?_
    show Go k_Ch_chooseHead 35 [some (.ref a0), some (.ref a1), some (.int r3)] [] h15 _
    cases e
    exact go_ret rfl rfl
  · rw [if_neg hx_6] at e
    refine go_aload_n rfl rfl ?_
    refine go_bipush (v := 6) rfl (by decide) ?_
    replace e := ck_as_e e
    obtain ⟨hk_17, e⟩ := e
    replace e := ck_bd_e e
    obtain ⟨r18, h19, e20, e⟩ := e
    refine go_callV (As := [.int 6]) (b0 := a0) (rest := []) rfl rfl ⟨hk_17, by decide⟩ rfl ⟨Nat.le_of_ble_eq_true rfl, Nat.le_of_ble_eq_true rfl, Nat.le_of_ble_eq_true rfl, Nat.le_of_ble_eq_true rfl⟩ (s_Ch_stop e20) ?_
    show Go k_Ch_chooseHead 20 [some (.ref a0), some (.ref a1), some (.int r3)] [] h19 _
    cases e
    exact go_ret rfl rfl
def f_Ch_goTo (F : Nat) (a0 : Nat) (v1 : Int32) (h : ck_H) : Option (Unit × ck_H) :=
  ck_as (gk h a0 = 0) <|
  ck_then (wJ h a0 7 ((gJ h a0 7) + (((((v1 : Int32).toInt64) - ((gJ h a0 7) - (gJ h a0 7) / 1500 * 1500)) + 1500) - ((((v1 : Int32).toInt64) - ((gJ h a0 7) - (gJ h a0 7) / 1500 * 1500)) + 1500) / 1500 * 1500))) fun h2 =>
  some ((), h2)
set_option maxRecDepth 100000 in
set_option maxHeartbeats 4000000 in
theorem s_Ch_goTo {F : Nat} {a0 : Nat} {v1 : Int32} {h h' : ck_H} {r : Unit} (e : f_Ch_goTo F a0 v1 h = some (r, h')) : Go k_Ch_goTo 0 (ck_in [.ref a0, .int v1] 2) [] h (none, h') := by
  unfold f_Ch_goTo at e
  show Go k_Ch_goTo 0 [some (.ref a0), some (.int v1)] [] h _
  refine go_aload_n rfl rfl ?_
  refine go_dup rfl rfl ?_
  replace e := ck_as_e e
  obtain ⟨hk_1, e⟩ := e
  refine go_get (v := .long (gJ h a0 7)) rfl rfl hk_1 (by decide) rfl ?_
  refine go_iload_n rfl rfl ?_
  refine go_i2l rfl ?_
  refine go_aload_n rfl rfl ?_
  refine go_get (v := .long (gJ h a0 7)) rfl rfl hk_1 (by decide) rfl ?_
  refine go_ldc2 (v := 1500) rfl rfl ?_
  refine go_lrem rfl (by decide) ?_
  refine go_lsub rfl ?_
  refine go_ldc2 (v := 1500) rfl rfl ?_
  refine go_ladd rfl ?_
  refine go_ldc2 (v := 1500) rfl rfl ?_
  refine go_lrem rfl (by decide) ?_
  refine go_ladd rfl ?_
  refine go_put (h1 := wJ h a0 7 ((gJ h a0 7) + (((((v1 : Int32).toInt64) - ((gJ h a0 7) - (gJ h a0 7) / 1500 * 1500)) + 1500) - ((((v1 : Int32).toInt64) - ((gJ h a0 7) - (gJ h a0 7) / 1500 * 1500)) + 1500) / 1500 * 1500))) rfl rfl hk_1 ⟨by decide, by decide, Or.inl rfl⟩ rfl ?_
  have hk_3 : gk (wJ h a0 7 ((gJ h a0 7) + (((((v1 : Int32).toInt64) - ((gJ h a0 7) - (gJ h a0 7) / 1500 * 1500)) + 1500) - ((((v1 : Int32).toInt64) - ((gJ h a0 7) - (gJ h a0 7) / 1500 * 1500)) + 1500) / 1500 * 1500))) a0 = 0 := ck_kJ.trans hk_1
  generalize wJ h a0 7 ((gJ h a0 7) + (((((v1 : Int32).toInt64) - ((gJ h a0 7) - (gJ h a0 7) / 1500 * 1500)) + 1500) - ((((v1 : Int32).toInt64) - ((gJ h a0 7) - (gJ h a0 7) / 1500 * 1500)) + 1500) / 1500 * 1500)) = h2 at e hk_3 ⊢
  replace e := ck_then_e e
  cases e
  exact go_ret rfl rfl
def f_Ch_skipIf (F : Nat) (a0 : Nat) (v1 : Int32) (h : ck_H) : Option (Unit × ck_H) :=
  if v1 = (0 : Int32) then
    some ((), h)
  else
    ck_as (gk h a0 = 0) <|
    ck_then (wI h a0 3 ((gI h a0 3) + 1)) fun h3 =>
    some ((), h3)
set_option maxRecDepth 100000 in
set_option maxHeartbeats 4000000 in
theorem s_Ch_skipIf {F : Nat} {a0 : Nat} {v1 : Int32} {h h' : ck_H} {r : Unit} (e : f_Ch_skipIf F a0 v1 h = some (r, h')) : Go k_Ch_skipIf 0 (ck_in [.ref a0, .int v1] 2) [] h (none, h') := by
  unfold f_Ch_skipIf at e
  show Go k_Ch_skipIf 0 [some (.ref a0), some (.int v1)] [] h _
  refine go_iload_n rfl rfl ?_
  refine go_if_eq (t := 14) rfl rfl (fun hx_1 => ?_) (fun hx_1 => ?_)
  · rw [if_pos hx_1] at e
    cases e
    exact go_ret rfl rfl
  · rw [if_neg hx_1] at e
    refine go_aload_n rfl rfl ?_
    refine go_dup rfl rfl ?_
    replace e := ck_as_e e
    obtain ⟨hk_2, e⟩ := e
    refine go_get (v := .int (gI h a0 3)) rfl rfl hk_2 (by decide) rfl ?_
    refine go_iconst (v := 1) rfl (by decide) ?_
    refine go_iadd rfl ?_
    refine go_put (h1 := wI h a0 3 ((gI h a0 3) + 1)) rfl rfl hk_2 ⟨by decide, by decide, Or.inl rfl⟩ rfl ?_
    have hk_4 : gk (wI h a0 3 ((gI h a0 3) + 1)) a0 = 0 := ck_kI.trans hk_2
    generalize wI h a0 3 ((gI h a0 3) + 1) = h3 at e hk_4 ⊢
    replace e := ck_then_e e
    cases e
    exact go_ret rfl rfl
def f_Ch_searchHome_J66 (F : Nat)  (a0 : Nat) (s0 : Int32) (h : ck_H) : Option (Unit × ck_H) :=
  ck_as (gk h a0 = 0) <|
  ck_bd (f_Ch_skipIf F a0 s0 h) fun _ h3 =>
  if s0 = (0 : Int32) then
    ck_as (gk h3 a0 = 0) <|
    ck_then (wI h3 a0 6 ((gI h3 a0 6) + 1)) fun h7 =>
    if (gI h7 a0 6) < (2 : Int32) then
      some ((), h7)
    else
      ck_bd (f_Ch_stop F a0 1 h7) fun _ h11 =>
      some ((), h11)
  else
    some ((), h3)
set_option maxRecDepth 100000 in
set_option maxHeartbeats 4000000 in
theorem f_Ch_searchHome_J66_s (F : Nat)   (a0 : Nat) (s0 : Int32) (h : ck_H) (r : Unit) (h' : ck_H) (e : f_Ch_searchHome_J66 F  a0 s0 h = some (r, h')) : Go k_Ch_searchHome 66 [some (.ref a0), none, none] [.int s0] h (none, h') := by
  unfold f_Ch_searchHome_J66 at e
  refine go_istore_n rfl rfl ?_
  show Go k_Ch_searchHome 67 [some (.ref a0), none, some (.int s0)] [] h _
  refine go_aload_n rfl rfl ?_
  refine go_iload_n rfl rfl ?_
  replace e := ck_as_e e
  obtain ⟨hk_1, e⟩ := e
  replace e := ck_bd_e e
  obtain ⟨r2, h3, e4, e⟩ := e
  refine go_callV (As := [.int s0]) (b0 := a0) (rest := []) rfl rfl ⟨hk_1, by decide⟩ rfl ⟨Nat.le_of_ble_eq_true rfl, Nat.le_of_ble_eq_true rfl, Nat.le_of_ble_eq_true rfl, Nat.le_of_ble_eq_true rfl⟩ (s_Ch_skipIf e4) ?_
  show Go k_Ch_searchHome 72 [some (.ref a0), none, some (.int s0)] [] h3 _
  refine go_iload_n rfl rfl ?_
  refine go_if_ne (t := 99) rfl rfl (fun hx_5 => ?_) (fun hx_5 => ?_)
  · rw [if_pos hx_5] at e
    refine go_aload_n rfl rfl ?_
    refine go_dup rfl rfl ?_
    replace e := ck_as_e e
    obtain ⟨hk_6, e⟩ := e
    refine go_get (v := .int (gI h3 a0 6)) rfl rfl hk_6 (by decide) rfl ?_
    refine go_iconst (v := 1) rfl (by decide) ?_
    refine go_iadd rfl ?_
    refine go_put (h1 := wI h3 a0 6 ((gI h3 a0 6) + 1)) rfl rfl hk_6 ⟨by decide, by decide, Or.inl rfl⟩ rfl ?_
    have hk_8 : gk (wI h3 a0 6 ((gI h3 a0 6) + 1)) a0 = 0 := ck_kI.trans hk_6
    generalize wI h3 a0 6 ((gI h3 a0 6) + 1) = h7 at e hk_8 ⊢
    replace e := ck_then_e e
    refine go_aload_n rfl rfl ?_
    refine go_get (v := .int (gI h7 a0 6)) rfl rfl hk_8 (by decide) rfl ?_
    refine go_iconst (v := 2) rfl (by decide) ?_
    refine go_icmp_lt (t := 99) rfl rfl (fun hx_9 => ?_) (fun hx_9 => ?_)
    · rw [if_pos hx_9] at e
      cases e
      exact go_ret rfl rfl
    · rw [if_neg hx_9] at e
      refine go_aload_n rfl rfl ?_
      refine go_iconst (v := 1) rfl (by decide) ?_
      replace e := ck_bd_e e
      obtain ⟨r10, h11, e12, e⟩ := e
      refine go_callV (As := [.int 1]) (b0 := a0) (rest := []) rfl rfl ⟨hk_8, by decide⟩ rfl ⟨Nat.le_of_ble_eq_true rfl, Nat.le_of_ble_eq_true rfl, Nat.le_of_ble_eq_true rfl, Nat.le_of_ble_eq_true rfl⟩ (s_Ch_stop e12) ?_
      show Go k_Ch_searchHome 99 [some (.ref a0), none, some (.int s0)] [] h11 _
      cases e
      exact go_ret rfl rfl
  · rw [if_neg hx_5] at e
    cases e
    exact go_ret rfl rfl
def f_Ch_searchHome_J65 (F : Nat)  (a0 : Nat) (h : ck_H) : Option (Unit × ck_H) :=
  f_Ch_searchHome_J66 F a0 0 h
set_option maxRecDepth 100000 in
set_option maxHeartbeats 4000000 in
theorem f_Ch_searchHome_J65_s (F : Nat)   (a0 : Nat) (h : ck_H) (r : Unit) (h' : ck_H) (e : f_Ch_searchHome_J65 F  a0 h = some (r, h')) : Go k_Ch_searchHome 65 [some (.ref a0), none, none] [] h (none, h') := by
  unfold f_Ch_searchHome_J65 at e
  refine go_iconst (v := 0) rfl (by decide) ?_
  refine go_forget (l := [some (.ref a0), none, none]) ⟨Or.inl rfl, Or.inl rfl, Or.inl rfl, trivial⟩ ?_
  exact f_Ch_searchHome_J66_s F a0 0 _ _ _ e
def f_Ch_searchHome (F : Nat) (a0 : Nat) (a1 : Nat) (h : ck_H) : Option (Unit × ck_H) :=
  ck_as (gk h a0 = 0) <|
  ck_bd (f_Ch_goTo F a0 0 h) fun _ h3 =>
  ck_as (gk h3 a0 = 0) <|
  ck_then (wJ h3 a0 7 ((gJ h3 a0 7) + 30)) fun h6 =>
  ck_bd (f_Ch_setPoint F a0 1 (-1) h6) fun _ h9 =>
  ck_as (gk h9 a1 = 1) <|
  ck_as (gk h9 a0 = 0) <|
  ck_bd (f_Ch_byteAt F a0 (gI h9 a1 1) h9) fun r13 h14 =>
  ck_as (gk h14 a0 = 0) <|
  ck_some (gR h14 a0 2) fun b17 =>
  ck_as (gk h14 b17 = 9) <|
  if r13 = (gI h14 b17 1) then
    ck_as (gk h14 a1 = 1) <|
    ck_bd (f_Ch_byteAt F a0 ((gI h14 a1 1) + 1) h14) fun r22 h23 =>
    ck_as (gk h23 a0 = 0) <|
    ck_some (gR h23 a0 2) fun b26 =>
    ck_as (gk h23 b26 = 9) <|
    if r22 = (gI h23 b26 2) then
      f_Ch_searchHome_J66 F a0 1 h23
    else
      f_Ch_searchHome_J65 F a0 h23
  else
    f_Ch_searchHome_J65 F a0 h14
set_option maxRecDepth 100000 in
set_option maxHeartbeats 4000000 in
theorem s_Ch_searchHome {F : Nat} {a0 : Nat} {a1 : Nat} {h h' : ck_H} {r : Unit} (e : f_Ch_searchHome F a0 a1 h = some (r, h')) : Go k_Ch_searchHome 0 (ck_in [.ref a0, .ref a1] 3) [] h (none, h') := by
  unfold f_Ch_searchHome at e
  show Go k_Ch_searchHome 0 [some (.ref a0), some (.ref a1), none] [] h _
  refine go_aload_n rfl rfl ?_
  refine go_iconst (v := 0) rfl (by decide) ?_
  replace e := ck_as_e e
  obtain ⟨hk_1, e⟩ := e
  replace e := ck_bd_e e
  obtain ⟨r2, h3, e4, e⟩ := e
  refine go_callV (As := [.int 0]) (b0 := a0) (rest := []) rfl rfl ⟨hk_1, by decide⟩ rfl ⟨Nat.le_of_ble_eq_true rfl, Nat.le_of_ble_eq_true rfl, Nat.le_of_ble_eq_true rfl, Nat.le_of_ble_eq_true rfl⟩ (s_Ch_goTo e4) ?_
  show Go k_Ch_searchHome 5 [some (.ref a0), some (.ref a1), none] [] h3 _
  refine go_aload_n rfl rfl ?_
  refine go_dup rfl rfl ?_
  replace e := ck_as_e e
  obtain ⟨hk_5, e⟩ := e
  refine go_get (v := .long (gJ h3 a0 7)) rfl rfl hk_5 (by decide) rfl ?_
  refine go_ldc2 (v := 30) rfl rfl ?_
  refine go_ladd rfl ?_
  refine go_put (h1 := wJ h3 a0 7 ((gJ h3 a0 7) + 30)) rfl rfl hk_5 ⟨by decide, by decide, Or.inl rfl⟩ rfl ?_
  have hk_7 : gk (wJ h3 a0 7 ((gJ h3 a0 7) + 30)) a0 = 0 := ck_kJ.trans hk_5
  generalize wJ h3 a0 7 ((gJ h3 a0 7) + 30) = h6 at e hk_7 ⊢
  replace e := ck_then_e e
  refine go_aload_n rfl rfl ?_
  refine go_iconst (v := 1) rfl (by decide) ?_
  refine go_iconst (v := (-1)) rfl (by decide) ?_
  replace e := ck_bd_e e
  obtain ⟨r8, h9, e10, e⟩ := e
  refine go_callV (As := [.int 1, .int (-1)]) (b0 := a0) (rest := []) rfl rfl ⟨hk_7, by decide⟩ rfl ⟨Nat.le_of_ble_eq_true rfl, Nat.le_of_ble_eq_true rfl, Nat.le_of_ble_eq_true rfl, Nat.le_of_ble_eq_true rfl⟩ (s_Ch_setPoint e10) ?_
  show Go k_Ch_searchHome 23 [some (.ref a0), some (.ref a1), none] [] h9 _
  refine go_aload_n rfl rfl ?_
  refine go_aload_n rfl rfl ?_
  replace e := ck_as_e e
  obtain ⟨hk_11, e⟩ := e
  refine go_get (v := .int (gI h9 a1 1)) rfl rfl hk_11 (by decide) rfl ?_
  replace e := ck_as_e e
  obtain ⟨hk_12, e⟩ := e
  replace e := ck_bd_e e
  obtain ⟨r13, h14, e15, e⟩ := e
  refine go_callV (As := [.int (gI h9 a1 1)]) (b0 := a0) (rest := []) rfl rfl ⟨hk_12, by decide⟩ rfl ⟨Nat.le_of_ble_eq_true rfl, Nat.le_of_ble_eq_true rfl, Nat.le_of_ble_eq_true rfl, Nat.le_of_ble_eq_true rfl⟩ (s_Ch_byteAt e15) ?_
  show Go k_Ch_searchHome 31 [some (.ref a0), some (.ref a1), none] [.int r13] h14 _
  refine go_aload_n rfl rfl ?_
  replace e := ck_as_e e
  obtain ⟨hk_16, e⟩ := e
  replace e := ck_some_e e
  obtain ⟨b17, hq_18, e⟩ := e
  refine go_get (v := .ref b17) rfl rfl hk_16 (by decide) (by show va_rf (gR h14 a0 2) = _; rw [hq_18]; rfl) ?_
  replace e := ck_as_e e
  obtain ⟨hk_19, e⟩ := e
  refine go_get (v := .int (gI h14 b17 1)) rfl rfl hk_19 (by decide) rfl ?_
  refine go_icmp_ne (t := 65) rfl rfl (fun hx_20 => ?_) (fun hx_20 => ?_)
  · rw [if_pos hx_20] at e
    refine go_aload_n rfl rfl ?_
    refine go_aload_n rfl rfl ?_
    replace e := ck_as_e e
    obtain ⟨hk_21, e⟩ := e
    refine go_get (v := .int (gI h14 a1 1)) rfl rfl hk_21 (by decide) rfl ?_
    refine go_iconst (v := 1) rfl (by decide) ?_
    refine go_iadd rfl ?_
    replace e := ck_bd_e e
    obtain ⟨r22, h23, e24, e⟩ := e
    refine go_callV (As := [.int ((gI h14 a1 1) + 1)]) (b0 := a0) (rest := []) rfl rfl ⟨hk_16, by decide⟩ rfl ⟨Nat.le_of_ble_eq_true rfl, Nat.le_of_ble_eq_true rfl, Nat.le_of_ble_eq_true rfl, Nat.le_of_ble_eq_true rfl⟩ (s_Ch_byteAt e24) ?_
    show Go k_Ch_searchHome 51 [some (.ref a0), some (.ref a1), none] [.int r22] h23 _
    refine go_aload_n rfl rfl ?_
    replace e := ck_as_e e
    obtain ⟨hk_25, e⟩ := e
    replace e := ck_some_e e
    obtain ⟨b26, hq_27, e⟩ := e
    refine go_get (v := .ref b26) rfl rfl hk_25 (by decide) (by show va_rf (gR h23 a0 2) = _; rw [hq_27]; rfl) ?_
    replace e := ck_as_e e
    obtain ⟨hk_28, e⟩ := e
    refine go_get (v := .int (gI h23 b26 2)) rfl rfl hk_28 (by decide) rfl ?_
    refine go_icmp_ne (t := 65) rfl rfl (fun hx_29 => ?_) (fun hx_29 => ?_)
    · rw [if_pos hx_29] at e
      refine go_iconst (v := 1) rfl (by decide) ?_
      refine go_goto (t := 66) rfl rfl ?_
      refine go_forget (l := [some (.ref a0), none, none]) ⟨Or.inl rfl, Or.inr ⟨rfl, fun _ q => by cases q; rfl⟩, Or.inl rfl, trivial⟩ ?_
      exact f_Ch_searchHome_J66_s F a0 1 _ _ _ e
    · rw [if_neg hx_29] at e
      refine go_forget (l := [some (.ref a0), none, none]) ⟨Or.inl rfl, Or.inr ⟨rfl, fun _ q => by cases q; rfl⟩, Or.inl rfl, trivial⟩ ?_
      exact f_Ch_searchHome_J65_s F a0 _ _ _ e
  · rw [if_neg hx_20] at e
    refine go_forget (l := [some (.ref a0), none, none]) ⟨Or.inl rfl, Or.inr ⟨rfl, fun _ q => by cases q; rfl⟩, Or.inl rfl, trivial⟩ ?_
    exact f_Ch_searchHome_J65_s F a0 _ _ _ e
def f_Ch_track (F : Nat) (a0 : Nat) (h : ck_H) : Option (Option Nat × ck_H) :=
  ck_as (gk h a0 = 0) <|
  ck_some (gR h a0 2) fun b2 =>
  ck_as (gk h b2 = 9) <|
  ck_some (gR h b2 0) fun b5 =>
  ck_some (gR h a0 2) fun b7 =>
  ck_as (gk h b7 = 9) <|
  ck_some (gR h a0 2) fun b10 =>
  ck_as (gk h b10 = 9) <|
  ck_as ((16 ≤ gk h b5 ∧ gk h b5 ≤ 20) ∧ ¬ ((((gI h b7 1) * 4) + (gI h b10 2)) - (((gI h b7 1) * 4) + (gI h b10 2)) / 80 * 80) < 0 ∧ ((((gI h b7 1) * 4) + (gI h b10 2)) - (((gI h b7 1) * 4) + (gI h b10 2)) / 80 * 80 : Int32).toNatClampNeg < gz h b5) <|
  ck_opt (gR h b5 ((((gI h b7 1) * 4) + (gI h b10 2)) - (((gI h b7 1) * 4) + (gI h b10 2)) / 80 * 80 : Int32).toNatClampNeg) (
    some (none, h)
  ) fun b15 =>
  some (some b15, h)
set_option maxRecDepth 100000 in
set_option maxHeartbeats 4000000 in
theorem s_Ch_track {F : Nat} {a0 : Nat} {h h' : ck_H} {r : Option Nat} (e : f_Ch_track F a0 h = some (r, h')) : Go k_Ch_track 0 (ck_in [.ref a0] 1) [] h (some (va_rf r), h') := by
  unfold f_Ch_track at e
  show Go k_Ch_track 0 [some (.ref a0)] [] h _
  refine go_aload_n rfl rfl ?_
  replace e := ck_as_e e
  obtain ⟨hk_1, e⟩ := e
  replace e := ck_some_e e
  obtain ⟨b2, hq_3, e⟩ := e
  refine go_get (v := .ref b2) rfl rfl hk_1 (by decide) (by show va_rf (gR h a0 2) = _; rw [hq_3]; rfl) ?_
  replace e := ck_as_e e
  obtain ⟨hk_4, e⟩ := e
  replace e := ck_some_e e
  obtain ⟨b5, hq_6, e⟩ := e
  refine go_get (v := .ref b5) rfl rfl hk_4 (by decide) (by show va_rf (gR h b2 0) = _; rw [hq_6]; rfl) ?_
  refine go_aload_n rfl rfl ?_
  replace e := ck_some_e e
  obtain ⟨b7, hq_8, e⟩ := e
  refine go_get (v := .ref b7) rfl rfl hk_1 (by decide) (by show va_rf (gR h a0 2) = _; rw [hq_8]; rfl) ?_
  replace e := ck_as_e e
  obtain ⟨hk_9, e⟩ := e
  refine go_get (v := .int (gI h b7 1)) rfl rfl hk_9 (by decide) rfl ?_
  refine go_iconst (v := 4) rfl (by decide) ?_
  refine go_imul rfl ?_
  refine go_aload_n rfl rfl ?_
  replace e := ck_some_e e
  obtain ⟨b10, hq_11, e⟩ := e
  refine go_get (v := .ref b10) rfl rfl hk_1 (by decide) (by show va_rf (gR h a0 2) = _; rw [hq_11]; rfl) ?_
  replace e := ck_as_e e
  obtain ⟨hk_12, e⟩ := e
  refine go_get (v := .int (gI h b10 2)) rfl rfl hk_12 (by decide) rfl ?_
  refine go_iadd rfl ?_
  refine go_bipush (v := 80) rfl (by decide) ?_
  refine go_irem rfl (by decide) ?_
  replace e := ck_as_e e
  obtain ⟨hc_13, e⟩ := e
  replace e := ck_opt_e e
  rcases e with ⟨hq_14, e⟩ | ⟨b15, hq_14, e⟩
  · refine go_aald (v := .null) rfl hc_13 (by rw [hq_14]; rfl) ?_
    cases e
    exact go_ret rfl rfl
  refine go_aald (v := .ref b15) rfl hc_13 (by rw [hq_14]; rfl) ?_
  cases e
  exact go_ret rfl rfl
def f_Ch_place (F : Nat) (a0 : Nat) (h : ck_H) : Option (Int32 × ck_H) :=
  ck_as (gk h a0 = 0) <|
  some (((gJ h a0 7) - (gJ h a0 7) / 1500 * 1500 : Int64).toInt32, h)
set_option maxRecDepth 100000 in
set_option maxHeartbeats 4000000 in
theorem s_Ch_place {F : Nat} {a0 : Nat} {h h' : ck_H} {r : Int32} (e : f_Ch_place F a0 h = some (r, h')) : Go k_Ch_place 0 (ck_in [.ref a0] 1) [] h (some (.int r), h') := by
  unfold f_Ch_place at e
  show Go k_Ch_place 0 [some (.ref a0)] [] h _
  refine go_aload_n rfl rfl ?_
  replace e := ck_as_e e
  obtain ⟨hk_1, e⟩ := e
  refine go_get (v := .long (gJ h a0 7)) rfl rfl hk_1 (by decide) rfl ?_
  refine go_ldc2 (v := 1500) rfl rfl ?_
  refine go_lrem rfl (by decide) ?_
  refine go_l2i rfl ?_
  cases e
  exact go_ret rfl rfl
def f_Tr_firstFrom_L2 (F : Nat)  : Nat → Nat → Int32 → Int32 → ck_H → Option (Int32 × ck_H)
  | 0, _, _, _, _ => none
  | n + 1, a0, v1, v2, h =>
    ck_as (gk h a0 = 8) <|
    if v2 < (gI h a0 2) then
      ck_some (gR h a0 1) fun b3 =>
      ck_as ((gk h b3 = 14 ∨ gk h b3 = 21) ∧ ¬ v2 < 0 ∧ (v2 : Int32).toNatClampNeg < gz h b3) <|
      if (gI h b3 (v2 : Int32).toNatClampNeg) < v1 then
        f_Tr_firstFrom_L2 F n a0 v1 (v2 + 1) h
      else
        some (v2, h)
    else
      some ((-1), h)
set_option maxRecDepth 100000 in
set_option maxHeartbeats 4000000 in
theorem f_Tr_firstFrom_L2_s (F : Nat)   : ∀ (n : Nat) (a0 : Nat) (v1 : Int32) (v2 : Int32) (h : ck_H) (r : Int32) (h' : ck_H), f_Tr_firstFrom_L2 F n a0 v1 v2 h = some (r, h') → Go k_Tr_firstFrom 2 [some (.ref a0), some (.int v1), some (.int v2)] [] h (some (.int r), h') := by
  intro n
  induction n with
  | zero => intro a0 v1 v2 h r h' e; simp only [f_Tr_firstFrom_L2] at e; cases e
  | succ n ih =>
    intro a0 v1 v2 h r h' e
    rw [f_Tr_firstFrom_L2] at e
    refine go_iload_n rfl rfl ?_
    refine go_aload_n rfl rfl ?_
    replace e := ck_as_e e
    obtain ⟨hk_1, e⟩ := e
    refine go_get (v := .int (gI h a0 2)) rfl rfl hk_1 (by decide) rfl ?_
    refine go_icmp_ge (t := 28) rfl rfl (fun hx_2 => ?_) (fun hx_2 => ?_)
    · rw [if_pos hx_2] at e
      refine go_aload_n rfl rfl ?_
      replace e := ck_some_e e
      obtain ⟨b3, hq_4, e⟩ := e
      refine go_get (v := .ref b3) rfl rfl hk_1 (by decide) (by show va_rf (gR h a0 1) = _; rw [hq_4]; rfl) ?_
      refine go_iload_n rfl rfl ?_
      replace e := ck_as_e e
      obtain ⟨hc_5, e⟩ := e
      refine go_iald rfl hc_5 ?_
      refine go_iload_n rfl rfl ?_
      refine go_icmp_lt (t := 22) rfl rfl (fun hx_6 => ?_) (fun hx_6 => ?_)
      · rw [if_pos hx_6] at e
        refine go_iinc (v := 1) rfl rfl (by decide) rfl ?_
        show Go k_Tr_firstFrom 25 [some (.ref a0), some (.int v1), some (.int (v2 + 1))] [] h _
        refine go_goto (t := 2) rfl rfl ?_
        refine go_forget (l := [some (.ref a0), some (.int v1), some (.int (v2 + 1))]) ⟨Or.inl rfl, Or.inl rfl, Or.inl rfl, trivial⟩ ?_
        exact ih _ _ _ _ _ _ e
      · rw [if_neg hx_6] at e
        refine go_iload_n rfl rfl ?_
        cases e
        exact go_ret rfl rfl
    · rw [if_neg hx_2] at e
      refine go_iconst (v := (-1)) rfl (by decide) ?_
      cases e
      exact go_ret rfl rfl
def f_Tr_firstFrom (F : Nat) (a0 : Nat) (v1 : Int32) (h : ck_H) : Option (Int32 × ck_H) :=
  f_Tr_firstFrom_L2 F F a0 v1 0 h
set_option maxRecDepth 100000 in
set_option maxHeartbeats 4000000 in
theorem s_Tr_firstFrom {F : Nat} {a0 : Nat} {v1 : Int32} {h h' : ck_H} {r : Int32} (e : f_Tr_firstFrom F a0 v1 h = some (r, h')) : Go k_Tr_firstFrom 0 (ck_in [.ref a0, .int v1] 3) [] h (some (.int r), h') := by
  unfold f_Tr_firstFrom at e
  show Go k_Tr_firstFrom 0 [some (.ref a0), some (.int v1), none] [] h _
  refine go_iconst (v := 0) rfl (by decide) ?_
  refine go_istore_n rfl rfl ?_
  show Go k_Tr_firstFrom 2 [some (.ref a0), some (.int v1), some (.int 0)] [] h _
  refine go_forget (l := [some (.ref a0), some (.int v1), some (.int 0)]) ⟨Or.inl rfl, Or.inl rfl, Or.inl rfl, trivial⟩ ?_
  exact f_Tr_firstFrom_L2_s F F _ _ _ _ _ _ e
def f_Tr_beginOf (F : Nat) (a0 : Nat) (v1 : Int32) (h : ck_H) : Option (Int32 × ck_H) :=
  if v1 < (0 : Int32) then
    some ((-1), h)
  else
    ck_as (gk h a0 = 8) <|
    if v1 < (gI h a0 2) then
      ck_some (gR h a0 1) fun b4 =>
      ck_as ((gk h b4 = 14 ∨ gk h b4 = 21) ∧ ¬ v1 < 0 ∧ (v1 : Int32).toNatClampNeg < gz h b4) <|
      some (gI h b4 (v1 : Int32).toNatClampNeg, h)
    else
      some ((-1), h)
set_option maxRecDepth 100000 in
set_option maxHeartbeats 4000000 in
theorem s_Tr_beginOf {F : Nat} {a0 : Nat} {v1 : Int32} {h h' : ck_H} {r : Int32} (e : f_Tr_beginOf F a0 v1 h = some (r, h')) : Go k_Tr_beginOf 0 (ck_in [.ref a0, .int v1] 2) [] h (some (.int r), h') := by
  unfold f_Tr_beginOf at e
  show Go k_Tr_beginOf 0 [some (.ref a0), some (.int v1)] [] h _
  refine go_iload_n rfl rfl ?_
  refine go_if_lt (t := 21) rfl rfl (fun hx_1 => ?_) (fun hx_1 => ?_)
  · rw [if_pos hx_1] at e
    refine go_iconst (v := (-1)) rfl (by decide) ?_
    cases e
    exact go_ret rfl rfl
  · rw [if_neg hx_1] at e
    refine go_iload_n rfl rfl ?_
    refine go_aload_n rfl rfl ?_
    replace e := ck_as_e e
    obtain ⟨hk_2, e⟩ := e
    refine go_get (v := .int (gI h a0 2)) rfl rfl hk_2 (by decide) rfl ?_
    refine go_icmp_ge (t := 21) rfl rfl (fun hx_3 => ?_) (fun hx_3 => ?_)
    · rw [if_pos hx_3] at e
      refine go_aload_n rfl rfl ?_
      replace e := ck_some_e e
      obtain ⟨b4, hq_5, e⟩ := e
      refine go_get (v := .ref b4) rfl rfl hk_2 (by decide) (by show va_rf (gR h a0 1) = _; rw [hq_5]; rfl) ?_
      refine go_iload_n rfl rfl ?_
      replace e := ck_as_e e
      obtain ⟨hc_6, e⟩ := e
      refine go_iald rfl hc_6 ?_
      refine go_goto (t := 22) rfl rfl ?_
      cases e
      exact go_ret rfl rfl
    · rw [if_neg hx_3] at e
      refine go_iconst (v := (-1)) rfl (by decide) ?_
      cases e
      exact go_ret rfl rfl
def f_Ch_nextRecord_L2 (F : Nat)  : Nat → Nat → Int32 → ck_H → Option (Int32 × ck_H)
  | 0, _, _, _ => none
  | n + 1, a0, v1, h =>
    if (2 : Int32) < v1 then
      some ((-1), h)
    else
      ck_as (gk h a0 = 0) <|
      ck_bd (f_Ch_track F a0 h) fun r3 h4 =>
      ck_some r3 fun b6 =>
      ck_as (gk h4 a0 = 0) <|
      ck_bd (f_Ch_place F a0 h4) fun r9 h10 =>
      ck_as (gk h10 b6 = 8) <|
      ck_bd (f_Tr_firstFrom F b6 r9 h10) fun r13 h14 =>
      if r13 < (0 : Int32) then
        ck_as (gk h14 a0 = 0) <|
        ck_bd (f_Ch_place F a0 h14) fun r18 h19 =>
        ck_as (gk h19 a0 = 0) <|
        ck_then (wJ h19 a0 7 ((gJ h14 a0 7) + ((1500 - r18 : Int32).toInt64))) fun h22 =>
        ck_then (wI h22 a0 6 ((gI h22 a0 6) + 1)) fun h24 =>
        if (gI h24 a0 6) < (2 : Int32) then
          f_Ch_nextRecord_L2 F n a0 (v1 + 1) h24
        else
          ck_bd (f_Ch_stop F a0 1 h24) fun _ h28 =>
          some ((-1), h28)
      else
        ck_as (gk h14 a0 = 0) <|
        ck_bd (f_Ch_track F a0 h14) fun r31 h32 =>
        ck_some r31 fun b34 =>
        ck_as (gk h32 b34 = 8) <|
        ck_bd (f_Tr_beginOf F b34 r13 h32) fun r37 h38 =>
        ck_as (gk h38 a0 = 0) <|
        ck_bd (f_Ch_goTo F a0 r37 h38) fun _ h42 =>
        some (r13, h42)
set_option maxRecDepth 100000 in
set_option maxHeartbeats 4000000 in
theorem f_Ch_nextRecord_L2_s (F : Nat)   : ∀ (n : Nat) (a0 : Nat) (v1 : Int32) (h : ck_H) (r : Int32) (h' : ck_H), f_Ch_nextRecord_L2 F n a0 v1 h = some (r, h') → Go k_Ch_nextRecord 2 [some (.ref a0), some (.int v1), none] [] h (some (.int r), h') := by
  intro n
  induction n with
  | zero => intro a0 v1 h r h' e; simp only [f_Ch_nextRecord_L2] at e; cases e
  | succ n ih =>
    intro a0 v1 h r h' e
    rw [f_Ch_nextRecord_L2] at e
    refine go_iload_n rfl rfl ?_
    refine go_iconst (v := 2) rfl (by decide) ?_
    refine go_icmp_gt (t := 86) rfl rfl (fun hx_1 => ?_) (fun hx_1 => ?_)
    · rw [if_pos hx_1] at e
      refine go_iconst (v := (-1)) rfl (by decide) ?_
      cases e
      exact go_ret rfl rfl
    · rw [if_neg hx_1] at e
      refine go_aload_n rfl rfl ?_
      replace e := ck_as_e e
      obtain ⟨hk_2, e⟩ := e
      replace e := ck_bd_e e
      obtain ⟨r3, h4, e5, e⟩ := e
      refine go_callV (As := []) (b0 := a0) (rest := []) rfl rfl ⟨hk_2, by decide⟩ rfl ⟨Nat.le_of_ble_eq_true rfl, Nat.le_of_ble_eq_true rfl, Nat.le_of_ble_eq_true rfl, Nat.le_of_ble_eq_true rfl⟩ (s_Ch_track e5) ?_
      replace e := ck_some_e e
      obtain ⟨b6, hq_7, e⟩ := e
      subst hq_7
      show Go k_Ch_nextRecord 11 [some (.ref a0), some (.int v1), none] [.ref b6] h4 _
      refine go_aload_n rfl rfl ?_
      replace e := ck_as_e e
      obtain ⟨hk_8, e⟩ := e
      replace e := ck_bd_e e
      obtain ⟨r9, h10, e11, e⟩ := e
      refine go_callV (As := []) (b0 := a0) (rest := [.ref b6]) rfl rfl ⟨hk_8, by decide⟩ rfl ⟨Nat.le_of_ble_eq_true rfl, Nat.le_of_ble_eq_true rfl, Nat.le_of_ble_eq_true rfl, Nat.le_of_ble_eq_true rfl⟩ (s_Ch_place e11) ?_
      show Go k_Ch_nextRecord 15 [some (.ref a0), some (.int v1), none] [.int r9, .ref b6] h10 _
      replace e := ck_as_e e
      obtain ⟨hk_12, e⟩ := e
      replace e := ck_bd_e e
      obtain ⟨r13, h14, e15, e⟩ := e
      refine go_callV (As := [.int r9]) (b0 := b6) (rest := []) rfl rfl ⟨hk_12, by decide⟩ rfl ⟨Nat.le_of_ble_eq_true rfl, Nat.le_of_ble_eq_true rfl, Nat.le_of_ble_eq_true rfl, Nat.le_of_ble_eq_true rfl⟩ (s_Tr_firstFrom e15) ?_
      show Go k_Ch_nextRecord 18 [some (.ref a0), some (.int v1), none] [.int r13] h14 _
      refine go_istore_n rfl rfl ?_
      show Go k_Ch_nextRecord 19 [some (.ref a0), some (.int v1), some (.int r13)] [] h14 _
      refine go_iload_n rfl rfl ?_
      refine go_if_lt (t := 37) rfl rfl (fun hx_16 => ?_) (fun hx_16 => ?_)
      · rw [if_pos hx_16] at e
        refine go_aload_n rfl rfl ?_
        refine go_dup rfl rfl ?_
        replace e := ck_as_e e
        obtain ⟨hk_17, e⟩ := e
        refine go_get (v := .long (gJ h14 a0 7)) rfl rfl hk_17 (by decide) rfl ?_
        refine go_sipush (v := 1500) rfl (by decide) ?_
        refine go_aload_n rfl rfl ?_
        replace e := ck_bd_e e
        obtain ⟨r18, h19, e20, e⟩ := e
        refine go_callV (As := []) (b0 := a0) (rest := [.int 1500, .long (gJ h14 a0 7), .ref a0]) rfl rfl ⟨hk_17, by decide⟩ rfl ⟨Nat.le_of_ble_eq_true rfl, Nat.le_of_ble_eq_true rfl, Nat.le_of_ble_eq_true rfl, Nat.le_of_ble_eq_true rfl⟩ (s_Ch_place e20) ?_
        show Go k_Ch_nextRecord 49 [some (.ref a0), some (.int v1), some (.int r13)] [.int r18, .int 1500, .long (gJ h14 a0 7), .ref a0] h19 _
        refine go_isub rfl ?_
        refine go_i2l rfl ?_
        refine go_ladd rfl ?_
        replace e := ck_as_e e
        obtain ⟨hk_21, e⟩ := e
        refine go_put (h1 := wJ h19 a0 7 ((gJ h14 a0 7) + ((1500 - r18 : Int32).toInt64))) rfl rfl hk_21 ⟨by decide, by decide, Or.inl rfl⟩ rfl ?_
        have hk_23 : gk (wJ h19 a0 7 ((gJ h14 a0 7) + ((1500 - r18 : Int32).toInt64))) a0 = 0 := ck_kJ.trans hk_21
        generalize wJ h19 a0 7 ((gJ h14 a0 7) + ((1500 - r18 : Int32).toInt64)) = h22 at e hk_23 ⊢
        replace e := ck_then_e e
        refine go_aload_n rfl rfl ?_
        refine go_dup rfl rfl ?_
        refine go_get (v := .int (gI h22 a0 6)) rfl rfl hk_23 (by decide) rfl ?_
        refine go_iconst (v := 1) rfl (by decide) ?_
        refine go_iadd rfl ?_
        refine go_put (h1 := wI h22 a0 6 ((gI h22 a0 6) + 1)) rfl rfl hk_23 ⟨by decide, by decide, Or.inl rfl⟩ rfl ?_
        have hk_25 : gk (wI h22 a0 6 ((gI h22 a0 6) + 1)) a0 = 0 := ck_kI.trans hk_23
        generalize wI h22 a0 6 ((gI h22 a0 6) + 1) = h24 at e hk_25 ⊢
        replace e := ck_then_e e
        refine go_aload_n rfl rfl ?_
        refine go_get (v := .int (gI h24 a0 6)) rfl rfl hk_25 (by decide) rfl ?_
        refine go_iconst (v := 2) rfl (by decide) ?_
        refine go_icmp_lt (t := 80) rfl rfl (fun hx_26 => ?_) (fun hx_26 => ?_)
        · rw [if_pos hx_26] at e
          refine go_iinc (v := 1) rfl rfl (by decide) rfl ?_
          show Go k_Ch_nextRecord 83 [some (.ref a0), some (.int (v1 + 1)), some (.int r13)] [] h24 _
          refine go_goto (t := 2) rfl rfl ?_
          refine go_forget (l := [some (.ref a0), some (.int (v1 + 1)), none]) ⟨Or.inl rfl, Or.inl rfl, Or.inr ⟨rfl, fun _ q => by cases q; rfl⟩, trivial⟩ ?_
          exact ih _ _ _ _ _ e
        · rw [if_neg hx_26] at e
          refine go_aload_n rfl rfl ?_
          refine go_iconst (v := 1) rfl (by decide) ?_
          replace e := ck_bd_e e
          obtain ⟨r27, h28, e29, e⟩ := e
          refine go_callV (As := [.int 1]) (b0 := a0) (rest := []) rfl rfl ⟨hk_25, by decide⟩ rfl ⟨Nat.le_of_ble_eq_true rfl, Nat.le_of_ble_eq_true rfl, Nat.le_of_ble_eq_true rfl, Nat.le_of_ble_eq_true rfl⟩ (s_Ch_stop e29) ?_
          show Go k_Ch_nextRecord 78 [some (.ref a0), some (.int v1), some (.int r13)] [] h28 _
          refine go_iconst (v := (-1)) rfl (by decide) ?_
          cases e
          exact go_ret rfl rfl
      · rw [if_neg hx_16] at e
        refine go_aload_n rfl rfl ?_
        refine go_aload_n rfl rfl ?_
        replace e := ck_as_e e
        obtain ⟨hk_30, e⟩ := e
        replace e := ck_bd_e e
        obtain ⟨r31, h32, e33, e⟩ := e
        refine go_callV (As := []) (b0 := a0) (rest := [.ref a0]) rfl rfl ⟨hk_30, by decide⟩ rfl ⟨Nat.le_of_ble_eq_true rfl, Nat.le_of_ble_eq_true rfl, Nat.le_of_ble_eq_true rfl, Nat.le_of_ble_eq_true rfl⟩ (s_Ch_track e33) ?_
        replace e := ck_some_e e
        obtain ⟨b34, hq_35, e⟩ := e
        subst hq_35
        show Go k_Ch_nextRecord 28 [some (.ref a0), some (.int v1), some (.int r13)] [.ref b34, .ref a0] h32 _
        refine go_iload_n rfl rfl ?_
        replace e := ck_as_e e
        obtain ⟨hk_36, e⟩ := e
        replace e := ck_bd_e e
        obtain ⟨r37, h38, e39, e⟩ := e
        refine go_callV (As := [.int r13]) (b0 := b34) (rest := [.ref a0]) rfl rfl ⟨hk_36, by decide⟩ rfl ⟨Nat.le_of_ble_eq_true rfl, Nat.le_of_ble_eq_true rfl, Nat.le_of_ble_eq_true rfl, Nat.le_of_ble_eq_true rfl⟩ (s_Tr_beginOf e39) ?_
        show Go k_Ch_nextRecord 32 [some (.ref a0), some (.int v1), some (.int r13)] [.int r37, .ref a0] h38 _
        replace e := ck_as_e e
        obtain ⟨hk_40, e⟩ := e
        replace e := ck_bd_e e
        obtain ⟨r41, h42, e43, e⟩ := e
        refine go_callV (As := [.int r37]) (b0 := a0) (rest := []) rfl rfl ⟨hk_40, by decide⟩ rfl ⟨Nat.le_of_ble_eq_true rfl, Nat.le_of_ble_eq_true rfl, Nat.le_of_ble_eq_true rfl, Nat.le_of_ble_eq_true rfl⟩ (s_Ch_goTo e43) ?_
        show Go k_Ch_nextRecord 35 [some (.ref a0), some (.int v1), some (.int r13)] [] h42 _
        refine go_iload_n rfl rfl ?_
        cases e
        exact go_ret rfl rfl
def f_Ch_nextRecord (F : Nat) (a0 : Nat) (h : ck_H) : Option (Int32 × ck_H) :=
  f_Ch_nextRecord_L2 F F a0 0 h
set_option maxRecDepth 100000 in
set_option maxHeartbeats 4000000 in
theorem s_Ch_nextRecord {F : Nat} {a0 : Nat} {h h' : ck_H} {r : Int32} (e : f_Ch_nextRecord F a0 h = some (r, h')) : Go k_Ch_nextRecord 0 (ck_in [.ref a0] 3) [] h (some (.int r), h') := by
  unfold f_Ch_nextRecord at e
  show Go k_Ch_nextRecord 0 [some (.ref a0), none, none] [] h _
  refine go_iconst (v := 0) rfl (by decide) ?_
  refine go_istore_n rfl rfl ?_
  show Go k_Ch_nextRecord 2 [some (.ref a0), some (.int 0), none] [] h _
  refine go_forget (l := [some (.ref a0), some (.int 0), none]) ⟨Or.inl rfl, Or.inl rfl, Or.inl rfl, trivial⟩ ?_
  exact f_Ch_nextRecord_L2_s F F _ _ _ _ _ e
