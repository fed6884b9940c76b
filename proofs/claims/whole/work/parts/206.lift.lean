def f_CS_allOpen_L4 (F : Nat)  : Nat → Nat → Int32 → Int32 → ck_H → Option (Int32 × ck_H)
  | 0, _, _, _, _ => none
  | n + 1, a0, v1, v2, h =>
    if v2 < (4 : Int32) then
      ck_as (gk h a0 = 11) <|
      ck_some (gR h a0 7) fun b3 =>
      ck_as ((16 ≤ gk h b3 ∧ gk h b3 ≤ 20) ∧ ¬ v2 < 0 ∧ (v2 : Int32).toNatClampNeg < gz h b3) <|
      ck_some (gR h b3 (v2 : Int32).toNatClampNeg) fun b6 =>
      ck_as (gk h b6 = 5) <|
      ck_bd (f_Op_isOpen F b6 h) fun r9 h10 =>
      if r9 = (0 : Int32) then
        ck_then (v1 + 0) fun x13 =>
        f_CS_allOpen_L4 F n a0 x13 (v2 + 1) h10
      else
        ck_then (v1 + 1) fun x14 =>
        f_CS_allOpen_L4 F n a0 x14 (v2 + 1) h10
    else
      some (v1, h)
set_option maxRecDepth 100000 in
set_option maxHeartbeats 4000000 in
theorem f_CS_allOpen_L4_s (F : Nat)   : ∀ (n : Nat) (a0 : Nat) (v1 : Int32) (v2 : Int32) (h : ck_H) (r : Int32) (h' : ck_H), f_CS_allOpen_L4 F n a0 v1 v2 h = some (r, h') → Go k_CS_allOpen 4 [some (.ref a0), some (.int v1), some (.int v2)] [] h (some (.int r), h') := by
  intro n
  induction n with
  | zero => intro a0 v1 v2 h r h' e; simp only [f_CS_allOpen_L4] at e; cases e
  | succ n ih =>
    intro a0 v1 v2 h r h' e
    rw [f_CS_allOpen_L4] at e
    refine go_iload_n rfl rfl ?_
    refine go_iconst (v := 4) rfl (by decide) ?_
    refine go_icmp_ge (t := 35) rfl rfl (fun hx_1 => ?_) (fun hx_1 => ?_)
    · rw [if_pos hx_1] at e
      refine go_iload_n rfl rfl ?_
      refine go_aload_n rfl rfl ?_
      replace e := ck_as_e e
      obtain ⟨hk_2, e⟩ := e
      replace e := ck_some_e e
      obtain ⟨b3, hq_4, e⟩ := e
      refine go_get (v := .ref b3) rfl rfl hk_2 (by decide) (by show va_rf (gR h a0 7) = _; rw [hq_4]; rfl) ?_
      refine go_iload_n rfl rfl ?_
      replace e := ck_as_e e
      obtain ⟨hc_5, e⟩ := e
      replace e := ck_some_e e
      obtain ⟨b6, hq_7, e⟩ := e
      refine go_aald (v := .ref b6) rfl hc_5 (by rw [hq_7]; rfl) ?_
      replace e := ck_as_e e
      obtain ⟨hk_8, e⟩ := e
      replace e := ck_bd_e e
      obtain ⟨r9, h10, e11, e⟩ := e
      refine go_callV (As := []) (b0 := b6) (rest := [.int v1]) rfl rfl ⟨hk_8, by decide⟩ rfl ⟨Nat.le_of_ble_eq_true rfl, Nat.le_of_ble_eq_true rfl, Nat.le_of_ble_eq_true rfl, Nat.le_of_ble_eq_true rfl⟩ (s_Op_isOpen e11) ?_
      show Go k_CS_allOpen 19 [some (.ref a0), some (.int v1), some (.int v2)] [.int r9, .int v1] h10 _
      refine go_if_eq (t := 26) rfl rfl (fun hx_12 => ?_) (fun hx_12 => ?_)
      · rw [if_pos hx_12] at e
        refine go_iconst (v := 0) rfl (by decide) ?_
        refine go_iadd rfl ?_
        generalize v1 + 0 = x13 at e ⊢
        replace e := ck_then_e e
        refine go_istore_n rfl rfl ?_
        show Go k_CS_allOpen 29 [some (.ref a0), some (.int x13), some (.int v2)] [] h10 _
        refine go_iinc (v := 1) rfl rfl (by decide) rfl ?_
        show Go k_CS_allOpen 32 [some (.ref a0), some (.int x13), some (.int (v2 + 1))] [] h10 _
        refine go_goto (t := 4) rfl rfl ?_
        refine go_forget (l := [some (.ref a0), some (.int x13), some (.int (v2 + 1))]) ⟨Or.inl rfl, Or.inl rfl, Or.inl rfl, trivial⟩ ?_
        exact ih _ _ _ _ _ _ e
      · rw [if_neg hx_12] at e
        refine go_iconst (v := 1) rfl (by decide) ?_
        refine go_goto (t := 27) rfl rfl ?_
        refine go_iadd rfl ?_
        generalize v1 + 1 = x14 at e ⊢
        replace e := ck_then_e e
        refine go_istore_n rfl rfl ?_
        show Go k_CS_allOpen 29 [some (.ref a0), some (.int x14), some (.int v2)] [] h10 _
        refine go_iinc (v := 1) rfl rfl (by decide) rfl ?_
        show Go k_CS_allOpen 32 [some (.ref a0), some (.int x14), some (.int (v2 + 1))] [] h10 _
        refine go_goto (t := 4) rfl rfl ?_
        refine go_forget (l := [some (.ref a0), some (.int x14), some (.int (v2 + 1))]) ⟨Or.inl rfl, Or.inl rfl, Or.inl rfl, trivial⟩ ?_
        exact ih _ _ _ _ _ _ e
    · rw [if_neg hx_1] at e
      refine go_iload_n rfl rfl ?_
      cases e
      exact go_ret rfl rfl
def f_CS_allOpen (F : Nat) (a0 : Nat) (h : ck_H) : Option (Int32 × ck_H) :=
  f_CS_allOpen_L4 F F a0 0 0 h
set_option maxRecDepth 100000 in
set_option maxHeartbeats 4000000 in
theorem s_CS_allOpen {F : Nat} {a0 : Nat} {h h' : ck_H} {r : Int32} (e : f_CS_allOpen F a0 h = some (r, h')) : Go k_CS_allOpen 0 (ck_in [.ref a0] 3) [] h (some (.int r), h') := by
  unfold f_CS_allOpen at e
  show Go k_CS_allOpen 0 [some (.ref a0), none, none] [] h _
  refine go_iconst (v := 0) rfl (by decide) ?_
  refine go_istore_n rfl rfl ?_
  show Go k_CS_allOpen 2 [some (.ref a0), some (.int 0), none] [] h _
  refine go_iconst (v := 0) rfl (by decide) ?_
  refine go_istore_n rfl rfl ?_
  show Go k_CS_allOpen 4 [some (.ref a0), some (.int 0), some (.int 0)] [] h _
  refine go_forget (l := [some (.ref a0), some (.int 0), some (.int 0)]) ⟨Or.inl rfl, Or.inl rfl, Or.inl rfl, trivial⟩ ?_
  exact f_CS_allOpen_L4_s F F _ _ _ _ _ _ e
def f_CS_count (F : Nat) (a0 : Nat) (v1 : Int32) (h : ck_H) : Option (Int32 × ck_H) :=
  if v1 = 0 then
    ck_as (gk h a0 = 11) <|
    ck_some (gR h a0 6) fun b3 =>
    ck_as (gk h b3 = 10) <|
    ck_bd (f_Vo_freeTracks F b3 h) fun r6 h7 =>
    some (r6, h7)
  else
  if v1 = 1 then
    ck_as (gk h a0 = 11) <|
    ck_some (gR h a0 6) fun b11 =>
    ck_as (gk h b11 = 10) <|
    ck_bd (f_Vo_setCount F b11 h) fun r14 h15 =>
    some (r14, h15)
  else
  if v1 = 2 then
    ck_as (gk h a0 = 11) <|
    ck_bd (f_CS_allOpen F a0 h) fun r19 h20 =>
    some (r19, h20)
  else
  if v1 = 3 then
    ck_as (gk h a0 = 11) <|
    ck_some (gR h a0 0) fun b24 =>
    ck_as (gk h b24 = 6) <|
    some (gI h b24 1, h)
  else
  if v1 = 4 then
    ck_as (gk h a0 = 11) <|
    ck_some (gR h a0 1) fun b29 =>
    ck_as (gk h b29 = 6) <|
    some (gI h b29 1, h)
  else
    some ((-1), h)
set_option maxRecDepth 100000 in
set_option maxHeartbeats 4000000 in
theorem s_CS_count {F : Nat} {a0 : Nat} {v1 : Int32} {h h' : ck_H} {r : Int32} (e : f_CS_count F a0 v1 h = some (r, h')) : Go k_CS_count 0 (ck_in [.ref a0, .int v1] 2) [] h (some (.int r), h') := by
  unfold f_CS_count at e
  show Go k_CS_count 0 [some (.ref a0), some (.int v1)] [] h _
  refine go_iload_n rfl rfl ?_
  by_cases hx_1 : v1 = 0
  · rw [if_pos hx_1] at e
    refine go_tswI (off := 35) (t := 36) rfl (by rw [hx_1]; decide) (by rw [hx_1]; rfl) rfl ?_
    refine go_aload_n rfl rfl ?_
    replace e := ck_as_e e
    obtain ⟨hk_2, e⟩ := e
    replace e := ck_some_e e
    obtain ⟨b3, hq_4, e⟩ := e
    refine go_get (v := .ref b3) rfl rfl hk_2 (by decide) (by show va_rf (gR h a0 6) = _; rw [hq_4]; rfl) ?_
    replace e := ck_as_e e
    obtain ⟨hk_5, e⟩ := e
    replace e := ck_bd_e e
    obtain ⟨r6, h7, e8, e⟩ := e
    refine go_callV (As := []) (b0 := b3) (rest := []) rfl rfl ⟨hk_5, by decide⟩ rfl ⟨Nat.le_of_ble_eq_true rfl, Nat.le_of_ble_eq_true rfl, Nat.le_of_ble_eq_true rfl, Nat.le_of_ble_eq_true rfl⟩ (s_Vo_freeTracks e8) ?_
    show Go k_CS_count 43 [some (.ref a0), some (.int v1)] [.int r6] h7 _
    cases e
    exact go_ret rfl rfl
  rw [if_neg hx_1] at e
  by_cases hx_9 : v1 = 1
  · rw [if_pos hx_9] at e
    refine go_tswI (off := 43) (t := 44) rfl (by rw [hx_9]; decide) (by rw [hx_9]; rfl) rfl ?_
    refine go_aload_n rfl rfl ?_
    replace e := ck_as_e e
    obtain ⟨hk_10, e⟩ := e
    replace e := ck_some_e e
    obtain ⟨b11, hq_12, e⟩ := e
    refine go_get (v := .ref b11) rfl rfl hk_10 (by decide) (by show va_rf (gR h a0 6) = _; rw [hq_12]; rfl) ?_
    replace e := ck_as_e e
    obtain ⟨hk_13, e⟩ := e
    replace e := ck_bd_e e
    obtain ⟨r14, h15, e16, e⟩ := e
    refine go_callV (As := []) (b0 := b11) (rest := []) rfl rfl ⟨hk_13, by decide⟩ rfl ⟨Nat.le_of_ble_eq_true rfl, Nat.le_of_ble_eq_true rfl, Nat.le_of_ble_eq_true rfl, Nat.le_of_ble_eq_true rfl⟩ (s_Vo_setCount e16) ?_
    show Go k_CS_count 51 [some (.ref a0), some (.int v1)] [.int r14] h15 _
    cases e
    exact go_ret rfl rfl
  rw [if_neg hx_9] at e
  by_cases hx_17 : v1 = 2
  · rw [if_pos hx_17] at e
    refine go_tswI (off := 51) (t := 52) rfl (by rw [hx_17]; decide) (by rw [hx_17]; rfl) rfl ?_
    refine go_aload_n rfl rfl ?_
    replace e := ck_as_e e
    obtain ⟨hk_18, e⟩ := e
    replace e := ck_bd_e e
    obtain ⟨r19, h20, e21, e⟩ := e
    refine go_callV (As := []) (b0 := a0) (rest := []) rfl rfl ⟨hk_18, by decide⟩ rfl ⟨Nat.le_of_ble_eq_true rfl, Nat.le_of_ble_eq_true rfl, Nat.le_of_ble_eq_true rfl, Nat.le_of_ble_eq_true rfl⟩ (s_CS_allOpen e21) ?_
    show Go k_CS_count 56 [some (.ref a0), some (.int v1)] [.int r19] h20 _
    cases e
    exact go_ret rfl rfl
  rw [if_neg hx_17] at e
  by_cases hx_22 : v1 = 3
  · rw [if_pos hx_22] at e
    refine go_tswI (off := 56) (t := 57) rfl (by rw [hx_22]; decide) (by rw [hx_22]; rfl) rfl ?_
    refine go_aload_n rfl rfl ?_
    replace e := ck_as_e e
    obtain ⟨hk_23, e⟩ := e
    replace e := ck_some_e e
    obtain ⟨b24, hq_25, e⟩ := e
    refine go_get (v := .ref b24) rfl rfl hk_23 (by decide) (by show va_rf (gR h a0 0) = _; rw [hq_25]; rfl) ?_
    replace e := ck_as_e e
    obtain ⟨hk_26, e⟩ := e
    refine go_get (v := .int (gI h b24 1)) rfl rfl hk_26 (by decide) rfl ?_
    cases e
    exact go_ret rfl rfl
  rw [if_neg hx_22] at e
  by_cases hx_27 : v1 = 4
  · rw [if_pos hx_27] at e
    refine go_tswI (off := 64) (t := 65) rfl (by rw [hx_27]; decide) (by rw [hx_27]; rfl) rfl ?_
    refine go_aload_n rfl rfl ?_
    replace e := ck_as_e e
    obtain ⟨hk_28, e⟩ := e
    replace e := ck_some_e e
    obtain ⟨b29, hq_30, e⟩ := e
    refine go_get (v := .ref b29) rfl rfl hk_28 (by decide) (by show va_rf (gR h a0 1) = _; rw [hq_30]; rfl) ?_
    replace e := ck_as_e e
    obtain ⟨hk_31, e⟩ := e
    refine go_get (v := .int (gI h b29 1)) rfl rfl hk_31 (by decide) rfl ?_
    cases e
    exact go_ret rfl rfl
  rw [if_neg hx_27] at e
  have hz_ : (v1 : Int32).toInt < 0 ∨ 4 < (v1 : Int32).toInt := by
    have z0 := lv_neT hx_1 (k := 0) (a := 0) rfl
    have z1 := lv_neT hx_9 (k := 1) (a := 1) rfl
    have z2 := lv_neT hx_17 (k := 2) (a := 2) rfl
    have z3 := lv_neT hx_22 (k := 3) (a := 3) rfl
    have z4 := lv_neT hx_27 (k := 4) (a := 4) rfl
    omega
  refine go_tswO (m := k_CS_count) (pc := 1) (t := 73) (d := 72) (offs := #[35, 43, 51, 56, 64]) rfl hz_ rfl ?_
  refine go_iconst (v := (-1)) rfl (by decide) ?_
  cases e
  exact go_ret rfl rfl
def f_DS_opensWith (F : Nat) (a0 : Nat) (v1 : Int32) (h : ck_H) : Option (Int32 × ck_H) :=
  ck_as (gk h a0 = 2) <|
  if (gI h a0 6) = (4 : Int32) then
    if v1 = (2 : Int32) then
      some (0, h)
    else
      if (gI h a0 6) = (3 : Int32) then
        if v1 = (1 : Int32) then
          some (0, h)
        else
          some (1, h)
      else
        some (1, h)
  else
    if (gI h a0 6) = (3 : Int32) then
      if v1 = (1 : Int32) then
        some (0, h)
      else
        some (1, h)
    else
      some (1, h)
set_option maxRecDepth 100000 in
set_option maxHeartbeats 4000000 in
theorem s_DS_opensWith {F : Nat} {a0 : Nat} {v1 : Int32} {h h' : ck_H} {r : Int32} (e : f_DS_opensWith F a0 v1 h = some (r, h')) : Go k_DS_opensWith 0 (ck_in [.ref a0, .int v1] 2) [] h (some (.int r), h') := by
  unfold f_DS_opensWith at e
  show Go k_DS_opensWith 0 [some (.ref a0), some (.int v1)] [] h _
  refine go_aload_n rfl rfl ?_
  replace e := ck_as_e e
  obtain ⟨hk_1, e⟩ := e
  refine go_get (v := .int (gI h a0 6)) rfl rfl hk_1 (by decide) rfl ?_
  refine go_iconst (v := 4) rfl (by decide) ?_
  refine go_icmp_ne (t := 13) rfl rfl (fun hx_2 => ?_) (fun hx_2 => ?_)
  · rw [if_pos hx_2] at e
    refine go_iload_n rfl rfl ?_
    refine go_iconst (v := 2) rfl (by decide) ?_
    refine go_icmp_eq (t := 30) rfl rfl (fun hx_3 => ?_) (fun hx_3 => ?_)
    · rw [if_pos hx_3] at e
      refine go_iconst (v := 0) rfl (by decide) ?_
      cases e
      exact go_ret rfl (ck_rvb rfl (Or.inl rfl))
    · rw [if_neg hx_3] at e
      refine go_aload_n rfl rfl ?_
      refine go_get (v := .int (gI h a0 6)) rfl rfl hk_1 (by decide) rfl ?_
      refine go_iconst (v := 3) rfl (by decide) ?_
      refine go_icmp_ne (t := 26) rfl rfl (fun hx_4 => ?_) (fun hx_4 => ?_)
      · rw [if_pos hx_4] at e
        refine go_iload_n rfl rfl ?_
        refine go_iconst (v := 1) rfl (by decide) ?_
        refine go_icmp_eq (t := 30) rfl rfl (fun hx_5 => ?_) (fun hx_5 => ?_)
        · rw [if_pos hx_5] at e
          refine go_iconst (v := 0) rfl (by decide) ?_
          cases e
          exact go_ret rfl (ck_rvb rfl (Or.inl rfl))
        · rw [if_neg hx_5] at e
          refine go_iconst (v := 1) rfl (by decide) ?_
          refine go_goto (t := 31) rfl rfl ?_
          cases e
          exact go_ret rfl (ck_rvb rfl (Or.inr rfl))
      · rw [if_neg hx_4] at e
        refine go_iconst (v := 1) rfl (by decide) ?_
        refine go_goto (t := 31) rfl rfl ?_
        cases e
        exact go_ret rfl (ck_rvb rfl (Or.inr rfl))
  · rw [if_neg hx_2] at e
    refine go_aload_n rfl rfl ?_
    refine go_get (v := .int (gI h a0 6)) rfl rfl hk_1 (by decide) rfl ?_
    refine go_iconst (v := 3) rfl (by decide) ?_
    refine go_icmp_ne (t := 26) rfl rfl (fun hx_6 => ?_) (fun hx_6 => ?_)
    · rw [if_pos hx_6] at e
      refine go_iload_n rfl rfl ?_
      refine go_iconst (v := 1) rfl (by decide) ?_
      refine go_icmp_eq (t := 30) rfl rfl (fun hx_7 => ?_) (fun hx_7 => ?_)
      · rw [if_pos hx_7] at e
        refine go_iconst (v := 0) rfl (by decide) ?_
        cases e
        exact go_ret rfl (ck_rvb rfl (Or.inl rfl))
      · rw [if_neg hx_7] at e
        refine go_iconst (v := 1) rfl (by decide) ?_
        refine go_goto (t := 31) rfl rfl ?_
        cases e
        exact go_ret rfl (ck_rvb rfl (Or.inr rfl))
    · rw [if_neg hx_6] at e
      refine go_iconst (v := 1) rfl (by decide) ?_
      refine go_goto (t := 31) rfl rfl ?_
      cases e
      exact go_ret rfl (ck_rvb rfl (Or.inr rfl))
def f_CS_isOpenTo_L2 (F : Nat)  : Nat → Nat → Int32 → Int32 → Int32 → ck_H → Option (Int32 × ck_H)
  | 0, _, _, _, _, _ => none
  | n + 1, a0, v1, v2, v3, h =>
    if v3 < (4 : Int32) then
      ck_as (gk h a0 = 11) <|
      ck_some (gR h a0 7) fun b3 =>
      ck_as ((16 ≤ gk h b3 ∧ gk h b3 ≤ 20) ∧ ¬ v3 < 0 ∧ (v3 : Int32).toNatClampNeg < gz h b3) <|
      ck_some (gR h b3 (v3 : Int32).toNatClampNeg) fun b6 =>
      ck_as (gk h b6 = 5) <|
      ck_bd (f_Op_isOf F b6 v1 h) fun r9 h10 =>
      if r9 = (0 : Int32) then
        f_CS_isOpenTo_L2 F n a0 v1 v2 (v3 + 1) h10
      else
        ck_as (gk h10 a0 = 11) <|
        ck_some (gR h10 a0 7) fun b14 =>
        ck_as ((16 ≤ gk h10 b14 ∧ gk h10 b14 ≤ 20) ∧ ¬ v3 < 0 ∧ (v3 : Int32).toNatClampNeg < gz h10 b14) <|
        ck_some (gR h10 b14 (v3 : Int32).toNatClampNeg) fun b17 =>
        ck_as (gk h10 b17 = 5) <|
        if (gI h10 b17 8) = v2 then
          some (1, h10)
        else
          f_CS_isOpenTo_L2 F n a0 v1 v2 (v3 + 1) h10
    else
      some (0, h)
set_option maxRecDepth 100000 in
set_option maxHeartbeats 4000000 in
theorem f_CS_isOpenTo_L2_s (F : Nat)   : ∀ (n : Nat) (a0 : Nat) (v1 : Int32) (v2 : Int32) (v3 : Int32) (h : ck_H) (r : Int32) (h' : ck_H), f_CS_isOpenTo_L2 F n a0 v1 v2 v3 h = some (r, h') → Go k_CS_isOpenTo 2 [some (.ref a0), some (.int v1), some (.int v2), some (.int v3)] [] h (some (.int r), h') := by
  intro n
  induction n with
  | zero => intro a0 v1 v2 v3 h r h' e; simp only [f_CS_isOpenTo_L2] at e; cases e
  | succ n ih =>
    intro a0 v1 v2 v3 h r h' e
    rw [f_CS_isOpenTo_L2] at e
    refine go_iload_n rfl rfl ?_
    refine go_iconst (v := 4) rfl (by decide) ?_
    refine go_icmp_ge (t := 41) rfl rfl (fun hx_1 => ?_) (fun hx_1 => ?_)
    · rw [if_pos hx_1] at e
      refine go_aload_n rfl rfl ?_
      replace e := ck_as_e e
      obtain ⟨hk_2, e⟩ := e
      replace e := ck_some_e e
      obtain ⟨b3, hq_4, e⟩ := e
      refine go_get (v := .ref b3) rfl rfl hk_2 (by decide) (by show va_rf (gR h a0 7) = _; rw [hq_4]; rfl) ?_
      refine go_iload_n rfl rfl ?_
      replace e := ck_as_e e
      obtain ⟨hc_5, e⟩ := e
      replace e := ck_some_e e
      obtain ⟨b6, hq_7, e⟩ := e
      refine go_aald (v := .ref b6) rfl hc_5 (by rw [hq_7]; rfl) ?_
      refine go_iload_n rfl rfl ?_
      replace e := ck_as_e e
      obtain ⟨hk_8, e⟩ := e
      replace e := ck_bd_e e
      obtain ⟨r9, h10, e11, e⟩ := e
      refine go_callV (As := [.int v1]) (b0 := b6) (rest := []) rfl rfl ⟨hk_8, by decide⟩ rfl ⟨Nat.le_of_ble_eq_true rfl, Nat.le_of_ble_eq_true rfl, Nat.le_of_ble_eq_true rfl, Nat.le_of_ble_eq_true rfl⟩ (s_Op_isOf e11) ?_
      show Go k_CS_isOpenTo 17 [some (.ref a0), some (.int v1), some (.int v2), some (.int v3)] [.int r9] h10 _
      refine go_if_eq (t := 35) rfl rfl (fun hx_12 => ?_) (fun hx_12 => ?_)
      · rw [if_pos hx_12] at e
        refine go_iinc (v := 1) rfl rfl (by decide) rfl ?_
        show Go k_CS_isOpenTo 38 [some (.ref a0), some (.int v1), some (.int v2), some (.int (v3 + 1))] [] h10 _
        refine go_goto (t := 2) rfl rfl ?_
        refine go_forget (l := [some (.ref a0), some (.int v1), some (.int v2), some (.int (v3 + 1))]) ⟨Or.inl rfl, Or.inl rfl, Or.inl rfl, Or.inl rfl, trivial⟩ ?_
        exact ih _ _ _ _ _ _ _ e
      · rw [if_neg hx_12] at e
        refine go_aload_n rfl rfl ?_
        replace e := ck_as_e e
        obtain ⟨hk_13, e⟩ := e
        replace e := ck_some_e e
        obtain ⟨b14, hq_15, e⟩ := e
        refine go_get (v := .ref b14) rfl rfl hk_13 (by decide) (by show va_rf (gR h10 a0 7) = _; rw [hq_15]; rfl) ?_
        refine go_iload_n rfl rfl ?_
        replace e := ck_as_e e
        obtain ⟨hc_16, e⟩ := e
        replace e := ck_some_e e
        obtain ⟨b17, hq_18, e⟩ := e
        refine go_aald (v := .ref b17) rfl hc_16 (by rw [hq_18]; rfl) ?_
        replace e := ck_as_e e
        obtain ⟨hk_19, e⟩ := e
        refine go_get (v := .int (gI h10 b17 8)) rfl rfl hk_19 (by decide) rfl ?_
        refine go_iload_n rfl rfl ?_
        refine go_icmp_ne (t := 35) rfl rfl (fun hx_20 => ?_) (fun hx_20 => ?_)
        · rw [if_pos hx_20] at e
          refine go_iconst (v := 1) rfl (by decide) ?_
          cases e
          exact go_ret rfl (ck_rvb rfl (Or.inr rfl))
        · rw [if_neg hx_20] at e
          refine go_iinc (v := 1) rfl rfl (by decide) rfl ?_
          show Go k_CS_isOpenTo 38 [some (.ref a0), some (.int v1), some (.int v2), some (.int (v3 + 1))] [] h10 _
          refine go_goto (t := 2) rfl rfl ?_
          refine go_forget (l := [some (.ref a0), some (.int v1), some (.int v2), some (.int (v3 + 1))]) ⟨Or.inl rfl, Or.inl rfl, Or.inl rfl, Or.inl rfl, trivial⟩ ?_
          exact ih _ _ _ _ _ _ _ e
    · rw [if_neg hx_1] at e
      refine go_iconst (v := 0) rfl (by decide) ?_
      cases e
      exact go_ret rfl (ck_rvb rfl (Or.inl rfl))
def f_CS_isOpenTo (F : Nat) (a0 : Nat) (v1 : Int32) (v2 : Int32) (h : ck_H) : Option (Int32 × ck_H) :=
  f_CS_isOpenTo_L2 F F a0 v1 v2 0 h
set_option maxRecDepth 100000 in
set_option maxHeartbeats 4000000 in
theorem s_CS_isOpenTo {F : Nat} {a0 : Nat} {v1 : Int32} {v2 : Int32} {h h' : ck_H} {r : Int32} (e : f_CS_isOpenTo F a0 v1 v2 h = some (r, h')) : Go k_CS_isOpenTo 0 (ck_in [.ref a0, .int v1, .int v2] 4) [] h (some (.int r), h') := by
  unfold f_CS_isOpenTo at e
  show Go k_CS_isOpenTo 0 [some (.ref a0), some (.int v1), some (.int v2), none] [] h _
  refine go_iconst (v := 0) rfl (by decide) ?_
  refine go_istore_n rfl rfl ?_
  show Go k_CS_isOpenTo 2 [some (.ref a0), some (.int v1), some (.int v2), some (.int 0)] [] h _
  refine go_forget (l := [some (.ref a0), some (.int v1), some (.int v2), some (.int 0)]) ⟨Or.inl rfl, Or.inl rfl, Or.inl rfl, Or.inl rfl, trivial⟩ ?_
  exact f_CS_isOpenTo_L2_s F F _ _ _ _ _ _ _ e
def f_CS_isBusy (F : Nat) (a0 : Nat) (v1 : Int32) (v2 : Int32) (h : ck_H) : Option (Int32 × ck_H) :=
  if v2 = (0 : Int32) then
    ck_as (gk h a0 = 11) <|
    ck_bd (f_CS_isOpenTo F a0 v1 1 h) fun r3 h4 =>
    if r3 = (0 : Int32) then
      ck_as (gk h4 a0 = 11) <|
      ck_bd (f_CS_isOpenTo F a0 v1 2 h4) fun r8 h9 =>
      if r8 = (0 : Int32) then
        some (0, h9)
      else
        some (1, h9)
    else
      some (1, h4)
  else
    ck_as (gk h a0 = 11) <|
    ck_bd (f_CS_openCount F a0 v1 h) fun r13 h14 =>
    if (0 : Int32) < r13 then
      some (1, h14)
    else
      some (0, h14)
set_option maxRecDepth 100000 in
set_option maxHeartbeats 4000000 in
theorem s_CS_isBusy {F : Nat} {a0 : Nat} {v1 : Int32} {v2 : Int32} {h h' : ck_H} {r : Int32} (e : f_CS_isBusy F a0 v1 v2 h = some (r, h')) : Go k_CS_isBusy 0 (ck_in [.ref a0, .int v1, .int v2] 3) [] h (some (.int r), h') := by
  unfold f_CS_isBusy at e
  show Go k_CS_isBusy 0 [some (.ref a0), some (.int v1), some (.int v2)] [] h _
  refine go_iload_n rfl rfl ?_
  refine go_if_eq (t := 18) rfl rfl (fun hx_1 => ?_) (fun hx_1 => ?_)
  · rw [if_pos hx_1] at e
    refine go_aload_n rfl rfl ?_
    refine go_iload_n rfl rfl ?_
    refine go_iconst (v := 1) rfl (by decide) ?_
    replace e := ck_as_e e
    obtain ⟨hk_2, e⟩ := e
    replace e := ck_bd_e e
    obtain ⟨r3, h4, e5, e⟩ := e
    refine go_callV (As := [.int v1, .int 1]) (b0 := a0) (rest := []) rfl rfl ⟨hk_2, by decide⟩ rfl ⟨Nat.le_of_ble_eq_true rfl, Nat.le_of_ble_eq_true rfl, Nat.le_of_ble_eq_true rfl, Nat.le_of_ble_eq_true rfl⟩ (s_CS_isOpenTo e5) ?_
    show Go k_CS_isBusy 24 [some (.ref a0), some (.int v1), some (.int v2)] [.int r3] h4 _
    refine go_if_ne (t := 36) rfl rfl (fun hx_6 => ?_) (fun hx_6 => ?_)
    · rw [if_pos hx_6] at e
      refine go_aload_n rfl rfl ?_
      refine go_iload_n rfl rfl ?_
      refine go_iconst (v := 2) rfl (by decide) ?_
      replace e := ck_as_e e
      obtain ⟨hk_7, e⟩ := e
      replace e := ck_bd_e e
      obtain ⟨r8, h9, e10, e⟩ := e
      refine go_callV (As := [.int v1, .int 2]) (b0 := a0) (rest := []) rfl rfl ⟨hk_7, by decide⟩ rfl ⟨Nat.le_of_ble_eq_true rfl, Nat.le_of_ble_eq_true rfl, Nat.le_of_ble_eq_true rfl, Nat.le_of_ble_eq_true rfl⟩ (s_CS_isOpenTo e10) ?_
      show Go k_CS_isBusy 33 [some (.ref a0), some (.int v1), some (.int v2)] [.int r8] h9 _
      refine go_if_eq (t := 40) rfl rfl (fun hx_11 => ?_) (fun hx_11 => ?_)
      · rw [if_pos hx_11] at e
        refine go_iconst (v := 0) rfl (by decide) ?_
        cases e
        exact go_ret rfl (ck_rvb rfl (Or.inl rfl))
      · rw [if_neg hx_11] at e
        refine go_iconst (v := 1) rfl (by decide) ?_
        refine go_goto (t := 41) rfl rfl ?_
        cases e
        exact go_ret rfl (ck_rvb rfl (Or.inr rfl))
    · rw [if_neg hx_6] at e
      refine go_iconst (v := 1) rfl (by decide) ?_
      refine go_goto (t := 41) rfl rfl ?_
      cases e
      exact go_ret rfl (ck_rvb rfl (Or.inr rfl))
  · rw [if_neg hx_1] at e
    refine go_aload_n rfl rfl ?_
    refine go_iload_n rfl rfl ?_
    replace e := ck_as_e e
    obtain ⟨hk_12, e⟩ := e
    replace e := ck_bd_e e
    obtain ⟨r13, h14, e15, e⟩ := e
    refine go_callV (As := [.int v1]) (b0 := a0) (rest := []) rfl rfl ⟨hk_12, by decide⟩ rfl ⟨Nat.le_of_ble_eq_true rfl, Nat.le_of_ble_eq_true rfl, Nat.le_of_ble_eq_true rfl, Nat.le_of_ble_eq_true rfl⟩ (s_CS_openCount e15) ?_
    show Go k_CS_isBusy 9 [some (.ref a0), some (.int v1), some (.int v2)] [.int r13] h14 _
    refine go_if_le (t := 16) rfl rfl (fun hx_16 => ?_) (fun hx_16 => ?_)
    · rw [if_pos hx_16] at e
      refine go_iconst (v := 1) rfl (by decide) ?_
      refine go_goto (t := 17) rfl rfl ?_
      cases e
      exact go_ret rfl (ck_rvb rfl (Or.inr rfl))
    · rw [if_neg hx_16] at e
      refine go_iconst (v := 0) rfl (by decide) ?_
      cases e
      exact go_ret rfl (ck_rvb rfl (Or.inl rfl))
def f_CS_lowestClosed_L2 (F : Nat)  : Nat → Nat → Int32 → ck_H → Option (Int32 × ck_H)
  | 0, _, _, _ => none
  | n + 1, a0, v1, h =>
    if v1 < (4 : Int32) then
      ck_as (gk h a0 = 11) <|
      ck_some (gR h a0 7) fun b3 =>
      ck_as ((16 ≤ gk h b3 ∧ gk h b3 ≤ 20) ∧ ¬ v1 < 0 ∧ (v1 : Int32).toNatClampNeg < gz h b3) <|
      ck_some (gR h b3 (v1 : Int32).toNatClampNeg) fun b6 =>
      ck_as (gk h b6 = 5) <|
      ck_bd (f_Op_isOpen F b6 h) fun r9 h10 =>
      if r9 = (0 : Int32) then
        some (v1, h10)
      else
        f_CS_lowestClosed_L2 F n a0 (v1 + 1) h10
    else
      some ((-1), h)
set_option maxRecDepth 100000 in
set_option maxHeartbeats 4000000 in
theorem f_CS_lowestClosed_L2_s (F : Nat)   : ∀ (n : Nat) (a0 : Nat) (v1 : Int32) (h : ck_H) (r : Int32) (h' : ck_H), f_CS_lowestClosed_L2 F n a0 v1 h = some (r, h') → Go k_CS_lowestClosed 2 [some (.ref a0), some (.int v1)] [] h (some (.int r), h') := by
  intro n
  induction n with
  | zero => intro a0 v1 h r h' e; simp only [f_CS_lowestClosed_L2] at e; cases e
  | succ n ih =>
    intro a0 v1 h r h' e
    rw [f_CS_lowestClosed_L2] at e
    refine go_iload_n rfl rfl ?_
    refine go_iconst (v := 4) rfl (by decide) ?_
    refine go_icmp_ge (t := 27) rfl rfl (fun hx_1 => ?_) (fun hx_1 => ?_)
    · rw [if_pos hx_1] at e
      refine go_aload_n rfl rfl ?_
      replace e := ck_as_e e
      obtain ⟨hk_2, e⟩ := e
      replace e := ck_some_e e
      obtain ⟨b3, hq_4, e⟩ := e
      refine go_get (v := .ref b3) rfl rfl hk_2 (by decide) (by show va_rf (gR h a0 7) = _; rw [hq_4]; rfl) ?_
      refine go_iload_n rfl rfl ?_
      replace e := ck_as_e e
      obtain ⟨hc_5, e⟩ := e
      replace e := ck_some_e e
      obtain ⟨b6, hq_7, e⟩ := e
      refine go_aald (v := .ref b6) rfl hc_5 (by rw [hq_7]; rfl) ?_
      replace e := ck_as_e e
      obtain ⟨hk_8, e⟩ := e
      replace e := ck_bd_e e
      obtain ⟨r9, h10, e11, e⟩ := e
      refine go_callV (As := []) (b0 := b6) (rest := []) rfl rfl ⟨hk_8, by decide⟩ rfl ⟨Nat.le_of_ble_eq_true rfl, Nat.le_of_ble_eq_true rfl, Nat.le_of_ble_eq_true rfl, Nat.le_of_ble_eq_true rfl⟩ (s_Op_isOpen e11) ?_
      show Go k_CS_lowestClosed 16 [some (.ref a0), some (.int v1)] [.int r9] h10 _
      refine go_if_ne (t := 21) rfl rfl (fun hx_12 => ?_) (fun hx_12 => ?_)
      · rw [if_pos hx_12] at e
        refine go_iload_n rfl rfl ?_
        cases e
        exact go_ret rfl rfl
      · rw [if_neg hx_12] at e
        refine go_iinc (v := 1) rfl rfl (by decide) rfl ?_
        show Go k_CS_lowestClosed 24 [some (.ref a0), some (.int (v1 + 1))] [] h10 _
        refine go_goto (t := 2) rfl rfl ?_
        refine go_forget (l := [some (.ref a0), some (.int (v1 + 1))]) ⟨Or.inl rfl, Or.inl rfl, trivial⟩ ?_
        exact ih _ _ _ _ _ e
    · rw [if_neg hx_1] at e
      refine go_iconst (v := (-1)) rfl (by decide) ?_
      cases e
      exact go_ret rfl rfl
def f_CS_lowestClosed (F : Nat) (a0 : Nat) (h : ck_H) : Option (Int32 × ck_H) :=
  f_CS_lowestClosed_L2 F F a0 0 h
set_option maxRecDepth 100000 in
set_option maxHeartbeats 4000000 in
theorem s_CS_lowestClosed {F : Nat} {a0 : Nat} {h h' : ck_H} {r : Int32} (e : f_CS_lowestClosed F a0 h = some (r, h')) : Go k_CS_lowestClosed 0 (ck_in [.ref a0] 2) [] h (some (.int r), h') := by
  unfold f_CS_lowestClosed at e
  show Go k_CS_lowestClosed 0 [some (.ref a0), none] [] h _
  refine go_iconst (v := 0) rfl (by decide) ?_
  refine go_istore_n rfl rfl ?_
  show Go k_CS_lowestClosed 2 [some (.ref a0), some (.int 0)] [] h _
  refine go_forget (l := [some (.ref a0), some (.int 0)]) ⟨Or.inl rfl, Or.inl rfl, trivial⟩ ?_
  exact f_CS_lowestClosed_L2_s F F _ _ _ _ _ e
def f_DS_numberOf_L4 (F : Nat)  : Nat → Nat → Int32 → Int32 → Int32 → ck_H → Option (Int32 × ck_H)
  | 0, _, _, _, _, _ => none
  | n + 1, a0, v1, v2, v3, h =>
    if v1 < (0 : Int32) then
      some ((-1), h)
    else
      ck_as (gk h a0 = 2) <|
      if v3 < (gI h a0 9) then
        if v3 < (4 : Int32) then
          ck_some (gR h a0 3) fun b5 =>
          ck_as ((gk h b5 = 14 ∨ gk h b5 = 21) ∧ ¬ v3 < 0 ∧ (v3 : Int32).toNatClampNeg < gz h b5) <|
          if v2 < (gI h b5 (v3 : Int32).toNatClampNeg) then
            ck_some (gR h a0 2) fun b9 =>
            ck_as ((gk h b9 = 14 ∨ gk h b9 = 21) ∧ ¬ v3 < 0 ∧ (v3 : Int32).toNatClampNeg < gz h b9) <|
            some ((gI h b9 (v3 : Int32).toNatClampNeg) + v2, h)
          else
            ck_some (gR h a0 3) fun b12 =>
            ck_as ((gk h b12 = 14 ∨ gk h b12 = 21) ∧ ¬ v3 < 0 ∧ (v3 : Int32).toNatClampNeg < gz h b12) <|
            ck_then (v2 - (gI h b12 (v3 : Int32).toNatClampNeg)) fun x15 =>
            f_DS_numberOf_L4 F n a0 v1 x15 (v3 + 1) h
        else
          some ((-1), h)
      else
        some ((-1), h)
set_option maxRecDepth 100000 in
set_option maxHeartbeats 4000000 in
theorem f_DS_numberOf_L4_s (F : Nat)   : ∀ (n : Nat) (a0 : Nat) (v1 : Int32) (v2 : Int32) (v3 : Int32) (h : ck_H) (r : Int32) (h' : ck_H), f_DS_numberOf_L4 F n a0 v1 v2 v3 h = some (r, h') → Go k_DS_numberOf 4 [some (.ref a0), some (.int v1), some (.int v2), some (.int v3)] [] h (some (.int r), h') := by
  intro n
  induction n with
  | zero => intro a0 v1 v2 v3 h r h' e; simp only [f_DS_numberOf_L4] at e; cases e
  | succ n ih =>
    intro a0 v1 v2 v3 h r h' e
    rw [f_DS_numberOf_L4] at e
    refine go_iload_n rfl rfl ?_
    refine go_if_lt (t := 55) rfl rfl (fun hx_1 => ?_) (fun hx_1 => ?_)
    · rw [if_pos hx_1] at e
      refine go_iconst (v := (-1)) rfl (by decide) ?_
      cases e
      exact go_ret rfl rfl
    · rw [if_neg hx_1] at e
      refine go_iload_n rfl rfl ?_
      refine go_aload_n rfl rfl ?_
      replace e := ck_as_e e
      obtain ⟨hk_2, e⟩ := e
      refine go_get (v := .int (gI h a0 9)) rfl rfl hk_2 (by decide) rfl ?_
      refine go_icmp_ge (t := 55) rfl rfl (fun hx_3 => ?_) (fun hx_3 => ?_)
      · rw [if_pos hx_3] at e
        refine go_iload_n rfl rfl ?_
        refine go_iconst (v := 4) rfl (by decide) ?_
        refine go_icmp_ge (t := 55) rfl rfl (fun hx_4 => ?_) (fun hx_4 => ?_)
        · rw [if_pos hx_4] at e
          refine go_iload_n rfl rfl ?_
          refine go_aload_n rfl rfl ?_
          replace e := ck_some_e e
          obtain ⟨b5, hq_6, e⟩ := e
          refine go_get (v := .ref b5) rfl rfl hk_2 (by decide) (by show va_rf (gR h a0 3) = _; rw [hq_6]; rfl) ?_
          refine go_iload_n rfl rfl ?_
          replace e := ck_as_e e
          obtain ⟨hc_7, e⟩ := e
          refine go_iald rfl hc_7 ?_
          refine go_icmp_ge (t := 40) rfl rfl (fun hx_8 => ?_) (fun hx_8 => ?_)
          · rw [if_pos hx_8] at e
            refine go_aload_n rfl rfl ?_
            replace e := ck_some_e e
            obtain ⟨b9, hq_10, e⟩ := e
            refine go_get (v := .ref b9) rfl rfl hk_2 (by decide) (by show va_rf (gR h a0 2) = _; rw [hq_10]; rfl) ?_
            refine go_iload_n rfl rfl ?_
            replace e := ck_as_e e
            obtain ⟨hc_11, e⟩ := e
            refine go_iald rfl hc_11 ?_
            refine go_iload_n rfl rfl ?_
            refine go_iadd rfl ?_
            cases e
            exact go_ret rfl rfl
          · rw [if_neg hx_8] at e
            refine go_iload_n rfl rfl ?_
            refine go_aload_n rfl rfl ?_
            replace e := ck_some_e e
            obtain ⟨b12, hq_13, e⟩ := e
            refine go_get (v := .ref b12) rfl rfl hk_2 (by decide) (by show va_rf (gR h a0 3) = _; rw [hq_13]; rfl) ?_
            refine go_iload_n rfl rfl ?_
            replace e := ck_as_e e
            obtain ⟨hc_14, e⟩ := e
            refine go_iald rfl hc_14 ?_
            refine go_isub rfl ?_
            generalize v2 - (gI h b12 (v3 : Int32).toNatClampNeg) = x15 at e ⊢
            replace e := ck_then_e e
            refine go_istore_n rfl rfl ?_
            show Go k_DS_numberOf 49 [some (.ref a0), some (.int v1), some (.int x15), some (.int v3)] [] h _
            refine go_iinc (v := 1) rfl rfl (by decide) rfl ?_
            show Go k_DS_numberOf 52 [some (.ref a0), some (.int v1), some (.int x15), some (.int (v3 + 1))] [] h _
            refine go_goto (t := 4) rfl rfl ?_
            refine go_forget (l := [some (.ref a0), some (.int v1), some (.int x15), some (.int (v3 + 1))]) ⟨Or.inl rfl, Or.inl rfl, Or.inl rfl, Or.inl rfl, trivial⟩ ?_
            exact ih _ _ _ _ _ _ _ e
        · rw [if_neg hx_4] at e
          refine go_iconst (v := (-1)) rfl (by decide) ?_
          cases e
          exact go_ret rfl rfl
      · rw [if_neg hx_3] at e
        refine go_iconst (v := (-1)) rfl (by decide) ?_
        cases e
        exact go_ret rfl rfl
def f_DS_numberOf (F : Nat) (a0 : Nat) (v1 : Int32) (h : ck_H) : Option (Int32 × ck_H) :=
  f_DS_numberOf_L4 F F a0 v1 v1 0 h
set_option maxRecDepth 100000 in
set_option maxHeartbeats 4000000 in
theorem s_DS_numberOf {F : Nat} {a0 : Nat} {v1 : Int32} {h h' : ck_H} {r : Int32} (e : f_DS_numberOf F a0 v1 h = some (r, h')) : Go k_DS_numberOf 0 (ck_in [.ref a0, .int v1] 4) [] h (some (.int r), h') := by
  unfold f_DS_numberOf at e
  show Go k_DS_numberOf 0 [some (.ref a0), some (.int v1), none, none] [] h _
  refine go_iload_n rfl rfl ?_
  refine go_istore_n rfl rfl ?_
  show Go k_DS_numberOf 2 [some (.ref a0), some (.int v1), some (.int v1), none] [] h _
  refine go_iconst (v := 0) rfl (by decide) ?_
  refine go_istore_n rfl rfl ?_
  show Go k_DS_numberOf 4 [some (.ref a0), some (.int v1), some (.int v1), some (.int 0)] [] h _
  refine go_forget (l := [some (.ref a0), some (.int v1), some (.int v1), some (.int 0)]) ⟨Or.inl rfl, Or.inl rfl, Or.inl rfl, Or.inl rfl, trivial⟩ ?_
  exact f_DS_numberOf_L4_s F F _ _ _ _ _ _ _ e
def f_DS_trackAt (F : Nat) (a0 : Nat) (v1 : Int32) (h : ck_H) : Option (Option Nat × ck_H) :=
  ck_as (gk h a0 = 2) <|
  ck_some (gR h a0 0) fun b2 =>
  ck_bd (f_DS_numberOf F a0 v1 h) fun r4 h5 =>
  ck_as (gk h5 b2 = 9) <|
  ck_bd (f_Un_trackAt F b2 r4 h5) fun r8 h9 =>
  ck_opt r8 (
    some (none, h9)
  ) fun b12 =>
  some (some b12, h9)
set_option maxRecDepth 100000 in
set_option maxHeartbeats 4000000 in
theorem s_DS_trackAt {F : Nat} {a0 : Nat} {v1 : Int32} {h h' : ck_H} {r : Option Nat} (e : f_DS_trackAt F a0 v1 h = some (r, h')) : Go k_DS_trackAt 0 (ck_in [.ref a0, .int v1] 2) [] h (some (va_rf r), h') := by
  unfold f_DS_trackAt at e
  show Go k_DS_trackAt 0 [some (.ref a0), some (.int v1)] [] h _
  refine go_aload_n rfl rfl ?_
  replace e := ck_as_e e
  obtain ⟨hk_1, e⟩ := e
  replace e := ck_some_e e
  obtain ⟨b2, hq_3, e⟩ := e
  refine go_get (v := .ref b2) rfl rfl hk_1 (by decide) (by show va_rf (gR h a0 0) = _; rw [hq_3]; rfl) ?_
  refine go_aload_n rfl rfl ?_
  refine go_iload_n rfl rfl ?_
  replace e := ck_bd_e e
  obtain ⟨r4, h5, e6, e⟩ := e
  refine go_callV (As := [.int v1]) (b0 := a0) (rest := [.ref b2]) rfl rfl ⟨hk_1, by decide⟩ rfl ⟨Nat.le_of_ble_eq_true rfl, Nat.le_of_ble_eq_true rfl, Nat.le_of_ble_eq_true rfl, Nat.le_of_ble_eq_true rfl⟩ (s_DS_numberOf e6) ?_
  show Go k_DS_trackAt 9 [some (.ref a0), some (.int v1)] [.int r4, .ref b2] h5 _
  replace e := ck_as_e e
  obtain ⟨hk_7, e⟩ := e
  replace e := ck_bd_e e
  obtain ⟨r8, h9, e10, e⟩ := e
  refine go_callV (As := [.int r4]) (b0 := b2) (rest := []) rfl rfl ⟨hk_7, by decide⟩ rfl ⟨Nat.le_of_ble_eq_true rfl, Nat.le_of_ble_eq_true rfl, Nat.le_of_ble_eq_true rfl, Nat.le_of_ble_eq_true rfl⟩ (s_Un_trackAt e10) ?_
  replace e := ck_opt_e e
  rcases e with ⟨hq_11, e⟩ | ⟨b12, hq_11, e⟩
  · subst hq_11
    show Go k_DS_trackAt 12 [some (.ref a0), some (.int v1)] [.null] h9 _
    cases e
    exact go_ret rfl rfl
  subst hq_11
  show Go k_DS_trackAt 12 [some (.ref a0), some (.int v1)] [.ref b12] h9 _
  cases e
  exact go_ret rfl rfl
def f_DS_empty_L7 (F : Nat)  : Nat → Nat → Int32 → Int32 → ck_H → Option (Unit × ck_H)
  | 0, _, _, _, _ => none
  | n + 1, a0, v1, v2, h =>
    if v2 < v1 then
      ck_as (gk h a0 = 2) <|
      ck_bd (f_DS_trackAt F a0 v2 h) fun r3 h4 =>
      ck_opt r3 (
        f_DS_empty_L7 F n a0 v1 (v2 + 1) h4
      ) fun b7 =>
      ck_as (gk h4 b7 = 8) <|
      ck_bd (f_Tr_keepFirst F b7 0 h4) fun _ h10 =>
      f_DS_empty_L7 F n a0 v1 (v2 + 1) h10
    else
      some ((), h)
set_option maxRecDepth 100000 in
set_option maxHeartbeats 4000000 in
theorem f_DS_empty_L7_s (F : Nat)   : ∀ (n : Nat) (a0 : Nat) (v1 : Int32) (v2 : Int32) (h : ck_H) (r : Unit) (h' : ck_H), f_DS_empty_L7 F n a0 v1 v2 h = some (r, h') → Go k_DS_empty 7 [some (.ref a0), some (.int v1), some (.int v2), none] [] h (none, h') := by
  intro n
  induction n with
  | zero => intro a0 v1 v2 h r h' e; simp only [f_DS_empty_L7] at e; cases e
  | succ n ih =>
    intro a0 v1 v2 h r h' e
    rw [f_DS_empty_L7] at e
    refine go_iload_n rfl rfl ?_
    refine go_iload_n rfl rfl ?_
    refine go_icmp_ge (t := 33) rfl rfl (fun hx_1 => ?_) (fun hx_1 => ?_)
    · rw [if_pos hx_1] at e
      refine go_aload_n rfl rfl ?_
      refine go_iload_n rfl rfl ?_
      replace e := ck_as_e e
      obtain ⟨hk_2, e⟩ := e
      replace e := ck_bd_e e
      obtain ⟨r3, h4, e5, e⟩ := e
      refine go_callV (As := [.int v2]) (b0 := a0) (rest := []) rfl rfl ⟨hk_2, by decide⟩ rfl ⟨Nat.le_of_ble_eq_true rfl, Nat.le_of_ble_eq_true rfl, Nat.le_of_ble_eq_true rfl, Nat.le_of_ble_eq_true rfl⟩ (s_DS_trackAt e5) ?_
      replace e := ck_opt_e e
      rcases e with ⟨hq_6, e⟩ | ⟨b7, hq_6, e⟩
      · subst hq_6
        show Go k_DS_empty 17 [some (.ref a0), some (.int v1), some (.int v2), none] [.null] h4 _
        refine go_astore_nN rfl rfl ?_
        show Go k_DS_empty 18 [some (.ref a0), some (.int v1), some (.int v2), some .null] [] h4 _
        refine go_aload_nN rfl rfl ?_
        refine go_ifnullN (t := 27) rfl rfl ?_
        refine go_iinc (v := 1) rfl rfl (by decide) rfl ?_
        show Go k_DS_empty 30 [some (.ref a0), some (.int v1), some (.int (v2 + 1)), some .null] [] h4 _
        refine go_goto (t := 7) rfl rfl ?_
        refine go_forget (l := [some (.ref a0), some (.int v1), some (.int (v2 + 1)), none]) ⟨Or.inl rfl, Or.inl rfl, Or.inl rfl, Or.inr ⟨rfl, fun _ q => by cases q; rfl⟩, trivial⟩ ?_
        exact ih _ _ _ _ _ _ e
      subst hq_6
      show Go k_DS_empty 17 [some (.ref a0), some (.int v1), some (.int v2), none] [.ref b7] h4 _
      refine go_astore_n rfl rfl ?_
      show Go k_DS_empty 18 [some (.ref a0), some (.int v1), some (.int v2), some (.ref b7)] [] h4 _
      refine go_aload_n rfl rfl ?_
      refine go_ifnull rfl ?_
      refine go_aload_n rfl rfl ?_
      refine go_iconst (v := 0) rfl (by decide) ?_
      replace e := ck_as_e e
      obtain ⟨hk_8, e⟩ := e
      replace e := ck_bd_e e
      obtain ⟨r9, h10, e11, e⟩ := e
      refine go_callV (As := [.int 0]) (b0 := b7) (rest := []) rfl rfl ⟨hk_8, by decide⟩ rfl ⟨Nat.le_of_ble_eq_true rfl, Nat.le_of_ble_eq_true rfl, Nat.le_of_ble_eq_true rfl, Nat.le_of_ble_eq_true rfl⟩ (s_Tr_keepFirst e11) ?_
      show Go k_DS_empty 27 [some (.ref a0), some (.int v1), some (.int v2), some (.ref b7)] [] h10 _
      refine go_iinc (v := 1) rfl rfl (by decide) rfl ?_
      show Go k_DS_empty 30 [some (.ref a0), some (.int v1), some (.int (v2 + 1)), some (.ref b7)] [] h10 _
      refine go_goto (t := 7) rfl rfl ?_
      refine go_forget (l := [some (.ref a0), some (.int v1), some (.int (v2 + 1)), none]) ⟨Or.inl rfl, Or.inl rfl, Or.inl rfl, Or.inr ⟨rfl, fun _ q => by cases q; rfl⟩, trivial⟩ ?_
      exact ih _ _ _ _ _ _ e
    · rw [if_neg hx_1] at e
      cases e
      exact go_ret rfl rfl
def f_DS_empty (F : Nat) (a0 : Nat) (h : ck_H) : Option (Unit × ck_H) :=
  ck_as (gk h a0 = 2) <|
  ck_bd (f_DS_tracks F a0 h) fun r2 h3 =>
  f_DS_empty_L7 F F a0 r2 0 h3
set_option maxRecDepth 100000 in
set_option maxHeartbeats 4000000 in
theorem s_DS_empty {F : Nat} {a0 : Nat} {h h' : ck_H} {r : Unit} (e : f_DS_empty F a0 h = some (r, h')) : Go k_DS_empty 0 (ck_in [.ref a0] 4) [] h (none, h') := by
  unfold f_DS_empty at e
  show Go k_DS_empty 0 [some (.ref a0), none, none, none] [] h _
  refine go_aload_n rfl rfl ?_
  replace e := ck_as_e e
  obtain ⟨hk_1, e⟩ := e
  replace e := ck_bd_e e
  obtain ⟨r2, h3, e4, e⟩ := e
  refine go_callV (As := []) (b0 := a0) (rest := []) rfl rfl ⟨hk_1, by decide⟩ rfl ⟨Nat.le_of_ble_eq_true rfl, Nat.le_of_ble_eq_true rfl, Nat.le_of_ble_eq_true rfl, Nat.le_of_ble_eq_true rfl⟩ (s_DS_tracks e4) ?_
  show Go k_DS_empty 4 [some (.ref a0), none, none, none] [.int r2] h3 _
  refine go_istore_n rfl rfl ?_
  show Go k_DS_empty 5 [some (.ref a0), some (.int r2), none, none] [] h3 _
  refine go_iconst (v := 0) rfl (by decide) ?_
  refine go_istore_n rfl rfl ?_
  show Go k_DS_empty 7 [some (.ref a0), some (.int r2), some (.int 0), none] [] h3 _
  refine go_forget (l := [some (.ref a0), some (.int r2), some (.int 0), none]) ⟨Or.inl rfl, Or.inl rfl, Or.inl rfl, Or.inl rfl, trivial⟩ ?_
  exact f_DS_empty_L7_s F F _ _ _ _ _ _ e
def f_DS_firstBlockTrack (F : Nat) (a0 : Nat) (h : ck_H) : Option (Int32 × ck_H) :=
  ck_as (gk h a0 = 2) <|
  if (gI h a0 6) = (4 : Int32) then
    some (1, h)
  else
    some (0, h)
set_option maxRecDepth 100000 in
set_option maxHeartbeats 4000000 in
theorem s_DS_firstBlockTrack {F : Nat} {a0 : Nat} {h h' : ck_H} {r : Int32} (e : f_DS_firstBlockTrack F a0 h = some (r, h')) : Go k_DS_firstBlockTrack 0 (ck_in [.ref a0] 1) [] h (some (.int r), h') := by
  unfold f_DS_firstBlockTrack at e
  show Go k_DS_firstBlockTrack 0 [some (.ref a0)] [] h _
  refine go_aload_n rfl rfl ?_
  replace e := ck_as_e e
  obtain ⟨hk_1, e⟩ := e
  refine go_get (v := .int (gI h a0 6)) rfl rfl hk_1 (by decide) rfl ?_
  refine go_iconst (v := 4) rfl (by decide) ?_
  refine go_icmp_ne (t := 12) rfl rfl (fun hx_2 => ?_) (fun hx_2 => ?_)
  · rw [if_pos hx_2] at e
    refine go_iconst (v := 1) rfl (by decide) ?_
    refine go_goto (t := 13) rfl rfl ?_
    cases e
    exact go_ret rfl rfl
  · rw [if_neg hx_2] at e
    refine go_iconst (v := 0) rfl (by decide) ?_
    cases e
    exact go_ret rfl rfl
def f_Sp_set (F : Nat) (a0 : Nat) (v1 : Int32) (v2 : Int32) (v3 : Int32) (h : ck_H) : Option (Unit × ck_H) :=
  ck_as (gk h a0 = 7) <|
  ck_then (wI h a0 0 v1) fun h2 =>
  ck_then (wI h2 a0 1 v2) fun h4 =>
  ck_then (wI h4 a0 2 0) fun h6 =>
  ck_then (wI h6 a0 3 v3) fun h8 =>
  some ((), h8)
set_option maxRecDepth 100000 in
set_option maxHeartbeats 4000000 in
theorem s_Sp_set {F : Nat} {a0 : Nat} {v1 : Int32} {v2 : Int32} {v3 : Int32} {h h' : ck_H} {r : Unit} (e : f_Sp_set F a0 v1 v2 v3 h = some (r, h')) : Go k_Sp_set 0 (ck_in [.ref a0, .int v1, .int v2, .int v3] 4) [] h (none, h') := by
  unfold f_Sp_set at e
  show Go k_Sp_set 0 [some (.ref a0), some (.int v1), some (.int v2), some (.int v3)] [] h _
  refine go_aload_n rfl rfl ?_
  refine go_iload_n rfl rfl ?_
  replace e := ck_as_e e
  obtain ⟨hk_1, e⟩ := e
  refine go_put (h1 := wI h a0 0 v1) rfl rfl hk_1 ⟨by decide, by decide, Or.inl rfl⟩ rfl ?_
  have hk_3 : gk (wI h a0 0 v1) a0 = 7 := ck_kI.trans hk_1
  generalize wI h a0 0 v1 = h2 at e hk_3 ⊢
  replace e := ck_then_e e
  refine go_aload_n rfl rfl ?_
  refine go_iload_n rfl rfl ?_
  refine go_put (h1 := wI h2 a0 1 v2) rfl rfl hk_3 ⟨by decide, by decide, Or.inl rfl⟩ rfl ?_
  have hk_5 : gk (wI h2 a0 1 v2) a0 = 7 := ck_kI.trans hk_3
  generalize wI h2 a0 1 v2 = h4 at e hk_5 ⊢
  replace e := ck_then_e e
  refine go_aload_n rfl rfl ?_
  refine go_iconst (v := 0) rfl (by decide) ?_
  refine go_put (h1 := wI h4 a0 2 0) rfl rfl hk_5 ⟨by decide, by decide, Or.inl rfl⟩ rfl ?_
  have hk_7 : gk (wI h4 a0 2 0) a0 = 7 := ck_kI.trans hk_5
  generalize wI h4 a0 2 0 = h6 at e hk_7 ⊢
  replace e := ck_then_e e
  refine go_aload_n rfl rfl ?_
  refine go_iload_n rfl rfl ?_
  refine go_put (h1 := wI h6 a0 3 v3) rfl rfl hk_7 ⟨by decide, by decide, Or.inl rfl⟩ rfl ?_
  have hk_9 : gk (wI h6 a0 3 v3) a0 = 7 := ck_kI.trans hk_7
  generalize wI h6 a0 3 v3 = h8 at e hk_9 ⊢
  replace e := ck_then_e e
  cases e
  exact go_ret rfl rfl
def f_Mk_beginMember (F : Nat) (a0 : Nat) (h : ck_H) : Option (Unit × ck_H) :=
  ck_as (gk h a0 = 3) <|
  ck_then (wI h a0 1 0) fun h2 =>
  ck_then (wI h2 a0 2 0) fun h4 =>
  ck_then (wI h4 a0 3 0) fun h6 =>
  some ((), h6)
set_option maxRecDepth 100000 in
set_option maxHeartbeats 4000000 in
theorem s_Mk_beginMember {F : Nat} {a0 : Nat} {h h' : ck_H} {r : Unit} (e : f_Mk_beginMember F a0 h = some (r, h')) : Go k_Mk_beginMember 0 (ck_in [.ref a0] 1) [] h (none, h') := by
  unfold f_Mk_beginMember at e
  show Go k_Mk_beginMember 0 [some (.ref a0)] [] h _
  refine go_aload_n rfl rfl ?_
  refine go_iconst (v := 0) rfl (by decide) ?_
  replace e := ck_as_e e
  obtain ⟨hk_1, e⟩ := e
  refine go_put (h1 := wI h a0 1 0) rfl rfl hk_1 ⟨by decide, by decide, Or.inl rfl⟩ rfl ?_
  have hk_3 : gk (wI h a0 1 0) a0 = 3 := ck_kI.trans hk_1
  generalize wI h a0 1 0 = h2 at e hk_3 ⊢
  replace e := ck_then_e e
  refine go_aload_n rfl rfl ?_
  refine go_iconst (v := 0) rfl (by decide) ?_
  refine go_put (h1 := wI h2 a0 2 0) rfl rfl hk_3 ⟨by decide, by decide, Or.inl rfl⟩ rfl ?_
  have hk_5 : gk (wI h2 a0 2 0) a0 = 3 := ck_kI.trans hk_3
  generalize wI h2 a0 2 0 = h4 at e hk_5 ⊢
  replace e := ck_then_e e
  refine go_aload_n rfl rfl ?_
  refine go_iconst (v := 0) rfl (by decide) ?_
  refine go_put (h1 := wI h4 a0 3 0) rfl rfl hk_5 ⟨by decide, by decide, Or.inl rfl⟩ rfl ?_
  have hk_7 : gk (wI h4 a0 3 0) a0 = 3 := ck_kI.trans hk_5
  generalize wI h4 a0 3 0 = h6 at e hk_7 ⊢
  replace e := ck_then_e e
  cases e
  exact go_ret rfl rfl
def f_Mk_begin (F : Nat) (a0 : Nat) (h : ck_H) : Option (Unit × ck_H) :=
  ck_as (gk h a0 = 3) <|
  ck_some (gR h a0 0) fun b2 =>
  ck_as (gk h b2 = 6) <|
  ck_then (wI h b2 1 0) fun h5 =>
  ck_bd (f_Mk_beginMember F a0 h5) fun _ h9 =>
  some ((), h9)
set_option maxRecDepth 100000 in
set_option maxHeartbeats 4000000 in
theorem s_Mk_begin {F : Nat} {a0 : Nat} {h h' : ck_H} {r : Unit} (e : f_Mk_begin F a0 h = some (r, h')) : Go k_Mk_begin 0 (ck_in [.ref a0] 1) [] h (none, h') := by
  unfold f_Mk_begin at e
  show Go k_Mk_begin 0 [some (.ref a0)] [] h _
  refine go_aload_n rfl rfl ?_
  replace e := ck_as_e e
  obtain ⟨hk_1, e⟩ := e
  replace e := ck_some_e e
  obtain ⟨b2, hq_3, e⟩ := e
  refine go_get (v := .ref b2) rfl rfl hk_1 (by decide) (by show va_rf (gR h a0 0) = _; rw [hq_3]; rfl) ?_
  refine go_iconst (v := 0) rfl (by decide) ?_
  replace e := ck_as_e e
  obtain ⟨hk_4, e⟩ := e
  refine go_put (h1 := wI h b2 1 0) rfl rfl hk_4 ⟨by decide, by decide, Or.inl rfl⟩ rfl ?_
  have hk_6 : gk (wI h b2 1 0) a0 = 3 := ck_kI.trans hk_1
  have hk_7 : gk (wI h b2 1 0) b2 = 6 := ck_kI.trans hk_4
  generalize wI h b2 1 0 = h5 at e hk_6 hk_7 ⊢
  replace e := ck_then_e e
  refine go_aload_n rfl rfl ?_
  replace e := ck_bd_e e
  obtain ⟨r8, h9, e10, e⟩ := e
  refine go_callV (As := []) (b0 := a0) (rest := []) rfl rfl ⟨hk_6, by decide⟩ rfl ⟨Nat.le_of_ble_eq_true rfl, Nat.le_of_ble_eq_true rfl, Nat.le_of_ble_eq_true rfl, Nat.le_of_ble_eq_true rfl⟩ (s_Mk_beginMember e10) ?_
  show Go k_Mk_begin 12 [some (.ref a0)] [] h9 _
  cases e
  exact go_ret rfl rfl
def f_Op_begin_J39 (F : Nat)  (a0 : Nat) (a1 : Nat) (s0 : Int32) (s1 : Nat) (h : ck_H) : Option (Unit × ck_H) :=
  ck_as (gk h s1 = 5) <|
  ck_as (s0 = 0 ∨ s0 = 1) <|
  ck_then (wI h s1 6 s0) fun h3 =>
  ck_as (gk h3 a0 = 5) <|
  ck_some (gR h3 a0 1) fun b6 =>
  ck_as (gk h3 a1 = 2) <|
  ck_bd (f_DS_firstBlockTrack F a1 h3) fun r9 h10 =>
  ck_as (gk h10 b6 = 7) <|
  ck_bd (f_Sp_set F b6 r9 0 1000000 h10) fun _ h14 =>
  ck_as (gk h14 a0 = 5) <|
  ck_some (gR h14 a0 0) fun b17 =>
  ck_as (gk h14 b17 = 3) <|
  ck_bd (f_Mk_begin F b17 h14) fun _ h21 =>
  some ((), h21)
set_option maxRecDepth 100000 in
set_option maxHeartbeats 4000000 in
theorem f_Op_begin_J39_s (F : Nat)   (a0 : Nat) (a1 : Nat) (s0 : Int32) (s1 : Nat) (h : ck_H) (r : Unit) (h' : ck_H) (e : f_Op_begin_J39 F  a0 a1 s0 s1 h = some (r, h')) : Go k_Op_begin 39 [some (.ref a0), some (.ref a1), none, none] [.int s0, .ref s1] h (none, h') := by
  unfold f_Op_begin_J39 at e
  replace e := ck_as_e e
  obtain ⟨hk_1, e⟩ := e
  replace e := ck_as_e e
  obtain ⟨hc_2, e⟩ := e
  refine go_put (h1 := wI h s1 6 s0) rfl rfl hk_1 ⟨by decide, by decide, Or.inl rfl⟩ (ck_putb rfl hc_2) ?_
  have hk_4 : gk (wI h s1 6 s0) s1 = 5 := ck_kI.trans hk_1
  generalize wI h s1 6 s0 = h3 at e hk_4 ⊢
  replace e := ck_then_e e
  refine go_aload_n rfl rfl ?_
  replace e := ck_as_e e
  obtain ⟨hk_5, e⟩ := e
  replace e := ck_some_e e
  obtain ⟨b6, hq_7, e⟩ := e
  refine go_get (v := .ref b6) rfl rfl hk_5 (by decide) (by show va_rf (gR h3 a0 1) = _; rw [hq_7]; rfl) ?_
  refine go_aload_n rfl rfl ?_
  replace e := ck_as_e e
  obtain ⟨hk_8, e⟩ := e
  replace e := ck_bd_e e
  obtain ⟨r9, h10, e11, e⟩ := e
  refine go_callV (As := []) (b0 := a1) (rest := [.ref b6]) rfl rfl ⟨hk_8, by decide⟩ rfl ⟨Nat.le_of_ble_eq_true rfl, Nat.le_of_ble_eq_true rfl, Nat.le_of_ble_eq_true rfl, Nat.le_of_ble_eq_true rfl⟩ (s_DS_firstBlockTrack e11) ?_
  show Go k_Op_begin 50 [some (.ref a0), some (.ref a1), none, none] [.int r9, .ref b6] h10 _
  refine go_iconst (v := 0) rfl (by decide) ?_
  refine go_ldc (v := 1000000) rfl rfl ?_
  replace e := ck_as_e e
  obtain ⟨hk_12, e⟩ := e
  replace e := ck_bd_e e
  obtain ⟨r13, h14, e15, e⟩ := e
  refine go_callV (As := [.int r9, .int 0, .int 1000000]) (b0 := b6) (rest := []) rfl rfl ⟨hk_12, by decide⟩ rfl ⟨Nat.le_of_ble_eq_true rfl, Nat.le_of_ble_eq_true rfl, Nat.le_of_ble_eq_true rfl, Nat.le_of_ble_eq_true rfl⟩ (s_Sp_set e15) ?_
  show Go k_Op_begin 56 [some (.ref a0), some (.ref a1), none, none] [] h14 _
  refine go_aload_n rfl rfl ?_
  replace e := ck_as_e e
  obtain ⟨hk_16, e⟩ := e
  replace e := ck_some_e e
  obtain ⟨b17, hq_18, e⟩ := e
  refine go_get (v := .ref b17) rfl rfl hk_16 (by decide) (by show va_rf (gR h14 a0 0) = _; rw [hq_18]; rfl) ?_
  replace e := ck_as_e e
  obtain ⟨hk_19, e⟩ := e
  replace e := ck_bd_e e
  obtain ⟨r20, h21, e22, e⟩ := e
  refine go_callV (As := []) (b0 := b17) (rest := []) rfl rfl ⟨hk_19, by decide⟩ rfl ⟨Nat.le_of_ble_eq_true rfl, Nat.le_of_ble_eq_true rfl, Nat.le_of_ble_eq_true rfl, Nat.le_of_ble_eq_true rfl⟩ (s_Mk_begin e22) ?_
  show Go k_Op_begin 63 [some (.ref a0), some (.ref a1), none, none] [] h21 _
  cases e
  exact go_ret rfl rfl
def f_Op_begin (F : Nat) (a0 : Nat) (a1 : Nat) (v2 : Int32) (v3 : Int32) (h : ck_H) : Option (Unit × ck_H) :=
  ck_as (gk h a0 = 5) <|
  ck_then (wR h a0 4 (some a1)) fun h2 =>
  ck_then (wI h2 a0 7 v2) fun h4 =>
  ck_then (wI h4 a0 8 v3) fun h6 =>
  ck_then (wI h6 a0 9 0) fun h8 =>
  ck_then (wI h8 a0 5 (-1)) fun h10 =>
  ck_as (gk h10 a1 = 2) <|
  if (gI h10 a1 6) = (4 : Int32) then
    f_Op_begin_J39 F a0 a1 0 a0 h10
  else
    f_Op_begin_J39 F a0 a1 1 a0 h10
set_option maxRecDepth 100000 in
set_option maxHeartbeats 4000000 in
theorem s_Op_begin {F : Nat} {a0 : Nat} {a1 : Nat} {v2 : Int32} {v3 : Int32} {h h' : ck_H} {r : Unit} (e : f_Op_begin F a0 a1 v2 v3 h = some (r, h')) : Go k_Op_begin 0 (ck_in [.ref a0, .ref a1, .int v2, .int v3] 4) [] h (none, h') := by
  unfold f_Op_begin at e
  show Go k_Op_begin 0 [some (.ref a0), some (.ref a1), some (.int v2), some (.int v3)] [] h _
  refine go_aload_n rfl rfl ?_
  refine go_aload_n rfl rfl ?_
  replace e := ck_as_e e
  obtain ⟨hk_1, e⟩ := e
  refine go_put (h1 := wR h a0 4 (some a1)) rfl rfl hk_1 ⟨by decide, by decide, Or.inl rfl⟩ rfl ?_
  have hk_3 : gk (wR h a0 4 (some a1)) a0 = 5 := ck_kR.trans hk_1
  generalize wR h a0 4 (some a1) = h2 at e hk_3 ⊢
  replace e := ck_then_e e
  refine go_aload_n rfl rfl ?_
  refine go_iload_n rfl rfl ?_
  refine go_put (h1 := wI h2 a0 7 v2) rfl rfl hk_3 ⟨by decide, by decide, Or.inl rfl⟩ rfl ?_
  have hk_5 : gk (wI h2 a0 7 v2) a0 = 5 := ck_kI.trans hk_3
  generalize wI h2 a0 7 v2 = h4 at e hk_5 ⊢
  replace e := ck_then_e e
  refine go_aload_n rfl rfl ?_
  refine go_iload_n rfl rfl ?_
  refine go_put (h1 := wI h4 a0 8 v3) rfl rfl hk_5 ⟨by decide, by decide, Or.inl rfl⟩ rfl ?_
  have hk_7 : gk (wI h4 a0 8 v3) a0 = 5 := ck_kI.trans hk_5
  generalize wI h4 a0 8 v3 = h6 at e hk_7 ⊢
  replace e := ck_then_e e
  refine go_aload_n rfl rfl ?_
  refine go_iconst (v := 0) rfl (by decide) ?_
  refine go_put (h1 := wI h6 a0 9 0) rfl rfl hk_7 ⟨by decide, by decide, Or.inl rfl⟩ rfl ?_
  have hk_9 : gk (wI h6 a0 9 0) a0 = 5 := ck_kI.trans hk_7
  generalize wI h6 a0 9 0 = h8 at e hk_9 ⊢
  replace e := ck_then_e e
  refine go_aload_n rfl rfl ?_
  refine go_iconst (v := (-1)) rfl (by decide) ?_
  refine go_put (h1 := wI h8 a0 5 (-1)) rfl rfl hk_9 ⟨by decide, by decide, Or.inl rfl⟩ rfl ?_
  have hk_11 : gk (wI h8 a0 5 (-1)) a0 = 5 := ck_kI.trans hk_9
  generalize wI h8 a0 5 (-1) = h10 at e hk_11 ⊢
  replace e := ck_then_e e
  refine go_aload_n rfl rfl ?_
  refine go_aload_n rfl rfl ?_
  replace e := ck_as_e e
  obtain ⟨hk_12, e⟩ := e
  refine go_get (v := .int (gI h10 a1 6)) rfl rfl hk_12 (by decide) rfl ?_
  refine go_iconst (v := 4) rfl (by decide) ?_
  refine go_icmp_eq (t := 38) rfl rfl (fun hx_13 => ?_) (fun hx_13 => ?_)
  · rw [if_pos hx_13] at e
    refine go_iconst (v := 0) rfl (by decide) ?_
    refine go_forget (l := [some (.ref a0), some (.ref a1), none, none]) ⟨Or.inl rfl, Or.inl rfl, Or.inr ⟨rfl, fun _ q => by cases q; rfl⟩, Or.inr ⟨rfl, fun _ q => by cases q; rfl⟩, trivial⟩ ?_
    exact f_Op_begin_J39_s F a0 a1 0 a0 _ _ _ e
  · rw [if_neg hx_13] at e
    refine go_iconst (v := 1) rfl (by decide) ?_
    refine go_goto (t := 39) rfl rfl ?_
    refine go_forget (l := [some (.ref a0), some (.ref a1), none, none]) ⟨Or.inl rfl, Or.inl rfl, Or.inr ⟨rfl, fun _ q => by cases q; rfl⟩, Or.inr ⟨rfl, fun _ q => by cases q; rfl⟩, trivial⟩ ?_
    exact f_Op_begin_J39_s F a0 a1 1 a0 _ _ _ e
def f_CS_open (F : Nat) (a0 : Nat) (v1 : Int32) (h : ck_H) : Option (Int32 × ck_H) :=
  ck_as (gk h a0 = 11) <|
  ck_bd (f_CS_takeName F a0 h) fun _ h3 =>
  if v1 < (0 : Int32) then
    some ((-2), h3)
  else
    if (2 : Int32) < v1 then
      some ((-2), h3)
    else
      ck_as (gk h3 a0 = 11) <|
      ck_some (gR h3 a0 6) fun b8 =>
      ck_some (gR h3 a0 3) fun b10 =>
      ck_as (gk h3 b8 = 10) <|
      ck_bd (f_Vo_find F b8 b10 h3) fun r13 h14 =>
      ck_as (gk h14 a0 = 11) <|
      ck_some (gR h14 a0 6) fun b17 =>
      ck_as (gk h14 b17 = 10) <|
      ck_bd (f_Vo_setAt F b17 r13 h14) fun r20 h21 =>
      ck_opt r20 (
        some ((-1), h21)
      ) fun b24 =>
      ck_as (gk h21 b24 = 2) <|
      ck_bd (f_DS_opensWith F b24 v1 h21) fun r26 h27 =>
      if r26 = (0 : Int32) then
        some ((-3), h27)
      else
        ck_as (gk h27 a0 = 11) <|
        ck_bd (f_CS_isBusy F a0 r13 v1 h27) fun r31 h32 =>
        if r31 = (0 : Int32) then
          ck_as (gk h32 a0 = 11) <|
          ck_bd (f_CS_lowestClosed F a0 h32) fun r36 h37 =>
          if r36 < (0 : Int32) then
            some ((-4), h37)
          else
            if v1 = (1 : Int32) then
              ck_as (gk h37 b24 = 2) <|
              if (gI h37 b24 6) = (4 : Int32) then
                ck_as (gk h37 a0 = 11) <|
                ck_some (gR h37 a0 7) fun b44 =>
                ck_as ((16 ≤ gk h37 b44 ∧ gk h37 b44 ≤ 20) ∧ ¬ r36 < 0 ∧ (r36 : Int32).toNatClampNeg < gz h37 b44) <|
                ck_some (gR h37 b44 (r36 : Int32).toNatClampNeg) fun b47 =>
                ck_as (gk h37 b47 = 5) <|
                ck_bd (f_Op_begin F b47 b24 r13 v1 h37) fun _ h51 =>
                some (r36, h51)
              else
                ck_bd (f_DS_empty F b24 h37) fun _ h54 =>
                ck_as (gk h54 a0 = 11) <|
                ck_some (gR h54 a0 7) fun b57 =>
                ck_as ((16 ≤ gk h54 b57 ∧ gk h54 b57 ≤ 20) ∧ ¬ r36 < 0 ∧ (r36 : Int32).toNatClampNeg < gz h54 b57) <|
                ck_some (gR h54 b57 (r36 : Int32).toNatClampNeg) fun b60 =>
                ck_as (gk h54 b60 = 5) <|
                ck_bd (f_Op_begin F b60 b24 r13 v1 h54) fun _ h64 =>
                some (r36, h64)
            else
              ck_as (gk h37 a0 = 11) <|
              ck_some (gR h37 a0 7) fun b67 =>
              ck_as ((16 ≤ gk h37 b67 ∧ gk h37 b67 ≤ 20) ∧ ¬ r36 < 0 ∧ (r36 : Int32).toNatClampNeg < gz h37 b67) <|
              ck_some (gR h37 b67 (r36 : Int32).toNatClampNeg) fun b70 =>
              ck_as (gk h37 b70 = 5) <|
              ck_bd (f_Op_begin F b70 b24 r13 v1 h37) fun _ h74 =>
              some (r36, h74)
        else
          some ((-8), h32)
set_option maxRecDepth 100000 in
set_option maxHeartbeats 4000000 in
theorem s_CS_open {F : Nat} {a0 : Nat} {v1 : Int32} {h h' : ck_H} {r : Int32} (e : f_CS_open F a0 v1 h = some (r, h')) : Go k_CS_open 0 (ck_in [.ref a0, .int v1] 5) [] h (some (.int r), h') := by
  unfold f_CS_open at e
  show Go k_CS_open 0 [some (.ref a0), some (.int v1), none, none, none] [] h _
  refine go_aload_n rfl rfl ?_
  replace e := ck_as_e e
  obtain ⟨hk_1, e⟩ := e
  replace e := ck_bd_e e
  obtain ⟨r2, h3, e4, e⟩ := e
  refine go_callV (As := []) (b0 := a0) (rest := []) rfl rfl ⟨hk_1, by decide⟩ rfl ⟨Nat.le_of_ble_eq_true rfl, Nat.le_of_ble_eq_true rfl, Nat.le_of_ble_eq_true rfl, Nat.le_of_ble_eq_true rfl⟩ (s_CS_takeName e4) ?_
  show Go k_CS_open 4 [some (.ref a0), some (.int v1), none, none, none] [] h3 _
  refine go_iload_n rfl rfl ?_
  refine go_if_lt (t := 13) rfl rfl (fun hx_5 => ?_) (fun hx_5 => ?_)
  · rw [if_pos hx_5] at e
    refine go_bipush (v := (-2)) rfl (by decide) ?_
    cases e
    exact go_ret rfl rfl
  · rw [if_neg hx_5] at e
    refine go_iload_n rfl rfl ?_
    refine go_iconst (v := 2) rfl (by decide) ?_
    refine go_icmp_le (t := 16) rfl rfl (fun hx_6 => ?_) (fun hx_6 => ?_)
    · rw [if_pos hx_6] at e
      refine go_bipush (v := (-2)) rfl (by decide) ?_
      cases e
      exact go_ret rfl rfl
    · rw [if_neg hx_6] at e
      refine go_aload_n rfl rfl ?_
      replace e := ck_as_e e
      obtain ⟨hk_7, e⟩ := e
      replace e := ck_some_e e
      obtain ⟨b8, hq_9, e⟩ := e
      refine go_get (v := .ref b8) rfl rfl hk_7 (by decide) (by show va_rf (gR h3 a0 6) = _; rw [hq_9]; rfl) ?_
      refine go_aload_n rfl rfl ?_
      replace e := ck_some_e e
      obtain ⟨b10, hq_11, e⟩ := e
      refine go_get (v := .ref b10) rfl rfl hk_7 (by decide) (by show va_rf (gR h3 a0 3) = _; rw [hq_11]; rfl) ?_
      replace e := ck_as_e e
      obtain ⟨hk_12, e⟩ := e
      replace e := ck_bd_e e
      obtain ⟨r13, h14, e15, e⟩ := e
      refine go_callV (As := [.ref b10]) (b0 := b8) (rest := []) rfl rfl ⟨hk_12, by decide⟩ rfl ⟨Nat.le_of_ble_eq_true rfl, Nat.le_of_ble_eq_true rfl, Nat.le_of_ble_eq_true rfl, Nat.le_of_ble_eq_true rfl⟩ (s_Vo_find e15) ?_
      show Go k_CS_open 27 [some (.ref a0), some (.int v1), none, none, none] [.int r13] h14 _
      refine go_istore_n rfl rfl ?_
      show Go k_CS_open 28 [some (.ref a0), some (.int v1), some (.int r13), none, none] [] h14 _
      refine go_aload_n rfl rfl ?_
      replace e := ck_as_e e
      obtain ⟨hk_16, e⟩ := e
      replace e := ck_some_e e
      obtain ⟨b17, hq_18, e⟩ := e
      refine go_get (v := .ref b17) rfl rfl hk_16 (by decide) (by show va_rf (gR h14 a0 6) = _; rw [hq_18]; rfl) ?_
      refine go_iload_n rfl rfl ?_
      replace e := ck_as_e e
      obtain ⟨hk_19, e⟩ := e
      replace e := ck_bd_e e
      obtain ⟨r20, h21, e22, e⟩ := e
      refine go_callV (As := [.int r13]) (b0 := b17) (rest := []) rfl rfl ⟨hk_19, by decide⟩ rfl ⟨Nat.le_of_ble_eq_true rfl, Nat.le_of_ble_eq_true rfl, Nat.le_of_ble_eq_true rfl, Nat.le_of_ble_eq_true rfl⟩ (s_Vo_setAt e22) ?_
      replace e := ck_opt_e e
      rcases e with ⟨hq_23, e⟩ | ⟨b24, hq_23, e⟩
      · subst hq_23
        show Go k_CS_open 36 [some (.ref a0), some (.int v1), some (.int r13), none, none] [.null] h21 _
        refine go_astore_nN rfl rfl ?_
        show Go k_CS_open 37 [some (.ref a0), some (.int v1), some (.int r13), some .null, none] [] h21 _
        refine go_aload_nN rfl rfl ?_
        refine go_ifnonnullN rfl ?_
        refine go_iconst (v := (-1)) rfl (by decide) ?_
        cases e
        exact go_ret rfl rfl
      subst hq_23
      show Go k_CS_open 36 [some (.ref a0), some (.int v1), some (.int r13), none, none] [.ref b24] h21 _
      refine go_astore_n rfl rfl ?_
      show Go k_CS_open 37 [some (.ref a0), some (.int v1), some (.int r13), some (.ref b24), none] [] h21 _
      refine go_aload_n rfl rfl ?_
      refine go_ifnonnull (t := 43) rfl rfl ?_
      refine go_aload_n rfl rfl ?_
      refine go_iload_n rfl rfl ?_
      replace e := ck_as_e e
      obtain ⟨hk_25, e⟩ := e
      replace e := ck_bd_e e
      obtain ⟨r26, h27, e28, e⟩ := e
      refine go_callV (As := [.int v1]) (b0 := b24) (rest := []) rfl rfl ⟨hk_25, by decide⟩ rfl ⟨Nat.le_of_ble_eq_true rfl, Nat.le_of_ble_eq_true rfl, Nat.le_of_ble_eq_true rfl, Nat.le_of_ble_eq_true rfl⟩ (s_DS_opensWith e28) ?_
      show Go k_CS_open 48 [some (.ref a0), some (.int v1), some (.int r13), some (.ref b24), none] [.int r26] h27 _
      refine go_if_ne (t := 54) rfl rfl (fun hx_29 => ?_) (fun hx_29 => ?_)
      · rw [if_pos hx_29] at e
        refine go_bipush (v := (-3)) rfl (by decide) ?_
        cases e
        exact go_ret rfl rfl
      · rw [if_neg hx_29] at e
        refine go_aload_n rfl rfl ?_
        refine go_iload_n rfl rfl ?_
        refine go_iload_n rfl rfl ?_
        replace e := ck_as_e e
        obtain ⟨hk_30, e⟩ := e
        replace e := ck_bd_e e
        obtain ⟨r31, h32, e33, e⟩ := e
        refine go_callV (As := [.int r13, .int v1]) (b0 := a0) (rest := []) rfl rfl ⟨hk_30, by decide⟩ rfl ⟨Nat.le_of_ble_eq_true rfl, Nat.le_of_ble_eq_true rfl, Nat.le_of_ble_eq_true rfl, Nat.le_of_ble_eq_true rfl⟩ (s_CS_isBusy e33) ?_
        show Go k_CS_open 60 [some (.ref a0), some (.int v1), some (.int r13), some (.ref b24), none] [.int r31] h32 _
        refine go_if_eq (t := 66) rfl rfl (fun hx_34 => ?_) (fun hx_34 => ?_)
        · rw [if_pos hx_34] at e
          refine go_aload_n rfl rfl ?_
          replace e := ck_as_e e
          obtain ⟨hk_35, e⟩ := e
          replace e := ck_bd_e e
          obtain ⟨r36, h37, e38, e⟩ := e
          refine go_callV (As := []) (b0 := a0) (rest := []) rfl rfl ⟨hk_35, by decide⟩ rfl ⟨Nat.le_of_ble_eq_true rfl, Nat.le_of_ble_eq_true rfl, Nat.le_of_ble_eq_true rfl, Nat.le_of_ble_eq_true rfl⟩ (s_CS_lowestClosed e38) ?_
          show Go k_CS_open 70 [some (.ref a0), some (.int v1), some (.int r13), some (.ref b24), none] [.int r36] h37 _
          refine go_istore rfl rfl ?_
          show Go k_CS_open 72 [some (.ref a0), some (.int v1), some (.int r13), some (.ref b24), some (.int r36)] [] h37 _
          refine go_iload rfl rfl ?_
          refine go_if_ge (t := 80) rfl rfl (fun hx_39 => ?_) (fun hx_39 => ?_)
          · rw [if_pos hx_39] at e
            refine go_bipush (v := (-4)) rfl (by decide) ?_
            cases e
            exact go_ret rfl rfl
          · rw [if_neg hx_39] at e
            refine go_iload_n rfl rfl ?_
            refine go_iconst (v := 1) rfl (by decide) ?_
            refine go_icmp_ne (t := 97) rfl rfl (fun hx_40 => ?_) (fun hx_40 => ?_)
            · rw [if_pos hx_40] at e
              refine go_aload_n rfl rfl ?_
              replace e := ck_as_e e
              obtain ⟨hk_41, e⟩ := e
              refine go_get (v := .int (gI h37 b24 6)) rfl rfl hk_41 (by decide) rfl ?_
              refine go_iconst (v := 4) rfl (by decide) ?_
              refine go_icmp_eq (t := 97) rfl rfl (fun hx_42 => ?_) (fun hx_42 => ?_)
              · rw [if_pos hx_42] at e
                refine go_aload_n rfl rfl ?_
                replace e := ck_as_e e
                obtain ⟨hk_43, e⟩ := e
                replace e := ck_some_e e
                obtain ⟨b44, hq_45, e⟩ := e
                refine go_get (v := .ref b44) rfl rfl hk_43 (by decide) (by show va_rf (gR h37 a0 7) = _; rw [hq_45]; rfl) ?_
                refine go_iload rfl rfl ?_
                replace e := ck_as_e e
                obtain ⟨hc_46, e⟩ := e
                replace e := ck_some_e e
                obtain ⟨b47, hq_48, e⟩ := e
                refine go_aald (v := .ref b47) rfl hc_46 (by rw [hq_48]; rfl) ?_
                refine go_aload_n rfl rfl ?_
                refine go_iload_n rfl rfl ?_
                refine go_iload_n rfl rfl ?_
                replace e := ck_as_e e
                obtain ⟨hk_49, e⟩ := e
                replace e := ck_bd_e e
                obtain ⟨r50, h51, e52, e⟩ := e
                refine go_callV (As := [.ref b24, .int r13, .int v1]) (b0 := b47) (rest := []) rfl rfl ⟨hk_49, by decide⟩ rfl ⟨Nat.le_of_ble_eq_true rfl, Nat.le_of_ble_eq_true rfl, Nat.le_of_ble_eq_true rfl, Nat.le_of_ble_eq_true rfl⟩ (s_Op_begin e52) ?_
                show Go k_CS_open 110 [some (.ref a0), some (.int v1), some (.int r13), some (.ref b24), some (.int r36)] [] h51 _
                refine go_iload rfl rfl ?_
                cases e
                exact go_ret rfl rfl
              · rw [if_neg hx_42] at e
                refine go_aload_n rfl rfl ?_
                replace e := ck_bd_e e
                obtain ⟨r53, h54, e55, e⟩ := e
                refine go_callV (As := []) (b0 := b24) (rest := []) rfl rfl ⟨hk_41, by decide⟩ rfl ⟨Nat.le_of_ble_eq_true rfl, Nat.le_of_ble_eq_true rfl, Nat.le_of_ble_eq_true rfl, Nat.le_of_ble_eq_true rfl⟩ (s_DS_empty e55) ?_
                show Go k_CS_open 97 [some (.ref a0), some (.int v1), some (.int r13), some (.ref b24), some (.int r36)] [] h54 _
                refine go_aload_n rfl rfl ?_
                replace e := ck_as_e e
                obtain ⟨hk_56, e⟩ := e
                replace e := ck_some_e e
                obtain ⟨b57, hq_58, e⟩ := e
                refine go_get (v := .ref b57) rfl rfl hk_56 (by decide) (by show va_rf (gR h54 a0 7) = _; rw [hq_58]; rfl) ?_
                refine go_iload rfl rfl ?_
                replace e := ck_as_e e
                obtain ⟨hc_59, e⟩ := e
                replace e := ck_some_e e
                obtain ⟨b60, hq_61, e⟩ := e
                refine go_aald (v := .ref b60) rfl hc_59 (by rw [hq_61]; rfl) ?_
                refine go_aload_n rfl rfl ?_
                refine go_iload_n rfl rfl ?_
                refine go_iload_n rfl rfl ?_
                replace e := ck_as_e e
                obtain ⟨hk_62, e⟩ := e
                replace e := ck_bd_e e
                obtain ⟨r63, h64, e65, e⟩ := e
                refine go_callV (As := [.ref b24, .int r13, .int v1]) (b0 := b60) (rest := []) rfl rfl ⟨hk_62, by decide⟩ rfl ⟨Nat.le_of_ble_eq_true rfl, Nat.le_of_ble_eq_true rfl, Nat.le_of_ble_eq_true rfl, Nat.le_of_ble_eq_true rfl⟩ (s_Op_begin e65) ?_
                show Go k_CS_open 110 [some (.ref a0), some (.int v1), some (.int r13), some (.ref b24), some (.int r36)] [] h64 _
                refine go_iload rfl rfl ?_
                cases e
                exact go_ret rfl rfl
            · rw [if_neg hx_40] at e
              refine go_aload_n rfl rfl ?_
              replace e := ck_as_e e
              obtain ⟨hk_66, e⟩ := e
              replace e := ck_some_e e
              obtain ⟨b67, hq_68, e⟩ := e
              refine go_get (v := .ref b67) rfl rfl hk_66 (by decide) (by show va_rf (gR h37 a0 7) = _; rw [hq_68]; rfl) ?_
              refine go_iload rfl rfl ?_
              replace e := ck_as_e e
              obtain ⟨hc_69, e⟩ := e
              replace e := ck_some_e e
              obtain ⟨b70, hq_71, e⟩ := e
              refine go_aald (v := .ref b70) rfl hc_69 (by rw [hq_71]; rfl) ?_
              refine go_aload_n rfl rfl ?_
              refine go_iload_n rfl rfl ?_
              refine go_iload_n rfl rfl ?_
              replace e := ck_as_e e
              obtain ⟨hk_72, e⟩ := e
              replace e := ck_bd_e e
              obtain ⟨r73, h74, e75, e⟩ := e
              refine go_callV (As := [.ref b24, .int r13, .int v1]) (b0 := b70) (rest := []) rfl rfl ⟨hk_72, by decide⟩ rfl ⟨Nat.le_of_ble_eq_true rfl, Nat.le_of_ble_eq_true rfl, Nat.le_of_ble_eq_true rfl, Nat.le_of_ble_eq_true rfl⟩ (s_Op_begin e75) ?_
              show Go k_CS_open 110 [some (.ref a0), some (.int v1), some (.int r13), some (.ref b24), some (.int r36)] [] h74 _
              refine go_iload rfl rfl ?_
              cases e
              exact go_ret rfl rfl
        · rw [if_neg hx_34] at e
          refine go_bipush (v := (-8)) rfl (by decide) ?_
          cases e
          exact go_ret rfl rfl
def f_CS_openingAt (F : Nat) (a0 : Nat) (v1 : Int32) (h : ck_H) : Option (Option Nat × ck_H) :=
  if v1 < (0 : Int32) then
    some (none, h)
  else
    if v1 < (4 : Int32) then
      ck_as (gk h a0 = 11) <|
      ck_some (gR h a0 7) fun b4 =>
      ck_as ((16 ≤ gk h b4 ∧ gk h b4 ≤ 20) ∧ ¬ v1 < 0 ∧ (v1 : Int32).toNatClampNeg < gz h b4) <|
      ck_some (gR h b4 (v1 : Int32).toNatClampNeg) fun b7 =>
      ck_as (gk h b7 = 5) <|
      ck_bd (f_Op_isOpen F b7 h) fun r10 h11 =>
      if r10 = (0 : Int32) then
        some (none, h11)
      else
        ck_as (gk h11 a0 = 11) <|
        ck_some (gR h11 a0 7) fun b15 =>
        ck_as ((16 ≤ gk h11 b15 ∧ gk h11 b15 ≤ 20) ∧ ¬ v1 < 0 ∧ (v1 : Int32).toNatClampNeg < gz h11 b15) <|
        ck_opt (gR h11 b15 (v1 : Int32).toNatClampNeg) (
          some (none, h11)
        ) fun b19 =>
        some (some b19, h11)
    else
      some (none, h)
set_option maxRecDepth 100000 in
set_option maxHeartbeats 4000000 in
theorem s_CS_openingAt {F : Nat} {a0 : Nat} {v1 : Int32} {h h' : ck_H} {r : Option Nat} (e : f_CS_openingAt F a0 v1 h = some (r, h')) : Go k_CS_openingAt 0 (ck_in [.ref a0, .int v1] 2) [] h (some (va_rf r), h') := by
  unfold f_CS_openingAt at e
  show Go k_CS_openingAt 0 [some (.ref a0), some (.int v1)] [] h _
  refine go_iload_n rfl rfl ?_
  refine go_if_lt (t := 21) rfl rfl (fun hx_1 => ?_) (fun hx_1 => ?_)
  · rw [if_pos hx_1] at e
    refine go_null rfl ?_
    cases e
    exact go_ret rfl rfl
  · rw [if_neg hx_1] at e
    refine go_iload_n rfl rfl ?_
    refine go_iconst (v := 4) rfl (by decide) ?_
    refine go_icmp_ge (t := 21) rfl rfl (fun hx_2 => ?_) (fun hx_2 => ?_)
    · rw [if_pos hx_2] at e
      refine go_aload_n rfl rfl ?_
      replace e := ck_as_e e
      obtain ⟨hk_3, e⟩ := e
      replace e := ck_some_e e
      obtain ⟨b4, hq_5, e⟩ := e
      refine go_get (v := .ref b4) rfl rfl hk_3 (by decide) (by show va_rf (gR h a0 7) = _; rw [hq_5]; rfl) ?_
      refine go_iload_n rfl rfl ?_
      replace e := ck_as_e e
      obtain ⟨hc_6, e⟩ := e
      replace e := ck_some_e e
      obtain ⟨b7, hq_8, e⟩ := e
      refine go_aald (v := .ref b7) rfl hc_6 (by rw [hq_8]; rfl) ?_
      replace e := ck_as_e e
      obtain ⟨hk_9, e⟩ := e
      replace e := ck_bd_e e
      obtain ⟨r10, h11, e12, e⟩ := e
      refine go_callV (As := []) (b0 := b7) (rest := []) rfl rfl ⟨hk_9, by decide⟩ rfl ⟨Nat.le_of_ble_eq_true rfl, Nat.le_of_ble_eq_true rfl, Nat.le_of_ble_eq_true rfl, Nat.le_of_ble_eq_true rfl⟩ (s_Op_isOpen e12) ?_
      show Go k_CS_openingAt 18 [some (.ref a0), some (.int v1)] [.int r10] h11 _
      refine go_if_ne (t := 23) rfl rfl (fun hx_13 => ?_) (fun hx_13 => ?_)
      · rw [if_pos hx_13] at e
        refine go_null rfl ?_
        cases e
        exact go_ret rfl rfl
      · rw [if_neg hx_13] at e
        refine go_aload_n rfl rfl ?_
        replace e := ck_as_e e
        obtain ⟨hk_14, e⟩ := e
        replace e := ck_some_e e
        obtain ⟨b15, hq_16, e⟩ := e
        refine go_get (v := .ref b15) rfl rfl hk_14 (by decide) (by show va_rf (gR h11 a0 7) = _; rw [hq_16]; rfl) ?_
        refine go_iload_n rfl rfl ?_
        replace e := ck_as_e e
        obtain ⟨hc_17, e⟩ := e
        replace e := ck_opt_e e
        rcases e with ⟨hq_18, e⟩ | ⟨b19, hq_18, e⟩
        · refine go_aald (v := .null) rfl hc_17 (by rw [hq_18]; rfl) ?_
          cases e
          exact go_ret rfl rfl
        refine go_aald (v := .ref b19) rfl hc_17 (by rw [hq_18]; rfl) ?_
        cases e
        exact go_ret rfl rfl
    · rw [if_neg hx_2] at e
      refine go_null rfl ?_
      cases e
      exact go_ret rfl rfl
def f_Tr_records (F : Nat) (a0 : Nat) (h : ck_H) : Option (Int32 × ck_H) :=
  ck_as (gk h a0 = 8) <|
  some (gI h a0 2, h)
set_option maxRecDepth 100000 in
set_option maxHeartbeats 4000000 in
theorem s_Tr_records {F : Nat} {a0 : Nat} {h h' : ck_H} {r : Int32} (e : f_Tr_records F a0 h = some (r, h')) : Go k_Tr_records 0 (ck_in [.ref a0] 1) [] h (some (.int r), h') := by
  unfold f_Tr_records at e
  show Go k_Tr_records 0 [some (.ref a0)] [] h _
  refine go_aload_n rfl rfl ?_
  replace e := ck_as_e e
  obtain ⟨hk_1, e⟩ := e
  refine go_get (v := .int (gI h a0 2)) rfl rfl hk_1 (by decide) rfl ?_
  cases e
  exact go_ret rfl rfl
def f_DS_lastBlockTrack_L7 (F : Nat)  : Nat → Nat → Int32 → ck_H → Option (Int32 × ck_H)
  | 0, _, _, _ => none
  | n + 1, a0, v1, h =>
    ck_as (gk h a0 = 2) <|
    ck_bd (f_DS_firstBlockTrack F a0 h) fun r2 h3 =>
    if r2 < v1 then
      ck_as (gk h3 a0 = 2) <|
      ck_bd (f_DS_trackAt F a0 v1 h3) fun r7 h8 =>
      ck_opt r7 (
        f_DS_lastBlockTrack_L7 F n a0 (v1 + (-1)) h8
      ) fun b11 =>
      ck_as (gk h8 b11 = 8) <|
      ck_bd (f_Tr_records F b11 h8) fun r13 h14 =>
      if (0 : Int32) < r13 then
        some (v1, h14)
      else
        f_DS_lastBlockTrack_L7 F n a0 (v1 + (-1)) h14
    else
      ck_as (gk h3 a0 = 2) <|
      ck_bd (f_DS_firstBlockTrack F a0 h3) fun r18 h19 =>
      some (r18, h19)
set_option maxRecDepth 100000 in
set_option maxHeartbeats 4000000 in
theorem f_DS_lastBlockTrack_L7_s (F : Nat)   : ∀ (n : Nat) (a0 : Nat) (v1 : Int32) (h : ck_H) (r : Int32) (h' : ck_H), f_DS_lastBlockTrack_L7 F n a0 v1 h = some (r, h') → Go k_DS_lastBlockTrack 7 [some (.ref a0), some (.int v1), none] [] h (some (.int r), h') := by
  intro n
  induction n with
  | zero => intro a0 v1 h r h' e; simp only [f_DS_lastBlockTrack_L7] at e; cases e
  | succ n ih =>
    intro a0 v1 h r h' e
    rw [f_DS_lastBlockTrack_L7] at e
    refine go_iload_n rfl rfl ?_
    refine go_aload_n rfl rfl ?_
    replace e := ck_as_e e
    obtain ⟨hk_1, e⟩ := e
    replace e := ck_bd_e e
    obtain ⟨r2, h3, e4, e⟩ := e
    refine go_callV (As := []) (b0 := a0) (rest := [.int v1]) rfl rfl ⟨hk_1, by decide⟩ rfl ⟨Nat.le_of_ble_eq_true rfl, Nat.le_of_ble_eq_true rfl, Nat.le_of_ble_eq_true rfl, Nat.le_of_ble_eq_true rfl⟩ (s_DS_firstBlockTrack e4) ?_
    show Go k_DS_lastBlockTrack 12 [some (.ref a0), some (.int v1), none] [.int r2, .int v1] h3 _
    refine go_icmp_le (t := 40) rfl rfl (fun hx_5 => ?_) (fun hx_5 => ?_)
    · rw [if_pos hx_5] at e
      refine go_aload_n rfl rfl ?_
      refine go_iload_n rfl rfl ?_
      replace e := ck_as_e e
      obtain ⟨hk_6, e⟩ := e
      replace e := ck_bd_e e
      obtain ⟨r7, h8, e9, e⟩ := e
      refine go_callV (As := [.int v1]) (b0 := a0) (rest := []) rfl rfl ⟨hk_6, by decide⟩ rfl ⟨Nat.le_of_ble_eq_true rfl, Nat.le_of_ble_eq_true rfl, Nat.le_of_ble_eq_true rfl, Nat.le_of_ble_eq_true rfl⟩ (s_DS_trackAt e9) ?_
      replace e := ck_opt_e e
      rcases e with ⟨hq_10, e⟩ | ⟨b11, hq_10, e⟩
      · subst hq_10
        show Go k_DS_lastBlockTrack 20 [some (.ref a0), some (.int v1), none] [.null] h8 _
        refine go_astore_nN rfl rfl ?_
        show Go k_DS_lastBlockTrack 21 [some (.ref a0), some (.int v1), some .null] [] h8 _
        refine go_aload_nN rfl rfl ?_
        refine go_ifnullN (t := 34) rfl rfl ?_
        refine go_iinc (v := (-1)) rfl rfl (by decide) rfl ?_
        show Go k_DS_lastBlockTrack 37 [some (.ref a0), some (.int (v1 + (-1))), some .null] [] h8 _
        refine go_goto (t := 7) rfl rfl ?_
        refine go_forget (l := [some (.ref a0), some (.int (v1 + (-1))), none]) ⟨Or.inl rfl, Or.inl rfl, Or.inr ⟨rfl, fun _ q => by cases q; rfl⟩, trivial⟩ ?_
        exact ih _ _ _ _ _ e
      subst hq_10
      show Go k_DS_lastBlockTrack 20 [some (.ref a0), some (.int v1), none] [.ref b11] h8 _
      refine go_astore_n rfl rfl ?_
      show Go k_DS_lastBlockTrack 21 [some (.ref a0), some (.int v1), some (.ref b11)] [] h8 _
      refine go_aload_n rfl rfl ?_
      refine go_ifnull rfl ?_
      refine go_aload_n rfl rfl ?_
      replace e := ck_as_e e
      obtain ⟨hk_12, e⟩ := e
      replace e := ck_bd_e e
      obtain ⟨r13, h14, e15, e⟩ := e
      refine go_callV (As := []) (b0 := b11) (rest := []) rfl rfl ⟨hk_12, by decide⟩ rfl ⟨Nat.le_of_ble_eq_true rfl, Nat.le_of_ble_eq_true rfl, Nat.le_of_ble_eq_true rfl, Nat.le_of_ble_eq_true rfl⟩ (s_Tr_records e15) ?_
      show Go k_DS_lastBlockTrack 29 [some (.ref a0), some (.int v1), some (.ref b11)] [.int r13] h14 _
      refine go_if_le (t := 34) rfl rfl (fun hx_16 => ?_) (fun hx_16 => ?_)
      · rw [if_pos hx_16] at e
        refine go_iload_n rfl rfl ?_
        cases e
        exact go_ret rfl rfl
      · rw [if_neg hx_16] at e
        refine go_iinc (v := (-1)) rfl rfl (by decide) rfl ?_
        show Go k_DS_lastBlockTrack 37 [some (.ref a0), some (.int (v1 + (-1))), some (.ref b11)] [] h14 _
        refine go_goto (t := 7) rfl rfl ?_
        refine go_forget (l := [some (.ref a0), some (.int (v1 + (-1))), none]) ⟨Or.inl rfl, Or.inl rfl, Or.inr ⟨rfl, fun _ q => by cases q; rfl⟩, trivial⟩ ?_
        exact ih _ _ _ _ _ e
    · rw [if_neg hx_5] at e
      refine go_aload_n rfl rfl ?_
      replace e := ck_as_e e
      obtain ⟨hk_17, e⟩ := e
      replace e := ck_bd_e e
      obtain ⟨r18, h19, e20, e⟩ := e
      refine go_callV (As := []) (b0 := a0) (rest := []) rfl rfl ⟨hk_17, by decide⟩ rfl ⟨Nat.le_of_ble_eq_true rfl, Nat.le_of_ble_eq_true rfl, Nat.le_of_ble_eq_true rfl, Nat.le_of_ble_eq_true rfl⟩ (s_DS_firstBlockTrack e20) ?_
      show Go k_DS_lastBlockTrack 44 [some (.ref a0), some (.int v1), none] [.int r18] h19 _
      cases e
      exact go_ret rfl rfl
def f_DS_lastBlockTrack (F : Nat) (a0 : Nat) (h : ck_H) : Option (Int32 × ck_H) :=
  ck_as (gk h a0 = 2) <|
  ck_bd (f_DS_tracks F a0 h) fun r2 h3 =>
  ck_then (r2 - 1) fun x5 =>
  f_DS_lastBlockTrack_L7 F F a0 x5 h3
set_option maxRecDepth 100000 in
set_option maxHeartbeats 4000000 in
theorem s_DS_lastBlockTrack {F : Nat} {a0 : Nat} {h h' : ck_H} {r : Int32} (e : f_DS_lastBlockTrack F a0 h = some (r, h')) : Go k_DS_lastBlockTrack 0 (ck_in [.ref a0] 3) [] h (some (.int r), h') := by
  unfold f_DS_lastBlockTrack at e
  show Go k_DS_lastBlockTrack 0 [some (.ref a0), none, none] [] h _
  refine go_aload_n rfl rfl ?_
  replace e := ck_as_e e
  obtain ⟨hk_1, e⟩ := e
  replace e := ck_bd_e e
  obtain ⟨r2, h3, e4, e⟩ := e
  refine go_callV (As := []) (b0 := a0) (rest := []) rfl rfl ⟨hk_1, by decide⟩ rfl ⟨Nat.le_of_ble_eq_true rfl, Nat.le_of_ble_eq_true rfl, Nat.le_of_ble_eq_true rfl, Nat.le_of_ble_eq_true rfl⟩ (s_DS_tracks e4) ?_
  show Go k_DS_lastBlockTrack 4 [some (.ref a0), none, none] [.int r2] h3 _
  refine go_iconst (v := 1) rfl (by decide) ?_
  refine go_isub rfl ?_
  generalize r2 - 1 = x5 at e ⊢
  replace e := ck_then_e e
  refine go_istore_n rfl rfl ?_
  show Go k_DS_lastBlockTrack 7 [some (.ref a0), some (.int x5), none] [] h3 _
  refine go_forget (l := [some (.ref a0), some (.int x5), none]) ⟨Or.inl rfl, Or.inl rfl, Or.inl rfl, trivial⟩ ?_
  exact f_DS_lastBlockTrack_L7_s F F _ _ _ _ _ e
def f_DS_roomFrom_L8 (F : Nat)  : Nat → Nat → Int32 → Int32 → Int32 → ck_H → Option (Int32 × ck_H)
  | 0, _, _, _, _, _ => none
  | n + 1, a0, v2, v3, v4, h =>
    if v4 < v3 then
      ck_as (gk h a0 = 2) <|
      ck_bd (f_DS_trackAt F a0 v4 h) fun r3 h4 =>
      ck_opt r3 (
        f_DS_roomFrom_L8 F n a0 v2 v3 (v4 + 1) h4
      ) fun b7 =>
      ck_as (gk h4 b7 = 8) <|
      ck_bd (f_Tr_hasRoom F b7 v2 h4) fun r9 h10 =>
      if r9 = (0 : Int32) then
        f_DS_roomFrom_L8 F n a0 v2 v3 (v4 + 1) h10
      else
        some (v4, h10)
    else
      some ((-1), h)
set_option maxRecDepth 100000 in
set_option maxHeartbeats 4000000 in
theorem f_DS_roomFrom_L8_s (F : Nat)   : ∀ (n : Nat) (a0 : Nat) (v2 : Int32) (v3 : Int32) (v4 : Int32) (h : ck_H) (r : Int32) (h' : ck_H), f_DS_roomFrom_L8 F n a0 v2 v3 v4 h = some (r, h') → Go k_DS_roomFrom 8 [some (.ref a0), none, some (.int v2), some (.int v3), some (.int v4), none] [] h (some (.int r), h') := by
  intro n
  induction n with
  | zero => intro a0 v2 v3 v4 h r h' e; simp only [f_DS_roomFrom_L8] at e; cases e
  | succ n ih =>
    intro a0 v2 v3 v4 h r h' e
    rw [f_DS_roomFrom_L8] at e
    refine go_iload rfl rfl ?_
    refine go_iload_n rfl rfl ?_
    refine go_icmp_ge (t := 45) rfl rfl (fun hx_1 => ?_) (fun hx_1 => ?_)
    · rw [if_pos hx_1] at e
      refine go_aload_n rfl rfl ?_
      refine go_iload rfl rfl ?_
      replace e := ck_as_e e
      obtain ⟨hk_2, e⟩ := e
      replace e := ck_bd_e e
      obtain ⟨r3, h4, e5, e⟩ := e
      refine go_callV (As := [.int v4]) (b0 := a0) (rest := []) rfl rfl ⟨hk_2, by decide⟩ rfl ⟨Nat.le_of_ble_eq_true rfl, Nat.le_of_ble_eq_true rfl, Nat.le_of_ble_eq_true rfl, Nat.le_of_ble_eq_true rfl⟩ (s_DS_trackAt e5) ?_
      replace e := ck_opt_e e
      rcases e with ⟨hq_6, e⟩ | ⟨b7, hq_6, e⟩
      · subst hq_6
        show Go k_DS_roomFrom 20 [some (.ref a0), none, some (.int v2), some (.int v3), some (.int v4), none] [.null] h4 _
        refine go_astoreN rfl rfl ?_
        show Go k_DS_roomFrom 22 [some (.ref a0), none, some (.int v2), some (.int v3), some (.int v4), some .null] [] h4 _
        refine go_aloadN rfl rfl ?_
        refine go_ifnullN (t := 39) rfl rfl ?_
        refine go_iinc (v := 1) rfl rfl (by decide) rfl ?_
        show Go k_DS_roomFrom 42 [some (.ref a0), none, some (.int v2), some (.int v3), some (.int (v4 + 1)), some .null] [] h4 _
        refine go_goto (t := 8) rfl rfl ?_
        refine go_forget (l := [some (.ref a0), none, some (.int v2), some (.int v3), some (.int (v4 + 1)), none]) ⟨Or.inl rfl, Or.inl rfl, Or.inl rfl, Or.inl rfl, Or.inl rfl, Or.inr ⟨rfl, fun _ q => by cases q; rfl⟩, trivial⟩ ?_
        exact ih _ _ _ _ _ _ _ e
      subst hq_6
      show Go k_DS_roomFrom 20 [some (.ref a0), none, some (.int v2), some (.int v3), some (.int v4), none] [.ref b7] h4 _
      refine go_astore rfl rfl ?_
      show Go k_DS_roomFrom 22 [some (.ref a0), none, some (.int v2), some (.int v3), some (.int v4), some (.ref b7)] [] h4 _
      refine go_aload rfl rfl ?_
      refine go_ifnull rfl ?_
      refine go_aload rfl rfl ?_
      refine go_iload_n rfl rfl ?_
      replace e := ck_as_e e
      obtain ⟨hk_8, e⟩ := e
      replace e := ck_bd_e e
      obtain ⟨r9, h10, e11, e⟩ := e
      refine go_callV (As := [.int v2]) (b0 := b7) (rest := []) rfl rfl ⟨hk_8, by decide⟩ rfl ⟨Nat.le_of_ble_eq_true rfl, Nat.le_of_ble_eq_true rfl, Nat.le_of_ble_eq_true rfl, Nat.le_of_ble_eq_true rfl⟩ (s_Tr_hasRoom e11) ?_
      show Go k_DS_roomFrom 33 [some (.ref a0), none, some (.int v2), some (.int v3), some (.int v4), some (.ref b7)] [.int r9] h10 _
      refine go_if_eq (t := 39) rfl rfl (fun hx_12 => ?_) (fun hx_12 => ?_)
      · rw [if_pos hx_12] at e
        refine go_iinc (v := 1) rfl rfl (by decide) rfl ?_
        show Go k_DS_roomFrom 42 [some (.ref a0), none, some (.int v2), some (.int v3), some (.int (v4 + 1)), some (.ref b7)] [] h10 _
        refine go_goto (t := 8) rfl rfl ?_
        refine go_forget (l := [some (.ref a0), none, some (.int v2), some (.int v3), some (.int (v4 + 1)), none]) ⟨Or.inl rfl, Or.inl rfl, Or.inl rfl, Or.inl rfl, Or.inl rfl, Or.inr ⟨rfl, fun _ q => by cases q; rfl⟩, trivial⟩ ?_
        exact ih _ _ _ _ _ _ _ e
      · rw [if_neg hx_12] at e
        refine go_iload rfl rfl ?_
        cases e
        exact go_ret rfl rfl
    · rw [if_neg hx_1] at e
      refine go_iconst (v := (-1)) rfl (by decide) ?_
      cases e
      exact go_ret rfl rfl
def f_DS_roomFrom (F : Nat) (a0 : Nat) (v1 : Int32) (v2 : Int32) (h : ck_H) : Option (Int32 × ck_H) :=
  ck_as (gk h a0 = 2) <|
  ck_bd (f_DS_tracks F a0 h) fun r2 h3 =>
  f_DS_roomFrom_L8 F F a0 v2 r2 v1 h3
set_option maxRecDepth 100000 in
set_option maxHeartbeats 4000000 in
theorem s_DS_roomFrom {F : Nat} {a0 : Nat} {v1 : Int32} {v2 : Int32} {h h' : ck_H} {r : Int32} (e : f_DS_roomFrom F a0 v1 v2 h = some (r, h')) : Go k_DS_roomFrom 0 (ck_in [.ref a0, .int v1, .int v2] 6) [] h (some (.int r), h') := by
  unfold f_DS_roomFrom at e
  show Go k_DS_roomFrom 0 [some (.ref a0), some (.int v1), some (.int v2), none, none, none] [] h _
  refine go_aload_n rfl rfl ?_
  replace e := ck_as_e e
  obtain ⟨hk_1, e⟩ := e
  replace e := ck_bd_e e
  obtain ⟨r2, h3, e4, e⟩ := e
  refine go_callV (As := []) (b0 := a0) (rest := []) rfl rfl ⟨hk_1, by decide⟩ rfl ⟨Nat.le_of_ble_eq_true rfl, Nat.le_of_ble_eq_true rfl, Nat.le_of_ble_eq_true rfl, Nat.le_of_ble_eq_true rfl⟩ (s_DS_tracks e4) ?_
  show Go k_DS_roomFrom 4 [some (.ref a0), some (.int v1), some (.int v2), none, none, none] [.int r2] h3 _
  refine go_istore_n rfl rfl ?_
  show Go k_DS_roomFrom 5 [some (.ref a0), some (.int v1), some (.int v2), some (.int r2), none, none] [] h3 _
  refine go_iload_n rfl rfl ?_
  refine go_istore rfl rfl ?_
  show Go k_DS_roomFrom 8 [some (.ref a0), some (.int v1), some (.int v2), some (.int r2), some (.int v1), none] [] h3 _
  refine go_forget (l := [some (.ref a0), none, some (.int v2), some (.int r2), some (.int v1), none]) ⟨Or.inl rfl, Or.inr ⟨rfl, fun _ q => by cases q; rfl⟩, Or.inl rfl, Or.inl rfl, Or.inl rfl, Or.inl rfl, trivial⟩ ?_
  exact f_DS_roomFrom_L8_s F F _ _ _ _ _ _ _ e
def f_DS_blockLead (F : Nat) (a0 : Nat) (h : ck_H) : Option (Int32 × ck_H) :=
  ck_as (gk h a0 = 2) <|
  if (gI h a0 6) = (1 : Int32) then
    some (2, h)
  else
    if (gI h a0 6) = (2 : Int32) then
      some (2, h)
    else
      some (0, h)
set_option maxRecDepth 100000 in
set_option maxHeartbeats 4000000 in
theorem s_DS_blockLead {F : Nat} {a0 : Nat} {h h' : ck_H} {r : Int32} (e : f_DS_blockLead F a0 h = some (r, h')) : Go k_DS_blockLead 0 (ck_in [.ref a0] 1) [] h (some (.int r), h') := by
  unfold f_DS_blockLead at e
  show Go k_DS_blockLead 0 [some (.ref a0)] [] h _
  refine go_aload_n rfl rfl ?_
  replace e := ck_as_e e
  obtain ⟨hk_1, e⟩ := e
  refine go_get (v := .int (gI h a0 6)) rfl rfl hk_1 (by decide) rfl ?_
  refine go_iconst (v := 1) rfl (by decide) ?_
  refine go_icmp_eq (t := 16) rfl rfl (fun hx_2 => ?_) (fun hx_2 => ?_)
  · rw [if_pos hx_2] at e
    refine go_iconst (v := 2) rfl (by decide) ?_
    refine go_goto (t := 21) rfl rfl ?_
    cases e
    exact go_ret rfl rfl
  · rw [if_neg hx_2] at e
    refine go_aload_n rfl rfl ?_
    refine go_get (v := .int (gI h a0 6)) rfl rfl hk_1 (by decide) rfl ?_
    refine go_iconst (v := 2) rfl (by decide) ?_
    refine go_icmp_ne (t := 20) rfl rfl (fun hx_3 => ?_) (fun hx_3 => ?_)
    · rw [if_pos hx_3] at e
      refine go_iconst (v := 2) rfl (by decide) ?_
      refine go_goto (t := 21) rfl rfl ?_
      cases e
      exact go_ret rfl rfl
    · rw [if_neg hx_3] at e
      refine go_iconst (v := 0) rfl (by decide) ?_
      cases e
      exact go_ret rfl rfl
def f_Rw_setPair (F : Nat) (a0 : Nat) (v1 : Int32) (v2 : Int32) (h : ck_H) : Option (Unit × ck_H) :=
  if v1 < (0 : Int32) then
    some ((), h)
  else
    if (v1 + 1) < (1200 : Int32) then
      ck_as (gk h a0 = 6) <|
      ck_some (gR h a0 0) fun b4 =>
      ck_as (gk h b4 = 13 ∧ ¬ v1 < 0 ∧ (v1 : Int32).toNatClampNeg < gz h b4) <|
      ck_then (wI h b4 (v1 : Int32).toNatClampNeg ((v2 >>> (8 &&& 31) : Int32).toInt8.toInt32 : Int32).toInt8.toInt32) fun h7 =>
      ck_some (gR h7 a0 0) fun b9 =>
      ck_as (gk h7 b9 = 13 ∧ ¬ (v1 + 1) < 0 ∧ (v1 + 1 : Int32).toNatClampNeg < gz h7 b9) <|
      ck_then (wI h7 b9 (v1 + 1 : Int32).toNatClampNeg ((v2 : Int32).toInt8.toInt32 : Int32).toInt8.toInt32) fun h12 =>
      some ((), h12)
    else
      some ((), h)
set_option maxRecDepth 100000 in
set_option maxHeartbeats 4000000 in
theorem s_Rw_setPair {F : Nat} {a0 : Nat} {v1 : Int32} {v2 : Int32} {h h' : ck_H} {r : Unit} (e : f_Rw_setPair F a0 v1 v2 h = some (r, h')) : Go k_Rw_setPair 0 (ck_in [.ref a0, .int v1, .int v2] 3) [] h (none, h') := by
  unfold f_Rw_setPair at e
  show Go k_Rw_setPair 0 [some (.ref a0), some (.int v1), some (.int v2)] [] h _
  refine go_iload_n rfl rfl ?_
  refine go_if_lt (t := 13) rfl rfl (fun hx_1 => ?_) (fun hx_1 => ?_)
  · rw [if_pos hx_1] at e
    cases e
    exact go_ret rfl rfl
  · rw [if_neg hx_1] at e
    refine go_iload_n rfl rfl ?_
    refine go_iconst (v := 1) rfl (by decide) ?_
    refine go_iadd rfl ?_
    refine go_sipush (v := 1200) rfl (by decide) ?_
    refine go_icmp_lt (t := 14) rfl rfl (fun hx_2 => ?_) (fun hx_2 => ?_)
    · rw [if_pos hx_2] at e
      refine go_aload_n rfl rfl ?_
      replace e := ck_as_e e
      obtain ⟨hk_3, e⟩ := e
      replace e := ck_some_e e
      obtain ⟨b4, hq_5, e⟩ := e
      refine go_get (v := .ref b4) rfl rfl hk_3 (by decide) (by show va_rf (gR h a0 0) = _; rw [hq_5]; rfl) ?_
      refine go_iload_n rfl rfl ?_
      refine go_iload_n rfl rfl ?_
      refine go_bipush (v := 8) rfl (by decide) ?_
      refine go_ishr rfl ?_
      refine go_i2b rfl ?_
      replace e := ck_as_e e
      obtain ⟨hc_6, e⟩ := e
      refine go_bast rfl hc_6 ?_
      have hk_8 : gk (wI h b4 (v1 : Int32).toNatClampNeg ((v2 >>> (8 &&& 31) : Int32).toInt8.toInt32 : Int32).toInt8.toInt32) a0 = 6 := ck_kI.trans hk_3
      generalize wI h b4 (v1 : Int32).toNatClampNeg ((v2 >>> (8 &&& 31) : Int32).toInt8.toInt32 : Int32).toInt8.toInt32 = h7 at e hk_8 ⊢
      replace e := ck_then_e e
      refine go_aload_n rfl rfl ?_
      replace e := ck_some_e e
      obtain ⟨b9, hq_10, e⟩ := e
      refine go_get (v := .ref b9) rfl rfl hk_8 (by decide) (by show va_rf (gR h7 a0 0) = _; rw [hq_10]; rfl) ?_
      refine go_iload_n rfl rfl ?_
      refine go_iconst (v := 1) rfl (by decide) ?_
      refine go_iadd rfl ?_
      refine go_iload_n rfl rfl ?_
      refine go_i2b rfl ?_
      replace e := ck_as_e e
      obtain ⟨hc_11, e⟩ := e
      refine go_bast rfl hc_11 ?_
      have hk_13 : gk (wI h7 b9 (v1 + 1 : Int32).toNatClampNeg ((v2 : Int32).toInt8.toInt32 : Int32).toInt8.toInt32) a0 = 6 := ck_kI.trans hk_8
      generalize wI h7 b9 (v1 + 1 : Int32).toNatClampNeg ((v2 : Int32).toInt8.toInt32 : Int32).toInt8.toInt32 = h12 at e hk_13 ⊢
      replace e := ck_then_e e
      cases e
      exact go_ret rfl rfl
    · rw [if_neg hx_2] at e
      cases e
      exact go_ret rfl rfl
def f_Mk_writeBlock_J59 (F : Nat)  (a0 : Nat) (a1 : Nat) (v2 : Int32) (a3 : Nat) (h : ck_H) : Option (Unit × ck_H) :=
  ck_as (gk h a1 = 2) <|
  ck_bd (f_DS_numberOf F a1 v2 h) fun r2 h3 =>
  ck_as (gk h3 a3 = 8) <|
  ck_bd (f_Tr_records F a3 h3) fun r6 h7 =>
  ck_as (gk h7 a0 = 3) <|
  ck_some (gR h7 a0 0) fun b10 =>
  ck_as (gk h7 b10 = 6) <|
  ck_as (gk h7 a3 = 8) <|
  ck_bd (f_Tr_append F a3 (r2 / 4) (r2 - r2 / 4 * 4) (r6 + 1) 0 (gI h7 b10 1) h7) fun r14 h15 =>
  ck_as (gk h15 a0 = 3) <|
  ck_some (gR h15 a0 0) fun b18 =>
  ck_as (gk h15 b18 = 6) <|
  ck_some (gR h15 b18 0) fun b21 =>
  ck_some (gR h15 a0 0) fun b23 =>
  ck_as (gk h15 b23 = 6) <|
  ck_as (gk h15 a3 = 8) <|
  ck_bd (f_Tr_store F a3 r14 0 b21 0 (gI h15 b23 1) h15) fun _ h28 =>
  ck_as (gk h28 a0 = 3) <|
  ck_some (gR h28 a0 0) fun b31 =>
  ck_as (gk h28 b31 = 6) <|
  ck_then (wI h28 b31 1 0) fun h34 =>
  if (gI h34 a0 3) = (0 : Int32) then
    ck_then (wI h34 a0 1 v2) fun h38 =>
    ck_then (wI h38 a0 2 (r14 + 1)) fun h41 =>
    ck_then (wI h41 a0 3 ((gI h41 a0 3) + 1)) fun h44 =>
    some ((), h44)
  else
    ck_then (wI h34 a0 3 ((gI h34 a0 3) + 1)) fun h47 =>
    some ((), h47)
set_option maxRecDepth 100000 in
set_option maxHeartbeats 4000000 in
theorem f_Mk_writeBlock_J59_s (F : Nat)   (a0 : Nat) (a1 : Nat) (v2 : Int32) (a3 : Nat) (h : ck_H) (r : Unit) (h' : ck_H) (e : f_Mk_writeBlock_J59 F  a0 a1 v2 a3 h = some (r, h')) : Go k_Mk_writeBlock 59 [some (.ref a0), some (.ref a1), some (.int v2), some (.ref a3), none, none] [] h (none, h') := by
  unfold f_Mk_writeBlock_J59 at e
  refine go_aload_n rfl rfl ?_
  refine go_iload_n rfl rfl ?_
  replace e := ck_as_e e
  obtain ⟨hk_1, e⟩ := e
  replace e := ck_bd_e e
  obtain ⟨r2, h3, e4, e⟩ := e
  refine go_callV (As := [.int v2]) (b0 := a1) (rest := []) rfl rfl ⟨hk_1, by decide⟩ rfl ⟨Nat.le_of_ble_eq_true rfl, Nat.le_of_ble_eq_true rfl, Nat.le_of_ble_eq_true rfl, Nat.le_of_ble_eq_true rfl⟩ (s_DS_numberOf e4) ?_
  show Go k_Mk_writeBlock 64 [some (.ref a0), some (.ref a1), some (.int v2), some (.ref a3), none, none] [.int r2] h3 _
  refine go_istore rfl rfl ?_
  show Go k_Mk_writeBlock 66 [some (.ref a0), some (.ref a1), some (.int v2), some (.ref a3), some (.int r2), none] [] h3 _
  refine go_aload_n rfl rfl ?_
  refine go_iload rfl rfl ?_
  refine go_iconst (v := 4) rfl (by decide) ?_
  refine go_idiv rfl (by decide) ?_
  refine go_iload rfl rfl ?_
  refine go_iconst (v := 4) rfl (by decide) ?_
  refine go_irem rfl (by decide) ?_
  refine go_aload_n rfl rfl ?_
  replace e := ck_as_e e
  obtain ⟨hk_5, e⟩ := e
  replace e := ck_bd_e e
  obtain ⟨r6, h7, e8, e⟩ := e
  refine go_callV (As := []) (b0 := a3) (rest := [.int (r2 - r2 / 4 * 4), .int (r2 / 4), .ref a3]) rfl rfl ⟨hk_5, by decide⟩ rfl ⟨Nat.le_of_ble_eq_true rfl, Nat.le_of_ble_eq_true rfl, Nat.le_of_ble_eq_true rfl, Nat.le_of_ble_eq_true rfl⟩ (s_Tr_records e8) ?_
  show Go k_Mk_writeBlock 79 [some (.ref a0), some (.ref a1), some (.int v2), some (.ref a3), some (.int r2), none] [.int r6, .int (r2 - r2 / 4 * 4), .int (r2 / 4), .ref a3] h7 _
  refine go_iconst (v := 1) rfl (by decide) ?_
  refine go_iadd rfl ?_
  refine go_iconst (v := 0) rfl (by decide) ?_
  refine go_aload_n rfl rfl ?_
  replace e := ck_as_e e
  obtain ⟨hk_9, e⟩ := e
  replace e := ck_some_e e
  obtain ⟨b10, hq_11, e⟩ := e
  refine go_get (v := .ref b10) rfl rfl hk_9 (by decide) (by show va_rf (gR h7 a0 0) = _; rw [hq_11]; rfl) ?_
  replace e := ck_as_e e
  obtain ⟨hk_12, e⟩ := e
  refine go_get (v := .int (gI h7 b10 1)) rfl rfl hk_12 (by decide) rfl ?_
  replace e := ck_as_e e
  obtain ⟨hk_13, e⟩ := e
  replace e := ck_bd_e e
  obtain ⟨r14, h15, e16, e⟩ := e
  refine go_callV (As := [.int (r2 / 4), .int (r2 - r2 / 4 * 4), .int (r6 + 1), .int 0, .int (gI h7 b10 1)]) (b0 := a3) (rest := []) rfl rfl ⟨hk_13, by decide⟩ rfl ⟨Nat.le_of_ble_eq_true rfl, Nat.le_of_ble_eq_true rfl, Nat.le_of_ble_eq_true rfl, Nat.le_of_ble_eq_true rfl⟩ (s_Tr_append e16) ?_
  show Go k_Mk_writeBlock 92 [some (.ref a0), some (.ref a1), some (.int v2), some (.ref a3), some (.int r2), none] [.int r14] h15 _
  refine go_istore rfl rfl ?_
  show Go k_Mk_writeBlock 94 [some (.ref a0), some (.ref a1), some (.int v2), some (.ref a3), some (.int r2), some (.int r14)] [] h15 _
  refine go_aload_n rfl rfl ?_
  refine go_iload rfl rfl ?_
  refine go_iconst (v := 0) rfl (by decide) ?_
  refine go_aload_n rfl rfl ?_
  replace e := ck_as_e e
  obtain ⟨hk_17, e⟩ := e
  replace e := ck_some_e e
  obtain ⟨b18, hq_19, e⟩ := e
  refine go_get (v := .ref b18) rfl rfl hk_17 (by decide) (by show va_rf (gR h15 a0 0) = _; rw [hq_19]; rfl) ?_
  replace e := ck_as_e e
  obtain ⟨hk_20, e⟩ := e
  replace e := ck_some_e e
  obtain ⟨b21, hq_22, e⟩ := e
  refine go_get (v := .ref b21) rfl rfl hk_20 (by decide) (by show va_rf (gR h15 b18 0) = _; rw [hq_22]; rfl) ?_
  refine go_iconst (v := 0) rfl (by decide) ?_
  refine go_aload_n rfl rfl ?_
  replace e := ck_some_e e
  obtain ⟨b23, hq_24, e⟩ := e
  refine go_get (v := .ref b23) rfl rfl hk_17 (by decide) (by show va_rf (gR h15 a0 0) = _; rw [hq_24]; rfl) ?_
  replace e := ck_as_e e
  obtain ⟨hk_25, e⟩ := e
  refine go_get (v := .int (gI h15 b23 1)) rfl rfl hk_25 (by decide) rfl ?_
  replace e := ck_as_e e
  obtain ⟨hk_26, e⟩ := e
  replace e := ck_bd_e e
  obtain ⟨r27, h28, e29, e⟩ := e
  refine go_callV (As := [.int r14, .int 0, .ref b21, .int 0, .int (gI h15 b23 1)]) (b0 := a3) (rest := []) rfl rfl ⟨hk_26, by decide⟩ rfl ⟨Nat.le_of_ble_eq_true rfl, Nat.le_of_ble_eq_true rfl, Nat.le_of_ble_eq_true rfl, Nat.le_of_ble_eq_true rfl⟩ (s_Tr_store e29) ?_
  show Go k_Mk_writeBlock 116 [some (.ref a0), some (.ref a1), some (.int v2), some (.ref a3), some (.int r2), some (.int r14)] [] h28 _
  refine go_aload_n rfl rfl ?_
  replace e := ck_as_e e
  obtain ⟨hk_30, e⟩ := e
  replace e := ck_some_e e
  obtain ⟨b31, hq_32, e⟩ := e
  refine go_get (v := .ref b31) rfl rfl hk_30 (by decide) (by show va_rf (gR h28 a0 0) = _; rw [hq_32]; rfl) ?_
  refine go_iconst (v := 0) rfl (by decide) ?_
  replace e := ck_as_e e
  obtain ⟨hk_33, e⟩ := e
  refine go_put (h1 := wI h28 b31 1 0) rfl rfl hk_33 ⟨by decide, by decide, Or.inl rfl⟩ rfl ?_
  have hk_35 : gk (wI h28 b31 1 0) a0 = 3 := ck_kI.trans hk_30
  have hk_36 : gk (wI h28 b31 1 0) b31 = 6 := ck_kI.trans hk_33
  generalize wI h28 b31 1 0 = h34 at e hk_35 hk_36 ⊢
  replace e := ck_then_e e
  refine go_aload_n rfl rfl ?_
  refine go_get (v := .int (gI h34 a0 3)) rfl rfl hk_35 (by decide) rfl ?_
  refine go_if_ne (t := 144) rfl rfl (fun hx_37 => ?_) (fun hx_37 => ?_)
  · rw [if_pos hx_37] at e
    refine go_aload_n rfl rfl ?_
    refine go_iload_n rfl rfl ?_
    refine go_put (h1 := wI h34 a0 1 v2) rfl rfl hk_35 ⟨by decide, by decide, Or.inl rfl⟩ rfl ?_
    have hk_39 : gk (wI h34 a0 1 v2) a0 = 3 := ck_kI.trans hk_35
    have hk_40 : gk (wI h34 a0 1 v2) b31 = 6 := ck_kI.trans hk_36
    generalize wI h34 a0 1 v2 = h38 at e hk_39 hk_40 ⊢
    replace e := ck_then_e e
    refine go_aload_n rfl rfl ?_
    refine go_iload rfl rfl ?_
    refine go_iconst (v := 1) rfl (by decide) ?_
    refine go_iadd rfl ?_
    refine go_put (h1 := wI h38 a0 2 (r14 + 1)) rfl rfl hk_39 ⟨by decide, by decide, Or.inl rfl⟩ rfl ?_
    have hk_42 : gk (wI h38 a0 2 (r14 + 1)) a0 = 3 := ck_kI.trans hk_39
    have hk_43 : gk (wI h38 a0 2 (r14 + 1)) b31 = 6 := ck_kI.trans hk_40
    generalize wI h38 a0 2 (r14 + 1) = h41 at e hk_42 hk_43 ⊢
    replace e := ck_then_e e
    refine go_aload_n rfl rfl ?_
    refine go_dup rfl rfl ?_
    refine go_get (v := .int (gI h41 a0 3)) rfl rfl hk_42 (by decide) rfl ?_
    refine go_iconst (v := 1) rfl (by decide) ?_
    refine go_iadd rfl ?_
    refine go_put (h1 := wI h41 a0 3 ((gI h41 a0 3) + 1)) rfl rfl hk_42 ⟨by decide, by decide, Or.inl rfl⟩ rfl ?_
    have hk_45 : gk (wI h41 a0 3 ((gI h41 a0 3) + 1)) a0 = 3 := ck_kI.trans hk_42
    have hk_46 : gk (wI h41 a0 3 ((gI h41 a0 3) + 1)) b31 = 6 := ck_kI.trans hk_43
    generalize wI h41 a0 3 ((gI h41 a0 3) + 1) = h44 at e hk_45 hk_46 ⊢
    replace e := ck_then_e e
    cases e
    exact go_ret rfl rfl
  · rw [if_neg hx_37] at e
    refine go_aload_n rfl rfl ?_
    refine go_dup rfl rfl ?_
    refine go_get (v := .int (gI h34 a0 3)) rfl rfl hk_35 (by decide) rfl ?_
    refine go_iconst (v := 1) rfl (by decide) ?_
    refine go_iadd rfl ?_
    refine go_put (h1 := wI h34 a0 3 ((gI h34 a0 3) + 1)) rfl rfl hk_35 ⟨by decide, by decide, Or.inl rfl⟩ rfl ?_
    have hk_48 : gk (wI h34 a0 3 ((gI h34 a0 3) + 1)) a0 = 3 := ck_kI.trans hk_35
    have hk_49 : gk (wI h34 a0 3 ((gI h34 a0 3) + 1)) b31 = 6 := ck_kI.trans hk_36
    generalize wI h34 a0 3 ((gI h34 a0 3) + 1) = h47 at e hk_48 hk_49 ⊢
    replace e := ck_then_e e
    cases e
    exact go_ret rfl rfl
def f_Mk_writeBlock (F : Nat) (a0 : Nat) (a1 : Nat) (h : ck_H) : Option (Unit × ck_H) :=
  ck_as (gk h a1 = 2) <|
  ck_bd (f_DS_lastBlockTrack F a1 h) fun r2 h3 =>
  ck_as (gk h3 a0 = 3) <|
  ck_some (gR h3 a0 0) fun b6 =>
  ck_as (gk h3 b6 = 6) <|
  ck_as (gk h3 a1 = 2) <|
  ck_bd (f_DS_roomFrom F a1 r2 (gI h3 b6 1) h3) fun r10 h11 =>
  ck_as (gk h11 a1 = 2) <|
  ck_bd (f_DS_trackAt F a1 r10 h11) fun r14 h15 =>
  ck_opt r14 (
    ck_as (gk h15 a0 = 3) <|
    ck_some (gR h15 a0 0) fun b20 =>
    ck_as (gk h15 b20 = 6) <|
    if (gI h15 b20 1) = (0 : Int32) then
      some ((), h15)
    else
      some ((), h15)
  ) fun b18 =>
  ck_as (gk h15 a0 = 3) <|
  ck_some (gR h15 a0 0) fun b25 =>
  ck_as (gk h15 b25 = 6) <|
  if (gI h15 b25 1) = (0 : Int32) then
    some ((), h15)
  else
    ck_as (gk h15 a1 = 2) <|
    ck_bd (f_DS_blockLead F a1 h15) fun r30 h31 =>
    if (0 : Int32) < r30 then
      ck_as (gk h31 a0 = 3) <|
      ck_some (gR h31 a0 0) fun b35 =>
      ck_some (gR h31 a0 0) fun b37 =>
      ck_as (gk h31 b37 = 6) <|
      ck_as (gk h31 b35 = 6) <|
      ck_bd (f_Rw_setPair F b35 0 (gI h31 b37 1) h31) fun _ h42 =>
      f_Mk_writeBlock_J59 F a0 a1 r10 b18 h42
    else
      f_Mk_writeBlock_J59 F a0 a1 r10 b18 h31
set_option maxRecDepth 100000 in
set_option maxHeartbeats 4000000 in
theorem s_Mk_writeBlock {F : Nat} {a0 : Nat} {a1 : Nat} {h h' : ck_H} {r : Unit} (e : f_Mk_writeBlock F a0 a1 h = some (r, h')) : Go k_Mk_writeBlock 0 (ck_in [.ref a0, .ref a1] 6) [] h (none, h') := by
  unfold f_Mk_writeBlock at e
  show Go k_Mk_writeBlock 0 [some (.ref a0), some (.ref a1), none, none, none, none] [] h _
  refine go_aload_n rfl rfl ?_
  refine go_aload_n rfl rfl ?_
  replace e := ck_as_e e
  obtain ⟨hk_1, e⟩ := e
  replace e := ck_bd_e e
  obtain ⟨r2, h3, e4, e⟩ := e
  refine go_callV (As := []) (b0 := a1) (rest := [.ref a1]) rfl rfl ⟨hk_1, by decide⟩ rfl ⟨Nat.le_of_ble_eq_true rfl, Nat.le_of_ble_eq_true rfl, Nat.le_of_ble_eq_true rfl, Nat.le_of_ble_eq_true rfl⟩ (s_DS_lastBlockTrack e4) ?_
  show Go k_Mk_writeBlock 5 [some (.ref a0), some (.ref a1), none, none, none, none] [.int r2, .ref a1] h3 _
  refine go_aload_n rfl rfl ?_
  replace e := ck_as_e e
  obtain ⟨hk_5, e⟩ := e
  replace e := ck_some_e e
  obtain ⟨b6, hq_7, e⟩ := e
  refine go_get (v := .ref b6) rfl rfl hk_5 (by decide) (by show va_rf (gR h3 a0 0) = _; rw [hq_7]; rfl) ?_
  replace e := ck_as_e e
  obtain ⟨hk_8, e⟩ := e
  refine go_get (v := .int (gI h3 b6 1)) rfl rfl hk_8 (by decide) rfl ?_
  replace e := ck_as_e e
  obtain ⟨hk_9, e⟩ := e
  replace e := ck_bd_e e
  obtain ⟨r10, h11, e12, e⟩ := e
  refine go_callV (As := [.int r2, .int (gI h3 b6 1)]) (b0 := a1) (rest := []) rfl rfl ⟨hk_9, by decide⟩ rfl ⟨Nat.le_of_ble_eq_true rfl, Nat.le_of_ble_eq_true rfl, Nat.le_of_ble_eq_true rfl, Nat.le_of_ble_eq_true rfl⟩ (s_DS_roomFrom e12) ?_
  show Go k_Mk_writeBlock 15 [some (.ref a0), some (.ref a1), none, none, none, none] [.int r10] h11 _
  refine go_istore_n rfl rfl ?_
  show Go k_Mk_writeBlock 16 [some (.ref a0), some (.ref a1), some (.int r10), none, none, none] [] h11 _
  refine go_aload_n rfl rfl ?_
  refine go_iload_n rfl rfl ?_
  replace e := ck_as_e e
  obtain ⟨hk_13, e⟩ := e
  replace e := ck_bd_e e
  obtain ⟨r14, h15, e16, e⟩ := e
  refine go_callV (As := [.int r10]) (b0 := a1) (rest := []) rfl rfl ⟨hk_13, by decide⟩ rfl ⟨Nat.le_of_ble_eq_true rfl, Nat.le_of_ble_eq_true rfl, Nat.le_of_ble_eq_true rfl, Nat.le_of_ble_eq_true rfl⟩ (s_DS_trackAt e16) ?_
  replace e := ck_opt_e e
  rcases e with ⟨hq_17, e⟩ | ⟨b18, hq_17, e⟩
  · subst hq_17
    show Go k_Mk_writeBlock 21 [some (.ref a0), some (.ref a1), some (.int r10), none, none, none] [.null] h15 _
    refine go_astore_nN rfl rfl ?_
    show Go k_Mk_writeBlock 22 [some (.ref a0), some (.ref a1), some (.int r10), some .null, none, none] [] h15 _
    refine go_aload_n rfl rfl ?_
    replace e := ck_as_e e
    obtain ⟨hk_19, e⟩ := e
    replace e := ck_some_e e
    obtain ⟨b20, hq_21, e⟩ := e
    refine go_get (v := .ref b20) rfl rfl hk_19 (by decide) (by show va_rf (gR h15 a0 0) = _; rw [hq_21]; rfl) ?_
    replace e := ck_as_e e
    obtain ⟨hk_22, e⟩ := e
    refine go_get (v := .int (gI h15 b20 1)) rfl rfl hk_22 (by decide) rfl ?_
    refine go_if_eq (t := 36) rfl rfl (fun hx_23 => ?_) (fun hx_23 => ?_)
    · rw [if_pos hx_23] at e
      cases e
      exact go_ret rfl rfl
    · rw [if_neg hx_23] at e
      refine go_aload_nN rfl rfl ?_
      refine go_ifnonnullN rfl ?_
      cases e
      exact go_ret rfl rfl
  subst hq_17
  show Go k_Mk_writeBlock 21 [some (.ref a0), some (.ref a1), some (.int r10), none, none, none] [.ref b18] h15 _
  refine go_astore_n rfl rfl ?_
  show Go k_Mk_writeBlock 22 [some (.ref a0), some (.ref a1), some (.int r10), some (.ref b18), none, none] [] h15 _
  refine go_aload_n rfl rfl ?_
  replace e := ck_as_e e
  obtain ⟨hk_24, e⟩ := e
  replace e := ck_some_e e
  obtain ⟨b25, hq_26, e⟩ := e
  refine go_get (v := .ref b25) rfl rfl hk_24 (by decide) (by show va_rf (gR h15 a0 0) = _; rw [hq_26]; rfl) ?_
  replace e := ck_as_e e
  obtain ⟨hk_27, e⟩ := e
  refine go_get (v := .int (gI h15 b25 1)) rfl rfl hk_27 (by decide) rfl ?_
  refine go_if_eq (t := 36) rfl rfl (fun hx_28 => ?_) (fun hx_28 => ?_)
  · rw [if_pos hx_28] at e
    cases e
    exact go_ret rfl rfl
  · rw [if_neg hx_28] at e
    refine go_aload_n rfl rfl ?_
    refine go_ifnonnull (t := 37) rfl rfl ?_
    refine go_aload_n rfl rfl ?_
    replace e := ck_as_e e
    obtain ⟨hk_29, e⟩ := e
    replace e := ck_bd_e e
    obtain ⟨r30, h31, e32, e⟩ := e
    refine go_callV (As := []) (b0 := a1) (rest := []) rfl rfl ⟨hk_29, by decide⟩ rfl ⟨Nat.le_of_ble_eq_true rfl, Nat.le_of_ble_eq_true rfl, Nat.le_of_ble_eq_true rfl, Nat.le_of_ble_eq_true rfl⟩ (s_DS_blockLead e32) ?_
    show Go k_Mk_writeBlock 41 [some (.ref a0), some (.ref a1), some (.int r10), some (.ref b18), none, none] [.int r30] h31 _
    refine go_if_le (t := 59) rfl rfl (fun hx_33 => ?_) (fun hx_33 => ?_)
    · rw [if_pos hx_33] at e
      refine go_aload_n rfl rfl ?_
      replace e := ck_as_e e
      obtain ⟨hk_34, e⟩ := e
      replace e := ck_some_e e
      obtain ⟨b35, hq_36, e⟩ := e
      refine go_get (v := .ref b35) rfl rfl hk_34 (by decide) (by show va_rf (gR h31 a0 0) = _; rw [hq_36]; rfl) ?_
      refine go_iconst (v := 0) rfl (by decide) ?_
      refine go_aload_n rfl rfl ?_
      replace e := ck_some_e e
      obtain ⟨b37, hq_38, e⟩ := e
      refine go_get (v := .ref b37) rfl rfl hk_34 (by decide) (by show va_rf (gR h31 a0 0) = _; rw [hq_38]; rfl) ?_
      replace e := ck_as_e e
      obtain ⟨hk_39, e⟩ := e
      refine go_get (v := .int (gI h31 b37 1)) rfl rfl hk_39 (by decide) rfl ?_
      replace e := ck_as_e e
      obtain ⟨hk_40, e⟩ := e
      replace e := ck_bd_e e
      obtain ⟨r41, h42, e43, e⟩ := e
      refine go_callV (As := [.int 0, .int (gI h31 b37 1)]) (b0 := b35) (rest := []) rfl rfl ⟨hk_40, by decide⟩ rfl ⟨Nat.le_of_ble_eq_true rfl, Nat.le_of_ble_eq_true rfl, Nat.le_of_ble_eq_true rfl, Nat.le_of_ble_eq_true rfl⟩ (s_Rw_setPair e43) ?_
      show Go k_Mk_writeBlock 59 [some (.ref a0), some (.ref a1), some (.int r10), some (.ref b18), none, none] [] h42 _
      refine go_forget (l := [some (.ref a0), some (.ref a1), some (.int r10), some (.ref b18), none, none]) ⟨Or.inl rfl, Or.inl rfl, Or.inl rfl, Or.inl rfl, Or.inl rfl, Or.inl rfl, trivial⟩ ?_
      exact f_Mk_writeBlock_J59_s F a0 a1 r10 b18 _ _ _ e
    · rw [if_neg hx_33] at e
      refine go_forget (l := [some (.ref a0), some (.ref a1), some (.int r10), some (.ref b18), none, none]) ⟨Or.inl rfl, Or.inl rfl, Or.inl rfl, Or.inl rfl, Or.inl rfl, Or.inl rfl, trivial⟩ ?_
      exact f_Mk_writeBlock_J59_s F a0 a1 r10 b18 _ _ _ e
