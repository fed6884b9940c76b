def f_CS_status (F : Nat) (a0 : Nat) (v1 : Int32) (h : ck_H) : Option (Int32 × ck_H) :=
  if v1 = 0 then
    ck_as (gk h a0 = 11) <|
    ck_some (gR h a0 5) fun b3 =>
    ck_as (gk h b3 = 0) <|
    some (gI h b3 8, h)
  else
  if v1 = 1 then
    ck_as (gk h a0 = 11) <|
    ck_some (gR h a0 5) fun b8 =>
    ck_as (gk h b8 = 0) <|
    some (gI h b8 9, h)
  else
  if v1 = 2 then
    ck_as (gk h a0 = 11) <|
    ck_some (gR h a0 5) fun b13 =>
    ck_as (gk h b13 = 0) <|
    some (gI h b13 10, h)
  else
  if v1 = 3 then
    ck_as (gk h a0 = 11) <|
    ck_some (gR h a0 5) fun b18 =>
    ck_as (gk h b18 = 0) <|
    some (gI h b18 11, h)
  else
    some ((-1), h)
set_option maxRecDepth 100000 in
set_option maxHeartbeats 4000000 in
theorem s_CS_status {F : Nat} {a0 : Nat} {v1 : Int32} {h h' : ck_H} {r : Int32} (e : f_CS_status F a0 v1 h = some (r, h')) : Go k_CS_status 0 (ck_in [.ref a0, .int v1] 2) [] h (some (.int r), h') := by
  unfold f_CS_status at e
  show Go k_CS_status 0 [some (.ref a0), some (.int v1)] [] h _
  refine go_iload_n rfl rfl ?_
  by_cases hx_1 : v1 = 0
  · rw [if_pos hx_1] at e
    refine go_tswI (off := 31) (t := 32) rfl (by rw [hx_1]; decide) (by rw [hx_1]; rfl) rfl ?_
    refine go_aload_n rfl rfl ?_
    replace e := ck_as_e e
    obtain ⟨hk_2, e⟩ := e
    replace e := ck_some_e e
    obtain ⟨b3, hq_4, e⟩ := e
    refine go_get (v := .ref b3) rfl rfl hk_2 (by decide) (by show va_rf (gR h a0 5) = _; rw [hq_4]; rfl) ?_
    replace e := ck_as_e e
    obtain ⟨hk_5, e⟩ := e
    refine go_get (v := .int (gI h b3 8)) rfl rfl hk_5 (by decide) rfl ?_
    cases e
    exact go_ret rfl rfl
  rw [if_neg hx_1] at e
  by_cases hx_6 : v1 = 1
  · rw [if_pos hx_6] at e
    refine go_tswI (off := 39) (t := 40) rfl (by rw [hx_6]; decide) (by rw [hx_6]; rfl) rfl ?_
    refine go_aload_n rfl rfl ?_
    replace e := ck_as_e e
    obtain ⟨hk_7, e⟩ := e
    replace e := ck_some_e e
    obtain ⟨b8, hq_9, e⟩ := e
    refine go_get (v := .ref b8) rfl rfl hk_7 (by decide) (by show va_rf (gR h a0 5) = _; rw [hq_9]; rfl) ?_
    replace e := ck_as_e e
    obtain ⟨hk_10, e⟩ := e
    refine go_get (v := .int (gI h b8 9)) rfl rfl hk_10 (by decide) rfl ?_
    cases e
    exact go_ret rfl rfl
  rw [if_neg hx_6] at e
  by_cases hx_11 : v1 = 2
  · rw [if_pos hx_11] at e
    refine go_tswI (off := 47) (t := 48) rfl (by rw [hx_11]; decide) (by rw [hx_11]; rfl) rfl ?_
    refine go_aload_n rfl rfl ?_
    replace e := ck_as_e e
    obtain ⟨hk_12, e⟩ := e
    replace e := ck_some_e e
    obtain ⟨b13, hq_14, e⟩ := e
    refine go_get (v := .ref b13) rfl rfl hk_12 (by decide) (by show va_rf (gR h a0 5) = _; rw [hq_14]; rfl) ?_
    replace e := ck_as_e e
    obtain ⟨hk_15, e⟩ := e
    refine go_get (v := .int (gI h b13 10)) rfl rfl hk_15 (by decide) rfl ?_
    cases e
    exact go_ret rfl rfl
  rw [if_neg hx_11] at e
  by_cases hx_16 : v1 = 3
  · rw [if_pos hx_16] at e
    refine go_tswI (off := 55) (t := 56) rfl (by rw [hx_16]; decide) (by rw [hx_16]; rfl) rfl ?_
    refine go_aload_n rfl rfl ?_
    replace e := ck_as_e e
    obtain ⟨hk_17, e⟩ := e
    replace e := ck_some_e e
    obtain ⟨b18, hq_19, e⟩ := e
    refine go_get (v := .ref b18) rfl rfl hk_17 (by decide) (by show va_rf (gR h a0 5) = _; rw [hq_19]; rfl) ?_
    replace e := ck_as_e e
    obtain ⟨hk_20, e⟩ := e
    refine go_get (v := .int (gI h b18 11)) rfl rfl hk_20 (by decide) rfl ?_
    cases e
    exact go_ret rfl rfl
  rw [if_neg hx_16] at e
  have hz_ : (v1 : Int32).toInt < 0 ∨ 3 < (v1 : Int32).toInt := by
    have z0 := lv_neT hx_1 (k := 0) (a := 0) rfl
    have z1 := lv_neT hx_6 (k := 1) (a := 1) rfl
    have z2 := lv_neT hx_11 (k := 2) (a := 2) rfl
    have z3 := lv_neT hx_16 (k := 3) (a := 3) rfl
    omega
  refine go_tswO (m := k_CS_status) (pc := 1) (t := 64) (d := 63) (offs := #[31, 39, 47, 55]) rfl hz_ rfl ?_
  refine go_iconst (v := (-1)) rfl (by decide) ?_
  cases e
  exact go_ret rfl rfl
def f_CS_time (F : Nat) (a0 : Nat) (h : ck_H) : Option (Int64 × ck_H) :=
  ck_as (gk h a0 = 11) <|
  ck_some (gR h a0 5) fun b2 =>
  ck_as (gk h b2 = 0) <|
  some (gJ h b2 7, h)
set_option maxRecDepth 100000 in
set_option maxHeartbeats 4000000 in
theorem s_CS_time {F : Nat} {a0 : Nat} {h h' : ck_H} {r : Int64} (e : f_CS_time F a0 h = some (r, h')) : Go k_CS_time 0 (ck_in [.ref a0] 1) [] h (some (.long r), h') := by
  unfold f_CS_time at e
  show Go k_CS_time 0 [some (.ref a0)] [] h _
  refine go_aload_n rfl rfl ?_
  replace e := ck_as_e e
  obtain ⟨hk_1, e⟩ := e
  replace e := ck_some_e e
  obtain ⟨b2, hq_3, e⟩ := e
  refine go_get (v := .ref b2) rfl rfl hk_1 (by decide) (by show va_rf (gR h a0 5) = _; rw [hq_3]; rfl) ?_
  replace e := ck_as_e e
  obtain ⟨hk_4, e⟩ := e
  refine go_get (v := .long (gJ h b2 7)) rfl rfl hk_4 (by decide) rfl ?_
  cases e
  exact go_ret rfl rfl
def f_CS_arm (F : Nat) (a0 : Nat) (v1 : Int32) (v2 : Int32) (h : ck_H) : Option (Int32 × ck_H) :=
  ck_as (gk h a0 = 11) <|
  ck_bd (f_CS_unitAt F a0 v1 h) fun r2 h3 =>
  ck_opt r2 (
    some ((-2), h3)
  ) fun b6 =>
  if v2 < (0 : Int32) then
    some ((-2), h3)
  else
    if (1 : Int32) < v2 then
      some ((-2), h3)
    else
      if v2 = (0 : Int32) then
        ck_as (gk h3 b6 = 9) <|
        some (gI h3 b6 1, h3)
      else
        ck_as (gk h3 b6 = 9) <|
        some (gI h3 b6 2, h3)
set_option maxRecDepth 100000 in
set_option maxHeartbeats 4000000 in
theorem s_CS_arm {F : Nat} {a0 : Nat} {v1 : Int32} {v2 : Int32} {h h' : ck_H} {r : Int32} (e : f_CS_arm F a0 v1 v2 h = some (r, h')) : Go k_CS_arm 0 (ck_in [.ref a0, .int v1, .int v2] 4) [] h (some (.int r), h') := by
  unfold f_CS_arm at e
  show Go k_CS_arm 0 [some (.ref a0), some (.int v1), some (.int v2), none] [] h _
  refine go_aload_n rfl rfl ?_
  refine go_iload_n rfl rfl ?_
  replace e := ck_as_e e
  obtain ⟨hk_1, e⟩ := e
  replace e := ck_bd_e e
  obtain ⟨r2, h3, e4, e⟩ := e
  refine go_callV (As := [.int v1]) (b0 := a0) (rest := []) rfl rfl ⟨hk_1, by decide⟩ rfl ⟨Nat.le_of_ble_eq_true rfl, Nat.le_of_ble_eq_true rfl, Nat.le_of_ble_eq_true rfl, Nat.le_of_ble_eq_true rfl⟩ (s_CS_unitAt e4) ?_
  replace e := ck_opt_e e
  rcases e with ⟨hq_5, e⟩ | ⟨b6, hq_5, e⟩
  · subst hq_5
    show Go k_CS_arm 5 [some (.ref a0), some (.int v1), some (.int v2), none] [.null] h3 _
    refine go_astore_nN rfl rfl ?_
    show Go k_CS_arm 6 [some (.ref a0), some (.int v1), some (.int v2), some .null] [] h3 _
    refine go_aload_nN rfl rfl ?_
    refine go_ifnullN (t := 19) rfl rfl ?_
    refine go_bipush (v := (-2)) rfl (by decide) ?_
    cases e
    exact go_ret rfl rfl
  subst hq_5
  show Go k_CS_arm 5 [some (.ref a0), some (.int v1), some (.int v2), none] [.ref b6] h3 _
  refine go_astore_n rfl rfl ?_
  show Go k_CS_arm 6 [some (.ref a0), some (.int v1), some (.int v2), some (.ref b6)] [] h3 _
  refine go_aload_n rfl rfl ?_
  refine go_ifnull rfl ?_
  refine go_iload_n rfl rfl ?_
  refine go_if_lt (t := 19) rfl rfl (fun hx_7 => ?_) (fun hx_7 => ?_)
  · rw [if_pos hx_7] at e
    refine go_bipush (v := (-2)) rfl (by decide) ?_
    cases e
    exact go_ret rfl rfl
  · rw [if_neg hx_7] at e
    refine go_iload_n rfl rfl ?_
    refine go_iconst (v := 1) rfl (by decide) ?_
    refine go_icmp_le (t := 22) rfl rfl (fun hx_8 => ?_) (fun hx_8 => ?_)
    · rw [if_pos hx_8] at e
      refine go_bipush (v := (-2)) rfl (by decide) ?_
      cases e
      exact go_ret rfl rfl
    · rw [if_neg hx_8] at e
      refine go_iload_n rfl rfl ?_
      refine go_if_ne (t := 33) rfl rfl (fun hx_9 => ?_) (fun hx_9 => ?_)
      · rw [if_pos hx_9] at e
        refine go_aload_n rfl rfl ?_
        replace e := ck_as_e e
        obtain ⟨hk_10, e⟩ := e
        refine go_get (v := .int (gI h3 b6 1)) rfl rfl hk_10 (by decide) rfl ?_
        refine go_goto (t := 37) rfl rfl ?_
        cases e
        exact go_ret rfl rfl
      · rw [if_neg hx_9] at e
        refine go_aload_n rfl rfl ?_
        replace e := ck_as_e e
        obtain ⟨hk_11, e⟩ := e
        refine go_get (v := .int (gI h3 b6 2)) rfl rfl hk_11 (by decide) rfl ?_
        cases e
        exact go_ret rfl rfl
def f_Un_trackAt (F : Nat) (a0 : Nat) (v1 : Int32) (h : ck_H) : Option (Option Nat × ck_H) :=
  if v1 < (0 : Int32) then
    some (none, h)
  else
    if v1 < (80 : Int32) then
      ck_as (gk h a0 = 9) <|
      ck_some (gR h a0 0) fun b4 =>
      ck_as ((16 ≤ gk h b4 ∧ gk h b4 ≤ 20) ∧ ¬ v1 < 0 ∧ (v1 : Int32).toNatClampNeg < gz h b4) <|
      ck_opt (gR h b4 (v1 : Int32).toNatClampNeg) (
        some (none, h)
      ) fun b8 =>
      some (some b8, h)
    else
      some (none, h)
set_option maxRecDepth 100000 in
set_option maxHeartbeats 4000000 in
theorem s_Un_trackAt {F : Nat} {a0 : Nat} {v1 : Int32} {h h' : ck_H} {r : Option Nat} (e : f_Un_trackAt F a0 v1 h = some (r, h')) : Go k_Un_trackAt 0 (ck_in [.ref a0, .int v1] 2) [] h (some (va_rf r), h') := by
  unfold f_Un_trackAt at e
  show Go k_Un_trackAt 0 [some (.ref a0), some (.int v1)] [] h _
  refine go_iload_n rfl rfl ?_
  refine go_if_lt (t := 10) rfl rfl (fun hx_1 => ?_) (fun hx_1 => ?_)
  · rw [if_pos hx_1] at e
    refine go_null rfl ?_
    refine go_goto (t := 20) rfl rfl ?_
    cases e
    exact go_ret rfl rfl
  · rw [if_neg hx_1] at e
    refine go_iload_n rfl rfl ?_
    refine go_bipush (v := 80) rfl (by decide) ?_
    refine go_icmp_lt (t := 14) rfl rfl (fun hx_2 => ?_) (fun hx_2 => ?_)
    · rw [if_pos hx_2] at e
      refine go_aload_n rfl rfl ?_
      replace e := ck_as_e e
      obtain ⟨hk_3, e⟩ := e
      replace e := ck_some_e e
      obtain ⟨b4, hq_5, e⟩ := e
      refine go_get (v := .ref b4) rfl rfl hk_3 (by decide) (by show va_rf (gR h a0 0) = _; rw [hq_5]; rfl) ?_
      refine go_iload_n rfl rfl ?_
      replace e := ck_as_e e
      obtain ⟨hc_6, e⟩ := e
      replace e := ck_opt_e e
      rcases e with ⟨hq_7, e⟩ | ⟨b8, hq_7, e⟩
      · refine go_aald (v := .null) rfl hc_6 (by rw [hq_7]; rfl) ?_
        cases e
        exact go_ret rfl rfl
      refine go_aald (v := .ref b8) rfl hc_6 (by rw [hq_7]; rfl) ?_
      cases e
      exact go_ret rfl rfl
    · rw [if_neg hx_2] at e
      refine go_null rfl ?_
      refine go_goto (t := 20) rfl rfl ?_
      cases e
      exact go_ret rfl rfl
def f_CS_trackAt (F : Nat) (a0 : Nat) (v1 : Int32) (v2 : Int32) (h : ck_H) : Option (Option Nat × ck_H) :=
  ck_as (gk h a0 = 11) <|
  ck_bd (f_CS_unitAt F a0 v1 h) fun r2 h3 =>
  ck_opt r2 (
    some (none, h3)
  ) fun b6 =>
  ck_as (gk h3 b6 = 9) <|
  ck_bd (f_Un_trackAt F b6 v2 h3) fun r8 h9 =>
  ck_opt r8 (
    some (none, h9)
  ) fun b12 =>
  some (some b12, h9)
set_option maxRecDepth 100000 in
set_option maxHeartbeats 4000000 in
theorem s_CS_trackAt {F : Nat} {a0 : Nat} {v1 : Int32} {v2 : Int32} {h h' : ck_H} {r : Option Nat} (e : f_CS_trackAt F a0 v1 v2 h = some (r, h')) : Go k_CS_trackAt 0 (ck_in [.ref a0, .int v1, .int v2] 4) [] h (some (va_rf r), h') := by
  unfold f_CS_trackAt at e
  show Go k_CS_trackAt 0 [some (.ref a0), some (.int v1), some (.int v2), none] [] h _
  refine go_aload_n rfl rfl ?_
  refine go_iload_n rfl rfl ?_
  replace e := ck_as_e e
  obtain ⟨hk_1, e⟩ := e
  replace e := ck_bd_e e
  obtain ⟨r2, h3, e4, e⟩ := e
  refine go_callV (As := [.int v1]) (b0 := a0) (rest := []) rfl rfl ⟨hk_1, by decide⟩ rfl ⟨Nat.le_of_ble_eq_true rfl, Nat.le_of_ble_eq_true rfl, Nat.le_of_ble_eq_true rfl, Nat.le_of_ble_eq_true rfl⟩ (s_CS_unitAt e4) ?_
  replace e := ck_opt_e e
  rcases e with ⟨hq_5, e⟩ | ⟨b6, hq_5, e⟩
  · subst hq_5
    show Go k_CS_trackAt 5 [some (.ref a0), some (.int v1), some (.int v2), none] [.null] h3 _
    refine go_astore_nN rfl rfl ?_
    show Go k_CS_trackAt 6 [some (.ref a0), some (.int v1), some (.int v2), some .null] [] h3 _
    refine go_aload_nN rfl rfl ?_
    refine go_ifnonnullN rfl ?_
    refine go_null rfl ?_
    refine go_goto (t := 19) rfl rfl ?_
    cases e
    exact go_ret rfl rfl
  subst hq_5
  show Go k_CS_trackAt 5 [some (.ref a0), some (.int v1), some (.int v2), none] [.ref b6] h3 _
  refine go_astore_n rfl rfl ?_
  show Go k_CS_trackAt 6 [some (.ref a0), some (.int v1), some (.int v2), some (.ref b6)] [] h3 _
  refine go_aload_n rfl rfl ?_
  refine go_ifnonnull (t := 14) rfl rfl ?_
  refine go_aload_n rfl rfl ?_
  refine go_iload_n rfl rfl ?_
  replace e := ck_as_e e
  obtain ⟨hk_7, e⟩ := e
  replace e := ck_bd_e e
  obtain ⟨r8, h9, e10, e⟩ := e
  refine go_callV (As := [.int v2]) (b0 := b6) (rest := []) rfl rfl ⟨hk_7, by decide⟩ rfl ⟨Nat.le_of_ble_eq_true rfl, Nat.le_of_ble_eq_true rfl, Nat.le_of_ble_eq_true rfl, Nat.le_of_ble_eq_true rfl⟩ (s_Un_trackAt e10) ?_
  replace e := ck_opt_e e
  rcases e with ⟨hq_11, e⟩ | ⟨b12, hq_11, e⟩
  · subst hq_11
    show Go k_CS_trackAt 19 [some (.ref a0), some (.int v1), some (.int v2), some (.ref b6)] [.null] h9 _
    cases e
    exact go_ret rfl rfl
  subst hq_11
  show Go k_CS_trackAt 19 [some (.ref a0), some (.int v1), some (.int v2), some (.ref b6)] [.ref b12] h9 _
  cases e
  exact go_ret rfl rfl
def f_CS_bytesOf (F : Nat) (a0 : Nat) (v1 : Int32) (v2 : Int32) (h : ck_H) : Option (Int32 × ck_H) :=
  if v2 < (200 : Int32) then
    if v2 < (100 : Int32) then
      some ((-1), h)
    else
      ck_then (v2 - 100) fun x3 =>
      ck_as (gk h a0 = 8) <|
      ck_bd (f_Tr_keyLength F a0 v1 h) fun r5 h6 =>
      if x3 < r5 then
        ck_as (gk h6 a0 = 8) <|
        ck_bd (f_Tr_byteOf F a0 v1 x3 h6) fun r10 h11 =>
        some (r10, h11)
      else
        some ((-1), h6)
  else
    ck_then (v2 - 200) fun x13 =>
    ck_as (gk h a0 = 8) <|
    ck_bd (f_Tr_dataLength F a0 v1 h) fun r15 h16 =>
    if x13 < r15 then
      ck_as (gk h16 a0 = 8) <|
      ck_bd (f_Tr_keyLength F a0 v1 h16) fun r20 h21 =>
      ck_as (gk h21 a0 = 8) <|
      ck_bd (f_Tr_byteOf F a0 v1 (r20 + x13) h21) fun r24 h25 =>
      some (r24, h25)
    else
      some ((-1), h16)
set_option maxRecDepth 100000 in
set_option maxHeartbeats 4000000 in
theorem s_CS_bytesOf {F : Nat} {a0 : Nat} {v1 : Int32} {v2 : Int32} {h h' : ck_H} {r : Int32} (e : f_CS_bytesOf F a0 v1 v2 h = some (r, h')) : Go k_CS_bytesOf 0 (ck_in [.ref a0, .int v1, .int v2] 4) [] h (some (.int r), h') := by
  unfold f_CS_bytesOf at e
  show Go k_CS_bytesOf 0 [some (.ref a0), some (.int v1), some (.int v2), none] [] h _
  refine go_iload_n rfl rfl ?_
  refine go_sipush (v := 200) rfl (by decide) ?_
  refine go_icmp_lt (t := 39) rfl rfl (fun hx_1 => ?_) (fun hx_1 => ?_)
  · rw [if_pos hx_1] at e
    refine go_iload_n rfl rfl ?_
    refine go_bipush (v := 100) rfl (by decide) ?_
    refine go_icmp_lt (t := 70) rfl rfl (fun hx_2 => ?_) (fun hx_2 => ?_)
    · rw [if_pos hx_2] at e
      refine go_iconst (v := (-1)) rfl (by decide) ?_
      cases e
      exact go_ret rfl rfl
    · rw [if_neg hx_2] at e
      refine go_iload_n rfl rfl ?_
      refine go_bipush (v := 100) rfl (by decide) ?_
      refine go_isub rfl ?_
      generalize v2 - 100 = x3 at e ⊢
      replace e := ck_then_e e
      refine go_istore_n rfl rfl ?_
      show Go k_CS_bytesOf 50 [some (.ref a0), some (.int v1), some (.int v2), some (.int x3)] [] h _
      refine go_iload_n rfl rfl ?_
      refine go_aload_n rfl rfl ?_
      refine go_iload_n rfl rfl ?_
      replace e := ck_as_e e
      obtain ⟨hk_4, e⟩ := e
      replace e := ck_bd_e e
      obtain ⟨r5, h6, e7, e⟩ := e
      refine go_callV (As := [.int v1]) (b0 := a0) (rest := [.int x3]) rfl rfl ⟨hk_4, by decide⟩ rfl ⟨Nat.le_of_ble_eq_true rfl, Nat.le_of_ble_eq_true rfl, Nat.le_of_ble_eq_true rfl, Nat.le_of_ble_eq_true rfl⟩ (s_Tr_keyLength e7) ?_
      show Go k_CS_bytesOf 56 [some (.ref a0), some (.int v1), some (.int v2), some (.int x3)] [.int r5, .int x3] h6 _
      refine go_icmp_ge (t := 68) rfl rfl (fun hx_8 => ?_) (fun hx_8 => ?_)
      · rw [if_pos hx_8] at e
        refine go_aload_n rfl rfl ?_
        refine go_iload_n rfl rfl ?_
        refine go_iload_n rfl rfl ?_
        replace e := ck_as_e e
        obtain ⟨hk_9, e⟩ := e
        replace e := ck_bd_e e
        obtain ⟨r10, h11, e12, e⟩ := e
        refine go_callV (As := [.int v1, .int x3]) (b0 := a0) (rest := []) rfl rfl ⟨hk_9, by decide⟩ rfl ⟨Nat.le_of_ble_eq_true rfl, Nat.le_of_ble_eq_true rfl, Nat.le_of_ble_eq_true rfl, Nat.le_of_ble_eq_true rfl⟩ (s_Tr_byteOf e12) ?_
        show Go k_CS_bytesOf 65 [some (.ref a0), some (.int v1), some (.int v2), some (.int x3)] [.int r10] h11 _
        refine go_goto (t := 69) rfl rfl ?_
        cases e
        exact go_ret rfl rfl
      · rw [if_neg hx_8] at e
        refine go_iconst (v := (-1)) rfl (by decide) ?_
        cases e
        exact go_ret rfl rfl
  · rw [if_neg hx_1] at e
    refine go_iload_n rfl rfl ?_
    refine go_sipush (v := 200) rfl (by decide) ?_
    refine go_isub rfl ?_
    generalize v2 - 200 = x13 at e ⊢
    replace e := ck_then_e e
    refine go_istore_n rfl rfl ?_
    show Go k_CS_bytesOf 13 [some (.ref a0), some (.int v1), some (.int v2), some (.int x13)] [] h _
    refine go_iload_n rfl rfl ?_
    refine go_aload_n rfl rfl ?_
    refine go_iload_n rfl rfl ?_
    replace e := ck_as_e e
    obtain ⟨hk_14, e⟩ := e
    replace e := ck_bd_e e
    obtain ⟨r15, h16, e17, e⟩ := e
    refine go_callV (As := [.int v1]) (b0 := a0) (rest := [.int x13]) rfl rfl ⟨hk_14, by decide⟩ rfl ⟨Nat.le_of_ble_eq_true rfl, Nat.le_of_ble_eq_true rfl, Nat.le_of_ble_eq_true rfl, Nat.le_of_ble_eq_true rfl⟩ (s_Tr_dataLength e17) ?_
    show Go k_CS_bytesOf 19 [some (.ref a0), some (.int v1), some (.int v2), some (.int x13)] [.int r15, .int x13] h16 _
    refine go_icmp_ge (t := 37) rfl rfl (fun hx_18 => ?_) (fun hx_18 => ?_)
    · rw [if_pos hx_18] at e
      refine go_aload_n rfl rfl ?_
      refine go_iload_n rfl rfl ?_
      refine go_aload_n rfl rfl ?_
      refine go_iload_n rfl rfl ?_
      replace e := ck_as_e e
      obtain ⟨hk_19, e⟩ := e
      replace e := ck_bd_e e
      obtain ⟨r20, h21, e22, e⟩ := e
      refine go_callV (As := [.int v1]) (b0 := a0) (rest := [.int v1, .ref a0]) rfl rfl ⟨hk_19, by decide⟩ rfl ⟨Nat.le_of_ble_eq_true rfl, Nat.le_of_ble_eq_true rfl, Nat.le_of_ble_eq_true rfl, Nat.le_of_ble_eq_true rfl⟩ (s_Tr_keyLength e22) ?_
      show Go k_CS_bytesOf 29 [some (.ref a0), some (.int v1), some (.int v2), some (.int x13)] [.int r20, .int v1, .ref a0] h21 _
      refine go_iload_n rfl rfl ?_
      refine go_iadd rfl ?_
      replace e := ck_as_e e
      obtain ⟨hk_23, e⟩ := e
      replace e := ck_bd_e e
      obtain ⟨r24, h25, e26, e⟩ := e
      refine go_callV (As := [.int v1, .int (r20 + x13)]) (b0 := a0) (rest := []) rfl rfl ⟨hk_23, by decide⟩ rfl ⟨Nat.le_of_ble_eq_true rfl, Nat.le_of_ble_eq_true rfl, Nat.le_of_ble_eq_true rfl, Nat.le_of_ble_eq_true rfl⟩ (s_Tr_byteOf e26) ?_
      show Go k_CS_bytesOf 34 [some (.ref a0), some (.int v1), some (.int v2), some (.int x13)] [.int r24] h25 _
      refine go_goto (t := 38) rfl rfl ?_
      cases e
      exact go_ret rfl rfl
    · rw [if_neg hx_18] at e
      refine go_iconst (v := (-1)) rfl (by decide) ?_
      cases e
      exact go_ret rfl rfl
def f_CS_record (F : Nat) (a0 : Nat) (v1 : Int32) (v2 : Int32) (v3 : Int32) (v4 : Int32) (h : ck_H) : Option (Int32 × ck_H) :=
  ck_as (gk h a0 = 11) <|
  ck_bd (f_CS_trackAt F a0 v1 v2 h) fun r2 h3 =>
  ck_opt r2 (
    some ((-1), h3)
  ) fun b6 =>
  ck_as (gk h3 b6 = 8) <|
  ck_bd (f_Tr_has F b6 v3 h3) fun r8 h9 =>
  if r8 = (0 : Int32) then
    some ((-1), h9)
  else
    if v4 = 0 then
      ck_as (gk h9 b6 = 8) <|
      ck_bd (f_Tr_countByte F b6 v3 v4 h9) fun r14 h15 =>
      some (r14, h15)
    else
    if v4 = 1 then
      ck_as (gk h9 b6 = 8) <|
      ck_bd (f_Tr_countByte F b6 v3 v4 h9) fun r19 h20 =>
      some (r19, h20)
    else
    if v4 = 2 then
      ck_as (gk h9 b6 = 8) <|
      ck_bd (f_Tr_countByte F b6 v3 v4 h9) fun r24 h25 =>
      some (r24, h25)
    else
    if v4 = 3 then
      ck_as (gk h9 b6 = 8) <|
      ck_bd (f_Tr_keyLength F b6 v3 h9) fun r29 h30 =>
      some (r29, h30)
    else
    if v4 = 4 then
      ck_as (gk h9 b6 = 8) <|
      ck_bd (f_Tr_dataLength F b6 v3 h9) fun r34 h35 =>
      some (r34, h35)
    else
    if v4 = 5 then
      ck_as (gk h9 b6 = 8) <|
      ck_bd (f_Tr_beginOf F b6 v3 h9) fun r39 h40 =>
      some (r39, h40)
    else
    if v4 = 6 then
      ck_as (gk h9 b6 = 8) <|
      ck_bd (f_Tr_isSpoiled F b6 v3 h9) fun r44 h45 =>
      if r44 = (0 : Int32) then
        some (0, h45)
      else
        some (1, h45)
    else
      ck_bd (f_CS_bytesOf F b6 v3 v4 h9) fun r48 h49 =>
      some (r48, h49)
set_option maxRecDepth 100000 in
set_option maxHeartbeats 4000000 in
theorem s_CS_record {F : Nat} {a0 : Nat} {v1 : Int32} {v2 : Int32} {v3 : Int32} {v4 : Int32} {h h' : ck_H} {r : Int32} (e : f_CS_record F a0 v1 v2 v3 v4 h = some (r, h')) : Go k_CS_record 0 (ck_in [.ref a0, .int v1, .int v2, .int v3, .int v4] 6) [] h (some (.int r), h') := by
  unfold f_CS_record at e
  show Go k_CS_record 0 [some (.ref a0), some (.int v1), some (.int v2), some (.int v3), some (.int v4), none] [] h _
  refine go_aload_n rfl rfl ?_
  refine go_iload_n rfl rfl ?_
  refine go_iload_n rfl rfl ?_
  replace e := ck_as_e e
  obtain ⟨hk_1, e⟩ := e
  replace e := ck_bd_e e
  obtain ⟨r2, h3, e4, e⟩ := e
  refine go_callV (As := [.int v1, .int v2]) (b0 := a0) (rest := []) rfl rfl ⟨hk_1, by decide⟩ rfl ⟨Nat.le_of_ble_eq_true rfl, Nat.le_of_ble_eq_true rfl, Nat.le_of_ble_eq_true rfl, Nat.le_of_ble_eq_true rfl⟩ (s_CS_trackAt e4) ?_
  replace e := ck_opt_e e
  rcases e with ⟨hq_5, e⟩ | ⟨b6, hq_5, e⟩
  · subst hq_5
    show Go k_CS_record 6 [some (.ref a0), some (.int v1), some (.int v2), some (.int v3), some (.int v4), none] [.null] h3 _
    refine go_astoreN rfl rfl ?_
    show Go k_CS_record 8 [some (.ref a0), some (.int v1), some (.int v2), some (.int v3), some (.int v4), some .null] [] h3 _
    refine go_aloadN rfl rfl ?_
    refine go_ifnullN (t := 22) rfl rfl ?_
    refine go_iconst (v := (-1)) rfl (by decide) ?_
    cases e
    exact go_ret rfl rfl
  subst hq_5
  show Go k_CS_record 6 [some (.ref a0), some (.int v1), some (.int v2), some (.int v3), some (.int v4), none] [.ref b6] h3 _
  refine go_astore rfl rfl ?_
  show Go k_CS_record 8 [some (.ref a0), some (.int v1), some (.int v2), some (.int v3), some (.int v4), some (.ref b6)] [] h3 _
  refine go_aload rfl rfl ?_
  refine go_ifnull rfl ?_
  refine go_aload rfl rfl ?_
  refine go_iload_n rfl rfl ?_
  replace e := ck_as_e e
  obtain ⟨hk_7, e⟩ := e
  replace e := ck_bd_e e
  obtain ⟨r8, h9, e10, e⟩ := e
  refine go_callV (As := [.int v3]) (b0 := b6) (rest := []) rfl rfl ⟨hk_7, by decide⟩ rfl ⟨Nat.le_of_ble_eq_true rfl, Nat.le_of_ble_eq_true rfl, Nat.le_of_ble_eq_true rfl, Nat.le_of_ble_eq_true rfl⟩ (s_Tr_has e10) ?_
  show Go k_CS_record 19 [some (.ref a0), some (.int v1), some (.int v2), some (.int v3), some (.int v4), some (.ref b6)] [.int r8] h9 _
  refine go_if_ne (t := 24) rfl rfl (fun hx_11 => ?_) (fun hx_11 => ?_)
  · rw [if_pos hx_11] at e
    refine go_iconst (v := (-1)) rfl (by decide) ?_
    cases e
    exact go_ret rfl rfl
  · rw [if_neg hx_11] at e
    refine go_iload rfl rfl ?_
    by_cases hx_12 : v4 = 0
    · rw [if_pos hx_12] at e
      refine go_tswI (off := 42) (t := 68) rfl (by rw [hx_12]; decide) (by rw [hx_12]; rfl) rfl ?_
      refine go_aload rfl rfl ?_
      refine go_iload_n rfl rfl ?_
      refine go_iload rfl rfl ?_
      replace e := ck_as_e e
      obtain ⟨hk_13, e⟩ := e
      replace e := ck_bd_e e
      obtain ⟨r14, h15, e16, e⟩ := e
      refine go_callV (As := [.int v3, .int v4]) (b0 := b6) (rest := []) rfl rfl ⟨hk_13, by decide⟩ rfl ⟨Nat.le_of_ble_eq_true rfl, Nat.le_of_ble_eq_true rfl, Nat.le_of_ble_eq_true rfl, Nat.le_of_ble_eq_true rfl⟩ (s_Tr_countByte e16) ?_
      show Go k_CS_record 76 [some (.ref a0), some (.int v1), some (.int v2), some (.int v3), some (.int v4), some (.ref b6)] [.int r14] h15 _
      cases e
      exact go_ret rfl rfl
    rw [if_neg hx_12] at e
    by_cases hx_17 : v4 = 1
    · rw [if_pos hx_17] at e
      refine go_tswI (off := 42) (t := 68) rfl (by rw [hx_17]; decide) (by rw [hx_17]; rfl) rfl ?_
      refine go_aload rfl rfl ?_
      refine go_iload_n rfl rfl ?_
      refine go_iload rfl rfl ?_
      replace e := ck_as_e e
      obtain ⟨hk_18, e⟩ := e
      replace e := ck_bd_e e
      obtain ⟨r19, h20, e21, e⟩ := e
      refine go_callV (As := [.int v3, .int v4]) (b0 := b6) (rest := []) rfl rfl ⟨hk_18, by decide⟩ rfl ⟨Nat.le_of_ble_eq_true rfl, Nat.le_of_ble_eq_true rfl, Nat.le_of_ble_eq_true rfl, Nat.le_of_ble_eq_true rfl⟩ (s_Tr_countByte e21) ?_
      show Go k_CS_record 76 [some (.ref a0), some (.int v1), some (.int v2), some (.int v3), some (.int v4), some (.ref b6)] [.int r19] h20 _
      cases e
      exact go_ret rfl rfl
    rw [if_neg hx_17] at e
    by_cases hx_22 : v4 = 2
    · rw [if_pos hx_22] at e
      refine go_tswI (off := 42) (t := 68) rfl (by rw [hx_22]; decide) (by rw [hx_22]; rfl) rfl ?_
      refine go_aload rfl rfl ?_
      refine go_iload_n rfl rfl ?_
      refine go_iload rfl rfl ?_
      replace e := ck_as_e e
      obtain ⟨hk_23, e⟩ := e
      replace e := ck_bd_e e
      obtain ⟨r24, h25, e26, e⟩ := e
      refine go_callV (As := [.int v3, .int v4]) (b0 := b6) (rest := []) rfl rfl ⟨hk_23, by decide⟩ rfl ⟨Nat.le_of_ble_eq_true rfl, Nat.le_of_ble_eq_true rfl, Nat.le_of_ble_eq_true rfl, Nat.le_of_ble_eq_true rfl⟩ (s_Tr_countByte e26) ?_
      show Go k_CS_record 76 [some (.ref a0), some (.int v1), some (.int v2), some (.int v3), some (.int v4), some (.ref b6)] [.int r24] h25 _
      cases e
      exact go_ret rfl rfl
    rw [if_neg hx_22] at e
    by_cases hx_27 : v4 = 3
    · rw [if_pos hx_27] at e
      refine go_tswI (off := 51) (t := 77) rfl (by rw [hx_27]; decide) (by rw [hx_27]; rfl) rfl ?_
      refine go_aload rfl rfl ?_
      refine go_iload_n rfl rfl ?_
      replace e := ck_as_e e
      obtain ⟨hk_28, e⟩ := e
      replace e := ck_bd_e e
      obtain ⟨r29, h30, e31, e⟩ := e
      refine go_callV (As := [.int v3]) (b0 := b6) (rest := []) rfl rfl ⟨hk_28, by decide⟩ rfl ⟨Nat.le_of_ble_eq_true rfl, Nat.le_of_ble_eq_true rfl, Nat.le_of_ble_eq_true rfl, Nat.le_of_ble_eq_true rfl⟩ (s_Tr_keyLength e31) ?_
      show Go k_CS_record 83 [some (.ref a0), some (.int v1), some (.int v2), some (.int v3), some (.int v4), some (.ref b6)] [.int r29] h30 _
      cases e
      exact go_ret rfl rfl
    rw [if_neg hx_27] at e
    by_cases hx_32 : v4 = 4
    · rw [if_pos hx_32] at e
      refine go_tswI (off := 58) (t := 84) rfl (by rw [hx_32]; decide) (by rw [hx_32]; rfl) rfl ?_
      refine go_aload rfl rfl ?_
      refine go_iload_n rfl rfl ?_
      replace e := ck_as_e e
      obtain ⟨hk_33, e⟩ := e
      replace e := ck_bd_e e
      obtain ⟨r34, h35, e36, e⟩ := e
      refine go_callV (As := [.int v3]) (b0 := b6) (rest := []) rfl rfl ⟨hk_33, by decide⟩ rfl ⟨Nat.le_of_ble_eq_true rfl, Nat.le_of_ble_eq_true rfl, Nat.le_of_ble_eq_true rfl, Nat.le_of_ble_eq_true rfl⟩ (s_Tr_dataLength e36) ?_
      show Go k_CS_record 90 [some (.ref a0), some (.int v1), some (.int v2), some (.int v3), some (.int v4), some (.ref b6)] [.int r34] h35 _
      cases e
      exact go_ret rfl rfl
    rw [if_neg hx_32] at e
    by_cases hx_37 : v4 = 5
    · rw [if_pos hx_37] at e
      refine go_tswI (off := 65) (t := 91) rfl (by rw [hx_37]; decide) (by rw [hx_37]; rfl) rfl ?_
      refine go_aload rfl rfl ?_
      refine go_iload_n rfl rfl ?_
      replace e := ck_as_e e
      obtain ⟨hk_38, e⟩ := e
      replace e := ck_bd_e e
      obtain ⟨r39, h40, e41, e⟩ := e
      refine go_callV (As := [.int v3]) (b0 := b6) (rest := []) rfl rfl ⟨hk_38, by decide⟩ rfl ⟨Nat.le_of_ble_eq_true rfl, Nat.le_of_ble_eq_true rfl, Nat.le_of_ble_eq_true rfl, Nat.le_of_ble_eq_true rfl⟩ (s_Tr_beginOf e41) ?_
      show Go k_CS_record 97 [some (.ref a0), some (.int v1), some (.int v2), some (.int v3), some (.int v4), some (.ref b6)] [.int r39] h40 _
      cases e
      exact go_ret rfl rfl
    rw [if_neg hx_37] at e
    by_cases hx_42 : v4 = 6
    · rw [if_pos hx_42] at e
      refine go_tswI (off := 72) (t := 98) rfl (by rw [hx_42]; decide) (by rw [hx_42]; rfl) rfl ?_
      refine go_aload rfl rfl ?_
      refine go_iload_n rfl rfl ?_
      replace e := ck_as_e e
      obtain ⟨hk_43, e⟩ := e
      replace e := ck_bd_e e
      obtain ⟨r44, h45, e46, e⟩ := e
      refine go_callV (As := [.int v3]) (b0 := b6) (rest := []) rfl rfl ⟨hk_43, by decide⟩ rfl ⟨Nat.le_of_ble_eq_true rfl, Nat.le_of_ble_eq_true rfl, Nat.le_of_ble_eq_true rfl, Nat.le_of_ble_eq_true rfl⟩ (s_Tr_isSpoiled e46) ?_
      show Go k_CS_record 104 [some (.ref a0), some (.int v1), some (.int v2), some (.int v3), some (.int v4), some (.ref b6)] [.int r44] h45 _
      refine go_if_eq (t := 111) rfl rfl (fun hx_47 => ?_) (fun hx_47 => ?_)
      · rw [if_pos hx_47] at e
        refine go_iconst (v := 0) rfl (by decide) ?_
        cases e
        exact go_ret rfl rfl
      · rw [if_neg hx_47] at e
        refine go_iconst (v := 1) rfl (by decide) ?_
        refine go_goto (t := 112) rfl rfl ?_
        cases e
        exact go_ret rfl rfl
    rw [if_neg hx_42] at e
    have hz_ : (v4 : Int32).toInt < 0 ∨ 6 < (v4 : Int32).toInt := by
      have z0 := lv_neT hx_12 (k := 0) (a := 0) rfl
      have z1 := lv_neT hx_17 (k := 1) (a := 1) rfl
      have z2 := lv_neT hx_22 (k := 2) (a := 2) rfl
      have z3 := lv_neT hx_27 (k := 3) (a := 3) rfl
      have z4 := lv_neT hx_32 (k := 4) (a := 4) rfl
      have z5 := lv_neT hx_37 (k := 5) (a := 5) rfl
      have z6 := lv_neT hx_42 (k := 6) (a := 6) rfl
      omega
    refine go_tswO (m := k_CS_record) (pc := 26) (t := 113) (d := 87) (offs := #[42, 42, 42, 51, 58, 65, 72]) rfl hz_ rfl ?_
    refine go_aload rfl rfl ?_
    refine go_iload_n rfl rfl ?_
    refine go_iload rfl rfl ?_
    replace e := ck_bd_e e
    obtain ⟨r48, h49, e50, e⟩ := e
    refine go_callS (As := [.ref b6, .int v3, .int v4]) (rest := []) rfl rfl rfl ⟨Nat.le_of_ble_eq_true rfl, Nat.le_of_ble_eq_true rfl, Nat.le_of_ble_eq_true rfl, Nat.le_of_ble_eq_true rfl⟩ (s_CS_bytesOf e50) ?_
    show Go k_CS_record 121 [some (.ref a0), some (.int v1), some (.int v2), some (.int v3), some (.int v4), some (.ref b6)] [.int r48] h49 _
    cases e
    exact go_ret rfl rfl
def f_CS_spoil (F : Nat) (a0 : Nat) (v1 : Int32) (v2 : Int32) (v3 : Int32) (h : ck_H) : Option (Int32 × ck_H) :=
  ck_as (gk h a0 = 11) <|
  ck_bd (f_CS_trackAt F a0 v1 v2 h) fun r2 h3 =>
  ck_opt r2 (
    some (0, h3)
  ) fun b6 =>
  ck_as (gk h3 b6 = 8) <|
  ck_bd (f_Tr_has F b6 v3 h3) fun r8 h9 =>
  if r8 = (0 : Int32) then
    some (0, h9)
  else
    ck_as (gk h9 b6 = 8) <|
    ck_bd (f_Tr_mark F b6 v3 1 h9) fun _ h14 =>
    some (1, h14)
set_option maxRecDepth 100000 in
set_option maxHeartbeats 4000000 in
theorem s_CS_spoil {F : Nat} {a0 : Nat} {v1 : Int32} {v2 : Int32} {v3 : Int32} {h h' : ck_H} {r : Int32} (e : f_CS_spoil F a0 v1 v2 v3 h = some (r, h')) : Go k_CS_spoil 0 (ck_in [.ref a0, .int v1, .int v2, .int v3] 5) [] h (some (.int r), h') := by
  unfold f_CS_spoil at e
  show Go k_CS_spoil 0 [some (.ref a0), some (.int v1), some (.int v2), some (.int v3), none] [] h _
  refine go_aload_n rfl rfl ?_
  refine go_iload_n rfl rfl ?_
  refine go_iload_n rfl rfl ?_
  replace e := ck_as_e e
  obtain ⟨hk_1, e⟩ := e
  replace e := ck_bd_e e
  obtain ⟨r2, h3, e4, e⟩ := e
  refine go_callV (As := [.int v1, .int v2]) (b0 := a0) (rest := []) rfl rfl ⟨hk_1, by decide⟩ rfl ⟨Nat.le_of_ble_eq_true rfl, Nat.le_of_ble_eq_true rfl, Nat.le_of_ble_eq_true rfl, Nat.le_of_ble_eq_true rfl⟩ (s_CS_trackAt e4) ?_
  replace e := ck_opt_e e
  rcases e with ⟨hq_5, e⟩ | ⟨b6, hq_5, e⟩
  · subst hq_5
    show Go k_CS_spoil 6 [some (.ref a0), some (.int v1), some (.int v2), some (.int v3), none] [.null] h3 _
    refine go_astoreN rfl rfl ?_
    show Go k_CS_spoil 8 [some (.ref a0), some (.int v1), some (.int v2), some (.int v3), some .null] [] h3 _
    refine go_aloadN rfl rfl ?_
    refine go_ifnullN (t := 22) rfl rfl ?_
    refine go_iconst (v := 0) rfl (by decide) ?_
    cases e
    exact go_ret rfl (ck_rvb rfl (Or.inl rfl))
  subst hq_5
  show Go k_CS_spoil 6 [some (.ref a0), some (.int v1), some (.int v2), some (.int v3), none] [.ref b6] h3 _
  refine go_astore rfl rfl ?_
  show Go k_CS_spoil 8 [some (.ref a0), some (.int v1), some (.int v2), some (.int v3), some (.ref b6)] [] h3 _
  refine go_aload rfl rfl ?_
  refine go_ifnull rfl ?_
  refine go_aload rfl rfl ?_
  refine go_iload_n rfl rfl ?_
  replace e := ck_as_e e
  obtain ⟨hk_7, e⟩ := e
  replace e := ck_bd_e e
  obtain ⟨r8, h9, e10, e⟩ := e
  refine go_callV (As := [.int v3]) (b0 := b6) (rest := []) rfl rfl ⟨hk_7, by decide⟩ rfl ⟨Nat.le_of_ble_eq_true rfl, Nat.le_of_ble_eq_true rfl, Nat.le_of_ble_eq_true rfl, Nat.le_of_ble_eq_true rfl⟩ (s_Tr_has e10) ?_
  show Go k_CS_spoil 19 [some (.ref a0), some (.int v1), some (.int v2), some (.int v3), some (.ref b6)] [.int r8] h9 _
  refine go_if_ne (t := 24) rfl rfl (fun hx_11 => ?_) (fun hx_11 => ?_)
  · rw [if_pos hx_11] at e
    refine go_iconst (v := 0) rfl (by decide) ?_
    cases e
    exact go_ret rfl (ck_rvb rfl (Or.inl rfl))
  · rw [if_neg hx_11] at e
    refine go_aload rfl rfl ?_
    refine go_iload_n rfl rfl ?_
    refine go_iconst (v := 1) rfl (by decide) ?_
    replace e := ck_as_e e
    obtain ⟨hk_12, e⟩ := e
    replace e := ck_bd_e e
    obtain ⟨r13, h14, e15, e⟩ := e
    refine go_callV (As := [.int v3, .int 1]) (b0 := b6) (rest := []) rfl rfl ⟨hk_12, by decide⟩ rfl ⟨Nat.le_of_ble_eq_true rfl, Nat.le_of_ble_eq_true rfl, Nat.le_of_ble_eq_true rfl, Nat.le_of_ble_eq_true rfl⟩ (s_Tr_mark e15) ?_
    show Go k_CS_spoil 31 [some (.ref a0), some (.int v1), some (.int v2), some (.int v3), some (.ref b6)] [] h14 _
    refine go_iconst (v := 1) rfl (by decide) ?_
    cases e
    exact go_ret rfl (ck_rvb rfl (Or.inr rfl))
def f_Ar_fill2_L5 (F : Nat)  : Nat → Nat → Int32 → Int32 → Int32 → ck_H → Option (Unit × ck_H)
  | 0, _, _, _, _, _ => none
  | n + 1, a0, v1, v2, v3, h =>
    if v2 < v3 then
      ck_as (gk h a0 = 13 ∧ ¬ v2 < 0 ∧ (v2 : Int32).toNatClampNeg < gz h a0) <|
      ck_then (wI h a0 (v2 : Int32).toNatClampNeg (v1 : Int32).toInt8.toInt32) fun h3 =>
      f_Ar_fill2_L5 F n a0 v1 (v2 + 1) v3 h3
    else
      some ((), h)
set_option maxRecDepth 100000 in
set_option maxHeartbeats 4000000 in
theorem f_Ar_fill2_L5_s (F : Nat)   : ∀ (n : Nat) (a0 : Nat) (v1 : Int32) (v2 : Int32) (v3 : Int32) (h : ck_H) (r : Unit) (h' : ck_H), f_Ar_fill2_L5 F n a0 v1 v2 v3 h = some (r, h') → Go k_Ar_fill2 5 [some (.ref a0), some (.int v1), some (.int v2), some (.int v3)] [] h (none, h') := by
  intro n
  induction n with
  | zero => intro a0 v1 v2 v3 h r h' e; simp only [f_Ar_fill2_L5] at e; cases e
  | succ n ih =>
    intro a0 v1 v2 v3 h r h' e
    rw [f_Ar_fill2_L5] at e
    refine go_iload_n rfl rfl ?_
    refine go_iload_n rfl rfl ?_
    refine go_icmp_ge (t := 20) rfl rfl (fun hx_1 => ?_) (fun hx_1 => ?_)
    · rw [if_pos hx_1] at e
      refine go_aload_n rfl rfl ?_
      refine go_iload_n rfl rfl ?_
      refine go_iload_n rfl rfl ?_
      replace e := ck_as_e e
      obtain ⟨hc_2, e⟩ := e
      refine go_bast rfl hc_2 ?_
      generalize wI h a0 (v2 : Int32).toNatClampNeg (v1 : Int32).toInt8.toInt32 = h3 at e  ⊢
      replace e := ck_then_e e
      refine go_iinc (v := 1) rfl rfl (by decide) rfl ?_
      show Go k_Ar_fill2 17 [some (.ref a0), some (.int v1), some (.int (v2 + 1)), some (.int v3)] [] h3 _
      refine go_goto (t := 5) rfl rfl ?_
      refine go_forget (l := [some (.ref a0), some (.int v1), some (.int (v2 + 1)), some (.int v3)]) ⟨Or.inl rfl, Or.inl rfl, Or.inl rfl, Or.inl rfl, trivial⟩ ?_
      exact ih _ _ _ _ _ _ _ e
    · rw [if_neg hx_1] at e
      cases e
      exact go_ret rfl rfl
def f_Ar_fill2 (F : Nat) (a0 : Nat) (v1 : Int32) (h : ck_H) : Option (Unit × ck_H) :=
  ck_as (13 ≤ gk h a0 ∧ gk h a0 ≤ 21) <|
  ck_then (Int32.ofNat (gz h a0)) fun x2 =>
  f_Ar_fill2_L5 F F a0 v1 0 x2 h
set_option maxRecDepth 100000 in
set_option maxHeartbeats 4000000 in
theorem s_Ar_fill2 {F : Nat} {a0 : Nat} {v1 : Int32} {h h' : ck_H} {r : Unit} (e : f_Ar_fill2 F a0 v1 h = some (r, h')) : Go k_Ar_fill2 0 (ck_in [.ref a0, .int v1] 4) [] h (none, h') := by
  unfold f_Ar_fill2 at e
  show Go k_Ar_fill2 0 [some (.ref a0), some (.int v1), none, none] [] h _
  refine go_iconst (v := 0) rfl (by decide) ?_
  refine go_istore_n rfl rfl ?_
  show Go k_Ar_fill2 2 [some (.ref a0), some (.int v1), some (.int 0), none] [] h _
  refine go_aload_n rfl rfl ?_
  replace e := ck_as_e e
  obtain ⟨hc_1, e⟩ := e
  refine go_alen rfl hc_1 ?_
  generalize Int32.ofNat (gz h a0) = x2 at e ⊢
  replace e := ck_then_e e
  refine go_istore_n rfl rfl ?_
  show Go k_Ar_fill2 5 [some (.ref a0), some (.int v1), some (.int 0), some (.int x2)] [] h _
  refine go_forget (l := [some (.ref a0), some (.int v1), some (.int 0), some (.int x2)]) ⟨Or.inl rfl, Or.inl rfl, Or.inl rfl, Or.inl rfl, trivial⟩ ?_
  exact f_Ar_fill2_L5_s F F _ _ _ _ _ _ _ e
def f_CS_takeName (F : Nat) (a0 : Nat) (h : ck_H) : Option (Unit × ck_H) :=
  ck_as (gk h a0 = 11) <|
  ck_some (gR h a0 3) fun b2 =>
  ck_bd (f_Ar_fill2 F b2 32 h) fun _ h5 =>
  ck_as (gk h5 a0 = 11) <|
  ck_some (gR h5 a0 0) fun b8 =>
  ck_as (gk h5 b8 = 6) <|
  ck_some (gR h5 b8 0) fun b11 =>
  ck_some (gR h5 a0 3) fun b13 =>
  ck_some (gR h5 a0 0) fun b15 =>
  ck_as (gk h5 b15 = 6) <|
  ck_bd (f_Ma_min F (gI h5 b15 1) 8 h5) fun r18 h19 =>
  ck_as (gk h19 b11 = gk h19 b13 ∧ (gk h19 b13 = 13 ∨ gk h19 b13 = 14) ∧ ¬ (0 : Int32) < 0 ∧ ¬ (0 : Int32) < 0 ∧ ¬ r18 < 0 ∧ (0 : Int32).toNatClampNeg + (r18 : Int32).toNatClampNeg ≤ gz h19 b11 ∧ (0 : Int32).toNatClampNeg + (r18 : Int32).toNatClampNeg ≤ gz h19 b13) <|
  ck_then (wC h19 b11 (0 : Int32).toNatClampNeg b13 (0 : Int32).toNatClampNeg (r18 : Int32).toNatClampNeg) fun h22 =>
  ck_as (gk h22 a0 = 11) <|
  ck_some (gR h22 a0 0) fun b24 =>
  ck_as (gk h22 b24 = 6) <|
  ck_then (wI h22 b24 1 0) fun h27 =>
  some ((), h27)
set_option maxRecDepth 100000 in
set_option maxHeartbeats 4000000 in
theorem s_CS_takeName {F : Nat} {a0 : Nat} {h h' : ck_H} {r : Unit} (e : f_CS_takeName F a0 h = some (r, h')) : Go k_CS_takeName 0 (ck_in [.ref a0] 1) [] h (none, h') := by
  unfold f_CS_takeName at e
  show Go k_CS_takeName 0 [some (.ref a0)] [] h _
  refine go_aload_n rfl rfl ?_
  replace e := ck_as_e e
  obtain ⟨hk_1, e⟩ := e
  replace e := ck_some_e e
  obtain ⟨b2, hq_3, e⟩ := e
  refine go_get (v := .ref b2) rfl rfl hk_1 (by decide) (by show va_rf (gR h a0 3) = _; rw [hq_3]; rfl) ?_
  refine go_bipush (v := 32) rfl (by decide) ?_
  replace e := ck_bd_e e
  obtain ⟨r4, h5, e6, e⟩ := e
  refine go_callS (As := [.ref b2, .int 32]) (rest := []) rfl rfl rfl ⟨Nat.le_of_ble_eq_true rfl, Nat.le_of_ble_eq_true rfl, Nat.le_of_ble_eq_true rfl, Nat.le_of_ble_eq_true rfl⟩ (s_Ar_fill2 e6) ?_
  show Go k_CS_takeName 9 [some (.ref a0)] [] h5 _
  refine go_aload_n rfl rfl ?_
  replace e := ck_as_e e
  obtain ⟨hk_7, e⟩ := e
  replace e := ck_some_e e
  obtain ⟨b8, hq_9, e⟩ := e
  refine go_get (v := .ref b8) rfl rfl hk_7 (by decide) (by show va_rf (gR h5 a0 0) = _; rw [hq_9]; rfl) ?_
  replace e := ck_as_e e
  obtain ⟨hk_10, e⟩ := e
  replace e := ck_some_e e
  obtain ⟨b11, hq_12, e⟩ := e
  refine go_get (v := .ref b11) rfl rfl hk_10 (by decide) (by show va_rf (gR h5 b8 0) = _; rw [hq_12]; rfl) ?_
  refine go_iconst (v := 0) rfl (by decide) ?_
  refine go_aload_n rfl rfl ?_
  replace e := ck_some_e e
  obtain ⟨b13, hq_14, e⟩ := e
  refine go_get (v := .ref b13) rfl rfl hk_7 (by decide) (by show va_rf (gR h5 a0 3) = _; rw [hq_14]; rfl) ?_
  refine go_iconst (v := 0) rfl (by decide) ?_
  refine go_aload_n rfl rfl ?_
  replace e := ck_some_e e
  obtain ⟨b15, hq_16, e⟩ := e
  refine go_get (v := .ref b15) rfl rfl hk_7 (by decide) (by show va_rf (gR h5 a0 0) = _; rw [hq_16]; rfl) ?_
  replace e := ck_as_e e
  obtain ⟨hk_17, e⟩ := e
  refine go_get (v := .int (gI h5 b15 1)) rfl rfl hk_17 (by decide) rfl ?_
  refine go_bipush (v := 8) rfl (by decide) ?_
  replace e := ck_bd_e e
  obtain ⟨r18, h19, e20, e⟩ := e
  refine go_callS (As := [.int (gI h5 b15 1), .int 8]) (rest := [.int 0, .ref b13, .int 0, .ref b11]) rfl rfl rfl ⟨Nat.le_of_ble_eq_true rfl, Nat.le_of_ble_eq_true rfl, Nat.le_of_ble_eq_true rfl, Nat.le_of_ble_eq_true rfl⟩ (s_Ma_min e20) ?_
  show Go k_CS_takeName 34 [some (.ref a0)] [.int r18, .int 0, .ref b13, .int 0, .ref b11] h19 _
  replace e := ck_as_e e
  obtain ⟨hc_21, e⟩ := e
  refine go_copy rfl rfl ⟨Nat.le_of_ble_eq_true rfl, Nat.le_of_ble_eq_true rfl⟩ hc_21 ?_
  generalize wC h19 b11 (0 : Int32).toNatClampNeg b13 (0 : Int32).toNatClampNeg (r18 : Int32).toNatClampNeg = h22 at e  ⊢
  replace e := ck_then_e e
  refine go_aload_n rfl rfl ?_
  replace e := ck_as_e e
  obtain ⟨hk_23, e⟩ := e
  replace e := ck_some_e e
  obtain ⟨b24, hq_25, e⟩ := e
  refine go_get (v := .ref b24) rfl rfl hk_23 (by decide) (by show va_rf (gR h22 a0 0) = _; rw [hq_25]; rfl) ?_
  refine go_iconst (v := 0) rfl (by decide) ?_
  replace e := ck_as_e e
  obtain ⟨hk_26, e⟩ := e
  refine go_put (h1 := wI h22 b24 1 0) rfl rfl hk_26 ⟨by decide, by decide, Or.inl rfl⟩ rfl ?_
  have hk_28 : gk (wI h22 b24 1 0) a0 = 11 := ck_kI.trans hk_23
  have hk_29 : gk (wI h22 b24 1 0) b24 = 6 := ck_kI.trans hk_26
  generalize wI h22 b24 1 0 = h27 at e hk_28 hk_29 ⊢
  replace e := ck_then_e e
  cases e
  exact go_ret rfl rfl
def f_DS_allows (F : Nat) (v0 : Int32) (v1 : Int32) (v2 : Int32) (h : ck_H) : Option (Int32 × ck_H) :=
  if v0 = 0 then
    if v1 < (1 : Int32) then
      some (0, h)
    else
      if (200 : Int32) < v1 then
        some (0, h)
      else
        if v2 < (1 : Int32) then
          some (0, h)
        else
          if (20 : Int32) < v2 then
            some (0, h)
          else
            if (1200 : Int32) < (v1 * v2) then
              some (0, h)
            else
              some (1, h)
  else
  if v0 = 1 then
    if v1 = (0 : Int32) then
      if v2 < (8 : Int32) then
        some (0, h)
      else
        if (1200 : Int32) < v2 then
          some (0, h)
        else
          some (1, h)
    else
      some (0, h)
  else
  if v0 = 2 then
    if v1 = (0 : Int32) then
      if v2 < (8 : Int32) then
        some (0, h)
      else
        if (1200 : Int32) < v2 then
          some (0, h)
        else
          some (1, h)
    else
      some (0, h)
  else
  if v0 = 3 then
    if v1 < (1 : Int32) then
      some (0, h)
    else
      if (8 : Int32) < v1 then
        some (0, h)
      else
        if v2 < (0 : Int32) then
          some (0, h)
        else
          if (400 : Int32) < v2 then
            some (0, h)
          else
            some (1, h)
  else
  if v0 = 4 then
    if v1 < (1 : Int32) then
      some (0, h)
    else
      if (200 : Int32) < v1 then
        some (0, h)
      else
        if v2 < (1 : Int32) then
          some (0, h)
        else
          if (20 : Int32) < v2 then
            some (0, h)
          else
            if (1200 : Int32) < (v1 * v2) then
              some (0, h)
            else
              some (1, h)
  else
    some (0, h)
set_option maxRecDepth 100000 in
set_option maxHeartbeats 4000000 in
theorem s_DS_allows {F : Nat} {v0 : Int32} {v1 : Int32} {v2 : Int32} {h h' : ck_H} {r : Int32} (e : f_DS_allows F v0 v1 v2 h = some (r, h')) : Go k_DS_allows 0 (ck_in [.int v0, .int v1, .int v2] 3) [] h (some (.int r), h') := by
  unfold f_DS_allows at e
  show Go k_DS_allows 0 [some (.int v0), some (.int v1), some (.int v2)] [] h _
  refine go_iload_n rfl rfl ?_
  by_cases hx_1 : v0 = 0
  · rw [if_pos hx_1] at e
    refine go_tswI (off := 35) (t := 36) rfl (by rw [hx_1]; decide) (by rw [hx_1]; rfl) rfl ?_
    refine go_iload_n rfl rfl ?_
    refine go_iconst (v := 1) rfl (by decide) ?_
    refine go_icmp_lt (t := 72) rfl rfl (fun hx_2 => ?_) (fun hx_2 => ?_)
    · rw [if_pos hx_2] at e
      refine go_iconst (v := 0) rfl (by decide) ?_
      cases e
      exact go_ret rfl (ck_rvb rfl (Or.inl rfl))
    · rw [if_neg hx_2] at e
      refine go_iload_n rfl rfl ?_
      refine go_sipush (v := 200) rfl (by decide) ?_
      refine go_icmp_gt (t := 72) rfl rfl (fun hx_3 => ?_) (fun hx_3 => ?_)
      · rw [if_pos hx_3] at e
        refine go_iconst (v := 0) rfl (by decide) ?_
        cases e
        exact go_ret rfl (ck_rvb rfl (Or.inl rfl))
      · rw [if_neg hx_3] at e
        refine go_iload_n rfl rfl ?_
        refine go_iconst (v := 1) rfl (by decide) ?_
        refine go_icmp_lt (t := 72) rfl rfl (fun hx_4 => ?_) (fun hx_4 => ?_)
        · rw [if_pos hx_4] at e
          refine go_iconst (v := 0) rfl (by decide) ?_
          cases e
          exact go_ret rfl (ck_rvb rfl (Or.inl rfl))
        · rw [if_neg hx_4] at e
          refine go_iload_n rfl rfl ?_
          refine go_bipush (v := 20) rfl (by decide) ?_
          refine go_icmp_gt (t := 72) rfl rfl (fun hx_5 => ?_) (fun hx_5 => ?_)
          · rw [if_pos hx_5] at e
            refine go_iconst (v := 0) rfl (by decide) ?_
            cases e
            exact go_ret rfl (ck_rvb rfl (Or.inl rfl))
          · rw [if_neg hx_5] at e
            refine go_iload_n rfl rfl ?_
            refine go_iload_n rfl rfl ?_
            refine go_imul rfl ?_
            refine go_sipush (v := 1200) rfl (by decide) ?_
            refine go_icmp_gt (t := 72) rfl rfl (fun hx_6 => ?_) (fun hx_6 => ?_)
            · rw [if_pos hx_6] at e
              refine go_iconst (v := 0) rfl (by decide) ?_
              cases e
              exact go_ret rfl (ck_rvb rfl (Or.inl rfl))
            · rw [if_neg hx_6] at e
              refine go_iconst (v := 1) rfl (by decide) ?_
              refine go_goto (t := 73) rfl rfl ?_
              cases e
              exact go_ret rfl (ck_rvb rfl (Or.inr rfl))
  rw [if_neg hx_1] at e
  by_cases hx_7 : v0 = 1
  · rw [if_pos hx_7] at e
    refine go_tswI (off := 73) (t := 74) rfl (by rw [hx_7]; decide) (by rw [hx_7]; rfl) rfl ?_
    refine go_iload_n rfl rfl ?_
    refine go_if_ne (t := 95) rfl rfl (fun hx_8 => ?_) (fun hx_8 => ?_)
    · rw [if_pos hx_8] at e
      refine go_iload_n rfl rfl ?_
      refine go_bipush (v := 8) rfl (by decide) ?_
      refine go_icmp_lt (t := 95) rfl rfl (fun hx_9 => ?_) (fun hx_9 => ?_)
      · rw [if_pos hx_9] at e
        refine go_iconst (v := 0) rfl (by decide) ?_
        cases e
        exact go_ret rfl (ck_rvb rfl (Or.inl rfl))
      · rw [if_neg hx_9] at e
        refine go_iload_n rfl rfl ?_
        refine go_sipush (v := 1200) rfl (by decide) ?_
        refine go_icmp_gt (t := 95) rfl rfl (fun hx_10 => ?_) (fun hx_10 => ?_)
        · rw [if_pos hx_10] at e
          refine go_iconst (v := 0) rfl (by decide) ?_
          cases e
          exact go_ret rfl (ck_rvb rfl (Or.inl rfl))
        · rw [if_neg hx_10] at e
          refine go_iconst (v := 1) rfl (by decide) ?_
          refine go_goto (t := 96) rfl rfl ?_
          cases e
          exact go_ret rfl (ck_rvb rfl (Or.inr rfl))
    · rw [if_neg hx_8] at e
      refine go_iconst (v := 0) rfl (by decide) ?_
      cases e
      exact go_ret rfl (ck_rvb rfl (Or.inl rfl))
  rw [if_neg hx_7] at e
  by_cases hx_11 : v0 = 2
  · rw [if_pos hx_11] at e
    refine go_tswI (off := 73) (t := 74) rfl (by rw [hx_11]; decide) (by rw [hx_11]; rfl) rfl ?_
    refine go_iload_n rfl rfl ?_
    refine go_if_ne (t := 95) rfl rfl (fun hx_12 => ?_) (fun hx_12 => ?_)
    · rw [if_pos hx_12] at e
      refine go_iload_n rfl rfl ?_
      refine go_bipush (v := 8) rfl (by decide) ?_
      refine go_icmp_lt (t := 95) rfl rfl (fun hx_13 => ?_) (fun hx_13 => ?_)
      · rw [if_pos hx_13] at e
        refine go_iconst (v := 0) rfl (by decide) ?_
        cases e
        exact go_ret rfl (ck_rvb rfl (Or.inl rfl))
      · rw [if_neg hx_13] at e
        refine go_iload_n rfl rfl ?_
        refine go_sipush (v := 1200) rfl (by decide) ?_
        refine go_icmp_gt (t := 95) rfl rfl (fun hx_14 => ?_) (fun hx_14 => ?_)
        · rw [if_pos hx_14] at e
          refine go_iconst (v := 0) rfl (by decide) ?_
          cases e
          exact go_ret rfl (ck_rvb rfl (Or.inl rfl))
        · rw [if_neg hx_14] at e
          refine go_iconst (v := 1) rfl (by decide) ?_
          refine go_goto (t := 96) rfl rfl ?_
          cases e
          exact go_ret rfl (ck_rvb rfl (Or.inr rfl))
    · rw [if_neg hx_12] at e
      refine go_iconst (v := 0) rfl (by decide) ?_
      cases e
      exact go_ret rfl (ck_rvb rfl (Or.inl rfl))
  rw [if_neg hx_11] at e
  by_cases hx_15 : v0 = 3
  · rw [if_pos hx_15] at e
    refine go_tswI (off := 96) (t := 97) rfl (by rw [hx_15]; decide) (by rw [hx_15]; rfl) rfl ?_
    refine go_iload_n rfl rfl ?_
    refine go_iconst (v := 1) rfl (by decide) ?_
    refine go_icmp_lt (t := 123) rfl rfl (fun hx_16 => ?_) (fun hx_16 => ?_)
    · rw [if_pos hx_16] at e
      refine go_iconst (v := 0) rfl (by decide) ?_
      cases e
      exact go_ret rfl (ck_rvb rfl (Or.inl rfl))
    · rw [if_neg hx_16] at e
      refine go_iload_n rfl rfl ?_
      refine go_bipush (v := 8) rfl (by decide) ?_
      refine go_icmp_gt (t := 123) rfl rfl (fun hx_17 => ?_) (fun hx_17 => ?_)
      · rw [if_pos hx_17] at e
        refine go_iconst (v := 0) rfl (by decide) ?_
        cases e
        exact go_ret rfl (ck_rvb rfl (Or.inl rfl))
      · rw [if_neg hx_17] at e
        refine go_iload_n rfl rfl ?_
        refine go_if_lt (t := 123) rfl rfl (fun hx_18 => ?_) (fun hx_18 => ?_)
        · rw [if_pos hx_18] at e
          refine go_iconst (v := 0) rfl (by decide) ?_
          cases e
          exact go_ret rfl (ck_rvb rfl (Or.inl rfl))
        · rw [if_neg hx_18] at e
          refine go_iload_n rfl rfl ?_
          refine go_sipush (v := 400) rfl (by decide) ?_
          refine go_icmp_gt (t := 123) rfl rfl (fun hx_19 => ?_) (fun hx_19 => ?_)
          · rw [if_pos hx_19] at e
            refine go_iconst (v := 0) rfl (by decide) ?_
            cases e
            exact go_ret rfl (ck_rvb rfl (Or.inl rfl))
          · rw [if_neg hx_19] at e
            refine go_iconst (v := 1) rfl (by decide) ?_
            refine go_goto (t := 124) rfl rfl ?_
            cases e
            exact go_ret rfl (ck_rvb rfl (Or.inr rfl))
  rw [if_neg hx_15] at e
  by_cases hx_20 : v0 = 4
  · rw [if_pos hx_20] at e
    refine go_tswI (off := 35) (t := 36) rfl (by rw [hx_20]; decide) (by rw [hx_20]; rfl) rfl ?_
    refine go_iload_n rfl rfl ?_
    refine go_iconst (v := 1) rfl (by decide) ?_
    refine go_icmp_lt (t := 72) rfl rfl (fun hx_21 => ?_) (fun hx_21 => ?_)
    · rw [if_pos hx_21] at e
      refine go_iconst (v := 0) rfl (by decide) ?_
      cases e
      exact go_ret rfl (ck_rvb rfl (Or.inl rfl))
    · rw [if_neg hx_21] at e
      refine go_iload_n rfl rfl ?_
      refine go_sipush (v := 200) rfl (by decide) ?_
      refine go_icmp_gt (t := 72) rfl rfl (fun hx_22 => ?_) (fun hx_22 => ?_)
      · rw [if_pos hx_22] at e
        refine go_iconst (v := 0) rfl (by decide) ?_
        cases e
        exact go_ret rfl (ck_rvb rfl (Or.inl rfl))
      · rw [if_neg hx_22] at e
        refine go_iload_n rfl rfl ?_
        refine go_iconst (v := 1) rfl (by decide) ?_
        refine go_icmp_lt (t := 72) rfl rfl (fun hx_23 => ?_) (fun hx_23 => ?_)
        · rw [if_pos hx_23] at e
          refine go_iconst (v := 0) rfl (by decide) ?_
          cases e
          exact go_ret rfl (ck_rvb rfl (Or.inl rfl))
        · rw [if_neg hx_23] at e
          refine go_iload_n rfl rfl ?_
          refine go_bipush (v := 20) rfl (by decide) ?_
          refine go_icmp_gt (t := 72) rfl rfl (fun hx_24 => ?_) (fun hx_24 => ?_)
          · rw [if_pos hx_24] at e
            refine go_iconst (v := 0) rfl (by decide) ?_
            cases e
            exact go_ret rfl (ck_rvb rfl (Or.inl rfl))
          · rw [if_neg hx_24] at e
            refine go_iload_n rfl rfl ?_
            refine go_iload_n rfl rfl ?_
            refine go_imul rfl ?_
            refine go_sipush (v := 1200) rfl (by decide) ?_
            refine go_icmp_gt (t := 72) rfl rfl (fun hx_25 => ?_) (fun hx_25 => ?_)
            · rw [if_pos hx_25] at e
              refine go_iconst (v := 0) rfl (by decide) ?_
              cases e
              exact go_ret rfl (ck_rvb rfl (Or.inl rfl))
            · rw [if_neg hx_25] at e
              refine go_iconst (v := 1) rfl (by decide) ?_
              refine go_goto (t := 73) rfl rfl ?_
              cases e
              exact go_ret rfl (ck_rvb rfl (Or.inr rfl))
  rw [if_neg hx_20] at e
  have hz_ : (v0 : Int32).toInt < 0 ∨ 4 < (v0 : Int32).toInt := by
    have z0 := lv_neT hx_1 (k := 0) (a := 0) rfl
    have z1 := lv_neT hx_7 (k := 1) (a := 1) rfl
    have z2 := lv_neT hx_11 (k := 2) (a := 2) rfl
    have z3 := lv_neT hx_15 (k := 3) (a := 3) rfl
    have z4 := lv_neT hx_20 (k := 4) (a := 4) rfl
    omega
  refine go_tswO (m := k_DS_allows) (pc := 1) (t := 125) (d := 124) (offs := #[35, 73, 73, 96, 35]) rfl hz_ rfl ?_
  refine go_iconst (v := 0) rfl (by decide) ?_
  cases e
  exact go_ret rfl (ck_rvb rfl (Or.inl rfl))
def f_DS_isNamed_L2 (F : Nat)  : Nat → Nat → Nat → Int32 → ck_H → Option (Int32 × ck_H)
  | 0, _, _, _, _ => none
  | n + 1, a0, a1, v2, h =>
    if v2 < (8 : Int32) then
      ck_as (13 ≤ gk h a1 ∧ gk h a1 ≤ 21) <|
      if v2 < (Int32.ofNat (gz h a1)) then
        ck_as (gk h a0 = 2) <|
        ck_some (gR h a0 1) fun b5 =>
        ck_as ((gk h b5 = 13 ∨ gk h b5 = 15) ∧ ¬ v2 < 0 ∧ (v2 : Int32).toNatClampNeg < gz h b5) <|
        ck_as ((gk h a1 = 13 ∨ gk h a1 = 15) ∧ ¬ v2 < 0 ∧ (v2 : Int32).toNatClampNeg < gz h a1) <|
        if (gI h b5 (v2 : Int32).toNatClampNeg) = (gI h a1 (v2 : Int32).toNatClampNeg) then
          f_DS_isNamed_L2 F n a0 a1 (v2 + 1) h
        else
          some (0, h)
      else
        some (1, h)
    else
      some (1, h)
set_option maxRecDepth 100000 in
set_option maxHeartbeats 4000000 in
theorem f_DS_isNamed_L2_s (F : Nat)   : ∀ (n : Nat) (a0 : Nat) (a1 : Nat) (v2 : Int32) (h : ck_H) (r : Int32) (h' : ck_H), f_DS_isNamed_L2 F n a0 a1 v2 h = some (r, h') → Go k_DS_isNamed 2 [some (.ref a0), some (.ref a1), some (.int v2)] [] h (some (.int r), h') := by
  intro n
  induction n with
  | zero => intro a0 a1 v2 h r h' e; simp only [f_DS_isNamed_L2] at e; cases e
  | succ n ih =>
    intro a0 a1 v2 h r h' e
    rw [f_DS_isNamed_L2] at e
    refine go_iload_n rfl rfl ?_
    refine go_bipush (v := 8) rfl (by decide) ?_
    refine go_icmp_ge (t := 34) rfl rfl (fun hx_1 => ?_) (fun hx_1 => ?_)
    · rw [if_pos hx_1] at e
      refine go_iload_n rfl rfl ?_
      refine go_aload_n rfl rfl ?_
      replace e := ck_as_e e
      obtain ⟨hc_2, e⟩ := e
      refine go_alen rfl hc_2 ?_
      refine go_icmp_ge (t := 34) rfl rfl (fun hx_3 => ?_) (fun hx_3 => ?_)
      · rw [if_pos hx_3] at e
        refine go_aload_n rfl rfl ?_
        replace e := ck_as_e e
        obtain ⟨hk_4, e⟩ := e
        replace e := ck_some_e e
        obtain ⟨b5, hq_6, e⟩ := e
        refine go_get (v := .ref b5) rfl rfl hk_4 (by decide) (by show va_rf (gR h a0 1) = _; rw [hq_6]; rfl) ?_
        refine go_iload_n rfl rfl ?_
        replace e := ck_as_e e
        obtain ⟨hc_7, e⟩ := e
        refine go_bald rfl hc_7 ?_
        refine go_aload_n rfl rfl ?_
        refine go_iload_n rfl rfl ?_
        replace e := ck_as_e e
        obtain ⟨hc_8, e⟩ := e
        refine go_bald rfl hc_8 ?_
        refine go_icmp_eq (t := 28) rfl rfl (fun hx_9 => ?_) (fun hx_9 => ?_)
        · rw [if_pos hx_9] at e
          refine go_iinc (v := 1) rfl rfl (by decide) rfl ?_
          show Go k_DS_isNamed 31 [some (.ref a0), some (.ref a1), some (.int (v2 + 1))] [] h _
          refine go_goto (t := 2) rfl rfl ?_
          refine go_forget (l := [some (.ref a0), some (.ref a1), some (.int (v2 + 1))]) ⟨Or.inl rfl, Or.inl rfl, Or.inl rfl, trivial⟩ ?_
          exact ih _ _ _ _ _ _ e
        · rw [if_neg hx_9] at e
          refine go_iconst (v := 0) rfl (by decide) ?_
          cases e
          exact go_ret rfl (ck_rvb rfl (Or.inl rfl))
      · rw [if_neg hx_3] at e
        refine go_iconst (v := 1) rfl (by decide) ?_
        cases e
        exact go_ret rfl (ck_rvb rfl (Or.inr rfl))
    · rw [if_neg hx_1] at e
      refine go_iconst (v := 1) rfl (by decide) ?_
      cases e
      exact go_ret rfl (ck_rvb rfl (Or.inr rfl))
def f_DS_isNamed (F : Nat) (a0 : Nat) (a1 : Nat) (h : ck_H) : Option (Int32 × ck_H) :=
  f_DS_isNamed_L2 F F a0 a1 0 h
set_option maxRecDepth 100000 in
set_option maxHeartbeats 4000000 in
theorem s_DS_isNamed {F : Nat} {a0 : Nat} {a1 : Nat} {h h' : ck_H} {r : Int32} (e : f_DS_isNamed F a0 a1 h = some (r, h')) : Go k_DS_isNamed 0 (ck_in [.ref a0, .ref a1] 3) [] h (some (.int r), h') := by
  unfold f_DS_isNamed at e
  show Go k_DS_isNamed 0 [some (.ref a0), some (.ref a1), none] [] h _
  refine go_iconst (v := 0) rfl (by decide) ?_
  refine go_istore_n rfl rfl ?_
  show Go k_DS_isNamed 2 [some (.ref a0), some (.ref a1), some (.int 0)] [] h _
  refine go_forget (l := [some (.ref a0), some (.ref a1), some (.int 0)]) ⟨Or.inl rfl, Or.inl rfl, Or.inl rfl, trivial⟩ ?_
  exact f_DS_isNamed_L2_s F F _ _ _ _ _ _ e
def f_Vo_find_L2 (F : Nat)  : Nat → Nat → Nat → Int32 → ck_H → Option (Int32 × ck_H)
  | 0, _, _, _, _ => none
  | n + 1, a0, a1, v2, h =>
    if v2 < (10 : Int32) then
      ck_as (gk h a0 = 10) <|
      ck_some (gR h a0 1) fun b3 =>
      ck_as ((16 ≤ gk h b3 ∧ gk h b3 ≤ 20) ∧ ¬ v2 < 0 ∧ (v2 : Int32).toNatClampNeg < gz h b3) <|
      ck_some (gR h b3 (v2 : Int32).toNatClampNeg) fun b6 =>
      ck_as (gk h b6 = 2) <|
      if (gI h b6 5) = (0 : Int32) then
        f_Vo_find_L2 F n a0 a1 (v2 + 1) h
      else
        ck_some (gR h a0 1) fun b10 =>
        ck_as ((16 ≤ gk h b10 ∧ gk h b10 ≤ 20) ∧ ¬ v2 < 0 ∧ (v2 : Int32).toNatClampNeg < gz h b10) <|
        ck_some (gR h b10 (v2 : Int32).toNatClampNeg) fun b13 =>
        ck_as (gk h b13 = 2) <|
        ck_bd (f_DS_isNamed F b13 a1 h) fun r16 h17 =>
        if r16 = (0 : Int32) then
          f_Vo_find_L2 F n a0 a1 (v2 + 1) h17
        else
          some (v2, h17)
    else
      some ((-1), h)
set_option maxRecDepth 100000 in
set_option maxHeartbeats 4000000 in
theorem f_Vo_find_L2_s (F : Nat)   : ∀ (n : Nat) (a0 : Nat) (a1 : Nat) (v2 : Int32) (h : ck_H) (r : Int32) (h' : ck_H), f_Vo_find_L2 F n a0 a1 v2 h = some (r, h') → Go k_Vo_find 2 [some (.ref a0), some (.ref a1), some (.int v2)] [] h (some (.int r), h') := by
  intro n
  induction n with
  | zero => intro a0 a1 v2 h r h' e; simp only [f_Vo_find_L2] at e; cases e
  | succ n ih =>
    intro a0 a1 v2 h r h' e
    rw [f_Vo_find_L2] at e
    refine go_iload_n rfl rfl ?_
    refine go_bipush (v := 10) rfl (by decide) ?_
    refine go_icmp_ge (t := 41) rfl rfl (fun hx_1 => ?_) (fun hx_1 => ?_)
    · rw [if_pos hx_1] at e
      refine go_aload_n rfl rfl ?_
      replace e := ck_as_e e
      obtain ⟨hk_2, e⟩ := e
      replace e := ck_some_e e
      obtain ⟨b3, hq_4, e⟩ := e
      refine go_get (v := .ref b3) rfl rfl hk_2 (by decide) (by show va_rf (gR h a0 1) = _; rw [hq_4]; rfl) ?_
      refine go_iload_n rfl rfl ?_
      replace e := ck_as_e e
      obtain ⟨hc_5, e⟩ := e
      replace e := ck_some_e e
      obtain ⟨b6, hq_7, e⟩ := e
      refine go_aald (v := .ref b6) rfl hc_5 (by rw [hq_7]; rfl) ?_
      replace e := ck_as_e e
      obtain ⟨hk_8, e⟩ := e
      refine go_get (v := .int (gI h b6 5)) rfl rfl hk_8 (by decide) rfl ?_
      refine go_if_eq (t := 35) rfl rfl (fun hx_9 => ?_) (fun hx_9 => ?_)
      · rw [if_pos hx_9] at e
        refine go_iinc (v := 1) rfl rfl (by decide) rfl ?_
        show Go k_Vo_find 38 [some (.ref a0), some (.ref a1), some (.int (v2 + 1))] [] h _
        refine go_goto (t := 2) rfl rfl ?_
        refine go_forget (l := [some (.ref a0), some (.ref a1), some (.int (v2 + 1))]) ⟨Or.inl rfl, Or.inl rfl, Or.inl rfl, trivial⟩ ?_
        exact ih _ _ _ _ _ _ e
      · rw [if_neg hx_9] at e
        refine go_aload_n rfl rfl ?_
        replace e := ck_some_e e
        obtain ⟨b10, hq_11, e⟩ := e
        refine go_get (v := .ref b10) rfl rfl hk_2 (by decide) (by show va_rf (gR h a0 1) = _; rw [hq_11]; rfl) ?_
        refine go_iload_n rfl rfl ?_
        replace e := ck_as_e e
        obtain ⟨hc_12, e⟩ := e
        replace e := ck_some_e e
        obtain ⟨b13, hq_14, e⟩ := e
        refine go_aald (v := .ref b13) rfl hc_12 (by rw [hq_14]; rfl) ?_
        refine go_aload_n rfl rfl ?_
        replace e := ck_as_e e
        obtain ⟨hk_15, e⟩ := e
        replace e := ck_bd_e e
        obtain ⟨r16, h17, e18, e⟩ := e
        refine go_callV (As := [.ref a1]) (b0 := b13) (rest := []) rfl rfl ⟨hk_15, by decide⟩ rfl ⟨Nat.le_of_ble_eq_true rfl, Nat.le_of_ble_eq_true rfl, Nat.le_of_ble_eq_true rfl, Nat.le_of_ble_eq_true rfl⟩ (s_DS_isNamed e18) ?_
        show Go k_Vo_find 30 [some (.ref a0), some (.ref a1), some (.int v2)] [.int r16] h17 _
        refine go_if_eq (t := 35) rfl rfl (fun hx_19 => ?_) (fun hx_19 => ?_)
        · rw [if_pos hx_19] at e
          refine go_iinc (v := 1) rfl rfl (by decide) rfl ?_
          show Go k_Vo_find 38 [some (.ref a0), some (.ref a1), some (.int (v2 + 1))] [] h17 _
          refine go_goto (t := 2) rfl rfl ?_
          refine go_forget (l := [some (.ref a0), some (.ref a1), some (.int (v2 + 1))]) ⟨Or.inl rfl, Or.inl rfl, Or.inl rfl, trivial⟩ ?_
          exact ih _ _ _ _ _ _ e
        · rw [if_neg hx_19] at e
          refine go_iload_n rfl rfl ?_
          cases e
          exact go_ret rfl rfl
    · rw [if_neg hx_1] at e
      refine go_iconst (v := (-1)) rfl (by decide) ?_
      cases e
      exact go_ret rfl rfl
def f_Vo_find (F : Nat) (a0 : Nat) (a1 : Nat) (h : ck_H) : Option (Int32 × ck_H) :=
  f_Vo_find_L2 F F a0 a1 0 h
set_option maxRecDepth 100000 in
set_option maxHeartbeats 4000000 in
theorem s_Vo_find {F : Nat} {a0 : Nat} {a1 : Nat} {h h' : ck_H} {r : Int32} (e : f_Vo_find F a0 a1 h = some (r, h')) : Go k_Vo_find 0 (ck_in [.ref a0, .ref a1] 3) [] h (some (.int r), h') := by
  unfold f_Vo_find at e
  show Go k_Vo_find 0 [some (.ref a0), some (.ref a1), none] [] h _
  refine go_iconst (v := 0) rfl (by decide) ?_
  refine go_istore_n rfl rfl ?_
  show Go k_Vo_find 2 [some (.ref a0), some (.ref a1), some (.int 0)] [] h _
  refine go_forget (l := [some (.ref a0), some (.ref a1), some (.int 0)]) ⟨Or.inl rfl, Or.inl rfl, Or.inl rfl, trivial⟩ ?_
  exact f_Vo_find_L2_s F F _ _ _ _ _ _ e
def f_Vo_lowestFree_L2 (F : Nat)  : Nat → Nat → Int32 → ck_H → Option (Int32 × ck_H)
  | 0, _, _, _ => none
  | n + 1, a0, v1, h =>
    if v1 < (10 : Int32) then
      ck_as (gk h a0 = 10) <|
      ck_some (gR h a0 1) fun b3 =>
      ck_as ((16 ≤ gk h b3 ∧ gk h b3 ≤ 20) ∧ ¬ v1 < 0 ∧ (v1 : Int32).toNatClampNeg < gz h b3) <|
      ck_some (gR h b3 (v1 : Int32).toNatClampNeg) fun b6 =>
      ck_as (gk h b6 = 2) <|
      if (gI h b6 5) = (0 : Int32) then
        some (v1, h)
      else
        f_Vo_lowestFree_L2 F n a0 (v1 + 1) h
    else
      some ((-1), h)
set_option maxRecDepth 100000 in
set_option maxHeartbeats 4000000 in
theorem f_Vo_lowestFree_L2_s (F : Nat)   : ∀ (n : Nat) (a0 : Nat) (v1 : Int32) (h : ck_H) (r : Int32) (h' : ck_H), f_Vo_lowestFree_L2 F n a0 v1 h = some (r, h') → Go k_Vo_lowestFree 2 [some (.ref a0), some (.int v1)] [] h (some (.int r), h') := by
  intro n
  induction n with
  | zero => intro a0 v1 h r h' e; simp only [f_Vo_lowestFree_L2] at e; cases e
  | succ n ih =>
    intro a0 v1 h r h' e
    rw [f_Vo_lowestFree_L2] at e
    refine go_iload_n rfl rfl ?_
    refine go_bipush (v := 10) rfl (by decide) ?_
    refine go_icmp_ge (t := 28) rfl rfl (fun hx_1 => ?_) (fun hx_1 => ?_)
    · rw [if_pos hx_1] at e
      refine go_aload_n rfl rfl ?_
      replace e := ck_as_e e
      obtain ⟨hk_2, e⟩ := e
      replace e := ck_some_e e
      obtain ⟨b3, hq_4, e⟩ := e
      refine go_get (v := .ref b3) rfl rfl hk_2 (by decide) (by show va_rf (gR h a0 1) = _; rw [hq_4]; rfl) ?_
      refine go_iload_n rfl rfl ?_
      replace e := ck_as_e e
      obtain ⟨hc_5, e⟩ := e
      replace e := ck_some_e e
      obtain ⟨b6, hq_7, e⟩ := e
      refine go_aald (v := .ref b6) rfl hc_5 (by rw [hq_7]; rfl) ?_
      replace e := ck_as_e e
      obtain ⟨hk_8, e⟩ := e
      refine go_get (v := .int (gI h b6 5)) rfl rfl hk_8 (by decide) rfl ?_
      refine go_if_ne (t := 22) rfl rfl (fun hx_9 => ?_) (fun hx_9 => ?_)
      · rw [if_pos hx_9] at e
        refine go_iload_n rfl rfl ?_
        cases e
        exact go_ret rfl rfl
      · rw [if_neg hx_9] at e
        refine go_iinc (v := 1) rfl rfl (by decide) rfl ?_
        show Go k_Vo_lowestFree 25 [some (.ref a0), some (.int (v1 + 1))] [] h _
        refine go_goto (t := 2) rfl rfl ?_
        refine go_forget (l := [some (.ref a0), some (.int (v1 + 1))]) ⟨Or.inl rfl, Or.inl rfl, trivial⟩ ?_
        exact ih _ _ _ _ _ e
    · rw [if_neg hx_1] at e
      refine go_iconst (v := (-1)) rfl (by decide) ?_
      cases e
      exact go_ret rfl rfl
def f_Vo_lowestFree (F : Nat) (a0 : Nat) (h : ck_H) : Option (Int32 × ck_H) :=
  f_Vo_lowestFree_L2 F F a0 0 h
set_option maxRecDepth 100000 in
set_option maxHeartbeats 4000000 in
theorem s_Vo_lowestFree {F : Nat} {a0 : Nat} {h h' : ck_H} {r : Int32} (e : f_Vo_lowestFree F a0 h = some (r, h')) : Go k_Vo_lowestFree 0 (ck_in [.ref a0] 2) [] h (some (.int r), h') := by
  unfold f_Vo_lowestFree at e
  show Go k_Vo_lowestFree 0 [some (.ref a0), none] [] h _
  refine go_iconst (v := 0) rfl (by decide) ?_
  refine go_istore_n rfl rfl ?_
  show Go k_Vo_lowestFree 2 [some (.ref a0), some (.int 0)] [] h _
  refine go_forget (l := [some (.ref a0), some (.int 0)]) ⟨Or.inl rfl, Or.inl rfl, trivial⟩ ?_
  exact f_Vo_lowestFree_L2_s F F _ _ _ _ _ e
def f_Vo_freeFrom_L4 (F : Nat)  : Nat → Nat → Int32 → Int32 → ck_H → Option (Int32 × ck_H)
  | 0, _, _, _, _ => none
  | n + 1, a0, v2, v3, h =>
    if v3 < (0 : Int32) then
      some (v2, h)
    else
      if v3 < (80 : Int32) then
        ck_as (gk h a0 = 10) <|
        ck_some (gR h a0 2) fun b4 =>
        ck_as ((gk h b4 = 13 ∨ gk h b4 = 15) ∧ ¬ v3 < 0 ∧ (v3 : Int32).toNatClampNeg < gz h b4) <|
        if (gI h b4 (v3 : Int32).toNatClampNeg) = (0 : Int32) then
          f_Vo_freeFrom_L4 F n a0 (v2 + 1) (v3 + 1) h
        else
          some (v2, h)
      else
        some (v2, h)
set_option maxRecDepth 100000 in
set_option maxHeartbeats 4000000 in
theorem f_Vo_freeFrom_L4_s (F : Nat)   : ∀ (n : Nat) (a0 : Nat) (v2 : Int32) (v3 : Int32) (h : ck_H) (r : Int32) (h' : ck_H), f_Vo_freeFrom_L4 F n a0 v2 v3 h = some (r, h') → Go k_Vo_freeFrom 4 [some (.ref a0), none, some (.int v2), some (.int v3)] [] h (some (.int r), h') := by
  intro n
  induction n with
  | zero => intro a0 v2 v3 h r h' e; simp only [f_Vo_freeFrom_L4] at e; cases e
  | succ n ih =>
    intro a0 v2 v3 h r h' e
    rw [f_Vo_freeFrom_L4] at e
    refine go_iload_n rfl rfl ?_
    refine go_if_lt (t := 32) rfl rfl (fun hx_1 => ?_) (fun hx_1 => ?_)
    · rw [if_pos hx_1] at e
      refine go_iload_n rfl rfl ?_
      cases e
      exact go_ret rfl rfl
    · rw [if_neg hx_1] at e
      refine go_iload_n rfl rfl ?_
      refine go_bipush (v := 80) rfl (by decide) ?_
      refine go_icmp_ge (t := 32) rfl rfl (fun hx_2 => ?_) (fun hx_2 => ?_)
      · rw [if_pos hx_2] at e
        refine go_aload_n rfl rfl ?_
        replace e := ck_as_e e
        obtain ⟨hk_3, e⟩ := e
        replace e := ck_some_e e
        obtain ⟨b4, hq_5, e⟩ := e
        refine go_get (v := .ref b4) rfl rfl hk_3 (by decide) (by show va_rf (gR h a0 2) = _; rw [hq_5]; rfl) ?_
        refine go_iload_n rfl rfl ?_
        replace e := ck_as_e e
        obtain ⟨hc_6, e⟩ := e
        refine go_bald rfl hc_6 ?_
        refine go_if_ne (t := 32) rfl rfl (fun hx_7 => ?_) (fun hx_7 => ?_)
        · rw [if_pos hx_7] at e
          refine go_iinc (v := 1) rfl rfl (by decide) rfl ?_
          show Go k_Vo_freeFrom 26 [some (.ref a0), none, some (.int (v2 + 1)), some (.int v3)] [] h _
          refine go_iinc (v := 1) rfl rfl (by decide) rfl ?_
          show Go k_Vo_freeFrom 29 [some (.ref a0), none, some (.int (v2 + 1)), some (.int (v3 + 1))] [] h _
          refine go_goto (t := 4) rfl rfl ?_
          refine go_forget (l := [some (.ref a0), none, some (.int (v2 + 1)), some (.int (v3 + 1))]) ⟨Or.inl rfl, Or.inl rfl, Or.inl rfl, Or.inl rfl, trivial⟩ ?_
          exact ih _ _ _ _ _ _ e
        · rw [if_neg hx_7] at e
          refine go_iload_n rfl rfl ?_
          cases e
          exact go_ret rfl rfl
      · rw [if_neg hx_2] at e
        refine go_iload_n rfl rfl ?_
        cases e
        exact go_ret rfl rfl
def f_Vo_freeFrom (F : Nat) (a0 : Nat) (v1 : Int32) (h : ck_H) : Option (Int32 × ck_H) :=
  f_Vo_freeFrom_L4 F F a0 0 v1 h
set_option maxRecDepth 100000 in
set_option maxHeartbeats 4000000 in
theorem s_Vo_freeFrom {F : Nat} {a0 : Nat} {v1 : Int32} {h h' : ck_H} {r : Int32} (e : f_Vo_freeFrom F a0 v1 h = some (r, h')) : Go k_Vo_freeFrom 0 (ck_in [.ref a0, .int v1] 4) [] h (some (.int r), h') := by
  unfold f_Vo_freeFrom at e
  show Go k_Vo_freeFrom 0 [some (.ref a0), some (.int v1), none, none] [] h _
  refine go_iconst (v := 0) rfl (by decide) ?_
  refine go_istore_n rfl rfl ?_
  show Go k_Vo_freeFrom 2 [some (.ref a0), some (.int v1), some (.int 0), none] [] h _
  refine go_iload_n rfl rfl ?_
  refine go_istore_n rfl rfl ?_
  show Go k_Vo_freeFrom 4 [some (.ref a0), some (.int v1), some (.int 0), some (.int v1)] [] h _
  refine go_forget (l := [some (.ref a0), none, some (.int 0), some (.int v1)]) ⟨Or.inl rfl, Or.inr ⟨rfl, fun _ q => by cases q; rfl⟩, Or.inl rfl, Or.inl rfl, trivial⟩ ?_
  exact f_Vo_freeFrom_L4_s F F _ _ _ _ _ _ e
def f_Vo_findOneRun_L7 (F : Nat)  : Nat → Nat → Int32 → Int32 → ck_H → Option (Int32 × ck_H)
  | 0, _, _, _, _ => none
  | n + 1, a0, v1, v2, h =>
    if v2 < (80 : Int32) then
      ck_as (gk h a0 = 10) <|
      ck_bd (f_Vo_freeFrom F a0 v2 h) fun r3 h4 =>
      if r3 < v1 then
        f_Vo_findOneRun_L7 F n a0 v1 (v2 + 1) h4
      else
        ck_as (gk h4 a0 = 10) <|
        ck_some (gR h4 a0 3) fun b8 =>
        ck_as (gk h4 b8 = 14 ∧ ¬ (0 : Int32) < 0 ∧ (0 : Int32).toNatClampNeg < gz h4 b8) <|
        ck_then (wI h4 b8 (0 : Int32).toNatClampNeg v2) fun h11 =>
        ck_some (gR h11 a0 4) fun b13 =>
        ck_as (gk h11 b13 = 14 ∧ ¬ (0 : Int32) < 0 ∧ (0 : Int32).toNatClampNeg < gz h11 b13) <|
        ck_then (wI h11 b13 (0 : Int32).toNatClampNeg v1) fun h16 =>
        ck_then (wI h16 a0 7 1) fun h18 =>
        some (1, h18)
    else
      some (0, h)
set_option maxRecDepth 100000 in
set_option maxHeartbeats 4000000 in
theorem f_Vo_findOneRun_L7_s (F : Nat)   : ∀ (n : Nat) (a0 : Nat) (v1 : Int32) (v2 : Int32) (h : ck_H) (r : Int32) (h' : ck_H), f_Vo_findOneRun_L7 F n a0 v1 v2 h = some (r, h') → Go k_Vo_findOneRun 7 [some (.ref a0), some (.int v1), some (.int v2)] [] h (some (.int r), h') := by
  intro n
  induction n with
  | zero => intro a0 v1 v2 h r h' e; simp only [f_Vo_findOneRun_L7] at e; cases e
  | succ n ih =>
    intro a0 v1 v2 h r h' e
    rw [f_Vo_findOneRun_L7] at e
    refine go_iload_n rfl rfl ?_
    refine go_bipush (v := 80) rfl (by decide) ?_
    refine go_icmp_ge (t := 49) rfl rfl (fun hx_1 => ?_) (fun hx_1 => ?_)
    · rw [if_pos hx_1] at e
      refine go_aload_n rfl rfl ?_
      refine go_iload_n rfl rfl ?_
      replace e := ck_as_e e
      obtain ⟨hk_2, e⟩ := e
      replace e := ck_bd_e e
      obtain ⟨r3, h4, e5, e⟩ := e
      refine go_callV (As := [.int v2]) (b0 := a0) (rest := []) rfl rfl ⟨hk_2, by decide⟩ rfl ⟨Nat.le_of_ble_eq_true rfl, Nat.le_of_ble_eq_true rfl, Nat.le_of_ble_eq_true rfl, Nat.le_of_ble_eq_true rfl⟩ (s_Vo_freeFrom e5) ?_
      show Go k_Vo_findOneRun 18 [some (.ref a0), some (.int v1), some (.int v2)] [.int r3] h4 _
      refine go_iload_n rfl rfl ?_
      refine go_icmp_lt (t := 43) rfl rfl (fun hx_6 => ?_) (fun hx_6 => ?_)
      · rw [if_pos hx_6] at e
        refine go_iinc (v := 1) rfl rfl (by decide) rfl ?_
        show Go k_Vo_findOneRun 46 [some (.ref a0), some (.int v1), some (.int (v2 + 1))] [] h4 _
        refine go_goto (t := 7) rfl rfl ?_
        refine go_forget (l := [some (.ref a0), some (.int v1), some (.int (v2 + 1))]) ⟨Or.inl rfl, Or.inl rfl, Or.inl rfl, trivial⟩ ?_
        exact ih _ _ _ _ _ _ e
      · rw [if_neg hx_6] at e
        refine go_aload_n rfl rfl ?_
        replace e := ck_as_e e
        obtain ⟨hk_7, e⟩ := e
        replace e := ck_some_e e
        obtain ⟨b8, hq_9, e⟩ := e
        refine go_get (v := .ref b8) rfl rfl hk_7 (by decide) (by show va_rf (gR h4 a0 3) = _; rw [hq_9]; rfl) ?_
        refine go_iconst (v := 0) rfl (by decide) ?_
        refine go_iload_n rfl rfl ?_
        replace e := ck_as_e e
        obtain ⟨hc_10, e⟩ := e
        refine go_iast rfl hc_10 ?_
        have hk_12 : gk (wI h4 b8 (0 : Int32).toNatClampNeg v2) a0 = 10 := ck_kI.trans hk_7
        generalize wI h4 b8 (0 : Int32).toNatClampNeg v2 = h11 at e hk_12 ⊢
        replace e := ck_then_e e
        refine go_aload_n rfl rfl ?_
        replace e := ck_some_e e
        obtain ⟨b13, hq_14, e⟩ := e
        refine go_get (v := .ref b13) rfl rfl hk_12 (by decide) (by show va_rf (gR h11 a0 4) = _; rw [hq_14]; rfl) ?_
        refine go_iconst (v := 0) rfl (by decide) ?_
        refine go_iload_n rfl rfl ?_
        replace e := ck_as_e e
        obtain ⟨hc_15, e⟩ := e
        refine go_iast rfl hc_15 ?_
        have hk_17 : gk (wI h11 b13 (0 : Int32).toNatClampNeg v1) a0 = 10 := ck_kI.trans hk_12
        generalize wI h11 b13 (0 : Int32).toNatClampNeg v1 = h16 at e hk_17 ⊢
        replace e := ck_then_e e
        refine go_aload_n rfl rfl ?_
        refine go_iconst (v := 1) rfl (by decide) ?_
        refine go_put (h1 := wI h16 a0 7 1) rfl rfl hk_17 ⟨by decide, by decide, Or.inl rfl⟩ rfl ?_
        have hk_19 : gk (wI h16 a0 7 1) a0 = 10 := ck_kI.trans hk_17
        generalize wI h16 a0 7 1 = h18 at e hk_19 ⊢
        replace e := ck_then_e e
        refine go_iconst (v := 1) rfl (by decide) ?_
        cases e
        exact go_ret rfl (ck_rvb rfl (Or.inr rfl))
    · rw [if_neg hx_1] at e
      refine go_iconst (v := 0) rfl (by decide) ?_
      cases e
      exact go_ret rfl (ck_rvb rfl (Or.inl rfl))
def f_Vo_findOneRun (F : Nat) (a0 : Nat) (v1 : Int32) (h : ck_H) : Option (Int32 × ck_H) :=
  ck_as (gk h a0 = 10) <|
  ck_then (wI h a0 7 0) fun h2 =>
  f_Vo_findOneRun_L7 F F a0 v1 1 h2
set_option maxRecDepth 100000 in
set_option maxHeartbeats 4000000 in
theorem s_Vo_findOneRun {F : Nat} {a0 : Nat} {v1 : Int32} {h h' : ck_H} {r : Int32} (e : f_Vo_findOneRun F a0 v1 h = some (r, h')) : Go k_Vo_findOneRun 0 (ck_in [.ref a0, .int v1] 3) [] h (some (.int r), h') := by
  unfold f_Vo_findOneRun at e
  show Go k_Vo_findOneRun 0 [some (.ref a0), some (.int v1), none] [] h _
  refine go_aload_n rfl rfl ?_
  refine go_iconst (v := 0) rfl (by decide) ?_
  replace e := ck_as_e e
  obtain ⟨hk_1, e⟩ := e
  refine go_put (h1 := wI h a0 7 0) rfl rfl hk_1 ⟨by decide, by decide, Or.inl rfl⟩ rfl ?_
  have hk_3 : gk (wI h a0 7 0) a0 = 10 := ck_kI.trans hk_1
  generalize wI h a0 7 0 = h2 at e hk_3 ⊢
  replace e := ck_then_e e
  refine go_iconst (v := 1) rfl (by decide) ?_
  refine go_istore_n rfl rfl ?_
  show Go k_Vo_findOneRun 7 [some (.ref a0), some (.int v1), some (.int 1)] [] h2 _
  refine go_forget (l := [some (.ref a0), some (.int v1), some (.int 1)]) ⟨Or.inl rfl, Or.inl rfl, Or.inl rfl, trivial⟩ ?_
  exact f_Vo_findOneRun_L7_s F F _ _ _ _ _ _ e
def f_Vo_findRuns_L10 (F : Nat)  : Nat → Nat → Int32 → Int32 → Int32 → ck_H → Option (Int32 × ck_H)
  | 0, _, _, _, _, _ => none
  | n + 1, a0, v2, v3, v4, h =>
    if v4 < (80 : Int32) then
      if (0 : Int32) < v3 then
        ck_as (gk h a0 = 10) <|
        ck_bd (f_Vo_freeFrom F a0 v4 h) fun r4 h5 =>
        ck_bd (f_Ma_min F v3 r4 h5) fun r7 h8 =>
        if (0 : Int32) < r7 then
          ck_as (gk h8 a0 = 10) <|
          if (gI h8 a0 7) < v2 then
            if (gI h8 a0 7) < (4 : Int32) then
              ck_some (gR h8 a0 3) fun b14 =>
              ck_as (gk h8 b14 = 14 ∧ ¬ (gI h8 a0 7) < 0 ∧ (gI h8 a0 7 : Int32).toNatClampNeg < gz h8 b14) <|
              ck_then (wI h8 b14 (gI h8 a0 7 : Int32).toNatClampNeg v4) fun h17 =>
              ck_some (gR h17 a0 4) fun b19 =>
              ck_as (gk h17 b19 = 14 ∧ ¬ (gI h17 a0 7) < 0 ∧ (gI h17 a0 7 : Int32).toNatClampNeg < gz h17 b19) <|
              ck_then (wI h17 b19 (gI h17 a0 7 : Int32).toNatClampNeg r7) fun h22 =>
              ck_then (wI h22 a0 7 ((gI h22 a0 7) + 1)) fun h24 =>
              ck_then (v3 - r7) fun x26 =>
              ck_then (v4 + r7) fun x27 =>
              f_Vo_findRuns_L10 F n a0 v2 x26 (x27 + 1) h24
            else
              some (0, h8)
          else
            some (0, h8)
        else
          f_Vo_findRuns_L10 F n a0 v2 v3 (v4 + 1) h8
      else
        if v3 = (0 : Int32) then
          some (1, h)
        else
          some (0, h)
    else
      if v3 = (0 : Int32) then
        some (1, h)
      else
        some (0, h)
set_option maxRecDepth 100000 in
set_option maxHeartbeats 4000000 in
theorem f_Vo_findRuns_L10_s (F : Nat)   : ∀ (n : Nat) (a0 : Nat) (v2 : Int32) (v3 : Int32) (v4 : Int32) (h : ck_H) (r : Int32) (h' : ck_H), f_Vo_findRuns_L10 F n a0 v2 v3 v4 h = some (r, h') → Go k_Vo_findRuns 10 [some (.ref a0), none, some (.int v2), some (.int v3), some (.int v4), none] [] h (some (.int r), h') := by
  intro n
  induction n with
  | zero => intro a0 v2 v3 v4 h r h' e; simp only [f_Vo_findRuns_L10] at e; cases e
  | succ n ih =>
    intro a0 v2 v3 v4 h r h' e
    rw [f_Vo_findRuns_L10] at e
    refine go_iload rfl rfl ?_
    refine go_bipush (v := 80) rfl (by decide) ?_
    refine go_icmp_ge (t := 106) rfl rfl (fun hx_1 => ?_) (fun hx_1 => ?_)
    · rw [if_pos hx_1] at e
      refine go_iload_n rfl rfl ?_
      refine go_if_le (t := 106) rfl rfl (fun hx_2 => ?_) (fun hx_2 => ?_)
      · rw [if_pos hx_2] at e
        refine go_iload_n rfl rfl ?_
        refine go_aload_n rfl rfl ?_
        refine go_iload rfl rfl ?_
        replace e := ck_as_e e
        obtain ⟨hk_3, e⟩ := e
        replace e := ck_bd_e e
        obtain ⟨r4, h5, e6, e⟩ := e
        refine go_callV (As := [.int v4]) (b0 := a0) (rest := [.int v3]) rfl rfl ⟨hk_3, by decide⟩ rfl ⟨Nat.le_of_ble_eq_true rfl, Nat.le_of_ble_eq_true rfl, Nat.le_of_ble_eq_true rfl, Nat.le_of_ble_eq_true rfl⟩ (s_Vo_freeFrom e6) ?_
        show Go k_Vo_findRuns 28 [some (.ref a0), none, some (.int v2), some (.int v3), some (.int v4), none] [.int r4, .int v3] h5 _
        replace e := ck_bd_e e
        obtain ⟨r7, h8, e9, e⟩ := e
        refine go_callS (As := [.int v3, .int r4]) (rest := []) rfl rfl rfl ⟨Nat.le_of_ble_eq_true rfl, Nat.le_of_ble_eq_true rfl, Nat.le_of_ble_eq_true rfl, Nat.le_of_ble_eq_true rfl⟩ (s_Ma_min e9) ?_
        show Go k_Vo_findRuns 31 [some (.ref a0), none, some (.int v2), some (.int v3), some (.int v4), none] [.int r7] h8 _
        refine go_istore rfl rfl ?_
        show Go k_Vo_findRuns 33 [some (.ref a0), none, some (.int v2), some (.int v3), some (.int v4), some (.int r7)] [] h8 _
        refine go_iload rfl rfl ?_
        refine go_if_le (t := 100) rfl rfl (fun hx_10 => ?_) (fun hx_10 => ?_)
        · rw [if_pos hx_10] at e
          refine go_aload_n rfl rfl ?_
          replace e := ck_as_e e
          obtain ⟨hk_11, e⟩ := e
          refine go_get (v := .int (gI h8 a0 7)) rfl rfl hk_11 (by decide) rfl ?_
          refine go_iload_n rfl rfl ?_
          refine go_icmp_ge (t := 54) rfl rfl (fun hx_12 => ?_) (fun hx_12 => ?_)
          · rw [if_pos hx_12] at e
            refine go_aload_n rfl rfl ?_
            refine go_get (v := .int (gI h8 a0 7)) rfl rfl hk_11 (by decide) rfl ?_
            refine go_iconst (v := 4) rfl (by decide) ?_
            refine go_icmp_lt (t := 56) rfl rfl (fun hx_13 => ?_) (fun hx_13 => ?_)
            · rw [if_pos hx_13] at e
              refine go_aload_n rfl rfl ?_
              replace e := ck_some_e e
              obtain ⟨b14, hq_15, e⟩ := e
              refine go_get (v := .ref b14) rfl rfl hk_11 (by decide) (by show va_rf (gR h8 a0 3) = _; rw [hq_15]; rfl) ?_
              refine go_aload_n rfl rfl ?_
              refine go_get (v := .int (gI h8 a0 7)) rfl rfl hk_11 (by decide) rfl ?_
              refine go_iload rfl rfl ?_
              replace e := ck_as_e e
              obtain ⟨hc_16, e⟩ := e
              refine go_iast rfl hc_16 ?_
              have hk_18 : gk (wI h8 b14 (gI h8 a0 7 : Int32).toNatClampNeg v4) a0 = 10 := ck_kI.trans hk_11
              generalize wI h8 b14 (gI h8 a0 7 : Int32).toNatClampNeg v4 = h17 at e hk_18 ⊢
              replace e := ck_then_e e
              refine go_aload_n rfl rfl ?_
              replace e := ck_some_e e
              obtain ⟨b19, hq_20, e⟩ := e
              refine go_get (v := .ref b19) rfl rfl hk_18 (by decide) (by show va_rf (gR h17 a0 4) = _; rw [hq_20]; rfl) ?_
              refine go_aload_n rfl rfl ?_
              refine go_get (v := .int (gI h17 a0 7)) rfl rfl hk_18 (by decide) rfl ?_
              refine go_iload rfl rfl ?_
              replace e := ck_as_e e
              obtain ⟨hc_21, e⟩ := e
              refine go_iast rfl hc_21 ?_
              have hk_23 : gk (wI h17 b19 (gI h17 a0 7 : Int32).toNatClampNeg r7) a0 = 10 := ck_kI.trans hk_18
              generalize wI h17 b19 (gI h17 a0 7 : Int32).toNatClampNeg r7 = h22 at e hk_23 ⊢
              replace e := ck_then_e e
              refine go_aload_n rfl rfl ?_
              refine go_dup rfl rfl ?_
              refine go_get (v := .int (gI h22 a0 7)) rfl rfl hk_23 (by decide) rfl ?_
              refine go_iconst (v := 1) rfl (by decide) ?_
              refine go_iadd rfl ?_
              refine go_put (h1 := wI h22 a0 7 ((gI h22 a0 7) + 1)) rfl rfl hk_23 ⟨by decide, by decide, Or.inl rfl⟩ rfl ?_
              have hk_25 : gk (wI h22 a0 7 ((gI h22 a0 7) + 1)) a0 = 10 := ck_kI.trans hk_23
              generalize wI h22 a0 7 ((gI h22 a0 7) + 1) = h24 at e hk_25 ⊢
              replace e := ck_then_e e
              refine go_iload_n rfl rfl ?_
              refine go_iload rfl rfl ?_
              refine go_isub rfl ?_
              generalize v3 - r7 = x26 at e ⊢
              replace e := ck_then_e e
              refine go_istore_n rfl rfl ?_
              show Go k_Vo_findRuns 93 [some (.ref a0), none, some (.int v2), some (.int x26), some (.int v4), some (.int r7)] [] h24 _
              refine go_iload rfl rfl ?_
              refine go_iload rfl rfl ?_
              refine go_iadd rfl ?_
              generalize v4 + r7 = x27 at e ⊢
              replace e := ck_then_e e
              refine go_istore rfl rfl ?_
              show Go k_Vo_findRuns 100 [some (.ref a0), none, some (.int v2), some (.int x26), some (.int x27), some (.int r7)] [] h24 _
              refine go_iinc (v := 1) rfl rfl (by decide) rfl ?_
              show Go k_Vo_findRuns 103 [some (.ref a0), none, some (.int v2), some (.int x26), some (.int (x27 + 1)), some (.int r7)] [] h24 _
              refine go_goto (t := 10) rfl rfl ?_
              refine go_forget (l := [some (.ref a0), none, some (.int v2), some (.int x26), some (.int (x27 + 1)), none]) ⟨Or.inl rfl, Or.inl rfl, Or.inl rfl, Or.inl rfl, Or.inl rfl, Or.inr ⟨rfl, fun _ q => by cases q; rfl⟩, trivial⟩ ?_
              exact ih _ _ _ _ _ _ _ e
            · rw [if_neg hx_13] at e
              refine go_iconst (v := 0) rfl (by decide) ?_
              cases e
              exact go_ret rfl (ck_rvb rfl (Or.inl rfl))
          · rw [if_neg hx_12] at e
            refine go_iconst (v := 0) rfl (by decide) ?_
            cases e
            exact go_ret rfl (ck_rvb rfl (Or.inl rfl))
        · rw [if_neg hx_10] at e
          refine go_iinc (v := 1) rfl rfl (by decide) rfl ?_
          show Go k_Vo_findRuns 103 [some (.ref a0), none, some (.int v2), some (.int v3), some (.int (v4 + 1)), some (.int r7)] [] h8 _
          refine go_goto (t := 10) rfl rfl ?_
          refine go_forget (l := [some (.ref a0), none, some (.int v2), some (.int v3), some (.int (v4 + 1)), none]) ⟨Or.inl rfl, Or.inl rfl, Or.inl rfl, Or.inl rfl, Or.inl rfl, Or.inr ⟨rfl, fun _ q => by cases q; rfl⟩, trivial⟩ ?_
          exact ih _ _ _ _ _ _ _ e
      · rw [if_neg hx_2] at e
        refine go_iload_n rfl rfl ?_
        refine go_if_ne (t := 114) rfl rfl (fun hx_28 => ?_) (fun hx_28 => ?_)
        · rw [if_pos hx_28] at e
          refine go_iconst (v := 1) rfl (by decide) ?_
          refine go_goto (t := 115) rfl rfl ?_
          cases e
          exact go_ret rfl (ck_rvb rfl (Or.inr rfl))
        · rw [if_neg hx_28] at e
          refine go_iconst (v := 0) rfl (by decide) ?_
          cases e
          exact go_ret rfl (ck_rvb rfl (Or.inl rfl))
    · rw [if_neg hx_1] at e
      refine go_iload_n rfl rfl ?_
      refine go_if_ne (t := 114) rfl rfl (fun hx_29 => ?_) (fun hx_29 => ?_)
      · rw [if_pos hx_29] at e
        refine go_iconst (v := 1) rfl (by decide) ?_
        refine go_goto (t := 115) rfl rfl ?_
        cases e
        exact go_ret rfl (ck_rvb rfl (Or.inr rfl))
      · rw [if_neg hx_29] at e
        refine go_iconst (v := 0) rfl (by decide) ?_
        cases e
        exact go_ret rfl (ck_rvb rfl (Or.inl rfl))
def f_Vo_findRuns (F : Nat) (a0 : Nat) (v1 : Int32) (v2 : Int32) (h : ck_H) : Option (Int32 × ck_H) :=
  ck_as (gk h a0 = 10) <|
  ck_then (wI h a0 7 0) fun h2 =>
  f_Vo_findRuns_L10 F F a0 v2 v1 1 h2
set_option maxRecDepth 100000 in
set_option maxHeartbeats 4000000 in
theorem s_Vo_findRuns {F : Nat} {a0 : Nat} {v1 : Int32} {v2 : Int32} {h h' : ck_H} {r : Int32} (e : f_Vo_findRuns F a0 v1 v2 h = some (r, h')) : Go k_Vo_findRuns 0 (ck_in [.ref a0, .int v1, .int v2] 6) [] h (some (.int r), h') := by
  unfold f_Vo_findRuns at e
  show Go k_Vo_findRuns 0 [some (.ref a0), some (.int v1), some (.int v2), none, none, none] [] h _
  refine go_aload_n rfl rfl ?_
  refine go_iconst (v := 0) rfl (by decide) ?_
  replace e := ck_as_e e
  obtain ⟨hk_1, e⟩ := e
  refine go_put (h1 := wI h a0 7 0) rfl rfl hk_1 ⟨by decide, by decide, Or.inl rfl⟩ rfl ?_
  have hk_3 : gk (wI h a0 7 0) a0 = 10 := ck_kI.trans hk_1
  generalize wI h a0 7 0 = h2 at e hk_3 ⊢
  replace e := ck_then_e e
  refine go_iload_n rfl rfl ?_
  refine go_istore_n rfl rfl ?_
  show Go k_Vo_findRuns 7 [some (.ref a0), some (.int v1), some (.int v2), some (.int v1), none, none] [] h2 _
  refine go_iconst (v := 1) rfl (by decide) ?_
  refine go_istore rfl rfl ?_
  show Go k_Vo_findRuns 10 [some (.ref a0), some (.int v1), some (.int v2), some (.int v1), some (.int 1), none] [] h2 _
  refine go_forget (l := [some (.ref a0), none, some (.int v2), some (.int v1), some (.int 1), none]) ⟨Or.inl rfl, Or.inr ⟨rfl, fun _ q => by cases q; rfl⟩, Or.inl rfl, Or.inl rfl, Or.inl rfl, Or.inl rfl, trivial⟩ ?_
  exact f_Vo_findRuns_L10_s F F _ _ _ _ _ _ _ e
def f_DS_addRun_J46 (F : Nat)  (a0 : Nat) (v1 : Int32) (v2 : Int32) (h : ck_H) : Option (Unit × ck_H) :=
  ck_as (gk h a0 = 2) <|
  if (gI h a0 9) < (0 : Int32) then
    some ((), h)
  else
    if (gI h a0 9) < (4 : Int32) then
      ck_some (gR h a0 2) fun b4 =>
      ck_as (gk h b4 = 14 ∧ ¬ (gI h a0 9) < 0 ∧ (gI h a0 9 : Int32).toNatClampNeg < gz h b4) <|
      ck_then (wI h b4 (gI h a0 9 : Int32).toNatClampNeg v1) fun h7 =>
      ck_some (gR h7 a0 3) fun b9 =>
      ck_as (gk h7 b9 = 14 ∧ ¬ (gI h7 a0 9) < 0 ∧ (gI h7 a0 9 : Int32).toNatClampNeg < gz h7 b9) <|
      ck_then (wI h7 b9 (gI h7 a0 9 : Int32).toNatClampNeg v2) fun h12 =>
      ck_then (wI h12 a0 9 ((gI h12 a0 9) + 1)) fun h14 =>
      some ((), h14)
    else
      some ((), h)
set_option maxRecDepth 100000 in
set_option maxHeartbeats 4000000 in
theorem f_DS_addRun_J46_s (F : Nat)   (a0 : Nat) (v1 : Int32) (v2 : Int32) (h : ck_H) (r : Unit) (h' : ck_H) (e : f_DS_addRun_J46 F  a0 v1 v2 h = some (r, h')) : Go k_DS_addRun 46 [some (.ref a0), some (.int v1), some (.int v2), none] [] h (none, h') := by
  unfold f_DS_addRun_J46 at e
  refine go_aload_n rfl rfl ?_
  replace e := ck_as_e e
  obtain ⟨hk_1, e⟩ := e
  refine go_get (v := .int (gI h a0 9)) rfl rfl hk_1 (by decide) rfl ?_
  refine go_if_lt (t := 91) rfl rfl (fun hx_2 => ?_) (fun hx_2 => ?_)
  · rw [if_pos hx_2] at e
    cases e
    exact go_ret rfl rfl
  · rw [if_neg hx_2] at e
    refine go_aload_n rfl rfl ?_
    refine go_get (v := .int (gI h a0 9)) rfl rfl hk_1 (by decide) rfl ?_
    refine go_iconst (v := 4) rfl (by decide) ?_
    refine go_icmp_ge (t := 91) rfl rfl (fun hx_3 => ?_) (fun hx_3 => ?_)
    · rw [if_pos hx_3] at e
      refine go_aload_n rfl rfl ?_
      replace e := ck_some_e e
      obtain ⟨b4, hq_5, e⟩ := e
      refine go_get (v := .ref b4) rfl rfl hk_1 (by decide) (by show va_rf (gR h a0 2) = _; rw [hq_5]; rfl) ?_
      refine go_aload_n rfl rfl ?_
      refine go_get (v := .int (gI h a0 9)) rfl rfl hk_1 (by decide) rfl ?_
      refine go_iload_n rfl rfl ?_
      replace e := ck_as_e e
      obtain ⟨hc_6, e⟩ := e
      refine go_iast rfl hc_6 ?_
      have hk_8 : gk (wI h b4 (gI h a0 9 : Int32).toNatClampNeg v1) a0 = 2 := ck_kI.trans hk_1
      generalize wI h b4 (gI h a0 9 : Int32).toNatClampNeg v1 = h7 at e hk_8 ⊢
      replace e := ck_then_e e
      refine go_aload_n rfl rfl ?_
      replace e := ck_some_e e
      obtain ⟨b9, hq_10, e⟩ := e
      refine go_get (v := .ref b9) rfl rfl hk_8 (by decide) (by show va_rf (gR h7 a0 3) = _; rw [hq_10]; rfl) ?_
      refine go_aload_n rfl rfl ?_
      refine go_get (v := .int (gI h7 a0 9)) rfl rfl hk_8 (by decide) rfl ?_
      refine go_iload_n rfl rfl ?_
      replace e := ck_as_e e
      obtain ⟨hc_11, e⟩ := e
      refine go_iast rfl hc_11 ?_
      have hk_13 : gk (wI h7 b9 (gI h7 a0 9 : Int32).toNatClampNeg v2) a0 = 2 := ck_kI.trans hk_8
      generalize wI h7 b9 (gI h7 a0 9 : Int32).toNatClampNeg v2 = h12 at e hk_13 ⊢
      replace e := ck_then_e e
      refine go_aload_n rfl rfl ?_
      refine go_dup rfl rfl ?_
      refine go_get (v := .int (gI h12 a0 9)) rfl rfl hk_13 (by decide) rfl ?_
      refine go_iconst (v := 1) rfl (by decide) ?_
      refine go_iadd rfl ?_
      refine go_put (h1 := wI h12 a0 9 ((gI h12 a0 9) + 1)) rfl rfl hk_13 ⟨by decide, by decide, Or.inl rfl⟩ rfl ?_
      have hk_15 : gk (wI h12 a0 9 ((gI h12 a0 9) + 1)) a0 = 2 := ck_kI.trans hk_13
      generalize wI h12 a0 9 ((gI h12 a0 9) + 1) = h14 at e hk_15 ⊢
      replace e := ck_then_e e
      cases e
      exact go_ret rfl rfl
    · rw [if_neg hx_3] at e
      cases e
      exact go_ret rfl rfl
def f_DS_addRun (F : Nat) (a0 : Nat) (v1 : Int32) (v2 : Int32) (h : ck_H) : Option (Unit × ck_H) :=
  ck_as (gk h a0 = 2) <|
  ck_then ((gI h a0 9) - 1) fun x2 =>
  if x2 < (0 : Int32) then
    f_DS_addRun_J46 F a0 v1 v2 h
  else
    if x2 < (4 : Int32) then
      ck_some (gR h a0 2) fun b17 =>
      ck_as ((gk h b17 = 14 ∨ gk h b17 = 21) ∧ ¬ x2 < 0 ∧ (x2 : Int32).toNatClampNeg < gz h b17) <|
      ck_some (gR h a0 3) fun b20 =>
      ck_as ((gk h b20 = 14 ∨ gk h b20 = 21) ∧ ¬ x2 < 0 ∧ (x2 : Int32).toNatClampNeg < gz h b20) <|
      if ((gI h b17 (x2 : Int32).toNatClampNeg) + (gI h b20 (x2 : Int32).toNatClampNeg)) = v1 then
        ck_some (gR h a0 3) fun b24 =>
        ck_as ((gk h b24 = 14 ∨ gk h b24 = 21) ∧ ¬ x2 < 0 ∧ (x2 : Int32).toNatClampNeg < gz h b24) <|
        ck_as (gk h b24 = 14 ∧ ¬ x2 < 0 ∧ (x2 : Int32).toNatClampNeg < gz h b24) <|
        ck_then (wI h b24 (x2 : Int32).toNatClampNeg ((gI h b24 (x2 : Int32).toNatClampNeg) + v2)) fun h28 =>
        some ((), h28)
      else
        f_DS_addRun_J46 F a0 v1 v2 h
    else
      f_DS_addRun_J46 F a0 v1 v2 h
set_option maxRecDepth 100000 in
set_option maxHeartbeats 4000000 in
theorem s_DS_addRun {F : Nat} {a0 : Nat} {v1 : Int32} {v2 : Int32} {h h' : ck_H} {r : Unit} (e : f_DS_addRun F a0 v1 v2 h = some (r, h')) : Go k_DS_addRun 0 (ck_in [.ref a0, .int v1, .int v2] 4) [] h (none, h') := by
  unfold f_DS_addRun at e
  show Go k_DS_addRun 0 [some (.ref a0), some (.int v1), some (.int v2), none] [] h _
  refine go_aload_n rfl rfl ?_
  replace e := ck_as_e e
  obtain ⟨hk_1, e⟩ := e
  refine go_get (v := .int (gI h a0 9)) rfl rfl hk_1 (by decide) rfl ?_
  refine go_iconst (v := 1) rfl (by decide) ?_
  refine go_isub rfl ?_
  generalize (gI h a0 9) - 1 = x2 at e ⊢
  replace e := ck_then_e e
  refine go_istore_n rfl rfl ?_
  show Go k_DS_addRun 7 [some (.ref a0), some (.int v1), some (.int v2), some (.int x2)] [] h _
  refine go_iload_n rfl rfl ?_
  refine go_if_lt (t := 46) rfl rfl (fun hx_3 => ?_) (fun hx_3 => ?_)
  · rw [if_pos hx_3] at e
    refine go_forget (l := [some (.ref a0), some (.int v1), some (.int v2), none]) ⟨Or.inl rfl, Or.inl rfl, Or.inl rfl, Or.inr ⟨rfl, fun _ q => by cases q; rfl⟩, trivial⟩ ?_
    exact f_DS_addRun_J46_s F a0 v1 v2 _ _ _ e
  · rw [if_neg hx_3] at e
    refine go_iload_n rfl rfl ?_
    refine go_iconst (v := 4) rfl (by decide) ?_
    refine go_icmp_ge (t := 46) rfl rfl (fun hx_16 => ?_) (fun hx_16 => ?_)
    · rw [if_pos hx_16] at e
      refine go_aload_n rfl rfl ?_
      replace e := ck_some_e e
      obtain ⟨b17, hq_18, e⟩ := e
      refine go_get (v := .ref b17) rfl rfl hk_1 (by decide) (by show va_rf (gR h a0 2) = _; rw [hq_18]; rfl) ?_
      refine go_iload_n rfl rfl ?_
      replace e := ck_as_e e
      obtain ⟨hc_19, e⟩ := e
      refine go_iald rfl hc_19 ?_
      refine go_aload_n rfl rfl ?_
      replace e := ck_some_e e
      obtain ⟨b20, hq_21, e⟩ := e
      refine go_get (v := .ref b20) rfl rfl hk_1 (by decide) (by show va_rf (gR h a0 3) = _; rw [hq_21]; rfl) ?_
      refine go_iload_n rfl rfl ?_
      replace e := ck_as_e e
      obtain ⟨hc_22, e⟩ := e
      refine go_iald rfl hc_22 ?_
      refine go_iadd rfl ?_
      refine go_iload_n rfl rfl ?_
      refine go_icmp_ne (t := 46) rfl rfl (fun hx_23 => ?_) (fun hx_23 => ?_)
      · rw [if_pos hx_23] at e
        refine go_aload_n rfl rfl ?_
        replace e := ck_some_e e
        obtain ⟨b24, hq_25, e⟩ := e
        refine go_get (v := .ref b24) rfl rfl hk_1 (by decide) (by show va_rf (gR h a0 3) = _; rw [hq_25]; rfl) ?_
        refine go_iload_n rfl rfl ?_
        refine go_dup2 rfl rfl rfl ?_
        replace e := ck_as_e e
        obtain ⟨hc_26, e⟩ := e
        refine go_iald rfl hc_26 ?_
        refine go_iload_n rfl rfl ?_
        refine go_iadd rfl ?_
        replace e := ck_as_e e
        obtain ⟨hc_27, e⟩ := e
        refine go_iast rfl hc_27 ?_
        have hk_29 : gk (wI h b24 (x2 : Int32).toNatClampNeg ((gI h b24 (x2 : Int32).toNatClampNeg) + v2)) a0 = 2 := ck_kI.trans hk_1
        generalize wI h b24 (x2 : Int32).toNatClampNeg ((gI h b24 (x2 : Int32).toNatClampNeg) + v2) = h28 at e hk_29 ⊢
        replace e := ck_then_e e
        refine go_goto (t := 91) rfl rfl ?_
        cases e
        exact go_ret rfl rfl
      · rw [if_neg hx_23] at e
        refine go_forget (l := [some (.ref a0), some (.int v1), some (.int v2), none]) ⟨Or.inl rfl, Or.inl rfl, Or.inl rfl, Or.inr ⟨rfl, fun _ q => by cases q; rfl⟩, trivial⟩ ?_
        exact f_DS_addRun_J46_s F a0 v1 v2 _ _ _ e
    · rw [if_neg hx_16] at e
      refine go_forget (l := [some (.ref a0), some (.int v1), some (.int v2), none]) ⟨Or.inl rfl, Or.inl rfl, Or.inl rfl, Or.inr ⟨rfl, fun _ q => by cases q; rfl⟩, trivial⟩ ?_
      exact f_DS_addRun_J46_s F a0 v1 v2 _ _ _ e
def f_Vo_setTaken_L7 (F : Nat)  : Nat → Nat → Int32 → Int32 → Int32 → Int32 → ck_H → Option (Unit × ck_H)
  | 0, _, _, _, _, _, _ => none
  | n + 1, a0, v1, v2, v3, v4, h =>
    if v4 < (v1 + v2) then
      if v4 < (80 : Int32) then
        ck_as (gk h a0 = 10) <|
        ck_some (gR h a0 2) fun b4 =>
        ck_as (gk h b4 = 15 ∧ (v3 = 0 ∨ v3 = 1) ∧ ¬ v4 < 0 ∧ (v4 : Int32).toNatClampNeg < gz h b4) <|
        ck_then (wI h b4 (v4 : Int32).toNatClampNeg v3) fun h7 =>
        ck_some (gR h7 a0 0) fun b9 =>
        ck_as (gk h7 b9 = 9) <|
        ck_some (gR h7 b9 0) fun b12 =>
        ck_as ((16 ≤ gk h7 b12 ∧ gk h7 b12 ≤ 20) ∧ ¬ v4 < 0 ∧ (v4 : Int32).toNatClampNeg < gz h7 b12) <|
        ck_some (gR h7 b12 (v4 : Int32).toNatClampNeg) fun b15 =>
        ck_as (gk h7 b15 = 8) <|
        ck_bd (f_Tr_keepFirst F b15 0 h7) fun _ h19 =>
        f_Vo_setTaken_L7 F n a0 v1 v2 v3 (v4 + 1) h19
      else
        some ((), h)
    else
      some ((), h)
set_option maxRecDepth 100000 in
set_option maxHeartbeats 4000000 in
theorem f_Vo_setTaken_L7_s (F : Nat)   : ∀ (n : Nat) (a0 : Nat) (v1 : Int32) (v2 : Int32) (v3 : Int32) (v4 : Int32) (h : ck_H) (r : Unit) (h' : ck_H), f_Vo_setTaken_L7 F n a0 v1 v2 v3 v4 h = some (r, h') → Go k_Vo_setTaken 7 [some (.ref a0), some (.int v1), some (.int v2), some (.int v3), some (.int v4)] [] h (none, h') := by
  intro n
  induction n with
  | zero => intro a0 v1 v2 v3 v4 h r h' e; simp only [f_Vo_setTaken_L7] at e; cases e
  | succ n ih =>
    intro a0 v1 v2 v3 v4 h r h' e
    rw [f_Vo_setTaken_L7] at e
    refine go_iload rfl rfl ?_
    refine go_iload_n rfl rfl ?_
    refine go_iload_n rfl rfl ?_
    refine go_iadd rfl ?_
    refine go_icmp_ge (t := 50) rfl rfl (fun hx_1 => ?_) (fun hx_1 => ?_)
    · rw [if_pos hx_1] at e
      refine go_iload rfl rfl ?_
      refine go_bipush (v := 80) rfl (by decide) ?_
      refine go_icmp_ge (t := 50) rfl rfl (fun hx_2 => ?_) (fun hx_2 => ?_)
      · rw [if_pos hx_2] at e
        refine go_aload_n rfl rfl ?_
        replace e := ck_as_e e
        obtain ⟨hk_3, e⟩ := e
        replace e := ck_some_e e
        obtain ⟨b4, hq_5, e⟩ := e
        refine go_get (v := .ref b4) rfl rfl hk_3 (by decide) (by show va_rf (gR h a0 2) = _; rw [hq_5]; rfl) ?_
        refine go_iload rfl rfl ?_
        refine go_iload_n rfl rfl ?_
        replace e := ck_as_e e
        obtain ⟨hc_6, e⟩ := e
        refine go_zast rfl hc_6 ?_
        have hk_8 : gk (wI h b4 (v4 : Int32).toNatClampNeg v3) a0 = 10 := ck_kI.trans hk_3
        generalize wI h b4 (v4 : Int32).toNatClampNeg v3 = h7 at e hk_8 ⊢
        replace e := ck_then_e e
        refine go_aload_n rfl rfl ?_
        replace e := ck_some_e e
        obtain ⟨b9, hq_10, e⟩ := e
        refine go_get (v := .ref b9) rfl rfl hk_8 (by decide) (by show va_rf (gR h7 a0 0) = _; rw [hq_10]; rfl) ?_
        replace e := ck_as_e e
        obtain ⟨hk_11, e⟩ := e
        replace e := ck_some_e e
        obtain ⟨b12, hq_13, e⟩ := e
        refine go_get (v := .ref b12) rfl rfl hk_11 (by decide) (by show va_rf (gR h7 b9 0) = _; rw [hq_13]; rfl) ?_
        refine go_iload rfl rfl ?_
        replace e := ck_as_e e
        obtain ⟨hc_14, e⟩ := e
        replace e := ck_some_e e
        obtain ⟨b15, hq_16, e⟩ := e
        refine go_aald (v := .ref b15) rfl hc_14 (by rw [hq_16]; rfl) ?_
        refine go_iconst (v := 0) rfl (by decide) ?_
        replace e := ck_as_e e
        obtain ⟨hk_17, e⟩ := e
        replace e := ck_bd_e e
        obtain ⟨r18, h19, e20, e⟩ := e
        refine go_callV (As := [.int 0]) (b0 := b15) (rest := []) rfl rfl ⟨hk_17, by decide⟩ rfl ⟨Nat.le_of_ble_eq_true rfl, Nat.le_of_ble_eq_true rfl, Nat.le_of_ble_eq_true rfl, Nat.le_of_ble_eq_true rfl⟩ (s_Tr_keepFirst e20) ?_
        show Go k_Vo_setTaken 44 [some (.ref a0), some (.int v1), some (.int v2), some (.int v3), some (.int v4)] [] h19 _
        refine go_iinc (v := 1) rfl rfl (by decide) rfl ?_
        show Go k_Vo_setTaken 47 [some (.ref a0), some (.int v1), some (.int v2), some (.int v3), some (.int (v4 + 1))] [] h19 _
        refine go_goto (t := 7) rfl rfl ?_
        refine go_forget (l := [some (.ref a0), some (.int v1), some (.int v2), some (.int v3), some (.int (v4 + 1))]) ⟨Or.inl rfl, Or.inl rfl, Or.inl rfl, Or.inl rfl, Or.inl rfl, trivial⟩ ?_
        exact ih _ _ _ _ _ _ _ _ e
      · rw [if_neg hx_2] at e
        cases e
        exact go_ret rfl rfl
    · rw [if_neg hx_1] at e
      cases e
      exact go_ret rfl rfl
def f_Vo_setTaken (F : Nat) (a0 : Nat) (v1 : Int32) (v2 : Int32) (v3 : Int32) (h : ck_H) : Option (Unit × ck_H) :=
  ck_bd (f_Ma_max F 0 v1 h) fun r1 h2 =>
  f_Vo_setTaken_L7 F F a0 v1 v2 v3 r1 h2
set_option maxRecDepth 100000 in
set_option maxHeartbeats 4000000 in
theorem s_Vo_setTaken {F : Nat} {a0 : Nat} {v1 : Int32} {v2 : Int32} {v3 : Int32} {h h' : ck_H} {r : Unit} (e : f_Vo_setTaken F a0 v1 v2 v3 h = some (r, h')) : Go k_Vo_setTaken 0 (ck_in [.ref a0, .int v1, .int v2, .int v3] 5) [] h (none, h') := by
  unfold f_Vo_setTaken at e
  show Go k_Vo_setTaken 0 [some (.ref a0), some (.int v1), some (.int v2), some (.int v3), none] [] h _
  refine go_iconst (v := 0) rfl (by decide) ?_
  refine go_iload_n rfl rfl ?_
  replace e := ck_bd_e e
  obtain ⟨r1, h2, e3, e⟩ := e
  refine go_callS (As := [.int 0, .int v1]) (rest := []) rfl rfl rfl ⟨Nat.le_of_ble_eq_true rfl, Nat.le_of_ble_eq_true rfl, Nat.le_of_ble_eq_true rfl, Nat.le_of_ble_eq_true rfl⟩ (s_Ma_max e3) ?_
  show Go k_Vo_setTaken 5 [some (.ref a0), some (.int v1), some (.int v2), some (.int v3), none] [.int r1] h2 _
  refine go_istore rfl rfl ?_
  show Go k_Vo_setTaken 7 [some (.ref a0), some (.int v1), some (.int v2), some (.int v3), some (.int r1)] [] h2 _
  refine go_forget (l := [some (.ref a0), some (.int v1), some (.int v2), some (.int v3), some (.int r1)]) ⟨Or.inl rfl, Or.inl rfl, Or.inl rfl, Or.inl rfl, Or.inl rfl, trivial⟩ ?_
  exact f_Vo_setTaken_L7_s F F _ _ _ _ _ _ _ _ e
def f_Vo_giveRuns_L2 (F : Nat)  : Nat → Nat → Nat → Int32 → ck_H → Option (Unit × ck_H)
  | 0, _, _, _, _ => none
  | n + 1, a0, a1, v2, h =>
    ck_as (gk h a0 = 10) <|
    if v2 < (gI h a0 7) then
      if v2 < (4 : Int32) then
        ck_some (gR h a0 3) fun b4 =>
        ck_as ((gk h b4 = 14 ∨ gk h b4 = 21) ∧ ¬ v2 < 0 ∧ (v2 : Int32).toNatClampNeg < gz h b4) <|
        ck_some (gR h a0 4) fun b7 =>
        ck_as ((gk h b7 = 14 ∨ gk h b7 = 21) ∧ ¬ v2 < 0 ∧ (v2 : Int32).toNatClampNeg < gz h b7) <|
        ck_as (gk h a1 = 2) <|
        ck_bd (f_DS_addRun F a1 (gI h b4 (v2 : Int32).toNatClampNeg) (gI h b7 (v2 : Int32).toNatClampNeg) h) fun _ h12 =>
        ck_as (gk h12 a0 = 10) <|
        ck_some (gR h12 a0 3) fun b15 =>
        ck_as ((gk h12 b15 = 14 ∨ gk h12 b15 = 21) ∧ ¬ v2 < 0 ∧ (v2 : Int32).toNatClampNeg < gz h12 b15) <|
        ck_some (gR h12 a0 4) fun b18 =>
        ck_as ((gk h12 b18 = 14 ∨ gk h12 b18 = 21) ∧ ¬ v2 < 0 ∧ (v2 : Int32).toNatClampNeg < gz h12 b18) <|
        ck_bd (f_Vo_setTaken F a0 (gI h12 b15 (v2 : Int32).toNatClampNeg) (gI h12 b18 (v2 : Int32).toNatClampNeg) 1 h12) fun _ h22 =>
        f_Vo_giveRuns_L2 F n a0 a1 (v2 + 1) h22
      else
        some ((), h)
    else
      some ((), h)
set_option maxRecDepth 100000 in
set_option maxHeartbeats 4000000 in
theorem f_Vo_giveRuns_L2_s (F : Nat)   : ∀ (n : Nat) (a0 : Nat) (a1 : Nat) (v2 : Int32) (h : ck_H) (r : Unit) (h' : ck_H), f_Vo_giveRuns_L2 F n a0 a1 v2 h = some (r, h') → Go k_Vo_giveRuns 2 [some (.ref a0), some (.ref a1), some (.int v2)] [] h (none, h') := by
  intro n
  induction n with
  | zero => intro a0 a1 v2 h r h' e; simp only [f_Vo_giveRuns_L2] at e; cases e
  | succ n ih =>
    intro a0 a1 v2 h r h' e
    rw [f_Vo_giveRuns_L2] at e
    refine go_iload_n rfl rfl ?_
    refine go_aload_n rfl rfl ?_
    replace e := ck_as_e e
    obtain ⟨hk_1, e⟩ := e
    refine go_get (v := .int (gI h a0 7)) rfl rfl hk_1 (by decide) rfl ?_
    refine go_icmp_ge (t := 54) rfl rfl (fun hx_2 => ?_) (fun hx_2 => ?_)
    · rw [if_pos hx_2] at e
      refine go_iload_n rfl rfl ?_
      refine go_iconst (v := 4) rfl (by decide) ?_
      refine go_icmp_ge (t := 54) rfl rfl (fun hx_3 => ?_) (fun hx_3 => ?_)
      · rw [if_pos hx_3] at e
        refine go_aload_n rfl rfl ?_
        refine go_aload_n rfl rfl ?_
        replace e := ck_some_e e
        obtain ⟨b4, hq_5, e⟩ := e
        refine go_get (v := .ref b4) rfl rfl hk_1 (by decide) (by show va_rf (gR h a0 3) = _; rw [hq_5]; rfl) ?_
        refine go_iload_n rfl rfl ?_
        replace e := ck_as_e e
        obtain ⟨hc_6, e⟩ := e
        refine go_iald rfl hc_6 ?_
        refine go_aload_n rfl rfl ?_
        replace e := ck_some_e e
        obtain ⟨b7, hq_8, e⟩ := e
        refine go_get (v := .ref b7) rfl rfl hk_1 (by decide) (by show va_rf (gR h a0 4) = _; rw [hq_8]; rfl) ?_
        refine go_iload_n rfl rfl ?_
        replace e := ck_as_e e
        obtain ⟨hc_9, e⟩ := e
        refine go_iald rfl hc_9 ?_
        replace e := ck_as_e e
        obtain ⟨hk_10, e⟩ := e
        replace e := ck_bd_e e
        obtain ⟨r11, h12, e13, e⟩ := e
        refine go_callV (As := [.int (gI h b4 (v2 : Int32).toNatClampNeg), .int (gI h b7 (v2 : Int32).toNatClampNeg)]) (b0 := a1) (rest := []) rfl rfl ⟨hk_10, by decide⟩ rfl ⟨Nat.le_of_ble_eq_true rfl, Nat.le_of_ble_eq_true rfl, Nat.le_of_ble_eq_true rfl, Nat.le_of_ble_eq_true rfl⟩ (s_DS_addRun e13) ?_
        show Go k_Vo_giveRuns 31 [some (.ref a0), some (.ref a1), some (.int v2)] [] h12 _
        refine go_aload_n rfl rfl ?_
        refine go_aload_n rfl rfl ?_
        replace e := ck_as_e e
        obtain ⟨hk_14, e⟩ := e
        replace e := ck_some_e e
        obtain ⟨b15, hq_16, e⟩ := e
        refine go_get (v := .ref b15) rfl rfl hk_14 (by decide) (by show va_rf (gR h12 a0 3) = _; rw [hq_16]; rfl) ?_
        refine go_iload_n rfl rfl ?_
        replace e := ck_as_e e
        obtain ⟨hc_17, e⟩ := e
        refine go_iald rfl hc_17 ?_
        refine go_aload_n rfl rfl ?_
        replace e := ck_some_e e
        obtain ⟨b18, hq_19, e⟩ := e
        refine go_get (v := .ref b18) rfl rfl hk_14 (by decide) (by show va_rf (gR h12 a0 4) = _; rw [hq_19]; rfl) ?_
        refine go_iload_n rfl rfl ?_
        replace e := ck_as_e e
        obtain ⟨hc_20, e⟩ := e
        refine go_iald rfl hc_20 ?_
        refine go_iconst (v := 1) rfl (by decide) ?_
        replace e := ck_bd_e e
        obtain ⟨r21, h22, e23, e⟩ := e
        refine go_callV (As := [.int (gI h12 b15 (v2 : Int32).toNatClampNeg), .int (gI h12 b18 (v2 : Int32).toNatClampNeg), .int 1]) (b0 := a0) (rest := []) rfl rfl ⟨hk_14, by decide⟩ rfl ⟨Nat.le_of_ble_eq_true rfl, Nat.le_of_ble_eq_true rfl, Nat.le_of_ble_eq_true rfl, Nat.le_of_ble_eq_true rfl⟩ (s_Vo_setTaken e23) ?_
        show Go k_Vo_giveRuns 48 [some (.ref a0), some (.ref a1), some (.int v2)] [] h22 _
        refine go_iinc (v := 1) rfl rfl (by decide) rfl ?_
        show Go k_Vo_giveRuns 51 [some (.ref a0), some (.ref a1), some (.int (v2 + 1))] [] h22 _
        refine go_goto (t := 2) rfl rfl ?_
        refine go_forget (l := [some (.ref a0), some (.ref a1), some (.int (v2 + 1))]) ⟨Or.inl rfl, Or.inl rfl, Or.inl rfl, trivial⟩ ?_
        exact ih _ _ _ _ _ _ e
      · rw [if_neg hx_3] at e
        cases e
        exact go_ret rfl rfl
    · rw [if_neg hx_2] at e
      cases e
      exact go_ret rfl rfl
def f_Vo_giveRuns (F : Nat) (a0 : Nat) (a1 : Nat) (h : ck_H) : Option (Unit × ck_H) :=
  f_Vo_giveRuns_L2 F F a0 a1 0 h
set_option maxRecDepth 100000 in
set_option maxHeartbeats 4000000 in
theorem s_Vo_giveRuns {F : Nat} {a0 : Nat} {a1 : Nat} {h h' : ck_H} {r : Unit} (e : f_Vo_giveRuns F a0 a1 h = some (r, h')) : Go k_Vo_giveRuns 0 (ck_in [.ref a0, .ref a1] 3) [] h (none, h') := by
  unfold f_Vo_giveRuns at e
  show Go k_Vo_giveRuns 0 [some (.ref a0), some (.ref a1), none] [] h _
  refine go_iconst (v := 0) rfl (by decide) ?_
  refine go_istore_n rfl rfl ?_
  show Go k_Vo_giveRuns 2 [some (.ref a0), some (.ref a1), some (.int 0)] [] h _
  refine go_forget (l := [some (.ref a0), some (.ref a1), some (.int 0)]) ⟨Or.inl rfl, Or.inl rfl, Or.inl rfl, trivial⟩ ?_
  exact f_Vo_giveRuns_L2_s F F _ _ _ _ _ _ e
