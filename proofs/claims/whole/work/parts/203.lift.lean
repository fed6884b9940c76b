def f_Tr_clear (F : Nat) (a0 : Nat) (v1 : Int32) (v2 : Int32) (v3 : Int32) (h : ck_H) : Option (Unit × ck_H) :=
  ck_as (gk h a0 = 8) <|
  ck_opt (gR h a0 0) (
    some ((), h)
  ) fun b3 =>
  ck_bd (f_Tr_hasBytes F a0 v1 v2 v3 h) fun r4 h5 =>
  if r4 = (0 : Int32) then
    some ((), h5)
  else
    ck_as (gk h5 a0 = 8) <|
    ck_some (gR h5 a0 1) fun b9 =>
    ck_as ((gk h5 b9 = 14 ∨ gk h5 b9 = 21) ∧ ¬ v1 < 0 ∧ (v1 : Int32).toNatClampNeg < gz h5 b9) <|
    ck_then (((gI h5 b9 (v1 : Int32).toNatClampNeg) + 30) + v2) fun x12 =>
    ck_some (gR h5 a0 0) fun b13 =>
    ck_bd (f_Ar_fill F b13 x12 (x12 + v3) 0 h5) fun _ h16 =>
    some ((), h16)
set_option maxRecDepth 100000 in
set_option maxHeartbeats 4000000 in
theorem s_Tr_clear {F : Nat} {a0 : Nat} {v1 : Int32} {v2 : Int32} {v3 : Int32} {h h' : ck_H} {r : Unit} (e : f_Tr_clear F a0 v1 v2 v3 h = some (r, h')) : Go k_Tr_clear 0 (ck_in [.ref a0, .int v1, .int v2, .int v3] 5) [] h (none, h') := by
  unfold f_Tr_clear at e
  show Go k_Tr_clear 0 [some (.ref a0), some (.int v1), some (.int v2), some (.int v3), none] [] h _
  refine go_aload_n rfl rfl ?_
  replace e := ck_as_e e
  obtain ⟨hk_1, e⟩ := e
  replace e := ck_opt_e e
  rcases e with ⟨hq_2, e⟩ | ⟨b3, hq_2, e⟩
  · refine go_get (v := .null) rfl rfl hk_1 (by decide) (by show va_rf (gR h a0 0) = _; rw [hq_2]; rfl) ?_
    refine go_ifnullN (t := 17) rfl rfl ?_
    cases e
    exact go_ret rfl rfl
  refine go_get (v := .ref b3) rfl rfl hk_1 (by decide) (by show va_rf (gR h a0 0) = _; rw [hq_2]; rfl) ?_
  refine go_ifnull rfl ?_
  refine go_aload_n rfl rfl ?_
  refine go_iload_n rfl rfl ?_
  refine go_iload_n rfl rfl ?_
  refine go_iload_n rfl rfl ?_
  replace e := ck_bd_e e
  obtain ⟨r4, h5, e6, e⟩ := e
  refine go_callV (As := [.int v1, .int v2, .int v3]) (b0 := a0) (rest := []) rfl rfl ⟨hk_1, by decide⟩ rfl ⟨Nat.le_of_ble_eq_true rfl, Nat.le_of_ble_eq_true rfl, Nat.le_of_ble_eq_true rfl, Nat.le_of_ble_eq_true rfl⟩ (s_Tr_hasBytes e6) ?_
  show Go k_Tr_clear 14 [some (.ref a0), some (.int v1), some (.int v2), some (.int v3), none] [.int r4] h5 _
  refine go_if_ne (t := 18) rfl rfl (fun hx_7 => ?_) (fun hx_7 => ?_)
  · rw [if_pos hx_7] at e
    cases e
    exact go_ret rfl rfl
  · rw [if_neg hx_7] at e
    refine go_aload_n rfl rfl ?_
    replace e := ck_as_e e
    obtain ⟨hk_8, e⟩ := e
    replace e := ck_some_e e
    obtain ⟨b9, hq_10, e⟩ := e
    refine go_get (v := .ref b9) rfl rfl hk_8 (by decide) (by show va_rf (gR h5 a0 1) = _; rw [hq_10]; rfl) ?_
    refine go_iload_n rfl rfl ?_
    replace e := ck_as_e e
    obtain ⟨hc_11, e⟩ := e
    refine go_iald rfl hc_11 ?_
    refine go_bipush (v := 30) rfl (by decide) ?_
    refine go_iadd rfl ?_
    refine go_iload_n rfl rfl ?_
    refine go_iadd rfl ?_
    generalize ((gI h5 b9 (v1 : Int32).toNatClampNeg) + 30) + v2 = x12 at e ⊢
    replace e := ck_then_e e
    refine go_istore rfl rfl ?_
    show Go k_Tr_clear 31 [some (.ref a0), some (.int v1), some (.int v2), some (.int v3), some (.int x12)] [] h5 _
    refine go_aload_n rfl rfl ?_
    replace e := ck_some_e e
    obtain ⟨b13, hq_14, e⟩ := e
    refine go_get (v := .ref b13) rfl rfl hk_8 (by decide) (by show va_rf (gR h5 a0 0) = _; rw [hq_14]; rfl) ?_
    refine go_iload rfl rfl ?_
    refine go_iload rfl rfl ?_
    refine go_iload_n rfl rfl ?_
    refine go_iadd rfl ?_
    refine go_iconst (v := 0) rfl (by decide) ?_
    replace e := ck_bd_e e
    obtain ⟨r15, h16, e17, e⟩ := e
    refine go_callS (As := [.ref b13, .int x12, .int (x12 + v3), .int 0]) (rest := []) rfl rfl rfl ⟨Nat.le_of_ble_eq_true rfl, Nat.le_of_ble_eq_true rfl, Nat.le_of_ble_eq_true rfl, Nat.le_of_ble_eq_true rfl⟩ (s_Ar_fill e17) ?_
    show Go k_Tr_clear 45 [some (.ref a0), some (.int v1), some (.int v2), some (.int v3), some (.int x12)] [] h16 _
    cases e
    exact go_ret rfl rfl
def f_Tr_store (F : Nat) (a0 : Nat) (v1 : Int32) (v2 : Int32) (a3 : Nat) (v4 : Int32) (v5 : Int32) (h : ck_H) : Option (Unit × ck_H) :=
  ck_as (gk h a0 = 8) <|
  ck_opt (gR h a0 0) (
    some ((), h)
  ) fun b3 =>
  ck_bd (f_Tr_hasBytes F a0 v1 v2 v5 h) fun r4 h5 =>
  if r4 = (0 : Int32) then
    some ((), h5)
  else
    if v4 < (0 : Int32) then
      some ((), h5)
    else
      ck_as (13 ≤ gk h5 a3 ∧ gk h5 a3 ≤ 21) <|
      if ((Int32.ofNat (gz h5 a3)) - v5) < v4 then
        some ((), h5)
      else
        ck_as (gk h5 a0 = 8) <|
        ck_some (gR h5 a0 0) fun b12 =>
        ck_some (gR h5 a0 1) fun b14 =>
        ck_as ((gk h5 b14 = 14 ∨ gk h5 b14 = 21) ∧ ¬ v1 < 0 ∧ (v1 : Int32).toNatClampNeg < gz h5 b14) <|
        ck_as (gk h5 a3 = gk h5 b12 ∧ (gk h5 b12 = 13 ∨ gk h5 b12 = 14) ∧ ¬ v4 < 0 ∧ ¬ (((gI h5 b14 (v1 : Int32).toNatClampNeg) + 30) + v2) < 0 ∧ ¬ v5 < 0 ∧ (v4 : Int32).toNatClampNeg + (v5 : Int32).toNatClampNeg ≤ gz h5 a3 ∧ (((gI h5 b14 (v1 : Int32).toNatClampNeg) + 30) + v2 : Int32).toNatClampNeg + (v5 : Int32).toNatClampNeg ≤ gz h5 b12) <|
        ck_then (wC h5 a3 (v4 : Int32).toNatClampNeg b12 (((gI h5 b14 (v1 : Int32).toNatClampNeg) + 30) + v2 : Int32).toNatClampNeg (v5 : Int32).toNatClampNeg) fun h18 =>
        some ((), h18)
set_option maxRecDepth 100000 in
set_option maxHeartbeats 4000000 in
theorem s_Tr_store {F : Nat} {a0 : Nat} {v1 : Int32} {v2 : Int32} {a3 : Nat} {v4 : Int32} {v5 : Int32} {h h' : ck_H} {r : Unit} (e : f_Tr_store F a0 v1 v2 a3 v4 v5 h = some (r, h')) : Go k_Tr_store 0 (ck_in [.ref a0, .int v1, .int v2, .ref a3, .int v4, .int v5] 6) [] h (none, h') := by
  unfold f_Tr_store at e
  show Go k_Tr_store 0 [some (.ref a0), some (.int v1), some (.int v2), some (.ref a3), some (.int v4), some (.int v5)] [] h _
  refine go_aload_n rfl rfl ?_
  replace e := ck_as_e e
  obtain ⟨hk_1, e⟩ := e
  replace e := ck_opt_e e
  rcases e with ⟨hq_2, e⟩ | ⟨b3, hq_2, e⟩
  · refine go_get (v := .null) rfl rfl hk_1 (by decide) (by show va_rf (gR h a0 0) = _; rw [hq_2]; rfl) ?_
    refine go_ifnullN (t := 33) rfl rfl ?_
    cases e
    exact go_ret rfl rfl
  refine go_get (v := .ref b3) rfl rfl hk_1 (by decide) (by show va_rf (gR h a0 0) = _; rw [hq_2]; rfl) ?_
  refine go_ifnull rfl ?_
  refine go_aload_n rfl rfl ?_
  refine go_iload_n rfl rfl ?_
  refine go_iload_n rfl rfl ?_
  refine go_iload rfl rfl ?_
  replace e := ck_bd_e e
  obtain ⟨r4, h5, e6, e⟩ := e
  refine go_callV (As := [.int v1, .int v2, .int v5]) (b0 := a0) (rest := []) rfl rfl ⟨hk_1, by decide⟩ rfl ⟨Nat.le_of_ble_eq_true rfl, Nat.le_of_ble_eq_true rfl, Nat.le_of_ble_eq_true rfl, Nat.le_of_ble_eq_true rfl⟩ (s_Tr_hasBytes e6) ?_
  show Go k_Tr_store 15 [some (.ref a0), some (.int v1), some (.int v2), some (.ref a3), some (.int v4), some (.int v5)] [.int r4] h5 _
  refine go_if_eq (t := 33) rfl rfl (fun hx_7 => ?_) (fun hx_7 => ?_)
  · rw [if_pos hx_7] at e
    cases e
    exact go_ret rfl rfl
  · rw [if_neg hx_7] at e
    refine go_iload rfl rfl ?_
    refine go_if_lt (t := 33) rfl rfl (fun hx_8 => ?_) (fun hx_8 => ?_)
    · rw [if_pos hx_8] at e
      cases e
      exact go_ret rfl rfl
    · rw [if_neg hx_8] at e
      refine go_iload rfl rfl ?_
      refine go_aload_n rfl rfl ?_
      replace e := ck_as_e e
      obtain ⟨hc_9, e⟩ := e
      refine go_alen rfl hc_9 ?_
      refine go_iload rfl rfl ?_
      refine go_isub rfl ?_
      refine go_icmp_le (t := 34) rfl rfl (fun hx_10 => ?_) (fun hx_10 => ?_)
      · rw [if_pos hx_10] at e
        cases e
        exact go_ret rfl rfl
      · rw [if_neg hx_10] at e
        refine go_aload_n rfl rfl ?_
        refine go_iload rfl rfl ?_
        refine go_aload_n rfl rfl ?_
        replace e := ck_as_e e
        obtain ⟨hk_11, e⟩ := e
        replace e := ck_some_e e
        obtain ⟨b12, hq_13, e⟩ := e
        refine go_get (v := .ref b12) rfl rfl hk_11 (by decide) (by show va_rf (gR h5 a0 0) = _; rw [hq_13]; rfl) ?_
        refine go_aload_n rfl rfl ?_
        replace e := ck_some_e e
        obtain ⟨b14, hq_15, e⟩ := e
        refine go_get (v := .ref b14) rfl rfl hk_11 (by decide) (by show va_rf (gR h5 a0 1) = _; rw [hq_15]; rfl) ?_
        refine go_iload_n rfl rfl ?_
        replace e := ck_as_e e
        obtain ⟨hc_16, e⟩ := e
        refine go_iald rfl hc_16 ?_
        refine go_bipush (v := 30) rfl (by decide) ?_
        refine go_iadd rfl ?_
        refine go_iload_n rfl rfl ?_
        refine go_iadd rfl ?_
        refine go_iload rfl rfl ?_
        replace e := ck_as_e e
        obtain ⟨hc_17, e⟩ := e
        refine go_copy rfl rfl ⟨Nat.le_of_ble_eq_true rfl, Nat.le_of_ble_eq_true rfl⟩ hc_17 ?_
        have hk_19 : gk (wC h5 a3 (v4 : Int32).toNatClampNeg b12 (((gI h5 b14 (v1 : Int32).toNatClampNeg) + 30) + v2 : Int32).toNatClampNeg (v5 : Int32).toNatClampNeg) a0 = 8 := ck_kC.trans hk_11
        generalize wC h5 a3 (v4 : Int32).toNatClampNeg b12 (((gI h5 b14 (v1 : Int32).toNatClampNeg) + 30) + v2 : Int32).toNatClampNeg (v5 : Int32).toNatClampNeg = h18 at e hk_19 ⊢
        replace e := ck_then_e e
        cases e
        exact go_ret rfl rfl
def f_Tr_mark (F : Nat) (a0 : Nat) (v1 : Int32) (v2 : Int32) (h : ck_H) : Option (Unit × ck_H) :=
  ck_as (gk h a0 = 8) <|
  ck_opt (gR h a0 0) (
    some ((), h)
  ) fun b3 =>
  ck_bd (f_Tr_has F a0 v1 h) fun r4 h5 =>
  if r4 = (0 : Int32) then
    some ((), h5)
  else
    ck_as (gk h5 a0 = 8) <|
    ck_some (gR h5 a0 0) fun b9 =>
    ck_some (gR h5 a0 1) fun b11 =>
    ck_as ((gk h5 b11 = 14 ∨ gk h5 b11 = 21) ∧ ¬ v1 < 0 ∧ (v1 : Int32).toNatClampNeg < gz h5 b11) <|
    if v2 = (0 : Int32) then
      ck_as (gk h5 b9 = 13 ∧ ¬ ((gI h5 b11 (v1 : Int32).toNatClampNeg) + 6) < 0 ∧ ((gI h5 b11 (v1 : Int32).toNatClampNeg) + 6 : Int32).toNatClampNeg < gz h5 b9) <|
      ck_then (wI h5 b9 ((gI h5 b11 (v1 : Int32).toNatClampNeg) + 6 : Int32).toNatClampNeg ((0 : Int32).toInt8.toInt32 : Int32).toInt8.toInt32) fun h16 =>
      some ((), h16)
    else
      ck_as (gk h5 b9 = 13 ∧ ¬ ((gI h5 b11 (v1 : Int32).toNatClampNeg) + 6) < 0 ∧ ((gI h5 b11 (v1 : Int32).toNatClampNeg) + 6 : Int32).toNatClampNeg < gz h5 b9) <|
      ck_then (wI h5 b9 ((gI h5 b11 (v1 : Int32).toNatClampNeg) + 6 : Int32).toNatClampNeg ((1 : Int32).toInt8.toInt32 : Int32).toInt8.toInt32) fun h19 =>
      some ((), h19)
set_option maxRecDepth 100000 in
set_option maxHeartbeats 4000000 in
theorem s_Tr_mark {F : Nat} {a0 : Nat} {v1 : Int32} {v2 : Int32} {h h' : ck_H} {r : Unit} (e : f_Tr_mark F a0 v1 v2 h = some (r, h')) : Go k_Tr_mark 0 (ck_in [.ref a0, .int v1, .int v2] 3) [] h (none, h') := by
  unfold f_Tr_mark at e
  show Go k_Tr_mark 0 [some (.ref a0), some (.int v1), some (.int v2)] [] h _
  refine go_aload_n rfl rfl ?_
  replace e := ck_as_e e
  obtain ⟨hk_1, e⟩ := e
  replace e := ck_opt_e e
  rcases e with ⟨hq_2, e⟩ | ⟨b3, hq_2, e⟩
  · refine go_get (v := .null) rfl rfl hk_1 (by decide) (by show va_rf (gR h a0 0) = _; rw [hq_2]; rfl) ?_
    refine go_ifnullN (t := 39) rfl rfl ?_
    cases e
    exact go_ret rfl rfl
  refine go_get (v := .ref b3) rfl rfl hk_1 (by decide) (by show va_rf (gR h a0 0) = _; rw [hq_2]; rfl) ?_
  refine go_ifnull rfl ?_
  refine go_aload_n rfl rfl ?_
  refine go_iload_n rfl rfl ?_
  replace e := ck_bd_e e
  obtain ⟨r4, h5, e6, e⟩ := e
  refine go_callV (As := [.int v1]) (b0 := a0) (rest := []) rfl rfl ⟨hk_1, by decide⟩ rfl ⟨Nat.le_of_ble_eq_true rfl, Nat.le_of_ble_eq_true rfl, Nat.le_of_ble_eq_true rfl, Nat.le_of_ble_eq_true rfl⟩ (s_Tr_has e6) ?_
  show Go k_Tr_mark 12 [some (.ref a0), some (.int v1), some (.int v2)] [.int r4] h5 _
  refine go_if_eq (t := 39) rfl rfl (fun hx_7 => ?_) (fun hx_7 => ?_)
  · rw [if_pos hx_7] at e
    cases e
    exact go_ret rfl rfl
  · rw [if_neg hx_7] at e
    refine go_aload_n rfl rfl ?_
    replace e := ck_as_e e
    obtain ⟨hk_8, e⟩ := e
    replace e := ck_some_e e
    obtain ⟨b9, hq_10, e⟩ := e
    refine go_get (v := .ref b9) rfl rfl hk_8 (by decide) (by show va_rf (gR h5 a0 0) = _; rw [hq_10]; rfl) ?_
    refine go_aload_n rfl rfl ?_
    replace e := ck_some_e e
    obtain ⟨b11, hq_12, e⟩ := e
    refine go_get (v := .ref b11) rfl rfl hk_8 (by decide) (by show va_rf (gR h5 a0 1) = _; rw [hq_12]; rfl) ?_
    refine go_iload_n rfl rfl ?_
    replace e := ck_as_e e
    obtain ⟨hc_13, e⟩ := e
    refine go_iald rfl hc_13 ?_
    refine go_bipush (v := 6) rfl (by decide) ?_
    refine go_iadd rfl ?_
    refine go_iload_n rfl rfl ?_
    refine go_if_eq (t := 36) rfl rfl (fun hx_14 => ?_) (fun hx_14 => ?_)
    · rw [if_pos hx_14] at e
      refine go_iconst (v := 0) rfl (by decide) ?_
      refine go_i2b rfl ?_
      replace e := ck_as_e e
      obtain ⟨hc_15, e⟩ := e
      refine go_bast rfl hc_15 ?_
      have hk_17 : gk (wI h5 b9 ((gI h5 b11 (v1 : Int32).toNatClampNeg) + 6 : Int32).toNatClampNeg ((0 : Int32).toInt8.toInt32 : Int32).toInt8.toInt32) a0 = 8 := ck_kI.trans hk_8
      generalize wI h5 b9 ((gI h5 b11 (v1 : Int32).toNatClampNeg) + 6 : Int32).toNatClampNeg ((0 : Int32).toInt8.toInt32 : Int32).toInt8.toInt32 = h16 at e hk_17 ⊢
      replace e := ck_then_e e
      cases e
      exact go_ret rfl rfl
    · rw [if_neg hx_14] at e
      refine go_iconst (v := 1) rfl (by decide) ?_
      refine go_goto (t := 37) rfl rfl ?_
      refine go_i2b rfl ?_
      replace e := ck_as_e e
      obtain ⟨hc_18, e⟩ := e
      refine go_bast rfl hc_18 ?_
      have hk_20 : gk (wI h5 b9 ((gI h5 b11 (v1 : Int32).toNatClampNeg) + 6 : Int32).toNatClampNeg ((1 : Int32).toInt8.toInt32 : Int32).toInt8.toInt32) a0 = 8 := ck_kI.trans hk_8
      generalize wI h5 b9 ((gI h5 b11 (v1 : Int32).toNatClampNeg) + 6 : Int32).toNatClampNeg ((1 : Int32).toInt8.toInt32 : Int32).toInt8.toInt32 = h19 at e hk_20 ⊢
      replace e := ck_then_e e
      cases e
      exact go_ret rfl rfl
def f_Ch_replace (F : Nat) (a0 : Nat) (a1 : Nat) (v2 : Int32) (v3 : Int32) (v4 : Int32) (h : ck_H) : Option (Unit × ck_H) :=
  ck_as (gk h a0 = 0) <|
  ck_bd (f_Ch_track F a0 h) fun r2 h3 =>
  ck_opt r2 (
    none
  ) fun b6 =>
  ck_as (gk h3 b6 = 8) <|
  ck_bd (f_Tr_clear F b6 v2 v3 v4 h3) fun _ h9 =>
  ck_as (gk h9 a0 = 0) <|
  ck_some (gR h9 a0 0) fun b12 =>
  ck_as (gk h9 a1 = 1) <|
  ck_bd (f_Ma_min F (gI h9 a1 2) v4 h9) fun r15 h16 =>
  ck_as (gk h16 b6 = 8) <|
  ck_bd (f_Tr_store F b6 v2 v3 b12 (gI h9 a1 1) r15 h16) fun _ h20 =>
  ck_as (gk h20 b6 = 8) <|
  ck_bd (f_Tr_mark F b6 v2 0 h20) fun _ h24 =>
  ck_as (gk h24 a0 = 0) <|
  ck_bd (f_Ch_setPoint F a0 0 (-1) h24) fun _ h28 =>
  ck_as (gk h28 a0 = 0) <|
  ck_bd (f_Ch_settleLength F a0 a1 v4 h28) fun _ h32 =>
  some ((), h32)
set_option maxRecDepth 100000 in
set_option maxHeartbeats 4000000 in
theorem s_Ch_replace {F : Nat} {a0 : Nat} {a1 : Nat} {v2 : Int32} {v3 : Int32} {v4 : Int32} {h h' : ck_H} {r : Unit} (e : f_Ch_replace F a0 a1 v2 v3 v4 h = some (r, h')) : Go k_Ch_replace 0 (ck_in [.ref a0, .ref a1, .int v2, .int v3, .int v4] 6) [] h (none, h') := by
  unfold f_Ch_replace at e
  show Go k_Ch_replace 0 [some (.ref a0), some (.ref a1), some (.int v2), some (.int v3), some (.int v4), none] [] h _
  refine go_aload_n rfl rfl ?_
  replace e := ck_as_e e
  obtain ⟨hk_1, e⟩ := e
  replace e := ck_bd_e e
  obtain ⟨r2, h3, e4, e⟩ := e
  refine go_callV (As := []) (b0 := a0) (rest := []) rfl rfl ⟨hk_1, by decide⟩ rfl ⟨Nat.le_of_ble_eq_true rfl, Nat.le_of_ble_eq_true rfl, Nat.le_of_ble_eq_true rfl, Nat.le_of_ble_eq_true rfl⟩ (s_Ch_track e4) ?_
  replace e := ck_opt_e e
  rcases e with ⟨hq_5, e⟩ | ⟨b6, hq_5, e⟩
  · subst hq_5
    show Go k_Ch_replace 4 [some (.ref a0), some (.ref a1), some (.int v2), some (.int v3), some (.int v4), none] [.null] h3 _
    refine go_astoreN rfl rfl ?_
    show Go k_Ch_replace 6 [some (.ref a0), some (.ref a1), some (.int v2), some (.int v3), some (.int v4), some .null] [] h3 _
    refine go_aloadN rfl rfl ?_
    refine go_iload_n rfl rfl ?_
    refine go_iload_n rfl rfl ?_
    refine go_iload rfl rfl ?_
    cases e
  subst hq_5
  show Go k_Ch_replace 4 [some (.ref a0), some (.ref a1), some (.int v2), some (.int v3), some (.int v4), none] [.ref b6] h3 _
  refine go_astore rfl rfl ?_
  show Go k_Ch_replace 6 [some (.ref a0), some (.ref a1), some (.int v2), some (.int v3), some (.int v4), some (.ref b6)] [] h3 _
  refine go_aload rfl rfl ?_
  refine go_iload_n rfl rfl ?_
  refine go_iload_n rfl rfl ?_
  refine go_iload rfl rfl ?_
  replace e := ck_as_e e
  obtain ⟨hk_7, e⟩ := e
  replace e := ck_bd_e e
  obtain ⟨r8, h9, e10, e⟩ := e
  refine go_callV (As := [.int v2, .int v3, .int v4]) (b0 := b6) (rest := []) rfl rfl ⟨hk_7, by decide⟩ rfl ⟨Nat.le_of_ble_eq_true rfl, Nat.le_of_ble_eq_true rfl, Nat.le_of_ble_eq_true rfl, Nat.le_of_ble_eq_true rfl⟩ (s_Tr_clear e10) ?_
  show Go k_Ch_replace 15 [some (.ref a0), some (.ref a1), some (.int v2), some (.int v3), some (.int v4), some (.ref b6)] [] h9 _
  refine go_aload rfl rfl ?_
  refine go_iload_n rfl rfl ?_
  refine go_iload_n rfl rfl ?_
  refine go_aload_n rfl rfl ?_
  replace e := ck_as_e e
  obtain ⟨hk_11, e⟩ := e
  replace e := ck_some_e e
  obtain ⟨b12, hq_13, e⟩ := e
  refine go_get (v := .ref b12) rfl rfl hk_11 (by decide) (by show va_rf (gR h9 a0 0) = _; rw [hq_13]; rfl) ?_
  refine go_aload_n rfl rfl ?_
  replace e := ck_as_e e
  obtain ⟨hk_14, e⟩ := e
  refine go_get (v := .int (gI h9 a1 1)) rfl rfl hk_14 (by decide) rfl ?_
  refine go_aload_n rfl rfl ?_
  refine go_get (v := .int (gI h9 a1 2)) rfl rfl hk_14 (by decide) rfl ?_
  refine go_iload rfl rfl ?_
  replace e := ck_bd_e e
  obtain ⟨r15, h16, e17, e⟩ := e
  refine go_callS (As := [.int (gI h9 a1 2), .int v4]) (rest := [.int (gI h9 a1 1), .ref b12, .int v3, .int v2, .ref b6]) rfl rfl rfl ⟨Nat.le_of_ble_eq_true rfl, Nat.le_of_ble_eq_true rfl, Nat.le_of_ble_eq_true rfl, Nat.le_of_ble_eq_true rfl⟩ (s_Ma_min e17) ?_
  show Go k_Ch_replace 36 [some (.ref a0), some (.ref a1), some (.int v2), some (.int v3), some (.int v4), some (.ref b6)] [.int r15, .int (gI h9 a1 1), .ref b12, .int v3, .int v2, .ref b6] h16 _
  replace e := ck_as_e e
  obtain ⟨hk_18, e⟩ := e
  replace e := ck_bd_e e
  obtain ⟨r19, h20, e21, e⟩ := e
  refine go_callV (As := [.int v2, .int v3, .ref b12, .int (gI h9 a1 1), .int r15]) (b0 := b6) (rest := []) rfl rfl ⟨hk_18, by decide⟩ rfl ⟨Nat.le_of_ble_eq_true rfl, Nat.le_of_ble_eq_true rfl, Nat.le_of_ble_eq_true rfl, Nat.le_of_ble_eq_true rfl⟩ (s_Tr_store e21) ?_
  show Go k_Ch_replace 39 [some (.ref a0), some (.ref a1), some (.int v2), some (.int v3), some (.int v4), some (.ref b6)] [] h20 _
  refine go_aload rfl rfl ?_
  refine go_iload_n rfl rfl ?_
  refine go_iconst (v := 0) rfl (by decide) ?_
  replace e := ck_as_e e
  obtain ⟨hk_22, e⟩ := e
  replace e := ck_bd_e e
  obtain ⟨r23, h24, e25, e⟩ := e
  refine go_callV (As := [.int v2, .int 0]) (b0 := b6) (rest := []) rfl rfl ⟨hk_22, by decide⟩ rfl ⟨Nat.le_of_ble_eq_true rfl, Nat.le_of_ble_eq_true rfl, Nat.le_of_ble_eq_true rfl, Nat.le_of_ble_eq_true rfl⟩ (s_Tr_mark e25) ?_
  show Go k_Ch_replace 46 [some (.ref a0), some (.ref a1), some (.int v2), some (.int v3), some (.int v4), some (.ref b6)] [] h24 _
  refine go_aload_n rfl rfl ?_
  refine go_iconst (v := 0) rfl (by decide) ?_
  refine go_iconst (v := (-1)) rfl (by decide) ?_
  replace e := ck_as_e e
  obtain ⟨hk_26, e⟩ := e
  replace e := ck_bd_e e
  obtain ⟨r27, h28, e29, e⟩ := e
  refine go_callV (As := [.int 0, .int (-1)]) (b0 := a0) (rest := []) rfl rfl ⟨hk_26, by decide⟩ rfl ⟨Nat.le_of_ble_eq_true rfl, Nat.le_of_ble_eq_true rfl, Nat.le_of_ble_eq_true rfl, Nat.le_of_ble_eq_true rfl⟩ (s_Ch_setPoint e29) ?_
  show Go k_Ch_replace 52 [some (.ref a0), some (.ref a1), some (.int v2), some (.int v3), some (.int v4), some (.ref b6)] [] h28 _
  refine go_aload_n rfl rfl ?_
  refine go_aload_n rfl rfl ?_
  refine go_iload rfl rfl ?_
  replace e := ck_as_e e
  obtain ⟨hk_30, e⟩ := e
  replace e := ck_bd_e e
  obtain ⟨r31, h32, e33, e⟩ := e
  refine go_callV (As := [.ref a1, .int v4]) (b0 := a0) (rest := []) rfl rfl ⟨hk_30, by decide⟩ rfl ⟨Nat.le_of_ble_eq_true rfl, Nat.le_of_ble_eq_true rfl, Nat.le_of_ble_eq_true rfl, Nat.le_of_ble_eq_true rfl⟩ (s_Ch_settleLength e33) ?_
  show Go k_Ch_replace 59 [some (.ref a0), some (.ref a1), some (.int v2), some (.int v3), some (.int v4), some (.ref b6)] [] h32 _
  cases e
  exact go_ret rfl rfl
def f_Ch_writeData (F : Nat) (a0 : Nat) (a1 : Nat) (h : ck_H) : Option (Unit × ck_H) :=
  ck_as (gk h a0 = 0) <|
  ck_bd (f_Ch_keyPassed F a0 h) fun r2 h3 =>
  if r2 < (0 : Int32) then
    some ((), h3)
  else
    ck_as (gk h3 a0 = 0) <|
    ck_bd (f_Ch_track F a0 h3) fun r7 h8 =>
    ck_some r7 fun b10 =>
    ck_as (gk h8 b10 = 8) <|
    ck_bd (f_Tr_dataLength F b10 r2 h8) fun r13 h14 =>
    ck_as (gk h14 a0 = 0) <|
    ck_then (wJ h14 a0 7 ((gJ h14 a0 7) + ((r13 + 10 : Int32).toInt64))) fun h17 =>
    ck_bd (f_Ch_track F a0 h17) fun r19 h20 =>
    ck_some r19 fun b22 =>
    ck_as (gk h20 b22 = 8) <|
    ck_bd (f_Tr_keyLength F b22 r2 h20) fun r25 h26 =>
    ck_as (gk h26 a0 = 0) <|
    ck_bd (f_Ch_replace F a0 a1 r2 r25 r13 h26) fun _ h30 =>
    some ((), h30)
set_option maxRecDepth 100000 in
set_option maxHeartbeats 4000000 in
theorem s_Ch_writeData {F : Nat} {a0 : Nat} {a1 : Nat} {h h' : ck_H} {r : Unit} (e : f_Ch_writeData F a0 a1 h = some (r, h')) : Go k_Ch_writeData 0 (ck_in [.ref a0, .ref a1] 4) [] h (none, h') := by
  unfold f_Ch_writeData at e
  show Go k_Ch_writeData 0 [some (.ref a0), some (.ref a1), none, none] [] h _
  refine go_aload_n rfl rfl ?_
  replace e := ck_as_e e
  obtain ⟨hk_1, e⟩ := e
  replace e := ck_bd_e e
  obtain ⟨r2, h3, e4, e⟩ := e
  refine go_callV (As := []) (b0 := a0) (rest := []) rfl rfl ⟨hk_1, by decide⟩ rfl ⟨Nat.le_of_ble_eq_true rfl, Nat.le_of_ble_eq_true rfl, Nat.le_of_ble_eq_true rfl, Nat.le_of_ble_eq_true rfl⟩ (s_Ch_keyPassed e4) ?_
  show Go k_Ch_writeData 4 [some (.ref a0), some (.ref a1), none, none] [.int r2] h3 _
  refine go_istore_n rfl rfl ?_
  show Go k_Ch_writeData 5 [some (.ref a0), some (.ref a1), some (.int r2), none] [] h3 _
  refine go_iload_n rfl rfl ?_
  refine go_if_ge (t := 10) rfl rfl (fun hx_5 => ?_) (fun hx_5 => ?_)
  · rw [if_pos hx_5] at e
    cases e
    exact go_ret rfl rfl
  · rw [if_neg hx_5] at e
    refine go_aload_n rfl rfl ?_
    replace e := ck_as_e e
    obtain ⟨hk_6, e⟩ := e
    replace e := ck_bd_e e
    obtain ⟨r7, h8, e9, e⟩ := e
    refine go_callV (As := []) (b0 := a0) (rest := []) rfl rfl ⟨hk_6, by decide⟩ rfl ⟨Nat.le_of_ble_eq_true rfl, Nat.le_of_ble_eq_true rfl, Nat.le_of_ble_eq_true rfl, Nat.le_of_ble_eq_true rfl⟩ (s_Ch_track e9) ?_
    replace e := ck_some_e e
    obtain ⟨b10, hq_11, e⟩ := e
    subst hq_11
    show Go k_Ch_writeData 14 [some (.ref a0), some (.ref a1), some (.int r2), none] [.ref b10] h8 _
    refine go_iload_n rfl rfl ?_
    replace e := ck_as_e e
    obtain ⟨hk_12, e⟩ := e
    replace e := ck_bd_e e
    obtain ⟨r13, h14, e15, e⟩ := e
    refine go_callV (As := [.int r2]) (b0 := b10) (rest := []) rfl rfl ⟨hk_12, by decide⟩ rfl ⟨Nat.le_of_ble_eq_true rfl, Nat.le_of_ble_eq_true rfl, Nat.le_of_ble_eq_true rfl, Nat.le_of_ble_eq_true rfl⟩ (s_Tr_dataLength e15) ?_
    show Go k_Ch_writeData 18 [some (.ref a0), some (.ref a1), some (.int r2), none] [.int r13] h14 _
    refine go_istore_n rfl rfl ?_
    show Go k_Ch_writeData 19 [some (.ref a0), some (.ref a1), some (.int r2), some (.int r13)] [] h14 _
    refine go_aload_n rfl rfl ?_
    refine go_dup rfl rfl ?_
    replace e := ck_as_e e
    obtain ⟨hk_16, e⟩ := e
    refine go_get (v := .long (gJ h14 a0 7)) rfl rfl hk_16 (by decide) rfl ?_
    refine go_iload_n rfl rfl ?_
    refine go_bipush (v := 10) rfl (by decide) ?_
    refine go_iadd rfl ?_
    refine go_i2l rfl ?_
    refine go_ladd rfl ?_
    refine go_put (h1 := wJ h14 a0 7 ((gJ h14 a0 7) + ((r13 + 10 : Int32).toInt64))) rfl rfl hk_16 ⟨by decide, by decide, Or.inl rfl⟩ rfl ?_
    have hk_18 : gk (wJ h14 a0 7 ((gJ h14 a0 7) + ((r13 + 10 : Int32).toInt64))) a0 = 0 := ck_kJ.trans hk_16
    generalize wJ h14 a0 7 ((gJ h14 a0 7) + ((r13 + 10 : Int32).toInt64)) = h17 at e hk_18 ⊢
    replace e := ck_then_e e
    refine go_aload_n rfl rfl ?_
    refine go_aload_n rfl rfl ?_
    refine go_iload_n rfl rfl ?_
    refine go_aload_n rfl rfl ?_
    replace e := ck_bd_e e
    obtain ⟨r19, h20, e21, e⟩ := e
    refine go_callV (As := []) (b0 := a0) (rest := [.int r2, .ref a1, .ref a0]) rfl rfl ⟨hk_18, by decide⟩ rfl ⟨Nat.le_of_ble_eq_true rfl, Nat.le_of_ble_eq_true rfl, Nat.le_of_ble_eq_true rfl, Nat.le_of_ble_eq_true rfl⟩ (s_Ch_track e21) ?_
    replace e := ck_some_e e
    obtain ⟨b22, hq_23, e⟩ := e
    subst hq_23
    show Go k_Ch_writeData 40 [some (.ref a0), some (.ref a1), some (.int r2), some (.int r13)] [.ref b22, .int r2, .ref a1, .ref a0] h20 _
    refine go_iload_n rfl rfl ?_
    replace e := ck_as_e e
    obtain ⟨hk_24, e⟩ := e
    replace e := ck_bd_e e
    obtain ⟨r25, h26, e27, e⟩ := e
    refine go_callV (As := [.int r2]) (b0 := b22) (rest := [.int r2, .ref a1, .ref a0]) rfl rfl ⟨hk_24, by decide⟩ rfl ⟨Nat.le_of_ble_eq_true rfl, Nat.le_of_ble_eq_true rfl, Nat.le_of_ble_eq_true rfl, Nat.le_of_ble_eq_true rfl⟩ (s_Tr_keyLength e27) ?_
    show Go k_Ch_writeData 44 [some (.ref a0), some (.ref a1), some (.int r2), some (.int r13)] [.int r25, .int r2, .ref a1, .ref a0] h26 _
    refine go_iload_n rfl rfl ?_
    replace e := ck_as_e e
    obtain ⟨hk_28, e⟩ := e
    replace e := ck_bd_e e
    obtain ⟨r29, h30, e31, e⟩ := e
    refine go_callV (As := [.ref a1, .int r2, .int r25, .int r13]) (b0 := a0) (rest := []) rfl rfl ⟨hk_28, by decide⟩ rfl ⟨Nat.le_of_ble_eq_true rfl, Nat.le_of_ble_eq_true rfl, Nat.le_of_ble_eq_true rfl, Nat.le_of_ble_eq_true rfl⟩ (s_Ch_replace e31) ?_
    show Go k_Ch_writeData 48 [some (.ref a0), some (.ref a1), some (.int r2), some (.int r13)] [] h30 _
    cases e
    exact go_ret rfl rfl
def f_Ch_writeKey (F : Nat) (a0 : Nat) (a1 : Nat) (h : ck_H) : Option (Unit × ck_H) :=
  ck_as (gk h a0 = 0) <|
  ck_bd (f_Ch_countPassed F a0 h) fun r2 h3 =>
  if r2 < (0 : Int32) then
    some ((), h3)
  else
    ck_as (gk h3 a0 = 0) <|
    ck_bd (f_Ch_track F a0 h3) fun r7 h8 =>
    ck_some r7 fun b10 =>
    ck_as (gk h8 b10 = 8) <|
    ck_bd (f_Tr_bytes F b10 r2 h8) fun r13 h14 =>
    ck_as (gk h14 a0 = 0) <|
    ck_then (wJ h14 a0 7 ((gJ h14 a0 7) + (((10 + r13) + 10 : Int32).toInt64))) fun h17 =>
    ck_bd (f_Ch_replace F a0 a1 r2 0 r13 h17) fun _ h20 =>
    some ((), h20)
set_option maxRecDepth 100000 in
set_option maxHeartbeats 4000000 in
theorem s_Ch_writeKey {F : Nat} {a0 : Nat} {a1 : Nat} {h h' : ck_H} {r : Unit} (e : f_Ch_writeKey F a0 a1 h = some (r, h')) : Go k_Ch_writeKey 0 (ck_in [.ref a0, .ref a1] 4) [] h (none, h') := by
  unfold f_Ch_writeKey at e
  show Go k_Ch_writeKey 0 [some (.ref a0), some (.ref a1), none, none] [] h _
  refine go_aload_n rfl rfl ?_
  replace e := ck_as_e e
  obtain ⟨hk_1, e⟩ := e
  replace e := ck_bd_e e
  obtain ⟨r2, h3, e4, e⟩ := e
  refine go_callV (As := []) (b0 := a0) (rest := []) rfl rfl ⟨hk_1, by decide⟩ rfl ⟨Nat.le_of_ble_eq_true rfl, Nat.le_of_ble_eq_true rfl, Nat.le_of_ble_eq_true rfl, Nat.le_of_ble_eq_true rfl⟩ (s_Ch_countPassed e4) ?_
  show Go k_Ch_writeKey 4 [some (.ref a0), some (.ref a1), none, none] [.int r2] h3 _
  refine go_istore_n rfl rfl ?_
  show Go k_Ch_writeKey 5 [some (.ref a0), some (.ref a1), some (.int r2), none] [] h3 _
  refine go_iload_n rfl rfl ?_
  refine go_if_ge (t := 10) rfl rfl (fun hx_5 => ?_) (fun hx_5 => ?_)
  · rw [if_pos hx_5] at e
    cases e
    exact go_ret rfl rfl
  · rw [if_neg hx_5] at e
    refine go_aload_n rfl rfl ?_
    replace e := ck_as_e e
    obtain ⟨hk_6, e⟩ := e
    replace e := ck_bd_e e
    obtain ⟨r7, h8, e9, e⟩ := e
    refine go_callV (As := []) (b0 := a0) (rest := []) rfl rfl ⟨hk_6, by decide⟩ rfl ⟨Nat.le_of_ble_eq_true rfl, Nat.le_of_ble_eq_true rfl, Nat.le_of_ble_eq_true rfl, Nat.le_of_ble_eq_true rfl⟩ (s_Ch_track e9) ?_
    replace e := ck_some_e e
    obtain ⟨b10, hq_11, e⟩ := e
    subst hq_11
    show Go k_Ch_writeKey 14 [some (.ref a0), some (.ref a1), some (.int r2), none] [.ref b10] h8 _
    refine go_iload_n rfl rfl ?_
    replace e := ck_as_e e
    obtain ⟨hk_12, e⟩ := e
    replace e := ck_bd_e e
    obtain ⟨r13, h14, e15, e⟩ := e
    refine go_callV (As := [.int r2]) (b0 := b10) (rest := []) rfl rfl ⟨hk_12, by decide⟩ rfl ⟨Nat.le_of_ble_eq_true rfl, Nat.le_of_ble_eq_true rfl, Nat.le_of_ble_eq_true rfl, Nat.le_of_ble_eq_true rfl⟩ (s_Tr_bytes e15) ?_
    show Go k_Ch_writeKey 18 [some (.ref a0), some (.ref a1), some (.int r2), none] [.int r13] h14 _
    refine go_istore_n rfl rfl ?_
    show Go k_Ch_writeKey 19 [some (.ref a0), some (.ref a1), some (.int r2), some (.int r13)] [] h14 _
    refine go_aload_n rfl rfl ?_
    refine go_dup rfl rfl ?_
    replace e := ck_as_e e
    obtain ⟨hk_16, e⟩ := e
    refine go_get (v := .long (gJ h14 a0 7)) rfl rfl hk_16 (by decide) rfl ?_
    refine go_bipush (v := 10) rfl (by decide) ?_
    refine go_iload_n rfl rfl ?_
    refine go_iadd rfl ?_
    refine go_bipush (v := 10) rfl (by decide) ?_
    refine go_iadd rfl ?_
    refine go_i2l rfl ?_
    refine go_ladd rfl ?_
    refine go_put (h1 := wJ h14 a0 7 ((gJ h14 a0 7) + (((10 + r13) + 10 : Int32).toInt64))) rfl rfl hk_16 ⟨by decide, by decide, Or.inl rfl⟩ rfl ?_
    have hk_18 : gk (wJ h14 a0 7 ((gJ h14 a0 7) + (((10 + r13) + 10 : Int32).toInt64))) a0 = 0 := ck_kJ.trans hk_16
    generalize wJ h14 a0 7 ((gJ h14 a0 7) + (((10 + r13) + 10 : Int32).toInt64)) = h17 at e hk_18 ⊢
    replace e := ck_then_e e
    refine go_aload_n rfl rfl ?_
    refine go_aload_n rfl rfl ?_
    refine go_iload_n rfl rfl ?_
    refine go_iconst (v := 0) rfl (by decide) ?_
    refine go_iload_n rfl rfl ?_
    replace e := ck_bd_e e
    obtain ⟨r19, h20, e21, e⟩ := e
    refine go_callV (As := [.ref a1, .int r2, .int 0, .int r13]) (b0 := a0) (rest := []) rfl rfl ⟨hk_18, by decide⟩ rfl ⟨Nat.le_of_ble_eq_true rfl, Nat.le_of_ble_eq_true rfl, Nat.le_of_ble_eq_true rfl, Nat.le_of_ble_eq_true rfl⟩ (s_Ch_replace e21) ?_
    show Go k_Ch_writeKey 44 [some (.ref a0), some (.ref a1), some (.int r2), some (.int r13)] [] h20 _
    cases e
    exact go_ret rfl rfl
def f_Ch_keptAtPoint (F : Nat) (a0 : Nat) (h : ck_H) : Option (Int32 × ck_H) :=
  ck_as (gk h a0 = 0) <|
  if (gI h a0 4) = (1 : Int32) then
    some (0, h)
  else
    some ((gI h a0 5) + 1, h)
set_option maxRecDepth 100000 in
set_option maxHeartbeats 4000000 in
theorem s_Ch_keptAtPoint {F : Nat} {a0 : Nat} {h h' : ck_H} {r : Int32} (e : f_Ch_keptAtPoint F a0 h = some (r, h')) : Go k_Ch_keptAtPoint 0 (ck_in [.ref a0] 1) [] h (some (.int r), h') := by
  unfold f_Ch_keptAtPoint at e
  show Go k_Ch_keptAtPoint 0 [some (.ref a0)] [] h _
  refine go_aload_n rfl rfl ?_
  replace e := ck_as_e e
  obtain ⟨hk_1, e⟩ := e
  refine go_get (v := .int (gI h a0 4)) rfl rfl hk_1 (by decide) rfl ?_
  refine go_iconst (v := 1) rfl (by decide) ?_
  refine go_icmp_ne (t := 12) rfl rfl (fun hx_2 => ?_) (fun hx_2 => ?_)
  · rw [if_pos hx_2] at e
    refine go_iconst (v := 0) rfl (by decide) ?_
    refine go_goto (t := 18) rfl rfl ?_
    cases e
    exact go_ret rfl rfl
  · rw [if_neg hx_2] at e
    refine go_aload_n rfl rfl ?_
    refine go_get (v := .int (gI h a0 5)) rfl rfl hk_1 (by decide) rfl ?_
    refine go_iconst (v := 1) rfl (by decide) ?_
    refine go_iadd rfl ?_
    cases e
    exact go_ret rfl rfl
def f_Tr_endOf (F : Nat) (a0 : Nat) (v1 : Int32) (h : ck_H) : Option (Int32 × ck_H) :=
  ck_as (gk h a0 = 8) <|
  ck_bd (f_Tr_has F a0 v1 h) fun r2 h3 =>
  if r2 = (0 : Int32) then
    some (30, h3)
  else
    ck_as (gk h3 a0 = 8) <|
    ck_some (gR h3 a0 1) fun b7 =>
    ck_as ((gk h3 b7 = 14 ∨ gk h3 b7 = 21) ∧ ¬ (v1 + 1) < 0 ∧ (v1 + 1 : Int32).toNatClampNeg < gz h3 b7) <|
    some (gI h3 b7 (v1 + 1 : Int32).toNatClampNeg, h3)
set_option maxRecDepth 100000 in
set_option maxHeartbeats 4000000 in
theorem s_Tr_endOf {F : Nat} {a0 : Nat} {v1 : Int32} {h h' : ck_H} {r : Int32} (e : f_Tr_endOf F a0 v1 h = some (r, h')) : Go k_Tr_endOf 0 (ck_in [.ref a0, .int v1] 2) [] h (some (.int r), h') := by
  unfold f_Tr_endOf at e
  show Go k_Tr_endOf 0 [some (.ref a0), some (.int v1)] [] h _
  refine go_aload_n rfl rfl ?_
  refine go_iload_n rfl rfl ?_
  replace e := ck_as_e e
  obtain ⟨hk_1, e⟩ := e
  replace e := ck_bd_e e
  obtain ⟨r2, h3, e4, e⟩ := e
  refine go_callV (As := [.int v1]) (b0 := a0) (rest := []) rfl rfl ⟨hk_1, by decide⟩ rfl ⟨Nat.le_of_ble_eq_true rfl, Nat.le_of_ble_eq_true rfl, Nat.le_of_ble_eq_true rfl, Nat.le_of_ble_eq_true rfl⟩ (s_Tr_has e4) ?_
  show Go k_Tr_endOf 5 [some (.ref a0), some (.int v1)] [.int r2] h3 _
  refine go_if_eq (t := 19) rfl rfl (fun hx_5 => ?_) (fun hx_5 => ?_)
  · rw [if_pos hx_5] at e
    refine go_bipush (v := 30) rfl (by decide) ?_
    cases e
    exact go_ret rfl rfl
  · rw [if_neg hx_5] at e
    refine go_aload_n rfl rfl ?_
    replace e := ck_as_e e
    obtain ⟨hk_6, e⟩ := e
    replace e := ck_some_e e
    obtain ⟨b7, hq_8, e⟩ := e
    refine go_get (v := .ref b7) rfl rfl hk_6 (by decide) (by show va_rf (gR h3 a0 1) = _; rw [hq_8]; rfl) ?_
    refine go_iload_n rfl rfl ?_
    refine go_iconst (v := 1) rfl (by decide) ?_
    refine go_iadd rfl ?_
    replace e := ck_as_e e
    obtain ⟨hc_9, e⟩ := e
    refine go_iald rfl hc_9 ?_
    refine go_goto (t := 21) rfl rfl ?_
    cases e
    exact go_ret rfl rfl
def f_Tr_keepFirst (F : Nat) (a0 : Nat) (v1 : Int32) (h : ck_H) : Option (Unit × ck_H) :=
  if v1 < (0 : Int32) then
    some ((), h)
  else
    ck_as (gk h a0 = 8) <|
    if v1 < (gI h a0 2) then
      ck_then (wI h a0 2 v1) fun h4 =>
      some ((), h4)
    else
      some ((), h)
set_option maxRecDepth 100000 in
set_option maxHeartbeats 4000000 in
theorem s_Tr_keepFirst {F : Nat} {a0 : Nat} {v1 : Int32} {h h' : ck_H} {r : Unit} (e : f_Tr_keepFirst F a0 v1 h = some (r, h')) : Go k_Tr_keepFirst 0 (ck_in [.ref a0, .int v1] 2) [] h (none, h') := by
  unfold f_Tr_keepFirst at e
  show Go k_Tr_keepFirst 0 [some (.ref a0), some (.int v1)] [] h _
  refine go_iload_n rfl rfl ?_
  refine go_if_lt (t := 17) rfl rfl (fun hx_1 => ?_) (fun hx_1 => ?_)
  · rw [if_pos hx_1] at e
    cases e
    exact go_ret rfl rfl
  · rw [if_neg hx_1] at e
    refine go_iload_n rfl rfl ?_
    refine go_aload_n rfl rfl ?_
    replace e := ck_as_e e
    obtain ⟨hk_2, e⟩ := e
    refine go_get (v := .int (gI h a0 2)) rfl rfl hk_2 (by decide) rfl ?_
    refine go_icmp_ge (t := 17) rfl rfl (fun hx_3 => ?_) (fun hx_3 => ?_)
    · rw [if_pos hx_3] at e
      refine go_aload_n rfl rfl ?_
      refine go_iload_n rfl rfl ?_
      refine go_put (h1 := wI h a0 2 v1) rfl rfl hk_2 ⟨by decide, by decide, Or.inl rfl⟩ rfl ?_
      have hk_5 : gk (wI h a0 2 v1) a0 = 8 := ck_kI.trans hk_2
      generalize wI h a0 2 v1 = h4 at e hk_5 ⊢
      replace e := ck_then_e e
      cases e
      exact go_ret rfl rfl
    · rw [if_neg hx_3] at e
      cases e
      exact go_ret rfl rfl
def f_Tr_hasRoom (F : Nat) (a0 : Nat) (v1 : Int32) (h : ck_H) : Option (Int32 × ck_H) :=
  ck_as (gk h a0 = 8) <|
  ck_some (gR h a0 1) fun b2 =>
  ck_as ((gk h b2 = 14 ∨ gk h b2 = 21) ∧ ¬ (gI h a0 2) < 0 ∧ (gI h a0 2 : Int32).toNatClampNeg < gz h b2) <|
  if (1500 : Int32) < (((gI h b2 (gI h a0 2 : Int32).toNatClampNeg) + 30) + v1) then
    some (0, h)
  else
    some (1, h)
set_option maxRecDepth 100000 in
set_option maxHeartbeats 4000000 in
theorem s_Tr_hasRoom {F : Nat} {a0 : Nat} {v1 : Int32} {h h' : ck_H} {r : Int32} (e : f_Tr_hasRoom F a0 v1 h = some (r, h')) : Go k_Tr_hasRoom 0 (ck_in [.ref a0, .int v1] 2) [] h (some (.int r), h') := by
  unfold f_Tr_hasRoom at e
  show Go k_Tr_hasRoom 0 [some (.ref a0), some (.int v1)] [] h _
  refine go_aload_n rfl rfl ?_
  replace e := ck_as_e e
  obtain ⟨hk_1, e⟩ := e
  replace e := ck_some_e e
  obtain ⟨b2, hq_3, e⟩ := e
  refine go_get (v := .ref b2) rfl rfl hk_1 (by decide) (by show va_rf (gR h a0 1) = _; rw [hq_3]; rfl) ?_
  refine go_aload_n rfl rfl ?_
  refine go_get (v := .int (gI h a0 2)) rfl rfl hk_1 (by decide) rfl ?_
  replace e := ck_as_e e
  obtain ⟨hc_4, e⟩ := e
  refine go_iald rfl hc_4 ?_
  refine go_bipush (v := 30) rfl (by decide) ?_
  refine go_iadd rfl ?_
  refine go_iload_n rfl rfl ?_
  refine go_iadd rfl ?_
  refine go_sipush (v := 1500) rfl (by decide) ?_
  refine go_icmp_gt (t := 24) rfl rfl (fun hx_5 => ?_) (fun hx_5 => ?_)
  · rw [if_pos hx_5] at e
    refine go_iconst (v := 0) rfl (by decide) ?_
    cases e
    exact go_ret rfl (ck_rvb rfl (Or.inl rfl))
  · rw [if_neg hx_5] at e
    refine go_iconst (v := 1) rfl (by decide) ?_
    refine go_goto (t := 25) rfl rfl ?_
    cases e
    exact go_ret rfl (ck_rvb rfl (Or.inr rfl))
def f_Tr_append_J144 (F : Nat)  (a0 : Nat) (v5 : Int32) (v7 : Int32) (v8 : Int32) (h : ck_H) : Option (Int32 × ck_H) :=
  ck_as (gk h a0 = 8) <|
  ck_some (gR h a0 0) fun b2 =>
  ck_as (gk h b2 = 13 ∧ ¬ (v7 + 5) < 0 ∧ (v7 + 5 : Int32).toNatClampNeg < gz h b2) <|
  ck_then (wI h b2 (v7 + 5 : Int32).toNatClampNeg ((v5 : Int32).toInt8.toInt32 : Int32).toInt8.toInt32) fun h5 =>
  ck_then (wI h5 a0 2 ((gI h5 a0 2) + 1)) fun h7 =>
  ck_some (gR h7 a0 1) fun b9 =>
  ck_as (gk h7 b9 = 14 ∧ ¬ (gI h7 a0 2) < 0 ∧ (gI h7 a0 2 : Int32).toNatClampNeg < gz h7 b9) <|
  ck_then (wI h7 b9 (gI h7 a0 2 : Int32).toNatClampNeg v8) fun h12 =>
  some ((gI h12 a0 2) - 1, h12)
set_option maxRecDepth 100000 in
set_option maxHeartbeats 4000000 in
theorem f_Tr_append_J144_s (F : Nat)   (a0 : Nat) (v5 : Int32) (v7 : Int32) (v8 : Int32) (h : ck_H) (r : Int32) (h' : ck_H) (e : f_Tr_append_J144 F  a0 v5 v7 v8 h = some (r, h')) : Go k_Tr_append 144 [some (.ref a0), none, none, none, none, some (.int v5), none, some (.int v7), some (.int v8)] [] h (some (.int r), h') := by
  unfold f_Tr_append_J144 at e
  refine go_aload_n rfl rfl ?_
  replace e := ck_as_e e
  obtain ⟨hk_1, e⟩ := e
  replace e := ck_some_e e
  obtain ⟨b2, hq_3, e⟩ := e
  refine go_get (v := .ref b2) rfl rfl hk_1 (by decide) (by show va_rf (gR h a0 0) = _; rw [hq_3]; rfl) ?_
  refine go_iload rfl rfl ?_
  refine go_iconst (v := 5) rfl (by decide) ?_
  refine go_iadd rfl ?_
  refine go_iload rfl rfl ?_
  refine go_i2b rfl ?_
  replace e := ck_as_e e
  obtain ⟨hc_4, e⟩ := e
  refine go_bast rfl hc_4 ?_
  have hk_6 : gk (wI h b2 (v7 + 5 : Int32).toNatClampNeg ((v5 : Int32).toInt8.toInt32 : Int32).toInt8.toInt32) a0 = 8 := ck_kI.trans hk_1
  generalize wI h b2 (v7 + 5 : Int32).toNatClampNeg ((v5 : Int32).toInt8.toInt32 : Int32).toInt8.toInt32 = h5 at e hk_6 ⊢
  replace e := ck_then_e e
  refine go_aload_n rfl rfl ?_
  refine go_dup rfl rfl ?_
  refine go_get (v := .int (gI h5 a0 2)) rfl rfl hk_6 (by decide) rfl ?_
  refine go_iconst (v := 1) rfl (by decide) ?_
  refine go_iadd rfl ?_
  refine go_put (h1 := wI h5 a0 2 ((gI h5 a0 2) + 1)) rfl rfl hk_6 ⟨by decide, by decide, Or.inl rfl⟩ rfl ?_
  have hk_8 : gk (wI h5 a0 2 ((gI h5 a0 2) + 1)) a0 = 8 := ck_kI.trans hk_6
  generalize wI h5 a0 2 ((gI h5 a0 2) + 1) = h7 at e hk_8 ⊢
  replace e := ck_then_e e
  refine go_aload_n rfl rfl ?_
  replace e := ck_some_e e
  obtain ⟨b9, hq_10, e⟩ := e
  refine go_get (v := .ref b9) rfl rfl hk_8 (by decide) (by show va_rf (gR h7 a0 1) = _; rw [hq_10]; rfl) ?_
  refine go_aload_n rfl rfl ?_
  refine go_get (v := .int (gI h7 a0 2)) rfl rfl hk_8 (by decide) rfl ?_
  refine go_iload rfl rfl ?_
  replace e := ck_as_e e
  obtain ⟨hc_11, e⟩ := e
  refine go_iast rfl hc_11 ?_
  have hk_13 : gk (wI h7 b9 (gI h7 a0 2 : Int32).toNatClampNeg v8) a0 = 8 := ck_kI.trans hk_8
  generalize wI h7 b9 (gI h7 a0 2 : Int32).toNatClampNeg v8 = h12 at e hk_13 ⊢
  replace e := ck_then_e e
  refine go_aload_n rfl rfl ?_
  refine go_get (v := .int (gI h12 a0 2)) rfl rfl hk_13 (by decide) rfl ?_
  refine go_iconst (v := 1) rfl (by decide) ?_
  refine go_isub rfl ?_
  cases e
  exact go_ret rfl rfl
def f_Tr_append_J53 (F : Nat)  (a0 : Nat) (v1 : Int32) (v2 : Int32) (v3 : Int32) (v4 : Int32) (v5 : Int32) (v6 : Int32) (h : ck_H) : Option (Int32 × ck_H) :=
  ck_as (gk h a0 = 8) <|
  ck_some (gR h a0 1) fun b2 =>
  ck_as ((gk h b2 = 14 ∨ gk h b2 = 21) ∧ ¬ (gI h a0 2) < 0 ∧ (gI h a0 2 : Int32).toNatClampNeg < gz h b2) <|
  ck_then (gI h b2 (gI h a0 2 : Int32).toNatClampNeg) fun x5 =>
  ck_then ((x5 + 30) + v6) fun x6 =>
  ck_some (gR h a0 0) fun b7 =>
  ck_bd (f_Ar_fill F b7 x5 x6 0 h) fun _ h10 =>
  ck_as (gk h10 a0 = 8) <|
  ck_some (gR h10 a0 0) fun b13 =>
  ck_as (gk h10 b13 = 13 ∧ ¬ x5 < 0 ∧ (x5 : Int32).toNatClampNeg < gz h10 b13) <|
  ck_then (wI h10 b13 (x5 : Int32).toNatClampNeg ((v1 : Int32).toInt8.toInt32 : Int32).toInt8.toInt32) fun h16 =>
  ck_some (gR h16 a0 0) fun b18 =>
  ck_as (gk h16 b18 = 13 ∧ ¬ (x5 + 1) < 0 ∧ (x5 + 1 : Int32).toNatClampNeg < gz h16 b18) <|
  ck_then (wI h16 b18 (x5 + 1 : Int32).toNatClampNeg ((v2 : Int32).toInt8.toInt32 : Int32).toInt8.toInt32) fun h21 =>
  ck_some (gR h21 a0 0) fun b23 =>
  ck_as (gk h21 b23 = 13 ∧ ¬ (x5 + 2) < 0 ∧ (x5 + 2 : Int32).toNatClampNeg < gz h21 b23) <|
  ck_then (wI h21 b23 (x5 + 2 : Int32).toNatClampNeg ((v3 : Int32).toInt8.toInt32 : Int32).toInt8.toInt32) fun h26 =>
  ck_some (gR h26 a0 0) fun b28 =>
  ck_as (gk h26 b28 = 13 ∧ ¬ (x5 + 3) < 0 ∧ (x5 + 3 : Int32).toNatClampNeg < gz h26 b28) <|
  ck_then (wI h26 b28 (x5 + 3 : Int32).toNatClampNeg ((v4 : Int32).toInt8.toInt32 : Int32).toInt8.toInt32) fun h31 =>
  ck_some (gR h31 a0 0) fun b33 =>
  ck_as (gk h31 b33 = 13 ∧ ¬ (x5 + 4) < 0 ∧ (x5 + 4 : Int32).toNatClampNeg < gz h31 b33) <|
  ck_then (wI h31 b33 (x5 + 4 : Int32).toNatClampNeg ((v5 >>> (8 &&& 31) : Int32).toInt8.toInt32 : Int32).toInt8.toInt32) fun h36 =>
  f_Tr_append_J144 F a0 v5 x5 x6 h36
set_option maxRecDepth 100000 in
set_option maxHeartbeats 4000000 in
theorem f_Tr_append_J53_s (F : Nat)   (a0 : Nat) (v1 : Int32) (v2 : Int32) (v3 : Int32) (v4 : Int32) (v5 : Int32) (v6 : Int32) (h : ck_H) (r : Int32) (h' : ck_H) (e : f_Tr_append_J53 F  a0 v1 v2 v3 v4 v5 v6 h = some (r, h')) : Go k_Tr_append 53 [some (.ref a0), some (.int v1), some (.int v2), some (.int v3), some (.int v4), some (.int v5), some (.int v6), none, none] [] h (some (.int r), h') := by
  unfold f_Tr_append_J53 at e
  refine go_aload_n rfl rfl ?_
  replace e := ck_as_e e
  obtain ⟨hk_1, e⟩ := e
  replace e := ck_some_e e
  obtain ⟨b2, hq_3, e⟩ := e
  refine go_get (v := .ref b2) rfl rfl hk_1 (by decide) (by show va_rf (gR h a0 1) = _; rw [hq_3]; rfl) ?_
  refine go_aload_n rfl rfl ?_
  refine go_get (v := .int (gI h a0 2)) rfl rfl hk_1 (by decide) rfl ?_
  replace e := ck_as_e e
  obtain ⟨hc_4, e⟩ := e
  refine go_iald rfl hc_4 ?_
  generalize gI h b2 (gI h a0 2 : Int32).toNatClampNeg = x5 at e ⊢
  replace e := ck_then_e e
  refine go_istore rfl rfl ?_
  show Go k_Tr_append 64 [some (.ref a0), some (.int v1), some (.int v2), some (.int v3), some (.int v4), some (.int v5), some (.int v6), some (.int x5), none] [] h _
  refine go_iload rfl rfl ?_
  refine go_bipush (v := 30) rfl (by decide) ?_
  refine go_iadd rfl ?_
  refine go_iload rfl rfl ?_
  refine go_iadd rfl ?_
  generalize (x5 + 30) + v6 = x6 at e ⊢
  replace e := ck_then_e e
  refine go_istore rfl rfl ?_
  show Go k_Tr_append 74 [some (.ref a0), some (.int v1), some (.int v2), some (.int v3), some (.int v4), some (.int v5), some (.int v6), some (.int x5), some (.int x6)] [] h _
  refine go_aload_n rfl rfl ?_
  replace e := ck_some_e e
  obtain ⟨b7, hq_8, e⟩ := e
  refine go_get (v := .ref b7) rfl rfl hk_1 (by decide) (by show va_rf (gR h a0 0) = _; rw [hq_8]; rfl) ?_
  refine go_iload rfl rfl ?_
  refine go_iload rfl rfl ?_
  refine go_iconst (v := 0) rfl (by decide) ?_
  replace e := ck_bd_e e
  obtain ⟨r9, h10, e11, e⟩ := e
  refine go_callS (As := [.ref b7, .int x5, .int x6, .int 0]) (rest := []) rfl rfl rfl ⟨Nat.le_of_ble_eq_true rfl, Nat.le_of_ble_eq_true rfl, Nat.le_of_ble_eq_true rfl, Nat.le_of_ble_eq_true rfl⟩ (s_Ar_fill e11) ?_
  show Go k_Tr_append 86 [some (.ref a0), some (.int v1), some (.int v2), some (.int v3), some (.int v4), some (.int v5), some (.int v6), some (.int x5), some (.int x6)] [] h10 _
  refine go_aload_n rfl rfl ?_
  replace e := ck_as_e e
  obtain ⟨hk_12, e⟩ := e
  replace e := ck_some_e e
  obtain ⟨b13, hq_14, e⟩ := e
  refine go_get (v := .ref b13) rfl rfl hk_12 (by decide) (by show va_rf (gR h10 a0 0) = _; rw [hq_14]; rfl) ?_
  refine go_iload rfl rfl ?_
  refine go_iload_n rfl rfl ?_
  refine go_i2b rfl ?_
  replace e := ck_as_e e
  obtain ⟨hc_15, e⟩ := e
  refine go_bast rfl hc_15 ?_
  have hk_17 : gk (wI h10 b13 (x5 : Int32).toNatClampNeg ((v1 : Int32).toInt8.toInt32 : Int32).toInt8.toInt32) a0 = 8 := ck_kI.trans hk_12
  generalize wI h10 b13 (x5 : Int32).toNatClampNeg ((v1 : Int32).toInt8.toInt32 : Int32).toInt8.toInt32 = h16 at e hk_17 ⊢
  replace e := ck_then_e e
  refine go_aload_n rfl rfl ?_
  replace e := ck_some_e e
  obtain ⟨b18, hq_19, e⟩ := e
  refine go_get (v := .ref b18) rfl rfl hk_17 (by decide) (by show va_rf (gR h16 a0 0) = _; rw [hq_19]; rfl) ?_
  refine go_iload rfl rfl ?_
  refine go_iconst (v := 1) rfl (by decide) ?_
  refine go_iadd rfl ?_
  refine go_iload_n rfl rfl ?_
  refine go_i2b rfl ?_
  replace e := ck_as_e e
  obtain ⟨hc_20, e⟩ := e
  refine go_bast rfl hc_20 ?_
  have hk_22 : gk (wI h16 b18 (x5 + 1 : Int32).toNatClampNeg ((v2 : Int32).toInt8.toInt32 : Int32).toInt8.toInt32) a0 = 8 := ck_kI.trans hk_17
  generalize wI h16 b18 (x5 + 1 : Int32).toNatClampNeg ((v2 : Int32).toInt8.toInt32 : Int32).toInt8.toInt32 = h21 at e hk_22 ⊢
  replace e := ck_then_e e
  refine go_aload_n rfl rfl ?_
  replace e := ck_some_e e
  obtain ⟨b23, hq_24, e⟩ := e
  refine go_get (v := .ref b23) rfl rfl hk_22 (by decide) (by show va_rf (gR h21 a0 0) = _; rw [hq_24]; rfl) ?_
  refine go_iload rfl rfl ?_
  refine go_iconst (v := 2) rfl (by decide) ?_
  refine go_iadd rfl ?_
  refine go_iload_n rfl rfl ?_
  refine go_i2b rfl ?_
  replace e := ck_as_e e
  obtain ⟨hc_25, e⟩ := e
  refine go_bast rfl hc_25 ?_
  have hk_27 : gk (wI h21 b23 (x5 + 2 : Int32).toNatClampNeg ((v3 : Int32).toInt8.toInt32 : Int32).toInt8.toInt32) a0 = 8 := ck_kI.trans hk_22
  generalize wI h21 b23 (x5 + 2 : Int32).toNatClampNeg ((v3 : Int32).toInt8.toInt32 : Int32).toInt8.toInt32 = h26 at e hk_27 ⊢
  replace e := ck_then_e e
  refine go_aload_n rfl rfl ?_
  replace e := ck_some_e e
  obtain ⟨b28, hq_29, e⟩ := e
  refine go_get (v := .ref b28) rfl rfl hk_27 (by decide) (by show va_rf (gR h26 a0 0) = _; rw [hq_29]; rfl) ?_
  refine go_iload rfl rfl ?_
  refine go_iconst (v := 3) rfl (by decide) ?_
  refine go_iadd rfl ?_
  refine go_iload rfl rfl ?_
  refine go_i2b rfl ?_
  replace e := ck_as_e e
  obtain ⟨hc_30, e⟩ := e
  refine go_bast rfl hc_30 ?_
  have hk_32 : gk (wI h26 b28 (x5 + 3 : Int32).toNatClampNeg ((v4 : Int32).toInt8.toInt32 : Int32).toInt8.toInt32) a0 = 8 := ck_kI.trans hk_27
  generalize wI h26 b28 (x5 + 3 : Int32).toNatClampNeg ((v4 : Int32).toInt8.toInt32 : Int32).toInt8.toInt32 = h31 at e hk_32 ⊢
  replace e := ck_then_e e
  refine go_aload_n rfl rfl ?_
  replace e := ck_some_e e
  obtain ⟨b33, hq_34, e⟩ := e
  refine go_get (v := .ref b33) rfl rfl hk_32 (by decide) (by show va_rf (gR h31 a0 0) = _; rw [hq_34]; rfl) ?_
  refine go_iload rfl rfl ?_
  refine go_iconst (v := 4) rfl (by decide) ?_
  refine go_iadd rfl ?_
  refine go_iload rfl rfl ?_
  refine go_bipush (v := 8) rfl (by decide) ?_
  refine go_ishr rfl ?_
  refine go_i2b rfl ?_
  replace e := ck_as_e e
  obtain ⟨hc_35, e⟩ := e
  refine go_bast rfl hc_35 ?_
  have hk_37 : gk (wI h31 b33 (x5 + 4 : Int32).toNatClampNeg ((v5 >>> (8 &&& 31) : Int32).toInt8.toInt32 : Int32).toInt8.toInt32) a0 = 8 := ck_kI.trans hk_32
  generalize wI h31 b33 (x5 + 4 : Int32).toNatClampNeg ((v5 >>> (8 &&& 31) : Int32).toInt8.toInt32 : Int32).toInt8.toInt32 = h36 at e hk_37 ⊢
  replace e := ck_then_e e
  refine go_forget (l := [some (.ref a0), none, none, none, none, some (.int v5), none, some (.int x5), some (.int x6)]) ⟨Or.inl rfl, Or.inr ⟨rfl, fun _ q => by cases q; rfl⟩, Or.inr ⟨rfl, fun _ q => by cases q; rfl⟩, Or.inr ⟨rfl, fun _ q => by cases q; rfl⟩, Or.inr ⟨rfl, fun _ q => by cases q; rfl⟩, Or.inl rfl, Or.inr ⟨rfl, fun _ q => by cases q; rfl⟩, Or.inl rfl, Or.inl rfl, trivial⟩ ?_
  exact f_Tr_append_J144_s F a0 v5 x5 x6 _ _ _ e
def f_Tr_append (F : Nat) (a0 : Nat) (v1 : Int32) (v2 : Int32) (v3 : Int32) (v4 : Int32) (v5 : Int32) (h : ck_H) : Option (Int32 × ck_H) :=
  ck_then (v4 + v5) fun x1 =>
  if v4 < (0 : Int32) then
    some ((-1), h)
  else
    if v5 < (0 : Int32) then
      some ((-1), h)
    else
      ck_as (gk h a0 = 8) <|
      if (gI h a0 2) < (49 : Int32) then
        ck_bd (f_Tr_hasRoom F a0 x1 h) fun r6 h7 =>
        if r6 = (0 : Int32) then
          some ((-1), h7)
        else
          ck_as (gk h7 a0 = 8) <|
          ck_opt (gR h7 a0 0) (
            ck_then (gn h7) fun b13 =>
            ck_then (wN h7 13 1500) fun h14 =>
            ck_as (gk h14 a0 = 8) <|
            ck_then (wR h14 a0 0 (some b13)) fun h18 =>
            f_Tr_append_J53 F a0 v1 v2 v3 v4 v5 x1 h18
          ) fun b12 =>
          f_Tr_append_J53 F a0 v1 v2 v3 v4 v5 x1 h7
      else
        some ((-1), h)
set_option maxRecDepth 100000 in
set_option maxHeartbeats 4000000 in
theorem s_Tr_append {F : Nat} {a0 : Nat} {v1 : Int32} {v2 : Int32} {v3 : Int32} {v4 : Int32} {v5 : Int32} {h h' : ck_H} {r : Int32} (e : f_Tr_append F a0 v1 v2 v3 v4 v5 h = some (r, h')) : Go k_Tr_append 0 (ck_in [.ref a0, .int v1, .int v2, .int v3, .int v4, .int v5] 9) [] h (some (.int r), h') := by
  unfold f_Tr_append at e
  show Go k_Tr_append 0 [some (.ref a0), some (.int v1), some (.int v2), some (.int v3), some (.int v4), some (.int v5), none, none, none] [] h _
  refine go_iload rfl rfl ?_
  refine go_iload rfl rfl ?_
  refine go_iadd rfl ?_
  generalize v4 + v5 = x1 at e ⊢
  replace e := ck_then_e e
  refine go_istore rfl rfl ?_
  show Go k_Tr_append 7 [some (.ref a0), some (.int v1), some (.int v2), some (.int v3), some (.int v4), some (.int v5), some (.int x1), none, none] [] h _
  refine go_iload rfl rfl ?_
  refine go_if_lt (t := 35) rfl rfl (fun hx_2 => ?_) (fun hx_2 => ?_)
  · rw [if_pos hx_2] at e
    refine go_iconst (v := (-1)) rfl (by decide) ?_
    cases e
    exact go_ret rfl rfl
  · rw [if_neg hx_2] at e
    refine go_iload rfl rfl ?_
    refine go_if_lt (t := 35) rfl rfl (fun hx_3 => ?_) (fun hx_3 => ?_)
    · rw [if_pos hx_3] at e
      refine go_iconst (v := (-1)) rfl (by decide) ?_
      cases e
      exact go_ret rfl rfl
    · rw [if_neg hx_3] at e
      refine go_aload_n rfl rfl ?_
      replace e := ck_as_e e
      obtain ⟨hk_4, e⟩ := e
      refine go_get (v := .int (gI h a0 2)) rfl rfl hk_4 (by decide) rfl ?_
      refine go_bipush (v := 49) rfl (by decide) ?_
      refine go_icmp_ge (t := 35) rfl rfl (fun hx_5 => ?_) (fun hx_5 => ?_)
      · rw [if_pos hx_5] at e
        refine go_aload_n rfl rfl ?_
        refine go_iload rfl rfl ?_
        replace e := ck_bd_e e
        obtain ⟨r6, h7, e8, e⟩ := e
        refine go_callV (As := [.int x1]) (b0 := a0) (rest := []) rfl rfl ⟨hk_4, by decide⟩ rfl ⟨Nat.le_of_ble_eq_true rfl, Nat.le_of_ble_eq_true rfl, Nat.le_of_ble_eq_true rfl, Nat.le_of_ble_eq_true rfl⟩ (s_Tr_hasRoom e8) ?_
        show Go k_Tr_append 32 [some (.ref a0), some (.int v1), some (.int v2), some (.int v3), some (.int v4), some (.int v5), some (.int x1), none, none] [.int r6] h7 _
        refine go_if_ne (t := 37) rfl rfl (fun hx_9 => ?_) (fun hx_9 => ?_)
        · rw [if_pos hx_9] at e
          refine go_iconst (v := (-1)) rfl (by decide) ?_
          cases e
          exact go_ret rfl rfl
        · rw [if_neg hx_9] at e
          refine go_aload_n rfl rfl ?_
          replace e := ck_as_e e
          obtain ⟨hk_10, e⟩ := e
          replace e := ck_opt_e e
          rcases e with ⟨hq_11, e⟩ | ⟨b12, hq_11, e⟩
          · refine go_get (v := .null) rfl rfl hk_10 (by decide) (by show va_rf (gR h7 a0 0) = _; rw [hq_11]; rfl) ?_
            refine go_ifnonnullN rfl ?_
            refine go_aload_n rfl rfl ?_
            refine go_sipush (v := 1500) rfl (by decide) ?_
            refine go_newa (kc := 13) (N := 1500) rfl rfl (by decide) (by decide) ?_
            obtain ⟨b13, hg_15⟩ : ∃ z, z = gn h7 := ⟨_, rfl⟩
            rw [← hg_15] at e ⊢
            replace e := ck_then_e e
            have hk_16 : gk (wN h7 13 1500) b13 = 13 := by rw [hg_15, ck_gk_wN, if_pos rfl]
            generalize wN h7 13 1500 = h14 at e hk_16 ⊢
            replace e := ck_then_e e
            replace e := ck_as_e e
            obtain ⟨hk_17, e⟩ := e
            refine go_put (h1 := wR h14 a0 0 (some b13)) rfl rfl hk_17 ⟨by decide, by decide, Or.inl rfl⟩ rfl ?_
            have hk_19 : gk (wR h14 a0 0 (some b13)) b13 = 13 := ck_kR.trans hk_16
            have hk_20 : gk (wR h14 a0 0 (some b13)) a0 = 8 := ck_kR.trans hk_17
            generalize wR h14 a0 0 (some b13) = h18 at e hk_19 hk_20 ⊢
            replace e := ck_then_e e
            refine go_forget (l := [some (.ref a0), some (.int v1), some (.int v2), some (.int v3), some (.int v4), some (.int v5), some (.int x1), none, none]) ⟨Or.inl rfl, Or.inl rfl, Or.inl rfl, Or.inl rfl, Or.inl rfl, Or.inl rfl, Or.inl rfl, Or.inl rfl, Or.inl rfl, trivial⟩ ?_
            exact f_Tr_append_J53_s F a0 v1 v2 v3 v4 v5 x1 _ _ _ e
          refine go_get (v := .ref b12) rfl rfl hk_10 (by decide) (by show va_rf (gR h7 a0 0) = _; rw [hq_11]; rfl) ?_
          refine go_ifnonnull (t := 53) rfl rfl ?_
          refine go_forget (l := [some (.ref a0), some (.int v1), some (.int v2), some (.int v3), some (.int v4), some (.int v5), some (.int x1), none, none]) ⟨Or.inl rfl, Or.inl rfl, Or.inl rfl, Or.inl rfl, Or.inl rfl, Or.inl rfl, Or.inl rfl, Or.inl rfl, Or.inl rfl, trivial⟩ ?_
          exact f_Tr_append_J53_s F a0 v1 v2 v3 v4 v5 x1 _ _ _ e
      · rw [if_neg hx_5] at e
        refine go_iconst (v := (-1)) rfl (by decide) ?_
        cases e
        exact go_ret rfl rfl
def f_Ch_writeRecord (F : Nat) (a0 : Nat) (a1 : Nat) (h : ck_H) : Option (Unit × ck_H) :=
  ck_as (gk h a1 = 1) <|
  ck_as (gk h a0 = 0) <|
  ck_bd (f_Ch_byteAt F a0 ((gI h a1 1) + 3) h) fun r3 h4 =>
  ck_as (gk h4 a1 = 1) <|
  ck_as (gk h4 a0 = 0) <|
  ck_bd (f_Ch_byteAt F a0 ((gI h4 a1 1) + 4) h4) fun r8 h9 =>
  ck_as (gk h9 a1 = 1) <|
  ck_as (gk h9 a0 = 0) <|
  ck_bd (f_Ch_byteAt F a0 ((gI h9 a1 1) + 5) h9) fun r13 h14 =>
  ck_then ((r8 * 256) + r13) fun x16 =>
  if (60 : Int32) < r3 then
    ck_as (gk h14 a0 = 0) <|
    ck_bd (f_Ch_stop F a0 7 h14) fun _ h20 =>
    some ((), h20)
  else
    if (1200 : Int32) < x16 then
      ck_as (gk h14 a0 = 0) <|
      ck_bd (f_Ch_stop F a0 7 h14) fun _ h25 =>
      some ((), h25)
    else
      ck_as (gk h14 a0 = 0) <|
      ck_bd (f_Ch_track F a0 h14) fun r28 h29 =>
      ck_opt r28 (
        ck_as (gk h29 a0 = 0) <|
        ck_bd (f_Ch_keptAtPoint F a0 h29) fun r34 h35 =>
        ck_then (r3 + x16) fun x37 =>
        none
      ) fun b32 =>
      ck_as (gk h29 a0 = 0) <|
      ck_bd (f_Ch_keptAtPoint F a0 h29) fun r39 h40 =>
      ck_then (r3 + x16) fun x42 =>
      ck_as (gk h40 b32 = 8) <|
      ck_bd (f_Tr_endOf F b32 (r39 - 1) h40) fun r44 h45 =>
      if (1500 : Int32) < ((r44 + 30) + x42) then
        ck_as (gk h45 a0 = 0) <|
        ck_bd (f_Ch_stop F a0 2 h45) fun _ h50 =>
        some ((), h50)
      else
        ck_as (gk h45 b32 = 8) <|
        ck_bd (f_Tr_keepFirst F b32 r39 h45) fun _ h54 =>
        ck_as (gk h54 a1 = 1) <|
        ck_as (gk h54 a0 = 0) <|
        ck_bd (f_Ch_byteAt F a0 (gI h54 a1 1) h54) fun r58 h59 =>
        ck_as (gk h59 a1 = 1) <|
        ck_as (gk h59 a0 = 0) <|
        ck_bd (f_Ch_byteAt F a0 ((gI h59 a1 1) + 1) h59) fun r63 h64 =>
        ck_as (gk h64 a1 = 1) <|
        ck_as (gk h64 a0 = 0) <|
        ck_bd (f_Ch_byteAt F a0 ((gI h64 a1 1) + 2) h64) fun r68 h69 =>
        ck_as (gk h69 b32 = 8) <|
        ck_bd (f_Tr_append F b32 r58 r63 r68 r3 x16 h69) fun r72 h73 =>
        ck_as (gk h73 a1 = 1) <|
        ck_bd (f_Ma_min F ((gI h73 a1 2) - 6) x42 h73) fun r76 h77 =>
        ck_as (gk h77 a0 = 0) <|
        ck_some (gR h77 a0 0) fun b80 =>
        ck_as (gk h77 a1 = 1) <|
        ck_as (gk h77 b32 = 8) <|
        ck_bd (f_Tr_store F b32 r72 0 b80 ((gI h77 a1 1) + 6) r76 h77) fun _ h85 =>
        ck_as (gk h85 b32 = 8) <|
        ck_bd (f_Tr_endOf F b32 r72 h85) fun r88 h89 =>
        ck_as (gk h89 a0 = 0) <|
        ck_bd (f_Ch_goTo F a0 r88 h89) fun _ h93 =>
        ck_as (gk h93 a0 = 0) <|
        ck_bd (f_Ch_setPoint F a0 4 r72 h93) fun _ h97 =>
        ck_as (gk h97 a0 = 0) <|
        ck_bd (f_Ch_settleLength F a0 a1 (6 + x42) h97) fun _ h101 =>
        some ((), h101)
set_option maxRecDepth 100000 in
set_option maxHeartbeats 4000000 in
theorem s_Ch_writeRecord {F : Nat} {a0 : Nat} {a1 : Nat} {h h' : ck_H} {r : Unit} (e : f_Ch_writeRecord F a0 a1 h = some (r, h')) : Go k_Ch_writeRecord 0 (ck_in [.ref a0, .ref a1] 9) [] h (none, h') := by
  unfold f_Ch_writeRecord at e
  show Go k_Ch_writeRecord 0 [some (.ref a0), some (.ref a1), none, none, none, none, none, none, none] [] h _
  refine go_aload_n rfl rfl ?_
  refine go_aload_n rfl rfl ?_
  replace e := ck_as_e e
  obtain ⟨hk_1, e⟩ := e
  refine go_get (v := .int (gI h a1 1)) rfl rfl hk_1 (by decide) rfl ?_
  refine go_iconst (v := 3) rfl (by decide) ?_
  refine go_iadd rfl ?_
  replace e := ck_as_e e
  obtain ⟨hk_2, e⟩ := e
  replace e := ck_bd_e e
  obtain ⟨r3, h4, e5, e⟩ := e
  refine go_callV (As := [.int ((gI h a1 1) + 3)]) (b0 := a0) (rest := []) rfl rfl ⟨hk_2, by decide⟩ rfl ⟨Nat.le_of_ble_eq_true rfl, Nat.le_of_ble_eq_true rfl, Nat.le_of_ble_eq_true rfl, Nat.le_of_ble_eq_true rfl⟩ (s_Ch_byteAt e5) ?_
  show Go k_Ch_writeRecord 10 [some (.ref a0), some (.ref a1), none, none, none, none, none, none, none] [.int r3] h4 _
  refine go_istore_n rfl rfl ?_
  show Go k_Ch_writeRecord 11 [some (.ref a0), some (.ref a1), some (.int r3), none, none, none, none, none, none] [] h4 _
  refine go_aload_n rfl rfl ?_
  refine go_aload_n rfl rfl ?_
  replace e := ck_as_e e
  obtain ⟨hk_6, e⟩ := e
  refine go_get (v := .int (gI h4 a1 1)) rfl rfl hk_6 (by decide) rfl ?_
  refine go_iconst (v := 4) rfl (by decide) ?_
  refine go_iadd rfl ?_
  replace e := ck_as_e e
  obtain ⟨hk_7, e⟩ := e
  replace e := ck_bd_e e
  obtain ⟨r8, h9, e10, e⟩ := e
  refine go_callV (As := [.int ((gI h4 a1 1) + 4)]) (b0 := a0) (rest := []) rfl rfl ⟨hk_7, by decide⟩ rfl ⟨Nat.le_of_ble_eq_true rfl, Nat.le_of_ble_eq_true rfl, Nat.le_of_ble_eq_true rfl, Nat.le_of_ble_eq_true rfl⟩ (s_Ch_byteAt e10) ?_
  show Go k_Ch_writeRecord 21 [some (.ref a0), some (.ref a1), some (.int r3), none, none, none, none, none, none] [.int r8] h9 _
  refine go_sipush (v := 256) rfl (by decide) ?_
  refine go_imul rfl ?_
  refine go_aload_n rfl rfl ?_
  refine go_aload_n rfl rfl ?_
  replace e := ck_as_e e
  obtain ⟨hk_11, e⟩ := e
  refine go_get (v := .int (gI h9 a1 1)) rfl rfl hk_11 (by decide) rfl ?_
  refine go_iconst (v := 5) rfl (by decide) ?_
  refine go_iadd rfl ?_
  replace e := ck_as_e e
  obtain ⟨hk_12, e⟩ := e
  replace e := ck_bd_e e
  obtain ⟨r13, h14, e15, e⟩ := e
  refine go_callV (As := [.int ((gI h9 a1 1) + 5)]) (b0 := a0) (rest := [.int (r8 * 256)]) rfl rfl ⟨hk_12, by decide⟩ rfl ⟨Nat.le_of_ble_eq_true rfl, Nat.le_of_ble_eq_true rfl, Nat.le_of_ble_eq_true rfl, Nat.le_of_ble_eq_true rfl⟩ (s_Ch_byteAt e15) ?_
  show Go k_Ch_writeRecord 35 [some (.ref a0), some (.ref a1), some (.int r3), none, none, none, none, none, none] [.int r13, .int (r8 * 256)] h14 _
  refine go_iadd rfl ?_
  generalize (r8 * 256) + r13 = x16 at e ⊢
  replace e := ck_then_e e
  refine go_istore_n rfl rfl ?_
  show Go k_Ch_writeRecord 37 [some (.ref a0), some (.ref a1), some (.int r3), some (.int x16), none, none, none, none, none] [] h14 _
  refine go_iload_n rfl rfl ?_
  refine go_bipush (v := 60) rfl (by decide) ?_
  refine go_icmp_gt (t := 50) rfl rfl (fun hx_17 => ?_) (fun hx_17 => ?_)
  · rw [if_pos hx_17] at e
    refine go_aload_n rfl rfl ?_
    refine go_bipush (v := 7) rfl (by decide) ?_
    replace e := ck_as_e e
    obtain ⟨hk_18, e⟩ := e
    replace e := ck_bd_e e
    obtain ⟨r19, h20, e21, e⟩ := e
    refine go_callV (As := [.int 7]) (b0 := a0) (rest := []) rfl rfl ⟨hk_18, by decide⟩ rfl ⟨Nat.le_of_ble_eq_true rfl, Nat.le_of_ble_eq_true rfl, Nat.le_of_ble_eq_true rfl, Nat.le_of_ble_eq_true rfl⟩ (s_Ch_stop e21) ?_
    show Go k_Ch_writeRecord 56 [some (.ref a0), some (.ref a1), some (.int r3), some (.int x16), none, none, none, none, none] [] h20 _
    cases e
    exact go_ret rfl rfl
  · rw [if_neg hx_17] at e
    refine go_iload_n rfl rfl ?_
    refine go_sipush (v := 1200) rfl (by decide) ?_
    refine go_icmp_le (t := 57) rfl rfl (fun hx_22 => ?_) (fun hx_22 => ?_)
    · rw [if_pos hx_22] at e
      refine go_aload_n rfl rfl ?_
      refine go_bipush (v := 7) rfl (by decide) ?_
      replace e := ck_as_e e
      obtain ⟨hk_23, e⟩ := e
      replace e := ck_bd_e e
      obtain ⟨r24, h25, e26, e⟩ := e
      refine go_callV (As := [.int 7]) (b0 := a0) (rest := []) rfl rfl ⟨hk_23, by decide⟩ rfl ⟨Nat.le_of_ble_eq_true rfl, Nat.le_of_ble_eq_true rfl, Nat.le_of_ble_eq_true rfl, Nat.le_of_ble_eq_true rfl⟩ (s_Ch_stop e26) ?_
      show Go k_Ch_writeRecord 56 [some (.ref a0), some (.ref a1), some (.int r3), some (.int x16), none, none, none, none, none] [] h25 _
      cases e
      exact go_ret rfl rfl
    · rw [if_neg hx_22] at e
      refine go_aload_n rfl rfl ?_
      replace e := ck_as_e e
      obtain ⟨hk_27, e⟩ := e
      replace e := ck_bd_e e
      obtain ⟨r28, h29, e30, e⟩ := e
      refine go_callV (As := []) (b0 := a0) (rest := []) rfl rfl ⟨hk_27, by decide⟩ rfl ⟨Nat.le_of_ble_eq_true rfl, Nat.le_of_ble_eq_true rfl, Nat.le_of_ble_eq_true rfl, Nat.le_of_ble_eq_true rfl⟩ (s_Ch_track e30) ?_
      replace e := ck_opt_e e
      rcases e with ⟨hq_31, e⟩ | ⟨b32, hq_31, e⟩
      · subst hq_31
        show Go k_Ch_writeRecord 61 [some (.ref a0), some (.ref a1), some (.int r3), some (.int x16), none, none, none, none, none] [.null] h29 _
        refine go_astoreN rfl rfl ?_
        show Go k_Ch_writeRecord 63 [some (.ref a0), some (.ref a1), some (.int r3), some (.int x16), some .null, none, none, none, none] [] h29 _
        refine go_aload_n rfl rfl ?_
        replace e := ck_as_e e
        obtain ⟨hk_33, e⟩ := e
        replace e := ck_bd_e e
        obtain ⟨r34, h35, e36, e⟩ := e
        refine go_callV (As := []) (b0 := a0) (rest := []) rfl rfl ⟨hk_33, by decide⟩ rfl ⟨Nat.le_of_ble_eq_true rfl, Nat.le_of_ble_eq_true rfl, Nat.le_of_ble_eq_true rfl, Nat.le_of_ble_eq_true rfl⟩ (s_Ch_keptAtPoint e36) ?_
        show Go k_Ch_writeRecord 67 [some (.ref a0), some (.ref a1), some (.int r3), some (.int x16), some .null, none, none, none, none] [.int r34] h35 _
        refine go_istore rfl rfl ?_
        show Go k_Ch_writeRecord 69 [some (.ref a0), some (.ref a1), some (.int r3), some (.int x16), some .null, some (.int r34), none, none, none] [] h35 _
        refine go_iload_n rfl rfl ?_
        refine go_iload_n rfl rfl ?_
        refine go_iadd rfl ?_
        generalize r3 + x16 = x37 at e ⊢
        replace e := ck_then_e e
        refine go_istore rfl rfl ?_
        show Go k_Ch_writeRecord 74 [some (.ref a0), some (.ref a1), some (.int r3), some (.int x16), some .null, some (.int r34), some (.int x37), none, none] [] h35 _
        refine go_aloadN rfl rfl ?_
        refine go_iload rfl rfl ?_
        refine go_iconst (v := 1) rfl (by decide) ?_
        refine go_isub rfl ?_
        cases e
      subst hq_31
      show Go k_Ch_writeRecord 61 [some (.ref a0), some (.ref a1), some (.int r3), some (.int x16), none, none, none, none, none] [.ref b32] h29 _
      refine go_astore rfl rfl ?_
      show Go k_Ch_writeRecord 63 [some (.ref a0), some (.ref a1), some (.int r3), some (.int x16), some (.ref b32), none, none, none, none] [] h29 _
      refine go_aload_n rfl rfl ?_
      replace e := ck_as_e e
      obtain ⟨hk_38, e⟩ := e
      replace e := ck_bd_e e
      obtain ⟨r39, h40, e41, e⟩ := e
      refine go_callV (As := []) (b0 := a0) (rest := []) rfl rfl ⟨hk_38, by decide⟩ rfl ⟨Nat.le_of_ble_eq_true rfl, Nat.le_of_ble_eq_true rfl, Nat.le_of_ble_eq_true rfl, Nat.le_of_ble_eq_true rfl⟩ (s_Ch_keptAtPoint e41) ?_
      show Go k_Ch_writeRecord 67 [some (.ref a0), some (.ref a1), some (.int r3), some (.int x16), some (.ref b32), none, none, none, none] [.int r39] h40 _
      refine go_istore rfl rfl ?_
      show Go k_Ch_writeRecord 69 [some (.ref a0), some (.ref a1), some (.int r3), some (.int x16), some (.ref b32), some (.int r39), none, none, none] [] h40 _
      refine go_iload_n rfl rfl ?_
      refine go_iload_n rfl rfl ?_
      refine go_iadd rfl ?_
      generalize r3 + x16 = x42 at e ⊢
      replace e := ck_then_e e
      refine go_istore rfl rfl ?_
      show Go k_Ch_writeRecord 74 [some (.ref a0), some (.ref a1), some (.int r3), some (.int x16), some (.ref b32), some (.int r39), some (.int x42), none, none] [] h40 _
      refine go_aload rfl rfl ?_
      refine go_iload rfl rfl ?_
      refine go_iconst (v := 1) rfl (by decide) ?_
      refine go_isub rfl ?_
      replace e := ck_as_e e
      obtain ⟨hk_43, e⟩ := e
      replace e := ck_bd_e e
      obtain ⟨r44, h45, e46, e⟩ := e
      refine go_callV (As := [.int (r39 - 1)]) (b0 := b32) (rest := []) rfl rfl ⟨hk_43, by decide⟩ rfl ⟨Nat.le_of_ble_eq_true rfl, Nat.le_of_ble_eq_true rfl, Nat.le_of_ble_eq_true rfl, Nat.le_of_ble_eq_true rfl⟩ (s_Tr_endOf e46) ?_
      show Go k_Ch_writeRecord 83 [some (.ref a0), some (.ref a1), some (.int r3), some (.int x16), some (.ref b32), some (.int r39), some (.int x42), none, none] [.int r44] h45 _
      refine go_bipush (v := 30) rfl (by decide) ?_
      refine go_iadd rfl ?_
      refine go_iload rfl rfl ?_
      refine go_iadd rfl ?_
      refine go_sipush (v := 1500) rfl (by decide) ?_
      refine go_icmp_le (t := 101) rfl rfl (fun hx_47 => ?_) (fun hx_47 => ?_)
      · rw [if_pos hx_47] at e
        refine go_aload_n rfl rfl ?_
        refine go_iconst (v := 2) rfl (by decide) ?_
        replace e := ck_as_e e
        obtain ⟨hk_48, e⟩ := e
        replace e := ck_bd_e e
        obtain ⟨r49, h50, e51, e⟩ := e
        refine go_callV (As := [.int 2]) (b0 := a0) (rest := []) rfl rfl ⟨hk_48, by decide⟩ rfl ⟨Nat.le_of_ble_eq_true rfl, Nat.le_of_ble_eq_true rfl, Nat.le_of_ble_eq_true rfl, Nat.le_of_ble_eq_true rfl⟩ (s_Ch_stop e51) ?_
        show Go k_Ch_writeRecord 100 [some (.ref a0), some (.ref a1), some (.int r3), some (.int x16), some (.ref b32), some (.int r39), some (.int x42), none, none] [] h50 _
        cases e
        exact go_ret rfl rfl
      · rw [if_neg hx_47] at e
        refine go_aload rfl rfl ?_
        refine go_iload rfl rfl ?_
        replace e := ck_as_e e
        obtain ⟨hk_52, e⟩ := e
        replace e := ck_bd_e e
        obtain ⟨r53, h54, e55, e⟩ := e
        refine go_callV (As := [.int r39]) (b0 := b32) (rest := []) rfl rfl ⟨hk_52, by decide⟩ rfl ⟨Nat.le_of_ble_eq_true rfl, Nat.le_of_ble_eq_true rfl, Nat.le_of_ble_eq_true rfl, Nat.le_of_ble_eq_true rfl⟩ (s_Tr_keepFirst e55) ?_
        show Go k_Ch_writeRecord 108 [some (.ref a0), some (.ref a1), some (.int r3), some (.int x16), some (.ref b32), some (.int r39), some (.int x42), none, none] [] h54 _
        refine go_aload rfl rfl ?_
        refine go_aload_n rfl rfl ?_
        refine go_aload_n rfl rfl ?_
        replace e := ck_as_e e
        obtain ⟨hk_56, e⟩ := e
        refine go_get (v := .int (gI h54 a1 1)) rfl rfl hk_56 (by decide) rfl ?_
        replace e := ck_as_e e
        obtain ⟨hk_57, e⟩ := e
        replace e := ck_bd_e e
        obtain ⟨r58, h59, e60, e⟩ := e
        refine go_callV (As := [.int (gI h54 a1 1)]) (b0 := a0) (rest := [.ref b32]) rfl rfl ⟨hk_57, by decide⟩ rfl ⟨Nat.le_of_ble_eq_true rfl, Nat.le_of_ble_eq_true rfl, Nat.le_of_ble_eq_true rfl, Nat.le_of_ble_eq_true rfl⟩ (s_Ch_byteAt e60) ?_
        show Go k_Ch_writeRecord 118 [some (.ref a0), some (.ref a1), some (.int r3), some (.int x16), some (.ref b32), some (.int r39), some (.int x42), none, none] [.int r58, .ref b32] h59 _
        refine go_aload_n rfl rfl ?_
        refine go_aload_n rfl rfl ?_
        replace e := ck_as_e e
        obtain ⟨hk_61, e⟩ := e
        refine go_get (v := .int (gI h59 a1 1)) rfl rfl hk_61 (by decide) rfl ?_
        refine go_iconst (v := 1) rfl (by decide) ?_
        refine go_iadd rfl ?_
        replace e := ck_as_e e
        obtain ⟨hk_62, e⟩ := e
        replace e := ck_bd_e e
        obtain ⟨r63, h64, e65, e⟩ := e
        refine go_callV (As := [.int ((gI h59 a1 1) + 1)]) (b0 := a0) (rest := [.int r58, .ref b32]) rfl rfl ⟨hk_62, by decide⟩ rfl ⟨Nat.le_of_ble_eq_true rfl, Nat.le_of_ble_eq_true rfl, Nat.le_of_ble_eq_true rfl, Nat.le_of_ble_eq_true rfl⟩ (s_Ch_byteAt e65) ?_
        show Go k_Ch_writeRecord 128 [some (.ref a0), some (.ref a1), some (.int r3), some (.int x16), some (.ref b32), some (.int r39), some (.int x42), none, none] [.int r63, .int r58, .ref b32] h64 _
        refine go_aload_n rfl rfl ?_
        refine go_aload_n rfl rfl ?_
        replace e := ck_as_e e
        obtain ⟨hk_66, e⟩ := e
        refine go_get (v := .int (gI h64 a1 1)) rfl rfl hk_66 (by decide) rfl ?_
        refine go_iconst (v := 2) rfl (by decide) ?_
        refine go_iadd rfl ?_
        replace e := ck_as_e e
        obtain ⟨hk_67, e⟩ := e
        replace e := ck_bd_e e
        obtain ⟨r68, h69, e70, e⟩ := e
        refine go_callV (As := [.int ((gI h64 a1 1) + 2)]) (b0 := a0) (rest := [.int r63, .int r58, .ref b32]) rfl rfl ⟨hk_67, by decide⟩ rfl ⟨Nat.le_of_ble_eq_true rfl, Nat.le_of_ble_eq_true rfl, Nat.le_of_ble_eq_true rfl, Nat.le_of_ble_eq_true rfl⟩ (s_Ch_byteAt e70) ?_
        show Go k_Ch_writeRecord 138 [some (.ref a0), some (.ref a1), some (.int r3), some (.int x16), some (.ref b32), some (.int r39), some (.int x42), none, none] [.int r68, .int r63, .int r58, .ref b32] h69 _
        refine go_iload_n rfl rfl ?_
        refine go_iload_n rfl rfl ?_
        replace e := ck_as_e e
        obtain ⟨hk_71, e⟩ := e
        replace e := ck_bd_e e
        obtain ⟨r72, h73, e74, e⟩ := e
        refine go_callV (As := [.int r58, .int r63, .int r68, .int r3, .int x16]) (b0 := b32) (rest := []) rfl rfl ⟨hk_71, by decide⟩ rfl ⟨Nat.le_of_ble_eq_true rfl, Nat.le_of_ble_eq_true rfl, Nat.le_of_ble_eq_true rfl, Nat.le_of_ble_eq_true rfl⟩ (s_Tr_append e74) ?_
        show Go k_Ch_writeRecord 143 [some (.ref a0), some (.ref a1), some (.int r3), some (.int x16), some (.ref b32), some (.int r39), some (.int x42), none, none] [.int r72] h73 _
        refine go_istore rfl rfl ?_
        show Go k_Ch_writeRecord 145 [some (.ref a0), some (.ref a1), some (.int r3), some (.int x16), some (.ref b32), some (.int r39), some (.int x42), some (.int r72), none] [] h73 _
        refine go_aload_n rfl rfl ?_
        replace e := ck_as_e e
        obtain ⟨hk_75, e⟩ := e
        refine go_get (v := .int (gI h73 a1 2)) rfl rfl hk_75 (by decide) rfl ?_
        refine go_bipush (v := 6) rfl (by decide) ?_
        refine go_isub rfl ?_
        refine go_iload rfl rfl ?_
        replace e := ck_bd_e e
        obtain ⟨r76, h77, e78, e⟩ := e
        refine go_callS (As := [.int ((gI h73 a1 2) - 6), .int x42]) (rest := []) rfl rfl rfl ⟨Nat.le_of_ble_eq_true rfl, Nat.le_of_ble_eq_true rfl, Nat.le_of_ble_eq_true rfl, Nat.le_of_ble_eq_true rfl⟩ (s_Ma_min e78) ?_
        show Go k_Ch_writeRecord 157 [some (.ref a0), some (.ref a1), some (.int r3), some (.int x16), some (.ref b32), some (.int r39), some (.int x42), some (.int r72), none] [.int r76] h77 _
        refine go_istore rfl rfl ?_
        show Go k_Ch_writeRecord 159 [some (.ref a0), some (.ref a1), some (.int r3), some (.int x16), some (.ref b32), some (.int r39), some (.int x42), some (.int r72), some (.int r76)] [] h77 _
        refine go_aload rfl rfl ?_
        refine go_iload rfl rfl ?_
        refine go_iconst (v := 0) rfl (by decide) ?_
        refine go_aload_n rfl rfl ?_
        replace e := ck_as_e e
        obtain ⟨hk_79, e⟩ := e
        replace e := ck_some_e e
        obtain ⟨b80, hq_81, e⟩ := e
        refine go_get (v := .ref b80) rfl rfl hk_79 (by decide) (by show va_rf (gR h77 a0 0) = _; rw [hq_81]; rfl) ?_
        refine go_aload_n rfl rfl ?_
        replace e := ck_as_e e
        obtain ⟨hk_82, e⟩ := e
        refine go_get (v := .int (gI h77 a1 1)) rfl rfl hk_82 (by decide) rfl ?_
        refine go_bipush (v := 6) rfl (by decide) ?_
        refine go_iadd rfl ?_
        refine go_iload rfl rfl ?_
        replace e := ck_as_e e
        obtain ⟨hk_83, e⟩ := e
        replace e := ck_bd_e e
        obtain ⟨r84, h85, e86, e⟩ := e
        refine go_callV (As := [.int r72, .int 0, .ref b80, .int ((gI h77 a1 1) + 6), .int r76]) (b0 := b32) (rest := []) rfl rfl ⟨hk_83, by decide⟩ rfl ⟨Nat.le_of_ble_eq_true rfl, Nat.le_of_ble_eq_true rfl, Nat.le_of_ble_eq_true rfl, Nat.le_of_ble_eq_true rfl⟩ (s_Tr_store e86) ?_
        show Go k_Ch_writeRecord 180 [some (.ref a0), some (.ref a1), some (.int r3), some (.int x16), some (.ref b32), some (.int r39), some (.int x42), some (.int r72), some (.int r76)] [] h85 _
        refine go_aload_n rfl rfl ?_
        refine go_aload rfl rfl ?_
        refine go_iload rfl rfl ?_
        replace e := ck_as_e e
        obtain ⟨hk_87, e⟩ := e
        replace e := ck_bd_e e
        obtain ⟨r88, h89, e90, e⟩ := e
        refine go_callV (As := [.int r72]) (b0 := b32) (rest := [.ref a0]) rfl rfl ⟨hk_87, by decide⟩ rfl ⟨Nat.le_of_ble_eq_true rfl, Nat.le_of_ble_eq_true rfl, Nat.le_of_ble_eq_true rfl, Nat.le_of_ble_eq_true rfl⟩ (s_Tr_endOf e90) ?_
        show Go k_Ch_writeRecord 188 [some (.ref a0), some (.ref a1), some (.int r3), some (.int x16), some (.ref b32), some (.int r39), some (.int x42), some (.int r72), some (.int r76)] [.int r88, .ref a0] h89 _
        replace e := ck_as_e e
        obtain ⟨hk_91, e⟩ := e
        replace e := ck_bd_e e
        obtain ⟨r92, h93, e94, e⟩ := e
        refine go_callV (As := [.int r88]) (b0 := a0) (rest := []) rfl rfl ⟨hk_91, by decide⟩ rfl ⟨Nat.le_of_ble_eq_true rfl, Nat.le_of_ble_eq_true rfl, Nat.le_of_ble_eq_true rfl, Nat.le_of_ble_eq_true rfl⟩ (s_Ch_goTo e94) ?_
        show Go k_Ch_writeRecord 191 [some (.ref a0), some (.ref a1), some (.int r3), some (.int x16), some (.ref b32), some (.int r39), some (.int x42), some (.int r72), some (.int r76)] [] h93 _
        refine go_aload_n rfl rfl ?_
        refine go_iconst (v := 4) rfl (by decide) ?_
        refine go_iload rfl rfl ?_
        replace e := ck_as_e e
        obtain ⟨hk_95, e⟩ := e
        replace e := ck_bd_e e
        obtain ⟨r96, h97, e98, e⟩ := e
        refine go_callV (As := [.int 4, .int r72]) (b0 := a0) (rest := []) rfl rfl ⟨hk_95, by decide⟩ rfl ⟨Nat.le_of_ble_eq_true rfl, Nat.le_of_ble_eq_true rfl, Nat.le_of_ble_eq_true rfl, Nat.le_of_ble_eq_true rfl⟩ (s_Ch_setPoint e98) ?_
        show Go k_Ch_writeRecord 198 [some (.ref a0), some (.ref a1), some (.int r3), some (.int x16), some (.ref b32), some (.int r39), some (.int x42), some (.int r72), some (.int r76)] [] h97 _
        refine go_aload_n rfl rfl ?_
        refine go_aload_n rfl rfl ?_
        refine go_bipush (v := 6) rfl (by decide) ?_
        refine go_iload rfl rfl ?_
        refine go_iadd rfl ?_
        replace e := ck_as_e e
        obtain ⟨hk_99, e⟩ := e
        replace e := ck_bd_e e
        obtain ⟨r100, h101, e102, e⟩ := e
        refine go_callV (As := [.ref a1, .int (6 + x42)]) (b0 := a0) (rest := []) rfl rfl ⟨hk_99, by decide⟩ rfl ⟨Nat.le_of_ble_eq_true rfl, Nat.le_of_ble_eq_true rfl, Nat.le_of_ble_eq_true rfl, Nat.le_of_ble_eq_true rfl⟩ (s_Ch_settleLength e102) ?_
        show Go k_Ch_writeRecord 208 [some (.ref a0), some (.ref a1), some (.int r3), some (.int x16), some (.ref b32), some (.int r39), some (.int x42), some (.int r72), some (.int r76)] [] h101 _
        cases e
        exact go_ret rfl rfl
def f_Ch_erase (F : Nat) (a0 : Nat) (h : ck_H) : Option (Unit × ck_H) :=
  ck_as (gk h a0 = 0) <|
  ck_bd (f_Ch_keptAtPoint F a0 h) fun r2 h3 =>
  ck_as (gk h3 a0 = 0) <|
  ck_bd (f_Ch_track F a0 h3) fun r6 h7 =>
  ck_some r6 fun b9 =>
  ck_as (gk h7 b9 = 8) <|
  ck_bd (f_Tr_keepFirst F b9 r2 h7) fun _ h13 =>
  ck_as (gk h13 a0 = 0) <|
  ck_bd (f_Ch_track F a0 h13) fun r16 h17 =>
  ck_some r16 fun b19 =>
  ck_as (gk h17 b19 = 8) <|
  ck_bd (f_Tr_endOf F b19 (r2 - 1) h17) fun r22 h23 =>
  ck_as (gk h23 a0 = 0) <|
  ck_bd (f_Ch_goTo F a0 r22 h23) fun _ h27 =>
  ck_as (gk h27 a0 = 0) <|
  ck_bd (f_Ch_setPoint F a0 0 (-1) h27) fun _ h31 =>
  some ((), h31)
set_option maxRecDepth 100000 in
set_option maxHeartbeats 4000000 in
theorem s_Ch_erase {F : Nat} {a0 : Nat} {h h' : ck_H} {r : Unit} (e : f_Ch_erase F a0 h = some (r, h')) : Go k_Ch_erase 0 (ck_in [.ref a0] 2) [] h (none, h') := by
  unfold f_Ch_erase at e
  show Go k_Ch_erase 0 [some (.ref a0), none] [] h _
  refine go_aload_n rfl rfl ?_
  replace e := ck_as_e e
  obtain ⟨hk_1, e⟩ := e
  replace e := ck_bd_e e
  obtain ⟨r2, h3, e4, e⟩ := e
  refine go_callV (As := []) (b0 := a0) (rest := []) rfl rfl ⟨hk_1, by decide⟩ rfl ⟨Nat.le_of_ble_eq_true rfl, Nat.le_of_ble_eq_true rfl, Nat.le_of_ble_eq_true rfl, Nat.le_of_ble_eq_true rfl⟩ (s_Ch_keptAtPoint e4) ?_
  show Go k_Ch_erase 4 [some (.ref a0), none] [.int r2] h3 _
  refine go_istore_n rfl rfl ?_
  show Go k_Ch_erase 5 [some (.ref a0), some (.int r2)] [] h3 _
  refine go_aload_n rfl rfl ?_
  replace e := ck_as_e e
  obtain ⟨hk_5, e⟩ := e
  replace e := ck_bd_e e
  obtain ⟨r6, h7, e8, e⟩ := e
  refine go_callV (As := []) (b0 := a0) (rest := []) rfl rfl ⟨hk_5, by decide⟩ rfl ⟨Nat.le_of_ble_eq_true rfl, Nat.le_of_ble_eq_true rfl, Nat.le_of_ble_eq_true rfl, Nat.le_of_ble_eq_true rfl⟩ (s_Ch_track e8) ?_
  replace e := ck_some_e e
  obtain ⟨b9, hq_10, e⟩ := e
  subst hq_10
  show Go k_Ch_erase 9 [some (.ref a0), some (.int r2)] [.ref b9] h7 _
  refine go_iload_n rfl rfl ?_
  replace e := ck_as_e e
  obtain ⟨hk_11, e⟩ := e
  replace e := ck_bd_e e
  obtain ⟨r12, h13, e14, e⟩ := e
  refine go_callV (As := [.int r2]) (b0 := b9) (rest := []) rfl rfl ⟨hk_11, by decide⟩ rfl ⟨Nat.le_of_ble_eq_true rfl, Nat.le_of_ble_eq_true rfl, Nat.le_of_ble_eq_true rfl, Nat.le_of_ble_eq_true rfl⟩ (s_Tr_keepFirst e14) ?_
  show Go k_Ch_erase 13 [some (.ref a0), some (.int r2)] [] h13 _
  refine go_aload_n rfl rfl ?_
  refine go_aload_n rfl rfl ?_
  replace e := ck_as_e e
  obtain ⟨hk_15, e⟩ := e
  replace e := ck_bd_e e
  obtain ⟨r16, h17, e18, e⟩ := e
  refine go_callV (As := []) (b0 := a0) (rest := [.ref a0]) rfl rfl ⟨hk_15, by decide⟩ rfl ⟨Nat.le_of_ble_eq_true rfl, Nat.le_of_ble_eq_true rfl, Nat.le_of_ble_eq_true rfl, Nat.le_of_ble_eq_true rfl⟩ (s_Ch_track e18) ?_
  replace e := ck_some_e e
  obtain ⟨b19, hq_20, e⟩ := e
  subst hq_20
  show Go k_Ch_erase 18 [some (.ref a0), some (.int r2)] [.ref b19, .ref a0] h17 _
  refine go_iload_n rfl rfl ?_
  refine go_iconst (v := 1) rfl (by decide) ?_
  refine go_isub rfl ?_
  replace e := ck_as_e e
  obtain ⟨hk_21, e⟩ := e
  replace e := ck_bd_e e
  obtain ⟨r22, h23, e24, e⟩ := e
  refine go_callV (As := [.int (r2 - 1)]) (b0 := b19) (rest := [.ref a0]) rfl rfl ⟨hk_21, by decide⟩ rfl ⟨Nat.le_of_ble_eq_true rfl, Nat.le_of_ble_eq_true rfl, Nat.le_of_ble_eq_true rfl, Nat.le_of_ble_eq_true rfl⟩ (s_Tr_endOf e24) ?_
  show Go k_Ch_erase 24 [some (.ref a0), some (.int r2)] [.int r22, .ref a0] h23 _
  replace e := ck_as_e e
  obtain ⟨hk_25, e⟩ := e
  replace e := ck_bd_e e
  obtain ⟨r26, h27, e28, e⟩ := e
  refine go_callV (As := [.int r22]) (b0 := a0) (rest := []) rfl rfl ⟨hk_25, by decide⟩ rfl ⟨Nat.le_of_ble_eq_true rfl, Nat.le_of_ble_eq_true rfl, Nat.le_of_ble_eq_true rfl, Nat.le_of_ble_eq_true rfl⟩ (s_Ch_goTo e28) ?_
  show Go k_Ch_erase 27 [some (.ref a0), some (.int r2)] [] h27 _
  refine go_aload_n rfl rfl ?_
  refine go_iconst (v := 0) rfl (by decide) ?_
  refine go_iconst (v := (-1)) rfl (by decide) ?_
  replace e := ck_as_e e
  obtain ⟨hk_29, e⟩ := e
  replace e := ck_bd_e e
  obtain ⟨r30, h31, e32, e⟩ := e
  refine go_callV (As := [.int 0, .int (-1)]) (b0 := a0) (rest := []) rfl rfl ⟨hk_29, by decide⟩ rfl ⟨Nat.le_of_ble_eq_true rfl, Nat.le_of_ble_eq_true rfl, Nat.le_of_ble_eq_true rfl, Nat.le_of_ble_eq_true rfl⟩ (s_Ch_setPoint e32) ?_
  show Go k_Ch_erase 33 [some (.ref a0), some (.int r2)] [] h31 _
  cases e
  exact go_ret rfl rfl
def f_Ch_perform (F : Nat) (a0 : Nat) (a1 : Nat) (h : ck_H) : Option (Unit × ck_H) :=
  ck_as (gk h a1 = 1) <|
  if (gI h a1 0) = 1 then
    ck_as (gk h a0 = 0) <|
    ck_bd (f_Ch_seek F a0 a1 h) fun _ h5 =>
    some ((), h5)
  else
  if (gI h a1 0) = 2 then
    ck_as (gk h a0 = 0) <|
    ck_bd (f_Ch_chooseHead F a0 a1 h) fun _ h10 =>
    some ((), h10)
  else
  if (gI h a1 0) = 3 then
    ck_as (gk h a0 = 0) <|
    ck_bd (f_Ch_searchHome F a0 a1 h) fun _ h15 =>
    some ((), h15)
  else
  if (gI h a1 0) = 4 then
    ck_as (gk h a0 = 0) <|
    ck_bd (f_Ch_searchId F a0 a1 h) fun _ h20 =>
    some ((), h20)
  else
  if (gI h a1 0) = 5 then
    ck_as (gk h a0 = 0) <|
    ck_bd (f_Ch_searchKey F a0 a1 h) fun _ h25 =>
    some ((), h25)
  else
  if (gI h a1 0) = 6 then
    ck_as (gk h a0 = 0) <|
    ck_bd (f_Ch_searchKey F a0 a1 h) fun _ h30 =>
    some ((), h30)
  else
  if (gI h a1 0) = 7 then
    ck_as (gk h a0 = 0) <|
    ck_then (wI h a0 3 (gI h a1 1)) fun h34 =>
    some ((), h34)
  else
  if (gI h a1 0) = 8 then
    ck_as (gk h a0 = 0) <|
    ck_bd (f_Ch_readCount F a0 a1 h) fun _ h40 =>
    some ((), h40)
  else
  if (gI h a1 0) = 9 then
    ck_as (gk h a0 = 0) <|
    ck_bd (f_Ch_readKey F a0 a1 h) fun _ h45 =>
    some ((), h45)
  else
  if (gI h a1 0) = 10 then
    ck_as (gk h a0 = 0) <|
    ck_bd (f_Ch_readData F a0 a1 h) fun _ h50 =>
    some ((), h50)
  else
  if (gI h a1 0) = 11 then
    ck_as (gk h a0 = 0) <|
    ck_bd (f_Ch_readAll F a0 a1 h) fun _ h55 =>
    some ((), h55)
  else
  if (gI h a1 0) = 12 then
    ck_as (gk h a0 = 0) <|
    ck_bd (f_Ch_writeData F a0 a1 h) fun _ h60 =>
    some ((), h60)
  else
  if (gI h a1 0) = 13 then
    ck_as (gk h a0 = 0) <|
    ck_bd (f_Ch_writeKey F a0 a1 h) fun _ h65 =>
    some ((), h65)
  else
  if (gI h a1 0) = 14 then
    ck_as (gk h a0 = 0) <|
    ck_bd (f_Ch_writeRecord F a0 a1 h) fun _ h70 =>
    some ((), h70)
  else
  if (gI h a1 0) = 15 then
    ck_as (gk h a0 = 0) <|
    ck_bd (f_Ch_erase F a0 h) fun _ h75 =>
    some ((), h75)
  else
    some ((), h)
set_option maxRecDepth 100000 in
set_option maxHeartbeats 4000000 in
theorem s_Ch_perform {F : Nat} {a0 : Nat} {a1 : Nat} {h h' : ck_H} {r : Unit} (e : f_Ch_perform F a0 a1 h = some (r, h')) : Go k_Ch_perform 0 (ck_in [.ref a0, .ref a1] 2) [] h (none, h') := by
  unfold f_Ch_perform at e
  show Go k_Ch_perform 0 [some (.ref a0), some (.ref a1)] [] h _
  refine go_aload_n rfl rfl ?_
  replace e := ck_as_e e
  obtain ⟨hk_1, e⟩ := e
  refine go_get (v := .int (gI h a1 0)) rfl rfl hk_1 (by decide) rfl ?_
  by_cases hx_2 : (gI h a1 0) = 1
  · rw [if_pos hx_2] at e
    refine go_tswI (off := 76) (t := 80) rfl (by rw [hx_2]; decide) (by rw [hx_2]; rfl) rfl ?_
    refine go_aload_n rfl rfl ?_
    refine go_aload_n rfl rfl ?_
    replace e := ck_as_e e
    obtain ⟨hk_3, e⟩ := e
    replace e := ck_bd_e e
    obtain ⟨r4, h5, e6, e⟩ := e
    refine go_callV (As := [.ref a1]) (b0 := a0) (rest := []) rfl rfl ⟨hk_3, by decide⟩ rfl ⟨Nat.le_of_ble_eq_true rfl, Nat.le_of_ble_eq_true rfl, Nat.le_of_ble_eq_true rfl, Nat.le_of_ble_eq_true rfl⟩ (s_Ch_seek e6) ?_
    show Go k_Ch_perform 85 [some (.ref a0), some (.ref a1)] [] h5 _
    refine go_goto (t := 194) rfl rfl ?_
    cases e
    exact go_ret rfl rfl
  rw [if_neg hx_2] at e
  by_cases hx_7 : (gI h a1 0) = 2
  · rw [if_pos hx_7] at e
    refine go_tswI (off := 84) (t := 88) rfl (by rw [hx_7]; decide) (by rw [hx_7]; rfl) rfl ?_
    refine go_aload_n rfl rfl ?_
    refine go_aload_n rfl rfl ?_
    replace e := ck_as_e e
    obtain ⟨hk_8, e⟩ := e
    replace e := ck_bd_e e
    obtain ⟨r9, h10, e11, e⟩ := e
    refine go_callV (As := [.ref a1]) (b0 := a0) (rest := []) rfl rfl ⟨hk_8, by decide⟩ rfl ⟨Nat.le_of_ble_eq_true rfl, Nat.le_of_ble_eq_true rfl, Nat.le_of_ble_eq_true rfl, Nat.le_of_ble_eq_true rfl⟩ (s_Ch_chooseHead e11) ?_
    show Go k_Ch_perform 93 [some (.ref a0), some (.ref a1)] [] h10 _
    refine go_goto (t := 194) rfl rfl ?_
    cases e
    exact go_ret rfl rfl
  rw [if_neg hx_7] at e
  by_cases hx_12 : (gI h a1 0) = 3
  · rw [if_pos hx_12] at e
    refine go_tswI (off := 92) (t := 96) rfl (by rw [hx_12]; decide) (by rw [hx_12]; rfl) rfl ?_
    refine go_aload_n rfl rfl ?_
    refine go_aload_n rfl rfl ?_
    replace e := ck_as_e e
    obtain ⟨hk_13, e⟩ := e
    replace e := ck_bd_e e
    obtain ⟨r14, h15, e16, e⟩ := e
    refine go_callV (As := [.ref a1]) (b0 := a0) (rest := []) rfl rfl ⟨hk_13, by decide⟩ rfl ⟨Nat.le_of_ble_eq_true rfl, Nat.le_of_ble_eq_true rfl, Nat.le_of_ble_eq_true rfl, Nat.le_of_ble_eq_true rfl⟩ (s_Ch_searchHome e16) ?_
    show Go k_Ch_perform 101 [some (.ref a0), some (.ref a1)] [] h15 _
    refine go_goto (t := 194) rfl rfl ?_
    cases e
    exact go_ret rfl rfl
  rw [if_neg hx_12] at e
  by_cases hx_17 : (gI h a1 0) = 4
  · rw [if_pos hx_17] at e
    refine go_tswI (off := 100) (t := 104) rfl (by rw [hx_17]; decide) (by rw [hx_17]; rfl) rfl ?_
    refine go_aload_n rfl rfl ?_
    refine go_aload_n rfl rfl ?_
    replace e := ck_as_e e
    obtain ⟨hk_18, e⟩ := e
    replace e := ck_bd_e e
    obtain ⟨r19, h20, e21, e⟩ := e
    refine go_callV (As := [.ref a1]) (b0 := a0) (rest := []) rfl rfl ⟨hk_18, by decide⟩ rfl ⟨Nat.le_of_ble_eq_true rfl, Nat.le_of_ble_eq_true rfl, Nat.le_of_ble_eq_true rfl, Nat.le_of_ble_eq_true rfl⟩ (s_Ch_searchId e21) ?_
    show Go k_Ch_perform 109 [some (.ref a0), some (.ref a1)] [] h20 _
    refine go_goto (t := 194) rfl rfl ?_
    cases e
    exact go_ret rfl rfl
  rw [if_neg hx_17] at e
  by_cases hx_22 : (gI h a1 0) = 5
  · rw [if_pos hx_22] at e
    refine go_tswI (off := 108) (t := 112) rfl (by rw [hx_22]; decide) (by rw [hx_22]; rfl) rfl ?_
    refine go_aload_n rfl rfl ?_
    refine go_aload_n rfl rfl ?_
    replace e := ck_as_e e
    obtain ⟨hk_23, e⟩ := e
    replace e := ck_bd_e e
    obtain ⟨r24, h25, e26, e⟩ := e
    refine go_callV (As := [.ref a1]) (b0 := a0) (rest := []) rfl rfl ⟨hk_23, by decide⟩ rfl ⟨Nat.le_of_ble_eq_true rfl, Nat.le_of_ble_eq_true rfl, Nat.le_of_ble_eq_true rfl, Nat.le_of_ble_eq_true rfl⟩ (s_Ch_searchKey e26) ?_
    show Go k_Ch_perform 117 [some (.ref a0), some (.ref a1)] [] h25 _
    refine go_goto (t := 194) rfl rfl ?_
    cases e
    exact go_ret rfl rfl
  rw [if_neg hx_22] at e
  by_cases hx_27 : (gI h a1 0) = 6
  · rw [if_pos hx_27] at e
    refine go_tswI (off := 108) (t := 112) rfl (by rw [hx_27]; decide) (by rw [hx_27]; rfl) rfl ?_
    refine go_aload_n rfl rfl ?_
    refine go_aload_n rfl rfl ?_
    replace e := ck_as_e e
    obtain ⟨hk_28, e⟩ := e
    replace e := ck_bd_e e
    obtain ⟨r29, h30, e31, e⟩ := e
    refine go_callV (As := [.ref a1]) (b0 := a0) (rest := []) rfl rfl ⟨hk_28, by decide⟩ rfl ⟨Nat.le_of_ble_eq_true rfl, Nat.le_of_ble_eq_true rfl, Nat.le_of_ble_eq_true rfl, Nat.le_of_ble_eq_true rfl⟩ (s_Ch_searchKey e31) ?_
    show Go k_Ch_perform 117 [some (.ref a0), some (.ref a1)] [] h30 _
    refine go_goto (t := 194) rfl rfl ?_
    cases e
    exact go_ret rfl rfl
  rw [if_neg hx_27] at e
  by_cases hx_32 : (gI h a1 0) = 7
  · rw [if_pos hx_32] at e
    refine go_tswI (off := 116) (t := 120) rfl (by rw [hx_32]; decide) (by rw [hx_32]; rfl) rfl ?_
    refine go_aload_n rfl rfl ?_
    refine go_aload_n rfl rfl ?_
    refine go_get (v := .int (gI h a1 1)) rfl rfl hk_1 (by decide) rfl ?_
    replace e := ck_as_e e
    obtain ⟨hk_33, e⟩ := e
    refine go_put (h1 := wI h a0 3 (gI h a1 1)) rfl rfl hk_33 ⟨by decide, by decide, Or.inl rfl⟩ rfl ?_
    have hk_35 : gk (wI h a0 3 (gI h a1 1)) a1 = 1 := ck_kI.trans hk_1
    have hk_36 : gk (wI h a0 3 (gI h a1 1)) a0 = 0 := ck_kI.trans hk_33
    generalize wI h a0 3 (gI h a1 1) = h34 at e hk_35 hk_36 ⊢
    replace e := ck_then_e e
    refine go_goto (t := 194) rfl rfl ?_
    cases e
    exact go_ret rfl rfl
  rw [if_neg hx_32] at e
  by_cases hx_37 : (gI h a1 0) = 8
  · rw [if_pos hx_37] at e
    refine go_tswI (off := 127) (t := 131) rfl (by rw [hx_37]; decide) (by rw [hx_37]; rfl) rfl ?_
    refine go_aload_n rfl rfl ?_
    refine go_aload_n rfl rfl ?_
    replace e := ck_as_e e
    obtain ⟨hk_38, e⟩ := e
    replace e := ck_bd_e e
    obtain ⟨r39, h40, e41, e⟩ := e
    refine go_callV (As := [.ref a1]) (b0 := a0) (rest := []) rfl rfl ⟨hk_38, by decide⟩ rfl ⟨Nat.le_of_ble_eq_true rfl, Nat.le_of_ble_eq_true rfl, Nat.le_of_ble_eq_true rfl, Nat.le_of_ble_eq_true rfl⟩ (s_Ch_readCount e41) ?_
    show Go k_Ch_perform 136 [some (.ref a0), some (.ref a1)] [] h40 _
    refine go_goto (t := 194) rfl rfl ?_
    cases e
    exact go_ret rfl rfl
  rw [if_neg hx_37] at e
  by_cases hx_42 : (gI h a1 0) = 9
  · rw [if_pos hx_42] at e
    refine go_tswI (off := 135) (t := 139) rfl (by rw [hx_42]; decide) (by rw [hx_42]; rfl) rfl ?_
    refine go_aload_n rfl rfl ?_
    refine go_aload_n rfl rfl ?_
    replace e := ck_as_e e
    obtain ⟨hk_43, e⟩ := e
    replace e := ck_bd_e e
    obtain ⟨r44, h45, e46, e⟩ := e
    refine go_callV (As := [.ref a1]) (b0 := a0) (rest := []) rfl rfl ⟨hk_43, by decide⟩ rfl ⟨Nat.le_of_ble_eq_true rfl, Nat.le_of_ble_eq_true rfl, Nat.le_of_ble_eq_true rfl, Nat.le_of_ble_eq_true rfl⟩ (s_Ch_readKey e46) ?_
    show Go k_Ch_perform 144 [some (.ref a0), some (.ref a1)] [] h45 _
    refine go_goto (t := 194) rfl rfl ?_
    cases e
    exact go_ret rfl rfl
  rw [if_neg hx_42] at e
  by_cases hx_47 : (gI h a1 0) = 10
  · rw [if_pos hx_47] at e
    refine go_tswI (off := 143) (t := 147) rfl (by rw [hx_47]; decide) (by rw [hx_47]; rfl) rfl ?_
    refine go_aload_n rfl rfl ?_
    refine go_aload_n rfl rfl ?_
    replace e := ck_as_e e
    obtain ⟨hk_48, e⟩ := e
    replace e := ck_bd_e e
    obtain ⟨r49, h50, e51, e⟩ := e
    refine go_callV (As := [.ref a1]) (b0 := a0) (rest := []) rfl rfl ⟨hk_48, by decide⟩ rfl ⟨Nat.le_of_ble_eq_true rfl, Nat.le_of_ble_eq_true rfl, Nat.le_of_ble_eq_true rfl, Nat.le_of_ble_eq_true rfl⟩ (s_Ch_readData e51) ?_
    show Go k_Ch_perform 152 [some (.ref a0), some (.ref a1)] [] h50 _
    refine go_goto (t := 194) rfl rfl ?_
    cases e
    exact go_ret rfl rfl
  rw [if_neg hx_47] at e
  by_cases hx_52 : (gI h a1 0) = 11
  · rw [if_pos hx_52] at e
    refine go_tswI (off := 151) (t := 155) rfl (by rw [hx_52]; decide) (by rw [hx_52]; rfl) rfl ?_
    refine go_aload_n rfl rfl ?_
    refine go_aload_n rfl rfl ?_
    replace e := ck_as_e e
    obtain ⟨hk_53, e⟩ := e
    replace e := ck_bd_e e
    obtain ⟨r54, h55, e56, e⟩ := e
    refine go_callV (As := [.ref a1]) (b0 := a0) (rest := []) rfl rfl ⟨hk_53, by decide⟩ rfl ⟨Nat.le_of_ble_eq_true rfl, Nat.le_of_ble_eq_true rfl, Nat.le_of_ble_eq_true rfl, Nat.le_of_ble_eq_true rfl⟩ (s_Ch_readAll e56) ?_
    show Go k_Ch_perform 160 [some (.ref a0), some (.ref a1)] [] h55 _
    refine go_goto (t := 194) rfl rfl ?_
    cases e
    exact go_ret rfl rfl
  rw [if_neg hx_52] at e
  by_cases hx_57 : (gI h a1 0) = 12
  · rw [if_pos hx_57] at e
    refine go_tswI (off := 159) (t := 163) rfl (by rw [hx_57]; decide) (by rw [hx_57]; rfl) rfl ?_
    refine go_aload_n rfl rfl ?_
    refine go_aload_n rfl rfl ?_
    replace e := ck_as_e e
    obtain ⟨hk_58, e⟩ := e
    replace e := ck_bd_e e
    obtain ⟨r59, h60, e61, e⟩ := e
    refine go_callV (As := [.ref a1]) (b0 := a0) (rest := []) rfl rfl ⟨hk_58, by decide⟩ rfl ⟨Nat.le_of_ble_eq_true rfl, Nat.le_of_ble_eq_true rfl, Nat.le_of_ble_eq_true rfl, Nat.le_of_ble_eq_true rfl⟩ (s_Ch_writeData e61) ?_
    show Go k_Ch_perform 168 [some (.ref a0), some (.ref a1)] [] h60 _
    refine go_goto (t := 194) rfl rfl ?_
    cases e
    exact go_ret rfl rfl
  rw [if_neg hx_57] at e
  by_cases hx_62 : (gI h a1 0) = 13
  · rw [if_pos hx_62] at e
    refine go_tswI (off := 167) (t := 171) rfl (by rw [hx_62]; decide) (by rw [hx_62]; rfl) rfl ?_
    refine go_aload_n rfl rfl ?_
    refine go_aload_n rfl rfl ?_
    replace e := ck_as_e e
    obtain ⟨hk_63, e⟩ := e
    replace e := ck_bd_e e
    obtain ⟨r64, h65, e66, e⟩ := e
    refine go_callV (As := [.ref a1]) (b0 := a0) (rest := []) rfl rfl ⟨hk_63, by decide⟩ rfl ⟨Nat.le_of_ble_eq_true rfl, Nat.le_of_ble_eq_true rfl, Nat.le_of_ble_eq_true rfl, Nat.le_of_ble_eq_true rfl⟩ (s_Ch_writeKey e66) ?_
    show Go k_Ch_perform 176 [some (.ref a0), some (.ref a1)] [] h65 _
    refine go_goto (t := 194) rfl rfl ?_
    cases e
    exact go_ret rfl rfl
  rw [if_neg hx_62] at e
  by_cases hx_67 : (gI h a1 0) = 14
  · rw [if_pos hx_67] at e
    refine go_tswI (off := 175) (t := 179) rfl (by rw [hx_67]; decide) (by rw [hx_67]; rfl) rfl ?_
    refine go_aload_n rfl rfl ?_
    refine go_aload_n rfl rfl ?_
    replace e := ck_as_e e
    obtain ⟨hk_68, e⟩ := e
    replace e := ck_bd_e e
    obtain ⟨r69, h70, e71, e⟩ := e
    refine go_callV (As := [.ref a1]) (b0 := a0) (rest := []) rfl rfl ⟨hk_68, by decide⟩ rfl ⟨Nat.le_of_ble_eq_true rfl, Nat.le_of_ble_eq_true rfl, Nat.le_of_ble_eq_true rfl, Nat.le_of_ble_eq_true rfl⟩ (s_Ch_writeRecord e71) ?_
    show Go k_Ch_perform 184 [some (.ref a0), some (.ref a1)] [] h70 _
    refine go_goto (t := 194) rfl rfl ?_
    cases e
    exact go_ret rfl rfl
  rw [if_neg hx_67] at e
  by_cases hx_72 : (gI h a1 0) = 15
  · rw [if_pos hx_72] at e
    refine go_tswI (off := 183) (t := 187) rfl (by rw [hx_72]; decide) (by rw [hx_72]; rfl) rfl ?_
    refine go_aload_n rfl rfl ?_
    replace e := ck_as_e e
    obtain ⟨hk_73, e⟩ := e
    replace e := ck_bd_e e
    obtain ⟨r74, h75, e76, e⟩ := e
    refine go_callV (As := []) (b0 := a0) (rest := []) rfl rfl ⟨hk_73, by decide⟩ rfl ⟨Nat.le_of_ble_eq_true rfl, Nat.le_of_ble_eq_true rfl, Nat.le_of_ble_eq_true rfl, Nat.le_of_ble_eq_true rfl⟩ (s_Ch_erase e76) ?_
    show Go k_Ch_perform 191 [some (.ref a0), some (.ref a1)] [] h75 _
    refine go_goto (t := 194) rfl rfl ?_
    cases e
    exact go_ret rfl rfl
  rw [if_neg hx_72] at e
  have hz_ : (gI h a1 0 : Int32).toInt < 1 ∨ 15 < (gI h a1 0 : Int32).toInt := by
    have z0 := lv_neT hx_2 (k := 1) (a := 1) rfl
    have z1 := lv_neT hx_7 (k := 2) (a := 2) rfl
    have z2 := lv_neT hx_12 (k := 3) (a := 3) rfl
    have z3 := lv_neT hx_17 (k := 4) (a := 4) rfl
    have z4 := lv_neT hx_22 (k := 5) (a := 5) rfl
    have z5 := lv_neT hx_27 (k := 6) (a := 6) rfl
    have z6 := lv_neT hx_32 (k := 7) (a := 7) rfl
    have z7 := lv_neT hx_37 (k := 8) (a := 8) rfl
    have z8 := lv_neT hx_42 (k := 9) (a := 9) rfl
    have z9 := lv_neT hx_47 (k := 10) (a := 10) rfl
    have z10 := lv_neT hx_52 (k := 11) (a := 11) rfl
    have z11 := lv_neT hx_57 (k := 12) (a := 12) rfl
    have z12 := lv_neT hx_62 (k := 13) (a := 13) rfl
    have z13 := lv_neT hx_67 (k := 14) (a := 14) rfl
    have z14 := lv_neT hx_72 (k := 15) (a := 15) rfl
    omega
  refine go_tswO (m := k_Ch_perform) (pc := 4) (t := 194) (d := 190) (offs := #[76, 84, 92, 100, 108, 108, 116, 127, 135, 143, 151, 159, 167, 175, 183]) rfl hz_ rfl ?_
  cases e
  exact go_ret rfl rfl
def f_Ch_run_L54 (F : Nat)  : Nat → Nat → Int32 → Int32 → ck_H → Option (Int32 × ck_H)
  | 0, _, _, _, _ => none
  | n + 1, a0, v3, v4, h =>
    if v4 < (1000000 : Int32) then
      ck_as (gk h a0 = 0) <|
      if (gI h a0 3) < (0 : Int32) then
        some (gI h a0 8, h)
      else
        if (gI h a0 3) < v3 then
          if (gI h a0 3) < (32 : Int32) then
            ck_some (gR h a0 1) fun b6 =>
            ck_as ((16 ≤ gk h b6 ∧ gk h b6 ≤ 20) ∧ ¬ (gI h a0 3) < 0 ∧ (gI h a0 3 : Int32).toNatClampNeg < gz h b6) <|
            ck_opt (gR h b6 (gI h a0 3 : Int32).toNatClampNeg) (
              ck_then (wI h a0 10 (gI h a0 3)) fun h11 =>
              ck_then (wI h11 a0 9 0) fun h13 =>
              ck_then (wI h13 a0 11 ((gI h13 a0 11) + 1)) fun h15 =>
              ck_then (wI h15 a0 3 ((gI h15 a0 3) + 1)) fun h17 =>
              none
            ) fun b10 =>
            ck_then (wI h a0 10 (gI h a0 3)) fun h19 =>
            ck_then (wI h19 a0 9 0) fun h21 =>
            ck_then (wI h21 a0 11 ((gI h21 a0 11) + 1)) fun h23 =>
            ck_then (wI h23 a0 3 ((gI h23 a0 3) + 1)) fun h25 =>
            ck_bd (f_Ch_perform F a0 b10 h25) fun _ h28 =>
            ck_as (gk h28 b10 = 1) <|
            ck_bd (f_Ch_isSearch F (gI h28 b10 0) h28) fun r31 h32 =>
            if r31 = (0 : Int32) then
              ck_as (gk h32 b10 = 1) <|
              if (gI h32 b10 0) = (7 : Int32) then
                f_Ch_run_L54 F n a0 v3 (v4 + 1) h32
              else
                if (gI h32 b10 0) = (16 : Int32) then
                  f_Ch_run_L54 F n a0 v3 (v4 + 1) h32
                else
                  ck_as (gk h32 a0 = 0) <|
                  ck_then (wI h32 a0 6 0) fun h39 =>
                  f_Ch_run_L54 F n a0 v3 (v4 + 1) h39
            else
              f_Ch_run_L54 F n a0 v3 (v4 + 1) h32
          else
            some (gI h a0 8, h)
        else
          some (gI h a0 8, h)
    else
      ck_as (gk h a0 = 0) <|
      some (gI h a0 8, h)
set_option maxRecDepth 100000 in
set_option maxHeartbeats 4000000 in
theorem f_Ch_run_L54_s (F : Nat)   : ∀ (n : Nat) (a0 : Nat) (v3 : Int32) (v4 : Int32) (h : ck_H) (r : Int32) (h' : ck_H), f_Ch_run_L54 F n a0 v3 v4 h = some (r, h') → Go k_Ch_run 54 [some (.ref a0), none, none, some (.int v3), some (.int v4), none] [] h (some (.int r), h') := by
  intro n
  induction n with
  | zero => intro a0 v3 v4 h r h' e; simp only [f_Ch_run_L54] at e; cases e
  | succ n ih =>
    intro a0 v3 v4 h r h' e
    rw [f_Ch_run_L54] at e
    refine go_iload rfl rfl ?_
    refine go_ldc (v := 1000000) rfl rfl ?_
    refine go_icmp_ge (t := 177) rfl rfl (fun hx_1 => ?_) (fun hx_1 => ?_)
    · rw [if_pos hx_1] at e
      refine go_aload_n rfl rfl ?_
      replace e := ck_as_e e
      obtain ⟨hk_2, e⟩ := e
      refine go_get (v := .int (gI h a0 3)) rfl rfl hk_2 (by decide) rfl ?_
      refine go_if_lt (t := 177) rfl rfl (fun hx_3 => ?_) (fun hx_3 => ?_)
      · rw [if_pos hx_3] at e
        refine go_aload_n rfl rfl ?_
        refine go_get (v := .int (gI h a0 8)) rfl rfl hk_2 (by decide) rfl ?_
        cases e
        exact go_ret rfl rfl
      · rw [if_neg hx_3] at e
        refine go_aload_n rfl rfl ?_
        refine go_get (v := .int (gI h a0 3)) rfl rfl hk_2 (by decide) rfl ?_
        refine go_iload_n rfl rfl ?_
        refine go_icmp_ge (t := 177) rfl rfl (fun hx_4 => ?_) (fun hx_4 => ?_)
        · rw [if_pos hx_4] at e
          refine go_aload_n rfl rfl ?_
          refine go_get (v := .int (gI h a0 3)) rfl rfl hk_2 (by decide) rfl ?_
          refine go_bipush (v := 32) rfl (by decide) ?_
          refine go_icmp_ge (t := 177) rfl rfl (fun hx_5 => ?_) (fun hx_5 => ?_)
          · rw [if_pos hx_5] at e
            refine go_aload_n rfl rfl ?_
            replace e := ck_some_e e
            obtain ⟨b6, hq_7, e⟩ := e
            refine go_get (v := .ref b6) rfl rfl hk_2 (by decide) (by show va_rf (gR h a0 1) = _; rw [hq_7]; rfl) ?_
            refine go_aload_n rfl rfl ?_
            refine go_get (v := .int (gI h a0 3)) rfl rfl hk_2 (by decide) rfl ?_
            replace e := ck_as_e e
            obtain ⟨hc_8, e⟩ := e
            replace e := ck_opt_e e
            rcases e with ⟨hq_9, e⟩ | ⟨b10, hq_9, e⟩
            · refine go_aald (v := .null) rfl hc_8 (by rw [hq_9]; rfl) ?_
              refine go_astoreN rfl rfl ?_
              show Go k_Ch_run 96 [some (.ref a0), none, none, some (.int v3), some (.int v4), some .null] [] h _
              refine go_aload_n rfl rfl ?_
              refine go_aload_n rfl rfl ?_
              refine go_get (v := .int (gI h a0 3)) rfl rfl hk_2 (by decide) rfl ?_
              refine go_put (h1 := wI h a0 10 (gI h a0 3)) rfl rfl hk_2 ⟨by decide, by decide, Or.inl rfl⟩ rfl ?_
              have hk_12 : gk (wI h a0 10 (gI h a0 3)) a0 = 0 := ck_kI.trans hk_2
              generalize wI h a0 10 (gI h a0 3) = h11 at e hk_12 ⊢
              replace e := ck_then_e e
              refine go_aload_n rfl rfl ?_
              refine go_iconst (v := 0) rfl (by decide) ?_
              refine go_put (h1 := wI h11 a0 9 0) rfl rfl hk_12 ⟨by decide, by decide, Or.inl rfl⟩ rfl ?_
              have hk_14 : gk (wI h11 a0 9 0) a0 = 0 := ck_kI.trans hk_12
              generalize wI h11 a0 9 0 = h13 at e hk_14 ⊢
              replace e := ck_then_e e
              refine go_aload_n rfl rfl ?_
              refine go_dup rfl rfl ?_
              refine go_get (v := .int (gI h13 a0 11)) rfl rfl hk_14 (by decide) rfl ?_
              refine go_iconst (v := 1) rfl (by decide) ?_
              refine go_iadd rfl ?_
              refine go_put (h1 := wI h13 a0 11 ((gI h13 a0 11) + 1)) rfl rfl hk_14 ⟨by decide, by decide, Or.inl rfl⟩ rfl ?_
              have hk_16 : gk (wI h13 a0 11 ((gI h13 a0 11) + 1)) a0 = 0 := ck_kI.trans hk_14
              generalize wI h13 a0 11 ((gI h13 a0 11) + 1) = h15 at e hk_16 ⊢
              replace e := ck_then_e e
              refine go_aload_n rfl rfl ?_
              refine go_dup rfl rfl ?_
              refine go_get (v := .int (gI h15 a0 3)) rfl rfl hk_16 (by decide) rfl ?_
              refine go_iconst (v := 1) rfl (by decide) ?_
              refine go_iadd rfl ?_
              refine go_put (h1 := wI h15 a0 3 ((gI h15 a0 3) + 1)) rfl rfl hk_16 ⟨by decide, by decide, Or.inl rfl⟩ rfl ?_
              have hk_18 : gk (wI h15 a0 3 ((gI h15 a0 3) + 1)) a0 = 0 := ck_kI.trans hk_16
              generalize wI h15 a0 3 ((gI h15 a0 3) + 1) = h17 at e hk_18 ⊢
              replace e := ck_then_e e
              refine go_aload_n rfl rfl ?_
              refine go_aloadN rfl rfl ?_
              cases e
            refine go_aald (v := .ref b10) rfl hc_8 (by rw [hq_9]; rfl) ?_
            refine go_astore rfl rfl ?_
            show Go k_Ch_run 96 [some (.ref a0), none, none, some (.int v3), some (.int v4), some (.ref b10)] [] h _
            refine go_aload_n rfl rfl ?_
            refine go_aload_n rfl rfl ?_
            refine go_get (v := .int (gI h a0 3)) rfl rfl hk_2 (by decide) rfl ?_
            refine go_put (h1 := wI h a0 10 (gI h a0 3)) rfl rfl hk_2 ⟨by decide, by decide, Or.inl rfl⟩ rfl ?_
            have hk_20 : gk (wI h a0 10 (gI h a0 3)) a0 = 0 := ck_kI.trans hk_2
            generalize wI h a0 10 (gI h a0 3) = h19 at e hk_20 ⊢
            replace e := ck_then_e e
            refine go_aload_n rfl rfl ?_
            refine go_iconst (v := 0) rfl (by decide) ?_
            refine go_put (h1 := wI h19 a0 9 0) rfl rfl hk_20 ⟨by decide, by decide, Or.inl rfl⟩ rfl ?_
            have hk_22 : gk (wI h19 a0 9 0) a0 = 0 := ck_kI.trans hk_20
            generalize wI h19 a0 9 0 = h21 at e hk_22 ⊢
            replace e := ck_then_e e
            refine go_aload_n rfl rfl ?_
            refine go_dup rfl rfl ?_
            refine go_get (v := .int (gI h21 a0 11)) rfl rfl hk_22 (by decide) rfl ?_
            refine go_iconst (v := 1) rfl (by decide) ?_
            refine go_iadd rfl ?_
            refine go_put (h1 := wI h21 a0 11 ((gI h21 a0 11) + 1)) rfl rfl hk_22 ⟨by decide, by decide, Or.inl rfl⟩ rfl ?_
            have hk_24 : gk (wI h21 a0 11 ((gI h21 a0 11) + 1)) a0 = 0 := ck_kI.trans hk_22
            generalize wI h21 a0 11 ((gI h21 a0 11) + 1) = h23 at e hk_24 ⊢
            replace e := ck_then_e e
            refine go_aload_n rfl rfl ?_
            refine go_dup rfl rfl ?_
            refine go_get (v := .int (gI h23 a0 3)) rfl rfl hk_24 (by decide) rfl ?_
            refine go_iconst (v := 1) rfl (by decide) ?_
            refine go_iadd rfl ?_
            refine go_put (h1 := wI h23 a0 3 ((gI h23 a0 3) + 1)) rfl rfl hk_24 ⟨by decide, by decide, Or.inl rfl⟩ rfl ?_
            have hk_26 : gk (wI h23 a0 3 ((gI h23 a0 3) + 1)) a0 = 0 := ck_kI.trans hk_24
            generalize wI h23 a0 3 ((gI h23 a0 3) + 1) = h25 at e hk_26 ⊢
            replace e := ck_then_e e
            refine go_aload_n rfl rfl ?_
            refine go_aload rfl rfl ?_
            replace e := ck_bd_e e
            obtain ⟨r27, h28, e29, e⟩ := e
            refine go_callV (As := [.ref b10]) (b0 := a0) (rest := []) rfl rfl ⟨hk_26, by decide⟩ rfl ⟨Nat.le_of_ble_eq_true rfl, Nat.le_of_ble_eq_true rfl, Nat.le_of_ble_eq_true rfl, Nat.le_of_ble_eq_true rfl⟩ (s_Ch_perform e29) ?_
            show Go k_Ch_run 135 [some (.ref a0), none, none, some (.int v3), some (.int v4), some (.ref b10)] [] h28 _
            refine go_aload rfl rfl ?_
            replace e := ck_as_e e
            obtain ⟨hk_30, e⟩ := e
            refine go_get (v := .int (gI h28 b10 0)) rfl rfl hk_30 (by decide) rfl ?_
            replace e := ck_bd_e e
            obtain ⟨r31, h32, e33, e⟩ := e
            refine go_callS (As := [.int (gI h28 b10 0)]) (rest := []) rfl rfl rfl ⟨Nat.le_of_ble_eq_true rfl, Nat.le_of_ble_eq_true rfl, Nat.le_of_ble_eq_true rfl, Nat.le_of_ble_eq_true rfl⟩ (s_Ch_isSearch e33) ?_
            show Go k_Ch_run 143 [some (.ref a0), none, none, some (.int v3), some (.int v4), some (.ref b10)] [.int r31] h32 _
            refine go_if_ne (t := 171) rfl rfl (fun hx_34 => ?_) (fun hx_34 => ?_)
            · rw [if_pos hx_34] at e
              refine go_aload rfl rfl ?_
              replace e := ck_as_e e
              obtain ⟨hk_35, e⟩ := e
              refine go_get (v := .int (gI h32 b10 0)) rfl rfl hk_35 (by decide) rfl ?_
              refine go_bipush (v := 7) rfl (by decide) ?_
              refine go_icmp_eq (t := 171) rfl rfl (fun hx_36 => ?_) (fun hx_36 => ?_)
              · rw [if_pos hx_36] at e
                refine go_iinc (v := 1) rfl rfl (by decide) rfl ?_
                show Go k_Ch_run 174 [some (.ref a0), none, none, some (.int v3), some (.int (v4 + 1)), some (.ref b10)] [] h32 _
                refine go_goto (t := 54) rfl rfl ?_
                refine go_forget (l := [some (.ref a0), none, none, some (.int v3), some (.int (v4 + 1)), none]) ⟨Or.inl rfl, Or.inl rfl, Or.inl rfl, Or.inl rfl, Or.inl rfl, Or.inr ⟨rfl, fun _ q => by cases q; rfl⟩, trivial⟩ ?_
                exact ih _ _ _ _ _ _ e
              · rw [if_neg hx_36] at e
                refine go_aload rfl rfl ?_
                refine go_get (v := .int (gI h32 b10 0)) rfl rfl hk_35 (by decide) rfl ?_
                refine go_bipush (v := 16) rfl (by decide) ?_
                refine go_icmp_eq (t := 171) rfl rfl (fun hx_37 => ?_) (fun hx_37 => ?_)
                · rw [if_pos hx_37] at e
                  refine go_iinc (v := 1) rfl rfl (by decide) rfl ?_
                  show Go k_Ch_run 174 [some (.ref a0), none, none, some (.int v3), some (.int (v4 + 1)), some (.ref b10)] [] h32 _
                  refine go_goto (t := 54) rfl rfl ?_
                  refine go_forget (l := [some (.ref a0), none, none, some (.int v3), some (.int (v4 + 1)), none]) ⟨Or.inl rfl, Or.inl rfl, Or.inl rfl, Or.inl rfl, Or.inl rfl, Or.inr ⟨rfl, fun _ q => by cases q; rfl⟩, trivial⟩ ?_
                  exact ih _ _ _ _ _ _ e
                · rw [if_neg hx_37] at e
                  refine go_aload_n rfl rfl ?_
                  refine go_iconst (v := 0) rfl (by decide) ?_
                  replace e := ck_as_e e
                  obtain ⟨hk_38, e⟩ := e
                  refine go_put (h1 := wI h32 a0 6 0) rfl rfl hk_38 ⟨by decide, by decide, Or.inl rfl⟩ rfl ?_
                  have hk_40 : gk (wI h32 a0 6 0) b10 = 1 := ck_kI.trans hk_35
                  have hk_41 : gk (wI h32 a0 6 0) a0 = 0 := ck_kI.trans hk_38
                  generalize wI h32 a0 6 0 = h39 at e hk_40 hk_41 ⊢
                  replace e := ck_then_e e
                  refine go_iinc (v := 1) rfl rfl (by decide) rfl ?_
                  show Go k_Ch_run 174 [some (.ref a0), none, none, some (.int v3), some (.int (v4 + 1)), some (.ref b10)] [] h39 _
                  refine go_goto (t := 54) rfl rfl ?_
                  refine go_forget (l := [some (.ref a0), none, none, some (.int v3), some (.int (v4 + 1)), none]) ⟨Or.inl rfl, Or.inl rfl, Or.inl rfl, Or.inl rfl, Or.inl rfl, Or.inr ⟨rfl, fun _ q => by cases q; rfl⟩, trivial⟩ ?_
                  exact ih _ _ _ _ _ _ e
            · rw [if_neg hx_34] at e
              refine go_iinc (v := 1) rfl rfl (by decide) rfl ?_
              show Go k_Ch_run 174 [some (.ref a0), none, none, some (.int v3), some (.int (v4 + 1)), some (.ref b10)] [] h32 _
              refine go_goto (t := 54) rfl rfl ?_
              refine go_forget (l := [some (.ref a0), none, none, some (.int v3), some (.int (v4 + 1)), none]) ⟨Or.inl rfl, Or.inl rfl, Or.inl rfl, Or.inl rfl, Or.inl rfl, Or.inr ⟨rfl, fun _ q => by cases q; rfl⟩, trivial⟩ ?_
              exact ih _ _ _ _ _ _ e
          · rw [if_neg hx_5] at e
            refine go_aload_n rfl rfl ?_
            refine go_get (v := .int (gI h a0 8)) rfl rfl hk_2 (by decide) rfl ?_
            cases e
            exact go_ret rfl rfl
        · rw [if_neg hx_4] at e
          refine go_aload_n rfl rfl ?_
          refine go_get (v := .int (gI h a0 8)) rfl rfl hk_2 (by decide) rfl ?_
          cases e
          exact go_ret rfl rfl
    · rw [if_neg hx_1] at e
      refine go_aload_n rfl rfl ?_
      replace e := ck_as_e e
      obtain ⟨hk_42, e⟩ := e
      refine go_get (v := .int (gI h a0 8)) rfl rfl hk_42 (by decide) rfl ?_
      cases e
      exact go_ret rfl rfl
def f_Ch_run (F : Nat) (a0 : Nat) (a1 : Nat) (v2 : Int32) (h : ck_H) : Option (Int32 × ck_H) :=
  ck_as (gk h a0 = 0) <|
  ck_bd (f_Ch_reset F a0 a1 h) fun _ h3 =>
  ck_as (gk h3 a0 = 0) <|
  ck_bd (f_Ch_programLength F a0 h3) fun r6 h7 =>
  ck_as (gk h7 a0 = 0) <|
  ck_bd (f_Ch_passesCheck F a0 r6 h7) fun r10 h11 =>
  if r10 = (0 : Int32) then
    ck_as (gk h11 a0 = 0) <|
    ck_then (wI h11 a0 8 4) fun h15 =>
    some (gI h15 a0 8, h15)
  else
    if v2 = (0 : Int32) then
      f_Ch_run_L54 F F a0 r6 0 h11
    else
      ck_as (gk h11 a0 = 0) <|
      ck_bd (f_Ch_writes F a0 r6 h11) fun r44 h45 =>
      if r44 = (0 : Int32) then
        f_Ch_run_L54 F F a0 r6 0 h45
      else
        ck_as (gk h45 a0 = 0) <|
        ck_then (wI h45 a0 8 8) fun h49 =>
        some (gI h49 a0 8, h49)
set_option maxRecDepth 100000 in
set_option maxHeartbeats 4000000 in
theorem s_Ch_run {F : Nat} {a0 : Nat} {a1 : Nat} {v2 : Int32} {h h' : ck_H} {r : Int32} (e : f_Ch_run F a0 a1 v2 h = some (r, h')) : Go k_Ch_run 0 (ck_in [.ref a0, .ref a1, .int v2] 6) [] h (some (.int r), h') := by
  unfold f_Ch_run at e
  show Go k_Ch_run 0 [some (.ref a0), some (.ref a1), some (.int v2), none, none, none] [] h _
  refine go_aload_n rfl rfl ?_
  refine go_aload_n rfl rfl ?_
  replace e := ck_as_e e
  obtain ⟨hk_1, e⟩ := e
  replace e := ck_bd_e e
  obtain ⟨r2, h3, e4, e⟩ := e
  refine go_callV (As := [.ref a1]) (b0 := a0) (rest := []) rfl rfl ⟨hk_1, by decide⟩ rfl ⟨Nat.le_of_ble_eq_true rfl, Nat.le_of_ble_eq_true rfl, Nat.le_of_ble_eq_true rfl, Nat.le_of_ble_eq_true rfl⟩ (s_Ch_reset e4) ?_
  show Go k_Ch_run 5 [some (.ref a0), some (.ref a1), some (.int v2), none, none, none] [] h3 _
  refine go_aload_n rfl rfl ?_
  replace e := ck_as_e e
  obtain ⟨hk_5, e⟩ := e
  replace e := ck_bd_e e
  obtain ⟨r6, h7, e8, e⟩ := e
  refine go_callV (As := []) (b0 := a0) (rest := []) rfl rfl ⟨hk_5, by decide⟩ rfl ⟨Nat.le_of_ble_eq_true rfl, Nat.le_of_ble_eq_true rfl, Nat.le_of_ble_eq_true rfl, Nat.le_of_ble_eq_true rfl⟩ (s_Ch_programLength e8) ?_
  show Go k_Ch_run 9 [some (.ref a0), some (.ref a1), some (.int v2), none, none, none] [.int r6] h7 _
  refine go_istore_n rfl rfl ?_
  show Go k_Ch_run 10 [some (.ref a0), some (.ref a1), some (.int v2), some (.int r6), none, none] [] h7 _
  refine go_aload_n rfl rfl ?_
  refine go_iload_n rfl rfl ?_
  replace e := ck_as_e e
  obtain ⟨hk_9, e⟩ := e
  replace e := ck_bd_e e
  obtain ⟨r10, h11, e12, e⟩ := e
  refine go_callV (As := [.int r6]) (b0 := a0) (rest := []) rfl rfl ⟨hk_9, by decide⟩ rfl ⟨Nat.le_of_ble_eq_true rfl, Nat.le_of_ble_eq_true rfl, Nat.le_of_ble_eq_true rfl, Nat.le_of_ble_eq_true rfl⟩ (s_Ch_passesCheck e12) ?_
  show Go k_Ch_run 15 [some (.ref a0), some (.ref a1), some (.int v2), some (.int r6), none, none] [.int r10] h11 _
  refine go_if_ne (t := 28) rfl rfl (fun hx_13 => ?_) (fun hx_13 => ?_)
  · rw [if_pos hx_13] at e
    refine go_aload_n rfl rfl ?_
    refine go_iconst (v := 4) rfl (by decide) ?_
    replace e := ck_as_e e
    obtain ⟨hk_14, e⟩ := e
    refine go_put (h1 := wI h11 a0 8 4) rfl rfl hk_14 ⟨by decide, by decide, Or.inl rfl⟩ rfl ?_
    have hk_16 : gk (wI h11 a0 8 4) a0 = 0 := ck_kI.trans hk_14
    generalize wI h11 a0 8 4 = h15 at e hk_16 ⊢
    replace e := ck_then_e e
    refine go_aload_n rfl rfl ?_
    refine go_get (v := .int (gI h15 a0 8)) rfl rfl hk_16 (by decide) rfl ?_
    cases e
    exact go_ret rfl rfl
  · rw [if_neg hx_13] at e
    refine go_iload_n rfl rfl ?_
    refine go_if_eq (t := 51) rfl rfl (fun hx_17 => ?_) (fun hx_17 => ?_)
    · rw [if_pos hx_17] at e
      refine go_iconst (v := 0) rfl (by decide) ?_
      refine go_istore rfl rfl ?_
      show Go k_Ch_run 54 [some (.ref a0), some (.ref a1), some (.int v2), some (.int r6), some (.int 0), none] [] h11 _
      refine go_forget (l := [some (.ref a0), none, none, some (.int r6), some (.int 0), none]) ⟨Or.inl rfl, Or.inr ⟨rfl, fun _ q => by cases q; rfl⟩, Or.inr ⟨rfl, fun _ q => by cases q; rfl⟩, Or.inl rfl, Or.inl rfl, Or.inl rfl, trivial⟩ ?_
      exact f_Ch_run_L54_s F F _ _ _ _ _ _ e
    · rw [if_neg hx_17] at e
      refine go_aload_n rfl rfl ?_
      refine go_iload_n rfl rfl ?_
      replace e := ck_as_e e
      obtain ⟨hk_43, e⟩ := e
      replace e := ck_bd_e e
      obtain ⟨r44, h45, e46, e⟩ := e
      refine go_callV (As := [.int r6]) (b0 := a0) (rest := []) rfl rfl ⟨hk_43, by decide⟩ rfl ⟨Nat.le_of_ble_eq_true rfl, Nat.le_of_ble_eq_true rfl, Nat.le_of_ble_eq_true rfl, Nat.le_of_ble_eq_true rfl⟩ (s_Ch_writes e46) ?_
      show Go k_Ch_run 37 [some (.ref a0), some (.ref a1), some (.int v2), some (.int r6), none, none] [.int r44] h45 _
      refine go_if_eq (t := 51) rfl rfl (fun hx_47 => ?_) (fun hx_47 => ?_)
      · rw [if_pos hx_47] at e
        refine go_iconst (v := 0) rfl (by decide) ?_
        refine go_istore rfl rfl ?_
        show Go k_Ch_run 54 [some (.ref a0), some (.ref a1), some (.int v2), some (.int r6), some (.int 0), none] [] h45 _
        refine go_forget (l := [some (.ref a0), none, none, some (.int r6), some (.int 0), none]) ⟨Or.inl rfl, Or.inr ⟨rfl, fun _ q => by cases q; rfl⟩, Or.inr ⟨rfl, fun _ q => by cases q; rfl⟩, Or.inl rfl, Or.inl rfl, Or.inl rfl, trivial⟩ ?_
        exact f_Ch_run_L54_s F F _ _ _ _ _ _ e
      · rw [if_neg hx_47] at e
        refine go_aload_n rfl rfl ?_
        refine go_bipush (v := 8) rfl (by decide) ?_
        replace e := ck_as_e e
        obtain ⟨hk_48, e⟩ := e
        refine go_put (h1 := wI h45 a0 8 8) rfl rfl hk_48 ⟨by decide, by decide, Or.inl rfl⟩ rfl ?_
        have hk_50 : gk (wI h45 a0 8 8) a0 = 0 := ck_kI.trans hk_48
        generalize wI h45 a0 8 8 = h49 at e hk_50 ⊢
        replace e := ck_then_e e
        refine go_aload_n rfl rfl ?_
        refine go_get (v := .int (gI h49 a0 8)) rfl rfl hk_50 (by decide) rfl ?_
        cases e
        exact go_ret rfl rfl
def f_CS_start (F : Nat) (a0 : Nat) (v1 : Int32) (h : ck_H) : Option (Int32 × ck_H) :=
  ck_as (gk h a0 = 11) <|
  ck_bd (f_CS_unitAt F a0 v1 h) fun r2 h3 =>
  ck_opt r2 (
    some ((-2), h3)
  ) fun b6 =>
  ck_as (gk h3 a0 = 11) <|
  ck_some (gR h3 a0 5) fun b8 =>
  if v1 = (0 : Int32) then
    ck_as (gk h3 b8 = 0) <|
    ck_bd (f_Ch_run F b8 b6 1 h3) fun r12 h13 =>
    some (r12, h13)
  else
    ck_as (gk h3 b8 = 0) <|
    ck_bd (f_Ch_run F b8 b6 0 h3) fun r16 h17 =>
    some (r16, h17)
set_option maxRecDepth 100000 in
set_option maxHeartbeats 4000000 in
theorem s_CS_start {F : Nat} {a0 : Nat} {v1 : Int32} {h h' : ck_H} {r : Int32} (e : f_CS_start F a0 v1 h = some (r, h')) : Go k_CS_start 0 (ck_in [.ref a0, .int v1] 3) [] h (some (.int r), h') := by
  unfold f_CS_start at e
  show Go k_CS_start 0 [some (.ref a0), some (.int v1), none] [] h _
  refine go_aload_n rfl rfl ?_
  refine go_iload_n rfl rfl ?_
  replace e := ck_as_e e
  obtain ⟨hk_1, e⟩ := e
  replace e := ck_bd_e e
  obtain ⟨r2, h3, e4, e⟩ := e
  refine go_callV (As := [.int v1]) (b0 := a0) (rest := []) rfl rfl ⟨hk_1, by decide⟩ rfl ⟨Nat.le_of_ble_eq_true rfl, Nat.le_of_ble_eq_true rfl, Nat.le_of_ble_eq_true rfl, Nat.le_of_ble_eq_true rfl⟩ (s_CS_unitAt e4) ?_
  replace e := ck_opt_e e
  rcases e with ⟨hq_5, e⟩ | ⟨b6, hq_5, e⟩
  · subst hq_5
    show Go k_CS_start 5 [some (.ref a0), some (.int v1), none] [.null] h3 _
    refine go_astore_nN rfl rfl ?_
    show Go k_CS_start 6 [some (.ref a0), some (.int v1), some .null] [] h3 _
    refine go_aload_nN rfl rfl ?_
    refine go_ifnonnullN rfl ?_
    refine go_bipush (v := (-2)) rfl (by decide) ?_
    cases e
    exact go_ret rfl rfl
  subst hq_5
  show Go k_CS_start 5 [some (.ref a0), some (.int v1), none] [.ref b6] h3 _
  refine go_astore_n rfl rfl ?_
  show Go k_CS_start 6 [some (.ref a0), some (.int v1), some (.ref b6)] [] h3 _
  refine go_aload_n rfl rfl ?_
  refine go_ifnonnull (t := 13) rfl rfl ?_
  refine go_aload_n rfl rfl ?_
  replace e := ck_as_e e
  obtain ⟨hk_7, e⟩ := e
  replace e := ck_some_e e
  obtain ⟨b8, hq_9, e⟩ := e
  refine go_get (v := .ref b8) rfl rfl hk_7 (by decide) (by show va_rf (gR h3 a0 5) = _; rw [hq_9]; rfl) ?_
  refine go_aload_n rfl rfl ?_
  refine go_iload_n rfl rfl ?_
  refine go_if_ne (t := 26) rfl rfl (fun hx_10 => ?_) (fun hx_10 => ?_)
  · rw [if_pos hx_10] at e
    refine go_iconst (v := 1) rfl (by decide) ?_
    refine go_goto (t := 27) rfl rfl ?_
    replace e := ck_as_e e
    obtain ⟨hk_11, e⟩ := e
    replace e := ck_bd_e e
    obtain ⟨r12, h13, e14, e⟩ := e
    refine go_callV (As := [.ref b6, .int 1]) (b0 := b8) (rest := []) rfl rfl ⟨hk_11, by decide⟩ rfl ⟨Nat.le_of_ble_eq_true rfl, Nat.le_of_ble_eq_true rfl, Nat.le_of_ble_eq_true rfl, Nat.le_of_ble_eq_true rfl⟩ (s_Ch_run e14) ?_
    show Go k_CS_start 30 [some (.ref a0), some (.int v1), some (.ref b6)] [.int r12] h13 _
    cases e
    exact go_ret rfl rfl
  · rw [if_neg hx_10] at e
    refine go_iconst (v := 0) rfl (by decide) ?_
    replace e := ck_as_e e
    obtain ⟨hk_15, e⟩ := e
    replace e := ck_bd_e e
    obtain ⟨r16, h17, e18, e⟩ := e
    refine go_callV (As := [.ref b6, .int 0]) (b0 := b8) (rest := []) rfl rfl ⟨hk_15, by decide⟩ rfl ⟨Nat.le_of_ble_eq_true rfl, Nat.le_of_ble_eq_true rfl, Nat.le_of_ble_eq_true rfl, Nat.le_of_ble_eq_true rfl⟩ (s_Ch_run e18) ?_
    show Go k_CS_start 30 [some (.ref a0), some (.int v1), some (.ref b6)] [.int r16] h17 _
    cases e
    exact go_ret rfl rfl
