def f_Tr_has (F : Nat) (a0 : Nat) (v1 : Int32) (h : ck_H) : Option (Int32 × ck_H) :=
  if v1 < (0 : Int32) then
    some (0, h)
  else
    ck_as (gk h a0 = 8) <|
    if v1 < (gI h a0 2) then
      some (1, h)
    else
      some (0, h)
set_option maxRecDepth 100000 in
set_option maxHeartbeats 4000000 in
theorem s_Tr_has {F : Nat} {a0 : Nat} {v1 : Int32} {h h' : ck_H} {r : Int32} (e : f_Tr_has F a0 v1 h = some (r, h')) : Go k_Tr_has 0 (ck_in [.ref a0, .int v1] 2) [] h (some (.int r), h') := by
  unfold f_Tr_has at e
  show Go k_Tr_has 0 [some (.ref a0), some (.int v1)] [] h _
  refine go_iload_n rfl rfl ?_
  refine go_if_lt (t := 16) rfl rfl (fun hx_1 => ?_) (fun hx_1 => ?_)
  · rw [if_pos hx_1] at e
    refine go_iconst (v := 0) rfl (by decide) ?_
    cases e
    exact go_ret rfl (ck_rvb rfl (Or.inl rfl))
  · rw [if_neg hx_1] at e
    refine go_iload_n rfl rfl ?_
    refine go_aload_n rfl rfl ?_
    replace e := ck_as_e e
    obtain ⟨hk_2, e⟩ := e
    refine go_get (v := .int (gI h a0 2)) rfl rfl hk_2 (by decide) rfl ?_
    refine go_icmp_ge (t := 16) rfl rfl (fun hx_3 => ?_) (fun hx_3 => ?_)
    · rw [if_pos hx_3] at e
      refine go_iconst (v := 1) rfl (by decide) ?_
      refine go_goto (t := 17) rfl rfl ?_
      cases e
      exact go_ret rfl (ck_rvb rfl (Or.inr rfl))
    · rw [if_neg hx_3] at e
      refine go_iconst (v := 0) rfl (by decide) ?_
      cases e
      exact go_ret rfl (ck_rvb rfl (Or.inl rfl))
def f_Tr_countByte (F : Nat) (a0 : Nat) (v1 : Int32) (v2 : Int32) (h : ck_H) : Option (Int32 × ck_H) :=
  ck_as (gk h a0 = 8) <|
  ck_opt (gR h a0 0) (
    some (0, h)
  ) fun b3 =>
  ck_bd (f_Tr_has F a0 v1 h) fun r4 h5 =>
  if r4 = (0 : Int32) then
    some (0, h5)
  else
    if v2 < (0 : Int32) then
      some (0, h5)
    else
      if v2 < (6 : Int32) then
        ck_as (gk h5 a0 = 8) <|
        ck_some (gR h5 a0 0) fun b11 =>
        ck_some (gR h5 a0 1) fun b13 =>
        ck_as ((gk h5 b13 = 14 ∨ gk h5 b13 = 21) ∧ ¬ v1 < 0 ∧ (v1 : Int32).toNatClampNeg < gz h5 b13) <|
        ck_as ((gk h5 b11 = 13 ∨ gk h5 b11 = 15) ∧ ¬ ((gI h5 b13 (v1 : Int32).toNatClampNeg) + v2) < 0 ∧ ((gI h5 b13 (v1 : Int32).toNatClampNeg) + v2 : Int32).toNatClampNeg < gz h5 b11) <|
        some ((gI h5 b11 ((gI h5 b13 (v1 : Int32).toNatClampNeg) + v2 : Int32).toNatClampNeg) &&& 255, h5)
      else
        some (0, h5)
set_option maxRecDepth 100000 in
set_option maxHeartbeats 4000000 in
theorem s_Tr_countByte {F : Nat} {a0 : Nat} {v1 : Int32} {v2 : Int32} {h h' : ck_H} {r : Int32} (e : f_Tr_countByte F a0 v1 v2 h = some (r, h')) : Go k_Tr_countByte 0 (ck_in [.ref a0, .int v1, .int v2] 3) [] h (some (.int r), h') := by
  unfold f_Tr_countByte at e
  show Go k_Tr_countByte 0 [some (.ref a0), some (.int v1), some (.int v2)] [] h _
  refine go_aload_n rfl rfl ?_
  replace e := ck_as_e e
  obtain ⟨hk_1, e⟩ := e
  replace e := ck_opt_e e
  rcases e with ⟨hq_2, e⟩ | ⟨b3, hq_2, e⟩
  · refine go_get (v := .null) rfl rfl hk_1 (by decide) (by show va_rf (gR h a0 0) = _; rw [hq_2]; rfl) ?_
    refine go_ifnullN (t := 25) rfl rfl ?_
    refine go_iconst (v := 0) rfl (by decide) ?_
    cases e
    exact go_ret rfl rfl
  refine go_get (v := .ref b3) rfl rfl hk_1 (by decide) (by show va_rf (gR h a0 0) = _; rw [hq_2]; rfl) ?_
  refine go_ifnull rfl ?_
  refine go_aload_n rfl rfl ?_
  refine go_iload_n rfl rfl ?_
  replace e := ck_bd_e e
  obtain ⟨r4, h5, e6, e⟩ := e
  refine go_callV (As := [.int v1]) (b0 := a0) (rest := []) rfl rfl ⟨hk_1, by decide⟩ rfl ⟨Nat.le_of_ble_eq_true rfl, Nat.le_of_ble_eq_true rfl, Nat.le_of_ble_eq_true rfl, Nat.le_of_ble_eq_true rfl⟩ (s_Tr_has e6) ?_
  show Go k_Tr_countByte 12 [some (.ref a0), some (.int v1), some (.int v2)] [.int r4] h5 _
  refine go_if_eq (t := 25) rfl rfl (fun hx_7 => ?_) (fun hx_7 => ?_)
  · rw [if_pos hx_7] at e
    refine go_iconst (v := 0) rfl (by decide) ?_
    cases e
    exact go_ret rfl rfl
  · rw [if_neg hx_7] at e
    refine go_iload_n rfl rfl ?_
    refine go_if_lt (t := 25) rfl rfl (fun hx_8 => ?_) (fun hx_8 => ?_)
    · rw [if_pos hx_8] at e
      refine go_iconst (v := 0) rfl (by decide) ?_
      cases e
      exact go_ret rfl rfl
    · rw [if_neg hx_8] at e
      refine go_iload_n rfl rfl ?_
      refine go_bipush (v := 6) rfl (by decide) ?_
      refine go_icmp_lt (t := 27) rfl rfl (fun hx_9 => ?_) (fun hx_9 => ?_)
      · rw [if_pos hx_9] at e
        refine go_aload_n rfl rfl ?_
        replace e := ck_as_e e
        obtain ⟨hk_10, e⟩ := e
        replace e := ck_some_e e
        obtain ⟨b11, hq_12, e⟩ := e
        refine go_get (v := .ref b11) rfl rfl hk_10 (by decide) (by show va_rf (gR h5 a0 0) = _; rw [hq_12]; rfl) ?_
        refine go_aload_n rfl rfl ?_
        replace e := ck_some_e e
        obtain ⟨b13, hq_14, e⟩ := e
        refine go_get (v := .ref b13) rfl rfl hk_10 (by decide) (by show va_rf (gR h5 a0 1) = _; rw [hq_14]; rfl) ?_
        refine go_iload_n rfl rfl ?_
        replace e := ck_as_e e
        obtain ⟨hc_15, e⟩ := e
        refine go_iald rfl hc_15 ?_
        refine go_iload_n rfl rfl ?_
        refine go_iadd rfl ?_
        replace e := ck_as_e e
        obtain ⟨hc_16, e⟩ := e
        refine go_bald rfl hc_16 ?_
        refine go_sipush (v := 255) rfl (by decide) ?_
        refine go_iand rfl ?_
        cases e
        exact go_ret rfl rfl
      · rw [if_neg hx_9] at e
        refine go_iconst (v := 0) rfl (by decide) ?_
        cases e
        exact go_ret rfl rfl
def f_Ch_searchId_L33 (F : Nat)  : Nat → Nat → Nat → Int32 → Int32 → Int32 → ck_H → Option (Unit × ck_H)
  | 0, _, _, _, _, _, _ => none
  | n + 1, a0, a1, v2, v3, v4, h =>
    if v4 < (3 : Int32) then
      if v3 = (0 : Int32) then
        f_Ch_searchId_L33 F n a0 a1 v2 0 (v4 + 1) h
      else
        ck_as (gk h a0 = 0) <|
        ck_bd (f_Ch_track F a0 h) fun r4 h5 =>
        ck_some r4 fun b7 =>
        ck_as (gk h5 b7 = 8) <|
        ck_bd (f_Tr_countByte F b7 v2 v4 h5) fun r10 h11 =>
        ck_as (gk h11 a1 = 1) <|
        ck_as (gk h11 a0 = 0) <|
        ck_bd (f_Ch_byteAt F a0 ((gI h11 a1 1) + v4) h11) fun r15 h16 =>
        if r10 = r15 then
          f_Ch_searchId_L33 F n a0 a1 v2 1 (v4 + 1) h16
        else
          f_Ch_searchId_L33 F n a0 a1 v2 0 (v4 + 1) h16
    else
      ck_as (gk h a0 = 0) <|
      ck_bd (f_Ch_skipIf F a0 v3 h) fun _ h21 =>
      some ((), h21)
set_option maxRecDepth 100000 in
set_option maxHeartbeats 4000000 in
theorem f_Ch_searchId_L33_s (F : Nat)   : ∀ (n : Nat) (a0 : Nat) (a1 : Nat) (v2 : Int32) (v3 : Int32) (v4 : Int32) (h : ck_H) (r : Unit) (h' : ck_H), f_Ch_searchId_L33 F n a0 a1 v2 v3 v4 h = some (r, h') → Go k_Ch_searchId 33 [some (.ref a0), some (.ref a1), some (.int v2), some (.int v3), some (.int v4)] [] h (none, h') := by
  intro n
  induction n with
  | zero => intro a0 a1 v2 v3 v4 h r h' e; simp only [f_Ch_searchId_L33] at e; cases e
  | succ n ih =>
    intro a0 a1 v2 v3 v4 h r h' e
    rw [f_Ch_searchId_L33] at e
    refine go_iload rfl rfl ?_
    refine go_iconst (v := 3) rfl (by decide) ?_
    refine go_icmp_ge (t := 79) rfl rfl (fun hx_1 => ?_) (fun hx_1 => ?_)
    · rw [if_pos hx_1] at e
      refine go_iload_n rfl rfl ?_
      refine go_if_eq (t := 71) rfl rfl (fun hx_2 => ?_) (fun hx_2 => ?_)
      · rw [if_pos hx_2] at e
        refine go_iconst (v := 0) rfl (by decide) ?_
        refine go_istore_n rfl rfl ?_
        show Go k_Ch_searchId 73 [some (.ref a0), some (.ref a1), some (.int v2), some (.int 0), some (.int v4)] [] h _
        refine go_iinc (v := 1) rfl rfl (by decide) rfl ?_
        show Go k_Ch_searchId 76 [some (.ref a0), some (.ref a1), some (.int v2), some (.int 0), some (.int (v4 + 1))] [] h _
        refine go_goto (t := 33) rfl rfl ?_
        refine go_forget (l := [some (.ref a0), some (.ref a1), some (.int v2), some (.int 0), some (.int (v4 + 1))]) ⟨Or.inl rfl, Or.inl rfl, Or.inl rfl, Or.inl rfl, Or.inl rfl, trivial⟩ ?_
        exact ih _ _ _ _ _ _ _ _ e
      · rw [if_neg hx_2] at e
        refine go_aload_n rfl rfl ?_
        replace e := ck_as_e e
        obtain ⟨hk_3, e⟩ := e
        replace e := ck_bd_e e
        obtain ⟨r4, h5, e6, e⟩ := e
        refine go_callV (As := []) (b0 := a0) (rest := []) rfl rfl ⟨hk_3, by decide⟩ rfl ⟨Nat.le_of_ble_eq_true rfl, Nat.le_of_ble_eq_true rfl, Nat.le_of_ble_eq_true rfl, Nat.le_of_ble_eq_true rfl⟩ (s_Ch_track e6) ?_
        replace e := ck_some_e e
        obtain ⟨b7, hq_8, e⟩ := e
        subst hq_8
        show Go k_Ch_searchId 47 [some (.ref a0), some (.ref a1), some (.int v2), some (.int v3), some (.int v4)] [.ref b7] h5 _
        refine go_iload_n rfl rfl ?_
        refine go_iload rfl rfl ?_
        replace e := ck_as_e e
        obtain ⟨hk_9, e⟩ := e
        replace e := ck_bd_e e
        obtain ⟨r10, h11, e12, e⟩ := e
        refine go_callV (As := [.int v2, .int v4]) (b0 := b7) (rest := []) rfl rfl ⟨hk_9, by decide⟩ rfl ⟨Nat.le_of_ble_eq_true rfl, Nat.le_of_ble_eq_true rfl, Nat.le_of_ble_eq_true rfl, Nat.le_of_ble_eq_true rfl⟩ (s_Tr_countByte e12) ?_
        show Go k_Ch_searchId 53 [some (.ref a0), some (.ref a1), some (.int v2), some (.int v3), some (.int v4)] [.int r10] h11 _
        refine go_aload_n rfl rfl ?_
        refine go_aload_n rfl rfl ?_
        replace e := ck_as_e e
        obtain ⟨hk_13, e⟩ := e
        refine go_get (v := .int (gI h11 a1 1)) rfl rfl hk_13 (by decide) rfl ?_
        refine go_iload rfl rfl ?_
        refine go_iadd rfl ?_
        replace e := ck_as_e e
        obtain ⟨hk_14, e⟩ := e
        replace e := ck_bd_e e
        obtain ⟨r15, h16, e17, e⟩ := e
        refine go_callV (As := [.int ((gI h11 a1 1) + v4)]) (b0 := a0) (rest := [.int r10]) rfl rfl ⟨hk_14, by decide⟩ rfl ⟨Nat.le_of_ble_eq_true rfl, Nat.le_of_ble_eq_true rfl, Nat.le_of_ble_eq_true rfl, Nat.le_of_ble_eq_true rfl⟩ (s_Ch_byteAt e17) ?_
        show Go k_Ch_searchId 64 [some (.ref a0), some (.ref a1), some (.int v2), some (.int v3), some (.int v4)] [.int r15, .int r10] h16 _
        refine go_icmp_ne (t := 71) rfl rfl (fun hx_18 => ?_) (fun hx_18 => ?_)
        · rw [if_pos hx_18] at e
          refine go_iconst (v := 1) rfl (by decide) ?_
          refine go_goto (t := 72) rfl rfl ?_
          refine go_istore_n rfl rfl ?_
          show Go k_Ch_searchId 73 [some (.ref a0), some (.ref a1), some (.int v2), some (.int 1), some (.int v4)] [] h16 _
          refine go_iinc (v := 1) rfl rfl (by decide) rfl ?_
          show Go k_Ch_searchId 76 [some (.ref a0), some (.ref a1), some (.int v2), some (.int 1), some (.int (v4 + 1))] [] h16 _
          refine go_goto (t := 33) rfl rfl ?_
          refine go_forget (l := [some (.ref a0), some (.ref a1), some (.int v2), some (.int 1), some (.int (v4 + 1))]) ⟨Or.inl rfl, Or.inl rfl, Or.inl rfl, Or.inl rfl, Or.inl rfl, trivial⟩ ?_
          exact ih _ _ _ _ _ _ _ _ e
        · rw [if_neg hx_18] at e
          refine go_iconst (v := 0) rfl (by decide) ?_
          refine go_istore_n rfl rfl ?_
          show Go k_Ch_searchId 73 [some (.ref a0), some (.ref a1), some (.int v2), some (.int 0), some (.int v4)] [] h16 _
          refine go_iinc (v := 1) rfl rfl (by decide) rfl ?_
          show Go k_Ch_searchId 76 [some (.ref a0), some (.ref a1), some (.int v2), some (.int 0), some (.int (v4 + 1))] [] h16 _
          refine go_goto (t := 33) rfl rfl ?_
          refine go_forget (l := [some (.ref a0), some (.ref a1), some (.int v2), some (.int 0), some (.int (v4 + 1))]) ⟨Or.inl rfl, Or.inl rfl, Or.inl rfl, Or.inl rfl, Or.inl rfl, trivial⟩ ?_
          exact ih _ _ _ _ _ _ _ _ e
    · rw [if_neg hx_1] at e
      refine go_aload_n rfl rfl ?_
      refine go_iload_n rfl rfl ?_
      replace e := ck_as_e e
      obtain ⟨hk_19, e⟩ := e
      replace e := ck_bd_e e
      obtain ⟨r20, h21, e22, e⟩ := e
      refine go_callV (As := [.int v3]) (b0 := a0) (rest := []) rfl rfl ⟨hk_19, by decide⟩ rfl ⟨Nat.le_of_ble_eq_true rfl, Nat.le_of_ble_eq_true rfl, Nat.le_of_ble_eq_true rfl, Nat.le_of_ble_eq_true rfl⟩ (s_Ch_skipIf e22) ?_
      show Go k_Ch_searchId 84 [some (.ref a0), some (.ref a1), some (.int v2), some (.int v3), some (.int v4)] [] h21 _
      cases e
      exact go_ret rfl rfl
def f_Ch_searchId (F : Nat) (a0 : Nat) (a1 : Nat) (h : ck_H) : Option (Unit × ck_H) :=
  ck_as (gk h a0 = 0) <|
  ck_bd (f_Ch_nextRecord F a0 h) fun r2 h3 =>
  if r2 < (0 : Int32) then
    some ((), h3)
  else
    ck_as (gk h3 a0 = 0) <|
    ck_then (wJ h3 a0 7 ((gJ h3 a0 7) + 10)) fun h7 =>
    ck_bd (f_Ch_setPoint F a0 2 r2 h7) fun _ h10 =>
    f_Ch_searchId_L33 F F a0 a1 r2 1 0 h10
set_option maxRecDepth 100000 in
set_option maxHeartbeats 4000000 in
theorem s_Ch_searchId {F : Nat} {a0 : Nat} {a1 : Nat} {h h' : ck_H} {r : Unit} (e : f_Ch_searchId F a0 a1 h = some (r, h')) : Go k_Ch_searchId 0 (ck_in [.ref a0, .ref a1] 5) [] h (none, h') := by
  unfold f_Ch_searchId at e
  show Go k_Ch_searchId 0 [some (.ref a0), some (.ref a1), none, none, none] [] h _
  refine go_aload_n rfl rfl ?_
  replace e := ck_as_e e
  obtain ⟨hk_1, e⟩ := e
  replace e := ck_bd_e e
  obtain ⟨r2, h3, e4, e⟩ := e
  refine go_callV (As := []) (b0 := a0) (rest := []) rfl rfl ⟨hk_1, by decide⟩ rfl ⟨Nat.le_of_ble_eq_true rfl, Nat.le_of_ble_eq_true rfl, Nat.le_of_ble_eq_true rfl, Nat.le_of_ble_eq_true rfl⟩ (s_Ch_nextRecord e4) ?_
  show Go k_Ch_searchId 4 [some (.ref a0), some (.ref a1), none, none, none] [.int r2] h3 _
  refine go_istore_n rfl rfl ?_
  show Go k_Ch_searchId 5 [some (.ref a0), some (.ref a1), some (.int r2), none, none] [] h3 _
  refine go_iload_n rfl rfl ?_
  refine go_if_ge (t := 10) rfl rfl (fun hx_5 => ?_) (fun hx_5 => ?_)
  · rw [if_pos hx_5] at e
    cases e
    exact go_ret rfl rfl
  · rw [if_neg hx_5] at e
    refine go_aload_n rfl rfl ?_
    refine go_dup rfl rfl ?_
    replace e := ck_as_e e
    obtain ⟨hk_6, e⟩ := e
    refine go_get (v := .long (gJ h3 a0 7)) rfl rfl hk_6 (by decide) rfl ?_
    refine go_ldc2 (v := 10) rfl rfl ?_
    refine go_ladd rfl ?_
    refine go_put (h1 := wJ h3 a0 7 ((gJ h3 a0 7) + 10)) rfl rfl hk_6 ⟨by decide, by decide, Or.inl rfl⟩ rfl ?_
    have hk_8 : gk (wJ h3 a0 7 ((gJ h3 a0 7) + 10)) a0 = 0 := ck_kJ.trans hk_6
    generalize wJ h3 a0 7 ((gJ h3 a0 7) + 10) = h7 at e hk_8 ⊢
    replace e := ck_then_e e
    refine go_aload_n rfl rfl ?_
    refine go_iconst (v := 2) rfl (by decide) ?_
    refine go_iload_n rfl rfl ?_
    replace e := ck_bd_e e
    obtain ⟨r9, h10, e11, e⟩ := e
    refine go_callV (As := [.int 2, .int r2]) (b0 := a0) (rest := []) rfl rfl ⟨hk_8, by decide⟩ rfl ⟨Nat.le_of_ble_eq_true rfl, Nat.le_of_ble_eq_true rfl, Nat.le_of_ble_eq_true rfl, Nat.le_of_ble_eq_true rfl⟩ (s_Ch_setPoint e11) ?_
    show Go k_Ch_searchId 28 [some (.ref a0), some (.ref a1), some (.int r2), none, none] [] h10 _
    refine go_iconst (v := 1) rfl (by decide) ?_
    refine go_istore_n rfl rfl ?_
    show Go k_Ch_searchId 30 [some (.ref a0), some (.ref a1), some (.int r2), some (.int 1), none] [] h10 _
    refine go_iconst (v := 0) rfl (by decide) ?_
    refine go_istore rfl rfl ?_
    show Go k_Ch_searchId 33 [some (.ref a0), some (.ref a1), some (.int r2), some (.int 1), some (.int 0)] [] h10 _
    refine go_forget (l := [some (.ref a0), some (.ref a1), some (.int r2), some (.int 1), some (.int 0)]) ⟨Or.inl rfl, Or.inl rfl, Or.inl rfl, Or.inl rfl, Or.inl rfl, trivial⟩ ?_
    exact f_Ch_searchId_L33_s F F _ _ _ _ _ _ _ _ e
def f_Ch_countPassed (F : Nat) (a0 : Nat) (h : ck_H) : Option (Int32 × ck_H) :=
  ck_as (gk h a0 = 0) <|
  if (gI h a0 4) = (2 : Int32) then
    some (gI h a0 5, h)
  else
    ck_bd (f_Ch_nextRecord F a0 h) fun r3 h4 =>
    if r3 < (0 : Int32) then
      some (r3, h4)
    else
      ck_as (gk h4 a0 = 0) <|
      ck_then (wJ h4 a0 7 ((gJ h4 a0 7) + 10)) fun h8 =>
      some (r3, h8)
set_option maxRecDepth 100000 in
set_option maxHeartbeats 4000000 in
theorem s_Ch_countPassed {F : Nat} {a0 : Nat} {h h' : ck_H} {r : Int32} (e : f_Ch_countPassed F a0 h = some (r, h')) : Go k_Ch_countPassed 0 (ck_in [.ref a0] 2) [] h (some (.int r), h') := by
  unfold f_Ch_countPassed at e
  show Go k_Ch_countPassed 0 [some (.ref a0), none] [] h _
  refine go_aload_n rfl rfl ?_
  replace e := ck_as_e e
  obtain ⟨hk_1, e⟩ := e
  refine go_get (v := .int (gI h a0 4)) rfl rfl hk_1 (by decide) rfl ?_
  refine go_iconst (v := 2) rfl (by decide) ?_
  refine go_icmp_ne (t := 13) rfl rfl (fun hx_2 => ?_) (fun hx_2 => ?_)
  · rw [if_pos hx_2] at e
    refine go_aload_n rfl rfl ?_
    refine go_get (v := .int (gI h a0 5)) rfl rfl hk_1 (by decide) rfl ?_
    cases e
    exact go_ret rfl rfl
  · rw [if_neg hx_2] at e
    refine go_aload_n rfl rfl ?_
    replace e := ck_bd_e e
    obtain ⟨r3, h4, e5, e⟩ := e
    refine go_callV (As := []) (b0 := a0) (rest := []) rfl rfl ⟨hk_1, by decide⟩ rfl ⟨Nat.le_of_ble_eq_true rfl, Nat.le_of_ble_eq_true rfl, Nat.le_of_ble_eq_true rfl, Nat.le_of_ble_eq_true rfl⟩ (s_Ch_nextRecord e5) ?_
    show Go k_Ch_countPassed 17 [some (.ref a0), none] [.int r3] h4 _
    refine go_istore_n rfl rfl ?_
    show Go k_Ch_countPassed 18 [some (.ref a0), some (.int r3)] [] h4 _
    refine go_iload_n rfl rfl ?_
    refine go_if_lt (t := 34) rfl rfl (fun hx_6 => ?_) (fun hx_6 => ?_)
    · rw [if_pos hx_6] at e
      refine go_iload_n rfl rfl ?_
      cases e
      exact go_ret rfl rfl
    · rw [if_neg hx_6] at e
      refine go_aload_n rfl rfl ?_
      refine go_dup rfl rfl ?_
      replace e := ck_as_e e
      obtain ⟨hk_7, e⟩ := e
      refine go_get (v := .long (gJ h4 a0 7)) rfl rfl hk_7 (by decide) rfl ?_
      refine go_ldc2 (v := 10) rfl rfl ?_
      refine go_ladd rfl ?_
      refine go_put (h1 := wJ h4 a0 7 ((gJ h4 a0 7) + 10)) rfl rfl hk_7 ⟨by decide, by decide, Or.inl rfl⟩ rfl ?_
      have hk_9 : gk (wJ h4 a0 7 ((gJ h4 a0 7) + 10)) a0 = 0 := ck_kJ.trans hk_7
      generalize wJ h4 a0 7 ((gJ h4 a0 7) + 10) = h8 at e hk_9 ⊢
      replace e := ck_then_e e
      refine go_iload_n rfl rfl ?_
      cases e
      exact go_ret rfl rfl
def f_Tr_keyLength (F : Nat) (a0 : Nat) (v1 : Int32) (h : ck_H) : Option (Int32 × ck_H) :=
  ck_as (gk h a0 = 8) <|
  ck_bd (f_Tr_countByte F a0 v1 3 h) fun r2 h3 =>
  some (r2, h3)
set_option maxRecDepth 100000 in
set_option maxHeartbeats 4000000 in
theorem s_Tr_keyLength {F : Nat} {a0 : Nat} {v1 : Int32} {h h' : ck_H} {r : Int32} (e : f_Tr_keyLength F a0 v1 h = some (r, h')) : Go k_Tr_keyLength 0 (ck_in [.ref a0, .int v1] 2) [] h (some (.int r), h') := by
  unfold f_Tr_keyLength at e
  show Go k_Tr_keyLength 0 [some (.ref a0), some (.int v1)] [] h _
  refine go_aload_n rfl rfl ?_
  refine go_iload_n rfl rfl ?_
  refine go_iconst (v := 3) rfl (by decide) ?_
  replace e := ck_as_e e
  obtain ⟨hk_1, e⟩ := e
  replace e := ck_bd_e e
  obtain ⟨r2, h3, e4, e⟩ := e
  refine go_callV (As := [.int v1, .int 3]) (b0 := a0) (rest := []) rfl rfl ⟨hk_1, by decide⟩ rfl ⟨Nat.le_of_ble_eq_true rfl, Nat.le_of_ble_eq_true rfl, Nat.le_of_ble_eq_true rfl, Nat.le_of_ble_eq_true rfl⟩ (s_Tr_countByte e4) ?_
  show Go k_Tr_keyLength 6 [some (.ref a0), some (.int v1)] [.int r2] h3 _
  cases e
  exact go_ret rfl rfl
def f_Tr_byteOf (F : Nat) (a0 : Nat) (v1 : Int32) (v2 : Int32) (h : ck_H) : Option (Int32 × ck_H) :=
  ck_as (gk h a0 = 8) <|
  ck_opt (gR h a0 0) (
    some (0, h)
  ) fun b3 =>
  ck_bd (f_Tr_has F a0 v1 h) fun r4 h5 =>
  if r4 = (0 : Int32) then
    some (0, h5)
  else
    if v2 < (0 : Int32) then
      some (0, h5)
    else
      ck_as (gk h5 a0 = 8) <|
      ck_some (gR h5 a0 1) fun b10 =>
      ck_as ((gk h5 b10 = 14 ∨ gk h5 b10 = 21) ∧ ¬ (v1 + 1) < 0 ∧ (v1 + 1 : Int32).toNatClampNeg < gz h5 b10) <|
      ck_some (gR h5 a0 1) fun b13 =>
      ck_as ((gk h5 b13 = 14 ∨ gk h5 b13 = 21) ∧ ¬ v1 < 0 ∧ (v1 : Int32).toNatClampNeg < gz h5 b13) <|
      if v2 < (((gI h5 b10 (v1 + 1 : Int32).toNatClampNeg) - (gI h5 b13 (v1 : Int32).toNatClampNeg)) - 30) then
        ck_some (gR h5 a0 0) fun b17 =>
        ck_some (gR h5 a0 1) fun b19 =>
        ck_as ((gk h5 b19 = 14 ∨ gk h5 b19 = 21) ∧ ¬ v1 < 0 ∧ (v1 : Int32).toNatClampNeg < gz h5 b19) <|
        ck_as ((gk h5 b17 = 13 ∨ gk h5 b17 = 15) ∧ ¬ (((gI h5 b19 (v1 : Int32).toNatClampNeg) + 30) + v2) < 0 ∧ (((gI h5 b19 (v1 : Int32).toNatClampNeg) + 30) + v2 : Int32).toNatClampNeg < gz h5 b17) <|
        some ((gI h5 b17 (((gI h5 b19 (v1 : Int32).toNatClampNeg) + 30) + v2 : Int32).toNatClampNeg) &&& 255, h5)
      else
        some (0, h5)
set_option maxRecDepth 100000 in
set_option maxHeartbeats 4000000 in
theorem s_Tr_byteOf {F : Nat} {a0 : Nat} {v1 : Int32} {v2 : Int32} {h h' : ck_H} {r : Int32} (e : f_Tr_byteOf F a0 v1 v2 h = some (r, h')) : Go k_Tr_byteOf 0 (ck_in [.ref a0, .int v1, .int v2] 3) [] h (some (.int r), h') := by
  unfold f_Tr_byteOf at e
  show Go k_Tr_byteOf 0 [some (.ref a0), some (.int v1), some (.int v2)] [] h _
  refine go_aload_n rfl rfl ?_
  replace e := ck_as_e e
  obtain ⟨hk_1, e⟩ := e
  replace e := ck_opt_e e
  rcases e with ⟨hq_2, e⟩ | ⟨b3, hq_2, e⟩
  · refine go_get (v := .null) rfl rfl hk_1 (by decide) (by show va_rf (gR h a0 0) = _; rw [hq_2]; rfl) ?_
    refine go_ifnullN (t := 41) rfl rfl ?_
    refine go_iconst (v := 0) rfl (by decide) ?_
    cases e
    exact go_ret rfl rfl
  refine go_get (v := .ref b3) rfl rfl hk_1 (by decide) (by show va_rf (gR h a0 0) = _; rw [hq_2]; rfl) ?_
  refine go_ifnull rfl ?_
  refine go_aload_n rfl rfl ?_
  refine go_iload_n rfl rfl ?_
  replace e := ck_bd_e e
  obtain ⟨r4, h5, e6, e⟩ := e
  refine go_callV (As := [.int v1]) (b0 := a0) (rest := []) rfl rfl ⟨hk_1, by decide⟩ rfl ⟨Nat.le_of_ble_eq_true rfl, Nat.le_of_ble_eq_true rfl, Nat.le_of_ble_eq_true rfl, Nat.le_of_ble_eq_true rfl⟩ (s_Tr_has e6) ?_
  show Go k_Tr_byteOf 12 [some (.ref a0), some (.int v1), some (.int v2)] [.int r4] h5 _
  refine go_if_eq (t := 41) rfl rfl (fun hx_7 => ?_) (fun hx_7 => ?_)
  · rw [if_pos hx_7] at e
    refine go_iconst (v := 0) rfl (by decide) ?_
    cases e
    exact go_ret rfl rfl
  · rw [if_neg hx_7] at e
    refine go_iload_n rfl rfl ?_
    refine go_if_lt (t := 41) rfl rfl (fun hx_8 => ?_) (fun hx_8 => ?_)
    · rw [if_pos hx_8] at e
      refine go_iconst (v := 0) rfl (by decide) ?_
      cases e
      exact go_ret rfl rfl
    · rw [if_neg hx_8] at e
      refine go_iload_n rfl rfl ?_
      refine go_aload_n rfl rfl ?_
      replace e := ck_as_e e
      obtain ⟨hk_9, e⟩ := e
      replace e := ck_some_e e
      obtain ⟨b10, hq_11, e⟩ := e
      refine go_get (v := .ref b10) rfl rfl hk_9 (by decide) (by show va_rf (gR h5 a0 1) = _; rw [hq_11]; rfl) ?_
      refine go_iload_n rfl rfl ?_
      refine go_iconst (v := 1) rfl (by decide) ?_
      refine go_iadd rfl ?_
      replace e := ck_as_e e
      obtain ⟨hc_12, e⟩ := e
      refine go_iald rfl hc_12 ?_
      refine go_aload_n rfl rfl ?_
      replace e := ck_some_e e
      obtain ⟨b13, hq_14, e⟩ := e
      refine go_get (v := .ref b13) rfl rfl hk_9 (by decide) (by show va_rf (gR h5 a0 1) = _; rw [hq_14]; rfl) ?_
      refine go_iload_n rfl rfl ?_
      replace e := ck_as_e e
      obtain ⟨hc_15, e⟩ := e
      refine go_iald rfl hc_15 ?_
      refine go_isub rfl ?_
      refine go_bipush (v := 30) rfl (by decide) ?_
      refine go_isub rfl ?_
      refine go_icmp_lt (t := 43) rfl rfl (fun hx_16 => ?_) (fun hx_16 => ?_)
      · rw [if_pos hx_16] at e
        refine go_aload_n rfl rfl ?_
        replace e := ck_some_e e
        obtain ⟨b17, hq_18, e⟩ := e
        refine go_get (v := .ref b17) rfl rfl hk_9 (by decide) (by show va_rf (gR h5 a0 0) = _; rw [hq_18]; rfl) ?_
        refine go_aload_n rfl rfl ?_
        replace e := ck_some_e e
        obtain ⟨b19, hq_20, e⟩ := e
        refine go_get (v := .ref b19) rfl rfl hk_9 (by decide) (by show va_rf (gR h5 a0 1) = _; rw [hq_20]; rfl) ?_
        refine go_iload_n rfl rfl ?_
        replace e := ck_as_e e
        obtain ⟨hc_21, e⟩ := e
        refine go_iald rfl hc_21 ?_
        refine go_bipush (v := 30) rfl (by decide) ?_
        refine go_iadd rfl ?_
        refine go_iload_n rfl rfl ?_
        refine go_iadd rfl ?_
        replace e := ck_as_e e
        obtain ⟨hc_22, e⟩ := e
        refine go_bald rfl hc_22 ?_
        refine go_sipush (v := 255) rfl (by decide) ?_
        refine go_iand rfl ?_
        cases e
        exact go_ret rfl rfl
      · rw [if_neg hx_16] at e
        refine go_iconst (v := 0) rfl (by decide) ?_
        cases e
        exact go_ret rfl rfl
def f_Tr_compareKey_L3 (F : Nat)  : Nat → Nat → Int32 → Nat → Int32 → Int32 → Int32 → ck_H → Option (Int32 × ck_H)
  | 0, _, _, _, _, _, _, _ => none
  | n + 1, a0, v1, a2, v3, v4, v5, h =>
    if v5 < v4 then
      if v3 < (0 : Int32) then
        some (0, h)
      else
        ck_as (13 ≤ gk h a2 ∧ gk h a2 ≤ 21) <|
        if v5 < ((Int32.ofNat (gz h a2)) - v3) then
          ck_as (gk h a0 = 8) <|
          ck_bd (f_Tr_byteOf F a0 v1 v5 h) fun r6 h7 =>
          ck_as ((gk h7 a2 = 13 ∨ gk h7 a2 = 15) ∧ ¬ (v3 + v5) < 0 ∧ (v3 + v5 : Int32).toNatClampNeg < gz h7 a2) <|
          ck_then (r6 - ((gI h7 a2 (v3 + v5 : Int32).toNatClampNeg) &&& 255)) fun x10 =>
          if x10 = (0 : Int32) then
            f_Tr_compareKey_L3 F n a0 v1 a2 v3 v4 (v5 + 1) h7
          else
            some (x10, h7)
        else
          some (0, h)
    else
      some (0, h)
set_option maxRecDepth 100000 in
set_option maxHeartbeats 4000000 in
theorem f_Tr_compareKey_L3_s (F : Nat)   : ∀ (n : Nat) (a0 : Nat) (v1 : Int32) (a2 : Nat) (v3 : Int32) (v4 : Int32) (v5 : Int32) (h : ck_H) (r : Int32) (h' : ck_H), f_Tr_compareKey_L3 F n a0 v1 a2 v3 v4 v5 h = some (r, h') → Go k_Tr_compareKey 3 [some (.ref a0), some (.int v1), some (.ref a2), some (.int v3), some (.int v4), some (.int v5), none] [] h (some (.int r), h') := by
  intro n
  induction n with
  | zero => intro a0 v1 a2 v3 v4 v5 h r h' e; simp only [f_Tr_compareKey_L3] at e; cases e
  | succ n ih =>
    intro a0 v1 a2 v3 v4 v5 h r h' e
    rw [f_Tr_compareKey_L3] at e
    refine go_iload rfl rfl ?_
    refine go_iload rfl rfl ?_
    refine go_icmp_ge (t := 57) rfl rfl (fun hx_1 => ?_) (fun hx_1 => ?_)
    · rw [if_pos hx_1] at e
      refine go_iload_n rfl rfl ?_
      refine go_if_lt (t := 57) rfl rfl (fun hx_2 => ?_) (fun hx_2 => ?_)
      · rw [if_pos hx_2] at e
        refine go_iconst (v := 0) rfl (by decide) ?_
        cases e
        exact go_ret rfl rfl
      · rw [if_neg hx_2] at e
        refine go_iload rfl rfl ?_
        refine go_aload_n rfl rfl ?_
        replace e := ck_as_e e
        obtain ⟨hc_3, e⟩ := e
        refine go_alen rfl hc_3 ?_
        refine go_iload_n rfl rfl ?_
        refine go_isub rfl ?_
        refine go_icmp_ge (t := 57) rfl rfl (fun hx_4 => ?_) (fun hx_4 => ?_)
        · rw [if_pos hx_4] at e
          refine go_aload_n rfl rfl ?_
          refine go_iload_n rfl rfl ?_
          refine go_iload rfl rfl ?_
          replace e := ck_as_e e
          obtain ⟨hk_5, e⟩ := e
          replace e := ck_bd_e e
          obtain ⟨r6, h7, e8, e⟩ := e
          refine go_callV (As := [.int v1, .int v5]) (b0 := a0) (rest := []) rfl rfl ⟨hk_5, by decide⟩ rfl ⟨Nat.le_of_ble_eq_true rfl, Nat.le_of_ble_eq_true rfl, Nat.le_of_ble_eq_true rfl, Nat.le_of_ble_eq_true rfl⟩ (s_Tr_byteOf e8) ?_
          show Go k_Tr_compareKey 30 [some (.ref a0), some (.int v1), some (.ref a2), some (.int v3), some (.int v4), some (.int v5), none] [.int r6] h7 _
          refine go_aload_n rfl rfl ?_
          refine go_iload_n rfl rfl ?_
          refine go_iload rfl rfl ?_
          refine go_iadd rfl ?_
          replace e := ck_as_e e
          obtain ⟨hc_9, e⟩ := e
          refine go_bald rfl hc_9 ?_
          refine go_sipush (v := 255) rfl (by decide) ?_
          refine go_iand rfl ?_
          refine go_isub rfl ?_
          generalize r6 - ((gI h7 a2 (v3 + v5 : Int32).toNatClampNeg) &&& 255) = x10 at e ⊢
          replace e := ck_then_e e
          refine go_istore rfl rfl ?_
          show Go k_Tr_compareKey 43 [some (.ref a0), some (.int v1), some (.ref a2), some (.int v3), some (.int v4), some (.int v5), some (.int x10)] [] h7 _
          refine go_iload rfl rfl ?_
          refine go_if_eq (t := 51) rfl rfl (fun hx_11 => ?_) (fun hx_11 => ?_)
          · rw [if_pos hx_11] at e
            refine go_iinc (v := 1) rfl rfl (by decide) rfl ?_
            show Go k_Tr_compareKey 54 [some (.ref a0), some (.int v1), some (.ref a2), some (.int v3), some (.int v4), some (.int (v5 + 1)), some (.int x10)] [] h7 _
            refine go_goto (t := 3) rfl rfl ?_
            refine go_forget (l := [some (.ref a0), some (.int v1), some (.ref a2), some (.int v3), some (.int v4), some (.int (v5 + 1)), none]) ⟨Or.inl rfl, Or.inl rfl, Or.inl rfl, Or.inl rfl, Or.inl rfl, Or.inl rfl, Or.inr ⟨rfl, fun _ q => by cases q; rfl⟩, trivial⟩ ?_
            exact ih _ _ _ _ _ _ _ _ _ e
          · rw [if_neg hx_11] at e
            refine go_iload rfl rfl ?_
            cases e
            exact go_ret rfl rfl
        · rw [if_neg hx_4] at e
          refine go_iconst (v := 0) rfl (by decide) ?_
          cases e
          exact go_ret rfl rfl
    · rw [if_neg hx_1] at e
      refine go_iconst (v := 0) rfl (by decide) ?_
      cases e
      exact go_ret rfl rfl
def f_Tr_compareKey (F : Nat) (a0 : Nat) (v1 : Int32) (a2 : Nat) (v3 : Int32) (v4 : Int32) (h : ck_H) : Option (Int32 × ck_H) :=
  f_Tr_compareKey_L3 F F a0 v1 a2 v3 v4 0 h
set_option maxRecDepth 100000 in
set_option maxHeartbeats 4000000 in
theorem s_Tr_compareKey {F : Nat} {a0 : Nat} {v1 : Int32} {a2 : Nat} {v3 : Int32} {v4 : Int32} {h h' : ck_H} {r : Int32} (e : f_Tr_compareKey F a0 v1 a2 v3 v4 h = some (r, h')) : Go k_Tr_compareKey 0 (ck_in [.ref a0, .int v1, .ref a2, .int v3, .int v4] 7) [] h (some (.int r), h') := by
  unfold f_Tr_compareKey at e
  show Go k_Tr_compareKey 0 [some (.ref a0), some (.int v1), some (.ref a2), some (.int v3), some (.int v4), none, none] [] h _
  refine go_iconst (v := 0) rfl (by decide) ?_
  refine go_istore rfl rfl ?_
  show Go k_Tr_compareKey 3 [some (.ref a0), some (.int v1), some (.ref a2), some (.int v3), some (.int v4), some (.int 0), none] [] h _
  refine go_forget (l := [some (.ref a0), some (.int v1), some (.ref a2), some (.int v3), some (.int v4), some (.int 0), none]) ⟨Or.inl rfl, Or.inl rfl, Or.inl rfl, Or.inl rfl, Or.inl rfl, Or.inl rfl, Or.inl rfl, trivial⟩ ?_
  exact f_Tr_compareKey_L3_s F F _ _ _ _ _ _ _ _ _ e
def f_Ch_searchKey_J90 (F : Nat)  (a0 : Nat) (a1 : Nat) (v2 : Int32) (a3 : Nat) (s0 : Int32) (h : ck_H) : Option (Unit × ck_H) :=
  ck_as (gk h a3 = 8) <|
  ck_bd (f_Tr_keyLength F a3 v2 h) fun r2 h3 =>
  ck_as (gk h3 a1 = 1) <|
  if r2 = (gI h3 a1 2) then
    if s0 = (0 : Int32) then
      ck_as (gk h3 a0 = 0) <|
      ck_bd (f_Ch_skipIf F a0 0 h3) fun _ h10 =>
      some ((), h10)
    else
      ck_as (gk h3 a0 = 0) <|
      ck_bd (f_Ch_skipIf F a0 1 h3) fun _ h14 =>
      some ((), h14)
  else
    ck_as (gk h3 a0 = 0) <|
    ck_bd (f_Ch_skipIf F a0 0 h3) fun _ h18 =>
    some ((), h18)
set_option maxRecDepth 100000 in
set_option maxHeartbeats 4000000 in
theorem f_Ch_searchKey_J90_s (F : Nat)   (a0 : Nat) (a1 : Nat) (v2 : Int32) (a3 : Nat) (s0 : Int32) (h : ck_H) (r : Unit) (h' : ck_H) (e : f_Ch_searchKey_J90 F  a0 a1 v2 a3 s0 h = some (r, h')) : Go k_Ch_searchKey 90 [some (.ref a0), some (.ref a1), some (.int v2), some (.ref a3), none, none] [.int s0] h (none, h') := by
  unfold f_Ch_searchKey_J90 at e
  refine go_istore rfl rfl ?_
  show Go k_Ch_searchKey 92 [some (.ref a0), some (.ref a1), some (.int v2), some (.ref a3), none, some (.int s0)] [] h _
  refine go_aload_n rfl rfl ?_
  refine go_aload_n rfl rfl ?_
  refine go_iload_n rfl rfl ?_
  replace e := ck_as_e e
  obtain ⟨hk_1, e⟩ := e
  replace e := ck_bd_e e
  obtain ⟨r2, h3, e4, e⟩ := e
  refine go_callV (As := [.int v2]) (b0 := a3) (rest := [.ref a0]) rfl rfl ⟨hk_1, by decide⟩ rfl ⟨Nat.le_of_ble_eq_true rfl, Nat.le_of_ble_eq_true rfl, Nat.le_of_ble_eq_true rfl, Nat.le_of_ble_eq_true rfl⟩ (s_Tr_keyLength e4) ?_
  show Go k_Ch_searchKey 98 [some (.ref a0), some (.ref a1), some (.int v2), some (.ref a3), none, some (.int s0)] [.int r2, .ref a0] h3 _
  refine go_aload_n rfl rfl ?_
  replace e := ck_as_e e
  obtain ⟨hk_5, e⟩ := e
  refine go_get (v := .int (gI h3 a1 2)) rfl rfl hk_5 (by decide) rfl ?_
  refine go_icmp_ne (t := 114) rfl rfl (fun hx_6 => ?_) (fun hx_6 => ?_)
  · rw [if_pos hx_6] at e
    refine go_iload rfl rfl ?_
    refine go_if_eq (t := 114) rfl rfl (fun hx_7 => ?_) (fun hx_7 => ?_)
    · rw [if_pos hx_7] at e
      refine go_iconst (v := 0) rfl (by decide) ?_
      replace e := ck_as_e e
      obtain ⟨hk_8, e⟩ := e
      replace e := ck_bd_e e
      obtain ⟨r9, h10, e11, e⟩ := e
      refine go_callV (As := [.int 0]) (b0 := a0) (rest := []) rfl rfl ⟨hk_8, by decide⟩ rfl ⟨Nat.le_of_ble_eq_true rfl, Nat.le_of_ble_eq_true rfl, Nat.le_of_ble_eq_true rfl, Nat.le_of_ble_eq_true rfl⟩ (s_Ch_skipIf e11) ?_
      show Go k_Ch_searchKey 118 [some (.ref a0), some (.ref a1), some (.int v2), some (.ref a3), none, some (.int s0)] [] h10 _
      cases e
      exact go_ret rfl rfl
    · rw [if_neg hx_7] at e
      refine go_iconst (v := 1) rfl (by decide) ?_
      refine go_goto (t := 115) rfl rfl ?_
      replace e := ck_as_e e
      obtain ⟨hk_12, e⟩ := e
      replace e := ck_bd_e e
      obtain ⟨r13, h14, e15, e⟩ := e
      refine go_callV (As := [.int 1]) (b0 := a0) (rest := []) rfl rfl ⟨hk_12, by decide⟩ rfl ⟨Nat.le_of_ble_eq_true rfl, Nat.le_of_ble_eq_true rfl, Nat.le_of_ble_eq_true rfl, Nat.le_of_ble_eq_true rfl⟩ (s_Ch_skipIf e15) ?_
      show Go k_Ch_searchKey 118 [some (.ref a0), some (.ref a1), some (.int v2), some (.ref a3), none, some (.int s0)] [] h14 _
      cases e
      exact go_ret rfl rfl
  · rw [if_neg hx_6] at e
    refine go_iconst (v := 0) rfl (by decide) ?_
    replace e := ck_as_e e
    obtain ⟨hk_16, e⟩ := e
    replace e := ck_bd_e e
    obtain ⟨r17, h18, e19, e⟩ := e
    refine go_callV (As := [.int 0]) (b0 := a0) (rest := []) rfl rfl ⟨hk_16, by decide⟩ rfl ⟨Nat.le_of_ble_eq_true rfl, Nat.le_of_ble_eq_true rfl, Nat.le_of_ble_eq_true rfl, Nat.le_of_ble_eq_true rfl⟩ (s_Ch_skipIf e19) ?_
    show Go k_Ch_searchKey 118 [some (.ref a0), some (.ref a1), some (.int v2), some (.ref a3), none, some (.int s0)] [] h18 _
    cases e
    exact go_ret rfl rfl
def f_Ch_searchKey (F : Nat) (a0 : Nat) (a1 : Nat) (h : ck_H) : Option (Unit × ck_H) :=
  ck_as (gk h a0 = 0) <|
  ck_bd (f_Ch_countPassed F a0 h) fun r2 h3 =>
  if r2 < (0 : Int32) then
    some ((), h3)
  else
    ck_as (gk h3 a0 = 0) <|
    ck_bd (f_Ch_track F a0 h3) fun r7 h8 =>
    ck_opt r7 (
      ck_as (gk h8 a0 = 0) <|
      none
    ) fun b11 =>
    ck_as (gk h8 a0 = 0) <|
    ck_as (gk h8 b11 = 8) <|
    ck_bd (f_Tr_keyLength F b11 r2 h8) fun r15 h16 =>
    ck_as (gk h16 a0 = 0) <|
    ck_then (wJ h16 a0 7 ((gJ h8 a0 7) + ((10 + r15 : Int32).toInt64))) fun h19 =>
    ck_bd (f_Ch_setPoint F a0 3 r2 h19) fun _ h22 =>
    ck_as (gk h22 a0 = 0) <|
    ck_some (gR h22 a0 0) fun b25 =>
    ck_as (gk h22 a1 = 1) <|
    ck_as (gk h22 b11 = 8) <|
    ck_bd (f_Tr_compareKey F b11 r2 b25 (gI h22 a1 1) (gI h22 a1 2) h22) fun r29 h30 =>
    ck_as (gk h30 a1 = 1) <|
    if (gI h30 a1 0) = (6 : Int32) then
      if r29 < (0 : Int32) then
        f_Ch_searchKey_J90 F a0 a1 r2 b11 0 h30
      else
        f_Ch_searchKey_J90 F a0 a1 r2 b11 1 h30
    else
      if r29 = (0 : Int32) then
        f_Ch_searchKey_J90 F a0 a1 r2 b11 1 h30
      else
        f_Ch_searchKey_J90 F a0 a1 r2 b11 0 h30
set_option maxRecDepth 100000 in
set_option maxHeartbeats 4000000 in
theorem s_Ch_searchKey {F : Nat} {a0 : Nat} {a1 : Nat} {h h' : ck_H} {r : Unit} (e : f_Ch_searchKey F a0 a1 h = some (r, h')) : Go k_Ch_searchKey 0 (ck_in [.ref a0, .ref a1] 6) [] h (none, h') := by
  unfold f_Ch_searchKey at e
  show Go k_Ch_searchKey 0 [some (.ref a0), some (.ref a1), none, none, none, none] [] h _
  refine go_aload_n rfl rfl ?_
  replace e := ck_as_e e
  obtain ⟨hk_1, e⟩ := e
  replace e := ck_bd_e e
  obtain ⟨r2, h3, e4, e⟩ := e
  refine go_callV (As := []) (b0 := a0) (rest := []) rfl rfl ⟨hk_1, by decide⟩ rfl ⟨Nat.le_of_ble_eq_true rfl, Nat.le_of_ble_eq_true rfl, Nat.le_of_ble_eq_true rfl, Nat.le_of_ble_eq_true rfl⟩ (s_Ch_countPassed e4) ?_
  show Go k_Ch_searchKey 4 [some (.ref a0), some (.ref a1), none, none, none, none] [.int r2] h3 _
  refine go_istore_n rfl rfl ?_
  show Go k_Ch_searchKey 5 [some (.ref a0), some (.ref a1), some (.int r2), none, none, none] [] h3 _
  refine go_iload_n rfl rfl ?_
  refine go_if_ge (t := 10) rfl rfl (fun hx_5 => ?_) (fun hx_5 => ?_)
  · rw [if_pos hx_5] at e
    cases e
    exact go_ret rfl rfl
  · rw [if_neg hx_5] at e
    refine go_aload_n rfl rfl ?_
    replace e := ck_as_e e
    obtain ⟨hk_6, e⟩ := e
    replace e := ck_bd_e e
    obtain ⟨r7, h8, e9, e⟩ := e
    refine go_callV (As := []) (b0 := a0) (rest := []) rfl rfl ⟨hk_6, by decide⟩ rfl ⟨Nat.le_of_ble_eq_true rfl, Nat.le_of_ble_eq_true rfl, Nat.le_of_ble_eq_true rfl, Nat.le_of_ble_eq_true rfl⟩ (s_Ch_track e9) ?_
    replace e := ck_opt_e e
    rcases e with ⟨hq_10, e⟩ | ⟨b11, hq_10, e⟩
    · subst hq_10
      show Go k_Ch_searchKey 14 [some (.ref a0), some (.ref a1), some (.int r2), none, none, none] [.null] h8 _
      refine go_astore_nN rfl rfl ?_
      show Go k_Ch_searchKey 15 [some (.ref a0), some (.ref a1), some (.int r2), some .null, none, none] [] h8 _
      refine go_aload_n rfl rfl ?_
      refine go_dup rfl rfl ?_
      replace e := ck_as_e e
      obtain ⟨hk_12, e⟩ := e
      refine go_get (v := .long (gJ h8 a0 7)) rfl rfl hk_12 (by decide) rfl ?_
      refine go_bipush (v := 10) rfl (by decide) ?_
      refine go_aload_nN rfl rfl ?_
      refine go_iload_n rfl rfl ?_
      cases e
    subst hq_10
    show Go k_Ch_searchKey 14 [some (.ref a0), some (.ref a1), some (.int r2), none, none, none] [.ref b11] h8 _
    refine go_astore_n rfl rfl ?_
    show Go k_Ch_searchKey 15 [some (.ref a0), some (.ref a1), some (.int r2), some (.ref b11), none, none] [] h8 _
    refine go_aload_n rfl rfl ?_
    refine go_dup rfl rfl ?_
    replace e := ck_as_e e
    obtain ⟨hk_13, e⟩ := e
    refine go_get (v := .long (gJ h8 a0 7)) rfl rfl hk_13 (by decide) rfl ?_
    refine go_bipush (v := 10) rfl (by decide) ?_
    refine go_aload_n rfl rfl ?_
    refine go_iload_n rfl rfl ?_
    replace e := ck_as_e e
    obtain ⟨hk_14, e⟩ := e
    replace e := ck_bd_e e
    obtain ⟨r15, h16, e17, e⟩ := e
    refine go_callV (As := [.int r2]) (b0 := b11) (rest := [.int 10, .long (gJ h8 a0 7), .ref a0]) rfl rfl ⟨hk_14, by decide⟩ rfl ⟨Nat.le_of_ble_eq_true rfl, Nat.le_of_ble_eq_true rfl, Nat.le_of_ble_eq_true rfl, Nat.le_of_ble_eq_true rfl⟩ (s_Tr_keyLength e17) ?_
    show Go k_Ch_searchKey 27 [some (.ref a0), some (.ref a1), some (.int r2), some (.ref b11), none, none] [.int r15, .int 10, .long (gJ h8 a0 7), .ref a0] h16 _
    refine go_iadd rfl ?_
    refine go_i2l rfl ?_
    refine go_ladd rfl ?_
    replace e := ck_as_e e
    obtain ⟨hk_18, e⟩ := e
    refine go_put (h1 := wJ h16 a0 7 ((gJ h8 a0 7) + ((10 + r15 : Int32).toInt64))) rfl rfl hk_18 ⟨by decide, by decide, Or.inl rfl⟩ rfl ?_
    have hk_20 : gk (wJ h16 a0 7 ((gJ h8 a0 7) + ((10 + r15 : Int32).toInt64))) a0 = 0 := ck_kJ.trans hk_18
    generalize wJ h16 a0 7 ((gJ h8 a0 7) + ((10 + r15 : Int32).toInt64)) = h19 at e hk_20 ⊢
    replace e := ck_then_e e
    refine go_aload_n rfl rfl ?_
    refine go_iconst (v := 3) rfl (by decide) ?_
    refine go_iload_n rfl rfl ?_
    replace e := ck_bd_e e
    obtain ⟨r21, h22, e23, e⟩ := e
    refine go_callV (As := [.int 3, .int r2]) (b0 := a0) (rest := []) rfl rfl ⟨hk_20, by decide⟩ rfl ⟨Nat.le_of_ble_eq_true rfl, Nat.le_of_ble_eq_true rfl, Nat.le_of_ble_eq_true rfl, Nat.le_of_ble_eq_true rfl⟩ (s_Ch_setPoint e23) ?_
    show Go k_Ch_searchKey 39 [some (.ref a0), some (.ref a1), some (.int r2), some (.ref b11), none, none] [] h22 _
    refine go_aload_n rfl rfl ?_
    refine go_iload_n rfl rfl ?_
    refine go_aload_n rfl rfl ?_
    replace e := ck_as_e e
    obtain ⟨hk_24, e⟩ := e
    replace e := ck_some_e e
    obtain ⟨b25, hq_26, e⟩ := e
    refine go_get (v := .ref b25) rfl rfl hk_24 (by decide) (by show va_rf (gR h22 a0 0) = _; rw [hq_26]; rfl) ?_
    refine go_aload_n rfl rfl ?_
    replace e := ck_as_e e
    obtain ⟨hk_27, e⟩ := e
    refine go_get (v := .int (gI h22 a1 1)) rfl rfl hk_27 (by decide) rfl ?_
    refine go_aload_n rfl rfl ?_
    refine go_get (v := .int (gI h22 a1 2)) rfl rfl hk_27 (by decide) rfl ?_
    replace e := ck_as_e e
    obtain ⟨hk_28, e⟩ := e
    replace e := ck_bd_e e
    obtain ⟨r29, h30, e31, e⟩ := e
    refine go_callV (As := [.int r2, .ref b25, .int (gI h22 a1 1), .int (gI h22 a1 2)]) (b0 := b11) (rest := []) rfl rfl ⟨hk_28, by decide⟩ rfl ⟨Nat.le_of_ble_eq_true rfl, Nat.le_of_ble_eq_true rfl, Nat.le_of_ble_eq_true rfl, Nat.le_of_ble_eq_true rfl⟩ (s_Tr_compareKey e31) ?_
    show Go k_Ch_searchKey 56 [some (.ref a0), some (.ref a1), some (.int r2), some (.ref b11), none, none] [.int r29] h30 _
    refine go_istore rfl rfl ?_
    show Go k_Ch_searchKey 58 [some (.ref a0), some (.ref a1), some (.int r2), some (.ref b11), some (.int r29), none] [] h30 _
    refine go_aload_n rfl rfl ?_
    replace e := ck_as_e e
    obtain ⟨hk_32, e⟩ := e
    refine go_get (v := .int (gI h30 a1 0)) rfl rfl hk_32 (by decide) rfl ?_
    refine go_bipush (v := 6) rfl (by decide) ?_
    refine go_icmp_ne (t := 80) rfl rfl (fun hx_33 => ?_) (fun hx_33 => ?_)
    · rw [if_pos hx_33] at e
      refine go_iload rfl rfl ?_
      refine go_if_lt (t := 76) rfl rfl (fun hx_34 => ?_) (fun hx_34 => ?_)
      · rw [if_pos hx_34] at e
        refine go_iconst (v := 0) rfl (by decide) ?_
        refine go_goto (t := 90) rfl rfl ?_
        refine go_forget (l := [some (.ref a0), some (.ref a1), some (.int r2), some (.ref b11), none, none]) ⟨Or.inl rfl, Or.inl rfl, Or.inl rfl, Or.inl rfl, Or.inr ⟨rfl, fun _ q => by cases q; rfl⟩, Or.inl rfl, trivial⟩ ?_
        exact f_Ch_searchKey_J90_s F a0 a1 r2 b11 0 _ _ _ e
      · rw [if_neg hx_34] at e
        refine go_iconst (v := 1) rfl (by decide) ?_
        refine go_goto (t := 90) rfl rfl ?_
        refine go_forget (l := [some (.ref a0), some (.ref a1), some (.int r2), some (.ref b11), none, none]) ⟨Or.inl rfl, Or.inl rfl, Or.inl rfl, Or.inl rfl, Or.inr ⟨rfl, fun _ q => by cases q; rfl⟩, Or.inl rfl, trivial⟩ ?_
        exact f_Ch_searchKey_J90_s F a0 a1 r2 b11 1 _ _ _ e
    · rw [if_neg hx_33] at e
      refine go_iload rfl rfl ?_
      refine go_if_ne (t := 89) rfl rfl (fun hx_35 => ?_) (fun hx_35 => ?_)
      · rw [if_pos hx_35] at e
        refine go_iconst (v := 1) rfl (by decide) ?_
        refine go_goto (t := 90) rfl rfl ?_
        refine go_forget (l := [some (.ref a0), some (.ref a1), some (.int r2), some (.ref b11), none, none]) ⟨Or.inl rfl, Or.inl rfl, Or.inl rfl, Or.inl rfl, Or.inr ⟨rfl, fun _ q => by cases q; rfl⟩, Or.inl rfl, trivial⟩ ?_
        exact f_Ch_searchKey_J90_s F a0 a1 r2 b11 1 _ _ _ e
      · rw [if_neg hx_35] at e
        refine go_iconst (v := 0) rfl (by decide) ?_
        refine go_forget (l := [some (.ref a0), some (.ref a1), some (.int r2), some (.ref b11), none, none]) ⟨Or.inl rfl, Or.inl rfl, Or.inl rfl, Or.inl rfl, Or.inr ⟨rfl, fun _ q => by cases q; rfl⟩, Or.inl rfl, trivial⟩ ?_
        exact f_Ch_searchKey_J90_s F a0 a1 r2 b11 0 _ _ _ e
def f_Cm_drops (F : Nat) (a0 : Nat) (h : ck_H) : Option (Int32 × ck_H) :=
  ck_as (gk h a0 = 1) <|
  if ((gI h a0 3) &&& 4) = (0 : Int32) then
    some (0, h)
  else
    some (1, h)
set_option maxRecDepth 100000 in
set_option maxHeartbeats 4000000 in
theorem s_Cm_drops {F : Nat} {a0 : Nat} {h h' : ck_H} {r : Int32} (e : f_Cm_drops F a0 h = some (r, h')) : Go k_Cm_drops 0 (ck_in [.ref a0] 1) [] h (some (.int r), h') := by
  unfold f_Cm_drops at e
  show Go k_Cm_drops 0 [some (.ref a0)] [] h _
  refine go_aload_n rfl rfl ?_
  replace e := ck_as_e e
  obtain ⟨hk_1, e⟩ := e
  refine go_get (v := .int (gI h a0 3)) rfl rfl hk_1 (by decide) rfl ?_
  refine go_iconst (v := 4) rfl (by decide) ?_
  refine go_iand rfl ?_
  refine go_if_eq (t := 13) rfl rfl (fun hx_2 => ?_) (fun hx_2 => ?_)
  · rw [if_pos hx_2] at e
    refine go_iconst (v := 0) rfl (by decide) ?_
    cases e
    exact go_ret rfl (ck_rvb rfl (Or.inl rfl))
  · rw [if_neg hx_2] at e
    refine go_iconst (v := 1) rfl (by decide) ?_
    refine go_goto (t := 14) rfl rfl ?_
    cases e
    exact go_ret rfl (ck_rvb rfl (Or.inr rfl))
def f_Ma_min (F : Nat) (v0 : Int32) (v1 : Int32) (h : ck_H) : Option (Int32 × ck_H) :=
  if v1 < v0 then
    some (v1, h)
  else
    some (v0, h)
set_option maxRecDepth 100000 in
set_option maxHeartbeats 4000000 in
theorem s_Ma_min {F : Nat} {v0 : Int32} {v1 : Int32} {h h' : ck_H} {r : Int32} (e : f_Ma_min F v0 v1 h = some (r, h')) : Go k_Ma_min 0 (ck_in [.int v0, .int v1] 2) [] h (some (.int r), h') := by
  unfold f_Ma_min at e
  show Go k_Ma_min 0 [some (.int v0), some (.int v1)] [] h _
  refine go_iload_n rfl rfl ?_
  refine go_iload_n rfl rfl ?_
  refine go_icmp_gt (t := 9) rfl rfl (fun hx_1 => ?_) (fun hx_1 => ?_)
  · rw [if_pos hx_1] at e
    refine go_iload_n rfl rfl ?_
    cases e
    exact go_ret rfl rfl
  · rw [if_neg hx_1] at e
    refine go_iload_n rfl rfl ?_
    refine go_goto (t := 10) rfl rfl ?_
    cases e
    exact go_ret rfl rfl
def f_Tr_hasBytes (F : Nat) (a0 : Nat) (v1 : Int32) (v2 : Int32) (v3 : Int32) (h : ck_H) : Option (Int32 × ck_H) :=
  ck_as (gk h a0 = 8) <|
  ck_bd (f_Tr_has F a0 v1 h) fun r2 h3 =>
  if r2 = (0 : Int32) then
    some (0, h3)
  else
    if v2 < (0 : Int32) then
      some (0, h3)
    else
      if v3 < (0 : Int32) then
        some (0, h3)
      else
        ck_as (gk h3 a0 = 8) <|
        ck_some (gR h3 a0 1) fun b9 =>
        ck_as ((gk h3 b9 = 14 ∨ gk h3 b9 = 21) ∧ ¬ (v1 + 1) < 0 ∧ (v1 + 1 : Int32).toNatClampNeg < gz h3 b9) <|
        ck_some (gR h3 a0 1) fun b12 =>
        ck_as ((gk h3 b12 = 14 ∨ gk h3 b12 = 21) ∧ ¬ v1 < 0 ∧ (v1 : Int32).toNatClampNeg < gz h3 b12) <|
        if ((((gI h3 b9 (v1 + 1 : Int32).toNatClampNeg) - (gI h3 b12 (v1 : Int32).toNatClampNeg)) - 30) - v3) < v2 then
          some (0, h3)
        else
          some (1, h3)
set_option maxRecDepth 100000 in
set_option maxHeartbeats 4000000 in
theorem s_Tr_hasBytes {F : Nat} {a0 : Nat} {v1 : Int32} {v2 : Int32} {v3 : Int32} {h h' : ck_H} {r : Int32} (e : f_Tr_hasBytes F a0 v1 v2 v3 h = some (r, h')) : Go k_Tr_hasBytes 0 (ck_in [.ref a0, .int v1, .int v2, .int v3] 4) [] h (some (.int r), h') := by
  unfold f_Tr_hasBytes at e
  show Go k_Tr_hasBytes 0 [some (.ref a0), some (.int v1), some (.int v2), some (.int v3)] [] h _
  refine go_aload_n rfl rfl ?_
  refine go_iload_n rfl rfl ?_
  replace e := ck_as_e e
  obtain ⟨hk_1, e⟩ := e
  replace e := ck_bd_e e
  obtain ⟨r2, h3, e4, e⟩ := e
  refine go_callV (As := [.int v1]) (b0 := a0) (rest := []) rfl rfl ⟨hk_1, by decide⟩ rfl ⟨Nat.le_of_ble_eq_true rfl, Nat.le_of_ble_eq_true rfl, Nat.le_of_ble_eq_true rfl, Nat.le_of_ble_eq_true rfl⟩ (s_Tr_has e4) ?_
  show Go k_Tr_hasBytes 5 [some (.ref a0), some (.int v1), some (.int v2), some (.int v3)] [.int r2] h3 _
  refine go_if_eq (t := 44) rfl rfl (fun hx_5 => ?_) (fun hx_5 => ?_)
  · rw [if_pos hx_5] at e
    refine go_iconst (v := 0) rfl (by decide) ?_
    cases e
    exact go_ret rfl (ck_rvb rfl (Or.inl rfl))
  · rw [if_neg hx_5] at e
    refine go_iload_n rfl rfl ?_
    refine go_if_lt (t := 44) rfl rfl (fun hx_6 => ?_) (fun hx_6 => ?_)
    · rw [if_pos hx_6] at e
      refine go_iconst (v := 0) rfl (by decide) ?_
      cases e
      exact go_ret rfl (ck_rvb rfl (Or.inl rfl))
    · rw [if_neg hx_6] at e
      refine go_iload_n rfl rfl ?_
      refine go_if_lt (t := 44) rfl rfl (fun hx_7 => ?_) (fun hx_7 => ?_)
      · rw [if_pos hx_7] at e
        refine go_iconst (v := 0) rfl (by decide) ?_
        cases e
        exact go_ret rfl (ck_rvb rfl (Or.inl rfl))
      · rw [if_neg hx_7] at e
        refine go_iload_n rfl rfl ?_
        refine go_aload_n rfl rfl ?_
        replace e := ck_as_e e
        obtain ⟨hk_8, e⟩ := e
        replace e := ck_some_e e
        obtain ⟨b9, hq_10, e⟩ := e
        refine go_get (v := .ref b9) rfl rfl hk_8 (by decide) (by show va_rf (gR h3 a0 1) = _; rw [hq_10]; rfl) ?_
        refine go_iload_n rfl rfl ?_
        refine go_iconst (v := 1) rfl (by decide) ?_
        refine go_iadd rfl ?_
        replace e := ck_as_e e
        obtain ⟨hc_11, e⟩ := e
        refine go_iald rfl hc_11 ?_
        refine go_aload_n rfl rfl ?_
        replace e := ck_some_e e
        obtain ⟨b12, hq_13, e⟩ := e
        refine go_get (v := .ref b12) rfl rfl hk_8 (by decide) (by show va_rf (gR h3 a0 1) = _; rw [hq_13]; rfl) ?_
        refine go_iload_n rfl rfl ?_
        replace e := ck_as_e e
        obtain ⟨hc_14, e⟩ := e
        refine go_iald rfl hc_14 ?_
        refine go_isub rfl ?_
        refine go_bipush (v := 30) rfl (by decide) ?_
        refine go_isub rfl ?_
        refine go_iload_n rfl rfl ?_
        refine go_isub rfl ?_
        refine go_icmp_gt (t := 44) rfl rfl (fun hx_15 => ?_) (fun hx_15 => ?_)
        · rw [if_pos hx_15] at e
          refine go_iconst (v := 0) rfl (by decide) ?_
          cases e
          exact go_ret rfl (ck_rvb rfl (Or.inl rfl))
        · rw [if_neg hx_15] at e
          refine go_iconst (v := 1) rfl (by decide) ?_
          refine go_goto (t := 45) rfl rfl ?_
          cases e
          exact go_ret rfl (ck_rvb rfl (Or.inr rfl))
def f_Tr_fetch (F : Nat) (a0 : Nat) (v1 : Int32) (v2 : Int32) (a3 : Nat) (v4 : Int32) (v5 : Int32) (h : ck_H) : Option (Unit × ck_H) :=
  ck_as (gk h a0 = 8) <|
  ck_opt (gR h a0 0) (
    some ((), h)
  ) fun b3 =>
  ck_bd (f_Tr_hasBytes F a0 v1 v2 v5 h) fun r4 h5 =>
  if r4 = (0 : Int32) then
    some ((), h5)
  else
    if v4 < (0 : Int32) then
      some ((), h5)
    else
      ck_as (13 ≤ gk h5 a3 ∧ gk h5 a3 ≤ 21) <|
      if ((Int32.ofNat (gz h5 a3)) - v5) < v4 then
        some ((), h5)
      else
        ck_as (gk h5 a0 = 8) <|
        ck_some (gR h5 a0 0) fun b12 =>
        ck_some (gR h5 a0 1) fun b14 =>
        ck_as ((gk h5 b14 = 14 ∨ gk h5 b14 = 21) ∧ ¬ v1 < 0 ∧ (v1 : Int32).toNatClampNeg < gz h5 b14) <|
        ck_as (gk h5 b12 = gk h5 a3 ∧ (gk h5 a3 = 13 ∨ gk h5 a3 = 14) ∧ ¬ (((gI h5 b14 (v1 : Int32).toNatClampNeg) + 30) + v2) < 0 ∧ ¬ v4 < 0 ∧ ¬ v5 < 0 ∧ (((gI h5 b14 (v1 : Int32).toNatClampNeg) + 30) + v2 : Int32).toNatClampNeg + (v5 : Int32).toNatClampNeg ≤ gz h5 b12 ∧ (v4 : Int32).toNatClampNeg + (v5 : Int32).toNatClampNeg ≤ gz h5 a3) <|
        ck_then (wC h5 b12 (((gI h5 b14 (v1 : Int32).toNatClampNeg) + 30) + v2 : Int32).toNatClampNeg a3 (v4 : Int32).toNatClampNeg (v5 : Int32).toNatClampNeg) fun h18 =>
        some ((), h18)
set_option maxRecDepth 100000 in
set_option maxHeartbeats 4000000 in
theorem s_Tr_fetch {F : Nat} {a0 : Nat} {v1 : Int32} {v2 : Int32} {a3 : Nat} {v4 : Int32} {v5 : Int32} {h h' : ck_H} {r : Unit} (e : f_Tr_fetch F a0 v1 v2 a3 v4 v5 h = some (r, h')) : Go k_Tr_fetch 0 (ck_in [.ref a0, .int v1, .int v2, .ref a3, .int v4, .int v5] 6) [] h (none, h') := by
  unfold f_Tr_fetch at e
  show Go k_Tr_fetch 0 [some (.ref a0), some (.int v1), some (.int v2), some (.ref a3), some (.int v4), some (.int v5)] [] h _
  refine go_aload_n rfl rfl ?_
  replace e := ck_as_e e
  obtain ⟨hk_1, e⟩ := e
  replace e := ck_opt_e e
  rcases e with ⟨hq_2, e⟩ | ⟨b3, hq_2, e⟩
  · refine go_get (v := .null) rfl rfl hk_1 (by decide) (by show va_rf (gR h a0 0) = _; rw [hq_2]; rfl) ?_
    refine go_ifnullN (t := 33) rfl rfl ?_
    cases e
    exact go_ret rfl rfl
  refine go_get (v := .ref b3) rfl rfl hk_1 (by decide) (by show va_rf (gR h a0 0) = _; rw [hq_2]; rfl) ?_
  refine go_ifnull rfl ?_
  refine go_aload_n rfl rfl ?_
  refine go_iload_n rfl rfl ?_
  refine go_iload_n rfl rfl ?_
  refine go_iload rfl rfl ?_
  replace e := ck_bd_e e
  obtain ⟨r4, h5, e6, e⟩ := e
  refine go_callV (As := [.int v1, .int v2, .int v5]) (b0 := a0) (rest := []) rfl rfl ⟨hk_1, by decide⟩ rfl ⟨Nat.le_of_ble_eq_true rfl, Nat.le_of_ble_eq_true rfl, Nat.le_of_ble_eq_true rfl, Nat.le_of_ble_eq_true rfl⟩ (s_Tr_hasBytes e6) ?_
  show Go k_Tr_fetch 15 [some (.ref a0), some (.int v1), some (.int v2), some (.ref a3), some (.int v4), some (.int v5)] [.int r4] h5 _
  refine go_if_eq (t := 33) rfl rfl (fun hx_7 => ?_) (fun hx_7 => ?_)
  · rw [if_pos hx_7] at e
    cases e
    exact go_ret rfl rfl
  · rw [if_neg hx_7] at e
    refine go_iload rfl rfl ?_
    refine go_if_lt (t := 33) rfl rfl (fun hx_8 => ?_) (fun hx_8 => ?_)
    · rw [if_pos hx_8] at e
      cases e
      exact go_ret rfl rfl
    · rw [if_neg hx_8] at e
      refine go_iload rfl rfl ?_
      refine go_aload_n rfl rfl ?_
      replace e := ck_as_e e
      obtain ⟨hc_9, e⟩ := e
      refine go_alen rfl hc_9 ?_
      refine go_iload rfl rfl ?_
      refine go_isub rfl ?_
      refine go_icmp_le (t := 34) rfl rfl (fun hx_10 => ?_) (fun hx_10 => ?_)
      · rw [if_pos hx_10] at e
        cases e
        exact go_ret rfl rfl
      · rw [if_neg hx_10] at e
        refine go_aload_n rfl rfl ?_
        replace e := ck_as_e e
        obtain ⟨hk_11, e⟩ := e
        replace e := ck_some_e e
        obtain ⟨b12, hq_13, e⟩ := e
        refine go_get (v := .ref b12) rfl rfl hk_11 (by decide) (by show va_rf (gR h5 a0 0) = _; rw [hq_13]; rfl) ?_
        refine go_aload_n rfl rfl ?_
        replace e := ck_some_e e
        obtain ⟨b14, hq_15, e⟩ := e
        refine go_get (v := .ref b14) rfl rfl hk_11 (by decide) (by show va_rf (gR h5 a0 1) = _; rw [hq_15]; rfl) ?_
        refine go_iload_n rfl rfl ?_
        replace e := ck_as_e e
        obtain ⟨hc_16, e⟩ := e
        refine go_iald rfl hc_16 ?_
        refine go_bipush (v := 30) rfl (by decide) ?_
        refine go_iadd rfl ?_
        refine go_iload_n rfl rfl ?_
        refine go_iadd rfl ?_
        refine go_aload_n rfl rfl ?_
        refine go_iload rfl rfl ?_
        refine go_iload rfl rfl ?_
        replace e := ck_as_e e
        obtain ⟨hc_17, e⟩ := e
        refine go_copy rfl rfl ⟨Nat.le_of_ble_eq_true rfl, Nat.le_of_ble_eq_true rfl⟩ hc_17 ?_
        have hk_19 : gk (wC h5 b12 (((gI h5 b14 (v1 : Int32).toNatClampNeg) + 30) + v2 : Int32).toNatClampNeg a3 (v4 : Int32).toNatClampNeg (v5 : Int32).toNatClampNeg) a0 = 8 := ck_kC.trans hk_11
        generalize wC h5 b12 (((gI h5 b14 (v1 : Int32).toNatClampNeg) + 30) + v2 : Int32).toNatClampNeg a3 (v4 : Int32).toNatClampNeg (v5 : Int32).toNatClampNeg = h18 at e hk_19 ⊢
        replace e := ck_then_e e
        cases e
        exact go_ret rfl rfl
def f_Ch_deliver_J64 (F : Nat)  (a0 : Nat) (a1 : Nat) (v2 : Int32) (v4 : Int32) (v5 : Int32) (v6 : Int32) (h : ck_H) : Option (Unit × ck_H) :=
  ck_as (gk h a1 = 1) <|
  ck_bd (f_Ma_min F ((gI h a1 2) - v6) v5 h) fun r2 h3 =>
  ck_as (gk h3 a0 = 0) <|
  ck_bd (f_Ch_track F a0 h3) fun r6 h7 =>
  ck_some r6 fun b9 =>
  ck_as (gk h7 a0 = 0) <|
  ck_some (gR h7 a0 0) fun b12 =>
  ck_as (gk h7 a1 = 1) <|
  ck_as (gk h7 b9 = 8) <|
  ck_bd (f_Tr_fetch F b9 v2 v4 b12 ((gI h7 a1 1) + v6) r2 h7) fun _ h17 =>
  some ((), h17)
set_option maxRecDepth 100000 in
set_option maxHeartbeats 4000000 in
theorem f_Ch_deliver_J64_s (F : Nat)   (a0 : Nat) (a1 : Nat) (v2 : Int32) (v4 : Int32) (v5 : Int32) (v6 : Int32) (h : ck_H) (r : Unit) (h' : ck_H) (e : f_Ch_deliver_J64 F  a0 a1 v2 v4 v5 v6 h = some (r, h')) : Go k_Ch_deliver 64 [some (.ref a0), some (.ref a1), some (.int v2), none, some (.int v4), some (.int v5), some (.int v6), none] [] h (none, h') := by
  unfold f_Ch_deliver_J64 at e
  refine go_aload_n rfl rfl ?_
  replace e := ck_as_e e
  obtain ⟨hk_1, e⟩ := e
  refine go_get (v := .int (gI h a1 2)) rfl rfl hk_1 (by decide) rfl ?_
  refine go_iload rfl rfl ?_
  refine go_isub rfl ?_
  refine go_iload rfl rfl ?_
  replace e := ck_bd_e e
  obtain ⟨r2, h3, e4, e⟩ := e
  refine go_callS (As := [.int ((gI h a1 2) - v6), .int v5]) (rest := []) rfl rfl rfl ⟨Nat.le_of_ble_eq_true rfl, Nat.le_of_ble_eq_true rfl, Nat.le_of_ble_eq_true rfl, Nat.le_of_ble_eq_true rfl⟩ (s_Ma_min e4) ?_
  show Go k_Ch_deliver 76 [some (.ref a0), some (.ref a1), some (.int v2), none, some (.int v4), some (.int v5), some (.int v6), none] [.int r2] h3 _
  refine go_istore rfl rfl ?_
  show Go k_Ch_deliver 78 [some (.ref a0), some (.ref a1), some (.int v2), none, some (.int v4), some (.int v5), some (.int v6), some (.int r2)] [] h3 _
  refine go_aload_n rfl rfl ?_
  replace e := ck_as_e e
  obtain ⟨hk_5, e⟩ := e
  replace e := ck_bd_e e
  obtain ⟨r6, h7, e8, e⟩ := e
  refine go_callV (As := []) (b0 := a0) (rest := []) rfl rfl ⟨hk_5, by decide⟩ rfl ⟨Nat.le_of_ble_eq_true rfl, Nat.le_of_ble_eq_true rfl, Nat.le_of_ble_eq_true rfl, Nat.le_of_ble_eq_true rfl⟩ (s_Ch_track e8) ?_
  replace e := ck_some_e e
  obtain ⟨b9, hq_10, e⟩ := e
  subst hq_10
  show Go k_Ch_deliver 82 [some (.ref a0), some (.ref a1), some (.int v2), none, some (.int v4), some (.int v5), some (.int v6), some (.int r2)] [.ref b9] h7 _
  refine go_iload_n rfl rfl ?_
  refine go_iload rfl rfl ?_
  refine go_aload_n rfl rfl ?_
  replace e := ck_as_e e
  obtain ⟨hk_11, e⟩ := e
  replace e := ck_some_e e
  obtain ⟨b12, hq_13, e⟩ := e
  refine go_get (v := .ref b12) rfl rfl hk_11 (by decide) (by show va_rf (gR h7 a0 0) = _; rw [hq_13]; rfl) ?_
  refine go_aload_n rfl rfl ?_
  replace e := ck_as_e e
  obtain ⟨hk_14, e⟩ := e
  refine go_get (v := .int (gI h7 a1 1)) rfl rfl hk_14 (by decide) rfl ?_
  refine go_iload rfl rfl ?_
  refine go_iadd rfl ?_
  refine go_iload rfl rfl ?_
  replace e := ck_as_e e
  obtain ⟨hk_15, e⟩ := e
  replace e := ck_bd_e e
  obtain ⟨r16, h17, e18, e⟩ := e
  refine go_callV (As := [.int v2, .int v4, .ref b12, .int ((gI h7 a1 1) + v6), .int r2]) (b0 := b9) (rest := []) rfl rfl ⟨hk_15, by decide⟩ rfl ⟨Nat.le_of_ble_eq_true rfl, Nat.le_of_ble_eq_true rfl, Nat.le_of_ble_eq_true rfl, Nat.le_of_ble_eq_true rfl⟩ (s_Tr_fetch e18) ?_
  show Go k_Ch_deliver 101 [some (.ref a0), some (.ref a1), some (.int v2), none, some (.int v4), some (.int v5), some (.int v6), some (.int r2)] [] h17 _
  cases e
  exact go_ret rfl rfl
def f_Ch_deliver_L21 (F : Nat)  : Nat → Nat → Nat → Int32 → Int32 → Int32 → Int32 → Int32 → ck_H → Option (Unit × ck_H)
  | 0, _, _, _, _, _, _, _, _ => none
  | n + 1, a0, a1, v2, v4, v5, v6, v7, h =>
    if v7 < v6 then
      ck_bd (f_Ch_isInMemory F a1 h) fun r2 h3 =>
      if r2 = (0 : Int32) then
        f_Ch_deliver_J64 F a0 a1 v2 v4 v5 v6 h3
      else
        ck_as (gk h3 a0 = 0) <|
        ck_some (gR h3 a0 0) fun b20 =>
        ck_as (gk h3 a1 = 1) <|
        ck_bd (f_Ch_track F a0 h3) fun r23 h24 =>
        ck_some r23 fun b26 =>
        ck_as (gk h24 b26 = 8) <|
        ck_bd (f_Tr_countByte F b26 v2 v7 h24) fun r29 h30 =>
        ck_as (gk h30 b20 = 13 ∧ ¬ ((gI h3 a1 1) + v7) < 0 ∧ ((gI h3 a1 1) + v7 : Int32).toNatClampNeg < gz h30 b20) <|
        ck_then (wI h30 b20 ((gI h3 a1 1) + v7 : Int32).toNatClampNeg ((r29 : Int32).toInt8.toInt32 : Int32).toInt8.toInt32) fun h33 =>
        f_Ch_deliver_L21 F n a0 a1 v2 v4 v5 v6 (v7 + 1) h33
    else
      f_Ch_deliver_J64 F a0 a1 v2 v4 v5 v6 h
set_option maxRecDepth 100000 in
set_option maxHeartbeats 4000000 in
theorem f_Ch_deliver_L21_s (F : Nat)   : ∀ (n : Nat) (a0 : Nat) (a1 : Nat) (v2 : Int32) (v4 : Int32) (v5 : Int32) (v6 : Int32) (v7 : Int32) (h : ck_H) (r : Unit) (h' : ck_H), f_Ch_deliver_L21 F n a0 a1 v2 v4 v5 v6 v7 h = some (r, h') → Go k_Ch_deliver 21 [some (.ref a0), some (.ref a1), some (.int v2), none, some (.int v4), some (.int v5), some (.int v6), some (.int v7)] [] h (none, h') := by
  intro n
  induction n with
  | zero => intro a0 a1 v2 v4 v5 v6 v7 h r h' e; simp only [f_Ch_deliver_L21] at e; cases e
  | succ n ih =>
    intro a0 a1 v2 v4 v5 v6 v7 h r h' e
    rw [f_Ch_deliver_L21] at e
    refine go_iload rfl rfl ?_
    refine go_iload rfl rfl ?_
    refine go_icmp_ge (t := 64) rfl rfl (fun hx_1 => ?_) (fun hx_1 => ?_)
    · rw [if_pos hx_1] at e
      refine go_aload_n rfl rfl ?_
      replace e := ck_bd_e e
      obtain ⟨r2, h3, e4, e⟩ := e
      refine go_callS (As := [.ref a1]) (rest := []) rfl rfl rfl ⟨Nat.le_of_ble_eq_true rfl, Nat.le_of_ble_eq_true rfl, Nat.le_of_ble_eq_true rfl, Nat.le_of_ble_eq_true rfl⟩ (s_Ch_isInMemory e4) ?_
      show Go k_Ch_deliver 32 [some (.ref a0), some (.ref a1), some (.int v2), none, some (.int v4), some (.int v5), some (.int v6), some (.int v7)] [.int r2] h3 _
      refine go_if_eq (t := 64) rfl rfl (fun hx_5 => ?_) (fun hx_5 => ?_)
      · rw [if_pos hx_5] at e
        refine go_forget (l := [some (.ref a0), some (.ref a1), some (.int v2), none, some (.int v4), some (.int v5), some (.int v6), none]) ⟨Or.inl rfl, Or.inl rfl, Or.inl rfl, Or.inl rfl, Or.inl rfl, Or.inl rfl, Or.inl rfl, Or.inr ⟨rfl, fun _ q => by cases q; rfl⟩, trivial⟩ ?_
        exact f_Ch_deliver_J64_s F a0 a1 v2 v4 v5 v6 _ _ _ e
      · rw [if_neg hx_5] at e
        refine go_aload_n rfl rfl ?_
        replace e := ck_as_e e
        obtain ⟨hk_19, e⟩ := e
        replace e := ck_some_e e
        obtain ⟨b20, hq_21, e⟩ := e
        refine go_get (v := .ref b20) rfl rfl hk_19 (by decide) (by show va_rf (gR h3 a0 0) = _; rw [hq_21]; rfl) ?_
        refine go_aload_n rfl rfl ?_
        replace e := ck_as_e e
        obtain ⟨hk_22, e⟩ := e
        refine go_get (v := .int (gI h3 a1 1)) rfl rfl hk_22 (by decide) rfl ?_
        refine go_iload rfl rfl ?_
        refine go_iadd rfl ?_
        refine go_aload_n rfl rfl ?_
        replace e := ck_bd_e e
        obtain ⟨r23, h24, e25, e⟩ := e
        refine go_callV (As := []) (b0 := a0) (rest := [.int ((gI h3 a1 1) + v7), .ref b20]) rfl rfl ⟨hk_19, by decide⟩ rfl ⟨Nat.le_of_ble_eq_true rfl, Nat.le_of_ble_eq_true rfl, Nat.le_of_ble_eq_true rfl, Nat.le_of_ble_eq_true rfl⟩ (s_Ch_track e25) ?_
        replace e := ck_some_e e
        obtain ⟨b26, hq_27, e⟩ := e
        subst hq_27
        show Go k_Ch_deliver 50 [some (.ref a0), some (.ref a1), some (.int v2), none, some (.int v4), some (.int v5), some (.int v6), some (.int v7)] [.ref b26, .int ((gI h3 a1 1) + v7), .ref b20] h24 _
        refine go_iload_n rfl rfl ?_
        refine go_iload rfl rfl ?_
        replace e := ck_as_e e
        obtain ⟨hk_28, e⟩ := e
        replace e := ck_bd_e e
        obtain ⟨r29, h30, e31, e⟩ := e
        refine go_callV (As := [.int v2, .int v7]) (b0 := b26) (rest := [.int ((gI h3 a1 1) + v7), .ref b20]) rfl rfl ⟨hk_28, by decide⟩ rfl ⟨Nat.le_of_ble_eq_true rfl, Nat.le_of_ble_eq_true rfl, Nat.le_of_ble_eq_true rfl, Nat.le_of_ble_eq_true rfl⟩ (s_Tr_countByte e31) ?_
        show Go k_Ch_deliver 56 [some (.ref a0), some (.ref a1), some (.int v2), none, some (.int v4), some (.int v5), some (.int v6), some (.int v7)] [.int r29, .int ((gI h3 a1 1) + v7), .ref b20] h30 _
        refine go_i2b rfl ?_
        replace e := ck_as_e e
        obtain ⟨hc_32, e⟩ := e
        refine go_bast rfl hc_32 ?_
        generalize wI h30 b20 ((gI h3 a1 1) + v7 : Int32).toNatClampNeg ((r29 : Int32).toInt8.toInt32 : Int32).toInt8.toInt32 = h33 at e  ⊢
        replace e := ck_then_e e
        refine go_iinc (v := 1) rfl rfl (by decide) rfl ?_
        show Go k_Ch_deliver 61 [some (.ref a0), some (.ref a1), some (.int v2), none, some (.int v4), some (.int v5), some (.int v6), some (.int (v7 + 1))] [] h33 _
        refine go_goto (t := 21) rfl rfl ?_
        refine go_forget (l := [some (.ref a0), some (.ref a1), some (.int v2), none, some (.int v4), some (.int v5), some (.int v6), some (.int (v7 + 1))]) ⟨Or.inl rfl, Or.inl rfl, Or.inl rfl, Or.inl rfl, Or.inl rfl, Or.inl rfl, Or.inl rfl, Or.inl rfl, trivial⟩ ?_
        exact ih _ _ _ _ _ _ _ _ _ _ e
    · rw [if_neg hx_1] at e
      refine go_forget (l := [some (.ref a0), some (.ref a1), some (.int v2), none, some (.int v4), some (.int v5), some (.int v6), none]) ⟨Or.inl rfl, Or.inl rfl, Or.inl rfl, Or.inl rfl, Or.inl rfl, Or.inl rfl, Or.inl rfl, Or.inr ⟨rfl, fun _ q => by cases q; rfl⟩, trivial⟩ ?_
      exact f_Ch_deliver_J64_s F a0 a1 v2 v4 v5 v6 _ _ _ e
def f_Ch_deliver (F : Nat) (a0 : Nat) (a1 : Nat) (v2 : Int32) (v3 : Int32) (v4 : Int32) (v5 : Int32) (h : ck_H) : Option (Unit × ck_H) :=
  ck_as (gk h a1 = 1) <|
  ck_bd (f_Cm_drops F a1 h) fun r2 h3 =>
  if r2 = (0 : Int32) then
    ck_as (gk h3 a1 = 1) <|
    ck_bd (f_Ma_min F (gI h3 a1 2) v3 h3) fun r7 h8 =>
    f_Ch_deliver_L21 F F a0 a1 v2 v4 v5 r7 0 h8
  else
    some ((), h3)
set_option maxRecDepth 100000 in
set_option maxHeartbeats 4000000 in
theorem s_Ch_deliver {F : Nat} {a0 : Nat} {a1 : Nat} {v2 : Int32} {v3 : Int32} {v4 : Int32} {v5 : Int32} {h h' : ck_H} {r : Unit} (e : f_Ch_deliver F a0 a1 v2 v3 v4 v5 h = some (r, h')) : Go k_Ch_deliver 0 (ck_in [.ref a0, .ref a1, .int v2, .int v3, .int v4, .int v5] 8) [] h (none, h') := by
  unfold f_Ch_deliver at e
  show Go k_Ch_deliver 0 [some (.ref a0), some (.ref a1), some (.int v2), some (.int v3), some (.int v4), some (.int v5), none, none] [] h _
  refine go_aload_n rfl rfl ?_
  replace e := ck_as_e e
  obtain ⟨hk_1, e⟩ := e
  replace e := ck_bd_e e
  obtain ⟨r2, h3, e4, e⟩ := e
  refine go_callV (As := []) (b0 := a1) (rest := []) rfl rfl ⟨hk_1, by decide⟩ rfl ⟨Nat.le_of_ble_eq_true rfl, Nat.le_of_ble_eq_true rfl, Nat.le_of_ble_eq_true rfl, Nat.le_of_ble_eq_true rfl⟩ (s_Cm_drops e4) ?_
  show Go k_Ch_deliver 4 [some (.ref a0), some (.ref a1), some (.int v2), some (.int v3), some (.int v4), some (.int v5), none, none] [.int r2] h3 _
  refine go_if_eq (t := 8) rfl rfl (fun hx_5 => ?_) (fun hx_5 => ?_)
  · rw [if_pos hx_5] at e
    refine go_aload_n rfl rfl ?_
    replace e := ck_as_e e
    obtain ⟨hk_6, e⟩ := e
    refine go_get (v := .int (gI h3 a1 2)) rfl rfl hk_6 (by decide) rfl ?_
    refine go_iload_n rfl rfl ?_
    replace e := ck_bd_e e
    obtain ⟨r7, h8, e9, e⟩ := e
    refine go_callS (As := [.int (gI h3 a1 2), .int v3]) (rest := []) rfl rfl rfl ⟨Nat.le_of_ble_eq_true rfl, Nat.le_of_ble_eq_true rfl, Nat.le_of_ble_eq_true rfl, Nat.le_of_ble_eq_true rfl⟩ (s_Ma_min e9) ?_
    show Go k_Ch_deliver 16 [some (.ref a0), some (.ref a1), some (.int v2), some (.int v3), some (.int v4), some (.int v5), none, none] [.int r7] h8 _
    refine go_istore rfl rfl ?_
    show Go k_Ch_deliver 18 [some (.ref a0), some (.ref a1), some (.int v2), some (.int v3), some (.int v4), some (.int v5), some (.int r7), none] [] h8 _
    refine go_iconst (v := 0) rfl (by decide) ?_
    refine go_istore rfl rfl ?_
    show Go k_Ch_deliver 21 [some (.ref a0), some (.ref a1), some (.int v2), some (.int v3), some (.int v4), some (.int v5), some (.int r7), some (.int 0)] [] h8 _
    refine go_forget (l := [some (.ref a0), some (.ref a1), some (.int v2), none, some (.int v4), some (.int v5), some (.int r7), some (.int 0)]) ⟨Or.inl rfl, Or.inl rfl, Or.inl rfl, Or.inr ⟨rfl, fun _ q => by cases q; rfl⟩, Or.inl rfl, Or.inl rfl, Or.inl rfl, Or.inl rfl, trivial⟩ ?_
    exact f_Ch_deliver_L21_s F F _ _ _ _ _ _ _ _ _ _ e
  · rw [if_neg hx_5] at e
    cases e
    exact go_ret rfl rfl
def f_Ma_max (F : Nat) (v0 : Int32) (v1 : Int32) (h : ck_H) : Option (Int32 × ck_H) :=
  if v0 < v1 then
    some (v1, h)
  else
    some (v0, h)
set_option maxRecDepth 100000 in
set_option maxHeartbeats 4000000 in
theorem s_Ma_max {F : Nat} {v0 : Int32} {v1 : Int32} {h h' : ck_H} {r : Int32} (e : f_Ma_max F v0 v1 h = some (r, h')) : Go k_Ma_max 0 (ck_in [.int v0, .int v1] 2) [] h (some (.int r), h') := by
  unfold f_Ma_max at e
  show Go k_Ma_max 0 [some (.int v0), some (.int v1)] [] h _
  refine go_iload_n rfl rfl ?_
  refine go_iload_n rfl rfl ?_
  refine go_icmp_lt (t := 9) rfl rfl (fun hx_1 => ?_) (fun hx_1 => ?_)
  · rw [if_pos hx_1] at e
    refine go_iload_n rfl rfl ?_
    cases e
    exact go_ret rfl rfl
  · rw [if_neg hx_1] at e
    refine go_iload_n rfl rfl ?_
    refine go_goto (t := 10) rfl rfl ?_
    cases e
    exact go_ret rfl rfl
def f_Cm_takesAny (F : Nat) (a0 : Nat) (h : ck_H) : Option (Int32 × ck_H) :=
  ck_as (gk h a0 = 1) <|
  if ((gI h a0 3) &&& 2) = (0 : Int32) then
    some (0, h)
  else
    some (1, h)
set_option maxRecDepth 100000 in
set_option maxHeartbeats 4000000 in
theorem s_Cm_takesAny {F : Nat} {a0 : Nat} {h h' : ck_H} {r : Int32} (e : f_Cm_takesAny F a0 h = some (r, h')) : Go k_Cm_takesAny 0 (ck_in [.ref a0] 1) [] h (some (.int r), h') := by
  unfold f_Cm_takesAny at e
  show Go k_Cm_takesAny 0 [some (.ref a0)] [] h _
  refine go_aload_n rfl rfl ?_
  replace e := ck_as_e e
  obtain ⟨hk_1, e⟩ := e
  refine go_get (v := .int (gI h a0 3)) rfl rfl hk_1 (by decide) rfl ?_
  refine go_iconst (v := 2) rfl (by decide) ?_
  refine go_iand rfl ?_
  refine go_if_eq (t := 13) rfl rfl (fun hx_2 => ?_) (fun hx_2 => ?_)
  · rw [if_pos hx_2] at e
    refine go_iconst (v := 0) rfl (by decide) ?_
    cases e
    exact go_ret rfl (ck_rvb rfl (Or.inl rfl))
  · rw [if_neg hx_2] at e
    refine go_iconst (v := 1) rfl (by decide) ?_
    refine go_goto (t := 14) rfl rfl ?_
    cases e
    exact go_ret rfl (ck_rvb rfl (Or.inr rfl))
def f_Ch_settleLength (F : Nat) (a0 : Nat) (a1 : Nat) (v2 : Int32) (h : ck_H) : Option (Unit × ck_H) :=
  ck_as (gk h a1 = 1) <|
  ck_bd (f_Ma_max F 0 ((gI h a1 2) - v2) h) fun r2 h3 =>
  ck_as (gk h3 a0 = 0) <|
  ck_then (wI h3 a0 9 r2) fun h6 =>
  ck_as (gk h6 a1 = 1) <|
  if (gI h6 a1 2) = v2 then
    some ((), h6)
  else
    ck_bd (f_Cm_takesAny F a1 h6) fun r10 h11 =>
    if r10 = (0 : Int32) then
      ck_as (gk h11 a0 = 0) <|
      ck_bd (f_Ch_stop F a0 3 h11) fun _ h16 =>
      some ((), h16)
    else
      some ((), h11)
set_option maxRecDepth 100000 in
set_option maxHeartbeats 4000000 in
theorem s_Ch_settleLength {F : Nat} {a0 : Nat} {a1 : Nat} {v2 : Int32} {h h' : ck_H} {r : Unit} (e : f_Ch_settleLength F a0 a1 v2 h = some (r, h')) : Go k_Ch_settleLength 0 (ck_in [.ref a0, .ref a1, .int v2] 3) [] h (none, h') := by
  unfold f_Ch_settleLength at e
  show Go k_Ch_settleLength 0 [some (.ref a0), some (.ref a1), some (.int v2)] [] h _
  refine go_aload_n rfl rfl ?_
  refine go_iconst (v := 0) rfl (by decide) ?_
  refine go_aload_n rfl rfl ?_
  replace e := ck_as_e e
  obtain ⟨hk_1, e⟩ := e
  refine go_get (v := .int (gI h a1 2)) rfl rfl hk_1 (by decide) rfl ?_
  refine go_iload_n rfl rfl ?_
  refine go_isub rfl ?_
  replace e := ck_bd_e e
  obtain ⟨r2, h3, e4, e⟩ := e
  refine go_callS (As := [.int 0, .int ((gI h a1 2) - v2)]) (rest := [.ref a0]) rfl rfl rfl ⟨Nat.le_of_ble_eq_true rfl, Nat.le_of_ble_eq_true rfl, Nat.le_of_ble_eq_true rfl, Nat.le_of_ble_eq_true rfl⟩ (s_Ma_max e4) ?_
  show Go k_Ch_settleLength 11 [some (.ref a0), some (.ref a1), some (.int v2)] [.int r2, .ref a0] h3 _
  replace e := ck_as_e e
  obtain ⟨hk_5, e⟩ := e
  refine go_put (h1 := wI h3 a0 9 r2) rfl rfl hk_5 ⟨by decide, by decide, Or.inl rfl⟩ rfl ?_
  have hk_7 : gk (wI h3 a0 9 r2) a0 = 0 := ck_kI.trans hk_5
  generalize wI h3 a0 9 r2 = h6 at e hk_7 ⊢
  replace e := ck_then_e e
  refine go_aload_n rfl rfl ?_
  replace e := ck_as_e e
  obtain ⟨hk_8, e⟩ := e
  refine go_get (v := .int (gI h6 a1 2)) rfl rfl hk_8 (by decide) rfl ?_
  refine go_iload_n rfl rfl ?_
  refine go_icmp_eq (t := 34) rfl rfl (fun hx_9 => ?_) (fun hx_9 => ?_)
  · rw [if_pos hx_9] at e
    cases e
    exact go_ret rfl rfl
  · rw [if_neg hx_9] at e
    refine go_aload_n rfl rfl ?_
    replace e := ck_bd_e e
    obtain ⟨r10, h11, e12, e⟩ := e
    refine go_callV (As := []) (b0 := a1) (rest := []) rfl rfl ⟨hk_8, by decide⟩ rfl ⟨Nat.le_of_ble_eq_true rfl, Nat.le_of_ble_eq_true rfl, Nat.le_of_ble_eq_true rfl, Nat.le_of_ble_eq_true rfl⟩ (s_Cm_takesAny e12) ?_
    show Go k_Ch_settleLength 26 [some (.ref a0), some (.ref a1), some (.int v2)] [.int r10] h11 _
    refine go_if_ne (t := 34) rfl rfl (fun hx_13 => ?_) (fun hx_13 => ?_)
    · rw [if_pos hx_13] at e
      refine go_aload_n rfl rfl ?_
      refine go_iconst (v := 3) rfl (by decide) ?_
      replace e := ck_as_e e
      obtain ⟨hk_14, e⟩ := e
      replace e := ck_bd_e e
      obtain ⟨r15, h16, e17, e⟩ := e
      refine go_callV (As := [.int 3]) (b0 := a0) (rest := []) rfl rfl ⟨hk_14, by decide⟩ rfl ⟨Nat.le_of_ble_eq_true rfl, Nat.le_of_ble_eq_true rfl, Nat.le_of_ble_eq_true rfl, Nat.le_of_ble_eq_true rfl⟩ (s_Ch_stop e17) ?_
      show Go k_Ch_settleLength 34 [some (.ref a0), some (.ref a1), some (.int v2)] [] h16 _
      cases e
      exact go_ret rfl rfl
    · rw [if_neg hx_13] at e
      cases e
      exact go_ret rfl rfl
def f_Ch_readCount (F : Nat) (a0 : Nat) (a1 : Nat) (h : ck_H) : Option (Unit × ck_H) :=
  ck_as (gk h a0 = 0) <|
  ck_bd (f_Ch_nextRecord F a0 h) fun r2 h3 =>
  if r2 < (0 : Int32) then
    some ((), h3)
  else
    ck_as (gk h3 a0 = 0) <|
    ck_then (wJ h3 a0 7 ((gJ h3 a0 7) + 10)) fun h7 =>
    ck_bd (f_Ch_setPoint F a0 2 r2 h7) fun _ h10 =>
    ck_as (gk h10 a0 = 0) <|
    ck_bd (f_Ch_deliver F a0 a1 r2 6 0 0 h10) fun _ h14 =>
    ck_as (gk h14 a0 = 0) <|
    ck_bd (f_Ch_settleLength F a0 a1 6 h14) fun _ h18 =>
    some ((), h18)
set_option maxRecDepth 100000 in
set_option maxHeartbeats 4000000 in
theorem s_Ch_readCount {F : Nat} {a0 : Nat} {a1 : Nat} {h h' : ck_H} {r : Unit} (e : f_Ch_readCount F a0 a1 h = some (r, h')) : Go k_Ch_readCount 0 (ck_in [.ref a0, .ref a1] 3) [] h (none, h') := by
  unfold f_Ch_readCount at e
  show Go k_Ch_readCount 0 [some (.ref a0), some (.ref a1), none] [] h _
  refine go_aload_n rfl rfl ?_
  replace e := ck_as_e e
  obtain ⟨hk_1, e⟩ := e
  replace e := ck_bd_e e
  obtain ⟨r2, h3, e4, e⟩ := e
  refine go_callV (As := []) (b0 := a0) (rest := []) rfl rfl ⟨hk_1, by decide⟩ rfl ⟨Nat.le_of_ble_eq_true rfl, Nat.le_of_ble_eq_true rfl, Nat.le_of_ble_eq_true rfl, Nat.le_of_ble_eq_true rfl⟩ (s_Ch_nextRecord e4) ?_
  show Go k_Ch_readCount 4 [some (.ref a0), some (.ref a1), none] [.int r2] h3 _
  refine go_istore_n rfl rfl ?_
  show Go k_Ch_readCount 5 [some (.ref a0), some (.ref a1), some (.int r2)] [] h3 _
  refine go_iload_n rfl rfl ?_
  refine go_if_ge (t := 10) rfl rfl (fun hx_5 => ?_) (fun hx_5 => ?_)
  · rw [if_pos hx_5] at e
    cases e
    exact go_ret rfl rfl
  · rw [if_neg hx_5] at e
    refine go_aload_n rfl rfl ?_
    refine go_dup rfl rfl ?_
    replace e := ck_as_e e
    obtain ⟨hk_6, e⟩ := e
    refine go_get (v := .long (gJ h3 a0 7)) rfl rfl hk_6 (by decide) rfl ?_
    refine go_ldc2 (v := 10) rfl rfl ?_
    refine go_ladd rfl ?_
    refine go_put (h1 := wJ h3 a0 7 ((gJ h3 a0 7) + 10)) rfl rfl hk_6 ⟨by decide, by decide, Or.inl rfl⟩ rfl ?_
    have hk_8 : gk (wJ h3 a0 7 ((gJ h3 a0 7) + 10)) a0 = 0 := ck_kJ.trans hk_6
    generalize wJ h3 a0 7 ((gJ h3 a0 7) + 10) = h7 at e hk_8 ⊢
    replace e := ck_then_e e
    refine go_aload_n rfl rfl ?_
    refine go_iconst (v := 2) rfl (by decide) ?_
    refine go_iload_n rfl rfl ?_
    replace e := ck_bd_e e
    obtain ⟨r9, h10, e11, e⟩ := e
    refine go_callV (As := [.int 2, .int r2]) (b0 := a0) (rest := []) rfl rfl ⟨hk_8, by decide⟩ rfl ⟨Nat.le_of_ble_eq_true rfl, Nat.le_of_ble_eq_true rfl, Nat.le_of_ble_eq_true rfl, Nat.le_of_ble_eq_true rfl⟩ (s_Ch_setPoint e11) ?_
    show Go k_Ch_readCount 28 [some (.ref a0), some (.ref a1), some (.int r2)] [] h10 _
    refine go_aload_n rfl rfl ?_
    refine go_aload_n rfl rfl ?_
    refine go_iload_n rfl rfl ?_
    refine go_bipush (v := 6) rfl (by decide) ?_
    refine go_iconst (v := 0) rfl (by decide) ?_
    refine go_iconst (v := 0) rfl (by decide) ?_
    replace e := ck_as_e e
    obtain ⟨hk_12, e⟩ := e
    replace e := ck_bd_e e
    obtain ⟨r13, h14, e15, e⟩ := e
    refine go_callV (As := [.ref a1, .int r2, .int 6, .int 0, .int 0]) (b0 := a0) (rest := []) rfl rfl ⟨hk_12, by decide⟩ rfl ⟨Nat.le_of_ble_eq_true rfl, Nat.le_of_ble_eq_true rfl, Nat.le_of_ble_eq_true rfl, Nat.le_of_ble_eq_true rfl⟩ (s_Ch_deliver e15) ?_
    show Go k_Ch_readCount 38 [some (.ref a0), some (.ref a1), some (.int r2)] [] h14 _
    refine go_aload_n rfl rfl ?_
    refine go_aload_n rfl rfl ?_
    refine go_bipush (v := 6) rfl (by decide) ?_
    replace e := ck_as_e e
    obtain ⟨hk_16, e⟩ := e
    replace e := ck_bd_e e
    obtain ⟨r17, h18, e19, e⟩ := e
    refine go_callV (As := [.ref a1, .int 6]) (b0 := a0) (rest := []) rfl rfl ⟨hk_16, by decide⟩ rfl ⟨Nat.le_of_ble_eq_true rfl, Nat.le_of_ble_eq_true rfl, Nat.le_of_ble_eq_true rfl, Nat.le_of_ble_eq_true rfl⟩ (s_Ch_settleLength e19) ?_
    show Go k_Ch_readCount 45 [some (.ref a0), some (.ref a1), some (.int r2)] [] h18 _
    cases e
    exact go_ret rfl rfl
def f_Tr_bytes (F : Nat) (a0 : Nat) (v1 : Int32) (h : ck_H) : Option (Int32 × ck_H) :=
  ck_as (gk h a0 = 8) <|
  ck_bd (f_Tr_has F a0 v1 h) fun r2 h3 =>
  if r2 = (0 : Int32) then
    some (0, h3)
  else
    ck_as (gk h3 a0 = 8) <|
    ck_some (gR h3 a0 1) fun b7 =>
    ck_as ((gk h3 b7 = 14 ∨ gk h3 b7 = 21) ∧ ¬ (v1 + 1) < 0 ∧ (v1 + 1 : Int32).toNatClampNeg < gz h3 b7) <|
    ck_some (gR h3 a0 1) fun b10 =>
    ck_as ((gk h3 b10 = 14 ∨ gk h3 b10 = 21) ∧ ¬ v1 < 0 ∧ (v1 : Int32).toNatClampNeg < gz h3 b10) <|
    some (((gI h3 b7 (v1 + 1 : Int32).toNatClampNeg) - (gI h3 b10 (v1 : Int32).toNatClampNeg)) - 30, h3)
set_option maxRecDepth 100000 in
set_option maxHeartbeats 4000000 in
theorem s_Tr_bytes {F : Nat} {a0 : Nat} {v1 : Int32} {h h' : ck_H} {r : Int32} (e : f_Tr_bytes F a0 v1 h = some (r, h')) : Go k_Tr_bytes 0 (ck_in [.ref a0, .int v1] 2) [] h (some (.int r), h') := by
  unfold f_Tr_bytes at e
  show Go k_Tr_bytes 0 [some (.ref a0), some (.int v1)] [] h _
  refine go_aload_n rfl rfl ?_
  refine go_iload_n rfl rfl ?_
  replace e := ck_as_e e
  obtain ⟨hk_1, e⟩ := e
  replace e := ck_bd_e e
  obtain ⟨r2, h3, e4, e⟩ := e
  refine go_callV (As := [.int v1]) (b0 := a0) (rest := []) rfl rfl ⟨hk_1, by decide⟩ rfl ⟨Nat.le_of_ble_eq_true rfl, Nat.le_of_ble_eq_true rfl, Nat.le_of_ble_eq_true rfl, Nat.le_of_ble_eq_true rfl⟩ (s_Tr_has e4) ?_
  show Go k_Tr_bytes 5 [some (.ref a0), some (.int v1)] [.int r2] h3 _
  refine go_if_eq (t := 29) rfl rfl (fun hx_5 => ?_) (fun hx_5 => ?_)
  · rw [if_pos hx_5] at e
    refine go_iconst (v := 0) rfl (by decide) ?_
    cases e
    exact go_ret rfl rfl
  · rw [if_neg hx_5] at e
    refine go_aload_n rfl rfl ?_
    replace e := ck_as_e e
    obtain ⟨hk_6, e⟩ := e
    replace e := ck_some_e e
    obtain ⟨b7, hq_8, e⟩ := e
    refine go_get (v := .ref b7) rfl rfl hk_6 (by decide) (by show va_rf (gR h3 a0 1) = _; rw [hq_8]; rfl) ?_
    refine go_iload_n rfl rfl ?_
    refine go_iconst (v := 1) rfl (by decide) ?_
    refine go_iadd rfl ?_
    replace e := ck_as_e e
    obtain ⟨hc_9, e⟩ := e
    refine go_iald rfl hc_9 ?_
    refine go_aload_n rfl rfl ?_
    replace e := ck_some_e e
    obtain ⟨b10, hq_11, e⟩ := e
    refine go_get (v := .ref b10) rfl rfl hk_6 (by decide) (by show va_rf (gR h3 a0 1) = _; rw [hq_11]; rfl) ?_
    refine go_iload_n rfl rfl ?_
    replace e := ck_as_e e
    obtain ⟨hc_12, e⟩ := e
    refine go_iald rfl hc_12 ?_
    refine go_isub rfl ?_
    refine go_bipush (v := 30) rfl (by decide) ?_
    refine go_isub rfl ?_
    refine go_goto (t := 30) rfl rfl ?_
    cases e
    exact go_ret rfl rfl
def f_Tr_isSpoiled (F : Nat) (a0 : Nat) (v1 : Int32) (h : ck_H) : Option (Int32 × ck_H) :=
  ck_as (gk h a0 = 8) <|
  ck_opt (gR h a0 0) (
    some (0, h)
  ) fun b3 =>
  ck_bd (f_Tr_has F a0 v1 h) fun r4 h5 =>
  if r4 = (0 : Int32) then
    some (0, h5)
  else
    ck_as (gk h5 a0 = 8) <|
    ck_some (gR h5 a0 0) fun b9 =>
    ck_some (gR h5 a0 1) fun b11 =>
    ck_as ((gk h5 b11 = 14 ∨ gk h5 b11 = 21) ∧ ¬ v1 < 0 ∧ (v1 : Int32).toNatClampNeg < gz h5 b11) <|
    ck_as ((gk h5 b9 = 13 ∨ gk h5 b9 = 15) ∧ ¬ ((gI h5 b11 (v1 : Int32).toNatClampNeg) + 6) < 0 ∧ ((gI h5 b11 (v1 : Int32).toNatClampNeg) + 6 : Int32).toNatClampNeg < gz h5 b9) <|
    if (gI h5 b9 ((gI h5 b11 (v1 : Int32).toNatClampNeg) + 6 : Int32).toNatClampNeg) = (0 : Int32) then
      some (0, h5)
    else
      some (1, h5)
set_option maxRecDepth 100000 in
set_option maxHeartbeats 4000000 in
theorem s_Tr_isSpoiled {F : Nat} {a0 : Nat} {v1 : Int32} {h h' : ck_H} {r : Int32} (e : f_Tr_isSpoiled F a0 v1 h = some (r, h')) : Go k_Tr_isSpoiled 0 (ck_in [.ref a0, .int v1] 2) [] h (some (.int r), h') := by
  unfold f_Tr_isSpoiled at e
  show Go k_Tr_isSpoiled 0 [some (.ref a0), some (.int v1)] [] h _
  refine go_aload_n rfl rfl ?_
  replace e := ck_as_e e
  obtain ⟨hk_1, e⟩ := e
  replace e := ck_opt_e e
  rcases e with ⟨hq_2, e⟩ | ⟨b3, hq_2, e⟩
  · refine go_get (v := .null) rfl rfl hk_1 (by decide) (by show va_rf (gR h a0 0) = _; rw [hq_2]; rfl) ?_
    refine go_ifnullN (t := 36) rfl rfl ?_
    refine go_iconst (v := 0) rfl (by decide) ?_
    cases e
    exact go_ret rfl (ck_rvb rfl (Or.inl rfl))
  refine go_get (v := .ref b3) rfl rfl hk_1 (by decide) (by show va_rf (gR h a0 0) = _; rw [hq_2]; rfl) ?_
  refine go_ifnull rfl ?_
  refine go_aload_n rfl rfl ?_
  refine go_iload_n rfl rfl ?_
  replace e := ck_bd_e e
  obtain ⟨r4, h5, e6, e⟩ := e
  refine go_callV (As := [.int v1]) (b0 := a0) (rest := []) rfl rfl ⟨hk_1, by decide⟩ rfl ⟨Nat.le_of_ble_eq_true rfl, Nat.le_of_ble_eq_true rfl, Nat.le_of_ble_eq_true rfl, Nat.le_of_ble_eq_true rfl⟩ (s_Tr_has e6) ?_
  show Go k_Tr_isSpoiled 12 [some (.ref a0), some (.int v1)] [.int r4] h5 _
  refine go_if_eq (t := 36) rfl rfl (fun hx_7 => ?_) (fun hx_7 => ?_)
  · rw [if_pos hx_7] at e
    refine go_iconst (v := 0) rfl (by decide) ?_
    cases e
    exact go_ret rfl (ck_rvb rfl (Or.inl rfl))
  · rw [if_neg hx_7] at e
    refine go_aload_n rfl rfl ?_
    replace e := ck_as_e e
    obtain ⟨hk_8, e⟩ := e
    replace e := ck_some_e e
    obtain ⟨b9, hq_10, e⟩ := e
    refine go_get (v := .ref b9) rfl rfl hk_8 (by decide) (by show va_rf (gR h5 a0 0) = _; rw [hq_10]; rfl) ?_
    refine go_aload_n rfl rfl ?_
    replace e := ck_some_e e
    obtain ⟨b11, hq_12, e⟩ := e
    refine go_get (v := .ref b11) rfl rfl hk_8 (by decide) (by show va_rf (gR h5 a0 1) = _; rw [hq_12]; rfl) ?_
    refine go_iload_n rfl rfl ?_
    replace e := ck_as_e e
    obtain ⟨hc_13, e⟩ := e
    refine go_iald rfl hc_13 ?_
    refine go_bipush (v := 6) rfl (by decide) ?_
    refine go_iadd rfl ?_
    replace e := ck_as_e e
    obtain ⟨hc_14, e⟩ := e
    refine go_bald rfl hc_14 ?_
    refine go_if_eq (t := 36) rfl rfl (fun hx_15 => ?_) (fun hx_15 => ?_)
    · rw [if_pos hx_15] at e
      refine go_iconst (v := 0) rfl (by decide) ?_
      cases e
      exact go_ret rfl (ck_rvb rfl (Or.inl rfl))
    · rw [if_neg hx_15] at e
      refine go_iconst (v := 1) rfl (by decide) ?_
      refine go_goto (t := 37) rfl rfl ?_
      cases e
      exact go_ret rfl (ck_rvb rfl (Or.inr rfl))
def f_Ch_settleRead (F : Nat) (a0 : Nat) (a1 : Nat) (v2 : Int32) (v3 : Int32) (h : ck_H) : Option (Unit × ck_H) :=
  ck_as (gk h a0 = 0) <|
  ck_bd (f_Ch_setPoint F a0 0 (-1) h) fun _ h3 =>
  ck_as (gk h3 a0 = 0) <|
  ck_bd (f_Ch_settleLength F a0 a1 v3 h3) fun _ h7 =>
  ck_as (gk h7 a0 = 0) <|
  ck_bd (f_Ch_track F a0 h7) fun r10 h11 =>
  ck_some r10 fun b13 =>
  ck_as (gk h11 b13 = 8) <|
  ck_bd (f_Tr_isSpoiled F b13 v2 h11) fun r16 h17 =>
  if r16 = (0 : Int32) then
    some ((), h17)
  else
    ck_as (gk h17 a0 = 0) <|
    ck_bd (f_Ch_stop F a0 5 h17) fun _ h22 =>
    some ((), h22)
set_option maxRecDepth 100000 in
set_option maxHeartbeats 4000000 in
theorem s_Ch_settleRead {F : Nat} {a0 : Nat} {a1 : Nat} {v2 : Int32} {v3 : Int32} {h h' : ck_H} {r : Unit} (e : f_Ch_settleRead F a0 a1 v2 v3 h = some (r, h')) : Go k_Ch_settleRead 0 (ck_in [.ref a0, .ref a1, .int v2, .int v3] 4) [] h (none, h') := by
  unfold f_Ch_settleRead at e
  show Go k_Ch_settleRead 0 [some (.ref a0), some (.ref a1), some (.int v2), some (.int v3)] [] h _
  refine go_aload_n rfl rfl ?_
  refine go_iconst (v := 0) rfl (by decide) ?_
  refine go_iconst (v := (-1)) rfl (by decide) ?_
  replace e := ck_as_e e
  obtain ⟨hk_1, e⟩ := e
  replace e := ck_bd_e e
  obtain ⟨r2, h3, e4, e⟩ := e
  refine go_callV (As := [.int 0, .int (-1)]) (b0 := a0) (rest := []) rfl rfl ⟨hk_1, by decide⟩ rfl ⟨Nat.le_of_ble_eq_true rfl, Nat.le_of_ble_eq_true rfl, Nat.le_of_ble_eq_true rfl, Nat.le_of_ble_eq_true rfl⟩ (s_Ch_setPoint e4) ?_
  show Go k_Ch_settleRead 6 [some (.ref a0), some (.ref a1), some (.int v2), some (.int v3)] [] h3 _
  refine go_aload_n rfl rfl ?_
  refine go_aload_n rfl rfl ?_
  refine go_iload_n rfl rfl ?_
  replace e := ck_as_e e
  obtain ⟨hk_5, e⟩ := e
  replace e := ck_bd_e e
  obtain ⟨r6, h7, e8, e⟩ := e
  refine go_callV (As := [.ref a1, .int v3]) (b0 := a0) (rest := []) rfl rfl ⟨hk_5, by decide⟩ rfl ⟨Nat.le_of_ble_eq_true rfl, Nat.le_of_ble_eq_true rfl, Nat.le_of_ble_eq_true rfl, Nat.le_of_ble_eq_true rfl⟩ (s_Ch_settleLength e8) ?_
  show Go k_Ch_settleRead 12 [some (.ref a0), some (.ref a1), some (.int v2), some (.int v3)] [] h7 _
  refine go_aload_n rfl rfl ?_
  replace e := ck_as_e e
  obtain ⟨hk_9, e⟩ := e
  replace e := ck_bd_e e
  obtain ⟨r10, h11, e12, e⟩ := e
  refine go_callV (As := []) (b0 := a0) (rest := []) rfl rfl ⟨hk_9, by decide⟩ rfl ⟨Nat.le_of_ble_eq_true rfl, Nat.le_of_ble_eq_true rfl, Nat.le_of_ble_eq_true rfl, Nat.le_of_ble_eq_true rfl⟩ (s_Ch_track e12) ?_
  replace e := ck_some_e e
  obtain ⟨b13, hq_14, e⟩ := e
  subst hq_14
  show Go k_Ch_settleRead 16 [some (.ref a0), some (.ref a1), some (.int v2), some (.int v3)] [.ref b13] h11 _
  refine go_iload_n rfl rfl ?_
  replace e := ck_as_e e
  obtain ⟨hk_15, e⟩ := e
  replace e := ck_bd_e e
  obtain ⟨r16, h17, e18, e⟩ := e
  refine go_callV (As := [.int v2]) (b0 := b13) (rest := []) rfl rfl ⟨hk_15, by decide⟩ rfl ⟨Nat.le_of_ble_eq_true rfl, Nat.le_of_ble_eq_true rfl, Nat.le_of_ble_eq_true rfl, Nat.le_of_ble_eq_true rfl⟩ (s_Tr_isSpoiled e18) ?_
  show Go k_Ch_settleRead 20 [some (.ref a0), some (.ref a1), some (.int v2), some (.int v3)] [.int r16] h17 _
  refine go_if_eq (t := 28) rfl rfl (fun hx_19 => ?_) (fun hx_19 => ?_)
  · rw [if_pos hx_19] at e
    cases e
    exact go_ret rfl rfl
  · rw [if_neg hx_19] at e
    refine go_aload_n rfl rfl ?_
    refine go_iconst (v := 5) rfl (by decide) ?_
    replace e := ck_as_e e
    obtain ⟨hk_20, e⟩ := e
    replace e := ck_bd_e e
    obtain ⟨r21, h22, e23, e⟩ := e
    refine go_callV (As := [.int 5]) (b0 := a0) (rest := []) rfl rfl ⟨hk_20, by decide⟩ rfl ⟨Nat.le_of_ble_eq_true rfl, Nat.le_of_ble_eq_true rfl, Nat.le_of_ble_eq_true rfl, Nat.le_of_ble_eq_true rfl⟩ (s_Ch_stop e23) ?_
    show Go k_Ch_settleRead 28 [some (.ref a0), some (.ref a1), some (.int v2), some (.int v3)] [] h22 _
    cases e
    exact go_ret rfl rfl
def f_Ch_readKey (F : Nat) (a0 : Nat) (a1 : Nat) (h : ck_H) : Option (Unit × ck_H) :=
  ck_as (gk h a0 = 0) <|
  ck_bd (f_Ch_countPassed F a0 h) fun r2 h3 =>
  if r2 < (0 : Int32) then
    some ((), h3)
  else
    ck_as (gk h3 a0 = 0) <|
    ck_bd (f_Ch_track F a0 h3) fun r7 h8 =>
    ck_some r7 fun b10 =>
    ck_as (gk h8 b10 = 8) <|
    ck_bd (f_Tr_bytes F b10 r2 h8) fun r13 h14 =>
    ck_as (gk h14 a0 = 0) <|
    ck_then (wJ h14 a0 7 ((gJ h14 a0 7) + (((10 + r13) + 10 : Int32).toInt64))) fun h17 =>
    ck_bd (f_Ch_deliver F a0 a1 r2 0 0 r13 h17) fun _ h20 =>
    ck_as (gk h20 a0 = 0) <|
    ck_bd (f_Ch_settleRead F a0 a1 r2 r13 h20) fun _ h24 =>
    some ((), h24)
set_option maxRecDepth 100000 in
set_option maxHeartbeats 4000000 in
theorem s_Ch_readKey {F : Nat} {a0 : Nat} {a1 : Nat} {h h' : ck_H} {r : Unit} (e : f_Ch_readKey F a0 a1 h = some (r, h')) : Go k_Ch_readKey 0 (ck_in [.ref a0, .ref a1] 4) [] h (none, h') := by
  unfold f_Ch_readKey at e
  show Go k_Ch_readKey 0 [some (.ref a0), some (.ref a1), none, none] [] h _
  refine go_aload_n rfl rfl ?_
  replace e := ck_as_e e
  obtain ⟨hk_1, e⟩ := e
  replace e := ck_bd_e e
  obtain ⟨r2, h3, e4, e⟩ := e
  refine go_callV (As := []) (b0 := a0) (rest := []) rfl rfl ⟨hk_1, by decide⟩ rfl ⟨Nat.le_of_ble_eq_true rfl, Nat.le_of_ble_eq_true rfl, Nat.le_of_ble_eq_true rfl, Nat.le_of_ble_eq_true rfl⟩ (s_Ch_countPassed e4) ?_
  show Go k_Ch_readKey 4 [some (.ref a0), some (.ref a1), none, none] [.int r2] h3 _
  refine go_istore_n rfl rfl ?_
  show Go k_Ch_readKey 5 [some (.ref a0), some (.ref a1), some (.int r2), none] [] h3 _
  refine go_iload_n rfl rfl ?_
  refine go_if_ge (t := 10) rfl rfl (fun hx_5 => ?_) (fun hx_5 => ?_)
  · rw [if_pos hx_5] at e
    cases e
    exact go_ret rfl rfl
  · rw [if_neg hx_5] at e
    refine go_aload_n rfl rfl ?_
    replace e := ck_as_e e
    obtain ⟨hk_6, e⟩ := e
    replace e := ck_bd_e e
    obtain ⟨r7, h8, e9, e⟩ := e
    refine go_callV (As := []) (b0 := a0) (rest := []) rfl rfl ⟨hk_6, by decide⟩ rfl ⟨Nat.le_of_ble_eq_true rfl, Nat.le_of_ble_eq_true rfl, Nat.le_of_ble_eq_true rfl, Nat.le_of_ble_eq_true rfl⟩ (s_Ch_track e9) ?_
    replace e := ck_some_e e
    obtain ⟨b10, hq_11, e⟩ := e
    subst hq_11
    show Go k_Ch_readKey 14 [some (.ref a0), some (.ref a1), some (.int r2), none] [.ref b10] h8 _
    refine go_iload_n rfl rfl ?_
    replace e := ck_as_e e
    obtain ⟨hk_12, e⟩ := e
    replace e := ck_bd_e e
    obtain ⟨r13, h14, e15, e⟩ := e
    refine go_callV (As := [.int r2]) (b0 := b10) (rest := []) rfl rfl ⟨hk_12, by decide⟩ rfl ⟨Nat.le_of_ble_eq_true rfl, Nat.le_of_ble_eq_true rfl, Nat.le_of_ble_eq_true rfl, Nat.le_of_ble_eq_true rfl⟩ (s_Tr_bytes e15) ?_
    show Go k_Ch_readKey 18 [some (.ref a0), some (.ref a1), some (.int r2), none] [.int r13] h14 _
    refine go_istore_n rfl rfl ?_
    show Go k_Ch_readKey 19 [some (.ref a0), some (.ref a1), some (.int r2), some (.int r13)] [] h14 _
    refine go_aload_n rfl rfl ?_
    refine go_dup rfl rfl ?_
    replace e := ck_as_e e
    obtain ⟨hk_16, e⟩ := e
    refine go_get (v := .long (gJ h14 a0 7)) rfl rfl hk_16 (by decide) rfl ?_
    refine go_bipush (v := 10) rfl (by decide) ?_
    refine go_iload_n rfl rfl ?_
    refine go_iadd rfl ?_
    refine go_bipush (v := 10) rfl (by decide) ?_
    refine go_iadd rfl ?_
    refine go_i2l rfl ?_
    refine go_ladd rfl ?_
    refine go_put (h1 := wJ h14 a0 7 ((gJ h14 a0 7) + (((10 + r13) + 10 : Int32).toInt64))) rfl rfl hk_16 ⟨by decide, by decide, Or.inl rfl⟩ rfl ?_
    have hk_18 : gk (wJ h14 a0 7 ((gJ h14 a0 7) + (((10 + r13) + 10 : Int32).toInt64))) a0 = 0 := ck_kJ.trans hk_16
    generalize wJ h14 a0 7 ((gJ h14 a0 7) + (((10 + r13) + 10 : Int32).toInt64)) = h17 at e hk_18 ⊢
    replace e := ck_then_e e
    refine go_aload_n rfl rfl ?_
    refine go_aload_n rfl rfl ?_
    refine go_iload_n rfl rfl ?_
    refine go_iconst (v := 0) rfl (by decide) ?_
    refine go_iconst (v := 0) rfl (by decide) ?_
    refine go_iload_n rfl rfl ?_
    replace e := ck_bd_e e
    obtain ⟨r19, h20, e21, e⟩ := e
    refine go_callV (As := [.ref a1, .int r2, .int 0, .int 0, .int r13]) (b0 := a0) (rest := []) rfl rfl ⟨hk_18, by decide⟩ rfl ⟨Nat.le_of_ble_eq_true rfl, Nat.le_of_ble_eq_true rfl, Nat.le_of_ble_eq_true rfl, Nat.le_of_ble_eq_true rfl⟩ (s_Ch_deliver e21) ?_
    show Go k_Ch_readKey 45 [some (.ref a0), some (.ref a1), some (.int r2), some (.int r13)] [] h20 _
    refine go_aload_n rfl rfl ?_
    refine go_aload_n rfl rfl ?_
    refine go_iload_n rfl rfl ?_
    refine go_iload_n rfl rfl ?_
    replace e := ck_as_e e
    obtain ⟨hk_22, e⟩ := e
    replace e := ck_bd_e e
    obtain ⟨r23, h24, e25, e⟩ := e
    refine go_callV (As := [.ref a1, .int r2, .int r13]) (b0 := a0) (rest := []) rfl rfl ⟨hk_22, by decide⟩ rfl ⟨Nat.le_of_ble_eq_true rfl, Nat.le_of_ble_eq_true rfl, Nat.le_of_ble_eq_true rfl, Nat.le_of_ble_eq_true rfl⟩ (s_Ch_settleRead e25) ?_
    show Go k_Ch_readKey 52 [some (.ref a0), some (.ref a1), some (.int r2), some (.int r13)] [] h24 _
    cases e
    exact go_ret rfl rfl
def f_Ch_keyPassed (F : Nat) (a0 : Nat) (h : ck_H) : Option (Int32 × ck_H) :=
  ck_as (gk h a0 = 0) <|
  if (gI h a0 4) = (3 : Int32) then
    some (gI h a0 5, h)
  else
    ck_bd (f_Ch_countPassed F a0 h) fun r3 h4 =>
    if r3 < (0 : Int32) then
      some (r3, h4)
    else
      ck_as (gk h4 a0 = 0) <|
      ck_bd (f_Ch_track F a0 h4) fun r8 h9 =>
      ck_some r8 fun b11 =>
      ck_as (gk h9 b11 = 8) <|
      ck_bd (f_Tr_keyLength F b11 r3 h9) fun r14 h15 =>
      ck_as (gk h15 a0 = 0) <|
      ck_then (wJ h15 a0 7 ((gJ h4 a0 7) + ((10 + r14 : Int32).toInt64))) fun h18 =>
      some (r3, h18)
set_option maxRecDepth 100000 in
set_option maxHeartbeats 4000000 in
theorem s_Ch_keyPassed {F : Nat} {a0 : Nat} {h h' : ck_H} {r : Int32} (e : f_Ch_keyPassed F a0 h = some (r, h')) : Go k_Ch_keyPassed 0 (ck_in [.ref a0] 2) [] h (some (.int r), h') := by
  unfold f_Ch_keyPassed at e
  show Go k_Ch_keyPassed 0 [some (.ref a0), none] [] h _
  refine go_aload_n rfl rfl ?_
  replace e := ck_as_e e
  obtain ⟨hk_1, e⟩ := e
  refine go_get (v := .int (gI h a0 4)) rfl rfl hk_1 (by decide) rfl ?_
  refine go_iconst (v := 3) rfl (by decide) ?_
  refine go_icmp_ne (t := 13) rfl rfl (fun hx_2 => ?_) (fun hx_2 => ?_)
  · rw [if_pos hx_2] at e
    refine go_aload_n rfl rfl ?_
    refine go_get (v := .int (gI h a0 5)) rfl rfl hk_1 (by decide) rfl ?_
    cases e
    exact go_ret rfl rfl
  · rw [if_neg hx_2] at e
    refine go_aload_n rfl rfl ?_
    replace e := ck_bd_e e
    obtain ⟨r3, h4, e5, e⟩ := e
    refine go_callV (As := []) (b0 := a0) (rest := []) rfl rfl ⟨hk_1, by decide⟩ rfl ⟨Nat.le_of_ble_eq_true rfl, Nat.le_of_ble_eq_true rfl, Nat.le_of_ble_eq_true rfl, Nat.le_of_ble_eq_true rfl⟩ (s_Ch_countPassed e5) ?_
    show Go k_Ch_keyPassed 17 [some (.ref a0), none] [.int r3] h4 _
    refine go_istore_n rfl rfl ?_
    show Go k_Ch_keyPassed 18 [some (.ref a0), some (.int r3)] [] h4 _
    refine go_iload_n rfl rfl ?_
    refine go_if_lt (t := 43) rfl rfl (fun hx_6 => ?_) (fun hx_6 => ?_)
    · rw [if_pos hx_6] at e
      refine go_iload_n rfl rfl ?_
      cases e
      exact go_ret rfl rfl
    · rw [if_neg hx_6] at e
      refine go_aload_n rfl rfl ?_
      refine go_dup rfl rfl ?_
      replace e := ck_as_e e
      obtain ⟨hk_7, e⟩ := e
      refine go_get (v := .long (gJ h4 a0 7)) rfl rfl hk_7 (by decide) rfl ?_
      refine go_bipush (v := 10) rfl (by decide) ?_
      refine go_aload_n rfl rfl ?_
      replace e := ck_bd_e e
      obtain ⟨r8, h9, e10, e⟩ := e
      refine go_callV (As := []) (b0 := a0) (rest := [.int 10, .long (gJ h4 a0 7), .ref a0]) rfl rfl ⟨hk_7, by decide⟩ rfl ⟨Nat.le_of_ble_eq_true rfl, Nat.le_of_ble_eq_true rfl, Nat.le_of_ble_eq_true rfl, Nat.le_of_ble_eq_true rfl⟩ (s_Ch_track e10) ?_
      replace e := ck_some_e e
      obtain ⟨b11, hq_12, e⟩ := e
      subst hq_12
      show Go k_Ch_keyPassed 33 [some (.ref a0), some (.int r3)] [.ref b11, .int 10, .long (gJ h4 a0 7), .ref a0] h9 _
      refine go_iload_n rfl rfl ?_
      replace e := ck_as_e e
      obtain ⟨hk_13, e⟩ := e
      replace e := ck_bd_e e
      obtain ⟨r14, h15, e16, e⟩ := e
      refine go_callV (As := [.int r3]) (b0 := b11) (rest := [.int 10, .long (gJ h4 a0 7), .ref a0]) rfl rfl ⟨hk_13, by decide⟩ rfl ⟨Nat.le_of_ble_eq_true rfl, Nat.le_of_ble_eq_true rfl, Nat.le_of_ble_eq_true rfl, Nat.le_of_ble_eq_true rfl⟩ (s_Tr_keyLength e16) ?_
      show Go k_Ch_keyPassed 37 [some (.ref a0), some (.int r3)] [.int r14, .int 10, .long (gJ h4 a0 7), .ref a0] h15 _
      refine go_iadd rfl ?_
      refine go_i2l rfl ?_
      refine go_ladd rfl ?_
      replace e := ck_as_e e
      obtain ⟨hk_17, e⟩ := e
      refine go_put (h1 := wJ h15 a0 7 ((gJ h4 a0 7) + ((10 + r14 : Int32).toInt64))) rfl rfl hk_17 ⟨by decide, by decide, Or.inl rfl⟩ rfl ?_
      have hk_19 : gk (wJ h15 a0 7 ((gJ h4 a0 7) + ((10 + r14 : Int32).toInt64))) a0 = 0 := ck_kJ.trans hk_17
      generalize wJ h15 a0 7 ((gJ h4 a0 7) + ((10 + r14 : Int32).toInt64)) = h18 at e hk_19 ⊢
      replace e := ck_then_e e
      refine go_iload_n rfl rfl ?_
      cases e
      exact go_ret rfl rfl
def f_Tr_dataLength (F : Nat) (a0 : Nat) (v1 : Int32) (h : ck_H) : Option (Int32 × ck_H) :=
  ck_as (gk h a0 = 8) <|
  ck_bd (f_Tr_countByte F a0 v1 4 h) fun r2 h3 =>
  ck_as (gk h3 a0 = 8) <|
  ck_bd (f_Tr_countByte F a0 v1 5 h3) fun r6 h7 =>
  some ((r2 * 256) + r6, h7)
set_option maxRecDepth 100000 in
set_option maxHeartbeats 4000000 in
theorem s_Tr_dataLength {F : Nat} {a0 : Nat} {v1 : Int32} {h h' : ck_H} {r : Int32} (e : f_Tr_dataLength F a0 v1 h = some (r, h')) : Go k_Tr_dataLength 0 (ck_in [.ref a0, .int v1] 2) [] h (some (.int r), h') := by
  unfold f_Tr_dataLength at e
  show Go k_Tr_dataLength 0 [some (.ref a0), some (.int v1)] [] h _
  refine go_aload_n rfl rfl ?_
  refine go_iload_n rfl rfl ?_
  refine go_iconst (v := 4) rfl (by decide) ?_
  replace e := ck_as_e e
  obtain ⟨hk_1, e⟩ := e
  replace e := ck_bd_e e
  obtain ⟨r2, h3, e4, e⟩ := e
  refine go_callV (As := [.int v1, .int 4]) (b0 := a0) (rest := []) rfl rfl ⟨hk_1, by decide⟩ rfl ⟨Nat.le_of_ble_eq_true rfl, Nat.le_of_ble_eq_true rfl, Nat.le_of_ble_eq_true rfl, Nat.le_of_ble_eq_true rfl⟩ (s_Tr_countByte e4) ?_
  show Go k_Tr_dataLength 6 [some (.ref a0), some (.int v1)] [.int r2] h3 _
  refine go_sipush (v := 256) rfl (by decide) ?_
  refine go_imul rfl ?_
  refine go_aload_n rfl rfl ?_
  refine go_iload_n rfl rfl ?_
  refine go_iconst (v := 5) rfl (by decide) ?_
  replace e := ck_as_e e
  obtain ⟨hk_5, e⟩ := e
  replace e := ck_bd_e e
  obtain ⟨r6, h7, e8, e⟩ := e
  refine go_callV (As := [.int v1, .int 5]) (b0 := a0) (rest := [.int (r2 * 256)]) rfl rfl ⟨hk_5, by decide⟩ rfl ⟨Nat.le_of_ble_eq_true rfl, Nat.le_of_ble_eq_true rfl, Nat.le_of_ble_eq_true rfl, Nat.le_of_ble_eq_true rfl⟩ (s_Tr_countByte e8) ?_
  show Go k_Tr_dataLength 16 [some (.ref a0), some (.int v1)] [.int r6, .int (r2 * 256)] h7 _
  refine go_iadd rfl ?_
  cases e
  exact go_ret rfl rfl
def f_Ch_readData (F : Nat) (a0 : Nat) (a1 : Nat) (h : ck_H) : Option (Unit × ck_H) :=
  ck_as (gk h a0 = 0) <|
  ck_bd (f_Ch_keyPassed F a0 h) fun r2 h3 =>
  if r2 < (0 : Int32) then
    some ((), h3)
  else
    ck_as (gk h3 a0 = 0) <|
    ck_bd (f_Ch_track F a0 h3) fun r7 h8 =>
    ck_some r7 fun b10 =>
    ck_as (gk h8 b10 = 8) <|
    ck_bd (f_Tr_dataLength F b10 r2 h8) fun r13 h14 =>
    ck_as (gk h14 a0 = 0) <|
    ck_then (wJ h14 a0 7 ((gJ h14 a0 7) + ((r13 + 10 : Int32).toInt64))) fun h17 =>
    ck_bd (f_Ch_track F a0 h17) fun r19 h20 =>
    ck_some r19 fun b22 =>
    ck_as (gk h20 b22 = 8) <|
    ck_bd (f_Tr_keyLength F b22 r2 h20) fun r25 h26 =>
    ck_as (gk h26 a0 = 0) <|
    ck_bd (f_Ch_deliver F a0 a1 r2 0 r25 r13 h26) fun _ h30 =>
    ck_as (gk h30 a0 = 0) <|
    ck_bd (f_Ch_settleRead F a0 a1 r2 r13 h30) fun _ h34 =>
    some ((), h34)
set_option maxRecDepth 100000 in
set_option maxHeartbeats 4000000 in
theorem s_Ch_readData {F : Nat} {a0 : Nat} {a1 : Nat} {h h' : ck_H} {r : Unit} (e : f_Ch_readData F a0 a1 h = some (r, h')) : Go k_Ch_readData 0 (ck_in [.ref a0, .ref a1] 4) [] h (none, h') := by
  unfold f_Ch_readData at e
  show Go k_Ch_readData 0 [some (.ref a0), some (.ref a1), none, none] [] h _
  refine go_aload_n rfl rfl ?_
  replace e := ck_as_e e
  obtain ⟨hk_1, e⟩ := e
  replace e := ck_bd_e e
  obtain ⟨r2, h3, e4, e⟩ := e
  refine go_callV (As := []) (b0 := a0) (rest := []) rfl rfl ⟨hk_1, by decide⟩ rfl ⟨Nat.le_of_ble_eq_true rfl, Nat.le_of_ble_eq_true rfl, Nat.le_of_ble_eq_true rfl, Nat.le_of_ble_eq_true rfl⟩ (s_Ch_keyPassed e4) ?_
  show Go k_Ch_readData 4 [some (.ref a0), some (.ref a1), none, none] [.int r2] h3 _
  refine go_istore_n rfl rfl ?_
  show Go k_Ch_readData 5 [some (.ref a0), some (.ref a1), some (.int r2), none] [] h3 _
  refine go_iload_n rfl rfl ?_
  refine go_if_ge (t := 10) rfl rfl (fun hx_5 => ?_) (fun hx_5 => ?_)
  · rw [if_pos hx_5] at e
    cases e
    exact go_ret rfl rfl
  · rw [if_neg hx_5] at e
    refine go_aload_n rfl rfl ?_
    replace e := ck_as_e e
    obtain ⟨hk_6, e⟩ := e
    replace e := ck_bd_e e
    obtain ⟨r7, h8, e9, e⟩ := e
    refine go_callV (As := []) (b0 := a0) (rest := []) rfl rfl ⟨hk_6, by decide⟩ rfl ⟨Nat.le_of_ble_eq_true rfl, Nat.le_of_ble_eq_true rfl, Nat.le_of_ble_eq_true rfl, Nat.le_of_ble_eq_true rfl⟩ (s_Ch_track e9) ?_
    replace e := ck_some_e e
    obtain ⟨b10, hq_11, e⟩ := e
    subst hq_11
    show Go k_Ch_readData 14 [some (.ref a0), some (.ref a1), some (.int r2), none] [.ref b10] h8 _
    refine go_iload_n rfl rfl ?_
    replace e := ck_as_e e
    obtain ⟨hk_12, e⟩ := e
    replace e := ck_bd_e e
    obtain ⟨r13, h14, e15, e⟩ := e
    refine go_callV (As := [.int r2]) (b0 := b10) (rest := []) rfl rfl ⟨hk_12, by decide⟩ rfl ⟨Nat.le_of_ble_eq_true rfl, Nat.le_of_ble_eq_true rfl, Nat.le_of_ble_eq_true rfl, Nat.le_of_ble_eq_true rfl⟩ (s_Tr_dataLength e15) ?_
    show Go k_Ch_readData 18 [some (.ref a0), some (.ref a1), some (.int r2), none] [.int r13] h14 _
    refine go_istore_n rfl rfl ?_
    show Go k_Ch_readData 19 [some (.ref a0), some (.ref a1), some (.int r2), some (.int r13)] [] h14 _
    refine go_aload_n rfl rfl ?_
    refine go_dup rfl rfl ?_
    replace e := ck_as_e e
    obtain ⟨hk_16, e⟩ := e
    refine go_get (v := .long (gJ h14 a0 7)) rfl rfl hk_16 (by decide) rfl ?_
    refine go_iload_n rfl rfl ?_
    refine go_bipush (v := 10) rfl (by decide) ?_
    refine go_iadd rfl ?_
    refine go_i2l rfl ?_
    refine go_ladd rfl ?_
    refine go_put (h1 := wJ h14 a0 7 ((gJ h14 a0 7) + ((r13 + 10 : Int32).toInt64))) rfl rfl hk_16 ⟨by decide, by decide, Or.inl rfl⟩ rfl ?_
    have hk_18 : gk (wJ h14 a0 7 ((gJ h14 a0 7) + ((r13 + 10 : Int32).toInt64))) a0 = 0 := ck_kJ.trans hk_16
    generalize wJ h14 a0 7 ((gJ h14 a0 7) + ((r13 + 10 : Int32).toInt64)) = h17 at e hk_18 ⊢
    replace e := ck_then_e e
    refine go_aload_n rfl rfl ?_
    refine go_aload_n rfl rfl ?_
    refine go_iload_n rfl rfl ?_
    refine go_iconst (v := 0) rfl (by decide) ?_
    refine go_aload_n rfl rfl ?_
    replace e := ck_bd_e e
    obtain ⟨r19, h20, e21, e⟩ := e
    refine go_callV (As := []) (b0 := a0) (rest := [.int 0, .int r2, .ref a1, .ref a0]) rfl rfl ⟨hk_18, by decide⟩ rfl ⟨Nat.le_of_ble_eq_true rfl, Nat.le_of_ble_eq_true rfl, Nat.le_of_ble_eq_true rfl, Nat.le_of_ble_eq_true rfl⟩ (s_Ch_track e21) ?_
    replace e := ck_some_e e
    obtain ⟨b22, hq_23, e⟩ := e
    subst hq_23
    show Go k_Ch_readData 41 [some (.ref a0), some (.ref a1), some (.int r2), some (.int r13)] [.ref b22, .int 0, .int r2, .ref a1, .ref a0] h20 _
    refine go_iload_n rfl rfl ?_
    replace e := ck_as_e e
    obtain ⟨hk_24, e⟩ := e
    replace e := ck_bd_e e
    obtain ⟨r25, h26, e27, e⟩ := e
    refine go_callV (As := [.int r2]) (b0 := b22) (rest := [.int 0, .int r2, .ref a1, .ref a0]) rfl rfl ⟨hk_24, by decide⟩ rfl ⟨Nat.le_of_ble_eq_true rfl, Nat.le_of_ble_eq_true rfl, Nat.le_of_ble_eq_true rfl, Nat.le_of_ble_eq_true rfl⟩ (s_Tr_keyLength e27) ?_
    show Go k_Ch_readData 45 [some (.ref a0), some (.ref a1), some (.int r2), some (.int r13)] [.int r25, .int 0, .int r2, .ref a1, .ref a0] h26 _
    refine go_iload_n rfl rfl ?_
    replace e := ck_as_e e
    obtain ⟨hk_28, e⟩ := e
    replace e := ck_bd_e e
    obtain ⟨r29, h30, e31, e⟩ := e
    refine go_callV (As := [.ref a1, .int r2, .int 0, .int r25, .int r13]) (b0 := a0) (rest := []) rfl rfl ⟨hk_28, by decide⟩ rfl ⟨Nat.le_of_ble_eq_true rfl, Nat.le_of_ble_eq_true rfl, Nat.le_of_ble_eq_true rfl, Nat.le_of_ble_eq_true rfl⟩ (s_Ch_deliver e31) ?_
    show Go k_Ch_readData 49 [some (.ref a0), some (.ref a1), some (.int r2), some (.int r13)] [] h30 _
    refine go_aload_n rfl rfl ?_
    refine go_aload_n rfl rfl ?_
    refine go_iload_n rfl rfl ?_
    refine go_iload_n rfl rfl ?_
    replace e := ck_as_e e
    obtain ⟨hk_32, e⟩ := e
    replace e := ck_bd_e e
    obtain ⟨r33, h34, e35, e⟩ := e
    refine go_callV (As := [.ref a1, .int r2, .int r13]) (b0 := a0) (rest := []) rfl rfl ⟨hk_32, by decide⟩ rfl ⟨Nat.le_of_ble_eq_true rfl, Nat.le_of_ble_eq_true rfl, Nat.le_of_ble_eq_true rfl, Nat.le_of_ble_eq_true rfl⟩ (s_Ch_settleRead e35) ?_
    show Go k_Ch_readData 56 [some (.ref a0), some (.ref a1), some (.int r2), some (.int r13)] [] h34 _
    cases e
    exact go_ret rfl rfl
def f_Ch_readAll (F : Nat) (a0 : Nat) (a1 : Nat) (h : ck_H) : Option (Unit × ck_H) :=
  ck_as (gk h a0 = 0) <|
  ck_bd (f_Ch_nextRecord F a0 h) fun r2 h3 =>
  if r2 < (0 : Int32) then
    some ((), h3)
  else
    ck_as (gk h3 a0 = 0) <|
    ck_bd (f_Ch_track F a0 h3) fun r7 h8 =>
    ck_some r7 fun b10 =>
    ck_as (gk h8 b10 = 8) <|
    ck_bd (f_Tr_bytes F b10 r2 h8) fun r13 h14 =>
    ck_as (gk h14 a0 = 0) <|
    ck_then (wJ h14 a0 7 ((gJ h14 a0 7) + ((30 + r13 : Int32).toInt64))) fun h17 =>
    ck_bd (f_Ch_deliver F a0 a1 r2 6 0 r13 h17) fun _ h20 =>
    ck_as (gk h20 a0 = 0) <|
    ck_bd (f_Ch_settleRead F a0 a1 r2 (6 + r13) h20) fun _ h24 =>
    some ((), h24)
set_option maxRecDepth 100000 in
set_option maxHeartbeats 4000000 in
theorem s_Ch_readAll {F : Nat} {a0 : Nat} {a1 : Nat} {h h' : ck_H} {r : Unit} (e : f_Ch_readAll F a0 a1 h = some (r, h')) : Go k_Ch_readAll 0 (ck_in [.ref a0, .ref a1] 4) [] h (none, h') := by
  unfold f_Ch_readAll at e
  show Go k_Ch_readAll 0 [some (.ref a0), some (.ref a1), none, none] [] h _
  refine go_aload_n rfl rfl ?_
  replace e := ck_as_e e
  obtain ⟨hk_1, e⟩ := e
  replace e := ck_bd_e e
  obtain ⟨r2, h3, e4, e⟩ := e
  refine go_callV (As := []) (b0 := a0) (rest := []) rfl rfl ⟨hk_1, by decide⟩ rfl ⟨Nat.le_of_ble_eq_true rfl, Nat.le_of_ble_eq_true rfl, Nat.le_of_ble_eq_true rfl, Nat.le_of_ble_eq_true rfl⟩ (s_Ch_nextRecord e4) ?_
  show Go k_Ch_readAll 4 [some (.ref a0), some (.ref a1), none, none] [.int r2] h3 _
  refine go_istore_n rfl rfl ?_
  show Go k_Ch_readAll 5 [some (.ref a0), some (.ref a1), some (.int r2), none] [] h3 _
  refine go_iload_n rfl rfl ?_
  refine go_if_ge (t := 10) rfl rfl (fun hx_5 => ?_) (fun hx_5 => ?_)
  · rw [if_pos hx_5] at e
    cases e
    exact go_ret rfl rfl
  · rw [if_neg hx_5] at e
    refine go_aload_n rfl rfl ?_
    replace e := ck_as_e e
    obtain ⟨hk_6, e⟩ := e
    replace e := ck_bd_e e
    obtain ⟨r7, h8, e9, e⟩ := e
    refine go_callV (As := []) (b0 := a0) (rest := []) rfl rfl ⟨hk_6, by decide⟩ rfl ⟨Nat.le_of_ble_eq_true rfl, Nat.le_of_ble_eq_true rfl, Nat.le_of_ble_eq_true rfl, Nat.le_of_ble_eq_true rfl⟩ (s_Ch_track e9) ?_
    replace e := ck_some_e e
    obtain ⟨b10, hq_11, e⟩ := e
    subst hq_11
    show Go k_Ch_readAll 14 [some (.ref a0), some (.ref a1), some (.int r2), none] [.ref b10] h8 _
    refine go_iload_n rfl rfl ?_
    replace e := ck_as_e e
    obtain ⟨hk_12, e⟩ := e
    replace e := ck_bd_e e
    obtain ⟨r13, h14, e15, e⟩ := e
    refine go_callV (As := [.int r2]) (b0 := b10) (rest := []) rfl rfl ⟨hk_12, by decide⟩ rfl ⟨Nat.le_of_ble_eq_true rfl, Nat.le_of_ble_eq_true rfl, Nat.le_of_ble_eq_true rfl, Nat.le_of_ble_eq_true rfl⟩ (s_Tr_bytes e15) ?_
    show Go k_Ch_readAll 18 [some (.ref a0), some (.ref a1), some (.int r2), none] [.int r13] h14 _
    refine go_istore_n rfl rfl ?_
    show Go k_Ch_readAll 19 [some (.ref a0), some (.ref a1), some (.int r2), some (.int r13)] [] h14 _
    refine go_aload_n rfl rfl ?_
    refine go_dup rfl rfl ?_
    replace e := ck_as_e e
    obtain ⟨hk_16, e⟩ := e
    refine go_get (v := .long (gJ h14 a0 7)) rfl rfl hk_16 (by decide) rfl ?_
    refine go_bipush (v := 30) rfl (by decide) ?_
    refine go_iload_n rfl rfl ?_
    refine go_iadd rfl ?_
    refine go_i2l rfl ?_
    refine go_ladd rfl ?_
    refine go_put (h1 := wJ h14 a0 7 ((gJ h14 a0 7) + ((30 + r13 : Int32).toInt64))) rfl rfl hk_16 ⟨by decide, by decide, Or.inl rfl⟩ rfl ?_
    have hk_18 : gk (wJ h14 a0 7 ((gJ h14 a0 7) + ((30 + r13 : Int32).toInt64))) a0 = 0 := ck_kJ.trans hk_16
    generalize wJ h14 a0 7 ((gJ h14 a0 7) + ((30 + r13 : Int32).toInt64)) = h17 at e hk_18 ⊢
    replace e := ck_then_e e
    refine go_aload_n rfl rfl ?_
    refine go_aload_n rfl rfl ?_
    refine go_iload_n rfl rfl ?_
    refine go_bipush (v := 6) rfl (by decide) ?_
    refine go_iconst (v := 0) rfl (by decide) ?_
    refine go_iload_n rfl rfl ?_
    replace e := ck_bd_e e
    obtain ⟨r19, h20, e21, e⟩ := e
    refine go_callV (As := [.ref a1, .int r2, .int 6, .int 0, .int r13]) (b0 := a0) (rest := []) rfl rfl ⟨hk_18, by decide⟩ rfl ⟨Nat.le_of_ble_eq_true rfl, Nat.le_of_ble_eq_true rfl, Nat.le_of_ble_eq_true rfl, Nat.le_of_ble_eq_true rfl⟩ (s_Ch_deliver e21) ?_
    show Go k_Ch_readAll 43 [some (.ref a0), some (.ref a1), some (.int r2), some (.int r13)] [] h20 _
    refine go_aload_n rfl rfl ?_
    refine go_aload_n rfl rfl ?_
    refine go_iload_n rfl rfl ?_
    refine go_bipush (v := 6) rfl (by decide) ?_
    refine go_iload_n rfl rfl ?_
    refine go_iadd rfl ?_
    replace e := ck_as_e e
    obtain ⟨hk_22, e⟩ := e
    replace e := ck_bd_e e
    obtain ⟨r23, h24, e25, e⟩ := e
    refine go_callV (As := [.ref a1, .int r2, .int (6 + r13)]) (b0 := a0) (rest := []) rfl rfl ⟨hk_22, by decide⟩ rfl ⟨Nat.le_of_ble_eq_true rfl, Nat.le_of_ble_eq_true rfl, Nat.le_of_ble_eq_true rfl, Nat.le_of_ble_eq_true rfl⟩ (s_Ch_settleRead e25) ?_
    show Go k_Ch_readAll 53 [some (.ref a0), some (.ref a1), some (.int r2), some (.int r13)] [] h24 _
    cases e
    exact go_ret rfl rfl
def f_Ar_rangeCheck (F : Nat) (v0 : Int32) (v1 : Int32) (v2 : Int32) (h : ck_H) : Option (Unit × ck_H) :=
  if v2 < v1 then
    none
  else
    if v1 < (0 : Int32) then
      none
    else
      if v0 < v2 then
        none
      else
        some ((), h)
set_option maxRecDepth 100000 in
set_option maxHeartbeats 4000000 in
theorem s_Ar_rangeCheck {F : Nat} {v0 : Int32} {v1 : Int32} {v2 : Int32} {h h' : ck_H} {r : Unit} (e : f_Ar_rangeCheck F v0 v1 v2 h = some (r, h')) : Go k_Ar_rangeCheck 0 (ck_in [.int v0, .int v1, .int v2] 3) [] h (none, h') := by
  unfold f_Ar_rangeCheck at e
  show Go k_Ar_rangeCheck 0 [some (.int v0), some (.int v1), some (.int v2)] [] h _
  refine go_iload_n rfl rfl ?_
  refine go_iload_n rfl rfl ?_
  refine go_icmp_le (t := 46) rfl rfl (fun hx_1 => ?_) (fun hx_1 => ?_)
  · rw [if_pos hx_1] at e
    cases e
  · rw [if_neg hx_1] at e
    refine go_iload_n rfl rfl ?_
    refine go_if_ge (t := 59) rfl rfl (fun hx_2 => ?_) (fun hx_2 => ?_)
    · rw [if_pos hx_2] at e
      cases e
    · rw [if_neg hx_2] at e
      refine go_iload_n rfl rfl ?_
      refine go_iload_n rfl rfl ?_
      refine go_icmp_le (t := 73) rfl rfl (fun hx_3 => ?_) (fun hx_3 => ?_)
      · rw [if_pos hx_3] at e
        cases e
      · rw [if_neg hx_3] at e
        cases e
        exact go_ret rfl rfl
def f_Ar_fill_L10 (F : Nat)  : Nat → Nat → Int32 → Int32 → Int32 → ck_H → Option (Unit × ck_H)
  | 0, _, _, _, _, _ => none
  | n + 1, a0, v2, v3, v4, h =>
    if v4 < v2 then
      ck_as (gk h a0 = 13 ∧ ¬ v4 < 0 ∧ (v4 : Int32).toNatClampNeg < gz h a0) <|
      ck_then (wI h a0 (v4 : Int32).toNatClampNeg (v3 : Int32).toInt8.toInt32) fun h3 =>
      f_Ar_fill_L10 F n a0 v2 v3 (v4 + 1) h3
    else
      some ((), h)
set_option maxRecDepth 100000 in
set_option maxHeartbeats 4000000 in
theorem f_Ar_fill_L10_s (F : Nat)   : ∀ (n : Nat) (a0 : Nat) (v2 : Int32) (v3 : Int32) (v4 : Int32) (h : ck_H) (r : Unit) (h' : ck_H), f_Ar_fill_L10 F n a0 v2 v3 v4 h = some (r, h') → Go k_Ar_fill 10 [some (.ref a0), none, some (.int v2), some (.int v3), some (.int v4)] [] h (none, h') := by
  intro n
  induction n with
  | zero => intro a0 v2 v3 v4 h r h' e; simp only [f_Ar_fill_L10] at e; cases e
  | succ n ih =>
    intro a0 v2 v3 v4 h r h' e
    rw [f_Ar_fill_L10] at e
    refine go_iload rfl rfl ?_
    refine go_iload_n rfl rfl ?_
    refine go_icmp_ge (t := 27) rfl rfl (fun hx_1 => ?_) (fun hx_1 => ?_)
    · rw [if_pos hx_1] at e
      refine go_aload_n rfl rfl ?_
      refine go_iload rfl rfl ?_
      refine go_iload_n rfl rfl ?_
      replace e := ck_as_e e
      obtain ⟨hc_2, e⟩ := e
      refine go_bast rfl hc_2 ?_
      generalize wI h a0 (v4 : Int32).toNatClampNeg (v3 : Int32).toInt8.toInt32 = h3 at e  ⊢
      replace e := ck_then_e e
      refine go_iinc (v := 1) rfl rfl (by decide) rfl ?_
      show Go k_Ar_fill 24 [some (.ref a0), none, some (.int v2), some (.int v3), some (.int (v4 + 1))] [] h3 _
      refine go_goto (t := 10) rfl rfl ?_
      refine go_forget (l := [some (.ref a0), none, some (.int v2), some (.int v3), some (.int (v4 + 1))]) ⟨Or.inl rfl, Or.inl rfl, Or.inl rfl, Or.inl rfl, Or.inl rfl, trivial⟩ ?_
      exact ih _ _ _ _ _ _ _ e
    · rw [if_neg hx_1] at e
      cases e
      exact go_ret rfl rfl
def f_Ar_fill (F : Nat) (a0 : Nat) (v1 : Int32) (v2 : Int32) (v3 : Int32) (h : ck_H) : Option (Unit × ck_H) :=
  ck_as (13 ≤ gk h a0 ∧ gk h a0 ≤ 21) <|
  ck_bd (f_Ar_rangeCheck F (Int32.ofNat (gz h a0)) v1 v2 h) fun _ h3 =>
  f_Ar_fill_L10 F F a0 v2 v3 v1 h3
set_option maxRecDepth 100000 in
set_option maxHeartbeats 4000000 in
theorem s_Ar_fill {F : Nat} {a0 : Nat} {v1 : Int32} {v2 : Int32} {v3 : Int32} {h h' : ck_H} {r : Unit} (e : f_Ar_fill F a0 v1 v2 v3 h = some (r, h')) : Go k_Ar_fill 0 (ck_in [.ref a0, .int v1, .int v2, .int v3] 5) [] h (none, h') := by
  unfold f_Ar_fill at e
  show Go k_Ar_fill 0 [some (.ref a0), some (.int v1), some (.int v2), some (.int v3), none] [] h _
  refine go_aload_n rfl rfl ?_
  replace e := ck_as_e e
  obtain ⟨hc_1, e⟩ := e
  refine go_alen rfl hc_1 ?_
  refine go_iload_n rfl rfl ?_
  refine go_iload_n rfl rfl ?_
  replace e := ck_bd_e e
  obtain ⟨r2, h3, e4, e⟩ := e
  refine go_callS (As := [.int (Int32.ofNat (gz h a0)), .int v1, .int v2]) (rest := []) rfl rfl rfl ⟨Nat.le_of_ble_eq_true rfl, Nat.le_of_ble_eq_true rfl, Nat.le_of_ble_eq_true rfl, Nat.le_of_ble_eq_true rfl⟩ (s_Ar_rangeCheck e4) ?_
  show Go k_Ar_fill 7 [some (.ref a0), some (.int v1), some (.int v2), some (.int v3), none] [] h3 _
  refine go_iload_n rfl rfl ?_
  refine go_istore rfl rfl ?_
  show Go k_Ar_fill 10 [some (.ref a0), some (.int v1), some (.int v2), some (.int v3), some (.int v1)] [] h3 _
  refine go_forget (l := [some (.ref a0), none, some (.int v2), some (.int v3), some (.int v1)]) ⟨Or.inl rfl, Or.inr ⟨rfl, fun _ q => by cases q; rfl⟩, Or.inl rfl, Or.inl rfl, Or.inl rfl, trivial⟩ ?_
  exact f_Ar_fill_L10_s F F _ _ _ _ _ _ _ e
