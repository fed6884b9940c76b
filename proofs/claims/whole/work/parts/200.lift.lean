def f_Rw_init (F : Nat) (a0 : Nat) (h : ck_H) : Option (Unit × ck_H) :=
  ck_then (gn h) fun b1 =>
  ck_then (wN h 13 1200) fun h2 =>
  ck_as (gk h2 a0 = 6) <|
  ck_then (wR h2 a0 0 (some b1)) fun h6 =>
  some ((), h6)
set_option maxRecDepth 100000 in
set_option maxHeartbeats 4000000 in
theorem s_Rw_init {F : Nat} {a0 : Nat} {h h' : ck_H} {r : Unit} (e : f_Rw_init F a0 h = some (r, h')) : Go k_Rw_init 0 (ck_in [.ref a0] 1) [] h (none, h') := by
  unfold f_Rw_init at e
  show Go k_Rw_init 0 [some (.ref a0)] [] h _
  refine go_aload_n rfl rfl ?_
  refine go_obj rfl rfl ⟨Nat.le_of_ble_eq_true rfl, Nat.le_of_ble_eq_true rfl⟩ ?_
  refine go_aload_n rfl rfl ?_
  refine go_sipush (v := 1200) rfl (by decide) ?_
  refine go_newa (kc := 13) (N := 1200) rfl rfl (by decide) (by decide) ?_
  obtain ⟨b1, hg_3⟩ : ∃ z, z = gn h := ⟨_, rfl⟩
  rw [← hg_3] at e ⊢
  replace e := ck_then_e e
  have hk_4 : gk (wN h 13 1200) b1 = 13 := by rw [hg_3, ck_gk_wN, if_pos rfl]
  generalize wN h 13 1200 = h2 at e hk_4 ⊢
  replace e := ck_then_e e
  replace e := ck_as_e e
  obtain ⟨hk_5, e⟩ := e
  refine go_put (h1 := wR h2 a0 0 (some b1)) rfl rfl hk_5 ⟨by decide, by decide, Or.inr ⟨rfl, rfl⟩⟩ rfl ?_
  have hk_7 : gk (wR h2 a0 0 (some b1)) b1 = 13 := ck_kR.trans hk_4
  have hk_8 : gk (wR h2 a0 0 (some b1)) a0 = 6 := ck_kR.trans hk_5
  generalize wR h2 a0 0 (some b1) = h6 at e hk_7 hk_8 ⊢
  replace e := ck_then_e e
  cases e
  exact go_ret rfl rfl
def f_Tr_init (F : Nat) (a0 : Nat) (h : ck_H) : Option (Unit × ck_H) :=
  ck_then (gn h) fun b1 =>
  ck_then (wN h 14 50) fun h2 =>
  ck_as (gk h2 a0 = 8) <|
  ck_then (wR h2 a0 1 (some b1)) fun h6 =>
  ck_some (gR h6 a0 1) fun b9 =>
  ck_as (gk h6 b9 = 14 ∧ ¬ (0 : Int32) < 0 ∧ (0 : Int32).toNatClampNeg < gz h6 b9) <|
  ck_then (wI h6 b9 (0 : Int32).toNatClampNeg 30) fun h12 =>
  some ((), h12)
set_option maxRecDepth 100000 in
set_option maxHeartbeats 4000000 in
theorem s_Tr_init {F : Nat} {a0 : Nat} {h h' : ck_H} {r : Unit} (e : f_Tr_init F a0 h = some (r, h')) : Go k_Tr_init 0 (ck_in [.ref a0] 1) [] h (none, h') := by
  unfold f_Tr_init at e
  show Go k_Tr_init 0 [some (.ref a0)] [] h _
  refine go_aload_n rfl rfl ?_
  refine go_obj rfl rfl ⟨Nat.le_of_ble_eq_true rfl, Nat.le_of_ble_eq_true rfl⟩ ?_
  refine go_aload_n rfl rfl ?_
  refine go_bipush (v := 50) rfl (by decide) ?_
  refine go_newa (kc := 14) (N := 50) rfl rfl (by decide) (by decide) ?_
  obtain ⟨b1, hg_3⟩ : ∃ z, z = gn h := ⟨_, rfl⟩
  rw [← hg_3] at e ⊢
  replace e := ck_then_e e
  have hk_4 : gk (wN h 14 50) b1 = 14 := by rw [hg_3, ck_gk_wN, if_pos rfl]
  generalize wN h 14 50 = h2 at e hk_4 ⊢
  replace e := ck_then_e e
  replace e := ck_as_e e
  obtain ⟨hk_5, e⟩ := e
  refine go_put (h1 := wR h2 a0 1 (some b1)) rfl rfl hk_5 ⟨by decide, by decide, Or.inr ⟨rfl, rfl⟩⟩ rfl ?_
  have hk_7 : gk (wR h2 a0 1 (some b1)) b1 = 14 := ck_kR.trans hk_4
  have hk_8 : gk (wR h2 a0 1 (some b1)) a0 = 8 := ck_kR.trans hk_5
  generalize wR h2 a0 1 (some b1) = h6 at e hk_7 hk_8 ⊢
  replace e := ck_then_e e
  refine go_aload_n rfl rfl ?_
  replace e := ck_some_e e
  obtain ⟨b9, hq_10, e⟩ := e
  refine go_get (v := .ref b9) rfl rfl hk_8 (by decide) (by show va_rf (gR h6 a0 1) = _; rw [hq_10]; rfl) ?_
  refine go_iconst (v := 0) rfl (by decide) ?_
  refine go_bipush (v := 30) rfl (by decide) ?_
  replace e := ck_as_e e
  obtain ⟨hc_11, e⟩ := e
  refine go_iast rfl hc_11 ?_
  have hk_13 : gk (wI h6 b9 (0 : Int32).toNatClampNeg 30) b1 = 14 := ck_kI.trans hk_7
  have hk_14 : gk (wI h6 b9 (0 : Int32).toNatClampNeg 30) a0 = 8 := ck_kI.trans hk_8
  generalize wI h6 b9 (0 : Int32).toNatClampNeg 30 = h12 at e hk_13 hk_14 ⊢
  replace e := ck_then_e e
  cases e
  exact go_ret rfl rfl
def f_Un_init_L15 (F : Nat)  : Nat → Nat → Int32 → ck_H → Option (Unit × ck_H)
  | 0, _, _, _ => none
  | n + 1, a0, v1, h =>
    if v1 < (80 : Int32) then
      ck_as (gk h a0 = 9) <|
      ck_some (gR h a0 0) fun b3 =>
      ck_then (gn h) fun b5 =>
      ck_then (wN h 8 3) fun h6 =>
      ck_bd (f_Tr_init F b5 h6) fun _ h10 =>
      ck_as (gk h10 b5 < 13 ∧ ck_ka (gk h10 b3) = some (gk h10 b5) ∧ ¬ v1 < 0 ∧ (v1 : Int32).toNatClampNeg < gz h10 b3) <|
      ck_then (wR h10 b3 (v1 : Int32).toNatClampNeg (some b5)) fun h13 =>
      f_Un_init_L15 F n a0 (v1 + 1) h13
    else
      some ((), h)
set_option maxRecDepth 100000 in
set_option maxHeartbeats 4000000 in
theorem f_Un_init_L15_s (F : Nat)   : ∀ (n : Nat) (a0 : Nat) (v1 : Int32) (h : ck_H) (r : Unit) (h' : ck_H), f_Un_init_L15 F n a0 v1 h = some (r, h') → Go k_Un_init 15 [some (.ref a0), some (.int v1)] [] h (none, h') := by
  intro n
  induction n with
  | zero => intro a0 v1 h r h' e; simp only [f_Un_init_L15] at e; cases e
  | succ n ih =>
    intro a0 v1 h r h' e
    rw [f_Un_init_L15] at e
    refine go_iload_n rfl rfl ?_
    refine go_bipush (v := 80) rfl (by decide) ?_
    refine go_icmp_ge (t := 40) rfl rfl (fun hx_1 => ?_) (fun hx_1 => ?_)
    · rw [if_pos hx_1] at e
      refine go_aload_n rfl rfl ?_
      replace e := ck_as_e e
      obtain ⟨hk_2, e⟩ := e
      replace e := ck_some_e e
      obtain ⟨b3, hq_4, e⟩ := e
      refine go_get (v := .ref b3) rfl rfl hk_2 (by decide) (by show va_rf (gR h a0 0) = _; rw [hq_4]; rfl) ?_
      refine go_iload_n rfl rfl ?_
      refine go_new (kc := 8) (n := 3) rfl rfl (by decide) rfl ?_
      obtain ⟨b5, hg_7⟩ : ∃ z, z = gn h := ⟨_, rfl⟩
      rw [← hg_7] at e ⊢
      replace e := ck_then_e e
      have hk_8 : gk (wN h 8 3) b5 = 8 := by rw [hg_7, ck_gk_wN, if_pos rfl]
      generalize wN h 8 3 = h6 at e hk_8 ⊢
      replace e := ck_then_e e
      refine go_dup rfl rfl ?_
      replace e := ck_bd_e e
      obtain ⟨r9, h10, e11, e⟩ := e
      refine go_callI (As := []) (b0 := b5) (rest := [.ref b5, .int v1, .ref b3]) rfl rfl rfl ⟨Nat.le_of_ble_eq_true rfl, Nat.le_of_ble_eq_true rfl, Nat.le_of_ble_eq_true rfl, Nat.le_of_ble_eq_true rfl⟩ (s_Tr_init e11) ?_
      show Go k_Un_init 33 [some (.ref a0), some (.int v1)] [.ref b5, .int v1, .ref b3] h10 _
      replace e := ck_as_e e
      obtain ⟨hc_12, e⟩ := e
      refine go_aast rfl hc_12 ?_
      generalize wR h10 b3 (v1 : Int32).toNatClampNeg (some b5) = h13 at e  ⊢
      replace e := ck_then_e e
      refine go_iinc (v := 1) rfl rfl (by decide) rfl ?_
      show Go k_Un_init 37 [some (.ref a0), some (.int (v1 + 1))] [] h13 _
      refine go_goto (t := 15) rfl rfl ?_
      refine go_forget (l := [some (.ref a0), some (.int (v1 + 1))]) ⟨Or.inl rfl, Or.inl rfl, trivial⟩ ?_
      exact ih _ _ _ _ _ e
    · rw [if_neg hx_1] at e
      cases e
      exact go_ret rfl rfl
def f_Un_init (F : Nat) (a0 : Nat) (h : ck_H) : Option (Unit × ck_H) :=
  ck_then (gn h) fun b1 =>
  ck_then (wN h 19 80) fun h2 =>
  ck_as (gk h2 a0 = 9) <|
  ck_then (wR h2 a0 0 (some b1)) fun h6 =>
  f_Un_init_L15 F F a0 0 h6
set_option maxRecDepth 100000 in
set_option maxHeartbeats 4000000 in
theorem s_Un_init {F : Nat} {a0 : Nat} {h h' : ck_H} {r : Unit} (e : f_Un_init F a0 h = some (r, h')) : Go k_Un_init 0 (ck_in [.ref a0] 2) [] h (none, h') := by
  unfold f_Un_init at e
  show Go k_Un_init 0 [some (.ref a0), none] [] h _
  refine go_aload_n rfl rfl ?_
  refine go_obj rfl rfl ⟨Nat.le_of_ble_eq_true rfl, Nat.le_of_ble_eq_true rfl⟩ ?_
  refine go_aload_n rfl rfl ?_
  refine go_bipush (v := 80) rfl (by decide) ?_
  refine go_anew (kc := 19) (N := 80) rfl rfl (by decide) (by decide) ?_
  obtain ⟨b1, hg_3⟩ : ∃ z, z = gn h := ⟨_, rfl⟩
  rw [← hg_3] at e ⊢
  replace e := ck_then_e e
  have hk_4 : gk (wN h 19 80) b1 = 19 := by rw [hg_3, ck_gk_wN, if_pos rfl]
  generalize wN h 19 80 = h2 at e hk_4 ⊢
  replace e := ck_then_e e
  replace e := ck_as_e e
  obtain ⟨hk_5, e⟩ := e
  refine go_put (h1 := wR h2 a0 0 (some b1)) rfl rfl hk_5 ⟨by decide, by decide, Or.inr ⟨rfl, rfl⟩⟩ rfl ?_
  have hk_7 : gk (wR h2 a0 0 (some b1)) b1 = 19 := ck_kR.trans hk_4
  have hk_8 : gk (wR h2 a0 0 (some b1)) a0 = 9 := ck_kR.trans hk_5
  generalize wR h2 a0 0 (some b1) = h6 at e hk_7 hk_8 ⊢
  replace e := ck_then_e e
  refine go_iconst (v := 0) rfl (by decide) ?_
  refine go_istore_n rfl rfl ?_
  show Go k_Un_init 15 [some (.ref a0), some (.int 0)] [] h6 _
  refine go_forget (l := [some (.ref a0), some (.int 0)]) ⟨Or.inl rfl, Or.inl rfl, trivial⟩ ?_
  exact f_Un_init_L15_s F F _ _ _ _ _ e
def f_Cm_init (F : Nat) (a0 : Nat) (h : ck_H) : Option (Unit × ck_H) :=
  some ((), h)
set_option maxRecDepth 100000 in
set_option maxHeartbeats 4000000 in
theorem s_Cm_init {F : Nat} {a0 : Nat} {h h' : ck_H} {r : Unit} (e : f_Cm_init F a0 h = some (r, h')) : Go k_Cm_init 0 (ck_in [.ref a0] 1) [] h (none, h') := by
  unfold f_Cm_init at e
  show Go k_Cm_init 0 [some (.ref a0)] [] h _
  refine go_aload_n rfl rfl ?_
  refine go_obj rfl rfl ⟨Nat.le_of_ble_eq_true rfl, Nat.le_of_ble_eq_true rfl⟩ ?_
  cases e
  exact go_ret rfl rfl
def f_Ch_init_L34 (F : Nat)  : Nat → Nat → Int32 → ck_H → Option (Unit × ck_H)
  | 0, _, _, _ => none
  | n + 1, a0, v2, h =>
    if v2 < (32 : Int32) then
      ck_as (gk h a0 = 0) <|
      ck_some (gR h a0 1) fun b3 =>
      ck_then (gn h) fun b5 =>
      ck_then (wN h 1 4) fun h6 =>
      ck_bd (f_Cm_init F b5 h6) fun _ h10 =>
      ck_as (gk h10 b5 < 13 ∧ ck_ka (gk h10 b3) = some (gk h10 b5) ∧ ¬ v2 < 0 ∧ (v2 : Int32).toNatClampNeg < gz h10 b3) <|
      ck_then (wR h10 b3 (v2 : Int32).toNatClampNeg (some b5)) fun h13 =>
      f_Ch_init_L34 F n a0 (v2 + 1) h13
    else
      some ((), h)
set_option maxRecDepth 100000 in
set_option maxHeartbeats 4000000 in
theorem f_Ch_init_L34_s (F : Nat)   : ∀ (n : Nat) (a0 : Nat) (v2 : Int32) (h : ck_H) (r : Unit) (h' : ck_H), f_Ch_init_L34 F n a0 v2 h = some (r, h') → Go k_Ch_init 34 [some (.ref a0), none, some (.int v2)] [] h (none, h') := by
  intro n
  induction n with
  | zero => intro a0 v2 h r h' e; simp only [f_Ch_init_L34] at e; cases e
  | succ n ih =>
    intro a0 v2 h r h' e
    rw [f_Ch_init_L34] at e
    refine go_iload_n rfl rfl ?_
    refine go_bipush (v := 32) rfl (by decide) ?_
    refine go_icmp_ge (t := 59) rfl rfl (fun hx_1 => ?_) (fun hx_1 => ?_)
    · rw [if_pos hx_1] at e
      refine go_aload_n rfl rfl ?_
      replace e := ck_as_e e
      obtain ⟨hk_2, e⟩ := e
      replace e := ck_some_e e
      obtain ⟨b3, hq_4, e⟩ := e
      refine go_get (v := .ref b3) rfl rfl hk_2 (by decide) (by show va_rf (gR h a0 1) = _; rw [hq_4]; rfl) ?_
      refine go_iload_n rfl rfl ?_
      refine go_new (kc := 1) (n := 4) rfl rfl (by decide) rfl ?_
      obtain ⟨b5, hg_7⟩ : ∃ z, z = gn h := ⟨_, rfl⟩
      rw [← hg_7] at e ⊢
      replace e := ck_then_e e
      have hk_8 : gk (wN h 1 4) b5 = 1 := by rw [hg_7, ck_gk_wN, if_pos rfl]
      generalize wN h 1 4 = h6 at e hk_8 ⊢
      replace e := ck_then_e e
      refine go_dup rfl rfl ?_
      replace e := ck_bd_e e
      obtain ⟨r9, h10, e11, e⟩ := e
      refine go_callN (As := []) (b0 := b5) (rest := [.ref b5, .int v2, .ref b3]) rfl rfl rfl ⟨Nat.le_of_ble_eq_true rfl, Nat.le_of_ble_eq_true rfl, Nat.le_of_ble_eq_true rfl, Nat.le_of_ble_eq_true rfl⟩ (s_Cm_init e11) ?_
      show Go k_Ch_init 52 [some (.ref a0), none, some (.int v2)] [.ref b5, .int v2, .ref b3] h10 _
      replace e := ck_as_e e
      obtain ⟨hc_12, e⟩ := e
      refine go_aast rfl hc_12 ?_
      generalize wR h10 b3 (v2 : Int32).toNatClampNeg (some b5) = h13 at e  ⊢
      replace e := ck_then_e e
      refine go_iinc (v := 1) rfl rfl (by decide) rfl ?_
      show Go k_Ch_init 56 [some (.ref a0), none, some (.int (v2 + 1))] [] h13 _
      refine go_goto (t := 34) rfl rfl ?_
      refine go_forget (l := [some (.ref a0), none, some (.int (v2 + 1))]) ⟨Or.inl rfl, Or.inl rfl, Or.inl rfl, trivial⟩ ?_
      exact ih _ _ _ _ _ e
    · rw [if_neg hx_1] at e
      cases e
      exact go_ret rfl rfl
def f_Ch_init (F : Nat) (a0 : Nat) (a1 : Nat) (h : ck_H) : Option (Unit × ck_H) :=
  ck_then (gn h) fun b1 =>
  ck_then (wN h 13 2048) fun h2 =>
  ck_as (gk h2 a0 = 0) <|
  ck_then (wR h2 a0 0 (some b1)) fun h6 =>
  ck_then (gn h6) fun b9 =>
  ck_then (wN h6 16 32) fun h10 =>
  ck_as (gk h10 a0 = 0) <|
  ck_then (wR h10 a0 1 (some b9)) fun h14 =>
  ck_then (wI h14 a0 10 (-1)) fun h17 =>
  ck_then (wR h17 a0 2 (some a1)) fun h20 =>
  f_Ch_init_L34 F F a0 0 h20
set_option maxRecDepth 100000 in
set_option maxHeartbeats 4000000 in
theorem s_Ch_init {F : Nat} {a0 : Nat} {a1 : Nat} {h h' : ck_H} {r : Unit} (e : f_Ch_init F a0 a1 h = some (r, h')) : Go k_Ch_init 0 (ck_in [.ref a0, .ref a1] 3) [] h (none, h') := by
  unfold f_Ch_init at e
  show Go k_Ch_init 0 [some (.ref a0), some (.ref a1), none] [] h _
  refine go_aload_n rfl rfl ?_
  refine go_obj rfl rfl ⟨Nat.le_of_ble_eq_true rfl, Nat.le_of_ble_eq_true rfl⟩ ?_
  refine go_aload_n rfl rfl ?_
  refine go_sipush (v := 2048) rfl (by decide) ?_
  refine go_newa (kc := 13) (N := 2048) rfl rfl (by decide) (by decide) ?_
  obtain ⟨b1, hg_3⟩ : ∃ z, z = gn h := ⟨_, rfl⟩
  rw [← hg_3] at e ⊢
  replace e := ck_then_e e
  have hk_4 : gk (wN h 13 2048) b1 = 13 := by rw [hg_3, ck_gk_wN, if_pos rfl]
  generalize wN h 13 2048 = h2 at e hk_4 ⊢
  replace e := ck_then_e e
  replace e := ck_as_e e
  obtain ⟨hk_5, e⟩ := e
  refine go_put (h1 := wR h2 a0 0 (some b1)) rfl rfl hk_5 ⟨by decide, by decide, Or.inr ⟨rfl, rfl⟩⟩ rfl ?_
  have hk_7 : gk (wR h2 a0 0 (some b1)) b1 = 13 := ck_kR.trans hk_4
  have hk_8 : gk (wR h2 a0 0 (some b1)) a0 = 0 := ck_kR.trans hk_5
  generalize wR h2 a0 0 (some b1) = h6 at e hk_7 hk_8 ⊢
  replace e := ck_then_e e
  refine go_aload_n rfl rfl ?_
  refine go_bipush (v := 32) rfl (by decide) ?_
  refine go_anew (kc := 16) (N := 32) rfl rfl (by decide) (by decide) ?_
  obtain ⟨b9, hg_11⟩ : ∃ z, z = gn h6 := ⟨_, rfl⟩
  rw [← hg_11] at e ⊢
  replace e := ck_then_e e
  have hk_12 : gk (wN h6 16 32) b9 = 16 := by rw [hg_11, ck_gk_wN, if_pos rfl]
  generalize wN h6 16 32 = h10 at e hk_12 ⊢
  replace e := ck_then_e e
  replace e := ck_as_e e
  obtain ⟨hk_13, e⟩ := e
  refine go_put (h1 := wR h10 a0 1 (some b9)) rfl rfl hk_13 ⟨by decide, by decide, Or.inr ⟨rfl, rfl⟩⟩ rfl ?_
  have hk_15 : gk (wR h10 a0 1 (some b9)) b9 = 16 := ck_kR.trans hk_12
  have hk_16 : gk (wR h10 a0 1 (some b9)) a0 = 0 := ck_kR.trans hk_13
  generalize wR h10 a0 1 (some b9) = h14 at e hk_15 hk_16 ⊢
  replace e := ck_then_e e
  refine go_aload_n rfl rfl ?_
  refine go_iconst (v := (-1)) rfl (by decide) ?_
  refine go_put (h1 := wI h14 a0 10 (-1)) rfl rfl hk_16 ⟨by decide, by decide, Or.inl rfl⟩ rfl ?_
  have hk_18 : gk (wI h14 a0 10 (-1)) b9 = 16 := ck_kI.trans hk_15
  have hk_19 : gk (wI h14 a0 10 (-1)) a0 = 0 := ck_kI.trans hk_16
  generalize wI h14 a0 10 (-1) = h17 at e hk_18 hk_19 ⊢
  replace e := ck_then_e e
  refine go_aload_n rfl rfl ?_
  refine go_aload_n rfl rfl ?_
  refine go_put (h1 := wR h17 a0 2 (some a1)) rfl rfl hk_19 ⟨by decide, by decide, Or.inl rfl⟩ rfl ?_
  have hk_21 : gk (wR h17 a0 2 (some a1)) b9 = 16 := ck_kR.trans hk_18
  have hk_22 : gk (wR h17 a0 2 (some a1)) a0 = 0 := ck_kR.trans hk_19
  generalize wR h17 a0 2 (some a1) = h20 at e hk_21 hk_22 ⊢
  replace e := ck_then_e e
  refine go_iconst (v := 0) rfl (by decide) ?_
  refine go_istore_n rfl rfl ?_
  show Go k_Ch_init 34 [some (.ref a0), some (.ref a1), some (.int 0)] [] h20 _
  refine go_forget (l := [some (.ref a0), none, some (.int 0)]) ⟨Or.inl rfl, Or.inr ⟨rfl, fun _ q => by cases q; rfl⟩, Or.inl rfl, trivial⟩ ?_
  exact f_Ch_init_L34_s F F _ _ _ _ _ e
def f_Mb_init (F : Nat) (a0 : Nat) (h : ck_H) : Option (Unit × ck_H) :=
  ck_then (gn h) fun b1 =>
  ck_then (wN h 13 320) fun h2 =>
  ck_as (gk h2 a0 = 4) <|
  ck_then (wR h2 a0 0 (some b1)) fun h6 =>
  ck_then (gn h6) fun b9 =>
  ck_then (wN h6 14 40) fun h10 =>
  ck_as (gk h10 a0 = 4) <|
  ck_then (wR h10 a0 1 (some b9)) fun h14 =>
  ck_then (gn h14) fun b17 =>
  ck_then (wN h14 14 40) fun h18 =>
  ck_as (gk h18 a0 = 4) <|
  ck_then (wR h18 a0 2 (some b17)) fun h22 =>
  ck_then (gn h22) fun b25 =>
  ck_then (wN h22 14 40) fun h26 =>
  ck_as (gk h26 a0 = 4) <|
  ck_then (wR h26 a0 3 (some b25)) fun h30 =>
  some ((), h30)
set_option maxRecDepth 100000 in
set_option maxHeartbeats 4000000 in
theorem s_Mb_init {F : Nat} {a0 : Nat} {h h' : ck_H} {r : Unit} (e : f_Mb_init F a0 h = some (r, h')) : Go k_Mb_init 0 (ck_in [.ref a0] 1) [] h (none, h') := by
  unfold f_Mb_init at e
  show Go k_Mb_init 0 [some (.ref a0)] [] h _
  refine go_aload_n rfl rfl ?_
  refine go_obj rfl rfl ⟨Nat.le_of_ble_eq_true rfl, Nat.le_of_ble_eq_true rfl⟩ ?_
  refine go_aload_n rfl rfl ?_
  refine go_sipush (v := 320) rfl (by decide) ?_
  refine go_newa (kc := 13) (N := 320) rfl rfl (by decide) (by decide) ?_
  obtain ⟨b1, hg_3⟩ : ∃ z, z = gn h := ⟨_, rfl⟩
  rw [← hg_3] at e ⊢
  replace e := ck_then_e e
  have hk_4 : gk (wN h 13 320) b1 = 13 := by rw [hg_3, ck_gk_wN, if_pos rfl]
  generalize wN h 13 320 = h2 at e hk_4 ⊢
  replace e := ck_then_e e
  replace e := ck_as_e e
  obtain ⟨hk_5, e⟩ := e
  refine go_put (h1 := wR h2 a0 0 (some b1)) rfl rfl hk_5 ⟨by decide, by decide, Or.inr ⟨rfl, rfl⟩⟩ rfl ?_
  have hk_7 : gk (wR h2 a0 0 (some b1)) b1 = 13 := ck_kR.trans hk_4
  have hk_8 : gk (wR h2 a0 0 (some b1)) a0 = 4 := ck_kR.trans hk_5
  generalize wR h2 a0 0 (some b1) = h6 at e hk_7 hk_8 ⊢
  replace e := ck_then_e e
  refine go_aload_n rfl rfl ?_
  refine go_bipush (v := 40) rfl (by decide) ?_
  refine go_newa (kc := 14) (N := 40) rfl rfl (by decide) (by decide) ?_
  obtain ⟨b9, hg_11⟩ : ∃ z, z = gn h6 := ⟨_, rfl⟩
  rw [← hg_11] at e ⊢
  replace e := ck_then_e e
  have hk_12 : gk (wN h6 14 40) b9 = 14 := by rw [hg_11, ck_gk_wN, if_pos rfl]
  generalize wN h6 14 40 = h10 at e hk_12 ⊢
  replace e := ck_then_e e
  replace e := ck_as_e e
  obtain ⟨hk_13, e⟩ := e
  refine go_put (h1 := wR h10 a0 1 (some b9)) rfl rfl hk_13 ⟨by decide, by decide, Or.inr ⟨rfl, rfl⟩⟩ rfl ?_
  have hk_15 : gk (wR h10 a0 1 (some b9)) b9 = 14 := ck_kR.trans hk_12
  have hk_16 : gk (wR h10 a0 1 (some b9)) a0 = 4 := ck_kR.trans hk_13
  generalize wR h10 a0 1 (some b9) = h14 at e hk_15 hk_16 ⊢
  replace e := ck_then_e e
  refine go_aload_n rfl rfl ?_
  refine go_bipush (v := 40) rfl (by decide) ?_
  refine go_newa (kc := 14) (N := 40) rfl rfl (by decide) (by decide) ?_
  obtain ⟨b17, hg_19⟩ : ∃ z, z = gn h14 := ⟨_, rfl⟩
  rw [← hg_19] at e ⊢
  replace e := ck_then_e e
  have hk_20 : gk (wN h14 14 40) b17 = 14 := by rw [hg_19, ck_gk_wN, if_pos rfl]
  generalize wN h14 14 40 = h18 at e hk_20 ⊢
  replace e := ck_then_e e
  replace e := ck_as_e e
  obtain ⟨hk_21, e⟩ := e
  refine go_put (h1 := wR h18 a0 2 (some b17)) rfl rfl hk_21 ⟨by decide, by decide, Or.inr ⟨rfl, rfl⟩⟩ rfl ?_
  have hk_23 : gk (wR h18 a0 2 (some b17)) b17 = 14 := ck_kR.trans hk_20
  have hk_24 : gk (wR h18 a0 2 (some b17)) a0 = 4 := ck_kR.trans hk_21
  generalize wR h18 a0 2 (some b17) = h22 at e hk_23 hk_24 ⊢
  replace e := ck_then_e e
  refine go_aload_n rfl rfl ?_
  refine go_bipush (v := 40) rfl (by decide) ?_
  refine go_newa (kc := 14) (N := 40) rfl rfl (by decide) (by decide) ?_
  obtain ⟨b25, hg_27⟩ : ∃ z, z = gn h22 := ⟨_, rfl⟩
  rw [← hg_27] at e ⊢
  replace e := ck_then_e e
  have hk_28 : gk (wN h22 14 40) b25 = 14 := by rw [hg_27, ck_gk_wN, if_pos rfl]
  generalize wN h22 14 40 = h26 at e hk_28 ⊢
  replace e := ck_then_e e
  replace e := ck_as_e e
  obtain ⟨hk_29, e⟩ := e
  refine go_put (h1 := wR h26 a0 3 (some b25)) rfl rfl hk_29 ⟨by decide, by decide, Or.inr ⟨rfl, rfl⟩⟩ rfl ?_
  have hk_31 : gk (wR h26 a0 3 (some b25)) b25 = 14 := ck_kR.trans hk_28
  have hk_32 : gk (wR h26 a0 3 (some b25)) a0 = 4 := ck_kR.trans hk_29
  generalize wR h26 a0 3 (some b25) = h30 at e hk_31 hk_32 ⊢
  replace e := ck_then_e e
  cases e
  exact go_ret rfl rfl
def f_DS_init (F : Nat) (a0 : Nat) (a1 : Nat) (h : ck_H) : Option (Unit × ck_H) :=
  ck_then (gn h) fun b1 =>
  ck_then (wN h 13 8) fun h2 =>
  ck_as (gk h2 a0 = 2) <|
  ck_then (wR h2 a0 1 (some b1)) fun h6 =>
  ck_then (gn h6) fun b9 =>
  ck_then (wN h6 14 4) fun h10 =>
  ck_as (gk h10 a0 = 2) <|
  ck_then (wR h10 a0 2 (some b9)) fun h14 =>
  ck_then (gn h14) fun b17 =>
  ck_then (wN h14 14 4) fun h18 =>
  ck_as (gk h18 a0 = 2) <|
  ck_then (wR h18 a0 3 (some b17)) fun h22 =>
  ck_then (gn h22) fun b25 =>
  ck_then (wN h22 4 5) fun h26 =>
  ck_bd (f_Mb_init F b25 h26) fun _ h30 =>
  ck_as (gk h30 a0 = 2) <|
  ck_then (wR h30 a0 4 (some b25)) fun h33 =>
  ck_then (wR h33 a0 0 (some a1)) fun h35 =>
  some ((), h35)
set_option maxRecDepth 100000 in
set_option maxHeartbeats 4000000 in
theorem s_DS_init {F : Nat} {a0 : Nat} {a1 : Nat} {h h' : ck_H} {r : Unit} (e : f_DS_init F a0 a1 h = some (r, h')) : Go k_DS_init 0 (ck_in [.ref a0, .ref a1] 2) [] h (none, h') := by
  unfold f_DS_init at e
  show Go k_DS_init 0 [some (.ref a0), some (.ref a1)] [] h _
  refine go_aload_n rfl rfl ?_
  refine go_obj rfl rfl ⟨Nat.le_of_ble_eq_true rfl, Nat.le_of_ble_eq_true rfl⟩ ?_
  refine go_aload_n rfl rfl ?_
  refine go_bipush (v := 8) rfl (by decide) ?_
  refine go_newa (kc := 13) (N := 8) rfl rfl (by decide) (by decide) ?_
  obtain ⟨b1, hg_3⟩ : ∃ z, z = gn h := ⟨_, rfl⟩
  rw [← hg_3] at e ⊢
  replace e := ck_then_e e
  have hk_4 : gk (wN h 13 8) b1 = 13 := by rw [hg_3, ck_gk_wN, if_pos rfl]
  generalize wN h 13 8 = h2 at e hk_4 ⊢
  replace e := ck_then_e e
  replace e := ck_as_e e
  obtain ⟨hk_5, e⟩ := e
  refine go_put (h1 := wR h2 a0 1 (some b1)) rfl rfl hk_5 ⟨by decide, by decide, Or.inr ⟨rfl, rfl⟩⟩ rfl ?_
  have hk_7 : gk (wR h2 a0 1 (some b1)) b1 = 13 := ck_kR.trans hk_4
  have hk_8 : gk (wR h2 a0 1 (some b1)) a0 = 2 := ck_kR.trans hk_5
  generalize wR h2 a0 1 (some b1) = h6 at e hk_7 hk_8 ⊢
  replace e := ck_then_e e
  refine go_aload_n rfl rfl ?_
  refine go_iconst (v := 4) rfl (by decide) ?_
  refine go_newa (kc := 14) (N := 4) rfl rfl (by decide) (by decide) ?_
  obtain ⟨b9, hg_11⟩ : ∃ z, z = gn h6 := ⟨_, rfl⟩
  rw [← hg_11] at e ⊢
  replace e := ck_then_e e
  have hk_12 : gk (wN h6 14 4) b9 = 14 := by rw [hg_11, ck_gk_wN, if_pos rfl]
  generalize wN h6 14 4 = h10 at e hk_12 ⊢
  replace e := ck_then_e e
  replace e := ck_as_e e
  obtain ⟨hk_13, e⟩ := e
  refine go_put (h1 := wR h10 a0 2 (some b9)) rfl rfl hk_13 ⟨by decide, by decide, Or.inr ⟨rfl, rfl⟩⟩ rfl ?_
  have hk_15 : gk (wR h10 a0 2 (some b9)) b9 = 14 := ck_kR.trans hk_12
  have hk_16 : gk (wR h10 a0 2 (some b9)) a0 = 2 := ck_kR.trans hk_13
  generalize wR h10 a0 2 (some b9) = h14 at e hk_15 hk_16 ⊢
  replace e := ck_then_e e
  refine go_aload_n rfl rfl ?_
  refine go_iconst (v := 4) rfl (by decide) ?_
  refine go_newa (kc := 14) (N := 4) rfl rfl (by decide) (by decide) ?_
  obtain ⟨b17, hg_19⟩ : ∃ z, z = gn h14 := ⟨_, rfl⟩
  rw [← hg_19] at e ⊢
  replace e := ck_then_e e
  have hk_20 : gk (wN h14 14 4) b17 = 14 := by rw [hg_19, ck_gk_wN, if_pos rfl]
  generalize wN h14 14 4 = h18 at e hk_20 ⊢
  replace e := ck_then_e e
  replace e := ck_as_e e
  obtain ⟨hk_21, e⟩ := e
  refine go_put (h1 := wR h18 a0 3 (some b17)) rfl rfl hk_21 ⟨by decide, by decide, Or.inr ⟨rfl, rfl⟩⟩ rfl ?_
  have hk_23 : gk (wR h18 a0 3 (some b17)) b17 = 14 := ck_kR.trans hk_20
  have hk_24 : gk (wR h18 a0 3 (some b17)) a0 = 2 := ck_kR.trans hk_21
  generalize wR h18 a0 3 (some b17) = h22 at e hk_23 hk_24 ⊢
  replace e := ck_then_e e
  refine go_aload_n rfl rfl ?_
  refine go_new (kc := 4) (n := 5) rfl rfl (by decide) rfl ?_
  obtain ⟨b25, hg_27⟩ : ∃ z, z = gn h22 := ⟨_, rfl⟩
  rw [← hg_27] at e ⊢
  replace e := ck_then_e e
  have hk_28 : gk (wN h22 4 5) b25 = 4 := by rw [hg_27, ck_gk_wN, if_pos rfl]
  generalize wN h22 4 5 = h26 at e hk_28 ⊢
  replace e := ck_then_e e
  refine go_dup rfl rfl ?_
  replace e := ck_bd_e e
  obtain ⟨r29, h30, e31, e⟩ := e
  refine go_callN (As := []) (b0 := b25) (rest := [.ref b25, .ref a0]) rfl rfl rfl ⟨Nat.le_of_ble_eq_true rfl, Nat.le_of_ble_eq_true rfl, Nat.le_of_ble_eq_true rfl, Nat.le_of_ble_eq_true rfl⟩ (s_Mb_init e31) ?_
  show Go k_DS_init 34 [some (.ref a0), some (.ref a1)] [.ref b25, .ref a0] h30 _
  replace e := ck_as_e e
  obtain ⟨hk_32, e⟩ := e
  refine go_put (h1 := wR h30 a0 4 (some b25)) rfl rfl hk_32 ⟨by decide, by decide, Or.inr ⟨rfl, rfl⟩⟩ rfl ?_
  have hk_34 : gk (wR h30 a0 4 (some b25)) a0 = 2 := ck_kR.trans hk_32
  generalize wR h30 a0 4 (some b25) = h33 at e hk_34 ⊢
  replace e := ck_then_e e
  refine go_aload_n rfl rfl ?_
  refine go_aload_n rfl rfl ?_
  refine go_put (h1 := wR h33 a0 0 (some a1)) rfl rfl hk_34 ⟨by decide, by decide, Or.inr ⟨rfl, rfl⟩⟩ rfl ?_
  have hk_36 : gk (wR h33 a0 0 (some a1)) a0 = 2 := ck_kR.trans hk_34
  generalize wR h33 a0 0 (some a1) = h35 at e hk_36 ⊢
  replace e := ck_then_e e
  cases e
  exact go_ret rfl rfl
def f_Vo_init_L71 (F : Nat)  : Nat → Nat → Nat → Int32 → ck_H → Option (Unit × ck_H)
  | 0, _, _, _, _ => none
  | n + 1, a0, a1, v2, h =>
    if v2 < (10 : Int32) then
      ck_as (gk h a0 = 10) <|
      ck_some (gR h a0 1) fun b3 =>
      ck_then (gn h) fun b5 =>
      ck_then (wN h 2 10) fun h6 =>
      ck_bd (f_DS_init F b5 a1 h6) fun _ h10 =>
      ck_as (gk h10 b5 < 13 ∧ ck_ka (gk h10 b3) = some (gk h10 b5) ∧ ¬ v2 < 0 ∧ (v2 : Int32).toNatClampNeg < gz h10 b3) <|
      ck_then (wR h10 b3 (v2 : Int32).toNatClampNeg (some b5)) fun h13 =>
      f_Vo_init_L71 F n a0 a1 (v2 + 1) h13
    else
      some ((), h)
set_option maxRecDepth 100000 in
set_option maxHeartbeats 4000000 in
theorem f_Vo_init_L71_s (F : Nat)   : ∀ (n : Nat) (a0 : Nat) (a1 : Nat) (v2 : Int32) (h : ck_H) (r : Unit) (h' : ck_H), f_Vo_init_L71 F n a0 a1 v2 h = some (r, h') → Go k_Vo_init 71 [some (.ref a0), some (.ref a1), some (.int v2)] [] h (none, h') := by
  intro n
  induction n with
  | zero => intro a0 a1 v2 h r h' e; simp only [f_Vo_init_L71] at e; cases e
  | succ n ih =>
    intro a0 a1 v2 h r h' e
    rw [f_Vo_init_L71] at e
    refine go_iload_n rfl rfl ?_
    refine go_bipush (v := 10) rfl (by decide) ?_
    refine go_icmp_ge (t := 97) rfl rfl (fun hx_1 => ?_) (fun hx_1 => ?_)
    · rw [if_pos hx_1] at e
      refine go_aload_n rfl rfl ?_
      replace e := ck_as_e e
      obtain ⟨hk_2, e⟩ := e
      replace e := ck_some_e e
      obtain ⟨b3, hq_4, e⟩ := e
      refine go_get (v := .ref b3) rfl rfl hk_2 (by decide) (by show va_rf (gR h a0 1) = _; rw [hq_4]; rfl) ?_
      refine go_iload_n rfl rfl ?_
      refine go_new (kc := 2) (n := 10) rfl rfl (by decide) rfl ?_
      obtain ⟨b5, hg_7⟩ : ∃ z, z = gn h := ⟨_, rfl⟩
      rw [← hg_7] at e ⊢
      replace e := ck_then_e e
      have hk_8 : gk (wN h 2 10) b5 = 2 := by rw [hg_7, ck_gk_wN, if_pos rfl]
      generalize wN h 2 10 = h6 at e hk_8 ⊢
      replace e := ck_then_e e
      refine go_dup rfl rfl ?_
      refine go_aload_n rfl rfl ?_
      replace e := ck_bd_e e
      obtain ⟨r9, h10, e11, e⟩ := e
      refine go_callI (As := [.ref a1]) (b0 := b5) (rest := [.ref b5, .int v2, .ref b3]) rfl rfl rfl ⟨Nat.le_of_ble_eq_true rfl, Nat.le_of_ble_eq_true rfl, Nat.le_of_ble_eq_true rfl, Nat.le_of_ble_eq_true rfl⟩ (s_DS_init e11) ?_
      show Go k_Vo_init 90 [some (.ref a0), some (.ref a1), some (.int v2)] [.ref b5, .int v2, .ref b3] h10 _
      replace e := ck_as_e e
      obtain ⟨hc_12, e⟩ := e
      refine go_aast rfl hc_12 ?_
      generalize wR h10 b3 (v2 : Int32).toNatClampNeg (some b5) = h13 at e  ⊢
      replace e := ck_then_e e
      refine go_iinc (v := 1) rfl rfl (by decide) rfl ?_
      show Go k_Vo_init 94 [some (.ref a0), some (.ref a1), some (.int (v2 + 1))] [] h13 _
      refine go_goto (t := 71) rfl rfl ?_
      refine go_forget (l := [some (.ref a0), some (.ref a1), some (.int (v2 + 1))]) ⟨Or.inl rfl, Or.inl rfl, Or.inl rfl, trivial⟩ ?_
      exact ih _ _ _ _ _ _ e
    · rw [if_neg hx_1] at e
      cases e
      exact go_ret rfl rfl
def f_Vo_init (F : Nat) (a0 : Nat) (a1 : Nat) (h : ck_H) : Option (Unit × ck_H) :=
  ck_then (gn h) fun b1 =>
  ck_then (wN h 17 10) fun h2 =>
  ck_as (gk h2 a0 = 10) <|
  ck_then (wR h2 a0 1 (some b1)) fun h6 =>
  ck_then (gn h6) fun b9 =>
  ck_then (wN h6 15 80) fun h10 =>
  ck_as (gk h10 a0 = 10) <|
  ck_then (wR h10 a0 2 (some b9)) fun h14 =>
  ck_then (gn h14) fun b17 =>
  ck_then (wN h14 14 4) fun h18 =>
  ck_as (gk h18 a0 = 10) <|
  ck_then (wR h18 a0 3 (some b17)) fun h22 =>
  ck_then (gn h22) fun b25 =>
  ck_then (wN h22 14 4) fun h26 =>
  ck_as (gk h26 a0 = 10) <|
  ck_then (wR h26 a0 4 (some b25)) fun h30 =>
  ck_then (gn h30) fun b33 =>
  ck_then (wN h30 6 2) fun h34 =>
  ck_bd (f_Rw_init F b33 h34) fun _ h38 =>
  ck_as (gk h38 a0 = 10) <|
  ck_then (wR h38 a0 5 (some b33)) fun h41 =>
  ck_then (gn h41) fun b43 =>
  ck_then (wN h41 8 3) fun h44 =>
  ck_bd (f_Tr_init F b43 h44) fun _ h48 =>
  ck_as (gk h48 a0 = 10) <|
  ck_then (wR h48 a0 6 (some b43)) fun h51 =>
  ck_then (wR h51 a0 0 (some a1)) fun h53 =>
  ck_some (gR h53 a0 2) fun b55 =>
  ck_as (gk h53 b55 = 15 ∧ ((1 : Int32) = 0 ∨ (1 : Int32) = 1) ∧ ¬ (0 : Int32) < 0 ∧ (0 : Int32).toNatClampNeg < gz h53 b55) <|
  ck_then (wI h53 b55 (0 : Int32).toNatClampNeg 1) fun h58 =>
  f_Vo_init_L71 F F a0 a1 0 h58
set_option maxRecDepth 100000 in
set_option maxHeartbeats 4000000 in
theorem s_Vo_init {F : Nat} {a0 : Nat} {a1 : Nat} {h h' : ck_H} {r : Unit} (e : f_Vo_init F a0 a1 h = some (r, h')) : Go k_Vo_init 0 (ck_in [.ref a0, .ref a1] 3) [] h (none, h') := by
  unfold f_Vo_init at e
  show Go k_Vo_init 0 [some (.ref a0), some (.ref a1), none] [] h _
  refine go_aload_n rfl rfl ?_
  refine go_obj rfl rfl ⟨Nat.le_of_ble_eq_true rfl, Nat.le_of_ble_eq_true rfl⟩ ?_
  refine go_aload_n rfl rfl ?_
  refine go_bipush (v := 10) rfl (by decide) ?_
  refine go_anew (kc := 17) (N := 10) rfl rfl (by decide) (by decide) ?_
  obtain ⟨b1, hg_3⟩ : ∃ z, z = gn h := ⟨_, rfl⟩
  rw [← hg_3] at e ⊢
  replace e := ck_then_e e
  have hk_4 : gk (wN h 17 10) b1 = 17 := by rw [hg_3, ck_gk_wN, if_pos rfl]
  generalize wN h 17 10 = h2 at e hk_4 ⊢
  replace e := ck_then_e e
  replace e := ck_as_e e
  obtain ⟨hk_5, e⟩ := e
  refine go_put (h1 := wR h2 a0 1 (some b1)) rfl rfl hk_5 ⟨by decide, by decide, Or.inr ⟨rfl, rfl⟩⟩ rfl ?_
  have hk_7 : gk (wR h2 a0 1 (some b1)) b1 = 17 := ck_kR.trans hk_4
  have hk_8 : gk (wR h2 a0 1 (some b1)) a0 = 10 := ck_kR.trans hk_5
  generalize wR h2 a0 1 (some b1) = h6 at e hk_7 hk_8 ⊢
  replace e := ck_then_e e
  refine go_aload_n rfl rfl ?_
  refine go_bipush (v := 80) rfl (by decide) ?_
  refine go_newa (kc := 15) (N := 80) rfl rfl (by decide) (by decide) ?_
  obtain ⟨b9, hg_11⟩ : ∃ z, z = gn h6 := ⟨_, rfl⟩
  rw [← hg_11] at e ⊢
  replace e := ck_then_e e
  have hk_12 : gk (wN h6 15 80) b9 = 15 := by rw [hg_11, ck_gk_wN, if_pos rfl]
  generalize wN h6 15 80 = h10 at e hk_12 ⊢
  replace e := ck_then_e e
  replace e := ck_as_e e
  obtain ⟨hk_13, e⟩ := e
  refine go_put (h1 := wR h10 a0 2 (some b9)) rfl rfl hk_13 ⟨by decide, by decide, Or.inr ⟨rfl, rfl⟩⟩ rfl ?_
  have hk_15 : gk (wR h10 a0 2 (some b9)) b9 = 15 := ck_kR.trans hk_12
  have hk_16 : gk (wR h10 a0 2 (some b9)) a0 = 10 := ck_kR.trans hk_13
  generalize wR h10 a0 2 (some b9) = h14 at e hk_15 hk_16 ⊢
  replace e := ck_then_e e
  refine go_aload_n rfl rfl ?_
  refine go_iconst (v := 4) rfl (by decide) ?_
  refine go_newa (kc := 14) (N := 4) rfl rfl (by decide) (by decide) ?_
  obtain ⟨b17, hg_19⟩ : ∃ z, z = gn h14 := ⟨_, rfl⟩
  rw [← hg_19] at e ⊢
  replace e := ck_then_e e
  have hk_20 : gk (wN h14 14 4) b17 = 14 := by rw [hg_19, ck_gk_wN, if_pos rfl]
  generalize wN h14 14 4 = h18 at e hk_20 ⊢
  replace e := ck_then_e e
  replace e := ck_as_e e
  obtain ⟨hk_21, e⟩ := e
  refine go_put (h1 := wR h18 a0 3 (some b17)) rfl rfl hk_21 ⟨by decide, by decide, Or.inr ⟨rfl, rfl⟩⟩ rfl ?_
  have hk_23 : gk (wR h18 a0 3 (some b17)) b17 = 14 := ck_kR.trans hk_20
  have hk_24 : gk (wR h18 a0 3 (some b17)) a0 = 10 := ck_kR.trans hk_21
  generalize wR h18 a0 3 (some b17) = h22 at e hk_23 hk_24 ⊢
  replace e := ck_then_e e
  refine go_aload_n rfl rfl ?_
  refine go_iconst (v := 4) rfl (by decide) ?_
  refine go_newa (kc := 14) (N := 4) rfl rfl (by decide) (by decide) ?_
  obtain ⟨b25, hg_27⟩ : ∃ z, z = gn h22 := ⟨_, rfl⟩
  rw [← hg_27] at e ⊢
  replace e := ck_then_e e
  have hk_28 : gk (wN h22 14 4) b25 = 14 := by rw [hg_27, ck_gk_wN, if_pos rfl]
  generalize wN h22 14 4 = h26 at e hk_28 ⊢
  replace e := ck_then_e e
  replace e := ck_as_e e
  obtain ⟨hk_29, e⟩ := e
  refine go_put (h1 := wR h26 a0 4 (some b25)) rfl rfl hk_29 ⟨by decide, by decide, Or.inr ⟨rfl, rfl⟩⟩ rfl ?_
  have hk_31 : gk (wR h26 a0 4 (some b25)) b25 = 14 := ck_kR.trans hk_28
  have hk_32 : gk (wR h26 a0 4 (some b25)) a0 = 10 := ck_kR.trans hk_29
  generalize wR h26 a0 4 (some b25) = h30 at e hk_31 hk_32 ⊢
  replace e := ck_then_e e
  refine go_aload_n rfl rfl ?_
  refine go_new (kc := 6) (n := 2) rfl rfl (by decide) rfl ?_
  obtain ⟨b33, hg_35⟩ : ∃ z, z = gn h30 := ⟨_, rfl⟩
  rw [← hg_35] at e ⊢
  replace e := ck_then_e e
  have hk_36 : gk (wN h30 6 2) b33 = 6 := by rw [hg_35, ck_gk_wN, if_pos rfl]
  generalize wN h30 6 2 = h34 at e hk_36 ⊢
  replace e := ck_then_e e
  refine go_dup rfl rfl ?_
  replace e := ck_bd_e e
  obtain ⟨r37, h38, e39, e⟩ := e
  refine go_callN (As := []) (b0 := b33) (rest := [.ref b33, .ref a0]) rfl rfl rfl ⟨Nat.le_of_ble_eq_true rfl, Nat.le_of_ble_eq_true rfl, Nat.le_of_ble_eq_true rfl, Nat.le_of_ble_eq_true rfl⟩ (s_Rw_init e39) ?_
  show Go k_Vo_init 43 [some (.ref a0), some (.ref a1), none] [.ref b33, .ref a0] h38 _
  replace e := ck_as_e e
  obtain ⟨hk_40, e⟩ := e
  refine go_put (h1 := wR h38 a0 5 (some b33)) rfl rfl hk_40 ⟨by decide, by decide, Or.inr ⟨rfl, rfl⟩⟩ rfl ?_
  have hk_42 : gk (wR h38 a0 5 (some b33)) a0 = 10 := ck_kR.trans hk_40
  generalize wR h38 a0 5 (some b33) = h41 at e hk_42 ⊢
  replace e := ck_then_e e
  refine go_aload_n rfl rfl ?_
  refine go_new (kc := 8) (n := 3) rfl rfl (by decide) rfl ?_
  obtain ⟨b43, hg_45⟩ : ∃ z, z = gn h41 := ⟨_, rfl⟩
  rw [← hg_45] at e ⊢
  replace e := ck_then_e e
  have hk_46 : gk (wN h41 8 3) b43 = 8 := by rw [hg_45, ck_gk_wN, if_pos rfl]
  generalize wN h41 8 3 = h44 at e hk_46 ⊢
  replace e := ck_then_e e
  refine go_dup rfl rfl ?_
  replace e := ck_bd_e e
  obtain ⟨r47, h48, e49, e⟩ := e
  refine go_callI (As := []) (b0 := b43) (rest := [.ref b43, .ref a0]) rfl rfl rfl ⟨Nat.le_of_ble_eq_true rfl, Nat.le_of_ble_eq_true rfl, Nat.le_of_ble_eq_true rfl, Nat.le_of_ble_eq_true rfl⟩ (s_Tr_init e49) ?_
  show Go k_Vo_init 54 [some (.ref a0), some (.ref a1), none] [.ref b43, .ref a0] h48 _
  replace e := ck_as_e e
  obtain ⟨hk_50, e⟩ := e
  refine go_put (h1 := wR h48 a0 6 (some b43)) rfl rfl hk_50 ⟨by decide, by decide, Or.inr ⟨rfl, rfl⟩⟩ rfl ?_
  have hk_52 : gk (wR h48 a0 6 (some b43)) a0 = 10 := ck_kR.trans hk_50
  generalize wR h48 a0 6 (some b43) = h51 at e hk_52 ⊢
  replace e := ck_then_e e
  refine go_aload_n rfl rfl ?_
  refine go_aload_n rfl rfl ?_
  refine go_put (h1 := wR h51 a0 0 (some a1)) rfl rfl hk_52 ⟨by decide, by decide, Or.inr ⟨rfl, rfl⟩⟩ rfl ?_
  have hk_54 : gk (wR h51 a0 0 (some a1)) a0 = 10 := ck_kR.trans hk_52
  generalize wR h51 a0 0 (some a1) = h53 at e hk_54 ⊢
  replace e := ck_then_e e
  refine go_aload_n rfl rfl ?_
  replace e := ck_some_e e
  obtain ⟨b55, hq_56, e⟩ := e
  refine go_get (v := .ref b55) rfl rfl hk_54 (by decide) (by show va_rf (gR h53 a0 2) = _; rw [hq_56]; rfl) ?_
  refine go_iconst (v := 0) rfl (by decide) ?_
  refine go_iconst (v := 1) rfl (by decide) ?_
  replace e := ck_as_e e
  obtain ⟨hc_57, e⟩ := e
  refine go_zast rfl hc_57 ?_
  have hk_59 : gk (wI h53 b55 (0 : Int32).toNatClampNeg 1) a0 = 10 := ck_kI.trans hk_54
  generalize wI h53 b55 (0 : Int32).toNatClampNeg 1 = h58 at e hk_59 ⊢
  replace e := ck_then_e e
  refine go_iconst (v := 0) rfl (by decide) ?_
  refine go_istore_n rfl rfl ?_
  show Go k_Vo_init 71 [some (.ref a0), some (.ref a1), some (.int 0)] [] h58 _
  refine go_forget (l := [some (.ref a0), some (.ref a1), some (.int 0)]) ⟨Or.inl rfl, Or.inl rfl, Or.inl rfl, trivial⟩ ?_
  exact f_Vo_init_L71_s F F _ _ _ _ _ _ e
def f_Mk_init (F : Nat) (a0 : Nat) (h : ck_H) : Option (Unit × ck_H) :=
  ck_then (gn h) fun b1 =>
  ck_then (wN h 6 2) fun h2 =>
  ck_bd (f_Rw_init F b1 h2) fun _ h6 =>
  ck_as (gk h6 a0 = 3) <|
  ck_then (wR h6 a0 0 (some b1)) fun h9 =>
  some ((), h9)
set_option maxRecDepth 100000 in
set_option maxHeartbeats 4000000 in
theorem s_Mk_init {F : Nat} {a0 : Nat} {h h' : ck_H} {r : Unit} (e : f_Mk_init F a0 h = some (r, h')) : Go k_Mk_init 0 (ck_in [.ref a0] 1) [] h (none, h') := by
  unfold f_Mk_init at e
  show Go k_Mk_init 0 [some (.ref a0)] [] h _
  refine go_aload_n rfl rfl ?_
  refine go_obj rfl rfl ⟨Nat.le_of_ble_eq_true rfl, Nat.le_of_ble_eq_true rfl⟩ ?_
  refine go_aload_n rfl rfl ?_
  refine go_new (kc := 6) (n := 2) rfl rfl (by decide) rfl ?_
  obtain ⟨b1, hg_3⟩ : ∃ z, z = gn h := ⟨_, rfl⟩
  rw [← hg_3] at e ⊢
  replace e := ck_then_e e
  have hk_4 : gk (wN h 6 2) b1 = 6 := by rw [hg_3, ck_gk_wN, if_pos rfl]
  generalize wN h 6 2 = h2 at e hk_4 ⊢
  replace e := ck_then_e e
  refine go_dup rfl rfl ?_
  replace e := ck_bd_e e
  obtain ⟨r5, h6, e7, e⟩ := e
  refine go_callN (As := []) (b0 := b1) (rest := [.ref b1, .ref a0]) rfl rfl rfl ⟨Nat.le_of_ble_eq_true rfl, Nat.le_of_ble_eq_true rfl, Nat.le_of_ble_eq_true rfl, Nat.le_of_ble_eq_true rfl⟩ (s_Rw_init e7) ?_
  show Go k_Mk_init 12 [some (.ref a0)] [.ref b1, .ref a0] h6 _
  replace e := ck_as_e e
  obtain ⟨hk_8, e⟩ := e
  refine go_put (h1 := wR h6 a0 0 (some b1)) rfl rfl hk_8 ⟨by decide, by decide, Or.inr ⟨rfl, rfl⟩⟩ rfl ?_
  have hk_10 : gk (wR h6 a0 0 (some b1)) a0 = 3 := ck_kR.trans hk_8
  generalize wR h6 a0 0 (some b1) = h9 at e hk_10 ⊢
  replace e := ck_then_e e
  cases e
  exact go_ret rfl rfl
def f_Sp_init (F : Nat) (a0 : Nat) (h : ck_H) : Option (Unit × ck_H) :=
  some ((), h)
set_option maxRecDepth 100000 in
set_option maxHeartbeats 4000000 in
theorem s_Sp_init {F : Nat} {a0 : Nat} {h h' : ck_H} {r : Unit} (e : f_Sp_init F a0 h = some (r, h')) : Go k_Sp_init 0 (ck_in [.ref a0] 1) [] h (none, h') := by
  unfold f_Sp_init at e
  show Go k_Sp_init 0 [some (.ref a0)] [] h _
  refine go_aload_n rfl rfl ?_
  refine go_obj rfl rfl ⟨Nat.le_of_ble_eq_true rfl, Nat.le_of_ble_eq_true rfl⟩ ?_
  cases e
  exact go_ret rfl rfl
def f_Op_init (F : Nat) (a0 : Nat) (h : ck_H) : Option (Unit × ck_H) :=
  ck_then (gn h) fun b1 =>
  ck_then (wN h 3 6) fun h2 =>
  ck_bd (f_Mk_init F b1 h2) fun _ h6 =>
  ck_as (gk h6 a0 = 5) <|
  ck_then (wR h6 a0 0 (some b1)) fun h9 =>
  ck_then (gn h9) fun b11 =>
  ck_then (wN h9 7 4) fun h12 =>
  ck_bd (f_Sp_init F b11 h12) fun _ h16 =>
  ck_as (gk h16 a0 = 5) <|
  ck_then (wR h16 a0 1 (some b11)) fun h19 =>
  ck_then (gn h19) fun b21 =>
  ck_then (wN h19 7 4) fun h22 =>
  ck_bd (f_Sp_init F b21 h22) fun _ h26 =>
  ck_as (gk h26 a0 = 5) <|
  ck_then (wR h26 a0 2 (some b21)) fun h29 =>
  ck_then (gn h29) fun b31 =>
  ck_then (wN h29 7 4) fun h32 =>
  ck_bd (f_Sp_init F b31 h32) fun _ h36 =>
  ck_as (gk h36 a0 = 5) <|
  ck_then (wR h36 a0 3 (some b31)) fun h39 =>
  some ((), h39)
set_option maxRecDepth 100000 in
set_option maxHeartbeats 4000000 in
theorem s_Op_init {F : Nat} {a0 : Nat} {h h' : ck_H} {r : Unit} (e : f_Op_init F a0 h = some (r, h')) : Go k_Op_init 0 (ck_in [.ref a0] 1) [] h (none, h') := by
  unfold f_Op_init at e
  show Go k_Op_init 0 [some (.ref a0)] [] h _
  refine go_aload_n rfl rfl ?_
  refine go_obj rfl rfl ⟨Nat.le_of_ble_eq_true rfl, Nat.le_of_ble_eq_true rfl⟩ ?_
  refine go_aload_n rfl rfl ?_
  refine go_new (kc := 3) (n := 6) rfl rfl (by decide) rfl ?_
  obtain ⟨b1, hg_3⟩ : ∃ z, z = gn h := ⟨_, rfl⟩
  rw [← hg_3] at e ⊢
  replace e := ck_then_e e
  have hk_4 : gk (wN h 3 6) b1 = 3 := by rw [hg_3, ck_gk_wN, if_pos rfl]
  generalize wN h 3 6 = h2 at e hk_4 ⊢
  replace e := ck_then_e e
  refine go_dup rfl rfl ?_
  replace e := ck_bd_e e
  obtain ⟨r5, h6, e7, e⟩ := e
  refine go_callN (As := []) (b0 := b1) (rest := [.ref b1, .ref a0]) rfl rfl rfl ⟨Nat.le_of_ble_eq_true rfl, Nat.le_of_ble_eq_true rfl, Nat.le_of_ble_eq_true rfl, Nat.le_of_ble_eq_true rfl⟩ (s_Mk_init e7) ?_
  show Go k_Op_init 12 [some (.ref a0)] [.ref b1, .ref a0] h6 _
  replace e := ck_as_e e
  obtain ⟨hk_8, e⟩ := e
  refine go_put (h1 := wR h6 a0 0 (some b1)) rfl rfl hk_8 ⟨by decide, by decide, Or.inr ⟨rfl, rfl⟩⟩ rfl ?_
  have hk_10 : gk (wR h6 a0 0 (some b1)) a0 = 5 := ck_kR.trans hk_8
  generalize wR h6 a0 0 (some b1) = h9 at e hk_10 ⊢
  replace e := ck_then_e e
  refine go_aload_n rfl rfl ?_
  refine go_new (kc := 7) (n := 4) rfl rfl (by decide) rfl ?_
  obtain ⟨b11, hg_13⟩ : ∃ z, z = gn h9 := ⟨_, rfl⟩
  rw [← hg_13] at e ⊢
  replace e := ck_then_e e
  have hk_14 : gk (wN h9 7 4) b11 = 7 := by rw [hg_13, ck_gk_wN, if_pos rfl]
  generalize wN h9 7 4 = h12 at e hk_14 ⊢
  replace e := ck_then_e e
  refine go_dup rfl rfl ?_
  replace e := ck_bd_e e
  obtain ⟨r15, h16, e17, e⟩ := e
  refine go_callN (As := []) (b0 := b11) (rest := [.ref b11, .ref a0]) rfl rfl rfl ⟨Nat.le_of_ble_eq_true rfl, Nat.le_of_ble_eq_true rfl, Nat.le_of_ble_eq_true rfl, Nat.le_of_ble_eq_true rfl⟩ (s_Sp_init e17) ?_
  show Go k_Op_init 23 [some (.ref a0)] [.ref b11, .ref a0] h16 _
  replace e := ck_as_e e
  obtain ⟨hk_18, e⟩ := e
  refine go_put (h1 := wR h16 a0 1 (some b11)) rfl rfl hk_18 ⟨by decide, by decide, Or.inr ⟨rfl, rfl⟩⟩ rfl ?_
  have hk_20 : gk (wR h16 a0 1 (some b11)) a0 = 5 := ck_kR.trans hk_18
  generalize wR h16 a0 1 (some b11) = h19 at e hk_20 ⊢
  replace e := ck_then_e e
  refine go_aload_n rfl rfl ?_
  refine go_new (kc := 7) (n := 4) rfl rfl (by decide) rfl ?_
  obtain ⟨b21, hg_23⟩ : ∃ z, z = gn h19 := ⟨_, rfl⟩
  rw [← hg_23] at e ⊢
  replace e := ck_then_e e
  have hk_24 : gk (wN h19 7 4) b21 = 7 := by rw [hg_23, ck_gk_wN, if_pos rfl]
  generalize wN h19 7 4 = h22 at e hk_24 ⊢
  replace e := ck_then_e e
  refine go_dup rfl rfl ?_
  replace e := ck_bd_e e
  obtain ⟨r25, h26, e27, e⟩ := e
  refine go_callN (As := []) (b0 := b21) (rest := [.ref b21, .ref a0]) rfl rfl rfl ⟨Nat.le_of_ble_eq_true rfl, Nat.le_of_ble_eq_true rfl, Nat.le_of_ble_eq_true rfl, Nat.le_of_ble_eq_true rfl⟩ (s_Sp_init e27) ?_
  show Go k_Op_init 34 [some (.ref a0)] [.ref b21, .ref a0] h26 _
  replace e := ck_as_e e
  obtain ⟨hk_28, e⟩ := e
  refine go_put (h1 := wR h26 a0 2 (some b21)) rfl rfl hk_28 ⟨by decide, by decide, Or.inr ⟨rfl, rfl⟩⟩ rfl ?_
  have hk_30 : gk (wR h26 a0 2 (some b21)) a0 = 5 := ck_kR.trans hk_28
  generalize wR h26 a0 2 (some b21) = h29 at e hk_30 ⊢
  replace e := ck_then_e e
  refine go_aload_n rfl rfl ?_
  refine go_new (kc := 7) (n := 4) rfl rfl (by decide) rfl ?_
  obtain ⟨b31, hg_33⟩ : ∃ z, z = gn h29 := ⟨_, rfl⟩
  rw [← hg_33] at e ⊢
  replace e := ck_then_e e
  have hk_34 : gk (wN h29 7 4) b31 = 7 := by rw [hg_33, ck_gk_wN, if_pos rfl]
  generalize wN h29 7 4 = h32 at e hk_34 ⊢
  replace e := ck_then_e e
  refine go_dup rfl rfl ?_
  replace e := ck_bd_e e
  obtain ⟨r35, h36, e37, e⟩ := e
  refine go_callN (As := []) (b0 := b31) (rest := [.ref b31, .ref a0]) rfl rfl rfl ⟨Nat.le_of_ble_eq_true rfl, Nat.le_of_ble_eq_true rfl, Nat.le_of_ble_eq_true rfl, Nat.le_of_ble_eq_true rfl⟩ (s_Sp_init e37) ?_
  show Go k_Op_init 45 [some (.ref a0)] [.ref b31, .ref a0] h36 _
  replace e := ck_as_e e
  obtain ⟨hk_38, e⟩ := e
  refine go_put (h1 := wR h36 a0 3 (some b31)) rfl rfl hk_38 ⟨by decide, by decide, Or.inr ⟨rfl, rfl⟩⟩ rfl ?_
  have hk_40 : gk (wR h36 a0 3 (some b31)) a0 = 5 := ck_kR.trans hk_38
  generalize wR h36 a0 3 (some b31) = h39 at e hk_40 ⊢
  replace e := ck_then_e e
  cases e
  exact go_ret rfl rfl
def f_CS_init_L115 (F : Nat)  : Nat → Nat → Int32 → ck_H → Option (Unit × ck_H)
  | 0, _, _, _ => none
  | n + 1, a0, v2, h =>
    if v2 < (4 : Int32) then
      ck_as (gk h a0 = 11) <|
      ck_some (gR h a0 7) fun b3 =>
      ck_then (gn h) fun b5 =>
      ck_then (wN h 5 10) fun h6 =>
      ck_bd (f_Op_init F b5 h6) fun _ h10 =>
      ck_as (gk h10 b5 < 13 ∧ ck_ka (gk h10 b3) = some (gk h10 b5) ∧ ¬ v2 < 0 ∧ (v2 : Int32).toNatClampNeg < gz h10 b3) <|
      ck_then (wR h10 b3 (v2 : Int32).toNatClampNeg (some b5)) fun h13 =>
      f_CS_init_L115 F n a0 (v2 + 1) h13
    else
      some ((), h)
set_option maxRecDepth 100000 in
set_option maxHeartbeats 4000000 in
theorem f_CS_init_L115_s (F : Nat)   : ∀ (n : Nat) (a0 : Nat) (v2 : Int32) (h : ck_H) (r : Unit) (h' : ck_H), f_CS_init_L115 F n a0 v2 h = some (r, h') → Go k_CS_init 115 [some (.ref a0), none, some (.int v2)] [] h (none, h') := by
  intro n
  induction n with
  | zero => intro a0 v2 h r h' e; simp only [f_CS_init_L115] at e; cases e
  | succ n ih =>
    intro a0 v2 h r h' e
    rw [f_CS_init_L115] at e
    refine go_iload_n rfl rfl ?_
    refine go_iconst (v := 4) rfl (by decide) ?_
    refine go_icmp_ge (t := 139) rfl rfl (fun hx_1 => ?_) (fun hx_1 => ?_)
    · rw [if_pos hx_1] at e
      refine go_aload_n rfl rfl ?_
      replace e := ck_as_e e
      obtain ⟨hk_2, e⟩ := e
      replace e := ck_some_e e
      obtain ⟨b3, hq_4, e⟩ := e
      refine go_get (v := .ref b3) rfl rfl hk_2 (by decide) (by show va_rf (gR h a0 7) = _; rw [hq_4]; rfl) ?_
      refine go_iload_n rfl rfl ?_
      refine go_new (kc := 5) (n := 10) rfl rfl (by decide) rfl ?_
      obtain ⟨b5, hg_7⟩ : ∃ z, z = gn h := ⟨_, rfl⟩
      rw [← hg_7] at e ⊢
      replace e := ck_then_e e
      have hk_8 : gk (wN h 5 10) b5 = 5 := by rw [hg_7, ck_gk_wN, if_pos rfl]
      generalize wN h 5 10 = h6 at e hk_8 ⊢
      replace e := ck_then_e e
      refine go_dup rfl rfl ?_
      replace e := ck_bd_e e
      obtain ⟨r9, h10, e11, e⟩ := e
      refine go_callN (As := []) (b0 := b5) (rest := [.ref b5, .int v2, .ref b3]) rfl rfl rfl ⟨Nat.le_of_ble_eq_true rfl, Nat.le_of_ble_eq_true rfl, Nat.le_of_ble_eq_true rfl, Nat.le_of_ble_eq_true rfl⟩ (s_Op_init e11) ?_
      show Go k_CS_init 132 [some (.ref a0), none, some (.int v2)] [.ref b5, .int v2, .ref b3] h10 _
      replace e := ck_as_e e
      obtain ⟨hc_12, e⟩ := e
      refine go_aast rfl hc_12 ?_
      generalize wR h10 b3 (v2 : Int32).toNatClampNeg (some b5) = h13 at e  ⊢
      replace e := ck_then_e e
      refine go_iinc (v := 1) rfl rfl (by decide) rfl ?_
      show Go k_CS_init 136 [some (.ref a0), none, some (.int (v2 + 1))] [] h13 _
      refine go_goto (t := 115) rfl rfl ?_
      refine go_forget (l := [some (.ref a0), none, some (.int (v2 + 1))]) ⟨Or.inl rfl, Or.inl rfl, Or.inl rfl, trivial⟩ ?_
      exact ih _ _ _ _ _ e
    · rw [if_neg hx_1] at e
      cases e
      exact go_ret rfl rfl
def f_CS_init_J101 (F : Nat)  (a0 : Nat) (a1 : Nat) (h : ck_H) : Option (Unit × ck_H) :=
  ck_then (gn h) fun b1 =>
  ck_then (wN h 10 8) fun h2 =>
  ck_bd (f_Vo_init F b1 a1 h2) fun _ h6 =>
  ck_as (gk h6 a0 = 11) <|
  ck_then (wR h6 a0 6 (some b1)) fun h9 =>
  f_CS_init_L115 F F a0 0 h9
set_option maxRecDepth 100000 in
set_option maxHeartbeats 4000000 in
theorem f_CS_init_J101_s (F : Nat)   (a0 : Nat) (a1 : Nat) (h : ck_H) (r : Unit) (h' : ck_H) (e : f_CS_init_J101 F  a0 a1 h = some (r, h')) : Go k_CS_init 101 [some (.ref a0), some (.ref a1), none] [] h (none, h') := by
  unfold f_CS_init_J101 at e
  refine go_aload_n rfl rfl ?_
  refine go_new (kc := 10) (n := 8) rfl rfl (by decide) rfl ?_
  obtain ⟨b1, hg_3⟩ : ∃ z, z = gn h := ⟨_, rfl⟩
  rw [← hg_3] at e ⊢
  replace e := ck_then_e e
  have hk_4 : gk (wN h 10 8) b1 = 10 := by rw [hg_3, ck_gk_wN, if_pos rfl]
  generalize wN h 10 8 = h2 at e hk_4 ⊢
  replace e := ck_then_e e
  refine go_dup rfl rfl ?_
  refine go_aload_n rfl rfl ?_
  replace e := ck_bd_e e
  obtain ⟨r5, h6, e7, e⟩ := e
  refine go_callI (As := [.ref a1]) (b0 := b1) (rest := [.ref b1, .ref a0]) rfl rfl rfl ⟨Nat.le_of_ble_eq_true rfl, Nat.le_of_ble_eq_true rfl, Nat.le_of_ble_eq_true rfl, Nat.le_of_ble_eq_true rfl⟩ (s_Vo_init e7) ?_
  show Go k_CS_init 110 [some (.ref a0), some (.ref a1), none] [.ref b1, .ref a0] h6 _
  replace e := ck_as_e e
  obtain ⟨hk_8, e⟩ := e
  refine go_put (h1 := wR h6 a0 6 (some b1)) rfl rfl hk_8 ⟨by decide, by decide, Or.inr ⟨rfl, rfl⟩⟩ rfl ?_
  have hk_10 : gk (wR h6 a0 6 (some b1)) a0 = 11 := ck_kR.trans hk_8
  generalize wR h6 a0 6 (some b1) = h9 at e hk_10 ⊢
  replace e := ck_then_e e
  refine go_iconst (v := 0) rfl (by decide) ?_
  refine go_istore_n rfl rfl ?_
  show Go k_CS_init 115 [some (.ref a0), some (.ref a1), some (.int 0)] [] h9 _
  refine go_forget (l := [some (.ref a0), none, some (.int 0)]) ⟨Or.inl rfl, Or.inr ⟨rfl, fun _ q => by cases q; rfl⟩, Or.inl rfl, trivial⟩ ?_
  exact f_CS_init_L115_s F F _ _ _ _ _ e
def f_CS_init (F : Nat) (a0 : Nat) (h : ck_H) : Option (Unit × ck_H) :=
  ck_then (gn h) fun b1 =>
  ck_then (wN h 6 2) fun h2 =>
  ck_bd (f_Rw_init F b1 h2) fun _ h6 =>
  ck_as (gk h6 a0 = 11) <|
  ck_then (wR h6 a0 0 (some b1)) fun h9 =>
  ck_then (gn h9) fun b11 =>
  ck_then (wN h9 6 2) fun h12 =>
  ck_bd (f_Rw_init F b11 h12) fun _ h16 =>
  ck_as (gk h16 a0 = 11) <|
  ck_then (wR h16 a0 1 (some b11)) fun h19 =>
  ck_then (gn h19) fun b21 =>
  ck_then (wN h19 6 2) fun h22 =>
  ck_bd (f_Rw_init F b21 h22) fun _ h26 =>
  ck_as (gk h26 a0 = 11) <|
  ck_then (wR h26 a0 2 (some b21)) fun h29 =>
  ck_then (gn h29) fun b31 =>
  ck_then (wN h29 13 8) fun h32 =>
  ck_as (gk h32 a0 = 11) <|
  ck_then (wR h32 a0 3 (some b31)) fun h36 =>
  ck_then (gn h36) fun b39 =>
  ck_then (wN h36 20 2) fun h40 =>
  ck_as (gk h40 a0 = 11) <|
  ck_then (wR h40 a0 4 (some b39)) fun h44 =>
  ck_then (gn h44) fun b47 =>
  ck_then (wN h44 18 4) fun h48 =>
  ck_as (gk h48 a0 = 11) <|
  ck_then (wR h48 a0 7 (some b47)) fun h52 =>
  ck_then (gn h52) fun b55 =>
  ck_then (wN h52 9 3) fun h56 =>
  ck_bd (f_Un_init F b55 h56) fun _ h60 =>
  ck_as (gk h60 a0 = 11) <|
  ck_some (gR h60 a0 4) fun b63 =>
  ck_as (gk h60 b55 < 13 ∧ ck_ka (gk h60 b63) = some (gk h60 b55) ∧ ¬ (0 : Int32) < 0 ∧ (0 : Int32).toNatClampNeg < gz h60 b63) <|
  ck_then (wR h60 b63 (0 : Int32).toNatClampNeg (some b55)) fun h66 =>
  ck_some (gR h66 a0 4) fun b68 =>
  ck_then (gn h66) fun b70 =>
  ck_then (wN h66 9 3) fun h71 =>
  ck_bd (f_Un_init F b70 h71) fun _ h75 =>
  ck_as (gk h75 b70 < 13 ∧ ck_ka (gk h75 b68) = some (gk h75 b70) ∧ ¬ (1 : Int32) < 0 ∧ (1 : Int32).toNatClampNeg < gz h75 b68) <|
  ck_then (wR h75 b68 (1 : Int32).toNatClampNeg (some b70)) fun h78 =>
  ck_then (gn h78) fun b79 =>
  ck_then (wN h78 0 12) fun h80 =>
  ck_bd (f_Ch_init F b79 b55 h80) fun _ h84 =>
  ck_as (gk h84 a0 = 11) <|
  ck_then (wR h84 a0 5 (some b79)) fun h87 =>
  f_CS_init_J101 F a0 b55 h87
set_option maxRecDepth 100000 in
set_option maxHeartbeats 4000000 in
theorem s_CS_init {F : Nat} {a0 : Nat} {h h' : ck_H} {r : Unit} (e : f_CS_init F a0 h = some (r, h')) : Go k_CS_init 0 (ck_in [.ref a0] 3) [] h (none, h') := by
  unfold f_CS_init at e
  show Go k_CS_init 0 [some (.ref a0), none, none] [] h _
  refine go_aload_n rfl rfl ?_
  refine go_obj rfl rfl ⟨Nat.le_of_ble_eq_true rfl, Nat.le_of_ble_eq_true rfl⟩ ?_
  refine go_aload_n rfl rfl ?_
  refine go_new (kc := 6) (n := 2) rfl rfl (by decide) rfl ?_
  obtain ⟨b1, hg_3⟩ : ∃ z, z = gn h := ⟨_, rfl⟩
  rw [← hg_3] at e ⊢
  replace e := ck_then_e e
  have hk_4 : gk (wN h 6 2) b1 = 6 := by rw [hg_3, ck_gk_wN, if_pos rfl]
  generalize wN h 6 2 = h2 at e hk_4 ⊢
  replace e := ck_then_e e
  refine go_dup rfl rfl ?_
  replace e := ck_bd_e e
  obtain ⟨r5, h6, e7, e⟩ := e
  refine go_callN (As := []) (b0 := b1) (rest := [.ref b1, .ref a0]) rfl rfl rfl ⟨Nat.le_of_ble_eq_true rfl, Nat.le_of_ble_eq_true rfl, Nat.le_of_ble_eq_true rfl, Nat.le_of_ble_eq_true rfl⟩ (s_Rw_init e7) ?_
  show Go k_CS_init 12 [some (.ref a0), none, none] [.ref b1, .ref a0] h6 _
  replace e := ck_as_e e
  obtain ⟨hk_8, e⟩ := e
  refine go_put (h1 := wR h6 a0 0 (some b1)) rfl rfl hk_8 ⟨by decide, by decide, Or.inr ⟨rfl, rfl⟩⟩ rfl ?_
  have hk_10 : gk (wR h6 a0 0 (some b1)) a0 = 11 := ck_kR.trans hk_8
  generalize wR h6 a0 0 (some b1) = h9 at e hk_10 ⊢
  replace e := ck_then_e e
  refine go_aload_n rfl rfl ?_
  refine go_new (kc := 6) (n := 2) rfl rfl (by decide) rfl ?_
  obtain ⟨b11, hg_13⟩ : ∃ z, z = gn h9 := ⟨_, rfl⟩
  rw [← hg_13] at e ⊢
  replace e := ck_then_e e
  have hk_14 : gk (wN h9 6 2) b11 = 6 := by rw [hg_13, ck_gk_wN, if_pos rfl]
  generalize wN h9 6 2 = h12 at e hk_14 ⊢
  replace e := ck_then_e e
  refine go_dup rfl rfl ?_
  replace e := ck_bd_e e
  obtain ⟨r15, h16, e17, e⟩ := e
  refine go_callN (As := []) (b0 := b11) (rest := [.ref b11, .ref a0]) rfl rfl rfl ⟨Nat.le_of_ble_eq_true rfl, Nat.le_of_ble_eq_true rfl, Nat.le_of_ble_eq_true rfl, Nat.le_of_ble_eq_true rfl⟩ (s_Rw_init e17) ?_
  show Go k_CS_init 23 [some (.ref a0), none, none] [.ref b11, .ref a0] h16 _
  replace e := ck_as_e e
  obtain ⟨hk_18, e⟩ := e
  refine go_put (h1 := wR h16 a0 1 (some b11)) rfl rfl hk_18 ⟨by decide, by decide, Or.inr ⟨rfl, rfl⟩⟩ rfl ?_
  have hk_20 : gk (wR h16 a0 1 (some b11)) a0 = 11 := ck_kR.trans hk_18
  generalize wR h16 a0 1 (some b11) = h19 at e hk_20 ⊢
  replace e := ck_then_e e
  refine go_aload_n rfl rfl ?_
  refine go_new (kc := 6) (n := 2) rfl rfl (by decide) rfl ?_
  obtain ⟨b21, hg_23⟩ : ∃ z, z = gn h19 := ⟨_, rfl⟩
  rw [← hg_23] at e ⊢
  replace e := ck_then_e e
  have hk_24 : gk (wN h19 6 2) b21 = 6 := by rw [hg_23, ck_gk_wN, if_pos rfl]
  generalize wN h19 6 2 = h22 at e hk_24 ⊢
  replace e := ck_then_e e
  refine go_dup rfl rfl ?_
  replace e := ck_bd_e e
  obtain ⟨r25, h26, e27, e⟩ := e
  refine go_callN (As := []) (b0 := b21) (rest := [.ref b21, .ref a0]) rfl rfl rfl ⟨Nat.le_of_ble_eq_true rfl, Nat.le_of_ble_eq_true rfl, Nat.le_of_ble_eq_true rfl, Nat.le_of_ble_eq_true rfl⟩ (s_Rw_init e27) ?_
  show Go k_CS_init 34 [some (.ref a0), none, none] [.ref b21, .ref a0] h26 _
  replace e := ck_as_e e
  obtain ⟨hk_28, e⟩ := e
  refine go_put (h1 := wR h26 a0 2 (some b21)) rfl rfl hk_28 ⟨by decide, by decide, Or.inr ⟨rfl, rfl⟩⟩ rfl ?_
  have hk_30 : gk (wR h26 a0 2 (some b21)) a0 = 11 := ck_kR.trans hk_28
  generalize wR h26 a0 2 (some b21) = h29 at e hk_30 ⊢
  replace e := ck_then_e e
  refine go_aload_n rfl rfl ?_
  refine go_bipush (v := 8) rfl (by decide) ?_
  refine go_newa (kc := 13) (N := 8) rfl rfl (by decide) (by decide) ?_
  obtain ⟨b31, hg_33⟩ : ∃ z, z = gn h29 := ⟨_, rfl⟩
  rw [← hg_33] at e ⊢
  replace e := ck_then_e e
  have hk_34 : gk (wN h29 13 8) b31 = 13 := by rw [hg_33, ck_gk_wN, if_pos rfl]
  generalize wN h29 13 8 = h32 at e hk_34 ⊢
  replace e := ck_then_e e
  replace e := ck_as_e e
  obtain ⟨hk_35, e⟩ := e
  refine go_put (h1 := wR h32 a0 3 (some b31)) rfl rfl hk_35 ⟨by decide, by decide, Or.inr ⟨rfl, rfl⟩⟩ rfl ?_
  have hk_37 : gk (wR h32 a0 3 (some b31)) b31 = 13 := ck_kR.trans hk_34
  have hk_38 : gk (wR h32 a0 3 (some b31)) a0 = 11 := ck_kR.trans hk_35
  generalize wR h32 a0 3 (some b31) = h36 at e hk_37 hk_38 ⊢
  replace e := ck_then_e e
  refine go_aload_n rfl rfl ?_
  refine go_iconst (v := 2) rfl (by decide) ?_
  refine go_anew (kc := 20) (N := 2) rfl rfl (by decide) (by decide) ?_
  obtain ⟨b39, hg_41⟩ : ∃ z, z = gn h36 := ⟨_, rfl⟩
  rw [← hg_41] at e ⊢
  replace e := ck_then_e e
  have hk_42 : gk (wN h36 20 2) b39 = 20 := by rw [hg_41, ck_gk_wN, if_pos rfl]
  generalize wN h36 20 2 = h40 at e hk_42 ⊢
  replace e := ck_then_e e
  replace e := ck_as_e e
  obtain ⟨hk_43, e⟩ := e
  refine go_put (h1 := wR h40 a0 4 (some b39)) rfl rfl hk_43 ⟨by decide, by decide, Or.inr ⟨rfl, rfl⟩⟩ rfl ?_
  have hk_45 : gk (wR h40 a0 4 (some b39)) b39 = 20 := ck_kR.trans hk_42
  have hk_46 : gk (wR h40 a0 4 (some b39)) a0 = 11 := ck_kR.trans hk_43
  generalize wR h40 a0 4 (some b39) = h44 at e hk_45 hk_46 ⊢
  replace e := ck_then_e e
  refine go_aload_n rfl rfl ?_
  refine go_iconst (v := 4) rfl (by decide) ?_
  refine go_anew (kc := 18) (N := 4) rfl rfl (by decide) (by decide) ?_
  obtain ⟨b47, hg_49⟩ : ∃ z, z = gn h44 := ⟨_, rfl⟩
  rw [← hg_49] at e ⊢
  replace e := ck_then_e e
  have hk_50 : gk (wN h44 18 4) b47 = 18 := by rw [hg_49, ck_gk_wN, if_pos rfl]
  generalize wN h44 18 4 = h48 at e hk_50 ⊢
  replace e := ck_then_e e
  replace e := ck_as_e e
  obtain ⟨hk_51, e⟩ := e
  refine go_put (h1 := wR h48 a0 7 (some b47)) rfl rfl hk_51 ⟨by decide, by decide, Or.inr ⟨rfl, rfl⟩⟩ rfl ?_
  have hk_53 : gk (wR h48 a0 7 (some b47)) b47 = 18 := ck_kR.trans hk_50
  have hk_54 : gk (wR h48 a0 7 (some b47)) a0 = 11 := ck_kR.trans hk_51
  generalize wR h48 a0 7 (some b47) = h52 at e hk_53 hk_54 ⊢
  replace e := ck_then_e e
  refine go_new (kc := 9) (n := 3) rfl rfl (by decide) rfl ?_
  obtain ⟨b55, hg_57⟩ : ∃ z, z = gn h52 := ⟨_, rfl⟩
  rw [← hg_57] at e ⊢
  replace e := ck_then_e e
  have hk_58 : gk (wN h52 9 3) b55 = 9 := by rw [hg_57, ck_gk_wN, if_pos rfl]
  generalize wN h52 9 3 = h56 at e hk_58 ⊢
  replace e := ck_then_e e
  refine go_dup rfl rfl ?_
  replace e := ck_bd_e e
  obtain ⟨r59, h60, e61, e⟩ := e
  refine go_callI (As := []) (b0 := b55) (rest := [.ref b55]) rfl rfl rfl ⟨Nat.le_of_ble_eq_true rfl, Nat.le_of_ble_eq_true rfl, Nat.le_of_ble_eq_true rfl, Nat.le_of_ble_eq_true rfl⟩ (s_Un_init e61) ?_
  show Go k_CS_init 68 [some (.ref a0), none, none] [.ref b55] h60 _
  refine go_astore_n rfl rfl ?_
  show Go k_CS_init 69 [some (.ref a0), some (.ref b55), none] [] h60 _
  refine go_aload_n rfl rfl ?_
  replace e := ck_as_e e
  obtain ⟨hk_62, e⟩ := e
  replace e := ck_some_e e
  obtain ⟨b63, hq_64, e⟩ := e
  refine go_get (v := .ref b63) rfl rfl hk_62 (by decide) (by show va_rf (gR h60 a0 4) = _; rw [hq_64]; rfl) ?_
  refine go_iconst (v := 0) rfl (by decide) ?_
  refine go_aload_n rfl rfl ?_
  replace e := ck_as_e e
  obtain ⟨hc_65, e⟩ := e
  refine go_aast rfl hc_65 ?_
  have hk_67 : gk (wR h60 b63 (0 : Int32).toNatClampNeg (some b55)) a0 = 11 := ck_kR.trans hk_62
  generalize wR h60 b63 (0 : Int32).toNatClampNeg (some b55) = h66 at e hk_67 ⊢
  replace e := ck_then_e e
  refine go_aload_n rfl rfl ?_
  replace e := ck_some_e e
  obtain ⟨b68, hq_69, e⟩ := e
  refine go_get (v := .ref b68) rfl rfl hk_67 (by decide) (by show va_rf (gR h66 a0 4) = _; rw [hq_69]; rfl) ?_
  refine go_iconst (v := 1) rfl (by decide) ?_
  refine go_new (kc := 9) (n := 3) rfl rfl (by decide) rfl ?_
  obtain ⟨b70, hg_72⟩ : ∃ z, z = gn h66 := ⟨_, rfl⟩
  rw [← hg_72] at e ⊢
  replace e := ck_then_e e
  have hk_73 : gk (wN h66 9 3) b70 = 9 := by rw [hg_72, ck_gk_wN, if_pos rfl]
  generalize wN h66 9 3 = h71 at e hk_73 ⊢
  replace e := ck_then_e e
  refine go_dup rfl rfl ?_
  replace e := ck_bd_e e
  obtain ⟨r74, h75, e76, e⟩ := e
  refine go_callI (As := []) (b0 := b70) (rest := [.ref b70, .int 1, .ref b68]) rfl rfl rfl ⟨Nat.le_of_ble_eq_true rfl, Nat.le_of_ble_eq_true rfl, Nat.le_of_ble_eq_true rfl, Nat.le_of_ble_eq_true rfl⟩ (s_Un_init e76) ?_
  show Go k_CS_init 88 [some (.ref a0), some (.ref b55), none] [.ref b70, .int 1, .ref b68] h75 _
  replace e := ck_as_e e
  obtain ⟨hc_77, e⟩ := e
  refine go_aast rfl hc_77 ?_
  generalize wR h75 b68 (1 : Int32).toNatClampNeg (some b70) = h78 at e  ⊢
  replace e := ck_then_e e
  refine go_aload_n rfl rfl ?_
  refine go_new (kc := 0) (n := 12) rfl rfl (by decide) rfl ?_
  obtain ⟨b79, hg_81⟩ : ∃ z, z = gn h78 := ⟨_, rfl⟩
  rw [← hg_81] at e ⊢
  replace e := ck_then_e e
  have hk_82 : gk (wN h78 0 12) b79 = 0 := by rw [hg_81, ck_gk_wN, if_pos rfl]
  generalize wN h78 0 12 = h80 at e hk_82 ⊢
  replace e := ck_then_e e
  refine go_dup rfl rfl ?_
  refine go_aload_n rfl rfl ?_
  replace e := ck_bd_e e
  obtain ⟨r83, h84, e85, e⟩ := e
  refine go_callI (As := [.ref b55]) (b0 := b79) (rest := [.ref b79, .ref a0]) rfl rfl rfl ⟨Nat.le_of_ble_eq_true rfl, Nat.le_of_ble_eq_true rfl, Nat.le_of_ble_eq_true rfl, Nat.le_of_ble_eq_true rfl⟩ (s_Ch_init e85) ?_
  show Go k_CS_init 98 [some (.ref a0), some (.ref b55), none] [.ref b79, .ref a0] h84 _
  replace e := ck_as_e e
  obtain ⟨hk_86, e⟩ := e
  refine go_put (h1 := wR h84 a0 5 (some b79)) rfl rfl hk_86 ⟨by decide, by decide, Or.inr ⟨rfl, rfl⟩⟩ rfl ?_
  have hk_88 : gk (wR h84 a0 5 (some b79)) a0 = 11 := ck_kR.trans hk_86
  generalize wR h84 a0 5 (some b79) = h87 at e hk_88 ⊢
  replace e := ck_then_e e
  refine go_forget (l := [some (.ref a0), some (.ref b55), none]) ⟨Or.inl rfl, Or.inl rfl, Or.inl rfl, trivial⟩ ?_
  exact f_CS_init_J101_s F a0 b55 _ _ _ e
def f_Rw_addByte (F : Nat) (a0 : Nat) (v1 : Int32) (h : ck_H) : Option (Unit × ck_H) :=
  ck_as (gk h a0 = 6) <|
  if (gI h a0 1) < (0 : Int32) then
    some ((), h)
  else
    if (gI h a0 1) < (1200 : Int32) then
      ck_some (gR h a0 0) fun b4 =>
      ck_as (gk h b4 = 13 ∧ ¬ (gI h a0 1) < 0 ∧ (gI h a0 1 : Int32).toNatClampNeg < gz h b4) <|
      ck_then (wI h b4 (gI h a0 1 : Int32).toNatClampNeg ((v1 : Int32).toInt8.toInt32 : Int32).toInt8.toInt32) fun h7 =>
      ck_then (wI h7 a0 1 ((gI h7 a0 1) + 1)) fun h9 =>
      some ((), h9)
    else
      some ((), h)
set_option maxRecDepth 100000 in
set_option maxHeartbeats 4000000 in
theorem s_Rw_addByte {F : Nat} {a0 : Nat} {v1 : Int32} {h h' : ck_H} {r : Unit} (e : f_Rw_addByte F a0 v1 h = some (r, h')) : Go k_Rw_addByte 0 (ck_in [.ref a0, .int v1] 2) [] h (none, h') := by
  unfold f_Rw_addByte at e
  show Go k_Rw_addByte 0 [some (.ref a0), some (.int v1)] [] h _
  refine go_aload_n rfl rfl ?_
  replace e := ck_as_e e
  obtain ⟨hk_1, e⟩ := e
  refine go_get (v := .int (gI h a0 1)) rfl rfl hk_1 (by decide) rfl ?_
  refine go_if_lt (t := 17) rfl rfl (fun hx_2 => ?_) (fun hx_2 => ?_)
  · rw [if_pos hx_2] at e
    cases e
    exact go_ret rfl rfl
  · rw [if_neg hx_2] at e
    refine go_aload_n rfl rfl ?_
    refine go_get (v := .int (gI h a0 1)) rfl rfl hk_1 (by decide) rfl ?_
    refine go_sipush (v := 1200) rfl (by decide) ?_
    refine go_icmp_lt (t := 18) rfl rfl (fun hx_3 => ?_) (fun hx_3 => ?_)
    · rw [if_pos hx_3] at e
      refine go_aload_n rfl rfl ?_
      replace e := ck_some_e e
      obtain ⟨b4, hq_5, e⟩ := e
      refine go_get (v := .ref b4) rfl rfl hk_1 (by decide) (by show va_rf (gR h a0 0) = _; rw [hq_5]; rfl) ?_
      refine go_aload_n rfl rfl ?_
      refine go_get (v := .int (gI h a0 1)) rfl rfl hk_1 (by decide) rfl ?_
      refine go_iload_n rfl rfl ?_
      refine go_i2b rfl ?_
      replace e := ck_as_e e
      obtain ⟨hc_6, e⟩ := e
      refine go_bast rfl hc_6 ?_
      have hk_8 : gk (wI h b4 (gI h a0 1 : Int32).toNatClampNeg ((v1 : Int32).toInt8.toInt32 : Int32).toInt8.toInt32) a0 = 6 := ck_kI.trans hk_1
      generalize wI h b4 (gI h a0 1 : Int32).toNatClampNeg ((v1 : Int32).toInt8.toInt32 : Int32).toInt8.toInt32 = h7 at e hk_8 ⊢
      replace e := ck_then_e e
      refine go_aload_n rfl rfl ?_
      refine go_dup rfl rfl ?_
      refine go_get (v := .int (gI h7 a0 1)) rfl rfl hk_8 (by decide) rfl ?_
      refine go_iconst (v := 1) rfl (by decide) ?_
      refine go_iadd rfl ?_
      refine go_put (h1 := wI h7 a0 1 ((gI h7 a0 1) + 1)) rfl rfl hk_8 ⟨by decide, by decide, Or.inl rfl⟩ rfl ?_
      have hk_10 : gk (wI h7 a0 1 ((gI h7 a0 1) + 1)) a0 = 6 := ck_kI.trans hk_8
      generalize wI h7 a0 1 ((gI h7 a0 1) + 1) = h9 at e hk_10 ⊢
      replace e := ck_then_e e
      cases e
      exact go_ret rfl rfl
    · rw [if_neg hx_3] at e
      cases e
      exact go_ret rfl rfl
def f_Rw_addPair (F : Nat) (a0 : Nat) (v1 : Int32) (h : ck_H) : Option (Unit × ck_H) :=
  ck_as (gk h a0 = 6) <|
  ck_bd (f_Rw_addByte F a0 (v1 >>> (8 &&& 31)) h) fun _ h3 =>
  ck_as (gk h3 a0 = 6) <|
  ck_bd (f_Rw_addByte F a0 v1 h3) fun _ h7 =>
  some ((), h7)
set_option maxRecDepth 100000 in
set_option maxHeartbeats 4000000 in
theorem s_Rw_addPair {F : Nat} {a0 : Nat} {v1 : Int32} {h h' : ck_H} {r : Unit} (e : f_Rw_addPair F a0 v1 h = some (r, h')) : Go k_Rw_addPair 0 (ck_in [.ref a0, .int v1] 2) [] h (none, h') := by
  unfold f_Rw_addPair at e
  show Go k_Rw_addPair 0 [some (.ref a0), some (.int v1)] [] h _
  refine go_aload_n rfl rfl ?_
  refine go_iload_n rfl rfl ?_
  refine go_bipush (v := 8) rfl (by decide) ?_
  refine go_ishr rfl ?_
  replace e := ck_as_e e
  obtain ⟨hk_1, e⟩ := e
  replace e := ck_bd_e e
  obtain ⟨r2, h3, e4, e⟩ := e
  refine go_callV (As := [.int (v1 >>> (8 &&& 31))]) (b0 := a0) (rest := []) rfl rfl ⟨hk_1, by decide⟩ rfl ⟨Nat.le_of_ble_eq_true rfl, Nat.le_of_ble_eq_true rfl, Nat.le_of_ble_eq_true rfl, Nat.le_of_ble_eq_true rfl⟩ (s_Rw_addByte e4) ?_
  show Go k_Rw_addPair 8 [some (.ref a0), some (.int v1)] [] h3 _
  refine go_aload_n rfl rfl ?_
  refine go_iload_n rfl rfl ?_
  replace e := ck_as_e e
  obtain ⟨hk_5, e⟩ := e
  replace e := ck_bd_e e
  obtain ⟨r6, h7, e8, e⟩ := e
  refine go_callV (As := [.int v1]) (b0 := a0) (rest := []) rfl rfl ⟨hk_5, by decide⟩ rfl ⟨Nat.le_of_ble_eq_true rfl, Nat.le_of_ble_eq_true rfl, Nat.le_of_ble_eq_true rfl, Nat.le_of_ble_eq_true rfl⟩ (s_Rw_addByte e8) ?_
  show Go k_Rw_addPair 13 [some (.ref a0), some (.int v1)] [] h7 _
  cases e
  exact go_ret rfl rfl
def f_Rw_addWord (F : Nat) (a0 : Nat) (v1 : Int32) (h : ck_H) : Option (Unit × ck_H) :=
  ck_as (gk h a0 = 6) <|
  ck_bd (f_Rw_addPair F a0 (v1 >>> (16 &&& 31)) h) fun _ h3 =>
  ck_as (gk h3 a0 = 6) <|
  ck_bd (f_Rw_addPair F a0 v1 h3) fun _ h7 =>
  some ((), h7)
set_option maxRecDepth 100000 in
set_option maxHeartbeats 4000000 in
theorem s_Rw_addWord {F : Nat} {a0 : Nat} {v1 : Int32} {h h' : ck_H} {r : Unit} (e : f_Rw_addWord F a0 v1 h = some (r, h')) : Go k_Rw_addWord 0 (ck_in [.ref a0, .int v1] 2) [] h (none, h') := by
  unfold f_Rw_addWord at e
  show Go k_Rw_addWord 0 [some (.ref a0), some (.int v1)] [] h _
  refine go_aload_n rfl rfl ?_
  refine go_iload_n rfl rfl ?_
  refine go_bipush (v := 16) rfl (by decide) ?_
  refine go_ishr rfl ?_
  replace e := ck_as_e e
  obtain ⟨hk_1, e⟩ := e
  replace e := ck_bd_e e
  obtain ⟨r2, h3, e4, e⟩ := e
  refine go_callV (As := [.int (v1 >>> (16 &&& 31))]) (b0 := a0) (rest := []) rfl rfl ⟨hk_1, by decide⟩ rfl ⟨Nat.le_of_ble_eq_true rfl, Nat.le_of_ble_eq_true rfl, Nat.le_of_ble_eq_true rfl, Nat.le_of_ble_eq_true rfl⟩ (s_Rw_addPair e4) ?_
  show Go k_Rw_addWord 8 [some (.ref a0), some (.int v1)] [] h3 _
  refine go_aload_n rfl rfl ?_
  refine go_iload_n rfl rfl ?_
  replace e := ck_as_e e
  obtain ⟨hk_5, e⟩ := e
  replace e := ck_bd_e e
  obtain ⟨r6, h7, e8, e⟩ := e
  refine go_callV (As := [.int v1]) (b0 := a0) (rest := []) rfl rfl ⟨hk_5, by decide⟩ rfl ⟨Nat.le_of_ble_eq_true rfl, Nat.le_of_ble_eq_true rfl, Nat.le_of_ble_eq_true rfl, Nat.le_of_ble_eq_true rfl⟩ (s_Rw_addPair e8) ?_
  show Go k_Rw_addWord 13 [some (.ref a0), some (.int v1)] [] h7 _
  cases e
  exact go_ret rfl rfl
def f_CS_feed (F : Nat) (a0 : Nat) (v1 : Int32) (v2 : Int32) (v3 : Int32) (v4 : Int32) (v5 : Int32) (h : ck_H) : Option (Int32 × ck_H) :=
  ck_as (gk h a0 = 11) <|
  ck_some (gR h a0 0) fun b2 =>
  ck_as (gk h b2 = 6) <|
  if (1200 : Int32) < ((gI h b2 1) + 20) then
    some ((-4), h)
  else
    ck_some (gR h a0 0) fun b6 =>
    ck_as (gk h b6 = 6) <|
    ck_bd (f_Rw_addWord F b6 v1 h) fun _ h10 =>
    ck_as (gk h10 a0 = 11) <|
    ck_some (gR h10 a0 0) fun b13 =>
    ck_as (gk h10 b13 = 6) <|
    ck_bd (f_Rw_addWord F b13 v2 h10) fun _ h17 =>
    ck_as (gk h17 a0 = 11) <|
    ck_some (gR h17 a0 0) fun b20 =>
    ck_as (gk h17 b20 = 6) <|
    ck_bd (f_Rw_addWord F b20 v3 h17) fun _ h24 =>
    ck_as (gk h24 a0 = 11) <|
    ck_some (gR h24 a0 0) fun b27 =>
    ck_as (gk h24 b27 = 6) <|
    ck_bd (f_Rw_addWord F b27 v4 h24) fun _ h31 =>
    ck_as (gk h31 a0 = 11) <|
    ck_some (gR h31 a0 0) fun b34 =>
    ck_as (gk h31 b34 = 6) <|
    ck_bd (f_Rw_addWord F b34 v5 h31) fun _ h38 =>
    ck_as (gk h38 a0 = 11) <|
    ck_some (gR h38 a0 0) fun b41 =>
    ck_as (gk h38 b41 = 6) <|
    some (gI h38 b41 1, h38)
set_option maxRecDepth 100000 in
set_option maxHeartbeats 4000000 in
theorem s_CS_feed {F : Nat} {a0 : Nat} {v1 : Int32} {v2 : Int32} {v3 : Int32} {v4 : Int32} {v5 : Int32} {h h' : ck_H} {r : Int32} (e : f_CS_feed F a0 v1 v2 v3 v4 v5 h = some (r, h')) : Go k_CS_feed 0 (ck_in [.ref a0, .int v1, .int v2, .int v3, .int v4, .int v5] 6) [] h (some (.int r), h') := by
  unfold f_CS_feed at e
  show Go k_CS_feed 0 [some (.ref a0), some (.int v1), some (.int v2), some (.int v3), some (.int v4), some (.int v5)] [] h _
  refine go_aload_n rfl rfl ?_
  replace e := ck_as_e e
  obtain ⟨hk_1, e⟩ := e
  replace e := ck_some_e e
  obtain ⟨b2, hq_3, e⟩ := e
  refine go_get (v := .ref b2) rfl rfl hk_1 (by decide) (by show va_rf (gR h a0 0) = _; rw [hq_3]; rfl) ?_
  replace e := ck_as_e e
  obtain ⟨hk_4, e⟩ := e
  refine go_get (v := .int (gI h b2 1)) rfl rfl hk_4 (by decide) rfl ?_
  refine go_bipush (v := 20) rfl (by decide) ?_
  refine go_iadd rfl ?_
  refine go_sipush (v := 1200) rfl (by decide) ?_
  refine go_icmp_le (t := 19) rfl rfl (fun hx_5 => ?_) (fun hx_5 => ?_)
  · rw [if_pos hx_5] at e
    refine go_bipush (v := (-4)) rfl (by decide) ?_
    cases e
    exact go_ret rfl rfl
  · rw [if_neg hx_5] at e
    refine go_aload_n rfl rfl ?_
    replace e := ck_some_e e
    obtain ⟨b6, hq_7, e⟩ := e
    refine go_get (v := .ref b6) rfl rfl hk_1 (by decide) (by show va_rf (gR h a0 0) = _; rw [hq_7]; rfl) ?_
    refine go_iload_n rfl rfl ?_
    replace e := ck_as_e e
    obtain ⟨hk_8, e⟩ := e
    replace e := ck_bd_e e
    obtain ⟨r9, h10, e11, e⟩ := e
    refine go_callV (As := [.int v1]) (b0 := b6) (rest := []) rfl rfl ⟨hk_8, by decide⟩ rfl ⟨Nat.le_of_ble_eq_true rfl, Nat.le_of_ble_eq_true rfl, Nat.le_of_ble_eq_true rfl, Nat.le_of_ble_eq_true rfl⟩ (s_Rw_addWord e11) ?_
    show Go k_CS_feed 27 [some (.ref a0), some (.int v1), some (.int v2), some (.int v3), some (.int v4), some (.int v5)] [] h10 _
    refine go_aload_n rfl rfl ?_
    replace e := ck_as_e e
    obtain ⟨hk_12, e⟩ := e
    replace e := ck_some_e e
    obtain ⟨b13, hq_14, e⟩ := e
    refine go_get (v := .ref b13) rfl rfl hk_12 (by decide) (by show va_rf (gR h10 a0 0) = _; rw [hq_14]; rfl) ?_
    refine go_iload_n rfl rfl ?_
    replace e := ck_as_e e
    obtain ⟨hk_15, e⟩ := e
    replace e := ck_bd_e e
    obtain ⟨r16, h17, e18, e⟩ := e
    refine go_callV (As := [.int v2]) (b0 := b13) (rest := []) rfl rfl ⟨hk_15, by decide⟩ rfl ⟨Nat.le_of_ble_eq_true rfl, Nat.le_of_ble_eq_true rfl, Nat.le_of_ble_eq_true rfl, Nat.le_of_ble_eq_true rfl⟩ (s_Rw_addWord e18) ?_
    show Go k_CS_feed 35 [some (.ref a0), some (.int v1), some (.int v2), some (.int v3), some (.int v4), some (.int v5)] [] h17 _
    refine go_aload_n rfl rfl ?_
    replace e := ck_as_e e
    obtain ⟨hk_19, e⟩ := e
    replace e := ck_some_e e
    obtain ⟨b20, hq_21, e⟩ := e
    refine go_get (v := .ref b20) rfl rfl hk_19 (by decide) (by show va_rf (gR h17 a0 0) = _; rw [hq_21]; rfl) ?_
    refine go_iload_n rfl rfl ?_
    replace e := ck_as_e e
    obtain ⟨hk_22, e⟩ := e
    replace e := ck_bd_e e
    obtain ⟨r23, h24, e25, e⟩ := e
    refine go_callV (As := [.int v3]) (b0 := b20) (rest := []) rfl rfl ⟨hk_22, by decide⟩ rfl ⟨Nat.le_of_ble_eq_true rfl, Nat.le_of_ble_eq_true rfl, Nat.le_of_ble_eq_true rfl, Nat.le_of_ble_eq_true rfl⟩ (s_Rw_addWord e25) ?_
    show Go k_CS_feed 43 [some (.ref a0), some (.int v1), some (.int v2), some (.int v3), some (.int v4), some (.int v5)] [] h24 _
    refine go_aload_n rfl rfl ?_
    replace e := ck_as_e e
    obtain ⟨hk_26, e⟩ := e
    replace e := ck_some_e e
    obtain ⟨b27, hq_28, e⟩ := e
    refine go_get (v := .ref b27) rfl rfl hk_26 (by decide) (by show va_rf (gR h24 a0 0) = _; rw [hq_28]; rfl) ?_
    refine go_iload rfl rfl ?_
    replace e := ck_as_e e
    obtain ⟨hk_29, e⟩ := e
    replace e := ck_bd_e e
    obtain ⟨r30, h31, e32, e⟩ := e
    refine go_callV (As := [.int v4]) (b0 := b27) (rest := []) rfl rfl ⟨hk_29, by decide⟩ rfl ⟨Nat.le_of_ble_eq_true rfl, Nat.le_of_ble_eq_true rfl, Nat.le_of_ble_eq_true rfl, Nat.le_of_ble_eq_true rfl⟩ (s_Rw_addWord e32) ?_
    show Go k_CS_feed 52 [some (.ref a0), some (.int v1), some (.int v2), some (.int v3), some (.int v4), some (.int v5)] [] h31 _
    refine go_aload_n rfl rfl ?_
    replace e := ck_as_e e
    obtain ⟨hk_33, e⟩ := e
    replace e := ck_some_e e
    obtain ⟨b34, hq_35, e⟩ := e
    refine go_get (v := .ref b34) rfl rfl hk_33 (by decide) (by show va_rf (gR h31 a0 0) = _; rw [hq_35]; rfl) ?_
    refine go_iload rfl rfl ?_
    replace e := ck_as_e e
    obtain ⟨hk_36, e⟩ := e
    replace e := ck_bd_e e
    obtain ⟨r37, h38, e39, e⟩ := e
    refine go_callV (As := [.int v5]) (b0 := b34) (rest := []) rfl rfl ⟨hk_36, by decide⟩ rfl ⟨Nat.le_of_ble_eq_true rfl, Nat.le_of_ble_eq_true rfl, Nat.le_of_ble_eq_true rfl, Nat.le_of_ble_eq_true rfl⟩ (s_Rw_addWord e39) ?_
    show Go k_CS_feed 61 [some (.ref a0), some (.int v1), some (.int v2), some (.int v3), some (.int v4), some (.int v5)] [] h38 _
    refine go_aload_n rfl rfl ?_
    replace e := ck_as_e e
    obtain ⟨hk_40, e⟩ := e
    replace e := ck_some_e e
    obtain ⟨b41, hq_42, e⟩ := e
    refine go_get (v := .ref b41) rfl rfl hk_40 (by decide) (by show va_rf (gR h38 a0 0) = _; rw [hq_42]; rfl) ?_
    replace e := ck_as_e e
    obtain ⟨hk_43, e⟩ := e
    refine go_get (v := .int (gI h38 b41 1)) rfl rfl hk_43 (by decide) rfl ?_
    cases e
    exact go_ret rfl rfl
def f_CS_end (F : Nat) (a0 : Nat) (v1 : Int32) (h : ck_H) : Option (Int32 × ck_H) :=
  if v1 < (0 : Int32) then
    some ((-1), h)
  else
    ck_as (gk h a0 = 11) <|
    ck_some (gR h a0 0) fun b3 =>
    ck_as (gk h b3 = 6) <|
    if (gI h b3 1) < v1 then
      some ((-1), h)
    else
      ck_some (gR h a0 0) fun b7 =>
      ck_as (gk h b7 = 6) <|
      ck_then (wI h b7 1 v1) fun h10 =>
      some (v1, h10)
set_option maxRecDepth 100000 in
set_option maxHeartbeats 4000000 in
theorem s_CS_end {F : Nat} {a0 : Nat} {v1 : Int32} {h h' : ck_H} {r : Int32} (e : f_CS_end F a0 v1 h = some (r, h')) : Go k_CS_end 0 (ck_in [.ref a0, .int v1] 2) [] h (some (.int r), h') := by
  unfold f_CS_end at e
  show Go k_CS_end 0 [some (.ref a0), some (.int v1)] [] h _
  refine go_iload_n rfl rfl ?_
  refine go_if_lt (t := 15) rfl rfl (fun hx_1 => ?_) (fun hx_1 => ?_)
  · rw [if_pos hx_1] at e
    refine go_iconst (v := (-1)) rfl (by decide) ?_
    cases e
    exact go_ret rfl rfl
  · rw [if_neg hx_1] at e
    refine go_iload_n rfl rfl ?_
    refine go_aload_n rfl rfl ?_
    replace e := ck_as_e e
    obtain ⟨hk_2, e⟩ := e
    replace e := ck_some_e e
    obtain ⟨b3, hq_4, e⟩ := e
    refine go_get (v := .ref b3) rfl rfl hk_2 (by decide) (by show va_rf (gR h a0 0) = _; rw [hq_4]; rfl) ?_
    replace e := ck_as_e e
    obtain ⟨hk_5, e⟩ := e
    refine go_get (v := .int (gI h b3 1)) rfl rfl hk_5 (by decide) rfl ?_
    refine go_icmp_le (t := 17) rfl rfl (fun hx_6 => ?_) (fun hx_6 => ?_)
    · rw [if_pos hx_6] at e
      refine go_iconst (v := (-1)) rfl (by decide) ?_
      cases e
      exact go_ret rfl rfl
    · rw [if_neg hx_6] at e
      refine go_aload_n rfl rfl ?_
      replace e := ck_some_e e
      obtain ⟨b7, hq_8, e⟩ := e
      refine go_get (v := .ref b7) rfl rfl hk_2 (by decide) (by show va_rf (gR h a0 0) = _; rw [hq_8]; rfl) ?_
      refine go_iload_n rfl rfl ?_
      replace e := ck_as_e e
      obtain ⟨hk_9, e⟩ := e
      refine go_put (h1 := wI h b7 1 v1) rfl rfl hk_9 ⟨by decide, by decide, Or.inl rfl⟩ rfl ?_
      have hk_11 : gk (wI h b7 1 v1) a0 = 11 := ck_kI.trans hk_2
      have hk_12 : gk (wI h b7 1 v1) b3 = 6 := ck_kI.trans hk_5
      have hk_13 : gk (wI h b7 1 v1) b7 = 6 := ck_kI.trans hk_9
      generalize wI h b7 1 v1 = h10 at e hk_11 hk_12 hk_13 ⊢
      replace e := ck_then_e e
      refine go_iload_n rfl rfl ?_
      cases e
      exact go_ret rfl rfl
def f_Rw_byteAt (F : Nat) (a0 : Nat) (v1 : Int32) (h : ck_H) : Option (Int32 × ck_H) :=
  if v1 < (0 : Int32) then
    some ((-1), h)
  else
    ck_as (gk h a0 = 6) <|
    if v1 < (gI h a0 1) then
      if v1 < (1200 : Int32) then
        ck_some (gR h a0 0) fun b5 =>
        ck_as ((gk h b5 = 13 ∨ gk h b5 = 15) ∧ ¬ v1 < 0 ∧ (v1 : Int32).toNatClampNeg < gz h b5) <|
        some ((gI h b5 (v1 : Int32).toNatClampNeg) &&& 255, h)
      else
        some ((-1), h)
    else
      some ((-1), h)
set_option maxRecDepth 100000 in
set_option maxHeartbeats 4000000 in
theorem s_Rw_byteAt {F : Nat} {a0 : Nat} {v1 : Int32} {h h' : ck_H} {r : Int32} (e : f_Rw_byteAt F a0 v1 h = some (r, h')) : Go k_Rw_byteAt 0 (ck_in [.ref a0, .int v1] 2) [] h (some (.int r), h') := by
  unfold f_Rw_byteAt at e
  show Go k_Rw_byteAt 0 [some (.ref a0), some (.int v1)] [] h _
  refine go_iload_n rfl rfl ?_
  refine go_if_lt (t := 19) rfl rfl (fun hx_1 => ?_) (fun hx_1 => ?_)
  · rw [if_pos hx_1] at e
    refine go_iconst (v := (-1)) rfl (by decide) ?_
    refine go_goto (t := 33) rfl rfl ?_
    cases e
    exact go_ret rfl rfl
  · rw [if_neg hx_1] at e
    refine go_iload_n rfl rfl ?_
    refine go_aload_n rfl rfl ?_
    replace e := ck_as_e e
    obtain ⟨hk_2, e⟩ := e
    refine go_get (v := .int (gI h a0 1)) rfl rfl hk_2 (by decide) rfl ?_
    refine go_icmp_ge (t := 19) rfl rfl (fun hx_3 => ?_) (fun hx_3 => ?_)
    · rw [if_pos hx_3] at e
      refine go_iload_n rfl rfl ?_
      refine go_sipush (v := 1200) rfl (by decide) ?_
      refine go_icmp_lt (t := 23) rfl rfl (fun hx_4 => ?_) (fun hx_4 => ?_)
      · rw [if_pos hx_4] at e
        refine go_aload_n rfl rfl ?_
        replace e := ck_some_e e
        obtain ⟨b5, hq_6, e⟩ := e
        refine go_get (v := .ref b5) rfl rfl hk_2 (by decide) (by show va_rf (gR h a0 0) = _; rw [hq_6]; rfl) ?_
        refine go_iload_n rfl rfl ?_
        replace e := ck_as_e e
        obtain ⟨hc_7, e⟩ := e
        refine go_bald rfl hc_7 ?_
        refine go_sipush (v := 255) rfl (by decide) ?_
        refine go_iand rfl ?_
        cases e
        exact go_ret rfl rfl
      · rw [if_neg hx_4] at e
        refine go_iconst (v := (-1)) rfl (by decide) ?_
        refine go_goto (t := 33) rfl rfl ?_
        cases e
        exact go_ret rfl rfl
    · rw [if_neg hx_3] at e
      refine go_iconst (v := (-1)) rfl (by decide) ?_
      refine go_goto (t := 33) rfl rfl ?_
      cases e
      exact go_ret rfl rfl
def f_CS_out (F : Nat) (a0 : Nat) (v1 : Int32) (h : ck_H) : Option (Int32 × ck_H) :=
  ck_as (gk h a0 = 11) <|
  ck_some (gR h a0 1) fun b2 =>
  ck_as (gk h b2 = 6) <|
  ck_bd (f_Rw_byteAt F b2 v1 h) fun r5 h6 =>
  some (r5, h6)
set_option maxRecDepth 100000 in
set_option maxHeartbeats 4000000 in
theorem s_CS_out {F : Nat} {a0 : Nat} {v1 : Int32} {h h' : ck_H} {r : Int32} (e : f_CS_out F a0 v1 h = some (r, h')) : Go k_CS_out 0 (ck_in [.ref a0, .int v1] 2) [] h (some (.int r), h') := by
  unfold f_CS_out at e
  show Go k_CS_out 0 [some (.ref a0), some (.int v1)] [] h _
  refine go_aload_n rfl rfl ?_
  replace e := ck_as_e e
  obtain ⟨hk_1, e⟩ := e
  replace e := ck_some_e e
  obtain ⟨b2, hq_3, e⟩ := e
  refine go_get (v := .ref b2) rfl rfl hk_1 (by decide) (by show va_rf (gR h a0 1) = _; rw [hq_3]; rfl) ?_
  refine go_iload_n rfl rfl ?_
  replace e := ck_as_e e
  obtain ⟨hk_4, e⟩ := e
  replace e := ck_bd_e e
  obtain ⟨r5, h6, e7, e⟩ := e
  refine go_callV (As := [.int v1]) (b0 := b2) (rest := []) rfl rfl ⟨hk_4, by decide⟩ rfl ⟨Nat.le_of_ble_eq_true rfl, Nat.le_of_ble_eq_true rfl, Nat.le_of_ble_eq_true rfl, Nat.le_of_ble_eq_true rfl⟩ (s_Rw_byteAt e7) ?_
  show Go k_CS_out 8 [some (.ref a0), some (.int v1)] [.int r5] h6 _
  cases e
  exact go_ret rfl rfl
def f_Ch_setCommand (F : Nat) (a0 : Nat) (v1 : Int32) (v2 : Int32) (v3 : Int32) (v4 : Int32) (v5 : Int32) (h : ck_H) : Option (Unit × ck_H) :=
  if v1 < (0 : Int32) then
    some ((), h)
  else
    if v1 < (32 : Int32) then
      ck_as (gk h a0 = 0) <|
      ck_some (gR h a0 1) fun b4 =>
      ck_as ((16 ≤ gk h b4 ∧ gk h b4 ≤ 20) ∧ ¬ v1 < 0 ∧ (v1 : Int32).toNatClampNeg < gz h b4) <|
      ck_opt (gR h b4 (v1 : Int32).toNatClampNeg) (
        none
      ) fun b8 =>
      ck_as (gk h b8 = 1) <|
      ck_then (wI h b8 0 v2) fun h10 =>
      ck_then (wI h10 b8 1 v3) fun h13 =>
      ck_then (wI h13 b8 2 v4) fun h16 =>
      ck_then (wI h16 b8 3 v5) fun h19 =>
      some ((), h19)
    else
      some ((), h)
set_option maxRecDepth 100000 in
set_option maxHeartbeats 4000000 in
theorem s_Ch_setCommand {F : Nat} {a0 : Nat} {v1 : Int32} {v2 : Int32} {v3 : Int32} {v4 : Int32} {v5 : Int32} {h h' : ck_H} {r : Unit} (e : f_Ch_setCommand F a0 v1 v2 v3 v4 v5 h = some (r, h')) : Go k_Ch_setCommand 0 (ck_in [.ref a0, .int v1, .int v2, .int v3, .int v4, .int v5] 7) [] h (none, h') := by
  unfold f_Ch_setCommand at e
  show Go k_Ch_setCommand 0 [some (.ref a0), some (.int v1), some (.int v2), some (.int v3), some (.int v4), some (.int v5), none] [] h _
  refine go_iload_n rfl rfl ?_
  refine go_if_lt (t := 10) rfl rfl (fun hx_1 => ?_) (fun hx_1 => ?_)
  · rw [if_pos hx_1] at e
    cases e
    exact go_ret rfl rfl
  · rw [if_neg hx_1] at e
    refine go_iload_n rfl rfl ?_
    refine go_bipush (v := 32) rfl (by decide) ?_
    refine go_icmp_lt (t := 11) rfl rfl (fun hx_2 => ?_) (fun hx_2 => ?_)
    · rw [if_pos hx_2] at e
      refine go_aload_n rfl rfl ?_
      replace e := ck_as_e e
      obtain ⟨hk_3, e⟩ := e
      replace e := ck_some_e e
      obtain ⟨b4, hq_5, e⟩ := e
      refine go_get (v := .ref b4) rfl rfl hk_3 (by decide) (by show va_rf (gR h a0 1) = _; rw [hq_5]; rfl) ?_
      refine go_iload_n rfl rfl ?_
      replace e := ck_as_e e
      obtain ⟨hc_6, e⟩ := e
      replace e := ck_opt_e e
      rcases e with ⟨hq_7, e⟩ | ⟨b8, hq_7, e⟩
      · refine go_aald (v := .null) rfl hc_6 (by rw [hq_7]; rfl) ?_
        refine go_astoreN rfl rfl ?_
        show Go k_Ch_setCommand 19 [some (.ref a0), some (.int v1), some (.int v2), some (.int v3), some (.int v4), some (.int v5), some .null] [] h _
        refine go_aloadN rfl rfl ?_
        refine go_iload_n rfl rfl ?_
        cases e
      refine go_aald (v := .ref b8) rfl hc_6 (by rw [hq_7]; rfl) ?_
      refine go_astore rfl rfl ?_
      show Go k_Ch_setCommand 19 [some (.ref a0), some (.int v1), some (.int v2), some (.int v3), some (.int v4), some (.int v5), some (.ref b8)] [] h _
      refine go_aload rfl rfl ?_
      refine go_iload_n rfl rfl ?_
      replace e := ck_as_e e
      obtain ⟨hk_9, e⟩ := e
      refine go_put (h1 := wI h b8 0 v2) rfl rfl hk_9 ⟨by decide, by decide, Or.inl rfl⟩ rfl ?_
      have hk_11 : gk (wI h b8 0 v2) a0 = 0 := ck_kI.trans hk_3
      have hk_12 : gk (wI h b8 0 v2) b8 = 1 := ck_kI.trans hk_9
      generalize wI h b8 0 v2 = h10 at e hk_11 hk_12 ⊢
      replace e := ck_then_e e
      refine go_aload rfl rfl ?_
      refine go_iload_n rfl rfl ?_
      refine go_put (h1 := wI h10 b8 1 v3) rfl rfl hk_12 ⟨by decide, by decide, Or.inl rfl⟩ rfl ?_
      have hk_14 : gk (wI h10 b8 1 v3) a0 = 0 := ck_kI.trans hk_11
      have hk_15 : gk (wI h10 b8 1 v3) b8 = 1 := ck_kI.trans hk_12
      generalize wI h10 b8 1 v3 = h13 at e hk_14 hk_15 ⊢
      replace e := ck_then_e e
      refine go_aload rfl rfl ?_
      refine go_iload rfl rfl ?_
      refine go_put (h1 := wI h13 b8 2 v4) rfl rfl hk_15 ⟨by decide, by decide, Or.inl rfl⟩ rfl ?_
      have hk_17 : gk (wI h13 b8 2 v4) a0 = 0 := ck_kI.trans hk_14
      have hk_18 : gk (wI h13 b8 2 v4) b8 = 1 := ck_kI.trans hk_15
      generalize wI h13 b8 2 v4 = h16 at e hk_17 hk_18 ⊢
      replace e := ck_then_e e
      refine go_aload rfl rfl ?_
      refine go_iload rfl rfl ?_
      refine go_put (h1 := wI h16 b8 3 v5) rfl rfl hk_18 ⟨by decide, by decide, Or.inl rfl⟩ rfl ?_
      have hk_20 : gk (wI h16 b8 3 v5) a0 = 0 := ck_kI.trans hk_17
      have hk_21 : gk (wI h16 b8 3 v5) b8 = 1 := ck_kI.trans hk_18
      generalize wI h16 b8 3 v5 = h19 at e hk_20 hk_21 ⊢
      replace e := ck_then_e e
      cases e
      exact go_ret rfl rfl
    · rw [if_neg hx_2] at e
      cases e
      exact go_ret rfl rfl
def f_CS_command (F : Nat) (a0 : Nat) (v1 : Int32) (v2 : Int32) (v3 : Int32) (v4 : Int32) (v5 : Int32) (h : ck_H) : Option (Int32 × ck_H) :=
  if v1 < (0 : Int32) then
    some ((-2), h)
  else
    if v1 < (32 : Int32) then
      if v5 < (0 : Int32) then
        some ((-2), h)
      else
        if (7 : Int32) < v5 then
          some ((-2), h)
        else
          ck_as (gk h a0 = 11) <|
          ck_some (gR h a0 5) fun b6 =>
          ck_as (gk h b6 = 0) <|
          ck_bd (f_Ch_setCommand F b6 v1 v2 v3 v4 v5 h) fun _ h10 =>
          some (1, h10)
    else
      some ((-2), h)
set_option maxRecDepth 100000 in
set_option maxHeartbeats 4000000 in
theorem s_CS_command {F : Nat} {a0 : Nat} {v1 : Int32} {v2 : Int32} {v3 : Int32} {v4 : Int32} {v5 : Int32} {h h' : ck_H} {r : Int32} (e : f_CS_command F a0 v1 v2 v3 v4 v5 h = some (r, h')) : Go k_CS_command 0 (ck_in [.ref a0, .int v1, .int v2, .int v3, .int v4, .int v5] 6) [] h (some (.int r), h') := by
  unfold f_CS_command at e
  show Go k_CS_command 0 [some (.ref a0), some (.int v1), some (.int v2), some (.int v3), some (.int v4), some (.int v5)] [] h _
  refine go_iload_n rfl rfl ?_
  refine go_if_lt (t := 22) rfl rfl (fun hx_1 => ?_) (fun hx_1 => ?_)
  · rw [if_pos hx_1] at e
    refine go_bipush (v := (-2)) rfl (by decide) ?_
    cases e
    exact go_ret rfl rfl
  · rw [if_neg hx_1] at e
    refine go_iload_n rfl rfl ?_
    refine go_bipush (v := 32) rfl (by decide) ?_
    refine go_icmp_ge (t := 22) rfl rfl (fun hx_2 => ?_) (fun hx_2 => ?_)
    · rw [if_pos hx_2] at e
      refine go_iload rfl rfl ?_
      refine go_if_lt (t := 22) rfl rfl (fun hx_3 => ?_) (fun hx_3 => ?_)
      · rw [if_pos hx_3] at e
        refine go_bipush (v := (-2)) rfl (by decide) ?_
        cases e
        exact go_ret rfl rfl
      · rw [if_neg hx_3] at e
        refine go_iload rfl rfl ?_
        refine go_bipush (v := 7) rfl (by decide) ?_
        refine go_icmp_le (t := 25) rfl rfl (fun hx_4 => ?_) (fun hx_4 => ?_)
        · rw [if_pos hx_4] at e
          refine go_bipush (v := (-2)) rfl (by decide) ?_
          cases e
          exact go_ret rfl rfl
        · rw [if_neg hx_4] at e
          refine go_aload_n rfl rfl ?_
          replace e := ck_as_e e
          obtain ⟨hk_5, e⟩ := e
          replace e := ck_some_e e
          obtain ⟨b6, hq_7, e⟩ := e
          refine go_get (v := .ref b6) rfl rfl hk_5 (by decide) (by show va_rf (gR h a0 5) = _; rw [hq_7]; rfl) ?_
          refine go_iload_n rfl rfl ?_
          refine go_iload_n rfl rfl ?_
          refine go_iload_n rfl rfl ?_
          refine go_iload rfl rfl ?_
          refine go_iload rfl rfl ?_
          replace e := ck_as_e e
          obtain ⟨hk_8, e⟩ := e
          replace e := ck_bd_e e
          obtain ⟨r9, h10, e11, e⟩ := e
          refine go_callV (As := [.int v1, .int v2, .int v3, .int v4, .int v5]) (b0 := b6) (rest := []) rfl rfl ⟨hk_8, by decide⟩ rfl ⟨Nat.le_of_ble_eq_true rfl, Nat.le_of_ble_eq_true rfl, Nat.le_of_ble_eq_true rfl, Nat.le_of_ble_eq_true rfl⟩ (s_Ch_setCommand e11) ?_
          show Go k_CS_command 39 [some (.ref a0), some (.int v1), some (.int v2), some (.int v3), some (.int v4), some (.int v5)] [] h10 _
          refine go_iconst (v := 1) rfl (by decide) ?_
          cases e
          exact go_ret rfl rfl
    · rw [if_neg hx_2] at e
      refine go_bipush (v := (-2)) rfl (by decide) ?_
      cases e
      exact go_ret rfl rfl
def f_Ch_byteAt (F : Nat) (a0 : Nat) (v1 : Int32) (h : ck_H) : Option (Int32 × ck_H) :=
  if v1 < (0 : Int32) then
    some (0, h)
  else
    if v1 < (2048 : Int32) then
      ck_as (gk h a0 = 0) <|
      ck_some (gR h a0 0) fun b4 =>
      ck_as ((gk h b4 = 13 ∨ gk h b4 = 15) ∧ ¬ v1 < 0 ∧ (v1 : Int32).toNatClampNeg < gz h b4) <|
      some ((gI h b4 (v1 : Int32).toNatClampNeg) &&& 255, h)
    else
      some (0, h)
set_option maxRecDepth 100000 in
set_option maxHeartbeats 4000000 in
theorem s_Ch_byteAt {F : Nat} {a0 : Nat} {v1 : Int32} {h h' : ck_H} {r : Int32} (e : f_Ch_byteAt F a0 v1 h = some (r, h')) : Go k_Ch_byteAt 0 (ck_in [.ref a0, .int v1] 2) [] h (some (.int r), h') := by
  unfold f_Ch_byteAt at e
  show Go k_Ch_byteAt 0 [some (.ref a0), some (.int v1)] [] h _
  refine go_iload_n rfl rfl ?_
  refine go_if_lt (t := 11) rfl rfl (fun hx_1 => ?_) (fun hx_1 => ?_)
  · rw [if_pos hx_1] at e
    refine go_iconst (v := 0) rfl (by decide) ?_
    refine go_goto (t := 25) rfl rfl ?_
    cases e
    exact go_ret rfl rfl
  · rw [if_neg hx_1] at e
    refine go_iload_n rfl rfl ?_
    refine go_sipush (v := 2048) rfl (by decide) ?_
    refine go_icmp_lt (t := 15) rfl rfl (fun hx_2 => ?_) (fun hx_2 => ?_)
    · rw [if_pos hx_2] at e
      refine go_aload_n rfl rfl ?_
      replace e := ck_as_e e
      obtain ⟨hk_3, e⟩ := e
      replace e := ck_some_e e
      obtain ⟨b4, hq_5, e⟩ := e
      refine go_get (v := .ref b4) rfl rfl hk_3 (by decide) (by show va_rf (gR h a0 0) = _; rw [hq_5]; rfl) ?_
      refine go_iload_n rfl rfl ?_
      replace e := ck_as_e e
      obtain ⟨hc_6, e⟩ := e
      refine go_bald rfl hc_6 ?_
      refine go_sipush (v := 255) rfl (by decide) ?_
      refine go_iand rfl ?_
      cases e
      exact go_ret rfl rfl
    · rw [if_neg hx_2] at e
      refine go_iconst (v := 0) rfl (by decide) ?_
      refine go_goto (t := 25) rfl rfl ?_
      cases e
      exact go_ret rfl rfl
def f_CS_memory (F : Nat) (a0 : Nat) (v1 : Int32) (h : ck_H) : Option (Int32 × ck_H) :=
  if v1 < (0 : Int32) then
    some ((-2), h)
  else
    if v1 < (2048 : Int32) then
      ck_as (gk h a0 = 11) <|
      ck_some (gR h a0 5) fun b4 =>
      ck_as (gk h b4 = 0) <|
      ck_bd (f_Ch_byteAt F b4 v1 h) fun r7 h8 =>
      some (r7, h8)
    else
      some ((-2), h)
set_option maxRecDepth 100000 in
set_option maxHeartbeats 4000000 in
theorem s_CS_memory {F : Nat} {a0 : Nat} {v1 : Int32} {h h' : ck_H} {r : Int32} (e : f_CS_memory F a0 v1 h = some (r, h')) : Go k_CS_memory 0 (ck_in [.ref a0, .int v1] 2) [] h (some (.int r), h') := by
  unfold f_CS_memory at e
  show Go k_CS_memory 0 [some (.ref a0), some (.int v1)] [] h _
  refine go_iload_n rfl rfl ?_
  refine go_if_lt (t := 11) rfl rfl (fun hx_1 => ?_) (fun hx_1 => ?_)
  · rw [if_pos hx_1] at e
    refine go_bipush (v := (-2)) rfl (by decide) ?_
    refine go_goto (t := 24) rfl rfl ?_
    cases e
    exact go_ret rfl rfl
  · rw [if_neg hx_1] at e
    refine go_iload_n rfl rfl ?_
    refine go_sipush (v := 2048) rfl (by decide) ?_
    refine go_icmp_lt (t := 16) rfl rfl (fun hx_2 => ?_) (fun hx_2 => ?_)
    · rw [if_pos hx_2] at e
      refine go_aload_n rfl rfl ?_
      replace e := ck_as_e e
      obtain ⟨hk_3, e⟩ := e
      replace e := ck_some_e e
      obtain ⟨b4, hq_5, e⟩ := e
      refine go_get (v := .ref b4) rfl rfl hk_3 (by decide) (by show va_rf (gR h a0 5) = _; rw [hq_5]; rfl) ?_
      refine go_iload_n rfl rfl ?_
      replace e := ck_as_e e
      obtain ⟨hk_6, e⟩ := e
      replace e := ck_bd_e e
      obtain ⟨r7, h8, e9, e⟩ := e
      refine go_callV (As := [.int v1]) (b0 := b4) (rest := []) rfl rfl ⟨hk_6, by decide⟩ rfl ⟨Nat.le_of_ble_eq_true rfl, Nat.le_of_ble_eq_true rfl, Nat.le_of_ble_eq_true rfl, Nat.le_of_ble_eq_true rfl⟩ (s_Ch_byteAt e9) ?_
      show Go k_CS_memory 24 [some (.ref a0), some (.int v1)] [.int r7] h8 _
      cases e
      exact go_ret rfl rfl
    · rw [if_neg hx_2] at e
      refine go_bipush (v := (-2)) rfl (by decide) ?_
      refine go_goto (t := 24) rfl rfl ?_
      cases e
      exact go_ret rfl rfl
def f_Ch_fill (F : Nat) (a0 : Nat) (v1 : Int32) (a2 : Nat) (v3 : Int32) (h : ck_H) : Option (Unit × ck_H) :=
  if v3 < (0 : Int32) then
    some ((), h)
  else
    ck_as (13 ≤ gk h a2 ∧ gk h a2 ≤ 21) <|
    if (Int32.ofNat (gz h a2)) < v3 then
      some ((), h)
    else
      if v1 < (0 : Int32) then
        some ((), h)
      else
        if (2048 - v3) < v1 then
          some ((), h)
        else
          ck_as (gk h a0 = 0) <|
          ck_some (gR h a0 0) fun b7 =>
          ck_as (gk h a2 = gk h b7 ∧ (gk h b7 = 13 ∨ gk h b7 = 14) ∧ ¬ (0 : Int32) < 0 ∧ ¬ v1 < 0 ∧ ¬ v3 < 0 ∧ (0 : Int32).toNatClampNeg + (v3 : Int32).toNatClampNeg ≤ gz h a2 ∧ (v1 : Int32).toNatClampNeg + (v3 : Int32).toNatClampNeg ≤ gz h b7) <|
          ck_then (wC h a2 (0 : Int32).toNatClampNeg b7 (v1 : Int32).toNatClampNeg (v3 : Int32).toNatClampNeg) fun h10 =>
          some ((), h10)
set_option maxRecDepth 100000 in
set_option maxHeartbeats 4000000 in
theorem s_Ch_fill {F : Nat} {a0 : Nat} {v1 : Int32} {a2 : Nat} {v3 : Int32} {h h' : ck_H} {r : Unit} (e : f_Ch_fill F a0 v1 a2 v3 h = some (r, h')) : Go k_Ch_fill 0 (ck_in [.ref a0, .int v1, .ref a2, .int v3] 4) [] h (none, h') := by
  unfold f_Ch_fill at e
  show Go k_Ch_fill 0 [some (.ref a0), some (.int v1), some (.ref a2), some (.int v3)] [] h _
  refine go_iload_n rfl rfl ?_
  refine go_if_lt (t := 34) rfl rfl (fun hx_1 => ?_) (fun hx_1 => ?_)
  · rw [if_pos hx_1] at e
    cases e
    exact go_ret rfl rfl
  · rw [if_neg hx_1] at e
    refine go_iload_n rfl rfl ?_
    refine go_aload_n rfl rfl ?_
    replace e := ck_as_e e
    obtain ⟨hc_2, e⟩ := e
    refine go_alen rfl hc_2 ?_
    refine go_icmp_gt (t := 34) rfl rfl (fun hx_3 => ?_) (fun hx_3 => ?_)
    · rw [if_pos hx_3] at e
      cases e
      exact go_ret rfl rfl
    · rw [if_neg hx_3] at e
      refine go_iload_n rfl rfl ?_
      refine go_if_lt (t := 34) rfl rfl (fun hx_4 => ?_) (fun hx_4 => ?_)
      · rw [if_pos hx_4] at e
        cases e
        exact go_ret rfl rfl
      · rw [if_neg hx_4] at e
        refine go_iload_n rfl rfl ?_
        refine go_sipush (v := 2048) rfl (by decide) ?_
        refine go_iload_n rfl rfl ?_
        refine go_isub rfl ?_
        refine go_icmp_gt (t := 34) rfl rfl (fun hx_5 => ?_) (fun hx_5 => ?_)
        · rw [if_pos hx_5] at e
          cases e
          exact go_ret rfl rfl
        · rw [if_neg hx_5] at e
          refine go_aload_n rfl rfl ?_
          refine go_iconst (v := 0) rfl (by decide) ?_
          refine go_aload_n rfl rfl ?_
          replace e := ck_as_e e
          obtain ⟨hk_6, e⟩ := e
          replace e := ck_some_e e
          obtain ⟨b7, hq_8, e⟩ := e
          refine go_get (v := .ref b7) rfl rfl hk_6 (by decide) (by show va_rf (gR h a0 0) = _; rw [hq_8]; rfl) ?_
          refine go_iload_n rfl rfl ?_
          refine go_iload_n rfl rfl ?_
          replace e := ck_as_e e
          obtain ⟨hc_9, e⟩ := e
          refine go_copy rfl rfl ⟨Nat.le_of_ble_eq_true rfl, Nat.le_of_ble_eq_true rfl⟩ hc_9 ?_
          have hk_11 : gk (wC h a2 (0 : Int32).toNatClampNeg b7 (v1 : Int32).toNatClampNeg (v3 : Int32).toNatClampNeg) a0 = 0 := ck_kC.trans hk_6
          generalize wC h a2 (0 : Int32).toNatClampNeg b7 (v1 : Int32).toNatClampNeg (v3 : Int32).toNatClampNeg = h10 at e hk_11 ⊢
          replace e := ck_then_e e
          cases e
          exact go_ret rfl rfl
def f_CS_poke (F : Nat) (a0 : Nat) (v1 : Int32) (h : ck_H) : Option (Int32 × ck_H) :=
  ck_as (gk h a0 = 11) <|
  ck_some (gR h a0 0) fun b2 =>
  ck_as (gk h b2 = 6) <|
  ck_then (gI h b2 1) fun x5 =>
  ck_some (gR h a0 0) fun b6 =>
  ck_as (gk h b6 = 6) <|
  ck_then (wI h b6 1 0) fun h9 =>
  if v1 < (0 : Int32) then
    some ((-2), h9)
  else
    if (2048 - x5) < v1 then
      some ((-2), h9)
    else
      ck_some (gR h9 a0 5) fun b15 =>
      ck_some (gR h9 a0 0) fun b17 =>
      ck_as (gk h9 b17 = 6) <|
      ck_some (gR h9 b17 0) fun b20 =>
      ck_as (gk h9 b15 = 0) <|
      ck_bd (f_Ch_fill F b15 v1 b20 x5 h9) fun _ h24 =>
      some (x5, h24)
set_option maxRecDepth 100000 in
set_option maxHeartbeats 4000000 in
theorem s_CS_poke {F : Nat} {a0 : Nat} {v1 : Int32} {h h' : ck_H} {r : Int32} (e : f_CS_poke F a0 v1 h = some (r, h')) : Go k_CS_poke 0 (ck_in [.ref a0, .int v1] 3) [] h (some (.int r), h') := by
  unfold f_CS_poke at e
  show Go k_CS_poke 0 [some (.ref a0), some (.int v1), none] [] h _
  refine go_aload_n rfl rfl ?_
  replace e := ck_as_e e
  obtain ⟨hk_1, e⟩ := e
  replace e := ck_some_e e
  obtain ⟨b2, hq_3, e⟩ := e
  refine go_get (v := .ref b2) rfl rfl hk_1 (by decide) (by show va_rf (gR h a0 0) = _; rw [hq_3]; rfl) ?_
  replace e := ck_as_e e
  obtain ⟨hk_4, e⟩ := e
  refine go_get (v := .int (gI h b2 1)) rfl rfl hk_4 (by decide) rfl ?_
  generalize gI h b2 1 = x5 at e ⊢
  replace e := ck_then_e e
  refine go_istore_n rfl rfl ?_
  show Go k_CS_poke 8 [some (.ref a0), some (.int v1), some (.int x5)] [] h _
  refine go_aload_n rfl rfl ?_
  replace e := ck_some_e e
  obtain ⟨b6, hq_7, e⟩ := e
  refine go_get (v := .ref b6) rfl rfl hk_1 (by decide) (by show va_rf (gR h a0 0) = _; rw [hq_7]; rfl) ?_
  refine go_iconst (v := 0) rfl (by decide) ?_
  replace e := ck_as_e e
  obtain ⟨hk_8, e⟩ := e
  refine go_put (h1 := wI h b6 1 0) rfl rfl hk_8 ⟨by decide, by decide, Or.inl rfl⟩ rfl ?_
  have hk_10 : gk (wI h b6 1 0) a0 = 11 := ck_kI.trans hk_1
  have hk_11 : gk (wI h b6 1 0) b2 = 6 := ck_kI.trans hk_4
  have hk_12 : gk (wI h b6 1 0) b6 = 6 := ck_kI.trans hk_8
  generalize wI h b6 1 0 = h9 at e hk_10 hk_11 hk_12 ⊢
  replace e := ck_then_e e
  refine go_iload_n rfl rfl ?_
  refine go_if_lt (t := 29) rfl rfl (fun hx_13 => ?_) (fun hx_13 => ?_)
  · rw [if_pos hx_13] at e
    refine go_bipush (v := (-2)) rfl (by decide) ?_
    cases e
    exact go_ret rfl rfl
  · rw [if_neg hx_13] at e
    refine go_iload_n rfl rfl ?_
    refine go_sipush (v := 2048) rfl (by decide) ?_
    refine go_iload_n rfl rfl ?_
    refine go_isub rfl ?_
    refine go_icmp_le (t := 32) rfl rfl (fun hx_14 => ?_) (fun hx_14 => ?_)
    · rw [if_pos hx_14] at e
      refine go_bipush (v := (-2)) rfl (by decide) ?_
      cases e
      exact go_ret rfl rfl
    · rw [if_neg hx_14] at e
      refine go_aload_n rfl rfl ?_
      replace e := ck_some_e e
      obtain ⟨b15, hq_16, e⟩ := e
      refine go_get (v := .ref b15) rfl rfl hk_10 (by decide) (by show va_rf (gR h9 a0 5) = _; rw [hq_16]; rfl) ?_
      refine go_iload_n rfl rfl ?_
      refine go_aload_n rfl rfl ?_
      replace e := ck_some_e e
      obtain ⟨b17, hq_18, e⟩ := e
      refine go_get (v := .ref b17) rfl rfl hk_10 (by decide) (by show va_rf (gR h9 a0 0) = _; rw [hq_18]; rfl) ?_
      replace e := ck_as_e e
      obtain ⟨hk_19, e⟩ := e
      replace e := ck_some_e e
      obtain ⟨b20, hq_21, e⟩ := e
      refine go_get (v := .ref b20) rfl rfl hk_19 (by decide) (by show va_rf (gR h9 b17 0) = _; rw [hq_21]; rfl) ?_
      refine go_iload_n rfl rfl ?_
      replace e := ck_as_e e
      obtain ⟨hk_22, e⟩ := e
      replace e := ck_bd_e e
      obtain ⟨r23, h24, e25, e⟩ := e
      refine go_callV (As := [.int v1, .ref b20, .int x5]) (b0 := b15) (rest := []) rfl rfl ⟨hk_22, by decide⟩ rfl ⟨Nat.le_of_ble_eq_true rfl, Nat.le_of_ble_eq_true rfl, Nat.le_of_ble_eq_true rfl, Nat.le_of_ble_eq_true rfl⟩ (s_Ch_fill e25) ?_
      show Go k_CS_poke 48 [some (.ref a0), some (.int v1), some (.int x5)] [] h24 _
      refine go_iload_n rfl rfl ?_
      cases e
      exact go_ret rfl rfl
def f_CS_unitAt (F : Nat) (a0 : Nat) (v1 : Int32) (h : ck_H) : Option (Option Nat × ck_H) :=
  if v1 < (0 : Int32) then
    some (none, h)
  else
    if v1 < (2 : Int32) then
      ck_as (gk h a0 = 11) <|
      ck_some (gR h a0 4) fun b4 =>
      ck_as ((16 ≤ gk h b4 ∧ gk h b4 ≤ 20) ∧ ¬ v1 < 0 ∧ (v1 : Int32).toNatClampNeg < gz h b4) <|
      ck_opt (gR h b4 (v1 : Int32).toNatClampNeg) (
        some (none, h)
      ) fun b8 =>
      some (some b8, h)
    else
      some (none, h)
set_option maxRecDepth 100000 in
set_option maxHeartbeats 4000000 in
theorem s_CS_unitAt {F : Nat} {a0 : Nat} {v1 : Int32} {h h' : ck_H} {r : Option Nat} (e : f_CS_unitAt F a0 v1 h = some (r, h')) : Go k_CS_unitAt 0 (ck_in [.ref a0, .int v1] 2) [] h (some (va_rf r), h') := by
  unfold f_CS_unitAt at e
  show Go k_CS_unitAt 0 [some (.ref a0), some (.int v1)] [] h _
  refine go_iload_n rfl rfl ?_
  refine go_if_lt (t := 9) rfl rfl (fun hx_1 => ?_) (fun hx_1 => ?_)
  · rw [if_pos hx_1] at e
    refine go_null rfl ?_
    refine go_goto (t := 19) rfl rfl ?_
    cases e
    exact go_ret rfl rfl
  · rw [if_neg hx_1] at e
    refine go_iload_n rfl rfl ?_
    refine go_iconst (v := 2) rfl (by decide) ?_
    refine go_icmp_lt (t := 13) rfl rfl (fun hx_2 => ?_) (fun hx_2 => ?_)
    · rw [if_pos hx_2] at e
      refine go_aload_n rfl rfl ?_
      replace e := ck_as_e e
      obtain ⟨hk_3, e⟩ := e
      replace e := ck_some_e e
      obtain ⟨b4, hq_5, e⟩ := e
      refine go_get (v := .ref b4) rfl rfl hk_3 (by decide) (by show va_rf (gR h a0 4) = _; rw [hq_5]; rfl) ?_
      refine go_iload_n rfl rfl ?_
      replace e := ck_as_e e
      obtain ⟨hc_6, e⟩ := e
      replace e := ck_opt_e e
      rcases e with ⟨hq_7, e⟩ | ⟨b8, hq_7, e⟩
      · refine go_aald (v := .null) rfl hc_6 (by rw [hq_7]; rfl) ?_
        cases e
        exact go_ret rfl rfl
      refine go_aald (v := .ref b8) rfl hc_6 (by rw [hq_7]; rfl) ?_
      cases e
      exact go_ret rfl rfl
    · rw [if_neg hx_2] at e
      refine go_null rfl ?_
      refine go_goto (t := 19) rfl rfl ?_
      cases e
      exact go_ret rfl rfl
def f_Ch_setPoint (F : Nat) (a0 : Nat) (v1 : Int32) (v2 : Int32) (h : ck_H) : Option (Unit × ck_H) :=
  ck_as (gk h a0 = 0) <|
  ck_then (wI h a0 4 v1) fun h2 =>
  ck_then (wI h2 a0 5 v2) fun h4 =>
  some ((), h4)
set_option maxRecDepth 100000 in
set_option maxHeartbeats 4000000 in
theorem s_Ch_setPoint {F : Nat} {a0 : Nat} {v1 : Int32} {v2 : Int32} {h h' : ck_H} {r : Unit} (e : f_Ch_setPoint F a0 v1 v2 h = some (r, h')) : Go k_Ch_setPoint 0 (ck_in [.ref a0, .int v1, .int v2] 3) [] h (none, h') := by
  unfold f_Ch_setPoint at e
  show Go k_Ch_setPoint 0 [some (.ref a0), some (.int v1), some (.int v2)] [] h _
  refine go_aload_n rfl rfl ?_
  refine go_iload_n rfl rfl ?_
  replace e := ck_as_e e
  obtain ⟨hk_1, e⟩ := e
  refine go_put (h1 := wI h a0 4 v1) rfl rfl hk_1 ⟨by decide, by decide, Or.inl rfl⟩ rfl ?_
  have hk_3 : gk (wI h a0 4 v1) a0 = 0 := ck_kI.trans hk_1
  generalize wI h a0 4 v1 = h2 at e hk_3 ⊢
  replace e := ck_then_e e
  refine go_aload_n rfl rfl ?_
  refine go_iload_n rfl rfl ?_
  refine go_put (h1 := wI h2 a0 5 v2) rfl rfl hk_3 ⟨by decide, by decide, Or.inl rfl⟩ rfl ?_
  have hk_5 : gk (wI h2 a0 5 v2) a0 = 0 := ck_kI.trans hk_3
  generalize wI h2 a0 5 v2 = h4 at e hk_5 ⊢
  replace e := ck_then_e e
  cases e
  exact go_ret rfl rfl
def f_Ch_reset (F : Nat) (a0 : Nat) (a1 : Nat) (h : ck_H) : Option (Unit × ck_H) :=
  ck_as (gk h a0 = 0) <|
  ck_then (wR h a0 2 (some a1)) fun h2 =>
  ck_then (wI h2 a0 3 0) fun h4 =>
  ck_then (wI h4 a0 6 0) fun h6 =>
  ck_then (wI h6 a0 8 0) fun h8 =>
  ck_then (wI h8 a0 9 0) fun h10 =>
  ck_then (wI h10 a0 10 (-1)) fun h12 =>
  ck_then (wI h12 a0 11 0) fun h14 =>
  ck_bd (f_Ch_setPoint F a0 0 (-1) h14) fun _ h17 =>
  some ((), h17)
set_option maxRecDepth 100000 in
set_option maxHeartbeats 4000000 in
theorem s_Ch_reset {F : Nat} {a0 : Nat} {a1 : Nat} {h h' : ck_H} {r : Unit} (e : f_Ch_reset F a0 a1 h = some (r, h')) : Go k_Ch_reset 0 (ck_in [.ref a0, .ref a1] 2) [] h (none, h') := by
  unfold f_Ch_reset at e
  show Go k_Ch_reset 0 [some (.ref a0), some (.ref a1)] [] h _
  refine go_aload_n rfl rfl ?_
  refine go_aload_n rfl rfl ?_
  replace e := ck_as_e e
  obtain ⟨hk_1, e⟩ := e
  refine go_put (h1 := wR h a0 2 (some a1)) rfl rfl hk_1 ⟨by decide, by decide, Or.inl rfl⟩ rfl ?_
  have hk_3 : gk (wR h a0 2 (some a1)) a0 = 0 := ck_kR.trans hk_1
  generalize wR h a0 2 (some a1) = h2 at e hk_3 ⊢
  replace e := ck_then_e e
  refine go_aload_n rfl rfl ?_
  refine go_iconst (v := 0) rfl (by decide) ?_
  refine go_put (h1 := wI h2 a0 3 0) rfl rfl hk_3 ⟨by decide, by decide, Or.inl rfl⟩ rfl ?_
  have hk_5 : gk (wI h2 a0 3 0) a0 = 0 := ck_kI.trans hk_3
  generalize wI h2 a0 3 0 = h4 at e hk_5 ⊢
  replace e := ck_then_e e
  refine go_aload_n rfl rfl ?_
  refine go_iconst (v := 0) rfl (by decide) ?_
  refine go_put (h1 := wI h4 a0 6 0) rfl rfl hk_5 ⟨by decide, by decide, Or.inl rfl⟩ rfl ?_
  have hk_7 : gk (wI h4 a0 6 0) a0 = 0 := ck_kI.trans hk_5
  generalize wI h4 a0 6 0 = h6 at e hk_7 ⊢
  replace e := ck_then_e e
  refine go_aload_n rfl rfl ?_
  refine go_iconst (v := 0) rfl (by decide) ?_
  refine go_put (h1 := wI h6 a0 8 0) rfl rfl hk_7 ⟨by decide, by decide, Or.inl rfl⟩ rfl ?_
  have hk_9 : gk (wI h6 a0 8 0) a0 = 0 := ck_kI.trans hk_7
  generalize wI h6 a0 8 0 = h8 at e hk_9 ⊢
  replace e := ck_then_e e
  refine go_aload_n rfl rfl ?_
  refine go_iconst (v := 0) rfl (by decide) ?_
  refine go_put (h1 := wI h8 a0 9 0) rfl rfl hk_9 ⟨by decide, by decide, Or.inl rfl⟩ rfl ?_
  have hk_11 : gk (wI h8 a0 9 0) a0 = 0 := ck_kI.trans hk_9
  generalize wI h8 a0 9 0 = h10 at e hk_11 ⊢
  replace e := ck_then_e e
  refine go_aload_n rfl rfl ?_
  refine go_iconst (v := (-1)) rfl (by decide) ?_
  refine go_put (h1 := wI h10 a0 10 (-1)) rfl rfl hk_11 ⟨by decide, by decide, Or.inl rfl⟩ rfl ?_
  have hk_13 : gk (wI h10 a0 10 (-1)) a0 = 0 := ck_kI.trans hk_11
  generalize wI h10 a0 10 (-1) = h12 at e hk_13 ⊢
  replace e := ck_then_e e
  refine go_aload_n rfl rfl ?_
  refine go_iconst (v := 0) rfl (by decide) ?_
  refine go_put (h1 := wI h12 a0 11 0) rfl rfl hk_13 ⟨by decide, by decide, Or.inl rfl⟩ rfl ?_
  have hk_15 : gk (wI h12 a0 11 0) a0 = 0 := ck_kI.trans hk_13
  generalize wI h12 a0 11 0 = h14 at e hk_15 ⊢
  replace e := ck_then_e e
  refine go_aload_n rfl rfl ?_
  refine go_iconst (v := 0) rfl (by decide) ?_
  refine go_iconst (v := (-1)) rfl (by decide) ?_
  replace e := ck_bd_e e
  obtain ⟨r16, h17, e18, e⟩ := e
  refine go_callV (As := [.int 0, .int (-1)]) (b0 := a0) (rest := []) rfl rfl ⟨hk_15, by decide⟩ rfl ⟨Nat.le_of_ble_eq_true rfl, Nat.le_of_ble_eq_true rfl, Nat.le_of_ble_eq_true rfl, Nat.le_of_ble_eq_true rfl⟩ (s_Ch_setPoint e18) ?_
  show Go k_Ch_reset 41 [some (.ref a0), some (.ref a1)] [] h17 _
  cases e
  exact go_ret rfl rfl
def f_Cm_chains (F : Nat) (a0 : Nat) (h : ck_H) : Option (Int32 × ck_H) :=
  ck_as (gk h a0 = 1) <|
  if ((gI h a0 3) &&& 1) = (0 : Int32) then
    some (0, h)
  else
    some (1, h)
set_option maxRecDepth 100000 in
set_option maxHeartbeats 4000000 in
theorem s_Cm_chains {F : Nat} {a0 : Nat} {h h' : ck_H} {r : Int32} (e : f_Cm_chains F a0 h = some (r, h')) : Go k_Cm_chains 0 (ck_in [.ref a0] 1) [] h (some (.int r), h') := by
  unfold f_Cm_chains at e
  show Go k_Cm_chains 0 [some (.ref a0)] [] h _
  refine go_aload_n rfl rfl ?_
  replace e := ck_as_e e
  obtain ⟨hk_1, e⟩ := e
  refine go_get (v := .int (gI h a0 3)) rfl rfl hk_1 (by decide) rfl ?_
  refine go_iconst (v := 1) rfl (by decide) ?_
  refine go_iand rfl ?_
  refine go_if_eq (t := 13) rfl rfl (fun hx_2 => ?_) (fun hx_2 => ?_)
  · rw [if_pos hx_2] at e
    refine go_iconst (v := 0) rfl (by decide) ?_
    cases e
    exact go_ret rfl (ck_rvb rfl (Or.inl rfl))
  · rw [if_neg hx_2] at e
    refine go_iconst (v := 1) rfl (by decide) ?_
    refine go_goto (t := 14) rfl rfl ?_
    cases e
    exact go_ret rfl (ck_rvb rfl (Or.inr rfl))
