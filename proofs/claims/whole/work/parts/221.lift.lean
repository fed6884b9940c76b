def f_RM_ownerOf_L57 (F : Nat) (k3 : Nat → Int32 → Int32 → Int32 → Int32 → ck_H → Option (Int32 × ck_H)) (k52 : Nat → Int32 → Int32 → Int32 → Int32 → Int32 → Int32 → Int32 → Int32 → ck_H → Option (Int32 × ck_H)) : Nat → Nat → Int32 → Int32 → Int32 → Int32 → Int32 → Int32 → Int32 → Int32 → ck_H → Option (Int32 × ck_H)
  | 0, _, _, _, _, _, _, _, _, _, _ => none
  | n + 1, a0, v1, v2, v3, v4, v5, v6, v7, v8, h =>
    ck_as (gk h a0 = 12) <|
    ck_some (gR h a0 1) fun b2 =>
    ck_bd (f_RM_trackOf F a0 v1 v6 h) fun r4 h5 =>
    ck_as ((gk h5 b2 = 14 ∨ gk h5 b2 = 21) ∧ ¬ r4 < 0 ∧ (r4 : Int32).toNatClampNeg < gz h5 b2) <|
    if v7 < (gI h5 b2 (r4 : Int32).toNatClampNeg) then
      if v6 = v2 then
        if v7 = v3 then
          some (v5, h5)
        else
          k52 a0 v1 v2 v3 v4 v5 v6 (v7 + 1) (v8 + (-1)) h5
      else
        k52 a0 v1 v2 v3 v4 v5 v6 (v7 + 1) (v8 + (-1)) h5
    else
      f_RM_ownerOf_L57 F k3 k52 n a0 v1 v2 v3 v4 v5 (v6 + 1) 0 v8 h5
set_option maxRecDepth 100000 in
set_option maxHeartbeats 4000000 in
theorem f_RM_ownerOf_L57_s (F : Nat) (k3 : Nat → Int32 → Int32 → Int32 → Int32 → ck_H → Option (Int32 × ck_H)) (k52 : Nat → Int32 → Int32 → Int32 → Int32 → Int32 → Int32 → Int32 → Int32 → ck_H → Option (Int32 × ck_H)) (hk3 : ∀ (a0 : Nat) (v1 : Int32) (v2 : Int32) (v3 : Int32) (v4 : Int32) (h : ck_H) (r : Int32) (h' : ck_H), k3 a0 v1 v2 v3 v4 h = some (r, h') → Go k_RM_ownerOf 3 [some (.ref a0), some (.int v1), some (.int v2), some (.int v3), some (.int v4), none, none, none, none] [] h (some (.int r), h')) (hk52 : ∀ (a0 : Nat) (v1 : Int32) (v2 : Int32) (v3 : Int32) (v4 : Int32) (v5 : Int32) (v6 : Int32) (v7 : Int32) (v8 : Int32) (h : ck_H) (r : Int32) (h' : ck_H), k52 a0 v1 v2 v3 v4 v5 v6 v7 v8 h = some (r, h') → Go k_RM_ownerOf 52 [some (.ref a0), some (.int v1), some (.int v2), some (.int v3), some (.int v4), some (.int v5), some (.int v6), some (.int v7), some (.int v8)] [] h (some (.int r), h')) : ∀ (n : Nat) (a0 : Nat) (v1 : Int32) (v2 : Int32) (v3 : Int32) (v4 : Int32) (v5 : Int32) (v6 : Int32) (v7 : Int32) (v8 : Int32) (h : ck_H) (r : Int32) (h' : ck_H), f_RM_ownerOf_L57 F k3 k52 n a0 v1 v2 v3 v4 v5 v6 v7 v8 h = some (r, h') → Go k_RM_ownerOf 57 [some (.ref a0), some (.int v1), some (.int v2), some (.int v3), some (.int v4), some (.int v5), some (.int v6), some (.int v7), some (.int v8)] [] h (some (.int r), h') := by
  intro n
  induction n with
  | zero => intro a0 v1 v2 v3 v4 v5 v6 v7 v8 h r h' e; simp only [f_RM_ownerOf_L57] at e; cases e
  | succ n ih =>
    intro a0 v1 v2 v3 v4 v5 v6 v7 v8 h r h' e
    rw [f_RM_ownerOf_L57] at e
    refine go_iload rfl rfl ?_
    refine go_aload_n rfl rfl ?_
    replace e := ck_as_e e
    obtain ⟨hk_1, e⟩ := e
    replace e := ck_some_e e
    obtain ⟨b2, hq_3, e⟩ := e
    refine go_get (v := .ref b2) rfl rfl hk_1 (by decide) (by show va_rf (gR h a0 1) = _; rw [hq_3]; rfl) ?_
    refine go_aload_n rfl rfl ?_
    refine go_iload_n rfl rfl ?_
    refine go_iload rfl rfl ?_
    replace e := ck_bd_e e
    obtain ⟨r4, h5, e6, e⟩ := e
    refine go_callV (As := [.int v1, .int v6]) (b0 := a0) (rest := [.ref b2, .int v7]) rfl rfl ⟨hk_1, by decide⟩ rfl ⟨Nat.le_of_ble_eq_true rfl, Nat.le_of_ble_eq_true rfl, Nat.le_of_ble_eq_true rfl, Nat.le_of_ble_eq_true rfl⟩ (s_RM_trackOf e6) ?_
    show Go k_RM_ownerOf 70 [some (.ref a0), some (.int v1), some (.int v2), some (.int v3), some (.int v4), some (.int v5), some (.int v6), some (.int v7), some (.int v8)] [.int r4, .ref b2, .int v7] h5 _
    replace e := ck_as_e e
    obtain ⟨hc_7, e⟩ := e
    refine go_iald rfl hc_7 ?_
    refine go_icmp_lt (t := 83) rfl rfl (fun hx_8 => ?_) (fun hx_8 => ?_)
    · rw [if_pos hx_8] at e
      refine go_iload rfl rfl ?_
      refine go_iload_n rfl rfl ?_
      refine go_icmp_ne (t := 98) rfl rfl (fun hx_9 => ?_) (fun hx_9 => ?_)
      · rw [if_pos hx_9] at e
        refine go_iload rfl rfl ?_
        refine go_iload_n rfl rfl ?_
        refine go_icmp_ne (t := 98) rfl rfl (fun hx_10 => ?_) (fun hx_10 => ?_)
        · rw [if_pos hx_10] at e
          refine go_iload rfl rfl ?_
          cases e
          exact go_ret rfl rfl
        · rw [if_neg hx_10] at e
          refine go_iinc (v := 1) rfl rfl (by decide) rfl ?_
          show Go k_RM_ownerOf 101 [some (.ref a0), some (.int v1), some (.int v2), some (.int v3), some (.int v4), some (.int v5), some (.int v6), some (.int (v7 + 1)), some (.int v8)] [] h5 _
          refine go_iinc (v := (-1)) rfl rfl (by decide) rfl ?_
          show Go k_RM_ownerOf 104 [some (.ref a0), some (.int v1), some (.int v2), some (.int v3), some (.int v4), some (.int v5), some (.int v6), some (.int (v7 + 1)), some (.int (v8 + (-1)))] [] h5 _
          refine go_goto (t := 52) rfl rfl ?_
          refine go_forget (l := [some (.ref a0), some (.int v1), some (.int v2), some (.int v3), some (.int v4), some (.int v5), some (.int v6), some (.int (v7 + 1)), some (.int (v8 + (-1)))]) ⟨Or.inl rfl, Or.inl rfl, Or.inl rfl, Or.inl rfl, Or.inl rfl, Or.inl rfl, Or.inl rfl, Or.inl rfl, Or.inl rfl, trivial⟩ ?_
          exact hk52 _ _ _ _ _ _ _ _ _ _ _ _ e
      · rw [if_neg hx_9] at e
        refine go_iinc (v := 1) rfl rfl (by decide) rfl ?_
        show Go k_RM_ownerOf 101 [some (.ref a0), some (.int v1), some (.int v2), some (.int v3), some (.int v4), some (.int v5), some (.int v6), some (.int (v7 + 1)), some (.int v8)] [] h5 _
        refine go_iinc (v := (-1)) rfl rfl (by decide) rfl ?_
        show Go k_RM_ownerOf 104 [some (.ref a0), some (.int v1), some (.int v2), some (.int v3), some (.int v4), some (.int v5), some (.int v6), some (.int (v7 + 1)), some (.int (v8 + (-1)))] [] h5 _
        refine go_goto (t := 52) rfl rfl ?_
        refine go_forget (l := [some (.ref a0), some (.int v1), some (.int v2), some (.int v3), some (.int v4), some (.int v5), some (.int v6), some (.int (v7 + 1)), some (.int (v8 + (-1)))]) ⟨Or.inl rfl, Or.inl rfl, Or.inl rfl, Or.inl rfl, Or.inl rfl, Or.inl rfl, Or.inl rfl, Or.inl rfl, Or.inl rfl, trivial⟩ ?_
        exact hk52 _ _ _ _ _ _ _ _ _ _ _ _ e
    · rw [if_neg hx_8] at e
      refine go_iinc (v := 1) rfl rfl (by decide) rfl ?_
      show Go k_RM_ownerOf 77 [some (.ref a0), some (.int v1), some (.int v2), some (.int v3), some (.int v4), some (.int v5), some (.int (v6 + 1)), some (.int v7), some (.int v8)] [] h5 _
      refine go_iconst (v := 0) rfl (by decide) ?_
      refine go_istore rfl rfl ?_
      show Go k_RM_ownerOf 80 [some (.ref a0), some (.int v1), some (.int v2), some (.int v3), some (.int v4), some (.int v5), some (.int (v6 + 1)), some (.int 0), some (.int v8)] [] h5 _
      refine go_goto (t := 57) rfl rfl ?_
      refine go_forget (l := [some (.ref a0), some (.int v1), some (.int v2), some (.int v3), some (.int v4), some (.int v5), some (.int (v6 + 1)), some (.int 0), some (.int v8)]) ⟨Or.inl rfl, Or.inl rfl, Or.inl rfl, Or.inl rfl, Or.inl rfl, Or.inl rfl, Or.inl rfl, Or.inl rfl, Or.inl rfl, trivial⟩ ?_
      exact ih _ _ _ _ _ _ _ _ _ _ _ _ e
def f_RM_ownerOf_L52 (F : Nat) (k3 : Nat → Int32 → Int32 → Int32 → Int32 → ck_H → Option (Int32 × ck_H)) : Nat → Nat → Int32 → Int32 → Int32 → Int32 → Int32 → Int32 → Int32 → Int32 → ck_H → Option (Int32 × ck_H)
  | 0, _, _, _, _, _, _, _, _, _, _ => none
  | n + 1, a0, v1, v2, v3, v4, v5, v6, v7, v8, h =>
    if (0 : Int32) < v8 then
      f_RM_ownerOf_L57 F k3 (f_RM_ownerOf_L52 F k3 n) F a0 v1 v2 v3 v4 v5 v6 v7 v8 h
    else
      k3 a0 v1 v2 v3 (v4 + 1) h
set_option maxRecDepth 100000 in
set_option maxHeartbeats 4000000 in
theorem f_RM_ownerOf_L52_s (F : Nat) (k3 : Nat → Int32 → Int32 → Int32 → Int32 → ck_H → Option (Int32 × ck_H)) (hk3 : ∀ (a0 : Nat) (v1 : Int32) (v2 : Int32) (v3 : Int32) (v4 : Int32) (h : ck_H) (r : Int32) (h' : ck_H), k3 a0 v1 v2 v3 v4 h = some (r, h') → Go k_RM_ownerOf 3 [some (.ref a0), some (.int v1), some (.int v2), some (.int v3), some (.int v4), none, none, none, none] [] h (some (.int r), h')) : ∀ (n : Nat) (a0 : Nat) (v1 : Int32) (v2 : Int32) (v3 : Int32) (v4 : Int32) (v5 : Int32) (v6 : Int32) (v7 : Int32) (v8 : Int32) (h : ck_H) (r : Int32) (h' : ck_H), f_RM_ownerOf_L52 F k3 n a0 v1 v2 v3 v4 v5 v6 v7 v8 h = some (r, h') → Go k_RM_ownerOf 52 [some (.ref a0), some (.int v1), some (.int v2), some (.int v3), some (.int v4), some (.int v5), some (.int v6), some (.int v7), some (.int v8)] [] h (some (.int r), h') := by
  intro n
  induction n with
  | zero => intro a0 v1 v2 v3 v4 v5 v6 v7 v8 h r h' e; simp only [f_RM_ownerOf_L52] at e; cases e
  | succ n ih =>
    intro a0 v1 v2 v3 v4 v5 v6 v7 v8 h r h' e
    rw [f_RM_ownerOf_L52] at e
    refine go_iload rfl rfl ?_
    refine go_if_le (t := 107) rfl rfl (fun hx_1 => ?_) (fun hx_1 => ?_)
    · rw [if_pos hx_1] at e
      refine go_forget (l := [some (.ref a0), some (.int v1), some (.int v2), some (.int v3), some (.int v4), some (.int v5), some (.int v6), some (.int v7), some (.int v8)]) ⟨Or.inl rfl, Or.inl rfl, Or.inl rfl, Or.inl rfl, Or.inl rfl, Or.inl rfl, Or.inl rfl, Or.inl rfl, Or.inl rfl, trivial⟩ ?_
      exact f_RM_ownerOf_L57_s F k3 (f_RM_ownerOf_L52 F k3 n) hk3 ih F _ _ _ _ _ _ _ _ _ _ _ _ e
    · rw [if_neg hx_1] at e
      refine go_iinc (v := 1) rfl rfl (by decide) rfl ?_
      show Go k_RM_ownerOf 110 [some (.ref a0), some (.int v1), some (.int v2), some (.int v3), some (.int (v4 + 1)), some (.int v5), some (.int v6), some (.int v7), some (.int v8)] [] h _
      refine go_goto (t := 3) rfl rfl ?_
      refine go_forget (l := [some (.ref a0), some (.int v1), some (.int v2), some (.int v3), some (.int (v4 + 1)), none, none, none, none]) ⟨Or.inl rfl, Or.inl rfl, Or.inl rfl, Or.inl rfl, Or.inl rfl, Or.inr ⟨rfl, fun _ q => by cases q; rfl⟩, Or.inr ⟨rfl, fun _ q => by cases q; rfl⟩, Or.inr ⟨rfl, fun _ q => by cases q; rfl⟩, Or.inr ⟨rfl, fun _ q => by cases q; rfl⟩, trivial⟩ ?_
      exact hk3 _ _ _ _ _ _ _ _ e
def f_RM_ownerOf_L3 (F : Nat)  : Nat → Nat → Int32 → Int32 → Int32 → Int32 → ck_H → Option (Int32 × ck_H)
  | 0, _, _, _, _, _, _ => none
  | n + 1, a0, v1, v2, v3, v4, h =>
    ck_as (gk h a0 = 12) <|
    ck_some (gR h a0 45) fun b2 =>
    ck_as ((gk h b2 = 14 ∨ gk h b2 = 21) ∧ ¬ v1 < 0 ∧ (v1 : Int32).toNatClampNeg < gz h b2) <|
    if v4 < (gI h b2 (v1 : Int32).toNatClampNeg) then
      ck_then ((40 * v1) + v4) fun x6 =>
      ck_some (gR h a0 42) fun b7 =>
      ck_as ((gk h b7 = 14 ∨ gk h b7 = 21) ∧ ¬ x6 < 0 ∧ (x6 : Int32).toNatClampNeg < gz h b7) <|
      ck_then (gI h b7 (x6 : Int32).toNatClampNeg) fun x10 =>
      ck_some (gR h a0 43) fun b11 =>
      ck_as ((gk h b11 = 14 ∨ gk h b11 = 21) ∧ ¬ x6 < 0 ∧ (x6 : Int32).toNatClampNeg < gz h b11) <|
      ck_then ((gI h b11 (x6 : Int32).toNatClampNeg) - 1) fun x14 =>
      ck_some (gR h a0 44) fun b15 =>
      ck_as ((gk h b15 = 14 ∨ gk h b15 = 21) ∧ ¬ x6 < 0 ∧ (x6 : Int32).toNatClampNeg < gz h b15) <|
      ck_then (gI h b15 (x6 : Int32).toNatClampNeg) fun x18 =>
      f_RM_ownerOf_L52 F (f_RM_ownerOf_L3 F n) F a0 v1 v2 v3 v4 x6 x10 x14 x18 h
    else
      some ((-1), h)
set_option maxRecDepth 100000 in
set_option maxHeartbeats 4000000 in
theorem f_RM_ownerOf_L3_s (F : Nat)   : ∀ (n : Nat) (a0 : Nat) (v1 : Int32) (v2 : Int32) (v3 : Int32) (v4 : Int32) (h : ck_H) (r : Int32) (h' : ck_H), f_RM_ownerOf_L3 F n a0 v1 v2 v3 v4 h = some (r, h') → Go k_RM_ownerOf 3 [some (.ref a0), some (.int v1), some (.int v2), some (.int v3), some (.int v4), none, none, none, none] [] h (some (.int r), h') := by
  intro n
  induction n with
  | zero => intro a0 v1 v2 v3 v4 h r h' e; simp only [f_RM_ownerOf_L3] at e; cases e
  | succ n ih =>
    intro a0 v1 v2 v3 v4 h r h' e
    rw [f_RM_ownerOf_L3] at e
    refine go_iload rfl rfl ?_
    refine go_aload_n rfl rfl ?_
    replace e := ck_as_e e
    obtain ⟨hk_1, e⟩ := e
    replace e := ck_some_e e
    obtain ⟨b2, hq_3, e⟩ := e
    refine go_get (v := .ref b2) rfl rfl hk_1 (by decide) (by show va_rf (gR h a0 45) = _; rw [hq_3]; rfl) ?_
    refine go_iload_n rfl rfl ?_
    replace e := ck_as_e e
    obtain ⟨hc_4, e⟩ := e
    refine go_iald rfl hc_4 ?_
    refine go_icmp_ge (t := 113) rfl rfl (fun hx_5 => ?_) (fun hx_5 => ?_)
    · rw [if_pos hx_5] at e
      refine go_bipush (v := 40) rfl (by decide) ?_
      refine go_iload_n rfl rfl ?_
      refine go_imul rfl ?_
      refine go_iload rfl rfl ?_
      refine go_iadd rfl ?_
      generalize (40 * v1) + v4 = x6 at e ⊢
      replace e := ck_then_e e
      refine go_istore rfl rfl ?_
      show Go k_RM_ownerOf 23 [some (.ref a0), some (.int v1), some (.int v2), some (.int v3), some (.int v4), some (.int x6), none, none, none] [] h _
      refine go_aload_n rfl rfl ?_
      replace e := ck_some_e e
      obtain ⟨b7, hq_8, e⟩ := e
      refine go_get (v := .ref b7) rfl rfl hk_1 (by decide) (by show va_rf (gR h a0 42) = _; rw [hq_8]; rfl) ?_
      refine go_iload rfl rfl ?_
      replace e := ck_as_e e
      obtain ⟨hc_9, e⟩ := e
      refine go_iald rfl hc_9 ?_
      generalize gI h b7 (x6 : Int32).toNatClampNeg = x10 at e ⊢
      replace e := ck_then_e e
      refine go_istore rfl rfl ?_
      show Go k_RM_ownerOf 32 [some (.ref a0), some (.int v1), some (.int v2), some (.int v3), some (.int v4), some (.int x6), some (.int x10), none, none] [] h _
      refine go_aload_n rfl rfl ?_
      replace e := ck_some_e e
      obtain ⟨b11, hq_12, e⟩ := e
      refine go_get (v := .ref b11) rfl rfl hk_1 (by decide) (by show va_rf (gR h a0 43) = _; rw [hq_12]; rfl) ?_
      refine go_iload rfl rfl ?_
      replace e := ck_as_e e
      obtain ⟨hc_13, e⟩ := e
      refine go_iald rfl hc_13 ?_
      refine go_iconst (v := 1) rfl (by decide) ?_
      refine go_isub rfl ?_
      generalize (gI h b11 (x6 : Int32).toNatClampNeg) - 1 = x14 at e ⊢
      replace e := ck_then_e e
      refine go_istore rfl rfl ?_
      show Go k_RM_ownerOf 43 [some (.ref a0), some (.int v1), some (.int v2), some (.int v3), some (.int v4), some (.int x6), some (.int x10), some (.int x14), none] [] h _
      refine go_aload_n rfl rfl ?_
      replace e := ck_some_e e
      obtain ⟨b15, hq_16, e⟩ := e
      refine go_get (v := .ref b15) rfl rfl hk_1 (by decide) (by show va_rf (gR h a0 44) = _; rw [hq_16]; rfl) ?_
      refine go_iload rfl rfl ?_
      replace e := ck_as_e e
      obtain ⟨hc_17, e⟩ := e
      refine go_iald rfl hc_17 ?_
      generalize gI h b15 (x6 : Int32).toNatClampNeg = x18 at e ⊢
      replace e := ck_then_e e
      refine go_istore rfl rfl ?_
      show Go k_RM_ownerOf 52 [some (.ref a0), some (.int v1), some (.int v2), some (.int v3), some (.int v4), some (.int x6), some (.int x10), some (.int x14), some (.int x18)] [] h _
      refine go_forget (l := [some (.ref a0), some (.int v1), some (.int v2), some (.int v3), some (.int v4), some (.int x6), some (.int x10), some (.int x14), some (.int x18)]) ⟨Or.inl rfl, Or.inl rfl, Or.inl rfl, Or.inl rfl, Or.inl rfl, Or.inl rfl, Or.inl rfl, Or.inl rfl, Or.inl rfl, trivial⟩ ?_
      exact f_RM_ownerOf_L52_s F (f_RM_ownerOf_L3 F n) ih F _ _ _ _ _ _ _ _ _ _ _ _ e
    · rw [if_neg hx_5] at e
      refine go_iconst (v := (-1)) rfl (by decide) ?_
      cases e
      exact go_ret rfl rfl
def f_RM_ownerOf (F : Nat) (a0 : Nat) (v1 : Int32) (v2 : Int32) (v3 : Int32) (h : ck_H) : Option (Int32 × ck_H) :=
  f_RM_ownerOf_L3 F F a0 v1 v2 v3 0 h
set_option maxRecDepth 100000 in
set_option maxHeartbeats 4000000 in
theorem s_RM_ownerOf {F : Nat} {a0 : Nat} {v1 : Int32} {v2 : Int32} {v3 : Int32} {h h' : ck_H} {r : Int32} (e : f_RM_ownerOf F a0 v1 v2 v3 h = some (r, h')) : Go k_RM_ownerOf 0 (ck_in [.ref a0, .int v1, .int v2, .int v3] 9) [] h (some (.int r), h') := by
  unfold f_RM_ownerOf at e
  show Go k_RM_ownerOf 0 [some (.ref a0), some (.int v1), some (.int v2), some (.int v3), none, none, none, none, none] [] h _
  refine go_iconst (v := 0) rfl (by decide) ?_
  refine go_istore rfl rfl ?_
  show Go k_RM_ownerOf 3 [some (.ref a0), some (.int v1), some (.int v2), some (.int v3), some (.int 0), none, none, none, none] [] h _
  refine go_forget (l := [some (.ref a0), some (.int v1), some (.int v2), some (.int v3), some (.int 0), none, none, none, none]) ⟨Or.inl rfl, Or.inl rfl, Or.inl rfl, Or.inl rfl, Or.inl rfl, Or.inl rfl, Or.inl rfl, Or.inl rfl, Or.inl rfl, trivial⟩ ?_
  exact f_RM_ownerOf_L3_s F F _ _ _ _ _ _ _ _ e
def f_RM_press_L100 (F : Nat) (k32 : Nat → Int32 → Int32 → Int32 → ck_H → Option (Int32 × ck_H)) (k52 : Nat → Int32 → Int32 → Int32 → Int32 → Int32 → ck_H → Option (Int32 × ck_H)) : Nat → Nat → Int32 → Int32 → Int32 → Int32 → Int32 → Int32 → Int32 → Int32 → ck_H → Option (Int32 × ck_H)
  | 0, _, _, _, _, _, _, _, _, _, _ => none
  | n + 1, a0, v1, v2, v3, v4, v5, v6, v7, v8, h =>
    if v8 < v7 then
      ck_as (gk h a0 = 12) <|
      ck_some (gR h a0 75) fun b3 =>
      ck_some (gR h a0 76) fun b5 =>
      ck_as ((gk h b5 = 14 ∨ gk h b5 = 21) ∧ ¬ v2 < 0 ∧ (v2 : Int32).toNatClampNeg < gz h b5) <|
      ck_some (gR h a0 0) fun b8 =>
      ck_bd (f_RM_dataAt F a0 v4 v5 h) fun r10 h11 =>
      ck_as ((gk h11 b8 = 13 ∨ gk h11 b8 = 15) ∧ ¬ (r10 + v8) < 0 ∧ (r10 + v8 : Int32).toNatClampNeg < gz h11 b8) <|
      ck_as (gk h11 b3 = 13 ∧ ¬ ((gI h b5 (v2 : Int32).toNatClampNeg) + v8) < 0 ∧ ((gI h b5 (v2 : Int32).toNatClampNeg) + v8 : Int32).toNatClampNeg < gz h11 b3) <|
      ck_then (wI h11 b3 ((gI h b5 (v2 : Int32).toNatClampNeg) + v8 : Int32).toNatClampNeg (gI h11 b8 (r10 + v8 : Int32).toNatClampNeg : Int32).toInt8.toInt32) fun h15 =>
      f_RM_press_L100 F k32 k52 n a0 v1 v2 v3 v4 v5 v6 v7 (v8 + 1) h15
    else
      ck_as (gk h a0 = 12) <|
      ck_some (gR h a0 78) fun b17 =>
      ck_some (gR h a0 8) fun b19 =>
      ck_bd (f_RM_at F v4 v5 h) fun r21 h22 =>
      ck_as ((gk h22 b19 = 13 ∨ gk h22 b19 = 15) ∧ ¬ r21 < 0 ∧ (r21 : Int32).toNatClampNeg < gz h22 b19) <|
      ck_as (gk h22 b17 = 15 ∧ ((gI h22 b19 (r21 : Int32).toNatClampNeg) = 0 ∨ (gI h22 b19 (r21 : Int32).toNatClampNeg) = 1) ∧ ¬ v2 < 0 ∧ (v2 : Int32).toNatClampNeg < gz h22 b17) <|
      ck_then (wI h22 b17 (v2 : Int32).toNatClampNeg (gI h22 b19 (r21 : Int32).toNatClampNeg)) fun h26 =>
      ck_as (gk h26 a0 = 12) <|
      ck_some (gR h26 a0 77) fun b28 =>
      ck_as (gk h26 b28 = 14 ∧ ¬ v2 < 0 ∧ (v2 : Int32).toNatClampNeg < gz h26 b28) <|
      ck_then (wI h26 b28 (v2 : Int32).toNatClampNeg v6) fun h31 =>
      ck_some (gR h31 a0 76) fun b33 =>
      ck_some (gR h31 a0 76) fun b35 =>
      ck_as ((gk h31 b35 = 14 ∨ gk h31 b35 = 21) ∧ ¬ ((v2 + 1) - 1) < 0 ∧ ((v2 + 1) - 1 : Int32).toNatClampNeg < gz h31 b35) <|
      ck_as (gk h31 b33 = 14 ∧ ¬ (v2 + 1) < 0 ∧ (v2 + 1 : Int32).toNatClampNeg < gz h31 b33) <|
      ck_then (wI h31 b33 (v2 + 1 : Int32).toNatClampNeg ((gI h31 b35 ((v2 + 1) - 1 : Int32).toNatClampNeg) + v7)) fun h39 =>
      k52 a0 v1 (v2 + 1) v3 v4 (v5 + 1) h39
set_option maxRecDepth 100000 in
set_option maxHeartbeats 4000000 in
theorem f_RM_press_L100_s (F : Nat) (k32 : Nat → Int32 → Int32 → Int32 → ck_H → Option (Int32 × ck_H)) (k52 : Nat → Int32 → Int32 → Int32 → Int32 → Int32 → ck_H → Option (Int32 × ck_H)) (hk32 : ∀ (a0 : Nat) (v1 : Int32) (v2 : Int32) (v3 : Int32) (h : ck_H) (r : Int32) (h' : ck_H), k32 a0 v1 v2 v3 h = some (r, h') → Go k_RM_press 32 [some (.ref a0), some (.int v1), some (.int v2), some (.int v3), none, none, none, none, none] [] h (some (.int r), h')) (hk52 : ∀ (a0 : Nat) (v1 : Int32) (v2 : Int32) (v3 : Int32) (v4 : Int32) (v5 : Int32) (h : ck_H) (r : Int32) (h' : ck_H), k52 a0 v1 v2 v3 v4 v5 h = some (r, h') → Go k_RM_press 52 [some (.ref a0), some (.int v1), some (.int v2), some (.int v3), some (.int v4), some (.int v5), none, none, none] [] h (some (.int r), h')) : ∀ (n : Nat) (a0 : Nat) (v1 : Int32) (v2 : Int32) (v3 : Int32) (v4 : Int32) (v5 : Int32) (v6 : Int32) (v7 : Int32) (v8 : Int32) (h : ck_H) (r : Int32) (h' : ck_H), f_RM_press_L100 F k32 k52 n a0 v1 v2 v3 v4 v5 v6 v7 v8 h = some (r, h') → Go k_RM_press 100 [some (.ref a0), some (.int v1), some (.int v2), some (.int v3), some (.int v4), some (.int v5), some (.int v6), some (.int v7), some (.int v8)] [] h (some (.int r), h') := by
  intro n
  induction n with
  | zero => intro a0 v1 v2 v3 v4 v5 v6 v7 v8 h r h' e; simp only [f_RM_press_L100] at e; cases e
  | succ n ih =>
    intro a0 v1 v2 v3 v4 v5 v6 v7 v8 h r h' e
    rw [f_RM_press_L100] at e
    refine go_iload rfl rfl ?_
    refine go_iload rfl rfl ?_
    refine go_icmp_ge (t := 143) rfl rfl (fun hx_1 => ?_) (fun hx_1 => ?_)
    · rw [if_pos hx_1] at e
      refine go_aload_n rfl rfl ?_
      replace e := ck_as_e e
      obtain ⟨hk_2, e⟩ := e
      replace e := ck_some_e e
      obtain ⟨b3, hq_4, e⟩ := e
      refine go_get (v := .ref b3) rfl rfl hk_2 (by decide) (by show va_rf (gR h a0 75) = _; rw [hq_4]; rfl) ?_
      refine go_aload_n rfl rfl ?_
      replace e := ck_some_e e
      obtain ⟨b5, hq_6, e⟩ := e
      refine go_get (v := .ref b5) rfl rfl hk_2 (by decide) (by show va_rf (gR h a0 76) = _; rw [hq_6]; rfl) ?_
      refine go_iload_n rfl rfl ?_
      replace e := ck_as_e e
      obtain ⟨hc_7, e⟩ := e
      refine go_iald rfl hc_7 ?_
      refine go_iload rfl rfl ?_
      refine go_iadd rfl ?_
      refine go_aload_n rfl rfl ?_
      replace e := ck_some_e e
      obtain ⟨b8, hq_9, e⟩ := e
      refine go_get (v := .ref b8) rfl rfl hk_2 (by decide) (by show va_rf (gR h a0 0) = _; rw [hq_9]; rfl) ?_
      refine go_aload_n rfl rfl ?_
      refine go_iload rfl rfl ?_
      refine go_iload rfl rfl ?_
      replace e := ck_bd_e e
      obtain ⟨r10, h11, e12, e⟩ := e
      refine go_callV (As := [.int v4, .int v5]) (b0 := a0) (rest := [.ref b8, .int ((gI h b5 (v2 : Int32).toNatClampNeg) + v8), .ref b3]) rfl rfl ⟨hk_2, by decide⟩ rfl ⟨Nat.le_of_ble_eq_true rfl, Nat.le_of_ble_eq_true rfl, Nat.le_of_ble_eq_true rfl, Nat.le_of_ble_eq_true rfl⟩ (s_RM_dataAt e12) ?_
      show Go k_RM_press 132 [some (.ref a0), some (.int v1), some (.int v2), some (.int v3), some (.int v4), some (.int v5), some (.int v6), some (.int v7), some (.int v8)] [.int r10, .ref b8, .int ((gI h b5 (v2 : Int32).toNatClampNeg) + v8), .ref b3] h11 _
      refine go_iload rfl rfl ?_
      refine go_iadd rfl ?_
      replace e := ck_as_e e
      obtain ⟨hc_13, e⟩ := e
      refine go_bald rfl hc_13 ?_
      replace e := ck_as_e e
      obtain ⟨hc_14, e⟩ := e
      refine go_bast rfl hc_14 ?_
      generalize wI h11 b3 ((gI h b5 (v2 : Int32).toNatClampNeg) + v8 : Int32).toNatClampNeg (gI h11 b8 (r10 + v8 : Int32).toNatClampNeg : Int32).toInt8.toInt32 = h15 at e  ⊢
      replace e := ck_then_e e
      refine go_iinc (v := 1) rfl rfl (by decide) rfl ?_
      show Go k_RM_press 140 [some (.ref a0), some (.int v1), some (.int v2), some (.int v3), some (.int v4), some (.int v5), some (.int v6), some (.int v7), some (.int (v8 + 1))] [] h15 _
      refine go_goto (t := 100) rfl rfl ?_
      refine go_forget (l := [some (.ref a0), some (.int v1), some (.int v2), some (.int v3), some (.int v4), some (.int v5), some (.int v6), some (.int v7), some (.int (v8 + 1))]) ⟨Or.inl rfl, Or.inl rfl, Or.inl rfl, Or.inl rfl, Or.inl rfl, Or.inl rfl, Or.inl rfl, Or.inl rfl, Or.inl rfl, trivial⟩ ?_
      exact ih _ _ _ _ _ _ _ _ _ _ _ _ e
    · rw [if_neg hx_1] at e
      refine go_aload_n rfl rfl ?_
      replace e := ck_as_e e
      obtain ⟨hk_16, e⟩ := e
      replace e := ck_some_e e
      obtain ⟨b17, hq_18, e⟩ := e
      refine go_get (v := .ref b17) rfl rfl hk_16 (by decide) (by show va_rf (gR h a0 78) = _; rw [hq_18]; rfl) ?_
      refine go_iload_n rfl rfl ?_
      refine go_aload_n rfl rfl ?_
      replace e := ck_some_e e
      obtain ⟨b19, hq_20, e⟩ := e
      refine go_get (v := .ref b19) rfl rfl hk_16 (by decide) (by show va_rf (gR h a0 8) = _; rw [hq_20]; rfl) ?_
      refine go_iload rfl rfl ?_
      refine go_iload rfl rfl ?_
      replace e := ck_bd_e e
      obtain ⟨r21, h22, e23, e⟩ := e
      refine go_callS (As := [.int v4, .int v5]) (rest := [.ref b19, .int v2, .ref b17]) rfl rfl rfl ⟨Nat.le_of_ble_eq_true rfl, Nat.le_of_ble_eq_true rfl, Nat.le_of_ble_eq_true rfl, Nat.le_of_ble_eq_true rfl⟩ (s_RM_at e23) ?_
      show Go k_RM_press 159 [some (.ref a0), some (.int v1), some (.int v2), some (.int v3), some (.int v4), some (.int v5), some (.int v6), some (.int v7), some (.int v8)] [.int r21, .ref b19, .int v2, .ref b17] h22 _
      replace e := ck_as_e e
      obtain ⟨hc_24, e⟩ := e
      refine go_bald rfl hc_24 ?_
      replace e := ck_as_e e
      obtain ⟨hc_25, e⟩ := e
      refine go_zast rfl hc_25 ?_
      generalize wI h22 b17 (v2 : Int32).toNatClampNeg (gI h22 b19 (r21 : Int32).toNatClampNeg) = h26 at e  ⊢
      replace e := ck_then_e e
      refine go_aload_n rfl rfl ?_
      replace e := ck_as_e e
      obtain ⟨hk_27, e⟩ := e
      replace e := ck_some_e e
      obtain ⟨b28, hq_29, e⟩ := e
      refine go_get (v := .ref b28) rfl rfl hk_27 (by decide) (by show va_rf (gR h26 a0 77) = _; rw [hq_29]; rfl) ?_
      refine go_iload_n rfl rfl ?_
      refine go_iload rfl rfl ?_
      replace e := ck_as_e e
      obtain ⟨hc_30, e⟩ := e
      refine go_iast rfl hc_30 ?_
      have hk_32 : gk (wI h26 b28 (v2 : Int32).toNatClampNeg v6) a0 = 12 := ck_kI.trans hk_27
      generalize wI h26 b28 (v2 : Int32).toNatClampNeg v6 = h31 at e hk_32 ⊢
      replace e := ck_then_e e
      refine go_iinc (v := 1) rfl rfl (by decide) rfl ?_
      show Go k_RM_press 172 [some (.ref a0), some (.int v1), some (.int (v2 + 1)), some (.int v3), some (.int v4), some (.int v5), some (.int v6), some (.int v7), some (.int v8)] [] h31 _
      refine go_aload_n rfl rfl ?_
      replace e := ck_some_e e
      obtain ⟨b33, hq_34, e⟩ := e
      refine go_get (v := .ref b33) rfl rfl hk_32 (by decide) (by show va_rf (gR h31 a0 76) = _; rw [hq_34]; rfl) ?_
      refine go_iload_n rfl rfl ?_
      refine go_aload_n rfl rfl ?_
      replace e := ck_some_e e
      obtain ⟨b35, hq_36, e⟩ := e
      refine go_get (v := .ref b35) rfl rfl hk_32 (by decide) (by show va_rf (gR h31 a0 76) = _; rw [hq_36]; rfl) ?_
      refine go_iload_n rfl rfl ?_
      refine go_iconst (v := 1) rfl (by decide) ?_
      refine go_isub rfl ?_
      replace e := ck_as_e e
      obtain ⟨hc_37, e⟩ := e
      refine go_iald rfl hc_37 ?_
      refine go_iload rfl rfl ?_
      refine go_iadd rfl ?_
      replace e := ck_as_e e
      obtain ⟨hc_38, e⟩ := e
      refine go_iast rfl hc_38 ?_
      have hk_40 : gk (wI h31 b33 (v2 + 1 : Int32).toNatClampNeg ((gI h31 b35 ((v2 + 1) - 1 : Int32).toNatClampNeg) + v7)) a0 = 12 := ck_kI.trans hk_32
      generalize wI h31 b33 (v2 + 1 : Int32).toNatClampNeg ((gI h31 b35 ((v2 + 1) - 1 : Int32).toNatClampNeg) + v7) = h39 at e hk_40 ⊢
      replace e := ck_then_e e
      refine go_iinc (v := 1) rfl rfl (by decide) rfl ?_
      show Go k_RM_press 192 [some (.ref a0), some (.int v1), some (.int (v2 + 1)), some (.int v3), some (.int v4), some (.int (v5 + 1)), some (.int v6), some (.int v7), some (.int v8)] [] h39 _
      refine go_goto (t := 52) rfl rfl ?_
      refine go_forget (l := [some (.ref a0), some (.int v1), some (.int (v2 + 1)), some (.int v3), some (.int v4), some (.int (v5 + 1)), none, none, none]) ⟨Or.inl rfl, Or.inl rfl, Or.inl rfl, Or.inl rfl, Or.inl rfl, Or.inl rfl, Or.inr ⟨rfl, fun _ q => by cases q; rfl⟩, Or.inr ⟨rfl, fun _ q => by cases q; rfl⟩, Or.inr ⟨rfl, fun _ q => by cases q; rfl⟩, trivial⟩ ?_
      exact hk52 _ _ _ _ _ _ _ _ _ e
def f_RM_press_L52 (F : Nat) (k32 : Nat → Int32 → Int32 → Int32 → ck_H → Option (Int32 × ck_H)) : Nat → Nat → Int32 → Int32 → Int32 → Int32 → Int32 → ck_H → Option (Int32 × ck_H)
  | 0, _, _, _, _, _, _, _ => none
  | n + 1, a0, v1, v2, v3, v4, v5, h =>
    ck_as (gk h a0 = 12) <|
    ck_some (gR h a0 1) fun b2 =>
    ck_as ((gk h b2 = 14 ∨ gk h b2 = 21) ∧ ¬ v4 < 0 ∧ (v4 : Int32).toNatClampNeg < gz h b2) <|
    if v5 < (gI h b2 (v4 : Int32).toNatClampNeg) then
      ck_bd (f_RM_ownerOf F a0 v1 v3 v5 h) fun r6 h7 =>
      if r6 = ((-1) : Int32) then
        f_RM_press_L52 F k32 n a0 v1 v2 v3 v4 (v5 + 1) h7
      else
        ck_as (gk h7 a0 = 12) <|
        ck_some (gR h7 a0 7) fun b11 =>
        ck_bd (f_RM_at F v4 v5 h7) fun r13 h14 =>
        ck_as ((gk h14 b11 = 14 ∨ gk h14 b11 = 21) ∧ ¬ r13 < 0 ∧ (r13 : Int32).toNatClampNeg < gz h14 b11) <|
        ck_then (gI h14 b11 (r13 : Int32).toNatClampNeg) fun x17 =>
        f_RM_press_L100 F k32 (f_RM_press_L52 F k32 n) F a0 v1 v2 v3 v4 v5 r6 x17 0 h14
    else
      k32 a0 v1 v2 (v3 + 1) h
set_option maxRecDepth 100000 in
set_option maxHeartbeats 4000000 in
theorem f_RM_press_L52_s (F : Nat) (k32 : Nat → Int32 → Int32 → Int32 → ck_H → Option (Int32 × ck_H)) (hk32 : ∀ (a0 : Nat) (v1 : Int32) (v2 : Int32) (v3 : Int32) (h : ck_H) (r : Int32) (h' : ck_H), k32 a0 v1 v2 v3 h = some (r, h') → Go k_RM_press 32 [some (.ref a0), some (.int v1), some (.int v2), some (.int v3), none, none, none, none, none] [] h (some (.int r), h')) : ∀ (n : Nat) (a0 : Nat) (v1 : Int32) (v2 : Int32) (v3 : Int32) (v4 : Int32) (v5 : Int32) (h : ck_H) (r : Int32) (h' : ck_H), f_RM_press_L52 F k32 n a0 v1 v2 v3 v4 v5 h = some (r, h') → Go k_RM_press 52 [some (.ref a0), some (.int v1), some (.int v2), some (.int v3), some (.int v4), some (.int v5), none, none, none] [] h (some (.int r), h') := by
  intro n
  induction n with
  | zero => intro a0 v1 v2 v3 v4 v5 h r h' e; simp only [f_RM_press_L52] at e; cases e
  | succ n ih =>
    intro a0 v1 v2 v3 v4 v5 h r h' e
    rw [f_RM_press_L52] at e
    refine go_iload rfl rfl ?_
    refine go_aload_n rfl rfl ?_
    replace e := ck_as_e e
    obtain ⟨hk_1, e⟩ := e
    replace e := ck_some_e e
    obtain ⟨b2, hq_3, e⟩ := e
    refine go_get (v := .ref b2) rfl rfl hk_1 (by decide) (by show va_rf (gR h a0 1) = _; rw [hq_3]; rfl) ?_
    refine go_iload rfl rfl ?_
    replace e := ck_as_e e
    obtain ⟨hc_4, e⟩ := e
    refine go_iald rfl hc_4 ?_
    refine go_icmp_ge (t := 195) rfl rfl (fun hx_5 => ?_) (fun hx_5 => ?_)
    · rw [if_pos hx_5] at e
      refine go_aload_n rfl rfl ?_
      refine go_iload_n rfl rfl ?_
      refine go_iload_n rfl rfl ?_
      refine go_iload rfl rfl ?_
      replace e := ck_bd_e e
      obtain ⟨r6, h7, e8, e⟩ := e
      refine go_callV (As := [.int v1, .int v3, .int v5]) (b0 := a0) (rest := []) rfl rfl ⟨hk_1, by decide⟩ rfl ⟨Nat.le_of_ble_eq_true rfl, Nat.le_of_ble_eq_true rfl, Nat.le_of_ble_eq_true rfl, Nat.le_of_ble_eq_true rfl⟩ (s_RM_ownerOf e8) ?_
      show Go k_RM_press 72 [some (.ref a0), some (.int v1), some (.int v2), some (.int v3), some (.int v4), some (.int v5), none, none, none] [.int r6] h7 _
      refine go_istore rfl rfl ?_
      show Go k_RM_press 74 [some (.ref a0), some (.int v1), some (.int v2), some (.int v3), some (.int v4), some (.int v5), some (.int r6), none, none] [] h7 _
      refine go_iload rfl rfl ?_
      refine go_iconst (v := (-1)) rfl (by decide) ?_
      refine go_icmp_ne (t := 83) rfl rfl (fun hx_9 => ?_) (fun hx_9 => ?_)
      · rw [if_pos hx_9] at e
        refine go_goto (t := 189) rfl rfl ?_
        refine go_iinc (v := 1) rfl rfl (by decide) rfl ?_
        show Go k_RM_press 192 [some (.ref a0), some (.int v1), some (.int v2), some (.int v3), some (.int v4), some (.int (v5 + 1)), some (.int r6), none, none] [] h7 _
        refine go_goto (t := 52) rfl rfl ?_
        refine go_forget (l := [some (.ref a0), some (.int v1), some (.int v2), some (.int v3), some (.int v4), some (.int (v5 + 1)), none, none, none]) ⟨Or.inl rfl, Or.inl rfl, Or.inl rfl, Or.inl rfl, Or.inl rfl, Or.inl rfl, Or.inr ⟨rfl, fun _ q => by cases q; rfl⟩, Or.inl rfl, Or.inl rfl, trivial⟩ ?_
        exact ih _ _ _ _ _ _ _ _ _ e
      · rw [if_neg hx_9] at e
        refine go_aload_n rfl rfl ?_
        replace e := ck_as_e e
        obtain ⟨hk_10, e⟩ := e
        replace e := ck_some_e e
        obtain ⟨b11, hq_12, e⟩ := e
        refine go_get (v := .ref b11) rfl rfl hk_10 (by decide) (by show va_rf (gR h7 a0 7) = _; rw [hq_12]; rfl) ?_
        refine go_iload rfl rfl ?_
        refine go_iload rfl rfl ?_
        replace e := ck_bd_e e
        obtain ⟨r13, h14, e15, e⟩ := e
        refine go_callS (As := [.int v4, .int v5]) (rest := [.ref b11]) rfl rfl rfl ⟨Nat.le_of_ble_eq_true rfl, Nat.le_of_ble_eq_true rfl, Nat.le_of_ble_eq_true rfl, Nat.le_of_ble_eq_true rfl⟩ (s_RM_at e15) ?_
        show Go k_RM_press 94 [some (.ref a0), some (.int v1), some (.int v2), some (.int v3), some (.int v4), some (.int v5), some (.int r6), none, none] [.int r13, .ref b11] h14 _
        replace e := ck_as_e e
        obtain ⟨hc_16, e⟩ := e
        refine go_iald rfl hc_16 ?_
        generalize gI h14 b11 (r13 : Int32).toNatClampNeg = x17 at e ⊢
        replace e := ck_then_e e
        refine go_istore rfl rfl ?_
        show Go k_RM_press 97 [some (.ref a0), some (.int v1), some (.int v2), some (.int v3), some (.int v4), some (.int v5), some (.int r6), some (.int x17), none] [] h14 _
        refine go_iconst (v := 0) rfl (by decide) ?_
        refine go_istore rfl rfl ?_
        show Go k_RM_press 100 [some (.ref a0), some (.int v1), some (.int v2), some (.int v3), some (.int v4), some (.int v5), some (.int r6), some (.int x17), some (.int 0)] [] h14 _
        refine go_forget (l := [some (.ref a0), some (.int v1), some (.int v2), some (.int v3), some (.int v4), some (.int v5), some (.int r6), some (.int x17), some (.int 0)]) ⟨Or.inl rfl, Or.inl rfl, Or.inl rfl, Or.inl rfl, Or.inl rfl, Or.inl rfl, Or.inl rfl, Or.inl rfl, Or.inl rfl, trivial⟩ ?_
        exact f_RM_press_L100_s F k32 (f_RM_press_L52 F k32 n) hk32 ih F _ _ _ _ _ _ _ _ _ _ _ _ e
    · rw [if_neg hx_5] at e
      refine go_iinc (v := 1) rfl rfl (by decide) rfl ?_
      show Go k_RM_press 198 [some (.ref a0), some (.int v1), some (.int v2), some (.int (v3 + 1)), some (.int v4), some (.int v5), none, none, none] [] h _
      refine go_goto (t := 32) rfl rfl ?_
      refine go_forget (l := [some (.ref a0), some (.int v1), some (.int v2), some (.int (v3 + 1)), none, none, none, none, none]) ⟨Or.inl rfl, Or.inl rfl, Or.inl rfl, Or.inl rfl, Or.inr ⟨rfl, fun _ q => by cases q; rfl⟩, Or.inr ⟨rfl, fun _ q => by cases q; rfl⟩, Or.inl rfl, Or.inl rfl, Or.inl rfl, trivial⟩ ?_
      exact hk32 _ _ _ _ _ _ _ e
def f_RM_press_J407 (F : Nat) (k235 : Nat → Int32 → Int32 → Int32 → Int32 → ck_H → Option (Int32 × ck_H)) (a0 : Nat) (v1 : Int32) (v2 : Int32) (v3 : Int32) (v4 : Int32) (v7 : Int32) (h : ck_H) : Option (Int32 × ck_H) :=
  ck_as (gk h a0 = 12) <|
  ck_some (gR h a0 42) fun b2 =>
  ck_some (gR h a0 77) fun b4 =>
  ck_as ((gk h b4 = 14 ∨ gk h b4 = 21) ∧ ¬ v4 < 0 ∧ (v4 : Int32).toNatClampNeg < gz h b4) <|
  ck_as (gk h b2 = 14 ∧ ¬ (gI h b4 (v4 : Int32).toNatClampNeg) < 0 ∧ (gI h b4 (v4 : Int32).toNatClampNeg : Int32).toNatClampNeg < gz h b2) <|
  ck_then (wI h b2 (gI h b4 (v4 : Int32).toNatClampNeg : Int32).toNatClampNeg v3) fun h8 =>
  ck_some (gR h8 a0 43) fun b10 =>
  ck_some (gR h8 a0 77) fun b12 =>
  ck_as ((gk h8 b12 = 14 ∨ gk h8 b12 = 21) ∧ ¬ v4 < 0 ∧ (v4 : Int32).toNatClampNeg < gz h8 b12) <|
  ck_as (gk h8 b10 = 14 ∧ ¬ (gI h8 b12 (v4 : Int32).toNatClampNeg) < 0 ∧ (gI h8 b12 (v4 : Int32).toNatClampNeg : Int32).toNatClampNeg < gz h8 b10) <|
  ck_then (wI h8 b10 (gI h8 b12 (v4 : Int32).toNatClampNeg : Int32).toNatClampNeg (v7 + 1)) fun h16 =>
  k235 a0 v1 v2 v3 (v4 + 1) h16
set_option maxRecDepth 100000 in
set_option maxHeartbeats 4000000 in
theorem f_RM_press_J407_s (F : Nat) (k235 : Nat → Int32 → Int32 → Int32 → Int32 → ck_H → Option (Int32 × ck_H)) (hk235 : ∀ (a0 : Nat) (v1 : Int32) (v2 : Int32) (v3 : Int32) (v4 : Int32) (h : ck_H) (r : Int32) (h' : ck_H), k235 a0 v1 v2 v3 v4 h = some (r, h') → Go k_RM_press 235 [some (.ref a0), some (.int v1), some (.int v2), some (.int v3), some (.int v4), none, none, none, none] [] h (some (.int r), h')) (a0 : Nat) (v1 : Int32) (v2 : Int32) (v3 : Int32) (v4 : Int32) (v7 : Int32) (h : ck_H) (r : Int32) (h' : ck_H) (e : f_RM_press_J407 F k235 a0 v1 v2 v3 v4 v7 h = some (r, h')) : Go k_RM_press 407 [some (.ref a0), some (.int v1), some (.int v2), some (.int v3), some (.int v4), none, none, some (.int v7), none] [] h (some (.int r), h') := by
  unfold f_RM_press_J407 at e
  refine go_aload_n rfl rfl ?_
  replace e := ck_as_e e
  obtain ⟨hk_1, e⟩ := e
  replace e := ck_some_e e
  obtain ⟨b2, hq_3, e⟩ := e
  refine go_get (v := .ref b2) rfl rfl hk_1 (by decide) (by show va_rf (gR h a0 42) = _; rw [hq_3]; rfl) ?_
  refine go_aload_n rfl rfl ?_
  replace e := ck_some_e e
  obtain ⟨b4, hq_5, e⟩ := e
  refine go_get (v := .ref b4) rfl rfl hk_1 (by decide) (by show va_rf (gR h a0 77) = _; rw [hq_5]; rfl) ?_
  refine go_iload rfl rfl ?_
  replace e := ck_as_e e
  obtain ⟨hc_6, e⟩ := e
  refine go_iald rfl hc_6 ?_
  refine go_iload_n rfl rfl ?_
  replace e := ck_as_e e
  obtain ⟨hc_7, e⟩ := e
  refine go_iast rfl hc_7 ?_
  have hk_9 : gk (wI h b2 (gI h b4 (v4 : Int32).toNatClampNeg : Int32).toNatClampNeg v3) a0 = 12 := ck_kI.trans hk_1
  generalize wI h b2 (gI h b4 (v4 : Int32).toNatClampNeg : Int32).toNatClampNeg v3 = h8 at e hk_9 ⊢
  replace e := ck_then_e e
  refine go_aload_n rfl rfl ?_
  replace e := ck_some_e e
  obtain ⟨b10, hq_11, e⟩ := e
  refine go_get (v := .ref b10) rfl rfl hk_9 (by decide) (by show va_rf (gR h8 a0 43) = _; rw [hq_11]; rfl) ?_
  refine go_aload_n rfl rfl ?_
  replace e := ck_some_e e
  obtain ⟨b12, hq_13, e⟩ := e
  refine go_get (v := .ref b12) rfl rfl hk_9 (by decide) (by show va_rf (gR h8 a0 77) = _; rw [hq_13]; rfl) ?_
  refine go_iload rfl rfl ?_
  replace e := ck_as_e e
  obtain ⟨hc_14, e⟩ := e
  refine go_iald rfl hc_14 ?_
  refine go_iload rfl rfl ?_
  refine go_iconst (v := 1) rfl (by decide) ?_
  refine go_iadd rfl ?_
  replace e := ck_as_e e
  obtain ⟨hc_15, e⟩ := e
  refine go_iast rfl hc_15 ?_
  have hk_17 : gk (wI h8 b10 (gI h8 b12 (v4 : Int32).toNatClampNeg : Int32).toNatClampNeg (v7 + 1)) a0 = 12 := ck_kI.trans hk_9
  generalize wI h8 b10 (gI h8 b12 (v4 : Int32).toNatClampNeg : Int32).toNatClampNeg (v7 + 1) = h16 at e hk_17 ⊢
  replace e := ck_then_e e
  refine go_iinc (v := 1) rfl rfl (by decide) rfl ?_
  show Go k_RM_press 439 [some (.ref a0), some (.int v1), some (.int v2), some (.int v3), some (.int (v4 + 1)), none, none, some (.int v7), none] [] h16 _
  refine go_goto (t := 235) rfl rfl ?_
  refine go_forget (l := [some (.ref a0), some (.int v1), some (.int v2), some (.int v3), some (.int (v4 + 1)), none, none, none, none]) ⟨Or.inl rfl, Or.inl rfl, Or.inl rfl, Or.inl rfl, Or.inl rfl, Or.inl rfl, Or.inl rfl, Or.inr ⟨rfl, fun _ q => by cases q; rfl⟩, Or.inl rfl, trivial⟩ ?_
  exact hk235 _ _ _ _ _ _ _ _ e
def f_RM_press_L320 (F : Nat) (k235 : Nat → Int32 → Int32 → Int32 → Int32 → ck_H → Option (Int32 × ck_H)) : Nat → Nat → Int32 → Int32 → Int32 → Int32 → Int32 → Int32 → Int32 → Int32 → ck_H → Option (Int32 × ck_H)
  | 0, _, _, _, _, _, _, _, _, _, _ => none
  | n + 1, a0, v1, v2, v3, v4, v5, v6, v7, v8, h =>
    if v8 < v5 then
      ck_as (gk h a0 = 12) <|
      ck_some (gR h a0 0) fun b3 =>
      ck_bd (f_RM_dataAt F a0 v6 v7 h) fun r5 h6 =>
      ck_as (gk h6 a0 = 12) <|
      ck_some (gR h6 a0 75) fun b9 =>
      ck_some (gR h6 a0 76) fun b11 =>
      ck_as ((gk h6 b11 = 14 ∨ gk h6 b11 = 21) ∧ ¬ v4 < 0 ∧ (v4 : Int32).toNatClampNeg < gz h6 b11) <|
      ck_as ((gk h6 b9 = 13 ∨ gk h6 b9 = 15) ∧ ¬ ((gI h6 b11 (v4 : Int32).toNatClampNeg) + v8) < 0 ∧ ((gI h6 b11 (v4 : Int32).toNatClampNeg) + v8 : Int32).toNatClampNeg < gz h6 b9) <|
      ck_as (gk h6 b3 = 13 ∧ ¬ (r5 + v8) < 0 ∧ (r5 + v8 : Int32).toNatClampNeg < gz h6 b3) <|
      ck_then (wI h6 b3 (r5 + v8 : Int32).toNatClampNeg (gI h6 b9 ((gI h6 b11 (v4 : Int32).toNatClampNeg) + v8 : Int32).toNatClampNeg : Int32).toInt8.toInt32) fun h16 =>
      f_RM_press_L320 F k235 n a0 v1 v2 v3 v4 v5 v6 v7 (v8 + 1) h16
    else
      ck_as (gk h a0 = 12) <|
      ck_some (gR h a0 8) fun b19 =>
      ck_bd (f_RM_at F v6 v7 h) fun r21 h22 =>
      ck_as (gk h22 a0 = 12) <|
      ck_some (gR h22 a0 78) fun b25 =>
      ck_as ((gk h22 b25 = 13 ∨ gk h22 b25 = 15) ∧ ¬ v4 < 0 ∧ (v4 : Int32).toNatClampNeg < gz h22 b25) <|
      ck_as (gk h22 b19 = 15 ∧ ((gI h22 b25 (v4 : Int32).toNatClampNeg) = 0 ∨ (gI h22 b25 (v4 : Int32).toNatClampNeg) = 1) ∧ ¬ r21 < 0 ∧ (r21 : Int32).toNatClampNeg < gz h22 b19) <|
      ck_then (wI h22 b19 (r21 : Int32).toNatClampNeg (gI h22 b25 (v4 : Int32).toNatClampNeg)) fun h29 =>
      if v4 = (0 : Int32) then
        f_RM_press_J407 F k235 a0 v1 v2 v3 v4 v7 h29
      else
        ck_some (gR h29 a0 77) fun b32 =>
        ck_as ((gk h29 b32 = 14 ∨ gk h29 b32 = 21) ∧ ¬ (v4 - 1) < 0 ∧ (v4 - 1 : Int32).toNatClampNeg < gz h29 b32) <|
        ck_some (gR h29 a0 77) fun b35 =>
        ck_as ((gk h29 b35 = 14 ∨ gk h29 b35 = 21) ∧ ¬ v4 < 0 ∧ (v4 : Int32).toNatClampNeg < gz h29 b35) <|
        if (gI h29 b32 (v4 - 1 : Int32).toNatClampNeg) = (gI h29 b35 (v4 : Int32).toNatClampNeg) then
          k235 a0 v1 v2 v3 (v4 + 1) h29
        else
          f_RM_press_J407 F k235 a0 v1 v2 v3 v4 v7 h29
set_option maxRecDepth 100000 in
set_option maxHeartbeats 4000000 in
theorem f_RM_press_L320_s (F : Nat) (k235 : Nat → Int32 → Int32 → Int32 → Int32 → ck_H → Option (Int32 × ck_H)) (hk235 : ∀ (a0 : Nat) (v1 : Int32) (v2 : Int32) (v3 : Int32) (v4 : Int32) (h : ck_H) (r : Int32) (h' : ck_H), k235 a0 v1 v2 v3 v4 h = some (r, h') → Go k_RM_press 235 [some (.ref a0), some (.int v1), some (.int v2), some (.int v3), some (.int v4), none, none, none, none] [] h (some (.int r), h')) : ∀ (n : Nat) (a0 : Nat) (v1 : Int32) (v2 : Int32) (v3 : Int32) (v4 : Int32) (v5 : Int32) (v6 : Int32) (v7 : Int32) (v8 : Int32) (h : ck_H) (r : Int32) (h' : ck_H), f_RM_press_L320 F k235 n a0 v1 v2 v3 v4 v5 v6 v7 v8 h = some (r, h') → Go k_RM_press 320 [some (.ref a0), some (.int v1), some (.int v2), some (.int v3), some (.int v4), some (.int v5), some (.int v6), some (.int v7), some (.int v8)] [] h (some (.int r), h') := by
  intro n
  induction n with
  | zero => intro a0 v1 v2 v3 v4 v5 v6 v7 v8 h r h' e; simp only [f_RM_press_L320] at e; cases e
  | succ n ih =>
    intro a0 v1 v2 v3 v4 v5 v6 v7 v8 h r h' e
    rw [f_RM_press_L320] at e
    refine go_iload rfl rfl ?_
    refine go_iload rfl rfl ?_
    refine go_icmp_ge (t := 364) rfl rfl (fun hx_1 => ?_) (fun hx_1 => ?_)
    · rw [if_pos hx_1] at e
      refine go_aload_n rfl rfl ?_
      replace e := ck_as_e e
      obtain ⟨hk_2, e⟩ := e
      replace e := ck_some_e e
      obtain ⟨b3, hq_4, e⟩ := e
      refine go_get (v := .ref b3) rfl rfl hk_2 (by decide) (by show va_rf (gR h a0 0) = _; rw [hq_4]; rfl) ?_
      refine go_aload_n rfl rfl ?_
      refine go_iload rfl rfl ?_
      refine go_iload rfl rfl ?_
      replace e := ck_bd_e e
      obtain ⟨r5, h6, e7, e⟩ := e
      refine go_callV (As := [.int v6, .int v7]) (b0 := a0) (rest := [.ref b3]) rfl rfl ⟨hk_2, by decide⟩ rfl ⟨Nat.le_of_ble_eq_true rfl, Nat.le_of_ble_eq_true rfl, Nat.le_of_ble_eq_true rfl, Nat.le_of_ble_eq_true rfl⟩ (s_RM_dataAt e7) ?_
      show Go k_RM_press 339 [some (.ref a0), some (.int v1), some (.int v2), some (.int v3), some (.int v4), some (.int v5), some (.int v6), some (.int v7), some (.int v8)] [.int r5, .ref b3] h6 _
      refine go_iload rfl rfl ?_
      refine go_iadd rfl ?_
      refine go_aload_n rfl rfl ?_
      replace e := ck_as_e e
      obtain ⟨hk_8, e⟩ := e
      replace e := ck_some_e e
      obtain ⟨b9, hq_10, e⟩ := e
      refine go_get (v := .ref b9) rfl rfl hk_8 (by decide) (by show va_rf (gR h6 a0 75) = _; rw [hq_10]; rfl) ?_
      refine go_aload_n rfl rfl ?_
      replace e := ck_some_e e
      obtain ⟨b11, hq_12, e⟩ := e
      refine go_get (v := .ref b11) rfl rfl hk_8 (by decide) (by show va_rf (gR h6 a0 76) = _; rw [hq_12]; rfl) ?_
      refine go_iload rfl rfl ?_
      replace e := ck_as_e e
      obtain ⟨hc_13, e⟩ := e
      refine go_iald rfl hc_13 ?_
      refine go_iload rfl rfl ?_
      refine go_iadd rfl ?_
      replace e := ck_as_e e
      obtain ⟨hc_14, e⟩ := e
      refine go_bald rfl hc_14 ?_
      replace e := ck_as_e e
      obtain ⟨hc_15, e⟩ := e
      refine go_bast rfl hc_15 ?_
      have hk_17 : gk (wI h6 b3 (r5 + v8 : Int32).toNatClampNeg (gI h6 b9 ((gI h6 b11 (v4 : Int32).toNatClampNeg) + v8 : Int32).toNatClampNeg : Int32).toInt8.toInt32) a0 = 12 := ck_kI.trans hk_8
      generalize wI h6 b3 (r5 + v8 : Int32).toNatClampNeg (gI h6 b9 ((gI h6 b11 (v4 : Int32).toNatClampNeg) + v8 : Int32).toNatClampNeg : Int32).toInt8.toInt32 = h16 at e hk_17 ⊢
      replace e := ck_then_e e
      refine go_iinc (v := 1) rfl rfl (by decide) rfl ?_
      show Go k_RM_press 361 [some (.ref a0), some (.int v1), some (.int v2), some (.int v3), some (.int v4), some (.int v5), some (.int v6), some (.int v7), some (.int (v8 + 1))] [] h16 _
      refine go_goto (t := 320) rfl rfl ?_
      refine go_forget (l := [some (.ref a0), some (.int v1), some (.int v2), some (.int v3), some (.int v4), some (.int v5), some (.int v6), some (.int v7), some (.int (v8 + 1))]) ⟨Or.inl rfl, Or.inl rfl, Or.inl rfl, Or.inl rfl, Or.inl rfl, Or.inl rfl, Or.inl rfl, Or.inl rfl, Or.inl rfl, trivial⟩ ?_
      exact ih _ _ _ _ _ _ _ _ _ _ _ _ e
    · rw [if_neg hx_1] at e
      refine go_aload_n rfl rfl ?_
      replace e := ck_as_e e
      obtain ⟨hk_18, e⟩ := e
      replace e := ck_some_e e
      obtain ⟨b19, hq_20, e⟩ := e
      refine go_get (v := .ref b19) rfl rfl hk_18 (by decide) (by show va_rf (gR h a0 8) = _; rw [hq_20]; rfl) ?_
      refine go_iload rfl rfl ?_
      refine go_iload rfl rfl ?_
      replace e := ck_bd_e e
      obtain ⟨r21, h22, e23, e⟩ := e
      refine go_callS (As := [.int v6, .int v7]) (rest := [.ref b19]) rfl rfl rfl ⟨Nat.le_of_ble_eq_true rfl, Nat.le_of_ble_eq_true rfl, Nat.le_of_ble_eq_true rfl, Nat.le_of_ble_eq_true rfl⟩ (s_RM_at e23) ?_
      show Go k_RM_press 375 [some (.ref a0), some (.int v1), some (.int v2), some (.int v3), some (.int v4), some (.int v5), some (.int v6), some (.int v7), some (.int v8)] [.int r21, .ref b19] h22 _
      refine go_aload_n rfl rfl ?_
      replace e := ck_as_e e
      obtain ⟨hk_24, e⟩ := e
      replace e := ck_some_e e
      obtain ⟨b25, hq_26, e⟩ := e
      refine go_get (v := .ref b25) rfl rfl hk_24 (by decide) (by show va_rf (gR h22 a0 78) = _; rw [hq_26]; rfl) ?_
      refine go_iload rfl rfl ?_
      replace e := ck_as_e e
      obtain ⟨hc_27, e⟩ := e
      refine go_bald rfl hc_27 ?_
      replace e := ck_as_e e
      obtain ⟨hc_28, e⟩ := e
      refine go_zast rfl hc_28 ?_
      have hk_30 : gk (wI h22 b19 (r21 : Int32).toNatClampNeg (gI h22 b25 (v4 : Int32).toNatClampNeg)) a0 = 12 := ck_kI.trans hk_24
      generalize wI h22 b19 (r21 : Int32).toNatClampNeg (gI h22 b25 (v4 : Int32).toNatClampNeg) = h29 at e hk_30 ⊢
      replace e := ck_then_e e
      refine go_iload rfl rfl ?_
      refine go_if_eq (t := 407) rfl rfl (fun hx_31 => ?_) (fun hx_31 => ?_)
      · rw [if_pos hx_31] at e
        refine go_forget (l := [some (.ref a0), some (.int v1), some (.int v2), some (.int v3), some (.int v4), none, none, some (.int v7), none]) ⟨Or.inl rfl, Or.inl rfl, Or.inl rfl, Or.inl rfl, Or.inl rfl, Or.inr ⟨rfl, fun _ q => by cases q; rfl⟩, Or.inr ⟨rfl, fun _ q => by cases q; rfl⟩, Or.inl rfl, Or.inr ⟨rfl, fun _ q => by cases q; rfl⟩, trivial⟩ ?_
        exact f_RM_press_J407_s F k235 hk235 a0 v1 v2 v3 v4 v7 _ _ _ e
      · rw [if_neg hx_31] at e
        refine go_aload_n rfl rfl ?_
        replace e := ck_some_e e
        obtain ⟨b32, hq_33, e⟩ := e
        refine go_get (v := .ref b32) rfl rfl hk_30 (by decide) (by show va_rf (gR h29 a0 77) = _; rw [hq_33]; rfl) ?_
        refine go_iload rfl rfl ?_
        refine go_iconst (v := 1) rfl (by decide) ?_
        refine go_isub rfl ?_
        replace e := ck_as_e e
        obtain ⟨hc_34, e⟩ := e
        refine go_iald rfl hc_34 ?_
        refine go_aload_n rfl rfl ?_
        replace e := ck_some_e e
        obtain ⟨b35, hq_36, e⟩ := e
        refine go_get (v := .ref b35) rfl rfl hk_30 (by decide) (by show va_rf (gR h29 a0 77) = _; rw [hq_36]; rfl) ?_
        refine go_iload rfl rfl ?_
        replace e := ck_as_e e
        obtain ⟨hc_37, e⟩ := e
        refine go_iald rfl hc_37 ?_
        refine go_icmp_eq (t := 436) rfl rfl (fun hx_38 => ?_) (fun hx_38 => ?_)
        · rw [if_pos hx_38] at e
          refine go_iinc (v := 1) rfl rfl (by decide) rfl ?_
          show Go k_RM_press 439 [some (.ref a0), some (.int v1), some (.int v2), some (.int v3), some (.int (v4 + 1)), some (.int v5), some (.int v6), some (.int v7), some (.int v8)] [] h29 _
          refine go_goto (t := 235) rfl rfl ?_
          refine go_forget (l := [some (.ref a0), some (.int v1), some (.int v2), some (.int v3), some (.int (v4 + 1)), none, none, none, none]) ⟨Or.inl rfl, Or.inl rfl, Or.inl rfl, Or.inl rfl, Or.inl rfl, Or.inr ⟨rfl, fun _ q => by cases q; rfl⟩, Or.inr ⟨rfl, fun _ q => by cases q; rfl⟩, Or.inr ⟨rfl, fun _ q => by cases q; rfl⟩, Or.inr ⟨rfl, fun _ q => by cases q; rfl⟩, trivial⟩ ?_
          exact hk235 _ _ _ _ _ _ _ _ e
        · rw [if_neg hx_38] at e
          refine go_forget (l := [some (.ref a0), some (.int v1), some (.int v2), some (.int v3), some (.int v4), none, none, some (.int v7), none]) ⟨Or.inl rfl, Or.inl rfl, Or.inl rfl, Or.inl rfl, Or.inl rfl, Or.inr ⟨rfl, fun _ q => by cases q; rfl⟩, Or.inr ⟨rfl, fun _ q => by cases q; rfl⟩, Or.inl rfl, Or.inr ⟨rfl, fun _ q => by cases q; rfl⟩, trivial⟩ ?_
          exact f_RM_press_J407_s F k235 hk235 a0 v1 v2 v3 v4 v7 _ _ _ e
def f_RM_press_L260 (F : Nat) (k235 : Nat → Int32 → Int32 → Int32 → Int32 → ck_H → Option (Int32 × ck_H)) : Nat → Nat → Int32 → Int32 → Int32 → Int32 → Int32 → ck_H → Option (Int32 × ck_H)
  | 0, _, _, _, _, _, _, _ => none
  | n + 1, a0, v1, v2, v3, v4, v5, h =>
    ck_as (gk h a0 = 12) <|
    ck_bd (f_RM_trackOf F a0 v1 v3 h) fun r2 h3 =>
    ck_as (gk h3 a0 = 12) <|
    ck_bd (f_RM_hasRoom F a0 r2 v5 h3) fun r6 h7 =>
    if r6 = (0 : Int32) then
      f_RM_press_L260 F k235 n a0 v1 v2 (v3 + 1) v4 v5 h7
    else
      ck_as (gk h7 a0 = 12) <|
      ck_bd (f_RM_trackOf F a0 v1 v3 h7) fun r11 h12 =>
      ck_as (gk h12 a0 = 12) <|
      ck_some (gR h12 a0 1) fun b15 =>
      ck_as ((gk h12 b15 = 14 ∨ gk h12 b15 = 21) ∧ ¬ r11 < 0 ∧ (r11 : Int32).toNatClampNeg < gz h12 b15) <|
      ck_bd (f_RM_add F a0 r11 (r11 / 4) (r11 - r11 / 4 * 4) ((gI h12 b15 (r11 : Int32).toNatClampNeg) + 1) 0 v5 h12) fun r18 h19 =>
      f_RM_press_L320 F k235 F a0 v1 v2 v3 v4 v5 r11 r18 0 h19
set_option maxRecDepth 100000 in
set_option maxHeartbeats 4000000 in
theorem f_RM_press_L260_s (F : Nat) (k235 : Nat → Int32 → Int32 → Int32 → Int32 → ck_H → Option (Int32 × ck_H)) (hk235 : ∀ (a0 : Nat) (v1 : Int32) (v2 : Int32) (v3 : Int32) (v4 : Int32) (h : ck_H) (r : Int32) (h' : ck_H), k235 a0 v1 v2 v3 v4 h = some (r, h') → Go k_RM_press 235 [some (.ref a0), some (.int v1), some (.int v2), some (.int v3), some (.int v4), none, none, none, none] [] h (some (.int r), h')) : ∀ (n : Nat) (a0 : Nat) (v1 : Int32) (v2 : Int32) (v3 : Int32) (v4 : Int32) (v5 : Int32) (h : ck_H) (r : Int32) (h' : ck_H), f_RM_press_L260 F k235 n a0 v1 v2 v3 v4 v5 h = some (r, h') → Go k_RM_press 260 [some (.ref a0), some (.int v1), some (.int v2), some (.int v3), some (.int v4), some (.int v5), none, none, none] [] h (some (.int r), h') := by
  intro n
  induction n with
  | zero => intro a0 v1 v2 v3 v4 v5 h r h' e; simp only [f_RM_press_L260] at e; cases e
  | succ n ih =>
    intro a0 v1 v2 v3 v4 v5 h r h' e
    rw [f_RM_press_L260] at e
    refine go_aload_n rfl rfl ?_
    refine go_aload_n rfl rfl ?_
    refine go_iload_n rfl rfl ?_
    refine go_iload_n rfl rfl ?_
    replace e := ck_as_e e
    obtain ⟨hk_1, e⟩ := e
    replace e := ck_bd_e e
    obtain ⟨r2, h3, e4, e⟩ := e
    refine go_callV (As := [.int v1, .int v3]) (b0 := a0) (rest := [.ref a0]) rfl rfl ⟨hk_1, by decide⟩ rfl ⟨Nat.le_of_ble_eq_true rfl, Nat.le_of_ble_eq_true rfl, Nat.le_of_ble_eq_true rfl, Nat.le_of_ble_eq_true rfl⟩ (s_RM_trackOf e4) ?_
    show Go k_RM_press 267 [some (.ref a0), some (.int v1), some (.int v2), some (.int v3), some (.int v4), some (.int v5), none, none, none] [.int r2, .ref a0] h3 _
    refine go_iload rfl rfl ?_
    replace e := ck_as_e e
    obtain ⟨hk_5, e⟩ := e
    replace e := ck_bd_e e
    obtain ⟨r6, h7, e8, e⟩ := e
    refine go_callV (As := [.int r2, .int v5]) (b0 := a0) (rest := []) rfl rfl ⟨hk_5, by decide⟩ rfl ⟨Nat.le_of_ble_eq_true rfl, Nat.le_of_ble_eq_true rfl, Nat.le_of_ble_eq_true rfl, Nat.le_of_ble_eq_true rfl⟩ (s_RM_hasRoom e8) ?_
    show Go k_RM_press 272 [some (.ref a0), some (.int v1), some (.int v2), some (.int v3), some (.int v4), some (.int v5), none, none, none] [.int r6] h7 _
    refine go_if_ne (t := 281) rfl rfl (fun hx_9 => ?_) (fun hx_9 => ?_)
    · rw [if_pos hx_9] at e
      refine go_iinc (v := 1) rfl rfl (by decide) rfl ?_
      show Go k_RM_press 278 [some (.ref a0), some (.int v1), some (.int v2), some (.int (v3 + 1)), some (.int v4), some (.int v5), none, none, none] [] h7 _
      refine go_goto (t := 260) rfl rfl ?_
      refine go_forget (l := [some (.ref a0), some (.int v1), some (.int v2), some (.int (v3 + 1)), some (.int v4), some (.int v5), none, none, none]) ⟨Or.inl rfl, Or.inl rfl, Or.inl rfl, Or.inl rfl, Or.inl rfl, Or.inl rfl, Or.inl rfl, Or.inl rfl, Or.inl rfl, trivial⟩ ?_
      exact ih _ _ _ _ _ _ _ _ _ e
    · rw [if_neg hx_9] at e
      refine go_aload_n rfl rfl ?_
      refine go_iload_n rfl rfl ?_
      refine go_iload_n rfl rfl ?_
      replace e := ck_as_e e
      obtain ⟨hk_10, e⟩ := e
      replace e := ck_bd_e e
      obtain ⟨r11, h12, e13, e⟩ := e
      refine go_callV (As := [.int v1, .int v3]) (b0 := a0) (rest := []) rfl rfl ⟨hk_10, by decide⟩ rfl ⟨Nat.le_of_ble_eq_true rfl, Nat.le_of_ble_eq_true rfl, Nat.le_of_ble_eq_true rfl, Nat.le_of_ble_eq_true rfl⟩ (s_RM_trackOf e13) ?_
      show Go k_RM_press 287 [some (.ref a0), some (.int v1), some (.int v2), some (.int v3), some (.int v4), some (.int v5), none, none, none] [.int r11] h12 _
      refine go_istore rfl rfl ?_
      show Go k_RM_press 289 [some (.ref a0), some (.int v1), some (.int v2), some (.int v3), some (.int v4), some (.int v5), some (.int r11), none, none] [] h12 _
      refine go_aload_n rfl rfl ?_
      refine go_iload rfl rfl ?_
      refine go_iload rfl rfl ?_
      refine go_iconst (v := 4) rfl (by decide) ?_
      refine go_idiv rfl (by decide) ?_
      refine go_iload rfl rfl ?_
      refine go_iconst (v := 4) rfl (by decide) ?_
      refine go_irem rfl (by decide) ?_
      refine go_aload_n rfl rfl ?_
      replace e := ck_as_e e
      obtain ⟨hk_14, e⟩ := e
      replace e := ck_some_e e
      obtain ⟨b15, hq_16, e⟩ := e
      refine go_get (v := .ref b15) rfl rfl hk_14 (by decide) (by show va_rf (gR h12 a0 1) = _; rw [hq_16]; rfl) ?_
      refine go_iload rfl rfl ?_
      replace e := ck_as_e e
      obtain ⟨hc_17, e⟩ := e
      refine go_iald rfl hc_17 ?_
      refine go_iconst (v := 1) rfl (by decide) ?_
      refine go_iadd rfl ?_
      refine go_iconst (v := 0) rfl (by decide) ?_
      refine go_iload rfl rfl ?_
      replace e := ck_bd_e e
      obtain ⟨r18, h19, e20, e⟩ := e
      refine go_callV (As := [.int r11, .int (r11 / 4), .int (r11 - r11 / 4 * 4), .int ((gI h12 b15 (r11 : Int32).toNatClampNeg) + 1), .int 0, .int v5]) (b0 := a0) (rest := []) rfl rfl ⟨hk_14, by decide⟩ rfl ⟨Nat.le_of_ble_eq_true rfl, Nat.le_of_ble_eq_true rfl, Nat.le_of_ble_eq_true rfl, Nat.le_of_ble_eq_true rfl⟩ (s_RM_add e20) ?_
      show Go k_RM_press 315 [some (.ref a0), some (.int v1), some (.int v2), some (.int v3), some (.int v4), some (.int v5), some (.int r11), none, none] [.int r18] h19 _
      refine go_istore rfl rfl ?_
      show Go k_RM_press 317 [some (.ref a0), some (.int v1), some (.int v2), some (.int v3), some (.int v4), some (.int v5), some (.int r11), some (.int r18), none] [] h19 _
      refine go_iconst (v := 0) rfl (by decide) ?_
      refine go_istore rfl rfl ?_
      show Go k_RM_press 320 [some (.ref a0), some (.int v1), some (.int v2), some (.int v3), some (.int v4), some (.int v5), some (.int r11), some (.int r18), some (.int 0)] [] h19 _
      refine go_forget (l := [some (.ref a0), some (.int v1), some (.int v2), some (.int v3), some (.int v4), some (.int v5), some (.int r11), some (.int r18), some (.int 0)]) ⟨Or.inl rfl, Or.inl rfl, Or.inl rfl, Or.inl rfl, Or.inl rfl, Or.inl rfl, Or.inl rfl, Or.inl rfl, Or.inl rfl, trivial⟩ ?_
      exact f_RM_press_L320_s F k235 hk235 F _ _ _ _ _ _ _ _ _ _ _ _ e
def f_RM_press_L235 (F : Nat)  : Nat → Nat → Int32 → Int32 → Int32 → Int32 → ck_H → Option (Int32 × ck_H)
  | 0, _, _, _, _, _, _ => none
  | n + 1, a0, v1, v2, v3, v4, h =>
    if v4 < v2 then
      ck_as (gk h a0 = 12) <|
      ck_some (gR h a0 76) fun b3 =>
      ck_as ((gk h b3 = 14 ∨ gk h b3 = 21) ∧ ¬ (v4 + 1) < 0 ∧ (v4 + 1 : Int32).toNatClampNeg < gz h b3) <|
      ck_some (gR h a0 76) fun b6 =>
      ck_as ((gk h b6 = 14 ∨ gk h b6 = 21) ∧ ¬ v4 < 0 ∧ (v4 : Int32).toNatClampNeg < gz h b6) <|
      ck_then ((gI h b3 (v4 + 1 : Int32).toNatClampNeg) - (gI h b6 (v4 : Int32).toNatClampNeg)) fun x9 =>
      f_RM_press_L260 F (f_RM_press_L235 F n) F a0 v1 v2 v3 v4 x9 h
    else
      ck_as (gk h a0 = 12) <|
      ck_bd (f_RM_writeList F a0 v1 h) fun _ h41 =>
      some (v2, h41)
set_option maxRecDepth 100000 in
set_option maxHeartbeats 4000000 in
theorem f_RM_press_L235_s (F : Nat)   : ∀ (n : Nat) (a0 : Nat) (v1 : Int32) (v2 : Int32) (v3 : Int32) (v4 : Int32) (h : ck_H) (r : Int32) (h' : ck_H), f_RM_press_L235 F n a0 v1 v2 v3 v4 h = some (r, h') → Go k_RM_press 235 [some (.ref a0), some (.int v1), some (.int v2), some (.int v3), some (.int v4), none, none, none, none] [] h (some (.int r), h') := by
  intro n
  induction n with
  | zero => intro a0 v1 v2 v3 v4 h r h' e; simp only [f_RM_press_L235] at e; cases e
  | succ n ih =>
    intro a0 v1 v2 v3 v4 h r h' e
    rw [f_RM_press_L235] at e
    refine go_iload rfl rfl ?_
    refine go_iload_n rfl rfl ?_
    refine go_icmp_ge (t := 442) rfl rfl (fun hx_1 => ?_) (fun hx_1 => ?_)
    · rw [if_pos hx_1] at e
      refine go_aload_n rfl rfl ?_
      replace e := ck_as_e e
      obtain ⟨hk_2, e⟩ := e
      replace e := ck_some_e e
      obtain ⟨b3, hq_4, e⟩ := e
      refine go_get (v := .ref b3) rfl rfl hk_2 (by decide) (by show va_rf (gR h a0 76) = _; rw [hq_4]; rfl) ?_
      refine go_iload rfl rfl ?_
      refine go_iconst (v := 1) rfl (by decide) ?_
      refine go_iadd rfl ?_
      replace e := ck_as_e e
      obtain ⟨hc_5, e⟩ := e
      refine go_iald rfl hc_5 ?_
      refine go_aload_n rfl rfl ?_
      replace e := ck_some_e e
      obtain ⟨b6, hq_7, e⟩ := e
      refine go_get (v := .ref b6) rfl rfl hk_2 (by decide) (by show va_rf (gR h a0 76) = _; rw [hq_7]; rfl) ?_
      refine go_iload rfl rfl ?_
      replace e := ck_as_e e
      obtain ⟨hc_8, e⟩ := e
      refine go_iald rfl hc_8 ?_
      refine go_isub rfl ?_
      generalize (gI h b3 (v4 + 1 : Int32).toNatClampNeg) - (gI h b6 (v4 : Int32).toNatClampNeg) = x9 at e ⊢
      replace e := ck_then_e e
      refine go_istore rfl rfl ?_
      show Go k_RM_press 260 [some (.ref a0), some (.int v1), some (.int v2), some (.int v3), some (.int v4), some (.int x9), none, none, none] [] h _
      refine go_forget (l := [some (.ref a0), some (.int v1), some (.int v2), some (.int v3), some (.int v4), some (.int x9), none, none, none]) ⟨Or.inl rfl, Or.inl rfl, Or.inl rfl, Or.inl rfl, Or.inl rfl, Or.inl rfl, Or.inl rfl, Or.inl rfl, Or.inl rfl, trivial⟩ ?_
      exact f_RM_press_L260_s F (f_RM_press_L235 F n) ih F _ _ _ _ _ _ _ _ _ e
    · rw [if_neg hx_1] at e
      refine go_aload_n rfl rfl ?_
      refine go_iload_n rfl rfl ?_
      replace e := ck_as_e e
      obtain ⟨hk_39, e⟩ := e
      replace e := ck_bd_e e
      obtain ⟨r40, h41, e42, e⟩ := e
      refine go_callV (As := [.int v1]) (b0 := a0) (rest := []) rfl rfl ⟨hk_39, by decide⟩ rfl ⟨Nat.le_of_ble_eq_true rfl, Nat.le_of_ble_eq_true rfl, Nat.le_of_ble_eq_true rfl, Nat.le_of_ble_eq_true rfl⟩ (s_RM_writeList e42) ?_
      show Go k_RM_press 447 [some (.ref a0), some (.int v1), some (.int v2), some (.int v3), some (.int v4), none, none, none, none] [] h41 _
      refine go_iload_n rfl rfl ?_
      cases e
      exact go_ret rfl rfl
def f_RM_press_L203 (F : Nat)  : Nat → Nat → Int32 → Int32 → Int32 → ck_H → Option (Int32 × ck_H)
  | 0, _, _, _, _, _ => none
  | n + 1, a0, v1, v2, v3, h =>
    ck_as (gk h a0 = 12) <|
    ck_bd (f_RM_tracksOf F a0 v1 h) fun r2 h3 =>
    if v3 < r2 then
      ck_as (gk h3 a0 = 12) <|
      ck_some (gR h3 a0 1) fun b7 =>
      ck_bd (f_RM_trackOf F a0 v1 v3 h3) fun r9 h10 =>
      ck_as (gk h10 b7 = 14 ∧ ¬ r9 < 0 ∧ (r9 : Int32).toNatClampNeg < gz h10 b7) <|
      ck_then (wI h10 b7 (r9 : Int32).toNatClampNeg 0) fun h13 =>
      f_RM_press_L203 F n a0 v1 v2 (v3 + 1) h13
    else
      f_RM_press_L235 F F a0 v1 v2 1 0 h3
set_option maxRecDepth 100000 in
set_option maxHeartbeats 4000000 in
theorem f_RM_press_L203_s (F : Nat)   : ∀ (n : Nat) (a0 : Nat) (v1 : Int32) (v2 : Int32) (v3 : Int32) (h : ck_H) (r : Int32) (h' : ck_H), f_RM_press_L203 F n a0 v1 v2 v3 h = some (r, h') → Go k_RM_press 203 [some (.ref a0), some (.int v1), some (.int v2), some (.int v3), none, none, none, none, none] [] h (some (.int r), h') := by
  intro n
  induction n with
  | zero => intro a0 v1 v2 v3 h r h' e; simp only [f_RM_press_L203] at e; cases e
  | succ n ih =>
    intro a0 v1 v2 v3 h r h' e
    rw [f_RM_press_L203] at e
    refine go_iload_n rfl rfl ?_
    refine go_aload_n rfl rfl ?_
    refine go_iload_n rfl rfl ?_
    replace e := ck_as_e e
    obtain ⟨hk_1, e⟩ := e
    replace e := ck_bd_e e
    obtain ⟨r2, h3, e4, e⟩ := e
    refine go_callV (As := [.int v1]) (b0 := a0) (rest := [.int v3]) rfl rfl ⟨hk_1, by decide⟩ rfl ⟨Nat.le_of_ble_eq_true rfl, Nat.le_of_ble_eq_true rfl, Nat.le_of_ble_eq_true rfl, Nat.le_of_ble_eq_true rfl⟩ (s_RM_tracksOf e4) ?_
    show Go k_RM_press 209 [some (.ref a0), some (.int v1), some (.int v2), some (.int v3), none, none, none, none, none] [.int r2, .int v3] h3 _
    refine go_icmp_ge (t := 230) rfl rfl (fun hx_5 => ?_) (fun hx_5 => ?_)
    · rw [if_pos hx_5] at e
      refine go_aload_n rfl rfl ?_
      replace e := ck_as_e e
      obtain ⟨hk_6, e⟩ := e
      replace e := ck_some_e e
      obtain ⟨b7, hq_8, e⟩ := e
      refine go_get (v := .ref b7) rfl rfl hk_6 (by decide) (by show va_rf (gR h3 a0 1) = _; rw [hq_8]; rfl) ?_
      refine go_aload_n rfl rfl ?_
      refine go_iload_n rfl rfl ?_
      refine go_iload_n rfl rfl ?_
      replace e := ck_bd_e e
      obtain ⟨r9, h10, e11, e⟩ := e
      refine go_callV (As := [.int v1, .int v3]) (b0 := a0) (rest := [.ref b7]) rfl rfl ⟨hk_6, by decide⟩ rfl ⟨Nat.le_of_ble_eq_true rfl, Nat.le_of_ble_eq_true rfl, Nat.le_of_ble_eq_true rfl, Nat.le_of_ble_eq_true rfl⟩ (s_RM_trackOf e11) ?_
      show Go k_RM_press 222 [some (.ref a0), some (.int v1), some (.int v2), some (.int v3), none, none, none, none, none] [.int r9, .ref b7] h10 _
      refine go_iconst (v := 0) rfl (by decide) ?_
      replace e := ck_as_e e
      obtain ⟨hc_12, e⟩ := e
      refine go_iast rfl hc_12 ?_
      generalize wI h10 b7 (r9 : Int32).toNatClampNeg 0 = h13 at e  ⊢
      replace e := ck_then_e e
      refine go_iinc (v := 1) rfl rfl (by decide) rfl ?_
      show Go k_RM_press 227 [some (.ref a0), some (.int v1), some (.int v2), some (.int (v3 + 1)), none, none, none, none, none] [] h13 _
      refine go_goto (t := 203) rfl rfl ?_
      refine go_forget (l := [some (.ref a0), some (.int v1), some (.int v2), some (.int (v3 + 1)), none, none, none, none, none]) ⟨Or.inl rfl, Or.inl rfl, Or.inl rfl, Or.inl rfl, Or.inl rfl, Or.inl rfl, Or.inl rfl, Or.inl rfl, Or.inl rfl, trivial⟩ ?_
      exact ih _ _ _ _ _ _ _ e
    · rw [if_neg hx_5] at e
      refine go_iconst (v := 1) rfl (by decide) ?_
      refine go_istore_n rfl rfl ?_
      show Go k_RM_press 232 [some (.ref a0), some (.int v1), some (.int v2), some (.int 1), none, none, none, none, none] [] h3 _
      refine go_iconst (v := 0) rfl (by decide) ?_
      refine go_istore rfl rfl ?_
      show Go k_RM_press 235 [some (.ref a0), some (.int v1), some (.int v2), some (.int 1), some (.int 0), none, none, none, none] [] h3 _
      refine go_forget (l := [some (.ref a0), some (.int v1), some (.int v2), some (.int 1), some (.int 0), none, none, none, none]) ⟨Or.inl rfl, Or.inl rfl, Or.inl rfl, Or.inl rfl, Or.inl rfl, Or.inl rfl, Or.inl rfl, Or.inl rfl, Or.inl rfl, trivial⟩ ?_
      exact f_RM_press_L235_s F F _ _ _ _ _ _ _ _ e
def f_RM_press_L32 (F : Nat)  : Nat → Nat → Int32 → Int32 → Int32 → ck_H → Option (Int32 × ck_H)
  | 0, _, _, _, _, _ => none
  | n + 1, a0, v1, v2, v3, h =>
    ck_as (gk h a0 = 12) <|
    ck_bd (f_RM_tracksOf F a0 v1 h) fun r2 h3 =>
    if v3 < r2 then
      ck_as (gk h3 a0 = 12) <|
      ck_bd (f_RM_trackOf F a0 v1 v3 h3) fun r7 h8 =>
      f_RM_press_L52 F (f_RM_press_L32 F n) F a0 v1 v2 v3 r7 0 h8
    else
      f_RM_press_L203 F F a0 v1 v2 1 h3
set_option maxRecDepth 100000 in
set_option maxHeartbeats 4000000 in
theorem f_RM_press_L32_s (F : Nat)   : ∀ (n : Nat) (a0 : Nat) (v1 : Int32) (v2 : Int32) (v3 : Int32) (h : ck_H) (r : Int32) (h' : ck_H), f_RM_press_L32 F n a0 v1 v2 v3 h = some (r, h') → Go k_RM_press 32 [some (.ref a0), some (.int v1), some (.int v2), some (.int v3), none, none, none, none, none] [] h (some (.int r), h') := by
  intro n
  induction n with
  | zero => intro a0 v1 v2 v3 h r h' e; simp only [f_RM_press_L32] at e; cases e
  | succ n ih =>
    intro a0 v1 v2 v3 h r h' e
    rw [f_RM_press_L32] at e
    refine go_iload_n rfl rfl ?_
    refine go_aload_n rfl rfl ?_
    refine go_iload_n rfl rfl ?_
    replace e := ck_as_e e
    obtain ⟨hk_1, e⟩ := e
    replace e := ck_bd_e e
    obtain ⟨r2, h3, e4, e⟩ := e
    refine go_callV (As := [.int v1]) (b0 := a0) (rest := [.int v3]) rfl rfl ⟨hk_1, by decide⟩ rfl ⟨Nat.le_of_ble_eq_true rfl, Nat.le_of_ble_eq_true rfl, Nat.le_of_ble_eq_true rfl, Nat.le_of_ble_eq_true rfl⟩ (s_RM_tracksOf e4) ?_
    show Go k_RM_press 38 [some (.ref a0), some (.int v1), some (.int v2), some (.int v3), none, none, none, none, none] [.int r2, .int v3] h3 _
    refine go_icmp_ge (t := 201) rfl rfl (fun hx_5 => ?_) (fun hx_5 => ?_)
    · rw [if_pos hx_5] at e
      refine go_aload_n rfl rfl ?_
      refine go_iload_n rfl rfl ?_
      refine go_iload_n rfl rfl ?_
      replace e := ck_as_e e
      obtain ⟨hk_6, e⟩ := e
      replace e := ck_bd_e e
      obtain ⟨r7, h8, e9, e⟩ := e
      refine go_callV (As := [.int v1, .int v3]) (b0 := a0) (rest := []) rfl rfl ⟨hk_6, by decide⟩ rfl ⟨Nat.le_of_ble_eq_true rfl, Nat.le_of_ble_eq_true rfl, Nat.le_of_ble_eq_true rfl, Nat.le_of_ble_eq_true rfl⟩ (s_RM_trackOf e9) ?_
      show Go k_RM_press 47 [some (.ref a0), some (.int v1), some (.int v2), some (.int v3), none, none, none, none, none] [.int r7] h8 _
      refine go_istore rfl rfl ?_
      show Go k_RM_press 49 [some (.ref a0), some (.int v1), some (.int v2), some (.int v3), some (.int r7), none, none, none, none] [] h8 _
      refine go_iconst (v := 0) rfl (by decide) ?_
      refine go_istore rfl rfl ?_
      show Go k_RM_press 52 [some (.ref a0), some (.int v1), some (.int v2), some (.int v3), some (.int r7), some (.int 0), none, none, none] [] h8 _
      refine go_forget (l := [some (.ref a0), some (.int v1), some (.int v2), some (.int v3), some (.int r7), some (.int 0), none, none, none]) ⟨Or.inl rfl, Or.inl rfl, Or.inl rfl, Or.inl rfl, Or.inl rfl, Or.inl rfl, Or.inl rfl, Or.inl rfl, Or.inl rfl, trivial⟩ ?_
      exact f_RM_press_L52_s F (f_RM_press_L32 F n) ih F _ _ _ _ _ _ _ _ _ e
    · rw [if_neg hx_5] at e
      refine go_iconst (v := 1) rfl (by decide) ?_
      refine go_istore_n rfl rfl ?_
      show Go k_RM_press 203 [some (.ref a0), some (.int v1), some (.int v2), some (.int 1), none, none, none, none, none] [] h3 _
      refine go_forget (l := [some (.ref a0), some (.int v1), some (.int v2), some (.int 1), none, none, none, none, none]) ⟨Or.inl rfl, Or.inl rfl, Or.inl rfl, Or.inl rfl, Or.inl rfl, Or.inl rfl, Or.inl rfl, Or.inl rfl, Or.inl rfl, trivial⟩ ?_
      exact f_RM_press_L203_s F F _ _ _ _ _ _ _ e
def f_RM_press (F : Nat) (a0 : Nat) (v1 : Int32) (h : ck_H) : Option (Int32 × ck_H) :=
  ck_as (gk h a0 = 12) <|
  ck_bd (f_RM_isLibrary F a0 v1 h) fun r2 h3 =>
  if r2 = (0 : Int32) then
    some ((-1), h3)
  else
    ck_as (gk h3 a0 = 12) <|
    ck_bd (f_RM_opens F a0 v1 h3) fun r7 h8 =>
    if (0 : Int32) < r7 then
      some ((-8), h8)
    else
      ck_as (gk h8 a0 = 12) <|
      ck_some (gR h8 a0 76) fun b12 =>
      ck_as (gk h8 b12 = 14 ∧ ¬ (0 : Int32) < 0 ∧ (0 : Int32).toNatClampNeg < gz h8 b12) <|
      ck_then (wI h8 b12 (0 : Int32).toNatClampNeg 0) fun h15 =>
      f_RM_press_L32 F F a0 v1 0 1 h15
set_option maxRecDepth 100000 in
set_option maxHeartbeats 4000000 in
theorem s_RM_press {F : Nat} {a0 : Nat} {v1 : Int32} {h h' : ck_H} {r : Int32} (e : f_RM_press F a0 v1 h = some (r, h')) : Go k_RM_press 0 (ck_in [.ref a0, .int v1] 9) [] h (some (.int r), h') := by
  unfold f_RM_press at e
  show Go k_RM_press 0 [some (.ref a0), some (.int v1), none, none, none, none, none, none, none] [] h _
  refine go_aload_n rfl rfl ?_
  refine go_iload_n rfl rfl ?_
  replace e := ck_as_e e
  obtain ⟨hk_1, e⟩ := e
  replace e := ck_bd_e e
  obtain ⟨r2, h3, e4, e⟩ := e
  refine go_callV (As := [.int v1]) (b0 := a0) (rest := []) rfl rfl ⟨hk_1, by decide⟩ rfl ⟨Nat.le_of_ble_eq_true rfl, Nat.le_of_ble_eq_true rfl, Nat.le_of_ble_eq_true rfl, Nat.le_of_ble_eq_true rfl⟩ (s_RM_isLibrary e4) ?_
  show Go k_RM_press 5 [some (.ref a0), some (.int v1), none, none, none, none, none, none, none] [.int r2] h3 _
  refine go_if_ne (t := 10) rfl rfl (fun hx_5 => ?_) (fun hx_5 => ?_)
  · rw [if_pos hx_5] at e
    refine go_iconst (v := (-1)) rfl (by decide) ?_
    cases e
    exact go_ret rfl rfl
  · rw [if_neg hx_5] at e
    refine go_aload_n rfl rfl ?_
    refine go_iload_n rfl rfl ?_
    replace e := ck_as_e e
    obtain ⟨hk_6, e⟩ := e
    replace e := ck_bd_e e
    obtain ⟨r7, h8, e9, e⟩ := e
    refine go_callV (As := [.int v1]) (b0 := a0) (rest := []) rfl rfl ⟨hk_6, by decide⟩ rfl ⟨Nat.le_of_ble_eq_true rfl, Nat.le_of_ble_eq_true rfl, Nat.le_of_ble_eq_true rfl, Nat.le_of_ble_eq_true rfl⟩ (s_RM_opens e9) ?_
    show Go k_RM_press 15 [some (.ref a0), some (.int v1), none, none, none, none, none, none, none] [.int r7] h8 _
    refine go_if_le (t := 21) rfl rfl (fun hx_10 => ?_) (fun hx_10 => ?_)
    · rw [if_pos hx_10] at e
      refine go_bipush (v := (-8)) rfl (by decide) ?_
      cases e
      exact go_ret rfl rfl
    · rw [if_neg hx_10] at e
      refine go_iconst (v := 0) rfl (by decide) ?_
      refine go_istore_n rfl rfl ?_
      show Go k_RM_press 23 [some (.ref a0), some (.int v1), some (.int 0), none, none, none, none, none, none] [] h8 _
      refine go_aload_n rfl rfl ?_
      replace e := ck_as_e e
      obtain ⟨hk_11, e⟩ := e
      replace e := ck_some_e e
      obtain ⟨b12, hq_13, e⟩ := e
      refine go_get (v := .ref b12) rfl rfl hk_11 (by decide) (by show va_rf (gR h8 a0 76) = _; rw [hq_13]; rfl) ?_
      refine go_iconst (v := 0) rfl (by decide) ?_
      refine go_iconst (v := 0) rfl (by decide) ?_
      replace e := ck_as_e e
      obtain ⟨hc_14, e⟩ := e
      refine go_iast rfl hc_14 ?_
      have hk_16 : gk (wI h8 b12 (0 : Int32).toNatClampNeg 0) a0 = 12 := ck_kI.trans hk_11
      generalize wI h8 b12 (0 : Int32).toNatClampNeg 0 = h15 at e hk_16 ⊢
      replace e := ck_then_e e
      refine go_iconst (v := 1) rfl (by decide) ?_
      refine go_istore_n rfl rfl ?_
      show Go k_RM_press 32 [some (.ref a0), some (.int v1), some (.int 0), some (.int 1), none, none, none, none, none] [] h15 _
      refine go_forget (l := [some (.ref a0), some (.int v1), some (.int 0), some (.int 1), none, none, none, none, none]) ⟨Or.inl rfl, Or.inl rfl, Or.inl rfl, Or.inl rfl, Or.inl rfl, Or.inl rfl, Or.inl rfl, Or.inl rfl, Or.inl rfl, trivial⟩ ?_
      exact f_RM_press_L32_s F F _ _ _ _ _ _ _ e
def f_RM_opened (F : Nat) (a0 : Nat) (v1 : Int32) (v2 : Int32) (h : ck_H) : Option (Int32 × ck_H) :=
  ck_as (gk h a0 = 12) <|
  ck_bd (f_RM_isHandle F a0 v1 h) fun r2 h3 =>
  if r2 = (0 : Int32) then
    some ((-1), h3)
  else
    if v2 = 0 then
      ck_as (gk h3 a0 = 12) <|
      ck_some (gR h3 a0 50) fun b8 =>
      ck_as ((gk h3 b8 = 14 ∨ gk h3 b8 = 21) ∧ ¬ v1 < 0 ∧ (v1 : Int32).toNatClampNeg < gz h3 b8) <|
      some (gI h3 b8 (v1 : Int32).toNatClampNeg, h3)
    else
    if v2 = 1 then
      ck_as (gk h3 a0 = 12) <|
      ck_some (gR h3 a0 51) fun b13 =>
      ck_as ((gk h3 b13 = 14 ∨ gk h3 b13 = 21) ∧ ¬ v1 < 0 ∧ (v1 : Int32).toNatClampNeg < gz h3 b13) <|
      some (gI h3 b13 (v1 : Int32).toNatClampNeg, h3)
    else
    if v2 = 2 then
      ck_as (gk h3 a0 = 12) <|
      ck_some (gR h3 a0 52) fun b18 =>
      ck_as ((gk h3 b18 = 14 ∨ gk h3 b18 = 21) ∧ ¬ v1 < 0 ∧ (v1 : Int32).toNatClampNeg < gz h3 b18) <|
      some (gI h3 b18 (v1 : Int32).toNatClampNeg, h3)
    else
    if v2 = 3 then
      ck_as (gk h3 a0 = 12) <|
      ck_some (gR h3 a0 54) fun b23 =>
      ck_as ((gk h3 b23 = 14 ∨ gk h3 b23 = 21) ∧ ¬ v1 < 0 ∧ (v1 : Int32).toNatClampNeg < gz h3 b23) <|
      some (gI h3 b23 (v1 : Int32).toNatClampNeg, h3)
    else
      some ((-1), h3)
set_option maxRecDepth 100000 in
set_option maxHeartbeats 4000000 in
theorem s_RM_opened {F : Nat} {a0 : Nat} {v1 : Int32} {v2 : Int32} {h h' : ck_H} {r : Int32} (e : f_RM_opened F a0 v1 v2 h = some (r, h')) : Go k_RM_opened 0 (ck_in [.ref a0, .int v1, .int v2] 3) [] h (some (.int r), h') := by
  unfold f_RM_opened at e
  show Go k_RM_opened 0 [some (.ref a0), some (.int v1), some (.int v2)] [] h _
  refine go_aload_n rfl rfl ?_
  refine go_iload_n rfl rfl ?_
  replace e := ck_as_e e
  obtain ⟨hk_1, e⟩ := e
  replace e := ck_bd_e e
  obtain ⟨r2, h3, e4, e⟩ := e
  refine go_callV (As := [.int v1]) (b0 := a0) (rest := []) rfl rfl ⟨hk_1, by decide⟩ rfl ⟨Nat.le_of_ble_eq_true rfl, Nat.le_of_ble_eq_true rfl, Nat.le_of_ble_eq_true rfl, Nat.le_of_ble_eq_true rfl⟩ (s_RM_isHandle e4) ?_
  show Go k_RM_opened 5 [some (.ref a0), some (.int v1), some (.int v2)] [.int r2] h3 _
  refine go_if_ne (t := 10) rfl rfl (fun hx_5 => ?_) (fun hx_5 => ?_)
  · rw [if_pos hx_5] at e
    refine go_iconst (v := (-1)) rfl (by decide) ?_
    cases e
    exact go_ret rfl rfl
  · rw [if_neg hx_5] at e
    refine go_iload_n rfl rfl ?_
    by_cases hx_6 : v2 = 0
    · rw [if_pos hx_6] at e
      refine go_tswI (off := 29) (t := 40) rfl (by rw [hx_6]; decide) (by rw [hx_6]; rfl) rfl ?_
      refine go_aload_n rfl rfl ?_
      replace e := ck_as_e e
      obtain ⟨hk_7, e⟩ := e
      replace e := ck_some_e e
      obtain ⟨b8, hq_9, e⟩ := e
      refine go_get (v := .ref b8) rfl rfl hk_7 (by decide) (by show va_rf (gR h3 a0 50) = _; rw [hq_9]; rfl) ?_
      refine go_iload_n rfl rfl ?_
      replace e := ck_as_e e
      obtain ⟨hc_10, e⟩ := e
      refine go_iald rfl hc_10 ?_
      cases e
      exact go_ret rfl rfl
    rw [if_neg hx_6] at e
    by_cases hx_11 : v2 = 1
    · rw [if_pos hx_11] at e
      refine go_tswI (off := 36) (t := 47) rfl (by rw [hx_11]; decide) (by rw [hx_11]; rfl) rfl ?_
      refine go_aload_n rfl rfl ?_
      replace e := ck_as_e e
      obtain ⟨hk_12, e⟩ := e
      replace e := ck_some_e e
      obtain ⟨b13, hq_14, e⟩ := e
      refine go_get (v := .ref b13) rfl rfl hk_12 (by decide) (by show va_rf (gR h3 a0 51) = _; rw [hq_14]; rfl) ?_
      refine go_iload_n rfl rfl ?_
      replace e := ck_as_e e
      obtain ⟨hc_15, e⟩ := e
      refine go_iald rfl hc_15 ?_
      cases e
      exact go_ret rfl rfl
    rw [if_neg hx_11] at e
    by_cases hx_16 : v2 = 2
    · rw [if_pos hx_16] at e
      refine go_tswI (off := 43) (t := 54) rfl (by rw [hx_16]; decide) (by rw [hx_16]; rfl) rfl ?_
      refine go_aload_n rfl rfl ?_
      replace e := ck_as_e e
      obtain ⟨hk_17, e⟩ := e
      replace e := ck_some_e e
      obtain ⟨b18, hq_19, e⟩ := e
      refine go_get (v := .ref b18) rfl rfl hk_17 (by decide) (by show va_rf (gR h3 a0 52) = _; rw [hq_19]; rfl) ?_
      refine go_iload_n rfl rfl ?_
      replace e := ck_as_e e
      obtain ⟨hc_20, e⟩ := e
      refine go_iald rfl hc_20 ?_
      cases e
      exact go_ret rfl rfl
    rw [if_neg hx_16] at e
    by_cases hx_21 : v2 = 3
    · rw [if_pos hx_21] at e
      refine go_tswI (off := 50) (t := 61) rfl (by rw [hx_21]; decide) (by rw [hx_21]; rfl) rfl ?_
      refine go_aload_n rfl rfl ?_
      replace e := ck_as_e e
      obtain ⟨hk_22, e⟩ := e
      replace e := ck_some_e e
      obtain ⟨b23, hq_24, e⟩ := e
      refine go_get (v := .ref b23) rfl rfl hk_22 (by decide) (by show va_rf (gR h3 a0 54) = _; rw [hq_24]; rfl) ?_
      refine go_iload_n rfl rfl ?_
      replace e := ck_as_e e
      obtain ⟨hc_25, e⟩ := e
      refine go_iald rfl hc_25 ?_
      cases e
      exact go_ret rfl rfl
    rw [if_neg hx_21] at e
    have hz_ : (v2 : Int32).toInt < 0 ∨ 3 < (v2 : Int32).toInt := by
      have z0 := lv_neT hx_6 (k := 0) (a := 0) rfl
      have z1 := lv_neT hx_11 (k := 1) (a := 1) rfl
      have z2 := lv_neT hx_16 (k := 2) (a := 2) rfl
      have z3 := lv_neT hx_21 (k := 3) (a := 3) rfl
      omega
    refine go_tswO (m := k_RM_opened) (pc := 11) (t := 68) (d := 57) (offs := #[29, 36, 43, 50]) rfl hz_ rfl ?_
    refine go_iconst (v := (-1)) rfl (by decide) ?_
    cases e
    exact go_ret rfl rfl
