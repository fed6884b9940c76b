def f_RM_init_J413 (F : Nat)  (a0 : Nat) (h : ck_H) : Option (Unit × ck_H) :=
  ck_then (gn h) fun b1 =>
  ck_then (wN h 15 4) fun h2 =>
  ck_as (gk h2 a0 = 12) <|
  ck_then (wR h2 a0 66 (some b1)) fun h6 =>
  ck_then (gn h6) fun b9 =>
  ck_then (wN h6 15 4) fun h10 =>
  ck_as (gk h10 a0 = 12) <|
  ck_then (wR h10 a0 67 (some b9)) fun h14 =>
  ck_then (gn h14) fun b17 =>
  ck_then (wN h14 14 1600) fun h18 =>
  ck_as (gk h18 a0 = 12) <|
  ck_then (wR h18 a0 68 (some b17)) fun h22 =>
  ck_then (gn h22) fun b25 =>
  ck_then (wN h22 14 1600) fun h26 =>
  ck_as (gk h26 a0 = 12) <|
  ck_then (wR h26 a0 69 (some b25)) fun h30 =>
  ck_then (gn h30) fun b33 =>
  ck_then (wN h30 14 1600) fun h34 =>
  ck_as (gk h34 a0 = 12) <|
  ck_then (wR h34 a0 70 (some b33)) fun h38 =>
  ck_then (gn h38) fun b41 =>
  ck_then (wN h38 14 1600) fun h42 =>
  ck_as (gk h42 a0 = 12) <|
  ck_then (wR h42 a0 71 (some b41)) fun h46 =>
  ck_then (gn h46) fun b49 =>
  ck_then (wN h46 14 4) fun h50 =>
  ck_as (gk h50 a0 = 12) <|
  ck_then (wR h50 a0 72 (some b49)) fun h54 =>
  ck_then (gn h54) fun b57 =>
  ck_then (wN h54 13 120000) fun h58 =>
  ck_as (gk h58 a0 = 12) <|
  ck_then (wR h58 a0 75 (some b57)) fun h62 =>
  ck_then (gn h62) fun b65 =>
  ck_then (wN h62 14 4001) fun h66 =>
  ck_as (gk h66 a0 = 12) <|
  ck_then (wR h66 a0 76 (some b65)) fun h70 =>
  ck_then (gn h70) fun b73 =>
  ck_then (wN h70 14 4000) fun h74 =>
  ck_as (gk h74 a0 = 12) <|
  ck_then (wR h74 a0 77 (some b73)) fun h78 =>
  ck_then (gn h78) fun b81 =>
  ck_then (wN h78 15 4000) fun h82 =>
  ck_as (gk h82 a0 = 12) <|
  ck_then (wR h82 a0 78 (some b81)) fun h86 =>
  some ((), h86)
set_option maxRecDepth 100000 in
set_option maxHeartbeats 4000000 in
theorem f_RM_init_J413_s (F : Nat)   (a0 : Nat) (h : ck_H) (r : Unit) (h' : ck_H) (e : f_RM_init_J413 F  a0 h = some (r, h')) : Go k_RM_init 413 [some (.ref a0)] [] h (none, h') := by
  unfold f_RM_init_J413 at e
  refine go_aload_n rfl rfl ?_
  refine go_iconst (v := 4) rfl (by decide) ?_
  refine go_newa (kc := 15) (N := 4) rfl rfl (by decide) (by decide) ?_
  obtain ⟨b1, hg_3⟩ : ∃ z, z = gn h := ⟨_, rfl⟩
  rw [← hg_3] at e ⊢
  replace e := ck_then_e e
  have hk_4 : gk (wN h 15 4) b1 = 15 := by rw [hg_3, ck_gk_wN, if_pos rfl]
  generalize wN h 15 4 = h2 at e hk_4 ⊢
  replace e := ck_then_e e
  replace e := ck_as_e e
  obtain ⟨hk_5, e⟩ := e
  refine go_put (h1 := wR h2 a0 66 (some b1)) rfl rfl hk_5 ⟨by decide, by decide, Or.inr ⟨rfl, rfl⟩⟩ rfl ?_
  have hk_7 : gk (wR h2 a0 66 (some b1)) b1 = 15 := ck_kR.trans hk_4
  have hk_8 : gk (wR h2 a0 66 (some b1)) a0 = 12 := ck_kR.trans hk_5
  generalize wR h2 a0 66 (some b1) = h6 at e hk_7 hk_8 ⊢
  replace e := ck_then_e e
  refine go_aload_n rfl rfl ?_
  refine go_iconst (v := 4) rfl (by decide) ?_
  refine go_newa (kc := 15) (N := 4) rfl rfl (by decide) (by decide) ?_
  obtain ⟨b9, hg_11⟩ : ∃ z, z = gn h6 := ⟨_, rfl⟩
  rw [← hg_11] at e ⊢
  replace e := ck_then_e e
  have hk_12 : gk (wN h6 15 4) b9 = 15 := by rw [hg_11, ck_gk_wN, if_pos rfl]
  generalize wN h6 15 4 = h10 at e hk_12 ⊢
  replace e := ck_then_e e
  replace e := ck_as_e e
  obtain ⟨hk_13, e⟩ := e
  refine go_put (h1 := wR h10 a0 67 (some b9)) rfl rfl hk_13 ⟨by decide, by decide, Or.inr ⟨rfl, rfl⟩⟩ rfl ?_
  have hk_15 : gk (wR h10 a0 67 (some b9)) b9 = 15 := ck_kR.trans hk_12
  have hk_16 : gk (wR h10 a0 67 (some b9)) a0 = 12 := ck_kR.trans hk_13
  generalize wR h10 a0 67 (some b9) = h14 at e hk_15 hk_16 ⊢
  replace e := ck_then_e e
  refine go_aload_n rfl rfl ?_
  refine go_sipush (v := 1600) rfl (by decide) ?_
  refine go_newa (kc := 14) (N := 1600) rfl rfl (by decide) (by decide) ?_
  obtain ⟨b17, hg_19⟩ : ∃ z, z = gn h14 := ⟨_, rfl⟩
  rw [← hg_19] at e ⊢
  replace e := ck_then_e e
  have hk_20 : gk (wN h14 14 1600) b17 = 14 := by rw [hg_19, ck_gk_wN, if_pos rfl]
  generalize wN h14 14 1600 = h18 at e hk_20 ⊢
  replace e := ck_then_e e
  replace e := ck_as_e e
  obtain ⟨hk_21, e⟩ := e
  refine go_put (h1 := wR h18 a0 68 (some b17)) rfl rfl hk_21 ⟨by decide, by decide, Or.inr ⟨rfl, rfl⟩⟩ rfl ?_
  have hk_23 : gk (wR h18 a0 68 (some b17)) b17 = 14 := ck_kR.trans hk_20
  have hk_24 : gk (wR h18 a0 68 (some b17)) a0 = 12 := ck_kR.trans hk_21
  generalize wR h18 a0 68 (some b17) = h22 at e hk_23 hk_24 ⊢
  replace e := ck_then_e e
  refine go_aload_n rfl rfl ?_
  refine go_sipush (v := 1600) rfl (by decide) ?_
  refine go_newa (kc := 14) (N := 1600) rfl rfl (by decide) (by decide) ?_
  obtain ⟨b25, hg_27⟩ : ∃ z, z = gn h22 := ⟨_, rfl⟩
  rw [← hg_27] at e ⊢
  replace e := ck_then_e e
  have hk_28 : gk (wN h22 14 1600) b25 = 14 := by rw [hg_27, ck_gk_wN, if_pos rfl]
  generalize wN h22 14 1600 = h26 at e hk_28 ⊢
  replace e := ck_then_e e
  replace e := ck_as_e e
  obtain ⟨hk_29, e⟩ := e
  refine go_put (h1 := wR h26 a0 69 (some b25)) rfl rfl hk_29 ⟨by decide, by decide, Or.inr ⟨rfl, rfl⟩⟩ rfl ?_
  have hk_31 : gk (wR h26 a0 69 (some b25)) b25 = 14 := ck_kR.trans hk_28
  have hk_32 : gk (wR h26 a0 69 (some b25)) a0 = 12 := ck_kR.trans hk_29
  generalize wR h26 a0 69 (some b25) = h30 at e hk_31 hk_32 ⊢
  replace e := ck_then_e e
  refine go_aload_n rfl rfl ?_
  refine go_sipush (v := 1600) rfl (by decide) ?_
  refine go_newa (kc := 14) (N := 1600) rfl rfl (by decide) (by decide) ?_
  obtain ⟨b33, hg_35⟩ : ∃ z, z = gn h30 := ⟨_, rfl⟩
  rw [← hg_35] at e ⊢
  replace e := ck_then_e e
  have hk_36 : gk (wN h30 14 1600) b33 = 14 := by rw [hg_35, ck_gk_wN, if_pos rfl]
  generalize wN h30 14 1600 = h34 at e hk_36 ⊢
  replace e := ck_then_e e
  replace e := ck_as_e e
  obtain ⟨hk_37, e⟩ := e
  refine go_put (h1 := wR h34 a0 70 (some b33)) rfl rfl hk_37 ⟨by decide, by decide, Or.inr ⟨rfl, rfl⟩⟩ rfl ?_
  have hk_39 : gk (wR h34 a0 70 (some b33)) b33 = 14 := ck_kR.trans hk_36
  have hk_40 : gk (wR h34 a0 70 (some b33)) a0 = 12 := ck_kR.trans hk_37
  generalize wR h34 a0 70 (some b33) = h38 at e hk_39 hk_40 ⊢
  replace e := ck_then_e e
  refine go_aload_n rfl rfl ?_
  refine go_sipush (v := 1600) rfl (by decide) ?_
  refine go_newa (kc := 14) (N := 1600) rfl rfl (by decide) (by decide) ?_
  obtain ⟨b41, hg_43⟩ : ∃ z, z = gn h38 := ⟨_, rfl⟩
  rw [← hg_43] at e ⊢
  replace e := ck_then_e e
  have hk_44 : gk (wN h38 14 1600) b41 = 14 := by rw [hg_43, ck_gk_wN, if_pos rfl]
  generalize wN h38 14 1600 = h42 at e hk_44 ⊢
  replace e := ck_then_e e
  replace e := ck_as_e e
  obtain ⟨hk_45, e⟩ := e
  refine go_put (h1 := wR h42 a0 71 (some b41)) rfl rfl hk_45 ⟨by decide, by decide, Or.inr ⟨rfl, rfl⟩⟩ rfl ?_
  have hk_47 : gk (wR h42 a0 71 (some b41)) b41 = 14 := ck_kR.trans hk_44
  have hk_48 : gk (wR h42 a0 71 (some b41)) a0 = 12 := ck_kR.trans hk_45
  generalize wR h42 a0 71 (some b41) = h46 at e hk_47 hk_48 ⊢
  replace e := ck_then_e e
  refine go_aload_n rfl rfl ?_
  refine go_iconst (v := 4) rfl (by decide) ?_
  refine go_newa (kc := 14) (N := 4) rfl rfl (by decide) (by decide) ?_
  obtain ⟨b49, hg_51⟩ : ∃ z, z = gn h46 := ⟨_, rfl⟩
  rw [← hg_51] at e ⊢
  replace e := ck_then_e e
  have hk_52 : gk (wN h46 14 4) b49 = 14 := by rw [hg_51, ck_gk_wN, if_pos rfl]
  generalize wN h46 14 4 = h50 at e hk_52 ⊢
  replace e := ck_then_e e
  replace e := ck_as_e e
  obtain ⟨hk_53, e⟩ := e
  refine go_put (h1 := wR h50 a0 72 (some b49)) rfl rfl hk_53 ⟨by decide, by decide, Or.inr ⟨rfl, rfl⟩⟩ rfl ?_
  have hk_55 : gk (wR h50 a0 72 (some b49)) b49 = 14 := ck_kR.trans hk_52
  have hk_56 : gk (wR h50 a0 72 (some b49)) a0 = 12 := ck_kR.trans hk_53
  generalize wR h50 a0 72 (some b49) = h54 at e hk_55 hk_56 ⊢
  replace e := ck_then_e e
  refine go_aload_n rfl rfl ?_
  refine go_ldc (v := 120000) rfl rfl ?_
  refine go_newa (kc := 13) (N := 120000) rfl rfl (by decide) (by decide) ?_
  obtain ⟨b57, hg_59⟩ : ∃ z, z = gn h54 := ⟨_, rfl⟩
  rw [← hg_59] at e ⊢
  replace e := ck_then_e e
  have hk_60 : gk (wN h54 13 120000) b57 = 13 := by rw [hg_59, ck_gk_wN, if_pos rfl]
  generalize wN h54 13 120000 = h58 at e hk_60 ⊢
  replace e := ck_then_e e
  replace e := ck_as_e e
  obtain ⟨hk_61, e⟩ := e
  refine go_put (h1 := wR h58 a0 75 (some b57)) rfl rfl hk_61 ⟨by decide, by decide, Or.inr ⟨rfl, rfl⟩⟩ rfl ?_
  have hk_63 : gk (wR h58 a0 75 (some b57)) b57 = 13 := ck_kR.trans hk_60
  have hk_64 : gk (wR h58 a0 75 (some b57)) a0 = 12 := ck_kR.trans hk_61
  generalize wR h58 a0 75 (some b57) = h62 at e hk_63 hk_64 ⊢
  replace e := ck_then_e e
  refine go_aload_n rfl rfl ?_
  refine go_sipush (v := 4001) rfl (by decide) ?_
  refine go_newa (kc := 14) (N := 4001) rfl rfl (by decide) (by decide) ?_
  obtain ⟨b65, hg_67⟩ : ∃ z, z = gn h62 := ⟨_, rfl⟩
  rw [← hg_67] at e ⊢
  replace e := ck_then_e e
  have hk_68 : gk (wN h62 14 4001) b65 = 14 := by rw [hg_67, ck_gk_wN, if_pos rfl]
  generalize wN h62 14 4001 = h66 at e hk_68 ⊢
  replace e := ck_then_e e
  replace e := ck_as_e e
  obtain ⟨hk_69, e⟩ := e
  refine go_put (h1 := wR h66 a0 76 (some b65)) rfl rfl hk_69 ⟨by decide, by decide, Or.inr ⟨rfl, rfl⟩⟩ rfl ?_
  have hk_71 : gk (wR h66 a0 76 (some b65)) b65 = 14 := ck_kR.trans hk_68
  have hk_72 : gk (wR h66 a0 76 (some b65)) a0 = 12 := ck_kR.trans hk_69
  generalize wR h66 a0 76 (some b65) = h70 at e hk_71 hk_72 ⊢
  replace e := ck_then_e e
  refine go_aload_n rfl rfl ?_
  refine go_sipush (v := 4000) rfl (by decide) ?_
  refine go_newa (kc := 14) (N := 4000) rfl rfl (by decide) (by decide) ?_
  obtain ⟨b73, hg_75⟩ : ∃ z, z = gn h70 := ⟨_, rfl⟩
  rw [← hg_75] at e ⊢
  replace e := ck_then_e e
  have hk_76 : gk (wN h70 14 4000) b73 = 14 := by rw [hg_75, ck_gk_wN, if_pos rfl]
  generalize wN h70 14 4000 = h74 at e hk_76 ⊢
  replace e := ck_then_e e
  replace e := ck_as_e e
  obtain ⟨hk_77, e⟩ := e
  refine go_put (h1 := wR h74 a0 77 (some b73)) rfl rfl hk_77 ⟨by decide, by decide, Or.inr ⟨rfl, rfl⟩⟩ rfl ?_
  have hk_79 : gk (wR h74 a0 77 (some b73)) b73 = 14 := ck_kR.trans hk_76
  have hk_80 : gk (wR h74 a0 77 (some b73)) a0 = 12 := ck_kR.trans hk_77
  generalize wR h74 a0 77 (some b73) = h78 at e hk_79 hk_80 ⊢
  replace e := ck_then_e e
  refine go_aload_n rfl rfl ?_
  refine go_sipush (v := 4000) rfl (by decide) ?_
  refine go_newa (kc := 15) (N := 4000) rfl rfl (by decide) (by decide) ?_
  obtain ⟨b81, hg_83⟩ : ∃ z, z = gn h78 := ⟨_, rfl⟩
  rw [← hg_83] at e ⊢
  replace e := ck_then_e e
  have hk_84 : gk (wN h78 15 4000) b81 = 15 := by rw [hg_83, ck_gk_wN, if_pos rfl]
  generalize wN h78 15 4000 = h82 at e hk_84 ⊢
  replace e := ck_then_e e
  replace e := ck_as_e e
  obtain ⟨hk_85, e⟩ := e
  refine go_put (h1 := wR h82 a0 78 (some b81)) rfl rfl hk_85 ⟨by decide, by decide, Or.inr ⟨rfl, rfl⟩⟩ rfl ?_
  have hk_87 : gk (wR h82 a0 78 (some b81)) b81 = 15 := ck_kR.trans hk_84
  have hk_88 : gk (wR h82 a0 78 (some b81)) a0 = 12 := ck_kR.trans hk_85
  generalize wR h82 a0 78 (some b81) = h86 at e hk_87 hk_88 ⊢
  replace e := ck_then_e e
  cases e
  exact go_ret rfl rfl
def f_RM_init_J320 (F : Nat)  (a0 : Nat) (h : ck_H) : Option (Unit × ck_H) :=
  ck_then (gn h) fun b1 =>
  ck_then (wN h 13 4800) fun h2 =>
  ck_as (gk h2 a0 = 12) <|
  ck_then (wR h2 a0 53 (some b1)) fun h6 =>
  ck_then (gn h6) fun b9 =>
  ck_then (wN h6 14 4) fun h10 =>
  ck_as (gk h10 a0 = 12) <|
  ck_then (wR h10 a0 54 (some b9)) fun h14 =>
  ck_then (gn h14) fun b17 =>
  ck_then (wN h14 14 4) fun h18 =>
  ck_as (gk h18 a0 = 12) <|
  ck_then (wR h18 a0 55 (some b17)) fun h22 =>
  ck_then (gn h22) fun b25 =>
  ck_then (wN h22 14 4) fun h26 =>
  ck_as (gk h26 a0 = 12) <|
  ck_then (wR h26 a0 56 (some b25)) fun h30 =>
  ck_then (gn h30) fun b33 =>
  ck_then (wN h30 14 4) fun h34 =>
  ck_as (gk h34 a0 = 12) <|
  ck_then (wR h34 a0 57 (some b33)) fun h38 =>
  ck_then (gn h38) fun b41 =>
  ck_then (wN h38 14 4) fun h42 =>
  ck_as (gk h42 a0 = 12) <|
  ck_then (wR h42 a0 58 (some b41)) fun h46 =>
  ck_then (gn h46) fun b49 =>
  ck_then (wN h46 14 4) fun h50 =>
  ck_as (gk h50 a0 = 12) <|
  ck_then (wR h50 a0 59 (some b49)) fun h54 =>
  ck_then (gn h54) fun b57 =>
  ck_then (wN h54 14 4) fun h58 =>
  ck_as (gk h58 a0 = 12) <|
  ck_then (wR h58 a0 60 (some b57)) fun h62 =>
  ck_then (gn h62) fun b65 =>
  ck_then (wN h62 14 4) fun h66 =>
  ck_as (gk h66 a0 = 12) <|
  ck_then (wR h66 a0 61 (some b65)) fun h70 =>
  ck_then (gn h70) fun b73 =>
  ck_then (wN h70 14 4) fun h74 =>
  ck_as (gk h74 a0 = 12) <|
  ck_then (wR h74 a0 62 (some b73)) fun h78 =>
  ck_then (gn h78) fun b81 =>
  ck_then (wN h78 14 4) fun h82 =>
  ck_as (gk h82 a0 = 12) <|
  ck_then (wR h82 a0 63 (some b81)) fun h86 =>
  ck_then (gn h86) fun b89 =>
  ck_then (wN h86 14 4) fun h90 =>
  ck_as (gk h90 a0 = 12) <|
  ck_then (wR h90 a0 64 (some b89)) fun h94 =>
  ck_then (gn h94) fun b97 =>
  ck_then (wN h94 15 4) fun h98 =>
  ck_as (gk h98 a0 = 12) <|
  ck_then (wR h98 a0 65 (some b97)) fun h102 =>
  f_RM_init_J413 F a0 h102
set_option maxRecDepth 100000 in
set_option maxHeartbeats 4000000 in
theorem f_RM_init_J320_s (F : Nat)   (a0 : Nat) (h : ck_H) (r : Unit) (h' : ck_H) (e : f_RM_init_J320 F  a0 h = some (r, h')) : Go k_RM_init 320 [some (.ref a0)] [] h (none, h') := by
  unfold f_RM_init_J320 at e
  refine go_aload_n rfl rfl ?_
  refine go_sipush (v := 4800) rfl (by decide) ?_
  refine go_newa (kc := 13) (N := 4800) rfl rfl (by decide) (by decide) ?_
  obtain ⟨b1, hg_3⟩ : ∃ z, z = gn h := ⟨_, rfl⟩
  rw [← hg_3] at e ⊢
  replace e := ck_then_e e
  have hk_4 : gk (wN h 13 4800) b1 = 13 := by rw [hg_3, ck_gk_wN, if_pos rfl]
  generalize wN h 13 4800 = h2 at e hk_4 ⊢
  replace e := ck_then_e e
  replace e := ck_as_e e
  obtain ⟨hk_5, e⟩ := e
  refine go_put (h1 := wR h2 a0 53 (some b1)) rfl rfl hk_5 ⟨by decide, by decide, Or.inr ⟨rfl, rfl⟩⟩ rfl ?_
  have hk_7 : gk (wR h2 a0 53 (some b1)) b1 = 13 := ck_kR.trans hk_4
  have hk_8 : gk (wR h2 a0 53 (some b1)) a0 = 12 := ck_kR.trans hk_5
  generalize wR h2 a0 53 (some b1) = h6 at e hk_7 hk_8 ⊢
  replace e := ck_then_e e
  refine go_aload_n rfl rfl ?_
  refine go_iconst (v := 4) rfl (by decide) ?_
  refine go_newa (kc := 14) (N := 4) rfl rfl (by decide) (by decide) ?_
  obtain ⟨b9, hg_11⟩ : ∃ z, z = gn h6 := ⟨_, rfl⟩
  rw [← hg_11] at e ⊢
  replace e := ck_then_e e
  have hk_12 : gk (wN h6 14 4) b9 = 14 := by rw [hg_11, ck_gk_wN, if_pos rfl]
  generalize wN h6 14 4 = h10 at e hk_12 ⊢
  replace e := ck_then_e e
  replace e := ck_as_e e
  obtain ⟨hk_13, e⟩ := e
  refine go_put (h1 := wR h10 a0 54 (some b9)) rfl rfl hk_13 ⟨by decide, by decide, Or.inr ⟨rfl, rfl⟩⟩ rfl ?_
  have hk_15 : gk (wR h10 a0 54 (some b9)) b9 = 14 := ck_kR.trans hk_12
  have hk_16 : gk (wR h10 a0 54 (some b9)) a0 = 12 := ck_kR.trans hk_13
  generalize wR h10 a0 54 (some b9) = h14 at e hk_15 hk_16 ⊢
  replace e := ck_then_e e
  refine go_aload_n rfl rfl ?_
  refine go_iconst (v := 4) rfl (by decide) ?_
  refine go_newa (kc := 14) (N := 4) rfl rfl (by decide) (by decide) ?_
  obtain ⟨b17, hg_19⟩ : ∃ z, z = gn h14 := ⟨_, rfl⟩
  rw [← hg_19] at e ⊢
  replace e := ck_then_e e
  have hk_20 : gk (wN h14 14 4) b17 = 14 := by rw [hg_19, ck_gk_wN, if_pos rfl]
  generalize wN h14 14 4 = h18 at e hk_20 ⊢
  replace e := ck_then_e e
  replace e := ck_as_e e
  obtain ⟨hk_21, e⟩ := e
  refine go_put (h1 := wR h18 a0 55 (some b17)) rfl rfl hk_21 ⟨by decide, by decide, Or.inr ⟨rfl, rfl⟩⟩ rfl ?_
  have hk_23 : gk (wR h18 a0 55 (some b17)) b17 = 14 := ck_kR.trans hk_20
  have hk_24 : gk (wR h18 a0 55 (some b17)) a0 = 12 := ck_kR.trans hk_21
  generalize wR h18 a0 55 (some b17) = h22 at e hk_23 hk_24 ⊢
  replace e := ck_then_e e
  refine go_aload_n rfl rfl ?_
  refine go_iconst (v := 4) rfl (by decide) ?_
  refine go_newa (kc := 14) (N := 4) rfl rfl (by decide) (by decide) ?_
  obtain ⟨b25, hg_27⟩ : ∃ z, z = gn h22 := ⟨_, rfl⟩
  rw [← hg_27] at e ⊢
  replace e := ck_then_e e
  have hk_28 : gk (wN h22 14 4) b25 = 14 := by rw [hg_27, ck_gk_wN, if_pos rfl]
  generalize wN h22 14 4 = h26 at e hk_28 ⊢
  replace e := ck_then_e e
  replace e := ck_as_e e
  obtain ⟨hk_29, e⟩ := e
  refine go_put (h1 := wR h26 a0 56 (some b25)) rfl rfl hk_29 ⟨by decide, by decide, Or.inr ⟨rfl, rfl⟩⟩ rfl ?_
  have hk_31 : gk (wR h26 a0 56 (some b25)) b25 = 14 := ck_kR.trans hk_28
  have hk_32 : gk (wR h26 a0 56 (some b25)) a0 = 12 := ck_kR.trans hk_29
  generalize wR h26 a0 56 (some b25) = h30 at e hk_31 hk_32 ⊢
  replace e := ck_then_e e
  refine go_aload_n rfl rfl ?_
  refine go_iconst (v := 4) rfl (by decide) ?_
  refine go_newa (kc := 14) (N := 4) rfl rfl (by decide) (by decide) ?_
  obtain ⟨b33, hg_35⟩ : ∃ z, z = gn h30 := ⟨_, rfl⟩
  rw [← hg_35] at e ⊢
  replace e := ck_then_e e
  have hk_36 : gk (wN h30 14 4) b33 = 14 := by rw [hg_35, ck_gk_wN, if_pos rfl]
  generalize wN h30 14 4 = h34 at e hk_36 ⊢
  replace e := ck_then_e e
  replace e := ck_as_e e
  obtain ⟨hk_37, e⟩ := e
  refine go_put (h1 := wR h34 a0 57 (some b33)) rfl rfl hk_37 ⟨by decide, by decide, Or.inr ⟨rfl, rfl⟩⟩ rfl ?_
  have hk_39 : gk (wR h34 a0 57 (some b33)) b33 = 14 := ck_kR.trans hk_36
  have hk_40 : gk (wR h34 a0 57 (some b33)) a0 = 12 := ck_kR.trans hk_37
  generalize wR h34 a0 57 (some b33) = h38 at e hk_39 hk_40 ⊢
  replace e := ck_then_e e
  refine go_aload_n rfl rfl ?_
  refine go_iconst (v := 4) rfl (by decide) ?_
  refine go_newa (kc := 14) (N := 4) rfl rfl (by decide) (by decide) ?_
  obtain ⟨b41, hg_43⟩ : ∃ z, z = gn h38 := ⟨_, rfl⟩
  rw [← hg_43] at e ⊢
  replace e := ck_then_e e
  have hk_44 : gk (wN h38 14 4) b41 = 14 := by rw [hg_43, ck_gk_wN, if_pos rfl]
  generalize wN h38 14 4 = h42 at e hk_44 ⊢
  replace e := ck_then_e e
  replace e := ck_as_e e
  obtain ⟨hk_45, e⟩ := e
  refine go_put (h1 := wR h42 a0 58 (some b41)) rfl rfl hk_45 ⟨by decide, by decide, Or.inr ⟨rfl, rfl⟩⟩ rfl ?_
  have hk_47 : gk (wR h42 a0 58 (some b41)) b41 = 14 := ck_kR.trans hk_44
  have hk_48 : gk (wR h42 a0 58 (some b41)) a0 = 12 := ck_kR.trans hk_45
  generalize wR h42 a0 58 (some b41) = h46 at e hk_47 hk_48 ⊢
  replace e := ck_then_e e
  refine go_aload_n rfl rfl ?_
  refine go_iconst (v := 4) rfl (by decide) ?_
  refine go_newa (kc := 14) (N := 4) rfl rfl (by decide) (by decide) ?_
  obtain ⟨b49, hg_51⟩ : ∃ z, z = gn h46 := ⟨_, rfl⟩
  rw [← hg_51] at e ⊢
  replace e := ck_then_e e
  have hk_52 : gk (wN h46 14 4) b49 = 14 := by rw [hg_51, ck_gk_wN, if_pos rfl]
  generalize wN h46 14 4 = h50 at e hk_52 ⊢
  replace e := ck_then_e e
  replace e := ck_as_e e
  obtain ⟨hk_53, e⟩ := e
  refine go_put (h1 := wR h50 a0 59 (some b49)) rfl rfl hk_53 ⟨by decide, by decide, Or.inr ⟨rfl, rfl⟩⟩ rfl ?_
  have hk_55 : gk (wR h50 a0 59 (some b49)) b49 = 14 := ck_kR.trans hk_52
  have hk_56 : gk (wR h50 a0 59 (some b49)) a0 = 12 := ck_kR.trans hk_53
  generalize wR h50 a0 59 (some b49) = h54 at e hk_55 hk_56 ⊢
  replace e := ck_then_e e
  refine go_aload_n rfl rfl ?_
  refine go_iconst (v := 4) rfl (by decide) ?_
  refine go_newa (kc := 14) (N := 4) rfl rfl (by decide) (by decide) ?_
  obtain ⟨b57, hg_59⟩ : ∃ z, z = gn h54 := ⟨_, rfl⟩
  rw [← hg_59] at e ⊢
  replace e := ck_then_e e
  have hk_60 : gk (wN h54 14 4) b57 = 14 := by rw [hg_59, ck_gk_wN, if_pos rfl]
  generalize wN h54 14 4 = h58 at e hk_60 ⊢
  replace e := ck_then_e e
  replace e := ck_as_e e
  obtain ⟨hk_61, e⟩ := e
  refine go_put (h1 := wR h58 a0 60 (some b57)) rfl rfl hk_61 ⟨by decide, by decide, Or.inr ⟨rfl, rfl⟩⟩ rfl ?_
  have hk_63 : gk (wR h58 a0 60 (some b57)) b57 = 14 := ck_kR.trans hk_60
  have hk_64 : gk (wR h58 a0 60 (some b57)) a0 = 12 := ck_kR.trans hk_61
  generalize wR h58 a0 60 (some b57) = h62 at e hk_63 hk_64 ⊢
  replace e := ck_then_e e
  refine go_aload_n rfl rfl ?_
  refine go_iconst (v := 4) rfl (by decide) ?_
  refine go_newa (kc := 14) (N := 4) rfl rfl (by decide) (by decide) ?_
  obtain ⟨b65, hg_67⟩ : ∃ z, z = gn h62 := ⟨_, rfl⟩
  rw [← hg_67] at e ⊢
  replace e := ck_then_e e
  have hk_68 : gk (wN h62 14 4) b65 = 14 := by rw [hg_67, ck_gk_wN, if_pos rfl]
  generalize wN h62 14 4 = h66 at e hk_68 ⊢
  replace e := ck_then_e e
  replace e := ck_as_e e
  obtain ⟨hk_69, e⟩ := e
  refine go_put (h1 := wR h66 a0 61 (some b65)) rfl rfl hk_69 ⟨by decide, by decide, Or.inr ⟨rfl, rfl⟩⟩ rfl ?_
  have hk_71 : gk (wR h66 a0 61 (some b65)) b65 = 14 := ck_kR.trans hk_68
  have hk_72 : gk (wR h66 a0 61 (some b65)) a0 = 12 := ck_kR.trans hk_69
  generalize wR h66 a0 61 (some b65) = h70 at e hk_71 hk_72 ⊢
  replace e := ck_then_e e
  refine go_aload_n rfl rfl ?_
  refine go_iconst (v := 4) rfl (by decide) ?_
  refine go_newa (kc := 14) (N := 4) rfl rfl (by decide) (by decide) ?_
  obtain ⟨b73, hg_75⟩ : ∃ z, z = gn h70 := ⟨_, rfl⟩
  rw [← hg_75] at e ⊢
  replace e := ck_then_e e
  have hk_76 : gk (wN h70 14 4) b73 = 14 := by rw [hg_75, ck_gk_wN, if_pos rfl]
  generalize wN h70 14 4 = h74 at e hk_76 ⊢
  replace e := ck_then_e e
  replace e := ck_as_e e
  obtain ⟨hk_77, e⟩ := e
  refine go_put (h1 := wR h74 a0 62 (some b73)) rfl rfl hk_77 ⟨by decide, by decide, Or.inr ⟨rfl, rfl⟩⟩ rfl ?_
  have hk_79 : gk (wR h74 a0 62 (some b73)) b73 = 14 := ck_kR.trans hk_76
  have hk_80 : gk (wR h74 a0 62 (some b73)) a0 = 12 := ck_kR.trans hk_77
  generalize wR h74 a0 62 (some b73) = h78 at e hk_79 hk_80 ⊢
  replace e := ck_then_e e
  refine go_aload_n rfl rfl ?_
  refine go_iconst (v := 4) rfl (by decide) ?_
  refine go_newa (kc := 14) (N := 4) rfl rfl (by decide) (by decide) ?_
  obtain ⟨b81, hg_83⟩ : ∃ z, z = gn h78 := ⟨_, rfl⟩
  rw [← hg_83] at e ⊢
  replace e := ck_then_e e
  have hk_84 : gk (wN h78 14 4) b81 = 14 := by rw [hg_83, ck_gk_wN, if_pos rfl]
  generalize wN h78 14 4 = h82 at e hk_84 ⊢
  replace e := ck_then_e e
  replace e := ck_as_e e
  obtain ⟨hk_85, e⟩ := e
  refine go_put (h1 := wR h82 a0 63 (some b81)) rfl rfl hk_85 ⟨by decide, by decide, Or.inr ⟨rfl, rfl⟩⟩ rfl ?_
  have hk_87 : gk (wR h82 a0 63 (some b81)) b81 = 14 := ck_kR.trans hk_84
  have hk_88 : gk (wR h82 a0 63 (some b81)) a0 = 12 := ck_kR.trans hk_85
  generalize wR h82 a0 63 (some b81) = h86 at e hk_87 hk_88 ⊢
  replace e := ck_then_e e
  refine go_aload_n rfl rfl ?_
  refine go_iconst (v := 4) rfl (by decide) ?_
  refine go_newa (kc := 14) (N := 4) rfl rfl (by decide) (by decide) ?_
  obtain ⟨b89, hg_91⟩ : ∃ z, z = gn h86 := ⟨_, rfl⟩
  rw [← hg_91] at e ⊢
  replace e := ck_then_e e
  have hk_92 : gk (wN h86 14 4) b89 = 14 := by rw [hg_91, ck_gk_wN, if_pos rfl]
  generalize wN h86 14 4 = h90 at e hk_92 ⊢
  replace e := ck_then_e e
  replace e := ck_as_e e
  obtain ⟨hk_93, e⟩ := e
  refine go_put (h1 := wR h90 a0 64 (some b89)) rfl rfl hk_93 ⟨by decide, by decide, Or.inr ⟨rfl, rfl⟩⟩ rfl ?_
  have hk_95 : gk (wR h90 a0 64 (some b89)) b89 = 14 := ck_kR.trans hk_92
  have hk_96 : gk (wR h90 a0 64 (some b89)) a0 = 12 := ck_kR.trans hk_93
  generalize wR h90 a0 64 (some b89) = h94 at e hk_95 hk_96 ⊢
  replace e := ck_then_e e
  refine go_aload_n rfl rfl ?_
  refine go_iconst (v := 4) rfl (by decide) ?_
  refine go_newa (kc := 15) (N := 4) rfl rfl (by decide) (by decide) ?_
  obtain ⟨b97, hg_99⟩ : ∃ z, z = gn h94 := ⟨_, rfl⟩
  rw [← hg_99] at e ⊢
  replace e := ck_then_e e
  have hk_100 : gk (wN h94 15 4) b97 = 15 := by rw [hg_99, ck_gk_wN, if_pos rfl]
  generalize wN h94 15 4 = h98 at e hk_100 ⊢
  replace e := ck_then_e e
  replace e := ck_as_e e
  obtain ⟨hk_101, e⟩ := e
  refine go_put (h1 := wR h98 a0 65 (some b97)) rfl rfl hk_101 ⟨by decide, by decide, Or.inr ⟨rfl, rfl⟩⟩ rfl ?_
  have hk_103 : gk (wR h98 a0 65 (some b97)) b97 = 15 := ck_kR.trans hk_100
  have hk_104 : gk (wR h98 a0 65 (some b97)) a0 = 12 := ck_kR.trans hk_101
  generalize wR h98 a0 65 (some b97) = h102 at e hk_103 hk_104 ⊢
  replace e := ck_then_e e
  refine go_forget (l := [some (.ref a0)]) ⟨Or.inl rfl, trivial⟩ ?_
  exact f_RM_init_J413_s F a0 _ _ _ e
def f_RM_init_J218 (F : Nat)  (a0 : Nat) (h : ck_H) : Option (Unit × ck_H) :=
  ck_then (gn h) fun b1 =>
  ck_then (wN h 14 40) fun h2 =>
  ck_as (gk h2 a0 = 12) <|
  ck_then (wR h2 a0 39 (some b1)) fun h6 =>
  ck_then (gn h6) fun b9 =>
  ck_then (wN h6 14 40) fun h10 =>
  ck_as (gk h10 a0 = 12) <|
  ck_then (wR h10 a0 40 (some b9)) fun h14 =>
  ck_then (gn h14) fun b17 =>
  ck_then (wN h14 13 3200) fun h18 =>
  ck_as (gk h18 a0 = 12) <|
  ck_then (wR h18 a0 41 (some b17)) fun h22 =>
  ck_then (gn h22) fun b25 =>
  ck_then (wN h22 14 400) fun h26 =>
  ck_as (gk h26 a0 = 12) <|
  ck_then (wR h26 a0 42 (some b25)) fun h30 =>
  ck_then (gn h30) fun b33 =>
  ck_then (wN h30 14 400) fun h34 =>
  ck_as (gk h34 a0 = 12) <|
  ck_then (wR h34 a0 43 (some b33)) fun h38 =>
  ck_then (gn h38) fun b41 =>
  ck_then (wN h38 14 400) fun h42 =>
  ck_as (gk h42 a0 = 12) <|
  ck_then (wR h42 a0 44 (some b41)) fun h46 =>
  ck_then (gn h46) fun b49 =>
  ck_then (wN h46 14 10) fun h50 =>
  ck_as (gk h50 a0 = 12) <|
  ck_then (wR h50 a0 45 (some b49)) fun h54 =>
  ck_then (gn h54) fun b57 =>
  ck_then (wN h54 14 5) fun h58 =>
  ck_as (gk h58 a0 = 12) <|
  ck_then (wR h58 a0 46 (some b57)) fun h62 =>
  ck_then (gn h62) fun b65 =>
  ck_then (wN h62 14 5) fun h66 =>
  ck_as (gk h66 a0 = 12) <|
  ck_then (wR h66 a0 47 (some b65)) fun h70 =>
  ck_then (gn h70) fun b73 =>
  ck_then (wN h70 15 4) fun h74 =>
  ck_as (gk h74 a0 = 12) <|
  ck_then (wR h74 a0 49 (some b73)) fun h78 =>
  ck_then (gn h78) fun b81 =>
  ck_then (wN h78 14 4) fun h82 =>
  ck_as (gk h82 a0 = 12) <|
  ck_then (wR h82 a0 50 (some b81)) fun h86 =>
  ck_then (gn h86) fun b89 =>
  ck_then (wN h86 14 4) fun h90 =>
  ck_as (gk h90 a0 = 12) <|
  ck_then (wR h90 a0 51 (some b89)) fun h94 =>
  ck_then (gn h94) fun b97 =>
  ck_then (wN h94 14 4) fun h98 =>
  ck_as (gk h98 a0 = 12) <|
  ck_then (wR h98 a0 52 (some b97)) fun h102 =>
  f_RM_init_J320 F a0 h102
set_option maxRecDepth 100000 in
set_option maxHeartbeats 4000000 in
theorem f_RM_init_J218_s (F : Nat)   (a0 : Nat) (h : ck_H) (r : Unit) (h' : ck_H) (e : f_RM_init_J218 F  a0 h = some (r, h')) : Go k_RM_init 218 [some (.ref a0)] [] h (none, h') := by
  unfold f_RM_init_J218 at e
  refine go_aload_n rfl rfl ?_
  refine go_bipush (v := 40) rfl (by decide) ?_
  refine go_newa (kc := 14) (N := 40) rfl rfl (by decide) (by decide) ?_
  obtain ⟨b1, hg_3⟩ : ∃ z, z = gn h := ⟨_, rfl⟩
  rw [← hg_3] at e ⊢
  replace e := ck_then_e e
  have hk_4 : gk (wN h 14 40) b1 = 14 := by rw [hg_3, ck_gk_wN, if_pos rfl]
  generalize wN h 14 40 = h2 at e hk_4 ⊢
  replace e := ck_then_e e
  replace e := ck_as_e e
  obtain ⟨hk_5, e⟩ := e
  refine go_put (h1 := wR h2 a0 39 (some b1)) rfl rfl hk_5 ⟨by decide, by decide, Or.inr ⟨rfl, rfl⟩⟩ rfl ?_
  have hk_7 : gk (wR h2 a0 39 (some b1)) b1 = 14 := ck_kR.trans hk_4
  have hk_8 : gk (wR h2 a0 39 (some b1)) a0 = 12 := ck_kR.trans hk_5
  generalize wR h2 a0 39 (some b1) = h6 at e hk_7 hk_8 ⊢
  replace e := ck_then_e e
  refine go_aload_n rfl rfl ?_
  refine go_bipush (v := 40) rfl (by decide) ?_
  refine go_newa (kc := 14) (N := 40) rfl rfl (by decide) (by decide) ?_
  obtain ⟨b9, hg_11⟩ : ∃ z, z = gn h6 := ⟨_, rfl⟩
  rw [← hg_11] at e ⊢
  replace e := ck_then_e e
  have hk_12 : gk (wN h6 14 40) b9 = 14 := by rw [hg_11, ck_gk_wN, if_pos rfl]
  generalize wN h6 14 40 = h10 at e hk_12 ⊢
  replace e := ck_then_e e
  replace e := ck_as_e e
  obtain ⟨hk_13, e⟩ := e
  refine go_put (h1 := wR h10 a0 40 (some b9)) rfl rfl hk_13 ⟨by decide, by decide, Or.inr ⟨rfl, rfl⟩⟩ rfl ?_
  have hk_15 : gk (wR h10 a0 40 (some b9)) b9 = 14 := ck_kR.trans hk_12
  have hk_16 : gk (wR h10 a0 40 (some b9)) a0 = 12 := ck_kR.trans hk_13
  generalize wR h10 a0 40 (some b9) = h14 at e hk_15 hk_16 ⊢
  replace e := ck_then_e e
  refine go_aload_n rfl rfl ?_
  refine go_sipush (v := 3200) rfl (by decide) ?_
  refine go_newa (kc := 13) (N := 3200) rfl rfl (by decide) (by decide) ?_
  obtain ⟨b17, hg_19⟩ : ∃ z, z = gn h14 := ⟨_, rfl⟩
  rw [← hg_19] at e ⊢
  replace e := ck_then_e e
  have hk_20 : gk (wN h14 13 3200) b17 = 13 := by rw [hg_19, ck_gk_wN, if_pos rfl]
  generalize wN h14 13 3200 = h18 at e hk_20 ⊢
  replace e := ck_then_e e
  replace e := ck_as_e e
  obtain ⟨hk_21, e⟩ := e
  refine go_put (h1 := wR h18 a0 41 (some b17)) rfl rfl hk_21 ⟨by decide, by decide, Or.inr ⟨rfl, rfl⟩⟩ rfl ?_
  have hk_23 : gk (wR h18 a0 41 (some b17)) b17 = 13 := ck_kR.trans hk_20
  have hk_24 : gk (wR h18 a0 41 (some b17)) a0 = 12 := ck_kR.trans hk_21
  generalize wR h18 a0 41 (some b17) = h22 at e hk_23 hk_24 ⊢
  replace e := ck_then_e e
  refine go_aload_n rfl rfl ?_
  refine go_sipush (v := 400) rfl (by decide) ?_
  refine go_newa (kc := 14) (N := 400) rfl rfl (by decide) (by decide) ?_
  obtain ⟨b25, hg_27⟩ : ∃ z, z = gn h22 := ⟨_, rfl⟩
  rw [← hg_27] at e ⊢
  replace e := ck_then_e e
  have hk_28 : gk (wN h22 14 400) b25 = 14 := by rw [hg_27, ck_gk_wN, if_pos rfl]
  generalize wN h22 14 400 = h26 at e hk_28 ⊢
  replace e := ck_then_e e
  replace e := ck_as_e e
  obtain ⟨hk_29, e⟩ := e
  refine go_put (h1 := wR h26 a0 42 (some b25)) rfl rfl hk_29 ⟨by decide, by decide, Or.inr ⟨rfl, rfl⟩⟩ rfl ?_
  have hk_31 : gk (wR h26 a0 42 (some b25)) b25 = 14 := ck_kR.trans hk_28
  have hk_32 : gk (wR h26 a0 42 (some b25)) a0 = 12 := ck_kR.trans hk_29
  generalize wR h26 a0 42 (some b25) = h30 at e hk_31 hk_32 ⊢
  replace e := ck_then_e e
  refine go_aload_n rfl rfl ?_
  refine go_sipush (v := 400) rfl (by decide) ?_
  refine go_newa (kc := 14) (N := 400) rfl rfl (by decide) (by decide) ?_
  obtain ⟨b33, hg_35⟩ : ∃ z, z = gn h30 := ⟨_, rfl⟩
  rw [← hg_35] at e ⊢
  replace e := ck_then_e e
  have hk_36 : gk (wN h30 14 400) b33 = 14 := by rw [hg_35, ck_gk_wN, if_pos rfl]
  generalize wN h30 14 400 = h34 at e hk_36 ⊢
  replace e := ck_then_e e
  replace e := ck_as_e e
  obtain ⟨hk_37, e⟩ := e
  refine go_put (h1 := wR h34 a0 43 (some b33)) rfl rfl hk_37 ⟨by decide, by decide, Or.inr ⟨rfl, rfl⟩⟩ rfl ?_
  have hk_39 : gk (wR h34 a0 43 (some b33)) b33 = 14 := ck_kR.trans hk_36
  have hk_40 : gk (wR h34 a0 43 (some b33)) a0 = 12 := ck_kR.trans hk_37
  generalize wR h34 a0 43 (some b33) = h38 at e hk_39 hk_40 ⊢
  replace e := ck_then_e e
  refine go_aload_n rfl rfl ?_
  refine go_sipush (v := 400) rfl (by decide) ?_
  refine go_newa (kc := 14) (N := 400) rfl rfl (by decide) (by decide) ?_
  obtain ⟨b41, hg_43⟩ : ∃ z, z = gn h38 := ⟨_, rfl⟩
  rw [← hg_43] at e ⊢
  replace e := ck_then_e e
  have hk_44 : gk (wN h38 14 400) b41 = 14 := by rw [hg_43, ck_gk_wN, if_pos rfl]
  generalize wN h38 14 400 = h42 at e hk_44 ⊢
  replace e := ck_then_e e
  replace e := ck_as_e e
  obtain ⟨hk_45, e⟩ := e
  refine go_put (h1 := wR h42 a0 44 (some b41)) rfl rfl hk_45 ⟨by decide, by decide, Or.inr ⟨rfl, rfl⟩⟩ rfl ?_
  have hk_47 : gk (wR h42 a0 44 (some b41)) b41 = 14 := ck_kR.trans hk_44
  have hk_48 : gk (wR h42 a0 44 (some b41)) a0 = 12 := ck_kR.trans hk_45
  generalize wR h42 a0 44 (some b41) = h46 at e hk_47 hk_48 ⊢
  replace e := ck_then_e e
  refine go_aload_n rfl rfl ?_
  refine go_bipush (v := 10) rfl (by decide) ?_
  refine go_newa (kc := 14) (N := 10) rfl rfl (by decide) (by decide) ?_
  obtain ⟨b49, hg_51⟩ : ∃ z, z = gn h46 := ⟨_, rfl⟩
  rw [← hg_51] at e ⊢
  replace e := ck_then_e e
  have hk_52 : gk (wN h46 14 10) b49 = 14 := by rw [hg_51, ck_gk_wN, if_pos rfl]
  generalize wN h46 14 10 = h50 at e hk_52 ⊢
  replace e := ck_then_e e
  replace e := ck_as_e e
  obtain ⟨hk_53, e⟩ := e
  refine go_put (h1 := wR h50 a0 45 (some b49)) rfl rfl hk_53 ⟨by decide, by decide, Or.inr ⟨rfl, rfl⟩⟩ rfl ?_
  have hk_55 : gk (wR h50 a0 45 (some b49)) b49 = 14 := ck_kR.trans hk_52
  have hk_56 : gk (wR h50 a0 45 (some b49)) a0 = 12 := ck_kR.trans hk_53
  generalize wR h50 a0 45 (some b49) = h54 at e hk_55 hk_56 ⊢
  replace e := ck_then_e e
  refine go_aload_n rfl rfl ?_
  refine go_iconst (v := 5) rfl (by decide) ?_
  refine go_newa (kc := 14) (N := 5) rfl rfl (by decide) (by decide) ?_
  obtain ⟨b57, hg_59⟩ : ∃ z, z = gn h54 := ⟨_, rfl⟩
  rw [← hg_59] at e ⊢
  replace e := ck_then_e e
  have hk_60 : gk (wN h54 14 5) b57 = 14 := by rw [hg_59, ck_gk_wN, if_pos rfl]
  generalize wN h54 14 5 = h58 at e hk_60 ⊢
  replace e := ck_then_e e
  replace e := ck_as_e e
  obtain ⟨hk_61, e⟩ := e
  refine go_put (h1 := wR h58 a0 46 (some b57)) rfl rfl hk_61 ⟨by decide, by decide, Or.inr ⟨rfl, rfl⟩⟩ rfl ?_
  have hk_63 : gk (wR h58 a0 46 (some b57)) b57 = 14 := ck_kR.trans hk_60
  have hk_64 : gk (wR h58 a0 46 (some b57)) a0 = 12 := ck_kR.trans hk_61
  generalize wR h58 a0 46 (some b57) = h62 at e hk_63 hk_64 ⊢
  replace e := ck_then_e e
  refine go_aload_n rfl rfl ?_
  refine go_iconst (v := 5) rfl (by decide) ?_
  refine go_newa (kc := 14) (N := 5) rfl rfl (by decide) (by decide) ?_
  obtain ⟨b65, hg_67⟩ : ∃ z, z = gn h62 := ⟨_, rfl⟩
  rw [← hg_67] at e ⊢
  replace e := ck_then_e e
  have hk_68 : gk (wN h62 14 5) b65 = 14 := by rw [hg_67, ck_gk_wN, if_pos rfl]
  generalize wN h62 14 5 = h66 at e hk_68 ⊢
  replace e := ck_then_e e
  replace e := ck_as_e e
  obtain ⟨hk_69, e⟩ := e
  refine go_put (h1 := wR h66 a0 47 (some b65)) rfl rfl hk_69 ⟨by decide, by decide, Or.inr ⟨rfl, rfl⟩⟩ rfl ?_
  have hk_71 : gk (wR h66 a0 47 (some b65)) b65 = 14 := ck_kR.trans hk_68
  have hk_72 : gk (wR h66 a0 47 (some b65)) a0 = 12 := ck_kR.trans hk_69
  generalize wR h66 a0 47 (some b65) = h70 at e hk_71 hk_72 ⊢
  replace e := ck_then_e e
  refine go_aload_n rfl rfl ?_
  refine go_iconst (v := 4) rfl (by decide) ?_
  refine go_newa (kc := 15) (N := 4) rfl rfl (by decide) (by decide) ?_
  obtain ⟨b73, hg_75⟩ : ∃ z, z = gn h70 := ⟨_, rfl⟩
  rw [← hg_75] at e ⊢
  replace e := ck_then_e e
  have hk_76 : gk (wN h70 15 4) b73 = 15 := by rw [hg_75, ck_gk_wN, if_pos rfl]
  generalize wN h70 15 4 = h74 at e hk_76 ⊢
  replace e := ck_then_e e
  replace e := ck_as_e e
  obtain ⟨hk_77, e⟩ := e
  refine go_put (h1 := wR h74 a0 49 (some b73)) rfl rfl hk_77 ⟨by decide, by decide, Or.inr ⟨rfl, rfl⟩⟩ rfl ?_
  have hk_79 : gk (wR h74 a0 49 (some b73)) b73 = 15 := ck_kR.trans hk_76
  have hk_80 : gk (wR h74 a0 49 (some b73)) a0 = 12 := ck_kR.trans hk_77
  generalize wR h74 a0 49 (some b73) = h78 at e hk_79 hk_80 ⊢
  replace e := ck_then_e e
  refine go_aload_n rfl rfl ?_
  refine go_iconst (v := 4) rfl (by decide) ?_
  refine go_newa (kc := 14) (N := 4) rfl rfl (by decide) (by decide) ?_
  obtain ⟨b81, hg_83⟩ : ∃ z, z = gn h78 := ⟨_, rfl⟩
  rw [← hg_83] at e ⊢
  replace e := ck_then_e e
  have hk_84 : gk (wN h78 14 4) b81 = 14 := by rw [hg_83, ck_gk_wN, if_pos rfl]
  generalize wN h78 14 4 = h82 at e hk_84 ⊢
  replace e := ck_then_e e
  replace e := ck_as_e e
  obtain ⟨hk_85, e⟩ := e
  refine go_put (h1 := wR h82 a0 50 (some b81)) rfl rfl hk_85 ⟨by decide, by decide, Or.inr ⟨rfl, rfl⟩⟩ rfl ?_
  have hk_87 : gk (wR h82 a0 50 (some b81)) b81 = 14 := ck_kR.trans hk_84
  have hk_88 : gk (wR h82 a0 50 (some b81)) a0 = 12 := ck_kR.trans hk_85
  generalize wR h82 a0 50 (some b81) = h86 at e hk_87 hk_88 ⊢
  replace e := ck_then_e e
  refine go_aload_n rfl rfl ?_
  refine go_iconst (v := 4) rfl (by decide) ?_
  refine go_newa (kc := 14) (N := 4) rfl rfl (by decide) (by decide) ?_
  obtain ⟨b89, hg_91⟩ : ∃ z, z = gn h86 := ⟨_, rfl⟩
  rw [← hg_91] at e ⊢
  replace e := ck_then_e e
  have hk_92 : gk (wN h86 14 4) b89 = 14 := by rw [hg_91, ck_gk_wN, if_pos rfl]
  generalize wN h86 14 4 = h90 at e hk_92 ⊢
  replace e := ck_then_e e
  replace e := ck_as_e e
  obtain ⟨hk_93, e⟩ := e
  refine go_put (h1 := wR h90 a0 51 (some b89)) rfl rfl hk_93 ⟨by decide, by decide, Or.inr ⟨rfl, rfl⟩⟩ rfl ?_
  have hk_95 : gk (wR h90 a0 51 (some b89)) b89 = 14 := ck_kR.trans hk_92
  have hk_96 : gk (wR h90 a0 51 (some b89)) a0 = 12 := ck_kR.trans hk_93
  generalize wR h90 a0 51 (some b89) = h94 at e hk_95 hk_96 ⊢
  replace e := ck_then_e e
  refine go_aload_n rfl rfl ?_
  refine go_iconst (v := 4) rfl (by decide) ?_
  refine go_newa (kc := 14) (N := 4) rfl rfl (by decide) (by decide) ?_
  obtain ⟨b97, hg_99⟩ : ∃ z, z = gn h94 := ⟨_, rfl⟩
  rw [← hg_99] at e ⊢
  replace e := ck_then_e e
  have hk_100 : gk (wN h94 14 4) b97 = 14 := by rw [hg_99, ck_gk_wN, if_pos rfl]
  generalize wN h94 14 4 = h98 at e hk_100 ⊢
  replace e := ck_then_e e
  replace e := ck_as_e e
  obtain ⟨hk_101, e⟩ := e
  refine go_put (h1 := wR h98 a0 52 (some b97)) rfl rfl hk_101 ⟨by decide, by decide, Or.inr ⟨rfl, rfl⟩⟩ rfl ?_
  have hk_103 : gk (wR h98 a0 52 (some b97)) b97 = 14 := ck_kR.trans hk_100
  have hk_104 : gk (wR h98 a0 52 (some b97)) a0 = 12 := ck_kR.trans hk_101
  generalize wR h98 a0 52 (some b97) = h102 at e hk_103 hk_104 ⊢
  replace e := ck_then_e e
  refine go_forget (l := [some (.ref a0)]) ⟨Or.inl rfl, trivial⟩ ?_
  exact f_RM_init_J320_s F a0 _ _ _ e
def f_RM_init_J119 (F : Nat)  (a0 : Nat) (h : ck_H) : Option (Unit × ck_H) :=
  ck_then (gn h) fun b1 =>
  ck_then (wN h 14 32) fun h2 =>
  ck_as (gk h2 a0 = 12) <|
  ck_then (wR h2 a0 16 (some b1)) fun h6 =>
  ck_then (gn h6) fun b9 =>
  ck_then (wN h6 14 32) fun h10 =>
  ck_as (gk h10 a0 = 12) <|
  ck_then (wR h10 a0 17 (some b9)) fun h14 =>
  ck_then (gn h14) fun b17 =>
  ck_then (wN h14 14 32) fun h18 =>
  ck_as (gk h18 a0 = 12) <|
  ck_then (wR h18 a0 18 (some b17)) fun h22 =>
  ck_then (gn h22) fun b25 =>
  ck_then (wN h22 14 2) fun h26 =>
  ck_as (gk h26 a0 = 12) <|
  ck_then (wR h26 a0 19 (some b25)) fun h30 =>
  ck_then (gn h30) fun b33 =>
  ck_then (wN h30 14 2) fun h34 =>
  ck_as (gk h34 a0 = 12) <|
  ck_then (wR h34 a0 20 (some b33)) fun h38 =>
  ck_then (wI h38 a0 24 (-1)) fun h41 =>
  ck_then (gn h41) fun b44 =>
  ck_then (wN h41 15 10) fun h45 =>
  ck_as (gk h45 a0 = 12) <|
  ck_then (wR h45 a0 32 (some b44)) fun h49 =>
  ck_then (gn h49) fun b52 =>
  ck_then (wN h49 13 80) fun h53 =>
  ck_as (gk h53 a0 = 12) <|
  ck_then (wR h53 a0 33 (some b52)) fun h57 =>
  ck_then (gn h57) fun b60 =>
  ck_then (wN h57 13 8) fun h61 =>
  ck_as (gk h61 a0 = 12) <|
  ck_then (wR h61 a0 34 (some b60)) fun h65 =>
  ck_then (gn h65) fun b68 =>
  ck_then (wN h65 14 10) fun h69 =>
  ck_as (gk h69 a0 = 12) <|
  ck_then (wR h69 a0 35 (some b68)) fun h73 =>
  ck_then (gn h73) fun b76 =>
  ck_then (wN h73 14 10) fun h77 =>
  ck_as (gk h77 a0 = 12) <|
  ck_then (wR h77 a0 36 (some b76)) fun h81 =>
  ck_then (gn h81) fun b84 =>
  ck_then (wN h81 14 10) fun h85 =>
  ck_as (gk h85 a0 = 12) <|
  ck_then (wR h85 a0 37 (some b84)) fun h89 =>
  ck_then (gn h89) fun b92 =>
  ck_then (wN h89 14 10) fun h93 =>
  ck_as (gk h93 a0 = 12) <|
  ck_then (wR h93 a0 38 (some b92)) fun h97 =>
  f_RM_init_J218 F a0 h97
set_option maxRecDepth 100000 in
set_option maxHeartbeats 4000000 in
theorem f_RM_init_J119_s (F : Nat)   (a0 : Nat) (h : ck_H) (r : Unit) (h' : ck_H) (e : f_RM_init_J119 F  a0 h = some (r, h')) : Go k_RM_init 119 [some (.ref a0)] [] h (none, h') := by
  unfold f_RM_init_J119 at e
  refine go_aload_n rfl rfl ?_
  refine go_bipush (v := 32) rfl (by decide) ?_
  refine go_newa (kc := 14) (N := 32) rfl rfl (by decide) (by decide) ?_
  obtain ⟨b1, hg_3⟩ : ∃ z, z = gn h := ⟨_, rfl⟩
  rw [← hg_3] at e ⊢
  replace e := ck_then_e e
  have hk_4 : gk (wN h 14 32) b1 = 14 := by rw [hg_3, ck_gk_wN, if_pos rfl]
  generalize wN h 14 32 = h2 at e hk_4 ⊢
  replace e := ck_then_e e
  replace e := ck_as_e e
  obtain ⟨hk_5, e⟩ := e
  refine go_put (h1 := wR h2 a0 16 (some b1)) rfl rfl hk_5 ⟨by decide, by decide, Or.inr ⟨rfl, rfl⟩⟩ rfl ?_
  have hk_7 : gk (wR h2 a0 16 (some b1)) b1 = 14 := ck_kR.trans hk_4
  have hk_8 : gk (wR h2 a0 16 (some b1)) a0 = 12 := ck_kR.trans hk_5
  generalize wR h2 a0 16 (some b1) = h6 at e hk_7 hk_8 ⊢
  replace e := ck_then_e e
  refine go_aload_n rfl rfl ?_
  refine go_bipush (v := 32) rfl (by decide) ?_
  refine go_newa (kc := 14) (N := 32) rfl rfl (by decide) (by decide) ?_
  obtain ⟨b9, hg_11⟩ : ∃ z, z = gn h6 := ⟨_, rfl⟩
  rw [← hg_11] at e ⊢
  replace e := ck_then_e e
  have hk_12 : gk (wN h6 14 32) b9 = 14 := by rw [hg_11, ck_gk_wN, if_pos rfl]
  generalize wN h6 14 32 = h10 at e hk_12 ⊢
  replace e := ck_then_e e
  replace e := ck_as_e e
  obtain ⟨hk_13, e⟩ := e
  refine go_put (h1 := wR h10 a0 17 (some b9)) rfl rfl hk_13 ⟨by decide, by decide, Or.inr ⟨rfl, rfl⟩⟩ rfl ?_
  have hk_15 : gk (wR h10 a0 17 (some b9)) b9 = 14 := ck_kR.trans hk_12
  have hk_16 : gk (wR h10 a0 17 (some b9)) a0 = 12 := ck_kR.trans hk_13
  generalize wR h10 a0 17 (some b9) = h14 at e hk_15 hk_16 ⊢
  replace e := ck_then_e e
  refine go_aload_n rfl rfl ?_
  refine go_bipush (v := 32) rfl (by decide) ?_
  refine go_newa (kc := 14) (N := 32) rfl rfl (by decide) (by decide) ?_
  obtain ⟨b17, hg_19⟩ : ∃ z, z = gn h14 := ⟨_, rfl⟩
  rw [← hg_19] at e ⊢
  replace e := ck_then_e e
  have hk_20 : gk (wN h14 14 32) b17 = 14 := by rw [hg_19, ck_gk_wN, if_pos rfl]
  generalize wN h14 14 32 = h18 at e hk_20 ⊢
  replace e := ck_then_e e
  replace e := ck_as_e e
  obtain ⟨hk_21, e⟩ := e
  refine go_put (h1 := wR h18 a0 18 (some b17)) rfl rfl hk_21 ⟨by decide, by decide, Or.inr ⟨rfl, rfl⟩⟩ rfl ?_
  have hk_23 : gk (wR h18 a0 18 (some b17)) b17 = 14 := ck_kR.trans hk_20
  have hk_24 : gk (wR h18 a0 18 (some b17)) a0 = 12 := ck_kR.trans hk_21
  generalize wR h18 a0 18 (some b17) = h22 at e hk_23 hk_24 ⊢
  replace e := ck_then_e e
  refine go_aload_n rfl rfl ?_
  refine go_iconst (v := 2) rfl (by decide) ?_
  refine go_newa (kc := 14) (N := 2) rfl rfl (by decide) (by decide) ?_
  obtain ⟨b25, hg_27⟩ : ∃ z, z = gn h22 := ⟨_, rfl⟩
  rw [← hg_27] at e ⊢
  replace e := ck_then_e e
  have hk_28 : gk (wN h22 14 2) b25 = 14 := by rw [hg_27, ck_gk_wN, if_pos rfl]
  generalize wN h22 14 2 = h26 at e hk_28 ⊢
  replace e := ck_then_e e
  replace e := ck_as_e e
  obtain ⟨hk_29, e⟩ := e
  refine go_put (h1 := wR h26 a0 19 (some b25)) rfl rfl hk_29 ⟨by decide, by decide, Or.inr ⟨rfl, rfl⟩⟩ rfl ?_
  have hk_31 : gk (wR h26 a0 19 (some b25)) b25 = 14 := ck_kR.trans hk_28
  have hk_32 : gk (wR h26 a0 19 (some b25)) a0 = 12 := ck_kR.trans hk_29
  generalize wR h26 a0 19 (some b25) = h30 at e hk_31 hk_32 ⊢
  replace e := ck_then_e e
  refine go_aload_n rfl rfl ?_
  refine go_iconst (v := 2) rfl (by decide) ?_
  refine go_newa (kc := 14) (N := 2) rfl rfl (by decide) (by decide) ?_
  obtain ⟨b33, hg_35⟩ : ∃ z, z = gn h30 := ⟨_, rfl⟩
  rw [← hg_35] at e ⊢
  replace e := ck_then_e e
  have hk_36 : gk (wN h30 14 2) b33 = 14 := by rw [hg_35, ck_gk_wN, if_pos rfl]
  generalize wN h30 14 2 = h34 at e hk_36 ⊢
  replace e := ck_then_e e
  replace e := ck_as_e e
  obtain ⟨hk_37, e⟩ := e
  refine go_put (h1 := wR h34 a0 20 (some b33)) rfl rfl hk_37 ⟨by decide, by decide, Or.inr ⟨rfl, rfl⟩⟩ rfl ?_
  have hk_39 : gk (wR h34 a0 20 (some b33)) b33 = 14 := ck_kR.trans hk_36
  have hk_40 : gk (wR h34 a0 20 (some b33)) a0 = 12 := ck_kR.trans hk_37
  generalize wR h34 a0 20 (some b33) = h38 at e hk_39 hk_40 ⊢
  replace e := ck_then_e e
  refine go_aload_n rfl rfl ?_
  refine go_iconst (v := (-1)) rfl (by decide) ?_
  refine go_put (h1 := wI h38 a0 24 (-1)) rfl rfl hk_40 ⟨by decide, by decide, Or.inl rfl⟩ rfl ?_
  have hk_42 : gk (wI h38 a0 24 (-1)) b33 = 14 := ck_kI.trans hk_39
  have hk_43 : gk (wI h38 a0 24 (-1)) a0 = 12 := ck_kI.trans hk_40
  generalize wI h38 a0 24 (-1) = h41 at e hk_42 hk_43 ⊢
  replace e := ck_then_e e
  refine go_aload_n rfl rfl ?_
  refine go_bipush (v := 10) rfl (by decide) ?_
  refine go_newa (kc := 15) (N := 10) rfl rfl (by decide) (by decide) ?_
  obtain ⟨b44, hg_46⟩ : ∃ z, z = gn h41 := ⟨_, rfl⟩
  rw [← hg_46] at e ⊢
  replace e := ck_then_e e
  have hk_47 : gk (wN h41 15 10) b44 = 15 := by rw [hg_46, ck_gk_wN, if_pos rfl]
  generalize wN h41 15 10 = h45 at e hk_47 ⊢
  replace e := ck_then_e e
  replace e := ck_as_e e
  obtain ⟨hk_48, e⟩ := e
  refine go_put (h1 := wR h45 a0 32 (some b44)) rfl rfl hk_48 ⟨by decide, by decide, Or.inr ⟨rfl, rfl⟩⟩ rfl ?_
  have hk_50 : gk (wR h45 a0 32 (some b44)) b44 = 15 := ck_kR.trans hk_47
  have hk_51 : gk (wR h45 a0 32 (some b44)) a0 = 12 := ck_kR.trans hk_48
  generalize wR h45 a0 32 (some b44) = h49 at e hk_50 hk_51 ⊢
  replace e := ck_then_e e
  refine go_aload_n rfl rfl ?_
  refine go_bipush (v := 80) rfl (by decide) ?_
  refine go_newa (kc := 13) (N := 80) rfl rfl (by decide) (by decide) ?_
  obtain ⟨b52, hg_54⟩ : ∃ z, z = gn h49 := ⟨_, rfl⟩
  rw [← hg_54] at e ⊢
  replace e := ck_then_e e
  have hk_55 : gk (wN h49 13 80) b52 = 13 := by rw [hg_54, ck_gk_wN, if_pos rfl]
  generalize wN h49 13 80 = h53 at e hk_55 ⊢
  replace e := ck_then_e e
  replace e := ck_as_e e
  obtain ⟨hk_56, e⟩ := e
  refine go_put (h1 := wR h53 a0 33 (some b52)) rfl rfl hk_56 ⟨by decide, by decide, Or.inr ⟨rfl, rfl⟩⟩ rfl ?_
  have hk_58 : gk (wR h53 a0 33 (some b52)) b52 = 13 := ck_kR.trans hk_55
  have hk_59 : gk (wR h53 a0 33 (some b52)) a0 = 12 := ck_kR.trans hk_56
  generalize wR h53 a0 33 (some b52) = h57 at e hk_58 hk_59 ⊢
  replace e := ck_then_e e
  refine go_aload_n rfl rfl ?_
  refine go_bipush (v := 8) rfl (by decide) ?_
  refine go_newa (kc := 13) (N := 8) rfl rfl (by decide) (by decide) ?_
  obtain ⟨b60, hg_62⟩ : ∃ z, z = gn h57 := ⟨_, rfl⟩
  rw [← hg_62] at e ⊢
  replace e := ck_then_e e
  have hk_63 : gk (wN h57 13 8) b60 = 13 := by rw [hg_62, ck_gk_wN, if_pos rfl]
  generalize wN h57 13 8 = h61 at e hk_63 ⊢
  replace e := ck_then_e e
  replace e := ck_as_e e
  obtain ⟨hk_64, e⟩ := e
  refine go_put (h1 := wR h61 a0 34 (some b60)) rfl rfl hk_64 ⟨by decide, by decide, Or.inr ⟨rfl, rfl⟩⟩ rfl ?_
  have hk_66 : gk (wR h61 a0 34 (some b60)) b60 = 13 := ck_kR.trans hk_63
  have hk_67 : gk (wR h61 a0 34 (some b60)) a0 = 12 := ck_kR.trans hk_64
  generalize wR h61 a0 34 (some b60) = h65 at e hk_66 hk_67 ⊢
  replace e := ck_then_e e
  refine go_aload_n rfl rfl ?_
  refine go_bipush (v := 10) rfl (by decide) ?_
  refine go_newa (kc := 14) (N := 10) rfl rfl (by decide) (by decide) ?_
  obtain ⟨b68, hg_70⟩ : ∃ z, z = gn h65 := ⟨_, rfl⟩
  rw [← hg_70] at e ⊢
  replace e := ck_then_e e
  have hk_71 : gk (wN h65 14 10) b68 = 14 := by rw [hg_70, ck_gk_wN, if_pos rfl]
  generalize wN h65 14 10 = h69 at e hk_71 ⊢
  replace e := ck_then_e e
  replace e := ck_as_e e
  obtain ⟨hk_72, e⟩ := e
  refine go_put (h1 := wR h69 a0 35 (some b68)) rfl rfl hk_72 ⟨by decide, by decide, Or.inr ⟨rfl, rfl⟩⟩ rfl ?_
  have hk_74 : gk (wR h69 a0 35 (some b68)) b68 = 14 := ck_kR.trans hk_71
  have hk_75 : gk (wR h69 a0 35 (some b68)) a0 = 12 := ck_kR.trans hk_72
  generalize wR h69 a0 35 (some b68) = h73 at e hk_74 hk_75 ⊢
  replace e := ck_then_e e
  refine go_aload_n rfl rfl ?_
  refine go_bipush (v := 10) rfl (by decide) ?_
  refine go_newa (kc := 14) (N := 10) rfl rfl (by decide) (by decide) ?_
  obtain ⟨b76, hg_78⟩ : ∃ z, z = gn h73 := ⟨_, rfl⟩
  rw [← hg_78] at e ⊢
  replace e := ck_then_e e
  have hk_79 : gk (wN h73 14 10) b76 = 14 := by rw [hg_78, ck_gk_wN, if_pos rfl]
  generalize wN h73 14 10 = h77 at e hk_79 ⊢
  replace e := ck_then_e e
  replace e := ck_as_e e
  obtain ⟨hk_80, e⟩ := e
  refine go_put (h1 := wR h77 a0 36 (some b76)) rfl rfl hk_80 ⟨by decide, by decide, Or.inr ⟨rfl, rfl⟩⟩ rfl ?_
  have hk_82 : gk (wR h77 a0 36 (some b76)) b76 = 14 := ck_kR.trans hk_79
  have hk_83 : gk (wR h77 a0 36 (some b76)) a0 = 12 := ck_kR.trans hk_80
  generalize wR h77 a0 36 (some b76) = h81 at e hk_82 hk_83 ⊢
  replace e := ck_then_e e
  refine go_aload_n rfl rfl ?_
  refine go_bipush (v := 10) rfl (by decide) ?_
  refine go_newa (kc := 14) (N := 10) rfl rfl (by decide) (by decide) ?_
  obtain ⟨b84, hg_86⟩ : ∃ z, z = gn h81 := ⟨_, rfl⟩
  rw [← hg_86] at e ⊢
  replace e := ck_then_e e
  have hk_87 : gk (wN h81 14 10) b84 = 14 := by rw [hg_86, ck_gk_wN, if_pos rfl]
  generalize wN h81 14 10 = h85 at e hk_87 ⊢
  replace e := ck_then_e e
  replace e := ck_as_e e
  obtain ⟨hk_88, e⟩ := e
  refine go_put (h1 := wR h85 a0 37 (some b84)) rfl rfl hk_88 ⟨by decide, by decide, Or.inr ⟨rfl, rfl⟩⟩ rfl ?_
  have hk_90 : gk (wR h85 a0 37 (some b84)) b84 = 14 := ck_kR.trans hk_87
  have hk_91 : gk (wR h85 a0 37 (some b84)) a0 = 12 := ck_kR.trans hk_88
  generalize wR h85 a0 37 (some b84) = h89 at e hk_90 hk_91 ⊢
  replace e := ck_then_e e
  refine go_aload_n rfl rfl ?_
  refine go_bipush (v := 10) rfl (by decide) ?_
  refine go_newa (kc := 14) (N := 10) rfl rfl (by decide) (by decide) ?_
  obtain ⟨b92, hg_94⟩ : ∃ z, z = gn h89 := ⟨_, rfl⟩
  rw [← hg_94] at e ⊢
  replace e := ck_then_e e
  have hk_95 : gk (wN h89 14 10) b92 = 14 := by rw [hg_94, ck_gk_wN, if_pos rfl]
  generalize wN h89 14 10 = h93 at e hk_95 ⊢
  replace e := ck_then_e e
  replace e := ck_as_e e
  obtain ⟨hk_96, e⟩ := e
  refine go_put (h1 := wR h93 a0 38 (some b92)) rfl rfl hk_96 ⟨by decide, by decide, Or.inr ⟨rfl, rfl⟩⟩ rfl ?_
  have hk_98 : gk (wR h93 a0 38 (some b92)) b92 = 14 := ck_kR.trans hk_95
  have hk_99 : gk (wR h93 a0 38 (some b92)) a0 = 12 := ck_kR.trans hk_96
  generalize wR h93 a0 38 (some b92) = h97 at e hk_98 hk_99 ⊢
  replace e := ck_then_e e
  refine go_forget (l := [some (.ref a0)]) ⟨Or.inl rfl, trivial⟩ ?_
  exact f_RM_init_J218_s F a0 _ _ _ e
def f_RM_init (F : Nat) (a0 : Nat) (h : ck_H) : Option (Unit × ck_H) :=
  ck_then (gn h) fun b1 =>
  ck_then (wN h 13 240000) fun h2 =>
  ck_as (gk h2 a0 = 12) <|
  ck_then (wR h2 a0 0 (some b1)) fun h6 =>
  ck_then (gn h6) fun b9 =>
  ck_then (wN h6 14 160) fun h10 =>
  ck_as (gk h10 a0 = 12) <|
  ck_then (wR h10 a0 1 (some b9)) fun h14 =>
  ck_then (gn h14) fun b17 =>
  ck_then (wN h14 14 8000) fun h18 =>
  ck_as (gk h18 a0 = 12) <|
  ck_then (wR h18 a0 2 (some b17)) fun h22 =>
  ck_then (gn h22) fun b25 =>
  ck_then (wN h22 14 8000) fun h26 =>
  ck_as (gk h26 a0 = 12) <|
  ck_then (wR h26 a0 3 (some b25)) fun h30 =>
  ck_then (gn h30) fun b33 =>
  ck_then (wN h30 14 8000) fun h34 =>
  ck_as (gk h34 a0 = 12) <|
  ck_then (wR h34 a0 4 (some b33)) fun h38 =>
  ck_then (gn h38) fun b41 =>
  ck_then (wN h38 14 8000) fun h42 =>
  ck_as (gk h42 a0 = 12) <|
  ck_then (wR h42 a0 5 (some b41)) fun h46 =>
  ck_then (gn h46) fun b49 =>
  ck_then (wN h46 14 8000) fun h50 =>
  ck_as (gk h50 a0 = 12) <|
  ck_then (wR h50 a0 6 (some b49)) fun h54 =>
  ck_then (gn h54) fun b57 =>
  ck_then (wN h54 14 8000) fun h58 =>
  ck_as (gk h58 a0 = 12) <|
  ck_then (wR h58 a0 7 (some b57)) fun h62 =>
  ck_then (gn h62) fun b65 =>
  ck_then (wN h62 15 8000) fun h66 =>
  ck_as (gk h66 a0 = 12) <|
  ck_then (wR h66 a0 8 (some b65)) fun h70 =>
  ck_then (gn h70) fun b73 =>
  ck_then (wN h70 13 1200) fun h74 =>
  ck_as (gk h74 a0 = 12) <|
  ck_then (wR h74 a0 9 (some b73)) fun h78 =>
  ck_then (gn h78) fun b81 =>
  ck_then (wN h78 13 1200) fun h82 =>
  ck_as (gk h82 a0 = 12) <|
  ck_then (wR h82 a0 10 (some b81)) fun h86 =>
  ck_then (gn h86) fun b89 =>
  ck_then (wN h86 13 2048) fun h90 =>
  ck_as (gk h90 a0 = 12) <|
  ck_then (wR h90 a0 14 (some b89)) fun h94 =>
  ck_then (gn h94) fun b97 =>
  ck_then (wN h94 14 32) fun h98 =>
  ck_as (gk h98 a0 = 12) <|
  ck_then (wR h98 a0 15 (some b97)) fun h102 =>
  f_RM_init_J119 F a0 h102
set_option maxRecDepth 100000 in
set_option maxHeartbeats 4000000 in
theorem s_RM_init {F : Nat} {a0 : Nat} {h h' : ck_H} {r : Unit} (e : f_RM_init F a0 h = some (r, h')) : Go k_RM_init 0 (ck_in [.ref a0] 1) [] h (none, h') := by
  unfold f_RM_init at e
  show Go k_RM_init 0 [some (.ref a0)] [] h _
  refine go_aload_n rfl rfl ?_
  refine go_obj rfl rfl ⟨Nat.le_of_ble_eq_true rfl, Nat.le_of_ble_eq_true rfl⟩ ?_
  refine go_aload_n rfl rfl ?_
  refine go_ldc (v := 240000) rfl rfl ?_
  refine go_newa (kc := 13) (N := 240000) rfl rfl (by decide) (by decide) ?_
  obtain ⟨b1, hg_3⟩ : ∃ z, z = gn h := ⟨_, rfl⟩
  rw [← hg_3] at e ⊢
  replace e := ck_then_e e
  have hk_4 : gk (wN h 13 240000) b1 = 13 := by rw [hg_3, ck_gk_wN, if_pos rfl]
  generalize wN h 13 240000 = h2 at e hk_4 ⊢
  replace e := ck_then_e e
  replace e := ck_as_e e
  obtain ⟨hk_5, e⟩ := e
  refine go_put (h1 := wR h2 a0 0 (some b1)) rfl rfl hk_5 ⟨by decide, by decide, Or.inr ⟨rfl, rfl⟩⟩ rfl ?_
  have hk_7 : gk (wR h2 a0 0 (some b1)) b1 = 13 := ck_kR.trans hk_4
  have hk_8 : gk (wR h2 a0 0 (some b1)) a0 = 12 := ck_kR.trans hk_5
  generalize wR h2 a0 0 (some b1) = h6 at e hk_7 hk_8 ⊢
  replace e := ck_then_e e
  refine go_aload_n rfl rfl ?_
  refine go_sipush (v := 160) rfl (by decide) ?_
  refine go_newa (kc := 14) (N := 160) rfl rfl (by decide) (by decide) ?_
  obtain ⟨b9, hg_11⟩ : ∃ z, z = gn h6 := ⟨_, rfl⟩
  rw [← hg_11] at e ⊢
  replace e := ck_then_e e
  have hk_12 : gk (wN h6 14 160) b9 = 14 := by rw [hg_11, ck_gk_wN, if_pos rfl]
  generalize wN h6 14 160 = h10 at e hk_12 ⊢
  replace e := ck_then_e e
  replace e := ck_as_e e
  obtain ⟨hk_13, e⟩ := e
  refine go_put (h1 := wR h10 a0 1 (some b9)) rfl rfl hk_13 ⟨by decide, by decide, Or.inr ⟨rfl, rfl⟩⟩ rfl ?_
  have hk_15 : gk (wR h10 a0 1 (some b9)) b9 = 14 := ck_kR.trans hk_12
  have hk_16 : gk (wR h10 a0 1 (some b9)) a0 = 12 := ck_kR.trans hk_13
  generalize wR h10 a0 1 (some b9) = h14 at e hk_15 hk_16 ⊢
  replace e := ck_then_e e
  refine go_aload_n rfl rfl ?_
  refine go_sipush (v := 8000) rfl (by decide) ?_
  refine go_newa (kc := 14) (N := 8000) rfl rfl (by decide) (by decide) ?_
  obtain ⟨b17, hg_19⟩ : ∃ z, z = gn h14 := ⟨_, rfl⟩
  rw [← hg_19] at e ⊢
  replace e := ck_then_e e
  have hk_20 : gk (wN h14 14 8000) b17 = 14 := by rw [hg_19, ck_gk_wN, if_pos rfl]
  generalize wN h14 14 8000 = h18 at e hk_20 ⊢
  replace e := ck_then_e e
  replace e := ck_as_e e
  obtain ⟨hk_21, e⟩ := e
  refine go_put (h1 := wR h18 a0 2 (some b17)) rfl rfl hk_21 ⟨by decide, by decide, Or.inr ⟨rfl, rfl⟩⟩ rfl ?_
  have hk_23 : gk (wR h18 a0 2 (some b17)) b17 = 14 := ck_kR.trans hk_20
  have hk_24 : gk (wR h18 a0 2 (some b17)) a0 = 12 := ck_kR.trans hk_21
  generalize wR h18 a0 2 (some b17) = h22 at e hk_23 hk_24 ⊢
  replace e := ck_then_e e
  refine go_aload_n rfl rfl ?_
  refine go_sipush (v := 8000) rfl (by decide) ?_
  refine go_newa (kc := 14) (N := 8000) rfl rfl (by decide) (by decide) ?_
  obtain ⟨b25, hg_27⟩ : ∃ z, z = gn h22 := ⟨_, rfl⟩
  rw [← hg_27] at e ⊢
  replace e := ck_then_e e
  have hk_28 : gk (wN h22 14 8000) b25 = 14 := by rw [hg_27, ck_gk_wN, if_pos rfl]
  generalize wN h22 14 8000 = h26 at e hk_28 ⊢
  replace e := ck_then_e e
  replace e := ck_as_e e
  obtain ⟨hk_29, e⟩ := e
  refine go_put (h1 := wR h26 a0 3 (some b25)) rfl rfl hk_29 ⟨by decide, by decide, Or.inr ⟨rfl, rfl⟩⟩ rfl ?_
  have hk_31 : gk (wR h26 a0 3 (some b25)) b25 = 14 := ck_kR.trans hk_28
  have hk_32 : gk (wR h26 a0 3 (some b25)) a0 = 12 := ck_kR.trans hk_29
  generalize wR h26 a0 3 (some b25) = h30 at e hk_31 hk_32 ⊢
  replace e := ck_then_e e
  refine go_aload_n rfl rfl ?_
  refine go_sipush (v := 8000) rfl (by decide) ?_
  refine go_newa (kc := 14) (N := 8000) rfl rfl (by decide) (by decide) ?_
  obtain ⟨b33, hg_35⟩ : ∃ z, z = gn h30 := ⟨_, rfl⟩
  rw [← hg_35] at e ⊢
  replace e := ck_then_e e
  have hk_36 : gk (wN h30 14 8000) b33 = 14 := by rw [hg_35, ck_gk_wN, if_pos rfl]
  generalize wN h30 14 8000 = h34 at e hk_36 ⊢
  replace e := ck_then_e e
  replace e := ck_as_e e
  obtain ⟨hk_37, e⟩ := e
  refine go_put (h1 := wR h34 a0 4 (some b33)) rfl rfl hk_37 ⟨by decide, by decide, Or.inr ⟨rfl, rfl⟩⟩ rfl ?_
  have hk_39 : gk (wR h34 a0 4 (some b33)) b33 = 14 := ck_kR.trans hk_36
  have hk_40 : gk (wR h34 a0 4 (some b33)) a0 = 12 := ck_kR.trans hk_37
  generalize wR h34 a0 4 (some b33) = h38 at e hk_39 hk_40 ⊢
  replace e := ck_then_e e
  refine go_aload_n rfl rfl ?_
  refine go_sipush (v := 8000) rfl (by decide) ?_
  refine go_newa (kc := 14) (N := 8000) rfl rfl (by decide) (by decide) ?_
  obtain ⟨b41, hg_43⟩ : ∃ z, z = gn h38 := ⟨_, rfl⟩
  rw [← hg_43] at e ⊢
  replace e := ck_then_e e
  have hk_44 : gk (wN h38 14 8000) b41 = 14 := by rw [hg_43, ck_gk_wN, if_pos rfl]
  generalize wN h38 14 8000 = h42 at e hk_44 ⊢
  replace e := ck_then_e e
  replace e := ck_as_e e
  obtain ⟨hk_45, e⟩ := e
  refine go_put (h1 := wR h42 a0 5 (some b41)) rfl rfl hk_45 ⟨by decide, by decide, Or.inr ⟨rfl, rfl⟩⟩ rfl ?_
  have hk_47 : gk (wR h42 a0 5 (some b41)) b41 = 14 := ck_kR.trans hk_44
  have hk_48 : gk (wR h42 a0 5 (some b41)) a0 = 12 := ck_kR.trans hk_45
  generalize wR h42 a0 5 (some b41) = h46 at e hk_47 hk_48 ⊢
  replace e := ck_then_e e
  refine go_aload_n rfl rfl ?_
  refine go_sipush (v := 8000) rfl (by decide) ?_
  refine go_newa (kc := 14) (N := 8000) rfl rfl (by decide) (by decide) ?_
  obtain ⟨b49, hg_51⟩ : ∃ z, z = gn h46 := ⟨_, rfl⟩
  rw [← hg_51] at e ⊢
  replace e := ck_then_e e
  have hk_52 : gk (wN h46 14 8000) b49 = 14 := by rw [hg_51, ck_gk_wN, if_pos rfl]
  generalize wN h46 14 8000 = h50 at e hk_52 ⊢
  replace e := ck_then_e e
  replace e := ck_as_e e
  obtain ⟨hk_53, e⟩ := e
  refine go_put (h1 := wR h50 a0 6 (some b49)) rfl rfl hk_53 ⟨by decide, by decide, Or.inr ⟨rfl, rfl⟩⟩ rfl ?_
  have hk_55 : gk (wR h50 a0 6 (some b49)) b49 = 14 := ck_kR.trans hk_52
  have hk_56 : gk (wR h50 a0 6 (some b49)) a0 = 12 := ck_kR.trans hk_53
  generalize wR h50 a0 6 (some b49) = h54 at e hk_55 hk_56 ⊢
  replace e := ck_then_e e
  refine go_aload_n rfl rfl ?_
  refine go_sipush (v := 8000) rfl (by decide) ?_
  refine go_newa (kc := 14) (N := 8000) rfl rfl (by decide) (by decide) ?_
  obtain ⟨b57, hg_59⟩ : ∃ z, z = gn h54 := ⟨_, rfl⟩
  rw [← hg_59] at e ⊢
  replace e := ck_then_e e
  have hk_60 : gk (wN h54 14 8000) b57 = 14 := by rw [hg_59, ck_gk_wN, if_pos rfl]
  generalize wN h54 14 8000 = h58 at e hk_60 ⊢
  replace e := ck_then_e e
  replace e := ck_as_e e
  obtain ⟨hk_61, e⟩ := e
  refine go_put (h1 := wR h58 a0 7 (some b57)) rfl rfl hk_61 ⟨by decide, by decide, Or.inr ⟨rfl, rfl⟩⟩ rfl ?_
  have hk_63 : gk (wR h58 a0 7 (some b57)) b57 = 14 := ck_kR.trans hk_60
  have hk_64 : gk (wR h58 a0 7 (some b57)) a0 = 12 := ck_kR.trans hk_61
  generalize wR h58 a0 7 (some b57) = h62 at e hk_63 hk_64 ⊢
  replace e := ck_then_e e
  refine go_aload_n rfl rfl ?_
  refine go_sipush (v := 8000) rfl (by decide) ?_
  refine go_newa (kc := 15) (N := 8000) rfl rfl (by decide) (by decide) ?_
  obtain ⟨b65, hg_67⟩ : ∃ z, z = gn h62 := ⟨_, rfl⟩
  rw [← hg_67] at e ⊢
  replace e := ck_then_e e
  have hk_68 : gk (wN h62 15 8000) b65 = 15 := by rw [hg_67, ck_gk_wN, if_pos rfl]
  generalize wN h62 15 8000 = h66 at e hk_68 ⊢
  replace e := ck_then_e e
  replace e := ck_as_e e
  obtain ⟨hk_69, e⟩ := e
  refine go_put (h1 := wR h66 a0 8 (some b65)) rfl rfl hk_69 ⟨by decide, by decide, Or.inr ⟨rfl, rfl⟩⟩ rfl ?_
  have hk_71 : gk (wR h66 a0 8 (some b65)) b65 = 15 := ck_kR.trans hk_68
  have hk_72 : gk (wR h66 a0 8 (some b65)) a0 = 12 := ck_kR.trans hk_69
  generalize wR h66 a0 8 (some b65) = h70 at e hk_71 hk_72 ⊢
  replace e := ck_then_e e
  refine go_aload_n rfl rfl ?_
  refine go_sipush (v := 1200) rfl (by decide) ?_
  refine go_newa (kc := 13) (N := 1200) rfl rfl (by decide) (by decide) ?_
  obtain ⟨b73, hg_75⟩ : ∃ z, z = gn h70 := ⟨_, rfl⟩
  rw [← hg_75] at e ⊢
  replace e := ck_then_e e
  have hk_76 : gk (wN h70 13 1200) b73 = 13 := by rw [hg_75, ck_gk_wN, if_pos rfl]
  generalize wN h70 13 1200 = h74 at e hk_76 ⊢
  replace e := ck_then_e e
  replace e := ck_as_e e
  obtain ⟨hk_77, e⟩ := e
  refine go_put (h1 := wR h74 a0 9 (some b73)) rfl rfl hk_77 ⟨by decide, by decide, Or.inr ⟨rfl, rfl⟩⟩ rfl ?_
  have hk_79 : gk (wR h74 a0 9 (some b73)) b73 = 13 := ck_kR.trans hk_76
  have hk_80 : gk (wR h74 a0 9 (some b73)) a0 = 12 := ck_kR.trans hk_77
  generalize wR h74 a0 9 (some b73) = h78 at e hk_79 hk_80 ⊢
  replace e := ck_then_e e
  refine go_aload_n rfl rfl ?_
  refine go_sipush (v := 1200) rfl (by decide) ?_
  refine go_newa (kc := 13) (N := 1200) rfl rfl (by decide) (by decide) ?_
  obtain ⟨b81, hg_83⟩ : ∃ z, z = gn h78 := ⟨_, rfl⟩
  rw [← hg_83] at e ⊢
  replace e := ck_then_e e
  have hk_84 : gk (wN h78 13 1200) b81 = 13 := by rw [hg_83, ck_gk_wN, if_pos rfl]
  generalize wN h78 13 1200 = h82 at e hk_84 ⊢
  replace e := ck_then_e e
  replace e := ck_as_e e
  obtain ⟨hk_85, e⟩ := e
  refine go_put (h1 := wR h82 a0 10 (some b81)) rfl rfl hk_85 ⟨by decide, by decide, Or.inr ⟨rfl, rfl⟩⟩ rfl ?_
  have hk_87 : gk (wR h82 a0 10 (some b81)) b81 = 13 := ck_kR.trans hk_84
  have hk_88 : gk (wR h82 a0 10 (some b81)) a0 = 12 := ck_kR.trans hk_85
  generalize wR h82 a0 10 (some b81) = h86 at e hk_87 hk_88 ⊢
  replace e := ck_then_e e
  refine go_aload_n rfl rfl ?_
  refine go_sipush (v := 2048) rfl (by decide) ?_
  refine go_newa (kc := 13) (N := 2048) rfl rfl (by decide) (by decide) ?_
  obtain ⟨b89, hg_91⟩ : ∃ z, z = gn h86 := ⟨_, rfl⟩
  rw [← hg_91] at e ⊢
  replace e := ck_then_e e
  have hk_92 : gk (wN h86 13 2048) b89 = 13 := by rw [hg_91, ck_gk_wN, if_pos rfl]
  generalize wN h86 13 2048 = h90 at e hk_92 ⊢
  replace e := ck_then_e e
  replace e := ck_as_e e
  obtain ⟨hk_93, e⟩ := e
  refine go_put (h1 := wR h90 a0 14 (some b89)) rfl rfl hk_93 ⟨by decide, by decide, Or.inr ⟨rfl, rfl⟩⟩ rfl ?_
  have hk_95 : gk (wR h90 a0 14 (some b89)) b89 = 13 := ck_kR.trans hk_92
  have hk_96 : gk (wR h90 a0 14 (some b89)) a0 = 12 := ck_kR.trans hk_93
  generalize wR h90 a0 14 (some b89) = h94 at e hk_95 hk_96 ⊢
  replace e := ck_then_e e
  refine go_aload_n rfl rfl ?_
  refine go_bipush (v := 32) rfl (by decide) ?_
  refine go_newa (kc := 14) (N := 32) rfl rfl (by decide) (by decide) ?_
  obtain ⟨b97, hg_99⟩ : ∃ z, z = gn h94 := ⟨_, rfl⟩
  rw [← hg_99] at e ⊢
  replace e := ck_then_e e
  have hk_100 : gk (wN h94 14 32) b97 = 14 := by rw [hg_99, ck_gk_wN, if_pos rfl]
  generalize wN h94 14 32 = h98 at e hk_100 ⊢
  replace e := ck_then_e e
  replace e := ck_as_e e
  obtain ⟨hk_101, e⟩ := e
  refine go_put (h1 := wR h98 a0 15 (some b97)) rfl rfl hk_101 ⟨by decide, by decide, Or.inr ⟨rfl, rfl⟩⟩ rfl ?_
  have hk_103 : gk (wR h98 a0 15 (some b97)) b97 = 14 := ck_kR.trans hk_100
  have hk_104 : gk (wR h98 a0 15 (some b97)) a0 = 12 := ck_kR.trans hk_101
  generalize wR h98 a0 15 (some b97) = h102 at e hk_103 hk_104 ⊢
  replace e := ck_then_e e
  refine go_forget (l := [some (.ref a0)]) ⟨Or.inl rfl, trivial⟩ ?_
  exact f_RM_init_J119_s F a0 _ _ _ e
def f_RM_lay_L3 (F : Nat)  : Nat → Nat → Int32 → Int32 → ck_H → Option (Unit × ck_H)
  | 0, _, _, _, _ => none
  | n + 1, a0, v1, v2, h =>
    if v2 < (0 : Int32) then
      some ((), h)
    else
      ck_as (gk h a0 = 12) <|
      ck_some (gR h a0 9) fun b3 =>
      ck_as (gk h b3 = 13 ∧ ¬ (gI h a0 11) < 0 ∧ (gI h a0 11 : Int32).toNatClampNeg < gz h b3) <|
      ck_then (wI h b3 (gI h a0 11 : Int32).toNatClampNeg ((v1 >>> (v2 &&& 31) : Int32).toInt8.toInt32 : Int32).toInt8.toInt32) fun h6 =>
      ck_then (wI h6 a0 11 ((gI h6 a0 11) + 1)) fun h8 =>
      f_RM_lay_L3 F n a0 v1 (v2 + (-8)) h8
set_option maxRecDepth 100000 in
set_option maxHeartbeats 4000000 in
theorem f_RM_lay_L3_s (F : Nat)   : ∀ (n : Nat) (a0 : Nat) (v1 : Int32) (v2 : Int32) (h : ck_H) (r : Unit) (h' : ck_H), f_RM_lay_L3 F n a0 v1 v2 h = some (r, h') → Go k_RM_lay 3 [some (.ref a0), some (.int v1), some (.int v2)] [] h (none, h') := by
  intro n
  induction n with
  | zero => intro a0 v1 v2 h r h' e; simp only [f_RM_lay_L3] at e; cases e
  | succ n ih =>
    intro a0 v1 v2 h r h' e
    rw [f_RM_lay_L3] at e
    refine go_iload_n rfl rfl ?_
    refine go_if_lt (t := 36) rfl rfl (fun hx_1 => ?_) (fun hx_1 => ?_)
    · rw [if_pos hx_1] at e
      cases e
      exact go_ret rfl rfl
    · rw [if_neg hx_1] at e
      refine go_aload_n rfl rfl ?_
      replace e := ck_as_e e
      obtain ⟨hk_2, e⟩ := e
      replace e := ck_some_e e
      obtain ⟨b3, hq_4, e⟩ := e
      refine go_get (v := .ref b3) rfl rfl hk_2 (by decide) (by show va_rf (gR h a0 9) = _; rw [hq_4]; rfl) ?_
      refine go_aload_n rfl rfl ?_
      refine go_get (v := .int (gI h a0 11)) rfl rfl hk_2 (by decide) rfl ?_
      refine go_iload_n rfl rfl ?_
      refine go_iload_n rfl rfl ?_
      refine go_ishr rfl ?_
      refine go_i2b rfl ?_
      replace e := ck_as_e e
      obtain ⟨hc_5, e⟩ := e
      refine go_bast rfl hc_5 ?_
      have hk_7 : gk (wI h b3 (gI h a0 11 : Int32).toNatClampNeg ((v1 >>> (v2 &&& 31) : Int32).toInt8.toInt32 : Int32).toInt8.toInt32) a0 = 12 := ck_kI.trans hk_2
      generalize wI h b3 (gI h a0 11 : Int32).toNatClampNeg ((v1 >>> (v2 &&& 31) : Int32).toInt8.toInt32 : Int32).toInt8.toInt32 = h6 at e hk_7 ⊢
      replace e := ck_then_e e
      refine go_aload_n rfl rfl ?_
      refine go_dup rfl rfl ?_
      refine go_get (v := .int (gI h6 a0 11)) rfl rfl hk_7 (by decide) rfl ?_
      refine go_iconst (v := 1) rfl (by decide) ?_
      refine go_iadd rfl ?_
      refine go_put (h1 := wI h6 a0 11 ((gI h6 a0 11) + 1)) rfl rfl hk_7 ⟨by decide, by decide, Or.inl rfl⟩ rfl ?_
      have hk_9 : gk (wI h6 a0 11 ((gI h6 a0 11) + 1)) a0 = 12 := ck_kI.trans hk_7
      generalize wI h6 a0 11 ((gI h6 a0 11) + 1) = h8 at e hk_9 ⊢
      replace e := ck_then_e e
      refine go_iinc (v := (-8)) rfl rfl (by decide) rfl ?_
      show Go k_RM_lay 33 [some (.ref a0), some (.int v1), some (.int (v2 + (-8)))] [] h8 _
      refine go_goto (t := 3) rfl rfl ?_
      refine go_forget (l := [some (.ref a0), some (.int v1), some (.int (v2 + (-8)))]) ⟨Or.inl rfl, Or.inl rfl, Or.inl rfl, trivial⟩ ?_
      exact ih _ _ _ _ _ _ e
def f_RM_lay (F : Nat) (a0 : Nat) (v1 : Int32) (h : ck_H) : Option (Unit × ck_H) :=
  f_RM_lay_L3 F F a0 v1 24 h
set_option maxRecDepth 100000 in
set_option maxHeartbeats 4000000 in
theorem s_RM_lay {F : Nat} {a0 : Nat} {v1 : Int32} {h h' : ck_H} {r : Unit} (e : f_RM_lay F a0 v1 h = some (r, h')) : Go k_RM_lay 0 (ck_in [.ref a0, .int v1] 3) [] h (none, h') := by
  unfold f_RM_lay at e
  show Go k_RM_lay 0 [some (.ref a0), some (.int v1), none] [] h _
  refine go_bipush (v := 24) rfl (by decide) ?_
  refine go_istore_n rfl rfl ?_
  show Go k_RM_lay 3 [some (.ref a0), some (.int v1), some (.int 24)] [] h _
  refine go_forget (l := [some (.ref a0), some (.int v1), some (.int 24)]) ⟨Or.inl rfl, Or.inl rfl, Or.inl rfl, trivial⟩ ?_
  exact f_RM_lay_L3_s F F _ _ _ _ _ _ e
def f_RM_feed (F : Nat) (a0 : Nat) (v1 : Int32) (v2 : Int32) (v3 : Int32) (v4 : Int32) (v5 : Int32) (h : ck_H) : Option (Int32 × ck_H) :=
  ck_as (gk h a0 = 12) <|
  if (1200 : Int32) < ((gI h a0 11) + 20) then
    some ((-4), h)
  else
    ck_bd (f_RM_lay F a0 v1 h) fun _ h4 =>
    ck_as (gk h4 a0 = 12) <|
    ck_bd (f_RM_lay F a0 v2 h4) fun _ h8 =>
    ck_as (gk h8 a0 = 12) <|
    ck_bd (f_RM_lay F a0 v3 h8) fun _ h12 =>
    ck_as (gk h12 a0 = 12) <|
    ck_bd (f_RM_lay F a0 v4 h12) fun _ h16 =>
    ck_as (gk h16 a0 = 12) <|
    ck_bd (f_RM_lay F a0 v5 h16) fun _ h20 =>
    ck_as (gk h20 a0 = 12) <|
    some (gI h20 a0 11, h20)
set_option maxRecDepth 100000 in
set_option maxHeartbeats 4000000 in
theorem s_RM_feed {F : Nat} {a0 : Nat} {v1 : Int32} {v2 : Int32} {v3 : Int32} {v4 : Int32} {v5 : Int32} {h h' : ck_H} {r : Int32} (e : f_RM_feed F a0 v1 v2 v3 v4 v5 h = some (r, h')) : Go k_RM_feed 0 (ck_in [.ref a0, .int v1, .int v2, .int v3, .int v4, .int v5] 6) [] h (some (.int r), h') := by
  unfold f_RM_feed at e
  show Go k_RM_feed 0 [some (.ref a0), some (.int v1), some (.int v2), some (.int v3), some (.int v4), some (.int v5)] [] h _
  refine go_aload_n rfl rfl ?_
  replace e := ck_as_e e
  obtain ⟨hk_1, e⟩ := e
  refine go_get (v := .int (gI h a0 11)) rfl rfl hk_1 (by decide) rfl ?_
  refine go_bipush (v := 20) rfl (by decide) ?_
  refine go_iadd rfl ?_
  refine go_sipush (v := 1200) rfl (by decide) ?_
  refine go_icmp_le (t := 16) rfl rfl (fun hx_2 => ?_) (fun hx_2 => ?_)
  · rw [if_pos hx_2] at e
    refine go_bipush (v := (-4)) rfl (by decide) ?_
    cases e
    exact go_ret rfl rfl
  · rw [if_neg hx_2] at e
    refine go_aload_n rfl rfl ?_
    refine go_iload_n rfl rfl ?_
    replace e := ck_bd_e e
    obtain ⟨r3, h4, e5, e⟩ := e
    refine go_callV (As := [.int v1]) (b0 := a0) (rest := []) rfl rfl ⟨hk_1, by decide⟩ rfl ⟨Nat.le_of_ble_eq_true rfl, Nat.le_of_ble_eq_true rfl, Nat.le_of_ble_eq_true rfl, Nat.le_of_ble_eq_true rfl⟩ (s_RM_lay e5) ?_
    show Go k_RM_feed 21 [some (.ref a0), some (.int v1), some (.int v2), some (.int v3), some (.int v4), some (.int v5)] [] h4 _
    refine go_aload_n rfl rfl ?_
    refine go_iload_n rfl rfl ?_
    replace e := ck_as_e e
    obtain ⟨hk_6, e⟩ := e
    replace e := ck_bd_e e
    obtain ⟨r7, h8, e9, e⟩ := e
    refine go_callV (As := [.int v2]) (b0 := a0) (rest := []) rfl rfl ⟨hk_6, by decide⟩ rfl ⟨Nat.le_of_ble_eq_true rfl, Nat.le_of_ble_eq_true rfl, Nat.le_of_ble_eq_true rfl, Nat.le_of_ble_eq_true rfl⟩ (s_RM_lay e9) ?_
    show Go k_RM_feed 26 [some (.ref a0), some (.int v1), some (.int v2), some (.int v3), some (.int v4), some (.int v5)] [] h8 _
    refine go_aload_n rfl rfl ?_
    refine go_iload_n rfl rfl ?_
    replace e := ck_as_e e
    obtain ⟨hk_10, e⟩ := e
    replace e := ck_bd_e e
    obtain ⟨r11, h12, e13, e⟩ := e
    refine go_callV (As := [.int v3]) (b0 := a0) (rest := []) rfl rfl ⟨hk_10, by decide⟩ rfl ⟨Nat.le_of_ble_eq_true rfl, Nat.le_of_ble_eq_true rfl, Nat.le_of_ble_eq_true rfl, Nat.le_of_ble_eq_true rfl⟩ (s_RM_lay e13) ?_
    show Go k_RM_feed 31 [some (.ref a0), some (.int v1), some (.int v2), some (.int v3), some (.int v4), some (.int v5)] [] h12 _
    refine go_aload_n rfl rfl ?_
    refine go_iload rfl rfl ?_
    replace e := ck_as_e e
    obtain ⟨hk_14, e⟩ := e
    replace e := ck_bd_e e
    obtain ⟨r15, h16, e17, e⟩ := e
    refine go_callV (As := [.int v4]) (b0 := a0) (rest := []) rfl rfl ⟨hk_14, by decide⟩ rfl ⟨Nat.le_of_ble_eq_true rfl, Nat.le_of_ble_eq_true rfl, Nat.le_of_ble_eq_true rfl, Nat.le_of_ble_eq_true rfl⟩ (s_RM_lay e17) ?_
    show Go k_RM_feed 37 [some (.ref a0), some (.int v1), some (.int v2), some (.int v3), some (.int v4), some (.int v5)] [] h16 _
    refine go_aload_n rfl rfl ?_
    refine go_iload rfl rfl ?_
    replace e := ck_as_e e
    obtain ⟨hk_18, e⟩ := e
    replace e := ck_bd_e e
    obtain ⟨r19, h20, e21, e⟩ := e
    refine go_callV (As := [.int v5]) (b0 := a0) (rest := []) rfl rfl ⟨hk_18, by decide⟩ rfl ⟨Nat.le_of_ble_eq_true rfl, Nat.le_of_ble_eq_true rfl, Nat.le_of_ble_eq_true rfl, Nat.le_of_ble_eq_true rfl⟩ (s_RM_lay e21) ?_
    show Go k_RM_feed 43 [some (.ref a0), some (.int v1), some (.int v2), some (.int v3), some (.int v4), some (.int v5)] [] h20 _
    refine go_aload_n rfl rfl ?_
    replace e := ck_as_e e
    obtain ⟨hk_22, e⟩ := e
    refine go_get (v := .int (gI h20 a0 11)) rfl rfl hk_22 (by decide) rfl ?_
    cases e
    exact go_ret rfl rfl
def f_RM_in (F : Nat) (w0 : Int64) (w2 : Int64) (w4 : Int64) (h : ck_H) : Option (Int32 × ck_H) :=
  if (lg_cmp w0 w2) < (0 : Int32) then
    some (0, h)
  else
    if (0 : Int32) < (lg_cmp w0 w4) then
      some (0, h)
    else
      some (1, h)
set_option maxRecDepth 100000 in
set_option maxHeartbeats 4000000 in
theorem s_RM_in {F : Nat} {w0 : Int64} {w2 : Int64} {w4 : Int64} {h h' : ck_H} {r : Int32} (e : f_RM_in F w0 w2 w4 h = some (r, h')) : Go k_RM_in 0 (ck_in [.long w0, .long w2, .long w4] 6) [] h (some (.int r), h') := by
  unfold f_RM_in at e
  show Go k_RM_in 0 [some (.long w0), none, some (.long w2), none, some (.long w4), none] [] h _
  refine go_lload_n rfl rfl ?_
  refine go_lload_n rfl rfl ?_
  refine go_lcmp rfl ?_
  refine go_if_lt (t := 17) rfl rfl (fun hx_1 => ?_) (fun hx_1 => ?_)
  · rw [if_pos hx_1] at e
    refine go_iconst (v := 0) rfl (by decide) ?_
    cases e
    exact go_ret rfl (ck_rvb rfl (Or.inl rfl))
  · rw [if_neg hx_1] at e
    refine go_lload_n rfl rfl ?_
    refine go_lload rfl rfl ?_
    refine go_lcmp rfl ?_
    refine go_if_gt (t := 17) rfl rfl (fun hx_2 => ?_) (fun hx_2 => ?_)
    · rw [if_pos hx_2] at e
      refine go_iconst (v := 0) rfl (by decide) ?_
      cases e
      exact go_ret rfl (ck_rvb rfl (Or.inl rfl))
    · rw [if_neg hx_2] at e
      refine go_iconst (v := 1) rfl (by decide) ?_
      refine go_goto (t := 18) rfl rfl ?_
      cases e
      exact go_ret rfl (ck_rvb rfl (Or.inr rfl))
def f_RM_end (F : Nat) (a0 : Nat) (v1 : Int32) (h : ck_H) : Option (Int32 × ck_H) :=
  ck_as (gk h a0 = 12) <|
  ck_bd (f_RM_in F ((v1 : Int32).toInt64) 0 ((gI h a0 11 : Int32).toInt64) h) fun r2 h3 =>
  if r2 = (0 : Int32) then
    some ((-1), h3)
  else
    ck_as (gk h3 a0 = 12) <|
    ck_then (wI h3 a0 11 v1) fun h7 =>
    some (v1, h7)
set_option maxRecDepth 100000 in
set_option maxHeartbeats 4000000 in
theorem s_RM_end {F : Nat} {a0 : Nat} {v1 : Int32} {h h' : ck_H} {r : Int32} (e : f_RM_end F a0 v1 h = some (r, h')) : Go k_RM_end 0 (ck_in [.ref a0, .int v1] 2) [] h (some (.int r), h') := by
  unfold f_RM_end at e
  show Go k_RM_end 0 [some (.ref a0), some (.int v1)] [] h _
  refine go_iload_n rfl rfl ?_
  refine go_i2l rfl ?_
  refine go_lconst (v := 0) rfl (by decide) ?_
  refine go_aload_n rfl rfl ?_
  replace e := ck_as_e e
  obtain ⟨hk_1, e⟩ := e
  refine go_get (v := .int (gI h a0 11)) rfl rfl hk_1 (by decide) rfl ?_
  refine go_i2l rfl ?_
  replace e := ck_bd_e e
  obtain ⟨r2, h3, e4, e⟩ := e
  refine go_callS (As := [.long ((v1 : Int32).toInt64), .long 0, .long ((gI h a0 11 : Int32).toInt64)]) (rest := []) rfl rfl rfl ⟨Nat.le_of_ble_eq_true rfl, Nat.le_of_ble_eq_true rfl, Nat.le_of_ble_eq_true rfl, Nat.le_of_ble_eq_true rfl⟩ (s_RM_in e4) ?_
  show Go k_RM_end 11 [some (.ref a0), some (.int v1)] [.int r2] h3 _
  refine go_if_ne (t := 16) rfl rfl (fun hx_5 => ?_) (fun hx_5 => ?_)
  · rw [if_pos hx_5] at e
    refine go_iconst (v := (-1)) rfl (by decide) ?_
    cases e
    exact go_ret rfl rfl
  · rw [if_neg hx_5] at e
    refine go_aload_n rfl rfl ?_
    refine go_iload_n rfl rfl ?_
    replace e := ck_as_e e
    obtain ⟨hk_6, e⟩ := e
    refine go_put (h1 := wI h3 a0 11 v1) rfl rfl hk_6 ⟨by decide, by decide, Or.inl rfl⟩ rfl ?_
    have hk_8 : gk (wI h3 a0 11 v1) a0 = 12 := ck_kI.trans hk_6
    generalize wI h3 a0 11 v1 = h7 at e hk_8 ⊢
    replace e := ck_then_e e
    refine go_iload_n rfl rfl ?_
    cases e
    exact go_ret rfl rfl
def f_RM_out (F : Nat) (a0 : Nat) (v1 : Int32) (h : ck_H) : Option (Int32 × ck_H) :=
  ck_as (gk h a0 = 12) <|
  ck_bd (f_RM_in F ((v1 : Int32).toInt64) 0 (((gI h a0 12 : Int32).toInt64) - 1) h) fun r2 h3 =>
  if r2 = (0 : Int32) then
    some ((-1), h3)
  else
    ck_as (gk h3 a0 = 12) <|
    ck_some (gR h3 a0 10) fun b7 =>
    ck_as ((gk h3 b7 = 13 ∨ gk h3 b7 = 15) ∧ ¬ v1 < 0 ∧ (v1 : Int32).toNatClampNeg < gz h3 b7) <|
    some ((gI h3 b7 (v1 : Int32).toNatClampNeg) &&& 255, h3)
set_option maxRecDepth 100000 in
set_option maxHeartbeats 4000000 in
theorem s_RM_out {F : Nat} {a0 : Nat} {v1 : Int32} {h h' : ck_H} {r : Int32} (e : f_RM_out F a0 v1 h = some (r, h')) : Go k_RM_out 0 (ck_in [.ref a0, .int v1] 2) [] h (some (.int r), h') := by
  unfold f_RM_out at e
  show Go k_RM_out 0 [some (.ref a0), some (.int v1)] [] h _
  refine go_iload_n rfl rfl ?_
  refine go_i2l rfl ?_
  refine go_lconst (v := 0) rfl (by decide) ?_
  refine go_aload_n rfl rfl ?_
  replace e := ck_as_e e
  obtain ⟨hk_1, e⟩ := e
  refine go_get (v := .int (gI h a0 12)) rfl rfl hk_1 (by decide) rfl ?_
  refine go_i2l rfl ?_
  refine go_lconst (v := 1) rfl (by decide) ?_
  refine go_lsub rfl ?_
  replace e := ck_bd_e e
  obtain ⟨r2, h3, e4, e⟩ := e
  refine go_callS (As := [.long ((v1 : Int32).toInt64), .long 0, .long (((gI h a0 12 : Int32).toInt64) - 1)]) (rest := []) rfl rfl rfl ⟨Nat.le_of_ble_eq_true rfl, Nat.le_of_ble_eq_true rfl, Nat.le_of_ble_eq_true rfl, Nat.le_of_ble_eq_true rfl⟩ (s_RM_in e4) ?_
  show Go k_RM_out 13 [some (.ref a0), some (.int v1)] [.int r2] h3 _
  refine go_if_eq (t := 29) rfl rfl (fun hx_5 => ?_) (fun hx_5 => ?_)
  · rw [if_pos hx_5] at e
    refine go_iconst (v := (-1)) rfl (by decide) ?_
    cases e
    exact go_ret rfl rfl
  · rw [if_neg hx_5] at e
    refine go_aload_n rfl rfl ?_
    replace e := ck_as_e e
    obtain ⟨hk_6, e⟩ := e
    replace e := ck_some_e e
    obtain ⟨b7, hq_8, e⟩ := e
    refine go_get (v := .ref b7) rfl rfl hk_6 (by decide) (by show va_rf (gR h3 a0 10) = _; rw [hq_8]; rfl) ?_
    refine go_iload_n rfl rfl ?_
    replace e := ck_as_e e
    obtain ⟨hc_9, e⟩ := e
    refine go_bald rfl hc_9 ?_
    refine go_sipush (v := 255) rfl (by decide) ?_
    refine go_iand rfl ?_
    refine go_goto (t := 30) rfl rfl ?_
    cases e
    exact go_ret rfl rfl
def f_RM_command (F : Nat) (a0 : Nat) (v1 : Int32) (v2 : Int32) (v3 : Int32) (v4 : Int32) (v5 : Int32) (h : ck_H) : Option (Int32 × ck_H) :=
  ck_bd (f_RM_in F ((v1 : Int32).toInt64) 0 31 h) fun r1 h2 =>
  if r1 = (0 : Int32) then
    some ((-2), h2)
  else
    ck_bd (f_RM_in F ((v5 : Int32).toInt64) 0 7 h2) fun r5 h6 =>
    if r5 = (0 : Int32) then
      some ((-2), h6)
    else
      ck_as (gk h6 a0 = 12) <|
      ck_some (gR h6 a0 15) fun b10 =>
      ck_as (gk h6 b10 = 14 ∧ ¬ v1 < 0 ∧ (v1 : Int32).toNatClampNeg < gz h6 b10) <|
      ck_then (wI h6 b10 (v1 : Int32).toNatClampNeg v2) fun h13 =>
      ck_some (gR h13 a0 16) fun b15 =>
      ck_as (gk h13 b15 = 14 ∧ ¬ v1 < 0 ∧ (v1 : Int32).toNatClampNeg < gz h13 b15) <|
      ck_then (wI h13 b15 (v1 : Int32).toNatClampNeg v3) fun h18 =>
      ck_some (gR h18 a0 17) fun b20 =>
      ck_as (gk h18 b20 = 14 ∧ ¬ v1 < 0 ∧ (v1 : Int32).toNatClampNeg < gz h18 b20) <|
      ck_then (wI h18 b20 (v1 : Int32).toNatClampNeg v4) fun h23 =>
      ck_some (gR h23 a0 18) fun b25 =>
      ck_as (gk h23 b25 = 14 ∧ ¬ v1 < 0 ∧ (v1 : Int32).toNatClampNeg < gz h23 b25) <|
      ck_then (wI h23 b25 (v1 : Int32).toNatClampNeg v5) fun h28 =>
      some (1, h28)
set_option maxRecDepth 100000 in
set_option maxHeartbeats 4000000 in
theorem s_RM_command {F : Nat} {a0 : Nat} {v1 : Int32} {v2 : Int32} {v3 : Int32} {v4 : Int32} {v5 : Int32} {h h' : ck_H} {r : Int32} (e : f_RM_command F a0 v1 v2 v3 v4 v5 h = some (r, h')) : Go k_RM_command 0 (ck_in [.ref a0, .int v1, .int v2, .int v3, .int v4, .int v5] 6) [] h (some (.int r), h') := by
  unfold f_RM_command at e
  show Go k_RM_command 0 [some (.ref a0), some (.int v1), some (.int v2), some (.int v3), some (.int v4), some (.int v5)] [] h _
  refine go_iload_n rfl rfl ?_
  refine go_i2l rfl ?_
  refine go_lconst (v := 0) rfl (by decide) ?_
  refine go_ldc2 (v := 31) rfl rfl ?_
  replace e := ck_bd_e e
  obtain ⟨r1, h2, e3, e⟩ := e
  refine go_callS (As := [.long ((v1 : Int32).toInt64), .long 0, .long 31]) (rest := []) rfl rfl rfl ⟨Nat.le_of_ble_eq_true rfl, Nat.le_of_ble_eq_true rfl, Nat.le_of_ble_eq_true rfl, Nat.le_of_ble_eq_true rfl⟩ (s_RM_in e3) ?_
  show Go k_RM_command 9 [some (.ref a0), some (.int v1), some (.int v2), some (.int v3), some (.int v4), some (.int v5)] [.int r1] h2 _
  refine go_if_eq (t := 25) rfl rfl (fun hx_4 => ?_) (fun hx_4 => ?_)
  · rw [if_pos hx_4] at e
    refine go_bipush (v := (-2)) rfl (by decide) ?_
    cases e
    exact go_ret rfl rfl
  · rw [if_neg hx_4] at e
    refine go_iload rfl rfl ?_
    refine go_i2l rfl ?_
    refine go_lconst (v := 0) rfl (by decide) ?_
    refine go_ldc2 (v := 7) rfl rfl ?_
    replace e := ck_bd_e e
    obtain ⟨r5, h6, e7, e⟩ := e
    refine go_callS (As := [.long ((v5 : Int32).toInt64), .long 0, .long 7]) (rest := []) rfl rfl rfl ⟨Nat.le_of_ble_eq_true rfl, Nat.le_of_ble_eq_true rfl, Nat.le_of_ble_eq_true rfl, Nat.le_of_ble_eq_true rfl⟩ (s_RM_in e7) ?_
    show Go k_RM_command 22 [some (.ref a0), some (.int v1), some (.int v2), some (.int v3), some (.int v4), some (.int v5)] [.int r5] h6 _
    refine go_if_ne (t := 28) rfl rfl (fun hx_8 => ?_) (fun hx_8 => ?_)
    · rw [if_pos hx_8] at e
      refine go_bipush (v := (-2)) rfl (by decide) ?_
      cases e
      exact go_ret rfl rfl
    · rw [if_neg hx_8] at e
      refine go_aload_n rfl rfl ?_
      replace e := ck_as_e e
      obtain ⟨hk_9, e⟩ := e
      replace e := ck_some_e e
      obtain ⟨b10, hq_11, e⟩ := e
      refine go_get (v := .ref b10) rfl rfl hk_9 (by decide) (by show va_rf (gR h6 a0 15) = _; rw [hq_11]; rfl) ?_
      refine go_iload_n rfl rfl ?_
      refine go_iload_n rfl rfl ?_
      replace e := ck_as_e e
      obtain ⟨hc_12, e⟩ := e
      refine go_iast rfl hc_12 ?_
      have hk_14 : gk (wI h6 b10 (v1 : Int32).toNatClampNeg v2) a0 = 12 := ck_kI.trans hk_9
      generalize wI h6 b10 (v1 : Int32).toNatClampNeg v2 = h13 at e hk_14 ⊢
      replace e := ck_then_e e
      refine go_aload_n rfl rfl ?_
      replace e := ck_some_e e
      obtain ⟨b15, hq_16, e⟩ := e
      refine go_get (v := .ref b15) rfl rfl hk_14 (by decide) (by show va_rf (gR h13 a0 16) = _; rw [hq_16]; rfl) ?_
      refine go_iload_n rfl rfl ?_
      refine go_iload_n rfl rfl ?_
      replace e := ck_as_e e
      obtain ⟨hc_17, e⟩ := e
      refine go_iast rfl hc_17 ?_
      have hk_19 : gk (wI h13 b15 (v1 : Int32).toNatClampNeg v3) a0 = 12 := ck_kI.trans hk_14
      generalize wI h13 b15 (v1 : Int32).toNatClampNeg v3 = h18 at e hk_19 ⊢
      replace e := ck_then_e e
      refine go_aload_n rfl rfl ?_
      replace e := ck_some_e e
      obtain ⟨b20, hq_21, e⟩ := e
      refine go_get (v := .ref b20) rfl rfl hk_19 (by decide) (by show va_rf (gR h18 a0 17) = _; rw [hq_21]; rfl) ?_
      refine go_iload_n rfl rfl ?_
      refine go_iload rfl rfl ?_
      replace e := ck_as_e e
      obtain ⟨hc_22, e⟩ := e
      refine go_iast rfl hc_22 ?_
      have hk_24 : gk (wI h18 b20 (v1 : Int32).toNatClampNeg v4) a0 = 12 := ck_kI.trans hk_19
      generalize wI h18 b20 (v1 : Int32).toNatClampNeg v4 = h23 at e hk_24 ⊢
      replace e := ck_then_e e
      refine go_aload_n rfl rfl ?_
      replace e := ck_some_e e
      obtain ⟨b25, hq_26, e⟩ := e
      refine go_get (v := .ref b25) rfl rfl hk_24 (by decide) (by show va_rf (gR h23 a0 18) = _; rw [hq_26]; rfl) ?_
      refine go_iload_n rfl rfl ?_
      refine go_iload rfl rfl ?_
      replace e := ck_as_e e
      obtain ⟨hc_27, e⟩ := e
      refine go_iast rfl hc_27 ?_
      have hk_29 : gk (wI h23 b25 (v1 : Int32).toNatClampNeg v5) a0 = 12 := ck_kI.trans hk_24
      generalize wI h23 b25 (v1 : Int32).toNatClampNeg v5 = h28 at e hk_29 ⊢
      replace e := ck_then_e e
      refine go_iconst (v := 1) rfl (by decide) ?_
      cases e
      exact go_ret rfl rfl
def f_RM_memory (F : Nat) (a0 : Nat) (v1 : Int32) (h : ck_H) : Option (Int32 × ck_H) :=
  ck_bd (f_RM_in F ((v1 : Int32).toInt64) 0 2047 h) fun r1 h2 =>
  if r1 = (0 : Int32) then
    some ((-2), h2)
  else
    ck_as (gk h2 a0 = 12) <|
    ck_some (gR h2 a0 14) fun b6 =>
    ck_as ((gk h2 b6 = 13 ∨ gk h2 b6 = 15) ∧ ¬ v1 < 0 ∧ (v1 : Int32).toNatClampNeg < gz h2 b6) <|
    some ((gI h2 b6 (v1 : Int32).toNatClampNeg) &&& 255, h2)
set_option maxRecDepth 100000 in
set_option maxHeartbeats 4000000 in
theorem s_RM_memory {F : Nat} {a0 : Nat} {v1 : Int32} {h h' : ck_H} {r : Int32} (e : f_RM_memory F a0 v1 h = some (r, h')) : Go k_RM_memory 0 (ck_in [.ref a0, .int v1] 2) [] h (some (.int r), h') := by
  unfold f_RM_memory at e
  show Go k_RM_memory 0 [some (.ref a0), some (.int v1)] [] h _
  refine go_iload_n rfl rfl ?_
  refine go_i2l rfl ?_
  refine go_lconst (v := 0) rfl (by decide) ?_
  refine go_ldc2 (v := 2047) rfl rfl ?_
  replace e := ck_bd_e e
  obtain ⟨r1, h2, e3, e⟩ := e
  refine go_callS (As := [.long ((v1 : Int32).toInt64), .long 0, .long 2047]) (rest := []) rfl rfl rfl ⟨Nat.le_of_ble_eq_true rfl, Nat.le_of_ble_eq_true rfl, Nat.le_of_ble_eq_true rfl, Nat.le_of_ble_eq_true rfl⟩ (s_RM_in e3) ?_
  show Go k_RM_memory 9 [some (.ref a0), some (.int v1)] [.int r1] h2 _
  refine go_if_eq (t := 25) rfl rfl (fun hx_4 => ?_) (fun hx_4 => ?_)
  · rw [if_pos hx_4] at e
    refine go_bipush (v := (-2)) rfl (by decide) ?_
    cases e
    exact go_ret rfl rfl
  · rw [if_neg hx_4] at e
    refine go_aload_n rfl rfl ?_
    replace e := ck_as_e e
    obtain ⟨hk_5, e⟩ := e
    replace e := ck_some_e e
    obtain ⟨b6, hq_7, e⟩ := e
    refine go_get (v := .ref b6) rfl rfl hk_5 (by decide) (by show va_rf (gR h2 a0 14) = _; rw [hq_7]; rfl) ?_
    refine go_iload_n rfl rfl ?_
    replace e := ck_as_e e
    obtain ⟨hc_8, e⟩ := e
    refine go_bald rfl hc_8 ?_
    refine go_sipush (v := 255) rfl (by decide) ?_
    refine go_iand rfl ?_
    refine go_goto (t := 27) rfl rfl ?_
    cases e
    exact go_ret rfl rfl
def f_RM_read (F : Nat) (a0 : Nat) (h : ck_H) : Option (Int32 × ck_H) :=
  ck_as (gk h a0 = 12) <|
  ck_then (wI h a0 13 (gI h a0 11)) fun h2 =>
  ck_then (wI h2 a0 11 0) fun h4 =>
  some (gI h4 a0 13, h4)
set_option maxRecDepth 100000 in
set_option maxHeartbeats 4000000 in
theorem s_RM_read {F : Nat} {a0 : Nat} {h h' : ck_H} {r : Int32} (e : f_RM_read F a0 h = some (r, h')) : Go k_RM_read 0 (ck_in [.ref a0] 1) [] h (some (.int r), h') := by
  unfold f_RM_read at e
  show Go k_RM_read 0 [some (.ref a0)] [] h _
  refine go_aload_n rfl rfl ?_
  refine go_aload_n rfl rfl ?_
  replace e := ck_as_e e
  obtain ⟨hk_1, e⟩ := e
  refine go_get (v := .int (gI h a0 11)) rfl rfl hk_1 (by decide) rfl ?_
  refine go_put (h1 := wI h a0 13 (gI h a0 11)) rfl rfl hk_1 ⟨by decide, by decide, Or.inl rfl⟩ rfl ?_
  have hk_3 : gk (wI h a0 13 (gI h a0 11)) a0 = 12 := ck_kI.trans hk_1
  generalize wI h a0 13 (gI h a0 11) = h2 at e hk_3 ⊢
  replace e := ck_then_e e
  refine go_aload_n rfl rfl ?_
  refine go_iconst (v := 0) rfl (by decide) ?_
  refine go_put (h1 := wI h2 a0 11 0) rfl rfl hk_3 ⟨by decide, by decide, Or.inl rfl⟩ rfl ?_
  have hk_5 : gk (wI h2 a0 11 0) a0 = 12 := ck_kI.trans hk_3
  generalize wI h2 a0 11 0 = h4 at e hk_5 ⊢
  replace e := ck_then_e e
  refine go_aload_n rfl rfl ?_
  refine go_get (v := .int (gI h4 a0 13)) rfl rfl hk_5 (by decide) rfl ?_
  cases e
  exact go_ret rfl rfl
def f_RM_poke_L26 (F : Nat)  : Nat → Nat → Int32 → Int32 → Int32 → ck_H → Option (Int32 × ck_H)
  | 0, _, _, _, _, _ => none
  | n + 1, a0, v1, v2, v3, h =>
    if v3 < v2 then
      ck_as (gk h a0 = 12) <|
      ck_some (gR h a0 14) fun b3 =>
      ck_some (gR h a0 9) fun b5 =>
      ck_as ((gk h b5 = 13 ∨ gk h b5 = 15) ∧ ¬ v3 < 0 ∧ (v3 : Int32).toNatClampNeg < gz h b5) <|
      ck_as (gk h b3 = 13 ∧ ¬ (v1 + v3) < 0 ∧ (v1 + v3 : Int32).toNatClampNeg < gz h b3) <|
      ck_then (wI h b3 (v1 + v3 : Int32).toNatClampNeg (gI h b5 (v3 : Int32).toNatClampNeg : Int32).toInt8.toInt32) fun h9 =>
      f_RM_poke_L26 F n a0 v1 v2 (v3 + 1) h9
    else
      some (v2, h)
set_option maxRecDepth 100000 in
set_option maxHeartbeats 4000000 in
theorem f_RM_poke_L26_s (F : Nat)   : ∀ (n : Nat) (a0 : Nat) (v1 : Int32) (v2 : Int32) (v3 : Int32) (h : ck_H) (r : Int32) (h' : ck_H), f_RM_poke_L26 F n a0 v1 v2 v3 h = some (r, h') → Go k_RM_poke 26 [some (.ref a0), some (.int v1), some (.int v2), some (.int v3)] [] h (some (.int r), h') := by
  intro n
  induction n with
  | zero => intro a0 v1 v2 v3 h r h' e; simp only [f_RM_poke_L26] at e; cases e
  | succ n ih =>
    intro a0 v1 v2 v3 h r h' e
    rw [f_RM_poke_L26] at e
    refine go_iload_n rfl rfl ?_
    refine go_iload_n rfl rfl ?_
    refine go_icmp_ge (t := 51) rfl rfl (fun hx_1 => ?_) (fun hx_1 => ?_)
    · rw [if_pos hx_1] at e
      refine go_aload_n rfl rfl ?_
      replace e := ck_as_e e
      obtain ⟨hk_2, e⟩ := e
      replace e := ck_some_e e
      obtain ⟨b3, hq_4, e⟩ := e
      refine go_get (v := .ref b3) rfl rfl hk_2 (by decide) (by show va_rf (gR h a0 14) = _; rw [hq_4]; rfl) ?_
      refine go_iload_n rfl rfl ?_
      refine go_iload_n rfl rfl ?_
      refine go_iadd rfl ?_
      refine go_aload_n rfl rfl ?_
      replace e := ck_some_e e
      obtain ⟨b5, hq_6, e⟩ := e
      refine go_get (v := .ref b5) rfl rfl hk_2 (by decide) (by show va_rf (gR h a0 9) = _; rw [hq_6]; rfl) ?_
      refine go_iload_n rfl rfl ?_
      replace e := ck_as_e e
      obtain ⟨hc_7, e⟩ := e
      refine go_bald rfl hc_7 ?_
      replace e := ck_as_e e
      obtain ⟨hc_8, e⟩ := e
      refine go_bast rfl hc_8 ?_
      have hk_10 : gk (wI h b3 (v1 + v3 : Int32).toNatClampNeg (gI h b5 (v3 : Int32).toNatClampNeg : Int32).toInt8.toInt32) a0 = 12 := ck_kI.trans hk_2
      generalize wI h b3 (v1 + v3 : Int32).toNatClampNeg (gI h b5 (v3 : Int32).toNatClampNeg : Int32).toInt8.toInt32 = h9 at e hk_10 ⊢
      replace e := ck_then_e e
      refine go_iinc (v := 1) rfl rfl (by decide) rfl ?_
      show Go k_RM_poke 48 [some (.ref a0), some (.int v1), some (.int v2), some (.int (v3 + 1))] [] h9 _
      refine go_goto (t := 26) rfl rfl ?_
      refine go_forget (l := [some (.ref a0), some (.int v1), some (.int v2), some (.int (v3 + 1))]) ⟨Or.inl rfl, Or.inl rfl, Or.inl rfl, Or.inl rfl, trivial⟩ ?_
      exact ih _ _ _ _ _ _ _ e
    · rw [if_neg hx_1] at e
      refine go_iload_n rfl rfl ?_
      cases e
      exact go_ret rfl rfl
def f_RM_poke (F : Nat) (a0 : Nat) (v1 : Int32) (h : ck_H) : Option (Int32 × ck_H) :=
  ck_as (gk h a0 = 12) <|
  ck_bd (f_RM_read F a0 h) fun r2 h3 =>
  if v1 < (0 : Int32) then
    some ((-2), h3)
  else
    if (0 : Int32) < (lg_cmp (((v1 : Int32).toInt64) + ((r2 : Int32).toInt64)) 2048) then
      some ((-2), h3)
    else
      f_RM_poke_L26 F F a0 v1 r2 0 h3
set_option maxRecDepth 100000 in
set_option maxHeartbeats 4000000 in
theorem s_RM_poke {F : Nat} {a0 : Nat} {v1 : Int32} {h h' : ck_H} {r : Int32} (e : f_RM_poke F a0 v1 h = some (r, h')) : Go k_RM_poke 0 (ck_in [.ref a0, .int v1] 4) [] h (some (.int r), h') := by
  unfold f_RM_poke at e
  show Go k_RM_poke 0 [some (.ref a0), some (.int v1), none, none] [] h _
  refine go_aload_n rfl rfl ?_
  replace e := ck_as_e e
  obtain ⟨hk_1, e⟩ := e
  replace e := ck_bd_e e
  obtain ⟨r2, h3, e4, e⟩ := e
  refine go_callV (As := []) (b0 := a0) (rest := []) rfl rfl ⟨hk_1, by decide⟩ rfl ⟨Nat.le_of_ble_eq_true rfl, Nat.le_of_ble_eq_true rfl, Nat.le_of_ble_eq_true rfl, Nat.le_of_ble_eq_true rfl⟩ (s_RM_read e4) ?_
  show Go k_RM_poke 4 [some (.ref a0), some (.int v1), none, none] [.int r2] h3 _
  refine go_istore_n rfl rfl ?_
  show Go k_RM_poke 5 [some (.ref a0), some (.int v1), some (.int r2), none] [] h3 _
  refine go_iload_n rfl rfl ?_
  refine go_if_lt (t := 21) rfl rfl (fun hx_5 => ?_) (fun hx_5 => ?_)
  · rw [if_pos hx_5] at e
    refine go_bipush (v := (-2)) rfl (by decide) ?_
    cases e
    exact go_ret rfl rfl
  · rw [if_neg hx_5] at e
    refine go_iload_n rfl rfl ?_
    refine go_i2l rfl ?_
    refine go_iload_n rfl rfl ?_
    refine go_i2l rfl ?_
    refine go_ladd rfl ?_
    refine go_ldc2 (v := 2048) rfl rfl ?_
    refine go_lcmp rfl ?_
    refine go_if_le (t := 24) rfl rfl (fun hx_6 => ?_) (fun hx_6 => ?_)
    · rw [if_pos hx_6] at e
      refine go_bipush (v := (-2)) rfl (by decide) ?_
      cases e
      exact go_ret rfl rfl
    · rw [if_neg hx_6] at e
      refine go_iconst (v := 0) rfl (by decide) ?_
      refine go_istore_n rfl rfl ?_
      show Go k_RM_poke 26 [some (.ref a0), some (.int v1), some (.int r2), some (.int 0)] [] h3 _
      refine go_forget (l := [some (.ref a0), some (.int v1), some (.int r2), some (.int 0)]) ⟨Or.inl rfl, Or.inl rfl, Or.inl rfl, Or.inl rfl, trivial⟩ ?_
      exact f_RM_poke_L26_s F F _ _ _ _ _ _ _ e
def f_RM_chains (F : Nat) (a0 : Nat) (v1 : Int32) (h : ck_H) : Option (Int32 × ck_H) :=
  ck_as (gk h a0 = 12) <|
  ck_some (gR h a0 18) fun b2 =>
  ck_as ((gk h b2 = 14 ∨ gk h b2 = 21) ∧ ¬ v1 < 0 ∧ (v1 : Int32).toNatClampNeg < gz h b2) <|
  if ((gI h b2 (v1 : Int32).toNatClampNeg) &&& 1) = (1 : Int32) then
    some (1, h)
  else
    some (0, h)
set_option maxRecDepth 100000 in
set_option maxHeartbeats 4000000 in
theorem s_RM_chains {F : Nat} {a0 : Nat} {v1 : Int32} {h h' : ck_H} {r : Int32} (e : f_RM_chains F a0 v1 h = some (r, h')) : Go k_RM_chains 0 (ck_in [.ref a0, .int v1] 2) [] h (some (.int r), h') := by
  unfold f_RM_chains at e
  show Go k_RM_chains 0 [some (.ref a0), some (.int v1)] [] h _
  refine go_aload_n rfl rfl ?_
  replace e := ck_as_e e
  obtain ⟨hk_1, e⟩ := e
  replace e := ck_some_e e
  obtain ⟨b2, hq_3, e⟩ := e
  refine go_get (v := .ref b2) rfl rfl hk_1 (by decide) (by show va_rf (gR h a0 18) = _; rw [hq_3]; rfl) ?_
  refine go_iload_n rfl rfl ?_
  replace e := ck_as_e e
  obtain ⟨hc_4, e⟩ := e
  refine go_iald rfl hc_4 ?_
  refine go_iconst (v := 1) rfl (by decide) ?_
  refine go_iand rfl ?_
  refine go_iconst (v := 1) rfl (by decide) ?_
  refine go_icmp_ne (t := 16) rfl rfl (fun hx_5 => ?_) (fun hx_5 => ?_)
  · rw [if_pos hx_5] at e
    refine go_iconst (v := 1) rfl (by decide) ?_
    refine go_goto (t := 17) rfl rfl ?_
    cases e
    exact go_ret rfl (ck_rvb rfl (Or.inr rfl))
  · rw [if_neg hx_5] at e
    refine go_iconst (v := 0) rfl (by decide) ?_
    cases e
    exact go_ret rfl (ck_rvb rfl (Or.inl rfl))
def f_RM_isSearch (F : Nat) (a0 : Nat) (v1 : Int32) (h : ck_H) : Option (Int32 × ck_H) :=
  if v1 = (3 : Int32) then
    some (1, h)
  else
    if v1 = (4 : Int32) then
      some (1, h)
    else
      if v1 = (5 : Int32) then
        some (1, h)
      else
        if v1 = (6 : Int32) then
          some (1, h)
        else
          some (0, h)
set_option maxRecDepth 100000 in
set_option maxHeartbeats 4000000 in
theorem s_RM_isSearch {F : Nat} {a0 : Nat} {v1 : Int32} {h h' : ck_H} {r : Int32} (e : f_RM_isSearch F a0 v1 h = some (r, h')) : Go k_RM_isSearch 0 (ck_in [.ref a0, .int v1] 2) [] h (some (.int r), h') := by
  unfold f_RM_isSearch at e
  show Go k_RM_isSearch 0 [some (.ref a0), some (.int v1)] [] h _
  refine go_iload_n rfl rfl ?_
  refine go_iconst (v := 3) rfl (by decide) ?_
  refine go_icmp_eq (t := 21) rfl rfl (fun hx_1 => ?_) (fun hx_1 => ?_)
  · rw [if_pos hx_1] at e
    refine go_iconst (v := 1) rfl (by decide) ?_
    refine go_goto (t := 26) rfl rfl ?_
    cases e
    exact go_ret rfl (ck_rvb rfl (Or.inr rfl))
  · rw [if_neg hx_1] at e
    refine go_iload_n rfl rfl ?_
    refine go_iconst (v := 4) rfl (by decide) ?_
    refine go_icmp_eq (t := 21) rfl rfl (fun hx_2 => ?_) (fun hx_2 => ?_)
    · rw [if_pos hx_2] at e
      refine go_iconst (v := 1) rfl (by decide) ?_
      refine go_goto (t := 26) rfl rfl ?_
      cases e
      exact go_ret rfl (ck_rvb rfl (Or.inr rfl))
    · rw [if_neg hx_2] at e
      refine go_iload_n rfl rfl ?_
      refine go_iconst (v := 5) rfl (by decide) ?_
      refine go_icmp_eq (t := 21) rfl rfl (fun hx_3 => ?_) (fun hx_3 => ?_)
      · rw [if_pos hx_3] at e
        refine go_iconst (v := 1) rfl (by decide) ?_
        refine go_goto (t := 26) rfl rfl ?_
        cases e
        exact go_ret rfl (ck_rvb rfl (Or.inr rfl))
      · rw [if_neg hx_3] at e
        refine go_iload_n rfl rfl ?_
        refine go_bipush (v := 6) rfl (by decide) ?_
        refine go_icmp_ne (t := 25) rfl rfl (fun hx_4 => ?_) (fun hx_4 => ?_)
        · rw [if_pos hx_4] at e
          refine go_iconst (v := 1) rfl (by decide) ?_
          refine go_goto (t := 26) rfl rfl ?_
          cases e
          exact go_ret rfl (ck_rvb rfl (Or.inr rfl))
        · rw [if_neg hx_4] at e
          refine go_iconst (v := 0) rfl (by decide) ?_
          cases e
          exact go_ret rfl (ck_rvb rfl (Or.inl rfl))
def f_RM_leader (F : Nat) (a0 : Nat) (v1 : Int32) (h : ck_H) : Option (Int32 × ck_H) :=
  if v1 < (2 : Int32) then
    some (0, h)
  else
    ck_as (gk h a0 = 12) <|
    ck_some (gR h a0 15) fun b3 =>
    ck_as ((gk h b3 = 14 ∨ gk h b3 = 21) ∧ ¬ (v1 - 1) < 0 ∧ (v1 - 1 : Int32).toNatClampNeg < gz h b3) <|
    if (gI h b3 (v1 - 1 : Int32).toNatClampNeg) = (7 : Int32) then
      ck_some (gR h a0 15) fun b7 =>
      ck_as ((gk h b7 = 14 ∨ gk h b7 = 21) ∧ ¬ (v1 - 2) < 0 ∧ (v1 - 2 : Int32).toNatClampNeg < gz h b7) <|
      ck_bd (f_RM_isSearch F a0 (gI h b7 (v1 - 2 : Int32).toNatClampNeg) h) fun r10 h11 =>
      if r10 = (0 : Int32) then
        some (0, h11)
      else
        ck_as (gk h11 a0 = 12) <|
        ck_some (gR h11 a0 15) fun b15 =>
        ck_as ((gk h11 b15 = 14 ∨ gk h11 b15 = 21) ∧ ¬ (v1 - 2) < 0 ∧ (v1 - 2 : Int32).toNatClampNeg < gz h11 b15) <|
        some (gI h11 b15 (v1 - 2 : Int32).toNatClampNeg, h11)
    else
      some (0, h)
set_option maxRecDepth 100000 in
set_option maxHeartbeats 4000000 in
theorem s_RM_leader {F : Nat} {a0 : Nat} {v1 : Int32} {h h' : ck_H} {r : Int32} (e : f_RM_leader F a0 v1 h = some (r, h')) : Go k_RM_leader 0 (ck_in [.ref a0, .int v1] 2) [] h (some (.int r), h') := by
  unfold f_RM_leader at e
  show Go k_RM_leader 0 [some (.ref a0), some (.int v1)] [] h _
  refine go_iload_n rfl rfl ?_
  refine go_iconst (v := 2) rfl (by decide) ?_
  refine go_icmp_lt (t := 44) rfl rfl (fun hx_1 => ?_) (fun hx_1 => ?_)
  · rw [if_pos hx_1] at e
    refine go_iconst (v := 0) rfl (by decide) ?_
    cases e
    exact go_ret rfl rfl
  · rw [if_neg hx_1] at e
    refine go_aload_n rfl rfl ?_
    replace e := ck_as_e e
    obtain ⟨hk_2, e⟩ := e
    replace e := ck_some_e e
    obtain ⟨b3, hq_4, e⟩ := e
    refine go_get (v := .ref b3) rfl rfl hk_2 (by decide) (by show va_rf (gR h a0 15) = _; rw [hq_4]; rfl) ?_
    refine go_iload_n rfl rfl ?_
    refine go_iconst (v := 1) rfl (by decide) ?_
    refine go_isub rfl ?_
    replace e := ck_as_e e
    obtain ⟨hc_5, e⟩ := e
    refine go_iald rfl hc_5 ?_
    refine go_bipush (v := 7) rfl (by decide) ?_
    refine go_icmp_ne (t := 44) rfl rfl (fun hx_6 => ?_) (fun hx_6 => ?_)
    · rw [if_pos hx_6] at e
      refine go_aload_n rfl rfl ?_
      refine go_aload_n rfl rfl ?_
      replace e := ck_some_e e
      obtain ⟨b7, hq_8, e⟩ := e
      refine go_get (v := .ref b7) rfl rfl hk_2 (by decide) (by show va_rf (gR h a0 15) = _; rw [hq_8]; rfl) ?_
      refine go_iload_n rfl rfl ?_
      refine go_iconst (v := 2) rfl (by decide) ?_
      refine go_isub rfl ?_
      replace e := ck_as_e e
      obtain ⟨hc_9, e⟩ := e
      refine go_iald rfl hc_9 ?_
      replace e := ck_bd_e e
      obtain ⟨r10, h11, e12, e⟩ := e
      refine go_callV (As := [.int (gI h b7 (v1 - 2 : Int32).toNatClampNeg)]) (b0 := a0) (rest := []) rfl rfl ⟨hk_2, by decide⟩ rfl ⟨Nat.le_of_ble_eq_true rfl, Nat.le_of_ble_eq_true rfl, Nat.le_of_ble_eq_true rfl, Nat.le_of_ble_eq_true rfl⟩ (s_RM_isSearch e12) ?_
      show Go k_RM_leader 30 [some (.ref a0), some (.int v1)] [.int r10] h11 _
      refine go_if_eq (t := 44) rfl rfl (fun hx_13 => ?_) (fun hx_13 => ?_)
      · rw [if_pos hx_13] at e
        refine go_iconst (v := 0) rfl (by decide) ?_
        cases e
        exact go_ret rfl rfl
      · rw [if_neg hx_13] at e
        refine go_aload_n rfl rfl ?_
        replace e := ck_as_e e
        obtain ⟨hk_14, e⟩ := e
        replace e := ck_some_e e
        obtain ⟨b15, hq_16, e⟩ := e
        refine go_get (v := .ref b15) rfl rfl hk_14 (by decide) (by show va_rf (gR h11 a0 15) = _; rw [hq_16]; rfl) ?_
        refine go_iload_n rfl rfl ?_
        refine go_iconst (v := 2) rfl (by decide) ?_
        refine go_isub rfl ?_
        replace e := ck_as_e e
        obtain ⟨hc_17, e⟩ := e
        refine go_iald rfl hc_17 ?_
        refine go_goto (t := 45) rfl rfl ?_
        cases e
        exact go_ret rfl rfl
    · rw [if_neg hx_6] at e
      refine go_iconst (v := 0) rfl (by decide) ?_
      cases e
      exact go_ret rfl rfl
