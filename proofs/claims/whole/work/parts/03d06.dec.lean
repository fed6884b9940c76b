theorem k_RM_putVariable_d0 : (((ck_cd k_RM_putVariable).drop 0).take 50).all (fun e => ck_dok (ck_bs k_RM_putVariable) e.1 e.2) = true := by decide +kernel
theorem k_RM_putVariable_d1 : (((ck_cd k_RM_putVariable).drop 50).take 50).all (fun e => ck_dok (ck_bs k_RM_putVariable) e.1 e.2) = true := by decide +kernel
theorem k_RM_putVariable_e1 : ((ck_cd k_RM_putVariable).drop 50).all (fun e => ck_dok (ck_bs k_RM_putVariable) e.1 e.2) = true := by
  have h := k_RM_putVariable_d1
  rwa [List.take_of_length_le (by decide)] at h
theorem k_RM_putVariable_e0 : ((ck_cd k_RM_putVariable).drop 0).all (fun e => ck_dok (ck_bs k_RM_putVariable) e.1 e.2) = true := ck_al 50 k_RM_putVariable_d0 (by rw [List.drop_drop]; exact k_RM_putVariable_e1)
theorem k_RM_putVariable_d : ck_DP k_RM_putVariable := k_RM_putVariable_e0
theorem k_RM_headed_d : ck_DP k_RM_headed := by decide +kernel
theorem k_RM_bytes_d : ck_DP k_RM_bytes := by decide +kernel
theorem k_RM_tellSize_d : ck_DP k_RM_tellSize := by decide +kernel
theorem k_RM_putSpanned_d0 : (((ck_cd k_RM_putSpanned).drop 0).take 50).all (fun e => ck_dok (ck_bs k_RM_putSpanned) e.1 e.2) = true := by decide +kernel
theorem k_RM_putSpanned_d1 : (((ck_cd k_RM_putSpanned).drop 50).take 50).all (fun e => ck_dok (ck_bs k_RM_putSpanned) e.1 e.2) = true := by decide +kernel
theorem k_RM_putSpanned_d2 : (((ck_cd k_RM_putSpanned).drop 100).take 50).all (fun e => ck_dok (ck_bs k_RM_putSpanned) e.1 e.2) = true := by decide +kernel
theorem k_RM_putSpanned_e2 : ((ck_cd k_RM_putSpanned).drop 100).all (fun e => ck_dok (ck_bs k_RM_putSpanned) e.1 e.2) = true := by
  have h := k_RM_putSpanned_d2
  rwa [List.take_of_length_le (by decide)] at h
theorem k_RM_putSpanned_e1 : ((ck_cd k_RM_putSpanned).drop 50).all (fun e => ck_dok (ck_bs k_RM_putSpanned) e.1 e.2) = true := ck_al 50 k_RM_putSpanned_d1 (by rw [List.drop_drop]; exact k_RM_putSpanned_e2)
theorem k_RM_putSpanned_e0 : ((ck_cd k_RM_putSpanned).drop 0).all (fun e => ck_dok (ck_bs k_RM_putSpanned) e.1 e.2) = true := ck_al 50 k_RM_putSpanned_d0 (by rw [List.drop_drop]; exact k_RM_putSpanned_e1)
theorem k_RM_putSpanned_d : ck_DP k_RM_putSpanned := k_RM_putSpanned_e0
theorem k_RM_get_d0 : (((ck_cd k_RM_get).drop 0).take 50).all (fun e => ck_dok (ck_bs k_RM_get) e.1 e.2) = true := by decide +kernel
theorem k_RM_get_d1 : (((ck_cd k_RM_get).drop 50).take 50).all (fun e => ck_dok (ck_bs k_RM_get) e.1 e.2) = true := by decide +kernel
theorem k_RM_get_e1 : ((ck_cd k_RM_get).drop 50).all (fun e => ck_dok (ck_bs k_RM_get) e.1 e.2) = true := by
  have h := k_RM_get_d1
  rwa [List.take_of_length_le (by decide)] at h
theorem k_RM_get_e0 : ((ck_cd k_RM_get).drop 0).all (fun e => ck_dok (ck_bs k_RM_get) e.1 e.2) = true := ck_al 50 k_RM_get_d0 (by rw [List.drop_drop]; exact k_RM_get_e1)
theorem k_RM_get_d : ck_DP k_RM_get := k_RM_get_e0
theorem k_RM_getSpanned_d0 : (((ck_cd k_RM_getSpanned).drop 0).take 50).all (fun e => ck_dok (ck_bs k_RM_getSpanned) e.1 e.2) = true := by decide +kernel
theorem k_RM_getSpanned_d1 : (((ck_cd k_RM_getSpanned).drop 50).take 50).all (fun e => ck_dok (ck_bs k_RM_getSpanned) e.1 e.2) = true := by decide +kernel
theorem k_RM_getSpanned_e1 : ((ck_cd k_RM_getSpanned).drop 50).all (fun e => ck_dok (ck_bs k_RM_getSpanned) e.1 e.2) = true := by
  have h := k_RM_getSpanned_d1
  rwa [List.take_of_length_le (by decide)] at h
theorem k_RM_getSpanned_e0 : ((ck_cd k_RM_getSpanned).drop 0).all (fun e => ck_dok (ck_bs k_RM_getSpanned) e.1 e.2) = true := ck_al 50 k_RM_getSpanned_d0 (by rw [List.drop_drop]; exact k_RM_getSpanned_e1)
theorem k_RM_getSpanned_d : ck_DP k_RM_getSpanned := k_RM_getSpanned_e0
theorem k_RM_isThrough_d : ck_DP k_RM_isThrough := by decide +kernel
theorem k_RM_goOn_d0 : (((ck_cd k_RM_goOn).drop 0).take 50).all (fun e => ck_dok (ck_bs k_RM_goOn) e.1 e.2) = true := by decide +kernel
theorem k_RM_goOn_d1 : (((ck_cd k_RM_goOn).drop 50).take 50).all (fun e => ck_dok (ck_bs k_RM_goOn) e.1 e.2) = true := by decide +kernel
theorem k_RM_goOn_d2 : (((ck_cd k_RM_goOn).drop 100).take 50).all (fun e => ck_dok (ck_bs k_RM_goOn) e.1 e.2) = true := by decide +kernel
theorem k_RM_goOn_e2 : ((ck_cd k_RM_goOn).drop 100).all (fun e => ck_dok (ck_bs k_RM_goOn) e.1 e.2) = true := by
  have h := k_RM_goOn_d2
  rwa [List.take_of_length_le (by decide)] at h
theorem k_RM_goOn_e1 : ((ck_cd k_RM_goOn).drop 50).all (fun e => ck_dok (ck_bs k_RM_goOn) e.1 e.2) = true := ck_al 50 k_RM_goOn_d1 (by rw [List.drop_drop]; exact k_RM_goOn_e2)
theorem k_RM_goOn_e0 : ((ck_cd k_RM_goOn).drop 0).all (fun e => ck_dok (ck_bs k_RM_goOn) e.1 e.2) = true := ck_al 50 k_RM_goOn_d0 (by rw [List.drop_drop]; exact k_RM_goOn_e1)
theorem k_RM_goOn_d : ck_DP k_RM_goOn := k_RM_goOn_e0
theorem k_RM_two_d : ck_DP k_RM_two := by decide +kernel
theorem k_RM_piece_d : ck_DP k_RM_piece := by decide +kernel
theorem k_RM_tell_d0 : (((ck_cd k_RM_tell).drop 0).take 50).all (fun e => ck_dok (ck_bs k_RM_tell) e.1 e.2) = true := by decide +kernel
theorem k_RM_tell_d1 : (((ck_cd k_RM_tell).drop 50).take 50).all (fun e => ck_dok (ck_bs k_RM_tell) e.1 e.2) = true := by decide +kernel
theorem k_RM_tell_e1 : ((ck_cd k_RM_tell).drop 50).all (fun e => ck_dok (ck_bs k_RM_tell) e.1 e.2) = true := by
  have h := k_RM_tell_d1
  rwa [List.take_of_length_le (by decide)] at h
theorem k_RM_tell_e0 : ((ck_cd k_RM_tell).drop 0).all (fun e => ck_dok (ck_bs k_RM_tell) e.1 e.2) = true := ck_al 50 k_RM_tell_d0 (by rw [List.drop_drop]; exact k_RM_tell_e1)
theorem k_RM_tell_d : ck_DP k_RM_tell := k_RM_tell_e0
theorem k_RM_getWhole_d0 : (((ck_cd k_RM_getWhole).drop 0).take 50).all (fun e => ck_dok (ck_bs k_RM_getWhole) e.1 e.2) = true := by decide +kernel
theorem k_RM_getWhole_d1 : (((ck_cd k_RM_getWhole).drop 50).take 50).all (fun e => ck_dok (ck_bs k_RM_getWhole) e.1 e.2) = true := by decide +kernel
theorem k_RM_getWhole_e1 : ((ck_cd k_RM_getWhole).drop 50).all (fun e => ck_dok (ck_bs k_RM_getWhole) e.1 e.2) = true := by
  have h := k_RM_getWhole_d1
  rwa [List.take_of_length_le (by decide)] at h
theorem k_RM_getWhole_e0 : ((ck_cd k_RM_getWhole).drop 0).all (fun e => ck_dok (ck_bs k_RM_getWhole) e.1 e.2) = true := ck_al 50 k_RM_getWhole_d0 (by rw [List.drop_drop]; exact k_RM_getWhole_e1)
theorem k_RM_getWhole_d : ck_DP k_RM_getWhole := k_RM_getWhole_e0
theorem k_RM_rewrite_d0 : (((ck_cd k_RM_rewrite).drop 0).take 50).all (fun e => ck_dok (ck_bs k_RM_rewrite) e.1 e.2) = true := by decide +kernel
theorem k_RM_rewrite_d1 : (((ck_cd k_RM_rewrite).drop 50).take 50).all (fun e => ck_dok (ck_bs k_RM_rewrite) e.1 e.2) = true := by decide +kernel
theorem k_RM_rewrite_d2 : (((ck_cd k_RM_rewrite).drop 100).take 50).all (fun e => ck_dok (ck_bs k_RM_rewrite) e.1 e.2) = true := by decide +kernel
theorem k_RM_rewrite_e2 : ((ck_cd k_RM_rewrite).drop 100).all (fun e => ck_dok (ck_bs k_RM_rewrite) e.1 e.2) = true := by
  have h := k_RM_rewrite_d2
  rwa [List.take_of_length_le (by decide)] at h
theorem k_RM_rewrite_e1 : ((ck_cd k_RM_rewrite).drop 50).all (fun e => ck_dok (ck_bs k_RM_rewrite) e.1 e.2) = true := ck_al 50 k_RM_rewrite_d1 (by rw [List.drop_drop]; exact k_RM_rewrite_e2)
theorem k_RM_rewrite_e0 : ((ck_cd k_RM_rewrite).drop 0).all (fun e => ck_dok (ck_bs k_RM_rewrite) e.1 e.2) = true := ck_al 50 k_RM_rewrite_d0 (by rw [List.drop_drop]; exact k_RM_rewrite_e1)
theorem k_RM_rewrite_d : ck_DP k_RM_rewrite := k_RM_rewrite_e0
theorem k_RM_putKeyed_d0 : (((ck_cd k_RM_putKeyed).drop 0).take 50).all (fun e => ck_dok (ck_bs k_RM_putKeyed) e.1 e.2) = true := by decide +kernel
theorem k_RM_putKeyed_d1 : (((ck_cd k_RM_putKeyed).drop 50).take 50).all (fun e => ck_dok (ck_bs k_RM_putKeyed) e.1 e.2) = true := by decide +kernel
theorem k_RM_putKeyed_d2 : (((ck_cd k_RM_putKeyed).drop 100).take 50).all (fun e => ck_dok (ck_bs k_RM_putKeyed) e.1 e.2) = true := by decide +kernel
theorem k_RM_putKeyed_d3 : (((ck_cd k_RM_putKeyed).drop 150).take 50).all (fun e => ck_dok (ck_bs k_RM_putKeyed) e.1 e.2) = true := by decide +kernel
theorem k_RM_putKeyed_e3 : ((ck_cd k_RM_putKeyed).drop 150).all (fun e => ck_dok (ck_bs k_RM_putKeyed) e.1 e.2) = true := by
  have h := k_RM_putKeyed_d3
  rwa [List.take_of_length_le (by decide)] at h
theorem k_RM_putKeyed_e2 : ((ck_cd k_RM_putKeyed).drop 100).all (fun e => ck_dok (ck_bs k_RM_putKeyed) e.1 e.2) = true := ck_al 50 k_RM_putKeyed_d2 (by rw [List.drop_drop]; exact k_RM_putKeyed_e3)
theorem k_RM_putKeyed_e1 : ((ck_cd k_RM_putKeyed).drop 50).all (fun e => ck_dok (ck_bs k_RM_putKeyed) e.1 e.2) = true := ck_al 50 k_RM_putKeyed_d1 (by rw [List.drop_drop]; exact k_RM_putKeyed_e2)
theorem k_RM_putKeyed_e0 : ((ck_cd k_RM_putKeyed).drop 0).all (fun e => ck_dok (ck_bs k_RM_putKeyed) e.1 e.2) = true := ck_al 50 k_RM_putKeyed_d0 (by rw [List.drop_drop]; exact k_RM_putKeyed_e1)
theorem k_RM_putKeyed_d : ck_DP k_RM_putKeyed := k_RM_putKeyed_e0
theorem k_RM_lookedMany_d : ck_DP k_RM_lookedMany := by decide +kernel
theorem k_RM_lookedTrack_d : ck_DP k_RM_lookedTrack := by decide +kernel
theorem k_RM_keyedOn_d0 : (((ck_cd k_RM_keyedOn).drop 0).take 50).all (fun e => ck_dok (ck_bs k_RM_keyedOn) e.1 e.2) = true := by decide +kernel
theorem k_RM_keyedOn_d1 : (((ck_cd k_RM_keyedOn).drop 50).take 50).all (fun e => ck_dok (ck_bs k_RM_keyedOn) e.1 e.2) = true := by decide +kernel
theorem k_RM_keyedOn_e1 : ((ck_cd k_RM_keyedOn).drop 50).all (fun e => ck_dok (ck_bs k_RM_keyedOn) e.1 e.2) = true := by
  have h := k_RM_keyedOn_d1
  rwa [List.take_of_length_le (by decide)] at h
theorem k_RM_keyedOn_e0 : ((ck_cd k_RM_keyedOn).drop 0).all (fun e => ck_dok (ck_bs k_RM_keyedOn) e.1 e.2) = true := ck_al 50 k_RM_keyedOn_d0 (by rw [List.drop_drop]; exact k_RM_keyedOn_e1)
theorem k_RM_keyedOn_d : ck_DP k_RM_keyedOn := k_RM_keyedOn_e0
theorem k_RM_keep_d : ck_DP k_RM_keep := by decide +kernel
theorem k_RM_getKeyed_d0 : (((ck_cd k_RM_getKeyed).drop 0).take 50).all (fun e => ck_dok (ck_bs k_RM_getKeyed) e.1 e.2) = true := by decide +kernel
theorem k_RM_getKeyed_d1 : (((ck_cd k_RM_getKeyed).drop 50).take 50).all (fun e => ck_dok (ck_bs k_RM_getKeyed) e.1 e.2) = true := by decide +kernel
theorem k_RM_getKeyed_d2 : (((ck_cd k_RM_getKeyed).drop 100).take 50).all (fun e => ck_dok (ck_bs k_RM_getKeyed) e.1 e.2) = true := by decide +kernel
theorem k_RM_getKeyed_e2 : ((ck_cd k_RM_getKeyed).drop 100).all (fun e => ck_dok (ck_bs k_RM_getKeyed) e.1 e.2) = true := by
  have h := k_RM_getKeyed_d2
  rwa [List.take_of_length_le (by decide)] at h
theorem k_RM_getKeyed_e1 : ((ck_cd k_RM_getKeyed).drop 50).all (fun e => ck_dok (ck_bs k_RM_getKeyed) e.1 e.2) = true := ck_al 50 k_RM_getKeyed_d1 (by rw [List.drop_drop]; exact k_RM_getKeyed_e2)
theorem k_RM_getKeyed_e0 : ((ck_cd k_RM_getKeyed).drop 0).all (fun e => ck_dok (ck_bs k_RM_getKeyed) e.1 e.2) = true := ck_al 50 k_RM_getKeyed_d0 (by rw [List.drop_drop]; exact k_RM_getKeyed_e1)
theorem k_RM_getKeyed_d : ck_DP k_RM_getKeyed := k_RM_getKeyed_e0
theorem k_RM_member_d0 : (((ck_cd k_RM_member).drop 0).take 50).all (fun e => ck_dok (ck_bs k_RM_member) e.1 e.2) = true := by decide +kernel
theorem k_RM_member_d1 : (((ck_cd k_RM_member).drop 50).take 50).all (fun e => ck_dok (ck_bs k_RM_member) e.1 e.2) = true := by decide +kernel
theorem k_RM_member_e1 : ((ck_cd k_RM_member).drop 50).all (fun e => ck_dok (ck_bs k_RM_member) e.1 e.2) = true := by
  have h := k_RM_member_d1
  rwa [List.take_of_length_le (by decide)] at h
theorem k_RM_member_e0 : ((ck_cd k_RM_member).drop 0).all (fun e => ck_dok (ck_bs k_RM_member) e.1 e.2) = true := ck_al 50 k_RM_member_d0 (by rw [List.drop_drop]; exact k_RM_member_e1)
theorem k_RM_member_d : ck_DP k_RM_member := k_RM_member_e0
theorem k_RM_findMember_d : ck_DP k_RM_findMember := by decide +kernel
theorem k_RM_stow_d0 : (((ck_cd k_RM_stow).drop 0).take 50).all (fun e => ck_dok (ck_bs k_RM_stow) e.1 e.2) = true := by decide +kernel
theorem k_RM_stow_d1 : (((ck_cd k_RM_stow).drop 50).take 50).all (fun e => ck_dok (ck_bs k_RM_stow) e.1 e.2) = true := by decide +kernel
theorem k_RM_stow_d2 : (((ck_cd k_RM_stow).drop 100).take 50).all (fun e => ck_dok (ck_bs k_RM_stow) e.1 e.2) = true := by decide +kernel
theorem k_RM_stow_d3 : (((ck_cd k_RM_stow).drop 150).take 50).all (fun e => ck_dok (ck_bs k_RM_stow) e.1 e.2) = true := by decide +kernel
theorem k_RM_stow_e3 : ((ck_cd k_RM_stow).drop 150).all (fun e => ck_dok (ck_bs k_RM_stow) e.1 e.2) = true := by
  have h := k_RM_stow_d3
  rwa [List.take_of_length_le (by decide)] at h
theorem k_RM_stow_e2 : ((ck_cd k_RM_stow).drop 100).all (fun e => ck_dok (ck_bs k_RM_stow) e.1 e.2) = true := ck_al 50 k_RM_stow_d2 (by rw [List.drop_drop]; exact k_RM_stow_e3)
theorem k_RM_stow_e1 : ((ck_cd k_RM_stow).drop 50).all (fun e => ck_dok (ck_bs k_RM_stow) e.1 e.2) = true := ck_al 50 k_RM_stow_d1 (by rw [List.drop_drop]; exact k_RM_stow_e2)
theorem k_RM_stow_e0 : ((ck_cd k_RM_stow).drop 0).all (fun e => ck_dok (ck_bs k_RM_stow) e.1 e.2) = true := ck_al 50 k_RM_stow_d0 (by rw [List.drop_drop]; exact k_RM_stow_e1)
theorem k_RM_stow_d : ck_DP k_RM_stow := k_RM_stow_e0
theorem k_RM_order_d : ck_DP k_RM_order := by decide +kernel
theorem k_RM_copyMember_d : ck_DP k_RM_copyMember := by decide +kernel
