theorem k_Op_addKeyed_d0 : (((ck_cd k_Op_addKeyed).drop 0).take 50).all (fun e => ck_dok (ck_bs k_Op_addKeyed) e.1 e.2) = true := by decide +kernel
theorem k_Op_addKeyed_d1 : (((ck_cd k_Op_addKeyed).drop 50).take 50).all (fun e => ck_dok (ck_bs k_Op_addKeyed) e.1 e.2) = true := by decide +kernel
theorem k_Op_addKeyed_e1 : ((ck_cd k_Op_addKeyed).drop 50).all (fun e => ck_dok (ck_bs k_Op_addKeyed) e.1 e.2) = true := by
  have h := k_Op_addKeyed_d1
  rwa [List.take_of_length_le (by decide)] at h
theorem k_Op_addKeyed_e0 : ((ck_cd k_Op_addKeyed).drop 0).all (fun e => ck_dok (ck_bs k_Op_addKeyed) e.1 e.2) = true := ck_al 50 k_Op_addKeyed_d0 (by rw [List.drop_drop]; exact k_Op_addKeyed_e1)
theorem k_Op_addKeyed_d : ck_DP k_Op_addKeyed := k_Op_addKeyed_e0
theorem k_CS_getKeyed_d : ck_DP k_CS_getKeyed := by decide +kernel
theorem k_Op_findKeyed_d0 : (((ck_cd k_Op_findKeyed).drop 0).take 50).all (fun e => ck_dok (ck_bs k_Op_findKeyed) e.1 e.2) = true := by decide +kernel
theorem k_Op_findKeyed_d1 : (((ck_cd k_Op_findKeyed).drop 50).take 50).all (fun e => ck_dok (ck_bs k_Op_findKeyed) e.1 e.2) = true := by decide +kernel
theorem k_Op_findKeyed_e1 : ((ck_cd k_Op_findKeyed).drop 50).all (fun e => ck_dok (ck_bs k_Op_findKeyed) e.1 e.2) = true := by
  have h := k_Op_findKeyed_d1
  rwa [List.take_of_length_le (by decide)] at h
theorem k_Op_findKeyed_e0 : ((ck_cd k_Op_findKeyed).drop 0).all (fun e => ck_dok (ck_bs k_Op_findKeyed) e.1 e.2) = true := ck_al 50 k_Op_findKeyed_d0 (by rw [List.drop_drop]; exact k_Op_findKeyed_e1)
theorem k_Op_findKeyed_d : ck_DP k_Op_findKeyed := k_Op_findKeyed_e0
theorem k_Op_tellKeyed_d : ck_DP k_Op_tellKeyed := by decide +kernel
theorem k_CS_member_d : ck_DP k_CS_member := by decide +kernel
theorem k_Op_choose_d0 : (((ck_cd k_Op_choose).drop 0).take 50).all (fun e => ck_dok (ck_bs k_Op_choose) e.1 e.2) = true := by decide +kernel
theorem k_Op_choose_d1 : (((ck_cd k_Op_choose).drop 50).take 50).all (fun e => ck_dok (ck_bs k_Op_choose) e.1 e.2) = true := by decide +kernel
theorem k_Op_choose_e1 : ((ck_cd k_Op_choose).drop 50).all (fun e => ck_dok (ck_bs k_Op_choose) e.1 e.2) = true := by
  have h := k_Op_choose_d1
  rwa [List.take_of_length_le (by decide)] at h
theorem k_Op_choose_e0 : ((ck_cd k_Op_choose).drop 0).all (fun e => ck_dok (ck_bs k_Op_choose) e.1 e.2) = true := ck_al 50 k_Op_choose_d0 (by rw [List.drop_drop]; exact k_Op_choose_e1)
theorem k_Op_choose_d : ck_DP k_Op_choose := k_Op_choose_e0
theorem k_Mb_find_d : ck_DP k_Mb_find := by decide +kernel
theorem k_Mb_placeOf_d : ck_DP k_Mb_placeOf := by decide +kernel
theorem k_Mb_compare_d : ck_DP k_Mb_compare := by decide +kernel
theorem k_Mb_has_d : ck_DP k_Mb_has := by decide +kernel
theorem k_Mb_blocksOf_d : ck_DP k_Mb_blocksOf := by decide +kernel
theorem k_CS_stow_d : ck_DP k_CS_stow := by decide +kernel
theorem k_Op_stowMember_d : ck_DP k_Op_stowMember := by decide +kernel
theorem k_Mb_insert_d : ck_DP k_Mb_insert := by decide +kernel
theorem k_Mb_move_d0 : (((ck_cd k_Mb_move).drop 0).take 50).all (fun e => ck_dok (ck_bs k_Mb_move) e.1 e.2) = true := by decide +kernel
theorem k_Mb_move_d1 : (((ck_cd k_Mb_move).drop 50).take 50).all (fun e => ck_dok (ck_bs k_Mb_move) e.1 e.2) = true := by decide +kernel
theorem k_Mb_move_e1 : ((ck_cd k_Mb_move).drop 50).all (fun e => ck_dok (ck_bs k_Mb_move) e.1 e.2) = true := by
  have h := k_Mb_move_d1
  rwa [List.take_of_length_le (by decide)] at h
theorem k_Mb_move_e0 : ((ck_cd k_Mb_move).drop 0).all (fun e => ck_dok (ck_bs k_Mb_move) e.1 e.2) = true := ck_al 50 k_Mb_move_d0 (by rw [List.drop_drop]; exact k_Mb_move_e1)
theorem k_Mb_move_d : ck_DP k_Mb_move := k_Mb_move_e0
theorem k_Mk_stowAs_d : ck_DP k_Mk_stowAs := by decide +kernel
theorem k_Mb_setBegin_d : ck_DP k_Mb_setBegin := by decide +kernel
theorem k_Mb_setBlocks_d : ck_DP k_Mb_setBlocks := by decide +kernel
theorem k_Vo_writeList_d0 : (((ck_cd k_Vo_writeList).drop 0).take 50).all (fun e => ck_dok (ck_bs k_Vo_writeList) e.1 e.2) = true := by decide +kernel
theorem k_Vo_writeList_d1 : (((ck_cd k_Vo_writeList).drop 50).take 50).all (fun e => ck_dok (ck_bs k_Vo_writeList) e.1 e.2) = true := by decide +kernel
theorem k_Vo_writeList_e1 : ((ck_cd k_Vo_writeList).drop 50).all (fun e => ck_dok (ck_bs k_Vo_writeList) e.1 e.2) = true := by
  have h := k_Vo_writeList_d1
  rwa [List.take_of_length_le (by decide)] at h
theorem k_Vo_writeList_e0 : ((ck_cd k_Vo_writeList).drop 0).all (fun e => ck_dok (ck_bs k_Vo_writeList) e.1 e.2) = true := ck_al 50 k_Vo_writeList_d0 (by rw [List.drop_drop]; exact k_Vo_writeList_e1)
theorem k_Vo_writeList_d : ck_DP k_Vo_writeList := k_Vo_writeList_e0
theorem k_Vo_fillLine_d0 : (((ck_cd k_Vo_fillLine).drop 0).take 50).all (fun e => ck_dok (ck_bs k_Vo_fillLine) e.1 e.2) = true := by decide +kernel
theorem k_Vo_fillLine_d1 : (((ck_cd k_Vo_fillLine).drop 50).take 50).all (fun e => ck_dok (ck_bs k_Vo_fillLine) e.1 e.2) = true := by decide +kernel
theorem k_Vo_fillLine_e1 : ((ck_cd k_Vo_fillLine).drop 50).all (fun e => ck_dok (ck_bs k_Vo_fillLine) e.1 e.2) = true := by
  have h := k_Vo_fillLine_d1
  rwa [List.take_of_length_le (by decide)] at h
theorem k_Vo_fillLine_e0 : ((ck_cd k_Vo_fillLine).drop 0).all (fun e => ck_dok (ck_bs k_Vo_fillLine) e.1 e.2) = true := ck_al 50 k_Vo_fillLine_d0 (by rw [List.drop_drop]; exact k_Vo_fillLine_e1)
theorem k_Vo_fillLine_d : ck_DP k_Vo_fillLine := k_Vo_fillLine_e0
theorem k_CS_memberAt_d : ck_DP k_CS_memberAt := by decide +kernel
theorem k_CS_libraryAt_d : ck_DP k_CS_libraryAt := by decide +kernel
theorem k_CS_drop_d : ck_DP k_CS_drop := by decide +kernel
theorem k_Mb_remove_d : ck_DP k_Mb_remove := by decide +kernel
theorem k_CS_press_d : ck_DP k_CS_press := by decide +kernel
theorem k_Vo_pressTogether_d0 : (((ck_cd k_Vo_pressTogether).drop 0).take 50).all (fun e => ck_dok (ck_bs k_Vo_pressTogether) e.1 e.2) = true := by decide +kernel
theorem k_Vo_pressTogether_d1 : (((ck_cd k_Vo_pressTogether).drop 50).take 50).all (fun e => ck_dok (ck_bs k_Vo_pressTogether) e.1 e.2) = true := by decide +kernel
theorem k_Vo_pressTogether_e1 : ((ck_cd k_Vo_pressTogether).drop 50).all (fun e => ck_dok (ck_bs k_Vo_pressTogether) e.1 e.2) = true := by
  have h := k_Vo_pressTogether_d1
  rwa [List.take_of_length_le (by decide)] at h
theorem k_Vo_pressTogether_e0 : ((ck_cd k_Vo_pressTogether).drop 0).all (fun e => ck_dok (ck_bs k_Vo_pressTogether) e.1 e.2) = true := ck_al 50 k_Vo_pressTogether_d0 (by rw [List.drop_drop]; exact k_Vo_pressTogether_e1)
theorem k_Vo_pressTogether_d : ck_DP k_Vo_pressTogether := k_Vo_pressTogether_e0
theorem k_Tr_copyOf_d : ck_DP k_Tr_copyOf := by decide +kernel
theorem k_Tr_appendCopy_d : ck_DP k_Tr_appendCopy := by decide +kernel
theorem k_Mb_beginningAt_d : ck_DP k_Mb_beginningAt := by decide +kernel
theorem k_Vo_moveBlock_d : ck_DP k_Vo_moveBlock := by decide +kernel
theorem k_CS_opened_d : ck_DP k_CS_opened := by decide +kernel
theorem k_RM_init_d0 : (((ck_cd k_RM_init).drop 0).take 50).all (fun e => ck_dok (ck_bs k_RM_init) e.1 e.2) = true := by decide +kernel
theorem k_RM_init_d1 : (((ck_cd k_RM_init).drop 50).take 50).all (fun e => ck_dok (ck_bs k_RM_init) e.1 e.2) = true := by decide +kernel
theorem k_RM_init_d2 : (((ck_cd k_RM_init).drop 100).take 50).all (fun e => ck_dok (ck_bs k_RM_init) e.1 e.2) = true := by decide +kernel
theorem k_RM_init_d3 : (((ck_cd k_RM_init).drop 150).take 50).all (fun e => ck_dok (ck_bs k_RM_init) e.1 e.2) = true := by decide +kernel
theorem k_RM_init_d4 : (((ck_cd k_RM_init).drop 200).take 50).all (fun e => ck_dok (ck_bs k_RM_init) e.1 e.2) = true := by decide +kernel
theorem k_RM_init_d5 : (((ck_cd k_RM_init).drop 250).take 50).all (fun e => ck_dok (ck_bs k_RM_init) e.1 e.2) = true := by decide +kernel
theorem k_RM_init_e5 : ((ck_cd k_RM_init).drop 250).all (fun e => ck_dok (ck_bs k_RM_init) e.1 e.2) = true := by
  have h := k_RM_init_d5
  rwa [List.take_of_length_le (by decide)] at h
theorem k_RM_init_e4 : ((ck_cd k_RM_init).drop 200).all (fun e => ck_dok (ck_bs k_RM_init) e.1 e.2) = true := ck_al 50 k_RM_init_d4 (by rw [List.drop_drop]; exact k_RM_init_e5)
theorem k_RM_init_e3 : ((ck_cd k_RM_init).drop 150).all (fun e => ck_dok (ck_bs k_RM_init) e.1 e.2) = true := ck_al 50 k_RM_init_d3 (by rw [List.drop_drop]; exact k_RM_init_e4)
theorem k_RM_init_e2 : ((ck_cd k_RM_init).drop 100).all (fun e => ck_dok (ck_bs k_RM_init) e.1 e.2) = true := ck_al 50 k_RM_init_d2 (by rw [List.drop_drop]; exact k_RM_init_e3)
theorem k_RM_init_e1 : ((ck_cd k_RM_init).drop 50).all (fun e => ck_dok (ck_bs k_RM_init) e.1 e.2) = true := ck_al 50 k_RM_init_d1 (by rw [List.drop_drop]; exact k_RM_init_e2)
theorem k_RM_init_e0 : ((ck_cd k_RM_init).drop 0).all (fun e => ck_dok (ck_bs k_RM_init) e.1 e.2) = true := ck_al 50 k_RM_init_d0 (by rw [List.drop_drop]; exact k_RM_init_e1)
theorem k_RM_init_d : ck_DP k_RM_init := k_RM_init_e0
theorem k_RM_feed_d : ck_DP k_RM_feed := by decide +kernel
theorem k_RM_lay_d : ck_DP k_RM_lay := by decide +kernel
theorem k_RM_end_d : ck_DP k_RM_end := by decide +kernel
theorem k_RM_in_d : ck_DP k_RM_in := by decide +kernel
theorem k_RM_out_d : ck_DP k_RM_out := by decide +kernel
theorem k_RM_command_d : ck_DP k_RM_command := by decide +kernel
theorem k_RM_memory_d : ck_DP k_RM_memory := by decide +kernel
theorem k_RM_poke_d : ck_DP k_RM_poke := by decide +kernel
theorem k_RM_read_d : ck_DP k_RM_read := by decide +kernel
theorem k_RM_start_d : ck_DP k_RM_start := by decide +kernel
theorem k_RM_checks_d : ck_DP k_RM_checks := by decide +kernel
theorem k_RM_chains_d : ck_DP k_RM_chains := by decide +kernel
theorem k_RM_isRight_d0 : (((ck_cd k_RM_isRight).drop 0).take 50).all (fun e => ck_dok (ck_bs k_RM_isRight) e.1 e.2) = true := by decide +kernel
theorem k_RM_isRight_d1 : (((ck_cd k_RM_isRight).drop 50).take 50).all (fun e => ck_dok (ck_bs k_RM_isRight) e.1 e.2) = true := by decide +kernel
theorem k_RM_isRight_d2 : (((ck_cd k_RM_isRight).drop 100).take 50).all (fun e => ck_dok (ck_bs k_RM_isRight) e.1 e.2) = true := by decide +kernel
theorem k_RM_isRight_d3 : (((ck_cd k_RM_isRight).drop 150).take 50).all (fun e => ck_dok (ck_bs k_RM_isRight) e.1 e.2) = true := by decide +kernel
theorem k_RM_isRight_e3 : ((ck_cd k_RM_isRight).drop 150).all (fun e => ck_dok (ck_bs k_RM_isRight) e.1 e.2) = true := by
  have h := k_RM_isRight_d3
  rwa [List.take_of_length_le (by decide)] at h
theorem k_RM_isRight_e2 : ((ck_cd k_RM_isRight).drop 100).all (fun e => ck_dok (ck_bs k_RM_isRight) e.1 e.2) = true := ck_al 50 k_RM_isRight_d2 (by rw [List.drop_drop]; exact k_RM_isRight_e3)
theorem k_RM_isRight_e1 : ((ck_cd k_RM_isRight).drop 50).all (fun e => ck_dok (ck_bs k_RM_isRight) e.1 e.2) = true := ck_al 50 k_RM_isRight_d1 (by rw [List.drop_drop]; exact k_RM_isRight_e2)
theorem k_RM_isRight_e0 : ((ck_cd k_RM_isRight).drop 0).all (fun e => ck_dok (ck_bs k_RM_isRight) e.1 e.2) = true := ck_al 50 k_RM_isRight_d0 (by rw [List.drop_drop]; exact k_RM_isRight_e1)
theorem k_RM_isRight_d : ck_DP k_RM_isRight := k_RM_isRight_e0
theorem k_RM_isSearch_d : ck_DP k_RM_isSearch := by decide +kernel
theorem k_RM_leader_d : ck_DP k_RM_leader := by decide +kernel
