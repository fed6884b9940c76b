theorem k_CS_init_d0 : (((ck_cd k_CS_init).drop 0).take 50).all (fun e => ck_dok (ck_bs k_CS_init) e.1 e.2) = true := by decide +kernel
theorem k_CS_init_d1 : (((ck_cd k_CS_init).drop 50).take 50).all (fun e => ck_dok (ck_bs k_CS_init) e.1 e.2) = true := by decide +kernel
theorem k_CS_init_e1 : ((ck_cd k_CS_init).drop 50).all (fun e => ck_dok (ck_bs k_CS_init) e.1 e.2) = true := by
  have h := k_CS_init_d1
  rwa [List.take_of_length_le (by decide)] at h
theorem k_CS_init_e0 : ((ck_cd k_CS_init).drop 0).all (fun e => ck_dok (ck_bs k_CS_init) e.1 e.2) = true := ck_al 50 k_CS_init_d0 (by rw [List.drop_drop]; exact k_CS_init_e1)
theorem k_CS_init_d : ck_DP k_CS_init := k_CS_init_e0
theorem k_Rw_init_d : ck_DP k_Rw_init := by decide +kernel
theorem k_Un_init_d : ck_DP k_Un_init := by decide +kernel
theorem k_Tr_init_d : ck_DP k_Tr_init := by decide +kernel
theorem k_Ch_init_d : ck_DP k_Ch_init := by decide +kernel
theorem k_Cm_init_d : ck_DP k_Cm_init := by decide +kernel
theorem k_Vo_init_d0 : (((ck_cd k_Vo_init).drop 0).take 50).all (fun e => ck_dok (ck_bs k_Vo_init) e.1 e.2) = true := by decide +kernel
theorem k_Vo_init_d1 : (((ck_cd k_Vo_init).drop 50).take 50).all (fun e => ck_dok (ck_bs k_Vo_init) e.1 e.2) = true := by decide +kernel
theorem k_Vo_init_e1 : ((ck_cd k_Vo_init).drop 50).all (fun e => ck_dok (ck_bs k_Vo_init) e.1 e.2) = true := by
  have h := k_Vo_init_d1
  rwa [List.take_of_length_le (by decide)] at h
theorem k_Vo_init_e0 : ((ck_cd k_Vo_init).drop 0).all (fun e => ck_dok (ck_bs k_Vo_init) e.1 e.2) = true := ck_al 50 k_Vo_init_d0 (by rw [List.drop_drop]; exact k_Vo_init_e1)
theorem k_Vo_init_d : ck_DP k_Vo_init := k_Vo_init_e0
theorem k_DS_init_d : ck_DP k_DS_init := by decide +kernel
theorem k_Mb_init_d : ck_DP k_Mb_init := by decide +kernel
theorem k_Op_init_d : ck_DP k_Op_init := by decide +kernel
theorem k_Mk_init_d : ck_DP k_Mk_init := by decide +kernel
theorem k_Sp_init_d : ck_DP k_Sp_init := by decide +kernel
theorem k_CS_feed_d : ck_DP k_CS_feed := by decide +kernel
theorem k_Rw_addWord_d : ck_DP k_Rw_addWord := by decide +kernel
theorem k_Rw_addPair_d : ck_DP k_Rw_addPair := by decide +kernel
theorem k_Rw_addByte_d : ck_DP k_Rw_addByte := by decide +kernel
theorem k_CS_end_d : ck_DP k_CS_end := by decide +kernel
theorem k_CS_out_d : ck_DP k_CS_out := by decide +kernel
theorem k_Rw_byteAt_d : ck_DP k_Rw_byteAt := by decide +kernel
theorem k_CS_command_d : ck_DP k_CS_command := by decide +kernel
theorem k_Ch_setCommand_d : ck_DP k_Ch_setCommand := by decide +kernel
theorem k_CS_memory_d : ck_DP k_CS_memory := by decide +kernel
theorem k_Ch_byteAt_d : ck_DP k_Ch_byteAt := by decide +kernel
theorem k_CS_poke_d : ck_DP k_CS_poke := by decide +kernel
theorem k_Ch_fill_d : ck_DP k_Ch_fill := by decide +kernel
theorem k_CS_start_d : ck_DP k_CS_start := by decide +kernel
theorem k_CS_unitAt_d : ck_DP k_CS_unitAt := by decide +kernel
theorem k_Ch_run_d0 : (((ck_cd k_Ch_run).drop 0).take 50).all (fun e => ck_dok (ck_bs k_Ch_run) e.1 e.2) = true := by decide +kernel
theorem k_Ch_run_d1 : (((ck_cd k_Ch_run).drop 50).take 50).all (fun e => ck_dok (ck_bs k_Ch_run) e.1 e.2) = true := by decide +kernel
theorem k_Ch_run_e1 : ((ck_cd k_Ch_run).drop 50).all (fun e => ck_dok (ck_bs k_Ch_run) e.1 e.2) = true := by
  have h := k_Ch_run_d1
  rwa [List.take_of_length_le (by decide)] at h
theorem k_Ch_run_e0 : ((ck_cd k_Ch_run).drop 0).all (fun e => ck_dok (ck_bs k_Ch_run) e.1 e.2) = true := ck_al 50 k_Ch_run_d0 (by rw [List.drop_drop]; exact k_Ch_run_e1)
theorem k_Ch_run_d : ck_DP k_Ch_run := k_Ch_run_e0
theorem k_Ch_reset_d : ck_DP k_Ch_reset := by decide +kernel
theorem k_Ch_setPoint_d : ck_DP k_Ch_setPoint := by decide +kernel
theorem k_Ch_programLength_d : ck_DP k_Ch_programLength := by decide +kernel
theorem k_Cm_chains_d : ck_DP k_Cm_chains := by decide +kernel
theorem k_Ch_passesCheck_d : ck_DP k_Ch_passesCheck := by decide +kernel
theorem k_Ch_isAllowed_d : ck_DP k_Ch_isAllowed := by decide +kernel
theorem k_Ch_usesMemory_d : ck_DP k_Ch_usesMemory := by decide +kernel
theorem k_Ch_isInMemory_d : ck_DP k_Ch_isInMemory := by decide +kernel
theorem k_Ch_hasItsLength_d : ck_DP k_Ch_hasItsLength := by decide +kernel
theorem k_Ch_standsRight_d0 : (((ck_cd k_Ch_standsRight).drop 0).take 50).all (fun e => ck_dok (ck_bs k_Ch_standsRight) e.1 e.2) = true := by decide +kernel
theorem k_Ch_standsRight_d1 : (((ck_cd k_Ch_standsRight).drop 50).take 50).all (fun e => ck_dok (ck_bs k_Ch_standsRight) e.1 e.2) = true := by decide +kernel
theorem k_Ch_standsRight_e1 : ((ck_cd k_Ch_standsRight).drop 50).all (fun e => ck_dok (ck_bs k_Ch_standsRight) e.1 e.2) = true := by
  have h := k_Ch_standsRight_d1
  rwa [List.take_of_length_le (by decide)] at h
theorem k_Ch_standsRight_e0 : ((ck_cd k_Ch_standsRight).drop 0).all (fun e => ck_dok (ck_bs k_Ch_standsRight) e.1 e.2) = true := ck_al 50 k_Ch_standsRight_d0 (by rw [List.drop_drop]; exact k_Ch_standsRight_e1)
theorem k_Ch_standsRight_d : ck_DP k_Ch_standsRight := k_Ch_standsRight_e0
theorem k_Ch_leaderOf_d : ck_DP k_Ch_leaderOf := by decide +kernel
theorem k_Ch_opAt_d : ck_DP k_Ch_opAt := by decide +kernel
theorem k_Ch_isSearch_d : ck_DP k_Ch_isSearch := by decide +kernel
theorem k_Ch_writes_d : ck_DP k_Ch_writes := by decide +kernel
theorem k_Ch_perform_d0 : (((ck_cd k_Ch_perform).drop 0).take 50).all (fun e => ck_dok (ck_bs k_Ch_perform) e.1 e.2) = true := by decide +kernel
theorem k_Ch_perform_d1 : (((ck_cd k_Ch_perform).drop 50).take 50).all (fun e => ck_dok (ck_bs k_Ch_perform) e.1 e.2) = true := by decide +kernel
theorem k_Ch_perform_e1 : ((ck_cd k_Ch_perform).drop 50).all (fun e => ck_dok (ck_bs k_Ch_perform) e.1 e.2) = true := by
  have h := k_Ch_perform_d1
  rwa [List.take_of_length_le (by decide)] at h
theorem k_Ch_perform_e0 : ((ck_cd k_Ch_perform).drop 0).all (fun e => ck_dok (ck_bs k_Ch_perform) e.1 e.2) = true := ck_al 50 k_Ch_perform_d0 (by rw [List.drop_drop]; exact k_Ch_perform_e1)
theorem k_Ch_perform_d : ck_DP k_Ch_perform := k_Ch_perform_e0
theorem k_Ch_seek_d0 : (((ck_cd k_Ch_seek).drop 0).take 50).all (fun e => ck_dok (ck_bs k_Ch_seek) e.1 e.2) = true := by decide +kernel
theorem k_Ch_seek_d1 : (((ck_cd k_Ch_seek).drop 50).take 50).all (fun e => ck_dok (ck_bs k_Ch_seek) e.1 e.2) = true := by decide +kernel
theorem k_Ch_seek_e1 : ((ck_cd k_Ch_seek).drop 50).all (fun e => ck_dok (ck_bs k_Ch_seek) e.1 e.2) = true := by
  have h := k_Ch_seek_d1
  rwa [List.take_of_length_le (by decide)] at h
theorem k_Ch_seek_e0 : ((ck_cd k_Ch_seek).drop 0).all (fun e => ck_dok (ck_bs k_Ch_seek) e.1 e.2) = true := ck_al 50 k_Ch_seek_d0 (by rw [List.drop_drop]; exact k_Ch_seek_e1)
theorem k_Ch_seek_d : ck_DP k_Ch_seek := k_Ch_seek_e0
theorem k_Ch_stop_d : ck_DP k_Ch_stop := by decide +kernel
theorem k_Ma_abs_d : ck_DP k_Ma_abs := by decide +kernel
theorem k_Ch_chooseHead_d : ck_DP k_Ch_chooseHead := by decide +kernel
theorem k_Ch_searchHome_d0 : (((ck_cd k_Ch_searchHome).drop 0).take 50).all (fun e => ck_dok (ck_bs k_Ch_searchHome) e.1 e.2) = true := by decide +kernel
theorem k_Ch_searchHome_d1 : (((ck_cd k_Ch_searchHome).drop 50).take 50).all (fun e => ck_dok (ck_bs k_Ch_searchHome) e.1 e.2) = true := by decide +kernel
theorem k_Ch_searchHome_e1 : ((ck_cd k_Ch_searchHome).drop 50).all (fun e => ck_dok (ck_bs k_Ch_searchHome) e.1 e.2) = true := by
  have h := k_Ch_searchHome_d1
  rwa [List.take_of_length_le (by decide)] at h
theorem k_Ch_searchHome_e0 : ((ck_cd k_Ch_searchHome).drop 0).all (fun e => ck_dok (ck_bs k_Ch_searchHome) e.1 e.2) = true := ck_al 50 k_Ch_searchHome_d0 (by rw [List.drop_drop]; exact k_Ch_searchHome_e1)
theorem k_Ch_searchHome_d : ck_DP k_Ch_searchHome := k_Ch_searchHome_e0
theorem k_Ch_goTo_d : ck_DP k_Ch_goTo := by decide +kernel
theorem k_Ch_skipIf_d : ck_DP k_Ch_skipIf := by decide +kernel
theorem k_Ch_searchId_d : ck_DP k_Ch_searchId := by decide +kernel
theorem k_Ch_nextRecord_d : ck_DP k_Ch_nextRecord := by decide +kernel
theorem k_Ch_track_d : ck_DP k_Ch_track := by decide +kernel
theorem k_Ch_place_d : ck_DP k_Ch_place := by decide +kernel
theorem k_Tr_firstFrom_d : ck_DP k_Tr_firstFrom := by decide +kernel
theorem k_Tr_beginOf_d : ck_DP k_Tr_beginOf := by decide +kernel
theorem k_Tr_countByte_d : ck_DP k_Tr_countByte := by decide +kernel
theorem k_Tr_has_d : ck_DP k_Tr_has := by decide +kernel
theorem k_Ch_searchKey_d0 : (((ck_cd k_Ch_searchKey).drop 0).take 50).all (fun e => ck_dok (ck_bs k_Ch_searchKey) e.1 e.2) = true := by decide +kernel
theorem k_Ch_searchKey_d1 : (((ck_cd k_Ch_searchKey).drop 50).take 50).all (fun e => ck_dok (ck_bs k_Ch_searchKey) e.1 e.2) = true := by decide +kernel
theorem k_Ch_searchKey_e1 : ((ck_cd k_Ch_searchKey).drop 50).all (fun e => ck_dok (ck_bs k_Ch_searchKey) e.1 e.2) = true := by
  have h := k_Ch_searchKey_d1
  rwa [List.take_of_length_le (by decide)] at h
theorem k_Ch_searchKey_e0 : ((ck_cd k_Ch_searchKey).drop 0).all (fun e => ck_dok (ck_bs k_Ch_searchKey) e.1 e.2) = true := ck_al 50 k_Ch_searchKey_d0 (by rw [List.drop_drop]; exact k_Ch_searchKey_e1)
theorem k_Ch_searchKey_d : ck_DP k_Ch_searchKey := k_Ch_searchKey_e0
theorem k_Ch_countPassed_d : ck_DP k_Ch_countPassed := by decide +kernel
theorem k_Tr_keyLength_d : ck_DP k_Tr_keyLength := by decide +kernel
theorem k_Tr_compareKey_d : ck_DP k_Tr_compareKey := by decide +kernel
theorem k_Tr_byteOf_d : ck_DP k_Tr_byteOf := by decide +kernel
theorem k_Ch_readCount_d : ck_DP k_Ch_readCount := by decide +kernel
theorem k_Ch_deliver_d0 : (((ck_cd k_Ch_deliver).drop 0).take 50).all (fun e => ck_dok (ck_bs k_Ch_deliver) e.1 e.2) = true := by decide +kernel
theorem k_Ch_deliver_d1 : (((ck_cd k_Ch_deliver).drop 50).take 50).all (fun e => ck_dok (ck_bs k_Ch_deliver) e.1 e.2) = true := by decide +kernel
theorem k_Ch_deliver_e1 : ((ck_cd k_Ch_deliver).drop 50).all (fun e => ck_dok (ck_bs k_Ch_deliver) e.1 e.2) = true := by
  have h := k_Ch_deliver_d1
  rwa [List.take_of_length_le (by decide)] at h
theorem k_Ch_deliver_e0 : ((ck_cd k_Ch_deliver).drop 0).all (fun e => ck_dok (ck_bs k_Ch_deliver) e.1 e.2) = true := ck_al 50 k_Ch_deliver_d0 (by rw [List.drop_drop]; exact k_Ch_deliver_e1)
theorem k_Ch_deliver_d : ck_DP k_Ch_deliver := k_Ch_deliver_e0
theorem k_Cm_drops_d : ck_DP k_Cm_drops := by decide +kernel
theorem k_Ma_min_d : ck_DP k_Ma_min := by decide +kernel
theorem k_Tr_fetch_d : ck_DP k_Tr_fetch := by decide +kernel
theorem k_Tr_hasBytes_d : ck_DP k_Tr_hasBytes := by decide +kernel
theorem k_Ch_settleLength_d : ck_DP k_Ch_settleLength := by decide +kernel
theorem k_Ma_max_d : ck_DP k_Ma_max := by decide +kernel
theorem k_Cm_takesAny_d : ck_DP k_Cm_takesAny := by decide +kernel
theorem k_Ch_readKey_d : ck_DP k_Ch_readKey := by decide +kernel
theorem k_Tr_bytes_d : ck_DP k_Tr_bytes := by decide +kernel
theorem k_Ch_settleRead_d : ck_DP k_Ch_settleRead := by decide +kernel
