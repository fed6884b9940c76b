theorem k_Tr_isSpoiled_d : ck_DP k_Tr_isSpoiled := by decide +kernel
theorem k_Ch_readData_d : ck_DP k_Ch_readData := by decide +kernel
theorem k_Ch_keyPassed_d : ck_DP k_Ch_keyPassed := by decide +kernel
theorem k_Tr_dataLength_d : ck_DP k_Tr_dataLength := by decide +kernel
theorem k_Ch_readAll_d : ck_DP k_Ch_readAll := by decide +kernel
theorem k_Ch_writeData_d : ck_DP k_Ch_writeData := by decide +kernel
theorem k_Ch_replace_d : ck_DP k_Ch_replace := by decide +kernel
theorem k_Tr_clear_d : ck_DP k_Tr_clear := by decide +kernel
theorem k_Ar_fill_d : ck_DP k_Ar_fill := by decide +kernel
theorem k_Ar_rangeCheck_d : ck_DP k_Ar_rangeCheck := by decide +kernel
theorem k_Tr_store_d : ck_DP k_Tr_store := by decide +kernel
theorem k_Tr_mark_d : ck_DP k_Tr_mark := by decide +kernel
theorem k_Ch_writeKey_d : ck_DP k_Ch_writeKey := by decide +kernel
theorem k_Ch_writeRecord_d0 : (((ck_cd k_Ch_writeRecord).drop 0).take 50).all (fun e => ck_dok (ck_bs k_Ch_writeRecord) e.1 e.2) = true := by decide +kernel
theorem k_Ch_writeRecord_d1 : (((ck_cd k_Ch_writeRecord).drop 50).take 50).all (fun e => ck_dok (ck_bs k_Ch_writeRecord) e.1 e.2) = true := by decide +kernel
theorem k_Ch_writeRecord_d2 : (((ck_cd k_Ch_writeRecord).drop 100).take 50).all (fun e => ck_dok (ck_bs k_Ch_writeRecord) e.1 e.2) = true := by decide +kernel
theorem k_Ch_writeRecord_e2 : ((ck_cd k_Ch_writeRecord).drop 100).all (fun e => ck_dok (ck_bs k_Ch_writeRecord) e.1 e.2) = true := by
  have h := k_Ch_writeRecord_d2
  rwa [List.take_of_length_le (by decide)] at h
theorem k_Ch_writeRecord_e1 : ((ck_cd k_Ch_writeRecord).drop 50).all (fun e => ck_dok (ck_bs k_Ch_writeRecord) e.1 e.2) = true := ck_al 50 k_Ch_writeRecord_d1 (by rw [List.drop_drop]; exact k_Ch_writeRecord_e2)
theorem k_Ch_writeRecord_e0 : ((ck_cd k_Ch_writeRecord).drop 0).all (fun e => ck_dok (ck_bs k_Ch_writeRecord) e.1 e.2) = true := ck_al 50 k_Ch_writeRecord_d0 (by rw [List.drop_drop]; exact k_Ch_writeRecord_e1)
theorem k_Ch_writeRecord_d : ck_DP k_Ch_writeRecord := k_Ch_writeRecord_e0
theorem k_Ch_keptAtPoint_d : ck_DP k_Ch_keptAtPoint := by decide +kernel
theorem k_Tr_endOf_d : ck_DP k_Tr_endOf := by decide +kernel
theorem k_Tr_keepFirst_d : ck_DP k_Tr_keepFirst := by decide +kernel
theorem k_Tr_append_d0 : (((ck_cd k_Tr_append).drop 0).take 50).all (fun e => ck_dok (ck_bs k_Tr_append) e.1 e.2) = true := by decide +kernel
theorem k_Tr_append_d1 : (((ck_cd k_Tr_append).drop 50).take 50).all (fun e => ck_dok (ck_bs k_Tr_append) e.1 e.2) = true := by decide +kernel
theorem k_Tr_append_d2 : (((ck_cd k_Tr_append).drop 100).take 50).all (fun e => ck_dok (ck_bs k_Tr_append) e.1 e.2) = true := by decide +kernel
theorem k_Tr_append_e2 : ((ck_cd k_Tr_append).drop 100).all (fun e => ck_dok (ck_bs k_Tr_append) e.1 e.2) = true := by
  have h := k_Tr_append_d2
  rwa [List.take_of_length_le (by decide)] at h
theorem k_Tr_append_e1 : ((ck_cd k_Tr_append).drop 50).all (fun e => ck_dok (ck_bs k_Tr_append) e.1 e.2) = true := ck_al 50 k_Tr_append_d1 (by rw [List.drop_drop]; exact k_Tr_append_e2)
theorem k_Tr_append_e0 : ((ck_cd k_Tr_append).drop 0).all (fun e => ck_dok (ck_bs k_Tr_append) e.1 e.2) = true := ck_al 50 k_Tr_append_d0 (by rw [List.drop_drop]; exact k_Tr_append_e1)
theorem k_Tr_append_d : ck_DP k_Tr_append := k_Tr_append_e0
theorem k_Tr_hasRoom_d : ck_DP k_Tr_hasRoom := by decide +kernel
theorem k_Ch_erase_d : ck_DP k_Ch_erase := by decide +kernel
theorem k_CS_status_d : ck_DP k_CS_status := by decide +kernel
theorem k_CS_time_d : ck_DP k_CS_time := by decide +kernel
theorem k_CS_arm_d : ck_DP k_CS_arm := by decide +kernel
theorem k_CS_record_d : ck_DP k_CS_record := by decide +kernel
theorem k_CS_trackAt_d : ck_DP k_CS_trackAt := by decide +kernel
theorem k_Un_trackAt_d : ck_DP k_Un_trackAt := by decide +kernel
theorem k_CS_bytesOf_d : ck_DP k_CS_bytesOf := by decide +kernel
theorem k_CS_spoil_d : ck_DP k_CS_spoil := by decide +kernel
theorem k_CS_allocate_d0 : (((ck_cd k_CS_allocate).drop 0).take 50).all (fun e => ck_dok (ck_bs k_CS_allocate) e.1 e.2) = true := by decide +kernel
theorem k_CS_allocate_d1 : (((ck_cd k_CS_allocate).drop 50).take 50).all (fun e => ck_dok (ck_bs k_CS_allocate) e.1 e.2) = true := by decide +kernel
theorem k_CS_allocate_e1 : ((ck_cd k_CS_allocate).drop 50).all (fun e => ck_dok (ck_bs k_CS_allocate) e.1 e.2) = true := by
  have h := k_CS_allocate_d1
  rwa [List.take_of_length_le (by decide)] at h
theorem k_CS_allocate_e0 : ((ck_cd k_CS_allocate).drop 0).all (fun e => ck_dok (ck_bs k_CS_allocate) e.1 e.2) = true := ck_al 50 k_CS_allocate_d0 (by rw [List.drop_drop]; exact k_CS_allocate_e1)
theorem k_CS_allocate_d : ck_DP k_CS_allocate := k_CS_allocate_e0
theorem k_CS_takeName_d : ck_DP k_CS_takeName := by decide +kernel
theorem k_Ar_fill2_d : ck_DP k_Ar_fill2 := by decide +kernel
theorem k_DS_allows_d0 : (((ck_cd k_DS_allows).drop 0).take 50).all (fun e => ck_dok (ck_bs k_DS_allows) e.1 e.2) = true := by decide +kernel
theorem k_DS_allows_d1 : (((ck_cd k_DS_allows).drop 50).take 50).all (fun e => ck_dok (ck_bs k_DS_allows) e.1 e.2) = true := by decide +kernel
theorem k_DS_allows_e1 : ((ck_cd k_DS_allows).drop 50).all (fun e => ck_dok (ck_bs k_DS_allows) e.1 e.2) = true := by
  have h := k_DS_allows_d1
  rwa [List.take_of_length_le (by decide)] at h
theorem k_DS_allows_e0 : ((ck_cd k_DS_allows).drop 0).all (fun e => ck_dok (ck_bs k_DS_allows) e.1 e.2) = true := ck_al 50 k_DS_allows_d0 (by rw [List.drop_drop]; exact k_DS_allows_e1)
theorem k_DS_allows_d : ck_DP k_DS_allows := k_DS_allows_e0
theorem k_Vo_find_d : ck_DP k_Vo_find := by decide +kernel
theorem k_DS_isNamed_d : ck_DP k_DS_isNamed := by decide +kernel
theorem k_Vo_lowestFree_d : ck_DP k_Vo_lowestFree := by decide +kernel
theorem k_Vo_findOneRun_d : ck_DP k_Vo_findOneRun := by decide +kernel
theorem k_Vo_freeFrom_d : ck_DP k_Vo_freeFrom := by decide +kernel
theorem k_Vo_findRuns_d0 : (((ck_cd k_Vo_findRuns).drop 0).take 50).all (fun e => ck_dok (ck_bs k_Vo_findRuns) e.1 e.2) = true := by decide +kernel
theorem k_Vo_findRuns_d1 : (((ck_cd k_Vo_findRuns).drop 50).take 50).all (fun e => ck_dok (ck_bs k_Vo_findRuns) e.1 e.2) = true := by decide +kernel
theorem k_Vo_findRuns_e1 : ((ck_cd k_Vo_findRuns).drop 50).all (fun e => ck_dok (ck_bs k_Vo_findRuns) e.1 e.2) = true := by
  have h := k_Vo_findRuns_d1
  rwa [List.take_of_length_le (by decide)] at h
theorem k_Vo_findRuns_e0 : ((ck_cd k_Vo_findRuns).drop 0).all (fun e => ck_dok (ck_bs k_Vo_findRuns) e.1 e.2) = true := ck_al 50 k_Vo_findRuns_d0 (by rw [List.drop_drop]; exact k_Vo_findRuns_e1)
theorem k_Vo_findRuns_d : ck_DP k_Vo_findRuns := k_Vo_findRuns_e0
theorem k_Vo_create_d : ck_DP k_Vo_create := by decide +kernel
theorem k_Vo_giveRuns_d : ck_DP k_Vo_giveRuns := by decide +kernel
theorem k_DS_addRun_d0 : (((ck_cd k_DS_addRun).drop 0).take 50).all (fun e => ck_dok (ck_bs k_DS_addRun) e.1 e.2) = true := by decide +kernel
theorem k_DS_addRun_d1 : (((ck_cd k_DS_addRun).drop 50).take 50).all (fun e => ck_dok (ck_bs k_DS_addRun) e.1 e.2) = true := by decide +kernel
theorem k_DS_addRun_e1 : ((ck_cd k_DS_addRun).drop 50).all (fun e => ck_dok (ck_bs k_DS_addRun) e.1 e.2) = true := by
  have h := k_DS_addRun_d1
  rwa [List.take_of_length_le (by decide)] at h
theorem k_DS_addRun_e0 : ((ck_cd k_DS_addRun).drop 0).all (fun e => ck_dok (ck_bs k_DS_addRun) e.1 e.2) = true := ck_al 50 k_DS_addRun_d0 (by rw [List.drop_drop]; exact k_DS_addRun_e1)
theorem k_DS_addRun_d : ck_DP k_DS_addRun := k_DS_addRun_e0
theorem k_Vo_setTaken_d : ck_DP k_Vo_setTaken := by decide +kernel
theorem k_Vo_writeTable_d : ck_DP k_Vo_writeTable := by decide +kernel
theorem k_Vo_writeEntry_d0 : (((ck_cd k_Vo_writeEntry).drop 0).take 50).all (fun e => ck_dok (ck_bs k_Vo_writeEntry) e.1 e.2) = true := by decide +kernel
theorem k_Vo_writeEntry_d1 : (((ck_cd k_Vo_writeEntry).drop 50).take 50).all (fun e => ck_dok (ck_bs k_Vo_writeEntry) e.1 e.2) = true := by decide +kernel
theorem k_Vo_writeEntry_e1 : ((ck_cd k_Vo_writeEntry).drop 50).all (fun e => ck_dok (ck_bs k_Vo_writeEntry) e.1 e.2) = true := by
  have h := k_Vo_writeEntry_d1
  rwa [List.take_of_length_le (by decide)] at h
theorem k_Vo_writeEntry_e0 : ((ck_cd k_Vo_writeEntry).drop 0).all (fun e => ck_dok (ck_bs k_Vo_writeEntry) e.1 e.2) = true := ck_al 50 k_Vo_writeEntry_d0 (by rw [List.drop_drop]; exact k_Vo_writeEntry_e1)
theorem k_Vo_writeEntry_d : ck_DP k_Vo_writeEntry := k_Vo_writeEntry_e0
theorem k_Rw_addAll_d : ck_DP k_Rw_addAll := by decide +kernel
theorem k_CS_scratch_d : ck_DP k_CS_scratch := by decide +kernel
theorem k_Vo_setAt_d : ck_DP k_Vo_setAt := by decide +kernel
theorem k_CS_openCount_d : ck_DP k_CS_openCount := by decide +kernel
theorem k_Op_isOf_d : ck_DP k_Op_isOf := by decide +kernel
theorem k_Vo_remove_d : ck_DP k_Vo_remove := by decide +kernel
theorem k_CS_extend_d : ck_DP k_CS_extend := by decide +kernel
theorem k_DS_tracks_d : ck_DP k_DS_tracks := by decide +kernel
theorem k_CS_dataSet_d : ck_DP k_CS_dataSet := by decide +kernel
theorem k_DS_nameOrExtent_d0 : (((ck_cd k_DS_nameOrExtent).drop 0).take 50).all (fun e => ck_dok (ck_bs k_DS_nameOrExtent) e.1 e.2) = true := by decide +kernel
theorem k_DS_nameOrExtent_d1 : (((ck_cd k_DS_nameOrExtent).drop 50).take 50).all (fun e => ck_dok (ck_bs k_DS_nameOrExtent) e.1 e.2) = true := by decide +kernel
theorem k_DS_nameOrExtent_e1 : ((ck_cd k_DS_nameOrExtent).drop 50).all (fun e => ck_dok (ck_bs k_DS_nameOrExtent) e.1 e.2) = true := by
  have h := k_DS_nameOrExtent_d1
  rwa [List.take_of_length_le (by decide)] at h
theorem k_DS_nameOrExtent_e0 : ((ck_cd k_DS_nameOrExtent).drop 0).all (fun e => ck_dok (ck_bs k_DS_nameOrExtent) e.1 e.2) = true := ck_al 50 k_DS_nameOrExtent_d0 (by rw [List.drop_drop]; exact k_DS_nameOrExtent_e1)
theorem k_DS_nameOrExtent_d : ck_DP k_DS_nameOrExtent := k_DS_nameOrExtent_e0
theorem k_CS_count_d : ck_DP k_CS_count := by decide +kernel
theorem k_Vo_freeTracks_d : ck_DP k_Vo_freeTracks := by decide +kernel
