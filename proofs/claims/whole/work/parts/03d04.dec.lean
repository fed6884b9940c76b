theorem k_RM_writes_d : ck_DP k_RM_writes := by decide +kernel
theorem k_RM_run_d0 : (((ck_cd k_RM_run).drop 0).take 50).all (fun e => ck_dok (ck_bs k_RM_run) e.1 e.2) = true := by decide +kernel
theorem k_RM_run_d1 : (((ck_cd k_RM_run).drop 50).take 50).all (fun e => ck_dok (ck_bs k_RM_run) e.1 e.2) = true := by decide +kernel
theorem k_RM_run_e1 : ((ck_cd k_RM_run).drop 50).all (fun e => ck_dok (ck_bs k_RM_run) e.1 e.2) = true := by
  have h := k_RM_run_d1
  rwa [List.take_of_length_le (by decide)] at h
theorem k_RM_run_e0 : ((ck_cd k_RM_run).drop 0).all (fun e => ck_dok (ck_bs k_RM_run) e.1 e.2) = true := ck_al 50 k_RM_run_d0 (by rw [List.drop_drop]; exact k_RM_run_e1)
theorem k_RM_run_d : ck_DP k_RM_run := k_RM_run_e0
theorem k_RM_does_d0 : (((ck_cd k_RM_does).drop 0).take 50).all (fun e => ck_dok (ck_bs k_RM_does) e.1 e.2) = true := by decide +kernel
theorem k_RM_does_d1 : (((ck_cd k_RM_does).drop 50).take 50).all (fun e => ck_dok (ck_bs k_RM_does) e.1 e.2) = true := by decide +kernel
theorem k_RM_does_e1 : ((ck_cd k_RM_does).drop 50).all (fun e => ck_dok (ck_bs k_RM_does) e.1 e.2) = true := by
  have h := k_RM_does_d1
  rwa [List.take_of_length_le (by decide)] at h
theorem k_RM_does_e0 : ((ck_cd k_RM_does).drop 0).all (fun e => ck_dok (ck_bs k_RM_does) e.1 e.2) = true := ck_al 50 k_RM_does_d0 (by rw [List.drop_drop]; exact k_RM_does_e1)
theorem k_RM_does_d : ck_DP k_RM_does := k_RM_does_e0
theorem k_RM_seek_d0 : (((ck_cd k_RM_seek).drop 0).take 50).all (fun e => ck_dok (ck_bs k_RM_seek) e.1 e.2) = true := by decide +kernel
theorem k_RM_seek_d1 : (((ck_cd k_RM_seek).drop 50).take 50).all (fun e => ck_dok (ck_bs k_RM_seek) e.1 e.2) = true := by decide +kernel
theorem k_RM_seek_e1 : ((ck_cd k_RM_seek).drop 50).all (fun e => ck_dok (ck_bs k_RM_seek) e.1 e.2) = true := by
  have h := k_RM_seek_d1
  rwa [List.take_of_length_le (by decide)] at h
theorem k_RM_seek_e0 : ((ck_cd k_RM_seek).drop 0).all (fun e => ck_dok (ck_bs k_RM_seek) e.1 e.2) = true := ck_al 50 k_RM_seek_d0 (by rw [List.drop_drop]; exact k_RM_seek_e1)
theorem k_RM_seek_d : ck_DP k_RM_seek := k_RM_seek_e0
theorem k_RM_home_d0 : (((ck_cd k_RM_home).drop 0).take 50).all (fun e => ck_dok (ck_bs k_RM_home) e.1 e.2) = true := by decide +kernel
theorem k_RM_home_d1 : (((ck_cd k_RM_home).drop 50).take 50).all (fun e => ck_dok (ck_bs k_RM_home) e.1 e.2) = true := by decide +kernel
theorem k_RM_home_e1 : ((ck_cd k_RM_home).drop 50).all (fun e => ck_dok (ck_bs k_RM_home) e.1 e.2) = true := by
  have h := k_RM_home_d1
  rwa [List.take_of_length_le (by decide)] at h
theorem k_RM_home_e0 : ((ck_cd k_RM_home).drop 0).all (fun e => ck_dok (ck_bs k_RM_home) e.1 e.2) = true := ck_al 50 k_RM_home_d0 (by rw [List.drop_drop]; exact k_RM_home_e1)
theorem k_RM_home_d : ck_DP k_RM_home := k_RM_home_e0
theorem k_RM_goTo_d : ck_DP k_RM_goTo := by decide +kernel
theorem k_Ma_floorMod_d : ck_DP k_Ma_floorMod := by decide +kernel
theorem k_RM_held_d : ck_DP k_RM_held := by decide +kernel
theorem k_RM_searchId_d0 : (((ck_cd k_RM_searchId).drop 0).take 50).all (fun e => ck_dok (ck_bs k_RM_searchId) e.1 e.2) = true := by decide +kernel
theorem k_RM_searchId_d1 : (((ck_cd k_RM_searchId).drop 50).take 50).all (fun e => ck_dok (ck_bs k_RM_searchId) e.1 e.2) = true := by decide +kernel
theorem k_RM_searchId_e1 : ((ck_cd k_RM_searchId).drop 50).all (fun e => ck_dok (ck_bs k_RM_searchId) e.1 e.2) = true := by
  have h := k_RM_searchId_d1
  rwa [List.take_of_length_le (by decide)] at h
theorem k_RM_searchId_e0 : ((ck_cd k_RM_searchId).drop 0).all (fun e => ck_dok (ck_bs k_RM_searchId) e.1 e.2) = true := ck_al 50 k_RM_searchId_d0 (by rw [List.drop_drop]; exact k_RM_searchId_e1)
theorem k_RM_searchId_d : ck_DP k_RM_searchId := k_RM_searchId_e0
theorem k_RM_nextRecord_d0 : (((ck_cd k_RM_nextRecord).drop 0).take 50).all (fun e => ck_dok (ck_bs k_RM_nextRecord) e.1 e.2) = true := by decide +kernel
theorem k_RM_nextRecord_d1 : (((ck_cd k_RM_nextRecord).drop 50).take 50).all (fun e => ck_dok (ck_bs k_RM_nextRecord) e.1 e.2) = true := by decide +kernel
theorem k_RM_nextRecord_e1 : ((ck_cd k_RM_nextRecord).drop 50).all (fun e => ck_dok (ck_bs k_RM_nextRecord) e.1 e.2) = true := by
  have h := k_RM_nextRecord_d1
  rwa [List.take_of_length_le (by decide)] at h
theorem k_RM_nextRecord_e0 : ((ck_cd k_RM_nextRecord).drop 0).all (fun e => ck_dok (ck_bs k_RM_nextRecord) e.1 e.2) = true := ck_al 50 k_RM_nextRecord_d0 (by rw [List.drop_drop]; exact k_RM_nextRecord_e1)
theorem k_RM_nextRecord_d : ck_DP k_RM_nextRecord := k_RM_nextRecord_e0
theorem k_RM_track_d : ck_DP k_RM_track := by decide +kernel
theorem k_RM_at_d : ck_DP k_RM_at := by decide +kernel
theorem k_RM_searchKey_d0 : (((ck_cd k_RM_searchKey).drop 0).take 50).all (fun e => ck_dok (ck_bs k_RM_searchKey) e.1 e.2) = true := by decide +kernel
theorem k_RM_searchKey_d1 : (((ck_cd k_RM_searchKey).drop 50).take 50).all (fun e => ck_dok (ck_bs k_RM_searchKey) e.1 e.2) = true := by decide +kernel
theorem k_RM_searchKey_d2 : (((ck_cd k_RM_searchKey).drop 100).take 50).all (fun e => ck_dok (ck_bs k_RM_searchKey) e.1 e.2) = true := by decide +kernel
theorem k_RM_searchKey_e2 : ((ck_cd k_RM_searchKey).drop 100).all (fun e => ck_dok (ck_bs k_RM_searchKey) e.1 e.2) = true := by
  have h := k_RM_searchKey_d2
  rwa [List.take_of_length_le (by decide)] at h
theorem k_RM_searchKey_e1 : ((ck_cd k_RM_searchKey).drop 50).all (fun e => ck_dok (ck_bs k_RM_searchKey) e.1 e.2) = true := ck_al 50 k_RM_searchKey_d1 (by rw [List.drop_drop]; exact k_RM_searchKey_e2)
theorem k_RM_searchKey_e0 : ((ck_cd k_RM_searchKey).drop 0).all (fun e => ck_dok (ck_bs k_RM_searchKey) e.1 e.2) = true := ck_al 50 k_RM_searchKey_d0 (by rw [List.drop_drop]; exact k_RM_searchKey_e1)
theorem k_RM_searchKey_d : ck_DP k_RM_searchKey := k_RM_searchKey_e0
theorem k_RM_countRecord_d : ck_DP k_RM_countRecord := by decide +kernel
theorem k_RM_keyAt_d : ck_DP k_RM_keyAt := by decide +kernel
theorem k_RM_readCount_d : ck_DP k_RM_readCount := by decide +kernel
theorem k_RM_brought_d0 : (((ck_cd k_RM_brought).drop 0).take 50).all (fun e => ck_dok (ck_bs k_RM_brought) e.1 e.2) = true := by decide +kernel
theorem k_RM_brought_d1 : (((ck_cd k_RM_brought).drop 50).take 50).all (fun e => ck_dok (ck_bs k_RM_brought) e.1 e.2) = true := by decide +kernel
theorem k_RM_brought_e1 : ((ck_cd k_RM_brought).drop 50).all (fun e => ck_dok (ck_bs k_RM_brought) e.1 e.2) = true := by
  have h := k_RM_brought_d1
  rwa [List.take_of_length_le (by decide)] at h
theorem k_RM_brought_e0 : ((ck_cd k_RM_brought).drop 0).all (fun e => ck_dok (ck_bs k_RM_brought) e.1 e.2) = true := ck_al 50 k_RM_brought_d0 (by rw [List.drop_drop]; exact k_RM_brought_e1)
theorem k_RM_brought_d : ck_DP k_RM_brought := k_RM_brought_e0
theorem k_RM_drops_d : ck_DP k_RM_drops := by decide +kernel
theorem k_RM_byteOf_d0 : (((ck_cd k_RM_byteOf).drop 0).take 50).all (fun e => ck_dok (ck_bs k_RM_byteOf) e.1 e.2) = true := by decide +kernel
theorem k_RM_byteOf_d1 : (((ck_cd k_RM_byteOf).drop 50).take 50).all (fun e => ck_dok (ck_bs k_RM_byteOf) e.1 e.2) = true := by decide +kernel
theorem k_RM_byteOf_e1 : ((ck_cd k_RM_byteOf).drop 50).all (fun e => ck_dok (ck_bs k_RM_byteOf) e.1 e.2) = true := by
  have h := k_RM_byteOf_d1
  rwa [List.take_of_length_le (by decide)] at h
theorem k_RM_byteOf_e0 : ((ck_cd k_RM_byteOf).drop 0).all (fun e => ck_dok (ck_bs k_RM_byteOf) e.1 e.2) = true := ck_al 50 k_RM_byteOf_d0 (by rw [List.drop_drop]; exact k_RM_byteOf_e1)
theorem k_RM_byteOf_d : ck_DP k_RM_byteOf := k_RM_byteOf_e0
theorem k_RM_isAny_d : ck_DP k_RM_isAny := by decide +kernel
theorem k_RM_readData_d0 : (((ck_cd k_RM_readData).drop 0).take 50).all (fun e => ck_dok (ck_bs k_RM_readData) e.1 e.2) = true := by decide +kernel
theorem k_RM_readData_d1 : (((ck_cd k_RM_readData).drop 50).take 50).all (fun e => ck_dok (ck_bs k_RM_readData) e.1 e.2) = true := by decide +kernel
theorem k_RM_readData_e1 : ((ck_cd k_RM_readData).drop 50).all (fun e => ck_dok (ck_bs k_RM_readData) e.1 e.2) = true := by
  have h := k_RM_readData_d1
  rwa [List.take_of_length_le (by decide)] at h
theorem k_RM_readData_e0 : ((ck_cd k_RM_readData).drop 0).all (fun e => ck_dok (ck_bs k_RM_readData) e.1 e.2) = true := ck_al 50 k_RM_readData_d0 (by rw [List.drop_drop]; exact k_RM_readData_e1)
theorem k_RM_readData_d : ck_DP k_RM_readData := k_RM_readData_e0
theorem k_RM_readAll_d : ck_DP k_RM_readAll := by decide +kernel
theorem k_RM_writeData_d0 : (((ck_cd k_RM_writeData).drop 0).take 50).all (fun e => ck_dok (ck_bs k_RM_writeData) e.1 e.2) = true := by decide +kernel
theorem k_RM_writeData_d1 : (((ck_cd k_RM_writeData).drop 50).take 50).all (fun e => ck_dok (ck_bs k_RM_writeData) e.1 e.2) = true := by decide +kernel
theorem k_RM_writeData_d2 : (((ck_cd k_RM_writeData).drop 100).take 50).all (fun e => ck_dok (ck_bs k_RM_writeData) e.1 e.2) = true := by decide +kernel
theorem k_RM_writeData_e2 : ((ck_cd k_RM_writeData).drop 100).all (fun e => ck_dok (ck_bs k_RM_writeData) e.1 e.2) = true := by
  have h := k_RM_writeData_d2
  rwa [List.take_of_length_le (by decide)] at h
theorem k_RM_writeData_e1 : ((ck_cd k_RM_writeData).drop 50).all (fun e => ck_dok (ck_bs k_RM_writeData) e.1 e.2) = true := ck_al 50 k_RM_writeData_d1 (by rw [List.drop_drop]; exact k_RM_writeData_e2)
theorem k_RM_writeData_e0 : ((ck_cd k_RM_writeData).drop 0).all (fun e => ck_dok (ck_bs k_RM_writeData) e.1 e.2) = true := ck_al 50 k_RM_writeData_d0 (by rw [List.drop_drop]; exact k_RM_writeData_e1)
theorem k_RM_writeData_d : ck_DP k_RM_writeData := k_RM_writeData_e0
theorem k_RM_dataAt_d : ck_DP k_RM_dataAt := by decide +kernel
theorem k_RM_writeRecord_d0 : (((ck_cd k_RM_writeRecord).drop 0).take 50).all (fun e => ck_dok (ck_bs k_RM_writeRecord) e.1 e.2) = true := by decide +kernel
theorem k_RM_writeRecord_d1 : (((ck_cd k_RM_writeRecord).drop 50).take 50).all (fun e => ck_dok (ck_bs k_RM_writeRecord) e.1 e.2) = true := by decide +kernel
theorem k_RM_writeRecord_d2 : (((ck_cd k_RM_writeRecord).drop 100).take 50).all (fun e => ck_dok (ck_bs k_RM_writeRecord) e.1 e.2) = true := by decide +kernel
theorem k_RM_writeRecord_d3 : (((ck_cd k_RM_writeRecord).drop 150).take 50).all (fun e => ck_dok (ck_bs k_RM_writeRecord) e.1 e.2) = true := by decide +kernel
theorem k_RM_writeRecord_e3 : ((ck_cd k_RM_writeRecord).drop 150).all (fun e => ck_dok (ck_bs k_RM_writeRecord) e.1 e.2) = true := by
  have h := k_RM_writeRecord_d3
  rwa [List.take_of_length_le (by decide)] at h
theorem k_RM_writeRecord_e2 : ((ck_cd k_RM_writeRecord).drop 100).all (fun e => ck_dok (ck_bs k_RM_writeRecord) e.1 e.2) = true := ck_al 50 k_RM_writeRecord_d2 (by rw [List.drop_drop]; exact k_RM_writeRecord_e3)
theorem k_RM_writeRecord_e1 : ((ck_cd k_RM_writeRecord).drop 50).all (fun e => ck_dok (ck_bs k_RM_writeRecord) e.1 e.2) = true := ck_al 50 k_RM_writeRecord_d1 (by rw [List.drop_drop]; exact k_RM_writeRecord_e2)
theorem k_RM_writeRecord_e0 : ((ck_cd k_RM_writeRecord).drop 0).all (fun e => ck_dok (ck_bs k_RM_writeRecord) e.1 e.2) = true := ck_al 50 k_RM_writeRecord_d0 (by rw [List.drop_drop]; exact k_RM_writeRecord_e1)
theorem k_RM_writeRecord_d : ck_DP k_RM_writeRecord := k_RM_writeRecord_e0
theorem k_RM_endOf_d : ck_DP k_RM_endOf := by decide +kernel
theorem k_RM_add_d0 : (((ck_cd k_RM_add).drop 0).take 50).all (fun e => ck_dok (ck_bs k_RM_add) e.1 e.2) = true := by decide +kernel
theorem k_RM_add_d1 : (((ck_cd k_RM_add).drop 50).take 50).all (fun e => ck_dok (ck_bs k_RM_add) e.1 e.2) = true := by decide +kernel
theorem k_RM_add_e1 : ((ck_cd k_RM_add).drop 50).all (fun e => ck_dok (ck_bs k_RM_add) e.1 e.2) = true := by
  have h := k_RM_add_d1
  rwa [List.take_of_length_le (by decide)] at h
theorem k_RM_add_e0 : ((ck_cd k_RM_add).drop 0).all (fun e => ck_dok (ck_bs k_RM_add) e.1 e.2) = true := ck_al 50 k_RM_add_d0 (by rw [List.drop_drop]; exact k_RM_add_e1)
theorem k_RM_add_d : ck_DP k_RM_add := k_RM_add_e0
theorem k_RM_lastEnd_d : ck_DP k_RM_lastEnd := by decide +kernel
theorem k_RM_erase_d : ck_DP k_RM_erase := by decide +kernel
theorem k_RM_status_d : ck_DP k_RM_status := by decide +kernel
theorem k_RM_time_d : ck_DP k_RM_time := by decide +kernel
theorem k_RM_arm_d : ck_DP k_RM_arm := by decide +kernel
theorem k_RM_record_d0 : (((ck_cd k_RM_record).drop 0).take 50).all (fun e => ck_dok (ck_bs k_RM_record) e.1 e.2) = true := by decide +kernel
theorem k_RM_record_d1 : (((ck_cd k_RM_record).drop 50).take 50).all (fun e => ck_dok (ck_bs k_RM_record) e.1 e.2) = true := by decide +kernel
theorem k_RM_record_d2 : (((ck_cd k_RM_record).drop 100).take 50).all (fun e => ck_dok (ck_bs k_RM_record) e.1 e.2) = true := by decide +kernel
theorem k_RM_record_e2 : ((ck_cd k_RM_record).drop 100).all (fun e => ck_dok (ck_bs k_RM_record) e.1 e.2) = true := by
  have h := k_RM_record_d2
  rwa [List.take_of_length_le (by decide)] at h
theorem k_RM_record_e1 : ((ck_cd k_RM_record).drop 50).all (fun e => ck_dok (ck_bs k_RM_record) e.1 e.2) = true := ck_al 50 k_RM_record_d1 (by rw [List.drop_drop]; exact k_RM_record_e2)
theorem k_RM_record_e0 : ((ck_cd k_RM_record).drop 0).all (fun e => ck_dok (ck_bs k_RM_record) e.1 e.2) = true := ck_al 50 k_RM_record_d0 (by rw [List.drop_drop]; exact k_RM_record_e1)
theorem k_RM_record_d : ck_DP k_RM_record := k_RM_record_e0
theorem k_RM_isRecord_d : ck_DP k_RM_isRecord := by decide +kernel
theorem k_RM_spoil_d : ck_DP k_RM_spoil := by decide +kernel
