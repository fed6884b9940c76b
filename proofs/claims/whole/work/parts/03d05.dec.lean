theorem k_RM_allocate_d0 : (((ck_cd k_RM_allocate).drop 0).take 50).all (fun e => ck_dok (ck_bs k_RM_allocate) e.1 e.2) = true := by decide +kernel
theorem k_RM_allocate_d1 : (((ck_cd k_RM_allocate).drop 50).take 50).all (fun e => ck_dok (ck_bs k_RM_allocate) e.1 e.2) = true := by decide +kernel
theorem k_RM_allocate_d2 : (((ck_cd k_RM_allocate).drop 100).take 50).all (fun e => ck_dok (ck_bs k_RM_allocate) e.1 e.2) = true := by decide +kernel
theorem k_RM_allocate_e2 : ((ck_cd k_RM_allocate).drop 100).all (fun e => ck_dok (ck_bs k_RM_allocate) e.1 e.2) = true := by
  have h := k_RM_allocate_d2
  rwa [List.take_of_length_le (by decide)] at h
theorem k_RM_allocate_e1 : ((ck_cd k_RM_allocate).drop 50).all (fun e => ck_dok (ck_bs k_RM_allocate) e.1 e.2) = true := ck_al 50 k_RM_allocate_d1 (by rw [List.drop_drop]; exact k_RM_allocate_e2)
theorem k_RM_allocate_e0 : ((ck_cd k_RM_allocate).drop 0).all (fun e => ck_dok (ck_bs k_RM_allocate) e.1 e.2) = true := ck_al 50 k_RM_allocate_d0 (by rw [List.drop_drop]; exact k_RM_allocate_e1)
theorem k_RM_allocate_d : ck_DP k_RM_allocate := k_RM_allocate_e0
theorem k_RM_takeName_d : ck_DP k_RM_takeName := by decide +kernel
theorem k_RM_mayBe_d0 : (((ck_cd k_RM_mayBe).drop 0).take 50).all (fun e => ck_dok (ck_bs k_RM_mayBe) e.1 e.2) = true := by decide +kernel
theorem k_RM_mayBe_d1 : (((ck_cd k_RM_mayBe).drop 50).take 50).all (fun e => ck_dok (ck_bs k_RM_mayBe) e.1 e.2) = true := by decide +kernel
theorem k_RM_mayBe_e1 : ((ck_cd k_RM_mayBe).drop 50).all (fun e => ck_dok (ck_bs k_RM_mayBe) e.1 e.2) = true := by
  have h := k_RM_mayBe_d1
  rwa [List.take_of_length_le (by decide)] at h
theorem k_RM_mayBe_e0 : ((ck_cd k_RM_mayBe).drop 0).all (fun e => ck_dok (ck_bs k_RM_mayBe) e.1 e.2) = true := ck_al 50 k_RM_mayBe_d0 (by rw [List.drop_drop]; exact k_RM_mayBe_e1)
theorem k_RM_mayBe_d : ck_DP k_RM_mayBe := k_RM_mayBe_e0
theorem k_RM_findSet_d : ck_DP k_RM_findSet := by decide +kernel
theorem k_RM_isNamed_d : ck_DP k_RM_isNamed := by decide +kernel
theorem k_RM_findsRow_d : ck_DP k_RM_findsRow := by decide +kernel
theorem k_RM_freeFrom_d : ck_DP k_RM_freeFrom := by decide +kernel
theorem k_RM_isFree_d0 : (((ck_cd k_RM_isFree).drop 0).take 50).all (fun e => ck_dok (ck_bs k_RM_isFree) e.1 e.2) = true := by decide +kernel
theorem k_RM_isFree_d1 : (((ck_cd k_RM_isFree).drop 50).take 50).all (fun e => ck_dok (ck_bs k_RM_isFree) e.1 e.2) = true := by decide +kernel
theorem k_RM_isFree_e1 : ((ck_cd k_RM_isFree).drop 50).all (fun e => ck_dok (ck_bs k_RM_isFree) e.1 e.2) = true := by
  have h := k_RM_isFree_d1
  rwa [List.take_of_length_le (by decide)] at h
theorem k_RM_isFree_e0 : ((ck_cd k_RM_isFree).drop 0).all (fun e => ck_dok (ck_bs k_RM_isFree) e.1 e.2) = true := ck_al 50 k_RM_isFree_d0 (by rw [List.drop_drop]; exact k_RM_isFree_e1)
theorem k_RM_isFree_d : ck_DP k_RM_isFree := k_RM_isFree_e0
theorem k_RM_finds_d0 : (((ck_cd k_RM_finds).drop 0).take 50).all (fun e => ck_dok (ck_bs k_RM_finds) e.1 e.2) = true := by decide +kernel
theorem k_RM_finds_d1 : (((ck_cd k_RM_finds).drop 50).take 50).all (fun e => ck_dok (ck_bs k_RM_finds) e.1 e.2) = true := by decide +kernel
theorem k_RM_finds_e1 : ((ck_cd k_RM_finds).drop 50).all (fun e => ck_dok (ck_bs k_RM_finds) e.1 e.2) = true := by
  have h := k_RM_finds_d1
  rwa [List.take_of_length_le (by decide)] at h
theorem k_RM_finds_e0 : ((ck_cd k_RM_finds).drop 0).all (fun e => ck_dok (ck_bs k_RM_finds) e.1 e.2) = true := ck_al 50 k_RM_finds_d0 (by rw [List.drop_drop]; exact k_RM_finds_e1)
theorem k_RM_finds_d : ck_DP k_RM_finds := k_RM_finds_e0
theorem k_RM_clearRuns_d : ck_DP k_RM_clearRuns := by decide +kernel
theorem k_RM_writeTable_d0 : (((ck_cd k_RM_writeTable).drop 0).take 50).all (fun e => ck_dok (ck_bs k_RM_writeTable) e.1 e.2) = true := by decide +kernel
theorem k_RM_writeTable_d1 : (((ck_cd k_RM_writeTable).drop 50).take 50).all (fun e => ck_dok (ck_bs k_RM_writeTable) e.1 e.2) = true := by decide +kernel
theorem k_RM_writeTable_d2 : (((ck_cd k_RM_writeTable).drop 100).take 50).all (fun e => ck_dok (ck_bs k_RM_writeTable) e.1 e.2) = true := by decide +kernel
theorem k_RM_writeTable_d3 : (((ck_cd k_RM_writeTable).drop 150).take 50).all (fun e => ck_dok (ck_bs k_RM_writeTable) e.1 e.2) = true := by decide +kernel
theorem k_RM_writeTable_e3 : ((ck_cd k_RM_writeTable).drop 150).all (fun e => ck_dok (ck_bs k_RM_writeTable) e.1 e.2) = true := by
  have h := k_RM_writeTable_d3
  rwa [List.take_of_length_le (by decide)] at h
theorem k_RM_writeTable_e2 : ((ck_cd k_RM_writeTable).drop 100).all (fun e => ck_dok (ck_bs k_RM_writeTable) e.1 e.2) = true := ck_al 50 k_RM_writeTable_d2 (by rw [List.drop_drop]; exact k_RM_writeTable_e3)
theorem k_RM_writeTable_e1 : ((ck_cd k_RM_writeTable).drop 50).all (fun e => ck_dok (ck_bs k_RM_writeTable) e.1 e.2) = true := ck_al 50 k_RM_writeTable_d1 (by rw [List.drop_drop]; exact k_RM_writeTable_e2)
theorem k_RM_writeTable_e0 : ((ck_cd k_RM_writeTable).drop 0).all (fun e => ck_dok (ck_bs k_RM_writeTable) e.1 e.2) = true := ck_al 50 k_RM_writeTable_d0 (by rw [List.drop_drop]; exact k_RM_writeTable_e1)
theorem k_RM_writeTable_d : ck_DP k_RM_writeTable := k_RM_writeTable_e0
theorem k_RM_putTwo_d : ck_DP k_RM_putTwo := by decide +kernel
theorem k_RM_scratch_d : ck_DP k_RM_scratch := by decide +kernel
theorem k_RM_opens_d : ck_DP k_RM_opens := by decide +kernel
theorem k_RM_tracksOf_d : ck_DP k_RM_tracksOf := by decide +kernel
theorem k_RM_trackOf_d : ck_DP k_RM_trackOf := by decide +kernel
theorem k_RM_extend_d0 : (((ck_cd k_RM_extend).drop 0).take 50).all (fun e => ck_dok (ck_bs k_RM_extend) e.1 e.2) = true := by decide +kernel
theorem k_RM_extend_d1 : (((ck_cd k_RM_extend).drop 50).take 50).all (fun e => ck_dok (ck_bs k_RM_extend) e.1 e.2) = true := by decide +kernel
theorem k_RM_extend_d2 : (((ck_cd k_RM_extend).drop 100).take 50).all (fun e => ck_dok (ck_bs k_RM_extend) e.1 e.2) = true := by decide +kernel
theorem k_RM_extend_e2 : ((ck_cd k_RM_extend).drop 100).all (fun e => ck_dok (ck_bs k_RM_extend) e.1 e.2) = true := by
  have h := k_RM_extend_d2
  rwa [List.take_of_length_le (by decide)] at h
theorem k_RM_extend_e1 : ((ck_cd k_RM_extend).drop 50).all (fun e => ck_dok (ck_bs k_RM_extend) e.1 e.2) = true := ck_al 50 k_RM_extend_d1 (by rw [List.drop_drop]; exact k_RM_extend_e2)
theorem k_RM_extend_e0 : ((ck_cd k_RM_extend).drop 0).all (fun e => ck_dok (ck_bs k_RM_extend) e.1 e.2) = true := ck_al 50 k_RM_extend_d0 (by rw [List.drop_drop]; exact k_RM_extend_e1)
theorem k_RM_extend_d : ck_DP k_RM_extend := k_RM_extend_e0
theorem k_RM_dataSet_d0 : (((ck_cd k_RM_dataSet).drop 0).take 50).all (fun e => ck_dok (ck_bs k_RM_dataSet) e.1 e.2) = true := by decide +kernel
theorem k_RM_dataSet_d1 : (((ck_cd k_RM_dataSet).drop 50).take 50).all (fun e => ck_dok (ck_bs k_RM_dataSet) e.1 e.2) = true := by decide +kernel
theorem k_RM_dataSet_d2 : (((ck_cd k_RM_dataSet).drop 100).take 50).all (fun e => ck_dok (ck_bs k_RM_dataSet) e.1 e.2) = true := by decide +kernel
theorem k_RM_dataSet_e2 : ((ck_cd k_RM_dataSet).drop 100).all (fun e => ck_dok (ck_bs k_RM_dataSet) e.1 e.2) = true := by
  have h := k_RM_dataSet_d2
  rwa [List.take_of_length_le (by decide)] at h
theorem k_RM_dataSet_e1 : ((ck_cd k_RM_dataSet).drop 50).all (fun e => ck_dok (ck_bs k_RM_dataSet) e.1 e.2) = true := ck_al 50 k_RM_dataSet_d1 (by rw [List.drop_drop]; exact k_RM_dataSet_e2)
theorem k_RM_dataSet_e0 : ((ck_cd k_RM_dataSet).drop 0).all (fun e => ck_dok (ck_bs k_RM_dataSet) e.1 e.2) = true := ck_al 50 k_RM_dataSet_d0 (by rw [List.drop_drop]; exact k_RM_dataSet_e1)
theorem k_RM_dataSet_d : ck_DP k_RM_dataSet := k_RM_dataSet_e0
theorem k_RM_hasSet_d : ck_DP k_RM_hasSet := by decide +kernel
theorem k_RM_count_d0 : (((ck_cd k_RM_count).drop 0).take 50).all (fun e => ck_dok (ck_bs k_RM_count) e.1 e.2) = true := by decide +kernel
theorem k_RM_count_d1 : (((ck_cd k_RM_count).drop 50).take 50).all (fun e => ck_dok (ck_bs k_RM_count) e.1 e.2) = true := by decide +kernel
theorem k_RM_count_e1 : ((ck_cd k_RM_count).drop 50).all (fun e => ck_dok (ck_bs k_RM_count) e.1 e.2) = true := by
  have h := k_RM_count_d1
  rwa [List.take_of_length_le (by decide)] at h
theorem k_RM_count_e0 : ((ck_cd k_RM_count).drop 0).all (fun e => ck_dok (ck_bs k_RM_count) e.1 e.2) = true := ck_al 50 k_RM_count_d0 (by rw [List.drop_drop]; exact k_RM_count_e1)
theorem k_RM_count_d : ck_DP k_RM_count := k_RM_count_e0
theorem k_RM_open_d0 : (((ck_cd k_RM_open).drop 0).take 50).all (fun e => ck_dok (ck_bs k_RM_open) e.1 e.2) = true := by decide +kernel
theorem k_RM_open_d1 : (((ck_cd k_RM_open).drop 50).take 50).all (fun e => ck_dok (ck_bs k_RM_open) e.1 e.2) = true := by decide +kernel
theorem k_RM_open_d2 : (((ck_cd k_RM_open).drop 100).take 50).all (fun e => ck_dok (ck_bs k_RM_open) e.1 e.2) = true := by decide +kernel
theorem k_RM_open_e2 : ((ck_cd k_RM_open).drop 100).all (fun e => ck_dok (ck_bs k_RM_open) e.1 e.2) = true := by
  have h := k_RM_open_d2
  rwa [List.take_of_length_le (by decide)] at h
theorem k_RM_open_e1 : ((ck_cd k_RM_open).drop 50).all (fun e => ck_dok (ck_bs k_RM_open) e.1 e.2) = true := ck_al 50 k_RM_open_d1 (by rw [List.drop_drop]; exact k_RM_open_e2)
theorem k_RM_open_e0 : ((ck_cd k_RM_open).drop 0).all (fun e => ck_dok (ck_bs k_RM_open) e.1 e.2) = true := ck_al 50 k_RM_open_d0 (by rw [List.drop_drop]; exact k_RM_open_e1)
theorem k_RM_open_d : ck_DP k_RM_open := k_RM_open_e0
theorem k_RM_isBusy_d : ck_DP k_RM_isBusy := by decide +kernel
theorem k_RM_begin_d : ck_DP k_RM_begin := by decide +kernel
theorem k_RM_prepare_d0 : (((ck_cd k_RM_prepare).drop 0).take 50).all (fun e => ck_dok (ck_bs k_RM_prepare) e.1 e.2) = true := by decide +kernel
theorem k_RM_prepare_d1 : (((ck_cd k_RM_prepare).drop 50).take 50).all (fun e => ck_dok (ck_bs k_RM_prepare) e.1 e.2) = true := by decide +kernel
theorem k_RM_prepare_e1 : ((ck_cd k_RM_prepare).drop 50).all (fun e => ck_dok (ck_bs k_RM_prepare) e.1 e.2) = true := by
  have h := k_RM_prepare_d1
  rwa [List.take_of_length_le (by decide)] at h
theorem k_RM_prepare_e0 : ((ck_cd k_RM_prepare).drop 0).all (fun e => ck_dok (ck_bs k_RM_prepare) e.1 e.2) = true := ck_al 50 k_RM_prepare_d0 (by rw [List.drop_drop]; exact k_RM_prepare_e1)
theorem k_RM_prepare_d : ck_DP k_RM_prepare := k_RM_prepare_e0
theorem k_RM_close_d : ck_DP k_RM_close := by decide +kernel
theorem k_RM_isHandle_d : ck_DP k_RM_isHandle := by decide +kernel
theorem k_RM_writeBlock_d0 : (((ck_cd k_RM_writeBlock).drop 0).take 50).all (fun e => ck_dok (ck_bs k_RM_writeBlock) e.1 e.2) = true := by decide +kernel
theorem k_RM_writeBlock_d1 : (((ck_cd k_RM_writeBlock).drop 50).take 50).all (fun e => ck_dok (ck_bs k_RM_writeBlock) e.1 e.2) = true := by decide +kernel
theorem k_RM_writeBlock_d2 : (((ck_cd k_RM_writeBlock).drop 100).take 50).all (fun e => ck_dok (ck_bs k_RM_writeBlock) e.1 e.2) = true := by decide +kernel
theorem k_RM_writeBlock_e2 : ((ck_cd k_RM_writeBlock).drop 100).all (fun e => ck_dok (ck_bs k_RM_writeBlock) e.1 e.2) = true := by
  have h := k_RM_writeBlock_d2
  rwa [List.take_of_length_le (by decide)] at h
theorem k_RM_writeBlock_e1 : ((ck_cd k_RM_writeBlock).drop 50).all (fun e => ck_dok (ck_bs k_RM_writeBlock) e.1 e.2) = true := ck_al 50 k_RM_writeBlock_d1 (by rw [List.drop_drop]; exact k_RM_writeBlock_e2)
theorem k_RM_writeBlock_e0 : ((ck_cd k_RM_writeBlock).drop 0).all (fun e => ck_dok (ck_bs k_RM_writeBlock) e.1 e.2) = true := ck_al 50 k_RM_writeBlock_d0 (by rw [List.drop_drop]; exact k_RM_writeBlock_e1)
theorem k_RM_writeBlock_d : ck_DP k_RM_writeBlock := k_RM_writeBlock_e0
theorem k_RM_hasRoom_d : ck_DP k_RM_hasRoom := by decide +kernel
theorem k_RM_put_d0 : (((ck_cd k_RM_put).drop 0).take 50).all (fun e => ck_dok (ck_bs k_RM_put) e.1 e.2) = true := by decide +kernel
theorem k_RM_put_d1 : (((ck_cd k_RM_put).drop 50).take 50).all (fun e => ck_dok (ck_bs k_RM_put) e.1 e.2) = true := by decide +kernel
theorem k_RM_put_d2 : (((ck_cd k_RM_put).drop 100).take 50).all (fun e => ck_dok (ck_bs k_RM_put) e.1 e.2) = true := by decide +kernel
theorem k_RM_put_e2 : ((ck_cd k_RM_put).drop 100).all (fun e => ck_dok (ck_bs k_RM_put) e.1 e.2) = true := by
  have h := k_RM_put_d2
  rwa [List.take_of_length_le (by decide)] at h
theorem k_RM_put_e1 : ((ck_cd k_RM_put).drop 50).all (fun e => ck_dok (ck_bs k_RM_put) e.1 e.2) = true := ck_al 50 k_RM_put_d1 (by rw [List.drop_drop]; exact k_RM_put_e2)
theorem k_RM_put_e0 : ((ck_cd k_RM_put).drop 0).all (fun e => ck_dok (ck_bs k_RM_put) e.1 e.2) = true := ck_al 50 k_RM_put_d0 (by rw [List.drop_drop]; exact k_RM_put_e1)
theorem k_RM_put_d : ck_DP k_RM_put := k_RM_put_e0
theorem k_RM_think_d : ck_DP k_RM_think := by decide +kernel
theorem k_RM_mayPutVariable_d : ck_DP k_RM_mayPutVariable := by decide +kernel
theorem k_RM_fits_d : ck_DP k_RM_fits := by decide +kernel
theorem k_RM_mayPutSpanned_d0 : (((ck_cd k_RM_mayPutSpanned).drop 0).take 50).all (fun e => ck_dok (ck_bs k_RM_mayPutSpanned) e.1 e.2) = true := by decide +kernel
theorem k_RM_mayPutSpanned_d1 : (((ck_cd k_RM_mayPutSpanned).drop 50).take 50).all (fun e => ck_dok (ck_bs k_RM_mayPutSpanned) e.1 e.2) = true := by decide +kernel
theorem k_RM_mayPutSpanned_e1 : ((ck_cd k_RM_mayPutSpanned).drop 50).all (fun e => ck_dok (ck_bs k_RM_mayPutSpanned) e.1 e.2) = true := by
  have h := k_RM_mayPutSpanned_d1
  rwa [List.take_of_length_le (by decide)] at h
theorem k_RM_mayPutSpanned_e0 : ((ck_cd k_RM_mayPutSpanned).drop 0).all (fun e => ck_dok (ck_bs k_RM_mayPutSpanned) e.1 e.2) = true := ck_al 50 k_RM_mayPutSpanned_d0 (by rw [List.drop_drop]; exact k_RM_mayPutSpanned_e1)
theorem k_RM_mayPutSpanned_d : ck_DP k_RM_mayPutSpanned := k_RM_mayPutSpanned_e0
