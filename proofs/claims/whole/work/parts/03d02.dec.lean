theorem k_Vo_setCount_d : ck_DP k_Vo_setCount := by decide +kernel
theorem k_CS_allOpen_d : ck_DP k_CS_allOpen := by decide +kernel
theorem k_Op_isOpen_d : ck_DP k_Op_isOpen := by decide +kernel
theorem k_CS_open_d0 : (((ck_cd k_CS_open).drop 0).take 50).all (fun e => ck_dok (ck_bs k_CS_open) e.1 e.2) = true := by decide +kernel
theorem k_CS_open_d1 : (((ck_cd k_CS_open).drop 50).take 50).all (fun e => ck_dok (ck_bs k_CS_open) e.1 e.2) = true := by decide +kernel
theorem k_CS_open_e1 : ((ck_cd k_CS_open).drop 50).all (fun e => ck_dok (ck_bs k_CS_open) e.1 e.2) = true := by
  have h := k_CS_open_d1
  rwa [List.take_of_length_le (by decide)] at h
theorem k_CS_open_e0 : ((ck_cd k_CS_open).drop 0).all (fun e => ck_dok (ck_bs k_CS_open) e.1 e.2) = true := ck_al 50 k_CS_open_d0 (by rw [List.drop_drop]; exact k_CS_open_e1)
theorem k_CS_open_d : ck_DP k_CS_open := k_CS_open_e0
theorem k_DS_opensWith_d : ck_DP k_DS_opensWith := by decide +kernel
theorem k_CS_isBusy_d : ck_DP k_CS_isBusy := by decide +kernel
theorem k_CS_isOpenTo_d : ck_DP k_CS_isOpenTo := by decide +kernel
theorem k_CS_lowestClosed_d : ck_DP k_CS_lowestClosed := by decide +kernel
theorem k_DS_empty_d : ck_DP k_DS_empty := by decide +kernel
theorem k_DS_trackAt_d : ck_DP k_DS_trackAt := by decide +kernel
theorem k_DS_numberOf_d : ck_DP k_DS_numberOf := by decide +kernel
theorem k_Op_begin_d : ck_DP k_Op_begin := by decide +kernel
theorem k_DS_firstBlockTrack_d : ck_DP k_DS_firstBlockTrack := by decide +kernel
theorem k_Sp_set_d : ck_DP k_Sp_set := by decide +kernel
theorem k_Mk_begin_d : ck_DP k_Mk_begin := by decide +kernel
theorem k_Mk_beginMember_d : ck_DP k_Mk_beginMember := by decide +kernel
theorem k_CS_close_d : ck_DP k_CS_close := by decide +kernel
theorem k_CS_openingAt_d : ck_DP k_CS_openingAt := by decide +kernel
theorem k_Op_finish_d : ck_DP k_Op_finish := by decide +kernel
theorem k_Mk_writeBlock_d0 : (((ck_cd k_Mk_writeBlock).drop 0).take 50).all (fun e => ck_dok (ck_bs k_Mk_writeBlock) e.1 e.2) = true := by decide +kernel
theorem k_Mk_writeBlock_d1 : (((ck_cd k_Mk_writeBlock).drop 50).take 50).all (fun e => ck_dok (ck_bs k_Mk_writeBlock) e.1 e.2) = true := by decide +kernel
theorem k_Mk_writeBlock_e1 : ((ck_cd k_Mk_writeBlock).drop 50).all (fun e => ck_dok (ck_bs k_Mk_writeBlock) e.1 e.2) = true := by
  have h := k_Mk_writeBlock_d1
  rwa [List.take_of_length_le (by decide)] at h
theorem k_Mk_writeBlock_e0 : ((ck_cd k_Mk_writeBlock).drop 0).all (fun e => ck_dok (ck_bs k_Mk_writeBlock) e.1 e.2) = true := ck_al 50 k_Mk_writeBlock_d0 (by rw [List.drop_drop]; exact k_Mk_writeBlock_e1)
theorem k_Mk_writeBlock_d : ck_DP k_Mk_writeBlock := k_Mk_writeBlock_e0
theorem k_DS_lastBlockTrack_d : ck_DP k_DS_lastBlockTrack := by decide +kernel
theorem k_Tr_records_d : ck_DP k_Tr_records := by decide +kernel
theorem k_DS_roomFrom_d : ck_DP k_DS_roomFrom := by decide +kernel
theorem k_DS_blockLead_d : ck_DP k_DS_blockLead := by decide +kernel
theorem k_Rw_setPair_d : ck_DP k_Rw_setPair := by decide +kernel
theorem k_CS_put_d : ck_DP k_CS_put := by decide +kernel
theorem k_Op_putRecord_d : ck_DP k_Op_putRecord := by decide +kernel
theorem k_Op_hasLength_d : ck_DP k_Op_hasLength := by decide +kernel
theorem k_Mk_accepts_d : ck_DP k_Mk_accepts := by decide +kernel
theorem k_Tr_lastEnd_d : ck_DP k_Tr_lastEnd := by decide +kernel
theorem k_Mk_planVariable_d : ck_DP k_Mk_planVariable := by decide +kernel
theorem k_Mk_planBlock_d : ck_DP k_Mk_planBlock := by decide +kernel
theorem k_Mk_planSpanned_d0 : (((ck_cd k_Mk_planSpanned).drop 0).take 50).all (fun e => ck_dok (ck_bs k_Mk_planSpanned) e.1 e.2) = true := by decide +kernel
theorem k_Mk_planSpanned_d1 : (((ck_cd k_Mk_planSpanned).drop 50).take 50).all (fun e => ck_dok (ck_bs k_Mk_planSpanned) e.1 e.2) = true := by decide +kernel
theorem k_Mk_planSpanned_e1 : ((ck_cd k_Mk_planSpanned).drop 50).all (fun e => ck_dok (ck_bs k_Mk_planSpanned) e.1 e.2) = true := by
  have h := k_Mk_planSpanned_d1
  rwa [List.take_of_length_le (by decide)] at h
theorem k_Mk_planSpanned_e0 : ((ck_cd k_Mk_planSpanned).drop 0).all (fun e => ck_dok (ck_bs k_Mk_planSpanned) e.1 e.2) = true := ck_al 50 k_Mk_planSpanned_d0 (by rw [List.drop_drop]; exact k_Mk_planSpanned_e1)
theorem k_Mk_planSpanned_d : ck_DP k_Mk_planSpanned := k_Mk_planSpanned_e0
theorem k_Mk_leastFree_d : ck_DP k_Mk_leastFree := by decide +kernel
theorem k_Mk_take_d : ck_DP k_Mk_take := by decide +kernel
theorem k_Mk_takeVariable_d : ck_DP k_Mk_takeVariable := by decide +kernel
theorem k_Mk_beginBlock_d : ck_DP k_Mk_beginBlock := by decide +kernel
theorem k_Mk_takeSpanned_d0 : (((ck_cd k_Mk_takeSpanned).drop 0).take 50).all (fun e => ck_dok (ck_bs k_Mk_takeSpanned) e.1 e.2) = true := by decide +kernel
theorem k_Mk_takeSpanned_d1 : (((ck_cd k_Mk_takeSpanned).drop 50).take 50).all (fun e => ck_dok (ck_bs k_Mk_takeSpanned) e.1 e.2) = true := by decide +kernel
theorem k_Mk_takeSpanned_e1 : ((ck_cd k_Mk_takeSpanned).drop 50).all (fun e => ck_dok (ck_bs k_Mk_takeSpanned) e.1 e.2) = true := by
  have h := k_Mk_takeSpanned_d1
  rwa [List.take_of_length_le (by decide)] at h
theorem k_Mk_takeSpanned_e0 : ((ck_cd k_Mk_takeSpanned).drop 0).all (fun e => ck_dok (ck_bs k_Mk_takeSpanned) e.1 e.2) = true := ck_al 50 k_Mk_takeSpanned_d0 (by rw [List.drop_drop]; exact k_Mk_takeSpanned_e1)
theorem k_Mk_takeSpanned_d : ck_DP k_Mk_takeSpanned := k_Mk_takeSpanned_e0
theorem k_DS_typeOf_d : ck_DP k_DS_typeOf := by decide +kernel
theorem k_Mk_takeFixed_d : ck_DP k_Mk_takeFixed := by decide +kernel
theorem k_CS_get_d : ck_DP k_CS_get := by decide +kernel
theorem k_Op_getRecord_d0 : (((ck_cd k_Op_getRecord).drop 0).take 50).all (fun e => ck_dok (ck_bs k_Op_getRecord) e.1 e.2) = true := by decide +kernel
theorem k_Op_getRecord_d1 : (((ck_cd k_Op_getRecord).drop 50).take 50).all (fun e => ck_dok (ck_bs k_Op_getRecord) e.1 e.2) = true := by decide +kernel
theorem k_Op_getRecord_e1 : ((ck_cd k_Op_getRecord).drop 50).all (fun e => ck_dok (ck_bs k_Op_getRecord) e.1 e.2) = true := by
  have h := k_Op_getRecord_d1
  rwa [List.take_of_length_le (by decide)] at h
theorem k_Op_getRecord_e0 : ((ck_cd k_Op_getRecord).drop 0).all (fun e => ck_dok (ck_bs k_Op_getRecord) e.1 e.2) = true := ck_al 50 k_Op_getRecord_d0 (by rw [List.drop_drop]; exact k_Op_getRecord_e1)
theorem k_Op_getRecord_d : ck_DP k_Op_getRecord := k_Op_getRecord_e0
theorem k_Op_collect_d0 : (((ck_cd k_Op_collect).drop 0).take 50).all (fun e => ck_dok (ck_bs k_Op_collect) e.1 e.2) = true := by decide +kernel
theorem k_Op_collect_d1 : (((ck_cd k_Op_collect).drop 50).take 50).all (fun e => ck_dok (ck_bs k_Op_collect) e.1 e.2) = true := by decide +kernel
theorem k_Op_collect_d2 : (((ck_cd k_Op_collect).drop 100).take 50).all (fun e => ck_dok (ck_bs k_Op_collect) e.1 e.2) = true := by decide +kernel
theorem k_Op_collect_e2 : ((ck_cd k_Op_collect).drop 100).all (fun e => ck_dok (ck_bs k_Op_collect) e.1 e.2) = true := by
  have h := k_Op_collect_d2
  rwa [List.take_of_length_le (by decide)] at h
theorem k_Op_collect_e1 : ((ck_cd k_Op_collect).drop 50).all (fun e => ck_dok (ck_bs k_Op_collect) e.1 e.2) = true := ck_al 50 k_Op_collect_d1 (by rw [List.drop_drop]; exact k_Op_collect_e2)
theorem k_Op_collect_e0 : ((ck_cd k_Op_collect).drop 0).all (fun e => ck_dok (ck_bs k_Op_collect) e.1 e.2) = true := ck_al 50 k_Op_collect_d0 (by rw [List.drop_drop]; exact k_Op_collect_e1)
theorem k_Op_collect_d : ck_DP k_Op_collect := k_Op_collect_e0
theorem k_Sp_settle_d0 : (((ck_cd k_Sp_settle).drop 0).take 50).all (fun e => ck_dok (ck_bs k_Sp_settle) e.1 e.2) = true := by decide +kernel
theorem k_Sp_settle_d1 : (((ck_cd k_Sp_settle).drop 50).take 50).all (fun e => ck_dok (ck_bs k_Sp_settle) e.1 e.2) = true := by decide +kernel
theorem k_Sp_settle_e1 : ((ck_cd k_Sp_settle).drop 50).all (fun e => ck_dok (ck_bs k_Sp_settle) e.1 e.2) = true := by
  have h := k_Sp_settle_d1
  rwa [List.take_of_length_le (by decide)] at h
theorem k_Sp_settle_e0 : ((ck_cd k_Sp_settle).drop 0).all (fun e => ck_dok (ck_bs k_Sp_settle) e.1 e.2) = true := ck_al 50 k_Sp_settle_d0 (by rw [List.drop_drop]; exact k_Sp_settle_e1)
theorem k_Sp_settle_d : ck_DP k_Sp_settle := k_Sp_settle_e0
theorem k_Sp_passBlock_d : ck_DP k_Sp_passBlock := by decide +kernel
theorem k_Sp_entersBlock_d : ck_DP k_Sp_entersBlock := by decide +kernel
theorem k_DS_pieceType_d : ck_DP k_DS_pieceType := by decide +kernel
theorem k_DS_begins_d : ck_DP k_DS_begins := by decide +kernel
theorem k_Sp_copyOf_d : ck_DP k_Sp_copyOf := by decide +kernel
theorem k_Op_addPiece_d : ck_DP k_Op_addPiece := by decide +kernel
theorem k_DS_pieceLength_d : ck_DP k_DS_pieceLength := by decide +kernel
theorem k_DS_pieceLead_d : ck_DP k_DS_pieceLead := by decide +kernel
theorem k_Tr_pairOf_d : ck_DP k_Tr_pairOf := by decide +kernel
theorem k_DS_ends_d : ck_DP k_DS_ends := by decide +kernel
theorem k_CS_rewrite_d : ck_DP k_CS_rewrite := by decide +kernel
theorem k_Op_rewriteRecord_d0 : (((ck_cd k_Op_rewriteRecord).drop 0).take 50).all (fun e => ck_dok (ck_bs k_Op_rewriteRecord) e.1 e.2) = true := by decide +kernel
theorem k_Op_rewriteRecord_d1 : (((ck_cd k_Op_rewriteRecord).drop 50).take 50).all (fun e => ck_dok (ck_bs k_Op_rewriteRecord) e.1 e.2) = true := by decide +kernel
theorem k_Op_rewriteRecord_d2 : (((ck_cd k_Op_rewriteRecord).drop 100).take 50).all (fun e => ck_dok (ck_bs k_Op_rewriteRecord) e.1 e.2) = true := by decide +kernel
theorem k_Op_rewriteRecord_e2 : ((ck_cd k_Op_rewriteRecord).drop 100).all (fun e => ck_dok (ck_bs k_Op_rewriteRecord) e.1 e.2) = true := by
  have h := k_Op_rewriteRecord_d2
  rwa [List.take_of_length_le (by decide)] at h
theorem k_Op_rewriteRecord_e1 : ((ck_cd k_Op_rewriteRecord).drop 50).all (fun e => ck_dok (ck_bs k_Op_rewriteRecord) e.1 e.2) = true := ck_al 50 k_Op_rewriteRecord_d1 (by rw [List.drop_drop]; exact k_Op_rewriteRecord_e2)
theorem k_Op_rewriteRecord_e0 : ((ck_cd k_Op_rewriteRecord).drop 0).all (fun e => ck_dok (ck_bs k_Op_rewriteRecord) e.1 e.2) = true := ck_al 50 k_Op_rewriteRecord_d0 (by rw [List.drop_drop]; exact k_Op_rewriteRecord_e1)
theorem k_Op_rewriteRecord_d : ck_DP k_Op_rewriteRecord := k_Op_rewriteRecord_e0
theorem k_CS_putKeyed_d : ck_DP k_CS_putKeyed := by decide +kernel
theorem k_Op_keepKeyed_d0 : (((ck_cd k_Op_keepKeyed).drop 0).take 50).all (fun e => ck_dok (ck_bs k_Op_keepKeyed) e.1 e.2) = true := by decide +kernel
theorem k_Op_keepKeyed_d1 : (((ck_cd k_Op_keepKeyed).drop 50).take 50).all (fun e => ck_dok (ck_bs k_Op_keepKeyed) e.1 e.2) = true := by decide +kernel
theorem k_Op_keepKeyed_e1 : ((ck_cd k_Op_keepKeyed).drop 50).all (fun e => ck_dok (ck_bs k_Op_keepKeyed) e.1 e.2) = true := by
  have h := k_Op_keepKeyed_d1
  rwa [List.take_of_length_le (by decide)] at h
theorem k_Op_keepKeyed_e0 : ((ck_cd k_Op_keepKeyed).drop 0).all (fun e => ck_dok (ck_bs k_Op_keepKeyed) e.1 e.2) = true := ck_al 50 k_Op_keepKeyed_d0 (by rw [List.drop_drop]; exact k_Op_keepKeyed_e1)
theorem k_Op_keepKeyed_d : ck_DP k_Op_keepKeyed := k_Op_keepKeyed_e0
theorem k_DS_homeOf_d : ck_DP k_DS_homeOf := by decide +kernel
theorem k_Op_changeKeyed_d : ck_DP k_Op_changeKeyed := by decide +kernel
theorem k_Op_trackLookedAt_d : ck_DP k_Op_trackLookedAt := by decide +kernel
theorem k_DS_lookedAt_d : ck_DP k_DS_lookedAt := by decide +kernel
theorem k_Tr_findKey_d : ck_DP k_Tr_findKey := by decide +kernel
theorem k_Tr_hasKey_d : ck_DP k_Tr_hasKey := by decide +kernel
