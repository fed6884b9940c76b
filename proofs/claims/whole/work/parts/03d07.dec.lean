theorem k_RM_writeList_d0 : (((ck_cd k_RM_writeList).drop 0).take 50).all (fun e => ck_dok (ck_bs k_RM_writeList) e.1 e.2) = true := by decide +kernel
theorem k_RM_writeList_d1 : (((ck_cd k_RM_writeList).drop 50).take 50).all (fun e => ck_dok (ck_bs k_RM_writeList) e.1 e.2) = true := by decide +kernel
theorem k_RM_writeList_d2 : (((ck_cd k_RM_writeList).drop 100).take 50).all (fun e => ck_dok (ck_bs k_RM_writeList) e.1 e.2) = true := by decide +kernel
theorem k_RM_writeList_d3 : (((ck_cd k_RM_writeList).drop 150).take 50).all (fun e => ck_dok (ck_bs k_RM_writeList) e.1 e.2) = true := by decide +kernel
theorem k_RM_writeList_e3 : ((ck_cd k_RM_writeList).drop 150).all (fun e => ck_dok (ck_bs k_RM_writeList) e.1 e.2) = true := by
  have h := k_RM_writeList_d3
  rwa [List.take_of_length_le (by decide)] at h
theorem k_RM_writeList_e2 : ((ck_cd k_RM_writeList).drop 100).all (fun e => ck_dok (ck_bs k_RM_writeList) e.1 e.2) = true := ck_al 50 k_RM_writeList_d2 (by rw [List.drop_drop]; exact k_RM_writeList_e3)
theorem k_RM_writeList_e1 : ((ck_cd k_RM_writeList).drop 50).all (fun e => ck_dok (ck_bs k_RM_writeList) e.1 e.2) = true := ck_al 50 k_RM_writeList_d1 (by rw [List.drop_drop]; exact k_RM_writeList_e2)
theorem k_RM_writeList_e0 : ((ck_cd k_RM_writeList).drop 0).all (fun e => ck_dok (ck_bs k_RM_writeList) e.1 e.2) = true := ck_al 50 k_RM_writeList_d0 (by rw [List.drop_drop]; exact k_RM_writeList_e1)
theorem k_RM_writeList_d : ck_DP k_RM_writeList := k_RM_writeList_e0
theorem k_RM_memberAt_d : ck_DP k_RM_memberAt := by decide +kernel
theorem k_RM_isLibrary_d : ck_DP k_RM_isLibrary := by decide +kernel
theorem k_RM_drop_d0 : (((ck_cd k_RM_drop).drop 0).take 50).all (fun e => ck_dok (ck_bs k_RM_drop) e.1 e.2) = true := by decide +kernel
theorem k_RM_drop_d1 : (((ck_cd k_RM_drop).drop 50).take 50).all (fun e => ck_dok (ck_bs k_RM_drop) e.1 e.2) = true := by decide +kernel
theorem k_RM_drop_e1 : ((ck_cd k_RM_drop).drop 50).all (fun e => ck_dok (ck_bs k_RM_drop) e.1 e.2) = true := by
  have h := k_RM_drop_d1
  rwa [List.take_of_length_le (by decide)] at h
theorem k_RM_drop_e0 : ((ck_cd k_RM_drop).drop 0).all (fun e => ck_dok (ck_bs k_RM_drop) e.1 e.2) = true := ck_al 50 k_RM_drop_d0 (by rw [List.drop_drop]; exact k_RM_drop_e1)
theorem k_RM_drop_d : ck_DP k_RM_drop := k_RM_drop_e0
theorem k_RM_press_d0 : (((ck_cd k_RM_press).drop 0).take 50).all (fun e => ck_dok (ck_bs k_RM_press) e.1 e.2) = true := by decide +kernel
theorem k_RM_press_d1 : (((ck_cd k_RM_press).drop 50).take 50).all (fun e => ck_dok (ck_bs k_RM_press) e.1 e.2) = true := by decide +kernel
theorem k_RM_press_d2 : (((ck_cd k_RM_press).drop 100).take 50).all (fun e => ck_dok (ck_bs k_RM_press) e.1 e.2) = true := by decide +kernel
theorem k_RM_press_d3 : (((ck_cd k_RM_press).drop 150).take 50).all (fun e => ck_dok (ck_bs k_RM_press) e.1 e.2) = true := by decide +kernel
theorem k_RM_press_d4 : (((ck_cd k_RM_press).drop 200).take 50).all (fun e => ck_dok (ck_bs k_RM_press) e.1 e.2) = true := by decide +kernel
theorem k_RM_press_d5 : (((ck_cd k_RM_press).drop 250).take 50).all (fun e => ck_dok (ck_bs k_RM_press) e.1 e.2) = true := by decide +kernel
theorem k_RM_press_e5 : ((ck_cd k_RM_press).drop 250).all (fun e => ck_dok (ck_bs k_RM_press) e.1 e.2) = true := by
  have h := k_RM_press_d5
  rwa [List.take_of_length_le (by decide)] at h
theorem k_RM_press_e4 : ((ck_cd k_RM_press).drop 200).all (fun e => ck_dok (ck_bs k_RM_press) e.1 e.2) = true := ck_al 50 k_RM_press_d4 (by rw [List.drop_drop]; exact k_RM_press_e5)
theorem k_RM_press_e3 : ((ck_cd k_RM_press).drop 150).all (fun e => ck_dok (ck_bs k_RM_press) e.1 e.2) = true := ck_al 50 k_RM_press_d3 (by rw [List.drop_drop]; exact k_RM_press_e4)
theorem k_RM_press_e2 : ((ck_cd k_RM_press).drop 100).all (fun e => ck_dok (ck_bs k_RM_press) e.1 e.2) = true := ck_al 50 k_RM_press_d2 (by rw [List.drop_drop]; exact k_RM_press_e3)
theorem k_RM_press_e1 : ((ck_cd k_RM_press).drop 50).all (fun e => ck_dok (ck_bs k_RM_press) e.1 e.2) = true := ck_al 50 k_RM_press_d1 (by rw [List.drop_drop]; exact k_RM_press_e2)
theorem k_RM_press_e0 : ((ck_cd k_RM_press).drop 0).all (fun e => ck_dok (ck_bs k_RM_press) e.1 e.2) = true := ck_al 50 k_RM_press_d0 (by rw [List.drop_drop]; exact k_RM_press_e1)
theorem k_RM_press_d : ck_DP k_RM_press := k_RM_press_e0
theorem k_RM_ownerOf_d0 : (((ck_cd k_RM_ownerOf).drop 0).take 50).all (fun e => ck_dok (ck_bs k_RM_ownerOf) e.1 e.2) = true := by decide +kernel
theorem k_RM_ownerOf_d1 : (((ck_cd k_RM_ownerOf).drop 50).take 50).all (fun e => ck_dok (ck_bs k_RM_ownerOf) e.1 e.2) = true := by decide +kernel
theorem k_RM_ownerOf_e1 : ((ck_cd k_RM_ownerOf).drop 50).all (fun e => ck_dok (ck_bs k_RM_ownerOf) e.1 e.2) = true := by
  have h := k_RM_ownerOf_d1
  rwa [List.take_of_length_le (by decide)] at h
theorem k_RM_ownerOf_e0 : ((ck_cd k_RM_ownerOf).drop 0).all (fun e => ck_dok (ck_bs k_RM_ownerOf) e.1 e.2) = true := ck_al 50 k_RM_ownerOf_d0 (by rw [List.drop_drop]; exact k_RM_ownerOf_e1)
theorem k_RM_ownerOf_d : ck_DP k_RM_ownerOf := k_RM_ownerOf_e0
theorem k_RM_opened_d : ck_DP k_RM_opened := by decide +kernel
