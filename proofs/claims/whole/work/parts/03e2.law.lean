theorem k_Lw_law_d10 : (((ck_cd k_Lw_law).drop 500).take 50).all (fun e => ck_dok (ck_bs k_Lw_law) e.1 e.2) = true := by decide +kernel
theorem k_Lw_law_d11 : (((ck_cd k_Lw_law).drop 550).take 50).all (fun e => ck_dok (ck_bs k_Lw_law) e.1 e.2) = true := by decide +kernel
theorem k_Lw_law_d12 : (((ck_cd k_Lw_law).drop 600).take 50).all (fun e => ck_dok (ck_bs k_Lw_law) e.1 e.2) = true := by decide +kernel
theorem k_Lw_law_d13 : (((ck_cd k_Lw_law).drop 650).take 50).all (fun e => ck_dok (ck_bs k_Lw_law) e.1 e.2) = true := by decide +kernel
theorem k_Lw_law_d14 : (((ck_cd k_Lw_law).drop 700).take 50).all (fun e => ck_dok (ck_bs k_Lw_law) e.1 e.2) = true := by decide +kernel
theorem k_Lw_law_e14 : ((ck_cd k_Lw_law).drop 700).all (fun e => ck_dok (ck_bs k_Lw_law) e.1 e.2) = true := by
  have h := k_Lw_law_d14
  rwa [List.take_of_length_le (by decide +kernel)] at h
theorem k_Lw_law_e13 : ((ck_cd k_Lw_law).drop 650).all (fun e => ck_dok (ck_bs k_Lw_law) e.1 e.2) = true := ck_al 50 k_Lw_law_d13 (by rw [List.drop_drop]; exact k_Lw_law_e14)
theorem k_Lw_law_e12 : ((ck_cd k_Lw_law).drop 600).all (fun e => ck_dok (ck_bs k_Lw_law) e.1 e.2) = true := ck_al 50 k_Lw_law_d12 (by rw [List.drop_drop]; exact k_Lw_law_e13)
theorem k_Lw_law_e11 : ((ck_cd k_Lw_law).drop 550).all (fun e => ck_dok (ck_bs k_Lw_law) e.1 e.2) = true := ck_al 50 k_Lw_law_d11 (by rw [List.drop_drop]; exact k_Lw_law_e12)
theorem k_Lw_law_e10 : ((ck_cd k_Lw_law).drop 500).all (fun e => ck_dok (ck_bs k_Lw_law) e.1 e.2) = true := ck_al 50 k_Lw_law_d10 (by rw [List.drop_drop]; exact k_Lw_law_e11)
theorem k_Lw_law_e9 : ((ck_cd k_Lw_law).drop 450).all (fun e => ck_dok (ck_bs k_Lw_law) e.1 e.2) = true := ck_al 50 k_Lw_law_d9 (by rw [List.drop_drop]; exact k_Lw_law_e10)
theorem k_Lw_law_e8 : ((ck_cd k_Lw_law).drop 400).all (fun e => ck_dok (ck_bs k_Lw_law) e.1 e.2) = true := ck_al 50 k_Lw_law_d8 (by rw [List.drop_drop]; exact k_Lw_law_e9)
theorem k_Lw_law_e7 : ((ck_cd k_Lw_law).drop 350).all (fun e => ck_dok (ck_bs k_Lw_law) e.1 e.2) = true := ck_al 50 k_Lw_law_d7 (by rw [List.drop_drop]; exact k_Lw_law_e8)
theorem k_Lw_law_e6 : ((ck_cd k_Lw_law).drop 300).all (fun e => ck_dok (ck_bs k_Lw_law) e.1 e.2) = true := ck_al 50 k_Lw_law_d6 (by rw [List.drop_drop]; exact k_Lw_law_e7)
theorem k_Lw_law_e5 : ((ck_cd k_Lw_law).drop 250).all (fun e => ck_dok (ck_bs k_Lw_law) e.1 e.2) = true := ck_al 50 k_Lw_law_d5 (by rw [List.drop_drop]; exact k_Lw_law_e6)
theorem k_Lw_law_e4 : ((ck_cd k_Lw_law).drop 200).all (fun e => ck_dok (ck_bs k_Lw_law) e.1 e.2) = true := ck_al 50 k_Lw_law_d4 (by rw [List.drop_drop]; exact k_Lw_law_e5)
theorem k_Lw_law_e3 : ((ck_cd k_Lw_law).drop 150).all (fun e => ck_dok (ck_bs k_Lw_law) e.1 e.2) = true := ck_al 50 k_Lw_law_d3 (by rw [List.drop_drop]; exact k_Lw_law_e4)
theorem k_Lw_law_e2 : ((ck_cd k_Lw_law).drop 100).all (fun e => ck_dok (ck_bs k_Lw_law) e.1 e.2) = true := ck_al 50 k_Lw_law_d2 (by rw [List.drop_drop]; exact k_Lw_law_e3)
theorem k_Lw_law_e1 : ((ck_cd k_Lw_law).drop 50).all (fun e => ck_dok (ck_bs k_Lw_law) e.1 e.2) = true := ck_al 50 k_Lw_law_d1 (by rw [List.drop_drop]; exact k_Lw_law_e2)
theorem k_Lw_law_e0 : ((ck_cd k_Lw_law).drop 0).all (fun e => ck_dok (ck_bs k_Lw_law) e.1 e.2) = true := ck_al 50 k_Lw_law_d0 (by rw [List.drop_drop]; exact k_Lw_law_e1)
theorem k_Lw_law_d : ck_DP k_Lw_law := k_Lw_law_e0
