theorem k_Lw_law_d0 : (((ck_cd k_Lw_law).drop 0).take 50).all (fun e => ck_dok (ck_bs k_Lw_law) e.1 e.2) = true := by decide +kernel
theorem k_Lw_law_d1 : (((ck_cd k_Lw_law).drop 50).take 50).all (fun e => ck_dok (ck_bs k_Lw_law) e.1 e.2) = true := by decide +kernel
theorem k_Lw_law_d2 : (((ck_cd k_Lw_law).drop 100).take 50).all (fun e => ck_dok (ck_bs k_Lw_law) e.1 e.2) = true := by decide +kernel
theorem k_Lw_law_d3 : (((ck_cd k_Lw_law).drop 150).take 50).all (fun e => ck_dok (ck_bs k_Lw_law) e.1 e.2) = true := by decide +kernel
theorem k_Lw_law_d4 : (((ck_cd k_Lw_law).drop 200).take 50).all (fun e => ck_dok (ck_bs k_Lw_law) e.1 e.2) = true := by decide +kernel
