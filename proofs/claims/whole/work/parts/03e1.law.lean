theorem k_Lw_law_d5 : (((ck_cd k_Lw_law).drop 250).take 50).all (fun e => ck_dok (ck_bs k_Lw_law) e.1 e.2) = true := by decide +kernel
theorem k_Lw_law_d6 : (((ck_cd k_Lw_law).drop 300).take 50).all (fun e => ck_dok (ck_bs k_Lw_law) e.1 e.2) = true := by decide +kernel
theorem k_Lw_law_d7 : (((ck_cd k_Lw_law).drop 350).take 50).all (fun e => ck_dok (ck_bs k_Lw_law) e.1 e.2) = true := by decide +kernel
theorem k_Lw_law_d8 : (((ck_cd k_Lw_law).drop 400).take 50).all (fun e => ck_dok (ck_bs k_Lw_law) e.1 e.2) = true := by decide +kernel
theorem k_Lw_law_d9 : (((ck_cd k_Lw_law).drop 450).take 50).all (fun e => ck_dok (ck_bs k_Lw_law) e.1 e.2) = true := by decide +kernel
