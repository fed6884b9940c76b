def ck_FP (o : Nat) (e : Nat × Nat × Nat × Bool) : Prop := match e.2.2.2 with
  | false => ck_w (.fieldLink (ck_on o) e.1 (ck_T e.2.1 e.2.2.1).1 (ck_T e.2.1 e.2.2.1).2.1 (ck_T e.2.1 e.2.2.1).2.2.1)
  | true => Cond.fieldLinkNest (ck_on o) e.1 (ck_T e.2.1 e.2.2.1).1 (ck_T e.2.1 e.2.2.1).2.1 (ck_T e.2.1 e.2.2.1).2.2.1 "CountKeyStore" ∈ ck_nF
theorem ck_fl0_0 : ck_FP 0 (9, 0, 0, false) := ⟨(ck_t1 _ (List.mem_of_getElem? (i := 115) rfl)), rfl⟩
theorem ck_fl0_1 : ck_FP 0 (17, 0, 1, false) := ⟨(ck_t1 _ (List.mem_of_getElem? (i := 116) rfl)), rfl⟩
theorem ck_fl0_2 : ck_FP 0 (21, 0, 10, false) := ⟨(ck_t1 _ (List.mem_of_getElem? (i := 128) rfl)), rfl⟩
theorem ck_fl0_3 : ck_FP 0 (25, 0, 2, false) := ⟨(ck_t1 _ (List.mem_of_getElem? (i := 117) rfl)), rfl⟩
theorem ck_fl0_4 : ck_FP 0 (30, 1, 0, false) := ⟨(ck_t1 _ (List.mem_of_getElem? (i := 101) rfl)), rfl⟩
theorem ck_fl0_5 : ck_FP 0 (33, 1, 1, false) := ⟨(ck_t1 _ (List.mem_of_getElem? (i := 102) rfl)), rfl⟩
theorem ck_fl0_6 : ck_FP 0 (36, 1, 2, false) := ⟨(ck_t1 _ (List.mem_of_getElem? (i := 103) rfl)), rfl⟩
theorem ck_fl0_7 : ck_FP 0 (39, 1, 3, false) := ⟨(ck_t1 _ (List.mem_of_getElem? (i := 105) rfl)), rfl⟩
theorem ck_fl0_8 : ck_FP 0 (90, 0, 8, false) := ⟨(ck_t1 _ (List.mem_of_getElem? (i := 125) rfl)), rfl⟩
theorem ck_fl0_9 : ck_FP 0 (97, 0, 3, false) := ⟨(ck_t1 _ (List.mem_of_getElem? (i := 118) rfl)), rfl⟩
theorem ck_fl0_10 : ck_FP 0 (100, 0, 9, false) := ⟨(ck_t1 _ (List.mem_of_getElem? (i := 127) rfl)), rfl⟩
theorem ck_fl0_11 : ck_FP 0 (103, 0, 11, false) := ⟨(ck_t1 _ (List.mem_of_getElem? (i := 131) rfl)), rfl⟩
theorem ck_fl0_12 : ck_FP 0 (110, 0, 6, false) := ⟨(ck_t1 _ (List.mem_of_getElem? (i := 121) rfl)), rfl⟩
theorem ck_fl0_13 : ck_FP 0 (156, 0, 4, false) := ⟨(ck_t1 _ (List.mem_of_getElem? (i := 119) rfl)), rfl⟩
theorem ck_fl0_14 : ck_FP 0 (159, 0, 5, false) := ⟨(ck_t1 _ (List.mem_of_getElem? (i := 120) rfl)), rfl⟩
theorem ck_fl0_15 : ck_FP 0 (162, 9, 0, true) := List.mem_of_getElem? (i := 1) rfl
theorem ck_fl0_16 : ck_FP 0 (168, 9, 1, false) := ⟨(ck_t1 _ (List.mem_of_getElem? (i := 78) rfl)), rfl⟩
theorem ck_fl0_17 : ck_FP 0 (171, 9, 2, false) := ⟨(ck_t1 _ (List.mem_of_getElem? (i := 80) rfl)), rfl⟩
theorem ck_fl0_18 : ck_FP 0 (174, 0, 7, false) := ⟨(ck_t1 _ (List.mem_of_getElem? (i := 123) rfl)), rfl⟩
theorem ck_fl0_ok : ∀ e ∈ ck_fl0, ck_FP 0 e := List.forall_mem_cons.mpr ⟨ck_fl0_0, List.forall_mem_cons.mpr ⟨ck_fl0_1, List.forall_mem_cons.mpr ⟨ck_fl0_2, List.forall_mem_cons.mpr ⟨ck_fl0_3, List.forall_mem_cons.mpr ⟨ck_fl0_4, List.forall_mem_cons.mpr ⟨ck_fl0_5, List.forall_mem_cons.mpr ⟨ck_fl0_6, List.forall_mem_cons.mpr ⟨ck_fl0_7, List.forall_mem_cons.mpr ⟨ck_fl0_8, List.forall_mem_cons.mpr ⟨ck_fl0_9, List.forall_mem_cons.mpr ⟨ck_fl0_10, List.forall_mem_cons.mpr ⟨ck_fl0_11, List.forall_mem_cons.mpr ⟨ck_fl0_12, List.forall_mem_cons.mpr ⟨ck_fl0_13, List.forall_mem_cons.mpr ⟨ck_fl0_14, List.forall_mem_cons.mpr ⟨ck_fl0_15, List.forall_mem_cons.mpr ⟨ck_fl0_16, List.forall_mem_cons.mpr ⟨ck_fl0_17, List.forall_mem_cons.mpr ⟨ck_fl0_18, fun _ h => absurd h List.not_mem_nil⟩⟩⟩⟩⟩⟩⟩⟩⟩⟩⟩⟩⟩⟩⟩⟩⟩⟩⟩
theorem ck_fl1_0 : ck_FP 1 (7, 1, 3, false) := ⟨(ck_t1 _ (List.mem_of_getElem? (i := 104) rfl)), rfl⟩
theorem ck_fl1_ok : ∀ e ∈ ck_fl1, ck_FP 1 e := List.forall_mem_cons.mpr ⟨ck_fl1_0, fun _ h => absurd h List.not_mem_nil⟩
theorem ck_fl2_0 : ck_FP 2 (9, 2, 1, false) := ⟨(ck_t1 _ (List.mem_of_getElem? (i := 209) rfl)), rfl⟩
theorem ck_fl2_1 : ck_FP 2 (15, 2, 2, false) := ⟨(ck_t1 _ (List.mem_of_getElem? (i := 211) rfl)), rfl⟩
theorem ck_fl2_2 : ck_FP 2 (19, 2, 3, false) := ⟨(ck_t1 _ (List.mem_of_getElem? (i := 213) rfl)), rfl⟩
theorem ck_fl2_3 : ck_FP 2 (25, 2, 4, false) := ⟨(ck_t1 _ (List.mem_of_getElem? (i := 215) rfl)), rfl⟩
theorem ck_fl2_4 : ck_FP 2 (29, 2, 0, false) := ⟨(ck_t1 _ (List.mem_of_getElem? (i := 207) rfl)), rfl⟩
theorem ck_fl2_5 : ck_FP 2 (33, 2, 6, false) := ⟨(ck_t1 _ (List.mem_of_getElem? (i := 221) rfl)), rfl⟩
theorem ck_fl2_6 : ck_FP 2 (37, 2, 9, false) := ⟨(ck_t1 _ (List.mem_of_getElem? (i := 235) rfl)), rfl⟩
theorem ck_fl2_7 : ck_FP 2 (74, 2, 7, false) := ⟨(ck_t1 _ (List.mem_of_getElem? (i := 229) rfl)), rfl⟩
theorem ck_fl2_ok : ∀ e ∈ ck_fl2, ck_FP 2 e := List.forall_mem_cons.mpr ⟨ck_fl2_0, List.forall_mem_cons.mpr ⟨ck_fl2_1, List.forall_mem_cons.mpr ⟨ck_fl2_2, List.forall_mem_cons.mpr ⟨ck_fl2_3, List.forall_mem_cons.mpr ⟨ck_fl2_4, List.forall_mem_cons.mpr ⟨ck_fl2_5, List.forall_mem_cons.mpr ⟨ck_fl2_6, List.forall_mem_cons.mpr ⟨ck_fl2_7, fun _ h => absurd h List.not_mem_nil⟩⟩⟩⟩⟩⟩⟩⟩
theorem ck_fl3_0 : ck_FP 3 (12, 3, 0, false) := ⟨(ck_t2 _ (List.mem_of_getElem? (i := 57) rfl)), rfl⟩
theorem ck_fl3_1 : ck_FP 3 (18, 6, 1, false) := ⟨(ck_t1 _ (List.mem_of_getElem? (i := 37) rfl)), rfl⟩
theorem ck_fl3_2 : ck_FP 3 (25, 3, 1, false) := ⟨(ck_t2 _ (List.mem_of_getElem? (i := 59) rfl)), rfl⟩
theorem ck_fl3_3 : ck_FP 3 (28, 3, 2, false) := ⟨(ck_t2 _ (List.mem_of_getElem? (i := 60) rfl)), rfl⟩
theorem ck_fl3_4 : ck_FP 3 (31, 3, 3, false) := ⟨(ck_t2 _ (List.mem_of_getElem? (i := 61) rfl)), rfl⟩
theorem ck_fl3_5 : ck_FP 3 (40, 3, 4, false) := ⟨(ck_t2 _ (List.mem_of_getElem? (i := 62) rfl)), rfl⟩
theorem ck_fl3_6 : ck_FP 3 (52, 3, 5, false) := ⟨(ck_t2 _ (List.mem_of_getElem? (i := 63) rfl)), rfl⟩
theorem ck_fl3_7 : ck_FP 3 (55, 2, 6, false) := ⟨(ck_t1 _ (List.mem_of_getElem? (i := 223) rfl)), rfl⟩
theorem ck_fl3_8 : ck_FP 3 (74, 2, 8, false) := ⟨(ck_t1 _ (List.mem_of_getElem? (i := 231) rfl)), rfl⟩
theorem ck_fl3_9 : ck_FP 3 (98, 6, 0, false) := ⟨(ck_t1 _ (List.mem_of_getElem? (i := 34) rfl)), rfl⟩
theorem ck_fl3_10 : ck_FP 3 (106, 2, 7, false) := ⟨(ck_t1 _ (List.mem_of_getElem? (i := 227) rfl)), rfl⟩
theorem ck_fl3_11 : ck_FP 3 (148, 2, 4, false) := ⟨(ck_t1 _ (List.mem_of_getElem? (i := 217) rfl)), rfl⟩
theorem ck_fl3_ok : ∀ e ∈ ck_fl3, ck_FP 3 e := List.forall_mem_cons.mpr ⟨ck_fl3_0, List.forall_mem_cons.mpr ⟨ck_fl3_1, List.forall_mem_cons.mpr ⟨ck_fl3_2, List.forall_mem_cons.mpr ⟨ck_fl3_3, List.forall_mem_cons.mpr ⟨ck_fl3_4, List.forall_mem_cons.mpr ⟨ck_fl3_5, List.forall_mem_cons.mpr ⟨ck_fl3_6, List.forall_mem_cons.mpr ⟨ck_fl3_7, List.forall_mem_cons.mpr ⟨ck_fl3_8, List.forall_mem_cons.mpr ⟨ck_fl3_9, List.forall_mem_cons.mpr ⟨ck_fl3_10, List.forall_mem_cons.mpr ⟨ck_fl3_11, fun _ h => absurd h List.not_mem_nil⟩⟩⟩⟩⟩⟩⟩⟩⟩⟩⟩⟩
theorem ck_fl4_0 : ck_FP 4 (9, 4, 0, false) := ⟨(ck_t1 _ (List.mem_of_getElem? (i := 180) rfl)), rfl⟩
theorem ck_fl4_1 : ck_FP 4 (15, 4, 1, false) := ⟨(ck_t1 _ (List.mem_of_getElem? (i := 183) rfl)), rfl⟩
theorem ck_fl4_2 : ck_FP 4 (19, 4, 2, false) := ⟨(ck_t1 _ (List.mem_of_getElem? (i := 186) rfl)), rfl⟩
theorem ck_fl4_3 : ck_FP 4 (22, 4, 3, false) := ⟨(ck_t1 _ (List.mem_of_getElem? (i := 189) rfl)), rfl⟩
theorem ck_fl4_4 : ck_FP 4 (25, 4, 4, false) := ⟨(ck_t1 _ (List.mem_of_getElem? (i := 191) rfl)), rfl⟩
theorem ck_fl4_ok : ∀ e ∈ ck_fl4, ck_FP 4 e := List.forall_mem_cons.mpr ⟨ck_fl4_0, List.forall_mem_cons.mpr ⟨ck_fl4_1, List.forall_mem_cons.mpr ⟨ck_fl4_2, List.forall_mem_cons.mpr ⟨ck_fl4_3, List.forall_mem_cons.mpr ⟨ck_fl4_4, fun _ h => absurd h List.not_mem_nil⟩⟩⟩⟩⟩
theorem ck_fl5_0 : ck_FP 5 (12, 5, 0, false) := ⟨(ck_t2 _ (List.mem_of_getElem? (i := 98) rfl)), rfl⟩
theorem ck_fl5_1 : ck_FP 5 (21, 5, 1, false) := ⟨(ck_t2 _ (List.mem_of_getElem? (i := 100) rfl)), rfl⟩
theorem ck_fl5_2 : ck_FP 5 (25, 5, 2, false) := ⟨(ck_t2 _ (List.mem_of_getElem? (i := 101) rfl)), rfl⟩
theorem ck_fl5_3 : ck_FP 5 (28, 5, 3, false) := ⟨(ck_t2 _ (List.mem_of_getElem? (i := 102) rfl)), rfl⟩
theorem ck_fl5_4 : ck_FP 5 (31, 5, 4, false) := ⟨(ck_t2 _ (List.mem_of_getElem? (i := 103) rfl)), rfl⟩
theorem ck_fl5_5 : ck_FP 5 (35, 5, 7, false) := ⟨(ck_t2 _ (List.mem_of_getElem? (i := 107) rfl)), rfl⟩
theorem ck_fl5_6 : ck_FP 5 (39, 5, 8, false) := ⟨(ck_t2 _ (List.mem_of_getElem? (i := 109) rfl)), rfl⟩
theorem ck_fl5_7 : ck_FP 5 (42, 5, 9, false) := ⟨(ck_t2 _ (List.mem_of_getElem? (i := 111) rfl)), rfl⟩
theorem ck_fl5_8 : ck_FP 5 (45, 5, 5, false) := ⟨(ck_t2 _ (List.mem_of_getElem? (i := 105) rfl)), rfl⟩
theorem ck_fl5_9 : ck_FP 5 (48, 2, 6, false) := ⟨(ck_t1 _ (List.mem_of_getElem? (i := 222) rfl)), rfl⟩
theorem ck_fl5_10 : ck_FP 5 (53, 5, 6, false) := ⟨(ck_t2 _ (List.mem_of_getElem? (i := 106) rfl)), rfl⟩
theorem ck_fl5_11 : ck_FP 5 (72, 6, 1, false) := ⟨(ck_t1 _ (List.mem_of_getElem? (i := 39) rfl)), rfl⟩
theorem ck_fl5_12 : ck_FP 5 (89, 2, 8, false) := ⟨(ck_t1 _ (List.mem_of_getElem? (i := 232) rfl)), rfl⟩
theorem ck_fl5_13 : ck_FP 5 (92, 2, 7, false) := ⟨(ck_t1 _ (List.mem_of_getElem? (i := 226) rfl)), rfl⟩
theorem ck_fl5_14 : ck_FP 5 (99, 6, 0, false) := ⟨(ck_t1 _ (List.mem_of_getElem? (i := 33) rfl)), rfl⟩
theorem ck_fl5_15 : ck_FP 5 (115, 7, 1, false) := ⟨(ck_t2 _ (List.mem_of_getElem? (i := 85) rfl)), rfl⟩
theorem ck_fl5_16 : ck_FP 5 (126, 7, 2, false) := ⟨(ck_t2 _ (List.mem_of_getElem? (i := 87) rfl)), rfl⟩
theorem ck_fl5_17 : ck_FP 5 (204, 2, 0, true) := List.mem_of_getElem? (i := 2) rfl
theorem ck_fl5_18 : ck_FP 5 (218, 2, 4, false) := ⟨(ck_t1 _ (List.mem_of_getElem? (i := 219) rfl)), rfl⟩
theorem ck_fl5_19 : ck_FP 5 (231, 4, 1, false) := ⟨(ck_t1 _ (List.mem_of_getElem? (i := 185) rfl)), rfl⟩
theorem ck_fl5_20 : ck_FP 5 (235, 4, 2, false) := ⟨(ck_t1 _ (List.mem_of_getElem? (i := 188) rfl)), rfl⟩
theorem ck_fl5_21 : ck_FP 5 (241, 4, 4, false) := ⟨(ck_t1 _ (List.mem_of_getElem? (i := 194) rfl)), rfl⟩
theorem ck_fl5_ok : ∀ e ∈ ck_fl5, ck_FP 5 e := List.forall_mem_cons.mpr ⟨ck_fl5_0, List.forall_mem_cons.mpr ⟨ck_fl5_1, List.forall_mem_cons.mpr ⟨ck_fl5_2, List.forall_mem_cons.mpr ⟨ck_fl5_3, List.forall_mem_cons.mpr ⟨ck_fl5_4, List.forall_mem_cons.mpr ⟨ck_fl5_5, List.forall_mem_cons.mpr ⟨ck_fl5_6, List.forall_mem_cons.mpr ⟨ck_fl5_7, List.forall_mem_cons.mpr ⟨ck_fl5_8, List.forall_mem_cons.mpr ⟨ck_fl5_9, List.forall_mem_cons.mpr ⟨ck_fl5_10, List.forall_mem_cons.mpr ⟨ck_fl5_11, List.forall_mem_cons.mpr ⟨ck_fl5_12, List.forall_mem_cons.mpr ⟨ck_fl5_13, List.forall_mem_cons.mpr ⟨ck_fl5_14, List.forall_mem_cons.mpr ⟨ck_fl5_15, List.forall_mem_cons.mpr ⟨ck_fl5_16, List.forall_mem_cons.mpr ⟨ck_fl5_17, List.forall_mem_cons.mpr ⟨ck_fl5_18, List.forall_mem_cons.mpr ⟨ck_fl5_19, List.forall_mem_cons.mpr ⟨ck_fl5_20, List.forall_mem_cons.mpr ⟨ck_fl5_21, fun _ h => absurd h List.not_mem_nil⟩⟩⟩⟩⟩⟩⟩⟩⟩⟩⟩⟩⟩⟩⟩⟩⟩⟩⟩⟩⟩⟩
theorem ck_fl6_0 : ck_FP 6 (9, 6, 0, false) := ⟨(ck_t1 _ (List.mem_of_getElem? (i := 31) rfl)), rfl⟩
theorem ck_fl6_1 : ck_FP 6 (15, 6, 1, false) := ⟨(ck_t1 _ (List.mem_of_getElem? (i := 38) rfl)), rfl⟩
theorem ck_fl6_ok : ∀ e ∈ ck_fl6, ck_FP 6 e := List.forall_mem_cons.mpr ⟨ck_fl6_0, List.forall_mem_cons.mpr ⟨ck_fl6_1, fun _ h => absurd h List.not_mem_nil⟩⟩
theorem ck_fl7_0 : ck_FP 7 (9, 7, 0, false) := ⟨(ck_t2 _ (List.mem_of_getElem? (i := 83) rfl)), rfl⟩
theorem ck_fl7_1 : ck_FP 7 (15, 7, 1, false) := ⟨(ck_t2 _ (List.mem_of_getElem? (i := 84) rfl)), rfl⟩
theorem ck_fl7_2 : ck_FP 7 (18, 7, 2, false) := ⟨(ck_t2 _ (List.mem_of_getElem? (i := 86) rfl)), rfl⟩
theorem ck_fl7_3 : ck_FP 7 (21, 7, 3, false) := ⟨(ck_t2 _ (List.mem_of_getElem? (i := 88) rfl)), rfl⟩
theorem ck_fl7_ok : ∀ e ∈ ck_fl7, ck_FP 7 e := List.forall_mem_cons.mpr ⟨ck_fl7_0, List.forall_mem_cons.mpr ⟨ck_fl7_1, List.forall_mem_cons.mpr ⟨ck_fl7_2, List.forall_mem_cons.mpr ⟨ck_fl7_3, fun _ h => absurd h List.not_mem_nil⟩⟩⟩⟩
theorem ck_fl8_0 : ck_FP 8 (9, 8, 1, false) := ⟨(ck_t1 _ (List.mem_of_getElem? (i := 64) rfl)), rfl⟩
theorem ck_fl8_1 : ck_FP 8 (15, 8, 2, false) := ⟨(ck_t1 _ (List.mem_of_getElem? (i := 65) rfl)), rfl⟩
theorem ck_fl8_2 : ck_FP 8 (26, 8, 0, false) := ⟨(ck_t1 _ (List.mem_of_getElem? (i := 63) rfl)), rfl⟩
theorem ck_fl8_ok : ∀ e ∈ ck_fl8, ck_FP 8 e := List.forall_mem_cons.mpr ⟨ck_fl8_0, List.forall_mem_cons.mpr ⟨ck_fl8_1, List.forall_mem_cons.mpr ⟨ck_fl8_2, fun _ h => absurd h List.not_mem_nil⟩⟩⟩
theorem ck_fl9_0 : ck_FP 9 (11, 9, 0, false) := ⟨(ck_t1 _ (List.mem_of_getElem? (i := 74) rfl)), rfl⟩
theorem ck_fl9_ok : ∀ e ∈ ck_fl9, ck_FP 9 e := List.forall_mem_cons.mpr ⟨ck_fl9_0, fun _ h => absurd h List.not_mem_nil⟩
theorem ck_fl10_0 : ck_FP 10 (11, 10, 1, false) := ⟨(ck_t2 _ (List.mem_of_getElem? (i := 20) rfl)), rfl⟩
theorem ck_fl10_1 : ck_FP 10 (17, 10, 2, false) := ⟨(ck_t2 _ (List.mem_of_getElem? (i := 21) rfl)), rfl⟩
theorem ck_fl10_2 : ck_FP 10 (21, 10, 3, false) := ⟨(ck_t2 _ (List.mem_of_getElem? (i := 22) rfl)), rfl⟩
theorem ck_fl10_3 : ck_FP 10 (25, 10, 4, false) := ⟨(ck_t2 _ (List.mem_of_getElem? (i := 23) rfl)), rfl⟩
theorem ck_fl10_4 : ck_FP 10 (31, 10, 5, false) := ⟨(ck_t2 _ (List.mem_of_getElem? (i := 24) rfl)), rfl⟩
theorem ck_fl10_5 : ck_FP 10 (38, 10, 6, false) := ⟨(ck_t2 _ (List.mem_of_getElem? (i := 25) rfl)), rfl⟩
theorem ck_fl10_6 : ck_FP 10 (42, 10, 0, false) := ⟨(ck_t2 _ (List.mem_of_getElem? (i := 19) rfl)), rfl⟩
theorem ck_fl10_7 : ck_FP 10 (49, 2, 5, false) := ⟨(ck_t1 _ (List.mem_of_getElem? (i := 220) rfl)), rfl⟩
theorem ck_fl10_8 : ck_FP 10 (57, 10, 7, false) := ⟨(ck_t2 _ (List.mem_of_getElem? (i := 26) rfl)), rfl⟩
theorem ck_fl10_9 : ck_FP 10 (82, 9, 0, true) := List.mem_of_getElem? (i := 0) rfl
theorem ck_fl10_10 : ck_FP 10 (92, 2, 1, false) := ⟨(ck_t1 _ (List.mem_of_getElem? (i := 210) rfl)), rfl⟩
theorem ck_fl10_11 : ck_FP 10 (102, 2, 6, false) := ⟨(ck_t1 _ (List.mem_of_getElem? (i := 224) rfl)), rfl⟩
theorem ck_fl10_12 : ck_FP 10 (105, 2, 7, false) := ⟨(ck_t1 _ (List.mem_of_getElem? (i := 228) rfl)), rfl⟩
theorem ck_fl10_13 : ck_FP 10 (108, 2, 8, false) := ⟨(ck_t1 _ (List.mem_of_getElem? (i := 233) rfl)), rfl⟩
theorem ck_fl10_14 : ck_FP 10 (111, 2, 9, false) := ⟨(ck_t1 _ (List.mem_of_getElem? (i := 236) rfl)), rfl⟩
theorem ck_fl10_15 : ck_FP 10 (114, 2, 4, false) := ⟨(ck_t1 _ (List.mem_of_getElem? (i := 216) rfl)), rfl⟩
theorem ck_fl10_16 : ck_FP 10 (118, 4, 4, false) := ⟨(ck_t1 _ (List.mem_of_getElem? (i := 192) rfl)), rfl⟩
theorem ck_fl10_17 : ck_FP 10 (130, 2, 2, false) := ⟨(ck_t1 _ (List.mem_of_getElem? (i := 212) rfl)), rfl⟩
theorem ck_fl10_18 : ck_FP 10 (133, 2, 3, false) := ⟨(ck_t1 _ (List.mem_of_getElem? (i := 214) rfl)), rfl⟩
theorem ck_fl10_19 : ck_FP 10 (140, 6, 1, false) := ⟨(ck_t1 _ (List.mem_of_getElem? (i := 40) rfl)), rfl⟩
theorem ck_fl10_20 : ck_FP 10 (155, 6, 0, false) := ⟨(ck_t1 _ (List.mem_of_getElem? (i := 35) rfl)), rfl⟩
theorem ck_fl10_21 : ck_FP 10 (177, 4, 0, false) := ⟨(ck_t1 _ (List.mem_of_getElem? (i := 181) rfl)), rfl⟩
theorem ck_fl10_22 : ck_FP 10 (184, 4, 1, false) := ⟨(ck_t1 _ (List.mem_of_getElem? (i := 184) rfl)), rfl⟩
theorem ck_fl10_23 : ck_FP 10 (186, 4, 2, false) := ⟨(ck_t1 _ (List.mem_of_getElem? (i := 187) rfl)), rfl⟩
theorem ck_fl10_24 : ck_FP 10 (189, 4, 3, false) := ⟨(ck_t1 _ (List.mem_of_getElem? (i := 190) rfl)), rfl⟩
theorem ck_fl10_ok : ∀ e ∈ ck_fl10, ck_FP 10 e := List.forall_mem_cons.mpr ⟨ck_fl10_0, List.forall_mem_cons.mpr ⟨ck_fl10_1, List.forall_mem_cons.mpr ⟨ck_fl10_2, List.forall_mem_cons.mpr ⟨ck_fl10_3, List.forall_mem_cons.mpr ⟨ck_fl10_4, List.forall_mem_cons.mpr ⟨ck_fl10_5, List.forall_mem_cons.mpr ⟨ck_fl10_6, List.forall_mem_cons.mpr ⟨ck_fl10_7, List.forall_mem_cons.mpr ⟨ck_fl10_8, List.forall_mem_cons.mpr ⟨ck_fl10_9, List.forall_mem_cons.mpr ⟨ck_fl10_10, List.forall_mem_cons.mpr ⟨ck_fl10_11, List.forall_mem_cons.mpr ⟨ck_fl10_12, List.forall_mem_cons.mpr ⟨ck_fl10_13, List.forall_mem_cons.mpr ⟨ck_fl10_14, List.forall_mem_cons.mpr ⟨ck_fl10_15, List.forall_mem_cons.mpr ⟨ck_fl10_16, List.forall_mem_cons.mpr ⟨ck_fl10_17, List.forall_mem_cons.mpr ⟨ck_fl10_18, List.forall_mem_cons.mpr ⟨ck_fl10_19, List.forall_mem_cons.mpr ⟨ck_fl10_20, List.forall_mem_cons.mpr ⟨ck_fl10_21, List.forall_mem_cons.mpr ⟨ck_fl10_22, List.forall_mem_cons.mpr ⟨ck_fl10_23, List.forall_mem_cons.mpr ⟨ck_fl10_24, fun _ h => absurd h List.not_mem_nil⟩⟩⟩⟩⟩⟩⟩⟩⟩⟩⟩⟩⟩⟩⟩⟩⟩⟩⟩⟩⟩⟩⟩⟩⟩
theorem ck_fl11_0 : ck_FP 11 (12, 11, 0, false) := ⟨(ck_t2 _ (List.mem_of_getElem? (i := 134) rfl)), rfl⟩
theorem ck_fl11_1 : ck_FP 11 (16, 11, 1, false) := ⟨(ck_t2 _ (List.mem_of_getElem? (i := 135) rfl)), rfl⟩
theorem ck_fl11_2 : ck_FP 11 (19, 11, 2, false) := ⟨(ck_t2 _ (List.mem_of_getElem? (i := 136) rfl)), rfl⟩
theorem ck_fl11_3 : ck_FP 11 (22, 11, 3, false) := ⟨(ck_t2 _ (List.mem_of_getElem? (i := 137) rfl)), rfl⟩
theorem ck_fl11_4 : ck_FP 11 (28, 11, 4, false) := ⟨(ck_t2 _ (List.mem_of_getElem? (i := 138) rfl)), rfl⟩
theorem ck_fl11_5 : ck_FP 11 (34, 11, 7, false) := ⟨(ck_t2 _ (List.mem_of_getElem? (i := 141) rfl)), rfl⟩
theorem ck_fl11_6 : ck_FP 11 (44, 11, 5, false) := ⟨(ck_t2 _ (List.mem_of_getElem? (i := 139) rfl)), rfl⟩
theorem ck_fl11_7 : ck_FP 11 (51, 11, 6, false) := ⟨(ck_t2 _ (List.mem_of_getElem? (i := 140) rfl)), rfl⟩
theorem ck_fl11_8 : ck_FP 11 (56, 6, 1, false) := ⟨(ck_t1 _ (List.mem_of_getElem? (i := 36) rfl)), rfl⟩
theorem ck_fl11_9 : ck_FP 11 (73, 6, 0, false) := ⟨(ck_t1 _ (List.mem_of_getElem? (i := 32) rfl)), rfl⟩
theorem ck_fl11_10 : ck_FP 11 (88, 0, 8, false) := ⟨(ck_t1 _ (List.mem_of_getElem? (i := 124) rfl)), rfl⟩
theorem ck_fl11_11 : ck_FP 11 (91, 0, 9, false) := ⟨(ck_t1 _ (List.mem_of_getElem? (i := 126) rfl)), rfl⟩
theorem ck_fl11_12 : ck_FP 11 (94, 0, 10, false) := ⟨(ck_t1 _ (List.mem_of_getElem? (i := 129) rfl)), rfl⟩
theorem ck_fl11_13 : ck_FP 11 (97, 0, 11, false) := ⟨(ck_t1 _ (List.mem_of_getElem? (i := 130) rfl)), rfl⟩
theorem ck_fl11_14 : ck_FP 11 (100, 0, 7, false) := ⟨(ck_t1 _ (List.mem_of_getElem? (i := 122) rfl)), rfl⟩
theorem ck_fl11_15 : ck_FP 11 (104, 9, 1, false) := ⟨(ck_t1 _ (List.mem_of_getElem? (i := 77) rfl)), rfl⟩
theorem ck_fl11_16 : ck_FP 11 (107, 9, 2, false) := ⟨(ck_t1 _ (List.mem_of_getElem? (i := 79) rfl)), rfl⟩
theorem ck_fl11_17 : ck_FP 11 (183, 2, 6, false) := ⟨(ck_t1 _ (List.mem_of_getElem? (i := 225) rfl)), rfl⟩
theorem ck_fl11_18 : ck_FP 11 (186, 2, 9, false) := ⟨(ck_t1 _ (List.mem_of_getElem? (i := 237) rfl)), rfl⟩
theorem ck_fl11_19 : ck_FP 11 (198, 2, 7, false) := ⟨(ck_t1 _ (List.mem_of_getElem? (i := 230) rfl)), rfl⟩
theorem ck_fl11_20 : ck_FP 11 (201, 2, 8, false) := ⟨(ck_t1 _ (List.mem_of_getElem? (i := 234) rfl)), rfl⟩
theorem ck_fl11_21 : ck_FP 11 (204, 2, 4, false) := ⟨(ck_t1 _ (List.mem_of_getElem? (i := 218) rfl)), rfl⟩
theorem ck_fl11_22 : ck_FP 11 (208, 4, 4, false) := ⟨(ck_t1 _ (List.mem_of_getElem? (i := 193) rfl)), rfl⟩
theorem ck_fl11_23 : ck_FP 11 (269, 5, 4, true) := List.mem_of_getElem? (i := 3) rfl
theorem ck_fl11_24 : ck_FP 11 (280, 4, 0, false) := ⟨(ck_t1 _ (List.mem_of_getElem? (i := 182) rfl)), rfl⟩
theorem ck_fl11_25 : ck_FP 11 (296, 5, 7, false) := ⟨(ck_t2 _ (List.mem_of_getElem? (i := 108) rfl)), rfl⟩
theorem ck_fl11_26 : ck_FP 11 (299, 5, 8, false) := ⟨(ck_t2 _ (List.mem_of_getElem? (i := 110) rfl)), rfl⟩
theorem ck_fl11_27 : ck_FP 11 (302, 5, 9, false) := ⟨(ck_t2 _ (List.mem_of_getElem? (i := 112) rfl)), rfl⟩
theorem ck_fl11_28 : ck_FP 11 (305, 5, 0, false) := ⟨(ck_t2 _ (List.mem_of_getElem? (i := 99) rfl)), rfl⟩
theorem ck_fl11_29 : ck_FP 11 (309, 3, 0, false) := ⟨(ck_t2 _ (List.mem_of_getElem? (i := 58) rfl)), rfl⟩
theorem ck_fl11_ok : ∀ e ∈ ck_fl11, ck_FP 11 e := List.forall_mem_cons.mpr ⟨ck_fl11_0, List.forall_mem_cons.mpr ⟨ck_fl11_1, List.forall_mem_cons.mpr ⟨ck_fl11_2, List.forall_mem_cons.mpr ⟨ck_fl11_3, List.forall_mem_cons.mpr ⟨ck_fl11_4, List.forall_mem_cons.mpr ⟨ck_fl11_5, List.forall_mem_cons.mpr ⟨ck_fl11_6, List.forall_mem_cons.mpr ⟨ck_fl11_7, List.forall_mem_cons.mpr ⟨ck_fl11_8, List.forall_mem_cons.mpr ⟨ck_fl11_9, List.forall_mem_cons.mpr ⟨ck_fl11_10, List.forall_mem_cons.mpr ⟨ck_fl11_11, List.forall_mem_cons.mpr ⟨ck_fl11_12, List.forall_mem_cons.mpr ⟨ck_fl11_13, List.forall_mem_cons.mpr ⟨ck_fl11_14, List.forall_mem_cons.mpr ⟨ck_fl11_15, List.forall_mem_cons.mpr ⟨ck_fl11_16, List.forall_mem_cons.mpr ⟨ck_fl11_17, List.forall_mem_cons.mpr ⟨ck_fl11_18, List.forall_mem_cons.mpr ⟨ck_fl11_19, List.forall_mem_cons.mpr ⟨ck_fl11_20, List.forall_mem_cons.mpr ⟨ck_fl11_21, List.forall_mem_cons.mpr ⟨ck_fl11_22, List.forall_mem_cons.mpr ⟨ck_fl11_23, List.forall_mem_cons.mpr ⟨ck_fl11_24, List.forall_mem_cons.mpr ⟨ck_fl11_25, List.forall_mem_cons.mpr ⟨ck_fl11_26, List.forall_mem_cons.mpr ⟨ck_fl11_27, List.forall_mem_cons.mpr ⟨ck_fl11_28, List.forall_mem_cons.mpr ⟨ck_fl11_29, fun _ h => absurd h List.not_mem_nil⟩⟩⟩⟩⟩⟩⟩⟩⟩⟩⟩⟩⟩⟩⟩⟩⟩⟩⟩⟩⟩⟩⟩⟩⟩⟩⟩⟩⟩⟩
theorem ck_fl12_0 : ck_FP 12 (3, 12, 2, false) := ⟨(ck_t6 _ (List.mem_of_getElem? (i := 141) rfl)), rfl⟩
theorem ck_fl12_1 : ck_FP 12 (11, 12, 6, false) := ⟨(ck_t6 _ (List.mem_of_getElem? (i := 145) rfl)), rfl⟩
theorem ck_fl12_2 : ck_FP 12 (14, 12, 7, false) := ⟨(ck_t6 _ (List.mem_of_getElem? (i := 146) rfl)), rfl⟩
theorem ck_fl12_3 : ck_FP 12 (17, 12, 1, false) := ⟨(ck_t6 _ (List.mem_of_getElem? (i := 140) rfl)), rfl⟩
theorem ck_fl12_4 : ck_FP 12 (30, 12, 3, false) := ⟨(ck_t6 _ (List.mem_of_getElem? (i := 142) rfl)), rfl⟩
theorem ck_fl12_5 : ck_FP 12 (33, 12, 4, false) := ⟨(ck_t6 _ (List.mem_of_getElem? (i := 143) rfl)), rfl⟩
theorem ck_fl12_6 : ck_FP 12 (36, 12, 5, false) := ⟨(ck_t6 _ (List.mem_of_getElem? (i := 144) rfl)), rfl⟩
theorem ck_fl12_7 : ck_FP 12 (39, 12, 8, false) := ⟨(ck_t6 _ (List.mem_of_getElem? (i := 147) rfl)), rfl⟩
theorem ck_fl12_8 : ck_FP 12 (43, 12, 0, false) := ⟨(ck_t6 _ (List.mem_of_getElem? (i := 139) rfl)), rfl⟩
theorem ck_fl12_9 : ck_FP 12 (54, 12, 9, false) := ⟨(ck_t6 _ (List.mem_of_getElem? (i := 148) rfl)), rfl⟩
theorem ck_fl12_10 : ck_FP 12 (57, 12, 10, false) := ⟨(ck_t6 _ (List.mem_of_getElem? (i := 149) rfl)), rfl⟩
theorem ck_fl12_11 : ck_FP 12 (60, 12, 14, false) := ⟨(ck_t6 _ (List.mem_of_getElem? (i := 153) rfl)), rfl⟩
theorem ck_fl12_12 : ck_FP 12 (63, 12, 15, false) := ⟨(ck_t6 _ (List.mem_of_getElem? (i := 154) rfl)), rfl⟩
theorem ck_fl12_13 : ck_FP 12 (66, 12, 16, false) := ⟨(ck_t6 _ (List.mem_of_getElem? (i := 155) rfl)), rfl⟩
theorem ck_fl12_14 : ck_FP 12 (69, 12, 17, false) := ⟨(ck_t6 _ (List.mem_of_getElem? (i := 156) rfl)), rfl⟩
theorem ck_fl12_15 : ck_FP 12 (72, 12, 18, false) := ⟨(ck_t6 _ (List.mem_of_getElem? (i := 157) rfl)), rfl⟩
theorem ck_fl12_16 : ck_FP 12 (75, 12, 19, false) := ⟨(ck_t6 _ (List.mem_of_getElem? (i := 158) rfl)), rfl⟩
theorem ck_fl12_17 : ck_FP 12 (78, 12, 20, false) := ⟨(ck_t6 _ (List.mem_of_getElem? (i := 159) rfl)), rfl⟩
theorem ck_fl12_18 : ck_FP 12 (81, 12, 24, false) := ⟨(ck_t6 _ (List.mem_of_getElem? (i := 163) rfl)), rfl⟩
theorem ck_fl12_19 : ck_FP 12 (85, 12, 32, false) := ⟨(ck_t6 _ (List.mem_of_getElem? (i := 171) rfl)), rfl⟩
theorem ck_fl12_20 : ck_FP 12 (88, 12, 33, false) := ⟨(ck_t6 _ (List.mem_of_getElem? (i := 172) rfl)), rfl⟩
theorem ck_fl12_21 : ck_FP 12 (91, 12, 34, false) := ⟨(ck_t6 _ (List.mem_of_getElem? (i := 173) rfl)), rfl⟩
theorem ck_fl12_22 : ck_FP 12 (94, 12, 35, false) := ⟨(ck_t6 _ (List.mem_of_getElem? (i := 174) rfl)), rfl⟩
theorem ck_fl12_23 : ck_FP 12 (97, 12, 36, false) := ⟨(ck_t6 _ (List.mem_of_getElem? (i := 175) rfl)), rfl⟩
theorem ck_fl12_24 : ck_FP 12 (100, 12, 37, false) := ⟨(ck_t6 _ (List.mem_of_getElem? (i := 176) rfl)), rfl⟩
theorem ck_fl12_25 : ck_FP 12 (103, 12, 38, false) := ⟨(ck_t6 _ (List.mem_of_getElem? (i := 177) rfl)), rfl⟩
theorem ck_fl12_26 : ck_FP 12 (106, 12, 39, false) := ⟨(ck_t6 _ (List.mem_of_getElem? (i := 178) rfl)), rfl⟩
theorem ck_fl12_27 : ck_FP 12 (109, 12, 40, false) := ⟨(ck_t6 _ (List.mem_of_getElem? (i := 179) rfl)), rfl⟩
theorem ck_fl12_28 : ck_FP 12 (112, 12, 41, false) := ⟨(ck_t6 _ (List.mem_of_getElem? (i := 180) rfl)), rfl⟩
theorem ck_fl12_29 : ck_FP 12 (115, 12, 42, false) := ⟨(ck_t6 _ (List.mem_of_getElem? (i := 181) rfl)), rfl⟩
theorem ck_fl12_30 : ck_FP 12 (118, 12, 43, false) := ⟨(ck_t6 _ (List.mem_of_getElem? (i := 182) rfl)), rfl⟩
theorem ck_fl12_31 : ck_FP 12 (121, 12, 44, false) := ⟨(ck_t6 _ (List.mem_of_getElem? (i := 183) rfl)), rfl⟩
theorem ck_fl12_32 : ck_FP 12 (124, 12, 45, false) := ⟨(ck_t6 _ (List.mem_of_getElem? (i := 184) rfl)), rfl⟩
theorem ck_fl12_33 : ck_FP 12 (127, 12, 46, false) := ⟨(ck_t6 _ (List.mem_of_getElem? (i := 185) rfl)), rfl⟩
theorem ck_fl12_34 : ck_FP 12 (130, 12, 47, false) := ⟨(ck_t6 _ (List.mem_of_getElem? (i := 186) rfl)), rfl⟩
theorem ck_fl12_35 : ck_FP 12 (133, 12, 49, false) := ⟨(ck_t6 _ (List.mem_of_getElem? (i := 188) rfl)), rfl⟩
theorem ck_fl12_36 : ck_FP 12 (136, 12, 50, false) := ⟨(ck_t6 _ (List.mem_of_getElem? (i := 189) rfl)), rfl⟩
theorem ck_fl12_37 : ck_FP 12 (139, 12, 51, false) := ⟨(ck_t6 _ (List.mem_of_getElem? (i := 190) rfl)), rfl⟩
theorem ck_fl12_38 : ck_FP 12 (142, 12, 52, false) := ⟨(ck_t6 _ (List.mem_of_getElem? (i := 191) rfl)), rfl⟩
theorem ck_fl12_39 : ck_FP 12 (145, 12, 53, false) := ⟨(ck_t6 _ (List.mem_of_getElem? (i := 192) rfl)), rfl⟩
theorem ck_fl12_40 : ck_FP 12 (148, 12, 54, false) := ⟨(ck_t6 _ (List.mem_of_getElem? (i := 193) rfl)), rfl⟩
theorem ck_fl12_41 : ck_FP 12 (151, 12, 55, false) := ⟨(ck_t6 _ (List.mem_of_getElem? (i := 194) rfl)), rfl⟩
theorem ck_fl12_42 : ck_FP 12 (154, 12, 56, false) := ⟨(ck_t6 _ (List.mem_of_getElem? (i := 195) rfl)), rfl⟩
theorem ck_fl12_43 : ck_FP 12 (157, 12, 57, false) := ⟨(ck_t6 _ (List.mem_of_getElem? (i := 196) rfl)), rfl⟩
theorem ck_fl12_44 : ck_FP 12 (160, 12, 58, false) := ⟨(ck_t6 _ (List.mem_of_getElem? (i := 197) rfl)), rfl⟩
theorem ck_fl12_45 : ck_FP 12 (163, 12, 59, false) := ⟨(ck_t6 _ (List.mem_of_getElem? (i := 198) rfl)), rfl⟩
theorem ck_fl12_46 : ck_FP 12 (166, 12, 60, false) := ⟨(ck_t6 _ (List.mem_of_getElem? (i := 199) rfl)), rfl⟩
theorem ck_fl12_47 : ck_FP 12 (169, 12, 61, false) := ⟨(ck_t6 _ (List.mem_of_getElem? (i := 200) rfl)), rfl⟩
theorem ck_fl12_48 : ck_FP 12 (172, 12, 62, false) := ⟨(ck_t6 _ (List.mem_of_getElem? (i := 201) rfl)), rfl⟩
theorem ck_fl12_49 : ck_FP 12 (175, 12, 63, false) := ⟨(ck_t6 _ (List.mem_of_getElem? (i := 202) rfl)), rfl⟩
theorem ck_fl12_50 : ck_FP 12 (178, 12, 64, false) := ⟨(ck_t6 _ (List.mem_of_getElem? (i := 203) rfl)), rfl⟩
theorem ck_fl12_51 : ck_FP 12 (181, 12, 65, false) := ⟨(ck_t6 _ (List.mem_of_getElem? (i := 204) rfl)), rfl⟩
theorem ck_fl12_52 : ck_FP 12 (184, 12, 66, false) := ⟨(ck_t6 _ (List.mem_of_getElem? (i := 205) rfl)), rfl⟩
theorem ck_fl12_53 : ck_FP 12 (187, 12, 67, false) := ⟨(ck_t6 _ (List.mem_of_getElem? (i := 206) rfl)), rfl⟩
theorem ck_fl12_54 : ck_FP 12 (190, 12, 68, false) := ⟨(ck_t6 _ (List.mem_of_getElem? (i := 207) rfl)), rfl⟩
theorem ck_fl12_55 : ck_FP 12 (193, 12, 69, false) := ⟨(ck_t6 _ (List.mem_of_getElem? (i := 208) rfl)), rfl⟩
theorem ck_fl12_56 : ck_FP 12 (196, 12, 70, false) := ⟨(ck_t6 _ (List.mem_of_getElem? (i := 209) rfl)), rfl⟩
theorem ck_fl12_57 : ck_FP 12 (199, 12, 71, false) := ⟨(ck_t6 _ (List.mem_of_getElem? (i := 210) rfl)), rfl⟩
theorem ck_fl12_58 : ck_FP 12 (202, 12, 72, false) := ⟨(ck_t6 _ (List.mem_of_getElem? (i := 211) rfl)), rfl⟩
theorem ck_fl12_59 : ck_FP 12 (206, 12, 75, false) := ⟨(ck_t6 _ (List.mem_of_getElem? (i := 214) rfl)), rfl⟩
theorem ck_fl12_60 : ck_FP 12 (209, 12, 76, false) := ⟨(ck_t6 _ (List.mem_of_getElem? (i := 215) rfl)), rfl⟩
theorem ck_fl12_61 : ck_FP 12 (212, 12, 77, false) := ⟨(ck_t6 _ (List.mem_of_getElem? (i := 216) rfl)), rfl⟩
theorem ck_fl12_62 : ck_FP 12 (215, 12, 78, false) := ⟨(ck_t6 _ (List.mem_of_getElem? (i := 217) rfl)), rfl⟩
theorem ck_fl12_63 : ck_FP 12 (218, 12, 11, false) := ⟨(ck_t6 _ (List.mem_of_getElem? (i := 150) rfl)), rfl⟩
theorem ck_fl12_64 : ck_FP 12 (229, 12, 12, false) := ⟨(ck_t6 _ (List.mem_of_getElem? (i := 151) rfl)), rfl⟩
theorem ck_fl12_65 : ck_FP 12 (232, 12, 13, false) := ⟨(ck_t6 _ (List.mem_of_getElem? (i := 152) rfl)), rfl⟩
theorem ck_fl12_66 : ck_FP 12 (258, 12, 27, false) := ⟨(ck_t6 _ (List.mem_of_getElem? (i := 166) rfl)), rfl⟩
theorem ck_fl12_67 : ck_FP 12 (271, 12, 26, false) := ⟨(ck_t6 _ (List.mem_of_getElem? (i := 165) rfl)), rfl⟩
theorem ck_fl12_68 : ck_FP 12 (274, 12, 23, false) := ⟨(ck_t6 _ (List.mem_of_getElem? (i := 162) rfl)), rfl⟩
theorem ck_fl12_69 : ck_FP 12 (277, 12, 25, false) := ⟨(ck_t6 _ (List.mem_of_getElem? (i := 164) rfl)), rfl⟩
theorem ck_fl12_70 : ck_FP 12 (284, 12, 22, false) := ⟨(ck_t6 _ (List.mem_of_getElem? (i := 161) rfl)), rfl⟩
theorem ck_fl12_71 : ck_FP 12 (293, 12, 28, false) := ⟨(ck_t6 _ (List.mem_of_getElem? (i := 167) rfl)), rfl⟩
theorem ck_fl12_72 : ck_FP 12 (296, 12, 30, false) := ⟨(ck_t6 _ (List.mem_of_getElem? (i := 169) rfl)), rfl⟩
theorem ck_fl12_73 : ck_FP 12 (299, 12, 31, false) := ⟨(ck_t6 _ (List.mem_of_getElem? (i := 170) rfl)), rfl⟩
theorem ck_fl12_74 : ck_FP 12 (305, 12, 21, false) := ⟨(ck_t6 _ (List.mem_of_getElem? (i := 160) rfl)), rfl⟩
theorem ck_fl12_75 : ck_FP 12 (368, 12, 29, false) := ⟨(ck_t6 _ (List.mem_of_getElem? (i := 168) rfl)), rfl⟩
theorem ck_fl12_76 : ck_FP 12 (422, 12, 48, false) := ⟨(ck_t6 _ (List.mem_of_getElem? (i := 187) rfl)), rfl⟩
theorem ck_fl12_77 : ck_FP 12 (505, 12, 73, false) := ⟨(ck_t6 _ (List.mem_of_getElem? (i := 212) rfl)), rfl⟩
theorem ck_fl12_78 : ck_FP 12 (508, 12, 74, false) := ⟨(ck_t6 _ (List.mem_of_getElem? (i := 213) rfl)), rfl⟩
theorem ck_fl12_ok : ∀ e ∈ ck_fl12, ck_FP 12 e := List.forall_mem_cons.mpr ⟨ck_fl12_0, List.forall_mem_cons.mpr ⟨ck_fl12_1, List.forall_mem_cons.mpr ⟨ck_fl12_2, List.forall_mem_cons.mpr ⟨ck_fl12_3, List.forall_mem_cons.mpr ⟨ck_fl12_4, List.forall_mem_cons.mpr ⟨ck_fl12_5, List.forall_mem_cons.mpr ⟨ck_fl12_6, List.forall_mem_cons.mpr ⟨ck_fl12_7, List.forall_mem_cons.mpr ⟨ck_fl12_8, List.forall_mem_cons.mpr ⟨ck_fl12_9, List.forall_mem_cons.mpr ⟨ck_fl12_10, List.forall_mem_cons.mpr ⟨ck_fl12_11, List.forall_mem_cons.mpr ⟨ck_fl12_12, List.forall_mem_cons.mpr ⟨ck_fl12_13, List.forall_mem_cons.mpr ⟨ck_fl12_14, List.forall_mem_cons.mpr ⟨ck_fl12_15, List.forall_mem_cons.mpr ⟨ck_fl12_16, List.forall_mem_cons.mpr ⟨ck_fl12_17, List.forall_mem_cons.mpr ⟨ck_fl12_18, List.forall_mem_cons.mpr ⟨ck_fl12_19, List.forall_mem_cons.mpr ⟨ck_fl12_20, List.forall_mem_cons.mpr ⟨ck_fl12_21, List.forall_mem_cons.mpr ⟨ck_fl12_22, List.forall_mem_cons.mpr ⟨ck_fl12_23, List.forall_mem_cons.mpr ⟨ck_fl12_24, List.forall_mem_cons.mpr ⟨ck_fl12_25, List.forall_mem_cons.mpr ⟨ck_fl12_26, List.forall_mem_cons.mpr ⟨ck_fl12_27, List.forall_mem_cons.mpr ⟨ck_fl12_28, List.forall_mem_cons.mpr ⟨ck_fl12_29, List.forall_mem_cons.mpr ⟨ck_fl12_30, List.forall_mem_cons.mpr ⟨ck_fl12_31, List.forall_mem_cons.mpr ⟨ck_fl12_32, List.forall_mem_cons.mpr ⟨ck_fl12_33, List.forall_mem_cons.mpr ⟨ck_fl12_34, List.forall_mem_cons.mpr ⟨ck_fl12_35, List.forall_mem_cons.mpr ⟨ck_fl12_36, List.forall_mem_cons.mpr ⟨ck_fl12_37, List.forall_mem_cons.mpr ⟨ck_fl12_38, List.forall_mem_cons.mpr ⟨ck_fl12_39, List.forall_mem_cons.mpr ⟨ck_fl12_40, List.forall_mem_cons.mpr ⟨ck_fl12_41, List.forall_mem_cons.mpr ⟨ck_fl12_42, List.forall_mem_cons.mpr ⟨ck_fl12_43, List.forall_mem_cons.mpr ⟨ck_fl12_44, List.forall_mem_cons.mpr ⟨ck_fl12_45, List.forall_mem_cons.mpr ⟨ck_fl12_46, List.forall_mem_cons.mpr ⟨ck_fl12_47, List.forall_mem_cons.mpr ⟨ck_fl12_48, List.forall_mem_cons.mpr ⟨ck_fl12_49, List.forall_mem_cons.mpr ⟨ck_fl12_50, List.forall_mem_cons.mpr ⟨ck_fl12_51, List.forall_mem_cons.mpr ⟨ck_fl12_52, List.forall_mem_cons.mpr ⟨ck_fl12_53, List.forall_mem_cons.mpr ⟨ck_fl12_54, List.forall_mem_cons.mpr ⟨ck_fl12_55, List.forall_mem_cons.mpr ⟨ck_fl12_56, List.forall_mem_cons.mpr ⟨ck_fl12_57, List.forall_mem_cons.mpr ⟨ck_fl12_58, List.forall_mem_cons.mpr ⟨ck_fl12_59, List.forall_mem_cons.mpr ⟨ck_fl12_60, List.forall_mem_cons.mpr ⟨ck_fl12_61, List.forall_mem_cons.mpr ⟨ck_fl12_62, List.forall_mem_cons.mpr ⟨ck_fl12_63, List.forall_mem_cons.mpr ⟨ck_fl12_64, List.forall_mem_cons.mpr ⟨ck_fl12_65, List.forall_mem_cons.mpr ⟨ck_fl12_66, List.forall_mem_cons.mpr ⟨ck_fl12_67, List.forall_mem_cons.mpr ⟨ck_fl12_68, List.forall_mem_cons.mpr ⟨ck_fl12_69, List.forall_mem_cons.mpr ⟨ck_fl12_70, List.forall_mem_cons.mpr ⟨ck_fl12_71, List.forall_mem_cons.mpr ⟨ck_fl12_72, List.forall_mem_cons.mpr ⟨ck_fl12_73, List.forall_mem_cons.mpr ⟨ck_fl12_74, List.forall_mem_cons.mpr ⟨ck_fl12_75, List.forall_mem_cons.mpr ⟨ck_fl12_76, List.forall_mem_cons.mpr ⟨ck_fl12_77, List.forall_mem_cons.mpr ⟨ck_fl12_78, fun _ h => absurd h List.not_mem_nil⟩⟩⟩⟩⟩⟩⟩⟩⟩⟩⟩⟩⟩⟩⟩⟩⟩⟩⟩⟩⟩⟩⟩⟩⟩⟩⟩⟩⟩⟩⟩⟩⟩⟩⟩⟩⟩⟩⟩⟩⟩⟩⟩⟩⟩⟩⟩⟩⟩⟩⟩⟩⟩⟩⟩⟩⟩⟩⟩⟩⟩⟩⟩⟩⟩⟩⟩⟩⟩⟩⟩⟩⟩⟩⟩⟩⟩⟩⟩
theorem ck_crL_ok : ∀ e ∈ ck_crL, ck_w (.classLink (ck_on e.1.1) e.1.2 (ck_on e.2)) := List.forall_mem_cons.mpr ⟨⟨(ck_t1 _ (List.mem_of_getElem? (i := 94) rfl)), rfl⟩, List.forall_mem_cons.mpr ⟨⟨(ck_t1 _ (List.mem_of_getElem? (i := 174) rfl)), rfl⟩, List.forall_mem_cons.mpr ⟨⟨(ck_t2 _ (List.mem_of_getElem? (i := 55) rfl)), rfl⟩, List.forall_mem_cons.mpr ⟨⟨(ck_t2 _ (List.mem_of_getElem? (i := 49) rfl)), rfl⟩, List.forall_mem_cons.mpr ⟨⟨(ck_t2 _ (List.mem_of_getElem? (i := 77) rfl)), rfl⟩, List.forall_mem_cons.mpr ⟨⟨(ck_t1 _ (List.mem_of_getElem? (i := 56) rfl)), rfl⟩, List.forall_mem_cons.mpr ⟨⟨(ck_t1 _ (List.mem_of_getElem? (i := 163) rfl)), rfl⟩, List.forall_mem_cons.mpr ⟨⟨(ck_t1 _ (List.mem_of_getElem? (i := 165) rfl)), rfl⟩, List.forall_mem_cons.mpr ⟨⟨(ck_t1 _ (List.mem_of_getElem? (i := 167) rfl)), rfl⟩, List.forall_mem_cons.mpr ⟨⟨(ck_t1 _ (List.mem_of_getElem? (i := 25) rfl)), rfl⟩, List.forall_mem_cons.mpr ⟨⟨(ck_t1 _ (List.mem_of_getElem? (i := 47) rfl)), rfl⟩, List.forall_mem_cons.mpr ⟨⟨(ck_t1 _ (List.mem_of_getElem? (i := 49) rfl)), rfl⟩, List.forall_mem_cons.mpr ⟨⟨(ck_t1 _ (List.mem_of_getElem? (i := 88) rfl)), rfl⟩, List.forall_mem_cons.mpr ⟨⟨(ck_t1 _ (List.mem_of_getElem? (i := 157) rfl)), rfl⟩, List.forall_mem_cons.mpr ⟨⟨(ck_t1 _ (List.mem_of_getElem? (i := 17) rfl)), rfl⟩, List.forall_mem_cons.mpr ⟨⟨(ck_t6 _ (List.mem_of_getElem? (i := 131) rfl)), rfl⟩, fun _ h => absurd h List.not_mem_nil⟩⟩⟩⟩⟩⟩⟩⟩⟩⟩⟩⟩⟩⟩⟩⟩
theorem ck_lcL_ok : ∀ e ∈ ck_lcL, ck_w (.constant (ck_on e.1.1) e.1.2 e.2) := List.forall_mem_cons.mpr ⟨⟨(ck_t3 _ (List.mem_of_getElem? (i := 38) rfl)), rfl⟩, List.forall_mem_cons.mpr ⟨⟨(ck_t5 _ (List.mem_of_getElem? (i := 78) rfl)), rfl⟩, List.forall_mem_cons.mpr ⟨⟨(ck_t4 _ (List.mem_of_getElem? (i := 229) rfl)), rfl⟩, List.forall_mem_cons.mpr ⟨⟨(ck_t5 _ (List.mem_of_getElem? (i := 126) rfl)), rfl⟩, List.forall_mem_cons.mpr ⟨⟨(ck_t6 _ (List.mem_of_getElem? (i := 137) rfl)), rfl⟩, List.forall_mem_cons.mpr ⟨⟨(ck_t6 _ (List.mem_of_getElem? (i := 138) rfl)), rfl⟩, fun _ h => absurd h List.not_mem_nil⟩⟩⟩⟩⟩⟩
theorem ck_l2L_ok : ∀ e ∈ ck_l2L, ck_w (.constantLong (ck_on e.1.1) e.1.2 e.2) := List.forall_mem_cons.mpr ⟨⟨(ck_t3 _ (List.mem_of_getElem? (i := 67) rfl)), rfl⟩, List.forall_mem_cons.mpr ⟨⟨(ck_t3 _ (List.mem_of_getElem? (i := 68) rfl)), rfl⟩, List.forall_mem_cons.mpr ⟨⟨(ck_t3 _ (List.mem_of_getElem? (i := 97) rfl)), rfl⟩, List.forall_mem_cons.mpr ⟨⟨(ck_t7 _ (List.mem_of_getElem? (i := 160) rfl)), rfl⟩, List.forall_mem_cons.mpr ⟨⟨(ck_t7 _ (List.mem_of_getElem? (i := 161) rfl)), rfl⟩, List.forall_mem_cons.mpr ⟨⟨(ck_t7 _ (List.mem_of_getElem? (i := 166) rfl)), rfl⟩, List.forall_mem_cons.mpr ⟨⟨(ck_t7 _ (List.mem_of_getElem? (i := 175) rfl)), rfl⟩, List.forall_mem_cons.mpr ⟨⟨(ck_t7 _ (List.mem_of_getElem? (i := 192) rfl)), rfl⟩, List.forall_mem_cons.mpr ⟨⟨(ck_t7 _ (List.mem_of_getElem? (i := 201) rfl)), rfl⟩, List.forall_mem_cons.mpr ⟨⟨(ck_t7 _ (List.mem_of_getElem? (i := 206) rfl)), rfl⟩, List.forall_mem_cons.mpr ⟨⟨(ck_t7 _ (List.mem_of_getElem? (i := 207) rfl)), rfl⟩, List.forall_mem_cons.mpr ⟨⟨(ck_t7 _ (List.mem_of_getElem? (i := 229) rfl)), rfl⟩, List.forall_mem_cons.mpr ⟨⟨(ck_t7 _ (List.mem_of_getElem? (i := 233) rfl)), rfl⟩, List.forall_mem_cons.mpr ⟨⟨(ck_t8 _ (List.mem_of_getElem? (i := 13) rfl)), rfl⟩, List.forall_mem_cons.mpr ⟨⟨(ck_t8 _ (List.mem_of_getElem? (i := 104) rfl)), rfl⟩, List.forall_mem_cons.mpr ⟨⟨(ck_t8 _ (List.mem_of_getElem? (i := 105) rfl)), rfl⟩, List.forall_mem_cons.mpr ⟨⟨(ck_t8 _ (List.mem_of_getElem? (i := 106) rfl)), rfl⟩, List.forall_mem_cons.mpr ⟨⟨(ck_t8 _ (List.mem_of_getElem? (i := 107) rfl)), rfl⟩, List.forall_mem_cons.mpr ⟨⟨(ck_t8 _ (List.mem_of_getElem? (i := 108) rfl)), rfl⟩, List.forall_mem_cons.mpr ⟨⟨(ck_t8 _ (List.mem_of_getElem? (i := 124) rfl)), rfl⟩, List.forall_mem_cons.mpr ⟨⟨(ck_t8 _ (List.mem_of_getElem? (i := 125) rfl)), rfl⟩, List.forall_mem_cons.mpr ⟨⟨(ck_t8 _ (List.mem_of_getElem? (i := 126) rfl)), rfl⟩, List.forall_mem_cons.mpr ⟨⟨(ck_t8 _ (List.mem_of_getElem? (i := 127) rfl)), rfl⟩, List.forall_mem_cons.mpr ⟨⟨(ck_t8 _ (List.mem_of_getElem? (i := 128) rfl)), rfl⟩, List.forall_mem_cons.mpr ⟨⟨(ck_t8 _ (List.mem_of_getElem? (i := 192) rfl)), rfl⟩, List.forall_mem_cons.mpr ⟨⟨(ck_t8 _ (List.mem_of_getElem? (i := 193) rfl)), rfl⟩, List.forall_mem_cons.mpr ⟨⟨(ck_t8 _ (List.mem_of_getElem? (i := 194) rfl)), rfl⟩, List.forall_mem_cons.mpr ⟨⟨(ck_t8 _ (List.mem_of_getElem? (i := 223) rfl)), rfl⟩, List.forall_mem_cons.mpr ⟨⟨(ck_t9 _ (List.mem_of_getElem? (i := 79) rfl)), rfl⟩, fun _ h => absurd h List.not_mem_nil⟩⟩⟩⟩⟩⟩⟩⟩⟩⟩⟩⟩⟩⟩⟩⟩⟩⟩⟩⟩⟩⟩⟩⟩⟩⟩⟩⟩⟩
theorem ck_u0_0 : ck_w (u_lay RX0 TX0 0) := ⟨(ck_t1 _ (List.mem_of_getElem? (i := 132) rfl)), rfl⟩
theorem ck_u0_1 : ck_w (u_lay RX0 TX0 1) := ⟨(ck_t1 _ (List.mem_of_getElem? (i := 134) rfl)), rfl⟩
theorem ck_u0_2 : ck_w (u_lay RX0 TX0 2) := ⟨(ck_t1 _ (List.mem_of_getElem? (i := 136) rfl)), rfl⟩
theorem ck_u0_3 : ck_w (u_lay RX0 TX0 3) := ⟨(ck_t1 _ (List.mem_of_getElem? (i := 138) rfl)), rfl⟩
theorem ck_u0_4 : ck_w (u_lay RX0 TX0 4) := ⟨(ck_t1 _ (List.mem_of_getElem? (i := 140) rfl)), rfl⟩
theorem ck_u0_5 : ck_w (u_lay RX0 TX0 5) := ⟨(ck_t1 _ (List.mem_of_getElem? (i := 142) rfl)), rfl⟩
theorem ck_u0_6 : ck_w (u_lay RX0 TX0 6) := ⟨(ck_t1 _ (List.mem_of_getElem? (i := 144) rfl)), rfl⟩
theorem ck_u0_7 : ck_w (u_lay RX0 TX0 7) := ⟨(ck_t1 _ (List.mem_of_getElem? (i := 146) rfl)), rfl⟩
theorem ck_u0_8 : ck_w (u_lay RX0 TX0 8) := ⟨(ck_t1 _ (List.mem_of_getElem? (i := 148) rfl)), rfl⟩
theorem ck_u0_9 : ck_w (u_lay RX0 TX0 9) := ⟨(ck_t1 _ (List.mem_of_getElem? (i := 150) rfl)), rfl⟩
theorem ck_u0_10 : ck_w (u_lay RX0 TX0 10) := ⟨(ck_t1 _ (List.mem_of_getElem? (i := 152) rfl)), rfl⟩
theorem ck_u0_11 : ck_w (u_lay RX0 TX0 11) := ⟨(ck_t1 _ (List.mem_of_getElem? (i := 154) rfl)), rfl⟩
theorem ck_u0 : ∀ w ∈ u_ws RX0 TX0 12, ck_w w := List.forall_mem_cons.mpr ⟨ck_u0_0, List.forall_mem_cons.mpr ⟨ck_u0_1, List.forall_mem_cons.mpr ⟨ck_u0_2, List.forall_mem_cons.mpr ⟨ck_u0_3, List.forall_mem_cons.mpr ⟨ck_u0_4, List.forall_mem_cons.mpr ⟨ck_u0_5, List.forall_mem_cons.mpr ⟨ck_u0_6, List.forall_mem_cons.mpr ⟨ck_u0_7, List.forall_mem_cons.mpr ⟨ck_u0_8, List.forall_mem_cons.mpr ⟨ck_u0_9, List.forall_mem_cons.mpr ⟨ck_u0_10, List.forall_mem_cons.mpr ⟨ck_u0_11, fun _ h => absurd h List.not_mem_nil⟩⟩⟩⟩⟩⟩⟩⟩⟩⟩⟩⟩
theorem ck_in0 : ck_w (.instantiable "CountKeyStore$Channel" 12) ∧ ck_w (.initialized "CountKeyStore$Channel") := ⟨⟨(ck_t1 _ (List.mem_of_getElem? (i := 89) rfl)), rfl⟩, ⟨(ck_t1 _ (List.mem_of_getElem? (i := 5) rfl)), rfl⟩⟩
theorem ck_u1_0 : ck_w (u_lay RX1 TX1 0) := ⟨(ck_t1 _ (List.mem_of_getElem? (i := 106) rfl)), rfl⟩
theorem ck_u1_1 : ck_w (u_lay RX1 TX1 1) := ⟨(ck_t1 _ (List.mem_of_getElem? (i := 108) rfl)), rfl⟩
theorem ck_u1_2 : ck_w (u_lay RX1 TX1 2) := ⟨(ck_t1 _ (List.mem_of_getElem? (i := 110) rfl)), rfl⟩
theorem ck_u1_3 : ck_w (u_lay RX1 TX1 3) := ⟨(ck_t1 _ (List.mem_of_getElem? (i := 112) rfl)), rfl⟩
theorem ck_u1 : ∀ w ∈ u_ws RX1 TX1 4, ck_w w := List.forall_mem_cons.mpr ⟨ck_u1_0, List.forall_mem_cons.mpr ⟨ck_u1_1, List.forall_mem_cons.mpr ⟨ck_u1_2, List.forall_mem_cons.mpr ⟨ck_u1_3, fun _ h => absurd h List.not_mem_nil⟩⟩⟩⟩
theorem ck_in1 : ck_w (.instantiable "CountKeyStore$Command" 4) ∧ ck_w (.initialized "CountKeyStore$Command") := ⟨⟨(ck_t1 _ (List.mem_of_getElem? (i := 96) rfl)), rfl⟩, ⟨(ck_t1 _ (List.mem_of_getElem? (i := 6) rfl)), rfl⟩⟩
theorem ck_u2_0 : ck_w (u_lay RX2 TX2 0) := ⟨(ck_t1 _ (List.mem_of_getElem? (i := 238) rfl)), rfl⟩
theorem ck_u2_1 : ck_w (u_lay RX2 TX2 1) := ⟨(ck_t2 _ (List.mem_of_getElem? (i := 0) rfl)), rfl⟩
theorem ck_u2_2 : ck_w (u_lay RX2 TX2 2) := ⟨(ck_t2 _ (List.mem_of_getElem? (i := 2) rfl)), rfl⟩
theorem ck_u2_3 : ck_w (u_lay RX2 TX2 3) := ⟨(ck_t2 _ (List.mem_of_getElem? (i := 4) rfl)), rfl⟩
theorem ck_u2_4 : ck_w (u_lay RX2 TX2 4) := ⟨(ck_t2 _ (List.mem_of_getElem? (i := 6) rfl)), rfl⟩
theorem ck_u2_5 : ck_w (u_lay RX2 TX2 5) := ⟨(ck_t2 _ (List.mem_of_getElem? (i := 8) rfl)), rfl⟩
theorem ck_u2_6 : ck_w (u_lay RX2 TX2 6) := ⟨(ck_t2 _ (List.mem_of_getElem? (i := 10) rfl)), rfl⟩
theorem ck_u2_7 : ck_w (u_lay RX2 TX2 7) := ⟨(ck_t2 _ (List.mem_of_getElem? (i := 12) rfl)), rfl⟩
theorem ck_u2_8 : ck_w (u_lay RX2 TX2 8) := ⟨(ck_t2 _ (List.mem_of_getElem? (i := 14) rfl)), rfl⟩
theorem ck_u2_9 : ck_w (u_lay RX2 TX2 9) := ⟨(ck_t2 _ (List.mem_of_getElem? (i := 16) rfl)), rfl⟩
theorem ck_u2 : ∀ w ∈ u_ws RX2 TX2 10, ck_w w := List.forall_mem_cons.mpr ⟨ck_u2_0, List.forall_mem_cons.mpr ⟨ck_u2_1, List.forall_mem_cons.mpr ⟨ck_u2_2, List.forall_mem_cons.mpr ⟨ck_u2_3, List.forall_mem_cons.mpr ⟨ck_u2_4, List.forall_mem_cons.mpr ⟨ck_u2_5, List.forall_mem_cons.mpr ⟨ck_u2_6, List.forall_mem_cons.mpr ⟨ck_u2_7, List.forall_mem_cons.mpr ⟨ck_u2_8, List.forall_mem_cons.mpr ⟨ck_u2_9, fun _ h => absurd h List.not_mem_nil⟩⟩⟩⟩⟩⟩⟩⟩⟩⟩
theorem ck_in2 : ck_w (.instantiable "CountKeyStore$DataSet" 10) ∧ ck_w (.initialized "CountKeyStore$DataSet") := ⟨⟨(ck_t1 _ (List.mem_of_getElem? (i := 169) rfl)), rfl⟩, ⟨(ck_t1 _ (List.mem_of_getElem? (i := 8) rfl)), rfl⟩⟩
theorem ck_u3_0 : ck_w (u_lay RX3 TX3 0) := ⟨(ck_t2 _ (List.mem_of_getElem? (i := 64) rfl)), rfl⟩
theorem ck_u3_1 : ck_w (u_lay RX3 TX3 1) := ⟨(ck_t2 _ (List.mem_of_getElem? (i := 66) rfl)), rfl⟩
theorem ck_u3_2 : ck_w (u_lay RX3 TX3 2) := ⟨(ck_t2 _ (List.mem_of_getElem? (i := 68) rfl)), rfl⟩
theorem ck_u3_3 : ck_w (u_lay RX3 TX3 3) := ⟨(ck_t2 _ (List.mem_of_getElem? (i := 70) rfl)), rfl⟩
theorem ck_u3_4 : ck_w (u_lay RX3 TX3 4) := ⟨(ck_t2 _ (List.mem_of_getElem? (i := 72) rfl)), rfl⟩
theorem ck_u3_5 : ck_w (u_lay RX3 TX3 5) := ⟨(ck_t2 _ (List.mem_of_getElem? (i := 74) rfl)), rfl⟩
theorem ck_u3 : ∀ w ∈ u_ws RX3 TX3 6, ck_w w := List.forall_mem_cons.mpr ⟨ck_u3_0, List.forall_mem_cons.mpr ⟨ck_u3_1, List.forall_mem_cons.mpr ⟨ck_u3_2, List.forall_mem_cons.mpr ⟨ck_u3_3, List.forall_mem_cons.mpr ⟨ck_u3_4, List.forall_mem_cons.mpr ⟨ck_u3_5, fun _ h => absurd h List.not_mem_nil⟩⟩⟩⟩⟩⟩
theorem ck_in3 : ck_w (.instantiable "CountKeyStore$Maker" 6) ∧ ck_w (.initialized "CountKeyStore$Maker") := ⟨⟨(ck_t2 _ (List.mem_of_getElem? (i := 50) rfl)), rfl⟩, ⟨(ck_t1 _ (List.mem_of_getElem? (i := 11) rfl)), rfl⟩⟩
theorem ck_u4_0 : ck_w (u_lay RX4 TX4 0) := ⟨(ck_t1 _ (List.mem_of_getElem? (i := 195) rfl)), rfl⟩
theorem ck_u4_1 : ck_w (u_lay RX4 TX4 1) := ⟨(ck_t1 _ (List.mem_of_getElem? (i := 197) rfl)), rfl⟩
theorem ck_u4_2 : ck_w (u_lay RX4 TX4 2) := ⟨(ck_t1 _ (List.mem_of_getElem? (i := 199) rfl)), rfl⟩
theorem ck_u4_3 : ck_w (u_lay RX4 TX4 3) := ⟨(ck_t1 _ (List.mem_of_getElem? (i := 201) rfl)), rfl⟩
theorem ck_u4_4 : ck_w (u_lay RX4 TX4 4) := ⟨(ck_t1 _ (List.mem_of_getElem? (i := 203) rfl)), rfl⟩
theorem ck_u4 : ∀ w ∈ u_ws RX4 TX4 5, ck_w w := List.forall_mem_cons.mpr ⟨ck_u4_0, List.forall_mem_cons.mpr ⟨ck_u4_1, List.forall_mem_cons.mpr ⟨ck_u4_2, List.forall_mem_cons.mpr ⟨ck_u4_3, List.forall_mem_cons.mpr ⟨ck_u4_4, fun _ h => absurd h List.not_mem_nil⟩⟩⟩⟩⟩
theorem ck_in4 : ck_w (.instantiable "CountKeyStore$Members" 5) ∧ ck_w (.initialized "CountKeyStore$Members") := ⟨⟨(ck_t1 _ (List.mem_of_getElem? (i := 175) rfl)), rfl⟩, ⟨(ck_t1 _ (List.mem_of_getElem? (i := 9) rfl)), rfl⟩⟩
theorem ck_u5_0 : ck_w (u_lay RX5 TX5 0) := ⟨(ck_t2 _ (List.mem_of_getElem? (i := 113) rfl)), rfl⟩
theorem ck_u5_1 : ck_w (u_lay RX5 TX5 1) := ⟨(ck_t2 _ (List.mem_of_getElem? (i := 115) rfl)), rfl⟩
theorem ck_u5_2 : ck_w (u_lay RX5 TX5 2) := ⟨(ck_t2 _ (List.mem_of_getElem? (i := 117) rfl)), rfl⟩
theorem ck_u5_3 : ck_w (u_lay RX5 TX5 3) := ⟨(ck_t2 _ (List.mem_of_getElem? (i := 119) rfl)), rfl⟩
theorem ck_u5_4 : ck_w (u_lay RX5 TX5 4) := ⟨(ck_t2 _ (List.mem_of_getElem? (i := 121) rfl)), rfl⟩
theorem ck_u5_5 : ck_w (u_lay RX5 TX5 5) := ⟨(ck_t2 _ (List.mem_of_getElem? (i := 123) rfl)), rfl⟩
theorem ck_u5_6 : ck_w (u_lay RX5 TX5 6) := ⟨(ck_t2 _ (List.mem_of_getElem? (i := 125) rfl)), rfl⟩
theorem ck_u5_7 : ck_w (u_lay RX5 TX5 7) := ⟨(ck_t2 _ (List.mem_of_getElem? (i := 127) rfl)), rfl⟩
theorem ck_u5_8 : ck_w (u_lay RX5 TX5 8) := ⟨(ck_t2 _ (List.mem_of_getElem? (i := 129) rfl)), rfl⟩
theorem ck_u5_9 : ck_w (u_lay RX5 TX5 9) := ⟨(ck_t2 _ (List.mem_of_getElem? (i := 131) rfl)), rfl⟩
theorem ck_u5 : ∀ w ∈ u_ws RX5 TX5 10, ck_w w := List.forall_mem_cons.mpr ⟨ck_u5_0, List.forall_mem_cons.mpr ⟨ck_u5_1, List.forall_mem_cons.mpr ⟨ck_u5_2, List.forall_mem_cons.mpr ⟨ck_u5_3, List.forall_mem_cons.mpr ⟨ck_u5_4, List.forall_mem_cons.mpr ⟨ck_u5_5, List.forall_mem_cons.mpr ⟨ck_u5_6, List.forall_mem_cons.mpr ⟨ck_u5_7, List.forall_mem_cons.mpr ⟨ck_u5_8, List.forall_mem_cons.mpr ⟨ck_u5_9, fun _ h => absurd h List.not_mem_nil⟩⟩⟩⟩⟩⟩⟩⟩⟩⟩
theorem ck_in5 : ck_w (.instantiable "CountKeyStore$Opening" 10) ∧ ck_w (.initialized "CountKeyStore$Opening") := ⟨⟨(ck_t2 _ (List.mem_of_getElem? (i := 44) rfl)), rfl⟩, ⟨(ck_t1 _ (List.mem_of_getElem? (i := 10) rfl)), rfl⟩⟩
theorem ck_u6_0 : ck_w (u_lay RX6 TX6 0) := ⟨(ck_t1 _ (List.mem_of_getElem? (i := 41) rfl)), rfl⟩
theorem ck_u6_1 : ck_w (u_lay RX6 TX6 1) := ⟨(ck_t1 _ (List.mem_of_getElem? (i := 43) rfl)), rfl⟩
theorem ck_u6 : ∀ w ∈ u_ws RX6 TX6 2, ck_w w := List.forall_mem_cons.mpr ⟨ck_u6_0, List.forall_mem_cons.mpr ⟨ck_u6_1, fun _ h => absurd h List.not_mem_nil⟩⟩
theorem ck_in6 : ck_w (.instantiable "CountKeyStore$Row" 2) ∧ ck_w (.initialized "CountKeyStore$Row") := ⟨⟨(ck_t1 _ (List.mem_of_getElem? (i := 26) rfl)), rfl⟩, ⟨(ck_t1 _ (List.mem_of_getElem? (i := 2) rfl)), rfl⟩⟩
theorem ck_u7_0 : ck_w (u_lay RX7 TX7 0) := ⟨(ck_t2 _ (List.mem_of_getElem? (i := 89) rfl)), rfl⟩
theorem ck_u7_1 : ck_w (u_lay RX7 TX7 1) := ⟨(ck_t2 _ (List.mem_of_getElem? (i := 91) rfl)), rfl⟩
theorem ck_u7_2 : ck_w (u_lay RX7 TX7 2) := ⟨(ck_t2 _ (List.mem_of_getElem? (i := 93) rfl)), rfl⟩
theorem ck_u7_3 : ck_w (u_lay RX7 TX7 3) := ⟨(ck_t2 _ (List.mem_of_getElem? (i := 95) rfl)), rfl⟩
theorem ck_u7 : ∀ w ∈ u_ws RX7 TX7 4, ck_w w := List.forall_mem_cons.mpr ⟨ck_u7_0, List.forall_mem_cons.mpr ⟨ck_u7_1, List.forall_mem_cons.mpr ⟨ck_u7_2, List.forall_mem_cons.mpr ⟨ck_u7_3, fun _ h => absurd h List.not_mem_nil⟩⟩⟩⟩
theorem ck_in7 : ck_w (.instantiable "CountKeyStore$Spot" 4) ∧ ck_w (.initialized "CountKeyStore$Spot") := ⟨⟨(ck_t2 _ (List.mem_of_getElem? (i := 78) rfl)), rfl⟩, ⟨(ck_t1 _ (List.mem_of_getElem? (i := 12) rfl)), rfl⟩⟩
theorem ck_u8_0 : ck_w (u_lay RX8 TX8 0) := ⟨(ck_t1 _ (List.mem_of_getElem? (i := 66) rfl)), rfl⟩
theorem ck_u8_1 : ck_w (u_lay RX8 TX8 1) := ⟨(ck_t1 _ (List.mem_of_getElem? (i := 68) rfl)), rfl⟩
theorem ck_u8_2 : ck_w (u_lay RX8 TX8 2) := ⟨(ck_t1 _ (List.mem_of_getElem? (i := 70) rfl)), rfl⟩
theorem ck_u8 : ∀ w ∈ u_ws RX8 TX8 3, ck_w w := List.forall_mem_cons.mpr ⟨ck_u8_0, List.forall_mem_cons.mpr ⟨ck_u8_1, List.forall_mem_cons.mpr ⟨ck_u8_2, fun _ h => absurd h List.not_mem_nil⟩⟩⟩
theorem ck_in8 : ck_w (.instantiable "CountKeyStore$Track" 3) ∧ ck_w (.initialized "CountKeyStore$Track") := ⟨⟨(ck_t1 _ (List.mem_of_getElem? (i := 58) rfl)), rfl⟩, ⟨(ck_t1 _ (List.mem_of_getElem? (i := 4) rfl)), rfl⟩⟩
theorem ck_u9_0 : ck_w (u_lay RX9 TX9 0) := ⟨(ck_t1 _ (List.mem_of_getElem? (i := 81) rfl)), rfl⟩
theorem ck_u9_1 : ck_w (u_lay RX9 TX9 1) := ⟨(ck_t1 _ (List.mem_of_getElem? (i := 83) rfl)), rfl⟩
theorem ck_u9_2 : ck_w (u_lay RX9 TX9 2) := ⟨(ck_t1 _ (List.mem_of_getElem? (i := 85) rfl)), rfl⟩
theorem ck_u9 : ∀ w ∈ u_ws RX9 TX9 3, ck_w w := List.forall_mem_cons.mpr ⟨ck_u9_0, List.forall_mem_cons.mpr ⟨ck_u9_1, List.forall_mem_cons.mpr ⟨ck_u9_2, fun _ h => absurd h List.not_mem_nil⟩⟩⟩
theorem ck_in9 : ck_w (.instantiable "CountKeyStore$Unit" 3) ∧ ck_w (.initialized "CountKeyStore$Unit") := ⟨⟨(ck_t1 _ (List.mem_of_getElem? (i := 51) rfl)), rfl⟩, ⟨(ck_t1 _ (List.mem_of_getElem? (i := 3) rfl)), rfl⟩⟩
theorem ck_u10_0 : ck_w (u_lay RX10 TX10 0) := ⟨(ck_t2 _ (List.mem_of_getElem? (i := 27) rfl)), rfl⟩
theorem ck_u10_1 : ck_w (u_lay RX10 TX10 1) := ⟨(ck_t2 _ (List.mem_of_getElem? (i := 29) rfl)), rfl⟩
theorem ck_u10_2 : ck_w (u_lay RX10 TX10 2) := ⟨(ck_t2 _ (List.mem_of_getElem? (i := 31) rfl)), rfl⟩
theorem ck_u10_3 : ck_w (u_lay RX10 TX10 3) := ⟨(ck_t2 _ (List.mem_of_getElem? (i := 33) rfl)), rfl⟩
theorem ck_u10_4 : ck_w (u_lay RX10 TX10 4) := ⟨(ck_t2 _ (List.mem_of_getElem? (i := 35) rfl)), rfl⟩
theorem ck_u10_5 : ck_w (u_lay RX10 TX10 5) := ⟨(ck_t2 _ (List.mem_of_getElem? (i := 37) rfl)), rfl⟩
theorem ck_u10_6 : ck_w (u_lay RX10 TX10 6) := ⟨(ck_t2 _ (List.mem_of_getElem? (i := 39) rfl)), rfl⟩
theorem ck_u10_7 : ck_w (u_lay RX10 TX10 7) := ⟨(ck_t2 _ (List.mem_of_getElem? (i := 41) rfl)), rfl⟩
theorem ck_u10 : ∀ w ∈ u_ws RX10 TX10 8, ck_w w := List.forall_mem_cons.mpr ⟨ck_u10_0, List.forall_mem_cons.mpr ⟨ck_u10_1, List.forall_mem_cons.mpr ⟨ck_u10_2, List.forall_mem_cons.mpr ⟨ck_u10_3, List.forall_mem_cons.mpr ⟨ck_u10_4, List.forall_mem_cons.mpr ⟨ck_u10_5, List.forall_mem_cons.mpr ⟨ck_u10_6, List.forall_mem_cons.mpr ⟨ck_u10_7, fun _ h => absurd h List.not_mem_nil⟩⟩⟩⟩⟩⟩⟩⟩
theorem ck_in10 : ck_w (.instantiable "CountKeyStore$Volume" 8) ∧ ck_w (.initialized "CountKeyStore$Volume") := ⟨⟨(ck_t1 _ (List.mem_of_getElem? (i := 158) rfl)), rfl⟩, ⟨(ck_t1 _ (List.mem_of_getElem? (i := 7) rfl)), rfl⟩⟩
theorem ck_u11_0 : ck_w (u_lay RX11 TX11 0) := ⟨(ck_t2 _ (List.mem_of_getElem? (i := 142) rfl)), rfl⟩
theorem ck_u11_1 : ck_w (u_lay RX11 TX11 1) := ⟨(ck_t2 _ (List.mem_of_getElem? (i := 144) rfl)), rfl⟩
theorem ck_u11_2 : ck_w (u_lay RX11 TX11 2) := ⟨(ck_t2 _ (List.mem_of_getElem? (i := 146) rfl)), rfl⟩
theorem ck_u11_3 : ck_w (u_lay RX11 TX11 3) := ⟨(ck_t2 _ (List.mem_of_getElem? (i := 148) rfl)), rfl⟩
theorem ck_u11_4 : ck_w (u_lay RX11 TX11 4) := ⟨(ck_t2 _ (List.mem_of_getElem? (i := 150) rfl)), rfl⟩
theorem ck_u11_5 : ck_w (u_lay RX11 TX11 5) := ⟨(ck_t2 _ (List.mem_of_getElem? (i := 152) rfl)), rfl⟩
theorem ck_u11_6 : ck_w (u_lay RX11 TX11 6) := ⟨(ck_t2 _ (List.mem_of_getElem? (i := 154) rfl)), rfl⟩
theorem ck_u11_7 : ck_w (u_lay RX11 TX11 7) := ⟨(ck_t2 _ (List.mem_of_getElem? (i := 156) rfl)), rfl⟩
theorem ck_u11 : ∀ w ∈ u_ws RX11 TX11 8, ck_w w := List.forall_mem_cons.mpr ⟨ck_u11_0, List.forall_mem_cons.mpr ⟨ck_u11_1, List.forall_mem_cons.mpr ⟨ck_u11_2, List.forall_mem_cons.mpr ⟨ck_u11_3, List.forall_mem_cons.mpr ⟨ck_u11_4, List.forall_mem_cons.mpr ⟨ck_u11_5, List.forall_mem_cons.mpr ⟨ck_u11_6, List.forall_mem_cons.mpr ⟨ck_u11_7, fun _ h => absurd h List.not_mem_nil⟩⟩⟩⟩⟩⟩⟩⟩
theorem ck_in11 : ck_w (.instantiable "CountKeyStore" 8) ∧ ck_w (.initialized "CountKeyStore") := ⟨⟨(ck_t1 _ (List.mem_of_getElem? (i := 18) rfl)), rfl⟩, ⟨(ck_t1 _ (List.mem_of_getElem? (i := 1) rfl)), rfl⟩⟩
theorem ck_u12_0 : ck_w (u_lay RX12 TX12 0) := ⟨(ck_t6 _ (List.mem_of_getElem? (i := 218) rfl)), rfl⟩
theorem ck_u12_1 : ck_w (u_lay RX12 TX12 1) := ⟨(ck_t6 _ (List.mem_of_getElem? (i := 220) rfl)), rfl⟩
theorem ck_u12_2 : ck_w (u_lay RX12 TX12 2) := ⟨(ck_t6 _ (List.mem_of_getElem? (i := 222) rfl)), rfl⟩
theorem ck_u12_3 : ck_w (u_lay RX12 TX12 3) := ⟨(ck_t6 _ (List.mem_of_getElem? (i := 224) rfl)), rfl⟩
theorem ck_u12_4 : ck_w (u_lay RX12 TX12 4) := ⟨(ck_t6 _ (List.mem_of_getElem? (i := 226) rfl)), rfl⟩
theorem ck_u12_5 : ck_w (u_lay RX12 TX12 5) := ⟨(ck_t6 _ (List.mem_of_getElem? (i := 228) rfl)), rfl⟩
theorem ck_u12_6 : ck_w (u_lay RX12 TX12 6) := ⟨(ck_t6 _ (List.mem_of_getElem? (i := 230) rfl)), rfl⟩
theorem ck_u12_7 : ck_w (u_lay RX12 TX12 7) := ⟨(ck_t6 _ (List.mem_of_getElem? (i := 232) rfl)), rfl⟩
theorem ck_u12_8 : ck_w (u_lay RX12 TX12 8) := ⟨(ck_t6 _ (List.mem_of_getElem? (i := 234) rfl)), rfl⟩
theorem ck_u12_9 : ck_w (u_lay RX12 TX12 9) := ⟨(ck_t6 _ (List.mem_of_getElem? (i := 236) rfl)), rfl⟩
theorem ck_u12_10 : ck_w (u_lay RX12 TX12 10) := ⟨(ck_t6 _ (List.mem_of_getElem? (i := 238) rfl)), rfl⟩
theorem ck_u12_11 : ck_w (u_lay RX12 TX12 11) := ⟨(ck_t7 _ (List.mem_of_getElem? (i := 0) rfl)), rfl⟩
theorem ck_u12_12 : ck_w (u_lay RX12 TX12 12) := ⟨(ck_t7 _ (List.mem_of_getElem? (i := 2) rfl)), rfl⟩
theorem ck_u12_13 : ck_w (u_lay RX12 TX12 13) := ⟨(ck_t7 _ (List.mem_of_getElem? (i := 4) rfl)), rfl⟩
theorem ck_u12_14 : ck_w (u_lay RX12 TX12 14) := ⟨(ck_t7 _ (List.mem_of_getElem? (i := 6) rfl)), rfl⟩
theorem ck_u12_15 : ck_w (u_lay RX12 TX12 15) := ⟨(ck_t7 _ (List.mem_of_getElem? (i := 8) rfl)), rfl⟩
theorem ck_u12_16 : ck_w (u_lay RX12 TX12 16) := ⟨(ck_t7 _ (List.mem_of_getElem? (i := 10) rfl)), rfl⟩
theorem ck_u12_17 : ck_w (u_lay RX12 TX12 17) := ⟨(ck_t7 _ (List.mem_of_getElem? (i := 12) rfl)), rfl⟩
theorem ck_u12_18 : ck_w (u_lay RX12 TX12 18) := ⟨(ck_t7 _ (List.mem_of_getElem? (i := 14) rfl)), rfl⟩
theorem ck_u12_19 : ck_w (u_lay RX12 TX12 19) := ⟨(ck_t7 _ (List.mem_of_getElem? (i := 16) rfl)), rfl⟩
theorem ck_u12_20 : ck_w (u_lay RX12 TX12 20) := ⟨(ck_t7 _ (List.mem_of_getElem? (i := 18) rfl)), rfl⟩
theorem ck_u12_21 : ck_w (u_lay RX12 TX12 21) := ⟨(ck_t7 _ (List.mem_of_getElem? (i := 20) rfl)), rfl⟩
theorem ck_u12_22 : ck_w (u_lay RX12 TX12 22) := ⟨(ck_t7 _ (List.mem_of_getElem? (i := 22) rfl)), rfl⟩
theorem ck_u12_23 : ck_w (u_lay RX12 TX12 23) := ⟨(ck_t7 _ (List.mem_of_getElem? (i := 24) rfl)), rfl⟩
theorem ck_u12_24 : ck_w (u_lay RX12 TX12 24) := ⟨(ck_t7 _ (List.mem_of_getElem? (i := 26) rfl)), rfl⟩
theorem ck_u12_25 : ck_w (u_lay RX12 TX12 25) := ⟨(ck_t7 _ (List.mem_of_getElem? (i := 28) rfl)), rfl⟩
theorem ck_u12_26 : ck_w (u_lay RX12 TX12 26) := ⟨(ck_t7 _ (List.mem_of_getElem? (i := 30) rfl)), rfl⟩
theorem ck_u12_27 : ck_w (u_lay RX12 TX12 27) := ⟨(ck_t7 _ (List.mem_of_getElem? (i := 32) rfl)), rfl⟩
theorem ck_u12_28 : ck_w (u_lay RX12 TX12 28) := ⟨(ck_t7 _ (List.mem_of_getElem? (i := 34) rfl)), rfl⟩
theorem ck_u12_29 : ck_w (u_lay RX12 TX12 29) := ⟨(ck_t7 _ (List.mem_of_getElem? (i := 36) rfl)), rfl⟩
theorem ck_u12_30 : ck_w (u_lay RX12 TX12 30) := ⟨(ck_t7 _ (List.mem_of_getElem? (i := 38) rfl)), rfl⟩
theorem ck_u12_31 : ck_w (u_lay RX12 TX12 31) := ⟨(ck_t7 _ (List.mem_of_getElem? (i := 40) rfl)), rfl⟩
theorem ck_u12_32 : ck_w (u_lay RX12 TX12 32) := ⟨(ck_t7 _ (List.mem_of_getElem? (i := 42) rfl)), rfl⟩
theorem ck_u12_33 : ck_w (u_lay RX12 TX12 33) := ⟨(ck_t7 _ (List.mem_of_getElem? (i := 44) rfl)), rfl⟩
theorem ck_u12_34 : ck_w (u_lay RX12 TX12 34) := ⟨(ck_t7 _ (List.mem_of_getElem? (i := 46) rfl)), rfl⟩
theorem ck_u12_35 : ck_w (u_lay RX12 TX12 35) := ⟨(ck_t7 _ (List.mem_of_getElem? (i := 48) rfl)), rfl⟩
theorem ck_u12_36 : ck_w (u_lay RX12 TX12 36) := ⟨(ck_t7 _ (List.mem_of_getElem? (i := 50) rfl)), rfl⟩
theorem ck_u12_37 : ck_w (u_lay RX12 TX12 37) := ⟨(ck_t7 _ (List.mem_of_getElem? (i := 52) rfl)), rfl⟩
theorem ck_u12_38 : ck_w (u_lay RX12 TX12 38) := ⟨(ck_t7 _ (List.mem_of_getElem? (i := 54) rfl)), rfl⟩
theorem ck_u12_39 : ck_w (u_lay RX12 TX12 39) := ⟨(ck_t7 _ (List.mem_of_getElem? (i := 56) rfl)), rfl⟩
theorem ck_u12_40 : ck_w (u_lay RX12 TX12 40) := ⟨(ck_t7 _ (List.mem_of_getElem? (i := 58) rfl)), rfl⟩
theorem ck_u12_41 : ck_w (u_lay RX12 TX12 41) := ⟨(ck_t7 _ (List.mem_of_getElem? (i := 60) rfl)), rfl⟩
theorem ck_u12_42 : ck_w (u_lay RX12 TX12 42) := ⟨(ck_t7 _ (List.mem_of_getElem? (i := 62) rfl)), rfl⟩
theorem ck_u12_43 : ck_w (u_lay RX12 TX12 43) := ⟨(ck_t7 _ (List.mem_of_getElem? (i := 64) rfl)), rfl⟩
theorem ck_u12_44 : ck_w (u_lay RX12 TX12 44) := ⟨(ck_t7 _ (List.mem_of_getElem? (i := 66) rfl)), rfl⟩
theorem ck_u12_45 : ck_w (u_lay RX12 TX12 45) := ⟨(ck_t7 _ (List.mem_of_getElem? (i := 68) rfl)), rfl⟩
theorem ck_u12_46 : ck_w (u_lay RX12 TX12 46) := ⟨(ck_t7 _ (List.mem_of_getElem? (i := 70) rfl)), rfl⟩
theorem ck_u12_47 : ck_w (u_lay RX12 TX12 47) := ⟨(ck_t7 _ (List.mem_of_getElem? (i := 72) rfl)), rfl⟩
theorem ck_u12_48 : ck_w (u_lay RX12 TX12 48) := ⟨(ck_t7 _ (List.mem_of_getElem? (i := 74) rfl)), rfl⟩
theorem ck_u12_49 : ck_w (u_lay RX12 TX12 49) := ⟨(ck_t7 _ (List.mem_of_getElem? (i := 76) rfl)), rfl⟩
theorem ck_u12_50 : ck_w (u_lay RX12 TX12 50) := ⟨(ck_t7 _ (List.mem_of_getElem? (i := 78) rfl)), rfl⟩
theorem ck_u12_51 : ck_w (u_lay RX12 TX12 51) := ⟨(ck_t7 _ (List.mem_of_getElem? (i := 80) rfl)), rfl⟩
theorem ck_u12_52 : ck_w (u_lay RX12 TX12 52) := ⟨(ck_t7 _ (List.mem_of_getElem? (i := 82) rfl)), rfl⟩
theorem ck_u12_53 : ck_w (u_lay RX12 TX12 53) := ⟨(ck_t7 _ (List.mem_of_getElem? (i := 84) rfl)), rfl⟩
theorem ck_u12_54 : ck_w (u_lay RX12 TX12 54) := ⟨(ck_t7 _ (List.mem_of_getElem? (i := 86) rfl)), rfl⟩
theorem ck_u12_55 : ck_w (u_lay RX12 TX12 55) := ⟨(ck_t7 _ (List.mem_of_getElem? (i := 88) rfl)), rfl⟩
theorem ck_u12_56 : ck_w (u_lay RX12 TX12 56) := ⟨(ck_t7 _ (List.mem_of_getElem? (i := 90) rfl)), rfl⟩
theorem ck_u12_57 : ck_w (u_lay RX12 TX12 57) := ⟨(ck_t7 _ (List.mem_of_getElem? (i := 92) rfl)), rfl⟩
theorem ck_u12_58 : ck_w (u_lay RX12 TX12 58) := ⟨(ck_t7 _ (List.mem_of_getElem? (i := 94) rfl)), rfl⟩
theorem ck_u12_59 : ck_w (u_lay RX12 TX12 59) := ⟨(ck_t7 _ (List.mem_of_getElem? (i := 96) rfl)), rfl⟩
theorem ck_u12_60 : ck_w (u_lay RX12 TX12 60) := ⟨(ck_t7 _ (List.mem_of_getElem? (i := 98) rfl)), rfl⟩
theorem ck_u12_61 : ck_w (u_lay RX12 TX12 61) := ⟨(ck_t7 _ (List.mem_of_getElem? (i := 100) rfl)), rfl⟩
theorem ck_u12_62 : ck_w (u_lay RX12 TX12 62) := ⟨(ck_t7 _ (List.mem_of_getElem? (i := 102) rfl)), rfl⟩
theorem ck_u12_63 : ck_w (u_lay RX12 TX12 63) := ⟨(ck_t7 _ (List.mem_of_getElem? (i := 104) rfl)), rfl⟩
theorem ck_u12_64 : ck_w (u_lay RX12 TX12 64) := ⟨(ck_t7 _ (List.mem_of_getElem? (i := 106) rfl)), rfl⟩
theorem ck_u12_65 : ck_w (u_lay RX12 TX12 65) := ⟨(ck_t7 _ (List.mem_of_getElem? (i := 108) rfl)), rfl⟩
theorem ck_u12_66 : ck_w (u_lay RX12 TX12 66) := ⟨(ck_t7 _ (List.mem_of_getElem? (i := 110) rfl)), rfl⟩
theorem ck_u12_67 : ck_w (u_lay RX12 TX12 67) := ⟨(ck_t7 _ (List.mem_of_getElem? (i := 112) rfl)), rfl⟩
theorem ck_u12_68 : ck_w (u_lay RX12 TX12 68) := ⟨(ck_t7 _ (List.mem_of_getElem? (i := 114) rfl)), rfl⟩
theorem ck_u12_69 : ck_w (u_lay RX12 TX12 69) := ⟨(ck_t7 _ (List.mem_of_getElem? (i := 116) rfl)), rfl⟩
theorem ck_u12_70 : ck_w (u_lay RX12 TX12 70) := ⟨(ck_t7 _ (List.mem_of_getElem? (i := 118) rfl)), rfl⟩
theorem ck_u12_71 : ck_w (u_lay RX12 TX12 71) := ⟨(ck_t7 _ (List.mem_of_getElem? (i := 120) rfl)), rfl⟩
theorem ck_u12_72 : ck_w (u_lay RX12 TX12 72) := ⟨(ck_t7 _ (List.mem_of_getElem? (i := 122) rfl)), rfl⟩
theorem ck_u12_73 : ck_w (u_lay RX12 TX12 73) := ⟨(ck_t7 _ (List.mem_of_getElem? (i := 124) rfl)), rfl⟩
theorem ck_u12_74 : ck_w (u_lay RX12 TX12 74) := ⟨(ck_t7 _ (List.mem_of_getElem? (i := 126) rfl)), rfl⟩
theorem ck_u12_75 : ck_w (u_lay RX12 TX12 75) := ⟨(ck_t7 _ (List.mem_of_getElem? (i := 128) rfl)), rfl⟩
theorem ck_u12_76 : ck_w (u_lay RX12 TX12 76) := ⟨(ck_t7 _ (List.mem_of_getElem? (i := 130) rfl)), rfl⟩
theorem ck_u12_77 : ck_w (u_lay RX12 TX12 77) := ⟨(ck_t7 _ (List.mem_of_getElem? (i := 132) rfl)), rfl⟩
theorem ck_u12_78 : ck_w (u_lay RX12 TX12 78) := ⟨(ck_t7 _ (List.mem_of_getElem? (i := 134) rfl)), rfl⟩
theorem ck_u12 : ∀ w ∈ u_ws RX12 TX12 79, ck_w w := List.forall_mem_cons.mpr ⟨ck_u12_0, List.forall_mem_cons.mpr ⟨ck_u12_1, List.forall_mem_cons.mpr ⟨ck_u12_2, List.forall_mem_cons.mpr ⟨ck_u12_3, List.forall_mem_cons.mpr ⟨ck_u12_4, List.forall_mem_cons.mpr ⟨ck_u12_5, List.forall_mem_cons.mpr ⟨ck_u12_6, List.forall_mem_cons.mpr ⟨ck_u12_7, List.forall_mem_cons.mpr ⟨ck_u12_8, List.forall_mem_cons.mpr ⟨ck_u12_9, List.forall_mem_cons.mpr ⟨ck_u12_10, List.forall_mem_cons.mpr ⟨ck_u12_11, List.forall_mem_cons.mpr ⟨ck_u12_12, List.forall_mem_cons.mpr ⟨ck_u12_13, List.forall_mem_cons.mpr ⟨ck_u12_14, List.forall_mem_cons.mpr ⟨ck_u12_15, List.forall_mem_cons.mpr ⟨ck_u12_16, List.forall_mem_cons.mpr ⟨ck_u12_17, List.forall_mem_cons.mpr ⟨ck_u12_18, List.forall_mem_cons.mpr ⟨ck_u12_19, List.forall_mem_cons.mpr ⟨ck_u12_20, List.forall_mem_cons.mpr ⟨ck_u12_21, List.forall_mem_cons.mpr ⟨ck_u12_22, List.forall_mem_cons.mpr ⟨ck_u12_23, List.forall_mem_cons.mpr ⟨ck_u12_24, List.forall_mem_cons.mpr ⟨ck_u12_25, List.forall_mem_cons.mpr ⟨ck_u12_26, List.forall_mem_cons.mpr ⟨ck_u12_27, List.forall_mem_cons.mpr ⟨ck_u12_28, List.forall_mem_cons.mpr ⟨ck_u12_29, List.forall_mem_cons.mpr ⟨ck_u12_30, List.forall_mem_cons.mpr ⟨ck_u12_31, List.forall_mem_cons.mpr ⟨ck_u12_32, List.forall_mem_cons.mpr ⟨ck_u12_33, List.forall_mem_cons.mpr ⟨ck_u12_34, List.forall_mem_cons.mpr ⟨ck_u12_35, List.forall_mem_cons.mpr ⟨ck_u12_36, List.forall_mem_cons.mpr ⟨ck_u12_37, List.forall_mem_cons.mpr ⟨ck_u12_38, List.forall_mem_cons.mpr ⟨ck_u12_39, List.forall_mem_cons.mpr ⟨ck_u12_40, List.forall_mem_cons.mpr ⟨ck_u12_41, List.forall_mem_cons.mpr ⟨ck_u12_42, List.forall_mem_cons.mpr ⟨ck_u12_43, List.forall_mem_cons.mpr ⟨ck_u12_44, List.forall_mem_cons.mpr ⟨ck_u12_45, List.forall_mem_cons.mpr ⟨ck_u12_46, List.forall_mem_cons.mpr ⟨ck_u12_47, List.forall_mem_cons.mpr ⟨ck_u12_48, List.forall_mem_cons.mpr ⟨ck_u12_49, List.forall_mem_cons.mpr ⟨ck_u12_50, List.forall_mem_cons.mpr ⟨ck_u12_51, List.forall_mem_cons.mpr ⟨ck_u12_52, List.forall_mem_cons.mpr ⟨ck_u12_53, List.forall_mem_cons.mpr ⟨ck_u12_54, List.forall_mem_cons.mpr ⟨ck_u12_55, List.forall_mem_cons.mpr ⟨ck_u12_56, List.forall_mem_cons.mpr ⟨ck_u12_57, List.forall_mem_cons.mpr ⟨ck_u12_58, List.forall_mem_cons.mpr ⟨ck_u12_59, List.forall_mem_cons.mpr ⟨ck_u12_60, List.forall_mem_cons.mpr ⟨ck_u12_61, List.forall_mem_cons.mpr ⟨ck_u12_62, List.forall_mem_cons.mpr ⟨ck_u12_63, List.forall_mem_cons.mpr ⟨ck_u12_64, List.forall_mem_cons.mpr ⟨ck_u12_65, List.forall_mem_cons.mpr ⟨ck_u12_66, List.forall_mem_cons.mpr ⟨ck_u12_67, List.forall_mem_cons.mpr ⟨ck_u12_68, List.forall_mem_cons.mpr ⟨ck_u12_69, List.forall_mem_cons.mpr ⟨ck_u12_70, List.forall_mem_cons.mpr ⟨ck_u12_71, List.forall_mem_cons.mpr ⟨ck_u12_72, List.forall_mem_cons.mpr ⟨ck_u12_73, List.forall_mem_cons.mpr ⟨ck_u12_74, List.forall_mem_cons.mpr ⟨ck_u12_75, List.forall_mem_cons.mpr ⟨ck_u12_76, List.forall_mem_cons.mpr ⟨ck_u12_77, List.forall_mem_cons.mpr ⟨ck_u12_78, fun _ h => absurd h List.not_mem_nil⟩⟩⟩⟩⟩⟩⟩⟩⟩⟩⟩⟩⟩⟩⟩⟩⟩⟩⟩⟩⟩⟩⟩⟩⟩⟩⟩⟩⟩⟩⟩⟩⟩⟩⟩⟩⟩⟩⟩⟩⟩⟩⟩⟩⟩⟩⟩⟩⟩⟩⟩⟩⟩⟩⟩⟩⟩⟩⟩⟩⟩⟩⟩⟩⟩⟩⟩⟩⟩⟩⟩⟩⟩⟩⟩⟩⟩⟩⟩
theorem ck_in12 : ck_w (.instantiable "CountKeyStoreModel" 79) ∧ ck_w (.initialized "CountKeyStoreModel") := ⟨⟨(ck_t6 _ (List.mem_of_getElem? (i := 132) rfl)), rfl⟩, ⟨(ck_t1 _ (List.mem_of_getElem? (i := 13) rfl)), rfl⟩⟩
-- Jvm.ClassFile.FieldType.byte ; Jvm.ClassFile.FieldType.int ; Jvm.ClassFile.FieldType.boolean
theorem ck_ac_byte : ck_w (.arrayClass .byte) := ⟨(ck_t1 _ (List.mem_of_getElem? (i := 46) rfl)), rfl⟩
theorem ck_ac_int : ck_w (.arrayClass .int) := ⟨(ck_t1 _ (List.mem_of_getElem? (i := 73) rfl)), rfl⟩
theorem ck_ac_boolean : ck_w (.arrayClass .boolean) := ⟨(ck_t1 _ (List.mem_of_getElem? (i := 206) rfl)), rfl⟩
-- arrayOver (Jvm.ClassFile.FieldType.object "CountKeyStore$Unit") at (1, 48)
-- arrayOver (Jvm.ClassFile.FieldType.object "CountKeyStore$Opening") at (1, 50)
-- arrayOver (Jvm.ClassFile.FieldType.object "CountKeyStore$Track") at (1, 57)
-- arrayOver (Jvm.ClassFile.FieldType.object "CountKeyStore$Command") at (1, 95)
-- arrayOver (Jvm.ClassFile.FieldType.object "CountKeyStore$DataSet") at (1, 164)
theorem ck_ao : ∀ c k, ck_ak c = some k → Cond.arrayOver (.object (ck_on c)) ∈ lw_tbl := by
  intro c k h
  have h2 : c = 1 ∨ c = 2 ∨ c = 5 ∨ c = 8 ∨ c = 9 := by
    by_cases h1 : c = 1
    · exact Or.inl h1
    by_cases h2 : c = 2
    · exact Or.inr (Or.inl h2)
    by_cases h3 : c = 5
    · exact Or.inr (Or.inr (Or.inl h3))
    by_cases h4 : c = 8
    · exact Or.inr (Or.inr (Or.inr (Or.inl h4)))
    by_cases h5 : c = 9
    · exact Or.inr (Or.inr (Or.inr (Or.inr h5)))
    · simp [ck_ak, List.lookup, beq_eq_false_iff_ne.mpr h1, beq_eq_false_iff_ne.mpr h2, beq_eq_false_iff_ne.mpr h3, beq_eq_false_iff_ne.mpr h4, beq_eq_false_iff_ne.mpr h5] at h
  rcases h2 with rfl | rfl | rfl | rfl | rfl
  · exact (ck_t1 _ (List.mem_of_getElem? (i := 95) rfl))
  · exact (ck_t1 _ (List.mem_of_getElem? (i := 164) rfl))
  · exact (ck_t1 _ (List.mem_of_getElem? (i := 50) rfl))
  · exact (ck_t1 _ (List.mem_of_getElem? (i := 57) rfl))
  · exact (ck_t1 _ (List.mem_of_getElem? (i := 48) rfl))
theorem ck_acp : ck_w (.native arraycopyName) ∧ ck_w (.static arraycopyName) ∧ ck_w (.initialized "java/lang/System") := ⟨⟨(ck_t2 _ (List.mem_of_getElem? (i := 213) rfl)), rfl⟩, ⟨(ck_t2 _ (List.mem_of_getElem? (i := 212) rfl)), rfl⟩, ⟨(ck_t1 _ (List.mem_of_getElem? (i := 14) rfl)), rfl⟩⟩
theorem ck_obi : ck_w (.instanceMethod objectInit) ∧ ck_w (.code objectInit ⟨#[0xb1]⟩ 1 none) := ⟨⟨(ck_t1 _ (List.mem_of_getElem? (i := 23) rfl)), rfl⟩, ⟨(ck_t1 _ (List.mem_of_getElem? (i := 24) rfl)), rfl⟩⟩
