theorem ck_r_iconst {m : ck_M} {pc : Nat} {ls : ck_L} {r0 : List Value} {h h' : ck_H} {r : Option Value} {n : Int} (hc : (ck_cd m).lookup pc = some (.iconst n)) (k : ck_S m (pc + 1) ls (.int (Int32.ofInt n) :: r0) h r h') : ck_S m pc ls (r0) h r h' :=
  ck_S.pure k fun _ _ _ _ _ _ _ _ _ _ _ _ _ _ _ _ _ _ _ _ lsM _ C hl _ _ kk => lv_iconst C.1 C.2.1 (C.dec hc rfl) rfl (kk _ hl)
theorem ck_r_bipush {m : ck_M} {pc : Nat} {ls : ck_L} {r0 : List Value} {h h' : ck_H} {r : Option Value} {n : Int} (hc : (ck_cd m).lookup pc = some (.bipush n)) (k : ck_S m (pc + 2) ls (.int (Int8.ofInt n).toInt32 :: r0) h r h') : ck_S m pc ls (r0) h r h' :=
  ck_S.pure k fun _ _ _ _ _ _ _ _ _ _ _ _ _ _ _ _ _ _ _ _ lsM _ C hl _ _ kk => lv_bipush C.1 C.2.1 (C.dec hc rfl) rfl (kk _ hl)
theorem ck_r_sipush {m : ck_M} {pc : Nat} {ls : ck_L} {r0 : List Value} {h h' : ck_H} {r : Option Value} {n : Int} (hc : (ck_cd m).lookup pc = some (.sipush n)) (k : ck_S m (pc + 3) ls (.int (Int16.ofInt n).toInt32 :: r0) h r h') : ck_S m pc ls (r0) h r h' :=
  ck_S.pure k fun _ _ _ _ _ _ _ _ _ _ _ _ _ _ _ _ _ _ _ _ lsM _ C hl _ _ kk => lv_sipush C.1 C.2.1 (C.dec hc rfl) rfl (kk _ hl)
theorem ck_r_lconst {m : ck_M} {pc : Nat} {ls : ck_L} {r0 : List Value} {h h' : ck_H} {r : Option Value} {n : Fin 2} (hc : (ck_cd m).lookup pc = some (.lconst n)) (k : ck_S m (pc + 1) ls (.long (Int64.ofNat (n : Nat)) :: r0) h r h') : ck_S m pc ls (r0) h r h' :=
  ck_S.pure k fun _ _ _ _ _ _ _ _ _ _ _ _ _ _ _ _ _ _ _ _ lsM _ C hl _ _ kk => lv_lconst C.1 C.2.1 (C.dec hc rfl) rfl (kk _ hl)
theorem ck_r_null {m : ck_M} {pc : Nat} {ls : ck_L} {r0 : List Value} {h h' : ck_H} {r : Option Value} (hc : (ck_cd m).lookup pc = some (.aconst_null)) (k : ck_S m (pc + 1) ls (.null :: r0) h r h') : ck_S m pc ls (r0) h r h' :=
  ck_S.pure k fun _ _ _ _ _ _ _ _ _ _ _ _ _ _ _ _ _ _ _ _ lsM _ C hl _ _ kk => lv_null C.1 C.2.1 (C.dec hc rfl) (kk _ hl)
theorem ck_r_ldc {m : ck_M} {pc : Nat} {ls : ck_L} {r0 : List Value} {h h' : ck_H} {r : Option Value} {ix : Nat} {v : Int32} (hc : (ck_cd m).lookup pc = some (.ldc ix)) (hv : ck_lc (ck_ow m) ix = some v) (k : ck_S m (pc + 2) ls (.int v :: r0) h r h') : ck_S m pc ls (r0) h r h' :=
  ck_S.pure k fun _ _ _ _ _ _ _ _ _ _ _ _ _ _ _ _ _ _ _ _ lsM _ C hl _ _ kk => lv_ldc C.1 C.2.1 C.2.2.2.2.1 (C.2.2.2.2.2.1 _ (ck_lc_ok hv)) (C.dec hc rfl) (kk _ hl)
theorem ck_r_ldc2 {m : ck_M} {pc : Nat} {ls : ck_L} {r0 : List Value} {h h' : ck_H} {r : Option Value} {ix : Nat} {v : Int64} (hc : (ck_cd m).lookup pc = some (.ldc2_w ix)) (hv : ck_l2 (ck_ow m) ix = some v) (k : ck_S m (pc + 3) ls (.long v :: r0) h r h') : ck_S m pc ls (r0) h r h' :=
  ck_S.pure k fun _ _ _ _ _ _ _ _ _ _ _ _ _ _ _ _ _ _ _ _ lsM _ C hl _ _ kk => lv_ldc2 C.1 C.2.1 C.2.2.2.2.1 (C.2.2.2.2.2.1 _ (ck_l2_ok hv)) (C.dec hc rfl) (kk _ hl)
theorem ck_r_iload {m : ck_M} {pc : Nat} {ls : ck_L} {r0 : List Value} {h h' : ck_H} {r : Option Value} {i : Nat} {x : Int32} (hc : (ck_cd m).lookup pc = some (.iload i)) (hx : ls[i]? = some (some (.int x))) (k : ck_S m (pc + 2) ls (.int x :: r0) h r h') : ck_S m pc ls (r0) h r h' :=
  ck_S.pure k fun _ _ _ _ _ _ _ _ _ _ _ _ _ _ _ _ _ _ _ _ lsM _ C hl _ _ kk => lv_iload C.1 C.2.1 (C.dec hc rfl) (hl.2.2.2 _ _ hx) (kk _ hl)
theorem ck_r_iload_n {m : ck_M} {pc : Nat} {ls : ck_L} {r0 : List Value} {h h' : ck_H} {r : Option Value} {i : Fin 4} {x : Int32} (hc : (ck_cd m).lookup pc = some (.iload_n i)) (hx : ls[(i : Nat)]? = some (some (.int x))) (k : ck_S m (pc + 1) ls (.int x :: r0) h r h') : ck_S m pc ls (r0) h r h' :=
  ck_S.pure k fun _ _ _ _ _ _ _ _ _ _ _ _ _ _ _ _ _ _ _ _ lsM _ C hl _ _ kk => lv_iload_n C.1 C.2.1 (C.dec hc rfl) rfl (hl.2.2.2 _ _ hx) (kk _ hl)
theorem ck_r_lload {m : ck_M} {pc : Nat} {ls : ck_L} {r0 : List Value} {h h' : ck_H} {r : Option Value} {i : Nat} {x : Int64} (hc : (ck_cd m).lookup pc = some (.lload i)) (hx : ls[i]? = some (some (.long x))) (k : ck_S m (pc + 2) ls (.long x :: r0) h r h') : ck_S m pc ls (r0) h r h' :=
  ck_S.pure k fun _ _ _ _ _ _ _ _ _ _ _ _ _ _ _ _ _ _ _ _ lsM _ C hl _ _ kk => lv_lload C.1 C.2.1 (C.dec hc rfl) (hl.2.2.2 _ _ hx) (kk _ hl)
theorem ck_r_lload_n {m : ck_M} {pc : Nat} {ls : ck_L} {r0 : List Value} {h h' : ck_H} {r : Option Value} {i : Fin 4} {x : Int64} (hc : (ck_cd m).lookup pc = some (.lload_n i)) (hx : ls[(i : Nat)]? = some (some (.long x))) (k : ck_S m (pc + 1) ls (.long x :: r0) h r h') : ck_S m pc ls (r0) h r h' :=
  ck_S.pure k fun _ _ _ _ _ _ _ _ _ _ _ _ _ _ _ _ _ _ _ _ lsM _ C hl _ _ kk => lv_lload_n C.1 C.2.1 (C.dec hc rfl) rfl (hl.2.2.2 _ _ hx) (kk _ hl)
theorem ck_r_aload {m : ck_M} {pc : Nat} {ls : ck_L} {r0 : List Value} {h h' : ck_H} {r : Option Value} {i x : Nat} (hc : (ck_cd m).lookup pc = some (.aload i)) (hx : ls[i]? = some (some (.ref x))) (k : ck_S m (pc + 2) ls (.ref x :: r0) h r h') : ck_S m pc ls (r0) h r h' :=
  ck_S.pure k fun _ _ _ _ _ _ _ _ _ _ _ _ _ _ _ _ _ _ _ _ lsM _ C hl _ _ kk => lv_aload C.1 C.2.1 (C.dec hc rfl) (hl.2.2.2 _ _ hx) (kk _ hl)
theorem ck_r_aload_n {m : ck_M} {pc : Nat} {ls : ck_L} {r0 : List Value} {h h' : ck_H} {r : Option Value} {i : Fin 4} {x : Nat} (hc : (ck_cd m).lookup pc = some (.aload_n i)) (hx : ls[(i : Nat)]? = some (some (.ref x))) (k : ck_S m (pc + 1) ls (.ref x :: r0) h r h') : ck_S m pc ls (r0) h r h' :=
  ck_S.pure k fun _ _ _ _ _ _ _ _ _ _ _ _ _ _ _ _ _ _ _ _ lsM _ C hl _ _ kk => lv_aload_n C.1 C.2.1 (C.dec hc rfl) rfl (hl.2.2.2 _ _ hx) (kk _ hl)
theorem ck_r_aloadN {m : ck_M} {pc : Nat} {ls : ck_L} {r0 : List Value} {h h' : ck_H} {r : Option Value} {i : Nat} (hc : (ck_cd m).lookup pc = some (.aload i)) (hx : ls[i]? = some (some .null)) (k : ck_S m (pc + 2) ls (.null :: r0) h r h') : ck_S m pc ls (r0) h r h' :=
  ck_S.pure k fun _ _ _ _ _ _ _ _ _ _ _ _ _ _ _ _ _ _ _ _ lsM _ C hl _ _ kk => lv_aloadN C.1 C.2.1 (C.dec hc rfl) (hl.2.2.2 _ _ hx) (kk _ hl)
theorem ck_r_aload_nN {m : ck_M} {pc : Nat} {ls : ck_L} {r0 : List Value} {h h' : ck_H} {r : Option Value} {i : Fin 4} (hc : (ck_cd m).lookup pc = some (.aload_n i)) (hx : ls[(i : Nat)]? = some (some .null)) (k : ck_S m (pc + 1) ls (.null :: r0) h r h') : ck_S m pc ls (r0) h r h' :=
  ck_S.pure k fun _ _ _ _ _ _ _ _ _ _ _ _ _ _ _ _ _ _ _ _ lsM _ C hl _ _ kk => lv_aload_nN C.1 C.2.1 (C.dec hc rfl) rfl (hl.2.2.2 _ _ hx) (kk _ hl)
theorem ck_r_istore {m : ck_M} {pc : Nat} {ls ls' : ck_L} {r0 : List Value} {h h' : ck_H} {r : Option Value} {i : Nat} {x : Int32} (hc : (ck_cd m).lookup pc = some (.istore i)) (hx : ck_s1 ls i (.int x) = some ls') (k : ck_S m (pc + 2) ls' r0 h r h') : ck_S m pc ls (.int x :: r0) h r h' :=
  ck_S.pure k fun _ _ _ _ _ _ _ _ _ _ _ _ _ _ _ _ _ _ _ _ lsM _ C hl _ _ kk => lv_istore C.1 C.2.1 (C.dec hc rfl) hl.has (by rw [← hl.2.1]; exact ck_s1_lt hx) rfl (fun l2 h2 => kk _ (ck_LR.set1 hx hl.2.1 h2))
theorem ck_r_istore_n {m : ck_M} {pc : Nat} {ls ls' : ck_L} {r0 : List Value} {h h' : ck_H} {r : Option Value} {i : Fin 4} {x : Int32} (hc : (ck_cd m).lookup pc = some (.istore_n i)) (hx : ck_s1 ls (i : Nat) (.int x) = some ls') (k : ck_S m (pc + 1) ls' r0 h r h') : ck_S m pc ls (.int x :: r0) h r h' :=
  ck_S.pure k fun _ _ _ _ _ _ _ _ _ _ _ _ _ _ _ _ _ _ _ _ lsM _ C hl _ _ kk => lv_istore_n C.1 C.2.1 (C.dec hc rfl) rfl hl.has (by rw [← hl.2.1]; exact ck_s1_lt hx) rfl (fun l2 h2 => kk _ (ck_LR.set1 hx hl.2.1 h2))
theorem ck_r_astore {m : ck_M} {pc : Nat} {ls ls' : ck_L} {r0 : List Value} {h h' : ck_H} {r : Option Value} {i : Nat} {x : Nat} (hc : (ck_cd m).lookup pc = some (.astore i)) (hx : ck_s1 ls i (.ref x) = some ls') (k : ck_S m (pc + 2) ls' r0 h r h') : ck_S m pc ls (.ref x :: r0) h r h' :=
  ck_S.pure k fun _ _ _ _ _ _ _ _ _ _ _ _ _ _ _ _ _ _ _ _ lsM _ C hl _ _ kk => lv_astore C.1 C.2.1 (C.dec hc rfl) hl.has (by rw [← hl.2.1]; exact ck_s1_lt hx) rfl (fun l2 h2 => kk _ (ck_LR.set1 hx hl.2.1 h2))
theorem ck_r_astore_n {m : ck_M} {pc : Nat} {ls ls' : ck_L} {r0 : List Value} {h h' : ck_H} {r : Option Value} {i : Fin 4} {x : Nat} (hc : (ck_cd m).lookup pc = some (.astore_n i)) (hx : ck_s1 ls (i : Nat) (.ref x) = some ls') (k : ck_S m (pc + 1) ls' r0 h r h') : ck_S m pc ls (.ref x :: r0) h r h' :=
  ck_S.pure k fun _ _ _ _ _ _ _ _ _ _ _ _ _ _ _ _ _ _ _ _ lsM _ C hl _ _ kk => lv_astore_n C.1 C.2.1 (C.dec hc rfl) rfl hl.has (by rw [← hl.2.1]; exact ck_s1_lt hx) rfl (fun l2 h2 => kk _ (ck_LR.set1 hx hl.2.1 h2))
theorem ck_r_astoreN {m : ck_M} {pc : Nat} {ls ls' : ck_L} {r0 : List Value} {h h' : ck_H} {r : Option Value} {i : Nat} (hc : (ck_cd m).lookup pc = some (.astore i)) (hx : ck_s1 ls i .null = some ls') (k : ck_S m (pc + 2) ls' r0 h r h') : ck_S m pc ls (.null :: r0) h r h' :=
  ck_S.pure k fun _ _ _ _ _ _ _ _ _ _ _ _ _ _ _ _ _ _ _ _ lsM _ C hl _ _ kk => lv_astoreN C.1 C.2.1 (C.dec hc rfl) hl.has (by rw [← hl.2.1]; exact ck_s1_lt hx) rfl (fun l2 h2 => kk _ (ck_LR.set1 hx hl.2.1 h2))
theorem ck_r_astore_nN {m : ck_M} {pc : Nat} {ls ls' : ck_L} {r0 : List Value} {h h' : ck_H} {r : Option Value} {i : Fin 4} (hc : (ck_cd m).lookup pc = some (.astore_n i)) (hx : ck_s1 ls (i : Nat) .null = some ls') (k : ck_S m (pc + 1) ls' r0 h r h') : ck_S m pc ls (.null :: r0) h r h' :=
  ck_S.pure k fun _ _ _ _ _ _ _ _ _ _ _ _ _ _ _ _ _ _ _ _ lsM _ C hl _ _ kk => lv_astore_nN C.1 C.2.1 (C.dec hc rfl) rfl hl.has (by rw [← hl.2.1]; exact ck_s1_lt hx) rfl (fun l2 h2 => kk _ (ck_LR.set1 hx hl.2.1 h2))
theorem ck_r_lstore {m : ck_M} {pc : Nat} {ls ls' : ck_L} {r0 : List Value} {h h' : ck_H} {r : Option Value} {i : Nat} {x : Int64} (hc : (ck_cd m).lookup pc = some (.lstore i)) (hx : ck_s2 ls i (.long x) = some ls') (k : ck_S m (pc + 2) ls' r0 h r h') : ck_S m pc ls (.long x :: r0) h r h' :=
  ck_S.pure k fun _ _ _ _ _ _ _ _ _ _ _ _ _ _ _ _ _ _ _ _ lsM _ C hl _ _ kk => lv_lstore C.1 C.2.1 (C.dec hc rfl) hl.has (by rw [← hl.2.1]; exact ck_s2_lt hx) rfl (fun l2 h2 => kk _ (ck_LR.set2 hx hl.2.1 h2))
theorem ck_r_iinc {m : ck_M} {pc : Nat} {ls ls' : ck_L} {r0 : List Value} {h h' : ck_H} {r : Option Value} {i : Nat} {n : Int} {x : Int32} (hc : (ck_cd m).lookup pc = some (.iinc i n)) (hx0 : ls[i]? = some (some (.int x))) (hx : ck_s1 ls i (.int (x + Int32.ofInt n)) = some ls') (k : ck_S m (pc + 3) ls' r0 h r h') : ck_S m pc ls r0 h r h' := by
  refine ck_S.pure k fun _ _ _ _ _ _ _ _ _ _ _ _ _ _ _ _ _ _ _ _ lsM _ C hl _ _ kk => ?_
  obtain ⟨j, hj⟩ := List.getElem?_of_mem (ck_lv_mem.mpr hx0)
  exact lv_iinc C.1 C.2.1 (C.dec hc rfl) hl.has hj rfl (by rw [← hl.2.1]; exact ck_s1_lt hx) rfl (fun l2 h2 => kk _ (ck_LR.set1 hx hl.2.1 h2))
theorem ck_r_iadd {m : ck_M} {pc : Nat} {ls : ck_L} {r0 : List Value} {h h' : ck_H} {r : Option Value} {x y : Int32} (hc : (ck_cd m).lookup pc = some (.iadd)) (k : ck_S m (pc + 1) ls (.int (x + y) :: r0) h r h') : ck_S m pc ls (.int y :: .int x :: r0) h r h' :=
  ck_S.pure k fun _ _ _ _ _ _ _ _ _ _ _ _ _ _ _ _ _ _ _ _ lsM _ C hl _ _ kk => lv_iadd C.1 C.2.1 (C.dec hc rfl) (kk _ hl)
theorem ck_r_isub {m : ck_M} {pc : Nat} {ls : ck_L} {r0 : List Value} {h h' : ck_H} {r : Option Value} {x y : Int32} (hc : (ck_cd m).lookup pc = some (.isub)) (k : ck_S m (pc + 1) ls (.int (x - y) :: r0) h r h') : ck_S m pc ls (.int y :: .int x :: r0) h r h' :=
  ck_S.pure k fun _ _ _ _ _ _ _ _ _ _ _ _ _ _ _ _ _ _ _ _ lsM _ C hl _ _ kk => lv_isub C.1 C.2.1 (C.dec hc rfl) (kk _ hl)
theorem ck_r_imul {m : ck_M} {pc : Nat} {ls : ck_L} {r0 : List Value} {h h' : ck_H} {r : Option Value} {x y : Int32} (hc : (ck_cd m).lookup pc = some (.imul)) (k : ck_S m (pc + 1) ls (.int (x * y) :: r0) h r h') : ck_S m pc ls (.int y :: .int x :: r0) h r h' :=
  ck_S.pure k fun _ _ _ _ _ _ _ _ _ _ _ _ _ _ _ _ _ _ _ _ lsM _ C hl _ _ kk => lv_imul C.1 C.2.1 (C.dec hc rfl) (kk _ hl)
theorem ck_r_iand {m : ck_M} {pc : Nat} {ls : ck_L} {r0 : List Value} {h h' : ck_H} {r : Option Value} {x y : Int32} (hc : (ck_cd m).lookup pc = some (.iand)) (k : ck_S m (pc + 1) ls (.int (x &&& y) :: r0) h r h') : ck_S m pc ls (.int y :: .int x :: r0) h r h' :=
  ck_S.pure k fun _ _ _ _ _ _ _ _ _ _ _ _ _ _ _ _ _ _ _ _ lsM _ C hl _ _ kk => lv_iand C.1 C.2.1 (C.dec hc rfl) (kk _ hl)
theorem ck_r_ior {m : ck_M} {pc : Nat} {ls : ck_L} {r0 : List Value} {h h' : ck_H} {r : Option Value} {x y : Int32} (hc : (ck_cd m).lookup pc = some (.ior)) (k : ck_S m (pc + 1) ls (.int (x ||| y) :: r0) h r h') : ck_S m pc ls (.int y :: .int x :: r0) h r h' :=
  ck_S.pure k fun _ _ _ _ _ _ _ _ _ _ _ _ _ _ _ _ _ _ _ _ lsM _ C hl _ _ kk => lv_ior C.1 C.2.1 (C.dec hc rfl) (kk _ hl)
theorem ck_r_ishl {m : ck_M} {pc : Nat} {ls : ck_L} {r0 : List Value} {h h' : ck_H} {r : Option Value} {x y : Int32} (hc : (ck_cd m).lookup pc = some (.ishl)) (k : ck_S m (pc + 1) ls (.int (x <<< (y &&& 31)) :: r0) h r h') : ck_S m pc ls (.int y :: .int x :: r0) h r h' :=
  ck_S.pure k fun _ _ _ _ _ _ _ _ _ _ _ _ _ _ _ _ _ _ _ _ lsM _ C hl _ _ kk => lv_ishl C.1 C.2.1 (C.dec hc rfl) (kk _ hl)
theorem ck_r_ishr {m : ck_M} {pc : Nat} {ls : ck_L} {r0 : List Value} {h h' : ck_H} {r : Option Value} {x y : Int32} (hc : (ck_cd m).lookup pc = some (.ishr)) (k : ck_S m (pc + 1) ls (.int (x >>> (y &&& 31)) :: r0) h r h') : ck_S m pc ls (.int y :: .int x :: r0) h r h' :=
  ck_S.pure k fun _ _ _ _ _ _ _ _ _ _ _ _ _ _ _ _ _ _ _ _ lsM _ C hl _ _ kk => lv_ishr C.1 C.2.1 (C.dec hc rfl) (kk _ hl)
theorem ck_r_idiv {m : ck_M} {pc : Nat} {ls : ck_L} {r0 : List Value} {h h' : ck_H} {r : Option Value} {x y : Int32} (hc : (ck_cd m).lookup pc = some (.idiv)) (hy : ¬ y = 0) (k : ck_S m (pc + 1) ls (.int (x / y) :: r0) h r h') : ck_S m pc ls (.int y :: .int x :: r0) h r h' :=
  ck_S.pure k fun _ _ _ _ _ _ _ _ _ _ _ _ _ _ _ _ _ _ _ _ lsM _ C hl _ _ kk => lv_idiv C.1 C.2.1 (C.dec hc rfl) hy (kk _ hl)
theorem ck_r_irem {m : ck_M} {pc : Nat} {ls : ck_L} {r0 : List Value} {h h' : ck_H} {r : Option Value} {x y : Int32} (hc : (ck_cd m).lookup pc = some (.irem)) (hy : ¬ y = 0) (k : ck_S m (pc + 1) ls (.int (x - x / y * y) :: r0) h r h') : ck_S m pc ls (.int y :: .int x :: r0) h r h' :=
  ck_S.pure k fun _ _ _ _ _ _ _ _ _ _ _ _ _ _ _ _ _ _ _ _ lsM _ C hl _ _ kk => lv_irem C.1 C.2.1 (C.dec hc rfl) hy (kk _ hl)
theorem ck_r_ladd {m : ck_M} {pc : Nat} {ls : ck_L} {r0 : List Value} {h h' : ck_H} {r : Option Value} {x y : Int64} (hc : (ck_cd m).lookup pc = some (.ladd)) (k : ck_S m (pc + 1) ls (.long (x + y) :: r0) h r h') : ck_S m pc ls (.long y :: .long x :: r0) h r h' :=
  ck_S.pure k fun _ _ _ _ _ _ _ _ _ _ _ _ _ _ _ _ _ _ _ _ lsM _ C hl _ _ kk => lv_ladd C.1 C.2.1 (C.dec hc rfl) (kk _ hl)
theorem ck_r_lsub {m : ck_M} {pc : Nat} {ls : ck_L} {r0 : List Value} {h h' : ck_H} {r : Option Value} {x y : Int64} (hc : (ck_cd m).lookup pc = some (.lsub)) (k : ck_S m (pc + 1) ls (.long (x - y) :: r0) h r h') : ck_S m pc ls (.long y :: .long x :: r0) h r h' :=
  ck_S.pure k fun _ _ _ _ _ _ _ _ _ _ _ _ _ _ _ _ _ _ _ _ lsM _ C hl _ _ kk => lv_lsub C.1 C.2.1 (C.dec hc rfl) (kk _ hl)
theorem ck_r_lmul {m : ck_M} {pc : Nat} {ls : ck_L} {r0 : List Value} {h h' : ck_H} {r : Option Value} {x y : Int64} (hc : (ck_cd m).lookup pc = some (.lmul)) (k : ck_S m (pc + 1) ls (.long (x * y) :: r0) h r h') : ck_S m pc ls (.long y :: .long x :: r0) h r h' :=
  ck_S.pure k fun _ _ _ _ _ _ _ _ _ _ _ _ _ _ _ _ _ _ _ _ lsM _ C hl _ _ kk => lv_lmul C.1 C.2.1 (C.dec hc rfl) (kk _ hl)
theorem ck_r_lxor {m : ck_M} {pc : Nat} {ls : ck_L} {r0 : List Value} {h h' : ck_H} {r : Option Value} {x y : Int64} (hc : (ck_cd m).lookup pc = some (.lxor)) (k : ck_S m (pc + 1) ls (.long (x ^^^ y) :: r0) h r h') : ck_S m pc ls (.long y :: .long x :: r0) h r h' :=
  ck_S.pure k fun _ _ _ _ _ _ _ _ _ _ _ _ _ _ _ _ _ _ _ _ lsM _ C hl _ _ kk => lv_lxor C.1 C.2.1 (C.dec hc rfl) (kk _ hl)
theorem ck_r_lrem {m : ck_M} {pc : Nat} {ls : ck_L} {r0 : List Value} {h h' : ck_H} {r : Option Value} {x y : Int64} (hc : (ck_cd m).lookup pc = some (.lrem)) (hy : ¬ y = 0) (k : ck_S m (pc + 1) ls (.long (x - x / y * y) :: r0) h r h') : ck_S m pc ls (.long y :: .long x :: r0) h r h' :=
  ck_S.pure k fun _ _ _ _ _ _ _ _ _ _ _ _ _ _ _ _ _ _ _ _ lsM _ C hl _ _ kk => lv_lrem C.1 C.2.1 (C.dec hc rfl) hy (kk _ hl)
theorem ck_r_lcmp {m : ck_M} {pc : Nat} {ls : ck_L} {r0 : List Value} {h h' : ck_H} {r : Option Value} {x y : Int64} (hc : (ck_cd m).lookup pc = some (.lcmp)) (k : ck_S m (pc + 1) ls (.int (lg_cmp x y) :: r0) h r h') : ck_S m pc ls (.long y :: .long x :: r0) h r h' :=
  ck_S.pure k fun _ _ _ _ _ _ _ _ _ _ _ _ _ _ _ _ _ _ _ _ lsM _ C hl _ _ kk => W.lcmp C.1 C.2.1 (C.dec hc rfl) (kk _ hl)
theorem ck_r_ineg {m : ck_M} {pc : Nat} {ls : ck_L} {r0 : List Value} {h h' : ck_H} {r : Option Value} {x : Int32} (hc : (ck_cd m).lookup pc = some (.ineg)) (k : ck_S m (pc + 1) ls (.int (-x) :: r0) h r h') : ck_S m pc ls (.int x :: r0) h r h' :=
  ck_S.pure k fun _ _ _ _ _ _ _ _ _ _ _ _ _ _ _ _ _ _ _ _ lsM _ C hl _ _ kk => lv_ineg C.1 C.2.1 (C.dec hc rfl) (kk _ hl)
theorem ck_r_i2l {m : ck_M} {pc : Nat} {ls : ck_L} {r0 : List Value} {h h' : ck_H} {r : Option Value} {x : Int32} (hc : (ck_cd m).lookup pc = some (.i2l)) (k : ck_S m (pc + 1) ls (.long x.toInt64 :: r0) h r h') : ck_S m pc ls (.int x :: r0) h r h' :=
  ck_S.pure k fun _ _ _ _ _ _ _ _ _ _ _ _ _ _ _ _ _ _ _ _ lsM _ C hl _ _ kk => lv_i2l C.1 C.2.1 (C.dec hc rfl) rfl (kk _ hl)
theorem ck_r_l2i {m : ck_M} {pc : Nat} {ls : ck_L} {r0 : List Value} {h h' : ck_H} {r : Option Value} {x : Int64} (hc : (ck_cd m).lookup pc = some (.l2i)) (k : ck_S m (pc + 1) ls (.int x.toInt32 :: r0) h r h') : ck_S m pc ls (.long x :: r0) h r h' :=
  ck_S.pure k fun _ _ _ _ _ _ _ _ _ _ _ _ _ _ _ _ _ _ _ _ lsM _ C hl _ _ kk => lv_l2i C.1 C.2.1 (C.dec hc rfl) rfl (kk _ hl)
theorem ck_r_i2b {m : ck_M} {pc : Nat} {ls : ck_L} {r0 : List Value} {h h' : ck_H} {r : Option Value} {x : Int32} (hc : (ck_cd m).lookup pc = some (.i2b)) (k : ck_S m (pc + 1) ls (.int x.toInt8.toInt32 :: r0) h r h') : ck_S m pc ls (.int x :: r0) h r h' :=
  ck_S.pure k fun _ _ _ _ _ _ _ _ _ _ _ _ _ _ _ _ _ _ _ _ lsM _ C hl _ _ kk => lv_i2b C.1 C.2.1 (C.dec hc rfl) rfl (kk _ hl)
theorem ck_r_dup {m : ck_M} {pc : Nat} {ls : ck_L} {r0 : List Value} {h h' : ck_H} {r : Option Value} {v : Value} (hc : (ck_cd m).lookup pc = some (.dup)) (hv : v.category = 1) (k : ck_S m (pc + 1) ls (v :: v :: r0) h r h') : ck_S m pc ls (v :: r0) h r h' :=
  ck_S.pure k fun _ _ _ _ _ _ _ _ _ _ _ _ _ _ _ _ _ _ _ _ lsM _ C hl _ _ kk => lv_dup C.1 C.2.1 (C.dec hc rfl) hv (kk _ hl)
theorem ck_r_dup2 {m : ck_M} {pc : Nat} {ls : ck_L} {r0 : List Value} {h h' : ck_H} {r : Option Value} {v w : Value} (hc : (ck_cd m).lookup pc = some (.dup2)) (hv : v.category = 1) (hw : w.category = 1) (k : ck_S m (pc + 1) ls (v :: w :: v :: w :: r0) h r h') : ck_S m pc ls (v :: w :: r0) h r h' :=
  ck_S.pure k fun _ _ _ _ _ _ _ _ _ _ _ _ _ _ _ _ _ _ _ _ lsM _ C hl _ _ kk => lv_dup2_11 C.1 C.2.1 (C.dec hc rfl) hv hw (kk _ hl)
theorem ck_tg_eq {pc t : Nat} {off : Int} (h : ck_tg pc off = some t) : (pc : Int) + off = (t : Int) := by
  unfold ck_tg at h
  split at h
  · rename_i u hu
    cases h
    exact hu
  · cases h
theorem ck_r_goto {m : ck_M} {pc t : Nat} {off : Int} {ls : ck_L} {r0 : List Value} {h h' : ck_H} {r : Option Value} (hc : (ck_cd m).lookup pc = some (.goto off)) (ht : ck_tg pc off = some t) (k : ck_S m t ls r0 h r h') : ck_S m pc ls (r0) h r h' :=
  ck_S.pure k fun _ _ _ _ _ _ _ _ _ _ _ _ _ _ _ _ _ _ _ _ lsM _ C hl _ _ kk => lv_goto C.1 C.2.1 (C.dec hc rfl) (ck_tg_eq ht) (kk _ hl)
theorem ck_r_if_eq {m : ck_M} {pc t : Nat} {off : Int} {ls : ck_L} {r0 : List Value} {h h' : ck_H} {r : Option Value} {x : Int32} (hc : (ck_cd m).lookup pc = some (.ifCond .eq off)) (ht : ck_tg pc off = some t) (kt : x = 0 → ck_S m t ls r0 h r h') (kf : ¬ (x = 0) → ck_S m (pc + 3) ls r0 h r h') : ck_S m pc ls (.int x :: r0) h r h' := by
  by_cases hx : x = 0
  · exact ck_S.pure (kt hx) fun _ _ _ _ _ _ _ _ _ _ _ _ _ _ _ _ _ _ _ _ lsM _ C hl _ _ kk => lv_if_eq C.1 C.2.1 (C.dec hc rfl) (ck_tg_eq ht) (fun _ => kk _ hl) (fun q => by first | exact absurd hx q | exact absurd q hx)
  · exact ck_S.pure (kf hx) fun _ _ _ _ _ _ _ _ _ _ _ _ _ _ _ _ _ _ _ _ lsM _ C hl _ _ kk => lv_if_eq C.1 C.2.1 (C.dec hc rfl) (ck_tg_eq ht) (fun q => absurd q hx) (fun _ => kk _ hl)
theorem ck_r_icmp_eq {m : ck_M} {pc t : Nat} {off : Int} {ls : ck_L} {r0 : List Value} {h h' : ck_H} {r : Option Value} {x y : Int32} (hc : (ck_cd m).lookup pc = some (.if_icmp .eq off)) (ht : ck_tg pc off = some t) (kt : x = y → ck_S m t ls r0 h r h') (kf : ¬ (x = y) → ck_S m (pc + 3) ls r0 h r h') : ck_S m pc ls (.int y :: .int x :: r0) h r h' := by
  by_cases hx : x = y
  · exact ck_S.pure (kt hx) fun _ _ _ _ _ _ _ _ _ _ _ _ _ _ _ _ _ _ _ _ lsM _ C hl _ _ kk => lv_icmp_eq C.1 C.2.1 (C.dec hc rfl) (ck_tg_eq ht) (fun _ => kk _ hl) (fun q => by first | exact absurd hx q | exact absurd q hx)
  · exact ck_S.pure (kf hx) fun _ _ _ _ _ _ _ _ _ _ _ _ _ _ _ _ _ _ _ _ lsM _ C hl _ _ kk => lv_icmp_eq C.1 C.2.1 (C.dec hc rfl) (ck_tg_eq ht) (fun q => absurd q hx) (fun _ => kk _ hl)
theorem ck_r_if_ne {m : ck_M} {pc t : Nat} {off : Int} {ls : ck_L} {r0 : List Value} {h h' : ck_H} {r : Option Value} {x : Int32} (hc : (ck_cd m).lookup pc = some (.ifCond .ne off)) (ht : ck_tg pc off = some t) (kt : ¬ x = 0 → ck_S m t ls r0 h r h') (kf : ¬ (¬ x = 0) → ck_S m (pc + 3) ls r0 h r h') : ck_S m pc ls (.int x :: r0) h r h' := by
  by_cases hx : ¬ x = 0
  · exact ck_S.pure (kt hx) fun _ _ _ _ _ _ _ _ _ _ _ _ _ _ _ _ _ _ _ _ lsM _ C hl _ _ kk => lv_if_ne C.1 C.2.1 (C.dec hc rfl) (ck_tg_eq ht) (fun _ => kk _ hl) (fun q => by first | exact absurd hx q | exact absurd q hx)
  · exact ck_S.pure (kf hx) fun _ _ _ _ _ _ _ _ _ _ _ _ _ _ _ _ _ _ _ _ lsM _ C hl _ _ kk => lv_if_ne C.1 C.2.1 (C.dec hc rfl) (ck_tg_eq ht) (fun q => absurd q hx) (fun _ => kk _ hl)
theorem ck_r_icmp_ne {m : ck_M} {pc t : Nat} {off : Int} {ls : ck_L} {r0 : List Value} {h h' : ck_H} {r : Option Value} {x y : Int32} (hc : (ck_cd m).lookup pc = some (.if_icmp .ne off)) (ht : ck_tg pc off = some t) (kt : ¬ x = y → ck_S m t ls r0 h r h') (kf : ¬ (¬ x = y) → ck_S m (pc + 3) ls r0 h r h') : ck_S m pc ls (.int y :: .int x :: r0) h r h' := by
  by_cases hx : ¬ x = y
  · exact ck_S.pure (kt hx) fun _ _ _ _ _ _ _ _ _ _ _ _ _ _ _ _ _ _ _ _ lsM _ C hl _ _ kk => lv_icmp_ne C.1 C.2.1 (C.dec hc rfl) (ck_tg_eq ht) (fun _ => kk _ hl) (fun q => by first | exact absurd hx q | exact absurd q hx)
  · exact ck_S.pure (kf hx) fun _ _ _ _ _ _ _ _ _ _ _ _ _ _ _ _ _ _ _ _ lsM _ C hl _ _ kk => lv_icmp_ne C.1 C.2.1 (C.dec hc rfl) (ck_tg_eq ht) (fun q => absurd q hx) (fun _ => kk _ hl)
theorem ck_r_if_lt {m : ck_M} {pc t : Nat} {off : Int} {ls : ck_L} {r0 : List Value} {h h' : ck_H} {r : Option Value} {x : Int32} (hc : (ck_cd m).lookup pc = some (.ifCond .lt off)) (ht : ck_tg pc off = some t) (kt : x < 0 → ck_S m t ls r0 h r h') (kf : ¬ (x < 0) → ck_S m (pc + 3) ls r0 h r h') : ck_S m pc ls (.int x :: r0) h r h' := by
  by_cases hx : x < 0
  · exact ck_S.pure (kt hx) fun _ _ _ _ _ _ _ _ _ _ _ _ _ _ _ _ _ _ _ _ lsM _ C hl _ _ kk => lv_if_lt C.1 C.2.1 (C.dec hc rfl) (ck_tg_eq ht) (fun _ => kk _ hl) (fun q => by first | exact absurd hx q | exact absurd q hx)
  · exact ck_S.pure (kf hx) fun _ _ _ _ _ _ _ _ _ _ _ _ _ _ _ _ _ _ _ _ lsM _ C hl _ _ kk => lv_if_lt C.1 C.2.1 (C.dec hc rfl) (ck_tg_eq ht) (fun q => absurd q hx) (fun _ => kk _ hl)
theorem ck_r_icmp_lt {m : ck_M} {pc t : Nat} {off : Int} {ls : ck_L} {r0 : List Value} {h h' : ck_H} {r : Option Value} {x y : Int32} (hc : (ck_cd m).lookup pc = some (.if_icmp .lt off)) (ht : ck_tg pc off = some t) (kt : x < y → ck_S m t ls r0 h r h') (kf : ¬ (x < y) → ck_S m (pc + 3) ls r0 h r h') : ck_S m pc ls (.int y :: .int x :: r0) h r h' := by
  by_cases hx : x < y
  · exact ck_S.pure (kt hx) fun _ _ _ _ _ _ _ _ _ _ _ _ _ _ _ _ _ _ _ _ lsM _ C hl _ _ kk => lv_icmp_lt C.1 C.2.1 (C.dec hc rfl) (ck_tg_eq ht) (fun _ => kk _ hl) (fun q => by first | exact absurd hx q | exact absurd q hx)
  · exact ck_S.pure (kf hx) fun _ _ _ _ _ _ _ _ _ _ _ _ _ _ _ _ _ _ _ _ lsM _ C hl _ _ kk => lv_icmp_lt C.1 C.2.1 (C.dec hc rfl) (ck_tg_eq ht) (fun q => absurd q hx) (fun _ => kk _ hl)
theorem ck_r_if_ge {m : ck_M} {pc t : Nat} {off : Int} {ls : ck_L} {r0 : List Value} {h h' : ck_H} {r : Option Value} {x : Int32} (hc : (ck_cd m).lookup pc = some (.ifCond .ge off)) (ht : ck_tg pc off = some t) (kt : 0 ≤ x → ck_S m t ls r0 h r h') (kf : ¬ (0 ≤ x) → ck_S m (pc + 3) ls r0 h r h') : ck_S m pc ls (.int x :: r0) h r h' := by
  by_cases hx : 0 ≤ x
  · exact ck_S.pure (kt hx) fun _ _ _ _ _ _ _ _ _ _ _ _ _ _ _ _ _ _ _ _ lsM _ C hl _ _ kk => lv_if_ge C.1 C.2.1 (C.dec hc rfl) (ck_tg_eq ht) (fun _ => kk _ hl) (fun q => by first | exact absurd hx q | exact absurd q hx)
  · exact ck_S.pure (kf hx) fun _ _ _ _ _ _ _ _ _ _ _ _ _ _ _ _ _ _ _ _ lsM _ C hl _ _ kk => lv_if_ge C.1 C.2.1 (C.dec hc rfl) (ck_tg_eq ht) (fun q => absurd q hx) (fun _ => kk _ hl)
theorem ck_r_icmp_ge {m : ck_M} {pc t : Nat} {off : Int} {ls : ck_L} {r0 : List Value} {h h' : ck_H} {r : Option Value} {x y : Int32} (hc : (ck_cd m).lookup pc = some (.if_icmp .ge off)) (ht : ck_tg pc off = some t) (kt : y ≤ x → ck_S m t ls r0 h r h') (kf : ¬ (y ≤ x) → ck_S m (pc + 3) ls r0 h r h') : ck_S m pc ls (.int y :: .int x :: r0) h r h' := by
  by_cases hx : y ≤ x
  · exact ck_S.pure (kt hx) fun _ _ _ _ _ _ _ _ _ _ _ _ _ _ _ _ _ _ _ _ lsM _ C hl _ _ kk => lv_icmp_ge C.1 C.2.1 (C.dec hc rfl) (ck_tg_eq ht) (fun _ => kk _ hl) (fun q => by first | exact absurd hx q | exact absurd q hx)
  · exact ck_S.pure (kf hx) fun _ _ _ _ _ _ _ _ _ _ _ _ _ _ _ _ _ _ _ _ lsM _ C hl _ _ kk => lv_icmp_ge C.1 C.2.1 (C.dec hc rfl) (ck_tg_eq ht) (fun q => absurd q hx) (fun _ => kk _ hl)
theorem ck_r_if_gt {m : ck_M} {pc t : Nat} {off : Int} {ls : ck_L} {r0 : List Value} {h h' : ck_H} {r : Option Value} {x : Int32} (hc : (ck_cd m).lookup pc = some (.ifCond .gt off)) (ht : ck_tg pc off = some t) (kt : 0 < x → ck_S m t ls r0 h r h') (kf : ¬ (0 < x) → ck_S m (pc + 3) ls r0 h r h') : ck_S m pc ls (.int x :: r0) h r h' := by
  by_cases hx : 0 < x
  · exact ck_S.pure (kt hx) fun _ _ _ _ _ _ _ _ _ _ _ _ _ _ _ _ _ _ _ _ lsM _ C hl _ _ kk => lv_if_gt C.1 C.2.1 (C.dec hc rfl) (ck_tg_eq ht) (fun _ => kk _ hl) (fun q => by first | exact absurd hx q | exact absurd q hx)
  · exact ck_S.pure (kf hx) fun _ _ _ _ _ _ _ _ _ _ _ _ _ _ _ _ _ _ _ _ lsM _ C hl _ _ kk => lv_if_gt C.1 C.2.1 (C.dec hc rfl) (ck_tg_eq ht) (fun q => absurd q hx) (fun _ => kk _ hl)
theorem ck_r_icmp_gt {m : ck_M} {pc t : Nat} {off : Int} {ls : ck_L} {r0 : List Value} {h h' : ck_H} {r : Option Value} {x y : Int32} (hc : (ck_cd m).lookup pc = some (.if_icmp .gt off)) (ht : ck_tg pc off = some t) (kt : y < x → ck_S m t ls r0 h r h') (kf : ¬ (y < x) → ck_S m (pc + 3) ls r0 h r h') : ck_S m pc ls (.int y :: .int x :: r0) h r h' := by
  by_cases hx : y < x
  · exact ck_S.pure (kt hx) fun _ _ _ _ _ _ _ _ _ _ _ _ _ _ _ _ _ _ _ _ lsM _ C hl _ _ kk => lv_icmp_gt C.1 C.2.1 (C.dec hc rfl) (ck_tg_eq ht) (fun _ => kk _ hl) (fun q => by first | exact absurd hx q | exact absurd q hx)
  · exact ck_S.pure (kf hx) fun _ _ _ _ _ _ _ _ _ _ _ _ _ _ _ _ _ _ _ _ lsM _ C hl _ _ kk => lv_icmp_gt C.1 C.2.1 (C.dec hc rfl) (ck_tg_eq ht) (fun q => absurd q hx) (fun _ => kk _ hl)
theorem ck_r_if_le {m : ck_M} {pc t : Nat} {off : Int} {ls : ck_L} {r0 : List Value} {h h' : ck_H} {r : Option Value} {x : Int32} (hc : (ck_cd m).lookup pc = some (.ifCond .le off)) (ht : ck_tg pc off = some t) (kt : x ≤ 0 → ck_S m t ls r0 h r h') (kf : ¬ (x ≤ 0) → ck_S m (pc + 3) ls r0 h r h') : ck_S m pc ls (.int x :: r0) h r h' := by
  by_cases hx : x ≤ 0
  · exact ck_S.pure (kt hx) fun _ _ _ _ _ _ _ _ _ _ _ _ _ _ _ _ _ _ _ _ lsM _ C hl _ _ kk => lv_if_le C.1 C.2.1 (C.dec hc rfl) (ck_tg_eq ht) (fun _ => kk _ hl) (fun q => by first | exact absurd hx q | exact absurd q hx)
  · exact ck_S.pure (kf hx) fun _ _ _ _ _ _ _ _ _ _ _ _ _ _ _ _ _ _ _ _ lsM _ C hl _ _ kk => lv_if_le C.1 C.2.1 (C.dec hc rfl) (ck_tg_eq ht) (fun q => absurd q hx) (fun _ => kk _ hl)
theorem ck_r_icmp_le {m : ck_M} {pc t : Nat} {off : Int} {ls : ck_L} {r0 : List Value} {h h' : ck_H} {r : Option Value} {x y : Int32} (hc : (ck_cd m).lookup pc = some (.if_icmp .le off)) (ht : ck_tg pc off = some t) (kt : x ≤ y → ck_S m t ls r0 h r h') (kf : ¬ (x ≤ y) → ck_S m (pc + 3) ls r0 h r h') : ck_S m pc ls (.int y :: .int x :: r0) h r h' := by
  by_cases hx : x ≤ y
  · exact ck_S.pure (kt hx) fun _ _ _ _ _ _ _ _ _ _ _ _ _ _ _ _ _ _ _ _ lsM _ C hl _ _ kk => lv_icmp_le C.1 C.2.1 (C.dec hc rfl) (ck_tg_eq ht) (fun _ => kk _ hl) (fun q => by first | exact absurd hx q | exact absurd q hx)
  · exact ck_S.pure (kf hx) fun _ _ _ _ _ _ _ _ _ _ _ _ _ _ _ _ _ _ _ _ lsM _ C hl _ _ kk => lv_icmp_le C.1 C.2.1 (C.dec hc rfl) (ck_tg_eq ht) (fun q => absurd q hx) (fun _ => kk _ hl)
theorem ck_r_ifnullN {m : ck_M} {pc t : Nat} {off : Int} {ls : ck_L} {r0 : List Value} {h h' : ck_H} {r : Option Value} (hc : (ck_cd m).lookup pc = some (.ifnull off)) (ht : ck_tg pc off = some t) (k : ck_S m t ls r0 h r h') : ck_S m pc ls (.null :: r0) h r h' :=
  ck_S.pure k fun _ _ _ _ _ _ _ _ _ _ _ _ _ _ _ _ _ _ _ _ lsM _ C hl _ _ kk => lv_ifnullN C.1 C.2.1 (C.dec hc rfl) (ck_tg_eq ht) (kk _ hl)
theorem ck_r_ifnull {m : ck_M} {pc : Nat} {ls : ck_L} {r0 : List Value} {h h' : ck_H} {r : Option Value} {x : Nat} {off : Int} (hc : (ck_cd m).lookup pc = some (.ifnull off)) (k : ck_S m (pc + 3) ls (r0) h r h') : ck_S m pc ls (.ref x :: r0) h r h' :=
  ck_S.pure k fun _ _ _ _ _ _ _ _ _ _ _ _ _ _ _ _ _ _ _ _ lsM _ C hl _ _ kk => lv_ifnull C.1 C.2.1 (C.dec hc rfl) (kk _ hl)
theorem ck_r_ifnonnullN {m : ck_M} {pc : Nat} {ls : ck_L} {r0 : List Value} {h h' : ck_H} {r : Option Value} {off : Int} (hc : (ck_cd m).lookup pc = some (.ifnonnull off)) (k : ck_S m (pc + 3) ls (r0) h r h') : ck_S m pc ls (.null :: r0) h r h' :=
  ck_S.pure k fun _ _ _ _ _ _ _ _ _ _ _ _ _ _ _ _ _ _ _ _ lsM _ C hl _ _ kk => lv_ifnonnullN C.1 C.2.1 (C.dec hc rfl) (kk _ hl)
theorem ck_r_ifnonnull {m : ck_M} {pc t : Nat} {off : Int} {ls : ck_L} {r0 : List Value} {h h' : ck_H} {r : Option Value} {x : Nat} (hc : (ck_cd m).lookup pc = some (.ifnonnull off)) (ht : ck_tg pc off = some t) (k : ck_S m t ls r0 h r h') : ck_S m pc ls (.ref x :: r0) h r h' :=
  ck_S.pure k fun _ _ _ _ _ _ _ _ _ _ _ _ _ _ _ _ _ _ _ _ lsM _ C hl _ _ kk => lv_ifnonnull C.1 C.2.1 (C.dec hc rfl) (ck_tg_eq ht) (kk _ hl)
theorem ck_C.decS {p : Program} {R : Room} {s : State} {mi : MethodId} {args : Array Value} {meth : Method} {c : Code} {m : ck_M} {base b L : Nat} {xs : Nat → Int32} {D : va_G} {cy : Nat → ClassId} (C : ck_C p R s mi args meth c m base b L xs D cy) {pc : Nat} {i : Instr} (h : (ck_cd m).lookup pc = some i) : ∃ n, decode (ck_bs m) pc = .ok (i, n) := by
  obtain ⟨k, h1, -⟩ := ck_dec C.2.2.2.2.2.2.2.2.2.2.2.2.2.2 h
  exact ⟨k, h1⟩
theorem ck_r_tswO {m : ck_M} {pc t : Nat} {d lo hi : Int} {offs : Array Int} {ls : ck_L} {r0 : List Value} {h h' : ck_H} {r : Option Value} {x : Int32} (hc : (ck_cd m).lookup pc = some (.tableswitch d lo hi offs)) (hx : x.toInt < lo ∨ hi < x.toInt) (ht : ck_tg pc d = some t) (k : ck_S m t ls r0 h r h') : ck_S m pc ls (.int x :: r0) h r h' := by
  refine ck_S.pure k fun _ _ _ _ _ _ _ _ _ _ _ _ _ _ _ _ _ _ _ _ lsM _ C hl _ _ kk => ?_
  obtain ⟨n, hd⟩ := C.decS hc
  exact lv_tableOut C.1 C.2.1 hd hx (ck_tg_eq ht) (kk _ hl)
theorem ck_r_tswI {m : ck_M} {pc t : Nat} {d lo hi off : Int} {offs : Array Int} {ls : ck_L} {r0 : List Value} {h h' : ck_H} {r : Option Value} {x : Int32} (hc : (ck_cd m).lookup pc = some (.tableswitch d lo hi offs)) (hx : ¬ (x.toInt < lo ∨ hi < x.toInt)) (ho : offs[(x.toInt - lo).toNat]? = some off) (ht : ck_tg pc off = some t) (k : ck_S m t ls r0 h r h') : ck_S m pc ls (.int x :: r0) h r h' := by
  refine ck_S.pure k fun _ _ _ _ _ _ _ _ _ _ _ _ _ _ _ _ _ _ _ _ lsM _ C hl _ _ kk => ?_
  obtain ⟨n, hd⟩ := C.decS hc
  exact lv_tableIn C.1 C.2.1 hd (fun q => hx (Or.inl q)) (fun q => hx (Or.inr q)) ho (ck_tg_eq ht) (kk _ hl)
theorem ck_r_lsw {m : ck_M} {pc t : Nat} {d : Int} {ps : Array (Int × Int)} {ls : ck_L} {r0 : List Value} {h h' : ck_H} {r : Option Value} {x : Int32} (hc : (ck_cd m).lookup pc = some (.lookupswitch d ps)) (hp : (ps.toList.zip (ps.toList.drop 1)).all (fun (a, next) => a.1 < next.1) = true) (ht : ck_tg pc (Op.lookupswitch.offset ps.toList d x.toInt) = some t) (k : ck_S m t ls r0 h r h') : ck_S m pc ls (.int x :: r0) h r h' := by
  refine ck_S.pure k fun _ _ _ _ _ _ _ _ _ _ _ _ _ _ _ _ _ _ _ _ lsM _ C hl _ _ kk => ?_
  obtain ⟨n, hd⟩ := C.decS hc
  exact lv_lookup C.1 C.2.1 hd hp rfl (ck_tg_eq ht) (kk _ hl)
