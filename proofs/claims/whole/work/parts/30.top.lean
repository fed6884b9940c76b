/-- the claim out of the law's function -/
theorem ck_top {p : Program} {e : Env} {s : State} {m : MethodId} {below : List Frame} {meth : Method} {c : Code} (l : Launch) {b L : Nat} {xs : Nat → Int32} (C0 : lw_At p s m meth c b L xs) {F : Nat} {h' : ck_H} (hx : f_Lw_law F b (ck_h0 s.heap.size b L xs) = some (1, h')) (h1 : gn h' ≤ s.heap.size + 600000) (h2 : gu h' ≤ 7302250) : W p l e room_1 s m #[Value.ref b] below meth c s.heap [] 0 0 (lw_Z below #[Value.ref b] s) (entryFrame m ([Value.ref b] : List Value).toArray 4) := by
  obtain ⟨n, hn⟩ := s_Lw_law hx
  exact ck_whole l C0 (hn n (Nat.le_refl n)) h1 h2
/-! ===== what a heap holds behind a write ===== -/
theorem gI_wI (h : ck_H) (a i : Nat) (x : Int32) (b j : Nat) : gI (wI h a i x) b j = if b = a ∧ j = i then x else gI h b j := rfl
theorem gR_wI (h : ck_H) (a i : Nat) (x : Int32) (b j : Nat) : gR (wI h a i x) b j = gR h b j := rfl
theorem gJ_wI (h : ck_H) (a i : Nat) (x : Int32) (b j : Nat) : gJ (wI h a i x) b j = gJ h b j := rfl
theorem gk_wI (h : ck_H) (a i : Nat) (x : Int32) (b : Nat) : gk (wI h a i x) b = gk h b := rfl
theorem gz_wI (h : ck_H) (a i : Nat) (x : Int32) (b : Nat) : gz (wI h a i x) b = gz h b := rfl
theorem gn_wI (h : ck_H) (a i : Nat) (x : Int32) : gn (wI h a i x) = gn h := rfl
theorem gu_wI (h : ck_H) (a i : Nat) (x : Int32) : gu (wI h a i x) = gu h := rfl
theorem gI_wR (h : ck_H) (a i : Nat) (x : Option Nat) (b j : Nat) : gI (wR h a i x) b j = gI h b j := rfl
theorem gR_wR (h : ck_H) (a i : Nat) (x : Option Nat) (b j : Nat) : gR (wR h a i x) b j = if b = a ∧ j = i then x else gR h b j := rfl
theorem gJ_wR (h : ck_H) (a i : Nat) (x : Option Nat) (b j : Nat) : gJ (wR h a i x) b j = gJ h b j := rfl
theorem gk_wR (h : ck_H) (a i : Nat) (x : Option Nat) (b : Nat) : gk (wR h a i x) b = gk h b := rfl
theorem gz_wR (h : ck_H) (a i : Nat) (x : Option Nat) (b : Nat) : gz (wR h a i x) b = gz h b := rfl
theorem gn_wR (h : ck_H) (a i : Nat) (x : Option Nat) : gn (wR h a i x) = gn h := rfl
theorem gu_wR (h : ck_H) (a i : Nat) (x : Option Nat) : gu (wR h a i x) = gu h := rfl
theorem gI_wJ (h : ck_H) (a i : Nat) (x : Int64) (b j : Nat) : gI (wJ h a i x) b j = gI h b j := rfl
theorem gR_wJ (h : ck_H) (a i : Nat) (x : Int64) (b j : Nat) : gR (wJ h a i x) b j = gR h b j := rfl
theorem gJ_wJ (h : ck_H) (a i : Nat) (x : Int64) (b j : Nat) : gJ (wJ h a i x) b j = if b = a ∧ j = i then x else gJ h b j := rfl
theorem gk_wJ (h : ck_H) (a i : Nat) (x : Int64) (b : Nat) : gk (wJ h a i x) b = gk h b := rfl
theorem gz_wJ (h : ck_H) (a i : Nat) (x : Int64) (b : Nat) : gz (wJ h a i x) b = gz h b := rfl
theorem gn_wJ (h : ck_H) (a i : Nat) (x : Int64) : gn (wJ h a i x) = gn h := rfl
theorem gu_wJ (h : ck_H) (a i : Nat) (x : Int64) : gu (wJ h a i x) = gu h := rfl
theorem gI_wN (h : ck_H) (k n b j : Nat) : gI (wN h k n) b j = if b = gn h then 0 else gI h b j := rfl
theorem gR_wN (h : ck_H) (k n b j : Nat) : gR (wN h k n) b j = if b = gn h then none else gR h b j := rfl
theorem gJ_wN (h : ck_H) (k n b j : Nat) : gJ (wN h k n) b j = if b = gn h then 0 else gJ h b j := rfl
theorem gk_wN (h : ck_H) (k n b : Nat) : gk (wN h k n) b = if b = gn h then k else gk h b := ck_gk_wN h k n b
theorem gz_wN (h : ck_H) (k n b : Nat) : gz (wN h k n) b = if b = gn h then n else gz h b := ck_gz_wN h k n b
theorem gn_wN (h : ck_H) (k n : Nat) : gn (wN h k n) = gn h + 1 := rfl
theorem gu_wN (h : ck_H) (k n : Nat) : gu (wN h k n) = gu h + n := rfl
theorem gI_wC (h : ck_H) (a0 sp a dp n b j : Nat) : gI (wC h a0 sp a dp n) b j = if b = a then va_cpy (gI h a0) (gI h a) sp dp n j else gI h b j := by
  simp only [gI, wC]
  split <;> rfl
theorem gR_wC (h : ck_H) (a0 sp a dp n b j : Nat) : gR (wC h a0 sp a dp n) b j = gR h b j := rfl
theorem gJ_wC (h : ck_H) (a0 sp a dp n b j : Nat) : gJ (wC h a0 sp a dp n) b j = gJ h b j := rfl
theorem gk_wC (h : ck_H) (a0 sp a dp n b : Nat) : gk (wC h a0 sp a dp n) b = gk h b := rfl
theorem gz_wC (h : ck_H) (a0 sp a dp n b : Nat) : gz (wC h a0 sp a dp n) b = gz h b := rfl
theorem gn_wC (h : ck_H) (a0 sp a dp n : Nat) : gn (wC h a0 sp a dp n) = gn h := rfl
theorem gu_wC (h : ck_H) (a0 sp a dp n : Nat) : gu (wC h a0 sp a dp n) = gu h := rfl
/-! how a function goes on -/
theorem x_as {β : Type} {c : Prop} [Decidable c] {k : Option β} (hc : c) : ck_as c k = k := if_pos hc
theorem x_some {β : Type} {x : Nat} {k : Nat → Option β} : ck_some (some x) k = k x := rfl
theorem x_optS {β : Type} {x : Nat} {a : Option β} {k : Nat → Option β} : ck_opt (some x) a k = k x := rfl
theorem x_optN {β : Type} {a : Option β} {k : Nat → Option β} : ck_opt none a k = a := rfl
theorem x_bd {α β : Type} {r : α} {h : ck_H} {k : α → ck_H → Option β} : ck_bd (some (r, h)) k = k r h := rfl
theorem x_then {α β : Type} {v : α} {k : α → Option β} : ck_then v k = k v := rfl
