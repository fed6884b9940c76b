theorem ck_rvb {m : ck_M} {v : Int32} (hr : ck_rt m = some .boolean) (hb : v = 0 ∨ v = 1) : ck_rv m [.int v] .ireturn = some (some (.int v)) := by
  simp only [ck_rv, hr, if_pos hb]
theorem ck_putb {h : ck_H} {a c i : Nat} {x : Int32} (hf : ck_ft c i = 1) (hb : x = 0 ∨ x = 1) : ck_put h a c i (.int x) = some (wI h a i x) := by
  simp only [ck_put, hf, if_pos hb]
theorem ck_kI {h : ck_H} {a i b : Nat} {x : Int32} : gk (wI h a i x) b = gk h b := rfl
theorem ck_kR {h : ck_H} {a i b : Nat} {x : Option Nat} : gk (wR h a i x) b = gk h b := rfl
theorem ck_kJ {h : ck_H} {a i b : Nat} {x : Int64} : gk (wJ h a i x) b = gk h b := rfl
theorem ck_kC {h : ck_H} {a0 sp a dp n b : Nat} : gk (wC h a0 sp a dp n) b = gk h b := rfl
