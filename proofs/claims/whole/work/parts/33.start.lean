/-- nothing at all -/
def ck_he : ck_H := ((0, 0), (fun _ => (22, 0)), (fun _ _ => 0), (fun _ _ => none), (fun _ _ => 0))
/-- the class, made at 0 -/
def ck_cA : Option (Unit × ck_H) := f_CS_init 100 0 (wN ck_he 11 8)
def ck_hA : ck_H := (ck_cA.map (fun q => q.2)).getD ck_he
theorem ck_cA_some : ck_cA.isSome = true := by decide +kernel
theorem ck_cA_eq : f_CS_init 100 0 (wN ck_he 11 8) = some ((), ck_hA) := by
  show ck_cA = _
  have h := ck_cA_some
  unfold ck_hA
  cases hc : ck_cA with
  | none => rw [hc] at h; cases h
  | some q => rfl
/-- the reference, made behind it -/
def ck_cB : Option (Unit × ck_H) := f_RM_init 100 496 (wN ck_hA 12 79)
def ck_hB : ck_H := (ck_cB.map (fun q => q.2)).getD ck_he
theorem ck_cB_some : ck_cB.isSome = true := by decide +kernel
theorem ck_cB_eq : f_RM_init 100 496 (wN ck_hA 12 79) = some ((), ck_hB) := by
  show ck_cB = _
  have h := ck_cB_some
  unfold ck_hB
  cases hc : ck_cB with
  | none => rw [hc] at h; cases h
  | some q => rfl
theorem ck_hA_n : gn ck_hA = 496 ∧ gu ck_hA = 25485 := by decide +kernel
theorem ck_hB_n : gn ck_hB = 559 ∧ gu ck_hB = 474219 := by decide +kernel
