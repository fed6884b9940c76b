/-- the same heap, with a script at 1000000 -/
def ck_xt (L : Nat) (xs : Nat → Int32) (h : ck_H) : ck_H := (h.1, va_up h.2.1 1000000 (21, L), (fun a i => if a = 1000000 then xs i else h.2.2.1 a i), h.2.2.2)
theorem gk_xt (L : Nat) (xs : Nat → Int32) (h : ck_H) (a : Nat) : gk (ck_xt L xs h) a = if a = 1000000 then 21 else gk h a := by
  simp only [gk, ck_xt, va_up]; split <;> rfl
theorem gz_xt (L : Nat) (xs : Nat → Int32) (h : ck_H) (a : Nat) : gz (ck_xt L xs h) a = if a = 1000000 then L else gz h a := by
  simp only [gz, ck_xt, va_up]; split <;> rfl
theorem gI_xt (L : Nat) (xs : Nat → Int32) (h : ck_H) (a i : Nat) : gI (ck_xt L xs h) a i = if a = 1000000 then xs i else gI h a i := rfl
theorem gR_xt (L : Nat) (xs : Nat → Int32) (h : ck_H) (a i : Nat) : gR (ck_xt L xs h) a i = gR h a i := rfl
theorem gJ_xt (L : Nat) (xs : Nat → Int32) (h : ck_H) (a i : Nat) : gJ (ck_xt L xs h) a i = gJ h a i := rfl
theorem gn_xt (L : Nat) (xs : Nat → Int32) (h : ck_H) : gn (ck_xt L xs h) = gn h := rfl
theorem ck_xt_wI {L : Nat} {xs : Nat → Int32} {h : ck_H} {a i : Nat} {x : Int32} (ha : a ≠ 1000000) : wI (ck_xt L xs h) a i x = ck_xt L xs (wI h a i x) := by
  simp only [wI, ck_xt, Prod.mk.injEq, true_and, and_true]
  funext c j
  simp only [u2]
  by_cases hc : c = 1000000
  · have : ¬ (c = a ∧ j = i) := fun q => ha (by omega)
    simp [hc, this]
    intro q; omega
  · simp [hc]
theorem ck_xt_wR {L : Nat} {xs : Nat → Int32} {h : ck_H} {a i : Nat} {x : Option Nat} : wR (ck_xt L xs h) a i x = ck_xt L xs (wR h a i x) := rfl
theorem ck_xt_wJ {L : Nat} {xs : Nat → Int32} {h : ck_H} {a i : Nat} {x : Int64} : wJ (ck_xt L xs h) a i x = ck_xt L xs (wJ h a i x) := rfl
theorem ck_xt_wC {L : Nat} {xs : Nat → Int32} {h : ck_H} {a0 sp a dp n : Nat} (h0 : a0 ≠ 1000000) (ha : a ≠ 1000000) : wC (ck_xt L xs h) a0 sp a dp n = ck_xt L xs (wC h a0 sp a dp n) := by
  simp only [wC, ck_xt, Prod.mk.injEq, true_and, and_true]
  funext c
  by_cases hc : c = 1000000
  · have : ¬ c = a := fun q => ha (by omega)
    subst hc
    simp [this]
  · by_cases hca : c = a
    · subst hca
      funext j
      simp [hc, h0]
    · funext j
      simp [hc, hca]
theorem ck_xt_wN {L : Nat} {xs : Nat → Int32} {h : ck_H} {k n : Nat} (ha : gn h ≠ 1000000) : wN (ck_xt L xs h) k n = ck_xt L xs (wN h k n) := by
  have e : gn (ck_xt L xs h) = gn h := rfl
  simp only [wN, e]
  simp only [ck_xt, Prod.mk.injEq, and_true]
  refine ⟨⟨trivial, rfl⟩, ?_, ?_⟩
  · funext c
    simp only [va_up]
    by_cases hc : c = 1000000
    · have : ¬ c = gn h := fun q => ha (by omega)
      simp [hc]
      intro q; omega
    · simp [hc]
  · funext c j
    by_cases hc : c = 1000000
    · have : ¬ c = gn h := fun q => ha (by omega)
      simp [hc]
      intro q; omega
    · simp [hc]
def ck_KX (L : Nat) (xs : Nat → Int32) (k : ck_K) : Prop := ∀ (m : ck_M) (pc : Nat) (l : ck_L) (st : List Value) (h : ck_H) (r : Option Value) (h' : ck_H), k m pc l st h = some (r, h') → gk h 1000000 = 22 → gn h' ≤ 1000000 → k m pc l st (ck_xt L xs h) = some (r, ck_xt L xs h') ∧ gk h' 1000000 = 22
theorem ck_fv_xt {L : Nat} {xs : Nat → Int32} {h : ck_H} {a c i : Nat} (ha : a ≠ 1000000) : ck_fv (ck_xt L xs h) a c i = ck_fv h a c i := by
  unfold ck_fv
  simp only [gI_xt, gJ_xt, gR_xt, if_neg ha]
theorem ck_put_xt {L : Nat} {xs : Nat → Int32} {h h1 : ck_H} {a c i : Nat} {v : Value} (ha : a ≠ 1000000) (hx : ck_put h a c i v = some h1) : ck_put (ck_xt L xs h) a c i v = some (ck_xt L xs h1) ∧ gk h1 1000000 = gk h 1000000 := by
  unfold ck_put at hx ⊢
  split at hx
  · cases hx; exact ⟨by rw [ck_xt_wI ha], rfl⟩
  · split at hx
    · rename_i hb; cases hx; exact ⟨by simp only [if_pos hb, ck_xt_wI ha], rfl⟩
    · cases hx
  · cases hx; exact ⟨rfl, rfl⟩
  · cases hx; exact ⟨rfl, rfl⟩
  · cases hx; exact ⟨rfl, rfl⟩
  · cases hx
theorem ck_e_iconst {L : Nat} {xs : Nat → Int32} {k : ck_K} (hk : ck_KX L xs k) (hs : ck_KS k) {m : ck_M} {pc : Nat} {l : ck_L} {st : List Value} {h h' : ck_H} {r : Option Value} {z : Int} (hex : ck_i k m pc l st h (.iconst z) = some (r, h')) (hz : gk h 1000000 = 22) (hg : gn h' ≤ 1000000) : ck_i k m pc l st (ck_xt L xs h) (.iconst z) = some (r, ck_xt L xs h') ∧ gk h' 1000000 = 22 := by
  simp only [ck_i] at hex ⊢
  exact hk _ _ _ _ _ _ _ hex hz hg
theorem ck_e_bipush {L : Nat} {xs : Nat → Int32} {k : ck_K} (hk : ck_KX L xs k) (hs : ck_KS k) {m : ck_M} {pc : Nat} {l : ck_L} {st : List Value} {h h' : ck_H} {r : Option Value} {z : Int} (hex : ck_i k m pc l st h (.bipush z) = some (r, h')) (hz : gk h 1000000 = 22) (hg : gn h' ≤ 1000000) : ck_i k m pc l st (ck_xt L xs h) (.bipush z) = some (r, ck_xt L xs h') ∧ gk h' 1000000 = 22 := by
  simp only [ck_i] at hex ⊢
  exact hk _ _ _ _ _ _ _ hex hz hg
theorem ck_e_sipush {L : Nat} {xs : Nat → Int32} {k : ck_K} (hk : ck_KX L xs k) (hs : ck_KS k) {m : ck_M} {pc : Nat} {l : ck_L} {st : List Value} {h h' : ck_H} {r : Option Value} {z : Int} (hex : ck_i k m pc l st h (.sipush z) = some (r, h')) (hz : gk h 1000000 = 22) (hg : gn h' ≤ 1000000) : ck_i k m pc l st (ck_xt L xs h) (.sipush z) = some (r, ck_xt L xs h') ∧ gk h' 1000000 = 22 := by
  simp only [ck_i] at hex ⊢
  exact hk _ _ _ _ _ _ _ hex hz hg
theorem ck_e_lconst {L : Nat} {xs : Nat → Int32} {k : ck_K} (hk : ck_KX L xs k) (hs : ck_KS k) {m : ck_M} {pc : Nat} {l : ck_L} {st : List Value} {h h' : ck_H} {r : Option Value} {z : Fin 2} (hex : ck_i k m pc l st h (.lconst z) = some (r, h')) (hz : gk h 1000000 = 22) (hg : gn h' ≤ 1000000) : ck_i k m pc l st (ck_xt L xs h) (.lconst z) = some (r, ck_xt L xs h') ∧ gk h' 1000000 = 22 := by
  simp only [ck_i] at hex ⊢
  exact hk _ _ _ _ _ _ _ hex hz hg
theorem ck_e_aconst_null {L : Nat} {xs : Nat → Int32} {k : ck_K} (hk : ck_KX L xs k) (hs : ck_KS k) {m : ck_M} {pc : Nat} {l : ck_L} {st : List Value} {h h' : ck_H} {r : Option Value} (hex : ck_i k m pc l st h (.aconst_null) = some (r, h')) (hz : gk h 1000000 = 22) (hg : gn h' ≤ 1000000) : ck_i k m pc l st (ck_xt L xs h) (.aconst_null) = some (r, ck_xt L xs h') ∧ gk h' 1000000 = 22 := by
  simp only [ck_i] at hex ⊢
  exact hk _ _ _ _ _ _ _ hex hz hg
theorem ck_e_ldc {L : Nat} {xs : Nat → Int32} {k : ck_K} (hk : ck_KX L xs k) (hs : ck_KS k) {m : ck_M} {pc : Nat} {l : ck_L} {st : List Value} {h h' : ck_H} {r : Option Value} {ix : Nat} (hex : ck_i k m pc l st h (.ldc ix) = some (r, h')) (hz : gk h 1000000 = 22) (hg : gn h' ≤ 1000000) : ck_i k m pc l st (ck_xt L xs h) (.ldc ix) = some (r, ck_xt L xs h') ∧ gk h' 1000000 = 22 := by
  simp only [ck_i] at hex ⊢
  split at hex
  · exact hk _ _ _ _ _ _ _ hex hz hg
  · cases hex
theorem ck_e_ldc2_w {L : Nat} {xs : Nat → Int32} {k : ck_K} (hk : ck_KX L xs k) (hs : ck_KS k) {m : ck_M} {pc : Nat} {l : ck_L} {st : List Value} {h h' : ck_H} {r : Option Value} {ix : Nat} (hex : ck_i k m pc l st h (.ldc2_w ix) = some (r, h')) (hz : gk h 1000000 = 22) (hg : gn h' ≤ 1000000) : ck_i k m pc l st (ck_xt L xs h) (.ldc2_w ix) = some (r, ck_xt L xs h') ∧ gk h' 1000000 = 22 := by
  simp only [ck_i] at hex ⊢
  split at hex
  · exact hk _ _ _ _ _ _ _ hex hz hg
  · cases hex
theorem ck_e_iload {L : Nat} {xs : Nat → Int32} {k : ck_K} (hk : ck_KX L xs k) (hs : ck_KS k) {m : ck_M} {pc : Nat} {l : ck_L} {st : List Value} {h h' : ck_H} {r : Option Value} {i : Nat} (hex : ck_i k m pc l st h (.iload i) = some (r, h')) (hz : gk h 1000000 = 22) (hg : gn h' ≤ 1000000) : ck_i k m pc l st (ck_xt L xs h) (.iload i) = some (r, ck_xt L xs h') ∧ gk h' 1000000 = 22 := by
  simp only [ck_i, ck_ldi] at hex ⊢
  split at hex
  · exact hk _ _ _ _ _ _ _ hex hz hg
  · cases hex
theorem ck_e_iload_n {L : Nat} {xs : Nat → Int32} {k : ck_K} (hk : ck_KX L xs k) (hs : ck_KS k) {m : ck_M} {pc : Nat} {l : ck_L} {st : List Value} {h h' : ck_H} {r : Option Value} {i : Fin 4} (hex : ck_i k m pc l st h (.iload_n i) = some (r, h')) (hz : gk h 1000000 = 22) (hg : gn h' ≤ 1000000) : ck_i k m pc l st (ck_xt L xs h) (.iload_n i) = some (r, ck_xt L xs h') ∧ gk h' 1000000 = 22 := by
  simp only [ck_i, ck_ldi] at hex ⊢
  split at hex
  · exact hk _ _ _ _ _ _ _ hex hz hg
  · cases hex
theorem ck_e_lload {L : Nat} {xs : Nat → Int32} {k : ck_K} (hk : ck_KX L xs k) (hs : ck_KS k) {m : ck_M} {pc : Nat} {l : ck_L} {st : List Value} {h h' : ck_H} {r : Option Value} {i : Nat} (hex : ck_i k m pc l st h (.lload i) = some (r, h')) (hz : gk h 1000000 = 22) (hg : gn h' ≤ 1000000) : ck_i k m pc l st (ck_xt L xs h) (.lload i) = some (r, ck_xt L xs h') ∧ gk h' 1000000 = 22 := by
  simp only [ck_i, ck_ldl] at hex ⊢
  split at hex
  · exact hk _ _ _ _ _ _ _ hex hz hg
  · cases hex
theorem ck_e_lload_n {L : Nat} {xs : Nat → Int32} {k : ck_K} (hk : ck_KX L xs k) (hs : ck_KS k) {m : ck_M} {pc : Nat} {l : ck_L} {st : List Value} {h h' : ck_H} {r : Option Value} {i : Fin 4} (hex : ck_i k m pc l st h (.lload_n i) = some (r, h')) (hz : gk h 1000000 = 22) (hg : gn h' ≤ 1000000) : ck_i k m pc l st (ck_xt L xs h) (.lload_n i) = some (r, ck_xt L xs h') ∧ gk h' 1000000 = 22 := by
  simp only [ck_i, ck_ldl] at hex ⊢
  split at hex
  · exact hk _ _ _ _ _ _ _ hex hz hg
  · cases hex
theorem ck_e_aload {L : Nat} {xs : Nat → Int32} {k : ck_K} (hk : ck_KX L xs k) (hs : ck_KS k) {m : ck_M} {pc : Nat} {l : ck_L} {st : List Value} {h h' : ck_H} {r : Option Value} {i : Nat} (hex : ck_i k m pc l st h (.aload i) = some (r, h')) (hz : gk h 1000000 = 22) (hg : gn h' ≤ 1000000) : ck_i k m pc l st (ck_xt L xs h) (.aload i) = some (r, ck_xt L xs h') ∧ gk h' 1000000 = 22 := by
  simp only [ck_i, ck_lda] at hex ⊢
  split at hex
  · exact hk _ _ _ _ _ _ _ hex hz hg
  · exact hk _ _ _ _ _ _ _ hex hz hg
  · cases hex
theorem ck_e_aload_n {L : Nat} {xs : Nat → Int32} {k : ck_K} (hk : ck_KX L xs k) (hs : ck_KS k) {m : ck_M} {pc : Nat} {l : ck_L} {st : List Value} {h h' : ck_H} {r : Option Value} {i : Fin 4} (hex : ck_i k m pc l st h (.aload_n i) = some (r, h')) (hz : gk h 1000000 = 22) (hg : gn h' ≤ 1000000) : ck_i k m pc l st (ck_xt L xs h) (.aload_n i) = some (r, ck_xt L xs h') ∧ gk h' 1000000 = 22 := by
  simp only [ck_i, ck_lda] at hex ⊢
  split at hex
  · exact hk _ _ _ _ _ _ _ hex hz hg
  · exact hk _ _ _ _ _ _ _ hex hz hg
  · cases hex
theorem ck_e_istore {L : Nat} {xs : Nat → Int32} {k : ck_K} (hk : ck_KX L xs k) (hs : ck_KS k) {m : ck_M} {pc : Nat} {l : ck_L} {st : List Value} {h h' : ck_H} {r : Option Value} {i : Nat} (hex : ck_i k m pc l st h (.istore i) = some (r, h')) (hz : gk h 1000000 = 22) (hg : gn h' ≤ 1000000) : ck_i k m pc l st (ck_xt L xs h) (.istore i) = some (r, ck_xt L xs h') ∧ gk h' 1000000 = 22 := by
  simp only [ck_i, ck_soi] at hex ⊢
  split at hex
  · skip
    unfold ck_sv at hex ⊢
    split at hex
    · exact hk _ _ _ _ _ _ _ hex hz hg
    · cases hex
  · cases hex
theorem ck_e_istore_n {L : Nat} {xs : Nat → Int32} {k : ck_K} (hk : ck_KX L xs k) (hs : ck_KS k) {m : ck_M} {pc : Nat} {l : ck_L} {st : List Value} {h h' : ck_H} {r : Option Value} {i : Fin 4} (hex : ck_i k m pc l st h (.istore_n i) = some (r, h')) (hz : gk h 1000000 = 22) (hg : gn h' ≤ 1000000) : ck_i k m pc l st (ck_xt L xs h) (.istore_n i) = some (r, ck_xt L xs h') ∧ gk h' 1000000 = 22 := by
  simp only [ck_i, ck_soi] at hex ⊢
  split at hex
  · skip
    unfold ck_sv at hex ⊢
    split at hex
    · exact hk _ _ _ _ _ _ _ hex hz hg
    · cases hex
  · cases hex
theorem ck_e_lstore {L : Nat} {xs : Nat → Int32} {k : ck_K} (hk : ck_KX L xs k) (hs : ck_KS k) {m : ck_M} {pc : Nat} {l : ck_L} {st : List Value} {h h' : ck_H} {r : Option Value} {i : Nat} (hex : ck_i k m pc l st h (.lstore i) = some (r, h')) (hz : gk h 1000000 = 22) (hg : gn h' ≤ 1000000) : ck_i k m pc l st (ck_xt L xs h) (.lstore i) = some (r, ck_xt L xs h') ∧ gk h' 1000000 = 22 := by
  simp only [ck_i, ck_sol] at hex ⊢
  split at hex
  · skip
    unfold ck_sv at hex ⊢
    split at hex
    · exact hk _ _ _ _ _ _ _ hex hz hg
    · cases hex
  · cases hex
theorem ck_e_astore {L : Nat} {xs : Nat → Int32} {k : ck_K} (hk : ck_KX L xs k) (hs : ck_KS k) {m : ck_M} {pc : Nat} {l : ck_L} {st : List Value} {h h' : ck_H} {r : Option Value} {i : Nat} (hex : ck_i k m pc l st h (.astore i) = some (r, h')) (hz : gk h 1000000 = 22) (hg : gn h' ≤ 1000000) : ck_i k m pc l st (ck_xt L xs h) (.astore i) = some (r, ck_xt L xs h') ∧ gk h' 1000000 = 22 := by
  simp only [ck_i, ck_soa] at hex ⊢
  split at hex
  · skip
    unfold ck_sv at hex ⊢
    split at hex
    · exact hk _ _ _ _ _ _ _ hex hz hg
    · cases hex
  · skip
    unfold ck_sv at hex ⊢
    split at hex
    · exact hk _ _ _ _ _ _ _ hex hz hg
    · cases hex
  · cases hex
theorem ck_e_astore_n {L : Nat} {xs : Nat → Int32} {k : ck_K} (hk : ck_KX L xs k) (hs : ck_KS k) {m : ck_M} {pc : Nat} {l : ck_L} {st : List Value} {h h' : ck_H} {r : Option Value} {i : Fin 4} (hex : ck_i k m pc l st h (.astore_n i) = some (r, h')) (hz : gk h 1000000 = 22) (hg : gn h' ≤ 1000000) : ck_i k m pc l st (ck_xt L xs h) (.astore_n i) = some (r, ck_xt L xs h') ∧ gk h' 1000000 = 22 := by
  simp only [ck_i, ck_soa] at hex ⊢
  split at hex
  · skip
    unfold ck_sv at hex ⊢
    split at hex
    · exact hk _ _ _ _ _ _ _ hex hz hg
    · cases hex
  · skip
    unfold ck_sv at hex ⊢
    split at hex
    · exact hk _ _ _ _ _ _ _ hex hz hg
    · cases hex
  · cases hex
theorem ck_e_iinc {L : Nat} {xs : Nat → Int32} {k : ck_K} (hk : ck_KX L xs k) (hs : ck_KS k) {m : ck_M} {pc : Nat} {l : ck_L} {st : List Value} {h h' : ck_H} {r : Option Value} {i : Nat} {z : Int} (hex : ck_i k m pc l st h (.iinc i z) = some (r, h')) (hz : gk h 1000000 = 22) (hg : gn h' ≤ 1000000) : ck_i k m pc l st (ck_xt L xs h) (.iinc i z) = some (r, ck_xt L xs h') ∧ gk h' 1000000 = 22 := by
  simp only [ck_i] at hex ⊢
  split at hex
  · skip
    unfold ck_sv at hex ⊢
    split at hex
    · exact hk _ _ _ _ _ _ _ hex hz hg
    · cases hex
  · cases hex
theorem ck_e_iadd {L : Nat} {xs : Nat → Int32} {k : ck_K} (hk : ck_KX L xs k) (hs : ck_KS k) {m : ck_M} {pc : Nat} {l : ck_L} {st : List Value} {h h' : ck_H} {r : Option Value} (hex : ck_i k m pc l st h (.iadd) = some (r, h')) (hz : gk h 1000000 = 22) (hg : gn h' ≤ 1000000) : ck_i k m pc l st (ck_xt L xs h) (.iadd) = some (r, ck_xt L xs h') ∧ gk h' 1000000 = 22 := by
  simp only [ck_i] at hex ⊢
  split at hex
  · exact hk _ _ _ _ _ _ _ hex hz hg
  · cases hex
theorem ck_e_isub {L : Nat} {xs : Nat → Int32} {k : ck_K} (hk : ck_KX L xs k) (hs : ck_KS k) {m : ck_M} {pc : Nat} {l : ck_L} {st : List Value} {h h' : ck_H} {r : Option Value} (hex : ck_i k m pc l st h (.isub) = some (r, h')) (hz : gk h 1000000 = 22) (hg : gn h' ≤ 1000000) : ck_i k m pc l st (ck_xt L xs h) (.isub) = some (r, ck_xt L xs h') ∧ gk h' 1000000 = 22 := by
  simp only [ck_i] at hex ⊢
  split at hex
  · exact hk _ _ _ _ _ _ _ hex hz hg
  · cases hex
theorem ck_e_imul {L : Nat} {xs : Nat → Int32} {k : ck_K} (hk : ck_KX L xs k) (hs : ck_KS k) {m : ck_M} {pc : Nat} {l : ck_L} {st : List Value} {h h' : ck_H} {r : Option Value} (hex : ck_i k m pc l st h (.imul) = some (r, h')) (hz : gk h 1000000 = 22) (hg : gn h' ≤ 1000000) : ck_i k m pc l st (ck_xt L xs h) (.imul) = some (r, ck_xt L xs h') ∧ gk h' 1000000 = 22 := by
  simp only [ck_i] at hex ⊢
  split at hex
  · exact hk _ _ _ _ _ _ _ hex hz hg
  · cases hex
theorem ck_e_iand {L : Nat} {xs : Nat → Int32} {k : ck_K} (hk : ck_KX L xs k) (hs : ck_KS k) {m : ck_M} {pc : Nat} {l : ck_L} {st : List Value} {h h' : ck_H} {r : Option Value} (hex : ck_i k m pc l st h (.iand) = some (r, h')) (hz : gk h 1000000 = 22) (hg : gn h' ≤ 1000000) : ck_i k m pc l st (ck_xt L xs h) (.iand) = some (r, ck_xt L xs h') ∧ gk h' 1000000 = 22 := by
  simp only [ck_i] at hex ⊢
  split at hex
  · exact hk _ _ _ _ _ _ _ hex hz hg
  · cases hex
theorem ck_e_ior {L : Nat} {xs : Nat → Int32} {k : ck_K} (hk : ck_KX L xs k) (hs : ck_KS k) {m : ck_M} {pc : Nat} {l : ck_L} {st : List Value} {h h' : ck_H} {r : Option Value} (hex : ck_i k m pc l st h (.ior) = some (r, h')) (hz : gk h 1000000 = 22) (hg : gn h' ≤ 1000000) : ck_i k m pc l st (ck_xt L xs h) (.ior) = some (r, ck_xt L xs h') ∧ gk h' 1000000 = 22 := by
  simp only [ck_i] at hex ⊢
  split at hex
  · exact hk _ _ _ _ _ _ _ hex hz hg
  · cases hex
theorem ck_e_ishl {L : Nat} {xs : Nat → Int32} {k : ck_K} (hk : ck_KX L xs k) (hs : ck_KS k) {m : ck_M} {pc : Nat} {l : ck_L} {st : List Value} {h h' : ck_H} {r : Option Value} (hex : ck_i k m pc l st h (.ishl) = some (r, h')) (hz : gk h 1000000 = 22) (hg : gn h' ≤ 1000000) : ck_i k m pc l st (ck_xt L xs h) (.ishl) = some (r, ck_xt L xs h') ∧ gk h' 1000000 = 22 := by
  simp only [ck_i] at hex ⊢
  split at hex
  · exact hk _ _ _ _ _ _ _ hex hz hg
  · cases hex
theorem ck_e_ishr {L : Nat} {xs : Nat → Int32} {k : ck_K} (hk : ck_KX L xs k) (hs : ck_KS k) {m : ck_M} {pc : Nat} {l : ck_L} {st : List Value} {h h' : ck_H} {r : Option Value} (hex : ck_i k m pc l st h (.ishr) = some (r, h')) (hz : gk h 1000000 = 22) (hg : gn h' ≤ 1000000) : ck_i k m pc l st (ck_xt L xs h) (.ishr) = some (r, ck_xt L xs h') ∧ gk h' 1000000 = 22 := by
  simp only [ck_i] at hex ⊢
  split at hex
  · exact hk _ _ _ _ _ _ _ hex hz hg
  · cases hex
theorem ck_e_ineg {L : Nat} {xs : Nat → Int32} {k : ck_K} (hk : ck_KX L xs k) (hs : ck_KS k) {m : ck_M} {pc : Nat} {l : ck_L} {st : List Value} {h h' : ck_H} {r : Option Value} (hex : ck_i k m pc l st h (.ineg) = some (r, h')) (hz : gk h 1000000 = 22) (hg : gn h' ≤ 1000000) : ck_i k m pc l st (ck_xt L xs h) (.ineg) = some (r, ck_xt L xs h') ∧ gk h' 1000000 = 22 := by
  simp only [ck_i] at hex ⊢
  split at hex
  · exact hk _ _ _ _ _ _ _ hex hz hg
  · cases hex
theorem ck_e_i2l {L : Nat} {xs : Nat → Int32} {k : ck_K} (hk : ck_KX L xs k) (hs : ck_KS k) {m : ck_M} {pc : Nat} {l : ck_L} {st : List Value} {h h' : ck_H} {r : Option Value} (hex : ck_i k m pc l st h (.i2l) = some (r, h')) (hz : gk h 1000000 = 22) (hg : gn h' ≤ 1000000) : ck_i k m pc l st (ck_xt L xs h) (.i2l) = some (r, ck_xt L xs h') ∧ gk h' 1000000 = 22 := by
  simp only [ck_i] at hex ⊢
  split at hex
  · exact hk _ _ _ _ _ _ _ hex hz hg
  · cases hex
theorem ck_e_l2i {L : Nat} {xs : Nat → Int32} {k : ck_K} (hk : ck_KX L xs k) (hs : ck_KS k) {m : ck_M} {pc : Nat} {l : ck_L} {st : List Value} {h h' : ck_H} {r : Option Value} (hex : ck_i k m pc l st h (.l2i) = some (r, h')) (hz : gk h 1000000 = 22) (hg : gn h' ≤ 1000000) : ck_i k m pc l st (ck_xt L xs h) (.l2i) = some (r, ck_xt L xs h') ∧ gk h' 1000000 = 22 := by
  simp only [ck_i] at hex ⊢
  split at hex
  · exact hk _ _ _ _ _ _ _ hex hz hg
  · cases hex
theorem ck_e_i2b {L : Nat} {xs : Nat → Int32} {k : ck_K} (hk : ck_KX L xs k) (hs : ck_KS k) {m : ck_M} {pc : Nat} {l : ck_L} {st : List Value} {h h' : ck_H} {r : Option Value} (hex : ck_i k m pc l st h (.i2b) = some (r, h')) (hz : gk h 1000000 = 22) (hg : gn h' ≤ 1000000) : ck_i k m pc l st (ck_xt L xs h) (.i2b) = some (r, ck_xt L xs h') ∧ gk h' 1000000 = 22 := by
  simp only [ck_i] at hex ⊢
  split at hex
  · exact hk _ _ _ _ _ _ _ hex hz hg
  · cases hex
theorem ck_e_ladd {L : Nat} {xs : Nat → Int32} {k : ck_K} (hk : ck_KX L xs k) (hs : ck_KS k) {m : ck_M} {pc : Nat} {l : ck_L} {st : List Value} {h h' : ck_H} {r : Option Value} (hex : ck_i k m pc l st h (.ladd) = some (r, h')) (hz : gk h 1000000 = 22) (hg : gn h' ≤ 1000000) : ck_i k m pc l st (ck_xt L xs h) (.ladd) = some (r, ck_xt L xs h') ∧ gk h' 1000000 = 22 := by
  simp only [ck_i] at hex ⊢
  split at hex
  · exact hk _ _ _ _ _ _ _ hex hz hg
  · cases hex
theorem ck_e_lsub {L : Nat} {xs : Nat → Int32} {k : ck_K} (hk : ck_KX L xs k) (hs : ck_KS k) {m : ck_M} {pc : Nat} {l : ck_L} {st : List Value} {h h' : ck_H} {r : Option Value} (hex : ck_i k m pc l st h (.lsub) = some (r, h')) (hz : gk h 1000000 = 22) (hg : gn h' ≤ 1000000) : ck_i k m pc l st (ck_xt L xs h) (.lsub) = some (r, ck_xt L xs h') ∧ gk h' 1000000 = 22 := by
  simp only [ck_i] at hex ⊢
  split at hex
  · exact hk _ _ _ _ _ _ _ hex hz hg
  · cases hex
theorem ck_e_lmul {L : Nat} {xs : Nat → Int32} {k : ck_K} (hk : ck_KX L xs k) (hs : ck_KS k) {m : ck_M} {pc : Nat} {l : ck_L} {st : List Value} {h h' : ck_H} {r : Option Value} (hex : ck_i k m pc l st h (.lmul) = some (r, h')) (hz : gk h 1000000 = 22) (hg : gn h' ≤ 1000000) : ck_i k m pc l st (ck_xt L xs h) (.lmul) = some (r, ck_xt L xs h') ∧ gk h' 1000000 = 22 := by
  simp only [ck_i] at hex ⊢
  split at hex
  · exact hk _ _ _ _ _ _ _ hex hz hg
  · cases hex
theorem ck_e_lxor {L : Nat} {xs : Nat → Int32} {k : ck_K} (hk : ck_KX L xs k) (hs : ck_KS k) {m : ck_M} {pc : Nat} {l : ck_L} {st : List Value} {h h' : ck_H} {r : Option Value} (hex : ck_i k m pc l st h (.lxor) = some (r, h')) (hz : gk h 1000000 = 22) (hg : gn h' ≤ 1000000) : ck_i k m pc l st (ck_xt L xs h) (.lxor) = some (r, ck_xt L xs h') ∧ gk h' 1000000 = 22 := by
  simp only [ck_i] at hex ⊢
  split at hex
  · exact hk _ _ _ _ _ _ _ hex hz hg
  · cases hex
theorem ck_e_lcmp {L : Nat} {xs : Nat → Int32} {k : ck_K} (hk : ck_KX L xs k) (hs : ck_KS k) {m : ck_M} {pc : Nat} {l : ck_L} {st : List Value} {h h' : ck_H} {r : Option Value} (hex : ck_i k m pc l st h (.lcmp) = some (r, h')) (hz : gk h 1000000 = 22) (hg : gn h' ≤ 1000000) : ck_i k m pc l st (ck_xt L xs h) (.lcmp) = some (r, ck_xt L xs h') ∧ gk h' 1000000 = 22 := by
  simp only [ck_i] at hex ⊢
  split at hex
  · exact hk _ _ _ _ _ _ _ hex hz hg
  · cases hex
theorem ck_e_idiv {L : Nat} {xs : Nat → Int32} {k : ck_K} (hk : ck_KX L xs k) (hs : ck_KS k) {m : ck_M} {pc : Nat} {l : ck_L} {st : List Value} {h h' : ck_H} {r : Option Value} (hex : ck_i k m pc l st h (.idiv) = some (r, h')) (hz : gk h 1000000 = 22) (hg : gn h' ≤ 1000000) : ck_i k m pc l st (ck_xt L xs h) (.idiv) = some (r, ck_xt L xs h') ∧ gk h' 1000000 = 22 := by
  simp only [ck_i] at hex ⊢
  split at hex
  · split at hex
    · rename_i hx
      simp only [if_pos hx]
      exact hk _ _ _ _ _ _ _ hex hz hg
    · cases hex
  · cases hex
theorem ck_e_irem {L : Nat} {xs : Nat → Int32} {k : ck_K} (hk : ck_KX L xs k) (hs : ck_KS k) {m : ck_M} {pc : Nat} {l : ck_L} {st : List Value} {h h' : ck_H} {r : Option Value} (hex : ck_i k m pc l st h (.irem) = some (r, h')) (hz : gk h 1000000 = 22) (hg : gn h' ≤ 1000000) : ck_i k m pc l st (ck_xt L xs h) (.irem) = some (r, ck_xt L xs h') ∧ gk h' 1000000 = 22 := by
  simp only [ck_i] at hex ⊢
  split at hex
  · split at hex
    · rename_i hx
      simp only [if_pos hx]
      exact hk _ _ _ _ _ _ _ hex hz hg
    · cases hex
  · cases hex
theorem ck_e_lrem {L : Nat} {xs : Nat → Int32} {k : ck_K} (hk : ck_KX L xs k) (hs : ck_KS k) {m : ck_M} {pc : Nat} {l : ck_L} {st : List Value} {h h' : ck_H} {r : Option Value} (hex : ck_i k m pc l st h (.lrem) = some (r, h')) (hz : gk h 1000000 = 22) (hg : gn h' ≤ 1000000) : ck_i k m pc l st (ck_xt L xs h) (.lrem) = some (r, ck_xt L xs h') ∧ gk h' 1000000 = 22 := by
  simp only [ck_i] at hex ⊢
  split at hex
  · split at hex
    · rename_i hx
      simp only [if_pos hx]
      exact hk _ _ _ _ _ _ _ hex hz hg
    · cases hex
  · cases hex
theorem ck_e_dup {L : Nat} {xs : Nat → Int32} {k : ck_K} (hk : ck_KX L xs k) (hs : ck_KS k) {m : ck_M} {pc : Nat} {l : ck_L} {st : List Value} {h h' : ck_H} {r : Option Value} (hex : ck_i k m pc l st h (.dup) = some (r, h')) (hz : gk h 1000000 = 22) (hg : gn h' ≤ 1000000) : ck_i k m pc l st (ck_xt L xs h) (.dup) = some (r, ck_xt L xs h') ∧ gk h' 1000000 = 22 := by
  simp only [ck_i] at hex ⊢
  split at hex
  · split at hex
    · rename_i hx
      simp only [if_pos hx]
      exact hk _ _ _ _ _ _ _ hex hz hg
    · cases hex
  · cases hex
theorem ck_e_dup2 {L : Nat} {xs : Nat → Int32} {k : ck_K} (hk : ck_KX L xs k) (hs : ck_KS k) {m : ck_M} {pc : Nat} {l : ck_L} {st : List Value} {h h' : ck_H} {r : Option Value} (hex : ck_i k m pc l st h (.dup2) = some (r, h')) (hz : gk h 1000000 = 22) (hg : gn h' ≤ 1000000) : ck_i k m pc l st (ck_xt L xs h) (.dup2) = some (r, ck_xt L xs h') ∧ gk h' 1000000 = 22 := by
  simp only [ck_i] at hex ⊢
  split at hex
  · split at hex
    · rename_i hx
      simp only [if_pos hx]
      exact hk _ _ _ _ _ _ _ hex hz hg
    · cases hex
  · cases hex
theorem ck_e_jmp {L : Nat} {xs : Nat → Int32} {k : ck_K} (hk : ck_KX L xs k) {m : ck_M} {pc : Nat} {off : Int} {l : ck_L} {st : List Value} {h h' : ck_H} {r : Option Value} (hex : ck_jmp k m pc off l st h = some (r, h')) (hz : gk h 1000000 = 22) (hg : gn h' ≤ 1000000) : ck_jmp k m pc off l st (ck_xt L xs h) = some (r, ck_xt L xs h') ∧ gk h' 1000000 = 22 := by
  unfold ck_jmp at hex ⊢
  split at hex
  · exact hk _ _ _ _ _ _ _ hex hz hg
  · cases hex
theorem ck_e_b1 {L : Nat} {xs : Nat → Int32} {k : ck_K} (hk : ck_KX L xs k) {m : ck_M} {pc : Nat} {off : Int} {l : ck_L} {st : List Value} {h h' : ck_H} {r : Option Value} {c : Prop} [Decidable c] (hex : ck_b1 k m pc off l st h c = some (r, h')) (hz : gk h 1000000 = 22) (hg : gn h' ≤ 1000000) : ck_b1 k m pc off l st (ck_xt L xs h) c = some (r, ck_xt L xs h') ∧ gk h' 1000000 = 22 := by
  unfold ck_b1 at hex ⊢
  split at hex
  · split at hex
    · rename_i hc
      simp only [if_pos hc]
      exact hk _ _ _ _ _ _ _ hex hz hg
    · rename_i hc
      simp only [if_neg hc]
      exact hk _ _ _ _ _ _ _ hex hz hg
  · cases hex
theorem ck_e_goto {L : Nat} {xs : Nat → Int32} {k : ck_K} (hk : ck_KX L xs k) (hs : ck_KS k) {m : ck_M} {pc : Nat} {l : ck_L} {st : List Value} {h h' : ck_H} {r : Option Value} {off : Int} (hex : ck_i k m pc l st h (.goto off) = some (r, h')) (hz : gk h 1000000 = 22) (hg : gn h' ≤ 1000000) : ck_i k m pc l st (ck_xt L xs h) (.goto off) = some (r, ck_xt L xs h') ∧ gk h' 1000000 = 22 := by
  simp only [ck_i] at hex ⊢
  exact ck_e_jmp hk hex hz hg
theorem ck_e_ifCond {L : Nat} {xs : Nat → Int32} {k : ck_K} (hk : ck_KX L xs k) (hs : ck_KS k) {m : ck_M} {pc : Nat} {l : ck_L} {st : List Value} {h h' : ck_H} {r : Option Value} {c : ClassFile.Cond} {off : Int} (hex : ck_i k m pc l st h (.ifCond c off) = some (r, h')) (hz : gk h 1000000 = 22) (hg : gn h' ≤ 1000000) : ck_i k m pc l st (ck_xt L xs h) (.ifCond c off) = some (r, ck_xt L xs h') ∧ gk h' 1000000 = 22 := by
  simp only [ck_i] at hex ⊢
  split at hex
  · cases c <;> exact ck_e_b1 hk hex hz hg
  · cases hex
theorem ck_e_if_icmp {L : Nat} {xs : Nat → Int32} {k : ck_K} (hk : ck_KX L xs k) (hs : ck_KS k) {m : ck_M} {pc : Nat} {l : ck_L} {st : List Value} {h h' : ck_H} {r : Option Value} {c : ClassFile.Cond} {off : Int} (hex : ck_i k m pc l st h (.if_icmp c off) = some (r, h')) (hz : gk h 1000000 = 22) (hg : gn h' ≤ 1000000) : ck_i k m pc l st (ck_xt L xs h) (.if_icmp c off) = some (r, ck_xt L xs h') ∧ gk h' 1000000 = 22 := by
  simp only [ck_i] at hex ⊢
  split at hex
  · cases c <;> exact ck_e_b1 hk hex hz hg
  · cases hex
theorem ck_e_ifnull {L : Nat} {xs : Nat → Int32} {k : ck_K} (hk : ck_KX L xs k) (hs : ck_KS k) {m : ck_M} {pc : Nat} {l : ck_L} {st : List Value} {h h' : ck_H} {r : Option Value} {off : Int} (hex : ck_i k m pc l st h (.ifnull off) = some (r, h')) (hz : gk h 1000000 = 22) (hg : gn h' ≤ 1000000) : ck_i k m pc l st (ck_xt L xs h) (.ifnull off) = some (r, ck_xt L xs h') ∧ gk h' 1000000 = 22 := by
  simp only [ck_i] at hex ⊢
  split at hex
  · exact ck_e_jmp hk hex hz hg
  · exact hk _ _ _ _ _ _ _ hex hz hg
  · cases hex
theorem ck_e_ifnonnull {L : Nat} {xs : Nat → Int32} {k : ck_K} (hk : ck_KX L xs k) (hs : ck_KS k) {m : ck_M} {pc : Nat} {l : ck_L} {st : List Value} {h h' : ck_H} {r : Option Value} {off : Int} (hex : ck_i k m pc l st h (.ifnonnull off) = some (r, h')) (hz : gk h 1000000 = 22) (hg : gn h' ≤ 1000000) : ck_i k m pc l st (ck_xt L xs h) (.ifnonnull off) = some (r, ck_xt L xs h') ∧ gk h' 1000000 = 22 := by
  simp only [ck_i] at hex ⊢
  split at hex
  · exact hk _ _ _ _ _ _ _ hex hz hg
  · exact ck_e_jmp hk hex hz hg
  · cases hex
theorem ck_e_tableswitch {L : Nat} {xs : Nat → Int32} {k : ck_K} (hk : ck_KX L xs k) (hs : ck_KS k) {m : ck_M} {pc : Nat} {l : ck_L} {st : List Value} {h h' : ck_H} {r : Option Value} {d lo hi : Int} {offs : Array Int} (hex : ck_i k m pc l st h (.tableswitch d lo hi offs) = some (r, h')) (hz : gk h 1000000 = 22) (hg : gn h' ≤ 1000000) : ck_i k m pc l st (ck_xt L xs h) (.tableswitch d lo hi offs) = some (r, ck_xt L xs h') ∧ gk h' 1000000 = 22 := by
  simp only [ck_i] at hex ⊢
  split at hex
  · split at hex
    · rename_i hx
      simp only [if_pos hx]
      exact ck_e_jmp hk hex hz hg
    · rename_i hx
      simp only [if_neg hx]
      split at hex
      · exact ck_e_jmp hk hex hz hg
      · cases hex
  · cases hex
theorem ck_e_lookupswitch {L : Nat} {xs : Nat → Int32} {k : ck_K} (hk : ck_KX L xs k) (hs : ck_KS k) {m : ck_M} {pc : Nat} {l : ck_L} {st : List Value} {h h' : ck_H} {r : Option Value} {d : Int} {ps : Array (Int × Int)} (hex : ck_i k m pc l st h (.lookupswitch d ps) = some (r, h')) (hz : gk h 1000000 = 22) (hg : gn h' ≤ 1000000) : ck_i k m pc l st (ck_xt L xs h) (.lookupswitch d ps) = some (r, ck_xt L xs h') ∧ gk h' 1000000 = 22 := by
  simp only [ck_i] at hex ⊢
  split at hex
  · split at hex
    · rename_i hx
      simp only [if_pos hx]
      exact ck_e_jmp hk hex hz hg
    · cases hex
  · cases hex
theorem ck_e_getfield {L : Nat} {xs : Nat → Int32} {k : ck_K} (hk : ck_KX L xs k) (hs : ck_KS k) {m : ck_M} {pc : Nat} {l : ck_L} {st : List Value} {h h' : ck_H} {r : Option Value} {ix : Nat} (hex : ck_i k m pc l st h (.getfield ix) = some (r, h')) (hz : gk h 1000000 = 22) (hg : gn h' ≤ 1000000) : ck_i k m pc l st (ck_xt L xs h) (.getfield ix) = some (r, ck_xt L xs h') ∧ gk h' 1000000 = 22 := by
  simp only [ck_i] at hex ⊢
  split at hex
  · rename_i a rr
    split at hex
    · rename_i c i ne hf
      split at hex
      · rename_i hx
        have ha : a ≠ 1000000 := fun q => by subst q; omega
        have e1 : gk (ck_xt L xs h) a = c ∧ c < 13 ∧ i < ck_N c := ⟨by rw [gk_xt, if_neg ha]; exact hx.1, hx.2⟩
        simp only [if_pos e1, ck_fv_xt ha]
        exact hk _ _ _ _ _ _ _ hex hz hg
      · cases hex
    · cases hex
  · cases hex
theorem ck_e_putfield {L : Nat} {xs : Nat → Int32} {k : ck_K} (hk : ck_KX L xs k) (hs : ck_KS k) {m : ck_M} {pc : Nat} {l : ck_L} {st : List Value} {h h' : ck_H} {r : Option Value} {ix : Nat} (hex : ck_i k m pc l st h (.putfield ix) = some (r, h')) (hz : gk h 1000000 = 22) (hg : gn h' ≤ 1000000) : ck_i k m pc l st (ck_xt L xs h) (.putfield ix) = some (r, ck_xt L xs h') ∧ gk h' 1000000 = 22 := by
  simp only [ck_i] at hex ⊢
  split at hex
  · rename_i v a rr
    split at hex
    · rename_i c i hf
      split at hex
      · rename_i hx
        split at hex
        · rename_i h1 hput
          have ha : a ≠ 1000000 := fun q => by subst q; omega
          obtain ⟨e2, e3⟩ := ck_put_xt (L := L) (xs := xs) ha hput
          have e1 : gk (ck_xt L xs h) a = c ∧ c < 13 ∧ i < ck_N c ∧ (ck_fin c i = false ∨ ((ck_nm m).name = "<init>" ∧ c = ck_ow m)) := ⟨by rw [gk_xt, if_neg ha]; exact hx.1, hx.2⟩
          simp only [if_pos e1, e2]
          exact hk _ _ _ _ _ _ _ hex (by rw [e3]; exact hz) hg
        · cases hex
      · cases hex
    · cases hex
  · cases hex
theorem ck_e_iaload {L : Nat} {xs : Nat → Int32} {k : ck_K} (hk : ck_KX L xs k) (hs : ck_KS k) {m : ck_M} {pc : Nat} {l : ck_L} {st : List Value} {h h' : ck_H} {r : Option Value} (hex : ck_i k m pc l st h (.iaload) = some (r, h')) (hz : gk h 1000000 = 22) (hg : gn h' ≤ 1000000) : ck_i k m pc l st (ck_xt L xs h) (.iaload) = some (r, ck_xt L xs h') ∧ gk h' 1000000 = 22 := by
  simp only [ck_i] at hex ⊢
  split at hex
  · rename_i j a rr
    split at hex
    · rename_i hx
      have ha : a ≠ 1000000 := fun q => by subst q; omega
      have e1 : (gk (ck_xt L xs h) a = 14 ∨ gk (ck_xt L xs h) a = 21) ∧ ¬ j < 0 ∧ j.toNatClampNeg < gz (ck_xt L xs h) a := by rw [gk_xt, gz_xt, if_neg ha, if_neg ha]; exact hx
      rw [if_pos e1]
      simp only [gI_xt, if_neg ha]
      exact hk _ _ _ _ _ _ _ hex hz hg
    · cases hex
  · cases hex
theorem ck_e_baload {L : Nat} {xs : Nat → Int32} {k : ck_K} (hk : ck_KX L xs k) (hs : ck_KS k) {m : ck_M} {pc : Nat} {l : ck_L} {st : List Value} {h h' : ck_H} {r : Option Value} (hex : ck_i k m pc l st h (.baload) = some (r, h')) (hz : gk h 1000000 = 22) (hg : gn h' ≤ 1000000) : ck_i k m pc l st (ck_xt L xs h) (.baload) = some (r, ck_xt L xs h') ∧ gk h' 1000000 = 22 := by
  simp only [ck_i] at hex ⊢
  split at hex
  · rename_i j a rr
    split at hex
    · rename_i hx
      have ha : a ≠ 1000000 := fun q => by subst q; omega
      have e1 : (gk (ck_xt L xs h) a = 13 ∨ gk (ck_xt L xs h) a = 15) ∧ ¬ j < 0 ∧ j.toNatClampNeg < gz (ck_xt L xs h) a := by rw [gk_xt, gz_xt, if_neg ha, if_neg ha]; exact hx
      rw [if_pos e1]
      simp only [gI_xt, if_neg ha]
      exact hk _ _ _ _ _ _ _ hex hz hg
    · cases hex
  · cases hex
theorem ck_e_aaload {L : Nat} {xs : Nat → Int32} {k : ck_K} (hk : ck_KX L xs k) (hs : ck_KS k) {m : ck_M} {pc : Nat} {l : ck_L} {st : List Value} {h h' : ck_H} {r : Option Value} (hex : ck_i k m pc l st h (.aaload) = some (r, h')) (hz : gk h 1000000 = 22) (hg : gn h' ≤ 1000000) : ck_i k m pc l st (ck_xt L xs h) (.aaload) = some (r, ck_xt L xs h') ∧ gk h' 1000000 = 22 := by
  simp only [ck_i] at hex ⊢
  split at hex
  · rename_i j a rr
    split at hex
    · rename_i hx
      have ha : a ≠ 1000000 := fun q => by subst q; omega
      have e1 : (16 ≤ gk (ck_xt L xs h) a ∧ gk (ck_xt L xs h) a ≤ 20) ∧ ¬ j < 0 ∧ j.toNatClampNeg < gz (ck_xt L xs h) a := by rw [gk_xt, gz_xt, if_neg ha, if_neg ha]; exact hx
      rw [if_pos e1]
      simp only [gR_xt]
      exact hk _ _ _ _ _ _ _ hex hz hg
    · cases hex
  · cases hex
theorem ck_e_iastore {L : Nat} {xs : Nat → Int32} {k : ck_K} (hk : ck_KX L xs k) (hs : ck_KS k) {m : ck_M} {pc : Nat} {l : ck_L} {st : List Value} {h h' : ck_H} {r : Option Value} (hex : ck_i k m pc l st h (.iastore) = some (r, h')) (hz : gk h 1000000 = 22) (hg : gn h' ≤ 1000000) : ck_i k m pc l st (ck_xt L xs h) (.iastore) = some (r, ck_xt L xs h') ∧ gk h' 1000000 = 22 := by
  simp only [ck_i] at hex ⊢
  split at hex
  · rename_i x j a rr
    split at hex
    · rename_i hx
      have ha : a ≠ 1000000 := fun q => by subst q; omega
      have e1 : gk (ck_xt L xs h) a = 14 ∧ ¬ j < 0 ∧ j.toNatClampNeg < gz (ck_xt L xs h) a := by rw [gk_xt, gz_xt, if_neg ha, if_neg ha]; exact hx
      rw [if_pos e1, ck_xt_wI ha]
      exact hk _ _ _ _ _ _ _ hex hz hg
    · cases hex
  · cases hex
theorem ck_e_bastore {L : Nat} {xs : Nat → Int32} {k : ck_K} (hk : ck_KX L xs k) (hs : ck_KS k) {m : ck_M} {pc : Nat} {l : ck_L} {st : List Value} {h h' : ck_H} {r : Option Value} (hex : ck_i k m pc l st h (.bastore) = some (r, h')) (hz : gk h 1000000 = 22) (hg : gn h' ≤ 1000000) : ck_i k m pc l st (ck_xt L xs h) (.bastore) = some (r, ck_xt L xs h') ∧ gk h' 1000000 = 22 := by
  simp only [ck_i] at hex ⊢
  split at hex
  · rename_i x j a rr
    split at hex
    · rename_i hx
      have ha : a ≠ 1000000 := fun q => by subst q; omega
      have e1 : gk (ck_xt L xs h) a = 13 ∧ ¬ j < 0 ∧ j.toNatClampNeg < gz (ck_xt L xs h) a := by rw [gk_xt, gz_xt, if_neg ha, if_neg ha]; exact hx
      rw [if_pos e1, ck_xt_wI ha]
      exact hk _ _ _ _ _ _ _ hex hz hg
    · rename_i hx
      split at hex
      · rename_i hy
        have ha : a ≠ 1000000 := fun q => by subst q; omega
        have e0 : ¬ (gk (ck_xt L xs h) a = 13 ∧ ¬ j < 0 ∧ j.toNatClampNeg < gz (ck_xt L xs h) a) := by rw [gk_xt, gz_xt, if_neg ha, if_neg ha]; exact hx
        have e1 : gk (ck_xt L xs h) a = 15 ∧ (x = 0 ∨ x = 1) ∧ ¬ j < 0 ∧ j.toNatClampNeg < gz (ck_xt L xs h) a := by rw [gk_xt, gz_xt, if_neg ha, if_neg ha]; exact hy
        rw [if_neg e0, if_pos e1, ck_xt_wI ha]
        exact hk _ _ _ _ _ _ _ hex hz hg
      · cases hex
  · cases hex
theorem ck_e_aastore {L : Nat} {xs : Nat → Int32} {k : ck_K} (hk : ck_KX L xs k) (hs : ck_KS k) {m : ck_M} {pc : Nat} {l : ck_L} {st : List Value} {h h' : ck_H} {r : Option Value} (hex : ck_i k m pc l st h (.aastore) = some (r, h')) (hz : gk h 1000000 = 22) (hg : gn h' ≤ 1000000) : ck_i k m pc l st (ck_xt L xs h) (.aastore) = some (r, ck_xt L xs h') ∧ gk h' 1000000 = 22 := by
  simp only [ck_i] at hex ⊢
  split at hex
  · rename_i v j a rr
    split at hex
    · rename_i hx
      have hv : v ≠ 1000000 := fun q => by subst q; omega
      have ha : a ≠ 1000000 := fun q => by
        subst q
        have h2 := hx.2.1
        rw [hz] at h2
        cases h2
      have e1 : gk (ck_xt L xs h) v < 13 ∧ ck_ka (gk (ck_xt L xs h) a) = some (gk (ck_xt L xs h) v) ∧ ¬ j < 0 ∧ j.toNatClampNeg < gz (ck_xt L xs h) a := by rw [gk_xt, gk_xt, gz_xt, if_neg ha, if_neg hv, if_neg ha]; exact hx
      rw [if_pos e1, ck_xt_wR]
      exact hk _ _ _ _ _ _ _ hex hz hg
    · cases hex
  · cases hex
theorem ck_e_arraylength {L : Nat} {xs : Nat → Int32} {k : ck_K} (hk : ck_KX L xs k) (hs : ck_KS k) {m : ck_M} {pc : Nat} {l : ck_L} {st : List Value} {h h' : ck_H} {r : Option Value} (hex : ck_i k m pc l st h (.arraylength) = some (r, h')) (hz : gk h 1000000 = 22) (hg : gn h' ≤ 1000000) : ck_i k m pc l st (ck_xt L xs h) (.arraylength) = some (r, ck_xt L xs h') ∧ gk h' 1000000 = 22 := by
  simp only [ck_i] at hex ⊢
  split at hex
  · rename_i a rr
    split at hex
    · rename_i hx
      have ha : a ≠ 1000000 := fun q => by subst q; omega
      have e1 : 13 ≤ gk (ck_xt L xs h) a ∧ gk (ck_xt L xs h) a ≤ 21 := by rw [gk_xt, if_neg ha]; exact hx
      rw [if_pos e1, gz_xt, if_neg ha]
      exact hk _ _ _ _ _ _ _ hex hz hg
    · cases hex
  · cases hex
theorem ck_e_new {L : Nat} {xs : Nat → Int32} {k : ck_K} (hk : ck_KX L xs k) (hs : ck_KS k) {m : ck_M} {pc : Nat} {l : ck_L} {st : List Value} {h h' : ck_H} {r : Option Value} {ix : Nat} (hex : ck_i k m pc l st h (.new ix) = some (r, h')) (hz : gk h 1000000 = 22) (hg : gn h' ≤ 1000000) : ck_i k m pc l st (ck_xt L xs h) (.new ix) = some (r, ck_xt L xs h') ∧ gk h' 1000000 = 22 := by
  simp only [ck_i] at hex ⊢
  split at hex
  · split at hex
    · rename_i hx
      rw [if_pos hx]
      have hm := (hs _ _ _ _ _ _ _ hex).1
      rw [gn_wN] at hm
      have hne : gn h ≠ 1000000 := by omega
      rw [gn_xt, ck_xt_wN hne]
      exact hk _ _ _ _ _ _ _ hex (by rw [gk_wN, if_neg (Ne.symm hne)]; exact hz) hg
    · cases hex
  · cases hex
theorem ck_e_newarray {L : Nat} {xs : Nat → Int32} {k : ck_K} (hk : ck_KX L xs k) (hs : ck_KS k) {m : ck_M} {pc : Nat} {l : ck_L} {st : List Value} {h h' : ck_H} {r : Option Value} {t : ArrayType} (hex : ck_i k m pc l st h (.newarray t) = some (r, h')) (hz : gk h 1000000 = 22) (hg : gn h' ≤ 1000000) : ck_i k m pc l st (ck_xt L xs h) (.newarray t) = some (r, ck_xt L xs h') ∧ gk h' 1000000 = 22 := by
  simp only [ck_i] at hex ⊢
  split at hex
  · rename_i hc
    split at hex
    · rename_i hx
      simp only [hc, if_pos hx]
      have hm := (hs _ _ _ _ _ _ _ hex).1
      rw [gn_wN] at hm
      have hne : gn h ≠ 1000000 := by omega
      rw [gn_xt, ck_xt_wN hne]
      exact hk _ _ _ _ _ _ _ hex (by rw [gk_wN, if_neg (Ne.symm hne)]; exact hz) hg
    · cases hex
  · cases hex
theorem ck_e_anewarray {L : Nat} {xs : Nat → Int32} {k : ck_K} (hk : ck_KX L xs k) (hs : ck_KS k) {m : ck_M} {pc : Nat} {l : ck_L} {st : List Value} {h h' : ck_H} {r : Option Value} {ix : Nat} (hex : ck_i k m pc l st h (.anewarray ix) = some (r, h')) (hz : gk h 1000000 = 22) (hg : gn h' ≤ 1000000) : ck_i k m pc l st (ck_xt L xs h) (.anewarray ix) = some (r, ck_xt L xs h') ∧ gk h' 1000000 = 22 := by
  simp only [ck_i] at hex ⊢
  split at hex
  · rename_i hc
    split at hex
    · rename_i hx
      simp only [hc, if_pos hx]
      have hm := (hs _ _ _ _ _ _ _ hex).1
      rw [gn_wN] at hm
      have hne : gn h ≠ 1000000 := by omega
      rw [gn_xt, ck_xt_wN hne]
      exact hk _ _ _ _ _ _ _ hex (by rw [gk_wN, if_neg (Ne.symm hne)]; exact hz) hg
    · cases hex
  · cases hex
theorem ck_e_call {L : Nat} {xs : Nat → Int32} {k : ck_K} (hk : ck_KX L xs k) (hs : ck_KS k) {m y : ck_M} {pc : Nat} {l : ck_L} {As rest : List Value} {h h' : ck_H} {r : Option Value} (hex : ck_call k m pc l h y As rest = some (r, h')) (hz : gk h 1000000 = 22) (hg : gn h' ≤ 1000000) : ck_call k m pc l (ck_xt L xs h) y As rest = some (r, ck_xt L xs h') ∧ gk h' 1000000 = 22 := by
  unfold ck_call at hex ⊢
  split at hex
  · rename_i hx
    rw [if_pos hx]
    split at hex
    · rename_i r1 h1 hy
      have hm := (hs _ _ _ _ _ _ _ hex).1
      obtain ⟨e1, e2⟩ := hk _ _ _ _ _ _ _ hy hz (by omega)
      rw [e1]
      exact hk _ _ _ _ _ _ _ hex e2 hg
    · cases hex
  · cases hex
theorem ck_e_inv {L : Nat} {xs : Nat → Int32} {k : ck_K} (hk : ck_KX L xs k) (hs : ck_KS k) {m : ck_M} {pc how : Nat} {e : Nat × Nat × ck_M} {l : ck_L} {st : List Value} {h h' : ck_H} {r : Option Value} (hex : ck_inv k m pc l st h e how = some (r, h')) (hz : gk h 1000000 = 22) (hg : gn h' ≤ 1000000) : ck_inv k m pc l st (ck_xt L xs h) e how = some (r, ck_xt L xs h') ∧ gk h' 1000000 = 22 := by
  unfold ck_inv at hex ⊢
  split at hex
  · split at hex
    · rename_i hx
      rw [if_pos hx]
      split at hex
      · rename_i b0 rest hd
        split at hex
        · rename_i hy
          have ha : b0 ≠ 1000000 := fun q => by subst q; omega
          have e1 : gk (ck_xt L xs h) b0 = ck_ow e.2.2 ∧ ck_ow e.2.2 < 13 := ⟨by rw [gk_xt, if_neg ha]; exact hy.1, hy.2⟩
          simp only [if_pos e1]
          exact ck_e_call hk hs hex hz hg
        · cases hex
      · cases hex
    · cases hex
  · split at hex
    · rename_i hx
      rw [if_pos hx]
      exact ck_e_call hk hs hex hz hg
    · cases hex
  · split at hex
    · rename_i z dp a sp a0 rest
      split at hex
      · rename_i hx
        have ha : a ≠ 1000000 := fun q => by subst q; omega
        have h0 : a0 ≠ 1000000 := fun q => by subst q; omega
        have e1 : gk (ck_xt L xs h) a0 = gk (ck_xt L xs h) a ∧ (gk (ck_xt L xs h) a = 13 ∨ gk (ck_xt L xs h) a = 14) ∧ ¬ sp < 0 ∧ ¬ dp < 0 ∧ ¬ z < 0 ∧ sp.toNatClampNeg + z.toNatClampNeg ≤ gz (ck_xt L xs h) a0 ∧ dp.toNatClampNeg + z.toNatClampNeg ≤ gz (ck_xt L xs h) a ∧ 1 ≤ ck_fr m ∧ ck_sum rest + 18 ≤ ck_lo m := by
          rw [gk_xt, gk_xt, gz_xt, gz_xt, if_neg ha, if_neg h0, if_neg ha, if_neg h0]; exact hx
        rw [if_pos e1, ck_xt_wC h0 ha]
        exact hk _ _ _ _ _ _ _ hex hz hg
      · cases hex
    · cases hex
  · split at hex
    · split at hex
      · rename_i hx
        rw [if_pos hx]
        exact hk _ _ _ _ _ _ _ hex hz hg
      · cases hex
    · cases hex
  · split at hex
    · rename_i hx
      rw [if_pos hx]
      split at hex
      · exact ck_e_call hk hs hex hz hg
      · cases hex
    · cases hex
  · split at hex
    · rename_i hx
      rw [if_pos hx]
      split at hex
      · exact ck_e_call hk hs hex hz hg
      · cases hex
    · cases hex
  · cases hex
theorem ck_e_invokevirtual {L : Nat} {xs : Nat → Int32} {k : ck_K} (hk : ck_KX L xs k) (hs : ck_KS k) {m : ck_M} {pc : Nat} {l : ck_L} {st : List Value} {h h' : ck_H} {r : Option Value} {ix : Nat} (hex : ck_i k m pc l st h (.invokevirtual ix) = some (r, h')) (hz : gk h 1000000 = 22) (hg : gn h' ≤ 1000000) : ck_i k m pc l st (ck_xt L xs h) (.invokevirtual ix) = some (r, ck_xt L xs h') ∧ gk h' 1000000 = 22 := by
  simp only [ck_i] at hex ⊢
  split at hex
  · exact ck_e_inv hk hs hex hz hg
  · cases hex
theorem ck_e_invokestatic {L : Nat} {xs : Nat → Int32} {k : ck_K} (hk : ck_KX L xs k) (hs : ck_KS k) {m : ck_M} {pc : Nat} {l : ck_L} {st : List Value} {h h' : ck_H} {r : Option Value} {ix : Nat} (hex : ck_i k m pc l st h (.invokestatic ix) = some (r, h')) (hz : gk h 1000000 = 22) (hg : gn h' ≤ 1000000) : ck_i k m pc l st (ck_xt L xs h) (.invokestatic ix) = some (r, ck_xt L xs h') ∧ gk h' 1000000 = 22 := by
  simp only [ck_i] at hex ⊢
  split at hex
  · exact ck_e_inv hk hs hex hz hg
  · cases hex
theorem ck_e_invokespecial {L : Nat} {xs : Nat → Int32} {k : ck_K} (hk : ck_KX L xs k) (hs : ck_KS k) {m : ck_M} {pc : Nat} {l : ck_L} {st : List Value} {h h' : ck_H} {r : Option Value} {ix : Nat} (hex : ck_i k m pc l st h (.invokespecial ix) = some (r, h')) (hz : gk h 1000000 = 22) (hg : gn h' ≤ 1000000) : ck_i k m pc l st (ck_xt L xs h) (.invokespecial ix) = some (r, ck_xt L xs h') ∧ gk h' 1000000 = 22 := by
  simp only [ck_i] at hex ⊢
  split at hex
  · exact ck_e_inv hk hs hex hz hg
  · cases hex
theorem ck_e_ireturn {L : Nat} {xs : Nat → Int32} {k : ck_K} (hk : ck_KX L xs k) (hs : ck_KS k) {m : ck_M} {pc : Nat} {l : ck_L} {st : List Value} {h h' : ck_H} {r : Option Value} (hex : ck_i k m pc l st h (.ireturn) = some (r, h')) (hz : gk h 1000000 = 22) (hg : gn h' ≤ 1000000) : ck_i k m pc l st (ck_xt L xs h) (.ireturn) = some (r, ck_xt L xs h') ∧ gk h' 1000000 = 22 := by
  simp only [ck_i] at hex ⊢
  obtain ⟨r1, h1, h2⟩ := Option.map_eq_some_iff.mp hex
  cases h2
  exact ⟨by rw [h1]; rfl, hz⟩
theorem ck_e_lreturn {L : Nat} {xs : Nat → Int32} {k : ck_K} (hk : ck_KX L xs k) (hs : ck_KS k) {m : ck_M} {pc : Nat} {l : ck_L} {st : List Value} {h h' : ck_H} {r : Option Value} (hex : ck_i k m pc l st h (.lreturn) = some (r, h')) (hz : gk h 1000000 = 22) (hg : gn h' ≤ 1000000) : ck_i k m pc l st (ck_xt L xs h) (.lreturn) = some (r, ck_xt L xs h') ∧ gk h' 1000000 = 22 := by
  simp only [ck_i] at hex ⊢
  obtain ⟨r1, h1, h2⟩ := Option.map_eq_some_iff.mp hex
  cases h2
  exact ⟨by rw [h1]; rfl, hz⟩
theorem ck_e_areturn {L : Nat} {xs : Nat → Int32} {k : ck_K} (hk : ck_KX L xs k) (hs : ck_KS k) {m : ck_M} {pc : Nat} {l : ck_L} {st : List Value} {h h' : ck_H} {r : Option Value} (hex : ck_i k m pc l st h (.areturn) = some (r, h')) (hz : gk h 1000000 = 22) (hg : gn h' ≤ 1000000) : ck_i k m pc l st (ck_xt L xs h) (.areturn) = some (r, ck_xt L xs h') ∧ gk h' 1000000 = 22 := by
  simp only [ck_i] at hex ⊢
  obtain ⟨r1, h1, h2⟩ := Option.map_eq_some_iff.mp hex
  cases h2
  exact ⟨by rw [h1]; rfl, hz⟩
theorem ck_e_return_ {L : Nat} {xs : Nat → Int32} {k : ck_K} (hk : ck_KX L xs k) (hs : ck_KS k) {m : ck_M} {pc : Nat} {l : ck_L} {st : List Value} {h h' : ck_H} {r : Option Value} (hex : ck_i k m pc l st h (.return_) = some (r, h')) (hz : gk h 1000000 = 22) (hg : gn h' ≤ 1000000) : ck_i k m pc l st (ck_xt L xs h) (.return_) = some (r, ck_xt L xs h') ∧ gk h' 1000000 = 22 := by
  simp only [ck_i] at hex ⊢
  obtain ⟨r1, h1, h2⟩ := Option.map_eq_some_iff.mp hex
  cases h2
  exact ⟨by rw [h1]; rfl, hz⟩
theorem ck_e_step {L : Nat} {xs : Nat → Int32} {k : ck_K} (hk : ck_KX L xs k) (hs : ck_KS k) {m : ck_M} {pc : Nat} {i : Instr} {l : ck_L} {st : List Value} {h h' : ck_H} {r : Option Value} (hex : ck_i k m pc l st h i = some (r, h')) (hz : gk h 1000000 = 22) (hg : gn h' ≤ 1000000) : ck_i k m pc l st (ck_xt L xs h) i = some (r, ck_xt L xs h') ∧ gk h' 1000000 = 22 := by
  cases i with
  | iconst z => exact ck_e_iconst hk hs hex hz hg
  | bipush z => exact ck_e_bipush hk hs hex hz hg
  | sipush z => exact ck_e_sipush hk hs hex hz hg
  | lconst z => exact ck_e_lconst hk hs hex hz hg
  | aconst_null => exact ck_e_aconst_null hk hs hex hz hg
  | ldc ix => exact ck_e_ldc hk hs hex hz hg
  | ldc2_w ix => exact ck_e_ldc2_w hk hs hex hz hg
  | iload i => exact ck_e_iload hk hs hex hz hg
  | iload_n i => exact ck_e_iload_n hk hs hex hz hg
  | lload i => exact ck_e_lload hk hs hex hz hg
  | lload_n i => exact ck_e_lload_n hk hs hex hz hg
  | aload i => exact ck_e_aload hk hs hex hz hg
  | aload_n i => exact ck_e_aload_n hk hs hex hz hg
  | istore i => exact ck_e_istore hk hs hex hz hg
  | istore_n i => exact ck_e_istore_n hk hs hex hz hg
  | lstore i => exact ck_e_lstore hk hs hex hz hg
  | astore i => exact ck_e_astore hk hs hex hz hg
  | astore_n i => exact ck_e_astore_n hk hs hex hz hg
  | iinc i z => exact ck_e_iinc hk hs hex hz hg
  | iadd => exact ck_e_iadd hk hs hex hz hg
  | isub => exact ck_e_isub hk hs hex hz hg
  | imul => exact ck_e_imul hk hs hex hz hg
  | iand => exact ck_e_iand hk hs hex hz hg
  | ior => exact ck_e_ior hk hs hex hz hg
  | ishl => exact ck_e_ishl hk hs hex hz hg
  | ishr => exact ck_e_ishr hk hs hex hz hg
  | ineg => exact ck_e_ineg hk hs hex hz hg
  | i2l => exact ck_e_i2l hk hs hex hz hg
  | l2i => exact ck_e_l2i hk hs hex hz hg
  | i2b => exact ck_e_i2b hk hs hex hz hg
  | ladd => exact ck_e_ladd hk hs hex hz hg
  | lsub => exact ck_e_lsub hk hs hex hz hg
  | lmul => exact ck_e_lmul hk hs hex hz hg
  | lxor => exact ck_e_lxor hk hs hex hz hg
  | lcmp => exact ck_e_lcmp hk hs hex hz hg
  | idiv => exact ck_e_idiv hk hs hex hz hg
  | irem => exact ck_e_irem hk hs hex hz hg
  | lrem => exact ck_e_lrem hk hs hex hz hg
  | dup => exact ck_e_dup hk hs hex hz hg
  | dup2 => exact ck_e_dup2 hk hs hex hz hg
  | goto off => exact ck_e_goto hk hs hex hz hg
  | ifCond c off => exact ck_e_ifCond hk hs hex hz hg
  | if_icmp c off => exact ck_e_if_icmp hk hs hex hz hg
  | ifnull off => exact ck_e_ifnull hk hs hex hz hg
  | ifnonnull off => exact ck_e_ifnonnull hk hs hex hz hg
  | tableswitch d lo hi offs => exact ck_e_tableswitch hk hs hex hz hg
  | lookupswitch d ps => exact ck_e_lookupswitch hk hs hex hz hg
  | getfield ix => exact ck_e_getfield hk hs hex hz hg
  | putfield ix => exact ck_e_putfield hk hs hex hz hg
  | iaload => exact ck_e_iaload hk hs hex hz hg
  | baload => exact ck_e_baload hk hs hex hz hg
  | aaload => exact ck_e_aaload hk hs hex hz hg
  | iastore => exact ck_e_iastore hk hs hex hz hg
  | bastore => exact ck_e_bastore hk hs hex hz hg
  | aastore => exact ck_e_aastore hk hs hex hz hg
  | arraylength => exact ck_e_arraylength hk hs hex hz hg
  | new ix => exact ck_e_new hk hs hex hz hg
  | newarray t => exact ck_e_newarray hk hs hex hz hg
  | anewarray ix => exact ck_e_anewarray hk hs hex hz hg
  | invokevirtual ix => exact ck_e_invokevirtual hk hs hex hz hg
  | invokestatic ix => exact ck_e_invokestatic hk hs hex hz hg
  | invokespecial ix => exact ck_e_invokespecial hk hs hex hz hg
  | ireturn => exact ck_e_ireturn hk hs hex hz hg
  | lreturn => exact ck_e_lreturn hk hs hex hz hg
  | areturn => exact ck_e_areturn hk hs hex hz hg
  | return_ => exact ck_e_return_ hk hs hex hz hg
  | _ => simp [ck_i] at hex
theorem ck_ext (L : Nat) (xs : Nat → Int32) : ∀ f : Nat, ck_KX L xs (ck_x f)
  | 0 => fun m pc l st h r h' hex => by simp [ck_x] at hex
  | f + 1 => fun m pc l st h r h' hex hz hg => by
    simp only [ck_x] at hex ⊢
    split at hex
    · exact ck_e_step (ck_ext L xs f) (ck_sim f) hex hz hg
    · cases hex
