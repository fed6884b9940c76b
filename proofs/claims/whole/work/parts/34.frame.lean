/-- references lie in A -/
def ck_ok (A : Nat → Prop) (v : Value) : Prop := ∀ a, v = .ref a → A a
def ck_okL (A : Nat → Prop) (l : ck_L) : Prop := ∀ (i : Nat) (v : Value), l[i]? = some (some v) → ck_ok A v
def ck_okS (A : Nat → Prop) (st : List Value) : Prop := ∀ v ∈ st, ck_ok A v
def ck_okH (A : Nat → Prop) (h : ck_H) : Prop := (∀ a i x, A a → gR h a i = some x → A x) ∧ (∀ a, gn h ≤ a → A a)
/-- outside A nothing changes; kinds and sizes stay -/
def ck_Fr (A : Nat → Prop) (h h' : ck_H) : Prop := gn h ≤ gn h' ∧ (∀ a, a < gn h → gk h' a = gk h a ∧ gz h' a = gz h a) ∧ (∀ a, ¬ A a → (∀ i, gI h' a i = gI h a i) ∧ (∀ i, gR h' a i = gR h a i) ∧ (∀ i, gJ h' a i = gJ h a i))
theorem ck_Fr.refl (A : Nat → Prop) (h : ck_H) : ck_Fr A h h := ⟨Nat.le_refl _, fun _ _ => ⟨rfl, rfl⟩, fun _ _ => ⟨fun _ => rfl, fun _ => rfl, fun _ => rfl⟩⟩
theorem ck_Fr.trans {A : Nat → Prop} {h h1 h2 : ck_H} (f : ck_Fr A h h1) (g : ck_Fr A h1 h2) : ck_Fr A h h2 := by
  obtain ⟨f1, f2, f3⟩ := f
  obtain ⟨g1, g2, g3⟩ := g
  refine ⟨Nat.le_trans f1 g1, fun a ha => ?_, fun a ha => ?_⟩
  · rw [(g2 a (by omega)).1, (g2 a (by omega)).2]; exact f2 a ha
  · refine ⟨fun i => ?_, fun i => ?_, fun i => ?_⟩
    · rw [(g3 a ha).1, (f3 a ha).1]
    · rw [(g3 a ha).2.1, (f3 a ha).2.1]
    · rw [(g3 a ha).2.2, (f3 a ha).2.2]
theorem ck_okS.cons {A : Nat → Prop} {v : Value} {st : List Value} (h1 : ck_ok A v) (h2 : ck_okS A st) : ck_okS A (v :: st) := fun w hw => by
  rcases List.mem_cons.mp hw with rfl | hw
  · exact h1
  · exact h2 w hw
theorem ck_okS.tl {A : Nat → Prop} {v : Value} {st : List Value} (h : ck_okS A (v :: st)) : ck_okS A st := fun w hw => h w (List.mem_cons_of_mem _ hw)
theorem ck_okS.hd {A : Nat → Prop} {v : Value} {st : List Value} (h : ck_okS A (v :: st)) : ck_ok A v := h v List.mem_cons_self
theorem ck_ok_i {A : Nat → Prop} {x : Int32} : ck_ok A (.int x) := fun _ h => by cases h
theorem ck_ok_l {A : Nat → Prop} {x : Int64} : ck_ok A (.long x) := fun _ h => by cases h
theorem ck_ok_n {A : Nat → Prop} : ck_ok A .null := fun _ h => by cases h
theorem ck_ok_rf {A : Nat → Prop} {o : Option Nat} (h : ∀ x, o = some x → A x) : ck_ok A (va_rf o) := by
  cases o with
  | none => exact ck_ok_n
  | some x => exact fun a e => by cases e; exact h _ rfl
theorem ck_ok_fv {A : Nat → Prop} {h : ck_H} {a c i : Nat} (hH : ck_okH A h) (ha : A a) : ck_ok A (ck_fv h a c i) := by
  unfold ck_fv
  split
  · exact ck_ok_i
  · exact ck_ok_i
  · exact ck_ok_l
  · exact ck_ok_rf (fun x hx => hH.1 a i x ha hx)
theorem ck_okL.set {A : Nat → Prop} {l : ck_L} (hl : ck_okL A l) {i : Nat} {v : Option Value} (hv : ∀ w, v = some w → ck_ok A w) : ck_okL A (l.set i v) := by
  intro j w hj
  by_cases hij : i = j
  · subst hij
    by_cases hlt : i < l.length
    · rw [List.getElem?_set_self hlt] at hj
      cases hj
      exact hv w rfl
    · rw [List.getElem?_eq_none (by simp; omega)] at hj
      cases hj
  · rw [List.getElem?_set_ne hij] at hj
    exact hl j w hj
theorem ck_okL.s1 {A : Nat → Prop} {l l' : ck_L} (hl : ck_okL A l) {i : Nat} {v : Value} (hv : ck_ok A v) (h : ck_s1 l i v = some l') : ck_okL A l' := by
  unfold ck_s1 at h
  split at h
  · cases h; exact hl.set (fun w e => by cases e; exact hv)
  · cases h
theorem ck_okL.s2 {A : Nat → Prop} {l l' : ck_L} (hl : ck_okL A l) {i : Nat} {v : Value} (hv : ck_ok A v) (h : ck_s2 l i v = some l') : ck_okL A l' := by
  unfold ck_s2 at h
  split at h
  · cases h; exact (hl.set (fun w e => by cases e; exact hv)).set (fun w e => by cases e)
  · cases h
theorem ck_okL.ent {A : Nat → Prop} : ∀ {As : List Value}, ck_okS A As → ck_okL A (ck_ent As)
  | [], _ => fun i v h => by simp [ck_ent] at h
  | w :: t, h => by
    have ih := ck_okL.ent h.tl
    intro i v hv
    unfold ck_ent at hv
    split at hv
    · cases i with
      | zero => simp at hv; subst hv; exact h.hd
      | succ i =>
        cases i with
        | zero => simp at hv
        | succ i => exact ih i v (by simpa using hv)
    · cases i with
      | zero => simp at hv; subst hv; exact h.hd
      | succ i => exact ih i v (by simpa using hv)
theorem ck_okL.in {A : Nat → Prop} {As : List Value} {n : Nat} (h : ck_okS A As) : ck_okL A (ck_in As n) := by
  intro i v hv
  by_cases hi : i < (ck_ent As).length
  · rw [ck_in, List.getElem?_append_left hi] at hv
    exact ck_okL.ent h i v hv
  · rw [ck_in, List.getElem?_append_right (by omega), List.getElem?_replicate] at hv
    split at hv <;> cases hv
theorem ck_Fr.wI {A : Nat → Prop} {h : ck_H} {a i : Nat} {x : Int32} (ha : A a) : ck_Fr A h (wI h a i x) := ⟨Nat.le_refl _, fun _ _ => ⟨rfl, rfl⟩, fun c hc => ⟨fun j => by rw [gI_wI, if_neg (fun q => hc (by rw [q.1]; exact ha))], fun _ => rfl, fun _ => rfl⟩⟩
theorem ck_Fr.wR {A : Nat → Prop} {h : ck_H} {a i : Nat} {x : Option Nat} (ha : A a) : ck_Fr A h (wR h a i x) := ⟨Nat.le_refl _, fun _ _ => ⟨rfl, rfl⟩, fun c hc => ⟨fun _ => rfl, fun j => by rw [gR_wR, if_neg (fun q => hc (by rw [q.1]; exact ha))], fun _ => rfl⟩⟩
theorem ck_Fr.wJ {A : Nat → Prop} {h : ck_H} {a i : Nat} {x : Int64} (ha : A a) : ck_Fr A h (wJ h a i x) := ⟨Nat.le_refl _, fun _ _ => ⟨rfl, rfl⟩, fun c hc => ⟨fun _ => rfl, fun _ => rfl, fun j => by rw [gJ_wJ, if_neg (fun q => hc (by rw [q.1]; exact ha))]⟩⟩
theorem ck_Fr.wC {A : Nat → Prop} {h : ck_H} {a0 sp a dp n : Nat} (ha : A a) : ck_Fr A h (wC h a0 sp a dp n) := ⟨Nat.le_refl _, fun _ _ => ⟨rfl, rfl⟩, fun c hc => ⟨fun j => by rw [gI_wC, if_neg (fun q => hc (by rw [q]; exact ha))], fun _ => rfl, fun _ => rfl⟩⟩
theorem ck_Fr.wN {A : Nat → Prop} {h : ck_H} {k n : Nat} (hH : ck_okH A h) : ck_Fr A h (wN h k n) := by
  have hne : ∀ c, ¬ A c → ¬ c = gn h := fun c hc q => hc (hH.2 c (by omega))
  refine ⟨by rw [gn_wN]; omega, fun a ha => ?_, fun c hc => ⟨fun j => by rw [gI_wN, if_neg (hne c hc)], fun j => by rw [gR_wN, if_neg (hne c hc)], fun j => by rw [gJ_wN, if_neg (hne c hc)]⟩⟩
  rw [gk_wN, gz_wN, if_neg (by omega), if_neg (by omega)]
  exact ⟨rfl, rfl⟩
theorem ck_okH.wI {A : Nat → Prop} {h : ck_H} {a i : Nat} {x : Int32} (hH : ck_okH A h) : ck_okH A (wI h a i x) := hH
theorem ck_okH.wJ {A : Nat → Prop} {h : ck_H} {a i : Nat} {x : Int64} (hH : ck_okH A h) : ck_okH A (wJ h a i x) := hH
theorem ck_okH.wC {A : Nat → Prop} {h : ck_H} {a0 sp a dp n : Nat} (hH : ck_okH A h) : ck_okH A (wC h a0 sp a dp n) := hH
theorem ck_okH.wR {A : Nat → Prop} {h : ck_H} {a i : Nat} {x : Option Nat} (hH : ck_okH A h) (hx : ∀ y, x = some y → A y) : ck_okH A (wR h a i x) := by
  refine ⟨fun c j y hc hy => ?_, hH.2⟩
  rw [gR_wR] at hy
  split at hy
  · exact hx y hy
  · exact hH.1 c j y hc hy
theorem ck_okH.wN {A : Nat → Prop} {h : ck_H} {k n : Nat} (hH : ck_okH A h) : ck_okH A (wN h k n) := by
  refine ⟨fun c j y hc hy => ?_, fun a ha => hH.2 a (by rw [gn_wN] at ha; omega)⟩
  rw [gR_wN] at hy
  split at hy
  · cases hy
  · exact hH.1 c j y hc hy
theorem ck_put_fr {A : Nat → Prop} {h h1 : ck_H} {a c i : Nat} {v : Value} (ha : A a) (hH : ck_okH A h) (hv : ck_ok A v) (hx : ck_put h a c i v = some h1) : ck_Fr A h h1 ∧ ck_okH A h1 := by
  unfold ck_put at hx
  split at hx
  · cases hx; exact ⟨ck_Fr.wI ha, hH.wI⟩
  · split at hx
    · cases hx; exact ⟨ck_Fr.wI ha, hH.wI⟩
    · cases hx
  · cases hx; exact ⟨ck_Fr.wJ ha, hH.wJ⟩
  · cases hx; exact ⟨ck_Fr.wR ha, hH.wR (fun y e => by cases e; exact hv _ rfl)⟩
  · cases hx; exact ⟨ck_Fr.wR ha, hH.wR (fun y e => by cases e)⟩
  · cases hx
def ck_KF (A : Nat → Prop) (k : ck_K) : Prop := ∀ (m : ck_M) (pc : Nat) (l : ck_L) (st : List Value) (h : ck_H) (r : Option Value) (h' : ck_H), k m pc l st h = some (r, h') → ck_okL A l → ck_okS A st → ck_okH A h → ck_Fr A h h' ∧ ck_okH A h' ∧ (∀ v, r = some v → ck_ok A v)
theorem ck_f_iconst {A : Nat → Prop} {k : ck_K} (hk : ck_KF A k) {m : ck_M} {pc : Nat} {l : ck_L} {st : List Value} {h h' : ck_H} {r : Option Value} {z : Int} (hex : ck_i k m pc l st h (.iconst z) = some (r, h')) (hl : ck_okL A l) (hs : ck_okS A st) (hH : ck_okH A h) : ck_Fr A h h' ∧ ck_okH A h' ∧ (∀ v, r = some v → ck_ok A v) := by
  simp only [ck_i] at hex
  exact hk _ _ _ _ _ _ _ hex hl (ck_okS.cons ck_ok_i hs) hH
theorem ck_f_bipush {A : Nat → Prop} {k : ck_K} (hk : ck_KF A k) {m : ck_M} {pc : Nat} {l : ck_L} {st : List Value} {h h' : ck_H} {r : Option Value} {z : Int} (hex : ck_i k m pc l st h (.bipush z) = some (r, h')) (hl : ck_okL A l) (hs : ck_okS A st) (hH : ck_okH A h) : ck_Fr A h h' ∧ ck_okH A h' ∧ (∀ v, r = some v → ck_ok A v) := by
  simp only [ck_i] at hex
  exact hk _ _ _ _ _ _ _ hex hl (ck_okS.cons ck_ok_i hs) hH
theorem ck_f_sipush {A : Nat → Prop} {k : ck_K} (hk : ck_KF A k) {m : ck_M} {pc : Nat} {l : ck_L} {st : List Value} {h h' : ck_H} {r : Option Value} {z : Int} (hex : ck_i k m pc l st h (.sipush z) = some (r, h')) (hl : ck_okL A l) (hs : ck_okS A st) (hH : ck_okH A h) : ck_Fr A h h' ∧ ck_okH A h' ∧ (∀ v, r = some v → ck_ok A v) := by
  simp only [ck_i] at hex
  exact hk _ _ _ _ _ _ _ hex hl (ck_okS.cons ck_ok_i hs) hH
theorem ck_f_lconst {A : Nat → Prop} {k : ck_K} (hk : ck_KF A k) {m : ck_M} {pc : Nat} {l : ck_L} {st : List Value} {h h' : ck_H} {r : Option Value} {z : Fin 2} (hex : ck_i k m pc l st h (.lconst z) = some (r, h')) (hl : ck_okL A l) (hs : ck_okS A st) (hH : ck_okH A h) : ck_Fr A h h' ∧ ck_okH A h' ∧ (∀ v, r = some v → ck_ok A v) := by
  simp only [ck_i] at hex
  exact hk _ _ _ _ _ _ _ hex hl (ck_okS.cons ck_ok_l hs) hH
theorem ck_f_aconst_null {A : Nat → Prop} {k : ck_K} (hk : ck_KF A k) {m : ck_M} {pc : Nat} {l : ck_L} {st : List Value} {h h' : ck_H} {r : Option Value} (hex : ck_i k m pc l st h (.aconst_null) = some (r, h')) (hl : ck_okL A l) (hs : ck_okS A st) (hH : ck_okH A h) : ck_Fr A h h' ∧ ck_okH A h' ∧ (∀ v, r = some v → ck_ok A v) := by
  simp only [ck_i] at hex
  exact hk _ _ _ _ _ _ _ hex hl (ck_okS.cons ck_ok_n hs) hH
theorem ck_f_ldc {A : Nat → Prop} {k : ck_K} (hk : ck_KF A k) {m : ck_M} {pc : Nat} {l : ck_L} {st : List Value} {h h' : ck_H} {r : Option Value} {ix : Nat} (hex : ck_i k m pc l st h (.ldc ix) = some (r, h')) (hl : ck_okL A l) (hs : ck_okS A st) (hH : ck_okH A h) : ck_Fr A h h' ∧ ck_okH A h' ∧ (∀ v, r = some v → ck_ok A v) := by
  simp only [ck_i] at hex
  split at hex
  · exact hk _ _ _ _ _ _ _ hex hl (ck_okS.cons ck_ok_i hs) hH
  · cases hex
theorem ck_f_ldc2_w {A : Nat → Prop} {k : ck_K} (hk : ck_KF A k) {m : ck_M} {pc : Nat} {l : ck_L} {st : List Value} {h h' : ck_H} {r : Option Value} {ix : Nat} (hex : ck_i k m pc l st h (.ldc2_w ix) = some (r, h')) (hl : ck_okL A l) (hs : ck_okS A st) (hH : ck_okH A h) : ck_Fr A h h' ∧ ck_okH A h' ∧ (∀ v, r = some v → ck_ok A v) := by
  simp only [ck_i] at hex
  split at hex
  · exact hk _ _ _ _ _ _ _ hex hl (ck_okS.cons ck_ok_l hs) hH
  · cases hex
theorem ck_f_iload {A : Nat → Prop} {k : ck_K} (hk : ck_KF A k) {m : ck_M} {pc : Nat} {l : ck_L} {st : List Value} {h h' : ck_H} {r : Option Value} {i : Nat} (hex : ck_i k m pc l st h (.iload i) = some (r, h')) (hl : ck_okL A l) (hs : ck_okS A st) (hH : ck_okH A h) : ck_Fr A h h' ∧ ck_okH A h' ∧ (∀ v, r = some v → ck_ok A v) := by
  simp only [ck_i, ck_ldi] at hex
  split at hex
  · exact hk _ _ _ _ _ _ _ hex hl (ck_okS.cons ck_ok_i hs) hH
  · cases hex
theorem ck_f_iload_n {A : Nat → Prop} {k : ck_K} (hk : ck_KF A k) {m : ck_M} {pc : Nat} {l : ck_L} {st : List Value} {h h' : ck_H} {r : Option Value} {i : Fin 4} (hex : ck_i k m pc l st h (.iload_n i) = some (r, h')) (hl : ck_okL A l) (hs : ck_okS A st) (hH : ck_okH A h) : ck_Fr A h h' ∧ ck_okH A h' ∧ (∀ v, r = some v → ck_ok A v) := by
  simp only [ck_i, ck_ldi] at hex
  split at hex
  · exact hk _ _ _ _ _ _ _ hex hl (ck_okS.cons ck_ok_i hs) hH
  · cases hex
theorem ck_f_lload {A : Nat → Prop} {k : ck_K} (hk : ck_KF A k) {m : ck_M} {pc : Nat} {l : ck_L} {st : List Value} {h h' : ck_H} {r : Option Value} {i : Nat} (hex : ck_i k m pc l st h (.lload i) = some (r, h')) (hl : ck_okL A l) (hs : ck_okS A st) (hH : ck_okH A h) : ck_Fr A h h' ∧ ck_okH A h' ∧ (∀ v, r = some v → ck_ok A v) := by
  simp only [ck_i, ck_ldl] at hex
  split at hex
  · exact hk _ _ _ _ _ _ _ hex hl (ck_okS.cons ck_ok_l hs) hH
  · cases hex
theorem ck_f_lload_n {A : Nat → Prop} {k : ck_K} (hk : ck_KF A k) {m : ck_M} {pc : Nat} {l : ck_L} {st : List Value} {h h' : ck_H} {r : Option Value} {i : Fin 4} (hex : ck_i k m pc l st h (.lload_n i) = some (r, h')) (hl : ck_okL A l) (hs : ck_okS A st) (hH : ck_okH A h) : ck_Fr A h h' ∧ ck_okH A h' ∧ (∀ v, r = some v → ck_ok A v) := by
  simp only [ck_i, ck_ldl] at hex
  split at hex
  · exact hk _ _ _ _ _ _ _ hex hl (ck_okS.cons ck_ok_l hs) hH
  · cases hex
theorem ck_f_aload {A : Nat → Prop} {k : ck_K} (hk : ck_KF A k) {m : ck_M} {pc : Nat} {l : ck_L} {st : List Value} {h h' : ck_H} {r : Option Value} {i : Nat} (hex : ck_i k m pc l st h (.aload i) = some (r, h')) (hl : ck_okL A l) (hs : ck_okS A st) (hH : ck_okH A h) : ck_Fr A h h' ∧ ck_okH A h' ∧ (∀ v, r = some v → ck_ok A v) := by
  simp only [ck_i, ck_lda] at hex
  split at hex
  · rename_i x hx
    exact hk _ _ _ _ _ _ _ hex hl (ck_okS.cons (hl _ _ hx) hs) hH
  · exact hk _ _ _ _ _ _ _ hex hl (ck_okS.cons ck_ok_n hs) hH
  · cases hex
theorem ck_f_aload_n {A : Nat → Prop} {k : ck_K} (hk : ck_KF A k) {m : ck_M} {pc : Nat} {l : ck_L} {st : List Value} {h h' : ck_H} {r : Option Value} {i : Fin 4} (hex : ck_i k m pc l st h (.aload_n i) = some (r, h')) (hl : ck_okL A l) (hs : ck_okS A st) (hH : ck_okH A h) : ck_Fr A h h' ∧ ck_okH A h' ∧ (∀ v, r = some v → ck_ok A v) := by
  simp only [ck_i, ck_lda] at hex
  split at hex
  · rename_i x hx
    exact hk _ _ _ _ _ _ _ hex hl (ck_okS.cons (hl _ _ hx) hs) hH
  · exact hk _ _ _ _ _ _ _ hex hl (ck_okS.cons ck_ok_n hs) hH
  · cases hex
theorem ck_f_istore {A : Nat → Prop} {k : ck_K} (hk : ck_KF A k) {m : ck_M} {pc : Nat} {l : ck_L} {st : List Value} {h h' : ck_H} {r : Option Value} {i : Nat} (hex : ck_i k m pc l st h (.istore i) = some (r, h')) (hl : ck_okL A l) (hs : ck_okS A st) (hH : ck_okH A h) : ck_Fr A h h' ∧ ck_okH A h' ∧ (∀ v, r = some v → ck_ok A v) := by
  simp only [ck_i, ck_soi] at hex
  split at hex
  · skip
    unfold ck_sv at hex
    split at hex
    · rename_i lx hx
      exact hk _ _ _ _ _ _ _ hex (hl.s1 hs.hd hx) hs.tl hH
    · cases hex
  · cases hex
theorem ck_f_istore_n {A : Nat → Prop} {k : ck_K} (hk : ck_KF A k) {m : ck_M} {pc : Nat} {l : ck_L} {st : List Value} {h h' : ck_H} {r : Option Value} {i : Fin 4} (hex : ck_i k m pc l st h (.istore_n i) = some (r, h')) (hl : ck_okL A l) (hs : ck_okS A st) (hH : ck_okH A h) : ck_Fr A h h' ∧ ck_okH A h' ∧ (∀ v, r = some v → ck_ok A v) := by
  simp only [ck_i, ck_soi] at hex
  split at hex
  · skip
    unfold ck_sv at hex
    split at hex
    · rename_i lx hx
      exact hk _ _ _ _ _ _ _ hex (hl.s1 hs.hd hx) hs.tl hH
    · cases hex
  · cases hex
theorem ck_f_lstore {A : Nat → Prop} {k : ck_K} (hk : ck_KF A k) {m : ck_M} {pc : Nat} {l : ck_L} {st : List Value} {h h' : ck_H} {r : Option Value} {i : Nat} (hex : ck_i k m pc l st h (.lstore i) = some (r, h')) (hl : ck_okL A l) (hs : ck_okS A st) (hH : ck_okH A h) : ck_Fr A h h' ∧ ck_okH A h' ∧ (∀ v, r = some v → ck_ok A v) := by
  simp only [ck_i, ck_sol] at hex
  split at hex
  · skip
    unfold ck_sv at hex
    split at hex
    · rename_i lx hx
      exact hk _ _ _ _ _ _ _ hex (hl.s2 hs.hd hx) hs.tl hH
    · cases hex
  · cases hex
theorem ck_f_astore {A : Nat → Prop} {k : ck_K} (hk : ck_KF A k) {m : ck_M} {pc : Nat} {l : ck_L} {st : List Value} {h h' : ck_H} {r : Option Value} {i : Nat} (hex : ck_i k m pc l st h (.astore i) = some (r, h')) (hl : ck_okL A l) (hs : ck_okS A st) (hH : ck_okH A h) : ck_Fr A h h' ∧ ck_okH A h' ∧ (∀ v, r = some v → ck_ok A v) := by
  simp only [ck_i, ck_soa] at hex
  split at hex
  · skip
    unfold ck_sv at hex
    split at hex
    · rename_i lx hx
      exact hk _ _ _ _ _ _ _ hex (hl.s1 hs.hd hx) hs.tl hH
    · cases hex
  · skip
    unfold ck_sv at hex
    split at hex
    · rename_i lx hx
      exact hk _ _ _ _ _ _ _ hex (hl.s1 hs.hd hx) hs.tl hH
    · cases hex
  · cases hex
theorem ck_f_astore_n {A : Nat → Prop} {k : ck_K} (hk : ck_KF A k) {m : ck_M} {pc : Nat} {l : ck_L} {st : List Value} {h h' : ck_H} {r : Option Value} {i : Fin 4} (hex : ck_i k m pc l st h (.astore_n i) = some (r, h')) (hl : ck_okL A l) (hs : ck_okS A st) (hH : ck_okH A h) : ck_Fr A h h' ∧ ck_okH A h' ∧ (∀ v, r = some v → ck_ok A v) := by
  simp only [ck_i, ck_soa] at hex
  split at hex
  · skip
    unfold ck_sv at hex
    split at hex
    · rename_i lx hx
      exact hk _ _ _ _ _ _ _ hex (hl.s1 hs.hd hx) hs.tl hH
    · cases hex
  · skip
    unfold ck_sv at hex
    split at hex
    · rename_i lx hx
      exact hk _ _ _ _ _ _ _ hex (hl.s1 hs.hd hx) hs.tl hH
    · cases hex
  · cases hex
theorem ck_f_iinc {A : Nat → Prop} {k : ck_K} (hk : ck_KF A k) {m : ck_M} {pc : Nat} {l : ck_L} {st : List Value} {h h' : ck_H} {r : Option Value} {i : Nat} {z : Int} (hex : ck_i k m pc l st h (.iinc i z) = some (r, h')) (hl : ck_okL A l) (hs : ck_okS A st) (hH : ck_okH A h) : ck_Fr A h h' ∧ ck_okH A h' ∧ (∀ v, r = some v → ck_ok A v) := by
  simp only [ck_i] at hex
  split at hex
  · unfold ck_sv at hex
    split at hex
    · rename_i lx hx
      exact hk _ _ _ _ _ _ _ hex (hl.s1 ck_ok_i hx) hs hH
    · cases hex
  · cases hex
theorem ck_f_iadd {A : Nat → Prop} {k : ck_K} (hk : ck_KF A k) {m : ck_M} {pc : Nat} {l : ck_L} {st : List Value} {h h' : ck_H} {r : Option Value} (hex : ck_i k m pc l st h (.iadd) = some (r, h')) (hl : ck_okL A l) (hs : ck_okS A st) (hH : ck_okH A h) : ck_Fr A h h' ∧ ck_okH A h' ∧ (∀ v, r = some v → ck_ok A v) := by
  simp only [ck_i] at hex
  split at hex
  · exact hk _ _ _ _ _ _ _ hex hl (ck_okS.cons ck_ok_i hs.tl.tl) hH
  · cases hex
theorem ck_f_isub {A : Nat → Prop} {k : ck_K} (hk : ck_KF A k) {m : ck_M} {pc : Nat} {l : ck_L} {st : List Value} {h h' : ck_H} {r : Option Value} (hex : ck_i k m pc l st h (.isub) = some (r, h')) (hl : ck_okL A l) (hs : ck_okS A st) (hH : ck_okH A h) : ck_Fr A h h' ∧ ck_okH A h' ∧ (∀ v, r = some v → ck_ok A v) := by
  simp only [ck_i] at hex
  split at hex
  · exact hk _ _ _ _ _ _ _ hex hl (ck_okS.cons ck_ok_i hs.tl.tl) hH
  · cases hex
theorem ck_f_imul {A : Nat → Prop} {k : ck_K} (hk : ck_KF A k) {m : ck_M} {pc : Nat} {l : ck_L} {st : List Value} {h h' : ck_H} {r : Option Value} (hex : ck_i k m pc l st h (.imul) = some (r, h')) (hl : ck_okL A l) (hs : ck_okS A st) (hH : ck_okH A h) : ck_Fr A h h' ∧ ck_okH A h' ∧ (∀ v, r = some v → ck_ok A v) := by
  simp only [ck_i] at hex
  split at hex
  · exact hk _ _ _ _ _ _ _ hex hl (ck_okS.cons ck_ok_i hs.tl.tl) hH
  · cases hex
theorem ck_f_iand {A : Nat → Prop} {k : ck_K} (hk : ck_KF A k) {m : ck_M} {pc : Nat} {l : ck_L} {st : List Value} {h h' : ck_H} {r : Option Value} (hex : ck_i k m pc l st h (.iand) = some (r, h')) (hl : ck_okL A l) (hs : ck_okS A st) (hH : ck_okH A h) : ck_Fr A h h' ∧ ck_okH A h' ∧ (∀ v, r = some v → ck_ok A v) := by
  simp only [ck_i] at hex
  split at hex
  · exact hk _ _ _ _ _ _ _ hex hl (ck_okS.cons ck_ok_i hs.tl.tl) hH
  · cases hex
theorem ck_f_ior {A : Nat → Prop} {k : ck_K} (hk : ck_KF A k) {m : ck_M} {pc : Nat} {l : ck_L} {st : List Value} {h h' : ck_H} {r : Option Value} (hex : ck_i k m pc l st h (.ior) = some (r, h')) (hl : ck_okL A l) (hs : ck_okS A st) (hH : ck_okH A h) : ck_Fr A h h' ∧ ck_okH A h' ∧ (∀ v, r = some v → ck_ok A v) := by
  simp only [ck_i] at hex
  split at hex
  · exact hk _ _ _ _ _ _ _ hex hl (ck_okS.cons ck_ok_i hs.tl.tl) hH
  · cases hex
theorem ck_f_ishl {A : Nat → Prop} {k : ck_K} (hk : ck_KF A k) {m : ck_M} {pc : Nat} {l : ck_L} {st : List Value} {h h' : ck_H} {r : Option Value} (hex : ck_i k m pc l st h (.ishl) = some (r, h')) (hl : ck_okL A l) (hs : ck_okS A st) (hH : ck_okH A h) : ck_Fr A h h' ∧ ck_okH A h' ∧ (∀ v, r = some v → ck_ok A v) := by
  simp only [ck_i] at hex
  split at hex
  · exact hk _ _ _ _ _ _ _ hex hl (ck_okS.cons ck_ok_i hs.tl.tl) hH
  · cases hex
theorem ck_f_ishr {A : Nat → Prop} {k : ck_K} (hk : ck_KF A k) {m : ck_M} {pc : Nat} {l : ck_L} {st : List Value} {h h' : ck_H} {r : Option Value} (hex : ck_i k m pc l st h (.ishr) = some (r, h')) (hl : ck_okL A l) (hs : ck_okS A st) (hH : ck_okH A h) : ck_Fr A h h' ∧ ck_okH A h' ∧ (∀ v, r = some v → ck_ok A v) := by
  simp only [ck_i] at hex
  split at hex
  · exact hk _ _ _ _ _ _ _ hex hl (ck_okS.cons ck_ok_i hs.tl.tl) hH
  · cases hex
theorem ck_f_ladd {A : Nat → Prop} {k : ck_K} (hk : ck_KF A k) {m : ck_M} {pc : Nat} {l : ck_L} {st : List Value} {h h' : ck_H} {r : Option Value} (hex : ck_i k m pc l st h (.ladd) = some (r, h')) (hl : ck_okL A l) (hs : ck_okS A st) (hH : ck_okH A h) : ck_Fr A h h' ∧ ck_okH A h' ∧ (∀ v, r = some v → ck_ok A v) := by
  simp only [ck_i] at hex
  split at hex
  · exact hk _ _ _ _ _ _ _ hex hl (ck_okS.cons ck_ok_l hs.tl.tl) hH
  · cases hex
theorem ck_f_lsub {A : Nat → Prop} {k : ck_K} (hk : ck_KF A k) {m : ck_M} {pc : Nat} {l : ck_L} {st : List Value} {h h' : ck_H} {r : Option Value} (hex : ck_i k m pc l st h (.lsub) = some (r, h')) (hl : ck_okL A l) (hs : ck_okS A st) (hH : ck_okH A h) : ck_Fr A h h' ∧ ck_okH A h' ∧ (∀ v, r = some v → ck_ok A v) := by
  simp only [ck_i] at hex
  split at hex
  · exact hk _ _ _ _ _ _ _ hex hl (ck_okS.cons ck_ok_l hs.tl.tl) hH
  · cases hex
theorem ck_f_lmul {A : Nat → Prop} {k : ck_K} (hk : ck_KF A k) {m : ck_M} {pc : Nat} {l : ck_L} {st : List Value} {h h' : ck_H} {r : Option Value} (hex : ck_i k m pc l st h (.lmul) = some (r, h')) (hl : ck_okL A l) (hs : ck_okS A st) (hH : ck_okH A h) : ck_Fr A h h' ∧ ck_okH A h' ∧ (∀ v, r = some v → ck_ok A v) := by
  simp only [ck_i] at hex
  split at hex
  · exact hk _ _ _ _ _ _ _ hex hl (ck_okS.cons ck_ok_l hs.tl.tl) hH
  · cases hex
theorem ck_f_lxor {A : Nat → Prop} {k : ck_K} (hk : ck_KF A k) {m : ck_M} {pc : Nat} {l : ck_L} {st : List Value} {h h' : ck_H} {r : Option Value} (hex : ck_i k m pc l st h (.lxor) = some (r, h')) (hl : ck_okL A l) (hs : ck_okS A st) (hH : ck_okH A h) : ck_Fr A h h' ∧ ck_okH A h' ∧ (∀ v, r = some v → ck_ok A v) := by
  simp only [ck_i] at hex
  split at hex
  · exact hk _ _ _ _ _ _ _ hex hl (ck_okS.cons ck_ok_l hs.tl.tl) hH
  · cases hex
theorem ck_f_lcmp {A : Nat → Prop} {k : ck_K} (hk : ck_KF A k) {m : ck_M} {pc : Nat} {l : ck_L} {st : List Value} {h h' : ck_H} {r : Option Value} (hex : ck_i k m pc l st h (.lcmp) = some (r, h')) (hl : ck_okL A l) (hs : ck_okS A st) (hH : ck_okH A h) : ck_Fr A h h' ∧ ck_okH A h' ∧ (∀ v, r = some v → ck_ok A v) := by
  simp only [ck_i] at hex
  split at hex
  · exact hk _ _ _ _ _ _ _ hex hl (ck_okS.cons ck_ok_i hs.tl.tl) hH
  · cases hex
theorem ck_f_ineg {A : Nat → Prop} {k : ck_K} (hk : ck_KF A k) {m : ck_M} {pc : Nat} {l : ck_L} {st : List Value} {h h' : ck_H} {r : Option Value} (hex : ck_i k m pc l st h (.ineg) = some (r, h')) (hl : ck_okL A l) (hs : ck_okS A st) (hH : ck_okH A h) : ck_Fr A h h' ∧ ck_okH A h' ∧ (∀ v, r = some v → ck_ok A v) := by
  simp only [ck_i] at hex
  split at hex
  · exact hk _ _ _ _ _ _ _ hex hl (ck_okS.cons ck_ok_i hs.tl) hH
  · cases hex
theorem ck_f_i2l {A : Nat → Prop} {k : ck_K} (hk : ck_KF A k) {m : ck_M} {pc : Nat} {l : ck_L} {st : List Value} {h h' : ck_H} {r : Option Value} (hex : ck_i k m pc l st h (.i2l) = some (r, h')) (hl : ck_okL A l) (hs : ck_okS A st) (hH : ck_okH A h) : ck_Fr A h h' ∧ ck_okH A h' ∧ (∀ v, r = some v → ck_ok A v) := by
  simp only [ck_i] at hex
  split at hex
  · exact hk _ _ _ _ _ _ _ hex hl (ck_okS.cons ck_ok_l hs.tl) hH
  · cases hex
theorem ck_f_l2i {A : Nat → Prop} {k : ck_K} (hk : ck_KF A k) {m : ck_M} {pc : Nat} {l : ck_L} {st : List Value} {h h' : ck_H} {r : Option Value} (hex : ck_i k m pc l st h (.l2i) = some (r, h')) (hl : ck_okL A l) (hs : ck_okS A st) (hH : ck_okH A h) : ck_Fr A h h' ∧ ck_okH A h' ∧ (∀ v, r = some v → ck_ok A v) := by
  simp only [ck_i] at hex
  split at hex
  · exact hk _ _ _ _ _ _ _ hex hl (ck_okS.cons ck_ok_i hs.tl) hH
  · cases hex
theorem ck_f_i2b {A : Nat → Prop} {k : ck_K} (hk : ck_KF A k) {m : ck_M} {pc : Nat} {l : ck_L} {st : List Value} {h h' : ck_H} {r : Option Value} (hex : ck_i k m pc l st h (.i2b) = some (r, h')) (hl : ck_okL A l) (hs : ck_okS A st) (hH : ck_okH A h) : ck_Fr A h h' ∧ ck_okH A h' ∧ (∀ v, r = some v → ck_ok A v) := by
  simp only [ck_i] at hex
  split at hex
  · exact hk _ _ _ _ _ _ _ hex hl (ck_okS.cons ck_ok_i hs.tl) hH
  · cases hex
theorem ck_f_idiv {A : Nat → Prop} {k : ck_K} (hk : ck_KF A k) {m : ck_M} {pc : Nat} {l : ck_L} {st : List Value} {h h' : ck_H} {r : Option Value} (hex : ck_i k m pc l st h (.idiv) = some (r, h')) (hl : ck_okL A l) (hs : ck_okS A st) (hH : ck_okH A h) : ck_Fr A h h' ∧ ck_okH A h' ∧ (∀ v, r = some v → ck_ok A v) := by
  simp only [ck_i] at hex
  split at hex
  · split at hex
    · exact hk _ _ _ _ _ _ _ hex hl (ck_okS.cons ck_ok_i hs.tl.tl) hH
    · cases hex
  · cases hex
theorem ck_f_irem {A : Nat → Prop} {k : ck_K} (hk : ck_KF A k) {m : ck_M} {pc : Nat} {l : ck_L} {st : List Value} {h h' : ck_H} {r : Option Value} (hex : ck_i k m pc l st h (.irem) = some (r, h')) (hl : ck_okL A l) (hs : ck_okS A st) (hH : ck_okH A h) : ck_Fr A h h' ∧ ck_okH A h' ∧ (∀ v, r = some v → ck_ok A v) := by
  simp only [ck_i] at hex
  split at hex
  · split at hex
    · exact hk _ _ _ _ _ _ _ hex hl (ck_okS.cons ck_ok_i hs.tl.tl) hH
    · cases hex
  · cases hex
theorem ck_f_lrem {A : Nat → Prop} {k : ck_K} (hk : ck_KF A k) {m : ck_M} {pc : Nat} {l : ck_L} {st : List Value} {h h' : ck_H} {r : Option Value} (hex : ck_i k m pc l st h (.lrem) = some (r, h')) (hl : ck_okL A l) (hs : ck_okS A st) (hH : ck_okH A h) : ck_Fr A h h' ∧ ck_okH A h' ∧ (∀ v, r = some v → ck_ok A v) := by
  simp only [ck_i] at hex
  split at hex
  · split at hex
    · exact hk _ _ _ _ _ _ _ hex hl (ck_okS.cons ck_ok_l hs.tl.tl) hH
    · cases hex
  · cases hex
theorem ck_f_dup {A : Nat → Prop} {k : ck_K} (hk : ck_KF A k) {m : ck_M} {pc : Nat} {l : ck_L} {st : List Value} {h h' : ck_H} {r : Option Value} (hex : ck_i k m pc l st h (.dup) = some (r, h')) (hl : ck_okL A l) (hs : ck_okS A st) (hH : ck_okH A h) : ck_Fr A h h' ∧ ck_okH A h' ∧ (∀ v, r = some v → ck_ok A v) := by
  simp only [ck_i] at hex
  split at hex
  · split at hex
    · exact hk _ _ _ _ _ _ _ hex hl (ck_okS.cons hs.hd hs) hH
    · cases hex
  · cases hex
theorem ck_f_dup2 {A : Nat → Prop} {k : ck_K} (hk : ck_KF A k) {m : ck_M} {pc : Nat} {l : ck_L} {st : List Value} {h h' : ck_H} {r : Option Value} (hex : ck_i k m pc l st h (.dup2) = some (r, h')) (hl : ck_okL A l) (hs : ck_okS A st) (hH : ck_okH A h) : ck_Fr A h h' ∧ ck_okH A h' ∧ (∀ v, r = some v → ck_ok A v) := by
  simp only [ck_i] at hex
  split at hex
  · split at hex
    · exact hk _ _ _ _ _ _ _ hex hl (ck_okS.cons hs.hd (ck_okS.cons hs.tl.hd hs)) hH
    · cases hex
  · cases hex
theorem ck_f_jmp {A : Nat → Prop} {k : ck_K} (hk : ck_KF A k) {m : ck_M} {pc : Nat} {off : Int} {l : ck_L} {st : List Value} {h h' : ck_H} {r : Option Value} (hex : ck_jmp k m pc off l st h = some (r, h')) (hl : ck_okL A l) (hs : ck_okS A st) (hH : ck_okH A h) : ck_Fr A h h' ∧ ck_okH A h' ∧ (∀ v, r = some v → ck_ok A v) := by
  unfold ck_jmp at hex
  split at hex
  · exact hk _ _ _ _ _ _ _ hex hl hs hH
  · cases hex
theorem ck_f_b1 {A : Nat → Prop} {k : ck_K} (hk : ck_KF A k) {m : ck_M} {pc : Nat} {off : Int} {l : ck_L} {st : List Value} {h h' : ck_H} {r : Option Value} {c : Prop} [Decidable c] (hex : ck_b1 k m pc off l st h c = some (r, h')) (hl : ck_okL A l) (hs : ck_okS A st) (hH : ck_okH A h) : ck_Fr A h h' ∧ ck_okH A h' ∧ (∀ v, r = some v → ck_ok A v) := by
  unfold ck_b1 at hex
  split at hex
  · split at hex
    · exact hk _ _ _ _ _ _ _ hex hl hs hH
    · exact hk _ _ _ _ _ _ _ hex hl hs hH
  · cases hex
theorem ck_f_goto {A : Nat → Prop} {k : ck_K} (hk : ck_KF A k) {m : ck_M} {pc : Nat} {l : ck_L} {st : List Value} {h h' : ck_H} {r : Option Value} {off : Int} (hex : ck_i k m pc l st h (.goto off) = some (r, h')) (hl : ck_okL A l) (hs : ck_okS A st) (hH : ck_okH A h) : ck_Fr A h h' ∧ ck_okH A h' ∧ (∀ v, r = some v → ck_ok A v) := by
  simp only [ck_i] at hex
  exact ck_f_jmp hk hex hl hs hH
theorem ck_f_ifCond {A : Nat → Prop} {k : ck_K} (hk : ck_KF A k) {m : ck_M} {pc : Nat} {l : ck_L} {st : List Value} {h h' : ck_H} {r : Option Value} {c : ClassFile.Cond} {off : Int} (hex : ck_i k m pc l st h (.ifCond c off) = some (r, h')) (hl : ck_okL A l) (hs : ck_okS A st) (hH : ck_okH A h) : ck_Fr A h h' ∧ ck_okH A h' ∧ (∀ v, r = some v → ck_ok A v) := by
  simp only [ck_i] at hex
  split at hex
  · cases c <;> exact ck_f_b1 hk hex hl hs.tl hH
  · cases hex
theorem ck_f_if_icmp {A : Nat → Prop} {k : ck_K} (hk : ck_KF A k) {m : ck_M} {pc : Nat} {l : ck_L} {st : List Value} {h h' : ck_H} {r : Option Value} {c : ClassFile.Cond} {off : Int} (hex : ck_i k m pc l st h (.if_icmp c off) = some (r, h')) (hl : ck_okL A l) (hs : ck_okS A st) (hH : ck_okH A h) : ck_Fr A h h' ∧ ck_okH A h' ∧ (∀ v, r = some v → ck_ok A v) := by
  simp only [ck_i] at hex
  split at hex
  · cases c <;> exact ck_f_b1 hk hex hl hs.tl.tl hH
  · cases hex
theorem ck_f_ifnull {A : Nat → Prop} {k : ck_K} (hk : ck_KF A k) {m : ck_M} {pc : Nat} {l : ck_L} {st : List Value} {h h' : ck_H} {r : Option Value} {off : Int} (hex : ck_i k m pc l st h (.ifnull off) = some (r, h')) (hl : ck_okL A l) (hs : ck_okS A st) (hH : ck_okH A h) : ck_Fr A h h' ∧ ck_okH A h' ∧ (∀ v, r = some v → ck_ok A v) := by
  simp only [ck_i] at hex
  split at hex
  · exact ck_f_jmp hk hex hl hs.tl hH
  · exact hk _ _ _ _ _ _ _ hex hl (hs.tl) hH
  · cases hex
theorem ck_f_ifnonnull {A : Nat → Prop} {k : ck_K} (hk : ck_KF A k) {m : ck_M} {pc : Nat} {l : ck_L} {st : List Value} {h h' : ck_H} {r : Option Value} {off : Int} (hex : ck_i k m pc l st h (.ifnonnull off) = some (r, h')) (hl : ck_okL A l) (hs : ck_okS A st) (hH : ck_okH A h) : ck_Fr A h h' ∧ ck_okH A h' ∧ (∀ v, r = some v → ck_ok A v) := by
  simp only [ck_i] at hex
  split at hex
  · exact hk _ _ _ _ _ _ _ hex hl (hs.tl) hH
  · exact ck_f_jmp hk hex hl hs.tl hH
  · cases hex
theorem ck_f_tableswitch {A : Nat → Prop} {k : ck_K} (hk : ck_KF A k) {m : ck_M} {pc : Nat} {l : ck_L} {st : List Value} {h h' : ck_H} {r : Option Value} {d lo hi : Int} {offs : Array Int} (hex : ck_i k m pc l st h (.tableswitch d lo hi offs) = some (r, h')) (hl : ck_okL A l) (hs : ck_okS A st) (hH : ck_okH A h) : ck_Fr A h h' ∧ ck_okH A h' ∧ (∀ v, r = some v → ck_ok A v) := by
  simp only [ck_i] at hex
  split at hex
  · split at hex
    · exact ck_f_jmp hk hex hl hs.tl hH
    · split at hex
      · exact ck_f_jmp hk hex hl hs.tl hH
      · cases hex
  · cases hex
theorem ck_f_lookupswitch {A : Nat → Prop} {k : ck_K} (hk : ck_KF A k) {m : ck_M} {pc : Nat} {l : ck_L} {st : List Value} {h h' : ck_H} {r : Option Value} {d : Int} {ps : Array (Int × Int)} (hex : ck_i k m pc l st h (.lookupswitch d ps) = some (r, h')) (hl : ck_okL A l) (hs : ck_okS A st) (hH : ck_okH A h) : ck_Fr A h h' ∧ ck_okH A h' ∧ (∀ v, r = some v → ck_ok A v) := by
  simp only [ck_i] at hex
  split at hex
  · split at hex
    · exact ck_f_jmp hk hex hl hs.tl hH
    · cases hex
  · cases hex
theorem ck_f_getfield {A : Nat → Prop} {k : ck_K} (hk : ck_KF A k) {m : ck_M} {pc : Nat} {l : ck_L} {st : List Value} {h h' : ck_H} {r : Option Value} {ix : Nat} (hex : ck_i k m pc l st h (.getfield ix) = some (r, h')) (hl : ck_okL A l) (hs : ck_okS A st) (hH : ck_okH A h) : ck_Fr A h h' ∧ ck_okH A h' ∧ (∀ v, r = some v → ck_ok A v) := by
  simp only [ck_i] at hex
  split at hex
  · split at hex
    · split at hex
      · exact hk _ _ _ _ _ _ _ hex hl (ck_okS.cons (ck_ok_fv hH (hs.hd _ rfl)) hs.tl) hH
      · cases hex
    · cases hex
  · cases hex
theorem ck_f_putfield {A : Nat → Prop} {k : ck_K} (hk : ck_KF A k) {m : ck_M} {pc : Nat} {l : ck_L} {st : List Value} {h h' : ck_H} {r : Option Value} {ix : Nat} (hex : ck_i k m pc l st h (.putfield ix) = some (r, h')) (hl : ck_okL A l) (hs : ck_okS A st) (hH : ck_okH A h) : ck_Fr A h h' ∧ ck_okH A h' ∧ (∀ v, r = some v → ck_ok A v) := by
  simp only [ck_i] at hex
  split at hex
  · split at hex
    · split at hex
      · split at hex
        · rename_i h1 hput
          obtain ⟨f1, f2⟩ := ck_put_fr (hs.tl.hd _ rfl) hH hs.hd hput
          obtain ⟨g1, g2, g3⟩ := hk _ _ _ _ _ _ _ hex hl hs.tl.tl f2
          exact ⟨f1.trans g1, g2, g3⟩
        · cases hex
      · cases hex
    · cases hex
  · cases hex
theorem ck_f_iaload {A : Nat → Prop} {k : ck_K} (hk : ck_KF A k) {m : ck_M} {pc : Nat} {l : ck_L} {st : List Value} {h h' : ck_H} {r : Option Value} (hex : ck_i k m pc l st h (.iaload) = some (r, h')) (hl : ck_okL A l) (hs : ck_okS A st) (hH : ck_okH A h) : ck_Fr A h h' ∧ ck_okH A h' ∧ (∀ v, r = some v → ck_ok A v) := by
  simp only [ck_i] at hex
  split at hex
  · split at hex
    · exact hk _ _ _ _ _ _ _ hex hl (ck_okS.cons ck_ok_i hs.tl.tl) hH
    · cases hex
  · cases hex
theorem ck_f_baload {A : Nat → Prop} {k : ck_K} (hk : ck_KF A k) {m : ck_M} {pc : Nat} {l : ck_L} {st : List Value} {h h' : ck_H} {r : Option Value} (hex : ck_i k m pc l st h (.baload) = some (r, h')) (hl : ck_okL A l) (hs : ck_okS A st) (hH : ck_okH A h) : ck_Fr A h h' ∧ ck_okH A h' ∧ (∀ v, r = some v → ck_ok A v) := by
  simp only [ck_i] at hex
  split at hex
  · split at hex
    · exact hk _ _ _ _ _ _ _ hex hl (ck_okS.cons ck_ok_i hs.tl.tl) hH
    · cases hex
  · cases hex
theorem ck_f_aaload {A : Nat → Prop} {k : ck_K} (hk : ck_KF A k) {m : ck_M} {pc : Nat} {l : ck_L} {st : List Value} {h h' : ck_H} {r : Option Value} (hex : ck_i k m pc l st h (.aaload) = some (r, h')) (hl : ck_okL A l) (hs : ck_okS A st) (hH : ck_okH A h) : ck_Fr A h h' ∧ ck_okH A h' ∧ (∀ v, r = some v → ck_ok A v) := by
  simp only [ck_i] at hex
  split at hex
  · split at hex
    · exact hk _ _ _ _ _ _ _ hex hl (ck_okS.cons (ck_ok_rf (fun x hx => hH.1 _ _ x (hs.tl.hd _ rfl) hx)) hs.tl.tl) hH
    · cases hex
  · cases hex
theorem ck_f_iastore {A : Nat → Prop} {k : ck_K} (hk : ck_KF A k) {m : ck_M} {pc : Nat} {l : ck_L} {st : List Value} {h h' : ck_H} {r : Option Value} (hex : ck_i k m pc l st h (.iastore) = some (r, h')) (hl : ck_okL A l) (hs : ck_okS A st) (hH : ck_okH A h) : ck_Fr A h h' ∧ ck_okH A h' ∧ (∀ v, r = some v → ck_ok A v) := by
  simp only [ck_i] at hex
  split at hex
  · split at hex
    · skip
      obtain ⟨g1, g2, g3⟩ := hk _ _ _ _ _ _ _ hex hl hs.tl.tl.tl hH.wI
      exact ⟨(ck_Fr.wI (hs.tl.tl.hd _ rfl)).trans g1, g2, g3⟩
    · cases hex
  · cases hex
theorem ck_f_bastore {A : Nat → Prop} {k : ck_K} (hk : ck_KF A k) {m : ck_M} {pc : Nat} {l : ck_L} {st : List Value} {h h' : ck_H} {r : Option Value} (hex : ck_i k m pc l st h (.bastore) = some (r, h')) (hl : ck_okL A l) (hs : ck_okS A st) (hH : ck_okH A h) : ck_Fr A h h' ∧ ck_okH A h' ∧ (∀ v, r = some v → ck_ok A v) := by
  simp only [ck_i] at hex
  split at hex
  · split at hex
    · skip
      obtain ⟨g1, g2, g3⟩ := hk _ _ _ _ _ _ _ hex hl hs.tl.tl.tl hH.wI
      exact ⟨(ck_Fr.wI (hs.tl.tl.hd _ rfl)).trans g1, g2, g3⟩
    · split at hex
      · skip
        obtain ⟨g1, g2, g3⟩ := hk _ _ _ _ _ _ _ hex hl hs.tl.tl.tl hH.wI
        exact ⟨(ck_Fr.wI (hs.tl.tl.hd _ rfl)).trans g1, g2, g3⟩
      · cases hex
  · cases hex
theorem ck_f_aastore {A : Nat → Prop} {k : ck_K} (hk : ck_KF A k) {m : ck_M} {pc : Nat} {l : ck_L} {st : List Value} {h h' : ck_H} {r : Option Value} (hex : ck_i k m pc l st h (.aastore) = some (r, h')) (hl : ck_okL A l) (hs : ck_okS A st) (hH : ck_okH A h) : ck_Fr A h h' ∧ ck_okH A h' ∧ (∀ v, r = some v → ck_ok A v) := by
  simp only [ck_i] at hex
  split at hex
  · split at hex
    · obtain ⟨g1, g2, g3⟩ := hk _ _ _ _ _ _ _ hex hl hs.tl.tl.tl (hH.wR (fun y e => by cases e; exact hs.hd _ rfl))
      exact ⟨(ck_Fr.wR (hs.tl.tl.hd _ rfl)).trans g1, g2, g3⟩
    · cases hex
  · cases hex
theorem ck_f_arraylength {A : Nat → Prop} {k : ck_K} (hk : ck_KF A k) {m : ck_M} {pc : Nat} {l : ck_L} {st : List Value} {h h' : ck_H} {r : Option Value} (hex : ck_i k m pc l st h (.arraylength) = some (r, h')) (hl : ck_okL A l) (hs : ck_okS A st) (hH : ck_okH A h) : ck_Fr A h h' ∧ ck_okH A h' ∧ (∀ v, r = some v → ck_ok A v) := by
  simp only [ck_i] at hex
  split at hex
  · split at hex
    · exact hk _ _ _ _ _ _ _ hex hl (ck_okS.cons ck_ok_i hs.tl) hH
    · cases hex
  · cases hex
theorem ck_f_new {A : Nat → Prop} {k : ck_K} (hk : ck_KF A k) {m : ck_M} {pc : Nat} {l : ck_L} {st : List Value} {h h' : ck_H} {r : Option Value} {ix : Nat} (hex : ck_i k m pc l st h (.new ix) = some (r, h')) (hl : ck_okL A l) (hs : ck_okS A st) (hH : ck_okH A h) : ck_Fr A h h' ∧ ck_okH A h' ∧ (∀ v, r = some v → ck_ok A v) := by
  simp only [ck_i] at hex
  split at hex
  · split at hex
    · skip
      obtain ⟨g1, g2, g3⟩ := hk _ _ _ _ _ _ _ hex hl (ck_okS.cons (fun a e => by cases e; exact hH.2 _ (Nat.le_refl _)) hs) hH.wN
      exact ⟨(ck_Fr.wN hH).trans g1, g2, g3⟩
    · cases hex
  · cases hex
theorem ck_f_newarray {A : Nat → Prop} {k : ck_K} (hk : ck_KF A k) {m : ck_M} {pc : Nat} {l : ck_L} {st : List Value} {h h' : ck_H} {r : Option Value} {t : ArrayType} (hex : ck_i k m pc l st h (.newarray t) = some (r, h')) (hl : ck_okL A l) (hs : ck_okS A st) (hH : ck_okH A h) : ck_Fr A h h' ∧ ck_okH A h' ∧ (∀ v, r = some v → ck_ok A v) := by
  simp only [ck_i] at hex
  split at hex
  · split at hex
    · skip
      obtain ⟨g1, g2, g3⟩ := hk _ _ _ _ _ _ _ hex hl (ck_okS.cons (fun a e => by cases e; exact hH.2 _ (Nat.le_refl _)) hs.tl) hH.wN
      exact ⟨(ck_Fr.wN hH).trans g1, g2, g3⟩
    · cases hex
  · cases hex
theorem ck_f_anewarray {A : Nat → Prop} {k : ck_K} (hk : ck_KF A k) {m : ck_M} {pc : Nat} {l : ck_L} {st : List Value} {h h' : ck_H} {r : Option Value} {ix : Nat} (hex : ck_i k m pc l st h (.anewarray ix) = some (r, h')) (hl : ck_okL A l) (hs : ck_okS A st) (hH : ck_okH A h) : ck_Fr A h h' ∧ ck_okH A h' ∧ (∀ v, r = some v → ck_ok A v) := by
  simp only [ck_i] at hex
  split at hex
  · split at hex
    · skip
      obtain ⟨g1, g2, g3⟩ := hk _ _ _ _ _ _ _ hex hl (ck_okS.cons (fun a e => by cases e; exact hH.2 _ (Nat.le_refl _)) hs.tl) hH.wN
      exact ⟨(ck_Fr.wN hH).trans g1, g2, g3⟩
    · cases hex
  · cases hex
theorem ck_f_call {A : Nat → Prop} {k : ck_K} (hk : ck_KF A k) {m y : ck_M} {pc : Nat} {l : ck_L} {As rest : List Value} {h h' : ck_H} {r : Option Value} (hex : ck_call k m pc l h y As rest = some (r, h')) (hl : ck_okL A l) (hA : ck_okS A As) (hs : ck_okS A rest) (hH : ck_okH A h) : ck_Fr A h h' ∧ ck_okH A h' ∧ (∀ v, r = some v → ck_ok A v) := by
  unfold ck_call at hex
  split at hex
  · split at hex
    · rename_i r1 h1 hy
      obtain ⟨f1, f2, f3⟩ := hk _ _ _ _ _ _ _ hy (ck_okL.in hA) (fun v hv => by cases hv) hH
      have hs2 : ck_okS A (r1.toList ++ rest) := by
        intro v hv
        rcases List.mem_append.mp hv with hv | hv
        · cases r1 with
          | none => cases hv
          | some w => simp at hv; subst hv; exact f3 v rfl
        · exact hs v hv
      obtain ⟨g1, g2, g3⟩ := hk _ _ _ _ _ _ _ hex hl hs2 f2
      exact ⟨f1.trans g1, g2, g3⟩
    · cases hex
  · cases hex
theorem ck_okS.take {A : Nat → Prop} {st : List Value} (hs : ck_okS A st) (n : Nat) : ck_okS A (st.take n).reverse := fun v hv => hs v (List.mem_of_mem_take (List.mem_reverse.mp hv))
theorem ck_okS.drop {A : Nat → Prop} {st : List Value} (hs : ck_okS A st) (n : Nat) : ck_okS A (st.drop n) := fun v hv => hs v (List.mem_of_mem_drop hv)
theorem ck_f_inv {A : Nat → Prop} {k : ck_K} (hk : ck_KF A k) {m : ck_M} {pc how : Nat} {e : Nat × Nat × ck_M} {l : ck_L} {st : List Value} {h h' : ck_H} {r : Option Value} (hex : ck_inv k m pc l st h e how = some (r, h')) (hl : ck_okL A l) (hs : ck_okS A st) (hH : ck_okH A h) : ck_Fr A h h' ∧ ck_okH A h' ∧ (∀ v, r = some v → ck_ok A v) := by
  have hd := hs.drop e.2.1
  have ht := hs.take e.2.1
  unfold ck_inv at hex
  split at hex
  · split at hex
    · split at hex
      · rename_i b0 rest hdr
        rw [hdr] at hd
        split at hex
        · exact ck_f_call hk hex hl (ck_okS.cons hd.hd ht) hd.tl hH
        · cases hex
      · cases hex
    · cases hex
  · split at hex
    · exact ck_f_call hk hex hl ht hd hH
    · cases hex
  · split at hex
    · split at hex
      · obtain ⟨g1, g2, g3⟩ := hk _ _ _ _ _ _ _ hex hl hs.tl.tl.tl.tl.tl hH.wC
        exact ⟨(ck_Fr.wC (hs.tl.tl.hd _ rfl)).trans g1, g2, g3⟩
      · cases hex
    · cases hex
  · split at hex
    · split at hex
      · exact hk _ _ _ _ _ _ _ hex hl hs.tl hH
      · cases hex
    · cases hex
  · split at hex
    · split at hex
      · rename_i b0 rest hdr
        rw [hdr] at hd
        exact ck_f_call hk hex hl (ck_okS.cons hd.hd ht) hd.tl hH
      · cases hex
    · cases hex
  · split at hex
    · split at hex
      · rename_i b0 rest hdr
        rw [hdr] at hd
        exact ck_f_call hk hex hl (ck_okS.cons hd.hd ht) hd.tl hH
      · cases hex
    · cases hex
  · cases hex
theorem ck_f_invokevirtual {A : Nat → Prop} {k : ck_K} (hk : ck_KF A k) {m : ck_M} {pc : Nat} {l : ck_L} {st : List Value} {h h' : ck_H} {r : Option Value} {ix : Nat} (hex : ck_i k m pc l st h (.invokevirtual ix) = some (r, h')) (hl : ck_okL A l) (hs : ck_okS A st) (hH : ck_okH A h) : ck_Fr A h h' ∧ ck_okH A h' ∧ (∀ v, r = some v → ck_ok A v) := by
  simp only [ck_i] at hex
  split at hex
  · exact ck_f_inv hk hex hl hs hH
  · cases hex
theorem ck_f_invokestatic {A : Nat → Prop} {k : ck_K} (hk : ck_KF A k) {m : ck_M} {pc : Nat} {l : ck_L} {st : List Value} {h h' : ck_H} {r : Option Value} {ix : Nat} (hex : ck_i k m pc l st h (.invokestatic ix) = some (r, h')) (hl : ck_okL A l) (hs : ck_okS A st) (hH : ck_okH A h) : ck_Fr A h h' ∧ ck_okH A h' ∧ (∀ v, r = some v → ck_ok A v) := by
  simp only [ck_i] at hex
  split at hex
  · exact ck_f_inv hk hex hl hs hH
  · cases hex
theorem ck_f_invokespecial {A : Nat → Prop} {k : ck_K} (hk : ck_KF A k) {m : ck_M} {pc : Nat} {l : ck_L} {st : List Value} {h h' : ck_H} {r : Option Value} {ix : Nat} (hex : ck_i k m pc l st h (.invokespecial ix) = some (r, h')) (hl : ck_okL A l) (hs : ck_okS A st) (hH : ck_okH A h) : ck_Fr A h h' ∧ ck_okH A h' ∧ (∀ v, r = some v → ck_ok A v) := by
  simp only [ck_i] at hex
  split at hex
  · exact ck_f_inv hk hex hl hs hH
  · cases hex
theorem ck_rv_ok {A : Nat → Prop} {m : ck_M} {st : List Value} {i : Instr} {r : Option Value} (hs : ck_okS A st) (h : ck_rv m st i = some r) : ∀ v, r = some v → ck_ok A v := by
  intro v hv
  subst hv
  cases i <;> simp only [ck_rv] at h <;> try (cases h; done)
  · split at h <;> cases h
    · exact hs.hd
    · exact ck_ok_n
  · split at h
    · cases h; exact ck_ok_i
    · split at h
      · cases h; exact ck_ok_i
      · cases h
    · cases h
  · split at h <;> cases h
    exact ck_ok_l
  · split at h <;> cases h
theorem ck_f_ireturn {A : Nat → Prop} {k : ck_K} (hk : ck_KF A k) {m : ck_M} {pc : Nat} {l : ck_L} {st : List Value} {h h' : ck_H} {r : Option Value} (hex : ck_i k m pc l st h (.ireturn) = some (r, h')) (hl : ck_okL A l) (hs : ck_okS A st) (hH : ck_okH A h) : ck_Fr A h h' ∧ ck_okH A h' ∧ (∀ v, r = some v → ck_ok A v) := by
  simp only [ck_i] at hex
  obtain ⟨r1, h1, h2⟩ := Option.map_eq_some_iff.mp hex
  cases h2
  exact ⟨ck_Fr.refl A h, hH, ck_rv_ok hs h1⟩
theorem ck_f_lreturn {A : Nat → Prop} {k : ck_K} (hk : ck_KF A k) {m : ck_M} {pc : Nat} {l : ck_L} {st : List Value} {h h' : ck_H} {r : Option Value} (hex : ck_i k m pc l st h (.lreturn) = some (r, h')) (hl : ck_okL A l) (hs : ck_okS A st) (hH : ck_okH A h) : ck_Fr A h h' ∧ ck_okH A h' ∧ (∀ v, r = some v → ck_ok A v) := by
  simp only [ck_i] at hex
  obtain ⟨r1, h1, h2⟩ := Option.map_eq_some_iff.mp hex
  cases h2
  exact ⟨ck_Fr.refl A h, hH, ck_rv_ok hs h1⟩
theorem ck_f_areturn {A : Nat → Prop} {k : ck_K} (hk : ck_KF A k) {m : ck_M} {pc : Nat} {l : ck_L} {st : List Value} {h h' : ck_H} {r : Option Value} (hex : ck_i k m pc l st h (.areturn) = some (r, h')) (hl : ck_okL A l) (hs : ck_okS A st) (hH : ck_okH A h) : ck_Fr A h h' ∧ ck_okH A h' ∧ (∀ v, r = some v → ck_ok A v) := by
  simp only [ck_i] at hex
  obtain ⟨r1, h1, h2⟩ := Option.map_eq_some_iff.mp hex
  cases h2
  exact ⟨ck_Fr.refl A h, hH, ck_rv_ok hs h1⟩
theorem ck_f_return_ {A : Nat → Prop} {k : ck_K} (hk : ck_KF A k) {m : ck_M} {pc : Nat} {l : ck_L} {st : List Value} {h h' : ck_H} {r : Option Value} (hex : ck_i k m pc l st h (.return_) = some (r, h')) (hl : ck_okL A l) (hs : ck_okS A st) (hH : ck_okH A h) : ck_Fr A h h' ∧ ck_okH A h' ∧ (∀ v, r = some v → ck_ok A v) := by
  simp only [ck_i] at hex
  obtain ⟨r1, h1, h2⟩ := Option.map_eq_some_iff.mp hex
  cases h2
  exact ⟨ck_Fr.refl A h, hH, ck_rv_ok hs h1⟩
theorem ck_f_step {A : Nat → Prop} {k : ck_K} (hk : ck_KF A k) {m : ck_M} {pc : Nat} {i : Instr} {l : ck_L} {st : List Value} {h h' : ck_H} {r : Option Value} (hex : ck_i k m pc l st h i = some (r, h')) (hl : ck_okL A l) (hs : ck_okS A st) (hH : ck_okH A h) : ck_Fr A h h' ∧ ck_okH A h' ∧ (∀ v, r = some v → ck_ok A v) := by
  cases i with
  | iconst z => exact ck_f_iconst hk hex hl hs hH
  | bipush z => exact ck_f_bipush hk hex hl hs hH
  | sipush z => exact ck_f_sipush hk hex hl hs hH
  | lconst z => exact ck_f_lconst hk hex hl hs hH
  | aconst_null => exact ck_f_aconst_null hk hex hl hs hH
  | ldc ix => exact ck_f_ldc hk hex hl hs hH
  | ldc2_w ix => exact ck_f_ldc2_w hk hex hl hs hH
  | iload i => exact ck_f_iload hk hex hl hs hH
  | iload_n i => exact ck_f_iload_n hk hex hl hs hH
  | lload i => exact ck_f_lload hk hex hl hs hH
  | lload_n i => exact ck_f_lload_n hk hex hl hs hH
  | aload i => exact ck_f_aload hk hex hl hs hH
  | aload_n i => exact ck_f_aload_n hk hex hl hs hH
  | istore i => exact ck_f_istore hk hex hl hs hH
  | istore_n i => exact ck_f_istore_n hk hex hl hs hH
  | lstore i => exact ck_f_lstore hk hex hl hs hH
  | astore i => exact ck_f_astore hk hex hl hs hH
  | astore_n i => exact ck_f_astore_n hk hex hl hs hH
  | iinc i z => exact ck_f_iinc hk hex hl hs hH
  | iadd => exact ck_f_iadd hk hex hl hs hH
  | isub => exact ck_f_isub hk hex hl hs hH
  | imul => exact ck_f_imul hk hex hl hs hH
  | iand => exact ck_f_iand hk hex hl hs hH
  | ior => exact ck_f_ior hk hex hl hs hH
  | ishl => exact ck_f_ishl hk hex hl hs hH
  | ishr => exact ck_f_ishr hk hex hl hs hH
  | ladd => exact ck_f_ladd hk hex hl hs hH
  | lsub => exact ck_f_lsub hk hex hl hs hH
  | lmul => exact ck_f_lmul hk hex hl hs hH
  | lxor => exact ck_f_lxor hk hex hl hs hH
  | lcmp => exact ck_f_lcmp hk hex hl hs hH
  | ineg => exact ck_f_ineg hk hex hl hs hH
  | i2l => exact ck_f_i2l hk hex hl hs hH
  | l2i => exact ck_f_l2i hk hex hl hs hH
  | i2b => exact ck_f_i2b hk hex hl hs hH
  | idiv => exact ck_f_idiv hk hex hl hs hH
  | irem => exact ck_f_irem hk hex hl hs hH
  | lrem => exact ck_f_lrem hk hex hl hs hH
  | dup => exact ck_f_dup hk hex hl hs hH
  | dup2 => exact ck_f_dup2 hk hex hl hs hH
  | goto off => exact ck_f_goto hk hex hl hs hH
  | ifCond c off => exact ck_f_ifCond hk hex hl hs hH
  | if_icmp c off => exact ck_f_if_icmp hk hex hl hs hH
  | ifnull off => exact ck_f_ifnull hk hex hl hs hH
  | ifnonnull off => exact ck_f_ifnonnull hk hex hl hs hH
  | tableswitch d lo hi offs => exact ck_f_tableswitch hk hex hl hs hH
  | lookupswitch d ps => exact ck_f_lookupswitch hk hex hl hs hH
  | getfield ix => exact ck_f_getfield hk hex hl hs hH
  | putfield ix => exact ck_f_putfield hk hex hl hs hH
  | iaload => exact ck_f_iaload hk hex hl hs hH
  | baload => exact ck_f_baload hk hex hl hs hH
  | aaload => exact ck_f_aaload hk hex hl hs hH
  | iastore => exact ck_f_iastore hk hex hl hs hH
  | bastore => exact ck_f_bastore hk hex hl hs hH
  | aastore => exact ck_f_aastore hk hex hl hs hH
  | arraylength => exact ck_f_arraylength hk hex hl hs hH
  | new ix => exact ck_f_new hk hex hl hs hH
  | newarray t => exact ck_f_newarray hk hex hl hs hH
  | anewarray ix => exact ck_f_anewarray hk hex hl hs hH
  | invokevirtual ix => exact ck_f_invokevirtual hk hex hl hs hH
  | invokestatic ix => exact ck_f_invokestatic hk hex hl hs hH
  | invokespecial ix => exact ck_f_invokespecial hk hex hl hs hH
  | ireturn => exact ck_f_ireturn hk hex hl hs hH
  | lreturn => exact ck_f_lreturn hk hex hl hs hH
  | areturn => exact ck_f_areturn hk hex hl hs hH
  | return_ => exact ck_f_return_ hk hex hl hs hH
  | _ => simp [ck_i] at hex
theorem ck_frame (A : Nat → Prop) : ∀ f : Nat, ck_KF A (ck_x f)
  | 0 => fun m pc l st h r h' hex => by simp [ck_x] at hex
  | f + 1 => fun m pc l st h r h' hex hl hs hH => by
    simp only [ck_x] at hex
    split at hex
    · exact ck_f_step (ck_frame A f) hex hl hs hH
    · cases hex
/-- a call touches only what it can reach -/
theorem Go.frame {A : Nat → Prop} {m : ck_M} {As : List Value} {n : Nat} {h h' : ck_H} {r : Option Value} (g : Go m 0 (ck_in As n) [] h (r, h')) (hA : ck_okS A As) (hH : ck_okH A h) : ck_Fr A h h' ∧ ck_okH A h' ∧ (∀ v, r = some v → ck_ok A v) := by
  obtain ⟨f, hf⟩ := g
  exact ck_frame A f _ _ _ _ _ _ _ (hf f (Nat.le_refl f)) (ck_okL.in hA) (fun v hv => by cases hv) hH
