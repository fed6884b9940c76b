/-- where an address goes: the script (1000000) to b, all others n further -/
def rho (n b a : Nat) : Nat := if a = 1000000 then b else n + a
def ck_ph (n b : Nat) : Value → Value
  | .ref a => .ref (rho n b a)
  | v => v
theorem ck_ph_cat (n b : Nat) (v : Value) : (ck_ph n b v).category = v.category := by cases v <;> rfl
/-- in the heap's domain -/
def ck_dm (h : ck_H) (a : Nat) : Prop := a < gn h ∨ a = 1000000
def ck_HP (n b : Nat) (h hr : ck_H) : Prop := b < n ∧ gn h ≤ 1000000 ∧ gn hr = n + gn h ∧ gu hr = gu h ∧ (∀ a, gk h a ≤ 21 → ck_dm h a) ∧ (∀ a, ck_dm h a → gk hr (rho n b a) = gk h a ∧ gz hr (rho n b a) = gz h a ∧ (∀ i, gI hr (rho n b a) i = gI h a i) ∧ (∀ i, gJ hr (rho n b a) i = gJ h a i) ∧ (∀ i, gR hr (rho n b a) i = (gR h a i).map (rho n b)))
theorem rho_inj {n b : Nat} {h : ck_H} {a c : Nat} (hb : b < n) (hg : gn h ≤ 1000000) (ha : ck_dm h a) (hc : ck_dm h c) (e : rho n b a = rho n b c) : a = c := by
  unfold rho at e
  unfold ck_dm at ha hc
  split at e <;> split at e <;> omega
def ck_lm (n b : Nat) (l : ck_L) : ck_L := l.map (Option.map (ck_ph n b))
def ck_sm (n b : Nat) (st : List Value) : List Value := st.map (ck_ph n b)
theorem ck_lm_get {n b i : Nat} {l : ck_L} {v : Value} (h : l[i]? = some (some v)) : (ck_lm n b l)[i]? = some (some (ck_ph n b v)) := by
  simp [ck_lm, h]
theorem ck_lm_nl {n b i : Nat} {l : ck_L} : ck_nl (ck_lm n b l) i = ck_nl l i := by
  cases i with
  | zero => rfl
  | succ i =>
    simp only [ck_nl, ck_lm, List.getElem?_map]
    cases l[i]? with
    | none => rfl
    | some x =>
      cases x with
      | none => rfl
      | some v => simp [ck_ph_cat]
theorem ck_lm_s1 {n b i : Nat} {l k : ck_L} {v : Value} (h : ck_s1 l i v = some k) : ck_s1 (ck_lm n b l) i (ck_ph n b v) = some (ck_lm n b k) := by
  unfold ck_s1 at h ⊢
  rw [ck_lm_nl, show (ck_lm n b l).length = l.length by simp [ck_lm]]
  split at h
  · rename_i hc
    cases h
    rw [if_pos hc]
    simp [ck_lm, List.map_set]
  · cases h
theorem ck_lm_s2 {n b i : Nat} {l k : ck_L} {v : Value} (h : ck_s2 l i v = some k) : ck_s2 (ck_lm n b l) i (ck_ph n b v) = some (ck_lm n b k) := by
  unfold ck_s2 at h ⊢
  rw [ck_lm_nl, show (ck_lm n b l).length = l.length by simp [ck_lm]]
  split at h
  · rename_i hc
    cases h
    rw [if_pos hc]
    simp [ck_lm, List.map_set]
  · cases h
theorem ck_sm_ent {n b : Nat} : ∀ As : List Value, ck_ent (ck_sm n b As) = ck_lm n b (ck_ent As)
  | [] => rfl
  | v :: t => by
    have ih := ck_sm_ent (n := n) (b := b) t
    simp only [ck_sm, List.map_cons] at ih ⊢
    simp only [ck_ent, ck_ph_cat]
    split
    · simp [ck_lm, ih]
    · simp [ck_lm, ih]
theorem ck_sm_in {n b k : Nat} {As : List Value} : ck_in (ck_sm n b As) k = ck_lm n b (ck_in As k) := by
  unfold ck_in
  rw [ck_sm_ent, show (ck_lm n b (ck_ent As)).length = (ck_ent As).length by simp [ck_lm]]
  simp [ck_lm]
theorem ck_sm_sum {n b : Nat} {r : List Value} : ck_sum (ck_sm n b r) = ck_sum r := by
  simp [ck_sum, ck_sm, Function.comp_def, ck_ph_cat]
/-- a machine that grows, and moves -/
def ck_KR (k : ck_K) : Prop := ∀ (n b : Nat) (m : ck_M) (pc : Nat) (l : ck_L) (st : List Value) (h hr : ck_H) (r : Option Value) (h' : ck_H), k m pc l st h = some (r, h') → gn h' ≤ 1000000 → ck_HP n b h hr → ∃ hr', k m pc (ck_lm n b l) (ck_sm n b st) hr = some (r.map (ck_ph n b), hr') ∧ ck_HP n b h' hr'
/-- one cell is written -/
theorem ck_HP.wI {n b a i : Nat} {x : Int32} {h hr : ck_H} (hp : ck_HP n b h hr) (ha : ck_dm h a) : ck_HP n b (wI h a i x) (wI hr (rho n b a) i x) := by
  obtain ⟨p1, p2, p3, p4, p5, p6⟩ := hp
  refine ⟨p1, p2, p3, p4, p5, fun c hc => ?_⟩
  obtain ⟨q1, q2, q3, q4, q5⟩ := p6 c hc
  refine ⟨q1, q2, fun j => ?_, q4, q5⟩
  rw [gI_wI, gI_wI]
  by_cases hca : c = a
  · subst hca; simp [q3]
  · have : ¬ rho n b c = rho n b a := fun e => hca (rho_inj p1 p2 hc ha e)
    simp [hca, this, q3]
theorem ck_HP.wJ {n b a i : Nat} {x : Int64} {h hr : ck_H} (hp : ck_HP n b h hr) (ha : ck_dm h a) : ck_HP n b (wJ h a i x) (wJ hr (rho n b a) i x) := by
  obtain ⟨p1, p2, p3, p4, p5, p6⟩ := hp
  refine ⟨p1, p2, p3, p4, p5, fun c hc => ?_⟩
  obtain ⟨q1, q2, q3, q4, q5⟩ := p6 c hc
  refine ⟨q1, q2, q3, fun j => ?_, q5⟩
  rw [gJ_wJ, gJ_wJ]
  by_cases hca : c = a
  · subst hca; simp [q4]
  · have : ¬ rho n b c = rho n b a := fun e => hca (rho_inj p1 p2 hc ha e)
    simp [hca, this, q4]
theorem ck_HP.wR {n b a i : Nat} {x : Option Nat} {h hr : ck_H} (hp : ck_HP n b h hr) (ha : ck_dm h a) : ck_HP n b (wR h a i x) (wR hr (rho n b a) i (x.map (rho n b))) := by
  obtain ⟨p1, p2, p3, p4, p5, p6⟩ := hp
  refine ⟨p1, p2, p3, p4, p5, fun c hc => ?_⟩
  obtain ⟨q1, q2, q3, q4, q5⟩ := p6 c hc
  refine ⟨q1, q2, q3, q4, fun j => ?_⟩
  rw [gR_wR, gR_wR]
  by_cases hca : c = a
  · subst hca
    by_cases hj : j = i
    · simp [hj]
    · simp [hj, q5]
  · have : ¬ rho n b c = rho n b a := fun e => hca (rho_inj p1 p2 hc ha e)
    simp [hca, this, q5]
theorem ck_HP.wC {n b a0 sp a dp k : Nat} {h hr : ck_H} (hp : ck_HP n b h hr) (h0 : ck_dm h a0) (ha : ck_dm h a) : ck_HP n b (wC h a0 sp a dp k) (wC hr (rho n b a0) sp (rho n b a) dp k) := by
  obtain ⟨p1, p2, p3, p4, p5, p6⟩ := hp
  refine ⟨p1, p2, p3, p4, p5, fun c hc => ?_⟩
  obtain ⟨q1, q2, q3, q4, q5⟩ := p6 c hc
  refine ⟨q1, q2, fun j => ?_, q4, q5⟩
  rw [gI_wC, gI_wC]
  have e0 : gI hr (rho n b a0) = gI h a0 := funext (p6 a0 h0).2.2.1
  have e1 : gI hr (rho n b a) = gI h a := funext (p6 a ha).2.2.1
  by_cases hca : c = a
  · subst hca; simp [e0, e1]
  · have : ¬ rho n b c = rho n b a := fun e => hca (rho_inj p1 p2 hc ha e)
    simp [hca, this, q3]
theorem ck_HP.wN {n b k s : Nat} {h hr : ck_H} (hp : ck_HP n b h hr) (hk : k ≤ 21) (hg : gn h + 1 ≤ 1000000) : ck_HP n b (wN h k s) (wN hr k s) ∧ gn hr = rho n b (gn h) := by
  obtain ⟨p1, p2, p3, p4, p5, p6⟩ := hp
  have eg : gn hr = rho n b (gn h) := by
    unfold rho
    rw [if_neg (by omega), p3]
  refine ⟨⟨p1, by rw [gn_wN]; exact hg, by rw [gn_wN, gn_wN]; omega, by rw [gu_wN, gu_wN, p4], fun a ha => ?_, fun c hc => ?_⟩, eg⟩
  · rw [gk_wN] at ha
    unfold ck_dm
    rw [gn_wN]
    split at ha
    · omega
    · have := p5 a ha
      unfold ck_dm at this
      omega
  · by_cases hcg : c = gn h
    · subst hcg
      rw [gk_wN, gz_wN, gk_wN, gz_wN, if_pos eg.symm, if_pos rfl, if_pos eg.symm, if_pos rfl]
      refine ⟨rfl, rfl, fun i => ?_, fun i => ?_, fun i => ?_⟩
      · rw [gI_wN, gI_wN, if_pos eg.symm, if_pos rfl]
      · rw [gJ_wN, gJ_wN, if_pos eg.symm, if_pos rfl]
      · rw [gR_wN, gR_wN, if_pos eg.symm, if_pos rfl]; rfl
    · have hc2 : ck_dm h c := by
        unfold ck_dm at hc ⊢
        rw [gn_wN] at hc
        omega
      have hne : ¬ rho n b c = gn hr := by
        rw [p3]
        unfold rho
        unfold ck_dm at hc2
        split <;> omega
      obtain ⟨q1, q2, q3, q4, q5⟩ := p6 c hc2
      refine ⟨?_, ?_, fun i => ?_, fun i => ?_, fun i => ?_⟩
      · rw [gk_wN, gk_wN, if_neg hne, if_neg hcg, q1]
      · rw [gz_wN, gz_wN, if_neg hne, if_neg hcg, q2]
      · rw [gI_wN, gI_wN, if_neg hne, if_neg hcg, q3]
      · rw [gJ_wN, gJ_wN, if_neg hne, if_neg hcg, q4]
      · rw [gR_wN, gR_wN, if_neg hne, if_neg hcg, q5]
theorem ck_rf_ph {n b : Nat} (x : Option Nat) : ck_ph n b (va_rf x) = va_rf (x.map (rho n b)) := by cases x <;> rfl
theorem ck_HP.fv {n b a c i : Nat} {h hr : ck_H} (hp : ck_HP n b h hr) (ha : ck_dm h a) : ck_fv hr (rho n b a) c i = ck_ph n b (ck_fv h a c i) := by
  obtain ⟨q1, q2, q3, q4, q5⟩ := hp.2.2.2.2.2 a ha
  unfold ck_fv
  split
  · rw [q3]; rfl
  · rw [q3]; rfl
  · rw [q4]; rfl
  · rw [q5, ck_rf_ph]
theorem ck_HP.put {n b a c i : Nat} {v : Value} {h hr h1 : ck_H} (hp : ck_HP n b h hr) (ha : ck_dm h a) (hx : ck_put h a c i v = some h1) : ∃ hr1, ck_put hr (rho n b a) c i (ck_ph n b v) = some hr1 ∧ ck_HP n b h1 hr1 := by
  unfold ck_put at hx
  split at hx
  · rename_i x e0
    cases hx
    exact ⟨_, by simp only [ck_put, e0, ck_ph], hp.wI ha⟩
  · rename_i x e0
    split at hx
    · rename_i hb
      cases hx
      exact ⟨_, by simp only [ck_put, e0, ck_ph, if_pos hb], hp.wI ha⟩
    · cases hx
  · rename_i x e0
    cases hx
    exact ⟨_, by simp only [ck_put, e0, ck_ph], hp.wJ ha⟩
  · rename_i x e0
    cases hx
    exact ⟨_, by simp only [ck_put, e0, ck_ph]; rfl, hp.wR ha⟩
  · rename_i e0
    cases hx
    exact ⟨_, by simp only [ck_put, e0, ck_ph]; rfl, hp.wR ha⟩
  · cases hx
theorem ck_v_iconst {k : ck_K} (hk : ck_KR k) (hs : ck_KS k) {n b : Nat} {m : ck_M} {pc : Nat} {l : ck_L} {st : List Value} {h hr h' : ck_H} {r : Option Value} {z : Int} (hex : ck_i k m pc l st h (.iconst z) = some (r, h')) (hg : gn h' ≤ 1000000) (hp : ck_HP n b h hr) : ∃ hr', ck_i k m pc (ck_lm n b l) (ck_sm n b st) hr (.iconst z) = some (r.map (ck_ph n b), hr') ∧ ck_HP n b h' hr' := by
  simp only [ck_i] at hex ⊢
  exact hk n b _ _ _ _ _ _ _ _ hex hg hp
theorem ck_v_bipush {k : ck_K} (hk : ck_KR k) (hs : ck_KS k) {n b : Nat} {m : ck_M} {pc : Nat} {l : ck_L} {st : List Value} {h hr h' : ck_H} {r : Option Value} {z : Int} (hex : ck_i k m pc l st h (.bipush z) = some (r, h')) (hg : gn h' ≤ 1000000) (hp : ck_HP n b h hr) : ∃ hr', ck_i k m pc (ck_lm n b l) (ck_sm n b st) hr (.bipush z) = some (r.map (ck_ph n b), hr') ∧ ck_HP n b h' hr' := by
  simp only [ck_i] at hex ⊢
  exact hk n b _ _ _ _ _ _ _ _ hex hg hp
theorem ck_v_sipush {k : ck_K} (hk : ck_KR k) (hs : ck_KS k) {n b : Nat} {m : ck_M} {pc : Nat} {l : ck_L} {st : List Value} {h hr h' : ck_H} {r : Option Value} {z : Int} (hex : ck_i k m pc l st h (.sipush z) = some (r, h')) (hg : gn h' ≤ 1000000) (hp : ck_HP n b h hr) : ∃ hr', ck_i k m pc (ck_lm n b l) (ck_sm n b st) hr (.sipush z) = some (r.map (ck_ph n b), hr') ∧ ck_HP n b h' hr' := by
  simp only [ck_i] at hex ⊢
  exact hk n b _ _ _ _ _ _ _ _ hex hg hp
theorem ck_v_lconst {k : ck_K} (hk : ck_KR k) (hs : ck_KS k) {n b : Nat} {m : ck_M} {pc : Nat} {l : ck_L} {st : List Value} {h hr h' : ck_H} {r : Option Value} {z : Fin 2} (hex : ck_i k m pc l st h (.lconst z) = some (r, h')) (hg : gn h' ≤ 1000000) (hp : ck_HP n b h hr) : ∃ hr', ck_i k m pc (ck_lm n b l) (ck_sm n b st) hr (.lconst z) = some (r.map (ck_ph n b), hr') ∧ ck_HP n b h' hr' := by
  simp only [ck_i] at hex ⊢
  exact hk n b _ _ _ _ _ _ _ _ hex hg hp
theorem ck_v_aconst_null {k : ck_K} (hk : ck_KR k) (hs : ck_KS k) {n b : Nat} {m : ck_M} {pc : Nat} {l : ck_L} {st : List Value} {h hr h' : ck_H} {r : Option Value} (hex : ck_i k m pc l st h (.aconst_null) = some (r, h')) (hg : gn h' ≤ 1000000) (hp : ck_HP n b h hr) : ∃ hr', ck_i k m pc (ck_lm n b l) (ck_sm n b st) hr (.aconst_null) = some (r.map (ck_ph n b), hr') ∧ ck_HP n b h' hr' := by
  simp only [ck_i] at hex ⊢
  exact hk n b _ _ _ _ _ _ _ _ hex hg hp
theorem ck_v_ldc {k : ck_K} (hk : ck_KR k) (hs : ck_KS k) {n b : Nat} {m : ck_M} {pc : Nat} {l : ck_L} {st : List Value} {h hr h' : ck_H} {r : Option Value} {ix : Nat} (hex : ck_i k m pc l st h (.ldc ix) = some (r, h')) (hg : gn h' ≤ 1000000) (hp : ck_HP n b h hr) : ∃ hr', ck_i k m pc (ck_lm n b l) (ck_sm n b st) hr (.ldc ix) = some (r.map (ck_ph n b), hr') ∧ ck_HP n b h' hr' := by
  simp only [ck_i] at hex ⊢
  split at hex
  · exact hk n b _ _ _ _ _ _ _ _ hex hg hp
  · cases hex
theorem ck_v_ldc2_w {k : ck_K} (hk : ck_KR k) (hs : ck_KS k) {n b : Nat} {m : ck_M} {pc : Nat} {l : ck_L} {st : List Value} {h hr h' : ck_H} {r : Option Value} {ix : Nat} (hex : ck_i k m pc l st h (.ldc2_w ix) = some (r, h')) (hg : gn h' ≤ 1000000) (hp : ck_HP n b h hr) : ∃ hr', ck_i k m pc (ck_lm n b l) (ck_sm n b st) hr (.ldc2_w ix) = some (r.map (ck_ph n b), hr') ∧ ck_HP n b h' hr' := by
  simp only [ck_i] at hex ⊢
  split at hex
  · exact hk n b _ _ _ _ _ _ _ _ hex hg hp
  · cases hex
theorem ck_v_iload {k : ck_K} (hk : ck_KR k) (hs : ck_KS k) {n b : Nat} {m : ck_M} {pc : Nat} {l : ck_L} {st : List Value} {h hr h' : ck_H} {r : Option Value} {i : Nat} (hex : ck_i k m pc l st h (.iload i) = some (r, h')) (hg : gn h' ≤ 1000000) (hp : ck_HP n b h hr) : ∃ hr', ck_i k m pc (ck_lm n b l) (ck_sm n b st) hr (.iload i) = some (r.map (ck_ph n b), hr') ∧ ck_HP n b h' hr' := by
  simp only [ck_i, ck_ldi] at hex ⊢
  split at hex
  · rename_i x hx
    simp only [ck_lm_get hx, ck_ph]
    exact hk n b _ _ _ _ _ _ _ _ hex hg hp
  · cases hex
theorem ck_v_iload_n {k : ck_K} (hk : ck_KR k) (hs : ck_KS k) {n b : Nat} {m : ck_M} {pc : Nat} {l : ck_L} {st : List Value} {h hr h' : ck_H} {r : Option Value} {i : Fin 4} (hex : ck_i k m pc l st h (.iload_n i) = some (r, h')) (hg : gn h' ≤ 1000000) (hp : ck_HP n b h hr) : ∃ hr', ck_i k m pc (ck_lm n b l) (ck_sm n b st) hr (.iload_n i) = some (r.map (ck_ph n b), hr') ∧ ck_HP n b h' hr' := by
  simp only [ck_i, ck_ldi] at hex ⊢
  split at hex
  · rename_i x hx
    simp only [ck_lm_get hx, ck_ph]
    exact hk n b _ _ _ _ _ _ _ _ hex hg hp
  · cases hex
theorem ck_v_lload {k : ck_K} (hk : ck_KR k) (hs : ck_KS k) {n b : Nat} {m : ck_M} {pc : Nat} {l : ck_L} {st : List Value} {h hr h' : ck_H} {r : Option Value} {i : Nat} (hex : ck_i k m pc l st h (.lload i) = some (r, h')) (hg : gn h' ≤ 1000000) (hp : ck_HP n b h hr) : ∃ hr', ck_i k m pc (ck_lm n b l) (ck_sm n b st) hr (.lload i) = some (r.map (ck_ph n b), hr') ∧ ck_HP n b h' hr' := by
  simp only [ck_i, ck_ldl] at hex ⊢
  split at hex
  · rename_i x hx
    simp only [ck_lm_get hx, ck_ph]
    exact hk n b _ _ _ _ _ _ _ _ hex hg hp
  · cases hex
theorem ck_v_lload_n {k : ck_K} (hk : ck_KR k) (hs : ck_KS k) {n b : Nat} {m : ck_M} {pc : Nat} {l : ck_L} {st : List Value} {h hr h' : ck_H} {r : Option Value} {i : Fin 4} (hex : ck_i k m pc l st h (.lload_n i) = some (r, h')) (hg : gn h' ≤ 1000000) (hp : ck_HP n b h hr) : ∃ hr', ck_i k m pc (ck_lm n b l) (ck_sm n b st) hr (.lload_n i) = some (r.map (ck_ph n b), hr') ∧ ck_HP n b h' hr' := by
  simp only [ck_i, ck_ldl] at hex ⊢
  split at hex
  · rename_i x hx
    simp only [ck_lm_get hx, ck_ph]
    exact hk n b _ _ _ _ _ _ _ _ hex hg hp
  · cases hex
theorem ck_v_aload {k : ck_K} (hk : ck_KR k) (hs : ck_KS k) {n b : Nat} {m : ck_M} {pc : Nat} {l : ck_L} {st : List Value} {h hr h' : ck_H} {r : Option Value} {i : Nat} (hex : ck_i k m pc l st h (.aload i) = some (r, h')) (hg : gn h' ≤ 1000000) (hp : ck_HP n b h hr) : ∃ hr', ck_i k m pc (ck_lm n b l) (ck_sm n b st) hr (.aload i) = some (r.map (ck_ph n b), hr') ∧ ck_HP n b h' hr' := by
  simp only [ck_i, ck_lda] at hex ⊢
  split at hex
  · rename_i x hx
    simp only [ck_lm_get hx, ck_ph]
    exact hk n b _ _ _ _ _ _ _ _ hex hg hp
  · rename_i hx
    simp only [ck_lm_get hx, ck_ph]
    exact hk n b _ _ _ _ _ _ _ _ hex hg hp
  · cases hex
theorem ck_v_aload_n {k : ck_K} (hk : ck_KR k) (hs : ck_KS k) {n b : Nat} {m : ck_M} {pc : Nat} {l : ck_L} {st : List Value} {h hr h' : ck_H} {r : Option Value} {i : Fin 4} (hex : ck_i k m pc l st h (.aload_n i) = some (r, h')) (hg : gn h' ≤ 1000000) (hp : ck_HP n b h hr) : ∃ hr', ck_i k m pc (ck_lm n b l) (ck_sm n b st) hr (.aload_n i) = some (r.map (ck_ph n b), hr') ∧ ck_HP n b h' hr' := by
  simp only [ck_i, ck_lda] at hex ⊢
  split at hex
  · rename_i x hx
    simp only [ck_lm_get hx, ck_ph]
    exact hk n b _ _ _ _ _ _ _ _ hex hg hp
  · rename_i hx
    simp only [ck_lm_get hx, ck_ph]
    exact hk n b _ _ _ _ _ _ _ _ hex hg hp
  · cases hex
theorem ck_v_istore {k : ck_K} (hk : ck_KR k) (hs : ck_KS k) {n b : Nat} {m : ck_M} {pc : Nat} {l : ck_L} {st : List Value} {h hr h' : ck_H} {r : Option Value} {i : Nat} (hex : ck_i k m pc l st h (.istore i) = some (r, h')) (hg : gn h' ≤ 1000000) (hp : ck_HP n b h hr) : ∃ hr', ck_i k m pc (ck_lm n b l) (ck_sm n b st) hr (.istore i) = some (r.map (ck_ph n b), hr') ∧ ck_HP n b h' hr' := by
  simp only [ck_i, ck_soi] at hex ⊢
  split at hex
  · skip
    unfold ck_sv at hex
    split at hex
    · rename_i lx hx
      have hy := ck_lm_s1 (n := n) (b := b) hx
      simp only [ck_sm, List.map_cons, ck_ph] at hy ⊢
      simp only [hy, ck_sv]
      exact hk n b _ _ _ _ _ _ _ _ hex hg hp
    · cases hex
  · cases hex
theorem ck_v_istore_n {k : ck_K} (hk : ck_KR k) (hs : ck_KS k) {n b : Nat} {m : ck_M} {pc : Nat} {l : ck_L} {st : List Value} {h hr h' : ck_H} {r : Option Value} {i : Fin 4} (hex : ck_i k m pc l st h (.istore_n i) = some (r, h')) (hg : gn h' ≤ 1000000) (hp : ck_HP n b h hr) : ∃ hr', ck_i k m pc (ck_lm n b l) (ck_sm n b st) hr (.istore_n i) = some (r.map (ck_ph n b), hr') ∧ ck_HP n b h' hr' := by
  simp only [ck_i, ck_soi] at hex ⊢
  split at hex
  · skip
    unfold ck_sv at hex
    split at hex
    · rename_i lx hx
      have hy := ck_lm_s1 (n := n) (b := b) hx
      simp only [ck_sm, List.map_cons, ck_ph] at hy ⊢
      simp only [hy, ck_sv]
      exact hk n b _ _ _ _ _ _ _ _ hex hg hp
    · cases hex
  · cases hex
theorem ck_v_lstore {k : ck_K} (hk : ck_KR k) (hs : ck_KS k) {n b : Nat} {m : ck_M} {pc : Nat} {l : ck_L} {st : List Value} {h hr h' : ck_H} {r : Option Value} {i : Nat} (hex : ck_i k m pc l st h (.lstore i) = some (r, h')) (hg : gn h' ≤ 1000000) (hp : ck_HP n b h hr) : ∃ hr', ck_i k m pc (ck_lm n b l) (ck_sm n b st) hr (.lstore i) = some (r.map (ck_ph n b), hr') ∧ ck_HP n b h' hr' := by
  simp only [ck_i, ck_sol] at hex ⊢
  split at hex
  · skip
    unfold ck_sv at hex
    split at hex
    · rename_i lx hx
      have hy := ck_lm_s2 (n := n) (b := b) hx
      simp only [ck_sm, List.map_cons, ck_ph] at hy ⊢
      simp only [hy, ck_sv]
      exact hk n b _ _ _ _ _ _ _ _ hex hg hp
    · cases hex
  · cases hex
theorem ck_v_astore {k : ck_K} (hk : ck_KR k) (hs : ck_KS k) {n b : Nat} {m : ck_M} {pc : Nat} {l : ck_L} {st : List Value} {h hr h' : ck_H} {r : Option Value} {i : Nat} (hex : ck_i k m pc l st h (.astore i) = some (r, h')) (hg : gn h' ≤ 1000000) (hp : ck_HP n b h hr) : ∃ hr', ck_i k m pc (ck_lm n b l) (ck_sm n b st) hr (.astore i) = some (r.map (ck_ph n b), hr') ∧ ck_HP n b h' hr' := by
  simp only [ck_i, ck_soa] at hex ⊢
  split at hex
  · skip
    unfold ck_sv at hex
    split at hex
    · rename_i lx hx
      have hy := ck_lm_s1 (n := n) (b := b) hx
      simp only [ck_sm, List.map_cons, ck_ph] at hy ⊢
      simp only [hy, ck_sv]
      exact hk n b _ _ _ _ _ _ _ _ hex hg hp
    · cases hex
  · skip
    unfold ck_sv at hex
    split at hex
    · rename_i lx hx
      have hy := ck_lm_s1 (n := n) (b := b) hx
      simp only [ck_sm, List.map_cons, ck_ph] at hy ⊢
      simp only [hy, ck_sv]
      exact hk n b _ _ _ _ _ _ _ _ hex hg hp
    · cases hex
  · cases hex
theorem ck_v_astore_n {k : ck_K} (hk : ck_KR k) (hs : ck_KS k) {n b : Nat} {m : ck_M} {pc : Nat} {l : ck_L} {st : List Value} {h hr h' : ck_H} {r : Option Value} {i : Fin 4} (hex : ck_i k m pc l st h (.astore_n i) = some (r, h')) (hg : gn h' ≤ 1000000) (hp : ck_HP n b h hr) : ∃ hr', ck_i k m pc (ck_lm n b l) (ck_sm n b st) hr (.astore_n i) = some (r.map (ck_ph n b), hr') ∧ ck_HP n b h' hr' := by
  simp only [ck_i, ck_soa] at hex ⊢
  split at hex
  · skip
    unfold ck_sv at hex
    split at hex
    · rename_i lx hx
      have hy := ck_lm_s1 (n := n) (b := b) hx
      simp only [ck_sm, List.map_cons, ck_ph] at hy ⊢
      simp only [hy, ck_sv]
      exact hk n b _ _ _ _ _ _ _ _ hex hg hp
    · cases hex
  · skip
    unfold ck_sv at hex
    split at hex
    · rename_i lx hx
      have hy := ck_lm_s1 (n := n) (b := b) hx
      simp only [ck_sm, List.map_cons, ck_ph] at hy ⊢
      simp only [hy, ck_sv]
      exact hk n b _ _ _ _ _ _ _ _ hex hg hp
    · cases hex
  · cases hex
theorem ck_v_iinc {k : ck_K} (hk : ck_KR k) (hs : ck_KS k) {n b : Nat} {m : ck_M} {pc : Nat} {l : ck_L} {st : List Value} {h hr h' : ck_H} {r : Option Value} {i : Nat} {z : Int} (hex : ck_i k m pc l st h (.iinc i z) = some (r, h')) (hg : gn h' ≤ 1000000) (hp : ck_HP n b h hr) : ∃ hr', ck_i k m pc (ck_lm n b l) (ck_sm n b st) hr (.iinc i z) = some (r.map (ck_ph n b), hr') ∧ ck_HP n b h' hr' := by
  simp only [ck_i] at hex ⊢
  split at hex
  · rename_i x hx0
    simp only [ck_lm_get hx0, ck_ph]
    unfold ck_sv at hex
    split at hex
    · rename_i lx hx
      have hy := ck_lm_s1 (n := n) (b := b) hx
      simp only [ck_ph] at hy
      simp only [hy, ck_sv]
      exact hk n b _ _ _ _ _ _ _ _ hex hg hp
    · cases hex
  · cases hex
theorem ck_v_iadd {k : ck_K} (hk : ck_KR k) (hs : ck_KS k) {n b : Nat} {m : ck_M} {pc : Nat} {l : ck_L} {st : List Value} {h hr h' : ck_H} {r : Option Value} (hex : ck_i k m pc l st h (.iadd) = some (r, h')) (hg : gn h' ≤ 1000000) (hp : ck_HP n b h hr) : ∃ hr', ck_i k m pc (ck_lm n b l) (ck_sm n b st) hr (.iadd) = some (r.map (ck_ph n b), hr') ∧ ck_HP n b h' hr' := by
  simp only [ck_i] at hex ⊢
  split at hex
  · exact hk n b _ _ _ _ _ _ _ _ hex hg hp
  · cases hex
theorem ck_v_isub {k : ck_K} (hk : ck_KR k) (hs : ck_KS k) {n b : Nat} {m : ck_M} {pc : Nat} {l : ck_L} {st : List Value} {h hr h' : ck_H} {r : Option Value} (hex : ck_i k m pc l st h (.isub) = some (r, h')) (hg : gn h' ≤ 1000000) (hp : ck_HP n b h hr) : ∃ hr', ck_i k m pc (ck_lm n b l) (ck_sm n b st) hr (.isub) = some (r.map (ck_ph n b), hr') ∧ ck_HP n b h' hr' := by
  simp only [ck_i] at hex ⊢
  split at hex
  · exact hk n b _ _ _ _ _ _ _ _ hex hg hp
  · cases hex
theorem ck_v_imul {k : ck_K} (hk : ck_KR k) (hs : ck_KS k) {n b : Nat} {m : ck_M} {pc : Nat} {l : ck_L} {st : List Value} {h hr h' : ck_H} {r : Option Value} (hex : ck_i k m pc l st h (.imul) = some (r, h')) (hg : gn h' ≤ 1000000) (hp : ck_HP n b h hr) : ∃ hr', ck_i k m pc (ck_lm n b l) (ck_sm n b st) hr (.imul) = some (r.map (ck_ph n b), hr') ∧ ck_HP n b h' hr' := by
  simp only [ck_i] at hex ⊢
  split at hex
  · exact hk n b _ _ _ _ _ _ _ _ hex hg hp
  · cases hex
theorem ck_v_iand {k : ck_K} (hk : ck_KR k) (hs : ck_KS k) {n b : Nat} {m : ck_M} {pc : Nat} {l : ck_L} {st : List Value} {h hr h' : ck_H} {r : Option Value} (hex : ck_i k m pc l st h (.iand) = some (r, h')) (hg : gn h' ≤ 1000000) (hp : ck_HP n b h hr) : ∃ hr', ck_i k m pc (ck_lm n b l) (ck_sm n b st) hr (.iand) = some (r.map (ck_ph n b), hr') ∧ ck_HP n b h' hr' := by
  simp only [ck_i] at hex ⊢
  split at hex
  · exact hk n b _ _ _ _ _ _ _ _ hex hg hp
  · cases hex
theorem ck_v_ior {k : ck_K} (hk : ck_KR k) (hs : ck_KS k) {n b : Nat} {m : ck_M} {pc : Nat} {l : ck_L} {st : List Value} {h hr h' : ck_H} {r : Option Value} (hex : ck_i k m pc l st h (.ior) = some (r, h')) (hg : gn h' ≤ 1000000) (hp : ck_HP n b h hr) : ∃ hr', ck_i k m pc (ck_lm n b l) (ck_sm n b st) hr (.ior) = some (r.map (ck_ph n b), hr') ∧ ck_HP n b h' hr' := by
  simp only [ck_i] at hex ⊢
  split at hex
  · exact hk n b _ _ _ _ _ _ _ _ hex hg hp
  · cases hex
theorem ck_v_ishl {k : ck_K} (hk : ck_KR k) (hs : ck_KS k) {n b : Nat} {m : ck_M} {pc : Nat} {l : ck_L} {st : List Value} {h hr h' : ck_H} {r : Option Value} (hex : ck_i k m pc l st h (.ishl) = some (r, h')) (hg : gn h' ≤ 1000000) (hp : ck_HP n b h hr) : ∃ hr', ck_i k m pc (ck_lm n b l) (ck_sm n b st) hr (.ishl) = some (r.map (ck_ph n b), hr') ∧ ck_HP n b h' hr' := by
  simp only [ck_i] at hex ⊢
  split at hex
  · exact hk n b _ _ _ _ _ _ _ _ hex hg hp
  · cases hex
theorem ck_v_ishr {k : ck_K} (hk : ck_KR k) (hs : ck_KS k) {n b : Nat} {m : ck_M} {pc : Nat} {l : ck_L} {st : List Value} {h hr h' : ck_H} {r : Option Value} (hex : ck_i k m pc l st h (.ishr) = some (r, h')) (hg : gn h' ≤ 1000000) (hp : ck_HP n b h hr) : ∃ hr', ck_i k m pc (ck_lm n b l) (ck_sm n b st) hr (.ishr) = some (r.map (ck_ph n b), hr') ∧ ck_HP n b h' hr' := by
  simp only [ck_i] at hex ⊢
  split at hex
  · exact hk n b _ _ _ _ _ _ _ _ hex hg hp
  · cases hex
theorem ck_v_ineg {k : ck_K} (hk : ck_KR k) (hs : ck_KS k) {n b : Nat} {m : ck_M} {pc : Nat} {l : ck_L} {st : List Value} {h hr h' : ck_H} {r : Option Value} (hex : ck_i k m pc l st h (.ineg) = some (r, h')) (hg : gn h' ≤ 1000000) (hp : ck_HP n b h hr) : ∃ hr', ck_i k m pc (ck_lm n b l) (ck_sm n b st) hr (.ineg) = some (r.map (ck_ph n b), hr') ∧ ck_HP n b h' hr' := by
  simp only [ck_i] at hex ⊢
  split at hex
  · exact hk n b _ _ _ _ _ _ _ _ hex hg hp
  · cases hex
theorem ck_v_i2l {k : ck_K} (hk : ck_KR k) (hs : ck_KS k) {n b : Nat} {m : ck_M} {pc : Nat} {l : ck_L} {st : List Value} {h hr h' : ck_H} {r : Option Value} (hex : ck_i k m pc l st h (.i2l) = some (r, h')) (hg : gn h' ≤ 1000000) (hp : ck_HP n b h hr) : ∃ hr', ck_i k m pc (ck_lm n b l) (ck_sm n b st) hr (.i2l) = some (r.map (ck_ph n b), hr') ∧ ck_HP n b h' hr' := by
  simp only [ck_i] at hex ⊢
  split at hex
  · exact hk n b _ _ _ _ _ _ _ _ hex hg hp
  · cases hex
theorem ck_v_l2i {k : ck_K} (hk : ck_KR k) (hs : ck_KS k) {n b : Nat} {m : ck_M} {pc : Nat} {l : ck_L} {st : List Value} {h hr h' : ck_H} {r : Option Value} (hex : ck_i k m pc l st h (.l2i) = some (r, h')) (hg : gn h' ≤ 1000000) (hp : ck_HP n b h hr) : ∃ hr', ck_i k m pc (ck_lm n b l) (ck_sm n b st) hr (.l2i) = some (r.map (ck_ph n b), hr') ∧ ck_HP n b h' hr' := by
  simp only [ck_i] at hex ⊢
  split at hex
  · exact hk n b _ _ _ _ _ _ _ _ hex hg hp
  · cases hex
theorem ck_v_i2b {k : ck_K} (hk : ck_KR k) (hs : ck_KS k) {n b : Nat} {m : ck_M} {pc : Nat} {l : ck_L} {st : List Value} {h hr h' : ck_H} {r : Option Value} (hex : ck_i k m pc l st h (.i2b) = some (r, h')) (hg : gn h' ≤ 1000000) (hp : ck_HP n b h hr) : ∃ hr', ck_i k m pc (ck_lm n b l) (ck_sm n b st) hr (.i2b) = some (r.map (ck_ph n b), hr') ∧ ck_HP n b h' hr' := by
  simp only [ck_i] at hex ⊢
  split at hex
  · exact hk n b _ _ _ _ _ _ _ _ hex hg hp
  · cases hex
theorem ck_v_ladd {k : ck_K} (hk : ck_KR k) (hs : ck_KS k) {n b : Nat} {m : ck_M} {pc : Nat} {l : ck_L} {st : List Value} {h hr h' : ck_H} {r : Option Value} (hex : ck_i k m pc l st h (.ladd) = some (r, h')) (hg : gn h' ≤ 1000000) (hp : ck_HP n b h hr) : ∃ hr', ck_i k m pc (ck_lm n b l) (ck_sm n b st) hr (.ladd) = some (r.map (ck_ph n b), hr') ∧ ck_HP n b h' hr' := by
  simp only [ck_i] at hex ⊢
  split at hex
  · exact hk n b _ _ _ _ _ _ _ _ hex hg hp
  · cases hex
theorem ck_v_lsub {k : ck_K} (hk : ck_KR k) (hs : ck_KS k) {n b : Nat} {m : ck_M} {pc : Nat} {l : ck_L} {st : List Value} {h hr h' : ck_H} {r : Option Value} (hex : ck_i k m pc l st h (.lsub) = some (r, h')) (hg : gn h' ≤ 1000000) (hp : ck_HP n b h hr) : ∃ hr', ck_i k m pc (ck_lm n b l) (ck_sm n b st) hr (.lsub) = some (r.map (ck_ph n b), hr') ∧ ck_HP n b h' hr' := by
  simp only [ck_i] at hex ⊢
  split at hex
  · exact hk n b _ _ _ _ _ _ _ _ hex hg hp
  · cases hex
theorem ck_v_lmul {k : ck_K} (hk : ck_KR k) (hs : ck_KS k) {n b : Nat} {m : ck_M} {pc : Nat} {l : ck_L} {st : List Value} {h hr h' : ck_H} {r : Option Value} (hex : ck_i k m pc l st h (.lmul) = some (r, h')) (hg : gn h' ≤ 1000000) (hp : ck_HP n b h hr) : ∃ hr', ck_i k m pc (ck_lm n b l) (ck_sm n b st) hr (.lmul) = some (r.map (ck_ph n b), hr') ∧ ck_HP n b h' hr' := by
  simp only [ck_i] at hex ⊢
  split at hex
  · exact hk n b _ _ _ _ _ _ _ _ hex hg hp
  · cases hex
theorem ck_v_lxor {k : ck_K} (hk : ck_KR k) (hs : ck_KS k) {n b : Nat} {m : ck_M} {pc : Nat} {l : ck_L} {st : List Value} {h hr h' : ck_H} {r : Option Value} (hex : ck_i k m pc l st h (.lxor) = some (r, h')) (hg : gn h' ≤ 1000000) (hp : ck_HP n b h hr) : ∃ hr', ck_i k m pc (ck_lm n b l) (ck_sm n b st) hr (.lxor) = some (r.map (ck_ph n b), hr') ∧ ck_HP n b h' hr' := by
  simp only [ck_i] at hex ⊢
  split at hex
  · exact hk n b _ _ _ _ _ _ _ _ hex hg hp
  · cases hex
theorem ck_v_lcmp {k : ck_K} (hk : ck_KR k) (hs : ck_KS k) {n b : Nat} {m : ck_M} {pc : Nat} {l : ck_L} {st : List Value} {h hr h' : ck_H} {r : Option Value} (hex : ck_i k m pc l st h (.lcmp) = some (r, h')) (hg : gn h' ≤ 1000000) (hp : ck_HP n b h hr) : ∃ hr', ck_i k m pc (ck_lm n b l) (ck_sm n b st) hr (.lcmp) = some (r.map (ck_ph n b), hr') ∧ ck_HP n b h' hr' := by
  simp only [ck_i] at hex ⊢
  split at hex
  · exact hk n b _ _ _ _ _ _ _ _ hex hg hp
  · cases hex
theorem ck_v_idiv {k : ck_K} (hk : ck_KR k) (hs : ck_KS k) {n b : Nat} {m : ck_M} {pc : Nat} {l : ck_L} {st : List Value} {h hr h' : ck_H} {r : Option Value} (hex : ck_i k m pc l st h (.idiv) = some (r, h')) (hg : gn h' ≤ 1000000) (hp : ck_HP n b h hr) : ∃ hr', ck_i k m pc (ck_lm n b l) (ck_sm n b st) hr (.idiv) = some (r.map (ck_ph n b), hr') ∧ ck_HP n b h' hr' := by
  simp only [ck_i] at hex ⊢
  split at hex
  · split at hex
    · rename_i hx
      simp only [ck_sm, List.map_cons, ck_ph, if_pos hx]
      exact hk n b _ _ _ _ _ _ _ _ hex hg hp
    · cases hex
  · cases hex
theorem ck_v_irem {k : ck_K} (hk : ck_KR k) (hs : ck_KS k) {n b : Nat} {m : ck_M} {pc : Nat} {l : ck_L} {st : List Value} {h hr h' : ck_H} {r : Option Value} (hex : ck_i k m pc l st h (.irem) = some (r, h')) (hg : gn h' ≤ 1000000) (hp : ck_HP n b h hr) : ∃ hr', ck_i k m pc (ck_lm n b l) (ck_sm n b st) hr (.irem) = some (r.map (ck_ph n b), hr') ∧ ck_HP n b h' hr' := by
  simp only [ck_i] at hex ⊢
  split at hex
  · split at hex
    · rename_i hx
      simp only [ck_sm, List.map_cons, ck_ph, if_pos hx]
      exact hk n b _ _ _ _ _ _ _ _ hex hg hp
    · cases hex
  · cases hex
theorem ck_v_lrem {k : ck_K} (hk : ck_KR k) (hs : ck_KS k) {n b : Nat} {m : ck_M} {pc : Nat} {l : ck_L} {st : List Value} {h hr h' : ck_H} {r : Option Value} (hex : ck_i k m pc l st h (.lrem) = some (r, h')) (hg : gn h' ≤ 1000000) (hp : ck_HP n b h hr) : ∃ hr', ck_i k m pc (ck_lm n b l) (ck_sm n b st) hr (.lrem) = some (r.map (ck_ph n b), hr') ∧ ck_HP n b h' hr' := by
  simp only [ck_i] at hex ⊢
  split at hex
  · split at hex
    · rename_i hx
      simp only [ck_sm, List.map_cons, ck_ph, if_pos hx]
      exact hk n b _ _ _ _ _ _ _ _ hex hg hp
    · cases hex
  · cases hex
theorem ck_v_dup {k : ck_K} (hk : ck_KR k) (hs : ck_KS k) {n b : Nat} {m : ck_M} {pc : Nat} {l : ck_L} {st : List Value} {h hr h' : ck_H} {r : Option Value} (hex : ck_i k m pc l st h (.dup) = some (r, h')) (hg : gn h' ≤ 1000000) (hp : ck_HP n b h hr) : ∃ hr', ck_i k m pc (ck_lm n b l) (ck_sm n b st) hr (.dup) = some (r.map (ck_ph n b), hr') ∧ ck_HP n b h' hr' := by
  simp only [ck_i] at hex ⊢
  split at hex
  · split at hex
    · rename_i hx
      simp only [ck_sm, List.map_cons, ck_ph_cat, if_pos hx]
      exact hk n b _ _ _ _ _ _ _ _ hex hg hp
    · cases hex
  · cases hex
theorem ck_v_dup2 {k : ck_K} (hk : ck_KR k) (hs : ck_KS k) {n b : Nat} {m : ck_M} {pc : Nat} {l : ck_L} {st : List Value} {h hr h' : ck_H} {r : Option Value} (hex : ck_i k m pc l st h (.dup2) = some (r, h')) (hg : gn h' ≤ 1000000) (hp : ck_HP n b h hr) : ∃ hr', ck_i k m pc (ck_lm n b l) (ck_sm n b st) hr (.dup2) = some (r.map (ck_ph n b), hr') ∧ ck_HP n b h' hr' := by
  simp only [ck_i] at hex ⊢
  split at hex
  · split at hex
    · rename_i hx
      simp only [ck_sm, List.map_cons, ck_ph_cat, if_pos hx]
      exact hk n b _ _ _ _ _ _ _ _ hex hg hp
    · cases hex
  · cases hex
theorem ck_v_jmp {k : ck_K} (hk : ck_KR k) {n b : Nat} {m : ck_M} {pc : Nat} {off : Int} {l : ck_L} {st : List Value} {h hr h' : ck_H} {r : Option Value} (hex : ck_jmp k m pc off l st h = some (r, h')) (hg : gn h' ≤ 1000000) (hp : ck_HP n b h hr) : ∃ hr', ck_jmp k m pc off (ck_lm n b l) (ck_sm n b st) hr = some (r.map (ck_ph n b), hr') ∧ ck_HP n b h' hr' := by
  unfold ck_jmp at hex ⊢
  split at hex
  · exact hk n b _ _ _ _ _ _ _ _ hex hg hp
  · cases hex
theorem ck_v_b1 {k : ck_K} (hk : ck_KR k) {n b : Nat} {m : ck_M} {pc : Nat} {off : Int} {l : ck_L} {st : List Value} {h hr h' : ck_H} {r : Option Value} {c : Prop} [Decidable c] (hex : ck_b1 k m pc off l st h c = some (r, h')) (hg : gn h' ≤ 1000000) (hp : ck_HP n b h hr) : ∃ hr', ck_b1 k m pc off (ck_lm n b l) (ck_sm n b st) hr c = some (r.map (ck_ph n b), hr') ∧ ck_HP n b h' hr' := by
  unfold ck_b1 at hex ⊢
  split at hex
  · split at hex
    · rename_i hc
      simp only [if_pos hc]
      exact hk n b _ _ _ _ _ _ _ _ hex hg hp
    · rename_i hc
      simp only [if_neg hc]
      exact hk n b _ _ _ _ _ _ _ _ hex hg hp
  · cases hex
theorem ck_v_goto {k : ck_K} (hk : ck_KR k) (hs : ck_KS k) {n b : Nat} {m : ck_M} {pc : Nat} {l : ck_L} {st : List Value} {h hr h' : ck_H} {r : Option Value} {off : Int} (hex : ck_i k m pc l st h (.goto off) = some (r, h')) (hg : gn h' ≤ 1000000) (hp : ck_HP n b h hr) : ∃ hr', ck_i k m pc (ck_lm n b l) (ck_sm n b st) hr (.goto off) = some (r.map (ck_ph n b), hr') ∧ ck_HP n b h' hr' := by
  simp only [ck_i] at hex ⊢
  exact ck_v_jmp hk hex hg hp
theorem ck_v_ifCond {k : ck_K} (hk : ck_KR k) (hs : ck_KS k) {n b : Nat} {m : ck_M} {pc : Nat} {l : ck_L} {st : List Value} {h hr h' : ck_H} {r : Option Value} {c : ClassFile.Cond} {off : Int} (hex : ck_i k m pc l st h (.ifCond c off) = some (r, h')) (hg : gn h' ≤ 1000000) (hp : ck_HP n b h hr) : ∃ hr', ck_i k m pc (ck_lm n b l) (ck_sm n b st) hr (.ifCond c off) = some (r.map (ck_ph n b), hr') ∧ ck_HP n b h' hr' := by
  simp only [ck_i] at hex ⊢
  split at hex
  · cases c <;> exact ck_v_b1 hk hex hg hp
  · cases hex
theorem ck_v_if_icmp {k : ck_K} (hk : ck_KR k) (hs : ck_KS k) {n b : Nat} {m : ck_M} {pc : Nat} {l : ck_L} {st : List Value} {h hr h' : ck_H} {r : Option Value} {c : ClassFile.Cond} {off : Int} (hex : ck_i k m pc l st h (.if_icmp c off) = some (r, h')) (hg : gn h' ≤ 1000000) (hp : ck_HP n b h hr) : ∃ hr', ck_i k m pc (ck_lm n b l) (ck_sm n b st) hr (.if_icmp c off) = some (r.map (ck_ph n b), hr') ∧ ck_HP n b h' hr' := by
  simp only [ck_i] at hex ⊢
  split at hex
  · cases c <;> exact ck_v_b1 hk hex hg hp
  · cases hex
theorem ck_v_ifnull {k : ck_K} (hk : ck_KR k) (hs : ck_KS k) {n b : Nat} {m : ck_M} {pc : Nat} {l : ck_L} {st : List Value} {h hr h' : ck_H} {r : Option Value} {off : Int} (hex : ck_i k m pc l st h (.ifnull off) = some (r, h')) (hg : gn h' ≤ 1000000) (hp : ck_HP n b h hr) : ∃ hr', ck_i k m pc (ck_lm n b l) (ck_sm n b st) hr (.ifnull off) = some (r.map (ck_ph n b), hr') ∧ ck_HP n b h' hr' := by
  simp only [ck_i] at hex ⊢
  split at hex
  · exact ck_v_jmp hk hex hg hp
  · exact hk n b _ _ _ _ _ _ _ _ hex hg hp
  · cases hex
theorem ck_v_ifnonnull {k : ck_K} (hk : ck_KR k) (hs : ck_KS k) {n b : Nat} {m : ck_M} {pc : Nat} {l : ck_L} {st : List Value} {h hr h' : ck_H} {r : Option Value} {off : Int} (hex : ck_i k m pc l st h (.ifnonnull off) = some (r, h')) (hg : gn h' ≤ 1000000) (hp : ck_HP n b h hr) : ∃ hr', ck_i k m pc (ck_lm n b l) (ck_sm n b st) hr (.ifnonnull off) = some (r.map (ck_ph n b), hr') ∧ ck_HP n b h' hr' := by
  simp only [ck_i] at hex ⊢
  split at hex
  · exact hk n b _ _ _ _ _ _ _ _ hex hg hp
  · exact ck_v_jmp hk hex hg hp
  · cases hex
theorem ck_v_tableswitch {k : ck_K} (hk : ck_KR k) (hs : ck_KS k) {n b : Nat} {m : ck_M} {pc : Nat} {l : ck_L} {st : List Value} {h hr h' : ck_H} {r : Option Value} {d lo hi : Int} {offs : Array Int} (hex : ck_i k m pc l st h (.tableswitch d lo hi offs) = some (r, h')) (hg : gn h' ≤ 1000000) (hp : ck_HP n b h hr) : ∃ hr', ck_i k m pc (ck_lm n b l) (ck_sm n b st) hr (.tableswitch d lo hi offs) = some (r.map (ck_ph n b), hr') ∧ ck_HP n b h' hr' := by
  simp only [ck_i] at hex ⊢
  split at hex
  · split at hex
    · rename_i hx
      simp only [ck_sm, List.map_cons, ck_ph, if_pos hx]
      exact ck_v_jmp hk hex hg hp
    · rename_i hx
      simp only [ck_sm, List.map_cons, ck_ph, if_neg hx]
      split at hex
      · exact ck_v_jmp hk hex hg hp
      · cases hex
  · cases hex
theorem ck_v_lookupswitch {k : ck_K} (hk : ck_KR k) (hs : ck_KS k) {n b : Nat} {m : ck_M} {pc : Nat} {l : ck_L} {st : List Value} {h hr h' : ck_H} {r : Option Value} {d : Int} {ps : Array (Int × Int)} (hex : ck_i k m pc l st h (.lookupswitch d ps) = some (r, h')) (hg : gn h' ≤ 1000000) (hp : ck_HP n b h hr) : ∃ hr', ck_i k m pc (ck_lm n b l) (ck_sm n b st) hr (.lookupswitch d ps) = some (r.map (ck_ph n b), hr') ∧ ck_HP n b h' hr' := by
  simp only [ck_i] at hex ⊢
  split at hex
  · split at hex
    · rename_i hx
      simp only [ck_sm, List.map_cons, ck_ph, if_pos hx]
      exact ck_v_jmp hk hex hg hp
    · cases hex
  · cases hex
theorem ck_v_getfield {k : ck_K} (hk : ck_KR k) (hs : ck_KS k) {n b : Nat} {m : ck_M} {pc : Nat} {l : ck_L} {st : List Value} {h hr h' : ck_H} {r : Option Value} {ix : Nat} (hex : ck_i k m pc l st h (.getfield ix) = some (r, h')) (hg : gn h' ≤ 1000000) (hp : ck_HP n b h hr) : ∃ hr', ck_i k m pc (ck_lm n b l) (ck_sm n b st) hr (.getfield ix) = some (r.map (ck_ph n b), hr') ∧ ck_HP n b h' hr' := by
  simp only [ck_i] at hex ⊢
  split at hex
  · rename_i a rr
    split at hex
    · rename_i c i ne hf
      split at hex
      · rename_i hx
        have hd : ck_dm h a := hp.2.2.2.2.1 a (by omega)
        have e1 : gk hr (rho n b a) = c ∧ c < 13 ∧ i < ck_N c := ⟨by rw [(hp.2.2.2.2.2 a hd).1]; exact hx.1, hx.2⟩
        simp only [ck_sm, List.map_cons, ck_ph, if_pos e1, hp.fv hd]
        exact hk n b _ _ _ _ _ _ _ _ hex hg hp
      · cases hex
    · cases hex
  · cases hex
theorem ck_v_putfield {k : ck_K} (hk : ck_KR k) (hs : ck_KS k) {n b : Nat} {m : ck_M} {pc : Nat} {l : ck_L} {st : List Value} {h hr h' : ck_H} {r : Option Value} {ix : Nat} (hex : ck_i k m pc l st h (.putfield ix) = some (r, h')) (hg : gn h' ≤ 1000000) (hp : ck_HP n b h hr) : ∃ hr', ck_i k m pc (ck_lm n b l) (ck_sm n b st) hr (.putfield ix) = some (r.map (ck_ph n b), hr') ∧ ck_HP n b h' hr' := by
  simp only [ck_i] at hex ⊢
  split at hex
  · rename_i v a rr
    split at hex
    · rename_i c i hf
      split at hex
      · rename_i hx
        split at hex
        · rename_i h1 hput
          have hd : ck_dm h a := hp.2.2.2.2.1 a (by omega)
          obtain ⟨hr1, e2, e3⟩ := hp.put hd hput
          have e1 : gk hr (rho n b a) = c ∧ c < 13 ∧ i < ck_N c ∧ (ck_fin c i = false ∨ ((ck_nm m).name = "<init>" ∧ c = ck_ow m)) := ⟨by rw [(hp.2.2.2.2.2 a hd).1]; exact hx.1, hx.2⟩
          simp only [ck_sm, List.map_cons, show ck_ph n b (.ref a) = .ref (rho n b a) from rfl, if_pos e1, e2]
          exact hk n b _ _ _ _ _ _ _ _ hex hg e3
        · cases hex
      · cases hex
    · cases hex
  · cases hex
theorem ck_v_iaload {k : ck_K} (hk : ck_KR k) (hs : ck_KS k) {n b : Nat} {m : ck_M} {pc : Nat} {l : ck_L} {st : List Value} {h hr h' : ck_H} {r : Option Value} (hex : ck_i k m pc l st h (.iaload) = some (r, h')) (hg : gn h' ≤ 1000000) (hp : ck_HP n b h hr) : ∃ hr', ck_i k m pc (ck_lm n b l) (ck_sm n b st) hr (.iaload) = some (r.map (ck_ph n b), hr') ∧ ck_HP n b h' hr' := by
  simp only [ck_i] at hex ⊢
  split at hex
  · rename_i j a rr
    split at hex
    · rename_i hx
      have hd : ck_dm h a := hp.2.2.2.2.1 a (by omega)
      obtain ⟨q1, q2, q3, q4, q5⟩ := hp.2.2.2.2.2 a hd
      have e1 : (gk hr (rho n b a) = 14 ∨ gk hr (rho n b a) = 21) ∧ ¬ j < 0 ∧ j.toNatClampNeg < gz hr (rho n b a) := by rw [q1, q2]; exact hx
      simp only [ck_sm, List.map_cons, ck_ph, if_pos e1, q3]
      exact hk n b _ _ _ _ _ _ _ _ hex hg hp
    · cases hex
  · cases hex
theorem ck_v_baload {k : ck_K} (hk : ck_KR k) (hs : ck_KS k) {n b : Nat} {m : ck_M} {pc : Nat} {l : ck_L} {st : List Value} {h hr h' : ck_H} {r : Option Value} (hex : ck_i k m pc l st h (.baload) = some (r, h')) (hg : gn h' ≤ 1000000) (hp : ck_HP n b h hr) : ∃ hr', ck_i k m pc (ck_lm n b l) (ck_sm n b st) hr (.baload) = some (r.map (ck_ph n b), hr') ∧ ck_HP n b h' hr' := by
  simp only [ck_i] at hex ⊢
  split at hex
  · rename_i j a rr
    split at hex
    · rename_i hx
      have hd : ck_dm h a := hp.2.2.2.2.1 a (by omega)
      obtain ⟨q1, q2, q3, q4, q5⟩ := hp.2.2.2.2.2 a hd
      have e1 : (gk hr (rho n b a) = 13 ∨ gk hr (rho n b a) = 15) ∧ ¬ j < 0 ∧ j.toNatClampNeg < gz hr (rho n b a) := by rw [q1, q2]; exact hx
      simp only [ck_sm, List.map_cons, ck_ph, if_pos e1, q3]
      exact hk n b _ _ _ _ _ _ _ _ hex hg hp
    · cases hex
  · cases hex
theorem ck_v_aaload {k : ck_K} (hk : ck_KR k) (hs : ck_KS k) {n b : Nat} {m : ck_M} {pc : Nat} {l : ck_L} {st : List Value} {h hr h' : ck_H} {r : Option Value} (hex : ck_i k m pc l st h (.aaload) = some (r, h')) (hg : gn h' ≤ 1000000) (hp : ck_HP n b h hr) : ∃ hr', ck_i k m pc (ck_lm n b l) (ck_sm n b st) hr (.aaload) = some (r.map (ck_ph n b), hr') ∧ ck_HP n b h' hr' := by
  simp only [ck_i] at hex ⊢
  split at hex
  · rename_i j a rr
    split at hex
    · rename_i hx
      have hd : ck_dm h a := hp.2.2.2.2.1 a (by omega)
      obtain ⟨q1, q2, q3, q4, q5⟩ := hp.2.2.2.2.2 a hd
      have e1 : (16 ≤ gk hr (rho n b a) ∧ gk hr (rho n b a) ≤ 20) ∧ ¬ j < 0 ∧ j.toNatClampNeg < gz hr (rho n b a) := by rw [q1, q2]; exact hx
      simp only [ck_sm, List.map_cons, ck_ph, if_pos e1, q5, ← ck_rf_ph]
      exact hk n b _ _ _ _ _ _ _ _ hex hg hp
    · cases hex
  · cases hex
theorem ck_v_iastore {k : ck_K} (hk : ck_KR k) (hs : ck_KS k) {n b : Nat} {m : ck_M} {pc : Nat} {l : ck_L} {st : List Value} {h hr h' : ck_H} {r : Option Value} (hex : ck_i k m pc l st h (.iastore) = some (r, h')) (hg : gn h' ≤ 1000000) (hp : ck_HP n b h hr) : ∃ hr', ck_i k m pc (ck_lm n b l) (ck_sm n b st) hr (.iastore) = some (r.map (ck_ph n b), hr') ∧ ck_HP n b h' hr' := by
  simp only [ck_i] at hex ⊢
  split at hex
  · rename_i x j a rr
    split at hex
    · rename_i hx
      have hd : ck_dm h a := hp.2.2.2.2.1 a (by omega)
      obtain ⟨q1, q2, q3, q4, q5⟩ := hp.2.2.2.2.2 a hd
      have e1 : gk hr (rho n b a) = 14 ∧ ¬ j < 0 ∧ j.toNatClampNeg < gz hr (rho n b a) := by rw [q1, q2]; exact hx
      simp only [ck_sm, List.map_cons, ck_ph, if_pos e1]
      exact hk n b _ _ _ _ _ _ _ _ hex hg (hp.wI hd)
    · cases hex
  · cases hex
theorem ck_v_bastore {k : ck_K} (hk : ck_KR k) (hs : ck_KS k) {n b : Nat} {m : ck_M} {pc : Nat} {l : ck_L} {st : List Value} {h hr h' : ck_H} {r : Option Value} (hex : ck_i k m pc l st h (.bastore) = some (r, h')) (hg : gn h' ≤ 1000000) (hp : ck_HP n b h hr) : ∃ hr', ck_i k m pc (ck_lm n b l) (ck_sm n b st) hr (.bastore) = some (r.map (ck_ph n b), hr') ∧ ck_HP n b h' hr' := by
  simp only [ck_i] at hex ⊢
  split at hex
  · rename_i x j a rr
    split at hex
    · rename_i hx
      have hd : ck_dm h a := hp.2.2.2.2.1 a (by omega)
      obtain ⟨q1, q2, q3, q4, q5⟩ := hp.2.2.2.2.2 a hd
      have e1 : gk hr (rho n b a) = 13 ∧ ¬ j < 0 ∧ j.toNatClampNeg < gz hr (rho n b a) := by rw [q1, q2]; exact hx
      simp only [ck_sm, List.map_cons, ck_ph, if_pos e1]
      exact hk n b _ _ _ _ _ _ _ _ hex hg (hp.wI hd)
    · rename_i hx
      split at hex
      · rename_i hy
        have hd : ck_dm h a := hp.2.2.2.2.1 a (by omega)
        obtain ⟨q1, q2, q3, q4, q5⟩ := hp.2.2.2.2.2 a hd
        have e0 : ¬ (gk hr (rho n b a) = 13 ∧ ¬ j < 0 ∧ j.toNatClampNeg < gz hr (rho n b a)) := by rw [q1, q2]; exact hx
        have e1 : gk hr (rho n b a) = 15 ∧ (x = 0 ∨ x = 1) ∧ ¬ j < 0 ∧ j.toNatClampNeg < gz hr (rho n b a) := by rw [q1, q2]; exact hy
        simp only [ck_sm, List.map_cons, ck_ph, if_neg e0, if_pos e1]
        exact hk n b _ _ _ _ _ _ _ _ hex hg (hp.wI hd)
      · cases hex
  · cases hex
theorem ck_v_aastore {k : ck_K} (hk : ck_KR k) (hs : ck_KS k) {n b : Nat} {m : ck_M} {pc : Nat} {l : ck_L} {st : List Value} {h hr h' : ck_H} {r : Option Value} (hex : ck_i k m pc l st h (.aastore) = some (r, h')) (hg : gn h' ≤ 1000000) (hp : ck_HP n b h hr) : ∃ hr', ck_i k m pc (ck_lm n b l) (ck_sm n b st) hr (.aastore) = some (r.map (ck_ph n b), hr') ∧ ck_HP n b h' hr' := by
  simp only [ck_i] at hex ⊢
  split at hex
  · rename_i v j a rr
    split at hex
    · rename_i hx
      have hv : ck_dm h v := hp.2.2.2.2.1 v (by omega)
      have hd : ck_dm h a := hp.2.2.2.2.1 a (by
        have h2 := ck_look hx.2.1
        simp only [List.mem_cons, Prod.mk.injEq, List.not_mem_nil, or_false] at h2
        omega)
      obtain ⟨q1, q2, q3, q4, q5⟩ := hp.2.2.2.2.2 a hd
      have e1 : gk hr (rho n b v) < 13 ∧ ck_ka (gk hr (rho n b a)) = some (gk hr (rho n b v)) ∧ ¬ j < 0 ∧ j.toNatClampNeg < gz hr (rho n b a) := by rw [q1, q2, (hp.2.2.2.2.2 v hv).1]; exact hx
      simp only [ck_sm, List.map_cons, ck_ph, if_pos e1]
      exact hk n b _ _ _ _ _ _ _ _ hex hg (hp.wR (x := some v) hd)
    · cases hex
  · cases hex
theorem ck_v_arraylength {k : ck_K} (hk : ck_KR k) (hs : ck_KS k) {n b : Nat} {m : ck_M} {pc : Nat} {l : ck_L} {st : List Value} {h hr h' : ck_H} {r : Option Value} (hex : ck_i k m pc l st h (.arraylength) = some (r, h')) (hg : gn h' ≤ 1000000) (hp : ck_HP n b h hr) : ∃ hr', ck_i k m pc (ck_lm n b l) (ck_sm n b st) hr (.arraylength) = some (r.map (ck_ph n b), hr') ∧ ck_HP n b h' hr' := by
  simp only [ck_i] at hex ⊢
  split at hex
  · rename_i a rr
    split at hex
    · rename_i hx
      have hd : ck_dm h a := hp.2.2.2.2.1 a (by omega)
      obtain ⟨q1, q2, q3, q4, q5⟩ := hp.2.2.2.2.2 a hd
      have e1 : 13 ≤ gk hr (rho n b a) ∧ gk hr (rho n b a) ≤ 21 := by rw [q1]; exact hx
      simp only [ck_sm, List.map_cons, ck_ph, if_pos e1, q2]
      exact hk n b _ _ _ _ _ _ _ _ hex hg hp
    · cases hex
  · cases hex
theorem ck_v_new {k : ck_K} (hk : ck_KR k) (hs : ck_KS k) {n b : Nat} {m : ck_M} {pc : Nat} {l : ck_L} {st : List Value} {h hr h' : ck_H} {r : Option Value} {ix : Nat} (hex : ck_i k m pc l st h (.new ix) = some (r, h')) (hg : gn h' ≤ 1000000) (hp : ck_HP n b h hr) : ∃ hr', ck_i k m pc (ck_lm n b l) (ck_sm n b st) hr (.new ix) = some (r.map (ck_ph n b), hr') ∧ ck_HP n b h' hr' := by
  simp only [ck_i] at hex ⊢
  split at hex
  · rename_i c hc
    split at hex
    · rename_i hx
      rw [if_pos hx]
      have hm := (hs _ _ _ _ _ _ _ hex).1
      rw [gn_wN] at hm
      obtain ⟨e1, e2⟩ := hp.wN (k := c) (s := ck_N c) (by omega) (by omega)
      simp only [ck_sm, e2]
      exact hk n b _ _ _ _ _ _ _ _ hex hg e1
    · cases hex
  · cases hex
theorem ck_v_newarray {k : ck_K} (hk : ck_KR k) (hs : ck_KS k) {n b : Nat} {m : ck_M} {pc : Nat} {l : ck_L} {st : List Value} {h hr h' : ck_H} {r : Option Value} {t : ArrayType} (hex : ck_i k m pc l st h (.newarray t) = some (r, h')) (hg : gn h' ≤ 1000000) (hp : ck_HP n b h hr) : ∃ hr', ck_i k m pc (ck_lm n b l) (ck_sm n b st) hr (.newarray t) = some (r.map (ck_ph n b), hr') ∧ ck_HP n b h' hr' := by
  simp only [ck_i] at hex ⊢
  split at hex
  · rename_i z rr c hc
    split at hex
    · rename_i hx
      simp only [ck_sm, List.map_cons, ck_ph, if_pos hx, hc]
      have hc2 : c ≤ 21 := by
        cases t <;> simp [ck_ato] at hc <;> omega
      have hm := (hs _ _ _ _ _ _ _ hex).1
      rw [gn_wN] at hm
      obtain ⟨e1, e2⟩ := hp.wN (k := c) (s := z.toNatClampNeg) hc2 (by omega)
      simp only [ck_sm, e2]
      exact hk n b _ _ _ _ _ _ _ _ hex hg e1
    · cases hex
  · cases hex
theorem ck_v_anewarray {k : ck_K} (hk : ck_KR k) (hs : ck_KS k) {n b : Nat} {m : ck_M} {pc : Nat} {l : ck_L} {st : List Value} {h hr h' : ck_H} {r : Option Value} {ix : Nat} (hex : ck_i k m pc l st h (.anewarray ix) = some (r, h')) (hg : gn h' ≤ 1000000) (hp : ck_HP n b h hr) : ∃ hr', ck_i k m pc (ck_lm n b l) (ck_sm n b st) hr (.anewarray ix) = some (r.map (ck_ph n b), hr') ∧ ck_HP n b h' hr' := by
  simp only [ck_i] at hex ⊢
  split at hex
  · rename_i z rr c hc
    split at hex
    · rename_i hx
      simp only [ck_sm, List.map_cons, ck_ph, if_pos hx, hc]
      have hc2 : c ≤ 21 := by
        obtain ⟨c0, g1, g2⟩ := Option.bind_eq_some_iff.mp hc
        have := (ck_ak_ka g2).2
        omega
      have hm := (hs _ _ _ _ _ _ _ hex).1
      rw [gn_wN] at hm
      obtain ⟨e1, e2⟩ := hp.wN (k := c) (s := z.toNatClampNeg) hc2 (by omega)
      simp only [ck_sm, e2]
      exact hk n b _ _ _ _ _ _ _ _ hex hg e1
    · cases hex
  · cases hex
theorem ck_v_call {k : ck_K} (hk : ck_KR k) (hs : ck_KS k) {n b : Nat} {m y : ck_M} {pc : Nat} {l : ck_L} {As rest : List Value} {h hr h' : ck_H} {r : Option Value} (hex : ck_call k m pc l h y As rest = some (r, h')) (hg : gn h' ≤ 1000000) (hp : ck_HP n b h hr) : ∃ hr', ck_call k m pc (ck_lm n b l) hr y (ck_sm n b As) (ck_sm n b rest) = some (r.map (ck_ph n b), hr') ∧ ck_HP n b h' hr' := by
  unfold ck_call at hex
  split at hex
  · rename_i hx
    split at hex
    · rename_i r1 h1 hy
      have hm := (hs _ _ _ _ _ _ _ hex).1
      obtain ⟨hr1, e1, e2⟩ := hk n b _ _ _ _ _ _ _ _ hy (by omega) hp
      obtain ⟨hr2, e3, e4⟩ := hk n b _ _ _ _ _ _ _ _ hex hg e2
      refine ⟨hr2, ?_, e4⟩
      rw [ck_call, if_pos (by rw [ck_sm_sum, ck_sm_ent, show (ck_lm n b (ck_ent As)).length = (ck_ent As).length by simp [ck_lm]]; exact hx), ck_sm_in]
      have e5 : k y 0 (ck_lm n b (ck_in As (ck_ml y))) [] hr = some (r1.map (ck_ph n b), hr1) := e1
      rw [e5]
      have e6 : ck_sm n b (r1.toList ++ rest) = (r1.map (ck_ph n b)).toList ++ ck_sm n b rest := by cases r1 <;> rfl
      rw [e6] at e3
      exact e3
    · cases hex
  · cases hex
theorem ck_v_inv {k : ck_K} (hk : ck_KR k) (hs : ck_KS k) {n b : Nat} {m : ck_M} {pc how : Nat} {e : Nat × Nat × ck_M} {l : ck_L} {st : List Value} {h hr h' : ck_H} {r : Option Value} (hex : ck_inv k m pc l st h e how = some (r, h')) (hg : gn h' ≤ 1000000) (hp : ck_HP n b h hr) : ∃ hr', ck_inv k m pc (ck_lm n b l) (ck_sm n b st) hr e how = some (r.map (ck_ph n b), hr') ∧ ck_HP n b h' hr' := by
  have el : (ck_sm n b st).length = st.length := by simp [ck_sm]
  have ed : (ck_sm n b st).drop e.2.1 = ck_sm n b (st.drop e.2.1) := by simp [ck_sm, List.map_drop]
  have et : ((ck_sm n b st).take e.2.1).reverse = ck_sm n b (st.take e.2.1).reverse := by simp [ck_sm, List.map_take]
  unfold ck_inv at hex ⊢
  split at hex
  · rw [el, ed, et]
    split at hex
    · rename_i hx
      rw [if_pos hx]
      split at hex
      · rename_i b0 rest hd
        rw [hd]
        split at hex
        · rename_i hy
          have hdm : ck_dm h b0 := hp.2.2.2.2.1 b0 (by omega)
          have e1 : gk hr (rho n b b0) = ck_ow e.2.2 ∧ ck_ow e.2.2 < 13 := ⟨by rw [(hp.2.2.2.2.2 b0 hdm).1]; exact hy.1, hy.2⟩
          have := ck_v_call hk hs hex hg hp
          simp only [ck_sm, List.map_cons, ck_ph, if_pos e1] at this ⊢
          exact this
        · cases hex
      · cases hex
    · cases hex
  · rw [el, ed, et]
    split at hex
    · rename_i hx
      rw [if_pos hx]
      exact ck_v_call hk hs hex hg hp
    · cases hex
  · split at hex
    · rename_i z dp a sp a0 rest
      split at hex
      · rename_i hx
        have hd : ck_dm h a := hp.2.2.2.2.1 a (by omega)
        have hd0 : ck_dm h a0 := hp.2.2.2.2.1 a0 (by omega)
        have q := hp.2.2.2.2.2 a hd
        have q0 := hp.2.2.2.2.2 a0 hd0
        have e1 : gk hr (rho n b a0) = gk hr (rho n b a) ∧ (gk hr (rho n b a) = 13 ∨ gk hr (rho n b a) = 14) ∧ ¬ sp < 0 ∧ ¬ dp < 0 ∧ ¬ z < 0 ∧ sp.toNatClampNeg + z.toNatClampNeg ≤ gz hr (rho n b a0) ∧ dp.toNatClampNeg + z.toNatClampNeg ≤ gz hr (rho n b a) ∧ 1 ≤ ck_fr m ∧ ck_sum (ck_sm n b rest) + 18 ≤ ck_lo m := by
          rw [q.1, q.2.1, q0.1, q0.2.1, ck_sm_sum]; exact hx
        simp only [ck_sm, List.map_cons, ck_ph] at e1 ⊢
        rw [if_pos e1]
        exact hk n b _ _ _ _ _ _ _ _ hex hg (hp.wC hd0 hd)
      · cases hex
    · cases hex
  · split at hex
    · rename_i a rest
      split at hex
      · rename_i hx
        have e1 : 1 ≤ ck_fr m ∧ ck_sum (ck_sm n b rest) + 12 ≤ ck_lo m := by rw [ck_sm_sum]; exact hx
        simp only [ck_sm, List.map_cons, ck_ph] at e1 ⊢
        rw [if_pos e1]
        exact hk n b _ _ _ _ _ _ _ _ hex hg hp
      · cases hex
    · cases hex
  · rw [el, ed, et]
    split at hex
    · rename_i hx
      rw [if_pos hx]
      split at hex
      · rename_i b0 rest hd
        rw [hd]
        have := ck_v_call hk hs hex hg hp
        simp only [ck_sm, List.map_cons, ck_ph] at this ⊢
        exact this
      · cases hex
    · cases hex
  · rw [el, ed, et]
    split at hex
    · rename_i hx
      rw [if_pos hx]
      split at hex
      · rename_i b0 rest hd
        rw [hd]
        have := ck_v_call hk hs hex hg hp
        simp only [ck_sm, List.map_cons, ck_ph] at this ⊢
        exact this
      · cases hex
    · cases hex
  · cases hex
theorem ck_v_invokevirtual {k : ck_K} (hk : ck_KR k) (hs : ck_KS k) {n b : Nat} {m : ck_M} {pc : Nat} {l : ck_L} {st : List Value} {h hr h' : ck_H} {r : Option Value} {ix : Nat} (hex : ck_i k m pc l st h (.invokevirtual ix) = some (r, h')) (hg : gn h' ≤ 1000000) (hp : ck_HP n b h hr) : ∃ hr', ck_i k m pc (ck_lm n b l) (ck_sm n b st) hr (.invokevirtual ix) = some (r.map (ck_ph n b), hr') ∧ ck_HP n b h' hr' := by
  simp only [ck_i] at hex ⊢
  split at hex
  · exact ck_v_inv hk hs hex hg hp
  · cases hex
theorem ck_v_invokestatic {k : ck_K} (hk : ck_KR k) (hs : ck_KS k) {n b : Nat} {m : ck_M} {pc : Nat} {l : ck_L} {st : List Value} {h hr h' : ck_H} {r : Option Value} {ix : Nat} (hex : ck_i k m pc l st h (.invokestatic ix) = some (r, h')) (hg : gn h' ≤ 1000000) (hp : ck_HP n b h hr) : ∃ hr', ck_i k m pc (ck_lm n b l) (ck_sm n b st) hr (.invokestatic ix) = some (r.map (ck_ph n b), hr') ∧ ck_HP n b h' hr' := by
  simp only [ck_i] at hex ⊢
  split at hex
  · exact ck_v_inv hk hs hex hg hp
  · cases hex
theorem ck_v_invokespecial {k : ck_K} (hk : ck_KR k) (hs : ck_KS k) {n b : Nat} {m : ck_M} {pc : Nat} {l : ck_L} {st : List Value} {h hr h' : ck_H} {r : Option Value} {ix : Nat} (hex : ck_i k m pc l st h (.invokespecial ix) = some (r, h')) (hg : gn h' ≤ 1000000) (hp : ck_HP n b h hr) : ∃ hr', ck_i k m pc (ck_lm n b l) (ck_sm n b st) hr (.invokespecial ix) = some (r.map (ck_ph n b), hr') ∧ ck_HP n b h' hr' := by
  simp only [ck_i] at hex ⊢
  split at hex
  · exact ck_v_inv hk hs hex hg hp
  · cases hex
theorem ck_rv_ph {n b : Nat} {m : ck_M} {st : List Value} {i : Instr} {r : Option Value} (h : ck_rv m st i = some r) : ck_rv m (ck_sm n b st) i = some (r.map (ck_ph n b)) := by
  cases i <;> simp only [ck_rv] at h ⊢ <;> try (cases h; done)
  · split at h
    · rename_i e1; cases h; simp [ck_sm, ck_ph, e1]
    · rename_i e1; cases h; simp [ck_sm, ck_ph, e1]
    · cases h
  · split at h
    · rename_i e1; cases h; simp [ck_sm, ck_ph, e1]
    · rename_i e1
      split at h
      · rename_i hv; cases h; simp [ck_sm, ck_ph, e1, hv]
      · cases h
    · cases h
  · split at h
    · rename_i e1; cases h; simp [ck_sm, ck_ph, e1]
    · cases h
  · split at h
    · rename_i e1; cases h; simp [ck_sm, e1]
    · cases h
theorem ck_v_ireturn {k : ck_K} (hk : ck_KR k) (hs : ck_KS k) {n b : Nat} {m : ck_M} {pc : Nat} {l : ck_L} {st : List Value} {h hr h' : ck_H} {r : Option Value} (hex : ck_i k m pc l st h (.ireturn) = some (r, h')) (hg : gn h' ≤ 1000000) (hp : ck_HP n b h hr) : ∃ hr', ck_i k m pc (ck_lm n b l) (ck_sm n b st) hr (.ireturn) = some (r.map (ck_ph n b), hr') ∧ ck_HP n b h' hr' := by
  simp only [ck_i] at hex ⊢
  obtain ⟨r1, h1, h2⟩ := Option.map_eq_some_iff.mp hex
  cases h2
  exact ⟨hr, by rw [ck_rv_ph h1]; rfl, hp⟩
theorem ck_v_lreturn {k : ck_K} (hk : ck_KR k) (hs : ck_KS k) {n b : Nat} {m : ck_M} {pc : Nat} {l : ck_L} {st : List Value} {h hr h' : ck_H} {r : Option Value} (hex : ck_i k m pc l st h (.lreturn) = some (r, h')) (hg : gn h' ≤ 1000000) (hp : ck_HP n b h hr) : ∃ hr', ck_i k m pc (ck_lm n b l) (ck_sm n b st) hr (.lreturn) = some (r.map (ck_ph n b), hr') ∧ ck_HP n b h' hr' := by
  simp only [ck_i] at hex ⊢
  obtain ⟨r1, h1, h2⟩ := Option.map_eq_some_iff.mp hex
  cases h2
  exact ⟨hr, by rw [ck_rv_ph h1]; rfl, hp⟩
theorem ck_v_areturn {k : ck_K} (hk : ck_KR k) (hs : ck_KS k) {n b : Nat} {m : ck_M} {pc : Nat} {l : ck_L} {st : List Value} {h hr h' : ck_H} {r : Option Value} (hex : ck_i k m pc l st h (.areturn) = some (r, h')) (hg : gn h' ≤ 1000000) (hp : ck_HP n b h hr) : ∃ hr', ck_i k m pc (ck_lm n b l) (ck_sm n b st) hr (.areturn) = some (r.map (ck_ph n b), hr') ∧ ck_HP n b h' hr' := by
  simp only [ck_i] at hex ⊢
  obtain ⟨r1, h1, h2⟩ := Option.map_eq_some_iff.mp hex
  cases h2
  exact ⟨hr, by rw [ck_rv_ph h1]; rfl, hp⟩
theorem ck_v_return_ {k : ck_K} (hk : ck_KR k) (hs : ck_KS k) {n b : Nat} {m : ck_M} {pc : Nat} {l : ck_L} {st : List Value} {h hr h' : ck_H} {r : Option Value} (hex : ck_i k m pc l st h (.return_) = some (r, h')) (hg : gn h' ≤ 1000000) (hp : ck_HP n b h hr) : ∃ hr', ck_i k m pc (ck_lm n b l) (ck_sm n b st) hr (.return_) = some (r.map (ck_ph n b), hr') ∧ ck_HP n b h' hr' := by
  simp only [ck_i] at hex ⊢
  obtain ⟨r1, h1, h2⟩ := Option.map_eq_some_iff.mp hex
  cases h2
  exact ⟨hr, by rw [ck_rv_ph h1]; rfl, hp⟩
theorem ck_v_step {k : ck_K} (hk : ck_KR k) (hs : ck_KS k) {n b : Nat} {m : ck_M} {pc : Nat} {i : Instr} {l : ck_L} {st : List Value} {h hr h' : ck_H} {r : Option Value} (hex : ck_i k m pc l st h i = some (r, h')) (hg : gn h' ≤ 1000000) (hp : ck_HP n b h hr) : ∃ hr', ck_i k m pc (ck_lm n b l) (ck_sm n b st) hr i = some (r.map (ck_ph n b), hr') ∧ ck_HP n b h' hr' := by
  cases i with
  | iconst z => exact ck_v_iconst hk hs hex hg hp
  | bipush z => exact ck_v_bipush hk hs hex hg hp
  | sipush z => exact ck_v_sipush hk hs hex hg hp
  | lconst z => exact ck_v_lconst hk hs hex hg hp
  | aconst_null => exact ck_v_aconst_null hk hs hex hg hp
  | ldc ix => exact ck_v_ldc hk hs hex hg hp
  | ldc2_w ix => exact ck_v_ldc2_w hk hs hex hg hp
  | iload i => exact ck_v_iload hk hs hex hg hp
  | iload_n i => exact ck_v_iload_n hk hs hex hg hp
  | lload i => exact ck_v_lload hk hs hex hg hp
  | lload_n i => exact ck_v_lload_n hk hs hex hg hp
  | aload i => exact ck_v_aload hk hs hex hg hp
  | aload_n i => exact ck_v_aload_n hk hs hex hg hp
  | istore i => exact ck_v_istore hk hs hex hg hp
  | istore_n i => exact ck_v_istore_n hk hs hex hg hp
  | lstore i => exact ck_v_lstore hk hs hex hg hp
  | astore i => exact ck_v_astore hk hs hex hg hp
  | astore_n i => exact ck_v_astore_n hk hs hex hg hp
  | iinc i z => exact ck_v_iinc hk hs hex hg hp
  | iadd => exact ck_v_iadd hk hs hex hg hp
  | isub => exact ck_v_isub hk hs hex hg hp
  | imul => exact ck_v_imul hk hs hex hg hp
  | iand => exact ck_v_iand hk hs hex hg hp
  | ior => exact ck_v_ior hk hs hex hg hp
  | ishl => exact ck_v_ishl hk hs hex hg hp
  | ishr => exact ck_v_ishr hk hs hex hg hp
  | ineg => exact ck_v_ineg hk hs hex hg hp
  | i2l => exact ck_v_i2l hk hs hex hg hp
  | l2i => exact ck_v_l2i hk hs hex hg hp
  | i2b => exact ck_v_i2b hk hs hex hg hp
  | ladd => exact ck_v_ladd hk hs hex hg hp
  | lsub => exact ck_v_lsub hk hs hex hg hp
  | lmul => exact ck_v_lmul hk hs hex hg hp
  | lxor => exact ck_v_lxor hk hs hex hg hp
  | lcmp => exact ck_v_lcmp hk hs hex hg hp
  | idiv => exact ck_v_idiv hk hs hex hg hp
  | irem => exact ck_v_irem hk hs hex hg hp
  | lrem => exact ck_v_lrem hk hs hex hg hp
  | dup => exact ck_v_dup hk hs hex hg hp
  | dup2 => exact ck_v_dup2 hk hs hex hg hp
  | goto off => exact ck_v_goto hk hs hex hg hp
  | ifCond c off => exact ck_v_ifCond hk hs hex hg hp
  | if_icmp c off => exact ck_v_if_icmp hk hs hex hg hp
  | ifnull off => exact ck_v_ifnull hk hs hex hg hp
  | ifnonnull off => exact ck_v_ifnonnull hk hs hex hg hp
  | tableswitch d lo hi offs => exact ck_v_tableswitch hk hs hex hg hp
  | lookupswitch d ps => exact ck_v_lookupswitch hk hs hex hg hp
  | getfield ix => exact ck_v_getfield hk hs hex hg hp
  | putfield ix => exact ck_v_putfield hk hs hex hg hp
  | iaload => exact ck_v_iaload hk hs hex hg hp
  | baload => exact ck_v_baload hk hs hex hg hp
  | aaload => exact ck_v_aaload hk hs hex hg hp
  | iastore => exact ck_v_iastore hk hs hex hg hp
  | bastore => exact ck_v_bastore hk hs hex hg hp
  | aastore => exact ck_v_aastore hk hs hex hg hp
  | arraylength => exact ck_v_arraylength hk hs hex hg hp
  | new ix => exact ck_v_new hk hs hex hg hp
  | newarray t => exact ck_v_newarray hk hs hex hg hp
  | anewarray ix => exact ck_v_anewarray hk hs hex hg hp
  | invokevirtual ix => exact ck_v_invokevirtual hk hs hex hg hp
  | invokestatic ix => exact ck_v_invokestatic hk hs hex hg hp
  | invokespecial ix => exact ck_v_invokespecial hk hs hex hg hp
  | ireturn => exact ck_v_ireturn hk hs hex hg hp
  | lreturn => exact ck_v_lreturn hk hs hex hg hp
  | areturn => exact ck_v_areturn hk hs hex hg hp
  | return_ => exact ck_v_return_ hk hs hex hg hp
  | _ => simp [ck_i] at hex
theorem ck_reloc : ∀ f : Nat, ck_KR (ck_x f)
  | 0 => fun n b m pc l st h hr r h' hex => by simp [ck_x] at hex
  | f + 1 => fun n b m pc l st h hr r h' hex hg hp => by
    simp only [ck_x] at hex ⊢
    split at hex
    · exact ck_v_step (ck_reloc f) (ck_sim f) hex hg hp
    · cases hex
