/-- fewer locals are known -/
def ck_le : ck_L → ck_L → Prop
  | [], [] => True
  | a :: s, b :: t => (a = b ∨ (a = none ∧ ∀ v, b = some v → v.category = 1)) ∧ ck_le s t
  | _, _ => False
theorem ck_le_at : ∀ {l l' : ck_L}, ck_le l l' → l.length = l'.length ∧ ∀ (i : Nat) (b : Option Value), l'[i]? = some b → ∃ a, l[i]? = some a ∧ (a = b ∨ (a = none ∧ ∀ v, b = some v → v.category = 1))
  | [], [], _ => ⟨rfl, fun i b h => by simp at h⟩
  | [], _ :: _, h => h.elim
  | _ :: _, [], h => h.elim
  | a :: s, b :: t, h => by
    obtain ⟨h1, h2⟩ := ck_le_at h.2
    refine ⟨by simp [h1], fun i c hc => ?_⟩
    cases i with
    | zero => simp at hc; subst hc; exact ⟨a, by simp, h.1⟩
    | succ i => simp at hc; obtain ⟨x, hx, h3⟩ := h2 i c hc; exact ⟨x, by simpa using hx, h3⟩
theorem ck_le_get {l l' : ck_L} (h : ck_le l l') {i : Nat} {v : Value} (hv : l[i]? = some (some v)) : l'[i]? = some (some v) := by
  obtain ⟨h1, h2⟩ := ck_le_at h
  have hi : i < l'.length := by rw [← h1]; exact (List.getElem?_eq_some_iff.mp hv).1
  obtain ⟨a, ha, h3⟩ := h2 i l'[i] (List.getElem?_eq_getElem hi)
  rw [hv] at ha
  cases ha
  rcases h3 with h3 | ⟨h3, -⟩
  · rw [List.getElem?_eq_getElem hi, ← h3]
  · cases h3
theorem ck_le_nl {l l' : ck_L} (h : ck_le l l') {i : Nat} (hn : ck_nl l i = true) : ck_nl l' i = true := by
  cases i with
  | zero => rfl
  | succ i =>
    obtain ⟨h1, h2⟩ := ck_le_at h
    simp only [ck_nl] at hn ⊢
    split
    · rename_i v hv
      obtain ⟨a, ha, h3⟩ := h2 i _ hv
      rcases h3 with h3 | ⟨-, h3⟩
      · subst h3
        simp only [ha] at hn
        exact hn
      · simp [h3 v rfl]
    · rfl
theorem ck_le_set : ∀ {l l' : ck_L}, ck_le l l' → ∀ (i : Nat) (v : Option Value), ck_le (l.set i v) (l'.set i v)
  | [], [], _, i, v => by simp [ck_le]
  | [], _ :: _, h, _, _ => h.elim
  | _ :: _, [], h, _, _ => h.elim
  | a :: s, b :: t, h, i, v => by
    cases i with
    | zero => exact ⟨Or.inl rfl, h.2⟩
    | succ i => exact ⟨h.1, ck_le_set h.2 i v⟩
theorem ck_le_s1 {l l' k : ck_L} (h : ck_le l l') {i : Nat} {v : Value} (hs : ck_s1 l i v = some k) : ∃ k', ck_s1 l' i v = some k' ∧ ck_le k k' := by
  unfold ck_s1 at hs
  split at hs
  · rename_i hc
    cases hs
    rw [Bool.and_eq_true, decide_eq_true_eq] at hc
    refine ⟨l'.set i (some v), ?_, ck_le_set h i _⟩
    rw [ck_s1, if_pos]
    rw [Bool.and_eq_true, decide_eq_true_eq]
    exact ⟨by rw [← (ck_le_at h).1]; exact hc.1, ck_le_nl h hc.2⟩
  · cases hs
theorem ck_le_s2 {l l' k : ck_L} (h : ck_le l l') {i : Nat} {v : Value} (hs : ck_s2 l i v = some k) : ∃ k', ck_s2 l' i v = some k' ∧ ck_le k k' := by
  unfold ck_s2 at hs
  split at hs
  · rename_i hc
    cases hs
    rw [Bool.and_eq_true, decide_eq_true_eq] at hc
    refine ⟨(l'.set i (some v)).set (i + 1) none, ?_, ck_le_set (ck_le_set h i _) _ _⟩
    rw [ck_s2, if_pos]
    rw [Bool.and_eq_true, decide_eq_true_eq]
    exact ⟨by rw [← (ck_le_at h).1]; exact hc.1, ck_le_nl h hc.2⟩
  · cases hs
def ck_KM (k : ck_K) : Prop := ∀ (m : ck_M) (pc : Nat) (l l' : ck_L) (st : List Value) (h : ck_H) (res : Option Value × ck_H), ck_le l l' → k m pc l st h = some res → k m pc l' st h = some res
theorem ck_m_iconst {k : ck_K} (hk : ck_KM k) {m : ck_M} {pc : Nat} {l l' : ck_L} {st : List Value} {h : ck_H} {res : Option Value × ck_H} {n : Int} (hl : ck_le l l') (hex : ck_i k m pc l st h (.iconst n) = some res) : ck_i k m pc l' st h (.iconst n) = some res := by
  simp only [ck_i] at hex ⊢
  exact hk _ _ _ _ _ _ _ hl hex
theorem ck_m_bipush {k : ck_K} (hk : ck_KM k) {m : ck_M} {pc : Nat} {l l' : ck_L} {st : List Value} {h : ck_H} {res : Option Value × ck_H} {n : Int} (hl : ck_le l l') (hex : ck_i k m pc l st h (.bipush n) = some res) : ck_i k m pc l' st h (.bipush n) = some res := by
  simp only [ck_i] at hex ⊢
  exact hk _ _ _ _ _ _ _ hl hex
theorem ck_m_sipush {k : ck_K} (hk : ck_KM k) {m : ck_M} {pc : Nat} {l l' : ck_L} {st : List Value} {h : ck_H} {res : Option Value × ck_H} {n : Int} (hl : ck_le l l') (hex : ck_i k m pc l st h (.sipush n) = some res) : ck_i k m pc l' st h (.sipush n) = some res := by
  simp only [ck_i] at hex ⊢
  exact hk _ _ _ _ _ _ _ hl hex
theorem ck_m_lconst {k : ck_K} (hk : ck_KM k) {m : ck_M} {pc : Nat} {l l' : ck_L} {st : List Value} {h : ck_H} {res : Option Value × ck_H} {n : Fin 2} (hl : ck_le l l') (hex : ck_i k m pc l st h (.lconst n) = some res) : ck_i k m pc l' st h (.lconst n) = some res := by
  simp only [ck_i] at hex ⊢
  exact hk _ _ _ _ _ _ _ hl hex
theorem ck_m_aconst_null {k : ck_K} (hk : ck_KM k) {m : ck_M} {pc : Nat} {l l' : ck_L} {st : List Value} {h : ck_H} {res : Option Value × ck_H} (hl : ck_le l l') (hex : ck_i k m pc l st h (.aconst_null) = some res) : ck_i k m pc l' st h (.aconst_null) = some res := by
  simp only [ck_i] at hex ⊢
  exact hk _ _ _ _ _ _ _ hl hex
theorem ck_m_ldc {k : ck_K} (hk : ck_KM k) {m : ck_M} {pc : Nat} {l l' : ck_L} {st : List Value} {h : ck_H} {res : Option Value × ck_H} {ix : Nat} (hl : ck_le l l') (hex : ck_i k m pc l st h (.ldc ix) = some res) : ck_i k m pc l' st h (.ldc ix) = some res := by
  simp only [ck_i] at hex ⊢
  split at hex
  · exact hk _ _ _ _ _ _ _ hl hex
  · cases hex
theorem ck_m_ldc2_w {k : ck_K} (hk : ck_KM k) {m : ck_M} {pc : Nat} {l l' : ck_L} {st : List Value} {h : ck_H} {res : Option Value × ck_H} {ix : Nat} (hl : ck_le l l') (hex : ck_i k m pc l st h (.ldc2_w ix) = some res) : ck_i k m pc l' st h (.ldc2_w ix) = some res := by
  simp only [ck_i] at hex ⊢
  split at hex
  · exact hk _ _ _ _ _ _ _ hl hex
  · cases hex
theorem ck_m_iload {k : ck_K} (hk : ck_KM k) {m : ck_M} {pc : Nat} {l l' : ck_L} {st : List Value} {h : ck_H} {res : Option Value × ck_H} {i : Nat} (hl : ck_le l l') (hex : ck_i k m pc l st h (.iload i) = some res) : ck_i k m pc l' st h (.iload i) = some res := by
  simp only [ck_i, ck_ldi] at hex ⊢
  split at hex
  · rename_i x hx
    simp only [ck_le_get hl hx]
    exact hk _ _ _ _ _ _ _ hl hex
  · cases hex
theorem ck_m_iload_n {k : ck_K} (hk : ck_KM k) {m : ck_M} {pc : Nat} {l l' : ck_L} {st : List Value} {h : ck_H} {res : Option Value × ck_H} {i : Fin 4} (hl : ck_le l l') (hex : ck_i k m pc l st h (.iload_n i) = some res) : ck_i k m pc l' st h (.iload_n i) = some res := by
  simp only [ck_i, ck_ldi] at hex ⊢
  split at hex
  · rename_i x hx
    simp only [ck_le_get hl hx]
    exact hk _ _ _ _ _ _ _ hl hex
  · cases hex
theorem ck_m_lload {k : ck_K} (hk : ck_KM k) {m : ck_M} {pc : Nat} {l l' : ck_L} {st : List Value} {h : ck_H} {res : Option Value × ck_H} {i : Nat} (hl : ck_le l l') (hex : ck_i k m pc l st h (.lload i) = some res) : ck_i k m pc l' st h (.lload i) = some res := by
  simp only [ck_i, ck_ldl] at hex ⊢
  split at hex
  · rename_i x hx
    simp only [ck_le_get hl hx]
    exact hk _ _ _ _ _ _ _ hl hex
  · cases hex
theorem ck_m_lload_n {k : ck_K} (hk : ck_KM k) {m : ck_M} {pc : Nat} {l l' : ck_L} {st : List Value} {h : ck_H} {res : Option Value × ck_H} {i : Fin 4} (hl : ck_le l l') (hex : ck_i k m pc l st h (.lload_n i) = some res) : ck_i k m pc l' st h (.lload_n i) = some res := by
  simp only [ck_i, ck_ldl] at hex ⊢
  split at hex
  · rename_i x hx
    simp only [ck_le_get hl hx]
    exact hk _ _ _ _ _ _ _ hl hex
  · cases hex
theorem ck_m_aload {k : ck_K} (hk : ck_KM k) {m : ck_M} {pc : Nat} {l l' : ck_L} {st : List Value} {h : ck_H} {res : Option Value × ck_H} {i : Nat} (hl : ck_le l l') (hex : ck_i k m pc l st h (.aload i) = some res) : ck_i k m pc l' st h (.aload i) = some res := by
  simp only [ck_i, ck_lda] at hex ⊢
  split at hex
  · rename_i x hx
    simp only [ck_le_get hl hx]
    exact hk _ _ _ _ _ _ _ hl hex
  · rename_i hx
    simp only [ck_le_get hl hx]
    exact hk _ _ _ _ _ _ _ hl hex
  · cases hex
theorem ck_m_aload_n {k : ck_K} (hk : ck_KM k) {m : ck_M} {pc : Nat} {l l' : ck_L} {st : List Value} {h : ck_H} {res : Option Value × ck_H} {i : Fin 4} (hl : ck_le l l') (hex : ck_i k m pc l st h (.aload_n i) = some res) : ck_i k m pc l' st h (.aload_n i) = some res := by
  simp only [ck_i, ck_lda] at hex ⊢
  split at hex
  · rename_i x hx
    simp only [ck_le_get hl hx]
    exact hk _ _ _ _ _ _ _ hl hex
  · rename_i hx
    simp only [ck_le_get hl hx]
    exact hk _ _ _ _ _ _ _ hl hex
  · cases hex
theorem ck_m_istore {k : ck_K} (hk : ck_KM k) {m : ck_M} {pc : Nat} {l l' : ck_L} {st : List Value} {h : ck_H} {res : Option Value × ck_H} {i : Nat} (hl : ck_le l l') (hex : ck_i k m pc l st h (.istore i) = some res) : ck_i k m pc l' st h (.istore i) = some res := by
  simp only [ck_i, ck_soi] at hex ⊢
  split at hex
  · skip
    unfold ck_sv at hex
    split at hex
    · rename_i lx hx
      obtain ⟨ly, hy, hz⟩ := ck_le_s1 hl hx
      simp only [hy, ck_sv]
      exact hk _ _ _ _ _ _ _ hz hex
    · cases hex
  · cases hex
theorem ck_m_istore_n {k : ck_K} (hk : ck_KM k) {m : ck_M} {pc : Nat} {l l' : ck_L} {st : List Value} {h : ck_H} {res : Option Value × ck_H} {i : Fin 4} (hl : ck_le l l') (hex : ck_i k m pc l st h (.istore_n i) = some res) : ck_i k m pc l' st h (.istore_n i) = some res := by
  simp only [ck_i, ck_soi] at hex ⊢
  split at hex
  · skip
    unfold ck_sv at hex
    split at hex
    · rename_i lx hx
      obtain ⟨ly, hy, hz⟩ := ck_le_s1 hl hx
      simp only [hy, ck_sv]
      exact hk _ _ _ _ _ _ _ hz hex
    · cases hex
  · cases hex
theorem ck_m_lstore {k : ck_K} (hk : ck_KM k) {m : ck_M} {pc : Nat} {l l' : ck_L} {st : List Value} {h : ck_H} {res : Option Value × ck_H} {i : Nat} (hl : ck_le l l') (hex : ck_i k m pc l st h (.lstore i) = some res) : ck_i k m pc l' st h (.lstore i) = some res := by
  simp only [ck_i, ck_sol] at hex ⊢
  split at hex
  · skip
    unfold ck_sv at hex
    split at hex
    · rename_i lx hx
      obtain ⟨ly, hy, hz⟩ := ck_le_s2 hl hx
      simp only [hy, ck_sv]
      exact hk _ _ _ _ _ _ _ hz hex
    · cases hex
  · cases hex
theorem ck_m_astore {k : ck_K} (hk : ck_KM k) {m : ck_M} {pc : Nat} {l l' : ck_L} {st : List Value} {h : ck_H} {res : Option Value × ck_H} {i : Nat} (hl : ck_le l l') (hex : ck_i k m pc l st h (.astore i) = some res) : ck_i k m pc l' st h (.astore i) = some res := by
  simp only [ck_i, ck_soa] at hex ⊢
  split at hex
  · skip
    unfold ck_sv at hex
    split at hex
    · rename_i lx hx
      obtain ⟨ly, hy, hz⟩ := ck_le_s1 hl hx
      simp only [hy, ck_sv]
      exact hk _ _ _ _ _ _ _ hz hex
    · cases hex
  · skip
    unfold ck_sv at hex
    split at hex
    · rename_i lx hx
      obtain ⟨ly, hy, hz⟩ := ck_le_s1 hl hx
      simp only [hy, ck_sv]
      exact hk _ _ _ _ _ _ _ hz hex
    · cases hex
  · cases hex
theorem ck_m_astore_n {k : ck_K} (hk : ck_KM k) {m : ck_M} {pc : Nat} {l l' : ck_L} {st : List Value} {h : ck_H} {res : Option Value × ck_H} {i : Fin 4} (hl : ck_le l l') (hex : ck_i k m pc l st h (.astore_n i) = some res) : ck_i k m pc l' st h (.astore_n i) = some res := by
  simp only [ck_i, ck_soa] at hex ⊢
  split at hex
  · skip
    unfold ck_sv at hex
    split at hex
    · rename_i lx hx
      obtain ⟨ly, hy, hz⟩ := ck_le_s1 hl hx
      simp only [hy, ck_sv]
      exact hk _ _ _ _ _ _ _ hz hex
    · cases hex
  · skip
    unfold ck_sv at hex
    split at hex
    · rename_i lx hx
      obtain ⟨ly, hy, hz⟩ := ck_le_s1 hl hx
      simp only [hy, ck_sv]
      exact hk _ _ _ _ _ _ _ hz hex
    · cases hex
  · cases hex
theorem ck_m_iinc {k : ck_K} (hk : ck_KM k) {m : ck_M} {pc : Nat} {l l' : ck_L} {st : List Value} {h : ck_H} {res : Option Value × ck_H} {i : Nat} {n : Int} (hl : ck_le l l') (hex : ck_i k m pc l st h (.iinc i n) = some res) : ck_i k m pc l' st h (.iinc i n) = some res := by
  simp only [ck_i] at hex ⊢
  split at hex
  · rename_i x hx0
    simp only [ck_le_get hl hx0]
    unfold ck_sv at hex
    split at hex
    · rename_i lx hx
      obtain ⟨ly, hy, hz⟩ := ck_le_s1 hl hx
      simp only [hy, ck_sv]
      exact hk _ _ _ _ _ _ _ hz hex
    · cases hex
  · cases hex
theorem ck_m_iadd {k : ck_K} (hk : ck_KM k) {m : ck_M} {pc : Nat} {l l' : ck_L} {st : List Value} {h : ck_H} {res : Option Value × ck_H} (hl : ck_le l l') (hex : ck_i k m pc l st h (.iadd) = some res) : ck_i k m pc l' st h (.iadd) = some res := by
  simp only [ck_i] at hex ⊢
  split at hex
  · exact hk _ _ _ _ _ _ _ hl hex
  · cases hex
theorem ck_m_isub {k : ck_K} (hk : ck_KM k) {m : ck_M} {pc : Nat} {l l' : ck_L} {st : List Value} {h : ck_H} {res : Option Value × ck_H} (hl : ck_le l l') (hex : ck_i k m pc l st h (.isub) = some res) : ck_i k m pc l' st h (.isub) = some res := by
  simp only [ck_i] at hex ⊢
  split at hex
  · exact hk _ _ _ _ _ _ _ hl hex
  · cases hex
theorem ck_m_imul {k : ck_K} (hk : ck_KM k) {m : ck_M} {pc : Nat} {l l' : ck_L} {st : List Value} {h : ck_H} {res : Option Value × ck_H} (hl : ck_le l l') (hex : ck_i k m pc l st h (.imul) = some res) : ck_i k m pc l' st h (.imul) = some res := by
  simp only [ck_i] at hex ⊢
  split at hex
  · exact hk _ _ _ _ _ _ _ hl hex
  · cases hex
theorem ck_m_iand {k : ck_K} (hk : ck_KM k) {m : ck_M} {pc : Nat} {l l' : ck_L} {st : List Value} {h : ck_H} {res : Option Value × ck_H} (hl : ck_le l l') (hex : ck_i k m pc l st h (.iand) = some res) : ck_i k m pc l' st h (.iand) = some res := by
  simp only [ck_i] at hex ⊢
  split at hex
  · exact hk _ _ _ _ _ _ _ hl hex
  · cases hex
theorem ck_m_ior {k : ck_K} (hk : ck_KM k) {m : ck_M} {pc : Nat} {l l' : ck_L} {st : List Value} {h : ck_H} {res : Option Value × ck_H} (hl : ck_le l l') (hex : ck_i k m pc l st h (.ior) = some res) : ck_i k m pc l' st h (.ior) = some res := by
  simp only [ck_i] at hex ⊢
  split at hex
  · exact hk _ _ _ _ _ _ _ hl hex
  · cases hex
theorem ck_m_ishl {k : ck_K} (hk : ck_KM k) {m : ck_M} {pc : Nat} {l l' : ck_L} {st : List Value} {h : ck_H} {res : Option Value × ck_H} (hl : ck_le l l') (hex : ck_i k m pc l st h (.ishl) = some res) : ck_i k m pc l' st h (.ishl) = some res := by
  simp only [ck_i] at hex ⊢
  split at hex
  · exact hk _ _ _ _ _ _ _ hl hex
  · cases hex
theorem ck_m_ishr {k : ck_K} (hk : ck_KM k) {m : ck_M} {pc : Nat} {l l' : ck_L} {st : List Value} {h : ck_H} {res : Option Value × ck_H} (hl : ck_le l l') (hex : ck_i k m pc l st h (.ishr) = some res) : ck_i k m pc l' st h (.ishr) = some res := by
  simp only [ck_i] at hex ⊢
  split at hex
  · exact hk _ _ _ _ _ _ _ hl hex
  · cases hex
theorem ck_m_ineg {k : ck_K} (hk : ck_KM k) {m : ck_M} {pc : Nat} {l l' : ck_L} {st : List Value} {h : ck_H} {res : Option Value × ck_H} (hl : ck_le l l') (hex : ck_i k m pc l st h (.ineg) = some res) : ck_i k m pc l' st h (.ineg) = some res := by
  simp only [ck_i] at hex ⊢
  split at hex
  · exact hk _ _ _ _ _ _ _ hl hex
  · cases hex
theorem ck_m_i2l {k : ck_K} (hk : ck_KM k) {m : ck_M} {pc : Nat} {l l' : ck_L} {st : List Value} {h : ck_H} {res : Option Value × ck_H} (hl : ck_le l l') (hex : ck_i k m pc l st h (.i2l) = some res) : ck_i k m pc l' st h (.i2l) = some res := by
  simp only [ck_i] at hex ⊢
  split at hex
  · exact hk _ _ _ _ _ _ _ hl hex
  · cases hex
theorem ck_m_l2i {k : ck_K} (hk : ck_KM k) {m : ck_M} {pc : Nat} {l l' : ck_L} {st : List Value} {h : ck_H} {res : Option Value × ck_H} (hl : ck_le l l') (hex : ck_i k m pc l st h (.l2i) = some res) : ck_i k m pc l' st h (.l2i) = some res := by
  simp only [ck_i] at hex ⊢
  split at hex
  · exact hk _ _ _ _ _ _ _ hl hex
  · cases hex
theorem ck_m_i2b {k : ck_K} (hk : ck_KM k) {m : ck_M} {pc : Nat} {l l' : ck_L} {st : List Value} {h : ck_H} {res : Option Value × ck_H} (hl : ck_le l l') (hex : ck_i k m pc l st h (.i2b) = some res) : ck_i k m pc l' st h (.i2b) = some res := by
  simp only [ck_i] at hex ⊢
  split at hex
  · exact hk _ _ _ _ _ _ _ hl hex
  · cases hex
theorem ck_m_ladd {k : ck_K} (hk : ck_KM k) {m : ck_M} {pc : Nat} {l l' : ck_L} {st : List Value} {h : ck_H} {res : Option Value × ck_H} (hl : ck_le l l') (hex : ck_i k m pc l st h (.ladd) = some res) : ck_i k m pc l' st h (.ladd) = some res := by
  simp only [ck_i] at hex ⊢
  split at hex
  · exact hk _ _ _ _ _ _ _ hl hex
  · cases hex
theorem ck_m_lsub {k : ck_K} (hk : ck_KM k) {m : ck_M} {pc : Nat} {l l' : ck_L} {st : List Value} {h : ck_H} {res : Option Value × ck_H} (hl : ck_le l l') (hex : ck_i k m pc l st h (.lsub) = some res) : ck_i k m pc l' st h (.lsub) = some res := by
  simp only [ck_i] at hex ⊢
  split at hex
  · exact hk _ _ _ _ _ _ _ hl hex
  · cases hex
theorem ck_m_lmul {k : ck_K} (hk : ck_KM k) {m : ck_M} {pc : Nat} {l l' : ck_L} {st : List Value} {h : ck_H} {res : Option Value × ck_H} (hl : ck_le l l') (hex : ck_i k m pc l st h (.lmul) = some res) : ck_i k m pc l' st h (.lmul) = some res := by
  simp only [ck_i] at hex ⊢
  split at hex
  · exact hk _ _ _ _ _ _ _ hl hex
  · cases hex
theorem ck_m_lxor {k : ck_K} (hk : ck_KM k) {m : ck_M} {pc : Nat} {l l' : ck_L} {st : List Value} {h : ck_H} {res : Option Value × ck_H} (hl : ck_le l l') (hex : ck_i k m pc l st h (.lxor) = some res) : ck_i k m pc l' st h (.lxor) = some res := by
  simp only [ck_i] at hex ⊢
  split at hex
  · exact hk _ _ _ _ _ _ _ hl hex
  · cases hex
theorem ck_m_lcmp {k : ck_K} (hk : ck_KM k) {m : ck_M} {pc : Nat} {l l' : ck_L} {st : List Value} {h : ck_H} {res : Option Value × ck_H} (hl : ck_le l l') (hex : ck_i k m pc l st h (.lcmp) = some res) : ck_i k m pc l' st h (.lcmp) = some res := by
  simp only [ck_i] at hex ⊢
  split at hex
  · exact hk _ _ _ _ _ _ _ hl hex
  · cases hex
theorem ck_m_idiv {k : ck_K} (hk : ck_KM k) {m : ck_M} {pc : Nat} {l l' : ck_L} {st : List Value} {h : ck_H} {res : Option Value × ck_H} (hl : ck_le l l') (hex : ck_i k m pc l st h (.idiv) = some res) : ck_i k m pc l' st h (.idiv) = some res := by
  simp only [ck_i] at hex ⊢
  split at hex
  · split at hex
    · rename_i hx
      rw [if_pos hx]
      exact hk _ _ _ _ _ _ _ hl hex
    · cases hex
  · cases hex
theorem ck_m_irem {k : ck_K} (hk : ck_KM k) {m : ck_M} {pc : Nat} {l l' : ck_L} {st : List Value} {h : ck_H} {res : Option Value × ck_H} (hl : ck_le l l') (hex : ck_i k m pc l st h (.irem) = some res) : ck_i k m pc l' st h (.irem) = some res := by
  simp only [ck_i] at hex ⊢
  split at hex
  · split at hex
    · rename_i hx
      rw [if_pos hx]
      exact hk _ _ _ _ _ _ _ hl hex
    · cases hex
  · cases hex
theorem ck_m_lrem {k : ck_K} (hk : ck_KM k) {m : ck_M} {pc : Nat} {l l' : ck_L} {st : List Value} {h : ck_H} {res : Option Value × ck_H} (hl : ck_le l l') (hex : ck_i k m pc l st h (.lrem) = some res) : ck_i k m pc l' st h (.lrem) = some res := by
  simp only [ck_i] at hex ⊢
  split at hex
  · split at hex
    · rename_i hx
      rw [if_pos hx]
      exact hk _ _ _ _ _ _ _ hl hex
    · cases hex
  · cases hex
theorem ck_m_dup {k : ck_K} (hk : ck_KM k) {m : ck_M} {pc : Nat} {l l' : ck_L} {st : List Value} {h : ck_H} {res : Option Value × ck_H} (hl : ck_le l l') (hex : ck_i k m pc l st h (.dup) = some res) : ck_i k m pc l' st h (.dup) = some res := by
  simp only [ck_i] at hex ⊢
  split at hex
  · split at hex
    · rename_i hx
      rw [if_pos hx]
      exact hk _ _ _ _ _ _ _ hl hex
    · cases hex
  · cases hex
theorem ck_m_dup2 {k : ck_K} (hk : ck_KM k) {m : ck_M} {pc : Nat} {l l' : ck_L} {st : List Value} {h : ck_H} {res : Option Value × ck_H} (hl : ck_le l l') (hex : ck_i k m pc l st h (.dup2) = some res) : ck_i k m pc l' st h (.dup2) = some res := by
  simp only [ck_i] at hex ⊢
  split at hex
  · split at hex
    · rename_i hx
      rw [if_pos hx]
      exact hk _ _ _ _ _ _ _ hl hex
    · cases hex
  · cases hex
theorem ck_m_iaload {k : ck_K} (hk : ck_KM k) {m : ck_M} {pc : Nat} {l l' : ck_L} {st : List Value} {h : ck_H} {res : Option Value × ck_H} (hl : ck_le l l') (hex : ck_i k m pc l st h (.iaload) = some res) : ck_i k m pc l' st h (.iaload) = some res := by
  simp only [ck_i] at hex ⊢
  split at hex
  · split at hex
    · rename_i hx
      rw [if_pos hx]
      exact hk _ _ _ _ _ _ _ hl hex
    · cases hex
  · cases hex
theorem ck_m_baload {k : ck_K} (hk : ck_KM k) {m : ck_M} {pc : Nat} {l l' : ck_L} {st : List Value} {h : ck_H} {res : Option Value × ck_H} (hl : ck_le l l') (hex : ck_i k m pc l st h (.baload) = some res) : ck_i k m pc l' st h (.baload) = some res := by
  simp only [ck_i] at hex ⊢
  split at hex
  · split at hex
    · rename_i hx
      rw [if_pos hx]
      exact hk _ _ _ _ _ _ _ hl hex
    · cases hex
  · cases hex
theorem ck_m_aaload {k : ck_K} (hk : ck_KM k) {m : ck_M} {pc : Nat} {l l' : ck_L} {st : List Value} {h : ck_H} {res : Option Value × ck_H} (hl : ck_le l l') (hex : ck_i k m pc l st h (.aaload) = some res) : ck_i k m pc l' st h (.aaload) = some res := by
  simp only [ck_i] at hex ⊢
  split at hex
  · split at hex
    · rename_i hx
      rw [if_pos hx]
      exact hk _ _ _ _ _ _ _ hl hex
    · cases hex
  · cases hex
theorem ck_m_iastore {k : ck_K} (hk : ck_KM k) {m : ck_M} {pc : Nat} {l l' : ck_L} {st : List Value} {h : ck_H} {res : Option Value × ck_H} (hl : ck_le l l') (hex : ck_i k m pc l st h (.iastore) = some res) : ck_i k m pc l' st h (.iastore) = some res := by
  simp only [ck_i] at hex ⊢
  split at hex
  · split at hex
    · rename_i hx
      rw [if_pos hx]
      exact hk _ _ _ _ _ _ _ hl hex
    · cases hex
  · cases hex
theorem ck_m_aastore {k : ck_K} (hk : ck_KM k) {m : ck_M} {pc : Nat} {l l' : ck_L} {st : List Value} {h : ck_H} {res : Option Value × ck_H} (hl : ck_le l l') (hex : ck_i k m pc l st h (.aastore) = some res) : ck_i k m pc l' st h (.aastore) = some res := by
  simp only [ck_i] at hex ⊢
  split at hex
  · split at hex
    · rename_i hx
      rw [if_pos hx]
      exact hk _ _ _ _ _ _ _ hl hex
    · cases hex
  · cases hex
theorem ck_m_arraylength {k : ck_K} (hk : ck_KM k) {m : ck_M} {pc : Nat} {l l' : ck_L} {st : List Value} {h : ck_H} {res : Option Value × ck_H} (hl : ck_le l l') (hex : ck_i k m pc l st h (.arraylength) = some res) : ck_i k m pc l' st h (.arraylength) = some res := by
  simp only [ck_i] at hex ⊢
  split at hex
  · split at hex
    · rename_i hx
      rw [if_pos hx]
      exact hk _ _ _ _ _ _ _ hl hex
    · cases hex
  · cases hex
theorem ck_m_bastore {k : ck_K} (hk : ck_KM k) {m : ck_M} {pc : Nat} {l l' : ck_L} {st : List Value} {h : ck_H} {res : Option Value × ck_H} (hl : ck_le l l') (hex : ck_i k m pc l st h (.bastore) = some res) : ck_i k m pc l' st h (.bastore) = some res := by
  simp only [ck_i] at hex ⊢
  split at hex
  · split at hex
    · rename_i hx
      rw [if_pos hx]
      exact hk _ _ _ _ _ _ _ hl hex
    · rename_i hx
      rw [if_neg hx]
      split at hex
      · rename_i hy
        rw [if_pos hy]
        exact hk _ _ _ _ _ _ _ hl hex
      · cases hex
  · cases hex
theorem ck_m_jmp {k : ck_K} (hk : ck_KM k) {m : ck_M} {pc : Nat} {l l' : ck_L} {st : List Value} {h : ck_H} {res : Option Value × ck_H} {off : Int} (hl : ck_le l l') (hex : ck_jmp k m pc off l st h = some res) : ck_jmp k m pc off l' st h = some res := by
  unfold ck_jmp at hex ⊢
  split at hex
  · exact hk _ _ _ _ _ _ _ hl hex
  · cases hex
theorem ck_m_b1 {k : ck_K} (hk : ck_KM k) {m : ck_M} {pc : Nat} {l l' : ck_L} {st : List Value} {h : ck_H} {res : Option Value × ck_H} {off : Int} {c : Prop} [Decidable c] (hl : ck_le l l') (hex : ck_b1 k m pc off l st h c = some res) : ck_b1 k m pc off l' st h c = some res := by
  unfold ck_b1 at hex ⊢
  split at hex
  · split at hex
    · rename_i hc
      simp only [if_pos hc]
      exact hk _ _ _ _ _ _ _ hl hex
    · rename_i hc
      simp only [if_neg hc]
      exact hk _ _ _ _ _ _ _ hl hex
  · cases hex
theorem ck_m_call {k : ck_K} (hk : ck_KM k) {m y : ck_M} {pc : Nat} {l l' : ck_L} {As rest : List Value} {h : ck_H} {res : Option Value × ck_H} (hl : ck_le l l') (hex : ck_call k m pc l h y As rest = some res) : ck_call k m pc l' h y As rest = some res := by
  unfold ck_call at hex ⊢
  split at hex
  · rename_i hx
    rw [if_pos hx]
    split at hex
    · rename_i r h1 hy
      first | exact hk _ _ _ _ _ _ _ hl hex | (simp only [hy]; exact hk _ _ _ _ _ _ _ hl hex)
    · cases hex
  · cases hex
theorem ck_m_inv {k : ck_K} (hk : ck_KM k) {m : ck_M} {pc how : Nat} {e : Nat × Nat × ck_M} {l l' : ck_L} {st : List Value} {h : ck_H} {res : Option Value × ck_H} (hl : ck_le l l') (hex : ck_inv k m pc l st h e how = some res) : ck_inv k m pc l' st h e how = some res := by
  unfold ck_inv at hex ⊢
  split at hex
  · split at hex
    · rename_i hx
      rw [if_pos hx]
      split at hex
      · split at hex
        · rename_i hy
          simp only [if_pos hy]
          exact ck_m_call hk hl hex
        · cases hex
      · cases hex
    · cases hex
  · split at hex
    · rename_i hx
      rw [if_pos hx]
      exact ck_m_call hk hl hex
    · cases hex
  · split at hex
    · split at hex
      · rename_i hx
        rw [if_pos hx]
        exact hk _ _ _ _ _ _ _ hl hex
      · cases hex
    · cases hex
  · split at hex
    · split at hex
      · rename_i hx
        rw [if_pos hx]
        exact hk _ _ _ _ _ _ _ hl hex
      · cases hex
    · cases hex
  · split at hex
    · rename_i hx
      rw [if_pos hx]
      split at hex
      · exact ck_m_call hk hl hex
      · cases hex
    · cases hex
  · split at hex
    · rename_i hx
      rw [if_pos hx]
      split at hex
      · exact ck_m_call hk hl hex
      · cases hex
    · cases hex
  · cases hex
theorem ck_m_goto {k : ck_K} (hk : ck_KM k) {m : ck_M} {pc : Nat} {l l' : ck_L} {st : List Value} {h : ck_H} {res : Option Value × ck_H} {off : Int} (hl : ck_le l l') (hex : ck_i k m pc l st h (.goto off) = some res) : ck_i k m pc l' st h (.goto off) = some res := by
  simp only [ck_i] at hex ⊢
  exact ck_m_jmp hk hl hex
theorem ck_m_ifCond {k : ck_K} (hk : ck_KM k) {m : ck_M} {pc : Nat} {l l' : ck_L} {st : List Value} {h : ck_H} {res : Option Value × ck_H} {c : ClassFile.Cond} {off : Int} (hl : ck_le l l') (hex : ck_i k m pc l st h (.ifCond c off) = some res) : ck_i k m pc l' st h (.ifCond c off) = some res := by
  simp only [ck_i] at hex ⊢
  split at hex
  · cases c <;> exact ck_m_b1 hk hl hex
  · cases hex
theorem ck_m_if_icmp {k : ck_K} (hk : ck_KM k) {m : ck_M} {pc : Nat} {l l' : ck_L} {st : List Value} {h : ck_H} {res : Option Value × ck_H} {c : ClassFile.Cond} {off : Int} (hl : ck_le l l') (hex : ck_i k m pc l st h (.if_icmp c off) = some res) : ck_i k m pc l' st h (.if_icmp c off) = some res := by
  simp only [ck_i] at hex ⊢
  split at hex
  · cases c <;> exact ck_m_b1 hk hl hex
  · cases hex
theorem ck_m_ifnull {k : ck_K} (hk : ck_KM k) {m : ck_M} {pc : Nat} {l l' : ck_L} {st : List Value} {h : ck_H} {res : Option Value × ck_H} {off : Int} (hl : ck_le l l') (hex : ck_i k m pc l st h (.ifnull off) = some res) : ck_i k m pc l' st h (.ifnull off) = some res := by
  simp only [ck_i] at hex ⊢
  split at hex
  · exact ck_m_jmp hk hl hex
  · exact hk _ _ _ _ _ _ _ hl hex
  · cases hex
theorem ck_m_ifnonnull {k : ck_K} (hk : ck_KM k) {m : ck_M} {pc : Nat} {l l' : ck_L} {st : List Value} {h : ck_H} {res : Option Value × ck_H} {off : Int} (hl : ck_le l l') (hex : ck_i k m pc l st h (.ifnonnull off) = some res) : ck_i k m pc l' st h (.ifnonnull off) = some res := by
  simp only [ck_i] at hex ⊢
  split at hex
  · exact hk _ _ _ _ _ _ _ hl hex
  · exact ck_m_jmp hk hl hex
  · cases hex
theorem ck_m_tableswitch {k : ck_K} (hk : ck_KM k) {m : ck_M} {pc : Nat} {l l' : ck_L} {st : List Value} {h : ck_H} {res : Option Value × ck_H} {d lo hi : Int} {offs : Array Int} (hl : ck_le l l') (hex : ck_i k m pc l st h (.tableswitch d lo hi offs) = some res) : ck_i k m pc l' st h (.tableswitch d lo hi offs) = some res := by
  simp only [ck_i] at hex ⊢
  split at hex
  · split at hex
    · rename_i hx
      rw [if_pos hx]
      exact ck_m_jmp hk hl hex
    · rename_i hx
      rw [if_neg hx]
      split at hex
      · exact ck_m_jmp hk hl hex
      · cases hex
  · cases hex
theorem ck_m_lookupswitch {k : ck_K} (hk : ck_KM k) {m : ck_M} {pc : Nat} {l l' : ck_L} {st : List Value} {h : ck_H} {res : Option Value × ck_H} {d : Int} {ps : Array (Int × Int)} (hl : ck_le l l') (hex : ck_i k m pc l st h (.lookupswitch d ps) = some res) : ck_i k m pc l' st h (.lookupswitch d ps) = some res := by
  simp only [ck_i] at hex ⊢
  split at hex
  · split at hex
    · rename_i hx
      rw [if_pos hx]
      exact ck_m_jmp hk hl hex
    · cases hex
  · cases hex
theorem ck_m_getfield {k : ck_K} (hk : ck_KM k) {m : ck_M} {pc : Nat} {l l' : ck_L} {st : List Value} {h : ck_H} {res : Option Value × ck_H} {ix : Nat} (hl : ck_le l l') (hex : ck_i k m pc l st h (.getfield ix) = some res) : ck_i k m pc l' st h (.getfield ix) = some res := by
  simp only [ck_i] at hex ⊢
  split at hex
  · split at hex
    · split at hex
      · rename_i hx
        rw [if_pos hx]
        exact hk _ _ _ _ _ _ _ hl hex
      · cases hex
    · cases hex
  · cases hex
theorem ck_m_putfield {k : ck_K} (hk : ck_KM k) {m : ck_M} {pc : Nat} {l l' : ck_L} {st : List Value} {h : ck_H} {res : Option Value × ck_H} {ix : Nat} (hl : ck_le l l') (hex : ck_i k m pc l st h (.putfield ix) = some res) : ck_i k m pc l' st h (.putfield ix) = some res := by
  simp only [ck_i] at hex ⊢
  split at hex
  · split at hex
    · split at hex
      · rename_i hx
        rw [if_pos hx]
        split at hex
        · exact hk _ _ _ _ _ _ _ hl hex
        · cases hex
      · cases hex
    · cases hex
  · cases hex
theorem ck_m_new {k : ck_K} (hk : ck_KM k) {m : ck_M} {pc : Nat} {l l' : ck_L} {st : List Value} {h : ck_H} {res : Option Value × ck_H} {ix : Nat} (hl : ck_le l l') (hex : ck_i k m pc l st h (.new ix) = some res) : ck_i k m pc l' st h (.new ix) = some res := by
  simp only [ck_i] at hex ⊢
  split at hex
  · split at hex
    · rename_i hx
      rw [if_pos hx]
      exact hk _ _ _ _ _ _ _ hl hex
    · cases hex
  · cases hex
theorem ck_m_newarray {k : ck_K} (hk : ck_KM k) {m : ck_M} {pc : Nat} {l l' : ck_L} {st : List Value} {h : ck_H} {res : Option Value × ck_H} {t : ArrayType} (hl : ck_le l l') (hex : ck_i k m pc l st h (.newarray t) = some res) : ck_i k m pc l' st h (.newarray t) = some res := by
  simp only [ck_i] at hex ⊢
  split at hex
  · split at hex
    · rename_i hx
      rw [if_pos hx]
      exact hk _ _ _ _ _ _ _ hl hex
    · cases hex
  · cases hex
theorem ck_m_anewarray {k : ck_K} (hk : ck_KM k) {m : ck_M} {pc : Nat} {l l' : ck_L} {st : List Value} {h : ck_H} {res : Option Value × ck_H} {ix : Nat} (hl : ck_le l l') (hex : ck_i k m pc l st h (.anewarray ix) = some res) : ck_i k m pc l' st h (.anewarray ix) = some res := by
  simp only [ck_i] at hex ⊢
  split at hex
  · split at hex
    · rename_i hx
      rw [if_pos hx]
      exact hk _ _ _ _ _ _ _ hl hex
    · cases hex
  · cases hex
theorem ck_m_invokevirtual {k : ck_K} (hk : ck_KM k) {m : ck_M} {pc : Nat} {l l' : ck_L} {st : List Value} {h : ck_H} {res : Option Value × ck_H} {ix : Nat} (hl : ck_le l l') (hex : ck_i k m pc l st h (.invokevirtual ix) = some res) : ck_i k m pc l' st h (.invokevirtual ix) = some res := by
  simp only [ck_i] at hex ⊢
  split at hex
  · exact ck_m_inv hk hl hex
  · cases hex
theorem ck_m_invokestatic {k : ck_K} (hk : ck_KM k) {m : ck_M} {pc : Nat} {l l' : ck_L} {st : List Value} {h : ck_H} {res : Option Value × ck_H} {ix : Nat} (hl : ck_le l l') (hex : ck_i k m pc l st h (.invokestatic ix) = some res) : ck_i k m pc l' st h (.invokestatic ix) = some res := by
  simp only [ck_i] at hex ⊢
  split at hex
  · exact ck_m_inv hk hl hex
  · cases hex
theorem ck_m_invokespecial {k : ck_K} (hk : ck_KM k) {m : ck_M} {pc : Nat} {l l' : ck_L} {st : List Value} {h : ck_H} {res : Option Value × ck_H} {ix : Nat} (hl : ck_le l l') (hex : ck_i k m pc l st h (.invokespecial ix) = some res) : ck_i k m pc l' st h (.invokespecial ix) = some res := by
  simp only [ck_i] at hex ⊢
  split at hex
  · exact ck_m_inv hk hl hex
  · cases hex
theorem ck_m_step {k : ck_K} (hk : ck_KM k) {m : ck_M} {pc : Nat} {i : Instr} {l l' : ck_L} {st : List Value} {h : ck_H} {res : Option Value × ck_H} (hl : ck_le l l') (hex : ck_i k m pc l st h i = some res) : ck_i k m pc l' st h i = some res := by
  cases i with
  | iconst n => exact ck_m_iconst hk hl hex
  | bipush n => exact ck_m_bipush hk hl hex
  | sipush n => exact ck_m_sipush hk hl hex
  | lconst n => exact ck_m_lconst hk hl hex
  | aconst_null => exact ck_m_aconst_null hk hl hex
  | ldc ix => exact ck_m_ldc hk hl hex
  | ldc2_w ix => exact ck_m_ldc2_w hk hl hex
  | iload i => exact ck_m_iload hk hl hex
  | iload_n i => exact ck_m_iload_n hk hl hex
  | lload i => exact ck_m_lload hk hl hex
  | lload_n i => exact ck_m_lload_n hk hl hex
  | aload i => exact ck_m_aload hk hl hex
  | aload_n i => exact ck_m_aload_n hk hl hex
  | istore i => exact ck_m_istore hk hl hex
  | istore_n i => exact ck_m_istore_n hk hl hex
  | lstore i => exact ck_m_lstore hk hl hex
  | astore i => exact ck_m_astore hk hl hex
  | astore_n i => exact ck_m_astore_n hk hl hex
  | iinc i n => exact ck_m_iinc hk hl hex
  | iadd => exact ck_m_iadd hk hl hex
  | isub => exact ck_m_isub hk hl hex
  | imul => exact ck_m_imul hk hl hex
  | iand => exact ck_m_iand hk hl hex
  | ior => exact ck_m_ior hk hl hex
  | ishl => exact ck_m_ishl hk hl hex
  | ishr => exact ck_m_ishr hk hl hex
  | ineg => exact ck_m_ineg hk hl hex
  | i2l => exact ck_m_i2l hk hl hex
  | l2i => exact ck_m_l2i hk hl hex
  | i2b => exact ck_m_i2b hk hl hex
  | ladd => exact ck_m_ladd hk hl hex
  | lsub => exact ck_m_lsub hk hl hex
  | lmul => exact ck_m_lmul hk hl hex
  | lxor => exact ck_m_lxor hk hl hex
  | lcmp => exact ck_m_lcmp hk hl hex
  | idiv => exact ck_m_idiv hk hl hex
  | irem => exact ck_m_irem hk hl hex
  | lrem => exact ck_m_lrem hk hl hex
  | dup => exact ck_m_dup hk hl hex
  | dup2 => exact ck_m_dup2 hk hl hex
  | iaload => exact ck_m_iaload hk hl hex
  | baload => exact ck_m_baload hk hl hex
  | aaload => exact ck_m_aaload hk hl hex
  | iastore => exact ck_m_iastore hk hl hex
  | aastore => exact ck_m_aastore hk hl hex
  | arraylength => exact ck_m_arraylength hk hl hex
  | bastore => exact ck_m_bastore hk hl hex
  | goto off => exact ck_m_goto hk hl hex
  | ifCond c off => exact ck_m_ifCond hk hl hex
  | if_icmp c off => exact ck_m_if_icmp hk hl hex
  | ifnull off => exact ck_m_ifnull hk hl hex
  | ifnonnull off => exact ck_m_ifnonnull hk hl hex
  | tableswitch d lo hi offs => exact ck_m_tableswitch hk hl hex
  | lookupswitch d ps => exact ck_m_lookupswitch hk hl hex
  | getfield ix => exact ck_m_getfield hk hl hex
  | putfield ix => exact ck_m_putfield hk hl hex
  | new ix => exact ck_m_new hk hl hex
  | newarray t => exact ck_m_newarray hk hl hex
  | anewarray ix => exact ck_m_anewarray hk hl hex
  | invokevirtual ix => exact ck_m_invokevirtual hk hl hex
  | invokestatic ix => exact ck_m_invokestatic hk hl hex
  | invokespecial ix => exact ck_m_invokespecial hk hl hex
  | ireturn => exact hex
  | lreturn => exact hex
  | areturn => exact hex
  | return_ => exact hex
  | _ => simp [ck_i] at hex
theorem ck_mono : ∀ f : Nat, ck_KM (ck_x f)
  | 0 => fun m pc l l' st h res hl hex => by simp [ck_x] at hex
  | f + 1 => fun m pc l l' st h res hl hex => by
    simp only [ck_x] at hex ⊢
    split at hex
    · exact ck_m_step (ck_mono f) hl hex
    · cases hex
theorem go_forget {m : ck_M} {pc : Nat} {l l' : ck_L} {st : List Value} {h : ck_H} {res : Option Value × ck_H} (hl : ck_le l l') (g : Go m pc l st h res) : Go m pc l' st h res := by
  obtain ⟨n, hn⟩ := g
  exact ⟨n, fun f hf => ck_mono f _ _ _ _ _ _ _ hl (hn f hf)⟩
