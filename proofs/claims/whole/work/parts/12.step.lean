/-- a machine that is sound -/
def ck_KS (k : ck_K) : Prop := ∀ (m : ck_M) (pc : Nat) (ls : ck_L) (st : List Value) (h : ck_H) (r : Option Value) (h' : ck_H), k m pc ls st h = some (r, h') → ck_S m pc ls st h r h'
theorem ck_q_jmp {k : ck_K} (hk : ck_KS k) {m : ck_M} {pc : Nat} {off : Int} {ls : ck_L} {st : List Value} {h h' : ck_H} {r : Option Value} (hex : ck_jmp k m pc off ls st h = some (r, h')) : ∃ t, ck_tg pc off = some t ∧ ck_S m t ls st h r h' := by
  unfold ck_jmp at hex
  split at hex
  · rename_i t ht
    exact ⟨t, ht, hk _ _ _ _ _ _ _ hex⟩
  · cases hex
theorem ck_q_iconst {k : ck_K} (hk : ck_KS k) {m : ck_M} {pc : Nat} {ls : ck_L} {st : List Value} {h h' : ck_H} {r : Option Value} {n : Int} (hc : (ck_cd m).lookup pc = some (.iconst n)) (hex : ck_i k m pc ls st h (.iconst n) = some (r, h')) : ck_S m pc ls st h r h' := by
  simp only [ck_i] at hex
  exact ck_r_iconst hc (hk _ _ _ _ _ _ _ hex)
theorem ck_q_bipush {k : ck_K} (hk : ck_KS k) {m : ck_M} {pc : Nat} {ls : ck_L} {st : List Value} {h h' : ck_H} {r : Option Value} {n : Int} (hc : (ck_cd m).lookup pc = some (.bipush n)) (hex : ck_i k m pc ls st h (.bipush n) = some (r, h')) : ck_S m pc ls st h r h' := by
  simp only [ck_i] at hex
  exact ck_r_bipush hc (hk _ _ _ _ _ _ _ hex)
theorem ck_q_sipush {k : ck_K} (hk : ck_KS k) {m : ck_M} {pc : Nat} {ls : ck_L} {st : List Value} {h h' : ck_H} {r : Option Value} {n : Int} (hc : (ck_cd m).lookup pc = some (.sipush n)) (hex : ck_i k m pc ls st h (.sipush n) = some (r, h')) : ck_S m pc ls st h r h' := by
  simp only [ck_i] at hex
  exact ck_r_sipush hc (hk _ _ _ _ _ _ _ hex)
theorem ck_q_lconst {k : ck_K} (hk : ck_KS k) {m : ck_M} {pc : Nat} {ls : ck_L} {st : List Value} {h h' : ck_H} {r : Option Value} {n : Fin 2} (hc : (ck_cd m).lookup pc = some (.lconst n)) (hex : ck_i k m pc ls st h (.lconst n) = some (r, h')) : ck_S m pc ls st h r h' := by
  simp only [ck_i] at hex
  exact ck_r_lconst hc (hk _ _ _ _ _ _ _ hex)
theorem ck_q_null {k : ck_K} (hk : ck_KS k) {m : ck_M} {pc : Nat} {ls : ck_L} {st : List Value} {h h' : ck_H} {r : Option Value} (hc : (ck_cd m).lookup pc = some (.aconst_null)) (hex : ck_i k m pc ls st h (.aconst_null) = some (r, h')) : ck_S m pc ls st h r h' := by
  simp only [ck_i] at hex
  exact ck_r_null hc (hk _ _ _ _ _ _ _ hex)
theorem ck_q_ldc {k : ck_K} (hk : ck_KS k) {m : ck_M} {pc : Nat} {ls : ck_L} {st : List Value} {h h' : ck_H} {r : Option Value} {ix : Nat} (hc : (ck_cd m).lookup pc = some (.ldc ix)) (hex : ck_i k m pc ls st h (.ldc ix) = some (r, h')) : ck_S m pc ls st h r h' := by
  simp only [ck_i] at hex
  split at hex
  · rename_i v hv
    exact ck_r_ldc hc hv (hk _ _ _ _ _ _ _ hex)
  · cases hex
theorem ck_q_ldc2 {k : ck_K} (hk : ck_KS k) {m : ck_M} {pc : Nat} {ls : ck_L} {st : List Value} {h h' : ck_H} {r : Option Value} {ix : Nat} (hc : (ck_cd m).lookup pc = some (.ldc2_w ix)) (hex : ck_i k m pc ls st h (.ldc2_w ix) = some (r, h')) : ck_S m pc ls st h r h' := by
  simp only [ck_i] at hex
  split at hex
  · rename_i v hv
    exact ck_r_ldc2 hc hv (hk _ _ _ _ _ _ _ hex)
  · cases hex
theorem ck_q_iload {k : ck_K} (hk : ck_KS k) {m : ck_M} {pc : Nat} {ls : ck_L} {st : List Value} {h h' : ck_H} {r : Option Value} {i : Nat} (hc : (ck_cd m).lookup pc = some (.iload i)) (hex : ck_i k m pc ls st h (.iload i) = some (r, h')) : ck_S m pc ls st h r h' := by
  simp only [ck_i, ck_ldi] at hex
  split at hex
  · rename_i x hx
    exact ck_r_iload hc hx (hk _ _ _ _ _ _ _ hex)
  · cases hex
theorem ck_q_iload_n {k : ck_K} (hk : ck_KS k) {m : ck_M} {pc : Nat} {ls : ck_L} {st : List Value} {h h' : ck_H} {r : Option Value} {i : Fin 4} (hc : (ck_cd m).lookup pc = some (.iload_n i)) (hex : ck_i k m pc ls st h (.iload_n i) = some (r, h')) : ck_S m pc ls st h r h' := by
  simp only [ck_i, ck_ldi] at hex
  split at hex
  · rename_i x hx
    exact ck_r_iload_n hc hx (hk _ _ _ _ _ _ _ hex)
  · cases hex
theorem ck_q_lload {k : ck_K} (hk : ck_KS k) {m : ck_M} {pc : Nat} {ls : ck_L} {st : List Value} {h h' : ck_H} {r : Option Value} {i : Nat} (hc : (ck_cd m).lookup pc = some (.lload i)) (hex : ck_i k m pc ls st h (.lload i) = some (r, h')) : ck_S m pc ls st h r h' := by
  simp only [ck_i, ck_ldl] at hex
  split at hex
  · rename_i x hx
    exact ck_r_lload hc hx (hk _ _ _ _ _ _ _ hex)
  · cases hex
theorem ck_q_lload_n {k : ck_K} (hk : ck_KS k) {m : ck_M} {pc : Nat} {ls : ck_L} {st : List Value} {h h' : ck_H} {r : Option Value} {i : Fin 4} (hc : (ck_cd m).lookup pc = some (.lload_n i)) (hex : ck_i k m pc ls st h (.lload_n i) = some (r, h')) : ck_S m pc ls st h r h' := by
  simp only [ck_i, ck_ldl] at hex
  split at hex
  · rename_i x hx
    exact ck_r_lload_n hc hx (hk _ _ _ _ _ _ _ hex)
  · cases hex
theorem ck_q_aload {k : ck_K} (hk : ck_KS k) {m : ck_M} {pc : Nat} {ls : ck_L} {st : List Value} {h h' : ck_H} {r : Option Value} {i : Nat} (hc : (ck_cd m).lookup pc = some (.aload i)) (hex : ck_i k m pc ls st h (.aload i) = some (r, h')) : ck_S m pc ls st h r h' := by
  simp only [ck_i, ck_lda] at hex
  split at hex
  · rename_i x hx
    exact ck_r_aload hc hx (hk _ _ _ _ _ _ _ hex)
  · rename_i hx
    exact ck_r_aloadN hc hx (hk _ _ _ _ _ _ _ hex)
  · cases hex
theorem ck_q_aload_n {k : ck_K} (hk : ck_KS k) {m : ck_M} {pc : Nat} {ls : ck_L} {st : List Value} {h h' : ck_H} {r : Option Value} {i : Fin 4} (hc : (ck_cd m).lookup pc = some (.aload_n i)) (hex : ck_i k m pc ls st h (.aload_n i) = some (r, h')) : ck_S m pc ls st h r h' := by
  simp only [ck_i, ck_lda] at hex
  split at hex
  · rename_i x hx
    exact ck_r_aload_n hc hx (hk _ _ _ _ _ _ _ hex)
  · rename_i hx
    exact ck_r_aload_nN hc hx (hk _ _ _ _ _ _ _ hex)
  · cases hex
theorem ck_q_istore {k : ck_K} (hk : ck_KS k) {m : ck_M} {pc : Nat} {ls : ck_L} {st : List Value} {h h' : ck_H} {r : Option Value} {i : Nat} (hc : (ck_cd m).lookup pc = some (.istore i)) (hex : ck_i k m pc ls st h (.istore i) = some (r, h')) : ck_S m pc ls st h r h' := by
  simp only [ck_i, ck_soi] at hex
  split at hex
  · unfold ck_sv at hex
    split at hex
    · rename_i l hl
      exact ck_r_istore hc hl (hk _ _ _ _ _ _ _ hex)
    · cases hex
  · cases hex
theorem ck_q_istore_n {k : ck_K} (hk : ck_KS k) {m : ck_M} {pc : Nat} {ls : ck_L} {st : List Value} {h h' : ck_H} {r : Option Value} {i : Fin 4} (hc : (ck_cd m).lookup pc = some (.istore_n i)) (hex : ck_i k m pc ls st h (.istore_n i) = some (r, h')) : ck_S m pc ls st h r h' := by
  simp only [ck_i, ck_soi] at hex
  split at hex
  · unfold ck_sv at hex
    split at hex
    · rename_i l hl
      exact ck_r_istore_n hc hl (hk _ _ _ _ _ _ _ hex)
    · cases hex
  · cases hex
theorem ck_q_lstore {k : ck_K} (hk : ck_KS k) {m : ck_M} {pc : Nat} {ls : ck_L} {st : List Value} {h h' : ck_H} {r : Option Value} {i : Nat} (hc : (ck_cd m).lookup pc = some (.lstore i)) (hex : ck_i k m pc ls st h (.lstore i) = some (r, h')) : ck_S m pc ls st h r h' := by
  simp only [ck_i, ck_sol] at hex
  split at hex
  · unfold ck_sv at hex
    split at hex
    · rename_i l hl
      exact ck_r_lstore hc hl (hk _ _ _ _ _ _ _ hex)
    · cases hex
  · cases hex
theorem ck_q_astore {k : ck_K} (hk : ck_KS k) {m : ck_M} {pc : Nat} {ls : ck_L} {st : List Value} {h h' : ck_H} {r : Option Value} {i : Nat} (hc : (ck_cd m).lookup pc = some (.astore i)) (hex : ck_i k m pc ls st h (.astore i) = some (r, h')) : ck_S m pc ls st h r h' := by
  simp only [ck_i, ck_soa] at hex
  split at hex
  · unfold ck_sv at hex
    split at hex
    · rename_i l hl
      exact ck_r_astore hc hl (hk _ _ _ _ _ _ _ hex)
    · cases hex
  · unfold ck_sv at hex
    split at hex
    · rename_i l hl
      exact ck_r_astoreN hc hl (hk _ _ _ _ _ _ _ hex)
    · cases hex
  · cases hex
theorem ck_q_astore_n {k : ck_K} (hk : ck_KS k) {m : ck_M} {pc : Nat} {ls : ck_L} {st : List Value} {h h' : ck_H} {r : Option Value} {i : Fin 4} (hc : (ck_cd m).lookup pc = some (.astore_n i)) (hex : ck_i k m pc ls st h (.astore_n i) = some (r, h')) : ck_S m pc ls st h r h' := by
  simp only [ck_i, ck_soa] at hex
  split at hex
  · unfold ck_sv at hex
    split at hex
    · rename_i l hl
      exact ck_r_astore_n hc hl (hk _ _ _ _ _ _ _ hex)
    · cases hex
  · unfold ck_sv at hex
    split at hex
    · rename_i l hl
      exact ck_r_astore_nN hc hl (hk _ _ _ _ _ _ _ hex)
    · cases hex
  · cases hex
theorem ck_q_iinc {k : ck_K} (hk : ck_KS k) {m : ck_M} {pc : Nat} {ls : ck_L} {st : List Value} {h h' : ck_H} {r : Option Value} {i : Nat} {n : Int} (hc : (ck_cd m).lookup pc = some (.iinc i n)) (hex : ck_i k m pc ls st h (.iinc i n) = some (r, h')) : ck_S m pc ls st h r h' := by
  simp only [ck_i] at hex
  split at hex
  · rename_i x hx
    unfold ck_sv at hex
    split at hex
    · rename_i l hl
      exact ck_r_iinc hc hx hl (hk _ _ _ _ _ _ _ hex)
    · cases hex
  · cases hex
theorem ck_q_iadd {k : ck_K} (hk : ck_KS k) {m : ck_M} {pc : Nat} {ls : ck_L} {st : List Value} {h h' : ck_H} {r : Option Value} (hc : (ck_cd m).lookup pc = some (.iadd)) (hex : ck_i k m pc ls st h (.iadd) = some (r, h')) : ck_S m pc ls st h r h' := by
  simp only [ck_i] at hex
  split at hex
  · exact ck_r_iadd hc (hk _ _ _ _ _ _ _ hex)
  · cases hex
theorem ck_q_isub {k : ck_K} (hk : ck_KS k) {m : ck_M} {pc : Nat} {ls : ck_L} {st : List Value} {h h' : ck_H} {r : Option Value} (hc : (ck_cd m).lookup pc = some (.isub)) (hex : ck_i k m pc ls st h (.isub) = some (r, h')) : ck_S m pc ls st h r h' := by
  simp only [ck_i] at hex
  split at hex
  · exact ck_r_isub hc (hk _ _ _ _ _ _ _ hex)
  · cases hex
theorem ck_q_imul {k : ck_K} (hk : ck_KS k) {m : ck_M} {pc : Nat} {ls : ck_L} {st : List Value} {h h' : ck_H} {r : Option Value} (hc : (ck_cd m).lookup pc = some (.imul)) (hex : ck_i k m pc ls st h (.imul) = some (r, h')) : ck_S m pc ls st h r h' := by
  simp only [ck_i] at hex
  split at hex
  · exact ck_r_imul hc (hk _ _ _ _ _ _ _ hex)
  · cases hex
theorem ck_q_iand {k : ck_K} (hk : ck_KS k) {m : ck_M} {pc : Nat} {ls : ck_L} {st : List Value} {h h' : ck_H} {r : Option Value} (hc : (ck_cd m).lookup pc = some (.iand)) (hex : ck_i k m pc ls st h (.iand) = some (r, h')) : ck_S m pc ls st h r h' := by
  simp only [ck_i] at hex
  split at hex
  · exact ck_r_iand hc (hk _ _ _ _ _ _ _ hex)
  · cases hex
theorem ck_q_ior {k : ck_K} (hk : ck_KS k) {m : ck_M} {pc : Nat} {ls : ck_L} {st : List Value} {h h' : ck_H} {r : Option Value} (hc : (ck_cd m).lookup pc = some (.ior)) (hex : ck_i k m pc ls st h (.ior) = some (r, h')) : ck_S m pc ls st h r h' := by
  simp only [ck_i] at hex
  split at hex
  · exact ck_r_ior hc (hk _ _ _ _ _ _ _ hex)
  · cases hex
theorem ck_q_ishl {k : ck_K} (hk : ck_KS k) {m : ck_M} {pc : Nat} {ls : ck_L} {st : List Value} {h h' : ck_H} {r : Option Value} (hc : (ck_cd m).lookup pc = some (.ishl)) (hex : ck_i k m pc ls st h (.ishl) = some (r, h')) : ck_S m pc ls st h r h' := by
  simp only [ck_i] at hex
  split at hex
  · exact ck_r_ishl hc (hk _ _ _ _ _ _ _ hex)
  · cases hex
theorem ck_q_ishr {k : ck_K} (hk : ck_KS k) {m : ck_M} {pc : Nat} {ls : ck_L} {st : List Value} {h h' : ck_H} {r : Option Value} (hc : (ck_cd m).lookup pc = some (.ishr)) (hex : ck_i k m pc ls st h (.ishr) = some (r, h')) : ck_S m pc ls st h r h' := by
  simp only [ck_i] at hex
  split at hex
  · exact ck_r_ishr hc (hk _ _ _ _ _ _ _ hex)
  · cases hex
theorem ck_q_ineg {k : ck_K} (hk : ck_KS k) {m : ck_M} {pc : Nat} {ls : ck_L} {st : List Value} {h h' : ck_H} {r : Option Value} (hc : (ck_cd m).lookup pc = some (.ineg)) (hex : ck_i k m pc ls st h (.ineg) = some (r, h')) : ck_S m pc ls st h r h' := by
  simp only [ck_i] at hex
  split at hex
  · exact ck_r_ineg hc (hk _ _ _ _ _ _ _ hex)
  · cases hex
theorem ck_q_i2l {k : ck_K} (hk : ck_KS k) {m : ck_M} {pc : Nat} {ls : ck_L} {st : List Value} {h h' : ck_H} {r : Option Value} (hc : (ck_cd m).lookup pc = some (.i2l)) (hex : ck_i k m pc ls st h (.i2l) = some (r, h')) : ck_S m pc ls st h r h' := by
  simp only [ck_i] at hex
  split at hex
  · exact ck_r_i2l hc (hk _ _ _ _ _ _ _ hex)
  · cases hex
theorem ck_q_l2i {k : ck_K} (hk : ck_KS k) {m : ck_M} {pc : Nat} {ls : ck_L} {st : List Value} {h h' : ck_H} {r : Option Value} (hc : (ck_cd m).lookup pc = some (.l2i)) (hex : ck_i k m pc ls st h (.l2i) = some (r, h')) : ck_S m pc ls st h r h' := by
  simp only [ck_i] at hex
  split at hex
  · exact ck_r_l2i hc (hk _ _ _ _ _ _ _ hex)
  · cases hex
theorem ck_q_i2b {k : ck_K} (hk : ck_KS k) {m : ck_M} {pc : Nat} {ls : ck_L} {st : List Value} {h h' : ck_H} {r : Option Value} (hc : (ck_cd m).lookup pc = some (.i2b)) (hex : ck_i k m pc ls st h (.i2b) = some (r, h')) : ck_S m pc ls st h r h' := by
  simp only [ck_i] at hex
  split at hex
  · exact ck_r_i2b hc (hk _ _ _ _ _ _ _ hex)
  · cases hex
theorem ck_q_ladd {k : ck_K} (hk : ck_KS k) {m : ck_M} {pc : Nat} {ls : ck_L} {st : List Value} {h h' : ck_H} {r : Option Value} (hc : (ck_cd m).lookup pc = some (.ladd)) (hex : ck_i k m pc ls st h (.ladd) = some (r, h')) : ck_S m pc ls st h r h' := by
  simp only [ck_i] at hex
  split at hex
  · exact ck_r_ladd hc (hk _ _ _ _ _ _ _ hex)
  · cases hex
theorem ck_q_lsub {k : ck_K} (hk : ck_KS k) {m : ck_M} {pc : Nat} {ls : ck_L} {st : List Value} {h h' : ck_H} {r : Option Value} (hc : (ck_cd m).lookup pc = some (.lsub)) (hex : ck_i k m pc ls st h (.lsub) = some (r, h')) : ck_S m pc ls st h r h' := by
  simp only [ck_i] at hex
  split at hex
  · exact ck_r_lsub hc (hk _ _ _ _ _ _ _ hex)
  · cases hex
theorem ck_q_lmul {k : ck_K} (hk : ck_KS k) {m : ck_M} {pc : Nat} {ls : ck_L} {st : List Value} {h h' : ck_H} {r : Option Value} (hc : (ck_cd m).lookup pc = some (.lmul)) (hex : ck_i k m pc ls st h (.lmul) = some (r, h')) : ck_S m pc ls st h r h' := by
  simp only [ck_i] at hex
  split at hex
  · exact ck_r_lmul hc (hk _ _ _ _ _ _ _ hex)
  · cases hex
theorem ck_q_lxor {k : ck_K} (hk : ck_KS k) {m : ck_M} {pc : Nat} {ls : ck_L} {st : List Value} {h h' : ck_H} {r : Option Value} (hc : (ck_cd m).lookup pc = some (.lxor)) (hex : ck_i k m pc ls st h (.lxor) = some (r, h')) : ck_S m pc ls st h r h' := by
  simp only [ck_i] at hex
  split at hex
  · exact ck_r_lxor hc (hk _ _ _ _ _ _ _ hex)
  · cases hex
theorem ck_q_lcmp {k : ck_K} (hk : ck_KS k) {m : ck_M} {pc : Nat} {ls : ck_L} {st : List Value} {h h' : ck_H} {r : Option Value} (hc : (ck_cd m).lookup pc = some (.lcmp)) (hex : ck_i k m pc ls st h (.lcmp) = some (r, h')) : ck_S m pc ls st h r h' := by
  simp only [ck_i] at hex
  split at hex
  · exact ck_r_lcmp hc (hk _ _ _ _ _ _ _ hex)
  · cases hex
theorem ck_q_idiv {k : ck_K} (hk : ck_KS k) {m : ck_M} {pc : Nat} {ls : ck_L} {st : List Value} {h h' : ck_H} {r : Option Value} (hc : (ck_cd m).lookup pc = some (.idiv)) (hex : ck_i k m pc ls st h (.idiv) = some (r, h')) : ck_S m pc ls st h r h' := by
  simp only [ck_i] at hex
  split at hex
  · split at hex
    · rename_i hy
      exact ck_r_idiv hc hy (hk _ _ _ _ _ _ _ hex)
    · cases hex
  · cases hex
theorem ck_q_irem {k : ck_K} (hk : ck_KS k) {m : ck_M} {pc : Nat} {ls : ck_L} {st : List Value} {h h' : ck_H} {r : Option Value} (hc : (ck_cd m).lookup pc = some (.irem)) (hex : ck_i k m pc ls st h (.irem) = some (r, h')) : ck_S m pc ls st h r h' := by
  simp only [ck_i] at hex
  split at hex
  · split at hex
    · rename_i hy
      exact ck_r_irem hc hy (hk _ _ _ _ _ _ _ hex)
    · cases hex
  · cases hex
theorem ck_q_lrem {k : ck_K} (hk : ck_KS k) {m : ck_M} {pc : Nat} {ls : ck_L} {st : List Value} {h h' : ck_H} {r : Option Value} (hc : (ck_cd m).lookup pc = some (.lrem)) (hex : ck_i k m pc ls st h (.lrem) = some (r, h')) : ck_S m pc ls st h r h' := by
  simp only [ck_i] at hex
  split at hex
  · split at hex
    · rename_i hy
      exact ck_r_lrem hc hy (hk _ _ _ _ _ _ _ hex)
    · cases hex
  · cases hex
theorem ck_q_dup {k : ck_K} (hk : ck_KS k) {m : ck_M} {pc : Nat} {ls : ck_L} {st : List Value} {h h' : ck_H} {r : Option Value} (hc : (ck_cd m).lookup pc = some (.dup)) (hex : ck_i k m pc ls st h (.dup) = some (r, h')) : ck_S m pc ls st h r h' := by
  simp only [ck_i] at hex
  split at hex
  · split at hex
    · rename_i hv
      exact ck_r_dup hc hv (hk _ _ _ _ _ _ _ hex)
    · cases hex
  · cases hex
theorem ck_q_dup2 {k : ck_K} (hk : ck_KS k) {m : ck_M} {pc : Nat} {ls : ck_L} {st : List Value} {h h' : ck_H} {r : Option Value} (hc : (ck_cd m).lookup pc = some (.dup2)) (hex : ck_i k m pc ls st h (.dup2) = some (r, h')) : ck_S m pc ls st h r h' := by
  simp only [ck_i] at hex
  split at hex
  · split at hex
    · rename_i hv
      exact ck_r_dup2 hc hv.1 hv.2 (hk _ _ _ _ _ _ _ hex)
    · cases hex
  · cases hex
theorem ck_q_goto {k : ck_K} (hk : ck_KS k) {m : ck_M} {pc : Nat} {ls : ck_L} {st : List Value} {h h' : ck_H} {r : Option Value} {off : Int} (hc : (ck_cd m).lookup pc = some (.goto off)) (hex : ck_i k m pc ls st h (.goto off) = some (r, h')) : ck_S m pc ls st h r h' := by
  simp only [ck_i] at hex
  obtain ⟨t, ht, k1⟩ := ck_q_jmp hk hex
  exact ck_r_goto hc ht k1
theorem ck_q_b1 {k : ck_K} (hk : ck_KS k) {m : ck_M} {pc : Nat} {off : Int} {ls : ck_L} {st : List Value} {h h' : ck_H} {r : Option Value} {c : Prop} [Decidable c] (hex : ck_b1 k m pc off ls st h c = some (r, h')) : ∃ t, ck_tg pc off = some t ∧ (c → ck_S m t ls st h r h') ∧ (¬ c → ck_S m (pc + 3) ls st h r h') := by
  unfold ck_b1 at hex
  split at hex
  · rename_i t ht
    refine ⟨t, ht, fun hc => ?_, fun hc => ?_⟩
    · rw [if_pos hc] at hex
      exact hk _ _ _ _ _ _ _ hex
    · rw [if_neg hc] at hex
      exact hk _ _ _ _ _ _ _ hex
  · cases hex
theorem ck_q_if {k : ck_K} (hk : ck_KS k) {m : ck_M} {pc : Nat} {ls : ck_L} {st : List Value} {h h' : ck_H} {r : Option Value} {c : ClassFile.Cond} {off : Int} (hc : (ck_cd m).lookup pc = some (.ifCond c off)) (hex : ck_i k m pc ls st h (.ifCond c off) = some (r, h')) : ck_S m pc ls st h r h' := by
  simp only [ck_i] at hex
  split at hex
  · cases c
    · obtain ⟨t, ht, kt, kf⟩ := ck_q_b1 hk hex
      exact ck_r_if_eq hc ht kt kf
    · obtain ⟨t, ht, kt, kf⟩ := ck_q_b1 hk hex
      exact ck_r_if_ne hc ht kt kf
    · obtain ⟨t, ht, kt, kf⟩ := ck_q_b1 hk hex
      exact ck_r_if_lt hc ht kt kf
    · obtain ⟨t, ht, kt, kf⟩ := ck_q_b1 hk hex
      exact ck_r_if_ge hc ht kt kf
    · obtain ⟨t, ht, kt, kf⟩ := ck_q_b1 hk hex
      exact ck_r_if_gt hc ht kt kf
    · obtain ⟨t, ht, kt, kf⟩ := ck_q_b1 hk hex
      exact ck_r_if_le hc ht kt kf
  · cases hex
theorem ck_q_icmp {k : ck_K} (hk : ck_KS k) {m : ck_M} {pc : Nat} {ls : ck_L} {st : List Value} {h h' : ck_H} {r : Option Value} {c : ClassFile.Cond} {off : Int} (hc : (ck_cd m).lookup pc = some (.if_icmp c off)) (hex : ck_i k m pc ls st h (.if_icmp c off) = some (r, h')) : ck_S m pc ls st h r h' := by
  simp only [ck_i] at hex
  split at hex
  · cases c
    · obtain ⟨t, ht, kt, kf⟩ := ck_q_b1 hk hex
      exact ck_r_icmp_eq hc ht kt kf
    · obtain ⟨t, ht, kt, kf⟩ := ck_q_b1 hk hex
      exact ck_r_icmp_ne hc ht kt kf
    · obtain ⟨t, ht, kt, kf⟩ := ck_q_b1 hk hex
      exact ck_r_icmp_lt hc ht kt kf
    · obtain ⟨t, ht, kt, kf⟩ := ck_q_b1 hk hex
      exact ck_r_icmp_ge hc ht kt kf
    · obtain ⟨t, ht, kt, kf⟩ := ck_q_b1 hk hex
      exact ck_r_icmp_gt hc ht kt kf
    · obtain ⟨t, ht, kt, kf⟩ := ck_q_b1 hk hex
      exact ck_r_icmp_le hc ht kt kf
  · cases hex
theorem ck_q_ifnull {k : ck_K} (hk : ck_KS k) {m : ck_M} {pc : Nat} {ls : ck_L} {st : List Value} {h h' : ck_H} {r : Option Value} {off : Int} (hc : (ck_cd m).lookup pc = some (.ifnull off)) (hex : ck_i k m pc ls st h (.ifnull off) = some (r, h')) : ck_S m pc ls st h r h' := by
  simp only [ck_i] at hex
  split at hex
  · obtain ⟨t, ht, k1⟩ := ck_q_jmp hk hex
    exact ck_r_ifnullN hc ht k1
  · exact ck_r_ifnull hc (hk _ _ _ _ _ _ _ hex)
  · cases hex
theorem ck_q_ifnonnull {k : ck_K} (hk : ck_KS k) {m : ck_M} {pc : Nat} {ls : ck_L} {st : List Value} {h h' : ck_H} {r : Option Value} {off : Int} (hc : (ck_cd m).lookup pc = some (.ifnonnull off)) (hex : ck_i k m pc ls st h (.ifnonnull off) = some (r, h')) : ck_S m pc ls st h r h' := by
  simp only [ck_i] at hex
  split at hex
  · exact ck_r_ifnonnullN hc (hk _ _ _ _ _ _ _ hex)
  · obtain ⟨t, ht, k1⟩ := ck_q_jmp hk hex
    exact ck_r_ifnonnull hc ht k1
  · cases hex
theorem ck_q_tsw {k : ck_K} (hk : ck_KS k) {m : ck_M} {pc : Nat} {ls : ck_L} {st : List Value} {h h' : ck_H} {r : Option Value} {d lo hi : Int} {offs : Array Int} (hc : (ck_cd m).lookup pc = some (.tableswitch d lo hi offs)) (hex : ck_i k m pc ls st h (.tableswitch d lo hi offs) = some (r, h')) : ck_S m pc ls st h r h' := by
  simp only [ck_i] at hex
  split at hex
  · split at hex
    · rename_i hx
      obtain ⟨t, ht, k1⟩ := ck_q_jmp hk hex
      exact ck_r_tswO hc hx ht k1
    · rename_i hx
      split at hex
      · rename_i off ho
        obtain ⟨t, ht, k1⟩ := ck_q_jmp hk hex
        exact ck_r_tswI hc hx ho ht k1
      · cases hex
  · cases hex
theorem ck_q_lsw {k : ck_K} (hk : ck_KS k) {m : ck_M} {pc : Nat} {ls : ck_L} {st : List Value} {h h' : ck_H} {r : Option Value} {d : Int} {ps : Array (Int × Int)} (hc : (ck_cd m).lookup pc = some (.lookupswitch d ps)) (hex : ck_i k m pc ls st h (.lookupswitch d ps) = some (r, h')) : ck_S m pc ls st h r h' := by
  simp only [ck_i] at hex
  split at hex
  · split at hex
    · rename_i hp
      obtain ⟨t, ht, k1⟩ := ck_q_jmp hk hex
      exact ck_r_lsw hc hp ht k1
    · cases hex
  · cases hex
theorem ck_q_get {k : ck_K} (hk : ck_KS k) {m : ck_M} {pc : Nat} {ls : ck_L} {st : List Value} {h h' : ck_H} {r : Option Value} {ix : Nat} (hc : (ck_cd m).lookup pc = some (.getfield ix)) (hex : ck_i k m pc ls st h (.getfield ix) = some (r, h')) : ck_S m pc ls st h r h' := by
  simp only [ck_i] at hex
  split at hex
  · split at hex
    · rename_i kc i nest hf
      split at hex
      · rename_i hx
        exact ck_r_get hc hf hx.1 hx.2.1 hx.2.2 (hk _ _ _ _ _ _ _ hex)
      · cases hex
    · cases hex
  · cases hex
theorem ck_q_put {k : ck_K} (hk : ck_KS k) {m : ck_M} {pc : Nat} {ls : ck_L} {st : List Value} {h h' : ck_H} {r : Option Value} {ix : Nat} (hc : (ck_cd m).lookup pc = some (.putfield ix)) (hex : ck_i k m pc ls st h (.putfield ix) = some (r, h')) : ck_S m pc ls st h r h' := by
  simp only [ck_i] at hex
  split at hex
  · split at hex
    · rename_i kc i hf
      split at hex
      · rename_i hx
        split at hex
        · rename_i h1 hp
          exact ck_r_put hc hf hx.1 hx.2.1 hx.2.2.1 hx.2.2.2 hp (hk _ _ _ _ _ _ _ hex)
        · cases hex
      · cases hex
    · cases hex
  · cases hex
theorem ck_q_iald {k : ck_K} (hk : ck_KS k) {m : ck_M} {pc : Nat} {ls : ck_L} {st : List Value} {h h' : ck_H} {r : Option Value} (hc : (ck_cd m).lookup pc = some (.iaload)) (hex : ck_i k m pc ls st h (.iaload) = some (r, h')) : ck_S m pc ls st h r h' := by
  simp only [ck_i] at hex
  split at hex
  · split at hex
    · rename_i hx
      exact ck_r_iald hc hx.1 hx.2.1 hx.2.2 (hk _ _ _ _ _ _ _ hex)
    · cases hex
  · cases hex
theorem ck_q_bald {k : ck_K} (hk : ck_KS k) {m : ck_M} {pc : Nat} {ls : ck_L} {st : List Value} {h h' : ck_H} {r : Option Value} (hc : (ck_cd m).lookup pc = some (.baload)) (hex : ck_i k m pc ls st h (.baload) = some (r, h')) : ck_S m pc ls st h r h' := by
  simp only [ck_i] at hex
  split at hex
  · split at hex
    · rename_i hx
      exact ck_r_bald hc hx.1 hx.2.1 hx.2.2 (hk _ _ _ _ _ _ _ hex)
    · cases hex
  · cases hex
theorem ck_q_aald {k : ck_K} (hk : ck_KS k) {m : ck_M} {pc : Nat} {ls : ck_L} {st : List Value} {h h' : ck_H} {r : Option Value} (hc : (ck_cd m).lookup pc = some (.aaload)) (hex : ck_i k m pc ls st h (.aaload) = some (r, h')) : ck_S m pc ls st h r h' := by
  simp only [ck_i] at hex
  split at hex
  · split at hex
    · rename_i hx
      exact ck_r_aald hc hx.1 hx.2.1 hx.2.2 (hk _ _ _ _ _ _ _ hex)
    · cases hex
  · cases hex
theorem ck_q_iast {k : ck_K} (hk : ck_KS k) {m : ck_M} {pc : Nat} {ls : ck_L} {st : List Value} {h h' : ck_H} {r : Option Value} (hc : (ck_cd m).lookup pc = some (.iastore)) (hex : ck_i k m pc ls st h (.iastore) = some (r, h')) : ck_S m pc ls st h r h' := by
  simp only [ck_i] at hex
  split at hex
  · split at hex
    · rename_i hx
      exact ck_r_iast hc hx.1 hx.2.1 hx.2.2 (hk _ _ _ _ _ _ _ hex)
    · cases hex
  · cases hex
theorem ck_q_bast {k : ck_K} (hk : ck_KS k) {m : ck_M} {pc : Nat} {ls : ck_L} {st : List Value} {h h' : ck_H} {r : Option Value} (hc : (ck_cd m).lookup pc = some (.bastore)) (hex : ck_i k m pc ls st h (.bastore) = some (r, h')) : ck_S m pc ls st h r h' := by
  simp only [ck_i] at hex
  split at hex
  · split at hex
    · rename_i hx
      exact ck_r_bast hc hx.1 hx.2.1 hx.2.2 (hk _ _ _ _ _ _ _ hex)
    · split at hex
      · rename_i hx
        exact ck_r_zast hc hx.1 hx.2.1 hx.2.2.1 hx.2.2.2 (hk _ _ _ _ _ _ _ hex)
      · cases hex
  · cases hex
theorem ck_q_aast {k : ck_K} (hk : ck_KS k) {m : ck_M} {pc : Nat} {ls : ck_L} {st : List Value} {h h' : ck_H} {r : Option Value} (hc : (ck_cd m).lookup pc = some (.aastore)) (hex : ck_i k m pc ls st h (.aastore) = some (r, h')) : ck_S m pc ls st h r h' := by
  simp only [ck_i] at hex
  split at hex
  · split at hex
    · rename_i hx
      exact ck_r_aast hc hx.1 hx.2.1 hx.2.2.1 hx.2.2.2 (hk _ _ _ _ _ _ _ hex)
    · cases hex
  · cases hex
theorem ck_q_alen {k : ck_K} (hk : ck_KS k) {m : ck_M} {pc : Nat} {ls : ck_L} {st : List Value} {h h' : ck_H} {r : Option Value} (hc : (ck_cd m).lookup pc = some (.arraylength)) (hex : ck_i k m pc ls st h (.arraylength) = some (r, h')) : ck_S m pc ls st h r h' := by
  simp only [ck_i] at hex
  split at hex
  · split at hex
    · rename_i hx
      exact ck_r_alen hc hx (hk _ _ _ _ _ _ _ hex)
    · cases hex
  · cases hex
theorem ck_q_new {k : ck_K} (hk : ck_KS k) {m : ck_M} {pc : Nat} {ls : ck_L} {st : List Value} {h h' : ck_H} {r : Option Value} {ix : Nat} (hc : (ck_cd m).lookup pc = some (.new ix)) (hex : ck_i k m pc ls st h (.new ix) = some (r, h')) : ck_S m pc ls st h r h' := by
  simp only [ck_i] at hex
  split at hex
  · rename_i kc hkc
    split at hex
    · rename_i hx
      exact ck_r_new hc hkc hx (hk _ _ _ _ _ _ _ hex)
    · cases hex
  · cases hex
theorem ck_q_newa {k : ck_K} (hk : ck_KS k) {m : ck_M} {pc : Nat} {ls : ck_L} {st : List Value} {h h' : ck_H} {r : Option Value} {t : ArrayType} (hc : (ck_cd m).lookup pc = some (.newarray t)) (hex : ck_i k m pc ls st h (.newarray t) = some (r, h')) : ck_S m pc ls st h r h' := by
  simp only [ck_i] at hex
  split at hex
  · rename_i hkc
    split at hex
    · rename_i hx
      exact ck_r_newa hc hkc hx.1 hx.2 (hk _ _ _ _ _ _ _ hex)
    · cases hex
  · cases hex
theorem ck_q_anew {k : ck_K} (hk : ck_KS k) {m : ck_M} {pc : Nat} {ls : ck_L} {st : List Value} {h h' : ck_H} {r : Option Value} {ix : Nat} (hc : (ck_cd m).lookup pc = some (.anewarray ix)) (hex : ck_i k m pc ls st h (.anewarray ix) = some (r, h')) : ck_S m pc ls st h r h' := by
  simp only [ck_i] at hex
  split at hex
  · rename_i hkc
    split at hex
    · rename_i hx
      obtain ⟨c0, g1, g2⟩ := Option.bind_eq_some_iff.mp hkc
      exact ck_r_anew hc g1 g2 hx.1 hx.2 (hk _ _ _ _ _ _ _ hex)
    · cases hex
  · cases hex
theorem ck_q_call {k : ck_K} (hk : ck_KS k) {m y : ck_M} {pc : Nat} {ls : ck_L} {As rest : List Value} {h h' : ck_H} {r : Option Value} (hex : ck_call k m pc ls h y As rest = some (r, h')) : ck_sum rest ≤ 8 ∧ ck_fr y + 1 ≤ ck_fr m ∧ 8 + (ck_ml y + 11) + ck_lo y ≤ ck_lo m ∧ (ck_ent As).length ≤ ck_ml y ∧ ∃ r1 h1, ck_S y 0 (ck_in As (ck_ml y)) [] h r1 h1 ∧ ck_S m (pc + 3) ls (r1.toList ++ rest) h1 r h' := by
  unfold ck_call at hex
  split at hex
  · rename_i hx
    split at hex
    · rename_i r1 h1 hy
      exact ⟨hx.1, hx.2.1, hx.2.2.1, hx.2.2.2, r1, h1, hk _ _ _ _ _ _ _ hy, hk _ _ _ _ _ _ _ hex⟩
    · cases hex
  · cases hex
theorem ck_take {st : List Value} {n : Nat} {b : Nat} {rest : List Value} (h1 : st.drop n = .ref b :: rest) : st = (st.take n).reverse.reverse ++ .ref b :: rest := by
  rw [List.reverse_reverse, ← h1, List.take_append_drop]
theorem ck_tlen {st : List Value} {n : Nat} (h : n ≤ st.length) : (st.take n).reverse.length = n := by
  rw [List.length_reverse, List.length_take]; omega
theorem ck_q_inv0 {k : ck_K} (hk : ck_KS k) {m y : ck_M} {pc ix md na : Nat} {ls : ck_L} {st : List Value} {h h' : ck_H} {r : Option Value} (hc : (ck_cd m).lookup pc = some (.invokevirtual ix)) (hm : ck_mr (ck_ow m) ix = some (md, na, y)) (hex : ck_inv k m pc ls st h (md, na, y) 0 = some (r, h')) : ck_S m pc ls st h r h' := by
  by_cases hmd : md = 0
  · subst hmd
    simp only [ck_inv] at hex
    split at hex
    · rename_i hle
      split at hex
      · rename_i b rest hd
        split at hex
        · rename_i hb
          obtain ⟨c1, c2, c3, c4, r1, h1, k1, k2⟩ := ck_q_call hk hex
          rw [ck_take hd]
          exact ck_r_callV hc hm hb.1 hb.2 (ck_tlen hle) c1 c2 c3 c4 k1 k2
        · cases hex
      · cases hex
    · cases hex
  · exfalso
    cases md with
    | zero => exact hmd rfl
    | succ n => simp [ck_inv] at hex
theorem ck_q_inv1 {k : ck_K} (hk : ck_KS k) {m y : ck_M} {pc ix md na : Nat} {ls : ck_L} {st : List Value} {h h' : ck_H} {r : Option Value} (hc : (ck_cd m).lookup pc = some (.invokestatic ix)) (hm : ck_mr (ck_ow m) ix = some (md, na, y)) (hex : ck_inv k m pc ls st h (md, na, y) 1 = some (r, h')) : ck_S m pc ls st h r h' := by
  by_cases h1 : md = 1
  · subst h1
    simp only [ck_inv] at hex
    split at hex
    · rename_i hle
      obtain ⟨c1, c2, c3, c4, r1, h1, k1, k2⟩ := ck_q_call hk hex
      have e : st = (st.take na).reverse.reverse ++ st.drop na := by rw [List.reverse_reverse, List.take_append_drop]
      rw [e]
      exact ck_r_callS hc hm (ck_tlen hle) c1 c2 c3 c4 k1 k2
    · cases hex
  · by_cases h8 : md = 8
    · subst h8
      simp only [ck_inv] at hex
      split at hex
      · split at hex
        · rename_i hx
          exact ck_r_copy hc hm hx.1 hx.2.1 hx.2.2.1 hx.2.2.2.1 hx.2.2.2.2.1 hx.2.2.2.2.2.1 hx.2.2.2.2.2.2.1 hx.2.2.2.2.2.2.2.1 hx.2.2.2.2.2.2.2.2 (hk _ _ _ _ _ _ _ hex)
        · cases hex
      · cases hex
    · exfalso
      unfold ck_inv at hex
      split at hex <;> simp_all
theorem ck_q_inv2 {k : ck_K} (hk : ck_KS k) {m y : ck_M} {pc ix md na : Nat} {ls : ck_L} {st : List Value} {h h' : ck_H} {r : Option Value} (hc : (ck_cd m).lookup pc = some (.invokespecial ix)) (hm : ck_mr (ck_ow m) ix = some (md, na, y)) (hex : ck_inv k m pc ls st h (md, na, y) 2 = some (r, h')) : ck_S m pc ls st h r h' := by
  by_cases h2 : md = 2
  · subst h2
    simp only [ck_inv] at hex
    split at hex
    · rename_i hle
      split at hex
      · rename_i b rest hd
        obtain ⟨c1, c2, c3, c4, r1, h1, k1, k2⟩ := ck_q_call hk hex
        rw [ck_take hd]
        exact ck_r_callI hc hm (ck_tlen hle) c1 c2 c3 c4 k1 k2
      · cases hex
    · cases hex
  · by_cases h3 : md = 3
    · subst h3
      simp only [ck_inv] at hex
      split at hex
      · rename_i hle
        split at hex
        · rename_i b rest hd
          obtain ⟨c1, c2, c3, c4, r1, h1, k1, k2⟩ := ck_q_call hk hex
          rw [ck_take hd]
          exact ck_r_callN hc hm (ck_tlen hle) c1 c2 c3 c4 k1 k2
        · cases hex
      · cases hex
    · by_cases h9 : md = 9
      · subst h9
        simp only [ck_inv] at hex
        split at hex
        · split at hex
          · rename_i hx
            exact ck_r_obj hc hm hx.1 hx.2 (hk _ _ _ _ _ _ _ hex)
          · cases hex
        · cases hex
      · exfalso
        unfold ck_inv at hex
        split at hex <;> simp_all
theorem ck_q_invV {k : ck_K} (hk : ck_KS k) {m : ck_M} {pc : Nat} {ls : ck_L} {st : List Value} {h h' : ck_H} {r : Option Value} {ix : Nat} (hc : (ck_cd m).lookup pc = some (.invokevirtual ix)) (hex : ck_i k m pc ls st h (.invokevirtual ix) = some (r, h')) : ck_S m pc ls st h r h' := by
  simp only [ck_i] at hex
  split at hex
  · rename_i e hm
    obtain ⟨md, na, y⟩ := e
    exact ck_q_inv0 hk hc hm hex
  · cases hex
theorem ck_q_invS {k : ck_K} (hk : ck_KS k) {m : ck_M} {pc : Nat} {ls : ck_L} {st : List Value} {h h' : ck_H} {r : Option Value} {ix : Nat} (hc : (ck_cd m).lookup pc = some (.invokestatic ix)) (hex : ck_i k m pc ls st h (.invokestatic ix) = some (r, h')) : ck_S m pc ls st h r h' := by
  simp only [ck_i] at hex
  split at hex
  · rename_i e hm
    obtain ⟨md, na, y⟩ := e
    exact ck_q_inv1 hk hc hm hex
  · cases hex
theorem ck_q_invI {k : ck_K} (hk : ck_KS k) {m : ck_M} {pc : Nat} {ls : ck_L} {st : List Value} {h h' : ck_H} {r : Option Value} {ix : Nat} (hc : (ck_cd m).lookup pc = some (.invokespecial ix)) (hex : ck_i k m pc ls st h (.invokespecial ix) = some (r, h')) : ck_S m pc ls st h r h' := by
  simp only [ck_i] at hex
  split at hex
  · rename_i e hm
    obtain ⟨md, na, y⟩ := e
    exact ck_q_inv2 hk hc hm hex
  · cases hex
theorem ck_q_ireturn {k : ck_K} (hk : ck_KS k) {m : ck_M} {pc : Nat} {ls : ck_L} {st : List Value} {h h' : ck_H} {r : Option Value} (hc : (ck_cd m).lookup pc = some (.ireturn)) (hex : ck_i k m pc ls st h (.ireturn) = some (r, h')) : ck_S m pc ls st h r h' := by
  simp only [ck_i] at hex
  obtain ⟨r1, h1, h2⟩ := Option.map_eq_some_iff.mp hex
  cases h2
  exact ck_r_ret hc h1
theorem ck_q_lreturn {k : ck_K} (hk : ck_KS k) {m : ck_M} {pc : Nat} {ls : ck_L} {st : List Value} {h h' : ck_H} {r : Option Value} (hc : (ck_cd m).lookup pc = some (.lreturn)) (hex : ck_i k m pc ls st h (.lreturn) = some (r, h')) : ck_S m pc ls st h r h' := by
  simp only [ck_i] at hex
  obtain ⟨r1, h1, h2⟩ := Option.map_eq_some_iff.mp hex
  cases h2
  exact ck_r_ret hc h1
theorem ck_q_areturn {k : ck_K} (hk : ck_KS k) {m : ck_M} {pc : Nat} {ls : ck_L} {st : List Value} {h h' : ck_H} {r : Option Value} (hc : (ck_cd m).lookup pc = some (.areturn)) (hex : ck_i k m pc ls st h (.areturn) = some (r, h')) : ck_S m pc ls st h r h' := by
  simp only [ck_i] at hex
  obtain ⟨r1, h1, h2⟩ := Option.map_eq_some_iff.mp hex
  cases h2
  exact ck_r_ret hc h1
theorem ck_q_vreturn {k : ck_K} (hk : ck_KS k) {m : ck_M} {pc : Nat} {ls : ck_L} {st : List Value} {h h' : ck_H} {r : Option Value} (hc : (ck_cd m).lookup pc = some (.return_)) (hex : ck_i k m pc ls st h (.return_) = some (r, h')) : ck_S m pc ls st h r h' := by
  simp only [ck_i] at hex
  obtain ⟨r1, h1, h2⟩ := Option.map_eq_some_iff.mp hex
  cases h2
  exact ck_r_ret hc h1
theorem ck_step {k : ck_K} (hk : ck_KS k) {m : ck_M} {pc : Nat} {i : Instr} {ls : ck_L} {st : List Value} {h h' : ck_H} {r : Option Value} (hc : (ck_cd m).lookup pc = some i) (hex : ck_i k m pc ls st h i = some (r, h')) : ck_S m pc ls st h r h' := by
  cases i with
  | iconst n => exact ck_q_iconst hk hc hex
  | bipush n => exact ck_q_bipush hk hc hex
  | sipush n => exact ck_q_sipush hk hc hex
  | lconst n => exact ck_q_lconst hk hc hex
  | aconst_null => exact ck_q_null hk hc hex
  | ldc ix => exact ck_q_ldc hk hc hex
  | ldc2_w ix => exact ck_q_ldc2 hk hc hex
  | iload i => exact ck_q_iload hk hc hex
  | iload_n i => exact ck_q_iload_n hk hc hex
  | lload i => exact ck_q_lload hk hc hex
  | lload_n i => exact ck_q_lload_n hk hc hex
  | aload i => exact ck_q_aload hk hc hex
  | aload_n i => exact ck_q_aload_n hk hc hex
  | istore i => exact ck_q_istore hk hc hex
  | istore_n i => exact ck_q_istore_n hk hc hex
  | lstore i => exact ck_q_lstore hk hc hex
  | astore i => exact ck_q_astore hk hc hex
  | astore_n i => exact ck_q_astore_n hk hc hex
  | iinc i n => exact ck_q_iinc hk hc hex
  | iadd => exact ck_q_iadd hk hc hex
  | isub => exact ck_q_isub hk hc hex
  | imul => exact ck_q_imul hk hc hex
  | iand => exact ck_q_iand hk hc hex
  | ior => exact ck_q_ior hk hc hex
  | ishl => exact ck_q_ishl hk hc hex
  | ishr => exact ck_q_ishr hk hc hex
  | ineg => exact ck_q_ineg hk hc hex
  | i2l => exact ck_q_i2l hk hc hex
  | l2i => exact ck_q_l2i hk hc hex
  | i2b => exact ck_q_i2b hk hc hex
  | ladd => exact ck_q_ladd hk hc hex
  | lsub => exact ck_q_lsub hk hc hex
  | lmul => exact ck_q_lmul hk hc hex
  | lxor => exact ck_q_lxor hk hc hex
  | lcmp => exact ck_q_lcmp hk hc hex
  | idiv => exact ck_q_idiv hk hc hex
  | irem => exact ck_q_irem hk hc hex
  | lrem => exact ck_q_lrem hk hc hex
  | dup => exact ck_q_dup hk hc hex
  | dup2 => exact ck_q_dup2 hk hc hex
  | goto off => exact ck_q_goto hk hc hex
  | ifCond c off => exact ck_q_if hk hc hex
  | if_icmp c off => exact ck_q_icmp hk hc hex
  | ifnull off => exact ck_q_ifnull hk hc hex
  | ifnonnull off => exact ck_q_ifnonnull hk hc hex
  | tableswitch d lo hi offs => exact ck_q_tsw hk hc hex
  | lookupswitch d ps => exact ck_q_lsw hk hc hex
  | getfield ix => exact ck_q_get hk hc hex
  | putfield ix => exact ck_q_put hk hc hex
  | iaload => exact ck_q_iald hk hc hex
  | baload => exact ck_q_bald hk hc hex
  | aaload => exact ck_q_aald hk hc hex
  | iastore => exact ck_q_iast hk hc hex
  | bastore => exact ck_q_bast hk hc hex
  | aastore => exact ck_q_aast hk hc hex
  | arraylength => exact ck_q_alen hk hc hex
  | new ix => exact ck_q_new hk hc hex
  | newarray t => exact ck_q_newa hk hc hex
  | anewarray ix => exact ck_q_anew hk hc hex
  | invokevirtual ix => exact ck_q_invV hk hc hex
  | invokestatic ix => exact ck_q_invS hk hc hex
  | invokespecial ix => exact ck_q_invI hk hc hex
  | ireturn => exact ck_q_ireturn hk hc hex
  | lreturn => exact ck_q_lreturn hk hc hex
  | areturn => exact ck_q_areturn hk hc hex
  | return_ => exact ck_q_vreturn hk hc hex
  | _ => simp [ck_i] at hex
/-- what ck_x answers, the machine answers -/
theorem ck_sim : ∀ f : Nat, ck_KS (ck_x f)
  | 0 => fun m pc ls st h r h' hex => by simp [ck_x] at hex
  | f + 1 => fun m pc ls st h r h' hex => by
    simp only [ck_x] at hex
    split at hex
    · rename_i i hi
      exact ck_step (ck_sim f) hi hex
    · cases hex
