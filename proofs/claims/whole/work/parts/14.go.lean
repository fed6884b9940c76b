/-! ===== the small machine, by rows: 'it answers res from some fuel on' ===== -/
def Go (m : ck_M) (pc : Nat) (ls : ck_L) (st : List Value) (h : ck_H) (res : Option Value × ck_H) : Prop := ∃ n, ∀ f, n ≤ f → ck_x f m pc ls st h = some res
def ck_then {α β : Type} (v : α) (k : α → Option β) : Option β := k v
def ck_as {β : Type} (c : Prop) [Decidable c] (k : Option β) : Option β := if c then k else none
def ck_some {β : Type} (o : Option Nat) (k : Nat → Option β) : Option β := match o with
  | some x => k x
  | none => none
def ck_opt {β : Type} (o : Option Nat) (a : Option β) (k : Nat → Option β) : Option β := match o with
  | some x => k x
  | none => a
def ck_bd {α β : Type} (x : Option (α × ck_H)) (k : α → ck_H → Option β) : Option β := match x with
  | some (r, h) => k r h
  | none => none
theorem ck_then_e {α β : Type} {v : α} {k : α → Option β} {r : Option β} (e : ck_then v k = r) : k v = r := e
theorem ck_as_e {β : Type} {c : Prop} [Decidable c] {k : Option β} {r : β} (e : ck_as c k = some r) : c ∧ k = some r := by
  unfold ck_as at e
  split at e
  · exact ⟨by assumption, e⟩
  · cases e
theorem ck_some_e {β : Type} {o : Option Nat} {k : Nat → Option β} {r : β} (e : ck_some o k = some r) : ∃ x, o = some x ∧ k x = some r := by
  unfold ck_some at e
  split at e
  · exact ⟨_, rfl, e⟩
  · cases e
theorem ck_opt_e {β : Type} {o : Option Nat} {a : Option β} {k : Nat → Option β} {r : β} (e : ck_opt o a k = some r) : (o = none ∧ a = some r) ∨ ∃ x, o = some x ∧ k x = some r := by
  unfold ck_opt at e
  split at e
  · exact Or.inr ⟨_, rfl, e⟩
  · exact Or.inl ⟨rfl, e⟩
theorem ck_bd_e {α β : Type} {x : Option (α × ck_H)} {k : α → ck_H → Option β} {r : β} (e : ck_bd x k = some r) : ∃ a h, x = some (a, h) ∧ k a h = some r := by
  unfold ck_bd at e
  split at e
  · exact ⟨_, _, rfl, e⟩
  · cases e
section GO
variable {m : ck_M} {pc : Nat} {ls ls' : ck_L} {r0 : List Value} {h h1 : ck_H} {res : Option Value × ck_H}
theorem Go.step {pc' : Nat} {st st' : List Value} {i : Instr} (hc : (ck_cd m).lookup pc = some i) (hs : ∀ k : ck_K, ck_i k m pc ls st h i = k m pc' ls' st' h1) (g : Go m pc' ls' st' h1 res) : Go m pc ls st h res := by
  obtain ⟨n, hn⟩ := g
  refine ⟨n + 1, fun f hf => ?_⟩
  obtain ⟨f, rfl⟩ : ∃ f', f = f' + 1 := ⟨f - 1, by omega⟩
  simp only [ck_x, hc]
  rw [hs]
  exact hn f (by omega)
theorem go_iconst {n : Int} {v : Int32} (hc : (ck_cd m).lookup pc = some (.iconst n)) (hv : Int32.ofInt n = v) (g : Go m (pc + 1) ls (.int v :: r0) h res) : Go m pc ls r0 h res := Go.step hc (fun k => by rw [← hv]; rfl) g
theorem go_bipush {n : Int} {v : Int32} (hc : (ck_cd m).lookup pc = some (.bipush n)) (hv : (Int8.ofInt n).toInt32 = v) (g : Go m (pc + 2) ls (.int v :: r0) h res) : Go m pc ls r0 h res := Go.step hc (fun k => by rw [← hv]; rfl) g
theorem go_sipush {n : Int} {v : Int32} (hc : (ck_cd m).lookup pc = some (.sipush n)) (hv : (Int16.ofInt n).toInt32 = v) (g : Go m (pc + 3) ls (.int v :: r0) h res) : Go m pc ls r0 h res := Go.step hc (fun k => by rw [← hv]; rfl) g
theorem go_lconst {n : Fin 2} {v : Int64} (hc : (ck_cd m).lookup pc = some (.lconst n)) (hv : Int64.ofNat (n : Nat) = v) (g : Go m (pc + 1) ls (.long v :: r0) h res) : Go m pc ls r0 h res := Go.step hc (fun k => by rw [← hv]; rfl) g
theorem go_null (hc : (ck_cd m).lookup pc = some .aconst_null) (g : Go m (pc + 1) ls (.null :: r0) h res) : Go m pc ls r0 h res := Go.step hc (fun k => rfl) g
theorem go_ldc {ix : Nat} {v : Int32} (hc : (ck_cd m).lookup pc = some (.ldc ix)) (hv : ck_lc (ck_ow m) ix = some v) (g : Go m (pc + 2) ls (.int v :: r0) h res) : Go m pc ls r0 h res := Go.step hc (fun k => by simp only [ck_i, hv]) g
theorem go_ldc2 {ix : Nat} {v : Int64} (hc : (ck_cd m).lookup pc = some (.ldc2_w ix)) (hv : ck_l2 (ck_ow m) ix = some v) (g : Go m (pc + 3) ls (.long v :: r0) h res) : Go m pc ls r0 h res := Go.step hc (fun k => by simp only [ck_i, hv]) g
theorem go_iload {i : Nat} {x : Int32} (hc : (ck_cd m).lookup pc = some (.iload i)) (hx : ls[i]? = some (some (.int x))) (g : Go m (pc + 2) ls (.int x :: r0) h res) : Go m pc ls r0 h res := Go.step hc (fun k => by simp only [ck_i, ck_ldi, hx]) g
theorem go_iload_n {i : Fin 4} {x : Int32} (hc : (ck_cd m).lookup pc = some (.iload_n i)) (hx : ls[(i : Nat)]? = some (some (.int x))) (g : Go m (pc + 1) ls (.int x :: r0) h res) : Go m pc ls r0 h res := Go.step hc (fun k => by simp only [ck_i, ck_ldi, hx]) g
theorem go_lload {i : Nat} {x : Int64} (hc : (ck_cd m).lookup pc = some (.lload i)) (hx : ls[i]? = some (some (.long x))) (g : Go m (pc + 2) ls (.long x :: r0) h res) : Go m pc ls r0 h res := Go.step hc (fun k => by simp only [ck_i, ck_ldl, hx]) g
theorem go_lload_n {i : Fin 4} {x : Int64} (hc : (ck_cd m).lookup pc = some (.lload_n i)) (hx : ls[(i : Nat)]? = some (some (.long x))) (g : Go m (pc + 1) ls (.long x :: r0) h res) : Go m pc ls r0 h res := Go.step hc (fun k => by simp only [ck_i, ck_ldl, hx]) g
theorem go_aload {i x : Nat} (hc : (ck_cd m).lookup pc = some (.aload i)) (hx : ls[i]? = some (some (.ref x))) (g : Go m (pc + 2) ls (.ref x :: r0) h res) : Go m pc ls r0 h res := Go.step hc (fun k => by simp only [ck_i, ck_lda, hx]) g
theorem go_aload_n {i : Fin 4} {x : Nat} (hc : (ck_cd m).lookup pc = some (.aload_n i)) (hx : ls[(i : Nat)]? = some (some (.ref x))) (g : Go m (pc + 1) ls (.ref x :: r0) h res) : Go m pc ls r0 h res := Go.step hc (fun k => by simp only [ck_i, ck_lda, hx]) g
theorem go_aloadN {i : Nat} (hc : (ck_cd m).lookup pc = some (.aload i)) (hx : ls[i]? = some (some .null)) (g : Go m (pc + 2) ls (.null :: r0) h res) : Go m pc ls r0 h res := Go.step hc (fun k => by simp only [ck_i, ck_lda, hx]) g
theorem go_aload_nN {i : Fin 4} (hc : (ck_cd m).lookup pc = some (.aload_n i)) (hx : ls[(i : Nat)]? = some (some .null)) (g : Go m (pc + 1) ls (.null :: r0) h res) : Go m pc ls r0 h res := Go.step hc (fun k => by simp only [ck_i, ck_lda, hx]) g
theorem go_istore {i : Nat} {x : Int32} (hc : (ck_cd m).lookup pc = some (.istore i)) (hx : ck_s1 ls i (.int x) = some ls') (g : Go m (pc + 2) ls' r0 h res) : Go m pc ls (.int x :: r0) h res := Go.step hc (fun k => by simp only [ck_i, ck_soi, hx, ck_sv]) g
theorem go_istore_n {i : Fin 4} {x : Int32} (hc : (ck_cd m).lookup pc = some (.istore_n i)) (hx : ck_s1 ls (i : Nat) (.int x) = some ls') (g : Go m (pc + 1) ls' r0 h res) : Go m pc ls (.int x :: r0) h res := Go.step hc (fun k => by simp only [ck_i, ck_soi, hx, ck_sv]) g
theorem go_lstore {i : Nat} {x : Int64} (hc : (ck_cd m).lookup pc = some (.lstore i)) (hx : ck_s2 ls i (.long x) = some ls') (g : Go m (pc + 2) ls' r0 h res) : Go m pc ls (.long x :: r0) h res := Go.step hc (fun k => by simp only [ck_i, ck_sol, hx, ck_sv]) g
theorem go_astore {i x : Nat} (hc : (ck_cd m).lookup pc = some (.astore i)) (hx : ck_s1 ls i (.ref x) = some ls') (g : Go m (pc + 2) ls' r0 h res) : Go m pc ls (.ref x :: r0) h res := Go.step hc (fun k => by simp only [ck_i, ck_soa, hx, ck_sv]) g
theorem go_astore_n {i : Fin 4} {x : Nat} (hc : (ck_cd m).lookup pc = some (.astore_n i)) (hx : ck_s1 ls (i : Nat) (.ref x) = some ls') (g : Go m (pc + 1) ls' r0 h res) : Go m pc ls (.ref x :: r0) h res := Go.step hc (fun k => by simp only [ck_i, ck_soa, hx, ck_sv]) g
theorem go_astoreN {i : Nat} (hc : (ck_cd m).lookup pc = some (.astore i)) (hx : ck_s1 ls i .null = some ls') (g : Go m (pc + 2) ls' r0 h res) : Go m pc ls (.null :: r0) h res := Go.step hc (fun k => by simp only [ck_i, ck_soa, hx, ck_sv]) g
theorem go_astore_nN {i : Fin 4} (hc : (ck_cd m).lookup pc = some (.astore_n i)) (hx : ck_s1 ls (i : Nat) .null = some ls') (g : Go m (pc + 1) ls' r0 h res) : Go m pc ls (.null :: r0) h res := Go.step hc (fun k => by simp only [ck_i, ck_soa, hx, ck_sv]) g
theorem go_iinc {i : Nat} {n : Int} {x v : Int32} (hc : (ck_cd m).lookup pc = some (.iinc i n)) (hx0 : ls[i]? = some (some (.int x))) (hv : Int32.ofInt n = v) (hx : ck_s1 ls i (.int (x + v)) = some ls') (g : Go m (pc + 3) ls' r0 h res) : Go m pc ls r0 h res := Go.step hc (fun k => by subst hv; simp only [ck_i, hx0, hx, ck_sv]) g
theorem go_iadd {x y : Int32} (hc : (ck_cd m).lookup pc = some .iadd) (g : Go m (pc + 1) ls (.int (x + y) :: r0) h res) : Go m pc ls (.int y :: .int x :: r0) h res := Go.step hc (fun k => rfl) g
theorem go_isub {x y : Int32} (hc : (ck_cd m).lookup pc = some .isub) (g : Go m (pc + 1) ls (.int (x - y) :: r0) h res) : Go m pc ls (.int y :: .int x :: r0) h res := Go.step hc (fun k => rfl) g
theorem go_imul {x y : Int32} (hc : (ck_cd m).lookup pc = some .imul) (g : Go m (pc + 1) ls (.int (x * y) :: r0) h res) : Go m pc ls (.int y :: .int x :: r0) h res := Go.step hc (fun k => rfl) g
theorem go_iand {x y : Int32} (hc : (ck_cd m).lookup pc = some .iand) (g : Go m (pc + 1) ls (.int (x &&& y) :: r0) h res) : Go m pc ls (.int y :: .int x :: r0) h res := Go.step hc (fun k => rfl) g
theorem go_ior {x y : Int32} (hc : (ck_cd m).lookup pc = some .ior) (g : Go m (pc + 1) ls (.int (x ||| y) :: r0) h res) : Go m pc ls (.int y :: .int x :: r0) h res := Go.step hc (fun k => rfl) g
theorem go_ishl {x y : Int32} (hc : (ck_cd m).lookup pc = some .ishl) (g : Go m (pc + 1) ls (.int (x <<< (y &&& 31)) :: r0) h res) : Go m pc ls (.int y :: .int x :: r0) h res := Go.step hc (fun k => rfl) g
theorem go_ishr {x y : Int32} (hc : (ck_cd m).lookup pc = some .ishr) (g : Go m (pc + 1) ls (.int (x >>> (y &&& 31)) :: r0) h res) : Go m pc ls (.int y :: .int x :: r0) h res := Go.step hc (fun k => rfl) g
theorem go_idiv {x y : Int32} (hc : (ck_cd m).lookup pc = some .idiv) (hy : ¬ y = 0) (g : Go m (pc + 1) ls (.int (x / y) :: r0) h res) : Go m pc ls (.int y :: .int x :: r0) h res := Go.step hc (fun k => by simp only [ck_i, if_pos hy]) g
theorem go_irem {x y : Int32} (hc : (ck_cd m).lookup pc = some .irem) (hy : ¬ y = 0) (g : Go m (pc + 1) ls (.int (x - x / y * y) :: r0) h res) : Go m pc ls (.int y :: .int x :: r0) h res := Go.step hc (fun k => by simp only [ck_i, if_pos hy]) g
theorem go_ineg {x : Int32} (hc : (ck_cd m).lookup pc = some .ineg) (g : Go m (pc + 1) ls (.int (-x) :: r0) h res) : Go m pc ls (.int x :: r0) h res := Go.step hc (fun k => rfl) g
theorem go_i2l {x : Int32} (hc : (ck_cd m).lookup pc = some .i2l) (g : Go m (pc + 1) ls (.long x.toInt64 :: r0) h res) : Go m pc ls (.int x :: r0) h res := Go.step hc (fun k => rfl) g
theorem go_l2i {x : Int64} (hc : (ck_cd m).lookup pc = some .l2i) (g : Go m (pc + 1) ls (.int x.toInt32 :: r0) h res) : Go m pc ls (.long x :: r0) h res := Go.step hc (fun k => rfl) g
theorem go_i2b {x : Int32} (hc : (ck_cd m).lookup pc = some .i2b) (g : Go m (pc + 1) ls (.int x.toInt8.toInt32 :: r0) h res) : Go m pc ls (.int x :: r0) h res := Go.step hc (fun k => rfl) g
theorem go_ladd {x y : Int64} (hc : (ck_cd m).lookup pc = some .ladd) (g : Go m (pc + 1) ls (.long (x + y) :: r0) h res) : Go m pc ls (.long y :: .long x :: r0) h res := Go.step hc (fun k => rfl) g
theorem go_lsub {x y : Int64} (hc : (ck_cd m).lookup pc = some .lsub) (g : Go m (pc + 1) ls (.long (x - y) :: r0) h res) : Go m pc ls (.long y :: .long x :: r0) h res := Go.step hc (fun k => rfl) g
theorem go_lmul {x y : Int64} (hc : (ck_cd m).lookup pc = some .lmul) (g : Go m (pc + 1) ls (.long (x * y) :: r0) h res) : Go m pc ls (.long y :: .long x :: r0) h res := Go.step hc (fun k => rfl) g
theorem go_lxor {x y : Int64} (hc : (ck_cd m).lookup pc = some .lxor) (g : Go m (pc + 1) ls (.long (x ^^^ y) :: r0) h res) : Go m pc ls (.long y :: .long x :: r0) h res := Go.step hc (fun k => rfl) g
theorem go_lrem {x y : Int64} (hc : (ck_cd m).lookup pc = some .lrem) (hy : ¬ y = 0) (g : Go m (pc + 1) ls (.long (x - x / y * y) :: r0) h res) : Go m pc ls (.long y :: .long x :: r0) h res := Go.step hc (fun k => by simp only [ck_i, if_pos hy]) g
theorem go_lcmp {x y : Int64} (hc : (ck_cd m).lookup pc = some .lcmp) (g : Go m (pc + 1) ls (.int (lg_cmp x y) :: r0) h res) : Go m pc ls (.long y :: .long x :: r0) h res := Go.step hc (fun k => rfl) g
theorem go_dup {v : Value} (hc : (ck_cd m).lookup pc = some .dup) (hv : v.category = 1) (g : Go m (pc + 1) ls (v :: v :: r0) h res) : Go m pc ls (v :: r0) h res := Go.step hc (fun k => by simp only [ck_i, if_pos hv]) g
theorem go_dup2 {v w : Value} (hc : (ck_cd m).lookup pc = some .dup2) (hv : v.category = 1) (hw : w.category = 1) (g : Go m (pc + 1) ls (v :: w :: v :: w :: r0) h res) : Go m pc ls (v :: w :: r0) h res := Go.step hc (fun k => by simp only [ck_i, if_pos (And.intro hv hw)]) g
theorem go_goto {t : Nat} {off : Int} (hc : (ck_cd m).lookup pc = some (.goto off)) (ht : ck_tg pc off = some t) (g : Go m t ls r0 h res) : Go m pc ls r0 h res := Go.step hc (fun k => by simp only [ck_i, ck_jmp, ht]) g
theorem go_b1 {t : Nat} {off : Int} {st : List Value} {i : Instr} {c : Prop} [Decidable c] (hc : (ck_cd m).lookup pc = some i) (hs : ∀ k : ck_K, ck_i k m pc ls st h i = ck_b1 k m pc off ls r0 h c) (ht : ck_tg pc off = some t) (kt : c → Go m t ls r0 h res) (kf : ¬ c → Go m (pc + 3) ls r0 h res) : Go m pc ls st h res := by
  by_cases hx : c
  · exact Go.step hc (fun k => by rw [hs, ck_b1, ht]; simp only [if_pos hx]) (kt hx)
  · exact Go.step hc (fun k => by rw [hs, ck_b1, ht]; simp only [if_neg hx]) (kf hx)
theorem go_if_eq {t : Nat} {off : Int} {x : Int32} (hc : (ck_cd m).lookup pc = some (.ifCond .eq off)) (ht : ck_tg pc off = some t) (kt : x = 0 → Go m t ls r0 h res) (kf : ¬ x = 0 → Go m (pc + 3) ls r0 h res) : Go m pc ls (.int x :: r0) h res := go_b1 (c := x = 0) hc (fun k => rfl) ht kt kf
theorem go_if_ne {t : Nat} {off : Int} {x : Int32} (hc : (ck_cd m).lookup pc = some (.ifCond .ne off)) (ht : ck_tg pc off = some t) (kf : x = 0 → Go m (pc + 3) ls r0 h res) (kt : ¬ x = 0 → Go m t ls r0 h res) : Go m pc ls (.int x :: r0) h res := go_b1 (c := ¬ x = 0) hc (fun k => rfl) ht kt (fun q => kf (Decidable.not_not.mp q))
theorem go_if_lt {t : Nat} {off : Int} {x : Int32} (hc : (ck_cd m).lookup pc = some (.ifCond .lt off)) (ht : ck_tg pc off = some t) (kt : x < 0 → Go m t ls r0 h res) (kf : ¬ x < 0 → Go m (pc + 3) ls r0 h res) : Go m pc ls (.int x :: r0) h res := go_b1 (c := x < 0) hc (fun k => rfl) ht kt kf
theorem go_if_ge {t : Nat} {off : Int} {x : Int32} (hc : (ck_cd m).lookup pc = some (.ifCond .ge off)) (ht : ck_tg pc off = some t) (kf : x < 0 → Go m (pc + 3) ls r0 h res) (kt : ¬ x < 0 → Go m t ls r0 h res) : Go m pc ls (.int x :: r0) h res := go_b1 (c := 0 ≤ x) hc (fun k => rfl) ht (fun q => kt (Int32.not_lt.mpr q)) (fun q => kf (Int32.not_le.mp q))
theorem go_if_gt {t : Nat} {off : Int} {x : Int32} (hc : (ck_cd m).lookup pc = some (.ifCond .gt off)) (ht : ck_tg pc off = some t) (kt : 0 < x → Go m t ls r0 h res) (kf : ¬ 0 < x → Go m (pc + 3) ls r0 h res) : Go m pc ls (.int x :: r0) h res := go_b1 (c := 0 < x) hc (fun k => rfl) ht kt kf
theorem go_if_le {t : Nat} {off : Int} {x : Int32} (hc : (ck_cd m).lookup pc = some (.ifCond .le off)) (ht : ck_tg pc off = some t) (kf : 0 < x → Go m (pc + 3) ls r0 h res) (kt : ¬ 0 < x → Go m t ls r0 h res) : Go m pc ls (.int x :: r0) h res := go_b1 (c := x ≤ 0) hc (fun k => rfl) ht (fun q => kt (Int32.not_lt.mpr q)) (fun q => kf (Int32.not_le.mp q))
theorem go_icmp_eq {t : Nat} {off : Int} {x y : Int32} (hc : (ck_cd m).lookup pc = some (.if_icmp .eq off)) (ht : ck_tg pc off = some t) (kt : x = y → Go m t ls r0 h res) (kf : ¬ x = y → Go m (pc + 3) ls r0 h res) : Go m pc ls (.int y :: .int x :: r0) h res := go_b1 (c := x = y) hc (fun k => rfl) ht kt kf
theorem go_icmp_ne {t : Nat} {off : Int} {x y : Int32} (hc : (ck_cd m).lookup pc = some (.if_icmp .ne off)) (ht : ck_tg pc off = some t) (kf : x = y → Go m (pc + 3) ls r0 h res) (kt : ¬ x = y → Go m t ls r0 h res) : Go m pc ls (.int y :: .int x :: r0) h res := go_b1 (c := ¬ x = y) hc (fun k => rfl) ht kt (fun q => kf (Decidable.not_not.mp q))
theorem go_icmp_lt {t : Nat} {off : Int} {x y : Int32} (hc : (ck_cd m).lookup pc = some (.if_icmp .lt off)) (ht : ck_tg pc off = some t) (kt : x < y → Go m t ls r0 h res) (kf : ¬ x < y → Go m (pc + 3) ls r0 h res) : Go m pc ls (.int y :: .int x :: r0) h res := go_b1 (c := x < y) hc (fun k => rfl) ht kt kf
theorem go_icmp_ge {t : Nat} {off : Int} {x y : Int32} (hc : (ck_cd m).lookup pc = some (.if_icmp .ge off)) (ht : ck_tg pc off = some t) (kf : x < y → Go m (pc + 3) ls r0 h res) (kt : ¬ x < y → Go m t ls r0 h res) : Go m pc ls (.int y :: .int x :: r0) h res := go_b1 (c := y ≤ x) hc (fun k => rfl) ht (fun q => kt (Int32.not_lt.mpr q)) (fun q => kf (Int32.not_le.mp q))
theorem go_icmp_gt {t : Nat} {off : Int} {x y : Int32} (hc : (ck_cd m).lookup pc = some (.if_icmp .gt off)) (ht : ck_tg pc off = some t) (kt : y < x → Go m t ls r0 h res) (kf : ¬ y < x → Go m (pc + 3) ls r0 h res) : Go m pc ls (.int y :: .int x :: r0) h res := go_b1 (c := y < x) hc (fun k => rfl) ht kt kf
theorem go_icmp_le {t : Nat} {off : Int} {x y : Int32} (hc : (ck_cd m).lookup pc = some (.if_icmp .le off)) (ht : ck_tg pc off = some t) (kf : y < x → Go m (pc + 3) ls r0 h res) (kt : ¬ y < x → Go m t ls r0 h res) : Go m pc ls (.int y :: .int x :: r0) h res := go_b1 (c := x ≤ y) hc (fun k => rfl) ht (fun q => kt (Int32.not_lt.mpr q)) (fun q => kf (Int32.not_le.mp q))
theorem go_ifnullN {t : Nat} {off : Int} (hc : (ck_cd m).lookup pc = some (.ifnull off)) (ht : ck_tg pc off = some t) (g : Go m t ls r0 h res) : Go m pc ls (.null :: r0) h res := Go.step hc (fun k => by simp only [ck_i, ck_jmp, ht]) g
theorem go_ifnull {x : Nat} {off : Int} (hc : (ck_cd m).lookup pc = some (.ifnull off)) (g : Go m (pc + 3) ls r0 h res) : Go m pc ls (.ref x :: r0) h res := Go.step hc (fun k => rfl) g
theorem go_ifnonnullN {off : Int} (hc : (ck_cd m).lookup pc = some (.ifnonnull off)) (g : Go m (pc + 3) ls r0 h res) : Go m pc ls (.null :: r0) h res := Go.step hc (fun k => rfl) g
theorem go_ifnonnull {x t : Nat} {off : Int} (hc : (ck_cd m).lookup pc = some (.ifnonnull off)) (ht : ck_tg pc off = some t) (g : Go m t ls r0 h res) : Go m pc ls (.ref x :: r0) h res := Go.step hc (fun k => by simp only [ck_i, ck_jmp, ht]) g
end GO
