/-- the kind of a field and its type go together -/
def ck_tc (t : Nat) (ty : FieldType) : Bool := match t, ty with
  | 0, .int => true
  | 1, .boolean => true
  | 2, .long => true
  | 3, .object _ => true
  | 3, .array _ => true
  | _, _ => false
def ck_CP (c : Nat) : Prop := ck_cl[c]? = some (ck_on c, ck_T c, ck_N c) ∧ (∀ w ∈ u_ws (ck_on c) (ck_T c) (ck_N c), ck_w w) ∧ (∀ k, k < ck_N c → parseFieldDescriptor (ck_T c k).2.2.1 = some (ck_ty c k)) ∧ (∀ a, a < ck_N c → ∀ b, b < ck_N c → a ≠ b → (ck_T c a).2.1 ≠ (ck_T c b).2.1) ∧ ck_w (.instantiable (ck_on c) (ck_N c)) ∧ ck_w (.initialized (ck_on c)) ∧ (∀ k, k < ck_N c → ck_tc (ck_ft c k) (ck_ty c k) = true ∧ ck_fin c k = (ck_T c k).2.2.2 ∧ (ck_T c k).1 = ck_on c)
theorem ck_cp0 : ck_CP 0 := ⟨rfl, ck_u0, tyX0_ok, nmX0, ck_in0.1, ck_in0.2, by decide +kernel⟩
theorem ck_cp1 : ck_CP 1 := ⟨rfl, ck_u1, tyX1_ok, nmX1, ck_in1.1, ck_in1.2, by decide +kernel⟩
theorem ck_cp2 : ck_CP 2 := ⟨rfl, ck_u2, tyX2_ok, nmX2, ck_in2.1, ck_in2.2, by decide +kernel⟩
theorem ck_cp3 : ck_CP 3 := ⟨rfl, ck_u3, tyX3_ok, nmX3, ck_in3.1, ck_in3.2, by decide +kernel⟩
theorem ck_cp4 : ck_CP 4 := ⟨rfl, ck_u4, tyX4_ok, nmX4, ck_in4.1, ck_in4.2, by decide +kernel⟩
theorem ck_cp5 : ck_CP 5 := ⟨rfl, ck_u5, tyX5_ok, nmX5, ck_in5.1, ck_in5.2, by decide +kernel⟩
theorem ck_cp6 : ck_CP 6 := ⟨rfl, ck_u6, tyX6_ok, nmX6, ck_in6.1, ck_in6.2, by decide +kernel⟩
theorem ck_cp7 : ck_CP 7 := ⟨rfl, ck_u7, tyX7_ok, nmX7, ck_in7.1, ck_in7.2, by decide +kernel⟩
theorem ck_cp8 : ck_CP 8 := ⟨rfl, ck_u8, tyX8_ok, nmX8, ck_in8.1, ck_in8.2, by decide +kernel⟩
theorem ck_cp9 : ck_CP 9 := ⟨rfl, ck_u9, tyX9_ok, nmX9, ck_in9.1, ck_in9.2, by decide +kernel⟩
theorem ck_cp10 : ck_CP 10 := ⟨rfl, ck_u10, tyX10_ok, nmX10, ck_in10.1, ck_in10.2, by decide +kernel⟩
theorem ck_cp11 : ck_CP 11 := ⟨rfl, ck_u11, tyX11_ok, nmX11, ck_in11.1, ck_in11.2, by decide +kernel⟩
theorem ck_cp12 : ck_CP 12 := ⟨rfl, ck_u12, tyX12_ok, nmX12, ck_in12.1, ck_in12.2, by decide +kernel⟩
theorem ck_cp (c : Nat) (h : c < 13) : ck_CP c := match c, h with
  | 0, _ => ck_cp0
  | 1, _ => ck_cp1
  | 2, _ => ck_cp2
  | 3, _ => ck_cp3
  | 4, _ => ck_cp4
  | 5, _ => ck_cp5
  | 6, _ => ck_cp6
  | 7, _ => ck_cp7
  | 8, _ => ck_cp8
  | 9, _ => ck_cp9
  | 10, _ => ck_cp10
  | 11, _ => ck_cp11
  | 12, _ => ck_cp12
  | n + 13, h => absurd h (by omega)
theorem ck_look {α β : Type} [BEq α] [LawfulBEq α] {a : α} {b : β} : ∀ {l : List (α × β)}, l.lookup a = some b → (a, b) ∈ l
  | [], h => by simp at h
  | (x, y) :: t, h => by
    rw [List.lookup_cons] at h
    cases hx : a == x with
    | true =>
      rw [hx] at h
      have e := eq_of_beq hx
      subst e
      cases h
      exact List.mem_cons_self
    | false =>
      rw [hx] at h
      exact List.mem_cons_of_mem _ (ck_look h)
theorem ck_mr_ok {o ix : Nat} {e : Nat × Nat × ck_M} (h : ck_mr o ix = some e) : ck_LP o (ix, e) := by
  unfold ck_mr at h
  split at h
  · exact ck_mr0_ok _ (ck_look h)
  · exact ck_mr1_ok _ (ck_look h)
  · exact ck_mr2_ok _ (ck_look h)
  · exact ck_mr3_ok _ (ck_look h)
  · exact ck_mr4_ok _ (ck_look h)
  · exact ck_mr5_ok _ (ck_look h)
  · exact ck_mr6_ok _ (ck_look h)
  · exact ck_mr7_ok _ (ck_look h)
  · exact ck_mr8_ok _ (ck_look h)
  · exact ck_mr9_ok _ (ck_look h)
  · exact ck_mr10_ok _ (ck_look h)
  · exact ck_mr11_ok _ (ck_look h)
  · exact ck_mr12_ok _ (ck_look h)
  · exact ck_mr13_ok _ (ck_look h)
  · exact ck_mr15_ok _ (ck_look h)
  · cases h
theorem ck_fl_ok {o ix : Nat} {e : Nat × Nat × Bool} (h : ck_fl o ix = some e) : ck_FP o (ix, e) := by
  unfold ck_fl at h
  split at h
  · exact ck_fl0_ok _ (ck_look h)
  · exact ck_fl1_ok _ (ck_look h)
  · exact ck_fl2_ok _ (ck_look h)
  · exact ck_fl3_ok _ (ck_look h)
  · exact ck_fl4_ok _ (ck_look h)
  · exact ck_fl5_ok _ (ck_look h)
  · exact ck_fl6_ok _ (ck_look h)
  · exact ck_fl7_ok _ (ck_look h)
  · exact ck_fl8_ok _ (ck_look h)
  · exact ck_fl9_ok _ (ck_look h)
  · exact ck_fl10_ok _ (ck_look h)
  · exact ck_fl11_ok _ (ck_look h)
  · exact ck_fl12_ok _ (ck_look h)
  · cases h
theorem ck_cr_ok {o ix c : Nat} (h : ck_cr o ix = some c) : ck_w (.classLink (ck_on o) ix (ck_on c)) := ck_crL_ok ((o, ix), c) (ck_look h)
theorem ck_lc_ok {o ix : Nat} {v : Int32} (h : ck_lc o ix = some v) : ck_w (.constant (ck_on o) ix v) := ck_lcL_ok ((o, ix), v) (ck_look h)
theorem ck_l2_ok {o ix : Nat} {v : Int64} (h : ck_l2 o ix = some v) : ck_w (.constantLong (ck_on o) ix v) := ck_l2L_ok ((o, ix), v) (ck_look h)
theorem ck_dec {m : ck_M} (hD : ck_DP m) {pc : Nat} {i : Instr} (h : (ck_cd m).lookup pc = some i) : ∃ n, decode (ck_bs m) pc = .ok (i, n) ∧ (ck_len i = 0 ∨ n = ck_len i) := by
  have h1 := List.all_eq_true.mp hD _ (ck_look h)
  simp only [ck_dok] at h1
  split at h1
  · rename_i j n hd
    simp only [Bool.and_eq_true, Bool.or_eq_true, beq_iff_eq, decide_eq_true_eq] at h1
    exact ⟨n, by rw [hd, h1.1], h1.2⟩
  · cases h1
