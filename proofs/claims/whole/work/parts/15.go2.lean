section GO2
variable {m : ck_M} {pc : Nat} {ls ls' : ck_L} {r0 : List Value} {h h1 : ck_H} {res : Option Value × ck_H}
theorem go_tswI {t : Nat} {d lo hi off : Int} {offs : Array Int} {x : Int32} (hc : (ck_cd m).lookup pc = some (.tableswitch d lo hi offs)) (hx : ¬ (x.toInt < lo ∨ hi < x.toInt)) (ho : offs[(x.toInt - lo).toNat]? = some off) (ht : ck_tg pc off = some t) (g : Go m t ls r0 h res) : Go m pc ls (.int x :: r0) h res := Go.step hc (fun k => by simp only [ck_i, if_neg hx, ho, ck_jmp, ht]) g
theorem go_tswO {t : Nat} {d lo hi : Int} {offs : Array Int} {x : Int32} (hc : (ck_cd m).lookup pc = some (.tableswitch d lo hi offs)) (hx : x.toInt < lo ∨ hi < x.toInt) (ht : ck_tg pc d = some t) (g : Go m t ls r0 h res) : Go m pc ls (.int x :: r0) h res := Go.step hc (fun k => by simp only [ck_i, if_pos hx, ck_jmp, ht]) g
theorem go_lsw {t : Nat} {d : Int} {ps : Array (Int × Int)} {x : Int32} (hc : (ck_cd m).lookup pc = some (.lookupswitch d ps)) (hp : (ps.toList.zip (ps.toList.drop 1)).all (fun (a, next) => a.1 < next.1) = true) (ht : ck_tg pc (Op.lookupswitch.offset ps.toList d x.toInt) = some t) (g : Go m t ls r0 h res) : Go m pc ls (.int x :: r0) h res := Go.step hc (fun k => by simp only [ck_i, if_pos hp, ck_jmp, ht]) g
theorem go_get {ix i kc a : Nat} {nest : Bool} {v : Value} (hc : (ck_cd m).lookup pc = some (.getfield ix)) (hf : ck_fl (ck_ow m) ix = some (kc, i, nest)) (ha : gk h a = kc) (hk : kc < 13 ∧ i < ck_N kc) (hv : ck_fv h a kc i = v) (g : Go m (pc + 3) ls (v :: r0) h res) : Go m pc ls (.ref a :: r0) h res := Go.step hc (fun k => by simp only [ck_i, hf, if_pos (And.intro ha hk), hv]) g
theorem go_put {ix i kc a : Nat} {v : Value} (hc : (ck_cd m).lookup pc = some (.putfield ix)) (hf : ck_fl (ck_ow m) ix = some (kc, i, false)) (ha : gk h a = kc) (hk : kc < 13 ∧ i < ck_N kc ∧ (ck_fin kc i = false ∨ ((ck_nm m).name = "<init>" ∧ kc = ck_ow m))) (hp : ck_put h a kc i v = some h1) (g : Go m (pc + 3) ls r0 h1 res) : Go m pc ls (v :: .ref a :: r0) h res := Go.step hc (fun k => by simp only [ck_i, hf, if_pos (And.intro ha hk), hp]) g
theorem go_iald {a : Nat} {j : Int32} (hc : (ck_cd m).lookup pc = some .iaload) (hx : (gk h a = 14 ∨ gk h a = 21) ∧ ¬ j < 0 ∧ j.toNatClampNeg < gz h a) (g : Go m (pc + 1) ls (.int (gI h a j.toNatClampNeg) :: r0) h res) : Go m pc ls (.int j :: .ref a :: r0) h res := Go.step hc (fun k => by simp only [ck_i, if_pos hx]) g
theorem go_bald {a : Nat} {j : Int32} (hc : (ck_cd m).lookup pc = some .baload) (hx : (gk h a = 13 ∨ gk h a = 15) ∧ ¬ j < 0 ∧ j.toNatClampNeg < gz h a) (g : Go m (pc + 1) ls (.int (gI h a j.toNatClampNeg) :: r0) h res) : Go m pc ls (.int j :: .ref a :: r0) h res := Go.step hc (fun k => by simp only [ck_i, if_pos hx]) g
theorem go_aald {a : Nat} {j : Int32} {v : Value} (hc : (ck_cd m).lookup pc = some .aaload) (hx : (16 ≤ gk h a ∧ gk h a ≤ 20) ∧ ¬ j < 0 ∧ j.toNatClampNeg < gz h a) (hv : va_rf (gR h a j.toNatClampNeg) = v) (g : Go m (pc + 1) ls (v :: r0) h res) : Go m pc ls (.int j :: .ref a :: r0) h res := Go.step hc (fun k => by simp only [ck_i, if_pos hx, hv]) g
theorem go_iast {a : Nat} {j x : Int32} (hc : (ck_cd m).lookup pc = some .iastore) (hx : gk h a = 14 ∧ ¬ j < 0 ∧ j.toNatClampNeg < gz h a) (g : Go m (pc + 1) ls r0 (wI h a j.toNatClampNeg x) res) : Go m pc ls (.int x :: .int j :: .ref a :: r0) h res := Go.step hc (fun k => by simp only [ck_i, if_pos hx]) g
theorem go_bast {a : Nat} {j x : Int32} (hc : (ck_cd m).lookup pc = some .bastore) (hx : gk h a = 13 ∧ ¬ j < 0 ∧ j.toNatClampNeg < gz h a) (g : Go m (pc + 1) ls r0 (wI h a j.toNatClampNeg x.toInt8.toInt32) res) : Go m pc ls (.int x :: .int j :: .ref a :: r0) h res := Go.step hc (fun k => by simp only [ck_i, if_pos hx]) g
theorem go_zast {a : Nat} {j x : Int32} (hc : (ck_cd m).lookup pc = some .bastore) (hx : gk h a = 15 ∧ (x = 0 ∨ x = 1) ∧ ¬ j < 0 ∧ j.toNatClampNeg < gz h a) (g : Go m (pc + 1) ls r0 (wI h a j.toNatClampNeg x) res) : Go m pc ls (.int x :: .int j :: .ref a :: r0) h res := Go.step hc (fun k => by
  have hn : ¬ (gk h a = 13 ∧ ¬ j < 0 ∧ j.toNatClampNeg < gz h a) := fun q => by omega
  simp only [ck_i, if_neg hn, if_pos hx]) g
theorem go_aast {a v : Nat} {j : Int32} (hc : (ck_cd m).lookup pc = some .aastore) (hx : gk h v < 13 ∧ ck_ka (gk h a) = some (gk h v) ∧ ¬ j < 0 ∧ j.toNatClampNeg < gz h a) (g : Go m (pc + 1) ls r0 (wR h a j.toNatClampNeg (some v)) res) : Go m pc ls (.ref v :: .int j :: .ref a :: r0) h res := Go.step hc (fun k => by simp only [ck_i, if_pos hx]) g
theorem go_alen {a : Nat} (hc : (ck_cd m).lookup pc = some .arraylength) (hx : 13 ≤ gk h a ∧ gk h a ≤ 21) (g : Go m (pc + 1) ls (.int (Int32.ofNat (gz h a)) :: r0) h res) : Go m pc ls (.ref a :: r0) h res := Go.step hc (fun k => by simp only [ck_i, if_pos hx]) g
theorem go_new {ix kc n : Nat} (hc : (ck_cd m).lookup pc = some (.new ix)) (hk : ck_cr (ck_ow m) ix = some kc) (hx : kc < 13) (hn : ck_N kc = n) (g : Go m (pc + 3) ls (.ref (gn h) :: r0) (wN h kc n) res) : Go m pc ls r0 h res := Go.step hc (fun k => by simp only [ck_i, hk, if_pos hx, hn]) g
theorem go_newa {kc N : Nat} {t : ArrayType} {n : Int32} (hc : (ck_cd m).lookup pc = some (.newarray t)) (hk : ck_ato t = some kc) (hx : ¬ n < 0 ∧ n.toNatClampNeg * 4 ≤ 536870912) (hn : n.toNatClampNeg = N) (g : Go m (pc + 2) ls (.ref (gn h) :: r0) (wN h kc N) res) : Go m pc ls (.int n :: r0) h res := Go.step hc (fun k => by subst hn; simp only [ck_i, hk, if_pos hx]) g
theorem go_anew {ix kc N : Nat} {n : Int32} (hc : (ck_cd m).lookup pc = some (.anewarray ix)) (hk : (ck_cr (ck_ow m) ix).bind ck_ak = some kc) (hx : ¬ n < 0 ∧ n.toNatClampNeg * 4 ≤ 536870912) (hn : n.toNatClampNeg = N) (g : Go m (pc + 3) ls (.ref (gn h) :: r0) (wN h kc N) res) : Go m pc ls (.int n :: r0) h res := Go.step hc (fun k => by subst hn; simp only [ck_i, hk, if_pos hx]) g
theorem go_obj {ix na a : Nat} {y : ck_M} (hc : (ck_cd m).lookup pc = some (.invokespecial ix)) (hm : ck_mr (ck_ow m) ix = some (9, na, y)) (hx : 1 ≤ ck_fr m ∧ ck_sum r0 + 12 ≤ ck_lo m) (g : Go m (pc + 3) ls r0 h res) : Go m pc ls (.ref a :: r0) h res := Go.step hc (fun k => by simp only [ck_i, hm, ck_inv, if_pos hx]) g
theorem go_copy {ix na a a0 : Nat} {n dp sp : Int32} {y : ck_M} (hc : (ck_cd m).lookup pc = some (.invokestatic ix)) (hm : ck_mr (ck_ow m) ix = some (8, na, y)) (hr : 1 ≤ ck_fr m ∧ ck_sum r0 + 18 ≤ ck_lo m) (hx : gk h a0 = gk h a ∧ (gk h a = 13 ∨ gk h a = 14) ∧ ¬ sp < 0 ∧ ¬ dp < 0 ∧ ¬ n < 0 ∧ sp.toNatClampNeg + n.toNatClampNeg ≤ gz h a0 ∧ dp.toNatClampNeg + n.toNatClampNeg ≤ gz h a) (g : Go m (pc + 3) ls r0 (wC h a0 sp.toNatClampNeg a dp.toNatClampNeg n.toNatClampNeg) res) : Go m pc ls (.int n :: .int dp :: .ref a :: .int sp :: .ref a0 :: r0) h res := Go.step hc (fun k => by
  have hx2 : gk h a0 = gk h a ∧ (gk h a = 13 ∨ gk h a = 14) ∧ ¬ sp < 0 ∧ ¬ dp < 0 ∧ ¬ n < 0 ∧ sp.toNatClampNeg + n.toNatClampNeg ≤ gz h a0 ∧ dp.toNatClampNeg + n.toNatClampNeg ≤ gz h a ∧ 1 ≤ ck_fr m ∧ ck_sum r0 + 18 ≤ ck_lo m := ⟨hx.1, hx.2.1, hx.2.2.1, hx.2.2.2.1, hx.2.2.2.2.1, hx.2.2.2.2.2.1, hx.2.2.2.2.2.2, hr.1, hr.2⟩
  simp only [ck_i, hm, ck_inv, if_pos hx2]) g
theorem go_ret {i : Instr} {st : List Value} {r : Option Value} (hc : (ck_cd m).lookup pc = some i) (hr : ck_rv m st i = some r) : Go m pc ls st h (r, h) := by
  refine ⟨1, fun f hf => ?_⟩
  obtain ⟨f, rfl⟩ : ∃ f', f = f' + 1 := ⟨f - 1, by omega⟩
  simp only [ck_x, hc]
  cases i <;> first | (simp only [ck_i, hr, Option.map_some]; done) | (simp [ck_rv] at hr; done)
/-- the conditions of a call -/
abbrev ck_cc (m y : ck_M) (As rest : List Value) : Prop := ck_sum rest ≤ 8 ∧ ck_fr y + 1 ≤ ck_fr m ∧ 8 + (ck_ml y + 11) + ck_lo y ≤ ck_lo m ∧ (ck_ent As).length ≤ ck_ml y
theorem Go.call {y : ck_M} {As rest st : List Value} {i : Instr} {r1 : Option Value} (hc : (ck_cd m).lookup pc = some i) (hs : ∀ k : ck_K, ck_i k m pc ls st h i = ck_call k m pc ls h y As rest) (hcc : ck_cc m y As rest) (g1 : Go y 0 (ck_in As (ck_ml y)) [] h (r1, h1)) (g2 : Go m (pc + 3) ls (r1.toList ++ rest) h1 res) : Go m pc ls st h res := by
  obtain ⟨n1, k1⟩ := g1
  obtain ⟨n2, k2⟩ := g2
  refine ⟨n1 + n2 + 1, fun f hf => ?_⟩
  obtain ⟨f, rfl⟩ : ∃ f', f = f' + 1 := ⟨f - 1, by omega⟩
  simp only [ck_x, hc]
  rw [hs, ck_call, if_pos hcc, k1 f (by omega)]
  exact k2 f (by omega)
theorem go_callV {y : ck_M} {ix na b0 : Nat} {As rest : List Value} {r1 : Option Value} (hc : (ck_cd m).lookup pc = some (.invokevirtual ix)) (hm : ck_mr (ck_ow m) ix = some (0, na, y)) (hb0 : gk h b0 = ck_ow y ∧ ck_ow y < 13) (hn : As.length = na) (hcc : ck_cc m y (.ref b0 :: As) rest) (g1 : Go y 0 (ck_in (.ref b0 :: As) (ck_ml y)) [] h (r1, h1)) (g2 : Go m (pc + 3) ls (r1.toList ++ rest) h1 res) : Go m pc ls (As.reverse ++ .ref b0 :: rest) h res := by
  refine Go.call hc (fun k => ?_) hcc g1 g2
  subst hn
  have e1 : (As.reverse ++ .ref b0 :: rest).drop As.length = .ref b0 :: rest := by
    rw [List.drop_append_of_le_length (by simp), ← List.length_reverse, List.drop_length]; rfl
  have e2 : (As.reverse ++ .ref b0 :: rest).take As.length = As.reverse := by
    rw [List.take_append_of_le_length (by simp), ← List.length_reverse, List.take_length]
  simp only [ck_i, hm, ck_inv, e1, e2, if_pos hb0, List.reverse_reverse]
  rw [if_pos (by simp)]
theorem go_callS {y : ck_M} {ix na : Nat} {As rest : List Value} {r1 : Option Value} (hc : (ck_cd m).lookup pc = some (.invokestatic ix)) (hm : ck_mr (ck_ow m) ix = some (1, na, y)) (hn : As.length = na) (hcc : ck_cc m y As rest) (g1 : Go y 0 (ck_in As (ck_ml y)) [] h (r1, h1)) (g2 : Go m (pc + 3) ls (r1.toList ++ rest) h1 res) : Go m pc ls (As.reverse ++ rest) h res := by
  refine Go.call hc (fun k => ?_) hcc g1 g2
  subst hn
  have e1 : (As.reverse ++ rest).drop As.length = rest := by
    rw [List.drop_append_of_le_length (by simp), ← List.length_reverse, List.drop_length]; rfl
  have e2 : (As.reverse ++ rest).take As.length = As.reverse := by
    rw [List.take_append_of_le_length (by simp), ← List.length_reverse, List.take_length]
  simp only [ck_i, hm, ck_inv, e1, e2, List.reverse_reverse]
  rw [if_pos (by simp)]
theorem go_callI {y : ck_M} {ix na b0 : Nat} {As rest : List Value} {r1 : Option Value} (hc : (ck_cd m).lookup pc = some (.invokespecial ix)) (hm : ck_mr (ck_ow m) ix = some (2, na, y)) (hn : As.length = na) (hcc : ck_cc m y (.ref b0 :: As) rest) (g1 : Go y 0 (ck_in (.ref b0 :: As) (ck_ml y)) [] h (r1, h1)) (g2 : Go m (pc + 3) ls (r1.toList ++ rest) h1 res) : Go m pc ls (As.reverse ++ .ref b0 :: rest) h res := by
  refine Go.call hc (fun k => ?_) hcc g1 g2
  subst hn
  have e1 : (As.reverse ++ .ref b0 :: rest).drop As.length = .ref b0 :: rest := by
    rw [List.drop_append_of_le_length (by simp), ← List.length_reverse, List.drop_length]; rfl
  have e2 : (As.reverse ++ .ref b0 :: rest).take As.length = As.reverse := by
    rw [List.take_append_of_le_length (by simp), ← List.length_reverse, List.take_length]
  simp only [ck_i, hm, ck_inv, e1, e2, List.reverse_reverse]
  rw [if_pos (by simp)]
theorem go_callN {y : ck_M} {ix na b0 : Nat} {As rest : List Value} {r1 : Option Value} (hc : (ck_cd m).lookup pc = some (.invokespecial ix)) (hm : ck_mr (ck_ow m) ix = some (3, na, y)) (hn : As.length = na) (hcc : ck_cc m y (.ref b0 :: As) rest) (g1 : Go y 0 (ck_in (.ref b0 :: As) (ck_ml y)) [] h (r1, h1)) (g2 : Go m (pc + 3) ls (r1.toList ++ rest) h1 res) : Go m pc ls (As.reverse ++ .ref b0 :: rest) h res := by
  refine Go.call hc (fun k => ?_) hcc g1 g2
  subst hn
  have e1 : (As.reverse ++ .ref b0 :: rest).drop As.length = .ref b0 :: rest := by
    rw [List.drop_append_of_le_length (by simp), ← List.length_reverse, List.drop_length]; rfl
  have e2 : (As.reverse ++ .ref b0 :: rest).take As.length = As.reverse := by
    rw [List.take_append_of_le_length (by simp), ← List.length_reverse, List.take_length]
  simp only [ck_i, hm, ck_inv, e1, e2, List.reverse_reverse]
  rw [if_pos (by simp)]
end GO2
