/-! ===== bytes as numbers ===== -/
def ub (c : Int8) : Nat := c.toInt32.toBitVec.toNat % 256
theorem ub_lt (c : Int8) : ub c < 256 := Nat.mod_lt _ (by decide)
theorem ub_and (c : Int8) : c.toInt32 &&& nI 255 = nI (ub c) := pk_and _ 8 (by decide)
theorem ub_tab : ∀ n, n < 256 → ub (nI n).toInt8 = n := by decide +kernel
theorem t8_nat (x : Int32) : x.toInt8.toBitVec.toNat = x.toBitVec.toNat % 256 := by
  show (BitVec.signExtend 8 x.toBitVec).toNat = _
  rw [BitVec.signExtend_eq_setWidth_of_le _ (by decide), BitVec.toNat_setWidth]
theorem nI_nat (n : Nat) : (nI n).toBitVec.toNat = n % 2 ^ 32 := by
  show (BitVec.ofNat 32 n).toNat = _
  rw [BitVec.toNat_ofNat]
theorem nI_mod8 (n : Nat) : (nI n).toInt8 = (nI (n % 256)).toInt8 := by
  apply Int8.toBitVec_inj.mp
  apply BitVec.eq_of_toNat_eq
  rw [t8_nat, t8_nat, nI_nat, nI_nat]
  omega
theorem ub_n (n : Nat) : ub (nI n).toInt8 = n % 256 := by
  rw [nI_mod8]
  exact ub_tab _ (Nat.mod_lt _ (by decide))
theorem ub_tab2 : ∀ n, n < 256 → (nI (ub (Int8.ofBitVec (BitVec.ofNat 8 n)))).toInt8 = Int8.ofBitVec (BitVec.ofNat 8 n) := by decide +kernel
theorem ub_back (c : Int8) : (nI (ub c)).toInt8 = c := by
  have e : c = Int8.ofBitVec (BitVec.ofNat 8 c.toBitVec.toNat) := by
    apply Int8.toBitVec_inj.mp
    apply BitVec.eq_of_toNat_eq
    simp
  rw [e]
  exact ub_tab2 _ c.toBitVec.isLt
theorem ub_inj {c d : Int8} : ub c = ub d ↔ c = d := by
  constructor
  · intro e
    rw [← ub_back c, e, ub_back]
  · intro e
    rw [e]
theorem t32_inj {c d : Int8} : c.toInt32 = d.toInt32 ↔ c = d := by
  constructor
  · intro e
    have := congrArg Int32.toInt8 e
    rwa [bb, bb] at this
  · intro e
    rw [e]
theorem b0 : (nI 0).toInt8.toInt32 = nI 0 := by decide
theorem b1 : (nI 1).toInt8.toInt32 = nI 1 := by decide
/-! ===== records of a track ===== -/
/-- count (cylinder, head, number), lengths of key and data, mark, bytes -/
abbrev Rc : Type := (Nat × Nat × Nat) × (Nat × Nat) × Bool × (Nat → Int8)
def rC (r : Rc) : Nat := r.1.1
def rH (r : Rc) : Nat := r.1.2.1
def rN (r : Rc) : Nat := r.1.2.2
def rK (r : Rc) : Nat := r.2.1.1
def rD (r : Rc) : Nat := r.2.1.2
def rS (r : Rc) : Bool := r.2.2.1
def rX (r : Rc) : Nat → Int8 := r.2.2.2
def rL (r : Rc) : Nat := r.2.1.1 + r.2.1.2
def ln (s : List Rc) : Nat := (s.map fun r => 30 + rL r).sum
def bg (s : List Rc) (k : Nat) : Nat := 30 + ln (s.take k)
def okR (r : Rc) : Prop := rC r < 256 ∧ rH r < 256 ∧ rN r < 256 ∧ rK r ≤ 60 ∧ rD r ≤ 1200
def GT (s : List Rc) : Prop := ln s ≤ 1470 ∧ ∀ r, r ∈ s → okR r
theorem ln_nil : ln [] = 0 := rfl
theorem ln_cons (r : Rc) (s : List Rc) : ln (r :: s) = 30 + rL r + ln s := by simp [ln]
theorem ln_app (s t : List Rc) : ln (s ++ t) = ln s + ln t := by simp [ln]
theorem ln_take (s : List Rc) (k : Nat) : ln (s.take k) ≤ ln s := by
  have : ln s = ln (s.take k) + ln (s.drop k) := by rw [← ln_app, List.take_append_drop]
  omega
theorem ln_len (s : List Rc) : 30 * s.length ≤ ln s := by
  induction s with
  | nil => simp [ln_nil]
  | cons r s ih => rw [ln_cons, List.length_cons]; omega
theorem GT.len {s : List Rc} (g : GT s) : s.length ≤ 49 := by
  have := ln_len s
  have := g.1
  omega
theorem bg_0 (s : List Rc) : bg s 0 = 30 := by simp [bg, ln_nil]
theorem bg_len (s : List Rc) : bg s s.length = 30 + ln s := by simp [bg]
theorem bg_succ {s : List Rc} {k : Nat} {r : Rc} (h : s[k]? = some r) : bg s (k + 1) = bg s k + 30 + rL r := by
  unfold bg
  rw [List.take_add_one, h, ln_app]
  simp [ln]
  omega
theorem bg_le {s : List Rc} (k : Nat) : bg s k ≤ 30 + ln s := by
  have := ln_take s k
  unfold bg
  omega
theorem bg_mono {s : List Rc} {j k : Nat} (h : j ≤ k) : bg s j ≤ bg s k := by
  unfold bg
  have : s.take j = (s.take k).take j := by rw [List.take_take, Nat.min_eq_left h]
  rw [this]
  have := ln_take (s.take k) j
  omega
theorem bg_lt {s : List Rc} {j k : Nat} {r : Rc} (h : s[j]? = some r) (hk : j < k) : bg s j + 30 + rL r ≤ bg s k := by
  rw [← bg_succ h]
  exact bg_mono hk
theorem bg_app {s t : List Rc} {k : Nat} (h : k ≤ s.length) : bg (s ++ t) k = bg s k := by
  unfold bg
  rw [List.take_append_of_le_length h]
theorem bg_take {s : List Rc} {n k : Nat} (h : k ≤ n) : bg (s.take n) k = bg s k := by
  unfold bg
  rw [List.take_take, Nat.min_eq_left h]
theorem bg_set {s : List Rc} {j k : Nat} {r r' : Rc} (h : s[j]? = some r) (e : rL r' = rL r) : bg (s.set j r') k = bg s k := by
  unfold bg
  have hj : j < s.length := (List.getElem?_eq_some_iff.1 h).1
  have : (s.set j r').map (fun r => 30 + rL r) = s.map (fun r => 30 + rL r) := by
    rw [List.map_set, e]
    apply List.ext_getElem?
    intro i
    rw [List.getElem?_set]
    by_cases q : j = i
    · subst q
      obtain ⟨_, h2⟩ := List.getElem?_eq_some_iff.1 h
      simp [hj, h2]
    · simp [q]
  unfold ln
  rw [List.map_take, this, List.map_take]
theorem ln_set {s : List Rc} {j : Nat} {r r' : Rc} (h : s[j]? = some r) (e : rL r' = rL r) : ln (s.set j r') = ln s := by
  have := bg_set (k := s.length) h e
  rw [bg_len] at this
  have l : (s.set j r').length = s.length := List.length_set
  rw [← l, bg_len] at this
  omega
theorem at_lt {s : List Rc} {k : Nat} {r : Rc} (h : s[k]? = some r) : k < s.length := (List.getElem?_eq_some_iff.1 h).1
theorem at_in {s : List Rc} {k : Nat} {r : Rc} (h : s[k]? = some r) : r ∈ s := List.mem_of_getElem? h
theorem at_ex {s : List Rc} {k : Nat} (h : k < s.length) : ∃ r, s[k]? = some r := ⟨s[k], List.getElem?_eq_some_iff.2 ⟨h, rfl⟩⟩
theorem GT.take {s : List Rc} (g : GT s) (n : Nat) : GT (s.take n) := ⟨Nat.le_trans (ln_take s n) g.1, fun r h => g.2 r (List.mem_of_mem_take h)⟩
theorem GT.nil : GT [] := ⟨by simp [ln_nil], by simp⟩
theorem GT.app {s : List Rc} (g : GT s) {r : Rc} (h : ln s + 30 + rL r ≤ 1470) (o : okR r) : GT (s ++ [r]) := by
  refine ⟨?_, fun x hx => ?_⟩
  · rw [ln_app, ln_cons, ln_nil]
    omega
  · rcases List.mem_append.1 hx with q | q
    · exact g.2 x q
    · rw [List.mem_singleton.1 q]
      exact o
theorem GT.set {s : List Rc} (g : GT s) {j : Nat} {r r' : Rc} (h : s[j]? = some r) (e : rL r' = rL r) (o : okR r') : GT (s.set j r') := by
  refine ⟨?_, fun x hx => ?_⟩
  · rw [ln_set h e]
    exact g.1
  · rcases List.mem_or_eq_of_mem_set hx with q | q
    · exact g.2 x q
    · rw [q]
      exact o
theorem at_app {s : List Rc} {r x : Rc} {k : Nat} (h : (s ++ [r])[k]? = some x) : (k < s.length ∧ s[k]? = some x) ∨ (k = s.length ∧ x = r) := by
  by_cases q : k < s.length
  · rw [List.getElem?_append_left q] at h
    exact Or.inl ⟨q, h⟩
  · have := at_lt h
    rw [List.length_append, List.length_singleton] at this
    have e : k = s.length := by omega
    subst e
    rw [List.getElem?_append_right (Nat.le_refl _), Nat.sub_self] at h
    cases h
    exact Or.inr ⟨rfl, rfl⟩
theorem at_take {s : List Rc} {x : Rc} {n k : Nat} (h : (s.take n)[k]? = some x) : k < n ∧ s[k]? = some x := by
  rw [List.getElem?_take] at h
  split at h
  · exact ⟨by assumption, h⟩
  · cases h
theorem at_st {s : List Rc} {r x : Rc} {j k : Nat} (h : (s.set j r)[k]? = some x) : (k = j ∧ x = r) ∨ (k ≠ j ∧ s[k]? = some x) := by
  have l := at_lt h
  rw [List.length_set] at l
  rw [List.getElem?_set] at h
  by_cases q : j = k
  · subst q
    rw [if_pos rfl, if_pos l] at h
    cases h
    exact Or.inl ⟨rfl, rfl⟩
  · rw [if_neg q] at h
    exact Or.inr ⟨fun e => q e.symm, h⟩
