/-! ===== what a run must give ===== -/
/-- the run answers, and what it answers is right -/
def wp {α : Type} (x : Option (α × ck_H)) (P : α → ck_H → Prop) : Prop := ∃ r h, x = some (r, h) ∧ P r h
theorem wp_ret {α : Type} {r : α} {h : ck_H} {P : α → ck_H → Prop} : wp (some (r, h)) P ↔ P r h := by
  constructor
  · rintro ⟨r', h', e, p⟩
    cases e
    exact p
  · intro p
    exact ⟨r, h, rfl, p⟩
theorem wp_as {α : Type} {c : Prop} [Decidable c] {k : Option (α × ck_H)} {P : α → ck_H → Prop} : wp (ck_as c k) P ↔ c ∧ wp k P := by
  by_cases hc : c
  · rw [x_as hc]
    exact ⟨fun p => ⟨hc, p⟩, fun p => p.2⟩
  · constructor
    · rintro ⟨r, h, e, _⟩
      exact absurd (ck_as_e e).1 hc
    · intro p
      exact absurd p.1 hc
theorem wp_some {α : Type} {x : Nat} {k : Nat → Option (α × ck_H)} {P : α → ck_H → Prop} : wp (ck_some (some x) k) P ↔ wp (k x) P := Iff.rfl
theorem wp_optS {α : Type} {x : Nat} {a : Option (α × ck_H)} {k : Nat → Option (α × ck_H)} {P : α → ck_H → Prop} : wp (ck_opt (some x) a k) P ↔ wp (k x) P := Iff.rfl
theorem wp_optN {α : Type} {a : Option (α × ck_H)} {k : Nat → Option (α × ck_H)} {P : α → ck_H → Prop} : wp (ck_opt none a k) P ↔ wp a P := Iff.rfl
theorem wp_then {α β : Type} {v : β} {k : β → Option (α × ck_H)} {P : α → ck_H → Prop} : wp (ck_then v k) P ↔ wp (k v) P := Iff.rfl
theorem wp_bd {α β : Type} {x : Option (β × ck_H)} {k : β → ck_H → Option (α × ck_H)} {P : α → ck_H → Prop} : wp (ck_bd x k) P ↔ wp x (fun r h => wp (k r h) P) := by
  constructor
  · rintro ⟨r, h, e, p⟩
    obtain ⟨r1, h1, e1, e2⟩ := ck_bd_e e
    exact ⟨r1, h1, e1, r, h, e2, p⟩
  · rintro ⟨r1, h1, e1, r, h, e2, p⟩
    exact ⟨r, h, by rw [e1]; exact e2, p⟩
theorem wp_if {α : Type} {c : Prop} [Decidable c] {a b : Option (α × ck_H)} {P : α → ck_H → Prop} : wp (if c then a else b) P ↔ (c → wp a P) ∧ (¬ c → wp b P) := by
  by_cases hc : c
  · rw [if_pos hc]
    exact ⟨fun p => ⟨fun _ => p, fun q => absurd hc q⟩, fun p => p.1 hc⟩
  · rw [if_neg hc]
    exact ⟨fun p => ⟨fun q => absurd q hc, fun _ => p⟩, fun p => p.2 hc⟩
theorem wp_ifp {α : Type} {c : Prop} [Decidable c] {a b : Option (α × ck_H)} {P : α → ck_H → Prop} (hc : c) : wp (if c then a else b) P ↔ wp a P := by rw [if_pos hc]
theorem wp_ifn {α : Type} {c : Prop} [Decidable c] {a b : Option (α × ck_H)} {P : α → ck_H → Prop} (hc : ¬ c) : wp (if c then a else b) P ↔ wp b P := by rw [if_neg hc]
theorem wp_ite {α : Type} {c : Prop} [Decidable c] {a b : Option (α × ck_H)} {P : α → ck_H → Prop} (ha : c → wp a P) (hb : ¬ c → wp b P) : wp (if c then a else b) P := wp_if.2 ⟨ha, hb⟩
theorem wp_mono {α : Type} {x : Option (α × ck_H)} {P Q : α → ck_H → Prop} (w : wp x P) (i : ∀ r h, P r h → Q r h) : wp x Q := by
  obtain ⟨r, h, e, p⟩ := w
  exact ⟨r, h, e, i r h p⟩
theorem wp_eq {α : Type} {x : Option (α × ck_H)} {r : α} {h : ck_H} {P : α → ck_H → Prop} (e : x = some (r, h)) (p : P r h) : wp x P := ⟨r, h, e, p⟩
/-! numbers -/
theorem lit (n : Nat) : (OfNat.ofNat n : Int32) = nI (OfNat.ofNat n) := rfl
theorem litL (n : Nat) : (OfNat.ofNat n : Int64) = lN (OfNat.ofNat n) := rfl
/-! ===== only W changes: ints and longs at the places of W ===== -/
abbrev Wd : Type := Nat → Nat → Bool
def Ch (W : Wd) (h h' : ck_H) : Prop := h'.1 = h.1 ∧ h'.2.1 = h.2.1 ∧ h'.2.2.2.1 = h.2.2.2.1 ∧ (∀ a i, W a i = false → gI h' a i = gI h a i) ∧ (∀ a i, W a i = false → gJ h' a i = gJ h a i)
theorem Ch.refl {W : Wd} (h : ck_H) : Ch W h h := ⟨rfl, rfl, rfl, fun _ _ _ => rfl, fun _ _ _ => rfl⟩
theorem Ch.trans {W : Wd} {h h1 h2 : ck_H} (a : Ch W h h1) (b : Ch W h1 h2) : Ch W h h2 :=
  ⟨b.1.trans a.1, b.2.1.trans a.2.1, b.2.2.1.trans a.2.2.1, fun x i w => (b.2.2.2.1 x i w).trans (a.2.2.2.1 x i w), fun x i w => (b.2.2.2.2 x i w).trans (a.2.2.2.2 x i w)⟩
theorem Ch.mono {W V : Wd} {h h1 : ck_H} (a : Ch W h h1) (k : ∀ x i, W x i = true → V x i = true) : Ch V h h1 := by
  have k' : ∀ x i, V x i = false → W x i = false := by
    intro x i q
    cases e : W x i
    · rfl
    · rw [k x i e] at q
      cases q
  exact ⟨a.1, a.2.1, a.2.2.1, fun x i w => a.2.2.2.1 x i (k' x i w), fun x i w => a.2.2.2.2 x i (k' x i w)⟩
theorem Ch.gn {W : Wd} {h h1 : ck_H} (c : Ch W h h1) : gn h1 = gn h := congrArg Prod.fst c.1
theorem Ch.gu {W : Wd} {h h1 : ck_H} (c : Ch W h h1) : gu h1 = gu h := congrArg Prod.snd c.1
theorem Ch.gk {W : Wd} {h h1 : ck_H} (c : Ch W h h1) (a : Nat) : gk h1 a = gk h a := by show (h1.2.1 a).1 = (h.2.1 a).1; rw [c.2.1]
theorem Ch.gz {W : Wd} {h h1 : ck_H} (c : Ch W h h1) (a : Nat) : gz h1 a = gz h a := by show (h1.2.1 a).2 = (h.2.1 a).2; rw [c.2.1]
theorem Ch.gR {W : Wd} {h h1 : ck_H} (c : Ch W h h1) (a i : Nat) : gR h1 a i = gR h a i := by show h1.2.2.2.1 a i = h.2.2.2.1 a i; rw [c.2.2.1]
theorem Ch.gI {W : Wd} {h h1 : ck_H} (c : Ch W h h1) {a i : Nat} (w : W a i = false) : gI h1 a i = gI h a i := c.2.2.2.1 a i w
theorem Ch.gJ {W : Wd} {h h1 : ck_H} (c : Ch W h h1) {a i : Nat} (w : W a i = false) : gJ h1 a i = gJ h a i := c.2.2.2.2 a i w
theorem Ch.wI {W : Wd} {h h1 : ck_H} (c : Ch W h h1) {a i : Nat} {x : Int32} (w : W a i = true) : Ch W h (wI h1 a i x) := by
  refine ⟨c.1, c.2.1, c.2.2.1, fun b j q => ?_, c.2.2.2.2⟩
  rw [gI_wI, if_neg]
  · exact c.2.2.2.1 b j q
  · rintro ⟨rfl, rfl⟩
    rw [w] at q
    cases q
theorem Ch.wJ {W : Wd} {h h1 : ck_H} (c : Ch W h h1) {a i : Nat} {x : Int64} (w : W a i = true) : Ch W h (wJ h1 a i x) := by
  refine ⟨c.1, c.2.1, c.2.2.1, c.2.2.2.1, fun b j q => ?_⟩
  rw [gJ_wJ, if_neg]
  · exact c.2.2.2.2 b j q
  · rintro ⟨rfl, rfl⟩
    rw [w] at q
    cases q
theorem Ch.wC {W : Wd} {h h1 : ck_H} (c : Ch W h h1) {a0 sp a dp n : Nat} (w : ∀ i, W a i = true) : Ch W h (wC h1 a0 sp a dp n) := by
  refine ⟨c.1, c.2.1, c.2.2.1, fun b j q => ?_, c.2.2.2.2⟩
  rw [gI_wC, if_neg]
  · exact c.2.2.2.1 b j q
  · rintro rfl
    rw [w] at q
    cases q
theorem bb (x : Int8) : x.toInt32.toInt8 = x := Int8.toInt8_toInt32 x
theorem m8 : nI 8 &&& nI 31 = nI 8 := by decide
theorem m16 : nI 16 &&& nI 31 = nI 16 := by decide
theorem m24 : nI 24 &&& nI 31 = nI 24 := by decide
theorem m0 : nI 0 &&& nI 31 = nI 0 := by decide
theorem sh0 (v : Int32) : v >>> nI 0 = v := sb_shr0 v
theorem sh16_8 (v : Int32) : (v >>> nI 16) >>> nI 8 = v >>> nI 24 := by
  apply Int32.toInt_inj.mp
  rw [pk_shr _ _ 8 (by decide), pk_shr _ _ 16 (by decide), pk_shr _ _ 24 (by decide), ← Int.shiftRight_add]
/-- which bytes a word has -/
def wby (v : Int32) (i : Nat) : Int8 := if i = 0 then (v >>> nI 24).toInt8 else if i = 1 then (v >>> nI 16).toInt8 else if i = 2 then (v >>> nI 8).toInt8 else v.toInt8
def pby (v : Int32) (i : Nat) : Int8 := if i = 0 then (v >>> nI 8).toInt8 else v.toInt8
/-! ===== bytes with a size ===== -/
abbrev Bs : Type := Nat × (Nat → Int8)
/-- n bytes more -/
def bCat (b : Bs) (n : Nat) (f : Nat → Int8) : Bs := (b.1 + n, fun i => if i < b.1 then b.2 i else f (i - b.1))
theorem bCat_1 (b : Bs) (n : Nat) (f : Nat → Int8) : (bCat b n f).1 = b.1 + n := rfl
theorem bCat_lo {b : Bs} {n : Nat} {f : Nat → Int8} {i : Nat} (h : i < b.1) : (bCat b n f).2 i = b.2 i := if_pos h
theorem bCat_hi {b : Bs} {n : Nat} {f : Nat → Int8} {i : Nat} (h : ¬ i < b.1) : (bCat b n f).2 i = f (i - b.1) := if_neg h
theorem ite01 {c : Prop} [Decidable c] : ((if c then nI 1 else nI 0) = nI 0) ↔ ¬ c := by
  by_cases h : c
  · rw [if_pos h]
    exact ⟨fun e => absurd e (by decide), fun e => absurd h e⟩
  · rw [if_neg h]
    exact ⟨fun _ => h, fun _ => rfl⟩
theorem ite01n {c : Prop} [Decidable c] : ((if c then nI 0 else nI 1) = nI 0) ↔ c := by
  by_cases h : c
  · rw [if_pos h]
    exact ⟨fun _ => h, fun _ => rfl⟩
  · rw [if_neg h]
    exact ⟨fun e => absurd e (by decide), fun e => absurd e h⟩
theorem lgl (x y : Int64) : lg_cmp x y < nI 0 ↔ x < y := lg_cmp_lt x y
theorem lgg (x y : Int64) : nI 0 < lg_cmp x y ↔ y < x := lg_cmp_gt x y
theorem lge (x y : Int64) : lg_cmp x y = nI 0 ↔ x = y := lg_cmp_eq x y
theorem n64 (v : Int32) : v.toInt64 < lN 0 ↔ v < nI 0 := by
  rw [Int64.lt_iff_toInt_lt, Int32.lt_iff_toInt_lt, Int32.toInt_toInt64]
  exact Iff.rfl
theorem l_1 {n j : Nat} (hn : n < 2 ^ 62) (hj : j < 2 ^ 62) : lN n - lN 1 < lN j ↔ n ≤ j := by
  by_cases h : n = 0
  · subst h
    have : lN 0 - lN 1 < lN j := by
      rw [Int64.lt_iff_toInt_lt, pk_lT (by omega), show (lN 0 - lN 1).toInt = -1 from by decide]
      omega
    exact ⟨fun _ => Nat.zero_le _, fun _ => this⟩
  · rw [lN_sub (by omega), pk_lLT (by omega) (by omega)]
    omega
theorem in_eq (F : Nat) (w x y : Int64) (h : ck_H) : f_RM_in F w x y h = some (if w < x ∨ y < w then nI 0 else nI 1, h) := by
  unfold f_RM_in
  by_cases a : w < x
  · rw [if_pos ((lg_cmp_lt w x).2 a), if_pos (Or.inl a)]
    rfl
  · rw [if_neg (fun q => a ((lg_cmp_lt w x).1 q))]
    by_cases b : y < w
    · rw [if_pos ((lg_cmp_gt w y).2 b), if_pos (Or.inr b)]
      rfl
    · rw [if_neg (fun q => b ((lg_cmp_gt w y).1 q)), if_neg (fun q => q.elim a b)]
      rfl
/-- an int of a call: below 0, or a number -/
theorem ng (v : Int32) : v < nI 0 ∨ ∃ j, j < 2 ^ 31 ∧ v = nI j := by
  by_cases h : v < 0
  · exact Or.inl h
  · exact Or.inr (nI_of h)
