/-! A small machine of our own: the heap as numbers, references and longs by address and place; the methods' own code. -/
abbrev ck_L : Type := List (Option Value)
/-- (next address, slots made), (kind and length by address), ints, references, longs -/
abbrev ck_H : Type := (Nat × Nat) × (Nat → Nat × Nat) × (Nat → Nat → Int32) × (Nat → Nat → Option Nat) × (Nat → Nat → Int64)
def gn (h : ck_H) : Nat := h.1.1
def gu (h : ck_H) : Nat := h.1.2
def gk (h : ck_H) (a : Nat) : Nat := (h.2.1 a).1
def gz (h : ck_H) (a : Nat) : Nat := (h.2.1 a).2
def gI (h : ck_H) (a i : Nat) : Int32 := h.2.2.1 a i
def gR (h : ck_H) (a i : Nat) : Option Nat := h.2.2.2.1 a i
def gJ (h : ck_H) (a i : Nat) : Int64 := h.2.2.2.2 a i
def u2 {α : Type} (f : Nat → Nat → α) (a i : Nat) (x : α) : Nat → Nat → α := fun b j => if b = a ∧ j = i then x else f b j
def wI (h : ck_H) (a i : Nat) (x : Int32) : ck_H := (h.1, h.2.1, u2 h.2.2.1 a i x, h.2.2.2)
def wR (h : ck_H) (a i : Nat) (x : Option Nat) : ck_H := (h.1, h.2.1, h.2.2.1, u2 h.2.2.2.1 a i x, h.2.2.2.2)
def wJ (h : ck_H) (a i : Nat) (x : Int64) : ck_H := (h.1, h.2.1, h.2.2.1, h.2.2.2.1, u2 h.2.2.2.2 a i x)
def wN (h : ck_H) (k n : Nat) : ck_H := ((gn h + 1, gu h + n), va_up h.2.1 (gn h) (k, n), (fun b j => if b = gn h then 0 else h.2.2.1 b j), (fun b j => if b = gn h then none else h.2.2.2.1 b j), (fun b j => if b = gn h then 0 else h.2.2.2.2 b j))
def wC (h : ck_H) (a0 sp a dp n : Nat) : ck_H := (h.1, h.2.1, (fun b => if b = a then va_cpy (h.2.2.1 a0) (h.2.2.1 a) sp dp n else h.2.2.1 b), h.2.2.2)
def ck_fv (h : ck_H) (a k i : Nat) : Value := match ck_ft k i with
  | 0 => .int (gI h a i)
  | 1 => .int (gI h a i)
  | 2 => .long (gJ h a i)
  | _ => va_rf (gR h a i)
def ck_nl (ls : ck_L) (i : Nat) : Bool := match i with
  | 0 => true
  | j + 1 => match ls[j]? with
    | some (some v) => v.category == 1
    | _ => true
def ck_s1 (ls : ck_L) (i : Nat) (v : Value) : Option ck_L := if i < ls.length && ck_nl ls i then some (ls.set i (some v)) else none
def ck_s2 (ls : ck_L) (i : Nat) (v : Value) : Option ck_L := if i + 1 < ls.length && ck_nl ls i then some ((ls.set i (some v)).set (i + 1) none) else none
def ck_ent : List Value → ck_L
  | [] => []
  | v :: t => if v.category = 2 then some v :: none :: ck_ent t else some v :: ck_ent t
def ck_in (As : List Value) (n : Nat) : ck_L := ck_ent As ++ List.replicate (n - (ck_ent As).length) none
def ck_tg (pc : Nat) (off : Int) : Option Nat := match (pc : Int) + off with
  | .ofNat t => some t
  | .negSucc _ => none
abbrev ck_K : Type := ck_M → Nat → ck_L → List Value → ck_H → Option (Option Value × ck_H)
def ck_sum (r : List Value) : Nat := (r.map fun v => v.category).sum
def ck_jmp (k : ck_K) (m : ck_M) (pc : Nat) (off : Int) (ls : ck_L) (st : List Value) (h : ck_H) : Option (Option Value × ck_H) := match ck_tg pc off with
  | some t => k m t ls st h
  | none => none
def ck_b1 (k : ck_K) (m : ck_M) (pc : Nat) (off : Int) (ls : ck_L) (r : List Value) (h : ck_H) (c : Prop) [Decidable c] : Option (Option Value × ck_H) := match ck_tg pc off with
  | some t => if c then k m t ls r h else k m (pc + 3) ls r h
  | none => none
def ck_call (k : ck_K) (m : ck_M) (pc : Nat) (ls : ck_L) (h : ck_H) (y : ck_M) (As rest : List Value) : Option (Option Value × ck_H) :=
  if ck_sum rest ≤ 8 ∧ ck_fr y + 1 ≤ ck_fr m ∧ 8 + (ck_ml y + 11) + ck_lo y ≤ ck_lo m ∧ (ck_ent As).length ≤ ck_ml y then
    match k y 0 (ck_in As (ck_ml y)) [] h with
    | some (r, h1) => k m (pc + 3) ls (r.toList ++ rest) h1
    | none => none
  else none
def ck_ldi (k : ck_K) (m : ck_M) (pc : Nat) (ls : ck_L) (st : List Value) (h : ck_H) (i : Nat) : Option (Option Value × ck_H) := match ls[i]? with
  | some (some (.int x)) => k m pc ls (.int x :: st) h
  | _ => none
def ck_ldl (k : ck_K) (m : ck_M) (pc : Nat) (ls : ck_L) (st : List Value) (h : ck_H) (i : Nat) : Option (Option Value × ck_H) := match ls[i]? with
  | some (some (.long x)) => k m pc ls (.long x :: st) h
  | _ => none
def ck_lda (k : ck_K) (m : ck_M) (pc : Nat) (ls : ck_L) (st : List Value) (h : ck_H) (i : Nat) : Option (Option Value × ck_H) := match ls[i]? with
  | some (some (.ref x)) => k m pc ls (.ref x :: st) h
  | some (some .null) => k m pc ls (.null :: st) h
  | _ => none
def ck_sv (k : ck_K) (m : ck_M) (pc : Nat) (r : List Value) (h : ck_H) (l : Option ck_L) : Option (Option Value × ck_H) := match l with
  | some l => k m pc l r h
  | none => none
def ck_soi (k : ck_K) (m : ck_M) (pc : Nat) (ls : ck_L) (st : List Value) (h : ck_H) (i : Nat) : Option (Option Value × ck_H) := match st with
  | .int x :: r => ck_sv k m pc r h (ck_s1 ls i (.int x))
  | _ => none
def ck_sol (k : ck_K) (m : ck_M) (pc : Nat) (ls : ck_L) (st : List Value) (h : ck_H) (i : Nat) : Option (Option Value × ck_H) := match st with
  | .long x :: r => ck_sv k m pc r h (ck_s2 ls i (.long x))
  | _ => none
def ck_soa (k : ck_K) (m : ck_M) (pc : Nat) (ls : ck_L) (st : List Value) (h : ck_H) (i : Nat) : Option (Option Value × ck_H) := match st with
  | .ref x :: r => ck_sv k m pc r h (ck_s1 ls i (.ref x))
  | .null :: r => ck_sv k m pc r h (ck_s1 ls i .null)
  | _ => none
def ck_put (h : ck_H) (a c i : Nat) (v : Value) : Option ck_H := match ck_ft c i, v with
  | 0, .int x => some (wI h a i x)
  | 1, .int x => if x = 0 ∨ x = 1 then some (wI h a i x) else none
  | 2, .long x => some (wJ h a i x)
  | 3, .ref x => some (wR h a i (some x))
  | 3, .null => some (wR h a i none)
  | _, _ => none
def ck_ato (t : ArrayType) : Option Nat := match t with
  | .byte => some 13
  | .int => some 14
  | .boolean => some 15
  | _ => none
def ck_inv (k : ck_K) (m : ck_M) (pc : Nat) (ls : ck_L) (st : List Value) (h : ck_H) (e : Nat × Nat × ck_M) (how : Nat) : Option (Option Value × ck_H) :=
  match how, e.1 with
  | 0, 0 => if e.2.1 ≤ st.length then match st.drop e.2.1 with
      | .ref b :: rest => if gk h b = ck_ow e.2.2 ∧ ck_ow e.2.2 < 13 then ck_call k m pc ls h e.2.2 (.ref b :: (st.take e.2.1).reverse) rest else none
      | _ => none
    else none
  | 1, 1 => if e.2.1 ≤ st.length then ck_call k m pc ls h e.2.2 (st.take e.2.1).reverse (st.drop e.2.1) else none
  | 1, 8 => match st with
    | .int n :: .int dp :: .ref a :: .int sp :: .ref a0 :: rest =>
      if gk h a0 = gk h a ∧ (gk h a = 13 ∨ gk h a = 14) ∧ ¬ sp < 0 ∧ ¬ dp < 0 ∧ ¬ n < 0 ∧ sp.toNatClampNeg + n.toNatClampNeg ≤ gz h a0 ∧ dp.toNatClampNeg + n.toNatClampNeg ≤ gz h a ∧ 1 ≤ ck_fr m ∧ ck_sum rest + 18 ≤ ck_lo m then
        k m (pc + 3) ls rest (wC h a0 sp.toNatClampNeg a dp.toNatClampNeg n.toNatClampNeg) else none
    | _ => none
  | 2, 9 => match st with
    | .ref _ :: rest => if 1 ≤ ck_fr m ∧ ck_sum rest + 12 ≤ ck_lo m then k m (pc + 3) ls rest h else none
    | _ => none
  | 2, 2 => if e.2.1 ≤ st.length then match st.drop e.2.1 with
      | .ref b :: rest => ck_call k m pc ls h e.2.2 (.ref b :: (st.take e.2.1).reverse) rest
      | _ => none
    else none
  | 2, 3 => if e.2.1 ≤ st.length then match st.drop e.2.1 with
      | .ref b :: rest => ck_call k m pc ls h e.2.2 (.ref b :: (st.take e.2.1).reverse) rest
      | _ => none
    else none
  | _, _ => none
/-- what a method answers at a return -/
def ck_rv (m : ck_M) (st : List Value) : Instr → Option (Option Value)
  | .ireturn => match st, ck_rt m with
    | [.int v], some .int => some (some (.int v))
    | [.int v], some .boolean => if v = 0 ∨ v = 1 then some (some (.int v)) else none
    | _, _ => none
  | .lreturn => match st, ck_rt m with
    | [.long v], some .long => some (some (.long v))
    | _, _ => none
  | .areturn => match st, ck_rt m with
    | [.ref v], some (.object _) => some (some (.ref v))
    | [.null], some (.object _) => some (some .null)
    | _, _ => none
  | .return_ => match st, ck_rt m with
    | [], none => some none
    | _, _ => none
  | _ => none
def ck_i (k : ck_K) (m : ck_M) (pc : Nat) (ls : ck_L) (st : List Value) (h : ck_H) : Instr → Option (Option Value × ck_H)
  | .iconst n => k m (pc + 1) ls (.int (Int32.ofInt n) :: st) h
  | .bipush n => k m (pc + 2) ls (.int (Int8.ofInt n).toInt32 :: st) h
  | .sipush n => k m (pc + 3) ls (.int (Int16.ofInt n).toInt32 :: st) h
  | .lconst n => k m (pc + 1) ls (.long (Int64.ofNat (n : Nat)) :: st) h
  | .aconst_null => k m (pc + 1) ls (.null :: st) h
  | .ldc ix => match ck_lc (ck_ow m) ix with
    | some v => k m (pc + 2) ls (.int v :: st) h
    | none => none
  | .ldc2_w ix => match ck_l2 (ck_ow m) ix with
    | some v => k m (pc + 3) ls (.long v :: st) h
    | none => none
  | .iload i => ck_ldi k m (pc + 2) ls st h i
  | .iload_n i => ck_ldi k m (pc + 1) ls st h i
  | .lload i => ck_ldl k m (pc + 2) ls st h i
  | .lload_n i => ck_ldl k m (pc + 1) ls st h i
  | .aload i => ck_lda k m (pc + 2) ls st h i
  | .aload_n i => ck_lda k m (pc + 1) ls st h i
  | .istore i => ck_soi k m (pc + 2) ls st h i
  | .istore_n i => ck_soi k m (pc + 1) ls st h i
  | .lstore i => ck_sol k m (pc + 2) ls st h i
  | .astore i => ck_soa k m (pc + 2) ls st h i
  | .astore_n i => ck_soa k m (pc + 1) ls st h i
  | .iinc i n => match ls[i]? with
    | some (some (.int x)) => ck_sv k m (pc + 3) st h (ck_s1 ls i (.int (x + Int32.ofInt n)))
    | _ => none
  | .iadd => match st with
    | .int y :: .int x :: r => k m (pc + 1) ls (.int (x + y) :: r) h
    | _ => none
  | .isub => match st with
    | .int y :: .int x :: r => k m (pc + 1) ls (.int (x - y) :: r) h
    | _ => none
  | .imul => match st with
    | .int y :: .int x :: r => k m (pc + 1) ls (.int (x * y) :: r) h
    | _ => none
  | .idiv => match st with
    | .int y :: .int x :: r => if ¬ y = 0 then k m (pc + 1) ls (.int (x / y) :: r) h else none
    | _ => none
  | .irem => match st with
    | .int y :: .int x :: r => if ¬ y = 0 then k m (pc + 1) ls (.int (x - x / y * y) :: r) h else none
    | _ => none
  | .iand => match st with
    | .int y :: .int x :: r => k m (pc + 1) ls (.int (x &&& y) :: r) h
    | _ => none
  | .ior => match st with
    | .int y :: .int x :: r => k m (pc + 1) ls (.int (x ||| y) :: r) h
    | _ => none
  | .ishl => match st with
    | .int y :: .int x :: r => k m (pc + 1) ls (.int (x <<< (y &&& 31)) :: r) h
    | _ => none
  | .ishr => match st with
    | .int y :: .int x :: r => k m (pc + 1) ls (.int (x >>> (y &&& 31)) :: r) h
    | _ => none
  | .ineg => match st with
    | .int x :: r => k m (pc + 1) ls (.int (-x) :: r) h
    | _ => none
  | .i2l => match st with
    | .int x :: r => k m (pc + 1) ls (.long x.toInt64 :: r) h
    | _ => none
  | .l2i => match st with
    | .long x :: r => k m (pc + 1) ls (.int x.toInt32 :: r) h
    | _ => none
  | .i2b => match st with
    | .int x :: r => k m (pc + 1) ls (.int x.toInt8.toInt32 :: r) h
    | _ => none
  | .ladd => match st with
    | .long y :: .long x :: r => k m (pc + 1) ls (.long (x + y) :: r) h
    | _ => none
  | .lsub => match st with
    | .long y :: .long x :: r => k m (pc + 1) ls (.long (x - y) :: r) h
    | _ => none
  | .lmul => match st with
    | .long y :: .long x :: r => k m (pc + 1) ls (.long (x * y) :: r) h
    | _ => none
  | .lrem => match st with
    | .long y :: .long x :: r => if ¬ y = 0 then k m (pc + 1) ls (.long (x - x / y * y) :: r) h else none
    | _ => none
  | .lxor => match st with
    | .long y :: .long x :: r => k m (pc + 1) ls (.long (x ^^^ y) :: r) h
    | _ => none
  | .lcmp => match st with
    | .long y :: .long x :: r => k m (pc + 1) ls (.int (lg_cmp x y) :: r) h
    | _ => none
  | .dup => match st with
    | v :: r => if v.category = 1 then k m (pc + 1) ls (v :: v :: r) h else none
    | _ => none
  | .dup2 => match st with
    | v :: w :: r => if v.category = 1 ∧ w.category = 1 then k m (pc + 1) ls (v :: w :: v :: w :: r) h else none
    | _ => none
  | .goto off => ck_jmp k m pc off ls st h
  | .ifCond c off => match st with
    | .int x :: r => match c with
      | .eq => ck_b1 k m pc off ls r h (x = 0)
      | .ne => ck_b1 k m pc off ls r h (¬ x = 0)
      | .lt => ck_b1 k m pc off ls r h (x < 0)
      | .ge => ck_b1 k m pc off ls r h (0 ≤ x)
      | .gt => ck_b1 k m pc off ls r h (0 < x)
      | .le => ck_b1 k m pc off ls r h (x ≤ 0)
    | _ => none
  | .if_icmp c off => match st with
    | .int y :: .int x :: r => match c with
      | .eq => ck_b1 k m pc off ls r h (x = y)
      | .ne => ck_b1 k m pc off ls r h (¬ x = y)
      | .lt => ck_b1 k m pc off ls r h (x < y)
      | .ge => ck_b1 k m pc off ls r h (y ≤ x)
      | .gt => ck_b1 k m pc off ls r h (y < x)
      | .le => ck_b1 k m pc off ls r h (x ≤ y)
    | _ => none
  | .ifnull off => match st with
    | .null :: r => ck_jmp k m pc off ls r h
    | .ref _ :: r => k m (pc + 3) ls r h
    | _ => none
  | .ifnonnull off => match st with
    | .null :: r => k m (pc + 3) ls r h
    | .ref _ :: r => ck_jmp k m pc off ls r h
    | _ => none
  | .tableswitch d lo hi offs => match st with
    | .int x :: r => if x.toInt < lo ∨ hi < x.toInt then ck_jmp k m pc d ls r h else match offs[(x.toInt - lo).toNat]? with
      | some off => ck_jmp k m pc off ls r h
      | none => none
    | _ => none
  | .lookupswitch d ps => match st with
    | .int x :: r => if (ps.toList.zip (ps.toList.drop 1)).all (fun (a, next) => a.1 < next.1) = true then ck_jmp k m pc (Op.lookupswitch.offset ps.toList d x.toInt) ls r h else none
    | _ => none
  | .getfield ix => match st with
    | .ref a :: r => match ck_fl (ck_ow m) ix with
      | some (c, i, _) => if gk h a = c ∧ c < 13 ∧ i < ck_N c then k m (pc + 3) ls (ck_fv h a c i :: r) h else none
      | none => none
    | _ => none
  | .putfield ix => match st with
    | v :: .ref a :: r => match ck_fl (ck_ow m) ix with
      | some (c, i, false) => if gk h a = c ∧ c < 13 ∧ i < ck_N c ∧ (ck_fin c i = false ∨ ((ck_nm m).name = "<init>" ∧ c = ck_ow m)) then match ck_put h a c i v with
          | some h1 => k m (pc + 3) ls r h1
          | none => none
        else none
      | _ => none
    | _ => none
  | .iaload => match st with
    | .int j :: .ref a :: r => if (gk h a = 14 ∨ gk h a = 21) ∧ ¬ j < 0 ∧ j.toNatClampNeg < gz h a then k m (pc + 1) ls (.int (gI h a j.toNatClampNeg) :: r) h else none
    | _ => none
  | .baload => match st with
    | .int j :: .ref a :: r => if (gk h a = 13 ∨ gk h a = 15) ∧ ¬ j < 0 ∧ j.toNatClampNeg < gz h a then k m (pc + 1) ls (.int (gI h a j.toNatClampNeg) :: r) h else none
    | _ => none
  | .aaload => match st with
    | .int j :: .ref a :: r => if (16 ≤ gk h a ∧ gk h a ≤ 20) ∧ ¬ j < 0 ∧ j.toNatClampNeg < gz h a then k m (pc + 1) ls (va_rf (gR h a j.toNatClampNeg) :: r) h else none
    | _ => none
  | .iastore => match st with
    | .int x :: .int j :: .ref a :: r => if gk h a = 14 ∧ ¬ j < 0 ∧ j.toNatClampNeg < gz h a then k m (pc + 1) ls r (wI h a j.toNatClampNeg x) else none
    | _ => none
  | .bastore => match st with
    | .int x :: .int j :: .ref a :: r => if gk h a = 13 ∧ ¬ j < 0 ∧ j.toNatClampNeg < gz h a then k m (pc + 1) ls r (wI h a j.toNatClampNeg x.toInt8.toInt32)
      else if gk h a = 15 ∧ (x = 0 ∨ x = 1) ∧ ¬ j < 0 ∧ j.toNatClampNeg < gz h a then k m (pc + 1) ls r (wI h a j.toNatClampNeg x) else none
    | _ => none
  | .aastore => match st with
    | .ref v :: .int j :: .ref a :: r => if gk h v < 13 ∧ ck_ka (gk h a) = some (gk h v) ∧ ¬ j < 0 ∧ j.toNatClampNeg < gz h a then k m (pc + 1) ls r (wR h a j.toNatClampNeg (some v)) else none
    | _ => none
  | .arraylength => match st with
    | .ref a :: r => if 13 ≤ gk h a ∧ gk h a ≤ 21 then k m (pc + 1) ls (.int (Int32.ofNat (gz h a)) :: r) h else none
    | _ => none
  | .new ix => match ck_cr (ck_ow m) ix with
    | some c => if c < 13 then k m (pc + 3) ls (.ref (gn h) :: st) (wN h c (ck_N c)) else none
    | none => none
  | .newarray t => match st, ck_ato t with
    | .int n :: r, some c => if ¬ n < 0 ∧ n.toNatClampNeg * 4 ≤ 536870912 then k m (pc + 2) ls (.ref (gn h) :: r) (wN h c n.toNatClampNeg) else none
    | _, _ => none
  | .anewarray ix => match st, (ck_cr (ck_ow m) ix).bind ck_ak with
    | .int n :: r, some c => if ¬ n < 0 ∧ n.toNatClampNeg * 4 ≤ 536870912 then k m (pc + 3) ls (.ref (gn h) :: r) (wN h c n.toNatClampNeg) else none
    | _, _ => none
  | .invokevirtual ix => match ck_mr (ck_ow m) ix with
    | some e => ck_inv k m pc ls st h e 0
    | none => none
  | .invokestatic ix => match ck_mr (ck_ow m) ix with
    | some e => ck_inv k m pc ls st h e 1
    | none => none
  | .invokespecial ix => match ck_mr (ck_ow m) ix with
    | some e => ck_inv k m pc ls st h e 2
    | none => none
  | .ireturn => (ck_rv m st .ireturn).map (fun r => (r, h))
  | .lreturn => (ck_rv m st .lreturn).map (fun r => (r, h))
  | .areturn => (ck_rv m st .areturn).map (fun r => (r, h))
  | .return_ => (ck_rv m st .return_).map (fun r => (r, h))
  | _ => none
/-- the machine itself: at most f steps -/
def ck_x : Nat → ck_K
  | 0, _, _, _, _, _ => none
  | f + 1, m, pc, ls, st, h => match (ck_cd m).lookup pc with
    | some i => ck_i (ck_x f) m pc ls st h i
    | none => none
