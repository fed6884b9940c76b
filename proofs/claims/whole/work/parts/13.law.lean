/-! THE CLAIM OUT OF ONE WALK OF THE LAW'S BODY. Your part is whole_start (and what it stands on); all else here is the same for every law, but numbers. -/
def R_law : String := "CountKeyStoreLaw"
def lw_P (b : Addr) (xs : List Int32) (args : Array Value) (s : State) : Prop := args = #[.ref b] ∧ s.IntsAt b xs ∧ xs.length ≤ 3072 ∧ (Jvm.Cond.and given_1 narrow_1).before args s = true
def lw_Q (_ : Array Value) (s : State) (o : Outcome) (t : State) : Prop := o = .returned (some (.int 1)) ∧ Framed s o t [] 600000 7302250
def lw_Z (below : List Frame) (a : Array Value) (s : State) : State → Prop := fun t => ∃ o, t.status = .running ∧ Ended t below o ∧ lw_Q a s o t
/-- the law's own end, with 1 on the stack, nothing written that was there before, its room as the claim has it -/
theorem lw_ret {p : Program} {l : Launch} {e : Env} {s : State} {m : MethodId} {below : List Frame} {meth : Method} {c : Code} {b : Nat} (hx : p.tables.exec = Jvm.exec) (hb : c.code = code) (hr : meth.sig.returnType = ret) (hlocks : meth.locks = false) {pc : Nat} {H : Heap} {ls : Array Slot} (hdg : decode code pc = .ok (.ireturn, 1)) : W p l e room_1 s m #[Value.ref b] below meth c H [] 600000 7302250 (lw_Z below #[Value.ref b] s) (F0 m pc ls [.int 1]) := by
  intro T hT X
  obtain ⟨fs, hret, hrun, hended, hW, hframe⟩ := X.leave (v := some (.int 1)) (hlocks := hlocks) (fun h => by rw [hr] at h; cases h)
  have hmeth' : T.vm.method? m = some meth := X.method'
  refine ⟨T.setFrames fs, ?_, .returned (some (.int 1)), hrun, hended, rfl, ⟨_, rfl⟩, hW, hframe⟩
  jvm_step X.here [X.here.top, hx, hb, hdg, hmeth', hr, ret, narrow_b1]
  (try refine ⟨rfl, ?_⟩); (try refine ⟨rfl, ?_⟩)
  first | (intro acts; rw [hret _ acts rfl rfl rfl]) | rw [hret _ _ rfl rfl rfl]
  exact Steps.refl _
/-- what holds at the law's entry: the machine, the code, the tables' words (any of lw_tbl by 'hts w (by decide +kernel)'), the script of L ints xs at the cell b, what the Statement gives of the start (any of its parts by flat_of_before) -/
def lw_At (p : Program) (s : State) (m : MethodId) (meth : Method) (c : Code) (b L : Nat) (xs : Nat → Int32) : Prop :=
  p.tables.exec = Jvm.exec ∧ c.code = code ∧ meth.sig.returnType = ret ∧ c.maxLocals = 4 ∧ s.vm.findClass R_law = some m.cls ∧ (∀ w ∈ lw_tbl, w.before #[Value.ref b] s = true) ∧ va_X b L xs s s.heap ∧ b < s.heap.size ∧ meth.locks = false ∧ (Jvm.Cond.and given_1 narrow_1).before #[Value.ref b] s = true

def ck_tl : List FieldType := [.byte, .int, .boolean, .object (ck_on 1), .object (ck_on 2), .object (ck_on 5), .object (ck_on 8), .object (ck_on 9)]
theorem ck_arrP {s : State} {args : Array Value} {ty : FieldType} (h : (Cond.arrayClass ty).before args s = true) (hp : ∀ C, ty ≠ .object C) : ∃ cA : ClassId, ArrOfT s cA ty ∧ va_RA s cA ty := by
  obtain ⟨cA, kA, comp, h1, h2, h3⟩ := Cond.arrayClass_spec h
  refine ⟨cA, fun n z => ⟨(fun k h => by cases h), kA, h2, comp, h3⟩, ?_⟩
  cases ty with
  | object C => exact absurd rfl (hp C)
  | _ => exact h1
theorem ck_arrO {s : State} {args : Array Value} {C : String} (h : (Cond.arrayOver (.object C)).before args s = true) : ∃ cA : ClassId, ArrOfT s cA (.object C) ∧ va_RA s cA (.object C) := by
  obtain ⟨comp, cA, kA, h0, -, h2, h3, h4⟩ := Cond.arrayOver_spec h
  exact ⟨cA, fun n z => ⟨(fun k h => by cases h), kA, h2, comp, h3⟩, kA, comp, h2, h3, h0, h4⟩
theorem ck_arrs {s : State} {args : Array Value} (hts : ∀ w ∈ lw_tbl, w.before args s = true) : ∀ j : Nat, ∃ cA : ClassId, ∀ ty, ck_tl[j]? = some ty → ArrOfT s cA ty ∧ va_RA s cA ty := by
  intro j
  have key : ∀ ty, ck_tl[j]? = some ty → ∃ cA : ClassId, ArrOfT s cA ty ∧ va_RA s cA ty := by
    intro ty h
    match j, h with
    | 0, h => cases h; exact ck_arrP (hts _ ck_ac_byte.1) (fun C h => by cases h)
    | 1, h => cases h; exact ck_arrP (hts _ ck_ac_int.1) (fun C h => by cases h)
    | 2, h => cases h; exact ck_arrP (hts _ ck_ac_boolean.1) (fun C h => by cases h)
    | 3, h => cases h; exact ck_arrO (hts _ (ck_ao 1 _ rfl))
    | 4, h => cases h; exact ck_arrO (hts _ (ck_ao 2 _ rfl))
    | 5, h => cases h; exact ck_arrO (hts _ (ck_ao 5 _ rfl))
    | 6, h => cases h; exact ck_arrO (hts _ (ck_ao 8 _ rfl))
    | 7, h => cases h; exact ck_arrO (hts _ (ck_ao 9 _ rfl))
    | n + 8, h => simp [ck_tl] at h
  cases hj : ck_tl[j]? with
  | none => exact ⟨0, fun ty h => by cases h⟩
  | some ty =>
    obtain ⟨cA, h⟩ := key ty hj
    exact ⟨cA, fun t ht => by cases ht; exact h⟩
theorem ck_clss {s : State} {args : Array Value} (hts : ∀ w ∈ lw_tbl, w.before args s = true) : ∀ c : Nat, ∃ q : ClassId × (Nat → Nat), c < 13 → u_Kn s (ck_on c) (ck_T c) (ck_N c) q.1 q.2 := by
  intro c
  by_cases hc : c < 13
  · obtain ⟨cC, iS, h⟩ := u_known (ws := ck_g) (args := args) (fun w hw => hts w (ck_gof hw).1) (ck_cp.gin hc) (hts _ (ck_cp c hc).2.2.2.2.1.1)
    exact ⟨(cC, iS), fun _ => h⟩
  · exact ⟨(0, fun n => n), fun h => absurd h hc⟩
theorem ck_E_ex {s : State} {args : Array Value} (hts : ∀ w ∈ lw_tbl, w.before args s = true) : ∃ (D : va_G) (cy : Nat → ClassId), ck_E D cy s := by
  refine ⟨(fun c => (Classical.choose (ck_clss hts c)).1, fun c => (Classical.choose (ck_clss hts c)).2), fun j => Classical.choose (ck_arrs hts j), ⟨fun c q hq => ?_, fun k q hk => ?_⟩, fun w hw => ?_, fun w hw => ?_, fun c k hk => va_AO.of (hts _ (ck_ao c k hk))⟩
  · have hc : c < 13 := (List.getElem?_eq_some_iff.mp hq).1
    have e := hq.symm.trans (ck_cp c hc).1
    cases e
    exact Classical.choose_spec (ck_clss hts c) hc
  · have e : ∃ ty, ck_tl[k]? = some ty ∧ q = (Classical.choose (ck_arrs hts k), ty) := by
      match k, hk with
      | 0, hk => cases hk; exact ⟨_, rfl, rfl⟩
      | 1, hk => cases hk; exact ⟨_, rfl, rfl⟩
      | 2, hk => cases hk; exact ⟨_, rfl, rfl⟩
      | 3, hk => cases hk; exact ⟨_, rfl, rfl⟩
      | 4, hk => cases hk; exact ⟨_, rfl, rfl⟩
      | 5, hk => cases hk; exact ⟨_, rfl, rfl⟩
      | 6, hk => cases hk; exact ⟨_, rfl, rfl⟩
      | 7, hk => cases hk; exact ⟨_, rfl, rfl⟩
      | n + 8, hk => simp [ck_tys] at hk
    obtain ⟨ty, h1, rfl⟩ := e
    exact Classical.choose_spec (ck_arrs hts k) ty h1
  · have h1 := hts w (ck_nF_in w hw)
    simp only [ck_nF, List.mem_cons, List.not_mem_nil, or_false] at hw
    rcases hw with rfl | rfl | rfl | rfl <;> exact va_Nw.of rfl h1
  · have h1 := hts w (ck_nM_in w hw)
    simp only [ck_nM, List.mem_cons, List.not_mem_nil, or_false] at hw
    rcases hw with rfl | rfl | rfl | rfl | rfl | rfl | rfl | rfl <;> exact va_Nw.of rfl h1
/-- the heap at the law's entry: the script alone -/
def ck_h0 (n b L : Nat) (xs : Nat → Int32) : ck_H := ((n, 0), (fun a => if a = b then (21, L) else (22, 0)), (fun a i => if a = b then xs i else 0), (fun _ _ => none), (fun _ _ => 0))
theorem ck_h0_k (n b L : Nat) (xs : Nat → Int32) (a : Nat) : gk (ck_h0 n b L xs) a = if a = b then 21 else 22 := by
  simp only [gk, ck_h0]
  split <;> rfl
set_option maxHeartbeats 1000000 in
/-- where the small machine answers 1 to the law within the room, the law's walk stands -/
theorem ck_whole {p : Program} {e : Env} {s : State} {m : MethodId} {below : List Frame} {meth : Method} {c : Code} (l : Launch) {b L : Nat} {xs : Nat → Int32} (C0 : lw_At p s m meth c b L xs) {f : Nat} {h' : ck_H} (hx : ck_x f k_Lw_law 0 (ck_in [.ref b] 4) [] (ck_h0 s.heap.size b L xs) = some (some (.int 1), h')) (h1 : gn h' ≤ s.heap.size + 600000) (h2 : gu h' ≤ 7302250) : W p l e room_1 s m #[Value.ref b] below meth c s.heap [] 0 0 (lw_Z below #[Value.ref b] s) (entryFrame m ([Value.ref b] : List Value).toArray 4) := by
  obtain ⟨c1, c2, c3, c4, c5, c6, c7, c8, c9, c10⟩ := C0
  obtain ⟨D, cy, hE⟩ := ck_E_ex c6
  obtain ⟨s1, s2, s3⟩ := ck_sim f _ _ _ _ _ _ _ hx
  have e1 : gn (ck_h0 s.heap.size b L xs) = s.heap.size := rfl
  have e2 : gu (ck_h0 s.heap.size b L xs) = 0 := rfl
  rw [e1] at s1 s3
  rw [e2] at s2 s3
  have C : ck_C p room_1 s m #[Value.ref b] meth c k_Lw_law s.heap.size b L xs D cy :=
    ⟨c1, c2, c4, c3, c5, fun w hw => c6 w hw.1, hE, c9, fun hn => absurd hn (by decide), rfl, rfl, Nat.le_refl _, c7, c8, k_Lw_law_d⟩
  have hH : ck_HR s.heap.size b L xs D cy (ck_h0 s.heap.size b L xs) s.heap := by
    refine ⟨rfl, Nat.le_refl _, fun a ha => ?_, fun a i ha => ?_, by rw [ck_h0_k, if_pos rfl], by simp [gz, ck_h0], fun i hi => by simp [gI, ck_h0], fun a ha => ?_⟩
    · rw [ck_h0_k] at ha; split at ha <;> omega
    · rw [ck_h0_k] at ha; split at ha <;> omega
    · rw [ck_h0_k] at ha
      split at ha
      · assumption
      · omega
  rw [lg_entry_eq]
  refine W.widen (k := 600000 - (gn h' - s.heap.size)) (n := 7302250 - gu h') (Nat.zero_le _) (Nat.zero_le _) ?_
  refine s3 p l e room_1 s m #[Value.ref b] below meth c s.heap.size b L xs D cy s.heap [] _ _ _ _ C (ck_LR.entry [.ref b] (show 1 ≤ 4 by omega)) hH va_S.rf (by show _ = 600000; omega) (by show _ = 7302250; omega) ?_
  intro H locs pc lsM st i hi hrv hH2 hS2
  have hst : st = [.int 1] ∧ i = .ireturn := by
    cases i <;> simp only [ck_rv] at hrv <;> try (cases hrv; done)
    · split at hrv <;> cases hrv
    · split at hrv
      · cases hrv; exact ⟨rfl, rfl⟩
      · split at hrv
        · cases hrv; exact ⟨rfl, rfl⟩
        · cases hrv
      · cases hrv
    · split at hrv <;> cases hrv
    · split at hrv <;> cases hrv
  obtain ⟨rfl, rfl⟩ := hst
  refine va_forget (fun q hq => hS2.2.2 q hq) ?_
  exact lw_ret c1 c2 c3 c9 (C.dec hi rfl)
