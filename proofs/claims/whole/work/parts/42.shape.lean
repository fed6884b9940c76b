/-! ===== the static shape ===== -/
def ta (T : Nat) : Nat := if T < 80 then 12 + 2 * T else if T < 160 then 14 + 2 * T else 376
def ua (u : Nat) : Nat := 10 + 162 * u
def sa (d : Nat) : Nat := 378 + 9 * d
def oa (q : Nat) : Nat := 468 + 7 * q

def ShC_obj (h : ck_H) : Prop := gk h 0 = 11 ∧ gR h 0 0 = some 1 ∧ gR h 0 1 = some 3 ∧ gR h 0 2 = some 5 ∧ gR h 0 3 = some 7 ∧ gR h 0 4 = some 8 ∧ gR h 0 5 = some 334 ∧ gR h 0 6 = some 369 ∧ gR h 0 7 = some 9
def ShC_buf (h : ck_H) : Prop := Row h 1
def ShC_got (h : ck_H) : Prop := Row h 3
def ShC_work (h : ck_H) : Prop := Row h 5
def ShC_line (h : ck_H) : Prop := Row h 374
def ShC_blk (h : ck_H) : Prop := (∀ q, q < 4 → Row h (oa q + 2))
def ShC_name (h : ck_H) : Prop := gk h 7 = 13 ∧ gz h 7 = 8
def ShC_units (h : ck_H) : Prop := gk h 8 = 20 ∧ gz h 8 = 2
def ShC_uref (h : ck_H) : Prop := (∀ u, u < 2 → gR h 8 u = some (ua u))
def ShC_unit (h : ck_H) : Prop := (∀ u, u < 2 → gk h (ua u) = 9 ∧ gR h (ua u) 0 = some (ua u + 1) ∧ gk h (ua u + 1) = 19 ∧ gz h (ua u + 1) = 80)
def ShC_tref (h : ck_H) : Prop := (∀ t, t < 80 → gR h 11 t = some (ta t) ∧ gR h 173 t = some (ta (80 + t)))
def ShC_trk (h : ck_H) : Prop := (∀ T, T < 161 → gk h (ta T) = 8 ∧ gR h (ta T) 1 = some (ta T + 1) ∧ gk h (ta T + 1) = 14 ∧ gz h (ta T + 1) = 50)
def ShC_chan (h : ck_H) : Prop := gk h 334 = 0 ∧ gR h 334 0 = some 335 ∧ gR h 334 1 = some 336 ∧ gk h 335 = 13 ∧ gz h 335 = 2048 ∧ gk h 336 = 16 ∧ gz h 336 = 32
def ShC_cmd (h : ck_H) : Prop := (∀ i, i < 32 → gR h 336 i = some (337 + i) ∧ gk h (337 + i) = 1)
def ShC_vol (h : ck_H) : Prop := gk h 369 = 10 ∧ gR h 369 0 = some 10 ∧ gR h 369 1 = some 370 ∧ gR h 369 2 = some 371 ∧ gR h 369 3 = some 372 ∧ gR h 369 4 = some 373 ∧ gR h 369 5 = some 374 ∧ gR h 369 6 = some 376 ∧ gk h 370 = 17 ∧ gz h 370 = 10 ∧ gk h 371 = 15 ∧ gz h 371 = 80 ∧ gk h 372 = 14 ∧ gz h 372 = 4 ∧ gk h 373 = 14 ∧ gz h 373 = 4
def ShC_set (h : ck_H) : Prop := (∀ d, d < 10 → gR h 370 d = some (sa d) ∧ gk h (sa d) = 2 ∧ gR h (sa d) 0 = some 10 ∧ gR h (sa d) 1 = some (sa d + 1) ∧ gR h (sa d) 2 = some (sa d + 2) ∧ gR h (sa d) 3 = some (sa d + 3) ∧ gR h (sa d) 4 = some (sa d + 4) ∧ gk h (sa d + 1) = 13 ∧ gz h (sa d + 1) = 8 ∧ gk h (sa d + 2) = 14 ∧ gz h (sa d + 2) = 4 ∧ gk h (sa d + 3) = 14 ∧ gz h (sa d + 3) = 4)
def ShC_mem (h : ck_H) : Prop := (∀ d, d < 10 → gk h (sa d + 4) = 4 ∧ gR h (sa d + 4) 0 = some (sa d + 5) ∧ gR h (sa d + 4) 1 = some (sa d + 6) ∧ gR h (sa d + 4) 2 = some (sa d + 7) ∧ gR h (sa d + 4) 3 = some (sa d + 8) ∧ gk h (sa d + 5) = 13 ∧ gz h (sa d + 5) = 320 ∧ gk h (sa d + 6) = 14 ∧ gz h (sa d + 6) = 40 ∧ gk h (sa d + 7) = 14 ∧ gz h (sa d + 7) = 40 ∧ gk h (sa d + 8) = 14 ∧ gz h (sa d + 8) = 40)
def ShC_hnds (h : ck_H) : Prop := gk h 9 = 18 ∧ gz h 9 = 4
def ShC_hnd (h : ck_H) : Prop := (∀ q, q < 4 → gR h 9 q = some (oa q) ∧ gk h (oa q) = 5 ∧ gR h (oa q) 0 = some (oa q + 1) ∧ gR h (oa q) 1 = some (oa q + 4) ∧ gR h (oa q) 2 = some (oa q + 5) ∧ gR h (oa q) 3 = some (oa q + 6) ∧ gk h (oa q + 1) = 3 ∧ gR h (oa q + 1) 0 = some (oa q + 2) ∧ gk h (oa q + 4) = 7 ∧ gk h (oa q + 5) = 7 ∧ gk h (oa q + 6) = 7)
def ShC (h : ck_H) : Prop := ShC_obj h ∧ ShC_buf h ∧ ShC_got h ∧ ShC_work h ∧ ShC_line h ∧ ShC_blk h ∧ ShC_name h ∧ ShC_units h ∧ ShC_uref h ∧ ShC_unit h ∧ ShC_tref h ∧ ShC_trk h ∧ ShC_chan h ∧ ShC_cmd h ∧ ShC_vol h ∧ ShC_set h ∧ ShC_mem h ∧ ShC_hnds h ∧ ShC_hnd h
theorem ShC.obj {h : ck_H} (S : ShC h) : gk h 0 = 11 ∧ gR h 0 0 = some 1 ∧ gR h 0 1 = some 3 ∧ gR h 0 2 = some 5 ∧ gR h 0 3 = some 7 ∧ gR h 0 4 = some 8 ∧ gR h 0 5 = some 334 ∧ gR h 0 6 = some 369 ∧ gR h 0 7 = some 9 := S.1
theorem ShC.buf {h : ck_H} (S : ShC h) : Row h 1 := S.2.1
theorem ShC.got {h : ck_H} (S : ShC h) : Row h 3 := S.2.2.1
theorem ShC.work {h : ck_H} (S : ShC h) : Row h 5 := S.2.2.2.1
theorem ShC.line {h : ck_H} (S : ShC h) : Row h 374 := S.2.2.2.2.1
theorem ShC.blk {h : ck_H} (S : ShC h) {q : Nat} (i0 : q < 4) : Row h (oa q + 2) := S.2.2.2.2.2.1 _ i0
theorem ShC.name {h : ck_H} (S : ShC h) : gk h 7 = 13 ∧ gz h 7 = 8 := S.2.2.2.2.2.2.1
theorem ShC.units {h : ck_H} (S : ShC h) : gk h 8 = 20 ∧ gz h 8 = 2 := S.2.2.2.2.2.2.2.1
theorem ShC.uref {h : ck_H} (S : ShC h) {u : Nat} (i0 : u < 2) : gR h 8 u = some (ua u) := S.2.2.2.2.2.2.2.2.1 _ i0
theorem ShC.unit {h : ck_H} (S : ShC h) {u : Nat} (i0 : u < 2) : gk h (ua u) = 9 ∧ gR h (ua u) 0 = some (ua u + 1) ∧ gk h (ua u + 1) = 19 ∧ gz h (ua u + 1) = 80 := S.2.2.2.2.2.2.2.2.2.1 _ i0
theorem ShC.tref {h : ck_H} (S : ShC h) {t : Nat} (i0 : t < 80) : gR h 11 t = some (ta t) ∧ gR h 173 t = some (ta (80 + t)) := S.2.2.2.2.2.2.2.2.2.2.1 _ i0
theorem ShC.trk {h : ck_H} (S : ShC h) {T : Nat} (i0 : T < 161) : gk h (ta T) = 8 ∧ gR h (ta T) 1 = some (ta T + 1) ∧ gk h (ta T + 1) = 14 ∧ gz h (ta T + 1) = 50 := S.2.2.2.2.2.2.2.2.2.2.2.1 _ i0
theorem ShC.chan {h : ck_H} (S : ShC h) : gk h 334 = 0 ∧ gR h 334 0 = some 335 ∧ gR h 334 1 = some 336 ∧ gk h 335 = 13 ∧ gz h 335 = 2048 ∧ gk h 336 = 16 ∧ gz h 336 = 32 := S.2.2.2.2.2.2.2.2.2.2.2.2.1
theorem ShC.cmd {h : ck_H} (S : ShC h) {i : Nat} (i0 : i < 32) : gR h 336 i = some (337 + i) ∧ gk h (337 + i) = 1 := S.2.2.2.2.2.2.2.2.2.2.2.2.2.1 _ i0
theorem ShC.vol {h : ck_H} (S : ShC h) : gk h 369 = 10 ∧ gR h 369 0 = some 10 ∧ gR h 369 1 = some 370 ∧ gR h 369 2 = some 371 ∧ gR h 369 3 = some 372 ∧ gR h 369 4 = some 373 ∧ gR h 369 5 = some 374 ∧ gR h 369 6 = some 376 ∧ gk h 370 = 17 ∧ gz h 370 = 10 ∧ gk h 371 = 15 ∧ gz h 371 = 80 ∧ gk h 372 = 14 ∧ gz h 372 = 4 ∧ gk h 373 = 14 ∧ gz h 373 = 4 := S.2.2.2.2.2.2.2.2.2.2.2.2.2.2.1
theorem ShC.set {h : ck_H} (S : ShC h) {d : Nat} (i0 : d < 10) : gR h 370 d = some (sa d) ∧ gk h (sa d) = 2 ∧ gR h (sa d) 0 = some 10 ∧ gR h (sa d) 1 = some (sa d + 1) ∧ gR h (sa d) 2 = some (sa d + 2) ∧ gR h (sa d) 3 = some (sa d + 3) ∧ gR h (sa d) 4 = some (sa d + 4) ∧ gk h (sa d + 1) = 13 ∧ gz h (sa d + 1) = 8 ∧ gk h (sa d + 2) = 14 ∧ gz h (sa d + 2) = 4 ∧ gk h (sa d + 3) = 14 ∧ gz h (sa d + 3) = 4 := S.2.2.2.2.2.2.2.2.2.2.2.2.2.2.2.1 _ i0
theorem ShC.mem {h : ck_H} (S : ShC h) {d : Nat} (i0 : d < 10) : gk h (sa d + 4) = 4 ∧ gR h (sa d + 4) 0 = some (sa d + 5) ∧ gR h (sa d + 4) 1 = some (sa d + 6) ∧ gR h (sa d + 4) 2 = some (sa d + 7) ∧ gR h (sa d + 4) 3 = some (sa d + 8) ∧ gk h (sa d + 5) = 13 ∧ gz h (sa d + 5) = 320 ∧ gk h (sa d + 6) = 14 ∧ gz h (sa d + 6) = 40 ∧ gk h (sa d + 7) = 14 ∧ gz h (sa d + 7) = 40 ∧ gk h (sa d + 8) = 14 ∧ gz h (sa d + 8) = 40 := S.2.2.2.2.2.2.2.2.2.2.2.2.2.2.2.2.1 _ i0
theorem ShC.hnds {h : ck_H} (S : ShC h) : gk h 9 = 18 ∧ gz h 9 = 4 := S.2.2.2.2.2.2.2.2.2.2.2.2.2.2.2.2.2.1
theorem ShC.hnd {h : ck_H} (S : ShC h) {q : Nat} (i0 : q < 4) : gR h 9 q = some (oa q) ∧ gk h (oa q) = 5 ∧ gR h (oa q) 0 = some (oa q + 1) ∧ gR h (oa q) 1 = some (oa q + 4) ∧ gR h (oa q) 2 = some (oa q + 5) ∧ gR h (oa q) 3 = some (oa q + 6) ∧ gk h (oa q + 1) = 3 ∧ gR h (oa q + 1) 0 = some (oa q + 2) ∧ gk h (oa q + 4) = 7 ∧ gk h (oa q + 5) = 7 ∧ gk h (oa q + 6) = 7 := S.2.2.2.2.2.2.2.2.2.2.2.2.2.2.2.2.2.2 _ i0
theorem ShC.ch {W : Wd} {h h' : ck_H} (S : ShC h) (c : Ch W h h') : ShC h' := by
  simpa only [ShC, ShC_obj, ShC_buf, ShC_got, ShC_work, ShC_line, ShC_blk, ShC_name, ShC_units, ShC_uref, ShC_unit, ShC_tref, ShC_trk, ShC_chan, ShC_cmd, ShC_vol, ShC_set, ShC_mem, ShC_hnds, ShC_hnd, Row, c.gk, c.gz, c.gR] using S
theorem ck_hB_obj : ShC_obj ck_hB := by simp only [ShC_obj, Row]; decide +kernel
theorem ck_hB_buf : ShC_buf ck_hB := by simp only [ShC_buf, Row]; decide +kernel
theorem ck_hB_got : ShC_got ck_hB := by simp only [ShC_got, Row]; decide +kernel
theorem ck_hB_work : ShC_work ck_hB := by simp only [ShC_work, Row]; decide +kernel
theorem ck_hB_line : ShC_line ck_hB := by simp only [ShC_line, Row]; decide +kernel
theorem ck_hB_blk : ShC_blk ck_hB := by simp only [ShC_blk, Row]; decide +kernel
theorem ck_hB_name : ShC_name ck_hB := by simp only [ShC_name, Row]; decide +kernel
theorem ck_hB_units : ShC_units ck_hB := by simp only [ShC_units, Row]; decide +kernel
theorem ck_hB_uref : ShC_uref ck_hB := by simp only [ShC_uref, Row]; decide +kernel
theorem ck_hB_unit : ShC_unit ck_hB := by simp only [ShC_unit, Row]; decide +kernel
theorem ck_hB_tref : ShC_tref ck_hB := by simp only [ShC_tref, Row]; decide +kernel
theorem ck_hB_trk : ShC_trk ck_hB := by unfold ShC_trk; decide +kernel
theorem ck_hB_chan : ShC_chan ck_hB := by simp only [ShC_chan, Row]; decide +kernel
theorem ck_hB_cmd : ShC_cmd ck_hB := by simp only [ShC_cmd, Row]; decide +kernel
theorem ck_hB_vol : ShC_vol ck_hB := by simp only [ShC_vol, Row]; decide +kernel
theorem ck_hB_set : ShC_set ck_hB := by simp only [ShC_set, Row]; decide +kernel
theorem ck_hB_mem : ShC_mem ck_hB := by simp only [ShC_mem, Row]; decide +kernel
theorem ck_hB_hnds : ShC_hnds ck_hB := by simp only [ShC_hnds, Row]; decide +kernel
theorem ck_hB_hnd : ShC_hnd ck_hB := by simp only [ShC_hnd, Row]; decide +kernel
theorem ck_hB_ShC : ShC ck_hB := ⟨ck_hB_obj, ck_hB_buf, ck_hB_got, ck_hB_work, ck_hB_line, ck_hB_blk, ck_hB_name, ck_hB_units, ck_hB_uref, ck_hB_unit, ck_hB_tref, ck_hB_trk, ck_hB_chan, ck_hB_cmd, ck_hB_vol, ck_hB_set, ck_hB_mem, ck_hB_hnds, ck_hB_hnd⟩
/-! the reference: field, address, kind and size of its arrays -/
def rt : List (Nat × Nat × Nat) := [(0, 13, 240000), (1, 14, 160), (2, 14, 8000), (3, 14, 8000), (4, 14, 8000), (5, 14, 8000), (6, 14, 8000), (7, 14, 8000), (8, 15, 8000), (9, 13, 1200), (10, 13, 1200), (14, 13, 2048), (15, 14, 32), (16, 14, 32), (17, 14, 32), (18, 14, 32), (19, 14, 2), (20, 14, 2), (32, 15, 10), (33, 13, 80), (34, 13, 8), (35, 14, 10), (36, 14, 10), (37, 14, 10), (38, 14, 10), (39, 14, 40), (40, 14, 40), (41, 13, 3200), (42, 14, 400), (43, 14, 400), (44, 14, 400), (45, 14, 10), (46, 14, 5), (47, 14, 5), (49, 15, 4), (50, 14, 4), (51, 14, 4), (52, 14, 4), (53, 13, 4800), (54, 14, 4), (55, 14, 4), (56, 14, 4), (57, 14, 4), (58, 14, 4), (59, 14, 4), (60, 14, 4), (61, 14, 4), (62, 14, 4), (63, 14, 4), (64, 14, 4), (65, 15, 4), (66, 15, 4), (67, 15, 4), (68, 14, 1600), (69, 14, 1600), (70, 14, 1600), (71, 14, 1600), (72, 14, 4), (75, 13, 120000), (76, 14, 4001), (77, 14, 4000), (78, 15, 4000)]
def ShR_arr (h : ck_H) : Prop := ∀ i, i < 62 → gR h 496 (rt.getD i (0, 0, 0)).1 = some (497 + i) ∧ gk h (497 + i) = (rt.getD i (0, 0, 0)).2.1 ∧ gz h (497 + i) = (rt.getD i (0, 0, 0)).2.2
def ShR (h : ck_H) : Prop := gk h 496 = 12 ∧ ShR_arr h
theorem ShR.k {h : ck_H} (S : ShR h) : gk h 496 = 12 := S.1
theorem ShR.body_ {h : ck_H} (S : ShR h) : gR h 496 0 = some 497 ∧ gk h 497 = 13 ∧ gz h 497 = 240000 := S.2 0 (by decide)
theorem ShR.many_ {h : ck_H} (S : ShR h) : gR h 496 1 = some 498 ∧ gk h 498 = 14 ∧ gz h 498 = 160 := S.2 1 (by decide)
theorem ShR.begins_ {h : ck_H} (S : ShR h) : gR h 496 2 = some 499 ∧ gk h 499 = 14 ∧ gz h 499 = 8000 := S.2 2 (by decide)
theorem ShR.cylinders_ {h : ck_H} (S : ShR h) : gR h 496 3 = some 500 ∧ gk h 500 = 14 ∧ gz h 500 = 8000 := S.2 3 (by decide)
theorem ShR.heads_ {h : ck_H} (S : ShR h) : gR h 496 4 = some 501 ∧ gk h 501 = 14 ∧ gz h 501 = 8000 := S.2 4 (by decide)
theorem ShR.numbers_ {h : ck_H} (S : ShR h) : gR h 496 5 = some 502 ∧ gk h 502 = 14 ∧ gz h 502 = 8000 := S.2 5 (by decide)
theorem ShR.keys_ {h : ck_H} (S : ShR h) : gR h 496 6 = some 503 ∧ gk h 503 = 14 ∧ gz h 503 = 8000 := S.2 6 (by decide)
theorem ShR.datas_ {h : ck_H} (S : ShR h) : gR h 496 7 = some 504 ∧ gk h 504 = 14 ∧ gz h 504 = 8000 := S.2 7 (by decide)
theorem ShR.isSpoiled_ {h : ck_H} (S : ShR h) : gR h 496 8 = some 505 ∧ gk h 505 = 15 ∧ gz h 505 = 8000 := S.2 8 (by decide)
theorem ShR.buffer_ {h : ck_H} (S : ShR h) : gR h 496 9 = some 506 ∧ gk h 506 = 13 ∧ gz h 506 = 1200 := S.2 9 (by decide)
theorem ShR.out_ {h : ck_H} (S : ShR h) : gR h 496 10 = some 507 ∧ gk h 507 = 13 ∧ gz h 507 = 1200 := S.2 10 (by decide)
theorem ShR.memory_ {h : ck_H} (S : ShR h) : gR h 496 14 = some 508 ∧ gk h 508 = 13 ∧ gz h 508 = 2048 := S.2 11 (by decide)
theorem ShR.ops_ {h : ck_H} (S : ShR h) : gR h 496 15 = some 509 ∧ gk h 509 = 14 ∧ gz h 509 = 32 := S.2 12 (by decide)
theorem ShR.addresses_ {h : ck_H} (S : ShR h) : gR h 496 16 = some 510 ∧ gk h 510 = 14 ∧ gz h 510 = 32 := S.2 13 (by decide)
theorem ShR.lengths_ {h : ck_H} (S : ShR h) : gR h 496 17 = some 511 ∧ gk h 511 = 14 ∧ gz h 511 = 32 := S.2 14 (by decide)
theorem ShR.flags_ {h : ck_H} (S : ShR h) : gR h 496 18 = some 512 ∧ gk h 512 = 14 ∧ gz h 512 = 32 := S.2 15 (by decide)
theorem ShR.armCylinder_ {h : ck_H} (S : ShR h) : gR h 496 19 = some 513 ∧ gk h 513 = 14 ∧ gz h 513 = 2 := S.2 16 (by decide)
theorem ShR.armHead_ {h : ck_H} (S : ShR h) : gR h 496 20 = some 514 ∧ gk h 514 = 14 ∧ gz h 514 = 2 := S.2 17 (by decide)
theorem ShR.isSet_ {h : ck_H} (S : ShR h) : gR h 496 32 = some 515 ∧ gk h 515 = 15 ∧ gz h 515 = 10 := S.2 18 (by decide)
theorem ShR.names_ {h : ck_H} (S : ShR h) : gR h 496 33 = some 516 ∧ gk h 516 = 13 ∧ gz h 516 = 80 := S.2 19 (by decide)
theorem ShR.name_ {h : ck_H} (S : ShR h) : gR h 496 34 = some 517 ∧ gk h 517 = 13 ∧ gz h 517 = 8 := S.2 20 (by decide)
theorem ShR.kinds_ {h : ck_H} (S : ShR h) : gR h 496 35 = some 518 ∧ gk h 518 = 14 ∧ gz h 518 = 10 := S.2 21 (by decide)
theorem ShR.sizeA_ {h : ck_H} (S : ShR h) : gR h 496 36 = some 519 ∧ gk h 519 = 14 ∧ gz h 519 = 10 := S.2 22 (by decide)
theorem ShR.sizeB_ {h : ck_H} (S : ShR h) : gR h 496 37 = some 520 ∧ gk h 520 = 14 ∧ gz h 520 = 10 := S.2 23 (by decide)
theorem ShR.extents_ {h : ck_H} (S : ShR h) : gR h 496 38 = some 521 ∧ gk h 521 = 14 ∧ gz h 521 = 10 := S.2 24 (by decide)
theorem ShR.extentFirst_ {h : ck_H} (S : ShR h) : gR h 496 39 = some 522 ∧ gk h 522 = 14 ∧ gz h 522 = 40 := S.2 25 (by decide)
theorem ShR.extentMany_ {h : ck_H} (S : ShR h) : gR h 496 40 = some 523 ∧ gk h 523 = 14 ∧ gz h 523 = 40 := S.2 26 (by decide)
theorem ShR.memberNames_ {h : ck_H} (S : ShR h) : gR h 496 41 = some 524 ∧ gk h 524 = 13 ∧ gz h 524 = 3200 := S.2 27 (by decide)
theorem ShR.memberTrack_ {h : ck_H} (S : ShR h) : gR h 496 42 = some 525 ∧ gk h 525 = 14 ∧ gz h 525 = 400 := S.2 28 (by decide)
theorem ShR.memberFirst_ {h : ck_H} (S : ShR h) : gR h 496 43 = some 526 ∧ gk h 526 = 14 ∧ gz h 526 = 400 := S.2 29 (by decide)
theorem ShR.memberMany_ {h : ck_H} (S : ShR h) : gR h 496 44 = some 527 ∧ gk h 527 = 14 ∧ gz h 527 = 400 := S.2 30 (by decide)
theorem ShR.members_ {h : ck_H} (S : ShR h) : gR h 496 45 = some 528 ∧ gk h 528 = 14 ∧ gz h 528 = 10 := S.2 31 (by decide)
theorem ShR.runFirst_ {h : ck_H} (S : ShR h) : gR h 496 46 = some 529 ∧ gk h 529 = 14 ∧ gz h 529 = 5 := S.2 32 (by decide)
theorem ShR.runMany_ {h : ck_H} (S : ShR h) : gR h 496 47 = some 530 ∧ gk h 530 = 14 ∧ gz h 530 = 5 := S.2 33 (by decide)
theorem ShR.isOpen_ {h : ck_H} (S : ShR h) : gR h 496 49 = some 531 ∧ gk h 531 = 15 ∧ gz h 531 = 4 := S.2 34 (by decide)
theorem ShR.setOf_ {h : ck_H} (S : ShR h) : gR h 496 50 = some 532 ∧ gk h 532 = 14 ∧ gz h 532 = 4 := S.2 35 (by decide)
theorem ShR.modeOf_ {h : ck_H} (S : ShR h) : gR h 496 51 = some 533 ∧ gk h 533 = 14 ∧ gz h 533 = 4 := S.2 36 (by decide)
theorem ShR.recordsOf_ {h : ck_H} (S : ShR h) : gR h 496 52 = some 534 ∧ gk h 534 = 14 ∧ gz h 534 = 4 := S.2 37 (by decide)
theorem ShR.block_ {h : ck_H} (S : ShR h) : gR h 496 53 = some 535 ∧ gk h 535 = 13 ∧ gz h 535 = 4800 := S.2 38 (by decide)
theorem ShR.blockSize_ {h : ck_H} (S : ShR h) : gR h 496 54 = some 536 ∧ gk h 536 = 14 ∧ gz h 536 = 4 := S.2 39 (by decide)
theorem ShR.lastTrack_ {h : ck_H} (S : ShR h) : gR h 496 55 = some 537 ∧ gk h 537 = 14 ∧ gz h 537 = 4 := S.2 40 (by decide)
theorem ShR.stowed_ {h : ck_H} (S : ShR h) : gR h 496 56 = some 538 ∧ gk h 538 = 14 ∧ gz h 538 = 4 := S.2 41 (by decide)
theorem ShR.stowedTrack_ {h : ck_H} (S : ShR h) : gR h 496 57 = some 539 ∧ gk h 539 = 14 ∧ gz h 539 = 4 := S.2 42 (by decide)
theorem ShR.stowedNumber_ {h : ck_H} (S : ShR h) : gR h 496 58 = some 540 ∧ gk h 540 = 14 ∧ gz h 540 = 4 := S.2 43 (by decide)
theorem ShR.nextTrack_ {h : ck_H} (S : ShR h) : gR h 496 59 = some 541 ∧ gk h 541 = 14 ∧ gz h 541 = 4 := S.2 44 (by decide)
theorem ShR.nextBlock_ {h : ck_H} (S : ShR h) : gR h 496 60 = some 542 ∧ gk h 542 = 14 ∧ gz h 542 = 4 := S.2 45 (by decide)
theorem ShR.blocksLeft_ {h : ck_H} (S : ShR h) : gR h 496 61 = some 543 ∧ gk h 543 = 14 ∧ gz h 543 = 4 := S.2 46 (by decide)
theorem ShR.handTrack_ {h : ck_H} (S : ShR h) : gR h 496 62 = some 544 ∧ gk h 544 = 14 ∧ gz h 544 = 4 := S.2 47 (by decide)
theorem ShR.handBlock_ {h : ck_H} (S : ShR h) : gR h 496 63 = some 545 ∧ gk h 545 = 14 ∧ gz h 545 = 4 := S.2 48 (by decide)
theorem ShR.handAt_ {h : ck_H} (S : ShR h) : gR h 496 64 = some 546 ∧ gk h 546 = 14 ∧ gz h 546 = 4 := S.2 49 (by decide)
theorem ShR.isHand_ {h : ck_H} (S : ShR h) : gR h 496 65 = some 547 ∧ gk h 547 = 15 ∧ gz h 547 = 4 := S.2 50 (by decide)
theorem ShR.isMember_ {h : ck_H} (S : ShR h) : gR h 496 66 = some 548 ∧ gk h 548 = 15 ∧ gz h 548 = 4 := S.2 51 (by decide)
theorem ShR.isGot_ {h : ck_H} (S : ShR h) : gR h 496 67 = some 549 ∧ gk h 549 = 15 ∧ gz h 549 = 4 := S.2 52 (by decide)
theorem ShR.pieceTrack_ {h : ck_H} (S : ShR h) : gR h 496 68 = some 550 ∧ gk h 550 = 14 ∧ gz h 550 = 1600 := S.2 53 (by decide)
theorem ShR.pieceBlock_ {h : ck_H} (S : ShR h) : gR h 496 69 = some 551 ∧ gk h 551 = 14 ∧ gz h 551 = 1600 := S.2 54 (by decide)
theorem ShR.pieceAt_ {h : ck_H} (S : ShR h) : gR h 496 70 = some 552 ∧ gk h 552 = 14 ∧ gz h 552 = 1600 := S.2 55 (by decide)
theorem ShR.pieceSize_ {h : ck_H} (S : ShR h) : gR h 496 71 = some 553 ∧ gk h 553 = 14 ∧ gz h 553 = 1600 := S.2 56 (by decide)
theorem ShR.pieces_ {h : ck_H} (S : ShR h) : gR h 496 72 = some 554 ∧ gk h 554 = 14 ∧ gz h 554 = 4 := S.2 57 (by decide)
theorem ShR.moved_ {h : ck_H} (S : ShR h) : gR h 496 75 = some 555 ∧ gk h 555 = 13 ∧ gz h 555 = 120000 := S.2 58 (by decide)
theorem ShR.movedFrom_ {h : ck_H} (S : ShR h) : gR h 496 76 = some 556 ∧ gk h 556 = 14 ∧ gz h 556 = 4001 := S.2 59 (by decide)
theorem ShR.movedOwner_ {h : ck_H} (S : ShR h) : gR h 496 77 = some 557 ∧ gk h 557 = 14 ∧ gz h 557 = 4000 := S.2 60 (by decide)
theorem ShR.movedSpoiled_ {h : ck_H} (S : ShR h) : gR h 496 78 = some 558 ∧ gk h 558 = 15 ∧ gz h 558 = 4000 := S.2 61 (by decide)
theorem ShR.ch {W : Wd} {h h' : ck_H} (S : ShR h) (c : Ch W h h') : ShR h' := by
  simpa only [ShR, ShR_arr, c.gk, c.gz, c.gR] using S
theorem ck_hB_ShR : ShR ck_hB := by unfold ShR ShR_arr; decide +kernel
/-- the addresses of tracks -/
theorem ta_0 {T : Nat} (h : T < 80) : ta T = 12 + 2 * T := if_pos h
theorem ta_1 {t : Nat} (h : t < 80) : ta (80 + t) = 174 + 2 * t := by
  unfold ta
  rw [if_neg (by omega), if_pos (by omega)]
  omega
theorem ta_2 : ta 160 = 376 := rfl
theorem ta_in {T : Nat} : (12 ≤ ta T ∧ ta T < 172 ∧ ta T % 2 = 0) ∨ (174 ≤ ta T ∧ ta T < 333 ∧ ta T % 2 = 0) ∨ ta T = 376 := by
  unfold ta
  split
  · omega
  · split
    · omega
    · omega
theorem ta_inj {T U : Nat} (hT : T < 161) (hU : U < 161) (e : ta T = ta U) : T = U := by
  unfold ta at e
  split at e <;> split at e <;> (try split at e) <;> (try split at e) <;> omega

