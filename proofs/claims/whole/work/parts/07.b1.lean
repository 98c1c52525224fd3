/-! tasks: reads and writes of their rows -/
theorem vP {c : Prop} [Decidable c] {R : am_R} {x y : Int32} {σ : am_M} (hc : c) (h5 : R (some (.int (if c then x else y))) σ) : R (some (.int x)) σ := by rw [if_pos hc] at h5; exact h5
theorem vN {c : Prop} [Decidable c] {R : am_R} {x y : Int32} {σ : am_M} (hc : ¬ c) (h5 : R (some (.int (if c then x else y))) σ) : R (some (.int y)) σ := by rw [if_neg hc] at h5; exact h5
theorem sP {c : Prop} [Decidable c] {R : am_R} {v : Option Value} {x y : am_M} (hc : c) (h5 : R v (if c then x else y)) : R v x := by rw [if_pos hc] at h5; exact h5
theorem sN {c : Prop} [Decidable c] {R : am_R} {v : Option Value} {x y : am_M} (hc : ¬ c) (h5 : R v (if c then x else y)) : R v y := by rw [if_neg hc] at h5; exact h5
def tHas (σ : am_M) (t : Int32) : Int32 := bI (0 ≤ t ∧ t < σ oT 0)
def tGive (σ : am_M) (t r g f : Int32) : am_M := rPut (rPut (rPut σ cT_reason t r) cT_target t g) cT_failure t f
def tAdd (σ : am_M) (h : Int32) : am_M := tGive (rPut (rPut (rPut (rPut (rPut (rPut (rPut (rPut (am_up σ oT 0 (σ oT 0 + 1)) cT_status (σ oT 0) 0) cT_register (σ oT 0) 0) cT_place (σ oT 0) 0) cT_depth (σ oT 0) 0) cT_home (σ oT 0) h) cT_choices (σ oT 0) 0) cT_cleanupPlace (σ oT 0) (-1)) cT_wakeTime (σ oT 0) (-1)) (σ oT 0) 0 (-2) (-1)
def tHasR (σ : am_M) (t : Int32) : Int32 := bI (¬ rAt σ cT_reason t = 0)
def tEnded (σ : am_M) (t : Int32) : Int32 := bI (6 ≤ rAt σ cT_status t)
def tClean (σ : am_M) (t : Int32) : Int32 := bI (¬ rAt σ cT_cleanupPlace t = -1)
def tScAt (σ : am_M) (t l : Int32) : Int32 := if l < 0 then -1 else if rAt σ cT_depth t ≤ l then -1 else rAt σ cT_openScopes (t * 5 + l)
def tInLv (σ : am_M) (t : Int32) : Int32 := rAt σ cT_depth t - 1
def tInner (σ : am_M) (t : Int32) : Int32 := tScAt σ t (rAt σ cT_depth t - 1)
def tEnter (σ : am_M) (t s : Int32) : am_M := rChg (rPut σ cT_openScopes (t * 5 + rAt σ cT_depth t) s) cT_depth t 1
def tSleep (σ : am_M) (t u : Int32) : am_M := rPut (rPut σ cT_status t 1) cT_wakeTime t u
def tWait (σ : am_M) (t st f s u : Int32) : am_M := rPut (rPut (rPut (rPut σ cT_status t st) cT_firstChannel t f) cT_secondChannel t s) cT_waitsSince t u
def tSends (σ : am_M) (t c : Int32) : Int32 := bI (rAt σ cT_status t = 2 ∧ rAt σ cT_firstChannel t = c)
def tTakes (σ : am_M) (t c : Int32) : Int32 := bI ((rAt σ cT_status t = 3 ∨ rAt σ cT_status t = 4) ∧ (rAt σ cT_firstChannel t = c ∨ rAt σ cT_secondChannel t = c))
/-- how many of the first n have f -/
def cntI (f : Int32 → Int32) : Nat → Int32
  | 0 => 0
  | n + 1 => if f (nI n) = 0 then cntI f n else cntI f n + 1
def tCntS (σ : am_M) (c : Int32) : Int32 := cntI (fun t => tSends σ t c) (σ oT 0).toNatClampNeg
def tCntT (σ : am_M) (c : Int32) : Int32 := cntI (fun t => tTakes σ t c) (σ oT 0).toNatClampNeg
def tProp (σ : am_M) (t w : Int32) : Int32 := if w = 0 then rAt σ cT_status t else if w = 1 then rAt σ cT_register t else if w = 2 then rAt σ cT_place t else if w = 3 then rAt σ cT_depth t else if w = 4 then rAt σ cT_home t else if w = 5 then rAt σ cT_choices t else if w = 6 then rAt σ cT_reason t else if w = 7 then rAt σ cT_target t else if w = 8 then tClean σ t else rAt σ cT_wakeTime t
def sp_X9_has := am_kr1 oT tHas
def sp_X9_giveReason := am_kw4 oT tGive
def sp_X9_add := am_kb1 oT (fun σ _ => σ oT 0) tAdd
def sp_X9_hasReason := am_kr1 oT tHasR
def sp_X9_hasEnded := am_kr1 oT tEnded
def sp_X9_executesCleanup := am_kr1 oT tClean
def sp_X9_scopeAt := am_kr2 oT tScAt
def sp_X9_innermostLevel := am_kr1 oT tInLv
def sp_X9_innermost := am_kr1 oT tInner
def sp_X9_enter := am_kw2 oT tEnter
def sp_X9_sleepUntil := am_kw2 oT tSleep
def sp_X9_waitFor := am_kw5 oT tWait
def sp_X9_sendsTo := am_kr2 oT tSends
def sp_X9_takesFrom := am_kr2 oT tTakes
def sp_X9_countSenders := am_kr1 oT tCntS
def sp_X9_countTakers := am_kr1 oT tCntT
def sp_X9_property := am_kr2 oT tProp
theorem sm_X9_has : am_mS sp_X9_has := am_kr1_mono _ _
theorem sm_X9_giveReason : am_mS sp_X9_giveReason := am_kw4_mono _ _
theorem sm_X9_add : am_mS sp_X9_add := am_kb1_mono _ _ _
theorem sm_X9_hasReason : am_mS sp_X9_hasReason := am_kr1_mono _ _
theorem sm_X9_hasEnded : am_mS sp_X9_hasEnded := am_kr1_mono _ _
theorem sm_X9_executesCleanup : am_mS sp_X9_executesCleanup := am_kr1_mono _ _
theorem sm_X9_scopeAt : am_mS sp_X9_scopeAt := am_kr2_mono _ _
theorem sm_X9_innermostLevel : am_mS sp_X9_innermostLevel := am_kr1_mono _ _
theorem sm_X9_innermost : am_mS sp_X9_innermost := am_kr1_mono _ _
theorem sm_X9_enter : am_mS sp_X9_enter := am_kw2_mono _ _
theorem sm_X9_sleepUntil : am_mS sp_X9_sleepUntil := am_kw2_mono _ _
theorem sm_X9_waitFor : am_mS sp_X9_waitFor := am_kw5_mono _ _
theorem sm_X9_sendsTo : am_mS sp_X9_sendsTo := am_kr2_mono _ _
theorem sm_X9_takesFrom : am_mS sp_X9_takesFrom := am_kr2_mono _ _
theorem sm_X9_countSenders : am_mS sp_X9_countSenders := am_kr1_mono _ _
theorem sm_X9_countTakers : am_mS sp_X9_countTakers := am_kr1_mono _ _
theorem sm_X9_property : am_mS sp_X9_property := am_kr2_mono _ _
def cl_X9_has : List (Nat × am_T) := [(0, mt_ild 1 1),
  (1, mt_if_lt 16 4),
  (4, mt_ild 1 5),
  (5, mt_ald 0 6),
  (6, mt_getf 9 0 9),
  (9, mt_icmp_ge 16 12),
  (12, mt_ic (1) 13),
  (13, mt_goto 17),
  (16, mt_ic (0) 17),
  (17, mt_zret)]
def cl_X9_giveReason : List (Nat × am_T) := [(0, mt_ald 0 1),
  (1, mt_getf 9 7 4),
  (4, mt_ild 1 5),
  (5, mt_ild 2 6),
  (6, mt_cv 6 2 sp_X6_put 9),
  (9, mt_ald 0 10),
  (10, mt_getf 9 8 13),
  (13, mt_ild 1 14),
  (14, mt_ild 3 15),
  (15, mt_cv 6 2 sp_X6_put 18),
  (18, mt_ald 0 19),
  (19, mt_getf 9 9 22),
  (22, mt_ild 1 23),
  (23, mt_ild 4 25),
  (25, mt_cv 6 2 sp_X6_put 28),
  (28, mt_vret)]
def cl_X9_add : List (Nat × am_T) := [(0, mt_ald 0 1),
  (1, mt_getf 9 0 4),
  (4, mt_sti 2 5),
  (5, mt_ald 0 6),
  (6, mt_dup 7),
  (7, mt_getf 9 0 10),
  (10, mt_ic (1) 11),
  (11, mt_iadd 12),
  (12, mt_putf 9 0 15),
  (15, mt_ald 0 16),
  (16, mt_getf 9 1 19),
  (19, mt_ild 2 20),
  (20, mt_ic (0) 21),
  (21, mt_cv 6 2 sp_X6_put 24),
  (24, mt_ald 0 25),
  (25, mt_getf 9 2 28),
  (28, mt_ild 2 29),
  (29, mt_ic (0) 30),
  (30, mt_cv 6 2 sp_X6_put 33),
  (33, mt_ald 0 34),
  (34, mt_getf 9 3 37),
  (37, mt_ild 2 38),
  (38, mt_ic (0) 39),
  (39, mt_cv 6 2 sp_X6_put 42),
  (42, mt_ald 0 43),
  (43, mt_getf 9 4 46),
  (46, mt_ild 2 47),
  (47, mt_ic (0) 48),
  (48, mt_cv 6 2 sp_X6_put 51),
  (51, mt_ald 0 52),
  (52, mt_getf 9 5 55),
  (55, mt_ild 2 56),
  (56, mt_ild 1 57),
  (57, mt_cv 6 2 sp_X6_put 60),
  (60, mt_ald 0 61),
  (61, mt_getf 9 6 64),
  (64, mt_ild 2 65),
  (65, mt_ic (0) 66),
  (66, mt_cv 6 2 sp_X6_put 69),
  (69, mt_ald 0 70),
  (70, mt_getf 9 10 73),
  (73, mt_ild 2 74),
  (74, mt_ic (-1) 75),
  (75, mt_cv 6 2 sp_X6_put 78),
  (78, mt_ald 0 79),
  (79, mt_getf 9 11 82),
  (82, mt_ild 2 83),
  (83, mt_ic (-1) 84),
  (84, mt_cv 6 2 sp_X6_put 87),
  (87, mt_ald 0 88),
  (88, mt_ild 2 89),
  (89, mt_ic (0) 90),
  (90, mt_ic (-2) 92),
  (92, mt_ic (-1) 93),
  (93, mt_cv 9 4 sp_X9_giveReason 96),
  (96, mt_ild 2 97),
  (97, mt_iret)]
def cl_X9_hasReason : List (Nat × am_T) := [(0, mt_ald 0 1),
  (1, mt_getf 9 7 4),
  (4, mt_ild 1 5),
  (5, mt_cv 6 1 sp_X6_at 8),
  (8, mt_if_eq 15 11),
  (11, mt_ic (1) 12),
  (12, mt_goto 16),
  (15, mt_ic (0) 16),
  (16, mt_zret)]
def cl_X9_hasEnded : List (Nat × am_T) := [(0, mt_ald 0 1),
  (1, mt_getf 9 1 4),
  (4, mt_ild 1 5),
  (5, mt_cv 6 1 sp_X6_at 8),
  (8, mt_ic (6) 10),
  (10, mt_icmp_lt 17 13),
  (13, mt_ic (1) 14),
  (14, mt_goto 18),
  (17, mt_ic (0) 18),
  (18, mt_zret)]
def cl_X9_executesCleanup : List (Nat × am_T) := [(0, mt_ald 0 1),
  (1, mt_getf 9 10 4),
  (4, mt_ild 1 5),
  (5, mt_cv 6 1 sp_X6_at 8),
  (8, mt_ic (-1) 9),
  (9, mt_icmp_eq 16 12),
  (12, mt_ic (1) 13),
  (13, mt_goto 17),
  (16, mt_ic (0) 17),
  (17, mt_zret)]
def cl_X9_scopeAt : List (Nat × am_T) := [(0, mt_ild 2 1),
  (1, mt_if_lt 20 4),
  (4, mt_ild 2 5),
  (5, mt_ald 0 6),
  (6, mt_getf 9 4 9),
  (9, mt_ild 1 10),
  (10, mt_cv 6 1 sp_X6_at 13),
  (13, mt_icmp_ge 20 16),
  (16, mt_ic (1) 17),
  (17, mt_goto 21),
  (20, mt_ic (0) 21),
  (21, mt_sti 3 22),
  (22, mt_ild 3 23),
  (23, mt_if_eq 41 26),
  (26, mt_ald 0 27),
  (27, mt_getf 9 15 30),
  (30, mt_ild 1 31),
  (31, mt_ic (5) 32),
  (32, mt_imul 33),
  (33, mt_ild 2 34),
  (34, mt_iadd 35),
  (35, mt_cv 6 1 sp_X6_at 38),
  (38, mt_goto 42),
  (41, mt_ic (-1) 42),
  (42, mt_iret)]
def cl_X9_innermostLevel : List (Nat × am_T) := [(0, mt_ald 0 1),
  (1, mt_getf 9 4 4),
  (4, mt_ild 1 5),
  (5, mt_cv 6 1 sp_X6_at 8),
  (8, mt_ic (1) 9),
  (9, mt_isub 10),
  (10, mt_iret)]
def cl_X9_innermost : List (Nat × am_T) := [(0, mt_ald 0 1),
  (1, mt_ild 1 2),
  (2, mt_ald 0 3),
  (3, mt_getf 9 4 6),
  (6, mt_ild 1 7),
  (7, mt_cv 6 1 sp_X6_at 10),
  (10, mt_ic (1) 11),
  (11, mt_isub 12),
  (12, mt_cv 9 2 sp_X9_scopeAt 15),
  (15, mt_iret)]
def cl_X9_enter : List (Nat × am_T) := [(0, mt_ald 0 1),
  (1, mt_getf 9 15 4),
  (4, mt_ild 1 5),
  (5, mt_ic (5) 6),
  (6, mt_imul 7),
  (7, mt_ald 0 8),
  (8, mt_getf 9 4 11),
  (11, mt_ild 1 12),
  (12, mt_cv 6 1 sp_X6_at 15),
  (15, mt_iadd 16),
  (16, mt_ild 2 17),
  (17, mt_cv 6 2 sp_X6_put 20),
  (20, mt_ald 0 21),
  (21, mt_getf 9 4 24),
  (24, mt_ild 1 25),
  (25, mt_ic (1) 26),
  (26, mt_cv 6 2 sp_X6_change 29),
  (29, mt_vret)]
def cl_X9_sleepUntil : List (Nat × am_T) := [(0, mt_ald 0 1),
  (1, mt_getf 9 1 4),
  (4, mt_ild 1 5),
  (5, mt_ic (1) 6),
  (6, mt_cv 6 2 sp_X6_put 9),
  (9, mt_ald 0 10),
  (10, mt_getf 9 11 13),
  (13, mt_ild 1 14),
  (14, mt_ild 2 15),
  (15, mt_cv 6 2 sp_X6_put 18),
  (18, mt_vret)]
def cl_X9_waitFor : List (Nat × am_T) := [(0, mt_ald 0 1),
  (1, mt_getf 9 1 4),
  (4, mt_ild 1 5),
  (5, mt_ild 2 6),
  (6, mt_cv 6 2 sp_X6_put 9),
  (9, mt_ald 0 10),
  (10, mt_getf 9 12 13),
  (13, mt_ild 1 14),
  (14, mt_ild 3 15),
  (15, mt_cv 6 2 sp_X6_put 18),
  (18, mt_ald 0 19),
  (19, mt_getf 9 13 22),
  (22, mt_ild 1 23),
  (23, mt_ild 4 25),
  (25, mt_cv 6 2 sp_X6_put 28),
  (28, mt_ald 0 29),
  (29, mt_getf 9 14 32),
  (32, mt_ild 1 33),
  (33, mt_ild 5 35),
  (35, mt_cv 6 2 sp_X6_put 38),
  (38, mt_vret)]
def cl_X9_sendsTo : List (Nat × am_T) := [(0, mt_ald 0 1),
  (1, mt_getf 9 1 4),
  (4, mt_ild 1 5),
  (5, mt_cv 6 1 sp_X6_at 8),
  (8, mt_ic (2) 9),
  (9, mt_icmp_ne 28 12),
  (12, mt_ald 0 13),
  (13, mt_getf 9 12 16),
  (16, mt_ild 1 17),
  (17, mt_cv 6 1 sp_X6_at 20),
  (20, mt_ild 2 21),
  (21, mt_icmp_ne 28 24),
  (24, mt_ic (1) 25),
  (25, mt_goto 29),
  (28, mt_ic (0) 29),
  (29, mt_zret)]
def cl_X9_takesFrom : List (Nat × am_T) := [(0, mt_ald 0 1),
  (1, mt_getf 9 1 4),
  (4, mt_ild 1 5),
  (5, mt_cv 6 1 sp_X6_at 8),
  (8, mt_ic (3) 9),
  (9, mt_icmp_eq 24 12),
  (12, mt_ald 0 13),
  (13, mt_getf 9 1 16),
  (16, mt_ild 1 17),
  (17, mt_cv 6 1 sp_X6_at 20),
  (20, mt_ic (4) 21),
  (21, mt_icmp_ne 28 24),
  (24, mt_ic (1) 25),
  (25, mt_goto 29),
  (28, mt_ic (0) 29),
  (29, mt_sti 3 30),
  (30, mt_ild 3 31),
  (31, mt_if_eq 62 34),
  (34, mt_ald 0 35),
  (35, mt_getf 9 12 38),
  (38, mt_ild 1 39),
  (39, mt_cv 6 1 sp_X6_at 42),
  (42, mt_ild 2 43),
  (43, mt_icmp_eq 58 46),
  (46, mt_ald 0 47),
  (47, mt_getf 9 13 50),
  (50, mt_ild 1 51),
  (51, mt_cv 6 1 sp_X6_at 54),
  (54, mt_ild 2 55),
  (55, mt_icmp_ne 62 58),
  (58, mt_ic (1) 59),
  (59, mt_goto 63),
  (62, mt_ic (0) 63),
  (63, mt_zret)]
def cl_X9_countSenders : List (Nat × am_T) := [(0, mt_ic (0) 1),
  (1, mt_sti 2 2),
  (2, mt_ic (0) 3),
  (3, mt_sti 3 4),
  (4, mt_ild 3 5),
  (5, mt_ald 0 6),
  (6, mt_getf 9 0 9),
  (9, mt_icmp_ge 30 12),
  (12, mt_ald 0 13),
  (13, mt_ild 3 14),
  (14, mt_ild 1 15),
  (15, mt_cv 9 2 sp_X9_sendsTo 18),
  (18, mt_if_eq 24 21),
  (21, mt_inc 2 (1) 24),
  (24, mt_inc 3 (1) 27),
  (27, mt_goto 4),
  (30, mt_ild 2 31),
  (31, mt_iret)]
def cl_X9_countTakers : List (Nat × am_T) := [(0, mt_ic (0) 1),
  (1, mt_sti 2 2),
  (2, mt_ic (0) 3),
  (3, mt_sti 3 4),
  (4, mt_ild 3 5),
  (5, mt_ald 0 6),
  (6, mt_getf 9 0 9),
  (9, mt_icmp_ge 30 12),
  (12, mt_ald 0 13),
  (13, mt_ild 3 14),
  (14, mt_ild 1 15),
  (15, mt_cv 9 2 sp_X9_takesFrom 18),
  (18, mt_if_eq 24 21),
  (21, mt_inc 2 (1) 24),
  (24, mt_inc 3 (1) 27),
  (27, mt_goto 4),
  (30, mt_ild 2 31),
  (31, mt_iret)]
def cl_X9_property : List (Nat × am_T) := [(0, mt_ild 2 1),
  (1, mt_sw [((0), 52), ((1), 61), ((2), 70), ((3), 79), ((4), 88), ((5), 97), ((6), 106), ((7), 115), ((8), 124)] 138),
  (52, mt_ald 0 53),
  (53, mt_getf 9 1 56),
  (56, mt_ild 1 57),
  (57, mt_cv 6 1 sp_X6_at 60),
  (60, mt_iret),
  (61, mt_ald 0 62),
  (62, mt_getf 9 2 65),
  (65, mt_ild 1 66),
  (66, mt_cv 6 1 sp_X6_at 69),
  (69, mt_iret),
  (70, mt_ald 0 71),
  (71, mt_getf 9 3 74),
  (74, mt_ild 1 75),
  (75, mt_cv 6 1 sp_X6_at 78),
  (78, mt_iret),
  (79, mt_ald 0 80),
  (80, mt_getf 9 4 83),
  (83, mt_ild 1 84),
  (84, mt_cv 6 1 sp_X6_at 87),
  (87, mt_iret),
  (88, mt_ald 0 89),
  (89, mt_getf 9 5 92),
  (92, mt_ild 1 93),
  (93, mt_cv 6 1 sp_X6_at 96),
  (96, mt_iret),
  (97, mt_ald 0 98),
  (98, mt_getf 9 6 101),
  (101, mt_ild 1 102),
  (102, mt_cv 6 1 sp_X6_at 105),
  (105, mt_iret),
  (106, mt_ald 0 107),
  (107, mt_getf 9 7 110),
  (110, mt_ild 1 111),
  (111, mt_cv 6 1 sp_X6_at 114),
  (114, mt_iret),
  (115, mt_ald 0 116),
  (116, mt_getf 9 8 119),
  (119, mt_ild 1 120),
  (120, mt_cv 6 1 sp_X6_at 123),
  (123, mt_iret),
  (124, mt_ald 0 125),
  (125, mt_ild 1 126),
  (126, mt_cv 9 1 sp_X9_executesCleanup 129),
  (129, mt_if_eq 136 132),
  (132, mt_ic (1) 133),
  (133, mt_goto 137),
  (136, mt_ic (0) 137),
  (137, mt_iret),
  (138, mt_ald 0 139),
  (139, mt_getf 9 11 142),
  (142, mt_ild 1 143),
  (143, mt_cv 6 1 sp_X6_at 146),
  (146, mt_iret)]
set_option maxRecDepth 20000 in
theorem v_X9_giveReason (hm : ∀ pc, am_mono (am_lk cl_X9_giveReason pc)) : ∀ (av : List Value) (σ : am_M) (R0 : am_R), sp_X9_giveReason av σ R0 → av.length = 5 ∧ am_Wp (am_lk cl_X9_giveReason) 0 (am_args 0 av) [] σ R0 := by
  intro av σ R0 h
  obtain ⟨a, b, c, d, e5, h5⟩ := am_kw4_elim h
  clear h
  subst e5
  exact ⟨rfl, am_go hm (fun _ => false) 400 h5⟩
set_option maxRecDepth 20000 in
theorem v_X9_innermostLevel (hm : ∀ pc, am_mono (am_lk cl_X9_innermostLevel pc)) : ∀ (av : List Value) (σ : am_M) (R0 : am_R), sp_X9_innermostLevel av σ R0 → av.length = 2 ∧ am_Wp (am_lk cl_X9_innermostLevel) 0 (am_args 0 av) [] σ R0 := by
  intro av σ R0 h
  obtain ⟨a, e5, h5⟩ := am_kr1_elim h
  clear h
  subst e5
  exact ⟨rfl, am_go hm (fun _ => false) 400 h5⟩
set_option maxRecDepth 20000 in
theorem v_X9_innermost (hm : ∀ pc, am_mono (am_lk cl_X9_innermost pc)) : ∀ (av : List Value) (σ : am_M) (R0 : am_R), sp_X9_innermost av σ R0 → av.length = 2 ∧ am_Wp (am_lk cl_X9_innermost) 0 (am_args 0 av) [] σ R0 := by
  intro av σ R0 h
  obtain ⟨a, e5, h5⟩ := am_kr1_elim h
  clear h
  subst e5
  exact ⟨rfl, am_go hm (fun _ => false) 400 h5⟩
set_option maxRecDepth 20000 in
theorem v_X9_enter (hm : ∀ pc, am_mono (am_lk cl_X9_enter pc)) : ∀ (av : List Value) (σ : am_M) (R0 : am_R), sp_X9_enter av σ R0 → av.length = 3 ∧ am_Wp (am_lk cl_X9_enter) 0 (am_args 0 av) [] σ R0 := by
  intro av σ R0 h
  obtain ⟨a, b, e5, h5⟩ := am_kw2_elim h
  clear h
  subst e5
  exact ⟨rfl, am_go hm (fun _ => false) 400 h5⟩
set_option maxRecDepth 20000 in
theorem v_X9_sleepUntil (hm : ∀ pc, am_mono (am_lk cl_X9_sleepUntil pc)) : ∀ (av : List Value) (σ : am_M) (R0 : am_R), sp_X9_sleepUntil av σ R0 → av.length = 3 ∧ am_Wp (am_lk cl_X9_sleepUntil) 0 (am_args 0 av) [] σ R0 := by
  intro av σ R0 h
  obtain ⟨a, b, e5, h5⟩ := am_kw2_elim h
  clear h
  subst e5
  exact ⟨rfl, am_go hm (fun _ => false) 400 h5⟩
set_option maxRecDepth 20000 in
theorem v_X9_waitFor (hm : ∀ pc, am_mono (am_lk cl_X9_waitFor pc)) : ∀ (av : List Value) (σ : am_M) (R0 : am_R), sp_X9_waitFor av σ R0 → av.length = 6 ∧ am_Wp (am_lk cl_X9_waitFor) 0 (am_args 0 av) [] σ R0 := by
  intro av σ R0 h
  obtain ⟨a, b, c, d, e, e5, h5⟩ := am_kw5_elim h
  clear h
  subst e5
  exact ⟨rfl, am_go hm (fun _ => false) 400 h5⟩
set_option maxRecDepth 20000 in
theorem v_X9_add (hm : ∀ pc, am_mono (am_lk cl_X9_add pc)) : ∀ (av : List Value) (σ : am_M) (R0 : am_R), sp_X9_add av σ R0 → av.length = 2 ∧ am_Wp (am_lk cl_X9_add) 0 (am_args 0 av) [] σ R0 := by
  intro av σ R0 h
  obtain ⟨a, e5, h5⟩ := am_kb1_elim h
  clear h
  subst e5
  exact ⟨rfl, am_go hm (fun _ => false) 400 h5⟩
set_option maxRecDepth 20000 in
theorem v_X9_has (hm : ∀ pc, am_mono (am_lk cl_X9_has pc)) : ∀ (av : List Value) (σ : am_M) (R0 : am_R), sp_X9_has av σ R0 → av.length = 2 ∧ am_Wp (am_lk cl_X9_has) 0 (am_args 0 av) [] σ R0 := by
  intro av σ R0 h
  obtain ⟨a, e5, h5⟩ := am_kr1_elim h
  clear h
  subst e5
  refine ⟨rfl, am_go hm (fun _ => false) 400 ?_⟩
  refine am_ite (fun h0 => ?_) (fun h0 => ?_)
  · exact am_b0 h5 (fun q => absurd q.1 (Int32.not_le.mpr h0))
  refine am_ite (fun h1 => ?_) (fun h1 => ?_)
  · exact am_b0 h5 (fun q => absurd q.2 (Int32.not_lt.mpr h1))
  · exact am_b1 h5 ⟨Int32.not_lt.mp h0, Int32.not_le.mp h1⟩
set_option maxRecDepth 20000 in
theorem v_X9_hasReason (hm : ∀ pc, am_mono (am_lk cl_X9_hasReason pc)) : ∀ (av : List Value) (σ : am_M) (R0 : am_R), sp_X9_hasReason av σ R0 → av.length = 2 ∧ am_Wp (am_lk cl_X9_hasReason) 0 (am_args 0 av) [] σ R0 := by
  intro av σ R0 h
  obtain ⟨a, e5, h5⟩ := am_kr1_elim h
  clear h
  subst e5
  refine ⟨rfl, am_go hm (fun _ => false) 400 ?_⟩
  refine am_ite (fun h0 => ?_) (fun h0 => ?_)
  · exact am_b0 h5 (fun q => q h0)
  · exact am_b1 h5 h0
set_option maxRecDepth 20000 in
theorem v_X9_hasEnded (hm : ∀ pc, am_mono (am_lk cl_X9_hasEnded pc)) : ∀ (av : List Value) (σ : am_M) (R0 : am_R), sp_X9_hasEnded av σ R0 → av.length = 2 ∧ am_Wp (am_lk cl_X9_hasEnded) 0 (am_args 0 av) [] σ R0 := by
  intro av σ R0 h
  obtain ⟨a, e5, h5⟩ := am_kr1_elim h
  clear h
  subst e5
  refine ⟨rfl, am_go hm (fun _ => false) 400 ?_⟩
  refine am_ite (fun h0 => ?_) (fun h0 => ?_)
  · exact am_b0 h5 (Int32.not_le.mpr h0)
  · exact am_b1 h5 (Int32.not_lt.mp h0)
set_option maxRecDepth 20000 in
theorem v_X9_executesCleanup (hm : ∀ pc, am_mono (am_lk cl_X9_executesCleanup pc)) : ∀ (av : List Value) (σ : am_M) (R0 : am_R), sp_X9_executesCleanup av σ R0 → av.length = 2 ∧ am_Wp (am_lk cl_X9_executesCleanup) 0 (am_args 0 av) [] σ R0 := by
  intro av σ R0 h
  obtain ⟨a, e5, h5⟩ := am_kr1_elim h
  clear h
  subst e5
  refine ⟨rfl, am_go hm (fun _ => false) 400 ?_⟩
  refine am_ite (fun h0 => ?_) (fun h0 => ?_)
  · exact am_b0 h5 (fun q => q h0)
  · exact am_b1 h5 h0
set_option maxRecDepth 20000 in
theorem v_X9_scopeAt (hm : ∀ pc, am_mono (am_lk cl_X9_scopeAt pc)) : ∀ (av : List Value) (σ : am_M) (R0 : am_R), sp_X9_scopeAt av σ R0 → av.length = 3 ∧ am_Wp (am_lk cl_X9_scopeAt) 0 (am_args 0 av) [] σ R0 := by
  intro av σ R0 h
  obtain ⟨a, b, e5, h5⟩ := am_kr2_elim h
  clear h
  subst e5
  refine ⟨rfl, am_go hm (fun _ => false) 400 ?_⟩
  refine am_ite (fun h0 => ?_) (fun h0 => ?_)
  · rw [show tScAt σ a b = -1 from if_pos h0] at h5; exact am_l0 h5
  refine am_ite (fun h1 => ?_) (fun h1 => ?_)
  · rw [show tScAt σ a b = -1 from (if_neg h0).trans (if_pos h1)] at h5; exact am_l0 h5
  · rw [show tScAt σ a b = _ from (if_neg h0).trans (if_neg h1)] at h5; exact am_l1 h5
set_option maxRecDepth 20000 in
theorem v_X9_sendsTo (hm : ∀ pc, am_mono (am_lk cl_X9_sendsTo pc)) : ∀ (av : List Value) (σ : am_M) (R0 : am_R), sp_X9_sendsTo av σ R0 → av.length = 3 ∧ am_Wp (am_lk cl_X9_sendsTo) 0 (am_args 0 av) [] σ R0 := by
  intro av σ R0 h
  obtain ⟨a, b, e5, h5⟩ := am_kr2_elim h
  clear h
  subst e5
  refine ⟨rfl, am_go hm (fun _ => false) 400 ?_⟩
  refine am_ite (fun h0 => ?_) (fun h0 => ?_)
  · refine am_ite (fun h1 => ?_) (fun h1 => ?_)
    · exact am_b1 h5 ⟨h0, h1⟩
    · exact am_b0 h5 (fun q => h1 q.2)
  · exact am_b0 h5 (fun q => h0 q.1)
