/-! the world -/
def wLive (σ : am_M) : Int32 := σ oT 0 - lSize σ cW_endings
def wStartV (σ : am_M) (_ _ : Int32) : Int32 := if σ oT 0 < 24 then σ oT 0 else -1
def wStart (σ : am_M) (p h : Int32) : am_M := if σ oT 0 < 24 then lAdd (bCpL (tAdd σ h) cT_code (σ oT 0) cW_programs p) cW_queue (σ oT 0) else σ
def wAbove (σ : am_M) (t : Int32) : Int32 := if rAt σ cT_home t = -1 then -1 else rAt σ cS_owner (rAt σ cT_home t)
def wReady (σ : am_M) (t : Int32) : am_M := lAdd (rPut (rPut σ cT_status t 0) cT_wakeTime t (-1)) cW_queue t
def wSupp (σ : am_M) (r : Int32) : am_M := if r = 3 then rChg σ cW_counts 9 1 else σ
/-- the reason of a task behind an interruption -/
def wGive (σ : am_M) (t r g f : Int32) : am_M := if tHasR σ t = 0 then tGive σ t r g f else if rAt σ cT_target t ≤ g then wSupp σ r else tGive (wSupp σ (rAt σ cT_reason t)) t r g f
/-- whether a task joins because of a reason: 0 or 1 -/
def wJoins (σ : am_M) (t : Int32) : Int32 := bI (rAt σ cT_status t = 5 ∧ ¬ tHasR σ t = 0)
/-- waits, and not for a reason, and executes no cleanup: becomes ready -/
def wWake (σ : am_M) (t j : Int32) : am_M := if rAt σ cT_status t = 0 then σ else if j = 0 then (if tClean σ t = 0 then wReady σ t else σ) else σ
def wIntr (σ : am_M) (t r g f : Int32) : am_M := if tEnded σ t = 0 then wWake (wGive σ t r g f) t (wJoins σ t) else σ
def wGuard (σ : am_M) (t : Int32) : Nat → Int32 → Int32
  | 0, _ => -1
  | n + 1, l => if l < 0 then -1 else if rAt σ cS_kind (tScAt σ t l) = 2 then l else wGuard σ t n (l + (-1))
def wGuardLv (σ : am_M) (t l : Int32) : Int32 := wGuard σ t (l.toInt + 1).toNat l
def wFail (σ : am_M) (t c u l : Int32) : am_M := wIntr (fAdd σ c t u) t 3 (wGuardLv (fAdd σ c t u) t l) (lSize σ cF_codes)
/-- the first n tasks, those of a scope interrupted by cancellation -/
def wCanN (σ : am_M) (s : Int32) : Nat → am_M
  | 0 => σ
  | n + 1 => if rAt (wCanN σ s n) cT_home (nI n) = s then wIntr (wCanN σ s n) (nI n) 1 (-1) (-1) else wCanN σ s n
def wCancel (σ : am_M) (s : Int32) : am_M := wCanN σ s (σ oT 0).toNatClampNeg
def wRemove (σ : am_M) : am_M := rClr (lClr (lClr (fClr (rClr (am_up (am_up σ oT 0 0) oS 0 0) cC_sizes)) cW_queue) cW_endings) cW_counts
def sp_X10_liveTasks := am_kr0 oW wLive
def sp_X10_startTask := am_kb2 oW wStartV wStart
def sp_X10_ownerAbove := am_kr1 oW wAbove
def sp_X10_makeReady := am_kw1 oW wReady
def sp_X10_suppress := am_kw1 oW wSupp
def sp_X10_interrupt := am_kw4 oW wIntr
def sp_X10_guardLevel := am_kr2 oW wGuardLv
def sp_X10_fail := am_kw4 oW wFail
def sp_X10_cancelChildren := am_kw1 oW wCancel
def sp_X10_removeTasks := am_kw0 oW wRemove
theorem sm_X10_liveTasks : am_mS sp_X10_liveTasks := am_kr0_mono _ _
theorem sm_X10_startTask : am_mS sp_X10_startTask := am_kb2_mono _ _ _
theorem sm_X10_ownerAbove : am_mS sp_X10_ownerAbove := am_kr1_mono _ _
theorem sm_X10_makeReady : am_mS sp_X10_makeReady := am_kw1_mono _ _
theorem sm_X10_suppress : am_mS sp_X10_suppress := am_kw1_mono _ _
theorem sm_X10_interrupt : am_mS sp_X10_interrupt := am_kw4_mono _ _
theorem sm_X10_guardLevel : am_mS sp_X10_guardLevel := am_kr2_mono _ _
theorem sm_X10_fail : am_mS sp_X10_fail := am_kw4_mono _ _
theorem sm_X10_cancelChildren : am_mS sp_X10_cancelChildren := am_kw1_mono _ _
theorem sm_X10_removeTasks : am_mS sp_X10_removeTasks := am_kw0_mono _ _
def cl_X10_liveTasks : List (Nat × am_T) := [(0, mt_ald 0 1),
  (1, mt_getf 10 1 4),
  (4, mt_getf 9 0 7),
  (7, mt_ald 0 8),
  (8, mt_getf 10 6 11),
  (11, mt_cv 4 0 sp_X4_size 14),
  (14, mt_isub 15),
  (15, mt_iret)]
def cl_X10_startTask : List (Nat × am_T) := [(0, mt_ald 0 1),
  (1, mt_getf 10 1 4),
  (4, mt_getf 9 0 7),
  (7, mt_ic (24) 9),
  (9, mt_icmp_lt 14 12),
  (12, mt_ic (-1) 13),
  (13, mt_iret),
  (14, mt_ald 0 15),
  (15, mt_getf 10 1 18),
  (18, mt_ild 2 19),
  (19, mt_cv 9 1 sp_X9_add 22),
  (22, mt_sti 3 23),
  (23, mt_ald 0 24),
  (24, mt_getf 10 1 27),
  (27, mt_getf 9 16 30),
  (30, mt_ild 3 31),
  (31, mt_ald 0 32),
  (32, mt_getf 10 0 35),
  (35, mt_ild 1 36),
  (36, mt_cv 0 3 sp_X0_copyList 39),
  (39, mt_ald 0 40),
  (40, mt_getf 10 5 43),
  (43, mt_ild 3 44),
  (44, mt_cv 4 1 sp_X4_add 47),
  (47, mt_ild 3 48),
  (48, mt_iret)]
def cl_X10_ownerAbove : List (Nat × am_T) := [(0, mt_ald 0 1),
  (1, mt_getf 10 1 4),
  (4, mt_getf 9 5 7),
  (7, mt_ild 1 8),
  (8, mt_cv 6 1 sp_X6_at 11),
  (11, mt_sti 2 12),
  (12, mt_ild 2 13),
  (13, mt_ic (-1) 14),
  (14, mt_icmp_ne 21 17),
  (17, mt_ic (-1) 18),
  (18, mt_goto 32),
  (21, mt_ald 0 22),
  (22, mt_getf 10 2 25),
  (25, mt_getf 8 1 28),
  (28, mt_ild 2 29),
  (29, mt_cv 6 1 sp_X6_at 32),
  (32, mt_iret)]
def cl_X10_makeReady : List (Nat × am_T) := [(0, mt_ald 0 1),
  (1, mt_getf 10 1 4),
  (4, mt_getf 9 1 7),
  (7, mt_ild 1 8),
  (8, mt_ic (0) 9),
  (9, mt_cv 6 2 sp_X6_put 12),
  (12, mt_ald 0 13),
  (13, mt_getf 10 1 16),
  (16, mt_getf 9 11 19),
  (19, mt_ild 1 20),
  (20, mt_ic (-1) 21),
  (21, mt_cv 6 2 sp_X6_put 24),
  (24, mt_ald 0 25),
  (25, mt_getf 10 5 28),
  (28, mt_ild 1 29),
  (29, mt_cv 4 1 sp_X4_add 32),
  (32, mt_vret)]
def cl_X10_suppress : List (Nat × am_T) := [(0, mt_ild 1 1),
  (1, mt_ic (3) 2),
  (2, mt_icmp_ne 15 5),
  (5, mt_ald 0 6),
  (6, mt_getf 10 7 9),
  (9, mt_ic (9) 11),
  (11, mt_ic (1) 12),
  (12, mt_cv 6 2 sp_X6_change 15),
  (15, mt_vret)]
def cl_X10_interrupt : List (Nat × am_T) := [(0, mt_ald 0 1),
  (1, mt_getf 10 1 4),
  (4, mt_ild 1 5),
  (5, mt_cv 9 1 sp_X9_hasEnded 8),
  (8, mt_if_eq 12 11),
  (11, mt_vret),
  (12, mt_ald 0 13),
  (13, mt_getf 10 1 16),
  (16, mt_getf 9 1 19),
  (19, mt_ild 1 20),
  (20, mt_cv 6 1 sp_X6_at 23),
  (23, mt_ic (5) 24),
  (24, mt_icmp_ne 42 27),
  (27, mt_ald 0 28),
  (28, mt_getf 10 1 31),
  (31, mt_ild 1 32),
  (32, mt_cv 9 1 sp_X9_hasReason 35),
  (35, mt_if_eq 42 38),
  (38, mt_ic (1) 39),
  (39, mt_goto 43),
  (42, mt_ic (0) 43),
  (43, mt_sti 5 45),
  (45, mt_ald 0 46),
  (46, mt_getf 10 1 49),
  (49, mt_ild 1 50),
  (50, mt_cv 9 1 sp_X9_hasReason 53),
  (53, mt_if_ne 71 56),
  (56, mt_ald 0 57),
  (57, mt_getf 10 1 60),
  (60, mt_ild 1 61),
  (61, mt_ild 2 62),
  (62, mt_ild 3 63),
  (63, mt_ild 4 65),
  (65, mt_cv 9 4 sp_X9_giveReason 68),
  (68, mt_goto 121),
  (71, mt_ild 3 72),
  (72, mt_ald 0 73),
  (73, mt_getf 10 1 76),
  (76, mt_getf 9 8 79),
  (79, mt_ild 1 80),
  (80, mt_cv 6 1 sp_X6_at 83),
  (83, mt_icmp_ge 116 86),
  (86, mt_ald 0 87),
  (87, mt_ald 0 88),
  (88, mt_getf 10 1 91),
  (91, mt_getf 9 7 94),
  (94, mt_ild 1 95),
  (95, mt_cv 6 1 sp_X6_at 98),
  (98, mt_cv 10 1 sp_X10_suppress 101),
  (101, mt_ald 0 102),
  (102, mt_getf 10 1 105),
  (105, mt_ild 1 106),
  (106, mt_ild 2 107),
  (107, mt_ild 3 108),
  (108, mt_ild 4 110),
  (110, mt_cv 9 4 sp_X9_giveReason 113),
  (113, mt_goto 121),
  (116, mt_ald 0 117),
  (117, mt_ild 2 118),
  (118, mt_cv 10 1 sp_X10_suppress 121),
  (121, mt_ald 0 122),
  (122, mt_getf 10 1 125),
  (125, mt_getf 9 1 128),
  (128, mt_ild 1 129),
  (129, mt_cv 6 1 sp_X6_at 132),
  (132, mt_if_eq 144 135),
  (135, mt_ild 5 137),
  (137, mt_if_ne 144 140),
  (140, mt_ic (1) 141),
  (141, mt_goto 145),
  (144, mt_ic (0) 145),
  (145, mt_sti 6 147),
  (147, mt_ild 6 149),
  (149, mt_if_eq 168 152),
  (152, mt_ald 0 153),
  (153, mt_getf 10 1 156),
  (156, mt_ild 1 157),
  (157, mt_cv 9 1 sp_X9_executesCleanup 160),
  (160, mt_if_ne 168 163),
  (163, mt_ald 0 164),
  (164, mt_ild 1 165),
  (165, mt_cv 10 1 sp_X10_makeReady 168),
  (168, mt_vret)]
def cl_X10_guardLevel : List (Nat × am_T) := [(0, mt_ild 2 1),
  (1, mt_sti 3 2),
  (2, mt_ild 3 3),
  (3, mt_if_lt 37 6),
  (6, mt_ald 0 7),
  (7, mt_getf 10 2 10),
  (10, mt_getf 8 3 13),
  (13, mt_ald 0 14),
  (14, mt_getf 10 1 17),
  (17, mt_ild 1 18),
  (18, mt_ild 3 19),
  (19, mt_cv 9 2 sp_X9_scopeAt 22),
  (22, mt_cv 6 1 sp_X6_at 25),
  (25, mt_ic (2) 26),
  (26, mt_icmp_ne 31 29),
  (29, mt_ild 3 30),
  (30, mt_iret),
  (31, mt_inc 3 (-1) 34),
  (34, mt_goto 2),
  (37, mt_ic (-1) 38),
  (38, mt_iret)]
def cl_X10_fail : List (Nat × am_T) := [(0, mt_ald 0 1),
  (1, mt_getf 10 4 4),
  (4, mt_ild 2 5),
  (5, mt_ild 1 6),
  (6, mt_ild 3 7),
  (7, mt_cv 3 3 sp_X3_add 10),
  (10, mt_sti 5 12),
  (12, mt_ald 0 13),
  (13, mt_ild 1 14),
  (14, mt_ic (3) 15),
  (15, mt_ald 0 16),
  (16, mt_ild 1 17),
  (17, mt_ild 4 19),
  (19, mt_cv 10 2 sp_X10_guardLevel 22),
  (22, mt_ild 5 24),
  (24, mt_cv 10 4 sp_X10_interrupt 27),
  (27, mt_vret)]
def cl_X10_cancelChildren : List (Nat × am_T) := [(0, mt_ic (0) 1),
  (1, mt_sti 2 2),
  (2, mt_ild 2 3),
  (3, mt_ald 0 4),
  (4, mt_getf 10 1 7),
  (7, mt_getf 9 0 10),
  (10, mt_icmp_ge 42 13),
  (13, mt_ald 0 14),
  (14, mt_getf 10 1 17),
  (17, mt_getf 9 5 20),
  (20, mt_ild 2 21),
  (21, mt_cv 6 1 sp_X6_at 24),
  (24, mt_ild 1 25),
  (25, mt_icmp_ne 36 28),
  (28, mt_ald 0 29),
  (29, mt_ild 2 30),
  (30, mt_ic (1) 31),
  (31, mt_ic (-1) 32),
  (32, mt_ic (-1) 33),
  (33, mt_cv 10 4 sp_X10_interrupt 36),
  (36, mt_inc 2 (1) 39),
  (39, mt_goto 2),
  (42, mt_vret)]
def cl_X10_removeTasks : List (Nat × am_T) := [(0, mt_ald 0 1),
  (1, mt_getf 10 1 4),
  (4, mt_ic (0) 5),
  (5, mt_putf 9 0 8),
  (8, mt_ald 0 9),
  (9, mt_getf 10 2 12),
  (12, mt_ic (0) 13),
  (13, mt_putf 8 0 16),
  (16, mt_ald 0 17),
  (17, mt_getf 10 3 20),
  (20, mt_getf 1 1 23),
  (23, mt_cv 6 0 sp_X6_clear 26),
  (26, mt_ald 0 27),
  (27, mt_getf 10 4 30),
  (30, mt_cv 3 0 sp_X3_clear 33),
  (33, mt_ald 0 34),
  (34, mt_getf 10 5 37),
  (37, mt_cv 4 0 sp_X4_clear 40),
  (40, mt_ald 0 41),
  (41, mt_getf 10 6 44),
  (44, mt_cv 4 0 sp_X4_clear 47),
  (47, mt_ald 0 48),
  (48, mt_getf 10 7 51),
  (51, mt_cv 6 0 sp_X6_clear 54),
  (54, mt_vret)]
set_option maxRecDepth 20000 in
theorem v_X10_liveTasks (hm : ∀ pc, am_mono (am_lk cl_X10_liveTasks pc)) : ∀ (av : List Value) (σ : am_M) (R0 : am_R), sp_X10_liveTasks av σ R0 → av.length = 1 ∧ am_Wp (am_lk cl_X10_liveTasks) 0 (am_args 0 av) [] σ R0 := by
  intro av σ R0 h
  obtain ⟨e5, h5⟩ := am_kr0_elim h
  clear h
  subst e5
  exact ⟨rfl, am_go hm (fun _ => false) 400 h5⟩
set_option maxRecDepth 20000 in
theorem v_X10_makeReady (hm : ∀ pc, am_mono (am_lk cl_X10_makeReady pc)) : ∀ (av : List Value) (σ : am_M) (R0 : am_R), sp_X10_makeReady av σ R0 → av.length = 2 ∧ am_Wp (am_lk cl_X10_makeReady) 0 (am_args 0 av) [] σ R0 := by
  intro av σ R0 h
  obtain ⟨a, e5, h5⟩ := am_kw1_elim h
  clear h
  subst e5
  exact ⟨rfl, am_go hm (fun _ => false) 400 h5⟩
set_option maxRecDepth 20000 in
theorem v_X10_fail (hm : ∀ pc, am_mono (am_lk cl_X10_fail pc)) : ∀ (av : List Value) (σ : am_M) (R0 : am_R), sp_X10_fail av σ R0 → av.length = 5 ∧ am_Wp (am_lk cl_X10_fail) 0 (am_args 0 av) [] σ R0 := by
  intro av σ R0 h
  obtain ⟨a, b, c, d, e5, h5⟩ := am_kw4_elim h
  clear h
  subst e5
  exact ⟨rfl, am_go hm (fun _ => false) 400 h5⟩
set_option maxRecDepth 20000 in
theorem v_X10_removeTasks (hm : ∀ pc, am_mono (am_lk cl_X10_removeTasks pc)) : ∀ (av : List Value) (σ : am_M) (R0 : am_R), sp_X10_removeTasks av σ R0 → av.length = 1 ∧ am_Wp (am_lk cl_X10_removeTasks) 0 (am_args 0 av) [] σ R0 := by
  intro av σ R0 h
  obtain ⟨e5, h5⟩ := am_kw0_elim h
  clear h
  subst e5
  exact ⟨rfl, am_go hm (fun _ => false) 400 h5⟩
set_option maxRecDepth 20000 in
theorem v_X10_startTask (hm : ∀ pc, am_mono (am_lk cl_X10_startTask pc)) : ∀ (av : List Value) (σ : am_M) (R0 : am_R), sp_X10_startTask av σ R0 → av.length = 3 ∧ am_Wp (am_lk cl_X10_startTask) 0 (am_args 0 av) [] σ R0 := by
  intro av σ R0 h
  obtain ⟨a, b, e5, h5⟩ := am_kb2_elim h
  clear h
  subst e5
  refine ⟨rfl, am_go hm (fun _ => false) 400 ?_⟩
  unfold wStartV wStart at h5
  refine am_ite (fun h0 => ?_) (fun h0 => ?_)
  · rw [if_pos h0, if_pos h0] at h5; exact h5
  · rw [if_neg h0, if_neg h0] at h5; exact h5
set_option maxRecDepth 20000 in
theorem v_X10_ownerAbove (hm : ∀ pc, am_mono (am_lk cl_X10_ownerAbove pc)) : ∀ (av : List Value) (σ : am_M) (R0 : am_R), sp_X10_ownerAbove av σ R0 → av.length = 2 ∧ am_Wp (am_lk cl_X10_ownerAbove) 0 (am_args 0 av) [] σ R0 := by
  intro av σ R0 h
  obtain ⟨a, e5, h5⟩ := am_kr1_elim h
  clear h
  subst e5
  refine ⟨rfl, am_go hm (fun _ => false) 400 ?_⟩
  unfold wAbove at h5
  exact am_ite (fun h0 => vP h0 h5) (fun h0 => vN h0 h5)
set_option maxRecDepth 20000 in
theorem v_X10_suppress (hm : ∀ pc, am_mono (am_lk cl_X10_suppress pc)) : ∀ (av : List Value) (σ : am_M) (R0 : am_R), sp_X10_suppress av σ R0 → av.length = 2 ∧ am_Wp (am_lk cl_X10_suppress) 0 (am_args 0 av) [] σ R0 := by
  intro av σ R0 h
  obtain ⟨a, e5, h5⟩ := am_kw1_elim h
  clear h
  subst e5
  refine ⟨rfl, am_go hm (fun _ => false) 400 ?_⟩
  unfold wSupp at h5
  exact am_ite (fun h0 => sP h0 h5) (fun h0 => sN h0 h5)
set_option maxRecDepth 20000 in
theorem v_X10_interrupt (hm : ∀ pc, am_mono (am_lk cl_X10_interrupt pc)) : ∀ (av : List Value) (σ : am_M) (R0 : am_R), sp_X10_interrupt av σ R0 → av.length = 5 ∧ am_Wp (am_lk cl_X10_interrupt) 0 (am_args 0 av) [] σ R0 := by
  intro av σ R0 h
  obtain ⟨a, b, c, d, e5, h5⟩ := am_kw4_elim h
  clear h
  subst e5
  unfold wIntr at h5
  refine ⟨rfl, am_go hm (fun p => Nat.beq p 45) 60 ?_⟩
  refine am_ite (fun h0 => ?_) (fun h0 => sN h0 h5)
  replace h5 := sP h0 h5
  have key2 : ∀ (s1 : am_M) (ls : am_L), (∀ q ∈ ([(0, .ref oW), (1, .int a), (2, .int b), (3, .int c), (4, .int d), (5, .int (wJoins σ a))] : am_L), am_lv ls q.1 = some q.2) → R0 none (wWake s1 a (wJoins σ a)) → am_Wp (am_lk cl_X10_interrupt) 121 ls [] s1 R0 := by
    intro s1 ls hl h6
    refine am_Wp.sub hm (am_le_of hl) (am_go hm (fun _ => false) 60 ?_)
    unfold wWake at h6
    refine am_ite (fun h1 => ?_) (fun h1 => ?_)
    · exact am_ite (fun _ => sP h1 h6) (fun z => absurd rfl z)
    replace h6 := sN h1 h6
    refine am_ite (fun h2 => ?_) (fun h2 => ?_)
    · refine am_ite (fun z => absurd z (by decide)) (fun _ => ?_)
      replace h6 := sP h2 h6
      exact am_ite (fun h3 => sP h3 h6) (fun h3 => sN h3 h6)
    · exact am_ite (fun _ => sN h2 h6) (fun z => absurd rfl z)
  have key : ∀ (x : Int32) (ls : am_L), (∀ q ∈ ([(0, .ref oW), (1, .int a), (2, .int b), (3, .int c), (4, .int d), (5, .int x)] : am_L), am_lv ls q.1 = some q.2) → x = wJoins σ a → am_Wp (am_lk cl_X10_interrupt) 45 ls [] σ R0 := by
    intro x ls hl hx
    subst hx
    refine am_Wp.sub hm (am_le_of hl) (am_go hm (fun p => Nat.beq p 121) 60 ?_)
    unfold wGive at h5
    have F : ∀ q ∈ ([(0, .ref oW), (1, .int a), (2, .int b), (3, .int c), (4, .int d), (5, .int (wJoins σ a))] : am_L), am_lv ([(0, .ref oW), (1, .int a), (2, .int b), (3, .int c), (4, .int d), (5, .int (wJoins σ a))] : am_L) q.1 = some q.2 := List.forall_mem_cons.mpr ⟨rfl, List.forall_mem_cons.mpr ⟨rfl, List.forall_mem_cons.mpr ⟨rfl, List.forall_mem_cons.mpr ⟨rfl, List.forall_mem_cons.mpr ⟨rfl, List.forall_mem_cons.mpr ⟨rfl, fun _ q => by cases q⟩⟩⟩⟩⟩⟩
    refine am_ite (fun h1 => ?_) (fun h1 => ?_)
    · rw [if_pos h1] at h5; exact key2 _ _ F h5
    rw [if_neg h1] at h5
    refine am_ite (fun h2 => ?_) (fun h2 => ?_)
    · rw [if_pos h2] at h5; exact key2 _ _ F h5
    · rw [if_neg h2] at h5; exact key2 _ _ F h5
  have F : ∀ x : Int32, ∀ q ∈ ([(0, .ref oW), (1, .int a), (2, .int b), (3, .int c), (4, .int d), (5, .int x)] : am_L), am_lv ((5, .int x) :: am_args 0 [.ref oW, .int a, .int b, .int c, .int d]) q.1 = some q.2 := fun x => List.forall_mem_cons.mpr ⟨rfl, List.forall_mem_cons.mpr ⟨rfl, List.forall_mem_cons.mpr ⟨rfl, List.forall_mem_cons.mpr ⟨rfl, List.forall_mem_cons.mpr ⟨rfl, List.forall_mem_cons.mpr ⟨rfl, fun _ q => by cases q⟩⟩⟩⟩⟩⟩
  refine am_ite (fun h1 => ?_) (fun h1 => ?_)
  · refine am_ite (fun h2 => ?_) (fun h2 => ?_)
    · exact key 0 _ (F 0) (bI_f (fun q => q.2 h2)).symm
    · exact key 1 _ (F 1) (bI_t ⟨h1, h2⟩).symm
  · exact key 0 _ (F 0) (bI_f (fun q => h1 q.1)).symm
theorem am_dec {x : Int32} (h : ¬ x < 0) : (x + (-1)).toInt = x.toInt - 1 := by
  have h1 := Int32.le_iff_toInt_le.mp (Int32.not_lt.mp h)
  have h2 := Int32.toInt_lt x
  rw [Int32.toInt_add]
  have h3 : (0 : Int32).toInt = 0 := rfl
  rw [h3] at h1
  show (x.toInt + (-1)).bmod (2 ^ 32) = _
  rw [Int.bmod_eq_of_le (by omega) (by omega)]
  omega
set_option maxRecDepth 20000 in
theorem l_X10_guardLevel (hm : ∀ pc, am_mono (am_lk cl_X10_guardLevel pc)) {σ : am_M} {R0 : am_R} {t l0 : Int32} : ∀ (n : Nat) (l : Int32), l.toInt + 1 ≤ n → R0 (some (.int (wGuard σ t n l))) σ → am_Wp (am_lk cl_X10_guardLevel) 2 [(0, .ref oW), (1, .int t), (2, .int l0), (3, .int l)] [] σ R0 := by
  intro n
  induction n with
  | zero =>
    intro l hn h
    refine am_go hm (fun _ => false) 20 ?_
    refine am_ite (fun _ => h) (fun z => ?_)
    have h1 := Int32.le_iff_toInt_le.mp (Int32.not_lt.mp z)
    have h3 : (0 : Int32).toInt = 0 := rfl
    omega
  | succ n ih =>
    intro l hn h
    unfold wGuard at h
    refine am_go hm (fun p => Nat.beq p 2) 30 ?_
    refine am_ite (fun h0 => vP h0 h) (fun h0 => ?_)
    replace h := vN h0 h
    refine am_ite (fun h1 => vP h1 h) (fun h1 => ?_)
    exact am_Wp.sub hm (am_le_of (List.forall_mem_cons.mpr ⟨rfl, List.forall_mem_cons.mpr ⟨rfl, List.forall_mem_cons.mpr ⟨rfl, List.forall_mem_cons.mpr ⟨rfl, fun _ q => by cases q⟩⟩⟩⟩)) (ih _ (by rw [am_dec h0]; omega) (vN h1 h))
set_option maxRecDepth 20000 in
theorem v_X10_guardLevel (hm : ∀ pc, am_mono (am_lk cl_X10_guardLevel pc)) : ∀ (av : List Value) (σ : am_M) (R0 : am_R), sp_X10_guardLevel av σ R0 → av.length = 3 ∧ am_Wp (am_lk cl_X10_guardLevel) 0 (am_args 0 av) [] σ R0 := by
  intro av σ R0 h
  obtain ⟨a, b, e5, h5⟩ := am_kr2_elim h
  clear h
  subst e5
  refine ⟨rfl, am_go hm (fun p => Nat.beq p 2) 40 ?_⟩
  exact am_Wp.sub hm (am_le_of (List.forall_mem_cons.mpr ⟨rfl, List.forall_mem_cons.mpr ⟨rfl, List.forall_mem_cons.mpr ⟨rfl, List.forall_mem_cons.mpr ⟨rfl, fun _ q => by cases q⟩⟩⟩⟩)) (l_X10_guardLevel hm _ b (by omega) h5)
/-! what an interruption leaves as it is -/
theorem lAdd_n {σ : am_M} {k a : Nat} {v : Int32} (h1 : a ≠ k + 1) (h2 : a ≠ k) : lAdd σ k v a = σ a := by
  unfold lAdd
  split
  · rfl
  · split
    · rfl
    · exact (am_ua_n _ _ h2).trans (am_ua_n _ _ h1)
theorem wReady_n {σ : am_M} {t : Int32} {a : Nat} (h : a ≠ 23 ∧ a ≠ 43 ∧ a ≠ 95 ∧ a ≠ 96) : wReady σ t a = σ a := by
  unfold wReady
  rw [lAdd_n h.2.2.2 h.2.2.1, rPut_n h.2.1, rPut_n h.1]
theorem tGive_n {σ : am_M} {t r g f : Int32} {a : Nat} (h : a ≠ 35 ∧ a ≠ 37 ∧ a ≠ 39) : tGive σ t r g f a = σ a := by
  unfold tGive
  rw [rPut_n h.2.2, rPut_n h.2.1, rPut_n h.1]
theorem wSupp_n {σ : am_M} {r : Int32} {a : Nat} (h : a ≠ 100) : wSupp σ r a = σ a := by
  unfold wSupp
  split
  · exact rChg_n h
  · rfl
theorem wGive_n {σ : am_M} {t r g f : Int32} {a : Nat} (h : a ≠ 35 ∧ a ≠ 37 ∧ a ≠ 39 ∧ a ≠ 100) : wGive σ t r g f a = σ a := by
  unfold wGive
  split
  · exact tGive_n ⟨h.1, h.2.1, h.2.2.1⟩
  · split
    · exact wSupp_n h.2.2.2
    · rw [tGive_n ⟨h.1, h.2.1, h.2.2.1⟩, wSupp_n h.2.2.2]
theorem wIntr_n {σ : am_M} {t r g f : Int32} {a : Nat} (h : a ≠ 23 ∧ a ≠ 43 ∧ a ≠ 95 ∧ a ≠ 96) (h2 : a ≠ 35 ∧ a ≠ 37 ∧ a ≠ 39 ∧ a ≠ 100) : wIntr σ t r g f a = σ a := by
  unfold wIntr
  split
  · unfold wWake
    split
    · exact wGive_n h2
    · split
      · split
        · rw [wReady_n h, wGive_n h2]
        · exact wGive_n h2
      · exact wGive_n h2
  · rfl
theorem wCanN_n {σ : am_M} {s : Int32} {a : Nat} (h : a ≠ 23 ∧ a ≠ 43 ∧ a ≠ 95 ∧ a ≠ 96) (h2 : a ≠ 35 ∧ a ≠ 37 ∧ a ≠ 39 ∧ a ≠ 100) : ∀ n, wCanN σ s n a = σ a := by
  intro n
  induction n with
  | zero => rfl
  | succ n ih =>
    unfold wCanN
    split
    · rw [wIntr_n h h2, ih]
    · exact ih
set_option maxRecDepth 20000 in
theorem l_X10_cancelChildren (hm : ∀ pc, am_mono (am_lk cl_X10_cancelChildren pc)) {σ : am_M} {R0 : am_R} {s : Int32} (h : R0 none (wCancel σ s)) : ∀ (m i : Nat), i + m = (σ oT 0).toNatClampNeg → am_Wp (am_lk cl_X10_cancelChildren) 2 [(0, .ref oW), (1, .int s), (2, .int (nI i))] [] (wCanN σ s i) R0 := by
  have hs : ∀ i, wCanN σ s i oT 0 = σ oT 0 := fun i => congrFun (wCanN_n (by decide) (by decide) i) 0
  intro m
  induction m with
  | zero =>
    intro i hi
    refine am_go hm (fun _ => false) 40 ?_
    refine am_ite (fun _ => ?_) (fun z => by rw [hs] at z; exact absurd (am_z hi rfl) z)
    have e : i = (σ oT 0).toNatClampNeg := by omega
    rw [e]
    exact h
  | succ m ih =>
    intro i hi
    refine am_go hm (fun p => Nat.beq p 2) 40 ?_
    refine am_ite (fun z => by rw [hs] at z; exact absurd z (am_s hi)) (fun _ => ?_)
    have ih2 := ih (i + 1) (by omega)
    unfold wCanN at ih2
    refine am_ite (fun h1 => ?_) (fun h1 => ?_)
    · rw [if_pos h1] at ih2
      exact am_Wp.sub hm (am_le_of (List.forall_mem_cons.mpr ⟨rfl, List.forall_mem_cons.mpr ⟨rfl, List.forall_mem_cons.mpr ⟨by rw [nI_succ]; rfl, fun _ q => by cases q⟩⟩⟩)) ih2
    · rw [if_neg h1] at ih2
      exact am_Wp.sub hm (am_le_of (List.forall_mem_cons.mpr ⟨rfl, List.forall_mem_cons.mpr ⟨rfl, List.forall_mem_cons.mpr ⟨by rw [nI_succ]; rfl, fun _ q => by cases q⟩⟩⟩)) ih2
set_option maxRecDepth 20000 in
theorem v_X10_cancelChildren (hm : ∀ pc, am_mono (am_lk cl_X10_cancelChildren pc)) : ∀ (av : List Value) (σ : am_M) (R0 : am_R), sp_X10_cancelChildren av σ R0 → av.length = 2 ∧ am_Wp (am_lk cl_X10_cancelChildren) 0 (am_args 0 av) [] σ R0 := by
  intro av σ R0 h
  obtain ⟨a, e5, h5⟩ := am_kw1_elim h
  clear h
  subst e5
  refine ⟨rfl, am_go hm (fun p => Nat.beq p 2) 40 ?_⟩
  exact am_Wp.sub hm (am_le_of (List.forall_mem_cons.mpr ⟨rfl, List.forall_mem_cons.mpr ⟨rfl, List.forall_mem_cons.mpr ⟨rfl, fun _ q => by cases q⟩⟩⟩)) (l_X10_cancelChildren hm h5 _ 0 (Nat.zero_add _))
