/-! scopes; channels; failures; copies of all of them -/
def sHas (σ : am_M) (s : Int32) : Int32 := bI (0 ≤ s ∧ s < σ oS 0)
def sAdd (σ : am_M) (a b c d e : Int32) : am_M := rPut (rPut (rPut (rPut (rPut (rPut (rPut (rPut (rPut (am_up σ oS 0 (σ oS 0 + 1)) cS_owner (σ oS 0) a) cS_level (σ oS 0) b) cS_kind (σ oS 0) c) cS_state (σ oS 0) 0) cS_liveChildren (σ oS 0) 0) cS_children (σ oS 0) 0) cS_deadline (σ oS 0) d) cS_cleanupState (σ oS 0) 0) cS_behind (σ oS 0) e
def sAddC (σ : am_M) (s : Int32) : am_M := rChg (rChg σ cS_liveChildren s 1) cS_children s 1
def sEnded (σ : am_M) (s : Int32) : Int32 := bI (rAt σ cS_state s = 2)
/-- how many of the first n have f = 0 -/
def cntZ (f : Int32 → Int32) : Nat → Int32
  | 0 => 0
  | n + 1 => if f (nI n) = 0 then cntZ f n + 1 else cntZ f n
def sCntN (σ : am_M) : Int32 := cntZ (sEnded σ) (σ oS 0).toNatClampNeg
def sProp (σ : am_M) (s w : Int32) : Int32 := if w = 0 then rAt σ cS_owner s else if w = 1 then rAt σ cS_level s else if w = 2 then rAt σ cS_kind s else if w = 3 then rAt σ cS_state s else if w = 4 then rAt σ cS_liveChildren s else if w = 5 then rAt σ cS_children s else if w = 6 then rAt σ cS_deadline s else rAt σ cS_cleanupState s
def sp_X8_has := am_kr1 oS sHas
def sp_X8_add := am_kb5 oS (fun σ _ _ _ _ _ => σ oS 0) sAdd
def sp_X8_addChild := am_kw1 oS sAddC
def sp_X8_hasEnded := am_kr1 oS sEnded
def sp_X8_countNotEnded := am_kr0 oS sCntN
def sp_X8_property := am_kr2 oS sProp
theorem sm_X8_has : am_mS sp_X8_has := am_kr1_mono _ _
theorem sm_X8_add : am_mS sp_X8_add := am_kb5_mono _ _ _
theorem sm_X8_addChild : am_mS sp_X8_addChild := am_kw1_mono _ _
theorem sm_X8_hasEnded : am_mS sp_X8_hasEnded := am_kr1_mono _ _
theorem sm_X8_countNotEnded : am_mS sp_X8_countNotEnded := am_kr0_mono _ _
theorem sm_X8_property : am_mS sp_X8_property := am_kr2_mono _ _
def cl_X8_has : List (Nat × am_T) := [(0, mt_ild 1 1),
  (1, mt_if_lt 16 4),
  (4, mt_ild 1 5),
  (5, mt_ald 0 6),
  (6, mt_getf 8 0 9),
  (9, mt_icmp_ge 16 12),
  (12, mt_ic (1) 13),
  (13, mt_goto 17),
  (16, mt_ic (0) 17),
  (17, mt_zret)]
def cl_X8_add : List (Nat × am_T) := [(0, mt_ald 0 1),
  (1, mt_getf 8 0 4),
  (4, mt_sti 6 6),
  (6, mt_ald 0 7),
  (7, mt_dup 8),
  (8, mt_getf 8 0 11),
  (11, mt_ic (1) 12),
  (12, mt_iadd 13),
  (13, mt_putf 8 0 16),
  (16, mt_ald 0 17),
  (17, mt_getf 8 1 20),
  (20, mt_ild 6 22),
  (22, mt_ild 1 23),
  (23, mt_cv 6 2 sp_X6_put 26),
  (26, mt_ald 0 27),
  (27, mt_getf 8 2 30),
  (30, mt_ild 6 32),
  (32, mt_ild 2 33),
  (33, mt_cv 6 2 sp_X6_put 36),
  (36, mt_ald 0 37),
  (37, mt_getf 8 3 40),
  (40, mt_ild 6 42),
  (42, mt_ild 3 43),
  (43, mt_cv 6 2 sp_X6_put 46),
  (46, mt_ald 0 47),
  (47, mt_getf 8 4 50),
  (50, mt_ild 6 52),
  (52, mt_ic (0) 53),
  (53, mt_cv 6 2 sp_X6_put 56),
  (56, mt_ald 0 57),
  (57, mt_getf 8 5 60),
  (60, mt_ild 6 62),
  (62, mt_ic (0) 63),
  (63, mt_cv 6 2 sp_X6_put 66),
  (66, mt_ald 0 67),
  (67, mt_getf 8 6 70),
  (70, mt_ild 6 72),
  (72, mt_ic (0) 73),
  (73, mt_cv 6 2 sp_X6_put 76),
  (76, mt_ald 0 77),
  (77, mt_getf 8 7 80),
  (80, mt_ild 6 82),
  (82, mt_ild 4 84),
  (84, mt_cv 6 2 sp_X6_put 87),
  (87, mt_ald 0 88),
  (88, mt_getf 8 8 91),
  (91, mt_ild 6 93),
  (93, mt_ic (0) 94),
  (94, mt_cv 6 2 sp_X6_put 97),
  (97, mt_ald 0 98),
  (98, mt_getf 8 9 101),
  (101, mt_ild 6 103),
  (103, mt_ild 5 105),
  (105, mt_cv 6 2 sp_X6_put 108),
  (108, mt_ild 6 110),
  (110, mt_iret)]
def cl_X8_addChild : List (Nat × am_T) := [(0, mt_ald 0 1),
  (1, mt_getf 8 5 4),
  (4, mt_ild 1 5),
  (5, mt_ic (1) 6),
  (6, mt_cv 6 2 sp_X6_change 9),
  (9, mt_ald 0 10),
  (10, mt_getf 8 6 13),
  (13, mt_ild 1 14),
  (14, mt_ic (1) 15),
  (15, mt_cv 6 2 sp_X6_change 18),
  (18, mt_vret)]
def cl_X8_hasEnded : List (Nat × am_T) := [(0, mt_ald 0 1),
  (1, mt_getf 8 4 4),
  (4, mt_ild 1 5),
  (5, mt_cv 6 1 sp_X6_at 8),
  (8, mt_ic (2) 9),
  (9, mt_icmp_ne 16 12),
  (12, mt_ic (1) 13),
  (13, mt_goto 17),
  (16, mt_ic (0) 17),
  (17, mt_zret)]
def cl_X8_countNotEnded : List (Nat × am_T) := [(0, mt_ic (0) 1),
  (1, mt_sti 1 2),
  (2, mt_ic (0) 3),
  (3, mt_sti 2 4),
  (4, mt_ild 2 5),
  (5, mt_ald 0 6),
  (6, mt_getf 8 0 9),
  (9, mt_icmp_ge 29 12),
  (12, mt_ald 0 13),
  (13, mt_ild 2 14),
  (14, mt_cv 8 1 sp_X8_hasEnded 17),
  (17, mt_if_ne 23 20),
  (20, mt_inc 1 (1) 23),
  (23, mt_inc 2 (1) 26),
  (26, mt_goto 4),
  (29, mt_ild 1 30),
  (30, mt_iret)]
def cl_X8_property : List (Nat × am_T) := [(0, mt_ild 2 1),
  (1, mt_sw [((0), 44), ((1), 53), ((2), 62), ((3), 71), ((4), 80), ((5), 89), ((6), 98)] 107),
  (44, mt_ald 0 45),
  (45, mt_getf 8 1 48),
  (48, mt_ild 1 49),
  (49, mt_cv 6 1 sp_X6_at 52),
  (52, mt_iret),
  (53, mt_ald 0 54),
  (54, mt_getf 8 2 57),
  (57, mt_ild 1 58),
  (58, mt_cv 6 1 sp_X6_at 61),
  (61, mt_iret),
  (62, mt_ald 0 63),
  (63, mt_getf 8 3 66),
  (66, mt_ild 1 67),
  (67, mt_cv 6 1 sp_X6_at 70),
  (70, mt_iret),
  (71, mt_ald 0 72),
  (72, mt_getf 8 4 75),
  (75, mt_ild 1 76),
  (76, mt_cv 6 1 sp_X6_at 79),
  (79, mt_iret),
  (80, mt_ald 0 81),
  (81, mt_getf 8 5 84),
  (84, mt_ild 1 85),
  (85, mt_cv 6 1 sp_X6_at 88),
  (88, mt_iret),
  (89, mt_ald 0 90),
  (90, mt_getf 8 6 93),
  (93, mt_ild 1 94),
  (94, mt_cv 6 1 sp_X6_at 97),
  (97, mt_iret),
  (98, mt_ald 0 99),
  (99, mt_getf 8 7 102),
  (102, mt_ild 1 103),
  (103, mt_cv 6 1 sp_X6_at 106),
  (106, mt_iret),
  (107, mt_ald 0 108),
  (108, mt_getf 8 8 111),
  (111, mt_ild 1 112),
  (112, mt_cv 6 1 sp_X6_at 115),
  (115, mt_iret)]
set_option maxRecDepth 20000 in
theorem v_X8_add (hm : ∀ pc, am_mono (am_lk cl_X8_add pc)) : ∀ (av : List Value) (σ : am_M) (R0 : am_R), sp_X8_add av σ R0 → av.length = 6 ∧ am_Wp (am_lk cl_X8_add) 0 (am_args 0 av) [] σ R0 := by
  intro av σ R0 h
  obtain ⟨a, b, c, d, e, e5, h5⟩ := am_kb5_elim h
  clear h
  subst e5
  exact ⟨rfl, am_go hm (fun _ => false) 400 h5⟩
set_option maxRecDepth 20000 in
theorem v_X8_addChild (hm : ∀ pc, am_mono (am_lk cl_X8_addChild pc)) : ∀ (av : List Value) (σ : am_M) (R0 : am_R), sp_X8_addChild av σ R0 → av.length = 2 ∧ am_Wp (am_lk cl_X8_addChild) 0 (am_args 0 av) [] σ R0 := by
  intro av σ R0 h
  obtain ⟨a, e5, h5⟩ := am_kw1_elim h
  clear h
  subst e5
  exact ⟨rfl, am_go hm (fun _ => false) 400 h5⟩
set_option maxRecDepth 20000 in
theorem v_X8_has (hm : ∀ pc, am_mono (am_lk cl_X8_has pc)) : ∀ (av : List Value) (σ : am_M) (R0 : am_R), sp_X8_has av σ R0 → av.length = 2 ∧ am_Wp (am_lk cl_X8_has) 0 (am_args 0 av) [] σ R0 := by
  intro av σ R0 h
  obtain ⟨a, e5, h5⟩ := am_kr1_elim h
  clear h
  subst e5
  refine ⟨rfl, am_go hm (fun _ => false) 400 ?_⟩
  refine am_ite (fun h0 => ?_) (fun h0 => ?_)
  · exact am_b0 h5 (fun q => absurd q.1 (Int32.not_le.mpr h0))
  refine am_ite (fun h1 => ?_) (fun h1 => ?_)
  · exact am_b0 h5 (fun q => absurd q.2 (Int32.not_lt.mpr h1))
  · exact am_b1 h5 ⟨Int32.not_lt.mp h0, Int32.not_le.mp h1⟩
set_option maxRecDepth 20000 in
theorem v_X8_hasEnded (hm : ∀ pc, am_mono (am_lk cl_X8_hasEnded pc)) : ∀ (av : List Value) (σ : am_M) (R0 : am_R), sp_X8_hasEnded av σ R0 → av.length = 2 ∧ am_Wp (am_lk cl_X8_hasEnded) 0 (am_args 0 av) [] σ R0 := by
  intro av σ R0 h
  obtain ⟨a, e5, h5⟩ := am_kr1_elim h
  clear h
  subst e5
  refine ⟨rfl, am_go hm (fun _ => false) 400 ?_⟩
  exact am_ite (fun h0 => am_b1 h5 h0) (fun h0 => am_b0 h5 h0)
set_option maxRecDepth 20000 in
theorem v_X8_property (hm : ∀ pc, am_mono (am_lk cl_X8_property pc)) : ∀ (av : List Value) (σ : am_M) (R0 : am_R), sp_X8_property av σ R0 → av.length = 3 ∧ am_Wp (am_lk cl_X8_property) 0 (am_args 0 av) [] σ R0 := by
  intro av σ R0 h
  obtain ⟨a, b, e5, h5⟩ := am_kr2_elim h
  clear h
  subst e5
  refine ⟨rfl, am_go hm (fun _ => false) 400 ?_⟩
  unfold sProp at h5
  refine am_ite (fun h0 => vP h0 h5) (fun h0 => ?_)
  replace h5 := vN h0 h5
  refine am_ite (fun h0 => vP h0 h5) (fun h0 => ?_)
  replace h5 := vN h0 h5
  refine am_ite (fun h0 => vP h0 h5) (fun h0 => ?_)
  replace h5 := vN h0 h5
  refine am_ite (fun h0 => vP h0 h5) (fun h0 => ?_)
  replace h5 := vN h0 h5
  refine am_ite (fun h0 => vP h0 h5) (fun h0 => ?_)
  replace h5 := vN h0 h5
  refine am_ite (fun h0 => vP h0 h5) (fun h0 => ?_)
  replace h5 := vN h0 h5
  refine am_ite (fun h0 => vP h0 h5) (fun h0 => ?_)
  exact vN h0 h5
set_option maxRecDepth 20000 in
theorem l_X8_countNotEnded (hm : ∀ pc, am_mono (am_lk cl_X8_countNotEnded pc)) {σ : am_M} {R0 : am_R} (h : R0 (some (.int (sCntN σ))) σ) : ∀ (m i : Nat), i + m = (σ oS 0).toNatClampNeg → am_Wp (am_lk cl_X8_countNotEnded) 4 [(0, .ref oS), (1, .int (cntZ (sEnded σ) i)), (2, .int (nI i))] [] σ R0 := by
  intro m
  induction m with
  | zero =>
    intro i hi
    refine am_go hm (fun _ => false) 20 ?_
    refine am_ite (fun _ => ?_) (fun z => absurd (am_z hi rfl) z)
    have e : i = (σ oS 0).toNatClampNeg := by omega
    rw [e]
    exact h
  | succ m ih =>
    intro i hi
    refine am_go hm (fun p => Nat.beq p 4) 20 ?_
    refine am_ite (fun z => absurd z (am_s hi)) (fun _ => ?_)
    have ih2 := ih (i + 1) (by omega)
    unfold cntZ at ih2
    refine am_ite (fun h1 => ?_) (fun h1 => ?_)
    · rw [if_pos h1] at ih2
      exact am_Wp.sub hm (am_le_of (List.forall_mem_cons.mpr ⟨rfl, List.forall_mem_cons.mpr ⟨rfl, List.forall_mem_cons.mpr ⟨by rw [nI_succ]; rfl, fun _ q => by cases q⟩⟩⟩)) ih2
    · rw [if_neg h1] at ih2
      exact am_Wp.sub hm (am_le_of (List.forall_mem_cons.mpr ⟨rfl, List.forall_mem_cons.mpr ⟨rfl, List.forall_mem_cons.mpr ⟨by rw [nI_succ]; rfl, fun _ q => by cases q⟩⟩⟩)) ih2
set_option maxRecDepth 20000 in
theorem v_X8_countNotEnded (hm : ∀ pc, am_mono (am_lk cl_X8_countNotEnded pc)) : ∀ (av : List Value) (σ : am_M) (R0 : am_R), sp_X8_countNotEnded av σ R0 → av.length = 1 ∧ am_Wp (am_lk cl_X8_countNotEnded) 0 (am_args 0 av) [] σ R0 := by
  intro av σ R0 h
  obtain ⟨e5, h5⟩ := am_kr0_elim h
  clear h
  subst e5
  refine ⟨rfl, am_go hm (fun p => Nat.beq p 4) 40 ?_⟩
  exact am_Wp.sub hm (am_le_of (List.forall_mem_cons.mpr ⟨rfl, List.forall_mem_cons.mpr ⟨rfl, List.forall_mem_cons.mpr ⟨rfl, fun _ q => by cases q⟩⟩⟩)) (l_X8_countNotEnded hm h5 _ 0 (Nat.zero_add _))
/-! channels -/
def chAt (σ : am_M) (c i : Int32) : Int32 := rAt σ cC_cells (c * 3 + i)
def chRoom (σ : am_M) (c : Int32) : Int32 := bI (rAt σ cC_sizes c < rAt σ cC_rooms c)
def chAdd (σ : am_M) (c n : Int32) : am_M := rChg (rPut σ cC_cells (c * 3 + rAt σ cC_sizes c) n) cC_sizes c 1
/-- n numbers moved one place ahead -/
def chSh (σ : am_M) (c : Int32) : Nat → am_M
  | 0 => σ
  | n + 1 => rPut (chSh σ c n) cC_cells (c * 3 + nI (n + 1) - 1) (chAt (chSh σ c n) c (nI (n + 1)))
def chTak (σ : am_M) (c : Int32) : am_M := rChg (chSh σ c ((rAt σ cC_sizes c).toNatClampNeg - 1)) cC_sizes c (-1)
def sp_X1_at := am_kr2 oC chAt
def sp_X1_hasRoom := am_kr1 oC chRoom
def sp_X1_add := am_kw2 oC chAdd
def sp_X1_takeFirst := am_kb1 oC (fun σ c => chAt σ c 0) chTak
theorem sm_X1_at : am_mS sp_X1_at := am_kr2_mono _ _
theorem sm_X1_hasRoom : am_mS sp_X1_hasRoom := am_kr1_mono _ _
theorem sm_X1_add : am_mS sp_X1_add := am_kw2_mono _ _
theorem sm_X1_takeFirst : am_mS sp_X1_takeFirst := am_kb1_mono _ _ _
def cl_X1_at : List (Nat × am_T) := [(0, mt_ald 0 1),
  (1, mt_getf 1 2 4),
  (4, mt_ild 1 5),
  (5, mt_ic (3) 6),
  (6, mt_imul 7),
  (7, mt_ild 2 8),
  (8, mt_iadd 9),
  (9, mt_cv 6 1 sp_X6_at 12),
  (12, mt_iret)]
def cl_X1_hasRoom : List (Nat × am_T) := [(0, mt_ald 0 1),
  (1, mt_getf 1 1 4),
  (4, mt_ild 1 5),
  (5, mt_cv 6 1 sp_X6_at 8),
  (8, mt_ald 0 9),
  (9, mt_getf 1 0 12),
  (12, mt_ild 1 13),
  (13, mt_cv 6 1 sp_X6_at 16),
  (16, mt_icmp_ge 23 19),
  (19, mt_ic (1) 20),
  (20, mt_goto 24),
  (23, mt_ic (0) 24),
  (24, mt_zret)]
def cl_X1_add : List (Nat × am_T) := [(0, mt_ald 0 1),
  (1, mt_getf 1 2 4),
  (4, mt_ild 1 5),
  (5, mt_ic (3) 6),
  (6, mt_imul 7),
  (7, mt_ald 0 8),
  (8, mt_getf 1 1 11),
  (11, mt_ild 1 12),
  (12, mt_cv 6 1 sp_X6_at 15),
  (15, mt_iadd 16),
  (16, mt_ild 2 17),
  (17, mt_cv 6 2 sp_X6_put 20),
  (20, mt_ald 0 21),
  (21, mt_getf 1 1 24),
  (24, mt_ild 1 25),
  (25, mt_ic (1) 26),
  (26, mt_cv 6 2 sp_X6_change 29),
  (29, mt_vret)]
def cl_X1_takeFirst : List (Nat × am_T) := [(0, mt_ald 0 1),
  (1, mt_ild 1 2),
  (2, mt_ic (0) 3),
  (3, mt_cv 1 2 sp_X1_at 6),
  (6, mt_sti 2 7),
  (7, mt_ic (1) 8),
  (8, mt_sti 3 9),
  (9, mt_ild 3 10),
  (10, mt_ald 0 11),
  (11, mt_getf 1 1 14),
  (14, mt_ild 1 15),
  (15, mt_cv 6 1 sp_X6_at 18),
  (18, mt_icmp_ge 47 21),
  (21, mt_ald 0 22),
  (22, mt_getf 1 2 25),
  (25, mt_ild 1 26),
  (26, mt_ic (3) 27),
  (27, mt_imul 28),
  (28, mt_ild 3 29),
  (29, mt_iadd 30),
  (30, mt_ic (1) 31),
  (31, mt_isub 32),
  (32, mt_ald 0 33),
  (33, mt_ild 1 34),
  (34, mt_ild 3 35),
  (35, mt_cv 1 2 sp_X1_at 38),
  (38, mt_cv 6 2 sp_X6_put 41),
  (41, mt_inc 3 (1) 44),
  (44, mt_goto 9),
  (47, mt_ald 0 48),
  (48, mt_getf 1 1 51),
  (51, mt_ild 1 52),
  (52, mt_ic (-1) 53),
  (53, mt_cv 6 2 sp_X6_change 56),
  (56, mt_ild 2 57),
  (57, mt_iret)]
set_option maxRecDepth 20000 in
theorem v_X1_at (hm : ∀ pc, am_mono (am_lk cl_X1_at pc)) : ∀ (av : List Value) (σ : am_M) (R0 : am_R), sp_X1_at av σ R0 → av.length = 3 ∧ am_Wp (am_lk cl_X1_at) 0 (am_args 0 av) [] σ R0 := by
  intro av σ R0 h
  obtain ⟨a, b, e5, h5⟩ := am_kr2_elim h
  clear h
  subst e5
  exact ⟨rfl, am_go hm (fun _ => false) 400 h5⟩
set_option maxRecDepth 20000 in
theorem v_X1_add (hm : ∀ pc, am_mono (am_lk cl_X1_add pc)) : ∀ (av : List Value) (σ : am_M) (R0 : am_R), sp_X1_add av σ R0 → av.length = 3 ∧ am_Wp (am_lk cl_X1_add) 0 (am_args 0 av) [] σ R0 := by
  intro av σ R0 h
  obtain ⟨a, b, e5, h5⟩ := am_kw2_elim h
  clear h
  subst e5
  exact ⟨rfl, am_go hm (fun _ => false) 400 h5⟩
set_option maxRecDepth 20000 in
theorem v_X1_hasRoom (hm : ∀ pc, am_mono (am_lk cl_X1_hasRoom pc)) : ∀ (av : List Value) (σ : am_M) (R0 : am_R), sp_X1_hasRoom av σ R0 → av.length = 2 ∧ am_Wp (am_lk cl_X1_hasRoom) 0 (am_args 0 av) [] σ R0 := by
  intro av σ R0 h
  obtain ⟨a, e5, h5⟩ := am_kr1_elim h
  clear h
  subst e5
  refine ⟨rfl, am_go hm (fun _ => false) 400 ?_⟩
  exact am_ite (fun h0 => am_b0 h5 (Int32.not_lt.mpr h0)) (fun h0 => am_b1 h5 (Int32.not_le.mp h0))
theorem chSh_n {σ : am_M} {c : Int32} {a : Nat} (h : a ≠ cC_cells + 1) : ∀ n, chSh σ c n a = σ a := by
  intro n
  induction n with
  | zero => rfl
  | succ n ih => exact (rPut_n h).trans ih
set_option maxRecDepth 20000 in
theorem l_X1_takeFirst (hm : ∀ pc, am_mono (am_lk cl_X1_takeFirst pc)) {σ : am_M} {R0 : am_R} {c x : Int32} (h : R0 (some (.int x)) (chTak σ c)) : ∀ (m i : Nat), i + m = (rAt σ cC_sizes c).toNatClampNeg - 1 → am_Wp (am_lk cl_X1_takeFirst) 9 [(0, .ref oC), (1, .int c), (2, .int x), (3, .int (nI (i + 1)))] [] (chSh σ c i) R0 := by
  have hs : ∀ i, rAt (chSh σ c i) cC_sizes c = rAt σ cC_sizes c := fun i => rAt_c _ (chSh_n (by decide) i)
  have hb := am_clt (rAt σ cC_sizes c)
  intro m
  induction m with
  | zero =>
    intro i hi
    refine am_go hm (fun _ => false) 40 ?_
    refine am_ite (fun _ => ?_) (fun z => by rw [hs] at z; exact absurd ((nI_lt_iff (by omega)).mp (Int32.not_le.mp z)) (by omega))
    have e : i = (rAt σ cC_sizes c).toNatClampNeg - 1 := by omega
    rw [e]
    exact h
  | succ m ih =>
    intro i hi
    refine am_go hm (fun p => Nat.beq p 9) 60 ?_
    refine am_ite (fun z => by rw [hs] at z; exact absurd ((nI_lt_iff (by omega)).mpr (by omega)) (Int32.not_lt.mpr z)) (fun _ => ?_)
    exact am_Wp.sub hm (am_le_of (List.forall_mem_cons.mpr ⟨rfl, List.forall_mem_cons.mpr ⟨rfl, List.forall_mem_cons.mpr ⟨rfl, List.forall_mem_cons.mpr ⟨by rw [nI_succ (i + 1)]; rfl, fun _ q => by cases q⟩⟩⟩⟩)) (ih (i + 1) (by omega))
set_option maxRecDepth 20000 in
theorem v_X1_takeFirst (hm : ∀ pc, am_mono (am_lk cl_X1_takeFirst pc)) : ∀ (av : List Value) (σ : am_M) (R0 : am_R), sp_X1_takeFirst av σ R0 → av.length = 2 ∧ am_Wp (am_lk cl_X1_takeFirst) 0 (am_args 0 av) [] σ R0 := by
  intro av σ R0 h
  obtain ⟨a, e5, h5⟩ := am_kb1_elim h
  clear h
  subst e5
  refine ⟨rfl, am_go hm (fun p => Nat.beq p 9) 40 ?_⟩
  exact am_Wp.sub hm (am_le_of (List.forall_mem_cons.mpr ⟨rfl, List.forall_mem_cons.mpr ⟨rfl, List.forall_mem_cons.mpr ⟨rfl, List.forall_mem_cons.mpr ⟨rfl, fun _ q => by cases q⟩⟩⟩⟩)) (l_X1_takeFirst hm h5 _ 0 (Nat.zero_add _))
/-! failures -/
def fAdd (σ : am_M) (a b c : Int32) : am_M := lAdd (lAdd (lAdd σ cF_codes a) cF_tasks b) cF_causes c
def fUnd (σ : am_M) : Nat → Int32 → Int32
  | 0, x => x
  | n + 1, x => if x = -1 then x else fUnd σ n (lAt σ cF_causes x)
def fUnder (σ : am_M) (f d : Int32) : Int32 := if 0 ≤ d then fUnd σ d.toNatClampNeg f else -1
def fFC (σ : am_M) : Nat → Int32 → Int32
  | 0, x => x
  | n + 1, x => if lAt σ cF_causes x = -1 then x else fFC σ n (lAt σ cF_causes x)
def fCode (σ : am_M) (f : Int32) : Int32 := lAt σ cF_codes (fFC σ 660 f)
def fClr (σ : am_M) : am_M := lClr (lClr (lClr σ cF_codes) cF_tasks) cF_causes
def sp_X3_add := am_kb3 oF (fun σ _ _ _ => lSize σ cF_codes) fAdd
def sp_X3_under := am_kr2 oF fUnder
def sp_X3_codeOfFirstCause := am_kr1 oF fCode
def sp_X3_clear := am_kw0 oF fClr
theorem sm_X3_add : am_mS sp_X3_add := am_kb3_mono _ _ _
theorem sm_X3_under : am_mS sp_X3_under := am_kr2_mono _ _
theorem sm_X3_codeOfFirstCause : am_mS sp_X3_codeOfFirstCause := am_kr1_mono _ _
theorem sm_X3_clear : am_mS sp_X3_clear := am_kw0_mono _ _
def cl_X3_add : List (Nat × am_T) := [(0, mt_ald 0 1),
  (1, mt_getf 3 0 4),
  (4, mt_cv 4 0 sp_X4_size 7),
  (7, mt_sti 4 9),
  (9, mt_ald 0 10),
  (10, mt_getf 3 0 13),
  (13, mt_ild 1 14),
  (14, mt_cv 4 1 sp_X4_add 17),
  (17, mt_ald 0 18),
  (18, mt_getf 3 1 21),
  (21, mt_ild 2 22),
  (22, mt_cv 4 1 sp_X4_add 25),
  (25, mt_ald 0 26),
  (26, mt_getf 3 2 29),
  (29, mt_ild 3 30),
  (30, mt_cv 4 1 sp_X4_add 33),
  (33, mt_ild 4 35),
  (35, mt_iret)]
def cl_X3_under : List (Nat × am_T) := [(0, mt_ild 2 1),
  (1, mt_if_ge 8 4),
  (4, mt_ic (-1) 5),
  (5, mt_goto 9),
  (8, mt_ild 1 9),
  (9, mt_sti 3 10),
  (10, mt_ic (0) 11),
  (11, mt_sti 4 13),
  (13, mt_ild 4 15),
  (15, mt_ild 2 16),
  (16, mt_icmp_ge 39 19),
  (19, mt_ild 3 20),
  (20, mt_ic (-1) 21),
  (21, mt_icmp_eq 39 24),
  (24, mt_ald 0 25),
  (25, mt_getf 3 2 28),
  (28, mt_ild 3 29),
  (29, mt_cv 4 1 sp_X4_at 32),
  (32, mt_sti 3 33),
  (33, mt_inc 4 (1) 36),
  (36, mt_goto 13),
  (39, mt_ild 3 40),
  (40, mt_iret)]
def cl_X3_codeOfFirstCause : List (Nat × am_T) := [(0, mt_ild 1 1),
  (1, mt_sti 2 2),
  (2, mt_ic (0) 3),
  (3, mt_sti 3 4),
  (4, mt_ild 3 5),
  (5, mt_ic (660) 8),
  (8, mt_icmp_ge 38 11),
  (11, mt_ald 0 12),
  (12, mt_getf 3 2 15),
  (15, mt_ild 2 16),
  (16, mt_cv 4 1 sp_X4_at 19),
  (19, mt_ic (-1) 20),
  (20, mt_icmp_eq 38 23),
  (23, mt_ald 0 24),
  (24, mt_getf 3 2 27),
  (27, mt_ild 2 28),
  (28, mt_cv 4 1 sp_X4_at 31),
  (31, mt_sti 2 32),
  (32, mt_inc 3 (1) 35),
  (35, mt_goto 4),
  (38, mt_ald 0 39),
  (39, mt_getf 3 0 42),
  (42, mt_ild 2 43),
  (43, mt_cv 4 1 sp_X4_at 46),
  (46, mt_iret)]
def cl_X3_clear : List (Nat × am_T) := [(0, mt_ald 0 1),
  (1, mt_getf 3 0 4),
  (4, mt_cv 4 0 sp_X4_clear 7),
  (7, mt_ald 0 8),
  (8, mt_getf 3 1 11),
  (11, mt_cv 4 0 sp_X4_clear 14),
  (14, mt_ald 0 15),
  (15, mt_getf 3 2 18),
  (18, mt_cv 4 0 sp_X4_clear 21),
  (21, mt_vret)]
set_option maxRecDepth 20000 in
theorem v_X3_add (hm : ∀ pc, am_mono (am_lk cl_X3_add pc)) : ∀ (av : List Value) (σ : am_M) (R0 : am_R), sp_X3_add av σ R0 → av.length = 4 ∧ am_Wp (am_lk cl_X3_add) 0 (am_args 0 av) [] σ R0 := by
  intro av σ R0 h
  obtain ⟨a, b, c, e5, h5⟩ := am_kb3_elim h
  clear h
  subst e5
  exact ⟨rfl, am_go hm (fun _ => false) 400 h5⟩
set_option maxRecDepth 20000 in
theorem v_X3_clear (hm : ∀ pc, am_mono (am_lk cl_X3_clear pc)) : ∀ (av : List Value) (σ : am_M) (R0 : am_R), sp_X3_clear av σ R0 → av.length = 1 ∧ am_Wp (am_lk cl_X3_clear) 0 (am_args 0 av) [] σ R0 := by
  intro av σ R0 h
  obtain ⟨e5, h5⟩ := am_kw0_elim h
  clear h
  subst e5
  exact ⟨rfl, am_go hm (fun _ => false) 400 h5⟩
set_option maxRecDepth 20000 in
theorem l_X3_under (hm : ∀ pc, am_mono (am_lk cl_X3_under pc)) {σ : am_M} {R0 : am_R} {f d : Int32} : ∀ (m i : Nat) (x : Int32), i + m = d.toNatClampNeg → R0 (some (.int (fUnd σ m x))) σ → am_Wp (am_lk cl_X3_under) 13 [(0, .ref oF), (1, .int f), (2, .int d), (3, .int x), (4, .int (nI i))] [] σ R0 := by
  intro m
  induction m with
  | zero =>
    intro i x hi h
    refine am_go hm (fun _ => false) 20 ?_
    exact am_ite (fun _ => h) (fun z => absurd (am_z hi rfl) z)
  | succ m ih =>
    intro i x hi h
    refine am_go hm (fun p => Nat.beq p 13) 20 ?_
    refine am_ite (fun z => absurd z (am_s hi)) (fun _ => ?_)
    unfold fUnd at h
    refine am_ite (fun h1 => vP h1 h) (fun h1 => ?_)
    exact am_Wp.sub hm (am_le_of (List.forall_mem_cons.mpr ⟨rfl, List.forall_mem_cons.mpr ⟨rfl, List.forall_mem_cons.mpr ⟨rfl, List.forall_mem_cons.mpr ⟨rfl, List.forall_mem_cons.mpr ⟨by rw [nI_succ]; rfl, fun _ q => by cases q⟩⟩⟩⟩⟩)) (ih (i + 1) _ (by omega) (vN h1 h))
set_option maxRecDepth 20000 in
theorem v_X3_under (hm : ∀ pc, am_mono (am_lk cl_X3_under pc)) : ∀ (av : List Value) (σ : am_M) (R0 : am_R), sp_X3_under av σ R0 → av.length = 3 ∧ am_Wp (am_lk cl_X3_under) 0 (am_args 0 av) [] σ R0 := by
  intro av σ R0 h
  obtain ⟨a, b, e5, h5⟩ := am_kr2_elim h
  clear h
  subst e5
  refine ⟨rfl, am_go hm (fun p => Nat.beq p 13) 40 ?_⟩
  unfold fUnder at h5
  refine am_ite (fun h0 => ?_) (fun h0 => ?_)
  · exact am_Wp.sub hm (am_le_of (List.forall_mem_cons.mpr ⟨rfl, List.forall_mem_cons.mpr ⟨rfl, List.forall_mem_cons.mpr ⟨rfl, List.forall_mem_cons.mpr ⟨rfl, List.forall_mem_cons.mpr ⟨rfl, fun _ q => by cases q⟩⟩⟩⟩⟩)) (l_X3_under hm (b.toNatClampNeg) 0 a (Nat.zero_add _) (vP h0 h5))
  · refine am_go hm (fun _ => false) 40 ?_
    exact am_ite (fun _ => vN h0 h5) (fun z => absurd (Int32.le_of_lt (Int32.not_le.mp h0)) z)
set_option maxRecDepth 20000 in
theorem l_X3_first (hm : ∀ pc, am_mono (am_lk cl_X3_codeOfFirstCause pc)) {σ : am_M} {R0 : am_R} {f : Int32} : ∀ (m i : Nat) (x : Int32), i + m = 660 → R0 (some (.int (lAt σ cF_codes (fFC σ m x)))) σ → am_Wp (am_lk cl_X3_codeOfFirstCause) 4 [(0, .ref oF), (1, .int f), (2, .int x), (3, .int (nI i))] [] σ R0 := by
  intro m
  induction m with
  | zero =>
    intro i x hi h
    refine am_go hm (fun _ => false) 20 ?_
    exact am_ite (fun _ => h) (fun z => absurd (nI_le (a := 660) (b := i) (by omega) (by omega)) z)
  | succ m ih =>
    intro i x hi h
    refine am_go hm (fun p => Nat.beq p 4) 30 ?_
    refine am_ite (fun z => absurd z (nI_ge (b := 660) (a := i) (by omega) (by omega))) (fun _ => ?_)
    unfold fFC at h
    refine am_ite (fun h1 => ?_) (fun h1 => ?_)
    · rw [if_pos h1] at h; exact h
    · rw [if_neg h1] at h
      exact am_Wp.sub hm (am_le_of (List.forall_mem_cons.mpr ⟨rfl, List.forall_mem_cons.mpr ⟨rfl, List.forall_mem_cons.mpr ⟨rfl, List.forall_mem_cons.mpr ⟨by rw [nI_succ]; rfl, fun _ q => by cases q⟩⟩⟩⟩)) (ih (i + 1) _ (by omega) h)
set_option maxRecDepth 20000 in
theorem v_X3_codeOfFirstCause (hm : ∀ pc, am_mono (am_lk cl_X3_codeOfFirstCause pc)) : ∀ (av : List Value) (σ : am_M) (R0 : am_R), sp_X3_codeOfFirstCause av σ R0 → av.length = 2 ∧ am_Wp (am_lk cl_X3_codeOfFirstCause) 0 (am_args 0 av) [] σ R0 := by
  intro av σ R0 h
  obtain ⟨a, e5, h5⟩ := am_kr1_elim h
  clear h
  subst e5
  refine ⟨rfl, am_go hm (fun p => Nat.beq p 4) 40 ?_⟩
  exact am_Wp.sub hm (am_le_of (List.forall_mem_cons.mpr ⟨rfl, List.forall_mem_cons.mpr ⟨rfl, List.forall_mem_cons.mpr ⟨rfl, List.forall_mem_cons.mpr ⟨rfl, fun _ q => by cases q⟩⟩⟩⟩)) (l_X3_first hm 660 0 a rfl h5)
