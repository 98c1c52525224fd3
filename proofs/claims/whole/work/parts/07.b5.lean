/-! copies: between the world and the snapshot -/
def am_pp (k0 q0 : Nat) (g0 : am_M → Nat → Nat → am_M) : am_S := fun av σ R => match av with
  | [.ref k, .ref q] => bif (Nat.beq k k0 && Nat.beq q q0) || (Nat.beq k q0 && Nat.beq q k0) then R none (g0 σ k q) else False
  | _ => False
theorem am_pp_mono (k0 q0 : Nat) (g0 : am_M → Nat → Nat → am_M) : am_mS (am_pp k0 q0 g0) := by
  intro av σ R R' h hs
  unfold am_pp at hs ⊢
  split at hs
  · rename_i k q
    try dsimp only
    cases hb : (Nat.beq k k0 && Nat.beq q q0) || (Nat.beq k q0 && Nat.beq q k0) with
    | false => rw [hb] at hs; exact hs.elim
    | true => rw [hb] at hs; exact h _ _ hs
  · exact hs.elim
theorem am_pp_elim {k0 q0 : Nat} {g0 : am_M → Nat → Nat → am_M} {av : List Value} {σ : am_M} {R : am_R} (hs : am_pp k0 q0 g0 av σ R) : (av = [.ref k0, .ref q0] ∧ R none (g0 σ k0 q0)) ∨ (av = [.ref q0, .ref k0] ∧ R none (g0 σ q0 k0)) := by
  unfold am_pp at hs
  split at hs
  · rename_i k q
    cases hb : (Nat.beq k k0 && Nat.beq q q0) || (Nat.beq k q0 && Nat.beq q k0) with
    | false => rw [hb] at hs; exact hs.elim
    | true =>
      rw [hb] at hs
      rw [Bool.or_eq_true, Bool.and_eq_true, Bool.and_eq_true] at hb
      rcases hb with ⟨h1, h2⟩ | ⟨h1, h2⟩
      · rw [Nat.eq_of_beq_eq_true h1, Nat.eq_of_beq_eq_true h2] at hs ⊢; exact Or.inl ⟨rfl, hs⟩
      · rw [Nat.eq_of_beq_eq_true h1, Nat.eq_of_beq_eq_true h2] at hs ⊢; exact Or.inr ⟨rfl, hs⟩
  · exact hs.elim
def tCpy (σ : am_M) (k q : Nat) : am_M := bCpy (rCpy (rCpy (rCpy (rCpy (rCpy (rCpy (rCpy (rCpy (rCpy (rCpy (rCpy (rCpy (rCpy (rCpy (rCpy (am_up σ k 0 (σ q 0)) (k + 1) (q + 1)) (k + 3) (q + 3)) (k + 5) (q + 5)) (k + 7) (q + 7)) (k + 9) (q + 9)) (k + 11) (q + 11)) (k + 13) (q + 13)) (k + 15) (q + 15)) (k + 17) (q + 17)) (k + 19) (q + 19)) (k + 21) (q + 21)) (k + 23) (q + 23)) (k + 25) (q + 25)) (k + 27) (q + 27)) (k + 29) (q + 29)) (k + 31) (q + 31)
def sCpy (σ : am_M) (k q : Nat) : am_M := bCpy (rCpy (rCpy (rCpy (rCpy (rCpy (rCpy (rCpy (rCpy (rCpy (am_up σ k 0 (σ q 0)) (k + 1) (q + 1)) (k + 3) (q + 3)) (k + 5) (q + 5)) (k + 7) (q + 7)) (k + 9) (q + 9)) (k + 11) (q + 11)) (k + 13) (q + 13)) (k + 15) (q + 15)) (k + 17) (q + 17)) (k + 19) (q + 19)
def chCpy (σ : am_M) (k q : Nat) : am_M := rCpy (rCpy (rCpy σ (k + 1) (q + 1)) (k + 3) (q + 3)) (k + 5) (q + 5)
def fCpy (σ : am_M) (k q : Nat) : am_M := lCpy (lCpy (lCpy σ (k + 1) (q + 1)) (k + 3) (q + 3)) (k + 5) (q + 5)
def wCpy (σ : am_M) (k q : Nat) : am_M := rCpy (lCpy (lCpy (fCpy (chCpy (sCpy (tCpy (bCpy σ (k + 1) (q + 1)) (k + 6) (q + 6)) (k + 42) (q + 42)) (k + 66) (q + 66)) (k + 73) (q + 73)) (k + 80) (q + 80)) (k + 82) (q + 82)) (k + 84) (q + 84)
def sp_X9_copy := am_pp 21 107 tCpy
def sp_X8_copy := am_pp 57 143 sCpy
def sp_X1_copy := am_pp 81 167 chCpy
def sp_X3_copy := am_pp 88 174 fCpy
def sp_X10_copy := am_pp 15 101 wCpy
theorem sm_X9_copy : am_mS sp_X9_copy := am_pp_mono _ _ _
theorem sm_X8_copy : am_mS sp_X8_copy := am_pp_mono _ _ _
theorem sm_X1_copy : am_mS sp_X1_copy := am_pp_mono _ _ _
theorem sm_X3_copy : am_mS sp_X3_copy := am_pp_mono _ _ _
theorem sm_X10_copy : am_mS sp_X10_copy := am_pp_mono _ _ _
def cl_X9_copy : List (Nat × am_T) := [(0, mt_ald 0 1),
  (1, mt_ald 1 2),
  (2, mt_getf 9 0 5),
  (5, mt_putf 9 0 8),
  (8, mt_ald 0 9),
  (9, mt_getf 9 1 12),
  (12, mt_ald 1 13),
  (13, mt_getf 9 1 16),
  (16, mt_cv 6 1 sp_X6_copy 19),
  (19, mt_ald 0 20),
  (20, mt_getf 9 2 23),
  (23, mt_ald 1 24),
  (24, mt_getf 9 2 27),
  (27, mt_cv 6 1 sp_X6_copy 30),
  (30, mt_ald 0 31),
  (31, mt_getf 9 3 34),
  (34, mt_ald 1 35),
  (35, mt_getf 9 3 38),
  (38, mt_cv 6 1 sp_X6_copy 41),
  (41, mt_ald 0 42),
  (42, mt_getf 9 4 45),
  (45, mt_ald 1 46),
  (46, mt_getf 9 4 49),
  (49, mt_cv 6 1 sp_X6_copy 52),
  (52, mt_ald 0 53),
  (53, mt_getf 9 5 56),
  (56, mt_ald 1 57),
  (57, mt_getf 9 5 60),
  (60, mt_cv 6 1 sp_X6_copy 63),
  (63, mt_ald 0 64),
  (64, mt_getf 9 6 67),
  (67, mt_ald 1 68),
  (68, mt_getf 9 6 71),
  (71, mt_cv 6 1 sp_X6_copy 74),
  (74, mt_ald 0 75),
  (75, mt_getf 9 7 78),
  (78, mt_ald 1 79),
  (79, mt_getf 9 7 82),
  (82, mt_cv 6 1 sp_X6_copy 85),
  (85, mt_ald 0 86),
  (86, mt_getf 9 8 89),
  (89, mt_ald 1 90),
  (90, mt_getf 9 8 93),
  (93, mt_cv 6 1 sp_X6_copy 96),
  (96, mt_ald 0 97),
  (97, mt_getf 9 9 100),
  (100, mt_ald 1 101),
  (101, mt_getf 9 9 104),
  (104, mt_cv 6 1 sp_X6_copy 107),
  (107, mt_ald 0 108),
  (108, mt_getf 9 10 111),
  (111, mt_ald 1 112),
  (112, mt_getf 9 10 115),
  (115, mt_cv 6 1 sp_X6_copy 118),
  (118, mt_ald 0 119),
  (119, mt_getf 9 11 122),
  (122, mt_ald 1 123),
  (123, mt_getf 9 11 126),
  (126, mt_cv 6 1 sp_X6_copy 129),
  (129, mt_ald 0 130),
  (130, mt_getf 9 12 133),
  (133, mt_ald 1 134),
  (134, mt_getf 9 12 137),
  (137, mt_cv 6 1 sp_X6_copy 140),
  (140, mt_ald 0 141),
  (141, mt_getf 9 13 144),
  (144, mt_ald 1 145),
  (145, mt_getf 9 13 148),
  (148, mt_cv 6 1 sp_X6_copy 151),
  (151, mt_ald 0 152),
  (152, mt_getf 9 14 155),
  (155, mt_ald 1 156),
  (156, mt_getf 9 14 159),
  (159, mt_cv 6 1 sp_X6_copy 162),
  (162, mt_ald 0 163),
  (163, mt_getf 9 15 166),
  (166, mt_ald 1 167),
  (167, mt_getf 9 15 170),
  (170, mt_cv 6 1 sp_X6_copy 173),
  (173, mt_ald 0 174),
  (174, mt_getf 9 16 177),
  (177, mt_ald 1 178),
  (178, mt_getf 9 16 181),
  (181, mt_cv 0 1 sp_X0_copy 184),
  (184, mt_vret)]
def cl_X8_copy : List (Nat × am_T) := [(0, mt_ald 0 1),
  (1, mt_ald 1 2),
  (2, mt_getf 8 0 5),
  (5, mt_putf 8 0 8),
  (8, mt_ald 0 9),
  (9, mt_getf 8 1 12),
  (12, mt_ald 1 13),
  (13, mt_getf 8 1 16),
  (16, mt_cv 6 1 sp_X6_copy 19),
  (19, mt_ald 0 20),
  (20, mt_getf 8 2 23),
  (23, mt_ald 1 24),
  (24, mt_getf 8 2 27),
  (27, mt_cv 6 1 sp_X6_copy 30),
  (30, mt_ald 0 31),
  (31, mt_getf 8 3 34),
  (34, mt_ald 1 35),
  (35, mt_getf 8 3 38),
  (38, mt_cv 6 1 sp_X6_copy 41),
  (41, mt_ald 0 42),
  (42, mt_getf 8 4 45),
  (45, mt_ald 1 46),
  (46, mt_getf 8 4 49),
  (49, mt_cv 6 1 sp_X6_copy 52),
  (52, mt_ald 0 53),
  (53, mt_getf 8 5 56),
  (56, mt_ald 1 57),
  (57, mt_getf 8 5 60),
  (60, mt_cv 6 1 sp_X6_copy 63),
  (63, mt_ald 0 64),
  (64, mt_getf 8 6 67),
  (67, mt_ald 1 68),
  (68, mt_getf 8 6 71),
  (71, mt_cv 6 1 sp_X6_copy 74),
  (74, mt_ald 0 75),
  (75, mt_getf 8 7 78),
  (78, mt_ald 1 79),
  (79, mt_getf 8 7 82),
  (82, mt_cv 6 1 sp_X6_copy 85),
  (85, mt_ald 0 86),
  (86, mt_getf 8 8 89),
  (89, mt_ald 1 90),
  (90, mt_getf 8 8 93),
  (93, mt_cv 6 1 sp_X6_copy 96),
  (96, mt_ald 0 97),
  (97, mt_getf 8 9 100),
  (100, mt_ald 1 101),
  (101, mt_getf 8 9 104),
  (104, mt_cv 6 1 sp_X6_copy 107),
  (107, mt_ald 0 108),
  (108, mt_getf 8 10 111),
  (111, mt_ald 1 112),
  (112, mt_getf 8 10 115),
  (115, mt_cv 0 1 sp_X0_copy 118),
  (118, mt_vret)]
def cl_X1_copy : List (Nat × am_T) := [(0, mt_ald 0 1),
  (1, mt_getf 1 0 4),
  (4, mt_ald 1 5),
  (5, mt_getf 1 0 8),
  (8, mt_cv 6 1 sp_X6_copy 11),
  (11, mt_ald 0 12),
  (12, mt_getf 1 1 15),
  (15, mt_ald 1 16),
  (16, mt_getf 1 1 19),
  (19, mt_cv 6 1 sp_X6_copy 22),
  (22, mt_ald 0 23),
  (23, mt_getf 1 2 26),
  (26, mt_ald 1 27),
  (27, mt_getf 1 2 30),
  (30, mt_cv 6 1 sp_X6_copy 33),
  (33, mt_vret)]
def cl_X3_copy : List (Nat × am_T) := [(0, mt_ald 0 1),
  (1, mt_getf 3 0 4),
  (4, mt_ald 1 5),
  (5, mt_getf 3 0 8),
  (8, mt_cv 4 1 sp_X4_copy 11),
  (11, mt_ald 0 12),
  (12, mt_getf 3 1 15),
  (15, mt_ald 1 16),
  (16, mt_getf 3 1 19),
  (19, mt_cv 4 1 sp_X4_copy 22),
  (22, mt_ald 0 23),
  (23, mt_getf 3 2 26),
  (26, mt_ald 1 27),
  (27, mt_getf 3 2 30),
  (30, mt_cv 4 1 sp_X4_copy 33),
  (33, mt_vret)]
def cl_X10_copy : List (Nat × am_T) := [(0, mt_ald 0 1),
  (1, mt_getf 10 0 4),
  (4, mt_ald 1 5),
  (5, mt_getf 10 0 8),
  (8, mt_cv 0 1 sp_X0_copy 11),
  (11, mt_ald 0 12),
  (12, mt_getf 10 1 15),
  (15, mt_ald 1 16),
  (16, mt_getf 10 1 19),
  (19, mt_cv 9 1 sp_X9_copy 22),
  (22, mt_ald 0 23),
  (23, mt_getf 10 2 26),
  (26, mt_ald 1 27),
  (27, mt_getf 10 2 30),
  (30, mt_cv 8 1 sp_X8_copy 33),
  (33, mt_ald 0 34),
  (34, mt_getf 10 3 37),
  (37, mt_ald 1 38),
  (38, mt_getf 10 3 41),
  (41, mt_cv 1 1 sp_X1_copy 44),
  (44, mt_ald 0 45),
  (45, mt_getf 10 4 48),
  (48, mt_ald 1 49),
  (49, mt_getf 10 4 52),
  (52, mt_cv 3 1 sp_X3_copy 55),
  (55, mt_ald 0 56),
  (56, mt_getf 10 5 59),
  (59, mt_ald 1 60),
  (60, mt_getf 10 5 63),
  (63, mt_cv 4 1 sp_X4_copy 66),
  (66, mt_ald 0 67),
  (67, mt_getf 10 6 70),
  (70, mt_ald 1 71),
  (71, mt_getf 10 6 74),
  (74, mt_cv 4 1 sp_X4_copy 77),
  (77, mt_ald 0 78),
  (78, mt_getf 10 7 81),
  (81, mt_ald 1 82),
  (82, mt_getf 10 7 85),
  (85, mt_cv 6 1 sp_X6_copy 88),
  (88, mt_vret)]
set_option maxRecDepth 20000 in
theorem v_X9_copy (hm : ∀ pc, am_mono (am_lk cl_X9_copy pc)) : ∀ (av : List Value) (σ : am_M) (R0 : am_R), sp_X9_copy av σ R0 → av.length = 2 ∧ am_Wp (am_lk cl_X9_copy) 0 (am_args 0 av) [] σ R0 := by
  intro av σ R0 h
  rcases am_pp_elim h with ⟨e, h5⟩ | ⟨e, h5⟩
  · clear h
    subst e
    exact ⟨rfl, am_go hm (fun _ => false) 400 h5⟩
  · clear h
    subst e
    exact ⟨rfl, am_go hm (fun _ => false) 400 h5⟩
set_option maxRecDepth 20000 in
theorem v_X8_copy (hm : ∀ pc, am_mono (am_lk cl_X8_copy pc)) : ∀ (av : List Value) (σ : am_M) (R0 : am_R), sp_X8_copy av σ R0 → av.length = 2 ∧ am_Wp (am_lk cl_X8_copy) 0 (am_args 0 av) [] σ R0 := by
  intro av σ R0 h
  rcases am_pp_elim h with ⟨e, h5⟩ | ⟨e, h5⟩
  · clear h
    subst e
    exact ⟨rfl, am_go hm (fun _ => false) 400 h5⟩
  · clear h
    subst e
    exact ⟨rfl, am_go hm (fun _ => false) 400 h5⟩
set_option maxRecDepth 20000 in
theorem v_X1_copy (hm : ∀ pc, am_mono (am_lk cl_X1_copy pc)) : ∀ (av : List Value) (σ : am_M) (R0 : am_R), sp_X1_copy av σ R0 → av.length = 2 ∧ am_Wp (am_lk cl_X1_copy) 0 (am_args 0 av) [] σ R0 := by
  intro av σ R0 h
  rcases am_pp_elim h with ⟨e, h5⟩ | ⟨e, h5⟩
  · clear h
    subst e
    exact ⟨rfl, am_go hm (fun _ => false) 400 h5⟩
  · clear h
    subst e
    exact ⟨rfl, am_go hm (fun _ => false) 400 h5⟩
set_option maxRecDepth 20000 in
theorem v_X3_copy (hm : ∀ pc, am_mono (am_lk cl_X3_copy pc)) : ∀ (av : List Value) (σ : am_M) (R0 : am_R), sp_X3_copy av σ R0 → av.length = 2 ∧ am_Wp (am_lk cl_X3_copy) 0 (am_args 0 av) [] σ R0 := by
  intro av σ R0 h
  rcases am_pp_elim h with ⟨e, h5⟩ | ⟨e, h5⟩
  · clear h
    subst e
    exact ⟨rfl, am_go hm (fun _ => false) 400 h5⟩
  · clear h
    subst e
    exact ⟨rfl, am_go hm (fun _ => false) 400 h5⟩
set_option maxRecDepth 20000 in
theorem v_X10_copy (hm : ∀ pc, am_mono (am_lk cl_X10_copy pc)) : ∀ (av : List Value) (σ : am_M) (R0 : am_R), sp_X10_copy av σ R0 → av.length = 2 ∧ am_Wp (am_lk cl_X10_copy) 0 (am_args 0 av) [] σ R0 := by
  intro av σ R0 h
  rcases am_pp_elim h with ⟨e, h5⟩ | ⟨e, h5⟩
  · clear h
    subst e
    exact ⟨rfl, am_go hm (fun _ => false) 400 h5⟩
  · clear h
    subst e
    exact ⟨rfl, am_go hm (fun _ => false) 400 h5⟩
