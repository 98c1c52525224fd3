/-! the exchange -/
def xWL (σ : am_M) (t o : Int32) : Int32 := bI (o = -1 ∨ rAt σ cT_waitsSince t < rAt σ cT_waitsSince o)
/-- among the first n tasks that f names: the one that has waited longest, or -1 -/
def xLong (σ : am_M) (f : Int32 → Int32) : Nat → Int32
  | 0 => -1
  | n + 1 => if f (nI n) = 0 then xLong σ f n else if xWL σ (nI n) (xLong σ f n) = 0 then xLong σ f n else nI n
def xLT (σ : am_M) (c : Int32) : Int32 := xLong σ (fun t => tTakes σ t c) (σ oT 0).toNatClampNeg
def xLS (σ : am_M) (c : Int32) : Int32 := xLong σ (fun t => tSends σ t c) (σ oT 0).toNatClampNeg
def xRecv (σ : am_M) (t n ch : Int32) : am_M := if ch = 0 then rChg (rPut σ cT_register t n) cW_counts 10 1 else rChg (rChg (rPut σ cT_register t n) cW_counts 10 1) cT_choices t 1
def xSend (σ : am_M) (t c : Int32) : am_M := if xLT σ c = -1 then (if chRoom σ c = 0 then tWait σ t 2 c c (rAt σ cW_counts 6) else chAdd σ c (rAt σ cT_register t)) else xRecv (wReady σ (xLT σ c)) (xLT σ c) (rAt σ cT_register t) (bI (rAt σ cT_status (xLT σ c) = 4))
def xTakeV (σ : am_M) (_ c _ : Int32) : Int32 := bI (¬ rAt σ cC_sizes c ≤ 0 ∨ ¬ xLS σ c = -1)
def xTake (σ : am_M) (t c ch : Int32) : am_M := if rAt σ cC_sizes c ≤ 0 then (if xLS σ c = -1 then σ else xRecv (wReady σ (xLS σ c)) t (rAt σ cT_register (xLS σ c)) ch) else (if xLS σ c = -1 then xRecv (chTak σ c) t (chAt σ c 0) ch else xRecv (wReady (chAdd (chTak σ c) c (rAt σ cT_register (xLS σ c))) (xLS σ c)) t (chAt σ c 0) ch)
def xReceive (σ : am_M) (t c : Int32) : am_M := if xTakeV σ t c 0 = 0 then tWait (xTake σ t c 0) t 3 c c (rAt (xTake σ t c 0) cW_counts 6) else xTake σ t c 0
def xOdd (σ : am_M) (t : Int32) : Int32 := rAt σ cT_choices t - rAt σ cT_choices t / 2 * 2
def xChoose2 (σ : am_M) (t f s so la : Int32) : am_M := if xTakeV σ t so 1 = 0 then (if xTakeV (xTake σ t so 1) t la 1 = 0 then tWait (xTake (xTake σ t so 1) t la 1) t 4 f s (rAt (xTake (xTake σ t so 1) t la 1) cW_counts 6) else xTake (xTake σ t so 1) t la 1) else xTake σ t so 1
def xChoose (σ : am_M) (t f s : Int32) : am_M := if xOdd σ t = 0 then xChoose2 σ t f s f s else xChoose2 σ t f s s f
def sp_X2_waitsLonger := am_kr2 oE xWL
def sp_X2_longestTaker := am_kr1 oE xLT
def sp_X2_longestSender := am_kr1 oE xLS
def sp_X2_receiveNumber := am_kw3 oE xRecv
def sp_X2_send := am_kw2 oE xSend
def sp_X2_takeNumber := am_kb3 oE xTakeV xTake
def sp_X2_receive := am_kw2 oE xReceive
def sp_X2_choose := am_kw3 oE xChoose
theorem sm_X2_waitsLonger : am_mS sp_X2_waitsLonger := am_kr2_mono _ _
theorem sm_X2_longestTaker : am_mS sp_X2_longestTaker := am_kr1_mono _ _
theorem sm_X2_longestSender : am_mS sp_X2_longestSender := am_kr1_mono _ _
theorem sm_X2_receiveNumber : am_mS sp_X2_receiveNumber := am_kw3_mono _ _
theorem sm_X2_send : am_mS sp_X2_send := am_kw2_mono _ _
theorem sm_X2_takeNumber : am_mS sp_X2_takeNumber := am_kb3_mono _ _ _
theorem sm_X2_receive : am_mS sp_X2_receive := am_kw2_mono _ _
theorem sm_X2_choose : am_mS sp_X2_choose := am_kw3_mono _ _
def cl_X2_waitsLonger : List (Nat × am_T) := [(0, mt_ild 2 1),
  (1, mt_ic (-1) 2),
  (2, mt_icmp_eq 30 5),
  (5, mt_ald 0 6),
  (6, mt_getf 2 1 9),
  (9, mt_getf 9 14 12),
  (12, mt_ild 1 13),
  (13, mt_cv 6 1 sp_X6_at 16),
  (16, mt_ald 0 17),
  (17, mt_getf 2 1 20),
  (20, mt_getf 9 14 23),
  (23, mt_ild 2 24),
  (24, mt_cv 6 1 sp_X6_at 27),
  (27, mt_icmp_ge 34 30),
  (30, mt_ic (1) 31),
  (31, mt_goto 35),
  (34, mt_ic (0) 35),
  (35, mt_zret)]
def cl_X2_longestTaker : List (Nat × am_T) := [(0, mt_ic (-1) 1),
  (1, mt_sti 2 2),
  (2, mt_ic (0) 3),
  (3, mt_sti 3 4),
  (4, mt_ild 3 5),
  (5, mt_ald 0 6),
  (6, mt_getf 2 1 9),
  (9, mt_getf 9 0 12),
  (12, mt_icmp_ge 44 15),
  (15, mt_ald 0 16),
  (16, mt_getf 2 1 19),
  (19, mt_ild 3 20),
  (20, mt_ild 1 21),
  (21, mt_cv 9 2 sp_X9_takesFrom 24),
  (24, mt_if_eq 38 27),
  (27, mt_ald 0 28),
  (28, mt_ild 3 29),
  (29, mt_ild 2 30),
  (30, mt_cv 2 2 sp_X2_waitsLonger 33),
  (33, mt_if_eq 38 36),
  (36, mt_ild 3 37),
  (37, mt_sti 2 38),
  (38, mt_inc 3 (1) 41),
  (41, mt_goto 4),
  (44, mt_ild 2 45),
  (45, mt_iret)]
def cl_X2_longestSender : List (Nat × am_T) := [(0, mt_ic (-1) 1),
  (1, mt_sti 2 2),
  (2, mt_ic (0) 3),
  (3, mt_sti 3 4),
  (4, mt_ild 3 5),
  (5, mt_ald 0 6),
  (6, mt_getf 2 1 9),
  (9, mt_getf 9 0 12),
  (12, mt_icmp_ge 44 15),
  (15, mt_ald 0 16),
  (16, mt_getf 2 1 19),
  (19, mt_ild 3 20),
  (20, mt_ild 1 21),
  (21, mt_cv 9 2 sp_X9_sendsTo 24),
  (24, mt_if_eq 38 27),
  (27, mt_ald 0 28),
  (28, mt_ild 3 29),
  (29, mt_ild 2 30),
  (30, mt_cv 2 2 sp_X2_waitsLonger 33),
  (33, mt_if_eq 38 36),
  (36, mt_ild 3 37),
  (37, mt_sti 2 38),
  (38, mt_inc 3 (1) 41),
  (41, mt_goto 4),
  (44, mt_ild 2 45),
  (45, mt_iret)]
def cl_X2_receiveNumber : List (Nat × am_T) := [(0, mt_ald 0 1),
  (1, mt_getf 2 1 4),
  (4, mt_getf 9 2 7),
  (7, mt_ild 1 8),
  (8, mt_ild 2 9),
  (9, mt_cv 6 2 sp_X6_put 12),
  (12, mt_ald 0 13),
  (13, mt_getf 2 0 16),
  (16, mt_getf 10 7 19),
  (19, mt_ic (10) 21),
  (21, mt_ic (1) 22),
  (22, mt_cv 6 2 sp_X6_change 25),
  (25, mt_ild 3 26),
  (26, mt_if_eq 41 29),
  (29, mt_ald 0 30),
  (30, mt_getf 2 1 33),
  (33, mt_getf 9 6 36),
  (36, mt_ild 1 37),
  (37, mt_ic (1) 38),
  (38, mt_cv 6 2 sp_X6_change 41),
  (41, mt_vret)]
def cl_X2_send : List (Nat × am_T) := [(0, mt_ald 0 1),
  (1, mt_ild 2 2),
  (2, mt_cv 2 1 sp_X2_longestTaker 5),
  (5, mt_sti 3 6),
  (6, mt_ald 0 7),
  (7, mt_getf 2 1 10),
  (10, mt_getf 9 2 13),
  (13, mt_ild 1 14),
  (14, mt_cv 6 1 sp_X6_at 17),
  (17, mt_sti 4 19),
  (19, mt_ild 3 20),
  (20, mt_ic (-1) 21),
  (21, mt_icmp_eq 66 24),
  (24, mt_ald 0 25),
  (25, mt_getf 2 1 28),
  (28, mt_getf 9 1 31),
  (31, mt_ild 3 32),
  (32, mt_cv 6 1 sp_X6_at 35),
  (35, mt_ic (4) 36),
  (36, mt_icmp_ne 43 39),
  (39, mt_ic (1) 40),
  (40, mt_goto 44),
  (43, mt_ic (0) 44),
  (44, mt_sti 5 46),
  (46, mt_ald 0 47),
  (47, mt_getf 2 0 50),
  (50, mt_ild 3 51),
  (51, mt_cv 10 1 sp_X10_makeReady 54),
  (54, mt_ald 0 55),
  (55, mt_ild 3 56),
  (56, mt_ild 4 58),
  (58, mt_ild 5 60),
  (60, mt_cv 2 3 sp_X2_receiveNumber 63),
  (63, mt_goto 113),
  (66, mt_ald 0 67),
  (67, mt_getf 2 2 70),
  (70, mt_ild 2 71),
  (71, mt_cv 1 1 sp_X1_hasRoom 74),
  (74, mt_if_eq 90 77),
  (77, mt_ald 0 78),
  (78, mt_getf 2 2 81),
  (81, mt_ild 2 82),
  (82, mt_ild 4 84),
  (84, mt_cv 1 2 sp_X1_add 87),
  (87, mt_goto 113),
  (90, mt_ald 0 91),
  (91, mt_getf 2 1 94),
  (94, mt_ild 1 95),
  (95, mt_ic (2) 96),
  (96, mt_ild 2 97),
  (97, mt_ild 2 98),
  (98, mt_ald 0 99),
  (99, mt_getf 2 0 102),
  (102, mt_getf 10 7 105),
  (105, mt_ic (6) 107),
  (107, mt_cv 6 1 sp_X6_at 110),
  (110, mt_cv 9 5 sp_X9_waitFor 113),
  (113, mt_vret)]
def cl_X2_takeNumber : List (Nat × am_T) := [(0, mt_ald 0 1),
  (1, mt_ild 2 2),
  (2, mt_cv 2 1 sp_X2_longestSender 5),
  (5, mt_sti 4 7),
  (7, mt_ald 0 8),
  (8, mt_getf 2 1 11),
  (11, mt_getf 9 2 14),
  (14, mt_ild 4 16),
  (16, mt_cv 6 1 sp_X6_at 19),
  (19, mt_sti 5 21),
  (21, mt_ald 0 22),
  (22, mt_getf 2 2 25),
  (25, mt_getf 1 1 28),
  (28, mt_ild 2 29),
  (29, mt_cv 6 1 sp_X6_at 32),
  (32, mt_if_le 68 35),
  (35, mt_ald 0 36),
  (36, mt_getf 2 2 39),
  (39, mt_ild 2 40),
  (40, mt_cv 1 1 sp_X1_takeFirst 43),
  (43, mt_sti 6 45),
  (45, mt_ild 4 47),
  (47, mt_ic (-1) 48),
  (48, mt_icmp_eq 61 51),
  (51, mt_ald 0 52),
  (52, mt_getf 2 2 55),
  (55, mt_ild 2 56),
  (56, mt_ild 5 58),
  (58, mt_cv 1 2 sp_X1_add 61),
  (61, mt_ild 6 63),
  (63, mt_sti 5 65),
  (65, mt_goto 76),
  (68, mt_ild 4 70),
  (70, mt_ic (-1) 71),
  (71, mt_icmp_ne 76 74),
  (74, mt_ic (0) 75),
  (75, mt_zret),
  (76, mt_ild 4 78),
  (78, mt_ic (-1) 79),
  (79, mt_icmp_eq 91 82),
  (82, mt_ald 0 83),
  (83, mt_getf 2 0 86),
  (86, mt_ild 4 88),
  (88, mt_cv 10 1 sp_X10_makeReady 91),
  (91, mt_ald 0 92),
  (92, mt_ild 1 93),
  (93, mt_ild 5 95),
  (95, mt_ild 3 96),
  (96, mt_cv 2 3 sp_X2_receiveNumber 99),
  (99, mt_ic (1) 100),
  (100, mt_zret)]
def cl_X2_receive : List (Nat × am_T) := [(0, mt_ald 0 1),
  (1, mt_ild 1 2),
  (2, mt_ild 2 3),
  (3, mt_ic (0) 4),
  (4, mt_cv 2 3 sp_X2_takeNumber 7),
  (7, mt_if_ne 33 10),
  (10, mt_ald 0 11),
  (11, mt_getf 2 1 14),
  (14, mt_ild 1 15),
  (15, mt_ic (3) 16),
  (16, mt_ild 2 17),
  (17, mt_ild 2 18),
  (18, mt_ald 0 19),
  (19, mt_getf 2 0 22),
  (22, mt_getf 10 7 25),
  (25, mt_ic (6) 27),
  (27, mt_cv 6 1 sp_X6_at 30),
  (30, mt_cv 9 5 sp_X9_waitFor 33),
  (33, mt_vret)]
def cl_X2_choose : List (Nat × am_T) := [(0, mt_ald 0 1),
  (1, mt_getf 2 1 4),
  (4, mt_getf 9 6 7),
  (7, mt_ild 1 8),
  (8, mt_cv 6 1 sp_X6_at 11),
  (11, mt_ic (2) 12),
  (12, mt_irem 13),
  (13, mt_if_ne 20 16),
  (16, mt_ic (1) 17),
  (17, mt_goto 21),
  (20, mt_ic (0) 21),
  (21, mt_sti 4 23),
  (23, mt_ild 4 25),
  (25, mt_if_eq 32 28),
  (28, mt_ild 2 29),
  (29, mt_goto 33),
  (32, mt_ild 3 33),
  (33, mt_sti 5 35),
  (35, mt_ild 4 37),
  (37, mt_if_eq 44 40),
  (40, mt_ild 3 41),
  (41, mt_goto 45),
  (44, mt_ild 2 45),
  (45, mt_sti 6 47),
  (47, mt_ald 0 48),
  (48, mt_ild 1 49),
  (49, mt_ild 5 51),
  (51, mt_ic (1) 52),
  (52, mt_cv 2 3 sp_X2_takeNumber 55),
  (55, mt_if_ne 92 58),
  (58, mt_ald 0 59),
  (59, mt_ild 1 60),
  (60, mt_ild 6 62),
  (62, mt_ic (1) 63),
  (63, mt_cv 2 3 sp_X2_takeNumber 66),
  (66, mt_if_ne 92 69),
  (69, mt_ald 0 70),
  (70, mt_getf 2 1 73),
  (73, mt_ild 1 74),
  (74, mt_ic (4) 75),
  (75, mt_ild 2 76),
  (76, mt_ild 3 77),
  (77, mt_ald 0 78),
  (78, mt_getf 2 0 81),
  (81, mt_getf 10 7 84),
  (84, mt_ic (6) 86),
  (86, mt_cv 6 1 sp_X6_at 89),
  (89, mt_cv 9 5 sp_X9_waitFor 92),
  (92, mt_vret)]
set_option maxRecDepth 20000 in
theorem v_X2_waitsLonger (hm : ∀ pc, am_mono (am_lk cl_X2_waitsLonger pc)) : ∀ (av : List Value) (σ : am_M) (R0 : am_R), sp_X2_waitsLonger av σ R0 → av.length = 3 ∧ am_Wp (am_lk cl_X2_waitsLonger) 0 (am_args 0 av) [] σ R0 := by
  intro av σ R0 h
  obtain ⟨a, b, e5, h5⟩ := am_kr2_elim h
  clear h
  subst e5
  refine ⟨rfl, am_go hm (fun _ => false) 400 ?_⟩
  refine am_ite (fun h0 => am_b1 h5 (Or.inl h0)) (fun h0 => ?_)
  exact am_ite (fun h1 => am_b0 h5 (fun q => q.elim h0 (Int32.not_lt.mpr h1))) (fun h1 => am_b1 h5 (Or.inr (Int32.not_le.mp h1)))
set_option maxRecDepth 20000 in
theorem l_X2_longestTaker (hm : ∀ pc, am_mono (am_lk cl_X2_longestTaker pc)) {σ : am_M} {R0 : am_R} {c : Int32} (h : R0 (some (.int (xLT σ c))) σ) : ∀ (m i : Nat), i + m = (σ oT 0).toNatClampNeg → am_Wp (am_lk cl_X2_longestTaker) 4 [(0, .ref oE), (1, .int c), (2, .int (xLong σ (fun t => tTakes σ t c) i)), (3, .int (nI i))] [] σ R0 := by
  intro m
  induction m with
  | zero =>
    intro i hi
    refine am_go hm (fun _ => false) 20 ?_
    refine am_ite (fun _ => ?_) (fun z => absurd (am_z hi rfl) z)
    have e : i = (σ oT 0).toNatClampNeg := by omega
    rw [e]
    exact h
  | succ m ih =>
    intro i hi
    refine am_go hm (fun p => Nat.beq p 4) 40 ?_
    refine am_ite (fun z => absurd z (am_s hi)) (fun _ => ?_)
    have ih2 := ih (i + 1) (by omega)
    unfold xLong at ih2
    refine am_ite (fun h1 => ?_) (fun h1 => ?_)
    · rw [if_pos h1] at ih2
      exact am_Wp.sub hm (am_le_of (List.forall_mem_cons.mpr ⟨rfl, List.forall_mem_cons.mpr ⟨rfl, List.forall_mem_cons.mpr ⟨rfl, List.forall_mem_cons.mpr ⟨by rw [nI_succ]; rfl, fun _ q => by cases q⟩⟩⟩⟩)) ih2
    rw [if_neg h1] at ih2
    refine am_ite (fun h2 => ?_) (fun h2 => ?_)
    · rw [if_pos h2] at ih2
      exact am_Wp.sub hm (am_le_of (List.forall_mem_cons.mpr ⟨rfl, List.forall_mem_cons.mpr ⟨rfl, List.forall_mem_cons.mpr ⟨rfl, List.forall_mem_cons.mpr ⟨by rw [nI_succ]; rfl, fun _ q => by cases q⟩⟩⟩⟩)) ih2
    · rw [if_neg h2] at ih2
      exact am_Wp.sub hm (am_le_of (List.forall_mem_cons.mpr ⟨rfl, List.forall_mem_cons.mpr ⟨rfl, List.forall_mem_cons.mpr ⟨rfl, List.forall_mem_cons.mpr ⟨by rw [nI_succ]; rfl, fun _ q => by cases q⟩⟩⟩⟩)) ih2
set_option maxRecDepth 20000 in
theorem v_X2_longestTaker (hm : ∀ pc, am_mono (am_lk cl_X2_longestTaker pc)) : ∀ (av : List Value) (σ : am_M) (R0 : am_R), sp_X2_longestTaker av σ R0 → av.length = 2 ∧ am_Wp (am_lk cl_X2_longestTaker) 0 (am_args 0 av) [] σ R0 := by
  intro av σ R0 h
  obtain ⟨a, e5, h5⟩ := am_kr1_elim h
  clear h
  subst e5
  refine ⟨rfl, am_go hm (fun p => Nat.beq p 4) 40 ?_⟩
  exact am_Wp.sub hm (am_le_of (List.forall_mem_cons.mpr ⟨rfl, List.forall_mem_cons.mpr ⟨rfl, List.forall_mem_cons.mpr ⟨rfl, List.forall_mem_cons.mpr ⟨rfl, fun _ q => by cases q⟩⟩⟩⟩)) (l_X2_longestTaker hm h5 _ 0 (Nat.zero_add _))
set_option maxRecDepth 20000 in
theorem l_X2_longestSender (hm : ∀ pc, am_mono (am_lk cl_X2_longestSender pc)) {σ : am_M} {R0 : am_R} {c : Int32} (h : R0 (some (.int (xLS σ c))) σ) : ∀ (m i : Nat), i + m = (σ oT 0).toNatClampNeg → am_Wp (am_lk cl_X2_longestSender) 4 [(0, .ref oE), (1, .int c), (2, .int (xLong σ (fun t => tSends σ t c) i)), (3, .int (nI i))] [] σ R0 := by
  intro m
  induction m with
  | zero =>
    intro i hi
    refine am_go hm (fun _ => false) 20 ?_
    refine am_ite (fun _ => ?_) (fun z => absurd (am_z hi rfl) z)
    have e : i = (σ oT 0).toNatClampNeg := by omega
    rw [e]
    exact h
  | succ m ih =>
    intro i hi
    refine am_go hm (fun p => Nat.beq p 4) 40 ?_
    refine am_ite (fun z => absurd z (am_s hi)) (fun _ => ?_)
    have ih2 := ih (i + 1) (by omega)
    unfold xLong at ih2
    refine am_ite (fun h1 => ?_) (fun h1 => ?_)
    · rw [if_pos h1] at ih2
      exact am_Wp.sub hm (am_le_of (List.forall_mem_cons.mpr ⟨rfl, List.forall_mem_cons.mpr ⟨rfl, List.forall_mem_cons.mpr ⟨rfl, List.forall_mem_cons.mpr ⟨by rw [nI_succ]; rfl, fun _ q => by cases q⟩⟩⟩⟩)) ih2
    rw [if_neg h1] at ih2
    refine am_ite (fun h2 => ?_) (fun h2 => ?_)
    · rw [if_pos h2] at ih2
      exact am_Wp.sub hm (am_le_of (List.forall_mem_cons.mpr ⟨rfl, List.forall_mem_cons.mpr ⟨rfl, List.forall_mem_cons.mpr ⟨rfl, List.forall_mem_cons.mpr ⟨by rw [nI_succ]; rfl, fun _ q => by cases q⟩⟩⟩⟩)) ih2
    · rw [if_neg h2] at ih2
      exact am_Wp.sub hm (am_le_of (List.forall_mem_cons.mpr ⟨rfl, List.forall_mem_cons.mpr ⟨rfl, List.forall_mem_cons.mpr ⟨rfl, List.forall_mem_cons.mpr ⟨by rw [nI_succ]; rfl, fun _ q => by cases q⟩⟩⟩⟩)) ih2
set_option maxRecDepth 20000 in
theorem v_X2_longestSender (hm : ∀ pc, am_mono (am_lk cl_X2_longestSender pc)) : ∀ (av : List Value) (σ : am_M) (R0 : am_R), sp_X2_longestSender av σ R0 → av.length = 2 ∧ am_Wp (am_lk cl_X2_longestSender) 0 (am_args 0 av) [] σ R0 := by
  intro av σ R0 h
  obtain ⟨a, e5, h5⟩ := am_kr1_elim h
  clear h
  subst e5
  refine ⟨rfl, am_go hm (fun p => Nat.beq p 4) 40 ?_⟩
  exact am_Wp.sub hm (am_le_of (List.forall_mem_cons.mpr ⟨rfl, List.forall_mem_cons.mpr ⟨rfl, List.forall_mem_cons.mpr ⟨rfl, List.forall_mem_cons.mpr ⟨rfl, fun _ q => by cases q⟩⟩⟩⟩)) (l_X2_longestSender hm h5 _ 0 (Nat.zero_add _))
set_option maxRecDepth 20000 in
theorem v_X2_receiveNumber (hm : ∀ pc, am_mono (am_lk cl_X2_receiveNumber pc)) : ∀ (av : List Value) (σ : am_M) (R0 : am_R), sp_X2_receiveNumber av σ R0 → av.length = 4 ∧ am_Wp (am_lk cl_X2_receiveNumber) 0 (am_args 0 av) [] σ R0 := by
  intro av σ R0 h
  obtain ⟨a, b, c, e5, h5⟩ := am_kw3_elim h
  clear h
  subst e5
  refine ⟨rfl, am_go hm (fun _ => false) 400 ?_⟩
  unfold xRecv at h5
  exact am_ite (fun h0 => sP h0 h5) (fun h0 => sN h0 h5)
set_option maxRecDepth 20000 in
theorem v_X2_send (hm : ∀ pc, am_mono (am_lk cl_X2_send pc)) : ∀ (av : List Value) (σ : am_M) (R0 : am_R), sp_X2_send av σ R0 → av.length = 3 ∧ am_Wp (am_lk cl_X2_send) 0 (am_args 0 av) [] σ R0 := by
  intro av σ R0 h
  obtain ⟨a, b, e5, h5⟩ := am_kw2_elim h
  clear h
  subst e5
  refine ⟨rfl, am_go hm (fun _ => false) 400 ?_⟩
  unfold xSend at h5
  refine am_ite (fun h0 => ?_) (fun h0 => ?_)
  · replace h5 := sP h0 h5
    exact am_ite (fun h1 => sP h1 h5) (fun h1 => sN h1 h5)
  · replace h5 := sN h0 h5
    refine am_ite (fun h1 => ?_) (fun h1 => ?_)
    · rw [bI_t h1] at h5; exact h5
    · rw [bI_f h1] at h5; exact h5
set_option maxRecDepth 20000 in
theorem v_X2_takeNumber (hm : ∀ pc, am_mono (am_lk cl_X2_takeNumber pc)) : ∀ (av : List Value) (σ : am_M) (R0 : am_R), sp_X2_takeNumber av σ R0 → av.length = 4 ∧ am_Wp (am_lk cl_X2_takeNumber) 0 (am_args 0 av) [] σ R0 := by
  intro av σ R0 h
  obtain ⟨a, b, c, e5, h5⟩ := am_kb3_elim h
  clear h
  subst e5
  refine ⟨rfl, am_go hm (fun _ => false) 400 ?_⟩
  unfold xTake at h5
  refine am_ite (fun h0 => ?_) (fun h0 => ?_)
  · replace h5 := sP h0 h5
    refine am_ite (fun h1 => ?_) (fun h1 => ?_)
    · exact am_b0 (sP h1 h5) (fun q => q.elim (fun z => z h0) (fun z => z h1))
    · refine am_ite (fun z => absurd z h1) (fun _ => ?_)
      exact am_b1 (sN h1 h5) (Or.inr h1)
  · replace h5 := sN h0 h5
    refine am_ite (fun h1 => ?_) (fun h1 => ?_)
    · refine am_ite (fun _ => ?_) (fun z => absurd h1 z)
      exact am_b1 (sP h1 h5) (Or.inl h0)
    · refine am_ite (fun z => absurd z h1) (fun _ => ?_)
      exact am_b1 (sN h1 h5) (Or.inl h0)
set_option maxRecDepth 20000 in
theorem v_X2_receive (hm : ∀ pc, am_mono (am_lk cl_X2_receive pc)) : ∀ (av : List Value) (σ : am_M) (R0 : am_R), sp_X2_receive av σ R0 → av.length = 3 ∧ am_Wp (am_lk cl_X2_receive) 0 (am_args 0 av) [] σ R0 := by
  intro av σ R0 h
  obtain ⟨a, b, e5, h5⟩ := am_kw2_elim h
  clear h
  subst e5
  refine ⟨rfl, am_go hm (fun _ => false) 400 ?_⟩
  unfold xReceive at h5
  exact am_ite (fun h0 => sP h0 h5) (fun h0 => sN h0 h5)
set_option maxRecDepth 20000 in
theorem v_X2_choose (hm : ∀ pc, am_mono (am_lk cl_X2_choose pc)) : ∀ (av : List Value) (σ : am_M) (R0 : am_R), sp_X2_choose av σ R0 → av.length = 4 ∧ am_Wp (am_lk cl_X2_choose) 0 (am_args 0 av) [] σ R0 := by
  intro av σ R0 h
  obtain ⟨a, b, c, e5, h5⟩ := am_kw3_elim h
  clear h
  subst e5
  unfold xChoose at h5
  refine ⟨rfl, am_go hm (fun p => Nat.beq p 47) 60 ?_⟩
  have key : ∀ (so la x : Int32) (ls : am_L), (∀ q ∈ ([(0, .ref oE), (1, .int a), (2, .int b), (3, .int c), (5, .int so), (6, .int la)] : am_L), am_lv ls q.1 = some q.2) → R0 none (xChoose2 σ a b c so la) → am_Wp (am_lk cl_X2_choose) 47 ls [] σ R0 := by
    intro so la x ls hl h6
    unfold xChoose2 at h6
    refine am_Wp.sub hm (am_le_of hl) (am_go hm (fun _ => false) 60 ?_)
    refine am_ite (fun h0 => ?_) (fun h0 => sN h0 h6)
    replace h6 := sP h0 h6
    exact am_ite (fun h1 => sP h1 h6) (fun h1 => sN h1 h6)
  refine am_ite (fun h0 => ?_) (fun h0 => ?_)
  · replace h5 := sP h0 h5
    refine am_ite (fun z => absurd z (by decide)) (fun _ => ?_)
    refine am_ite (fun z => absurd z (by decide)) (fun _ => ?_)
    exact key b c 1 _ (List.forall_mem_cons.mpr ⟨rfl, List.forall_mem_cons.mpr ⟨rfl, List.forall_mem_cons.mpr ⟨rfl, List.forall_mem_cons.mpr ⟨rfl, List.forall_mem_cons.mpr ⟨rfl, List.forall_mem_cons.mpr ⟨rfl, fun _ q => by cases q⟩⟩⟩⟩⟩⟩) h5
  · replace h5 := sN h0 h5
    refine am_ite (fun _ => ?_) (fun z => absurd rfl z)
    refine am_ite (fun _ => ?_) (fun z => absurd rfl z)
    exact key c b 1 _ (List.forall_mem_cons.mpr ⟨rfl, List.forall_mem_cons.mpr ⟨rfl, List.forall_mem_cons.mpr ⟨rfl, List.forall_mem_cons.mpr ⟨rfl, List.forall_mem_cons.mpr ⟨rfl, List.forall_mem_cons.mpr ⟨rfl, fun _ q => by cases q⟩⟩⟩⟩⟩⟩) h5
