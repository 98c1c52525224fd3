/-! the reader -/
theorem pP {c : Prop} [Decidable c] {R : am_R} {p q : Int32 × am_M} (hc : c) (h5 : R (some (.int (if c then p else q).1)) (if c then p else q).2) : R (some (.int p.1)) p.2 := by rw [if_pos hc] at h5; exact h5
theorem pN {c : Prop} [Decidable c] {R : am_R} {p q : Int32 × am_M} (hc : ¬ c) (h5 : R (some (.int (if c then p else q).1)) (if c then p else q).2) : R (some (.int q.1)) q.2 := by rw [if_neg hc] at h5; exact h5
def am_z0 (K Q : Nat) (f0 : am_M → Int32) : am_S := fun av σ R => match av with
  | [.ref k, .ref q] => bif Nat.beq k K && Nat.beq q Q then R (some (.int (f0 σ))) σ else False
  | _ => False
theorem am_z0_mono (K Q : Nat) (f0 : am_M → Int32) : am_mS (am_z0 K Q f0) := by
  intro av σ R R' h hs
  unfold am_z0 at hs ⊢
  split at hs
  · rename_i k q
    try dsimp only
    cases hb : Nat.beq k K && Nat.beq q Q with
    | false => rw [hb] at hs; exact hs.elim
    | true => rw [hb] at hs; exact h _ _ hs
  · exact hs.elim
theorem am_z0_elim {K Q : Nat} {f0 : am_M → Int32} {av : List Value} {σ : am_M} {R : am_R} (hs : am_z0 K Q f0 av σ R) : av = [.ref K, .ref Q] ∧ R (some (.int (f0 σ))) σ := by
  unfold am_z0 at hs
  split at hs
  · rename_i k q
    cases hb : Nat.beq k K && Nat.beq q Q with
    | false => rw [hb] at hs; exact hs.elim
    | true =>
      rw [hb] at hs
      rw [Bool.and_eq_true] at hb
      exact ⟨by rw [Nat.eq_of_beq_eq_true hb.1, Nat.eq_of_beq_eq_true hb.2], hs⟩
  · exact hs.elim
def am_zw (K Q : Nat) (g0 : am_M → am_M) : am_S := fun av σ R => match av with
  | [.ref k, .ref q] => bif Nat.beq k K && Nat.beq q Q then R none (g0 σ) else False
  | _ => False
theorem am_zw_mono (K Q : Nat) (g0 : am_M → am_M) : am_mS (am_zw K Q g0) := by
  intro av σ R R' h hs
  unfold am_zw at hs ⊢
  split at hs
  · rename_i k q
    try dsimp only
    cases hb : Nat.beq k K && Nat.beq q Q with
    | false => rw [hb] at hs; exact hs.elim
    | true => rw [hb] at hs; exact h _ _ hs
  · exact hs.elim
theorem am_zw_elim {K Q : Nat} {g0 : am_M → am_M} {av : List Value} {σ : am_M} {R : am_R} (hs : am_zw K Q g0 av σ R) : av = [.ref K, .ref Q] ∧ R none (g0 σ) := by
  unfold am_zw at hs
  split at hs
  · rename_i k q
    cases hb : Nat.beq k K && Nat.beq q Q with
    | false => rw [hb] at hs; exact hs.elim
    | true =>
      rw [hb] at hs
      rw [Bool.and_eq_true] at hb
      exact ⟨by rw [Nat.eq_of_beq_eq_true hb.1, Nat.eq_of_beq_eq_true hb.2], hs⟩
  · exact hs.elim
def pHere (σ : am_M) : Int32 := lAt σ oX (σ oR 6)
def pDig (σ : am_M) (i : Int32) : Int32 := lAt σ oX i - 48
def pPassV (σ : am_M) (a b : Int32) : Int32 := bI (¬ pHere σ < a ∧ pHere σ ≤ b)
def pPass (σ : am_M) (a b : Int32) : am_M := if pHere σ < a then σ else if pHere σ ≤ b then am_up σ oR 6 (σ oR 6 + 1) else σ
def pOpN (σ : am_M) : Nat → Int32 → Int32 → Int32
  | 0, _, acc => acc
  | n + 1, i, acc => if σ oR 6 ≤ i then acc else pOpN σ n (i + 1) (10 * acc + pDig σ i)
def pOpF (σ : am_M) (s : Int32) : Int32 := pOpN σ ((σ oR 6).toInt - s.toInt).toNat s 0
def pMayA (o b : Int32) : Int32 := bI (¬ 5 ≤ o ∧ b = 0)
def pMayB (o b : Int32) : Int32 := bI (¬ o ≤ 0 ∧ b = 0)
def pMayC (o : Int32) : Int32 := bI (¬ o ≤ 0)
def pMay (s o b : Int32) : Int32 := if s = 33 then 1 else if s = 40 then pMayA o b else if s = 41 then pMayB o b else if s = 43 then 1 else if s = 45 then 1 else if s = 60 then 1 else if s = 62 then 1 else if s = 63 then 1 else if s = 91 then pMayA o b else if s = 94 then pMayB o b else if s = 112 then pMayC o else if s = 119 then 1 else if s = 120 then pMayC o else if s = 121 then 1 else if s = 122 then 1 else if s = 123 then pMayA o b else 0
def pPassP (σ : am_M) (a b : Int32) : Int32 × am_M := (pPassV σ a b, pPass σ a b)
def pPass2 (σ : am_M) (a b : Int32) : Int32 × am_M := if pPassV σ a b = 0 then (0, pPass σ a b) else pPassP (pPass σ a b) a b
def pOper (σ : am_M) (s : Int32) : Int32 × am_M := if s = 33 then pPassP σ 49 57 else if s = 43 then pPassP σ 49 57 else if s = 45 then pPassP σ 49 57 else if s = 60 then pPassP σ 48 51 else if s = 62 then pPassP σ 48 51 else if s = 63 then pPass2 σ 48 51 else if s = 91 then pPassP σ 49 57 else if s = 94 then pPassP σ 48 53 else if s = 112 then pPassP σ 48 53 else if s = 119 then pPassP σ 49 57 else (1, σ)
def pRoomC (σ : am_M) (s : Int32) : Int32 × am_M := if pPassV σ 59 59 = 0 then (0, pPass σ 59 59) else (1, lAdd (lAdd (pPass σ 59 59) cR_roomChannels (pDig (pPass σ 59 59) s)) cR_roomSizes (pDig (lAdd (pPass σ 59 59) cR_roomChannels (pDig (pPass σ 59 59) s)) (s + 1)))
def pRoomB (σ : am_M) (s : Int32) : Int32 × am_M := if pPassV σ 48 51 = 0 then (0, pPass σ 48 51) else pRoomC (pPass σ 48 51) s
def pRoomA (σ : am_M) (s : Int32) : Int32 × am_M := if pPassV σ 48 51 = 0 then (0, pPass σ 48 51) else pRoomB (pPass σ 48 51) s
def pRoom (σ : am_M) : Int32 × am_M := pRoomA (am_up σ oR 6 (σ oR 6 + 1)) (am_up σ oR 6 (σ oR 6 + 1) oR 6)
def pDop (s : Int32) : Int32 := if iOpens s = 0 then (if s = 41 then -1 else 0) else 1
/-- behind an instruction's sign: its operand, and on with the rest -/
def pInsO (rec : am_M → Int32 → Int32 → Int32 × am_M) (p s st op : Int32) (q : Int32 × am_M) : Int32 × am_M := if q.1 = 0 then (0, q.2) else rec (bAdd q.2 cR_drafts p (100 * s + pOpF q.2 (st + 1))) (op + pDop s) (bI (s = 122))
def pInsN (p : Int32) : Nat → am_M → Int32 → Int32 → Int32 × am_M
  | 0, σ, _, _ => (0, σ)
  | n + 1, σ, op, bz => if pHere σ = 59 ∧ op = 0 ∧ bz = 0 then pPassP σ 59 59 else if n = 0 then (0, σ) else if pMay (pHere σ) op bz = 0 then (0, σ) else pInsO (pInsN p n) p (pHere σ) (σ oR 6) op (pOper (am_up σ oR 6 (σ oR 6 + 1)) (pHere σ))
def pInstr (σ : am_M) (p : Int32) : Int32 × am_M := pInsN p 25 σ 0 0
def pProgB (σ : am_M) (p : Int32) : Int32 × am_M := if pPassV σ 58 58 = 0 then (0, pPass σ 58 58) else pInstr (rPut (bEmp (pPass σ 58 58) cR_drafts p) cR_drafted p 1) p
def pProgA (σ : am_M) (p : Int32) : Int32 × am_M := if pPassV σ 48 53 = 0 then (0, pPass σ 48 53) else pProgB (pPass σ 48 53) p
def pProg (σ : am_M) : Int32 × am_M := pProgA σ (pDig σ (σ oR 6))
def pCmd (σ : am_M) : Int32 × am_M := if pHere σ = 35 then pRoom σ else pProg σ
def pReadN : Nat → am_M → Int32 × am_M
  | 0, σ => (-1, σ)
  | n + 1, σ => if 60 ≤ σ oR 5 then (-1, σ) else if ¬ σ oR 5 ≤ 0 ∧ ¬ σ oR 6 < lSize σ oX then (-1, σ) else if (pCmd σ).1 = 0 then ((pCmd σ).2 oR 6, (pCmd σ).2) else pReadN n (am_up (pCmd σ).2 oR 5 ((pCmd σ).2 oR 5 + 1))
def pInit (σ : am_M) : am_M := am_up (am_up (lClr (lClr (rClr σ cR_drafted) cR_roomChannels) cR_roomSizes) oR 6 0) oR 5 0
def pRead (σ : am_M) : Int32 × am_M := pReadN 61 (pInit σ)
def pSuitN (σ : am_M) : Nat → Int32 → Int32
  | 0, _ => 1
  | n + 1, i => if rAt σ cC_sizes (lAt σ cR_roomChannels i) ≤ lAt σ cR_roomSizes i then pSuitN σ n (i + 1) else 0
def pSuit (σ : am_M) : Int32 := if ¬ lSize σ cR_roomChannels ≤ 0 ∧ ¬ wLive σ ≤ 0 then 0 else pSuitN σ (lSize σ cR_roomChannels).toNatClampNeg 0
def pWr1 (σ : am_M) : Nat → am_M
  | 0 => σ
  | n + 1 => if rAt (pWr1 σ n) cR_drafted (nI n) = 1 then bCpL (pWr1 σ n) cW_programs (nI n) cR_drafts (nI n) else pWr1 σ n
def pWr2 (σ : am_M) : Nat → am_M
  | 0 => σ
  | n + 1 => rPut (pWr2 σ n) cC_rooms (lAt (pWr2 σ n) cR_roomChannels (nI n)) (lAt (pWr2 σ n) cR_roomSizes (nI n))
def pWrite (σ : am_M) : am_M := pWr2 (pWr1 σ 6) (lSize (pWr1 σ 6) cR_roomChannels).toNatClampNeg
def sp_X5_commands := am_kr0 oR (fun σ => σ oR 5)
def sp_X5_digit := am_kr1 oR pDig
def sp_X5_pass := am_kb2 oR pPassV pPass
def sp_X5_operandFrom := am_kr1 oR pOpF
def sp_X5_mayStand := am_sr3 pMay
def sp_X5_passOperand := am_kb1 oR (fun σ s => (pOper σ s).1) (fun σ s => (pOper σ s).2)
def sp_X5_readRoom := am_kb0 oR (fun σ => (pRoom σ).1) (fun σ => (pRoom σ).2)
def sp_X5_readInstructions := am_kb1 oR (fun σ p => (pInstr σ p).1) (fun σ p => (pInstr σ p).2)
def sp_X5_readProgram := am_kb0 oR (fun σ => (pProg σ).1) (fun σ => (pProg σ).2)
def sp_X5_readCommand := am_kb0 oR (fun σ => (pCmd σ).1) (fun σ => (pCmd σ).2)
def sp_X5_read := am_kb0 oR (fun σ => (pRead σ).1) (fun σ => (pRead σ).2)
def sp_X5_roomsSuit := am_z0 oR oW pSuit
def sp_X5_writeTo := am_zw oR oW pWrite
theorem sm_X5_commands : am_mS sp_X5_commands := am_kr0_mono _ _
theorem sm_X5_digit : am_mS sp_X5_digit := am_kr1_mono _ _
theorem sm_X5_pass : am_mS sp_X5_pass := am_kb2_mono _ _ _
theorem sm_X5_operandFrom : am_mS sp_X5_operandFrom := am_kr1_mono _ _
theorem sm_X5_mayStand : am_mS sp_X5_mayStand := am_sr3_mono _
theorem sm_X5_passOperand : am_mS sp_X5_passOperand := am_kb1_mono _ _ _
theorem sm_X5_readRoom : am_mS sp_X5_readRoom := am_kb0_mono _ _ _
theorem sm_X5_readInstructions : am_mS sp_X5_readInstructions := am_kb1_mono _ _ _
theorem sm_X5_readProgram : am_mS sp_X5_readProgram := am_kb0_mono _ _ _
theorem sm_X5_readCommand : am_mS sp_X5_readCommand := am_kb0_mono _ _ _
theorem sm_X5_read : am_mS sp_X5_read := am_kb0_mono _ _ _
theorem sm_X5_roomsSuit : am_mS sp_X5_roomsSuit := am_z0_mono _ _ _
theorem sm_X5_writeTo : am_mS sp_X5_writeTo := am_zw_mono _ _ _
def cl_X5_commands : List (Nat × am_T) := [(0, mt_ald 0 1),
  (1, mt_getf 5 5 4),
  (4, mt_iret)]
def cl_X5_digit : List (Nat × am_T) := [(0, mt_ald 0 1),
  (1, mt_getf 5 0 4),
  (4, mt_ild 1 5),
  (5, mt_cv 4 1 sp_X4_at 8),
  (8, mt_ic (48) 10),
  (10, mt_isub 11),
  (11, mt_iret)]
def cl_X5_pass : List (Nat × am_T) := [(0, mt_ald 0 1),
  (1, mt_getf 5 0 4),
  (4, mt_ald 0 5),
  (5, mt_getf 5 6 8),
  (8, mt_cv 4 1 sp_X4_at 11),
  (11, mt_sti 3 12),
  (12, mt_ild 3 13),
  (13, mt_ild 1 14),
  (14, mt_icmp_lt 22 17),
  (17, mt_ild 3 18),
  (18, mt_ild 2 19),
  (19, mt_icmp_le 24 22),
  (22, mt_ic (0) 23),
  (23, mt_zret),
  (24, mt_ald 0 25),
  (25, mt_dup 26),
  (26, mt_getf 5 6 29),
  (29, mt_ic (1) 30),
  (30, mt_iadd 31),
  (31, mt_putf 5 6 34),
  (34, mt_ic (1) 35),
  (35, mt_zret)]
def cl_X5_operandFrom : List (Nat × am_T) := [(0, mt_ic (0) 1),
  (1, mt_sti 2 2),
  (2, mt_ild 1 3),
  (3, mt_sti 3 4),
  (4, mt_ild 3 5),
  (5, mt_ald 0 6),
  (6, mt_getf 5 6 9),
  (9, mt_icmp_ge 29 12),
  (12, mt_ic (10) 14),
  (14, mt_ild 2 15),
  (15, mt_imul 16),
  (16, mt_ald 0 17),
  (17, mt_ild 3 18),
  (18, mt_cv 5 1 sp_X5_digit 21),
  (21, mt_iadd 22),
  (22, mt_sti 2 23),
  (23, mt_inc 3 (1) 26),
  (26, mt_goto 4),
  (29, mt_ild 2 30),
  (30, mt_iret)]
def cl_X5_mayStand : List (Nat × am_T) := [(0, mt_ild 0 1),
  (1, mt_sw [((33), 179), ((40), 140), ((41), 155), ((43), 179), ((45), 179), ((60), 179), ((62), 179), ((63), 179), ((91), 140), ((94), 155), ((112), 169), ((119), 179), ((120), 169), ((121), 179), ((122), 179), ((123), 140)] 181),
  (140, mt_ild 1 141),
  (141, mt_ic (5) 142),
  (142, mt_icmp_ge 153 145),
  (145, mt_ild 2 146),
  (146, mt_if_ne 153 149),
  (149, mt_ic (1) 150),
  (150, mt_goto 154),
  (153, mt_ic (0) 154),
  (154, mt_zret),
  (155, mt_ild 1 156),
  (156, mt_if_le 167 159),
  (159, mt_ild 2 160),
  (160, mt_if_ne 167 163),
  (163, mt_ic (1) 164),
  (164, mt_goto 168),
  (167, mt_ic (0) 168),
  (168, mt_zret),
  (169, mt_ild 1 170),
  (170, mt_if_le 177 173),
  (173, mt_ic (1) 174),
  (174, mt_goto 178),
  (177, mt_ic (0) 178),
  (178, mt_zret),
  (179, mt_ic (1) 180),
  (180, mt_zret),
  (181, mt_ic (0) 182),
  (182, mt_zret)]
def cl_X5_passOperand : List (Nat × am_T) := [(0, mt_ild 1 1),
  (1, mt_sw [((33), 92), ((43), 92), ((45), 92), ((60), 110), ((62), 110), ((63), 119), ((91), 92), ((94), 101), ((112), 101), ((119), 92)] 147),
  (92, mt_ald 0 93),
  (93, mt_ic (49) 95),
  (95, mt_ic (57) 97),
  (97, mt_cv 5 2 sp_X5_pass 100),
  (100, mt_zret),
  (101, mt_ald 0 102),
  (102, mt_ic (48) 104),
  (104, mt_ic (53) 106),
  (106, mt_cv 5 2 sp_X5_pass 109),
  (109, mt_zret),
  (110, mt_ald 0 111),
  (111, mt_ic (48) 113),
  (113, mt_ic (51) 115),
  (115, mt_cv 5 2 sp_X5_pass 118),
  (118, mt_zret),
  (119, mt_ald 0 120),
  (120, mt_ic (48) 122),
  (122, mt_ic (51) 124),
  (124, mt_cv 5 2 sp_X5_pass 127),
  (127, mt_if_eq 145 130),
  (130, mt_ald 0 131),
  (131, mt_ic (48) 133),
  (133, mt_ic (51) 135),
  (135, mt_cv 5 2 sp_X5_pass 138),
  (138, mt_if_eq 145 141),
  (141, mt_ic (1) 142),
  (142, mt_goto 146),
  (145, mt_ic (0) 146),
  (146, mt_zret),
  (147, mt_ic (1) 148),
  (148, mt_zret)]
def cl_X5_readRoom : List (Nat × am_T) := [(0, mt_ald 0 1),
  (1, mt_dup 2),
  (2, mt_getf 5 6 5),
  (5, mt_ic (1) 6),
  (6, mt_iadd 7),
  (7, mt_putf 5 6 10),
  (10, mt_ald 0 11),
  (11, mt_getf 5 6 14),
  (14, mt_sti 1 15),
  (15, mt_ald 0 16),
  (16, mt_ic (48) 18),
  (18, mt_ic (51) 20),
  (20, mt_cv 5 2 sp_X5_pass 23),
  (23, mt_if_eq 48 26),
  (26, mt_ald 0 27),
  (27, mt_ic (48) 29),
  (29, mt_ic (51) 31),
  (31, mt_cv 5 2 sp_X5_pass 34),
  (34, mt_if_eq 48 37),
  (37, mt_ald 0 38),
  (38, mt_ic (59) 40),
  (40, mt_ic (59) 42),
  (42, mt_cv 5 2 sp_X5_pass 45),
  (45, mt_if_ne 50 48),
  (48, mt_ic (0) 49),
  (49, mt_zret),
  (50, mt_ald 0 51),
  (51, mt_getf 5 3 54),
  (54, mt_ald 0 55),
  (55, mt_ild 1 56),
  (56, mt_cv 5 1 sp_X5_digit 59),
  (59, mt_cv 4 1 sp_X4_add 62),
  (62, mt_ald 0 63),
  (63, mt_getf 5 4 66),
  (66, mt_ald 0 67),
  (67, mt_ild 1 68),
  (68, mt_ic (1) 69),
  (69, mt_iadd 70),
  (70, mt_cv 5 1 sp_X5_digit 73),
  (73, mt_cv 4 1 sp_X4_add 76),
  (76, mt_ic (1) 77),
  (77, mt_zret)]
def cl_X5_readInstructions : List (Nat × am_T) := [(0, mt_ic (0) 1),
  (1, mt_sti 2 2),
  (2, mt_ic (0) 3),
  (3, mt_sti 3 4),
  (4, mt_ic (0) 5),
  (5, mt_sti 4 7),
  (7, mt_ild 4 9),
  (9, mt_ic (24) 11),
  (11, mt_icmp_gt 163 14),
  (14, mt_ald 0 15),
  (15, mt_getf 5 6 18),
  (18, mt_sti 5 20),
  (20, mt_ald 0 21),
  (21, mt_getf 5 0 24),
  (24, mt_ild 5 26),
  (26, mt_cv 4 1 sp_X4_at 29),
  (29, mt_sti 6 31),
  (31, mt_ild 6 33),
  (33, mt_ic (59) 35),
  (35, mt_icmp_ne 55 38),
  (38, mt_ild 2 39),
  (39, mt_if_ne 55 42),
  (42, mt_ild 3 43),
  (43, mt_if_ne 55 46),
  (46, mt_ald 0 47),
  (47, mt_ic (59) 49),
  (49, mt_ic (59) 51),
  (51, mt_cv 5 2 sp_X5_pass 54),
  (54, mt_zret),
  (55, mt_ild 4 57),
  (57, mt_ic (24) 59),
  (59, mt_icmp_eq 72 62),
  (62, mt_ild 6 64),
  (64, mt_ild 2 65),
  (65, mt_ild 3 66),
  (66, mt_cs 3 sp_X5_mayStand 69),
  (69, mt_if_ne 74 72),
  (72, mt_ic (0) 73),
  (73, mt_zret),
  (74, mt_ald 0 75),
  (75, mt_dup 76),
  (76, mt_getf 5 6 79),
  (79, mt_ic (1) 80),
  (80, mt_iadd 81),
  (81, mt_putf 5 6 84),
  (84, mt_ald 0 85),
  (85, mt_ild 6 87),
  (87, mt_cv 5 1 sp_X5_passOperand 90),
  (90, mt_if_ne 95 93),
  (93, mt_ic (0) 94),
  (94, mt_zret),
  (95, mt_ald 0 96),
  (96, mt_getf 5 1 99),
  (99, mt_ild 1 100),
  (100, mt_ic (100) 102),
  (102, mt_ild 6 104),
  (104, mt_imul 105),
  (105, mt_ald 0 106),
  (106, mt_ild 5 108),
  (108, mt_ic (1) 109),
  (109, mt_iadd 110),
  (110, mt_cv 5 1 sp_X5_operandFrom 113),
  (113, mt_iadd 114),
  (114, mt_cv 0 2 sp_X0_add 117),
  (117, mt_ild 2 118),
  (118, mt_ild 6 120),
  (120, mt_cs 1 sp_X0_opens 123),
  (123, mt_if_eq 130 126),
  (126, mt_ic (1) 127),
  (127, mt_goto 142),
  (130, mt_ild 6 132),
  (132, mt_ic (41) 134),
  (134, mt_icmp_ne 141 137),
  (137, mt_ic (-1) 138),
  (138, mt_goto 142),
  (141, mt_ic (0) 142),
  (142, mt_iadd 143),
  (143, mt_sti 2 144),
  (144, mt_ild 6 146),
  (146, mt_ic (122) 148),
  (148, mt_icmp_ne 155 151),
  (151, mt_ic (1) 152),
  (152, mt_goto 156),
  (155, mt_ic (0) 156),
  (156, mt_sti 3 157),
  (157, mt_inc 4 (1) 160),
  (160, mt_goto 7),
  (163, mt_ic (0) 164),
  (164, mt_zret)]
def cl_X5_readProgram : List (Nat × am_T) := [(0, mt_ald 0 1),
  (1, mt_ald 0 2),
  (2, mt_getf 5 6 5),
  (5, mt_cv 5 1 sp_X5_digit 8),
  (8, mt_sti 1 9),
  (9, mt_ald 0 10),
  (10, mt_ic (48) 12),
  (12, mt_ic (53) 14),
  (14, mt_cv 5 2 sp_X5_pass 17),
  (17, mt_if_eq 31 20),
  (20, mt_ald 0 21),
  (21, mt_ic (58) 23),
  (23, mt_ic (58) 25),
  (25, mt_cv 5 2 sp_X5_pass 28),
  (28, mt_if_ne 33 31),
  (31, mt_ic (0) 32),
  (32, mt_zret),
  (33, mt_ald 0 34),
  (34, mt_getf 5 1 37),
  (37, mt_ild 1 38),
  (38, mt_cv 0 1 sp_X0_empty 41),
  (41, mt_ald 0 42),
  (42, mt_getf 5 2 45),
  (45, mt_ild 1 46),
  (46, mt_ic (1) 47),
  (47, mt_cv 6 2 sp_X6_put 50),
  (50, mt_ald 0 51),
  (51, mt_ild 1 52),
  (52, mt_cv 5 1 sp_X5_readInstructions 55),
  (55, mt_zret)]
def cl_X5_readCommand : List (Nat × am_T) := [(0, mt_ald 0 1),
  (1, mt_getf 5 0 4),
  (4, mt_ald 0 5),
  (5, mt_getf 5 6 8),
  (8, mt_cv 4 1 sp_X4_at 11),
  (11, mt_ic (35) 13),
  (13, mt_icmp_ne 23 16),
  (16, mt_ald 0 17),
  (17, mt_cv 5 0 sp_X5_readRoom 20),
  (20, mt_goto 27),
  (23, mt_ald 0 24),
  (24, mt_cv 5 0 sp_X5_readProgram 27),
  (27, mt_zret)]
def cl_X5_read : List (Nat × am_T) := [(0, mt_ald 0 1),
  (1, mt_getf 5 2 4),
  (4, mt_cv 6 0 sp_X6_clear 7),
  (7, mt_ald 0 8),
  (8, mt_getf 5 3 11),
  (11, mt_cv 4 0 sp_X4_clear 14),
  (14, mt_ald 0 15),
  (15, mt_getf 5 4 18),
  (18, mt_cv 4 0 sp_X4_clear 21),
  (21, mt_ald 0 22),
  (22, mt_ic (0) 23),
  (23, mt_putf 5 6 26),
  (26, mt_ald 0 27),
  (27, mt_ic (0) 28),
  (28, mt_putf 5 5 31),
  (31, mt_ald 0 32),
  (32, mt_getf 5 5 35),
  (35, mt_ic (60) 37),
  (37, mt_icmp_ge 88 40),
  (40, mt_ald 0 41),
  (41, mt_getf 5 5 44),
  (44, mt_if_le 63 47),
  (47, mt_ald 0 48),
  (48, mt_getf 5 6 51),
  (51, mt_ald 0 52),
  (52, mt_getf 5 0 55),
  (55, mt_cv 4 0 sp_X4_size 58),
  (58, mt_icmp_lt 63 61),
  (61, mt_ic (-1) 62),
  (62, mt_iret),
  (63, mt_ald 0 64),
  (64, mt_cv 5 0 sp_X5_readCommand 67),
  (67, mt_if_ne 75 70),
  (70, mt_ald 0 71),
  (71, mt_getf 5 6 74),
  (74, mt_iret),
  (75, mt_ald 0 76),
  (76, mt_dup 77),
  (77, mt_getf 5 5 80),
  (80, mt_ic (1) 81),
  (81, mt_iadd 82),
  (82, mt_putf 5 5 85),
  (85, mt_goto 31),
  (88, mt_ic (-1) 89),
  (89, mt_iret)]
def cl_X5_roomsSuit : List (Nat × am_T) := [(0, mt_ald 0 1),
  (1, mt_getf 5 3 4),
  (4, mt_cv 4 0 sp_X4_size 7),
  (7, mt_if_le 19 10),
  (10, mt_ald 1 11),
  (11, mt_cv 10 0 sp_X10_liveTasks 14),
  (14, mt_if_le 19 17),
  (17, mt_ic (0) 18),
  (18, mt_zret),
  (19, mt_ic (0) 20),
  (20, mt_sti 2 21),
  (21, mt_ild 2 22),
  (22, mt_ald 0 23),
  (23, mt_getf 5 3 26),
  (26, mt_cv 4 0 sp_X4_size 29),
  (29, mt_icmp_ge 69 32),
  (32, mt_ald 0 33),
  (33, mt_getf 5 4 36),
  (36, mt_ild 2 37),
  (37, mt_cv 4 1 sp_X4_at 40),
  (40, mt_ald 1 41),
  (41, mt_getf 10 3 44),
  (44, mt_getf 1 1 47),
  (47, mt_ald 0 48),
  (48, mt_getf 5 3 51),
  (51, mt_ild 2 52),
  (52, mt_cv 4 1 sp_X4_at 55),
  (55, mt_cv 6 1 sp_X6_at 58),
  (58, mt_icmp_ge 63 61),
  (61, mt_ic (0) 62),
  (62, mt_zret),
  (63, mt_inc 2 (1) 66),
  (66, mt_goto 21),
  (69, mt_ic (1) 70),
  (70, mt_zret)]
def cl_X5_writeTo : List (Nat × am_T) := [(0, mt_ic (0) 1),
  (1, mt_sti 2 2),
  (2, mt_ild 2 3),
  (3, mt_ic (6) 5),
  (5, mt_icmp_ge 39 8),
  (8, mt_ald 0 9),
  (9, mt_getf 5 2 12),
  (12, mt_ild 2 13),
  (13, mt_cv 6 1 sp_X6_at 16),
  (16, mt_ic (1) 17),
  (17, mt_icmp_ne 33 20),
  (20, mt_ald 1 21),
  (21, mt_getf 10 0 24),
  (24, mt_ild 2 25),
  (25, mt_ald 0 26),
  (26, mt_getf 5 1 29),
  (29, mt_ild 2 30),
  (30, mt_cv 0 3 sp_X0_copyList 33),
  (33, mt_inc 2 (1) 36),
  (36, mt_goto 2),
  (39, mt_ic (0) 40),
  (40, mt_sti 2 41),
  (41, mt_ild 2 42),
  (42, mt_ald 0 43),
  (43, mt_getf 5 3 46),
  (46, mt_cv 4 0 sp_X4_size 49),
  (49, mt_icmp_ge 84 52),
  (52, mt_ald 1 53),
  (53, mt_getf 10 3 56),
  (56, mt_getf 1 0 59),
  (59, mt_ald 0 60),
  (60, mt_getf 5 3 63),
  (63, mt_ild 2 64),
  (64, mt_cv 4 1 sp_X4_at 67),
  (67, mt_ald 0 68),
  (68, mt_getf 5 4 71),
  (71, mt_ild 2 72),
  (72, mt_cv 4 1 sp_X4_at 75),
  (75, mt_cv 6 2 sp_X6_put 78),
  (78, mt_inc 2 (1) 81),
  (81, mt_goto 41),
  (84, mt_vret)]
set_option maxRecDepth 20000 in
theorem v_X5_commands (hm : ∀ pc, am_mono (am_lk cl_X5_commands pc)) : ∀ (av : List Value) (σ : am_M) (R0 : am_R), sp_X5_commands av σ R0 → av.length = 1 ∧ am_Wp (am_lk cl_X5_commands) 0 (am_args 0 av) [] σ R0 := by
  intro av σ R0 h
  obtain ⟨e5, h5⟩ := am_kr0_elim h
  clear h
  subst e5
  exact ⟨rfl, am_go hm (fun _ => false) 400 h5⟩
set_option maxRecDepth 20000 in
theorem v_X5_digit (hm : ∀ pc, am_mono (am_lk cl_X5_digit pc)) : ∀ (av : List Value) (σ : am_M) (R0 : am_R), sp_X5_digit av σ R0 → av.length = 2 ∧ am_Wp (am_lk cl_X5_digit) 0 (am_args 0 av) [] σ R0 := by
  intro av σ R0 h
  obtain ⟨a, e5, h5⟩ := am_kr1_elim h
  clear h
  subst e5
  exact ⟨rfl, am_go hm (fun _ => false) 400 h5⟩
set_option maxRecDepth 20000 in
theorem v_X5_pass (hm : ∀ pc, am_mono (am_lk cl_X5_pass pc)) : ∀ (av : List Value) (σ : am_M) (R0 : am_R), sp_X5_pass av σ R0 → av.length = 3 ∧ am_Wp (am_lk cl_X5_pass) 0 (am_args 0 av) [] σ R0 := by
  intro av σ R0 h
  obtain ⟨a, b, e5, h5⟩ := am_kb2_elim h
  clear h
  subst e5
  refine ⟨rfl, am_go hm (fun _ => false) 400 ?_⟩
  unfold pPass at h5
  refine am_ite (fun h0 => ?_) (fun h0 => ?_)
  · exact am_b0 (sP h0 h5) (fun q => q.1 h0)
  replace h5 := sN h0 h5
  refine am_ite (fun h1 => ?_) (fun h1 => ?_)
  · exact am_b1 (sP h1 h5) ⟨h0, h1⟩
  · exact am_b0 (sN h1 h5) (fun q => h1 q.2)
set_option maxRecDepth 20000 in
theorem l_X5_operandFrom (hm : ∀ pc, am_mono (am_lk cl_X5_operandFrom pc)) {σ : am_M} {R0 : am_R} {s : Int32} : ∀ (n : Nat) (i acc : Int32), (σ oR 6).toInt - i.toInt ≤ n → R0 (some (.int (pOpN σ n i acc))) σ → am_Wp (am_lk cl_X5_operandFrom) 4 [(0, .ref oR), (1, .int s), (2, .int acc), (3, .int i)] [] σ R0 := by
  intro n
  induction n with
  | zero =>
    intro i acc hn h
    refine am_go hm (fun _ => false) 20 ?_
    refine am_ite (fun _ => h) (fun z => ?_)
    have := Int32.lt_iff_toInt_lt.mp (Int32.not_le.mp z)
    omega
  | succ n ih =>
    intro i acc hn h
    unfold pOpN at h
    refine am_go hm (fun p => Nat.beq p 4) 30 ?_
    refine am_ite (fun h0 => vP h0 h) (fun h0 => ?_)
    exact am_Wp.sub hm (am_le_of (List.forall_mem_cons.mpr ⟨rfl, List.forall_mem_cons.mpr ⟨rfl, List.forall_mem_cons.mpr ⟨rfl, List.forall_mem_cons.mpr ⟨rfl, fun _ q => by cases q⟩⟩⟩⟩)) (ih _ _ (by rw [am_inc (Int32.not_le.mp h0)]; omega) (vN h0 h))
set_option maxRecDepth 20000 in
theorem v_X5_operandFrom (hm : ∀ pc, am_mono (am_lk cl_X5_operandFrom pc)) : ∀ (av : List Value) (σ : am_M) (R0 : am_R), sp_X5_operandFrom av σ R0 → av.length = 2 ∧ am_Wp (am_lk cl_X5_operandFrom) 0 (am_args 0 av) [] σ R0 := by
  intro av σ R0 h
  obtain ⟨a, e5, h5⟩ := am_kr1_elim h
  clear h
  subst e5
  refine ⟨rfl, am_go hm (fun p => Nat.beq p 4) 40 ?_⟩
  exact am_Wp.sub hm (am_le_of (List.forall_mem_cons.mpr ⟨rfl, List.forall_mem_cons.mpr ⟨rfl, List.forall_mem_cons.mpr ⟨rfl, List.forall_mem_cons.mpr ⟨rfl, fun _ q => by cases q⟩⟩⟩⟩)) (l_X5_operandFrom hm _ a 0 (by omega) h5)
set_option maxRecDepth 20000 in
theorem v_X5_mayStand (hm : ∀ pc, am_mono (am_lk cl_X5_mayStand pc)) : ∀ (av : List Value) (σ : am_M) (R0 : am_R), sp_X5_mayStand av σ R0 → av.length = 3 ∧ am_Wp (am_lk cl_X5_mayStand) 0 (am_args 0 av) [] σ R0 := by
  intro av σ R0 h
  obtain ⟨a, b, c, e5, h5⟩ := am_sr3_elim h
  clear h
  subst e5
  refine ⟨rfl, am_go hm (fun _ => false) 400 ?_⟩
  unfold pMay at h5
  refine am_ite (fun h0 => ?_) (fun h0 => ?_)
  · exact ⟨Or.inr rfl, vP h0 h5⟩
  replace h5 := vN h0 h5
  refine am_ite (fun h0 => ?_) (fun h0 => ?_)
  · replace h5 := vP h0 h5
    refine am_ite (fun h1 => am_b0 h5 (fun q => q.1 h1)) (fun h1 => ?_)
    exact am_ite (fun h2 => am_b1 h5 ⟨h1, h2⟩) (fun h2 => am_b0 h5 (fun q => h2 q.2))
  replace h5 := vN h0 h5
  refine am_ite (fun h0 => ?_) (fun h0 => ?_)
  · replace h5 := vP h0 h5
    refine am_ite (fun h1 => am_b0 h5 (fun q => q.1 h1)) (fun h1 => ?_)
    exact am_ite (fun h2 => am_b1 h5 ⟨h1, h2⟩) (fun h2 => am_b0 h5 (fun q => h2 q.2))
  replace h5 := vN h0 h5
  refine am_ite (fun h0 => ?_) (fun h0 => ?_)
  · exact ⟨Or.inr rfl, vP h0 h5⟩
  replace h5 := vN h0 h5
  refine am_ite (fun h0 => ?_) (fun h0 => ?_)
  · exact ⟨Or.inr rfl, vP h0 h5⟩
  replace h5 := vN h0 h5
  refine am_ite (fun h0 => ?_) (fun h0 => ?_)
  · exact ⟨Or.inr rfl, vP h0 h5⟩
  replace h5 := vN h0 h5
  refine am_ite (fun h0 => ?_) (fun h0 => ?_)
  · exact ⟨Or.inr rfl, vP h0 h5⟩
  replace h5 := vN h0 h5
  refine am_ite (fun h0 => ?_) (fun h0 => ?_)
  · exact ⟨Or.inr rfl, vP h0 h5⟩
  replace h5 := vN h0 h5
  refine am_ite (fun h0 => ?_) (fun h0 => ?_)
  · replace h5 := vP h0 h5
    refine am_ite (fun h1 => am_b0 h5 (fun q => q.1 h1)) (fun h1 => ?_)
    exact am_ite (fun h2 => am_b1 h5 ⟨h1, h2⟩) (fun h2 => am_b0 h5 (fun q => h2 q.2))
  replace h5 := vN h0 h5
  refine am_ite (fun h0 => ?_) (fun h0 => ?_)
  · replace h5 := vP h0 h5
    refine am_ite (fun h1 => am_b0 h5 (fun q => q.1 h1)) (fun h1 => ?_)
    exact am_ite (fun h2 => am_b1 h5 ⟨h1, h2⟩) (fun h2 => am_b0 h5 (fun q => h2 q.2))
  replace h5 := vN h0 h5
  refine am_ite (fun h0 => ?_) (fun h0 => ?_)
  · replace h5 := vP h0 h5
    exact am_ite (fun h1 => am_b0 h5 (fun q => q h1)) (fun h1 => am_b1 h5 h1)
  replace h5 := vN h0 h5
  refine am_ite (fun h0 => ?_) (fun h0 => ?_)
  · exact ⟨Or.inr rfl, vP h0 h5⟩
  replace h5 := vN h0 h5
  refine am_ite (fun h0 => ?_) (fun h0 => ?_)
  · replace h5 := vP h0 h5
    exact am_ite (fun h1 => am_b0 h5 (fun q => q h1)) (fun h1 => am_b1 h5 h1)
  replace h5 := vN h0 h5
  refine am_ite (fun h0 => ?_) (fun h0 => ?_)
  · exact ⟨Or.inr rfl, vP h0 h5⟩
  replace h5 := vN h0 h5
  refine am_ite (fun h0 => ?_) (fun h0 => ?_)
  · exact ⟨Or.inr rfl, vP h0 h5⟩
  replace h5 := vN h0 h5
  refine am_ite (fun h0 => ?_) (fun h0 => ?_)
  · replace h5 := vP h0 h5
    refine am_ite (fun h1 => am_b0 h5 (fun q => q.1 h1)) (fun h1 => ?_)
    exact am_ite (fun h2 => am_b1 h5 ⟨h1, h2⟩) (fun h2 => am_b0 h5 (fun q => h2 q.2))
  replace h5 := vN h0 h5
  exact ⟨Or.inl rfl, h5⟩
set_option maxRecDepth 20000 in
theorem v_X5_passOperand (hm : ∀ pc, am_mono (am_lk cl_X5_passOperand pc)) : ∀ (av : List Value) (σ : am_M) (R0 : am_R), sp_X5_passOperand av σ R0 → av.length = 2 ∧ am_Wp (am_lk cl_X5_passOperand) 0 (am_args 0 av) [] σ R0 := by
  intro av σ R0 h
  obtain ⟨a, e5, h5⟩ := am_kb1_elim h
  clear h
  subst e5
  refine ⟨rfl, am_go hm (fun _ => false) 400 ?_⟩
  unfold pOper at h5
  refine am_ite (fun h0 => ?_) (fun h0 => ?_)
  · exact am_zr (pP h0 h5)
  replace h5 := pN h0 h5
  refine am_ite (fun h0 => ?_) (fun h0 => ?_)
  · exact am_zr (pP h0 h5)
  replace h5 := pN h0 h5
  refine am_ite (fun h0 => ?_) (fun h0 => ?_)
  · exact am_zr (pP h0 h5)
  replace h5 := pN h0 h5
  refine am_ite (fun h0 => ?_) (fun h0 => ?_)
  · exact am_zr (pP h0 h5)
  replace h5 := pN h0 h5
  refine am_ite (fun h0 => ?_) (fun h0 => ?_)
  · exact am_zr (pP h0 h5)
  replace h5 := pN h0 h5
  refine am_ite (fun h0 => ?_) (fun h0 => ?_)
  · replace h5 := pP h0 h5
    unfold pPass2 at h5
    refine am_ite (fun h1 => ⟨Or.inl rfl, pP h1 h5⟩) (fun h1 => ?_)
    replace h5 := pN h1 h5
    refine am_ite (fun h2 => ?_) (fun h2 => ?_)
    · have h6 := am_b0 h5 (bI_0.mp h2); exact h6
    · have h6 := am_b1 h5 (bI_n0.mp h2); exact h6
  replace h5 := pN h0 h5
  refine am_ite (fun h0 => ?_) (fun h0 => ?_)
  · exact am_zr (pP h0 h5)
  replace h5 := pN h0 h5
  refine am_ite (fun h0 => ?_) (fun h0 => ?_)
  · exact am_zr (pP h0 h5)
  replace h5 := pN h0 h5
  refine am_ite (fun h0 => ?_) (fun h0 => ?_)
  · exact am_zr (pP h0 h5)
  replace h5 := pN h0 h5
  refine am_ite (fun h0 => ?_) (fun h0 => ?_)
  · exact am_zr (pP h0 h5)
  replace h5 := pN h0 h5
  exact ⟨Or.inr rfl, h5⟩
