/-! books -/
def iSign (x : Int32) : Int32 := x / 100
def iOpnd (x : Int32) : Int32 := x - x / 100 * 100
def iOpens (s : Int32) : Int32 := bI (s = 40 ∨ s = 91 ∨ s = 123)
def bLen (σ : am_M) (k : Nat) (p : Int32) : Int32 := rAt σ (k + 1) p
def bAt (σ : am_M) (k : Nat) (p i : Int32) : Int32 := if i < 0 then 0 else if bLen σ k p ≤ i then 0 else rAt σ (k + 3) (p * 24 + i)
def bAdd (σ : am_M) (k : Nat) (p x : Int32) : am_M := if 24 ≤ bLen σ k p then σ else rPut (rPut σ (k + 3) (p * 24 + bLen σ k p) x) (k + 1) p (bLen σ k p + 1)
def bEmp (σ : am_M) (k : Nat) (p : Int32) : am_M := rPut σ (k + 1) p 0
/-- the list p of the book k after n instructions of the list p2 of the book q -/
def bCpN (σ : am_M) (k : Nat) (p : Int32) (q : Nat) (p2 : Int32) : Nat → am_M
  | 0 => bEmp σ k p
  | n + 1 => bAdd (bCpN σ k p q p2 n) k p (bAt σ q p2 (nI n))
def bCpL (σ : am_M) (k : Nat) (p : Int32) (q : Nat) (p2 : Int32) : am_M := bCpN σ k p q p2 (bLen σ q p2).toNatClampNeg
def bCpy (σ : am_M) (k q : Nat) : am_M := rCpy (rCpy σ (k + 1) (q + 1)) (k + 3) (q + 3)
/-- how many scopes are open behind the instructions from 'here' on, n of them, where 'op' are open ahead; stops at 0: the place behind -/
def bBeh (σ : am_M) (k : Nat) (p : Int32) : Nat → Int32 → Int32 → Int32
  | 0, _, _ => bLen σ k p
  | n + 1, here, op =>
    if bLen σ k p ≤ here then bLen σ k p else
    if (if iOpens (iSign (bAt σ k p here)) = 0 then (if iSign (bAt σ k p here) = 41 then op + (-1) else op) else op + 1) = 0 then here + 1
    else bBeh σ k p n (here + 1) (if iOpens (iSign (bAt σ k p here)) = 0 then (if iSign (bAt σ k p here) = 41 then op + (-1) else op) else op + 1)
def sp_X0_sign := am_sr1 iSign
def sp_X0_operand := am_sr1 iOpnd
def sp_X0_opens := am_sr1 iOpens
def sp_X0_length := am_cr1 0 bLen
def sp_X0_at := am_cr2 0 bAt
def sp_X0_add := am_cw2 0 bAdd
def sp_X0_empty := am_cw1 0 bEmp
def sp_X0_copyList : am_S := fun av σ R => match av with
  | [.ref k, .int p, .ref q, .int p2] => bif am_isC 0 k && (am_isC 0 q && !Nat.beq k q) then R none (bCpL σ k p q p2) else False
  | _ => False
def sp_X0_behindClosing := am_cr2 0 (fun σ k p i => bBeh σ k p ((bLen σ k p).toInt - i.toInt).toNat i 1)
def sp_X0_copy := am_qq 0 bCpy
theorem sm_X0_sign : am_mS sp_X0_sign := am_sr1_mono _
theorem sm_X0_operand : am_mS sp_X0_operand := am_sr1_mono _
theorem sm_X0_opens : am_mS sp_X0_opens := am_sr1_mono _
theorem sm_X0_length : am_mS sp_X0_length := am_cr1_mono _ _
theorem sm_X0_at : am_mS sp_X0_at := am_cr2_mono _ _
theorem sm_X0_add : am_mS sp_X0_add := am_cw2_mono _ _
theorem sm_X0_empty : am_mS sp_X0_empty := am_cw1_mono _ _
theorem sm_X0_copy : am_mS sp_X0_copy := am_qq_mono _ _
theorem sm_X0_copyList : am_mS sp_X0_copyList := by
  intro av σ R R' h hs
  unfold sp_X0_copyList at hs ⊢
  split at hs
  · rename_i k p q p2
    try dsimp only
    cases hb : am_isC 0 k && (am_isC 0 q && !Nat.beq k q) with
    | false => rw [hb] at hs; exact hs.elim
    | true => rw [hb] at hs; exact h _ _ hs
  · exact hs.elim
theorem sm_X0_behindClosing : am_mS sp_X0_behindClosing := am_cr2_mono _ _
def cl_X0_sign : List (Nat × am_T) := [(0, mt_ild 0 1),
  (1, mt_ic (100) 3),
  (3, mt_idiv 4),
  (4, mt_iret)]
def cl_X0_operand : List (Nat × am_T) := [(0, mt_ild 0 1),
  (1, mt_ic (100) 3),
  (3, mt_irem 4),
  (4, mt_iret)]
def cl_X0_opens : List (Nat × am_T) := [(0, mt_ild 0 1),
  (1, mt_ic (40) 3),
  (3, mt_icmp_eq 18 6),
  (6, mt_ild 0 7),
  (7, mt_ic (91) 9),
  (9, mt_icmp_eq 18 12),
  (12, mt_ild 0 13),
  (13, mt_ic (123) 15),
  (15, mt_icmp_ne 22 18),
  (18, mt_ic (1) 19),
  (19, mt_goto 23),
  (22, mt_ic (0) 23),
  (23, mt_zret)]
def cl_X0_length : List (Nat × am_T) := [(0, mt_ald 0 1),
  (1, mt_getf 0 0 4),
  (4, mt_ild 1 5),
  (5, mt_cv 6 1 sp_X6_at 8),
  (8, mt_iret)]
def cl_X0_at : List (Nat × am_T) := [(0, mt_ild 2 1),
  (1, mt_if_lt 20 4),
  (4, mt_ild 2 5),
  (5, mt_ald 0 6),
  (6, mt_getf 0 0 9),
  (9, mt_ild 1 10),
  (10, mt_cv 6 1 sp_X6_at 13),
  (13, mt_icmp_ge 20 16),
  (16, mt_ic (1) 17),
  (17, mt_goto 21),
  (20, mt_ic (0) 21),
  (21, mt_sti 3 22),
  (22, mt_ild 3 23),
  (23, mt_if_eq 42 26),
  (26, mt_ald 0 27),
  (27, mt_getf 0 1 30),
  (30, mt_ild 1 31),
  (31, mt_ic (24) 33),
  (33, mt_imul 34),
  (34, mt_ild 2 35),
  (35, mt_iadd 36),
  (36, mt_cv 6 1 sp_X6_at 39),
  (39, mt_goto 43),
  (42, mt_ic (0) 43),
  (43, mt_iret)]
def cl_X0_add : List (Nat × am_T) := [(0, mt_ald 0 1),
  (1, mt_getf 0 0 4),
  (4, mt_ild 1 5),
  (5, mt_cv 6 1 sp_X6_at 8),
  (8, mt_sti 3 9),
  (9, mt_ild 3 10),
  (10, mt_ic (24) 12),
  (12, mt_icmp_ge 40 15),
  (15, mt_ald 0 16),
  (16, mt_getf 0 1 19),
  (19, mt_ild 1 20),
  (20, mt_ic (24) 22),
  (22, mt_imul 23),
  (23, mt_ild 3 24),
  (24, mt_iadd 25),
  (25, mt_ild 2 26),
  (26, mt_cv 6 2 sp_X6_put 29),
  (29, mt_ald 0 30),
  (30, mt_getf 0 0 33),
  (33, mt_ild 1 34),
  (34, mt_ild 3 35),
  (35, mt_ic (1) 36),
  (36, mt_iadd 37),
  (37, mt_cv 6 2 sp_X6_put 40),
  (40, mt_vret)]
def cl_X0_empty : List (Nat × am_T) := [(0, mt_ald 0 1),
  (1, mt_getf 0 0 4),
  (4, mt_ild 1 5),
  (5, mt_ic (0) 6),
  (6, mt_cv 6 2 sp_X6_put 9),
  (9, mt_vret)]
def cl_X0_copyList : List (Nat × am_T) := [(0, mt_ald 0 1),
  (1, mt_ild 1 2),
  (2, mt_cv 0 1 sp_X0_empty 5),
  (5, mt_ic (0) 6),
  (6, mt_sti 4 8),
  (8, mt_ild 4 10),
  (10, mt_ald 2 11),
  (11, mt_ild 3 12),
  (12, mt_cv 0 1 sp_X0_length 15),
  (15, mt_icmp_ge 36 18),
  (18, mt_ald 0 19),
  (19, mt_ild 1 20),
  (20, mt_ald 2 21),
  (21, mt_ild 3 22),
  (22, mt_ild 4 24),
  (24, mt_cv 0 2 sp_X0_at 27),
  (27, mt_cv 0 2 sp_X0_add 30),
  (30, mt_inc 4 (1) 33),
  (33, mt_goto 8),
  (36, mt_vret)]
def cl_X0_behindClosing : List (Nat × am_T) := [(0, mt_ic (1) 1),
  (1, mt_sti 3 2),
  (2, mt_ild 2 3),
  (3, mt_sti 4 5),
  (5, mt_ild 4 7),
  (7, mt_ald 0 8),
  (8, mt_ild 1 9),
  (9, mt_cv 0 1 sp_X0_length 12),
  (12, mt_icmp_ge 66 15),
  (15, mt_ald 0 16),
  (16, mt_ild 1 17),
  (17, mt_ild 4 19),
  (19, mt_cv 0 2 sp_X0_at 22),
  (22, mt_cs 1 sp_X0_sign 25),
  (25, mt_sti 5 27),
  (27, mt_ild 5 29),
  (29, mt_cs 1 sp_X0_opens 32),
  (32, mt_if_eq 41 35),
  (35, mt_inc 3 (1) 38),
  (38, mt_goto 51),
  (41, mt_ild 5 43),
  (43, mt_ic (41) 45),
  (45, mt_icmp_ne 51 48),
  (48, mt_inc 3 (-1) 51),
  (51, mt_ild 3 52),
  (52, mt_if_ne 60 55),
  (55, mt_ild 4 57),
  (57, mt_ic (1) 58),
  (58, mt_iadd 59),
  (59, mt_iret),
  (60, mt_inc 4 (1) 63),
  (63, mt_goto 5),
  (66, mt_ald 0 67),
  (67, mt_ild 1 68),
  (68, mt_cv 0 1 sp_X0_length 71),
  (71, mt_iret)]
def cl_X0_copy : List (Nat × am_T) := [(0, mt_ald 0 1),
  (1, mt_getf 0 0 4),
  (4, mt_ald 1 5),
  (5, mt_getf 0 0 8),
  (8, mt_cv 6 1 sp_X6_copy 11),
  (11, mt_ald 0 12),
  (12, mt_getf 0 1 15),
  (15, mt_ald 1 16),
  (16, mt_getf 0 1 19),
  (19, mt_cv 6 1 sp_X6_copy 22),
  (22, mt_vret)]
theorem v_X0_sign (hm : ∀ pc, am_mono (am_lk cl_X0_sign pc)) : ∀ (av : List Value) (σ : am_M) (R0 : am_R), sp_X0_sign av σ R0 → av.length = 1 ∧ am_Wp (am_lk cl_X0_sign) 0 (am_args 0 av) [] σ R0 := by
  intro av σ R0 h
  obtain ⟨x, rfl, h⟩ := am_sr1_elim h
  exact ⟨rfl, am_go hm (fun _ => false) 20 h⟩
theorem v_X0_operand (hm : ∀ pc, am_mono (am_lk cl_X0_operand pc)) : ∀ (av : List Value) (σ : am_M) (R0 : am_R), sp_X0_operand av σ R0 → av.length = 1 ∧ am_Wp (am_lk cl_X0_operand) 0 (am_args 0 av) [] σ R0 := by
  intro av σ R0 h
  obtain ⟨x, rfl, h⟩ := am_sr1_elim h
  exact ⟨rfl, am_go hm (fun _ => false) 20 h⟩
theorem v_X0_opens (hm : ∀ pc, am_mono (am_lk cl_X0_opens pc)) : ∀ (av : List Value) (σ : am_M) (R0 : am_R), sp_X0_opens av σ R0 → av.length = 1 ∧ am_Wp (am_lk cl_X0_opens) 0 (am_args 0 av) [] σ R0 := by
  intro av σ R0 h
  obtain ⟨x, e, h5⟩ := am_sr1_elim h
  clear h
  subst e
  refine ⟨rfl, am_go hm (fun _ => false) 20 ?_⟩
  refine am_ite (fun h1 => am_b1 h5 (Or.inl h1)) (fun h1 => ?_)
  refine am_ite (fun h2 => am_b1 h5 (Or.inr (Or.inl h2))) (fun h2 => ?_)
  refine am_ite (fun h3 => am_b1 h5 (Or.inr (Or.inr h3))) (fun h3 => ?_)
  exact am_b0 h5 (fun q => q.elim h1 (fun q => q.elim h2 h3))
theorem v_X0_length (hm : ∀ pc, am_mono (am_lk cl_X0_length pc)) : ∀ (av : List Value) (σ : am_M) (R0 : am_R), sp_X0_length av σ R0 → av.length = 2 ∧ am_Wp (am_lk cl_X0_length) 0 (am_args 0 av) [] σ R0 := by
  intro av σ R0 h
  obtain ⟨k, p, rfl, hk, h⟩ := am_cr1_elim h
  obtain ⟨l1, l2, l3⟩ := am_book hk
  refine ⟨rfl, am_go hm (fun p => Nat.beq p 1) 20 ?_⟩
  refine wg_ref hm l1 rfl rfl ?_
  refine am_go hm (fun p => Nat.beq p 5) 20 ?_
  refine wc_v1 hm l2 rfl rfl ?_
  refine am_cr1_in l2 ?_
  exact am_go hm (fun _ => false) 20 h
theorem v_X0_empty (hm : ∀ pc, am_mono (am_lk cl_X0_empty pc)) : ∀ (av : List Value) (σ : am_M) (R0 : am_R), sp_X0_empty av σ R0 → av.length = 2 ∧ am_Wp (am_lk cl_X0_empty) 0 (am_args 0 av) [] σ R0 := by
  intro av σ R0 h
  obtain ⟨k, p, rfl, hk, h⟩ := am_cw1_elim h
  obtain ⟨l1, l2, l3⟩ := am_book hk
  refine ⟨rfl, am_go hm (fun p => Nat.beq p 1) 20 ?_⟩
  refine wg_ref hm l1 rfl rfl ?_
  refine am_go hm (fun p => Nat.beq p 6) 20 ?_
  refine wc_v2 hm l2 rfl rfl ?_
  refine am_cw2_in l2 ?_
  exact am_go hm (fun _ => false) 20 h
theorem v_X0_at (hm : ∀ pc, am_mono (am_lk cl_X0_at pc)) : ∀ (av : List Value) (σ : am_M) (R0 : am_R), sp_X0_at av σ R0 → av.length = 3 ∧ am_Wp (am_lk cl_X0_at) 0 (am_args 0 av) [] σ R0 := by
  intro av σ R0 h
  obtain ⟨k, p, i, rfl, hk, h⟩ := am_cr2_elim h
  obtain ⟨l1, l2, l3⟩ := am_book hk
  refine ⟨rfl, am_go hm (fun p => Nat.beq p 6) 20 ?_⟩
  refine am_ite (fun h0 => ?_) (fun h0 => ?_)
  · rw [show bAt _ k p i = 0 from if_pos h0] at h; exact am_ite (fun _ => h) (fun z => absurd rfl z)
  refine wg_ref hm l1 rfl rfl ?_
  refine am_go hm (fun p => Nat.beq p 10) 20 ?_
  refine wc_v1 hm l2 rfl rfl ?_
  refine am_cr1_in l2 ?_
  refine am_go hm (fun p => Nat.beq p 27) 20 ?_
  refine am_ite (fun h1 => ?_) (fun h1 => ?_)
  · rw [show bAt _ k p i = 0 from (if_neg h0).trans (if_pos h1)] at h; exact am_ite (fun _ => h) (fun z => absurd rfl z)
  refine am_ite (fun z => absurd z (by decide)) (fun _ => ?_)
  rw [show bAt _ k p i = _ from (if_neg h0).trans (if_neg h1)] at h
  refine wg_ref hm l1 rfl rfl ?_
  refine am_go hm (fun p => Nat.beq p 36) 20 ?_
  refine wc_v1 hm l3 rfl rfl ?_
  refine am_cr1_in l3 ?_
  exact am_go hm (fun _ => false) 20 h
theorem v_X0_add (hm : ∀ pc, am_mono (am_lk cl_X0_add pc)) : ∀ (av : List Value) (σ : am_M) (R0 : am_R), sp_X0_add av σ R0 → av.length = 3 ∧ am_Wp (am_lk cl_X0_add) 0 (am_args 0 av) [] σ R0 := by
  intro av σ R0 h
  obtain ⟨k, p, x, rfl, hk, h⟩ := am_cw2_elim h
  obtain ⟨l1, l2, l3⟩ := am_book hk
  refine ⟨rfl, am_go hm (fun p => Nat.beq p 1) 20 ?_⟩
  refine wg_ref hm l1 rfl rfl ?_
  refine am_go hm (fun p => Nat.beq p 5) 20 ?_
  refine wc_v1 hm l2 rfl rfl ?_
  refine am_cr1_in l2 ?_
  refine am_go hm (fun p => Nat.beq p 16) 20 ?_
  refine am_ite (fun h1 => ?_) (fun h1 => ?_)
  · rw [show bAdd _ k p x = _ from if_pos h1] at h; exact h
  rw [show bAdd _ k p x = _ from if_neg h1] at h
  refine wg_ref hm l1 rfl rfl ?_
  refine am_go hm (fun p => Nat.beq p 26) 20 ?_
  refine wc_v2 hm l3 rfl rfl ?_
  refine am_cw2_in l3 ?_
  refine am_go hm (fun p => Nat.beq p 30) 20 ?_
  refine wg_ref hm l1 rfl rfl ?_
  refine am_go hm (fun p => Nat.beq p 37) 20 ?_
  refine wc_v2 hm l2 rfl rfl ?_
  refine am_cw2_in l2 ?_
  exact am_go hm (fun _ => false) 20 h
theorem v_X0_copy (hm : ∀ pc, am_mono (am_lk cl_X0_copy pc)) : ∀ (av : List Value) (σ : am_M) (R0 : am_R), sp_X0_copy av σ R0 → av.length = 2 ∧ am_Wp (am_lk cl_X0_copy) 0 (am_args 0 av) [] σ R0 := by
  intro av σ R0 h
  obtain ⟨k, q, rfl, hk, hq, h⟩ := am_qq_elim h
  obtain ⟨l1, l2, l3⟩ := am_book hk
  obtain ⟨g1, g2, g3⟩ := am_book hq
  refine ⟨rfl, am_go hm (fun p => Nat.beq p 1) 20 ?_⟩
  refine wg_ref hm l1 rfl rfl ?_
  refine am_go hm (fun p => Nat.beq p 5) 20 ?_
  refine wg_ref hm g1 rfl rfl ?_
  refine wc_v1 hm l2 rfl rfl ?_
  refine am_qq_in l2 g2 ?_
  refine am_go hm (fun p => Nat.beq p 12) 20 ?_
  refine wg_ref hm l1 rfl rfl ?_
  refine am_go hm (fun p => Nat.beq p 16) 20 ?_
  refine wg_ref hm g1 rfl rfl ?_
  refine wc_v1 hm l3 rfl rfl ?_
  refine am_qq_in l3 g3 ?_
  exact am_go hm (fun _ => false) 20 h
