/-! lines -/
def lSize (σ : am_M) (k : Nat) : Int32 := σ k 1
def lHas (σ : am_M) (k : Nat) (i : Int32) : Int32 := bI (0 ≤ i ∧ i < σ k 1)
def lAt (σ : am_M) (k : Nat) (i : Int32) : Int32 := if i < 0 then -1 else if σ k 1 ≤ i then -1 else if nI (am_len (k + 1)) ≤ i then -1 else σ (k + 1) i.toNatClampNeg
def lAdd (σ : am_M) (k : Nat) (v : Int32) : am_M := if σ k 1 < 0 then σ else if nI (am_len (k + 1)) ≤ σ k 1 then σ else am_up (am_up σ (k + 1) (σ k 1).toNatClampNeg v) k 1 (σ k 1 + 1)
/-- how many of its cells a line may use -/
def lNm (σ : am_M) (k : Nat) : Nat := min (σ k 1).toNatClampNeg (am_len (k + 1))
def lSh (σ : am_M) (k : Nat) : am_M := am_ua σ (k + 1) (fun j => if j + 1 < lNm σ k then σ (k + 1) (j + 1) else σ (k + 1) j)
def lTak (σ : am_M) (k : Nat) : am_M := am_up (lSh σ k) k 1 (if σ k 1 - 1 < 0 then 0 else σ k 1 - 1)
def lClr (σ : am_M) (k : Nat) : am_M := am_up σ k 1 0
def lCpy (σ : am_M) (k q : Nat) : am_M := am_up (rCpy σ k q) k 1 (if nI (min (am_len (k + 1)) (am_len (q + 1))) < σ q 1 then nI (min (am_len (k + 1)) (am_len (q + 1))) else σ q 1)
def sp_X4_size := am_cr0 4 lSize
def sp_X4_has := am_cr1 4 lHas
def sp_X4_at := am_cr1 4 lAt
def sp_X4_add := am_cw1 4 lAdd
def sp_X4_takeFirst := am_cb0 4 (fun σ k => lAt σ k 0) lTak
def sp_X4_clear := am_cw0 4 lClr
def sp_X4_copy : am_S := fun av σ R => match av with
  | [.ref k, .ref q] => bif am_isC 4 k && (am_isC 4 q && !Nat.beq k q) then R none (lCpy σ k q) else False
  | _ => False
theorem sm_X4_size : am_mS sp_X4_size := am_cr0_mono _ _
theorem sm_X4_has : am_mS sp_X4_has := am_cr1_mono _ _
theorem sm_X4_at : am_mS sp_X4_at := am_cr1_mono _ _
theorem sm_X4_add : am_mS sp_X4_add := am_cw1_mono _ _
theorem sm_X4_takeFirst : am_mS sp_X4_takeFirst := am_cb0_mono _ _ _
theorem sm_X4_clear : am_mS sp_X4_clear := am_cw0_mono _ _
theorem sm_X4_copy : am_mS sp_X4_copy := by
  intro av σ R R' h hs
  unfold sp_X4_copy at hs ⊢
  split at hs
  · rename_i k q
    try dsimp only
    cases hb : am_isC 4 k && (am_isC 4 q && !Nat.beq k q) with
    | false => rw [hb] at hs; exact hs.elim
    | true => rw [hb] at hs; exact h _ _ hs
  · exact hs.elim
def cl_X4_size : List (Nat × am_T) := [(0, mt_ald 0 1),
  (1, mt_getf 4 1 4),
  (4, mt_iret)]
def cl_X4_has : List (Nat × am_T) := [(0, mt_ild 1 1),
  (1, mt_if_lt 16 4),
  (4, mt_ild 1 5),
  (5, mt_ald 0 6),
  (6, mt_getf 4 1 9),
  (9, mt_icmp_ge 16 12),
  (12, mt_ic (1) 13),
  (13, mt_goto 17),
  (16, mt_ic (0) 17),
  (17, mt_zret)]
def cl_X4_at : List (Nat × am_T) := [(0, mt_ild 1 1),
  (1, mt_if_lt 30 4),
  (4, mt_ild 1 5),
  (5, mt_ald 0 6),
  (6, mt_getf 4 1 9),
  (9, mt_icmp_ge 30 12),
  (12, mt_ild 1 13),
  (13, mt_ald 0 14),
  (14, mt_getf 4 0 17),
  (17, mt_alen 18),
  (18, mt_icmp_ge 30 21),
  (21, mt_ald 0 22),
  (22, mt_getf 4 0 25),
  (25, mt_ild 1 26),
  (26, mt_iald 27),
  (27, mt_goto 31),
  (30, mt_ic (-1) 31),
  (31, mt_iret)]
def cl_X4_add : List (Nat × am_T) := [(0, mt_ald 0 1),
  (1, mt_getf 4 1 4),
  (4, mt_if_lt 39 7),
  (7, mt_ald 0 8),
  (8, mt_getf 4 1 11),
  (11, mt_ald 0 12),
  (12, mt_getf 4 0 15),
  (15, mt_alen 16),
  (16, mt_icmp_ge 39 19),
  (19, mt_ald 0 20),
  (20, mt_getf 4 0 23),
  (23, mt_ald 0 24),
  (24, mt_getf 4 1 27),
  (27, mt_ild 1 28),
  (28, mt_iast 29),
  (29, mt_ald 0 30),
  (30, mt_dup 31),
  (31, mt_getf 4 1 34),
  (34, mt_ic (1) 35),
  (35, mt_iadd 36),
  (36, mt_putf 4 1 39),
  (39, mt_vret)]
def cl_X4_takeFirst : List (Nat × am_T) := [(0, mt_ald 0 1),
  (1, mt_ic (0) 2),
  (2, mt_cv 4 1 sp_X4_at 5),
  (5, mt_sti 1 6),
  (6, mt_ic (1) 7),
  (7, mt_sti 2 8),
  (8, mt_ild 2 9),
  (9, mt_ald 0 10),
  (10, mt_getf 4 1 13),
  (13, mt_icmp_ge 45 16),
  (16, mt_ild 2 17),
  (17, mt_ald 0 18),
  (18, mt_getf 4 0 21),
  (21, mt_alen 22),
  (22, mt_icmp_ge 45 25),
  (25, mt_ald 0 26),
  (26, mt_getf 4 0 29),
  (29, mt_ild 2 30),
  (30, mt_ic (1) 31),
  (31, mt_isub 32),
  (32, mt_ald 0 33),
  (33, mt_getf 4 0 36),
  (36, mt_ild 2 37),
  (37, mt_iald 38),
  (38, mt_iast 39),
  (39, mt_inc 2 (1) 42),
  (42, mt_goto 8),
  (45, mt_ald 0 46),
  (46, mt_ald 0 47),
  (47, mt_getf 4 1 50),
  (50, mt_ic (1) 51),
  (51, mt_isub 52),
  (52, mt_ic (0) 53),
  (53, mt_mmax 56),
  (56, mt_putf 4 1 59),
  (59, mt_ild 1 60),
  (60, mt_iret)]
def cl_X4_clear : List (Nat × am_T) := [(0, mt_ald 0 1),
  (1, mt_ic (0) 2),
  (2, mt_putf 4 1 5),
  (5, mt_vret)]
def cl_X4_copy : List (Nat × am_T) := [(0, mt_ald 0 1),
  (1, mt_getf 4 0 4),
  (4, mt_alen 5),
  (5, mt_ald 1 6),
  (6, mt_getf 4 0 9),
  (9, mt_alen 10),
  (10, mt_mmin 13),
  (13, mt_sti 2 14),
  (14, mt_ald 1 15),
  (15, mt_getf 4 0 18),
  (18, mt_ic (0) 19),
  (19, mt_ald 0 20),
  (20, mt_getf 4 0 23),
  (23, mt_ic (0) 24),
  (24, mt_ild 2 25),
  (25, mt_acopy 28),
  (28, mt_ald 0 29),
  (29, mt_ald 1 30),
  (30, mt_getf 4 1 33),
  (33, mt_ild 2 34),
  (34, mt_mmin 37),
  (37, mt_putf 4 1 40),
  (40, mt_vret)]
theorem v_X4_size (hm : ∀ pc, am_mono (am_lk cl_X4_size pc)) : ∀ (av : List Value) (σ : am_M) (R0 : am_R), sp_X4_size av σ R0 → av.length = 1 ∧ am_Wp (am_lk cl_X4_size) 0 (am_args 0 av) [] σ R0 := by
  intro av σ R0 h
  obtain ⟨k, rfl, hk, h⟩ := am_cr0_elim h
  refine ⟨rfl, ?_⟩
  obtain ⟨l1, l2, l3⟩ := am_line hk
  refine am_go hm (fun p => Nat.beq p 1) 20 ?_
  refine wg_int hm l1 rfl rfl ?_
  exact am_go hm (fun _ => false) 20 h
theorem v_X4_has (hm : ∀ pc, am_mono (am_lk cl_X4_has pc)) : ∀ (av : List Value) (σ : am_M) (R0 : am_R), sp_X4_has av σ R0 → av.length = 2 ∧ am_Wp (am_lk cl_X4_has) 0 (am_args 0 av) [] σ R0 := by
  intro av σ R0 h
  obtain ⟨k, i, rfl, hk, h⟩ := am_cr1_elim h
  refine ⟨rfl, ?_⟩
  obtain ⟨l1, l2, l3⟩ := am_line hk
  refine am_go hm (fun p => Nat.beq p 6) 20 ?_
  refine am_ite (fun h0 => ?_) (fun h0 => ?_)
  · exact am_b0 h (fun q => absurd q.1 (Int32.not_le.mpr h0))
  refine wg_int hm l1 rfl rfl ?_
  refine am_go hm (fun _ => false) 20 ?_
  refine am_ite (fun h1 => ?_) (fun h1 => ?_)
  · exact am_b0 h (fun q => absurd q.2 (Int32.not_lt.mpr h1))
  · exact am_b1 h ⟨Int32.not_lt.mp h0, Int32.not_le.mp h1⟩
theorem v_X4_at (hm : ∀ pc, am_mono (am_lk cl_X4_at pc)) : ∀ (av : List Value) (σ : am_M) (R0 : am_R), sp_X4_at av σ R0 → av.length = 2 ∧ am_Wp (am_lk cl_X4_at) 0 (am_args 0 av) [] σ R0 := by
  intro av σ R0 h
  obtain ⟨k, i, rfl, hk, h⟩ := am_cr1_elim h
  refine ⟨rfl, ?_⟩
  obtain ⟨l1, l2, l3⟩ := am_line hk
  refine am_go hm (fun p => Nat.beq p 6) 20 ?_
  refine am_ite (fun h0 => ?_) (fun h0 => ?_)
  · rw [show lAt _ k i = -1 from if_pos h0] at h; exact h
  refine wg_int hm l1 rfl rfl ?_
  refine am_go hm (fun p => Nat.beq p 14) 20 ?_
  refine am_ite (fun h1 => ?_) (fun h1 => ?_)
  · rw [show lAt _ k i = -1 from (if_neg h0).trans (if_pos h1)] at h; exact h
  refine wg_ref hm l1 rfl rfl ?_
  refine wa_len hm l2 rfl ?_
  refine am_go hm (fun p => Nat.beq p 22) 20 ?_
  refine am_ite (fun h2 => ?_) (fun h2 => ?_)
  · rw [show lAt _ k i = -1 from (if_neg h0).trans ((if_neg h1).trans (if_pos h2))] at h; exact h
  refine wg_ref hm l1 rfl rfl ?_
  refine am_go hm (fun p => Nat.beq p 26) 20 ?_
  refine wa_ld hm l2 rfl (am_i0 h0 l3 h2) ?_
  rw [show lAt _ k i = _ from (if_neg h0).trans ((if_neg h1).trans (if_neg h2))] at h
  exact am_go hm (fun _ => false) 20 h
theorem v_X4_add (hm : ∀ pc, am_mono (am_lk cl_X4_add pc)) : ∀ (av : List Value) (σ : am_M) (R0 : am_R), sp_X4_add av σ R0 → av.length = 2 ∧ am_Wp (am_lk cl_X4_add) 0 (am_args 0 av) [] σ R0 := by
  intro av σ R0 h
  obtain ⟨k, v, rfl, hk, h⟩ := am_cw1_elim h
  refine ⟨rfl, ?_⟩
  obtain ⟨l1, l2, l3⟩ := am_line hk
  refine am_go hm (fun p => Nat.beq p 1) 20 ?_
  refine wg_int hm l1 rfl rfl ?_
  refine am_go hm (fun p => Nat.beq p 8) 20 ?_
  refine am_ite (fun h0 => ?_) (fun h0 => ?_)
  · rw [show lAdd _ k v = _ from if_pos h0] at h; exact h
  refine wg_int hm l1 rfl rfl ?_
  refine am_go hm (fun p => Nat.beq p 12) 20 ?_
  refine wg_ref hm l1 rfl rfl ?_
  refine wa_len hm l2 rfl ?_
  refine am_go hm (fun p => Nat.beq p 20) 20 ?_
  refine am_ite (fun h1 => ?_) (fun h1 => ?_)
  · rw [show lAdd _ k v = _ from (if_neg h0).trans (if_pos h1)] at h; exact h
  refine wg_ref hm l1 rfl rfl ?_
  refine am_go hm (fun p => Nat.beq p 24) 20 ?_
  refine wg_int hm l1 rfl rfl ?_
  refine am_go hm (fun p => Nat.beq p 28) 20 ?_
  refine wa_st hm l2 rfl (am_i0 h0 l3 h1) ?_
  refine am_go hm (fun p => Nat.beq p 31) 20 ?_
  refine wg_int hm l1 rfl rfl ?_
  refine am_go hm (fun p => Nat.beq p 36) 20 ?_
  refine wg_put hm l1 rfl rfl ?_
  rw [show lAdd _ k v = _ from (if_neg h0).trans (if_neg h1)] at h
  rw [show am_up _ (k + 1) _ v k 1 = _ from congrFun (am_ua_n _ _ (Nat.ne_of_lt (Nat.lt_succ_self k))) 1]
  exact am_go hm (fun _ => false) 20 h
theorem v_X4_clear (hm : ∀ pc, am_mono (am_lk cl_X4_clear pc)) : ∀ (av : List Value) (σ : am_M) (R0 : am_R), sp_X4_clear av σ R0 → av.length = 1 ∧ am_Wp (am_lk cl_X4_clear) 0 (am_args 0 av) [] σ R0 := by
  intro av σ R0 h
  obtain ⟨k, rfl, hk, h⟩ := am_cw0_elim h
  refine ⟨rfl, ?_⟩
  obtain ⟨l1, l2, l3⟩ := am_line hk
  refine am_go hm (fun p => Nat.beq p 2) 20 ?_
  refine wg_put hm l1 rfl rfl ?_
  exact am_go hm (fun _ => false) 20 h
theorem v_X4_copy (hm : ∀ pc, am_mono (am_lk cl_X4_copy pc)) : ∀ (av : List Value) (σ : am_M) (R0 : am_R), sp_X4_copy av σ R0 → av.length = 2 ∧ am_Wp (am_lk cl_X4_copy) 0 (am_args 0 av) [] σ R0 := by
  intro av σ R0 h
  unfold sp_X4_copy at h
  split at h
  · rename_i k q
    cases hb : am_isC 4 k && (am_isC 4 q && !Nat.beq k q) with
    | false => rw [hb] at h; exact h.elim
    | true =>
      rw [hb] at h
      simp only [Bool.and_eq_true, Bool.not_eq_true'] at hb
      obtain ⟨hk, hq, hne⟩ := hb
      have hne := Nat.ne_of_beq_eq_false hne
      refine ⟨rfl, ?_⟩
      obtain ⟨l1, l2, l3⟩ := am_line hk
      obtain ⟨g1, g2, g3⟩ := am_line hq
      have hq1 : q ≠ k + 1 := fun z => by rw [z, l2] at g1; cases g1
      refine am_go hm (fun p => Nat.beq p 1) 3 ?_
      refine wg_ref hm l1 rfl rfl ?_
      refine wa_len hm l2 rfl ?_
      refine am_go hm (fun p => Nat.beq p 6) 5 ?_
      refine wg_ref hm g1 rfl rfl ?_
      refine wa_len hm g2 rfl ?_
      refine am_go hm (fun p => Nat.beq p 15) 9 ?_
      have c0 := nI_min l3 g3
      refine wg_ref hm g1 rfl rfl ?_
      refine am_go hm (fun p => Nat.beq p 20) 9 ?_
      refine wg_ref hm l1 rfl rfl ?_
      refine am_go hm (fun p => Nat.beq p 25) 9 ?_
      have c1 : (nI (min (am_len (k + 1)) (am_len (q + 1)))).toNatClampNeg = min (am_len (k + 1)) (am_len (q + 1)) := nI_clamp (by omega)
      refine wa_cpy hm g2 l2 rfl rfl ⟨by decide, by decide, by rw [c0]; exact nI_pos (by omega), ?_, ?_⟩ ?_
      · rw [c0, c1]; show 0 + _ ≤ _; omega
      · rw [c0, c1]; show 0 + _ ≤ _; omega
      rw [c0, c1]
      have e := am_cpy0 (σ := σ) (a := q + 1) (b := k + 1) (n := min (am_len (k + 1)) (am_len (q + 1)))
      rw [show va_cpy (σ (q + 1)) (σ (k + 1)) (Int32.toNatClampNeg 0) (Int32.toNatClampNeg 0) (min (am_len (k + 1)) (am_len (q + 1))) = _ from e]
      refine am_go hm (fun p => Nat.beq p 30) 9 ?_
      refine wg_int hm g1 rfl rfl ?_
      refine am_go hm (fun p => Nat.beq p 37) 9 ?_
      refine wg_put hm l1 rfl rfl ?_
      refine am_go hm (fun _ => false) 3 ?_
      have e2 : am_ua σ (k + 1) (fun j => if j < min (am_len (k + 1)) (am_len (q + 1)) then σ (q + 1) j else σ (k + 1) j) q 1 = σ q 1 := congrFun (am_ua_n _ _ hq1) 1
      rw [e2]
      exact h
  · exact h.elim
theorem nI_lt_iff {a : Nat} (ha : a < 2 ^ 31) {x : Int32} : nI a < x ↔ a < x.toNatClampNeg := by
  by_cases h : x < 0
  · have h1 : x.toNatClampNeg = 0 := by
      have := Int32.lt_iff_toInt_lt.mp h
      show x.toInt.toNat = 0
      have z : (0 : Int32).toInt = 0 := rfl
      omega
    rw [h1]
    refine ⟨fun q => absurd (Int32.lt_trans q h) (nI_pos ha), fun q => absurd q (Nat.not_lt_zero _)⟩
  · obtain ⟨j, hj, rfl⟩ := nI_of h
    rw [nI_clamp hj]
    exact nI_ltI ha hj
set_option maxRecDepth 20000 in
theorem l_X4_takeFirst (hm : ∀ pc, am_mono (am_lk cl_X4_takeFirst pc)) {k : Nat} (hk : am_isC 4 k = true) {σ : am_M} {R0 : am_R} (x : Int32) (h : R0 (some (.int x)) (lTak σ k)) : ∀ (m i : Nat), 1 ≤ i → i + m = max 1 (lNm σ k) → am_Wp (am_lk cl_X4_takeFirst) 8 [(0, .ref k), (1, .int x), (2, .int (nI i))] [] (am_ua σ (k + 1) (fun j => if j + 1 < i then σ (k + 1) (j + 1) else σ (k + 1) j)) R0 := by
  obtain ⟨l1, l2, l3⟩ := am_line hk
  have hs : ∀ f, am_ua σ (k + 1) f k 1 = σ k 1 := fun f => congrFun (am_ua_n _ _ (Nat.ne_of_lt (Nat.lt_succ_self k))) 1
  have fin : ∀ i, i = max 1 (lNm σ k) → am_Wp (am_lk cl_X4_takeFirst) 45 [(0, .ref k), (1, .int x), (2, .int (nI i))] [] (am_ua σ (k + 1) (fun j => if j + 1 < i then σ (k + 1) (j + 1) else σ (k + 1) j)) R0 := by
    intro i e
    have e1 : am_ua σ (k + 1) (fun j => if j + 1 < i then σ (k + 1) (j + 1) else σ (k + 1) j) = lSh σ k := by
      unfold lSh
      congr 1
      funext j
      by_cases q : j + 1 < i
      · rw [if_pos q, if_pos (by omega)]
      · rw [if_neg q, if_neg (by omega)]
    rw [e1]
    refine am_go hm (fun p => Nat.beq p 47) 5 ?_
    refine wg_int hm l1 rfl rfl ?_
    rw [show lSh σ k k 1 = σ k 1 from hs _]
    refine am_go hm (fun p => Nat.beq p 56) 9 ?_
    refine wg_put hm l1 rfl rfl ?_
    exact am_go hm (fun _ => false) 9 h
  intro m
  induction m with
  | zero =>
    intro i h1 hi
    refine am_go hm (fun p => Nat.beq p 10) 5 ?_
    refine wg_int hm l1 rfl rfl ?_
    rw [hs]
    refine am_go hm (fun p => Nat.beq p 18 || Nat.beq p 45) 9 ?_
    refine am_ite (fun _ => fin i (by omega)) (fun q => ?_)
    have q1 := (nI_lt_iff (by unfold lNm at hi; omega)).mp (Int32.not_le.mp q)
    refine wg_ref hm l1 rfl rfl ?_
    refine wa_len hm l2 rfl ?_
    refine am_go hm (fun p => Nat.beq p 26 || Nat.beq p 45) 9 ?_
    refine am_ite (fun _ => fin i (by omega)) (fun q2 => ?_)
    have q3 := (nI_ltI (by unfold lNm at hi; omega) l3).mp (Int32.not_le.mp q2)
    exfalso
    unfold lNm at hi
    omega
  | succ m ih =>
    intro i h1 hi
    have hn : i < lNm σ k := by omega
    have hb : i < 2 ^ 31 := by unfold lNm at hn; omega
    refine am_go hm (fun p => Nat.beq p 10) 5 ?_
    refine wg_int hm l1 rfl rfl ?_
    rw [hs]
    refine am_go hm (fun p => Nat.beq p 18 || Nat.beq p 45) 9 ?_
    refine am_ite (fun q => absurd ((nI_lt_iff hb).mpr (by unfold lNm at hn; omega)) (Int32.not_lt.mpr q)) (fun _ => ?_)
    refine wg_ref hm l1 rfl rfl ?_
    refine wa_len hm l2 rfl ?_
    refine am_go hm (fun p => Nat.beq p 26 || Nat.beq p 45) 9 ?_
    refine am_ite (fun q => absurd q (nI_ge (by unfold lNm at hn; omega) l3)) (fun _ => ?_)
    have hl : i < am_len (k + 1) := by unfold lNm at hn; omega
    refine wg_ref hm l1 rfl rfl ?_
    refine am_go hm (fun p => Nat.beq p 33) 9 ?_
    refine wg_ref hm l1 rfl rfl ?_
    refine am_go hm (fun p => Nat.beq p 37) 9 ?_
    refine wa_ld hm l2 rfl (vp_in_nI hl l3) ?_
    obtain ⟨i0, rfl⟩ : ∃ i0, i = i0 + 1 := ⟨i - 1, by omega⟩
    have e0 : nI (i0 + 1) - 1 = nI i0 := nI_pred i0
    rw [e0]
    refine wa_st hm l2 rfl (vp_in_nI (by omega) l3) ?_
    refine am_go hm (fun p => Nat.beq p 8) 5 ?_
    refine am_Wp.sub hm (ls := [(0, .ref k), (1, .int x), (2, .int (nI (i0 + 1 + 1)))]) (am_le_of (List.forall_mem_cons.mpr ⟨rfl, List.forall_mem_cons.mpr ⟨rfl, List.forall_mem_cons.mpr ⟨by rw [nI_succ (i0 + 1)]; rfl, fun _ q => by cases q⟩⟩⟩)) ?_
    rw [am_up_ua, nI_clamp (by omega), am_ua_s, nI_clamp (by omega)]
    have e : upd (fun j => if j + 1 < i0 + 1 then σ (k + 1) (j + 1) else σ (k + 1) j) i0 (if i0 + 1 + 1 < i0 + 1 then σ (k + 1) (i0 + 1 + 1) else σ (k + 1) (i0 + 1)) = fun j => if j + 1 < i0 + 1 + 1 then σ (k + 1) (j + 1) else σ (k + 1) j := by
      rw [if_neg (show ¬ i0 + 1 + 1 < i0 + 1 by omega)]
      funext j
      unfold upd
      by_cases q : j = i0
      · subst q; rw [if_pos rfl, if_pos (by omega)]
      · rw [if_neg q]
        dsimp only
        by_cases q2 : j + 1 < i0 + 1
        · rw [if_pos q2, if_pos (by omega)]
        · rw [if_neg q2, if_neg (by omega)]
    rw [e]
    exact ih (i0 + 1 + 1) (by omega) (by omega)
theorem v_X4_takeFirst (hm : ∀ pc, am_mono (am_lk cl_X4_takeFirst pc)) : ∀ (av : List Value) (σ : am_M) (R0 : am_R), sp_X4_takeFirst av σ R0 → av.length = 1 ∧ am_Wp (am_lk cl_X4_takeFirst) 0 (am_args 0 av) [] σ R0 := by
  intro av σ R0 h
  obtain ⟨k, rfl, hk, h⟩ := am_cb0_elim h
  refine ⟨rfl, ?_⟩
  refine am_go hm (fun p => Nat.beq p 2) 5 ?_
  refine wc_v1 hm hk rfl rfl ?_
  refine am_cr1_in hk ?_
  refine am_go hm (fun p => Nat.beq p 8) 9 ?_
  refine am_Wp.sub hm (ls := [(0, .ref k), (1, .int (lAt σ k 0)), (2, .int (nI 1))]) (am_le_of (List.forall_mem_cons.mpr ⟨rfl, List.forall_mem_cons.mpr ⟨rfl, List.forall_mem_cons.mpr ⟨rfl, fun _ q => by cases q⟩⟩⟩)) ?_
  have e := l_X4_takeFirst hm hk (lAt σ k 0) h (max 1 (lNm σ k) - 1) 1 (Nat.le_refl 1) (by omega)
  rw [am_ua_id _ _ _ (fun j => by simp)] at e
  exact e
