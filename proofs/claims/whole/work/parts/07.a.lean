/-! specs by functions; rows -/
def am_sf (f : List Value → am_M → Option (Option Value × am_M)) : am_S := fun av σ R => match f av σ with
  | some q => R q.1 q.2
  | none => False
theorem am_sf_elim {f : List Value → am_M → Option (Option Value × am_M)} {av : List Value} {σ : am_M} {R : am_R} (h : am_sf f av σ R) : ∃ q, f av σ = some q ∧ R q.1 q.2 := by
  unfold am_sf at h
  split at h
  · rename_i q e; exact ⟨q, e, h⟩
  · exact h.elim
theorem am_sf_mono (f : List Value → am_M → Option (Option Value × am_M)) : am_mS (am_sf f) := by
  intro av σ R R' h hs
  unfold am_sf at hs ⊢
  split at hs
  · exact h _ _ hs
  · exact hs.elim
def am_sp (f : List Value → am_M → Option (Prop × Option Value × am_M)) : am_S := fun av σ R => match f av σ with
  | some q => q.1 ∧ R q.2.1 q.2.2
  | none => False
theorem am_sp_mono (f : List Value → am_M → Option (Prop × Option Value × am_M)) : am_mS (am_sp f) := by
  intro av σ R R' h hs
  unfold am_sp at hs ⊢
  split at hs
  · exact ⟨hs.1, h _ _ hs.2⟩
  · exact hs.elim
def am_len (k : Nat) : Nat := match am_lay[k]? with
  | some (.inl n) => n
  | _ => 0
def rAt (σ : am_M) (k : Nat) (i : Int32) : Int32 := if i < 0 then 0 else if nI (am_len (k + 1)) ≤ i then 0 else σ (k + 1) i.toNatClampNeg
def rPut (σ : am_M) (k : Nat) (i v : Int32) : am_M := if i < 0 then σ else if nI (am_len (k + 1)) ≤ i then σ else am_up σ (k + 1) i.toNatClampNeg v
def rChg (σ : am_M) (k : Nat) (i d : Int32) : am_M := if i < 0 then σ else if nI (am_len (k + 1)) ≤ i then σ else am_up σ (k + 1) i.toNatClampNeg (σ (k + 1) i.toNatClampNeg + d)
def rClr (σ : am_M) (k : Nat) : am_M := am_ua σ (k + 1) (fun j => if j < am_len (k + 1) then 0 else σ (k + 1) j)
def rCpy (σ : am_M) (k q : Nat) : am_M := am_ua σ (k + 1) (fun j => if j < min (am_len (k + 1)) (am_len (q + 1)) then σ (q + 1) j else σ (k + 1) j)
/-- rows: an object, its array behind it -/
theorem am_row_all : (List.range 194).all (fun k => !am_isC 6 k || (decide (am_lay[k]? = some (.inr (6, [some (k + 1)]))) && decide (am_lay[k + 1]? = some (.inl (am_len (k + 1)))) && decide (am_len (k + 1) < 100000))) = true := by decide +kernel
theorem am_lay_none {k : Nat} (h : 194 ≤ k) : am_lay[k]? = none := List.getElem?_eq_none (by rw [am_lay_len]; exact h)
theorem am_row {k : Nat} (h : am_isC 6 k = true) : am_lay[k]? = some (.inr (6, [some (k + 1)])) ∧ am_lay[k + 1]? = some (.inl (am_len (k + 1))) ∧ am_len (k + 1) < 2 ^ 31 := by
  rcases Nat.lt_or_ge k 194 with hk | hk
  · have q := List.all_eq_true.mp am_row_all k (List.mem_range.mpr hk)
    rw [h] at q
    simp only [Bool.not_true, Bool.false_or, Bool.and_eq_true, decide_eq_true_eq] at q
    exact ⟨q.1.1, q.1.2, by have := q.2; omega⟩
  · unfold am_isC at h
    rw [am_lay_none hk] at h
    cases h
def sf_X6_at : List Value → am_M → Option (Option Value × am_M)
  | [.ref k, .int i], σ => bif am_isC 6 k then some (some (.int (rAt σ k i)), σ) else none
  | _, _ => none
def sp_X6_at : am_S := am_sf sf_X6_at
def sf_X6_put : List Value → am_M → Option (Option Value × am_M)
  | [.ref k, .int i, .int v], σ => bif am_isC 6 k then some (none, rPut σ k i v) else none
  | _, _ => none
def sp_X6_put : am_S := am_sf sf_X6_put
def sf_X6_change : List Value → am_M → Option (Option Value × am_M)
  | [.ref k, .int i, .int v], σ => bif am_isC 6 k then some (none, rChg σ k i v) else none
  | _, _ => none
def sp_X6_change : am_S := am_sf sf_X6_change
def sf_X6_clear : List Value → am_M → Option (Option Value × am_M)
  | [.ref k], σ => bif am_isC 6 k then some (none, rClr σ k) else none
  | _, _ => none
def sp_X6_clear : am_S := am_sf sf_X6_clear
def sf_X6_copy : List Value → am_M → Option (Option Value × am_M)
  | [.ref k, .ref q], σ => bif am_isC 6 k && am_isC 6 q then some (none, rCpy σ k q) else none
  | _, _ => none
def sp_X6_copy : am_S := am_sf sf_X6_copy
theorem sm_X6_at : am_mS sp_X6_at := am_sf_mono _
theorem sm_X6_put : am_mS sp_X6_put := am_sf_mono _
theorem sm_X6_change : am_mS sp_X6_change := am_sf_mono _
theorem sm_X6_clear : am_mS sp_X6_clear := am_sf_mono _
theorem sm_X6_copy : am_mS sp_X6_copy := am_sf_mono _
def cl_X6_at : List (Nat × am_T) := [(0, mt_ild 1 1),
  (1, mt_if_lt 22 4),
  (4, mt_ild 1 5),
  (5, mt_ald 0 6),
  (6, mt_getf 6 0 9),
  (9, mt_alen 10),
  (10, mt_icmp_ge 22 13),
  (13, mt_ald 0 14),
  (14, mt_getf 6 0 17),
  (17, mt_ild 1 18),
  (18, mt_iald 19),
  (19, mt_goto 23),
  (22, mt_ic (0) 23),
  (23, mt_iret)]
def cl_X6_put : List (Nat × am_T) := [(0, mt_ild 1 1),
  (1, mt_if_lt 20 4),
  (4, mt_ild 1 5),
  (5, mt_ald 0 6),
  (6, mt_getf 6 0 9),
  (9, mt_alen 10),
  (10, mt_icmp_ge 20 13),
  (13, mt_ald 0 14),
  (14, mt_getf 6 0 17),
  (17, mt_ild 1 18),
  (18, mt_ild 2 19),
  (19, mt_iast 20),
  (20, mt_vret)]
def cl_X6_change : List (Nat × am_T) := [(0, mt_ild 1 1),
  (1, mt_if_lt 23 4),
  (4, mt_ild 1 5),
  (5, mt_ald 0 6),
  (6, mt_getf 6 0 9),
  (9, mt_alen 10),
  (10, mt_icmp_ge 23 13),
  (13, mt_ald 0 14),
  (14, mt_getf 6 0 17),
  (17, mt_ild 1 18),
  (18, mt_dup2 19),
  (19, mt_iald 20),
  (20, mt_ild 2 21),
  (21, mt_iadd 22),
  (22, mt_iast 23),
  (23, mt_vret)]
def cl_X6_clear : List (Nat × am_T) := [(0, mt_ic (0) 1),
  (1, mt_sti 1 2),
  (2, mt_ild 1 3),
  (3, mt_ald 0 4),
  (4, mt_getf 6 0 7),
  (7, mt_alen 8),
  (8, mt_icmp_ge 24 11),
  (11, mt_ald 0 12),
  (12, mt_getf 6 0 15),
  (15, mt_ild 1 16),
  (16, mt_ic (0) 17),
  (17, mt_iast 18),
  (18, mt_inc 1 (1) 21),
  (21, mt_goto 2),
  (24, mt_vret)]
def cl_X6_copy : List (Nat × am_T) := [(0, mt_ald 1 1),
  (1, mt_getf 6 0 4),
  (4, mt_ic (0) 5),
  (5, mt_ald 0 6),
  (6, mt_getf 6 0 9),
  (9, mt_ic (0) 10),
  (10, mt_ald 0 11),
  (11, mt_getf 6 0 14),
  (14, mt_alen 15),
  (15, mt_ald 1 16),
  (16, mt_getf 6 0 19),
  (19, mt_alen 20),
  (20, mt_mmin 23),
  (23, mt_acopy 26),
  (26, mt_vret)]
theorem am_i0 {i : Int32} {n : Nat} (h0 : ¬ i < 0) (hn : n < 2 ^ 31) (h1 : ¬ nI n ≤ i) : vp_in i n := by
  obtain ⟨j, hj, rfl⟩ := nI_of h0
  refine vp_in_nI ?_ hn
  rcases Nat.lt_or_ge j n with h | h
  · exact h
  · exact absurd (nI_le h hj) h1
theorem am_ite {c A B : Prop} [Decidable c] (h1 : c → A) (h2 : ¬ c → B) : if c then A else B := by
  by_cases h : c
  · rw [if_pos h]; exact h1 h
  · rw [if_neg h]; exact h2 h
/-! single steps, for objects at places that are variables -/
section AMW
variable {code : Nat → am_T} {pc nx ci j k q n : Nat} {ls : am_L} {st : List Value} {σ : am_M} {R : am_R} {fs : List (Option Nat)}
theorem wg_ref (hm : ∀ pc, am_mono (code pc)) (hl : am_lay[k]? = some (.inr (ci, fs))) (hf : fs[j]? = some (some q)) (hc : code pc = mt_getf ci j nx) (h : am_Wp code nx ls (.ref q :: st) σ R) : am_Wp code pc ls (.ref k :: st) σ R := by
  refine am_Wp.fold hm ?_
  rw [hc]
  unfold mt_getf
  dsimp only
  rw [hl]
  have e : Nat.beq ci ci = true := Nat.beq_refl ci
  simp only [e, cond, hf]
  exact h
theorem wg_int (hm : ∀ pc, am_mono (code pc)) (hl : am_lay[k]? = some (.inr (ci, fs))) (hf : fs[j]? = some none) (hc : code pc = mt_getf ci j nx) (h : am_Wp code nx ls (.int (σ k j) :: st) σ R) : am_Wp code pc ls (.ref k :: st) σ R := by
  refine am_Wp.fold hm ?_
  rw [hc]
  unfold mt_getf
  dsimp only
  rw [hl]
  have e : Nat.beq ci ci = true := Nat.beq_refl ci
  simp only [e, cond, hf]
  exact h
theorem wg_put (hm : ∀ pc, am_mono (code pc)) (hl : am_lay[k]? = some (.inr (ci, fs))) (hf : fs[j]? = some none) (hc : code pc = mt_putf ci j nx) {v : Int32} (h : am_Wp code nx ls st (am_up σ k j v) R) : am_Wp code pc ls (.int v :: .ref k :: st) σ R := by
  refine am_Wp.fold hm ?_
  rw [hc]
  unfold mt_putf
  dsimp only
  rw [hl]
  have e : Nat.beq ci ci = true := Nat.beq_refl ci
  simp only [e, cond, hf]
  exact h
theorem wa_len (hm : ∀ pc, am_mono (code pc)) (hl : am_lay[k]? = some (.inl n)) (hc : code pc = mt_alen nx) (h : am_Wp code nx ls (.int (nI n) :: st) σ R) : am_Wp code pc ls (.ref k :: st) σ R := by
  refine am_Wp.fold hm ?_
  rw [hc]
  unfold mt_alen
  dsimp only
  rw [hl]
  exact h
theorem wa_ld (hm : ∀ pc, am_mono (code pc)) (hl : am_lay[k]? = some (.inl n)) (hc : code pc = mt_iald nx) {i : Int32} (hi : vp_in i n) (h : am_Wp code nx ls (.int (σ k i.toNatClampNeg) :: st) σ R) : am_Wp code pc ls (.int i :: .ref k :: st) σ R := by
  refine am_Wp.fold hm ?_
  rw [hc]
  unfold mt_iald
  dsimp only
  rw [hl]
  exact ⟨hi, h⟩
theorem wa_st (hm : ∀ pc, am_mono (code pc)) (hl : am_lay[k]? = some (.inl n)) (hc : code pc = mt_iast nx) {i v : Int32} (hi : vp_in i n) (h : am_Wp code nx ls st (am_up σ k i.toNatClampNeg v) R) : am_Wp code pc ls (.int v :: .int i :: .ref k :: st) σ R := by
  refine am_Wp.fold hm ?_
  rw [hc]
  unfold mt_iast
  dsimp only
  rw [hl]
  exact ⟨hi, h⟩
theorem wa_cpy (hm : ∀ pc, am_mono (code pc)) {a a0 n0 n1 : Nat} (hl0 : am_lay[a0]? = some (.inl n0)) (hl1 : am_lay[a]? = some (.inl n1)) (hc : code pc = mt_acopy nx) {n sp dp : Int32} (h8 : Nat.ble st.length 8 = true) (hx : ¬ sp < 0 ∧ ¬ dp < 0 ∧ ¬ n < 0 ∧ sp.toNatClampNeg + n.toNatClampNeg ≤ n0 ∧ dp.toNatClampNeg + n.toNatClampNeg ≤ n1) (h : am_Wp code nx ls st (am_ua σ a (va_cpy (σ a0) (σ a) sp.toNatClampNeg dp.toNatClampNeg n.toNatClampNeg)) R) : am_Wp code pc ls (.int n :: .int dp :: .ref a :: .int sp :: .ref a0 :: st) σ R := by
  refine am_Wp.fold hm ?_
  rw [hc]
  unfold mt_acopy
  dsimp only
  rw [hl0, hl1]
  simp only [h8, cond]
  exact ⟨hx, h⟩
/-- a virtual call on an object at a variable place, without further arguments, and with one or two -/
theorem wc_v0 (hm : ∀ pc, am_mono (code pc)) {sp : am_S} (hi : am_isC ci k = true) (h8 : Nat.ble st.length 8 = true) (hc : code pc = mt_cv ci 0 sp nx) (h : sp [.ref k] σ (fun v σ' => am_Wp code nx ls (v.toList ++ st) σ' R)) : am_Wp code pc ls (.ref k :: st) σ R := by
  refine am_Wp.fold hm ?_
  rw [hc]
  show bif am_isC ci k then (bif Nat.ble st.length 8 then _ else False) else False
  rw [hi, h8]
  exact h
theorem wc_v1 (hm : ∀ pc, am_mono (code pc)) {sp : am_S} {a : Value} (hi : am_isC ci k = true) (h8 : Nat.ble st.length 8 = true) (hc : code pc = mt_cv ci 1 sp nx) (h : sp [.ref k, a] σ (fun v σ' => am_Wp code nx ls (v.toList ++ st) σ' R)) : am_Wp code pc ls (a :: .ref k :: st) σ R := by
  refine am_Wp.fold hm ?_
  rw [hc]
  show bif am_isC ci k then (bif Nat.ble st.length 8 then _ else False) else False
  rw [hi, h8]
  exact h
theorem wc_v2 (hm : ∀ pc, am_mono (code pc)) {sp : am_S} {a b : Value} (hi : am_isC ci k = true) (h8 : Nat.ble st.length 8 = true) (hc : code pc = mt_cv ci 2 sp nx) (h : sp [.ref k, a, b] σ (fun v σ' => am_Wp code nx ls (v.toList ++ st) σ' R)) : am_Wp code pc ls (b :: a :: .ref k :: st) σ R := by
  refine am_Wp.fold hm ?_
  rw [hc]
  show bif am_isC ci k then (bif Nat.ble st.length 8 then _ else False) else False
  rw [hi, h8]
  exact h
end AMW
theorem v_X6_at (hm : ∀ pc, am_mono (am_lk cl_X6_at pc)) : ∀ (av : List Value) (σ : am_M) (R0 : am_R), sp_X6_at av σ R0 → av.length = 2 ∧ am_Wp (am_lk cl_X6_at) 0 (am_args 0 av) [] σ R0 := by
  intro av σ R0 h
  obtain ⟨q, e, h⟩ := am_sf_elim h
  unfold sf_X6_at at e
  split at e
  · rename_i σ k i
    cases hk : am_isC 6 k with
    | false => rw [hk] at e; cases e
    | true =>
      rw [hk] at e
      cases e
      refine ⟨rfl, ?_⟩
      obtain ⟨l1, l2, l3⟩ := am_row hk
      refine am_go hm (fun p => Nat.beq p 6) 20 ?_
      refine am_ite (fun h0 => ?_) (fun h0 => ?_)
      · rw [show rAt _ k i = 0 from if_pos h0] at h; exact h
      refine wg_ref hm l1 rfl rfl ?_
      refine wa_len hm l2 rfl ?_
      refine am_go hm (fun p => Nat.beq p 14) 20 ?_
      refine am_ite (fun h1 => ?_) (fun h1 => ?_)
      · rw [show rAt _ k i = 0 from (if_neg h0).trans (if_pos h1)] at h; exact h
      refine wg_ref hm l1 rfl rfl ?_
      refine am_go hm (fun p => Nat.beq p 18) 20 ?_
      refine wa_ld hm l2 rfl (am_i0 h0 l3 h1) ?_
      rw [show rAt _ k i = _ from (if_neg h0).trans (if_neg h1)] at h
      exact am_go hm (fun _ => false) 20 h
  · cases e
