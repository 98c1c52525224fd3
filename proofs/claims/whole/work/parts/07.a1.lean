/-! rows, lines, books of the class -/
def bI (c : Prop) [Decidable c] : Int32 := if c then 1 else 0
theorem bI_t {c : Prop} [Decidable c] (h : c) : bI c = 1 := if_pos h
theorem bI_f {c : Prop} [Decidable c] (h : ¬ c) : bI c = 0 := if_neg h
theorem bI_0 {c : Prop} [Decidable c] : bI c = 0 ↔ ¬ c := by
  by_cases h : c
  · rw [bI_t h]; exact ⟨fun q => absurd q (by decide), fun q => absurd h q⟩
  · rw [bI_f h]; exact ⟨fun _ => h, fun _ => rfl⟩
theorem bI_n0 {c : Prop} [Decidable c] : ¬ bI c = 0 ↔ c := by rw [bI_0]; exact Decidable.not_not
theorem bI_01 {c : Prop} [Decidable c] : bI c = 0 ∨ bI c = 1 := by
  by_cases hc : c
  · exact Or.inr (bI_t hc)
  · exact Or.inl (bI_f hc)
/-- the end of a boolean method -/
theorem am_zr {c : Prop} [Decidable c] {R : am_R} {σ : am_M} (h : R (some (.int (bI c))) σ) : (bI c = 0 ∨ bI c = 1) ∧ R (some (.int (bI c))) σ := ⟨bI_01, h⟩
theorem am_b1 {c : Prop} [Decidable c] {R : am_R} {σ : am_M} (h5 : R (some (.int (bI c))) σ) (hc : c) : ((1 : Int32) = 0 ∨ (1 : Int32) = 1) ∧ R (some (.int 1)) σ := by rw [bI_t hc] at h5; exact ⟨Or.inr rfl, h5⟩
theorem am_b0 {c : Prop} [Decidable c] {R : am_R} {σ : am_M} (h5 : R (some (.int (bI c))) σ) (hc : ¬ c) : ((0 : Int32) = 0 ∨ (0 : Int32) = 1) ∧ R (some (.int 0)) σ := by rw [bI_f hc] at h5; exact ⟨Or.inl rfl, h5⟩
theorem am_ite {c A B : Prop} (h1 : c → A) (h2 : ¬ c → B) : (c → A) ∧ (¬ c → B) := ⟨h1, h2⟩
theorem am_v1 {c : Prop} [Decidable c] {R : am_R} {σ : am_M} (h5 : R (some (.int (bI c))) σ) (hc : c) : R (some (.int 1)) σ := by rw [bI_t hc] at h5; exact h5
theorem am_v0 {c : Prop} [Decidable c] {R : am_R} {σ : am_M} (h5 : R (some (.int (bI c))) σ) (hc : ¬ c) : R (some (.int 0)) σ := by rw [bI_f hc] at h5; exact h5
theorem am_l0 {A B : Prop} (h : A) : ((0 : Int32) = 0 → A) ∧ (¬ (0 : Int32) = 0 → B) := ⟨fun _ => h, fun z => absurd rfl z⟩
theorem am_l1 {A B : Prop} (h : B) : ((1 : Int32) = 0 → A) ∧ (¬ (1 : Int32) = 0 → B) := ⟨fun z => absurd z (by decide), fun _ => h⟩
theorem am_ua_ua (σ : am_M) (k : Nat) (f g : Nat → Int32) : am_ua (am_ua σ k f) k g = am_ua σ k g := by
  funext a
  by_cases h : a = k
  · subst h; rw [am_ua_s, am_ua_s]
  · rw [am_ua_n _ _ h, am_ua_n _ _ h, am_ua_n _ _ h]
theorem am_up_ua (σ : am_M) (k : Nat) (f : Nat → Int32) (j : Nat) (v : Int32) : am_up (am_ua σ k f) k j v = am_ua σ k (upd f j v) := by rw [am_up, am_ua_ua, am_ua_s]
theorem am_ua_id (σ : am_M) (k : Nat) (f : Nat → Int32) (h : ∀ j, f j = σ k j) : am_ua σ k f = σ := by
  funext a
  by_cases q : a = k
  · subst q; rw [am_ua_s]; exact funext h
  · rw [am_ua_n _ _ q]
def am_len (k : Nat) : Nat := match am_lay[k]? with
  | some (.inl n) => n
  | _ => 0
def rAt (σ : am_M) (k : Nat) (i : Int32) : Int32 := if i < 0 then 0 else if nI (am_len (k + 1)) ≤ i then 0 else σ (k + 1) i.toNatClampNeg
def rPut (σ : am_M) (k : Nat) (i v : Int32) : am_M := if i < 0 then σ else if nI (am_len (k + 1)) ≤ i then σ else am_up σ (k + 1) i.toNatClampNeg v
def rChg (σ : am_M) (k : Nat) (i d : Int32) : am_M := if i < 0 then σ else if nI (am_len (k + 1)) ≤ i then σ else am_up σ (k + 1) i.toNatClampNeg (σ (k + 1) i.toNatClampNeg + d)
def rClr (σ : am_M) (k : Nat) : am_M := am_ua σ (k + 1) (fun j => if j < am_len (k + 1) then 0 else σ (k + 1) j)
def rCpy (σ : am_M) (k q : Nat) : am_M := am_ua σ (k + 1) (fun j => if j < min (am_len (k + 1)) (am_len (q + 1)) then σ (q + 1) j else σ (k + 1) j)
theorem am_lay_none {k : Nat} (h : 194 ≤ k) : am_lay[k]? = none := List.getElem?_eq_none (by rw [am_lay_len]; exact h)
theorem am_isC_lt {ci k : Nat} (h : am_isC ci k = true) : k < 194 := by
  rcases Nat.lt_or_ge k 194 with hk | hk
  · exact hk
  · unfold am_isC at h
    rw [am_lay_none hk] at h
    cases h
/-- rows: an object, its array behind it -/
theorem am_row_all : (List.range 194).all (fun k => !am_isC 6 k || (decide (am_lay[k]? = some (.inr (6, [some (k + 1)]))) && decide (am_lay[k + 1]? = some (.inl (am_len (k + 1)))) && decide (am_len (k + 1) < 100000))) = true := by decide +kernel
theorem am_row {k : Nat} (h : am_isC 6 k = true) : am_lay[k]? = some (.inr (6, [some (k + 1)])) ∧ am_lay[k + 1]? = some (.inl (am_len (k + 1))) ∧ am_len (k + 1) < 2 ^ 31 := by
  have q := List.all_eq_true.mp am_row_all k (List.mem_range.mpr (am_isC_lt h))
  rw [h] at q
  simp only [Bool.not_true, Bool.false_or, Bool.and_eq_true, decide_eq_true_eq] at q
  exact ⟨q.1.1, q.1.2, by have := q.2; omega⟩
theorem am_line_all : (List.range 194).all (fun k => !am_isC 4 k || (decide (am_lay[k]? = some (.inr (4, [some (k + 1), none]))) && decide (am_lay[k + 1]? = some (.inl (am_len (k + 1)))) && decide (am_len (k + 1) < 100000))) = true := by decide +kernel
theorem am_line {k : Nat} (h : am_isC 4 k = true) : am_lay[k]? = some (.inr (4, [some (k + 1), none])) ∧ am_lay[k + 1]? = some (.inl (am_len (k + 1))) ∧ am_len (k + 1) < 2 ^ 31 := by
  have q := List.all_eq_true.mp am_line_all k (List.mem_range.mpr (am_isC_lt h))
  rw [h] at q
  simp only [Bool.not_true, Bool.false_or, Bool.and_eq_true, decide_eq_true_eq] at q
  exact ⟨q.1.1, q.1.2, by have := q.2; omega⟩
theorem am_book_all : (List.range 194).all (fun k => !am_isC 0 k || (decide (am_lay[k]? = some (.inr (0, [some (k + 1), some (k + 3)]))) && am_isC 6 (k + 1) && am_isC 6 (k + 3))) = true := by decide +kernel
theorem am_book {k : Nat} (h : am_isC 0 k = true) : am_lay[k]? = some (.inr (0, [some (k + 1), some (k + 3)])) ∧ am_isC 6 (k + 1) = true ∧ am_isC 6 (k + 3) = true := by
  have q := List.all_eq_true.mp am_book_all k (List.mem_range.mpr (am_isC_lt h))
  rw [h] at q
  simp only [Bool.not_true, Bool.false_or, Bool.and_eq_true, decide_eq_true_eq] at q
  exact ⟨q.1.1, q.1.2, q.2⟩
theorem am_i0 {i : Int32} {n : Nat} (h0 : ¬ i < 0) (hn : n < 2 ^ 31) (h1 : ¬ nI n ≤ i) : vp_in i n := by
  obtain ⟨j, hj, rfl⟩ := nI_of h0
  refine vp_in_nI ?_ hn
  rcases Nat.lt_or_ge j n with h | h
  · exact h
  · exact absurd (nI_le h hj) h1
/-! single steps, for objects at places that are variables -/
section AMW
variable {code : Nat → am_T} {pc nx ci j k q n : Nat} {ls : am_L} {st : List Value} {σ : am_M} {R : am_R} {fs : List (Option Nat)}
theorem wg_ref (hm : ∀ pc, am_mono (code pc)) (hl : am_lay[k]? = some (.inr (ci, fs))) (hf : fs[j]? = some (some q)) (hc : code pc = mt_getf ci j nx) (h : am_Wp code nx ls (.ref q :: st) σ R) : am_Wp code pc ls (.ref k :: st) σ R := by
  refine am_Wp.fold hm ?_
  rw [hc]
  unfold mt_getf
  dsimp only
  rw [hl]
  have e : Nat.beq ci ci = true := Nat.beq_refl ci
  simp only [e, cond, hf]
  exact h
theorem wg_int (hm : ∀ pc, am_mono (code pc)) (hl : am_lay[k]? = some (.inr (ci, fs))) (hf : fs[j]? = some none) (hc : code pc = mt_getf ci j nx) (h : am_Wp code nx ls (.int (σ k j) :: st) σ R) : am_Wp code pc ls (.ref k :: st) σ R := by
  refine am_Wp.fold hm ?_
  rw [hc]
  unfold mt_getf
  dsimp only
  rw [hl]
  have e : Nat.beq ci ci = true := Nat.beq_refl ci
  simp only [e, cond, hf]
  exact h
theorem wg_put (hm : ∀ pc, am_mono (code pc)) (hl : am_lay[k]? = some (.inr (ci, fs))) (hf : fs[j]? = some none) (hc : code pc = mt_putf ci j nx) {v : Int32} (h : am_Wp code nx ls st (am_up σ k j v) R) : am_Wp code pc ls (.int v :: .ref k :: st) σ R := by
  refine am_Wp.fold hm ?_
  rw [hc]
  unfold mt_putf
  dsimp only
  rw [hl]
  have e : Nat.beq ci ci = true := Nat.beq_refl ci
  simp only [e, cond, hf]
  exact h
theorem wa_len (hm : ∀ pc, am_mono (code pc)) (hl : am_lay[k]? = some (.inl n)) (hc : code pc = mt_alen nx) (h : am_Wp code nx ls (.int (nI n) :: st) σ R) : am_Wp code pc ls (.ref k :: st) σ R := by
  refine am_Wp.fold hm ?_
  rw [hc]
  unfold mt_alen
  dsimp only
  rw [hl]
  exact h
theorem wa_ld (hm : ∀ pc, am_mono (code pc)) (hl : am_lay[k]? = some (.inl n)) (hc : code pc = mt_iald nx) {i : Int32} (hi : vp_in i n) (h : am_Wp code nx ls (.int (σ k i.toNatClampNeg) :: st) σ R) : am_Wp code pc ls (.int i :: .ref k :: st) σ R := by
  refine am_Wp.fold hm ?_
  rw [hc]
  unfold mt_iald
  dsimp only
  rw [hl]
  exact ⟨hi, h⟩
theorem wa_st (hm : ∀ pc, am_mono (code pc)) (hl : am_lay[k]? = some (.inl n)) (hc : code pc = mt_iast nx) {i v : Int32} (hi : vp_in i n) (h : am_Wp code nx ls st (am_up σ k i.toNatClampNeg v) R) : am_Wp code pc ls (.int v :: .int i :: .ref k :: st) σ R := by
  refine am_Wp.fold hm ?_
  rw [hc]
  unfold mt_iast
  dsimp only
  rw [hl]
  exact ⟨hi, h⟩
theorem wa_cpy (hm : ∀ pc, am_mono (code pc)) {a a0 n0 n1 : Nat} (hl0 : am_lay[a0]? = some (.inl n0)) (hl1 : am_lay[a]? = some (.inl n1)) (hc : code pc = mt_acopy nx) {n sp dp : Int32} (h8 : Nat.ble st.length 8 = true) (hx : ¬ sp < 0 ∧ ¬ dp < 0 ∧ ¬ n < 0 ∧ sp.toNatClampNeg + n.toNatClampNeg ≤ n0 ∧ dp.toNatClampNeg + n.toNatClampNeg ≤ n1) (h : am_Wp code nx ls st (am_ua σ a (va_cpy (σ a0) (σ a) sp.toNatClampNeg dp.toNatClampNeg n.toNatClampNeg)) R) : am_Wp code pc ls (.int n :: .int dp :: .ref a :: .int sp :: .ref a0 :: st) σ R := by
  refine am_Wp.fold hm ?_
  rw [hc]
  unfold mt_acopy
  dsimp only
  rw [hl0, hl1]
  simp only [h8, cond]
  exact ⟨hx, h⟩
/-- a virtual call on an object at a variable place, without further arguments, and with one or two -/
theorem wc_v0 (hm : ∀ pc, am_mono (code pc)) {sp : am_S} (hi : am_isC ci k = true) (h8 : Nat.ble st.length 8 = true) (hc : code pc = mt_cv ci 0 sp nx) (h : sp [.ref k] σ (fun v σ' => am_Wp code nx ls (v.toList ++ st) σ' R)) : am_Wp code pc ls (.ref k :: st) σ R := by
  refine am_Wp.fold hm ?_
  rw [hc]
  show bif am_isC ci k then (bif Nat.ble st.length 8 then _ else False) else False
  rw [hi, h8]
  exact h
theorem wc_v1 (hm : ∀ pc, am_mono (code pc)) {sp : am_S} {a : Value} (hi : am_isC ci k = true) (h8 : Nat.ble st.length 8 = true) (hc : code pc = mt_cv ci 1 sp nx) (h : sp [.ref k, a] σ (fun v σ' => am_Wp code nx ls (v.toList ++ st) σ' R)) : am_Wp code pc ls (a :: .ref k :: st) σ R := by
  refine am_Wp.fold hm ?_
  rw [hc]
  show bif am_isC ci k then (bif Nat.ble st.length 8 then _ else False) else False
  rw [hi, h8]
  exact h
theorem wc_v2 (hm : ∀ pc, am_mono (code pc)) {sp : am_S} {a b : Value} (hi : am_isC ci k = true) (h8 : Nat.ble st.length 8 = true) (hc : code pc = mt_cv ci 2 sp nx) (h : sp [.ref k, a, b] σ (fun v σ' => am_Wp code nx ls (v.toList ++ st) σ' R)) : am_Wp code pc ls (b :: a :: .ref k :: st) σ R := by
  refine am_Wp.fold hm ?_
  rw [hc]
  show bif am_isC ci k then (bif Nat.ble st.length 8 then _ else False) else False
  rw [hi, h8]
  exact h
end AMW
def am_qq (ci : Nat) (g0 : am_M → Nat → Nat → am_M) : am_S := fun av σ R => match av with
  | [.ref k, .ref q] => bif am_isC ci k && am_isC ci q then R none (g0 σ k q) else False
  | _ => False
theorem am_qq_mono (ci : Nat) (g0 : am_M → Nat → Nat → am_M) : am_mS (am_qq ci g0) := by
  intro av σ R R' h hs
  unfold am_qq at hs ⊢
  split at hs
  · rename_i k q
    try dsimp only
    cases hb : am_isC ci k && am_isC ci q with
    | false => rw [hb] at hs; exact hs.elim
    | true => rw [hb] at hs; exact h _ _ hs
  · exact hs.elim
theorem am_qq_elim {ci : Nat} {g0 : am_M → Nat → Nat → am_M} {av : List Value} {σ : am_M} {R : am_R} (hs : am_qq ci g0 av σ R) : ∃ k q, av = [.ref k, .ref q] ∧ am_isC ci k = true ∧ am_isC ci q = true ∧ R none (g0 σ k q) := by
  unfold am_qq at hs
  split at hs
  · rename_i k q
    cases hb : am_isC ci k && am_isC ci q with
    | false => rw [hb] at hs; exact hs.elim
    | true =>
      rw [hb] at hs
      rw [Bool.and_eq_true] at hb
      exact ⟨k, q, rfl, hb.1, hb.2, hs⟩
  · exact hs.elim
theorem am_qq_in {ci : Nat} {g0 : am_M → Nat → Nat → am_M} {k q : Nat} {σ : am_M} {R : am_R} (h1 : am_isC ci k = true) (h2 : am_isC ci q = true) (h : R none (g0 σ k q)) : am_qq ci g0 [.ref k, .ref q] σ R := by
  unfold am_qq
  dsimp only
  rw [h1, h2]
  exact h
def sp_X6_at := am_cr1 6 rAt
def sp_X6_put := am_cw2 6 rPut
def sp_X6_change := am_cw2 6 rChg
def sp_X6_clear := am_cw0 6 rClr
def sp_X6_copy := am_qq 6 rCpy
theorem sm_X6_at : am_mS sp_X6_at := am_cr1_mono _ _
theorem sm_X6_put : am_mS sp_X6_put := am_cw2_mono _ _
theorem sm_X6_change : am_mS sp_X6_change := am_cw2_mono _ _
theorem sm_X6_clear : am_mS sp_X6_clear := am_cw0_mono _ _
theorem sm_X6_copy : am_mS sp_X6_copy := am_qq_mono _ _
def cl_X6_at : List (Nat × am_T) := [(0, mt_ild 1 1),
  (1, mt_if_lt 22 4),
  (4, mt_ild 1 5),
  (5, mt_ald 0 6),
  (6, mt_getf 6 0 9),
  (9, mt_alen 10),
  (10, mt_icmp_ge 22 13),
  (13, mt_ald 0 14),
  (14, mt_getf 6 0 17),
  (17, mt_ild 1 18),
  (18, mt_iald 19),
  (19, mt_goto 23),
  (22, mt_ic (0) 23),
  (23, mt_iret)]
def cl_X6_put : List (Nat × am_T) := [(0, mt_ild 1 1),
  (1, mt_if_lt 20 4),
  (4, mt_ild 1 5),
  (5, mt_ald 0 6),
  (6, mt_getf 6 0 9),
  (9, mt_alen 10),
  (10, mt_icmp_ge 20 13),
  (13, mt_ald 0 14),
  (14, mt_getf 6 0 17),
  (17, mt_ild 1 18),
  (18, mt_ild 2 19),
  (19, mt_iast 20),
  (20, mt_vret)]
def cl_X6_change : List (Nat × am_T) := [(0, mt_ild 1 1),
  (1, mt_if_lt 23 4),
  (4, mt_ild 1 5),
  (5, mt_ald 0 6),
  (6, mt_getf 6 0 9),
  (9, mt_alen 10),
  (10, mt_icmp_ge 23 13),
  (13, mt_ald 0 14),
  (14, mt_getf 6 0 17),
  (17, mt_ild 1 18),
  (18, mt_dup2 19),
  (19, mt_iald 20),
  (20, mt_ild 2 21),
  (21, mt_iadd 22),
  (22, mt_iast 23),
  (23, mt_vret)]
def cl_X6_clear : List (Nat × am_T) := [(0, mt_ic (0) 1),
  (1, mt_sti 1 2),
  (2, mt_ild 1 3),
  (3, mt_ald 0 4),
  (4, mt_getf 6 0 7),
  (7, mt_alen 8),
  (8, mt_icmp_ge 24 11),
  (11, mt_ald 0 12),
  (12, mt_getf 6 0 15),
  (15, mt_ild 1 16),
  (16, mt_ic (0) 17),
  (17, mt_iast 18),
  (18, mt_inc 1 (1) 21),
  (21, mt_goto 2),
  (24, mt_vret)]
def cl_X6_copy : List (Nat × am_T) := [(0, mt_ald 1 1),
  (1, mt_getf 6 0 4),
  (4, mt_ic (0) 5),
  (5, mt_ald 0 6),
  (6, mt_getf 6 0 9),
  (9, mt_ic (0) 10),
  (10, mt_ald 0 11),
  (11, mt_getf 6 0 14),
  (14, mt_alen 15),
  (15, mt_ald 1 16),
  (16, mt_getf 6 0 19),
  (19, mt_alen 20),
  (20, mt_mmin 23),
  (23, mt_acopy 26),
  (26, mt_vret)]
theorem v_X6_at (hm : ∀ pc, am_mono (am_lk cl_X6_at pc)) : ∀ (av : List Value) (σ : am_M) (R0 : am_R), sp_X6_at av σ R0 → av.length = 2 ∧ am_Wp (am_lk cl_X6_at) 0 (am_args 0 av) [] σ R0 := by
  intro av σ R0 h
  obtain ⟨k, i, rfl, hk, h⟩ := am_cr1_elim h
  refine ⟨rfl, ?_⟩
  obtain ⟨l1, l2, l3⟩ := am_row hk
  refine am_go hm (fun p => Nat.beq p 6) 20 ?_
  refine am_ite (fun h0 => ?_) (fun h0 => ?_)
  · rw [show rAt _ k i = 0 from if_pos h0] at h; exact h
  refine wg_ref hm l1 rfl rfl ?_
  refine wa_len hm l2 rfl ?_
  refine am_go hm (fun p => Nat.beq p 14) 20 ?_
  refine am_ite (fun h1 => ?_) (fun h1 => ?_)
  · rw [show rAt _ k i = 0 from (if_neg h0).trans (if_pos h1)] at h; exact h
  refine wg_ref hm l1 rfl rfl ?_
  refine am_go hm (fun p => Nat.beq p 18) 20 ?_
  refine wa_ld hm l2 rfl (am_i0 h0 l3 h1) ?_
  rw [show rAt _ k i = _ from (if_neg h0).trans (if_neg h1)] at h
  exact am_go hm (fun _ => false) 20 h
theorem v_X6_put (hm : ∀ pc, am_mono (am_lk cl_X6_put pc)) : ∀ (av : List Value) (σ : am_M) (R0 : am_R), sp_X6_put av σ R0 → av.length = 3 ∧ am_Wp (am_lk cl_X6_put) 0 (am_args 0 av) [] σ R0 := by
  intro av σ R0 h
  obtain ⟨k, i, v, rfl, hk, h⟩ := am_cw2_elim h
  refine ⟨rfl, ?_⟩
  obtain ⟨l1, l2, l3⟩ := am_row hk
  refine am_go hm (fun p => Nat.beq p 6) 20 ?_
  refine am_ite (fun h0 => ?_) (fun h0 => ?_)
  · rw [show rPut _ k i v = _ from if_pos h0] at h; exact h
  refine wg_ref hm l1 rfl rfl ?_
  refine wa_len hm l2 rfl ?_
  refine am_go hm (fun p => Nat.beq p 14) 20 ?_
  refine am_ite (fun h1 => ?_) (fun h1 => ?_)
  · rw [show rPut _ k i v = _ from (if_neg h0).trans (if_pos h1)] at h; exact h
  refine wg_ref hm l1 rfl rfl ?_
  refine am_go hm (fun p => Nat.beq p 19) 20 ?_
  refine wa_st hm l2 rfl (am_i0 h0 l3 h1) ?_
  rw [show rPut _ k i v = _ from (if_neg h0).trans (if_neg h1)] at h
  exact am_go hm (fun _ => false) 20 h
theorem v_X6_change (hm : ∀ pc, am_mono (am_lk cl_X6_change pc)) : ∀ (av : List Value) (σ : am_M) (R0 : am_R), sp_X6_change av σ R0 → av.length = 3 ∧ am_Wp (am_lk cl_X6_change) 0 (am_args 0 av) [] σ R0 := by
  intro av σ R0 h
  obtain ⟨k, i, v, rfl, hk, h⟩ := am_cw2_elim h
  refine ⟨rfl, ?_⟩
  obtain ⟨l1, l2, l3⟩ := am_row hk
  refine am_go hm (fun p => Nat.beq p 6) 20 ?_
  refine am_ite (fun h0 => ?_) (fun h0 => ?_)
  · rw [show rChg _ k i v = _ from if_pos h0] at h; exact h
  refine wg_ref hm l1 rfl rfl ?_
  refine wa_len hm l2 rfl ?_
  refine am_go hm (fun p => Nat.beq p 14) 20 ?_
  refine am_ite (fun h1 => ?_) (fun h1 => ?_)
  · rw [show rChg _ k i v = _ from (if_neg h0).trans (if_pos h1)] at h; exact h
  refine wg_ref hm l1 rfl rfl ?_
  refine am_go hm (fun p => Nat.beq p 19) 20 ?_
  refine wa_ld hm l2 rfl (am_i0 h0 l3 h1) ?_
  refine am_go hm (fun p => Nat.beq p 22) 20 ?_
  refine wa_st hm l2 rfl (am_i0 h0 l3 h1) ?_
  rw [show rChg _ k i v = _ from (if_neg h0).trans (if_neg h1)] at h
  exact am_go hm (fun _ => false) 20 h
set_option maxRecDepth 20000 in
theorem l_X6_clear (hm : ∀ pc, am_mono (am_lk cl_X6_clear pc)) {k : Nat} (hk : am_isC 6 k = true) {σ : am_M} {R0 : am_R} (h : R0 none (rClr σ k)) : ∀ (m i : Nat), i + m = am_len (k + 1) → am_Wp (am_lk cl_X6_clear) 2 [(0, .ref k), (1, .int (nI i))] [] (am_ua σ (k + 1) (fun j => if j < i then 0 else σ (k + 1) j)) R0 := by
  obtain ⟨l1, l2, l3⟩ := am_row hk
  intro m
  induction m with
  | zero =>
    intro i hi
    have e : i = am_len (k + 1) := by omega
    refine am_go hm (fun p => Nat.beq p 4) 5 ?_
    refine wg_ref hm l1 rfl rfl ?_
    refine wa_len hm l2 rfl ?_
    refine am_go hm (fun p => Nat.beq p 12) 5 ?_
    refine am_ite (fun _ => ?_) (fun q => absurd (nI_le (by omega) (by omega)) q)
    rw [e]
    exact h
  | succ m ih =>
    intro i hi
    refine am_go hm (fun p => Nat.beq p 4) 5 ?_
    refine wg_ref hm l1 rfl rfl ?_
    refine wa_len hm l2 rfl ?_
    refine am_go hm (fun p => Nat.beq p 12) 5 ?_
    refine am_ite (fun q => absurd q (nI_ge (by omega) (by omega))) (fun _ => ?_)
    refine wg_ref hm l1 rfl rfl ?_
    refine am_go hm (fun p => Nat.beq p 17) 5 ?_
    refine wa_st hm l2 rfl (vp_in_nI (by omega) (by omega)) ?_
    refine am_go hm (fun p => Nat.beq p 2) 5 ?_
    refine am_Wp.sub hm (ls := [(0, .ref k), (1, .int (nI (i + 1)))]) (am_le_of (List.forall_mem_cons.mpr ⟨rfl, List.forall_mem_cons.mpr ⟨by rw [nI_succ]; rfl, fun _ q => by cases q⟩⟩)) ?_
    rw [am_up_ua, nI_clamp (by omega)]
    have e : upd (fun j => if j < i then 0 else σ (k + 1) j) i 0 = fun j => if j < i + 1 then 0 else σ (k + 1) j := by
      funext j
      unfold upd
      by_cases q : j = i
      · rw [if_pos q, if_pos (by omega)]
      · rw [if_neg q]
        dsimp only
        by_cases q2 : j < i
        · rw [if_pos q2, if_pos (by omega)]
        · rw [if_neg q2, if_neg (by omega)]
    rw [e]
    exact ih (i + 1) (by omega)
theorem v_X6_clear (hm : ∀ pc, am_mono (am_lk cl_X6_clear pc)) : ∀ (av : List Value) (σ : am_M) (R0 : am_R), sp_X6_clear av σ R0 → av.length = 1 ∧ am_Wp (am_lk cl_X6_clear) 0 (am_args 0 av) [] σ R0 := by
  intro av σ R0 h
  obtain ⟨k, rfl, hk, h⟩ := am_cw0_elim h
  refine ⟨rfl, ?_⟩
  refine am_go hm (fun p => Nat.beq p 2) 5 ?_
  refine am_Wp.sub hm (ls := [(0, .ref k), (1, .int (nI 0))]) (am_le_of (List.forall_mem_cons.mpr ⟨rfl, List.forall_mem_cons.mpr ⟨rfl, fun _ q => by cases q⟩⟩)) ?_
  have e := l_X6_clear hm hk h (am_len (k + 1)) 0 (by omega)
  rw [am_ua_id _ _ _ (fun j => by simp)] at e
  exact e
theorem nI_min {a b : Nat} (ha : a < 2 ^ 31) (hb : b < 2 ^ 31) : (if nI b < nI a then nI b else nI a) = nI (min a b) := by
  by_cases h : b < a
  · rw [if_pos (nI_lt h ha), Nat.min_eq_right (by omega)]
  · rw [if_neg (nI_nlt (by omega) hb), Nat.min_eq_left (by omega)]
theorem am_cpy0 {σ : am_M} {a b n : Nat} : va_cpy (σ a) (σ b) (nI 0).toNatClampNeg (nI 0).toNatClampNeg n = fun j => if j < n then σ a j else σ b j := by
  funext j
  rw [nI_clamp (by decide)]
  unfold va_cpy
  by_cases h : j < n
  · rw [if_pos ⟨by omega, by omega⟩, if_pos h]; congr 1; omega
  · rw [if_neg (by omega), if_neg h]
theorem v_X6_copy (hm : ∀ pc, am_mono (am_lk cl_X6_copy pc)) : ∀ (av : List Value) (σ : am_M) (R0 : am_R), sp_X6_copy av σ R0 → av.length = 2 ∧ am_Wp (am_lk cl_X6_copy) 0 (am_args 0 av) [] σ R0 := by
  intro av σ R0 h
  obtain ⟨k, q, rfl, hk, hq, h⟩ := am_qq_elim h
  refine ⟨rfl, ?_⟩
  obtain ⟨l1, l2, l3⟩ := am_row hk
  obtain ⟨g1, g2, g3⟩ := am_row hq
  refine am_go hm (fun p => Nat.beq p 1) 3 ?_
  refine wg_ref hm g1 rfl rfl ?_
  refine am_go hm (fun p => Nat.beq p 6) 5 ?_
  refine wg_ref hm l1 rfl rfl ?_
  refine am_go hm (fun p => Nat.beq p 11) 5 ?_
  refine wg_ref hm l1 rfl rfl ?_
  refine wa_len hm l2 rfl ?_
  refine am_go hm (fun p => Nat.beq p 16) 5 ?_
  refine wg_ref hm g1 rfl rfl ?_
  refine wa_len hm g2 rfl ?_
  refine am_go hm (fun p => Nat.beq p 23) 5 ?_
  have c0 := nI_min l3 g3
  have c1 : (nI (min (am_len (k + 1)) (am_len (q + 1)))).toNatClampNeg = min (am_len (k + 1)) (am_len (q + 1)) := nI_clamp (by omega)
  refine wa_cpy hm g2 l2 rfl rfl ⟨by decide, by decide, by rw [c0]; exact nI_pos (by omega), ?_, ?_⟩ ?_
  · rw [c0, c1]; show 0 + _ ≤ _; omega
  · rw [c0, c1]; show 0 + _ ≤ _; omega
  refine am_go hm (fun _ => false) 3 ?_
  rw [c0, c1]
  have e := am_cpy0 (σ := σ) (a := q + 1) (b := k + 1) (n := min (am_len (k + 1)) (am_len (q + 1)))
  rw [show va_cpy (σ (q + 1)) (σ (k + 1)) (Int32.toNatClampNeg 0) (Int32.toNatClampNeg 0) (min (am_len (k + 1)) (am_len (q + 1))) = _ from e]
  exact h
