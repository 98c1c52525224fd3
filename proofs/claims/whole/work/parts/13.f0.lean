/-! texts: how the reference reads them -/
section ZDF
variable {x : Nat → Int32} {L : Nat} {τ : am_M} {a : Nat} {R : am_R}
/-- the reference's reader at the place a of the text x -/
def zMt (x : Nat → Int32) (L : Nat) (τ : am_M) (a : Nat) : Prop := τ 189 7 = nI a ∧ τ 189 5 = nI L ∧ L ≤ 60 ∧ a ≤ 70 ∧ ∀ j, j < L → τ 192 j = x j
theorem zMt.go (h : zMt x L τ a) {b : Nat} (hb : b ≤ 70) : zMt x L (am_up τ 189 7 (nI b)) b := by
  obtain ⟨h1, h2, h3, h4, h5⟩ := h
  exact ⟨zup_ss _ _ _ _, by rw [zup_sn _ (by decide)]; exact h2, h3, hb, fun j hj => by rw [zup_n _ _ (by decide)]; exact h5 j hj⟩
set_option maxRecDepth 20000 in
theorem y_here (h : zMt x L τ a) (hR : R (some (.int (qH x L a))) τ) : sp_X12_here [.ref 189] τ R := by
  obtain ⟨h1, h2, h3, h4, h5⟩ := h
  refine ⟨rfl, am_go hm_X12_here (fun p => Nat.beq p 19 || Nat.beq p 23) 20 ?_⟩
  by_cases c : a < L
  · refine am_ite (fun z => absurd (by rw [h1, h2] at z; exact z) (nI_ge c (by omega))) (fun _ => ?_)
    refine wa_ld hm_X12_here lay_192 rfl (by rw [h1]; exact nI_in (by omega) (by decide)) ?_
    refine am_go hm_X12_here (fun _ => false) 20 ?_
    have e : τ 192 (τ 189 7).toNatClampNeg = qH x L a := by
      rw [h1, nI_clamp (by omega), h5 a c]
      exact (if_pos c).symm
    show R (some (.int (τ 192 (τ 189 7).toNatClampNeg))) τ
    rw [e]
    exact hR
  · refine am_ite (fun _ => ?_) (fun z => absurd (by rw [h1, h2]; exact nI_le (by omega) (by omega)) z)
    refine am_go hm_X12_here (fun _ => false) 20 ?_
    have e : qH x L a = -1 := if_neg c
    rw [e] at hR
    exact hR
set_option maxRecDepth 20000 in
theorem y_digit {lo hi : Int32} (h : zMt x L τ a) (h0 : 0 ≤ lo) (hT : qIn x L a lo hi → R (some (.int (qH x L a - lo))) (am_up τ 189 7 (nI (a + 1)))) (hF : ¬ qIn x L a lo hi → R (some (.int (-1))) τ) : sp_X12_digit [.ref 189, .int lo, .int hi] τ R := by
  obtain ⟨h1, h2, h3, h4, h5⟩ := h
  refine ⟨rfl, am_go hm_X12_digit (fun p => Nat.beq p 27 || Nat.beq p 33) 20 ?_⟩
  refine y_here ⟨h1, h2, h3, h4, h5⟩ ?_
  refine y_in ?_
  refine am_ite (fun c => ?_) (fun c => ?_)
  · exact am_go hm_X12_digit (fun _ => false) 20 (hF (bI_0.mp c))
  · have c := bI_n0.mp c
    have cL := qIn_L c h0
    refine wa_ld hm_X12_digit lay_192 rfl (by rw [h1]; exact nI_in (by omega) (by decide)) ?_
    refine am_go hm_X12_digit (fun _ => false) 20 ?_
    have e : am_up τ 189 7 (τ 189 7 + 1) 192 (τ 189 7).toNatClampNeg = qH x L a := by
      rw [zup_n _ _ (by decide), h1, nI_clamp (by omega), h5 a cL]
      exact (if_pos cL).symm
    have e2 : am_up τ 189 7 (τ 189 7 + 1) = am_up τ 189 7 (nI (a + 1)) := by rw [h1, nI_1]
    show R (some (.int (am_up τ 189 7 (τ 189 7 + 1) 192 (τ 189 7).toNatClampNeg - lo))) (am_up τ 189 7 (τ 189 7 + 1))
    rw [e, e2]
    exact hT c
theorem wq_eq {code : Nat → am_T} {pc : Nat} {ls : am_L} {st : List Value} {s s1 : am_M} (e : s = s1) (h : am_Wp code pc ls st s1 R) : am_Wp code pc ls st s R := by
  rw [e]; exact h
theorem wi_any {code : Nat → am_T} {pc nx q : Nat} {ls : am_L} {st : List Value} {s : am_M} {c : Int32} (hm : ∀ pc, am_mono (code pc)) (cut : Nat → Bool) (hq : (am_strs.map (fun q => q.1)).contains (q - 1000) = true ∧ Nat.ble 1000 q = true) (h8 : Nat.ble st.length 8 = true) (hc : code pc = mt_cs 2 sp_X12_isAny nx) (h1 : isA q c = true → am_k code cut R 20 nx ls (.int 1 :: st) s) (h0 : isA q c = false → am_k code cut R 20 nx ls (.int 0 :: st) s) : am_Wp code pc ls (.ref q :: .int c :: st) s R := by
  refine wc_s2 hm h8 hc (y_any hq ?_)
  cases e : isA q c with
  | true => exact am_go hm cut 20 (h1 e)
  | false => exact am_go hm cut 20 (h0 e)
/-- only the reference's place and its count of open scopes differ -/
def zPp (σ τ : am_M) : Prop := (∀ b, b ≠ 189 → τ b = σ b) ∧ ∀ j, j ≠ 7 → j ≠ 9 → τ 189 j = σ 189 j
theorem zPp.rf (σ : am_M) : zPp σ σ := ⟨fun _ _ => rfl, fun _ _ _ => rfl⟩
theorem zPp.tr {σ τ υ : am_M} (h : zPp σ τ) (h1 : zPp τ υ) : zPp σ υ := ⟨fun b a => (h1.1 b a).trans (h.1 b a), fun j a1 a2 => (h1.2 j a1 a2).trans (h.2 j a1 a2)⟩
theorem zPp.up {σ τ : am_M} {j : Nat} {v : Int32} (h : zPp σ τ) (hj : j = 7 ∨ j = 9) : zPp σ (am_up τ 189 j v) := ⟨fun b a => (zup_n _ _ a).trans (h.1 b a), fun i a1 a2 => (zup_sn _ (by omega)).trans (h.2 i a1 a2)⟩
theorem zMt.fr {σ τ : am_M} {a b : Nat} (h : zMt x L σ a) (F : zPp σ τ) (e : τ 189 7 = nI b) (hb : b ≤ 70) : zMt x L τ b := ⟨e, by rw [F.2 5 (by decide) (by decide)]; exact h.2.1, h.2.2.1, hb, fun j hj => by rw [F.1 192 (by decide)]; exact h.2.2.2.2 j hj⟩
theorem qH48 {b : Nat} (k : Nat) (hk : k < 10) (q : qIn x L b 48 (nI (48 + k))) : ∃ j, j ≤ k ∧ qH x L b - 48 = nI j := by
  obtain ⟨e1, e2, _⟩ := qDig (lo := 0) (k := k) hk q.1 q.2
  exact ⟨_, e2, e1⟩
theorem qH49 {b : Nat} (q : qIn x L b 49 57) : ∃ j, 1 ≤ j ∧ j ≤ 9 ∧ qH x L b - 49 + 1 = nI j ∧ qH x L b - 48 = nI j := by
  obtain ⟨_, e2, e3⟩ := qDig (lo := 0) (k := 9) (by decide) (Int32.le_trans (by decide) q.1) q.2
  have l1 := q.1
  rw [e3] at l1
  have l1 := (nI_leI (a := 49) (by decide) (by omega)).mp l1
  obtain ⟨j, hj⟩ : ∃ j, zc (qH x L b) = 49 + j := ⟨zc (qH x L b) - 49, by omega⟩
  rw [e3, hj]
  refine ⟨j + 1, by omega, by omega, ?_, ?_⟩
  · rw [show (49 : Int32) = nI 49 from rfl, nI_subI, nI_1]
  · rw [show (48 : Int32) = nI 48 from rfl, show 49 + j = 48 + (j + 1) from by omega, nI_subI]
set_option maxRecDepth 20000 in
theorem l_instruction1 {s z : Int32} (h : zMt x L τ a) (haL : a ≤ L) (hF : ∀ τ', zPp τ τ' → τ' 189 9 = τ 189 9 → τ' 189 7 = nI (qOp x L s a).2 → (qOp x L s a).1 = none → R (some (.int (-1))) τ') (hT : ∀ o τ', zPp τ τ' → τ' 189 9 = τ 189 9 → τ' 189 7 = nI (qOp x L s a).2 → (qOp x L s a).1 = some o → R (some (.int (100 * s + o))) τ') : am_Wp (am_lk cl_X12_instruction) 113 [(0, .ref 189), (1, .int z), (2, .int s)] [] τ R := by
  have h60 := h.2.2.1
  have r0 : zPp τ τ := zPp.rf τ
  have r1 : zPp τ (am_up τ 189 7 (nI (a + 1))) := r0.up (Or.inl rfl)
  have n1 : am_up τ 189 7 (nI (a + 1)) 189 9 = τ 189 9 := zup_sn _ (by decide)
  have J195 : ∀ (υ : am_M) ls, R (some (.int (-1))) υ → am_Wp (am_lk cl_X12_instruction) 195 ls [] υ R := fun υ ls hr => am_go hm_X12_instruction (fun _ => false) 20 hr
  have J197 : ∀ (υ : am_M) (n : Int32) ls, s ≠ 63 → R (some (.int (100 * s + n))) υ → (∀ q ∈ ([(0, .ref 189), (2, .int s), (3, .int n)] : am_L), am_lv ls q.1 = some q.2) → am_Wp (am_lk cl_X12_instruction) 197 ls [] υ R := by
    intro υ n ls hs hr hl
    refine am_Wp.sub hm_X12_instruction (am_le_of hl) (am_go hm_X12_instruction (fun p => Nat.beq p 210 || Nat.beq p 203 || Nat.beq p 8 || Nat.beq p 23 || Nat.beq p 34 || Nat.beq p 53 || Nat.beq p 81 || Nat.beq p 118 || Nat.beq p 141 || Nat.beq p 162 || Nat.beq p 189) 20 ?_)
    refine am_ite (fun z => absurd z hs) (fun _ => ?_)
    exact am_go hm_X12_instruction (fun _ => false) 20 hr
  have J177 : ∀ (υ : am_M) (n : Int32) ls, ¬ n = -1 → (n = 0 → isA 1078 s = false) → (∀ ls, (∀ q ∈ ([(0, .ref 189), (2, .int s), (3, .int n)] : am_L), am_lv ls q.1 = some q.2) → am_Wp (am_lk cl_X12_instruction) 197 ls [] υ R) → (∀ q ∈ ([(0, .ref 189), (2, .int s), (3, .int n)] : am_L), am_lv ls q.1 = some q.2) → am_Wp (am_lk cl_X12_instruction) 177 ls [] υ R := by
    intro υ n ls n1 n0 hr hl
    refine am_Wp.sub hm_X12_instruction (am_le_of hl) (am_go hm_X12_instruction (fun p => Nat.beq p 195 || Nat.beq p 197 || Nat.beq p 8 || Nat.beq p 23 || Nat.beq p 34 || Nat.beq p 53 || Nat.beq p 81 || Nat.beq p 118 || Nat.beq p 141 || Nat.beq p 162 || Nat.beq p 189) 20 ?_)
    refine am_ite (fun z => absurd z n1) (fun _ => ?_)
    refine am_ite (fun c => ?_) (fun _ => ?_)
    · refine wi_any hm_X12_instruction (fun p => Nat.beq p 195 || Nat.beq p 197 || Nat.beq p 8 || Nat.beq p 23 || Nat.beq p 34 || Nat.beq p 53 || Nat.beq p 81 || Nat.beq p 118 || Nat.beq p 141 || Nat.beq p 162 || Nat.beq p 189) (q := 1078) ⟨by decide, by decide⟩ rfl rfl (fun z => ?_) (fun z => ?_)
      · have := n0 c
        have z : isA 1078 s = true := z
        rw [this] at z; cases z
      · refine am_ite (fun _ => ?_) (fun q => absurd rfl q)
        exact hr _ (List.forall_mem_cons.mpr ⟨rfl, List.forall_mem_cons.mpr ⟨rfl, List.forall_mem_cons.mpr ⟨rfl, fun _ q => by cases q⟩⟩⟩)
    · exact hr _ (List.forall_mem_cons.mpr ⟨rfl, List.forall_mem_cons.mpr ⟨rfl, List.forall_mem_cons.mpr ⟨rfl, fun _ q => by cases q⟩⟩⟩)
  have J177f : ∀ (υ : am_M) (n : Int32) ls, (n = -1 ∨ (n = 0 ∧ isA 1078 s = true)) → R (some (.int (-1))) υ → (∀ q ∈ ([(0, .ref 189), (2, .int s), (3, .int n)] : am_L), am_lv ls q.1 = some q.2) → am_Wp (am_lk cl_X12_instruction) 177 ls [] υ R := by
    intro υ n ls hn hr hl
    refine am_Wp.sub hm_X12_instruction (am_le_of hl) (am_go hm_X12_instruction (fun p => Nat.beq p 195 || Nat.beq p 197 || Nat.beq p 8 || Nat.beq p 23 || Nat.beq p 34 || Nat.beq p 53 || Nat.beq p 81 || Nat.beq p 118 || Nat.beq p 141 || Nat.beq p 162 || Nat.beq p 189) 20 ?_)
    refine am_ite (fun _ => J195 υ _ hr) (fun n1 => ?_)
    obtain ⟨n0, a0⟩ := hn.resolve_left n1
    refine am_ite (fun _ => ?_) (fun z => absurd n0 z)
    refine wi_any hm_X12_instruction (fun p => Nat.beq p 195 || Nat.beq p 197 || Nat.beq p 8 || Nat.beq p 23 || Nat.beq p 34 || Nat.beq p 53 || Nat.beq p 81 || Nat.beq p 118 || Nat.beq p 141 || Nat.beq p 162 || Nat.beq p 189) (q := 1078) ⟨by decide, by decide⟩ rfl rfl (fun _ => ?_) (fun z => ?_)
    · exact am_ite (fun q => absurd q (by decide)) (fun _ => J195 υ _ hr)
    · have z : isA 1078 s = false := z
      rw [a0] at z; cases z
  have L3 : ∀ n : Int32, ∀ q ∈ ([(0, .ref 189), (2, .int s), (3, .int n)] : am_L), am_lv [(3, .int n), (0, .ref 189), (1, .int z), (2, .int s)] q.1 = some q.2 := fun n => List.forall_mem_cons.mpr ⟨rfl, List.forall_mem_cons.mpr ⟨rfl, List.forall_mem_cons.mpr ⟨rfl, fun _ q => by cases q⟩⟩⟩
  have f3 : ∀ c : Bool, c = false → ¬ c = true := fun c e => by rw [e]; decide
  refine am_go hm_X12_instruction (fun p => Nat.beq p 138 || Nat.beq p 177 || Nat.beq p 8 || Nat.beq p 23 || Nat.beq p 34 || Nat.beq p 53 || Nat.beq p 81 || Nat.beq p 118 || Nat.beq p 141 || Nat.beq p 162 || Nat.beq p 189) 20 ?_
  refine wi_any hm_X12_instruction (fun p => Nat.beq p 138 || Nat.beq p 177 || Nat.beq p 8 || Nat.beq p 23 || Nat.beq p 34 || Nat.beq p 53 || Nat.beq p 81 || Nat.beq p 118 || Nat.beq p 141 || Nat.beq p 162 || Nat.beq p 189) (q := 1078) ⟨by decide, by decide⟩ rfl rfl (fun c1 => ?_) (fun c1 => ?_)
  · have c1 : isA 1078 s = true := c1
    have s63 : s ≠ 63 := fun e => by rw [e] at c1; revert c1; decide
    have eO : qOp x L s a = (if qIn x L a 49 57 then (some (qH x L a - 48), a + 1) else (none, a)) := by unfold qOp; rw [if_pos c1]
    rw [eO] at hF hT
    refine am_ite (fun q => absurd q (by decide)) (fun _ => ?_)
    refine y_digit h (by decide) (fun q => ?_) (fun q => ?_)
    · rw [if_pos q] at hT
      obtain ⟨j, j1, j9, e1, e2⟩ := qH49 q
      refine J177 _ (qH x L a - 49 + 1) _ (by rw [e1]; exact nI_m1 (by omega)) (fun y => by rw [e1] at y; exact absurd (nI_inj (b := 0) (by omega) (by decide) y) (by omega)) (fun ls hl => J197 _ _ ls s63 ?_ hl) (List.forall_mem_cons.mpr ⟨rfl, List.forall_mem_cons.mpr ⟨rfl, List.forall_mem_cons.mpr ⟨rfl, fun _ q => by cases q⟩⟩⟩)
      rw [e1, ← e2]
      exact hT _ _ r1 n1 (zup_ss _ _ _ _) rfl
    · rw [if_neg q] at hF
      exact J177f _ (-1 + 1) _ (Or.inr ⟨by decide, c1⟩) (hF _ r0 rfl h.1 rfl) (List.forall_mem_cons.mpr ⟨rfl, List.forall_mem_cons.mpr ⟨rfl, List.forall_mem_cons.mpr ⟨rfl, fun _ q => by cases q⟩⟩⟩)
  have c1 : isA 1078 s = false := c1
  refine am_ite (fun _ => ?_) (fun q => absurd rfl q)
  refine am_go hm_X12_instruction (fun p => Nat.beq p 159 || Nat.beq p 177 || Nat.beq p 8 || Nat.beq p 23 || Nat.beq p 34 || Nat.beq p 53 || Nat.beq p 81 || Nat.beq p 118 || Nat.beq p 141 || Nat.beq p 162 || Nat.beq p 189) 20 ?_
  refine wi_any hm_X12_instruction (fun p => Nat.beq p 159 || Nat.beq p 177 || Nat.beq p 8 || Nat.beq p 23 || Nat.beq p 34 || Nat.beq p 53 || Nat.beq p 81 || Nat.beq p 118 || Nat.beq p 141 || Nat.beq p 162 || Nat.beq p 189) (q := 1084) ⟨by decide, by decide⟩ rfl rfl (fun c2 => ?_) (fun c2 => ?_)
  · have c2 : isA 1084 s = true := c2
    have s63 : s ≠ 63 := fun e => by rw [e] at c2; revert c2; decide
    have eO : qOp x L s a = (if qIn x L a 48 53 then (some (qH x L a - 48), a + 1) else (none, a)) := by unfold qOp; rw [if_neg (f3 _ c1), if_pos c2]
    rw [eO] at hF hT
    refine am_ite (fun q => absurd q (by decide)) (fun _ => ?_)
    refine y_digit h (by decide) (fun q => ?_) (fun q => ?_)
    · rw [if_pos q] at hT
      obtain ⟨j, j9, e1⟩ := qH48 5 (by decide) q
      refine J177 _ (qH x L a - 48) _ (by rw [e1]; exact nI_m1 (by omega)) (fun _ => c1) (fun ls hl => J197 _ _ ls s63 (hT _ _ r1 n1 (zup_ss _ _ _ _) rfl) hl) (List.forall_mem_cons.mpr ⟨rfl, List.forall_mem_cons.mpr ⟨rfl, List.forall_mem_cons.mpr ⟨rfl, fun _ q => by cases q⟩⟩⟩)
    · rw [if_neg q] at hF
      exact J177f _ (-1) _ (Or.inl rfl) (hF _ r0 rfl h.1 rfl) (List.forall_mem_cons.mpr ⟨rfl, List.forall_mem_cons.mpr ⟨rfl, List.forall_mem_cons.mpr ⟨rfl, fun _ q => by cases q⟩⟩⟩)
  have c2 : isA 1084 s = false := c2
  refine am_ite (fun _ => ?_) (fun q => absurd rfl q)
  refine am_go hm_X12_instruction (fun p => Nat.beq p 177 || Nat.beq p 8 || Nat.beq p 23 || Nat.beq p 34 || Nat.beq p 53 || Nat.beq p 81 || Nat.beq p 118 || Nat.beq p 141 || Nat.beq p 162 || Nat.beq p 189) 20 ?_
  refine wi_any hm_X12_instruction (fun p => Nat.beq p 177 || Nat.beq p 8 || Nat.beq p 23 || Nat.beq p 34 || Nat.beq p 53 || Nat.beq p 81 || Nat.beq p 118 || Nat.beq p 141 || Nat.beq p 162 || Nat.beq p 189) (q := 1086) ⟨by decide, by decide⟩ rfl rfl (fun c3 => ?_) (fun c3 => ?_)
  · have c3 : isA 1086 s = true := c3
    have eO : qOp x L s a = (if qIn x L a 48 51 then (if s = 63 then (if qIn x L (a + 1) 48 51 then (some (10 * (qH x L a - 48) + (qH x L (a + 1) - 48)), a + 2) else (none, a + 1)) else (some (qH x L a - 48), a + 1)) else (none, a)) := by unfold qOp; rw [if_neg (f3 _ c1), if_neg (f3 _ c2), if_pos c3]
    rw [eO] at hF hT
    refine am_ite (fun q => absurd q (by decide)) (fun _ => ?_)
    refine y_digit h (by decide) (fun q => ?_) (fun q => ?_)
    · rw [if_pos q] at hT hF
      obtain ⟨j, j9, e1⟩ := qH48 3 (by decide) q
      have qL := qIn_L q (by decide)
      refine J177 _ (qH x L a - 48) _ (by rw [e1]; exact nI_m1 (by omega)) (fun _ => c1) (fun ls hl => ?_) (List.forall_mem_cons.mpr ⟨rfl, List.forall_mem_cons.mpr ⟨rfl, List.forall_mem_cons.mpr ⟨rfl, fun _ q => by cases q⟩⟩⟩)
      by_cases s63 : s = 63
      · rw [if_pos s63] at hT hF
        have h1 := h.go (b := a + 1) (by omega)
        refine am_Wp.sub hm_X12_instruction (am_le_of hl) (am_go hm_X12_instruction (fun p => Nat.beq p 210 || Nat.beq p 203 || Nat.beq p 8 || Nat.beq p 23 || Nat.beq p 34 || Nat.beq p 53 || Nat.beq p 81 || Nat.beq p 118 || Nat.beq p 141 || Nat.beq p 162 || Nat.beq p 189) 20 ?_)
        refine am_ite (fun _ => ?_) (fun z => absurd s63 z)
        refine am_go hm_X12_instruction (fun p => Nat.beq p 220 || Nat.beq p 8 || Nat.beq p 23 || Nat.beq p 34 || Nat.beq p 53 || Nat.beq p 81 || Nat.beq p 118 || Nat.beq p 141 || Nat.beq p 162 || Nat.beq p 189) 20 ?_
        refine y_digit h1 (by decide) (fun q1 => ?_) (fun q1 => ?_)
        · rw [if_pos q1] at hT
          obtain ⟨i, i9, e3⟩ := qH48 3 (by decide) q1
          refine am_go hm_X12_instruction (fun p => Nat.beq p 242 || Nat.beq p 8 || Nat.beq p 23 || Nat.beq p 34 || Nat.beq p 53 || Nat.beq p 81 || Nat.beq p 118 || Nat.beq p 141 || Nat.beq p 162 || Nat.beq p 189) 20 ?_
          refine am_ite (fun z => absurd z (by rw [e3]; exact nI_m1 (by omega))) (fun _ => ?_)
          refine am_go hm_X12_instruction (fun _ => false) 20 ?_
          rw [am_up_up]
          have z := hT _ (am_up τ 189 7 (nI (a + 1 + 1))) (r0.up (Or.inl rfl)) (zup_sn _ (by decide)) (zup_ss _ _ _ _) rfl
          rw [← Int32.add_assoc] at z
          exact z
        · rw [if_neg q1] at hF
          refine am_go hm_X12_instruction (fun p => Nat.beq p 242 || Nat.beq p 8 || Nat.beq p 23 || Nat.beq p 34 || Nat.beq p 53 || Nat.beq p 81 || Nat.beq p 118 || Nat.beq p 141 || Nat.beq p 162 || Nat.beq p 189) 20 ?_
          refine am_ite (fun _ => ?_) (fun z => absurd rfl z)
          exact am_go hm_X12_instruction (fun _ => false) 20 (hF _ r1 n1 (zup_ss _ _ _ _) rfl)
      · rw [if_neg s63] at hT
        exact J197 _ _ ls s63 (hT _ _ r1 n1 (zup_ss _ _ _ _) rfl) hl
    · rw [if_neg q] at hF
      exact J177f _ (-1) _ (Or.inl rfl) (hF _ r0 rfl h.1 rfl) (List.forall_mem_cons.mpr ⟨rfl, List.forall_mem_cons.mpr ⟨rfl, List.forall_mem_cons.mpr ⟨rfl, fun _ q => by cases q⟩⟩⟩)
  · have c3 : isA 1086 s = false := c3
    have s63 : s ≠ 63 := fun e => by rw [e] at c3; revert c3; decide
    have eO : qOp x L s a = (some 0, a) := by unfold qOp; rw [if_neg (f3 _ c1), if_neg (f3 _ c2), if_neg (f3 _ c3)]
    rw [eO] at hT
    refine am_ite (fun _ => ?_) (fun q => absurd rfl q)
    exact J177 _ 0 _ (by decide) (fun _ => c1) (fun ls hl => J197 _ _ ls s63 (hT _ _ r0 rfl h.1 rfl) hl) (List.forall_mem_cons.mpr ⟨rfl, List.forall_mem_cons.mpr ⟨rfl, List.forall_mem_cons.mpr ⟨rfl, fun _ q => by cases q⟩⟩⟩)
set_option maxRecDepth 20000 in
theorem y_instruction {d : Nat} {z : Bool} {zz : Int32} (h : zMt x L τ a) (haL : a ≤ L) (hz : zz = bI (z = true)) (hd : τ 189 9 = nI d) (h5 : d ≤ 5) (hF0 : ¬ qMay (qH x L a) d z = true → R (some (.int (-1))) τ) (hF : ∀ τ', qMay (qH x L a) d z = true → zPp τ τ' → τ' 189 7 = nI (qOp x L (qH x L a) (a + 1)).2 → (qOp x L (qH x L a) (a + 1)).1 = none → R (some (.int (-1))) τ') (hT : ∀ o τ', qMay (qH x L a) d z = true → zPp τ τ' → τ' 189 9 = nI (qDn (qH x L a) d) → τ' 189 7 = nI (qOp x L (qH x L a) (a + 1)).2 → (qOp x L (qH x L a) (a + 1)).1 = some o → R (some (.int (100 * qH x L a + o))) τ') : sp_X12_instruction [.ref 189, .int zz] τ R := by
  subst hz
  have h60 := h.2.2.1
  have r0 : zPp τ τ := zPp.rf τ
  have bad : ∀ pc ls, (pc = 14 ∨ pc = 29 ∨ pc = 48 ∨ pc = 66) → ¬ qMay (qH x L a) d z = true → am_Wp (am_lk cl_X12_instruction) pc ls [] τ R := by
    intro pc ls hp hq
    rcases hp with rfl | rfl | rfl | rfl <;> exact am_go hm_X12_instruction (fun _ => false) 20 (hF0 hq)
  refine ⟨rfl, am_go hm_X12_instruction (fun p => Nat.beq p 14 || Nat.beq p 16 || Nat.beq p 8 || Nat.beq p 23 || Nat.beq p 34 || Nat.beq p 53 || Nat.beq p 81 || Nat.beq p 118 || Nat.beq p 141 || Nat.beq p 162 || Nat.beq p 189) 20 ?_⟩
  refine y_here h ?_
  generalize hs : qH x L a = s at *
  refine wi_any hm_X12_instruction (fun p => Nat.beq p 14 || Nat.beq p 16 || Nat.beq p 8 || Nat.beq p 23 || Nat.beq p 34 || Nat.beq p 53 || Nat.beq p 81 || Nat.beq p 118 || Nat.beq p 141 || Nat.beq p 162 || Nat.beq p 189) (q := 1063) ⟨by decide, by decide⟩ rfl rfl (fun c63 => ?_) (fun c63 => ?_)
  rotate_left
  · have c63 : isA 1063 s = false := c63
    refine am_ite (fun _ => bad 14 _ (Or.inl rfl) (fun q => ?_)) (fun q => absurd rfl q)
    have := (qMay_e q).1
    rw [c63] at this; cases this
  have c63 : isA 1063 s = true := c63
  refine am_ite (fun q => absurd q (by decide)) (fun _ => ?_)
  have L0 : ∀ q ∈ ([(0, .ref 189), (1, .int (bI (z = true))), (2, .int s)] : am_L), am_lv [(2, .int s), (0, .ref 189), (1, .int (bI (z = true)))] q.1 = some q.2 := List.forall_mem_cons.mpr ⟨rfl, List.forall_mem_cons.mpr ⟨rfl, List.forall_mem_cons.mpr ⟨rfl, fun _ q => by cases q⟩⟩⟩
  have J68 : qMay s d z = true → ∀ ls, (∀ q ∈ ([(0, .ref 189), (1, .int (bI (z = true))), (2, .int s)] : am_L), am_lv ls q.1 = some q.2) → am_Wp (am_lk cl_X12_instruction) 68 ls [] τ R := by
    intro hm ls hl
    have haL' : a < L := by
      rcases Nat.lt_or_ge a L with q | q
      · exact q
      · exfalso
        have e : qH x L a = -1 := if_neg (by omega)
        rw [hs] at e
        rw [e] at c63
        revert c63; decide
    obtain ⟨m1, m2, m3, m4⟩ := qMay_e hm
    have e7 : am_up τ 189 7 (τ 189 7 + 1) = am_up τ 189 7 (nI (a + 1)) := by rw [h.1, nI_1]
    have fin : ∀ (υ : am_M) ls, zPp τ υ → υ 189 7 = nI (a + 1) → υ 189 9 = nI (qDn s d) → (∀ q ∈ ([(0, .ref 189), (1, .int (bI (z = true))), (2, .int s)] : am_L), am_lv ls q.1 = some q.2) → am_Wp (am_lk cl_X12_instruction) 113 ls [] υ R := by
      intro υ ls F e1 e2 hl
      refine am_Wp.sub hm_X12_instruction (am_le_of hl) ?_
      refine l_instruction1 (h.fr F e1 (by omega)) (by omega) (fun τ' F' _ e3 e4 => hF τ' hm (F.tr F') e3 e4) (fun o τ' F' e9 e3 e4 => hT o τ' hm (F.tr F') (e9.trans e2) e3 e4)
    refine am_Wp.sub hm_X12_instruction (am_le_of hl) (am_go hm_X12_instruction (fun p => Nat.beq p 97 || Nat.beq p 87 || Nat.beq p 8 || Nat.beq p 23 || Nat.beq p 34 || Nat.beq p 53 || Nat.beq p 81 || Nat.beq p 118 || Nat.beq p 141 || Nat.beq p 162 || Nat.beq p 189) 20 (wq_eq e7 ?_))
    have g9 : am_up τ 189 7 (nI (a + 1)) 189 9 = nI d := by rw [zup_sn _ (by decide)]; exact hd
    refine wi_any hm_X12_instruction (fun p => Nat.beq p 97 || Nat.beq p 87 || Nat.beq p 8 || Nat.beq p 23 || Nat.beq p 34 || Nat.beq p 53 || Nat.beq p 81 || Nat.beq p 118 || Nat.beq p 141 || Nat.beq p 162 || Nat.beq p 189) (q := 1071) ⟨by decide, by decide⟩ rfl rfl (fun c71 => ?_) (fun c71 => ?_)
    · have c71 : isA 1071 s = true := c71
      have n41 : ¬ s = 41 := fun e => by rw [e] at c71; revert c71; decide
      refine am_ite (fun q => absurd q (by decide)) (fun _ => ?_)
      refine am_go hm_X12_instruction (fun p => Nat.beq p 113 || Nat.beq p 103 || Nat.beq p 8 || Nat.beq p 23 || Nat.beq p 34 || Nat.beq p 53 || Nat.beq p 81 || Nat.beq p 118 || Nat.beq p 141 || Nat.beq p 162 || Nat.beq p 189) 20 ?_
      refine am_ite (fun q => absurd q n41) (fun _ => ?_)
      refine fin _ _ ((r0.up (Or.inl rfl)).up (Or.inr rfl)) ?_ ?_ (List.forall_mem_cons.mpr ⟨rfl, List.forall_mem_cons.mpr ⟨rfl, List.forall_mem_cons.mpr ⟨rfl, fun _ q => by cases q⟩⟩⟩)
      · rw [zup_sn _ (by decide), zup_ss]
      · rw [zup_ss, g9, nI_1]
        unfold qDn; rw [if_pos c71]
    · have c71 : isA 1071 s = false := c71
      refine am_ite (fun _ => ?_) (fun q => absurd rfl q)
      refine am_go hm_X12_instruction (fun p => Nat.beq p 113 || Nat.beq p 8 || Nat.beq p 23 || Nat.beq p 34 || Nat.beq p 53 || Nat.beq p 81 || Nat.beq p 118 || Nat.beq p 141 || Nat.beq p 162 || Nat.beq p 189) 20 ?_
      refine am_ite (fun c41 => ?_) (fun c41 => ?_)
      · have c41 : s = 41 := c41
        have d0 := m4 (by rw [c41]; decide)
        refine fin _ _ ((r0.up (Or.inl rfl)).up (Or.inr rfl)) ?_ ?_ (List.forall_mem_cons.mpr ⟨rfl, List.forall_mem_cons.mpr ⟨rfl, List.forall_mem_cons.mpr ⟨rfl, fun _ q => by cases q⟩⟩⟩)
        · rw [zup_sn _ (by decide), zup_ss]
        · rw [zup_ss, g9]
          unfold qDn; rw [if_neg (by rw [c71]; decide), if_pos c41]
          obtain ⟨e, rfl⟩ : ∃ e, d = e + 1 := ⟨d - 1, by omega⟩
          exact nI_pred e
      · have c41 : ¬ s = 41 := c41
        refine fin _ _ (r0.up (Or.inl rfl)) (zup_ss _ _ _ _) ?_ (List.forall_mem_cons.mpr ⟨rfl, List.forall_mem_cons.mpr ⟨rfl, List.forall_mem_cons.mpr ⟨rfl, fun _ q => by cases q⟩⟩⟩)
        rw [g9]
        unfold qDn; rw [if_neg (by rw [c71]; decide), if_neg c41]
  have J50 : ¬ (isA 1069 s = true ∧ z = true) → ¬ (isA 1071 s = true ∧ d = 5) → ∀ ls, (∀ q ∈ ([(0, .ref 189), (1, .int (bI (z = true))), (2, .int s)] : am_L), am_lv ls q.1 = some q.2) → am_Wp (am_lk cl_X12_instruction) 50 ls [] τ R := by
    intro k1 k2 ls hl
    have may : ¬ (isA 1076 s = true ∧ d = 0) → qMay s d z = true := by
      intro k3
      unfold qMay
      rw [c63, Bool.true_and, Bool.and_eq_true, Bool.and_eq_true]
      refine ⟨⟨?_, ?_⟩, ?_⟩
      · cases hz : z
        · rfl
        · rw [hz] at k1
          have : isA 1069 s = false := by
            cases q : isA 1069 s
            · rfl
            · exact absurd ⟨q, rfl⟩ k1
          rw [this]; rfl
      · cases q : isA 1071 s
        · rfl
        · have : d ≠ 5 := fun e => k2 ⟨q, e⟩
          have : Nat.beq d 5 = false := by
            cases b : Nat.beq d 5
            · rfl
            · exact absurd (Nat.eq_of_beq_eq_true b) this
          rw [this]; rfl
      · cases q : isA 1076 s
        · rfl
        · have : d ≠ 0 := fun e => k3 ⟨q, e⟩
          have : Nat.beq d 0 = false := by
            cases b : Nat.beq d 0
            · rfl
            · exact absurd (Nat.eq_of_beq_eq_true b) this
          rw [this]; rfl
    refine am_Wp.sub hm_X12_instruction (am_le_of hl) (am_go hm_X12_instruction (fun p => Nat.beq p 68 || Nat.beq p 66 || Nat.beq p 8 || Nat.beq p 23 || Nat.beq p 34 || Nat.beq p 53 || Nat.beq p 81 || Nat.beq p 118 || Nat.beq p 141 || Nat.beq p 162 || Nat.beq p 189) 20 ?_)
    refine wi_any hm_X12_instruction (fun p => Nat.beq p 68 || Nat.beq p 66 || Nat.beq p 8 || Nat.beq p 23 || Nat.beq p 34 || Nat.beq p 53 || Nat.beq p 81 || Nat.beq p 118 || Nat.beq p 141 || Nat.beq p 162 || Nat.beq p 189) (q := 1076) ⟨by decide, by decide⟩ rfl rfl (fun c76 => ?_) (fun c76 => ?_)
    · have c76 : isA 1076 s = true := c76
      refine am_ite (fun q => absurd q (by decide)) (fun _ => ?_)
      refine am_ite (fun q => bad 66 _ (by decide) (fun hm => ?_)) (fun q => J68 (may (fun y => q (by rw [hd, y.2]; rfl))) _ (List.forall_mem_cons.mpr ⟨rfl, List.forall_mem_cons.mpr ⟨rfl, List.forall_mem_cons.mpr ⟨rfl, fun _ q => by cases q⟩⟩⟩))
      exact (qMay_e hm).2.2.2 c76 (nI_inj (b := 0) (by omega) (by decide) (hd.symm.trans q))
    · have c76 : isA 1076 s = false := c76
      exact am_ite (fun _ => J68 (may (fun y => by rw [c76] at y; cases y.1)) _ (List.forall_mem_cons.mpr ⟨rfl, List.forall_mem_cons.mpr ⟨rfl, List.forall_mem_cons.mpr ⟨rfl, fun _ q => by cases q⟩⟩⟩)) (fun q => absurd rfl q)
  have J31 : ¬ (isA 1069 s = true ∧ z = true) → ∀ ls, (∀ q ∈ ([(0, .ref 189), (1, .int (bI (z = true))), (2, .int s)] : am_L), am_lv ls q.1 = some q.2) → am_Wp (am_lk cl_X12_instruction) 31 ls [] τ R := by
    intro k1 ls hl
    refine am_Wp.sub hm_X12_instruction (am_le_of hl) (am_go hm_X12_instruction (fun p => Nat.beq p 50 || Nat.beq p 48 || Nat.beq p 8 || Nat.beq p 23 || Nat.beq p 34 || Nat.beq p 53 || Nat.beq p 81 || Nat.beq p 118 || Nat.beq p 141 || Nat.beq p 162 || Nat.beq p 189) 20 ?_)
    refine wi_any hm_X12_instruction (fun p => Nat.beq p 50 || Nat.beq p 48 || Nat.beq p 8 || Nat.beq p 23 || Nat.beq p 34 || Nat.beq p 53 || Nat.beq p 81 || Nat.beq p 118 || Nat.beq p 141 || Nat.beq p 162 || Nat.beq p 189) (q := 1071) ⟨by decide, by decide⟩ rfl rfl (fun c71 => ?_) (fun c71 => ?_)
    · have c71 : isA 1071 s = true := c71
      refine am_ite (fun q => absurd q (by decide)) (fun _ => ?_)
      refine am_ite (fun q => bad 48 _ (by decide) (fun hm => ?_)) (fun q => J50 k1 (fun y => q (by rw [hd, y.2]; rfl)) _ (List.forall_mem_cons.mpr ⟨rfl, List.forall_mem_cons.mpr ⟨rfl, List.forall_mem_cons.mpr ⟨rfl, fun _ q => by cases q⟩⟩⟩))
      exact (qMay_e hm).2.2.1 c71 (nI_inj (b := 5) (by omega) (by decide) (hd.symm.trans q))
    · have c71 : isA 1071 s = false := c71
      exact am_ite (fun _ => J50 k1 (fun y => by rw [c71] at y; cases y.1) _ (List.forall_mem_cons.mpr ⟨rfl, List.forall_mem_cons.mpr ⟨rfl, List.forall_mem_cons.mpr ⟨rfl, fun _ q => by cases q⟩⟩⟩)) (fun q => absurd rfl q)
  refine am_go hm_X12_instruction (fun p => Nat.beq p 31 || Nat.beq p 29 || Nat.beq p 8 || Nat.beq p 23 || Nat.beq p 34 || Nat.beq p 53 || Nat.beq p 81 || Nat.beq p 118 || Nat.beq p 141 || Nat.beq p 162 || Nat.beq p 189) 20 ?_
  refine am_ite (fun q => ?_) (fun q => ?_)
  · exact J31 (fun y => bI_0.mp q y.2) _ (List.forall_mem_cons.mpr ⟨rfl, List.forall_mem_cons.mpr ⟨rfl, List.forall_mem_cons.mpr ⟨rfl, fun _ q => by cases q⟩⟩⟩)
  · have hz := bI_n0.mp q
    refine wi_any hm_X12_instruction (fun p => Nat.beq p 31 || Nat.beq p 29 || Nat.beq p 8 || Nat.beq p 23 || Nat.beq p 34 || Nat.beq p 53 || Nat.beq p 81 || Nat.beq p 118 || Nat.beq p 141 || Nat.beq p 162 || Nat.beq p 189) (q := 1069) ⟨by decide, by decide⟩ rfl rfl (fun c69 => ?_) (fun c69 => ?_)
    · have c69 : isA 1069 s = true := c69
      refine am_ite (fun q => absurd q (by decide)) (fun _ => bad 29 _ (by decide) (fun hm => ?_))
      have := (qMay_e hm).2.1 c69
      rw [hz] at this; cases this
    · have c69 : isA 1069 s = false := c69
      exact am_ite (fun _ => J31 (fun y => by rw [c69] at y; cases y.1) _ (List.forall_mem_cons.mpr ⟨rfl, List.forall_mem_cons.mpr ⟨rfl, List.forall_mem_cons.mpr ⟨rfl, fun _ q => by cases q⟩⟩⟩)) (fun q => absurd rfl q)
end ZDF
