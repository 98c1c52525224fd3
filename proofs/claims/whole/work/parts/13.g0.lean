/-! texts: the reference's instructions -/
section ZDG
variable {x : Nat → Int32} {L : Nat} {R : am_R}
theorem lay_193 : am_lay[193]? = some (.inl 25) := by decide +kernel
/-- only the reference's place, its count of open scopes and its text differ -/
def zPn (σ τ : am_M) : Prop := (∀ b, b ≠ 189 → b ≠ 193 → τ b = σ b) ∧ ∀ j, j ≠ 7 → j ≠ 9 → τ 189 j = σ 189 j
theorem zPn.rf (σ : am_M) : zPn σ σ := ⟨fun _ _ _ => rfl, fun _ _ _ => rfl⟩
theorem zPn.tr {σ τ υ : am_M} (h : zPn σ τ) (h1 : zPn τ υ) : zPn σ υ := ⟨fun b a a1 => (h1.1 b a a1).trans (h.1 b a a1), fun j a1 a2 => (h1.2 j a1 a2).trans (h.2 j a1 a2)⟩
theorem zPp.n {σ τ : am_M} (h : zPp σ τ) : zPn σ τ := ⟨fun b a _ => h.1 b a, h.2⟩
theorem zPn.up {σ τ : am_M} {j : Nat} {v : Int32} (h : zPn σ τ) (hj : j = 7 ∨ j = 9) : zPn σ (am_up τ 189 j v) := ⟨fun b a a1 => (zup_n _ _ a).trans (h.1 b a a1), fun i a1 a2 => (zup_sn _ (by omega)).trans (h.2 i a1 a2)⟩
theorem zPn.tx {σ τ : am_M} {j : Nat} {v : Int32} (h : zPn σ τ) : zPn σ (am_up τ 193 j v) := ⟨fun b a a1 => (zup_n _ _ a1).trans (h.1 b a a1), fun i a1 a2 => by rw [zup_n _ _ (by decide)]; exact h.2 i a1 a2⟩
theorem zMt.frn {σ τ : am_M} {a b : Nat} (h : zMt x L σ a) (F : zPn σ τ) (e : τ 189 7 = nI b) (hb : b ≤ 70) : zMt x L τ b := ⟨e, by rw [F.2 5 (by decide) (by decide)]; exact h.2.1, h.2.2.1, hb, fun j hj => by rw [F.1 192 (by decide) (by decide)]; exact h.2.2.2.2 j hj⟩
set_option maxRecDepth 20000 in
theorem l_instructions : ∀ (n a d c : Nat) (z : Bool) (τ : am_M), zMt x L τ a → a ≤ L → d ≤ 5 → τ 189 9 = nI d → τ 193 0 = nI c → c + n = 25 → c < 25 → (∀ τ', zPn τ τ' → τ' 189 7 = nI (qI x L n a d z).2.1 → ((qI x L n a d z).1 = true → τ' 193 0 = nI (c + (qI x L n a d z).2.2.length) ∧ (∀ i, i < c → τ' 193 (1 + i) = τ 193 (1 + i)) ∧ ∀ i, i < (qI x L n a d z).2.2.length → τ' 193 (1 + c + i) = (qI x L n a d z).2.2.getD i 0) → R (some (.int (bI ((qI x L n a d z).1 = true)))) τ') → am_Wp (am_lk cl_X12_instructions) 14 [(0, .ref 189), (1, .int (bI (z = true)))] [] τ R := by
  intro n
  induction n with
  | zero => intro a d c z τ h _ _ _ _ e e1 _; omega
  | succ n ih =>
    intro a d c z τ h haL hd h9 h0 hc _ hR
    have h60 := h.2.2.1
    have A : ∀ ls, (∀ q ∈ ([(0, .ref 189), (1, .int (bI (z = true)))] : am_L), am_lv ls q.1 = some q.2) → ¬ (qH x L a = 59 ∧ d = 0 ∧ z = false) → am_Wp (am_lk cl_X12_instructions) 34 ls [] τ R := by
      intro ls hl nc
      refine am_Wp.sub hm_X12_instructions (am_le_of hl) (am_go hm_X12_instructions (fun p => Nat.beq p 39) 20 ?_)
      refine wa_ld hm_X12_instructions lay_193 rfl (nI_in (c := 0) (by decide) (by decide)) ?_
      have e0 : τ 193 (nI 0).toNatClampNeg = nI c := h0
      refine am_go hm_X12_instructions (fun p => Nat.beq p 45 || Nat.beq p 47) 20 ?_
      rcases n with _ | n
      · rw [qI_2 nc] at hR
        refine am_ite (fun _ => ?_) (fun q => absurd (e0.trans (by rw [show c = 24 from by omega]; rfl)) q)
        refine am_go hm_X12_instructions (fun _ => false) 20 ⟨Or.inl rfl, ?_⟩
        exact hR τ (zPn.rf τ) h.1 (fun q => by cases q)
      · refine am_ite (fun q => absurd (nI_inj (b := 24) (by omega) (by decide) (e0.symm.trans q)) (by omega)) (fun _ => ?_)
        refine am_go hm_X12_instructions (fun p => Nat.beq p 58 || Nat.beq p 60) 20 ?_
        refine y_instruction h haL rfl h9 hd (fun hm => ?_) (fun τ' hm F e7 eo => ?_) (fun o τ' hm F e9 e7 eo => ?_)
        · rw [qI_3 nc hm] at hR
          refine am_ite (fun _ => ?_) (fun q => absurd rfl q)
          exact am_go hm_X12_instructions (fun _ => false) 20 ⟨Or.inl rfl, hR τ (zPn.rf τ) h.1 (fun q => by cases q)⟩
        · rw [qI_4 nc hm eo] at hR
          refine am_ite (fun _ => ?_) (fun q => absurd rfl q)
          exact am_go hm_X12_instructions (fun _ => false) 20 ⟨Or.inl rfl, hR τ' F.n e7 (fun q => by cases q)⟩
        · rw [qI_5 nc hm eo] at hR
          obtain ⟨⟨O, o1, o2, _⟩, p1, p2⟩ := qOp_e eo
          obtain ⟨S, s1, s2, s3⟩ := qSg (qMay_e hm).1
          have haL' : a < L := by
            rcases Nat.lt_or_ge a L with q | q
            · exact q
            · exfalso
              have e : qH x L a = -1 := if_neg (by omega)
              have := (qMay_e hm).1
              rw [e] at this
              revert this; decide
          have p2 := p2 (by omega)
          have ev : 100 * qH x L a + o = nI (100 * S + O) := by rw [s1, o2, show (100 : Int32) = nI 100 from rfl, pk_mul, nI_add]
          have ed : (100 * qH x L a + o) / 100 = qH x L a := (qOk_z hd hm eo).2
          refine am_ite (fun q => absurd q (by rw [ev]; exact nI_m1 (by omega))) (fun _ => ?_)
          have t0 : τ' 193 0 = nI c := by rw [F.1 193 (by decide)]; exact h0
          refine am_go hm_X12_instructions (fun p => Nat.beq p 70) 20 ?_
          refine wa_ld hm_X12_instructions lay_193 rfl (nI_in (c := 0) (by decide) (by decide)) ?_
          have t00 : τ' 193 (nI 0).toNatClampNeg = nI c := t0
          refine am_go hm_X12_instructions (fun p => Nat.beq p 74) 20 ?_
          refine wa_st hm_X12_instructions lay_193 rfl (nI_in (c := 0) (by decide) (by decide)) ?_
          refine am_go hm_X12_instructions (fun p => Nat.beq p 76) 20 ?_
          have t1 : τ' 193 (nI 0).toNatClampNeg + 1 = nI (c + 1) := by rw [t00, nI_1]
          refine wa_st hm_X12_instructions lay_193 rfl (by rw [show τ' 193 (Int32.toNatClampNeg 0) + 1 = nI (c + 1) from t1]; exact nI_in (by omega) (by decide)) ?_
          have eS : am_up (am_up τ' 193 (nI 0).toNatClampNeg (τ' 193 (nI 0).toNatClampNeg + 1)) 193 (τ' 193 (nI 0).toNatClampNeg + 1).toNatClampNeg (100 * qH x L a + o) = am_up (am_up τ' 193 0 (nI (c + 1))) 193 (c + 1) (100 * qH x L a + o) := by
            rw [t1, show (nI (c + 1)).toNatClampNeg = c + 1 from nI_clamp (by omega)]
            rfl
          refine wq_eq eS ?_
          have F2 : zPn τ (am_up (am_up τ' 193 0 (nI (c + 1))) 193 (c + 1) (100 * qH x L a + o)) := F.n.tx.tx
          have g0 : am_up (am_up τ' 193 0 (nI (c + 1))) 193 (c + 1) (100 * qH x L a + o) 193 0 = nI (c + 1) := by rw [zup_sn _ (by omega), zup_ss]
          have gc : am_up (am_up τ' 193 0 (nI (c + 1))) 193 (c + 1) (100 * qH x L a + o) 193 (c + 1) = 100 * qH x L a + o := zup_ss _ _ _ _
          have gi : ∀ i, i < c → am_up (am_up τ' 193 0 (nI (c + 1))) 193 (c + 1) (100 * qH x L a + o) 193 (1 + i) = τ 193 (1 + i) := fun i hi => by rw [zup_sn _ (by omega), zup_sn _ (by omega), F.1 193 (by decide)]
          have g7 : am_up (am_up τ' 193 0 (nI (c + 1))) 193 (c + 1) (100 * qH x L a + o) 189 7 = nI (qOp x L (qH x L a) (a + 1)).2 := by rw [zup_n _ _ (by decide), zup_n _ _ (by decide)]; exact e7
          have g9 : am_up (am_up τ' 193 0 (nI (c + 1))) 193 (c + 1) (100 * qH x L a + o) 189 9 = nI (qDn (qH x L a) d) := by rw [zup_n _ _ (by decide), zup_n _ _ (by decide)]; exact e9
          generalize am_up (am_up τ' 193 0 (nI (c + 1))) 193 (c + 1) (100 * qH x L a + o) = υ at F2 g0 gc gi g7 g9
          have loop := ih (qOp x L (qH x L a) (a + 1)).2 (qDn (qH x L a) d) (c + 1) (decide (qH x L a = 122)) υ (h.frn F2 g7 (by omega)) p2 (qDn_5 hd hm) g9 g0 (by omega) (by omega) (fun τ2 F3 e3 k3 => by
            refine hR τ2 (F2.tr F3) e3 (fun q => ?_)
            obtain ⟨k4, k5, k6⟩ := k3 q
            refine ⟨?_, fun i hi => (k5 i (by omega)).trans (gi i hi), fun i hi => ?_⟩
            · rw [k4]
              show nI (c + 1 + _) = nI (c + (_ + 1))
              congr 1; omega
            · rcases i with _ | i
              · have := k5 c (by omega)
                rw [show 1 + c + 0 = 1 + c from rfl, this, show 1 + c = c + 1 from by omega, gc]
                rfl
              · have := k6 i (Nat.lt_of_succ_lt_succ hi)
                rw [show 1 + c + (i + 1) = 1 + (c + 1) + i from by omega]
                exact this)
          refine am_go hm_X12_instructions (fun p => Nat.beq p 91) 20 ?_
          refine am_ite (fun q => ?_) (fun q => ?_)
          · have q : (100 * qH x L a + o) / 100 = 122 := q
            rw [ed] at q
            refine am_go hm_X12_instructions (fun p => Nat.beq p 14) 20 ?_
            refine am_Wp.sub hm_X12_instructions (am_le_of (List.forall_mem_cons.mpr ⟨rfl, List.forall_mem_cons.mpr ⟨?_, fun _ q => by cases q⟩⟩)) loop
            show some (Value.int 1) = some (.int (bI (decide (qH x L a = 122) = true)))
            rw [bI_t (decide_eq_true q)]
          · have q : ¬ (100 * qH x L a + o) / 100 = 122 := q
            rw [ed] at q
            refine am_go hm_X12_instructions (fun p => Nat.beq p 14) 20 ?_
            refine am_Wp.sub hm_X12_instructions (am_le_of (List.forall_mem_cons.mpr ⟨rfl, List.forall_mem_cons.mpr ⟨?_, fun _ q => by cases q⟩⟩)) loop
            show some (Value.int 0) = some (.int (bI (decide (qH x L a = 122) = true)))
            rw [bI_f (fun y => q (of_decide_eq_true y))]
    refine am_go hm_X12_instructions (fun p => Nat.beq p 34 || Nat.beq p 95) 20 ?_
    refine y_here h ?_
    refine am_ite (fun c1 => ?_) (fun c1 => A _ (List.forall_mem_cons.mpr ⟨rfl, List.forall_mem_cons.mpr ⟨rfl, fun _ q => by cases q⟩⟩) (fun q => c1 q.1))
    have c1 : qH x L a = 59 := c1
    refine am_ite (fun c2 => A _ (List.forall_mem_cons.mpr ⟨rfl, List.forall_mem_cons.mpr ⟨rfl, fun _ q => by cases q⟩⟩) (fun q => by rw [h9, q.2.1] at c2; exact absurd c2 (by decide))) (fun c2 => ?_)
    have d0 : d = 0 := by
      rcases Nat.eq_zero_or_pos d with q | q
      · exact q
      · exact absurd (by rw [h9]; exact (nI_ltI (a := 0) (by decide) (by omega)).mpr q) c2
    refine am_ite (fun c3 => ?_) (fun c3 => A _ (List.forall_mem_cons.mpr ⟨rfl, List.forall_mem_cons.mpr ⟨rfl, fun _ q => by cases q⟩⟩) (fun q => c3 (by rw [q.2.2]; rfl)))
    have z0 : z = false := by
      cases z
      · rfl
      · exact absurd rfl (bI_0.mp c3)
    rw [qI_1 ⟨c1, d0, z0⟩] at hR
    refine am_go hm_X12_instructions (fun _ => false) 20 ⟨Or.inr rfl, ?_⟩
    have e7 : am_up τ 189 7 (τ 189 7 + 1) = am_up τ 189 7 (nI (a + 1)) := by rw [h.1, nI_1]
    rw [e7]
    refine hR _ ((zPn.rf τ).up (Or.inl rfl)) (zup_ss _ _ _ _) (fun _ => ⟨?_, fun i _ => by rw [zup_n _ _ (by decide)], fun i hi => absurd hi (Nat.not_lt_zero i)⟩)
    rw [zup_n _ _ (by decide)]
    exact h0
end ZDG
