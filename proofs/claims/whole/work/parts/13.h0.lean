/-! texts: the reference's commands -/
section ZDH
variable {x : Nat → Int32} {L : Nat} {R : am_R}
set_option maxRecDepth 20000 in
theorem y_instructions {τ : am_M} {a : Nat} (h : zMt x L τ a) (haL : a ≤ L) (hR : ∀ τ', zPn τ τ' → τ' 189 7 = nI (qI x L 25 a 0 false).2.1 → ((qI x L 25 a 0 false).1 = true → τ' 193 0 = nI (qI x L 25 a 0 false).2.2.length ∧ ∀ i, i < (qI x L 25 a 0 false).2.2.length → τ' 193 (1 + i) = (qI x L 25 a 0 false).2.2.getD i 0) → R (some (.int (bI ((qI x L 25 a 0 false).1 = true)))) τ') : sp_X12_instructions [.ref 189] τ R := by
  refine ⟨rfl, am_go hm_X12_instructions (fun p => Nat.beq p 6) 20 ?_⟩
  refine wa_st hm_X12_instructions lay_193 rfl (nI_in (c := 0) (by decide) (by decide)) ?_
  refine am_go hm_X12_instructions (fun p => Nat.beq p 14) 20 ?_
  have F : zPn τ (am_up (am_up τ 193 0 0) 189 9 0) := (zPn.rf τ).tx.up (Or.inr rfl)
  have z := l_instructions (R := R) 25 a 0 0 false (am_up (am_up τ 193 0 0) 189 9 0) (h.frn F (by rw [zup_sn _ (by decide), zup_n _ _ (by decide)]; exact h.1) h.2.2.2.1) haL (by decide) (zup_ss _ _ _ _) (by rw [zup_n _ _ (by decide), zup_ss]; rfl) rfl (by decide) (fun τ' F' e7 k => by
    refine hR τ' (F.tr F') e7 (fun q => ?_)
    obtain ⟨k1, _, k3⟩ := k q
    rw [Nat.zero_add] at k1
    exact ⟨k1, k3⟩)
  exact am_Wp.sub hm_X12_instructions (am_le_of (List.forall_mem_cons.mpr ⟨rfl, List.forall_mem_cons.mpr ⟨rfl, fun _ q => by cases q⟩⟩)) z
set_option maxRecDepth 20000 in
theorem l_commands {done : Int32} (P : List qCm → am_M → Prop) (hP : ∀ cs τ τ', P cs τ → zPn τ τ' → P cs τ')
    (hroom : ∀ (cs : List qCm) (τ : am_M) (a c r : Nat) (n : Int32) (ls : am_L) (R : am_R), P cs τ → zMt x L τ a → c < 4 → r ≤ 3 → (∀ (τ' : am_M) (ls' : am_L), P (cs ++ [(true, c, [nI r])]) τ' → zMt x L τ' a → (∀ q ∈ ([(0, .ref 189), (1, .int done), (2, .int n)] : am_L), am_lv ls' q.1 = some q.2) → am_Wp (am_lk cl_X12_commands) 214 ls' [] τ' R) → (∀ q ∈ ([(0, .ref 189), (1, .int done), (2, .int n), (3, .int (nI c)), (4, .int (nI r))] : am_L), am_lv ls q.1 = some q.2) → am_Wp (am_lk cl_X12_commands) 89 ls [] τ R)
    (hprog : ∀ (cs : List qCm) (τ : am_M) (a q : Nat) (l : List Int32) (n : Int32) (ls : am_L) (R : am_R), P cs τ → zMt x L τ a → q < 6 → l.length ≤ 24 → τ 193 0 = nI l.length → (∀ i, i < l.length → τ 193 (1 + i) = l.getD i 0) → (∀ (τ' : am_M) (ls' : am_L), P (cs ++ [(false, q, l)]) τ' → zMt x L τ' a → (∀ q ∈ ([(0, .ref 189), (1, .int done), (2, .int n)] : am_L), am_lv ls' q.1 = some q.2) → am_Wp (am_lk cl_X12_commands) 214 ls' [] τ' R) → (∀ y ∈ ([(0, .ref 189), (1, .int done), (2, .int n), (3, .int (nI q))] : am_L), am_lv ls y.1 = some y.2) → am_Wp (am_lk cl_X12_commands) 173 ls [] τ R) :
    ∀ (m a : Nat) (cs : List qCm) (τ : am_M), zMt x L τ a → a ≤ L → cs.length ≤ a → P cs τ → cs.length + m = 61 → ((qRun x L m a cs).1 = true → ∀ τ', P (qRun x L m a cs).2.2 τ' → R (some (.int (nI (qRun x L m a cs).2.2.length))) τ') → (¬ (qRun x L m a cs).1 = true → ∀ τ', P (qRun x L m a cs).2.2 τ' → τ' 189 7 = nI (qRun x L m a cs).2.1 → R (some (.int (-1))) τ') → am_Wp (am_lk cl_X12_commands) 7 [(0, .ref 189), (1, .int done), (2, .int (nI cs.length))] [] τ R := by
  intro m
  induction m with
  | zero => intro a cs τ h haL hc _ e _ _; have := h.2.2.1; omega
  | succ m ih =>
    intro a cs τ h haL hc hp e hok hbad
    have h60 := h.2.2.1
    have bad : ∀ (pc : Nat) (ls : am_L) (τ' : am_M), (pc = 87 ∨ pc = 171) → R (some (.int (-1))) τ' → am_Wp (am_lk cl_X12_commands) pc ls [] τ' R := by
      intro pc ls τ' hpc hr
      rcases hpc with rfl | rfl <;> exact am_go hm_X12_commands (fun _ => false) 20 hr
    have C : ∀ ls, (∀ q ∈ ([(0, .ref 189), (1, .int done), (2, .int (nI cs.length))] : am_L), am_lv ls q.1 = some q.2) → ¬ (cs ≠ [] ∧ ¬ a < L) → am_Wp (am_lk cl_X12_commands) 22 ls [] τ R := by
      intro ls hl nc
      -- a command that is right
      have next : ∀ c (τ' : am_M), (qCmd x L a).1 = some c → P (cs ++ [c]) τ' → zMt x L τ' (qCmd x L a).2 → ∀ ls', (∀ q ∈ ([(0, .ref 189), (1, .int done), (2, .int (nI cs.length))] : am_L), am_lv ls' q.1 = some q.2) → am_Wp (am_lk cl_X12_commands) 214 ls' [] τ' R := by
        intro c τ' hc1 hp1 hm1 ls' hl'
        obtain ⟨_, g1, g2⟩ := qCmd_e hc1
        rw [qRun_3 nc hc1] at hok hbad
        have l1 : (cs ++ [c]).length = cs.length + 1 := by rw [List.length_append]; rfl
        have z := ih (qCmd x L a).2 (cs ++ [c]) τ' hm1 g2 (by rw [l1]; omega) hp1 (by rw [l1]; omega) hok hbad
        rw [l1] at z
        refine am_Wp.sub hm_X12_commands (am_le_of hl') (am_go hm_X12_commands (fun p => Nat.beq p 7) 20 ?_)
        exact am_Wp.sub hm_X12_commands (am_le_of (List.forall_mem_cons.mpr ⟨rfl, List.forall_mem_cons.mpr ⟨rfl, List.forall_mem_cons.mpr ⟨by rw [nI_succ]; rfl, fun _ q => by cases q⟩⟩⟩)) z
      have fail : ∀ τ' : am_M, (qCmd x L a).1 = none → P cs τ' → τ' 189 7 = nI (qCmd x L a).2 → R (some (.int (-1))) τ' := by
        intro τ' hc1 hp1 e7
        rw [qRun_2 nc hc1] at hbad
        exact hbad Bool.false_ne_true τ' hp1 e7
      refine am_Wp.sub hm_X12_commands (am_le_of hl) (am_go hm_X12_commands (fun p => Nat.beq p 31 || Nat.beq p 138) 20 ?_)
      refine y_here h ?_
      refine am_ite (fun c1 => ?_) (fun c1 => ?_)
      · have c1 : qH x L a = 35 := c1
        have haL' : a < L := by
          rcases Nat.lt_or_ge a L with q | q
          · exact q
          · exfalso
            rw [show qH x L a = -1 from if_neg (by omega)] at c1
            revert c1; decide
        have e7 : am_up τ 189 7 (τ 189 7 + 1) = am_up τ 189 7 (nI (a + 1)) := by rw [h.1, nI_1]
        have F1 : zPn τ (am_up τ 189 7 (nI (a + 1))) := (zPn.rf τ).up (Or.inl rfl)
        have h1 := h.go (b := a + 1) (by omega)
        have h2 := h.go (b := a + 2) (by omega)
        have h3 := h.go (b := a + 3) (by omega)
        have F2 : zPn τ (am_up τ 189 7 (nI (a + 1 + 1))) := (zPn.rf τ).up (Or.inl rfl)
        have F3 : zPn τ (am_up τ 189 7 (nI (a + 2 + 1))) := (zPn.rf τ).up (Or.inl rfl)
        have F4 : zPn τ (am_up τ 189 7 (nI (a + 3 + 1))) := (zPn.rf τ).up (Or.inl rfl)
        refine am_go hm_X12_commands (fun p => Nat.beq p 41) 20 (wq_eq e7 ?_)
        refine am_go hm_X12_commands (fun p => Nat.beq p 67 || Nat.beq p 59) 20 ?_
        refine y_digit h1 (by decide) (fun q1 => ?_) (fun q1 => ?_)
        · obtain ⟨C, hC, eC⟩ := qH48 3 (by decide) q1
          refine am_ite (fun q => absurd q (by rw [eC]; exact nI_m1 (by omega))) (fun _ => ?_)
          rw [am_up_up]
          refine am_go hm_X12_commands (fun p => Nat.beq p 87 || Nat.beq p 75) 20 ?_
          refine y_digit h2 (by decide) (fun q2 => ?_) (fun q2 => ?_)
          · obtain ⟨r, hr, er⟩ := qH48 3 (by decide) q2
            have l2 := qIn_L q2 (by decide)
            refine am_ite (fun q => absurd q (by rw [er]; exact nI_m1 (by omega))) (fun _ => ?_)
            rw [am_up_up]
            refine am_go hm_X12_commands (fun p => Nat.beq p 87 || Nat.beq p 89) 20 ?_
            refine y_digit h3 (by decide) (fun q3 => ?_) (fun q3 => ?_)
            · have l3 := qIn_L q3 (by decide)
              have e59 : qH x L (a + 3) - 59 = 0 := by
                have : qH x L (a + 3) = 59 := Int32.le_antisymm q3.2 q3.1
                rw [this]; decide
              have eq : qCmd x L a = (some (true, zc (qH x L (a + 1)) - 48, [qH x L (a + 2) - 48]), a + 4) := by
                unfold qCmd
                rw [if_pos c1, if_pos q1, if_pos q2, if_pos q3]
              obtain ⟨y1, y2, _⟩ := qDig (lo := 0) (k := 3) (by decide) q1.1 q1.2
              have eCc : zc (qH x L (a + 1)) - 48 = C := nI_inj (by omega) (by omega) (y1.symm.trans eC)
              rw [eCc, er] at eq
              refine am_ite (fun q => absurd q (by rw [e59]; decide)) (fun _ => ?_)
              rw [am_up_up]
              refine hroom cs _ (a + 4) C r (nI cs.length) _ R (hP _ _ _ hp F4) (h.go (by omega)) (by omega) hr (fun τ' ls' hp' hm' hl' => ?_) (List.forall_mem_cons.mpr ⟨rfl, List.forall_mem_cons.mpr ⟨rfl, List.forall_mem_cons.mpr ⟨rfl, List.forall_mem_cons.mpr ⟨by rw [← eC]; rfl, List.forall_mem_cons.mpr ⟨by rw [← er]; rfl, fun _ q => by cases q⟩⟩⟩⟩⟩)
              exact next _ τ' (by rw [eq]) hp' (by rw [eq]; exact hm') ls' hl'
            · have eq : qCmd x L a = (none, a + 3) := by
                unfold qCmd
                rw [if_pos c1, if_pos q1, if_pos q2, if_neg q3]
              refine am_ite (fun _ => ?_) (fun q => absurd rfl q)
              exact bad 87 _ _ (Or.inl rfl) (fail _ (by rw [eq]) (hP _ _ _ hp F3) (by rw [eq]; exact zup_ss _ _ _ _))
          · have eq : qCmd x L a = (none, a + 2) := by
              unfold qCmd
              rw [if_pos c1, if_pos q1, if_neg q2]
            refine am_ite (fun _ => ?_) (fun q => absurd rfl q)
            exact bad 87 _ _ (Or.inl rfl) (fail _ (by rw [eq]) (hP _ _ _ hp F2) (by rw [eq]; exact zup_ss _ _ _ _))
        · have eq : qCmd x L a = (none, a + 1) := by
            unfold qCmd
            rw [if_pos c1, if_neg q1]
          refine am_ite (fun _ => ?_) (fun q => absurd rfl q)
          refine am_go hm_X12_commands (fun p => Nat.beq p 87) 20 ?_
          refine am_ite (fun _ => ?_) (fun q => absurd rfl q)
          exact bad 87 _ _ (Or.inl rfl) (fail _ (by rw [eq]) (hP _ _ _ hp F1) (by rw [eq]; exact zup_ss _ _ _ _))
      · have c1 : ¬ qH x L a = 35 := c1
        refine am_go hm_X12_commands (fun p => Nat.beq p 171 || Nat.beq p 152) 20 ?_
        refine y_digit h (by decide) (fun q1 => ?_) (fun q1 => ?_)
        · obtain ⟨q, hq, eC⟩ := qH48 5 (by decide) q1
          have l1 := qIn_L q1 (by decide)
          have h1 := h.go (b := a + 1) (by omega)
          have h2 := h.go (b := a + 2) (by omega)
          refine am_ite (fun y => absurd y (by rw [eC]; exact nI_m1 (by omega))) (fun _ => ?_)
          refine am_go hm_X12_commands (fun p => Nat.beq p 171 || Nat.beq p 164) 20 ?_
          refine y_digit h1 (by decide) (fun q2 => ?_) (fun q2 => ?_)
          · have l2 := qIn_L q2 (by decide)
            have e58 : qH x L (a + 1) - 58 = 0 := by
              have : qH x L (a + 1) = 58 := Int32.le_antisymm q2.2 q2.1
              rw [this]; decide
            have F2 : zPn τ (am_up τ 189 7 (nI (a + 1 + 1))) := (zPn.rf τ).up (Or.inl rfl)
            refine am_ite (fun y => absurd y (by rw [e58]; decide)) (fun _ => ?_)
            rw [am_up_up]
            refine am_go hm_X12_commands (fun p => Nat.beq p 171 || Nat.beq p 173) 20 ?_
            refine y_instructions h2 (by omega) (fun τ' F e7 k => ?_)
            by_cases q3 : (qI x L 25 (a + 2) 0 false).1 = true
            · have eq : qCmd x L a = (some (false, zc (qH x L a) - 48, (qI x L 25 (a + 2) 0 false).2.2), (qI x L 25 (a + 2) 0 false).2.1) := by
                unfold qCmd
                rw [if_neg c1, if_pos q1, if_pos q2, if_pos q3]
              obtain ⟨y1, y2, _⟩ := qDig (lo := 0) (k := 5) (by decide) q1.1 q1.2
              have eCc : zc (qH x L a) - 48 = q := nI_inj (by omega) (by omega) (y1.symm.trans eC)
              rw [eCc] at eq
              obtain ⟨k1, k2⟩ := k q3
              have w := qI_wf 25 (a + 2) 0 0 false (fun i => (qI x L 25 (a + 2) 0 false).2.2.getD i 0) (by decide) q3 (fun i _ => by rw [Nat.zero_add])
              have wl := w.2.2.2 (by omega)
              rw [bI_t q3]
              refine am_ite (fun y => absurd y (by decide)) (fun _ => ?_)
              refine hprog cs τ' (qI x L 25 (a + 2) 0 false).2.1 q _ (nI cs.length) _ R (hP _ _ _ hp (F2.tr F)) (h2.frn F e7 (by omega)) (by omega) (Nat.le_of_lt_succ w.2.1) k1 k2 (fun τ2 ls' hp' hm' hl' => ?_) (List.forall_mem_cons.mpr ⟨rfl, List.forall_mem_cons.mpr ⟨rfl, List.forall_mem_cons.mpr ⟨rfl, List.forall_mem_cons.mpr ⟨by rw [← eC]; rfl, fun _ q => by cases q⟩⟩⟩⟩)
              exact next _ τ2 (by rw [eq]) hp' (by rw [eq]; exact hm') ls' hl'
            · have eq : qCmd x L a = (none, (qI x L 25 (a + 2) 0 false).2.1) := by
                unfold qCmd
                rw [if_neg c1, if_pos q1, if_pos q2, if_neg q3]
              rw [bI_f q3]
              refine am_ite (fun _ => ?_) (fun y => absurd rfl y)
              exact bad 171 _ _ (Or.inr rfl) (fail _ (by rw [eq]) (hP _ _ _ hp (F2.tr F)) (by rw [eq]; exact e7))
          · have eq : qCmd x L a = (none, a + 1) := by
              unfold qCmd
              rw [if_neg c1, if_pos q1, if_neg q2]
            refine am_ite (fun _ => ?_) (fun y => absurd rfl y)
            exact bad 171 _ _ (Or.inr rfl) (fail _ (by rw [eq]) (hP _ _ _ hp ((zPn.rf τ).up (Or.inl rfl))) (by rw [eq]; exact zup_ss _ _ _ _))
        · have eq : qCmd x L a = (none, a) := by
            unfold qCmd
            rw [if_neg c1, if_neg q1]
          refine am_ite (fun _ => ?_) (fun y => absurd rfl y)
          exact bad 171 _ _ (Or.inr rfl) (fail _ (by rw [eq]) hp (by rw [eq]; exact h.1))
    have e1 : ¬ nI cs.length = 0 ↔ cs ≠ [] := by
      refine ⟨fun q z => q (by rw [z]; rfl), fun q z => ?_⟩
      have l0 : 0 < cs.length := List.length_pos_iff.mpr q
      have := nI_inj (b := 0) (by omega) (by decide) z
      omega
    refine am_go hm_X12_commands (fun p => Nat.beq p 22 || Nat.beq p 220) 20 ?_
    refine am_ite (fun c1 => ?_) (fun c1 => ?_)
    · refine C _ (List.forall_mem_cons.mpr ⟨rfl, List.forall_mem_cons.mpr ⟨rfl, List.forall_mem_cons.mpr ⟨rfl, fun _ q => by cases q⟩⟩⟩) (fun q => q.2 ?_)
      rw [h.1, h.2.1] at c1
      exact (nI_ltI (by omega) (by omega)).mp c1
    · refine am_ite (fun c2 => ?_) (fun c2 => ?_)
      · exact C _ (List.forall_mem_cons.mpr ⟨rfl, List.forall_mem_cons.mpr ⟨rfl, List.forall_mem_cons.mpr ⟨rfl, fun _ q => by cases q⟩⟩⟩) (fun q => e1.mpr q.1 c2)
      · have nc : cs ≠ [] ∧ ¬ a < L := ⟨e1.mp c2, fun q => c1 (by rw [h.1, h.2.1]; exact nI_lt q (by omega))⟩
        rw [qRun_1 nc] at hok
        exact am_go hm_X12_commands (fun _ => false) 20 (hok rfl τ hp)
end ZDH
