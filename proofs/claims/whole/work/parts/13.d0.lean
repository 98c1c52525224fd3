/-! texts: how the class reads instructions and commands -/
section ZDD
variable {x : Nat → Int32} {L : Nat}
/-- only the reader's place and the draft p differ -/
def zIf (p : Nat) (σ τ : am_M) : Prop := (∀ b, b ≠ 3 → b ≠ 6 → b ≠ 8 → τ b = σ b) ∧ (∀ j, j ≠ 6 → τ 3 j = σ 3 j) ∧ (∀ j, j ≠ p → τ 6 j = σ 6 j) ∧ ∀ j, (j < p * 24 ∨ p * 24 + 24 ≤ j) → τ 8 j = σ 8 j
theorem zIf.rf (p : Nat) (σ : am_M) : zIf p σ σ := ⟨fun _ _ _ _ => rfl, fun _ _ => rfl, fun _ _ => rfl, fun _ _ => rfl⟩
theorem zIf.tr {p : Nat} {σ τ υ : am_M} (h : zIf p σ τ) (h1 : zIf p τ υ) : zIf p σ υ := ⟨fun b a1 a2 a3 => (h1.1 b a1 a2 a3).trans (h.1 b a1 a2 a3), fun j a => (h1.2.1 j a).trans (h.2.1 j a), fun j a => (h1.2.2.1 j a).trans (h.2.2.1 j a), fun j a => (h1.2.2.2 j a).trans (h.2.2.2 j a)⟩
theorem zIf.pos {p : Nat} {σ : am_M} {v : Int32} : zIf p σ (am_up σ 3 6 v) := ⟨fun b h _ _ => zup_n _ _ h, fun j h => zup_sn _ h, fun j _ => by rw [zup_n _ _ (by decide)], fun j _ => by rw [zup_n _ _ (by decide)]⟩
theorem e_Dadd {σ : am_M} {p c : Nat} {v : Int32} (hp : p < 6) (h : σ 6 p = nI c) (hc : c < 24) : bAdd σ cR_drafts (nI p) v = am_up (am_up σ 8 (p * 24 + c) v) 6 p (nI (c + 1)) := by
  unfold bAdd bLen
  rw [show rAt σ (cR_drafts + 1) (nI p) = nI c from (ra_R_drafts_len hp).trans h, if_neg (show ¬ (24 : Int32) ≤ nI c from nI_ge (a := c) (b := 24) hc (by decide)), zi24, nI_add, show rPut σ (cR_drafts + 3) (nI (p * 24 + c)) v = am_up σ 8 (p * 24 + c) v from rp_R_drafts_cel (by omega), nI_1]
  exact rp_R_drafts_len hp
theorem zIf.add {p c : Nat} {σ : am_M} {v w : Int32} (hc : c < 24) : zIf p σ (am_up (am_up σ 8 (p * 24 + c) v) 6 p w) := by
  refine ⟨fun b h h1 h2 => by rw [zup_n _ _ h1, zup_n _ _ h2], fun j _ => by rw [zup_n _ _ (by decide), zup_n _ _ (by decide)], fun j hj => by rw [zup_sn _ hj, zup_n _ _ (by decide)], fun j hj => by rw [zup_n _ _ (by decide), zup_sn _ (by omega)]⟩
theorem zRt.fr {σ τ : am_M} {a b : Nat} (h : zRt x L σ a) (e : τ 3 6 = nI b) (hb : b ≤ 70) (e1 : τ 1 = σ 1) (e2 : τ 2 = σ 2) : zRt x L τ b := ⟨e, by rw [e1]; exact h.2.1, h.2.2.1, hb, fun j hj => by rw [e2]; exact h.2.2.2.2 j hj⟩
theorem zRt.insN : ∀ (n a d c p : Nat) (z : Bool) (σ : am_M), zRt x L σ a → a ≤ L → d ≤ 5 → p < 6 → σ 6 p = nI c → c + n = 25 → ∃ τ, pInsN (nI p) n σ (nI d) (bI (z = true)) = (bI ((qI x L n a d z).1 = true), τ) ∧ τ 3 6 = nI (qI x L n a d z).2.1 ∧ zIf p σ τ ∧ ((qI x L n a d z).1 = true → τ 6 p = nI (c + (qI x L n a d z).2.2.length) ∧ (∀ i, i < c → τ 8 (p * 24 + i) = σ 8 (p * 24 + i)) ∧ ∀ i, i < (qI x L n a d z).2.2.length → τ 8 (p * 24 + (c + i)) = (qI x L n a d z).2.2.getD i 0) := by
  intro n
  induction n with
  | zero => intro a d c p z σ h _ _ _ _ _; exact ⟨σ, rfl, h.1, zIf.rf p σ, fun q => by cases q⟩
  | succ n ih =>
    intro a d c p z σ h haL hd hp h6 hcn
    have h60 := h.2.2.1
    have eN : pInsN (nI p) (n + 1) σ (nI d) (bI (z = true)) = if pHere σ = 59 ∧ nI d = 0 ∧ bI (z = true) = 0 then pPassP σ 59 59 else if n = 0 then (0, σ) else if pMay (pHere σ) (nI d) (bI (z = true)) = 0 then (0, σ) else pInsO (pInsN (nI p) n) (nI p) (pHere σ) (σ oR 6) (nI d) (pOper (am_up σ oR 6 (σ oR 6 + 1)) (pHere σ)) := rfl
    rw [eN, h.here]
    have e0 : (qH x L a = 59 ∧ nI d = 0 ∧ bI (z = true) = 0) ↔ (qH x L a = 59 ∧ d = 0 ∧ z = false) := by
      refine and_congr_right (fun _ => and_congr ⟨fun q => nI_inj (b := 0) (by omega) (by decide) q, fun q => by rw [q]; rfl⟩ ?_)
      rw [bI_0]
      cases z
      · exact ⟨fun _ => rfl, fun _ q => by cases q⟩
      · exact ⟨fun q => absurd rfl q, fun q => by cases q⟩
    by_cases c1 : qH x L a = 59 ∧ d = 0 ∧ z = false
    · rw [if_pos (e0.mpr c1), qI_1 c1]
      obtain ⟨v1, v2⟩ := h.passT (lo := 59) (hi := 59) (by rw [qIn, c1.1]; exact ⟨by decide, by decide⟩)
      refine ⟨_, by unfold pPassP; rw [v1, v2]; rfl, zup_ss _ _ _ _, zIf.pos, fun _ => ⟨?_, fun i _ => by rw [zup_n _ _ (by decide)], fun i hi => absurd hi (Nat.not_lt_zero i)⟩⟩
      rw [zup_n _ _ (by decide)]
      exact h6
    · rw [if_neg (fun q => c1 (e0.mp q))]
      rcases n with _ | n
      · rw [if_pos rfl, qI_2 c1]
        exact ⟨σ, rfl, h.1, zIf.rf p σ, fun q => by cases q⟩
      · rw [if_neg (Nat.succ_ne_zero n), pMay_e hd]
        by_cases c2 : qMay (qH x L a) d z = true
        · have haL' : a < L := by
            rcases Nat.lt_or_ge a L with q | q
            · exact q
            · exfalso
              have e : qH x L a = -1 := if_neg (by omega)
              have := (qMay_e c2).1
              rw [e] at this
              revert this; decide
          rw [if_neg (bI_n0.mpr c2), show σ oR 6 = nI a from h.1, nI_1]
          have h1 := h.go (b := a + 1) (by omega)
          obtain ⟨p1, p2, p3⟩ := h1.oper (by omega) (qH x L a)
          have p2 : (pOper (am_up σ 3 6 (nI (a + 1))) (qH x L a)).2 = am_up σ 3 6 (nI (qOp x L (qH x L a) (a + 1)).2) := p2.trans am_up_up
          cases ho : (qOp x L (qH x L a) (a + 1)).1 with
          | none =>
            rw [qI_4 c1 c2 ho]
            unfold pInsO
            rw [if_pos (p1 ho)]
            refine ⟨_, rfl, ?_, ?_, fun q => by cases q⟩
            · rw [show (pOper (am_up σ oR 6 (nI (a + 1))) (qH x L a)).2 = _ from p2, zup_ss]
            · rw [show (pOper (am_up σ oR 6 (nI (a + 1))) (qH x L a)).2 = _ from p2]
              exact zIf.pos
          | some o =>
            obtain ⟨q1, q2⟩ := p3 o ho
            obtain ⟨_, _, b2⟩ := qOp_e ho
            have b2 := b2 (by omega)
            rw [qI_5 c1 c2 ho]
            unfold pInsO
            rw [if_neg (by rw [show (pOper (am_up σ oR 6 (nI (a + 1))) (qH x L a)).1 = 1 from q1]; decide), nI_1, show pOpF (pOper (am_up σ oR 6 (nI (a + 1))) (qH x L a)).2 (nI (a + 1)) = o from q2, show (pOper (am_up σ oR 6 (nI (a + 1))) (qH x L a)).2 = _ from p2]
            have g6 : am_up σ 3 6 (nI (qOp x L (qH x L a) (a + 1)).2) 6 p = nI c := by rw [zup_n _ _ (by decide)]; exact h6
            rw [e_Dadd hp g6 (by omega), pDop_q _ (isA_63 (qMay_e c2).1) d (by omega) z c2]
            have hb : bI (qH x L a = 122) = bI (decide (qH x L a = 122) = true) := bI_c (by rw [decide_eq_true_iff])
            rw [hb]
            generalize hS : am_up (am_up (am_up σ 3 6 (nI (qOp x L (qH x L a) (a + 1)).2)) 8 (p * 24 + c) (100 * qH x L a + o)) 6 p (nI (c + 1)) = S
            have F1 : zIf p σ S := by rw [← hS]; exact zIf.pos.tr (zIf.add (by omega))
            have s6 : S 6 p = nI (c + 1) := by rw [← hS, zup_ss]
            have s3 : S 3 6 = nI (qOp x L (qH x L a) (a + 1)).2 := by rw [← hS, zup_n _ _ (by decide), zup_n _ _ (by decide), zup_ss]
            have s8 : S 8 (p * 24 + c) = 100 * qH x L a + o := by rw [← hS, zup_n _ _ (by decide), zup_ss]
            have s8o : ∀ i, i < c → S 8 (p * 24 + i) = σ 8 (p * 24 + i) := fun i hi => by rw [← hS, zup_n _ _ (by decide), zup_sn _ (by omega), zup_n _ _ (by decide)]
            have hR : zRt x L S (qOp x L (qH x L a) (a + 1)).2 := h.fr s3 (by omega) (F1.1 1 (by decide) (by decide) (by decide)) (F1.1 2 (by decide) (by decide) (by decide))
            obtain ⟨τ, r1, r2, r3, r4⟩ := ih (qOp x L (qH x L a) (a + 1)).2 (qDn (qH x L a) d) (c + 1) p (decide (qH x L a = 122)) S hR b2 (qDn_5 hd c2) hp s6 (by omega)
            refine ⟨τ, r1, r2, F1.tr r3, fun q => ?_⟩
            obtain ⟨t1, t2, t3⟩ := r4 q
            refine ⟨?_, fun i hi => (t2 i (by omega)).trans (s8o i hi), fun i hi => ?_⟩
            · rw [t1]
              show nI (c + 1 + _) = nI (c + (_ + 1))
              congr 1; omega
            · rcases i with _ | i
              · rw [Nat.add_zero, t2 c (by omega), s8]; rfl
              · have := t3 i (Nat.lt_of_succ_lt_succ hi)
                rw [show c + (i + 1) = c + 1 + i from by omega]
                exact this
        · rw [if_pos (bI_0.mpr c2), qI_3 c1 c2]
          exact ⟨σ, rfl, h.1, zIf.rf p σ, fun q => by cases q⟩
def qRs (cs : List qCm) : List qCm := cs.filter (fun c => c.1)
theorem qRs_s {cs : List qCm} {c : qCm} : qRs (cs ++ [c]) = if c.1 = true then qRs cs ++ [c] else qRs cs := by
  unfold qRs
  rw [List.filter_append]
  by_cases h : c.1 = true
  · rw [if_pos h, List.filter_cons_of_pos h]; rfl
  · rw [if_neg h, List.filter_cons_of_neg h]; exact List.append_nil _
theorem qRs_len (cs : List qCm) : (qRs cs).length ≤ cs.length := List.length_filter_le _ _
/-- the class's notes of the commands so far -/
def zDr (σ : am_M) (cs : List qCm) : Prop := (σ 11 1 = nI (qRs cs).length ∧ σ 13 1 = nI (qRs cs).length ∧ ∀ i c, (qRs cs)[i]? = some c → σ 12 i = nI c.2.1 ∧ σ 14 i = c.2.2.getD 0 0) ∧
  ∀ q, q < 6 → (qLp false q cs = none → σ 10 q = 0) ∧ ∀ l, qLp false q cs = some l → σ 10 q = 1 ∧ l.length ≤ 24 ∧ σ 6 q = nI l.length ∧ ∀ i, i < l.length → σ 8 (q * 24 + i) = l.getD i 0
def zCf (σ τ : am_M) : Prop := (∀ b, b ≠ 3 → b ≠ 6 → b ≠ 8 → b ≠ 10 → b ≠ 11 → b ≠ 12 → b ≠ 13 → b ≠ 14 → τ b = σ b) ∧ ∀ j, j ≠ 6 → τ 3 j = σ 3 j
theorem zCf.rf (σ : am_M) : zCf σ σ := ⟨fun _ _ _ _ _ _ _ _ _ => rfl, fun _ _ => rfl⟩
theorem zCf.pos {σ : am_M} {v : Int32} : zCf σ (am_up σ 3 6 v) := ⟨fun b h _ _ _ _ _ _ _ => zup_n _ _ h, fun j h => zup_sn _ h⟩
theorem zCf.tr {σ τ υ : am_M} (h : zCf σ τ) (h1 : zCf τ υ) : zCf σ υ := ⟨fun b a1 a2 a3 a4 a5 a6 a7 a8 => (h1.1 b a1 a2 a3 a4 a5 a6 a7 a8).trans (h.1 b a1 a2 a3 a4 a5 a6 a7 a8), fun j a => (h1.2 j a).trans (h.2 j a)⟩
theorem zCf.up {σ τ : am_M} {b j : Nat} {v : Int32} (h : zCf σ τ) (hb : b = 6 ∨ b = 8 ∨ b = 10 ∨ b = 11 ∨ b = 12 ∨ b = 13 ∨ b = 14) : zCf σ (am_up τ b j v) := ⟨fun a a1 a2 a3 a4 a5 a6 a7 a8 => (zup_n _ _ (by omega)).trans (h.1 a a1 a2 a3 a4 a5 a6 a7 a8), fun i a => by rw [zup_n _ _ (by omega)]; exact h.2 i a⟩
theorem e_Radd {σ : am_M} {k n : Nat} {v : Int32} (hk : am_len (k + 1) = 60) (h : σ k 1 = nI n) (hn : n < 60) : lAdd σ k v = am_up (am_up σ (k + 1) n v) k 1 (nI (n + 1)) := by
  unfold lAdd
  rw [h, if_neg (nI_pos (by omega)), hk, if_neg (nI_ge (a := n) (b := 60) hn (by decide)), nI_1, nI_clamp (by omega)]
theorem zRt.cmd {σ : am_M} {a : Nat} {cs : List qCm} (h : zRt x L σ a) (haL : a ≤ L) (hcs : cs.length ≤ a) (D : zDr σ cs) : zCf σ (pCmd σ).2 ∧ (pCmd σ).2 3 6 = nI (qCmd x L a).2 ∧ ((qCmd x L a).1 = none → (pCmd σ).1 = 0) ∧ ∀ c, (qCmd x L a).1 = some c → ¬ (pCmd σ).1 = 0 ∧ zDr (pCmd σ).2 (cs ++ [c]) := by
  have h60 := h.2.2.1
  have me : am_up σ 3 6 (nI a) = σ := am_up_me h.1
  unfold pCmd qCmd
  rw [h.here]
  by_cases c1 : qH x L a = 35
  · rw [if_pos c1, if_pos c1]
    unfold pRoom
    rw [show σ oR 6 = nI a from h.1, nI_1, zup_ss]
    have haL' : a < L := by
      rcases Nat.lt_or_ge a L with q | q
      · exact q
      · exfalso
        rw [show qH x L a = -1 from if_neg (by omega)] at c1
        revert c1; decide
    have h1 := h.go (b := a + 1) (by omega)
    unfold pRoomA
    by_cases q1 : qIn x L (a + 1) 48 51
    · obtain ⟨v1, v2⟩ := h1.passT q1
      have e1 := qIn_L q1 (by decide)
      rw [if_pos q1, show pPassV (am_up σ oR 6 (nI (a + 1))) 48 51 = 1 from v1, if_neg (show ¬ (1 : Int32) = 0 by decide), show pPass (am_up σ oR 6 (nI (a + 1))) 48 51 = _ from v2, am_up_up]
      have h2 := h.go (b := a + 2) (by omega)
      unfold pRoomB
      by_cases q2 : qIn x L (a + 2) 48 51
      · obtain ⟨w1, w2⟩ := h2.passT q2
        have e2 := qIn_L q2 (by decide)
        rw [if_pos q2, show pPassV (am_up σ 3 6 (nI (a + 1 + 1))) 48 51 = 1 from w1, if_neg (show ¬ (1 : Int32) = 0 by decide), show pPass (am_up σ 3 6 (nI (a + 1 + 1))) 48 51 = _ from w2, am_up_up]
        have h3 := h.go (b := a + 3) (by omega)
        unfold pRoomC
        by_cases q3 : qIn x L (a + 3) 59 59
        · obtain ⟨u1, u2⟩ := h3.passT q3
          have e3 := qIn_L q3 (by decide)
          have h4 := h.go (b := a + 4) (by omega)
          rw [if_pos q3, show pPassV (am_up σ 3 6 (nI (a + 2 + 1))) 59 59 = 1 from u1, if_neg (show ¬ (1 : Int32) = 0 by decide), show pPass (am_up σ 3 6 (nI (a + 2 + 1))) 59 59 = _ from u2, am_up_up]
          obtain ⟨⟨d1, d2, d3⟩, d4⟩ := D
          have rl := qRs_len cs
          have dg1 : pDig (am_up σ 3 6 (nI (a + 3 + 1))) (nI (a + 1)) = qH x L (a + 1) - 48 := h4.dig e1
          obtain ⟨x1, x2, x3⟩ := qDig (lo := 0) (k := 3) (by decide) q1.1 q1.2
          have l1 : lAdd (am_up σ 3 6 (nI (a + 3 + 1))) cR_roomChannels (qH x L (a + 1) - 48) = am_up (am_up (am_up σ 3 6 (nI (a + 3 + 1))) 12 (qRs cs).length (qH x L (a + 1) - 48)) 11 1 (nI ((qRs cs).length + 1)) := e_Radd len_l_roomChannels (by rw [zup_n _ _ (by decide)]; exact d1) (by omega)
          rw [dg1, l1]
          have h5 : zRt x L (am_up (am_up (am_up σ 3 6 (nI (a + 3 + 1))) 12 (qRs cs).length (qH x L (a + 1) - 48)) 11 1 (nI ((qRs cs).length + 1))) (a + 4) := h4.fr (by rw [zup_n _ _ (by decide), zup_n _ _ (by decide), zup_ss]) (by omega) (by rw [zup_n _ _ (by decide), zup_n _ _ (by decide)]) (by rw [zup_n _ _ (by decide), zup_n _ _ (by decide)])
          rw [nI_1, h5.dig e2]
          have l2 : lAdd (am_up (am_up (am_up σ 3 6 (nI (a + 3 + 1))) 12 (qRs cs).length (qH x L (a + 1) - 48)) 11 1 (nI ((qRs cs).length + 1))) cR_roomSizes (qH x L (a + 2) - 48) = am_up (am_up (am_up (am_up (am_up σ 3 6 (nI (a + 3 + 1))) 12 (qRs cs).length (qH x L (a + 1) - 48)) 11 1 (nI ((qRs cs).length + 1))) 14 (qRs cs).length (qH x L (a + 2) - 48)) 13 1 (nI ((qRs cs).length + 1)) := e_Radd len_l_roomSizes (by rw [zup_n _ _ (by decide), zup_n _ _ (by decide), zup_n _ _ (by decide)]; exact d2) (by omega)
          rw [show a + 1 + 1 = a + 2 from rfl, l2]
          generalize hX : am_up (am_up (am_up (am_up (am_up σ 3 6 (nI (a + 3 + 1))) 12 (qRs cs).length (qH x L (a + 1) - 48)) 11 1 (nI ((qRs cs).length + 1))) 14 (qRs cs).length (qH x L (a + 2) - 48)) 13 1 (nI ((qRs cs).length + 1)) = X
          have X11 : X 11 1 = nI ((qRs cs).length + 1) := by rw [← hX, zup_n _ _ (by decide), zup_n _ _ (by decide), zup_ss]
          have X13 : X 13 1 = nI ((qRs cs).length + 1) := by rw [← hX, zup_ss]
          have X12 : X 12 = upd (σ 12) (qRs cs).length (qH x L (a + 1) - 48) := by rw [← hX, zup_n _ _ (by decide), zup_n _ _ (by decide), zup_n _ _ (by decide), zup_s, zup_n _ _ (by decide)]
          have X14 : X 14 = upd (σ 14) (qRs cs).length (qH x L (a + 2) - 48) := by rw [← hX, zup_n _ _ (by decide), zup_s, zup_n _ _ (by decide), zup_n _ _ (by decide), zup_n _ _ (by decide)]
          have Xn : ∀ b, b ≠ 3 → b ≠ 11 → b ≠ 12 → b ≠ 13 → b ≠ 14 → X b = σ b := fun b a1 a2 a3 a4 a5 => by rw [← hX, zup_n _ _ a4, zup_n _ _ a5, zup_n _ _ a2, zup_n _ _ a3, zup_n _ _ a1]
          refine ⟨?_, ?_, fun z => by (cases z), fun c hc => ⟨by show ¬ (1 : Int32) = 0; decide, ?_⟩⟩
          · show zCf σ X
            rw [← hX]
            exact (((zCf.pos.up (by decide)).up (by decide)).up (by decide)).up (by decide)
          · show X 3 6 = nI (a + 4)
            rw [← hX, zup_n _ _ (by decide), zup_n _ _ (by decide), zup_n _ _ (by decide), zup_n _ _ (by decide), zup_ss]
          · cases hc
            show zDr X _
            have rs : qRs (cs ++ [(true, zc (qH x L (a + 1)) - 48, [qH x L (a + 2) - 48])]) = qRs cs ++ [(true, zc (qH x L (a + 1)) - 48, [qH x L (a + 2) - 48])] := by rw [qRs_s]; exact if_pos rfl
            unfold zDr
            rw [rs, List.length_append]
            refine ⟨⟨X11, X13, fun i c hc => ?_⟩, fun q hq => ?_⟩
            · rw [X12, X14]
              by_cases ei : i < (qRs cs).length
              · rw [List.getElem?_append_left ei] at hc
                rw [pk_un (by omega), pk_un (by omega)]
                exact d3 i c hc
              · have ei2 : i = (qRs cs).length := by
                  rcases Nat.lt_or_ge i ((qRs cs).length + 1) with z | z
                  · omega
                  · rw [List.getElem?_eq_none (by rw [List.length_append]; exact z)] at hc; cases hc
                subst ei2
                rw [List.getElem?_append_right (Nat.le_refl _), Nat.sub_self] at hc
                cases hc
                rw [pk_us, pk_us]
                exact ⟨x1, rfl⟩
            · have e : qLp false q (cs ++ [(true, zc (qH x L (a + 1)) - 48, [qH x L (a + 2) - 48])]) = qLp false q cs := by rw [qLp_s]; exact if_neg (fun z => by cases z.1)
              rw [e, Xn 10 (by decide) (by decide) (by decide) (by decide) (by decide), Xn 6 (by decide) (by decide) (by decide) (by decide) (by decide), Xn 8 (by decide) (by decide) (by decide) (by decide) (by decide)]
              exact d4 q hq
        · obtain ⟨u1, u2⟩ := h3.passF q3
          rw [if_neg q3, show pPassV (am_up σ 3 6 (nI (a + 2 + 1))) 59 59 = 0 from u1, if_pos rfl, show pPass (am_up σ 3 6 (nI (a + 2 + 1))) 59 59 = _ from u2]
          exact ⟨zCf.pos, (show am_up σ 3 6 (nI (a + 3)) 3 6 = nI (a + 3) from zup_ss _ _ _ _), fun _ => rfl, fun c hc => by cases hc⟩
      · obtain ⟨w1, w2⟩ := h2.passF q2
        rw [if_neg q2, show pPassV (am_up σ 3 6 (nI (a + 1 + 1))) 48 51 = 0 from w1, if_pos rfl, show pPass (am_up σ 3 6 (nI (a + 1 + 1))) 48 51 = _ from w2]
        exact ⟨zCf.pos, (show am_up σ 3 6 (nI (a + 2)) 3 6 = nI (a + 2) from zup_ss _ _ _ _), fun _ => rfl, fun c hc => by cases hc⟩
    · obtain ⟨v1, v2⟩ := h1.passF q1
      rw [if_neg q1, show pPassV (am_up σ oR 6 (nI (a + 1))) 48 51 = 0 from v1, if_pos rfl, show pPass (am_up σ oR 6 (nI (a + 1))) 48 51 = _ from v2]
      exact ⟨zCf.pos, (show am_up σ 3 6 (nI (a + 1)) 3 6 = nI (a + 1) from zup_ss _ _ _ _), fun _ => rfl, fun c hc => by cases hc⟩
  · rw [if_neg c1, if_neg c1]
    unfold pProg
    rw [show σ oR 6 = nI a from h.1]
    unfold pProgA
    by_cases q1 : qIn x L a 48 53
    · obtain ⟨v1, v2⟩ := h.passT q1
      have e1 := qIn_L q1 (by decide)
      obtain ⟨x1, x2, x3⟩ := qDig (lo := 0) (k := 5) (by decide) q1.1 q1.2
      rw [if_pos q1, v1, if_neg (show ¬ (1 : Int32) = 0 by decide), v2, h.dig e1, x1]
      generalize hp : zc (qH x L a) - 48 = p at x2
      have h1 := h.go (b := a + 1) (by omega)
      unfold pProgB
      by_cases q2 : qIn x L (a + 1) 58 58
      · obtain ⟨w1, w2⟩ := h1.passT q2
        have e2 := qIn_L q2 (by decide)
        rw [if_pos q2, w1, if_neg (show ¬ (1 : Int32) = 0 by decide), w2, am_up_up]
        have b1 : bEmp (am_up σ 3 6 (nI (a + 1 + 1))) cR_drafts (nI p) = am_up (am_up σ 3 6 (nI (a + 1 + 1))) 6 p 0 := rp_R_drafts_len (by omega)
        rw [b1, show rPut (am_up (am_up σ 3 6 (nI (a + 1 + 1))) 6 p 0) cR_drafted (nI p) 1 = am_up (am_up (am_up σ 3 6 (nI (a + 1 + 1))) 6 p 0) 10 p 1 from rp_R_drafted (by omega)]
        generalize hX : am_up (am_up (am_up σ 3 6 (nI (a + 1 + 1))) 6 p 0) 10 p 1 = X
        have FX : zCf σ X := by rw [← hX]; exact (zCf.pos.up (by decide)).up (by decide)
        have X3 : X 3 6 = nI (a + 2) := by rw [← hX, zup_n _ _ (by decide), zup_n _ _ (by decide), zup_ss]
        have X6 : X 6 = upd (σ 6) p 0 := by rw [← hX, zup_n _ _ (by decide), zup_s, zup_n _ _ (by decide)]
        have X8 : X 8 = σ 8 := by rw [← hX, zup_n _ _ (by decide), zup_n _ _ (by decide), zup_n _ _ (by decide)]
        have X10 : X 10 = upd (σ 10) p 1 := by rw [← hX, zup_s, zup_n _ _ (by decide), zup_n _ _ (by decide)]
        have Xn : ∀ b, b ≠ 3 → b ≠ 6 → b ≠ 10 → X b = σ b := fun b a1 a2 a3 => by rw [← hX, zup_n _ _ a3, zup_n _ _ a2, zup_n _ _ a1]
        have h2 : zRt x L X (a + 2) := h.fr X3 (by omega) (Xn 1 (by decide) (by decide) (by decide)) (Xn 2 (by decide) (by decide) (by decide))
        obtain ⟨τ, r1, r2, r3, r4⟩ := zRt.insN 25 (a + 2) 0 0 p false X h2 (by omega) (by decide) (by omega) (by rw [X6, pk_us]; rfl) rfl
        have r1 : pInstr X (nI p) = (bI ((qI x L 25 (a + 2) 0 false).1 = true), τ) := r1
        rw [r1]
        have FT : zCf σ τ := ⟨fun b a1 a2 a3 a4 a5 a6 a7 a8 => (r3.1 b a1 a2 a3).trans (FX.1 b a1 a2 a3 a4 a5 a6 a7 a8), fun j a => (r3.2.1 j a).trans (FX.2 j a)⟩
        by_cases q3 : (qI x L 25 (a + 2) 0 false).1 = true
        · rw [if_pos q3]
          obtain ⟨t1, t2, t3⟩ := r4 q3
          refine ⟨FT, r2, fun z => by (cases z), fun c hc => ⟨by rw [bI_t q3]; show ¬ (1 : Int32) = 0; decide, ?_⟩⟩
          cases hc
          show zDr τ _
          obtain ⟨⟨d1, d2, d3⟩, d4⟩ := D
          have rs : qRs (cs ++ [(false, p, (qI x L 25 (a + 2) 0 false).2.2)]) = qRs cs := by rw [qRs_s]; exact if_neg (fun z => by cases z)
          have Tn : ∀ b, b ≠ 3 → b ≠ 6 → b ≠ 8 → b ≠ 10 → τ b = σ b := fun b a1 a2 a3 a4 => (r3.1 b a1 a2 a3).trans (Xn b a1 a2 a4)
          unfold zDr
          rw [rs, Tn 11 (by decide) (by decide) (by decide) (by decide), Tn 12 (by decide) (by decide) (by decide) (by decide), Tn 13 (by decide) (by decide) (by decide) (by decide), Tn 14 (by decide) (by decide) (by decide) (by decide)]
          refine ⟨⟨d1, d2, d3⟩, fun q hq => ?_⟩
          have t10 : τ 10 = upd (σ 10) p 1 := (r3.1 10 (by decide) (by decide) (by decide)).trans X10
          rw [qLp_s, t10]
          by_cases eq : q = p
          · subst eq
            rw [if_pos ⟨rfl, rfl⟩]
            refine ⟨fun z => by (cases z), fun l hl => ?_⟩
            cases hl
            rw [pk_us]
            refine ⟨rfl, Nat.le_of_lt_succ (qI_wf 25 (a + 2) 0 0 false (fun i => (qI x L 25 (a + 2) 0 false).2.2.getD i 0) (by decide) q3 (fun i _ => by rw [Nat.zero_add])).2.1, ?_, fun i hi => ?_⟩
            · rw [t1, Nat.zero_add]
            · have := t3 i hi
              rw [Nat.zero_add] at this
              exact this
          · rw [if_neg (fun z => eq z.2.symm), pk_un eq]
            refine ⟨(d4 q hq).1, fun l hl => ?_⟩
            obtain ⟨y1, y0, y2, y3⟩ := (d4 q hq).2 l hl
            refine ⟨y1, y0, ?_, fun i hi => ?_⟩
            · rw [r3.2.2.1 q eq, X6, pk_un eq]; exact y2
            · rw [r3.2.2.2 (q * 24 + i) (by omega), X8]; exact y3 i hi
        · rw [if_neg q3]
          exact ⟨FT, r2, fun _ => bI_f q3, fun c hc => by cases hc⟩
      · obtain ⟨w1, w2⟩ := h1.passF q2
        rw [if_neg q2, w1, if_pos rfl, w2]
        exact ⟨zCf.pos, (show am_up σ 3 6 (nI (a + 1)) 3 6 = nI (a + 1) from zup_ss _ _ _ _), fun _ => rfl, fun c hc => by cases hc⟩
    · obtain ⟨v1, v2⟩ := h.passF q1
      rw [if_neg q1, v1, if_pos rfl, v2]
      exact ⟨zCf.rf σ, h.1, fun _ => rfl, fun c hc => by cases hc⟩
end ZDD
