/-! texts: how the class reads them -/
section ZDC
variable {x : Nat → Int32} {L : Nat} {σ : am_M} {a : Nat}
/-- the class's reader at the place a of the text x -/
def zRt (x : Nat → Int32) (L : Nat) (σ : am_M) (a : Nat) : Prop := σ 3 6 = nI a ∧ σ 1 1 = nI L ∧ L ≤ 60 ∧ a ≤ 70 ∧ ∀ j, j < L → σ 2 j = x j
theorem zRt.here (h : zRt x L σ a) : pHere σ = qH x L a := by
  obtain ⟨h1, h2, h3, h4, h5⟩ := h
  unfold pHere lAt qH
  rw [h1, show σ oX 1 = nI L from h2, if_neg (nI_pos (by omega)), show am_len (oX + 1) = 60 from len_l_text]
  by_cases c : a < L
  · rw [if_neg (nI_ge c (by omega)), if_neg (nI_ge (a := a) (b := 60) (by omega) (by decide)), if_pos c, nI_clamp (by omega)]
    exact h5 a c
  · rw [if_pos (nI_le (by omega) (by omega)), if_neg c]
theorem zRt.at1 (h : zRt x L σ a) {b : Nat} (hb : b < L) : lAt σ oX (nI b) = x b := by
  obtain ⟨h1, h2, h3, h4, h5⟩ := h
  exact (la_text h2 hb h3).trans (h5 b hb)
theorem zRt.go (h : zRt x L σ a) {b : Nat} (hb : b ≤ 70) : zRt x L (am_up σ 3 6 (nI b)) b := by
  obtain ⟨h1, h2, h3, h4, h5⟩ := h
  exact ⟨zup_ss _ _ _ _, by rw [zup_n _ _ (by decide)]; exact h2, h3, hb, fun j hj => by rw [zup_n _ _ (by decide)]; exact h5 j hj⟩
theorem zRt.passT (h : zRt x L σ a) {lo hi : Int32} (q : qIn x L a lo hi) : pPassV σ lo hi = 1 ∧ pPass σ lo hi = am_up σ 3 6 (nI (a + 1)) := by
  have e := h.here
  refine ⟨bI_t (by rw [e]; exact ⟨Int32.not_lt.mpr q.1, q.2⟩), ?_⟩
  unfold pPass
  rw [e, if_neg (Int32.not_lt.mpr q.1), if_pos q.2, show σ oR 6 = nI a from h.1, nI_1]
theorem zRt.passF (h : zRt x L σ a) {lo hi : Int32} (q : ¬ qIn x L a lo hi) : pPassV σ lo hi = 0 ∧ pPass σ lo hi = σ := by
  have e := h.here
  refine ⟨bI_f (by rw [e]; exact fun z => q ⟨Int32.not_lt.mp z.1, z.2⟩), ?_⟩
  unfold pPass
  rw [e]
  split
  · rfl
  · rename_i c
    rw [if_neg (fun z => q ⟨Int32.not_lt.mp c, z⟩)]
theorem am_up_me {σ : am_M} {a j : Nat} {v : Int32} (h : σ a j = v) : am_up σ a j v = σ := by
  funext b
  by_cases e : b = a
  · subst e
    rw [zup_s]
    funext i
    by_cases c : i = j
    · subst c; rw [pk_us]; exact h.symm
    · rw [pk_un c]
  · exact zup_n _ _ e
theorem zRt.dig (h : zRt x L σ a) {b : Nat} (hb : b < L) : pDig σ (nI b) = qH x L b - 48 := by
  unfold pDig qH
  rw [h.at1 hb, if_pos hb]
theorem pOpN_0 {n : Nat} {i acc : Int32} (h : σ oR 6 ≤ i) : pOpN σ n i acc = acc := by
  cases n with
  | zero => rfl
  | succ n => exact if_pos h
theorem pOpN_s {n : Nat} {i acc : Int32} (h : ¬ σ oR 6 ≤ i) : pOpN σ (n + 1) i acc = pOpN σ n (i + 1) (10 * acc + pDig σ i) := if_neg h
theorem pOpF_n {b c : Nat} (h : σ oR 6 = nI c) (hb : b ≤ c) (hc : c < 2 ^ 31) : pOpF σ (nI b) = pOpN σ (c - b) (nI b) 0 := by
  unfold pOpF
  rw [h, nI_toInt hc, nI_toInt (by omega)]
  congr 1
  omega
theorem zRt.op0 (h : zRt x L σ a) : pOpF σ (nI a) = 0 := by
  have := h.2.2.2.1
  rw [pOpF_n h.1 (Nat.le_refl a) (by omega)]
  exact pOpN_0 (by rw [show σ oR 6 = nI a from h.1]; exact nI_le (Nat.le_refl _) (by omega))
theorem zRt.op1 (h : zRt x L σ (a + 1)) (hL : a < L) : pOpF σ (nI a) = qH x L a - 48 := by
  have := h.2.2.2.1
  rw [pOpF_n h.1 (Nat.le_succ a) (by omega), show a + 1 - a = 0 + 1 from by omega, pOpN_s (by rw [show σ oR 6 = nI (a + 1) from h.1]; exact nI_ge (Nat.lt_succ_self a) (by omega)), pOpN_0 (by rw [show σ oR 6 = nI (a + 1) from h.1, nI_1]; exact nI_le (Nat.le_refl _) (by omega)), h.dig hL]
  show 10 * (0 : Int32) + _ = _
  rw [show 10 * (0 : Int32) = 0 from by decide, Int32.zero_add]
theorem zRt.op2 (h : zRt x L σ (a + 2)) (hL : a + 1 < L) : pOpF σ (nI a) = 10 * (qH x L a - 48) + (qH x L (a + 1) - 48) := by
  have := h.2.2.2.1
  rw [pOpF_n h.1 (Nat.le_add_right a 2) (by omega), show a + 2 - a = 0 + 1 + 1 from by omega, pOpN_s (by rw [show σ oR 6 = nI (a + 2) from h.1]; exact nI_ge (by omega) (by omega)), pOpN_s (by rw [show σ oR 6 = nI (a + 2) from h.1, nI_1]; exact nI_ge (by omega) (by omega)), pOpN_0 (by rw [show σ oR 6 = nI (a + 2) from h.1, nI_1, nI_1]; exact nI_le (by omega) (by omega)), nI_1, h.dig (by omega), h.dig hL]
  congr 1
  congr 1
  rw [show 10 * (0 : Int32) = 0 from by decide, Int32.zero_add]
theorem pOper_1 {s : Int32} (h : isA 1078 s = true) : pOper σ s = pPassP σ 49 57 := by
  have a : s ∈ am_byt _ := isA_m h
  simp only [am_byt, List.mem_cons, List.not_mem_nil, or_false] at a
  unfold pOper
  rcases a with rfl | rfl | rfl | rfl | rfl
  · rw [if_neg (by decide), if_pos rfl]
  · rw [if_neg (by decide), if_neg (by decide), if_pos rfl]
  · rw [if_neg (by decide), if_neg (by decide), if_neg (by decide), if_neg (by decide), if_neg (by decide), if_neg (by decide), if_neg (by decide), if_neg (by decide), if_neg (by decide), if_pos rfl]
  · rw [if_neg (by decide), if_neg (by decide), if_neg (by decide), if_neg (by decide), if_neg (by decide), if_neg (by decide), if_pos rfl]
  · rw [if_pos rfl]
theorem pOper_2 {s : Int32} (h : isA 1084 s = true) : pOper σ s = pPassP σ 48 53 := by
  have a : s ∈ am_byt _ := isA_m h
  simp only [am_byt, List.mem_cons, List.not_mem_nil, or_false] at a
  unfold pOper
  rcases a with rfl | rfl
  · rw [if_neg (by decide), if_neg (by decide), if_neg (by decide), if_neg (by decide), if_neg (by decide), if_neg (by decide), if_neg (by decide), if_pos rfl]
  · rw [if_neg (by decide), if_neg (by decide), if_neg (by decide), if_neg (by decide), if_neg (by decide), if_neg (by decide), if_neg (by decide), if_neg (by decide), if_pos rfl]
theorem pOper_3 {s : Int32} (h : isA 1086 s = true) (h1 : s ≠ 63) : pOper σ s = pPassP σ 48 51 := by
  have a : s ∈ am_byt _ := isA_m h
  simp only [am_byt, List.mem_cons, List.not_mem_nil, or_false] at a
  unfold pOper
  rcases a with rfl | rfl | rfl
  · rw [if_neg (by decide), if_neg (by decide), if_neg (by decide), if_neg (by decide), if_pos rfl]
  · rw [if_neg (by decide), if_neg (by decide), if_neg (by decide), if_pos rfl]
  · exact absurd rfl h1
theorem pOper_4 : pOper σ 63 = pPass2 σ 48 51 := by
  unfold pOper
  rw [if_neg (by decide), if_neg (by decide), if_neg (by decide), if_neg (by decide), if_neg (by decide), if_pos rfl]
theorem pOper_0 {s : Int32} (h1 : ¬ isA 1078 s = true) (h2 : ¬ isA 1084 s = true) (h3 : ¬ isA 1086 s = true) : pOper σ s = (1, σ) := by
  have n : ∀ v : Int32, (isA 1078 v = true ∨ isA 1084 v = true ∨ isA 1086 v = true) → ¬ s = v := fun v hv e => by
    subst e
    rcases hv with z | z | z
    · exact h1 z
    · exact h2 z
    · exact h3 z
  unfold pOper
  rw [if_neg (n 33 (by decide)), if_neg (n 43 (by decide)), if_neg (n 45 (by decide)), if_neg (n 60 (by decide)), if_neg (n 62 (by decide)), if_neg (n 63 (by decide)), if_neg (n 91 (by decide)), if_neg (n 94 (by decide)), if_neg (n 112 (by decide)), if_neg (n 119 (by decide))]
/-- an operand, read by the class -/
theorem zRt.oper (h : zRt x L σ a) (haL : a ≤ L) (s : Int32) : ((qOp x L s a).1 = none → (pOper σ s).1 = 0) ∧ (pOper σ s).2 = am_up σ 3 6 (nI (qOp x L s a).2) ∧ ∀ o, (qOp x L s a).1 = some o → (pOper σ s).1 = 1 ∧ pOpF (pOper σ s).2 (nI a) = o := by
  have me : am_up σ 3 6 (nI a) = σ := am_up_me h.1
  have h60 := h.2.2.1
  have one : ∀ lo hi : Int32, 0 ≤ lo → pOper σ s = pPassP σ lo hi → qOp x L s a = (if qIn x L a lo hi then (some (qH x L a - 48), a + 1) else (none, a)) → ((qOp x L s a).1 = none → (pOper σ s).1 = 0) ∧ (pOper σ s).2 = am_up σ 3 6 (nI (qOp x L s a).2) ∧ ∀ o, (qOp x L s a).1 = some o → (pOper σ s).1 = 1 ∧ pOpF (pOper σ s).2 (nI a) = o := by
    intro lo hi h0 e1 e2
    rw [e1, e2]
    unfold pPassP
    by_cases q : qIn x L a lo hi
    · obtain ⟨v1, v2⟩ := h.passT q
      rw [if_pos q, v1, v2]
      refine ⟨fun z => by (cases z), rfl, fun o ho => ⟨rfl, ?_⟩⟩
      cases ho
      exact (h.go (b := a + 1) (by omega)).op1 (qIn_L q h0)
    · obtain ⟨v1, v2⟩ := h.passF q
      rw [if_neg q, v1, v2]
      exact ⟨fun _ => rfl, me.symm, fun o ho => by cases ho⟩
  by_cases c1 : isA 1078 s = true
  · exact one 49 57 (by decide) (pOper_1 c1) (by unfold qOp; rw [if_pos c1])
  · by_cases c2 : isA 1084 s = true
    · exact one 48 53 (by decide) (pOper_2 c2) (by unfold qOp; rw [if_neg c1, if_pos c2])
    · by_cases c3 : isA 1086 s = true
      · by_cases c4 : s = 63
        · subst c4
          have eq : qOp x L 63 a = (if qIn x L a 48 51 then (if qIn x L (a + 1) 48 51 then (some (10 * (qH x L a - 48) + (qH x L (a + 1) - 48)), a + 2) else (none, a + 1)) else (none, a)) := by
            unfold qOp
            rw [if_neg c1, if_neg c2, if_pos c3, if_pos rfl]
          rw [pOper_4, eq]
          unfold pPass2
          by_cases q : qIn x L a 48 51
          · obtain ⟨v1, v2⟩ := h.passT q
            have h1 := h.go (b := a + 1) (by omega)
            rw [if_pos q, v1, if_neg (show ¬ (1 : Int32) = 0 by decide), v2]
            unfold pPassP
            by_cases q1 : qIn x L (a + 1) 48 51
            · obtain ⟨w1, w2⟩ := h1.passT q1
              rw [if_pos q1, w1, w2, am_up_up]
              refine ⟨fun z => by (cases z), rfl, fun o ho => ⟨rfl, ?_⟩⟩
              cases ho
              exact (h.go (b := a + 2) (by omega)).op2 (qIn_L q1 (by decide))
            · obtain ⟨w1, w2⟩ := h1.passF q1
              rw [if_neg q1, w1, w2]
              exact ⟨fun _ => rfl, rfl, fun o ho => by cases ho⟩
          · obtain ⟨v1, v2⟩ := h.passF q
            rw [if_neg q, v1, if_pos rfl, v2]
            exact ⟨fun _ => rfl, me.symm, fun o ho => by cases ho⟩
        · exact one 48 51 (by decide) (pOper_3 c3 c4) (by unfold qOp; rw [if_neg c1, if_neg c2, if_pos c3, if_neg c4])
      · have eq : qOp x L s a = (some 0, a) := by
          unfold qOp
          rw [if_neg c1, if_neg c2, if_neg c3]
        rw [pOper_0 c1 c2 c3, eq]
        refine ⟨fun z => by (cases z), me.symm, fun o ho => ⟨rfl, ?_⟩⟩
        cases ho
        exact h.op0
theorem isA_63 {s : Int32} (h : isA 1063 s = true) : s ∈ am_byt 63 := by
  have a := isA_m h
  simp only [Nat.reduceSub] at a
  exact a
theorem pMay_q : ∀ s, s ∈ am_byt 63 → ∀ d, d < 6 → ∀ z : Bool, pMay s (nI d) (bI (z = true)) = bI (qMay s d z = true) := by decide +kernel
theorem pMay_n {s o b : Int32} (h : ¬ isA 1063 s = true) : pMay s o b = 0 := by
  have n : ∀ v : Int32, isA 1063 v = true → ¬ s = v := fun v hv e => h (by rw [e]; exact hv)
  unfold pMay
  rw [if_neg (n 33 (by decide)), if_neg (n 40 (by decide)), if_neg (n 41 (by decide)), if_neg (n 43 (by decide)), if_neg (n 45 (by decide)), if_neg (n 60 (by decide)), if_neg (n 62 (by decide)), if_neg (n 63 (by decide)), if_neg (n 91 (by decide)), if_neg (n 94 (by decide)), if_neg (n 112 (by decide)), if_neg (n 119 (by decide)), if_neg (n 120 (by decide)), if_neg (n 121 (by decide)), if_neg (n 122 (by decide)), if_neg (n 123 (by decide))]
theorem pMay_e {s : Int32} {d : Nat} {z : Bool} (hd : d ≤ 5) : pMay s (nI d) (bI (z = true)) = bI (qMay s d z = true) := by
  by_cases c : isA 1063 s = true
  · exact pMay_q s (isA_63 c) d (by omega) z
  · rw [pMay_n c, bI_f]
    intro q
    exact c (qMay_e q).1
theorem pDop_q : ∀ s, s ∈ am_byt 63 → ∀ d, d < 6 → ∀ z : Bool, qMay s d z = true → nI d + pDop s = nI (qDn s d) := by decide +kernel
end ZDC
