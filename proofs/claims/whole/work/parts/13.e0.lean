/-! texts: the class's whole reading, its check and its writing -/
section ZDE
variable {x : Nat → Int32} {L : Nat}
/-- only the reader's cells differ -/
def zCg (σ τ : am_M) : Prop := ∀ b, b < 3 ∨ 14 < b → τ b = σ b
theorem zCf.g {σ τ : am_M} (h : zCf σ τ) : zCg σ τ := fun b hb => h.1 b (by omega) (by omega) (by omega) (by omega) (by omega) (by omega) (by omega) (by omega)
theorem zDr.fr {σ τ : am_M} {cs : List qCm} (h : zDr σ cs) (e : ∀ b, 4 ≤ b → b ≤ 14 → τ b = σ b) : zDr τ cs := by
  unfold zDr at h ⊢
  rw [e 11 (by decide) (by decide), e 13 (by decide) (by decide), e 12 (by decide) (by decide), e 14 (by decide) (by decide), e 10 (by decide) (by decide), e 6 (by decide) (by decide), e 8 (by decide) (by decide)]
  exact h
theorem zRt.readN : ∀ (m a : Nat) (cs : List qCm) (σ : am_M), zRt x L σ a → a ≤ L → cs.length ≤ a → zDr σ cs → σ 3 5 = nI cs.length → cs.length + m = 61 → ∃ τ, pReadN m σ = (if (qRun x L m a cs).1 = true then -1 else nI (qRun x L m a cs).2.1, τ) ∧ zCg σ τ ∧ ((qRun x L m a cs).1 = true → τ 3 5 = nI (qRun x L m a cs).2.2.length ∧ zDr τ (qRun x L m a cs).2.2 ∧ (qRun x L m a cs).2.2.length ≤ 60) := by
  intro m
  induction m with
  | zero => intro a cs σ h haL hc _ _ e; have := h.2.2.1; omega
  | succ m ih =>
    intro a cs σ h haL hc D h5 e
    have h60 := h.2.2.1
    have eN : pReadN (m + 1) σ = if 60 ≤ σ oR 5 then (-1, σ) else if ¬ σ oR 5 ≤ 0 ∧ ¬ σ oR 6 < lSize σ oX then (-1, σ) else if (pCmd σ).1 = 0 then ((pCmd σ).2 oR 6, (pCmd σ).2) else pReadN m (am_up (pCmd σ).2 oR 5 ((pCmd σ).2 oR 5 + 1)) := rfl
    rw [eN, show σ oR 5 = nI cs.length from h5, show σ oR 6 = nI a from h.1, show lSize σ oX = nI L from h.2.1]
    have e1 : (¬ nI cs.length ≤ 0 ∧ ¬ nI a < nI L) ↔ (cs ≠ [] ∧ ¬ a < L) := by
      refine and_congr ⟨fun q z => q (by rw [z]; decide), fun q => ?_⟩ (not_congr (nI_ltI (by omega) (by omega)))
      have l0 : 0 < cs.length := List.length_pos_iff.mpr q
      exact nI_nle l0 (by omega)
    by_cases c0 : 60 ≤ cs.length
    · have c1 : cs ≠ [] ∧ ¬ a < L := ⟨fun z => by rw [z] at c0; exact absurd c0 (by decide), by omega⟩
      rw [if_pos (show (60 : Int32) ≤ nI cs.length from nI_le (a := 60) c0 (by omega)), qRun_1 c1, if_pos rfl]
      exact ⟨σ, rfl, fun _ _ => rfl, fun _ => ⟨h5, D, by show cs.length ≤ 60; omega⟩⟩
    · rw [if_neg (show ¬ (60 : Int32) ≤ nI cs.length from nI_ge (b := 60) (by omega) (by decide))]
      by_cases c1 : cs ≠ [] ∧ ¬ a < L
      · rw [if_pos (e1.mpr c1), qRun_1 c1, if_pos rfl]
        exact ⟨σ, rfl, fun _ _ => rfl, fun _ => ⟨h5, D, by show cs.length ≤ 60; omega⟩⟩
      · rw [if_neg (fun q => c1 (e1.mp q))]
        obtain ⟨F, P, N, Sx⟩ := h.cmd haL hc D
        cases hq : (qCmd x L a).1 with
        | none =>
          rw [if_pos (N hq), qRun_2 c1 hq, if_neg (show ¬ (false, (qCmd x L a).2, cs).1 = true from Bool.false_ne_true)]
          exact ⟨(pCmd σ).2, by rw [show (pCmd σ).2 oR 6 = _ from P], F.g, fun q => by cases q⟩
        | some c =>
          obtain ⟨n0, D1⟩ := Sx c hq
          obtain ⟨_, g1, g2⟩ := qCmd_e hq
          rw [if_neg n0, qRun_3 c1 hq]
          have s5 : (pCmd σ).2 3 5 = nI cs.length := (F.2 5 (by decide)).trans h5
          rw [show (pCmd σ).2 oR 5 = nI cs.length from s5, nI_1]
          have R1 : zRt x L (am_up (pCmd σ).2 oR 5 (nI (cs.length + 1))) (qCmd x L a).2 := h.fr (by rw [zup_sn _ (by decide)]; exact P) (by omega) (by rw [zup_n _ _ (by decide)]; exact F.g 1 (by decide)) (by rw [zup_n _ _ (by decide)]; exact F.g 2 (by decide))
          have D2 : zDr (am_up (pCmd σ).2 oR 5 (nI (cs.length + 1))) (cs ++ [c]) := D1.fr (fun b h1 h2 => zup_n _ _ (by show b ≠ 3; omega))
          have l1 : (cs ++ [c]).length = cs.length + 1 := by rw [List.length_append]; rfl
          obtain ⟨τ, t1, t2, t3⟩ := ih (qCmd x L a).2 (cs ++ [c]) _ R1 g2 (by rw [l1]; omega) D2 (by rw [l1]; exact zup_ss _ _ _ _) (by rw [l1]; omega)
          refine ⟨τ, t1, fun b hb => (t2 b hb).trans ((zup_n _ _ (by show b ≠ 3; omega)).trans (F.g b hb)), t3⟩
theorem zRead {σ : am_M} (h1 : σ 1 1 = nI L) (hL : L ≤ 60) (hx : ∀ j, j < L → σ 2 j = x j) : ∃ τ, pRead σ = (if (qRun x L 61 0 []).1 = true then -1 else nI (qRun x L 61 0 []).2.1, τ) ∧ zCg σ τ ∧ ((qRun x L 61 0 []).1 = true → τ 3 5 = nI (qRun x L 61 0 []).2.2.length ∧ zDr τ (qRun x L 61 0 []).2.2 ∧ (qRun x L 61 0 []).2.2.length ≤ 60) := by
  have eI : pInit σ = am_up (am_up (am_up (am_up (am_ua σ 10 (fun j => if j < am_len 10 then 0 else σ 10 j)) 11 1 0) 13 1 0) 3 6 0) 3 5 0 := rfl
  have Fn : ∀ b, b ≠ 3 → b ≠ 10 → b ≠ 11 → b ≠ 13 → pInit σ b = σ b := fun b a1 a2 a3 a4 => by rw [eI, zup_n _ _ a1, zup_n _ _ a1, zup_n _ _ a4, zup_n _ _ a3, am_ua_n _ _ a2]
  have R0 : zRt x L (pInit σ) 0 := by
    refine ⟨by rw [eI, zup_sn _ (by decide), zup_ss]; rfl, by rw [Fn 1 (by decide) (by decide) (by decide) (by decide)]; exact h1, hL, by decide, fun j hj => ?_⟩
    rw [Fn 2 (by decide) (by decide) (by decide) (by decide)]; exact hx j hj
  have D0 : zDr (pInit σ) [] := by
    refine ⟨⟨?_, ?_, fun i c hc => by cases hc⟩, fun q hq => ⟨fun _ => ?_, fun l hl => by cases hl⟩⟩
    · rw [eI, zup_n _ _ (by decide), zup_n _ _ (by decide), zup_n _ _ (by decide), zup_ss]; rfl
    · rw [eI, zup_n _ _ (by decide), zup_n _ _ (by decide), zup_ss]; rfl
    · rw [eI, zup_n _ _ (by decide), zup_n _ _ (by decide), zup_n _ _ (by decide), zup_n _ _ (by decide), am_ua_s]
      exact if_pos (by rw [len_R_drafted]; exact hq)
  obtain ⟨τ, t1, t2, t3⟩ := zRt.readN 61 0 [] (pInit σ) R0 (Nat.zero_le _) (Nat.le_refl _) D0 (by rw [eI, zup_ss]; rfl) rfl
  exact ⟨τ, t1, fun b hb => (t2 b hb).trans (Fn b (by omega) (by omega) (by omega) (by omega)), t3⟩
/-- may the rooms not be set now -/
def qBar (lv : Nat) (sz : Nat → Int32) (cs : List qCm) : Prop := ∃ c ∈ cs, c.1 = true ∧ (0 < lv ∨ ¬ sz c.2.1 ≤ c.2.2.getD 0 0)
theorem qBar_s {lv : Nat} {sz : Nat → Int32} {cs : List qCm} {c : qCm} : qBar lv sz (cs ++ [c]) ↔ qBar lv sz cs ∨ (c.1 = true ∧ (0 < lv ∨ ¬ sz c.2.1 ≤ c.2.2.getD 0 0)) := by
  refine ⟨fun ⟨d, h1, h2⟩ => ?_, fun h => ?_⟩
  · rcases List.mem_append.mp h1 with z | z
    · exact Or.inl ⟨d, z, h2⟩
    · rw [List.mem_singleton.mp z] at h2; exact Or.inr h2
  · rcases h with ⟨d, h1, h2⟩ | h2
    · exact ⟨d, List.mem_append.mpr (Or.inl h1), h2⟩
    · exact ⟨c, List.mem_append.mpr (Or.inr (List.mem_singleton.mpr rfl)), h2⟩
theorem qRs_g {cs : List qCm} {c : qCm} {i : Nat} (h : (qRs cs)[i]? = some c) : c ∈ cs ∧ c.1 = true := by
  have := List.mem_of_getElem? h
  exact ⟨(List.mem_filter.mp this).1, (List.mem_filter.mp this).2⟩
theorem pSuitN_e {σ : am_M} {cs : List qCm} (D : zDr σ cs) (hk : ∀ c ∈ cs, qOkc c) (h60 : cs.length ≤ 60) : ∀ m n, n + m = (qRs cs).length → (pSuitN σ m (nI n) = 1 ↔ ∀ i c, n ≤ i → (qRs cs)[i]? = some c → σ 85 c.2.1 ≤ c.2.2.getD 0 0) ∧ (pSuitN σ m (nI n) = 0 ∨ pSuitN σ m (nI n) = 1) := by
  obtain ⟨⟨d1, d2, d3⟩, _⟩ := D
  have rl := qRs_len cs
  intro m
  induction m with
  | zero =>
    intro n e
    refine ⟨⟨fun _ i c hi hc => ?_, fun _ => rfl⟩, Or.inr rfl⟩
    rw [List.getElem?_eq_none (by omega)] at hc
    cases hc
  | succ m ih =>
    intro n e
    obtain ⟨i1, i2⟩ := ih (n + 1) (by omega)
    have hn : n < (qRs cs).length := by omega
    obtain ⟨c, hc⟩ : ∃ c, (qRs cs)[n]? = some c := ⟨_, List.getElem?_eq_getElem hn⟩
    obtain ⟨k1, k2⟩ := d3 n c hc
    obtain ⟨m1, m2⟩ := qRs_g hc
    have c4 := ((hk c m1).1 m2).1
    have eN : pSuitN σ (m + 1) (nI n) = if rAt σ cC_sizes (lAt σ cR_roomChannels (nI n)) ≤ lAt σ cR_roomSizes (nI n) then pSuitN σ m (nI n + 1) else 0 := rfl
    rw [eN, show lAt σ cR_roomChannels (nI n) = nI c.2.1 from (la_roomChannels d1 hn (by omega)).trans k1, show lAt σ cR_roomSizes (nI n) = c.2.2.getD 0 0 from (la_roomSizes d2 hn (by omega)).trans k2, show rAt σ cC_sizes (nI c.2.1) = σ 85 c.2.1 from ra_C_sizes c4, nI_1]
    by_cases q : σ 85 c.2.1 ≤ c.2.2.getD 0 0
    · rw [if_pos q]
      refine ⟨i1.trans ⟨fun z i d hi hd => ?_, fun z i d hi hd => z i d (by omega) hd⟩, i2⟩
      by_cases ei : i = n
      · subst ei
        rw [hc] at hd
        cases hd
        exact q
      · exact z i d (by omega) hd
    · rw [if_neg q]
      exact ⟨⟨fun z => absurd z (by decide), fun z => absurd (z n c (Nat.le_refl _) hc) q⟩, Or.inl rfl⟩
theorem pSuit_e {σ : am_M} {cs : List qCm} {lv : Nat} (D : zDr σ cs) (hk : ∀ c ∈ cs, qOkc c) (h60 : cs.length ≤ 60) (hl : wLive σ = nI lv) (hlv : lv < 2 ^ 31) : (qBar lv (σ 85) cs → pSuit σ = 0) ∧ (¬ qBar lv (σ 85) cs → pSuit σ = 1) := by
  have rl := qRs_len cs
  obtain ⟨s1, s2⟩ := pSuitN_e D hk h60 (qRs cs).length 0 (Nat.zero_add _)
  unfold pSuit
  rw [show lSize σ cR_roomChannels = nI (qRs cs).length from D.1.1, hl]
  have zl : (nI (qRs cs).length).toNatClampNeg = (qRs cs).length := nI_clamp (by omega)
  rw [zl]
  have a0 : (¬ nI (qRs cs).length ≤ 0 ∧ ¬ nI lv ≤ 0) ↔ (0 < (qRs cs).length ∧ 0 < lv) := by
    refine and_congr ⟨fun z => ?_, fun z => nI_nle z (by omega)⟩ ⟨fun z => ?_, fun z => nI_nle z hlv⟩
    · rcases Nat.eq_zero_or_pos (qRs cs).length with e | e
      · exact absurd (by rw [e]; decide) z
      · exact e
    · rcases Nat.eq_zero_or_pos lv with e | e
      · exact absurd (by rw [e]; decide) z
      · exact e
  have mem : ∀ c, c ∈ cs → c.1 = true → ∃ i, (qRs cs)[i]? = some c := fun c h1 h2 => by
    have : c ∈ qRs cs := List.mem_filter.mpr ⟨h1, h2⟩
    exact List.getElem?_of_mem this
  refine ⟨fun ⟨c, h1, h2, h3⟩ => ?_, fun nb => ?_⟩
  · obtain ⟨i, hi⟩ := mem c h1 h2
    have l0 : 0 < (qRs cs).length := by
      rcases Nat.eq_zero_or_pos (qRs cs).length with e | e
      · rw [List.getElem?_eq_none (by omega)] at hi; cases hi
      · exact e
    split
    · rfl
    · rename_i q
      rcases s2 with z | z
      · exact z
      · exfalso
        rcases h3 with h3 | h3
        · exact q (a0.mpr ⟨l0, h3⟩)
        · exact h3 (s1.mp z i c (Nat.zero_le _) hi)
  · split
    · rename_i q
      obtain ⟨l0, l1⟩ := a0.mp q
      obtain ⟨c, hc⟩ : ∃ c, (qRs cs)[0]? = some c := ⟨_, List.getElem?_eq_getElem l0⟩
      obtain ⟨m1, m2⟩ := qRs_g hc
      exact absurd ⟨c, m1, m2, Or.inl l1⟩ nb
    · refine s1.mpr (fun i c _ hc => ?_)
      obtain ⟨m1, m2⟩ := qRs_g hc
      exact Classical.byContradiction fun z => nb ⟨c, m1, m2, Or.inr z⟩
theorem pWr1_e {σ : am_M} {cs : List qCm} (D : zDr σ cs) : ∀ n, n ≤ 6 → (∀ b, b ≠ 18 → b ≠ 20 → pWr1 σ n b = σ b) ∧ ∀ q, q < 6 → ((n ≤ q ∨ qLp false q cs = none) → pWr1 σ n 18 q = σ 18 q ∧ ∀ i, i < 24 → pWr1 σ n 20 (q * 24 + i) = σ 20 (q * 24 + i)) ∧ (q < n → ∀ l, qLp false q cs = some l → pWr1 σ n 18 q = nI l.length ∧ ∀ i, i < l.length → pWr1 σ n 20 (q * 24 + i) = l.getD i 0) := by
  intro n
  induction n with
  | zero => intro _; exact ⟨fun _ _ _ => rfl, fun q _ => ⟨fun _ => ⟨rfl, fun _ _ => rfl⟩, fun z => absurd z (Nat.not_lt_zero q)⟩⟩
  | succ n ih =>
    intro hn
    obtain ⟨F, P⟩ := ih (by omega)
    have eN : pWr1 σ (n + 1) = if rAt (pWr1 σ n) cR_drafted (nI n) = 1 then bCpL (pWr1 σ n) cW_programs (nI n) cR_drafts (nI n) else pWr1 σ n := rfl
    have e10 : rAt (pWr1 σ n) cR_drafted (nI n) = σ 10 n := (ra_R_drafted (by omega)).trans (by rw [F 10 (by decide) (by decide)])
    obtain ⟨d1, d2⟩ := D.2 n (by omega)
    cases hl : qLp false n cs with
    | none =>
      rw [eN, e10, d1 hl, if_neg (by decide)]
      refine ⟨F, fun q hq => ⟨fun z => (P q hq).1 (z.imp (fun y => by omega) id), fun z l h2 => ?_⟩⟩
      by_cases e : q = n
      · subst e; rw [hl] at h2; cases h2
      · exact (P q hq).2 (by omega) l h2
    | some l =>
      obtain ⟨y1, y0, y2, y3⟩ := d2 l hl
      have eC : bCpL (pWr1 σ n) cW_programs (nI n) cR_drafts (nI n) = yCp (pWr1 σ n) 18 20 n 8 n l.length := e_CpL (b := 16) (q := 4) len_W_programs_len len_W_programs_cel len_R_drafts_len len_R_drafts_cel (by omega) (by omega) (by omega) (by omega) (by decide) (by decide) (by decide) (by decide) (by decide) (by rw [F 6 (by decide) (by decide)]; exact y2) y0
      rw [eN, e10, y1, if_pos rfl, eC]
      refine ⟨fun b h1 h2 => by rw [yCp_n h1 h2, F b h1 h2], fun q hq => ⟨fun z => ?_, fun z l2 h2 => ?_⟩⟩
      · have ne : q ≠ n := fun e => by
          subst e
          rcases z with z | z
          · omega
          · rw [hl] at z; cases z
        obtain ⟨p1, p2⟩ := (P q hq).1 (z.imp (fun y => by omega) id)
        refine ⟨by rw [yCp_lo ne (by decide)]; exact p1, fun i hi => ?_⟩
        rw [yCp_c (by decide), if_neg (by omega)]
        exact p2 i hi
      · by_cases e : q = n
        · subst e
          rw [hl] at h2
          cases h2
          refine ⟨yCp_l _, fun i hi => ?_⟩
          rw [yCp_c (by decide), if_pos (by omega), F 8 (by decide) (by decide), show q * 24 + i - q * 24 = i from by omega]
          exact y3 i hi
        · obtain ⟨p1, p2⟩ := (P q hq).2 (by omega) l2 h2
          refine ⟨by rw [yCp_lo e (by decide)]; exact p1, fun i hi => ?_⟩
          obtain ⟨_, w0, _⟩ := (D.2 q hq).2 l2 h2
          rw [yCp_c (by decide), if_neg (by omega)]
          exact p2 i hi
theorem qLp_r {b : Nat} (cs : List qCm) : qLp true b (qRs cs) = qLp true b cs := by
  have g : ∀ (cs : List qCm) (acc : Option (List Int32)), (cs.filter (fun c => c.1)).foldl (fun acc c => if c.1 = true ∧ c.2.1 = b then some c.2.2 else acc) acc = cs.foldl (fun acc c => if c.1 = true ∧ c.2.1 = b then some c.2.2 else acc) acc := by
    intro cs
    induction cs with
    | nil => intro acc; rfl
    | cons c r ih =>
      intro acc
      by_cases h : c.1 = true
      · rw [List.filter_cons_of_pos h]
        exact ih _
      · rw [List.filter_cons_of_neg h]
        show _ = List.foldl _ (if c.1 = true ∧ c.2.1 = b then some c.2.2 else acc) r
        rw [if_neg (fun z => h z.1)]
        exact ih acc
  exact g cs none
theorem pWr2_e {σ ω : am_M} {cs : List qCm} (D : zDr σ cs) (hk : ∀ c ∈ cs, qOkc c) (h60 : cs.length ≤ 60) (e11 : ω 11 = σ 11) (e12 : ω 12 = σ 12) (e13 : ω 13 = σ 13) (e14 : ω 14 = σ 14) : ∀ n, n ≤ (qRs cs).length → (∀ b, b ≠ 83 → pWr2 ω n b = ω b) ∧ ∀ c, c < 4 → (qLp true c ((qRs cs).take n) = none → pWr2 ω n 83 c = ω 83 c) ∧ ∀ l, qLp true c ((qRs cs).take n) = some l → pWr2 ω n 83 c = l.getD 0 0 := by
  obtain ⟨⟨d1, d2, d3⟩, _⟩ := D
  have rl := qRs_len cs
  intro n
  induction n with
  | zero => intro _; exact ⟨fun _ _ => rfl, fun c _ => ⟨fun _ => rfl, fun l h => by cases h⟩⟩
  | succ n ih =>
    intro hn
    obtain ⟨F, P⟩ := ih (by omega)
    obtain ⟨c, hc⟩ : ∃ c, (qRs cs)[n]? = some c := ⟨_, List.getElem?_eq_getElem (by omega)⟩
    obtain ⟨k1, k2⟩ := d3 n c hc
    obtain ⟨m1, m2⟩ := qRs_g hc
    have c4 := ((hk c m1).1 m2).1
    have a1 : lAt (pWr2 ω n) cR_roomChannels (nI n) = nI c.2.1 := (la_roomChannels (n := (qRs cs).length) (by rw [F 11 (by decide), e11]; exact d1) (by omega) (by omega)).trans (by rw [F 12 (by decide), e12]; exact k1)
    have a2 : lAt (pWr2 ω n) cR_roomSizes (nI n) = c.2.2.getD 0 0 := (la_roomSizes (n := (qRs cs).length) (by rw [F 13 (by decide), e13]; exact d2) (by omega) (by omega)).trans (by rw [F 14 (by decide), e14]; exact k2)
    have eN : pWr2 ω (n + 1) = am_up (pWr2 ω n) 83 c.2.1 (c.2.2.getD 0 0) := by
      show rPut (pWr2 ω n) cC_rooms (lAt (pWr2 ω n) cR_roomChannels (nI n)) (lAt (pWr2 ω n) cR_roomSizes (nI n)) = _
      rw [a1, a2]
      exact rPut_i len_C_rooms c4 (by decide)
    have et : (qRs cs).take (n + 1) = (qRs cs).take n ++ [c] := by rw [List.take_succ, hc]; rfl
    rw [eN, et]
    refine ⟨fun b hb => by rw [zup_n _ _ hb, F b hb], fun q hq => ?_⟩
    rw [qLp_s]
    by_cases e : c.1 = true ∧ c.2.1 = q
    · rw [if_pos e, ← e.2]
      refine ⟨fun z => by (cases z), fun l hl => ?_⟩
      cases hl
      exact zup_ss _ _ _ _
    · rw [if_neg e, zup_sn _ (fun z => e ⟨m2, z.symm⟩)]
      exact P q hq
/-- what the class's writing gives -/
theorem pWrite_e {σ : am_M} {cs : List qCm} (D : zDr σ cs) (hk : ∀ c ∈ cs, qOkc c) (h60 : cs.length ≤ 60) : (∀ b, b ≠ 18 → b ≠ 20 → b ≠ 83 → pWrite σ b = σ b) ∧ (∀ q, q < 6 → (qLp false q cs = none → pWrite σ 18 q = σ 18 q ∧ ∀ i, i < 24 → pWrite σ 20 (q * 24 + i) = σ 20 (q * 24 + i)) ∧ ∀ l, qLp false q cs = some l → pWrite σ 18 q = nI l.length ∧ ∀ i, i < l.length → pWrite σ 20 (q * 24 + i) = l.getD i 0) ∧ ∀ c, c < 4 → (qLp true c cs = none → pWrite σ 83 c = σ 83 c) ∧ ∀ l, qLp true c cs = some l → pWrite σ 83 c = l.getD 0 0 := by
  obtain ⟨F, P⟩ := pWr1_e D 6 (Nat.le_refl 6)
  have rl := qRs_len cs
  have eW : pWrite σ = pWr2 (pWr1 σ 6) (lSize (pWr1 σ 6) cR_roomChannels).toNatClampNeg := rfl
  rw [eW]
  clear eW
  generalize pWr1 σ 6 = W at F P
  have z : W 11 1 = nI (qRs cs).length := by rw [F 11 (by decide) (by decide)]; exact D.1.1
  have en : (lSize W cR_roomChannels).toNatClampNeg = (qRs cs).length := by
    unfold lSize
    rw [show W cR_roomChannels 1 = nI (qRs cs).length from z]
    exact nI_clamp (by omega)
  obtain ⟨G, Q⟩ := pWr2_e (ω := W) D hk h60 (F 11 (by decide) (by decide)) (F 12 (by decide) (by decide)) (F 13 (by decide) (by decide)) (F 14 (by decide) (by decide)) (qRs cs).length (Nat.le_refl _)
  rw [en]
  refine ⟨fun b h1 h2 h3 => (G b h3).trans (F b h1 h2), fun q hq => ⟨fun z => ?_, fun l hl => ?_⟩, fun c hc => ?_⟩
  · obtain ⟨p1, p2⟩ := (P q hq).1 (Or.inr z)
    rw [G 18 (by decide), G 20 (by decide)]
    exact ⟨p1, p2⟩
  · rw [G 18 (by decide), G 20 (by decide)]
    exact (P q hq).2 hq l hl
  · have q := Q c hc
    rw [List.take_length, qLp_r, F 83 (by decide) (by decide)] at q
    exact q
end ZDE
