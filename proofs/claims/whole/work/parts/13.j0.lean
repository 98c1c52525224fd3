/-! execute: both sides -/
section ZDJ
variable {R : am_R} {σ : am_M}
theorem zIdle.prog {N : Nat} {k k1 : am_M} (h : zIdle N k) (e : ∀ b, 15 ≤ b ∧ b ≤ 100 → b ≠ 18 → b ≠ 20 → b ≠ 83 → k1 b = k b) (v13 : zV13 (k1 18) (k1 20)) (v83 : ∀ c, c < 4 → zN (k1 83 c) 3) : zIdle N k1 := by
  have z : zIdle N (am_ua (am_ua (am_ua k 18 (k1 18)) 20 (k1 20)) 83 (k1 83)) := by
    obtain ⟨⟨⟨v1, v2, v3, v4, v4b, v5, v6, v7, v8, v9, v10, v11, v12, v12b, _, v14, v14b, v15, v16, v17, v18, v19⟩, v20⟩, v21, v22⟩ := h
    exact ⟨⟨⟨v1, v2, v3, v4, v4b, v5, v6, v7, v8, v9, v10, v11, v12, v12b, v13, v14, v14b, v15, v16, v17, fun c hc => ⟨v83 c hc, (v18 c hc).2⟩, v19⟩, v20⟩, v21, v22⟩
  refine z.lo (fun b hb => ?_)
  by_cases c1 : b = 83
  · subst c1; rw [am_ua_s]
  · rw [am_ua_n _ _ c1]
    by_cases c2 : b = 20
    · subst c2; rw [am_ua_s]
    · rw [am_ua_n _ _ c2]
      by_cases c3 : b = 18
      · subst c3; rw [am_ua_s]
      · rw [am_ua_n _ _ c3]
        exact e b hb c3 c2 c1
theorem zSim.prog {k k1 : am_M} {g g1 : Nat → Int32} {cs : List qCm} (h : zSim 1 k g) (hT : zT k ≤ 24) (hSc : zSc k ≤ 60) (e : ∀ b, 15 ≤ b ∧ b ≤ 100 → b ≠ 18 → b ≠ 20 → b ≠ 83 → k1 b = k b) (G : zTo g cs g1) (W : ∀ q, q < 6 → (qLp false q cs = none → k1 18 q = k 18 q ∧ ∀ i, i < 24 → k1 20 (q * 24 + i) = k 20 (q * 24 + i)) ∧ ∀ l, qLp false q cs = some l → k1 18 q = nI l.length ∧ ∀ i, i < l.length → k1 20 (q * 24 + i) = l.getD i 0) (C : ∀ c, c < 4 → (qLp true c cs = none → k1 83 c = k 83 c) ∧ ∀ l, qLp true c cs = some l → k1 83 c = l.getD 0 0) : zSim 1 k1 g1 := by
  obtain ⟨G1, G2, G3⟩ := G
  have d7 : ∀ n i, n ≠ 7 → zd k1 n i = zd k n i := by
    intro n i hn
    rcases n with _ | _ | _ | _ | _ | _ | _ | _ | n
    · show zc (k1 21 0) = zc (k 21 0); rw [e 21 (by decide) (by decide) (by decide) (by decide)]
    · show zc (k1 57 0) = zc (k 57 0); rw [e 57 (by decide) (by decide) (by decide) (by decide)]
    · show zc (k1 89 1) = zc (k 89 1); rw [e 89 (by decide) (by decide) (by decide) (by decide)]
    · show zc (k1 95 1) = zc (k 95 1); rw [e 95 (by decide) (by decide) (by decide) (by decide)]
    · show zc (k1 97 1) = zc (k 97 1); rw [e 97 (by decide) (by decide) (by decide) (by decide)]
    · show zc (k1 29 i) = zc (k 29 i); rw [e 29 (by decide) (by decide) (by decide) (by decide)]
    · show zc (k1 54 i) = zc (k 54 i); rw [e 54 (by decide) (by decide) (by decide) (by decide)]
    · exact absurd rfl hn
    · show zc (k1 85 i) = zc (k 85 i); rw [e 85 (by decide) (by decide) (by decide) (by decide)]
  refine ⟨fun a j m h2 h3 => ?_, ?_⟩
  · have hlt := zCo_100 h2
    by_cases a18 : a = 18
    · subst a18
      have hm : j < 6 ∧ m = 25 * j := by
        unfold zCo at h2
        rcases h2 with h | h | h | h | h | h | h | h | h | h | h | h | h | h | h | h | h | h | h <;> omega
      obtain ⟨hj, rfl⟩ := hm
      cases hq : qLp false j cs with
      | none =>
        have z := (G1 j hj).1 hq 0 (by decide)
        rw [Nat.add_zero] at z
        rw [z, ((W j hj).1 hq).1]
        exact h.pl hj
      | some l =>
        obtain ⟨_, y1, _⟩ := (G1 j hj).2 l hq
        rw [y1, ((W j hj).2 l hq).1]
    · by_cases a20 : a = 20
      · subst a20
        have hm : j < 144 ∧ m = 1 + 25 * (j / 24) + j % 24 := by
          unfold zCo at h2
          rcases h2 with h | h | h | h | h | h | h | h | h | h | h | h | h | h | h | h | h | h | h <;> omega
        obtain ⟨hj, rfl⟩ := hm
        have hp : j % 24 < zc (k1 18 (j / 24)) := h3.2.2.2.2.2.2.2.2 rfl
        have ej : j / 24 * 24 + j % 24 = j := by omega
        have hq6 : j / 24 < 6 := by omega
        have hp24 : j % 24 < 24 := Nat.mod_lt _ (by decide)
        cases hq : qLp false (j / 24) cs with
        | none =>
          have z := (G1 (j / 24) hq6).1 hq (1 + j % 24) (by omega)
          obtain ⟨w1, w2⟩ := (W (j / 24) hq6).1 hq
          have w3 := w2 (j % 24) hp24
          rw [ej] at w3
          rw [show 1 + 25 * (j / 24) + j % 24 = 25 * (j / 24) + (1 + j % 24) from by omega, z, w3]
          rw [w1] at hp
          have z2 := h.pc hq6 hp hp24
          rw [ej, show 1 + 25 * (j / 24) + j % 24 = 25 * (j / 24) + (1 + j % 24) from by omega] at z2
          exact z2
        | some l =>
          obtain ⟨y0, y1, y2⟩ := (G1 (j / 24) hq6).2 l hq
          obtain ⟨w1, w2⟩ := (W (j / 24) hq6).2 l hq
          rw [w1, zc_i (by omega)] at hp
          have w3 := w2 (j % 24) hp
          rw [ej] at w3
          rw [show 1 + 25 * (j / 24) + j % 24 = 25 * (j / 24) + (1 + j % 24) from by omega, y2 (j % 24) hp, w3]
      · by_cases a83 : a = 83
        · subst a83
          have hm : j < 4 ∧ m = 150 + 5 * j := by
            unfold zCo at h2
            rcases h2 with h | h | h | h | h | h | h | h | h | h | h | h | h | h | h | h | h | h | h <;> omega
          obtain ⟨hj, rfl⟩ := hm
          cases hq : qLp true j cs with
          | none =>
            rw [(G2 j hj).1 hq, (C j hj).1 hq]
            exact h.ch hj 0 (by decide)
          | some l => rw [(G2 j hj).2 l hq, (C j hj).2 l hq]
        · have hm : 150 ≤ m ∧ (170 ≤ m ∨ m % 5 ≠ 0) := by
            unfold zCo at h2
            rcases h2 with h | h | h | h | h | h | h | h | h | h | h | h | h | h | h | h | h | h | h <;> omega
          rw [G3 m hm.1 hm.2, e a hlt a18 a20 a83]
          refine h.1 a j m h2 ?_
          unfold zIn at h3 ⊢
          rw [d7 0 0 (by decide), d7 4 0 (by decide), d7 3 0 (by decide), d7 1 0 (by decide), d7 2 0 (by decide), d7 5 _ (by decide), d7 6 _ (by decide), d7 8 _ (by decide)] at h3
          exact ⟨h3.1, h3.2.1, h3.2.2.1, h3.2.2.2.1, h3.2.2.2.2.1, h3.2.2.2.2.2.1, h3.2.2.2.2.2.2.1, h3.2.2.2.2.2.2.2.1, fun z => absurd z a20⟩
  · have ex : zEx g g1 := by
      intro m hm
      refine G3 m ?_ ?_ <;> (unfold zIx at hm; omega)
    have z := zS2.g (k := k) hT hSc h.2 ex
    unfold zS2 at z ⊢
    rw [e 21 (by decide) (by decide) (by decide) (by decide), e 57 (by decide) (by decide) (by decide) (by decide), e 23 (by decide) (by decide) (by decide) (by decide), e 35 (by decide) (by decide) (by decide) (by decide), e 39 (by decide) (by decide) (by decide) (by decide), e 41 (by decide) (by decide) (by decide) (by decide), e 43 (by decide) (by decide) (by decide) (by decide), e 45 (by decide) (by decide) (by decide) (by decide), e 47 (by decide) (by decide) (by decide) (by decide), e 49 (by decide) (by decide) (by decide) (by decide), e 73 (by decide) (by decide) (by decide) (by decide), e 78 (by decide) (by decide) (by decide) (by decide), e 80 (by decide) (by decide) (by decide) (by decide), e 100 (by decide) (by decide) (by decide) (by decide)]
    exact z
set_option maxRecDepth 20000 in
theorem y_comm1 {x : Nat → Int32} {L N b lv : Nat} {k : am_M} {g : Nat → Int32} {τ : am_M} (hS : zSim b k g) (hI : zIdle N k) (hg : τ 190 = g) (hlv : lv < 2 ^ 31) (hl : wLive k = nI lv) (h0 : τ 189 10 = 0) (h5 : τ 189 5 = nI L) (h60 : L ≤ 60) (hx : ∀ j, j < L → τ 192 j = x j) (hok : (qRun x L 61 0 []).1 = true → ∀ τ', zP1 τ lv (k 85) (qRun x L 61 0 []).2.2 τ' → R (some (.int (nI (qRun x L 61 0 []).2.2.length))) τ') (hbad : ¬ (qRun x L 61 0 []).1 = true → ∀ τ', zP1 τ lv (k 85) (qRun x L 61 0 []).2.2 τ' → τ' 189 7 = nI (qRun x L 61 0 []).2.1 → R (some (.int (-1))) τ') : sp_X12_commands [.ref 189, .int 0] τ R := by
  have m0 : zMt x L (am_up τ 189 7 0) 0 := ⟨zup_ss _ _ _ _, by rw [zup_sn _ (by decide)]; exact h5, h60, by decide, fun j hj => by rw [zup_n _ _ (by decide)]; exact hx j hj⟩
  have p0 : zP1 τ lv (k 85) [] (am_up τ 189 7 0) := by
    refine ⟨⟨fun b a1 a2 => zup_n _ _ a1, fun j a1 a2 a3 => zup_sn _ a1⟩, ?_⟩
    rw [zup_sn _ (by decide), h0]
    exact ⟨Or.inl rfl, fun z => absurd z (by decide), fun ⟨c, hc, _⟩ => absurd hc List.not_mem_nil⟩
  have z := l_commands (x := x) (L := L) (R := R) (done := 0) (zP1 τ lv (k 85)) (fun cs a b => zP1.st cs a b) (l_P1room hS hI hg hlv hl) l_P1prog 61 0 [] (am_up τ 189 7 0) m0 (Nat.zero_le _) (Nat.le_refl _) p0 rfl hok hbad
  refine ⟨rfl, am_go hm_X12_commands (fun p => Nat.beq p 7) 20 ?_⟩
  exact am_Wp.sub hm_X12_commands (am_le_of (List.forall_mem_cons.mpr ⟨rfl, List.forall_mem_cons.mpr ⟨rfl, List.forall_mem_cons.mpr ⟨rfl, fun _ q => by cases q⟩⟩⟩)) z
set_option maxRecDepth 20000 in
theorem y_comm2 {x : Nat → Int32} {L : Nat} {τ : am_M} (h5 : τ 189 5 = nI L) (h60 : L ≤ 60) (hx : ∀ j, j < L → τ 192 j = x j) (ok : (qRun x L 61 0 []).1 = true) (hR : ∀ v τ', zP2 τ (qRun x L 61 0 []).2.2 τ' → R (some (.int v)) τ') : sp_X12_commands [.ref 189, .int 1] τ R := by
  have m0 : zMt x L (am_up τ 189 7 0) 0 := ⟨zup_ss _ _ _ _, by rw [zup_sn _ (by decide)]; exact h5, h60, by decide, fun j hj => by rw [zup_n _ _ (by decide)]; exact hx j hj⟩
  have p0 : zP2 τ [] (am_up τ 189 7 0) := by
    refine ⟨⟨fun b a1 a2 a3 => zup_n _ _ a1, fun j a1 a2 => zup_sn _ a1⟩, ?_⟩
    rw [zup_n _ _ (by decide)]
    exact ⟨fun q hq => ⟨fun _ _ _ => rfl, fun l hl => by cases hl⟩, fun c hc => ⟨fun _ => rfl, fun l hl => by cases hl⟩, fun _ _ _ => rfl⟩
  have z := l_commands (x := x) (L := L) (R := R) (done := 1) (zP2 τ) (fun cs a b => zP2.st cs a b) l_P2room l_P2prog 61 0 [] (am_up τ 189 7 0) m0 (Nat.zero_le _) (Nat.le_refl _) p0 rfl (fun _ τ' h => hR _ τ' h) (fun n => absurd ok n)
  refine ⟨rfl, am_go hm_X12_commands (fun p => Nat.beq p 7) 20 ?_⟩
  exact am_Wp.sub hm_X12_commands (am_le_of (List.forall_mem_cons.mpr ⟨rfl, List.forall_mem_cons.mpr ⟨rfl, List.forall_mem_cons.mpr ⟨rfl, fun _ q => by cases q⟩⟩⟩)) z
/-- what stands behind execute: the text is empty, the error's place is the same -/
theorem zAll.ex {N N1 : Nat} {τ : am_M} (h : zAll N σ) (hN : N ≤ N1) (hI : zIdle N1 τ) (hS : zSim 1 τ (τ 190)) (hi : ∀ a, 100 < a → a ≤ 186 → τ a = σ a) (e191 : τ 191 = σ 191) (e3 : τ 189 3 = σ 189 3) (e05 : τ 0 5 = σ 0 5) (e6 : τ 189 6 = τ 0 6) (e5 : τ 189 5 = 0) (e1 : τ 1 1 = 0) : zAll N1 τ := by
  refine ⟨hI, hS, h.2.2.1.hi hN e3 e05 hi e191, e6, by rw [e5, e1], by rw [e1]; exact ⟨by decide, by decide⟩, fun j hj => ?_⟩
  rw [e1, zc_0] at hj
  exact absurd hj (Nat.not_lt_zero j)
end ZDJ
