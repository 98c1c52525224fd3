/-! execute: the call -/
section ZDK
variable {R : am_R} {σ : am_M}
theorem qOp_b {x : Nat → Int32} {L a : Nat} {s : Int32} : (qOp x L s a).2 ≤ a + 2 := by
  unfold qOp
  split
  · split
    · show a + 1 ≤ a + 2; omega
    · show a ≤ a + 2; omega
  · split
    · split
      · show a + 1 ≤ a + 2; omega
      · show a ≤ a + 2; omega
    · split
      · split
        · split
          · split
            · exact Nat.le_refl _
            · show a + 1 ≤ a + 2; omega
          · show a + 1 ≤ a + 2; omega
        · show a ≤ a + 2; omega
      · show a ≤ a + 2; omega
theorem qI_b {x : Nat → Int32} {L : Nat} : ∀ (n a d : Nat) (z : Bool), (qI x L n a d z).2.1 ≤ a + 3 * n + 1 := by
  intro n
  induction n with
  | zero => intro a d z; show a ≤ _; omega
  | succ n ih =>
    intro a d z
    by_cases c1 : qH x L a = 59 ∧ d = 0 ∧ z = false
    · rw [qI_1 c1]; show a + 1 ≤ _; omega
    · rcases n with _ | n
      · rw [qI_2 c1]; show a ≤ _; omega
      · by_cases c2 : qMay (qH x L a) d z = true
        · have b := qOp_b (x := x) (L := L) (a := a + 1) (s := qH x L a)
          cases ho : (qOp x L (qH x L a) (a + 1)).1 with
          | none => rw [qI_4 c1 c2 ho]; show (qOp x L (qH x L a) (a + 1)).2 ≤ _; omega
          | some o =>
            rw [qI_5 c1 c2 ho]
            have := ih (qOp x L (qH x L a) (a + 1)).2 (qDn (qH x L a) d) (decide (qH x L a = 122))
            show (qI x L (n + 1) (qOp x L (qH x L a) (a + 1)).2 (qDn (qH x L a) d) (decide (qH x L a = 122))).2.1 ≤ _
            omega
        · rw [qI_3 c1 c2]; show a ≤ _; omega
theorem qCmd_b {x : Nat → Int32} {L a : Nat} : (qCmd x L a).2 ≤ a + 80 := by
  have b := qI_b (x := x) (L := L) 25 (a + 2) 0 false
  unfold qCmd
  split
  · split
    · split
      · split
        · show a + 4 ≤ _; omega
        · show a + 3 ≤ _; omega
      · show a + 2 ≤ _; omega
    · show a + 1 ≤ _; omega
  · split
    · split
      · split
        · show (qI x L 25 (a + 2) 0 false).2.1 ≤ _; omega
        · show (qI x L 25 (a + 2) 0 false).2.1 ≤ _; omega
      · show a + 1 ≤ _; omega
    · show a ≤ _; omega
theorem qRun_b {x : Nat → Int32} {L : Nat} : ∀ (m a : Nat) (cs : List qCm), a ≤ L → (qRun x L m a cs).2.1 ≤ L + 80 := by
  intro m
  induction m with
  | zero => intro a cs h; show a ≤ _; omega
  | succ m ih =>
    intro a cs h
    by_cases c1 : cs ≠ [] ∧ ¬ a < L
    · rw [qRun_1 c1]; show a ≤ _; omega
    · have b := qCmd_b (x := x) (L := L) (a := a)
      cases hc : (qCmd x L a).1 with
      | none => rw [qRun_2 c1 hc]; show (qCmd x L a).2 ≤ _; omega
      | some c => rw [qRun_3 c1 hc]; exact ih _ _ (qCmd_e hc).2.2
set_option maxRecDepth 20000 in
theorem y_execute {N lv L : Nat} {W : am_M} (h : zAll N σ) (hW : ∀ b, 189 ≤ b → W b = σ b) (hL : L = zc (σ 1 1)) (hlv : lv < 2 ^ 31) (hl : wLive σ = nI lv)
    (hA : ¬ (qRun (σ 2) L 61 0 []).1 = true → ∀ F : am_M, (∀ b, b ≠ 189 → b ≠ 193 → F b = W b) → F 189 6 = nI (qRun (σ 2) L 61 0 []).2.1 → F 189 5 = 0 → F 189 0 = 1 → F 189 3 = σ 189 3 → R (some (.int 0)) F)
    (hB : (qRun (σ 2) L 61 0 []).1 = true → qBar lv (σ 85) (qRun (σ 2) L 61 0 []).2.2 → ∀ F : am_M, (∀ b, b ≠ 189 → b ≠ 193 → F b = W b) → F 189 6 = -1 → F 189 5 = 0 → F 189 0 = 2 → F 189 3 = σ 189 3 → R (some (.int 0)) F)
    (hC : (qRun (σ 2) L 61 0 []).1 = true → ¬ qBar lv (σ 85) (qRun (σ 2) L 61 0 []).2.2 → ∀ F : am_M, (∀ b, b ≠ 189 → b ≠ 190 → b ≠ 193 → F b = W b) → zTo (σ 190) (qRun (σ 2) L 61 0 []).2.2 (F 190) → F 189 6 = -1 → F 189 5 = 0 → F 189 0 = 0 → F 189 3 = σ 189 3 → R (some (.int (nI (qRun (σ 2) L 61 0 []).2.2.length))) F) : sp_X12_execute [.ref 189] W R := by
  obtain ⟨t1, t2, t3, t4⟩ := h.2.2.2
  have l60 : L ≤ 60 := by rw [hL]; exact t3.2
  have e5 : σ 189 5 = nI L := by rw [t2, hL]; exact t3.1
  generalize hT0 : am_up (am_up W 189 0 0) 189 10 0 = τ0
  have n0 : ∀ b, b ≠ 189 → τ0 b = W b := fun b hb => by rw [← hT0, zup_n _ _ hb, zup_n _ _ hb]
  have j0 : ∀ j, j ≠ 0 → j ≠ 10 → τ0 189 j = σ 189 j := fun j a1 a2 => by rw [← hT0, zup_sn _ a2, zup_sn _ a1, hW 189 (by decide)]
  have t00 : τ0 189 0 = 0 := by rw [← hT0, zup_sn _ (by decide), zup_ss]
  have t10 : τ0 189 10 = 0 := by rw [← hT0, zup_ss]
  -- the end
  have fin : ∀ (ω : am_M) (n : Int32) (ls : am_L), (∀ q ∈ ([(0, .ref 189), (1, .int n)] : am_L), am_lv ls q.1 = some q.2) → (¬ ω 189 0 ≤ 0 → R (some (.int 0)) (am_up ω 189 5 0)) → (ω 189 0 ≤ 0 → R (some (.int n)) (am_up ω 189 5 0)) → am_Wp (am_lk cl_X12_execute) 67 ls [] ω R := by
    intro ω n ls hl h1 h2
    refine am_Wp.sub hm_X12_execute (am_le_of hl) (am_go hm_X12_execute (fun p => Nat.beq p 79 || Nat.beq p 83) 20 ?_)
    have e : am_up ω 189 5 0 189 0 = ω 189 0 := zup_sn _ (by decide)
    refine am_ite (fun q => ?_) (fun q => ?_)
    · exact am_go hm_X12_execute (fun _ => false) 20 (h2 (by rw [← e]; exact q))
    · exact am_go hm_X12_execute (fun _ => false) 20 (h1 (by rw [← e]; exact q))
  refine ⟨rfl, am_go hm_X12_execute (fun p => Nat.beq p 12) 20 ⟨Or.inl rfl, ?_⟩⟩
  refine wq_eq hT0 ?_
  refine am_go hm_X12_execute (fun p => Nat.beq p 67 || Nat.beq p 45 || Nat.beq p 36) 20 ?_
  refine y_comm1 (x := σ 2) (L := L) (k := σ) (g := σ 190) (b := 1) h.2.1 h.1 (by rw [n0 190 (by decide), hW 190 (by decide)]) hlv hl t10 (by rw [j0 5 (by decide) (by decide)]; exact e5) l60 (fun j hj => by rw [n0 192 (by decide), hW 192 (by decide)]; exact (t4 j (by rw [← hL]; exact hj)).1) (fun ok τ' hp => ?_) (fun nok τ' hp e7 => ?_)
  · obtain ⟨⟨p1, p2⟩, p3, p4⟩ := hp
    have n45 : ∀ ls, (∀ q ∈ ([(0, .ref 189), (1, .int (nI (qRun (σ 2) L 61 0 []).2.2.length))] : am_L), am_lv ls q.1 = some q.2) → am_Wp (am_lk cl_X12_execute) 45 ls [] (am_up τ' 189 6 (-1)) R := by
      intro ls hls
      have g10 : am_up τ' 189 6 (-1) 189 10 = τ' 189 10 := zup_sn _ (by decide)
      have g0 : am_up τ' 189 6 (-1) 189 0 = 0 := by rw [zup_sn _ (by decide), p2 0 (by decide) (by decide) (by decide)]; exact t00
      refine am_Wp.sub hm_X12_execute (am_le_of hls) (am_go hm_X12_execute (fun p => Nat.beq p 67 || Nat.beq p 52 || Nat.beq p 61) 20 ?_)
      refine am_ite (fun q => ?_) (fun q => ?_)
      · have nb : ¬ qBar lv (σ 85) (qRun (σ 2) L 61 0 []).2.2 := fun y => by
          have := p4.mpr y
          rw [← g10] at this
          exact absurd (this.symm.trans q) (by decide)
        refine am_go hm_X12_execute (fun p => Nat.beq p 67) 20 ?_
        have g5 : am_up τ' 189 6 (-1) 189 5 = nI L := by rw [zup_sn _ (by decide), p2 5 (by decide) (by decide) (by decide), j0 5 (by decide) (by decide)]; exact e5
        refine y_comm2 (x := σ 2) (L := L) g5 l60 (fun j hj => by rw [zup_n _ _ (by decide), p1 192 (by decide) (by decide), n0 192 (by decide), hW 192 (by decide)]; exact (t4 j (by rw [← hL]; exact hj)).1) ok (fun v τ2 hp2 => ?_)
        obtain ⟨⟨u1, u2⟩, u3⟩ := hp2
        have z0 : τ2 189 0 = 0 := (u2 0 (by decide) (by decide)).trans g0
        refine fin τ2 (nI (qRun (σ 2) L 61 0 []).2.2.length) _ (List.forall_mem_cons.mpr ⟨rfl, List.forall_mem_cons.mpr ⟨rfl, fun _ q => by cases q⟩⟩) (fun y => absurd (by rw [z0]; decide) y) (fun _ => ?_)
        have e190 : am_up τ' 189 6 (-1) 190 = σ 190 := by rw [zup_n _ _ (by decide), p1 190 (by decide) (by decide), n0 190 (by decide), hW 190 (by decide)]
        rw [e190] at u3
        refine hC ok nb _ (fun b a1 a2 a3 => ?_) (by rw [zup_n _ _ (by decide)]; exact u3) ?_ (zup_ss _ _ _ _) (by rw [zup_sn _ (by decide)]; exact z0) ?_
        · rw [zup_n _ _ a1, u1 b a1 a2 a3, zup_n _ _ a1, p1 b a1 a3, n0 b a1]
        · rw [zup_sn _ (by decide), u2 6 (by decide) (by decide), zup_ss]
        · rw [zup_sn _ (by decide), u2 3 (by decide) (by decide), zup_sn _ (by decide), p2 3 (by decide) (by decide) (by decide), j0 3 (by decide) (by decide)]
      · have e1 : τ' 189 10 = 1 := by
          rcases p3 with y | y
          · exact absurd (g10.trans y) q
          · exact y
        have bb := p4.mp e1
        refine am_go hm_X12_execute (fun p => Nat.beq p 67) 20 ?_
        refine y_raises ?_
        refine fin _ (nI (qRun (σ 2) L 61 0 []).2.2.length) _ (List.forall_mem_cons.mpr ⟨rfl, List.forall_mem_cons.mpr ⟨rfl, fun _ q => by cases q⟩⟩) (fun _ => ?_) (fun y => absurd (by rw [zup_ss] at y; exact y) (show ¬ (2 : Int32) ≤ 0 by decide))
        refine hB ok bb _ (fun b a1 a2 => ?_) ?_ (zup_ss _ _ _ _) (by rw [zup_sn _ (by decide), zup_ss]) ?_
        · rw [zup_n _ _ a1, zup_n _ _ a1, zup_n _ _ a1, p1 b a1 a2, n0 b a1]
        · rw [zup_sn _ (by decide), zup_sn _ (by decide), zup_ss]
        · rw [zup_sn _ (by decide), zup_sn _ (by decide), zup_sn _ (by decide), p2 3 (by decide) (by decide) (by decide), j0 3 (by decide) (by decide)]
    have lb : (qRun (σ 2) L 61 0 []).2.2.length < 2 ^ 31 := by
      obtain ⟨_, _, _, r3⟩ := zRead (x := σ 2) (L := L) (σ := σ) (by rw [hL]; exact t3.1) l60 (fun _ _ => rfl)
      have := (r3 ok).2.2
      omega
    refine am_ite (fun _ => ?_) (fun y => absurd (nI_pos' lb) y)
    refine am_ite (fun _ => ?_) (fun y => absurd (nI_pos' lb) y)
    exact n45 _ (List.forall_mem_cons.mpr ⟨rfl, List.forall_mem_cons.mpr ⟨rfl, fun _ q => by cases q⟩⟩)
  · obtain ⟨⟨p1, p2⟩, p3, p4⟩ := hp
    refine am_ite (fun y => absurd y (by decide)) (fun _ => ?_)
    refine am_ite (fun y => absurd y (by decide)) (fun _ => ?_)
    refine am_go hm_X12_execute (fun p => Nat.beq p 67) 20 ?_
    refine y_raises ?_
    refine fin _ (-1) _ (List.forall_mem_cons.mpr ⟨rfl, List.forall_mem_cons.mpr ⟨rfl, fun _ q => by cases q⟩⟩) (fun _ => ?_) (fun y => absurd (by rw [zup_ss] at y; exact y) (show ¬ (1 : Int32) ≤ 0 by decide))
    refine hA nok _ (fun b a1 a2 => ?_) ?_ (zup_ss _ _ _ _) (by rw [zup_sn _ (by decide), zup_ss]) ?_
    · rw [zup_n _ _ a1, zup_n _ _ a1, zup_n _ _ a1, p1 b a1 a2, n0 b a1]
    · rw [zup_sn _ (by decide), zup_sn _ (by decide), zup_ss]; exact e7
    · rw [zup_sn _ (by decide), zup_sn _ (by decide), zup_sn _ (by decide), p2 3 (by decide) (by decide) (by decide), j0 3 (by decide) (by decide)]
set_option maxRecDepth 20000 in
theorem c_execute (hm : ∀ pc, am_mono (am_lk cl_X11_execute pc)) {N : Nat} (h : zAll N σ) : zCall [0, 1] sp_X11_execute sp_X12_execute [] (N + 100) σ := by
  obtain ⟨t1, t2, t3, t4⟩ := h.2.2.2
  generalize hL : zc (σ 1 1) = L
  have l60 : L ≤ 60 := by rw [← hL]; exact t3.2
  have e11 : σ 1 1 = nI L := by rw [← hL]; exact t3.1
  obtain ⟨ρ, r1, r2, r3⟩ := zRead (x := σ 2) (L := L) e11 l60 (fun _ _ => rfl)
  have hlv := h.1.live
  have lvb : zSum (fun j => zI (¬ 6 ≤ σ 23 j)) (zT σ) < 2 ^ 31 := by
    have e := zSum_not (f := fun i => (6 : Int32) ≤ σ 23 i) (zT σ)
    have hT : zT σ ≤ 24 := h.1.1.1.1.1.2
    omega
  generalize zSum (fun j => zI (¬ 6 ≤ σ 23 j)) (zT σ) = lv at hlv lvb
  refine ⟨rfl, am_go hm (fun p => Nat.beq p 23) 30 ?_⟩
  show am_Wp (am_lk cl_X11_execute) 23 (am_args 0 [.ref 0]) [.int (-1), .int (am_up (am_up (pRead σ).2 0 6 (pRead σ).1) 1 1 0 0 6)] (am_up (am_up (pRead σ).2 0 6 (pRead σ).1) 1 1 0) _
  rw [r1]
  generalize hS : am_up (am_up ρ 0 6 (if (qRun (σ 2) L 61 0 []).1 = true then -1 else nI (qRun (σ 2) L 61 0 []).2.1)) 1 1 0 = S
  have s06 : S 0 6 = if (qRun (σ 2) L 61 0 []).1 = true then -1 else nI (qRun (σ 2) L 61 0 []).2.1 := by rw [← hS, zup_n _ _ (by decide), zup_ss]
  have s11 : S 1 1 = 0 := by rw [← hS, zup_ss]
  have sn : ∀ b, b ≠ 0 → b ≠ 1 → S b = ρ b := fun b a1 a2 => by rw [← hS, zup_n _ _ a2, zup_n _ _ a1]
  have s05 : S 0 5 = σ 0 5 := by rw [← hS, zup_n _ _ (by decide), zup_sn _ (by decide), r2 0 (by decide)]
  have sh : ∀ b, 15 ≤ b → S b = σ b := fun b hb => by rw [sn b (by omega) (by omega), r2 b (by omega)]
  clear hS
  have hag : ∀ n j : Nat, ∀ F : am_M, ([0, 1] : List Nat)[n]? = some j → F 189 0 = nI (n + 1) → zAll (N + 100) F → zRes [0, 1] (N + 100) (some (.ref (2000 + j))) (some (.int 0)) F := fun n j F h1 h2 h3 => ⟨Or.inr ⟨n, j, 0, h1, rfl, h2, rfl⟩, h3⟩
  have keep : ∀ F : am_M, (∀ b, b ≠ 189 → b ≠ 193 → F b = S b) → F 189 6 = S 0 6 → F 189 5 = 0 → F 189 3 = σ 189 3 → zAll (N + 100) F := by
    intro F f1 f6 f5 f3
    have lo : ∀ a, 15 ≤ a ∧ a ≤ 100 → F a = σ a := fun a ha => by rw [f1 a (by omega) (by omega), sh a ha.1]
    refine h.ex (by omega) ((h.1.N (by omega)).lo lo) ?_ (fun a h1 h2 => by rw [f1 a (by omega) (by omega), sh a (by omega)]) (by rw [f1 191 (by decide) (by decide), sh 191 (by decide)]) f3 (by rw [f1 0 (by decide) (by decide)]; exact s05) (by rw [f1 0 (by decide) (by decide)]; exact f6) f5 (by rw [f1 1 (by decide) (by decide)]; exact s11)
    rw [f1 190 (by decide) (by decide), sh 190 (by decide)]
    exact h.2.1.lo lo
  by_cases ok : (qRun (σ 2) L 61 0 []).1 = true
  · rw [if_pos ok] at s06
    obtain ⟨q1, q2, q3⟩ := r3 ok
    have D : zDr S (qRun (σ 2) L 61 0 []).2.2 := q2.fr (fun b h1 h2 => sn b (by omega) (by omega))
    have hk := qRun_ok (x := σ 2) (L := L) 61 0 [] (fun c hc => absurd hc List.not_mem_nil)
    have lvS : wLive S = nI lv := by
      rw [← hlv]
      show S 21 0 - S 97 1 = σ 21 0 - σ 97 1
      rw [sh 21 (by decide), sh 97 (by decide)]
    obtain ⟨b1, b2⟩ := pSuit_e D hk q3 lvS lvb
    rw [sh 85 (by decide)] at b1 b2
    refine am_go hm (fun p => Nat.beq p 26 || Nat.beq p 36) 20 ?_
    refine am_ite (fun _ => ?_) (fun z => absurd s06 z)
    refine am_go hm (fun p => Nat.beq p 50 || Nat.beq p 60) 20 ?_
    by_cases bar : qBar lv (σ 85) (qRun (σ 2) L 61 0 []).2.2
    · refine am_ite (fun _ => ?_) (fun z => absurd (b1 bar) z)
      refine am_go hm (fun _ => false) 20 ?_
      refine y_execute (W := S) h (fun b hb => sh b (by omega)) hL.symm lvb hlv (fun n => absurd ok n) (fun _ _ F f1 f6 f5 f0 f3 => ?_) (fun _ n => absurd bar n)
      exact hag 1 1 F rfl f0 (keep F f1 (f6.trans s06.symm) f5 f3)
    · refine am_ite (fun z => absurd ((b2 bar).symm.trans z) (by decide)) (fun _ => ?_)
      refine am_go hm (fun _ => false) 20 ?_
      obtain ⟨w1, w2, w3⟩ := pWrite_e D hk q3
      show sp_X12_execute [.ref 189] (pWrite S) (zRes [0, 1] (N + 100) (some (.int (pWrite S 3 5))))
      generalize pWrite S = W at w1 w2 w3
      have w35 : W 3 5 = nI (qRun (σ 2) L 61 0 []).2.2.length := by rw [w1 3 (by decide) (by decide) (by decide), sn 3 (by decide) (by decide)]; exact q1
      have wh : ∀ b, 15 ≤ b → b ≠ 18 → b ≠ 20 → b ≠ 83 → W b = σ b := fun b hb a1 a2 a3 => by rw [w1 b a1 a2 a3, sh b hb]
      rw [sh 18 (by decide), sh 20 (by decide)] at w2
      rw [sh 83 (by decide)] at w3
      refine y_execute (W := W) h (fun b hb => wh b (by omega) (by omega) (by omega) (by omega)) hL.symm lvb hlv (fun n => absurd ok n) (fun _ n => absurd n bar) (fun _ _ F f1 g2 f6 f5 f0 f3 => ?_)
      refine ⟨Or.inl ⟨W 3 5, rfl, by rw [w35], f0⟩, ?_⟩
      have eW : ∀ b, 15 ≤ b ∧ b ≤ 100 → b ≠ 18 → b ≠ 20 → b ≠ 83 → W b = σ b := fun b hb a1 a2 a3 => wh b hb.1 a1 a2 a3
      have I := h.1.1.1
      have v13 := I.2.2.2.2.2.2.2.2.2.2.2.2.2.2.1
      have v18 := I.2.2.2.2.2.2.2.2.2.2.2.2.2.2.2.2.2.2.2.2.1
      have J : zIdle (N + 100) W := (h.1.N (by omega)).prog eW (fun q hq => by
        cases hl : qLp false q (qRun (σ 2) L 61 0 []).2.2 with
        | none =>
          obtain ⟨y1, y2⟩ := (w2 q hq).1 hl
          obtain ⟨x1, x2⟩ := v13 q hq
          rw [y1]
          refine ⟨x1, zWf_c (fun j _ hj => ?_) x2⟩
          have := x1.2
          exact y2 j (by omega)
        | some l =>
          obtain ⟨y1, y2⟩ := (w2 q hq).2 l hl
          obtain ⟨c, hc, c1, c2, c3⟩ := qLp_m _ hl
          obtain ⟨k1, k2, k3⟩ := (hk c hc).2 c1
          rw [c3] at k2 k3
          rw [y1, zc_i (by omega)]
          exact ⟨zN_i k2 (by omega), k3 _ (fun i hi => y2 i hi)⟩) (fun c hc => by
        cases hl : qLp true c (qRun (σ 2) L 61 0 []).2.2 with
        | none => rw [(w3 c hc).1 hl]; exact (v18 c hc).1
        | some l =>
          obtain ⟨d, hd, c1, c2, c3⟩ := qLp_m _ hl
          obtain ⟨k1, r, hr, k2⟩ := (hk d hd).1 c1
          rw [(w3 c hc).2 l hl, ← c3, k2]
          exact zN_i (n := r) hr (by omega))
      have Sm : zSim 1 W (F 190) := h.2.1.prog I.1.1.2 I.1.2.1.2 eW g2 w2 w3
      have lo : ∀ a, 15 ≤ a ∧ a ≤ 100 → F a = W a := fun a ha => f1 a (by omega) (by omega) (by omega)
      refine h.ex (by omega) (J.lo lo) (Sm.lo lo) (fun a h1 h2 => by rw [f1 a (by omega) (by omega) (by omega), wh a (by omega) (by omega) (by omega) (by omega)]) (by rw [f1 191 (by decide) (by decide) (by decide), wh 191 (by decide) (by decide) (by decide) (by decide)]) f3 ?_ ?_ f5 ?_
      · rw [f1 0 (by decide) (by decide) (by decide), w1 0 (by decide) (by decide) (by decide)]; exact s05
      · rw [f1 0 (by decide) (by decide) (by decide), w1 0 (by decide) (by decide) (by decide), f6, s06]
      · rw [f1 1 (by decide) (by decide) (by decide), w1 1 (by decide) (by decide) (by decide)]; exact s11
  · rw [if_neg ok] at s06
    have pb := qRun_b (x := σ 2) (L := L) 61 0 [] (Nat.zero_le _)
    refine am_go hm (fun p => Nat.beq p 26 || Nat.beq p 36) 20 ?_
    refine am_ite (fun z => absurd (s06.symm.trans z) (nI_m1 (by omega))) (fun _ => ?_)
    refine am_go hm (fun _ => false) 20 ?_
    refine y_execute (W := S) h (fun b hb => sh b (by omega)) hL.symm lvb hlv (fun _ F f1 f6 f5 f0 f3 => ?_) (fun y => absurd y ok) (fun y => absurd y ok)
    exact hag 0 0 F rfl f0 (keep F f1 (f6.trans s06.symm) f5 f3)
end ZDK
