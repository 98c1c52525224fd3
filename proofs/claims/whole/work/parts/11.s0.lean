/-! time passes: both sides -/
section ZS1
variable {σ : am_M} {g : Nat → Int32} {R : am_R}
theorem zSim.ps {N : Nat} {k : am_M} {u : Int32} (h : zSim 1 k g) (hI : zIdle N k) (hN : N < 2 ^ 26) : zSim 2 (yPs k u) (upd (upd g 177 (g 177 + 1)) 175 u) := by
  have hT : zT k ≤ 24 := hI.1.1.1.1.2
  have hSc : zSc k ≤ 60 := hI.1.1.1.2.1.2
  have t2 := hI.1.1.tm.2
  have b2 : zU k ≤ N := t2.2
  have S1 := h.tick t2.1 (by omega)
  have c7 : zCo 100 7 177 := zCo_n (by decide) (by decide) (by decide) rfl
  have c5 : zCo 100 5 175 := zCo_n (by decide) (by decide) (by decide) rfl
  have e7 : g 177 = k 100 7 := h.cnt 7 (by decide) (by decide) (by decide)
  have S2 : zSim 2 (am_up (yTick k) 100 7 (k 100 7 + 1)) (upd g 177 (k 100 7 + 1)) := ⟨zS1_up S1.1 c7, zS2.g (k := am_up (yTick k) 100 7 (k 100 7 + 1)) hT hSc S1.2 (zEx.up c7)⟩
  rw [e7]
  exact ⟨zS1_up S2.1 c5, zS2.g (k := yPs k u) hT hSc S2.2 (zEx.up c5)⟩
theorem zSim.cnt11 {b : Nat} {k : am_M} {v : Int32} (h : zSim b k g) (hT : zT k ≤ 24) (hSc : zSc k ≤ 60) : zSim b (am_up k 100 11 v) (upd g 181 v) := by
  have c : zCo 100 11 181 := zCo_n (by decide) (by decide) (by decide) rfl
  exact ⟨zS1_up h.1 c, zS2.g (k := am_up k 100 11 v) hT hSc h.2 (zEx.up c)⟩
set_option maxRecDepth 20000 in
theorem l_passes1 {N : Nat} {k : am_M} {u : Int32} (hP : zPass N k) (h : ∀ g1, zSim 2 (hWakeN k u (zT k)) g1 → am_Wp (am_lk cl_X12_passes) 67 [(0, .ref 189), (1, .int u)] [] (am_ua σ 190 g1) R) : ∀ m n g, n + m = zT k → zSim 2 (hWakeN k u n) g → am_Wp (am_lk cl_X12_passes) 23 [(0, .ref 189), (1, .int u), (2, .int (nI n))] [] (am_ua σ 190 g) R := by
  have hT : zT k ≤ 24 := hP.1.1.1.1.2
  intro m
  induction m with
  | zero =>
    intro n g e hS
    have e : n = zT k := by omega
    obtain ⟨P, F⟩ := hP.wakeN (u := u) n (by omega)
    have e170 : g 170 = nI (zT k) := by rw [hS.Tc, F 21 (by decide)]; exact hP.1.1.1.1.1
    refine am_go hm_X12_passes (fun p => Nat.beq p 31) 20 ?_
    refine wn_ld hm_X12_passes 170 rfl e170 (by decide) rfl ?_
    refine am_go hm_X12_passes (fun p => Nat.beq p 67) 20 ?_
    refine am_ite (fun _ => ?_) (fun z => absurd (nI_le (by omega) (by omega)) z)
    rw [e] at hS
    exact am_Wp.sub hm_X12_passes (am_le_of (List.forall_mem_cons.mpr ⟨rfl, List.forall_mem_cons.mpr ⟨rfl, fun _ q => by cases q⟩⟩)) (h g hS)
  | succ m ih =>
    intro n g e hS
    have hn : n < zT k := by omega
    obtain ⟨P, F⟩ := hP.wakeN (u := u) n (by omega)
    have eS : hWakeN k u (n + 1) = if k 23 n = 1 ∧ hWakeN k u n 23 n = 1 then hWakeN k u (n + 1) else hWakeN k u (n + 1) := by split <;> rfl
    clear eS
    have eS : hWakeN k u (n + 1) = if rAt (hWakeN k u n) cT_status (nI n) = 1 then (if rAt (hWakeN k u n) cT_wakeTime (nI n) = u then wReady (hWakeN k u n) (nI n) else hWakeN k u n) else hWakeN k u n := rfl
    have ih := fun g (q : zSim 2 (hWakeN k u (n + 1)) g) => ih (n + 1) g (by omega) q
    rw [eS] at ih
    have e170 : g 170 = nI (zT k) := by rw [hS.Tc, F 21 (by decide)]; exact hP.1.1.1.1.1
    have e21 : hWakeN k u n 21 = k 21 := F 21 (by decide)
    generalize hWakeN k u n = k1 at P hS ih e21
    rw [ra_T_status (by omega), ra_T_wakeTime (by omega)] at ih
    have hn1 : n < zT k1 := by show n < zc (k1 21 0); rw [e21]; exact hn
    have hT1 : zT k1 ≤ 24 := P.1.1.1.1.2
    have nxt : ∀ g1 ls, zSim 2 (if k1 23 n = 1 then (if k1 43 n = u then wReady k1 (nI n) else k1) else k1) g1 → (∀ q ∈ ([(0, .ref 189), (1, .int u), (2, .int (nI n))] : am_L), am_lv ls q.1 = some q.2) → am_Wp (am_lk cl_X12_passes) 61 ls [] (am_ua σ 190 g1) R := by
      intro g1 ls hx hl
      refine am_Wp.sub hm_X12_passes (am_le_of hl) (am_go hm_X12_passes (fun p => Nat.beq p 23) 20 ?_)
      refine am_Wp.sub hm_X12_passes (ls := [(0, .ref 189), (1, .int u), (2, .int (nI (n + 1)))]) (am_le_of (List.forall_mem_cons.mpr ⟨rfl, List.forall_mem_cons.mpr ⟨rfl, List.forall_mem_cons.mpr ⟨by rw [nI_succ]; rfl, fun _ q => by cases q⟩⟩⟩)) ?_
      exact ih g1 hx
    have l3 : ∀ q ∈ ([(0, .ref 189), (1, .int u), (2, .int (nI n))] : am_L), am_lv [(0, .ref 189), (1, .int u), (2, .int (nI n))] q.1 = some q.2 := List.forall_mem_cons.mpr ⟨rfl, List.forall_mem_cons.mpr ⟨rfl, List.forall_mem_cons.mpr ⟨rfl, fun _ q => by cases q⟩⟩⟩
    refine am_go hm_X12_passes (fun p => Nat.beq p 31) 20 ?_
    refine wn_ld hm_X12_passes 170 rfl e170 (by decide) rfl ?_
    refine am_go hm_X12_passes (fun p => Nat.beq p 61) 40 ?_
    refine am_ite (fun z => absurd z (nI_ge (by omega) (by omega))) (fun _ => ?_)
    refine y_of n 0 rfl rfl (by omega) (by decide) (v := k1 23 n) (hS.task (i := n) hn1 0 (by decide) hT1) ?_
    refine am_ite (fun c1 => ?_) (fun c1 => ?_)
    · have c1 : k1 23 n = 1 := c1
      refine y_of n 11 rfl rfl (by omega) (by decide) (v := k1 43 n) (hS.slp hn1 c1) ?_
      refine am_ite (fun c2 => ?_) (fun c2 => ?_)
      · have c2 : k1 43 n = u := c2
        have n0 : k1 23 n ≠ 0 := by rw [c1]; decide
        refine y_readies hS P.1.1 rfl hn1 n0 (fun g1 S1 => ?_)
        refine nxt g1 _ ?_ l3
        have e := e_Ready (k := k1) (i := n) (by omega) (q := zQ k1) P.1.1.1.2.2.2.2.2.1.1 (P.1.1.2.2.2.2.2.2.1.room hT1 hn1 (Or.inr n0))
        rw [if_pos c1, if_pos c2, e]
        exact S1
      · have c2 : ¬ k1 43 n = u := c2
        exact nxt g _ (by rw [if_pos c1, if_neg c2]; exact hS) l3
    · have c1 : ¬ k1 23 n = 1 := c1
      exact nxt g _ (by rw [if_neg c1]; exact hS) l3
set_option maxRecDepth 20000 in
theorem l_passes2 {N : Nat} {k : am_M} {u : Int32} (hP : zPass N k) (hu : ¬ u = -1) (h : ∀ g1, zSim 2 (hDeadN k u (zSc k)) g1 → R none (am_ua σ 190 g1)) : ∀ m n g, n + m = zSc k → zSim 2 (hDeadN k u n) g → am_Wp (am_lk cl_X12_passes) 69 [(0, .ref 189), (1, .int u), (2, .int (nI n))] [] (am_ua σ 190 g) R := by
  have hSc : zSc k ≤ 60 := hP.1.1.1.2.1.2
  intro m
  induction m with
  | zero =>
    intro n g e hS
    have e : n = zSc k := by omega
    obtain ⟨P, F⟩ := hP.deadN (u := u) n (by omega)
    have e171 : g 171 = nI (zSc k) := by rw [hS.Sc, F 57 (by decide)]; exact hP.1.1.1.2.1.1
    refine am_go hm_X12_passes (fun p => Nat.beq p 77) 20 ?_
    refine wn_ld hm_X12_passes 171 rfl e171 (by decide) rfl ?_
    refine am_go hm_X12_passes (fun p => Nat.beq p 176) 20 ?_
    refine am_ite (fun _ => ?_) (fun z => absurd (nI_le (by omega) (by omega)) z)
    rw [e] at hS
    exact am_go hm_X12_passes (fun _ => false) 20 (h g hS)
  | succ m ih =>
    intro n g e hS
    have hn : n < zSc k := by omega
    obtain ⟨P, F⟩ := hP.deadN (u := u) n (by omega)
    have eS : hDeadN k u (n + 1) = if sEnded (hDeadN k u n) (nI n) = 0 then (if rAt (hDeadN k u n) cS_deadline (nI n) = u then hDead1 (rChg (hDeadN k u n) cW_counts 11 1) (nI n) else hDeadN k u n) else hDeadN k u n := rfl
    have ih := fun g (q : zSim 2 (hDeadN k u (n + 1)) g) => ih (n + 1) g (by omega) q
    rw [eS] at ih
    have e171 : g 171 = nI (zSc k) := by rw [hS.Sc, F 57 (by decide)]; exact hP.1.1.1.2.1.1
    have e57 : hDeadN k u n 57 = k 57 := F 57 (by decide)
    generalize hDeadN k u n = k1 at P hS ih e57
    unfold sEnded at ih
    rw [ra_S_state (by omega), ra_S_deadline (by omega), show (11 : Int32) = nI 11 from rfl, rc_W_counts (by decide)] at ih
    have hn1 : n < zSc k1 := by show n < zc (k1 57 0); rw [e57]; exact hn
    have hT1 : zT k1 ≤ 24 := P.1.1.1.1.2
    have hSc1 : zSc k1 ≤ 60 := P.1.1.1.2.1.2
    have s3 : g (1311 + 32 * n + 3) = k1 65 n := hS.sc hn1 (by omega) 3 (by decide)
    have s2 : g (1311 + 32 * n + 2) = k1 63 n := hS.sc hn1 (by omega) 2 (by decide)
    have s0 : g (1311 + 32 * n + 0) = k1 59 n := hS.sc hn1 (by omega) 0 (by decide)
    have s1 : g (1311 + 32 * n + 1) = k1 61 n := hS.sc hn1 (by omega) 1 (by decide)
    have s4 : g (1311 + 32 * n + 4) = k1 71 n := by
      rw [show 1311 + 32 * n + 4 = 1315 + 32 * n + 0 from by omega]
      exact hS.sc2 hn1 (by omega) 0 (by decide)
    have c11 : g 181 = k1 100 11 := hS.cnt 11 (by decide) (by decide) (by decide)
    have v4b := P.1.1.2.2.2.2.1 n hn1
    have nxt : ∀ g1 ls, zSim 2 (if bI (k1 65 n = 2) = 0 then (if k1 71 n = u then hDead1 (am_up k1 100 11 (k1 100 11 + 1)) (nI n) else k1) else k1) g1 → (∀ q ∈ ([(0, .ref 189), (1, .int u), (2, .int (nI n))] : am_L), am_lv ls q.1 = some q.2) → am_Wp (am_lk cl_X12_passes) 170 ls [] (am_ua σ 190 g1) R := by
      intro g1 ls hx hl
      refine am_Wp.sub hm_X12_passes (am_le_of hl) (am_go hm_X12_passes (fun p => Nat.beq p 69) 20 ?_)
      refine am_Wp.sub hm_X12_passes (ls := [(0, .ref 189), (1, .int u), (2, .int (nI (n + 1)))]) (am_le_of (List.forall_mem_cons.mpr ⟨rfl, List.forall_mem_cons.mpr ⟨rfl, List.forall_mem_cons.mpr ⟨by rw [nI_succ]; rfl, fun _ q => by cases q⟩⟩⟩)) ?_
      exact ih g1 hx
    refine am_go hm_X12_passes (fun p => Nat.beq p 77) 20 ?_
    refine wn_ld hm_X12_passes 171 rfl e171 (by decide) rfl ?_
    refine am_go hm_X12_passes (fun p => Nat.beq p 170 || Nat.beq p 93) 40 ?_
    refine am_ite (fun z => absurd z (nI_ge (by omega) (by omega))) (fun _ => ?_)
    refine y_scope n rfl ?_
    refine wn_ld hm_X12_passes (1311 + 32 * n + 3) (nI_add _ 3) s3 (by omega) rfl ?_
    refine am_go hm_X12_passes (fun p => Nat.beq p 170 || Nat.beq p 105) 40 ?_
    refine am_ite (fun c1 => ?_) (fun c1 => ?_)
    · have c1 : k1 65 n = 2 := c1
      exact nxt g _ (by rw [if_neg (fun z => bI_0.mp z c1)]; exact hS) (List.forall_mem_cons.mpr ⟨rfl, List.forall_mem_cons.mpr ⟨rfl, List.forall_mem_cons.mpr ⟨rfl, fun _ q => by cases q⟩⟩⟩)
    have c1 : ¬ k1 65 n = 2 := c1
    rw [if_pos (bI_0.mpr c1)] at nxt
    refine wn_ld hm_X12_passes (1311 + 32 * n + 2) (nI_add _ 2) s2 (by omega) rfl ?_
    refine am_go hm_X12_passes (fun p => Nat.beq p 170 || Nat.beq p 117) 40 ?_
    refine am_ite (fun c2 => ?_) (fun c2 => ?_)
    rotate_left
    · have c2 : ¬ k1 63 n = 1 := c2
      have c3 : ¬ k1 71 n = u := fun z => by
        rcases v4b with q | q
        · exact c2 q.1
        · exact hu (z.symm.trans q.2)
      exact nxt g _ (by rw [if_neg c3]; exact hS) (List.forall_mem_cons.mpr ⟨rfl, List.forall_mem_cons.mpr ⟨rfl, List.forall_mem_cons.mpr ⟨rfl, fun _ q => by cases q⟩⟩⟩)
    refine wn_ld hm_X12_passes (1311 + 32 * n + 4) (nI_add _ 4) s4 (by omega) rfl ?_
    refine am_go hm_X12_passes (fun p => Nat.beq p 170 || Nat.beq p 133) 40 ?_
    refine am_ite (fun c3 => ?_) (fun c3 => ?_)
    rotate_left
    · have c3 : ¬ k1 71 n = u := c3
      exact nxt g _ (by rw [if_neg c3]; exact hS) (List.forall_mem_cons.mpr ⟨rfl, List.forall_mem_cons.mpr ⟨rfl, List.forall_mem_cons.mpr ⟨rfl, fun _ q => by cases q⟩⟩⟩)
    have c3 : k1 71 n = u := c3
    rw [if_pos c3] at nxt
    refine wn_ld hm_X12_passes 181 rfl c11 (by decide) rfl ?_
    refine am_go hm_X12_passes (fun p => Nat.beq p 136) 40 ?_
    refine wn_st hm_X12_passes 181 rfl (by decide) rfl ?_
    have S2 := hS.cnt11 (v := k1 100 11 + 1) hT1 hSc1
    have P2 : zPass N (am_up k1 100 11 (k1 100 11 + 1)) := P
    have u3 : upd g 181 (k1 100 11 + 1) (1311 + 32 * n + 3) = k1 65 n := by rw [pk_un (by omega)]; exact s3
    have u0 : upd g 181 (k1 100 11 + 1) (1311 + 32 * n + 0) = k1 59 n := by rw [pk_un (by omega)]; exact s0
    have u1 : upd g 181 (k1 100 11 + 1) (1311 + 32 * n + 1) = k1 61 n := by rw [pk_un (by omega)]; exact s1
    have eD : hDead1 (am_up k1 100 11 (k1 100 11 + 1)) (nI n) = if k1 65 n = 0 then wIntr (am_up k1 100 11 (k1 100 11 + 1)) (k1 59 n) 2 (k1 61 n) (-1) else am_up k1 100 11 (k1 100 11 + 1) := by
      unfold hDead1
      rw [ra_S_state (by omega), ra_S_owner (by omega), ra_S_level (by omega)]
      rfl
    rw [eD] at nxt
    refine am_go hm_X12_passes (fun p => Nat.beq p 144) 40 ?_
    refine wn_ld hm_X12_passes (1311 + 32 * n + 3) (nI_add _ 3) u3 (by omega) rfl ?_
    refine am_go hm_X12_passes (fun p => Nat.beq p 170 || Nat.beq p 156) 40 ?_
    refine am_ite (fun c4 => ?_) (fun c4 => ?_)
    rotate_left
    · have c4 : ¬ k1 65 n = 0 := c4
      exact nxt _ _ (by rw [if_neg c4]; exact S2) (List.forall_mem_cons.mpr ⟨rfl, List.forall_mem_cons.mpr ⟨rfl, List.forall_mem_cons.mpr ⟨rfl, fun _ q => by cases q⟩⟩⟩)
    have c4 : k1 65 n = 0 := c4
    rw [if_pos c4] at nxt
    obtain ⟨o1, o2, o3, o4, o5⟩ := P.1.1.2.2.2.1 n hn1
    refine wn_ld hm_X12_passes (1311 + 32 * n + 0) (nI_add _ 0) u0 (by omega) rfl ?_
    refine am_go hm_X12_passes (fun p => Nat.beq p 165) 40 ?_
    refine wn_ld hm_X12_passes (1311 + 32 * n + 1) (nI_add _ 1) u1 (by omega) rfl ?_
    refine am_go hm_X12_passes (fun p => Nat.beq p 170) 40 ?_
    refine y_interrupts (i := zc (k1 59 n)) S2 P2.1 o1.1 o2 (zRs_2 _ _) (fun g1 S3 => ?_)
    refine nxt g1 _ ?_ (List.forall_mem_cons.mpr ⟨rfl, List.forall_mem_cons.mpr ⟨rfl, List.forall_mem_cons.mpr ⟨rfl, fun _ q => by cases q⟩⟩⟩)
    rw [show k1 59 n = nI (zc (k1 59 n)) from o1.1]
    exact S3
set_option maxRecDepth 20000 in
theorem y_passes {N : Nat} {k : am_M} {u : Int32} (hS : zSim 1 k g) (hI : zIdle N k) (hN : N < 2 ^ 26) (hn : hNext k ≠ -1) (hu : u = hNext k) (hR : ∀ g1, zSim 2 (hPass k) g1 → R none (am_ua σ 190 g1)) : sp_X12_passes [.ref 189, .int u] (am_ua σ 190 g) R := by
  have P := hI.pass hN hn
  have S := hS.ps (u := u) hI hN
  rw [← hu] at P
  rw [hI.epass hn, ← hu] at hR
  have nu : ¬ u = -1 := by rw [hu]; exact hn
  obtain ⟨P1, F1⟩ := P.wakeN (u := u) (zT (yPs k u)) (Nat.le_refl _)
  refine ⟨rfl, am_go hm_X12_passes (fun p => Nat.beq p 8) 20 ?_⟩
  refine wn_ld hm_X12_passes 177 rfl rfl (by decide) rfl ?_
  refine am_go hm_X12_passes (fun p => Nat.beq p 11) 20 ?_
  refine wn_st hm_X12_passes 177 rfl (by decide) rfl ?_
  refine am_go hm_X12_passes (fun p => Nat.beq p 20) 20 ?_
  refine wn_st hm_X12_passes 175 rfl (by decide) rfl ?_
  refine am_go hm_X12_passes (fun p => Nat.beq p 23) 20 ?_
  refine am_Wp.sub hm_X12_passes (ls := [(0, .ref 189), (1, .int u), (2, .int (nI 0))]) (am_le_of (List.forall_mem_cons.mpr ⟨rfl, List.forall_mem_cons.mpr ⟨rfl, List.forall_mem_cons.mpr ⟨rfl, fun _ q => by cases q⟩⟩⟩)) ?_
  refine l_passes1 P (fun g1 S1 => ?_) (zT (yPs k u)) 0 _ (Nat.zero_add _) S
  refine am_go hm_X12_passes (fun p => Nat.beq p 69) 20 ?_
  refine am_Wp.sub hm_X12_passes (ls := [(0, .ref 189), (1, .int u), (2, .int (nI 0))]) (am_le_of (List.forall_mem_cons.mpr ⟨rfl, List.forall_mem_cons.mpr ⟨rfl, List.forall_mem_cons.mpr ⟨rfl, fun _ q => by cases q⟩⟩⟩)) ?_
  exact l_passes2 P1 nu hR (zSc (hWakeN (yPs k u) u (zT (yPs k u)))) 0 g1 (Nat.zero_add _) S1
end ZS1
