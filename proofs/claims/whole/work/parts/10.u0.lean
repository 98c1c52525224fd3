/-! cleanups: both sides -/
section ZU
variable {σ : am_M} {g : Nat → Int32} {R : am_R}
theorem zSim.sleep {b : Nat} {k : am_M} {i : Nat} {u : Int32} (h : zSim b k g) (hT : zT k ≤ 24) (hS : zSc k ≤ 60) (hi : i < 24) : zSim b (ySleep k i u) (upd (upd g (231 + 45 * i + 0) 1) (231 + 45 * i + 11) u) := by
  have c0 : zCo 23 i (231 + 45 * i + 0) := zCo_t (w := 0) (by decide) hi rfl
  have x := zIx_t (i := i) (w := 11) hi (by decide) (by decide) (rfl : 231 + 45 * i + 11 = _)
  refine ⟨zS1_k (a := 43) (j := i) (v := u) (zS1_g (v := u) (zS1_up (v := 1) h.1 c0) x) (by decide), ?_⟩
  obtain ⟨ha, hb, hc, hd, he, hf, hu⟩ := zS2.g hT hS h.2 (zEx.up (v := 1) c0)
  have hw : ∀ j, zW (upd (k 23) i 1 j) → zW (k 23 j) := by
    intro j q
    by_cases e : j = i
    · subst e; rw [pk_us] at q; exact absurd q (by unfold zW; decide)
    · rw [pk_un e] at q; exact q
  have h3 : ∀ (v : Int32) j, v ≠ 1 → upd (k 23) i 1 j = v → k 23 j = v := by
    intro v j hv q
    by_cases e : j = i
    · subst e; rw [pk_us] at q; exact absurd q.symm hv
    · rw [pk_un e] at q; exact q
  refine ⟨ha.o hT (fun j _ => by omega), hb.o hT (fun j _ => by omega), fun j hj q => ?_, ?_, ?_, hf.o hS (fun s p _ _ => by omega), hu.o (by omega)⟩
  · show upd _ (231 + 45 * i + 11) u (242 + 45 * j) = upd (k 43) i u j
    by_cases e : j = i
    · subst e; rw [show 242 + 45 * j = 231 + 45 * j + 11 from by omega, pk_us, pk_us]
    · have q1 : upd (k 23) i 1 j = 1 := q
      rw [pk_un e] at q1
      rw [pk_un (by omega), pk_un e]
      exact hc j hj q1
  · have hd1 := hd.o (m := 231 + 45 * i + 11) (v := u) hT (fun j _ => by omega)
    exact fun j hj => ⟨fun q => (hd1 j hj).1 (hw j q), fun q => (hd1 j hj).2.1 (h3 3 j (by decide) q), fun q => (hd1 j hj).2.2 (h3 4 j (by decide) q)⟩
  · have he1 := he.o (m := 231 + 45 * i + 11) (v := u) hT (by omega) (fun j _ => by omega)
    exact ⟨he1.1, fun j hj q => he1.2.1 j hj (hw j q), fun j j1 hj hj1 q q1 => he1.2.2 j j1 hj hj1 (hw j q) (hw j1 q1)⟩
theorem zSim.clp {b : Nat} {k : am_M} {i : Nat} {x : Int32} (h : zSim b k g) (hT : zT k ≤ 24) (hS : zSc k ≤ 60) (hi : i < zT k) (h41 : k 41 i ≠ -1) (hx : x ≠ -1) : zSim b (am_up k 41 i x) (upd g (231 + 45 * i + 10) x) := by
  have x10 := zIx_t (i := i) (w := 10) (by omega) (by decide) (by decide) (rfl : 231 + 45 * i + 10 = _)
  refine ⟨zS1_k (a := 41) (j := i) (v := x) (zS1_g (v := x) h.1 x10) (by decide), ?_⟩
  obtain ⟨ha, hb, hc, hd, he, hf, hu⟩ := h.2
  refine ⟨ha.o hT (fun j _ => by omega), fun j hj => ?_, hc.o hT (fun j _ => by omega), hd.o hT (fun j _ => by omega), he.o hT (by omega) (fun j _ => by omega), hf.o hS (fun s p _ _ => by omega), hu.o (by omega)⟩
  show (upd (k 41) i x j = -1 → _) ∧ (upd (k 41) i x j ≠ -1 → _ ∧ _ = upd (k 41) i x j)
  by_cases e : j = i
  · subst e
    rw [pk_us]
    refine ⟨fun z => absurd z hx, fun _ => ⟨?_, ?_⟩⟩
    · rw [pk_un (by omega)]; exact ((hb j hj).2 h41).1
    · rw [show 241 + 45 * j = 231 + 45 * j + 10 from by omega, pk_us]
  · rw [pk_un e, pk_un (by omega), pk_un (j := 241 + 45 * j) (by omega)]
    exact hb j hj
theorem zSim.cl0 {b : Nat} {k : am_M} {i : Nat} (h : zSim b k g) (hT : zT k ≤ 24) (hS : zSc k ≤ 60) (hi : i < 24) : zSim b (am_up k 41 i (-1)) (upd g (231 + 45 * i + 9) 0) := by
  have x9 := zIx_t (i := i) (w := 9) (by omega) (by decide) (by decide) (rfl : 231 + 45 * i + 9 = _)
  refine ⟨zS1_k (a := 41) (j := i) (v := -1) (zS1_g (v := 0) h.1 x9) (by decide), ?_⟩
  obtain ⟨ha, hb, hc, hd, he, hf, hu⟩ := h.2
  refine ⟨ha.o hT (fun j _ => by omega), fun j hj => ?_, hc.o hT (fun j _ => by omega), hd.o hT (fun j _ => by omega), he.o hT (by omega) (fun j _ => by omega), hf.o hS (fun s p _ _ => by omega), hu.o (by omega)⟩
  show (upd (k 41) i (-1) j = -1 → _) ∧ (upd (k 41) i (-1) j ≠ -1 → _ ∧ _ = upd (k 41) i (-1) j)
  by_cases e : j = i
  · subst e
    rw [pk_us]
    refine ⟨fun _ => ?_, fun z => absurd rfl z⟩
    rw [show 240 + 45 * j = 231 + 45 * j + 9 from by omega, pk_us]
  · rw [pk_un e, pk_un (by omega), pk_un (j := 241 + 45 * j) (by omega)]
    exact hb j hj
/-- a failure that stays a task's reason -/
theorem zSim.flr {b : Nat} {k : am_M} {i : Nat} {x : Int32} (h : zSim b k g) (hT : zT k ≤ 24) (hS : zSc k ≤ 60) (hi : i < 24) : zSim b (am_up k 39 i x) (upd g (231 + 45 * i + 8) x) := by
  have x8 := zIx_t (i := i) (w := 8) (by omega) (by decide) (by decide) (rfl : 231 + 45 * i + 8 = _)
  refine ⟨zS1_k (a := 39) (j := i) (v := x) (zS1_g (v := x) h.1 x8) (by decide), ?_⟩
  obtain ⟨ha, hb, hc, hd, he, hf, hu⟩ := h.2
  refine ⟨fun j hj q => ?_, hb.o hT (fun j _ => by omega), hc.o hT (fun j _ => by omega), hd.o hT (fun j _ => by omega), he.o hT (by omega) (fun j _ => by omega), hf.o hS (fun s p _ _ => by omega), hu.o (by omega)⟩
  show upd g (231 + 45 * i + 8) x (239 + 45 * j) = upd (k 39) i x j
  by_cases e : j = i
  · subst e; rw [show 239 + 45 * j = 231 + 45 * j + 8 from by omega, pk_us, pk_us]
  · rw [pk_un (by omega), pk_un e]; exact ha j hj q
set_option maxRecDepth 20000 in
theorem y_sleeps {b i : Nat} {k : am_M} {t o : Int32} (hS : zSim b k g) (hT : zT k ≤ 24) (hSc : zSc k ≤ 60) (hi : i < 24) (ht : t = nI i) (h : ∀ g1, zSim b (ySleep k i (k 100 5 + o)) g1 → R none (am_ua σ 190 g1)) : sp_X12_sleeps [.ref 189, .int t, .int o] (am_ua σ 190 g) R := by
  refine ⟨rfl, am_go hm_X12_sleeps (fun p => Nat.beq p 18) 40 ?_⟩
  refine y_sets i 0 ht rfl hi (by decide) ?_
  refine wn_ld hm_X12_sleeps 175 rfl ((pk_un (by omega)).trans (hS.cnt 5 (by decide) (by decide) (by decide))) (by decide) rfl ?_
  refine am_go hm_X12_sleeps (fun _ => false) 40 ?_
  refine y_sets i 11 ht rfl hi (by decide) ?_
  exact h _ (hS.sleep hT hSc hi)
set_option maxRecDepth 20000 in
theorem y_simple {b i : Nat} {k : am_M} {t x pl : Int32} (hS : zSim b k g) (hT : zT k ≤ 24) (hSc : zSc k ≤ 60) (hi : i < zT k) (ht : t = nI i) (h : ∀ g1, zSim b (hSimple k (nI i) (iSign x) (iOpnd x)) g1 → R (some (.int (pl + (if iSign x = 122 then (if k 25 i = 0 then 2 else 1) else 1)))) (am_ua σ 190 g1)) : sp_X12_simple [.ref 189, .int t, .int x, .int pl] (am_ua σ 190 g) R := by
  have hi24 : i < 24 := by omega
  rw [e_Simple hi24] at h
  have c1 := hS.task hi 1 (by decide) hT
  refine ⟨rfl, am_go hm_X12_simple (fun p => Nat.beq p 111) 60 ?_⟩
  have k111 : ∀ (g1 : Nat → Int32) (ls : am_L), (∀ q ∈ ([(3, .int pl)] : am_L), am_lv ls q.1 = some q.2) → R (some (.int (pl + 1))) (am_ua σ 190 g1) → am_Wp (am_lk cl_X12_simple) 111 ls [] (am_ua σ 190 g1) R := by
    intro g1 ls hls hR
    exact am_Wp.sub hm_X12_simple (am_le_of hls) (am_go hm_X12_simple (fun _ => false) 20 hR)
  have F : ∀ v, ∀ q ∈ ([(3, .int pl)] : am_L), am_lv ((4, v) :: am_rm (am_args 0 [.ref 189, .int t, .int x, .int pl]) 4) q.1 = some q.2 := fun v => List.forall_mem_cons.mpr ⟨rfl, fun _ q => by cases q⟩
  refine am_ite (fun z => ?_) (fun z1 => ?_)
  · have z : iSign x = 43 := z
    rw [if_pos z, if_neg (by rw [z]; decide)] at h
    refine y_of i 1 ht rfl hi24 (by decide) c1 ?_
    refine y_sets i 1 ht rfl hi24 (by decide) ?_
    exact k111 _ _ (F _) (h _ (hS.put (w := 1) hT hSc hi24 (by decide)))
  have z1 : ¬ iSign x = 43 := z1
  rw [if_neg z1] at h
  refine am_ite (fun z => ?_) (fun z2 => ?_)
  · have z : iSign x = 45 := z
    rw [if_pos z, if_neg (by rw [z]; decide)] at h
    refine y_of i 1 ht rfl hi24 (by decide) c1 ?_
    refine y_sets i 1 ht rfl hi24 (by decide) ?_
    refine k111 _ _ (F _) (h _ ?_)
    rw [← Int32.sub_eq_add_neg]
    exact hS.put (w := 1) hT hSc hi24 (by decide)
  have z2 : ¬ iSign x = 45 := z2
  rw [if_neg z2] at h
  refine am_ite (fun z => ?_) (fun z3 => ?_)
  · have z : iSign x = 119 := z
    rw [if_pos z, if_neg (by rw [z]; decide)] at h
    exact y_sleeps hS hT hSc hi24 ht (fun g1 S1 => k111 _ _ (F _) (h g1 S1))
  have z3 : ¬ iSign x = 119 := z3
  rw [if_neg z3] at h
  refine am_ite (fun z => ?_) (fun z4 => ?_)
  · have z : iSign x = 122 := z
    rw [if_pos z] at h
    refine y_of i 1 ht rfl hi24 (by decide) c1 ?_
    refine am_ite (fun q => ?_) (fun q => ?_)
    · have q : k 25 i = 0 := q
      rw [if_pos q] at h
      exact h g hS
    · have q : ¬ k 25 i = 0 := q
      rw [if_neg q] at h
      exact k111 _ _ (F _) (h g hS)
  · have z4 : ¬ iSign x = 122 := z4
    rw [if_neg z4] at h
    exact k111 _ _ (F _) (h g hS)
theorem hSimple_41 {k : am_M} {i : Nat} {s o v : Int32} (hi : i < 24) : hSimple (am_up k 41 i v) (nI i) s o = am_up (hSimple k (nI i) s o) 41 i v := by
  rw [e_Simple hi, e_Simple hi]
  split
  · exact am_up_comm (by decide)
  · split
    · exact am_up_comm (by decide)
    · split
      · unfold ySleep
        rw [am_up_comm (a := 43) (b := 41) (by decide), am_up_comm (a := 23) (b := 41) (by decide)]
        rfl
      · rfl
set_option maxRecDepth 20000 in
theorem y_cleanup {e b w N i : Nat} {k : am_M} {t : Int32} (hS : zSim b k g) (hI : zInw i e w N k) (ht : t = nI i) (hi : i < zT k) (h0 : k 23 i = 0) (h41 : k 41 i ≠ -1) (h : ∀ g1, zSim b (hCleanC k (nI i)) g1 → R none (am_ua σ 190 g1)) : sp_X12_cleanup [.ref 189, .int t] (am_ua σ 190 g) R := by
  have hT : zT k ≤ 24 := hI.1.1.1.2
  have hSc : zSc k ≤ 60 := hI.1.1.2.1.2
  have hi24 : i < 24 := by omega
  obtain ⟨a1, a2, a3, a4, a5⟩ := hI.1.clean hi h41
  obtain ⟨q0, q1, q2, q3, q4, q5, q6⟩ := hI.1.inner hi a2
  have hd5 := (hI.1.2.2.1 i hi).1
  have b5 := hd5.2
  have b1 := a1.2
  have b4 := a4.2
  have hb := (hS.2.2.1 i hi).2 h41
  have hf := hS.2.2.2.2.2.2.1 (zIs k i) q1 (by rw [a3]; decide)
  rw [hI.1.eclean hi h41] at h
  refine ⟨rfl, am_go hm_X12_cleanup (fun p => Nat.beq p 30) 60 ?_⟩
  refine y_inner i (zc (k 29 i)) ht hi24 (v := nI (zIs k i)) (by
    rw [show 234 + 45 * i = 231 + 45 * i + 3 from by omega, hS.task hi 3 (by decide) hT]; exact hd5.1) a2 b5 (by
    rw [hS.st hT hi (l := zc (k 29 i) - 1) (by omega) (by omega)]; exact q6) ?_
  refine y_scope (zIs k i) rfl ?_
  refine y_of i 10 ht rfl hi24 (by decide) (v := nI (zc (k 41 i))) (by rw [show 231 + 45 * i + 10 = 241 + 45 * i from by omega]; exact hb.2.trans a1.1) ?_
  refine wn_ld hm_X12_cleanup (1318 + 32 * zIs k i) (by rw [show 1318 + 32 * zIs k i = 1311 + 32 * zIs k i + 7 from by omega]; exact nI_add _ 7) (v := nI (zc (k 78 (zIs k i)))) (hf.1.trans a4.1) (by omega) rfl ?_
  refine am_go hm_X12_cleanup (fun p => Nat.beq p 53) 60 ?_
  refine am_ite (fun c => ?_) (fun c => ?_)
  · have hl : zc (k 41 i) < zc (k 78 (zIs k i)) := (nI_ltI (by omega) (by omega)).mp c
    rw [if_pos hl] at h
    refine wn_ld hm_X12_cleanup (1319 + 32 * zIs k i + zc (k 41 i)) (by
      rw [show 1319 + 32 * zIs k i + zc (k 41 i) = 1311 + 32 * zIs k i + 7 + 1 + zc (k 41 i) from by omega]
      show nI (1311 + 32 * zIs k i) + 7 + 1 + nI (zc (k 41 i)) = _
      rw [show nI (1311 + 32 * zIs k i) + 7 = nI (1311 + 32 * zIs k i + 7) from nI_add _ 7, show nI (1311 + 32 * zIs k i + 7) + 1 = nI (1311 + 32 * zIs k i + 7 + 1) from nI_add _ 1, nI_add]) (v := k 80 (zIs k i * 24 + zc (k 41 i))) (hf.2 _ (by omega) hl) (by omega) rfl ?_
    refine am_go hm_X12_cleanup (fun p => Nat.beq p 174) 80 ?_
    generalize k 80 (zIs k i * 24 + zc (k 41 i)) = x at h
    unfold yClI at h
    refine am_ite (fun c1 => ?_) (fun c1 => ?_)
    · have c1 : iSign x = 33 := c1
      rw [if_pos c1] at h
      have S1 := hS.cl0 (i := i) hT hSc hi24
      have I1 := hI.clend hi h0 h41
      unfold yFIn at h
      refine y_sets i 9 ht rfl hi24 (by decide) ?_
      refine y_of i 6 ht rfl hi24 (by decide) (S1.task (i := i) hi 6 (by decide) hT) ?_
      refine am_ite (fun c2 => ?_) (fun c2 => ?_)
      · have c2 : k 35 i = 0 := c2
        have c2' : am_up k 41 i (-1) 35 i = 0 := c2
        rw [if_pos c2'] at h
        subst ht
        refine zs_fault (a := iOpnd x) (t := nI i) (u := -1) S1 I1.1 (fun g2 S2 => ?_)
        refine y_of i 3 rfl rfl hi24 (by decide) (v := nI (zc (k 29 i))) ((S2.task (i := i) hi 3 (by decide) hT).trans hd5.1) ?_
        obtain ⟨d, hd1⟩ : ∃ d, zc (k 29 i) = d + 1 := ⟨zc (k 29 i) - 1, by omega⟩
        have hl1 : tInLv (am_up k 41 i (-1)) (nI i) - 1 = nI (zc (k 29 i)) - 2 := by
          unfold tInLv
          rw [ra_T_depth hi24]
          show k 29 i - 1 - 1 = _
          conv => lhs; rw [hd5.1]
          rw [hd1, (nI_2 d).1, (nI_2 d).2]
        refine y_failsF (e := e) (n := zc (k 29 i) - 1) (u := -1) S2 I1 rfl hi (Nat.sub_le _ _) (by rw [hd1, Nat.add_sub_cancel]; exact (nI_2 d).1) rfl (Or.inl rfl) (fun g3 S3 => ?_)
        refine h g3 ?_
        rw [hl1]
        exact S3
      · have c2 : ¬ k 35 i = 0 := c2
        have c2' : ¬ am_up k 41 i (-1) 35 i = 0 := c2
        rw [if_neg c2'] at h
        refine y_of i 6 ht rfl hi24 (by decide) (S1.task (i := i) hi 6 (by decide) hT) ?_
        refine am_ite (fun c3 => ?_) (fun c3 => ?_)
        · have c3 : k 35 i = 3 := c3
          have c3' : am_up k 41 i (-1) 35 i = 3 := c3
          rw [if_pos c3'] at h
          have hF := I1.1.Flt
          have F89 : k 89 1 = nI (zF k) := hI.1.1.2.2.1.1
          have h8 := S1.2.1 i hi c2
          refine y_of i 8 ht rfl hi24 (by decide) (v := k 39 i) (by rw [show 231 + 45 * i + 8 = 239 + 45 * i from by omega]; exact h8) ?_
          refine zs_fault (a := iOpnd x) (t := t) (u := k 39 i) S1 I1.1 (fun g2 S2 => ?_)
          refine y_sets i 8 ht rfl hi24 (by decide) ?_
          refine h _ ?_
          rw [I1.1.fadd, ← ht, show am_up k 41 i (-1) 89 1 = nI (zF (am_up k 41 i (-1))) from F89]
          exact S2.flr hT hSc hi24
        · have c3 : ¬ k 35 i = 3 := c3
          have c3' : ¬ am_up k 41 i (-1) 35 i = 3 := c3
          rw [if_neg c3'] at h
          refine wn_ld hm_X12_cleanup 179 rfl (S1.cnt 9 (by decide) (by decide) (by decide)) (by decide) rfl ?_
          refine am_go hm_X12_cleanup (fun p => Nat.beq p 177) 40 ?_
          refine wn_st hm_X12_cleanup 179 rfl (by decide) rfl ?_
          refine am_go hm_X12_cleanup (fun _ => false) 40 ?_
          exact h _ (S1.supp hT hSc)
    · have c1 : ¬ iSign x = 33 := c1
      rw [if_neg c1, hSimple_41 hi24] at h
      refine y_simple hS hT hSc hi ht (fun g1 S1 => ?_)
      refine y_sets i 10 ht rfl hi24 (by decide) ?_
      refine h _ ?_
      have e1 : hSimple k (nI i) (iSign x) (iOpnd x) 41 i = k 41 i := by
        rw [e_Simple hi24]
        split
        · rfl
        · split
          · rfl
          · split <;> rfl
      have e21 : hSimple k (nI i) (iSign x) (iOpnd x) 21 = k 21 := by
        rw [e_Simple hi24]
        split
        · rfl
        · split
          · rfl
          · split <;> rfl
      have e57 : hSimple k (nI i) (iSign x) (iOpnd x) 57 = k 57 := by
        rw [e_Simple hi24]
        split
        · rfl
        · split
          · rfl
          · split <;> rfl
      have hp : k 41 i + (if iSign x = 122 then (if k 25 i = 0 then 2 else 1) else 1) ≠ -1 := by
        have e2 : ∀ n, zc (k 41 i) + n ≤ 28 → k 41 i + nI n ≠ -1 := by
          intro n hn
          conv => lhs; lhs; rw [a1.1]
          rw [nI_add]
          exact nI_m1 (by omega)
        split
        · split
          · exact e2 2 (by omega)
          · exact e2 1 (by omega)
        · exact e2 1 (by omega)
      rw [← a1.1]
      exact S1.clp (show zc (hSimple k (nI i) (iSign x) (iOpnd x) 21 0) ≤ 24 by rw [e21]; exact hT) (show zc (hSimple k (nI i) (iSign x) (iOpnd x) 57 0) ≤ 60 by rw [e57]; exact hSc) (show i < zc (hSimple k (nI i) (iSign x) (iOpnd x) 21 0) by rw [e21]; exact hi) (by rw [e1]; exact h41) hp
  · have hl : ¬ zc (k 41 i) < zc (k 78 (zIs k i)) := fun z => c ((nI_ltI (by omega) (by omega)).mpr z)
    rw [if_neg hl] at h
    refine y_sets i 9 ht rfl hi24 (by decide) ?_
    exact h _ (hS.cl0 hT hSc hi24)
end ZU
