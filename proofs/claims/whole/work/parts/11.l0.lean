/-! an instruction executed: both sides -/
section ZL1
variable {σ : am_M} {g : Nat → Int32} {R : am_R}
set_option maxRecDepth 20000 in
theorem y_closes {e b w N i d p : Nat} {k : am_M} {t : Int32} (hS : zSim b (am_up k 27 i (nI (p + 1))) g) (hI : zInw i e w N k) (ht : t = nI i) (hi : i < zT k) (hd : zc (k 29 i) = d + 1) (hp : k 27 i = nI p) (h : ∀ g1, zSim b (hClose k (nI i)) g1 → R none (am_ua σ 190 g1)) : sp_X12_closes [.ref 189, .int t] (am_ua σ 190 g) R := by
  obtain ⟨q0, q1, q2, q3, q4, q5, q6⟩ := hI.1.inner hi (by omega)
  have hT : zT k ≤ 24 := hI.1.1.1.2
  have hSc : zSc k ≤ 60 := hI.1.1.2.1.2
  have hi24 : i < 24 := by omega
  have h5 := (hI.1.2.2.1 i hi).1.2
  have e29n : k 29 i = nI (d + 1) := by rw [← hd]; exact (hI.1.2.2.1 i hi).1.1
  rw [hI.1.eclose hi hd] at h
  have hs60 : zIs k i < 60 := by omega
  have c3 := hS.task (i := i) hi 3 (by decide) hT
  refine ⟨rfl, am_go hm_X12_closes (fun p => Nat.beq p 76) 60 ?_⟩
  refine y_inner i (d + 1) ht hi24 (v := nI (zIs k i)) (by
    rw [show 234 + 45 * i = 231 + 45 * i + 3 from by omega]; exact c3.trans e29n) (by omega) (by omega) (by
    rw [hS.st (i := i) (l := d + 1 - 1) hT hi (by show d + 1 - 1 < zc (k 29 i); omega) (by omega)]
    have := q6
    rw [hd] at this
    exact this) ?_
  refine y_children (k := am_up k 27 i (nI (p + 1))) hS hI.1.1.1 hI.1.2.2.2.2.2.1 q1 rfl (Or.inl ⟨rfl, rfl⟩) ?_
  show (k 67 (zIs k i) ≤ 0 → _) ∧ (¬ k 67 (zIs k i) ≤ 0 → _)
  refine am_ite (fun c1 => ?_) (fun c1 => ?_)
  · rw [if_pos c1] at h
    refine y_hasFresh (k := am_up k 27 i (nI (p + 1))) hS q1 hs60 rfl ?_
    refine am_ite (fun c2 => ?_) (fun c2 => ?_)
    · have c2 : ¬ k 73 (zIs k i) = 1 := bI_0.mp c2
      rw [if_neg c2] at h
      refine y_endsScope (k := am_up k 27 i (nI (p + 1))) (d := d) hS hT hSc hi hs60 e29n (by omega) ht rfl (fun g1 S1 => ?_)
      refine am_go hm_X12_closes (fun _ => false) 20 (h g1 ?_)
      have ee : yEndE (am_up k 27 i (nI (p + 1))) i (zIs k i) d = am_up (yEndE k i (zIs k i) d) 27 i (k 27 i + 1) := by
        unfold yEndE
        rw [am_up_comm (a := 27) (b := 65) (by decide), am_up_comm (a := 27) (b := 29) (by decide), hp, nI_1]
      rw [← ee]
      exact S1
    · have c2 : k 73 (zIs k i) = 1 := bI_n0.mp c2
      rw [if_pos c2] at h
      refine y_cleans (k := am_up k 27 i (nI (p + 1))) hS hT hSc hi24 hs60 (by show k 73 (zIs k i) ≠ 0; rw [c2]; decide) ht rfl (fun g1 S1 => ?_)
      refine y_of i 2 ht rfl hi24 (by decide) (v := nI (p + 1)) ((S1.task (i := i) hi 2 (by decide) hT).trans pk_us) ?_
      refine y_sets i 2 ht rfl hi24 (by decide) ?_
      refine am_go hm_X12_closes (fun _ => false) 20 (h _ ?_)
      rw [nI_pred]
      have S2 := S1.put (i := i) (w := 2) (v := nI p) hT hSc hi24 (by decide)
      have ee : am_up (yEndC (am_up k 27 i (nI (p + 1))) i (zIs k i)) 27 i (nI p) = yEndC k i (zIs k i) := by
        unfold yEndC
        rw [am_up_comm (k := k) (a := 27) (b := 73) (by decide), am_up_comm (a := 27) (b := 41) (by decide), am_up_comm (a := 27) (b := 100) (by decide), am_up_up]
        exact am_up_id hp
      have S2 : zSim b (am_up (yEndC (am_up k 27 i (nI (p + 1))) i (zIs k i)) 27 i (nI p)) _ := S2
      rw [ee] at S2
      exact S2
  · rw [if_neg c1] at h
    refine y_sets i 0 ht rfl hi24 (by decide) ?_
    have S1 := hS.st5 (i := i) (v := 5) hT hSc hi24 (by decide) (by unfold zW; decide)
    refine y_of i 2 ht rfl hi24 (by decide) (v := nI (p + 1)) ((S1.task (i := i) hi 2 (by decide) hT).trans pk_us) ?_
    refine y_sets i 2 ht rfl hi24 (by decide) ?_
    refine am_go hm_X12_closes (fun _ => false) 20 (h _ ?_)
    rw [nI_pred]
    have S2 : zSim b (am_up (am_up (am_up k 27 i (nI (p + 1))) 23 i 5) 27 i (nI p)) _ := S1.put (i := i) (w := 2) (v := nI p) hT hSc hi24 (by decide)
    have ee : am_up (am_up (am_up k 27 i (nI (p + 1))) 23 i 5) 27 i (nI p) = am_up k 23 i 5 := by
      rw [am_up_comm (k := k) (a := 27) (b := 23) (by decide), am_up_up]
      exact am_up_id hp
    rw [ee] at S2
    exact S2
theorem hSimple_27 {k : am_M} {i : Nat} {s o v : Int32} (hi : i < 24) : hSimple (am_up k 27 i v) (nI i) s o = am_up (hSimple k (nI i) s o) 27 i v := by
  rw [e_Simple hi, e_Simple hi]
  split
  · exact am_up_comm (by decide)
  · split
    · exact am_up_comm (by decide)
    · split
      · unfold ySleep
        rw [am_up_comm (a := 43) (b := 27) (by decide), am_up_comm (a := 23) (b := 27) (by decide)]
        rfl
      · rfl
set_option maxRecDepth 20000 in
theorem y_executes {i N : Nat} {k : am_M} {t : Int32} (hS : zSim 2 k g) (h : zTurn i N k) (hN : N < 2 ^ 26) (h35 : k 35 i = 0) (h41 : k 41 i = -1) (hp : zc (k 27 i) < zc (k 54 i)) (ht : t = nI i) (hR : ∀ g1, zSim 3 (hExec k (nI i)) g1 → R none (am_ua σ 190 g1)) : sp_X12_executes [.ref 189, .int t] (am_ua σ 190 g) R := by
  have H := h.1
  have hi := h.2.2.1
  have hT : zT k ≤ 24 := H.1.1.1.2
  have hSc : zSc k ≤ 60 := H.1.1.2.1.2
  have hi24 : i < 24 := by omega
  have h0 := h.2.2.2.1
  obtain ⟨a1, a2, a3, a4, a5⟩ := H.1.beh hi
  have b1 := a1.2
  subst ht
  rw [H.1.eexec hi hp] at hR
  refine ⟨rfl, am_go hm_X12_executes (fun p => Nat.beq p 22) 60 ?_⟩
  refine y_of i 2 rfl rfl hi24 (by decide) (v := nI (zc (k 27 i))) ((hS.task hi 2 (by decide) hT).trans a2.1) ?_
  refine y_task i rfl ?_
  refine wn_ld hm_X12_executes (252 + 45 * i + zc (k 27 i)) (by
    show nI (231 + 45 * i) + nI 20 + nI 1 + nI (zc (k 27 i)) = _
    rw [nI_add, nI_add, nI_add]; congr 1; omega) (hS.code hT hi hp (by omega)) (by omega) rfl ?_
  refine am_go hm_X12_executes (fun p => Nat.beq p 140 || Nat.beq p 150 || Nat.beq p 170 || Nat.beq p 180 || Nat.beq p 188 || Nat.beq p 229 || Nat.beq p 267 || Nat.beq p 279 || Nat.beq p 289 || Nat.beq p 321 || Nat.beq p 339 || Nat.beq p 349) 60 ?_
  refine y_sets i 2 rfl rfl hi24 (by decide) ?_
  have ep1 : nI (zc (k 27 i)) + 1 = nI (zc (k 27 i) + 1) := nI_1 _
  rw [ep1]
  have S1 : zSim 2 (am_up k 27 i (nI (zc (k 27 i) + 1))) (upd g (231 + 45 * i + 2) (nI (zc (k 27 i) + 1))) := hS.put (i := i) (w := 2) hT hSc hi24 (by decide)
  generalize hgg : upd g (231 + 45 * i + 2) (nI (zc (k 27 i) + 1)) = g1 at S1
  generalize hx : zCd (k 56) i (zc (k 27 i)) = x at hR
  have F : ∀ q ∈ ([(0, .ref 189), (1, .int (nI i)), (2, .int (nI (zc (k 27 i)))), (3, .int x), (4, .int (iOpnd x))] : am_L), am_lv ((4, .int (iOpnd x)) :: am_rm ((3, .int x) :: am_rm ((2, .int (nI (zc (k 27 i)))) :: am_rm (am_args 0 [.ref 189, .int (nI i)]) 2) 3) 4) q.1 = some q.2 := List.forall_mem_cons.mpr ⟨rfl, List.forall_mem_cons.mpr ⟨rfl, List.forall_mem_cons.mpr ⟨rfl, List.forall_mem_cons.mpr ⟨rfl, List.forall_mem_cons.mpr ⟨rfl, fun _ q => by cases q⟩⟩⟩⟩⟩
  by_cases y41 : iSign x = 41
  · -- )
    rw [if_pos y41, y41, e_Ex41] at hR
    have cl := h.close h35 h41 hp (by rw [hx]; exact y41)
    obtain ⟨d, hd⟩ : ∃ d, zc (k 29 i) = d + 1 := ⟨zc (k 29 i) - 1, by omega⟩
    have no : ∀ v : Int32, v ≠ 41 → ∀ {A B : Prop}, B → ((iSign x = v → A) ∧ (¬ iSign x = v → B)) := fun v hv A B b => ⟨fun z => absurd (z.symm.trans y41) hv, fun _ => b⟩
    refine no 33 (by decide) (no 40 (by decide) ⟨fun _ => ?_, fun z => absurd y41 z⟩)
    refine am_Wp.sub hm_X12_executes (am_le_of F) (am_go hm_X12_executes (fun _ => false) 40 ?_)
    exact y_closes (p := zc (k 27 i)) S1 H rfl hi hd a2.1 (fun g2 S2 => hR g2 S2.w1)
  rw [if_neg y41] at hR
  obtain ⟨X, Pl, o, hq, Bo⟩ := h.adv h35 h41 hp (by rw [hx]; exact y41)
  rw [hx] at X Pl o hq Bo
  have st1 : ¬ iSign x = 122 → zSt k i x = 1 := fun z => if_neg z
  have hd5 := (H.1.2.2.1 i hi).1.2
  -- the cases but z
  have X1 : ¬ iSign x = 122 → zX i N (am_up k 27 i (nI (zc (k 27 i) + 1))) := fun z => by rw [← st1 z]; exact X
  have R1 : ¬ iSign x = 122 → ∀ g2, zSim 3 (hExec2 (am_up k 27 i (nI (zc (k 27 i) + 1))) (nI i) (iSign x) (iOpnd x)) g2 → R none (am_ua σ 190 g2) := fun z => by rw [← st1 z]; exact hR
  generalize hk1 : am_up k 27 i (nI (zc (k 27 i) + 1)) = k1 at S1 X1 R1
  have e29 : k1 29 = k 29 := by rw [← hk1]; rfl
  have e54 : k1 54 = k 54 := by rw [← hk1]; rfl
  have e56 : k1 56 = k 56 := by rw [← hk1]; rfl
  have e27 : k1 27 i = nI (zc (k 27 i) + 1) := by rw [← hk1]; exact pk_us
  have eT : zT k1 = zT k := by rw [← hk1]; rfl
  have eS : zSc k1 = zSc k := by rw [← hk1]; rfl
  have opn : ∀ (kd dl : Int32) (s : Int32), iSign x = s → (iSign x = 40 ∨ iSign x = 91 ∨ iSign x = 123) → ((s = 40 ∧ kd = 0 ∧ dl = -1) ∨ (s = 91 ∧ kd = 1 ∧ dl = k1 100 5 + iOpnd x) ∨ (s = 123 ∧ kd = 2 ∧ dl = -1)) → ∀ (R' : am_R), (∀ g2, zSim 3 (hOpen k1 (nI i) s (iOpnd x)) g2 → R' none (am_ua σ 190 g2)) → sp_X12_opens [.ref 189, .int (nI i), .int kd, .int dl] (am_ua σ 190 g1) R' := by
    intro kd dl s es cb hs R' hr
    have n122 : ¬ iSign x = 122 := fun z => by rw [z] at cb; exact absurd cb (by decide)
    have X1 := X1 n122
    obtain ⟨B1, B2, B3⟩ := Bo cb
    have hd := (o.1 cb).2
    rw [B1] at hq
    refine y_opens (d := zc (k 29 i)) (p := zc (k 27 i) + 1) (e := 0) S1 X1.1 rfl X1.2.2.1 (by rw [e29]) hd e27 (by rw [e54]; exact hq) (by rw [e56, e54]; exact B2) (fun g2 S2 => ?_)
    refine hr g2 ?_
    rw [X1.eopen (d := zc (k 29 i)) (p := zc (k 27 i) + 1) (by rw [e29]) hd e27 (by rw [e54]; exact hq) hs]
    exact S2.w1
  have fin : ∀ (s : am_M), R none s → ∀ ls, am_Wp (am_lk cl_X12_executes) 362 ls [] s R := fun s hr ls => am_go hm_X12_executes (fun _ => false) 20 hr
  refine am_ite (fun c1 => ?_) (fun c1 => ?_)
  · -- !
    have c1 : iSign x = 33 := c1
    have n122 : ¬ iSign x = 122 := by rw [c1]; decide
    have R1 := R1 n122
    unfold hExec2 at R1
    rw [if_pos c1] at R1
    have X1 := X1 n122
    refine am_Wp.sub hm_X12_executes (am_le_of F) (am_go hm_X12_executes (fun _ => false) 40 ?_)
    exact y_fails2 (e := 0) S1 X1.1 rfl X1.2.2.1 (fun g2 S2 => R1 g2 S2.w1)
  have c1 : ¬ iSign x = 33 := c1
  refine am_ite (fun c2 => ?_) (fun c2 => ?_)
  · have c2 : iSign x = 40 := c2
    have R1 := R1 (by rw [c2]; decide)
    unfold hExec2 at R1
    rw [if_neg c1, if_pos c2] at R1
    refine am_Wp.sub hm_X12_executes (am_le_of F) (am_go hm_X12_executes (fun _ => false) 40 ?_)
    exact opn 0 (-1) _ rfl (Or.inl c2) (Or.inl ⟨c2, rfl, rfl⟩) _ (fun g2 S2 => R1 g2 S2)
  have c2 : ¬ iSign x = 40 := c2
  refine am_ite (fun z => absurd z y41) (fun _ => ?_)
  refine am_ite (fun c3 => ?_) (fun c3 => ?_)
  · have c3 : iSign x = 60 := c3
    have n122 : ¬ iSign x = 122 := by rw [c3]; decide
    have R1 := R1 n122
    unfold hExec2 at R1
    rw [if_neg c1, if_neg c2, if_neg y41, if_pos c3] at R1
    have X1 := X1 n122
    have hc := o.2.2.2.2.2.1 (Or.inr c3)
    have hc3 := hc.2
    rw [hc.1] at R1
    have J := X1.weak.receive hN X1.2.2.1 (cc := zc (iOpnd x)) (by omega) X1.2.2.2.1 X1.2.2.2.2.1
    obtain ⟨_, _, T3, _⟩ := X1.weak.take (ch := 0) X1.2.2.1 (cc := zc (iOpnd x)) (by omega) X1.2.2.2.1
    refine am_Wp.sub hm_X12_executes (am_le_of F) (am_go hm_X12_executes (fun _ => false) 40 ?_)
    refine y_canReceive (c := zc (iOpnd x)) S1 X1.1.1.1.1 (by omega) hc.1 ?_
    refine am_ite (fun z => ?_) (fun z => ?_)
    · refine y_waits (f := iOpnd x) (s := iOpnd x) S1 (by rw [eT]; exact hT) (by rw [eS]; exact hSc) X1.2.2.1 rfl (zN_le X1.1.1.tm.2 (by omega)) (Or.inr (Or.inl ⟨rfl, rfl, rfl⟩)) (fun g2 S2 => ?_)
      exact R1 g2 (by rw [J.2.2.1 (T3.trans z), ← hc.1]; exact S2)
    · refine y_receives (c := zc (iOpnd x)) S1 X1.weak rfl hc.1 X1.2.2.1 (by omega) X1.2.2.2.1 (bI_n0.mp z) (fun g2 S2 => ?_)
      exact R1 g2 (by rw [J.2.2.2 (fun z3 => z (T3.symm.trans z3))]; exact S2.w1)
  have c3 : ¬ iSign x = 60 := c3
  refine am_ite (fun c4 => ?_) (fun c4 => ?_)
  · have c4 : iSign x = 62 := c4
    have n122 : ¬ iSign x = 122 := by rw [c4]; decide
    have R1 := R1 n122
    unfold hExec2 at R1
    rw [if_neg c1, if_neg c2, if_neg y41, if_neg c3, if_pos c4] at R1
    have X1 := X1 n122
    have hc := o.2.2.2.2.2.1 (Or.inl c4)
    have hc3 := hc.2
    rw [hc.1] at R1
    refine am_Wp.sub hm_X12_executes (am_le_of F) (am_go hm_X12_executes (fun _ => false) 40 ?_)
    exact y_sends (c := zc (iOpnd x)) S1 X1.weak hN rfl hc.1 X1.2.2.1 (by omega) X1.2.2.2.1 R1
  have c4 : ¬ iSign x = 62 := c4
  refine am_ite (fun c5 => ?_) (fun c5 => ?_)
  · have c5 : iSign x = 63 := c5
    have n122 : ¬ iSign x = 122 := by rw [c5]; decide
    have R1 := R1 n122
    unfold hExec2 at R1
    rw [if_neg c1, if_neg c2, if_neg y41, if_neg c3, if_neg c4, if_pos c5] at R1
    have X1 := X1 n122
    obtain ⟨a, b, ha, hb, e⟩ := o.2.2.2.2.2.2.1 c5
    have dg := nI_dig ha hb
    rw [← e] at dg
    rw [dg.2, dg.1] at R1
    refine am_Wp.sub hm_X12_executes (am_le_of F) (am_go hm_X12_executes (fun _ => false) 40 ?_)
    exact y_chooses (f := a) (s := b) S1 X1.weak hN rfl dg.1 dg.2 X1.2.2.1 (by omega) (by omega) X1.2.2.2.1 X1.2.2.2.2.1 R1
  have c5 : ¬ iSign x = 63 := c5
  refine am_ite (fun c6 => ?_) (fun c6 => ?_)
  · have c6 : iSign x = 91 := c6
    have R1 := R1 (by rw [c6]; decide)
    unfold hExec2 at R1
    rw [if_neg c1, if_neg c2, if_neg y41, if_neg c3, if_neg c4, if_neg c5, if_pos c6] at R1
    refine am_Wp.sub hm_X12_executes (am_le_of F) (am_go hm_X12_executes (fun p => Nat.beq p 160) 40 ?_)
    refine wn_ld hm_X12_executes 175 rfl (S1.cnt 5 (by decide) (by decide) (by decide)) (by decide) rfl ?_
    refine am_go hm_X12_executes (fun _ => false) 40 ?_
    exact opn 1 _ _ rfl (Or.inr (Or.inl c6)) (Or.inr (Or.inl ⟨c6, rfl, rfl⟩)) _ (fun g2 S2 => R1 g2 S2)
  have c6 : ¬ iSign x = 91 := c6
  refine am_ite (fun c7 => ?_) (fun c7 => ?_)
  · have c7 : iSign x = 94 := c7
    have n122 : ¬ iSign x = 122 := by rw [c7]; decide
    have R1 := R1 n122
    unfold hExec2 at R1
    rw [if_neg c1, if_neg c2, if_neg y41, if_neg c3, if_neg c4, if_neg c5, if_neg c6, if_pos c7] at R1
    have X1 := X1 n122
    obtain ⟨_, hd, hc⟩ := o.2.2.1 c7
    have h6 := hc.2
    have hd1 : 0 < zc (k1 29 i) := by rw [e29]; exact hd
    rw [hc.1, e_SetC X1.1.1 X1.2.2.1 hd1 (by omega)] at R1
    obtain ⟨q0, q1, q2, q3, q4, q5, q6⟩ := X1.1.1.inner X1.2.2.1 hd1
    have hT1 : zT k1 ≤ 24 := X1.1.1.1.1.2
    have hd51 := (X1.1.1.2.2.1 i X1.2.2.1).1
    have inn : ∀ (gg : Nat → Int32) (R' : am_R), gg (234 + 45 * i) = g1 (234 + 45 * i) → gg (246 + 45 * i + (zc (k1 29 i) - 1)) = g1 (246 + 45 * i + (zc (k1 29 i) - 1)) → R' (some (.int (nI (zIs k1 i)))) (am_ua σ 190 gg) → sp_X12_inner [.ref 189, .int (nI i)] (am_ua σ 190 gg) R' := by
      intro gg R' f1 f2 hr
      have := hd51.2
      refine y_inner i (zc (k1 29 i)) rfl hi24 (v := nI (zIs k1 i)) (by
        rw [f1, show 234 + 45 * i = 231 + 45 * i + 3 from by omega, S1.task (i := i) X1.2.2.1 3 (by decide) hT1]; exact hd51.1) hd1 hd51.2 (by
        rw [f2, S1.st (i := i) (l := zc (k1 29 i) - 1) hT1 X1.2.2.1 (by omega) (by omega)]; exact q6) hr
    refine am_Wp.sub hm_X12_executes (am_le_of F) (am_go hm_X12_executes (fun p => Nat.beq p 203) 40 ?_)
    refine inn g1 _ rfl rfl ?_
    refine y_scope (zIs k1 i) rfl ?_
    refine wn_st hm_X12_executes (1311 + 32 * zIs k1 i + 5) (nI_add _ 5) (by omega) rfl ?_
    refine am_go hm_X12_executes (fun _ => false) 60 ?_
    refine inn (upd g1 (1311 + 32 * zIs k1 i + 5) 1) _ (pk_un (by omega)) (pk_un (by have := hd51.2; omega)) ?_
    refine y_scope (zIs k1 i) rfl ?_
    refine y_copies (f := 25 * zc (iOpnd x)) (t := 1318 + 32 * zIs k1 i) ?_ ?_ (by omega) (by omega) ?_
    · show (0 : Int32) + 25 * iOpnd x = _
      conv => lhs; rw [hc.1]
      rw [show (25 : Int32) * nI (zc (iOpnd x)) = nI (25 * zc (iOpnd x)) from pk_mul 25 _, show (0 : Int32) + nI (25 * zc (iOpnd x)) = nI (0 + 25 * zc (iOpnd x)) from nI_add 0 _, Nat.zero_add]
    · show nI (1311 + 32 * zIs k1 i) + nI 7 = _
      rw [nI_add]; congr 1; omega
    exact R1 _ (S1.setC hT1 (by rw [eS]; exact hSc) q1 (by omega) (X1.1.1.prg (by omega)).1).w1
  have c7 : ¬ iSign x = 94 := c7
  refine am_ite (fun c8 => ?_) (fun c8 => ?_)
  · have c8 : iSign x = 112 := c8
    have n122 : ¬ iSign x = 122 := by rw [c8]; decide
    have R1 := R1 n122
    unfold hExec2 at R1
    rw [if_neg c1, if_neg c2, if_neg y41, if_neg c3, if_neg c4, if_neg c5, if_neg c6, if_neg c7, if_pos c8] at R1
    have X1 := X1 n122
    obtain ⟨hd, hc⟩ := o.2.2.2.1 c8
    have h6 := hc.2
    have hd1 : 0 < zc (k1 29 i) := by rw [e29]; exact hd
    rw [hc.1, X1.echild hd1 (by omega)] at R1
    obtain ⟨q0, q1, q2, q3, q4, q5, q6⟩ := X1.1.1.inner X1.2.2.1 hd1
    have hT1 : zT k1 ≤ 24 := X1.1.1.1.1.2
    have hd51 := (X1.1.1.2.2.1 i X1.2.2.1).1
    have k21 : k1 21 0 = nI (zT k1) := X1.1.1.1.1.1
    refine am_Wp.sub hm_X12_executes (am_le_of F) (am_go hm_X12_executes (fun p => Nat.beq p 236) 40 ?_)
    refine wn_ld hm_X12_executes 170 rfl (v := nI (zT k1)) (S1.Tc.trans k21) (by decide) rfl ?_
    refine am_go hm_X12_executes (fun _ => false) 60 ?_
    refine am_ite (fun z => ?_) (fun z => ?_)
    · have z : nI (zT k1) = nI 24 := z
      have e24 : zT k1 = 24 := nI_inj (by omega) (by decide) z
      rw [if_neg (by omega)] at R1
      exact y_fails2 (e := 0) S1 X1.1 rfl X1.2.2.1 (fun g2 S2 => R1 g2 S2.w1)
    · have hlt : zT k1 < 24 := by
        rcases Nat.lt_or_ge (zT k1) 24 with y | y
        · exact y
        · exact absurd (by rw [show zT k1 = 24 from by omega]; rfl) z
      rw [if_pos hlt] at R1
      have := hd51.2
      refine y_inner i (zc (k1 29 i)) rfl hi24 (v := nI (zIs k1 i)) (by
        rw [show 234 + 45 * i = 231 + 45 * i + 3 from by omega, S1.task (i := i) X1.2.2.1 3 (by decide) hT1]; exact hd51.1) hd1 hd51.2 (by
        rw [S1.st (i := i) (l := zc (k1 29 i) - 1) hT1 X1.2.2.1 (by omega) (by omega)]; exact q6) ?_
      refine y_starts (q := zc (iOpnd x)) (h := nI (zIs k1 i)) S1 X1.1.1 hlt (by omega) hc.1 (fun g2 S2 => ?_)
      exact R1 g2 (S2 _ (fun a h1 h2 => by unfold yChild; rw [zup_n _ _ h2, zup_n _ _ h1])).w1
  have c8 : ¬ iSign x = 112 := c8
  refine am_ite (fun c9 => ?_) (fun c9 => ?_)
  · have c9 : iSign x = 120 := c9
    have n122 : ¬ iSign x = 122 := by rw [c9]; decide
    have R1 := R1 n122
    unfold hExec2 at R1
    rw [if_neg c1, if_neg c2, if_neg y41, if_neg c3, if_neg c4, if_neg c5, if_neg c6, if_neg c7, if_neg c8, if_pos c9] at R1
    have X1 := X1 n122
    have hd := o.2.2.2.2.1 c9
    have hd1 : 0 < zc (k1 29 i) := by rw [e29]; exact hd
    obtain ⟨q0, q1, q2, q3, q4, q5, q6⟩ := X1.1.1.inner X1.2.2.1 hd1
    have hT1 : zT k1 ≤ 24 := X1.1.1.1.1.2
    have hd51 := (X1.1.1.2.2.1 i X1.2.2.1).1
    rw [q0] at R1
    refine am_Wp.sub hm_X12_executes (am_le_of F) (am_go hm_X12_executes (fun _ => false) 40 ?_)
    have := hd51.2
    refine y_inner i (zc (k1 29 i)) rfl hi24 (v := nI (zIs k1 i)) (by
      rw [show 234 + 45 * i = 231 + 45 * i + 3 from by omega, S1.task (i := i) X1.2.2.1 3 (by decide) hT1]; exact hd51.1) hd1 hd51.2 (by
      rw [S1.st (i := i) (l := zc (k1 29 i) - 1) hT1 X1.2.2.1 (by omega) (by omega)]; exact q6) ?_
    exact y_cancels (s := zIs k1 i) S1 X1.weak rfl (X1.1.1.notc X1.2.2.1 hd1) (fun g2 S2 => R1 g2 S2.w1)
  have c9 : ¬ iSign x = 120 := c9
  refine am_ite (fun c10 => ?_) (fun c10 => ?_)
  · have c10 : iSign x = 123 := c10
    have R1 := R1 (by rw [c10]; decide)
    unfold hExec2 at R1
    rw [if_neg c1, if_neg c2, if_neg y41, if_neg c3, if_neg c4, if_neg c5, if_neg c6, if_neg c7, if_neg c8, if_neg c9, if_pos c10] at R1
    refine am_Wp.sub hm_X12_executes (am_le_of F) (am_go hm_X12_executes (fun _ => false) 40 ?_)
    exact opn 2 (-1) _ rfl (Or.inr (Or.inr c10)) (Or.inr (Or.inr ⟨c10, rfl, rfl⟩)) _ (fun g2 S2 => R1 g2 S2)
  have c10 : ¬ iSign x = 123 := c10
  unfold hExec2 at hR
  rw [if_neg c1, if_neg c2, if_neg y41, if_neg c3, if_neg c4, if_neg c5, if_neg c6, if_neg c7, if_neg c8, if_neg c9, if_neg c10] at hR
  refine am_Wp.sub hm_X12_executes (am_le_of F) (am_go hm_X12_executes (fun _ => false) 40 ?_)
  refine y_simple (i := i) S1 (by rw [eT]; exact hT) (by rw [eS]; exact hSc) (by rw [eT]; exact hi) rfl (fun g2 S2 => ?_)
  refine y_sets i 2 rfl rfl hi24 (by decide) ?_
  refine hR _ ?_
  have e21 : hSimple k1 (nI i) (iSign x) (iOpnd x) 21 = k1 21 := zFr.simple hi24 21 (by decide)
  have e57 : hSimple k1 (nI i) (iSign x) (iOpnd x) 57 = k1 57 := zFr.simple hi24 57 (by decide)
  have S3 := S2.put (i := i) (w := 2) (v := nI (zc (k 27 i) + zSt k i x)) (show zc (hSimple k1 (nI i) (iSign x) (iOpnd x) 21 0) ≤ 24 by rw [e21]; exact (eT ▸ hT : zT k1 ≤ 24)) (show zc (hSimple k1 (nI i) (iSign x) (iOpnd x) 57 0) ≤ 60 by rw [e57]; exact (eS ▸ hSc : zSc k1 ≤ 60)) hi24 (by decide)
  have ev : nI (zc (k 27 i)) + (if iSign x = 122 then (if k1 25 i = 0 then 2 else 1) else 1) = nI (zc (k 27 i) + zSt k i x) := by
    have e25 : k1 25 i = k 25 i := by rw [← hk1]; rfl
    unfold zSt
    rw [e25]
    split
    · split <;> exact nI_add _ _
    · exact nI_add _ _
  rw [ev]
  have S3 : zSim 2 (am_up (hSimple k1 (nI i) (iSign x) (iOpnd x)) 27 i (nI (zc (k 27 i) + zSt k i x))) _ := S3
  rw [← hk1, hSimple_27 hi24, am_up_up, ← hSimple_27 hi24] at S3
  exact S3.w1
end ZL1
