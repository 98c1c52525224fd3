/-! waiting: both sides -/
section ZW
variable {σ : am_M} {g : Nat → Int32} {R : am_R}
set_option maxRecDepth 20000 in
theorem y_waitsFor {b i c : Nat} {k : am_M} {t u sf : Int32} (hS : zSim b k g) (hT : zT k ≤ 24) (hi : i < zT k) (ht : t = nI i) (hu : u = nI c) (hc : c < 2 ^ 31) (hsf : sf = 0 ∨ sf = 1) (h : R (some (.int (if sf = 0 then tTakes k (nI i) (nI c) else tSends k (nI i) (nI c)))) (am_ua σ 190 g)) : sp_X12_waitsFor [.ref 189, .int t, .int u, .int sf] (am_ua σ 190 g) R := by
  have hi24 : i < 24 := by omega
  rw [e_Takes _ hi24, e_Sends _ hi24] at h
  have c0 := hS.task hi 0 (by decide) hT
  have hd := hS.2.2.2.2.1 i hi
  subst hu
  refine ⟨rfl, am_go hm_X12_waitsFor (fun p => Nat.beq p 47) 60 ?_⟩
  refine y_of i 0 ht rfl hi24 (by decide) c0 ?_
  rcases hsf with rfl | rfl
  · rw [if_pos rfl] at h
    refine am_ite (fun _ => ?_) (fun z => absurd rfl z)
    have k47 : (k 23 i = 3 ∨ k 23 i = 4) → ∀ ls : am_L, (∀ q ∈ ([(0, .ref 189), (1, .int t), (2, .int (nI c))] : am_L), am_lv ls q.1 = some q.2) → am_Wp (am_lk cl_X12_waitsFor) 47 ls [] (am_ua σ 190 g) R := by
      intro hs ls hls
      refine am_Wp.sub hm_X12_waitsFor (am_le_of hls) (am_go hm_X12_waitsFor (fun _ => false) 60 ?_)
      refine y_of i 12 ht rfl hi24 (by decide) (v := k 45 i) (by rw [show 231 + 45 * i + 12 = 243 + 45 * i from by omega]; exact hd.1 (hs.elim (fun z => Or.inr (Or.inl z)) (fun z => Or.inr (Or.inr z)))) ?_
      refine am_ite (fun q => am_b1 h ⟨hs, Or.inl q⟩) (fun q => ?_)
      refine y_of i 13 ht rfl hi24 (by decide) (v := g (244 + 45 * i)) (by rw [show 231 + 45 * i + 13 = 244 + 45 * i from by omega]) ?_
      rcases hs with z | z
      · obtain ⟨e1, e2⟩ := hd.2.1 z
        rw [e2]
        refine am_ite (fun q2 => absurd q2.symm (nI_m1 hc)) (fun _ => am_b0 h (fun q3 => q3.2.elim q (fun q4 => q (by rw [← q4]; exact e1.symm))))
      · have e2 := hd.2.2 z
        rw [e2]
        exact am_ite (fun q2 => am_b1 h ⟨Or.inr z, Or.inr q2⟩) (fun q2 => am_b0 h (fun q3 => q3.2.elim q q2))
    have F : ∀ v, ∀ q ∈ ([(0, .ref 189), (1, .int t), (2, .int (nI c))] : am_L), am_lv ((4, v) :: am_rm (am_args 0 [.ref 189, .int t, .int (nI c), .int 0]) 4) q.1 = some q.2 := fun v => List.forall_mem_cons.mpr ⟨rfl, List.forall_mem_cons.mpr ⟨rfl, List.forall_mem_cons.mpr ⟨rfl, fun _ q => by cases q⟩⟩⟩
    refine am_ite (fun q => k47 (Or.inl q) _ (F _)) (fun q => ?_)
    refine am_ite (fun q2 => k47 (Or.inr q2) _ (F _)) (fun q2 => ?_)
    exact am_b0 h (fun z => z.1.elim q q2)
  · rw [if_neg (by decide)] at h
    refine am_ite (fun z => absurd z (by decide)) (fun _ => ?_)
    refine am_ite (fun q => ?_) (fun q => am_b0 h (fun z => q z.1))
    have q : k 23 i = 2 := q
    refine y_of i 12 ht rfl hi24 (by decide) (v := k 45 i) (by rw [show 231 + 45 * i + 12 = 243 + 45 * i from by omega]; exact hd.1 (Or.inl q)) ?_
    exact am_ite (fun q2 => am_b1 h ⟨q, q2⟩) (fun q2 => am_b0 h (fun z => q2 z.2))
/-- who waits for a channel, by receiving or choosing, or by sending -/
def zWf1 (k : am_M) (sf : Int32) (c : Nat) : Int32 → Int32 := fun t => if sf = 0 then tTakes k t (nI c) else tSends k t (nI c)
theorem zWf1_w {k : am_M} {sf : Int32} {c i : Nat} (hi : i < 24) (h : zWf1 k sf c (nI i) ≠ 0) : zW (k 23 i) := by
  unfold zWf1 at h
  rw [e_Takes _ hi, e_Sends _ hi] at h
  split at h
  · exact (bI_n0.mp h).1.elim (fun z => Or.inr (Or.inl z)) (fun z => Or.inr (Or.inr z))
  · exact Or.inl (bI_n0.mp h).1
set_option maxRecDepth 20000 in
theorem l_longest {b c T : Nat} {k : am_M} {sf : Int32} (hS : zSim b k g) (hT : k 21 0 = nI T) (h24 : T ≤ 24) (hc : c < 2 ^ 31) (hsf : sf = 0 ∨ sf = 1) (h : R (some (.int (xLong k (zWf1 k sf c) T))) (am_ua σ 190 g)) :
    ∀ m n, n + m = T → am_Wp (am_lk cl_X12_longest) 5 [(0, .ref 189), (1, .int (nI c)), (2, .int sf), (3, .int (xLong k (zWf1 k sf c) n)), (4, .int (nI n))] [] (am_ua σ 190 g) R := by
  have hzT : zT k = T := by show zc (k 21 0) = T; rw [hT, zc_i (by omega)]
  intro m
  induction m with
  | zero =>
    intro n e
    have e : n = T := by omega
    subst e
    refine am_go hm_X12_longest (fun p => Nat.beq p 14) 40 ?_
    refine wn_ld hm_X12_longest 170 rfl (hS.Tc.trans hT) (by decide) rfl ?_
    refine am_go hm_X12_longest (fun _ => false) 40 ?_
    exact am_ite (fun _ => h) (fun z => absurd (nI_le (Nat.le_refl n) (by omega)) z)
  | succ m ih =>
    intro n e
    have hn : n < zT k := by omega
    have hn24 : n < 24 := by omega
    have eL : xLong k (zWf1 k sf c) (n + 1) = if zWf1 k sf c (nI n) = 0 then xLong k (zWf1 k sf c) n else if xWL k (nI n) (xLong k (zWf1 k sf c) n) = 0 then xLong k (zWf1 k sf c) n else nI n := rfl
    refine am_go hm_X12_longest (fun p => Nat.beq p 14) 40 ?_
    refine wn_ld hm_X12_longest 170 rfl (hS.Tc.trans hT) (by decide) rfl ?_
    refine am_go hm_X12_longest (fun p => Nat.beq p 51 || Nat.beq p 54) 60 ?_
    refine am_ite (fun z => absurd z (nI_ge (by omega) (by omega))) (fun _ => ?_)
    have k54 : ∀ (x : Int32) (ls : am_L), (∀ q ∈ ([(0, .ref 189), (1, .int (nI c)), (2, .int sf), (3, .int x), (4, .int (nI n))] : am_L), am_lv ls q.1 = some q.2) → x = xLong k (zWf1 k sf c) (n + 1) → am_Wp (am_lk cl_X12_longest) 54 ls [] (am_ua σ 190 g) R := by
      intro x ls hls hx
      refine am_Wp.sub hm_X12_longest (am_le_of hls) (am_go hm_X12_longest (fun p => Nat.beq p 5) 20 ?_)
      have h9 := ih (n + 1) (by omega)
      rw [← hx, nI_succ n] at h9
      exact am_Wp.sub hm_X12_longest (am_le_of (List.forall_mem_cons.mpr ⟨rfl, List.forall_mem_cons.mpr ⟨rfl, List.forall_mem_cons.mpr ⟨rfl, List.forall_mem_cons.mpr ⟨rfl, List.forall_mem_cons.mpr ⟨rfl, fun _ q => by cases q⟩⟩⟩⟩⟩)) h9
    have F : ∀ q ∈ ([(0, .ref 189), (1, .int (nI c)), (2, .int sf), (3, .int (xLong k (zWf1 k sf c) n)), (4, .int (nI n))] : am_L), am_lv ([(0, .ref 189), (1, .int (nI c)), (2, .int sf), (3, .int (xLong k (zWf1 k sf c) n)), (4, .int (nI n))] : am_L) q.1 = some q.2 := List.forall_mem_cons.mpr ⟨rfl, List.forall_mem_cons.mpr ⟨rfl, List.forall_mem_cons.mpr ⟨rfl, List.forall_mem_cons.mpr ⟨rfl, List.forall_mem_cons.mpr ⟨rfl, fun _ q => by cases q⟩⟩⟩⟩⟩
    have k51 : zWf1 k sf c (nI n) ≠ 0 → xWL k (nI n) (xLong k (zWf1 k sf c) n) ≠ 0 → am_Wp (am_lk cl_X12_longest) 51 [(0, .ref 189), (1, .int (nI c)), (2, .int sf), (3, .int (xLong k (zWf1 k sf c) n)), (4, .int (nI n))] [] (am_ua σ 190 g) R := by
      intro h1 h2
      rw [if_neg h1, if_neg h2] at eL
      refine am_go hm_X12_longest (fun p => Nat.beq p 54) 20 ?_
      exact k54 (nI n) _ (List.forall_mem_cons.mpr ⟨rfl, List.forall_mem_cons.mpr ⟨rfl, List.forall_mem_cons.mpr ⟨rfl, List.forall_mem_cons.mpr ⟨rfl, List.forall_mem_cons.mpr ⟨rfl, fun _ q => by cases q⟩⟩⟩⟩⟩) eL.symm
    refine y_waitsFor hS (by omega) hn rfl rfl hc hsf ?_
    show ((zWf1 k sf c (nI n)) = 0 → _) ∧ (¬ (zWf1 k sf c (nI n)) = 0 → _)
    refine am_ite (fun q => ?_) (fun q => ?_)
    · rw [if_pos q] at eL; exact k54 _ _ F eL.symm
    rw [if_neg q] at eL
    have wn := zWf1_w hn24 q
    rcases xLong_s (k := k) (f := zWf1 k sf c) n with e1 | ⟨r, r1, r2, r3⟩
    · refine am_ite (fun _ => k51 q ?_) (fun z => absurd (by rw [e1]; decide) z)
      unfold xWL
      rw [e1, bI_t (Or.inl rfl)]
      decide
    · have wr := zWf1_w (by omega) r3
      have hr : r < zT k := by omega
      have hz := hS.2.2.2.2.2.1.2.2 n r hn hr wn wr
      refine am_ite (fun z => absurd (by rw [r2] at z; exact z) (nI_pos (by omega))) (fun _ => ?_)
      refine y_of n 14 rfl rfl hn24 (by decide) (v := g (245 + 45 * n)) (by rw [show 231 + 45 * n + 14 = 245 + 45 * n from by omega]) ?_
      refine y_of r 14 r2 rfl (by omega) (by decide) (v := g (245 + 45 * r)) (by rw [show 231 + 45 * r + 14 = 245 + 45 * r from by omega]) ?_
      have eW : xWL k (nI n) (xLong k (zWf1 k sf c) n) = bI (nI r = -1 ∨ k 49 n < k 49 r) := by
        unfold xWL
        rw [r2, ra_T_waitsSince hn24, ra_T_waitsSince (by omega)]
      refine am_ite (fun z => ?_) (fun z => ?_)
      · refine k54 _ _ F ?_
        rw [eL, eW, if_pos (bI_0.mpr (fun q2 => q2.elim (nI_m1 (by omega)) (fun q3 => absurd z (Int32.not_le.mpr (hz.mpr q3)))))]
      · exact k51 q (by rw [eW]; exact bI_n0.mpr (Or.inr (hz.mp (Int32.not_le.mp z))))
set_option maxRecDepth 20000 in
theorem y_longest {b c : Nat} {k : am_M} {u sf : Int32} (hS : zSim b k g) (hT : zN (k 21 0) 24) (hu : u = nI c) (hc : c < 2 ^ 31) (hsf : sf = 0 ∨ sf = 1) (h : R (some (.int (if sf = 0 then xLT k (nI c) else xLS k (nI c)))) (am_ua σ 190 g)) : sp_X12_longest [.ref 189, .int u, .int sf] (am_ua σ 190 g) R := by
  subst hu
  have e : (if sf = 0 then xLT k (nI c) else xLS k (nI c)) = xLong k (zWf1 k sf c) (zT k) := by
    rcases hsf with rfl | rfl
    · rw [if_pos rfl]; exact xLong_c (fun x => by unfold zWf1; rw [if_pos rfl]) rfl _
    · rw [if_neg (by decide)]; exact xLong_c (fun x => by unfold zWf1; rw [if_neg (by decide)]) rfl _
  rw [e] at h
  refine ⟨rfl, am_go hm_X12_longest (fun p => Nat.beq p 5) 20 ?_⟩
  exact am_Wp.sub hm_X12_longest (am_le_of (List.forall_mem_cons.mpr ⟨rfl, List.forall_mem_cons.mpr ⟨rfl, List.forall_mem_cons.mpr ⟨rfl, List.forall_mem_cons.mpr ⟨rfl, List.forall_mem_cons.mpr ⟨rfl, fun _ q => by cases q⟩⟩⟩⟩⟩)) (l_longest hS hT.1 hT.2 hc hsf h (zT k) 0 (Nat.zero_add _))
set_option maxRecDepth 20000 in
theorem l_waiting {b c T : Nat} {k : am_M} {sf : Int32} (hS : zSim b k g) (hT : k 21 0 = nI T) (h24 : T ≤ 24) (hc : c < 2 ^ 31) (hsf : sf = 0 ∨ sf = 1) (h : R (some (.int (cntI (zWf1 k sf c) T))) (am_ua σ 190 g)) :
    ∀ m n, n + m = T → am_Wp (am_lk cl_X12_waiting) 5 [(0, .ref 189), (1, .int (nI c)), (2, .int sf), (3, .int (cntI (zWf1 k sf c) n)), (4, .int (nI n))] [] (am_ua σ 190 g) R := by
  have hzT : zT k = T := by show zc (k 21 0) = T; rw [hT, zc_i (by omega)]
  intro m
  induction m with
  | zero =>
    intro n e
    have e : n = T := by omega
    subst e
    refine am_go hm_X12_waiting (fun p => Nat.beq p 14) 40 ?_
    refine wn_ld hm_X12_waiting 170 rfl (hS.Tc.trans hT) (by decide) rfl ?_
    refine am_go hm_X12_waiting (fun _ => false) 40 ?_
    exact am_ite (fun _ => h) (fun z => absurd (nI_le (Nat.le_refl n) (by omega)) z)
  | succ m ih =>
    intro n e
    have hn : n < zT k := by omega
    have eL : cntI (zWf1 k sf c) (n + 1) = if zWf1 k sf c (nI n) = 0 then cntI (zWf1 k sf c) n else cntI (zWf1 k sf c) n + 1 := rfl
    refine am_go hm_X12_waiting (fun p => Nat.beq p 14) 40 ?_
    refine wn_ld hm_X12_waiting 170 rfl (hS.Tc.trans hT) (by decide) rfl ?_
    refine am_go hm_X12_waiting (fun p => Nat.beq p 32) 60 ?_
    refine am_ite (fun z => absurd z (nI_ge (by omega) (by omega))) (fun _ => ?_)
    have k32 : ∀ (x : Int32) (ls : am_L), (∀ q ∈ ([(0, .ref 189), (1, .int (nI c)), (2, .int sf), (3, .int x), (4, .int (nI n))] : am_L), am_lv ls q.1 = some q.2) → x = cntI (zWf1 k sf c) (n + 1) → am_Wp (am_lk cl_X12_waiting) 32 ls [] (am_ua σ 190 g) R := by
      intro x ls hls hx
      refine am_Wp.sub hm_X12_waiting (am_le_of hls) (am_go hm_X12_waiting (fun p => Nat.beq p 5) 20 ?_)
      have h9 := ih (n + 1) (by omega)
      rw [← hx, nI_succ n] at h9
      exact am_Wp.sub hm_X12_waiting (am_le_of (List.forall_mem_cons.mpr ⟨rfl, List.forall_mem_cons.mpr ⟨rfl, List.forall_mem_cons.mpr ⟨rfl, List.forall_mem_cons.mpr ⟨rfl, List.forall_mem_cons.mpr ⟨rfl, fun _ q => by cases q⟩⟩⟩⟩⟩)) h9
    refine y_waitsFor hS (by omega) hn rfl rfl hc hsf ?_
    show ((zWf1 k sf c (nI n)) = 0 → _) ∧ (¬ (zWf1 k sf c (nI n)) = 0 → _)
    refine am_ite (fun q => ?_) (fun q => ?_)
    · rw [if_pos q] at eL
      exact k32 (cntI (zWf1 k sf c) n) _ (List.forall_mem_cons.mpr ⟨rfl, List.forall_mem_cons.mpr ⟨rfl, List.forall_mem_cons.mpr ⟨rfl, List.forall_mem_cons.mpr ⟨rfl, List.forall_mem_cons.mpr ⟨rfl, fun _ q => by cases q⟩⟩⟩⟩⟩) eL.symm
    · rw [if_neg q] at eL
      exact k32 (cntI (zWf1 k sf c) n + 1) _ (List.forall_mem_cons.mpr ⟨rfl, List.forall_mem_cons.mpr ⟨rfl, List.forall_mem_cons.mpr ⟨rfl, List.forall_mem_cons.mpr ⟨rfl, List.forall_mem_cons.mpr ⟨rfl, fun _ q => by cases q⟩⟩⟩⟩⟩) eL.symm
set_option maxRecDepth 20000 in
theorem y_waiting {b c : Nat} {k : am_M} {u sf : Int32} (hS : zSim b k g) (hT : zN (k 21 0) 24) (hu : u = nI c) (hc : c < 2 ^ 31) (hsf : sf = 0 ∨ sf = 1) (h : R (some (.int (cntI (zWf1 k sf c) (zT k)))) (am_ua σ 190 g)) : sp_X12_waiting [.ref 189, .int u, .int sf] (am_ua σ 190 g) R := by
  subst hu
  refine ⟨rfl, am_go hm_X12_waiting (fun p => Nat.beq p 5) 20 ?_⟩
  exact am_Wp.sub hm_X12_waiting (am_le_of (List.forall_mem_cons.mpr ⟨rfl, List.forall_mem_cons.mpr ⟨rfl, List.forall_mem_cons.mpr ⟨rfl, List.forall_mem_cons.mpr ⟨rfl, List.forall_mem_cons.mpr ⟨rfl, fun _ q => by cases q⟩⟩⟩⟩⟩)) (l_waiting hS hT.1 hT.2 hc hsf h (zT k) 0 (Nat.zero_add _))
theorem zSim.rcv {b : Nat} {k : am_M} {i : Nat} {n ch : Int32} (h : zSim b k g) (hT : zT k ≤ 24) (hS : zSc k ≤ 60) (hi : i < 24) : zSim b (yRcv k i n ch) (if ch = 0 then upd (upd g (231 + 45 * i + 1) n) 180 (k 100 10 + 1) else upd (upd (upd g (231 + 45 * i + 1) n) (231 + 45 * i + 5) (k 33 i + 1)) 180 (k 100 10 + 1)) := by
  have S1 := h.put (i := i) (w := 1) (v := n) hT hS hi (by decide)
  have c180 : zCo 100 10 180 := zCo_n (j := 10) (by decide) (by decide) (by decide) rfl
  have cnt : ∀ (k1 : am_M) (g1 : Nat → Int32) (v : Int32), zSim b k1 g1 → zT k1 ≤ 24 → zSc k1 ≤ 60 → zSim b (am_up k1 100 10 v) (upd g1 180 v) := fun k1 g1 v s1 t1 t2 => ⟨zS1_up s1.1 c180, zS2.g (k := am_up k1 100 10 v) t1 t2 s1.2 (zEx.up c180)⟩
  unfold yRcv
  split
  · exact cnt _ _ _ S1 hT hS
  · rw [am_up_comm (a := 100) (b := 33) (by decide)]
    exact cnt _ _ _ (S1.put (i := i) (w := 5) (v := k 33 i + 1) hT hS hi (by decide)) hT hS
set_option maxRecDepth 20000 in
theorem y_gets {b i : Nat} {k : am_M} {t n ch : Int32} (hS : zSim b k g) (hT : zT k ≤ 24) (hSc : zSc k ≤ 60) (hi : i < zT k) (ht : t = nI i) (h : ∀ g1, zSim b (yRcv k i n ch) g1 → R none (am_ua σ 190 g1)) : sp_X12_gets [.ref 189, .int t, .int n, .int ch] (am_ua σ 190 g) R := by
  have hi24 : i < 24 := by omega
  have S1 := hS.rcv (i := i) (n := n) (ch := ch) hT hSc hi24
  have c10 := hS.cnt 10 (by decide) (by decide) (by decide)
  refine ⟨rfl, am_go hm_X12_gets (fun p => Nat.beq p 33) 60 ?_⟩
  refine y_sets i 1 ht rfl hi24 (by decide) ?_
  refine am_ite (fun z => ?_) (fun z => ?_)
  · rw [if_pos z] at S1
    refine wn_ld hm_X12_gets 180 rfl ((pk_un (by omega)).trans c10) (by decide) rfl ?_
    refine am_go hm_X12_gets (fun p => Nat.beq p 36) 40 ?_
    refine wn_st hm_X12_gets 180 rfl (by decide) rfl ?_
    exact am_go hm_X12_gets (fun _ => false) 40 (h _ S1)
  · rw [if_neg z] at S1
    refine y_of i 5 ht rfl hi24 (by decide) (v := k 33 i) ((pk_un (by omega)).trans (hS.task hi 5 (by decide) hT)) ?_
    refine y_sets i 5 ht rfl hi24 (by decide) ?_
    refine wn_ld hm_X12_gets 180 rfl ((pk_un (by omega)).trans ((pk_un (by omega)).trans c10)) (by decide) rfl ?_
    refine am_go hm_X12_gets (fun p => Nat.beq p 36) 40 ?_
    refine wn_st hm_X12_gets 180 rfl (by decide) rfl ?_
    exact am_go hm_X12_gets (fun _ => false) 40 (h _ S1)
end ZW
