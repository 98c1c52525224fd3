/-! sending, receiving, choosing: both sides, on -/
section ZY
variable {σ : am_M} {g : Nat → Int32} {R : am_R}
theorem zS2.k {b : Nat} {k k1 : am_M} (h : zS2 b k g) (e : ∀ a, a = 21 ∨ a = 57 ∨ a = 23 ∨ a = 35 ∨ a = 39 ∨ a = 41 ∨ a = 43 ∨ a = 45 ∨ a = 47 ∨ a = 49 ∨ a = 73 ∨ a = 78 ∨ a = 80 ∨ a = 100 → k1 a = k a) : zS2 b k1 g := by
  unfold zS2 at h ⊢
  rw [e 21 (by decide), e 57 (by decide), e 23 (by decide), e 35 (by decide), e 39 (by decide), e 41 (by decide), e 43 (by decide), e 45 (by decide), e 47 (by decide), e 49 (by decide), e 73 (by decide), e 78 (by decide), e 80 (by decide), e 100 (by decide)]
  exact h
theorem yCsh_85 {k : am_M} {c j : Nat} {v : Int32} : ∀ m, yCsh (am_up k 85 j v) c m = am_up (yCsh k c m) 85 j v := by
  intro m
  induction m with
  | zero => rfl
  | succ m ih =>
    show am_up (yCsh (am_up k 85 j v) c m) 87 (c * 3 + m) (yCsh (am_up k 85 j v) c m 87 (c * 3 + (m + 1))) = am_up (am_up (yCsh k c m) 87 (c * 3 + m) (yCsh k c m 87 (c * 3 + (m + 1)))) 85 j v
    rw [ih, zup_n _ _ (by decide), am_up_comm (a := 85) (b := 87) (by decide)]
theorem zd_8 (k : am_M) (x : Nat) : zd k 8 x = zc (k 85 x) := by simp only [zd]
theorem zd_eq8 {k k1 : am_M} (h0 : k1 21 0 = k 21 0) (h1 : k1 57 0 = k 57 0) (h2 : k1 89 1 = k 89 1) (h3 : k1 95 1 = k 95 1) (h4 : k1 97 1 = k 97 1) (h5 : k1 29 = k 29) (h6 : k1 54 = k 54) (h7 : k1 18 = k 18) : ∀ n i1, n < 8 → zd k1 n i1 = zd k n i1 := by
  intro n i1 hn
  match n, hn with
  | 0, _ => exact congrArg zc h0
  | 1, _ => exact congrArg zc h1
  | 2, _ => exact congrArg zc h2
  | 3, _ => exact congrArg zc h3
  | 4, _ => exact congrArg zc h4
  | 5, _ => exact congrArg zc (congrFun h5 i1)
  | 6, _ => exact congrArg zc (congrFun h6 i1)
  | 7, _ => exact congrArg zc (congrFun h7 i1)
  | n + 8, z => exact absurd z (by omega)
theorem zIn_8 {d d1 : Nat → Nat → Nat} {a j : Nat} (h : zIn d1 a j) (e : ∀ n i, n < 8 → d1 n i = d n i) (e8 : a = 87 → j % 3 < d 8 (j / 3)) : zIn d a j := by
  unfold zIn at h ⊢
  rw [e 3 0 (by decide), e 4 0 (by decide), e 0 0 (by decide), e 5 _ (by decide), e 6 _ (by decide), e 1 0 (by decide), e 2 0 (by decide), e 7 _ (by decide)] at h
  obtain ⟨n1, n2, n3, n4, n5, n6, n7, n8, n9⟩ := h
  exact ⟨n1, n2, n3, n4, n5, n6, n7, e8, n9⟩
theorem zSim.cadd {b : Nat} {k : am_M} {c m : Nat} {x : Int32} (h : zSim b k g) (hT : zT k ≤ 24) (hS : zSc k ≤ 60) (hc : c < 4) (hm : k 85 c = nI m) (h3 : m < 3) : zSim b (yCadd k c m x) (upd (upd g (152 + 5 * c + m) x) (150 + 5 * c + 1) (nI (m + 1))) := by
  have c1 : zCo 87 (c * 3 + m) (152 + 5 * c + m) := zCo_cn hc h3 rfl
  have c2 : zCo 85 c (150 + 5 * c + 1) := zCo_c (w := 1) (by decide) hc rfl
  refine ⟨?_, zS2.g (k := yCadd k c m x) hT hS h.2 ((zEx.up (v := x) c1).tr (zEx.up (v := nI (m + 1)) c2))⟩
  have h1 := zS1_up (v := nI (m + 1)) (zS1_up (v := x) h.1 c1) c2
  refine zS1_d h1 (fun a j q hc1 hn => ?_)
  by_cases e : a = 87 ∧ j = c * 3 + m
  · obtain ⟨rfl, rfl⟩ := e
    right
    rw [zCo_fw hc1 c1, pk_un (by omega), pk_us]
    exact (pk_us (f := k 87) (k := c * 3 + m) (x := x)).symm
  · left
    refine zIn_8 hn (zd_eq8 (k := k) (k1 := yCadd k c m x) rfl rfl rfl rfl rfl rfl rfl rfl) (fun z => ?_)
    have n8 := hn.2.2.2.2.2.2.2.1 z
    rw [zd_8] at n8 ⊢
    have n8' : j % 3 < zc (upd (k 85) c (nI (m + 1)) (j / 3)) := n8
    by_cases e2 : j / 3 = c
    · rw [e2, pk_us, zc_i (by omega)] at n8'
      rw [e2, hm, zc_i (by omega)]
      omega
    · rw [pk_un e2] at n8'; exact n8'
theorem zd_eq9 {k k1 : am_M} (h0 : k1 21 0 = k 21 0) (h1 : k1 57 0 = k 57 0) (h2 : k1 89 1 = k 89 1) (h3 : k1 95 1 = k 95 1) (h4 : k1 97 1 = k 97 1) (h5 : k1 29 = k 29) (h6 : k1 54 = k 54) (h7 : k1 18 = k 18) (h8 : ∀ x, zc (k1 85 x) ≤ zc (k 85 x)) : ∀ n i1, zd k1 n i1 ≤ zd k n i1 := by
  intro n i1
  match n with
  | 0 => exact Nat.le_of_eq (congrArg zc h0)
  | 1 => exact Nat.le_of_eq (congrArg zc h1)
  | 2 => exact Nat.le_of_eq (congrArg zc h2)
  | 3 => exact Nat.le_of_eq (congrArg zc h3)
  | 4 => exact Nat.le_of_eq (congrArg zc h4)
  | 5 => exact Nat.le_of_eq (congrArg zc (congrFun h5 i1))
  | 6 => exact Nat.le_of_eq (congrArg zc (congrFun h6 i1))
  | 7 => exact Nat.le_of_eq (congrArg zc (congrFun h7 i1))
  | n + 8 => exact h8 i1
set_option maxRecDepth 20000 in
theorem l_shift {c m : Nat} {k1 k2 : am_M} {g1 : Nat → Int32} {t u ch s : Int32} (hc : c < 4) (h3 : m < 3) (h87 : zc (k1 85 c) = m + 1)
    (h : ∀ g, zS1 (zd k1) (yCsh k2 c m) g → zEx g1 g → g (150 + 5 * c + 1) = nI m → am_Wp (am_lk cl_X12_receives) 101 [(0, .ref 189), (1, .int t), (2, .int u), (3, .int ch), (4, .int s), (5, .int (nI (150 + 5 * c)))] [] (am_ua σ 190 g) R) :
    ∀ n j (g : Nat → Int32), j + n = m → zS1 (zd k1) (yCsh k2 c j) g → zEx g1 g → g (150 + 5 * c + 1) = nI m → am_Wp (am_lk cl_X12_receives) 57 [(0, .ref 189), (1, .int t), (2, .int u), (3, .int ch), (4, .int s), (5, .int (nI (150 + 5 * c))), (6, .int (nI j))] [] (am_ua σ 190 g) R := by
  have i3 : ∀ w : Nat, nI (150 + 5 * c) + nI w = nI (150 + 5 * c + w) := fun w => nI_add _ _
  intro n
  induction n with
  | zero =>
    intro j g e S E hcnt
    have e : j = m := by omega
    subst e
    refine am_go hm_X12_receives (fun p => Nat.beq p 67) 40 ?_
    refine wn_ld hm_X12_receives (150 + 5 * c + 1) (i3 1) hcnt (by omega) rfl ?_
    refine am_go hm_X12_receives (fun p => Nat.beq p 101) 40 ?_
    refine am_ite (fun _ => ?_) (fun z => absurd (nI_le (Nat.le_refl j) (by omega)) z)
    exact am_Wp.sub hm_X12_receives (am_le_of (List.forall_mem_cons.mpr ⟨rfl, List.forall_mem_cons.mpr ⟨rfl, List.forall_mem_cons.mpr ⟨rfl, List.forall_mem_cons.mpr ⟨rfl, List.forall_mem_cons.mpr ⟨rfl, List.forall_mem_cons.mpr ⟨rfl, fun _ q => by cases q⟩⟩⟩⟩⟩⟩)) (h g S E hcnt)
  | succ n ih =>
    intro j g e S E hcnt
    refine am_go hm_X12_receives (fun p => Nat.beq p 67) 40 ?_
    refine wn_ld hm_X12_receives (150 + 5 * c + 1) (i3 1) hcnt (by omega) rfl ?_
    refine am_go hm_X12_receives (fun p => Nat.beq p 93) 40 ?_
    refine am_ite (fun z => absurd z (nI_ge (by omega) (by omega))) (fun _ => ?_)
    have ev : g (152 + 5 * c + (j + 1)) = yCsh k2 c j 87 (c * 3 + (j + 1)) := by
      refine S _ _ _ (zCo_cn hc (by omega) rfl) ?_
      refine ⟨fun q => by omega, fun q => by omega, fun q => by omega, fun q => by omega, fun q => by omega, fun q => by omega, fun q => by omega, fun _ => ?_, fun q => by omega⟩
      rw [show (c * 3 + (j + 1)) / 3 = c from by omega, show (c * 3 + (j + 1)) % 3 = j + 1 from by omega]
      rw [zd_8]
      omega
    refine wn_ld hm_X12_receives (152 + 5 * c + (j + 1)) (by
      show nI (150 + 5 * c) + nI 3 + nI j = _
      rw [i3, nI_add]; congr 1; omega) ev (by omega) rfl ?_
    refine wn_st hm_X12_receives (152 + 5 * c + j) (by
      show nI (150 + 5 * c) + nI 2 + nI j = _
      rw [i3, nI_add]; congr 1; omega) (by omega) rfl ?_
    refine am_go hm_X12_receives (fun p => Nat.beq p 57) 40 ?_
    have c1 : zCo 87 (c * 3 + j) (152 + 5 * c + j) := zCo_cn hc (by omega) rfl
    have h9 := ih (j + 1) (upd g (152 + 5 * c + j) (yCsh k2 c j 87 (c * 3 + (j + 1)))) (by omega) (zS1_up S c1) (E.tr (zEx.up c1)) (by rw [pk_un (by omega)]; exact hcnt)
    rw [nI_succ j] at h9
    exact am_Wp.sub hm_X12_receives (am_le_of (List.forall_mem_cons.mpr ⟨rfl, List.forall_mem_cons.mpr ⟨rfl, List.forall_mem_cons.mpr ⟨rfl, List.forall_mem_cons.mpr ⟨rfl, List.forall_mem_cons.mpr ⟨rfl, List.forall_mem_cons.mpr ⟨rfl, List.forall_mem_cons.mpr ⟨rfl, fun _ q => by cases q⟩⟩⟩⟩⟩⟩⟩)) h9
set_option maxRecDepth 20000 in
theorem y_receives {e b w N i c : Nat} {k : am_M} {t u ch : Int32} (hS : zSim b k g) (hI : zInw i e w N k) (ht : t = nI i) (hu : u = nI c) (hi : i < zT k) (hc : c < 4) (h0 : k 23 i = 0) (hcan : ¬ k 85 c ≤ 0 ∨ ¬ xLS k (nI c) = -1) (h : ∀ g1, zSim b (xTake k (nI i) (nI c) ch) g1 → R none (am_ua σ 190 g1)) : sp_X12_receives [.ref 189, .int t, .int u, .int ch] (am_ua σ 190 g) R := by
  have hT : zT k ≤ 24 := hI.1.1.1.2
  have hSc : zSc k ≤ 60 := hI.1.1.2.1.2
  have hi24 : i < 24 := by omega
  have i3 : ∀ w : Nat, nI (150 + 5 * c) + nI w = nI (150 + 5 * c + w) := fun w => nI_add _ _
  obtain ⟨t1, t2, t3, t4⟩ := e_Take (i := i) (ch := ch) hI hi24 hc
  have hz : zN (k 85 c) 3 := (hI.1.2.2.2.2.2.2.2.2.2.2.2.2.2.2.2.2.2.2.2.2.1 c hc).2
  have hx := xLS_s (k := k) (c := nI c) hT
  have c85 := hS.ch hc 1 (by decide)
  subst ht
  subst hu
  refine ⟨rfl, am_go hm_X12_receives (fun p => Nat.beq p 22) 60 ?_⟩
  refine y_longest hS hI.1.1.1 rfl (by omega) (Or.inr rfl) ?_
  refine y_channel c rfl ?_
  refine wn_ld hm_X12_receives (150 + 5 * c + 1) (i3 1) c85 (by omega) rfl ?_
  refine am_go hm_X12_receives (fun p => Nat.beq p 36 || Nat.beq p 153) 60 ?_
  -- the end: the sender becomes ready
  have k153 : ∀ (k5 : am_M) (g5 : Nat → Int32) (ls : am_L), (∀ q ∈ ([(0, .ref 189), (4, .int (xLS k (nI c)))] : am_L), am_lv ls q.1 = some q.2) → zSim b k5 g5 → zInv i e w N k5 → zT k5 = zT k → k5 23 = k 23 → zQ k5 = zQ k →
      (xLS k (nI c) = -1 → xTake k (nI i) (nI c) ch = k5) → (∀ r, xLS k (nI c) = nI r → r < zT k → k 23 r = 2 → xTake k (nI i) (nI c) ch = yReady k5 r (zQ k)) → am_Wp (am_lk cl_X12_receives) 153 ls [] (am_ua σ 190 g5) R := by
    intro k5 g5 ls hls S5 I5 e5 e23 eQ f1 f2
    refine am_Wp.sub hm_X12_receives (am_le_of hls) (am_go hm_X12_receives (fun _ => false) 40 ?_)
    rcases hx with q | ⟨r, r1, r2, r3⟩
    · refine am_ite (fun _ => ?_) (fun z => absurd (by rw [q]; decide) z)
      exact h g5 (by rw [f1 q]; exact S5)
    · refine am_ite (fun z => absurd (by rw [r2] at z; exact z) (nI_pos (by omega))) (fun _ => ?_)
      refine y_readies S5 I5 r2 (by omega) (by rw [e23, r3]; decide) (fun g6 S6 => ?_)
      rw [eQ] at S6
      exact h g6 (by rw [f2 r r2 r1 r3]; exact S6)
  refine am_ite (fun hs => ?_) (fun hs => ?_)
  · have hs : k 85 c ≤ 0 := hs
    rcases hx with q | ⟨r, r1, r2, r3⟩
    · exact (hcan.elim (fun z => z hs) (fun z => z q)).elim
    · refine y_of r 1 r2 rfl (by omega) (by decide) (hS.task (i := r) r1 1 (by decide) hT) ?_
      refine y_gets hS hT hSc hi rfl (fun g1 S1 => ?_)
      refine k153 (yRcv k i (k 25 r) ch) g1 _ (List.forall_mem_cons.mpr ⟨rfl, List.forall_mem_cons.mpr ⟨rfl, fun _ q => by cases q⟩⟩) S1 (hI.rcv (i := i) (n := k 25 r) (ch := ch)).1 (by show zc (yRcv k i (k 25 r) ch 21 0) = _; rw [zFr.rcv 21 (by decide)]) (zFr.rcv 23 (by decide)) (by show zc (yRcv k i (k 25 r) ch 95 1) = _; rw [zFr.rcv 95 (by decide)]) (fun z => absurd (r2.symm.trans z) (nI_m1 (by omega))) (fun r' r1' r2' r3' => ?_)
      have : r' = r := nI_inj (by omega) (by omega) (r1'.symm.trans r2)
      subst this
      exact t2 r' hs r2 r1 r3
  · have hs : ¬ k 85 c ≤ 0 := hs
    obtain ⟨m, hm⟩ : ∃ m, zc (k 85 c) = m + 1 := ⟨zc (k 85 c) - 1, by
      have : zc (k 85 c) ≠ 0 := fun z => hs (by rw [hz.1, z]; decide)
      omega⟩
    have hk : k 85 c = nI (m + 1) := by rw [← hm]; exact hz.1
    have h3 : m < 3 := by have := hz.2; omega
    have c87 : g (152 + 5 * c + 0) = k 87 (c * 3 + 0) := hS.1 _ _ _ (zCo_cn hc (by decide) rfl) (by
      refine ⟨fun q => by omega, fun q => by omega, fun q => by omega, fun q => by omega, fun q => by omega, fun q => by omega, fun q => by omega, fun _ => ?_, fun q => by omega⟩
      rw [show (c * 3 + 0) / 3 = c from by omega, show (c * 3 + 0) % 3 = 0 from by omega]
      rw [zd_8]
      omega)
    refine wn_ld hm_X12_receives (150 + 5 * c + 2) (i3 2) (v := k 87 (c * 3)) (by rw [show 150 + 5 * c + 2 = 152 + 5 * c + 0 from by omega]; exact c87) (by omega) rfl ?_
    refine am_go hm_X12_receives (fun p => Nat.beq p 50) 60 ?_
    refine y_gets hS hT hSc hi rfl (fun g1 S1 => ?_)
    have I1 := hI.rcv (i := i) (n := k 87 (c * 3)) (ch := ch)
    have F1 := zFr.rcv (k := k) (i := i) (n := k 87 (c * 3)) (ch := ch)
    generalize hk1 : yRcv k i (k 87 (c * 3)) ch = k1 at S1 I1 F1 t3 t4
    have e85 : k1 85 = k 85 := F1 85 (by decide)
    have e21 : k1 21 = k 21 := F1 21 (by decide)
    have e57 : k1 57 = k 57 := F1 57 (by decide)
    have e25 : ∀ r, r ≠ i → k1 25 r = k 25 r := by
      intro r hr
      rw [← hk1]
      unfold yRcv
      split
      · exact pk_un hr
      · exact pk_un hr
    have hT1 : zT k1 ≤ 24 := by show zc (k1 21 0) ≤ 24; rw [e21]; exact hT
    have hS1 : zSc k1 ≤ 60 := by show zc (k1 57 0) ≤ 60; rw [e57]; exact hSc
    refine wn_ld hm_X12_receives (150 + 5 * c + 1) (i3 1) (v := nI (m + 1)) ((S1.ch hc 1 (by decide)).trans ((congrFun e85 c).trans hk)) (by omega) rfl ?_
    refine am_go hm_X12_receives (fun p => Nat.beq p 53) 40 ?_
    refine wn_st hm_X12_receives (150 + 5 * c + 1) (i3 1) (by omega) rfl ?_
    rw [nI_pred]
    have c2 : zCo 85 c (150 + 5 * c + 1) := zCo_c (w := 1) (by decide) hc rfl
    refine am_go hm_X12_receives (fun p => Nat.beq p 57) 40 ?_
    have S2 := zS1_up (v := nI m) S1.1 c2
    refine am_Wp.sub hm_X12_receives (ls := [(0, .ref 189), (1, .int (nI i)), (2, .int (nI c)), (3, .int ch), (4, .int (xLS k (nI c))), (5, .int (nI (150 + 5 * c))), (6, .int (nI 0))]) (am_le_of (List.forall_mem_cons.mpr ⟨rfl, List.forall_mem_cons.mpr ⟨rfl, List.forall_mem_cons.mpr ⟨rfl, List.forall_mem_cons.mpr ⟨rfl, List.forall_mem_cons.mpr ⟨rfl, List.forall_mem_cons.mpr ⟨rfl, List.forall_mem_cons.mpr ⟨rfl, fun _ q => by cases q⟩⟩⟩⟩⟩⟩⟩)) ?_
    refine l_shift (k1 := k1) (k2 := am_up k1 85 c (nI m)) (g1 := g1) hc h3 (by rw [e85]; exact hm) (fun g3 S3 E3 hcnt => ?_) m 0 _ (Nat.zero_add _) S2 (zEx.up c2) pk_us
    rw [yCsh_85] at S3
    have S4 : zSim b (yCtak k1 c m) g3 := by
      refine ⟨zS1_d S3 (fun a j _ _ hn => Or.inl (zIn_le hn (fun n x => ?_))), (zS2.g hT1 hS1 S1.2 E3).k (fun a ha => zFr.ctak a (by
        simp only [List.mem_cons, List.not_mem_nil, or_false]; omega))⟩
      have en : ∀ a, a ≠ 85 → a ≠ 87 → yCtak k1 c m a = k1 a := fun a h1 h2 => zFr.ctak a (by simp only [List.mem_cons, List.not_mem_nil, or_false]; omega)
      refine zd_eq9 (congrFun (en 21 (by decide) (by decide)) 0) (congrFun (en 57 (by decide) (by decide)) 0) (congrFun (en 89 (by decide) (by decide)) 1) (congrFun (en 95 (by decide) (by decide)) 1) (congrFun (en 97 (by decide) (by decide)) 1) (en 29 (by decide) (by decide)) (en 54 (by decide) (by decide)) (en 18 (by decide) (by decide)) (fun x => ?_) n x
      show zc (upd (yCsh k1 c m 85) c (nI m) x) ≤ zc (k1 85 x)
      rw [yCsh_n (by decide)]
      by_cases e : x = c
      · subst e; rw [pk_us, zc_i (by omega), e85, hm]; omega
      · rw [pk_un e]; exact Nat.le_refl _
    have I4 := I1.ctak (i := c) h3
    have e85c : yCtak k1 c m 85 c = nI m := by unfold yCtak; rw [zup_ss]
    have F4 := zFr.ctak (k := k1) (c := c) (m := m)
    have e4T : zT (yCtak k1 c m) = zT k := by show zc (yCtak k1 c m 21 0) = _; rw [F4 21 (by decide), e21]
    have e4S : zSc (yCtak k1 c m) = zSc k := by show zc (yCtak k1 c m 57 0) = _; rw [F4 57 (by decide), e57]
    have e4Q : zQ (yCtak k1 c m) = zQ k := by show zc (yCtak k1 c m 95 1) = _; rw [F4 95 (by decide), F1 95 (by decide)]
    have e423 : yCtak k1 c m 23 = k 23 := by rw [F4 23 (by decide), F1 23 (by decide)]
    refine am_go hm_X12_receives (fun p => Nat.beq p 123 || Nat.beq p 153) 60 ?_
    rcases hx with q | ⟨r, r1, r2, r3⟩
    · refine am_ite (fun _ => ?_) (fun z => absurd (by rw [q]; decide) z)
      exact k153 (yCtak k1 c m) g3 _ (List.forall_mem_cons.mpr ⟨rfl, List.forall_mem_cons.mpr ⟨rfl, fun _ q => by cases q⟩⟩) S4 I4.1 e4T e423 e4Q (fun _ => t3 m hk h3 q) (fun r' r1' _ _ => absurd (r1'.symm.trans q) (fun z => nI_m1 (by omega) z))
    · have hr : r ≠ i := fun z => by rw [z, h0] at r3; exact absurd r3 (by decide)
      refine am_ite (fun z => absurd (by rw [r2] at z; exact z) (nI_pos (by omega))) (fun _ => ?_)
      refine wn_ld hm_X12_receives (150 + 5 * c + 1) (i3 1) hcnt (by omega) rfl ?_
      refine am_go hm_X12_receives (fun p => Nat.beq p 127) 40 ?_
      refine wn_st hm_X12_receives (150 + 5 * c + 1) (i3 1) (by omega) rfl ?_
      refine am_go hm_X12_receives (fun p => Nat.beq p 136) 40 ?_
      refine y_of r 1 r2 rfl (by omega) (by decide) (v := k 25 r) ?_ ?_
      · rw [pk_un (by omega), S4.task (i := r) (by rw [e4T]; exact r1) 1 (by decide) (by rw [e4T]; exact hT)]
        show yCtak k1 c m 25 r = k 25 r
        rw [F4 25 (by decide), e25 r hr]
      refine wn_st hm_X12_receives (152 + 5 * c + m) (by
        show nI (150 + 5 * c) + nI 2 + nI m = _
        rw [i3, nI_add]; congr 1; omega) (by omega) rfl ?_
      rw [nI_1, upd_comm (a := 150 + 5 * c + 1) (b := 152 + 5 * c + m) (by omega)]
      have S5 := S4.cadd (x := k 25 r) (by rw [e4T]; exact hT) (by rw [e4S]; exact hSc) hc e85c h3
      have I5 := I4.cadd (i := c) (n := k 25 r) h3
      refine am_go hm_X12_receives (fun p => Nat.beq p 153) 40 ?_
      refine k153 (yCadd (yCtak k1 c m) c m (k 25 r)) _ _ (List.forall_mem_cons.mpr ⟨rfl, List.forall_mem_cons.mpr ⟨rfl, fun _ q => by cases q⟩⟩) S5 I5.1 (by show zc (yCadd (yCtak k1 c m) c m (k 25 r) 21 0) = _; rw [zFr.cadd 21 (by decide)]; exact e4T) (by rw [zFr.cadd 23 (by decide)]; exact e423) (by show zc (yCadd (yCtak k1 c m) c m (k 25 r) 95 1) = _; rw [zFr.cadd 95 (by decide)]; exact e4Q) (fun z => absurd (r2.symm.trans z) (nI_m1 (by omega))) (fun r' r1' r2' r3' => ?_)
      have : r' = r := nI_inj (by omega) (by omega) (r1'.symm.trans r2)
      subst this
      exact t4 m r' hk h3 r2 r1 r3
end ZY
