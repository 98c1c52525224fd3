/-! failures, guards, the interruption of children: both sides -/
section ZM
variable {σ : am_M} {g : Nat → Int32} {R : am_R}
theorem zIn_f {d d1 : Nat → Nat → Nat} {a j : Nat} (h : zIn d1 a j) (e : ∀ n i, n ≠ 2 → d1 n i = d n i) (e2 : d1 2 0 = d 2 0 + 1) : zIn d a j ∨ (90 ≤ a ∧ a ≤ 94 ∧ j = d 2 0) := by
  by_cases q : 90 ≤ a ∧ a ≤ 94 ∧ j = d 2 0
  · exact Or.inr q
  · left
    unfold zIn at h ⊢
    rw [e 3 0 (by decide), e 4 0 (by decide), e 0 0 (by decide), e 5 _ (by decide), e 6 _ (by decide), e 1 0 (by decide), e 8 _ (by decide), e 7 _ (by decide), e2] at h
    obtain ⟨h1, h2, h3, h4, h5, h6, h7, h8⟩ := h
    exact ⟨h1, h2, h3, h4, h5, h6, fun z => by have := h7 z; omega, h8⟩
theorem zd_eq2 {k k1 : am_M} (h0 : k1 21 0 = k 21 0) (h1 : k1 57 0 = k 57 0) (h2 : k1 95 1 = k 95 1) (h4 : k1 97 1 = k 97 1) (h5 : k1 29 = k 29) (h6 : k1 54 = k 54) (h7 : k1 18 = k 18) (h8 : k1 85 = k 85) : ∀ n i1, n ≠ 2 → zd k1 n i1 = zd k n i1 := by
  intro n i1 hn
  match n, hn with
  | 0, _ => exact congrArg zc h0
  | 1, _ => exact congrArg zc h1
  | 2, z => exact absurd rfl z
  | 3, _ => exact congrArg zc h2
  | 4, _ => exact congrArg zc h4
  | 5, _ => exact congrArg zc (congrFun h5 i1)
  | 6, _ => exact congrArg zc (congrFun h6 i1)
  | 7, _ => exact congrArg zc (congrFun h7 i1)
  | n + 8, _ => exact congrArg zc (congrFun h8 i1)
theorem zSim.fault {b : Nat} {k : am_M} {F : Nat} {a t u : Int32} (h : zSim b k g) (hT : zT k ≤ 24) (hS : zSc k ≤ 60) (hF : F = zF k) (h6 : F < 660) : zSim b (yFault k F a t u) (upd (upd (upd (upd g (3231 + 3 * F) a) 172 (nI (F + 1))) (3231 + 3 * F + 1) t) (3231 + 3 * F + 2) u) := by
  have c0 : zCo 90 F (3231 + 3 * F) := zCo_f (w := 0) (by decide) h6 rfl
  have c1 : zCo 92 F (3231 + 3 * F + 1) := zCo_f (w := 1) (by decide) h6 rfl
  have c2 : zCo 94 F (3231 + 3 * F + 2) := zCo_f (w := 2) (by decide) h6 rfl
  refine ⟨?_, zS2.g hT hS (k := yFault k F a t u) h.2 ((((zEx.up (v := a) c0).tr (zEx.up (v := nI (F + 1)) zCo_172)).tr (zEx.up (v := t) c1)).tr (zEx.up (v := u) c2))⟩
  have h1 := zS1_up (v := a) h.1 c0
  have h2 := zS1_up (v := nI (F + 1)) h1 zCo_172
  have h3 := zS1_up (v := t) h2 c1
  have h4 := zS1_k (a := 91) (j := 1) (v := nI (F + 1)) h3 (by decide)
  have h5 := zS1_up (v := u) h4 c2
  have h7 := zS1_k (a := 93) (j := 1) (v := nI (F + 1)) h5 (by decide)
  refine zS1_d h7 (fun a1 j m hc hn => ?_)
  have e := zd_eq2 (k := k) (k1 := yFault k F a t u) rfl rfl rfl rfl rfl rfl rfl rfl
  have e2 : zd (yFault k F a t u) 2 0 = zd k 2 0 + 1 := by
    show zc (nI (F + 1)) = zc (k 89 1) + 1
    rw [zc_i (by omega), hF]
  rcases zIn_f hn e e2 with q | ⟨q1, q2, rfl⟩
  · exact Or.inl q
  · right
    have hj : zd k 2 0 = F := hF.symm
    rw [hj] at hc ⊢
    have hw : a1 = 90 ∨ a1 = 92 ∨ a1 = 94 := by
      have h8 := zCo_a hc
      have h9 : a1 % 2 = 0 := by
        unfold zCo at hc
        rcases hc with hc | hc | hc | hc | hc | hc | hc | hc | hc | hc | hc | hc | hc | hc | hc | hc | hc | hc | hc <;> omega
      omega
    rcases hw with rfl | rfl | rfl
    · rw [zCo_fw hc c0]
      show upd (upd (upd (upd g (3231 + 3 * F) a) 172 (nI (F + 1))) (3231 + 3 * F + 1) t) (3231 + 3 * F + 2) u (3231 + 3 * F) = upd (k 90) F a F
      rw [pk_un (by omega), pk_un (by omega), pk_un (by omega), pk_us, pk_us]
    · rw [zCo_fw hc c1]
      show upd (upd (upd (upd g (3231 + 3 * F) a) 172 (nI (F + 1))) (3231 + 3 * F + 1) t) (3231 + 3 * F + 2) u (3231 + 3 * F + 1) = upd (k 92) F t F
      rw [pk_un (by omega), pk_us, pk_us]
    · rw [zCo_fw hc c2]
      show upd (upd (upd (upd g (3231 + 3 * F) a) 172 (nI (F + 1))) (3231 + 3 * F + 1) t) (3231 + 3 * F + 2) u (3231 + 3 * F + 2) = upd (k 94) F u F
      rw [pk_us, pk_us]
theorem zSim.Fc {b : Nat} {k : am_M} (h : zSim b k g) : g 172 = k 89 1 := h.1 _ _ _ zCo_172 (by unfold zIn; refine ⟨fun q => by omega, fun q => by omega, fun q => by omega, fun q => by omega, fun q => by omega, fun q => by omega, fun q => by omega, fun q => by omega, fun q => by omega⟩)
theorem zSim.Tc {b : Nat} {k : am_M} (h : zSim b k g) : g 170 = k 21 0 := h.1 _ _ _ zCo_170 (by unfold zIn; refine ⟨fun q => by omega, fun q => by omega, fun q => by omega, fun q => by omega, fun q => by omega, fun q => by omega, fun q => by omega, fun q => by omega, fun q => by omega⟩)
theorem zSim.Sc {b : Nat} {k : am_M} (h : zSim b k g) : g 171 = k 57 0 := h.1 _ _ _ zCo_171 (by unfold zIn; refine ⟨fun q => by omega, fun q => by omega, fun q => by omega, fun q => by omega, fun q => by omega, fun q => by omega, fun q => by omega, fun q => by omega, fun q => by omega⟩)
theorem zSim.Ec {b : Nat} {k : am_M} (h : zSim b k g) : g 174 = k 97 1 := h.1 _ _ _ zCo_174 (by unfold zIn; refine ⟨fun q => by omega, fun q => by omega, fun q => by omega, fun q => by omega, fun q => by omega, fun q => by omega, fun q => by omega, fun q => by omega, fun q => by omega⟩)
theorem zSim.st {b : Nat} {k : am_M} (h : zSim b k g) {i l : Nat} (hT : zT k ≤ 24) (hi : i < zT k) (hl : l < zc (k 29 i)) (h5 : l < 5) : g (246 + 45 * i + l) = k 51 (i * 5 + l) :=
  h.1 _ _ _ (zCo_st (by omega) h5 rfl) (by
    unfold zIn
    refine ⟨fun q => by omega, fun q => by omega, fun q => by omega, fun _ => ⟨?_, ?_⟩, fun q => by omega, fun q => by omega, fun q => by omega, fun q => by omega, fun q => by omega⟩
    · rw [show (i * 5 + l) / 5 = i from by omega]; exact hi
    · rw [show (i * 5 + l) / 5 = i from by omega, show (i * 5 + l) % 5 = l from by omega]; exact hl)
theorem zSim.sc {b : Nat} {k : am_M} (h : zSim b k g) {s : Nat} (hs : s < zSc k) (h60 : s < 60) (w : Nat) (hw : w < 4) : g (1311 + 32 * s + w) = k (59 + 2 * w) s :=
  h.1 _ _ _ (zCo_s hw h60 rfl) (by unfold zIn; refine ⟨fun q => by omega, fun q => by omega, fun q => by omega, fun q => by omega, fun q => by omega, fun _ => hs, fun q => by omega, fun q => by omega, fun q => by omega⟩)
theorem zSim.sc2 {b : Nat} {k : am_M} (h : zSim b k g) {s : Nat} (hs : s < zSc k) (h60 : s < 60) (w : Nat) (hw : w < 3) : g (1315 + 32 * s + w) = k (71 + 2 * w) s :=
  h.1 _ _ _ (zCo_s2 hw h60 rfl) (by unfold zIn; refine ⟨fun q => by omega, fun q => by omega, fun q => by omega, fun q => by omega, fun q => by omega, fun _ => hs, fun q => by omega, fun q => by omega, fun q => by omega⟩)
theorem zSim.flt {b : Nat} {k : am_M} (h : zSim b k g) {f : Nat} (hf : f < zF k) (h6 : f < 660) (w : Nat) (hw : w < 3) : g (3231 + 3 * f + w) = k (90 + 2 * w) f :=
  h.1 _ _ _ (zCo_f hw h6 rfl) (by unfold zIn; refine ⟨fun q => by omega, fun q => by omega, fun q => by omega, fun q => by omega, fun q => by omega, fun q => by omega, fun _ => hf, fun q => by omega, fun q => by omega⟩)
theorem nI3 (F w : Nat) : (3231 : Int32) + 3 * nI F + nI w = nI (3231 + 3 * F + w) := by
  rw [show (3 : Int32) * nI F = nI (3 * F) from pk_mul 3 F, show (3231 : Int32) + nI (3 * F) = nI (3231 + 3 * F) from nI_add 3231 (3 * F), nI_add]
theorem nI3z (F : Nat) : (3231 : Int32) + 3 * nI F = nI (3231 + 3 * F) := by
  rw [show (3 : Int32) * nI F = nI (3 * F) from pk_mul 3 F, show (3231 : Int32) + nI (3 * F) = nI (3231 + 3 * F) from nI_add 3231 (3 * F)]
set_option maxRecDepth 20000 in
theorem y_fault {a t u : Int32} {F : Nat} (hF : g 172 = nI F) (h6 : F < 660) (h : R (some (.int (nI F))) (am_ua σ 190 (upd (upd (upd (upd g (3231 + 3 * F) a) 172 (nI (F + 1))) (3231 + 3 * F + 1) t) (3231 + 3 * F + 2) u))) : sp_X12_fault [.ref 189, .int a, .int t, .int u] (am_ua σ 190 g) R := by
  refine ⟨rfl, am_go hm_X12_fault (fun p => Nat.beq p 8) 20 ?_⟩
  refine wn_ld hm_X12_fault 172 rfl hF (by decide) rfl ?_
  refine am_go hm_X12_fault (fun p => Nat.beq p 12) 20 ?_
  refine wn_st hm_X12_fault 172 rfl (by decide) rfl ?_
  refine am_go hm_X12_fault (fun p => Nat.beq p 28) 20 ?_
  refine wn_st hm_X12_fault (3231 + 3 * F) (nI3z F) (by omega) rfl ?_
  refine am_go hm_X12_fault (fun p => Nat.beq p 44) 20 ?_
  refine wn_st hm_X12_fault (3231 + 3 * F + 1) (nI3 F 1) (by omega) rfl ?_
  refine am_go hm_X12_fault (fun p => Nat.beq p 60) 20 ?_
  refine wn_st hm_X12_fault (3231 + 3 * F + 2) (nI3 F 2) (by omega) rfl ?_
  rw [show nI F + 1 = nI (F + 1) from nI_1 F, upd_comm (a := 172) (b := 3231 + 3 * F) (by omega)]
  exact am_go hm_X12_fault (fun _ => false) 20 h
theorem zs_fault {c e b w N : Nat} {k : am_M} {a t u : Int32} (hS : zSim b k g) (hI : zInv c (e + 1) w N k) (h : ∀ g1, zSim b (yFault k (zF k) a t u) g1 → R (some (.int (nI (zF k)))) (am_ua σ 190 g1)) : sp_X12_fault [.ref 189, .int a, .int t, .int u] (am_ua σ 190 g) R :=
  y_fault (hS.Fc.trans hI.1.2.2.1.1) hI.Flt (h _ (hS.fault hI.1.1.2 hI.1.2.1.2 rfl hI.Flt))
theorem nI_lvlt {n l : Nat} (hn : n < 2 ^ 30) (hl : l < 2 ^ 30) : nI n - 1 < nI l ↔ n ≤ l := by
  cases n with
  | zero =>
    refine ⟨fun _ => Nat.zero_le _, fun _ => ?_⟩
    have := nI_toInt (n := l) (by omega)
    rw [Int32.lt_iff_toInt_lt, this]
    show (-1 : Int) < _
    omega
  | succ n => rw [nI_pred, nI_ltI (by omega) (by omega)]; omega
set_option maxRecDepth 20000 in
theorem l_fails {c e b w N i n : Nat} {k : am_M} {t f : Int32} (hS : zSim b k g) (hI : zInw c e w N k) (ht : t = nI i) (hi : i < zT k) (hn : n ≤ zc (k 29 i)) (hr : zRs (zF k) 3 (zGd (zGp (k 51) (k 63) i) n) f) (h : ∀ g1, zSim b (wIntr k (nI i) 3 (zGd (zGp (k 51) (k 63) i) n) f) g1 → R none (am_ua σ 190 g1)) :
    ∀ m l, l + m = n → am_Wp (am_lk cl_X12_fails) 6 [(0, .ref 189), (1, .int t), (2, .int f), (3, .int (nI n - 1)), (4, .int (zGd (zGp (k 51) (k 63) i) l)), (5, .int (nI l))] [] (am_ua σ 190 g) R := by
  have hT : zT k ≤ 24 := hI.1.1.1.2
  have hSc : zSc k ≤ 60 := hI.1.1.2.1.2
  obtain ⟨h3a, h3b⟩ := hI.1.2.2.1 i hi
  have h5 := h3a.2
  intro m
  induction m with
  | zero =>
    intro l e
    have e : l = n := by omega
    subst e
    refine am_go hm_X12_fails (fun p => Nat.beq p 31) 40 ?_
    refine am_ite (fun _ => ?_) (fun z => absurd ((nI_lvlt (by omega) (by omega)).mpr (Nat.le_refl l)) z)
    exact y_interrupts hS hI ht hi hr h
  | succ m ih =>
    intro l e
    have hl : l < zc (k 29 i) := by omega
    obtain ⟨q1, q2, q3⟩ := h3b l hl
    refine am_go hm_X12_fails (fun p => Nat.beq p 31) 40 ?_
    refine am_ite (fun z => absurd ((nI_lvlt (by omega) (by omega)).mp z) (by omega)) (fun _ => ?_)
    refine y_of i (15 + l) ht (nI_add 15 l) (by omega) (by omega) (v := k 51 (i * 5 + l)) ?_ ?_
    · rw [show 231 + 45 * i + (15 + l) = 246 + 45 * i + l from by omega]; exact hS.st hT hi hl (by omega)
    refine y_scope (zc (k 51 (i * 5 + l))) q1.1 ?_
    refine wn_ld hm_X12_fails (1311 + 32 * zc (k 51 (i * 5 + l)) + 2) (nI_add _ 2) (hS.sc q2 (by omega) 2 (by decide)) (by omega) rfl ?_
    refine am_go hm_X12_fails (fun p => Nat.beq p 40) 40 ?_
    have key : ∀ (x : Int32) (ls : am_L), (∀ q ∈ ([(0, .ref 189), (1, .int t), (2, .int f), (3, .int (nI n - 1)), (4, .int x), (5, .int (nI l))] : am_L), am_lv ls q.1 = some q.2) → x = zGd (zGp (k 51) (k 63) i) (l + 1) → am_Wp (am_lk cl_X12_fails) 40 ls [] (am_ua σ 190 g) R := by
      intro x ls hls hx
      refine am_Wp.sub hm_X12_fails (am_le_of hls) (am_go hm_X12_fails (fun p => Nat.beq p 6) 20 ?_)
      have h9 := ih (l + 1) (by omega)
      rw [← hx, nI_succ l] at h9
      exact am_Wp.sub hm_X12_fails (am_le_of (List.forall_mem_cons.mpr ⟨rfl, List.forall_mem_cons.mpr ⟨rfl, List.forall_mem_cons.mpr ⟨rfl, List.forall_mem_cons.mpr ⟨rfl, List.forall_mem_cons.mpr ⟨rfl, List.forall_mem_cons.mpr ⟨rfl, fun _ q => by cases q⟩⟩⟩⟩⟩⟩)) h9
    have gu : zGd (zGp (k 51) (k 63) i) (l + 1) = bif zGp (k 51) (k 63) i l then nI l else zGd (zGp (k 51) (k 63) i) l := rfl
    refine am_ite (fun z => ?_) (fun z => ?_)
    · refine key (nI l) _ (List.forall_mem_cons.mpr ⟨rfl, List.forall_mem_cons.mpr ⟨rfl, List.forall_mem_cons.mpr ⟨rfl, List.forall_mem_cons.mpr ⟨rfl, List.forall_mem_cons.mpr ⟨rfl, List.forall_mem_cons.mpr ⟨rfl, fun _ q => by cases q⟩⟩⟩⟩⟩⟩) ?_
      rw [gu, show zGp (k 51) (k 63) i l = true from decide_eq_true z]; rfl
    · refine key (zGd (zGp (k 51) (k 63) i) l) _ (List.forall_mem_cons.mpr ⟨rfl, List.forall_mem_cons.mpr ⟨rfl, List.forall_mem_cons.mpr ⟨rfl, List.forall_mem_cons.mpr ⟨rfl, List.forall_mem_cons.mpr ⟨rfl, List.forall_mem_cons.mpr ⟨rfl, fun _ q => by cases q⟩⟩⟩⟩⟩⟩) ?_
      rw [gu, show zGp (k 51) (k 63) i l = false from decide_eq_false z]; rfl
theorem y_fails {c e b w N i n : Nat} {k : am_M} {t f l : Int32} (hS : zSim b k g) (hI : zInw c e w N k) (ht : t = nI i) (hi : i < zT k) (hn : n ≤ zc (k 29 i)) (hl : l = nI n - 1) (hr : zRs (zF k) 3 (zGd (zGp (k 51) (k 63) i) n) f) (h : ∀ g1, zSim b (wIntr k (nI i) 3 (zGd (zGp (k 51) (k 63) i) n) f) g1 → R none (am_ua σ 190 g1)) : sp_X12_fails [.ref 189, .int t, .int f, .int l] (am_ua σ 190 g) R := by
  subst hl
  refine ⟨rfl, am_go hm_X12_fails (fun p => Nat.beq p 6) 20 ?_⟩
  exact am_Wp.sub hm_X12_fails (am_le_of (List.forall_mem_cons.mpr ⟨rfl, List.forall_mem_cons.mpr ⟨rfl, List.forall_mem_cons.mpr ⟨rfl, List.forall_mem_cons.mpr ⟨rfl, List.forall_mem_cons.mpr ⟨rfl, List.forall_mem_cons.mpr ⟨rfl, fun _ q => by cases q⟩⟩⟩⟩⟩⟩)) (l_fails hS hI ht hi hn hr h n 0 (by omega))
/-- a failure is made, then it interrupts -/
theorem y_failsF {c e b w N i n : Nat} {k : am_M} {t a u l f : Int32} (hS : zSim b (yFault k (zF k) a (nI i) u) g) (hI : zInw c (e + 1) w N k) (ht : t = nI i) (hi : i < zT k) (hn : n ≤ zc (k 29 i)) (hl : l = nI n - 1) (hf : f = nI (zF k)) (hu : u = -1 ∨ (zN u 659 ∧ zc u < zF k)) (h : ∀ g1, zSim b (wFail k (nI i) a u l) g1 → R none (am_ua σ 190 g1)) : sp_X12_fails [.ref 189, .int t, .int f, .int l] (am_ua σ 190 g) R := by
  subst hf
  have hF := hI.1.Flt
  have eF : zF (yFault k (zF k) a (nI i) u) = zF k + 1 := zc_i (by omega)
  have I1 : zInw c e w N (yFault k (zF k) a (nI i) u) := ⟨hI.1.fault hu, hI.2⟩
  exact y_fails (n := n) hS I1 ht hi hn hl (by rw [eF]; exact zRs_3 hF) (fun g1 h1 => h g1 (by rw [hI.1.efail hi hn hl]; exact h1))
theorem y_fails2 {c e b w N i : Nat} {k : am_M} {t a : Int32} (hS : zSim b k g) (hI : zInw c (e + 1) w N k) (ht : t = nI i) (hi : i < zT k) (h : ∀ g1, zSim b (wFail k (nI i) a (-1) (tInLv k (nI i))) g1 → R none (am_ua σ 190 g1)) : sp_X12_fails_ [.ref 189, .int t, .int a] (am_ua σ 190 g) R := by
  have hT : zT k ≤ 24 := hI.1.1.1.2
  subst ht
  obtain ⟨h3a, h3b⟩ := hI.1.2.2.1 i hi
  have hlv : tInLv k (nI i) = nI (zc (k 29 i)) - 1 := by unfold tInLv; rw [ra_T_depth (by omega)]; exact congrArg (· - 1) h3a.1
  refine ⟨rfl, am_go hm_X12_fails_ (fun _ => false) 40 ?_⟩
  refine zs_fault hS hI.1 (fun g1 S1 => ?_)
  refine y_of i 3 rfl rfl (by omega) (by decide) (S1.task (i := i) hi 3 (by decide) hT) ?_
  refine y_failsF (n := zc (k 29 i)) (u := -1) S1 hI rfl hi (Nat.le_refl _) (congrArg (· - 1) h3a.1) rfl (Or.inl rfl) (fun g2 S2 => ?_)
  refine h g2 ?_
  rw [hlv, ← (congrArg (· - 1) h3a.1 : k 29 i - 1 = _)]
  exact S2
set_option maxRecDepth 20000 in
theorem l_cancels {c e b w N s : Nat} {k : am_M} (hI : zInw c e w N k) (hc : k 31 c ≠ nI s) (h : ∀ g1, zSim b (wCancel k (nI s)) g1 → R none (am_ua σ 190 g1)) :
    ∀ m n (g : Nat → Int32), n + m = zT k → zSim b (wCanN k (nI s) n) g → am_Wp (am_lk cl_X12_cancels) 2 [(0, .ref 189), (1, .int (nI s)), (2, .int (nI n))] [] (am_ua σ 190 g) R := by
  have hT : zT k ≤ 24 := hI.1.1.1.2
  intro m
  induction m with
  | zero =>
    intro n g e hS
    obtain ⟨I1, f1, _⟩ := hI.can hc n (by omega)
    have h21 : wCanN k (nI s) n 21 0 = nI (zT k) := by rw [f1 21 (by decide)]; exact hI.1.1.1.1
    refine am_go hm_X12_cancels (fun p => Nat.beq p 10) 40 ?_
    refine wn_ld hm_X12_cancels 170 rfl (hS.Tc.trans h21) (by decide) rfl ?_
    refine am_go hm_X12_cancels (fun _ => false) 40 ?_
    refine am_ite (fun _ => ?_) (fun z => absurd (nI_le (by omega) (by omega)) z)
    have en : n = zT k := by omega
    subst en
    exact h g hS
  | succ m ih =>
    intro n g e hS
    obtain ⟨I1, f1, _⟩ := hI.can hc n (by omega)
    have h21 : wCanN k (nI s) n 21 0 = nI (zT k) := by rw [f1 21 (by decide)]; exact hI.1.1.1.1
    have hn1 : n < zT (wCanN k (nI s) n) := by show n < zc (wCanN k (nI s) n 21 0); rw [h21, zc_i (by omega)]; omega
    have e1 : wCanN k (nI s) (n + 1) = if k 31 n = nI s then wIntr (wCanN k (nI s) n) (nI n) 1 (-1) (-1) else wCanN k (nI s) n := by
      show (if rAt (wCanN k (nI s) n) cT_home (nI n) = nI s then wIntr (wCanN k (nI s) n) (nI n) 1 (-1) (-1) else wCanN k (nI s) n) = _
      rw [ra_T_home (by omega), f1 31 (by decide)]
    have next : ∀ (g1 : Nat → Int32) (ls : am_L), (∀ q ∈ ([(0, .ref 189), (1, .int (nI s)), (2, .int (nI n))] : am_L), am_lv ls q.1 = some q.2) → zSim b (wCanN k (nI s) (n + 1)) g1 → am_Wp (am_lk cl_X12_cancels) 40 ls [] (am_ua σ 190 g1) R := by
      intro g1 ls hls S1
      refine am_Wp.sub hm_X12_cancels (am_le_of hls) (am_go hm_X12_cancels (fun p => Nat.beq p 2) 20 ?_)
      have h9 := ih (n + 1) g1 (by omega) S1
      rw [nI_succ n] at h9
      exact am_Wp.sub hm_X12_cancels (am_le_of (List.forall_mem_cons.mpr ⟨rfl, List.forall_mem_cons.mpr ⟨rfl, List.forall_mem_cons.mpr ⟨rfl, fun _ q => by cases q⟩⟩⟩)) h9
    have F : ∀ q ∈ ([(0, .ref 189), (1, .int (nI s)), (2, .int (nI n))] : am_L), am_lv ([(0, .ref 189), (1, .int (nI s)), (2, .int (nI n))] : am_L) q.1 = some q.2 := List.forall_mem_cons.mpr ⟨rfl, List.forall_mem_cons.mpr ⟨rfl, List.forall_mem_cons.mpr ⟨rfl, fun _ q => by cases q⟩⟩⟩
    have c0 := hS.task hn1 0 (by decide) (show zc (wCanN k (nI s) n 21 0) ≤ 24 by rw [h21, zc_i (by omega)]; exact hT)
    have c4 := hS.task hn1 4 (by decide) (show zc (wCanN k (nI s) n 21 0) ≤ 24 by rw [h21, zc_i (by omega)]; exact hT)
    refine am_go hm_X12_cancels (fun p => Nat.beq p 10) 40 ?_
    refine wn_ld hm_X12_cancels 170 rfl (hS.Tc.trans h21) (by decide) rfl ?_
    refine am_go hm_X12_cancels (fun p => Nat.beq p 40) 40 ?_
    refine am_ite (fun z => absurd z (nI_ge (by omega) (by omega))) (fun _ => ?_)
    refine y_of n 4 rfl rfl (by omega) (by decide) (c4.trans (congrFun (f1 31 (by decide)) n)) ?_
    refine am_ite (fun z => ?_) (fun z => ?_)
    · rw [if_pos z] at e1
      refine y_isLive n rfl (by omega) c0 ?_
      refine am_ite (fun h0 => ?_) (fun h0 => ?_)
      · have h6 : 6 ≤ wCanN k (nI s) n 23 n := Decidable.not_not.mp (bI_0.mp h0)
        exact next g _ F (by rw [e1, wIntr_end (by omega) h6]; exact hS)
      · exact y_interrupts hS I1 rfl hn1 zRs_1 (fun g1 S1 => next g1 _ F (by rw [e1]; exact S1))
    · rw [if_neg z] at e1
      exact next g _ F (by rw [e1]; exact hS)
theorem y_cancels {c e b w N s : Nat} {k : am_M} {t : Int32} (hS : zSim b k g) (hI : zInw c e w N k) (ht : t = nI s) (hc : k 31 c ≠ nI s) (h : ∀ g1, zSim b (wCancel k (nI s)) g1 → R none (am_ua σ 190 g1)) : sp_X12_cancels [.ref 189, .int t] (am_ua σ 190 g) R := by
  subst ht
  refine ⟨rfl, am_go hm_X12_cancels (fun p => Nat.beq p 2) 20 ?_⟩
  exact am_Wp.sub hm_X12_cancels (am_le_of (List.forall_mem_cons.mpr ⟨rfl, List.forall_mem_cons.mpr ⟨rfl, List.forall_mem_cons.mpr ⟨rfl, fun _ q => by cases q⟩⟩⟩)) (l_cancels hI hc h (zT k) 0 g (by omega) hS)
end ZM
