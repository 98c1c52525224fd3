/-! reset -/
section ZCL
variable {σ : am_M} {g : Nat → Int32} {R : am_R}
/-- no task, no scope, no failure, no count -/
def zNul (k : am_M) : Prop := k 21 0 = 0 ∧ k 57 0 = 0 ∧ k 89 1 = 0 ∧ k 91 1 = 0 ∧ k 93 1 = 0 ∧ k 95 1 = 0 ∧ k 97 1 = 0 ∧ (∀ j, j < 12 → k 100 j = 0) ∧ ∀ c, c < 4 → k 85 c = 0
theorem zc_0 : zc 0 = 0 := by decide
theorem zNul.idle {N : Nat} {k : am_M} (h : zNul k) (v13 : zV13 (k 18) (k 20)) (v18 : ∀ c, c < 4 → zN (k 83 c) 3) : zIdle N k := by
  obtain ⟨h1, h2, h3, h4, h5, h6, h7, h8, h9⟩ := h
  have eT : zT k = 0 := by show zc (k 21 0) = 0; rw [h1]; exact zc_0
  have eS : zSc k = 0 := by show zc (k 57 0) = 0; rw [h2]; exact zc_0
  have eF : zF k = 0 := by show zc (k 89 1) = 0; rw [h3]; exact zc_0
  have eQ : zQ k = 0 := by show zc (k 95 1) = 0; rw [h6]; exact zc_0
  have eE : zE k = 0 := by show zc (k 97 1) = 0; rw [h7]; exact zc_0
  have n0 : ∀ b : Nat, zN 0 b := fun b => ⟨by decide, by rw [zc_0]; exact Nat.zero_le _⟩
  have nT : ∀ i, ¬ i < zT k := fun i hi => by rw [eT] at hi; exact absurd hi (Nat.not_lt_zero _)
  have nS : ∀ i, ¬ i < zSc k := fun i hi => by rw [eS] at hi; exact absurd hi (Nat.not_lt_zero _)
  have nF : ∀ i, ¬ i < zF k := fun i hi => by rw [eF] at hi; exact absurd hi (Nat.not_lt_zero _)
  have nQ : ∀ i, ¬ i < zQ k := fun i hi => by rw [eQ] at hi; exact absurd hi (Nat.not_lt_zero _)
  refine ⟨⟨⟨?_, fun i hi => absurd hi (nT i), fun i hi => absurd hi (nT i), fun i hi => absurd hi (nS i), fun i hi => absurd hi (nS i), fun i hi => absurd hi (nS i), ⟨fun i hi => absurd hi (nQ i), fun _ i _ hi => absurd hi (nQ i), by rw [eQ]; exact Nat.zero_le _⟩, ?_, fun i hi => absurd hi (nT i), fun i hi => absurd hi (nT i), fun i hi => absurd hi (nT i), fun i hi => absurd hi (nF i), fun i hi => absurd hi (nT i), fun i hi => absurd hi (nT i), v13, fun i hi => absurd hi (nT i), fun i hi => absurd hi (nS i), ?_, ?_, fun i hi => absurd hi (nT i), fun c hc => ⟨v18 c hc, by rw [h9 c hc]; exact n0 _⟩, fun i hi => absurd hi (nT i)⟩, fun i hi => absurd hi (nT i)⟩, fun i hi => absurd hi (nT i), fun i hi => absurd hi (nT i)⟩
  · rw [h1, h2, h3, h4, h5, h6, h7]
    exact ⟨n0 _, n0 _, n0 _, rfl, rfl, n0 _, n0 _⟩
  · rw [eT, eE]; rfl
  · rw [eT, eF]
    show 0 + 0 + 0 ≤ _
    exact Nat.zero_le _
  · rw [h8 5 (by decide), h8 6 (by decide)]
    exact ⟨n0 _, n0 _⟩
theorem zNul.sim {k : am_M} (h : zNul k) (hg : ∀ m, 170 ≤ m → m < 9231 → g m = 0) (hp : ∀ q, q < 6 → g (25 * q) = k 18 q) (hpc : ∀ q p, q < 6 → p < 24 → p < zc (k 18 q) → g (1 + 25 * q + p) = k 20 (q * 24 + p)) (hch : ∀ c, c < 4 → g (150 + 5 * c) = k 83 c ∧ g (150 + 5 * c + 1) = 0) : zSim 1 k g := by
  obtain ⟨h1, h2, h3, h4, h5, h6, h7, h8, h9⟩ := h
  have d0 : ∀ i, zd k 0 i = 0 := fun i => by show zc (k 21 0) = 0; rw [h1]; exact zc_0
  have d1 : ∀ i, zd k 1 i = 0 := fun i => by show zc (k 57 0) = 0; rw [h2]; exact zc_0
  have d2 : ∀ i, zd k 2 i = 0 := fun i => by show zc (k 89 1) = 0; rw [h3]; exact zc_0
  have d3 : ∀ i, zd k 3 i = 0 := fun i => by show zc (k 95 1) = 0; rw [h6]; exact zc_0
  have d4 : ∀ i, zd k 4 i = 0 := fun i => by show zc (k 97 1) = 0; rw [h7]; exact zc_0
  have d8 : ∀ i, i < 4 → zd k 8 i = 0 := fun i hi => by show zc (k 85 i) = 0; rw [h9 i hi]; exact zc_0
  refine ⟨fun a j m hco hin => ?_, ?_⟩
  · unfold zIn at hin
    obtain ⟨n1, n2, n3, n4, n5, n6, n7, n8, n9⟩ := hin
    have hlt := zCo_lt hco
    unfold zCo at hco
    rcases hco with hc | hc | hc | hc | hc | hc | hc | hc | hc | hc | hc | hc | hc | hc | hc | hc | hc | hc | hc
    · obtain ⟨rfl, rfl, rfl⟩ := hc; rw [hg _ (by decide) (by decide)]; exact h1.symm
    · obtain ⟨rfl, rfl, rfl⟩ := hc; rw [hg _ (by decide) (by decide)]; exact h2.symm
    · obtain ⟨rfl, rfl, rfl⟩ := hc; rw [hg _ (by decide) (by decide)]; exact h3.symm
    · obtain ⟨rfl, rfl, rfl⟩ := hc; rw [hg _ (by decide) (by decide)]; exact h6.symm
    · obtain ⟨rfl, rfl, rfl⟩ := hc; rw [hg _ (by decide) (by decide)]; exact h7.symm
    · obtain ⟨rfl, q1, q2, q3, rfl⟩ := hc; rw [hg _ (by omega) (by omega)]; exact (h8 j q2).symm
    · have := n1 hc.1; rw [d3] at this; exact absurd this (Nat.not_lt_zero _)
    · have := n2 hc.1; rw [d4] at this; exact absurd this (Nat.not_lt_zero _)
    · have := n3 (Or.inl ⟨hc.1, hc.2.1⟩); rw [d0] at this; exact absurd this (Nat.not_lt_zero _)
    · have := (n4 hc.1).1; rw [d0] at this; exact absurd this (Nat.not_lt_zero _)
    · have := n3 (Or.inr hc.1); rw [d0] at this; exact absurd this (Nat.not_lt_zero _)
    · have := (n5 hc.1).1; rw [d0] at this; exact absurd this (Nat.not_lt_zero _)
    · have := n6 ⟨hc.1, by omega⟩; rw [d1] at this; exact absurd this (Nat.not_lt_zero _)
    · have := n6 ⟨by omega, hc.2.1⟩; rw [d1] at this; exact absurd this (Nat.not_lt_zero _)
    · have := n7 ⟨hc.1, hc.2.1⟩; rw [d2] at this; exact absurd this (Nat.not_lt_zero _)
    · obtain ⟨q1, q2, q3, q4, rfl⟩ := hc
      rcases (by omega : a = 83 ∨ a = 85) with rfl | rfl
      · exact (hch j q4).1
      · exact (hch j q4).2.trans (h9 j q4).symm
    · obtain ⟨rfl, q1, q2⟩ := hc
      have := n8 rfl; rw [d8 _ (by omega)] at this; exact absurd this (Nat.not_lt_zero _)
    · obtain ⟨rfl, q1, rfl⟩ := hc; exact hp j q1
    · obtain ⟨rfl, q1, rfl⟩ := hc
      have z := hpc (j / 24) (j % 24) (by omega) (by omega) (n9 rfl)
      rw [show j / 24 * 24 + j % 24 = j from by omega] at z
      exact z
  · have e1 : zc (k 21 0) = 0 := d0 0
    have e2 : zc (k 57 0) = 0 := d1 0
    have g0 : g 182 = 0 := hg _ (by decide) (by decide)
    unfold zS2
    rw [e1, e2]
    refine ⟨fun i hi => absurd hi (Nat.not_lt_zero i), fun i hi => absurd hi (Nat.not_lt_zero i), fun i hi => absurd hi (Nat.not_lt_zero i), fun i hi => absurd hi (Nat.not_lt_zero i), ⟨⟨?_, ?_⟩, fun i hi => absurd hi (Nat.not_lt_zero i), fun i _ hi => absurd hi (Nat.not_lt_zero i)⟩, fun i hi => absurd hi (Nat.not_lt_zero i), ?_⟩
    · rw [g0]; exact ⟨by decide, by decide⟩
    · rw [g0, zc_0]; show 0 < _ + 1; exact Nat.succ_pos _
    · show g 176 + nI 0 = k 100 6
      rw [hg 176 (by decide) (by decide), h8 6 (by decide)]; rfl
theorem wRemove_nul (k : am_M) : zNul (wRemove k) := by
  have e : wRemove k = am_ua (am_up (am_up (am_up (am_up (am_up (am_ua (am_up (am_up k 21 0 0) 57 0 0) 85 (fun j => if j < am_len 85 then 0 else (am_up (am_up k 21 0 0) 57 0 0) 85 j)) 89 1 0) 91 1 0) 93 1 0) 95 1 0) 97 1 0) 100 (fun j => if j < am_len 100 then 0 else (am_up (am_up (am_up (am_up (am_up (am_ua (am_up (am_up k 21 0 0) 57 0 0) 85 (fun j => if j < am_len 85 then 0 else (am_up (am_up k 21 0 0) 57 0 0) 85 j)) 89 1 0) 91 1 0) 93 1 0) 95 1 0) 97 1 0) 100 j) := rfl
  rw [e]
  refine ⟨?_, ?_, ?_, ?_, ?_, ?_, ?_, fun j hj => ?_, fun c hc => ?_⟩
  · rw [am_ua_n _ _ (by decide), zup_n _ _ (by decide), zup_n _ _ (by decide), zup_n _ _ (by decide), zup_n _ _ (by decide), zup_n _ _ (by decide), am_ua_n _ _ (by decide), zup_n _ _ (by decide), zup_ss]
  · rw [am_ua_n _ _ (by decide), zup_n _ _ (by decide), zup_n _ _ (by decide), zup_n _ _ (by decide), zup_n _ _ (by decide), zup_n _ _ (by decide), am_ua_n _ _ (by decide), zup_ss]
  · rw [am_ua_n _ _ (by decide), zup_n _ _ (by decide), zup_n _ _ (by decide), zup_n _ _ (by decide), zup_n _ _ (by decide), zup_ss]
  · rw [am_ua_n _ _ (by decide), zup_n _ _ (by decide), zup_n _ _ (by decide), zup_n _ _ (by decide), zup_ss]
  · rw [am_ua_n _ _ (by decide), zup_n _ _ (by decide), zup_n _ _ (by decide), zup_ss]
  · rw [am_ua_n _ _ (by decide), zup_n _ _ (by decide), zup_ss]
  · rw [am_ua_n _ _ (by decide), zup_ss]
  · rw [am_ua_s]; exact if_pos (by rw [len_W_counts]; exact hj)
  · rw [am_ua_n _ _ (by decide), zup_n _ _ (by decide), zup_n _ _ (by decide), zup_n _ _ (by decide), zup_n _ _ (by decide), zup_n _ _ (by decide), am_ua_s]; exact if_pos (by rw [len_C_sizes]; exact hc)
theorem wRemove_n {k : am_M} {a : Nat} (h : a = 18 ∨ a = 20 ∨ a = 83) : wRemove k a = k a := by
  have e : wRemove k = am_ua (am_up (am_up (am_up (am_up (am_up (am_ua (am_up (am_up k 21 0 0) 57 0 0) 85 (fun j => if j < am_len 85 then 0 else (am_up (am_up k 21 0 0) 57 0 0) 85 j)) 89 1 0) 91 1 0) 93 1 0) 95 1 0) 97 1 0) 100 (fun j => if j < am_len 100 then 0 else (am_up (am_up (am_up (am_up (am_up (am_ua (am_up (am_up k 21 0 0) 57 0 0) 85 (fun j => if j < am_len 85 then 0 else (am_up (am_up k 21 0 0) 57 0 0) 85 j)) 89 1 0) 91 1 0) 93 1 0) 95 1 0) 97 1 0) 100 j) := rfl
  rw [e, am_ua_n _ _ (by omega), zup_n _ _ (by omega), zup_n _ _ (by omega), zup_n _ _ (by omega), zup_n _ _ (by omega), zup_n _ _ (by omega), am_ua_n _ _ (by omega), zup_n _ _ (by omega), zup_n _ _ (by omega)]
/-- the reference's numbers cleared from 170 up to n -/
def yRst (g : Nat → Int32) (n : Nat) : Nat → Int32 := fun m => if 170 ≤ m ∧ m < n then 0 else g m
theorem yRst_s (g : Nat → Int32) {n : Nat} (h : 170 ≤ n) : upd (yRst g n) n 0 = yRst g (n + 1) := by
  refine funext (fun m => ?_)
  by_cases e : m = n
  · subst e
    rw [pk_us]; unfold yRst; rw [if_pos ⟨h, by omega⟩]
  · rw [pk_un e]
    unfold yRst
    by_cases c : 170 ≤ m ∧ m < n
    · rw [if_pos c, if_pos (by omega)]
    · rw [if_neg c, if_neg (by omega)]
set_option maxRecDepth 20000 in
theorem l_reset {u : Int32} (h : am_Wp (am_lk cl_X12_reset) 34 [(0, .ref 189), (1, .int u)] [] (am_ua σ 190 (yRst g 9231)) R) : ∀ m n, 170 ≤ n → n + m = 9231 → am_Wp (am_lk cl_X12_reset) 14 [(0, .ref 189), (1, .int u), (2, .int (nI n))] [] (am_ua σ 190 (yRst g n)) R := by
  intro m
  induction m with
  | zero =>
    intro n hn e
    have e : n = 9231 := by omega
    subst e
    refine am_go hm_X12_reset (fun p => Nat.beq p 34) 20 ?_
    refine am_ite (fun _ => ?_) (fun z => absurd (nI_le (a := 9231) (b := 9231) (by decide) (by decide)) z)
    exact am_Wp.sub hm_X12_reset (am_le_of (List.forall_mem_cons.mpr ⟨rfl, List.forall_mem_cons.mpr ⟨rfl, fun _ q => by cases q⟩⟩)) h
  | succ m ih =>
    intro n hn e
    refine am_go hm_X12_reset (fun p => Nat.beq p 34 || Nat.beq p 27) 20 ?_
    refine am_ite (fun z => absurd z (nI_ge (a := n) (b := 9231) (by omega) (by decide))) (fun _ => ?_)
    refine wn_st hm_X12_reset n rfl (by omega) rfl ?_
    rw [yRst_s g hn]
    refine am_go hm_X12_reset (fun p => Nat.beq p 14) 20 ?_
    refine am_Wp.sub hm_X12_reset (ls := [(0, .ref 189), (1, .int u), (2, .int (nI (n + 1)))]) (am_le_of (List.forall_mem_cons.mpr ⟨rfl, List.forall_mem_cons.mpr ⟨rfl, List.forall_mem_cons.mpr ⟨by rw [nI_succ]; rfl, fun _ q => by cases q⟩⟩⟩)) ?_
    exact ih (n + 1) (by omega) (by omega)
def yRsc (g : Nat → Int32) (n : Nat) : Nat → Int32 := fun m => if 150 ≤ m ∧ m < 170 ∧ m % 5 = 1 ∧ m < 150 + 5 * n then 0 else g m
theorem yRsc_s (g : Nat → Int32) {n : Nat} (h : n < 4) : upd (yRsc g n) (150 + 5 * n + 1) 0 = yRsc g (n + 1) := by
  refine funext (fun m => ?_)
  by_cases e : m = 150 + 5 * n + 1
  · subst e
    rw [pk_us]; unfold yRsc; rw [if_pos (by omega)]
  · rw [pk_un e]
    unfold yRsc
    by_cases c : 150 ≤ m ∧ m < 170 ∧ m % 5 = 1 ∧ m < 150 + 5 * n
    · rw [if_pos c, if_pos (by omega)]
    · rw [if_neg c, if_neg (by omega)]
set_option maxRecDepth 20000 in
theorem l_reset2 {u : Int32} (h : R (some (.int u)) (am_ua σ 190 (yRsc g 4))) : ∀ m n, n + m = 4 → am_Wp (am_lk cl_X12_reset) 36 [(0, .ref 189), (1, .int u), (2, .int (nI n))] [] (am_ua σ 190 (yRsc g n)) R := by
  intro m
  induction m with
  | zero =>
    intro n e
    have e : n = 4 := by omega
    subst e
    refine am_go hm_X12_reset (fun p => Nat.beq p 59) 20 ?_
    refine am_ite (fun _ => ?_) (fun z => absurd (nI_le (a := 4) (b := 4) (by decide) (by decide)) z)
    exact am_go hm_X12_reset (fun _ => false) 20 h
  | succ m ih =>
    intro n e
    refine am_go hm_X12_reset (fun p => Nat.beq p 59 || Nat.beq p 52) 20 ?_
    refine am_ite (fun z => absurd z (nI_ge (a := n) (b := 4) (by omega) (by decide))) (fun _ => ?_)
    refine y_channel n rfl ?_
    refine wn_st hm_X12_reset (150 + 5 * n + 1) (nI_add _ 1) (by omega) rfl ?_
    rw [yRsc_s g (by omega)]
    refine am_go hm_X12_reset (fun p => Nat.beq p 36) 20 ?_
    refine am_Wp.sub hm_X12_reset (ls := [(0, .ref 189), (1, .int u), (2, .int (nI (n + 1)))]) (am_le_of (List.forall_mem_cons.mpr ⟨rfl, List.forall_mem_cons.mpr ⟨rfl, List.forall_mem_cons.mpr ⟨by rw [nI_succ]; rfl, fun _ q => by cases q⟩⟩⟩)) ?_
    exact ih (n + 1) (by omega)
set_option maxRecDepth 20000 in
theorem c_reset (hm : ∀ pc, am_mono (am_lk cl_X11_reset pc)) {N : Nat} (h : zAll N σ) : zCall [] sp_X11_reset sp_X12_reset [] (N + 100) σ := by
  have I := h.1.1.1
  have S := h.2.1
  refine ⟨rfl, am_go hm (fun _ => false) 20 ?_⟩
  have w : zWo σ (wRemove σ) := zo_wRemove (zWo.rf σ)
  have K := wRemove_nul σ
  have v13 := I.2.2.2.2.2.2.2.2.2.2.2.2.2.2.1
  have v18 := I.2.2.2.2.2.2.2.2.2.2.2.2.2.2.2.2.2.2.2.2.1
  have J : zIdle (N + 100) (wRemove σ) := K.idle (by rw [wRemove_n (by decide), wRemove_n (by decide)]; exact v13) (fun c hc => by rw [wRemove_n (by decide)]; exact (v18 c hc).1)
  have M : zRes [] (N + 100) (some (.int (wLive σ))) (some (.int (wLive σ))) (am_ua (am_up (wRemove σ) 189 0 0) 190 (yRsc (yRst (σ 190) 9231) 4)) := by
    refine zRes.ok (h.wo (by omega) w J (K.sim (fun m h1 h2 => ?_) (fun q hq => ?_) (fun q p hq hp hl => ?_) (fun c hc => ⟨?_, ?_⟩)) 0)
    · show (if _ then _ else yRst (σ 190) 9231 m) = 0
      rw [if_neg (by omega)]; exact if_pos ⟨h1, h2⟩
    · show (if _ then _ else yRst (σ 190) 9231 (25 * q)) = _
      rw [if_neg (by omega)]
      show (if _ then _ else _) = _
      rw [if_neg (by omega), wRemove_n (by decide)]
      exact S.pl hq
    · show (if _ then _ else yRst (σ 190) 9231 (1 + 25 * q + p)) = _
      rw [if_neg (by omega)]
      show (if _ then _ else _) = _
      rw [if_neg (by omega), wRemove_n (by decide)]
      rw [wRemove_n (by decide)] at hl
      exact S.pc hq hl hp
    · show (if _ then _ else yRst (σ 190) 9231 (150 + 5 * c)) = _
      rw [if_neg (by omega)]
      show (if _ then _ else _) = _
      rw [if_neg (by omega), wRemove_n (by decide)]
      exact S.ch hc 0 (by decide)
    · show (if _ then _ else yRst (σ 190) 9231 (150 + 5 * c + 1)) = _
      exact if_pos (by omega)
  have e0 : yRst (σ 190) 170 = σ 190 := funext (fun m => if_neg (by omega))
  have e1 : yRsc (yRst (σ 190) 9231) 0 = yRst (σ 190) 9231 := funext (fun m => if_neg (by omega))
  have z2 := l_reset2 (σ := am_up (wRemove σ) 189 0 0) (g := yRst (σ 190) 9231) (R := zRes [] (N + 100) (some (.int (wLive σ)))) (u := wLive σ) M 4 0 rfl
  rw [e1] at z2
  have z1 := l_reset (σ := am_up (wRemove σ) 189 0 0) (g := σ 190) (R := zRes [] (N + 100) (some (.int (wLive σ)))) (u := wLive σ) (am_go hm_X12_reset (fun p => Nat.beq p 36) 20 (am_Wp.sub hm_X12_reset (am_le_of (List.forall_mem_cons.mpr ⟨rfl, List.forall_mem_cons.mpr ⟨rfl, List.forall_mem_cons.mpr ⟨rfl, fun _ q => by cases q⟩⟩⟩)) z2)) 9061 170 (Nat.le_refl _) rfl
  rw [e0] at z1
  refine y_me (m := sp_X12_reset) ?_
  rw [w 190 (by decide)]
  refine ⟨rfl, am_go hm_X12_reset (fun p => Nat.beq p 5) 20 (zp_wp ?_)⟩
  refine am_go hm_X12_reset (fun p => Nat.beq p 14) 20 ?_
  refine y_live S h.1 ?_
  exact am_Wp.sub hm_X12_reset (am_le_of (List.forall_mem_cons.mpr ⟨rfl, List.forall_mem_cons.mpr ⟨rfl, List.forall_mem_cons.mpr ⟨rfl, fun _ q => by cases q⟩⟩⟩)) z1
end ZCL
