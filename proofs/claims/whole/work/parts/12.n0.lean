/-! save, restore -/
section ZCN
variable {σ : am_M} {g : Nat → Int32} {R : am_R}
/-- the same ints where the cells hold some -/
def zEqv (σ σ1 : am_M) : Prop := ∀ a j, zVis a j → σ1 a j = σ a j
def zResX (es : List Nat) (N : Nat) (v : Option Value) : am_R := fun w σ => zAg es v w (σ 189 0) ∧ ∃ σ1, zEqv σ σ1 ∧ zAll N σ1
theorem zRes.x {es : List Nat} {N : Nat} {v w : Option Value} {σ : am_M} (h : zRes es N v w σ) : zResX es N v w σ := ⟨h.1, σ, fun _ _ _ => rfl, h.2⟩
def zCallX (es : List Nat) (c m : am_S) (as : List Value) (N : Nat) (σ : am_M) : Prop := c (.ref 0 :: as) σ (fun v σ1 => m (.ref 189 :: as) σ1 (zResX es N v))
theorem zSv.sizes {N : Nat} {k : am_M} (h : zIdle N k) : ¬ nI 660 < k 89 1 ∧ ¬ nI 660 < k 91 1 ∧ ¬ nI 660 < k 93 1 ∧ ¬ nI 24 < k 95 1 ∧ ¬ nI 24 < k 97 1 := by
  obtain ⟨_, _, f1, f2, f3, q, e⟩ := h.1.1.1
  have n : ∀ (x : Int32) (b : Nat), zN x b → b < 2 ^ 31 → ¬ nI b < x := fun x b hx hb => by
    rw [hx.1]
    exact nI_nlt hx.2 hb
  exact ⟨n _ _ f1 (by decide), by rw [f2]; exact n _ _ f1 (by decide), by rw [f3]; exact n _ _ f1 (by decide), n _ _ q (by decide), n _ _ e (by decide)⟩
def zMix (p q : Nat → Int32) (n : Nat) : Nat → Int32 := fun m => if m < n then p m else q m
theorem zMix_s {p q : Nat → Int32} {n : Nat} : upd (zMix p q n) n (p n) = zMix p q (n + 1) := by
  refine funext (fun m => ?_)
  by_cases e : m = n
  · subst e; rw [pk_us]; unfold zMix; rw [if_pos (by omega)]
  · rw [pk_un e]
    unfold zMix
    by_cases c : m < n
    · rw [if_pos c, if_pos (by omega)]
    · rw [if_neg c, if_neg (by omega)]
theorem zMix_0 {p q : Nat → Int32} : zMix p q 0 = q := funext (fun m => if_neg (Nat.not_lt_zero m))
theorem lay_190 : am_lay[190]? = some (.inl 9231) := by decide +kernel
theorem lay_191 : am_lay[191]? = some (.inl 9231) := by decide +kernel
theorem zvp {n : Nat} (h : n < 9231) : vp_in (nI n) 9231 := nI_in h (by decide)
set_option maxRecDepth 20000 in
theorem l_save (h : am_Wp (am_lk cl_X12_save) 37 [(0, .ref 189)] [] (am_ua σ 191 (zMix (σ 190) (σ 191) 9231)) R) : ∀ m n, n + m = 9231 → am_Wp (am_lk cl_X12_save) 12 [(0, .ref 189), (1, .int (nI n))] [] (am_ua σ 191 (zMix (σ 190) (σ 191) n)) R := by
  intro m
  induction m with
  | zero =>
    intro n e
    have e : n = 9231 := by omega
    subst e
    refine am_go hm_X12_save (fun p => Nat.beq p 37) 20 ?_
    refine am_ite (fun _ => ?_) (fun z => absurd (nI_le (a := 9231) (b := 9231) (by decide) (by decide)) z)
    exact am_Wp.sub hm_X12_save (am_le_of (List.forall_mem_cons.mpr ⟨rfl, fun _ q => by cases q⟩)) h
  | succ m ih =>
    intro n e
    refine am_go hm_X12_save (fun p => Nat.beq p 37 || Nat.beq p 29) 20 ?_
    refine am_ite (fun z => absurd z (nI_ge (a := n) (b := 9231) (by omega) (by decide))) (fun _ => ?_)
    refine wa_ld hm_X12_save lay_190 rfl (zvp (by omega)) ?_
    refine wa_st hm_X12_save lay_191 rfl (zvp (by omega)) ?_
    rw [nI_clamp (by omega), am_ua_n _ _ (by decide), am_up_ua, zMix_s]
    refine am_go hm_X12_save (fun p => Nat.beq p 12) 20 ?_
    refine am_Wp.sub hm_X12_save (ls := [(0, .ref 189), (1, .int (nI (n + 1)))]) (am_le_of (List.forall_mem_cons.mpr ⟨rfl, List.forall_mem_cons.mpr ⟨by rw [nI_succ]; rfl, fun _ q => by cases q⟩⟩)) ?_
    exact ih (n + 1) (by omega)
set_option maxRecDepth 20000 in
theorem l_restore (h : am_Wp (am_lk cl_X12_restore) 45 [(0, .ref 189)] [] (am_ua σ 190 (zMix (σ 191) (σ 190) 9231)) R) : ∀ m n, n + m = 9231 → am_Wp (am_lk cl_X12_restore) 20 [(0, .ref 189), (1, .int (nI n))] [] (am_ua σ 190 (zMix (σ 191) (σ 190) n)) R := by
  intro m
  induction m with
  | zero =>
    intro n e
    have e : n = 9231 := by omega
    subst e
    refine am_go hm_X12_restore (fun p => Nat.beq p 45) 20 ?_
    refine am_ite (fun _ => ?_) (fun z => absurd (nI_le (a := 9231) (b := 9231) (by decide) (by decide)) z)
    exact am_Wp.sub hm_X12_restore (am_le_of (List.forall_mem_cons.mpr ⟨rfl, fun _ q => by cases q⟩)) h
  | succ m ih =>
    intro n e
    refine am_go hm_X12_restore (fun p => Nat.beq p 45 || Nat.beq p 37) 20 ?_
    refine am_ite (fun z => absurd z (nI_ge (a := n) (b := 9231) (by omega) (by decide))) (fun _ => ?_)
    refine wa_ld hm_X12_restore lay_191 rfl (zvp (by omega)) ?_
    refine wa_st hm_X12_restore lay_190 rfl (zvp (by omega)) ?_
    rw [nI_clamp (by omega), am_ua_n _ _ (by decide), am_up_ua, zMix_s]
    refine am_go hm_X12_restore (fun p => Nat.beq p 20) 20 ?_
    refine am_Wp.sub hm_X12_restore (ls := [(0, .ref 189), (1, .int (nI (n + 1)))]) (am_le_of (List.forall_mem_cons.mpr ⟨rfl, List.forall_mem_cons.mpr ⟨by rw [nI_succ]; rfl, fun _ q => by cases q⟩⟩)) ?_
    exact ih (n + 1) (by omega)
theorem zVis_arr {a n j : Nat} (hl : am_lay[a]? = some (.inl n)) (h : zVis a j) : j < n := by
  unfold zVis zVb at h
  rw [hl] at h
  exact Nat.le_of_ble_eq_true h
theorem zVis_21 : zVis 21 0 := by unfold zVis; decide +kernel
set_option maxRecDepth 20000 in
theorem c_save (hm : ∀ pc, am_mono (am_lk cl_X11_save pc)) {N : Nat} (h : zAll N σ) : zCallX [] sp_X11_save sp_X12_save [] (N + 100) σ := by
  obtain ⟨s1, s2, s3, s4, s5⟩ := zSv.sizes h.1
  obtain ⟨D, ⟨C1, C2⟩, D1, D2⟩ := zCp_sav s1 s2 s3 s4 s5
  refine ⟨rfl, am_go hm (fun _ => false) 20 ⟨Or.inr rfl, ?_⟩⟩
  generalize hX : wCpy σ 101 15 = X0 at C1 C2
  have nD : ∀ a, a < 101 ∨ 186 < a → X0 a = σ a := fun a ha => C1 a (fun z => by have := D2 a z; omega)
  generalize hX1 : am_up X0 0 5 1 = X
  have xn : ∀ a, a ≠ 0 → X a = X0 a := fun a ha => by rw [← hX1, zup_n _ _ ha]
  have x05 : X 0 5 = 1 := by rw [← hX1, zup_ss]
  have x06 : X 0 6 = σ 0 6 := by rw [← hX1, zup_sn _ (by decide), nD 0 (by decide)]
  have e21 : X 21 0 = σ 21 0 := by rw [xn 21 (by decide), nD 21 (by decide)]
  show sp_X12_save [.ref 189] X (zResX [] (N + 100) (some (.int (X 21 0))))
  generalize hY : am_up (am_up X 189 0 0) 189 3 1 = Y
  have yn : ∀ a, a ≠ 189 → Y a = X a := fun a ha => by rw [← hY, zup_n _ _ ha, zup_n _ _ ha]
  have y0 : Y 189 0 = 0 := by rw [← hY, zup_sn _ (by decide), zup_ss]
  have y3 : Y 189 3 = 1 := by rw [← hY, zup_ss]
  have yj : ∀ j, j ≠ 0 → j ≠ 3 → Y 189 j = σ 189 j := fun j h0 h3 => by rw [← hY, zup_sn _ h3, zup_sn _ h0, xn 189 (by decide), nD 189 (by decide)]
  have y190 : Y 190 = σ 190 := by rw [yn 190 (by decide), xn 190 (by decide), nD 190 (by decide)]
  have e0 : am_ua Y 191 (zMix (Y 190) (Y 191) 0) = Y := by rw [zMix_0]; exact am_ua_me Y 191
  have eT : σ 190 170 = σ 21 0 := h.2.1.Tc
  have fin : zResX [] (N + 100) (some (.int (X 21 0))) (some (.int (σ 190 170))) (am_ua Y 191 (zMix (Y 190) (Y 191) 9231)) := by
    refine ⟨Or.inl ⟨_, rfl, by rw [eT, e21], by rw [am_ua_n _ _ (by decide)]; exact y0⟩, fun a => if 101 ≤ a ∧ a ≤ 186 then σ (a - 86) else if a = 191 then σ 190 else Y a, fun a j hj => ?_, ?_⟩
    · show (if 101 ≤ a ∧ a ≤ 186 then σ (a - 86) else if a = 191 then σ 190 else Y a) j = _
      by_cases c : 101 ≤ a ∧ a ≤ 186
      · rw [if_pos c, am_ua_n _ _ (by omega), yn a (by omega), xn a (by omega)]
        exact (C2 a (D1 a c.1 c.2 (zVis_has hj)) j hj).symm
      · rw [if_neg c]
        by_cases c1 : a = 191
        · subst c1
          rw [if_pos rfl, am_ua_s]
          unfold zMix
          rw [if_pos (zVis_arr lay_191 hj), y190]
        · rw [if_neg c1, am_ua_n _ _ c1]
    · have t0 : ∀ a, a < 101 → (fun a => if 101 ≤ a ∧ a ≤ 186 then σ (a - 86) else if a = 191 then σ 190 else Y a) a = X a := fun a ha => by
        show (if _ then _ else _) = _
        rw [if_neg (by omega), if_neg (by omega), yn a (by omega)]
      have t1 : ∀ a, 101 ≤ a ∧ a ≤ 186 → (fun a => if 101 ≤ a ∧ a ≤ 186 then σ (a - 86) else if a = 191 then σ 190 else Y a) a = σ (a - 86) := fun a ha => if_pos ha
      have t2 : ∀ a, 186 < a → a ≠ 191 → (fun a => if 101 ≤ a ∧ a ≤ 186 then σ (a - 86) else if a = 191 then σ 190 else Y a) a = Y a := fun a h1 h2 => by
        show (if _ then _ else _) = _
        rw [if_neg (by omega), if_neg h2]
      have t3 : (fun a => if 101 ≤ a ∧ a ≤ 186 then σ (a - 86) else if a = 191 then σ 190 else Y a) 191 = σ 190 := rfl
      generalize (fun a => if 101 ≤ a ∧ a ≤ 186 then σ (a - 86) else if a = 191 then σ 190 else Y a) = S at t0 t1 t2 t3
      have lo : ∀ a, 15 ≤ a ∧ a ≤ 100 → S a = σ a := fun a ha => by rw [t0 a (by omega), xn a (by omega), nD a (by omega)]
      have sh : ∀ a, 15 ≤ a ∧ a ≤ 100 → zSh S a = σ a := fun a ha => by
        show S (a + 86) = σ a
        rw [t1 (a + 86) (by omega)]; rfl
      have J := h.1.N (N1 := N + 100) (by omega)
      refine ⟨J.lo lo, ?_, ⟨?_, Or.inr ⟨?_, J.lo sh, ?_⟩⟩, ?_⟩
      · rw [t2 190 (by decide) (by decide), y190]; exact h.2.1.lo lo
      · rw [t2 189 (by decide) (by decide), y3, t0 0 (by decide), x05]
      · rw [t0 0 (by decide), x05]
      · rw [t3]; exact h.2.1.lo sh
      · refine h.2.2.2.hi ?_ ?_ ?_ ?_ ?_ ?_
        · rw [t2 189 (by decide) (by decide)]; exact yj 6 (by decide) (by decide)
        · rw [t2 189 (by decide) (by decide)]; exact yj 5 (by decide) (by decide)
        · rw [t0 0 (by decide)]; exact x06
        · rw [t0 1 (by decide), xn 1 (by decide), nD 1 (by decide)]
        · rw [t0 2 (by decide), xn 2 (by decide), nD 2 (by decide)]
        · rw [t2 192 (by decide) (by decide), yn 192 (by decide), xn 192 (by decide), nD 192 (by decide)]
  have z := l_save (σ := Y) (R := zResX [] (N + 100) (some (.int (X 21 0)))) (by
    refine am_go hm_X12_save (fun p => Nat.beq p 44) 20 ?_
    refine wa_ld hm_X12_save lay_190 rfl (zvp (n := 170) (by decide)) ?_
    refine am_go hm_X12_save (fun _ => false) 20 ?_
    have e : am_ua Y 191 (zMix (Y 190) (Y 191) 9231) 190 (nI 170).toNatClampNeg = σ 190 170 := by rw [am_ua_n _ _ (by decide), y190]; rfl
    show zResX [] (N + 100) (some (.int (X 21 0))) (some (.int (am_ua Y 191 (zMix (Y 190) (Y 191) 9231) 190 (nI 170).toNatClampNeg))) _
    rw [e]
    exact fin) 9231 0 rfl
  rw [e0, ← hY] at z
  refine ⟨rfl, am_go hm_X12_save (fun p => Nat.beq p 12) 20 ⟨Or.inr rfl, ?_⟩⟩
  exact am_Wp.sub hm_X12_save (am_le_of (List.forall_mem_cons.mpr ⟨rfl, List.forall_mem_cons.mpr ⟨rfl, fun _ q => by cases q⟩⟩)) z
set_option maxRecDepth 20000 in
theorem c_restore (hm : ∀ pc, am_mono (am_lk cl_X11_restore pc)) {N : Nat} (h : zAll N σ) : zCallX [1] sp_X11_restore sp_X12_restore [] (N + 100) σ := by
  obtain ⟨v1, v2⟩ := h.2.2.1
  rcases v2 with v0 | ⟨v0, K, SK⟩
  · refine ⟨rfl, am_go hm (fun p => Nat.beq p 7 || Nat.beq p 18) 20 ?_⟩
    refine am_ite (fun _ => ?_) (fun z => absurd v0 z)
    refine am_go hm (fun _ => false) 20 ?_
    refine y_me (m := sp_X12_restore) ?_
    refine ⟨rfl, am_go hm_X12_restore (fun p => Nat.beq p 5) 20 (zp_wp ?_)⟩
    have e3 : am_ua (am_up σ 189 0 0) 190 (σ 190) 189 3 = 0 := by rw [am_ua_n _ _ (by decide), zup_sn _ (by decide), v1, v0]
    refine am_go hm_X12_restore (fun p => Nat.beq p 17 || Nat.beq p 18) 20 ?_
    refine am_ite (fun _ => ?_) (fun z => absurd e3 z)
    refine y_raises2 ?_
    exact am_go hm_X12_restore (fun _ => false) 20 (zRes.th (n := 0) (j := 1) h rfl rfl).x
  · obtain ⟨s1, s2, s3, s4, s5⟩ := zSv.sizes K
    obtain ⟨D, ⟨C1, C2⟩, D1, D2⟩ := zCp_rst (σ := σ) s1 s2 s3 s4 s5
    refine ⟨rfl, am_go hm (fun p => Nat.beq p 7 || Nat.beq p 18) 20 ?_⟩
    refine am_ite (fun z => absurd (v0.symm.trans z) (by decide)) (fun _ => ?_)
    refine am_go hm (fun _ => false) 20 ?_
    show sp_X12_restore [.ref 189] (wCpy σ 15 101) (zResX [1] (N + 100) (some (.int (wCpy σ 15 101 21 0))))
    generalize hX : wCpy σ 15 101 = X at C1 C2
    have nD : ∀ a, a < 15 ∨ 100 < a → X a = σ a := fun a ha => C1 a (fun z => by have := D2 a z; omega)
    have e21 : X 21 0 = σ 107 0 := C2 21 (D1 21 (by decide) (by decide) (zVis_has zVis_21)) 0 zVis_21
    generalize hY : am_up X 189 0 0 = Y
    have yn : ∀ a, a ≠ 189 → Y a = X a := fun a ha => by rw [← hY, zup_n _ _ ha]
    have y0 : Y 189 0 = 0 := by rw [← hY, zup_ss]
    have yj : ∀ j, j ≠ 0 → Y 189 j = σ 189 j := fun j h0 => by rw [← hY, zup_sn _ h0, nD 189 (by decide)]
    have y191 : Y 191 = σ 191 := by rw [yn 191 (by decide), nD 191 (by decide)]
    have e0 : am_ua Y 190 (zMix (Y 191) (Y 190) 0) = Y := by rw [zMix_0]; exact am_ua_me Y 190
    have eT : σ 191 170 = σ 107 0 := SK.Tc
    have fin : zResX [1] (N + 100) (some (.int (X 21 0))) (some (.int (σ 191 170))) (am_ua Y 190 (zMix (Y 191) (Y 190) 9231)) := by
      refine ⟨Or.inl ⟨_, rfl, by rw [eT, e21], by rw [am_ua_n _ _ (by decide)]; exact y0⟩, fun a => if 15 ≤ a ∧ a ≤ 100 then σ (a + 86) else if a = 190 then σ 191 else Y a, fun a j hj => ?_, ?_⟩
      · show (if 15 ≤ a ∧ a ≤ 100 then σ (a + 86) else if a = 190 then σ 191 else Y a) j = _
        by_cases c : 15 ≤ a ∧ a ≤ 100
        · rw [if_pos c, am_ua_n _ _ (by omega), yn a (by omega)]
          exact (C2 a (D1 a c.1 c.2 (zVis_has hj)) j hj).symm
        · rw [if_neg c]
          by_cases c1 : a = 190
          · subst c1
            rw [if_pos rfl, am_ua_s]
            unfold zMix
            rw [if_pos (zVis_arr lay_190 hj), y191]
          · rw [if_neg c1, am_ua_n _ _ c1]
      · have t1 : ∀ a, 15 ≤ a ∧ a ≤ 100 → (fun a => if 15 ≤ a ∧ a ≤ 100 then σ (a + 86) else if a = 190 then σ 191 else Y a) a = σ (a + 86) := fun a ha => if_pos ha
        have t2 : ∀ a, a < 15 ∨ 100 < a → a ≠ 190 → (fun a => if 15 ≤ a ∧ a ≤ 100 then σ (a + 86) else if a = 190 then σ 191 else Y a) a = Y a := fun a h1 h2 => by
          show (if _ then _ else _) = _
          rw [if_neg (by omega), if_neg h2]
        have t3 : (fun a => if 15 ≤ a ∧ a ≤ 100 then σ (a + 86) else if a = 190 then σ 191 else Y a) 190 = σ 191 := rfl
        generalize (fun a => if 15 ≤ a ∧ a ≤ 100 then σ (a + 86) else if a = 190 then σ 191 else Y a) = S at t1 t2 t3
        have lo : ∀ a, 15 ≤ a ∧ a ≤ 100 → S a = zSh σ a := fun a ha => t1 a ha
        have sh : ∀ a, 15 ≤ a ∧ a ≤ 100 → zSh S a = zSh σ a := fun a ha => by
          show S (a + 86) = σ (a + 86)
          rw [t2 (a + 86) (by omega) (by omega), yn _ (by omega), nD _ (by omega)]
        have J := K.N (N1 := N + 100) (by omega)
        have y05 : Y 0 = σ 0 := by rw [yn 0 (by decide), nD 0 (by decide)]
        refine ⟨J.lo lo, ?_, ⟨?_, Or.inr ⟨?_, J.lo sh, ?_⟩⟩, ?_⟩
        · rw [t3]; exact SK.lo lo
        · rw [t2 189 (by decide) (by decide), t2 0 (by decide) (by decide), yj 3 (by decide), y05]; exact v1
        · rw [t2 0 (by decide) (by decide), y05]; exact v0
        · rw [t2 191 (by decide) (by decide), y191]; exact SK.lo sh
        · refine h.2.2.2.hi ?_ ?_ ?_ ?_ ?_ ?_
          · rw [t2 189 (by decide) (by decide)]; exact yj 6 (by decide)
          · rw [t2 189 (by decide) (by decide)]; exact yj 5 (by decide)
          · rw [t2 0 (by decide) (by decide), y05]
          · rw [t2 1 (by decide) (by decide), yn 1 (by decide), nD 1 (by decide)]
          · rw [t2 2 (by decide) (by decide), yn 2 (by decide), nD 2 (by decide)]
          · rw [t2 192 (by decide) (by decide), yn 192 (by decide), nD 192 (by decide)]
    have z := l_restore (σ := Y) (R := zResX [1] (N + 100) (some (.int (X 21 0)))) (by
      refine am_go hm_X12_restore (fun p => Nat.beq p 52) 20 ?_
      refine wa_ld hm_X12_restore lay_190 rfl (zvp (n := 170) (by decide)) ?_
      refine am_go hm_X12_restore (fun _ => false) 20 ?_
      have e : am_ua Y 190 (zMix (Y 191) (Y 190) 9231) 190 (nI 170).toNatClampNeg = σ 191 170 := by rw [am_ua_s, ← y191]; rfl
      show zResX [1] (N + 100) (some (.int (X 21 0))) (some (.int (am_ua Y 190 (zMix (Y 191) (Y 190) 9231) 190 (nI 170).toNatClampNeg))) _
      rw [e]
      exact fin) 9231 0 rfl
    rw [e0, ← hY] at z
    have e3 : am_up X 189 0 0 189 3 = 1 := by rw [hY, yj 3 (by decide), v1, v0]
    refine ⟨rfl, am_go hm_X12_restore (fun p => Nat.beq p 12 || Nat.beq p 20) 20 ?_⟩
    refine am_ite (fun z1 => absurd (e3.symm.trans z1) (by decide)) (fun _ => ?_)
    exact am_Wp.sub hm_X12_restore (am_le_of (List.forall_mem_cons.mpr ⟨rfl, List.forall_mem_cons.mpr ⟨rfl, fun _ q => by cases q⟩⟩)) z
end ZCN
