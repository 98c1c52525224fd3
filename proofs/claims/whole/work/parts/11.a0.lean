/-! copies of codes: both sides -/
section ZA1
variable {σ : am_M} {g : Nat → Int32} {R : am_R}
/-- n instructions copied from the row qc at p2 on to the row kc at p on; their number into the row kl -/
def yCp (k : am_M) (kl kc p qc p2 : Nat) : Nat → am_M
  | 0 => am_up k kl p 0
  | n + 1 => am_up (am_up (yCp k kl kc p qc p2 n) kc (p * 24 + n) (k qc (p2 * 24 + n))) kl p (nI (n + 1))
theorem yCp_n {k : am_M} {kl kc p qc p2 a : Nat} (h1 : a ≠ kl) (h2 : a ≠ kc) : ∀ n, yCp k kl kc p qc p2 n a = k a := by
  intro n
  induction n with
  | zero => exact zup_n _ _ h1
  | succ n ih => exact (zup_n _ _ h1).trans ((zup_n _ _ h2).trans ih)
theorem yCp_l {k : am_M} {kl kc p qc p2 : Nat} : ∀ n, yCp k kl kc p qc p2 n kl p = nI n := by
  intro n
  cases n with
  | zero => exact (zup_ss _ _ _ _).trans nI_0.symm
  | succ n => exact zup_ss _ _ _ _
theorem yCp_lo {k : am_M} {kl kc p qc p2 j : Nat} (h : j ≠ p) (hlc : kl ≠ kc) : ∀ n, yCp k kl kc p qc p2 n kl j = k kl j := by
  intro n
  induction n with
  | zero => exact zup_sn _ h
  | succ n ih => exact (zup_sn _ h).trans ((congrFun (zup_n _ _ hlc) j).trans ih)
theorem yCp_c {k : am_M} {kl kc p qc p2 : Nat} (hlc : kl ≠ kc) : ∀ n j, yCp k kl kc p qc p2 n kc j = if p * 24 ≤ j ∧ j < p * 24 + n then k qc (p2 * 24 + (j - p * 24)) else k kc j := by
  intro n
  induction n with
  | zero =>
    intro j
    rw [if_neg (by omega)]
    exact congrFun (zup_n _ _ (fun z => hlc z.symm)) j
  | succ n ih =>
    intro j
    show am_up (am_up (yCp k kl kc p qc p2 n) kc (p * 24 + n) (k qc (p2 * 24 + n))) kl p (nI (n + 1)) kc j = _
    rw [zup_n _ _ (fun z => hlc z.symm)]
    by_cases e : j = p * 24 + n
    · subst e
      rw [zup_ss, if_pos (by omega)]
      congr 1
      omega
    · rw [zup_sn _ e, ih j]
      by_cases c : p * 24 ≤ j ∧ j < p * 24 + n
      · rw [if_pos c, if_pos (by omega)]
      · rw [if_neg c, if_neg (by omega)]
theorem e_CpL {k : am_M} {b q p p2 n m1 m2 m3 m4 : Nat} (h1 : am_len (b + 1 + 1) = m1) (h2 : am_len (b + 3 + 1) = m2) (h3 : am_len (q + 1 + 1) = m3) (h4 : am_len (q + 3 + 1) = m4) (p1 : p < m1) (c1 : p * 24 + 24 ≤ m2) (p3 : p2 < m3) (c3 : p2 * 24 + 24 ≤ m4) (hb : m1 < 2 ^ 30 ∧ m2 < 2 ^ 30 ∧ m3 < 2 ^ 30 ∧ m4 < 2 ^ 30) (d1 : q + 2 ≠ b + 2) (d2 : q + 2 ≠ b + 4) (d3 : q + 4 ≠ b + 2) (d4 : q + 4 ≠ b + 4) (hl : k (q + 2) p2 = nI n) (hn : n ≤ 24) : bCpL k b (nI p) q (nI p2) = yCp k (b + 2) (b + 4) p (q + 4) p2 n := by
  have eL : bLen k q (nI p2) = nI n := by unfold bLen; rw [rAt_i h3 p3 (by omega)]; exact hl
  have step : ∀ j, j ≤ n → bCpN k b (nI p) q (nI p2) j = yCp k (b + 2) (b + 4) p (q + 4) p2 j := by
    intro j
    induction j with
    | zero =>
      intro _
      show rPut k (b + 1) (nI p) 0 = am_up k (b + 2) p 0
      exact rPut_i h1 p1 (by omega)
    | succ j ih =>
      intro hj
      show bAdd (bCpN k b (nI p) q (nI p2) j) b (nI p) (bAt k q (nI p2) (nI j)) = _
      rw [ih (by omega)]
      have eA : bAt k q (nI p2) (nI j) = k (q + 4) (p2 * 24 + j) := by
        unfold bAt
        rw [if_neg (nI_pos (by omega)), eL, if_neg (nI_ge (by omega) (by omega)), zi24, nI_add, rAt_i h4 (by omega) (by omega)]
      have eB : bLen (yCp k (b + 2) (b + 4) p (q + 4) p2 j) b (nI p) = nI j := by unfold bLen; rw [rAt_i h1 p1 (by omega)]; exact yCp_l j
      unfold bAdd
      rw [eB, if_neg (show ¬ (24 : Int32) ≤ nI j from fun z => nI_ge (show j < 24 by omega) (by decide) z), eA, zi24, nI_add, rPut_i h2 (by omega) (by omega), rPut_i h1 p1 (by omega), nI_1]
      rfl
  unfold bCpL
  rw [eL, nI_clamp (by omega)]
  exact step n (Nat.le_refl n)
/-- n places copied in the reference's array -/
def yGc (g : Nat → Int32) (f t : Nat) : Nat → Nat → Int32
  | 0 => g
  | n + 1 => upd (yGc g f t n) (t + n) (yGc g f t n (f + n))
theorem yGc_out {g : Nat → Int32} {f t m : Nat} : ∀ n, (m < t ∨ t + n ≤ m) → yGc g f t n m = g m := by
  intro n
  induction n with
  | zero => intro _; rfl
  | succ n ih => intro h; exact (pk_un (by omega)).trans (ih (by omega))
theorem yGc_in {g : Nat → Int32} {f t j : Nat} : ∀ n, (f + n ≤ t ∨ t + n ≤ f) → j < n → yGc g f t n (t + j) = g (f + j) := by
  intro n
  induction n with
  | zero => intro _ h; omega
  | succ n ih =>
    intro h hj
    by_cases e : j = n
    · subst e; exact pk_us.trans (yGc_out _ (by omega))
    · exact (pk_un (by omega)).trans (ih (by omega) (by omega))
set_option maxRecDepth 20000 in
theorem l_copies {f t : Nat} (hf : f + 25 ≤ 9231) (ht : t + 25 ≤ 9231) (h : R none (am_ua σ 190 (yGc g f t 25))) : ∀ m n, n + m = 25 → am_Wp (am_lk cl_X12_copies) 2 [(0, .ref 189), (1, .int (nI f)), (2, .int (nI t)), (3, .int (nI n))] [] (am_ua σ 190 (yGc g f t n)) R := by
  intro m
  induction m with
  | zero =>
    intro n e
    have e : n = 25 := by omega
    subst e
    refine am_go hm_X12_copies (fun _ => false) 40 ?_
    exact am_ite (fun _ => h) (fun z => absurd (show (25 : Int32) ≤ nI 25 by decide) z)
  | succ m ih =>
    intro n e
    refine am_go hm_X12_copies (fun p => Nat.beq p 22) 40 ?_
    refine am_ite (fun z => absurd z (nI_ge (show n < 25 by omega) (by decide))) (fun _ => ?_)
    refine wn_ld hm_X12_copies (f + n) (nI_add f n) rfl (by omega) rfl ?_
    refine wn_st hm_X12_copies (t + n) (nI_add t n) (by omega) rfl ?_
    refine am_go hm_X12_copies (fun p => Nat.beq p 2) 20 ?_
    have h9 := ih (n + 1) (by omega)
    rw [nI_succ n] at h9
    exact am_Wp.sub hm_X12_copies (am_le_of (List.forall_mem_cons.mpr ⟨rfl, List.forall_mem_cons.mpr ⟨rfl, List.forall_mem_cons.mpr ⟨rfl, List.forall_mem_cons.mpr ⟨rfl, fun _ q => by cases q⟩⟩⟩⟩)) h9
set_option maxRecDepth 20000 in
theorem y_copies {f t : Nat} {u v : Int32} (hu : u = nI f) (hv : v = nI t) (hf : f + 25 ≤ 9231) (ht : t + 25 ≤ 9231) (h : R none (am_ua σ 190 (yGc g f t 25))) : sp_X12_copies [.ref 189, .int u, .int v] (am_ua σ 190 g) R := by
  subst hu
  subst hv
  refine ⟨rfl, am_go hm_X12_copies (fun p => Nat.beq p 2) 20 ?_⟩
  exact am_Wp.sub hm_X12_copies (am_le_of (List.forall_mem_cons.mpr ⟨rfl, List.forall_mem_cons.mpr ⟨rfl, List.forall_mem_cons.mpr ⟨rfl, List.forall_mem_cons.mpr ⟨rfl, fun _ q => by cases q⟩⟩⟩⟩)) (l_copies (g := g) hf ht h 25 0 rfl)
/-- well-formed codes hold what may stand -/
theorem zWf_at {f : Nat → Int32} : ∀ {m p d : Nat} {z : Bool}, zWf f m p d z → ∀ j, p ≤ j → j < p + m → ∃ d1 z1, zOk (f j) d1 z1 := by
  intro m
  induction m with
  | zero => intro p d z _ j h1 h2; omega
  | succ m ih =>
    intro p d z h j h1 h2
    by_cases e : j = p
    · subst e; exact ⟨d, z, h.1⟩
    · exact ih h.2 j (by omega) (by omega)
theorem zWf_c {f f1 : Nat → Int32} : ∀ {m p d : Nat} {z : Bool}, (∀ j, p ≤ j → j < p + m → f1 j = f j) → zWf f m p d z → zWf f1 m p d z := by
  intro m
  induction m with
  | zero => intro p d z _ h; exact h
  | succ m ih =>
    intro p d z e h
    have e0 := e p (Nat.le_refl p) (by omega)
    show zOk (f1 p) d z ∧ zWf f1 m (p + 1) (zDn (f1 p) d) (decide (iSign (f1 p) = 122))
    rw [e0]
    exact ⟨h.1, ih (fun j h1 h2 => e j (by omega) (by omega)) h.2⟩
theorem zBc_c {f f1 : Nat → Int32} : ∀ {m p e : Nat}, (∀ j, p ≤ j → j < p + m → f1 j = f j) → zBc f1 m p e = zBc f m p e := by
  intro m
  induction m with
  | zero => intro p e _; rfl
  | succ m ih =>
    intro p e h
    show (if zDn (f1 p) e = 0 then p + 1 else zBc f1 m (p + 1) (zDn (f1 p) e)) = (if zDn (f p) e = 0 then p + 1 else zBc f m (p + 1) (zDn (f p) e))
    rw [h p (Nat.le_refl p) (by omega), ih (fun j h1 h2 => h j (by omega) (by omega))]
theorem zB_c {f f1 : Nat → Int32} {L p : Nat} (h : ∀ j, p ≤ j → j < L → f1 j = f j) : zB f1 L p = zB f L p := zBc_c (fun j h1 h2 => h j h1 (by omega))
/-! ^ : the class's side -/
def ySetC (k : am_M) (s q : Nat) : am_M := yCp (am_up k 73 s 1) 78 80 s 20 q (zc (k 18 q))
theorem e_SetC {c e b N i q : Nat} {k : am_M} (h : zInv c e b N k) (hi : i < zT k) (hd : 0 < zc (k 29 i)) (hq : q < 6) : hSetC k (nI i) (nI q) = ySetC k (zIs k i) q := by
  obtain ⟨q0, q1, q2, q3, q4, q5, q6⟩ := h.inner hi hd
  have v13 := h.2.2.2.2.2.2.2.2.2.2.2.2.2.2.1 q hq
  unfold hSetC ySetC
  rw [q0, rp_S_cleanupState (by omega)]
  exact e_CpL (k := am_up k 73 (zIs k i) 1) (b := 76) (q := 16) (p := zIs k i) (p2 := q) (n := zc (k 18 q)) len_S_cleanups_len len_S_cleanups_cel len_W_programs_len len_W_programs_cel (by omega) (by omega) hq (by omega) ⟨by decide, by decide, by decide, by decide⟩ (by decide) (by decide) (by decide) (by decide) v13.1.1 v13.1.2
theorem zFr.setC {k : am_M} {s q : Nat} : zFr [73, 78, 80] k (ySetC k s q) := by
  intro a ha
  have h1 : a ≠ 73 := fun z => ha (by rw [z]; decide)
  have h2 : a ≠ 78 := fun z => ha (by rw [z]; decide)
  have h3 : a ≠ 80 := fun z => ha (by rw [z]; decide)
  unfold ySetC
  rw [yCp_n h2 h3, zup_n _ _ h1]
end ZA1
