/-! execute -/
section ZDI
variable {x : Nat → Int32} {L : Nat} {R : am_R} {σ : am_M}
-- the first pass: may the rooms be set
def zP1 (σ : am_M) (lv : Nat) (sz : Nat → Int32) (cs : List qCm) (τ : am_M) : Prop := ((∀ b, b ≠ 189 → b ≠ 193 → τ b = σ b) ∧ ∀ j, j ≠ 7 → j ≠ 9 → j ≠ 10 → τ 189 j = σ 189 j) ∧ (τ 189 10 = 0 ∨ τ 189 10 = 1) ∧ (τ 189 10 = 1 ↔ qBar lv sz cs)
theorem zP1.st {lv : Nat} {sz : Nat → Int32} (cs : List qCm) (τ τ' : am_M) (h : zP1 σ lv sz cs τ) (F : zPn τ τ') : zP1 σ lv sz cs τ' := by
  obtain ⟨⟨h1, h2⟩, h3⟩ := h
  refine ⟨⟨fun b a a1 => (F.1 b a a1).trans (h1 b a a1), fun j a1 a2 a3 => (F.2 j a1 a2).trans (h2 j a1 a2 a3)⟩, ?_⟩
  rw [F.2 10 (by decide) (by decide)]
  exact h3
theorem zMt.b10 {τ : am_M} {a : Nat} {v : Int32} (h : zMt x L τ a) : zMt x L (am_up τ 189 10 v) a := by
  obtain ⟨h1, h2, h3, h4, h5⟩ := h
  exact ⟨by rw [zup_sn _ (by decide)]; exact h1, by rw [zup_sn _ (by decide)]; exact h2, h3, h4, fun j hj => by rw [zup_n _ _ (by decide)]; exact h5 j hj⟩
set_option maxRecDepth 20000 in
theorem l_P1room {N b : Nat} {k : am_M} {g : Nat → Int32} (hS : zSim b k g) (hI : zIdle N k) (hg : σ 190 = g) {lv : Nat} (hlv : lv < 2 ^ 31) (hl : wLive k = nI lv) : ∀ (cs : List qCm) (τ : am_M) (a c r : Nat) (n : Int32) (ls : am_L) (R : am_R), zP1 σ lv (k 85) cs τ → zMt x L τ a → c < 4 → r ≤ 3 → (∀ (τ' : am_M) (ls' : am_L), zP1 σ lv (k 85) (cs ++ [(true, c, [nI r])]) τ' → zMt x L τ' a → (∀ q ∈ ([(0, .ref 189), (1, .int 0), (2, .int n)] : am_L), am_lv ls' q.1 = some q.2) → am_Wp (am_lk cl_X12_commands) 214 ls' [] τ' R) → (∀ q ∈ ([(0, .ref 189), (1, .int 0), (2, .int n), (3, .int (nI c)), (4, .int (nI r))] : am_L), am_lv ls q.1 = some q.2) → am_Wp (am_lk cl_X12_commands) 89 ls [] τ R := by
  intro cs τ a c r n ls R hp hm hc hr hR hl2
  obtain ⟨⟨p1, p2⟩, p3, p4⟩ := hp
  have g190 : τ 190 = g := (p1 190 (by decide) (by decide)).trans hg
  have L3 : ∀ q ∈ ([(0, .ref 189), (1, .int 0), (2, .int n)] : am_L), am_lv [(0, .ref 189), (1, .int 0), (2, .int n), (3, .int (nI c)), (4, .int (nI r))] q.1 = some q.2 := List.forall_mem_cons.mpr ⟨rfl, List.forall_mem_cons.mpr ⟨rfl, List.forall_mem_cons.mpr ⟨rfl, fun _ q => by cases q⟩⟩⟩
  have bar : (0 < lv ∨ ¬ k 85 c ≤ nI r) → am_Wp (am_lk cl_X12_commands) 130 [(0, .ref 189), (1, .int 0), (2, .int n), (3, .int (nI c)), (4, .int (nI r))] [] τ R := by
    intro q
    refine am_go hm_X12_commands (fun p => Nat.beq p 214) 20 ⟨Or.inr rfl, ?_⟩
    refine hR (am_up τ 189 10 1) _ ⟨⟨fun b a1 a2 => (zup_n _ _ a1).trans (p1 b a1 a2), fun j a1 a2 a3 => (zup_sn _ a3).trans (p2 j a1 a2 a3)⟩, ?_, ?_⟩ hm.b10 L3
    · rw [zup_ss]; exact Or.inr rfl
    · rw [zup_ss, qBar_s]
      exact ⟨fun _ => Or.inr ⟨rfl, q⟩, fun _ => rfl⟩
  have free : ¬ (0 < lv ∨ ¬ k 85 c ≤ nI r) → am_Wp (am_lk cl_X12_commands) 135 [(0, .ref 189), (1, .int 0), (2, .int n), (3, .int (nI c)), (4, .int (nI r))] [] τ R := by
    intro q
    refine am_go hm_X12_commands (fun p => Nat.beq p 214) 20 ?_
    refine hR τ _ ⟨⟨p1, p2⟩, p3, ?_⟩ hm L3
    rw [qBar_s]
    exact p4.trans ⟨Or.inl, fun y => y.resolve_right (fun y => q y.2)⟩
  refine am_Wp.sub hm_X12_commands (am_le_of hl2) (am_go hm_X12_commands (fun p => Nat.beq p 93 || Nat.beq p 107) 20 ?_)
  refine am_ite (fun _ => ?_) (fun q => absurd rfl q)
  have eT : τ = am_ua τ 190 g := by rw [← g190]; exact (am_ua_me τ 190).symm
  refine wq_eq eT ?_
  refine am_go hm_X12_commands (fun p => Nat.beq p 130 || Nat.beq p 126) 20 ?_
  refine y_live hS hI ?_
  refine am_ite (fun q => ?_) (fun q => ?_)
  · refine wq_eq eT.symm (am_Wp.sub hm_X12_commands (am_le_of (List.forall_mem_cons.mpr ⟨rfl, List.forall_mem_cons.mpr ⟨rfl, List.forall_mem_cons.mpr ⟨rfl, List.forall_mem_cons.mpr ⟨rfl, List.forall_mem_cons.mpr ⟨rfl, fun _ q => by cases q⟩⟩⟩⟩⟩)) (bar (Or.inl ?_)))
    have q : 0 < wLive k := q
    rw [hl] at q
    exact (nI_ltI (a := 0) (by decide) hlv).mp q
  · have q : ¬ 0 < wLive k := q
    have lv0 : ¬ 0 < lv := fun y => q (by rw [hl]; exact (nI_ltI (a := 0) (by decide) hlv).mpr y)
    refine y_channel c rfl ?_
    refine wn_ld hm_X12_commands (150 + 5 * c + 1) (nI_add _ 1) (hS.ch hc 1 (by decide)) (by omega) rfl ?_
    refine am_go hm_X12_commands (fun p => Nat.beq p 130 || Nat.beq p 135) 20 ?_
    refine am_ite (fun y => ?_) (fun y => ?_)
    · exact wq_eq eT.symm (am_Wp.sub hm_X12_commands (am_le_of (List.forall_mem_cons.mpr ⟨rfl, List.forall_mem_cons.mpr ⟨rfl, List.forall_mem_cons.mpr ⟨rfl, List.forall_mem_cons.mpr ⟨rfl, List.forall_mem_cons.mpr ⟨rfl, fun _ q => by cases q⟩⟩⟩⟩⟩)) (free (fun z => z.elim lv0 (fun w => w y))))
    · exact wq_eq eT.symm (am_Wp.sub hm_X12_commands (am_le_of (List.forall_mem_cons.mpr ⟨rfl, List.forall_mem_cons.mpr ⟨rfl, List.forall_mem_cons.mpr ⟨rfl, List.forall_mem_cons.mpr ⟨rfl, List.forall_mem_cons.mpr ⟨rfl, fun _ q => by cases q⟩⟩⟩⟩⟩)) (bar (Or.inr y)))
set_option maxRecDepth 20000 in
theorem l_P1prog {lv : Nat} {sz : Nat → Int32} : ∀ (cs : List qCm) (τ : am_M) (a q : Nat) (l : List Int32) (n : Int32) (ls : am_L) (R : am_R), zP1 σ lv sz cs τ → zMt x L τ a → q < 6 → l.length ≤ 24 → τ 193 0 = nI l.length → (∀ i, i < l.length → τ 193 (1 + i) = l.getD i 0) → (∀ (τ' : am_M) (ls' : am_L), zP1 σ lv sz (cs ++ [(false, q, l)]) τ' → zMt x L τ' a → (∀ q ∈ ([(0, .ref 189), (1, .int 0), (2, .int n)] : am_L), am_lv ls' q.1 = some q.2) → am_Wp (am_lk cl_X12_commands) 214 ls' [] τ' R) → (∀ y ∈ ([(0, .ref 189), (1, .int 0), (2, .int n), (3, .int (nI q))] : am_L), am_lv ls y.1 = some y.2) → am_Wp (am_lk cl_X12_commands) 173 ls [] τ R := by
  intro cs τ a q l n ls R hp hm hq hl h0 hi hR hl2
  refine am_Wp.sub hm_X12_commands (am_le_of hl2) (am_go hm_X12_commands (fun p => Nat.beq p 214) 20 ?_)
  refine am_ite (fun y => absurd y (by decide)) (fun _ => ?_)
  refine am_ite (fun _ => ?_) (fun y => absurd rfl y)
  refine hR τ _ ⟨hp.1, hp.2.1, ?_⟩ hm (List.forall_mem_cons.mpr ⟨rfl, List.forall_mem_cons.mpr ⟨rfl, List.forall_mem_cons.mpr ⟨rfl, fun _ q => by cases q⟩⟩⟩)
  rw [qBar_s]
  exact hp.2.2.trans ⟨Or.inl, fun y => y.resolve_right (fun y => by cases y.1)⟩
-- the second pass: written
def zTo (g0 : Nat → Int32) (cs : List qCm) (g : Nat → Int32) : Prop := (∀ q, q < 6 → (qLp false q cs = none → ∀ i, i < 25 → g (25 * q + i) = g0 (25 * q + i)) ∧ ∀ l, qLp false q cs = some l → l.length ≤ 24 ∧ g (25 * q) = nI l.length ∧ ∀ i, i < l.length → g (25 * q + (1 + i)) = l.getD i 0) ∧ (∀ c, c < 4 → (qLp true c cs = none → g (150 + 5 * c) = g0 (150 + 5 * c)) ∧ ∀ l, qLp true c cs = some l → g (150 + 5 * c) = l.getD 0 0) ∧ ∀ m, 150 ≤ m → (170 ≤ m ∨ m % 5 ≠ 0) → g m = g0 m
def zP2 (σ : am_M) (cs : List qCm) (τ : am_M) : Prop := ((∀ b, b ≠ 189 → b ≠ 190 → b ≠ 193 → τ b = σ b) ∧ ∀ j, j ≠ 7 → j ≠ 9 → τ 189 j = σ 189 j) ∧ zTo (σ 190) cs (τ 190)
theorem zP2.st (cs : List qCm) (τ τ' : am_M) (h : zP2 σ cs τ) (F : zPn τ τ') : zP2 σ cs τ' := by
  obtain ⟨⟨h1, h2⟩, h3⟩ := h
  refine ⟨⟨fun b a a1 a2 => (F.1 b a a2).trans (h1 b a a1 a2), fun j a1 a2 => (F.2 j a1 a2).trans (h2 j a1 a2)⟩, ?_⟩
  rw [F.1 190 (by decide) (by decide)]
  exact h3
theorem zMt.g {τ : am_M} {a : Nat} {g : Nat → Int32} (h : zMt x L τ a) : zMt x L (am_ua τ 190 g) a := by
  obtain ⟨h1, h2, h3, h4, h5⟩ := h
  exact ⟨by rw [am_ua_n _ _ (by decide)]; exact h1, by rw [am_ua_n _ _ (by decide)]; exact h2, h3, h4, fun j hj => by rw [am_ua_n _ _ (by decide)]; exact h5 j hj⟩
set_option maxRecDepth 20000 in
theorem l_P2room : ∀ (cs : List qCm) (τ : am_M) (a c r : Nat) (n : Int32) (ls : am_L) (R : am_R), zP2 σ cs τ → zMt x L τ a → c < 4 → r ≤ 3 → (∀ (τ' : am_M) (ls' : am_L), zP2 σ (cs ++ [(true, c, [nI r])]) τ' → zMt x L τ' a → (∀ q ∈ ([(0, .ref 189), (1, .int 1), (2, .int n)] : am_L), am_lv ls' q.1 = some q.2) → am_Wp (am_lk cl_X12_commands) 214 ls' [] τ' R) → (∀ q ∈ ([(0, .ref 189), (1, .int 1), (2, .int n), (3, .int (nI c)), (4, .int (nI r))] : am_L), am_lv ls q.1 = some q.2) → am_Wp (am_lk cl_X12_commands) 89 ls [] τ R := by
  intro cs τ a c r n ls R hp hm hc hr hR hl2
  obtain ⟨⟨p1, p2⟩, p3, p4, p5⟩ := hp
  refine am_Wp.sub hm_X12_commands (am_le_of hl2) (am_go hm_X12_commands (fun p => Nat.beq p 103 || Nat.beq p 107) 20 ?_)
  refine am_ite (fun q => absurd q (by decide)) (fun _ => ?_)
  refine y_channel c rfl ?_
  refine wq_eq (am_ua_me τ 190).symm ?_
  refine wn_st hm_X12_commands (150 + 5 * c) rfl (by omega) rfl ?_
  refine am_go hm_X12_commands (fun p => Nat.beq p 214) 20 ?_
  refine hR (am_ua τ 190 (upd (τ 190) (150 + 5 * c) (nI r))) _ ⟨⟨fun b a1 a2 a3 => (am_ua_n _ _ a2).trans (p1 b a1 a2 a3), fun j a1 a2 => by rw [am_ua_n _ _ (by decide)]; exact p2 j a1 a2⟩, ?_⟩ hm.g (List.forall_mem_cons.mpr ⟨rfl, List.forall_mem_cons.mpr ⟨rfl, List.forall_mem_cons.mpr ⟨rfl, fun _ q => by cases q⟩⟩⟩)
  rw [am_ua_s]
  refine ⟨fun q hq => ?_, fun d hd => ?_, fun m h1 h2 => ?_⟩
  · have e : qLp false q (cs ++ [(true, c, [nI r])]) = qLp false q cs := by rw [qLp_s]; exact if_neg (fun z => by cases z.1)
    rw [e]
    refine ⟨fun z i hi => by rw [pk_un (by omega)]; exact (p3 q hq).1 z i hi, fun l hl => ?_⟩
    obtain ⟨y0, y1, y2⟩ := (p3 q hq).2 l hl
    exact ⟨y0, by rw [pk_un (by omega)]; exact y1, fun i hi => by rw [pk_un (by omega)]; exact y2 i hi⟩
  · rw [qLp_s]
    by_cases e : d = c
    · subst e
      rw [if_pos ⟨rfl, rfl⟩, pk_us]
      exact ⟨fun z => by (cases z), fun l hl => by cases hl; rfl⟩
    · rw [if_neg (fun z => e z.2.symm), pk_un (by omega)]
      exact p4 d hd
  · rw [pk_un (by omega)]
    exact p5 m h1 h2
set_option maxRecDepth 20000 in
theorem l_prog {done n : Int32} {q : Nat} (hd : ¬ done = 0) (hq : q < 6) {g0 : Nat → Int32} {τ : am_M} (hR : ∀ ls : am_L, (∀ q ∈ ([(0, .ref 189), (1, .int done), (2, .int n)] : am_L), am_lv ls q.1 = some q.2) → am_Wp (am_lk cl_X12_commands) 214 ls [] (am_ua τ 190 (fun m => if 25 * q ≤ m ∧ m < 25 * q + 25 then τ 193 (m - 25 * q) else g0 m)) R) : ∀ m i, i + m = 25 → am_Wp (am_lk cl_X12_commands) 176 [(0, .ref 189), (1, .int done), (2, .int n), (3, .int (nI q)), (4, .int (nI i))] [] (am_ua τ 190 (fun m => if 25 * q ≤ m ∧ m < 25 * q + i then τ 193 (m - 25 * q) else g0 m)) R := by
  intro m
  induction m with
  | zero =>
    intro i e
    have e : i = 25 := by omega
    subst e
    refine am_go hm_X12_commands (fun p => Nat.beq p 214) 20 ?_
    refine am_ite (fun _ => ?_) (fun z => absurd (nI_le (a := 25) (b := 25) (by decide) (by decide)) z)
    exact hR _ (List.forall_mem_cons.mpr ⟨rfl, List.forall_mem_cons.mpr ⟨rfl, List.forall_mem_cons.mpr ⟨rfl, fun _ q => by cases q⟩⟩⟩)
  | succ m ih =>
    intro i e
    refine am_go hm_X12_commands (fun p => Nat.beq p 214 || Nat.beq p 206) 20 ?_
    refine am_ite (fun z => absurd z (nI_ge (a := i) (b := 25) (by omega) (by decide))) (fun _ => ?_)
    refine am_ite (fun z => absurd z hd) (fun _ => ?_)
    refine wa_ld hm_X12_commands lay_193 rfl (nI_in (by omega) (by decide)) ?_
    refine wn_st hm_X12_commands (25 * q + i) ?_ (by omega) rfl ?_
    · show (0 : Int32) + 25 * nI q + nI i = _
      rw [Int32.zero_add, show (25 : Int32) = nI 25 from rfl, pk_mul, nI_add]
    · refine am_go hm_X12_commands (fun p => Nat.beq p 176) 20 ?_
      have eS : upd (fun m => if 25 * q ≤ m ∧ m < 25 * q + i then τ 193 (m - 25 * q) else g0 m) (25 * q + i) (am_ua τ 190 (fun m => if 25 * q ≤ m ∧ m < 25 * q + i then τ 193 (m - 25 * q) else g0 m) 193 (nI i).toNatClampNeg) = (fun m => if 25 * q ≤ m ∧ m < 25 * q + (i + 1) then τ 193 (m - 25 * q) else g0 m) := by
        rw [am_ua_n _ _ (by decide), nI_clamp (by omega)]
        funext b
        by_cases c : b = 25 * q + i
        · subst c
          rw [pk_us, if_pos (by omega), show 25 * q + i - 25 * q = i from by omega]
        · rw [pk_un c]
          show (if 25 * q ≤ b ∧ b < 25 * q + i then τ 193 (b - 25 * q) else g0 b) = if 25 * q ≤ b ∧ b < 25 * q + (i + 1) then τ 193 (b - 25 * q) else g0 b
          by_cases c2 : 25 * q ≤ b ∧ b < 25 * q + i
          · rw [if_pos c2, if_pos (by omega)]
          · rw [if_neg c2, if_neg (by omega)]
      refine wq_eq (by rw [eS]) (am_Wp.sub hm_X12_commands (am_le_of (List.forall_mem_cons.mpr ⟨rfl, List.forall_mem_cons.mpr ⟨rfl, List.forall_mem_cons.mpr ⟨rfl, List.forall_mem_cons.mpr ⟨rfl, List.forall_mem_cons.mpr ⟨by rw [nI_succ]; rfl, fun _ q => by cases q⟩⟩⟩⟩⟩)) (ih (i + 1) (by omega)))
set_option maxRecDepth 20000 in
theorem l_P2prog : ∀ (cs : List qCm) (τ : am_M) (a q : Nat) (l : List Int32) (n : Int32) (ls : am_L) (R : am_R), zP2 σ cs τ → zMt x L τ a → q < 6 → l.length ≤ 24 → τ 193 0 = nI l.length → (∀ i, i < l.length → τ 193 (1 + i) = l.getD i 0) → (∀ (τ' : am_M) (ls' : am_L), zP2 σ (cs ++ [(false, q, l)]) τ' → zMt x L τ' a → (∀ q ∈ ([(0, .ref 189), (1, .int 1), (2, .int n)] : am_L), am_lv ls' q.1 = some q.2) → am_Wp (am_lk cl_X12_commands) 214 ls' [] τ' R) → (∀ y ∈ ([(0, .ref 189), (1, .int 1), (2, .int n), (3, .int (nI q))] : am_L), am_lv ls y.1 = some y.2) → am_Wp (am_lk cl_X12_commands) 173 ls [] τ R := by
  intro cs τ a q l n ls R hp hm hq hl h0 hi hR hl2
  obtain ⟨⟨p1, p2⟩, p3, p4, p5⟩ := hp
  refine am_Wp.sub hm_X12_commands (am_le_of hl2) (am_go hm_X12_commands (fun p => Nat.beq p 176) 20 ?_)
  have e0 : τ = am_ua τ 190 (fun m => if 25 * q ≤ m ∧ m < 25 * q + 0 then τ 193 (m - 25 * q) else τ 190 m) := by
    have : (fun m => if 25 * q ≤ m ∧ m < 25 * q + 0 then τ 193 (m - 25 * q) else τ 190 m) = τ 190 := funext (fun m => if_neg (by omega))
    rw [this]; exact (am_ua_me τ 190).symm
  refine wq_eq e0 ?_
  refine am_Wp.sub hm_X12_commands (ls := [(0, .ref 189), (1, .int 1), (2, .int n), (3, .int (nI q)), (4, .int (nI 0))]) (am_le_of (List.forall_mem_cons.mpr ⟨rfl, List.forall_mem_cons.mpr ⟨rfl, List.forall_mem_cons.mpr ⟨rfl, List.forall_mem_cons.mpr ⟨rfl, List.forall_mem_cons.mpr ⟨rfl, fun _ q => by cases q⟩⟩⟩⟩⟩)) ?_
  refine l_prog (by decide) hq (fun ls hl3 => ?_) 25 0 rfl
  refine hR _ ls ⟨⟨fun b a1 a2 a3 => (am_ua_n _ _ a2).trans (p1 b a1 a2 a3), fun j a1 a2 => by rw [am_ua_n _ _ (by decide)]; exact p2 j a1 a2⟩, ?_⟩ hm.g hl3
  rw [am_ua_s]
  have nb : ∀ m, ¬ (25 * q ≤ m ∧ m < 25 * q + 25) → (fun m => if 25 * q ≤ m ∧ m < 25 * q + 25 then τ 193 (m - 25 * q) else τ 190 m) m = τ 190 m := fun m hm => if_neg hm
  have ib : ∀ i, i < 25 → (fun m => if 25 * q ≤ m ∧ m < 25 * q + 25 then τ 193 (m - 25 * q) else τ 190 m) (25 * q + i) = τ 193 i := fun i hi => by
    show (if 25 * q ≤ 25 * q + i ∧ 25 * q + i < 25 * q + 25 then τ 193 (25 * q + i - 25 * q) else τ 190 (25 * q + i)) = _
    rw [if_pos (by omega), show 25 * q + i - 25 * q = i from by omega]
  generalize (fun m => if 25 * q ≤ m ∧ m < 25 * q + 25 then τ 193 (m - 25 * q) else τ 190 m) = g at nb ib
  refine ⟨fun b hb => ?_, fun d hd => ?_, fun m h1 h2 => ?_⟩
  · rw [qLp_s]
    by_cases e : b = q
    · subst e
      rw [if_pos ⟨rfl, rfl⟩]
      refine ⟨fun z => by (cases z), fun l2 h2 => ?_⟩
      cases h2
      exact ⟨hl, (ib 0 (by decide)).trans h0, fun i h3 => (ib (1 + i) (by have h3 : i < l.length := h3; omega)).trans (hi i h3)⟩
    · rw [if_neg (fun z => e z.2.symm)]
      refine ⟨fun z i h3 => by rw [nb _ (by omega)]; exact (p3 b hb).1 z i h3, fun l2 h2 => ?_⟩
      obtain ⟨y0, y1, y2⟩ := (p3 b hb).2 l2 h2
      exact ⟨y0, by rw [nb _ (by omega)]; exact y1, fun i h3 => by rw [nb _ (by omega)]; exact y2 i h3⟩
  · have e : qLp true d (cs ++ [(false, q, l)]) = qLp true d cs := by rw [qLp_s]; exact if_neg (fun z => by cases z.1)
    rw [e, nb _ (by omega)]
    exact p4 d hd
  · rw [nb _ (by omega)]
    exact p5 m h1 h2
end ZDI
