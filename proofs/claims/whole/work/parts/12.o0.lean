/-! append -/
section ZCO
variable {σ : am_M} {g : Nat → Int32} {R : am_R}
theorem hm_X11_countCharacters : ∀ pc, am_mono (am_lk cl_X11_countCharacters pc) := fun pc => (am_lk_ok (ok_X11_countCharacters launch0 z_G0 z_ok0) pc).1
def zBy (n s : Int32) : Int32 := (n.toUInt32 >>> (s.toUInt32 &&& Int32.toUInt32 31)).toInt32 &&& 255
def zSf (k : Nat) : Int32 := nI (8 * k) - 8
theorem zSf_s {k : Nat} (h : k ≤ 3) : zSf (k + 1) + (-8) = zSf k ∧ ¬ zSf (k + 1) < 0 := by
  rcases (by omega : k = 0 ∨ k = 1 ∨ k = 2 ∨ k = 3) with rfl | rfl | rfl | rfl <;> exact ⟨by decide, by decide⟩
theorem zSf_0 : zSf 0 < 0 := by decide
theorem zSf_4 : zSf 4 = 24 := by decide
/-- a byte that is a character -/
def zChr (b : Int32) : Prop := 33 ≤ b ∧ b ≤ 126
abbrev zByc (n : Int32) : Nat → Nat → Option Nat
  | 0, c => some c
  | k + 1, c => if zBy n (zSf (k + 1)) = 0 then zByc n k c else if 33 ≤ zBy n (zSf (k + 1)) ∧ zBy n (zSf (k + 1)) ≤ 126 then zByc n k (c + 1) else none
def zBl (n : Int32) : Nat → List Int32
  | 0 => []
  | k + 1 => if zBy n (zSf (k + 1)) = 0 then zBl n k else zBy n (zSf (k + 1)) :: zBl n k
theorem zByc_l {n : Int32} : ∀ k c d, zByc n k c = some d → d = c + (zBl n k).length ∧ ∀ b ∈ zBl n k, zChr b := by
  intro k
  induction k with
  | zero => intro c d h; cases h; exact ⟨rfl, fun b hb => absurd hb List.not_mem_nil⟩
  | succ k ih =>
    intro c d h
    have h : (if zBy n (zSf (k + 1)) = 0 then zByc n k c else if 33 ≤ zBy n (zSf (k + 1)) ∧ zBy n (zSf (k + 1)) ≤ 126 then zByc n k (c + 1) else none) = some d := h
    unfold zBl
    split at h
    · rename_i e
      rw [if_pos e]
      exact ih c d h
    · rename_i e
      rw [if_neg e]
      split at h
      · rename_i e2
        obtain ⟨i1, i2⟩ := ih (c + 1) d h
        refine ⟨by rw [List.length_cons, i1]; omega, fun b hb => ?_⟩
        rcases List.mem_cons.mp hb with rfl | hb
        · exact e2
        · exact i2 b hb
      · cases h
set_option maxRecDepth 20000 in
theorem l_countC {n : Int32} : ∀ k c, k ≤ 4 → R (some (.int (match zByc n k c with | none => -1 | some d => nI d))) σ → am_Wp (am_lk cl_X11_countCharacters) 5 [(0, .int n), (1, .int (nI c)), (2, .int (zSf k))] [] σ R := by
  intro k
  induction k with
  | zero =>
    intro c _ h
    refine am_go hm_X11_countCharacters (fun p => Nat.beq p 48) 20 ?_
    refine am_ite (fun _ => ?_) (fun z => absurd zSf_0 z)
    exact am_go hm_X11_countCharacters (fun _ => false) 20 h
  | succ k ih =>
    intro c hk h
    obtain ⟨s1, s2⟩ := zSf_s (k := k) (by omega)
    have h : R (some (.int (match (if zBy n (zSf (k + 1)) = 0 then zByc n k c else if 33 ≤ zBy n (zSf (k + 1)) ∧ zBy n (zSf (k + 1)) ≤ 126 then zByc n k (c + 1) else none) with | none => -1 | some d => nI d))) σ := h
    -- on from 42
    have nx : ∀ d ls, R (some (.int (match zByc n k d with | none => -1 | some d => nI d))) σ → (∀ q ∈ ([(0, .int n), (1, .int (nI d)), (2, .int (zSf (k + 1)))] : am_L), am_lv ls q.1 = some q.2) → am_Wp (am_lk cl_X11_countCharacters) 42 ls [] σ R := by
      intro d ls hd hl
      refine am_Wp.sub hm_X11_countCharacters (am_le_of hl) (am_go hm_X11_countCharacters (fun p => Nat.beq p 5) 20 ?_)
      refine am_Wp.sub hm_X11_countCharacters (ls := [(0, .int n), (1, .int (nI d)), (2, .int (zSf k))]) (am_le_of (List.forall_mem_cons.mpr ⟨rfl, List.forall_mem_cons.mpr ⟨rfl, List.forall_mem_cons.mpr ⟨by rw [← s1]; rfl, fun _ q => by cases q⟩⟩⟩)) ?_
      exact ih d (by omega) hd
    refine am_go hm_X11_countCharacters (fun p => Nat.beq p 48 || Nat.beq p 35 || Nat.beq p 33 || Nat.beq p 21) 20 ?_
    refine am_ite (fun z => absurd z s2) (fun _ => ?_)
    refine am_ite (fun e => ?_) (fun e => ?_)
    · have e : zBy n (zSf (k + 1)) = 0 := e
      rw [if_pos e] at h
      refine am_go hm_X11_countCharacters (fun p => Nat.beq p 42 || Nat.beq p 39) 20 ?_
      refine am_ite (fun _ => ?_) (fun z => absurd e z)
      exact nx c _ h (List.forall_mem_cons.mpr ⟨rfl, List.forall_mem_cons.mpr ⟨rfl, List.forall_mem_cons.mpr ⟨rfl, fun _ q => by cases q⟩⟩⟩)
    · have e : ¬ zBy n (zSf (k + 1)) = 0 := e
      rw [if_neg e] at h
      have bad : ¬ (33 ≤ zBy n (zSf (k + 1)) ∧ zBy n (zSf (k + 1)) ≤ 126) → ∀ ls, am_Wp (am_lk cl_X11_countCharacters) 33 ls [] σ R := fun z ls => by
        rw [if_neg z] at h
        exact am_go hm_X11_countCharacters (fun _ => false) 20 h
      refine am_go hm_X11_countCharacters (fun p => Nat.beq p 33 || Nat.beq p 35) 20 ?_
      refine am_ite (fun z => bad (fun q => absurd q.1 (Int32.not_le.mpr z)) _) (fun z => ?_)
      refine am_ite (fun z1 => ?_) (fun z1 => bad (fun q => z1 q.2) _)
      have ok : 33 ≤ zBy n (zSf (k + 1)) ∧ zBy n (zSf (k + 1)) ≤ 126 := ⟨Int32.not_lt.mp z, z1⟩
      rw [if_pos ok] at h
      refine am_go hm_X11_countCharacters (fun p => Nat.beq p 42 || Nat.beq p 39) 20 ?_
      refine am_ite (fun z => absurd z e) (fun _ => ?_)
      refine am_go hm_X11_countCharacters (fun p => Nat.beq p 42) 20 ?_
      exact nx (c + 1) _ h (List.forall_mem_cons.mpr ⟨rfl, List.forall_mem_cons.mpr ⟨by rw [nI_succ]; rfl, List.forall_mem_cons.mpr ⟨rfl, fun _ q => by cases q⟩⟩⟩)
set_option maxRecDepth 20000 in
theorem y_countC {n : Int32} (h : R (some (.int (match zByc n 4 0 with | none => -1 | some d => nI d))) σ) : sp_X11_countCharacters [.int n] σ R := by
  refine ⟨rfl, am_go hm_X11_countCharacters (fun p => Nat.beq p 5) 20 ?_⟩
  exact am_Wp.sub hm_X11_countCharacters (am_le_of (List.forall_mem_cons.mpr ⟨rfl, List.forall_mem_cons.mpr ⟨rfl, List.forall_mem_cons.mpr ⟨rfl, fun _ q => by cases q⟩⟩⟩)) (l_countC 4 0 (by decide) h)
-- the reference's count
set_option maxRecDepth 20000 in
theorem l_append1 {n : Int32} : ∀ k c, k ≤ 4 → (zByc n k c = none → R (some (.int 0)) (am_up (am_up σ 189 0 0) 189 0 1)) → (∀ d, zByc n k c = some d → am_Wp (am_lk cl_X12_append) 58 [(0, .ref 189), (1, .int n), (2, .int (nI d))] [] (am_up σ 189 0 0) R) → am_Wp (am_lk cl_X12_append) 10 [(0, .ref 189), (1, .int n), (2, .int (nI c)), (3, .int (zSf k))] [] (am_up σ 189 0 0) R := by
  intro k
  induction k with
  | zero =>
    intro c _ _ h
    refine am_go hm_X12_append (fun p => Nat.beq p 58) 20 ?_
    refine am_ite (fun _ => ?_) (fun z => absurd zSf_0 z)
    exact am_Wp.sub hm_X12_append (am_le_of (List.forall_mem_cons.mpr ⟨rfl, List.forall_mem_cons.mpr ⟨rfl, List.forall_mem_cons.mpr ⟨rfl, fun _ q => by cases q⟩⟩⟩)) (h c rfl)
  | succ k ih =>
    intro c hk h0 h
    obtain ⟨s1, s2⟩ := zSf_s (k := k) (by omega)
    have eB : zByc n (k + 1) c = (if zBy n (zSf (k + 1)) = 0 then zByc n k c else if 33 ≤ zBy n (zSf (k + 1)) ∧ zBy n (zSf (k + 1)) ≤ 126 then zByc n k (c + 1) else none) := rfl
    rw [eB] at h0 h
    have nx : ∀ e ls, (zByc n k e = none → R (some (.int 0)) (am_up (am_up σ 189 0 0) 189 0 1)) → (∀ d, zByc n k e = some d → am_Wp (am_lk cl_X12_append) 58 [(0, .ref 189), (1, .int n), (2, .int (nI d))] [] (am_up σ 189 0 0) R) → (∀ q ∈ ([(0, .ref 189), (1, .int n), (2, .int (nI e)), (3, .int (zSf (k + 1)))] : am_L), am_lv ls q.1 = some q.2) → am_Wp (am_lk cl_X12_append) 52 ls [] (am_up σ 189 0 0) R := by
      intro e ls h0 h hl
      refine am_Wp.sub hm_X12_append (am_le_of hl) (am_go hm_X12_append (fun p => Nat.beq p 10) 20 ?_)
      refine am_Wp.sub hm_X12_append (ls := [(0, .ref 189), (1, .int n), (2, .int (nI e)), (3, .int (zSf k))]) (am_le_of (List.forall_mem_cons.mpr ⟨rfl, List.forall_mem_cons.mpr ⟨rfl, List.forall_mem_cons.mpr ⟨rfl, List.forall_mem_cons.mpr ⟨by rw [← s1]; rfl, fun _ q => by cases q⟩⟩⟩⟩)) ?_
      exact ih e (by omega) h0 h
    refine am_go hm_X12_append (fun p => Nat.beq p 58 || Nat.beq p 52 || Nat.beq p 31) 20 ?_
    refine am_ite (fun z => absurd z s2) (fun _ => ?_)
    refine am_ite (fun e => ?_) (fun e => ?_)
    · have e : zBy n (zSf (k + 1)) = 0 := e
      rw [if_pos e] at h0 h
      exact nx c _ h0 h (List.forall_mem_cons.mpr ⟨rfl, List.forall_mem_cons.mpr ⟨rfl, List.forall_mem_cons.mpr ⟨rfl, List.forall_mem_cons.mpr ⟨rfl, fun _ q => by cases q⟩⟩⟩⟩)
    · have e : ¬ zBy n (zSf (k + 1)) = 0 := e
      rw [if_neg e] at h0 h
      refine am_go hm_X12_append (fun p => Nat.beq p 48 || Nat.beq p 49) 20 ?_
      refine y_in ?_
      refine am_ite (fun z => ?_) (fun z => ?_)
      · have z : ¬ (33 ≤ zBy n (zSf (k + 1)) ∧ zBy n (zSf (k + 1)) ≤ 126) := bI_0.mp z
        rw [if_neg z] at h0
        refine y_raises ?_
        exact am_go hm_X12_append (fun _ => false) 20 (h0 rfl)
      · have z : 33 ≤ zBy n (zSf (k + 1)) ∧ zBy n (zSf (k + 1)) ≤ 126 := bI_n0.mp z
        rw [if_pos z] at h0 h
        refine am_go hm_X12_append (fun p => Nat.beq p 52) 20 ?_
        exact nx (c + 1) _ h0 h (List.forall_mem_cons.mpr ⟨rfl, List.forall_mem_cons.mpr ⟨rfl, List.forall_mem_cons.mpr ⟨by rw [nI_succ]; rfl, List.forall_mem_cons.mpr ⟨rfl, fun _ q => by cases q⟩⟩⟩⟩)
/-- characters added: the class -/
def zPc : List Int32 → am_M → am_M
  | [], σ => σ
  | b :: r, σ => zPc r (lAdd σ 1 b)
/-- and the reference -/
def zPm : List Int32 → am_M → am_M
  | [], σ => σ
  | b :: r, σ => zPm r (am_up (am_up σ 189 5 (σ 189 5 + 1)) 192 (σ 189 5).toNatClampNeg b)
theorem zPc_n {a : Nat} (h : a ≠ 1 ∧ a ≠ 2) : ∀ (L : List Int32) (σ : am_M), zPc L σ a = σ a := by
  intro L
  induction L with
  | nil => intro σ; rfl
  | cons b r ih =>
    intro σ
    show zPc r (lAdd σ 1 b) a = σ a
    rw [ih]
    unfold lAdd
    split
    · rfl
    · split
      · rfl
      · rw [zup_n _ _ h.1, zup_n _ _ h.2]
theorem zPm_n {a : Nat} (h : a ≠ 189 ∧ a ≠ 192) : ∀ (L : List Int32) (σ : am_M), zPm L σ a = σ a := by
  intro L
  induction L with
  | nil => intro σ; rfl
  | cons b r ih =>
    intro σ
    show zPm r _ a = σ a
    rw [ih, zup_n _ _ h.2, zup_n _ _ h.1]
theorem zPm_j {j : Nat} (h : j ≠ 5) : ∀ (L : List Int32) (σ : am_M), zPm L σ 189 j = σ 189 j := by
  intro L
  induction L with
  | nil => intro σ; rfl
  | cons b r ih =>
    intro σ
    show zPm r _ 189 j = σ 189 j
    rw [ih, zup_n _ _ (by decide), zup_sn _ h]
/-- the text of the class and of the reference -/
def zTt (k m : am_M) : Prop := m 189 5 = k 1 1 ∧ zN (k 1 1) 60 ∧ ∀ j, j < zc (k 1 1) → m 192 j = k 2 j ∧ zN (k 2 j) 126 ∧ 33 ≤ zc (k 2 j)
theorem zChr_n {b : Int32} (h : zChr b) : zN b 126 ∧ 33 ≤ zc b := by
  obtain ⟨j, hj, rfl⟩ := nI_of (x := b) (fun z => absurd (Int32.le_trans h.1 (Int32.le_of_lt z)) (by decide))
  have h1 := (nI_leI (a := 33) (by decide) hj).mp h.1
  have h2 := (nI_leI (b := 126) hj (by decide)).mp h.2
  exact ⟨zN_i h2 hj, by rw [zc_i hj]; exact h1⟩
theorem zTt.add {k m : am_M} {b : Int32} {L : Nat} (h : zTt k m) (hb : zChr b) (hL : k 1 1 = nI L) (h60 : L < 60) : zTt (lAdd k 1 b) (am_up (am_up m 189 5 (m 189 5 + 1)) 192 (m 189 5).toNatClampNeg b) ∧ lAdd k 1 b 1 1 = nI (L + 1) := by
  obtain ⟨h1, h2, h3⟩ := h
  have e : lAdd k 1 b = am_up (am_up k 2 L b) 1 1 (nI (L + 1)) := by
    unfold lAdd
    rw [hL, if_neg (nI_pos (by omega)), show am_len (1 + 1) = 60 from len_l_text, if_neg (nI_ge h60 (by decide)), nI_1, nI_clamp (by omega)]
  have e11 : lAdd k 1 b 1 1 = nI (L + 1) := by rw [e, zup_ss]
  have zL : zc (nI L) = L := zc_i (by omega)
  refine ⟨⟨?_, ?_, fun j hj => ?_⟩, e11⟩
  · rw [e11, zup_n _ _ (by decide), zup_ss, h1, hL, nI_1]
  · rw [e11]; exact zN_i (by omega) (by omega)
  · rw [e11, zc_i (by omega)] at hj
    rw [h1, hL, nI_clamp (by omega), zup_s, zup_n _ _ (by decide), e, zup_n _ _ (by decide), zup_s]
    by_cases c : j = L
    · subst c
      rw [pk_us, pk_us]
      exact ⟨rfl, zChr_n hb⟩
    · rw [pk_un c, pk_un c]
      exact h3 j (by rw [hL, zL]; omega)
theorem zTt.adds : ∀ (bs : List Int32) {k m : am_M} {L : Nat}, zTt k m → (∀ b ∈ bs, zChr b) → k 1 1 = nI L → L + bs.length ≤ 60 → zTt (zPc bs k) (zPm bs m) ∧ zPc bs k 1 1 = nI (L + bs.length) := by
  intro bs
  induction bs with
  | nil => intro k m L h _ hL _; exact ⟨h, hL⟩
  | cons b r ih =>
    intro k m L h hb hL hl
    rw [List.length_cons] at hl
    obtain ⟨a1, a2⟩ := h.add (hb b List.mem_cons_self) hL (by omega)
    obtain ⟨i1, i2⟩ := ih a1 (fun c hc => hb c (List.mem_cons_of_mem _ hc)) a2 (by omega)
    refine ⟨i1, ?_⟩
    rw [List.length_cons, show L + (r.length + 1) = L + 1 + r.length from by omega]
    exact i2
-- the class's loop
set_option maxRecDepth 20000 in
theorem lc_append (hm : ∀ pc, am_mono (am_lk cl_X11_append pc)) {n : Int32} : ∀ k (σ : am_M), k ≤ 4 → am_Wp (am_lk cl_X11_append) 80 [(0, .ref 0)] [] (zPc (zBl n k) σ) R → am_Wp (am_lk cl_X11_append) 47 [(0, .ref 0), (1, .int n), (3, .int (zSf k))] [] σ R := by
  intro k
  induction k with
  | zero =>
    intro σ _ h
    refine am_go hm (fun p => Nat.beq p 80) 20 ?_
    refine am_ite (fun _ => ?_) (fun z => absurd zSf_0 z)
    exact am_Wp.sub hm (am_le_of (List.forall_mem_cons.mpr ⟨rfl, fun _ q => by cases q⟩)) h
  | succ k ih =>
    intro σ hk h
    obtain ⟨s1, s2⟩ := zSf_s (k := k) (by omega)
    have nx : ∀ (τ : am_M) ls, am_Wp (am_lk cl_X11_append) 80 [(0, .ref 0)] [] (zPc (zBl n k) τ) R → (∀ q ∈ ([(0, .ref 0), (1, .int n), (3, .int (zSf (k + 1)))] : am_L), am_lv ls q.1 = some q.2) → am_Wp (am_lk cl_X11_append) 74 ls [] τ R := by
      intro τ ls h hl
      refine am_Wp.sub hm (am_le_of hl) (am_go hm (fun p => Nat.beq p 47) 20 ?_)
      refine am_Wp.sub hm (ls := [(0, .ref 0), (1, .int n), (3, .int (zSf k))]) (am_le_of (List.forall_mem_cons.mpr ⟨rfl, List.forall_mem_cons.mpr ⟨rfl, List.forall_mem_cons.mpr ⟨by rw [← s1]; rfl, fun _ q => by cases q⟩⟩⟩)) ?_
      exact ih τ (by omega) h
    refine am_go hm (fun p => Nat.beq p 80 || Nat.beq p 74) 20 ?_
    refine am_ite (fun z => absurd z s2) (fun _ => ?_)
    have eB : zBl n (k + 1) = if zBy n (zSf (k + 1)) = 0 then zBl n k else zBy n (zSf (k + 1)) :: zBl n k := rfl
    rw [eB] at h
    refine am_ite (fun e => ?_) (fun e => ?_)
    · have e : zBy n (zSf (k + 1)) = 0 := e
      rw [if_pos e] at h
      exact nx σ _ h (List.forall_mem_cons.mpr ⟨rfl, List.forall_mem_cons.mpr ⟨rfl, List.forall_mem_cons.mpr ⟨rfl, fun _ q => by cases q⟩⟩⟩)
    · have e : ¬ zBy n (zSf (k + 1)) = 0 := e
      rw [if_neg e] at h
      exact nx (lAdd σ 1 (zBy n (zSf (k + 1)))) _ h (List.forall_mem_cons.mpr ⟨rfl, List.forall_mem_cons.mpr ⟨rfl, List.forall_mem_cons.mpr ⟨rfl, fun _ q => by cases q⟩⟩⟩)
theorem lay_192 : am_lay[192]? = some (.inl 60) := by decide +kernel
set_option maxRecDepth 20000 in
theorem l_append2 {n : Int32} : ∀ k (σ : am_M) (L : Nat), k ≤ 4 → σ 189 5 = nI L → L + (zBl n k).length ≤ 60 → am_Wp (am_lk cl_X12_append) 121 [(0, .ref 189)] [] (zPm (zBl n k) σ) R → am_Wp (am_lk cl_X12_append) 78 [(0, .ref 189), (1, .int n), (3, .int (zSf k))] [] σ R := by
  intro k
  induction k with
  | zero =>
    intro σ L _ _ _ h
    refine am_go hm_X12_append (fun p => Nat.beq p 121) 20 ?_
    refine am_ite (fun _ => ?_) (fun z => absurd zSf_0 z)
    exact am_Wp.sub hm_X12_append (am_le_of (List.forall_mem_cons.mpr ⟨rfl, fun _ q => by cases q⟩)) h
  | succ k ih =>
    intro σ L hk hL hl h
    obtain ⟨s1, s2⟩ := zSf_s (k := k) (by omega)
    have eB : zBl n (k + 1) = if zBy n (zSf (k + 1)) = 0 then zBl n k else zBy n (zSf (k + 1)) :: zBl n k := rfl
    rw [eB] at h hl
    have nx : ∀ (τ : am_M) (L : Nat) ls, τ 189 5 = nI L → L + (zBl n k).length ≤ 60 → am_Wp (am_lk cl_X12_append) 121 [(0, .ref 189)] [] (zPm (zBl n k) τ) R → (∀ q ∈ ([(0, .ref 189), (1, .int n), (3, .int (zSf (k + 1)))] : am_L), am_lv ls q.1 = some q.2) → am_Wp (am_lk cl_X12_append) 115 ls [] τ R := by
      intro τ L ls hL hl h hle
      refine am_Wp.sub hm_X12_append (am_le_of hle) (am_go hm_X12_append (fun p => Nat.beq p 78) 20 ?_)
      refine am_Wp.sub hm_X12_append (ls := [(0, .ref 189), (1, .int n), (3, .int (zSf k))]) (am_le_of (List.forall_mem_cons.mpr ⟨rfl, List.forall_mem_cons.mpr ⟨rfl, List.forall_mem_cons.mpr ⟨by rw [← s1]; rfl, fun _ q => by cases q⟩⟩⟩)) ?_
      exact ih τ L (by omega) hL hl h
    refine am_go hm_X12_append (fun p => Nat.beq p 121 || Nat.beq p 115 || Nat.beq p 92) 20 ?_
    refine am_ite (fun z => absurd z s2) (fun _ => ?_)
    refine am_ite (fun e => ?_) (fun e => ?_)
    · have e : zBy n (zSf (k + 1)) = 0 := e
      rw [if_pos e] at h hl
      exact nx σ L _ hL hl h (List.forall_mem_cons.mpr ⟨rfl, List.forall_mem_cons.mpr ⟨rfl, List.forall_mem_cons.mpr ⟨rfl, fun _ q => by cases q⟩⟩⟩)
    · have e : ¬ zBy n (zSf (k + 1)) = 0 := e
      rw [if_neg e] at h hl
      rw [List.length_cons] at hl
      refine am_go hm_X12_append (fun p => Nat.beq p 114) 20 ?_
      refine wa_st hm_X12_append lay_192 rfl (by rw [hL]; exact nI_in (by omega) (by decide)) ?_
      refine nx (am_up (am_up σ 189 5 (σ 189 5 + 1)) 192 (σ 189 5).toNatClampNeg (zBy n (zSf (k + 1)))) (L + 1) _ ?_ (by omega) h (List.forall_mem_cons.mpr ⟨rfl, List.forall_mem_cons.mpr ⟨rfl, List.forall_mem_cons.mpr ⟨rfl, fun _ q => by cases q⟩⟩⟩)
      rw [zup_n _ _ (by decide), zup_ss, hL, nI_1]
set_option maxRecDepth 20000 in
theorem c_append (hm : ∀ pc, am_mono (am_lk cl_X11_append pc)) {N : Nat} {n : Int32} (h : zAll N σ) : zCall [0, 1] sp_X11_append sp_X12_append [.int n] (N + 100) σ := by
  obtain ⟨t1, t2, t3, t4⟩ := h.2.2.2
  have eL := t3.1
  have l60 := t3.2
  have hd : ∀ (τ : am_M) (Rr : am_R), (zByc n 4 0 = none → Rr (some (.int 0)) (am_up (am_up τ 189 0 0) 189 0 1)) → (∀ d, zByc n 4 0 = some d → am_Wp (am_lk cl_X12_append) 58 [(0, .ref 189), (1, .int n), (2, .int (nI d))] [] (am_up τ 189 0 0) Rr) → sp_X12_append [.ref 189, .int n] τ Rr := by
    intro τ Rr h0 h1
    refine ⟨rfl, am_go hm_X12_append (fun p => Nat.beq p 10) 20 ?_⟩
    exact am_Wp.sub hm_X12_append (am_le_of (List.forall_mem_cons.mpr ⟨rfl, List.forall_mem_cons.mpr ⟨rfl, List.forall_mem_cons.mpr ⟨rfl, List.forall_mem_cons.mpr ⟨rfl, fun _ q => by cases q⟩⟩⟩⟩)) (l_append1 4 0 (by decide) h0 h1)
  have thr : ∀ t b, am_up (am_up σ 189 0 0) 189 0 t = am_ua (am_up σ 189 0 t) 190 (σ 190) ∧ b = b := fun t b => ⟨by
    rw [am_up_up]
    have z := am_ua_me (am_up σ 189 0 t) 190
    rw [zup_n _ _ (by decide)] at z
    exact z.symm, (rfl : (b : Nat) = b)⟩
  refine ⟨rfl, am_go hm (fun p => Nat.beq p 10 || Nat.beq p 20) 20 ?_⟩
  refine y_countC ?_
  cases hz : zByc n 4 0 with
  | none =>
    refine am_ite (fun _ => ?_) (fun z => absurd rfl z)
    refine am_go hm (fun _ => false) 20 ?_
    refine hd σ _ (fun _ => ?_) (fun d hd => by rw [hz] at hd; cases hd)
    rw [(thr 1 0).1]
    exact zRes.th (n := 0) (j := 0) h rfl rfl
  | some d =>
    obtain ⟨e1, e2⟩ := zByc_l 4 0 d hz
    rw [Nat.zero_add] at e1
    have len4 : (zBl n 4).length ≤ 4 := by
      have : ∀ k, (zBl n k).length ≤ k := by
        intro k
        induction k with
        | zero => exact Nat.le_refl _
        | succ k ih =>
          unfold zBl
          split
          · omega
          · rw [List.length_cons]; omega
      exact this 4
    refine am_ite (fun z => absurd z (nI_m1 (by omega))) (fun _ => ?_)
    refine am_go hm (fun p => Nat.beq p 34 || Nat.beq p 44) 20 ?_
    by_cases c : zc (σ 1 1) + d ≤ 60
    · have cI : lSize σ 1 + nI d ≤ 60 := by
        show σ 1 1 + nI d ≤ 60
        rw [eL, nI_add]
        exact nI_le (b := 60) c (by decide)
      refine am_ite (fun _ => ?_) (fun z => absurd cI z)
      refine am_go hm (fun p => Nat.beq p 47) 20 ?_
      refine am_Wp.sub hm (ls := [(0, .ref 0), (1, .int n), (3, .int (zSf 4))]) (am_le_of (List.forall_mem_cons.mpr ⟨rfl, List.forall_mem_cons.mpr ⟨rfl, List.forall_mem_cons.mpr ⟨rfl, fun _ q => by cases q⟩⟩⟩)) ?_
      refine lc_append hm 4 σ (by decide) ?_
      refine am_go hm (fun _ => false) 20 ?_
      refine hd _ _ (fun z => by rw [hz] at z; cases z) (fun d1 hd1 => ?_)
      have ed : d1 = d := by rw [hz] at hd1; cases hd1; rfl
      subst ed
      have T0 : zTt σ (am_up (zPc (zBl n 4) σ) 189 0 0) := by
        have w : ∀ j, j ≠ 0 → am_up (zPc (zBl n 4) σ) 189 0 0 189 j = σ 189 j := fun j hj => by rw [zup_sn _ hj, zPc_n (by decide)]
        refine ⟨by rw [w 5 (by decide)]; exact t2, t3, fun j hj => ?_⟩
        rw [zup_n _ _ (by decide), zPc_n (by decide)]
        exact t4 j hj
      obtain ⟨T1, T2⟩ := zTt.adds (zBl n 4) T0 e2 eL (by omega)
      have g5 : am_up (zPc (zBl n 4) σ) 189 0 0 189 5 = nI (zc (σ 1 1)) := T0.1.trans eL
      have c2 : am_up (zPc (zBl n 4) σ) 189 0 0 189 5 + nI d1 ≤ 60 := by
        rw [g5, nI_add]
        exact nI_le (b := 60) c (by decide)
      refine am_go hm_X12_append (fun p => Nat.beq p 69 || Nat.beq p 75) 20 ?_
      refine am_ite (fun _ => ?_) (fun z => absurd c2 z)
      refine am_go hm_X12_append (fun p => Nat.beq p 78) 20 ?_
      refine am_Wp.sub hm_X12_append (ls := [(0, .ref 189), (1, .int n), (3, .int (zSf 4))]) (am_le_of (List.forall_mem_cons.mpr ⟨rfl, List.forall_mem_cons.mpr ⟨rfl, List.forall_mem_cons.mpr ⟨rfl, fun _ q => by cases q⟩⟩⟩)) ?_
      refine l_append2 4 _ _ (by decide) g5 (by omega) ?_
      refine am_go hm_X12_append (fun _ => false) 20 ?_
      generalize hF : zPm (zBl n 4) (am_up (zPc (zBl n 4) σ) 189 0 0) = F at T1
      have fn : ∀ a, a ≠ 189 → a ≠ 192 → a ≠ 1 → a ≠ 2 → F a = σ a := fun a h1 h2 h3 h4 => by rw [← hF, zPm_n ⟨h1, h2⟩, zup_n _ _ h1, zPc_n ⟨h3, h4⟩]
      have fc : ∀ a, a ≠ 189 → a ≠ 192 → F a = zPc (zBl n 4) σ a := fun a h1 h2 => by rw [← hF, zPm_n ⟨h1, h2⟩, zup_n _ _ h1]
      have fj : ∀ j, j ≠ 5 → j ≠ 0 → F 189 j = σ 189 j := fun j h5 h0 => by rw [← hF, zPm_j h5, zup_sn _ h0, zPc_n (by decide)]
      have f0 : F 189 0 = 0 := by rw [← hF, zPm_j (by decide), zup_ss]
      refine ⟨Or.inl ⟨lSize (zPc (zBl n 4) σ) 1, rfl, by rw [T1.1]; rfl, f0⟩, ?_⟩
      refine ⟨(h.1.N (by omega)).lo (fun a ha => fn a (by omega) (by omega) (by omega) (by omega)), ?_, h.2.2.1.hi (by omega) (fj 3 (by decide) (by decide)) (by rw [fn 0 (by decide) (by decide) (by decide) (by decide)]) (fun a h1 h2 => fn a (by omega) (by omega) (by omega) (by omega)) (fn 191 (by decide) (by decide) (by decide) (by decide)), ?_⟩
      · rw [fn 190 (by decide) (by decide) (by decide) (by decide)]
        exact h.2.1.lo (fun a ha => fn a (by omega) (by omega) (by omega) (by omega))
      · unfold zTx
        rw [fc 1 (by decide) (by decide), fc 2 (by decide) (by decide), fj 6 (by decide) (by decide), fn 0 (by decide) (by decide) (by decide) (by decide)]
        exact ⟨t1, T1⟩
    · have cI : ¬ lSize σ 1 + nI d ≤ 60 := by
        show ¬ σ 1 1 + nI d ≤ 60
        rw [eL, nI_add]
        exact nI_ge (a := 60) (by omega) (by omega)
      refine am_ite (fun z => absurd z cI) (fun _ => ?_)
      refine am_go hm (fun _ => false) 20 ?_
      refine hd σ _ (fun z => by rw [hz] at z; cases z) (fun d1 hd1 => ?_)
      have ed : d1 = d := by rw [hz] at hd1; cases hd1; rfl
      subst ed
      have c2 : ¬ am_up σ 189 0 0 189 5 + nI d1 ≤ 60 := by
        rw [zup_sn _ (by decide), t2]
        exact cI
      refine am_go hm_X12_append (fun p => Nat.beq p 74 || Nat.beq p 75) 20 ?_
      refine am_ite (fun z => absurd z c2) (fun _ => ?_)
      refine y_raises ?_
      refine am_go hm_X12_append (fun _ => false) 20 ?_
      rw [(thr 2 0).1]
      exact zRes.th (n := 1) (j := 1) h rfl rfl
end ZCO
