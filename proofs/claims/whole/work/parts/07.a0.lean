/-! combinators of specs (written by program: wip/whole/gen_comb.py) -/
def am_cr0 (ci : Nat) (f0 : am_M → Nat → Int32) : am_S := fun av σ R => match av with
  | [.ref k] => bif am_isC ci k then R (some (.int (f0 σ k))) σ else False
  | _ => False
theorem am_cr0_mono (ci : Nat) (f0 : am_M → Nat → Int32) : am_mS (am_cr0 ci f0) := by
  intro av σ R R' h hs
  unfold am_cr0 at hs ⊢
  split at hs
  · rename_i k
    try dsimp only
    cases hb : am_isC ci k with
    | false => rw [hb] at hs; exact hs.elim
    | true => rw [hb] at hs; exact h _ _ hs
  · exact hs.elim
theorem am_cr0_elim {ci : Nat} {f0 : am_M → Nat → Int32} {av : List Value} {σ : am_M} {R : am_R} (hs : am_cr0 ci f0 av σ R) : ∃ k, av = [.ref k] ∧ am_isC ci k = true ∧ R (some (.int (f0 σ k))) σ := by
  unfold am_cr0 at hs
  split at hs
  · rename_i k
    cases hb : am_isC ci k with
    | false => rw [hb] at hs; exact hs.elim
    | true => rw [hb] at hs; exact ⟨k, rfl, hb, hs⟩
  · exact hs.elim
theorem am_cr0_in {ci : Nat} {f0 : am_M → Nat → Int32} {k : Nat} {σ : am_M} {R : am_R} (hb : am_isC ci k = true) (h : R (some (.int (f0 σ k))) σ) : am_cr0 ci f0 [.ref k] σ R := by
  unfold am_cr0
  dsimp only
  rw [hb]
  exact h
def am_cr1 (ci : Nat) (f0 : am_M → Nat → Int32 → Int32) : am_S := fun av σ R => match av with
  | [.ref k, .int a] => bif am_isC ci k then R (some (.int (f0 σ k a))) σ else False
  | _ => False
theorem am_cr1_mono (ci : Nat) (f0 : am_M → Nat → Int32 → Int32) : am_mS (am_cr1 ci f0) := by
  intro av σ R R' h hs
  unfold am_cr1 at hs ⊢
  split at hs
  · rename_i k a
    try dsimp only
    cases hb : am_isC ci k with
    | false => rw [hb] at hs; exact hs.elim
    | true => rw [hb] at hs; exact h _ _ hs
  · exact hs.elim
theorem am_cr1_elim {ci : Nat} {f0 : am_M → Nat → Int32 → Int32} {av : List Value} {σ : am_M} {R : am_R} (hs : am_cr1 ci f0 av σ R) : ∃ k a, av = [.ref k, .int a] ∧ am_isC ci k = true ∧ R (some (.int (f0 σ k a))) σ := by
  unfold am_cr1 at hs
  split at hs
  · rename_i k a
    cases hb : am_isC ci k with
    | false => rw [hb] at hs; exact hs.elim
    | true => rw [hb] at hs; exact ⟨k, a, rfl, hb, hs⟩
  · exact hs.elim
theorem am_cr1_in {ci : Nat} {f0 : am_M → Nat → Int32 → Int32} {k : Nat} {a : Int32} {σ : am_M} {R : am_R} (hb : am_isC ci k = true) (h : R (some (.int (f0 σ k a))) σ) : am_cr1 ci f0 [.ref k, .int a] σ R := by
  unfold am_cr1
  dsimp only
  rw [hb]
  exact h
def am_cr2 (ci : Nat) (f0 : am_M → Nat → Int32 → Int32 → Int32) : am_S := fun av σ R => match av with
  | [.ref k, .int a, .int b] => bif am_isC ci k then R (some (.int (f0 σ k a b))) σ else False
  | _ => False
theorem am_cr2_mono (ci : Nat) (f0 : am_M → Nat → Int32 → Int32 → Int32) : am_mS (am_cr2 ci f0) := by
  intro av σ R R' h hs
  unfold am_cr2 at hs ⊢
  split at hs
  · rename_i k a b
    try dsimp only
    cases hb : am_isC ci k with
    | false => rw [hb] at hs; exact hs.elim
    | true => rw [hb] at hs; exact h _ _ hs
  · exact hs.elim
theorem am_cr2_elim {ci : Nat} {f0 : am_M → Nat → Int32 → Int32 → Int32} {av : List Value} {σ : am_M} {R : am_R} (hs : am_cr2 ci f0 av σ R) : ∃ k a b, av = [.ref k, .int a, .int b] ∧ am_isC ci k = true ∧ R (some (.int (f0 σ k a b))) σ := by
  unfold am_cr2 at hs
  split at hs
  · rename_i k a b
    cases hb : am_isC ci k with
    | false => rw [hb] at hs; exact hs.elim
    | true => rw [hb] at hs; exact ⟨k, a, b, rfl, hb, hs⟩
  · exact hs.elim
theorem am_cr2_in {ci : Nat} {f0 : am_M → Nat → Int32 → Int32 → Int32} {k : Nat} {a : Int32} {b : Int32} {σ : am_M} {R : am_R} (hb : am_isC ci k = true) (h : R (some (.int (f0 σ k a b))) σ) : am_cr2 ci f0 [.ref k, .int a, .int b] σ R := by
  unfold am_cr2
  dsimp only
  rw [hb]
  exact h
def am_cr3 (ci : Nat) (f0 : am_M → Nat → Int32 → Int32 → Int32 → Int32) : am_S := fun av σ R => match av with
  | [.ref k, .int a, .int b, .int c] => bif am_isC ci k then R (some (.int (f0 σ k a b c))) σ else False
  | _ => False
theorem am_cr3_mono (ci : Nat) (f0 : am_M → Nat → Int32 → Int32 → Int32 → Int32) : am_mS (am_cr3 ci f0) := by
  intro av σ R R' h hs
  unfold am_cr3 at hs ⊢
  split at hs
  · rename_i k a b c
    try dsimp only
    cases hb : am_isC ci k with
    | false => rw [hb] at hs; exact hs.elim
    | true => rw [hb] at hs; exact h _ _ hs
  · exact hs.elim
theorem am_cr3_elim {ci : Nat} {f0 : am_M → Nat → Int32 → Int32 → Int32 → Int32} {av : List Value} {σ : am_M} {R : am_R} (hs : am_cr3 ci f0 av σ R) : ∃ k a b c, av = [.ref k, .int a, .int b, .int c] ∧ am_isC ci k = true ∧ R (some (.int (f0 σ k a b c))) σ := by
  unfold am_cr3 at hs
  split at hs
  · rename_i k a b c
    cases hb : am_isC ci k with
    | false => rw [hb] at hs; exact hs.elim
    | true => rw [hb] at hs; exact ⟨k, a, b, c, rfl, hb, hs⟩
  · exact hs.elim
theorem am_cr3_in {ci : Nat} {f0 : am_M → Nat → Int32 → Int32 → Int32 → Int32} {k : Nat} {a : Int32} {b : Int32} {c : Int32} {σ : am_M} {R : am_R} (hb : am_isC ci k = true) (h : R (some (.int (f0 σ k a b c))) σ) : am_cr3 ci f0 [.ref k, .int a, .int b, .int c] σ R := by
  unfold am_cr3
  dsimp only
  rw [hb]
  exact h
def am_cr4 (ci : Nat) (f0 : am_M → Nat → Int32 → Int32 → Int32 → Int32 → Int32) : am_S := fun av σ R => match av with
  | [.ref k, .int a, .int b, .int c, .int d] => bif am_isC ci k then R (some (.int (f0 σ k a b c d))) σ else False
  | _ => False
theorem am_cr4_mono (ci : Nat) (f0 : am_M → Nat → Int32 → Int32 → Int32 → Int32 → Int32) : am_mS (am_cr4 ci f0) := by
  intro av σ R R' h hs
  unfold am_cr4 at hs ⊢
  split at hs
  · rename_i k a b c d
    try dsimp only
    cases hb : am_isC ci k with
    | false => rw [hb] at hs; exact hs.elim
    | true => rw [hb] at hs; exact h _ _ hs
  · exact hs.elim
theorem am_cr4_elim {ci : Nat} {f0 : am_M → Nat → Int32 → Int32 → Int32 → Int32 → Int32} {av : List Value} {σ : am_M} {R : am_R} (hs : am_cr4 ci f0 av σ R) : ∃ k a b c d, av = [.ref k, .int a, .int b, .int c, .int d] ∧ am_isC ci k = true ∧ R (some (.int (f0 σ k a b c d))) σ := by
  unfold am_cr4 at hs
  split at hs
  · rename_i k a b c d
    cases hb : am_isC ci k with
    | false => rw [hb] at hs; exact hs.elim
    | true => rw [hb] at hs; exact ⟨k, a, b, c, d, rfl, hb, hs⟩
  · exact hs.elim
theorem am_cr4_in {ci : Nat} {f0 : am_M → Nat → Int32 → Int32 → Int32 → Int32 → Int32} {k : Nat} {a : Int32} {b : Int32} {c : Int32} {d : Int32} {σ : am_M} {R : am_R} (hb : am_isC ci k = true) (h : R (some (.int (f0 σ k a b c d))) σ) : am_cr4 ci f0 [.ref k, .int a, .int b, .int c, .int d] σ R := by
  unfold am_cr4
  dsimp only
  rw [hb]
  exact h
def am_cr5 (ci : Nat) (f0 : am_M → Nat → Int32 → Int32 → Int32 → Int32 → Int32 → Int32) : am_S := fun av σ R => match av with
  | [.ref k, .int a, .int b, .int c, .int d, .int e] => bif am_isC ci k then R (some (.int (f0 σ k a b c d e))) σ else False
  | _ => False
theorem am_cr5_mono (ci : Nat) (f0 : am_M → Nat → Int32 → Int32 → Int32 → Int32 → Int32 → Int32) : am_mS (am_cr5 ci f0) := by
  intro av σ R R' h hs
  unfold am_cr5 at hs ⊢
  split at hs
  · rename_i k a b c d e
    try dsimp only
    cases hb : am_isC ci k with
    | false => rw [hb] at hs; exact hs.elim
    | true => rw [hb] at hs; exact h _ _ hs
  · exact hs.elim
theorem am_cr5_elim {ci : Nat} {f0 : am_M → Nat → Int32 → Int32 → Int32 → Int32 → Int32 → Int32} {av : List Value} {σ : am_M} {R : am_R} (hs : am_cr5 ci f0 av σ R) : ∃ k a b c d e, av = [.ref k, .int a, .int b, .int c, .int d, .int e] ∧ am_isC ci k = true ∧ R (some (.int (f0 σ k a b c d e))) σ := by
  unfold am_cr5 at hs
  split at hs
  · rename_i k a b c d e
    cases hb : am_isC ci k with
    | false => rw [hb] at hs; exact hs.elim
    | true => rw [hb] at hs; exact ⟨k, a, b, c, d, e, rfl, hb, hs⟩
  · exact hs.elim
theorem am_cr5_in {ci : Nat} {f0 : am_M → Nat → Int32 → Int32 → Int32 → Int32 → Int32 → Int32} {k : Nat} {a : Int32} {b : Int32} {c : Int32} {d : Int32} {e : Int32} {σ : am_M} {R : am_R} (hb : am_isC ci k = true) (h : R (some (.int (f0 σ k a b c d e))) σ) : am_cr5 ci f0 [.ref k, .int a, .int b, .int c, .int d, .int e] σ R := by
  unfold am_cr5
  dsimp only
  rw [hb]
  exact h
def am_cr6 (ci : Nat) (f0 : am_M → Nat → Int32 → Int32 → Int32 → Int32 → Int32 → Int32 → Int32) : am_S := fun av σ R => match av with
  | [.ref k, .int a, .int b, .int c, .int d, .int e, .int f] => bif am_isC ci k then R (some (.int (f0 σ k a b c d e f))) σ else False
  | _ => False
theorem am_cr6_mono (ci : Nat) (f0 : am_M → Nat → Int32 → Int32 → Int32 → Int32 → Int32 → Int32 → Int32) : am_mS (am_cr6 ci f0) := by
  intro av σ R R' h hs
  unfold am_cr6 at hs ⊢
  split at hs
  · rename_i k a b c d e f
    try dsimp only
    cases hb : am_isC ci k with
    | false => rw [hb] at hs; exact hs.elim
    | true => rw [hb] at hs; exact h _ _ hs
  · exact hs.elim
theorem am_cr6_elim {ci : Nat} {f0 : am_M → Nat → Int32 → Int32 → Int32 → Int32 → Int32 → Int32 → Int32} {av : List Value} {σ : am_M} {R : am_R} (hs : am_cr6 ci f0 av σ R) : ∃ k a b c d e f, av = [.ref k, .int a, .int b, .int c, .int d, .int e, .int f] ∧ am_isC ci k = true ∧ R (some (.int (f0 σ k a b c d e f))) σ := by
  unfold am_cr6 at hs
  split at hs
  · rename_i k a b c d e f
    cases hb : am_isC ci k with
    | false => rw [hb] at hs; exact hs.elim
    | true => rw [hb] at hs; exact ⟨k, a, b, c, d, e, f, rfl, hb, hs⟩
  · exact hs.elim
theorem am_cr6_in {ci : Nat} {f0 : am_M → Nat → Int32 → Int32 → Int32 → Int32 → Int32 → Int32 → Int32} {k : Nat} {a : Int32} {b : Int32} {c : Int32} {d : Int32} {e : Int32} {f : Int32} {σ : am_M} {R : am_R} (hb : am_isC ci k = true) (h : R (some (.int (f0 σ k a b c d e f))) σ) : am_cr6 ci f0 [.ref k, .int a, .int b, .int c, .int d, .int e, .int f] σ R := by
  unfold am_cr6
  dsimp only
  rw [hb]
  exact h
def am_cw0 (ci : Nat) (g0 : am_M → Nat → am_M) : am_S := fun av σ R => match av with
  | [.ref k] => bif am_isC ci k then R none (g0 σ k) else False
  | _ => False
theorem am_cw0_mono (ci : Nat) (g0 : am_M → Nat → am_M) : am_mS (am_cw0 ci g0) := by
  intro av σ R R' h hs
  unfold am_cw0 at hs ⊢
  split at hs
  · rename_i k
    try dsimp only
    cases hb : am_isC ci k with
    | false => rw [hb] at hs; exact hs.elim
    | true => rw [hb] at hs; exact h _ _ hs
  · exact hs.elim
theorem am_cw0_elim {ci : Nat} {g0 : am_M → Nat → am_M} {av : List Value} {σ : am_M} {R : am_R} (hs : am_cw0 ci g0 av σ R) : ∃ k, av = [.ref k] ∧ am_isC ci k = true ∧ R none (g0 σ k) := by
  unfold am_cw0 at hs
  split at hs
  · rename_i k
    cases hb : am_isC ci k with
    | false => rw [hb] at hs; exact hs.elim
    | true => rw [hb] at hs; exact ⟨k, rfl, hb, hs⟩
  · exact hs.elim
theorem am_cw0_in {ci : Nat} {g0 : am_M → Nat → am_M} {k : Nat} {σ : am_M} {R : am_R} (hb : am_isC ci k = true) (h : R none (g0 σ k)) : am_cw0 ci g0 [.ref k] σ R := by
  unfold am_cw0
  dsimp only
  rw [hb]
  exact h
def am_cw1 (ci : Nat) (g0 : am_M → Nat → Int32 → am_M) : am_S := fun av σ R => match av with
  | [.ref k, .int a] => bif am_isC ci k then R none (g0 σ k a) else False
  | _ => False
theorem am_cw1_mono (ci : Nat) (g0 : am_M → Nat → Int32 → am_M) : am_mS (am_cw1 ci g0) := by
  intro av σ R R' h hs
  unfold am_cw1 at hs ⊢
  split at hs
  · rename_i k a
    try dsimp only
    cases hb : am_isC ci k with
    | false => rw [hb] at hs; exact hs.elim
    | true => rw [hb] at hs; exact h _ _ hs
  · exact hs.elim
theorem am_cw1_elim {ci : Nat} {g0 : am_M → Nat → Int32 → am_M} {av : List Value} {σ : am_M} {R : am_R} (hs : am_cw1 ci g0 av σ R) : ∃ k a, av = [.ref k, .int a] ∧ am_isC ci k = true ∧ R none (g0 σ k a) := by
  unfold am_cw1 at hs
  split at hs
  · rename_i k a
    cases hb : am_isC ci k with
    | false => rw [hb] at hs; exact hs.elim
    | true => rw [hb] at hs; exact ⟨k, a, rfl, hb, hs⟩
  · exact hs.elim
theorem am_cw1_in {ci : Nat} {g0 : am_M → Nat → Int32 → am_M} {k : Nat} {a : Int32} {σ : am_M} {R : am_R} (hb : am_isC ci k = true) (h : R none (g0 σ k a)) : am_cw1 ci g0 [.ref k, .int a] σ R := by
  unfold am_cw1
  dsimp only
  rw [hb]
  exact h
def am_cw2 (ci : Nat) (g0 : am_M → Nat → Int32 → Int32 → am_M) : am_S := fun av σ R => match av with
  | [.ref k, .int a, .int b] => bif am_isC ci k then R none (g0 σ k a b) else False
  | _ => False
theorem am_cw2_mono (ci : Nat) (g0 : am_M → Nat → Int32 → Int32 → am_M) : am_mS (am_cw2 ci g0) := by
  intro av σ R R' h hs
  unfold am_cw2 at hs ⊢
  split at hs
  · rename_i k a b
    try dsimp only
    cases hb : am_isC ci k with
    | false => rw [hb] at hs; exact hs.elim
    | true => rw [hb] at hs; exact h _ _ hs
  · exact hs.elim
theorem am_cw2_elim {ci : Nat} {g0 : am_M → Nat → Int32 → Int32 → am_M} {av : List Value} {σ : am_M} {R : am_R} (hs : am_cw2 ci g0 av σ R) : ∃ k a b, av = [.ref k, .int a, .int b] ∧ am_isC ci k = true ∧ R none (g0 σ k a b) := by
  unfold am_cw2 at hs
  split at hs
  · rename_i k a b
    cases hb : am_isC ci k with
    | false => rw [hb] at hs; exact hs.elim
    | true => rw [hb] at hs; exact ⟨k, a, b, rfl, hb, hs⟩
  · exact hs.elim
theorem am_cw2_in {ci : Nat} {g0 : am_M → Nat → Int32 → Int32 → am_M} {k : Nat} {a : Int32} {b : Int32} {σ : am_M} {R : am_R} (hb : am_isC ci k = true) (h : R none (g0 σ k a b)) : am_cw2 ci g0 [.ref k, .int a, .int b] σ R := by
  unfold am_cw2
  dsimp only
  rw [hb]
  exact h
def am_cw3 (ci : Nat) (g0 : am_M → Nat → Int32 → Int32 → Int32 → am_M) : am_S := fun av σ R => match av with
  | [.ref k, .int a, .int b, .int c] => bif am_isC ci k then R none (g0 σ k a b c) else False
  | _ => False
theorem am_cw3_mono (ci : Nat) (g0 : am_M → Nat → Int32 → Int32 → Int32 → am_M) : am_mS (am_cw3 ci g0) := by
  intro av σ R R' h hs
  unfold am_cw3 at hs ⊢
  split at hs
  · rename_i k a b c
    try dsimp only
    cases hb : am_isC ci k with
    | false => rw [hb] at hs; exact hs.elim
    | true => rw [hb] at hs; exact h _ _ hs
  · exact hs.elim
theorem am_cw3_elim {ci : Nat} {g0 : am_M → Nat → Int32 → Int32 → Int32 → am_M} {av : List Value} {σ : am_M} {R : am_R} (hs : am_cw3 ci g0 av σ R) : ∃ k a b c, av = [.ref k, .int a, .int b, .int c] ∧ am_isC ci k = true ∧ R none (g0 σ k a b c) := by
  unfold am_cw3 at hs
  split at hs
  · rename_i k a b c
    cases hb : am_isC ci k with
    | false => rw [hb] at hs; exact hs.elim
    | true => rw [hb] at hs; exact ⟨k, a, b, c, rfl, hb, hs⟩
  · exact hs.elim
theorem am_cw3_in {ci : Nat} {g0 : am_M → Nat → Int32 → Int32 → Int32 → am_M} {k : Nat} {a : Int32} {b : Int32} {c : Int32} {σ : am_M} {R : am_R} (hb : am_isC ci k = true) (h : R none (g0 σ k a b c)) : am_cw3 ci g0 [.ref k, .int a, .int b, .int c] σ R := by
  unfold am_cw3
  dsimp only
  rw [hb]
  exact h
def am_cw4 (ci : Nat) (g0 : am_M → Nat → Int32 → Int32 → Int32 → Int32 → am_M) : am_S := fun av σ R => match av with
  | [.ref k, .int a, .int b, .int c, .int d] => bif am_isC ci k then R none (g0 σ k a b c d) else False
  | _ => False
theorem am_cw4_mono (ci : Nat) (g0 : am_M → Nat → Int32 → Int32 → Int32 → Int32 → am_M) : am_mS (am_cw4 ci g0) := by
  intro av σ R R' h hs
  unfold am_cw4 at hs ⊢
  split at hs
  · rename_i k a b c d
    try dsimp only
    cases hb : am_isC ci k with
    | false => rw [hb] at hs; exact hs.elim
    | true => rw [hb] at hs; exact h _ _ hs
  · exact hs.elim
theorem am_cw4_elim {ci : Nat} {g0 : am_M → Nat → Int32 → Int32 → Int32 → Int32 → am_M} {av : List Value} {σ : am_M} {R : am_R} (hs : am_cw4 ci g0 av σ R) : ∃ k a b c d, av = [.ref k, .int a, .int b, .int c, .int d] ∧ am_isC ci k = true ∧ R none (g0 σ k a b c d) := by
  unfold am_cw4 at hs
  split at hs
  · rename_i k a b c d
    cases hb : am_isC ci k with
    | false => rw [hb] at hs; exact hs.elim
    | true => rw [hb] at hs; exact ⟨k, a, b, c, d, rfl, hb, hs⟩
  · exact hs.elim
theorem am_cw4_in {ci : Nat} {g0 : am_M → Nat → Int32 → Int32 → Int32 → Int32 → am_M} {k : Nat} {a : Int32} {b : Int32} {c : Int32} {d : Int32} {σ : am_M} {R : am_R} (hb : am_isC ci k = true) (h : R none (g0 σ k a b c d)) : am_cw4 ci g0 [.ref k, .int a, .int b, .int c, .int d] σ R := by
  unfold am_cw4
  dsimp only
  rw [hb]
  exact h
def am_cw5 (ci : Nat) (g0 : am_M → Nat → Int32 → Int32 → Int32 → Int32 → Int32 → am_M) : am_S := fun av σ R => match av with
  | [.ref k, .int a, .int b, .int c, .int d, .int e] => bif am_isC ci k then R none (g0 σ k a b c d e) else False
  | _ => False
theorem am_cw5_mono (ci : Nat) (g0 : am_M → Nat → Int32 → Int32 → Int32 → Int32 → Int32 → am_M) : am_mS (am_cw5 ci g0) := by
  intro av σ R R' h hs
  unfold am_cw5 at hs ⊢
  split at hs
  · rename_i k a b c d e
    try dsimp only
    cases hb : am_isC ci k with
    | false => rw [hb] at hs; exact hs.elim
    | true => rw [hb] at hs; exact h _ _ hs
  · exact hs.elim
theorem am_cw5_elim {ci : Nat} {g0 : am_M → Nat → Int32 → Int32 → Int32 → Int32 → Int32 → am_M} {av : List Value} {σ : am_M} {R : am_R} (hs : am_cw5 ci g0 av σ R) : ∃ k a b c d e, av = [.ref k, .int a, .int b, .int c, .int d, .int e] ∧ am_isC ci k = true ∧ R none (g0 σ k a b c d e) := by
  unfold am_cw5 at hs
  split at hs
  · rename_i k a b c d e
    cases hb : am_isC ci k with
    | false => rw [hb] at hs; exact hs.elim
    | true => rw [hb] at hs; exact ⟨k, a, b, c, d, e, rfl, hb, hs⟩
  · exact hs.elim
theorem am_cw5_in {ci : Nat} {g0 : am_M → Nat → Int32 → Int32 → Int32 → Int32 → Int32 → am_M} {k : Nat} {a : Int32} {b : Int32} {c : Int32} {d : Int32} {e : Int32} {σ : am_M} {R : am_R} (hb : am_isC ci k = true) (h : R none (g0 σ k a b c d e)) : am_cw5 ci g0 [.ref k, .int a, .int b, .int c, .int d, .int e] σ R := by
  unfold am_cw5
  dsimp only
  rw [hb]
  exact h
def am_cw6 (ci : Nat) (g0 : am_M → Nat → Int32 → Int32 → Int32 → Int32 → Int32 → Int32 → am_M) : am_S := fun av σ R => match av with
  | [.ref k, .int a, .int b, .int c, .int d, .int e, .int f] => bif am_isC ci k then R none (g0 σ k a b c d e f) else False
  | _ => False
theorem am_cw6_mono (ci : Nat) (g0 : am_M → Nat → Int32 → Int32 → Int32 → Int32 → Int32 → Int32 → am_M) : am_mS (am_cw6 ci g0) := by
  intro av σ R R' h hs
  unfold am_cw6 at hs ⊢
  split at hs
  · rename_i k a b c d e f
    try dsimp only
    cases hb : am_isC ci k with
    | false => rw [hb] at hs; exact hs.elim
    | true => rw [hb] at hs; exact h _ _ hs
  · exact hs.elim
theorem am_cw6_elim {ci : Nat} {g0 : am_M → Nat → Int32 → Int32 → Int32 → Int32 → Int32 → Int32 → am_M} {av : List Value} {σ : am_M} {R : am_R} (hs : am_cw6 ci g0 av σ R) : ∃ k a b c d e f, av = [.ref k, .int a, .int b, .int c, .int d, .int e, .int f] ∧ am_isC ci k = true ∧ R none (g0 σ k a b c d e f) := by
  unfold am_cw6 at hs
  split at hs
  · rename_i k a b c d e f
    cases hb : am_isC ci k with
    | false => rw [hb] at hs; exact hs.elim
    | true => rw [hb] at hs; exact ⟨k, a, b, c, d, e, f, rfl, hb, hs⟩
  · exact hs.elim
theorem am_cw6_in {ci : Nat} {g0 : am_M → Nat → Int32 → Int32 → Int32 → Int32 → Int32 → Int32 → am_M} {k : Nat} {a : Int32} {b : Int32} {c : Int32} {d : Int32} {e : Int32} {f : Int32} {σ : am_M} {R : am_R} (hb : am_isC ci k = true) (h : R none (g0 σ k a b c d e f)) : am_cw6 ci g0 [.ref k, .int a, .int b, .int c, .int d, .int e, .int f] σ R := by
  unfold am_cw6
  dsimp only
  rw [hb]
  exact h
def am_cb0 (ci : Nat) (f0 : am_M → Nat → Int32) (g0 : am_M → Nat → am_M) : am_S := fun av σ R => match av with
  | [.ref k] => bif am_isC ci k then R (some (.int (f0 σ k))) (g0 σ k) else False
  | _ => False
theorem am_cb0_mono (ci : Nat) (f0 : am_M → Nat → Int32) (g0 : am_M → Nat → am_M) : am_mS (am_cb0 ci f0 g0) := by
  intro av σ R R' h hs
  unfold am_cb0 at hs ⊢
  split at hs
  · rename_i k
    try dsimp only
    cases hb : am_isC ci k with
    | false => rw [hb] at hs; exact hs.elim
    | true => rw [hb] at hs; exact h _ _ hs
  · exact hs.elim
theorem am_cb0_elim {ci : Nat} {f0 : am_M → Nat → Int32} {g0 : am_M → Nat → am_M} {av : List Value} {σ : am_M} {R : am_R} (hs : am_cb0 ci f0 g0 av σ R) : ∃ k, av = [.ref k] ∧ am_isC ci k = true ∧ R (some (.int (f0 σ k))) (g0 σ k) := by
  unfold am_cb0 at hs
  split at hs
  · rename_i k
    cases hb : am_isC ci k with
    | false => rw [hb] at hs; exact hs.elim
    | true => rw [hb] at hs; exact ⟨k, rfl, hb, hs⟩
  · exact hs.elim
theorem am_cb0_in {ci : Nat} {f0 : am_M → Nat → Int32} {g0 : am_M → Nat → am_M} {k : Nat} {σ : am_M} {R : am_R} (hb : am_isC ci k = true) (h : R (some (.int (f0 σ k))) (g0 σ k)) : am_cb0 ci f0 g0 [.ref k] σ R := by
  unfold am_cb0
  dsimp only
  rw [hb]
  exact h
def am_cb1 (ci : Nat) (f0 : am_M → Nat → Int32 → Int32) (g0 : am_M → Nat → Int32 → am_M) : am_S := fun av σ R => match av with
  | [.ref k, .int a] => bif am_isC ci k then R (some (.int (f0 σ k a))) (g0 σ k a) else False
  | _ => False
theorem am_cb1_mono (ci : Nat) (f0 : am_M → Nat → Int32 → Int32) (g0 : am_M → Nat → Int32 → am_M) : am_mS (am_cb1 ci f0 g0) := by
  intro av σ R R' h hs
  unfold am_cb1 at hs ⊢
  split at hs
  · rename_i k a
    try dsimp only
    cases hb : am_isC ci k with
    | false => rw [hb] at hs; exact hs.elim
    | true => rw [hb] at hs; exact h _ _ hs
  · exact hs.elim
theorem am_cb1_elim {ci : Nat} {f0 : am_M → Nat → Int32 → Int32} {g0 : am_M → Nat → Int32 → am_M} {av : List Value} {σ : am_M} {R : am_R} (hs : am_cb1 ci f0 g0 av σ R) : ∃ k a, av = [.ref k, .int a] ∧ am_isC ci k = true ∧ R (some (.int (f0 σ k a))) (g0 σ k a) := by
  unfold am_cb1 at hs
  split at hs
  · rename_i k a
    cases hb : am_isC ci k with
    | false => rw [hb] at hs; exact hs.elim
    | true => rw [hb] at hs; exact ⟨k, a, rfl, hb, hs⟩
  · exact hs.elim
theorem am_cb1_in {ci : Nat} {f0 : am_M → Nat → Int32 → Int32} {g0 : am_M → Nat → Int32 → am_M} {k : Nat} {a : Int32} {σ : am_M} {R : am_R} (hb : am_isC ci k = true) (h : R (some (.int (f0 σ k a))) (g0 σ k a)) : am_cb1 ci f0 g0 [.ref k, .int a] σ R := by
  unfold am_cb1
  dsimp only
  rw [hb]
  exact h
def am_cb2 (ci : Nat) (f0 : am_M → Nat → Int32 → Int32 → Int32) (g0 : am_M → Nat → Int32 → Int32 → am_M) : am_S := fun av σ R => match av with
  | [.ref k, .int a, .int b] => bif am_isC ci k then R (some (.int (f0 σ k a b))) (g0 σ k a b) else False
  | _ => False
theorem am_cb2_mono (ci : Nat) (f0 : am_M → Nat → Int32 → Int32 → Int32) (g0 : am_M → Nat → Int32 → Int32 → am_M) : am_mS (am_cb2 ci f0 g0) := by
  intro av σ R R' h hs
  unfold am_cb2 at hs ⊢
  split at hs
  · rename_i k a b
    try dsimp only
    cases hb : am_isC ci k with
    | false => rw [hb] at hs; exact hs.elim
    | true => rw [hb] at hs; exact h _ _ hs
  · exact hs.elim
theorem am_cb2_elim {ci : Nat} {f0 : am_M → Nat → Int32 → Int32 → Int32} {g0 : am_M → Nat → Int32 → Int32 → am_M} {av : List Value} {σ : am_M} {R : am_R} (hs : am_cb2 ci f0 g0 av σ R) : ∃ k a b, av = [.ref k, .int a, .int b] ∧ am_isC ci k = true ∧ R (some (.int (f0 σ k a b))) (g0 σ k a b) := by
  unfold am_cb2 at hs
  split at hs
  · rename_i k a b
    cases hb : am_isC ci k with
    | false => rw [hb] at hs; exact hs.elim
    | true => rw [hb] at hs; exact ⟨k, a, b, rfl, hb, hs⟩
  · exact hs.elim
theorem am_cb2_in {ci : Nat} {f0 : am_M → Nat → Int32 → Int32 → Int32} {g0 : am_M → Nat → Int32 → Int32 → am_M} {k : Nat} {a : Int32} {b : Int32} {σ : am_M} {R : am_R} (hb : am_isC ci k = true) (h : R (some (.int (f0 σ k a b))) (g0 σ k a b)) : am_cb2 ci f0 g0 [.ref k, .int a, .int b] σ R := by
  unfold am_cb2
  dsimp only
  rw [hb]
  exact h
def am_cb3 (ci : Nat) (f0 : am_M → Nat → Int32 → Int32 → Int32 → Int32) (g0 : am_M → Nat → Int32 → Int32 → Int32 → am_M) : am_S := fun av σ R => match av with
  | [.ref k, .int a, .int b, .int c] => bif am_isC ci k then R (some (.int (f0 σ k a b c))) (g0 σ k a b c) else False
  | _ => False
theorem am_cb3_mono (ci : Nat) (f0 : am_M → Nat → Int32 → Int32 → Int32 → Int32) (g0 : am_M → Nat → Int32 → Int32 → Int32 → am_M) : am_mS (am_cb3 ci f0 g0) := by
  intro av σ R R' h hs
  unfold am_cb3 at hs ⊢
  split at hs
  · rename_i k a b c
    try dsimp only
    cases hb : am_isC ci k with
    | false => rw [hb] at hs; exact hs.elim
    | true => rw [hb] at hs; exact h _ _ hs
  · exact hs.elim
theorem am_cb3_elim {ci : Nat} {f0 : am_M → Nat → Int32 → Int32 → Int32 → Int32} {g0 : am_M → Nat → Int32 → Int32 → Int32 → am_M} {av : List Value} {σ : am_M} {R : am_R} (hs : am_cb3 ci f0 g0 av σ R) : ∃ k a b c, av = [.ref k, .int a, .int b, .int c] ∧ am_isC ci k = true ∧ R (some (.int (f0 σ k a b c))) (g0 σ k a b c) := by
  unfold am_cb3 at hs
  split at hs
  · rename_i k a b c
    cases hb : am_isC ci k with
    | false => rw [hb] at hs; exact hs.elim
    | true => rw [hb] at hs; exact ⟨k, a, b, c, rfl, hb, hs⟩
  · exact hs.elim
theorem am_cb3_in {ci : Nat} {f0 : am_M → Nat → Int32 → Int32 → Int32 → Int32} {g0 : am_M → Nat → Int32 → Int32 → Int32 → am_M} {k : Nat} {a : Int32} {b : Int32} {c : Int32} {σ : am_M} {R : am_R} (hb : am_isC ci k = true) (h : R (some (.int (f0 σ k a b c))) (g0 σ k a b c)) : am_cb3 ci f0 g0 [.ref k, .int a, .int b, .int c] σ R := by
  unfold am_cb3
  dsimp only
  rw [hb]
  exact h
def am_cb4 (ci : Nat) (f0 : am_M → Nat → Int32 → Int32 → Int32 → Int32 → Int32) (g0 : am_M → Nat → Int32 → Int32 → Int32 → Int32 → am_M) : am_S := fun av σ R => match av with
  | [.ref k, .int a, .int b, .int c, .int d] => bif am_isC ci k then R (some (.int (f0 σ k a b c d))) (g0 σ k a b c d) else False
  | _ => False
theorem am_cb4_mono (ci : Nat) (f0 : am_M → Nat → Int32 → Int32 → Int32 → Int32 → Int32) (g0 : am_M → Nat → Int32 → Int32 → Int32 → Int32 → am_M) : am_mS (am_cb4 ci f0 g0) := by
  intro av σ R R' h hs
  unfold am_cb4 at hs ⊢
  split at hs
  · rename_i k a b c d
    try dsimp only
    cases hb : am_isC ci k with
    | false => rw [hb] at hs; exact hs.elim
    | true => rw [hb] at hs; exact h _ _ hs
  · exact hs.elim
theorem am_cb4_elim {ci : Nat} {f0 : am_M → Nat → Int32 → Int32 → Int32 → Int32 → Int32} {g0 : am_M → Nat → Int32 → Int32 → Int32 → Int32 → am_M} {av : List Value} {σ : am_M} {R : am_R} (hs : am_cb4 ci f0 g0 av σ R) : ∃ k a b c d, av = [.ref k, .int a, .int b, .int c, .int d] ∧ am_isC ci k = true ∧ R (some (.int (f0 σ k a b c d))) (g0 σ k a b c d) := by
  unfold am_cb4 at hs
  split at hs
  · rename_i k a b c d
    cases hb : am_isC ci k with
    | false => rw [hb] at hs; exact hs.elim
    | true => rw [hb] at hs; exact ⟨k, a, b, c, d, rfl, hb, hs⟩
  · exact hs.elim
theorem am_cb4_in {ci : Nat} {f0 : am_M → Nat → Int32 → Int32 → Int32 → Int32 → Int32} {g0 : am_M → Nat → Int32 → Int32 → Int32 → Int32 → am_M} {k : Nat} {a : Int32} {b : Int32} {c : Int32} {d : Int32} {σ : am_M} {R : am_R} (hb : am_isC ci k = true) (h : R (some (.int (f0 σ k a b c d))) (g0 σ k a b c d)) : am_cb4 ci f0 g0 [.ref k, .int a, .int b, .int c, .int d] σ R := by
  unfold am_cb4
  dsimp only
  rw [hb]
  exact h
def am_cb5 (ci : Nat) (f0 : am_M → Nat → Int32 → Int32 → Int32 → Int32 → Int32 → Int32) (g0 : am_M → Nat → Int32 → Int32 → Int32 → Int32 → Int32 → am_M) : am_S := fun av σ R => match av with
  | [.ref k, .int a, .int b, .int c, .int d, .int e] => bif am_isC ci k then R (some (.int (f0 σ k a b c d e))) (g0 σ k a b c d e) else False
  | _ => False
theorem am_cb5_mono (ci : Nat) (f0 : am_M → Nat → Int32 → Int32 → Int32 → Int32 → Int32 → Int32) (g0 : am_M → Nat → Int32 → Int32 → Int32 → Int32 → Int32 → am_M) : am_mS (am_cb5 ci f0 g0) := by
  intro av σ R R' h hs
  unfold am_cb5 at hs ⊢
  split at hs
  · rename_i k a b c d e
    try dsimp only
    cases hb : am_isC ci k with
    | false => rw [hb] at hs; exact hs.elim
    | true => rw [hb] at hs; exact h _ _ hs
  · exact hs.elim
theorem am_cb5_elim {ci : Nat} {f0 : am_M → Nat → Int32 → Int32 → Int32 → Int32 → Int32 → Int32} {g0 : am_M → Nat → Int32 → Int32 → Int32 → Int32 → Int32 → am_M} {av : List Value} {σ : am_M} {R : am_R} (hs : am_cb5 ci f0 g0 av σ R) : ∃ k a b c d e, av = [.ref k, .int a, .int b, .int c, .int d, .int e] ∧ am_isC ci k = true ∧ R (some (.int (f0 σ k a b c d e))) (g0 σ k a b c d e) := by
  unfold am_cb5 at hs
  split at hs
  · rename_i k a b c d e
    cases hb : am_isC ci k with
    | false => rw [hb] at hs; exact hs.elim
    | true => rw [hb] at hs; exact ⟨k, a, b, c, d, e, rfl, hb, hs⟩
  · exact hs.elim
theorem am_cb5_in {ci : Nat} {f0 : am_M → Nat → Int32 → Int32 → Int32 → Int32 → Int32 → Int32} {g0 : am_M → Nat → Int32 → Int32 → Int32 → Int32 → Int32 → am_M} {k : Nat} {a : Int32} {b : Int32} {c : Int32} {d : Int32} {e : Int32} {σ : am_M} {R : am_R} (hb : am_isC ci k = true) (h : R (some (.int (f0 σ k a b c d e))) (g0 σ k a b c d e)) : am_cb5 ci f0 g0 [.ref k, .int a, .int b, .int c, .int d, .int e] σ R := by
  unfold am_cb5
  dsimp only
  rw [hb]
  exact h
def am_cb6 (ci : Nat) (f0 : am_M → Nat → Int32 → Int32 → Int32 → Int32 → Int32 → Int32 → Int32) (g0 : am_M → Nat → Int32 → Int32 → Int32 → Int32 → Int32 → Int32 → am_M) : am_S := fun av σ R => match av with
  | [.ref k, .int a, .int b, .int c, .int d, .int e, .int f] => bif am_isC ci k then R (some (.int (f0 σ k a b c d e f))) (g0 σ k a b c d e f) else False
  | _ => False
theorem am_cb6_mono (ci : Nat) (f0 : am_M → Nat → Int32 → Int32 → Int32 → Int32 → Int32 → Int32 → Int32) (g0 : am_M → Nat → Int32 → Int32 → Int32 → Int32 → Int32 → Int32 → am_M) : am_mS (am_cb6 ci f0 g0) := by
  intro av σ R R' h hs
  unfold am_cb6 at hs ⊢
  split at hs
  · rename_i k a b c d e f
    try dsimp only
    cases hb : am_isC ci k with
    | false => rw [hb] at hs; exact hs.elim
    | true => rw [hb] at hs; exact h _ _ hs
  · exact hs.elim
theorem am_cb6_elim {ci : Nat} {f0 : am_M → Nat → Int32 → Int32 → Int32 → Int32 → Int32 → Int32 → Int32} {g0 : am_M → Nat → Int32 → Int32 → Int32 → Int32 → Int32 → Int32 → am_M} {av : List Value} {σ : am_M} {R : am_R} (hs : am_cb6 ci f0 g0 av σ R) : ∃ k a b c d e f, av = [.ref k, .int a, .int b, .int c, .int d, .int e, .int f] ∧ am_isC ci k = true ∧ R (some (.int (f0 σ k a b c d e f))) (g0 σ k a b c d e f) := by
  unfold am_cb6 at hs
  split at hs
  · rename_i k a b c d e f
    cases hb : am_isC ci k with
    | false => rw [hb] at hs; exact hs.elim
    | true => rw [hb] at hs; exact ⟨k, a, b, c, d, e, f, rfl, hb, hs⟩
  · exact hs.elim
theorem am_cb6_in {ci : Nat} {f0 : am_M → Nat → Int32 → Int32 → Int32 → Int32 → Int32 → Int32 → Int32} {g0 : am_M → Nat → Int32 → Int32 → Int32 → Int32 → Int32 → Int32 → am_M} {k : Nat} {a : Int32} {b : Int32} {c : Int32} {d : Int32} {e : Int32} {f : Int32} {σ : am_M} {R : am_R} (hb : am_isC ci k = true) (h : R (some (.int (f0 σ k a b c d e f))) (g0 σ k a b c d e f)) : am_cb6 ci f0 g0 [.ref k, .int a, .int b, .int c, .int d, .int e, .int f] σ R := by
  unfold am_cb6
  dsimp only
  rw [hb]
  exact h
def am_kr0 (K : Nat) (f0 : am_M → Int32) : am_S := fun av σ R => match av with
  | [.ref k] => bif Nat.beq k K then R (some (.int (f0 σ))) σ else False
  | _ => False
theorem am_kr0_mono (K : Nat) (f0 : am_M → Int32) : am_mS (am_kr0 K f0) := by
  intro av σ R R' h hs
  unfold am_kr0 at hs ⊢
  split at hs
  · rename_i k
    try dsimp only
    cases hb : Nat.beq k K with
    | false => rw [hb] at hs; exact hs.elim
    | true => rw [hb] at hs; exact h _ _ hs
  · exact hs.elim
theorem am_kr0_elim {K : Nat} {f0 : am_M → Int32} {av : List Value} {σ : am_M} {R : am_R} (hs : am_kr0 K f0 av σ R) : av = [.ref K] ∧ R (some (.int (f0 σ))) σ := by
  unfold am_kr0 at hs
  split at hs
  · rename_i k
    cases hb : Nat.beq k K with
    | false => rw [hb] at hs; exact hs.elim
    | true => rw [hb] at hs; exact ⟨by rw [Nat.eq_of_beq_eq_true hb], hs⟩
  · exact hs.elim
def am_kr1 (K : Nat) (f0 : am_M → Int32 → Int32) : am_S := fun av σ R => match av with
  | [.ref k, .int a] => bif Nat.beq k K then R (some (.int (f0 σ a))) σ else False
  | _ => False
theorem am_kr1_mono (K : Nat) (f0 : am_M → Int32 → Int32) : am_mS (am_kr1 K f0) := by
  intro av σ R R' h hs
  unfold am_kr1 at hs ⊢
  split at hs
  · rename_i k a
    try dsimp only
    cases hb : Nat.beq k K with
    | false => rw [hb] at hs; exact hs.elim
    | true => rw [hb] at hs; exact h _ _ hs
  · exact hs.elim
theorem am_kr1_elim {K : Nat} {f0 : am_M → Int32 → Int32} {av : List Value} {σ : am_M} {R : am_R} (hs : am_kr1 K f0 av σ R) : ∃ a, av = [.ref K, .int a] ∧ R (some (.int (f0 σ a))) σ := by
  unfold am_kr1 at hs
  split at hs
  · rename_i k a
    cases hb : Nat.beq k K with
    | false => rw [hb] at hs; exact hs.elim
    | true => rw [hb] at hs; exact ⟨a, by rw [Nat.eq_of_beq_eq_true hb], hs⟩
  · exact hs.elim
def am_kr2 (K : Nat) (f0 : am_M → Int32 → Int32 → Int32) : am_S := fun av σ R => match av with
  | [.ref k, .int a, .int b] => bif Nat.beq k K then R (some (.int (f0 σ a b))) σ else False
  | _ => False
theorem am_kr2_mono (K : Nat) (f0 : am_M → Int32 → Int32 → Int32) : am_mS (am_kr2 K f0) := by
  intro av σ R R' h hs
  unfold am_kr2 at hs ⊢
  split at hs
  · rename_i k a b
    try dsimp only
    cases hb : Nat.beq k K with
    | false => rw [hb] at hs; exact hs.elim
    | true => rw [hb] at hs; exact h _ _ hs
  · exact hs.elim
theorem am_kr2_elim {K : Nat} {f0 : am_M → Int32 → Int32 → Int32} {av : List Value} {σ : am_M} {R : am_R} (hs : am_kr2 K f0 av σ R) : ∃ a b, av = [.ref K, .int a, .int b] ∧ R (some (.int (f0 σ a b))) σ := by
  unfold am_kr2 at hs
  split at hs
  · rename_i k a b
    cases hb : Nat.beq k K with
    | false => rw [hb] at hs; exact hs.elim
    | true => rw [hb] at hs; exact ⟨a, b, by rw [Nat.eq_of_beq_eq_true hb], hs⟩
  · exact hs.elim
def am_kr3 (K : Nat) (f0 : am_M → Int32 → Int32 → Int32 → Int32) : am_S := fun av σ R => match av with
  | [.ref k, .int a, .int b, .int c] => bif Nat.beq k K then R (some (.int (f0 σ a b c))) σ else False
  | _ => False
theorem am_kr3_mono (K : Nat) (f0 : am_M → Int32 → Int32 → Int32 → Int32) : am_mS (am_kr3 K f0) := by
  intro av σ R R' h hs
  unfold am_kr3 at hs ⊢
  split at hs
  · rename_i k a b c
    try dsimp only
    cases hb : Nat.beq k K with
    | false => rw [hb] at hs; exact hs.elim
    | true => rw [hb] at hs; exact h _ _ hs
  · exact hs.elim
theorem am_kr3_elim {K : Nat} {f0 : am_M → Int32 → Int32 → Int32 → Int32} {av : List Value} {σ : am_M} {R : am_R} (hs : am_kr3 K f0 av σ R) : ∃ a b c, av = [.ref K, .int a, .int b, .int c] ∧ R (some (.int (f0 σ a b c))) σ := by
  unfold am_kr3 at hs
  split at hs
  · rename_i k a b c
    cases hb : Nat.beq k K with
    | false => rw [hb] at hs; exact hs.elim
    | true => rw [hb] at hs; exact ⟨a, b, c, by rw [Nat.eq_of_beq_eq_true hb], hs⟩
  · exact hs.elim
def am_kr4 (K : Nat) (f0 : am_M → Int32 → Int32 → Int32 → Int32 → Int32) : am_S := fun av σ R => match av with
  | [.ref k, .int a, .int b, .int c, .int d] => bif Nat.beq k K then R (some (.int (f0 σ a b c d))) σ else False
  | _ => False
theorem am_kr4_mono (K : Nat) (f0 : am_M → Int32 → Int32 → Int32 → Int32 → Int32) : am_mS (am_kr4 K f0) := by
  intro av σ R R' h hs
  unfold am_kr4 at hs ⊢
  split at hs
  · rename_i k a b c d
    try dsimp only
    cases hb : Nat.beq k K with
    | false => rw [hb] at hs; exact hs.elim
    | true => rw [hb] at hs; exact h _ _ hs
  · exact hs.elim
theorem am_kr4_elim {K : Nat} {f0 : am_M → Int32 → Int32 → Int32 → Int32 → Int32} {av : List Value} {σ : am_M} {R : am_R} (hs : am_kr4 K f0 av σ R) : ∃ a b c d, av = [.ref K, .int a, .int b, .int c, .int d] ∧ R (some (.int (f0 σ a b c d))) σ := by
  unfold am_kr4 at hs
  split at hs
  · rename_i k a b c d
    cases hb : Nat.beq k K with
    | false => rw [hb] at hs; exact hs.elim
    | true => rw [hb] at hs; exact ⟨a, b, c, d, by rw [Nat.eq_of_beq_eq_true hb], hs⟩
  · exact hs.elim
def am_kr5 (K : Nat) (f0 : am_M → Int32 → Int32 → Int32 → Int32 → Int32 → Int32) : am_S := fun av σ R => match av with
  | [.ref k, .int a, .int b, .int c, .int d, .int e] => bif Nat.beq k K then R (some (.int (f0 σ a b c d e))) σ else False
  | _ => False
theorem am_kr5_mono (K : Nat) (f0 : am_M → Int32 → Int32 → Int32 → Int32 → Int32 → Int32) : am_mS (am_kr5 K f0) := by
  intro av σ R R' h hs
  unfold am_kr5 at hs ⊢
  split at hs
  · rename_i k a b c d e
    try dsimp only
    cases hb : Nat.beq k K with
    | false => rw [hb] at hs; exact hs.elim
    | true => rw [hb] at hs; exact h _ _ hs
  · exact hs.elim
theorem am_kr5_elim {K : Nat} {f0 : am_M → Int32 → Int32 → Int32 → Int32 → Int32 → Int32} {av : List Value} {σ : am_M} {R : am_R} (hs : am_kr5 K f0 av σ R) : ∃ a b c d e, av = [.ref K, .int a, .int b, .int c, .int d, .int e] ∧ R (some (.int (f0 σ a b c d e))) σ := by
  unfold am_kr5 at hs
  split at hs
  · rename_i k a b c d e
    cases hb : Nat.beq k K with
    | false => rw [hb] at hs; exact hs.elim
    | true => rw [hb] at hs; exact ⟨a, b, c, d, e, by rw [Nat.eq_of_beq_eq_true hb], hs⟩
  · exact hs.elim
def am_kr6 (K : Nat) (f0 : am_M → Int32 → Int32 → Int32 → Int32 → Int32 → Int32 → Int32) : am_S := fun av σ R => match av with
  | [.ref k, .int a, .int b, .int c, .int d, .int e, .int f] => bif Nat.beq k K then R (some (.int (f0 σ a b c d e f))) σ else False
  | _ => False
theorem am_kr6_mono (K : Nat) (f0 : am_M → Int32 → Int32 → Int32 → Int32 → Int32 → Int32 → Int32) : am_mS (am_kr6 K f0) := by
  intro av σ R R' h hs
  unfold am_kr6 at hs ⊢
  split at hs
  · rename_i k a b c d e f
    try dsimp only
    cases hb : Nat.beq k K with
    | false => rw [hb] at hs; exact hs.elim
    | true => rw [hb] at hs; exact h _ _ hs
  · exact hs.elim
theorem am_kr6_elim {K : Nat} {f0 : am_M → Int32 → Int32 → Int32 → Int32 → Int32 → Int32 → Int32} {av : List Value} {σ : am_M} {R : am_R} (hs : am_kr6 K f0 av σ R) : ∃ a b c d e f, av = [.ref K, .int a, .int b, .int c, .int d, .int e, .int f] ∧ R (some (.int (f0 σ a b c d e f))) σ := by
  unfold am_kr6 at hs
  split at hs
  · rename_i k a b c d e f
    cases hb : Nat.beq k K with
    | false => rw [hb] at hs; exact hs.elim
    | true => rw [hb] at hs; exact ⟨a, b, c, d, e, f, by rw [Nat.eq_of_beq_eq_true hb], hs⟩
  · exact hs.elim
def am_kw0 (K : Nat) (g0 : am_M → am_M) : am_S := fun av σ R => match av with
  | [.ref k] => bif Nat.beq k K then R none (g0 σ) else False
  | _ => False
theorem am_kw0_mono (K : Nat) (g0 : am_M → am_M) : am_mS (am_kw0 K g0) := by
  intro av σ R R' h hs
  unfold am_kw0 at hs ⊢
  split at hs
  · rename_i k
    try dsimp only
    cases hb : Nat.beq k K with
    | false => rw [hb] at hs; exact hs.elim
    | true => rw [hb] at hs; exact h _ _ hs
  · exact hs.elim
theorem am_kw0_elim {K : Nat} {g0 : am_M → am_M} {av : List Value} {σ : am_M} {R : am_R} (hs : am_kw0 K g0 av σ R) : av = [.ref K] ∧ R none (g0 σ) := by
  unfold am_kw0 at hs
  split at hs
  · rename_i k
    cases hb : Nat.beq k K with
    | false => rw [hb] at hs; exact hs.elim
    | true => rw [hb] at hs; exact ⟨by rw [Nat.eq_of_beq_eq_true hb], hs⟩
  · exact hs.elim
def am_kw1 (K : Nat) (g0 : am_M → Int32 → am_M) : am_S := fun av σ R => match av with
  | [.ref k, .int a] => bif Nat.beq k K then R none (g0 σ a) else False
  | _ => False
theorem am_kw1_mono (K : Nat) (g0 : am_M → Int32 → am_M) : am_mS (am_kw1 K g0) := by
  intro av σ R R' h hs
  unfold am_kw1 at hs ⊢
  split at hs
  · rename_i k a
    try dsimp only
    cases hb : Nat.beq k K with
    | false => rw [hb] at hs; exact hs.elim
    | true => rw [hb] at hs; exact h _ _ hs
  · exact hs.elim
theorem am_kw1_elim {K : Nat} {g0 : am_M → Int32 → am_M} {av : List Value} {σ : am_M} {R : am_R} (hs : am_kw1 K g0 av σ R) : ∃ a, av = [.ref K, .int a] ∧ R none (g0 σ a) := by
  unfold am_kw1 at hs
  split at hs
  · rename_i k a
    cases hb : Nat.beq k K with
    | false => rw [hb] at hs; exact hs.elim
    | true => rw [hb] at hs; exact ⟨a, by rw [Nat.eq_of_beq_eq_true hb], hs⟩
  · exact hs.elim
def am_kw2 (K : Nat) (g0 : am_M → Int32 → Int32 → am_M) : am_S := fun av σ R => match av with
  | [.ref k, .int a, .int b] => bif Nat.beq k K then R none (g0 σ a b) else False
  | _ => False
theorem am_kw2_mono (K : Nat) (g0 : am_M → Int32 → Int32 → am_M) : am_mS (am_kw2 K g0) := by
  intro av σ R R' h hs
  unfold am_kw2 at hs ⊢
  split at hs
  · rename_i k a b
    try dsimp only
    cases hb : Nat.beq k K with
    | false => rw [hb] at hs; exact hs.elim
    | true => rw [hb] at hs; exact h _ _ hs
  · exact hs.elim
theorem am_kw2_elim {K : Nat} {g0 : am_M → Int32 → Int32 → am_M} {av : List Value} {σ : am_M} {R : am_R} (hs : am_kw2 K g0 av σ R) : ∃ a b, av = [.ref K, .int a, .int b] ∧ R none (g0 σ a b) := by
  unfold am_kw2 at hs
  split at hs
  · rename_i k a b
    cases hb : Nat.beq k K with
    | false => rw [hb] at hs; exact hs.elim
    | true => rw [hb] at hs; exact ⟨a, b, by rw [Nat.eq_of_beq_eq_true hb], hs⟩
  · exact hs.elim
def am_kw3 (K : Nat) (g0 : am_M → Int32 → Int32 → Int32 → am_M) : am_S := fun av σ R => match av with
  | [.ref k, .int a, .int b, .int c] => bif Nat.beq k K then R none (g0 σ a b c) else False
  | _ => False
theorem am_kw3_mono (K : Nat) (g0 : am_M → Int32 → Int32 → Int32 → am_M) : am_mS (am_kw3 K g0) := by
  intro av σ R R' h hs
  unfold am_kw3 at hs ⊢
  split at hs
  · rename_i k a b c
    try dsimp only
    cases hb : Nat.beq k K with
    | false => rw [hb] at hs; exact hs.elim
    | true => rw [hb] at hs; exact h _ _ hs
  · exact hs.elim
theorem am_kw3_elim {K : Nat} {g0 : am_M → Int32 → Int32 → Int32 → am_M} {av : List Value} {σ : am_M} {R : am_R} (hs : am_kw3 K g0 av σ R) : ∃ a b c, av = [.ref K, .int a, .int b, .int c] ∧ R none (g0 σ a b c) := by
  unfold am_kw3 at hs
  split at hs
  · rename_i k a b c
    cases hb : Nat.beq k K with
    | false => rw [hb] at hs; exact hs.elim
    | true => rw [hb] at hs; exact ⟨a, b, c, by rw [Nat.eq_of_beq_eq_true hb], hs⟩
  · exact hs.elim
def am_kw4 (K : Nat) (g0 : am_M → Int32 → Int32 → Int32 → Int32 → am_M) : am_S := fun av σ R => match av with
  | [.ref k, .int a, .int b, .int c, .int d] => bif Nat.beq k K then R none (g0 σ a b c d) else False
  | _ => False
theorem am_kw4_mono (K : Nat) (g0 : am_M → Int32 → Int32 → Int32 → Int32 → am_M) : am_mS (am_kw4 K g0) := by
  intro av σ R R' h hs
  unfold am_kw4 at hs ⊢
  split at hs
  · rename_i k a b c d
    try dsimp only
    cases hb : Nat.beq k K with
    | false => rw [hb] at hs; exact hs.elim
    | true => rw [hb] at hs; exact h _ _ hs
  · exact hs.elim
theorem am_kw4_elim {K : Nat} {g0 : am_M → Int32 → Int32 → Int32 → Int32 → am_M} {av : List Value} {σ : am_M} {R : am_R} (hs : am_kw4 K g0 av σ R) : ∃ a b c d, av = [.ref K, .int a, .int b, .int c, .int d] ∧ R none (g0 σ a b c d) := by
  unfold am_kw4 at hs
  split at hs
  · rename_i k a b c d
    cases hb : Nat.beq k K with
    | false => rw [hb] at hs; exact hs.elim
    | true => rw [hb] at hs; exact ⟨a, b, c, d, by rw [Nat.eq_of_beq_eq_true hb], hs⟩
  · exact hs.elim
def am_kw5 (K : Nat) (g0 : am_M → Int32 → Int32 → Int32 → Int32 → Int32 → am_M) : am_S := fun av σ R => match av with
  | [.ref k, .int a, .int b, .int c, .int d, .int e] => bif Nat.beq k K then R none (g0 σ a b c d e) else False
  | _ => False
theorem am_kw5_mono (K : Nat) (g0 : am_M → Int32 → Int32 → Int32 → Int32 → Int32 → am_M) : am_mS (am_kw5 K g0) := by
  intro av σ R R' h hs
  unfold am_kw5 at hs ⊢
  split at hs
  · rename_i k a b c d e
    try dsimp only
    cases hb : Nat.beq k K with
    | false => rw [hb] at hs; exact hs.elim
    | true => rw [hb] at hs; exact h _ _ hs
  · exact hs.elim
theorem am_kw5_elim {K : Nat} {g0 : am_M → Int32 → Int32 → Int32 → Int32 → Int32 → am_M} {av : List Value} {σ : am_M} {R : am_R} (hs : am_kw5 K g0 av σ R) : ∃ a b c d e, av = [.ref K, .int a, .int b, .int c, .int d, .int e] ∧ R none (g0 σ a b c d e) := by
  unfold am_kw5 at hs
  split at hs
  · rename_i k a b c d e
    cases hb : Nat.beq k K with
    | false => rw [hb] at hs; exact hs.elim
    | true => rw [hb] at hs; exact ⟨a, b, c, d, e, by rw [Nat.eq_of_beq_eq_true hb], hs⟩
  · exact hs.elim
def am_kw6 (K : Nat) (g0 : am_M → Int32 → Int32 → Int32 → Int32 → Int32 → Int32 → am_M) : am_S := fun av σ R => match av with
  | [.ref k, .int a, .int b, .int c, .int d, .int e, .int f] => bif Nat.beq k K then R none (g0 σ a b c d e f) else False
  | _ => False
theorem am_kw6_mono (K : Nat) (g0 : am_M → Int32 → Int32 → Int32 → Int32 → Int32 → Int32 → am_M) : am_mS (am_kw6 K g0) := by
  intro av σ R R' h hs
  unfold am_kw6 at hs ⊢
  split at hs
  · rename_i k a b c d e f
    try dsimp only
    cases hb : Nat.beq k K with
    | false => rw [hb] at hs; exact hs.elim
    | true => rw [hb] at hs; exact h _ _ hs
  · exact hs.elim
theorem am_kw6_elim {K : Nat} {g0 : am_M → Int32 → Int32 → Int32 → Int32 → Int32 → Int32 → am_M} {av : List Value} {σ : am_M} {R : am_R} (hs : am_kw6 K g0 av σ R) : ∃ a b c d e f, av = [.ref K, .int a, .int b, .int c, .int d, .int e, .int f] ∧ R none (g0 σ a b c d e f) := by
  unfold am_kw6 at hs
  split at hs
  · rename_i k a b c d e f
    cases hb : Nat.beq k K with
    | false => rw [hb] at hs; exact hs.elim
    | true => rw [hb] at hs; exact ⟨a, b, c, d, e, f, by rw [Nat.eq_of_beq_eq_true hb], hs⟩
  · exact hs.elim
def am_kb0 (K : Nat) (f0 : am_M → Int32) (g0 : am_M → am_M) : am_S := fun av σ R => match av with
  | [.ref k] => bif Nat.beq k K then R (some (.int (f0 σ))) (g0 σ) else False
  | _ => False
theorem am_kb0_mono (K : Nat) (f0 : am_M → Int32) (g0 : am_M → am_M) : am_mS (am_kb0 K f0 g0) := by
  intro av σ R R' h hs
  unfold am_kb0 at hs ⊢
  split at hs
  · rename_i k
    try dsimp only
    cases hb : Nat.beq k K with
    | false => rw [hb] at hs; exact hs.elim
    | true => rw [hb] at hs; exact h _ _ hs
  · exact hs.elim
theorem am_kb0_elim {K : Nat} {f0 : am_M → Int32} {g0 : am_M → am_M} {av : List Value} {σ : am_M} {R : am_R} (hs : am_kb0 K f0 g0 av σ R) : av = [.ref K] ∧ R (some (.int (f0 σ))) (g0 σ) := by
  unfold am_kb0 at hs
  split at hs
  · rename_i k
    cases hb : Nat.beq k K with
    | false => rw [hb] at hs; exact hs.elim
    | true => rw [hb] at hs; exact ⟨by rw [Nat.eq_of_beq_eq_true hb], hs⟩
  · exact hs.elim
def am_kb1 (K : Nat) (f0 : am_M → Int32 → Int32) (g0 : am_M → Int32 → am_M) : am_S := fun av σ R => match av with
  | [.ref k, .int a] => bif Nat.beq k K then R (some (.int (f0 σ a))) (g0 σ a) else False
  | _ => False
theorem am_kb1_mono (K : Nat) (f0 : am_M → Int32 → Int32) (g0 : am_M → Int32 → am_M) : am_mS (am_kb1 K f0 g0) := by
  intro av σ R R' h hs
  unfold am_kb1 at hs ⊢
  split at hs
  · rename_i k a
    try dsimp only
    cases hb : Nat.beq k K with
    | false => rw [hb] at hs; exact hs.elim
    | true => rw [hb] at hs; exact h _ _ hs
  · exact hs.elim
theorem am_kb1_elim {K : Nat} {f0 : am_M → Int32 → Int32} {g0 : am_M → Int32 → am_M} {av : List Value} {σ : am_M} {R : am_R} (hs : am_kb1 K f0 g0 av σ R) : ∃ a, av = [.ref K, .int a] ∧ R (some (.int (f0 σ a))) (g0 σ a) := by
  unfold am_kb1 at hs
  split at hs
  · rename_i k a
    cases hb : Nat.beq k K with
    | false => rw [hb] at hs; exact hs.elim
    | true => rw [hb] at hs; exact ⟨a, by rw [Nat.eq_of_beq_eq_true hb], hs⟩
  · exact hs.elim
def am_kb2 (K : Nat) (f0 : am_M → Int32 → Int32 → Int32) (g0 : am_M → Int32 → Int32 → am_M) : am_S := fun av σ R => match av with
  | [.ref k, .int a, .int b] => bif Nat.beq k K then R (some (.int (f0 σ a b))) (g0 σ a b) else False
  | _ => False
theorem am_kb2_mono (K : Nat) (f0 : am_M → Int32 → Int32 → Int32) (g0 : am_M → Int32 → Int32 → am_M) : am_mS (am_kb2 K f0 g0) := by
  intro av σ R R' h hs
  unfold am_kb2 at hs ⊢
  split at hs
  · rename_i k a b
    try dsimp only
    cases hb : Nat.beq k K with
    | false => rw [hb] at hs; exact hs.elim
    | true => rw [hb] at hs; exact h _ _ hs
  · exact hs.elim
theorem am_kb2_elim {K : Nat} {f0 : am_M → Int32 → Int32 → Int32} {g0 : am_M → Int32 → Int32 → am_M} {av : List Value} {σ : am_M} {R : am_R} (hs : am_kb2 K f0 g0 av σ R) : ∃ a b, av = [.ref K, .int a, .int b] ∧ R (some (.int (f0 σ a b))) (g0 σ a b) := by
  unfold am_kb2 at hs
  split at hs
  · rename_i k a b
    cases hb : Nat.beq k K with
    | false => rw [hb] at hs; exact hs.elim
    | true => rw [hb] at hs; exact ⟨a, b, by rw [Nat.eq_of_beq_eq_true hb], hs⟩
  · exact hs.elim
def am_kb3 (K : Nat) (f0 : am_M → Int32 → Int32 → Int32 → Int32) (g0 : am_M → Int32 → Int32 → Int32 → am_M) : am_S := fun av σ R => match av with
  | [.ref k, .int a, .int b, .int c] => bif Nat.beq k K then R (some (.int (f0 σ a b c))) (g0 σ a b c) else False
  | _ => False
theorem am_kb3_mono (K : Nat) (f0 : am_M → Int32 → Int32 → Int32 → Int32) (g0 : am_M → Int32 → Int32 → Int32 → am_M) : am_mS (am_kb3 K f0 g0) := by
  intro av σ R R' h hs
  unfold am_kb3 at hs ⊢
  split at hs
  · rename_i k a b c
    try dsimp only
    cases hb : Nat.beq k K with
    | false => rw [hb] at hs; exact hs.elim
    | true => rw [hb] at hs; exact h _ _ hs
  · exact hs.elim
theorem am_kb3_elim {K : Nat} {f0 : am_M → Int32 → Int32 → Int32 → Int32} {g0 : am_M → Int32 → Int32 → Int32 → am_M} {av : List Value} {σ : am_M} {R : am_R} (hs : am_kb3 K f0 g0 av σ R) : ∃ a b c, av = [.ref K, .int a, .int b, .int c] ∧ R (some (.int (f0 σ a b c))) (g0 σ a b c) := by
  unfold am_kb3 at hs
  split at hs
  · rename_i k a b c
    cases hb : Nat.beq k K with
    | false => rw [hb] at hs; exact hs.elim
    | true => rw [hb] at hs; exact ⟨a, b, c, by rw [Nat.eq_of_beq_eq_true hb], hs⟩
  · exact hs.elim
def am_kb4 (K : Nat) (f0 : am_M → Int32 → Int32 → Int32 → Int32 → Int32) (g0 : am_M → Int32 → Int32 → Int32 → Int32 → am_M) : am_S := fun av σ R => match av with
  | [.ref k, .int a, .int b, .int c, .int d] => bif Nat.beq k K then R (some (.int (f0 σ a b c d))) (g0 σ a b c d) else False
  | _ => False
theorem am_kb4_mono (K : Nat) (f0 : am_M → Int32 → Int32 → Int32 → Int32 → Int32) (g0 : am_M → Int32 → Int32 → Int32 → Int32 → am_M) : am_mS (am_kb4 K f0 g0) := by
  intro av σ R R' h hs
  unfold am_kb4 at hs ⊢
  split at hs
  · rename_i k a b c d
    try dsimp only
    cases hb : Nat.beq k K with
    | false => rw [hb] at hs; exact hs.elim
    | true => rw [hb] at hs; exact h _ _ hs
  · exact hs.elim
theorem am_kb4_elim {K : Nat} {f0 : am_M → Int32 → Int32 → Int32 → Int32 → Int32} {g0 : am_M → Int32 → Int32 → Int32 → Int32 → am_M} {av : List Value} {σ : am_M} {R : am_R} (hs : am_kb4 K f0 g0 av σ R) : ∃ a b c d, av = [.ref K, .int a, .int b, .int c, .int d] ∧ R (some (.int (f0 σ a b c d))) (g0 σ a b c d) := by
  unfold am_kb4 at hs
  split at hs
  · rename_i k a b c d
    cases hb : Nat.beq k K with
    | false => rw [hb] at hs; exact hs.elim
    | true => rw [hb] at hs; exact ⟨a, b, c, d, by rw [Nat.eq_of_beq_eq_true hb], hs⟩
  · exact hs.elim
def am_kb5 (K : Nat) (f0 : am_M → Int32 → Int32 → Int32 → Int32 → Int32 → Int32) (g0 : am_M → Int32 → Int32 → Int32 → Int32 → Int32 → am_M) : am_S := fun av σ R => match av with
  | [.ref k, .int a, .int b, .int c, .int d, .int e] => bif Nat.beq k K then R (some (.int (f0 σ a b c d e))) (g0 σ a b c d e) else False
  | _ => False
theorem am_kb5_mono (K : Nat) (f0 : am_M → Int32 → Int32 → Int32 → Int32 → Int32 → Int32) (g0 : am_M → Int32 → Int32 → Int32 → Int32 → Int32 → am_M) : am_mS (am_kb5 K f0 g0) := by
  intro av σ R R' h hs
  unfold am_kb5 at hs ⊢
  split at hs
  · rename_i k a b c d e
    try dsimp only
    cases hb : Nat.beq k K with
    | false => rw [hb] at hs; exact hs.elim
    | true => rw [hb] at hs; exact h _ _ hs
  · exact hs.elim
theorem am_kb5_elim {K : Nat} {f0 : am_M → Int32 → Int32 → Int32 → Int32 → Int32 → Int32} {g0 : am_M → Int32 → Int32 → Int32 → Int32 → Int32 → am_M} {av : List Value} {σ : am_M} {R : am_R} (hs : am_kb5 K f0 g0 av σ R) : ∃ a b c d e, av = [.ref K, .int a, .int b, .int c, .int d, .int e] ∧ R (some (.int (f0 σ a b c d e))) (g0 σ a b c d e) := by
  unfold am_kb5 at hs
  split at hs
  · rename_i k a b c d e
    cases hb : Nat.beq k K with
    | false => rw [hb] at hs; exact hs.elim
    | true => rw [hb] at hs; exact ⟨a, b, c, d, e, by rw [Nat.eq_of_beq_eq_true hb], hs⟩
  · exact hs.elim
def am_kb6 (K : Nat) (f0 : am_M → Int32 → Int32 → Int32 → Int32 → Int32 → Int32 → Int32) (g0 : am_M → Int32 → Int32 → Int32 → Int32 → Int32 → Int32 → am_M) : am_S := fun av σ R => match av with
  | [.ref k, .int a, .int b, .int c, .int d, .int e, .int f] => bif Nat.beq k K then R (some (.int (f0 σ a b c d e f))) (g0 σ a b c d e f) else False
  | _ => False
theorem am_kb6_mono (K : Nat) (f0 : am_M → Int32 → Int32 → Int32 → Int32 → Int32 → Int32 → Int32) (g0 : am_M → Int32 → Int32 → Int32 → Int32 → Int32 → Int32 → am_M) : am_mS (am_kb6 K f0 g0) := by
  intro av σ R R' h hs
  unfold am_kb6 at hs ⊢
  split at hs
  · rename_i k a b c d e f
    try dsimp only
    cases hb : Nat.beq k K with
    | false => rw [hb] at hs; exact hs.elim
    | true => rw [hb] at hs; exact h _ _ hs
  · exact hs.elim
theorem am_kb6_elim {K : Nat} {f0 : am_M → Int32 → Int32 → Int32 → Int32 → Int32 → Int32 → Int32} {g0 : am_M → Int32 → Int32 → Int32 → Int32 → Int32 → Int32 → am_M} {av : List Value} {σ : am_M} {R : am_R} (hs : am_kb6 K f0 g0 av σ R) : ∃ a b c d e f, av = [.ref K, .int a, .int b, .int c, .int d, .int e, .int f] ∧ R (some (.int (f0 σ a b c d e f))) (g0 σ a b c d e f) := by
  unfold am_kb6 at hs
  split at hs
  · rename_i k a b c d e f
    cases hb : Nat.beq k K with
    | false => rw [hb] at hs; exact hs.elim
    | true => rw [hb] at hs; exact ⟨a, b, c, d, e, f, by rw [Nat.eq_of_beq_eq_true hb], hs⟩
  · exact hs.elim
def am_sr1  (f0 : Int32 → Int32) : am_S := fun av σ R => match av with
  | [.int a] => R (some (.int (f0 a))) σ
  | _ => False
theorem am_sr1_mono (f0 : Int32 → Int32) : am_mS (am_sr1 f0) := by
  intro av σ R R' h hs
  unfold am_sr1 at hs ⊢
  split at hs
  · exact h _ _ hs
  · exact hs.elim
theorem am_sr1_elim {f0 : Int32 → Int32} {av : List Value} {σ : am_M} {R : am_R} (hs : am_sr1 f0 av σ R) : ∃ a, av = [.int a] ∧ R (some (.int (f0 a))) σ := by
  unfold am_sr1 at hs
  split at hs
  · exact ⟨_, rfl, hs⟩
  · exact hs.elim
def am_sr2  (f0 : Int32 → Int32 → Int32) : am_S := fun av σ R => match av with
  | [.int a, .int b] => R (some (.int (f0 a b))) σ
  | _ => False
theorem am_sr2_mono (f0 : Int32 → Int32 → Int32) : am_mS (am_sr2 f0) := by
  intro av σ R R' h hs
  unfold am_sr2 at hs ⊢
  split at hs
  · exact h _ _ hs
  · exact hs.elim
theorem am_sr2_elim {f0 : Int32 → Int32 → Int32} {av : List Value} {σ : am_M} {R : am_R} (hs : am_sr2 f0 av σ R) : ∃ a b, av = [.int a, .int b] ∧ R (some (.int (f0 a b))) σ := by
  unfold am_sr2 at hs
  split at hs
  · exact ⟨_, _, rfl, hs⟩
  · exact hs.elim
def am_sr3  (f0 : Int32 → Int32 → Int32 → Int32) : am_S := fun av σ R => match av with
  | [.int a, .int b, .int c] => R (some (.int (f0 a b c))) σ
  | _ => False
theorem am_sr3_mono (f0 : Int32 → Int32 → Int32 → Int32) : am_mS (am_sr3 f0) := by
  intro av σ R R' h hs
  unfold am_sr3 at hs ⊢
  split at hs
  · exact h _ _ hs
  · exact hs.elim
theorem am_sr3_elim {f0 : Int32 → Int32 → Int32 → Int32} {av : List Value} {σ : am_M} {R : am_R} (hs : am_sr3 f0 av σ R) : ∃ a b c, av = [.int a, .int b, .int c] ∧ R (some (.int (f0 a b c))) σ := by
  unfold am_sr3 at hs
  split at hs
  · exact ⟨_, _, _, rfl, hs⟩
  · exact hs.elim
def am_sr4  (f0 : Int32 → Int32 → Int32 → Int32 → Int32) : am_S := fun av σ R => match av with
  | [.int a, .int b, .int c, .int d] => R (some (.int (f0 a b c d))) σ
  | _ => False
theorem am_sr4_mono (f0 : Int32 → Int32 → Int32 → Int32 → Int32) : am_mS (am_sr4 f0) := by
  intro av σ R R' h hs
  unfold am_sr4 at hs ⊢
  split at hs
  · exact h _ _ hs
  · exact hs.elim
theorem am_sr4_elim {f0 : Int32 → Int32 → Int32 → Int32 → Int32} {av : List Value} {σ : am_M} {R : am_R} (hs : am_sr4 f0 av σ R) : ∃ a b c d, av = [.int a, .int b, .int c, .int d] ∧ R (some (.int (f0 a b c d))) σ := by
  unfold am_sr4 at hs
  split at hs
  · exact ⟨_, _, _, _, rfl, hs⟩
  · exact hs.elim
def am_sr5  (f0 : Int32 → Int32 → Int32 → Int32 → Int32 → Int32) : am_S := fun av σ R => match av with
  | [.int a, .int b, .int c, .int d, .int e] => R (some (.int (f0 a b c d e))) σ
  | _ => False
theorem am_sr5_mono (f0 : Int32 → Int32 → Int32 → Int32 → Int32 → Int32) : am_mS (am_sr5 f0) := by
  intro av σ R R' h hs
  unfold am_sr5 at hs ⊢
  split at hs
  · exact h _ _ hs
  · exact hs.elim
theorem am_sr5_elim {f0 : Int32 → Int32 → Int32 → Int32 → Int32 → Int32} {av : List Value} {σ : am_M} {R : am_R} (hs : am_sr5 f0 av σ R) : ∃ a b c d e, av = [.int a, .int b, .int c, .int d, .int e] ∧ R (some (.int (f0 a b c d e))) σ := by
  unfold am_sr5 at hs
  split at hs
  · exact ⟨_, _, _, _, _, rfl, hs⟩
  · exact hs.elim
def am_sr6  (f0 : Int32 → Int32 → Int32 → Int32 → Int32 → Int32 → Int32) : am_S := fun av σ R => match av with
  | [.int a, .int b, .int c, .int d, .int e, .int f] => R (some (.int (f0 a b c d e f))) σ
  | _ => False
theorem am_sr6_mono (f0 : Int32 → Int32 → Int32 → Int32 → Int32 → Int32 → Int32) : am_mS (am_sr6 f0) := by
  intro av σ R R' h hs
  unfold am_sr6 at hs ⊢
  split at hs
  · exact h _ _ hs
  · exact hs.elim
theorem am_sr6_elim {f0 : Int32 → Int32 → Int32 → Int32 → Int32 → Int32 → Int32} {av : List Value} {σ : am_M} {R : am_R} (hs : am_sr6 f0 av σ R) : ∃ a b c d e f, av = [.int a, .int b, .int c, .int d, .int e, .int f] ∧ R (some (.int (f0 a b c d e f))) σ := by
  unfold am_sr6 at hs
  split at hs
  · exact ⟨_, _, _, _, _, _, rfl, hs⟩
  · exact hs.elim
