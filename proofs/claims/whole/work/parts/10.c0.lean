/-! the pure part: well-formed codes, the place behind a scope -/
section ZC
/-- how many scopes are open behind an instruction -/
def zDn (x : Int32) (d : Nat) : Nat := if iSign x = 40 ∨ iSign x = 91 ∨ iSign x = 123 then d + 1 else if iSign x = 41 then d - 1 else d
/-- may it stand where d are open, behind z or not -/
def zOk (x : Int32) (d : Nat) (z : Bool) : Prop :=
  ((iSign x = 40 ∨ iSign x = 91 ∨ iSign x = 123) → z = false ∧ d < 5) ∧ (iSign x = 41 → z = false ∧ 0 < d) ∧ (iSign x = 94 → z = false ∧ 0 < d ∧ zN (iOpnd x) 5) ∧ (iSign x = 112 → 0 < d ∧ zN (iOpnd x) 5) ∧ (iSign x = 120 → 0 < d) ∧
  ((iSign x = 62 ∨ iSign x = 60) → zN (iOpnd x) 3) ∧ (iSign x = 63 → ∃ a b, a ≤ 3 ∧ b ≤ 3 ∧ iOpnd x = nI (10 * a + b)) ∧ ((iSign x = 91 ∨ iSign x = 119) → zN (iOpnd x) 9)
def zWf (f : Nat → Int32) : Nat → Nat → Nat → Bool → Prop
  | 0, _, d, z => d = 0 ∧ z = false
  | m + 1, p, d, z => zOk (f p) d z ∧ zWf f m (p + 1) (zDn (f p) d) (decide (iSign (f p) = 122))
def zBc (f : Nat → Int32) : Nat → Nat → Nat → Nat
  | 0, p, _ => p
  | m + 1, p, e => if zDn (f p) e = 0 then p + 1 else zBc f m (p + 1) (zDn (f p) e)
/-- the place behind the ) of the innermost open scope -/
def zB (f : Nat → Int32) (L p : Nat) : Nat := zBc f (L - p) p 1
theorem zOk_f {x : Int32} {d : Nat} {z : Bool} (h : zOk x d z) : zOk x d false := by
  obtain ⟨h1, h2, h3, h4⟩ := h
  exact ⟨fun q => ⟨rfl, (h1 q).2⟩, fun q => ⟨rfl, (h2 q).2⟩, fun q => ⟨rfl, (h3 q).2⟩, h4⟩
theorem zWf_f {f : Nat → Int32} {m p d : Nat} {z : Bool} (h : zWf f m p d z) : zWf f m p d false := by
  cases m with
  | zero => exact ⟨h.1, rfl⟩
  | succ m => exact ⟨zOk_f h.1, h.2⟩
theorem zDn_add {x : Int32} {d e c : Nat} (h : d = e + c) (he : 0 < e) : zDn x d = zDn x e + c := by
  unfold zDn
  subst h
  split
  · omega
  · split <;> omega
theorem zBc_spec {f : Nat → Int32} : ∀ (m p d e : Nat) (z : Bool), 0 < e → e ≤ d → zWf f m p d z → p < zBc f m p e ∧ zBc f m p e ≤ p + m ∧ zWf f (p + m - zBc f m p e) (zBc f m p e) (d - e) false := by
  intro m
  induction m with
  | zero => intro p d e z h0 hd h; have := h.1; omega
  | succ m ih =>
    intro p d e z h0 hd h
    obtain ⟨h1, h2⟩ := h
    have hD := zDn_add (x := f p) (d := d) (e := e) (c := d - e) (by omega) h0
    by_cases hz : zDn (f p) e = 0
    · have e1 : zBc f (m + 1) p e = p + 1 := if_pos hz
      rw [e1]
      refine ⟨by omega, by omega, ?_⟩
      rw [show p + (m + 1) - (p + 1) = m from by omega]
      rw [hD, hz, Nat.zero_add] at h2
      exact zWf_f h2
    · have e1 : zBc f (m + 1) p e = zBc f m (p + 1) (zDn (f p) e) := if_neg hz
      rw [e1]
      have h3 := ih (p + 1) (zDn (f p) d) (zDn (f p) e) _ (by omega) (by omega) h2
      refine ⟨by omega, by omega, ?_⟩
      have h4 := h3.2.2
      rw [show p + 1 + m - zBc f m (p + 1) (zDn (f p) e) = p + (m + 1) - zBc f m (p + 1) (zDn (f p) e) from by omega, show zDn (f p) d - zDn (f p) e = d - e from by omega] at h4
      exact h4
/-- with e + c open: past the e inner ones first -/
theorem zBc_add {f : Nat → Int32} : ∀ (m p d e c : Nat) (z : Bool), 0 < e → 0 < c → e + c ≤ d → zWf f m p d z → zBc f m p (e + c) = zBc f (p + m - zBc f m p e) (zBc f m p e) c := by
  intro m
  induction m with
  | zero => intro p d e c z h0 hc hd h; have := h.1; omega
  | succ m ih =>
    intro p d e c z h0 hc hd h
    obtain ⟨h1, h2⟩ := h
    have hD := zDn_add (x := f p) (d := d) (e := e) (c := d - e) (by omega) h0
    have hE := zDn_add (x := f p) (d := e + c) (e := e) (c := c) rfl h0
    have e0 : zBc f (m + 1) p (e + c) = zBc f m (p + 1) (zDn (f p) (e + c)) := if_neg (by omega)
    rw [e0, hE]
    by_cases hz : zDn (f p) e = 0
    · have e1 : zBc f (m + 1) p e = p + 1 := if_pos hz
      rw [e1, hz, Nat.zero_add, show p + (m + 1) - (p + 1) = m from by omega]
    · have e1 : zBc f (m + 1) p e = zBc f m (p + 1) (zDn (f p) e) := if_neg hz
      rw [e1, ih (p + 1) (zDn (f p) d) (zDn (f p) e) c _ (by omega) hc (by omega) h2]
      rw [show p + 1 + m = p + (m + 1) from by omega]
/-- the facts on a place inside d > 0 open scopes -/
theorem zB_spec {f : Nat → Int32} {L p d : Nat} {z : Bool} (hp : p ≤ L) (hd : 0 < d) (h : zWf f (L - p) p d z) : p < zB f L p ∧ zB f L p ≤ L ∧ zWf f (L - zB f L p) (zB f L p) (d - 1) false := by
  have h1 := zBc_spec (L - p) p d 1 z (by decide) hd h
  rw [show p + (L - p) = L from by omega] at h1
  exact h1
/-- over an instruction -/
theorem zWf_s {f : Nat → Int32} {L p d : Nat} {z : Bool} (hp : p < L) (h : zWf f (L - p) p d z) : zOk (f p) d z ∧ zWf f (L - (p + 1)) (p + 1) (zDn (f p) d) (decide (iSign (f p) = 122)) := by
  rw [show L - p = (L - (p + 1)) + 1 from by omega] at h
  exact h
theorem zB_same {f : Nat → Int32} {L p : Nat} (hp : p < L) (h : zDn (f p) 1 = 1) : zB f L p = zB f L (p + 1) := by
  unfold zB
  rw [show L - p = (L - (p + 1)) + 1 from by omega]
  show (if zDn (f p) 1 = 0 then p + 1 else zBc f (L - (p + 1)) (p + 1) (zDn (f p) 1)) = _
  rw [h]
  rfl
theorem zB_close {f : Nat → Int32} {L p : Nat} (hp : p < L) (h : zDn (f p) 1 = 0) : zB f L p = p + 1 := by
  unfold zB
  rw [show L - p = (L - (p + 1)) + 1 from by omega]
  exact if_pos h
theorem zB_open {f : Nat → Int32} {L p d : Nat} {z : Bool} (hp : p < L) (hd : 0 < d) (hs : iSign (f p) = 40 ∨ iSign (f p) = 91 ∨ iSign (f p) = 123) (h : zWf f (L - p) p d z) : zB f L p = zB f L (zB f L (p + 1)) := by
  have h1 := zWf_s hp h
  have e1 : ∀ n, zDn (f p) n = n + 1 := fun n => if_pos hs
  have h2 := h1.2
  rw [e1] at h2
  have h3 := zBc_add (L - (p + 1)) (p + 1) (d + 1) 1 1 _ (by decide) (by decide) (by omega) h2
  rw [show p + 1 + (L - (p + 1)) = L from by omega] at h3
  unfold zB
  rw [show L - p = (L - (p + 1)) + 1 from by omega]
  show (if zDn (f p) 1 = 0 then p + 1 else zBc f (L - (p + 1)) (p + 1) (zDn (f p) 1)) = _
  rw [e1, if_neg (by decide)]
  exact h3
/-! what the class's cells keep, clause by clause, over the rows that each speaks of -/
def zV1 (t s f1 f2 f3 q e : Int32) : Prop := zN t 24 ∧ zN s 60 ∧ zN f1 660 ∧ f2 = f1 ∧ f3 = f1 ∧ zN q 24 ∧ zN e 24
def zV2 (T S : Nat) (k31 : Nat → Int32) : Prop := ∀ i, i < T → k31 i = -1 ∨ (zN (k31 i) 59 ∧ zc (k31 i) < S)
def zV3 (T S : Nat) (k29 k51 k59 k61 k65 : Nat → Int32) : Prop := ∀ i, i < T → zN (k29 i) 5 ∧ ∀ l, l < zc (k29 i) → zN (k51 (i * 5 + l)) 59 ∧ zc (k51 (i * 5 + l)) < S ∧ k59 (zc (k51 (i * 5 + l))) = nI i ∧ k61 (zc (k51 (i * 5 + l))) = nI l ∧ k65 (zc (k51 (i * 5 + l))) ≠ 2
def zV4 (T S : Nat) (k29 k51 k59 k61 k65 : Nat → Int32) : Prop := ∀ s, s < S → zN (k59 s) 23 ∧ zc (k59 s) < T ∧ zN (k61 s) 4 ∧ zN (k65 s) 2 ∧ (k65 s ≠ 2 → zc (k61 s) < zc (k29 (zc (k59 s))) ∧ k51 (zc (k59 s) * 5 + zc (k61 s)) = nI s)
def zV4b (S t : Nat) (k63 k71 : Nat → Int32) : Prop := ∀ s, s < S → (k63 s = 1 ∧ zN (k71 s) (t + 9)) ∨ (k63 s ≠ 1 ∧ k71 s = -1)
def zV5 (T S : Nat) (k23 k31 k67 k69 : Nat → Int32) : Prop := ∀ s, s < S → k67 s = nI (zSum (fun i => zI (k31 i = nI s ∧ ¬ 6 ≤ k23 i)) T) ∧ k69 s = nI (zSum (fun i => zI (k31 i = nI s)) T)
def zV6 (c T Q : Nat) (k23 k96 : Nat → Int32) : Prop := (∀ n, n < Q → ∃ i, i < T ∧ i ≠ c ∧ k96 n = nI i ∧ k23 i = 0) ∧ (∀ n m, n < m → m < Q → k96 n ≠ k96 m) ∧ Q ≤ zSum (fun i => zI (i ≠ c ∧ k23 i = 0)) T
def zV7 (T E : Nat) (k23 : Nat → Int32) : Prop := E = zSum (fun i => zI (6 ≤ k23 i)) T
def zV8 (T : Nat) (k31 k59 : Nat → Int32) : Prop := ∀ i, i < T → k31 i ≠ -1 → zc (k59 (zc (k31 i))) < i
def zV9 (T t : Nat) (k23 k43 : Nat → Int32) : Prop := ∀ i, i < T → (k23 i = 1 → zN (k43 i) (t + 9) ∧ t ≤ zc (k43 i)) ∧ (k23 i ≠ 1 → k43 i = -1)
def zV10 (T F : Nat) (k35 k37 k39 : Nat → Int32) : Prop := ∀ i, i < T → zN (k35 i) 3 ∧ (k35 i = 1 → k37 i = -1) ∧ (k35 i = 3 → zN (k39 i) 659 ∧ zc (k39 i) < F) ∧ (k35 i ≠ 3 → k39 i = -1)
def zV11 (F : Nat) (k94 : Nat → Int32) : Prop := ∀ f, f < F → k94 f = -1 ∨ (zN (k94 f) 659 ∧ zc (k94 f) < f)
/-- a task's code -/
def zCd (k56 : Nat → Int32) (i : Nat) : Nat → Int32 := fun p => k56 (i * 24 + p)
def zV12 (T : Nat) (k27 k29 k51 k54 k56 k75 : Nat → Int32) : Prop := ∀ i, i < T → zN (k54 i) 24 ∧ zN (k27 i) 24 ∧ zc (k27 i) ≤ zc (k54 i) ∧
  ∀ l, l < zc (k29 i) → zN (k75 (zc (k51 (i * 5 + l)))) 24 ∧ zc (k75 (zc (k51 (i * 5 + l)))) ≤ zc (k54 i) ∧ zc (k27 i) < zc (k75 (zc (k51 (i * 5 + l)))) ∧ zWf (zCd k56 i) (zc (k54 i) - zc (k75 (zc (k51 (i * 5 + l))))) (zc (k75 (zc (k51 (i * 5 + l))))) l false ∧
    (0 < l → zB (zCd k56 i) (zc (k54 i)) (zc (k75 (zc (k51 (i * 5 + l))))) = zc (k75 (zc (k51 (i * 5 + (l - 1))))))
/-- a task that isn't interrupted stands where its scopes say -/
def zPl (i : Nat) (k27 k29 k51 k54 k56 k75 : Nat → Int32) : Prop := zWf (zCd k56 i) (zc (k54 i) - zc (k27 i)) (zc (k27 i)) (zc (k29 i)) false ∧ (0 < zc (k29 i) → zB (zCd k56 i) (zc (k54 i)) (zc (k27 i)) = zc (k75 (zc (k51 (i * 5 + (zc (k29 i) - 1))))))
def zV12b (c T : Nat) (k27 k29 k35 k51 k54 k56 k75 : Nat → Int32) : Prop := ∀ i, i < T → i ≠ c → k35 i = 0 → zPl i k27 k29 k51 k54 k56 k75
def zV13 (k18 k20 : Nat → Int32) : Prop := ∀ q, q < 6 → zN (k18 q) 24 ∧ zWf (zCd k20 q) (zc (k18 q)) 0 0 false
def zV14 (T : Nat) (k29 k41 k51 k73 : Nat → Int32) : Prop := ∀ i, i < T → k41 i = -1 ∨ (zN (k41 i) 26 ∧ 0 < zc (k29 i) ∧ k73 (zc (k51 (i * 5 + (zc (k29 i) - 1)))) = 2)
def zV14b (S : Nat) (k73 k78 k80 : Nat → Int32) : Prop := ∀ s, s < S → zN (k73 s) 2 ∧ (k73 s ≠ 0 → zN (k78 s) 24 ∧ ∀ p, p < zc (k78 s) → iSign (k80 (s * 24 + p)) = 119 → zN (iOpnd (k80 (s * 24 + p))) 9)
def zV15 (e T S F E : Nat) (k27 k41 k73 : Nat → Int32) : Prop := F + e + zSum (fun i => zI (k41 i ≠ -1)) T ≤ zSum (fun i => zc (k27 i)) T + zSum (fun s => zI (k73 s = 2)) S + E
def zV16 (N : Nat) (t u : Int32) : Prop := zN u N ∧ zN t (9 * zc u)
def zV17 (b T U : Nat) (k23 k49 : Nat → Int32) : Prop := ∀ i, i < T → zW (k23 i) → zN (k49 i) (2 ^ 30) ∧ zc (k49 i) < U + b
def zV18 (k83 k85 : Nat → Int32) : Prop := ∀ c, c < 4 → zN (k83 c) 3 ∧ zN (k85 c) 3
def zV19 (T : Nat) (k23 k29 : Nat → Int32) : Prop := ∀ i, i < T → k23 i = 5 → 0 < zc (k29 i)
/-- who has a reason and executes no cleanup is ready, joins or has ended -/
def zV20 (T : Nat) (k23 k35 k41 : Nat → Int32) : Prop := ∀ i, i < T → k35 i ≠ 0 → k41 i = -1 → k23 i = 0 ∨ k23 i = 5 ∨ 6 ≤ k23 i
abbrev zT (k : am_M) : Nat := zc (k 21 0)
abbrev zSc (k : am_M) : Nat := zc (k 57 0)
abbrev zF (k : am_M) : Nat := zc (k 89 1)
abbrev zQ (k : am_M) : Nat := zc (k 95 1)
abbrev zE (k : am_M) : Nat := zc (k 97 1)
abbrev zt (k : am_M) : Nat := zc (k 100 5)
abbrev zU (k : am_M) : Nat := zc (k 100 6)
/-- c: the task whose turn it is (24: none); e: how many failures may come yet in this turn; b: 0 as long as none waits since this turn; N: a bound of the turns -/
def zInv (c e b N : Nat) (k : am_M) : Prop :=
  zV1 (k 21 0) (k 57 0) (k 89 1) (k 91 1) (k 93 1) (k 95 1) (k 97 1) ∧ zV2 (zT k) (zSc k) (k 31) ∧ zV3 (zT k) (zSc k) (k 29) (k 51) (k 59) (k 61) (k 65) ∧ zV4 (zT k) (zSc k) (k 29) (k 51) (k 59) (k 61) (k 65) ∧ zV4b (zSc k) (zt k) (k 63) (k 71) ∧
  zV5 (zT k) (zSc k) (k 23) (k 31) (k 67) (k 69) ∧ zV6 c (zT k) (zQ k) (k 23) (k 96) ∧ zV7 (zT k) (zE k) (k 23) ∧ zV8 (zT k) (k 31) (k 59) ∧ zV9 (zT k) (zt k) (k 23) (k 43) ∧ zV10 (zT k) (zF k) (k 35) (k 37) (k 39) ∧ zV11 (zF k) (k 94) ∧
  zV12 (zT k) (k 27) (k 29) (k 51) (k 54) (k 56) (k 75) ∧ zV12b c (zT k) (k 27) (k 29) (k 35) (k 51) (k 54) (k 56) (k 75) ∧ zV13 (k 18) (k 20) ∧ zV14 (zT k) (k 29) (k 41) (k 51) (k 73) ∧ zV14b (zSc k) (k 73) (k 78) (k 80) ∧
  zV15 e (zT k) (zSc k) (zF k) (zE k) (k 27) (k 41) (k 73) ∧ zV16 N (k 100 5) (k 100 6) ∧ zV17 b (zT k) (zU k) (k 23) (k 49) ∧ zV18 (k 83) (k 85) ∧ zV19 (zT k) (k 23) (k 29)
end ZC
