/-! the pure part: which cell of the class is which cell of the reference; what the class's cells keep -/
section ZB
abbrev zc (x : Int32) : Nat := x.toNatClampNeg
/-- from 0 to b -/
def zN (x : Int32) (b : Nat) : Prop := x = nI (zc x) ∧ zc x ≤ b
theorem zN_i {n b : Nat} (h : n ≤ b) (hn : n < 2 ^ 31) : zN (nI n) b := by unfold zN zc; rw [nI_clamp hn]; exact ⟨rfl, h⟩
theorem zc_i {n : Nat} (hn : n < 2 ^ 31) : zc (nI n) = n := nI_clamp hn
theorem zN_le {x : Int32} {b b1 : Nat} (h : zN x b) (hb : b ≤ b1) : zN x b1 := ⟨h.1, Nat.le_trans h.2 hb⟩
theorem zN_nneg {x : Int32} {b : Nat} (h : zN x b) (hb : b < 2 ^ 31) : ¬ x < 0 := by rw [h.1]; exact nI_pos (by have := h.2; omega)
theorem zN_m1 {x : Int32} {b : Nat} (h : zN x b) (hb : b < 2 ^ 31) : x ≠ -1 := fun e => zN_nneg h hb (by rw [e]; decide)
theorem zN_n0 {x : Int32} {b : Nat} (h : zN x b) (h0 : x ≠ 0) : 0 < zc x := by
  rcases Nat.eq_zero_or_pos (zc x) with e | e
  · exfalso; apply h0; rw [h.1, e]; rfl
  · exact e
theorem nI_inj {a b : Nat} (ha : a < 2 ^ 31) (hb : b < 2 ^ 31) (h : nI a = nI b) : a = b := (nI_eq ha hb).mp h
theorem nI_m1 {a : Nat} (ha : a < 2 ^ 31) : nI a ≠ -1 := fun e => nI_pos ha (by rw [e]; decide)
/-- the places that are the same number on both sides -/
def zCo (a j m : Nat) : Prop :=
  (a = 21 ∧ j = 0 ∧ m = 170) ∨ (a = 57 ∧ j = 0 ∧ m = 171) ∨ (a = 89 ∧ j = 1 ∧ m = 172) ∨ (a = 95 ∧ j = 1 ∧ m = 173) ∨ (a = 97 ∧ j = 1 ∧ m = 174) ∨
  (a = 100 ∧ 5 ≤ j ∧ j < 12 ∧ j ≠ 6 ∧ m = 170 + j) ∨ (a = 96 ∧ j < 24 ∧ m = 183 + j) ∨ (a = 98 ∧ j < 24 ∧ m = 207 + j) ∨
  (23 ≤ a ∧ a ≤ 37 ∧ a % 2 = 1 ∧ j < 24 ∧ m = 231 + 45 * j + (a - 23) / 2) ∨
  (a = 51 ∧ j < 120 ∧ m = 246 + 45 * (j / 5) + j % 5) ∨ (a = 54 ∧ j < 24 ∧ m = 251 + 45 * j) ∨
  (a = 56 ∧ j < 576 ∧ m = 252 + 45 * (j / 24) + j % 24) ∨
  (59 ≤ a ∧ a ≤ 65 ∧ a % 2 = 1 ∧ j < 60 ∧ m = 1311 + 32 * j + (a - 59) / 2) ∨
  (71 ≤ a ∧ a ≤ 75 ∧ a % 2 = 1 ∧ j < 60 ∧ m = 1315 + 32 * j + (a - 71) / 2) ∨
  (90 ≤ a ∧ a ≤ 94 ∧ a % 2 = 0 ∧ j < 660 ∧ m = 3231 + 3 * j + (a - 90) / 2) ∨
  (83 ≤ a ∧ a ≤ 85 ∧ a % 2 = 1 ∧ j < 4 ∧ m = 150 + 5 * j + (a - 83) / 2) ∨
  (a = 87 ∧ j < 12 ∧ m = 152 + 5 * (j / 3) + j % 3) ∨ (a = 18 ∧ j < 6 ∧ m = 25 * j) ∨
  (a = 20 ∧ j < 144 ∧ m = 1 + 25 * (j / 24) + j % 24)
/-- the places of the reference that hold other numbers than the class's -/
def zIx (m : Nat) : Prop := m = 182 ∨ m = 176 ∨ (231 ≤ m ∧ m < 1311 ∧ 8 ≤ (m - 231) % 45 ∧ (m - 231) % 45 < 15) ∨ (1311 ≤ m ∧ m < 3231 ∧ 7 ≤ (m - 1311) % 32)
theorem zCo_fw {a j m m1 : Nat} (h : zCo a j m) (h1 : zCo a j m1) : m = m1 := by
  unfold zCo at h h1
  rcases h with h | h | h | h | h | h | h | h | h | h | h | h | h | h | h | h | h | h | h <;> omega
theorem zCo_bw {a j m a1 j1 : Nat} (h : zCo a j m) (h1 : zCo a1 j1 m) : a1 = a ∧ j1 = j := by
  unfold zCo at h h1
  rcases h with h | h | h | h | h | h | h | h | h | h | h | h | h | h | h | h | h | h | h <;> rcases h1 with h1 | h1 | h1 | h1 | h1 | h1 | h1 | h1 | h1 | h1 | h1 | h1 | h1 | h1 | h1 | h1 | h1 | h1 | h1 <;> omega
theorem zCo_ix {a j m : Nat} (h : zCo a j m) : ¬ zIx m := by
  unfold zCo at h
  unfold zIx
  rcases h with h | h | h | h | h | h | h | h | h | h | h | h | h | h | h | h | h | h | h <;> omega
theorem zCo_a {a j m : Nat} (h : zCo a j m) : a ≠ 39 ∧ a ≠ 41 ∧ a ≠ 43 ∧ a ≠ 45 ∧ a ≠ 47 ∧ a ≠ 49 ∧ a ≠ 67 ∧ a ≠ 69 ∧ a ≠ 78 ∧ a ≠ 80 ∧ a ≠ 91 ∧ a ≠ 93 := by
  unfold zCo at h
  rcases h with h | h | h | h | h | h | h | h | h | h | h | h | h | h | h | h | h | h | h <;> omega
theorem zCo_lt {a j m : Nat} (h : zCo a j m) : m < 9231 := by
  unfold zCo at h
  rcases h with h | h | h | h | h | h | h | h | h | h | h | h | h | h | h | h | h | h | h <;> omega
/-- the places that count now, by the sizes -/
def zIn (d : Nat → Nat → Nat) (a j : Nat) : Prop :=
  (a = 96 → j < d 3 0) ∧ (a = 98 → j < d 4 0) ∧ ((23 ≤ a ∧ a ≤ 37) ∨ a = 54 → j < d 0 0) ∧ (a = 51 → j / 5 < d 0 0 ∧ j % 5 < d 5 (j / 5)) ∧ (a = 56 → j / 24 < d 0 0 ∧ j % 24 < d 6 (j / 24)) ∧
  ((59 ≤ a ∧ a ≤ 75) → j < d 1 0) ∧ ((90 ≤ a ∧ a ≤ 94) → j < d 2 0) ∧ (a = 87 → j % 3 < d 8 (j / 3)) ∧ (a = 20 → j % 24 < d 7 (j / 24))
/-- the sizes: tasks, scopes, failures, queue, endings; depths, lengths of codes, of programs, of channels -/
def zd (k : am_M) : Nat → Nat → Nat
  | 0, _ => zc (k 21 0)
  | 1, _ => zc (k 57 0)
  | 2, _ => zc (k 89 1)
  | 3, _ => zc (k 95 1)
  | 4, _ => zc (k 97 1)
  | 5, i => zc (k 29 i)
  | 6, i => zc (k 54 i)
  | 7, q => zc (k 18 q)
  | _, c => zc (k 85 c)
def zS1 (d : Nat → Nat → Nat) (k : am_M) (g : Nat → Int32) : Prop := ∀ a j m, zCo a j m → zIn d a j → g m = k a j
theorem zS1_up {d : Nat → Nat → Nat} {k : am_M} {g : Nat → Int32} {a j m : Nat} {v : Int32} (h : zS1 d k g) (hd : zCo a j m) : zS1 d (am_up k a j v) (upd g m v) := by
  intro a2 j2 m2 h2 h3
  by_cases e : m2 = m
  · subst e
    obtain ⟨rfl, rfl⟩ := zCo_bw hd h2
    rw [zup_ss, pk_us]
  · rw [pk_un e, h a2 j2 m2 h2 h3]
    by_cases ea : a2 = a
    · subst ea
      have ej : j2 ≠ j := fun z => e (by subst z; exact zCo_fw h2 hd)
      rw [zup_sn _ ej]
    · rw [zup_n _ _ ea]
/-- a cell of the class that has no place of its own -/
theorem zS1_k {d : Nat → Nat → Nat} {k : am_M} {g : Nat → Int32} {a j : Nat} {v : Int32} (h : zS1 d k g) (ha : a = 39 ∨ a = 41 ∨ a = 43 ∨ a = 45 ∨ a = 47 ∨ a = 49 ∨ a = 67 ∨ a = 69 ∨ a = 78 ∨ a = 80 ∨ a = 91 ∨ a = 93) : zS1 d (am_up k a j v) g := by
  intro a2 j2 m2 h2 h3
  have h4 := zCo_a h2
  rw [h a2 j2 m2 h2 h3, zup_n _ _ (by omega)]
theorem zS1_g {d : Nat → Nat → Nat} {k : am_M} {g : Nat → Int32} {m : Nat} {v : Int32} (h : zS1 d k g) (hm : zIx m) : zS1 d k (upd g m v) := by
  intro a2 j2 m2 h2 h3
  rw [pk_un (fun z : m2 = m => zCo_ix h2 (by rw [z]; exact hm)), h a2 j2 m2 h2 h3]
theorem zS1_d {d d1 : Nat → Nat → Nat} {k : am_M} {g : Nat → Int32} (h : zS1 d k g) (hd : ∀ a j m, zCo a j m → zIn d1 a j → zIn d a j ∨ g m = k a j) : zS1 d1 k g := fun a j m h2 h3 => (hd a j m h2 h3).elim (h a j m h2) id
def zW (v : Int32) : Prop := v = 2 ∨ v = 3 ∨ v = 4
def zZa (T : Nat) (k35 k39 g : Nat → Int32) : Prop := ∀ i, i < T → k35 i ≠ 0 → g (239 + 45 * i) = k39 i
def zZb (T : Nat) (k41 g : Nat → Int32) : Prop := ∀ i, i < T → (k41 i = -1 → g (240 + 45 * i) = 0) ∧ (k41 i ≠ -1 → g (240 + 45 * i) = 1 ∧ g (241 + 45 * i) = k41 i)
def zZc (T : Nat) (k23 k43 g : Nat → Int32) : Prop := ∀ i, i < T → k23 i = 1 → g (242 + 45 * i) = k43 i
def zZd (T : Nat) (k23 k45 k47 g : Nat → Int32) : Prop := ∀ i, i < T → (zW (k23 i) → g (243 + 45 * i) = k45 i) ∧ (k23 i = 3 → k47 i = k45 i ∧ g (244 + 45 * i) = -1) ∧ (k23 i = 4 → g (244 + 45 * i) = k47 i)
def zZe (b T U : Nat) (k23 k49 g : Nat → Int32) : Prop := (zN (g 182) (2 ^ 30) ∧ zc (g 182) < U + b % 2) ∧ (∀ i, i < T → zW (k23 i) → (zN (g (245 + 45 * i)) (2 ^ 30) ∧ zc (g (245 + 45 * i)) < zc (g 182)) ∧ zN (k49 i) (2 ^ 30) ∧ zc (k49 i) < U + b % 2) ∧
  ∀ i j, i < T → j < T → zW (k23 i) → zW (k23 j) → (g (245 + 45 * i) < g (245 + 45 * j) ↔ k49 i < k49 j)
def zZf (S : Nat) (k73 k78 k80 g : Nat → Int32) : Prop := ∀ s, s < S → k73 s ≠ 0 → g (1318 + 32 * s) = k78 s ∧ ∀ p, p < 24 → p < zc (k78 s) → g (1319 + 32 * s + p) = k80 (s * 24 + p)
/-- the turns: the class counts one as it begins, the reference as it ends; b: 2 as long as one is made, 1 as soon as someone may wait since this turn -/
def zZt (b : Nat) (u : Int32) (g : Nat → Int32) : Prop := g 176 + nI (b / 2) = u
def zS2 (b : Nat) (k : am_M) (g : Nat → Int32) : Prop :=
  zZa (zc (k 21 0)) (k 35) (k 39) g ∧ zZb (zc (k 21 0)) (k 41) g ∧ zZc (zc (k 21 0)) (k 23) (k 43) g ∧ zZd (zc (k 21 0)) (k 23) (k 45) (k 47) g ∧ zZe b (zc (k 21 0)) (zc (k 100 6)) (k 23) (k 49) g ∧ zZf (zc (k 57 0)) (k 73) (k 78) (k 80) g ∧ zZt b (k 100 6) g
def zSim (b : Nat) (k : am_M) (g : Nat → Int32) : Prop := zS1 (zd k) k g ∧ zS2 b k g
/-- the reference's other places are the same -/
def zEx (g g1 : Nat → Int32) : Prop := ∀ m, zIx m → g1 m = g m
theorem zEx.rf (g : Nat → Int32) : zEx g g := fun _ _ => rfl
theorem zEx.tr {g g1 g2 : Nat → Int32} (h : zEx g g1) (h1 : zEx g1 g2) : zEx g g2 := fun m hm => (h1 m hm).trans (h m hm)
theorem zEx.up {g : Nat → Int32} {a j m : Nat} {v : Int32} (h : zCo a j m) : zEx g (upd g m v) := fun m1 h1 => pk_un (fun z : m1 = m => zCo_ix h (by rw [← z]; exact h1))
theorem zIx_t {i w : Nat} (hi : i < 24) (h8 : 8 ≤ w) (hw : w < 15) {m : Nat} (hm : m = 231 + 45 * i + w) : zIx m := by subst hm; unfold zIx; right; right; left; omega
theorem zIx_s {s p : Nat} (hs : s < 60) (hp : p < 25) {m : Nat} (hm : m = 1318 + 32 * s + p) : zIx m := by subst hm; unfold zIx; right; right; right; omega
theorem zZa.g {T : Nat} {k35 k39 g g1 : Nat → Int32} (hT : T ≤ 24) (h : zZa T k35 k39 g) (e : zEx g g1) : zZa T k35 k39 g1 := fun i hi h0 => (e _ (zIx_t (i := i) (w := 8) (by omega) (by decide) (by decide) (by omega))).trans (h i hi h0)
theorem zZb.g {T : Nat} {k41 g g1 : Nat → Int32} (hT : T ≤ 24) (h : zZb T k41 g) (e : zEx g g1) : zZb T k41 g1 := fun i hi =>
  ⟨fun h0 => (e _ (zIx_t (i := i) (w := 9) (by omega) (by decide) (by decide) (by omega))).trans ((h i hi).1 h0), fun h0 => ⟨(e _ (zIx_t (i := i) (w := 9) (by omega) (by decide) (by decide) (by omega))).trans ((h i hi).2 h0).1, (e _ (zIx_t (i := i) (w := 10) (by omega) (by decide) (by decide) (by omega))).trans ((h i hi).2 h0).2⟩⟩
theorem zZc.g {T : Nat} {k23 k43 g g1 : Nat → Int32} (hT : T ≤ 24) (h : zZc T k23 k43 g) (e : zEx g g1) : zZc T k23 k43 g1 := fun i hi h0 => (e _ (zIx_t (i := i) (w := 11) (by omega) (by decide) (by decide) (by omega))).trans (h i hi h0)
theorem zZd.g {T : Nat} {k23 k45 k47 g g1 : Nat → Int32} (hT : T ≤ 24) (h : zZd T k23 k45 k47 g) (e : zEx g g1) : zZd T k23 k45 k47 g1 := fun i hi =>
  have e3 := e _ (zIx_t (i := i) (w := 12) (m := 243 + 45 * i) (by omega) (by decide) (by decide) (by omega))
  have e4 := e _ (zIx_t (i := i) (w := 13) (m := 244 + 45 * i) (by omega) (by decide) (by decide) (by omega))
  ⟨fun h0 => e3.trans ((h i hi).1 h0), fun h0 => ⟨((h i hi).2.1 h0).1, e4.trans ((h i hi).2.1 h0).2⟩, fun h0 => e4.trans ((h i hi).2.2 h0)⟩
theorem zZe.g {b T U : Nat} {k23 k49 g g1 : Nat → Int32} (hT : T ≤ 24) (h : zZe b T U k23 k49 g) (e : zEx g g1) : zZe b T U k23 k49 g1 := by
  have e0 : g1 182 = g 182 := e _ (Or.inl rfl)
  have e1 : ∀ i, i < T → g1 (245 + 45 * i) = g (245 + 45 * i) := fun i hi => e _ (zIx_t (i := i) (w := 14) (by omega) (by decide) (by decide) (by omega))
  obtain ⟨h0, h1, h2⟩ := h
  refine ⟨by rw [e0]; exact h0, fun i hi hw => by rw [e0, e1 i hi]; exact h1 i hi hw, fun i j hi hj hw hv => by rw [e1 i hi, e1 j hj]; exact h2 i j hi hj hw hv⟩
theorem zZf.g {S : Nat} {k73 k78 k80 g g1 : Nat → Int32} (hS : S ≤ 60) (h : zZf S k73 k78 k80 g) (e : zEx g g1) : zZf S k73 k78 k80 g1 := fun s hs h0 =>
  ⟨(e _ (zIx_s (s := s) (p := 0) (by omega) (by decide) (by omega))).trans (h s hs h0).1, fun p hp hl => (e _ (zIx_s (s := s) (p := p + 1) (by omega) (by omega) (by omega))).trans ((h s hs h0).2 p hp hl)⟩
theorem zZt.g {b : Nat} {u : Int32} {g g1 : Nat → Int32} (h : zZt b u g) (e : zEx g g1) : zZt b u g1 := by unfold zZt; rw [e 176 (Or.inr (Or.inl rfl))]; exact h
theorem zS2.g {b : Nat} {k : am_M} {g g1 : Nat → Int32} (hT : zc (k 21 0) ≤ 24) (hS : zc (k 57 0) ≤ 60) (h : zS2 b k g) (e : zEx g g1) : zS2 b k g1 :=
  ⟨h.1.g hT e, h.2.1.g hT e, h.2.2.1.g hT e, h.2.2.2.1.g hT e, h.2.2.2.2.1.g hT e, h.2.2.2.2.2.1.g hS e, h.2.2.2.2.2.2.g e⟩
end ZB
