/-! tasks started: both sides -/
section ZG1
variable {σ : am_M} {g : Nat → Int32} {R : am_R}
theorem zCo_par {a j m : Nat} (h : zCo a j m) (h1 : 23 ≤ a) (h2 : a ≤ 37) : (a = 23 ∨ a = 25 ∨ a = 27 ∨ a = 29 ∨ a = 31 ∨ a = 33 ∨ a = 35 ∨ a = 37) ∧ m = 231 + 45 * j + (a - 23) / 2 := by
  unfold zCo at h
  rcases h with h | h | h | h | h | h | h | h | h | h | h | h | h | h | h | h | h | h | h <;> omega
/-- the array behind a start -/
theorem zSim.start {c e b w N q : Nat} {k k1 : am_M} {h : Int32} {g1 : Nat → Int32} (H : zSim b k g) (I : zInv c e w N k) (hT : zT k < 24) (hq : q < 6) (E : ∀ a, a ≠ 67 → a ≠ 69 → k1 a = yStart k (zT k) (zQ k) q h a)
    (G1 : ∀ m, m ≠ 170 → m ≠ 173 → m ≠ 183 + zQ k → (m < 231 + 45 * zT k ∨ 276 + 45 * zT k ≤ m) → g1 m = g m) (G2 : g1 170 = nI (zT k + 1) ∧ g1 173 = nI (zQ k + 1) ∧ g1 (183 + zQ k) = nI (zT k)) (G3 : ∀ x, x < 20 → g1 (231 + 45 * zT k + x) = if x = 4 then h else if x = 7 then -2 else 0) (G4 : ∀ x, x < 25 → g1 (251 + 45 * zT k + x) = g (25 * q + x)) : zSim b k1 g1 := by
  have p1 := I.prg hq
  have hQ := I.Qlt hT
  have P := H.prg hq
  have hSc : zSc k ≤ 60 := I.1.2.1.2
  obtain ⟨R0, Rj, r21, r23, r25, r27, r29, r31, r33, r35, r37, r39, r41, r43, r54, r56, r95, r96⟩ := I.srows (h := h) hT hq
  have e21 : k1 21 0 = nI (zT k + 1) := (congrFun (E 21 (by decide) (by decide)) 0).trans r21
  have eT : zT k1 = zT k + 1 := by show zc (k1 21 0) = _; rw [e21, zc_i (by omega)]
  have K0 : ∀ a, a ≠ 67 → a ≠ 69 → (a = 57 ∨ a = 89 ∨ a = 97 ∨ a = 100 ∨ a = 51 ∨ a = 59 ∨ a = 61 ∨ a = 63 ∨ a = 65 ∨ a = 71 ∨ a = 73 ∨ a = 75 ∨ a = 78 ∨ a = 80 ∨ a = 90 ∨ a = 92 ∨ a = 94 ∨ a = 18 ∨ a = 20 ∨ a = 49 ∨ a = 83 ∨ a = 85 ∨ a = 87 ∨ a = 98 ∨ a = 45 ∨ a = 47) → k1 a = k a := fun a x1 x2 x => (E a x1 x2).trans (R0 a (by omega) (by omega) (by omega) (by omega) (by omega) (by omega) (by omega) (by omega) (by omega) (by omega) (by omega) (by omega) (by omega) (by omega) (by omega) (by omega))
  have Kj : ∀ a j, j ≠ zT k → a ≠ 67 → a ≠ 69 → a ≠ 21 → a ≠ 56 → a ≠ 95 → a ≠ 96 → k1 a j = k a j := fun a j hj x1 x2 h1 h2 h3 h4 => (congrFun (E a x1 x2) j).trans (Rj a j hj h1 h2 h3 h4)
  have s23 : k1 23 (zT k) = 0 := (congrFun (E 23 (by decide) (by decide)) _).trans r23
  have s25 : k1 25 (zT k) = 0 := (congrFun (E 25 (by decide) (by decide)) _).trans r25
  have s27 : k1 27 (zT k) = 0 := (congrFun (E 27 (by decide) (by decide)) _).trans r27
  have s29 : k1 29 (zT k) = 0 := (congrFun (E 29 (by decide) (by decide)) _).trans r29
  have s31 : k1 31 (zT k) = h := (congrFun (E 31 (by decide) (by decide)) _).trans r31
  have s33 : k1 33 (zT k) = 0 := (congrFun (E 33 (by decide) (by decide)) _).trans r33
  have s35 : k1 35 (zT k) = 0 := (congrFun (E 35 (by decide) (by decide)) _).trans r35
  have s37 : k1 37 (zT k) = -2 := (congrFun (E 37 (by decide) (by decide)) _).trans r37
  have s41 : k1 41 (zT k) = -1 := (congrFun (E 41 (by decide) (by decide)) _).trans r41
  have s54 : k1 54 (zT k) = k 18 q := (congrFun (E 54 (by decide) (by decide)) _).trans r54
  have s56 : ∀ j, k1 56 j = if zT k * 24 ≤ j ∧ j < zT k * 24 + zc (k 18 q) then k 20 (q * 24 + (j - zT k * 24)) else k 56 j := fun j => (congrFun (E 56 (by decide) (by decide)) j).trans (r56 j)
  have s95 : k1 95 1 = nI (zQ k + 1) := (congrFun (E 95 (by decide) (by decide)) 1).trans r95
  have s96 : k1 96 = upd (k 96) (zQ k) (nI (zT k)) := (E 96 (by decide) (by decide)).trans r96
  have p24 := p1.1.2
  have q0 : zd k1 0 0 = zT k + 1 := eT
  have q1 : zd k1 1 0 = zd k 1 0 := congrArg zc (congrFun (K0 57 (by decide) (by decide) (by decide)) 0)
  have q2 : zd k1 2 0 = zd k 2 0 := congrArg zc (congrFun (K0 89 (by decide) (by decide) (by decide)) 1)
  have q3 : zd k1 3 0 = zQ k + 1 := by show zc (k1 95 1) = _; rw [s95, zc_i (by omega)]
  have q4 : zd k1 4 0 = zd k 4 0 := congrArg zc (congrFun (K0 97 (by decide) (by decide) (by decide)) 1)
  have q5 : ∀ x, x ≠ zT k → zd k1 5 x = zd k 5 x := fun x hx => congrArg zc (Kj 29 x hx (by decide) (by decide) (by decide) (by decide) (by decide) (by decide))
  have q5t : zd k1 5 (zT k) = 0 := congrArg zc s29
  have q6 : ∀ x, x ≠ zT k → zd k1 6 x = zd k 6 x := fun x hx => congrArg zc (Kj 54 x hx (by decide) (by decide) (by decide) (by decide) (by decide) (by decide))
  have q6t : zd k1 6 (zT k) = zc (k 18 q) := congrArg zc s54
  have q7 : ∀ x, zd k1 7 x = zd k 7 x := fun x => congrArg zc (congrFun (K0 18 (by decide) (by decide) (by decide)) x)
  have q8 : ∀ x, zd k1 8 x = zd k 8 x := fun x => by rw [zd_8, zd_8]; exact congrArg zc (congrFun (K0 85 (by decide) (by decide) (by decide)) x)
  refine ⟨fun a j m hc hn => ?_, ?_⟩
  · have hc0 := hc
    unfold zIn at hn
    rw [q0, q1, q2, q3, q4] at hn
    obtain ⟨n1, n2, n3, n4, n5, n6, n7, n8, n9⟩ := hn
    have old : (k1 a j = k a j) → (m ≠ 170 ∧ m ≠ 173 ∧ m ≠ 183 + zQ k ∧ (m < 231 + 45 * zT k ∨ 276 + 45 * zT k ≤ m)) → zIn (zd k) a j → g1 m = k1 a j := fun h1 h2 h3 => by rw [h1, G1 m h2.1 h2.2.1 h2.2.2.1 h2.2.2.2]; exact H.1 a j m hc0 h3
    unfold zCo at hc
    rcases hc with hc | hc | hc | hc | hc | hc | hc | hc | hc | hc | hc | hc | hc | hc | hc | hc | hc | hc | hc
    · obtain ⟨rfl, rfl, rfl⟩ := hc; rw [e21]; exact G2.1
    · obtain ⟨rfl, rfl, rfl⟩ := hc
      exact old (congrFun (K0 57 (by decide) (by decide) (by decide)) 0) (by omega) ⟨fun q => by omega, fun q => by omega, fun q => by omega, fun q => by omega, fun q => by omega, fun q => by omega, fun q => by omega, fun q => by omega, fun q => by omega⟩
    · obtain ⟨rfl, rfl, rfl⟩ := hc
      exact old (congrFun (K0 89 (by decide) (by decide) (by decide)) 1) (by omega) ⟨fun q => by omega, fun q => by omega, fun q => by omega, fun q => by omega, fun q => by omega, fun q => by omega, fun q => by omega, fun q => by omega, fun q => by omega⟩
    · obtain ⟨rfl, rfl, rfl⟩ := hc; rw [s95]; exact G2.2.1
    · obtain ⟨rfl, rfl, rfl⟩ := hc
      exact old (congrFun (K0 97 (by decide) (by decide) (by decide)) 1) (by omega) ⟨fun q => by omega, fun q => by omega, fun q => by omega, fun q => by omega, fun q => by omega, fun q => by omega, fun q => by omega, fun q => by omega, fun q => by omega⟩
    · obtain ⟨rfl, h5, h6, h7, rfl⟩ := hc
      exact old (congrFun (K0 100 (by decide) (by decide) (by decide)) j) (by omega) ⟨fun q => by omega, fun q => by omega, fun q => by omega, fun q => by omega, fun q => by omega, fun q => by omega, fun q => by omega, fun q => by omega, fun q => by omega⟩
    · obtain ⟨rfl, h5, rfl⟩ := hc
      rw [s96]
      by_cases ej : j = zQ k
      · subst ej; rw [pk_us]; exact G2.2.2
      · rw [pk_un ej, G1 _ (by omega) (by omega) (by omega) (by omega)]
        exact H.qn (by have := n1 rfl; omega) h5
    · obtain ⟨rfl, h5, rfl⟩ := hc
      exact old (congrFun (K0 98 (by decide) (by decide) (by decide)) j) (by omega) ⟨fun q => by omega, fun _ => n2 rfl, fun q => by omega, fun q => by omega, fun q => by omega, fun q => by omega, fun q => by omega, fun q => by omega, fun q => by omega⟩
    · obtain ⟨h5, h6, h7, h8, rfl⟩ := hc
      by_cases ej : j = zT k
      · subst ej
        rw [G3 _ (by omega)]
        obtain ⟨pa, _⟩ := zCo_par hc0 h5 h6
        rcases pa with rfl | rfl | rfl | rfl | rfl | rfl | rfl | rfl
        · rw [s23]; rfl
        · rw [s25]; rfl
        · rw [s27]; rfl
        · rw [s29]; rfl
        · rw [s31]; rfl
        · rw [s33]; rfl
        · rw [s35]; rfl
        · rw [s37]; rfl
      · refine old (Kj a j ej (by omega) (by omega) (by omega) (by omega) (by omega) (by omega)) (by omega) ⟨fun q => by omega, fun q => by omega, fun _ => ?_, fun q => by omega, fun q => by omega, fun q => by omega, fun q => by omega, fun q => by omega, fun q => by omega⟩
        have := n3 (Or.inl ⟨h5, h6⟩)
        show j < zT k
        omega
    · obtain ⟨rfl, h5, rfl⟩ := hc
      have n4 := n4 rfl
      by_cases ej : j / 5 = zT k
      · rw [ej, q5t] at n4; omega
      · rw [q5 _ ej] at n4
        refine old (congrFun (K0 51 (by decide) (by decide) (by decide)) j) (by omega) ⟨fun q => by omega, fun q => by omega, fun q => by omega, fun _ => ⟨?_, n4.2⟩, fun q => by omega, fun q => by omega, fun q => by omega, fun q => by omega, fun q => by omega⟩
        show j / 5 < zT k
        omega
    · obtain ⟨rfl, h5, rfl⟩ := hc
      by_cases ej : j = zT k
      · subst ej; rw [s54, show 251 + 45 * zT k = 251 + 45 * zT k + 0 from rfl, G4 0 (by decide)]; exact P.1
      · refine old (Kj 54 j ej (by decide) (by decide) (by decide) (by decide) (by decide) (by decide)) (by omega) ⟨fun q => by omega, fun q => by omega, fun _ => ?_, fun q => by omega, fun q => by omega, fun q => by omega, fun q => by omega, fun q => by omega, fun q => by omega⟩
        have := n3 (Or.inr rfl)
        show j < zT k
        omega
    · obtain ⟨rfl, h5, rfl⟩ := hc
      have n5 := n5 rfl
      by_cases ej : j / 24 = zT k
      · rw [ej, q6t] at n5
        rw [s56, if_pos (by omega), show 252 + 45 * (j / 24) + j % 24 = 251 + 45 * zT k + (j % 24 + 1) from by omega, G4 _ (by omega), show 25 * q + (j % 24 + 1) = 1 + 25 * q + j % 24 from by omega, P.2 _ (by omega) n5.2]
        congr 1; omega
      · rw [q6 _ ej] at n5
        refine old (by rw [s56, if_neg (by omega)]) (by omega) ⟨fun q => by omega, fun q => by omega, fun q => by omega, fun q => by omega, fun _ => ⟨?_, n5.2⟩, fun q => by omega, fun q => by omega, fun q => by omega, fun q => by omega⟩
        show j / 24 < zT k
        omega
    · obtain ⟨h5, h6, h7, h8, rfl⟩ := hc
      exact old (congrFun (K0 a (by omega) (by omega) (by omega)) j) (by omega) ⟨fun q => by omega, fun q => by omega, fun q => by omega, fun q => by omega, fun q => by omega, fun _ => n6 (by omega), fun q => by omega, fun q => by omega, fun q => by omega⟩
    · obtain ⟨h5, h6, h7, h8, rfl⟩ := hc
      exact old (congrFun (K0 a (by omega) (by omega) (by omega)) j) (by omega) ⟨fun q => by omega, fun q => by omega, fun q => by omega, fun q => by omega, fun q => by omega, fun _ => n6 (by omega), fun q => by omega, fun q => by omega, fun q => by omega⟩
    · obtain ⟨h5, h6, h7, h8, rfl⟩ := hc
      exact old (congrFun (K0 a (by omega) (by omega) (by omega)) j) (by omega) ⟨fun q => by omega, fun q => by omega, fun q => by omega, fun q => by omega, fun q => by omega, fun q => by omega, fun _ => n7 (by omega), fun q => by omega, fun q => by omega⟩
    · obtain ⟨h5, h6, h7, h8, rfl⟩ := hc
      exact old (congrFun (K0 a (by omega) (by omega) (by omega)) j) (by omega) ⟨fun q => by omega, fun q => by omega, fun q => by omega, fun q => by omega, fun q => by omega, fun q => by omega, fun q => by omega, fun q => by omega, fun q => by omega⟩
    · obtain ⟨rfl, h5, rfl⟩ := hc
      exact old (congrFun (K0 87 (by decide) (by decide) (by decide)) j) (by omega) ⟨fun q => by omega, fun q => by omega, fun q => by omega, fun q => by omega, fun q => by omega, fun q => by omega, fun q => by omega, fun _ => by rw [← q8]; exact n8 rfl, fun q => by omega⟩
    · obtain ⟨rfl, h5, rfl⟩ := hc
      exact old (congrFun (K0 18 (by decide) (by decide) (by decide)) j) (by omega) ⟨fun q => by omega, fun q => by omega, fun q => by omega, fun q => by omega, fun q => by omega, fun q => by omega, fun q => by omega, fun q => by omega, fun q => by omega⟩
    · obtain ⟨rfl, h5, rfl⟩ := hc
      exact old (congrFun (K0 20 (by decide) (by decide) (by decide)) j) (by omega) ⟨fun q => by omega, fun q => by omega, fun q => by omega, fun q => by omega, fun q => by omega, fun q => by omega, fun q => by omega, fun q => by omega, fun _ => by rw [← q7]; exact n9 rfl⟩
  · obtain ⟨ha, hb, hcc, hd, he, hf, hu⟩ := H.2
    have Z : ∀ j w, j < zT k → w < 45 → g1 (231 + 45 * j + w) = g (231 + 45 * j + w) := fun j w hj hw => G1 _ (by omega) (by omega) (by omega) (by omega)
    have lt1 : ∀ j, j < zc (k1 21 0) → j ≠ zT k → j < zT k := fun j h1 h2 => by have : j < zT k1 := h1; omega
    unfold zS2
    rw [K0 57 (by decide) (by decide) (by decide), K0 45 (by decide) (by decide) (by decide), K0 47 (by decide) (by decide) (by decide), K0 49 (by decide) (by decide) (by decide), K0 73 (by decide) (by decide) (by decide), K0 78 (by decide) (by decide) (by decide), K0 80 (by decide) (by decide) (by decide), K0 100 (by decide) (by decide) (by decide)]
    refine ⟨fun j hj q => ?_, fun j hj => ?_, fun j hj q => ?_, fun j hj => ?_, ⟨?_, fun j hj q => ?_, fun j j1 hj hj1 q q1 => ?_⟩, fun s hs q => ?_, ?_⟩
    · by_cases ej : j = zT k
      · rw [ej, s35] at q; exact absurd rfl q
      · rw [Kj 35 j ej (by decide) (by decide) (by decide) (by decide) (by decide) (by decide)] at q
        rw [Kj 39 j ej (by decide) (by decide) (by decide) (by decide) (by decide) (by decide), show 239 + 45 * j = 231 + 45 * j + 8 from by omega, Z j 8 (lt1 j hj ej) (by decide), show 231 + 45 * j + 8 = 239 + 45 * j from by omega]
        exact ha j (lt1 j hj ej) q
    · by_cases ej : j = zT k
      · rw [ej, s41]
        refine ⟨fun _ => ?_, fun z => absurd rfl z⟩
        rw [show 240 + 45 * zT k = 231 + 45 * zT k + 9 from by omega, G3 9 (by decide)]; rfl
      · rw [Kj 41 j ej (by decide) (by decide) (by decide) (by decide) (by decide) (by decide), show 240 + 45 * j = 231 + 45 * j + 9 from by omega, show 241 + 45 * j = 231 + 45 * j + 10 from by omega, Z j 9 (lt1 j hj ej) (by decide), Z j 10 (lt1 j hj ej) (by decide), show 231 + 45 * j + 9 = 240 + 45 * j from by omega, show 231 + 45 * j + 10 = 241 + 45 * j from by omega]
        exact hb j (lt1 j hj ej)
    · by_cases ej : j = zT k
      · rw [ej, s23] at q; exact absurd q (by decide)
      · rw [Kj 23 j ej (by decide) (by decide) (by decide) (by decide) (by decide) (by decide)] at q
        rw [Kj 43 j ej (by decide) (by decide) (by decide) (by decide) (by decide) (by decide), show 242 + 45 * j = 231 + 45 * j + 11 from by omega, Z j 11 (lt1 j hj ej) (by decide), show 231 + 45 * j + 11 = 242 + 45 * j from by omega]
        exact hcc j (lt1 j hj ej) q
    · by_cases ej : j = zT k
      · rw [ej, s23]
        exact ⟨fun z => absurd z (by unfold zW; decide), fun z => absurd z (by decide), fun z => absurd z (by decide)⟩
      · rw [Kj 23 j ej (by decide) (by decide) (by decide) (by decide) (by decide) (by decide), show 243 + 45 * j = 231 + 45 * j + 12 from by omega, show 244 + 45 * j = 231 + 45 * j + 13 from by omega, Z j 12 (lt1 j hj ej) (by decide), Z j 13 (lt1 j hj ej) (by decide), show 231 + 45 * j + 12 = 243 + 45 * j from by omega, show 231 + 45 * j + 13 = 244 + 45 * j from by omega]
        exact hd j (lt1 j hj ej)
    · rw [G1 182 (by decide) (by decide) (by omega) (by omega)]; exact he.1
    · by_cases ej : j = zT k
      · rw [ej, s23] at q; exact absurd q (by unfold zW; decide)
      · rw [Kj 23 j ej (by decide) (by decide) (by decide) (by decide) (by decide) (by decide)] at q
        rw [G1 182 (by decide) (by decide) (by omega) (by omega), show 245 + 45 * j = 231 + 45 * j + 14 from by omega, Z j 14 (lt1 j hj ej) (by decide), show 231 + 45 * j + 14 = 245 + 45 * j from by omega]
        exact he.2.1 j (lt1 j hj ej) q
    · by_cases ej : j = zT k
      · rw [ej, s23] at q; exact absurd q (by unfold zW; decide)
      · by_cases ej1 : j1 = zT k
        · rw [ej1, s23] at q1; exact absurd q1 (by unfold zW; decide)
        · rw [Kj 23 j ej (by decide) (by decide) (by decide) (by decide) (by decide) (by decide)] at q
          rw [Kj 23 j1 ej1 (by decide) (by decide) (by decide) (by decide) (by decide) (by decide)] at q1
          rw [show 245 + 45 * j = 231 + 45 * j + 14 from by omega, show 245 + 45 * j1 = 231 + 45 * j1 + 14 from by omega, Z j 14 (lt1 j hj ej) (by decide), Z j1 14 (lt1 j1 hj1 ej1) (by decide), show 231 + 45 * j + 14 = 245 + 45 * j from by omega, show 231 + 45 * j1 + 14 = 245 + 45 * j1 from by omega]
          exact he.2.2 j j1 (lt1 j hj ej) (lt1 j1 hj1 ej1) q q1
    · rw [G1 _ (by omega) (by omega) (by omega) (by omega)]
      have r := hf s hs q
      refine ⟨r.1, fun p hp hl => ?_⟩
      rw [G1 _ (by omega) (by omega) (by omega) (by omega)]
      exact r.2 p hp hl
    · unfold zZt; rw [G1 176 (by decide) (by decide) (by omega) (by omega)]; exact hu
/-- n cells of a task's row emptied -/
def yGz (g : Nat → Int32) (t : Nat) : Nat → Nat → Int32
  | 0 => g
  | n + 1 => upd (yGz g t n) (t + n) 0
theorem yGz_at {g : Nat → Int32} {t m : Nat} : ∀ n, yGz g t n m = if t ≤ m ∧ m < t + n then 0 else g m := by
  intro n
  induction n with
  | zero => exact (if_neg (by omega)).symm
  | succ n ih =>
    show upd (yGz g t n) (t + n) 0 m = _
    by_cases e : m = t + n
    · subst e; rw [pk_us, if_pos (by omega)]
    · rw [pk_un e, ih]
      by_cases c : t ≤ m ∧ m < t + n
      · rw [if_pos c, if_pos (by omega)]
      · rw [if_neg c, if_neg (by omega)]
set_option maxRecDepth 20000 in
theorem l_starts {T : Nat} {u v : Int32} (hT : T < 24) (h : ∀ ls : am_L, (∀ q ∈ ([(0, .ref 189), (1, .int u), (2, .int v), (3, .int (nI T))] : am_L), am_lv ls q.1 = some q.2) → am_Wp (am_lk cl_X12_starts) 38 ls [] (am_ua σ 190 (yGz g (231 + 45 * T) 45)) R) : ∀ m n, n + m = 45 → am_Wp (am_lk cl_X12_starts) 17 [(0, .ref 189), (1, .int u), (2, .int v), (3, .int (nI T)), (4, .int (nI n))] [] (am_ua σ 190 (yGz g (231 + 45 * T) n)) R := by
  intro m
  induction m with
  | zero =>
    intro n e
    have e : n = 45 := by omega
    subst e
    refine am_go hm_X12_starts (fun p => Nat.beq p 38) 40 ?_
    refine am_ite (fun _ => ?_) (fun z => absurd (show (45 : Int32) ≤ nI 45 by decide) z)
    exact h _ (List.forall_mem_cons.mpr ⟨rfl, List.forall_mem_cons.mpr ⟨rfl, List.forall_mem_cons.mpr ⟨rfl, List.forall_mem_cons.mpr ⟨rfl, fun _ q => by cases q⟩⟩⟩⟩)
  | succ m ih =>
    intro n e
    refine am_go hm_X12_starts (fun p => Nat.beq p 17) 40 ?_
    refine am_ite (fun z => absurd z (nI_ge (show n < 45 by omega) (by decide))) (fun _ => ?_)
    refine y_sets T n rfl rfl hT (by omega) ?_
    have h9 := ih (n + 1) (by omega)
    rw [nI_succ n] at h9
    exact am_Wp.sub hm_X12_starts (am_le_of (List.forall_mem_cons.mpr ⟨rfl, List.forall_mem_cons.mpr ⟨rfl, List.forall_mem_cons.mpr ⟨rfl, List.forall_mem_cons.mpr ⟨rfl, List.forall_mem_cons.mpr ⟨rfl, fun _ q => by cases q⟩⟩⟩⟩⟩)) h9
set_option maxRecDepth 20000 in
theorem y_starts {c e b w N q : Nat} {k : am_M} {u h : Int32} (H : zSim b k g) (I : zInv c e w N k) (hT : zT k < 24) (hq : q < 6) (hu : u = nI q) (hR : ∀ g1, (∀ k1 : am_M, (∀ a, a ≠ 67 → a ≠ 69 → k1 a = yStart k (zT k) (zQ k) q h a) → zSim b k1 g1) → R (some (.int (nI (zT k)))) (am_ua σ 190 g1)) : sp_X12_starts [.ref 189, .int u, .int h] (am_ua σ 190 g) R := by
  subst hu
  have hQ := I.Qlt hT
  have k21 : k 21 0 = nI (zT k) := I.1.1.1
  have k95 : k 95 1 = nI (zQ k) := I.1.2.2.2.2.2.1.1
  refine ⟨rfl, am_go hm_X12_starts (fun p => Nat.beq p 8) 40 ?_⟩
  refine wn_ld hm_X12_starts 170 rfl (v := nI (zT k)) (H.Tc.trans k21) (by decide) rfl ?_
  refine am_go hm_X12_starts (fun p => Nat.beq p 12) 40 ?_
  refine wn_st hm_X12_starts 170 rfl (by decide) rfl ?_
  rw [nI_1]
  refine am_go hm_X12_starts (fun p => Nat.beq p 17) 40 ?_
  refine am_Wp.sub hm_X12_starts (ls := [(0, .ref 189), (1, .int (nI q)), (2, .int h), (3, .int (nI (zT k))), (4, .int (nI 0))]) (am_le_of (List.forall_mem_cons.mpr ⟨rfl, List.forall_mem_cons.mpr ⟨rfl, List.forall_mem_cons.mpr ⟨rfl, List.forall_mem_cons.mpr ⟨rfl, List.forall_mem_cons.mpr ⟨rfl, fun _ q => by cases q⟩⟩⟩⟩⟩)) ?_
  refine l_starts (g := upd g 170 (nI (zT k + 1))) hT (fun ls hls => ?_) 45 0 rfl
  refine am_Wp.sub hm_X12_starts (am_le_of hls) (am_go hm_X12_starts (fun _ => false) 60 ?_)
  refine y_sets (zT k) 4 rfl rfl hT (by decide) ?_
  refine y_sets (zT k) 7 rfl rfl hT (by decide) ?_
  refine y_task (zT k) rfl ?_
  refine y_copies (f := 25 * q) (t := 251 + 45 * zT k) ?_ ?_ (by omega) (by omega) ?_
  · show (0 : Int32) + 25 * nI q = _
    rw [show (25 : Int32) * nI q = nI (25 * q) from pk_mul 25 q, show (0 : Int32) + nI (25 * q) = nI (0 + 25 * q) from nI_add 0 _, Nat.zero_add]
  · show nI (231 + 45 * zT k) + nI 20 = _
    rw [nI_add]; congr 1; omega
  -- what the array holds now
  generalize hg2 : yGc (upd (upd (yGz (upd g 170 (nI (zT k + 1))) (231 + 45 * zT k) 45) (231 + 45 * zT k + 4) h) (231 + 45 * zT k + 7) (-2)) (25 * q) (251 + 45 * zT k) 25 = g2
  have b1 : ∀ m, (m < 231 + 45 * zT k ∨ 276 + 45 * zT k ≤ m) → m ≠ 170 → g2 m = g m := by
    intro m hm h170
    rw [← hg2, yGc_out 25 (by omega), pk_un (by omega), pk_un (by omega), yGz_at, if_neg (by omega), pk_un h170]
  have b170 : g2 170 = nI (zT k + 1) := by rw [← hg2, yGc_out 25 (by omega), pk_un (by omega), pk_un (by omega), yGz_at, if_neg (by omega), pk_us]
  have b3 : ∀ x, x < 20 → g2 (231 + 45 * zT k + x) = if x = 4 then h else if x = 7 then -2 else 0 := by
    intro x hx
    rw [← hg2, yGc_out 25 (by omega)]
    by_cases x7 : x = 7
    · subst x7; rw [pk_us]; rfl
    · rw [pk_un (by omega)]
      by_cases x4 : x = 4
      · subst x4; rw [pk_us]; rfl
      · rw [pk_un (by omega), yGz_at, if_pos (by omega), if_neg x4, if_neg x7]
  have b4 : ∀ x, x < 25 → g2 (251 + 45 * zT k + x) = g (25 * q + x) := by
    intro x hx
    rw [← hg2, yGc_in 25 (by omega) hx, pk_un (by omega), pk_un (by omega), yGz_at, if_neg (by omega), pk_un (by omega)]
  have b173 : g2 173 = nI (zQ k) := by rw [b1 173 (by omega) (by decide)]; exact H.Q.trans k95
  refine ⟨rfl, am_go hm_X12_readies (fun _ => false) 40 ?_⟩
  refine y_sets (zT k) 0 rfl rfl hT (by decide) ?_
  refine y_queues (q := zQ k) ?_ hQ (fun n hn => ?_) ?_
  · rw [pk_un (by omega)]; exact b173
  · rw [pk_un (by omega), b1 _ (by omega) (by omega), H.qn hn (by omega)]
    obtain ⟨j, a1, a2, a3, a4⟩ := I.2.2.2.2.2.2.1.1 n hn
    rw [a3]
    intro z
    have := nI_inj (by omega) (by omega) z
    omega
  refine hR _ (fun k1 E => ?_)
  refine H.start I hT hq E (fun m m1 m2 m3 m4 => ?_) ⟨?_, pk_us, ?_⟩ (fun x hx => ?_) (fun x hx => ?_)
  · rw [pk_un m2, pk_un m3, pk_un (by omega)]; exact b1 m m4 m1
  · rw [pk_un (by omega), pk_un (by omega), pk_un (by omega)]; exact b170
  · rw [pk_un (by omega), pk_us]
  · rw [pk_un (by omega), pk_un (by omega)]
    by_cases x0 : x = 0
    · subst x0; rw [Nat.add_zero, pk_us]; rfl
    · rw [pk_un (by omega)]; exact b3 x hx
  · rw [pk_un (by omega), pk_un (by omega), pk_un (by omega)]; exact b4 x hx
end ZG1
