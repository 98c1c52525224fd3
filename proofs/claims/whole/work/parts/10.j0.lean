/-! both sides: making ready, interrupting -/
section ZJ
theorem upd_comm {g : Nat → Int32} {a b : Nat} {x y : Int32} (h : a ≠ b) : upd (upd g a x) b y = upd (upd g b y) a x := by
  funext j
  unfold upd
  by_cases h1 : j = b
  · rw [if_pos h1, if_neg (by omega), if_pos h1]
  · rw [if_neg h1]
    by_cases h2 : j = a
    · rw [if_pos h2, if_pos h2]
    · rw [if_neg h2, if_neg h2, if_neg h1]
theorem zZa.o {T : Nat} {k35 k39 g : Nat → Int32} {m : Nat} {v : Int32} (hT : T ≤ 24) (h : zZa T k35 k39 g) (hm : ∀ i, i < 24 → 239 + 45 * i ≠ m) : zZa T k35 k39 (upd g m v) := fun i hi h0 => (pk_un (hm i (by omega))).trans (h i hi h0)
theorem zZb.o {T : Nat} {k41 g : Nat → Int32} {m : Nat} {v : Int32} (hT : T ≤ 24) (h : zZb T k41 g) (hm : ∀ i, i < 24 → 240 + 45 * i ≠ m ∧ 241 + 45 * i ≠ m) : zZb T k41 (upd g m v) := fun i hi =>
  ⟨fun h0 => (pk_un (hm i (by omega)).1).trans ((h i hi).1 h0), fun h0 => ⟨(pk_un (hm i (by omega)).1).trans ((h i hi).2 h0).1, (pk_un (hm i (by omega)).2).trans ((h i hi).2 h0).2⟩⟩
theorem zZc.o {T : Nat} {k23 k43 g : Nat → Int32} {m : Nat} {v : Int32} (hT : T ≤ 24) (h : zZc T k23 k43 g) (hm : ∀ i, i < 24 → 242 + 45 * i ≠ m) : zZc T k23 k43 (upd g m v) := fun i hi h0 => (pk_un (hm i (by omega))).trans (h i hi h0)
theorem zZd.o {T : Nat} {k23 k45 k47 g : Nat → Int32} {m : Nat} {v : Int32} (hT : T ≤ 24) (h : zZd T k23 k45 k47 g) (hm : ∀ i, i < 24 → 243 + 45 * i ≠ m ∧ 244 + 45 * i ≠ m) : zZd T k23 k45 k47 (upd g m v) := fun i hi =>
  ⟨fun h0 => (pk_un (hm i (by omega)).1).trans ((h i hi).1 h0), fun h0 => ⟨((h i hi).2.1 h0).1, (pk_un (hm i (by omega)).2).trans ((h i hi).2.1 h0).2⟩, fun h0 => (pk_un (hm i (by omega)).2).trans ((h i hi).2.2 h0)⟩
theorem zZe.o {b T U : Nat} {k23 k49 g : Nat → Int32} {m : Nat} {v : Int32} (hT : T ≤ 24) (h : zZe b T U k23 k49 g) (h0 : 182 ≠ m) (hm : ∀ i, i < 24 → 245 + 45 * i ≠ m) : zZe b T U k23 k49 (upd g m v) := by
  obtain ⟨h1, h2, h3⟩ := h
  refine ⟨by rw [pk_un h0]; exact h1, fun i hi hw => by rw [pk_un h0, pk_un (hm i (by omega))]; exact h2 i hi hw, fun i j hi hj hw hv => by rw [pk_un (hm i (by omega)), pk_un (hm j (by omega))]; exact h3 i j hi hj hw hv⟩
theorem zZf.o {S : Nat} {k73 k78 k80 g : Nat → Int32} {m : Nat} {v : Int32} (hS : S ≤ 60) (h : zZf S k73 k78 k80 g) (hm : ∀ s p, s < 60 → p < 25 → 1318 + 32 * s + p ≠ m) : zZf S k73 k78 k80 (upd g m v) := fun s hs h0 =>
  ⟨(pk_un (hm s 0 (by omega) (by decide))).trans (h s hs h0).1, fun p hp hl => (pk_un (by have := hm s (p + 1) (by omega) (by omega); omega)).trans ((h s hs h0).2 p hp hl)⟩
theorem zZt.o {b : Nat} {u : Int32} {g : Nat → Int32} {m : Nat} {v : Int32} (h : zZt b u g) (hm : 176 ≠ m) : zZt b u (upd g m v) := by unfold zZt; rw [pk_un hm]; exact h
/-- the sizes differ in the queue's alone -/
theorem zIn_3 {d d1 : Nat → Nat → Nat} {a j : Nat} (h : zIn d1 a j) (e : ∀ n i, n ≠ 3 → d1 n i = d n i) (e3 : d1 3 0 = d 3 0 + 1) : zIn d a j ∨ (a = 96 ∧ j = d 3 0) := by
  by_cases q : a = 96 ∧ j = d 3 0
  · exact Or.inr q
  · left
    unfold zIn at h ⊢
    rw [e 4 0 (by decide), e 0 0 (by decide), e 5 _ (by decide), e 6 _ (by decide), e 1 0 (by decide), e 2 0 (by decide), e 8 _ (by decide), e 7 _ (by decide), e3] at h
    obtain ⟨h1, h2⟩ := h
    exact ⟨fun z => by have := h1 z; omega, h2⟩
theorem zCo_170 : zCo 21 0 170 := (Or.inl ⟨rfl, rfl, rfl⟩)
theorem zCo_171 : zCo 57 0 171 := (Or.inr (Or.inl ⟨rfl, rfl, rfl⟩))
theorem zCo_172 : zCo 89 1 172 := (Or.inr (Or.inr (Or.inl ⟨rfl, rfl, rfl⟩)))
theorem zCo_173 : zCo 95 1 173 := (Or.inr (Or.inr (Or.inr (Or.inl ⟨rfl, rfl, rfl⟩))))
theorem zCo_174 : zCo 97 1 174 := (Or.inr (Or.inr (Or.inr (Or.inr (Or.inl ⟨rfl, rfl, rfl⟩)))))
theorem zCo_n {j m : Nat} (h5 : 5 ≤ j) (hj : j < 12) (h6 : j ≠ 6) (hm : m = 170 + j) : zCo 100 j m := by
  subst hm
  exact (Or.inr (Or.inr (Or.inr (Or.inr (Or.inr (Or.inl ⟨rfl, h5, hj, h6, rfl⟩))))))
theorem zCo_q {q m : Nat} (hq : q < 24) (hm : m = 183 + q) : zCo 96 q m := by
  subst hm
  exact (Or.inr (Or.inr (Or.inr (Or.inr (Or.inr (Or.inr (Or.inl ⟨rfl, hq, rfl⟩)))))))
theorem zCo_e {q m : Nat} (hq : q < 24) (hm : m = 207 + q) : zCo 98 q m := by
  subst hm
  exact (Or.inr (Or.inr (Or.inr (Or.inr (Or.inr (Or.inr (Or.inr (Or.inl ⟨rfl, hq, rfl⟩))))))))
theorem zCo_t {i w m : Nat} (hw : w < 8) (hi : i < 24) (hm : m = 231 + 45 * i + w) : zCo (23 + 2 * w) i m := by
  subst hm
  exact (Or.inr (Or.inr (Or.inr (Or.inr (Or.inr (Or.inr (Or.inr (Or.inr (Or.inl ⟨by omega, by omega, by omega, hi, by omega⟩)))))))))
theorem zCo_st {i l m : Nat} (hi : i < 24) (hl : l < 5) (hm : m = 246 + 45 * i + l) : zCo 51 (i * 5 + l) m := by
  subst hm
  exact (Or.inr (Or.inr (Or.inr (Or.inr (Or.inr (Or.inr (Or.inr (Or.inr (Or.inr (Or.inl ⟨rfl, by omega, by omega⟩))))))))))
theorem zCo_cl {i m : Nat} (hi : i < 24) (hm : m = 251 + 45 * i) : zCo 54 i m := by
  subst hm
  exact (Or.inr (Or.inr (Or.inr (Or.inr (Or.inr (Or.inr (Or.inr (Or.inr (Or.inr (Or.inr (Or.inl ⟨rfl, hi, rfl⟩)))))))))))
theorem zCo_cc {i p m : Nat} (hi : i < 24) (hp : p < 24) (hm : m = 252 + 45 * i + p) : zCo 56 (i * 24 + p) m := by
  subst hm
  exact (Or.inr (Or.inr (Or.inr (Or.inr (Or.inr (Or.inr (Or.inr (Or.inr (Or.inr (Or.inr (Or.inr (Or.inl ⟨rfl, by omega, by omega⟩))))))))))))
theorem zCo_s {s w m : Nat} (hw : w < 4) (hs : s < 60) (hm : m = 1311 + 32 * s + w) : zCo (59 + 2 * w) s m := by
  subst hm
  exact (Or.inr (Or.inr (Or.inr (Or.inr (Or.inr (Or.inr (Or.inr (Or.inr (Or.inr (Or.inr (Or.inr (Or.inr (Or.inl ⟨by omega, by omega, by omega, hs, by omega⟩)))))))))))))
theorem zCo_s2 {s w m : Nat} (hw : w < 3) (hs : s < 60) (hm : m = 1315 + 32 * s + w) : zCo (71 + 2 * w) s m := by
  subst hm
  exact (Or.inr (Or.inr (Or.inr (Or.inr (Or.inr (Or.inr (Or.inr (Or.inr (Or.inr (Or.inr (Or.inr (Or.inr (Or.inr (Or.inl ⟨by omega, by omega, by omega, hs, by omega⟩))))))))))))))
theorem zCo_f {f w m : Nat} (hw : w < 3) (hf : f < 660) (hm : m = 3231 + 3 * f + w) : zCo (90 + 2 * w) f m := by
  subst hm
  exact (Or.inr (Or.inr (Or.inr (Or.inr (Or.inr (Or.inr (Or.inr (Or.inr (Or.inr (Or.inr (Or.inr (Or.inr (Or.inr (Or.inr (Or.inl ⟨by omega, by omega, by omega, hf, by omega⟩)))))))))))))))
theorem zCo_c {c w m : Nat} (hw : w < 2) (hc : c < 4) (hm : m = 150 + 5 * c + w) : zCo (83 + 2 * w) c m := by
  subst hm
  exact (Or.inr (Or.inr (Or.inr (Or.inr (Or.inr (Or.inr (Or.inr (Or.inr (Or.inr (Or.inr (Or.inr (Or.inr (Or.inr (Or.inr (Or.inr (Or.inl ⟨by omega, by omega, by omega, hc, by omega⟩))))))))))))))))
theorem zCo_cn {c n m : Nat} (hc : c < 4) (hn : n < 3) (hm : m = 152 + 5 * c + n) : zCo 87 (c * 3 + n) m := by
  subst hm
  exact (Or.inr (Or.inr (Or.inr (Or.inr (Or.inr (Or.inr (Or.inr (Or.inr (Or.inr (Or.inr (Or.inr (Or.inr (Or.inr (Or.inr (Or.inr (Or.inr (Or.inl ⟨rfl, by omega, by omega⟩)))))))))))))))))
theorem zCo_p {q m : Nat} (hq : q < 6) (hm : m = 25 * q) : zCo 18 q m := by
  subst hm
  exact (Or.inr (Or.inr (Or.inr (Or.inr (Or.inr (Or.inr (Or.inr (Or.inr (Or.inr (Or.inr (Or.inr (Or.inr (Or.inr (Or.inr (Or.inr (Or.inr (Or.inr (Or.inl ⟨rfl, hq, rfl⟩))))))))))))))))))
theorem zCo_pc {q p m : Nat} (hq : q < 6) (hp : p < 24) (hm : m = 1 + 25 * q + p) : zCo 20 (q * 24 + p) m := by
  subst hm
  exact (Or.inr (Or.inr (Or.inr (Or.inr (Or.inr (Or.inr (Or.inr (Or.inr (Or.inr (Or.inr (Or.inr (Or.inr (Or.inr (Or.inr (Or.inr (Or.inr (Or.inr (Or.inr ⟨rfl, by omega, by omega⟩))))))))))))))))))
theorem zd_eq3 {k k1 : am_M} (h0 : k1 21 0 = k 21 0) (h1 : k1 57 0 = k 57 0) (h2 : k1 89 1 = k 89 1) (h4 : k1 97 1 = k 97 1) (h5 : k1 29 = k 29) (h6 : k1 54 = k 54) (h7 : k1 18 = k 18) (h8 : k1 85 = k 85) : ∀ n i1, n ≠ 3 → zd k1 n i1 = zd k n i1 := by
  intro n i1 hn
  match n, hn with
  | 0, _ => exact congrArg zc h0
  | 1, _ => exact congrArg zc h1
  | 2, _ => exact congrArg zc h2
  | 3, z => exact absurd rfl z
  | 4, _ => exact congrArg zc h4
  | 5, _ => exact congrArg zc (congrFun h5 i1)
  | 6, _ => exact congrArg zc (congrFun h6 i1)
  | 7, _ => exact congrArg zc (congrFun h7 i1)
  | n + 8, _ => exact congrArg zc (congrFun h8 i1)
theorem zd_ready {k : am_M} {i q : Nat} : ∀ n i1, n ≠ 3 → zd (yReady k i q) n i1 = zd k n i1 := zd_eq3 rfl rfl rfl rfl rfl rfl rfl rfl
theorem zS1.ready {k : am_M} {g : Nat → Int32} {i q : Nat} (h : zS1 (zd k) k g) (hi : i < 24) (hq : q = zQ k) (h24 : q < 24) : zS1 (zd (yReady k i q)) (yReady k i q) (upd (upd (upd g (231 + 45 * i) 0) (183 + q) (nI i)) 173 (nI (q + 1))) := by
  have h1 : zS1 (zd k) (am_up k 23 i 0) _ := zS1_up (v := 0) h (zCo_t (w := 0) (by decide) hi rfl : zCo 23 i (231 + 45 * i))
  have h2 := zS1_k (a := 43) (j := i) (v := -1) h1 (by decide)
  have h3 := zS1_up (v := nI i) h2 (zCo_q h24 rfl)
  have h4 := zS1_up (v := nI (q + 1)) h3 zCo_173
  refine zS1_d h4 (fun a j m hc hn => ?_)
  have e := zd_ready (k := k) (i := i) (q := q)
  have e3 : zd (yReady k i q) 3 0 = zd k 3 0 + 1 := by
    show zc (nI (q + 1)) = zc (k 95 1) + 1
    rw [zc_i (by omega), hq]
  rcases zIn_3 hn e e3 with h | ⟨rfl, rfl⟩
  · exact Or.inl h
  · right
    have hm : m = 183 + q := zCo_fw hc (zCo_q (show zQ k < 24 by rw [← hq]; exact h24) (by rw [hq]; rfl))
    have hj : zd k 3 0 = q := hq.symm
    rw [hm, hj]
    show upd (upd _ (183 + q) (nI i)) 173 _ (183 + q) = upd (k 96) q (nI i) q
    rw [pk_un (by omega), pk_us, pk_us]
theorem zS2.ready {b : Nat} {k : am_M} {g : Nat → Int32} {i q : Nat} (h : zS2 b k g) : zS2 b (yReady k i q) g := by
  obtain ⟨ha, hb, hc, hd, he, hf⟩ := h
  have hw : ∀ j, zW (upd (k 23) i 0 j) → zW (k 23 j) := by
    intro j q
    by_cases e : j = i
    · subst e; rw [pk_us] at q; exact absurd q (by unfold zW; decide)
    · rw [pk_un e] at q; exact q
  have h3 : ∀ (v : Int32) j, v ≠ 0 → upd (k 23) i 0 j = v → j ≠ i ∧ k 23 j = v := by
    intro v j hv q
    by_cases e : j = i
    · subst e; rw [pk_us] at q; exact absurd q.symm hv
    · rw [pk_un e] at q; exact ⟨e, q⟩
  refine ⟨ha, hb, fun j hj q => ?_, fun j hj => ⟨fun q => (hd j hj).1 (hw j q), fun q => (hd j hj).2.1 (h3 3 j (by decide) q).2, fun q => (hd j hj).2.2 (h3 4 j (by decide) q).2⟩, ⟨he.1, fun j hj q => he.2.1 j hj (hw j q), fun j j1 hj hj1 q q1 => he.2.2 j j1 hj hj1 (hw j q) (hw j1 q1)⟩, hf⟩
  have h4 := h3 1 j (by decide) q
  exact (hc j hj h4.2).trans (pk_un h4.1).symm
theorem zSim.ready {b : Nat} {k : am_M} {g : Nat → Int32} {i q : Nat} (h : zSim b k g) (hT : zT k ≤ 24) (hS : zSc k ≤ 60) (hi : i < 24) (hq : q = zQ k) (h24 : q < 24) : zSim b (yReady k i q) (upd (upd (upd g (231 + 45 * i) 0) (183 + q) (nI i)) 173 (nI (q + 1))) :=
  ⟨h.1.ready hi hq h24, (h.2.ready).g hT hS (((zEx.up (zCo_t (w := 0) (by decide) hi rfl)).tr (zEx.up (zCo_q h24 rfl))).tr (zEx.up zCo_173))⟩
theorem zSim.supp {b : Nat} {k : am_M} {g : Nat → Int32} (h : zSim b k g) (hT : zT k ≤ 24) (hS : zSc k ≤ 60) : zSim b (ySupp k) (upd g 179 (k 100 9 + 1)) :=
  ⟨zS1_up h.1 (zCo_n (j := 9) (by decide) (by decide) (by decide) rfl), zS2.g hT hS h.2 (zEx.up (zCo_n (j := 9) (by decide) (by decide) (by decide) rfl))⟩
theorem zSim.give {b : Nat} {k : am_M} {g : Nat → Int32} {i : Nat} {r t f : Int32} (h : zSim b k g) (hT : zT k ≤ 24) (hS : zSc k ≤ 60) (hi : i < 24) : zSim b (yGive k i r t f) (upd (upd (upd g (231 + 45 * i + 6) r) (231 + 45 * i + 7) t) (231 + 45 * i + 8) f) := by
  have c6 := zCo_t (w := 6) (by decide) hi (rfl : 231 + 45 * i + 6 = _)
  have c7 := zCo_t (w := 7) (by decide) hi (rfl : 231 + 45 * i + 7 = _)
  have h1 := zS1_up (v := r) h.1 c6
  have h2 := zS1_up (v := t) h1 c7
  have h3 := zS1_k (a := 39) (j := i) (v := f) (zS1_g (v := f) h2 (zIx_t (i := i) (w := 8) hi (by decide) (by decide) rfl)) (by decide)
  refine ⟨h3, ?_⟩
  obtain ⟨ha, hb, hc, hd, he, hf, hu⟩ := zS2.g hT hS h.2 ((zEx.up (v := r) c6).tr (zEx.up (v := t) c7))
  refine ⟨fun j hj h0 => ?_, hb.o hT (fun j _ => by omega), hc.o hT (fun j _ => by omega), hd.o hT (fun j _ => by omega), he.o hT (by omega) (fun j _ => by omega), hf.o hS (fun s p _ _ => by omega), hu.o (by omega)⟩
  by_cases e : j = i
  · subst e
    show upd _ (231 + 45 * j + 8) f (239 + 45 * j) = upd (k 39) j f j
    rw [show 239 + 45 * j = 231 + 45 * j + 8 from by omega, pk_us, pk_us]
  · have h01 : k 35 j ≠ 0 := by
      have h02 : upd (k 35) i r j ≠ 0 := h0
      rw [pk_un e] at h02
      exact h02
    show upd _ (231 + 45 * i + 8) f (239 + 45 * j) = upd (k 39) i f j
    rw [pk_un (by omega), pk_un e]
    exact ha j hj h01
/-! reading -/
theorem zSim.task {b : Nat} {k : am_M} {g : Nat → Int32} {i : Nat} (h : zSim b k g) (hi : i < zT k) (w : Nat) (hw : w < 8) (hT : zT k ≤ 24) : g (231 + 45 * i + w) = k (23 + 2 * w) i :=
  h.1 _ _ _ (zCo_t hw (by omega) rfl) (by unfold zIn; refine ⟨fun q => by omega, fun q => by omega, fun _ => hi, fun q => by omega, fun q => by omega, fun q => by omega, fun q => by omega, fun q => by omega, fun q => by omega⟩)
section
variable {σ : am_M} {g : Nat → Int32} {R : am_R}
set_option maxRecDepth 20000 in
theorem l_queues {t : Int32} {q : Nat} (hq : g 173 = nI q) (h24 : q < 24) (hn : ∀ n, n < q → g (183 + n) ≠ t) (h : R none (am_ua σ 190 (upd (upd g (183 + q) t) 173 (nI (q + 1))))) : ∀ m n, n + m = q → am_Wp (am_lk cl_X12_queues) 2 [(0, .ref 189), (1, .int t), (2, .int (nI n))] [] (am_ua σ 190 g) R := by
  intro m
  induction m with
  | zero =>
    intro n e
    refine am_go hm_X12_queues (fun p => Nat.beq p 10) 20 ?_
    refine wn_ld hm_X12_queues 173 rfl hq (by decide) rfl ?_
    refine am_go hm_X12_queues (fun p => Nat.beq p 50) 20 ?_
    refine am_ite (fun _ => ?_) (fun z => absurd (nI_le (by omega) (by omega)) z)
    refine wn_ld hm_X12_queues 173 rfl hq (by decide) rfl ?_
    refine am_go hm_X12_queues (fun p => Nat.beq p 54) 20 ?_
    refine wn_st hm_X12_queues 173 rfl (by decide) rfl ?_
    refine am_go hm_X12_queues (fun p => Nat.beq p 57) 20 ?_
    refine wn_st hm_X12_queues (183 + q) (nI_add 183 q) (by omega) rfl ?_
    rw [show nI q + 1 = nI (q + 1) from nI_1 q, upd_comm (by omega)]
    exact am_go hm_X12_queues (fun _ => false) 20 h
  | succ m ih =>
    intro n e
    refine am_go hm_X12_queues (fun p => Nat.beq p 10) 20 ?_
    refine wn_ld hm_X12_queues 173 rfl hq (by decide) rfl ?_
    refine am_go hm_X12_queues (fun p => Nat.beq p 23) 20 ?_
    refine am_ite (fun z => absurd z (nI_ge (by omega) (by omega))) (fun _ => ?_)
    refine wn_ld hm_X12_queues (183 + n) (nI_add 183 n) rfl (by omega) rfl ?_
    refine am_go hm_X12_queues (fun p => Nat.beq p 2) 20 ?_
    refine am_ite (fun z => absurd z (hn n (by omega))) (fun _ => ?_)
    refine am_Wp.sub hm_X12_queues (ls := [(0, .ref 189), (1, .int t), (2, .int (nI (n + 1)))]) (am_le_of (List.forall_mem_cons.mpr ⟨rfl, List.forall_mem_cons.mpr ⟨rfl, List.forall_mem_cons.mpr ⟨by rw [nI_succ]; rfl, fun _ q => by cases q⟩⟩⟩)) ?_
    exact ih (n + 1) (by omega)
theorem y_queues {t : Int32} {q : Nat} (hq : g 173 = nI q) (h24 : q < 24) (hn : ∀ n, n < q → g (183 + n) ≠ t) (h : R none (am_ua σ 190 (upd (upd g (183 + q) t) 173 (nI (q + 1))))) : sp_X12_queues [.ref 189, .int t] (am_ua σ 190 g) R := by
  refine ⟨rfl, am_go hm_X12_queues (fun p => Nat.beq p 2) 20 ?_⟩
  exact am_Wp.sub hm_X12_queues (ls := [(0, .ref 189), (1, .int t), (2, .int (nI 0))]) (am_le_of (List.forall_mem_cons.mpr ⟨rfl, List.forall_mem_cons.mpr ⟨rfl, List.forall_mem_cons.mpr ⟨rfl, fun _ q => by cases q⟩⟩⟩)) (l_queues hq h24 hn h q 0 (Nat.zero_add _))
end
end ZJ
