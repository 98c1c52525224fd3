/-! cleanups set, places behind scopes, tasks started: the class's side -/
section ZC1
theorem zInv.prg {c e b N q : Nat} {k : am_M} (h : zInv c e b N k) (hq : q < 6) : zN (k 18 q) 24 ∧ zWf (zCd (k 20) q) (zc (k 18 q)) 0 0 false := h.2.2.2.2.2.2.2.2.2.2.2.2.2.2.1 q hq
theorem zInw.setC {e b N i q : Nat} {k : am_M} (h : zInw i e b N k) (hi : i < zT k) (hd : 0 < zc (k 29 i)) (hq : q < 6) (h73 : k 73 (zIs k i) ≠ 2) : zInw i e b N (ySetC k (zIs k i) q) := by
  obtain ⟨_, q1, q2, _⟩ := h.1.inner hi hd
  obtain ⟨p1, p2⟩ := h.1.prg hq
  have F := zFr.setC (k := k) (s := zIs k i) (q := q)
  generalize hs : zIs k i = s at q1 q2 h73 F
  obtain ⟨⟨v1, v2, v3, v4, v4b, v5, v6, v7, v8, v9, v10, v11, v12, v12b, v13, v14, v14b, v15, v16, v17, v18, v19⟩, v20⟩ := h
  have eT : ∀ a, a ≠ 73 → a ≠ 78 → a ≠ 80 → ySetC k s q a = k a := fun a h1 h2 h3 => F a (by simp only [List.mem_cons, List.not_mem_nil, or_false]; omega)
  have e73 : ySetC k s q 73 = upd (k 73) s 1 := by unfold ySetC; rw [yCp_n (by decide) (by decide), zup_s]
  have e78 : ∀ j, j ≠ s → ySetC k s q 78 j = k 78 j := fun j hj => (yCp_lo hj (by decide) _)
  have e78s : ySetC k s q 78 s = k 18 q := (yCp_l _).trans p1.1.symm
  have e80 : ∀ j, ySetC k s q 80 j = if s * 24 ≤ j ∧ j < s * 24 + zc (k 18 q) then k 20 (q * 24 + (j - s * 24)) else k 80 j := fun j => yCp_c (by decide) _ j
  have eTT : zT (ySetC k s q) = zT k := congrArg (fun f : Nat → Int32 => zc (f 0)) (eT 21 (by decide) (by decide) (by decide))
  have eS : zSc (ySetC k s q) = zSc k := congrArg (fun f : Nat → Int32 => zc (f 0)) (eT 57 (by decide) (by decide) (by decide))
  have eF : zF (ySetC k s q) = zF k := congrArg (fun f : Nat → Int32 => zc (f 1)) (eT 89 (by decide) (by decide) (by decide))
  have eQ : zQ (ySetC k s q) = zQ k := congrArg (fun f : Nat → Int32 => zc (f 1)) (eT 95 (by decide) (by decide) (by decide))
  have eE : zE (ySetC k s q) = zE k := congrArg (fun f : Nat → Int32 => zc (f 1)) (eT 97 (by decide) (by decide) (by decide))
  have et : zt (ySetC k s q) = zt k := congrArg (fun f : Nat → Int32 => zc (f 5)) (eT 100 (by decide) (by decide) (by decide))
  have eU : zU (ySetC k s q) = zU k := congrArg (fun f : Nat → Int32 => zc (f 6)) (eT 100 (by decide) (by decide) (by decide))
  unfold zInw zInv
  rw [eTT, eS, eF, eQ, eE, et, eU, e73, eT 21 (by decide) (by decide) (by decide), eT 57 (by decide) (by decide) (by decide), eT 89 (by decide) (by decide) (by decide), eT 91 (by decide) (by decide) (by decide), eT 93 (by decide) (by decide) (by decide), eT 95 (by decide) (by decide) (by decide), eT 97 (by decide) (by decide) (by decide), eT 31 (by decide) (by decide) (by decide), eT 29 (by decide) (by decide) (by decide), eT 51 (by decide) (by decide) (by decide), eT 59 (by decide) (by decide) (by decide), eT 61 (by decide) (by decide) (by decide), eT 65 (by decide) (by decide) (by decide), eT 63 (by decide) (by decide) (by decide), eT 71 (by decide) (by decide) (by decide), eT 23 (by decide) (by decide) (by decide), eT 67 (by decide) (by decide) (by decide), eT 69 (by decide) (by decide) (by decide), eT 96 (by decide) (by decide) (by decide), eT 43 (by decide) (by decide) (by decide), eT 35 (by decide) (by decide) (by decide), eT 37 (by decide) (by decide) (by decide), eT 39 (by decide) (by decide) (by decide), eT 94 (by decide) (by decide) (by decide), eT 27 (by decide) (by decide) (by decide), eT 54 (by decide) (by decide) (by decide), eT 56 (by decide) (by decide) (by decide), eT 75 (by decide) (by decide) (by decide), eT 18 (by decide) (by decide) (by decide), eT 20 (by decide) (by decide) (by decide), eT 41 (by decide) (by decide) (by decide), eT 100 (by decide) (by decide) (by decide), eT 49 (by decide) (by decide) (by decide), eT 83 (by decide) (by decide) (by decide), eT 85 (by decide) (by decide) (by decide)]
  refine ⟨⟨v1, v2, v3, v4, v4b, v5, v6, v7, v8, v9, v10, v11, v12, v12b, v13, fun j hj => ?_, fun s1 h1 => ?_, ?_, v16, v17, v18, v19⟩, v20⟩
  · rcases v14 j hj with z | ⟨z1, z2, z3⟩
    · exact Or.inl z
    · refine Or.inr ⟨z1, z2, ?_⟩
      rw [pk_un (fun z => h73 (by rw [← z]; exact z3))]; exact z3
  · by_cases e1 : s1 = s
    · subst e1
      rw [pk_us, e78s]
      refine ⟨zN_i (n := 1) (by decide) (by decide), fun _ => ⟨p1, fun p hp => ?_⟩⟩
      rw [e80, if_pos (by omega), show q * 24 + (s1 * 24 + p - s1 * 24) = q * 24 + p from by omega]
      obtain ⟨d1, z1, o⟩ := zWf_at p2 p (by omega) (by omega)
      exact fun z => o.2.2.2.2.2.2.2 (Or.inr z)
    · rw [pk_un e1, e78 s1 e1]
      refine ⟨(v14b s1 h1).1, fun z => ⟨((v14b s1 h1).2 z).1, fun p hp => ?_⟩⟩
      have h24 := ((v14b s1 h1).2 z).1.2
      have p24 := p1.2
      rw [e80, if_neg (by omega)]
      exact ((v14b s1 h1).2 z).2 p hp
  · have h6 : zSum (fun x => zI (upd (k 73) s 1 x = 2)) (zSc k) = zSum (fun s => zI (k 73 s = 2)) (zSc k) := zSum_c (fun x _ => zI_c (by
      by_cases e1 : x = s
      · subst e1; rw [pk_us]; exact ⟨fun z => absurd z (by decide), fun z => absurd z h73⟩
      · rw [pk_un e1]))
    unfold zV15 at v15 ⊢
    rw [h6]
    exact v15
/-- the place behind, by the class -/
theorem e_Beh1 {k : am_M} {b L : Nat} {p0 : Int32} {f : Nat → Int32} (hL : bLen k b p0 = nI L) (h24 : L ≤ 24) (hf : ∀ j, j < L → bAt k b p0 (nI j) = f j) : ∀ m p e, p + m = L → 1 ≤ e → e + m ≤ 64 → bBeh k b p0 m (nI p) (nI e) = nI (zBc f m p e) := by
  intro m
  induction m with
  | zero => intro p e h _ _; show bLen k b p0 = nI p; rw [hL]; congr 1; omega
  | succ m ih =>
    intro p e h h1 h3
    have hp : p < L := by omega
    have eo : (if iOpens (iSign (bAt k b p0 (nI p))) = 0 then (if iSign (bAt k b p0 (nI p)) = 41 then nI e + (-1) else nI e) else nI e + 1) = nI (zDn (f p) e) := by
      rw [hf p hp]
      unfold zDn iOpens
      by_cases c1 : iSign (f p) = 40 ∨ iSign (f p) = 91 ∨ iSign (f p) = 123
      · rw [if_neg (bI_n0.mpr c1), if_pos c1, nI_1]
      · rw [if_pos (bI_0.mpr c1), if_neg c1]
        by_cases c2 : iSign (f p) = 41
        · rw [if_pos c2, if_pos c2]
          obtain ⟨e0, rfl⟩ : ∃ e0, e = e0 + 1 := ⟨e - 1, by omega⟩
          exact pk_m1 e0
        · rw [if_neg c2, if_neg c2]
    have ed : zDn (f p) e ≤ e + 1 := by
      unfold zDn
      split
      · omega
      · split <;> omega
    show (if bLen k b p0 ≤ nI p then bLen k b p0 else if (if iOpens (iSign (bAt k b p0 (nI p))) = 0 then (if iSign (bAt k b p0 (nI p)) = 41 then nI e + (-1) else nI e) else nI e + 1) = 0 then nI p + 1 else bBeh k b p0 m (nI p + 1) (if iOpens (iSign (bAt k b p0 (nI p))) = 0 then (if iSign (bAt k b p0 (nI p)) = 41 then nI e + (-1) else nI e) else nI e + 1)) = nI (if zDn (f p) e = 0 then p + 1 else zBc f m (p + 1) (zDn (f p) e))
    rw [eo, hL, if_neg (nI_ge hp (by omega))]
    by_cases c : zDn (f p) e = 0
    · rw [c, if_pos rfl, if_pos (show nI 0 = 0 from rfl), nI_1]
    · rw [if_neg c, if_neg (nI_ne0 (by omega) (by omega)), nI_1]
      exact ih (p + 1) _ (by omega) (by omega) (by omega)
end ZC1
