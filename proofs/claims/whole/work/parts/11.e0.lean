/-! scopes opened, cleanups set: both sides -/
section ZE1
variable {σ : am_M} {g : Nat → Int32} {R : am_R}
def zP (P : Nat → Nat → Prop) (k : am_M) (g : Nat → Int32) : Prop := ∀ a j m, zCo a j m → P a j → g m = k a j
theorem zP_up {P : Nat → Nat → Prop} {k : am_M} {a j m : Nat} {v : Int32} (h : zP P k g) (hd : zCo a j m) : zP (fun a1 j1 => P a1 j1 ∨ (a1 = a ∧ j1 = j)) (am_up k a j v) (upd g m v) := by
  intro a2 j2 m2 h2 h3
  by_cases e : m2 = m
  · subst e
    obtain ⟨rfl, rfl⟩ := zCo_bw hd h2
    rw [zup_ss, pk_us]
  · have hne : ¬ (a2 = a ∧ j2 = j) := fun q => e (by obtain ⟨rfl, rfl⟩ := q; exact zCo_fw h2 hd)
    rw [pk_un e, h a2 j2 m2 h2 (h3.resolve_right hne)]
    by_cases ea : a2 = a
    · subst ea; rw [zup_sn _ (fun z => hne ⟨rfl, z⟩)]
    · rw [zup_n _ _ ea]
theorem zP_k {P : Nat → Nat → Prop} {k : am_M} {a j : Nat} {v : Int32} (h : zP P k g) (ha : a = 39 ∨ a = 41 ∨ a = 43 ∨ a = 45 ∨ a = 47 ∨ a = 49 ∨ a = 67 ∨ a = 69 ∨ a = 78 ∨ a = 80 ∨ a = 91 ∨ a = 93) : zP P (am_up k a j v) g := by
  intro a2 j2 m2 h2 h3
  have h4 := zCo_a h2
  rw [h a2 j2 m2 h2 h3, zup_n _ _ (by omega)]
theorem zCo_odd {a j m : Nat} (h : zCo a j m) (h1 : 59 ≤ a) (h2 : a ≤ 75) : a = 59 ∨ a = 61 ∨ a = 63 ∨ a = 65 ∨ a = 71 ∨ a = 73 ∨ a = 75 := by
  unfold zCo at h
  rcases h with h | h | h | h | h | h | h | h | h | h | h | h | h | h | h | h | h | h | h <;> omega
theorem zSim.opn {b : Nat} {k : am_M} {i S d : Nat} {kd dl bh : Int32} (h : zSim b k g) (hT : zT k ≤ 24) (hi : i < 24) (hS : S = zSc k) (h60 : S < 60) (hd : zc (k 29 i) = d) (h5 : d < 5) :
    zSim b (yOpen k i S d kd dl bh) (upd (upd (upd (upd (upd (upd (upd (upd (upd (upd g 171 (nI (S + 1))) (1311 + 32 * S + 0) (nI i)) (1311 + 32 * S + 1) (nI d)) (1311 + 32 * S + 2) kd) (1311 + 32 * S + 3) 0) (1311 + 32 * S + 4) dl) (1311 + 32 * S + 5) 0) (1311 + 32 * S + 6) bh) (231 + 45 * i + (15 + d)) (nI S)) (231 + 45 * i + 3) (nI (d + 1))) := by
  have c1 : zCo 59 S (1311 + 32 * S + 0) := zCo_s (w := 0) (by decide) h60 rfl
  have c2 : zCo 61 S (1311 + 32 * S + 1) := zCo_s (w := 1) (by decide) h60 rfl
  have c3 : zCo 63 S (1311 + 32 * S + 2) := zCo_s (w := 2) (by decide) h60 rfl
  have c4 : zCo 65 S (1311 + 32 * S + 3) := zCo_s (w := 3) (by decide) h60 rfl
  have c5 : zCo 71 S (1311 + 32 * S + 4) := zCo_s2 (w := 0) (by decide) h60 (by omega)
  have c6 : zCo 73 S (1311 + 32 * S + 5) := zCo_s2 (w := 1) (by decide) h60 (by omega)
  have c7 : zCo 75 S (1311 + 32 * S + 6) := zCo_s2 (w := 2) (by decide) h60 (by omega)
  have c8 : zCo 51 (i * 5 + d) (231 + 45 * i + (15 + d)) := zCo_st hi h5 (by omega)
  have c9 : zCo 29 i (231 + 45 * i + 3) := zCo_t (w := 3) (by decide) hi rfl
  have P0 : zP (zIn (zd k)) k g := h.1
  have P1 := zP_up (v := nI (S + 1)) P0 zCo_171
  have P2 := zP_up (v := nI i) P1 c1
  have P3 := zP_up (v := nI d) P2 c2
  have P4 := zP_up (v := kd) P3 c3
  have P5 := zP_up (v := 0) P4 c4
  have P6 := zP_k (a := 69) (j := S) (v := 0) (zP_k (a := 67) (j := S) (v := 0) P5 (by decide)) (by decide)
  have P7 := zP_up (v := dl) P6 c5
  have P8 := zP_up (v := 0) P7 c6
  have P9 := zP_up (v := bh) P8 c7
  have P10 := zP_up (v := nI S) P9 c8
  have P11 := zP_up (v := nI (d + 1)) P10 c9
  refine ⟨fun a j m hc hn => P11 a j m hc ?_, ?_⟩
  · have f0 : zd (yOpen k i S d kd dl bh) 0 0 = zd k 0 0 := congrArg zc (rfl : yOpen k i S d kd dl bh 21 0 = k 21 0)
    have f1 : zd (yOpen k i S d kd dl bh) 1 0 = zd k 1 0 + 1 := by
      show zc (nI (S + 1)) = zc (k 57 0) + 1
      rw [zc_i (by omega), hS]
    have f2 : zd (yOpen k i S d kd dl bh) 2 0 = zd k 2 0 := congrArg zc (rfl : yOpen k i S d kd dl bh 89 1 = k 89 1)
    have f3 : zd (yOpen k i S d kd dl bh) 3 0 = zd k 3 0 := congrArg zc (rfl : yOpen k i S d kd dl bh 95 1 = k 95 1)
    have f4 : zd (yOpen k i S d kd dl bh) 4 0 = zd k 4 0 := congrArg zc (rfl : yOpen k i S d kd dl bh 97 1 = k 97 1)
    have f6 : ∀ x, zd (yOpen k i S d kd dl bh) 6 x = zd k 6 x := fun x => congrArg zc (rfl : yOpen k i S d kd dl bh 54 x = k 54 x)
    have f7 : ∀ x, zd (yOpen k i S d kd dl bh) 7 x = zd k 7 x := fun x => congrArg zc (rfl : yOpen k i S d kd dl bh 18 x = k 18 x)
    have f8 : ∀ x, zd (yOpen k i S d kd dl bh) 8 x = zd k 8 x := fun x => by rw [zd_8, zd_8]; exact congrArg zc (rfl : yOpen k i S d kd dl bh 85 x = k 85 x)
    have f5 : ∀ x, zd (yOpen k i S d kd dl bh) 5 x = if x = i then d + 1 else zd k 5 x := by
      intro x
      show zc (upd (k 29) i (nI (d + 1)) x) = if x = i then d + 1 else zc (k 29 x)
      by_cases e : x = i
      · subst e; rw [pk_us, zc_i (by omega), if_pos rfl]
      · rw [pk_un e, if_neg e]
    have hSd : zd k 1 0 = S := hS.symm
    have hdd : zd k 5 i = d := hd
    by_cases s1 : 59 ≤ a ∧ a ≤ 75 ∧ j = S
    · obtain ⟨s1, s2, rfl⟩ := s1
      rcases zCo_odd hc s1 s2 with rfl | rfl | rfl | rfl | rfl | rfl | rfl <;> simp
    · by_cases s2 : a = 51 ∧ j = i * 5 + d
      · exact Or.inl (Or.inr s2)
      · refine Or.inl (Or.inl (Or.inl (Or.inl (Or.inl (Or.inl (Or.inl (Or.inl (Or.inl (Or.inl ?_)))))))))
        unfold zIn at hn ⊢
        rw [f0, f1, f2, f3, f4, f5, f6, f7, f8] at hn
        obtain ⟨n1, n2, n3, n4, n5, n6, n7, n8, n9⟩ := hn
        refine ⟨n1, n2, n3, fun z => ?_, n5, fun z => ?_, n7, n8, n9⟩
        · have n4 := n4 z
          refine ⟨n4.1, ?_⟩
          by_cases e : j / 5 = i
          · rw [if_pos e] at n4
            rw [e, hdd]
            have : ¬ j = i * 5 + d := fun q => s2 ⟨z, q⟩
            omega
          · rw [if_neg e] at n4; exact n4.2
        · have n6 := n6 z
          rw [hSd] at n6 ⊢
          have : ¬ j = S := fun q => s1 ⟨z.1, z.2, q⟩
          omega
  · have E : zEx g (upd (upd (upd (upd (upd (upd (upd (upd (upd (upd g 171 (nI (S + 1))) (1311 + 32 * S + 0) (nI i)) (1311 + 32 * S + 1) (nI d)) (1311 + 32 * S + 2) kd) (1311 + 32 * S + 3) 0) (1311 + 32 * S + 4) dl) (1311 + 32 * S + 5) 0) (1311 + 32 * S + 6) bh) (231 + 45 * i + (15 + d)) (nI S)) (231 + 45 * i + 3) (nI (d + 1))) :=
      (((((((((zEx.up zCo_171).tr (zEx.up c1)).tr (zEx.up c2)).tr (zEx.up c3)).tr (zEx.up c4)).tr (zEx.up c5)).tr (zEx.up c6)).tr (zEx.up c7)).tr (zEx.up c8)).tr (zEx.up c9)
    obtain ⟨ha, hb, hc, hd1, he, hf, hu⟩ := zS2.g hT (show zSc k ≤ 60 by omega) h.2 E
    refine ⟨ha, hb, hc, hd1, he, fun s hs q => ?_, hu⟩
    have hs : s < zc (nI (S + 1)) := hs
    rw [zc_i (by omega)] at hs
    have q : upd (k 73) S 0 s ≠ 0 := q
    by_cases e : s = S
    · subst e; rw [pk_us] at q; exact absurd rfl q
    · rw [pk_un e] at q
      exact hf s (show s < zSc k by omega) q
set_option maxRecDepth 20000 in
theorem y_any {q : Nat} {c : Int32} {s : am_M} (hq : (am_strs.map (fun q => q.1)).contains (q - 1000) = true ∧ Nat.ble 1000 q = true) (h : R (some (.int (bI (isA q c = true)))) s) : sp_X12_isAny [.int c, .ref q] s R := by
  refine ⟨hq.1, hq.2, fun z => ?_, fun z => ?_⟩
  · rw [bI_t z] at h; exact h
  · rw [bI_f (by rw [z]; decide)] at h; exact h
theorem isA_71 {c : Int32} : isA 1071 c = true ↔ (c = 40 ∨ c = 91 ∨ c = 123) := by
  show ([40, 91, 123] : List Int32).contains c = true ↔ _
  simp
theorem wc_s2 {code : Nat → am_T} {pc nx : Nat} {ls : am_L} {st : List Value} {s : am_M} (hm : ∀ pc, am_mono (code pc)) {sp : am_S} {a b : Value} (h8 : Nat.ble st.length 8 = true) (hc : code pc = mt_cs 2 sp nx) (h : sp [a, b] s (fun v s1 => am_Wp code nx ls (v.toList ++ st) s1 R)) : am_Wp code pc ls (b :: a :: st) s R := by
  refine am_Wp.fold hm ?_
  rw [hc]
  show bif Nat.ble st.length 8 then _ else False
  rw [h8]
  exact h
set_option maxRecDepth 20000 in
theorem l_opens {i L : Nat} {f : Nat → Int32} {t kd dl s : Int32} (hi : i < 24) (ht : t = nI i) (hL : L ≤ 24) (hf : ∀ p, p < L → g (252 + 45 * i + p) = f p) {B : Nat} (h : ∀ ls : am_L, (∀ q ∈ ([(0, .ref 189), (1, .int t), (4, .int s), (5, .int (nI B))] : am_L), am_lv ls q.1 = some q.2) → am_Wp (am_lk cl_X12_opens) 186 ls [] (am_ua σ 190 g) R) :
    ∀ m p e d z, p + m = L → 1 ≤ e → e ≤ d → d ≤ 40 → zWf f m p d z → zBc f m p e = B → ∀ ls : am_L, (∀ q ∈ ([(0, .ref 189), (1, .int t), (4, .int s), (5, .int (nI p)), (6, .int (nI e))] : am_L), am_lv ls q.1 = some q.2) → am_Wp (am_lk cl_X12_opens) 130 ls [] (am_ua σ 190 g) R := by
  intro m
  induction m with
  | zero => intro p e d z hp h1 h2 _ hw _ ls hls; have := hw.1; omega
  | succ m ih =>
    intro p e d z hp h1 h2 h40 hw hB ls hls
    obtain ⟨w1, w2⟩ := hw
    have eD := zDn_add (x := f p) (d := d) (e := e) (c := d - e) (by omega) (by omega)
    refine am_Wp.sub hm_X12_opens (am_le_of hls) (am_go hm_X12_opens (fun p => Nat.beq p 151) 40 ?_)
    refine am_ite (fun z => absurd z (nI_nle (by omega) (by omega))) (fun _ => ?_)
    refine y_task i ht ?_
    refine wn_ld hm_X12_opens (252 + 45 * i + p) (by
      show nI (231 + 45 * i) + nI 20 + nI 1 + nI p = _
      rw [nI_add, nI_add, nI_add]; congr 1; omega) (hf p (by omega)) (by omega) rfl ?_
    refine am_go hm_X12_opens (fun p => Nat.beq p 161) 60 ?_
    -- the next round, or the end
    have k180 : ∀ (e1 : Nat) (ls : am_L), (∀ q ∈ ([(0, .ref 189), (1, .int t), (4, .int s), (5, .int (nI p)), (6, .int (nI e1))] : am_L), am_lv ls q.1 = some q.2) → e1 = zDn (f p) e → am_Wp (am_lk cl_X12_opens) 180 ls [] (am_ua σ 190 g) R := by
      intro e1 ls hls he1
      have hB2 : (if zDn (f p) e = 0 then p + 1 else zBc f m (p + 1) (zDn (f p) e)) = B := hB
      refine am_Wp.sub hm_X12_opens (am_le_of hls) (am_go hm_X12_opens (fun p => Nat.beq p 130) 20 ?_)
      have F : ∀ q ∈ ([(0, .ref 189), (1, .int t), (4, .int s), (5, .int (nI (p + 1))), (6, .int (nI e1))] : am_L), am_lv ((5, .int (nI p + 1)) :: am_rm [(0, .ref 189), (1, .int t), (4, .int s), (5, .int (nI p)), (6, .int (nI e1))] 5) q.1 = some q.2 := List.forall_mem_cons.mpr ⟨rfl, List.forall_mem_cons.mpr ⟨rfl, List.forall_mem_cons.mpr ⟨rfl, List.forall_mem_cons.mpr ⟨by rw [nI_succ p]; rfl, List.forall_mem_cons.mpr ⟨rfl, fun _ q => by cases q⟩⟩⟩⟩⟩
      by_cases hz : zDn (f p) e = 0
      · rw [if_pos hz] at hB2
        rw [he1, hz] at F ⊢
        refine am_Wp.sub hm_X12_opens (am_le_of F) (am_go hm_X12_opens (fun p => Nat.beq p 186) 20 ?_)
        refine am_ite (fun _ => ?_) (fun z => absurd (show (nI 0 : Int32) ≤ 0 by decide) z)
        exact h _ (List.forall_mem_cons.mpr ⟨rfl, List.forall_mem_cons.mpr ⟨rfl, List.forall_mem_cons.mpr ⟨rfl, List.forall_mem_cons.mpr ⟨by rw [← hB2]; rfl, fun _ q => by cases q⟩⟩⟩⟩)
      · rw [if_neg hz] at hB2
        have w2' := w2
        rw [eD] at w2'
        have hb : zDn (f p) e + (d - e) ≤ 40 := by
          have := w1.1
          unfold zDn at eD ⊢
          by_cases c : iSign (f p) = 40 ∨ iSign (f p) = 91 ∨ iSign (f p) = 123
          · have := (this c).2; rw [if_pos c]; omega
          · rw [if_neg c]; split <;> omega
        exact ih (p + 1) e1 _ _ (by omega) (by omega) (by rw [he1]; omega) hb w2' (by rw [he1]; exact hB2) _ F
    have k170 : ∀ (e1 : Nat) (ls : am_L), (∀ q ∈ ([(0, .ref 189), (1, .int t), (4, .int s), (5, .int (nI p)), (6, .int (nI e1)), (7, .int (iSign (f p)))] : am_L), am_lv ls q.1 = some q.2) → (¬ iSign (f p) = 41 → e1 = zDn (f p) e) → (iSign (f p) = 41 → e1 = e) → am_Wp (am_lk cl_X12_opens) 170 ls [] (am_ua σ 190 g) R := by
      intro e1 ls hls n41 y41
      refine am_Wp.sub hm_X12_opens (am_le_of hls) (am_go hm_X12_opens (fun p => Nat.beq p 180) 20 ?_)
      refine am_ite (fun q => ?_) (fun q => ?_)
      · have q : iSign (f p) = 41 := q
        have he : e1 = e := y41 q
        obtain ⟨e0, rfl⟩ : ∃ e0, e = e0 + 1 := ⟨e - 1, by omega⟩
        refine k180 e0 _ (List.forall_mem_cons.mpr ⟨rfl, List.forall_mem_cons.mpr ⟨rfl, List.forall_mem_cons.mpr ⟨rfl, List.forall_mem_cons.mpr ⟨rfl, List.forall_mem_cons.mpr ⟨by rw [he]; exact congrArg (fun x => some (Value.int x)) (pk_m1 e0), fun _ q => by cases q⟩⟩⟩⟩⟩) ?_
        unfold zDn
        rw [if_neg (by rw [q]; decide), if_pos q]
        rfl
      · have q : ¬ iSign (f p) = 41 := q
        exact k180 e1 _ (List.forall_mem_cons.mpr ⟨rfl, List.forall_mem_cons.mpr ⟨rfl, List.forall_mem_cons.mpr ⟨rfl, List.forall_mem_cons.mpr ⟨rfl, List.forall_mem_cons.mpr ⟨rfl, fun _ q => by cases q⟩⟩⟩⟩⟩) (n41 q)
    refine wc_s2 hm_X12_opens rfl rfl (y_any (q := 1071) ⟨by decide, by decide⟩ ?_)
    refine am_go hm_X12_opens (fun p => Nat.beq p 170) 20 ?_
    show (bI (isA 1071 (iSign (f p)) = true) = 0 → _) ∧ (¬ bI (isA 1071 (iSign (f p)) = true) = 0 → _)
    refine am_ite (fun q => ?_) (fun q => ?_)
    · have q : ¬ (iSign (f p) = 40 ∨ iSign (f p) = 91 ∨ iSign (f p) = 123) := fun z => bI_0.mp q (isA_71.mpr z)
      refine k170 e _ (List.forall_mem_cons.mpr ⟨rfl, List.forall_mem_cons.mpr ⟨rfl, List.forall_mem_cons.mpr ⟨rfl, List.forall_mem_cons.mpr ⟨rfl, List.forall_mem_cons.mpr ⟨rfl, List.forall_mem_cons.mpr ⟨rfl, fun _ q => by cases q⟩⟩⟩⟩⟩⟩) (fun z => ?_) (fun _ => rfl)
      unfold zDn
      rw [if_neg q, if_neg z]
    · have q : iSign (f p) = 40 ∨ iSign (f p) = 91 ∨ iSign (f p) = 123 := isA_71.mp (bI_n0.mp q)
      refine k170 (e + 1) _ (List.forall_mem_cons.mpr ⟨rfl, List.forall_mem_cons.mpr ⟨rfl, List.forall_mem_cons.mpr ⟨rfl, List.forall_mem_cons.mpr ⟨rfl, List.forall_mem_cons.mpr ⟨by rw [nI_succ e]; rfl, List.forall_mem_cons.mpr ⟨rfl, fun _ q => by cases q⟩⟩⟩⟩⟩⟩) (fun z => ?_) (fun z => ?_)
      · unfold zDn
        rw [if_pos q]
      · rw [z] at q; exact absurd q (by decide)
end ZE1
