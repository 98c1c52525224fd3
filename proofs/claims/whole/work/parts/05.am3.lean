/-! am: fields, arrays, switches, calls, ends -/
section AM3
variable {l : Launch} {G : am_G} {cc : ByteArray} {nL : Nat} {own : String} {Ts : List Cond} {R : Room} {pc : Nat} {ret : Option FieldType}
/-! fields -/
def mt_getf (ci j nx : Nat) : am_T := fun ls st σ K _ => match st with
  | .ref k :: r => match am_lay[k]? with
    | some (.inr (c, fs)) => bif Nat.beq c ci then (match fs[j]? with
      | some none => K nx ls (.int (σ k j) :: r) σ
      | some (some q) => K nx ls (.ref q :: r) σ
      | none => False) else False
    | _ => False
  | _ => False
theorem mp_getf (ci j : Nat) {index N : Nat} {ref C : String} {T : u_T} (d : decode cc pc = .ok (.getfield index, 3)) (hC : vwCl[ci]? = some (C, T, N)) (hin : ∀ w ∈ u_ws C T N, w ∈ Ts) (hj : j < N) (hlink : Cond.fieldLink own index ref (T j).2.1 (T j).2.2.1 ∈ Ts) (href : (T j).1 = ref) : am_P l G cc nL own Ts R (mt_getf ci j (pc + 3)) pc := by
  refine ⟨?_, ?_⟩
  · intro ls ls' st σ K K' R R' hle hK hR h
    unfold mt_getf at h ⊢
    split at h
    · rename_i k r
      try dsimp only
      split at h
      · rename_i c fs he
        try rw [he]
        try dsimp only
        cases hb : Nat.beq c ci with
        | false => rw [hb] at h; exact h.elim
        | true =>
          rw [hb] at h
          dsimp only [cond] at h ⊢
          split at h
          · rename_i hf; (try rw [hf]); exact hK _ _ _ _ _ hle h
          · rename_i q hf; (try rw [hf]); exact hK _ _ _ _ _ hle h
          · exact h.elim
      · exact h.elim
    · exact h.elim
  intro p e s m args below meth c A cells slots Q hF hK hG hA hc ls st σ K R0 ht hk
  unfold mt_getf at ht
  split at ht
  · rename_i k r
    split at ht
    · rename_i c9 fs he
      cases hb : Nat.beq c9 ci with
      | false => rw [hb] at ht; exact ht.elim
      | true =>
        rw [hb] at ht
        dsimp only [cond] at ht
        have hci := Nat.eq_of_beq_eq_true hb
        subst hci
        intro c1 c2 H locs lsA hH hS hl
        have key : ∀ v : Value, (am_fv G.1 (σ k) 0 fs)[j]? = some (am_rn G v) → v.category = 1 → K (pc + 3) ls (v :: r) σ → W p l e R s m args below meth c H locs cells slots Q (F0 m pc lsA ((Value.ref k :: r).map (am_rn G))) := by
          intro v hv hcv hkv
          exact va_get hF.1 hF.2.1 hF.2.2.2.2 hin hF.2.2.2.1 hK.1 hH.1 k (am_ws_get he) hC j hj (hF.2.2.2.2 _ hlink) (fun x hx => by rw [← href]; exact hx) hv d (hk _ _ _ _ hkv c1 (am_c1 hcv (am_ct c2)) H locs lsA hH hS hl)
        split at ht
        · rename_i hf; exact key _ (by rw [am_fv_get, hf, Nat.zero_add]; rfl) rfl ht
        · rename_i q hf; exact key _ (by rw [am_fv_get, hf]; rfl) rfl ht
        · exact ht.elim
    · exact ht.elim
  · exact ht.elim
def mt_putf (ci j nx : Nat) : am_T := fun ls st σ K _ => match st with
  | .int v :: .ref k :: r => match am_lay[k]? with
    | some (.inr (c, fs)) => bif Nat.beq c ci then (match fs[j]? with
      | some none => K nx ls r (am_up σ k j v)
      | _ => False) else False
    | _ => False
  | _ => False
theorem am_putW {p : Program} {e : Env} {s : State} {m : MethodId} {args : Array Value} {below : List Frame} {meth : Method} {c : Code} {A : Nat → Prop} {cells slots : Nat} {Q : State → Prop} {ci j index N k : Nat} {ref C : String} {T : u_T} {ty : FieldType} {v : Int32} {fs : List (Option Nat)} {σ : am_M} {H : Heap} {locs : List Loc} {lsA : Array Slot} {rest : List Value}
    (hF : CallFix p m c cc nL s args Ts own) (hK : am_Kn G s) (hG : am_ok G) (hA : ∀ q, am_A G q → A q) (d : decode cc pc = .ok (.putfield index, 3)) (hC : vwCl[ci]? = some (C, T, N)) (hin : ∀ w ∈ u_ws C T N, w ∈ Ts) (ty0 : Nat → FieldType) (hty : ∀ k, k < N → parseFieldDescriptor (T k).2.2.1 = some (ty0 k)) (hnm : ∀ a, a < N → ∀ b, b < N → a ≠ b → (T a).2.1 ≠ (T b).2.1)
    (hj : j < N) (hlink : Cond.fieldLink own index ref (T j).2.1 (T j).2.2.1 ∈ Ts) (href : (T j).1 = ref) (hfin : (T j).2.2.2 = false) (hd : parseFieldDescriptor (T j).2.2.1 = some ty) (hn : narrow ty (.int v) = .int v) (hfit : fits ty (.int v) = true)
    (he : am_lay[k]? = some (.inr (ci, fs))) (hf : fs[j]? = some none) (hH : am_H G σ H) (hS : va_S A s.heap H locs)
    (kk : ∀ (H1 : Heap) (locs1 : List Loc), am_H G (am_up σ k j v) H1 → va_S A s.heap H1 locs1 → W p l e R s m args below meth c H1 locs1 cells slots Q (F0 m (pc + 3) lsA rest)) : W p l e R s m args below meth c H locs cells slots Q (F0 m pc lsA (.int v :: .ref (G.1 k) :: rest)) := by
  have hDD : va_D (am_A G) (am_ws G σ) := am_ws_D hG (fun _ q => q)
  have hfl : j < (am_fv G.1 (σ k) 0 fs).length := by rw [am_fv_len]; exact (List.getElem?_eq_some_iff.mp hf).1
  obtain ⟨r0, h1, cell, q1, q2, q3, q4⟩ := hH.1 k _ (am_ws_get he)
  have hr : r0 = (C, T, N) := Option.some.inj (h1.symm.trans hC)
  subst hr
  have hap := va_apart (own := own) hF.2.2.2.2 hin ty0 hty hnm hK.1 hC
  obtain ⟨hSl, hfc, kC, hkC, hkind⟩ := hK.1.1 ci _ hC
  obtain ⟨cf, kf, fi, f, hi, hsl⟩ := hSl j hj
  have hlay := hF.2.2.2.2 _ (hin _ (u_in_lay hj))
  unfold u_lay at hlay
  rw [if_neg (by rw [hfin]; decide)] at hlay
  have hst := (u_facts hfc hkC (u_lays hF.2.2.2.2 hin hj) hi).1
  have h6 := u_store hfc hkC hkind hlay hi hd hn hfit
  refine W.putK hF.1 hF.2.1 (f := f) (index := index) (ref := ref) ⟨hF.2.2.2.1, hF.2.2.2.2 _ hlink, ⟨_, _, _, by rw [← href]; exact hi⟩, hst⟩ (by rw [q2]; exact h6) q1 q3 (by rw [hsl]; exact k2_hasslot (q4 j hj)) rfl rfl d fun H' e1 e2 e3 => ?_
  rw [hsl] at e1 ⊢
  have hP' := hH.1.set hDD (am_ws_get he) (e := .inr (ci, (am_fv G.1 (σ k) 0 fs).set j (.int v))) ⟨_, hC, t_OB.to (V := updV (vp_V (am_fv G.1 (σ k) 0 fs)) j (.int v)) ⟨_, e1, q2, q3, t_set q4 hap hj (.int v)⟩ (fun i _ => vp_updV_set hfl (.int v) i)⟩ e3
  rw [am_fv_set G.1 (σ k) v fs 0 j hf, Nat.zero_add] at hP'
  have hk := (List.getElem?_eq_some_iff.mp he).1
  refine kk H' _ ⟨?_, by rw [e2]; exact hH.2.1, fun q hq => ?_⟩ (hS.put e2 e3 (hA _ ⟨k, hk, rfl⟩))
  · rw [am_up, ← am_ws_set he]; exact hP'
  · rw [e3 q (fun z => by have z' : q = G.1 k := z; have := hG.2.1 k hk; omega)]; exact hH.2.2 q hq
theorem mp_putf (ci j : Nat) {index N : Nat} {ref C : String} {T : u_T} (d : decode cc pc = .ok (.putfield index, 3)) (hC : vwCl[ci]? = some (C, T, N)) (hin : ∀ w ∈ u_ws C T N, w ∈ Ts) (ty0 : Nat → FieldType) (hty : ∀ k, k < N → parseFieldDescriptor (T k).2.2.1 = some (ty0 k)) (hnm : ∀ a, a < N → ∀ b, b < N → a ≠ b → (T a).2.1 ≠ (T b).2.1)
    (hj : j < N) (hlink : Cond.fieldLink own index ref (T j).2.1 (T j).2.2.1 ∈ Ts) (href : (T j).1 = ref) (hfin : (T j).2.2.2 = false) (hd : parseFieldDescriptor (T j).2.2.1 = some .int) : am_P l G cc nL own Ts R (mt_putf ci j (pc + 3)) pc := by
  refine ⟨?_, ?_⟩
  · intro ls ls' st σ K K' R R' hle hK hR h
    unfold mt_putf at h ⊢
    split at h
    · try dsimp only
      split at h
      · rename_i c fs he
        try rw [he]
        try dsimp only
        cases hb : Nat.beq c ci with
        | false => rw [hb] at h; exact h.elim
        | true =>
          rw [hb] at h
          dsimp only [cond] at h ⊢
          split at h
          · rename_i hf; (try rw [hf]); exact hK _ _ _ _ _ hle h
          · exact h.elim
      · exact h.elim
    · exact h.elim
  intro p e s m args below meth c A cells slots Q hF hK hG hA hc ls st σ K R0 ht hk
  unfold mt_putf at ht
  split at ht
  · rename_i v k r
    split at ht
    · rename_i c fs he
      cases hb : Nat.beq c ci with
      | false => rw [hb] at ht; exact ht.elim
      | true =>
        rw [hb] at ht
        dsimp only [cond] at ht
        have hci := Nat.eq_of_beq_eq_true hb
        subst hci
        split at ht
        · rename_i hf
          intro c1 c2 H locs lsA hH hS hl
          exact am_putW hF hK hG hA.1 d hC hin ty0 hty hnm hj hlink href hfin hd rfl rfl he hf hH hS (fun H1 locs1 hH1 hS1 => hk _ _ _ _ ht c1 (am_ct (am_ct c2)) H1 locs1 lsA hH1 hS1 hl)
        · exact ht.elim
    · exact ht.elim
  · exact ht.elim
def mt_putz (ci j nx : Nat) : am_T := fun ls st σ K _ => match st with
  | .int v :: .ref k :: r => match am_lay[k]? with
    | some (.inr (c, fs)) => bif Nat.beq c ci then (match fs[j]? with
      | some none => (v = 0 ∨ v = 1) ∧ K nx ls r (am_up σ k j v)
      | _ => False) else False
    | _ => False
  | _ => False
theorem mp_putz (ci j : Nat) {index N : Nat} {ref C : String} {T : u_T} (d : decode cc pc = .ok (.putfield index, 3)) (hC : vwCl[ci]? = some (C, T, N)) (hin : ∀ w ∈ u_ws C T N, w ∈ Ts) (ty0 : Nat → FieldType) (hty : ∀ k, k < N → parseFieldDescriptor (T k).2.2.1 = some (ty0 k)) (hnm : ∀ a, a < N → ∀ b, b < N → a ≠ b → (T a).2.1 ≠ (T b).2.1)
    (hj : j < N) (hlink : Cond.fieldLink own index ref (T j).2.1 (T j).2.2.1 ∈ Ts) (href : (T j).1 = ref) (hfin : (T j).2.2.2 = false) (hd : parseFieldDescriptor (T j).2.2.1 = some .boolean) : am_P l G cc nL own Ts R (mt_putz ci j (pc + 3)) pc := by
  refine ⟨?_, ?_⟩
  · intro ls ls' st σ K K' R R' hle hK hR h
    unfold mt_putz at h ⊢
    split at h
    · try dsimp only
      split at h
      · rename_i c fs he
        try rw [he]
        try dsimp only
        cases hb : Nat.beq c ci with
        | false => rw [hb] at h; exact h.elim
        | true =>
          rw [hb] at h
          dsimp only [cond] at h ⊢
          split at h
          · rename_i hf; (try rw [hf]); exact ⟨h.1, hK _ _ _ _ _ hle h.2⟩
          · exact h.elim
      · exact h.elim
    · exact h.elim
  intro p e s m args below meth c A cells slots Q hF hK hG hA hc ls st σ K R0 ht hk
  unfold mt_putz at ht
  split at ht
  · rename_i v k r
    split at ht
    · rename_i c fs he
      cases hb : Nat.beq c ci with
      | false => rw [hb] at ht; exact ht.elim
      | true =>
        rw [hb] at ht
        dsimp only [cond] at ht
        have hci := Nat.eq_of_beq_eq_true hb
        subst hci
        split at ht
        · rename_i hf
          intro c1 c2 H locs lsA hH hS hl
          have hn : narrow .boolean (.int v) = .int v := by rcases ht.1 with h0 | h0 <;> rw [h0] <;> rfl
          have hfit : fits .boolean (.int v) = true := by rcases ht.1 with h0 | h0 <;> rw [h0] <;> decide
          exact am_putW hF hK hG hA.1 d hC hin ty0 hty hnm hj hlink href hfin hd hn hfit he hf hH hS (fun H1 locs1 hH1 hS1 => hk _ _ _ _ ht.2 c1 (am_ct (am_ct c2)) H1 locs1 lsA hH1 hS1 hl)
        · exact ht.elim
    · exact ht.elim
  · exact ht.elim
/-! arrays -/
def mt_iald (nx : Nat) : am_T := fun ls st σ K _ => match st with
  | .int i :: .ref k :: r => match am_lay[k]? with
    | some (.inl n) => vp_in i n ∧ K nx ls (.int (σ k i.toNatClampNeg) :: r) σ
    | _ => False
  | _ => False
theorem mp_iald (d : decode cc pc = .ok (.iaload, 1)) : am_P l G cc nL own Ts R (mt_iald (pc + 1)) pc := by
  refine ⟨?_, ?_⟩
  · intro ls ls' st σ K K' R R' hle hK hR h
    unfold mt_iald at h ⊢
    split at h
    · try dsimp only
      split at h
      · rename_i n he
        try rw [he]
        exact ⟨h.1, hK _ _ _ _ _ hle h.2⟩
      · exact h.elim
    · exact h.elim
  intro p e s m args below meth c A cells slots Q hF hK hG hA hc ls st σ K R0 ht hk
  unfold mt_iald at ht
  split at ht
  · rename_i i k r
    split at ht
    · rename_i n he
      intro c1 c2 H locs lsA hH hS hl
      exact va_iald hF.1 hF.2.1 hK.1 hH.1 k 0 (am_ws_get he) rfl ht.1 d (hk _ _ _ _ ht.2 c1 (am_c1 rfl (am_ct (am_ct c2))) H locs lsA hH hS hl)
    · exact ht.elim
  · exact ht.elim
def mt_alen (nx : Nat) : am_T := fun ls st σ K _ => match st with
  | .ref k :: r => match am_lay[k]? with
    | some (.inl n) => K nx ls (.int (nI n) :: r) σ
    | _ => False
  | _ => False
theorem mp_alen (d : decode cc pc = .ok (.arraylength, 1)) : am_P l G cc nL own Ts R (mt_alen (pc + 1)) pc := by
  refine ⟨?_, ?_⟩
  · intro ls ls' st σ K K' R R' hle hK hR h
    unfold mt_alen at h ⊢
    split at h
    · try dsimp only
      split at h
      · rename_i n he
        try rw [he]
        exact hK _ _ _ _ _ hle h
      · exact h.elim
    · exact h.elim
  intro p e s m args below meth c A cells slots Q hF hK hG hA hc ls st σ K R0 ht hk
  unfold mt_alen at ht
  split at ht
  · rename_i k r
    split at ht
    · rename_i n he
      intro c1 c2 H locs lsA hH hS hl
      exact va_alen hF.1 hF.2.1 hK.1 hH.1 k 0 (am_ws_get he) rfl (rfl : Int32.ofNat n = nI n) d (hk _ _ _ _ ht c1 (am_c1 rfl (am_ct c2)) H locs lsA hH hS hl)
    · exact ht.elim
  · exact ht.elim
theorem am_H_put {A : Nat → Prop} {s : State} {σ : am_M} {k n : Nat} {f : Nat → Int32} {H H1 : Heap} {locs : List Loc} {i : Nat} (hG : am_ok G) (hA : ∀ q, am_A G q → A q) (he : am_lay[k]? = some (.inl n)) (hH : am_H G σ H) (hS : va_S A s.heap H locs)
    (e : H1[G.1 k]? = some (vp_cell G.2.2.1 (n, .inl f))) (z : H1.size = H.size) (oq : ∀ q, q ≠ G.1 k → H1[q]? = H[q]?) : am_H G (am_ua σ k f) H1 ∧ va_S A s.heap H1 (locs ++ [⟨G.1 k, i⟩]) := by
  have hk := (List.getElem?_eq_some_iff.mp he).1
  refine ⟨⟨?_, by rw [z]; exact hH.2.1, fun q hq => ?_⟩, hS.put z oq (hA _ ⟨k, hk, rfl⟩)⟩
  · rw [← am_ws_set he]
    exact hH.1.set (am_ws_D hG (fun _ q => q) : va_D (am_A G) (am_ws G σ)) (am_ws_get he) e oq
  · rw [oq q (fun z => by have z' : q = G.1 k := z; have := hG.2.1 k hk; omega)]; exact hH.2.2 q hq
def mt_iast (nx : Nat) : am_T := fun ls st σ K _ => match st with
  | .int x :: .int i :: .ref k :: r => match am_lay[k]? with
    | some (.inl n) => vp_in i n ∧ K nx ls r (am_up σ k i.toNatClampNeg x)
    | _ => False
  | _ => False
theorem mp_iast (d : decode cc pc = .ok (.iastore, 1)) : am_P l G cc nL own Ts R (mt_iast (pc + 1)) pc := by
  refine ⟨?_, ?_⟩
  · intro ls ls' st σ K K' R R' hle hK hR h
    unfold mt_iast at h ⊢
    split at h
    · try dsimp only
      split at h
      · rename_i n he
        try rw [he]
        exact ⟨h.1, hK _ _ _ _ _ hle h.2⟩
      · exact h.elim
    · exact h.elim
  intro p e s m args below meth c A cells slots Q hF hK hG hA hc ls st σ K R0 ht hk
  unfold mt_iast at ht
  split at ht
  · rename_i x i k r
    split at ht
    · rename_i n he
      intro c1 c2 H locs lsA hH hS hl
      refine W.iast hF.1 hF.2.1 (hH.1 k _ (am_ws_get he)) ((hK.1.2 0 _ rfl).1 n (fun j => .int (σ k j))) (fun q => by cases q) (by show ¬ (i < 0 ∨ (arrV _ _ _).slots.size ≤ _); rw [arrV_size]; exact ht.1) rfl rfl d fun H1 e z oq => ?_
      obtain ⟨h1, h2⟩ := am_H_put (A := A) (s := s) (i := i.toNatClampNeg) (f := upd (σ k) i.toNatClampNeg x) hG hA.1 he hH hS (by
        rw [e]
        show some (Cell.setSlot (vp_cell G.2.2.1 (n, .inl (σ k))) _ _) = some (vp_cell G.2.2.1 (n, .inl _))
        rw [vp_cell_i, vp_cell_i, arrV_store]
        congr 2
        funext q
        by_cases hq : q = i.toNatClampNeg
        · subst hq; simp [updV, upd]
        · simp [updV, upd, hq]) z oq
      exact hk _ _ _ _ ht.2 c1 (am_ct (am_ct (am_ct c2))) H1 _ lsA h1 h2 hl
    · exact ht.elim
  · exact ht.elim
/-! ends -/
def mt_iret : am_T := fun _ st σ _ R => match st with
  | [.int v] => R (some (.int v)) σ
  | _ => False
def mt_zret : am_T := fun _ st σ _ R => match st with
  | [.int v] => (v = 0 ∨ v = 1) ∧ R (some (.int v)) σ
  | _ => False
def mt_vret : am_T := fun _ st σ _ R => match st with
  | [] => R none σ
  | _ => False
theorem am_QF {A : Nat → Prop} {R0 : am_R} {s : State} {H : Heap} {locs : List Loc} {v : Option Value} {σ : am_M} {a : Array Value} (hS : va_S A s.heap H locs) (hc : ∀ w, v = some w → w.category = 1) (hR : R0 v σ) (hH : am_H G σ H) : ∀ t : State, t.heap = H → s.WarmedH t.vm → am_Qc G A R0 a s (.returned (v.map (am_rn G))) t :=
  fun t ht _ => ⟨⟨v, σ, rfl, hc, hR, by rw [ht]; exact hH⟩, hS.F ht⟩
theorem mo_iret (d : decode cc pc = .ok (.ireturn, 1)) : am_Ok l G cc nL own Ts R (some .int) mt_iret pc := by
  refine ⟨?_, ?_⟩
  · intro ls ls' st σ K K' R R' hle hK hR h
    unfold mt_iret at h ⊢
    split at h
    · exact hR _ _ h
    · exact h.elim
  intro p e s m args below meth c R0 hF hK hG hr hlk ls st σ K ht hk
  unfold mt_iret at ht
  split at ht
  · rename_i v
    intro c1 c2 H locs lsA hH hS hl
    exact W.iret hF.1 hF.2.1 hr (am_QF (v := some (.int v)) hS (fun w hw => by cases hw; rfl) ht hH) hS.2.2 d hlk
  · exact ht.elim
theorem mo_zret (d : decode cc pc = .ok (.ireturn, 1)) : am_Ok l G cc nL own Ts R (some .boolean) mt_zret pc := by
  refine ⟨?_, ?_⟩
  · intro ls ls' st σ K K' R R' hle hK hR h
    unfold mt_zret at h ⊢
    split at h
    · exact ⟨h.1, hR _ _ h.2⟩
    · exact h.elim
  intro p e s m args below meth c R0 hF hK hG hr hlk ls st σ K ht hk
  unfold mt_zret at ht
  split at ht
  · rename_i v
    intro c1 c2 H locs lsA hH hS hl
    have hn : narrow .boolean (.int v) = .int v := by rcases ht.1 with h0 | h0 <;> rw [h0] <;> rfl
    exact W.zret hF.1 hF.2.1 hr hn (am_QF (v := some (.int v)) hS (fun w hw => by cases hw; rfl) ht.2 hH) hS.2.2 d hlk
  · exact ht.elim
theorem mo_vret (d : decode cc pc = .ok (.return_, 1)) : am_Ok l G cc nL own Ts R none mt_vret pc := by
  refine ⟨?_, ?_⟩
  · intro ls ls' st σ K K' R R' hle hK hR h
    unfold mt_vret at h ⊢
    split at h
    · exact hR _ _ h
    · exact h.elim
  intro p e s m args below meth c R0 hF hK hG hr hlk ls st σ K ht hk
  unfold mt_vret at ht
  split at ht
  · intro c1 c2 H locs lsA hH hS hl
    exact W.vret hF.1 hF.2.1 hr (am_QF (v := none) hS (fun w hw => by cases hw) ht hH) hS.2.2 d hlk
  · exact ht.elim
end AM3
