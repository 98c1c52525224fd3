/-! save, restore: the copies between the world and the snapshot (written by program: wip/whole/gen_cp.py, src/12.m0.head, .tail) -/
section ZCM
/-- the ints that a cell holds -/
def zVb (a j : Nat) : Bool := match am_lay[a]? with
  | some (.inl n) => Nat.blt j n
  | some (.inr (_, fs)) => (match fs[j]? with
    | some none => true
    | _ => false)
  | none => false
def zVis (a j : Nat) : Prop := zVb a j = true
def zOb (a : Nat) : Bool := match am_lay[a]? with
  | some (.inr (_, fs)) => Nat.ble fs.length 20
  | _ => false
theorem zVis_20 {a j : Nat} (h : zOb a = true) (hv : zVis a j) : j < 20 := by
  unfold zOb at h
  unfold zVis zVb at hv
  cases e : am_lay[a]? with
  | none => rw [e] at h; cases h
  | some y =>
    rw [e] at h hv
    cases y with
    | inl n => cases h
    | inr p =>
      obtain ⟨c, fs⟩ := p
      dsimp only at h hv
      rcases Nat.lt_or_ge j 20 with z | z
      · exact z
      · rw [List.getElem?_eq_none (Nat.le_trans (Nat.le_of_ble_eq_true h) z)] at hv
        cases hv
theorem zv_0 {a : Nat} (h : zOb a = true) (h1 : ∀ j, j < 20 → zVb a j = true → j = 0) : ∀ j, zVis a j → j = 0 := fun j hj => h1 j (zVis_20 h hj) hj
theorem zv_1 {a : Nat} (h : zOb a = true) (h1 : ∀ j, j < 20 → zVb a j = true → j = 1) : ∀ j, zVis a j → j = 1 := fun j hj => h1 j (zVis_20 h hj) hj
theorem zv0_107 : ∀ j, zVis 107 j → j = 0 := zv_0 (by decide +kernel) (by decide +kernel)
theorem zv0_143 : ∀ j, zVis 143 j → j = 0 := zv_0 (by decide +kernel) (by decide +kernel)
theorem zv0_21 : ∀ j, zVis 21 j → j = 0 := zv_0 (by decide +kernel) (by decide +kernel)
theorem zv0_57 : ∀ j, zVis 57 j → j = 0 := zv_0 (by decide +kernel) (by decide +kernel)
theorem zv1_89 : ∀ j, zVis 89 j → j = 1 := zv_1 (by decide +kernel) (by decide +kernel)
theorem zv1_91 : ∀ j, zVis 91 j → j = 1 := zv_1 (by decide +kernel) (by decide +kernel)
theorem zv1_93 : ∀ j, zVis 93 j → j = 1 := zv_1 (by decide +kernel) (by decide +kernel)
theorem zv1_95 : ∀ j, zVis 95 j → j = 1 := zv_1 (by decide +kernel) (by decide +kernel)
theorem zv1_97 : ∀ j, zVis 97 j → j = 1 := zv_1 (by decide +kernel) (by decide +kernel)
theorem zv1_175 : ∀ j, zVis 175 j → j = 1 := zv_1 (by decide +kernel) (by decide +kernel)
theorem zv1_177 : ∀ j, zVis 177 j → j = 1 := zv_1 (by decide +kernel) (by decide +kernel)
theorem zv1_179 : ∀ j, zVis 179 j → j = 1 := zv_1 (by decide +kernel) (by decide +kernel)
theorem zv1_181 : ∀ j, zVis 181 j → j = 1 := zv_1 (by decide +kernel) (by decide +kernel)
theorem zv1_183 : ∀ j, zVis 183 j → j = 1 := zv_1 (by decide +kernel) (by decide +kernel)
/-- two arrays of one length -/
def zTw (d s : Nat) : Bool := match am_lay[d]?, am_lay[s]? with
  | some (.inl n), some (.inl m) => Nat.beq n m
  | _, _ => false
theorem zTw_l {d s : Nat} (h : zTw d s = true) : am_len d = am_len s ∧ ∀ j, zVis d j → j < am_len d := by
  unfold zTw at h
  unfold am_len zVis zVb
  cases e : am_lay[d]? with
  | none => rw [e] at h; cases h
  | some y =>
    cases e2 : am_lay[s]? with
    | none => rw [e, e2] at h; cases y <;> cases h
    | some y2 =>
      rw [e, e2] at h
      cases y with
      | inr p => cases h
      | inl n =>
        cases y2 with
        | inr p => cases h
        | inl m => exact ⟨Nat.eq_of_beq_eq_true h, fun j hj => Nat.le_of_ble_eq_true hj⟩
def zHas (a : Nat) : Bool := match am_lay[a]? with
  | some (.inl _) => true
  | some (.inr (_, fs)) => fs.any (fun o => o.isNone)
  | none => false
theorem zVis_has {a j : Nat} (h : zVis a j) : zHas a = true := by
  unfold zVis zVb at h
  unfold zHas
  cases e : am_lay[a]? with
  | none => rw [e] at h; cases h
  | some y =>
    rw [e] at h
    cases y with
    | inl n => rfl
    | inr p =>
      obtain ⟨c, fs⟩ := p
      dsimp only at h ⊢
      cases e2 : fs[j]? with
      | none => rw [e2] at h; cases h
      | some o =>
        cases o with
        | some q => rw [e2] at h; cases h
        | none => exact List.any_eq_true.mpr ⟨none, List.mem_of_getElem? e2, rfl⟩
/-- behind some steps of a copy: the cells of D hold what f of them held -/
def zCp (f : Nat → Nat) (D : List Nat) (σ k : am_M) : Prop := (∀ a, a ∉ D → k a = σ a) ∧ ∀ a, a ∈ D → ∀ j, zVis a j → k a j = σ (f a) j
theorem zCp.nil (f : Nat → Nat) (σ : am_M) : zCp f [] σ σ := ⟨fun _ _ => rfl, fun _ h => absurd h List.not_mem_nil⟩
theorem zCp.row {f : Nat → Nat} {D : List Nat} {σ k : am_M} {c q : Nat} (h : zCp f D σ k) (ho : zTw (c + 1) (q + 1) = true) (hq : q + 1 ∉ D) (hf : f (c + 1) = q + 1) : zCp f ((c + 1) :: D) σ (rCpy k c q) := by
  obtain ⟨l1, l2⟩ := zTw_l ho
  refine ⟨fun a ha => ?_, fun a ha j hj => ?_⟩
  · rw [List.mem_cons, not_or] at ha
    unfold rCpy
    rw [am_ua_n _ _ ha.1]
    exact h.1 a ha.2
  · unfold rCpy
    by_cases e : a = c + 1
    · subst e
      rw [am_ua_s, hf, if_pos (by have := l2 j hj; omega), h.1 _ hq]
    · rw [am_ua_n _ _ e]
      exact h.2 a ((List.mem_cons.mp ha).resolve_left e) j hj
theorem zCp.put {f : Nat → Nat} {D : List Nat} {σ k : am_M} {d s : Nat} (h : zCp f D σ k) (hv : ∀ j, zVis d j → j = 0) (hs : s ∉ D) (hf : f d = s) : zCp f (d :: D) σ (am_up k d 0 (k s 0)) := by
  refine ⟨fun a ha => ?_, fun a ha j hj => ?_⟩
  · rw [List.mem_cons, not_or] at ha
    rw [zup_n _ _ ha.1]
    exact h.1 a ha.2
  · by_cases e : a = d
    · subst e
      rw [hv j hj, zup_ss, hf, h.1 _ hs]
    · rw [zup_n _ _ e]
      exact h.2 a ((List.mem_cons.mp ha).resolve_left e) j hj
theorem zCp.list {f : Nat → Nat} {D : List Nat} {σ k : am_M} {c q n : Nat} (h : zCp f D σ k) (ho : zTw (c + 1) (q + 1) = true) (hn : am_len (q + 1) = n) (hv : ∀ j, zVis c j → j = 1) (hq : q + 1 ∉ D) (hq2 : q ∉ D) (hf : f (c + 1) = q + 1) (hf2 : f c = q) (hs : ¬ nI n < σ q 1) : zCp f (c :: (c + 1) :: D) σ (lCpy k c q) := by
  have h1 := h.row ho hq hf
  have l1 := (zTw_l ho).1
  refine ⟨fun a ha => ?_, fun a ha j hj => ?_⟩
  · rw [List.mem_cons, not_or] at ha
    unfold lCpy
    rw [zup_n _ _ ha.1]
    exact h1.1 a ha.2
  · unfold lCpy
    by_cases e : a = c
    · subst e
      rw [hv j hj, zup_ss, hf2, l1, hn, Nat.min_self, h.1 _ hq2, if_neg hs]
    · rw [zup_n _ _ e]
      exact h1.2 a ((List.mem_cons.mp ha).resolve_left e) j hj
theorem zBd {b e : Nat} {D : List Nat} (h : (List.range 200).all (fun a => !(Nat.ble b a && Nat.ble a e && zHas a) || D.elem a) = true) (he : e < 200 := by decide) : ∀ a, b ≤ a → a ≤ e → zHas a = true → a ∈ D := by
  intro a h1 h2 h3
  have z := List.all_eq_true.mp h a (List.mem_range.mpr (by omega))
  rw [Nat.ble_eq_true_of_le h1, Nat.ble_eq_true_of_le h2, h3] at z
  exact List.elem_iff.mp z
theorem zAllD {b e : Nat} {D : List Nat} (h : D.all (fun a => Nat.ble b a && Nat.ble a e) = true) : ∀ a, a ∈ D → b ≤ a ∧ a ≤ e := by
  intro a ha
  have z := List.all_eq_true.mp h a ha
  rw [Bool.and_eq_true] at z
  exact ⟨Nat.le_of_ble_eq_true z.1, Nat.le_of_ble_eq_true z.2⟩

theorem zCp_sav {σ : am_M} (h89 : ¬ nI 660 < σ 89 1) (h91 : ¬ nI 660 < σ 91 1) (h93 : ¬ nI 660 < σ 93 1) (h95 : ¬ nI 24 < σ 95 1) (h97 : ¬ nI 24 < σ 97 1) : ∃ D, zCp (fun a => a - 86) D σ (wCpy σ 101 15) ∧ (∀ a, 101 ≤ a → a ≤ 186 → zHas a = true → a ∈ D) ∧ ∀ a, a ∈ D → 101 ≤ a ∧ a ≤ 186 := by
  have x0 := zCp.nil (fun a => a - 86) σ
  have x1 := x0.row (c := 103) (q := 17) (by decide +kernel) (by decide) rfl
  have x2 := x1.row (c := 105) (q := 19) (by decide +kernel) (by decide) rfl
  have x3 := x2.put (d := 107) (s := 21) (zv0_107) (by decide) rfl
  have x4 := x3.row (c := 108) (q := 22) (by decide +kernel) (by decide) rfl
  have x5 := x4.row (c := 110) (q := 24) (by decide +kernel) (by decide) rfl
  have x6 := x5.row (c := 112) (q := 26) (by decide +kernel) (by decide) rfl
  have x7 := x6.row (c := 114) (q := 28) (by decide +kernel) (by decide) rfl
  have x8 := x7.row (c := 116) (q := 30) (by decide +kernel) (by decide) rfl
  have x9 := x8.row (c := 118) (q := 32) (by decide +kernel) (by decide) rfl
  have x10 := x9.row (c := 120) (q := 34) (by decide +kernel) (by decide) rfl
  have x11 := x10.row (c := 122) (q := 36) (by decide +kernel) (by decide) rfl
  have x12 := x11.row (c := 124) (q := 38) (by decide +kernel) (by decide) rfl
  have x13 := x12.row (c := 126) (q := 40) (by decide +kernel) (by decide) rfl
  have x14 := x13.row (c := 128) (q := 42) (by decide +kernel) (by decide) rfl
  have x15 := x14.row (c := 130) (q := 44) (by decide +kernel) (by decide) rfl
  have x16 := x15.row (c := 132) (q := 46) (by decide +kernel) (by decide) rfl
  have x17 := x16.row (c := 134) (q := 48) (by decide +kernel) (by decide) rfl
  have x18 := x17.row (c := 136) (q := 50) (by decide +kernel) (by decide) rfl
  have x19 := x18.row (c := 139) (q := 53) (by decide +kernel) (by decide) rfl
  have x20 := x19.row (c := 141) (q := 55) (by decide +kernel) (by decide) rfl
  have x21 := x20.put (d := 143) (s := 57) (zv0_143) (by decide) rfl
  have x22 := x21.row (c := 144) (q := 58) (by decide +kernel) (by decide) rfl
  have x23 := x22.row (c := 146) (q := 60) (by decide +kernel) (by decide) rfl
  have x24 := x23.row (c := 148) (q := 62) (by decide +kernel) (by decide) rfl
  have x25 := x24.row (c := 150) (q := 64) (by decide +kernel) (by decide) rfl
  have x26 := x25.row (c := 152) (q := 66) (by decide +kernel) (by decide) rfl
  have x27 := x26.row (c := 154) (q := 68) (by decide +kernel) (by decide) rfl
  have x28 := x27.row (c := 156) (q := 70) (by decide +kernel) (by decide) rfl
  have x29 := x28.row (c := 158) (q := 72) (by decide +kernel) (by decide) rfl
  have x30 := x29.row (c := 160) (q := 74) (by decide +kernel) (by decide) rfl
  have x31 := x30.row (c := 163) (q := 77) (by decide +kernel) (by decide) rfl
  have x32 := x31.row (c := 165) (q := 79) (by decide +kernel) (by decide) rfl
  have x33 := x32.row (c := 168) (q := 82) (by decide +kernel) (by decide) rfl
  have x34 := x33.row (c := 170) (q := 84) (by decide +kernel) (by decide) rfl
  have x35 := x34.row (c := 172) (q := 86) (by decide +kernel) (by decide) rfl
  have x36 := x35.list (c := 175) (q := 89) (n := 660) (by decide +kernel) (by decide +kernel) zv1_175 (by decide) (by decide) rfl rfl h89
  have x37 := x36.list (c := 177) (q := 91) (n := 660) (by decide +kernel) (by decide +kernel) zv1_177 (by decide) (by decide) rfl rfl h91
  have x38 := x37.list (c := 179) (q := 93) (n := 660) (by decide +kernel) (by decide +kernel) zv1_179 (by decide) (by decide) rfl rfl h93
  have x39 := x38.list (c := 181) (q := 95) (n := 24) (by decide +kernel) (by decide +kernel) zv1_181 (by decide) (by decide) rfl rfl h95
  have x40 := x39.list (c := 183) (q := 97) (n := 24) (by decide +kernel) (by decide +kernel) zv1_183 (by decide) (by decide) rfl rfl h97
  have x41 := x40.row (c := 185) (q := 99) (by decide +kernel) (by decide) rfl
  refine ⟨_, x41, ?_, ?_⟩
  · exact zBd (by decide +kernel)
  · exact zAllD (by decide +kernel)
theorem zCp_rst {σ : am_M} (h175 : ¬ nI 660 < σ 175 1) (h177 : ¬ nI 660 < σ 177 1) (h179 : ¬ nI 660 < σ 179 1) (h181 : ¬ nI 24 < σ 181 1) (h183 : ¬ nI 24 < σ 183 1) : ∃ D, zCp (fun a => a + 86) D σ (wCpy σ 15 101) ∧ (∀ a, 15 ≤ a → a ≤ 100 → zHas a = true → a ∈ D) ∧ ∀ a, a ∈ D → 15 ≤ a ∧ a ≤ 100 := by
  have x0 := zCp.nil (fun a => a + 86) σ
  have x1 := x0.row (c := 17) (q := 103) (by decide +kernel) (by decide) rfl
  have x2 := x1.row (c := 19) (q := 105) (by decide +kernel) (by decide) rfl
  have x3 := x2.put (d := 21) (s := 107) (zv0_21) (by decide) rfl
  have x4 := x3.row (c := 22) (q := 108) (by decide +kernel) (by decide) rfl
  have x5 := x4.row (c := 24) (q := 110) (by decide +kernel) (by decide) rfl
  have x6 := x5.row (c := 26) (q := 112) (by decide +kernel) (by decide) rfl
  have x7 := x6.row (c := 28) (q := 114) (by decide +kernel) (by decide) rfl
  have x8 := x7.row (c := 30) (q := 116) (by decide +kernel) (by decide) rfl
  have x9 := x8.row (c := 32) (q := 118) (by decide +kernel) (by decide) rfl
  have x10 := x9.row (c := 34) (q := 120) (by decide +kernel) (by decide) rfl
  have x11 := x10.row (c := 36) (q := 122) (by decide +kernel) (by decide) rfl
  have x12 := x11.row (c := 38) (q := 124) (by decide +kernel) (by decide) rfl
  have x13 := x12.row (c := 40) (q := 126) (by decide +kernel) (by decide) rfl
  have x14 := x13.row (c := 42) (q := 128) (by decide +kernel) (by decide) rfl
  have x15 := x14.row (c := 44) (q := 130) (by decide +kernel) (by decide) rfl
  have x16 := x15.row (c := 46) (q := 132) (by decide +kernel) (by decide) rfl
  have x17 := x16.row (c := 48) (q := 134) (by decide +kernel) (by decide) rfl
  have x18 := x17.row (c := 50) (q := 136) (by decide +kernel) (by decide) rfl
  have x19 := x18.row (c := 53) (q := 139) (by decide +kernel) (by decide) rfl
  have x20 := x19.row (c := 55) (q := 141) (by decide +kernel) (by decide) rfl
  have x21 := x20.put (d := 57) (s := 143) (zv0_57) (by decide) rfl
  have x22 := x21.row (c := 58) (q := 144) (by decide +kernel) (by decide) rfl
  have x23 := x22.row (c := 60) (q := 146) (by decide +kernel) (by decide) rfl
  have x24 := x23.row (c := 62) (q := 148) (by decide +kernel) (by decide) rfl
  have x25 := x24.row (c := 64) (q := 150) (by decide +kernel) (by decide) rfl
  have x26 := x25.row (c := 66) (q := 152) (by decide +kernel) (by decide) rfl
  have x27 := x26.row (c := 68) (q := 154) (by decide +kernel) (by decide) rfl
  have x28 := x27.row (c := 70) (q := 156) (by decide +kernel) (by decide) rfl
  have x29 := x28.row (c := 72) (q := 158) (by decide +kernel) (by decide) rfl
  have x30 := x29.row (c := 74) (q := 160) (by decide +kernel) (by decide) rfl
  have x31 := x30.row (c := 77) (q := 163) (by decide +kernel) (by decide) rfl
  have x32 := x31.row (c := 79) (q := 165) (by decide +kernel) (by decide) rfl
  have x33 := x32.row (c := 82) (q := 168) (by decide +kernel) (by decide) rfl
  have x34 := x33.row (c := 84) (q := 170) (by decide +kernel) (by decide) rfl
  have x35 := x34.row (c := 86) (q := 172) (by decide +kernel) (by decide) rfl
  have x36 := x35.list (c := 89) (q := 175) (n := 660) (by decide +kernel) (by decide +kernel) zv1_89 (by decide) (by decide) rfl rfl h175
  have x37 := x36.list (c := 91) (q := 177) (n := 660) (by decide +kernel) (by decide +kernel) zv1_91 (by decide) (by decide) rfl rfl h177
  have x38 := x37.list (c := 93) (q := 179) (n := 660) (by decide +kernel) (by decide +kernel) zv1_93 (by decide) (by decide) rfl rfl h179
  have x39 := x38.list (c := 95) (q := 181) (n := 24) (by decide +kernel) (by decide +kernel) zv1_95 (by decide) (by decide) rfl rfl h181
  have x40 := x39.list (c := 97) (q := 183) (n := 24) (by decide +kernel) (by decide +kernel) zv1_97 (by decide) (by decide) rfl rfl h183
  have x41 := x40.row (c := 99) (q := 185) (by decide +kernel) (by decide) rfl
  refine ⟨_, x41, ?_, ?_⟩
  · exact zBd (by decide +kernel)
  · exact zAllD (by decide +kernel)
end ZCM
