/-! am: Math.max, Math.min, System.arraycopy; rooms by level; specs by functions; rows, lines -/
section AM5
variable {l : Launch} {G : am_G} {cc : ByteArray} {nL : Nat} {own : String} {Ts : List Cond} {R : Room} {pc : Nat} {ret : Option FieldType}
def am_ro (n : Nat) : Room := { frames := n, cells := 0, slots := 0, locals := 40 * n }
def mt_mmax (nx : Nat) : am_T := fun ls st σ K _ => match st with
  | .int y :: .int x :: r => bif Nat.ble r.length 8 then K nx ls (.int (if x < y then y else x) :: r) σ else False
  | _ => False
def mt_mmin (nx : Nat) : am_T := fun ls st σ K _ => match st with
  | .int y :: .int x :: r => bif Nat.ble r.length 8 then K nx ls (.int (if y < x then y else x) :: r) σ else False
  | _ => False
theorem mp_mmax {index : Nat} (d : decode cc pc = .ok (.invokestatic index, 3)) (h1 : Cond.methodLink own index Lib.Math.max.name ∈ Ts) (h2 : Cond.static Lib.Math.max.name ∈ Ts) (h3 : Cond.initialized "java/lang/Math" ∈ Ts) (h4 : Cond.code Lib.Math.max.name Lib.Math.max.code 2 (some .int) ∈ Ts) (hf : 1 ≤ R.frames) (hlo : 21 ≤ R.locals) : am_P l G cc nL own Ts R (mt_mmax (pc + 3)) pc := by
  refine ⟨?_, ?_⟩
  · intro ls ls' st σ K K' R R' hle hK hR h
    unfold mt_mmax at h ⊢
    split at h
    · rename_i y x r
      try dsimp only
      cases hb : Nat.ble r.length 8 with
      | false => rw [hb] at h; exact h.elim
      | true => rw [hb] at h; exact hK _ _ _ _ _ hle h
    · exact h.elim
  intro p e s m args below meth c A cells slots Q hF hK hG hA hc ls st σ K R0 ht hk
  unfold mt_mmax at ht
  split at ht
  · rename_i y x r
    cases hb : Nat.ble r.length 8 with
    | false => rw [hb] at ht; exact ht.elim
    | true =>
      rw [hb] at ht
      intro c1 c2 H locs lsA hH hS hl
      have cr := am_ct (am_ct c2)
      have hle := Nat.le_of_ble_eq_true hb
      exact va_mmax hF.1 hF.2.1 (hF.2.2.1.trans hl.1.symm) hF.2.2.2.1 (hF.2.2.2.2 _ h1) (hF.2.2.2.2 _ h2) (hF.2.2.2.2 _ h3) (hF.2.2.2.2 _ h4) hf (by rw [am_catsum cr]; omega) hc.1 hc.2 d (hk _ _ _ _ ht c1 (am_c1 rfl cr) H locs lsA hH hS hl)
  · exact ht.elim
theorem mp_mmin {index : Nat} (d : decode cc pc = .ok (.invokestatic index, 3)) (h1 : Cond.methodLink own index Lib.Math.min.name ∈ Ts) (h2 : Cond.static Lib.Math.min.name ∈ Ts) (h3 : Cond.initialized "java/lang/Math" ∈ Ts) (h4 : Cond.code Lib.Math.min.name Lib.Math.min.code 2 (some .int) ∈ Ts) (hf : 1 ≤ R.frames) (hlo : 21 ≤ R.locals) : am_P l G cc nL own Ts R (mt_mmin (pc + 3)) pc := by
  refine ⟨?_, ?_⟩
  · intro ls ls' st σ K K' R R' hle hK hR h
    unfold mt_mmin at h ⊢
    split at h
    · rename_i y x r
      try dsimp only
      cases hb : Nat.ble r.length 8 with
      | false => rw [hb] at h; exact h.elim
      | true => rw [hb] at h; exact hK _ _ _ _ _ hle h
    · exact h.elim
  intro p e s m args below meth c A cells slots Q hF hK hG hA hc ls st σ K R0 ht hk
  unfold mt_mmin at ht
  split at ht
  · rename_i y x r
    cases hb : Nat.ble r.length 8 with
    | false => rw [hb] at ht; exact ht.elim
    | true =>
      rw [hb] at ht
      intro c1 c2 H locs lsA hH hS hl
      have cr := am_ct (am_ct c2)
      have hle := Nat.le_of_ble_eq_true hb
      exact va_mmin hF.1 hF.2.1 (hF.2.2.1.trans hl.1.symm) hF.2.2.2.1 (hF.2.2.2.2 _ h1) (hF.2.2.2.2 _ h2) (hF.2.2.2.2 _ h3) (hF.2.2.2.2 _ h4) hf (by rw [am_catsum cr]; omega) hc.1 hc.2 d (hk _ _ _ _ ht c1 (am_c1 rfl cr) H locs lsA hH hS hl)
  · exact ht.elim
def mt_acopy (nx : Nat) : am_T := fun ls st σ K _ => match st with
  | .int n :: .int dp :: .ref a :: .int sp :: .ref a0 :: r => match am_lay[a0]?, am_lay[a]? with
    | some (.inl n0), some (.inl n1) => bif Nat.ble r.length 8 then ((¬ sp < 0 ∧ ¬ dp < 0 ∧ ¬ n < 0 ∧ sp.toNatClampNeg + n.toNatClampNeg ≤ n0 ∧ dp.toNatClampNeg + n.toNatClampNeg ≤ n1) ∧ K nx ls r (am_ua σ a (va_cpy (σ a0) (σ a) sp.toNatClampNeg dp.toNatClampNeg n.toNatClampNeg))) else False
    | _, _ => False
  | _ => False
theorem mp_acopy {index : Nat} (d : decode cc pc = .ok (.invokestatic index, 3)) (h1 : Cond.methodLink own index arraycopyName ∈ Ts) (h2 : Cond.native arraycopyName ∈ Ts) (h3 : Cond.static arraycopyName ∈ Ts) (h4 : Cond.initialized "java/lang/System" ∈ Ts) (hf : 1 ≤ R.frames) (hlo : 8 + (nativeFrameWords "java/lang/System" "arraycopy" 5 + 11) ≤ R.locals) : am_P l G cc nL own Ts R (mt_acopy (pc + 3)) pc := by
  refine ⟨?_, ?_⟩
  · intro ls ls' st σ K K' R R' hle hK hR h
    unfold mt_acopy at h ⊢
    split at h
    · rename_i n dp a sp a0 r
      try dsimp only
      split at h
      · rename_i n0 n1 e0 e1
        (try rw [e0, e1])
        (try dsimp only)
        cases hb : Nat.ble r.length 8 with
        | false => rw [hb] at h; exact h.elim
        | true => rw [hb] at h; exact ⟨h.1, hK _ _ _ _ _ hle h.2⟩
      · exact h.elim
    · exact h.elim
  intro p e s m args below meth c A cells slots Q hF hK hG hA hc ls st σ K R0 ht hk
  unfold mt_acopy at ht
  split at ht
  · rename_i n dp a sp a0 r
    split at ht
    · rename_i n0 n1 e0 e1
      cases hb : Nat.ble r.length 8 with
      | false => rw [hb] at ht; exact ht.elim
      | true =>
        rw [hb] at ht
        obtain ⟨⟨g1, g2, g3, g4, g5⟩, hk2⟩ := ht
        intro c1 c2 H locs lsA hH hS hl
        have cr := am_ct (am_ct (am_ct (am_ct (am_ct c2))))
        have hle := Nat.le_of_ble_eq_true hb
        have ha := (List.getElem?_eq_some_iff.mp e1).1
        refine va_copyi (A := fun q => am_A G q ∨ ∃ z ∈ locs, q = z.base) (H0 := H) (ty := .int) hF.1 hF.2.1 (hF.2.2.1.trans hl.1.symm) hF.2.2.2.1 (hF.2.2.2.2 _ h1) (hF.2.2.2.2 _ h2) (hF.2.2.2.2 _ h3) (hF.2.2.2.2 _ h4) hK.1 hH.1 (am_ws_D hG (fun _ q => Or.inl q)) ⟨Nat.le_refl _, fun _ _ _ => rfl, fun z hz => Or.inr ⟨z, hz, rfl⟩⟩ a0 a 0 0 (am_ws_get e0) (am_ws_get e1) rfl rfl rfl g1 g2 g3 g4 g5 (fun i hi => rfl) hf (by rw [am_catsum cr]; omega) d (fun H1 locs1 hP1 _ hS1 => ?_)
        have hA2 : ∀ q, (am_A G q ∨ ∃ z ∈ locs, q = z.base) → A q := fun q hq => hq.elim (hA.1 q) (fun ⟨z, hz, e⟩ => e ▸ hS.2.2 z hz)
        refine hk _ _ _ _ hk2 c1 cr H1 locs1 lsA ⟨?_, Nat.le_trans hH.2.1 hS1.1, fun q hq => ?_⟩ ⟨Nat.le_trans hS.1 hS1.1, fun q q1 q2 => ?_, fun z hz => hA2 _ (hS1.2.2 z hz)⟩ hl
        · rw [← am_ws_set e1]; exact hP1
        · rw [hS1.2.1 q (Nat.lt_of_lt_of_le hq hH.2.1) (fun z => by have := hA.2 q (hA2 q z); omega)]; exact hH.2.2 q hq
        · rw [hS1.2.1 q (Nat.lt_of_lt_of_le q1 hS.1) (fun z => q2 (hA2 q z))]; exact hS.2.1 q q1 q2
    · exact ht.elim
  · exact ht.elim
end AM5
