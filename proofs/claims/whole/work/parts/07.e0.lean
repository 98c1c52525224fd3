/-! the model's strings: constants of its pool as ids 1000 + place (their bytes 1100 + place), isAny as a spec -/
def am_strs : List (Nat × String) := [(63, "+-wyz([{)^px><?!"), (69, "([{)^"), (71, "([{"), (76, ")^px"), (78, "+-w[!"), (84, "^p"), (86, "><?")]
def am_byt : Nat → List Int32
  | 63 => [43, 45, 119, 121, 122, 40, 91, 123, 41, 94, 112, 120, 62, 60, 63, 33]
  | 69 => [40, 91, 123, 41, 94]
  | 71 => [40, 91, 123]
  | 76 => [41, 94, 112, 120]
  | 78 => [43, 45, 119, 91, 33]
  | 84 => [94, 112]
  | 86 => [62, 60, 63]
  | _ => []
/-- the strings in the old heap, and the words on them -/
def am_xf (G : am_G) (U : State) : Prop := ∀ q ∈ am_strs, vk_R RX12 q.1 q.2 (G.1 (1000 + q.1)) U ∧ va_O "java/lang/String" (G.1 (1000 + q.1)) (fun _ => False) U G.2.2.2.1 ∧ va_OF "java/lang/String" "coder" "B" (.int 0) (G.1 (1000 + q.1)) (fun _ => False) U G.2.2.2.1 ∧ va_OF "java/lang/String" "value" "[B" (.ref (G.1 (1100 + q.1))) (G.1 (1000 + q.1)) (fun _ => False) U G.2.2.2.1 ∧ va_T .byte (G.1 (1100 + q.1)) (am_byt q.1).length (fun j => .int ((am_byt q.1).getD j 0)) (fun _ => False) U G.2.2.2.1
def am_xs (G : am_G) : Prop := ∀ U, G.2.2.2.2 U → am_xf G U ∧ va_Z "java/lang/String" "COMPACT_STRINGS" "Z" (.int 1) (fun _ => False) U G.2.2.2.1
def mt_lds (cp nx : Nat) : am_T := fun ls st σ K _ => K nx ls (.ref (1000 + cp) :: st) σ
theorem mt_lds_mono (cp nx : Nat) : am_mono (mt_lds cp nx) := fun _ _ _ _ _ _ _ _ hle hK _ h => hK _ _ _ _ _ hle h
theorem mp_lds {l : Launch} {G : am_G} {cc : ByteArray} {nL : Nat} {own : String} {Ts : List Cond} {R : Room} {pc : Nat} (hX : am_xs G) (cp : Nat) (hs : (am_strs.map (fun q => q.1)).contains cp = true) (ho : own = RX12) (d : decode cc pc = .ok (.ldc cp, 2)) : am_P l G cc nL own Ts R (mt_lds cp (pc + 2)) pc := by
  subst ho
  refine ⟨mt_lds_mono _ _, fun p e s m args below meth c A cells slots Q hF hK hG hA hc ls st σ K R0 ht hk c1 c2 H locs lsA hH hS hl => ?_⟩
  obtain ⟨q, hq, he⟩ : ∃ q ∈ am_strs, q.1 = cp := by
    have := List.contains_iff_mem.mp hs
    obtain ⟨q, h1, h2⟩ := List.mem_map.mp this
    exact ⟨q, h1, h2⟩
  subst he
  exact va_ldcS hF.1 hF.2.1 hF.2.2.2.1 (((hX s hK.2).1 q hq).1) d (hk _ _ _ _ ht c1 (am_c1 rfl c2) H locs lsA hH hS hl)
def isA (q : Nat) (c : Int32) : Bool := (am_byt (q - 1000)).contains c
def sp_X12_isAny : am_S := fun av σ R => match av with
  | [.int c, .ref q] => (am_strs.map (fun q => q.1)).contains (q - 1000) = true ∧ Nat.ble 1000 q = true ∧ (isA q c = true → R (some (.int 1)) σ) ∧ (isA q c = false → R (some (.int 0)) σ)
  | _ => False
theorem am_Wp.mr {code : Nat → am_T} (hm : ∀ pc, am_mono (code pc)) {pc : Nat} {ls : am_L} {st : List Value} {σ : am_M} {R R1 : am_R} (hR : ∀ v s, R v s → R1 v s) (h : am_Wp code pc ls st σ R) : am_Wp code pc ls st σ R1 :=
  h (fun pc ls st σ => am_Wp code pc ls st σ R1) (fun pc ls st σ q => am_Wp.fold hm (hm pc _ _ _ _ _ _ _ _ (am_le.rf _) (fun _ _ _ _ _ hl z => am_Wp.sub hm hl z) hR q))
theorem sm_X12_isAny (l : Launch) (G : am_G) (_ : am_ok G) (_ : am_xs G) : am_mS sp_X12_isAny := by
  intro av σ R R1 hR h
  unfold sp_X12_isAny at h ⊢
  split at h
  · exact ⟨h.1, h.2.1, fun z => hR _ _ (h.2.2.1 z), fun z => hR _ _ (h.2.2.2 z)⟩
  · exact h.elim
