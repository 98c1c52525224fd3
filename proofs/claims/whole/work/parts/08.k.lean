/-! the JDK's String.indexOf over the model's strings (written by program: wip/whole/mkstr.py) -/
theorem tw_20 : (Jvm.Cond.initialized "java/lang/String") ∈ am_tb := am_t1 20 (by decide +kernel) rfl
theorem tw_21 : (Jvm.Cond.initialized "java/lang/StringLatin1") ∈ am_tb := am_t1 21 (by decide +kernel) rfl
theorem tw_1308 : (Jvm.Cond.methodLink "CoroutineSchedulerModel" (58 : Nat) ({ cls := "java/lang/String", name := "indexOf", desc := "(I)I" } : Jvm.MethodName)) ∈ am_tb := am_t1 1308 (by decide +kernel) rfl
theorem tw_1309 : (Jvm.Cond.instanceMethod ({ cls := "java/lang/String", name := "indexOf", desc := "(I)I" } : Jvm.MethodName)) ∈ am_tb := am_t1 1309 (by decide +kernel) rfl
theorem tw_1310 : (Jvm.Cond.selects "java/lang/String" ({ cls := "java/lang/String", name := "indexOf", desc := "(I)I" } : Jvm.MethodName) ({ cls := "java/lang/String", name := "indexOf", desc := "(I)I" } : Jvm.MethodName)) ∈ am_tb := am_t1 1310 (by decide +kernel) rfl
theorem tw_1311 : (Jvm.Cond.code ({ cls := "java/lang/String", name := "indexOf", desc := "(I)I" } : Jvm.MethodName) prog_25_method_79_code (2 : Nat) (Option.some Jvm.ClassFile.FieldType.int)) ∈ am_tb := am_t1 1311 (by decide +kernel) rfl
theorem tw_1312 : (Jvm.Cond.methodLink "java/lang/String" (633 : Nat) ({ cls := "java/lang/String", name := "indexOf", desc := "(II)I" } : Jvm.MethodName)) ∈ am_tb := am_t1 1312 (by decide +kernel) rfl
theorem tw_1313 : (Jvm.Cond.instanceMethod ({ cls := "java/lang/String", name := "indexOf", desc := "(II)I" } : Jvm.MethodName)) ∈ am_tb := am_t1 1313 (by decide +kernel) rfl
theorem tw_1314 : (Jvm.Cond.selects "java/lang/String" ({ cls := "java/lang/String", name := "indexOf", desc := "(II)I" } : Jvm.MethodName) ({ cls := "java/lang/String", name := "indexOf", desc := "(II)I" } : Jvm.MethodName)) ∈ am_tb := am_t1 1314 (by decide +kernel) rfl
theorem tw_1315 : (Jvm.Cond.code ({ cls := "java/lang/String", name := "indexOf", desc := "(II)I" } : Jvm.MethodName) prog_25_method_80_code (3 : Nat) (Option.some Jvm.ClassFile.FieldType.int)) ∈ am_tb := am_t1 1315 (by decide +kernel) rfl
theorem tw_1316 : (Jvm.Cond.methodLink "java/lang/String" (492 : Nat) ({ cls := "java/lang/String", name := "isLatin1", desc := "()Z" } : Jvm.MethodName)) ∈ am_tb := am_t1 1316 (by decide +kernel) rfl
theorem tw_1317 : (Jvm.Cond.instanceMethod ({ cls := "java/lang/String", name := "isLatin1", desc := "()Z" } : Jvm.MethodName)) ∈ am_tb := am_t1 1317 (by decide +kernel) rfl
theorem tw_1318 : (Jvm.Cond.selects "java/lang/String" ({ cls := "java/lang/String", name := "isLatin1", desc := "()Z" } : Jvm.MethodName) ({ cls := "java/lang/String", name := "isLatin1", desc := "()Z" } : Jvm.MethodName)) ∈ am_tb := am_t1 1318 (by decide +kernel) rfl
theorem tw_1319 : (Jvm.Cond.code ({ cls := "java/lang/String", name := "isLatin1", desc := "()Z" } : Jvm.MethodName) prog_25_method_154_code (1 : Nat) (Option.some Jvm.ClassFile.FieldType.boolean)) ∈ am_tb := am_t1 1319 (by decide +kernel) rfl
theorem tw_1320 : (Jvm.Cond.fieldLink "java/lang/String" (38 : Nat) "java/lang/String" "COMPACT_STRINGS" "Z") ∈ am_tb := am_t1 1320 (by decide +kernel) rfl
theorem tw_1322 : (Jvm.Cond.methodLink "java/lang/String" (505 : Nat) ({ cls := "java/lang/String", name := "length", desc := "()I" } : Jvm.MethodName)) ∈ am_tb := am_t1 1322 (by decide +kernel) rfl
theorem tw_1323 : (Jvm.Cond.instanceMethod ({ cls := "java/lang/String", name := "length", desc := "()I" } : Jvm.MethodName)) ∈ am_tb := am_t1 1323 (by decide +kernel) rfl
theorem tw_1324 : (Jvm.Cond.selects "java/lang/String" ({ cls := "java/lang/String", name := "length", desc := "()I" } : Jvm.MethodName) ({ cls := "java/lang/String", name := "length", desc := "()I" } : Jvm.MethodName)) ∈ am_tb := am_t1 1324 (by decide +kernel) rfl
theorem tw_1325 : (Jvm.Cond.code ({ cls := "java/lang/String", name := "length", desc := "()I" } : Jvm.MethodName) prog_25_method_54_code (1 : Nat) (Option.some Jvm.ClassFile.FieldType.int)) ∈ am_tb := am_t1 1325 (by decide +kernel) rfl
theorem tw_1326 : (Jvm.Cond.methodLink "java/lang/String" (335 : Nat) ({ cls := "java/lang/String", name := "coder", desc := "()B" } : Jvm.MethodName)) ∈ am_tb := am_t1 1326 (by decide +kernel) rfl
theorem tw_1327 : (Jvm.Cond.instanceMethod ({ cls := "java/lang/String", name := "coder", desc := "()B" } : Jvm.MethodName)) ∈ am_tb := am_t1 1327 (by decide +kernel) rfl
theorem tw_1328 : (Jvm.Cond.selects "java/lang/String" ({ cls := "java/lang/String", name := "coder", desc := "()B" } : Jvm.MethodName) ({ cls := "java/lang/String", name := "coder", desc := "()B" } : Jvm.MethodName)) ∈ am_tb := am_t1 1328 (by decide +kernel) rfl
theorem tw_1329 : (Jvm.Cond.code ({ cls := "java/lang/String", name := "coder", desc := "()B" } : Jvm.MethodName) prog_25_method_152_code (1 : Nat) (Option.some Jvm.ClassFile.FieldType.byte)) ∈ am_tb := am_t1 1329 (by decide +kernel) rfl
theorem tw_1330 : (Jvm.Cond.methodLink "java/lang/String" (637 : Nat) ({ cls := "java/lang/StringLatin1", name := "indexOf", desc := "([BIII)I" } : Jvm.MethodName)) ∈ am_tb := am_t1 1330 (by decide +kernel) rfl
theorem tw_1331 : (Jvm.Cond.static ({ cls := "java/lang/StringLatin1", name := "indexOf", desc := "([BIII)I" } : Jvm.MethodName)) ∈ am_tb := am_t1 1331 (by decide +kernel) rfl
theorem tw_1332 : (Jvm.Cond.code ({ cls := "java/lang/StringLatin1", name := "indexOf", desc := "([BIII)I" } : Jvm.MethodName) prog_26_method_22_code (4 : Nat) (Option.some Jvm.ClassFile.FieldType.int)) ∈ am_tb := am_t1 1332 (by decide +kernel) rfl
theorem tw_1333 : (Jvm.Cond.methodLink "java/lang/StringLatin1" (88 : Nat) ({ cls := "java/lang/StringLatin1", name := "canEncode", desc := "(I)Z" } : Jvm.MethodName)) ∈ am_tb := am_t1 1333 (by decide +kernel) rfl
theorem tw_1334 : (Jvm.Cond.static ({ cls := "java/lang/StringLatin1", name := "canEncode", desc := "(I)Z" } : Jvm.MethodName)) ∈ am_tb := am_t1 1334 (by decide +kernel) rfl
theorem tw_1335 : (Jvm.Cond.code ({ cls := "java/lang/StringLatin1", name := "canEncode", desc := "(I)Z" } : Jvm.MethodName) prog_26_method_4_code (1 : Nat) (Option.some Jvm.ClassFile.FieldType.boolean)) ∈ am_tb := am_t1 1335 (by decide +kernel) rfl
theorem tw_1336 : (Jvm.Cond.methodLink "java/lang/StringLatin1" (92 : Nat) ({ cls := "java/lang/Math", name := "max", desc := "(II)I" } : Jvm.MethodName)) ∈ am_tb := am_t1 1336 (by decide +kernel) rfl
theorem tw_1337 : (Jvm.Cond.methodLink "java/lang/StringLatin1" (38 : Nat) ({ cls := "java/lang/Math", name := "min", desc := "(II)I" } : Jvm.MethodName)) ∈ am_tb := am_t1 1337 (by decide +kernel) rfl
theorem tw_1338 : (Jvm.Cond.methodLink "java/lang/StringLatin1" (95 : Nat) ({ cls := "java/lang/StringLatin1", name := "indexOfChar", desc := "([BIII)I" } : Jvm.MethodName)) ∈ am_tb := am_t1 1338 (by decide +kernel) rfl
theorem tw_1339 : (Jvm.Cond.static ({ cls := "java/lang/StringLatin1", name := "indexOfChar", desc := "([BIII)I" } : Jvm.MethodName)) ∈ am_tb := am_t1 1339 (by decide +kernel) rfl
theorem tw_1340 : (Jvm.Cond.code ({ cls := "java/lang/StringLatin1", name := "indexOfChar", desc := "([BIII)I" } : Jvm.MethodName) prog_26_method_23_code (6 : Nat) (Option.some Jvm.ClassFile.FieldType.int)) ∈ am_tb := am_t1 1340 (by decide +kernel) rfl
theorem tw_1655 : (Jvm.Cond.fieldLink "java/lang/String" (15 : Nat) "java/lang/String" "coder" "B") ∈ am_tb := am_t1 1655 (by decide +kernel) rfl
theorem tw_1656 : (Jvm.Cond.fieldLink "java/lang/String" (9 : Nat) "java/lang/String" "value" "[B") ∈ am_tb := am_t1 1656 (by decide +kernel) rfl
def am_sid (q : Nat) : Bool := (am_strs.map (fun z => z.1)).contains (q - 1000) && Nat.ble 1000 q
def am_sib (q : Nat) : Bool := (am_strs.map (fun z => z.1)).contains (q - 1100) && Nat.ble 1100 q
theorem am_sid_of {q : Nat} (h : am_sid q = true) : ∃ z ∈ am_strs, q = 1000 + z.1 := by
  unfold am_sid at h
  rw [Bool.and_eq_true] at h
  obtain ⟨z, h1, h2⟩ := List.mem_map.mp (List.contains_iff_mem.mp h.1)
  have := Nat.le_of_ble_eq_true h.2
  exact ⟨z, h1, by omega⟩
theorem am_sib_of {q : Nat} (h : am_sib q = true) : ∃ z ∈ am_strs, q = 1100 + z.1 := by
  unfold am_sib at h
  rw [Bool.and_eq_true] at h
  obtain ⟨z, h1, h2⟩ := List.mem_map.mp (List.contains_iff_mem.mp h.1)
  have := Nat.le_of_ble_eq_true h.2
  exact ⟨z, h1, by omega⟩
section AMK
variable {l : Launch} {G : am_G} {cc : ByteArray} {nL : Nat} {own : String} {w0 : Cond} {Ts : List Cond} {R : Room} {pc : Nat}
theorem am_h0 {σ : am_M} {H : Heap} (hH : am_H G σ H) : ∀ a : Nat, a < G.2.2.2.1.size → ¬ (fun _ : Nat => False) a → H[a]? = G.2.2.2.1[a]? := fun a h _ => hH.2.2 a h
def mt_gcod (nx : Nat) : am_T := fun ls st σ K _ => match st with
  | .ref q :: r => bif am_sid q then K nx ls (.int 0 :: r) σ else False
  | _ => False
def mt_gval (nx : Nat) : am_T := fun ls st σ K _ => match st with
  | .ref q :: r => bif am_sid q then K nx ls (.ref (q + 100) :: r) σ else False
  | _ => False
def mt_blen (nx : Nat) : am_T := fun ls st σ K _ => match st with
  | .ref q :: r => bif am_sib q then K nx ls (.int (nI (am_byt (q - 1100)).length) :: r) σ else False
  | _ => False
def mt_bald (nx : Nat) : am_T := fun ls st σ K _ => match st with
  | .int i :: .ref q :: r => bif am_sib q then vp_in i (am_byt (q - 1100)).length ∧ K nx ls (.int ((am_byt (q - 1100)).getD i.toNatClampNeg 0) :: r) σ else False
  | _ => False
def mt_i2b (nx : Nat) : am_T := fun ls st σ K _ => match st with
  | .int a :: r => K nx ls (.int a.toInt8.toInt32 :: r) σ
  | _ => False
def mt_ishr (nx : Nat) : am_T := fun ls st σ K _ => match st with
  | .int b :: .int a :: r => K nx ls (.int (a >>> (b &&& 31)) :: r) σ
  | _ => False
def mt_bret : am_T := fun _ st σ _ R => match st with
  | [.int v] => v = 0 ∧ R (some (.int v)) σ
  | _ => False
theorem mp_gcs {index : Nat} (hX : am_xs G) (d : decode cc pc = .ok (.getstatic index, 3)) (hl : Cond.fieldLink own index "java/lang/String" "COMPACT_STRINGS" "Z" ∈ am_tb) : am_P l G cc nL own (w0 :: am_tb) R (mt_ic 1 (pc + 3)) pc := by
  refine ⟨mt_ic_mono _ _, fun p e s m args below meth c A cells slots Q hF hK hG hA hc ls st σ K R0 ht hk c1 c2 H locs lsA hH hS hlv => ?_⟩
  obtain ⟨cf, kf, fi, f, a, cell, h1, h2, h3, h4, h5, h6, h7, h8⟩ := (hX s hK.2).2.kept (am_h0 hH)
  exact W.gets hF.1 hF.2.1 hF.2.2.2.1 (hF.2.2.2.2 _ (List.mem_cons_of_mem _ hl)) h1 h2 h3 h4 h5 (fun e => by rw [e] at h6; cases h6) h7 rfl d (hk _ _ _ _ ht c1 (am_c1 rfl c2) H locs lsA hH hS hlv)
theorem mp_gcod {index : Nat} (hX : am_xs G) (d : decode cc pc = .ok (.getfield index, 3)) (hl : Cond.fieldLink own index "java/lang/String" "coder" "B" ∈ am_tb) : am_P l G cc nL own (w0 :: am_tb) R (mt_gcod (pc + 3)) pc := by
  refine ⟨?_, ?_⟩
  · intro ls ls' st σ K K' R R' hle hK hR h
    unfold mt_gcod at h ⊢
    split at h
    · rename_i q r
      try dsimp only
      cases hb : am_sid q with
      | false => rw [hb] at h; exact h.elim
      | true => rw [hb] at h; exact hK _ _ _ _ _ hle h
    · exact h.elim
  intro p e s m args below meth c A cells slots Q hF hK hG hA hc ls st σ K R0 ht hk
  unfold mt_gcod at ht
  split at ht
  · rename_i q r
    cases hb : am_sid q with
    | false => rw [hb] at ht; exact ht.elim
    | true =>
      rw [hb] at ht
      intro c1 c2 H locs lsA hH hS hlv
      obtain ⟨z, hz, rfl⟩ := am_sid_of hb
      obtain ⟨cf, k, fi, f, cell, h1, h2, h3, h4, h5, h6⟩ := ((hX s hK.2).1 z hz).2.2.1.kept (am_h0 hH)
      exact W.getf hF.1 hF.2.1 hF.2.2.2.1 (hF.2.2.2.2 _ (List.mem_cons_of_mem _ hl)) h1 h2 h3 h4 h5 rfl rfl d (hk _ _ _ _ ht c1 (am_c1 rfl (am_ct c2)) H locs lsA hH hS hlv)
  · exact ht.elim
theorem mp_gval {index : Nat} (hX : am_xs G) (d : decode cc pc = .ok (.getfield index, 3)) (hl : Cond.fieldLink own index "java/lang/String" "value" "[B" ∈ am_tb) : am_P l G cc nL own (w0 :: am_tb) R (mt_gval (pc + 3)) pc := by
  refine ⟨?_, ?_⟩
  · intro ls ls' st σ K K' R R' hle hK hR h
    unfold mt_gval at h ⊢
    split at h
    · rename_i q r
      try dsimp only
      cases hb : am_sid q with
      | false => rw [hb] at h; exact h.elim
      | true => rw [hb] at h; exact hK _ _ _ _ _ hle h
    · exact h.elim
  intro p e s m args below meth c A cells slots Q hF hK hG hA hc ls st σ K R0 ht hk
  unfold mt_gval at ht
  split at ht
  · rename_i q r
    cases hb : am_sid q with
    | false => rw [hb] at ht; exact ht.elim
    | true =>
      rw [hb] at ht
      intro c1 c2 H locs lsA hH hS hlv
      obtain ⟨z, hz, rfl⟩ := am_sid_of hb
      obtain ⟨cf, k, fi, f, cell, h1, h2, h3, h4, h5, h6⟩ := ((hX s hK.2).1 z hz).2.2.2.1.kept (am_h0 hH)
      have e9 : 1000 + z.1 + 100 = 1100 + z.1 := by omega
      rw [e9] at ht
      exact W.getf hF.1 hF.2.1 hF.2.2.2.1 (hF.2.2.2.2 _ (List.mem_cons_of_mem _ hl)) h1 h2 h3 h4 h5 rfl rfl d (hk _ _ _ _ ht c1 (am_c1 rfl (am_ct c2)) H locs lsA hH hS hlv)
  · exact ht.elim
theorem mp_blen (hX : am_xs G) (d : decode cc pc = .ok (.arraylength, 1)) : am_P l G cc nL own Ts R (mt_blen (pc + 1)) pc := by
  refine ⟨?_, ?_⟩
  · intro ls ls' st σ K K' R R' hle hK hR h
    unfold mt_blen at h ⊢
    split at h
    · rename_i q r
      try dsimp only
      cases hb : am_sib q with
      | false => rw [hb] at h; exact h.elim
      | true => rw [hb] at h; exact hK _ _ _ _ _ hle h
    · exact h.elim
  intro p e s m args below meth c A cells slots Q hF hK hG hA hc ls st σ K R0 ht hk
  unfold mt_blen at ht
  split at ht
  · rename_i q r
    cases hb : am_sib q with
    | false => rw [hb] at ht; exact ht.elim
    | true =>
      rw [hb] at ht
      intro c1 c2 H locs lsA hH hS hlv
      obtain ⟨z, hz, rfl⟩ := am_sib_of hb
      have e9 : 1100 + z.1 - 1100 = z.1 := by omega
      rw [e9] at ht
      obtain ⟨cell, h1, h2, h3, h4, h5, h6, h7⟩ := ((hX s hK.2).1 z hz).2.2.2.2.kept (am_h0 hH)
      exact W.alen hF.1 hF.2.1 h1 h2 h5 rfl rfl d (hk _ _ _ _ ht c1 (am_c1 rfl (am_ct c2)) H locs lsA hH hS hlv)
  · exact ht.elim
theorem mp_bald (hX : am_xs G) (d : decode cc pc = .ok (.baload, 1)) : am_P l G cc nL own Ts R (mt_bald (pc + 1)) pc := by
  refine ⟨?_, ?_⟩
  · intro ls ls' st σ K K' R R' hle hK hR h
    unfold mt_bald at h ⊢
    split at h
    · rename_i i q r
      try dsimp only
      cases hb : am_sib q with
      | false => rw [hb] at h; exact h.elim
      | true => rw [hb] at h; exact ⟨h.1, hK _ _ _ _ _ hle h.2⟩
    · exact h.elim
  intro p e s m args below meth c A cells slots Q hF hK hG hA hc ls st σ K R0 ht hk
  unfold mt_bald at ht
  split at ht
  · rename_i i q r
    cases hb : am_sib q with
    | false => rw [hb] at ht; exact ht.elim
    | true =>
      rw [hb] at ht
      obtain ⟨hin, ht⟩ := ht
      intro c1 c2 H locs lsA hH hS hlv
      obtain ⟨z, hz, rfl⟩ := am_sib_of hb
      have e9 : 1100 + z.1 - 1100 = z.1 := by omega
      rw [e9] at ht hin
      obtain ⟨cell, h1, h2, h3, h4, h5, h6, h7⟩ := ((hX s hK.2).1 z hz).2.2.2.2.kept (am_h0 hH)
      have hlt : i.toNatClampNeg < (am_byt z.1).length := Nat.not_le.mp fun q => hin (Or.inr q)
      have hin' : ¬ (i < 0 ∨ cell.slots.size ≤ i.toNatClampNeg) := by
        intro q
        rcases q with q | q
        · exact hin (Or.inl q)
        · omega
      exact W.bald hF.1 hF.2.1 h1 h2 h3 hin' (h6 _ hlt) rfl rfl d (hk _ _ _ _ ht c1 (am_c1 rfl (am_ct (am_ct c2))) H locs lsA hH hS hlv)
  · exact ht.elim
theorem mp_i2b (d : decode cc pc = .ok (.i2b, 1)) : am_P l G cc nL own Ts R (mt_i2b (pc + 1)) pc := by
  refine ⟨?_, ?_⟩
  · intro ls ls' st σ K K' R R' hle hK hR h
    unfold mt_i2b at h ⊢
    split at h
    · exact hK _ _ _ _ _ hle h
    · exact h.elim
  intro p e s m args below meth c A cells slots Q hF hK hG hA hc ls st σ K R0 ht hk
  unfold mt_i2b at ht
  split at ht
  · intro c1 c2 H locs lsA hH hS hl
    exact lv_i2b hF.1 hF.2.1 d rfl (hk _ _ _ _ ht c1 (am_c1 rfl (am_ct c2)) H locs lsA hH hS hl)
  · exact ht.elim
theorem mp_ishr (d : decode cc pc = .ok (.ishr, 1)) : am_P l G cc nL own Ts R (mt_ishr (pc + 1)) pc := by
  refine ⟨?_, ?_⟩
  · intro ls ls' st σ K K' R R' hle hK hR h
    unfold mt_ishr at h ⊢
    split at h
    · exact hK _ _ _ _ _ hle h
    · exact h.elim
  intro p e s m args below meth c A cells slots Q hF hK hG hA hc ls st σ K R0 ht hk
  unfold mt_ishr at ht
  split at ht
  · intro c1 c2 H locs lsA hH hS hl
    exact lv_ishr hF.1 hF.2.1 d (hk _ _ _ _ ht c1 (am_c1 rfl (am_ct (am_ct c2))) H locs lsA hH hS hl)
  · exact ht.elim
theorem mo_bret (d : decode cc pc = .ok (.ireturn, 1)) : am_Ok l G cc nL own Ts R (some .byte) mt_bret pc := by
  refine ⟨?_, ?_⟩
  · intro ls ls' st σ K K' R R' hle hK hR h
    unfold mt_bret at h ⊢
    split at h
    · exact ⟨h.1, hR _ _ h.2⟩
    · exact h.elim
  intro p e s m args below meth c R0 hF hK hG hr hlk ls st σ K ht hk
  unfold mt_bret at ht
  split at ht
  · rename_i v
    intro c1 c2 H locs lsA hH hS hl
    have hn : narrow .byte (.int v) = .int v := by rw [ht.1]; rfl
    exact W.zret hF.1 hF.2.1 hr hn (am_QF (v := some (.int v)) hS (fun w hw => by cases hw; rfl) ht.2 hH) hS.2.2 d hlk
  · exact ht.elim
def mt_csv (n : Nat) (sp : am_S) (nx : Nat) : am_T := fun ls st σ K _ => am_pop n [] st (fun As rest => match rest with
  | .ref k :: r => bif am_sid k then (bif Nat.ble r.length 8 then sp (.ref k :: As) σ (fun v σ' => K nx ls (v.toList ++ r) σ') else False) else False
  | _ => False)
theorem mt_csv_mono {n : Nat} {sp : am_S} (hs : am_mS sp) (nx : Nat) : am_mono (mt_csv n sp nx) := by
  intro ls ls' st σ K K' R R' hle hK hR h
  refine am_pop_mono (fun As rest => ?_) h
  intro h
  split at h
  · rename_i k r
    try dsimp only
    cases h1 : am_sid k with
    | false => rw [h1] at h; exact h.elim
    | true =>
      rw [h1] at h
      cases h2 : Nat.ble r.length 8 with
      | false => rw [h2] at h; exact h.elim
      | true =>
        rw [h2] at h
        exact hs _ _ _ _ (fun v s q => hK _ _ _ _ _ hle q) h
  · exact h.elim
theorem mp_csv (n : Nat) {sp : am_S} {index maxL : Nat} {y : MethodName} {bytes : ByteArray} {rt : Option FieldType} {ws : List Cond} {rm : Room} (hX : am_xs G) (hM : am_Met l G y ws rm sp) (hs : am_mS sp) (d : decode cc pc = .ok (.invokevirtual index, 3))
    (hcw : ∀ (s : State) (args : Array Value), (∀ w ∈ Ts, w.before args s = true) → CallW R s args own "java/lang/String" index y bytes maxL rt ws rm 0 0 n) : am_P l G cc nL own Ts R (mt_csv n sp (pc + 3)) pc := by
  refine ⟨mt_csv_mono hs _, ?_⟩
  intro p e s m args below meth c A cells slots Q hF hK hG hA hc ls st σ K R0 ht hk
  obtain ⟨As, rest, h1, h2, h3⟩ := am_pop_spec ht
  subst h2
  rw [List.append_nil] at h3
  split at h3
  · rename_i k r
    cases hi : am_sid k with
    | false => rw [hi] at h3; exact h3.elim
    | true =>
      rw [hi] at h3
      cases hle : Nat.ble r.length 8 with
      | false => rw [hle] at h3; exact h3.elim
      | true =>
        rw [hle] at h3
        dsimp only [cond] at h3
        intro c1 c2 H locs lsA hH hS hl
        have hrc : ∃ cell : Cell, H[G.1 k]? = some cell ∧ cell.vm.isStatics = false ∧ s.vm.findClass "java/lang/String" = some cell.cls := by
          obtain ⟨z, hz, rfl⟩ := am_sid_of hi
          obtain ⟨cell, g1, g2, g3, -⟩ := ((hX s hK.2).1 z hz).2.1.kept (am_h0 hH)
          exact ⟨cell, g1, g2, g3⟩
        have cAs : ∀ v ∈ Value.ref k :: As, v.category = 1 := fun v hv => by
          rcases List.mem_cons.mp hv with rfl | hv
          · rfl
          · exact c2 v (List.mem_append_left _ (List.mem_reverse.mpr hv))
        have cr : ∀ v ∈ r, v.category = 1 := fun v hv => c2 v (List.mem_append_right _ (List.mem_cons_of_mem _ hv))
        refine am_callW (st0 := (As.reverse ++ Value.ref k :: r).map (am_rn G)) (rest := r.map (am_rn G)) (va_runV (As := As.map (am_rn G)) (b := G.1 k) hF (hM (.ref k :: As) σ _ cAs h3) (hcw s args hF.2.2.2.2) ⟨am_blind hG, hrc, fun U hU hW => ⟨rfl, by rw [hU]; exact hH, hK.warm hG hW⟩⟩ rfl (by simp [h1]) hl.1 (by simp [am_rn]) (by show 2 * 0 + _ ≤ 8; rw [am_catsum cr]; have := Nat.le_of_ble_eq_true hle; omega) d ⟨by omega, by omega⟩) hA.1 hS (fun v σ' H1 locs1 hR hcv hH1 hS1 => ?_)
        have hw := hk _ _ _ _ hR c1 (am_vcat hcv cr) H1 locs1 lsA hH1 hS1 hl
        rw [List.map_append] at hw
        cases v <;> exact hw
  · exact h3.elim
theorem mq_csv (n : Nat) {sp : am_S} {index maxL : Nat} {y : MethodName} {bytes : ByteArray} {rt : Option FieldType} {rm : Room} (hM : am_Met l G y (Cond.code y bytes maxL rt :: am_tb) rm sp) (hs : am_mS sp) (hX : am_xs G) (d : decode cc pc = .ok (.invokevirtual index, 3))
    (hc : Cond.code y bytes maxL rt ∈ am_tb) (hl : Cond.methodLink own index y ∈ am_tb) (hi : Cond.instanceMethod y ∈ am_tb) (hse : Cond.selects "java/lang/String" y y ∈ am_tb) (hn : Cond.initialized "java/lang/String" ∈ am_tb)
    (hrc : rm.cells = 0) (hrs : rm.slots = 0) (hd : y.cls = "java/lang/String" ∧ y.cls ≠ "java/lang/invoke/MethodHandle" ∧ y.cls ≠ "java/lang/invoke/VarHandle" ∧ (parseMethodDescriptor y.desc).map (fun d => d.parameters.length) = some n) (hR1 : rm.frames + 1 ≤ R.frames) (hR2 : 8 + (maxL + 11) + rm.locals ≤ R.locals) : am_P l G cc nL own (w0 :: am_tb) R (mt_csv n sp (pc + 3)) pc :=
  mp_csv n hX hM hs d (fun s args hts => am_cwV n hts hc hl hi hse hn hrc hrs hd ⟨hR1, hR2⟩)
end AMK
section AMKW
variable {code : Nat → am_T} {pc nx q : Nat} {ls : am_L} {st : List Value} {σ : am_M} {R : am_R}
theorem wk_gcod (hm : ∀ pc, am_mono (code pc)) (hc : code pc = mt_gcod nx) (hq : am_sid q = true) (h : am_Wp code nx ls (.int 0 :: st) σ R) : am_Wp code pc ls (.ref q :: st) σ R :=
  am_Wp.fold hm (by rw [hc]; unfold mt_gcod; dsimp only; rw [hq]; exact h)
theorem wk_gval (hm : ∀ pc, am_mono (code pc)) (hc : code pc = mt_gval nx) (hq : am_sid q = true) (h : am_Wp code nx ls (.ref (q + 100) :: st) σ R) : am_Wp code pc ls (.ref q :: st) σ R :=
  am_Wp.fold hm (by rw [hc]; unfold mt_gval; dsimp only; rw [hq]; exact h)
theorem wk_blen (hm : ∀ pc, am_mono (code pc)) (hc : code pc = mt_blen nx) (hq : am_sib q = true) (h : am_Wp code nx ls (.int (nI (am_byt (q - 1100)).length) :: st) σ R) : am_Wp code pc ls (.ref q :: st) σ R :=
  am_Wp.fold hm (by rw [hc]; unfold mt_blen; dsimp only; rw [hq]; exact h)
theorem wk_bald (hm : ∀ pc, am_mono (code pc)) (hc : code pc = mt_bald nx) (hq : am_sib q = true) {i : Int32} (hi : vp_in i (am_byt (q - 1100)).length) (h : am_Wp code nx ls (.int ((am_byt (q - 1100)).getD i.toNatClampNeg 0) :: st) σ R) : am_Wp code pc ls (.int i :: .ref q :: st) σ R :=
  am_Wp.fold hm (by rw [hc]; unfold mt_bald; dsimp only; rw [hq]; exact ⟨hi, h⟩)
theorem wk_csv0 (hm : ∀ pc, am_mono (code pc)) {sp : am_S} (hq : am_sid q = true) (h8 : Nat.ble st.length 8 = true) (hc : code pc = mt_csv 0 sp nx) (h : sp [.ref q] σ (fun v σ' => am_Wp code nx ls (v.toList ++ st) σ' R)) : am_Wp code pc ls (.ref q :: st) σ R :=
  am_Wp.fold hm (by rw [hc]; unfold mt_csv am_pop; dsimp only [am_pop, List.nil_append]; rw [hq, h8]; exact h)
theorem wk_csv1 (hm : ∀ pc, am_mono (code pc)) {sp : am_S} {a : Value} (hq : am_sid q = true) (h8 : Nat.ble st.length 8 = true) (hc : code pc = mt_csv 1 sp nx) (h : sp [.ref q, a] σ (fun v σ' => am_Wp code nx ls (v.toList ++ st) σ' R)) : am_Wp code pc ls (a :: .ref q :: st) σ R :=
  am_Wp.fold hm (by rw [hc]; unfold mt_csv am_pop; dsimp only [am_pop, List.nil_append]; rw [hq, h8]; exact h)
theorem wk_csv2 (hm : ∀ pc, am_mono (code pc)) {sp : am_S} {a b : Value} (hq : am_sid q = true) (h8 : Nat.ble st.length 8 = true) (hc : code pc = mt_csv 2 sp nx) (h : sp [.ref q, a, b] σ (fun v σ' => am_Wp code nx ls (v.toList ++ st) σ' R)) : am_Wp code pc ls (b :: a :: .ref q :: st) σ R :=
  am_Wp.fold hm (by rw [hc]; unfold mt_csv am_pop; dsimp only [am_pop, List.nil_append]; rw [hq, h8]; exact h)
end AMKW
def ixR (z : Nat) (c : Int32) (σ : am_M) (R : am_R) : Prop := ((am_byt z).contains c = true → ∀ r : Int32, ¬ r < 0 → R (some (.int r)) σ) ∧ ((am_byt z).contains c = false → R (some (.int (-1))) σ)
theorem ixR.mono {z : Nat} {c : Int32} {σ : am_M} {R R1 : am_R} (hR : ∀ v s, R v s → R1 v s) (h : ixR z c σ R) : ixR z c σ R1 := ⟨fun a r b => hR _ _ (h.1 a r b), fun a => hR _ _ (h.2 a)⟩
theorem am_sb {q : Nat} (h : am_sid q = true) : am_sib (q + 100) = true := by
  unfold am_sid at h
  unfold am_sib
  rw [Bool.and_eq_true] at h
  have h2 := Nat.le_of_ble_eq_true h.2
  rw [show q + 100 - 1100 = q - 1000 from by omega, h.1, Nat.ble_eq_true_of_le (by omega : 1100 ≤ q + 100)]
  rfl
theorem am_q1 (q : Nat) : q - 1000 = q + 100 - 1100 := by omega
theorem am_gd (L : List Int32) {j : Nat} (h : j < L.length) : L.getD j 0 = L[j] := by simp [List.getD, List.getElem?_eq_getElem h]
theorem nI_back {c : Int32} (h1 : ¬ c < 0) : nI c.toNatClampNeg = c := by
  have h2 := Int32.le_iff_toInt_le.mp (Int32.not_lt.mp h1)
  have h3 : (0 : Int32).toInt = 0 := rfl
  have h4 := Int32.toInt_lt c
  have e : c.toNatClampNeg = c.toInt.toNat := rfl
  refine Int32.toInt_inj.mp ?_
  rw [nI_toInt (by rw [e]; omega), e]
  omega
theorem shr0 (x : Int32) : x >>> ((0 : Int32) &&& 31) = x := by
  rw [show ((0 : Int32) &&& 31) = 0 from by decide]
  exact Int32.shiftRight_zero
def sk_isL : am_S := fun av σ R => match av with
  | [.ref q] => am_sid q = true ∧ R (some (.int 1)) σ
  | _ => False
def sk_cod : am_S := fun av σ R => match av with
  | [.ref q] => am_sid q = true ∧ R (some (.int 0)) σ
  | _ => False
def sk_len : am_S := fun av σ R => match av with
  | [.ref q] => am_sid q = true ∧ R (some (.int (nI (am_byt (q - 1000)).length))) σ
  | _ => False
def sk_can : am_S := fun av σ R => match av with
  | [.int c] => (c < 0 ∨ 255 < c → R (some (.int 0)) σ) ∧ (¬ c < 0 → ¬ 255 < c → R (some (.int 1)) σ)
  | _ => False
def sk_ixC : am_S := fun av σ R => match av with
  | [.ref b, .int c, .int i, .int n] => am_sib b = true ∧ i = 0 ∧ n = nI (am_byt (b - 1100)).length ∧ ixR (b - 1100) c.toInt8.toInt32 σ R
  | _ => False
def sk_ixL : am_S := fun av σ R => match av with
  | [.ref b, .int c, .int i, .int n] => am_sib b = true ∧ i = 0 ∧ n = nI (am_byt (b - 1100)).length ∧ ixR (b - 1100) c σ R
  | _ => False
def sk_ix2 : am_S := fun av σ R => match av with
  | [.ref q, .int c, .int i] => am_sid q = true ∧ i = 0 ∧ ixR (q - 1000) c σ R
  | _ => False
def sk_ix1 : am_S := fun av σ R => match av with
  | [.ref q, .int c] => am_sid q = true ∧ ixR (q - 1000) c σ R
  | _ => False
theorem smk_isL : am_mS sk_isL := by
  intro av σ R R1 hR h; unfold sk_isL at h ⊢; split at h
  · exact ⟨h.1, hR _ _ h.2⟩
  · exact h.elim
theorem smk_cod : am_mS sk_cod := by
  intro av σ R R1 hR h; unfold sk_cod at h ⊢; split at h
  · exact ⟨h.1, hR _ _ h.2⟩
  · exact h.elim
theorem smk_len : am_mS sk_len := by
  intro av σ R R1 hR h; unfold sk_len at h ⊢; split at h
  · exact ⟨h.1, hR _ _ h.2⟩
  · exact h.elim
theorem smk_can : am_mS sk_can := by
  intro av σ R R1 hR h; unfold sk_can at h ⊢; split at h
  · exact ⟨fun z => hR _ _ (h.1 z), fun z y => hR _ _ (h.2 z y)⟩
  · exact h.elim
theorem smk_ixC : am_mS sk_ixC := by
  intro av σ R R1 hR h; unfold sk_ixC at h ⊢; split at h
  · exact ⟨h.1, h.2.1, h.2.2.1, h.2.2.2.mono hR⟩
  · exact h.elim
theorem smk_ixL : am_mS sk_ixL := by
  intro av σ R R1 hR h; unfold sk_ixL at h ⊢; split at h
  · exact ⟨h.1, h.2.1, h.2.2.1, h.2.2.2.mono hR⟩
  · exact h.elim
theorem smk_ix2 : am_mS sk_ix2 := by
  intro av σ R R1 hR h; unfold sk_ix2 at h ⊢; split at h
  · exact ⟨h.1, h.2.1, h.2.2.mono hR⟩
  · exact h.elim
theorem smk_ix1 : am_mS sk_ix1 := by
  intro av σ R R1 hR h; unfold sk_ix1 at h ⊢; split at h
  · exact ⟨h.1, h.2.mono hR⟩
  · exact h.elim
def ck_isL : List (Nat × am_T) := [(0, mt_ic 1 3), (3, mt_if_eq 17 6), (6, mt_ald 0 7), (7, mt_gcod 10), (10, mt_if_ne 17 13), (13, mt_ic (1) 14), (14, mt_goto 18), (17, mt_ic (0) 18), (18, mt_zret)]
def ck_cod : List (Nat × am_T) := [(0, mt_ic 1 3), (3, mt_if_eq 13 6), (6, mt_ald 0 7), (7, mt_gcod 10), (10, mt_goto 14), (13, mt_ic (1) 14), (14, mt_bret)]
def ck_len : List (Nat × am_T) := [(0, mt_ald 0 1), (1, mt_gval 4), (4, mt_blen 5), (5, mt_ald 0 6), (6, mt_csv 0 sk_cod 9), (9, mt_ishr 10), (10, mt_iret)]
def ck_can : List (Nat × am_T) := [(0, mt_ild 0 1), (1, mt_if_lt 15 4), (4, mt_ild 0 5), (5, mt_ic (255) 8), (8, mt_icmp_gt 15 11), (11, mt_ic (1) 12), (12, mt_goto 16), (15, mt_ic (0) 16), (16, mt_zret)]
def ck_ixC : List (Nat × am_T) := [(0, mt_ild 1 1), (1, mt_i2b 2), (2, mt_sti 4 4), (4, mt_ild 2 5), (5, mt_sti 5 7), (7, mt_ild 5 9), (9, mt_ild 3 10), (10, mt_icmp_ge 31 13), (13, mt_ald 0 14), (14, mt_ild 5 16), (16, mt_bald 17), (17, mt_ild 4 19), (19, mt_icmp_ne 25 22), (22, mt_ild 5 24), (24, mt_iret), (25, mt_inc 5 (1) 28), (28, mt_goto 7), (31, mt_ic (-1) 32), (32, mt_iret)]
def ck_ixL : List (Nat × am_T) := [(0, mt_ild 1 1), (1, mt_cs 1 sk_can 4), (4, mt_if_ne 9 7), (7, mt_ic (-1) 8), (8, mt_iret), (9, mt_ild 2 10), (10, mt_ic (0) 11), (11, mt_mmax 14), (14, mt_sti 2 15), (15, mt_ild 3 16), (16, mt_ald 0 17), (17, mt_blen 18), (18, mt_mmin 21), (21, mt_sti 3 22), (22, mt_ild 2 23), (23, mt_ild 3 24), (24, mt_icmp_lt 29 27), (27, mt_ic (-1) 28), (28, mt_iret), (29, mt_ald 0 30), (30, mt_ild 1 31), (31, mt_ild 2 32), (32, mt_ild 3 33), (33, mt_cs 4 sk_ixC 36), (36, mt_iret)]
def ck_ix2 : List (Nat × am_T) := [(0, mt_ald 0 1), (1, mt_csv 0 sk_isL 4), (4, mt_if_eq 23 7), (7, mt_ald 0 8), (8, mt_gval 11), (11, mt_ild 1 12), (12, mt_ild 2 13), (13, mt_ald 0 14), (14, mt_csv 0 sk_len 17), (17, mt_cs 4 sk_ixL 20), (20, mt_goto 36), (36, mt_iret)]
def ck_ix1 : List (Nat × am_T) := [(0, mt_ald 0 1), (1, mt_ild 1 2), (2, mt_ic (0) 3), (3, mt_csv 2 sk_ix2 6), (6, mt_iret)]
set_option maxRecDepth 20000 in
theorem vk_isL (hm : ∀ pc, am_mono (am_lk ck_isL pc)) : ∀ (av : List Value) (σ : am_M) (R0 : am_R), sk_isL av σ R0 → av.length = 1 ∧ am_Wp (am_lk ck_isL) 0 (am_args 0 av) [] σ R0 := by
  intro av σ R0 h
  unfold sk_isL at h
  split at h
  · rename_i q
    refine ⟨rfl, am_go hm (fun p => Nat.beq p 7) 10 ?_⟩
    refine am_ite (fun z => absurd z (by decide)) (fun _ => ?_)
    refine wk_gcod hm rfl h.1 ?_
    refine am_go hm (fun _ => false) 10 ?_
    refine am_ite (fun _ => ?_) (fun z => absurd rfl z)
    exact ⟨Or.inr rfl, h.2⟩
  · exact h.elim
set_option maxRecDepth 20000 in
theorem vk_cod (hm : ∀ pc, am_mono (am_lk ck_cod pc)) : ∀ (av : List Value) (σ : am_M) (R0 : am_R), sk_cod av σ R0 → av.length = 1 ∧ am_Wp (am_lk ck_cod) 0 (am_args 0 av) [] σ R0 := by
  intro av σ R0 h
  unfold sk_cod at h
  split at h
  · rename_i q
    refine ⟨rfl, am_go hm (fun p => Nat.beq p 7) 10 ?_⟩
    refine am_ite (fun z => absurd z (by decide)) (fun _ => ?_)
    refine wk_gcod hm rfl h.1 ?_
    refine am_go hm (fun _ => false) 10 ?_
    exact ⟨rfl, h.2⟩
  · exact h.elim
set_option maxRecDepth 20000 in
theorem vk_can (hm : ∀ pc, am_mono (am_lk ck_can pc)) : ∀ (av : List Value) (σ : am_M) (R0 : am_R), sk_can av σ R0 → av.length = 1 ∧ am_Wp (am_lk ck_can) 0 (am_args 0 av) [] σ R0 := by
  intro av σ R0 h
  unfold sk_can at h
  split at h
  · rename_i c
    refine ⟨rfl, am_go hm (fun _ => false) 20 ?_⟩
    refine am_ite (fun z => ⟨Or.inl rfl, h.1 (Or.inl z)⟩) (fun z => ?_)
    refine am_ite (fun y => ⟨Or.inl rfl, h.1 (Or.inr y)⟩) (fun y => ⟨Or.inr rfl, h.2 z y⟩)
  · exact h.elim
set_option maxRecDepth 20000 in
theorem vk_len (hm : ∀ pc, am_mono (am_lk ck_len pc)) : ∀ (av : List Value) (σ : am_M) (R0 : am_R), sk_len av σ R0 → av.length = 1 ∧ am_Wp (am_lk ck_len) 0 (am_args 0 av) [] σ R0 := by
  intro av σ R0 h
  unfold sk_len at h
  split at h
  · rename_i q
    refine ⟨rfl, am_go hm (fun p => Nat.beq p 1) 10 ?_⟩
    refine wk_gval hm rfl h.1 ?_
    refine wk_blen hm rfl (am_sb h.1) ?_
    refine am_go hm (fun p => Nat.beq p 6) 10 ?_
    refine wk_csv0 hm h.1 rfl rfl ⟨h.1, ?_⟩
    refine am_go hm (fun _ => false) 10 ?_
    have h2 := h.2
    rw [am_q1 q, ← shr0 (nI (am_byt (q + 100 - 1100)).length)] at h2
    exact h2
  · exact h.elim
theorem am_bpos {b : Nat} (h : am_sib b = true) : 0 < (am_byt (b - 1100)).length ∧ (am_byt (b - 1100)).length < 256 ∧ (∀ x ∈ am_byt (b - 1100), ¬ x < 0 ∧ ¬ 255 < x) ∧ ∀ k : Nat, k < 256 → (am_byt (b - 1100)).contains (nI k).toInt8.toInt32 = (am_byt (b - 1100)).contains (nI k) := by
  obtain ⟨z, hz, rfl⟩ := am_sib_of h
  rw [show 1100 + z.1 - 1100 = z.1 from by omega]
  exact (by decide +kernel : ∀ z ∈ am_strs, 0 < (am_byt z.1).length ∧ (am_byt z.1).length < 256 ∧ (∀ x ∈ am_byt z.1, ¬ x < 0 ∧ ¬ 255 < x) ∧ ∀ k : Nat, k < 256 → (am_byt z.1).contains (nI k).toInt8.toInt32 = (am_byt z.1).contains (nI k)) z hz
set_option maxRecDepth 20000 in
theorem l_ixC (hm : ∀ pc, am_mono (am_lk ck_ixC pc)) {q : Nat} {b : Int32} {σ : am_M} {R0 : am_R} (hq : am_sib q = true) (h : ixR (q - 1100) b σ R0) : ∀ (m i : Nat), i + m = (am_byt (q - 1100)).length → (∀ j, j < i → ¬ (am_byt (q - 1100)).getD j 0 = b) → am_Wp (am_lk ck_ixC) 7 [(0, .ref q), (3, .int (nI (am_byt (q - 1100)).length)), (4, .int b), (5, .int (nI i))] [] σ R0 := by
  have hb := am_bpos hq
  intro m
  induction m with
  | zero =>
    intro i hi hj
    refine am_go hm (fun _ => false) 10 ?_
    refine am_ite (fun _ => ?_) (fun z => absurd (nI_le (by omega) (by omega)) z)
    refine h.2 ?_
    cases hc : (am_byt (q - 1100)).contains b with
    | false => rfl
    | true =>
      obtain ⟨j, h1, h2⟩ := List.getElem_of_mem (List.contains_iff_mem.mp hc)
      exact absurd (by rw [am_gd _ h1]; exact h2) (hj j (by omega))
  | succ m ih =>
    intro i hi hj
    refine am_go hm (fun p => Nat.beq p 16) 10 ?_
    refine am_ite (fun z => absurd z (nI_ge (by omega) (by omega))) (fun _ => ?_)
    refine wk_bald hm rfl hq (vp_in_nI (by omega) (by omega)) ?_
    rw [nI_clamp (by omega : i < 2 ^ 31)]
    refine am_go hm (fun p => Nat.beq p 7) 10 ?_
    refine am_ite (fun z => ?_) (fun z => ?_)
    · refine h.1 ?_ _ (nI_pos (by omega))
      have hl : i < (am_byt (q - 1100)).length := by omega
      rw [am_gd _ hl] at z
      exact List.contains_iff_mem.mpr (z ▸ List.getElem_mem hl)
    · refine am_Wp.sub hm (ls := [(0, .ref q), (3, .int (nI (am_byt (q - 1100)).length)), (4, .int b), (5, .int (nI (i + 1)))]) (am_le_of (List.forall_mem_cons.mpr ⟨rfl, List.forall_mem_cons.mpr ⟨rfl, List.forall_mem_cons.mpr ⟨rfl, List.forall_mem_cons.mpr ⟨by rw [nI_succ]; rfl, fun _ q => by cases q⟩⟩⟩⟩)) ?_
      refine ih (i + 1) (by omega) (fun j hj1 => ?_)
      rcases Nat.lt_or_ge j i with h1 | h1
      · exact hj j h1
      · rw [show j = i from by omega]; exact z
set_option maxRecDepth 20000 in
theorem vk_ixC (hm : ∀ pc, am_mono (am_lk ck_ixC pc)) : ∀ (av : List Value) (σ : am_M) (R0 : am_R), sk_ixC av σ R0 → av.length = 4 ∧ am_Wp (am_lk ck_ixC) 0 (am_args 0 av) [] σ R0 := by
  intro av σ R0 h
  unfold sk_ixC at h
  split at h
  · rename_i b c i n
    obtain ⟨h1, rfl, rfl, h4⟩ := h
    refine ⟨rfl, am_go hm (fun p => Nat.beq p 7) 10 ?_⟩
    refine am_Wp.sub hm (ls := [(0, .ref b), (3, .int (nI (am_byt (b - 1100)).length)), (4, .int c.toInt8.toInt32), (5, .int (nI 0))]) (am_le_of (List.forall_mem_cons.mpr ⟨rfl, List.forall_mem_cons.mpr ⟨rfl, List.forall_mem_cons.mpr ⟨rfl, List.forall_mem_cons.mpr ⟨rfl, fun _ q => by cases q⟩⟩⟩⟩)) ?_
    exact l_ixC hm h1 h4 (am_byt (b - 1100)).length 0 (Nat.zero_add _) (fun j hj => absurd hj (by omega))
  · exact h.elim
set_option maxRecDepth 20000 in
theorem vk_ixL (hm : ∀ pc, am_mono (am_lk ck_ixL pc)) : ∀ (av : List Value) (σ : am_M) (R0 : am_R), sk_ixL av σ R0 → av.length = 4 ∧ am_Wp (am_lk ck_ixL) 0 (am_args 0 av) [] σ R0 := by
  intro av σ R0 h
  unfold sk_ixL at h
  split at h
  · rename_i b c i n
    obtain ⟨h1, rfl, rfl, h4⟩ := h
    have hb := am_bpos h1
    refine ⟨rfl, am_go hm (fun p => Nat.beq p 17) 10 ?_⟩
    refine ⟨fun z => ?_, fun z1 z2 => ?_⟩
    · refine am_ite (fun _ => ?_) (fun y => absurd rfl y)
      refine h4.2 ?_
      cases hc : (am_byt (b - 1100)).contains c with
      | false => rfl
      | true =>
        have := hb.2.2.1 c (List.contains_iff_mem.mp hc)
        rcases z with z | z
        · exact absurd z this.1
        · exact absurd z this.2
    · refine am_ite (fun y => absurd y (by decide)) (fun _ => ?_)
      refine wk_blen hm rfl h1 ?_
      refine am_go hm (fun p => Nat.beq p 33) 20 ?_
      have e1 : (if (0 : Int32) < 0 then (0 : Int32) else 0) = 0 := rfl
      have e2 : (if nI (am_byt (b - 1100)).length < nI (am_byt (b - 1100)).length then nI (am_byt (b - 1100)).length else nI (am_byt (b - 1100)).length) = nI (am_byt (b - 1100)).length := by split <;> rfl
      refine am_ite (fun _ => ?_) (fun y => absurd ?_ y)
      · refine am_go hm (fun _ => false) 10 ?_
        refine ⟨h1, e1, e2, ?_⟩
        have e3 : (am_byt (b - 1100)).contains c.toInt8.toInt32 = (am_byt (b - 1100)).contains c := by
          have hc : c = nI c.toNatClampNeg := (nI_back z1).symm
          rw [hc]
          refine hb.2.2.2 _ ?_
          have := Int32.not_lt.mp z2
          have h9 := Int32.le_iff_toInt_le.mp this
          have h8 : (255 : Int32).toInt = 255 := rfl
          rw [h8] at h9
          show c.toInt.toNat < 256
          omega
        exact ⟨fun z => h4.1 (e3 ▸ z), fun z => h4.2 (e3 ▸ z)⟩
      · rw [e1, e2]
        exact nI_0 ▸ nI_lt hb.1 (by omega)
  · exact h.elim
set_option maxRecDepth 20000 in
theorem vk_ix2 (hm : ∀ pc, am_mono (am_lk ck_ix2 pc)) : ∀ (av : List Value) (σ : am_M) (R0 : am_R), sk_ix2 av σ R0 → av.length = 3 ∧ am_Wp (am_lk ck_ix2) 0 (am_args 0 av) [] σ R0 := by
  intro av σ R0 h
  unfold sk_ix2 at h
  split at h
  · rename_i q c i
    obtain ⟨h1, rfl, h4⟩ := h
    refine ⟨rfl, am_go hm (fun p => Nat.beq p 1) 10 ?_⟩
    refine wk_csv0 hm h1 rfl rfl ⟨h1, ?_⟩
    refine am_go hm (fun p => Nat.beq p 8) 10 ?_
    refine am_ite (fun y => absurd y (by decide)) (fun _ => ?_)
    refine wk_gval hm rfl h1 ?_
    refine am_go hm (fun p => Nat.beq p 14) 10 ?_
    refine wk_csv0 hm h1 rfl rfl ⟨h1, ?_⟩
    refine am_go hm (fun _ => false) 10 ?_
    rw [am_q1 q] at h4
    exact ⟨am_sb h1, rfl, by rw [am_q1 q], h4⟩
  · exact h.elim
set_option maxRecDepth 20000 in
theorem vk_ix1 (hm : ∀ pc, am_mono (am_lk ck_ix1 pc)) : ∀ (av : List Value) (σ : am_M) (R0 : am_R), sk_ix1 av σ R0 → av.length = 2 ∧ am_Wp (am_lk ck_ix1) 0 (am_args 0 av) [] σ R0 := by
  intro av σ R0 h
  unfold sk_ix1 at h
  split at h
  · rename_i q c
    refine ⟨rfl, am_go hm (fun p => Nat.beq p 3) 10 ?_⟩
    refine wk_csv2 hm h.1 rfl rfl ⟨h.1, rfl, ?_⟩
    exact ⟨fun z r y => am_go hm (fun _ => false) 10 (h.2.1 z r y), fun z => am_go hm (fun _ => false) 10 (h.2.2 z)⟩
  · exact h.elim
def ck_isAny : List (Nat × am_T) := [(0, mt_ild 0 1), (1, mt_if_lt 16 4), (4, mt_ald 1 5), (5, mt_ild 0 6), (6, mt_csv 1 sk_ix1 9), (9, mt_if_lt 16 12), (12, mt_ic (1) 13), (13, mt_goto 17), (16, mt_ic (0) 17), (17, mt_zret)]
abbrev sk_isAny : am_S := sp_X12_isAny
set_option maxRecDepth 20000 in
theorem vk_isAny (hm : ∀ pc, am_mono (am_lk ck_isAny pc)) : ∀ (av : List Value) (σ : am_M) (R0 : am_R), sk_isAny av σ R0 → av.length = 2 ∧ am_Wp (am_lk ck_isAny) 0 (am_args 0 av) [] σ R0 := by
  intro av σ R0 h
  unfold sk_isAny sp_X12_isAny at h
  split at h
  · rename_i c q
    obtain ⟨h1, h2, h3, h4⟩ := h
    have hq : am_sid q = true := by
      unfold am_sid
      rw [h1, h2]
      rfl
    have hp := am_bpos (am_sb hq)
    rw [← am_q1 q] at hp
    unfold isA at h3 h4
    refine ⟨rfl, am_go hm (fun p => Nat.beq p 6) 10 ?_⟩
    refine am_ite (fun z => ⟨Or.inl rfl, h4 ?_⟩) (fun z => ?_)
    · cases hc : (am_byt (q - 1000)).contains c with
      | false => rfl
      | true => exact absurd z (hp.2.2.1 c (List.contains_iff_mem.mp hc)).1
    · refine wk_csv1 hm hq rfl rfl ⟨hq, fun y r hr => ?_, fun y => ?_⟩
      · refine am_go hm (fun _ => false) 10 ?_
        exact am_ite (fun x => absurd x hr) (fun _ => ⟨Or.inr rfl, h3 y⟩)
      · refine am_go hm (fun _ => false) 10 ?_
        exact am_ite (fun _ => ⟨Or.inl rfl, h4 y⟩) (fun x => absurd (by decide) x)
  · exact h.elim
set_option maxRecDepth 100000 in
theorem hk_isL : yJ0_isLatin1_aae02.cls = "java/lang/String" ∧ yJ0_isLatin1_aae02.cls ≠ "java/lang/invoke/MethodHandle" ∧ yJ0_isLatin1_aae02.cls ≠ "java/lang/invoke/VarHandle" ∧ (parseMethodDescriptor yJ0_isLatin1_aae02.desc).map (fun d => d.parameters.length) = some 0 := by decide +kernel
abbrev wk_isL : List Cond := Cond.code yJ0_isLatin1_aae02 cJ0_isLatin1_aae02 1 (some .boolean) :: am_tb
set_option maxRecDepth 100000 in
theorem okk_isL (l : Launch) (G : am_G) (hG : am_ok G) (hX : am_xs G) : ∀ q ∈ ck_isL, am_Ok l G cJ0_isLatin1_aae02 1 yJ0_isLatin1_aae02.cls wk_isL (am_ro 0) (some .boolean) q.2 q.1 :=
  List.forall_mem_cons.mpr ⟨(mp_gcs hX dJ0_isLatin1_aae02_0 tw_1320).ok _,
  List.forall_mem_cons.mpr ⟨(mp_if_eq 17 dJ0_isLatin1_aae02_3 (by decide)).ok _,
  List.forall_mem_cons.mpr ⟨(mp_aload_n 0 dJ0_isLatin1_aae02_6 rfl).ok _,
  List.forall_mem_cons.mpr ⟨(mp_gcod hX dJ0_isLatin1_aae02_7 tw_1655).ok _,
  List.forall_mem_cons.mpr ⟨(mp_if_ne 17 dJ0_isLatin1_aae02_10 (by decide)).ok _,
  List.forall_mem_cons.mpr ⟨(mp_iconst (1) dJ0_isLatin1_aae02_13 rfl).ok _,
  List.forall_mem_cons.mpr ⟨(mp_goto 18 dJ0_isLatin1_aae02_14 (by decide)).ok _,
  List.forall_mem_cons.mpr ⟨(mp_iconst (0) dJ0_isLatin1_aae02_17 rfl).ok _,
  List.forall_mem_cons.mpr ⟨mo_zret dJ0_isLatin1_aae02_18,
  fun _ h => absurd h List.not_mem_nil⟩⟩⟩⟩⟩⟩⟩⟩⟩
set_option maxRecDepth 100000 in
theorem k_isL (l : Launch) (G : am_G) (hG : am_ok G) (hX : am_xs G) : am_Met l G yJ0_isLatin1_aae02 wk_isL (am_ro 0) sk_isL :=
  am_met hG (am_lk ck_isL) 1 (by decide +kernel) rfl (by decide) (am_lk_ok (okk_isL l G hG hX)) (vk_isL (fun pc => (am_lk_ok (okk_isL l G hG hX) pc).1))
set_option maxRecDepth 100000 in
theorem hk_cod : yJ0_coder_7d493.cls = "java/lang/String" ∧ yJ0_coder_7d493.cls ≠ "java/lang/invoke/MethodHandle" ∧ yJ0_coder_7d493.cls ≠ "java/lang/invoke/VarHandle" ∧ (parseMethodDescriptor yJ0_coder_7d493.desc).map (fun d => d.parameters.length) = some 0 := by decide +kernel
abbrev wk_cod : List Cond := Cond.code yJ0_coder_7d493 cJ0_coder_7d493 1 (some .byte) :: am_tb
set_option maxRecDepth 100000 in
theorem okk_cod (l : Launch) (G : am_G) (hG : am_ok G) (hX : am_xs G) : ∀ q ∈ ck_cod, am_Ok l G cJ0_coder_7d493 1 yJ0_coder_7d493.cls wk_cod (am_ro 0) (some .byte) q.2 q.1 :=
  List.forall_mem_cons.mpr ⟨(mp_gcs hX dJ0_coder_7d493_0 tw_1320).ok _,
  List.forall_mem_cons.mpr ⟨(mp_if_eq 13 dJ0_coder_7d493_3 (by decide)).ok _,
  List.forall_mem_cons.mpr ⟨(mp_aload_n 0 dJ0_coder_7d493_6 rfl).ok _,
  List.forall_mem_cons.mpr ⟨(mp_gcod hX dJ0_coder_7d493_7 tw_1655).ok _,
  List.forall_mem_cons.mpr ⟨(mp_goto 14 dJ0_coder_7d493_10 (by decide)).ok _,
  List.forall_mem_cons.mpr ⟨(mp_iconst (1) dJ0_coder_7d493_13 rfl).ok _,
  List.forall_mem_cons.mpr ⟨mo_bret dJ0_coder_7d493_14,
  fun _ h => absurd h List.not_mem_nil⟩⟩⟩⟩⟩⟩⟩
set_option maxRecDepth 100000 in
theorem k_cod (l : Launch) (G : am_G) (hG : am_ok G) (hX : am_xs G) : am_Met l G yJ0_coder_7d493 wk_cod (am_ro 0) sk_cod :=
  am_met hG (am_lk ck_cod) 1 (by decide +kernel) rfl (by decide) (am_lk_ok (okk_cod l G hG hX)) (vk_cod (fun pc => (am_lk_ok (okk_cod l G hG hX) pc).1))
set_option maxRecDepth 100000 in
theorem hk_can : yJ1_canEncode_9a6ad.cls = "java/lang/StringLatin1" ∧ yJ1_canEncode_9a6ad.cls ≠ "java/lang/invoke/MethodHandle" ∧ yJ1_canEncode_9a6ad.cls ≠ "java/lang/invoke/VarHandle" ∧ (parseMethodDescriptor yJ1_canEncode_9a6ad.desc).map (fun d => d.parameters.length) = some 1 := by decide +kernel
abbrev wk_can : List Cond := Cond.code yJ1_canEncode_9a6ad cJ1_canEncode_9a6ad 1 (some .boolean) :: am_tb
set_option maxRecDepth 100000 in
theorem okk_can (l : Launch) (G : am_G) (hG : am_ok G) (hX : am_xs G) : ∀ q ∈ ck_can, am_Ok l G cJ1_canEncode_9a6ad 1 yJ1_canEncode_9a6ad.cls wk_can (am_ro 0) (some .boolean) q.2 q.1 :=
  List.forall_mem_cons.mpr ⟨(mp_iload_n 0 dJ1_canEncode_9a6ad_0 rfl).ok _,
  List.forall_mem_cons.mpr ⟨(mp_if_lt 15 dJ1_canEncode_9a6ad_1 (by decide)).ok _,
  List.forall_mem_cons.mpr ⟨(mp_iload_n 0 dJ1_canEncode_9a6ad_4 rfl).ok _,
  List.forall_mem_cons.mpr ⟨(mp_sipush (255) dJ1_canEncode_9a6ad_5 (by decide)).ok _,
  List.forall_mem_cons.mpr ⟨(mp_icmp_gt 15 dJ1_canEncode_9a6ad_8 (by decide)).ok _,
  List.forall_mem_cons.mpr ⟨(mp_iconst (1) dJ1_canEncode_9a6ad_11 rfl).ok _,
  List.forall_mem_cons.mpr ⟨(mp_goto 16 dJ1_canEncode_9a6ad_12 (by decide)).ok _,
  List.forall_mem_cons.mpr ⟨(mp_iconst (0) dJ1_canEncode_9a6ad_15 rfl).ok _,
  List.forall_mem_cons.mpr ⟨mo_zret dJ1_canEncode_9a6ad_16,
  fun _ h => absurd h List.not_mem_nil⟩⟩⟩⟩⟩⟩⟩⟩⟩
set_option maxRecDepth 100000 in
theorem k_can (l : Launch) (G : am_G) (hG : am_ok G) (hX : am_xs G) : am_Met l G yJ1_canEncode_9a6ad wk_can (am_ro 0) sk_can :=
  am_met hG (am_lk ck_can) 1 (by decide +kernel) rfl (by decide) (am_lk_ok (okk_can l G hG hX)) (vk_can (fun pc => (am_lk_ok (okk_can l G hG hX) pc).1))
set_option maxRecDepth 100000 in
theorem hk_ixC : yJ1_indexOfChar_4cfef.cls = "java/lang/StringLatin1" ∧ yJ1_indexOfChar_4cfef.cls ≠ "java/lang/invoke/MethodHandle" ∧ yJ1_indexOfChar_4cfef.cls ≠ "java/lang/invoke/VarHandle" ∧ (parseMethodDescriptor yJ1_indexOfChar_4cfef.desc).map (fun d => d.parameters.length) = some 4 := by decide +kernel
abbrev wk_ixC : List Cond := Cond.code yJ1_indexOfChar_4cfef cJ1_indexOfChar_4cfef 6 (some .int) :: am_tb
set_option maxRecDepth 100000 in
theorem okk_ixC (l : Launch) (G : am_G) (hG : am_ok G) (hX : am_xs G) : ∀ q ∈ ck_ixC, am_Ok l G cJ1_indexOfChar_4cfef 6 yJ1_indexOfChar_4cfef.cls wk_ixC (am_ro 0) (some .int) q.2 q.1 :=
  List.forall_mem_cons.mpr ⟨(mp_iload_n 1 dJ1_indexOfChar_4cfef_0 rfl).ok _,
  List.forall_mem_cons.mpr ⟨(mp_i2b dJ1_indexOfChar_4cfef_1).ok _,
  List.forall_mem_cons.mpr ⟨(mp_istore 4 dJ1_indexOfChar_4cfef_2 (by decide)).ok _,
  List.forall_mem_cons.mpr ⟨(mp_iload_n 2 dJ1_indexOfChar_4cfef_4 rfl).ok _,
  List.forall_mem_cons.mpr ⟨(mp_istore 5 dJ1_indexOfChar_4cfef_5 (by decide)).ok _,
  List.forall_mem_cons.mpr ⟨(mp_iload 5 dJ1_indexOfChar_4cfef_7).ok _,
  List.forall_mem_cons.mpr ⟨(mp_iload_n 3 dJ1_indexOfChar_4cfef_9 rfl).ok _,
  List.forall_mem_cons.mpr ⟨(mp_icmp_ge 31 dJ1_indexOfChar_4cfef_10 (by decide)).ok _,
  List.forall_mem_cons.mpr ⟨(mp_aload_n 0 dJ1_indexOfChar_4cfef_13 rfl).ok _,
  List.forall_mem_cons.mpr ⟨(mp_iload 5 dJ1_indexOfChar_4cfef_14).ok _,
  List.forall_mem_cons.mpr ⟨(mp_bald hX dJ1_indexOfChar_4cfef_16).ok _,
  List.forall_mem_cons.mpr ⟨(mp_iload 4 dJ1_indexOfChar_4cfef_17).ok _,
  List.forall_mem_cons.mpr ⟨(mp_icmp_ne 25 dJ1_indexOfChar_4cfef_19 (by decide)).ok _,
  List.forall_mem_cons.mpr ⟨(mp_iload 5 dJ1_indexOfChar_4cfef_22).ok _,
  List.forall_mem_cons.mpr ⟨mo_iret dJ1_indexOfChar_4cfef_24,
  List.forall_mem_cons.mpr ⟨(mp_iinc 5 (1) dJ1_indexOfChar_4cfef_25 rfl (by decide)).ok _,
  List.forall_mem_cons.mpr ⟨(mp_goto 7 dJ1_indexOfChar_4cfef_28 (by decide)).ok _,
  List.forall_mem_cons.mpr ⟨(mp_iconst (-1) dJ1_indexOfChar_4cfef_31 rfl).ok _,
  List.forall_mem_cons.mpr ⟨mo_iret dJ1_indexOfChar_4cfef_32,
  fun _ h => absurd h List.not_mem_nil⟩⟩⟩⟩⟩⟩⟩⟩⟩⟩⟩⟩⟩⟩⟩⟩⟩⟩⟩
set_option maxRecDepth 100000 in
theorem k_ixC (l : Launch) (G : am_G) (hG : am_ok G) (hX : am_xs G) : am_Met l G yJ1_indexOfChar_4cfef wk_ixC (am_ro 0) sk_ixC :=
  am_met hG (am_lk ck_ixC) 4 (by decide +kernel) rfl (by decide) (am_lk_ok (okk_ixC l G hG hX)) (vk_ixC (fun pc => (am_lk_ok (okk_ixC l G hG hX) pc).1))
set_option maxRecDepth 100000 in
theorem hk_len : yJ0_length_8abf5.cls = "java/lang/String" ∧ yJ0_length_8abf5.cls ≠ "java/lang/invoke/MethodHandle" ∧ yJ0_length_8abf5.cls ≠ "java/lang/invoke/VarHandle" ∧ (parseMethodDescriptor yJ0_length_8abf5.desc).map (fun d => d.parameters.length) = some 0 := by decide +kernel
abbrev wk_len : List Cond := Cond.code yJ0_length_8abf5 cJ0_length_8abf5 1 (some .int) :: am_tb
set_option maxRecDepth 100000 in
theorem okk_len (l : Launch) (G : am_G) (hG : am_ok G) (hX : am_xs G) : ∀ q ∈ ck_len, am_Ok l G cJ0_length_8abf5 1 yJ0_length_8abf5.cls wk_len (am_ro 1) (some .int) q.2 q.1 :=
  List.forall_mem_cons.mpr ⟨(mp_aload_n 0 dJ0_length_8abf5_0 rfl).ok _,
  List.forall_mem_cons.mpr ⟨(mp_gval hX dJ0_length_8abf5_1 tw_1656).ok _,
  List.forall_mem_cons.mpr ⟨(mp_blen hX dJ0_length_8abf5_4).ok _,
  List.forall_mem_cons.mpr ⟨(mp_aload_n 0 dJ0_length_8abf5_5 rfl).ok _,
  List.forall_mem_cons.mpr ⟨(mq_csv 0 (k_cod l G hG hX) smk_cod hX dJ0_length_8abf5_6 tw_1329 tw_1326 tw_1327 tw_1328 tw_20 rfl rfl hk_cod (Nat.le_of_ble_eq_true rfl) (Nat.le_of_ble_eq_true rfl)).ok _,
  List.forall_mem_cons.mpr ⟨(mp_ishr dJ0_length_8abf5_9).ok _,
  List.forall_mem_cons.mpr ⟨mo_iret dJ0_length_8abf5_10,
  fun _ h => absurd h List.not_mem_nil⟩⟩⟩⟩⟩⟩⟩
set_option maxRecDepth 100000 in
theorem k_len (l : Launch) (G : am_G) (hG : am_ok G) (hX : am_xs G) : am_Met l G yJ0_length_8abf5 wk_len (am_ro 1) sk_len :=
  am_met hG (am_lk ck_len) 1 (by decide +kernel) rfl (by decide) (am_lk_ok (okk_len l G hG hX)) (vk_len (fun pc => (am_lk_ok (okk_len l G hG hX) pc).1))
set_option maxRecDepth 100000 in
theorem hk_ixL : yJ1_indexOf_4cfef.cls = "java/lang/StringLatin1" ∧ yJ1_indexOf_4cfef.cls ≠ "java/lang/invoke/MethodHandle" ∧ yJ1_indexOf_4cfef.cls ≠ "java/lang/invoke/VarHandle" ∧ (parseMethodDescriptor yJ1_indexOf_4cfef.desc).map (fun d => d.parameters.length) = some 4 := by decide +kernel
abbrev wk_ixL : List Cond := Cond.code yJ1_indexOf_4cfef cJ1_indexOf_4cfef 4 (some .int) :: am_tb
set_option maxRecDepth 100000 in
theorem okk_ixL (l : Launch) (G : am_G) (hG : am_ok G) (hX : am_xs G) : ∀ q ∈ ck_ixL, am_Ok l G cJ1_indexOf_4cfef 4 yJ1_indexOf_4cfef.cls wk_ixL (am_ro 1) (some .int) q.2 q.1 :=
  List.forall_mem_cons.mpr ⟨(mp_iload_n 1 dJ1_indexOf_4cfef_0 rfl).ok _,
  List.forall_mem_cons.mpr ⟨(mq_cs 1 (k_can l G hG hX) smk_can dJ1_indexOf_4cfef_1 tw_1335 tw_1333 tw_1334 tw_21 rfl rfl hk_can.2 (Nat.le_of_ble_eq_true rfl) (Nat.le_of_ble_eq_true rfl)).ok _,
  List.forall_mem_cons.mpr ⟨(mp_if_ne 9 dJ1_indexOf_4cfef_4 (by decide)).ok _,
  List.forall_mem_cons.mpr ⟨(mp_iconst (-1) dJ1_indexOf_4cfef_7 rfl).ok _,
  List.forall_mem_cons.mpr ⟨mo_iret dJ1_indexOf_4cfef_8,
  List.forall_mem_cons.mpr ⟨(mp_iload_n 2 dJ1_indexOf_4cfef_9 rfl).ok _,
  List.forall_mem_cons.mpr ⟨(mp_iconst (0) dJ1_indexOf_4cfef_10 rfl).ok _,
  List.forall_mem_cons.mpr ⟨(mq_mmax dJ1_indexOf_4cfef_11 tw_1336 tw_43 tw_3 tw_44 (Nat.le_of_ble_eq_true rfl) (Nat.le_of_ble_eq_true rfl)).ok _,
  List.forall_mem_cons.mpr ⟨(mp_istore_n 2 dJ1_indexOf_4cfef_14 rfl (by decide)).ok _,
  List.forall_mem_cons.mpr ⟨(mp_iload_n 3 dJ1_indexOf_4cfef_15 rfl).ok _,
  List.forall_mem_cons.mpr ⟨(mp_aload_n 0 dJ1_indexOf_4cfef_16 rfl).ok _,
  List.forall_mem_cons.mpr ⟨(mp_blen hX dJ1_indexOf_4cfef_17).ok _,
  List.forall_mem_cons.mpr ⟨(mq_mmin dJ1_indexOf_4cfef_18 tw_1337 tw_472 tw_3 tw_473 (Nat.le_of_ble_eq_true rfl) (Nat.le_of_ble_eq_true rfl)).ok _,
  List.forall_mem_cons.mpr ⟨(mp_istore_n 3 dJ1_indexOf_4cfef_21 rfl (by decide)).ok _,
  List.forall_mem_cons.mpr ⟨(mp_iload_n 2 dJ1_indexOf_4cfef_22 rfl).ok _,
  List.forall_mem_cons.mpr ⟨(mp_iload_n 3 dJ1_indexOf_4cfef_23 rfl).ok _,
  List.forall_mem_cons.mpr ⟨(mp_icmp_lt 29 dJ1_indexOf_4cfef_24 (by decide)).ok _,
  List.forall_mem_cons.mpr ⟨(mp_iconst (-1) dJ1_indexOf_4cfef_27 rfl).ok _,
  List.forall_mem_cons.mpr ⟨mo_iret dJ1_indexOf_4cfef_28,
  List.forall_mem_cons.mpr ⟨(mp_aload_n 0 dJ1_indexOf_4cfef_29 rfl).ok _,
  List.forall_mem_cons.mpr ⟨(mp_iload_n 1 dJ1_indexOf_4cfef_30 rfl).ok _,
  List.forall_mem_cons.mpr ⟨(mp_iload_n 2 dJ1_indexOf_4cfef_31 rfl).ok _,
  List.forall_mem_cons.mpr ⟨(mp_iload_n 3 dJ1_indexOf_4cfef_32 rfl).ok _,
  List.forall_mem_cons.mpr ⟨(mq_cs 4 (k_ixC l G hG hX) smk_ixC dJ1_indexOf_4cfef_33 tw_1340 tw_1338 tw_1339 tw_21 rfl rfl hk_ixC.2 (Nat.le_of_ble_eq_true rfl) (Nat.le_of_ble_eq_true rfl)).ok _,
  List.forall_mem_cons.mpr ⟨mo_iret dJ1_indexOf_4cfef_36,
  fun _ h => absurd h List.not_mem_nil⟩⟩⟩⟩⟩⟩⟩⟩⟩⟩⟩⟩⟩⟩⟩⟩⟩⟩⟩⟩⟩⟩⟩⟩⟩
set_option maxRecDepth 100000 in
theorem k_ixL (l : Launch) (G : am_G) (hG : am_ok G) (hX : am_xs G) : am_Met l G yJ1_indexOf_4cfef wk_ixL (am_ro 1) sk_ixL :=
  am_met hG (am_lk ck_ixL) 4 (by decide +kernel) rfl (by decide) (am_lk_ok (okk_ixL l G hG hX)) (vk_ixL (fun pc => (am_lk_ok (okk_ixL l G hG hX) pc).1))
set_option maxRecDepth 100000 in
theorem hk_ix2 : yJ0_indexOf_7cf53.cls = "java/lang/String" ∧ yJ0_indexOf_7cf53.cls ≠ "java/lang/invoke/MethodHandle" ∧ yJ0_indexOf_7cf53.cls ≠ "java/lang/invoke/VarHandle" ∧ (parseMethodDescriptor yJ0_indexOf_7cf53.desc).map (fun d => d.parameters.length) = some 2 := by decide +kernel
abbrev wk_ix2 : List Cond := Cond.code yJ0_indexOf_7cf53 cJ0_indexOf_7cf53 3 (some .int) :: am_tb
set_option maxRecDepth 100000 in
theorem okk_ix2 (l : Launch) (G : am_G) (hG : am_ok G) (hX : am_xs G) : ∀ q ∈ ck_ix2, am_Ok l G cJ0_indexOf_7cf53 3 yJ0_indexOf_7cf53.cls wk_ix2 (am_ro 2) (some .int) q.2 q.1 :=
  List.forall_mem_cons.mpr ⟨(mp_aload_n 0 dJ0_indexOf_7cf53_0 rfl).ok _,
  List.forall_mem_cons.mpr ⟨(mq_csv 0 (k_isL l G hG hX) smk_isL hX dJ0_indexOf_7cf53_1 tw_1319 tw_1316 tw_1317 tw_1318 tw_20 rfl rfl hk_isL (Nat.le_of_ble_eq_true rfl) (Nat.le_of_ble_eq_true rfl)).ok _,
  List.forall_mem_cons.mpr ⟨(mp_if_eq 23 dJ0_indexOf_7cf53_4 (by decide)).ok _,
  List.forall_mem_cons.mpr ⟨(mp_aload_n 0 dJ0_indexOf_7cf53_7 rfl).ok _,
  List.forall_mem_cons.mpr ⟨(mp_gval hX dJ0_indexOf_7cf53_8 tw_1656).ok _,
  List.forall_mem_cons.mpr ⟨(mp_iload_n 1 dJ0_indexOf_7cf53_11 rfl).ok _,
  List.forall_mem_cons.mpr ⟨(mp_iload_n 2 dJ0_indexOf_7cf53_12 rfl).ok _,
  List.forall_mem_cons.mpr ⟨(mp_aload_n 0 dJ0_indexOf_7cf53_13 rfl).ok _,
  List.forall_mem_cons.mpr ⟨(mq_csv 0 (k_len l G hG hX) smk_len hX dJ0_indexOf_7cf53_14 tw_1325 tw_1322 tw_1323 tw_1324 tw_20 rfl rfl hk_len (Nat.le_of_ble_eq_true rfl) (Nat.le_of_ble_eq_true rfl)).ok _,
  List.forall_mem_cons.mpr ⟨(mq_cs 4 (k_ixL l G hG hX) smk_ixL dJ0_indexOf_7cf53_17 tw_1332 tw_1330 tw_1331 tw_21 rfl rfl hk_ixL.2 (Nat.le_of_ble_eq_true rfl) (Nat.le_of_ble_eq_true rfl)).ok _,
  List.forall_mem_cons.mpr ⟨(mp_goto 36 dJ0_indexOf_7cf53_20 (by decide)).ok _,
  List.forall_mem_cons.mpr ⟨mo_iret dJ0_indexOf_7cf53_36,
  fun _ h => absurd h List.not_mem_nil⟩⟩⟩⟩⟩⟩⟩⟩⟩⟩⟩⟩
set_option maxRecDepth 100000 in
theorem k_ix2 (l : Launch) (G : am_G) (hG : am_ok G) (hX : am_xs G) : am_Met l G yJ0_indexOf_7cf53 wk_ix2 (am_ro 2) sk_ix2 :=
  am_met hG (am_lk ck_ix2) 3 (by decide +kernel) rfl (by decide) (am_lk_ok (okk_ix2 l G hG hX)) (vk_ix2 (fun pc => (am_lk_ok (okk_ix2 l G hG hX) pc).1))
set_option maxRecDepth 100000 in
theorem hk_ix1 : yJ0_indexOf_0f7a4.cls = "java/lang/String" ∧ yJ0_indexOf_0f7a4.cls ≠ "java/lang/invoke/MethodHandle" ∧ yJ0_indexOf_0f7a4.cls ≠ "java/lang/invoke/VarHandle" ∧ (parseMethodDescriptor yJ0_indexOf_0f7a4.desc).map (fun d => d.parameters.length) = some 1 := by decide +kernel
abbrev wk_ix1 : List Cond := Cond.code yJ0_indexOf_0f7a4 cJ0_indexOf_0f7a4 2 (some .int) :: am_tb
set_option maxRecDepth 100000 in
theorem okk_ix1 (l : Launch) (G : am_G) (hG : am_ok G) (hX : am_xs G) : ∀ q ∈ ck_ix1, am_Ok l G cJ0_indexOf_0f7a4 2 yJ0_indexOf_0f7a4.cls wk_ix1 (am_ro 3) (some .int) q.2 q.1 :=
  List.forall_mem_cons.mpr ⟨(mp_aload_n 0 dJ0_indexOf_0f7a4_0 rfl).ok _,
  List.forall_mem_cons.mpr ⟨(mp_iload_n 1 dJ0_indexOf_0f7a4_1 rfl).ok _,
  List.forall_mem_cons.mpr ⟨(mp_iconst (0) dJ0_indexOf_0f7a4_2 rfl).ok _,
  List.forall_mem_cons.mpr ⟨(mq_csv 2 (k_ix2 l G hG hX) smk_ix2 hX dJ0_indexOf_0f7a4_3 tw_1315 tw_1312 tw_1313 tw_1314 tw_20 rfl rfl hk_ix2 (Nat.le_of_ble_eq_true rfl) (Nat.le_of_ble_eq_true rfl)).ok _,
  List.forall_mem_cons.mpr ⟨mo_iret dJ0_indexOf_0f7a4_6,
  fun _ h => absurd h List.not_mem_nil⟩⟩⟩⟩⟩
set_option maxRecDepth 100000 in
theorem k_ix1 (l : Launch) (G : am_G) (hG : am_ok G) (hX : am_xs G) : am_Met l G yJ0_indexOf_0f7a4 wk_ix1 (am_ro 3) sk_ix1 :=
  am_met hG (am_lk ck_ix1) 2 (by decide +kernel) rfl (by decide) (am_lk_ok (okk_ix1 l G hG hX)) (vk_ix1 (fun pc => (am_lk_ok (okk_ix1 l G hG hX) pc).1))
set_option maxRecDepth 100000 in
theorem hk_isAny : yX12_isAny.cls = "CoroutineSchedulerModel" ∧ yX12_isAny.cls ≠ "java/lang/invoke/MethodHandle" ∧ yX12_isAny.cls ≠ "java/lang/invoke/VarHandle" ∧ (parseMethodDescriptor yX12_isAny.desc).map (fun d => d.parameters.length) = some 2 := by decide +kernel
abbrev wk_isAny : List Cond := Cond.code yX12_isAny cX12_isAny 2 (some .boolean) :: am_tb
set_option maxRecDepth 100000 in
theorem okk_isAny (l : Launch) (G : am_G) (hG : am_ok G) (hX : am_xs G) : ∀ q ∈ ck_isAny, am_Ok l G cX12_isAny 2 yX12_isAny.cls wk_isAny (am_ro 8) (some .boolean) q.2 q.1 :=
  List.forall_mem_cons.mpr ⟨(mp_iload_n 0 dX12_isAny_0 rfl).ok _,
  List.forall_mem_cons.mpr ⟨(mp_if_lt 16 dX12_isAny_1 (by decide)).ok _,
  List.forall_mem_cons.mpr ⟨(mp_aload_n 1 dX12_isAny_4 rfl).ok _,
  List.forall_mem_cons.mpr ⟨(mp_iload_n 0 dX12_isAny_5 rfl).ok _,
  List.forall_mem_cons.mpr ⟨(mq_csv 1 (k_ix1 l G hG hX) smk_ix1 hX dX12_isAny_6 tw_1311 tw_1308 tw_1309 tw_1310 tw_20 rfl rfl hk_ix1 (Nat.le_of_ble_eq_true rfl) (Nat.le_of_ble_eq_true rfl)).ok _,
  List.forall_mem_cons.mpr ⟨(mp_if_lt 16 dX12_isAny_9 (by decide)).ok _,
  List.forall_mem_cons.mpr ⟨(mp_iconst (1) dX12_isAny_12 rfl).ok _,
  List.forall_mem_cons.mpr ⟨(mp_goto 17 dX12_isAny_13 (by decide)).ok _,
  List.forall_mem_cons.mpr ⟨(mp_iconst (0) dX12_isAny_16 rfl).ok _,
  List.forall_mem_cons.mpr ⟨mo_zret dX12_isAny_17,
  fun _ h => absurd h List.not_mem_nil⟩⟩⟩⟩⟩⟩⟩⟩⟩⟩
set_option maxRecDepth 100000 in
theorem k_isAny (l : Launch) (G : am_G) (hG : am_ok G) (hX : am_xs G) : am_Met l G yX12_isAny wk_isAny (am_ro 8) sk_isAny :=
  am_met hG (am_lk ck_isAny) 2 (by decide +kernel) rfl (by decide) (am_lk_ok (okk_isAny l G hG hX)) (vk_isAny (fun pc => (am_lk_ok (okk_isAny l G hG hX) pc).1))
theorem hd_X12_isAny : yX12_isAny.cls ≠ "java/lang/invoke/MethodHandle" ∧ yX12_isAny.cls ≠ "java/lang/invoke/VarHandle" ∧ (parseMethodDescriptor yX12_isAny.desc).map (fun d => d.parameters.length) = some 2 := hk_isAny.2
abbrev wa_X12_isAny : List Cond := Cond.code yX12_isAny cX12_isAny 2 (some .boolean) :: am_tb
theorem m_X12_isAny (l : Launch) (G : am_G) (hG : am_ok G) (hX : am_xs G) : am_Met l G yX12_isAny wa_X12_isAny (am_ro 8) sp_X12_isAny := k_isAny l G hG hX
