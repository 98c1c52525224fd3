/-! am: the plain instructions -/
section AM2
variable {l : Launch} {G : am_G} {cc : ByteArray} {nL : Nat} {own : String} {Ts : List Cond} {R : Room} {pc : Nat}
theorem am_c1 {v : Value} {st : List Value} (h : v.category = 1) (c2 : ∀ w ∈ st, w.category = 1) : ∀ w ∈ v :: st, w.category = 1 := fun w hw => (List.mem_cons.mp hw).elim (fun e => e ▸ h) (c2 w)
theorem am_ct {v : Value} {st : List Value} (c2 : ∀ w ∈ v :: st, w.category = 1) : ∀ w ∈ st, w.category = 1 := fun w hw => c2 w (List.mem_cons_of_mem _ hw)
theorem am_ch {v : Value} {st : List Value} (c2 : ∀ w ∈ v :: st, w.category = 1) : v.category = 1 := c2 v List.mem_cons_self
def mt_ic (v : Int32) (nx : Nat) : am_T := fun ls st σ K _ => K nx ls (.int v :: st) σ
theorem mt_ic_mono (v : Int32) (nx : Nat) : am_mono (mt_ic v nx) := fun _ _ _ _ _ _ _ _ hle hK _ h => hK _ _ _ _ _ hle h
theorem mp_iconst {n : Int} (v : Int32) (d : decode cc pc = .ok (.iconst n, 1)) (hv : Int32.ofInt n = v) : am_P l G cc nL own Ts R (mt_ic v (pc + 1)) pc :=
  ⟨mt_ic_mono _ _, fun p e s m args below meth c A cells slots Q hF hK hG hA hc ls st σ K R0 ht hk c1 c2 H locs lsA hH hS hl => lv_iconst hF.1 hF.2.1 d hv (hk _ _ _ _ ht c1 (am_c1 rfl c2) H locs lsA hH hS hl)⟩
theorem mp_bipush {n : Int} (v : Int32) (d : decode cc pc = .ok (.bipush n, 2)) (hv : (Int8.ofInt n).toInt32 = v) : am_P l G cc nL own Ts R (mt_ic v (pc + 2)) pc :=
  ⟨mt_ic_mono _ _, fun p e s m args below meth c A cells slots Q hF hK hG hA hc ls st σ K R0 ht hk c1 c2 H locs lsA hH hS hl => lv_bipush hF.1 hF.2.1 d hv (hk _ _ _ _ ht c1 (am_c1 rfl c2) H locs lsA hH hS hl)⟩
theorem mp_sipush {n : Int} (v : Int32) (d : decode cc pc = .ok (.sipush n, 3)) (hv : (Int16.ofInt n).toInt32 = v) : am_P l G cc nL own Ts R (mt_ic v (pc + 3)) pc :=
  ⟨mt_ic_mono _ _, fun p e s m args below meth c A cells slots Q hF hK hG hA hc ls st σ K R0 ht hk c1 c2 H locs lsA hH hS hl => lv_sipush hF.1 hF.2.1 d hv (hk _ _ _ _ ht c1 (am_c1 rfl c2) H locs lsA hH hS hl)⟩
def mt_ild (i nx : Nat) : am_T := fun ls st σ K _ => match am_lv ls i with
  | some (.int x) => K nx ls (.int x :: st) σ
  | _ => False
theorem mt_ild_mono (i nx : Nat) : am_mono (mt_ild i nx) := by
  intro ls ls' st σ K K' R R' hle hK hR h
  unfold mt_ild at h ⊢
  split at h
  · rename_i x hq
    rw [hle _ _ hq]
    exact hK _ _ _ _ _ hle h
  · exact h.elim
def mt_ald (i nx : Nat) : am_T := fun ls st σ K _ => match am_lv ls i with
  | some (.ref x) => K nx ls (.ref x :: st) σ
  | _ => False
theorem mt_ald_mono (i nx : Nat) : am_mono (mt_ald i nx) := by
  intro ls ls' st σ K K' R R' hle hK hR h
  unfold mt_ald at h ⊢
  split at h
  · rename_i x hq
    rw [hle _ _ hq]
    exact hK _ _ _ _ _ hle h
  · exact h.elim
theorem mp_iload_n {k : Fin 4} (i : Nat) (d : decode cc pc = .ok (.iload_n k, 1)) (hi : (k : Nat) = i) : am_P l G cc nL own Ts R (mt_ild i (pc + 1)) pc := by
  refine ⟨mt_ild_mono _ _, ?_⟩
  intro p e s m args below meth c A cells slots Q hF hK hG hA hc ls st σ K R0 ht hk
  unfold mt_ild at ht
  split at ht
  · rename_i x hq
    intro c1 c2 H locs lsA hH hS hl
    exact lv_iload_n hF.1 hF.2.1 d hi (am_lv_has hl hq) (hk _ _ _ _ ht c1 (am_c1 rfl c2) H locs lsA hH hS hl)
  · exact ht.elim
theorem mp_iload (i : Nat) (d : decode cc pc = .ok (.iload i, 2)) : am_P l G cc nL own Ts R (mt_ild i (pc + 2)) pc := by
  refine ⟨mt_ild_mono _ _, ?_⟩
  intro p e s m args below meth c A cells slots Q hF hK hG hA hc ls st σ K R0 ht hk
  unfold mt_ild at ht
  split at ht
  · rename_i x hq
    intro c1 c2 H locs lsA hH hS hl
    exact lv_iload hF.1 hF.2.1 d (am_lv_has hl hq) (hk _ _ _ _ ht c1 (am_c1 rfl c2) H locs lsA hH hS hl)
  · exact ht.elim
theorem mp_aload_n {k : Fin 4} (i : Nat) (d : decode cc pc = .ok (.aload_n k, 1)) (hi : (k : Nat) = i) : am_P l G cc nL own Ts R (mt_ald i (pc + 1)) pc := by
  refine ⟨mt_ald_mono _ _, ?_⟩
  intro p e s m args below meth c A cells slots Q hF hK hG hA hc ls st σ K R0 ht hk
  unfold mt_ald at ht
  split at ht
  · rename_i x hq
    intro c1 c2 H locs lsA hH hS hl
    exact lv_aload_n hF.1 hF.2.1 d hi (am_lv_has hl hq) (hk _ _ _ _ ht c1 (am_c1 rfl c2) H locs lsA hH hS hl)
  · exact ht.elim
theorem mp_aload (i : Nat) (d : decode cc pc = .ok (.aload i, 2)) : am_P l G cc nL own Ts R (mt_ald i (pc + 2)) pc := by
  refine ⟨mt_ald_mono _ _, ?_⟩
  intro p e s m args below meth c A cells slots Q hF hK hG hA hc ls st σ K R0 ht hk
  unfold mt_ald at ht
  split at ht
  · rename_i x hq
    intro c1 c2 H locs lsA hH hS hl
    exact lv_aload hF.1 hF.2.1 d (am_lv_has hl hq) (hk _ _ _ _ ht c1 (am_c1 rfl c2) H locs lsA hH hS hl)
  · exact ht.elim
def mt_sti (i nx : Nat) : am_T := fun ls st σ K _ => match st with
  | .int x :: r => K nx ((i, .int x) :: am_rm ls i) r σ
  | _ => False
theorem mt_sti_mono (i nx : Nat) : am_mono (mt_sti i nx) := by
  intro ls ls' st σ K K' R R' hle hK hR h
  unfold mt_sti at h ⊢
  split at h
  · exact hK _ _ _ _ _ (am_le_set _ _ hle) h
  · exact h.elim
theorem mp_istore_n {k : Fin 4} (i : Nat) (d : decode cc pc = .ok (.istore_n k, 1)) (hi : (k : Nat) = i) (hn : i < nL) : am_P l G cc nL own Ts R (mt_sti i (pc + 1)) pc := by
  refine ⟨mt_sti_mono _ _, ?_⟩
  intro p e s m args below meth c A cells slots Q hF hK hG hA hc ls st σ K R0 ht hk
  unfold mt_sti at ht
  split at ht
  · rename_i x r
    intro c1 c2 H locs lsA hH hS hl
    exact lv_istore_n hF.1 hF.2.1 d hi hl hn rfl (fun ls' hl' => hk _ _ _ _ ht (am_rm_cat c1 rfl) (am_ct c2) H locs ls' hH hS (am_lv_put (w := .int x) c1 hl'))
  · exact ht.elim
theorem mp_istore (i : Nat) (d : decode cc pc = .ok (.istore i, 2)) (hn : i < nL) : am_P l G cc nL own Ts R (mt_sti i (pc + 2)) pc := by
  refine ⟨mt_sti_mono _ _, ?_⟩
  intro p e s m args below meth c A cells slots Q hF hK hG hA hc ls st σ K R0 ht hk
  unfold mt_sti at ht
  split at ht
  · rename_i x r
    intro c1 c2 H locs lsA hH hS hl
    exact lv_istore hF.1 hF.2.1 d hl hn rfl (fun ls' hl' => hk _ _ _ _ ht (am_rm_cat c1 rfl) (am_ct c2) H locs ls' hH hS (am_lv_put (w := .int x) c1 hl'))
  · exact ht.elim
def mt_sta (i nx : Nat) : am_T := fun ls st σ K _ => match st with
  | .ref x :: r => K nx ((i, .ref x) :: am_rm ls i) r σ
  | _ => False
theorem mt_sta_mono (i nx : Nat) : am_mono (mt_sta i nx) := by
  intro ls ls' st σ K K' R R' hle hK hR h
  unfold mt_sta at h ⊢
  split at h
  · exact hK _ _ _ _ _ (am_le_set _ _ hle) h
  · exact h.elim
theorem mp_astore_n {k : Fin 4} (i : Nat) (d : decode cc pc = .ok (.astore_n k, 1)) (hi : (k : Nat) = i) (hn : i < nL) : am_P l G cc nL own Ts R (mt_sta i (pc + 1)) pc := by
  refine ⟨mt_sta_mono _ _, ?_⟩
  intro p e s m args below meth c A cells slots Q hF hK hG hA hc ls st σ K R0 ht hk
  unfold mt_sta at ht
  split at ht
  · rename_i x r
    intro c1 c2 H locs lsA hH hS hl
    exact lv_astore_n hF.1 hF.2.1 d hi hl hn rfl (fun ls' hl' => hk _ _ _ _ ht (am_rm_cat c1 rfl) (am_ct c2) H locs ls' hH hS (am_lv_put (w := .ref x) c1 hl'))
  · exact ht.elim
theorem mp_astore (i : Nat) (d : decode cc pc = .ok (.astore i, 2)) (hn : i < nL) : am_P l G cc nL own Ts R (mt_sta i (pc + 2)) pc := by
  refine ⟨mt_sta_mono _ _, ?_⟩
  intro p e s m args below meth c A cells slots Q hF hK hG hA hc ls st σ K R0 ht hk
  unfold mt_sta at ht
  split at ht
  · rename_i x r
    intro c1 c2 H locs lsA hH hS hl
    exact lv_astore hF.1 hF.2.1 d hl hn rfl (fun ls' hl' => hk _ _ _ _ ht (am_rm_cat c1 rfl) (am_ct c2) H locs ls' hH hS (am_lv_put (w := .ref x) c1 hl'))
  · exact ht.elim
def mt_inc (i : Nat) (n : Int32) (nx : Nat) : am_T := fun ls st σ K _ => match am_lv ls i with
  | some (.int x) => K nx ((i, .int (x + n)) :: am_rm ls i) st σ
  | _ => False
theorem mt_inc_mono (i : Nat) (n : Int32) (nx : Nat) : am_mono (mt_inc i n nx) := by
  intro ls ls' st σ K K' R R' hle hK hR h
  unfold mt_inc at h ⊢
  split at h
  · rename_i x hq
    rw [hle _ _ hq]
    exact hK _ _ _ _ _ (am_le_set _ _ hle) h
  · exact h.elim
theorem mp_iinc (i : Nat) {n : Int} (v : Int32) (d : decode cc pc = .ok (.iinc i n, 3)) (hv : Int32.ofInt n = v) (hn : i < nL) : am_P l G cc nL own Ts R (mt_inc i v (pc + 3)) pc := by
  refine ⟨mt_inc_mono _ _ _, ?_⟩
  intro p e s m args below meth c A cells slots Q hF hK hG hA hc ls st σ K R0 ht hk
  unfold mt_inc at ht
  split at ht
  · rename_i x hq
    intro c1 c2 H locs lsA hH hS hl
    obtain ⟨k, hk2⟩ := List.getElem?_of_mem (List.mem_map.mpr ⟨(i, Value.int x), am_lv_mem hq, rfl⟩ : (i, am_rn G (.int x)) ∈ am_rl G ls)
    subst hv
    exact lv_iinc hF.1 hF.2.1 d hl (k := k) hk2 rfl hn rfl (fun ls' hl' => hk _ _ _ _ ht (am_rm_cat c1 rfl) c2 H locs ls' hH hS (am_lv_put (w := .int (x + Int32.ofInt n)) c1 hl'))
  · exact ht.elim
def mt_iadd (nx : Nat) : am_T := fun ls st σ K _ => match st with
  | .int b :: .int a :: r => K nx ls (.int (a + b) :: r) σ
  | _ => False
theorem mp_iadd (d : decode cc pc = .ok (.iadd, 1)) : am_P l G cc nL own Ts R (mt_iadd (pc + 1)) pc := by
  refine ⟨?_, ?_⟩
  · intro ls ls' st σ K K' R R' hle hK hR h
    unfold mt_iadd at h ⊢
    split at h
    · exact hK _ _ _ _ _ hle h
    · exact h.elim
  intro p e s m args below meth c A cells slots Q hF hK hG hA hc ls st σ K R0 ht hk
  unfold mt_iadd at ht
  split at ht
  · intro c1 c2 H locs lsA hH hS hl
    exact lv_iadd hF.1 hF.2.1 d (hk _ _ _ _ ht c1 (am_c1 rfl (am_ct (am_ct c2))) H locs lsA hH hS hl)
  · exact ht.elim
def mt_isub (nx : Nat) : am_T := fun ls st σ K _ => match st with
  | .int b :: .int a :: r => K nx ls (.int (a - b) :: r) σ
  | _ => False
theorem mp_isub (d : decode cc pc = .ok (.isub, 1)) : am_P l G cc nL own Ts R (mt_isub (pc + 1)) pc := by
  refine ⟨?_, ?_⟩
  · intro ls ls' st σ K K' R R' hle hK hR h
    unfold mt_isub at h ⊢
    split at h
    · exact hK _ _ _ _ _ hle h
    · exact h.elim
  intro p e s m args below meth c A cells slots Q hF hK hG hA hc ls st σ K R0 ht hk
  unfold mt_isub at ht
  split at ht
  · intro c1 c2 H locs lsA hH hS hl
    exact lv_isub hF.1 hF.2.1 d (hk _ _ _ _ ht c1 (am_c1 rfl (am_ct (am_ct c2))) H locs lsA hH hS hl)
  · exact ht.elim
def mt_imul (nx : Nat) : am_T := fun ls st σ K _ => match st with
  | .int b :: .int a :: r => K nx ls (.int (a * b) :: r) σ
  | _ => False
theorem mp_imul (d : decode cc pc = .ok (.imul, 1)) : am_P l G cc nL own Ts R (mt_imul (pc + 1)) pc := by
  refine ⟨?_, ?_⟩
  · intro ls ls' st σ K K' R R' hle hK hR h
    unfold mt_imul at h ⊢
    split at h
    · exact hK _ _ _ _ _ hle h
    · exact h.elim
  intro p e s m args below meth c A cells slots Q hF hK hG hA hc ls st σ K R0 ht hk
  unfold mt_imul at ht
  split at ht
  · intro c1 c2 H locs lsA hH hS hl
    exact lv_imul hF.1 hF.2.1 d (hk _ _ _ _ ht c1 (am_c1 rfl (am_ct (am_ct c2))) H locs lsA hH hS hl)
  · exact ht.elim
def mt_iand (nx : Nat) : am_T := fun ls st σ K _ => match st with
  | .int b :: .int a :: r => K nx ls (.int (a &&& b) :: r) σ
  | _ => False
theorem mp_iand (d : decode cc pc = .ok (.iand, 1)) : am_P l G cc nL own Ts R (mt_iand (pc + 1)) pc := by
  refine ⟨?_, ?_⟩
  · intro ls ls' st σ K K' R R' hle hK hR h
    unfold mt_iand at h ⊢
    split at h
    · exact hK _ _ _ _ _ hle h
    · exact h.elim
  intro p e s m args below meth c A cells slots Q hF hK hG hA hc ls st σ K R0 ht hk
  unfold mt_iand at ht
  split at ht
  · intro c1 c2 H locs lsA hH hS hl
    exact lv_iand hF.1 hF.2.1 d (hk _ _ _ _ ht c1 (am_c1 rfl (am_ct (am_ct c2))) H locs lsA hH hS hl)
  · exact ht.elim
def mt_idiv (nx : Nat) : am_T := fun ls st σ K _ => match st with
  | .int b :: .int a :: r => if b = 0 then False else K nx ls (.int (a / b) :: r) σ
  | _ => False
theorem mp_idiv (d : decode cc pc = .ok (.idiv, 1)) : am_P l G cc nL own Ts R (mt_idiv (pc + 1)) pc := by
  refine ⟨?_, ?_⟩
  · intro ls ls' st σ K K' R R' hle hK hR h
    unfold mt_idiv at h ⊢
    split at h
    · rename_i b a r
      show if b = 0 then False else _
      by_cases hb : b = 0
      · rw [if_pos hb] at h; exact h.elim
      · rw [if_neg hb] at h ⊢; exact hK _ _ _ _ _ hle h
    · exact h.elim
  intro p e s m args below meth c A cells slots Q hF hK hG hA hc ls st σ K R0 ht hk
  unfold mt_idiv at ht
  split at ht
  · rename_i b a r
    by_cases hb : b = 0
    · rw [if_pos hb] at ht; exact ht.elim
    rw [if_neg hb] at ht
    intro c1 c2 H locs lsA hH hS hl
    exact lv_idiv hF.1 hF.2.1 d hb (hk _ _ _ _ ht c1 (am_c1 rfl (am_ct (am_ct c2))) H locs lsA hH hS hl)
  · exact ht.elim
def mt_irem (nx : Nat) : am_T := fun ls st σ K _ => match st with
  | .int b :: .int a :: r => if b = 0 then False else K nx ls (.int (a - a / b * b) :: r) σ
  | _ => False
theorem mp_irem (d : decode cc pc = .ok (.irem, 1)) : am_P l G cc nL own Ts R (mt_irem (pc + 1)) pc := by
  refine ⟨?_, ?_⟩
  · intro ls ls' st σ K K' R R' hle hK hR h
    unfold mt_irem at h ⊢
    split at h
    · rename_i b a r
      show if b = 0 then False else _
      by_cases hb : b = 0
      · rw [if_pos hb] at h; exact h.elim
      · rw [if_neg hb] at h ⊢; exact hK _ _ _ _ _ hle h
    · exact h.elim
  intro p e s m args below meth c A cells slots Q hF hK hG hA hc ls st σ K R0 ht hk
  unfold mt_irem at ht
  split at ht
  · rename_i b a r
    by_cases hb : b = 0
    · rw [if_pos hb] at ht; exact ht.elim
    rw [if_neg hb] at ht
    intro c1 c2 H locs lsA hH hS hl
    exact lv_irem hF.1 hF.2.1 d hb (hk _ _ _ _ ht c1 (am_c1 rfl (am_ct (am_ct c2))) H locs lsA hH hS hl)
  · exact ht.elim
def mt_iushr (nx : Nat) : am_T := fun ls st σ K _ => match st with
  | .int b :: .int a :: r => K nx ls (.int (a.toUInt32 >>> (b.toUInt32 &&& Int32.toUInt32 31)).toInt32 :: r) σ
  | _ => False
theorem mp_iushr (d : decode cc pc = .ok (.iushr, 1)) : am_P l G cc nL own Ts R (mt_iushr (pc + 1)) pc := by
  refine ⟨?_, ?_⟩
  · intro ls ls' st σ K K' R R' hle hK hR h
    unfold mt_iushr at h ⊢
    split at h
    · exact hK _ _ _ _ _ hle h
    · exact h.elim
  intro p e s m args below meth c A cells slots Q hF hK hG hA hc ls st σ K R0 ht hk
  unfold mt_iushr at ht
  split at ht
  · intro c1 c2 H locs lsA hH hS hl
    exact lv_iushr hF.1 hF.2.1 d rfl (hk _ _ _ _ ht c1 (am_c1 rfl (am_ct (am_ct c2))) H locs lsA hH hS hl)
  · exact ht.elim
def mt_ineg (nx : Nat) : am_T := fun ls st σ K _ => match st with
  | .int a :: r => K nx ls (.int (-a) :: r) σ
  | _ => False
theorem mp_ineg (d : decode cc pc = .ok (.ineg, 1)) : am_P l G cc nL own Ts R (mt_ineg (pc + 1)) pc := by
  refine ⟨?_, ?_⟩
  · intro ls ls' st σ K K' R R' hle hK hR h
    unfold mt_ineg at h ⊢
    split at h
    · exact hK _ _ _ _ _ hle h
    · exact h.elim
  intro p e s m args below meth c A cells slots Q hF hK hG hA hc ls st σ K R0 ht hk
  unfold mt_ineg at ht
  split at ht
  · intro c1 c2 H locs lsA hH hS hl
    exact lv_ineg hF.1 hF.2.1 d (hk _ _ _ _ ht c1 (am_c1 rfl (am_ct c2)) H locs lsA hH hS hl)
  · exact ht.elim
def mt_dup (nx : Nat) : am_T := fun ls st σ K _ => match st with
  | va :: r => K nx ls (va :: va :: r) σ
  | _ => False
theorem mp_dup (d : decode cc pc = .ok (.dup, 1)) : am_P l G cc nL own Ts R (mt_dup (pc + 1)) pc := by
  refine ⟨?_, ?_⟩
  · intro ls ls' st σ K K' R R' hle hK hR h
    unfold mt_dup at h ⊢
    split at h
    · exact hK _ _ _ _ _ hle h
    · exact h.elim
  intro p e s m args below meth c A cells slots Q hF hK hG hA hc ls st σ K R0 ht hk
  unfold mt_dup at ht
  split at ht
  · intro c1 c2 H locs lsA hH hS hl
    exact lv_dup hF.1 hF.2.1 d (by rw [am_rn_cat]; exact am_ch c2) (hk _ _ _ _ ht c1 (am_c1 (am_ch c2) c2) H locs lsA hH hS hl)
  · exact ht.elim
def mt_pop (nx : Nat) : am_T := fun ls st σ K _ => match st with
  | va :: r => K nx ls (r) σ
  | _ => False
theorem mp_pop (d : decode cc pc = .ok (.pop, 1)) : am_P l G cc nL own Ts R (mt_pop (pc + 1)) pc := by
  refine ⟨?_, ?_⟩
  · intro ls ls' st σ K K' R R' hle hK hR h
    unfold mt_pop at h ⊢
    split at h
    · exact hK _ _ _ _ _ hle h
    · exact h.elim
  intro p e s m args below meth c A cells slots Q hF hK hG hA hc ls st σ K R0 ht hk
  unfold mt_pop at ht
  split at ht
  · intro c1 c2 H locs lsA hH hS hl
    exact lv_pop hF.1 hF.2.1 d (by rw [am_rn_cat]; exact am_ch c2) (hk _ _ _ _ ht c1 (am_ct c2) H locs lsA hH hS hl)
  · exact ht.elim
def mt_dup_x1 (nx : Nat) : am_T := fun ls st σ K _ => match st with
  | va :: vb :: r => K nx ls (va :: vb :: va :: r) σ
  | _ => False
theorem mp_dup_x1 (d : decode cc pc = .ok (.dup_x1, 1)) : am_P l G cc nL own Ts R (mt_dup_x1 (pc + 1)) pc := by
  refine ⟨?_, ?_⟩
  · intro ls ls' st σ K K' R R' hle hK hR h
    unfold mt_dup_x1 at h ⊢
    split at h
    · exact hK _ _ _ _ _ hle h
    · exact h.elim
  intro p e s m args below meth c A cells slots Q hF hK hG hA hc ls st σ K R0 ht hk
  unfold mt_dup_x1 at ht
  split at ht
  · intro c1 c2 H locs lsA hH hS hl
    exact lv_dup_x1 hF.1 hF.2.1 d (by rw [am_rn_cat]; exact am_ch c2) (by rw [am_rn_cat]; exact am_ch (am_ct c2)) (hk _ _ _ _ ht c1 (am_c1 (am_ch c2) (am_c1 (am_ch (am_ct c2)) (am_c1 (am_ch c2) (am_ct (am_ct c2))))) H locs lsA hH hS hl)
  · exact ht.elim
def mt_dup_x2 (nx : Nat) : am_T := fun ls st σ K _ => match st with
  | va :: vb :: vd :: r => K nx ls (va :: vb :: vd :: va :: r) σ
  | _ => False
theorem mp_dup_x2 (d : decode cc pc = .ok (.dup_x2, 1)) : am_P l G cc nL own Ts R (mt_dup_x2 (pc + 1)) pc := by
  refine ⟨?_, ?_⟩
  · intro ls ls' st σ K K' R R' hle hK hR h
    unfold mt_dup_x2 at h ⊢
    split at h
    · exact hK _ _ _ _ _ hle h
    · exact h.elim
  intro p e s m args below meth c A cells slots Q hF hK hG hA hc ls st σ K R0 ht hk
  unfold mt_dup_x2 at ht
  split at ht
  · intro c1 c2 H locs lsA hH hS hl
    exact lv_dup_x2 hF.1 hF.2.1 d (by rw [am_rn_cat]; exact am_ch c2) (by rw [am_rn_cat]; exact am_ch (am_ct c2)) (by rw [am_rn_cat]; exact am_ch (am_ct (am_ct c2))) (hk _ _ _ _ ht c1 (am_c1 (am_ch c2) (am_c1 (am_ch (am_ct c2)) (am_c1 (am_ch (am_ct (am_ct c2))) (am_c1 (am_ch c2) (am_ct (am_ct (am_ct c2))))))) H locs lsA hH hS hl)
  · exact ht.elim
def mt_dup2 (nx : Nat) : am_T := fun ls st σ K _ => match st with
  | va :: vb :: r => K nx ls (va :: vb :: va :: vb :: r) σ
  | _ => False
theorem mp_dup2 (d : decode cc pc = .ok (.dup2, 1)) : am_P l G cc nL own Ts R (mt_dup2 (pc + 1)) pc := by
  refine ⟨?_, ?_⟩
  · intro ls ls' st σ K K' R R' hle hK hR h
    unfold mt_dup2 at h ⊢
    split at h
    · exact hK _ _ _ _ _ hle h
    · exact h.elim
  intro p e s m args below meth c A cells slots Q hF hK hG hA hc ls st σ K R0 ht hk
  unfold mt_dup2 at ht
  split at ht
  · intro c1 c2 H locs lsA hH hS hl
    exact lv_dup2_11 hF.1 hF.2.1 d (by rw [am_rn_cat]; exact am_ch c2) (by rw [am_rn_cat]; exact am_ch (am_ct c2)) (hk _ _ _ _ ht c1 (am_c1 (am_ch c2) (am_c1 (am_ch (am_ct c2)) c2)) H locs lsA hH hS hl)
  · exact ht.elim
def mt_goto (nx : Nat) : am_T := fun ls st σ K _ => K nx ls st σ
theorem mp_goto {off : Int} (tgt : Nat) (d : decode cc pc = .ok (.goto off, 3)) (ht : (pc : Int) + off = (tgt : Int)) : am_P l G cc nL own Ts R (mt_goto tgt) pc :=
  ⟨fun _ _ _ _ _ _ _ _ hle hK _ h => hK _ _ _ _ _ hle h, fun p e s m args below meth c A cells slots Q hF hK hG hA hc ls st σ K R0 hq hk c1 c2 H locs lsA hH hS hl => lv_goto hF.1 hF.2.1 d ht (hk _ _ _ _ hq c1 c2 H locs lsA hH hS hl)⟩
def mt_if_eq (tgt nx : Nat) : am_T := fun ls st σ K _ => match st with
  | .int a :: r => (a = 0 → K tgt ls r σ) ∧ (¬ a = 0 → K nx ls r σ)
  | _ => False
theorem mp_if_eq {off : Int} (tgt : Nat) (d : decode cc pc = .ok (.ifCond .eq off, 3)) (htg : (pc : Int) + off = (tgt : Int)) : am_P l G cc nL own Ts R (mt_if_eq tgt (pc + 3)) pc := by
  refine ⟨?_, ?_⟩
  · intro ls ls' st σ K K' R R' hle hK hR h
    unfold mt_if_eq at h ⊢
    split at h
    · exact ⟨fun q => hK _ _ _ _ _ hle (h.1 q), fun q => hK _ _ _ _ _ hle (h.2 q)⟩
    · exact h.elim
  intro p e s m args below meth c A cells slots Q hF hK hG hA hc ls st σ K R0 ht hk
  unfold mt_if_eq at ht
  split at ht
  · intro c1 c2 H locs lsA hH hS hl
    exact lv_if_eq hF.1 hF.2.1 d htg (fun q => hk _ _ _ _ (ht.1 q) c1 (am_ct c2) H locs lsA hH hS hl) (fun q => hk _ _ _ _ (ht.2 q) c1 (am_ct c2) H locs lsA hH hS hl)
  · exact ht.elim
def mt_icmp_eq (tgt nx : Nat) : am_T := fun ls st σ K _ => match st with
  | .int b :: .int a :: r => (a = b → K tgt ls r σ) ∧ (¬ a = b → K nx ls r σ)
  | _ => False
theorem mp_icmp_eq {off : Int} (tgt : Nat) (d : decode cc pc = .ok (.if_icmp .eq off, 3)) (htg : (pc : Int) + off = (tgt : Int)) : am_P l G cc nL own Ts R (mt_icmp_eq tgt (pc + 3)) pc := by
  refine ⟨?_, ?_⟩
  · intro ls ls' st σ K K' R R' hle hK hR h
    unfold mt_icmp_eq at h ⊢
    split at h
    · exact ⟨fun q => hK _ _ _ _ _ hle (h.1 q), fun q => hK _ _ _ _ _ hle (h.2 q)⟩
    · exact h.elim
  intro p e s m args below meth c A cells slots Q hF hK hG hA hc ls st σ K R0 ht hk
  unfold mt_icmp_eq at ht
  split at ht
  · intro c1 c2 H locs lsA hH hS hl
    exact lv_icmp_eq hF.1 hF.2.1 d htg (fun q => hk _ _ _ _ (ht.1 q) c1 (am_ct (am_ct c2)) H locs lsA hH hS hl) (fun q => hk _ _ _ _ (ht.2 q) c1 (am_ct (am_ct c2)) H locs lsA hH hS hl)
  · exact ht.elim
def mt_if_ne (tgt nx : Nat) : am_T := fun ls st σ K _ => match st with
  | .int a :: r => (a = 0 → K nx ls r σ) ∧ (¬ a = 0 → K tgt ls r σ)
  | _ => False
theorem mp_if_ne {off : Int} (tgt : Nat) (d : decode cc pc = .ok (.ifCond .ne off, 3)) (htg : (pc : Int) + off = (tgt : Int)) : am_P l G cc nL own Ts R (mt_if_ne tgt (pc + 3)) pc := by
  refine ⟨?_, ?_⟩
  · intro ls ls' st σ K K' R R' hle hK hR h
    unfold mt_if_ne at h ⊢
    split at h
    · exact ⟨fun q => hK _ _ _ _ _ hle (h.1 q), fun q => hK _ _ _ _ _ hle (h.2 q)⟩
    · exact h.elim
  intro p e s m args below meth c A cells slots Q hF hK hG hA hc ls st σ K R0 ht hk
  unfold mt_if_ne at ht
  split at ht
  · intro c1 c2 H locs lsA hH hS hl
    exact lv_if_ne hF.1 hF.2.1 d htg (fun q => hk _ _ _ _ (ht.2 q) c1 (am_ct c2) H locs lsA hH hS hl) (fun q => hk _ _ _ _ (ht.1 q) c1 (am_ct c2) H locs lsA hH hS hl)
  · exact ht.elim
def mt_icmp_ne (tgt nx : Nat) : am_T := fun ls st σ K _ => match st with
  | .int b :: .int a :: r => (a = b → K nx ls r σ) ∧ (¬ a = b → K tgt ls r σ)
  | _ => False
theorem mp_icmp_ne {off : Int} (tgt : Nat) (d : decode cc pc = .ok (.if_icmp .ne off, 3)) (htg : (pc : Int) + off = (tgt : Int)) : am_P l G cc nL own Ts R (mt_icmp_ne tgt (pc + 3)) pc := by
  refine ⟨?_, ?_⟩
  · intro ls ls' st σ K K' R R' hle hK hR h
    unfold mt_icmp_ne at h ⊢
    split at h
    · exact ⟨fun q => hK _ _ _ _ _ hle (h.1 q), fun q => hK _ _ _ _ _ hle (h.2 q)⟩
    · exact h.elim
  intro p e s m args below meth c A cells slots Q hF hK hG hA hc ls st σ K R0 ht hk
  unfold mt_icmp_ne at ht
  split at ht
  · intro c1 c2 H locs lsA hH hS hl
    exact lv_icmp_ne hF.1 hF.2.1 d htg (fun q => hk _ _ _ _ (ht.2 q) c1 (am_ct (am_ct c2)) H locs lsA hH hS hl) (fun q => hk _ _ _ _ (ht.1 q) c1 (am_ct (am_ct c2)) H locs lsA hH hS hl)
  · exact ht.elim
def mt_if_lt (tgt nx : Nat) : am_T := fun ls st σ K _ => match st with
  | .int a :: r => (a < 0 → K tgt ls r σ) ∧ (¬ a < 0 → K nx ls r σ)
  | _ => False
theorem mp_if_lt {off : Int} (tgt : Nat) (d : decode cc pc = .ok (.ifCond .lt off, 3)) (htg : (pc : Int) + off = (tgt : Int)) : am_P l G cc nL own Ts R (mt_if_lt tgt (pc + 3)) pc := by
  refine ⟨?_, ?_⟩
  · intro ls ls' st σ K K' R R' hle hK hR h
    unfold mt_if_lt at h ⊢
    split at h
    · exact ⟨fun q => hK _ _ _ _ _ hle (h.1 q), fun q => hK _ _ _ _ _ hle (h.2 q)⟩
    · exact h.elim
  intro p e s m args below meth c A cells slots Q hF hK hG hA hc ls st σ K R0 ht hk
  unfold mt_if_lt at ht
  split at ht
  · intro c1 c2 H locs lsA hH hS hl
    exact lv_if_lt hF.1 hF.2.1 d htg (fun q => hk _ _ _ _ (ht.1 q) c1 (am_ct c2) H locs lsA hH hS hl) (fun q => hk _ _ _ _ (ht.2 q) c1 (am_ct c2) H locs lsA hH hS hl)
  · exact ht.elim
def mt_icmp_lt (tgt nx : Nat) : am_T := fun ls st σ K _ => match st with
  | .int b :: .int a :: r => (a < b → K tgt ls r σ) ∧ (¬ a < b → K nx ls r σ)
  | _ => False
theorem mp_icmp_lt {off : Int} (tgt : Nat) (d : decode cc pc = .ok (.if_icmp .lt off, 3)) (htg : (pc : Int) + off = (tgt : Int)) : am_P l G cc nL own Ts R (mt_icmp_lt tgt (pc + 3)) pc := by
  refine ⟨?_, ?_⟩
  · intro ls ls' st σ K K' R R' hle hK hR h
    unfold mt_icmp_lt at h ⊢
    split at h
    · exact ⟨fun q => hK _ _ _ _ _ hle (h.1 q), fun q => hK _ _ _ _ _ hle (h.2 q)⟩
    · exact h.elim
  intro p e s m args below meth c A cells slots Q hF hK hG hA hc ls st σ K R0 ht hk
  unfold mt_icmp_lt at ht
  split at ht
  · intro c1 c2 H locs lsA hH hS hl
    exact lv_icmp_lt hF.1 hF.2.1 d htg (fun q => hk _ _ _ _ (ht.1 q) c1 (am_ct (am_ct c2)) H locs lsA hH hS hl) (fun q => hk _ _ _ _ (ht.2 q) c1 (am_ct (am_ct c2)) H locs lsA hH hS hl)
  · exact ht.elim
def mt_if_ge (tgt nx : Nat) : am_T := fun ls st σ K _ => match st with
  | .int a :: r => (0 ≤ a → K tgt ls r σ) ∧ (¬ 0 ≤ a → K nx ls r σ)
  | _ => False
theorem mp_if_ge {off : Int} (tgt : Nat) (d : decode cc pc = .ok (.ifCond .ge off, 3)) (htg : (pc : Int) + off = (tgt : Int)) : am_P l G cc nL own Ts R (mt_if_ge tgt (pc + 3)) pc := by
  refine ⟨?_, ?_⟩
  · intro ls ls' st σ K K' R R' hle hK hR h
    unfold mt_if_ge at h ⊢
    split at h
    · exact ⟨fun q => hK _ _ _ _ _ hle (h.1 q), fun q => hK _ _ _ _ _ hle (h.2 q)⟩
    · exact h.elim
  intro p e s m args below meth c A cells slots Q hF hK hG hA hc ls st σ K R0 ht hk
  unfold mt_if_ge at ht
  split at ht
  · intro c1 c2 H locs lsA hH hS hl
    exact lv_if_ge hF.1 hF.2.1 d htg (fun q => hk _ _ _ _ (ht.1 q) c1 (am_ct c2) H locs lsA hH hS hl) (fun q => hk _ _ _ _ (ht.2 q) c1 (am_ct c2) H locs lsA hH hS hl)
  · exact ht.elim
def mt_icmp_ge (tgt nx : Nat) : am_T := fun ls st σ K _ => match st with
  | .int b :: .int a :: r => (b ≤ a → K tgt ls r σ) ∧ (¬ b ≤ a → K nx ls r σ)
  | _ => False
theorem mp_icmp_ge {off : Int} (tgt : Nat) (d : decode cc pc = .ok (.if_icmp .ge off, 3)) (htg : (pc : Int) + off = (tgt : Int)) : am_P l G cc nL own Ts R (mt_icmp_ge tgt (pc + 3)) pc := by
  refine ⟨?_, ?_⟩
  · intro ls ls' st σ K K' R R' hle hK hR h
    unfold mt_icmp_ge at h ⊢
    split at h
    · exact ⟨fun q => hK _ _ _ _ _ hle (h.1 q), fun q => hK _ _ _ _ _ hle (h.2 q)⟩
    · exact h.elim
  intro p e s m args below meth c A cells slots Q hF hK hG hA hc ls st σ K R0 ht hk
  unfold mt_icmp_ge at ht
  split at ht
  · intro c1 c2 H locs lsA hH hS hl
    exact lv_icmp_ge hF.1 hF.2.1 d htg (fun q => hk _ _ _ _ (ht.1 q) c1 (am_ct (am_ct c2)) H locs lsA hH hS hl) (fun q => hk _ _ _ _ (ht.2 q) c1 (am_ct (am_ct c2)) H locs lsA hH hS hl)
  · exact ht.elim
def mt_if_gt (tgt nx : Nat) : am_T := fun ls st σ K _ => match st with
  | .int a :: r => (0 < a → K tgt ls r σ) ∧ (¬ 0 < a → K nx ls r σ)
  | _ => False
theorem mp_if_gt {off : Int} (tgt : Nat) (d : decode cc pc = .ok (.ifCond .gt off, 3)) (htg : (pc : Int) + off = (tgt : Int)) : am_P l G cc nL own Ts R (mt_if_gt tgt (pc + 3)) pc := by
  refine ⟨?_, ?_⟩
  · intro ls ls' st σ K K' R R' hle hK hR h
    unfold mt_if_gt at h ⊢
    split at h
    · exact ⟨fun q => hK _ _ _ _ _ hle (h.1 q), fun q => hK _ _ _ _ _ hle (h.2 q)⟩
    · exact h.elim
  intro p e s m args below meth c A cells slots Q hF hK hG hA hc ls st σ K R0 ht hk
  unfold mt_if_gt at ht
  split at ht
  · intro c1 c2 H locs lsA hH hS hl
    exact lv_if_gt hF.1 hF.2.1 d htg (fun q => hk _ _ _ _ (ht.1 q) c1 (am_ct c2) H locs lsA hH hS hl) (fun q => hk _ _ _ _ (ht.2 q) c1 (am_ct c2) H locs lsA hH hS hl)
  · exact ht.elim
def mt_icmp_gt (tgt nx : Nat) : am_T := fun ls st σ K _ => match st with
  | .int b :: .int a :: r => (b < a → K tgt ls r σ) ∧ (¬ b < a → K nx ls r σ)
  | _ => False
theorem mp_icmp_gt {off : Int} (tgt : Nat) (d : decode cc pc = .ok (.if_icmp .gt off, 3)) (htg : (pc : Int) + off = (tgt : Int)) : am_P l G cc nL own Ts R (mt_icmp_gt tgt (pc + 3)) pc := by
  refine ⟨?_, ?_⟩
  · intro ls ls' st σ K K' R R' hle hK hR h
    unfold mt_icmp_gt at h ⊢
    split at h
    · exact ⟨fun q => hK _ _ _ _ _ hle (h.1 q), fun q => hK _ _ _ _ _ hle (h.2 q)⟩
    · exact h.elim
  intro p e s m args below meth c A cells slots Q hF hK hG hA hc ls st σ K R0 ht hk
  unfold mt_icmp_gt at ht
  split at ht
  · intro c1 c2 H locs lsA hH hS hl
    exact lv_icmp_gt hF.1 hF.2.1 d htg (fun q => hk _ _ _ _ (ht.1 q) c1 (am_ct (am_ct c2)) H locs lsA hH hS hl) (fun q => hk _ _ _ _ (ht.2 q) c1 (am_ct (am_ct c2)) H locs lsA hH hS hl)
  · exact ht.elim
def mt_if_le (tgt nx : Nat) : am_T := fun ls st σ K _ => match st with
  | .int a :: r => (a ≤ 0 → K tgt ls r σ) ∧ (¬ a ≤ 0 → K nx ls r σ)
  | _ => False
theorem mp_if_le {off : Int} (tgt : Nat) (d : decode cc pc = .ok (.ifCond .le off, 3)) (htg : (pc : Int) + off = (tgt : Int)) : am_P l G cc nL own Ts R (mt_if_le tgt (pc + 3)) pc := by
  refine ⟨?_, ?_⟩
  · intro ls ls' st σ K K' R R' hle hK hR h
    unfold mt_if_le at h ⊢
    split at h
    · exact ⟨fun q => hK _ _ _ _ _ hle (h.1 q), fun q => hK _ _ _ _ _ hle (h.2 q)⟩
    · exact h.elim
  intro p e s m args below meth c A cells slots Q hF hK hG hA hc ls st σ K R0 ht hk
  unfold mt_if_le at ht
  split at ht
  · intro c1 c2 H locs lsA hH hS hl
    exact lv_if_le hF.1 hF.2.1 d htg (fun q => hk _ _ _ _ (ht.1 q) c1 (am_ct c2) H locs lsA hH hS hl) (fun q => hk _ _ _ _ (ht.2 q) c1 (am_ct c2) H locs lsA hH hS hl)
  · exact ht.elim
def mt_icmp_le (tgt nx : Nat) : am_T := fun ls st σ K _ => match st with
  | .int b :: .int a :: r => (a ≤ b → K tgt ls r σ) ∧ (¬ a ≤ b → K nx ls r σ)
  | _ => False
theorem mp_icmp_le {off : Int} (tgt : Nat) (d : decode cc pc = .ok (.if_icmp .le off, 3)) (htg : (pc : Int) + off = (tgt : Int)) : am_P l G cc nL own Ts R (mt_icmp_le tgt (pc + 3)) pc := by
  refine ⟨?_, ?_⟩
  · intro ls ls' st σ K K' R R' hle hK hR h
    unfold mt_icmp_le at h ⊢
    split at h
    · exact ⟨fun q => hK _ _ _ _ _ hle (h.1 q), fun q => hK _ _ _ _ _ hle (h.2 q)⟩
    · exact h.elim
  intro p e s m args below meth c A cells slots Q hF hK hG hA hc ls st σ K R0 ht hk
  unfold mt_icmp_le at ht
  split at ht
  · intro c1 c2 H locs lsA hH hS hl
    exact lv_icmp_le hF.1 hF.2.1 d htg (fun q => hk _ _ _ _ (ht.1 q) c1 (am_ct (am_ct c2)) H locs lsA hH hS hl) (fun q => hk _ _ _ _ (ht.2 q) c1 (am_ct (am_ct c2)) H locs lsA hH hS hl)
  · exact ht.elim
end AM2
