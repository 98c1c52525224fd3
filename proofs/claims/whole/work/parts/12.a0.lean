/-! the world's methods leave every cell outside of the world (written by program: wip/whole/gen_wo.py) -/
section ZWO
def zWo (k k1 : am_M) : Prop := ∀ a, a < 15 ∨ 100 < a → k1 a = k a
theorem zWo.rf (k : am_M) : zWo k k := fun _ _ => rfl
theorem zWo.tr {k k1 k2 : am_M} (h : zWo k k1) (h1 : zWo k1 k2) : zWo k k2 := fun a ha => (h1 a ha).trans (h a ha)
theorem zWo.up {k k1 : am_M} {a j : Nat} {v : Int32} (h : zWo k k1) (ha : 15 ≤ a ∧ a ≤ 100) : zWo k (am_up k1 a j v) := fun b hb => (zup_n _ _ (by omega)).trans (h b hb)
theorem zWo.ua {k k1 : am_M} {a : Nat} {f : Nat → Int32} (h : zWo k k1) (ha : 15 ≤ a ∧ a ≤ 100) : zWo k (am_ua k1 a f) := fun b hb => (am_ua_n _ _ (by omega)).trans (h b hb)
theorem zo_rPut {k k1 : am_M} {c : Nat} {i v : Int32} (h : zWo k k1) (hk : 14 ≤ c ∧ c < 100) : zWo k (rPut k1 c i v) := by
  unfold rPut
  split
  · exact h
  · split
    · exact h
    · exact h.up (by omega)
theorem zo_rChg {k k1 : am_M} {c : Nat} {i v : Int32} (h : zWo k k1) (hk : 14 ≤ c ∧ c < 100) : zWo k (rChg k1 c i v) := by
  unfold rChg
  split
  · exact h
  · split
    · exact h
    · exact h.up (by omega)
theorem zo_rClr {k k1 : am_M} {c : Nat} (h : zWo k k1) (hk : 14 ≤ c ∧ c < 100) : zWo k (rClr k1 c) := h.ua (by omega)
theorem zo_lAdd {k k1 : am_M} {c : Nat} {v : Int32} (h : zWo k k1) (hk : 15 ≤ c ∧ c < 100) : zWo k (lAdd k1 c v) := by
  unfold lAdd
  split
  · exact h
  · split
    · exact h
    · exact (h.up (by omega)).up (by omega)
theorem zo_lTak {k k1 : am_M} {c : Nat} (h : zWo k k1) (hk : 15 ≤ c ∧ c < 100) : zWo k (lTak k1 c) := (h.ua (by omega)).up (by omega)
theorem zo_lClr {k k1 : am_M} {c : Nat} (h : zWo k k1) (hk : 15 ≤ c ∧ c < 100) : zWo k (lClr k1 c) := h.up (by omega)
theorem zo_bAdd {k k1 : am_M} {c : Nat} {p x : Int32} (h : zWo k k1) (hk : 14 ≤ c ∧ c < 97) : zWo k (bAdd k1 c p x) := by
  unfold bAdd
  split
  · exact h
  · exact zo_rPut (zo_rPut h (by omega)) (by omega)
theorem zo_bEmp {k k1 : am_M} {c : Nat} {p : Int32} (h : zWo k k1) (hk : 14 ≤ c ∧ c < 97) : zWo k (bEmp k1 c p) := zo_rPut h (by omega)
theorem zo_bCpN {k k1 : am_M} {c q : Nat} {p p2 : Int32} (h : zWo k k1) (hk : 14 ≤ c ∧ c < 97) : ∀ n, zWo k (bCpN k1 c p q p2 n) := by
  intro n
  induction n with
  | zero => exact zo_bEmp h hk
  | succ n ih => exact zo_bAdd ih hk
theorem zo_bCpL {k k1 : am_M} {c q : Nat} {p p2 : Int32} (h : zWo k k1) (hk : 14 ≤ c ∧ c < 97) : zWo k (bCpL k1 c p q p2) := zo_bCpN h hk _
theorem zo_chSh {k k1 : am_M} {c : Int32} (h : zWo k k1) : ∀ n, zWo k (chSh k1 c n) := by
  intro n
  induction n with
  | zero => exact h
  | succ n ih => exact zo_rPut ih (by decide)
theorem zo_tGive {k k1 : am_M} {t r g f : Int32} (h : zWo k k1) : zWo k (tGive k1 t r g f) := by
  unfold tGive
  repeat' first
    | with_reducible exact h
    | decide
    | with_reducible apply zo_chSh
    | with_reducible apply zo_bCpL
    | with_reducible apply zo_lClr
    | with_reducible apply zo_lTak
    | with_reducible apply zo_lAdd
    | with_reducible apply zo_rClr
    | with_reducible apply zo_rChg
    | with_reducible apply zo_rPut
    | with_reducible apply zWo.ua
    | with_reducible apply zWo.up
    | split
theorem zo_tAdd {k k1 : am_M} {x : Int32} (h : zWo k k1) : zWo k (tAdd k1 x) := by
  unfold tAdd
  repeat' first
    | with_reducible exact h
    | decide
    | with_reducible apply zo_tGive
    | with_reducible apply zo_chSh
    | with_reducible apply zo_bCpL
    | with_reducible apply zo_lClr
    | with_reducible apply zo_lTak
    | with_reducible apply zo_lAdd
    | with_reducible apply zo_rClr
    | with_reducible apply zo_rChg
    | with_reducible apply zo_rPut
    | with_reducible apply zWo.ua
    | with_reducible apply zWo.up
    | split
theorem zo_tEnter {k k1 : am_M} {t s : Int32} (h : zWo k k1) : zWo k (tEnter k1 t s) := by
  unfold tEnter
  repeat' first
    | with_reducible exact h
    | decide
    | with_reducible apply zo_tAdd
    | with_reducible apply zo_tGive
    | with_reducible apply zo_chSh
    | with_reducible apply zo_bCpL
    | with_reducible apply zo_lClr
    | with_reducible apply zo_lTak
    | with_reducible apply zo_lAdd
    | with_reducible apply zo_rClr
    | with_reducible apply zo_rChg
    | with_reducible apply zo_rPut
    | with_reducible apply zWo.ua
    | with_reducible apply zWo.up
    | split
theorem zo_tSleep {k k1 : am_M} {t u : Int32} (h : zWo k k1) : zWo k (tSleep k1 t u) := by
  unfold tSleep
  repeat' first
    | with_reducible exact h
    | decide
    | with_reducible apply zo_tEnter
    | with_reducible apply zo_tAdd
    | with_reducible apply zo_tGive
    | with_reducible apply zo_chSh
    | with_reducible apply zo_bCpL
    | with_reducible apply zo_lClr
    | with_reducible apply zo_lTak
    | with_reducible apply zo_lAdd
    | with_reducible apply zo_rClr
    | with_reducible apply zo_rChg
    | with_reducible apply zo_rPut
    | with_reducible apply zWo.ua
    | with_reducible apply zWo.up
    | split
theorem zo_tWait {k k1 : am_M} {t st f s u : Int32} (h : zWo k k1) : zWo k (tWait k1 t st f s u) := by
  unfold tWait
  repeat' first
    | with_reducible exact h
    | decide
    | with_reducible apply zo_tSleep
    | with_reducible apply zo_tEnter
    | with_reducible apply zo_tAdd
    | with_reducible apply zo_tGive
    | with_reducible apply zo_chSh
    | with_reducible apply zo_bCpL
    | with_reducible apply zo_lClr
    | with_reducible apply zo_lTak
    | with_reducible apply zo_lAdd
    | with_reducible apply zo_rClr
    | with_reducible apply zo_rChg
    | with_reducible apply zo_rPut
    | with_reducible apply zWo.ua
    | with_reducible apply zWo.up
    | split
theorem zo_sAdd {k k1 : am_M} {a b c d e : Int32} (h : zWo k k1) : zWo k (sAdd k1 a b c d e) := by
  unfold sAdd
  repeat' first
    | with_reducible exact h
    | decide
    | with_reducible apply zo_tWait
    | with_reducible apply zo_tSleep
    | with_reducible apply zo_tEnter
    | with_reducible apply zo_tAdd
    | with_reducible apply zo_tGive
    | with_reducible apply zo_chSh
    | with_reducible apply zo_bCpL
    | with_reducible apply zo_lClr
    | with_reducible apply zo_lTak
    | with_reducible apply zo_lAdd
    | with_reducible apply zo_rClr
    | with_reducible apply zo_rChg
    | with_reducible apply zo_rPut
    | with_reducible apply zWo.ua
    | with_reducible apply zWo.up
    | split
theorem zo_sAddC {k k1 : am_M} {s : Int32} (h : zWo k k1) : zWo k (sAddC k1 s) := by
  unfold sAddC
  repeat' first
    | with_reducible exact h
    | decide
    | with_reducible apply zo_sAdd
    | with_reducible apply zo_tWait
    | with_reducible apply zo_tSleep
    | with_reducible apply zo_tEnter
    | with_reducible apply zo_tAdd
    | with_reducible apply zo_tGive
    | with_reducible apply zo_chSh
    | with_reducible apply zo_bCpL
    | with_reducible apply zo_lClr
    | with_reducible apply zo_lTak
    | with_reducible apply zo_lAdd
    | with_reducible apply zo_rClr
    | with_reducible apply zo_rChg
    | with_reducible apply zo_rPut
    | with_reducible apply zWo.ua
    | with_reducible apply zWo.up
    | split
theorem zo_chAdd {k k1 : am_M} {c n : Int32} (h : zWo k k1) : zWo k (chAdd k1 c n) := by
  unfold chAdd
  repeat' first
    | with_reducible exact h
    | decide
    | with_reducible apply zo_sAddC
    | with_reducible apply zo_sAdd
    | with_reducible apply zo_tWait
    | with_reducible apply zo_tSleep
    | with_reducible apply zo_tEnter
    | with_reducible apply zo_tAdd
    | with_reducible apply zo_tGive
    | with_reducible apply zo_chSh
    | with_reducible apply zo_bCpL
    | with_reducible apply zo_lClr
    | with_reducible apply zo_lTak
    | with_reducible apply zo_lAdd
    | with_reducible apply zo_rClr
    | with_reducible apply zo_rChg
    | with_reducible apply zo_rPut
    | with_reducible apply zWo.ua
    | with_reducible apply zWo.up
    | split
theorem zo_chTak {k k1 : am_M} {c : Int32} (h : zWo k k1) : zWo k (chTak k1 c) := by
  unfold chTak
  repeat' first
    | with_reducible exact h
    | decide
    | with_reducible apply zo_chAdd
    | with_reducible apply zo_sAddC
    | with_reducible apply zo_sAdd
    | with_reducible apply zo_tWait
    | with_reducible apply zo_tSleep
    | with_reducible apply zo_tEnter
    | with_reducible apply zo_tAdd
    | with_reducible apply zo_tGive
    | with_reducible apply zo_chSh
    | with_reducible apply zo_bCpL
    | with_reducible apply zo_lClr
    | with_reducible apply zo_lTak
    | with_reducible apply zo_lAdd
    | with_reducible apply zo_rClr
    | with_reducible apply zo_rChg
    | with_reducible apply zo_rPut
    | with_reducible apply zWo.ua
    | with_reducible apply zWo.up
    | split
theorem zo_fAdd {k k1 : am_M} {a b c : Int32} (h : zWo k k1) : zWo k (fAdd k1 a b c) := by
  unfold fAdd
  repeat' first
    | with_reducible exact h
    | decide
    | with_reducible apply zo_chTak
    | with_reducible apply zo_chAdd
    | with_reducible apply zo_sAddC
    | with_reducible apply zo_sAdd
    | with_reducible apply zo_tWait
    | with_reducible apply zo_tSleep
    | with_reducible apply zo_tEnter
    | with_reducible apply zo_tAdd
    | with_reducible apply zo_tGive
    | with_reducible apply zo_chSh
    | with_reducible apply zo_bCpL
    | with_reducible apply zo_lClr
    | with_reducible apply zo_lTak
    | with_reducible apply zo_lAdd
    | with_reducible apply zo_rClr
    | with_reducible apply zo_rChg
    | with_reducible apply zo_rPut
    | with_reducible apply zWo.ua
    | with_reducible apply zWo.up
    | split
theorem zo_fClr {k k1 : am_M} (h : zWo k k1) : zWo k (fClr k1) := by
  unfold fClr
  repeat' first
    | with_reducible exact h
    | decide
    | with_reducible apply zo_fAdd
    | with_reducible apply zo_chTak
    | with_reducible apply zo_chAdd
    | with_reducible apply zo_sAddC
    | with_reducible apply zo_sAdd
    | with_reducible apply zo_tWait
    | with_reducible apply zo_tSleep
    | with_reducible apply zo_tEnter
    | with_reducible apply zo_tAdd
    | with_reducible apply zo_tGive
    | with_reducible apply zo_chSh
    | with_reducible apply zo_bCpL
    | with_reducible apply zo_lClr
    | with_reducible apply zo_lTak
    | with_reducible apply zo_lAdd
    | with_reducible apply zo_rClr
    | with_reducible apply zo_rChg
    | with_reducible apply zo_rPut
    | with_reducible apply zWo.ua
    | with_reducible apply zWo.up
    | split
theorem zo_wStart {k k1 : am_M} {p x : Int32} (h : zWo k k1) : zWo k (wStart k1 p x) := by
  unfold wStart
  repeat' first
    | with_reducible exact h
    | decide
    | with_reducible apply zo_fClr
    | with_reducible apply zo_fAdd
    | with_reducible apply zo_chTak
    | with_reducible apply zo_chAdd
    | with_reducible apply zo_sAddC
    | with_reducible apply zo_sAdd
    | with_reducible apply zo_tWait
    | with_reducible apply zo_tSleep
    | with_reducible apply zo_tEnter
    | with_reducible apply zo_tAdd
    | with_reducible apply zo_tGive
    | with_reducible apply zo_chSh
    | with_reducible apply zo_bCpL
    | with_reducible apply zo_lClr
    | with_reducible apply zo_lTak
    | with_reducible apply zo_lAdd
    | with_reducible apply zo_rClr
    | with_reducible apply zo_rChg
    | with_reducible apply zo_rPut
    | with_reducible apply zWo.ua
    | with_reducible apply zWo.up
    | split
theorem zo_wReady {k k1 : am_M} {t : Int32} (h : zWo k k1) : zWo k (wReady k1 t) := by
  unfold wReady
  repeat' first
    | with_reducible exact h
    | decide
    | with_reducible apply zo_wStart
    | with_reducible apply zo_fClr
    | with_reducible apply zo_fAdd
    | with_reducible apply zo_chTak
    | with_reducible apply zo_chAdd
    | with_reducible apply zo_sAddC
    | with_reducible apply zo_sAdd
    | with_reducible apply zo_tWait
    | with_reducible apply zo_tSleep
    | with_reducible apply zo_tEnter
    | with_reducible apply zo_tAdd
    | with_reducible apply zo_tGive
    | with_reducible apply zo_chSh
    | with_reducible apply zo_bCpL
    | with_reducible apply zo_lClr
    | with_reducible apply zo_lTak
    | with_reducible apply zo_lAdd
    | with_reducible apply zo_rClr
    | with_reducible apply zo_rChg
    | with_reducible apply zo_rPut
    | with_reducible apply zWo.ua
    | with_reducible apply zWo.up
    | split
theorem zo_wSupp {k k1 : am_M} {r : Int32} (h : zWo k k1) : zWo k (wSupp k1 r) := by
  unfold wSupp
  repeat' first
    | with_reducible exact h
    | decide
    | with_reducible apply zo_wReady
    | with_reducible apply zo_wStart
    | with_reducible apply zo_fClr
    | with_reducible apply zo_fAdd
    | with_reducible apply zo_chTak
    | with_reducible apply zo_chAdd
    | with_reducible apply zo_sAddC
    | with_reducible apply zo_sAdd
    | with_reducible apply zo_tWait
    | with_reducible apply zo_tSleep
    | with_reducible apply zo_tEnter
    | with_reducible apply zo_tAdd
    | with_reducible apply zo_tGive
    | with_reducible apply zo_chSh
    | with_reducible apply zo_bCpL
    | with_reducible apply zo_lClr
    | with_reducible apply zo_lTak
    | with_reducible apply zo_lAdd
    | with_reducible apply zo_rClr
    | with_reducible apply zo_rChg
    | with_reducible apply zo_rPut
    | with_reducible apply zWo.ua
    | with_reducible apply zWo.up
    | split
theorem zo_wGive {k k1 : am_M} {t r g f : Int32} (h : zWo k k1) : zWo k (wGive k1 t r g f) := by
  unfold wGive
  repeat' first
    | with_reducible exact h
    | decide
    | with_reducible apply zo_wSupp
    | with_reducible apply zo_wReady
    | with_reducible apply zo_wStart
    | with_reducible apply zo_fClr
    | with_reducible apply zo_fAdd
    | with_reducible apply zo_chTak
    | with_reducible apply zo_chAdd
    | with_reducible apply zo_sAddC
    | with_reducible apply zo_sAdd
    | with_reducible apply zo_tWait
    | with_reducible apply zo_tSleep
    | with_reducible apply zo_tEnter
    | with_reducible apply zo_tAdd
    | with_reducible apply zo_tGive
    | with_reducible apply zo_chSh
    | with_reducible apply zo_bCpL
    | with_reducible apply zo_lClr
    | with_reducible apply zo_lTak
    | with_reducible apply zo_lAdd
    | with_reducible apply zo_rClr
    | with_reducible apply zo_rChg
    | with_reducible apply zo_rPut
    | with_reducible apply zWo.ua
    | with_reducible apply zWo.up
    | split
theorem zo_wWake {k k1 : am_M} {t j : Int32} (h : zWo k k1) : zWo k (wWake k1 t j) := by
  unfold wWake
  repeat' first
    | with_reducible exact h
    | decide
    | with_reducible apply zo_wGive
    | with_reducible apply zo_wSupp
    | with_reducible apply zo_wReady
    | with_reducible apply zo_wStart
    | with_reducible apply zo_fClr
    | with_reducible apply zo_fAdd
    | with_reducible apply zo_chTak
    | with_reducible apply zo_chAdd
    | with_reducible apply zo_sAddC
    | with_reducible apply zo_sAdd
    | with_reducible apply zo_tWait
    | with_reducible apply zo_tSleep
    | with_reducible apply zo_tEnter
    | with_reducible apply zo_tAdd
    | with_reducible apply zo_tGive
    | with_reducible apply zo_chSh
    | with_reducible apply zo_bCpL
    | with_reducible apply zo_lClr
    | with_reducible apply zo_lTak
    | with_reducible apply zo_lAdd
    | with_reducible apply zo_rClr
    | with_reducible apply zo_rChg
    | with_reducible apply zo_rPut
    | with_reducible apply zWo.ua
    | with_reducible apply zWo.up
    | split
theorem zo_wIntr {k k1 : am_M} {t r g f : Int32} (h : zWo k k1) : zWo k (wIntr k1 t r g f) := by
  unfold wIntr
  repeat' first
    | with_reducible exact h
    | decide
    | with_reducible apply zo_wWake
    | with_reducible apply zo_wGive
    | with_reducible apply zo_wSupp
    | with_reducible apply zo_wReady
    | with_reducible apply zo_wStart
    | with_reducible apply zo_fClr
    | with_reducible apply zo_fAdd
    | with_reducible apply zo_chTak
    | with_reducible apply zo_chAdd
    | with_reducible apply zo_sAddC
    | with_reducible apply zo_sAdd
    | with_reducible apply zo_tWait
    | with_reducible apply zo_tSleep
    | with_reducible apply zo_tEnter
    | with_reducible apply zo_tAdd
    | with_reducible apply zo_tGive
    | with_reducible apply zo_chSh
    | with_reducible apply zo_bCpL
    | with_reducible apply zo_lClr
    | with_reducible apply zo_lTak
    | with_reducible apply zo_lAdd
    | with_reducible apply zo_rClr
    | with_reducible apply zo_rChg
    | with_reducible apply zo_rPut
    | with_reducible apply zWo.ua
    | with_reducible apply zWo.up
    | split
theorem zo_wFail {k k1 : am_M} {t c u l : Int32} (h : zWo k k1) : zWo k (wFail k1 t c u l) := by
  unfold wFail
  repeat' first
    | with_reducible exact h
    | decide
    | with_reducible apply zo_wIntr
    | with_reducible apply zo_wWake
    | with_reducible apply zo_wGive
    | with_reducible apply zo_wSupp
    | with_reducible apply zo_wReady
    | with_reducible apply zo_wStart
    | with_reducible apply zo_fClr
    | with_reducible apply zo_fAdd
    | with_reducible apply zo_chTak
    | with_reducible apply zo_chAdd
    | with_reducible apply zo_sAddC
    | with_reducible apply zo_sAdd
    | with_reducible apply zo_tWait
    | with_reducible apply zo_tSleep
    | with_reducible apply zo_tEnter
    | with_reducible apply zo_tAdd
    | with_reducible apply zo_tGive
    | with_reducible apply zo_chSh
    | with_reducible apply zo_bCpL
    | with_reducible apply zo_lClr
    | with_reducible apply zo_lTak
    | with_reducible apply zo_lAdd
    | with_reducible apply zo_rClr
    | with_reducible apply zo_rChg
    | with_reducible apply zo_rPut
    | with_reducible apply zWo.ua
    | with_reducible apply zWo.up
    | split
theorem zo_wCanN {k k1 : am_M} {s : Int32} (h : zWo k k1) : ∀ n, zWo k (wCanN k1 s n) := by
  intro n
  induction n with
  | zero => exact h
  | succ n ih =>
    unfold wCanN
    repeat' first
      | with_reducible exact ih
      | decide
      | with_reducible apply zo_wFail
      | with_reducible apply zo_wIntr
      | with_reducible apply zo_wWake
      | with_reducible apply zo_wGive
      | with_reducible apply zo_wSupp
      | with_reducible apply zo_wReady
      | with_reducible apply zo_wStart
      | with_reducible apply zo_fClr
      | with_reducible apply zo_fAdd
      | with_reducible apply zo_chTak
      | with_reducible apply zo_chAdd
      | with_reducible apply zo_sAddC
      | with_reducible apply zo_sAdd
      | with_reducible apply zo_tWait
      | with_reducible apply zo_tSleep
      | with_reducible apply zo_tEnter
      | with_reducible apply zo_tAdd
      | with_reducible apply zo_tGive
      | with_reducible apply zo_chSh
      | with_reducible apply zo_bCpL
      | with_reducible apply zo_lClr
      | with_reducible apply zo_lTak
      | with_reducible apply zo_lAdd
      | with_reducible apply zo_rClr
      | with_reducible apply zo_rChg
      | with_reducible apply zo_rPut
      | with_reducible apply zWo.ua
      | with_reducible apply zWo.up
      | split
theorem zo_wCancel {k k1 : am_M} {s : Int32} (h : zWo k k1) : zWo k (wCancel k1 s) := by
  unfold wCancel
  repeat' first
    | with_reducible exact h
    | decide
    | with_reducible apply zo_wCanN
    | with_reducible apply zo_wFail
    | with_reducible apply zo_wIntr
    | with_reducible apply zo_wWake
    | with_reducible apply zo_wGive
    | with_reducible apply zo_wSupp
    | with_reducible apply zo_wReady
    | with_reducible apply zo_wStart
    | with_reducible apply zo_fClr
    | with_reducible apply zo_fAdd
    | with_reducible apply zo_chTak
    | with_reducible apply zo_chAdd
    | with_reducible apply zo_sAddC
    | with_reducible apply zo_sAdd
    | with_reducible apply zo_tWait
    | with_reducible apply zo_tSleep
    | with_reducible apply zo_tEnter
    | with_reducible apply zo_tAdd
    | with_reducible apply zo_tGive
    | with_reducible apply zo_chSh
    | with_reducible apply zo_bCpL
    | with_reducible apply zo_lClr
    | with_reducible apply zo_lTak
    | with_reducible apply zo_lAdd
    | with_reducible apply zo_rClr
    | with_reducible apply zo_rChg
    | with_reducible apply zo_rPut
    | with_reducible apply zWo.ua
    | with_reducible apply zWo.up
    | split
theorem zo_wRemove {k k1 : am_M} (h : zWo k k1) : zWo k (wRemove k1) := by
  unfold wRemove
  repeat' first
    | with_reducible exact h
    | decide
    | with_reducible apply zo_wCancel
    | with_reducible apply zo_wCanN
    | with_reducible apply zo_wFail
    | with_reducible apply zo_wIntr
    | with_reducible apply zo_wWake
    | with_reducible apply zo_wGive
    | with_reducible apply zo_wSupp
    | with_reducible apply zo_wReady
    | with_reducible apply zo_wStart
    | with_reducible apply zo_fClr
    | with_reducible apply zo_fAdd
    | with_reducible apply zo_chTak
    | with_reducible apply zo_chAdd
    | with_reducible apply zo_sAddC
    | with_reducible apply zo_sAdd
    | with_reducible apply zo_tWait
    | with_reducible apply zo_tSleep
    | with_reducible apply zo_tEnter
    | with_reducible apply zo_tAdd
    | with_reducible apply zo_tGive
    | with_reducible apply zo_chSh
    | with_reducible apply zo_bCpL
    | with_reducible apply zo_lClr
    | with_reducible apply zo_lTak
    | with_reducible apply zo_lAdd
    | with_reducible apply zo_rClr
    | with_reducible apply zo_rChg
    | with_reducible apply zo_rPut
    | with_reducible apply zWo.ua
    | with_reducible apply zWo.up
    | split
theorem zo_xRecv {k k1 : am_M} {t n ch : Int32} (h : zWo k k1) : zWo k (xRecv k1 t n ch) := by
  unfold xRecv
  repeat' first
    | with_reducible exact h
    | decide
    | with_reducible apply zo_wRemove
    | with_reducible apply zo_wCancel
    | with_reducible apply zo_wCanN
    | with_reducible apply zo_wFail
    | with_reducible apply zo_wIntr
    | with_reducible apply zo_wWake
    | with_reducible apply zo_wGive
    | with_reducible apply zo_wSupp
    | with_reducible apply zo_wReady
    | with_reducible apply zo_wStart
    | with_reducible apply zo_fClr
    | with_reducible apply zo_fAdd
    | with_reducible apply zo_chTak
    | with_reducible apply zo_chAdd
    | with_reducible apply zo_sAddC
    | with_reducible apply zo_sAdd
    | with_reducible apply zo_tWait
    | with_reducible apply zo_tSleep
    | with_reducible apply zo_tEnter
    | with_reducible apply zo_tAdd
    | with_reducible apply zo_tGive
    | with_reducible apply zo_chSh
    | with_reducible apply zo_bCpL
    | with_reducible apply zo_lClr
    | with_reducible apply zo_lTak
    | with_reducible apply zo_lAdd
    | with_reducible apply zo_rClr
    | with_reducible apply zo_rChg
    | with_reducible apply zo_rPut
    | with_reducible apply zWo.ua
    | with_reducible apply zWo.up
    | split
theorem zo_xSend {k k1 : am_M} {t c : Int32} (h : zWo k k1) : zWo k (xSend k1 t c) := by
  unfold xSend
  repeat' first
    | with_reducible exact h
    | decide
    | with_reducible apply zo_xRecv
    | with_reducible apply zo_wRemove
    | with_reducible apply zo_wCancel
    | with_reducible apply zo_wCanN
    | with_reducible apply zo_wFail
    | with_reducible apply zo_wIntr
    | with_reducible apply zo_wWake
    | with_reducible apply zo_wGive
    | with_reducible apply zo_wSupp
    | with_reducible apply zo_wReady
    | with_reducible apply zo_wStart
    | with_reducible apply zo_fClr
    | with_reducible apply zo_fAdd
    | with_reducible apply zo_chTak
    | with_reducible apply zo_chAdd
    | with_reducible apply zo_sAddC
    | with_reducible apply zo_sAdd
    | with_reducible apply zo_tWait
    | with_reducible apply zo_tSleep
    | with_reducible apply zo_tEnter
    | with_reducible apply zo_tAdd
    | with_reducible apply zo_tGive
    | with_reducible apply zo_chSh
    | with_reducible apply zo_bCpL
    | with_reducible apply zo_lClr
    | with_reducible apply zo_lTak
    | with_reducible apply zo_lAdd
    | with_reducible apply zo_rClr
    | with_reducible apply zo_rChg
    | with_reducible apply zo_rPut
    | with_reducible apply zWo.ua
    | with_reducible apply zWo.up
    | split
theorem zo_xTake {k k1 : am_M} {t c ch : Int32} (h : zWo k k1) : zWo k (xTake k1 t c ch) := by
  unfold xTake
  repeat' first
    | with_reducible exact h
    | decide
    | with_reducible apply zo_xSend
    | with_reducible apply zo_xRecv
    | with_reducible apply zo_wRemove
    | with_reducible apply zo_wCancel
    | with_reducible apply zo_wCanN
    | with_reducible apply zo_wFail
    | with_reducible apply zo_wIntr
    | with_reducible apply zo_wWake
    | with_reducible apply zo_wGive
    | with_reducible apply zo_wSupp
    | with_reducible apply zo_wReady
    | with_reducible apply zo_wStart
    | with_reducible apply zo_fClr
    | with_reducible apply zo_fAdd
    | with_reducible apply zo_chTak
    | with_reducible apply zo_chAdd
    | with_reducible apply zo_sAddC
    | with_reducible apply zo_sAdd
    | with_reducible apply zo_tWait
    | with_reducible apply zo_tSleep
    | with_reducible apply zo_tEnter
    | with_reducible apply zo_tAdd
    | with_reducible apply zo_tGive
    | with_reducible apply zo_chSh
    | with_reducible apply zo_bCpL
    | with_reducible apply zo_lClr
    | with_reducible apply zo_lTak
    | with_reducible apply zo_lAdd
    | with_reducible apply zo_rClr
    | with_reducible apply zo_rChg
    | with_reducible apply zo_rPut
    | with_reducible apply zWo.ua
    | with_reducible apply zWo.up
    | split
theorem zo_xReceive {k k1 : am_M} {t c : Int32} (h : zWo k k1) : zWo k (xReceive k1 t c) := by
  unfold xReceive
  repeat' first
    | with_reducible exact h
    | decide
    | with_reducible apply zo_xTake
    | with_reducible apply zo_xSend
    | with_reducible apply zo_xRecv
    | with_reducible apply zo_wRemove
    | with_reducible apply zo_wCancel
    | with_reducible apply zo_wCanN
    | with_reducible apply zo_wFail
    | with_reducible apply zo_wIntr
    | with_reducible apply zo_wWake
    | with_reducible apply zo_wGive
    | with_reducible apply zo_wSupp
    | with_reducible apply zo_wReady
    | with_reducible apply zo_wStart
    | with_reducible apply zo_fClr
    | with_reducible apply zo_fAdd
    | with_reducible apply zo_chTak
    | with_reducible apply zo_chAdd
    | with_reducible apply zo_sAddC
    | with_reducible apply zo_sAdd
    | with_reducible apply zo_tWait
    | with_reducible apply zo_tSleep
    | with_reducible apply zo_tEnter
    | with_reducible apply zo_tAdd
    | with_reducible apply zo_tGive
    | with_reducible apply zo_chSh
    | with_reducible apply zo_bCpL
    | with_reducible apply zo_lClr
    | with_reducible apply zo_lTak
    | with_reducible apply zo_lAdd
    | with_reducible apply zo_rClr
    | with_reducible apply zo_rChg
    | with_reducible apply zo_rPut
    | with_reducible apply zWo.ua
    | with_reducible apply zWo.up
    | split
theorem zo_xChoose2 {k k1 : am_M} {t f s so la : Int32} (h : zWo k k1) : zWo k (xChoose2 k1 t f s so la) := by
  unfold xChoose2
  repeat' first
    | with_reducible exact h
    | decide
    | with_reducible apply zo_xReceive
    | with_reducible apply zo_xTake
    | with_reducible apply zo_xSend
    | with_reducible apply zo_xRecv
    | with_reducible apply zo_wRemove
    | with_reducible apply zo_wCancel
    | with_reducible apply zo_wCanN
    | with_reducible apply zo_wFail
    | with_reducible apply zo_wIntr
    | with_reducible apply zo_wWake
    | with_reducible apply zo_wGive
    | with_reducible apply zo_wSupp
    | with_reducible apply zo_wReady
    | with_reducible apply zo_wStart
    | with_reducible apply zo_fClr
    | with_reducible apply zo_fAdd
    | with_reducible apply zo_chTak
    | with_reducible apply zo_chAdd
    | with_reducible apply zo_sAddC
    | with_reducible apply zo_sAdd
    | with_reducible apply zo_tWait
    | with_reducible apply zo_tSleep
    | with_reducible apply zo_tEnter
    | with_reducible apply zo_tAdd
    | with_reducible apply zo_tGive
    | with_reducible apply zo_chSh
    | with_reducible apply zo_bCpL
    | with_reducible apply zo_lClr
    | with_reducible apply zo_lTak
    | with_reducible apply zo_lAdd
    | with_reducible apply zo_rClr
    | with_reducible apply zo_rChg
    | with_reducible apply zo_rPut
    | with_reducible apply zWo.ua
    | with_reducible apply zWo.up
    | split
theorem zo_xChoose {k k1 : am_M} {t f s : Int32} (h : zWo k k1) : zWo k (xChoose k1 t f s) := by
  unfold xChoose
  repeat' first
    | with_reducible exact h
    | decide
    | with_reducible apply zo_xChoose2
    | with_reducible apply zo_xReceive
    | with_reducible apply zo_xTake
    | with_reducible apply zo_xSend
    | with_reducible apply zo_xRecv
    | with_reducible apply zo_wRemove
    | with_reducible apply zo_wCancel
    | with_reducible apply zo_wCanN
    | with_reducible apply zo_wFail
    | with_reducible apply zo_wIntr
    | with_reducible apply zo_wWake
    | with_reducible apply zo_wGive
    | with_reducible apply zo_wSupp
    | with_reducible apply zo_wReady
    | with_reducible apply zo_wStart
    | with_reducible apply zo_fClr
    | with_reducible apply zo_fAdd
    | with_reducible apply zo_chTak
    | with_reducible apply zo_chAdd
    | with_reducible apply zo_sAddC
    | with_reducible apply zo_sAdd
    | with_reducible apply zo_tWait
    | with_reducible apply zo_tSleep
    | with_reducible apply zo_tEnter
    | with_reducible apply zo_tAdd
    | with_reducible apply zo_tGive
    | with_reducible apply zo_chSh
    | with_reducible apply zo_bCpL
    | with_reducible apply zo_lClr
    | with_reducible apply zo_lTak
    | with_reducible apply zo_lAdd
    | with_reducible apply zo_rClr
    | with_reducible apply zo_rChg
    | with_reducible apply zo_rPut
    | with_reducible apply zWo.ua
    | with_reducible apply zWo.up
    | split
theorem zo_hFInC2 {k k1 : am_M} {t c : Int32} (h : zWo k k1) : zWo k (hFInC2 k1 t c) := by
  unfold hFInC2
  repeat' first
    | with_reducible exact h
    | decide
    | with_reducible apply zo_xChoose
    | with_reducible apply zo_xChoose2
    | with_reducible apply zo_xReceive
    | with_reducible apply zo_xTake
    | with_reducible apply zo_xSend
    | with_reducible apply zo_xRecv
    | with_reducible apply zo_wRemove
    | with_reducible apply zo_wCancel
    | with_reducible apply zo_wCanN
    | with_reducible apply zo_wFail
    | with_reducible apply zo_wIntr
    | with_reducible apply zo_wWake
    | with_reducible apply zo_wGive
    | with_reducible apply zo_wSupp
    | with_reducible apply zo_wReady
    | with_reducible apply zo_wStart
    | with_reducible apply zo_fClr
    | with_reducible apply zo_fAdd
    | with_reducible apply zo_chTak
    | with_reducible apply zo_chAdd
    | with_reducible apply zo_sAddC
    | with_reducible apply zo_sAdd
    | with_reducible apply zo_tWait
    | with_reducible apply zo_tSleep
    | with_reducible apply zo_tEnter
    | with_reducible apply zo_tAdd
    | with_reducible apply zo_tGive
    | with_reducible apply zo_chSh
    | with_reducible apply zo_bCpL
    | with_reducible apply zo_lClr
    | with_reducible apply zo_lTak
    | with_reducible apply zo_lAdd
    | with_reducible apply zo_rClr
    | with_reducible apply zo_rChg
    | with_reducible apply zo_rPut
    | with_reducible apply zWo.ua
    | with_reducible apply zWo.up
    | split
theorem zo_hFInC {k k1 : am_M} {t c : Int32} (h : zWo k k1) : zWo k (hFInC k1 t c) := by
  unfold hFInC
  repeat' first
    | with_reducible exact h
    | decide
    | with_reducible apply zo_hFInC2
    | with_reducible apply zo_xChoose
    | with_reducible apply zo_xChoose2
    | with_reducible apply zo_xReceive
    | with_reducible apply zo_xTake
    | with_reducible apply zo_xSend
    | with_reducible apply zo_xRecv
    | with_reducible apply zo_wRemove
    | with_reducible apply zo_wCancel
    | with_reducible apply zo_wCanN
    | with_reducible apply zo_wFail
    | with_reducible apply zo_wIntr
    | with_reducible apply zo_wWake
    | with_reducible apply zo_wGive
    | with_reducible apply zo_wSupp
    | with_reducible apply zo_wReady
    | with_reducible apply zo_wStart
    | with_reducible apply zo_fClr
    | with_reducible apply zo_fAdd
    | with_reducible apply zo_chTak
    | with_reducible apply zo_chAdd
    | with_reducible apply zo_sAddC
    | with_reducible apply zo_sAdd
    | with_reducible apply zo_tWait
    | with_reducible apply zo_tSleep
    | with_reducible apply zo_tEnter
    | with_reducible apply zo_tAdd
    | with_reducible apply zo_tGive
    | with_reducible apply zo_chSh
    | with_reducible apply zo_bCpL
    | with_reducible apply zo_lClr
    | with_reducible apply zo_lTak
    | with_reducible apply zo_lAdd
    | with_reducible apply zo_rClr
    | with_reducible apply zo_rChg
    | with_reducible apply zo_rPut
    | with_reducible apply zWo.ua
    | with_reducible apply zWo.up
    | split
theorem zo_hSimple {k k1 : am_M} {t s o : Int32} (h : zWo k k1) : zWo k (hSimple k1 t s o) := by
  unfold hSimple
  repeat' first
    | with_reducible exact h
    | decide
    | with_reducible apply zo_hFInC
    | with_reducible apply zo_hFInC2
    | with_reducible apply zo_xChoose
    | with_reducible apply zo_xChoose2
    | with_reducible apply zo_xReceive
    | with_reducible apply zo_xTake
    | with_reducible apply zo_xSend
    | with_reducible apply zo_xRecv
    | with_reducible apply zo_wRemove
    | with_reducible apply zo_wCancel
    | with_reducible apply zo_wCanN
    | with_reducible apply zo_wFail
    | with_reducible apply zo_wIntr
    | with_reducible apply zo_wWake
    | with_reducible apply zo_wGive
    | with_reducible apply zo_wSupp
    | with_reducible apply zo_wReady
    | with_reducible apply zo_wStart
    | with_reducible apply zo_fClr
    | with_reducible apply zo_fAdd
    | with_reducible apply zo_chTak
    | with_reducible apply zo_chAdd
    | with_reducible apply zo_sAddC
    | with_reducible apply zo_sAdd
    | with_reducible apply zo_tWait
    | with_reducible apply zo_tSleep
    | with_reducible apply zo_tEnter
    | with_reducible apply zo_tAdd
    | with_reducible apply zo_tGive
    | with_reducible apply zo_chSh
    | with_reducible apply zo_bCpL
    | with_reducible apply zo_lClr
    | with_reducible apply zo_lTak
    | with_reducible apply zo_lAdd
    | with_reducible apply zo_rClr
    | with_reducible apply zo_rChg
    | with_reducible apply zo_rPut
    | with_reducible apply zWo.ua
    | with_reducible apply zWo.up
    | split
theorem zo_hCleanI {k k1 : am_M} {t x : Int32} (h : zWo k k1) : zWo k (hCleanI k1 t x) := by
  unfold hCleanI
  repeat' first
    | with_reducible exact h
    | decide
    | with_reducible apply zo_hSimple
    | with_reducible apply zo_hFInC
    | with_reducible apply zo_hFInC2
    | with_reducible apply zo_xChoose
    | with_reducible apply zo_xChoose2
    | with_reducible apply zo_xReceive
    | with_reducible apply zo_xTake
    | with_reducible apply zo_xSend
    | with_reducible apply zo_xRecv
    | with_reducible apply zo_wRemove
    | with_reducible apply zo_wCancel
    | with_reducible apply zo_wCanN
    | with_reducible apply zo_wFail
    | with_reducible apply zo_wIntr
    | with_reducible apply zo_wWake
    | with_reducible apply zo_wGive
    | with_reducible apply zo_wSupp
    | with_reducible apply zo_wReady
    | with_reducible apply zo_wStart
    | with_reducible apply zo_fClr
    | with_reducible apply zo_fAdd
    | with_reducible apply zo_chTak
    | with_reducible apply zo_chAdd
    | with_reducible apply zo_sAddC
    | with_reducible apply zo_sAdd
    | with_reducible apply zo_tWait
    | with_reducible apply zo_tSleep
    | with_reducible apply zo_tEnter
    | with_reducible apply zo_tAdd
    | with_reducible apply zo_tGive
    | with_reducible apply zo_chSh
    | with_reducible apply zo_bCpL
    | with_reducible apply zo_lClr
    | with_reducible apply zo_lTak
    | with_reducible apply zo_lAdd
    | with_reducible apply zo_rClr
    | with_reducible apply zo_rChg
    | with_reducible apply zo_rPut
    | with_reducible apply zWo.ua
    | with_reducible apply zWo.up
    | split
theorem zo_hCleanC {k k1 : am_M} {t : Int32} (h : zWo k k1) : zWo k (hCleanC k1 t) := by
  unfold hCleanC
  repeat' first
    | with_reducible exact h
    | decide
    | with_reducible apply zo_hCleanI
    | with_reducible apply zo_hSimple
    | with_reducible apply zo_hFInC
    | with_reducible apply zo_hFInC2
    | with_reducible apply zo_xChoose
    | with_reducible apply zo_xChoose2
    | with_reducible apply zo_xReceive
    | with_reducible apply zo_xTake
    | with_reducible apply zo_xSend
    | with_reducible apply zo_xRecv
    | with_reducible apply zo_wRemove
    | with_reducible apply zo_wCancel
    | with_reducible apply zo_wCanN
    | with_reducible apply zo_wFail
    | with_reducible apply zo_wIntr
    | with_reducible apply zo_wWake
    | with_reducible apply zo_wGive
    | with_reducible apply zo_wSupp
    | with_reducible apply zo_wReady
    | with_reducible apply zo_wStart
    | with_reducible apply zo_fClr
    | with_reducible apply zo_fAdd
    | with_reducible apply zo_chTak
    | with_reducible apply zo_chAdd
    | with_reducible apply zo_sAddC
    | with_reducible apply zo_sAdd
    | with_reducible apply zo_tWait
    | with_reducible apply zo_tSleep
    | with_reducible apply zo_tEnter
    | with_reducible apply zo_tAdd
    | with_reducible apply zo_tGive
    | with_reducible apply zo_chSh
    | with_reducible apply zo_bCpL
    | with_reducible apply zo_lClr
    | with_reducible apply zo_lTak
    | with_reducible apply zo_lAdd
    | with_reducible apply zo_rClr
    | with_reducible apply zo_rChg
    | with_reducible apply zo_rPut
    | with_reducible apply zWo.ua
    | with_reducible apply zWo.up
    | split
theorem zo_hEnd {k k1 : am_M} {t s : Int32} (h : zWo k k1) : zWo k (hEnd k1 t s) := by
  unfold hEnd
  repeat' first
    | with_reducible exact h
    | decide
    | with_reducible apply zo_hCleanC
    | with_reducible apply zo_hCleanI
    | with_reducible apply zo_hSimple
    | with_reducible apply zo_hFInC
    | with_reducible apply zo_hFInC2
    | with_reducible apply zo_xChoose
    | with_reducible apply zo_xChoose2
    | with_reducible apply zo_xReceive
    | with_reducible apply zo_xTake
    | with_reducible apply zo_xSend
    | with_reducible apply zo_xRecv
    | with_reducible apply zo_wRemove
    | with_reducible apply zo_wCancel
    | with_reducible apply zo_wCanN
    | with_reducible apply zo_wFail
    | with_reducible apply zo_wIntr
    | with_reducible apply zo_wWake
    | with_reducible apply zo_wGive
    | with_reducible apply zo_wSupp
    | with_reducible apply zo_wReady
    | with_reducible apply zo_wStart
    | with_reducible apply zo_fClr
    | with_reducible apply zo_fAdd
    | with_reducible apply zo_chTak
    | with_reducible apply zo_chAdd
    | with_reducible apply zo_sAddC
    | with_reducible apply zo_sAdd
    | with_reducible apply zo_tWait
    | with_reducible apply zo_tSleep
    | with_reducible apply zo_tEnter
    | with_reducible apply zo_tAdd
    | with_reducible apply zo_tGive
    | with_reducible apply zo_chSh
    | with_reducible apply zo_bCpL
    | with_reducible apply zo_lClr
    | with_reducible apply zo_lTak
    | with_reducible apply zo_lAdd
    | with_reducible apply zo_rClr
    | with_reducible apply zo_rChg
    | with_reducible apply zo_rPut
    | with_reducible apply zWo.ua
    | with_reducible apply zWo.up
    | split
theorem zo_hReg {k k1 : am_M} {t : Int32} (h : zWo k k1) : zWo k (hReg k1 t) := by
  unfold hReg
  repeat' first
    | with_reducible exact h
    | decide
    | with_reducible apply zo_hEnd
    | with_reducible apply zo_hCleanC
    | with_reducible apply zo_hCleanI
    | with_reducible apply zo_hSimple
    | with_reducible apply zo_hFInC
    | with_reducible apply zo_hFInC2
    | with_reducible apply zo_xChoose
    | with_reducible apply zo_xChoose2
    | with_reducible apply zo_xReceive
    | with_reducible apply zo_xTake
    | with_reducible apply zo_xSend
    | with_reducible apply zo_xRecv
    | with_reducible apply zo_wRemove
    | with_reducible apply zo_wCancel
    | with_reducible apply zo_wCanN
    | with_reducible apply zo_wFail
    | with_reducible apply zo_wIntr
    | with_reducible apply zo_wWake
    | with_reducible apply zo_wGive
    | with_reducible apply zo_wSupp
    | with_reducible apply zo_wReady
    | with_reducible apply zo_wStart
    | with_reducible apply zo_fClr
    | with_reducible apply zo_fAdd
    | with_reducible apply zo_chTak
    | with_reducible apply zo_chAdd
    | with_reducible apply zo_sAddC
    | with_reducible apply zo_sAdd
    | with_reducible apply zo_tWait
    | with_reducible apply zo_tSleep
    | with_reducible apply zo_tEnter
    | with_reducible apply zo_tAdd
    | with_reducible apply zo_tGive
    | with_reducible apply zo_chSh
    | with_reducible apply zo_bCpL
    | with_reducible apply zo_lClr
    | with_reducible apply zo_lTak
    | with_reducible apply zo_lAdd
    | with_reducible apply zo_rClr
    | with_reducible apply zo_rChg
    | with_reducible apply zo_rPut
    | with_reducible apply zWo.ua
    | with_reducible apply zWo.up
    | split
theorem zo_hBeh {k k1 : am_M} {t s : Int32} (h : zWo k k1) : zWo k (hBeh k1 t s) := by
  unfold hBeh
  repeat' first
    | with_reducible exact h
    | decide
    | with_reducible apply zo_hReg
    | with_reducible apply zo_hEnd
    | with_reducible apply zo_hCleanC
    | with_reducible apply zo_hCleanI
    | with_reducible apply zo_hSimple
    | with_reducible apply zo_hFInC
    | with_reducible apply zo_hFInC2
    | with_reducible apply zo_xChoose
    | with_reducible apply zo_xChoose2
    | with_reducible apply zo_xReceive
    | with_reducible apply zo_xTake
    | with_reducible apply zo_xSend
    | with_reducible apply zo_xRecv
    | with_reducible apply zo_wRemove
    | with_reducible apply zo_wCancel
    | with_reducible apply zo_wCanN
    | with_reducible apply zo_wFail
    | with_reducible apply zo_wIntr
    | with_reducible apply zo_wWake
    | with_reducible apply zo_wGive
    | with_reducible apply zo_wSupp
    | with_reducible apply zo_wReady
    | with_reducible apply zo_wStart
    | with_reducible apply zo_fClr
    | with_reducible apply zo_fAdd
    | with_reducible apply zo_chTak
    | with_reducible apply zo_chAdd
    | with_reducible apply zo_sAddC
    | with_reducible apply zo_sAdd
    | with_reducible apply zo_tWait
    | with_reducible apply zo_tSleep
    | with_reducible apply zo_tEnter
    | with_reducible apply zo_tAdd
    | with_reducible apply zo_tGive
    | with_reducible apply zo_chSh
    | with_reducible apply zo_bCpL
    | with_reducible apply zo_lClr
    | with_reducible apply zo_lTak
    | with_reducible apply zo_lAdd
    | with_reducible apply zo_rClr
    | with_reducible apply zo_rChg
    | with_reducible apply zo_rPut
    | with_reducible apply zWo.ua
    | with_reducible apply zWo.up
    | split
theorem zo_hLeave2 {k k1 : am_M} {t s : Int32} (h : zWo k k1) : zWo k (hLeave2 k1 t s) := by
  unfold hLeave2
  repeat' first
    | with_reducible exact h
    | decide
    | with_reducible apply zo_hBeh
    | with_reducible apply zo_hReg
    | with_reducible apply zo_hEnd
    | with_reducible apply zo_hCleanC
    | with_reducible apply zo_hCleanI
    | with_reducible apply zo_hSimple
    | with_reducible apply zo_hFInC
    | with_reducible apply zo_hFInC2
    | with_reducible apply zo_xChoose
    | with_reducible apply zo_xChoose2
    | with_reducible apply zo_xReceive
    | with_reducible apply zo_xTake
    | with_reducible apply zo_xSend
    | with_reducible apply zo_xRecv
    | with_reducible apply zo_wRemove
    | with_reducible apply zo_wCancel
    | with_reducible apply zo_wCanN
    | with_reducible apply zo_wFail
    | with_reducible apply zo_wIntr
    | with_reducible apply zo_wWake
    | with_reducible apply zo_wGive
    | with_reducible apply zo_wSupp
    | with_reducible apply zo_wReady
    | with_reducible apply zo_wStart
    | with_reducible apply zo_fClr
    | with_reducible apply zo_fAdd
    | with_reducible apply zo_chTak
    | with_reducible apply zo_chAdd
    | with_reducible apply zo_sAddC
    | with_reducible apply zo_sAdd
    | with_reducible apply zo_tWait
    | with_reducible apply zo_tSleep
    | with_reducible apply zo_tEnter
    | with_reducible apply zo_tAdd
    | with_reducible apply zo_tGive
    | with_reducible apply zo_chSh
    | with_reducible apply zo_bCpL
    | with_reducible apply zo_lClr
    | with_reducible apply zo_lTak
    | with_reducible apply zo_lAdd
    | with_reducible apply zo_rClr
    | with_reducible apply zo_rChg
    | with_reducible apply zo_rPut
    | with_reducible apply zWo.ua
    | with_reducible apply zWo.up
    | split
theorem zo_hLeave {k k1 : am_M} {t : Int32} (h : zWo k k1) : zWo k (hLeave k1 t) := by
  unfold hLeave
  repeat' first
    | with_reducible exact h
    | decide
    | with_reducible apply zo_hLeave2
    | with_reducible apply zo_hBeh
    | with_reducible apply zo_hReg
    | with_reducible apply zo_hEnd
    | with_reducible apply zo_hCleanC
    | with_reducible apply zo_hCleanI
    | with_reducible apply zo_hSimple
    | with_reducible apply zo_hFInC
    | with_reducible apply zo_hFInC2
    | with_reducible apply zo_xChoose
    | with_reducible apply zo_xChoose2
    | with_reducible apply zo_xReceive
    | with_reducible apply zo_xTake
    | with_reducible apply zo_xSend
    | with_reducible apply zo_xRecv
    | with_reducible apply zo_wRemove
    | with_reducible apply zo_wCancel
    | with_reducible apply zo_wCanN
    | with_reducible apply zo_wFail
    | with_reducible apply zo_wIntr
    | with_reducible apply zo_wWake
    | with_reducible apply zo_wGive
    | with_reducible apply zo_wSupp
    | with_reducible apply zo_wReady
    | with_reducible apply zo_wStart
    | with_reducible apply zo_fClr
    | with_reducible apply zo_fAdd
    | with_reducible apply zo_chTak
    | with_reducible apply zo_chAdd
    | with_reducible apply zo_sAddC
    | with_reducible apply zo_sAdd
    | with_reducible apply zo_tWait
    | with_reducible apply zo_tSleep
    | with_reducible apply zo_tEnter
    | with_reducible apply zo_tAdd
    | with_reducible apply zo_tGive
    | with_reducible apply zo_chSh
    | with_reducible apply zo_bCpL
    | with_reducible apply zo_lClr
    | with_reducible apply zo_lTak
    | with_reducible apply zo_lAdd
    | with_reducible apply zo_rClr
    | with_reducible apply zo_rChg
    | with_reducible apply zo_rPut
    | with_reducible apply zWo.ua
    | with_reducible apply zWo.up
    | split
theorem zo_hFailO {k k1 : am_M} {o x c : Int32} (h : zWo k k1) : zWo k (hFailO k1 o x c) := by
  unfold hFailO
  repeat' first
    | with_reducible exact h
    | decide
    | with_reducible apply zo_hLeave
    | with_reducible apply zo_hLeave2
    | with_reducible apply zo_hBeh
    | with_reducible apply zo_hReg
    | with_reducible apply zo_hEnd
    | with_reducible apply zo_hCleanC
    | with_reducible apply zo_hCleanI
    | with_reducible apply zo_hSimple
    | with_reducible apply zo_hFInC
    | with_reducible apply zo_hFInC2
    | with_reducible apply zo_xChoose
    | with_reducible apply zo_xChoose2
    | with_reducible apply zo_xReceive
    | with_reducible apply zo_xTake
    | with_reducible apply zo_xSend
    | with_reducible apply zo_xRecv
    | with_reducible apply zo_wRemove
    | with_reducible apply zo_wCancel
    | with_reducible apply zo_wCanN
    | with_reducible apply zo_wFail
    | with_reducible apply zo_wIntr
    | with_reducible apply zo_wWake
    | with_reducible apply zo_wGive
    | with_reducible apply zo_wSupp
    | with_reducible apply zo_wReady
    | with_reducible apply zo_wStart
    | with_reducible apply zo_fClr
    | with_reducible apply zo_fAdd
    | with_reducible apply zo_chTak
    | with_reducible apply zo_chAdd
    | with_reducible apply zo_sAddC
    | with_reducible apply zo_sAdd
    | with_reducible apply zo_tWait
    | with_reducible apply zo_tSleep
    | with_reducible apply zo_tEnter
    | with_reducible apply zo_tAdd
    | with_reducible apply zo_tGive
    | with_reducible apply zo_chSh
    | with_reducible apply zo_bCpL
    | with_reducible apply zo_lClr
    | with_reducible apply zo_lTak
    | with_reducible apply zo_lAdd
    | with_reducible apply zo_rClr
    | with_reducible apply zo_rChg
    | with_reducible apply zo_rPut
    | with_reducible apply zWo.ua
    | with_reducible apply zWo.up
    | split
theorem zo_hWakeO {k k1 : am_M} {o x : Int32} (h : zWo k k1) : zWo k (hWakeO k1 o x) := by
  unfold hWakeO
  repeat' first
    | with_reducible exact h
    | decide
    | with_reducible apply zo_hFailO
    | with_reducible apply zo_hLeave
    | with_reducible apply zo_hLeave2
    | with_reducible apply zo_hBeh
    | with_reducible apply zo_hReg
    | with_reducible apply zo_hEnd
    | with_reducible apply zo_hCleanC
    | with_reducible apply zo_hCleanI
    | with_reducible apply zo_hSimple
    | with_reducible apply zo_hFInC
    | with_reducible apply zo_hFInC2
    | with_reducible apply zo_xChoose
    | with_reducible apply zo_xChoose2
    | with_reducible apply zo_xReceive
    | with_reducible apply zo_xTake
    | with_reducible apply zo_xSend
    | with_reducible apply zo_xRecv
    | with_reducible apply zo_wRemove
    | with_reducible apply zo_wCancel
    | with_reducible apply zo_wCanN
    | with_reducible apply zo_wFail
    | with_reducible apply zo_wIntr
    | with_reducible apply zo_wWake
    | with_reducible apply zo_wGive
    | with_reducible apply zo_wSupp
    | with_reducible apply zo_wReady
    | with_reducible apply zo_wStart
    | with_reducible apply zo_fClr
    | with_reducible apply zo_fAdd
    | with_reducible apply zo_chTak
    | with_reducible apply zo_chAdd
    | with_reducible apply zo_sAddC
    | with_reducible apply zo_sAdd
    | with_reducible apply zo_tWait
    | with_reducible apply zo_tSleep
    | with_reducible apply zo_tEnter
    | with_reducible apply zo_tAdd
    | with_reducible apply zo_tGive
    | with_reducible apply zo_chSh
    | with_reducible apply zo_bCpL
    | with_reducible apply zo_lClr
    | with_reducible apply zo_lTak
    | with_reducible apply zo_lAdd
    | with_reducible apply zo_rClr
    | with_reducible apply zo_rChg
    | with_reducible apply zo_rPut
    | with_reducible apply zWo.ua
    | with_reducible apply zWo.up
    | split
theorem zo_hEndT3 {k k1 : am_M} {t st x : Int32} (h : zWo k k1) : zWo k (hEndT3 k1 t st x) := by
  unfold hEndT3
  repeat' first
    | with_reducible exact h
    | decide
    | with_reducible apply zo_hWakeO
    | with_reducible apply zo_hFailO
    | with_reducible apply zo_hLeave
    | with_reducible apply zo_hLeave2
    | with_reducible apply zo_hBeh
    | with_reducible apply zo_hReg
    | with_reducible apply zo_hEnd
    | with_reducible apply zo_hCleanC
    | with_reducible apply zo_hCleanI
    | with_reducible apply zo_hSimple
    | with_reducible apply zo_hFInC
    | with_reducible apply zo_hFInC2
    | with_reducible apply zo_xChoose
    | with_reducible apply zo_xChoose2
    | with_reducible apply zo_xReceive
    | with_reducible apply zo_xTake
    | with_reducible apply zo_xSend
    | with_reducible apply zo_xRecv
    | with_reducible apply zo_wRemove
    | with_reducible apply zo_wCancel
    | with_reducible apply zo_wCanN
    | with_reducible apply zo_wFail
    | with_reducible apply zo_wIntr
    | with_reducible apply zo_wWake
    | with_reducible apply zo_wGive
    | with_reducible apply zo_wSupp
    | with_reducible apply zo_wReady
    | with_reducible apply zo_wStart
    | with_reducible apply zo_fClr
    | with_reducible apply zo_fAdd
    | with_reducible apply zo_chTak
    | with_reducible apply zo_chAdd
    | with_reducible apply zo_sAddC
    | with_reducible apply zo_sAdd
    | with_reducible apply zo_tWait
    | with_reducible apply zo_tSleep
    | with_reducible apply zo_tEnter
    | with_reducible apply zo_tAdd
    | with_reducible apply zo_tGive
    | with_reducible apply zo_chSh
    | with_reducible apply zo_bCpL
    | with_reducible apply zo_lClr
    | with_reducible apply zo_lTak
    | with_reducible apply zo_lAdd
    | with_reducible apply zo_rClr
    | with_reducible apply zo_rChg
    | with_reducible apply zo_rPut
    | with_reducible apply zWo.ua
    | with_reducible apply zWo.up
    | split
theorem zo_hEndT2 {k k1 : am_M} {t st : Int32} (h : zWo k k1) : zWo k (hEndT2 k1 t st) := by
  unfold hEndT2
  repeat' first
    | with_reducible exact h
    | decide
    | with_reducible apply zo_hEndT3
    | with_reducible apply zo_hWakeO
    | with_reducible apply zo_hFailO
    | with_reducible apply zo_hLeave
    | with_reducible apply zo_hLeave2
    | with_reducible apply zo_hBeh
    | with_reducible apply zo_hReg
    | with_reducible apply zo_hEnd
    | with_reducible apply zo_hCleanC
    | with_reducible apply zo_hCleanI
    | with_reducible apply zo_hSimple
    | with_reducible apply zo_hFInC
    | with_reducible apply zo_hFInC2
    | with_reducible apply zo_xChoose
    | with_reducible apply zo_xChoose2
    | with_reducible apply zo_xReceive
    | with_reducible apply zo_xTake
    | with_reducible apply zo_xSend
    | with_reducible apply zo_xRecv
    | with_reducible apply zo_wRemove
    | with_reducible apply zo_wCancel
    | with_reducible apply zo_wCanN
    | with_reducible apply zo_wFail
    | with_reducible apply zo_wIntr
    | with_reducible apply zo_wWake
    | with_reducible apply zo_wGive
    | with_reducible apply zo_wSupp
    | with_reducible apply zo_wReady
    | with_reducible apply zo_wStart
    | with_reducible apply zo_fClr
    | with_reducible apply zo_fAdd
    | with_reducible apply zo_chTak
    | with_reducible apply zo_chAdd
    | with_reducible apply zo_sAddC
    | with_reducible apply zo_sAdd
    | with_reducible apply zo_tWait
    | with_reducible apply zo_tSleep
    | with_reducible apply zo_tEnter
    | with_reducible apply zo_tAdd
    | with_reducible apply zo_tGive
    | with_reducible apply zo_chSh
    | with_reducible apply zo_bCpL
    | with_reducible apply zo_lClr
    | with_reducible apply zo_lTak
    | with_reducible apply zo_lAdd
    | with_reducible apply zo_rClr
    | with_reducible apply zo_rChg
    | with_reducible apply zo_rPut
    | with_reducible apply zWo.ua
    | with_reducible apply zWo.up
    | split
theorem zo_hEndT {k k1 : am_M} {t st : Int32} (h : zWo k k1) : zWo k (hEndT k1 t st) := by
  unfold hEndT
  repeat' first
    | with_reducible exact h
    | decide
    | with_reducible apply zo_hEndT2
    | with_reducible apply zo_hEndT3
    | with_reducible apply zo_hWakeO
    | with_reducible apply zo_hFailO
    | with_reducible apply zo_hLeave
    | with_reducible apply zo_hLeave2
    | with_reducible apply zo_hBeh
    | with_reducible apply zo_hReg
    | with_reducible apply zo_hEnd
    | with_reducible apply zo_hCleanC
    | with_reducible apply zo_hCleanI
    | with_reducible apply zo_hSimple
    | with_reducible apply zo_hFInC
    | with_reducible apply zo_hFInC2
    | with_reducible apply zo_xChoose
    | with_reducible apply zo_xChoose2
    | with_reducible apply zo_xReceive
    | with_reducible apply zo_xTake
    | with_reducible apply zo_xSend
    | with_reducible apply zo_xRecv
    | with_reducible apply zo_wRemove
    | with_reducible apply zo_wCancel
    | with_reducible apply zo_wCanN
    | with_reducible apply zo_wFail
    | with_reducible apply zo_wIntr
    | with_reducible apply zo_wWake
    | with_reducible apply zo_wGive
    | with_reducible apply zo_wSupp
    | with_reducible apply zo_wReady
    | with_reducible apply zo_wStart
    | with_reducible apply zo_fClr
    | with_reducible apply zo_fAdd
    | with_reducible apply zo_chTak
    | with_reducible apply zo_chAdd
    | with_reducible apply zo_sAddC
    | with_reducible apply zo_sAdd
    | with_reducible apply zo_tWait
    | with_reducible apply zo_tSleep
    | with_reducible apply zo_tEnter
    | with_reducible apply zo_tAdd
    | with_reducible apply zo_tGive
    | with_reducible apply zo_chSh
    | with_reducible apply zo_bCpL
    | with_reducible apply zo_lClr
    | with_reducible apply zo_lTak
    | with_reducible apply zo_lAdd
    | with_reducible apply zo_rClr
    | with_reducible apply zo_rChg
    | with_reducible apply zo_rPut
    | with_reducible apply zWo.ua
    | with_reducible apply zWo.up
    | split
theorem zo_hClose {k k1 : am_M} {t : Int32} (h : zWo k k1) : zWo k (hClose k1 t) := by
  unfold hClose
  repeat' first
    | with_reducible exact h
    | decide
    | with_reducible apply zo_hEndT
    | with_reducible apply zo_hEndT2
    | with_reducible apply zo_hEndT3
    | with_reducible apply zo_hWakeO
    | with_reducible apply zo_hFailO
    | with_reducible apply zo_hLeave
    | with_reducible apply zo_hLeave2
    | with_reducible apply zo_hBeh
    | with_reducible apply zo_hReg
    | with_reducible apply zo_hEnd
    | with_reducible apply zo_hCleanC
    | with_reducible apply zo_hCleanI
    | with_reducible apply zo_hSimple
    | with_reducible apply zo_hFInC
    | with_reducible apply zo_hFInC2
    | with_reducible apply zo_xChoose
    | with_reducible apply zo_xChoose2
    | with_reducible apply zo_xReceive
    | with_reducible apply zo_xTake
    | with_reducible apply zo_xSend
    | with_reducible apply zo_xRecv
    | with_reducible apply zo_wRemove
    | with_reducible apply zo_wCancel
    | with_reducible apply zo_wCanN
    | with_reducible apply zo_wFail
    | with_reducible apply zo_wIntr
    | with_reducible apply zo_wWake
    | with_reducible apply zo_wGive
    | with_reducible apply zo_wSupp
    | with_reducible apply zo_wReady
    | with_reducible apply zo_wStart
    | with_reducible apply zo_fClr
    | with_reducible apply zo_fAdd
    | with_reducible apply zo_chTak
    | with_reducible apply zo_chAdd
    | with_reducible apply zo_sAddC
    | with_reducible apply zo_sAdd
    | with_reducible apply zo_tWait
    | with_reducible apply zo_tSleep
    | with_reducible apply zo_tEnter
    | with_reducible apply zo_tAdd
    | with_reducible apply zo_tGive
    | with_reducible apply zo_chSh
    | with_reducible apply zo_bCpL
    | with_reducible apply zo_lClr
    | with_reducible apply zo_lTak
    | with_reducible apply zo_lAdd
    | with_reducible apply zo_rClr
    | with_reducible apply zo_rChg
    | with_reducible apply zo_rPut
    | with_reducible apply zWo.ua
    | with_reducible apply zWo.up
    | split
theorem zo_hOpenK {k k1 : am_M} {t c d : Int32} (h : zWo k k1) : zWo k (hOpenK k1 t c d) := by
  unfold hOpenK
  repeat' first
    | with_reducible exact h
    | decide
    | with_reducible apply zo_hClose
    | with_reducible apply zo_hEndT
    | with_reducible apply zo_hEndT2
    | with_reducible apply zo_hEndT3
    | with_reducible apply zo_hWakeO
    | with_reducible apply zo_hFailO
    | with_reducible apply zo_hLeave
    | with_reducible apply zo_hLeave2
    | with_reducible apply zo_hBeh
    | with_reducible apply zo_hReg
    | with_reducible apply zo_hEnd
    | with_reducible apply zo_hCleanC
    | with_reducible apply zo_hCleanI
    | with_reducible apply zo_hSimple
    | with_reducible apply zo_hFInC
    | with_reducible apply zo_hFInC2
    | with_reducible apply zo_xChoose
    | with_reducible apply zo_xChoose2
    | with_reducible apply zo_xReceive
    | with_reducible apply zo_xTake
    | with_reducible apply zo_xSend
    | with_reducible apply zo_xRecv
    | with_reducible apply zo_wRemove
    | with_reducible apply zo_wCancel
    | with_reducible apply zo_wCanN
    | with_reducible apply zo_wFail
    | with_reducible apply zo_wIntr
    | with_reducible apply zo_wWake
    | with_reducible apply zo_wGive
    | with_reducible apply zo_wSupp
    | with_reducible apply zo_wReady
    | with_reducible apply zo_wStart
    | with_reducible apply zo_fClr
    | with_reducible apply zo_fAdd
    | with_reducible apply zo_chTak
    | with_reducible apply zo_chAdd
    | with_reducible apply zo_sAddC
    | with_reducible apply zo_sAdd
    | with_reducible apply zo_tWait
    | with_reducible apply zo_tSleep
    | with_reducible apply zo_tEnter
    | with_reducible apply zo_tAdd
    | with_reducible apply zo_tGive
    | with_reducible apply zo_chSh
    | with_reducible apply zo_bCpL
    | with_reducible apply zo_lClr
    | with_reducible apply zo_lTak
    | with_reducible apply zo_lAdd
    | with_reducible apply zo_rClr
    | with_reducible apply zo_rChg
    | with_reducible apply zo_rPut
    | with_reducible apply zWo.ua
    | with_reducible apply zWo.up
    | split
theorem zo_hOpen {k k1 : am_M} {t s u : Int32} (h : zWo k k1) : zWo k (hOpen k1 t s u) := by
  unfold hOpen
  repeat' first
    | with_reducible exact h
    | decide
    | with_reducible apply zo_hOpenK
    | with_reducible apply zo_hClose
    | with_reducible apply zo_hEndT
    | with_reducible apply zo_hEndT2
    | with_reducible apply zo_hEndT3
    | with_reducible apply zo_hWakeO
    | with_reducible apply zo_hFailO
    | with_reducible apply zo_hLeave
    | with_reducible apply zo_hLeave2
    | with_reducible apply zo_hBeh
    | with_reducible apply zo_hReg
    | with_reducible apply zo_hEnd
    | with_reducible apply zo_hCleanC
    | with_reducible apply zo_hCleanI
    | with_reducible apply zo_hSimple
    | with_reducible apply zo_hFInC
    | with_reducible apply zo_hFInC2
    | with_reducible apply zo_xChoose
    | with_reducible apply zo_xChoose2
    | with_reducible apply zo_xReceive
    | with_reducible apply zo_xTake
    | with_reducible apply zo_xSend
    | with_reducible apply zo_xRecv
    | with_reducible apply zo_wRemove
    | with_reducible apply zo_wCancel
    | with_reducible apply zo_wCanN
    | with_reducible apply zo_wFail
    | with_reducible apply zo_wIntr
    | with_reducible apply zo_wWake
    | with_reducible apply zo_wGive
    | with_reducible apply zo_wSupp
    | with_reducible apply zo_wReady
    | with_reducible apply zo_wStart
    | with_reducible apply zo_fClr
    | with_reducible apply zo_fAdd
    | with_reducible apply zo_chTak
    | with_reducible apply zo_chAdd
    | with_reducible apply zo_sAddC
    | with_reducible apply zo_sAdd
    | with_reducible apply zo_tWait
    | with_reducible apply zo_tSleep
    | with_reducible apply zo_tEnter
    | with_reducible apply zo_tAdd
    | with_reducible apply zo_tGive
    | with_reducible apply zo_chSh
    | with_reducible apply zo_bCpL
    | with_reducible apply zo_lClr
    | with_reducible apply zo_lTak
    | with_reducible apply zo_lAdd
    | with_reducible apply zo_rClr
    | with_reducible apply zo_rChg
    | with_reducible apply zo_rPut
    | with_reducible apply zWo.ua
    | with_reducible apply zWo.up
    | split
theorem zo_hSetC {k k1 : am_M} {t p : Int32} (h : zWo k k1) : zWo k (hSetC k1 t p) := by
  unfold hSetC
  repeat' first
    | with_reducible exact h
    | decide
    | with_reducible apply zo_hOpen
    | with_reducible apply zo_hOpenK
    | with_reducible apply zo_hClose
    | with_reducible apply zo_hEndT
    | with_reducible apply zo_hEndT2
    | with_reducible apply zo_hEndT3
    | with_reducible apply zo_hWakeO
    | with_reducible apply zo_hFailO
    | with_reducible apply zo_hLeave
    | with_reducible apply zo_hLeave2
    | with_reducible apply zo_hBeh
    | with_reducible apply zo_hReg
    | with_reducible apply zo_hEnd
    | with_reducible apply zo_hCleanC
    | with_reducible apply zo_hCleanI
    | with_reducible apply zo_hSimple
    | with_reducible apply zo_hFInC
    | with_reducible apply zo_hFInC2
    | with_reducible apply zo_xChoose
    | with_reducible apply zo_xChoose2
    | with_reducible apply zo_xReceive
    | with_reducible apply zo_xTake
    | with_reducible apply zo_xSend
    | with_reducible apply zo_xRecv
    | with_reducible apply zo_wRemove
    | with_reducible apply zo_wCancel
    | with_reducible apply zo_wCanN
    | with_reducible apply zo_wFail
    | with_reducible apply zo_wIntr
    | with_reducible apply zo_wWake
    | with_reducible apply zo_wGive
    | with_reducible apply zo_wSupp
    | with_reducible apply zo_wReady
    | with_reducible apply zo_wStart
    | with_reducible apply zo_fClr
    | with_reducible apply zo_fAdd
    | with_reducible apply zo_chTak
    | with_reducible apply zo_chAdd
    | with_reducible apply zo_sAddC
    | with_reducible apply zo_sAdd
    | with_reducible apply zo_tWait
    | with_reducible apply zo_tSleep
    | with_reducible apply zo_tEnter
    | with_reducible apply zo_tAdd
    | with_reducible apply zo_tGive
    | with_reducible apply zo_chSh
    | with_reducible apply zo_bCpL
    | with_reducible apply zo_lClr
    | with_reducible apply zo_lTak
    | with_reducible apply zo_lAdd
    | with_reducible apply zo_rClr
    | with_reducible apply zo_rChg
    | with_reducible apply zo_rPut
    | with_reducible apply zWo.ua
    | with_reducible apply zWo.up
    | split
theorem zo_hStaC {k k1 : am_M} {t p : Int32} (h : zWo k k1) : zWo k (hStaC k1 t p) := by
  unfold hStaC
  repeat' first
    | with_reducible exact h
    | decide
    | with_reducible apply zo_hSetC
    | with_reducible apply zo_hOpen
    | with_reducible apply zo_hOpenK
    | with_reducible apply zo_hClose
    | with_reducible apply zo_hEndT
    | with_reducible apply zo_hEndT2
    | with_reducible apply zo_hEndT3
    | with_reducible apply zo_hWakeO
    | with_reducible apply zo_hFailO
    | with_reducible apply zo_hLeave
    | with_reducible apply zo_hLeave2
    | with_reducible apply zo_hBeh
    | with_reducible apply zo_hReg
    | with_reducible apply zo_hEnd
    | with_reducible apply zo_hCleanC
    | with_reducible apply zo_hCleanI
    | with_reducible apply zo_hSimple
    | with_reducible apply zo_hFInC
    | with_reducible apply zo_hFInC2
    | with_reducible apply zo_xChoose
    | with_reducible apply zo_xChoose2
    | with_reducible apply zo_xReceive
    | with_reducible apply zo_xTake
    | with_reducible apply zo_xSend
    | with_reducible apply zo_xRecv
    | with_reducible apply zo_wRemove
    | with_reducible apply zo_wCancel
    | with_reducible apply zo_wCanN
    | with_reducible apply zo_wFail
    | with_reducible apply zo_wIntr
    | with_reducible apply zo_wWake
    | with_reducible apply zo_wGive
    | with_reducible apply zo_wSupp
    | with_reducible apply zo_wReady
    | with_reducible apply zo_wStart
    | with_reducible apply zo_fClr
    | with_reducible apply zo_fAdd
    | with_reducible apply zo_chTak
    | with_reducible apply zo_chAdd
    | with_reducible apply zo_sAddC
    | with_reducible apply zo_sAdd
    | with_reducible apply zo_tWait
    | with_reducible apply zo_tSleep
    | with_reducible apply zo_tEnter
    | with_reducible apply zo_tAdd
    | with_reducible apply zo_tGive
    | with_reducible apply zo_chSh
    | with_reducible apply zo_bCpL
    | with_reducible apply zo_lClr
    | with_reducible apply zo_lTak
    | with_reducible apply zo_lAdd
    | with_reducible apply zo_rClr
    | with_reducible apply zo_rChg
    | with_reducible apply zo_rPut
    | with_reducible apply zWo.ua
    | with_reducible apply zWo.up
    | split
theorem zo_hExec2 {k k1 : am_M} {t s o : Int32} (h : zWo k k1) : zWo k (hExec2 k1 t s o) := by
  unfold hExec2
  repeat' first
    | with_reducible exact h
    | decide
    | with_reducible apply zo_hStaC
    | with_reducible apply zo_hSetC
    | with_reducible apply zo_hOpen
    | with_reducible apply zo_hOpenK
    | with_reducible apply zo_hClose
    | with_reducible apply zo_hEndT
    | with_reducible apply zo_hEndT2
    | with_reducible apply zo_hEndT3
    | with_reducible apply zo_hWakeO
    | with_reducible apply zo_hFailO
    | with_reducible apply zo_hLeave
    | with_reducible apply zo_hLeave2
    | with_reducible apply zo_hBeh
    | with_reducible apply zo_hReg
    | with_reducible apply zo_hEnd
    | with_reducible apply zo_hCleanC
    | with_reducible apply zo_hCleanI
    | with_reducible apply zo_hSimple
    | with_reducible apply zo_hFInC
    | with_reducible apply zo_hFInC2
    | with_reducible apply zo_xChoose
    | with_reducible apply zo_xChoose2
    | with_reducible apply zo_xReceive
    | with_reducible apply zo_xTake
    | with_reducible apply zo_xSend
    | with_reducible apply zo_xRecv
    | with_reducible apply zo_wRemove
    | with_reducible apply zo_wCancel
    | with_reducible apply zo_wCanN
    | with_reducible apply zo_wFail
    | with_reducible apply zo_wIntr
    | with_reducible apply zo_wWake
    | with_reducible apply zo_wGive
    | with_reducible apply zo_wSupp
    | with_reducible apply zo_wReady
    | with_reducible apply zo_wStart
    | with_reducible apply zo_fClr
    | with_reducible apply zo_fAdd
    | with_reducible apply zo_chTak
    | with_reducible apply zo_chAdd
    | with_reducible apply zo_sAddC
    | with_reducible apply zo_sAdd
    | with_reducible apply zo_tWait
    | with_reducible apply zo_tSleep
    | with_reducible apply zo_tEnter
    | with_reducible apply zo_tAdd
    | with_reducible apply zo_tGive
    | with_reducible apply zo_chSh
    | with_reducible apply zo_bCpL
    | with_reducible apply zo_lClr
    | with_reducible apply zo_lTak
    | with_reducible apply zo_lAdd
    | with_reducible apply zo_rClr
    | with_reducible apply zo_rChg
    | with_reducible apply zo_rPut
    | with_reducible apply zWo.ua
    | with_reducible apply zWo.up
    | split
theorem zo_hExec {k k1 : am_M} {t : Int32} (h : zWo k k1) : zWo k (hExec k1 t) := by
  unfold hExec
  repeat' first
    | with_reducible exact h
    | decide
    | with_reducible apply zo_hExec2
    | with_reducible apply zo_hStaC
    | with_reducible apply zo_hSetC
    | with_reducible apply zo_hOpen
    | with_reducible apply zo_hOpenK
    | with_reducible apply zo_hClose
    | with_reducible apply zo_hEndT
    | with_reducible apply zo_hEndT2
    | with_reducible apply zo_hEndT3
    | with_reducible apply zo_hWakeO
    | with_reducible apply zo_hFailO
    | with_reducible apply zo_hLeave
    | with_reducible apply zo_hLeave2
    | with_reducible apply zo_hBeh
    | with_reducible apply zo_hReg
    | with_reducible apply zo_hEnd
    | with_reducible apply zo_hCleanC
    | with_reducible apply zo_hCleanI
    | with_reducible apply zo_hSimple
    | with_reducible apply zo_hFInC
    | with_reducible apply zo_hFInC2
    | with_reducible apply zo_xChoose
    | with_reducible apply zo_xChoose2
    | with_reducible apply zo_xReceive
    | with_reducible apply zo_xTake
    | with_reducible apply zo_xSend
    | with_reducible apply zo_xRecv
    | with_reducible apply zo_wRemove
    | with_reducible apply zo_wCancel
    | with_reducible apply zo_wCanN
    | with_reducible apply zo_wFail
    | with_reducible apply zo_wIntr
    | with_reducible apply zo_wWake
    | with_reducible apply zo_wGive
    | with_reducible apply zo_wSupp
    | with_reducible apply zo_wReady
    | with_reducible apply zo_wStart
    | with_reducible apply zo_fClr
    | with_reducible apply zo_fAdd
    | with_reducible apply zo_chTak
    | with_reducible apply zo_chAdd
    | with_reducible apply zo_sAddC
    | with_reducible apply zo_sAdd
    | with_reducible apply zo_tWait
    | with_reducible apply zo_tSleep
    | with_reducible apply zo_tEnter
    | with_reducible apply zo_tAdd
    | with_reducible apply zo_tGive
    | with_reducible apply zo_chSh
    | with_reducible apply zo_bCpL
    | with_reducible apply zo_lClr
    | with_reducible apply zo_lTak
    | with_reducible apply zo_lAdd
    | with_reducible apply zo_rClr
    | with_reducible apply zo_rChg
    | with_reducible apply zo_rPut
    | with_reducible apply zWo.ua
    | with_reducible apply zWo.up
    | split
theorem zo_hWakeN {k k1 : am_M} {u : Int32} (h : zWo k k1) : ∀ n, zWo k (hWakeN k1 u n) := by
  intro n
  induction n with
  | zero => exact h
  | succ n ih =>
    unfold hWakeN
    repeat' first
      | with_reducible exact ih
      | decide
      | with_reducible apply zo_hExec
      | with_reducible apply zo_hExec2
      | with_reducible apply zo_hStaC
      | with_reducible apply zo_hSetC
      | with_reducible apply zo_hOpen
      | with_reducible apply zo_hOpenK
      | with_reducible apply zo_hClose
      | with_reducible apply zo_hEndT
      | with_reducible apply zo_hEndT2
      | with_reducible apply zo_hEndT3
      | with_reducible apply zo_hWakeO
      | with_reducible apply zo_hFailO
      | with_reducible apply zo_hLeave
      | with_reducible apply zo_hLeave2
      | with_reducible apply zo_hBeh
      | with_reducible apply zo_hReg
      | with_reducible apply zo_hEnd
      | with_reducible apply zo_hCleanC
      | with_reducible apply zo_hCleanI
      | with_reducible apply zo_hSimple
      | with_reducible apply zo_hFInC
      | with_reducible apply zo_hFInC2
      | with_reducible apply zo_xChoose
      | with_reducible apply zo_xChoose2
      | with_reducible apply zo_xReceive
      | with_reducible apply zo_xTake
      | with_reducible apply zo_xSend
      | with_reducible apply zo_xRecv
      | with_reducible apply zo_wRemove
      | with_reducible apply zo_wCancel
      | with_reducible apply zo_wCanN
      | with_reducible apply zo_wFail
      | with_reducible apply zo_wIntr
      | with_reducible apply zo_wWake
      | with_reducible apply zo_wGive
      | with_reducible apply zo_wSupp
      | with_reducible apply zo_wReady
      | with_reducible apply zo_wStart
      | with_reducible apply zo_fClr
      | with_reducible apply zo_fAdd
      | with_reducible apply zo_chTak
      | with_reducible apply zo_chAdd
      | with_reducible apply zo_sAddC
      | with_reducible apply zo_sAdd
      | with_reducible apply zo_tWait
      | with_reducible apply zo_tSleep
      | with_reducible apply zo_tEnter
      | with_reducible apply zo_tAdd
      | with_reducible apply zo_tGive
      | with_reducible apply zo_chSh
      | with_reducible apply zo_bCpL
      | with_reducible apply zo_lClr
      | with_reducible apply zo_lTak
      | with_reducible apply zo_lAdd
      | with_reducible apply zo_rClr
      | with_reducible apply zo_rChg
      | with_reducible apply zo_rPut
      | with_reducible apply zWo.ua
      | with_reducible apply zWo.up
      | split
theorem zo_hWake {k k1 : am_M} {u : Int32} (h : zWo k k1) : zWo k (hWake k1 u) := by
  unfold hWake
  repeat' first
    | with_reducible exact h
    | decide
    | with_reducible apply zo_hWakeN
    | with_reducible apply zo_hExec
    | with_reducible apply zo_hExec2
    | with_reducible apply zo_hStaC
    | with_reducible apply zo_hSetC
    | with_reducible apply zo_hOpen
    | with_reducible apply zo_hOpenK
    | with_reducible apply zo_hClose
    | with_reducible apply zo_hEndT
    | with_reducible apply zo_hEndT2
    | with_reducible apply zo_hEndT3
    | with_reducible apply zo_hWakeO
    | with_reducible apply zo_hFailO
    | with_reducible apply zo_hLeave
    | with_reducible apply zo_hLeave2
    | with_reducible apply zo_hBeh
    | with_reducible apply zo_hReg
    | with_reducible apply zo_hEnd
    | with_reducible apply zo_hCleanC
    | with_reducible apply zo_hCleanI
    | with_reducible apply zo_hSimple
    | with_reducible apply zo_hFInC
    | with_reducible apply zo_hFInC2
    | with_reducible apply zo_xChoose
    | with_reducible apply zo_xChoose2
    | with_reducible apply zo_xReceive
    | with_reducible apply zo_xTake
    | with_reducible apply zo_xSend
    | with_reducible apply zo_xRecv
    | with_reducible apply zo_wRemove
    | with_reducible apply zo_wCancel
    | with_reducible apply zo_wCanN
    | with_reducible apply zo_wFail
    | with_reducible apply zo_wIntr
    | with_reducible apply zo_wWake
    | with_reducible apply zo_wGive
    | with_reducible apply zo_wSupp
    | with_reducible apply zo_wReady
    | with_reducible apply zo_wStart
    | with_reducible apply zo_fClr
    | with_reducible apply zo_fAdd
    | with_reducible apply zo_chTak
    | with_reducible apply zo_chAdd
    | with_reducible apply zo_sAddC
    | with_reducible apply zo_sAdd
    | with_reducible apply zo_tWait
    | with_reducible apply zo_tSleep
    | with_reducible apply zo_tEnter
    | with_reducible apply zo_tAdd
    | with_reducible apply zo_tGive
    | with_reducible apply zo_chSh
    | with_reducible apply zo_bCpL
    | with_reducible apply zo_lClr
    | with_reducible apply zo_lTak
    | with_reducible apply zo_lAdd
    | with_reducible apply zo_rClr
    | with_reducible apply zo_rChg
    | with_reducible apply zo_rPut
    | with_reducible apply zWo.ua
    | with_reducible apply zWo.up
    | split
theorem zo_hDead1 {k k1 : am_M} {s : Int32} (h : zWo k k1) : zWo k (hDead1 k1 s) := by
  unfold hDead1
  repeat' first
    | with_reducible exact h
    | decide
    | with_reducible apply zo_hWake
    | with_reducible apply zo_hWakeN
    | with_reducible apply zo_hExec
    | with_reducible apply zo_hExec2
    | with_reducible apply zo_hStaC
    | with_reducible apply zo_hSetC
    | with_reducible apply zo_hOpen
    | with_reducible apply zo_hOpenK
    | with_reducible apply zo_hClose
    | with_reducible apply zo_hEndT
    | with_reducible apply zo_hEndT2
    | with_reducible apply zo_hEndT3
    | with_reducible apply zo_hWakeO
    | with_reducible apply zo_hFailO
    | with_reducible apply zo_hLeave
    | with_reducible apply zo_hLeave2
    | with_reducible apply zo_hBeh
    | with_reducible apply zo_hReg
    | with_reducible apply zo_hEnd
    | with_reducible apply zo_hCleanC
    | with_reducible apply zo_hCleanI
    | with_reducible apply zo_hSimple
    | with_reducible apply zo_hFInC
    | with_reducible apply zo_hFInC2
    | with_reducible apply zo_xChoose
    | with_reducible apply zo_xChoose2
    | with_reducible apply zo_xReceive
    | with_reducible apply zo_xTake
    | with_reducible apply zo_xSend
    | with_reducible apply zo_xRecv
    | with_reducible apply zo_wRemove
    | with_reducible apply zo_wCancel
    | with_reducible apply zo_wCanN
    | with_reducible apply zo_wFail
    | with_reducible apply zo_wIntr
    | with_reducible apply zo_wWake
    | with_reducible apply zo_wGive
    | with_reducible apply zo_wSupp
    | with_reducible apply zo_wReady
    | with_reducible apply zo_wStart
    | with_reducible apply zo_fClr
    | with_reducible apply zo_fAdd
    | with_reducible apply zo_chTak
    | with_reducible apply zo_chAdd
    | with_reducible apply zo_sAddC
    | with_reducible apply zo_sAdd
    | with_reducible apply zo_tWait
    | with_reducible apply zo_tSleep
    | with_reducible apply zo_tEnter
    | with_reducible apply zo_tAdd
    | with_reducible apply zo_tGive
    | with_reducible apply zo_chSh
    | with_reducible apply zo_bCpL
    | with_reducible apply zo_lClr
    | with_reducible apply zo_lTak
    | with_reducible apply zo_lAdd
    | with_reducible apply zo_rClr
    | with_reducible apply zo_rChg
    | with_reducible apply zo_rPut
    | with_reducible apply zWo.ua
    | with_reducible apply zWo.up
    | split
theorem zo_hDeadN {k k1 : am_M} {u : Int32} (h : zWo k k1) : ∀ n, zWo k (hDeadN k1 u n) := by
  intro n
  induction n with
  | zero => exact h
  | succ n ih =>
    unfold hDeadN
    repeat' first
      | with_reducible exact ih
      | decide
      | with_reducible apply zo_hDead1
      | with_reducible apply zo_hWake
      | with_reducible apply zo_hWakeN
      | with_reducible apply zo_hExec
      | with_reducible apply zo_hExec2
      | with_reducible apply zo_hStaC
      | with_reducible apply zo_hSetC
      | with_reducible apply zo_hOpen
      | with_reducible apply zo_hOpenK
      | with_reducible apply zo_hClose
      | with_reducible apply zo_hEndT
      | with_reducible apply zo_hEndT2
      | with_reducible apply zo_hEndT3
      | with_reducible apply zo_hWakeO
      | with_reducible apply zo_hFailO
      | with_reducible apply zo_hLeave
      | with_reducible apply zo_hLeave2
      | with_reducible apply zo_hBeh
      | with_reducible apply zo_hReg
      | with_reducible apply zo_hEnd
      | with_reducible apply zo_hCleanC
      | with_reducible apply zo_hCleanI
      | with_reducible apply zo_hSimple
      | with_reducible apply zo_hFInC
      | with_reducible apply zo_hFInC2
      | with_reducible apply zo_xChoose
      | with_reducible apply zo_xChoose2
      | with_reducible apply zo_xReceive
      | with_reducible apply zo_xTake
      | with_reducible apply zo_xSend
      | with_reducible apply zo_xRecv
      | with_reducible apply zo_wRemove
      | with_reducible apply zo_wCancel
      | with_reducible apply zo_wCanN
      | with_reducible apply zo_wFail
      | with_reducible apply zo_wIntr
      | with_reducible apply zo_wWake
      | with_reducible apply zo_wGive
      | with_reducible apply zo_wSupp
      | with_reducible apply zo_wReady
      | with_reducible apply zo_wStart
      | with_reducible apply zo_fClr
      | with_reducible apply zo_fAdd
      | with_reducible apply zo_chTak
      | with_reducible apply zo_chAdd
      | with_reducible apply zo_sAddC
      | with_reducible apply zo_sAdd
      | with_reducible apply zo_tWait
      | with_reducible apply zo_tSleep
      | with_reducible apply zo_tEnter
      | with_reducible apply zo_tAdd
      | with_reducible apply zo_tGive
      | with_reducible apply zo_chSh
      | with_reducible apply zo_bCpL
      | with_reducible apply zo_lClr
      | with_reducible apply zo_lTak
      | with_reducible apply zo_lAdd
      | with_reducible apply zo_rClr
      | with_reducible apply zo_rChg
      | with_reducible apply zo_rPut
      | with_reducible apply zWo.ua
      | with_reducible apply zWo.up
      | split
theorem zo_hDead {k k1 : am_M} {u : Int32} (h : zWo k k1) : zWo k (hDead k1 u) := by
  unfold hDead
  repeat' first
    | with_reducible exact h
    | decide
    | with_reducible apply zo_hDeadN
    | with_reducible apply zo_hDead1
    | with_reducible apply zo_hWake
    | with_reducible apply zo_hWakeN
    | with_reducible apply zo_hExec
    | with_reducible apply zo_hExec2
    | with_reducible apply zo_hStaC
    | with_reducible apply zo_hSetC
    | with_reducible apply zo_hOpen
    | with_reducible apply zo_hOpenK
    | with_reducible apply zo_hClose
    | with_reducible apply zo_hEndT
    | with_reducible apply zo_hEndT2
    | with_reducible apply zo_hEndT3
    | with_reducible apply zo_hWakeO
    | with_reducible apply zo_hFailO
    | with_reducible apply zo_hLeave
    | with_reducible apply zo_hLeave2
    | with_reducible apply zo_hBeh
    | with_reducible apply zo_hReg
    | with_reducible apply zo_hEnd
    | with_reducible apply zo_hCleanC
    | with_reducible apply zo_hCleanI
    | with_reducible apply zo_hSimple
    | with_reducible apply zo_hFInC
    | with_reducible apply zo_hFInC2
    | with_reducible apply zo_xChoose
    | with_reducible apply zo_xChoose2
    | with_reducible apply zo_xReceive
    | with_reducible apply zo_xTake
    | with_reducible apply zo_xSend
    | with_reducible apply zo_xRecv
    | with_reducible apply zo_wRemove
    | with_reducible apply zo_wCancel
    | with_reducible apply zo_wCanN
    | with_reducible apply zo_wFail
    | with_reducible apply zo_wIntr
    | with_reducible apply zo_wWake
    | with_reducible apply zo_wGive
    | with_reducible apply zo_wSupp
    | with_reducible apply zo_wReady
    | with_reducible apply zo_wStart
    | with_reducible apply zo_fClr
    | with_reducible apply zo_fAdd
    | with_reducible apply zo_chTak
    | with_reducible apply zo_chAdd
    | with_reducible apply zo_sAddC
    | with_reducible apply zo_sAdd
    | with_reducible apply zo_tWait
    | with_reducible apply zo_tSleep
    | with_reducible apply zo_tEnter
    | with_reducible apply zo_tAdd
    | with_reducible apply zo_tGive
    | with_reducible apply zo_chSh
    | with_reducible apply zo_bCpL
    | with_reducible apply zo_lClr
    | with_reducible apply zo_lTak
    | with_reducible apply zo_lAdd
    | with_reducible apply zo_rClr
    | with_reducible apply zo_rChg
    | with_reducible apply zo_rPut
    | with_reducible apply zWo.ua
    | with_reducible apply zWo.up
    | split
theorem zo_hPass {k k1 : am_M} (h : zWo k k1) : zWo k (hPass k1) := by
  unfold hPass
  repeat' first
    | with_reducible exact h
    | decide
    | with_reducible apply zo_hDead
    | with_reducible apply zo_hDeadN
    | with_reducible apply zo_hDead1
    | with_reducible apply zo_hWake
    | with_reducible apply zo_hWakeN
    | with_reducible apply zo_hExec
    | with_reducible apply zo_hExec2
    | with_reducible apply zo_hStaC
    | with_reducible apply zo_hSetC
    | with_reducible apply zo_hOpen
    | with_reducible apply zo_hOpenK
    | with_reducible apply zo_hClose
    | with_reducible apply zo_hEndT
    | with_reducible apply zo_hEndT2
    | with_reducible apply zo_hEndT3
    | with_reducible apply zo_hWakeO
    | with_reducible apply zo_hFailO
    | with_reducible apply zo_hLeave
    | with_reducible apply zo_hLeave2
    | with_reducible apply zo_hBeh
    | with_reducible apply zo_hReg
    | with_reducible apply zo_hEnd
    | with_reducible apply zo_hCleanC
    | with_reducible apply zo_hCleanI
    | with_reducible apply zo_hSimple
    | with_reducible apply zo_hFInC
    | with_reducible apply zo_hFInC2
    | with_reducible apply zo_xChoose
    | with_reducible apply zo_xChoose2
    | with_reducible apply zo_xReceive
    | with_reducible apply zo_xTake
    | with_reducible apply zo_xSend
    | with_reducible apply zo_xRecv
    | with_reducible apply zo_wRemove
    | with_reducible apply zo_wCancel
    | with_reducible apply zo_wCanN
    | with_reducible apply zo_wFail
    | with_reducible apply zo_wIntr
    | with_reducible apply zo_wWake
    | with_reducible apply zo_wGive
    | with_reducible apply zo_wSupp
    | with_reducible apply zo_wReady
    | with_reducible apply zo_wStart
    | with_reducible apply zo_fClr
    | with_reducible apply zo_fAdd
    | with_reducible apply zo_chTak
    | with_reducible apply zo_chAdd
    | with_reducible apply zo_sAddC
    | with_reducible apply zo_sAdd
    | with_reducible apply zo_tWait
    | with_reducible apply zo_tSleep
    | with_reducible apply zo_tEnter
    | with_reducible apply zo_tAdd
    | with_reducible apply zo_tGive
    | with_reducible apply zo_chSh
    | with_reducible apply zo_bCpL
    | with_reducible apply zo_lClr
    | with_reducible apply zo_lTak
    | with_reducible apply zo_lAdd
    | with_reducible apply zo_rClr
    | with_reducible apply zo_rChg
    | with_reducible apply zo_rPut
    | with_reducible apply zWo.ua
    | with_reducible apply zWo.up
    | split
theorem zo_hDo {k k1 : am_M} {t : Int32} (h : zWo k k1) : zWo k (hDo k1 t) := by
  unfold hDo
  repeat' first
    | with_reducible exact h
    | decide
    | with_reducible apply zo_hPass
    | with_reducible apply zo_hDead
    | with_reducible apply zo_hDeadN
    | with_reducible apply zo_hDead1
    | with_reducible apply zo_hWake
    | with_reducible apply zo_hWakeN
    | with_reducible apply zo_hExec
    | with_reducible apply zo_hExec2
    | with_reducible apply zo_hStaC
    | with_reducible apply zo_hSetC
    | with_reducible apply zo_hOpen
    | with_reducible apply zo_hOpenK
    | with_reducible apply zo_hClose
    | with_reducible apply zo_hEndT
    | with_reducible apply zo_hEndT2
    | with_reducible apply zo_hEndT3
    | with_reducible apply zo_hWakeO
    | with_reducible apply zo_hFailO
    | with_reducible apply zo_hLeave
    | with_reducible apply zo_hLeave2
    | with_reducible apply zo_hBeh
    | with_reducible apply zo_hReg
    | with_reducible apply zo_hEnd
    | with_reducible apply zo_hCleanC
    | with_reducible apply zo_hCleanI
    | with_reducible apply zo_hSimple
    | with_reducible apply zo_hFInC
    | with_reducible apply zo_hFInC2
    | with_reducible apply zo_xChoose
    | with_reducible apply zo_xChoose2
    | with_reducible apply zo_xReceive
    | with_reducible apply zo_xTake
    | with_reducible apply zo_xSend
    | with_reducible apply zo_xRecv
    | with_reducible apply zo_wRemove
    | with_reducible apply zo_wCancel
    | with_reducible apply zo_wCanN
    | with_reducible apply zo_wFail
    | with_reducible apply zo_wIntr
    | with_reducible apply zo_wWake
    | with_reducible apply zo_wGive
    | with_reducible apply zo_wSupp
    | with_reducible apply zo_wReady
    | with_reducible apply zo_wStart
    | with_reducible apply zo_fClr
    | with_reducible apply zo_fAdd
    | with_reducible apply zo_chTak
    | with_reducible apply zo_chAdd
    | with_reducible apply zo_sAddC
    | with_reducible apply zo_sAdd
    | with_reducible apply zo_tWait
    | with_reducible apply zo_tSleep
    | with_reducible apply zo_tEnter
    | with_reducible apply zo_tAdd
    | with_reducible apply zo_tGive
    | with_reducible apply zo_chSh
    | with_reducible apply zo_bCpL
    | with_reducible apply zo_lClr
    | with_reducible apply zo_lTak
    | with_reducible apply zo_lAdd
    | with_reducible apply zo_rClr
    | with_reducible apply zo_rChg
    | with_reducible apply zo_rPut
    | with_reducible apply zWo.ua
    | with_reducible apply zWo.up
    | split
theorem zo_hQue {k k1 : am_M} {t : Int32} (h : zWo k k1) : zWo k (hQue k1 t) := by
  unfold hQue
  repeat' first
    | with_reducible exact h
    | decide
    | with_reducible apply zo_hDo
    | with_reducible apply zo_hPass
    | with_reducible apply zo_hDead
    | with_reducible apply zo_hDeadN
    | with_reducible apply zo_hDead1
    | with_reducible apply zo_hWake
    | with_reducible apply zo_hWakeN
    | with_reducible apply zo_hExec
    | with_reducible apply zo_hExec2
    | with_reducible apply zo_hStaC
    | with_reducible apply zo_hSetC
    | with_reducible apply zo_hOpen
    | with_reducible apply zo_hOpenK
    | with_reducible apply zo_hClose
    | with_reducible apply zo_hEndT
    | with_reducible apply zo_hEndT2
    | with_reducible apply zo_hEndT3
    | with_reducible apply zo_hWakeO
    | with_reducible apply zo_hFailO
    | with_reducible apply zo_hLeave
    | with_reducible apply zo_hLeave2
    | with_reducible apply zo_hBeh
    | with_reducible apply zo_hReg
    | with_reducible apply zo_hEnd
    | with_reducible apply zo_hCleanC
    | with_reducible apply zo_hCleanI
    | with_reducible apply zo_hSimple
    | with_reducible apply zo_hFInC
    | with_reducible apply zo_hFInC2
    | with_reducible apply zo_xChoose
    | with_reducible apply zo_xChoose2
    | with_reducible apply zo_xReceive
    | with_reducible apply zo_xTake
    | with_reducible apply zo_xSend
    | with_reducible apply zo_xRecv
    | with_reducible apply zo_wRemove
    | with_reducible apply zo_wCancel
    | with_reducible apply zo_wCanN
    | with_reducible apply zo_wFail
    | with_reducible apply zo_wIntr
    | with_reducible apply zo_wWake
    | with_reducible apply zo_wGive
    | with_reducible apply zo_wSupp
    | with_reducible apply zo_wReady
    | with_reducible apply zo_wStart
    | with_reducible apply zo_fClr
    | with_reducible apply zo_fAdd
    | with_reducible apply zo_chTak
    | with_reducible apply zo_chAdd
    | with_reducible apply zo_sAddC
    | with_reducible apply zo_sAdd
    | with_reducible apply zo_tWait
    | with_reducible apply zo_tSleep
    | with_reducible apply zo_tEnter
    | with_reducible apply zo_tAdd
    | with_reducible apply zo_tGive
    | with_reducible apply zo_chSh
    | with_reducible apply zo_bCpL
    | with_reducible apply zo_lClr
    | with_reducible apply zo_lTak
    | with_reducible apply zo_lAdd
    | with_reducible apply zo_rClr
    | with_reducible apply zo_rChg
    | with_reducible apply zo_rPut
    | with_reducible apply zWo.ua
    | with_reducible apply zWo.up
    | split
theorem zo_hTurn {k k1 : am_M} (h : zWo k k1) : zWo k (hTurn k1) := by
  unfold hTurn
  repeat' first
    | with_reducible exact h
    | decide
    | with_reducible apply zo_hQue
    | with_reducible apply zo_hDo
    | with_reducible apply zo_hPass
    | with_reducible apply zo_hDead
    | with_reducible apply zo_hDeadN
    | with_reducible apply zo_hDead1
    | with_reducible apply zo_hWake
    | with_reducible apply zo_hWakeN
    | with_reducible apply zo_hExec
    | with_reducible apply zo_hExec2
    | with_reducible apply zo_hStaC
    | with_reducible apply zo_hSetC
    | with_reducible apply zo_hOpen
    | with_reducible apply zo_hOpenK
    | with_reducible apply zo_hClose
    | with_reducible apply zo_hEndT
    | with_reducible apply zo_hEndT2
    | with_reducible apply zo_hEndT3
    | with_reducible apply zo_hWakeO
    | with_reducible apply zo_hFailO
    | with_reducible apply zo_hLeave
    | with_reducible apply zo_hLeave2
    | with_reducible apply zo_hBeh
    | with_reducible apply zo_hReg
    | with_reducible apply zo_hEnd
    | with_reducible apply zo_hCleanC
    | with_reducible apply zo_hCleanI
    | with_reducible apply zo_hSimple
    | with_reducible apply zo_hFInC
    | with_reducible apply zo_hFInC2
    | with_reducible apply zo_xChoose
    | with_reducible apply zo_xChoose2
    | with_reducible apply zo_xReceive
    | with_reducible apply zo_xTake
    | with_reducible apply zo_xSend
    | with_reducible apply zo_xRecv
    | with_reducible apply zo_wRemove
    | with_reducible apply zo_wCancel
    | with_reducible apply zo_wCanN
    | with_reducible apply zo_wFail
    | with_reducible apply zo_wIntr
    | with_reducible apply zo_wWake
    | with_reducible apply zo_wGive
    | with_reducible apply zo_wSupp
    | with_reducible apply zo_wReady
    | with_reducible apply zo_wStart
    | with_reducible apply zo_fClr
    | with_reducible apply zo_fAdd
    | with_reducible apply zo_chTak
    | with_reducible apply zo_chAdd
    | with_reducible apply zo_sAddC
    | with_reducible apply zo_sAdd
    | with_reducible apply zo_tWait
    | with_reducible apply zo_tSleep
    | with_reducible apply zo_tEnter
    | with_reducible apply zo_tAdd
    | with_reducible apply zo_tGive
    | with_reducible apply zo_chSh
    | with_reducible apply zo_bCpL
    | with_reducible apply zo_lClr
    | with_reducible apply zo_lTak
    | with_reducible apply zo_lAdd
    | with_reducible apply zo_rClr
    | with_reducible apply zo_rChg
    | with_reducible apply zo_rPut
    | with_reducible apply zWo.ua
    | with_reducible apply zWo.up
    | split
theorem zo_hMake {k k1 : am_M} (h : zWo k k1) : zWo k (hMake k1) := by
  unfold hMake
  repeat' first
    | with_reducible exact h
    | decide
    | with_reducible apply zo_hTurn
    | with_reducible apply zo_hQue
    | with_reducible apply zo_hDo
    | with_reducible apply zo_hPass
    | with_reducible apply zo_hDead
    | with_reducible apply zo_hDeadN
    | with_reducible apply zo_hDead1
    | with_reducible apply zo_hWake
    | with_reducible apply zo_hWakeN
    | with_reducible apply zo_hExec
    | with_reducible apply zo_hExec2
    | with_reducible apply zo_hStaC
    | with_reducible apply zo_hSetC
    | with_reducible apply zo_hOpen
    | with_reducible apply zo_hOpenK
    | with_reducible apply zo_hClose
    | with_reducible apply zo_hEndT
    | with_reducible apply zo_hEndT2
    | with_reducible apply zo_hEndT3
    | with_reducible apply zo_hWakeO
    | with_reducible apply zo_hFailO
    | with_reducible apply zo_hLeave
    | with_reducible apply zo_hLeave2
    | with_reducible apply zo_hBeh
    | with_reducible apply zo_hReg
    | with_reducible apply zo_hEnd
    | with_reducible apply zo_hCleanC
    | with_reducible apply zo_hCleanI
    | with_reducible apply zo_hSimple
    | with_reducible apply zo_hFInC
    | with_reducible apply zo_hFInC2
    | with_reducible apply zo_xChoose
    | with_reducible apply zo_xChoose2
    | with_reducible apply zo_xReceive
    | with_reducible apply zo_xTake
    | with_reducible apply zo_xSend
    | with_reducible apply zo_xRecv
    | with_reducible apply zo_wRemove
    | with_reducible apply zo_wCancel
    | with_reducible apply zo_wCanN
    | with_reducible apply zo_wFail
    | with_reducible apply zo_wIntr
    | with_reducible apply zo_wWake
    | with_reducible apply zo_wGive
    | with_reducible apply zo_wSupp
    | with_reducible apply zo_wReady
    | with_reducible apply zo_wStart
    | with_reducible apply zo_fClr
    | with_reducible apply zo_fAdd
    | with_reducible apply zo_chTak
    | with_reducible apply zo_chAdd
    | with_reducible apply zo_sAddC
    | with_reducible apply zo_sAdd
    | with_reducible apply zo_tWait
    | with_reducible apply zo_tSleep
    | with_reducible apply zo_tEnter
    | with_reducible apply zo_tAdd
    | with_reducible apply zo_tGive
    | with_reducible apply zo_chSh
    | with_reducible apply zo_bCpL
    | with_reducible apply zo_lClr
    | with_reducible apply zo_lTak
    | with_reducible apply zo_lAdd
    | with_reducible apply zo_rClr
    | with_reducible apply zo_rChg
    | with_reducible apply zo_rPut
    | with_reducible apply zWo.ua
    | with_reducible apply zWo.up
    | split
end ZWO
