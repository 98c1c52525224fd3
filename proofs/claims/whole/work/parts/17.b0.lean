/-! constructors: contracts (written by program: wip/whole/gen_ctor.py) -/
theorem an_ar_loc {cI : ClassId} {n : Nat} (a : Nat) (H H1 : Heap) (h : ∀ q, a ≤ q → q < a + 1 → H1[q]? = H[q]?) (j : an_ar cI a n H) : an_ar cI a n H1 := (h a (Nat.le_refl _) (Nat.lt_succ_self _)).trans j
def an_tt : Heap → Prop := fun _ => True
def an_cj (X P : Heap → Prop) : Heap → Prop := fun H => X H ∧ P H
def an_lo (a b : Nat) (X : Heap → Prop) : Prop := ∀ H H1 : Heap, (∀ q, q < b → q ≠ a → H1[q]? = H[q]?) → X H → X H1
theorem an_lo_c {a b b1 a1 len : Nat} {X P : Heap → Prop} (h : an_lo a b X) (hP : ∀ H H1 : Heap, (∀ q, a1 ≤ q → q < a1 + len → H1[q]? = H[q]?) → P H → P H1) (e1 : b ≤ b1) (e2 : a < a1) (e3 : a1 + len ≤ b1) : an_lo a b1 (an_cj X P) :=
  fun H H1 k x => ⟨h H H1 (fun q q1 q2 => k q (by omega) q2) x.1, hP H H1 (fun q q1 q2 => k q (by omega) (by omega)) x.2⟩
theorem an_mul (a b : Nat) : nI a * nI b = nI (a * b) := (Int32.ofNat_mul a b).symm
theorem uw_3 : (Jvm.Cond.initialized "java/lang/Math") ∈ am_tb := am_t1 3 (by decide +kernel) rfl
theorem uw_6 : (Jvm.Cond.initialized "CoroutineScheduler$Row") ∈ am_tb := am_t1 6 (by decide +kernel) rfl
theorem uw_34 : (Jvm.Cond.instanceMethod ({ cls := "java/lang/Object", name := "<init>", desc := "()V" } : Jvm.MethodName)) ∈ am_tb := am_t1 34 (by decide +kernel) rfl
theorem uw_35 : (Jvm.Cond.code ({ cls := "java/lang/Object", name := "<init>", desc := "()V" } : Jvm.MethodName) object_method_1_code (1 : Nat) (Option.none : Option Jvm.ClassFile.FieldType)) ∈ am_tb := am_t1 35 (by decide +kernel) rfl
theorem uw_41 : (Jvm.Cond.methodLink "CoroutineScheduler$Line" (3 : Nat) ({ cls := "java/lang/Object", name := "<init>", desc := "()V" } : Jvm.MethodName)) ∈ am_tb := am_t1 41 (by decide +kernel) rfl
theorem uw_42 : (Jvm.Cond.methodLink "CoroutineScheduler$Line" (9 : Nat) ({ cls := "java/lang/Math", name := "max", desc := "(II)I" } : Jvm.MethodName)) ∈ am_tb := am_t1 42 (by decide +kernel) rfl
theorem uw_43 : (Jvm.Cond.static ({ cls := "java/lang/Math", name := "max", desc := "(II)I" } : Jvm.MethodName)) ∈ am_tb := am_t1 43 (by decide +kernel) rfl
theorem uw_44 : (Jvm.Cond.code ({ cls := "java/lang/Math", name := "max", desc := "(II)I" } : Jvm.MethodName) prog_23_method_65_code (2 : Nat) (Option.some Jvm.ClassFile.FieldType.int)) ∈ am_tb := am_t1 44 (by decide +kernel) rfl
theorem uw_45 : (Jvm.Cond.fieldLink "CoroutineScheduler$Line" (15 : Nat) "CoroutineScheduler$Line" "cells" "[I") ∈ am_tb := am_t1 45 (by decide +kernel) rfl
theorem uw_52 : (Jvm.Cond.arrayClass Jvm.ClassFile.FieldType.int) ∈ am_tb := am_t1 52 (by decide +kernel) rfl
theorem uw_64 : (Jvm.Cond.methodLink "CoroutineScheduler$Book" (3 : Nat) ({ cls := "java/lang/Object", name := "<init>", desc := "()V" } : Jvm.MethodName)) ∈ am_tb := am_t1 64 (by decide +kernel) rfl
theorem uw_65 : (Jvm.Cond.classLink "CoroutineScheduler$Book" (9 : Nat) "CoroutineScheduler$Row") ∈ am_tb := am_t1 65 (by decide +kernel) rfl
theorem uw_66 : (Jvm.Cond.instantiable "CoroutineScheduler$Row" (1 : Nat)) ∈ am_tb := am_t1 66 (by decide +kernel) rfl
theorem uw_67 : (Jvm.Cond.methodLink "CoroutineScheduler$Book" (11 : Nat) ({ cls := "CoroutineScheduler$Row", name := "<init>", desc := "(I)V" } : Jvm.MethodName)) ∈ am_tb := am_t1 67 (by decide +kernel) rfl
theorem uw_68 : (Jvm.Cond.instanceMethod ({ cls := "CoroutineScheduler$Row", name := "<init>", desc := "(I)V" } : Jvm.MethodName)) ∈ am_tb := am_t1 68 (by decide +kernel) rfl
theorem uw_69 : (Jvm.Cond.code ({ cls := "CoroutineScheduler$Row", name := "<init>", desc := "(I)V" } : Jvm.MethodName) prog_8_method_1_code (2 : Nat) (Option.none : Option Jvm.ClassFile.FieldType)) ∈ am_tb := am_t1 69 (by decide +kernel) rfl
theorem uw_70 : (Jvm.Cond.methodLink "CoroutineScheduler$Row" (1 : Nat) ({ cls := "java/lang/Object", name := "<init>", desc := "()V" } : Jvm.MethodName)) ∈ am_tb := am_t1 70 (by decide +kernel) rfl
theorem uw_71 : (Jvm.Cond.methodLink "CoroutineScheduler$Row" (7 : Nat) ({ cls := "java/lang/Math", name := "max", desc := "(II)I" } : Jvm.MethodName)) ∈ am_tb := am_t1 71 (by decide +kernel) rfl
theorem uw_72 : (Jvm.Cond.fieldLink "CoroutineScheduler$Row" (13 : Nat) "CoroutineScheduler$Row" "cells" "[I") ∈ am_tb := am_t1 72 (by decide +kernel) rfl
theorem uw_76 : (Jvm.Cond.fieldLink "CoroutineScheduler$Book" (14 : Nat) "CoroutineScheduler$Book" "lengths" "LCoroutineScheduler$Row;") ∈ am_tb := am_t1 76 (by decide +kernel) rfl
theorem uw_77 : (Jvm.Cond.fieldLink "CoroutineScheduler$Book" (20 : Nat) "CoroutineScheduler$Book" "cells" "LCoroutineScheduler$Row;") ∈ am_tb := am_t1 77 (by decide +kernel) rfl
theorem uw_269 : (Jvm.Cond.methodLink "CoroutineScheduler$Channels" (3 : Nat) ({ cls := "java/lang/Object", name := "<init>", desc := "()V" } : Jvm.MethodName)) ∈ am_tb := am_t1 269 (by decide +kernel) rfl
theorem uw_270 : (Jvm.Cond.classLink "CoroutineScheduler$Channels" (9 : Nat) "CoroutineScheduler$Row") ∈ am_tb := am_t1 270 (by decide +kernel) rfl
theorem uw_271 : (Jvm.Cond.methodLink "CoroutineScheduler$Channels" (11 : Nat) ({ cls := "CoroutineScheduler$Row", name := "<init>", desc := "(I)V" } : Jvm.MethodName)) ∈ am_tb := am_t1 271 (by decide +kernel) rfl
theorem uw_272 : (Jvm.Cond.fieldLink "CoroutineScheduler$Channels" (14 : Nat) "CoroutineScheduler$Channels" "rooms" "LCoroutineScheduler$Row;") ∈ am_tb := am_t1 272 (by decide +kernel) rfl
theorem uw_275 : (Jvm.Cond.fieldLink "CoroutineScheduler$Channels" (20 : Nat) "CoroutineScheduler$Channels" "sizes" "LCoroutineScheduler$Row;") ∈ am_tb := am_t1 275 (by decide +kernel) rfl
theorem uw_280 : (Jvm.Cond.fieldLink "CoroutineScheduler$Channels" (23 : Nat) "CoroutineScheduler$Channels" "cells" "LCoroutineScheduler$Row;") ∈ am_tb := am_t1 280 (by decide +kernel) rfl
def an_row (D : va_G) (cI : ClassId) (n : Nat) (a : Nat) (H : Heap) : Prop := an_at D 6 a [.ref (a + 1)] H ∧ an_ar cI (a + 1) (n) H
theorem an_row_loc {D : va_G} {cI : ClassId} {n : Nat} (a : Nat) (H H1 : Heap) (h : ∀ q, a ≤ q → q < a + 2 → H1[q]? = H[q]?) (j : an_row D cI (n) (a) H) : an_row D cI (n) (a) H1 := by
  obtain ⟨j0, j1⟩ := j
  exact ⟨an_mv (h a (by omega) (by omega)) j0, an_ar_loc (a + 1) H H1 (fun q q1 q2 => h q (by omega) (by omega)) j1⟩
theorem c_X6_init (l : Launch) (D : va_G) (cI : ClassId) (n : Nat) (hn : n ≤ 2000) : an_Met l D cI yX6_init (Cond.code yX6_init cX6_init 2 none :: am_tb) { frames := 1, cells := 1, slots := (n), locals := 40 } 6 [.null] [.int (nI n)] (fun _ _ => True) 1 ((n)) (an_row D cI n) := by
  intro a
  refine Met.ofW (cc := cX6_init) (maxL := 2) (ret := none) (by decide +kernel) rfl ?_
  intro p e s m args below meth c s₁ B hml hv
  obtain ⟨rfl, hat, hsz, hE, hK, hfI⟩ := hv
  have hF := (⟨B.exec, B.bytes, hml, findClass_of_methodNamed B.named, atoms_spec (ws := Cond.code yX6_init cX6_init 2 none :: am_tb) B.pre⟩ : CallFix p m c cX6_init 2 s _ (Cond.code yX6_init cX6_init 2 none :: am_tb) yX6_init.cls)
  have hts := hF.2.2.2.2
  have hin : meth.name = "<init>" := (name_of_methodNamed B.named B.method).1
  have hl := lv_entry ([.ref a, .int (nI n)]) (n := 2) (Nat.le_of_ble_eq_true rfl)
  rw [lg_entry_eq]
  generalize (lg_sl ([.ref a, .int (nI n)]) ++ List.replicate (2 - (lg_sl ([.ref a, .int (nI n)])).length) Slot.unset).toArray = ls at hl ⊢
  have hl : lv_has ls 2 [(0, .ref a), (1, .int (nI n))] := hl
  have J0 : an_J D s 6 a [.null] s.heap 0 [] := ⟨hat, rfl, fun _ h => absurd h List.not_mem_nil, by omega⟩
  have kp0 : an_kp a s.heap s.heap := an_kp.rf
  have x0 : an_tt s.heap := trivial
  have lo0 : an_lo a (a + 1) an_tt := fun _ _ _ h => h
  refine lv_aload_n hF.1 hF.2.1 dX6_init_0 rfl (hl.2.2 _ (.head _)) ?_
  refine W.objInit hF.1 hF.2.1 hF.2.2.2.1 (hts _ (List.mem_cons_of_mem _ uw_70)) (hts _ (List.mem_cons_of_mem _ uw_34)) (hts _ (List.mem_cons_of_mem _ uw_35)) rfl (hl.1.trans hF.2.2.1.symm) rfl dX6_init_1 (Nat.le_of_ble_eq_true rfl) (Nat.le_of_ble_eq_true rfl) ?_
  refine W.eq (g2 := F0 m 4 ls []) rfl ?_
  refine lv_aload_n hF.1 hF.2.1 dX6_init_4 rfl (hl.2.2 _ (.head _)) ?_
  refine lv_iload_n hF.1 hF.2.1 dX6_init_5 rfl (hl.2.2 _ (.tail _ (.head _))) ?_
  refine lv_iconst (v := 0) hF.1 hF.2.1 dX6_init_6 rfl ?_
  refine va_mmax hF.1 hF.2.1 (hF.2.2.1.trans hl.1.symm) hF.2.2.2.1 (hts _ (List.mem_cons_of_mem _ uw_71)) (hts _ (List.mem_cons_of_mem _ uw_43)) (hts _ (List.mem_cons_of_mem _ uw_3)) (hts _ (List.mem_cons_of_mem _ uw_44)) (Nat.le_of_ble_eq_true rfl) (Nat.le_of_ble_eq_true rfl) (by show 0 ≤ 1; omega) (by show 0 ≤ n; omega) dX6_init_7 ?_
  rw [an_max (show n < 2 ^ 31 by omega)]
  refine an_newa hF.1 hF.2.1 (hts _ (List.mem_cons_of_mem _ uw_52)) hfI J0 (N := n) (nI_pos (by omega)) (nI_clamp (by omega)) (by omega) (by show 1 ≤ 1; omega) (by show 0 + n ≤ ((n)); omega) dX6_init_10 (fun H1 J1 f1_1 k1 => ?_)
  have z1 : s.heap.size = a + 1 := by have := J0.2.1; omega
  rw [z1] at f1_1 ⊢
  have x1 := lo0 _ _ (fun q q1 q2 => k1 q (by have := J0.2.1; omega) (by omega)) x0
  have kp1 : an_kp a s.heap H1 := kp0.tr k1 (by have := J0.2.1; omega)
  have lo1 := an_lo_c (P := fun H => an_ar cI (a + 1) (n) H) (b1 := a + 1 + 1) lo0 (an_ar_loc (a + 1)) (by omega) (by omega) (by omega)
  have w1 : an_cj _ (fun H => an_ar cI (a + 1) (n) H) _ := And.intro x1 f1_1
  refine an_put (ty := tyX6 0) hF.1 hF.2.1 hts (fun w h => List.mem_cons_of_mem _ (iu_X6 w h)) tyX6 tyX6_ok nmX6 hF.2.2.2.1 hK J1 rfl 0 (by decide) (hts _ (List.mem_cons_of_mem _ uw_72)) (fun _ h => h) hin rfl (tyX6_ok 0 (by decide)) rfl rfl (Nat.le_of_ble_eq_true rfl) dX6_init_12 (fun H2 locs2 J2 k2 => ?_)
  have J2 : an_J D s 6 a [.ref (a + 1)] H2 1 locs2 := J2
  have x2 := lo1 _ _ (fun q q1 q2 => k2 q (by have := J1.2.1; omega) (by omega)) w1
  have kp2 : an_kp a s.heap H2 := kp1.tr k2 (by have := J1.2.1; omega)
  clear k2 w1 kp1 x1 z1 k1 f1_1 J1
  obtain ⟨-, y0⟩ := x2
  refine W.widen (k := 1) (n := ((n))) (by omega) (by omega) ?_
  exact an_fin (P := an_row D cI n) hF.1 hF.2.1 B.returns B.notSynchronized J2 kp2 hsz ⟨J2.1, y0⟩ dX6_init_15
def an_line (D : va_G) (cI : ClassId) (n : Nat) (a : Nat) (H : Heap) : Prop := an_at D 4 a [.ref (a + 1), .int 0] H ∧ an_ar cI (a + 1) (n) H
theorem an_line_loc {D : va_G} {cI : ClassId} {n : Nat} (a : Nat) (H H1 : Heap) (h : ∀ q, a ≤ q → q < a + 2 → H1[q]? = H[q]?) (j : an_line D cI (n) (a) H) : an_line D cI (n) (a) H1 := by
  obtain ⟨j0, j1⟩ := j
  exact ⟨an_mv (h a (by omega) (by omega)) j0, an_ar_loc (a + 1) H H1 (fun q q1 q2 => h q (by omega) (by omega)) j1⟩
theorem c_X4_init (l : Launch) (D : va_G) (cI : ClassId) (n : Nat) (hn : n ≤ 2000) : an_Met l D cI yX4_init (Cond.code yX4_init cX4_init 2 none :: am_tb) { frames := 1, cells := 1, slots := (n), locals := 40 } 4 [.null, .int 0] [.int (nI n)] (fun _ _ => True) 1 ((n)) (an_line D cI n) := by
  intro a
  refine Met.ofW (cc := cX4_init) (maxL := 2) (ret := none) (by decide +kernel) rfl ?_
  intro p e s m args below meth c s₁ B hml hv
  obtain ⟨rfl, hat, hsz, hE, hK, hfI⟩ := hv
  have hF := (⟨B.exec, B.bytes, hml, findClass_of_methodNamed B.named, atoms_spec (ws := Cond.code yX4_init cX4_init 2 none :: am_tb) B.pre⟩ : CallFix p m c cX4_init 2 s _ (Cond.code yX4_init cX4_init 2 none :: am_tb) yX4_init.cls)
  have hts := hF.2.2.2.2
  have hin : meth.name = "<init>" := (name_of_methodNamed B.named B.method).1
  have hl := lv_entry ([.ref a, .int (nI n)]) (n := 2) (Nat.le_of_ble_eq_true rfl)
  rw [lg_entry_eq]
  generalize (lg_sl ([.ref a, .int (nI n)]) ++ List.replicate (2 - (lg_sl ([.ref a, .int (nI n)])).length) Slot.unset).toArray = ls at hl ⊢
  have hl : lv_has ls 2 [(0, .ref a), (1, .int (nI n))] := hl
  have J0 : an_J D s 4 a [.null, .int 0] s.heap 0 [] := ⟨hat, rfl, fun _ h => absurd h List.not_mem_nil, by omega⟩
  have kp0 : an_kp a s.heap s.heap := an_kp.rf
  have x0 : an_tt s.heap := trivial
  have lo0 : an_lo a (a + 1) an_tt := fun _ _ _ h => h
  refine lv_aload_n hF.1 hF.2.1 dX4_init_0 rfl (hl.2.2 _ (.head _)) ?_
  refine W.objInit hF.1 hF.2.1 hF.2.2.2.1 (hts _ (List.mem_cons_of_mem _ uw_41)) (hts _ (List.mem_cons_of_mem _ uw_34)) (hts _ (List.mem_cons_of_mem _ uw_35)) rfl (hl.1.trans hF.2.2.1.symm) rfl dX4_init_1 (Nat.le_of_ble_eq_true rfl) (Nat.le_of_ble_eq_true rfl) ?_
  refine W.eq (g2 := F0 m 4 ls []) rfl ?_
  refine lv_aload_n hF.1 hF.2.1 dX4_init_4 rfl (hl.2.2 _ (.head _)) ?_
  refine lv_iload_n hF.1 hF.2.1 dX4_init_5 rfl (hl.2.2 _ (.tail _ (.head _))) ?_
  refine lv_iconst (v := 0) hF.1 hF.2.1 dX4_init_6 rfl ?_
  refine va_mmax hF.1 hF.2.1 (hF.2.2.1.trans hl.1.symm) hF.2.2.2.1 (hts _ (List.mem_cons_of_mem _ uw_42)) (hts _ (List.mem_cons_of_mem _ uw_43)) (hts _ (List.mem_cons_of_mem _ uw_3)) (hts _ (List.mem_cons_of_mem _ uw_44)) (Nat.le_of_ble_eq_true rfl) (Nat.le_of_ble_eq_true rfl) (by show 0 ≤ 1; omega) (by show 0 ≤ n; omega) dX4_init_7 ?_
  rw [an_max (show n < 2 ^ 31 by omega)]
  refine an_newa hF.1 hF.2.1 (hts _ (List.mem_cons_of_mem _ uw_52)) hfI J0 (N := n) (nI_pos (by omega)) (nI_clamp (by omega)) (by omega) (by show 1 ≤ 1; omega) (by show 0 + n ≤ ((n)); omega) dX4_init_10 (fun H1 J1 f1_1 k1 => ?_)
  have z1 : s.heap.size = a + 1 := by have := J0.2.1; omega
  rw [z1] at f1_1 ⊢
  have x1 := lo0 _ _ (fun q q1 q2 => k1 q (by have := J0.2.1; omega) (by omega)) x0
  have kp1 : an_kp a s.heap H1 := kp0.tr k1 (by have := J0.2.1; omega)
  have lo1 := an_lo_c (P := fun H => an_ar cI (a + 1) (n) H) (b1 := a + 1 + 1) lo0 (an_ar_loc (a + 1)) (by omega) (by omega) (by omega)
  have w1 : an_cj _ (fun H => an_ar cI (a + 1) (n) H) _ := And.intro x1 f1_1
  refine an_put (ty := tyX4 0) hF.1 hF.2.1 hts (fun w h => List.mem_cons_of_mem _ (iu_X4 w h)) tyX4 tyX4_ok nmX4 hF.2.2.2.1 hK J1 rfl 0 (by decide) (hts _ (List.mem_cons_of_mem _ uw_45)) (fun _ h => h) hin rfl (tyX4_ok 0 (by decide)) rfl rfl (Nat.le_of_ble_eq_true rfl) dX4_init_12 (fun H2 locs2 J2 k2 => ?_)
  have J2 : an_J D s 4 a [.ref (a + 1), .int 0] H2 1 locs2 := J2
  have x2 := lo1 _ _ (fun q q1 q2 => k2 q (by have := J1.2.1; omega) (by omega)) w1
  have kp2 : an_kp a s.heap H2 := kp1.tr k2 (by have := J1.2.1; omega)
  clear k2 w1 kp1 x1 z1 k1 f1_1 J1
  obtain ⟨-, y0⟩ := x2
  refine W.widen (k := 1) (n := ((n))) (by omega) (by omega) ?_
  exact an_fin (P := an_line D cI n) hF.1 hF.2.1 B.returns B.notSynchronized J2 kp2 hsz ⟨J2.1, y0⟩ dX4_init_15
def an_book (D : va_G) (cI : ClassId) (n : Nat) (a : Nat) (H : Heap) : Prop := an_at D 0 a [.ref (a + 1), .ref (a + 3)] H ∧ an_row D cI (n) (a + 1) H ∧ an_row D cI (n * 24) (a + 3) H
theorem an_book_loc {D : va_G} {cI : ClassId} {n : Nat} (a : Nat) (H H1 : Heap) (h : ∀ q, a ≤ q → q < a + 5 → H1[q]? = H[q]?) (j : an_book D cI (n) (a) H) : an_book D cI (n) (a) H1 := by
  obtain ⟨j0, j1, j2⟩ := j
  exact ⟨an_mv (h a (by omega) (by omega)) j0, an_row_loc (a + 1) H H1 (fun q q1 q2 => h q (by omega) (by omega)) j1, an_row_loc (a + 3) H H1 (fun q q1 q2 => h q (by omega) (by omega)) j2⟩
theorem c_X0_init (l : Launch) (D : va_G) (cI : ClassId) (n : Nat) (hn : n ≤ 60) : an_Met l D cI yX0_init (Cond.code yX0_init cX0_init 2 none :: am_tb) { frames := 2, cells := 4, slots := 1 + (((n))) + 1 + (((n * 24))), locals := 80 } 0 [.null, .null] [.int (nI n)] (fun _ _ => True) 4 (1 + (((n))) + 1 + (((n * 24)))) (an_book D cI n) := by
  intro a
  refine Met.ofW (cc := cX0_init) (maxL := 2) (ret := none) (by decide +kernel) rfl ?_
  intro p e s m args below meth c s₁ B hml hv
  obtain ⟨rfl, hat, hsz, hE, hK, hfI⟩ := hv
  have hF := (⟨B.exec, B.bytes, hml, findClass_of_methodNamed B.named, atoms_spec (ws := Cond.code yX0_init cX0_init 2 none :: am_tb) B.pre⟩ : CallFix p m c cX0_init 2 s _ (Cond.code yX0_init cX0_init 2 none :: am_tb) yX0_init.cls)
  have hts := hF.2.2.2.2
  have hin : meth.name = "<init>" := (name_of_methodNamed B.named B.method).1
  have hl := lv_entry ([.ref a, .int (nI n)]) (n := 2) (Nat.le_of_ble_eq_true rfl)
  rw [lg_entry_eq]
  generalize (lg_sl ([.ref a, .int (nI n)]) ++ List.replicate (2 - (lg_sl ([.ref a, .int (nI n)])).length) Slot.unset).toArray = ls at hl ⊢
  have hl : lv_has ls 2 [(0, .ref a), (1, .int (nI n))] := hl
  have J0 : an_J D s 0 a [.null, .null] s.heap 0 [] := ⟨hat, rfl, fun _ h => absurd h List.not_mem_nil, by omega⟩
  have kp0 : an_kp a s.heap s.heap := an_kp.rf
  have x0 : an_tt s.heap := trivial
  have lo0 : an_lo a (a + 1) an_tt := fun _ _ _ h => h
  refine lv_aload_n hF.1 hF.2.1 dX0_init_0 rfl (hl.2.2 _ (.head _)) ?_
  refine W.objInit hF.1 hF.2.1 hF.2.2.2.1 (hts _ (List.mem_cons_of_mem _ uw_64)) (hts _ (List.mem_cons_of_mem _ uw_34)) (hts _ (List.mem_cons_of_mem _ uw_35)) rfl (hl.1.trans hF.2.2.1.symm) rfl dX0_init_1 (Nat.le_of_ble_eq_true rfl) (Nat.le_of_ble_eq_true rfl) ?_
  refine W.eq (g2 := F0 m 4 ls []) rfl ?_
  refine lv_aload_n hF.1 hF.2.1 dX0_init_4 rfl (hl.2.2 _ (.head _)) ?_
  refine an_new (cj := 6) (gs := [.null]) (C := RX6) (T := TX6) (N := 1) hF.1 hF.2.1 hts (fun w h => List.mem_cons_of_mem _ (iu_X6 w h)) tyX6 tyX6_ok hF.2.2.2.1 (hts _ (List.mem_cons_of_mem _ uw_65)) (hts _ (List.mem_cons_of_mem _ uw_66)) (hts _ (List.mem_cons_of_mem _ uw_6)) hK J0 rfl (by decide +kernel) (by show 1 ≤ 4; omega) (by show 0 + 1 ≤ (1 + (((n))) + 1 + (((n * 24)))); omega) dX0_init_5 (fun H1 J1 g1 k1 => ?_)
  have z1 : s.heap.size = a + 1 := by have := J0.2.1; omega
  rw [z1] at g1 ⊢
  have x1 := lo0 _ _ (fun q q1 q2 => k1 q (by have := J0.2.1; omega) (by omega)) x0
  have kp1 : an_kp a s.heap H1 := kp0.tr k1 (by have := J0.2.1; omega)
  refine lv_dup hF.1 hF.2.1 dX0_init_8 rfl ?_
  refine lv_iload_n hF.1 hF.2.1 dX0_init_9 rfl (hl.2.2 _ (.tail _ (.head _))) ?_
  refine an_call (mc := 1) (ms := ((n))) (a1 := a + 1) (n := 1) (va_runI (As := [.int (nI (n))]) hF (c_X6_init l D cI (n) (by omega) (a + 1)) (cwI 1 hF.2.2.2.2 (am_gi uw_69) rfl rfl rfl (hts _ (List.mem_cons_of_mem _ uw_6)) (hts _ (List.mem_cons_of_mem _ uw_67)) (hts _ (List.mem_cons_of_mem _ uw_68)) rfl (by decide +kernel) ⟨Nat.le_of_ble_eq_true rfl, Nat.le_of_ble_eq_true rfl⟩) ⟨an_blind (D := D) (a := a + 1) (ci := 6) (cI := cI) (dfs := [.null]) (ex := [.int (nI (n))]) (E := (fun _ _ => True)), fun U hU hW => ⟨rfl, by rw [hU]; exact g1, by rw [hU]; have := J1.2.1; omega, by rw [hU]; exact trivial, va_K.moved hW.alike hK, by rw [hW.alike.findClass]; exact hfI⟩⟩ rfl rfl hl.1 rfl (Nat.le_of_ble_eq_true rfl) dX0_init_10 ⟨by show 2 ≤ 4; omega, by show 0 + 1 + ((n)) ≤ (1 + (((n))) + 1 + (((n * 24)))); omega⟩) (by omega) J1 rfl (by have := J1.2.1; omega) (by omega) (fun H2 J2 f2_2 k2 => ?_)
  have x2 := lo0 _ _ (fun q q1 q2 => k2 q (by have := J1.2.1; omega) (by omega)) x1
  have kp2 : an_kp a s.heap H2 := fun q q1 q2 => (k2 q (by have := J1.2.1; omega) (by omega)).trans (kp1 q q1 q2)
  have lo2 := an_lo_c (P := fun H => an_row D cI (n) (a + 1) H) (b1 := a + 1 + 2) lo0 (an_row_loc (a + 1)) (by omega) (by omega) (by omega)
  have w2 : an_cj _ (fun H => an_row D cI (n) (a + 1) H) _ := And.intro x2 f2_2
  refine an_put (ty := tyX0 0) hF.1 hF.2.1 hts (fun w h => List.mem_cons_of_mem _ (iu_X0 w h)) tyX0 tyX0_ok nmX0 hF.2.2.2.1 hK J2 rfl 0 (by decide) (hts _ (List.mem_cons_of_mem _ uw_76)) (fun _ h => h) hin rfl (tyX0_ok 0 (by decide)) rfl rfl (Nat.le_of_ble_eq_true rfl) dX0_init_13 (fun H3 locs3 J3 k3 => ?_)
  have J3 : an_J D s 0 a [.ref (a + 1), .null] H3 2 locs3 := J3
  have x3 := lo2 _ _ (fun q q1 q2 => k3 q (by have := J2.2.1; omega) (by omega)) w2
  have kp3 : an_kp a s.heap H3 := kp2.tr k3 (by have := J2.2.1; omega)
  clear k3 w2 kp2 x2 k2 f2_2 J2 kp1 x1 z1 k1 g1 J1
  refine lv_aload_n hF.1 hF.2.1 dX0_init_16 rfl (hl.2.2 _ (.head _)) ?_
  refine an_new (cj := 6) (gs := [.null]) (C := RX6) (T := TX6) (N := 1) hF.1 hF.2.1 hts (fun w h => List.mem_cons_of_mem _ (iu_X6 w h)) tyX6 tyX6_ok hF.2.2.2.1 (hts _ (List.mem_cons_of_mem _ uw_65)) (hts _ (List.mem_cons_of_mem _ uw_66)) (hts _ (List.mem_cons_of_mem _ uw_6)) hK J3 rfl (by decide +kernel) (by show 3 ≤ 4; omega) (by show 0 + 1 + (((n))) + 1 ≤ (1 + (((n))) + 1 + (((n * 24)))); omega) dX0_init_17 (fun H4 J4 g4 k4 => ?_)
  have z4 : H3.size = a + 3 := by have := J3.2.1; omega
  rw [z4] at g4 ⊢
  have x4 := lo2 _ _ (fun q q1 q2 => k4 q (by have := J3.2.1; omega) (by omega)) x3
  have kp4 : an_kp a s.heap H4 := kp3.tr k4 (by have := J3.2.1; omega)
  refine lv_dup hF.1 hF.2.1 dX0_init_20 rfl ?_
  refine lv_iload_n hF.1 hF.2.1 dX0_init_21 rfl (hl.2.2 _ (.tail _ (.head _))) ?_
  refine lv_bipush (v := nI 24) hF.1 hF.2.1 dX0_init_22 (by decide) ?_
  refine lv_imul hF.1 hF.2.1 dX0_init_24 ?_
  rw [an_mul]
  refine an_call (mc := 1) (ms := ((n * 24))) (a1 := a + 3) (n := 1) (va_runI (As := [.int (nI (n * 24))]) hF (c_X6_init l D cI (n * 24) (by omega) (a + 3)) (cwI 1 hF.2.2.2.2 (am_gi uw_69) rfl rfl rfl (hts _ (List.mem_cons_of_mem _ uw_6)) (hts _ (List.mem_cons_of_mem _ uw_67)) (hts _ (List.mem_cons_of_mem _ uw_68)) rfl (by decide +kernel) ⟨Nat.le_of_ble_eq_true rfl, Nat.le_of_ble_eq_true rfl⟩) ⟨an_blind (D := D) (a := a + 3) (ci := 6) (cI := cI) (dfs := [.null]) (ex := [.int (nI (n * 24))]) (E := (fun _ _ => True)), fun U hU hW => ⟨rfl, by rw [hU]; exact g4, by rw [hU]; have := J4.2.1; omega, by rw [hU]; exact trivial, va_K.moved hW.alike hK, by rw [hW.alike.findClass]; exact hfI⟩⟩ rfl rfl hl.1 rfl (Nat.le_of_ble_eq_true rfl) dX0_init_25 ⟨by show 4 ≤ 4; omega, by show 0 + 1 + (((n))) + 1 + ((n * 24)) ≤ (1 + (((n))) + 1 + (((n * 24)))); omega⟩) (by omega) J4 rfl (by have := J4.2.1; omega) (by omega) (fun H5 J5 f5_5 k5 => ?_)
  have x5 := lo2 _ _ (fun q q1 q2 => k5 q (by have := J4.2.1; omega) (by omega)) x4
  have kp5 : an_kp a s.heap H5 := fun q q1 q2 => (k5 q (by have := J4.2.1; omega) (by omega)).trans (kp4 q q1 q2)
  have lo5 := an_lo_c (P := fun H => an_row D cI (n * 24) (a + 3) H) (b1 := a + 3 + 2) lo2 (an_row_loc (a + 3)) (by omega) (by omega) (by omega)
  have w5 : an_cj _ (fun H => an_row D cI (n * 24) (a + 3) H) _ := And.intro x5 f5_5
  refine an_put (ty := tyX0 1) hF.1 hF.2.1 hts (fun w h => List.mem_cons_of_mem _ (iu_X0 w h)) tyX0 tyX0_ok nmX0 hF.2.2.2.1 hK J5 rfl 1 (by decide) (hts _ (List.mem_cons_of_mem _ uw_77)) (fun _ h => h) hin rfl (tyX0_ok 1 (by decide)) rfl rfl (Nat.le_of_ble_eq_true rfl) dX0_init_28 (fun H6 locs6 J6 k6 => ?_)
  have J6 : an_J D s 0 a [.ref (a + 1), .ref (a + 3)] H6 4 locs6 := J6
  have x6 := lo5 _ _ (fun q q1 q2 => k6 q (by have := J5.2.1; omega) (by omega)) w5
  have kp6 : an_kp a s.heap H6 := kp5.tr k6 (by have := J5.2.1; omega)
  clear k6 w5 kp5 x5 k5 f5_5 J5 kp4 x4 z4 k4 g4 J4 kp3 x3 J3 lo2
  obtain ⟨⟨-, y0⟩, y1⟩ := x6
  refine W.widen (k := 4) (n := (1 + (((n))) + 1 + (((n * 24))))) (by omega) (by omega) ?_
  exact an_fin (P := an_book D cI n) hF.1 hF.2.1 B.returns B.notSynchronized J6 kp6 hsz ⟨J6.1, y0, y1⟩ dX0_init_31
def an_chan (D : va_G) (cI : ClassId) (a : Nat) (H : Heap) : Prop := an_at D 1 a [.ref (a + 1), .ref (a + 3), .ref (a + 5)] H ∧ an_row D cI (4) (a + 1) H ∧ an_row D cI (4) (a + 3) H ∧ an_row D cI (12) (a + 5) H
theorem an_chan_loc {D : va_G} {cI : ClassId} (a : Nat) (H H1 : Heap) (h : ∀ q, a ≤ q → q < a + 7 → H1[q]? = H[q]?) (j : an_chan D cI (a) H) : an_chan D cI (a) H1 := by
  obtain ⟨j0, j1, j2, j3⟩ := j
  exact ⟨an_mv (h a (by omega) (by omega)) j0, an_row_loc (a + 1) H H1 (fun q q1 q2 => h q (by omega) (by omega)) j1, an_row_loc (a + 3) H H1 (fun q q1 q2 => h q (by omega) (by omega)) j2, an_row_loc (a + 5) H H1 (fun q q1 q2 => h q (by omega) (by omega)) j3⟩
theorem c_X1_init (l : Launch) (D : va_G) (cI : ClassId) : an_Met l D cI yX1_init (Cond.code yX1_init cX1_init 1 none :: am_tb) { frames := 2, cells := 6, slots := 1 + (((4))) + 1 + (((4))) + 1 + (((12))), locals := 80 } 1 [.null, .null, .null] [] (fun _ _ => True) 6 (1 + (((4))) + 1 + (((4))) + 1 + (((12)))) (an_chan D cI) := by
  intro a
  refine Met.ofW (cc := cX1_init) (maxL := 1) (ret := none) (by decide +kernel) rfl ?_
  intro p e s m args below meth c s₁ B hml hv
  obtain ⟨rfl, hat, hsz, hE, hK, hfI⟩ := hv
  have hF := (⟨B.exec, B.bytes, hml, findClass_of_methodNamed B.named, atoms_spec (ws := Cond.code yX1_init cX1_init 1 none :: am_tb) B.pre⟩ : CallFix p m c cX1_init 1 s _ (Cond.code yX1_init cX1_init 1 none :: am_tb) yX1_init.cls)
  have hts := hF.2.2.2.2
  have hin : meth.name = "<init>" := (name_of_methodNamed B.named B.method).1
  have hl := lv_entry ([.ref a]) (n := 1) (Nat.le_of_ble_eq_true rfl)
  rw [lg_entry_eq]
  generalize (lg_sl ([.ref a]) ++ List.replicate (1 - (lg_sl ([.ref a])).length) Slot.unset).toArray = ls at hl ⊢
  have hl : lv_has ls 1 [(0, .ref a)] := hl
  have J0 : an_J D s 1 a [.null, .null, .null] s.heap 0 [] := ⟨hat, rfl, fun _ h => absurd h List.not_mem_nil, by omega⟩
  have kp0 : an_kp a s.heap s.heap := an_kp.rf
  have x0 : an_tt s.heap := trivial
  have lo0 : an_lo a (a + 1) an_tt := fun _ _ _ h => h
  refine lv_aload_n hF.1 hF.2.1 dX1_init_0 rfl (hl.2.2 _ (.head _)) ?_
  refine W.objInit hF.1 hF.2.1 hF.2.2.2.1 (hts _ (List.mem_cons_of_mem _ uw_269)) (hts _ (List.mem_cons_of_mem _ uw_34)) (hts _ (List.mem_cons_of_mem _ uw_35)) rfl (hl.1.trans hF.2.2.1.symm) rfl dX1_init_1 (Nat.le_of_ble_eq_true rfl) (Nat.le_of_ble_eq_true rfl) ?_
  refine W.eq (g2 := F0 m 4 ls []) rfl ?_
  refine lv_aload_n hF.1 hF.2.1 dX1_init_4 rfl (hl.2.2 _ (.head _)) ?_
  refine an_new (cj := 6) (gs := [.null]) (C := RX6) (T := TX6) (N := 1) hF.1 hF.2.1 hts (fun w h => List.mem_cons_of_mem _ (iu_X6 w h)) tyX6 tyX6_ok hF.2.2.2.1 (hts _ (List.mem_cons_of_mem _ uw_270)) (hts _ (List.mem_cons_of_mem _ uw_66)) (hts _ (List.mem_cons_of_mem _ uw_6)) hK J0 rfl (by decide +kernel) (by show 1 ≤ 6; omega) (by show 0 + 1 ≤ (1 + (((4))) + 1 + (((4))) + 1 + (((12)))); omega) dX1_init_5 (fun H1 J1 g1 k1 => ?_)
  have z1 : s.heap.size = a + 1 := by have := J0.2.1; omega
  rw [z1] at g1 ⊢
  have x1 := lo0 _ _ (fun q q1 q2 => k1 q (by have := J0.2.1; omega) (by omega)) x0
  have kp1 : an_kp a s.heap H1 := kp0.tr k1 (by have := J0.2.1; omega)
  refine lv_dup hF.1 hF.2.1 dX1_init_8 rfl ?_
  refine lv_iconst (v := nI 4) hF.1 hF.2.1 dX1_init_9 (by decide) ?_
  refine an_call (mc := 1) (ms := ((4))) (a1 := a + 1) (n := 1) (va_runI (As := [.int (nI (4))]) hF (c_X6_init l D cI (4) (by omega) (a + 1)) (cwI 1 hF.2.2.2.2 (am_gi uw_69) rfl rfl rfl (hts _ (List.mem_cons_of_mem _ uw_6)) (hts _ (List.mem_cons_of_mem _ uw_271)) (hts _ (List.mem_cons_of_mem _ uw_68)) rfl (by decide +kernel) ⟨Nat.le_of_ble_eq_true rfl, Nat.le_of_ble_eq_true rfl⟩) ⟨an_blind (D := D) (a := a + 1) (ci := 6) (cI := cI) (dfs := [.null]) (ex := [.int (nI (4))]) (E := (fun _ _ => True)), fun U hU hW => ⟨rfl, by rw [hU]; exact g1, by rw [hU]; have := J1.2.1; omega, by rw [hU]; exact trivial, va_K.moved hW.alike hK, by rw [hW.alike.findClass]; exact hfI⟩⟩ rfl rfl hl.1 rfl (Nat.le_of_ble_eq_true rfl) dX1_init_10 ⟨by show 2 ≤ 6; omega, by show 0 + 1 + ((4)) ≤ (1 + (((4))) + 1 + (((4))) + 1 + (((12)))); omega⟩) (by omega) J1 rfl (by have := J1.2.1; omega) (by omega) (fun H2 J2 f2_2 k2 => ?_)
  have x2 := lo0 _ _ (fun q q1 q2 => k2 q (by have := J1.2.1; omega) (by omega)) x1
  have kp2 : an_kp a s.heap H2 := fun q q1 q2 => (k2 q (by have := J1.2.1; omega) (by omega)).trans (kp1 q q1 q2)
  have lo2 := an_lo_c (P := fun H => an_row D cI (4) (a + 1) H) (b1 := a + 1 + 2) lo0 (an_row_loc (a + 1)) (by omega) (by omega) (by omega)
  have w2 : an_cj _ (fun H => an_row D cI (4) (a + 1) H) _ := And.intro x2 f2_2
  refine an_put (ty := tyX1 0) hF.1 hF.2.1 hts (fun w h => List.mem_cons_of_mem _ (iu_X1 w h)) tyX1 tyX1_ok nmX1 hF.2.2.2.1 hK J2 rfl 0 (by decide) (hts _ (List.mem_cons_of_mem _ uw_272)) (fun _ h => h) hin rfl (tyX1_ok 0 (by decide)) rfl rfl (Nat.le_of_ble_eq_true rfl) dX1_init_13 (fun H3 locs3 J3 k3 => ?_)
  have J3 : an_J D s 1 a [.ref (a + 1), .null, .null] H3 2 locs3 := J3
  have x3 := lo2 _ _ (fun q q1 q2 => k3 q (by have := J2.2.1; omega) (by omega)) w2
  have kp3 : an_kp a s.heap H3 := kp2.tr k3 (by have := J2.2.1; omega)
  clear k3 w2 kp2 x2 k2 f2_2 J2 kp1 x1 z1 k1 g1 J1
  refine lv_aload_n hF.1 hF.2.1 dX1_init_16 rfl (hl.2.2 _ (.head _)) ?_
  refine an_new (cj := 6) (gs := [.null]) (C := RX6) (T := TX6) (N := 1) hF.1 hF.2.1 hts (fun w h => List.mem_cons_of_mem _ (iu_X6 w h)) tyX6 tyX6_ok hF.2.2.2.1 (hts _ (List.mem_cons_of_mem _ uw_270)) (hts _ (List.mem_cons_of_mem _ uw_66)) (hts _ (List.mem_cons_of_mem _ uw_6)) hK J3 rfl (by decide +kernel) (by show 3 ≤ 6; omega) (by show 0 + 1 + (((4))) + 1 ≤ (1 + (((4))) + 1 + (((4))) + 1 + (((12)))); omega) dX1_init_17 (fun H4 J4 g4 k4 => ?_)
  have z4 : H3.size = a + 3 := by have := J3.2.1; omega
  rw [z4] at g4 ⊢
  have x4 := lo2 _ _ (fun q q1 q2 => k4 q (by have := J3.2.1; omega) (by omega)) x3
  have kp4 : an_kp a s.heap H4 := kp3.tr k4 (by have := J3.2.1; omega)
  refine lv_dup hF.1 hF.2.1 dX1_init_20 rfl ?_
  refine lv_iconst (v := nI 4) hF.1 hF.2.1 dX1_init_21 (by decide) ?_
  refine an_call (mc := 1) (ms := ((4))) (a1 := a + 3) (n := 1) (va_runI (As := [.int (nI (4))]) hF (c_X6_init l D cI (4) (by omega) (a + 3)) (cwI 1 hF.2.2.2.2 (am_gi uw_69) rfl rfl rfl (hts _ (List.mem_cons_of_mem _ uw_6)) (hts _ (List.mem_cons_of_mem _ uw_271)) (hts _ (List.mem_cons_of_mem _ uw_68)) rfl (by decide +kernel) ⟨Nat.le_of_ble_eq_true rfl, Nat.le_of_ble_eq_true rfl⟩) ⟨an_blind (D := D) (a := a + 3) (ci := 6) (cI := cI) (dfs := [.null]) (ex := [.int (nI (4))]) (E := (fun _ _ => True)), fun U hU hW => ⟨rfl, by rw [hU]; exact g4, by rw [hU]; have := J4.2.1; omega, by rw [hU]; exact trivial, va_K.moved hW.alike hK, by rw [hW.alike.findClass]; exact hfI⟩⟩ rfl rfl hl.1 rfl (Nat.le_of_ble_eq_true rfl) dX1_init_22 ⟨by show 4 ≤ 6; omega, by show 0 + 1 + (((4))) + 1 + ((4)) ≤ (1 + (((4))) + 1 + (((4))) + 1 + (((12)))); omega⟩) (by omega) J4 rfl (by have := J4.2.1; omega) (by omega) (fun H5 J5 f5_5 k5 => ?_)
  have x5 := lo2 _ _ (fun q q1 q2 => k5 q (by have := J4.2.1; omega) (by omega)) x4
  have kp5 : an_kp a s.heap H5 := fun q q1 q2 => (k5 q (by have := J4.2.1; omega) (by omega)).trans (kp4 q q1 q2)
  have lo5 := an_lo_c (P := fun H => an_row D cI (4) (a + 3) H) (b1 := a + 3 + 2) lo2 (an_row_loc (a + 3)) (by omega) (by omega) (by omega)
  have w5 : an_cj _ (fun H => an_row D cI (4) (a + 3) H) _ := And.intro x5 f5_5
  refine an_put (ty := tyX1 1) hF.1 hF.2.1 hts (fun w h => List.mem_cons_of_mem _ (iu_X1 w h)) tyX1 tyX1_ok nmX1 hF.2.2.2.1 hK J5 rfl 1 (by decide) (hts _ (List.mem_cons_of_mem _ uw_275)) (fun _ h => h) hin rfl (tyX1_ok 1 (by decide)) rfl rfl (Nat.le_of_ble_eq_true rfl) dX1_init_25 (fun H6 locs6 J6 k6 => ?_)
  have J6 : an_J D s 1 a [.ref (a + 1), .ref (a + 3), .null] H6 4 locs6 := J6
  have x6 := lo5 _ _ (fun q q1 q2 => k6 q (by have := J5.2.1; omega) (by omega)) w5
  have kp6 : an_kp a s.heap H6 := kp5.tr k6 (by have := J5.2.1; omega)
  clear k6 w5 kp5 x5 k5 f5_5 J5 kp4 x4 z4 k4 g4 J4 kp3 x3 J3 lo2
  refine lv_aload_n hF.1 hF.2.1 dX1_init_28 rfl (hl.2.2 _ (.head _)) ?_
  refine an_new (cj := 6) (gs := [.null]) (C := RX6) (T := TX6) (N := 1) hF.1 hF.2.1 hts (fun w h => List.mem_cons_of_mem _ (iu_X6 w h)) tyX6 tyX6_ok hF.2.2.2.1 (hts _ (List.mem_cons_of_mem _ uw_270)) (hts _ (List.mem_cons_of_mem _ uw_66)) (hts _ (List.mem_cons_of_mem _ uw_6)) hK J6 rfl (by decide +kernel) (by show 5 ≤ 6; omega) (by show 0 + 1 + (((4))) + 1 + (((4))) + 1 ≤ (1 + (((4))) + 1 + (((4))) + 1 + (((12)))); omega) dX1_init_29 (fun H7 J7 g7 k7 => ?_)
  have z7 : H6.size = a + 5 := by have := J6.2.1; omega
  rw [z7] at g7 ⊢
  have x7 := lo5 _ _ (fun q q1 q2 => k7 q (by have := J6.2.1; omega) (by omega)) x6
  have kp7 : an_kp a s.heap H7 := kp6.tr k7 (by have := J6.2.1; omega)
  refine lv_dup hF.1 hF.2.1 dX1_init_32 rfl ?_
  refine lv_bipush (v := nI 12) hF.1 hF.2.1 dX1_init_33 (by decide) ?_
  refine an_call (mc := 1) (ms := ((12))) (a1 := a + 5) (n := 1) (va_runI (As := [.int (nI (12))]) hF (c_X6_init l D cI (12) (by omega) (a + 5)) (cwI 1 hF.2.2.2.2 (am_gi uw_69) rfl rfl rfl (hts _ (List.mem_cons_of_mem _ uw_6)) (hts _ (List.mem_cons_of_mem _ uw_271)) (hts _ (List.mem_cons_of_mem _ uw_68)) rfl (by decide +kernel) ⟨Nat.le_of_ble_eq_true rfl, Nat.le_of_ble_eq_true rfl⟩) ⟨an_blind (D := D) (a := a + 5) (ci := 6) (cI := cI) (dfs := [.null]) (ex := [.int (nI (12))]) (E := (fun _ _ => True)), fun U hU hW => ⟨rfl, by rw [hU]; exact g7, by rw [hU]; have := J7.2.1; omega, by rw [hU]; exact trivial, va_K.moved hW.alike hK, by rw [hW.alike.findClass]; exact hfI⟩⟩ rfl rfl hl.1 rfl (Nat.le_of_ble_eq_true rfl) dX1_init_35 ⟨by show 6 ≤ 6; omega, by show 0 + 1 + (((4))) + 1 + (((4))) + 1 + ((12)) ≤ (1 + (((4))) + 1 + (((4))) + 1 + (((12)))); omega⟩) (by omega) J7 rfl (by have := J7.2.1; omega) (by omega) (fun H8 J8 f8_8 k8 => ?_)
  have x8 := lo5 _ _ (fun q q1 q2 => k8 q (by have := J7.2.1; omega) (by omega)) x7
  have kp8 : an_kp a s.heap H8 := fun q q1 q2 => (k8 q (by have := J7.2.1; omega) (by omega)).trans (kp7 q q1 q2)
  have lo8 := an_lo_c (P := fun H => an_row D cI (12) (a + 5) H) (b1 := a + 5 + 2) lo5 (an_row_loc (a + 5)) (by omega) (by omega) (by omega)
  have w8 : an_cj _ (fun H => an_row D cI (12) (a + 5) H) _ := And.intro x8 f8_8
  refine an_put (ty := tyX1 2) hF.1 hF.2.1 hts (fun w h => List.mem_cons_of_mem _ (iu_X1 w h)) tyX1 tyX1_ok nmX1 hF.2.2.2.1 hK J8 rfl 2 (by decide) (hts _ (List.mem_cons_of_mem _ uw_280)) (fun _ h => h) hin rfl (tyX1_ok 2 (by decide)) rfl rfl (Nat.le_of_ble_eq_true rfl) dX1_init_38 (fun H9 locs9 J9 k9 => ?_)
  have J9 : an_J D s 1 a [.ref (a + 1), .ref (a + 3), .ref (a + 5)] H9 6 locs9 := J9
  have x9 := lo8 _ _ (fun q q1 q2 => k9 q (by have := J8.2.1; omega) (by omega)) w8
  have kp9 : an_kp a s.heap H9 := kp8.tr k9 (by have := J8.2.1; omega)
  clear k9 w8 kp8 x8 k8 f8_8 J8 kp7 x7 z7 k7 g7 J7 kp6 x6 J6 lo5
  obtain ⟨⟨⟨-, y0⟩, y1⟩, y2⟩ := x9
  refine W.widen (k := 6) (n := (1 + (((4))) + 1 + (((4))) + 1 + (((12))))) (by omega) (by omega) ?_
  exact an_fin (P := an_chan D cI) hF.1 hF.2.1 B.returns B.notSynchronized J9 kp9 hsz ⟨J9.1, y0, y1, y2⟩ dX1_init_41
