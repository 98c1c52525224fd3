/-! constructors: contracts of the rest (written by program: wip/whole/gen_ctor.py) -/
theorem uw_4 : (Jvm.Cond.initialized "CoroutineScheduler$Reader") ∈ am_tb := am_t1 4 (by decide +kernel) rfl
theorem uw_7 : (Jvm.Cond.initialized "CoroutineScheduler$World") ∈ am_tb := am_t1 7 (by decide +kernel) rfl
theorem uw_12 : (Jvm.Cond.initialized "CoroutineScheduler$Schedule") ∈ am_tb := am_t1 12 (by decide +kernel) rfl
theorem uw_13 : (Jvm.Cond.initialized "CoroutineScheduler$Exchange") ∈ am_tb := am_t1 13 (by decide +kernel) rfl
theorem uw_33 : (Jvm.Cond.methodLink "CoroutineScheduler" (3 : Nat) ({ cls := "java/lang/Object", name := "<init>", desc := "()V" } : Jvm.MethodName)) ∈ am_tb := am_t1 33 (by decide +kernel) rfl
theorem uw_36 : (Jvm.Cond.classLink "CoroutineScheduler" (9 : Nat) "CoroutineScheduler$Line") ∈ am_tb := am_t1 36 (by decide +kernel) rfl
theorem uw_38 : (Jvm.Cond.methodLink "CoroutineScheduler" (11 : Nat) ({ cls := "CoroutineScheduler$Line", name := "<init>", desc := "(I)V" } : Jvm.MethodName)) ∈ am_tb := am_t1 38 (by decide +kernel) rfl
theorem uw_53 : (Jvm.Cond.classLink "CoroutineScheduler" (18 : Nat) "CoroutineScheduler$Reader") ∈ am_tb := am_t1 53 (by decide +kernel) rfl
theorem uw_54 : (Jvm.Cond.instantiable "CoroutineScheduler$Reader" (7 : Nat)) ∈ am_tb := am_t1 54 (by decide +kernel) rfl
theorem uw_55 : (Jvm.Cond.methodLink "CoroutineScheduler" (20 : Nat) ({ cls := "CoroutineScheduler$Reader", name := "<init>", desc := "(LCoroutineScheduler$Line;)V" } : Jvm.MethodName)) ∈ am_tb := am_t1 55 (by decide +kernel) rfl
theorem uw_56 : (Jvm.Cond.instanceMethod ({ cls := "CoroutineScheduler$Reader", name := "<init>", desc := "(LCoroutineScheduler$Line;)V" } : Jvm.MethodName)) ∈ am_tb := am_t1 56 (by decide +kernel) rfl
theorem uw_57 : (Jvm.Cond.code ({ cls := "CoroutineScheduler$Reader", name := "<init>", desc := "(LCoroutineScheduler$Line;)V" } : Jvm.MethodName) prog_7_method_1_code (2 : Nat) (Option.none : Option Jvm.ClassFile.FieldType)) ∈ am_tb := am_t1 57 (by decide +kernel) rfl
theorem uw_58 : (Jvm.Cond.methodLink "CoroutineScheduler$Reader" (3 : Nat) ({ cls := "java/lang/Object", name := "<init>", desc := "()V" } : Jvm.MethodName)) ∈ am_tb := am_t1 58 (by decide +kernel) rfl
theorem uw_59 : (Jvm.Cond.classLink "CoroutineScheduler$Reader" (9 : Nat) "CoroutineScheduler$Book") ∈ am_tb := am_t1 59 (by decide +kernel) rfl
theorem uw_61 : (Jvm.Cond.methodLink "CoroutineScheduler$Reader" (11 : Nat) ({ cls := "CoroutineScheduler$Book", name := "<init>", desc := "(I)V" } : Jvm.MethodName)) ∈ am_tb := am_t1 61 (by decide +kernel) rfl
theorem uw_83 : (Jvm.Cond.classLink "CoroutineScheduler$Reader" (20 : Nat) "CoroutineScheduler$Row") ∈ am_tb := am_t1 83 (by decide +kernel) rfl
theorem uw_84 : (Jvm.Cond.methodLink "CoroutineScheduler$Reader" (22 : Nat) ({ cls := "CoroutineScheduler$Row", name := "<init>", desc := "(I)V" } : Jvm.MethodName)) ∈ am_tb := am_t1 84 (by decide +kernel) rfl
theorem uw_85 : (Jvm.Cond.classLink "CoroutineScheduler$Reader" (27 : Nat) "CoroutineScheduler$Line") ∈ am_tb := am_t1 85 (by decide +kernel) rfl
theorem uw_86 : (Jvm.Cond.methodLink "CoroutineScheduler$Reader" (29 : Nat) ({ cls := "CoroutineScheduler$Line", name := "<init>", desc := "(I)V" } : Jvm.MethodName)) ∈ am_tb := am_t1 86 (by decide +kernel) rfl
theorem uw_87 : (Jvm.Cond.fieldLink "CoroutineScheduler$Reader" (37 : Nat) "CoroutineScheduler$Reader" "text" "LCoroutineScheduler$Line;") ∈ am_tb := am_t1 87 (by decide +kernel) rfl
theorem uw_88 : (Jvm.Cond.fieldLink "CoroutineScheduler$Reader" (14 : Nat) "CoroutineScheduler$Reader" "drafts" "LCoroutineScheduler$Book;") ∈ am_tb := am_t1 88 (by decide +kernel) rfl
theorem uw_89 : (Jvm.Cond.fieldLink "CoroutineScheduler$Reader" (23 : Nat) "CoroutineScheduler$Reader" "drafted" "LCoroutineScheduler$Row;") ∈ am_tb := am_t1 89 (by decide +kernel) rfl
theorem uw_90 : (Jvm.Cond.fieldLink "CoroutineScheduler$Reader" (30 : Nat) "CoroutineScheduler$Reader" "roomChannels" "LCoroutineScheduler$Line;") ∈ am_tb := am_t1 90 (by decide +kernel) rfl
theorem uw_91 : (Jvm.Cond.fieldLink "CoroutineScheduler$Reader" (34 : Nat) "CoroutineScheduler$Reader" "roomSizes" "LCoroutineScheduler$Line;") ∈ am_tb := am_t1 91 (by decide +kernel) rfl
theorem uw_109 : (Jvm.Cond.classLink "CoroutineScheduler" (27 : Nat) "CoroutineScheduler$World") ∈ am_tb := am_t1 109 (by decide +kernel) rfl
theorem uw_110 : (Jvm.Cond.instantiable "CoroutineScheduler$World" (8 : Nat)) ∈ am_tb := am_t1 110 (by decide +kernel) rfl
theorem uw_112 : (Jvm.Cond.instanceMethod ({ cls := "CoroutineScheduler$World", name := "<init>", desc := "()V" } : Jvm.MethodName)) ∈ am_tb := am_t1 112 (by decide +kernel) rfl
theorem uw_113 : (Jvm.Cond.code ({ cls := "CoroutineScheduler$World", name := "<init>", desc := "()V" } : Jvm.MethodName) prog_12_method_1_code (1 : Nat) (Option.none : Option Jvm.ClassFile.FieldType)) ∈ am_tb := am_t1 113 (by decide +kernel) rfl
theorem uw_316 : (Jvm.Cond.fieldLink "CoroutineScheduler$Schedule" (15 : Nat) "CoroutineScheduler$World" "tasks" "LCoroutineScheduler$Tasks;") ∈ am_tb := am_t1 316 (by decide +kernel) rfl
theorem uw_317 : (Jvm.Cond.fieldLink "CoroutineScheduler$Exchange" (15 : Nat) "CoroutineScheduler$World" "tasks" "LCoroutineScheduler$Tasks;") ∈ am_tb := am_t1 317 (by decide +kernel) rfl
theorem uw_320 : (Jvm.Cond.fieldLink "CoroutineScheduler$Schedule" (22 : Nat) "CoroutineScheduler$World" "scopes" "LCoroutineScheduler$Scopes;") ∈ am_tb := am_t1 320 (by decide +kernel) rfl
theorem uw_323 : (Jvm.Cond.fieldLink "CoroutineScheduler$Exchange" (22 : Nat) "CoroutineScheduler$World" "channels" "LCoroutineScheduler$Channels;") ∈ am_tb := am_t1 323 (by decide +kernel) rfl
theorem uw_357 : (Jvm.Cond.classLink "CoroutineScheduler" (37 : Nat) "CoroutineScheduler$Schedule") ∈ am_tb := am_t1 357 (by decide +kernel) rfl
theorem uw_358 : (Jvm.Cond.instantiable "CoroutineScheduler$Schedule" (4 : Nat)) ∈ am_tb := am_t1 358 (by decide +kernel) rfl
theorem uw_359 : (Jvm.Cond.methodLink "CoroutineScheduler" (39 : Nat) ({ cls := "CoroutineScheduler$Schedule", name := "<init>", desc := "(LCoroutineScheduler$World;)V" } : Jvm.MethodName)) ∈ am_tb := am_t1 359 (by decide +kernel) rfl
theorem uw_360 : (Jvm.Cond.instanceMethod ({ cls := "CoroutineScheduler$Schedule", name := "<init>", desc := "(LCoroutineScheduler$World;)V" } : Jvm.MethodName)) ∈ am_tb := am_t1 360 (by decide +kernel) rfl
theorem uw_361 : (Jvm.Cond.code ({ cls := "CoroutineScheduler$Schedule", name := "<init>", desc := "(LCoroutineScheduler$World;)V" } : Jvm.MethodName) prog_9_method_1_code (2 : Nat) (Option.none : Option Jvm.ClassFile.FieldType)) ∈ am_tb := am_t1 361 (by decide +kernel) rfl
theorem uw_362 : (Jvm.Cond.methodLink "CoroutineScheduler$Schedule" (3 : Nat) ({ cls := "java/lang/Object", name := "<init>", desc := "()V" } : Jvm.MethodName)) ∈ am_tb := am_t1 362 (by decide +kernel) rfl
theorem uw_363 : (Jvm.Cond.classLink "CoroutineScheduler$Schedule" (27 : Nat) "CoroutineScheduler$Exchange") ∈ am_tb := am_t1 363 (by decide +kernel) rfl
theorem uw_364 : (Jvm.Cond.instantiable "CoroutineScheduler$Exchange" (3 : Nat)) ∈ am_tb := am_t1 364 (by decide +kernel) rfl
theorem uw_365 : (Jvm.Cond.methodLink "CoroutineScheduler$Schedule" (29 : Nat) ({ cls := "CoroutineScheduler$Exchange", name := "<init>", desc := "(LCoroutineScheduler$World;)V" } : Jvm.MethodName)) ∈ am_tb := am_t1 365 (by decide +kernel) rfl
theorem uw_366 : (Jvm.Cond.instanceMethod ({ cls := "CoroutineScheduler$Exchange", name := "<init>", desc := "(LCoroutineScheduler$World;)V" } : Jvm.MethodName)) ∈ am_tb := am_t1 366 (by decide +kernel) rfl
theorem uw_367 : (Jvm.Cond.code ({ cls := "CoroutineScheduler$Exchange", name := "<init>", desc := "(LCoroutineScheduler$World;)V" } : Jvm.MethodName) prog_4_method_1_code (2 : Nat) (Option.none : Option Jvm.ClassFile.FieldType)) ∈ am_tb := am_t1 367 (by decide +kernel) rfl
theorem uw_368 : (Jvm.Cond.methodLink "CoroutineScheduler$Exchange" (3 : Nat) ({ cls := "java/lang/Object", name := "<init>", desc := "()V" } : Jvm.MethodName)) ∈ am_tb := am_t1 368 (by decide +kernel) rfl
theorem uw_369 : (Jvm.Cond.fieldLink "CoroutineScheduler$Exchange" (9 : Nat) "CoroutineScheduler$Exchange" "world" "LCoroutineScheduler$World;") ∈ am_tb := am_t1 369 (by decide +kernel) rfl
theorem uw_370 : (Jvm.Cond.fieldLink "CoroutineScheduler$Exchange" (21 : Nat) "CoroutineScheduler$Exchange" "tasks" "LCoroutineScheduler$Tasks;") ∈ am_tb := am_t1 370 (by decide +kernel) rfl
theorem uw_371 : (Jvm.Cond.fieldLink "CoroutineScheduler$Exchange" (26 : Nat) "CoroutineScheduler$Exchange" "channels" "LCoroutineScheduler$Channels;") ∈ am_tb := am_t1 371 (by decide +kernel) rfl
theorem uw_379 : (Jvm.Cond.fieldLink "CoroutineScheduler$Schedule" (9 : Nat) "CoroutineScheduler$Schedule" "world" "LCoroutineScheduler$World;") ∈ am_tb := am_t1 379 (by decide +kernel) rfl
theorem uw_380 : (Jvm.Cond.fieldLink "CoroutineScheduler$Schedule" (21 : Nat) "CoroutineScheduler$Schedule" "tasks" "LCoroutineScheduler$Tasks;") ∈ am_tb := am_t1 380 (by decide +kernel) rfl
theorem uw_381 : (Jvm.Cond.fieldLink "CoroutineScheduler$Schedule" (26 : Nat) "CoroutineScheduler$Schedule" "scopes" "LCoroutineScheduler$Scopes;") ∈ am_tb := am_t1 381 (by decide +kernel) rfl
theorem uw_382 : (Jvm.Cond.fieldLink "CoroutineScheduler$Schedule" (32 : Nat) "CoroutineScheduler$Schedule" "exchange" "LCoroutineScheduler$Exchange;") ∈ am_tb := am_t1 382 (by decide +kernel) rfl
theorem uw_392 : (Jvm.Cond.fieldLink "CoroutineScheduler" (14 : Nat) "CoroutineScheduler" "text" "LCoroutineScheduler$Line;") ∈ am_tb := am_t1 392 (by decide +kernel) rfl
theorem uw_393 : (Jvm.Cond.fieldLink "CoroutineScheduler" (23 : Nat) "CoroutineScheduler" "reader" "LCoroutineScheduler$Reader;") ∈ am_tb := am_t1 393 (by decide +kernel) rfl
theorem uw_394 : (Jvm.Cond.fieldLink "CoroutineScheduler" (30 : Nat) "CoroutineScheduler" "world" "LCoroutineScheduler$World;") ∈ am_tb := am_t1 394 (by decide +kernel) rfl
theorem uw_395 : (Jvm.Cond.fieldLink "CoroutineScheduler" (34 : Nat) "CoroutineScheduler" "snapshot" "LCoroutineScheduler$World;") ∈ am_tb := am_t1 395 (by decide +kernel) rfl
theorem uw_396 : (Jvm.Cond.fieldLink "CoroutineScheduler" (42 : Nat) "CoroutineScheduler" "schedule" "LCoroutineScheduler$Schedule;") ∈ am_tb := am_t1 396 (by decide +kernel) rfl
theorem uw_398 : (Jvm.Cond.fieldLink "CoroutineScheduler" (46 : Nat) "CoroutineScheduler" "errorPosition" "I") ∈ am_tb := am_t1 398 (by decide +kernel) rfl
theorem uw_1212 : (Jvm.Cond.methodLink "CoroutineSchedulerModel" (3 : Nat) ({ cls := "java/lang/Object", name := "<init>", desc := "()V" } : Jvm.MethodName)) ∈ am_tb := am_t1 1212 (by decide +kernel) rfl
theorem uw_1214 : (Jvm.Cond.fieldLink "CoroutineSchedulerModel" (9 : Nat) "CoroutineSchedulerModel" "now" "[I") ∈ am_tb := am_t1 1214 (by decide +kernel) rfl
theorem uw_1215 : (Jvm.Cond.fieldLink "CoroutineSchedulerModel" (13 : Nat) "CoroutineSchedulerModel" "saved" "[I") ∈ am_tb := am_t1 1215 (by decide +kernel) rfl
theorem uw_1217 : (Jvm.Cond.fieldLink "CoroutineSchedulerModel" (16 : Nat) "CoroutineSchedulerModel" "buffer" "[I") ∈ am_tb := am_t1 1217 (by decide +kernel) rfl
theorem uw_1219 : (Jvm.Cond.fieldLink "CoroutineSchedulerModel" (19 : Nat) "CoroutineSchedulerModel" "error" "I") ∈ am_tb := am_t1 1219 (by decide +kernel) rfl
theorem uw_1221 : (Jvm.Cond.fieldLink "CoroutineSchedulerModel" (23 : Nat) "CoroutineSchedulerModel" "text" "[I") ∈ am_tb := am_t1 1221 (by decide +kernel) rfl
def an_read (D : va_G) (cI : ClassId) (w : Nat) (a : Nat) (H : Heap) : Prop := an_at D 5 a [.ref (w), .ref (a + 1), .ref (a + 6), .ref (a + 8), .ref (a + 10), .int 0, .int 0] H ∧ an_book D cI (6) (a + 1) H ∧ an_row D cI (6) (a + 6) H ∧ an_line D cI (60) (a + 8) H ∧ an_line D cI (60) (a + 10) H
theorem an_read_loc {D : va_G} {cI : ClassId} {w : Nat} (a : Nat) (H H1 : Heap) (h : ∀ q, a ≤ q → q < a + 12 → H1[q]? = H[q]?) (j : an_read D cI (w) (a) H) : an_read D cI (w) (a) H1 := by
  obtain ⟨j0, j1, j2, j3, j4⟩ := j
  exact ⟨an_mv (h a (by omega) (by omega)) j0, an_book_loc (a + 1) H H1 (fun q q1 q2 => h q (by omega) (by omega)) j1, an_row_loc (a + 6) H H1 (fun q q1 q2 => h q (by omega) (by omega)) j2, an_line_loc (a + 8) H H1 (fun q q1 q2 => h q (by omega) (by omega)) j3, an_line_loc (a + 10) H H1 (fun q q1 q2 => h q (by omega) (by omega)) j4⟩
theorem c_X5_init (l : Launch) (D : va_G) (cI : ClassId) (w : Nat) : an_Met l D cI yX5_init (Cond.code yX5_init cX5_init 2 none :: am_tb) { frames := 3, cells := 11, slots := 285, locals := 120 } 5 [.null, .null, .null, .null, .null, .int 0, .int 0] [.ref w] (fun a H => w < a) 11 (285) (an_read D cI w) := by
  intro a
  refine Met.ofW (cc := cX5_init) (maxL := 2) (ret := none) (by decide +kernel) rfl ?_
  intro p e s m args below meth c s₁ B hml hv
  obtain ⟨rfl, hat, hsz, hE, hK, hfI, hNw⟩ := hv
  have hF := (⟨B.exec, B.bytes, hml, findClass_of_methodNamed B.named, atoms_spec (ws := Cond.code yX5_init cX5_init 2 none :: am_tb) B.pre⟩ : CallFix p m c cX5_init 2 s _ (Cond.code yX5_init cX5_init 2 none :: am_tb) yX5_init.cls)
  have hts := hF.2.2.2.2
  have hin : meth.name = "<init>" := (name_of_methodNamed B.named B.method).1
  have hl := lv_entry ([.ref a, .ref w]) (n := 2) (Nat.le_of_ble_eq_true rfl)
  rw [lg_entry_eq]
  generalize (lg_sl ([.ref a, .ref w]) ++ List.replicate (2 - (lg_sl ([.ref a, .ref w])).length) Slot.unset).toArray = ls at hl ⊢
  have hl : lv_has ls 2 [(0, .ref a), (1, .ref w)] := hl
  have J0 : an_J D s 5 a [.null, .null, .null, .null, .null, .int 0, .int 0] s.heap 0 [] := ⟨hat, rfl, fun _ h => absurd h List.not_mem_nil, by omega⟩
  have kp0 : an_kp a s.heap s.heap := an_kp.rf
  have hwa := hE
  have x0 : an_tt s.heap := trivial
  have lo0 : an_lo a (a + 1) an_tt := fun _ _ _ h => h
  refine lv_aload_n hF.1 hF.2.1 dX5_init_0 rfl (hl.2.2 _ (.head _)) ?_
  refine W.objInit hF.1 hF.2.1 hF.2.2.2.1 (hts _ (List.mem_cons_of_mem _ uw_58)) (hts _ (List.mem_cons_of_mem _ uw_34)) (hts _ (List.mem_cons_of_mem _ uw_35)) rfl (hl.1.trans hF.2.2.1.symm) rfl dX5_init_1 (Nat.le_of_ble_eq_true rfl) (Nat.le_of_ble_eq_true rfl) ?_
  refine W.eq (g2 := F0 m 4 ls []) rfl ?_
  refine lv_aload_n hF.1 hF.2.1 dX5_init_4 rfl (hl.2.2 _ (.head _)) ?_
  refine an_new (cj := 0) (gs := [.null, .null]) (C := RX0) (T := TX0) (N := 2) hF.1 hF.2.1 hts (fun w h => List.mem_cons_of_mem _ (iu_X0 w h)) tyX0 tyX0_ok hF.2.2.2.1 (hts _ (List.mem_cons_of_mem _ uw_59)) (hts _ (List.mem_cons_of_mem _ uw_60)) (hts _ (List.mem_cons_of_mem _ uw_5)) hK J0 rfl (by decide +kernel) (by show 1 ≤ 11; omega) (by show 0 + 2 ≤ (285); omega) dX5_init_5 (fun H1 J1 g1 k1 => ?_)
  have z1 : s.heap.size = a + 1 := by have := J0.2.1; omega
  rw [z1] at g1 ⊢
  have x1 := lo0 _ _ (fun q q1 q2 => k1 q (by have := J0.2.1; omega) (by omega)) x0
  have kp1 : an_kp a s.heap H1 := kp0.tr k1 (by have := J0.2.1; omega)
  refine lv_dup hF.1 hF.2.1 dX5_init_8 rfl ?_
  refine lv_bipush (v := nI 6) hF.1 hF.2.1 dX5_init_9 (by decide) ?_
  refine an_call (mc := 4) (ms := 1 + ((((6)))) + 1 + ((((6) * 24)))) (a1 := a + 1) (n := 4) (va_runI (As := [.int (nI (6))]) hF (c_X0_init l D cI (6) (by omega) (a + 1)) (cwI 1 hF.2.2.2.2 (am_gi uw_63) rfl rfl rfl (hts _ (List.mem_cons_of_mem _ uw_5)) (hts _ (List.mem_cons_of_mem _ uw_61)) (hts _ (List.mem_cons_of_mem _ uw_62)) rfl (by decide +kernel) ⟨Nat.le_of_ble_eq_true rfl, Nat.le_of_ble_eq_true rfl⟩) ⟨an_blind (D := D) (a := a + 1) (ci := 0) (cI := cI) (dfs := [.null, .null]) (ex := [.int (nI (6))]) (E := (fun _ _ => True)), fun U hU hW => ⟨rfl, by rw [hU]; exact g1, by rw [hU]; have := J1.2.1; omega, by rw [hU]; exact trivial, va_K.moved hW.alike hK, by rw [hW.alike.findClass]; exact hfI, hNw.warm hW⟩⟩ rfl rfl hl.1 rfl (Nat.le_of_ble_eq_true rfl) dX5_init_11 ⟨by show 5 ≤ 11; omega, by show 0 + 2 + 1 + ((((6)))) + 1 + ((((6) * 24))) ≤ (285); omega⟩) (by omega) J1 rfl (by have := J1.2.1; omega) (by omega) (fun H2 J2 f2_2 k2 => ?_)
  have x2 := lo0 _ _ (fun q q1 q2 => k2 q (by have := J1.2.1; omega) (by omega)) x1
  have kp2 : an_kp a s.heap H2 := fun q q1 q2 => (k2 q (by have := J1.2.1; omega) (by omega)).trans (kp1 q q1 q2)
  have lo2 := an_lo_c (P := fun H => an_book D cI (6) (a + 1) H) (b1 := a + 1 + 5) lo0 (an_book_loc (a + 1)) (by omega) (by omega) (by omega)
  have w2 : an_cj _ (fun H => an_book D cI (6) (a + 1) H) _ := And.intro x2 f2_2
  refine an_put (ty := tyX5 1) hF.1 hF.2.1 hts (fun w h => List.mem_cons_of_mem _ (iu_X5 w h)) tyX5 tyX5_ok nmX5 hF.2.2.2.1 hK J2 rfl 1 (by decide) (hts _ (List.mem_cons_of_mem _ uw_88)) (fun _ h => h) hin rfl (tyX5_ok 1 (by decide)) rfl rfl (Nat.le_of_ble_eq_true rfl) dX5_init_14 (fun H3 locs3 J3 k3 => ?_)
  have J3 : an_J D s 5 a [.null, .ref (a + 1), .null, .null, .null, .int 0, .int 0] H3 5 locs3 := J3
  have x3 := lo2 _ _ (fun q q1 q2 => k3 q (by have := J2.2.1; omega) (by omega)) w2
  have kp3 : an_kp a s.heap H3 := kp2.tr k3 (by have := J2.2.1; omega)
  clear k3 w2 kp2 x2 k2 f2_2 J2 kp1 x1 z1 k1 g1 J1
  refine lv_aload_n hF.1 hF.2.1 dX5_init_17 rfl (hl.2.2 _ (.head _)) ?_
  refine an_new (cj := 6) (gs := [.null]) (C := RX6) (T := TX6) (N := 1) hF.1 hF.2.1 hts (fun w h => List.mem_cons_of_mem _ (iu_X6 w h)) tyX6 tyX6_ok hF.2.2.2.1 (hts _ (List.mem_cons_of_mem _ uw_83)) (hts _ (List.mem_cons_of_mem _ uw_66)) (hts _ (List.mem_cons_of_mem _ uw_6)) hK J3 rfl (by decide +kernel) (by show 6 ≤ 11; omega) (by show 0 + 2 + (1 + ((((6)))) + 1 + ((((6) * 24)))) + 1 ≤ (285); omega) dX5_init_18 (fun H4 J4 g4 k4 => ?_)
  have z4 : H3.size = a + 6 := by have := J3.2.1; omega
  rw [z4] at g4 ⊢
  have x4 := lo2 _ _ (fun q q1 q2 => k4 q (by have := J3.2.1; omega) (by omega)) x3
  have kp4 : an_kp a s.heap H4 := kp3.tr k4 (by have := J3.2.1; omega)
  refine lv_dup hF.1 hF.2.1 dX5_init_21 rfl ?_
  refine lv_bipush (v := nI 6) hF.1 hF.2.1 dX5_init_22 (by decide) ?_
  refine an_call (mc := 1) (ms := ((6))) (a1 := a + 6) (n := 1) (va_runI (As := [.int (nI (6))]) hF (c_X6_init l D cI (6) (by omega) (a + 6)) (cwI 1 hF.2.2.2.2 (am_gi uw_69) rfl rfl rfl (hts _ (List.mem_cons_of_mem _ uw_6)) (hts _ (List.mem_cons_of_mem _ uw_84)) (hts _ (List.mem_cons_of_mem _ uw_68)) rfl (by decide +kernel) ⟨Nat.le_of_ble_eq_true rfl, Nat.le_of_ble_eq_true rfl⟩) ⟨an_blind (D := D) (a := a + 6) (ci := 6) (cI := cI) (dfs := [.null]) (ex := [.int (nI (6))]) (E := (fun _ _ => True)), fun U hU hW => ⟨rfl, by rw [hU]; exact g4, by rw [hU]; have := J4.2.1; omega, by rw [hU]; exact trivial, va_K.moved hW.alike hK, by rw [hW.alike.findClass]; exact hfI, hNw.warm hW⟩⟩ rfl rfl hl.1 rfl (Nat.le_of_ble_eq_true rfl) dX5_init_24 ⟨by show 7 ≤ 11; omega, by show 0 + 2 + (1 + ((((6)))) + 1 + ((((6) * 24)))) + 1 + ((6)) ≤ (285); omega⟩) (by omega) J4 rfl (by have := J4.2.1; omega) (by omega) (fun H5 J5 f5_5 k5 => ?_)
  have x5 := lo2 _ _ (fun q q1 q2 => k5 q (by have := J4.2.1; omega) (by omega)) x4
  have kp5 : an_kp a s.heap H5 := fun q q1 q2 => (k5 q (by have := J4.2.1; omega) (by omega)).trans (kp4 q q1 q2)
  have lo5 := an_lo_c (P := fun H => an_row D cI (6) (a + 6) H) (b1 := a + 6 + 2) lo2 (an_row_loc (a + 6)) (by omega) (by omega) (by omega)
  have w5 : an_cj _ (fun H => an_row D cI (6) (a + 6) H) _ := And.intro x5 f5_5
  refine an_put (ty := tyX5 2) hF.1 hF.2.1 hts (fun w h => List.mem_cons_of_mem _ (iu_X5 w h)) tyX5 tyX5_ok nmX5 hF.2.2.2.1 hK J5 rfl 2 (by decide) (hts _ (List.mem_cons_of_mem _ uw_89)) (fun _ h => h) hin rfl (tyX5_ok 2 (by decide)) rfl rfl (Nat.le_of_ble_eq_true rfl) dX5_init_27 (fun H6 locs6 J6 k6 => ?_)
  have J6 : an_J D s 5 a [.null, .ref (a + 1), .ref (a + 6), .null, .null, .int 0, .int 0] H6 7 locs6 := J6
  have x6 := lo5 _ _ (fun q q1 q2 => k6 q (by have := J5.2.1; omega) (by omega)) w5
  have kp6 : an_kp a s.heap H6 := kp5.tr k6 (by have := J5.2.1; omega)
  clear k6 w5 kp5 x5 k5 f5_5 J5 kp4 x4 z4 k4 g4 J4 kp3 x3 J3 lo2
  refine lv_aload_n hF.1 hF.2.1 dX5_init_30 rfl (hl.2.2 _ (.head _)) ?_
  refine an_new (cj := 4) (gs := [.null, .int 0]) (C := RX4) (T := TX4) (N := 2) hF.1 hF.2.1 hts (fun w h => List.mem_cons_of_mem _ (iu_X4 w h)) tyX4 tyX4_ok hF.2.2.2.1 (hts _ (List.mem_cons_of_mem _ uw_85)) (hts _ (List.mem_cons_of_mem _ uw_37)) (hts _ (List.mem_cons_of_mem _ uw_2)) hK J6 rfl (by decide +kernel) (by show 8 ≤ 11; omega) (by show 0 + 2 + (1 + ((((6)))) + 1 + ((((6) * 24)))) + 1 + (((6))) + 2 ≤ (285); omega) dX5_init_31 (fun H7 J7 g7 k7 => ?_)
  have z7 : H6.size = a + 8 := by have := J6.2.1; omega
  rw [z7] at g7 ⊢
  have x7 := lo5 _ _ (fun q q1 q2 => k7 q (by have := J6.2.1; omega) (by omega)) x6
  have kp7 : an_kp a s.heap H7 := kp6.tr k7 (by have := J6.2.1; omega)
  refine lv_dup hF.1 hF.2.1 dX5_init_34 rfl ?_
  refine lv_bipush (v := nI 60) hF.1 hF.2.1 dX5_init_35 (by decide) ?_
  refine an_call (mc := 1) (ms := ((60))) (a1 := a + 8) (n := 1) (va_runI (As := [.int (nI (60))]) hF (c_X4_init l D cI (60) (by omega) (a + 8)) (cwI 1 hF.2.2.2.2 (am_gi uw_40) rfl rfl rfl (hts _ (List.mem_cons_of_mem _ uw_2)) (hts _ (List.mem_cons_of_mem _ uw_86)) (hts _ (List.mem_cons_of_mem _ uw_39)) rfl (by decide +kernel) ⟨Nat.le_of_ble_eq_true rfl, Nat.le_of_ble_eq_true rfl⟩) ⟨an_blind (D := D) (a := a + 8) (ci := 4) (cI := cI) (dfs := [.null, .int 0]) (ex := [.int (nI (60))]) (E := (fun _ _ => True)), fun U hU hW => ⟨rfl, by rw [hU]; exact g7, by rw [hU]; have := J7.2.1; omega, by rw [hU]; exact trivial, va_K.moved hW.alike hK, by rw [hW.alike.findClass]; exact hfI, hNw.warm hW⟩⟩ rfl rfl hl.1 rfl (Nat.le_of_ble_eq_true rfl) dX5_init_37 ⟨by show 9 ≤ 11; omega, by show 0 + 2 + (1 + ((((6)))) + 1 + ((((6) * 24)))) + 1 + (((6))) + 2 + ((60)) ≤ (285); omega⟩) (by omega) J7 rfl (by have := J7.2.1; omega) (by omega) (fun H8 J8 f8_8 k8 => ?_)
  have x8 := lo5 _ _ (fun q q1 q2 => k8 q (by have := J7.2.1; omega) (by omega)) x7
  have kp8 : an_kp a s.heap H8 := fun q q1 q2 => (k8 q (by have := J7.2.1; omega) (by omega)).trans (kp7 q q1 q2)
  have lo8 := an_lo_c (P := fun H => an_line D cI (60) (a + 8) H) (b1 := a + 8 + 2) lo5 (an_line_loc (a + 8)) (by omega) (by omega) (by omega)
  have w8 : an_cj _ (fun H => an_line D cI (60) (a + 8) H) _ := And.intro x8 f8_8
  refine an_put (ty := tyX5 3) hF.1 hF.2.1 hts (fun w h => List.mem_cons_of_mem _ (iu_X5 w h)) tyX5 tyX5_ok nmX5 hF.2.2.2.1 hK J8 rfl 3 (by decide) (hts _ (List.mem_cons_of_mem _ uw_90)) (fun _ h => h) hin rfl (tyX5_ok 3 (by decide)) rfl rfl (Nat.le_of_ble_eq_true rfl) dX5_init_40 (fun H9 locs9 J9 k9 => ?_)
  have J9 : an_J D s 5 a [.null, .ref (a + 1), .ref (a + 6), .ref (a + 8), .null, .int 0, .int 0] H9 9 locs9 := J9
  have x9 := lo8 _ _ (fun q q1 q2 => k9 q (by have := J8.2.1; omega) (by omega)) w8
  have kp9 : an_kp a s.heap H9 := kp8.tr k9 (by have := J8.2.1; omega)
  clear k9 w8 kp8 x8 k8 f8_8 J8 kp7 x7 z7 k7 g7 J7 kp6 x6 J6 lo5
  refine lv_aload_n hF.1 hF.2.1 dX5_init_43 rfl (hl.2.2 _ (.head _)) ?_
  refine an_new (cj := 4) (gs := [.null, .int 0]) (C := RX4) (T := TX4) (N := 2) hF.1 hF.2.1 hts (fun w h => List.mem_cons_of_mem _ (iu_X4 w h)) tyX4 tyX4_ok hF.2.2.2.1 (hts _ (List.mem_cons_of_mem _ uw_85)) (hts _ (List.mem_cons_of_mem _ uw_37)) (hts _ (List.mem_cons_of_mem _ uw_2)) hK J9 rfl (by decide +kernel) (by show 10 ≤ 11; omega) (by show 0 + 2 + (1 + ((((6)))) + 1 + ((((6) * 24)))) + 1 + (((6))) + 2 + (((60))) + 2 ≤ (285); omega) dX5_init_44 (fun H10 J10 g10 k10 => ?_)
  have z10 : H9.size = a + 10 := by have := J9.2.1; omega
  rw [z10] at g10 ⊢
  have x10 := lo8 _ _ (fun q q1 q2 => k10 q (by have := J9.2.1; omega) (by omega)) x9
  have kp10 : an_kp a s.heap H10 := kp9.tr k10 (by have := J9.2.1; omega)
  refine lv_dup hF.1 hF.2.1 dX5_init_47 rfl ?_
  refine lv_bipush (v := nI 60) hF.1 hF.2.1 dX5_init_48 (by decide) ?_
  refine an_call (mc := 1) (ms := ((60))) (a1 := a + 10) (n := 1) (va_runI (As := [.int (nI (60))]) hF (c_X4_init l D cI (60) (by omega) (a + 10)) (cwI 1 hF.2.2.2.2 (am_gi uw_40) rfl rfl rfl (hts _ (List.mem_cons_of_mem _ uw_2)) (hts _ (List.mem_cons_of_mem _ uw_86)) (hts _ (List.mem_cons_of_mem _ uw_39)) rfl (by decide +kernel) ⟨Nat.le_of_ble_eq_true rfl, Nat.le_of_ble_eq_true rfl⟩) ⟨an_blind (D := D) (a := a + 10) (ci := 4) (cI := cI) (dfs := [.null, .int 0]) (ex := [.int (nI (60))]) (E := (fun _ _ => True)), fun U hU hW => ⟨rfl, by rw [hU]; exact g10, by rw [hU]; have := J10.2.1; omega, by rw [hU]; exact trivial, va_K.moved hW.alike hK, by rw [hW.alike.findClass]; exact hfI, hNw.warm hW⟩⟩ rfl rfl hl.1 rfl (Nat.le_of_ble_eq_true rfl) dX5_init_50 ⟨by show 11 ≤ 11; omega, by show 0 + 2 + (1 + ((((6)))) + 1 + ((((6) * 24)))) + 1 + (((6))) + 2 + (((60))) + 2 + ((60)) ≤ (285); omega⟩) (by omega) J10 rfl (by have := J10.2.1; omega) (by omega) (fun H11 J11 f11_11 k11 => ?_)
  have x11 := lo8 _ _ (fun q q1 q2 => k11 q (by have := J10.2.1; omega) (by omega)) x10
  have kp11 : an_kp a s.heap H11 := fun q q1 q2 => (k11 q (by have := J10.2.1; omega) (by omega)).trans (kp10 q q1 q2)
  have lo11 := an_lo_c (P := fun H => an_line D cI (60) (a + 10) H) (b1 := a + 10 + 2) lo8 (an_line_loc (a + 10)) (by omega) (by omega) (by omega)
  have w11 : an_cj _ (fun H => an_line D cI (60) (a + 10) H) _ := And.intro x11 f11_11
  refine an_put (ty := tyX5 4) hF.1 hF.2.1 hts (fun w h => List.mem_cons_of_mem _ (iu_X5 w h)) tyX5 tyX5_ok nmX5 hF.2.2.2.1 hK J11 rfl 4 (by decide) (hts _ (List.mem_cons_of_mem _ uw_91)) (fun _ h => h) hin rfl (tyX5_ok 4 (by decide)) rfl rfl (Nat.le_of_ble_eq_true rfl) dX5_init_53 (fun H12 locs12 J12 k12 => ?_)
  have J12 : an_J D s 5 a [.null, .ref (a + 1), .ref (a + 6), .ref (a + 8), .ref (a + 10), .int 0, .int 0] H12 11 locs12 := J12
  have x12 := lo11 _ _ (fun q q1 q2 => k12 q (by have := J11.2.1; omega) (by omega)) w11
  have kp12 : an_kp a s.heap H12 := kp11.tr k12 (by have := J11.2.1; omega)
  clear k12 w11 kp11 x11 k11 f11_11 J11 kp10 x10 z10 k10 g10 J10 kp9 x9 J9 lo8
  refine lv_aload_n hF.1 hF.2.1 dX5_init_56 rfl (hl.2.2 _ (.head _)) ?_
  refine lv_aload_n hF.1 hF.2.1 dX5_init_57 rfl (hl.2.2 _ (.tail _ (.head _))) ?_
  refine an_put (ty := tyX5 0) hF.1 hF.2.1 hts (fun w h => List.mem_cons_of_mem _ (iu_X5 w h)) tyX5 tyX5_ok nmX5 hF.2.2.2.1 hK J12 rfl 0 (by decide) (hts _ (List.mem_cons_of_mem _ uw_87)) (fun _ h => h) hin rfl (tyX5_ok 0 (by decide)) rfl rfl (Nat.le_of_ble_eq_true rfl) dX5_init_58 (fun H13 locs13 J13 k13 => ?_)
  have J13 : an_J D s 5 a [.ref (w), .ref (a + 1), .ref (a + 6), .ref (a + 8), .ref (a + 10), .int 0, .int 0] H13 11 locs13 := J13
  have x13 := lo11 _ _ (fun q q1 q2 => k13 q (by have := J12.2.1; omega) (by omega)) x12
  have kp13 : an_kp a s.heap H13 := kp12.tr k13 (by have := J12.2.1; omega)
  clear k13 kp12 x12 J12
  obtain ⟨⟨⟨⟨-, y0⟩, y1⟩, y2⟩, y3⟩ := x13
  refine W.widen (k := 11) (n := (285)) (by omega) (by omega) ?_
  exact an_fin (P := an_read D cI w) hF.1 hF.2.1 B.returns B.notSynchronized J13 kp13 hsz ⟨J13.1, y0, y1, y2, y3⟩ dX5_init_61
def an_xchg (D : va_G) (cI : ClassId) (w : Nat) (a : Nat) (H : Heap) : Prop := an_at D 2 a [.ref (w), .ref (w + 6), .ref (w + 66)] H
theorem an_xchg_loc {D : va_G} {cI : ClassId} {w : Nat} (a : Nat) (H H1 : Heap) (h : ∀ q, a ≤ q → q < a + 1 → H1[q]? = H[q]?) (j : an_xchg D cI (w) (a) H) : an_xchg D cI (w) (a) H1 := an_mv (h a (by omega) (by omega)) j
theorem c_X2_init (l : Launch) (D : va_G) (cI : ClassId) (w : Nat) : an_Met l D cI yX2_init (Cond.code yX2_init cX2_init 2 none :: am_tb) { frames := 1, cells := 0, slots := 0, locals := 40 } 2 [.null, .null, .null] [.ref w] (fun a H => w + 85 < a ∧ an_at D 10 w [.ref (w + 1), .ref (w + 6), .ref (w + 42), .ref (w + 66), .ref (w + 73), .ref (w + 80), .ref (w + 82), .ref (w + 84)] H) 0 (0) (an_xchg D cI w) := by
  intro a
  refine Met.ofW (cc := cX2_init) (maxL := 2) (ret := none) (by decide +kernel) rfl ?_
  intro p e s m args below meth c s₁ B hml hv
  obtain ⟨rfl, hat, hsz, hE, hK, hfI, hNw⟩ := hv
  have hF := (⟨B.exec, B.bytes, hml, findClass_of_methodNamed B.named, atoms_spec (ws := Cond.code yX2_init cX2_init 2 none :: am_tb) B.pre⟩ : CallFix p m c cX2_init 2 s _ (Cond.code yX2_init cX2_init 2 none :: am_tb) yX2_init.cls)
  have hts := hF.2.2.2.2
  have hin : meth.name = "<init>" := (name_of_methodNamed B.named B.method).1
  have hl := lv_entry ([.ref a, .ref w]) (n := 2) (Nat.le_of_ble_eq_true rfl)
  rw [lg_entry_eq]
  generalize (lg_sl ([.ref a, .ref w]) ++ List.replicate (2 - (lg_sl ([.ref a, .ref w])).length) Slot.unset).toArray = ls at hl ⊢
  have hl : lv_has ls 2 [(0, .ref a), (1, .ref w)] := hl
  have J0 : an_J D s 2 a [.null, .null, .null] s.heap 0 [] := ⟨hat, rfl, fun _ h => absurd h List.not_mem_nil, by omega⟩
  have kp0 : an_kp a s.heap s.heap := an_kp.rf
  obtain ⟨hwa, hw_0⟩ := hE
  have x0 : an_tt s.heap := trivial
  have lo0 : an_lo a (a + 1) an_tt := fun _ _ _ h => h
  refine lv_aload_n hF.1 hF.2.1 dX2_init_0 rfl (hl.2.2 _ (.head _)) ?_
  refine W.objInit hF.1 hF.2.1 hF.2.2.2.1 (hts _ (List.mem_cons_of_mem _ uw_368)) (hts _ (List.mem_cons_of_mem _ uw_34)) (hts _ (List.mem_cons_of_mem _ uw_35)) rfl (hl.1.trans hF.2.2.1.symm) rfl dX2_init_1 (Nat.le_of_ble_eq_true rfl) (Nat.le_of_ble_eq_true rfl) ?_
  refine W.eq (g2 := F0 m 4 ls []) rfl ?_
  refine lv_aload_n hF.1 hF.2.1 dX2_init_4 rfl (hl.2.2 _ (.head _)) ?_
  refine lv_aload_n hF.1 hF.2.1 dX2_init_5 rfl (hl.2.2 _ (.tail _ (.head _))) ?_
  refine an_put (ty := tyX2 0) hF.1 hF.2.1 hts (fun w h => List.mem_cons_of_mem _ (iu_X2 w h)) tyX2 tyX2_ok nmX2 hF.2.2.2.1 hK J0 rfl 0 (by decide) (hts _ (List.mem_cons_of_mem _ uw_369)) (fun _ h => h) hin rfl (tyX2_ok 0 (by decide)) rfl rfl (Nat.le_of_ble_eq_true rfl) dX2_init_6 (fun H1 locs1 J1 k1 => ?_)
  have J1 : an_J D s 2 a [.ref (w), .null, .null] H1 0 locs1 := J1
  have x1 := lo0 _ _ (fun q q1 q2 => k1 q (by have := J0.2.1; omega) (by omega)) x0
  have hw_1 : an_at D 10 w [.ref (w + 1), .ref (w + 6), .ref (w + 42), .ref (w + 66), .ref (w + 73), .ref (w + 80), .ref (w + 82), .ref (w + 84)] H1 := an_mv (k1 w (by have := J0.2.1; omega) (by omega)) hw_0
  have kp1 : an_kp a s.heap H1 := kp0.tr k1 (by have := J0.2.1; omega)
  clear k1
  refine lv_aload_n hF.1 hF.2.1 dX2_init_9 rfl (hl.2.2 _ (.head _)) ?_
  refine lv_aload_n hF.1 hF.2.1 dX2_init_10 rfl (hl.2.2 _ (.tail _ (.head _))) ?_
  refine va_get (fs := [.ref (w + 1), .ref (w + 6), .ref (w + 42), .ref (w + 66), .ref (w + 73), .ref (w + 80), .ref (w + 82), .ref (w + 84)]) (v := .ref (w + 6)) hF.1 hF.2.1 hts (fun w h => List.mem_cons_of_mem _ (iu_X10 w h)) hF.2.2.2.1 hK (an_P1 hw_1) 0 rfl rfl 1 (by decide) (hts _ (List.mem_cons_of_mem _ uw_317)) (fun _ h => h) rfl dX2_init_11 ?_
  refine an_put (ty := tyX2 1) hF.1 hF.2.1 hts (fun w h => List.mem_cons_of_mem _ (iu_X2 w h)) tyX2 tyX2_ok nmX2 hF.2.2.2.1 hK J1 rfl 1 (by decide) (hts _ (List.mem_cons_of_mem _ uw_370)) (fun _ h => h) hin rfl (tyX2_ok 1 (by decide)) rfl rfl (Nat.le_of_ble_eq_true rfl) dX2_init_14 (fun H2 locs2 J2 k2 => ?_)
  have J2 : an_J D s 2 a [.ref (w), .ref (w + 6), .null] H2 0 locs2 := J2
  have x2 := lo0 _ _ (fun q q1 q2 => k2 q (by have := J1.2.1; omega) (by omega)) x1
  have hw_2 : an_at D 10 w [.ref (w + 1), .ref (w + 6), .ref (w + 42), .ref (w + 66), .ref (w + 73), .ref (w + 80), .ref (w + 82), .ref (w + 84)] H2 := an_mv (k2 w (by have := J1.2.1; omega) (by omega)) hw_1
  have kp2 : an_kp a s.heap H2 := kp1.tr k2 (by have := J1.2.1; omega)
  clear k2 kp1 hw_1 x1 J1
  refine lv_aload_n hF.1 hF.2.1 dX2_init_17 rfl (hl.2.2 _ (.head _)) ?_
  refine lv_aload_n hF.1 hF.2.1 dX2_init_18 rfl (hl.2.2 _ (.tail _ (.head _))) ?_
  refine va_get (fs := [.ref (w + 1), .ref (w + 6), .ref (w + 42), .ref (w + 66), .ref (w + 73), .ref (w + 80), .ref (w + 82), .ref (w + 84)]) (v := .ref (w + 66)) hF.1 hF.2.1 hts (fun w h => List.mem_cons_of_mem _ (iu_X10 w h)) hF.2.2.2.1 hK (an_P1 hw_2) 0 rfl rfl 3 (by decide) (hts _ (List.mem_cons_of_mem _ uw_323)) (fun _ h => h) rfl dX2_init_19 ?_
  refine an_put (ty := tyX2 2) hF.1 hF.2.1 hts (fun w h => List.mem_cons_of_mem _ (iu_X2 w h)) tyX2 tyX2_ok nmX2 hF.2.2.2.1 hK J2 rfl 2 (by decide) (hts _ (List.mem_cons_of_mem _ uw_371)) (fun _ h => h) hin rfl (tyX2_ok 2 (by decide)) rfl rfl (Nat.le_of_ble_eq_true rfl) dX2_init_22 (fun H3 locs3 J3 k3 => ?_)
  have J3 : an_J D s 2 a [.ref (w), .ref (w + 6), .ref (w + 66)] H3 0 locs3 := J3
  have x3 := lo0 _ _ (fun q q1 q2 => k3 q (by have := J2.2.1; omega) (by omega)) x2
  have hw_3 : an_at D 10 w [.ref (w + 1), .ref (w + 6), .ref (w + 42), .ref (w + 66), .ref (w + 73), .ref (w + 80), .ref (w + 82), .ref (w + 84)] H3 := an_mv (k3 w (by have := J2.2.1; omega) (by omega)) hw_2
  have kp3 : an_kp a s.heap H3 := kp2.tr k3 (by have := J2.2.1; omega)
  clear k3 kp2 hw_2 x2 J2
  refine W.widen (k := 0) (n := (0)) (by omega) (by omega) ?_
  exact an_fin (P := an_xchg D cI w) hF.1 hF.2.1 B.returns B.notSynchronized J3 kp3 hsz J3.1 dX2_init_25
def an_sche (D : va_G) (cI : ClassId) (w : Nat) (a : Nat) (H : Heap) : Prop := an_at D 7 a [.ref (w), .ref (w + 6), .ref (w + 42), .ref (a + 1)] H ∧ an_xchg D cI (w) (a + 1) H
theorem an_sche_loc {D : va_G} {cI : ClassId} {w : Nat} (a : Nat) (H H1 : Heap) (h : ∀ q, a ≤ q → q < a + 2 → H1[q]? = H[q]?) (j : an_sche D cI (w) (a) H) : an_sche D cI (w) (a) H1 := by
  obtain ⟨j0, j1⟩ := j
  exact ⟨an_mv (h a (by omega) (by omega)) j0, an_xchg_loc (a + 1) H H1 (fun q q1 q2 => h q (by omega) (by omega)) j1⟩
theorem c_X7_init (l : Launch) (D : va_G) (cI : ClassId) (w : Nat) : an_Met l D cI yX7_init (Cond.code yX7_init cX7_init 2 none :: am_tb) { frames := 2, cells := 1, slots := 3, locals := 80 } 7 [.null, .null, .null, .null] [.ref w] (fun a H => w + 85 < a ∧ an_at D 10 w [.ref (w + 1), .ref (w + 6), .ref (w + 42), .ref (w + 66), .ref (w + 73), .ref (w + 80), .ref (w + 82), .ref (w + 84)] H) 1 (3) (an_sche D cI w) := by
  intro a
  refine Met.ofW (cc := cX7_init) (maxL := 2) (ret := none) (by decide +kernel) rfl ?_
  intro p e s m args below meth c s₁ B hml hv
  obtain ⟨rfl, hat, hsz, hE, hK, hfI, hNw⟩ := hv
  have hF := (⟨B.exec, B.bytes, hml, findClass_of_methodNamed B.named, atoms_spec (ws := Cond.code yX7_init cX7_init 2 none :: am_tb) B.pre⟩ : CallFix p m c cX7_init 2 s _ (Cond.code yX7_init cX7_init 2 none :: am_tb) yX7_init.cls)
  have hts := hF.2.2.2.2
  have hin : meth.name = "<init>" := (name_of_methodNamed B.named B.method).1
  have hl := lv_entry ([.ref a, .ref w]) (n := 2) (Nat.le_of_ble_eq_true rfl)
  rw [lg_entry_eq]
  generalize (lg_sl ([.ref a, .ref w]) ++ List.replicate (2 - (lg_sl ([.ref a, .ref w])).length) Slot.unset).toArray = ls at hl ⊢
  have hl : lv_has ls 2 [(0, .ref a), (1, .ref w)] := hl
  have J0 : an_J D s 7 a [.null, .null, .null, .null] s.heap 0 [] := ⟨hat, rfl, fun _ h => absurd h List.not_mem_nil, by omega⟩
  have kp0 : an_kp a s.heap s.heap := an_kp.rf
  obtain ⟨hwa, hw_0⟩ := hE
  have x0 : an_tt s.heap := trivial
  have lo0 : an_lo a (a + 1) an_tt := fun _ _ _ h => h
  refine lv_aload_n hF.1 hF.2.1 dX7_init_0 rfl (hl.2.2 _ (.head _)) ?_
  refine W.objInit hF.1 hF.2.1 hF.2.2.2.1 (hts _ (List.mem_cons_of_mem _ uw_362)) (hts _ (List.mem_cons_of_mem _ uw_34)) (hts _ (List.mem_cons_of_mem _ uw_35)) rfl (hl.1.trans hF.2.2.1.symm) rfl dX7_init_1 (Nat.le_of_ble_eq_true rfl) (Nat.le_of_ble_eq_true rfl) ?_
  refine W.eq (g2 := F0 m 4 ls []) rfl ?_
  refine lv_aload_n hF.1 hF.2.1 dX7_init_4 rfl (hl.2.2 _ (.head _)) ?_
  refine lv_aload_n hF.1 hF.2.1 dX7_init_5 rfl (hl.2.2 _ (.tail _ (.head _))) ?_
  refine an_put (ty := tyX7 0) hF.1 hF.2.1 hts (fun w h => List.mem_cons_of_mem _ (iu_X7 w h)) tyX7 tyX7_ok nmX7 hF.2.2.2.1 hK J0 rfl 0 (by decide) (hts _ (List.mem_cons_of_mem _ uw_379)) (fun _ h => h) hin rfl (tyX7_ok 0 (by decide)) rfl rfl (Nat.le_of_ble_eq_true rfl) dX7_init_6 (fun H1 locs1 J1 k1 => ?_)
  have J1 : an_J D s 7 a [.ref (w), .null, .null, .null] H1 0 locs1 := J1
  have x1 := lo0 _ _ (fun q q1 q2 => k1 q (by have := J0.2.1; omega) (by omega)) x0
  have hw_1 : an_at D 10 w [.ref (w + 1), .ref (w + 6), .ref (w + 42), .ref (w + 66), .ref (w + 73), .ref (w + 80), .ref (w + 82), .ref (w + 84)] H1 := an_mv (k1 w (by have := J0.2.1; omega) (by omega)) hw_0
  have kp1 : an_kp a s.heap H1 := kp0.tr k1 (by have := J0.2.1; omega)
  clear k1
  refine lv_aload_n hF.1 hF.2.1 dX7_init_9 rfl (hl.2.2 _ (.head _)) ?_
  refine lv_aload_n hF.1 hF.2.1 dX7_init_10 rfl (hl.2.2 _ (.tail _ (.head _))) ?_
  refine va_get (fs := [.ref (w + 1), .ref (w + 6), .ref (w + 42), .ref (w + 66), .ref (w + 73), .ref (w + 80), .ref (w + 82), .ref (w + 84)]) (v := .ref (w + 6)) hF.1 hF.2.1 hts (fun w h => List.mem_cons_of_mem _ (iu_X10 w h)) hF.2.2.2.1 hK (an_P1 hw_1) 0 rfl rfl 1 (by decide) (hts _ (List.mem_cons_of_mem _ uw_316)) (fun _ h => h) rfl dX7_init_11 ?_
  refine an_put (ty := tyX7 1) hF.1 hF.2.1 hts (fun w h => List.mem_cons_of_mem _ (iu_X7 w h)) tyX7 tyX7_ok nmX7 hF.2.2.2.1 hK J1 rfl 1 (by decide) (hts _ (List.mem_cons_of_mem _ uw_380)) (fun _ h => h) hin rfl (tyX7_ok 1 (by decide)) rfl rfl (Nat.le_of_ble_eq_true rfl) dX7_init_14 (fun H2 locs2 J2 k2 => ?_)
  have J2 : an_J D s 7 a [.ref (w), .ref (w + 6), .null, .null] H2 0 locs2 := J2
  have x2 := lo0 _ _ (fun q q1 q2 => k2 q (by have := J1.2.1; omega) (by omega)) x1
  have hw_2 : an_at D 10 w [.ref (w + 1), .ref (w + 6), .ref (w + 42), .ref (w + 66), .ref (w + 73), .ref (w + 80), .ref (w + 82), .ref (w + 84)] H2 := an_mv (k2 w (by have := J1.2.1; omega) (by omega)) hw_1
  have kp2 : an_kp a s.heap H2 := kp1.tr k2 (by have := J1.2.1; omega)
  clear k2 kp1 hw_1 x1 J1
  refine lv_aload_n hF.1 hF.2.1 dX7_init_17 rfl (hl.2.2 _ (.head _)) ?_
  refine lv_aload_n hF.1 hF.2.1 dX7_init_18 rfl (hl.2.2 _ (.tail _ (.head _))) ?_
  refine va_get (fs := [.ref (w + 1), .ref (w + 6), .ref (w + 42), .ref (w + 66), .ref (w + 73), .ref (w + 80), .ref (w + 82), .ref (w + 84)]) (v := .ref (w + 42)) hF.1 hF.2.1 hts (fun w h => List.mem_cons_of_mem _ (iu_X10 w h)) hF.2.2.2.1 hK (an_P1 hw_2) 0 rfl rfl 2 (by decide) (hts _ (List.mem_cons_of_mem _ uw_320)) (fun _ h => h) rfl dX7_init_19 ?_
  refine an_put (ty := tyX7 2) hF.1 hF.2.1 hts (fun w h => List.mem_cons_of_mem _ (iu_X7 w h)) tyX7 tyX7_ok nmX7 hF.2.2.2.1 hK J2 rfl 2 (by decide) (hts _ (List.mem_cons_of_mem _ uw_381)) (fun _ h => h) hin rfl (tyX7_ok 2 (by decide)) rfl rfl (Nat.le_of_ble_eq_true rfl) dX7_init_22 (fun H3 locs3 J3 k3 => ?_)
  have J3 : an_J D s 7 a [.ref (w), .ref (w + 6), .ref (w + 42), .null] H3 0 locs3 := J3
  have x3 := lo0 _ _ (fun q q1 q2 => k3 q (by have := J2.2.1; omega) (by omega)) x2
  have hw_3 : an_at D 10 w [.ref (w + 1), .ref (w + 6), .ref (w + 42), .ref (w + 66), .ref (w + 73), .ref (w + 80), .ref (w + 82), .ref (w + 84)] H3 := an_mv (k3 w (by have := J2.2.1; omega) (by omega)) hw_2
  have kp3 : an_kp a s.heap H3 := kp2.tr k3 (by have := J2.2.1; omega)
  clear k3 kp2 hw_2 x2 J2
  refine lv_aload_n hF.1 hF.2.1 dX7_init_25 rfl (hl.2.2 _ (.head _)) ?_
  refine an_new (cj := 2) (gs := [.null, .null, .null]) (C := RX2) (T := TX2) (N := 3) hF.1 hF.2.1 hts (fun w h => List.mem_cons_of_mem _ (iu_X2 w h)) tyX2 tyX2_ok hF.2.2.2.1 (hts _ (List.mem_cons_of_mem _ uw_363)) (hts _ (List.mem_cons_of_mem _ uw_364)) (hts _ (List.mem_cons_of_mem _ uw_13)) hK J3 rfl (by decide +kernel) (by show 1 ≤ 1; omega) (by show 0 + 3 ≤ (3); omega) dX7_init_26 (fun H4 J4 g4 k4 => ?_)
  have z4 : H3.size = a + 1 := by have := J3.2.1; omega
  rw [z4] at g4 ⊢
  have x4 := lo0 _ _ (fun q q1 q2 => k4 q (by have := J3.2.1; omega) (by omega)) x3
  have hw_4 : an_at D 10 w [.ref (w + 1), .ref (w + 6), .ref (w + 42), .ref (w + 66), .ref (w + 73), .ref (w + 80), .ref (w + 82), .ref (w + 84)] H4 := an_mv (k4 w (by have := J3.2.1; omega) (by omega)) hw_3
  have kp4 : an_kp a s.heap H4 := kp3.tr k4 (by have := J3.2.1; omega)
  refine lv_dup hF.1 hF.2.1 dX7_init_29 rfl ?_
  refine lv_aload_n hF.1 hF.2.1 dX7_init_30 rfl (hl.2.2 _ (.tail _ (.head _))) ?_
  refine an_call (mc := 0) (ms := 0) (a1 := a + 1) (n := 0) (va_runI (As := [.ref (w)]) hF (c_X2_init l D cI (w) (a + 1)) (cwI 1 hF.2.2.2.2 (am_gi uw_367) rfl rfl rfl (hts _ (List.mem_cons_of_mem _ uw_13)) (hts _ (List.mem_cons_of_mem _ uw_365)) (hts _ (List.mem_cons_of_mem _ uw_366)) rfl (by decide +kernel) ⟨Nat.le_of_ble_eq_true rfl, Nat.le_of_ble_eq_true rfl⟩) ⟨an_blind (D := D) (a := a + 1) (ci := 2) (cI := cI) (dfs := [.null, .null, .null]) (ex := [.ref (w)]) (E := (fun a9 H => w + 85 < a9 ∧ an_at D 10 (w) [.ref ((w) + 1), .ref ((w) + 6), .ref ((w) + 42), .ref ((w) + 66), .ref ((w) + 73), .ref ((w) + 80), .ref ((w) + 82), .ref ((w) + 84)] H)), fun U hU hW => ⟨rfl, by rw [hU]; exact g4, by rw [hU]; have := J4.2.1; omega, by rw [hU]; exact ⟨by omega, hw_4⟩, va_K.moved hW.alike hK, by rw [hW.alike.findClass]; exact hfI, hNw.warm hW⟩⟩ rfl rfl hl.1 rfl (Nat.le_of_ble_eq_true rfl) dX7_init_31 ⟨by show 1 ≤ 1; omega, by show 0 + 3 + 0 ≤ (3); omega⟩) (by omega) J4 rfl (by have := J4.2.1; omega) (by omega) (fun H5 J5 f5_5 k5 => ?_)
  have x5 := lo0 _ _ (fun q q1 q2 => k5 q (by have := J4.2.1; omega) (by omega)) x4
  have hw_5 : an_at D 10 w [.ref (w + 1), .ref (w + 6), .ref (w + 42), .ref (w + 66), .ref (w + 73), .ref (w + 80), .ref (w + 82), .ref (w + 84)] H5 := an_mv (k5 w (by have := J4.2.1; omega) (by omega)) hw_4
  have kp5 : an_kp a s.heap H5 := fun q q1 q2 => (k5 q (by have := J4.2.1; omega) (by omega)).trans (kp4 q q1 q2)
  have lo5 := an_lo_c (P := fun H => an_xchg D cI (w) (a + 1) H) (b1 := a + 1 + 1) lo0 (an_xchg_loc (a + 1)) (by omega) (by omega) (by omega)
  have w5 : an_cj _ (fun H => an_xchg D cI (w) (a + 1) H) _ := And.intro x5 f5_5
  refine an_put (ty := tyX7 3) hF.1 hF.2.1 hts (fun w h => List.mem_cons_of_mem _ (iu_X7 w h)) tyX7 tyX7_ok nmX7 hF.2.2.2.1 hK J5 rfl 3 (by decide) (hts _ (List.mem_cons_of_mem _ uw_382)) (fun _ h => h) hin rfl (tyX7_ok 3 (by decide)) rfl rfl (Nat.le_of_ble_eq_true rfl) dX7_init_34 (fun H6 locs6 J6 k6 => ?_)
  have J6 : an_J D s 7 a [.ref (w), .ref (w + 6), .ref (w + 42), .ref (a + 1)] H6 1 locs6 := J6
  have x6 := lo5 _ _ (fun q q1 q2 => k6 q (by have := J5.2.1; omega) (by omega)) w5
  have hw_6 : an_at D 10 w [.ref (w + 1), .ref (w + 6), .ref (w + 42), .ref (w + 66), .ref (w + 73), .ref (w + 80), .ref (w + 82), .ref (w + 84)] H6 := an_mv (k6 w (by have := J5.2.1; omega) (by omega)) hw_5
  have kp6 : an_kp a s.heap H6 := kp5.tr k6 (by have := J5.2.1; omega)
  clear k6 w5 kp5 hw_5 x5 k5 f5_5 J5 kp4 hw_4 x4 z4 k4 g4 J4 kp3 hw_3 x3 J3
  obtain ⟨-, y0⟩ := x6
  refine W.widen (k := 1) (n := (3)) (by omega) (by omega) ?_
  exact an_fin (P := an_sche D cI w) hF.1 hF.2.1 B.returns B.notSynchronized J6 kp6 hsz ⟨J6.1, y0⟩ dX7_init_37
def an_mode (D : va_G) (cI : ClassId) (a : Nat) (H : Heap) : Prop := an_at D 12 a [.int 0, .ref (a + 1), .ref (a + 2), .int 0, .ref (a + 3), .int 0, .int (-1), .int 0, .ref (a + 4), .int 0, .int 0] H ∧ an_ar cI (a + 1) (9231) H ∧ an_ar cI (a + 2) (9231) H ∧ an_ar cI (a + 3) (60) H ∧ an_ar cI (a + 4) (25) H
theorem an_mode_loc {D : va_G} {cI : ClassId} (a : Nat) (H H1 : Heap) (h : ∀ q, a ≤ q → q < a + 5 → H1[q]? = H[q]?) (j : an_mode D cI (a) H) : an_mode D cI (a) H1 := by
  obtain ⟨j0, j1, j2, j3, j4⟩ := j
  exact ⟨an_mv (h a (by omega) (by omega)) j0, an_ar_loc (a + 1) H H1 (fun q q1 q2 => h q (by omega) (by omega)) j1, an_ar_loc (a + 2) H H1 (fun q q1 q2 => h q (by omega) (by omega)) j2, an_ar_loc (a + 3) H H1 (fun q q1 q2 => h q (by omega) (by omega)) j3, an_ar_loc (a + 4) H H1 (fun q q1 q2 => h q (by omega) (by omega)) j4⟩
theorem c_X12_init (l : Launch) (D : va_G) (cI : ClassId) : an_Met l D cI yX12_init (Cond.code yX12_init cX12_init 1 none :: am_tb) { frames := 1, cells := 4, slots := 18547, locals := 40 } 12 [.int 0, .null, .null, .int 0, .null, .int 0, .int 0, .int 0, .null, .int 0, .int 0] [] (fun _ _ => True) 4 (18547) (an_mode D cI) := by
  intro a
  refine Met.ofW (cc := cX12_init) (maxL := 1) (ret := none) (by decide +kernel) rfl ?_
  intro p e s m args below meth c s₁ B hml hv
  obtain ⟨rfl, hat, hsz, hE, hK, hfI, hNw⟩ := hv
  have hF := (⟨B.exec, B.bytes, hml, findClass_of_methodNamed B.named, atoms_spec (ws := Cond.code yX12_init cX12_init 1 none :: am_tb) B.pre⟩ : CallFix p m c cX12_init 1 s _ (Cond.code yX12_init cX12_init 1 none :: am_tb) yX12_init.cls)
  have hts := hF.2.2.2.2
  have hin : meth.name = "<init>" := (name_of_methodNamed B.named B.method).1
  have hl := lv_entry ([.ref a]) (n := 1) (Nat.le_of_ble_eq_true rfl)
  rw [lg_entry_eq]
  generalize (lg_sl ([.ref a]) ++ List.replicate (1 - (lg_sl ([.ref a])).length) Slot.unset).toArray = ls at hl ⊢
  have hl : lv_has ls 1 [(0, .ref a)] := hl
  have J0 : an_J D s 12 a [.int 0, .null, .null, .int 0, .null, .int 0, .int 0, .int 0, .null, .int 0, .int 0] s.heap 0 [] := ⟨hat, rfl, fun _ h => absurd h List.not_mem_nil, by omega⟩
  have kp0 : an_kp a s.heap s.heap := an_kp.rf
  have x0 : an_tt s.heap := trivial
  have lo0 : an_lo a (a + 1) an_tt := fun _ _ _ h => h
  refine lv_aload_n hF.1 hF.2.1 dX12_init_0 rfl (hl.2.2 _ (.head _)) ?_
  refine W.objInit hF.1 hF.2.1 hF.2.2.2.1 (hts _ (List.mem_cons_of_mem _ uw_1212)) (hts _ (List.mem_cons_of_mem _ uw_34)) (hts _ (List.mem_cons_of_mem _ uw_35)) rfl (hl.1.trans hF.2.2.1.symm) rfl dX12_init_1 (Nat.le_of_ble_eq_true rfl) (Nat.le_of_ble_eq_true rfl) ?_
  refine W.eq (g2 := F0 m 4 ls []) rfl ?_
  refine lv_aload_n hF.1 hF.2.1 dX12_init_4 rfl (hl.2.2 _ (.head _)) ?_
  refine lv_sipush (v := nI 9231) hF.1 hF.2.1 dX12_init_5 (by decide) ?_
  refine an_newa hF.1 hF.2.1 (hts _ (List.mem_cons_of_mem _ uw_52)) hfI J0 (N := 9231) (nI_pos (by omega)) (nI_clamp (by omega)) (by omega) (by show 1 ≤ 4; omega) (by show 0 + 9231 ≤ (18547); omega) dX12_init_8 (fun H1 J1 f1_1 k1 => ?_)
  have z1 : s.heap.size = a + 1 := by have := J0.2.1; omega
  rw [z1] at f1_1 ⊢
  have x1 := lo0 _ _ (fun q q1 q2 => k1 q (by have := J0.2.1; omega) (by omega)) x0
  have kp1 : an_kp a s.heap H1 := kp0.tr k1 (by have := J0.2.1; omega)
  have lo1 := an_lo_c (P := fun H => an_ar cI (a + 1) (9231) H) (b1 := a + 1 + 1) lo0 (an_ar_loc (a + 1)) (by omega) (by omega) (by omega)
  have w1 : an_cj _ (fun H => an_ar cI (a + 1) (9231) H) _ := And.intro x1 f1_1
  refine an_put (ty := tyX12 1) hF.1 hF.2.1 hts (fun w h => List.mem_cons_of_mem _ (iu_X12 w h)) tyX12 tyX12_ok nmX12 hF.2.2.2.1 hK J1 rfl 1 (by decide) (hts _ (List.mem_cons_of_mem _ uw_1214)) (fun _ h => h) hin rfl (tyX12_ok 1 (by decide)) rfl rfl (Nat.le_of_ble_eq_true rfl) dX12_init_10 (fun H2 locs2 J2 k2 => ?_)
  have J2 : an_J D s 12 a [.int 0, .ref (a + 1), .null, .int 0, .null, .int 0, .int 0, .int 0, .null, .int 0, .int 0] H2 1 locs2 := J2
  have x2 := lo1 _ _ (fun q q1 q2 => k2 q (by have := J1.2.1; omega) (by omega)) w1
  have kp2 : an_kp a s.heap H2 := kp1.tr k2 (by have := J1.2.1; omega)
  clear k2 w1 kp1 x1 z1 k1 f1_1 J1
  refine lv_aload_n hF.1 hF.2.1 dX12_init_13 rfl (hl.2.2 _ (.head _)) ?_
  refine lv_sipush (v := nI 9231) hF.1 hF.2.1 dX12_init_14 (by decide) ?_
  refine an_newa hF.1 hF.2.1 (hts _ (List.mem_cons_of_mem _ uw_52)) hfI J2 (N := 9231) (nI_pos (by omega)) (nI_clamp (by omega)) (by omega) (by show 2 ≤ 4; omega) (by show 0 + (9231) + 9231 ≤ (18547); omega) dX12_init_17 (fun H3 J3 f3_3 k3 => ?_)
  have z3 : H2.size = a + 2 := by have := J2.2.1; omega
  rw [z3] at f3_3 ⊢
  have x3 := lo1 _ _ (fun q q1 q2 => k3 q (by have := J2.2.1; omega) (by omega)) x2
  have kp3 : an_kp a s.heap H3 := kp2.tr k3 (by have := J2.2.1; omega)
  have lo3 := an_lo_c (P := fun H => an_ar cI (a + 2) (9231) H) (b1 := a + 2 + 1) lo1 (an_ar_loc (a + 2)) (by omega) (by omega) (by omega)
  have w3 : an_cj _ (fun H => an_ar cI (a + 2) (9231) H) _ := And.intro x3 f3_3
  refine an_put (ty := tyX12 2) hF.1 hF.2.1 hts (fun w h => List.mem_cons_of_mem _ (iu_X12 w h)) tyX12 tyX12_ok nmX12 hF.2.2.2.1 hK J3 rfl 2 (by decide) (hts _ (List.mem_cons_of_mem _ uw_1215)) (fun _ h => h) hin rfl (tyX12_ok 2 (by decide)) rfl rfl (Nat.le_of_ble_eq_true rfl) dX12_init_19 (fun H4 locs4 J4 k4 => ?_)
  have J4 : an_J D s 12 a [.int 0, .ref (a + 1), .ref (a + 2), .int 0, .null, .int 0, .int 0, .int 0, .null, .int 0, .int 0] H4 2 locs4 := J4
  have x4 := lo3 _ _ (fun q q1 q2 => k4 q (by have := J3.2.1; omega) (by omega)) w3
  have kp4 : an_kp a s.heap H4 := kp3.tr k4 (by have := J3.2.1; omega)
  clear k4 w3 kp3 x3 z3 k3 f3_3 J3 kp2 x2 J2 lo1
  refine lv_aload_n hF.1 hF.2.1 dX12_init_22 rfl (hl.2.2 _ (.head _)) ?_
  refine lv_bipush (v := nI 60) hF.1 hF.2.1 dX12_init_23 (by decide) ?_
  refine an_newa hF.1 hF.2.1 (hts _ (List.mem_cons_of_mem _ uw_52)) hfI J4 (N := 60) (nI_pos (by omega)) (nI_clamp (by omega)) (by omega) (by show 3 ≤ 4; omega) (by show 0 + (9231) + (9231) + 60 ≤ (18547); omega) dX12_init_25 (fun H5 J5 f5_5 k5 => ?_)
  have z5 : H4.size = a + 3 := by have := J4.2.1; omega
  rw [z5] at f5_5 ⊢
  have x5 := lo3 _ _ (fun q q1 q2 => k5 q (by have := J4.2.1; omega) (by omega)) x4
  have kp5 : an_kp a s.heap H5 := kp4.tr k5 (by have := J4.2.1; omega)
  have lo5 := an_lo_c (P := fun H => an_ar cI (a + 3) (60) H) (b1 := a + 3 + 1) lo3 (an_ar_loc (a + 3)) (by omega) (by omega) (by omega)
  have w5 : an_cj _ (fun H => an_ar cI (a + 3) (60) H) _ := And.intro x5 f5_5
  refine an_put (ty := tyX12 4) hF.1 hF.2.1 hts (fun w h => List.mem_cons_of_mem _ (iu_X12 w h)) tyX12 tyX12_ok nmX12 hF.2.2.2.1 hK J5 rfl 4 (by decide) (hts _ (List.mem_cons_of_mem _ uw_1217)) (fun _ h => h) hin rfl (tyX12_ok 4 (by decide)) rfl rfl (Nat.le_of_ble_eq_true rfl) dX12_init_27 (fun H6 locs6 J6 k6 => ?_)
  have J6 : an_J D s 12 a [.int 0, .ref (a + 1), .ref (a + 2), .int 0, .ref (a + 3), .int 0, .int 0, .int 0, .null, .int 0, .int 0] H6 3 locs6 := J6
  have x6 := lo5 _ _ (fun q q1 q2 => k6 q (by have := J5.2.1; omega) (by omega)) w5
  have kp6 : an_kp a s.heap H6 := kp5.tr k6 (by have := J5.2.1; omega)
  clear k6 w5 kp5 x5 z5 k5 f5_5 J5 kp4 x4 J4 lo3
  refine lv_aload_n hF.1 hF.2.1 dX12_init_30 rfl (hl.2.2 _ (.head _)) ?_
  refine lv_iconst (v := -1) hF.1 hF.2.1 dX12_init_31 (by decide) ?_
  refine an_put (ty := tyX12 6) hF.1 hF.2.1 hts (fun w h => List.mem_cons_of_mem _ (iu_X12 w h)) tyX12 tyX12_ok nmX12 hF.2.2.2.1 hK J6 rfl 6 (by decide) (hts _ (List.mem_cons_of_mem _ uw_1219)) (fun _ h => h) hin rfl (tyX12_ok 6 (by decide)) rfl rfl (Nat.le_of_ble_eq_true rfl) dX12_init_32 (fun H7 locs7 J7 k7 => ?_)
  have J7 : an_J D s 12 a [.int 0, .ref (a + 1), .ref (a + 2), .int 0, .ref (a + 3), .int 0, .int (-1), .int 0, .null, .int 0, .int 0] H7 3 locs7 := J7
  have x7 := lo5 _ _ (fun q q1 q2 => k7 q (by have := J6.2.1; omega) (by omega)) x6
  have kp7 : an_kp a s.heap H7 := kp6.tr k7 (by have := J6.2.1; omega)
  clear k7 kp6 x6 J6
  refine lv_aload_n hF.1 hF.2.1 dX12_init_35 rfl (hl.2.2 _ (.head _)) ?_
  refine lv_bipush (v := nI 25) hF.1 hF.2.1 dX12_init_36 (by decide) ?_
  refine an_newa hF.1 hF.2.1 (hts _ (List.mem_cons_of_mem _ uw_52)) hfI J7 (N := 25) (nI_pos (by omega)) (nI_clamp (by omega)) (by omega) (by show 4 ≤ 4; omega) (by show 0 + (9231) + (9231) + (60) + 25 ≤ (18547); omega) dX12_init_38 (fun H8 J8 f8_8 k8 => ?_)
  have z8 : H7.size = a + 4 := by have := J7.2.1; omega
  rw [z8] at f8_8 ⊢
  have x8 := lo5 _ _ (fun q q1 q2 => k8 q (by have := J7.2.1; omega) (by omega)) x7
  have kp8 : an_kp a s.heap H8 := kp7.tr k8 (by have := J7.2.1; omega)
  have lo8 := an_lo_c (P := fun H => an_ar cI (a + 4) (25) H) (b1 := a + 4 + 1) lo5 (an_ar_loc (a + 4)) (by omega) (by omega) (by omega)
  have w8 : an_cj _ (fun H => an_ar cI (a + 4) (25) H) _ := And.intro x8 f8_8
  refine an_put (ty := tyX12 8) hF.1 hF.2.1 hts (fun w h => List.mem_cons_of_mem _ (iu_X12 w h)) tyX12 tyX12_ok nmX12 hF.2.2.2.1 hK J8 rfl 8 (by decide) (hts _ (List.mem_cons_of_mem _ uw_1221)) (fun _ h => h) hin rfl (tyX12_ok 8 (by decide)) rfl rfl (Nat.le_of_ble_eq_true rfl) dX12_init_40 (fun H9 locs9 J9 k9 => ?_)
  have J9 : an_J D s 12 a [.int 0, .ref (a + 1), .ref (a + 2), .int 0, .ref (a + 3), .int 0, .int (-1), .int 0, .ref (a + 4), .int 0, .int 0] H9 4 locs9 := J9
  have x9 := lo8 _ _ (fun q q1 q2 => k9 q (by have := J8.2.1; omega) (by omega)) w8
  have kp9 : an_kp a s.heap H9 := kp8.tr k9 (by have := J8.2.1; omega)
  clear k9 w8 kp8 x8 z8 k8 f8_8 J8 kp7 x7 J7 lo5
  obtain ⟨⟨⟨⟨-, y0⟩, y1⟩, y2⟩, y3⟩ := x9
  refine W.widen (k := 4) (n := (18547)) (by omega) (by omega) ?_
  exact an_fin (P := an_mode D cI) hF.1 hF.2.1 B.returns B.notSynchronized J9 kp9 hsz ⟨J9.1, y0, y1, y2, y3⟩ dX12_init_43
def an_clas (D : va_G) (cI : ClassId) (a : Nat) (H : Heap) : Prop := an_at D 11 a [.ref (a + 1), .ref (a + 3), .ref (a + 15), .ref (a + 101), .ref (a + 187), .int 0, .int (-1)] H ∧ an_line D cI (60) (a + 1) H ∧ an_read D cI (a + 1) (a + 3) H ∧ an_worl D cI (a + 15) H ∧ an_worl D cI (a + 101) H ∧ an_sche D cI (a + 15) (a + 187) H
theorem an_clas_loc {D : va_G} {cI : ClassId} (a : Nat) (H H1 : Heap) (h : ∀ q, a ≤ q → q < a + 189 → H1[q]? = H[q]?) (j : an_clas D cI (a) H) : an_clas D cI (a) H1 := by
  obtain ⟨j0, j1, j2, j3, j4, j5⟩ := j
  exact ⟨an_mv (h a (by omega) (by omega)) j0, an_line_loc (a + 1) H H1 (fun q q1 q2 => h q (by omega) (by omega)) j1, an_read_loc (a + 3) H H1 (fun q q1 q2 => h q (by omega) (by omega)) j2, an_worl_loc (a + 15) H H1 (fun q q1 q2 => h q (by omega) (by omega)) j3, an_worl_loc (a + 101) H H1 (fun q q1 q2 => h q (by omega) (by omega)) j4, an_sche_loc (a + 187) H H1 (fun q q1 q2 => h q (by omega) (by omega)) j5⟩
theorem c_X11_init (l : Launch) (D : va_G) (cI : ClassId) : an_Met l D cI yX11_init (Cond.code yX11_init cX11_init 1 none :: am_tb) { frames := 5, cells := 188, slots := 11157, locals := 200 } 11 [.null, .null, .null, .null, .null, .int 0, .int 0] [] (fun _ _ => True) 188 (11157) (an_clas D cI) := by
  intro a
  refine Met.ofW (cc := cX11_init) (maxL := 1) (ret := none) (by decide +kernel) rfl ?_
  intro p e s m args below meth c s₁ B hml hv
  obtain ⟨rfl, hat, hsz, hE, hK, hfI, hNw⟩ := hv
  have hF := (⟨B.exec, B.bytes, hml, findClass_of_methodNamed B.named, atoms_spec (ws := Cond.code yX11_init cX11_init 1 none :: am_tb) B.pre⟩ : CallFix p m c cX11_init 1 s _ (Cond.code yX11_init cX11_init 1 none :: am_tb) yX11_init.cls)
  have hts := hF.2.2.2.2
  have hin : meth.name = "<init>" := (name_of_methodNamed B.named B.method).1
  have hl := lv_entry ([.ref a]) (n := 1) (Nat.le_of_ble_eq_true rfl)
  rw [lg_entry_eq]
  generalize (lg_sl ([.ref a]) ++ List.replicate (1 - (lg_sl ([.ref a])).length) Slot.unset).toArray = ls at hl ⊢
  have hl : lv_has ls 1 [(0, .ref a)] := hl
  have J0 : an_J D s 11 a [.null, .null, .null, .null, .null, .int 0, .int 0] s.heap 0 [] := ⟨hat, rfl, fun _ h => absurd h List.not_mem_nil, by omega⟩
  have kp0 : an_kp a s.heap s.heap := an_kp.rf
  have x0 : an_tt s.heap := trivial
  have lo0 : an_lo a (a + 1) an_tt := fun _ _ _ h => h
  refine lv_aload_n hF.1 hF.2.1 dX11_init_0 rfl (hl.2.2 _ (.head _)) ?_
  refine W.objInit hF.1 hF.2.1 hF.2.2.2.1 (hts _ (List.mem_cons_of_mem _ uw_33)) (hts _ (List.mem_cons_of_mem _ uw_34)) (hts _ (List.mem_cons_of_mem _ uw_35)) rfl (hl.1.trans hF.2.2.1.symm) rfl dX11_init_1 (Nat.le_of_ble_eq_true rfl) (Nat.le_of_ble_eq_true rfl) ?_
  refine W.eq (g2 := F0 m 4 ls []) rfl ?_
  refine lv_aload_n hF.1 hF.2.1 dX11_init_4 rfl (hl.2.2 _ (.head _)) ?_
  refine an_new (cj := 4) (gs := [.null, .int 0]) (C := RX4) (T := TX4) (N := 2) hF.1 hF.2.1 hts (fun w h => List.mem_cons_of_mem _ (iu_X4 w h)) tyX4 tyX4_ok hF.2.2.2.1 (hts _ (List.mem_cons_of_mem _ uw_36)) (hts _ (List.mem_cons_of_mem _ uw_37)) (hts _ (List.mem_cons_of_mem _ uw_2)) hK J0 rfl (by decide +kernel) (by show 1 ≤ 188; omega) (by show 0 + 2 ≤ (11157); omega) dX11_init_5 (fun H1 J1 g1 k1 => ?_)
  have z1 : s.heap.size = a + 1 := by have := J0.2.1; omega
  rw [z1] at g1 ⊢
  have x1 := lo0 _ _ (fun q q1 q2 => k1 q (by have := J0.2.1; omega) (by omega)) x0
  have kp1 : an_kp a s.heap H1 := kp0.tr k1 (by have := J0.2.1; omega)
  refine lv_dup hF.1 hF.2.1 dX11_init_8 rfl ?_
  refine lv_bipush (v := nI 60) hF.1 hF.2.1 dX11_init_9 (by decide) ?_
  refine an_call (mc := 1) (ms := ((60))) (a1 := a + 1) (n := 1) (va_runI (As := [.int (nI (60))]) hF (c_X4_init l D cI (60) (by omega) (a + 1)) (cwI 1 hF.2.2.2.2 (am_gi uw_40) rfl rfl rfl (hts _ (List.mem_cons_of_mem _ uw_2)) (hts _ (List.mem_cons_of_mem _ uw_38)) (hts _ (List.mem_cons_of_mem _ uw_39)) rfl (by decide +kernel) ⟨Nat.le_of_ble_eq_true rfl, Nat.le_of_ble_eq_true rfl⟩) ⟨an_blind (D := D) (a := a + 1) (ci := 4) (cI := cI) (dfs := [.null, .int 0]) (ex := [.int (nI (60))]) (E := (fun _ _ => True)), fun U hU hW => ⟨rfl, by rw [hU]; exact g1, by rw [hU]; have := J1.2.1; omega, by rw [hU]; exact trivial, va_K.moved hW.alike hK, by rw [hW.alike.findClass]; exact hfI, hNw.warm hW⟩⟩ rfl rfl hl.1 rfl (Nat.le_of_ble_eq_true rfl) dX11_init_11 ⟨by show 2 ≤ 188; omega, by show 0 + 2 + ((60)) ≤ (11157); omega⟩) (by omega) J1 rfl (by have := J1.2.1; omega) (by omega) (fun H2 J2 f2_2 k2 => ?_)
  have x2 := lo0 _ _ (fun q q1 q2 => k2 q (by have := J1.2.1; omega) (by omega)) x1
  have kp2 : an_kp a s.heap H2 := fun q q1 q2 => (k2 q (by have := J1.2.1; omega) (by omega)).trans (kp1 q q1 q2)
  have lo2 := an_lo_c (P := fun H => an_line D cI (60) (a + 1) H) (b1 := a + 1 + 2) lo0 (an_line_loc (a + 1)) (by omega) (by omega) (by omega)
  have w2 : an_cj _ (fun H => an_line D cI (60) (a + 1) H) _ := And.intro x2 f2_2
  refine an_put (ty := tyX11 0) hF.1 hF.2.1 hts (fun w h => List.mem_cons_of_mem _ (iu_X11 w h)) tyX11 tyX11_ok nmX11 hF.2.2.2.1 hK J2 rfl 0 (by decide) (hts _ (List.mem_cons_of_mem _ uw_392)) (fun _ h => h) hin rfl (tyX11_ok 0 (by decide)) rfl rfl (Nat.le_of_ble_eq_true rfl) dX11_init_14 (fun H3 locs3 J3 k3 => ?_)
  have J3 : an_J D s 11 a [.ref (a + 1), .null, .null, .null, .null, .int 0, .int 0] H3 2 locs3 := J3
  have x3 := lo2 _ _ (fun q q1 q2 => k3 q (by have := J2.2.1; omega) (by omega)) w2
  have kp3 : an_kp a s.heap H3 := kp2.tr k3 (by have := J2.2.1; omega)
  clear k3 w2 kp2 x2 k2 f2_2 J2 kp1 x1 z1 k1 g1 J1
  refine lv_aload_n hF.1 hF.2.1 dX11_init_17 rfl (hl.2.2 _ (.head _)) ?_
  refine an_new (cj := 5) (gs := [.null, .null, .null, .null, .null, .int 0, .int 0]) (C := RX5) (T := TX5) (N := 7) hF.1 hF.2.1 hts (fun w h => List.mem_cons_of_mem _ (iu_X5 w h)) tyX5 tyX5_ok hF.2.2.2.1 (hts _ (List.mem_cons_of_mem _ uw_53)) (hts _ (List.mem_cons_of_mem _ uw_54)) (hts _ (List.mem_cons_of_mem _ uw_4)) hK J3 rfl (by decide +kernel) (by show 3 ≤ 188; omega) (by show 0 + 2 + (((60))) + 7 ≤ (11157); omega) dX11_init_18 (fun H4 J4 g4 k4 => ?_)
  have z4 : H3.size = a + 3 := by have := J3.2.1; omega
  rw [z4] at g4 ⊢
  have x4 := lo2 _ _ (fun q q1 q2 => k4 q (by have := J3.2.1; omega) (by omega)) x3
  have kp4 : an_kp a s.heap H4 := kp3.tr k4 (by have := J3.2.1; omega)
  refine lv_dup hF.1 hF.2.1 dX11_init_21 rfl ?_
  refine lv_aload_n hF.1 hF.2.1 dX11_init_22 rfl (hl.2.2 _ (.head _)) ?_
  refine va_get (fs := [.ref (a + 1), .null, .null, .null, .null, .int 0, .int 0]) (v := .ref (a + 1)) hF.1 hF.2.1 hts (fun w h => List.mem_cons_of_mem _ (iu_X11 w h)) hF.2.2.2.1 hK (an_P1 J4.1) 0 rfl rfl 0 (by decide) (hts _ (List.mem_cons_of_mem _ uw_392)) (fun _ h => h) rfl dX11_init_23 ?_
  refine an_call (mc := 11) (ms := 285) (a1 := a + 3) (n := 11) (va_runI (As := [.ref (a + 1)]) hF (c_X5_init l D cI (a + 1) (a + 3)) (cwI 1 hF.2.2.2.2 (am_gi uw_57) rfl rfl rfl (hts _ (List.mem_cons_of_mem _ uw_4)) (hts _ (List.mem_cons_of_mem _ uw_55)) (hts _ (List.mem_cons_of_mem _ uw_56)) rfl (by decide +kernel) ⟨Nat.le_of_ble_eq_true rfl, Nat.le_of_ble_eq_true rfl⟩) ⟨an_blind (D := D) (a := a + 3) (ci := 5) (cI := cI) (dfs := [.null, .null, .null, .null, .null, .int 0, .int 0]) (ex := [.ref (a + 1)]) (E := (fun a9 H => a + 1 < a9)), fun U hU hW => ⟨rfl, by rw [hU]; exact g4, by rw [hU]; have := J4.2.1; omega, by rw [hU]; exact (by omega), va_K.moved hW.alike hK, by rw [hW.alike.findClass]; exact hfI, hNw.warm hW⟩⟩ rfl rfl hl.1 rfl (Nat.le_of_ble_eq_true rfl) dX11_init_26 ⟨by show 14 ≤ 188; omega, by show 0 + 2 + (((60))) + 7 + 285 ≤ (11157); omega⟩) (by omega) J4 rfl (by have := J4.2.1; omega) (by omega) (fun H5 J5 f5_5 k5 => ?_)
  have x5 := lo2 _ _ (fun q q1 q2 => k5 q (by have := J4.2.1; omega) (by omega)) x4
  have kp5 : an_kp a s.heap H5 := fun q q1 q2 => (k5 q (by have := J4.2.1; omega) (by omega)).trans (kp4 q q1 q2)
  have lo5 := an_lo_c (P := fun H => an_read D cI (a + 1) (a + 3) H) (b1 := a + 3 + 12) lo2 (an_read_loc (a + 3)) (by omega) (by omega) (by omega)
  have w5 : an_cj _ (fun H => an_read D cI (a + 1) (a + 3) H) _ := And.intro x5 f5_5
  refine an_put (ty := tyX11 1) hF.1 hF.2.1 hts (fun w h => List.mem_cons_of_mem _ (iu_X11 w h)) tyX11 tyX11_ok nmX11 hF.2.2.2.1 hK J5 rfl 1 (by decide) (hts _ (List.mem_cons_of_mem _ uw_393)) (fun _ h => h) hin rfl (tyX11_ok 1 (by decide)) rfl rfl (Nat.le_of_ble_eq_true rfl) dX11_init_29 (fun H6 locs6 J6 k6 => ?_)
  have J6 : an_J D s 11 a [.ref (a + 1), .ref (a + 3), .null, .null, .null, .int 0, .int 0] H6 14 locs6 := J6
  have x6 := lo5 _ _ (fun q q1 q2 => k6 q (by have := J5.2.1; omega) (by omega)) w5
  have kp6 : an_kp a s.heap H6 := kp5.tr k6 (by have := J5.2.1; omega)
  clear k6 w5 kp5 x5 k5 f5_5 J5 kp4 x4 z4 k4 g4 J4 kp3 x3 J3 lo2
  refine lv_aload_n hF.1 hF.2.1 dX11_init_32 rfl (hl.2.2 _ (.head _)) ?_
  refine an_new (cj := 10) (gs := [.null, .null, .null, .null, .null, .null, .null, .null]) (C := RX10) (T := TX10) (N := 8) hF.1 hF.2.1 hts (fun w h => List.mem_cons_of_mem _ (iu_X10 w h)) tyX10 tyX10_ok hF.2.2.2.1 (hts _ (List.mem_cons_of_mem _ uw_109)) (hts _ (List.mem_cons_of_mem _ uw_110)) (hts _ (List.mem_cons_of_mem _ uw_7)) hK J6 rfl (by decide +kernel) (by show 15 ≤ 188; omega) (by show 0 + 2 + (((60))) + 7 + (285) + 8 ≤ (11157); omega) dX11_init_33 (fun H7 J7 g7 k7 => ?_)
  have z7 : H6.size = a + 15 := by have := J6.2.1; omega
  rw [z7] at g7 ⊢
  have x7 := lo5 _ _ (fun q q1 q2 => k7 q (by have := J6.2.1; omega) (by omega)) x6
  have kp7 : an_kp a s.heap H7 := kp6.tr k7 (by have := J6.2.1; omega)
  refine lv_dup hF.1 hF.2.1 dX11_init_36 rfl ?_
  refine an_call (mc := 85) (ms := 5390) (a1 := a + 15) (n := 85) (va_runIN (host := "CoroutineScheduler") (As := []) hF (c_X10_init l D cI (a + 15)) ⟨va_cnB 0 hF.2.2.2.2 (am_gi uw_113) rfl rfl rfl (hNw ("CoroutineScheduler", 29, (⟨"CoroutineScheduler$World", "<init>", "()V"⟩ : MethodName), "CoroutineScheduler") (by decide)) (hts _ (List.mem_cons_of_mem _ uw_7)) (by decide +kernel) ⟨Nat.le_of_ble_eq_true rfl, Nat.le_of_ble_eq_true rfl⟩, rfl, (hts _ (List.mem_cons_of_mem _ uw_112))⟩ ⟨an_blind (D := D) (a := a + 15) (ci := 10) (cI := cI) (dfs := [.null, .null, .null, .null, .null, .null, .null, .null]) (ex := []) (E := (fun _ _ => True)), fun U hU hW => ⟨rfl, by rw [hU]; exact g7, by rw [hU]; have := J7.2.1; omega, by rw [hU]; exact trivial, va_K.moved hW.alike hK, by rw [hW.alike.findClass]; exact hfI, hNw.warm hW⟩⟩ rfl rfl hl.1 rfl (Nat.le_of_ble_eq_true rfl) dX11_init_37 ⟨by show 100 ≤ 188; omega, by show 0 + 2 + (((60))) + 7 + (285) + 8 + 5390 ≤ (11157); omega⟩) (by omega) J7 rfl (by have := J7.2.1; omega) (by omega) (fun H8 J8 f8_8 k8 => ?_)
  have x8 := lo5 _ _ (fun q q1 q2 => k8 q (by have := J7.2.1; omega) (by omega)) x7
  have kp8 : an_kp a s.heap H8 := fun q q1 q2 => (k8 q (by have := J7.2.1; omega) (by omega)).trans (kp7 q q1 q2)
  have lo8 := an_lo_c (P := fun H => an_worl D cI (a + 15) H) (b1 := a + 15 + 86) lo5 (an_worl_loc (a + 15)) (by omega) (by omega) (by omega)
  have w8 : an_cj _ (fun H => an_worl D cI (a + 15) H) _ := And.intro x8 f8_8
  refine an_put (ty := tyX11 2) hF.1 hF.2.1 hts (fun w h => List.mem_cons_of_mem _ (iu_X11 w h)) tyX11 tyX11_ok nmX11 hF.2.2.2.1 hK J8 rfl 2 (by decide) (hts _ (List.mem_cons_of_mem _ uw_394)) (fun _ h => h) hin rfl (tyX11_ok 2 (by decide)) rfl rfl (Nat.le_of_ble_eq_true rfl) dX11_init_40 (fun H9 locs9 J9 k9 => ?_)
  have J9 : an_J D s 11 a [.ref (a + 1), .ref (a + 3), .ref (a + 15), .null, .null, .int 0, .int 0] H9 100 locs9 := J9
  have x9 := lo8 _ _ (fun q q1 q2 => k9 q (by have := J8.2.1; omega) (by omega)) w8
  have kp9 : an_kp a s.heap H9 := kp8.tr k9 (by have := J8.2.1; omega)
  clear k9 w8 kp8 x8 k8 f8_8 J8 kp7 x7 z7 k7 g7 J7 kp6 x6 J6 lo5
  refine lv_aload_n hF.1 hF.2.1 dX11_init_43 rfl (hl.2.2 _ (.head _)) ?_
  refine an_new (cj := 10) (gs := [.null, .null, .null, .null, .null, .null, .null, .null]) (C := RX10) (T := TX10) (N := 8) hF.1 hF.2.1 hts (fun w h => List.mem_cons_of_mem _ (iu_X10 w h)) tyX10 tyX10_ok hF.2.2.2.1 (hts _ (List.mem_cons_of_mem _ uw_109)) (hts _ (List.mem_cons_of_mem _ uw_110)) (hts _ (List.mem_cons_of_mem _ uw_7)) hK J9 rfl (by decide +kernel) (by show 101 ≤ 188; omega) (by show 0 + 2 + (((60))) + 7 + (285) + 8 + (5390) + 8 ≤ (11157); omega) dX11_init_44 (fun H10 J10 g10 k10 => ?_)
  have z10 : H9.size = a + 101 := by have := J9.2.1; omega
  rw [z10] at g10 ⊢
  have x10 := lo8 _ _ (fun q q1 q2 => k10 q (by have := J9.2.1; omega) (by omega)) x9
  have kp10 : an_kp a s.heap H10 := kp9.tr k10 (by have := J9.2.1; omega)
  refine lv_dup hF.1 hF.2.1 dX11_init_47 rfl ?_
  refine an_call (mc := 85) (ms := 5390) (a1 := a + 101) (n := 85) (va_runIN (host := "CoroutineScheduler") (As := []) hF (c_X10_init l D cI (a + 101)) ⟨va_cnB 0 hF.2.2.2.2 (am_gi uw_113) rfl rfl rfl (hNw ("CoroutineScheduler", 29, (⟨"CoroutineScheduler$World", "<init>", "()V"⟩ : MethodName), "CoroutineScheduler") (by decide)) (hts _ (List.mem_cons_of_mem _ uw_7)) (by decide +kernel) ⟨Nat.le_of_ble_eq_true rfl, Nat.le_of_ble_eq_true rfl⟩, rfl, (hts _ (List.mem_cons_of_mem _ uw_112))⟩ ⟨an_blind (D := D) (a := a + 101) (ci := 10) (cI := cI) (dfs := [.null, .null, .null, .null, .null, .null, .null, .null]) (ex := []) (E := (fun _ _ => True)), fun U hU hW => ⟨rfl, by rw [hU]; exact g10, by rw [hU]; have := J10.2.1; omega, by rw [hU]; exact trivial, va_K.moved hW.alike hK, by rw [hW.alike.findClass]; exact hfI, hNw.warm hW⟩⟩ rfl rfl hl.1 rfl (Nat.le_of_ble_eq_true rfl) dX11_init_48 ⟨by show 186 ≤ 188; omega, by show 0 + 2 + (((60))) + 7 + (285) + 8 + (5390) + 8 + 5390 ≤ (11157); omega⟩) (by omega) J10 rfl (by have := J10.2.1; omega) (by omega) (fun H11 J11 f11_11 k11 => ?_)
  have x11 := lo8 _ _ (fun q q1 q2 => k11 q (by have := J10.2.1; omega) (by omega)) x10
  have kp11 : an_kp a s.heap H11 := fun q q1 q2 => (k11 q (by have := J10.2.1; omega) (by omega)).trans (kp10 q q1 q2)
  have lo11 := an_lo_c (P := fun H => an_worl D cI (a + 101) H) (b1 := a + 101 + 86) lo8 (an_worl_loc (a + 101)) (by omega) (by omega) (by omega)
  have w11 : an_cj _ (fun H => an_worl D cI (a + 101) H) _ := And.intro x11 f11_11
  refine an_put (ty := tyX11 3) hF.1 hF.2.1 hts (fun w h => List.mem_cons_of_mem _ (iu_X11 w h)) tyX11 tyX11_ok nmX11 hF.2.2.2.1 hK J11 rfl 3 (by decide) (hts _ (List.mem_cons_of_mem _ uw_395)) (fun _ h => h) hin rfl (tyX11_ok 3 (by decide)) rfl rfl (Nat.le_of_ble_eq_true rfl) dX11_init_51 (fun H12 locs12 J12 k12 => ?_)
  have J12 : an_J D s 11 a [.ref (a + 1), .ref (a + 3), .ref (a + 15), .ref (a + 101), .null, .int 0, .int 0] H12 186 locs12 := J12
  have x12 := lo11 _ _ (fun q q1 q2 => k12 q (by have := J11.2.1; omega) (by omega)) w11
  have kp12 : an_kp a s.heap H12 := kp11.tr k12 (by have := J11.2.1; omega)
  clear k12 w11 kp11 x11 k11 f11_11 J11 kp10 x10 z10 k10 g10 J10 kp9 x9 J9 lo8
  refine lv_aload_n hF.1 hF.2.1 dX11_init_54 rfl (hl.2.2 _ (.head _)) ?_
  refine an_new (cj := 7) (gs := [.null, .null, .null, .null]) (C := RX7) (T := TX7) (N := 4) hF.1 hF.2.1 hts (fun w h => List.mem_cons_of_mem _ (iu_X7 w h)) tyX7 tyX7_ok hF.2.2.2.1 (hts _ (List.mem_cons_of_mem _ uw_357)) (hts _ (List.mem_cons_of_mem _ uw_358)) (hts _ (List.mem_cons_of_mem _ uw_12)) hK J12 rfl (by decide +kernel) (by show 187 ≤ 188; omega) (by show 0 + 2 + (((60))) + 7 + (285) + 8 + (5390) + 8 + (5390) + 4 ≤ (11157); omega) dX11_init_55 (fun H13 J13 g13 k13 => ?_)
  have z13 : H12.size = a + 187 := by have := J12.2.1; omega
  rw [z13] at g13 ⊢
  have x13 := lo11 _ _ (fun q q1 q2 => k13 q (by have := J12.2.1; omega) (by omega)) x12
  have kp13 : an_kp a s.heap H13 := kp12.tr k13 (by have := J12.2.1; omega)
  refine lv_dup hF.1 hF.2.1 dX11_init_58 rfl ?_
  refine lv_aload_n hF.1 hF.2.1 dX11_init_59 rfl (hl.2.2 _ (.head _)) ?_
  refine va_get (fs := [.ref (a + 1), .ref (a + 3), .ref (a + 15), .ref (a + 101), .null, .int 0, .int 0]) (v := .ref (a + 15)) hF.1 hF.2.1 hts (fun w h => List.mem_cons_of_mem _ (iu_X11 w h)) hF.2.2.2.1 hK (an_P1 J13.1) 0 rfl rfl 2 (by decide) (hts _ (List.mem_cons_of_mem _ uw_394)) (fun _ h => h) rfl dX11_init_60 ?_
  refine an_call (mc := 1) (ms := 3) (a1 := a + 187) (n := 1) (va_runI (As := [.ref (a + 15)]) hF (c_X7_init l D cI (a + 15) (a + 187)) (cwI 1 hF.2.2.2.2 (am_gi uw_361) rfl rfl rfl (hts _ (List.mem_cons_of_mem _ uw_12)) (hts _ (List.mem_cons_of_mem _ uw_359)) (hts _ (List.mem_cons_of_mem _ uw_360)) rfl (by decide +kernel) ⟨Nat.le_of_ble_eq_true rfl, Nat.le_of_ble_eq_true rfl⟩) ⟨an_blind (D := D) (a := a + 187) (ci := 7) (cI := cI) (dfs := [.null, .null, .null, .null]) (ex := [.ref (a + 15)]) (E := (fun a9 H => a + 15 + 85 < a9 ∧ an_at D 10 (a + 15) [.ref ((a + 15) + 1), .ref ((a + 15) + 6), .ref ((a + 15) + 42), .ref ((a + 15) + 66), .ref ((a + 15) + 73), .ref ((a + 15) + 80), .ref ((a + 15) + 82), .ref ((a + 15) + 84)] H)), fun U hU hW => ⟨rfl, by rw [hU]; exact g13, by rw [hU]; have := J13.2.1; omega, by rw [hU]; exact ⟨by omega, x13.1.2.1⟩, va_K.moved hW.alike hK, by rw [hW.alike.findClass]; exact hfI, hNw.warm hW⟩⟩ rfl rfl hl.1 rfl (Nat.le_of_ble_eq_true rfl) dX11_init_63 ⟨by show 188 ≤ 188; omega, by show 0 + 2 + (((60))) + 7 + (285) + 8 + (5390) + 8 + (5390) + 4 + 3 ≤ (11157); omega⟩) (by omega) J13 rfl (by have := J13.2.1; omega) (by omega) (fun H14 J14 f14_14 k14 => ?_)
  have x14 := lo11 _ _ (fun q q1 q2 => k14 q (by have := J13.2.1; omega) (by omega)) x13
  have kp14 : an_kp a s.heap H14 := fun q q1 q2 => (k14 q (by have := J13.2.1; omega) (by omega)).trans (kp13 q q1 q2)
  have lo14 := an_lo_c (P := fun H => an_sche D cI (a + 15) (a + 187) H) (b1 := a + 187 + 2) lo11 (an_sche_loc (a + 187)) (by omega) (by omega) (by omega)
  have w14 : an_cj _ (fun H => an_sche D cI (a + 15) (a + 187) H) _ := And.intro x14 f14_14
  refine an_put (ty := tyX11 4) hF.1 hF.2.1 hts (fun w h => List.mem_cons_of_mem _ (iu_X11 w h)) tyX11 tyX11_ok nmX11 hF.2.2.2.1 hK J14 rfl 4 (by decide) (hts _ (List.mem_cons_of_mem _ uw_396)) (fun _ h => h) hin rfl (tyX11_ok 4 (by decide)) rfl rfl (Nat.le_of_ble_eq_true rfl) dX11_init_66 (fun H15 locs15 J15 k15 => ?_)
  have J15 : an_J D s 11 a [.ref (a + 1), .ref (a + 3), .ref (a + 15), .ref (a + 101), .ref (a + 187), .int 0, .int 0] H15 188 locs15 := J15
  have x15 := lo14 _ _ (fun q q1 q2 => k15 q (by have := J14.2.1; omega) (by omega)) w14
  have kp15 : an_kp a s.heap H15 := kp14.tr k15 (by have := J14.2.1; omega)
  clear k15 w14 kp14 x14 k14 f14_14 J14 kp13 x13 z13 k13 g13 J13 kp12 x12 J12 lo11
  refine lv_aload_n hF.1 hF.2.1 dX11_init_69 rfl (hl.2.2 _ (.head _)) ?_
  refine lv_iconst (v := -1) hF.1 hF.2.1 dX11_init_70 (by decide) ?_
  refine an_put (ty := tyX11 6) hF.1 hF.2.1 hts (fun w h => List.mem_cons_of_mem _ (iu_X11 w h)) tyX11 tyX11_ok nmX11 hF.2.2.2.1 hK J15 rfl 6 (by decide) (hts _ (List.mem_cons_of_mem _ uw_398)) (fun _ h => h) hin rfl (tyX11_ok 6 (by decide)) rfl rfl (Nat.le_of_ble_eq_true rfl) dX11_init_71 (fun H16 locs16 J16 k16 => ?_)
  have J16 : an_J D s 11 a [.ref (a + 1), .ref (a + 3), .ref (a + 15), .ref (a + 101), .ref (a + 187), .int 0, .int (-1)] H16 188 locs16 := J16
  have x16 := lo14 _ _ (fun q q1 q2 => k16 q (by have := J15.2.1; omega) (by omega)) x15
  have kp16 : an_kp a s.heap H16 := kp15.tr k16 (by have := J15.2.1; omega)
  clear k16 kp15 x15 J15
  obtain ⟨⟨⟨⟨⟨-, y0⟩, y1⟩, y2⟩, y3⟩, y4⟩ := x16
  refine W.widen (k := 188) (n := (11157)) (by omega) (by omega) ?_
  exact an_fin (P := an_clas D cI) hF.1 hF.2.1 B.returns B.notSynchronized J16 kp16 hsz ⟨J16.1, y0, y1, y2, y3, y4⟩ dX11_init_74
