/-! the law's body, case by case (written by program: wip/whole/gen_law2.py) -/
def ld_A (s : State) : Nat → Prop := fun q => s.heap.size ≤ q
def ld_C (l : Launch) (G : am_G) (o : Nat) (cL : ClassId) (b L : Nat) (xs : Nat → Int32) (p : Program) (s : State) (m : MethodId) (c : Code) : Prop :=
  (CallFix p m c cL_law 7 s #[.ref b] (Cond.initialized RL :: am_tb) RL ∧ am_Kn G s ∧ al_K G cL s) ∧ (am_ok G ∧ am_xn G ∧ al_xn G ∧ am_xs G ∧ l.stackTraces = false) ∧ (¬ am_A G o ∧ G.2.2.2.1.size ≤ o ∧ ∀ q, al_A G o q → ld_A s q) ∧ va_X b L xs s s.heap ∧ b < s.heap.size ∧ L ≤ 2048
def ld_l (G : am_G) (o b i0 : Nat) : List (Nat × Value) := [(0, .ref b), (1, .ref (G.1 0)), (2, .ref (G.1 189)), (3, .ref o), (4, .int (nI i0))]
def ld_K (l : Launch) (G : am_G) (o : Nat) (cL : ClassId) (b : Nat) (p : Program) (e : Env) (s : State) (m : MethodId) (below : List Frame) (meth : Method) (c : Code) (Q : State → Prop) (cells slots i0 N : Nat) : Prop :=
  ∀ (H1 : Heap) (locs1 : List Loc) (σ1 : am_M) (f1 : Nat → Int64) (ls1 : Array Slot), am_H G σ1 H1 → al_O o cL f1 H1 → va_S (ld_A s) s.heap H1 locs1 → zAll N σ1 → lv_has ls1 7 (ld_l G o b i0) → W p l e room_1 s m #[.ref b] below meth c H1 locs1 cells slots Q (F0 m 1231 ls1 [])
theorem ld_in {L i0 : Nat} (h : i0 + 4 ≤ L) (hL : L ≤ 2048) : vp_in (nI i0) L ∧ vp_in (nI i0 + 1) L ∧ vp_in (nI i0 + 2) L ∧ vp_in (nI i0 + 3) L := by
  have e1 : nI i0 + 1 = nI (i0 + 1) := nI_1 i0
  have e2 : nI i0 + 2 = nI (i0 + 2) := nI_add i0 2
  have e3 : nI i0 + 3 = nI (i0 + 3) := nI_add i0 3
  rw [e1, e2, e3]
  exact ⟨vp_in_nI (by omega) (by omega), vp_in_nI (by omega) (by omega), vp_in_nI (by omega) (by omega), vp_in_nI (by omega) (by omega)⟩
theorem ld_A0 {s : State} {b : Nat} (h : b < s.heap.size) : ¬ ld_A s b := Nat.not_le.mpr h
theorem uw_14 : (Jvm.Cond.initialized "CoroutineSchedulerModel") ∈ am_tb := am_t1 14 (by decide +kernel) rfl
theorem uw_414 : (Jvm.Cond.methodLink "CoroutineSchedulerLaw" (90 : Nat) ({ cls := "CoroutineScheduler", name := "errorPosition", desc := "()I" } : Jvm.MethodName)) ∈ am_tb := am_t1 414 (by decide +kernel) rfl
theorem uw_415 : (Jvm.Cond.instanceMethod ({ cls := "CoroutineScheduler", name := "errorPosition", desc := "()I" } : Jvm.MethodName)) ∈ am_tb := am_t1 415 (by decide +kernel) rfl
theorem uw_416 : (Jvm.Cond.selects "CoroutineScheduler" ({ cls := "CoroutineScheduler", name := "errorPosition", desc := "()I" } : Jvm.MethodName) ({ cls := "CoroutineScheduler", name := "errorPosition", desc := "()I" } : Jvm.MethodName)) ∈ am_tb := am_t1 416 (by decide +kernel) rfl
theorem uw_417 : (Jvm.Cond.code ({ cls := "CoroutineScheduler", name := "errorPosition", desc := "()I" } : Jvm.MethodName) prog_1_method_4_code (1 : Nat) (Option.some Jvm.ClassFile.FieldType.int)) ∈ am_tb := am_t1 417 (by decide +kernel) rfl
theorem uw_418 : (Jvm.Cond.methodLink "CoroutineSchedulerLaw" (98 : Nat) ({ cls := "CoroutineScheduler", name := "reset", desc := "()I" } : Jvm.MethodName)) ∈ am_tb := am_t1 418 (by decide +kernel) rfl
theorem uw_419 : (Jvm.Cond.instanceMethod ({ cls := "CoroutineScheduler", name := "reset", desc := "()I" } : Jvm.MethodName)) ∈ am_tb := am_t1 419 (by decide +kernel) rfl
theorem uw_420 : (Jvm.Cond.selects "CoroutineScheduler" ({ cls := "CoroutineScheduler", name := "reset", desc := "()I" } : Jvm.MethodName) ({ cls := "CoroutineScheduler", name := "reset", desc := "()I" } : Jvm.MethodName)) ∈ am_tb := am_t1 420 (by decide +kernel) rfl
theorem uw_421 : (Jvm.Cond.code ({ cls := "CoroutineScheduler", name := "reset", desc := "()I" } : Jvm.MethodName) prog_1_method_6_code (2 : Nat) (Option.some Jvm.ClassFile.FieldType.int)) ∈ am_tb := am_t1 421 (by decide +kernel) rfl
theorem uw_447 : (Jvm.Cond.methodLink "CoroutineSchedulerLaw" (111 : Nat) ({ cls := "CoroutineScheduler", name := "next", desc := "()I" } : Jvm.MethodName)) ∈ am_tb := am_t1 447 (by decide +kernel) rfl
theorem uw_448 : (Jvm.Cond.instanceMethod ({ cls := "CoroutineScheduler", name := "next", desc := "()I" } : Jvm.MethodName)) ∈ am_tb := am_t1 448 (by decide +kernel) rfl
theorem uw_449 : (Jvm.Cond.selects "CoroutineScheduler" ({ cls := "CoroutineScheduler", name := "next", desc := "()I" } : Jvm.MethodName) ({ cls := "CoroutineScheduler", name := "next", desc := "()I" } : Jvm.MethodName)) ∈ am_tb := am_t1 449 (by decide +kernel) rfl
theorem uw_450 : (Jvm.Cond.code ({ cls := "CoroutineScheduler", name := "next", desc := "()I" } : Jvm.MethodName) prog_1_method_10_code (1 : Nat) (Option.some Jvm.ClassFile.FieldType.int)) ∈ am_tb := am_t1 450 (by decide +kernel) rfl
theorem uw_480 : (Jvm.Cond.methodLink "CoroutineSchedulerLaw" (146 : Nat) ({ cls := "CoroutineScheduler", name := "save", desc := "()I" } : Jvm.MethodName)) ∈ am_tb := am_t1 480 (by decide +kernel) rfl
theorem uw_481 : (Jvm.Cond.instanceMethod ({ cls := "CoroutineScheduler", name := "save", desc := "()I" } : Jvm.MethodName)) ∈ am_tb := am_t1 481 (by decide +kernel) rfl
theorem uw_482 : (Jvm.Cond.selects "CoroutineScheduler" ({ cls := "CoroutineScheduler", name := "save", desc := "()I" } : Jvm.MethodName) ({ cls := "CoroutineScheduler", name := "save", desc := "()I" } : Jvm.MethodName)) ∈ am_tb := am_t1 482 (by decide +kernel) rfl
theorem uw_483 : (Jvm.Cond.code ({ cls := "CoroutineScheduler", name := "save", desc := "()I" } : Jvm.MethodName) prog_1_method_21_code (1 : Nat) (Option.some Jvm.ClassFile.FieldType.int)) ∈ am_tb := am_t1 483 (by decide +kernel) rfl
theorem uw_529 : (Jvm.Cond.methodLink "CoroutineSchedulerLaw" (77 : Nat) ({ cls := "CoroutineSchedulerLaw", name := "append", desc := "(LCoroutineScheduler;I[J)I" } : Jvm.MethodName)) ∈ am_tb := am_t1 529 (by decide +kernel) rfl
theorem uw_530 : (Jvm.Cond.static ({ cls := "CoroutineSchedulerLaw", name := "append", desc := "(LCoroutineScheduler;I[J)I" } : Jvm.MethodName)) ∈ am_tb := am_t1 530 (by decide +kernel) rfl
theorem uw_531 : (Jvm.Cond.codeWith ({ cls := "CoroutineSchedulerLaw", name := "append", desc := "(LCoroutineScheduler;I[J)I" } : Jvm.MethodName) method_3_code (4 : Nat) (Option.some Jvm.ClassFile.FieldType.int) [((0 : Nat), (9 : Nat), (12 : Nat), (13 : Nat)), ((0 : Nat), (9 : Nat), (15 : Nat), (15 : Nat))]) ∈ am_tb := am_t1 531 (by decide +kernel) rfl
theorem uw_631 : (Jvm.Cond.methodLink "CoroutineSchedulerLaw" (86 : Nat) ({ cls := "CoroutineSchedulerLaw", name := "execute", desc := "(LCoroutineScheduler;[J)I" } : Jvm.MethodName)) ∈ am_tb := am_t1 631 (by decide +kernel) rfl
theorem uw_632 : (Jvm.Cond.static ({ cls := "CoroutineSchedulerLaw", name := "execute", desc := "(LCoroutineScheduler;[J)I" } : Jvm.MethodName)) ∈ am_tb := am_t1 632 (by decide +kernel) rfl
theorem uw_633 : (Jvm.Cond.codeWith ({ cls := "CoroutineSchedulerLaw", name := "execute", desc := "(LCoroutineScheduler;[J)I" } : Jvm.MethodName) method_4_code (3 : Nat) (Option.some Jvm.ClassFile.FieldType.int) [((0 : Nat), (8 : Nat), (11 : Nat), (13 : Nat)), ((0 : Nat), (8 : Nat), (14 : Nat), (15 : Nat))]) ∈ am_tb := am_t1 633 (by decide +kernel) rfl
theorem uw_730 : (Jvm.Cond.methodLink "CoroutineSchedulerLaw" (94 : Nat) ({ cls := "CoroutineSchedulerLaw", name := "program", desc := "(LCoroutineScheduler;II[J)I" } : Jvm.MethodName)) ∈ am_tb := am_t1 730 (by decide +kernel) rfl
theorem uw_731 : (Jvm.Cond.static ({ cls := "CoroutineSchedulerLaw", name := "program", desc := "(LCoroutineScheduler;II[J)I" } : Jvm.MethodName)) ∈ am_tb := am_t1 731 (by decide +kernel) rfl
theorem uw_732 : (Jvm.Cond.codeWith ({ cls := "CoroutineSchedulerLaw", name := "program", desc := "(LCoroutineScheduler;II[J)I" } : Jvm.MethodName) method_5_code (5 : Nat) (Option.some Jvm.ClassFile.FieldType.int) [((0 : Nat), (10 : Nat), (13 : Nat), (25 : Nat))]) ∈ am_tb := am_t1 732 (by decide +kernel) rfl
theorem uw_757 : (Jvm.Cond.methodLink "CoroutineSchedulerLaw" (102 : Nat) ({ cls := "CoroutineSchedulerLaw", name := "start", desc := "(LCoroutineScheduler;I[J)I" } : Jvm.MethodName)) ∈ am_tb := am_t1 757 (by decide +kernel) rfl
theorem uw_758 : (Jvm.Cond.static ({ cls := "CoroutineSchedulerLaw", name := "start", desc := "(LCoroutineScheduler;I[J)I" } : Jvm.MethodName)) ∈ am_tb := am_t1 758 (by decide +kernel) rfl
theorem uw_759 : (Jvm.Cond.codeWith ({ cls := "CoroutineSchedulerLaw", name := "start", desc := "(LCoroutineScheduler;I[J)I" } : Jvm.MethodName) method_6_code (4 : Nat) (Option.some Jvm.ClassFile.FieldType.int) [((0 : Nat), (9 : Nat), (12 : Nat), (25 : Nat)), ((0 : Nat), (9 : Nat), (15 : Nat), (15 : Nat))]) ∈ am_tb := am_t1 759 (by decide +kernel) rfl
theorem uw_780 : (Jvm.Cond.methodLink "CoroutineSchedulerLaw" (105 : Nat) ({ cls := "CoroutineSchedulerLaw", name := "cancel", desc := "(LCoroutineScheduler;I[J)I" } : Jvm.MethodName)) ∈ am_tb := am_t1 780 (by decide +kernel) rfl
theorem uw_781 : (Jvm.Cond.static ({ cls := "CoroutineSchedulerLaw", name := "cancel", desc := "(LCoroutineScheduler;I[J)I" } : Jvm.MethodName)) ∈ am_tb := am_t1 781 (by decide +kernel) rfl
theorem uw_782 : (Jvm.Cond.codeWith ({ cls := "CoroutineSchedulerLaw", name := "cancel", desc := "(LCoroutineScheduler;I[J)I" } : Jvm.MethodName) method_7_code (4 : Nat) (Option.some Jvm.ClassFile.FieldType.int) [((0 : Nat), (9 : Nat), (12 : Nat), (25 : Nat))]) ∈ am_tb := am_t1 782 (by decide +kernel) rfl
theorem uw_825 : (Jvm.Cond.methodLink "CoroutineSchedulerLaw" (108 : Nat) ({ cls := "CoroutineSchedulerLaw", name := "run", desc := "(LCoroutineScheduler;I[J)I" } : Jvm.MethodName)) ∈ am_tb := am_t1 825 (by decide +kernel) rfl
theorem uw_826 : (Jvm.Cond.static ({ cls := "CoroutineSchedulerLaw", name := "run", desc := "(LCoroutineScheduler;I[J)I" } : Jvm.MethodName)) ∈ am_tb := am_t1 826 (by decide +kernel) rfl
theorem uw_827 : (Jvm.Cond.codeWith ({ cls := "CoroutineSchedulerLaw", name := "run", desc := "(LCoroutineScheduler;I[J)I" } : Jvm.MethodName) method_8_code (4 : Nat) (Option.some Jvm.ClassFile.FieldType.int) [((0 : Nat), (9 : Nat), (12 : Nat), (13 : Nat))]) ∈ am_tb := am_t1 827 (by decide +kernel) rfl
theorem uw_1058 : (Jvm.Cond.methodLink "CoroutineSchedulerLaw" (115 : Nat) ({ cls := "CoroutineSchedulerLaw", name := "task", desc := "(LCoroutineScheduler;II[J)I" } : Jvm.MethodName)) ∈ am_tb := am_t1 1058 (by decide +kernel) rfl
theorem uw_1059 : (Jvm.Cond.static ({ cls := "CoroutineSchedulerLaw", name := "task", desc := "(LCoroutineScheduler;II[J)I" } : Jvm.MethodName)) ∈ am_tb := am_t1 1059 (by decide +kernel) rfl
theorem uw_1060 : (Jvm.Cond.codeWith ({ cls := "CoroutineSchedulerLaw", name := "task", desc := "(LCoroutineScheduler;II[J)I" } : Jvm.MethodName) method_9_code (5 : Nat) (Option.some Jvm.ClassFile.FieldType.int) [((0 : Nat), (10 : Nat), (13 : Nat), (25 : Nat)), ((0 : Nat), (10 : Nat), (17 : Nat), (13 : Nat))]) ∈ am_tb := am_t1 1060 (by decide +kernel) rfl
theorem uw_1071 : (Jvm.Cond.methodLink "CoroutineSchedulerLaw" (118 : Nat) ({ cls := "CoroutineSchedulerLaw", name := "scope", desc := "(LCoroutineScheduler;II[J)I" } : Jvm.MethodName)) ∈ am_tb := am_t1 1071 (by decide +kernel) rfl
theorem uw_1072 : (Jvm.Cond.static ({ cls := "CoroutineSchedulerLaw", name := "scope", desc := "(LCoroutineScheduler;II[J)I" } : Jvm.MethodName)) ∈ am_tb := am_t1 1072 (by decide +kernel) rfl
theorem uw_1073 : (Jvm.Cond.codeWith ({ cls := "CoroutineSchedulerLaw", name := "scope", desc := "(LCoroutineScheduler;II[J)I" } : Jvm.MethodName) method_10_code (5 : Nat) (Option.some Jvm.ClassFile.FieldType.int) [((0 : Nat), (10 : Nat), (13 : Nat), (25 : Nat)), ((0 : Nat), (10 : Nat), (17 : Nat), (13 : Nat))]) ∈ am_tb := am_t1 1073 (by decide +kernel) rfl
theorem uw_1088 : (Jvm.Cond.methodLink "CoroutineSchedulerLaw" (121 : Nat) ({ cls := "CoroutineSchedulerLaw", name := "failure", desc := "(LCoroutineScheduler;III[J)I" } : Jvm.MethodName)) ∈ am_tb := am_t1 1088 (by decide +kernel) rfl
theorem uw_1089 : (Jvm.Cond.static ({ cls := "CoroutineSchedulerLaw", name := "failure", desc := "(LCoroutineScheduler;III[J)I" } : Jvm.MethodName)) ∈ am_tb := am_t1 1089 (by decide +kernel) rfl
theorem uw_1090 : (Jvm.Cond.codeWith ({ cls := "CoroutineSchedulerLaw", name := "failure", desc := "(LCoroutineScheduler;III[J)I" } : Jvm.MethodName) method_11_code (6 : Nat) (Option.some Jvm.ClassFile.FieldType.int) [((0 : Nat), (12 : Nat), (15 : Nat), (25 : Nat)), ((0 : Nat), (12 : Nat), (19 : Nat), (13 : Nat)), ((0 : Nat), (12 : Nat), (23 : Nat), (46 : Nat))]) ∈ am_tb := am_t1 1090 (by decide +kernel) rfl
theorem uw_1118 : (Jvm.Cond.methodLink "CoroutineSchedulerLaw" (125 : Nat) ({ cls := "CoroutineSchedulerLaw", name := "ready", desc := "(LCoroutineScheduler;I[J)I" } : Jvm.MethodName)) ∈ am_tb := am_t1 1118 (by decide +kernel) rfl
theorem uw_1119 : (Jvm.Cond.static ({ cls := "CoroutineSchedulerLaw", name := "ready", desc := "(LCoroutineScheduler;I[J)I" } : Jvm.MethodName)) ∈ am_tb := am_t1 1119 (by decide +kernel) rfl
theorem uw_1120 : (Jvm.Cond.codeWith ({ cls := "CoroutineSchedulerLaw", name := "ready", desc := "(LCoroutineScheduler;I[J)I" } : Jvm.MethodName) method_12_code (4 : Nat) (Option.some Jvm.ClassFile.FieldType.int) [((0 : Nat), (9 : Nat), (12 : Nat), (46 : Nat))]) ∈ am_tb := am_t1 1120 (by decide +kernel) rfl
theorem uw_1130 : (Jvm.Cond.methodLink "CoroutineSchedulerLaw" (128 : Nat) ({ cls := "CoroutineSchedulerLaw", name := "ended", desc := "(LCoroutineScheduler;I[J)I" } : Jvm.MethodName)) ∈ am_tb := am_t1 1130 (by decide +kernel) rfl
theorem uw_1131 : (Jvm.Cond.static ({ cls := "CoroutineSchedulerLaw", name := "ended", desc := "(LCoroutineScheduler;I[J)I" } : Jvm.MethodName)) ∈ am_tb := am_t1 1131 (by decide +kernel) rfl
theorem uw_1132 : (Jvm.Cond.codeWith ({ cls := "CoroutineSchedulerLaw", name := "ended", desc := "(LCoroutineScheduler;I[J)I" } : Jvm.MethodName) method_13_code (4 : Nat) (Option.some Jvm.ClassFile.FieldType.int) [((0 : Nat), (9 : Nat), (12 : Nat), (46 : Nat))]) ∈ am_tb := am_t1 1132 (by decide +kernel) rfl
theorem uw_1138 : (Jvm.Cond.methodLink "CoroutineSchedulerLaw" (131 : Nat) ({ cls := "CoroutineSchedulerLaw", name := "isAbove", desc := "(LCoroutineScheduler;II[J)I" } : Jvm.MethodName)) ∈ am_tb := am_t1 1138 (by decide +kernel) rfl
theorem uw_1139 : (Jvm.Cond.static ({ cls := "CoroutineSchedulerLaw", name := "isAbove", desc := "(LCoroutineScheduler;II[J)I" } : Jvm.MethodName)) ∈ am_tb := am_t1 1139 (by decide +kernel) rfl
theorem uw_1140 : (Jvm.Cond.codeWith ({ cls := "CoroutineSchedulerLaw", name := "isAbove", desc := "(LCoroutineScheduler;II[J)I" } : Jvm.MethodName) method_14_code (5 : Nat) (Option.some Jvm.ClassFile.FieldType.int) [((0 : Nat), (17 : Nat), (20 : Nat), (25 : Nat))]) ∈ am_tb := am_t1 1140 (by decide +kernel) rfl
theorem uw_1149 : (Jvm.Cond.methodLink "CoroutineSchedulerLaw" (134 : Nat) ({ cls := "CoroutineSchedulerLaw", name := "scopeOf", desc := "(LCoroutineScheduler;II[J)I" } : Jvm.MethodName)) ∈ am_tb := am_t1 1149 (by decide +kernel) rfl
theorem uw_1150 : (Jvm.Cond.static ({ cls := "CoroutineSchedulerLaw", name := "scopeOf", desc := "(LCoroutineScheduler;II[J)I" } : Jvm.MethodName)) ∈ am_tb := am_t1 1150 (by decide +kernel) rfl
theorem uw_1151 : (Jvm.Cond.codeWith ({ cls := "CoroutineSchedulerLaw", name := "scopeOf", desc := "(LCoroutineScheduler;II[J)I" } : Jvm.MethodName) method_15_code (5 : Nat) (Option.some Jvm.ClassFile.FieldType.int) [((0 : Nat), (10 : Nat), (13 : Nat), (25 : Nat))]) ∈ am_tb := am_t1 1151 (by decide +kernel) rfl
theorem uw_1158 : (Jvm.Cond.methodLink "CoroutineSchedulerLaw" (137 : Nat) ({ cls := "CoroutineSchedulerLaw", name := "channel", desc := "(LCoroutineScheduler;II[J)I" } : Jvm.MethodName)) ∈ am_tb := am_t1 1158 (by decide +kernel) rfl
theorem uw_1159 : (Jvm.Cond.static ({ cls := "CoroutineSchedulerLaw", name := "channel", desc := "(LCoroutineScheduler;II[J)I" } : Jvm.MethodName)) ∈ am_tb := am_t1 1159 (by decide +kernel) rfl
theorem uw_1160 : (Jvm.Cond.codeWith ({ cls := "CoroutineSchedulerLaw", name := "channel", desc := "(LCoroutineScheduler;II[J)I" } : Jvm.MethodName) method_16_code (5 : Nat) (Option.some Jvm.ClassFile.FieldType.int) [((0 : Nat), (10 : Nat), (13 : Nat), (25 : Nat)), ((0 : Nat), (10 : Nat), (17 : Nat), (13 : Nat))]) ∈ am_tb := am_t1 1160 (by decide +kernel) rfl
theorem uw_1177 : (Jvm.Cond.methodLink "CoroutineSchedulerLaw" (140 : Nat) ({ cls := "CoroutineSchedulerLaw", name := "content", desc := "(LCoroutineScheduler;II[J)I" } : Jvm.MethodName)) ∈ am_tb := am_t1 1177 (by decide +kernel) rfl
theorem uw_1178 : (Jvm.Cond.static ({ cls := "CoroutineSchedulerLaw", name := "content", desc := "(LCoroutineScheduler;II[J)I" } : Jvm.MethodName)) ∈ am_tb := am_t1 1178 (by decide +kernel) rfl
theorem uw_1179 : (Jvm.Cond.codeWith ({ cls := "CoroutineSchedulerLaw", name := "content", desc := "(LCoroutineScheduler;II[J)I" } : Jvm.MethodName) method_17_code (5 : Nat) (Option.some Jvm.ClassFile.FieldType.int) [((0 : Nat), (10 : Nat), (13 : Nat), (25 : Nat)), ((0 : Nat), (10 : Nat), (17 : Nat), (46 : Nat))]) ∈ am_tb := am_t1 1179 (by decide +kernel) rfl
theorem uw_1186 : (Jvm.Cond.methodLink "CoroutineSchedulerLaw" (143 : Nat) ({ cls := "CoroutineSchedulerLaw", name := "count", desc := "(LCoroutineScheduler;I[J)I" } : Jvm.MethodName)) ∈ am_tb := am_t1 1186 (by decide +kernel) rfl
theorem uw_1187 : (Jvm.Cond.static ({ cls := "CoroutineSchedulerLaw", name := "count", desc := "(LCoroutineScheduler;I[J)I" } : Jvm.MethodName)) ∈ am_tb := am_t1 1187 (by decide +kernel) rfl
theorem uw_1188 : (Jvm.Cond.codeWith ({ cls := "CoroutineSchedulerLaw", name := "count", desc := "(LCoroutineScheduler;I[J)I" } : Jvm.MethodName) method_18_code (4 : Nat) (Option.some Jvm.ClassFile.FieldType.int) [((0 : Nat), (9 : Nat), (12 : Nat), (13 : Nat))]) ∈ am_tb := am_t1 1188 (by decide +kernel) rfl
theorem uw_1199 : (Jvm.Cond.methodLink "CoroutineSchedulerLaw" (150 : Nat) ({ cls := "CoroutineSchedulerLaw", name := "restore", desc := "(LCoroutineScheduler;[J)I" } : Jvm.MethodName)) ∈ am_tb := am_t1 1199 (by decide +kernel) rfl
theorem uw_1200 : (Jvm.Cond.static ({ cls := "CoroutineSchedulerLaw", name := "restore", desc := "(LCoroutineScheduler;[J)I" } : Jvm.MethodName)) ∈ am_tb := am_t1 1200 (by decide +kernel) rfl
theorem uw_1201 : (Jvm.Cond.codeWith ({ cls := "CoroutineSchedulerLaw", name := "restore", desc := "(LCoroutineScheduler;[J)I" } : Jvm.MethodName) method_19_code (3 : Nat) (Option.some Jvm.ClassFile.FieldType.int) [((0 : Nat), (8 : Nat), (11 : Nat), (15 : Nat))]) ∈ am_tb := am_t1 1201 (by decide +kernel) rfl
theorem uw_1247 : (Jvm.Cond.methodLink "CoroutineSchedulerLaw" (83 : Nat) ({ cls := "CoroutineSchedulerModel", name := "thrown", desc := "()I" } : Jvm.MethodName)) ∈ am_tb := am_t1 1247 (by decide +kernel) rfl
theorem uw_1248 : (Jvm.Cond.instanceMethod ({ cls := "CoroutineSchedulerModel", name := "thrown", desc := "()I" } : Jvm.MethodName)) ∈ am_tb := am_t1 1248 (by decide +kernel) rfl
theorem uw_1249 : (Jvm.Cond.selects "CoroutineSchedulerModel" ({ cls := "CoroutineSchedulerModel", name := "thrown", desc := "()I" } : Jvm.MethodName) ({ cls := "CoroutineSchedulerModel", name := "thrown", desc := "()I" } : Jvm.MethodName)) ∈ am_tb := am_t1 1249 (by decide +kernel) rfl
theorem uw_1250 : (Jvm.Cond.code ({ cls := "CoroutineSchedulerModel", name := "thrown", desc := "()I" } : Jvm.MethodName) prog_14_method_2_code (1 : Nat) (Option.some Jvm.ClassFile.FieldType.int)) ∈ am_tb := am_t1 1250 (by decide +kernel) rfl
theorem uw_1251 : (Jvm.Cond.methodLink "CoroutineSchedulerLaw" (82 : Nat) ({ cls := "CoroutineSchedulerModel", name := "append", desc := "(I)I" } : Jvm.MethodName)) ∈ am_tb := am_t1 1251 (by decide +kernel) rfl
theorem uw_1252 : (Jvm.Cond.instanceMethod ({ cls := "CoroutineSchedulerModel", name := "append", desc := "(I)I" } : Jvm.MethodName)) ∈ am_tb := am_t1 1252 (by decide +kernel) rfl
theorem uw_1253 : (Jvm.Cond.selects "CoroutineSchedulerModel" ({ cls := "CoroutineSchedulerModel", name := "append", desc := "(I)I" } : Jvm.MethodName) ({ cls := "CoroutineSchedulerModel", name := "append", desc := "(I)I" } : Jvm.MethodName)) ∈ am_tb := am_t1 1253 (by decide +kernel) rfl
theorem uw_1254 : (Jvm.Cond.code ({ cls := "CoroutineSchedulerModel", name := "append", desc := "(I)I" } : Jvm.MethodName) prog_14_method_13_code (5 : Nat) (Option.some Jvm.ClassFile.FieldType.int)) ∈ am_tb := am_t1 1254 (by decide +kernel) rfl
theorem uw_1262 : (Jvm.Cond.methodLink "CoroutineSchedulerLaw" (89 : Nat) ({ cls := "CoroutineSchedulerModel", name := "execute", desc := "()I" } : Jvm.MethodName)) ∈ am_tb := am_t1 1262 (by decide +kernel) rfl
theorem uw_1263 : (Jvm.Cond.instanceMethod ({ cls := "CoroutineSchedulerModel", name := "execute", desc := "()I" } : Jvm.MethodName)) ∈ am_tb := am_t1 1263 (by decide +kernel) rfl
theorem uw_1264 : (Jvm.Cond.selects "CoroutineSchedulerModel" ({ cls := "CoroutineSchedulerModel", name := "execute", desc := "()I" } : Jvm.MethodName) ({ cls := "CoroutineSchedulerModel", name := "execute", desc := "()I" } : Jvm.MethodName)) ∈ am_tb := am_t1 1264 (by decide +kernel) rfl
theorem uw_1265 : (Jvm.Cond.code ({ cls := "CoroutineSchedulerModel", name := "execute", desc := "()I" } : Jvm.MethodName) prog_14_method_20_code (2 : Nat) (Option.some Jvm.ClassFile.FieldType.int)) ∈ am_tb := am_t1 1265 (by decide +kernel) rfl
theorem uw_1396 : (Jvm.Cond.methodLink "CoroutineSchedulerLaw" (93 : Nat) ({ cls := "CoroutineSchedulerModel", name := "errorPosition", desc := "()I" } : Jvm.MethodName)) ∈ am_tb := am_t1 1396 (by decide +kernel) rfl
theorem uw_1397 : (Jvm.Cond.instanceMethod ({ cls := "CoroutineSchedulerModel", name := "errorPosition", desc := "()I" } : Jvm.MethodName)) ∈ am_tb := am_t1 1397 (by decide +kernel) rfl
theorem uw_1398 : (Jvm.Cond.selects "CoroutineSchedulerModel" ({ cls := "CoroutineSchedulerModel", name := "errorPosition", desc := "()I" } : Jvm.MethodName) ({ cls := "CoroutineSchedulerModel", name := "errorPosition", desc := "()I" } : Jvm.MethodName)) ∈ am_tb := am_t1 1398 (by decide +kernel) rfl
theorem uw_1399 : (Jvm.Cond.code ({ cls := "CoroutineSchedulerModel", name := "errorPosition", desc := "()I" } : Jvm.MethodName) prog_14_method_21_code (1 : Nat) (Option.some Jvm.ClassFile.FieldType.int)) ∈ am_tb := am_t1 1399 (by decide +kernel) rfl
theorem uw_1400 : (Jvm.Cond.methodLink "CoroutineSchedulerLaw" (97 : Nat) ({ cls := "CoroutineSchedulerModel", name := "program", desc := "(II)I" } : Jvm.MethodName)) ∈ am_tb := am_t1 1400 (by decide +kernel) rfl
theorem uw_1401 : (Jvm.Cond.instanceMethod ({ cls := "CoroutineSchedulerModel", name := "program", desc := "(II)I" } : Jvm.MethodName)) ∈ am_tb := am_t1 1401 (by decide +kernel) rfl
theorem uw_1402 : (Jvm.Cond.selects "CoroutineSchedulerModel" ({ cls := "CoroutineSchedulerModel", name := "program", desc := "(II)I" } : Jvm.MethodName) ({ cls := "CoroutineSchedulerModel", name := "program", desc := "(II)I" } : Jvm.MethodName)) ∈ am_tb := am_t1 1402 (by decide +kernel) rfl
theorem uw_1403 : (Jvm.Cond.code ({ cls := "CoroutineSchedulerModel", name := "program", desc := "(II)I" } : Jvm.MethodName) prog_14_method_22_code (4 : Nat) (Option.some Jvm.ClassFile.FieldType.int)) ∈ am_tb := am_t1 1403 (by decide +kernel) rfl
theorem uw_1404 : (Jvm.Cond.methodLink "CoroutineSchedulerLaw" (101 : Nat) ({ cls := "CoroutineSchedulerModel", name := "reset", desc := "()I" } : Jvm.MethodName)) ∈ am_tb := am_t1 1404 (by decide +kernel) rfl
theorem uw_1405 : (Jvm.Cond.instanceMethod ({ cls := "CoroutineSchedulerModel", name := "reset", desc := "()I" } : Jvm.MethodName)) ∈ am_tb := am_t1 1405 (by decide +kernel) rfl
theorem uw_1406 : (Jvm.Cond.selects "CoroutineSchedulerModel" ({ cls := "CoroutineSchedulerModel", name := "reset", desc := "()I" } : Jvm.MethodName) ({ cls := "CoroutineSchedulerModel", name := "reset", desc := "()I" } : Jvm.MethodName)) ∈ am_tb := am_t1 1406 (by decide +kernel) rfl
theorem uw_1407 : (Jvm.Cond.code ({ cls := "CoroutineSchedulerModel", name := "reset", desc := "()I" } : Jvm.MethodName) prog_14_method_23_code (3 : Nat) (Option.some Jvm.ClassFile.FieldType.int)) ∈ am_tb := am_t1 1407 (by decide +kernel) rfl
theorem uw_1408 : (Jvm.Cond.methodLink "CoroutineSchedulerLaw" (104 : Nat) ({ cls := "CoroutineSchedulerModel", name := "start", desc := "(I)I" } : Jvm.MethodName)) ∈ am_tb := am_t1 1408 (by decide +kernel) rfl
theorem uw_1409 : (Jvm.Cond.instanceMethod ({ cls := "CoroutineSchedulerModel", name := "start", desc := "(I)I" } : Jvm.MethodName)) ∈ am_tb := am_t1 1409 (by decide +kernel) rfl
theorem uw_1410 : (Jvm.Cond.selects "CoroutineSchedulerModel" ({ cls := "CoroutineSchedulerModel", name := "start", desc := "(I)I" } : Jvm.MethodName) ({ cls := "CoroutineSchedulerModel", name := "start", desc := "(I)I" } : Jvm.MethodName)) ∈ am_tb := am_t1 1410 (by decide +kernel) rfl
theorem uw_1411 : (Jvm.Cond.code ({ cls := "CoroutineSchedulerModel", name := "start", desc := "(I)I" } : Jvm.MethodName) prog_14_method_28_code (2 : Nat) (Option.some Jvm.ClassFile.FieldType.int)) ∈ am_tb := am_t1 1411 (by decide +kernel) rfl
theorem uw_1432 : (Jvm.Cond.methodLink "CoroutineSchedulerLaw" (107 : Nat) ({ cls := "CoroutineSchedulerModel", name := "cancel", desc := "(I)I" } : Jvm.MethodName)) ∈ am_tb := am_t1 1432 (by decide +kernel) rfl
theorem uw_1433 : (Jvm.Cond.instanceMethod ({ cls := "CoroutineSchedulerModel", name := "cancel", desc := "(I)I" } : Jvm.MethodName)) ∈ am_tb := am_t1 1433 (by decide +kernel) rfl
theorem uw_1434 : (Jvm.Cond.selects "CoroutineSchedulerModel" ({ cls := "CoroutineSchedulerModel", name := "cancel", desc := "(I)I" } : Jvm.MethodName) ({ cls := "CoroutineSchedulerModel", name := "cancel", desc := "(I)I" } : Jvm.MethodName)) ∈ am_tb := am_t1 1434 (by decide +kernel) rfl
theorem uw_1435 : (Jvm.Cond.code ({ cls := "CoroutineSchedulerModel", name := "cancel", desc := "(I)I" } : Jvm.MethodName) prog_14_method_36_code (2 : Nat) (Option.some Jvm.ClassFile.FieldType.int)) ∈ am_tb := am_t1 1435 (by decide +kernel) rfl
theorem uw_1444 : (Jvm.Cond.methodLink "CoroutineSchedulerLaw" (110 : Nat) ({ cls := "CoroutineSchedulerModel", name := "run", desc := "(I)I" } : Jvm.MethodName)) ∈ am_tb := am_t1 1444 (by decide +kernel) rfl
theorem uw_1445 : (Jvm.Cond.instanceMethod ({ cls := "CoroutineSchedulerModel", name := "run", desc := "(I)I" } : Jvm.MethodName)) ∈ am_tb := am_t1 1445 (by decide +kernel) rfl
theorem uw_1446 : (Jvm.Cond.selects "CoroutineSchedulerModel" ({ cls := "CoroutineSchedulerModel", name := "run", desc := "(I)I" } : Jvm.MethodName) ({ cls := "CoroutineSchedulerModel", name := "run", desc := "(I)I" } : Jvm.MethodName)) ∈ am_tb := am_t1 1446 (by decide +kernel) rfl
theorem uw_1447 : (Jvm.Cond.code ({ cls := "CoroutineSchedulerModel", name := "run", desc := "(I)I" } : Jvm.MethodName) prog_14_method_63_code (3 : Nat) (Option.some Jvm.ClassFile.FieldType.int)) ∈ am_tb := am_t1 1447 (by decide +kernel) rfl
theorem uw_1575 : (Jvm.Cond.methodLink "CoroutineSchedulerLaw" (114 : Nat) ({ cls := "CoroutineSchedulerModel", name := "next", desc := "()I" } : Jvm.MethodName)) ∈ am_tb := am_t1 1575 (by decide +kernel) rfl
theorem uw_1576 : (Jvm.Cond.instanceMethod ({ cls := "CoroutineSchedulerModel", name := "next", desc := "()I" } : Jvm.MethodName)) ∈ am_tb := am_t1 1576 (by decide +kernel) rfl
theorem uw_1577 : (Jvm.Cond.selects "CoroutineSchedulerModel" ({ cls := "CoroutineSchedulerModel", name := "next", desc := "()I" } : Jvm.MethodName) ({ cls := "CoroutineSchedulerModel", name := "next", desc := "()I" } : Jvm.MethodName)) ∈ am_tb := am_t1 1577 (by decide +kernel) rfl
theorem uw_1578 : (Jvm.Cond.code ({ cls := "CoroutineSchedulerModel", name := "next", desc := "()I" } : Jvm.MethodName) prog_14_method_64_code (1 : Nat) (Option.some Jvm.ClassFile.FieldType.int)) ∈ am_tb := am_t1 1578 (by decide +kernel) rfl
theorem uw_1579 : (Jvm.Cond.methodLink "CoroutineSchedulerLaw" (117 : Nat) ({ cls := "CoroutineSchedulerModel", name := "task", desc := "(II)I" } : Jvm.MethodName)) ∈ am_tb := am_t1 1579 (by decide +kernel) rfl
theorem uw_1580 : (Jvm.Cond.instanceMethod ({ cls := "CoroutineSchedulerModel", name := "task", desc := "(II)I" } : Jvm.MethodName)) ∈ am_tb := am_t1 1580 (by decide +kernel) rfl
theorem uw_1581 : (Jvm.Cond.selects "CoroutineSchedulerModel" ({ cls := "CoroutineSchedulerModel", name := "task", desc := "(II)I" } : Jvm.MethodName) ({ cls := "CoroutineSchedulerModel", name := "task", desc := "(II)I" } : Jvm.MethodName)) ∈ am_tb := am_t1 1581 (by decide +kernel) rfl
theorem uw_1582 : (Jvm.Cond.code ({ cls := "CoroutineSchedulerModel", name := "task", desc := "(II)I" } : Jvm.MethodName) prog_14_method_65_code (3 : Nat) (Option.some Jvm.ClassFile.FieldType.int)) ∈ am_tb := am_t1 1582 (by decide +kernel) rfl
theorem uw_1583 : (Jvm.Cond.methodLink "CoroutineSchedulerLaw" (120 : Nat) ({ cls := "CoroutineSchedulerModel", name := "scope", desc := "(II)I" } : Jvm.MethodName)) ∈ am_tb := am_t1 1583 (by decide +kernel) rfl
theorem uw_1584 : (Jvm.Cond.instanceMethod ({ cls := "CoroutineSchedulerModel", name := "scope", desc := "(II)I" } : Jvm.MethodName)) ∈ am_tb := am_t1 1584 (by decide +kernel) rfl
theorem uw_1585 : (Jvm.Cond.selects "CoroutineSchedulerModel" ({ cls := "CoroutineSchedulerModel", name := "scope", desc := "(II)I" } : Jvm.MethodName) ({ cls := "CoroutineSchedulerModel", name := "scope", desc := "(II)I" } : Jvm.MethodName)) ∈ am_tb := am_t1 1585 (by decide +kernel) rfl
theorem uw_1586 : (Jvm.Cond.code ({ cls := "CoroutineSchedulerModel", name := "scope", desc := "(II)I" } : Jvm.MethodName) prog_14_method_66_code (4 : Nat) (Option.some Jvm.ClassFile.FieldType.int)) ∈ am_tb := am_t1 1586 (by decide +kernel) rfl
theorem uw_1587 : (Jvm.Cond.methodLink "CoroutineSchedulerLaw" (124 : Nat) ({ cls := "CoroutineSchedulerModel", name := "failure", desc := "(III)I" } : Jvm.MethodName)) ∈ am_tb := am_t1 1587 (by decide +kernel) rfl
theorem uw_1588 : (Jvm.Cond.instanceMethod ({ cls := "CoroutineSchedulerModel", name := "failure", desc := "(III)I" } : Jvm.MethodName)) ∈ am_tb := am_t1 1588 (by decide +kernel) rfl
theorem uw_1589 : (Jvm.Cond.selects "CoroutineSchedulerModel" ({ cls := "CoroutineSchedulerModel", name := "failure", desc := "(III)I" } : Jvm.MethodName) ({ cls := "CoroutineSchedulerModel", name := "failure", desc := "(III)I" } : Jvm.MethodName)) ∈ am_tb := am_t1 1589 (by decide +kernel) rfl
theorem uw_1590 : (Jvm.Cond.code ({ cls := "CoroutineSchedulerModel", name := "failure", desc := "(III)I" } : Jvm.MethodName) prog_14_method_67_code (6 : Nat) (Option.some Jvm.ClassFile.FieldType.int)) ∈ am_tb := am_t1 1590 (by decide +kernel) rfl
theorem uw_1591 : (Jvm.Cond.methodLink "CoroutineSchedulerLaw" (127 : Nat) ({ cls := "CoroutineSchedulerModel", name := "ready", desc := "(I)I" } : Jvm.MethodName)) ∈ am_tb := am_t1 1591 (by decide +kernel) rfl
theorem uw_1592 : (Jvm.Cond.instanceMethod ({ cls := "CoroutineSchedulerModel", name := "ready", desc := "(I)I" } : Jvm.MethodName)) ∈ am_tb := am_t1 1592 (by decide +kernel) rfl
theorem uw_1593 : (Jvm.Cond.selects "CoroutineSchedulerModel" ({ cls := "CoroutineSchedulerModel", name := "ready", desc := "(I)I" } : Jvm.MethodName) ({ cls := "CoroutineSchedulerModel", name := "ready", desc := "(I)I" } : Jvm.MethodName)) ∈ am_tb := am_t1 1593 (by decide +kernel) rfl
theorem uw_1594 : (Jvm.Cond.code ({ cls := "CoroutineSchedulerModel", name := "ready", desc := "(I)I" } : Jvm.MethodName) prog_14_method_68_code (2 : Nat) (Option.some Jvm.ClassFile.FieldType.int)) ∈ am_tb := am_t1 1594 (by decide +kernel) rfl
theorem uw_1595 : (Jvm.Cond.methodLink "CoroutineSchedulerLaw" (130 : Nat) ({ cls := "CoroutineSchedulerModel", name := "ended", desc := "(I)I" } : Jvm.MethodName)) ∈ am_tb := am_t1 1595 (by decide +kernel) rfl
theorem uw_1596 : (Jvm.Cond.instanceMethod ({ cls := "CoroutineSchedulerModel", name := "ended", desc := "(I)I" } : Jvm.MethodName)) ∈ am_tb := am_t1 1596 (by decide +kernel) rfl
theorem uw_1597 : (Jvm.Cond.selects "CoroutineSchedulerModel" ({ cls := "CoroutineSchedulerModel", name := "ended", desc := "(I)I" } : Jvm.MethodName) ({ cls := "CoroutineSchedulerModel", name := "ended", desc := "(I)I" } : Jvm.MethodName)) ∈ am_tb := am_t1 1597 (by decide +kernel) rfl
theorem uw_1598 : (Jvm.Cond.code ({ cls := "CoroutineSchedulerModel", name := "ended", desc := "(I)I" } : Jvm.MethodName) prog_14_method_69_code (2 : Nat) (Option.some Jvm.ClassFile.FieldType.int)) ∈ am_tb := am_t1 1598 (by decide +kernel) rfl
theorem uw_1599 : (Jvm.Cond.methodLink "CoroutineSchedulerLaw" (133 : Nat) ({ cls := "CoroutineSchedulerModel", name := "isAbove", desc := "(II)Z" } : Jvm.MethodName)) ∈ am_tb := am_t1 1599 (by decide +kernel) rfl
theorem uw_1600 : (Jvm.Cond.instanceMethod ({ cls := "CoroutineSchedulerModel", name := "isAbove", desc := "(II)Z" } : Jvm.MethodName)) ∈ am_tb := am_t1 1600 (by decide +kernel) rfl
theorem uw_1601 : (Jvm.Cond.selects "CoroutineSchedulerModel" ({ cls := "CoroutineSchedulerModel", name := "isAbove", desc := "(II)Z" } : Jvm.MethodName) ({ cls := "CoroutineSchedulerModel", name := "isAbove", desc := "(II)Z" } : Jvm.MethodName)) ∈ am_tb := am_t1 1601 (by decide +kernel) rfl
theorem uw_1602 : (Jvm.Cond.code ({ cls := "CoroutineSchedulerModel", name := "isAbove", desc := "(II)Z" } : Jvm.MethodName) prog_14_method_70_code (4 : Nat) (Option.some Jvm.ClassFile.FieldType.boolean)) ∈ am_tb := am_t1 1602 (by decide +kernel) rfl
theorem uw_1603 : (Jvm.Cond.methodLink "CoroutineSchedulerLaw" (136 : Nat) ({ cls := "CoroutineSchedulerModel", name := "scopeOf", desc := "(II)I" } : Jvm.MethodName)) ∈ am_tb := am_t1 1603 (by decide +kernel) rfl
theorem uw_1604 : (Jvm.Cond.instanceMethod ({ cls := "CoroutineSchedulerModel", name := "scopeOf", desc := "(II)I" } : Jvm.MethodName)) ∈ am_tb := am_t1 1604 (by decide +kernel) rfl
theorem uw_1605 : (Jvm.Cond.selects "CoroutineSchedulerModel" ({ cls := "CoroutineSchedulerModel", name := "scopeOf", desc := "(II)I" } : Jvm.MethodName) ({ cls := "CoroutineSchedulerModel", name := "scopeOf", desc := "(II)I" } : Jvm.MethodName)) ∈ am_tb := am_t1 1605 (by decide +kernel) rfl
theorem uw_1606 : (Jvm.Cond.code ({ cls := "CoroutineSchedulerModel", name := "scopeOf", desc := "(II)I" } : Jvm.MethodName) prog_14_method_71_code (3 : Nat) (Option.some Jvm.ClassFile.FieldType.int)) ∈ am_tb := am_t1 1606 (by decide +kernel) rfl
theorem uw_1607 : (Jvm.Cond.methodLink "CoroutineSchedulerLaw" (139 : Nat) ({ cls := "CoroutineSchedulerModel", name := "channel", desc := "(II)I" } : Jvm.MethodName)) ∈ am_tb := am_t1 1607 (by decide +kernel) rfl
theorem uw_1608 : (Jvm.Cond.instanceMethod ({ cls := "CoroutineSchedulerModel", name := "channel", desc := "(II)I" } : Jvm.MethodName)) ∈ am_tb := am_t1 1608 (by decide +kernel) rfl
theorem uw_1609 : (Jvm.Cond.selects "CoroutineSchedulerModel" ({ cls := "CoroutineSchedulerModel", name := "channel", desc := "(II)I" } : Jvm.MethodName) ({ cls := "CoroutineSchedulerModel", name := "channel", desc := "(II)I" } : Jvm.MethodName)) ∈ am_tb := am_t1 1609 (by decide +kernel) rfl
theorem uw_1610 : (Jvm.Cond.code ({ cls := "CoroutineSchedulerModel", name := "channel", desc := "(II)I" } : Jvm.MethodName) prog_14_method_73_code (3 : Nat) (Option.some Jvm.ClassFile.FieldType.int)) ∈ am_tb := am_t1 1610 (by decide +kernel) rfl
theorem uw_1618 : (Jvm.Cond.methodLink "CoroutineSchedulerLaw" (142 : Nat) ({ cls := "CoroutineSchedulerModel", name := "content", desc := "(II)I" } : Jvm.MethodName)) ∈ am_tb := am_t1 1618 (by decide +kernel) rfl
theorem uw_1619 : (Jvm.Cond.instanceMethod ({ cls := "CoroutineSchedulerModel", name := "content", desc := "(II)I" } : Jvm.MethodName)) ∈ am_tb := am_t1 1619 (by decide +kernel) rfl
theorem uw_1620 : (Jvm.Cond.selects "CoroutineSchedulerModel" ({ cls := "CoroutineSchedulerModel", name := "content", desc := "(II)I" } : Jvm.MethodName) ({ cls := "CoroutineSchedulerModel", name := "content", desc := "(II)I" } : Jvm.MethodName)) ∈ am_tb := am_t1 1620 (by decide +kernel) rfl
theorem uw_1621 : (Jvm.Cond.code ({ cls := "CoroutineSchedulerModel", name := "content", desc := "(II)I" } : Jvm.MethodName) prog_14_method_74_code (3 : Nat) (Option.some Jvm.ClassFile.FieldType.int)) ∈ am_tb := am_t1 1621 (by decide +kernel) rfl
theorem uw_1622 : (Jvm.Cond.methodLink "CoroutineSchedulerLaw" (145 : Nat) ({ cls := "CoroutineSchedulerModel", name := "count", desc := "(I)I" } : Jvm.MethodName)) ∈ am_tb := am_t1 1622 (by decide +kernel) rfl
theorem uw_1623 : (Jvm.Cond.instanceMethod ({ cls := "CoroutineSchedulerModel", name := "count", desc := "(I)I" } : Jvm.MethodName)) ∈ am_tb := am_t1 1623 (by decide +kernel) rfl
theorem uw_1624 : (Jvm.Cond.selects "CoroutineSchedulerModel" ({ cls := "CoroutineSchedulerModel", name := "count", desc := "(I)I" } : Jvm.MethodName) ({ cls := "CoroutineSchedulerModel", name := "count", desc := "(I)I" } : Jvm.MethodName)) ∈ am_tb := am_t1 1624 (by decide +kernel) rfl
theorem uw_1625 : (Jvm.Cond.code ({ cls := "CoroutineSchedulerModel", name := "count", desc := "(I)I" } : Jvm.MethodName) prog_14_method_75_code (4 : Nat) (Option.some Jvm.ClassFile.FieldType.int)) ∈ am_tb := am_t1 1625 (by decide +kernel) rfl
theorem uw_1626 : (Jvm.Cond.methodLink "CoroutineSchedulerLaw" (149 : Nat) ({ cls := "CoroutineSchedulerModel", name := "save", desc := "()I" } : Jvm.MethodName)) ∈ am_tb := am_t1 1626 (by decide +kernel) rfl
theorem uw_1627 : (Jvm.Cond.instanceMethod ({ cls := "CoroutineSchedulerModel", name := "save", desc := "()I" } : Jvm.MethodName)) ∈ am_tb := am_t1 1627 (by decide +kernel) rfl
theorem uw_1628 : (Jvm.Cond.selects "CoroutineSchedulerModel" ({ cls := "CoroutineSchedulerModel", name := "save", desc := "()I" } : Jvm.MethodName) ({ cls := "CoroutineSchedulerModel", name := "save", desc := "()I" } : Jvm.MethodName)) ∈ am_tb := am_t1 1628 (by decide +kernel) rfl
theorem uw_1629 : (Jvm.Cond.code ({ cls := "CoroutineSchedulerModel", name := "save", desc := "()I" } : Jvm.MethodName) prog_14_method_76_code (2 : Nat) (Option.some Jvm.ClassFile.FieldType.int)) ∈ am_tb := am_t1 1629 (by decide +kernel) rfl
theorem uw_1630 : (Jvm.Cond.methodLink "CoroutineSchedulerLaw" (152 : Nat) ({ cls := "CoroutineSchedulerModel", name := "restore", desc := "()I" } : Jvm.MethodName)) ∈ am_tb := am_t1 1630 (by decide +kernel) rfl
theorem uw_1631 : (Jvm.Cond.instanceMethod ({ cls := "CoroutineSchedulerModel", name := "restore", desc := "()I" } : Jvm.MethodName)) ∈ am_tb := am_t1 1631 (by decide +kernel) rfl
theorem uw_1632 : (Jvm.Cond.selects "CoroutineSchedulerModel" ({ cls := "CoroutineSchedulerModel", name := "restore", desc := "()I" } : Jvm.MethodName) ({ cls := "CoroutineSchedulerModel", name := "restore", desc := "()I" } : Jvm.MethodName)) ∈ am_tb := am_t1 1632 (by decide +kernel) rfl
theorem uw_1633 : (Jvm.Cond.code ({ cls := "CoroutineSchedulerModel", name := "restore", desc := "()I" } : Jvm.MethodName) prog_14_method_77_code (2 : Nat) (Option.some Jvm.ClassFile.FieldType.int)) ∈ am_tb := am_t1 1633 (by decide +kernel) rfl
set_option maxRecDepth 100000 in
theorem en_X11_errorPosition : ∀ q ∈ cl_X11_errorPosition, al_end [] q.2 :=
  List.forall_mem_cons.mpr ⟨fun _ _ _ _ _ h => h, List.forall_mem_cons.mpr ⟨fun _ _ _ _ _ h => h, List.forall_mem_cons.mpr ⟨al_end_i, fun _ h => absurd h List.not_mem_nil⟩⟩⟩
theorem e_X11_errorPosition {av : List Value} {σ : am_M} {R : am_R} (h : sp_X11_errorPosition av σ R) : sp_X11_errorPosition av σ (fun v s => R v s ∧ al_T [] v) := ⟨h.1, al_ends (al_end_lk en_X11_errorPosition) h.2⟩
set_option maxRecDepth 100000 in
theorem en_X11_reset : ∀ q ∈ cl_X11_reset, al_end [] q.2 :=
  List.forall_mem_cons.mpr ⟨fun _ _ _ _ _ h => h, List.forall_mem_cons.mpr ⟨fun _ _ _ _ _ h => h, List.forall_mem_cons.mpr ⟨fun _ _ _ _ _ h => h, List.forall_mem_cons.mpr ⟨fun _ _ _ _ _ h => h, List.forall_mem_cons.mpr ⟨fun _ _ _ _ _ h => h, List.forall_mem_cons.mpr ⟨fun _ _ _ _ _ h => h, List.forall_mem_cons.mpr ⟨fun _ _ _ _ _ h => h, List.forall_mem_cons.mpr ⟨fun _ _ _ _ _ h => h, List.forall_mem_cons.mpr ⟨al_end_i, fun _ h => absurd h List.not_mem_nil⟩⟩⟩⟩⟩⟩⟩⟩⟩
theorem e_X11_reset {av : List Value} {σ : am_M} {R : am_R} (h : sp_X11_reset av σ R) : sp_X11_reset av σ (fun v s => R v s ∧ al_T [] v) := ⟨h.1, al_ends (al_end_lk en_X11_reset) h.2⟩
set_option maxRecDepth 100000 in
theorem en_X11_next : ∀ q ∈ cl_X11_next, al_end [] q.2 :=
  List.forall_mem_cons.mpr ⟨fun _ _ _ _ _ h => h, List.forall_mem_cons.mpr ⟨fun _ _ _ _ _ h => h, List.forall_mem_cons.mpr ⟨fun _ _ _ _ _ h => h, List.forall_mem_cons.mpr ⟨al_end_i, fun _ h => absurd h List.not_mem_nil⟩⟩⟩⟩
theorem e_X11_next {av : List Value} {σ : am_M} {R : am_R} (h : sp_X11_next av σ R) : sp_X11_next av σ (fun v s => R v s ∧ al_T [] v) := ⟨h.1, al_ends (al_end_lk en_X11_next) h.2⟩
set_option maxRecDepth 100000 in
theorem en_X11_save : ∀ q ∈ cl_X11_save, al_end [] q.2 :=
  List.forall_mem_cons.mpr ⟨fun _ _ _ _ _ h => h, List.forall_mem_cons.mpr ⟨fun _ _ _ _ _ h => h, List.forall_mem_cons.mpr ⟨fun _ _ _ _ _ h => h, List.forall_mem_cons.mpr ⟨fun _ _ _ _ _ h => h, List.forall_mem_cons.mpr ⟨fun _ _ _ _ _ h => h, List.forall_mem_cons.mpr ⟨fun _ _ _ _ _ h => h, List.forall_mem_cons.mpr ⟨fun _ _ _ _ _ h => h, List.forall_mem_cons.mpr ⟨fun _ _ _ _ _ h => h, List.forall_mem_cons.mpr ⟨fun _ _ _ _ _ h => h, List.forall_mem_cons.mpr ⟨fun _ _ _ _ _ h => h, List.forall_mem_cons.mpr ⟨fun _ _ _ _ _ h => h, List.forall_mem_cons.mpr ⟨fun _ _ _ _ _ h => h, List.forall_mem_cons.mpr ⟨al_end_i, fun _ h => absurd h List.not_mem_nil⟩⟩⟩⟩⟩⟩⟩⟩⟩⟩⟩⟩⟩
theorem e_X11_save {av : List Value} {σ : am_M} {R : am_R} (h : sp_X11_save av σ R) : sp_X11_save av σ (fun v s => R v s ∧ al_T [] v) := ⟨h.1, al_ends (al_end_lk en_X11_save) h.2⟩
theorem hw_X12_append : yX12_append.cls = RX12 ∧ yX12_append.cls ≠ "java/lang/invoke/MethodHandle" ∧ yX12_append.cls ≠ "java/lang/invoke/VarHandle" ∧ (parseMethodDescriptor yX12_append.desc).map (fun d => d.parameters.length) = some 1 := by decide +kernel
theorem hd_L_append : yL_append.cls ≠ "java/lang/invoke/MethodHandle" ∧ yL_append.cls ≠ "java/lang/invoke/VarHandle" ∧ (parseMethodDescriptor yL_append.desc).map (fun d => d.parameters.length) = some 3 := by decide +kernel
theorem hw_X12_execute : yX12_execute.cls = RX12 ∧ yX12_execute.cls ≠ "java/lang/invoke/MethodHandle" ∧ yX12_execute.cls ≠ "java/lang/invoke/VarHandle" ∧ (parseMethodDescriptor yX12_execute.desc).map (fun d => d.parameters.length) = some 0 := by decide +kernel
theorem hd_L_execute : yL_execute.cls ≠ "java/lang/invoke/MethodHandle" ∧ yL_execute.cls ≠ "java/lang/invoke/VarHandle" ∧ (parseMethodDescriptor yL_execute.desc).map (fun d => d.parameters.length) = some 2 := by decide +kernel
theorem hw_X11_errorPosition : yX11_errorPosition.cls = RX11 ∧ yX11_errorPosition.cls ≠ "java/lang/invoke/MethodHandle" ∧ yX11_errorPosition.cls ≠ "java/lang/invoke/VarHandle" ∧ (parseMethodDescriptor yX11_errorPosition.desc).map (fun d => d.parameters.length) = some 0 := by decide +kernel
theorem hw_X12_errorPosition : yX12_errorPosition.cls = RX12 ∧ yX12_errorPosition.cls ≠ "java/lang/invoke/MethodHandle" ∧ yX12_errorPosition.cls ≠ "java/lang/invoke/VarHandle" ∧ (parseMethodDescriptor yX12_errorPosition.desc).map (fun d => d.parameters.length) = some 0 := by decide +kernel
theorem hw_X12_program : yX12_program.cls = RX12 ∧ yX12_program.cls ≠ "java/lang/invoke/MethodHandle" ∧ yX12_program.cls ≠ "java/lang/invoke/VarHandle" ∧ (parseMethodDescriptor yX12_program.desc).map (fun d => d.parameters.length) = some 2 := by decide +kernel
theorem hd_L_program : yL_program.cls ≠ "java/lang/invoke/MethodHandle" ∧ yL_program.cls ≠ "java/lang/invoke/VarHandle" ∧ (parseMethodDescriptor yL_program.desc).map (fun d => d.parameters.length) = some 4 := by decide +kernel
theorem hw_X11_reset : yX11_reset.cls = RX11 ∧ yX11_reset.cls ≠ "java/lang/invoke/MethodHandle" ∧ yX11_reset.cls ≠ "java/lang/invoke/VarHandle" ∧ (parseMethodDescriptor yX11_reset.desc).map (fun d => d.parameters.length) = some 0 := by decide +kernel
theorem hw_X12_reset : yX12_reset.cls = RX12 ∧ yX12_reset.cls ≠ "java/lang/invoke/MethodHandle" ∧ yX12_reset.cls ≠ "java/lang/invoke/VarHandle" ∧ (parseMethodDescriptor yX12_reset.desc).map (fun d => d.parameters.length) = some 0 := by decide +kernel
theorem hw_X12_start : yX12_start.cls = RX12 ∧ yX12_start.cls ≠ "java/lang/invoke/MethodHandle" ∧ yX12_start.cls ≠ "java/lang/invoke/VarHandle" ∧ (parseMethodDescriptor yX12_start.desc).map (fun d => d.parameters.length) = some 1 := by decide +kernel
theorem hd_L_start : yL_start.cls ≠ "java/lang/invoke/MethodHandle" ∧ yL_start.cls ≠ "java/lang/invoke/VarHandle" ∧ (parseMethodDescriptor yL_start.desc).map (fun d => d.parameters.length) = some 3 := by decide +kernel
theorem hw_X12_cancel : yX12_cancel.cls = RX12 ∧ yX12_cancel.cls ≠ "java/lang/invoke/MethodHandle" ∧ yX12_cancel.cls ≠ "java/lang/invoke/VarHandle" ∧ (parseMethodDescriptor yX12_cancel.desc).map (fun d => d.parameters.length) = some 1 := by decide +kernel
theorem hd_L_cancel : yL_cancel.cls ≠ "java/lang/invoke/MethodHandle" ∧ yL_cancel.cls ≠ "java/lang/invoke/VarHandle" ∧ (parseMethodDescriptor yL_cancel.desc).map (fun d => d.parameters.length) = some 3 := by decide +kernel
theorem hw_X12_run : yX12_run.cls = RX12 ∧ yX12_run.cls ≠ "java/lang/invoke/MethodHandle" ∧ yX12_run.cls ≠ "java/lang/invoke/VarHandle" ∧ (parseMethodDescriptor yX12_run.desc).map (fun d => d.parameters.length) = some 1 := by decide +kernel
theorem hd_L_run : yL_run.cls ≠ "java/lang/invoke/MethodHandle" ∧ yL_run.cls ≠ "java/lang/invoke/VarHandle" ∧ (parseMethodDescriptor yL_run.desc).map (fun d => d.parameters.length) = some 3 := by decide +kernel
theorem hw_X11_next : yX11_next.cls = RX11 ∧ yX11_next.cls ≠ "java/lang/invoke/MethodHandle" ∧ yX11_next.cls ≠ "java/lang/invoke/VarHandle" ∧ (parseMethodDescriptor yX11_next.desc).map (fun d => d.parameters.length) = some 0 := by decide +kernel
theorem hw_X12_next : yX12_next.cls = RX12 ∧ yX12_next.cls ≠ "java/lang/invoke/MethodHandle" ∧ yX12_next.cls ≠ "java/lang/invoke/VarHandle" ∧ (parseMethodDescriptor yX12_next.desc).map (fun d => d.parameters.length) = some 0 := by decide +kernel
theorem hw_X12_task_ : yX12_task_.cls = RX12 ∧ yX12_task_.cls ≠ "java/lang/invoke/MethodHandle" ∧ yX12_task_.cls ≠ "java/lang/invoke/VarHandle" ∧ (parseMethodDescriptor yX12_task_.desc).map (fun d => d.parameters.length) = some 2 := by decide +kernel
theorem hd_L_task : yL_task.cls ≠ "java/lang/invoke/MethodHandle" ∧ yL_task.cls ≠ "java/lang/invoke/VarHandle" ∧ (parseMethodDescriptor yL_task.desc).map (fun d => d.parameters.length) = some 4 := by decide +kernel
theorem hw_X12_scope_ : yX12_scope_.cls = RX12 ∧ yX12_scope_.cls ≠ "java/lang/invoke/MethodHandle" ∧ yX12_scope_.cls ≠ "java/lang/invoke/VarHandle" ∧ (parseMethodDescriptor yX12_scope_.desc).map (fun d => d.parameters.length) = some 2 := by decide +kernel
theorem hd_L_scope : yL_scope.cls ≠ "java/lang/invoke/MethodHandle" ∧ yL_scope.cls ≠ "java/lang/invoke/VarHandle" ∧ (parseMethodDescriptor yL_scope.desc).map (fun d => d.parameters.length) = some 4 := by decide +kernel
theorem hw_X12_failure : yX12_failure.cls = RX12 ∧ yX12_failure.cls ≠ "java/lang/invoke/MethodHandle" ∧ yX12_failure.cls ≠ "java/lang/invoke/VarHandle" ∧ (parseMethodDescriptor yX12_failure.desc).map (fun d => d.parameters.length) = some 3 := by decide +kernel
theorem hd_L_failure : yL_failure.cls ≠ "java/lang/invoke/MethodHandle" ∧ yL_failure.cls ≠ "java/lang/invoke/VarHandle" ∧ (parseMethodDescriptor yL_failure.desc).map (fun d => d.parameters.length) = some 5 := by decide +kernel
theorem hw_X12_ready : yX12_ready.cls = RX12 ∧ yX12_ready.cls ≠ "java/lang/invoke/MethodHandle" ∧ yX12_ready.cls ≠ "java/lang/invoke/VarHandle" ∧ (parseMethodDescriptor yX12_ready.desc).map (fun d => d.parameters.length) = some 1 := by decide +kernel
theorem hd_L_ready : yL_ready.cls ≠ "java/lang/invoke/MethodHandle" ∧ yL_ready.cls ≠ "java/lang/invoke/VarHandle" ∧ (parseMethodDescriptor yL_ready.desc).map (fun d => d.parameters.length) = some 3 := by decide +kernel
theorem hw_X12_ended : yX12_ended.cls = RX12 ∧ yX12_ended.cls ≠ "java/lang/invoke/MethodHandle" ∧ yX12_ended.cls ≠ "java/lang/invoke/VarHandle" ∧ (parseMethodDescriptor yX12_ended.desc).map (fun d => d.parameters.length) = some 1 := by decide +kernel
theorem hd_L_ended : yL_ended.cls ≠ "java/lang/invoke/MethodHandle" ∧ yL_ended.cls ≠ "java/lang/invoke/VarHandle" ∧ (parseMethodDescriptor yL_ended.desc).map (fun d => d.parameters.length) = some 3 := by decide +kernel
theorem hw_X12_isAbove : yX12_isAbove.cls = RX12 ∧ yX12_isAbove.cls ≠ "java/lang/invoke/MethodHandle" ∧ yX12_isAbove.cls ≠ "java/lang/invoke/VarHandle" ∧ (parseMethodDescriptor yX12_isAbove.desc).map (fun d => d.parameters.length) = some 2 := by decide +kernel
theorem hd_L_isAbove : yL_isAbove.cls ≠ "java/lang/invoke/MethodHandle" ∧ yL_isAbove.cls ≠ "java/lang/invoke/VarHandle" ∧ (parseMethodDescriptor yL_isAbove.desc).map (fun d => d.parameters.length) = some 4 := by decide +kernel
theorem hw_X12_scopeOf : yX12_scopeOf.cls = RX12 ∧ yX12_scopeOf.cls ≠ "java/lang/invoke/MethodHandle" ∧ yX12_scopeOf.cls ≠ "java/lang/invoke/VarHandle" ∧ (parseMethodDescriptor yX12_scopeOf.desc).map (fun d => d.parameters.length) = some 2 := by decide +kernel
theorem hd_L_scopeOf : yL_scopeOf.cls ≠ "java/lang/invoke/MethodHandle" ∧ yL_scopeOf.cls ≠ "java/lang/invoke/VarHandle" ∧ (parseMethodDescriptor yL_scopeOf.desc).map (fun d => d.parameters.length) = some 4 := by decide +kernel
theorem hw_X12_channel_ : yX12_channel_.cls = RX12 ∧ yX12_channel_.cls ≠ "java/lang/invoke/MethodHandle" ∧ yX12_channel_.cls ≠ "java/lang/invoke/VarHandle" ∧ (parseMethodDescriptor yX12_channel_.desc).map (fun d => d.parameters.length) = some 2 := by decide +kernel
theorem hd_L_channel : yL_channel.cls ≠ "java/lang/invoke/MethodHandle" ∧ yL_channel.cls ≠ "java/lang/invoke/VarHandle" ∧ (parseMethodDescriptor yL_channel.desc).map (fun d => d.parameters.length) = some 4 := by decide +kernel
theorem hw_X12_content : yX12_content.cls = RX12 ∧ yX12_content.cls ≠ "java/lang/invoke/MethodHandle" ∧ yX12_content.cls ≠ "java/lang/invoke/VarHandle" ∧ (parseMethodDescriptor yX12_content.desc).map (fun d => d.parameters.length) = some 2 := by decide +kernel
theorem hd_L_content : yL_content.cls ≠ "java/lang/invoke/MethodHandle" ∧ yL_content.cls ≠ "java/lang/invoke/VarHandle" ∧ (parseMethodDescriptor yL_content.desc).map (fun d => d.parameters.length) = some 4 := by decide +kernel
theorem hw_X12_count : yX12_count.cls = RX12 ∧ yX12_count.cls ≠ "java/lang/invoke/MethodHandle" ∧ yX12_count.cls ≠ "java/lang/invoke/VarHandle" ∧ (parseMethodDescriptor yX12_count.desc).map (fun d => d.parameters.length) = some 1 := by decide +kernel
theorem hd_L_count : yL_count.cls ≠ "java/lang/invoke/MethodHandle" ∧ yL_count.cls ≠ "java/lang/invoke/VarHandle" ∧ (parseMethodDescriptor yL_count.desc).map (fun d => d.parameters.length) = some 3 := by decide +kernel
theorem hw_X11_save : yX11_save.cls = RX11 ∧ yX11_save.cls ≠ "java/lang/invoke/MethodHandle" ∧ yX11_save.cls ≠ "java/lang/invoke/VarHandle" ∧ (parseMethodDescriptor yX11_save.desc).map (fun d => d.parameters.length) = some 0 := by decide +kernel
theorem hw_X12_save : yX12_save.cls = RX12 ∧ yX12_save.cls ≠ "java/lang/invoke/MethodHandle" ∧ yX12_save.cls ≠ "java/lang/invoke/VarHandle" ∧ (parseMethodDescriptor yX12_save.desc).map (fun d => d.parameters.length) = some 0 := by decide +kernel
theorem hw_X12_restore : yX12_restore.cls = RX12 ∧ yX12_restore.cls ≠ "java/lang/invoke/MethodHandle" ∧ yX12_restore.cls ≠ "java/lang/invoke/VarHandle" ∧ (parseMethodDescriptor yX12_restore.desc).map (fun d => d.parameters.length) = some 0 := by decide +kernel
theorem hd_L_restore : yL_restore.cls ≠ "java/lang/invoke/MethodHandle" ∧ yL_restore.cls ≠ "java/lang/invoke/VarHandle" ∧ (parseMethodDescriptor yL_restore.desc).map (fun d => d.parameters.length) = some 2 := by decide +kernel
theorem hw_X12_thrown : yX12_thrown.cls = RX12 ∧ yX12_thrown.cls ≠ "java/lang/invoke/MethodHandle" ∧ yX12_thrown.cls ≠ "java/lang/invoke/VarHandle" ∧ (parseMethodDescriptor yX12_thrown.desc).map (fun d => d.parameters.length) = some 0 := by decide +kernel
section LD
variable {p : Program} {e : Env} {s : State} {m : MethodId} {below : List Frame} {meth : Method} {c : Code} {Q : State → Prop} {l : Launch} {G : am_G} {o : Nat} {cL : ClassId} {b L : Nat} {xs : Nat → Int32} {H : Heap} {locs : List Loc} {ls : Array Slot} {cells slots i0 N : Nat} {σ : am_M} {f : Nat → Int64}
theorem ld_sub {o0 : Nat} {ls1 : Array Slot} {l5 : List (Nat × Value)} (h : lv_has ls1 7 l5) (hs : ∀ q ∈ ld_l G o0 b i0, q ∈ l5) : lv_has ls1 7 (ld_l G o0 b i0) := ⟨h.1, h.2.1, fun q hq => h.2.2 q (hs q hq)⟩
theorem k_append (C : ld_C l G o cL b L xs p s m c) (hi : i0 + 4 ≤ L) (hc : cells + 1 ≤ 601024) (hsl : slots + 6 ≤ 7293034) (hN : N + 100 < 2 ^ 26) (hZ : zAll N σ) (hH : am_H G σ H) (hO : al_O o cL f H) (hS : va_S (ld_A s) s.heap H locs) (hl : lv_has ls 7 (ld_l G o b i0)) (K : ld_K l G o cL b p e s m below meth c Q (cells + 1) (slots + 6) i0 (N + 100)) : W p l e room_1 s m #[.ref b] below meth c H locs cells slots Q (F0 m 136 ls []) := by
  obtain ⟨⟨hF, hK, hKl⟩, ⟨hG, hXn, hNc, hX, hst⟩, ⟨ho, hoH, hA⟩, hXs, hbl, hL⟩ := C
  obtain ⟨-, i1, i2, i3⟩ := ld_in hi hL
  have hz0 : zCall [0, 1] sp_X11_append sp_X12_append [.int (xs (nI i0 + 1).toNatClampNeg)] (N + 100) σ := c_append (fun pc => (am_lk_okY (oy_X11_append l G hG hXn hst) pc).1) hZ
  have hz : sp_X11_append [.ref 0, .int (xs (nI i0 + 1).toNatClampNeg)] σ (fun v σ1 => sp_X12_append [.ref 189, .int (xs (nI i0 + 1).toNatClampNeg)] σ1 (zRes [0, 1] (N + 100) v)) := hz0
  refine lv_aload_n hF.1 hF.2.1 dL_law_136 rfl (hl.2.2 _ (.tail _ (.head _))) ?_
  refine lv_aload_n hF.1 hF.2.1 dL_law_137 rfl (hl.2.2 _ (.head _)) ?_
  refine lv_iload hF.1 hF.2.1 dL_law_138 (hl.2.2 _ (.tail _ (.tail _ (.tail _ (.tail _ (.head _)))))) ?_
  refine lv_iconst (v := 1) hF.1 hF.2.1 dL_law_140 rfl ?_
  refine lv_iadd hF.1 hF.2.1 dL_law_141 ?_
  refine va_sld hF.1 hF.2.1 hXs hbl (ld_A0 hbl) hS i1 dL_law_142 ?_
  refine lv_aload_n hF.1 hF.2.1 dL_law_143 rfl (hl.2.2 _ (.tail _ (.tail _ (.tail _ (.head _))))) ?_
  refine lb_callS (A := ld_A s) (mc := 1) (ms := 6) (rest := []) (a := ([.ref (G.1 0), .int (xs (nI i0 + 1).toNatClampNeg), .ref o] : List Value).toArray) (vx_runSX (As := [.ref (G.1 0), .int (xs (nI i0 + 1).toNatClampNeg), .ref o]) hF (w_append l G hG hXn hst hNc ho hoH (xs (nI i0 + 1).toNatClampNeg) σ f _ hz) (lb_cwS 3 hF.2.2.2.2 uw_531 uw_529 uw_530 (hF.2.2.2.2 _ List.mem_cons_self) rfl rfl hd_L_append ⟨by decide, by decide⟩) ⟨al_blind hG, fun U hU hW => ⟨rfl, by rw [hU]; exact hH, hK.warm hG hW, by rw [hU]; exact hO, va_K.moved hW.alike hKl⟩⟩ rfl rfl hl.1 rfl (Nat.le_of_ble_eq_true rfl) dL_law_144 ⟨hc, hsl⟩) hA hS ?_
  intro k u H1 locs1 hq hH1 hO1 hS1
  refine lv_istore hF.1 hF.2.1 dL_law_147 hl (by decide) rfl (fun ls5 (hl5 : lv_has ls5 7 [(5, .int k), (0, .ref b), (1, .ref (G.1 0)), (2, .ref (G.1 189)), (3, .ref o), (4, .int (nI i0))]) => ?_)
  refine lv_aload_n hF.1 hF.2.1 dL_law_149 rfl (hl5.2.2 _ (.tail _ (.tail _ (.tail _ (.head _))))) ?_
  refine lv_aload_n hF.1 hF.2.1 dL_law_150 rfl (hl5.2.2 _ (.tail _ (.head _))) ?_
  refine lv_iload hF.1 hF.2.1 dL_law_151 (hl5.2.2 _ (.tail _ (.tail _ (.tail _ (.tail _ (.tail _ (.head _))))))) ?_
  refine lv_iconst (v := 1) hF.1 hF.2.1 dL_law_153 rfl ?_
  refine lv_iadd hF.1 hF.2.1 dL_law_154 ?_
  refine va_sld hF.1 hF.2.1 hXs hbl (ld_A0 hbl) hS1 i1 dL_law_155 ?_
  refine lb_callV (A := ld_A s) (R1 := zRes [0, 1] (N + 100) u.2.2) (rest := []) (va_runV (As := [.int (xs (nI i0 + 1).toNatClampNeg)]) (b := G.1 189) hF (m_X12_append l G hG hX [.ref 189, .int (xs (nI i0 + 1).toNatClampNeg)] _ _ (by intro v hv; simp at hv; rcases hv with rfl | rfl <;> rfl) hq.1) (al_cwV 1 hF.2.2.2.2 uw_1254 uw_1251 uw_1252 uw_1253 uw_14 rfl rfl hw_X12_append ⟨by decide, by decide⟩) ⟨am_blind hG, va_recv hK.1 hH1.1 (ci := 12) rfl (am_ws_get (k := 189) rfl), fun U hU hW => ⟨rfl, by rw [hU]; exact hH1, hK.warm hG hW⟩⟩ rfl rfl hl5.1 rfl (Nat.le_of_ble_eq_true rfl) dL_law_156 ⟨by show cells + 1 + 0 ≤ 601024; omega, by show slots + 6 + 0 ≤ 7293034; omega⟩) (fun q h => hA q (Or.inl h)) hS1 hO1 ho ?_
  intro w σ2 H2 locs2 hR2 hH2 hO2 hS2
  obtain ⟨hag, hZ2⟩ := hR2
  obtain ⟨et, b9, rfl, hb9⟩ := lb_agree (by decide) (by decide) hq hag
  refine lv_istore hF.1 hF.2.1 dL_law_159 hl5 (by decide) rfl (fun ls6 (hl6 : lv_has ls6 7 [(6, .int b9), (5, .int k), (0, .ref b), (1, .ref (G.1 0)), (2, .ref (G.1 189)), (3, .ref o), (4, .int (nI i0))]) => ?_)
  refine lv_aload_n hF.1 hF.2.1 dL_law_161 rfl (hl6.2.2 _ (.tail _ (.tail _ (.tail _ (.tail _ (.head _)))))) ?_
  refine lb_callV (A := ld_A s) (R1 := fun v σ3 => v = some (.int (σ2 189 0)) ∧ σ3 = σ2) (rest := []) (va_runV (As := []) (b := G.1 189) hF (m_X12_thrown l G hG hX [.ref 189] _ _ (by intro v hv; simp at hv; subst hv; rfl) (lb_thr ⟨rfl, rfl⟩)) (al_cwV 0 hF.2.2.2.2 uw_1250 uw_1247 uw_1248 uw_1249 uw_14 rfl rfl hw_X12_thrown ⟨by decide, by decide⟩) ⟨am_blind hG, va_recv hK.1 hH2.1 (ci := 12) rfl (am_ws_get (k := 189) rfl), fun U hU hW => ⟨rfl, by rw [hU]; exact hH2, hK.warm hG hW⟩⟩ rfl rfl hl6.1 rfl (Nat.le_of_ble_eq_true rfl) dL_law_162 ⟨by show cells + 1 + 0 ≤ 601024; omega, by show slots + 6 + 0 ≤ 7293034; omega⟩) (fun q h => hA q (Or.inl h)) hS2 hO2 ho ?_
  rintro v3 σ3 H3 locs3 ⟨rfl, rfl⟩ hH3 hO3 hS3
  refine lv_iload hF.1 hF.2.1 dL_law_165 (hl6.2.2 _ (.tail _ (.head _))) ?_
  refine lv_icmp_eq hF.1 hF.2.1 dL_law_167 (tgt := 172) (by decide) (fun _ => ?_) (fun z => absurd et z)
  refine lv_iload hF.1 hF.2.1 dL_law_172 (hl6.2.2 _ (.tail _ (.head _))) ?_
  refine lv_if_ne hF.1 hF.2.1 dL_law_174 (tgt := 189) (by decide) (fun _ => lv_goto hF.1 hF.2.1 dL_law_189 (tgt := 1231) (by decide) (K H3 locs3 _ u.2.1 ls6 hH3 hO3 hS3 hZ2 (ld_sub hl6 (fun q hq => List.mem_cons_of_mem _ (List.mem_cons_of_mem _ hq))))) (fun z => ?_)
  refine lv_aload_n hF.1 hF.2.1 dL_law_177 rfl (hl6.2.2 _ (.tail _ (.tail _ (.tail _ (.tail _ (.tail _ (.head _))))))) ?_
  refine lv_iconst (v := 0) hF.1 hF.2.1 dL_law_178 rfl ?_
  refine va_lald (D := G.2.1) (cl := vwCl) (ws := al_ws G o cL _ u.2.1) (tys := [(cL, .long)]) hF.1 hF.2.1 hKl (al_WP hH3 hO3) 0 0 rfl rfl al_in0 dL_law_179 ?_
  refine lv_iload hF.1 hF.2.1 dL_law_180 (hl6.2.2 _ (.head _)) ?_
  refine lv_i2l hF.1 hF.2.1 dL_law_182 rfl ?_
  refine W.lcmp hF.1 hF.2.1 dL_law_183 ?_
  exact lv_if_eq hF.1 hF.2.1 dL_law_184 (tgt := 189) (by decide) (fun _ => lv_goto hF.1 hF.2.1 dL_law_189 (tgt := 1231) (by decide) (K H3 locs3 _ u.2.1 ls6 hH3 hO3 hS3 hZ2 (ld_sub hl6 (fun q hq => List.mem_cons_of_mem _ (List.mem_cons_of_mem _ hq))))) (fun y => absurd ((lg_cmp_eq _ _).mpr (hb9 z)) y)
theorem k_execute (C : ld_C l G o cL b L xs p s m c) (hi : i0 + 4 ≤ L) (hc : cells + 1 ≤ 601024) (hsl : slots + 6 ≤ 7293034) (hN : N + 100 < 2 ^ 26) (hZ : zAll N σ) (hH : am_H G σ H) (hO : al_O o cL f H) (hS : va_S (ld_A s) s.heap H locs) (hl : lv_has ls 7 (ld_l G o b i0)) (K : ld_K l G o cL b p e s m below meth c Q (cells + 1) (slots + 6) i0 (N + 100)) : W p l e room_1 s m #[.ref b] below meth c H locs cells slots Q (F0 m 192 ls []) := by
  obtain ⟨⟨hF, hK, hKl⟩, ⟨hG, hXn, hNc, hX, hst⟩, ⟨ho, hoH, hA⟩, hXs, hbl, hL⟩ := C
  obtain ⟨-, i1, i2, i3⟩ := ld_in hi hL
  have hz0 : zCall [0, 1] sp_X11_execute sp_X12_execute [] (N + 100) σ := c_execute (fun pc => (am_lk_okY (oy_X11_execute l G hG hXn hst) pc).1) hZ
  have hz : sp_X11_execute [.ref 0] σ (fun v σ1 => sp_X12_execute [.ref 189] σ1 (zRes [0, 1] (N + 100) v)) := hz0
  refine lv_aload_n hF.1 hF.2.1 dL_law_192 rfl (hl.2.2 _ (.tail _ (.head _))) ?_
  refine lv_aload_n hF.1 hF.2.1 dL_law_193 rfl (hl.2.2 _ (.tail _ (.tail _ (.tail _ (.head _))))) ?_
  refine lb_callS (A := ld_A s) (mc := 1) (ms := 6) (rest := []) (a := ([.ref (G.1 0), .ref o] : List Value).toArray) (vx_runSX (As := [.ref (G.1 0), .ref o]) hF (w_execute l G hG hXn hst hNc ho hoH σ f _ hz) (lb_cwS 2 hF.2.2.2.2 uw_633 uw_631 uw_632 (hF.2.2.2.2 _ List.mem_cons_self) rfl rfl hd_L_execute ⟨by decide, by decide⟩) ⟨al_blind hG, fun U hU hW => ⟨rfl, by rw [hU]; exact hH, hK.warm hG hW, by rw [hU]; exact hO, va_K.moved hW.alike hKl⟩⟩ rfl rfl hl.1 rfl (Nat.le_of_ble_eq_true rfl) dL_law_194 ⟨hc, hsl⟩) hA hS ?_
  intro k u H1 locs1 hq hH1 hO1 hS1
  refine lv_istore hF.1 hF.2.1 dL_law_197 hl (by decide) rfl (fun ls5 (hl5 : lv_has ls5 7 [(5, .int k), (0, .ref b), (1, .ref (G.1 0)), (2, .ref (G.1 189)), (3, .ref o), (4, .int (nI i0))]) => ?_)
  refine lv_aload_n hF.1 hF.2.1 dL_law_199 rfl (hl5.2.2 _ (.tail _ (.tail _ (.tail _ (.head _))))) ?_
  refine lb_callV (A := ld_A s) (R1 := zRes [0, 1] (N + 100) u.2.2) (rest := []) (va_runV (As := []) (b := G.1 189) hF (m_X12_execute l G hG hX [.ref 189] _ _ (by intro v hv; simp at hv; subst hv; rfl) hq.1) (al_cwV 0 hF.2.2.2.2 uw_1265 uw_1262 uw_1263 uw_1264 uw_14 rfl rfl hw_X12_execute ⟨by decide, by decide⟩) ⟨am_blind hG, va_recv hK.1 hH1.1 (ci := 12) rfl (am_ws_get (k := 189) rfl), fun U hU hW => ⟨rfl, by rw [hU]; exact hH1, hK.warm hG hW⟩⟩ rfl rfl hl5.1 rfl (Nat.le_of_ble_eq_true rfl) dL_law_200 ⟨by show cells + 1 + 0 ≤ 601024; omega, by show slots + 6 + 0 ≤ 7293034; omega⟩) (fun q h => hA q (Or.inl h)) hS1 hO1 ho ?_
  intro w σ2 H2 locs2 hR2 hH2 hO2 hS2
  obtain ⟨hag, hZ2⟩ := hR2
  obtain ⟨et, b9, rfl, hb9⟩ := lb_agree (by decide) (by decide) hq hag
  refine lv_istore hF.1 hF.2.1 dL_law_203 hl5 (by decide) rfl (fun ls6 (hl6 : lv_has ls6 7 [(6, .int b9), (5, .int k), (0, .ref b), (1, .ref (G.1 0)), (2, .ref (G.1 189)), (3, .ref o), (4, .int (nI i0))]) => ?_)
  refine lv_aload_n hF.1 hF.2.1 dL_law_205 rfl (hl6.2.2 _ (.tail _ (.tail _ (.tail _ (.tail _ (.head _)))))) ?_
  refine lb_callV (A := ld_A s) (R1 := fun v σ3 => v = some (.int (σ2 189 0)) ∧ σ3 = σ2) (rest := []) (va_runV (As := []) (b := G.1 189) hF (m_X12_thrown l G hG hX [.ref 189] _ _ (by intro v hv; simp at hv; subst hv; rfl) (lb_thr ⟨rfl, rfl⟩)) (al_cwV 0 hF.2.2.2.2 uw_1250 uw_1247 uw_1248 uw_1249 uw_14 rfl rfl hw_X12_thrown ⟨by decide, by decide⟩) ⟨am_blind hG, va_recv hK.1 hH2.1 (ci := 12) rfl (am_ws_get (k := 189) rfl), fun U hU hW => ⟨rfl, by rw [hU]; exact hH2, hK.warm hG hW⟩⟩ rfl rfl hl6.1 rfl (Nat.le_of_ble_eq_true rfl) dL_law_206 ⟨by show cells + 1 + 0 ≤ 601024; omega, by show slots + 6 + 0 ≤ 7293034; omega⟩) (fun q h => hA q (Or.inl h)) hS2 hO2 ho ?_
  rintro v3 σ3 H3 locs3 ⟨rfl, rfl⟩ hH3 hO3 hS3
  refine lv_iload hF.1 hF.2.1 dL_law_209 (hl6.2.2 _ (.tail _ (.head _))) ?_
  refine lv_icmp_eq hF.1 hF.2.1 dL_law_211 (tgt := 216) (by decide) (fun _ => ?_) (fun z => absurd et z)
  refine lv_iload hF.1 hF.2.1 dL_law_216 (hl6.2.2 _ (.tail _ (.head _))) ?_
  refine lv_if_ne hF.1 hF.2.1 dL_law_218 (tgt := 233) (by decide) (fun _ => lv_goto hF.1 hF.2.1 dL_law_233 (tgt := 1231) (by decide) (K H3 locs3 _ u.2.1 ls6 hH3 hO3 hS3 hZ2 (ld_sub hl6 (fun q hq => List.mem_cons_of_mem _ (List.mem_cons_of_mem _ hq))))) (fun z => ?_)
  refine lv_aload_n hF.1 hF.2.1 dL_law_221 rfl (hl6.2.2 _ (.tail _ (.tail _ (.tail _ (.tail _ (.tail _ (.head _))))))) ?_
  refine lv_iconst (v := 0) hF.1 hF.2.1 dL_law_222 rfl ?_
  refine va_lald (D := G.2.1) (cl := vwCl) (ws := al_ws G o cL _ u.2.1) (tys := [(cL, .long)]) hF.1 hF.2.1 hKl (al_WP hH3 hO3) 0 0 rfl rfl al_in0 dL_law_223 ?_
  refine lv_iload hF.1 hF.2.1 dL_law_224 (hl6.2.2 _ (.head _)) ?_
  refine lv_i2l hF.1 hF.2.1 dL_law_226 rfl ?_
  refine W.lcmp hF.1 hF.2.1 dL_law_227 ?_
  exact lv_if_eq hF.1 hF.2.1 dL_law_228 (tgt := 233) (by decide) (fun _ => lv_goto hF.1 hF.2.1 dL_law_233 (tgt := 1231) (by decide) (K H3 locs3 _ u.2.1 ls6 hH3 hO3 hS3 hZ2 (ld_sub hl6 (fun q hq => List.mem_cons_of_mem _ (List.mem_cons_of_mem _ hq))))) (fun y => absurd ((lg_cmp_eq _ _).mpr (hb9 z)) y)
theorem k_errorPosition (C : ld_C l G o cL b L xs p s m c) (hi : i0 + 4 ≤ L) (hc : cells + 1 ≤ 601024) (hsl : slots + 6 ≤ 7293034) (hN : N + 100 < 2 ^ 26) (hZ : zAll N σ) (hH : am_H G σ H) (hO : al_O o cL f H) (hS : va_S (ld_A s) s.heap H locs) (hl : lv_has ls 7 (ld_l G o b i0)) (K : ld_K l G o cL b p e s m below meth c Q (cells + 1) (slots + 6) i0 (N + 100)) : W p l e room_1 s m #[.ref b] below meth c H locs cells slots Q (F0 m 236 ls []) := by
  obtain ⟨⟨hF, hK, hKl⟩, ⟨hG, hXn, hNc, hX, hst⟩, ⟨ho, hoH, hA⟩, hXs, hbl, hL⟩ := C
  obtain ⟨-, i1, i2, i3⟩ := ld_in hi hL
  have hz := e_X11_errorPosition (c_errorPosition (fun pc => (am_lk_ok (ok_X11_errorPosition l G hG) pc).1) hZ)
  refine lv_aload_n hF.1 hF.2.1 dL_law_236 rfl (hl.2.2 _ (.tail _ (.head _))) ?_
  refine lb_callV (A := ld_A s) (R1 := fun v σ1 => sp_X12_errorPosition [.ref 189] σ1 (zRes [] (N + 100) v) ∧ al_T [] v) (rest := []) (va_runV (As := []) (b := G.1 0) hF (m_X11_errorPosition l G hG [.ref 0] _ _ (by intro v hv; simp at hv; subst hv; rfl) hz) (al_cwV 0 hF.2.2.2.2 uw_417 uw_414 uw_415 uw_416 uw_1 rfl rfl hw_X11_errorPosition ⟨by decide, by decide⟩) ⟨am_blind hG, va_recv hK.1 hH.1 (ci := 11) rfl (am_ws_get (k := 0) rfl), fun U hU hW => ⟨rfl, by rw [hU]; exact hH, hK.warm hG hW⟩⟩ rfl rfl hl.1 rfl (Nat.le_of_ble_eq_true rfl) dL_law_237 ⟨by show cells + 0 ≤ 601024; omega, by show slots + 0 ≤ 7293034; omega⟩) (fun q h => hA q (Or.inl h)) hS hO ho ?_
  rintro v σ1 H1 locs1 ⟨hR1, hT1⟩ hH1 hO1 hS1
  obtain ⟨a9, rfl⟩ : ∃ a9 : Int32, v = some (.int a9) := hT1.elim id (fun ⟨_, _, z, _⟩ => nomatch z)
  refine lv_aload_n hF.1 hF.2.1 dL_law_240 rfl (hl.2.2 _ (.tail _ (.tail _ (.head _)))) ?_
  refine lb_callV (A := ld_A s) (R1 := zRes [] (N + 100) (some (.int a9))) (rest := [.int a9]) (va_runV (As := []) (b := G.1 189) hF (m_X12_errorPosition l G hG hX [.ref 189] _ _ (by intro v hv; simp at hv; subst hv; rfl) hR1) (al_cwV 0 hF.2.2.2.2 uw_1399 uw_1396 uw_1397 uw_1398 uw_14 rfl rfl hw_X12_errorPosition ⟨by decide, by decide⟩) ⟨am_blind hG, va_recv hK.1 hH1.1 (ci := 12) rfl (am_ws_get (k := 189) rfl), fun U hU hW => ⟨rfl, by rw [hU]; exact hH1, hK.warm hG hW⟩⟩ rfl rfl hl.1 rfl (Nat.le_of_ble_eq_true rfl) dL_law_241 ⟨by show cells + 0 ≤ 601024; omega, by show slots + 0 ≤ 7293034; omega⟩) (fun q h => hA q (Or.inl h)) hS1 hO1 ho ?_
  rintro w σ2 H2 locs2 ⟨hag, hZ2⟩ hH2 hO2 hS2
  obtain ⟨a8, y1, rfl, -⟩ : ∃ a8 : Int32, some (Value.int a9) = some (.int a8) ∧ w = some (.int a8) ∧ σ2 189 0 = 0 := hag.elim id (fun ⟨_, _, _, z, _⟩ => nomatch z)
  have y2 : a9 = a8 := by simpa using y1
  exact lv_icmp_eq hF.1 hF.2.1 dL_law_244 (tgt := 1231) (by decide) (fun _ => (fun T hT X => (K H2 locs2 _ f ls hH2 hO2 hS2 hZ2 hl) T hT (stand_widen X (Nat.le_succ _) (Nat.le_add_right _ _)))) (fun z => absurd y2 z)
theorem k_program (C : ld_C l G o cL b L xs p s m c) (hi : i0 + 4 ≤ L) (hc : cells + 1 ≤ 601024) (hsl : slots + 6 ≤ 7293034) (hN : N + 100 < 2 ^ 26) (hZ : zAll N σ) (hH : am_H G σ H) (hO : al_O o cL f H) (hS : va_S (ld_A s) s.heap H locs) (hl : lv_has ls 7 (ld_l G o b i0)) (K : ld_K l G o cL b p e s m below meth c Q (cells + 1) (slots + 6) i0 (N + 100)) : W p l e room_1 s m #[.ref b] below meth c H locs cells slots Q (F0 m 249 ls []) := by
  obtain ⟨⟨hF, hK, hKl⟩, ⟨hG, hXn, hNc, hX, hst⟩, ⟨ho, hoH, hA⟩, hXs, hbl, hL⟩ := C
  obtain ⟨-, i1, i2, i3⟩ := ld_in hi hL
  have hz0 : zCall [2] sp_X11_program sp_X12_program [.int (xs (nI i0 + 1).toNatClampNeg), .int (xs (nI i0 + 2).toNatClampNeg)] (N + 100) σ := c_program (fun pc => (am_lk_okY (oy_X11_program l G hG hXn hst) pc).1) hZ
  have hz : sp_X11_program [.ref 0, .int (xs (nI i0 + 1).toNatClampNeg), .int (xs (nI i0 + 2).toNatClampNeg)] σ (fun v σ1 => sp_X12_program [.ref 189, .int (xs (nI i0 + 1).toNatClampNeg), .int (xs (nI i0 + 2).toNatClampNeg)] σ1 (zRes [2] (N + 100) v)) := hz0
  refine lv_aload_n hF.1 hF.2.1 dL_law_249 rfl (hl.2.2 _ (.tail _ (.head _))) ?_
  refine lv_aload_n hF.1 hF.2.1 dL_law_250 rfl (hl.2.2 _ (.head _)) ?_
  refine lv_iload hF.1 hF.2.1 dL_law_251 (hl.2.2 _ (.tail _ (.tail _ (.tail _ (.tail _ (.head _)))))) ?_
  refine lv_iconst (v := 1) hF.1 hF.2.1 dL_law_253 rfl ?_
  refine lv_iadd hF.1 hF.2.1 dL_law_254 ?_
  refine va_sld hF.1 hF.2.1 hXs hbl (ld_A0 hbl) hS i1 dL_law_255 ?_
  refine lv_aload_n hF.1 hF.2.1 dL_law_256 rfl (hl.2.2 _ (.head _)) ?_
  refine lv_iload hF.1 hF.2.1 dL_law_257 (hl.2.2 _ (.tail _ (.tail _ (.tail _ (.tail _ (.head _)))))) ?_
  refine lv_iconst (v := 2) hF.1 hF.2.1 dL_law_259 rfl ?_
  refine lv_iadd hF.1 hF.2.1 dL_law_260 ?_
  refine va_sld hF.1 hF.2.1 hXs hbl (ld_A0 hbl) hS i2 dL_law_261 ?_
  refine lv_aload_n hF.1 hF.2.1 dL_law_262 rfl (hl.2.2 _ (.tail _ (.tail _ (.tail _ (.head _))))) ?_
  refine lb_callS (A := ld_A s) (mc := 1) (ms := 6) (rest := []) (a := ([.ref (G.1 0), .int (xs (nI i0 + 1).toNatClampNeg), .int (xs (nI i0 + 2).toNatClampNeg), .ref o] : List Value).toArray) (vx_runSX (As := [.ref (G.1 0), .int (xs (nI i0 + 1).toNatClampNeg), .int (xs (nI i0 + 2).toNatClampNeg), .ref o]) hF (w_program l G hG hXn hst hNc ho hoH (xs (nI i0 + 1).toNatClampNeg) (xs (nI i0 + 2).toNatClampNeg) σ f _ hz) (lb_cwS 4 hF.2.2.2.2 uw_732 uw_730 uw_731 (hF.2.2.2.2 _ List.mem_cons_self) rfl rfl hd_L_program ⟨by decide, by decide⟩) ⟨al_blind hG, fun U hU hW => ⟨rfl, by rw [hU]; exact hH, hK.warm hG hW, by rw [hU]; exact hO, va_K.moved hW.alike hKl⟩⟩ rfl rfl hl.1 rfl (Nat.le_of_ble_eq_true rfl) dL_law_263 ⟨hc, hsl⟩) hA hS ?_
  intro k u H1 locs1 hq hH1 hO1 hS1
  refine lv_istore hF.1 hF.2.1 dL_law_266 hl (by decide) rfl (fun ls5 (hl5 : lv_has ls5 7 [(5, .int k), (0, .ref b), (1, .ref (G.1 0)), (2, .ref (G.1 189)), (3, .ref o), (4, .int (nI i0))]) => ?_)
  refine lv_aload_n hF.1 hF.2.1 dL_law_268 rfl (hl5.2.2 _ (.tail _ (.tail _ (.tail _ (.head _))))) ?_
  refine lv_aload_n hF.1 hF.2.1 dL_law_269 rfl (hl5.2.2 _ (.tail _ (.head _))) ?_
  refine lv_iload hF.1 hF.2.1 dL_law_270 (hl5.2.2 _ (.tail _ (.tail _ (.tail _ (.tail _ (.tail _ (.head _))))))) ?_
  refine lv_iconst (v := 1) hF.1 hF.2.1 dL_law_272 rfl ?_
  refine lv_iadd hF.1 hF.2.1 dL_law_273 ?_
  refine va_sld hF.1 hF.2.1 hXs hbl (ld_A0 hbl) hS1 i1 dL_law_274 ?_
  refine lv_aload_n hF.1 hF.2.1 dL_law_275 rfl (hl5.2.2 _ (.tail _ (.head _))) ?_
  refine lv_iload hF.1 hF.2.1 dL_law_276 (hl5.2.2 _ (.tail _ (.tail _ (.tail _ (.tail _ (.tail _ (.head _))))))) ?_
  refine lv_iconst (v := 2) hF.1 hF.2.1 dL_law_278 rfl ?_
  refine lv_iadd hF.1 hF.2.1 dL_law_279 ?_
  refine va_sld hF.1 hF.2.1 hXs hbl (ld_A0 hbl) hS1 i2 dL_law_280 ?_
  refine lb_callV (A := ld_A s) (R1 := zRes [2] (N + 100) u.2.2) (rest := []) (va_runV (As := [.int (xs (nI i0 + 1).toNatClampNeg), .int (xs (nI i0 + 2).toNatClampNeg)]) (b := G.1 189) hF (m_X12_program l G hG hX [.ref 189, .int (xs (nI i0 + 1).toNatClampNeg), .int (xs (nI i0 + 2).toNatClampNeg)] _ _ (by intro v hv; simp at hv; rcases hv with rfl | rfl | rfl <;> rfl) hq.1) (al_cwV 2 hF.2.2.2.2 uw_1403 uw_1400 uw_1401 uw_1402 uw_14 rfl rfl hw_X12_program ⟨by decide, by decide⟩) ⟨am_blind hG, va_recv hK.1 hH1.1 (ci := 12) rfl (am_ws_get (k := 189) rfl), fun U hU hW => ⟨rfl, by rw [hU]; exact hH1, hK.warm hG hW⟩⟩ rfl rfl hl5.1 rfl (Nat.le_of_ble_eq_true rfl) dL_law_281 ⟨by show cells + 1 + 0 ≤ 601024; omega, by show slots + 6 + 0 ≤ 7293034; omega⟩) (fun q h => hA q (Or.inl h)) hS1 hO1 ho ?_
  intro w σ2 H2 locs2 hR2 hH2 hO2 hS2
  obtain ⟨hag, hZ2⟩ := hR2
  obtain ⟨et, b9, rfl, hb9⟩ := lb_agree (by decide) (by decide) hq hag
  refine lv_istore hF.1 hF.2.1 dL_law_284 hl5 (by decide) rfl (fun ls6 (hl6 : lv_has ls6 7 [(6, .int b9), (5, .int k), (0, .ref b), (1, .ref (G.1 0)), (2, .ref (G.1 189)), (3, .ref o), (4, .int (nI i0))]) => ?_)
  refine lv_aload_n hF.1 hF.2.1 dL_law_286 rfl (hl6.2.2 _ (.tail _ (.tail _ (.tail _ (.tail _ (.head _)))))) ?_
  refine lb_callV (A := ld_A s) (R1 := fun v σ3 => v = some (.int (σ2 189 0)) ∧ σ3 = σ2) (rest := []) (va_runV (As := []) (b := G.1 189) hF (m_X12_thrown l G hG hX [.ref 189] _ _ (by intro v hv; simp at hv; subst hv; rfl) (lb_thr ⟨rfl, rfl⟩)) (al_cwV 0 hF.2.2.2.2 uw_1250 uw_1247 uw_1248 uw_1249 uw_14 rfl rfl hw_X12_thrown ⟨by decide, by decide⟩) ⟨am_blind hG, va_recv hK.1 hH2.1 (ci := 12) rfl (am_ws_get (k := 189) rfl), fun U hU hW => ⟨rfl, by rw [hU]; exact hH2, hK.warm hG hW⟩⟩ rfl rfl hl6.1 rfl (Nat.le_of_ble_eq_true rfl) dL_law_287 ⟨by show cells + 1 + 0 ≤ 601024; omega, by show slots + 6 + 0 ≤ 7293034; omega⟩) (fun q h => hA q (Or.inl h)) hS2 hO2 ho ?_
  rintro v3 σ3 H3 locs3 ⟨rfl, rfl⟩ hH3 hO3 hS3
  refine lv_iload hF.1 hF.2.1 dL_law_290 (hl6.2.2 _ (.tail _ (.head _))) ?_
  refine lv_icmp_eq hF.1 hF.2.1 dL_law_292 (tgt := 297) (by decide) (fun _ => ?_) (fun z => absurd et z)
  refine lv_iload hF.1 hF.2.1 dL_law_297 (hl6.2.2 _ (.tail _ (.head _))) ?_
  refine lv_if_ne hF.1 hF.2.1 dL_law_299 (tgt := 314) (by decide) (fun _ => lv_goto hF.1 hF.2.1 dL_law_314 (tgt := 1231) (by decide) (K H3 locs3 _ u.2.1 ls6 hH3 hO3 hS3 hZ2 (ld_sub hl6 (fun q hq => List.mem_cons_of_mem _ (List.mem_cons_of_mem _ hq))))) (fun z => ?_)
  refine lv_aload_n hF.1 hF.2.1 dL_law_302 rfl (hl6.2.2 _ (.tail _ (.tail _ (.tail _ (.tail _ (.tail _ (.head _))))))) ?_
  refine lv_iconst (v := 0) hF.1 hF.2.1 dL_law_303 rfl ?_
  refine va_lald (D := G.2.1) (cl := vwCl) (ws := al_ws G o cL _ u.2.1) (tys := [(cL, .long)]) hF.1 hF.2.1 hKl (al_WP hH3 hO3) 0 0 rfl rfl al_in0 dL_law_304 ?_
  refine lv_iload hF.1 hF.2.1 dL_law_305 (hl6.2.2 _ (.head _)) ?_
  refine lv_i2l hF.1 hF.2.1 dL_law_307 rfl ?_
  refine W.lcmp hF.1 hF.2.1 dL_law_308 ?_
  exact lv_if_eq hF.1 hF.2.1 dL_law_309 (tgt := 314) (by decide) (fun _ => lv_goto hF.1 hF.2.1 dL_law_314 (tgt := 1231) (by decide) (K H3 locs3 _ u.2.1 ls6 hH3 hO3 hS3 hZ2 (ld_sub hl6 (fun q hq => List.mem_cons_of_mem _ (List.mem_cons_of_mem _ hq))))) (fun y => absurd ((lg_cmp_eq _ _).mpr (hb9 z)) y)
theorem k_reset (C : ld_C l G o cL b L xs p s m c) (hi : i0 + 4 ≤ L) (hc : cells + 1 ≤ 601024) (hsl : slots + 6 ≤ 7293034) (hN : N + 100 < 2 ^ 26) (hZ : zAll N σ) (hH : am_H G σ H) (hO : al_O o cL f H) (hS : va_S (ld_A s) s.heap H locs) (hl : lv_has ls 7 (ld_l G o b i0)) (K : ld_K l G o cL b p e s m below meth c Q (cells + 1) (slots + 6) i0 (N + 100)) : W p l e room_1 s m #[.ref b] below meth c H locs cells slots Q (F0 m 317 ls []) := by
  obtain ⟨⟨hF, hK, hKl⟩, ⟨hG, hXn, hNc, hX, hst⟩, ⟨ho, hoH, hA⟩, hXs, hbl, hL⟩ := C
  obtain ⟨-, i1, i2, i3⟩ := ld_in hi hL
  have hz := e_X11_reset (c_reset (fun pc => (am_lk_ok (ok_X11_reset l G hG) pc).1) hZ)
  refine lv_aload_n hF.1 hF.2.1 dL_law_317 rfl (hl.2.2 _ (.tail _ (.head _))) ?_
  refine lb_callV (A := ld_A s) (R1 := fun v σ1 => sp_X12_reset [.ref 189] σ1 (zRes [] (N + 100) v) ∧ al_T [] v) (rest := []) (va_runV (As := []) (b := G.1 0) hF (m_X11_reset l G hG [.ref 0] _ _ (by intro v hv; simp at hv; subst hv; rfl) hz) (al_cwV 0 hF.2.2.2.2 uw_421 uw_418 uw_419 uw_420 uw_1 rfl rfl hw_X11_reset ⟨by decide, by decide⟩) ⟨am_blind hG, va_recv hK.1 hH.1 (ci := 11) rfl (am_ws_get (k := 0) rfl), fun U hU hW => ⟨rfl, by rw [hU]; exact hH, hK.warm hG hW⟩⟩ rfl rfl hl.1 rfl (Nat.le_of_ble_eq_true rfl) dL_law_318 ⟨by show cells + 0 ≤ 601024; omega, by show slots + 0 ≤ 7293034; omega⟩) (fun q h => hA q (Or.inl h)) hS hO ho ?_
  rintro v σ1 H1 locs1 ⟨hR1, hT1⟩ hH1 hO1 hS1
  obtain ⟨a9, rfl⟩ : ∃ a9 : Int32, v = some (.int a9) := hT1.elim id (fun ⟨_, _, z, _⟩ => nomatch z)
  refine lv_aload_n hF.1 hF.2.1 dL_law_321 rfl (hl.2.2 _ (.tail _ (.tail _ (.head _)))) ?_
  refine lb_callV (A := ld_A s) (R1 := zRes [] (N + 100) (some (.int a9))) (rest := [.int a9]) (va_runV (As := []) (b := G.1 189) hF (m_X12_reset l G hG hX [.ref 189] _ _ (by intro v hv; simp at hv; subst hv; rfl) hR1) (al_cwV 0 hF.2.2.2.2 uw_1407 uw_1404 uw_1405 uw_1406 uw_14 rfl rfl hw_X12_reset ⟨by decide, by decide⟩) ⟨am_blind hG, va_recv hK.1 hH1.1 (ci := 12) rfl (am_ws_get (k := 189) rfl), fun U hU hW => ⟨rfl, by rw [hU]; exact hH1, hK.warm hG hW⟩⟩ rfl rfl hl.1 rfl (Nat.le_of_ble_eq_true rfl) dL_law_322 ⟨by show cells + 0 ≤ 601024; omega, by show slots + 0 ≤ 7293034; omega⟩) (fun q h => hA q (Or.inl h)) hS1 hO1 ho ?_
  rintro w σ2 H2 locs2 ⟨hag, hZ2⟩ hH2 hO2 hS2
  obtain ⟨a8, y1, rfl, -⟩ : ∃ a8 : Int32, some (Value.int a9) = some (.int a8) ∧ w = some (.int a8) ∧ σ2 189 0 = 0 := hag.elim id (fun ⟨_, _, _, z, _⟩ => nomatch z)
  have y2 : a9 = a8 := by simpa using y1
  exact lv_icmp_eq hF.1 hF.2.1 dL_law_325 (tgt := 1231) (by decide) (fun _ => (fun T hT X => (K H2 locs2 _ f ls hH2 hO2 hS2 hZ2 hl) T hT (stand_widen X (Nat.le_succ _) (Nat.le_add_right _ _)))) (fun z => absurd y2 z)
theorem k_start (C : ld_C l G o cL b L xs p s m c) (hi : i0 + 4 ≤ L) (hc : cells + 1 ≤ 601024) (hsl : slots + 6 ≤ 7293034) (hN : N + 100 < 2 ^ 26) (hZ : zAll N σ) (hH : am_H G σ H) (hO : al_O o cL f H) (hS : va_S (ld_A s) s.heap H locs) (hl : lv_has ls 7 (ld_l G o b i0)) (K : ld_K l G o cL b p e s m below meth c Q (cells + 1) (slots + 6) i0 (N + 100)) : W p l e room_1 s m #[.ref b] below meth c H locs cells slots Q (F0 m 330 ls []) := by
  obtain ⟨⟨hF, hK, hKl⟩, ⟨hG, hXn, hNc, hX, hst⟩, ⟨ho, hoH, hA⟩, hXs, hbl, hL⟩ := C
  obtain ⟨-, i1, i2, i3⟩ := ld_in hi hL
  have hz0 : zCall [2, 1] sp_X11_start sp_X12_start [.int (xs (nI i0 + 1).toNatClampNeg)] (N + 100) σ := c_start (fun pc => (am_lk_okY (oy_X11_start l G hG hXn hst) pc).1) hZ
  have hz : sp_X11_start [.ref 0, .int (xs (nI i0 + 1).toNatClampNeg)] σ (fun v σ1 => sp_X12_start [.ref 189, .int (xs (nI i0 + 1).toNatClampNeg)] σ1 (zRes [2, 1] (N + 100) v)) := hz0
  refine lv_aload_n hF.1 hF.2.1 dL_law_330 rfl (hl.2.2 _ (.tail _ (.head _))) ?_
  refine lv_aload_n hF.1 hF.2.1 dL_law_331 rfl (hl.2.2 _ (.head _)) ?_
  refine lv_iload hF.1 hF.2.1 dL_law_332 (hl.2.2 _ (.tail _ (.tail _ (.tail _ (.tail _ (.head _)))))) ?_
  refine lv_iconst (v := 1) hF.1 hF.2.1 dL_law_334 rfl ?_
  refine lv_iadd hF.1 hF.2.1 dL_law_335 ?_
  refine va_sld hF.1 hF.2.1 hXs hbl (ld_A0 hbl) hS i1 dL_law_336 ?_
  refine lv_aload_n hF.1 hF.2.1 dL_law_337 rfl (hl.2.2 _ (.tail _ (.tail _ (.tail _ (.head _))))) ?_
  refine lb_callS (A := ld_A s) (mc := 1) (ms := 6) (rest := []) (a := ([.ref (G.1 0), .int (xs (nI i0 + 1).toNatClampNeg), .ref o] : List Value).toArray) (vx_runSX (As := [.ref (G.1 0), .int (xs (nI i0 + 1).toNatClampNeg), .ref o]) hF (w_start l G hG hXn hst hNc ho hoH (xs (nI i0 + 1).toNatClampNeg) σ f _ hz) (lb_cwS 3 hF.2.2.2.2 uw_759 uw_757 uw_758 (hF.2.2.2.2 _ List.mem_cons_self) rfl rfl hd_L_start ⟨by decide, by decide⟩) ⟨al_blind hG, fun U hU hW => ⟨rfl, by rw [hU]; exact hH, hK.warm hG hW, by rw [hU]; exact hO, va_K.moved hW.alike hKl⟩⟩ rfl rfl hl.1 rfl (Nat.le_of_ble_eq_true rfl) dL_law_338 ⟨hc, hsl⟩) hA hS ?_
  intro k u H1 locs1 hq hH1 hO1 hS1
  refine lv_istore hF.1 hF.2.1 dL_law_341 hl (by decide) rfl (fun ls5 (hl5 : lv_has ls5 7 [(5, .int k), (0, .ref b), (1, .ref (G.1 0)), (2, .ref (G.1 189)), (3, .ref o), (4, .int (nI i0))]) => ?_)
  refine lv_aload_n hF.1 hF.2.1 dL_law_343 rfl (hl5.2.2 _ (.tail _ (.tail _ (.tail _ (.head _))))) ?_
  refine lv_aload_n hF.1 hF.2.1 dL_law_344 rfl (hl5.2.2 _ (.tail _ (.head _))) ?_
  refine lv_iload hF.1 hF.2.1 dL_law_345 (hl5.2.2 _ (.tail _ (.tail _ (.tail _ (.tail _ (.tail _ (.head _))))))) ?_
  refine lv_iconst (v := 1) hF.1 hF.2.1 dL_law_347 rfl ?_
  refine lv_iadd hF.1 hF.2.1 dL_law_348 ?_
  refine va_sld hF.1 hF.2.1 hXs hbl (ld_A0 hbl) hS1 i1 dL_law_349 ?_
  refine lb_callV (A := ld_A s) (R1 := zRes [2, 1] (N + 100) u.2.2) (rest := []) (va_runV (As := [.int (xs (nI i0 + 1).toNatClampNeg)]) (b := G.1 189) hF (m_X12_start l G hG hX [.ref 189, .int (xs (nI i0 + 1).toNatClampNeg)] _ _ (by intro v hv; simp at hv; rcases hv with rfl | rfl <;> rfl) hq.1) (al_cwV 1 hF.2.2.2.2 uw_1411 uw_1408 uw_1409 uw_1410 uw_14 rfl rfl hw_X12_start ⟨by decide, by decide⟩) ⟨am_blind hG, va_recv hK.1 hH1.1 (ci := 12) rfl (am_ws_get (k := 189) rfl), fun U hU hW => ⟨rfl, by rw [hU]; exact hH1, hK.warm hG hW⟩⟩ rfl rfl hl5.1 rfl (Nat.le_of_ble_eq_true rfl) dL_law_350 ⟨by show cells + 1 + 0 ≤ 601024; omega, by show slots + 6 + 0 ≤ 7293034; omega⟩) (fun q h => hA q (Or.inl h)) hS1 hO1 ho ?_
  intro w σ2 H2 locs2 hR2 hH2 hO2 hS2
  obtain ⟨hag, hZ2⟩ := hR2
  obtain ⟨et, b9, rfl, hb9⟩ := lb_agree (by decide) (by decide) hq hag
  refine lv_istore hF.1 hF.2.1 dL_law_353 hl5 (by decide) rfl (fun ls6 (hl6 : lv_has ls6 7 [(6, .int b9), (5, .int k), (0, .ref b), (1, .ref (G.1 0)), (2, .ref (G.1 189)), (3, .ref o), (4, .int (nI i0))]) => ?_)
  refine lv_aload_n hF.1 hF.2.1 dL_law_355 rfl (hl6.2.2 _ (.tail _ (.tail _ (.tail _ (.tail _ (.head _)))))) ?_
  refine lb_callV (A := ld_A s) (R1 := fun v σ3 => v = some (.int (σ2 189 0)) ∧ σ3 = σ2) (rest := []) (va_runV (As := []) (b := G.1 189) hF (m_X12_thrown l G hG hX [.ref 189] _ _ (by intro v hv; simp at hv; subst hv; rfl) (lb_thr ⟨rfl, rfl⟩)) (al_cwV 0 hF.2.2.2.2 uw_1250 uw_1247 uw_1248 uw_1249 uw_14 rfl rfl hw_X12_thrown ⟨by decide, by decide⟩) ⟨am_blind hG, va_recv hK.1 hH2.1 (ci := 12) rfl (am_ws_get (k := 189) rfl), fun U hU hW => ⟨rfl, by rw [hU]; exact hH2, hK.warm hG hW⟩⟩ rfl rfl hl6.1 rfl (Nat.le_of_ble_eq_true rfl) dL_law_356 ⟨by show cells + 1 + 0 ≤ 601024; omega, by show slots + 6 + 0 ≤ 7293034; omega⟩) (fun q h => hA q (Or.inl h)) hS2 hO2 ho ?_
  rintro v3 σ3 H3 locs3 ⟨rfl, rfl⟩ hH3 hO3 hS3
  refine lv_iload hF.1 hF.2.1 dL_law_359 (hl6.2.2 _ (.tail _ (.head _))) ?_
  refine lv_icmp_eq hF.1 hF.2.1 dL_law_361 (tgt := 366) (by decide) (fun _ => ?_) (fun z => absurd et z)
  refine lv_iload hF.1 hF.2.1 dL_law_366 (hl6.2.2 _ (.tail _ (.head _))) ?_
  refine lv_if_ne hF.1 hF.2.1 dL_law_368 (tgt := 383) (by decide) (fun _ => lv_goto hF.1 hF.2.1 dL_law_383 (tgt := 1231) (by decide) (K H3 locs3 _ u.2.1 ls6 hH3 hO3 hS3 hZ2 (ld_sub hl6 (fun q hq => List.mem_cons_of_mem _ (List.mem_cons_of_mem _ hq))))) (fun z => ?_)
  refine lv_aload_n hF.1 hF.2.1 dL_law_371 rfl (hl6.2.2 _ (.tail _ (.tail _ (.tail _ (.tail _ (.tail _ (.head _))))))) ?_
  refine lv_iconst (v := 0) hF.1 hF.2.1 dL_law_372 rfl ?_
  refine va_lald (D := G.2.1) (cl := vwCl) (ws := al_ws G o cL _ u.2.1) (tys := [(cL, .long)]) hF.1 hF.2.1 hKl (al_WP hH3 hO3) 0 0 rfl rfl al_in0 dL_law_373 ?_
  refine lv_iload hF.1 hF.2.1 dL_law_374 (hl6.2.2 _ (.head _)) ?_
  refine lv_i2l hF.1 hF.2.1 dL_law_376 rfl ?_
  refine W.lcmp hF.1 hF.2.1 dL_law_377 ?_
  exact lv_if_eq hF.1 hF.2.1 dL_law_378 (tgt := 383) (by decide) (fun _ => lv_goto hF.1 hF.2.1 dL_law_383 (tgt := 1231) (by decide) (K H3 locs3 _ u.2.1 ls6 hH3 hO3 hS3 hZ2 (ld_sub hl6 (fun q hq => List.mem_cons_of_mem _ (List.mem_cons_of_mem _ hq))))) (fun y => absurd ((lg_cmp_eq _ _).mpr (hb9 z)) y)
theorem k_cancel (C : ld_C l G o cL b L xs p s m c) (hi : i0 + 4 ≤ L) (hc : cells + 1 ≤ 601024) (hsl : slots + 6 ≤ 7293034) (hN : N + 100 < 2 ^ 26) (hZ : zAll N σ) (hH : am_H G σ H) (hO : al_O o cL f H) (hS : va_S (ld_A s) s.heap H locs) (hl : lv_has ls 7 (ld_l G o b i0)) (K : ld_K l G o cL b p e s m below meth c Q (cells + 1) (slots + 6) i0 (N + 100)) : W p l e room_1 s m #[.ref b] below meth c H locs cells slots Q (F0 m 386 ls []) := by
  obtain ⟨⟨hF, hK, hKl⟩, ⟨hG, hXn, hNc, hX, hst⟩, ⟨ho, hoH, hA⟩, hXs, hbl, hL⟩ := C
  obtain ⟨-, i1, i2, i3⟩ := ld_in hi hL
  have hz0 : zCall [2] sp_X11_cancel sp_X12_cancel [.int (xs (nI i0 + 1).toNatClampNeg)] (N + 100) σ := c_cancel (fun pc => (am_lk_okY (oy_X11_cancel l G hG hXn hst) pc).1) hZ
  have hz : sp_X11_cancel [.ref 0, .int (xs (nI i0 + 1).toNatClampNeg)] σ (fun v σ1 => sp_X12_cancel [.ref 189, .int (xs (nI i0 + 1).toNatClampNeg)] σ1 (zRes [2] (N + 100) v)) := hz0
  refine lv_aload_n hF.1 hF.2.1 dL_law_386 rfl (hl.2.2 _ (.tail _ (.head _))) ?_
  refine lv_aload_n hF.1 hF.2.1 dL_law_387 rfl (hl.2.2 _ (.head _)) ?_
  refine lv_iload hF.1 hF.2.1 dL_law_388 (hl.2.2 _ (.tail _ (.tail _ (.tail _ (.tail _ (.head _)))))) ?_
  refine lv_iconst (v := 1) hF.1 hF.2.1 dL_law_390 rfl ?_
  refine lv_iadd hF.1 hF.2.1 dL_law_391 ?_
  refine va_sld hF.1 hF.2.1 hXs hbl (ld_A0 hbl) hS i1 dL_law_392 ?_
  refine lv_aload_n hF.1 hF.2.1 dL_law_393 rfl (hl.2.2 _ (.tail _ (.tail _ (.tail _ (.head _))))) ?_
  refine lb_callS (A := ld_A s) (mc := 1) (ms := 6) (rest := []) (a := ([.ref (G.1 0), .int (xs (nI i0 + 1).toNatClampNeg), .ref o] : List Value).toArray) (vx_runSX (As := [.ref (G.1 0), .int (xs (nI i0 + 1).toNatClampNeg), .ref o]) hF (w_cancel l G hG hXn hst hNc ho hoH (xs (nI i0 + 1).toNatClampNeg) σ f _ hz) (lb_cwS 3 hF.2.2.2.2 uw_782 uw_780 uw_781 (hF.2.2.2.2 _ List.mem_cons_self) rfl rfl hd_L_cancel ⟨by decide, by decide⟩) ⟨al_blind hG, fun U hU hW => ⟨rfl, by rw [hU]; exact hH, hK.warm hG hW, by rw [hU]; exact hO, va_K.moved hW.alike hKl⟩⟩ rfl rfl hl.1 rfl (Nat.le_of_ble_eq_true rfl) dL_law_394 ⟨hc, hsl⟩) hA hS ?_
  intro k u H1 locs1 hq hH1 hO1 hS1
  refine lv_istore hF.1 hF.2.1 dL_law_397 hl (by decide) rfl (fun ls5 (hl5 : lv_has ls5 7 [(5, .int k), (0, .ref b), (1, .ref (G.1 0)), (2, .ref (G.1 189)), (3, .ref o), (4, .int (nI i0))]) => ?_)
  refine lv_aload_n hF.1 hF.2.1 dL_law_399 rfl (hl5.2.2 _ (.tail _ (.tail _ (.tail _ (.head _))))) ?_
  refine lv_aload_n hF.1 hF.2.1 dL_law_400 rfl (hl5.2.2 _ (.tail _ (.head _))) ?_
  refine lv_iload hF.1 hF.2.1 dL_law_401 (hl5.2.2 _ (.tail _ (.tail _ (.tail _ (.tail _ (.tail _ (.head _))))))) ?_
  refine lv_iconst (v := 1) hF.1 hF.2.1 dL_law_403 rfl ?_
  refine lv_iadd hF.1 hF.2.1 dL_law_404 ?_
  refine va_sld hF.1 hF.2.1 hXs hbl (ld_A0 hbl) hS1 i1 dL_law_405 ?_
  refine lb_callV (A := ld_A s) (R1 := zRes [2] (N + 100) u.2.2) (rest := []) (va_runV (As := [.int (xs (nI i0 + 1).toNatClampNeg)]) (b := G.1 189) hF (m_X12_cancel l G hG hX [.ref 189, .int (xs (nI i0 + 1).toNatClampNeg)] _ _ (by intro v hv; simp at hv; rcases hv with rfl | rfl <;> rfl) hq.1) (al_cwV 1 hF.2.2.2.2 uw_1435 uw_1432 uw_1433 uw_1434 uw_14 rfl rfl hw_X12_cancel ⟨by decide, by decide⟩) ⟨am_blind hG, va_recv hK.1 hH1.1 (ci := 12) rfl (am_ws_get (k := 189) rfl), fun U hU hW => ⟨rfl, by rw [hU]; exact hH1, hK.warm hG hW⟩⟩ rfl rfl hl5.1 rfl (Nat.le_of_ble_eq_true rfl) dL_law_406 ⟨by show cells + 1 + 0 ≤ 601024; omega, by show slots + 6 + 0 ≤ 7293034; omega⟩) (fun q h => hA q (Or.inl h)) hS1 hO1 ho ?_
  intro w σ2 H2 locs2 hR2 hH2 hO2 hS2
  obtain ⟨hag, hZ2⟩ := hR2
  obtain ⟨et, b9, rfl, hb9⟩ := lb_agree (by decide) (by decide) hq hag
  refine lv_istore hF.1 hF.2.1 dL_law_409 hl5 (by decide) rfl (fun ls6 (hl6 : lv_has ls6 7 [(6, .int b9), (5, .int k), (0, .ref b), (1, .ref (G.1 0)), (2, .ref (G.1 189)), (3, .ref o), (4, .int (nI i0))]) => ?_)
  refine lv_aload_n hF.1 hF.2.1 dL_law_411 rfl (hl6.2.2 _ (.tail _ (.tail _ (.tail _ (.tail _ (.head _)))))) ?_
  refine lb_callV (A := ld_A s) (R1 := fun v σ3 => v = some (.int (σ2 189 0)) ∧ σ3 = σ2) (rest := []) (va_runV (As := []) (b := G.1 189) hF (m_X12_thrown l G hG hX [.ref 189] _ _ (by intro v hv; simp at hv; subst hv; rfl) (lb_thr ⟨rfl, rfl⟩)) (al_cwV 0 hF.2.2.2.2 uw_1250 uw_1247 uw_1248 uw_1249 uw_14 rfl rfl hw_X12_thrown ⟨by decide, by decide⟩) ⟨am_blind hG, va_recv hK.1 hH2.1 (ci := 12) rfl (am_ws_get (k := 189) rfl), fun U hU hW => ⟨rfl, by rw [hU]; exact hH2, hK.warm hG hW⟩⟩ rfl rfl hl6.1 rfl (Nat.le_of_ble_eq_true rfl) dL_law_412 ⟨by show cells + 1 + 0 ≤ 601024; omega, by show slots + 6 + 0 ≤ 7293034; omega⟩) (fun q h => hA q (Or.inl h)) hS2 hO2 ho ?_
  rintro v3 σ3 H3 locs3 ⟨rfl, rfl⟩ hH3 hO3 hS3
  refine lv_iload hF.1 hF.2.1 dL_law_415 (hl6.2.2 _ (.tail _ (.head _))) ?_
  refine lv_icmp_eq hF.1 hF.2.1 dL_law_417 (tgt := 422) (by decide) (fun _ => ?_) (fun z => absurd et z)
  refine lv_iload hF.1 hF.2.1 dL_law_422 (hl6.2.2 _ (.tail _ (.head _))) ?_
  refine lv_if_ne hF.1 hF.2.1 dL_law_424 (tgt := 439) (by decide) (fun _ => lv_goto hF.1 hF.2.1 dL_law_439 (tgt := 1231) (by decide) (K H3 locs3 _ u.2.1 ls6 hH3 hO3 hS3 hZ2 (ld_sub hl6 (fun q hq => List.mem_cons_of_mem _ (List.mem_cons_of_mem _ hq))))) (fun z => ?_)
  refine lv_aload_n hF.1 hF.2.1 dL_law_427 rfl (hl6.2.2 _ (.tail _ (.tail _ (.tail _ (.tail _ (.tail _ (.head _))))))) ?_
  refine lv_iconst (v := 0) hF.1 hF.2.1 dL_law_428 rfl ?_
  refine va_lald (D := G.2.1) (cl := vwCl) (ws := al_ws G o cL _ u.2.1) (tys := [(cL, .long)]) hF.1 hF.2.1 hKl (al_WP hH3 hO3) 0 0 rfl rfl al_in0 dL_law_429 ?_
  refine lv_iload hF.1 hF.2.1 dL_law_430 (hl6.2.2 _ (.head _)) ?_
  refine lv_i2l hF.1 hF.2.1 dL_law_432 rfl ?_
  refine W.lcmp hF.1 hF.2.1 dL_law_433 ?_
  exact lv_if_eq hF.1 hF.2.1 dL_law_434 (tgt := 439) (by decide) (fun _ => lv_goto hF.1 hF.2.1 dL_law_439 (tgt := 1231) (by decide) (K H3 locs3 _ u.2.1 ls6 hH3 hO3 hS3 hZ2 (ld_sub hl6 (fun q hq => List.mem_cons_of_mem _ (List.mem_cons_of_mem _ hq))))) (fun y => absurd ((lg_cmp_eq _ _).mpr (hb9 z)) y)
theorem k_run (C : ld_C l G o cL b L xs p s m c) (hi : i0 + 4 ≤ L) (hc : cells + 1 ≤ 601024) (hsl : slots + 6 ≤ 7293034) (hN : N + 100 < 2 ^ 26) (hZ : zAll N σ) (hH : am_H G σ H) (hO : al_O o cL f H) (hS : va_S (ld_A s) s.heap H locs) (hl : lv_has ls 7 (ld_l G o b i0)) (K : ld_K l G o cL b p e s m below meth c Q (cells + 1) (slots + 6) i0 (N + 100)) : W p l e room_1 s m #[.ref b] below meth c H locs cells slots Q (F0 m 442 ls []) := by
  obtain ⟨⟨hF, hK, hKl⟩, ⟨hG, hXn, hNc, hX, hst⟩, ⟨ho, hoH, hA⟩, hXs, hbl, hL⟩ := C
  obtain ⟨-, i1, i2, i3⟩ := ld_in hi hL
  have hz0 : zCall [0] sp_X11_run sp_X12_run [.int (xs (nI i0 + 1).toNatClampNeg)] (N + 100) σ := c_run (fun pc => (am_lk_okY (oy_X11_run l G hG hXn hst) pc).1) hZ (by omega)
  have hz : sp_X11_run [.ref 0, .int (xs (nI i0 + 1).toNatClampNeg)] σ (fun v σ1 => sp_X12_run [.ref 189, .int (xs (nI i0 + 1).toNatClampNeg)] σ1 (zRes [0] (N + 100) v)) := hz0
  refine lv_aload_n hF.1 hF.2.1 dL_law_442 rfl (hl.2.2 _ (.tail _ (.head _))) ?_
  refine lv_aload_n hF.1 hF.2.1 dL_law_443 rfl (hl.2.2 _ (.head _)) ?_
  refine lv_iload hF.1 hF.2.1 dL_law_444 (hl.2.2 _ (.tail _ (.tail _ (.tail _ (.tail _ (.head _)))))) ?_
  refine lv_iconst (v := 1) hF.1 hF.2.1 dL_law_446 rfl ?_
  refine lv_iadd hF.1 hF.2.1 dL_law_447 ?_
  refine va_sld hF.1 hF.2.1 hXs hbl (ld_A0 hbl) hS i1 dL_law_448 ?_
  refine lv_aload_n hF.1 hF.2.1 dL_law_449 rfl (hl.2.2 _ (.tail _ (.tail _ (.tail _ (.head _))))) ?_
  refine lb_callS (A := ld_A s) (mc := 1) (ms := 6) (rest := []) (a := ([.ref (G.1 0), .int (xs (nI i0 + 1).toNatClampNeg), .ref o] : List Value).toArray) (vx_runSX (As := [.ref (G.1 0), .int (xs (nI i0 + 1).toNatClampNeg), .ref o]) hF (w_run l G hG hXn hst hNc ho hoH (xs (nI i0 + 1).toNatClampNeg) σ f _ hz) (lb_cwS 3 hF.2.2.2.2 uw_827 uw_825 uw_826 (hF.2.2.2.2 _ List.mem_cons_self) rfl rfl hd_L_run ⟨by decide, by decide⟩) ⟨al_blind hG, fun U hU hW => ⟨rfl, by rw [hU]; exact hH, hK.warm hG hW, by rw [hU]; exact hO, va_K.moved hW.alike hKl⟩⟩ rfl rfl hl.1 rfl (Nat.le_of_ble_eq_true rfl) dL_law_450 ⟨hc, hsl⟩) hA hS ?_
  intro k u H1 locs1 hq hH1 hO1 hS1
  refine lv_istore hF.1 hF.2.1 dL_law_453 hl (by decide) rfl (fun ls5 (hl5 : lv_has ls5 7 [(5, .int k), (0, .ref b), (1, .ref (G.1 0)), (2, .ref (G.1 189)), (3, .ref o), (4, .int (nI i0))]) => ?_)
  refine lv_aload_n hF.1 hF.2.1 dL_law_455 rfl (hl5.2.2 _ (.tail _ (.tail _ (.tail _ (.head _))))) ?_
  refine lv_aload_n hF.1 hF.2.1 dL_law_456 rfl (hl5.2.2 _ (.tail _ (.head _))) ?_
  refine lv_iload hF.1 hF.2.1 dL_law_457 (hl5.2.2 _ (.tail _ (.tail _ (.tail _ (.tail _ (.tail _ (.head _))))))) ?_
  refine lv_iconst (v := 1) hF.1 hF.2.1 dL_law_459 rfl ?_
  refine lv_iadd hF.1 hF.2.1 dL_law_460 ?_
  refine va_sld hF.1 hF.2.1 hXs hbl (ld_A0 hbl) hS1 i1 dL_law_461 ?_
  refine lb_callV (A := ld_A s) (R1 := zRes [0] (N + 100) u.2.2) (rest := []) (va_runV (As := [.int (xs (nI i0 + 1).toNatClampNeg)]) (b := G.1 189) hF (m_X12_run l G hG hX [.ref 189, .int (xs (nI i0 + 1).toNatClampNeg)] _ _ (by intro v hv; simp at hv; rcases hv with rfl | rfl <;> rfl) hq.1) (al_cwV 1 hF.2.2.2.2 uw_1447 uw_1444 uw_1445 uw_1446 uw_14 rfl rfl hw_X12_run ⟨by decide, by decide⟩) ⟨am_blind hG, va_recv hK.1 hH1.1 (ci := 12) rfl (am_ws_get (k := 189) rfl), fun U hU hW => ⟨rfl, by rw [hU]; exact hH1, hK.warm hG hW⟩⟩ rfl rfl hl5.1 rfl (Nat.le_of_ble_eq_true rfl) dL_law_462 ⟨by show cells + 1 + 0 ≤ 601024; omega, by show slots + 6 + 0 ≤ 7293034; omega⟩) (fun q h => hA q (Or.inl h)) hS1 hO1 ho ?_
  intro w σ2 H2 locs2 hR2 hH2 hO2 hS2
  obtain ⟨hag, hZ2⟩ := hR2
  obtain ⟨et, b9, rfl, hb9⟩ := lb_agree (by decide) (by decide) hq hag
  refine lv_istore hF.1 hF.2.1 dL_law_465 hl5 (by decide) rfl (fun ls6 (hl6 : lv_has ls6 7 [(6, .int b9), (5, .int k), (0, .ref b), (1, .ref (G.1 0)), (2, .ref (G.1 189)), (3, .ref o), (4, .int (nI i0))]) => ?_)
  refine lv_aload_n hF.1 hF.2.1 dL_law_467 rfl (hl6.2.2 _ (.tail _ (.tail _ (.tail _ (.tail _ (.head _)))))) ?_
  refine lb_callV (A := ld_A s) (R1 := fun v σ3 => v = some (.int (σ2 189 0)) ∧ σ3 = σ2) (rest := []) (va_runV (As := []) (b := G.1 189) hF (m_X12_thrown l G hG hX [.ref 189] _ _ (by intro v hv; simp at hv; subst hv; rfl) (lb_thr ⟨rfl, rfl⟩)) (al_cwV 0 hF.2.2.2.2 uw_1250 uw_1247 uw_1248 uw_1249 uw_14 rfl rfl hw_X12_thrown ⟨by decide, by decide⟩) ⟨am_blind hG, va_recv hK.1 hH2.1 (ci := 12) rfl (am_ws_get (k := 189) rfl), fun U hU hW => ⟨rfl, by rw [hU]; exact hH2, hK.warm hG hW⟩⟩ rfl rfl hl6.1 rfl (Nat.le_of_ble_eq_true rfl) dL_law_468 ⟨by show cells + 1 + 0 ≤ 601024; omega, by show slots + 6 + 0 ≤ 7293034; omega⟩) (fun q h => hA q (Or.inl h)) hS2 hO2 ho ?_
  rintro v3 σ3 H3 locs3 ⟨rfl, rfl⟩ hH3 hO3 hS3
  refine lv_iload hF.1 hF.2.1 dL_law_471 (hl6.2.2 _ (.tail _ (.head _))) ?_
  refine lv_icmp_eq hF.1 hF.2.1 dL_law_473 (tgt := 478) (by decide) (fun _ => ?_) (fun z => absurd et z)
  refine lv_iload hF.1 hF.2.1 dL_law_478 (hl6.2.2 _ (.tail _ (.head _))) ?_
  refine lv_if_ne hF.1 hF.2.1 dL_law_480 (tgt := 495) (by decide) (fun _ => lv_goto hF.1 hF.2.1 dL_law_495 (tgt := 1231) (by decide) (K H3 locs3 _ u.2.1 ls6 hH3 hO3 hS3 hZ2 (ld_sub hl6 (fun q hq => List.mem_cons_of_mem _ (List.mem_cons_of_mem _ hq))))) (fun z => ?_)
  refine lv_aload_n hF.1 hF.2.1 dL_law_483 rfl (hl6.2.2 _ (.tail _ (.tail _ (.tail _ (.tail _ (.tail _ (.head _))))))) ?_
  refine lv_iconst (v := 0) hF.1 hF.2.1 dL_law_484 rfl ?_
  refine va_lald (D := G.2.1) (cl := vwCl) (ws := al_ws G o cL _ u.2.1) (tys := [(cL, .long)]) hF.1 hF.2.1 hKl (al_WP hH3 hO3) 0 0 rfl rfl al_in0 dL_law_485 ?_
  refine lv_iload hF.1 hF.2.1 dL_law_486 (hl6.2.2 _ (.head _)) ?_
  refine lv_i2l hF.1 hF.2.1 dL_law_488 rfl ?_
  refine W.lcmp hF.1 hF.2.1 dL_law_489 ?_
  exact lv_if_eq hF.1 hF.2.1 dL_law_490 (tgt := 495) (by decide) (fun _ => lv_goto hF.1 hF.2.1 dL_law_495 (tgt := 1231) (by decide) (K H3 locs3 _ u.2.1 ls6 hH3 hO3 hS3 hZ2 (ld_sub hl6 (fun q hq => List.mem_cons_of_mem _ (List.mem_cons_of_mem _ hq))))) (fun y => absurd ((lg_cmp_eq _ _).mpr (hb9 z)) y)
theorem k_next (C : ld_C l G o cL b L xs p s m c) (hi : i0 + 4 ≤ L) (hc : cells + 1 ≤ 601024) (hsl : slots + 6 ≤ 7293034) (hN : N + 100 < 2 ^ 26) (hZ : zAll N σ) (hH : am_H G σ H) (hO : al_O o cL f H) (hS : va_S (ld_A s) s.heap H locs) (hl : lv_has ls 7 (ld_l G o b i0)) (K : ld_K l G o cL b p e s m below meth c Q (cells + 1) (slots + 6) i0 (N + 100)) : W p l e room_1 s m #[.ref b] below meth c H locs cells slots Q (F0 m 498 ls []) := by
  obtain ⟨⟨hF, hK, hKl⟩, ⟨hG, hXn, hNc, hX, hst⟩, ⟨ho, hoH, hA⟩, hXs, hbl, hL⟩ := C
  obtain ⟨-, i1, i2, i3⟩ := ld_in hi hL
  have hz := e_X11_next (c_next (fun pc => (am_lk_ok (ok_X11_next l G hG) pc).1) hZ (by omega))
  refine lv_aload_n hF.1 hF.2.1 dL_law_498 rfl (hl.2.2 _ (.tail _ (.head _))) ?_
  refine lb_callV (A := ld_A s) (R1 := fun v σ1 => sp_X12_next [.ref 189] σ1 (zRes [] (N + 100) v) ∧ al_T [] v) (rest := []) (va_runV (As := []) (b := G.1 0) hF (m_X11_next l G hG [.ref 0] _ _ (by intro v hv; simp at hv; subst hv; rfl) hz) (al_cwV 0 hF.2.2.2.2 uw_450 uw_447 uw_448 uw_449 uw_1 rfl rfl hw_X11_next ⟨by decide, by decide⟩) ⟨am_blind hG, va_recv hK.1 hH.1 (ci := 11) rfl (am_ws_get (k := 0) rfl), fun U hU hW => ⟨rfl, by rw [hU]; exact hH, hK.warm hG hW⟩⟩ rfl rfl hl.1 rfl (Nat.le_of_ble_eq_true rfl) dL_law_499 ⟨by show cells + 0 ≤ 601024; omega, by show slots + 0 ≤ 7293034; omega⟩) (fun q h => hA q (Or.inl h)) hS hO ho ?_
  rintro v σ1 H1 locs1 ⟨hR1, hT1⟩ hH1 hO1 hS1
  obtain ⟨a9, rfl⟩ : ∃ a9 : Int32, v = some (.int a9) := hT1.elim id (fun ⟨_, _, z, _⟩ => nomatch z)
  refine lv_aload_n hF.1 hF.2.1 dL_law_502 rfl (hl.2.2 _ (.tail _ (.tail _ (.head _)))) ?_
  refine lb_callV (A := ld_A s) (R1 := zRes [] (N + 100) (some (.int a9))) (rest := [.int a9]) (va_runV (As := []) (b := G.1 189) hF (m_X12_next l G hG hX [.ref 189] _ _ (by intro v hv; simp at hv; subst hv; rfl) hR1) (al_cwV 0 hF.2.2.2.2 uw_1578 uw_1575 uw_1576 uw_1577 uw_14 rfl rfl hw_X12_next ⟨by decide, by decide⟩) ⟨am_blind hG, va_recv hK.1 hH1.1 (ci := 12) rfl (am_ws_get (k := 189) rfl), fun U hU hW => ⟨rfl, by rw [hU]; exact hH1, hK.warm hG hW⟩⟩ rfl rfl hl.1 rfl (Nat.le_of_ble_eq_true rfl) dL_law_503 ⟨by show cells + 0 ≤ 601024; omega, by show slots + 0 ≤ 7293034; omega⟩) (fun q h => hA q (Or.inl h)) hS1 hO1 ho ?_
  rintro w σ2 H2 locs2 ⟨hag, hZ2⟩ hH2 hO2 hS2
  obtain ⟨a8, y1, rfl, -⟩ : ∃ a8 : Int32, some (Value.int a9) = some (.int a8) ∧ w = some (.int a8) ∧ σ2 189 0 = 0 := hag.elim id (fun ⟨_, _, _, z, _⟩ => nomatch z)
  have y2 : a9 = a8 := by simpa using y1
  exact lv_icmp_eq hF.1 hF.2.1 dL_law_506 (tgt := 1231) (by decide) (fun _ => (fun T hT X => (K H2 locs2 _ f ls hH2 hO2 hS2 hZ2 hl) T hT (stand_widen X (Nat.le_succ _) (Nat.le_add_right _ _)))) (fun z => absurd y2 z)
theorem k_task (C : ld_C l G o cL b L xs p s m c) (hi : i0 + 4 ≤ L) (hc : cells + 1 ≤ 601024) (hsl : slots + 6 ≤ 7293034) (hN : N + 100 < 2 ^ 26) (hZ : zAll N σ) (hH : am_H G σ H) (hO : al_O o cL f H) (hS : va_S (ld_A s) s.heap H locs) (hl : lv_has ls 7 (ld_l G o b i0)) (K : ld_K l G o cL b p e s m below meth c Q (cells + 1) (slots + 6) i0 (N + 100)) : W p l e room_1 s m #[.ref b] below meth c H locs cells slots Q (F0 m 511 ls []) := by
  obtain ⟨⟨hF, hK, hKl⟩, ⟨hG, hXn, hNc, hX, hst⟩, ⟨ho, hoH, hA⟩, hXs, hbl, hL⟩ := C
  obtain ⟨-, i1, i2, i3⟩ := ld_in hi hL
  have hz0 : zCall [2, 0] sp_X11_task sp_X12_task_ [.int (xs (nI i0 + 1).toNatClampNeg), .int (xs (nI i0 + 2).toNatClampNeg)] (N + 100) σ := c_task (fun pc => (am_lk_okY (oy_X11_task l G hG hXn hst) pc).1) hZ
  have hz : sp_X11_task [.ref 0, .int (xs (nI i0 + 1).toNatClampNeg), .int (xs (nI i0 + 2).toNatClampNeg)] σ (fun v σ1 => sp_X12_task_ [.ref 189, .int (xs (nI i0 + 1).toNatClampNeg), .int (xs (nI i0 + 2).toNatClampNeg)] σ1 (zRes [2, 0] (N + 100) v)) := hz0
  refine lv_aload_n hF.1 hF.2.1 dL_law_511 rfl (hl.2.2 _ (.tail _ (.head _))) ?_
  refine lv_aload_n hF.1 hF.2.1 dL_law_512 rfl (hl.2.2 _ (.head _)) ?_
  refine lv_iload hF.1 hF.2.1 dL_law_513 (hl.2.2 _ (.tail _ (.tail _ (.tail _ (.tail _ (.head _)))))) ?_
  refine lv_iconst (v := 1) hF.1 hF.2.1 dL_law_515 rfl ?_
  refine lv_iadd hF.1 hF.2.1 dL_law_516 ?_
  refine va_sld hF.1 hF.2.1 hXs hbl (ld_A0 hbl) hS i1 dL_law_517 ?_
  refine lv_aload_n hF.1 hF.2.1 dL_law_518 rfl (hl.2.2 _ (.head _)) ?_
  refine lv_iload hF.1 hF.2.1 dL_law_519 (hl.2.2 _ (.tail _ (.tail _ (.tail _ (.tail _ (.head _)))))) ?_
  refine lv_iconst (v := 2) hF.1 hF.2.1 dL_law_521 rfl ?_
  refine lv_iadd hF.1 hF.2.1 dL_law_522 ?_
  refine va_sld hF.1 hF.2.1 hXs hbl (ld_A0 hbl) hS i2 dL_law_523 ?_
  refine lv_aload_n hF.1 hF.2.1 dL_law_524 rfl (hl.2.2 _ (.tail _ (.tail _ (.tail _ (.head _))))) ?_
  refine lb_callS (A := ld_A s) (mc := 1) (ms := 6) (rest := []) (a := ([.ref (G.1 0), .int (xs (nI i0 + 1).toNatClampNeg), .int (xs (nI i0 + 2).toNatClampNeg), .ref o] : List Value).toArray) (vx_runSX (As := [.ref (G.1 0), .int (xs (nI i0 + 1).toNatClampNeg), .int (xs (nI i0 + 2).toNatClampNeg), .ref o]) hF (w_task l G hG hXn hst hNc ho hoH (xs (nI i0 + 1).toNatClampNeg) (xs (nI i0 + 2).toNatClampNeg) σ f _ hz) (lb_cwS 4 hF.2.2.2.2 uw_1060 uw_1058 uw_1059 (hF.2.2.2.2 _ List.mem_cons_self) rfl rfl hd_L_task ⟨by decide, by decide⟩) ⟨al_blind hG, fun U hU hW => ⟨rfl, by rw [hU]; exact hH, hK.warm hG hW, by rw [hU]; exact hO, va_K.moved hW.alike hKl⟩⟩ rfl rfl hl.1 rfl (Nat.le_of_ble_eq_true rfl) dL_law_525 ⟨hc, hsl⟩) hA hS ?_
  intro k u H1 locs1 hq hH1 hO1 hS1
  refine lv_istore hF.1 hF.2.1 dL_law_528 hl (by decide) rfl (fun ls5 (hl5 : lv_has ls5 7 [(5, .int k), (0, .ref b), (1, .ref (G.1 0)), (2, .ref (G.1 189)), (3, .ref o), (4, .int (nI i0))]) => ?_)
  refine lv_aload_n hF.1 hF.2.1 dL_law_530 rfl (hl5.2.2 _ (.tail _ (.tail _ (.tail _ (.head _))))) ?_
  refine lv_aload_n hF.1 hF.2.1 dL_law_531 rfl (hl5.2.2 _ (.tail _ (.head _))) ?_
  refine lv_iload hF.1 hF.2.1 dL_law_532 (hl5.2.2 _ (.tail _ (.tail _ (.tail _ (.tail _ (.tail _ (.head _))))))) ?_
  refine lv_iconst (v := 1) hF.1 hF.2.1 dL_law_534 rfl ?_
  refine lv_iadd hF.1 hF.2.1 dL_law_535 ?_
  refine va_sld hF.1 hF.2.1 hXs hbl (ld_A0 hbl) hS1 i1 dL_law_536 ?_
  refine lv_aload_n hF.1 hF.2.1 dL_law_537 rfl (hl5.2.2 _ (.tail _ (.head _))) ?_
  refine lv_iload hF.1 hF.2.1 dL_law_538 (hl5.2.2 _ (.tail _ (.tail _ (.tail _ (.tail _ (.tail _ (.head _))))))) ?_
  refine lv_iconst (v := 2) hF.1 hF.2.1 dL_law_540 rfl ?_
  refine lv_iadd hF.1 hF.2.1 dL_law_541 ?_
  refine va_sld hF.1 hF.2.1 hXs hbl (ld_A0 hbl) hS1 i2 dL_law_542 ?_
  refine lb_callV (A := ld_A s) (R1 := zRes [2, 0] (N + 100) u.2.2) (rest := []) (va_runV (As := [.int (xs (nI i0 + 1).toNatClampNeg), .int (xs (nI i0 + 2).toNatClampNeg)]) (b := G.1 189) hF (m_X12_task_ l G hG hX [.ref 189, .int (xs (nI i0 + 1).toNatClampNeg), .int (xs (nI i0 + 2).toNatClampNeg)] _ _ (by intro v hv; simp at hv; rcases hv with rfl | rfl | rfl <;> rfl) hq.1) (al_cwV 2 hF.2.2.2.2 uw_1582 uw_1579 uw_1580 uw_1581 uw_14 rfl rfl hw_X12_task_ ⟨by decide, by decide⟩) ⟨am_blind hG, va_recv hK.1 hH1.1 (ci := 12) rfl (am_ws_get (k := 189) rfl), fun U hU hW => ⟨rfl, by rw [hU]; exact hH1, hK.warm hG hW⟩⟩ rfl rfl hl5.1 rfl (Nat.le_of_ble_eq_true rfl) dL_law_543 ⟨by show cells + 1 + 0 ≤ 601024; omega, by show slots + 6 + 0 ≤ 7293034; omega⟩) (fun q h => hA q (Or.inl h)) hS1 hO1 ho ?_
  intro w σ2 H2 locs2 hR2 hH2 hO2 hS2
  obtain ⟨hag, hZ2⟩ := hR2
  obtain ⟨et, b9, rfl, hb9⟩ := lb_agree (by decide) (by decide) hq hag
  refine lv_istore hF.1 hF.2.1 dL_law_546 hl5 (by decide) rfl (fun ls6 (hl6 : lv_has ls6 7 [(6, .int b9), (5, .int k), (0, .ref b), (1, .ref (G.1 0)), (2, .ref (G.1 189)), (3, .ref o), (4, .int (nI i0))]) => ?_)
  refine lv_aload_n hF.1 hF.2.1 dL_law_548 rfl (hl6.2.2 _ (.tail _ (.tail _ (.tail _ (.tail _ (.head _)))))) ?_
  refine lb_callV (A := ld_A s) (R1 := fun v σ3 => v = some (.int (σ2 189 0)) ∧ σ3 = σ2) (rest := []) (va_runV (As := []) (b := G.1 189) hF (m_X12_thrown l G hG hX [.ref 189] _ _ (by intro v hv; simp at hv; subst hv; rfl) (lb_thr ⟨rfl, rfl⟩)) (al_cwV 0 hF.2.2.2.2 uw_1250 uw_1247 uw_1248 uw_1249 uw_14 rfl rfl hw_X12_thrown ⟨by decide, by decide⟩) ⟨am_blind hG, va_recv hK.1 hH2.1 (ci := 12) rfl (am_ws_get (k := 189) rfl), fun U hU hW => ⟨rfl, by rw [hU]; exact hH2, hK.warm hG hW⟩⟩ rfl rfl hl6.1 rfl (Nat.le_of_ble_eq_true rfl) dL_law_549 ⟨by show cells + 1 + 0 ≤ 601024; omega, by show slots + 6 + 0 ≤ 7293034; omega⟩) (fun q h => hA q (Or.inl h)) hS2 hO2 ho ?_
  rintro v3 σ3 H3 locs3 ⟨rfl, rfl⟩ hH3 hO3 hS3
  refine lv_iload hF.1 hF.2.1 dL_law_552 (hl6.2.2 _ (.tail _ (.head _))) ?_
  refine lv_icmp_eq hF.1 hF.2.1 dL_law_554 (tgt := 559) (by decide) (fun _ => ?_) (fun z => absurd et z)
  refine lv_iload hF.1 hF.2.1 dL_law_559 (hl6.2.2 _ (.tail _ (.head _))) ?_
  refine lv_if_ne hF.1 hF.2.1 dL_law_561 (tgt := 576) (by decide) (fun _ => lv_goto hF.1 hF.2.1 dL_law_576 (tgt := 1231) (by decide) (K H3 locs3 _ u.2.1 ls6 hH3 hO3 hS3 hZ2 (ld_sub hl6 (fun q hq => List.mem_cons_of_mem _ (List.mem_cons_of_mem _ hq))))) (fun z => ?_)
  refine lv_aload_n hF.1 hF.2.1 dL_law_564 rfl (hl6.2.2 _ (.tail _ (.tail _ (.tail _ (.tail _ (.tail _ (.head _))))))) ?_
  refine lv_iconst (v := 0) hF.1 hF.2.1 dL_law_565 rfl ?_
  refine va_lald (D := G.2.1) (cl := vwCl) (ws := al_ws G o cL _ u.2.1) (tys := [(cL, .long)]) hF.1 hF.2.1 hKl (al_WP hH3 hO3) 0 0 rfl rfl al_in0 dL_law_566 ?_
  refine lv_iload hF.1 hF.2.1 dL_law_567 (hl6.2.2 _ (.head _)) ?_
  refine lv_i2l hF.1 hF.2.1 dL_law_569 rfl ?_
  refine W.lcmp hF.1 hF.2.1 dL_law_570 ?_
  exact lv_if_eq hF.1 hF.2.1 dL_law_571 (tgt := 576) (by decide) (fun _ => lv_goto hF.1 hF.2.1 dL_law_576 (tgt := 1231) (by decide) (K H3 locs3 _ u.2.1 ls6 hH3 hO3 hS3 hZ2 (ld_sub hl6 (fun q hq => List.mem_cons_of_mem _ (List.mem_cons_of_mem _ hq))))) (fun y => absurd ((lg_cmp_eq _ _).mpr (hb9 z)) y)
theorem k_scope (C : ld_C l G o cL b L xs p s m c) (hi : i0 + 4 ≤ L) (hc : cells + 1 ≤ 601024) (hsl : slots + 6 ≤ 7293034) (hN : N + 100 < 2 ^ 26) (hZ : zAll N σ) (hH : am_H G σ H) (hO : al_O o cL f H) (hS : va_S (ld_A s) s.heap H locs) (hl : lv_has ls 7 (ld_l G o b i0)) (K : ld_K l G o cL b p e s m below meth c Q (cells + 1) (slots + 6) i0 (N + 100)) : W p l e room_1 s m #[.ref b] below meth c H locs cells slots Q (F0 m 579 ls []) := by
  obtain ⟨⟨hF, hK, hKl⟩, ⟨hG, hXn, hNc, hX, hst⟩, ⟨ho, hoH, hA⟩, hXs, hbl, hL⟩ := C
  obtain ⟨-, i1, i2, i3⟩ := ld_in hi hL
  have hz0 : zCall [2, 0] sp_X11_scope sp_X12_scope_ [.int (xs (nI i0 + 1).toNatClampNeg), .int (xs (nI i0 + 2).toNatClampNeg)] (N + 100) σ := c_scope (fun pc => (am_lk_okY (oy_X11_scope l G hG hXn hst) pc).1) hZ
  have hz : sp_X11_scope [.ref 0, .int (xs (nI i0 + 1).toNatClampNeg), .int (xs (nI i0 + 2).toNatClampNeg)] σ (fun v σ1 => sp_X12_scope_ [.ref 189, .int (xs (nI i0 + 1).toNatClampNeg), .int (xs (nI i0 + 2).toNatClampNeg)] σ1 (zRes [2, 0] (N + 100) v)) := hz0
  refine lv_aload_n hF.1 hF.2.1 dL_law_579 rfl (hl.2.2 _ (.tail _ (.head _))) ?_
  refine lv_aload_n hF.1 hF.2.1 dL_law_580 rfl (hl.2.2 _ (.head _)) ?_
  refine lv_iload hF.1 hF.2.1 dL_law_581 (hl.2.2 _ (.tail _ (.tail _ (.tail _ (.tail _ (.head _)))))) ?_
  refine lv_iconst (v := 1) hF.1 hF.2.1 dL_law_583 rfl ?_
  refine lv_iadd hF.1 hF.2.1 dL_law_584 ?_
  refine va_sld hF.1 hF.2.1 hXs hbl (ld_A0 hbl) hS i1 dL_law_585 ?_
  refine lv_aload_n hF.1 hF.2.1 dL_law_586 rfl (hl.2.2 _ (.head _)) ?_
  refine lv_iload hF.1 hF.2.1 dL_law_587 (hl.2.2 _ (.tail _ (.tail _ (.tail _ (.tail _ (.head _)))))) ?_
  refine lv_iconst (v := 2) hF.1 hF.2.1 dL_law_589 rfl ?_
  refine lv_iadd hF.1 hF.2.1 dL_law_590 ?_
  refine va_sld hF.1 hF.2.1 hXs hbl (ld_A0 hbl) hS i2 dL_law_591 ?_
  refine lv_aload_n hF.1 hF.2.1 dL_law_592 rfl (hl.2.2 _ (.tail _ (.tail _ (.tail _ (.head _))))) ?_
  refine lb_callS (A := ld_A s) (mc := 1) (ms := 6) (rest := []) (a := ([.ref (G.1 0), .int (xs (nI i0 + 1).toNatClampNeg), .int (xs (nI i0 + 2).toNatClampNeg), .ref o] : List Value).toArray) (vx_runSX (As := [.ref (G.1 0), .int (xs (nI i0 + 1).toNatClampNeg), .int (xs (nI i0 + 2).toNatClampNeg), .ref o]) hF (w_scope l G hG hXn hst hNc ho hoH (xs (nI i0 + 1).toNatClampNeg) (xs (nI i0 + 2).toNatClampNeg) σ f _ hz) (lb_cwS 4 hF.2.2.2.2 uw_1073 uw_1071 uw_1072 (hF.2.2.2.2 _ List.mem_cons_self) rfl rfl hd_L_scope ⟨by decide, by decide⟩) ⟨al_blind hG, fun U hU hW => ⟨rfl, by rw [hU]; exact hH, hK.warm hG hW, by rw [hU]; exact hO, va_K.moved hW.alike hKl⟩⟩ rfl rfl hl.1 rfl (Nat.le_of_ble_eq_true rfl) dL_law_593 ⟨hc, hsl⟩) hA hS ?_
  intro k u H1 locs1 hq hH1 hO1 hS1
  refine lv_istore hF.1 hF.2.1 dL_law_596 hl (by decide) rfl (fun ls5 (hl5 : lv_has ls5 7 [(5, .int k), (0, .ref b), (1, .ref (G.1 0)), (2, .ref (G.1 189)), (3, .ref o), (4, .int (nI i0))]) => ?_)
  refine lv_aload_n hF.1 hF.2.1 dL_law_598 rfl (hl5.2.2 _ (.tail _ (.tail _ (.tail _ (.head _))))) ?_
  refine lv_aload_n hF.1 hF.2.1 dL_law_599 rfl (hl5.2.2 _ (.tail _ (.head _))) ?_
  refine lv_iload hF.1 hF.2.1 dL_law_600 (hl5.2.2 _ (.tail _ (.tail _ (.tail _ (.tail _ (.tail _ (.head _))))))) ?_
  refine lv_iconst (v := 1) hF.1 hF.2.1 dL_law_602 rfl ?_
  refine lv_iadd hF.1 hF.2.1 dL_law_603 ?_
  refine va_sld hF.1 hF.2.1 hXs hbl (ld_A0 hbl) hS1 i1 dL_law_604 ?_
  refine lv_aload_n hF.1 hF.2.1 dL_law_605 rfl (hl5.2.2 _ (.tail _ (.head _))) ?_
  refine lv_iload hF.1 hF.2.1 dL_law_606 (hl5.2.2 _ (.tail _ (.tail _ (.tail _ (.tail _ (.tail _ (.head _))))))) ?_
  refine lv_iconst (v := 2) hF.1 hF.2.1 dL_law_608 rfl ?_
  refine lv_iadd hF.1 hF.2.1 dL_law_609 ?_
  refine va_sld hF.1 hF.2.1 hXs hbl (ld_A0 hbl) hS1 i2 dL_law_610 ?_
  refine lb_callV (A := ld_A s) (R1 := zRes [2, 0] (N + 100) u.2.2) (rest := []) (va_runV (As := [.int (xs (nI i0 + 1).toNatClampNeg), .int (xs (nI i0 + 2).toNatClampNeg)]) (b := G.1 189) hF (m_X12_scope_ l G hG hX [.ref 189, .int (xs (nI i0 + 1).toNatClampNeg), .int (xs (nI i0 + 2).toNatClampNeg)] _ _ (by intro v hv; simp at hv; rcases hv with rfl | rfl | rfl <;> rfl) hq.1) (al_cwV 2 hF.2.2.2.2 uw_1586 uw_1583 uw_1584 uw_1585 uw_14 rfl rfl hw_X12_scope_ ⟨by decide, by decide⟩) ⟨am_blind hG, va_recv hK.1 hH1.1 (ci := 12) rfl (am_ws_get (k := 189) rfl), fun U hU hW => ⟨rfl, by rw [hU]; exact hH1, hK.warm hG hW⟩⟩ rfl rfl hl5.1 rfl (Nat.le_of_ble_eq_true rfl) dL_law_611 ⟨by show cells + 1 + 0 ≤ 601024; omega, by show slots + 6 + 0 ≤ 7293034; omega⟩) (fun q h => hA q (Or.inl h)) hS1 hO1 ho ?_
  intro w σ2 H2 locs2 hR2 hH2 hO2 hS2
  obtain ⟨hag, hZ2⟩ := hR2
  obtain ⟨et, b9, rfl, hb9⟩ := lb_agree (by decide) (by decide) hq hag
  refine lv_istore hF.1 hF.2.1 dL_law_614 hl5 (by decide) rfl (fun ls6 (hl6 : lv_has ls6 7 [(6, .int b9), (5, .int k), (0, .ref b), (1, .ref (G.1 0)), (2, .ref (G.1 189)), (3, .ref o), (4, .int (nI i0))]) => ?_)
  refine lv_aload_n hF.1 hF.2.1 dL_law_616 rfl (hl6.2.2 _ (.tail _ (.tail _ (.tail _ (.tail _ (.head _)))))) ?_
  refine lb_callV (A := ld_A s) (R1 := fun v σ3 => v = some (.int (σ2 189 0)) ∧ σ3 = σ2) (rest := []) (va_runV (As := []) (b := G.1 189) hF (m_X12_thrown l G hG hX [.ref 189] _ _ (by intro v hv; simp at hv; subst hv; rfl) (lb_thr ⟨rfl, rfl⟩)) (al_cwV 0 hF.2.2.2.2 uw_1250 uw_1247 uw_1248 uw_1249 uw_14 rfl rfl hw_X12_thrown ⟨by decide, by decide⟩) ⟨am_blind hG, va_recv hK.1 hH2.1 (ci := 12) rfl (am_ws_get (k := 189) rfl), fun U hU hW => ⟨rfl, by rw [hU]; exact hH2, hK.warm hG hW⟩⟩ rfl rfl hl6.1 rfl (Nat.le_of_ble_eq_true rfl) dL_law_617 ⟨by show cells + 1 + 0 ≤ 601024; omega, by show slots + 6 + 0 ≤ 7293034; omega⟩) (fun q h => hA q (Or.inl h)) hS2 hO2 ho ?_
  rintro v3 σ3 H3 locs3 ⟨rfl, rfl⟩ hH3 hO3 hS3
  refine lv_iload hF.1 hF.2.1 dL_law_620 (hl6.2.2 _ (.tail _ (.head _))) ?_
  refine lv_icmp_eq hF.1 hF.2.1 dL_law_622 (tgt := 627) (by decide) (fun _ => ?_) (fun z => absurd et z)
  refine lv_iload hF.1 hF.2.1 dL_law_627 (hl6.2.2 _ (.tail _ (.head _))) ?_
  refine lv_if_ne hF.1 hF.2.1 dL_law_629 (tgt := 644) (by decide) (fun _ => lv_goto hF.1 hF.2.1 dL_law_644 (tgt := 1231) (by decide) (K H3 locs3 _ u.2.1 ls6 hH3 hO3 hS3 hZ2 (ld_sub hl6 (fun q hq => List.mem_cons_of_mem _ (List.mem_cons_of_mem _ hq))))) (fun z => ?_)
  refine lv_aload_n hF.1 hF.2.1 dL_law_632 rfl (hl6.2.2 _ (.tail _ (.tail _ (.tail _ (.tail _ (.tail _ (.head _))))))) ?_
  refine lv_iconst (v := 0) hF.1 hF.2.1 dL_law_633 rfl ?_
  refine va_lald (D := G.2.1) (cl := vwCl) (ws := al_ws G o cL _ u.2.1) (tys := [(cL, .long)]) hF.1 hF.2.1 hKl (al_WP hH3 hO3) 0 0 rfl rfl al_in0 dL_law_634 ?_
  refine lv_iload hF.1 hF.2.1 dL_law_635 (hl6.2.2 _ (.head _)) ?_
  refine lv_i2l hF.1 hF.2.1 dL_law_637 rfl ?_
  refine W.lcmp hF.1 hF.2.1 dL_law_638 ?_
  exact lv_if_eq hF.1 hF.2.1 dL_law_639 (tgt := 644) (by decide) (fun _ => lv_goto hF.1 hF.2.1 dL_law_644 (tgt := 1231) (by decide) (K H3 locs3 _ u.2.1 ls6 hH3 hO3 hS3 hZ2 (ld_sub hl6 (fun q hq => List.mem_cons_of_mem _ (List.mem_cons_of_mem _ hq))))) (fun y => absurd ((lg_cmp_eq _ _).mpr (hb9 z)) y)
theorem k_failure (C : ld_C l G o cL b L xs p s m c) (hi : i0 + 4 ≤ L) (hc : cells + 1 ≤ 601024) (hsl : slots + 6 ≤ 7293034) (hN : N + 100 < 2 ^ 26) (hZ : zAll N σ) (hH : am_H G σ H) (hO : al_O o cL f H) (hS : va_S (ld_A s) s.heap H locs) (hl : lv_has ls 7 (ld_l G o b i0)) (K : ld_K l G o cL b p e s m below meth c Q (cells + 1) (slots + 6) i0 (N + 100)) : W p l e room_1 s m #[.ref b] below meth c H locs cells slots Q (F0 m 647 ls []) := by
  obtain ⟨⟨hF, hK, hKl⟩, ⟨hG, hXn, hNc, hX, hst⟩, ⟨ho, hoH, hA⟩, hXs, hbl, hL⟩ := C
  obtain ⟨-, i1, i2, i3⟩ := ld_in hi hL
  have hz0 : zCall [2, 0, 3] sp_X11_failure sp_X12_failure [.int (xs (nI i0 + 1).toNatClampNeg), .int (xs (nI i0 + 2).toNatClampNeg), .int (xs (nI i0 + 3).toNatClampNeg)] (N + 100) σ := c_failure (fun pc => (am_lk_okY (oy_X11_failure l G hG hXn hst) pc).1) hZ
  have hz : sp_X11_failure [.ref 0, .int (xs (nI i0 + 1).toNatClampNeg), .int (xs (nI i0 + 2).toNatClampNeg), .int (xs (nI i0 + 3).toNatClampNeg)] σ (fun v σ1 => sp_X12_failure [.ref 189, .int (xs (nI i0 + 1).toNatClampNeg), .int (xs (nI i0 + 2).toNatClampNeg), .int (xs (nI i0 + 3).toNatClampNeg)] σ1 (zRes [2, 0, 3] (N + 100) v)) := hz0
  refine lv_aload_n hF.1 hF.2.1 dL_law_647 rfl (hl.2.2 _ (.tail _ (.head _))) ?_
  refine lv_aload_n hF.1 hF.2.1 dL_law_648 rfl (hl.2.2 _ (.head _)) ?_
  refine lv_iload hF.1 hF.2.1 dL_law_649 (hl.2.2 _ (.tail _ (.tail _ (.tail _ (.tail _ (.head _)))))) ?_
  refine lv_iconst (v := 1) hF.1 hF.2.1 dL_law_651 rfl ?_
  refine lv_iadd hF.1 hF.2.1 dL_law_652 ?_
  refine va_sld hF.1 hF.2.1 hXs hbl (ld_A0 hbl) hS i1 dL_law_653 ?_
  refine lv_aload_n hF.1 hF.2.1 dL_law_654 rfl (hl.2.2 _ (.head _)) ?_
  refine lv_iload hF.1 hF.2.1 dL_law_655 (hl.2.2 _ (.tail _ (.tail _ (.tail _ (.tail _ (.head _)))))) ?_
  refine lv_iconst (v := 2) hF.1 hF.2.1 dL_law_657 rfl ?_
  refine lv_iadd hF.1 hF.2.1 dL_law_658 ?_
  refine va_sld hF.1 hF.2.1 hXs hbl (ld_A0 hbl) hS i2 dL_law_659 ?_
  refine lv_aload_n hF.1 hF.2.1 dL_law_660 rfl (hl.2.2 _ (.head _)) ?_
  refine lv_iload hF.1 hF.2.1 dL_law_661 (hl.2.2 _ (.tail _ (.tail _ (.tail _ (.tail _ (.head _)))))) ?_
  refine lv_iconst (v := 3) hF.1 hF.2.1 dL_law_663 rfl ?_
  refine lv_iadd hF.1 hF.2.1 dL_law_664 ?_
  refine va_sld hF.1 hF.2.1 hXs hbl (ld_A0 hbl) hS i3 dL_law_665 ?_
  refine lv_aload_n hF.1 hF.2.1 dL_law_666 rfl (hl.2.2 _ (.tail _ (.tail _ (.tail _ (.head _))))) ?_
  refine lb_callS (A := ld_A s) (mc := 1) (ms := 6) (rest := []) (a := ([.ref (G.1 0), .int (xs (nI i0 + 1).toNatClampNeg), .int (xs (nI i0 + 2).toNatClampNeg), .int (xs (nI i0 + 3).toNatClampNeg), .ref o] : List Value).toArray) (vx_runSX (As := [.ref (G.1 0), .int (xs (nI i0 + 1).toNatClampNeg), .int (xs (nI i0 + 2).toNatClampNeg), .int (xs (nI i0 + 3).toNatClampNeg), .ref o]) hF (w_failure l G hG hXn hst hNc ho hoH (xs (nI i0 + 1).toNatClampNeg) (xs (nI i0 + 2).toNatClampNeg) (xs (nI i0 + 3).toNatClampNeg) σ f _ hz) (lb_cwS 5 hF.2.2.2.2 uw_1090 uw_1088 uw_1089 (hF.2.2.2.2 _ List.mem_cons_self) rfl rfl hd_L_failure ⟨by decide, by decide⟩) ⟨al_blind hG, fun U hU hW => ⟨rfl, by rw [hU]; exact hH, hK.warm hG hW, by rw [hU]; exact hO, va_K.moved hW.alike hKl⟩⟩ rfl rfl hl.1 rfl (Nat.le_of_ble_eq_true rfl) dL_law_667 ⟨hc, hsl⟩) hA hS ?_
  intro k u H1 locs1 hq hH1 hO1 hS1
  refine lv_istore hF.1 hF.2.1 dL_law_670 hl (by decide) rfl (fun ls5 (hl5 : lv_has ls5 7 [(5, .int k), (0, .ref b), (1, .ref (G.1 0)), (2, .ref (G.1 189)), (3, .ref o), (4, .int (nI i0))]) => ?_)
  refine lv_aload_n hF.1 hF.2.1 dL_law_672 rfl (hl5.2.2 _ (.tail _ (.tail _ (.tail _ (.head _))))) ?_
  refine lv_aload_n hF.1 hF.2.1 dL_law_673 rfl (hl5.2.2 _ (.tail _ (.head _))) ?_
  refine lv_iload hF.1 hF.2.1 dL_law_674 (hl5.2.2 _ (.tail _ (.tail _ (.tail _ (.tail _ (.tail _ (.head _))))))) ?_
  refine lv_iconst (v := 1) hF.1 hF.2.1 dL_law_676 rfl ?_
  refine lv_iadd hF.1 hF.2.1 dL_law_677 ?_
  refine va_sld hF.1 hF.2.1 hXs hbl (ld_A0 hbl) hS1 i1 dL_law_678 ?_
  refine lv_aload_n hF.1 hF.2.1 dL_law_679 rfl (hl5.2.2 _ (.tail _ (.head _))) ?_
  refine lv_iload hF.1 hF.2.1 dL_law_680 (hl5.2.2 _ (.tail _ (.tail _ (.tail _ (.tail _ (.tail _ (.head _))))))) ?_
  refine lv_iconst (v := 2) hF.1 hF.2.1 dL_law_682 rfl ?_
  refine lv_iadd hF.1 hF.2.1 dL_law_683 ?_
  refine va_sld hF.1 hF.2.1 hXs hbl (ld_A0 hbl) hS1 i2 dL_law_684 ?_
  refine lv_aload_n hF.1 hF.2.1 dL_law_685 rfl (hl5.2.2 _ (.tail _ (.head _))) ?_
  refine lv_iload hF.1 hF.2.1 dL_law_686 (hl5.2.2 _ (.tail _ (.tail _ (.tail _ (.tail _ (.tail _ (.head _))))))) ?_
  refine lv_iconst (v := 3) hF.1 hF.2.1 dL_law_688 rfl ?_
  refine lv_iadd hF.1 hF.2.1 dL_law_689 ?_
  refine va_sld hF.1 hF.2.1 hXs hbl (ld_A0 hbl) hS1 i3 dL_law_690 ?_
  refine lb_callV (A := ld_A s) (R1 := zRes [2, 0, 3] (N + 100) u.2.2) (rest := []) (va_runV (As := [.int (xs (nI i0 + 1).toNatClampNeg), .int (xs (nI i0 + 2).toNatClampNeg), .int (xs (nI i0 + 3).toNatClampNeg)]) (b := G.1 189) hF (m_X12_failure l G hG hX [.ref 189, .int (xs (nI i0 + 1).toNatClampNeg), .int (xs (nI i0 + 2).toNatClampNeg), .int (xs (nI i0 + 3).toNatClampNeg)] _ _ (by intro v hv; simp at hv; rcases hv with rfl | rfl | rfl | rfl <;> rfl) hq.1) (al_cwV 3 hF.2.2.2.2 uw_1590 uw_1587 uw_1588 uw_1589 uw_14 rfl rfl hw_X12_failure ⟨by decide, by decide⟩) ⟨am_blind hG, va_recv hK.1 hH1.1 (ci := 12) rfl (am_ws_get (k := 189) rfl), fun U hU hW => ⟨rfl, by rw [hU]; exact hH1, hK.warm hG hW⟩⟩ rfl rfl hl5.1 rfl (Nat.le_of_ble_eq_true rfl) dL_law_691 ⟨by show cells + 1 + 0 ≤ 601024; omega, by show slots + 6 + 0 ≤ 7293034; omega⟩) (fun q h => hA q (Or.inl h)) hS1 hO1 ho ?_
  intro w σ2 H2 locs2 hR2 hH2 hO2 hS2
  obtain ⟨hag, hZ2⟩ := hR2
  obtain ⟨et, b9, rfl, hb9⟩ := lb_agree (by decide) (by decide) hq hag
  refine lv_istore hF.1 hF.2.1 dL_law_694 hl5 (by decide) rfl (fun ls6 (hl6 : lv_has ls6 7 [(6, .int b9), (5, .int k), (0, .ref b), (1, .ref (G.1 0)), (2, .ref (G.1 189)), (3, .ref o), (4, .int (nI i0))]) => ?_)
  refine lv_aload_n hF.1 hF.2.1 dL_law_696 rfl (hl6.2.2 _ (.tail _ (.tail _ (.tail _ (.tail _ (.head _)))))) ?_
  refine lb_callV (A := ld_A s) (R1 := fun v σ3 => v = some (.int (σ2 189 0)) ∧ σ3 = σ2) (rest := []) (va_runV (As := []) (b := G.1 189) hF (m_X12_thrown l G hG hX [.ref 189] _ _ (by intro v hv; simp at hv; subst hv; rfl) (lb_thr ⟨rfl, rfl⟩)) (al_cwV 0 hF.2.2.2.2 uw_1250 uw_1247 uw_1248 uw_1249 uw_14 rfl rfl hw_X12_thrown ⟨by decide, by decide⟩) ⟨am_blind hG, va_recv hK.1 hH2.1 (ci := 12) rfl (am_ws_get (k := 189) rfl), fun U hU hW => ⟨rfl, by rw [hU]; exact hH2, hK.warm hG hW⟩⟩ rfl rfl hl6.1 rfl (Nat.le_of_ble_eq_true rfl) dL_law_697 ⟨by show cells + 1 + 0 ≤ 601024; omega, by show slots + 6 + 0 ≤ 7293034; omega⟩) (fun q h => hA q (Or.inl h)) hS2 hO2 ho ?_
  rintro v3 σ3 H3 locs3 ⟨rfl, rfl⟩ hH3 hO3 hS3
  refine lv_iload hF.1 hF.2.1 dL_law_700 (hl6.2.2 _ (.tail _ (.head _))) ?_
  refine lv_icmp_eq hF.1 hF.2.1 dL_law_702 (tgt := 707) (by decide) (fun _ => ?_) (fun z => absurd et z)
  refine lv_iload hF.1 hF.2.1 dL_law_707 (hl6.2.2 _ (.tail _ (.head _))) ?_
  refine lv_if_ne hF.1 hF.2.1 dL_law_709 (tgt := 724) (by decide) (fun _ => lv_goto hF.1 hF.2.1 dL_law_724 (tgt := 1231) (by decide) (K H3 locs3 _ u.2.1 ls6 hH3 hO3 hS3 hZ2 (ld_sub hl6 (fun q hq => List.mem_cons_of_mem _ (List.mem_cons_of_mem _ hq))))) (fun z => ?_)
  refine lv_aload_n hF.1 hF.2.1 dL_law_712 rfl (hl6.2.2 _ (.tail _ (.tail _ (.tail _ (.tail _ (.tail _ (.head _))))))) ?_
  refine lv_iconst (v := 0) hF.1 hF.2.1 dL_law_713 rfl ?_
  refine va_lald (D := G.2.1) (cl := vwCl) (ws := al_ws G o cL _ u.2.1) (tys := [(cL, .long)]) hF.1 hF.2.1 hKl (al_WP hH3 hO3) 0 0 rfl rfl al_in0 dL_law_714 ?_
  refine lv_iload hF.1 hF.2.1 dL_law_715 (hl6.2.2 _ (.head _)) ?_
  refine lv_i2l hF.1 hF.2.1 dL_law_717 rfl ?_
  refine W.lcmp hF.1 hF.2.1 dL_law_718 ?_
  exact lv_if_eq hF.1 hF.2.1 dL_law_719 (tgt := 724) (by decide) (fun _ => lv_goto hF.1 hF.2.1 dL_law_724 (tgt := 1231) (by decide) (K H3 locs3 _ u.2.1 ls6 hH3 hO3 hS3 hZ2 (ld_sub hl6 (fun q hq => List.mem_cons_of_mem _ (List.mem_cons_of_mem _ hq))))) (fun y => absurd ((lg_cmp_eq _ _).mpr (hb9 z)) y)
theorem k_ready (C : ld_C l G o cL b L xs p s m c) (hi : i0 + 4 ≤ L) (hc : cells + 1 ≤ 601024) (hsl : slots + 6 ≤ 7293034) (hN : N + 100 < 2 ^ 26) (hZ : zAll N σ) (hH : am_H G σ H) (hO : al_O o cL f H) (hS : va_S (ld_A s) s.heap H locs) (hl : lv_has ls 7 (ld_l G o b i0)) (K : ld_K l G o cL b p e s m below meth c Q (cells + 1) (slots + 6) i0 (N + 100)) : W p l e room_1 s m #[.ref b] below meth c H locs cells slots Q (F0 m 727 ls []) := by
  obtain ⟨⟨hF, hK, hKl⟩, ⟨hG, hXn, hNc, hX, hst⟩, ⟨ho, hoH, hA⟩, hXs, hbl, hL⟩ := C
  obtain ⟨-, i1, i2, i3⟩ := ld_in hi hL
  have hz0 : zCall [3] sp_X11_ready sp_X12_ready [.int (xs (nI i0 + 1).toNatClampNeg)] (N + 100) σ := c_ready (fun pc => (am_lk_okY (oy_X11_ready l G hG hXn hst) pc).1) hZ
  have hz : sp_X11_ready [.ref 0, .int (xs (nI i0 + 1).toNatClampNeg)] σ (fun v σ1 => sp_X12_ready [.ref 189, .int (xs (nI i0 + 1).toNatClampNeg)] σ1 (zRes [3] (N + 100) v)) := hz0
  refine lv_aload_n hF.1 hF.2.1 dL_law_727 rfl (hl.2.2 _ (.tail _ (.head _))) ?_
  refine lv_aload_n hF.1 hF.2.1 dL_law_728 rfl (hl.2.2 _ (.head _)) ?_
  refine lv_iload hF.1 hF.2.1 dL_law_729 (hl.2.2 _ (.tail _ (.tail _ (.tail _ (.tail _ (.head _)))))) ?_
  refine lv_iconst (v := 1) hF.1 hF.2.1 dL_law_731 rfl ?_
  refine lv_iadd hF.1 hF.2.1 dL_law_732 ?_
  refine va_sld hF.1 hF.2.1 hXs hbl (ld_A0 hbl) hS i1 dL_law_733 ?_
  refine lv_aload_n hF.1 hF.2.1 dL_law_734 rfl (hl.2.2 _ (.tail _ (.tail _ (.tail _ (.head _))))) ?_
  refine lb_callS (A := ld_A s) (mc := 1) (ms := 6) (rest := []) (a := ([.ref (G.1 0), .int (xs (nI i0 + 1).toNatClampNeg), .ref o] : List Value).toArray) (vx_runSX (As := [.ref (G.1 0), .int (xs (nI i0 + 1).toNatClampNeg), .ref o]) hF (w_ready l G hG hXn hst hNc ho hoH (xs (nI i0 + 1).toNatClampNeg) σ f _ hz) (lb_cwS 3 hF.2.2.2.2 uw_1120 uw_1118 uw_1119 (hF.2.2.2.2 _ List.mem_cons_self) rfl rfl hd_L_ready ⟨by decide, by decide⟩) ⟨al_blind hG, fun U hU hW => ⟨rfl, by rw [hU]; exact hH, hK.warm hG hW, by rw [hU]; exact hO, va_K.moved hW.alike hKl⟩⟩ rfl rfl hl.1 rfl (Nat.le_of_ble_eq_true rfl) dL_law_735 ⟨hc, hsl⟩) hA hS ?_
  intro k u H1 locs1 hq hH1 hO1 hS1
  refine lv_istore hF.1 hF.2.1 dL_law_738 hl (by decide) rfl (fun ls5 (hl5 : lv_has ls5 7 [(5, .int k), (0, .ref b), (1, .ref (G.1 0)), (2, .ref (G.1 189)), (3, .ref o), (4, .int (nI i0))]) => ?_)
  refine lv_aload_n hF.1 hF.2.1 dL_law_740 rfl (hl5.2.2 _ (.tail _ (.tail _ (.tail _ (.head _))))) ?_
  refine lv_aload_n hF.1 hF.2.1 dL_law_741 rfl (hl5.2.2 _ (.tail _ (.head _))) ?_
  refine lv_iload hF.1 hF.2.1 dL_law_742 (hl5.2.2 _ (.tail _ (.tail _ (.tail _ (.tail _ (.tail _ (.head _))))))) ?_
  refine lv_iconst (v := 1) hF.1 hF.2.1 dL_law_744 rfl ?_
  refine lv_iadd hF.1 hF.2.1 dL_law_745 ?_
  refine va_sld hF.1 hF.2.1 hXs hbl (ld_A0 hbl) hS1 i1 dL_law_746 ?_
  refine lb_callV (A := ld_A s) (R1 := zRes [3] (N + 100) u.2.2) (rest := []) (va_runV (As := [.int (xs (nI i0 + 1).toNatClampNeg)]) (b := G.1 189) hF (m_X12_ready l G hG hX [.ref 189, .int (xs (nI i0 + 1).toNatClampNeg)] _ _ (by intro v hv; simp at hv; rcases hv with rfl | rfl <;> rfl) hq.1) (al_cwV 1 hF.2.2.2.2 uw_1594 uw_1591 uw_1592 uw_1593 uw_14 rfl rfl hw_X12_ready ⟨by decide, by decide⟩) ⟨am_blind hG, va_recv hK.1 hH1.1 (ci := 12) rfl (am_ws_get (k := 189) rfl), fun U hU hW => ⟨rfl, by rw [hU]; exact hH1, hK.warm hG hW⟩⟩ rfl rfl hl5.1 rfl (Nat.le_of_ble_eq_true rfl) dL_law_747 ⟨by show cells + 1 + 0 ≤ 601024; omega, by show slots + 6 + 0 ≤ 7293034; omega⟩) (fun q h => hA q (Or.inl h)) hS1 hO1 ho ?_
  intro w σ2 H2 locs2 hR2 hH2 hO2 hS2
  obtain ⟨hag, hZ2⟩ := hR2
  obtain ⟨et, b9, rfl, hb9⟩ := lb_agree (by decide) (by decide) hq hag
  refine lv_istore hF.1 hF.2.1 dL_law_750 hl5 (by decide) rfl (fun ls6 (hl6 : lv_has ls6 7 [(6, .int b9), (5, .int k), (0, .ref b), (1, .ref (G.1 0)), (2, .ref (G.1 189)), (3, .ref o), (4, .int (nI i0))]) => ?_)
  refine lv_aload_n hF.1 hF.2.1 dL_law_752 rfl (hl6.2.2 _ (.tail _ (.tail _ (.tail _ (.tail _ (.head _)))))) ?_
  refine lb_callV (A := ld_A s) (R1 := fun v σ3 => v = some (.int (σ2 189 0)) ∧ σ3 = σ2) (rest := []) (va_runV (As := []) (b := G.1 189) hF (m_X12_thrown l G hG hX [.ref 189] _ _ (by intro v hv; simp at hv; subst hv; rfl) (lb_thr ⟨rfl, rfl⟩)) (al_cwV 0 hF.2.2.2.2 uw_1250 uw_1247 uw_1248 uw_1249 uw_14 rfl rfl hw_X12_thrown ⟨by decide, by decide⟩) ⟨am_blind hG, va_recv hK.1 hH2.1 (ci := 12) rfl (am_ws_get (k := 189) rfl), fun U hU hW => ⟨rfl, by rw [hU]; exact hH2, hK.warm hG hW⟩⟩ rfl rfl hl6.1 rfl (Nat.le_of_ble_eq_true rfl) dL_law_753 ⟨by show cells + 1 + 0 ≤ 601024; omega, by show slots + 6 + 0 ≤ 7293034; omega⟩) (fun q h => hA q (Or.inl h)) hS2 hO2 ho ?_
  rintro v3 σ3 H3 locs3 ⟨rfl, rfl⟩ hH3 hO3 hS3
  refine lv_iload hF.1 hF.2.1 dL_law_756 (hl6.2.2 _ (.tail _ (.head _))) ?_
  refine lv_icmp_eq hF.1 hF.2.1 dL_law_758 (tgt := 763) (by decide) (fun _ => ?_) (fun z => absurd et z)
  refine lv_iload hF.1 hF.2.1 dL_law_763 (hl6.2.2 _ (.tail _ (.head _))) ?_
  refine lv_if_ne hF.1 hF.2.1 dL_law_765 (tgt := 780) (by decide) (fun _ => lv_goto hF.1 hF.2.1 dL_law_780 (tgt := 1231) (by decide) (K H3 locs3 _ u.2.1 ls6 hH3 hO3 hS3 hZ2 (ld_sub hl6 (fun q hq => List.mem_cons_of_mem _ (List.mem_cons_of_mem _ hq))))) (fun z => ?_)
  refine lv_aload_n hF.1 hF.2.1 dL_law_768 rfl (hl6.2.2 _ (.tail _ (.tail _ (.tail _ (.tail _ (.tail _ (.head _))))))) ?_
  refine lv_iconst (v := 0) hF.1 hF.2.1 dL_law_769 rfl ?_
  refine va_lald (D := G.2.1) (cl := vwCl) (ws := al_ws G o cL _ u.2.1) (tys := [(cL, .long)]) hF.1 hF.2.1 hKl (al_WP hH3 hO3) 0 0 rfl rfl al_in0 dL_law_770 ?_
  refine lv_iload hF.1 hF.2.1 dL_law_771 (hl6.2.2 _ (.head _)) ?_
  refine lv_i2l hF.1 hF.2.1 dL_law_773 rfl ?_
  refine W.lcmp hF.1 hF.2.1 dL_law_774 ?_
  exact lv_if_eq hF.1 hF.2.1 dL_law_775 (tgt := 780) (by decide) (fun _ => lv_goto hF.1 hF.2.1 dL_law_780 (tgt := 1231) (by decide) (K H3 locs3 _ u.2.1 ls6 hH3 hO3 hS3 hZ2 (ld_sub hl6 (fun q hq => List.mem_cons_of_mem _ (List.mem_cons_of_mem _ hq))))) (fun y => absurd ((lg_cmp_eq _ _).mpr (hb9 z)) y)
theorem k_ended (C : ld_C l G o cL b L xs p s m c) (hi : i0 + 4 ≤ L) (hc : cells + 1 ≤ 601024) (hsl : slots + 6 ≤ 7293034) (hN : N + 100 < 2 ^ 26) (hZ : zAll N σ) (hH : am_H G σ H) (hO : al_O o cL f H) (hS : va_S (ld_A s) s.heap H locs) (hl : lv_has ls 7 (ld_l G o b i0)) (K : ld_K l G o cL b p e s m below meth c Q (cells + 1) (slots + 6) i0 (N + 100)) : W p l e room_1 s m #[.ref b] below meth c H locs cells slots Q (F0 m 783 ls []) := by
  obtain ⟨⟨hF, hK, hKl⟩, ⟨hG, hXn, hNc, hX, hst⟩, ⟨ho, hoH, hA⟩, hXs, hbl, hL⟩ := C
  obtain ⟨-, i1, i2, i3⟩ := ld_in hi hL
  have hz0 : zCall [3] sp_X11_ended sp_X12_ended [.int (xs (nI i0 + 1).toNatClampNeg)] (N + 100) σ := c_ended (fun pc => (am_lk_okY (oy_X11_ended l G hG hXn hst) pc).1) hZ
  have hz : sp_X11_ended [.ref 0, .int (xs (nI i0 + 1).toNatClampNeg)] σ (fun v σ1 => sp_X12_ended [.ref 189, .int (xs (nI i0 + 1).toNatClampNeg)] σ1 (zRes [3] (N + 100) v)) := hz0
  refine lv_aload_n hF.1 hF.2.1 dL_law_783 rfl (hl.2.2 _ (.tail _ (.head _))) ?_
  refine lv_aload_n hF.1 hF.2.1 dL_law_784 rfl (hl.2.2 _ (.head _)) ?_
  refine lv_iload hF.1 hF.2.1 dL_law_785 (hl.2.2 _ (.tail _ (.tail _ (.tail _ (.tail _ (.head _)))))) ?_
  refine lv_iconst (v := 1) hF.1 hF.2.1 dL_law_787 rfl ?_
  refine lv_iadd hF.1 hF.2.1 dL_law_788 ?_
  refine va_sld hF.1 hF.2.1 hXs hbl (ld_A0 hbl) hS i1 dL_law_789 ?_
  refine lv_aload_n hF.1 hF.2.1 dL_law_790 rfl (hl.2.2 _ (.tail _ (.tail _ (.tail _ (.head _))))) ?_
  refine lb_callS (A := ld_A s) (mc := 1) (ms := 6) (rest := []) (a := ([.ref (G.1 0), .int (xs (nI i0 + 1).toNatClampNeg), .ref o] : List Value).toArray) (vx_runSX (As := [.ref (G.1 0), .int (xs (nI i0 + 1).toNatClampNeg), .ref o]) hF (w_ended l G hG hXn hst hNc ho hoH (xs (nI i0 + 1).toNatClampNeg) σ f _ hz) (lb_cwS 3 hF.2.2.2.2 uw_1132 uw_1130 uw_1131 (hF.2.2.2.2 _ List.mem_cons_self) rfl rfl hd_L_ended ⟨by decide, by decide⟩) ⟨al_blind hG, fun U hU hW => ⟨rfl, by rw [hU]; exact hH, hK.warm hG hW, by rw [hU]; exact hO, va_K.moved hW.alike hKl⟩⟩ rfl rfl hl.1 rfl (Nat.le_of_ble_eq_true rfl) dL_law_791 ⟨hc, hsl⟩) hA hS ?_
  intro k u H1 locs1 hq hH1 hO1 hS1
  refine lv_istore hF.1 hF.2.1 dL_law_794 hl (by decide) rfl (fun ls5 (hl5 : lv_has ls5 7 [(5, .int k), (0, .ref b), (1, .ref (G.1 0)), (2, .ref (G.1 189)), (3, .ref o), (4, .int (nI i0))]) => ?_)
  refine lv_aload_n hF.1 hF.2.1 dL_law_796 rfl (hl5.2.2 _ (.tail _ (.tail _ (.tail _ (.head _))))) ?_
  refine lv_aload_n hF.1 hF.2.1 dL_law_797 rfl (hl5.2.2 _ (.tail _ (.head _))) ?_
  refine lv_iload hF.1 hF.2.1 dL_law_798 (hl5.2.2 _ (.tail _ (.tail _ (.tail _ (.tail _ (.tail _ (.head _))))))) ?_
  refine lv_iconst (v := 1) hF.1 hF.2.1 dL_law_800 rfl ?_
  refine lv_iadd hF.1 hF.2.1 dL_law_801 ?_
  refine va_sld hF.1 hF.2.1 hXs hbl (ld_A0 hbl) hS1 i1 dL_law_802 ?_
  refine lb_callV (A := ld_A s) (R1 := zRes [3] (N + 100) u.2.2) (rest := []) (va_runV (As := [.int (xs (nI i0 + 1).toNatClampNeg)]) (b := G.1 189) hF (m_X12_ended l G hG hX [.ref 189, .int (xs (nI i0 + 1).toNatClampNeg)] _ _ (by intro v hv; simp at hv; rcases hv with rfl | rfl <;> rfl) hq.1) (al_cwV 1 hF.2.2.2.2 uw_1598 uw_1595 uw_1596 uw_1597 uw_14 rfl rfl hw_X12_ended ⟨by decide, by decide⟩) ⟨am_blind hG, va_recv hK.1 hH1.1 (ci := 12) rfl (am_ws_get (k := 189) rfl), fun U hU hW => ⟨rfl, by rw [hU]; exact hH1, hK.warm hG hW⟩⟩ rfl rfl hl5.1 rfl (Nat.le_of_ble_eq_true rfl) dL_law_803 ⟨by show cells + 1 + 0 ≤ 601024; omega, by show slots + 6 + 0 ≤ 7293034; omega⟩) (fun q h => hA q (Or.inl h)) hS1 hO1 ho ?_
  intro w σ2 H2 locs2 hR2 hH2 hO2 hS2
  obtain ⟨hag, hZ2⟩ := hR2
  obtain ⟨et, b9, rfl, hb9⟩ := lb_agree (by decide) (by decide) hq hag
  refine lv_istore hF.1 hF.2.1 dL_law_806 hl5 (by decide) rfl (fun ls6 (hl6 : lv_has ls6 7 [(6, .int b9), (5, .int k), (0, .ref b), (1, .ref (G.1 0)), (2, .ref (G.1 189)), (3, .ref o), (4, .int (nI i0))]) => ?_)
  refine lv_aload_n hF.1 hF.2.1 dL_law_808 rfl (hl6.2.2 _ (.tail _ (.tail _ (.tail _ (.tail _ (.head _)))))) ?_
  refine lb_callV (A := ld_A s) (R1 := fun v σ3 => v = some (.int (σ2 189 0)) ∧ σ3 = σ2) (rest := []) (va_runV (As := []) (b := G.1 189) hF (m_X12_thrown l G hG hX [.ref 189] _ _ (by intro v hv; simp at hv; subst hv; rfl) (lb_thr ⟨rfl, rfl⟩)) (al_cwV 0 hF.2.2.2.2 uw_1250 uw_1247 uw_1248 uw_1249 uw_14 rfl rfl hw_X12_thrown ⟨by decide, by decide⟩) ⟨am_blind hG, va_recv hK.1 hH2.1 (ci := 12) rfl (am_ws_get (k := 189) rfl), fun U hU hW => ⟨rfl, by rw [hU]; exact hH2, hK.warm hG hW⟩⟩ rfl rfl hl6.1 rfl (Nat.le_of_ble_eq_true rfl) dL_law_809 ⟨by show cells + 1 + 0 ≤ 601024; omega, by show slots + 6 + 0 ≤ 7293034; omega⟩) (fun q h => hA q (Or.inl h)) hS2 hO2 ho ?_
  rintro v3 σ3 H3 locs3 ⟨rfl, rfl⟩ hH3 hO3 hS3
  refine lv_iload hF.1 hF.2.1 dL_law_812 (hl6.2.2 _ (.tail _ (.head _))) ?_
  refine lv_icmp_eq hF.1 hF.2.1 dL_law_814 (tgt := 819) (by decide) (fun _ => ?_) (fun z => absurd et z)
  refine lv_iload hF.1 hF.2.1 dL_law_819 (hl6.2.2 _ (.tail _ (.head _))) ?_
  refine lv_if_ne hF.1 hF.2.1 dL_law_821 (tgt := 836) (by decide) (fun _ => lv_goto hF.1 hF.2.1 dL_law_836 (tgt := 1231) (by decide) (K H3 locs3 _ u.2.1 ls6 hH3 hO3 hS3 hZ2 (ld_sub hl6 (fun q hq => List.mem_cons_of_mem _ (List.mem_cons_of_mem _ hq))))) (fun z => ?_)
  refine lv_aload_n hF.1 hF.2.1 dL_law_824 rfl (hl6.2.2 _ (.tail _ (.tail _ (.tail _ (.tail _ (.tail _ (.head _))))))) ?_
  refine lv_iconst (v := 0) hF.1 hF.2.1 dL_law_825 rfl ?_
  refine va_lald (D := G.2.1) (cl := vwCl) (ws := al_ws G o cL _ u.2.1) (tys := [(cL, .long)]) hF.1 hF.2.1 hKl (al_WP hH3 hO3) 0 0 rfl rfl al_in0 dL_law_826 ?_
  refine lv_iload hF.1 hF.2.1 dL_law_827 (hl6.2.2 _ (.head _)) ?_
  refine lv_i2l hF.1 hF.2.1 dL_law_829 rfl ?_
  refine W.lcmp hF.1 hF.2.1 dL_law_830 ?_
  exact lv_if_eq hF.1 hF.2.1 dL_law_831 (tgt := 836) (by decide) (fun _ => lv_goto hF.1 hF.2.1 dL_law_836 (tgt := 1231) (by decide) (K H3 locs3 _ u.2.1 ls6 hH3 hO3 hS3 hZ2 (ld_sub hl6 (fun q hq => List.mem_cons_of_mem _ (List.mem_cons_of_mem _ hq))))) (fun y => absurd ((lg_cmp_eq _ _).mpr (hb9 z)) y)
theorem k_isAbove (C : ld_C l G o cL b L xs p s m c) (hi : i0 + 4 ≤ L) (hc : cells + 1 ≤ 601024) (hsl : slots + 6 ≤ 7293034) (hN : N + 100 < 2 ^ 26) (hZ : zAll N σ) (hH : am_H G σ H) (hO : al_O o cL f H) (hS : va_S (ld_A s) s.heap H locs) (hl : lv_has ls 7 (ld_l G o b i0)) (K : ld_K l G o cL b p e s m below meth c Q (cells + 1) (slots + 6) i0 (N + 100)) : W p l e room_1 s m #[.ref b] below meth c H locs cells slots Q (F0 m 839 ls []) := by
  obtain ⟨⟨hF, hK, hKl⟩, ⟨hG, hXn, hNc, hX, hst⟩, ⟨ho, hoH, hA⟩, hXs, hbl, hL⟩ := C
  obtain ⟨-, i1, i2, i3⟩ := ld_in hi hL
  have hz0 : zCall [2] sp_X11_isAbove sp_X12_isAbove [.int (xs (nI i0 + 1).toNatClampNeg), .int (xs (nI i0 + 2).toNatClampNeg)] (N + 100) σ := c_isAbove (fun pc => (am_lk_okY (oy_X11_isAbove l G hG hXn hst) pc).1) hZ
  have hz : sp_X11_isAbove [.ref 0, .int (xs (nI i0 + 1).toNatClampNeg), .int (xs (nI i0 + 2).toNatClampNeg)] σ (fun v σ1 => sp_X12_isAbove [.ref 189, .int (xs (nI i0 + 1).toNatClampNeg), .int (xs (nI i0 + 2).toNatClampNeg)] σ1 (zRes [2] (N + 100) v)) := hz0
  refine lv_aload_n hF.1 hF.2.1 dL_law_839 rfl (hl.2.2 _ (.tail _ (.head _))) ?_
  refine lv_aload_n hF.1 hF.2.1 dL_law_840 rfl (hl.2.2 _ (.head _)) ?_
  refine lv_iload hF.1 hF.2.1 dL_law_841 (hl.2.2 _ (.tail _ (.tail _ (.tail _ (.tail _ (.head _)))))) ?_
  refine lv_iconst (v := 1) hF.1 hF.2.1 dL_law_843 rfl ?_
  refine lv_iadd hF.1 hF.2.1 dL_law_844 ?_
  refine va_sld hF.1 hF.2.1 hXs hbl (ld_A0 hbl) hS i1 dL_law_845 ?_
  refine lv_aload_n hF.1 hF.2.1 dL_law_846 rfl (hl.2.2 _ (.head _)) ?_
  refine lv_iload hF.1 hF.2.1 dL_law_847 (hl.2.2 _ (.tail _ (.tail _ (.tail _ (.tail _ (.head _)))))) ?_
  refine lv_iconst (v := 2) hF.1 hF.2.1 dL_law_849 rfl ?_
  refine lv_iadd hF.1 hF.2.1 dL_law_850 ?_
  refine va_sld hF.1 hF.2.1 hXs hbl (ld_A0 hbl) hS i2 dL_law_851 ?_
  refine lv_aload_n hF.1 hF.2.1 dL_law_852 rfl (hl.2.2 _ (.tail _ (.tail _ (.tail _ (.head _))))) ?_
  refine lb_callS (A := ld_A s) (mc := 1) (ms := 6) (rest := []) (a := ([.ref (G.1 0), .int (xs (nI i0 + 1).toNatClampNeg), .int (xs (nI i0 + 2).toNatClampNeg), .ref o] : List Value).toArray) (vx_runSX (As := [.ref (G.1 0), .int (xs (nI i0 + 1).toNatClampNeg), .int (xs (nI i0 + 2).toNatClampNeg), .ref o]) hF (w_isAbove l G hG hXn hst hNc ho hoH (xs (nI i0 + 1).toNatClampNeg) (xs (nI i0 + 2).toNatClampNeg) σ f _ hz) (lb_cwS 4 hF.2.2.2.2 uw_1140 uw_1138 uw_1139 (hF.2.2.2.2 _ List.mem_cons_self) rfl rfl hd_L_isAbove ⟨by decide, by decide⟩) ⟨al_blind hG, fun U hU hW => ⟨rfl, by rw [hU]; exact hH, hK.warm hG hW, by rw [hU]; exact hO, va_K.moved hW.alike hKl⟩⟩ rfl rfl hl.1 rfl (Nat.le_of_ble_eq_true rfl) dL_law_853 ⟨hc, hsl⟩) hA hS ?_
  intro k u H1 locs1 hq hH1 hO1 hS1
  refine lv_istore hF.1 hF.2.1 dL_law_856 hl (by decide) rfl (fun ls5 (hl5 : lv_has ls5 7 [(5, .int k), (0, .ref b), (1, .ref (G.1 0)), (2, .ref (G.1 189)), (3, .ref o), (4, .int (nI i0))]) => ?_)
  refine lv_aload_n hF.1 hF.2.1 dL_law_858 rfl (hl5.2.2 _ (.tail _ (.tail _ (.tail _ (.head _))))) ?_
  refine lv_aload_n hF.1 hF.2.1 dL_law_859 rfl (hl5.2.2 _ (.tail _ (.head _))) ?_
  refine lv_iload hF.1 hF.2.1 dL_law_860 (hl5.2.2 _ (.tail _ (.tail _ (.tail _ (.tail _ (.tail _ (.head _))))))) ?_
  refine lv_iconst (v := 1) hF.1 hF.2.1 dL_law_862 rfl ?_
  refine lv_iadd hF.1 hF.2.1 dL_law_863 ?_
  refine va_sld hF.1 hF.2.1 hXs hbl (ld_A0 hbl) hS1 i1 dL_law_864 ?_
  refine lv_aload_n hF.1 hF.2.1 dL_law_865 rfl (hl5.2.2 _ (.tail _ (.head _))) ?_
  refine lv_iload hF.1 hF.2.1 dL_law_866 (hl5.2.2 _ (.tail _ (.tail _ (.tail _ (.tail _ (.tail _ (.head _))))))) ?_
  refine lv_iconst (v := 2) hF.1 hF.2.1 dL_law_868 rfl ?_
  refine lv_iadd hF.1 hF.2.1 dL_law_869 ?_
  refine va_sld hF.1 hF.2.1 hXs hbl (ld_A0 hbl) hS1 i2 dL_law_870 ?_
  refine lb_callV (A := ld_A s) (R1 := zRes [2] (N + 100) u.2.2) (rest := []) (va_runV (As := [.int (xs (nI i0 + 1).toNatClampNeg), .int (xs (nI i0 + 2).toNatClampNeg)]) (b := G.1 189) hF (m_X12_isAbove l G hG hX [.ref 189, .int (xs (nI i0 + 1).toNatClampNeg), .int (xs (nI i0 + 2).toNatClampNeg)] _ _ (by intro v hv; simp at hv; rcases hv with rfl | rfl | rfl <;> rfl) hq.1) (al_cwV 2 hF.2.2.2.2 uw_1602 uw_1599 uw_1600 uw_1601 uw_14 rfl rfl hw_X12_isAbove ⟨by decide, by decide⟩) ⟨am_blind hG, va_recv hK.1 hH1.1 (ci := 12) rfl (am_ws_get (k := 189) rfl), fun U hU hW => ⟨rfl, by rw [hU]; exact hH1, hK.warm hG hW⟩⟩ rfl rfl hl5.1 rfl (Nat.le_of_ble_eq_true rfl) dL_law_871 ⟨by show cells + 1 + 0 ≤ 601024; omega, by show slots + 6 + 0 ≤ 7293034; omega⟩) (fun q h => hA q (Or.inl h)) hS1 hO1 ho ?_
  intro w σ2 H2 locs2 hR2 hH2 hO2 hS2
  obtain ⟨hag, hZ2⟩ := hR2
  obtain ⟨et, b9, rfl, hb9⟩ := lb_agree (by decide) (by decide) hq hag
  refine lv_istore hF.1 hF.2.1 dL_law_874 hl5 (by decide) rfl (fun ls6 (hl6 : lv_has ls6 7 [(6, .int b9), (5, .int k), (0, .ref b), (1, .ref (G.1 0)), (2, .ref (G.1 189)), (3, .ref o), (4, .int (nI i0))]) => ?_)
  refine lv_aload_n hF.1 hF.2.1 dL_law_876 rfl (hl6.2.2 _ (.tail _ (.tail _ (.tail _ (.tail _ (.head _)))))) ?_
  refine lb_callV (A := ld_A s) (R1 := fun v σ3 => v = some (.int (σ2 189 0)) ∧ σ3 = σ2) (rest := []) (va_runV (As := []) (b := G.1 189) hF (m_X12_thrown l G hG hX [.ref 189] _ _ (by intro v hv; simp at hv; subst hv; rfl) (lb_thr ⟨rfl, rfl⟩)) (al_cwV 0 hF.2.2.2.2 uw_1250 uw_1247 uw_1248 uw_1249 uw_14 rfl rfl hw_X12_thrown ⟨by decide, by decide⟩) ⟨am_blind hG, va_recv hK.1 hH2.1 (ci := 12) rfl (am_ws_get (k := 189) rfl), fun U hU hW => ⟨rfl, by rw [hU]; exact hH2, hK.warm hG hW⟩⟩ rfl rfl hl6.1 rfl (Nat.le_of_ble_eq_true rfl) dL_law_877 ⟨by show cells + 1 + 0 ≤ 601024; omega, by show slots + 6 + 0 ≤ 7293034; omega⟩) (fun q h => hA q (Or.inl h)) hS2 hO2 ho ?_
  rintro v3 σ3 H3 locs3 ⟨rfl, rfl⟩ hH3 hO3 hS3
  refine lv_iload hF.1 hF.2.1 dL_law_880 (hl6.2.2 _ (.tail _ (.head _))) ?_
  refine lv_icmp_eq hF.1 hF.2.1 dL_law_882 (tgt := 887) (by decide) (fun _ => ?_) (fun z => absurd et z)
  refine lv_iload hF.1 hF.2.1 dL_law_887 (hl6.2.2 _ (.tail _ (.head _))) ?_
  refine lv_if_ne hF.1 hF.2.1 dL_law_889 (tgt := 911) (by decide) (fun _ => lv_goto hF.1 hF.2.1 dL_law_911 (tgt := 1231) (by decide) (K H3 locs3 _ u.2.1 ls6 hH3 hO3 hS3 hZ2 (ld_sub hl6 (fun q hq => List.mem_cons_of_mem _ (List.mem_cons_of_mem _ hq))))) (fun z => ?_)
  refine lv_aload_n hF.1 hF.2.1 dL_law_892 rfl (hl6.2.2 _ (.tail _ (.tail _ (.tail _ (.tail _ (.tail _ (.head _))))))) ?_
  refine lv_iconst (v := 0) hF.1 hF.2.1 dL_law_893 rfl ?_
  refine va_lald (D := G.2.1) (cl := vwCl) (ws := al_ws G o cL _ u.2.1) (tys := [(cL, .long)]) hF.1 hF.2.1 hKl (al_WP hH3 hO3) 0 0 rfl rfl al_in0 dL_law_894 ?_
  refine lv_iload hF.1 hF.2.1 dL_law_895 (hl6.2.2 _ (.head _)) ?_
  refine lv_if_eq hF.1 hF.2.1 dL_law_897 (tgt := 904) (by decide) (fun y9 => ?_) (fun y9 => ?_)
  · refine lv_lconst hF.1 hF.2.1 dL_law_904 (v := 0) rfl ?_
    refine W.lcmp hF.1 hF.2.1 dL_law_905 ?_
    exact lv_if_eq hF.1 hF.2.1 dL_law_906 (tgt := 911) (by decide) (fun _ => lv_goto hF.1 hF.2.1 dL_law_911 (tgt := 1231) (by decide) (K H3 locs3 _ u.2.1 ls6 hH3 hO3 hS3 hZ2 (ld_sub hl6 (fun q hq => List.mem_cons_of_mem _ (List.mem_cons_of_mem _ hq))))) (fun y => absurd ((lg_cmp_eq _ _).mpr ((hb9 z).trans (if_pos y9))) y)
  · refine lv_lconst hF.1 hF.2.1 dL_law_900 (v := 1) rfl ?_
    refine lv_goto hF.1 hF.2.1 dL_law_901 (tgt := 905) (by decide) ?_
    refine W.lcmp hF.1 hF.2.1 dL_law_905 ?_
    exact lv_if_eq hF.1 hF.2.1 dL_law_906 (tgt := 911) (by decide) (fun _ => lv_goto hF.1 hF.2.1 dL_law_911 (tgt := 1231) (by decide) (K H3 locs3 _ u.2.1 ls6 hH3 hO3 hS3 hZ2 (ld_sub hl6 (fun q hq => List.mem_cons_of_mem _ (List.mem_cons_of_mem _ hq))))) (fun y => absurd ((lg_cmp_eq _ _).mpr ((hb9 z).trans (if_neg y9))) y)
theorem k_scopeOf (C : ld_C l G o cL b L xs p s m c) (hi : i0 + 4 ≤ L) (hc : cells + 1 ≤ 601024) (hsl : slots + 6 ≤ 7293034) (hN : N + 100 < 2 ^ 26) (hZ : zAll N σ) (hH : am_H G σ H) (hO : al_O o cL f H) (hS : va_S (ld_A s) s.heap H locs) (hl : lv_has ls 7 (ld_l G o b i0)) (K : ld_K l G o cL b p e s m below meth c Q (cells + 1) (slots + 6) i0 (N + 100)) : W p l e room_1 s m #[.ref b] below meth c H locs cells slots Q (F0 m 914 ls []) := by
  obtain ⟨⟨hF, hK, hKl⟩, ⟨hG, hXn, hNc, hX, hst⟩, ⟨ho, hoH, hA⟩, hXs, hbl, hL⟩ := C
  obtain ⟨-, i1, i2, i3⟩ := ld_in hi hL
  have hz0 : zCall [2] sp_X11_scopeOf sp_X12_scopeOf [.int (xs (nI i0 + 1).toNatClampNeg), .int (xs (nI i0 + 2).toNatClampNeg)] (N + 100) σ := c_scopeOf (fun pc => (am_lk_okY (oy_X11_scopeOf l G hG hXn hst) pc).1) hZ
  have hz : sp_X11_scopeOf [.ref 0, .int (xs (nI i0 + 1).toNatClampNeg), .int (xs (nI i0 + 2).toNatClampNeg)] σ (fun v σ1 => sp_X12_scopeOf [.ref 189, .int (xs (nI i0 + 1).toNatClampNeg), .int (xs (nI i0 + 2).toNatClampNeg)] σ1 (zRes [2] (N + 100) v)) := hz0
  refine lv_aload_n hF.1 hF.2.1 dL_law_914 rfl (hl.2.2 _ (.tail _ (.head _))) ?_
  refine lv_aload_n hF.1 hF.2.1 dL_law_915 rfl (hl.2.2 _ (.head _)) ?_
  refine lv_iload hF.1 hF.2.1 dL_law_916 (hl.2.2 _ (.tail _ (.tail _ (.tail _ (.tail _ (.head _)))))) ?_
  refine lv_iconst (v := 1) hF.1 hF.2.1 dL_law_918 rfl ?_
  refine lv_iadd hF.1 hF.2.1 dL_law_919 ?_
  refine va_sld hF.1 hF.2.1 hXs hbl (ld_A0 hbl) hS i1 dL_law_920 ?_
  refine lv_aload_n hF.1 hF.2.1 dL_law_921 rfl (hl.2.2 _ (.head _)) ?_
  refine lv_iload hF.1 hF.2.1 dL_law_922 (hl.2.2 _ (.tail _ (.tail _ (.tail _ (.tail _ (.head _)))))) ?_
  refine lv_iconst (v := 2) hF.1 hF.2.1 dL_law_924 rfl ?_
  refine lv_iadd hF.1 hF.2.1 dL_law_925 ?_
  refine va_sld hF.1 hF.2.1 hXs hbl (ld_A0 hbl) hS i2 dL_law_926 ?_
  refine lv_aload_n hF.1 hF.2.1 dL_law_927 rfl (hl.2.2 _ (.tail _ (.tail _ (.tail _ (.head _))))) ?_
  refine lb_callS (A := ld_A s) (mc := 1) (ms := 6) (rest := []) (a := ([.ref (G.1 0), .int (xs (nI i0 + 1).toNatClampNeg), .int (xs (nI i0 + 2).toNatClampNeg), .ref o] : List Value).toArray) (vx_runSX (As := [.ref (G.1 0), .int (xs (nI i0 + 1).toNatClampNeg), .int (xs (nI i0 + 2).toNatClampNeg), .ref o]) hF (w_scopeOf l G hG hXn hst hNc ho hoH (xs (nI i0 + 1).toNatClampNeg) (xs (nI i0 + 2).toNatClampNeg) σ f _ hz) (lb_cwS 4 hF.2.2.2.2 uw_1151 uw_1149 uw_1150 (hF.2.2.2.2 _ List.mem_cons_self) rfl rfl hd_L_scopeOf ⟨by decide, by decide⟩) ⟨al_blind hG, fun U hU hW => ⟨rfl, by rw [hU]; exact hH, hK.warm hG hW, by rw [hU]; exact hO, va_K.moved hW.alike hKl⟩⟩ rfl rfl hl.1 rfl (Nat.le_of_ble_eq_true rfl) dL_law_928 ⟨hc, hsl⟩) hA hS ?_
  intro k u H1 locs1 hq hH1 hO1 hS1
  refine lv_istore hF.1 hF.2.1 dL_law_931 hl (by decide) rfl (fun ls5 (hl5 : lv_has ls5 7 [(5, .int k), (0, .ref b), (1, .ref (G.1 0)), (2, .ref (G.1 189)), (3, .ref o), (4, .int (nI i0))]) => ?_)
  refine lv_aload_n hF.1 hF.2.1 dL_law_933 rfl (hl5.2.2 _ (.tail _ (.tail _ (.tail _ (.head _))))) ?_
  refine lv_aload_n hF.1 hF.2.1 dL_law_934 rfl (hl5.2.2 _ (.tail _ (.head _))) ?_
  refine lv_iload hF.1 hF.2.1 dL_law_935 (hl5.2.2 _ (.tail _ (.tail _ (.tail _ (.tail _ (.tail _ (.head _))))))) ?_
  refine lv_iconst (v := 1) hF.1 hF.2.1 dL_law_937 rfl ?_
  refine lv_iadd hF.1 hF.2.1 dL_law_938 ?_
  refine va_sld hF.1 hF.2.1 hXs hbl (ld_A0 hbl) hS1 i1 dL_law_939 ?_
  refine lv_aload_n hF.1 hF.2.1 dL_law_940 rfl (hl5.2.2 _ (.tail _ (.head _))) ?_
  refine lv_iload hF.1 hF.2.1 dL_law_941 (hl5.2.2 _ (.tail _ (.tail _ (.tail _ (.tail _ (.tail _ (.head _))))))) ?_
  refine lv_iconst (v := 2) hF.1 hF.2.1 dL_law_943 rfl ?_
  refine lv_iadd hF.1 hF.2.1 dL_law_944 ?_
  refine va_sld hF.1 hF.2.1 hXs hbl (ld_A0 hbl) hS1 i2 dL_law_945 ?_
  refine lb_callV (A := ld_A s) (R1 := zRes [2] (N + 100) u.2.2) (rest := []) (va_runV (As := [.int (xs (nI i0 + 1).toNatClampNeg), .int (xs (nI i0 + 2).toNatClampNeg)]) (b := G.1 189) hF (m_X12_scopeOf l G hG hX [.ref 189, .int (xs (nI i0 + 1).toNatClampNeg), .int (xs (nI i0 + 2).toNatClampNeg)] _ _ (by intro v hv; simp at hv; rcases hv with rfl | rfl | rfl <;> rfl) hq.1) (al_cwV 2 hF.2.2.2.2 uw_1606 uw_1603 uw_1604 uw_1605 uw_14 rfl rfl hw_X12_scopeOf ⟨by decide, by decide⟩) ⟨am_blind hG, va_recv hK.1 hH1.1 (ci := 12) rfl (am_ws_get (k := 189) rfl), fun U hU hW => ⟨rfl, by rw [hU]; exact hH1, hK.warm hG hW⟩⟩ rfl rfl hl5.1 rfl (Nat.le_of_ble_eq_true rfl) dL_law_946 ⟨by show cells + 1 + 0 ≤ 601024; omega, by show slots + 6 + 0 ≤ 7293034; omega⟩) (fun q h => hA q (Or.inl h)) hS1 hO1 ho ?_
  intro w σ2 H2 locs2 hR2 hH2 hO2 hS2
  obtain ⟨hag, hZ2⟩ := hR2
  obtain ⟨et, b9, rfl, hb9⟩ := lb_agree (by decide) (by decide) hq hag
  refine lv_istore hF.1 hF.2.1 dL_law_949 hl5 (by decide) rfl (fun ls6 (hl6 : lv_has ls6 7 [(6, .int b9), (5, .int k), (0, .ref b), (1, .ref (G.1 0)), (2, .ref (G.1 189)), (3, .ref o), (4, .int (nI i0))]) => ?_)
  refine lv_aload_n hF.1 hF.2.1 dL_law_951 rfl (hl6.2.2 _ (.tail _ (.tail _ (.tail _ (.tail _ (.head _)))))) ?_
  refine lb_callV (A := ld_A s) (R1 := fun v σ3 => v = some (.int (σ2 189 0)) ∧ σ3 = σ2) (rest := []) (va_runV (As := []) (b := G.1 189) hF (m_X12_thrown l G hG hX [.ref 189] _ _ (by intro v hv; simp at hv; subst hv; rfl) (lb_thr ⟨rfl, rfl⟩)) (al_cwV 0 hF.2.2.2.2 uw_1250 uw_1247 uw_1248 uw_1249 uw_14 rfl rfl hw_X12_thrown ⟨by decide, by decide⟩) ⟨am_blind hG, va_recv hK.1 hH2.1 (ci := 12) rfl (am_ws_get (k := 189) rfl), fun U hU hW => ⟨rfl, by rw [hU]; exact hH2, hK.warm hG hW⟩⟩ rfl rfl hl6.1 rfl (Nat.le_of_ble_eq_true rfl) dL_law_952 ⟨by show cells + 1 + 0 ≤ 601024; omega, by show slots + 6 + 0 ≤ 7293034; omega⟩) (fun q h => hA q (Or.inl h)) hS2 hO2 ho ?_
  rintro v3 σ3 H3 locs3 ⟨rfl, rfl⟩ hH3 hO3 hS3
  refine lv_iload hF.1 hF.2.1 dL_law_955 (hl6.2.2 _ (.tail _ (.head _))) ?_
  refine lv_icmp_eq hF.1 hF.2.1 dL_law_957 (tgt := 962) (by decide) (fun _ => ?_) (fun z => absurd et z)
  refine lv_iload hF.1 hF.2.1 dL_law_962 (hl6.2.2 _ (.tail _ (.head _))) ?_
  refine lv_if_ne hF.1 hF.2.1 dL_law_964 (tgt := 979) (by decide) (fun _ => lv_goto hF.1 hF.2.1 dL_law_979 (tgt := 1231) (by decide) (K H3 locs3 _ u.2.1 ls6 hH3 hO3 hS3 hZ2 (ld_sub hl6 (fun q hq => List.mem_cons_of_mem _ (List.mem_cons_of_mem _ hq))))) (fun z => ?_)
  refine lv_aload_n hF.1 hF.2.1 dL_law_967 rfl (hl6.2.2 _ (.tail _ (.tail _ (.tail _ (.tail _ (.tail _ (.head _))))))) ?_
  refine lv_iconst (v := 0) hF.1 hF.2.1 dL_law_968 rfl ?_
  refine va_lald (D := G.2.1) (cl := vwCl) (ws := al_ws G o cL _ u.2.1) (tys := [(cL, .long)]) hF.1 hF.2.1 hKl (al_WP hH3 hO3) 0 0 rfl rfl al_in0 dL_law_969 ?_
  refine lv_iload hF.1 hF.2.1 dL_law_970 (hl6.2.2 _ (.head _)) ?_
  refine lv_i2l hF.1 hF.2.1 dL_law_972 rfl ?_
  refine W.lcmp hF.1 hF.2.1 dL_law_973 ?_
  exact lv_if_eq hF.1 hF.2.1 dL_law_974 (tgt := 979) (by decide) (fun _ => lv_goto hF.1 hF.2.1 dL_law_979 (tgt := 1231) (by decide) (K H3 locs3 _ u.2.1 ls6 hH3 hO3 hS3 hZ2 (ld_sub hl6 (fun q hq => List.mem_cons_of_mem _ (List.mem_cons_of_mem _ hq))))) (fun y => absurd ((lg_cmp_eq _ _).mpr (hb9 z)) y)
theorem k_channel (C : ld_C l G o cL b L xs p s m c) (hi : i0 + 4 ≤ L) (hc : cells + 1 ≤ 601024) (hsl : slots + 6 ≤ 7293034) (hN : N + 100 < 2 ^ 26) (hZ : zAll N σ) (hH : am_H G σ H) (hO : al_O o cL f H) (hS : va_S (ld_A s) s.heap H locs) (hl : lv_has ls 7 (ld_l G o b i0)) (K : ld_K l G o cL b p e s m below meth c Q (cells + 1) (slots + 6) i0 (N + 100)) : W p l e room_1 s m #[.ref b] below meth c H locs cells slots Q (F0 m 982 ls []) := by
  obtain ⟨⟨hF, hK, hKl⟩, ⟨hG, hXn, hNc, hX, hst⟩, ⟨ho, hoH, hA⟩, hXs, hbl, hL⟩ := C
  obtain ⟨-, i1, i2, i3⟩ := ld_in hi hL
  have hz0 : zCall [2, 0] sp_X11_channel sp_X12_channel_ [.int (xs (nI i0 + 1).toNatClampNeg), .int (xs (nI i0 + 2).toNatClampNeg)] (N + 100) σ := c_channel (fun pc => (am_lk_okY (oy_X11_channel l G hG hXn hst) pc).1) hZ
  have hz : sp_X11_channel [.ref 0, .int (xs (nI i0 + 1).toNatClampNeg), .int (xs (nI i0 + 2).toNatClampNeg)] σ (fun v σ1 => sp_X12_channel_ [.ref 189, .int (xs (nI i0 + 1).toNatClampNeg), .int (xs (nI i0 + 2).toNatClampNeg)] σ1 (zRes [2, 0] (N + 100) v)) := hz0
  refine lv_aload_n hF.1 hF.2.1 dL_law_982 rfl (hl.2.2 _ (.tail _ (.head _))) ?_
  refine lv_aload_n hF.1 hF.2.1 dL_law_983 rfl (hl.2.2 _ (.head _)) ?_
  refine lv_iload hF.1 hF.2.1 dL_law_984 (hl.2.2 _ (.tail _ (.tail _ (.tail _ (.tail _ (.head _)))))) ?_
  refine lv_iconst (v := 1) hF.1 hF.2.1 dL_law_986 rfl ?_
  refine lv_iadd hF.1 hF.2.1 dL_law_987 ?_
  refine va_sld hF.1 hF.2.1 hXs hbl (ld_A0 hbl) hS i1 dL_law_988 ?_
  refine lv_aload_n hF.1 hF.2.1 dL_law_989 rfl (hl.2.2 _ (.head _)) ?_
  refine lv_iload hF.1 hF.2.1 dL_law_990 (hl.2.2 _ (.tail _ (.tail _ (.tail _ (.tail _ (.head _)))))) ?_
  refine lv_iconst (v := 2) hF.1 hF.2.1 dL_law_992 rfl ?_
  refine lv_iadd hF.1 hF.2.1 dL_law_993 ?_
  refine va_sld hF.1 hF.2.1 hXs hbl (ld_A0 hbl) hS i2 dL_law_994 ?_
  refine lv_aload_n hF.1 hF.2.1 dL_law_995 rfl (hl.2.2 _ (.tail _ (.tail _ (.tail _ (.head _))))) ?_
  refine lb_callS (A := ld_A s) (mc := 1) (ms := 6) (rest := []) (a := ([.ref (G.1 0), .int (xs (nI i0 + 1).toNatClampNeg), .int (xs (nI i0 + 2).toNatClampNeg), .ref o] : List Value).toArray) (vx_runSX (As := [.ref (G.1 0), .int (xs (nI i0 + 1).toNatClampNeg), .int (xs (nI i0 + 2).toNatClampNeg), .ref o]) hF (w_channel l G hG hXn hst hNc ho hoH (xs (nI i0 + 1).toNatClampNeg) (xs (nI i0 + 2).toNatClampNeg) σ f _ hz) (lb_cwS 4 hF.2.2.2.2 uw_1160 uw_1158 uw_1159 (hF.2.2.2.2 _ List.mem_cons_self) rfl rfl hd_L_channel ⟨by decide, by decide⟩) ⟨al_blind hG, fun U hU hW => ⟨rfl, by rw [hU]; exact hH, hK.warm hG hW, by rw [hU]; exact hO, va_K.moved hW.alike hKl⟩⟩ rfl rfl hl.1 rfl (Nat.le_of_ble_eq_true rfl) dL_law_996 ⟨hc, hsl⟩) hA hS ?_
  intro k u H1 locs1 hq hH1 hO1 hS1
  refine lv_istore hF.1 hF.2.1 dL_law_999 hl (by decide) rfl (fun ls5 (hl5 : lv_has ls5 7 [(5, .int k), (0, .ref b), (1, .ref (G.1 0)), (2, .ref (G.1 189)), (3, .ref o), (4, .int (nI i0))]) => ?_)
  refine lv_aload_n hF.1 hF.2.1 dL_law_1001 rfl (hl5.2.2 _ (.tail _ (.tail _ (.tail _ (.head _))))) ?_
  refine lv_aload_n hF.1 hF.2.1 dL_law_1002 rfl (hl5.2.2 _ (.tail _ (.head _))) ?_
  refine lv_iload hF.1 hF.2.1 dL_law_1003 (hl5.2.2 _ (.tail _ (.tail _ (.tail _ (.tail _ (.tail _ (.head _))))))) ?_
  refine lv_iconst (v := 1) hF.1 hF.2.1 dL_law_1005 rfl ?_
  refine lv_iadd hF.1 hF.2.1 dL_law_1006 ?_
  refine va_sld hF.1 hF.2.1 hXs hbl (ld_A0 hbl) hS1 i1 dL_law_1007 ?_
  refine lv_aload_n hF.1 hF.2.1 dL_law_1008 rfl (hl5.2.2 _ (.tail _ (.head _))) ?_
  refine lv_iload hF.1 hF.2.1 dL_law_1009 (hl5.2.2 _ (.tail _ (.tail _ (.tail _ (.tail _ (.tail _ (.head _))))))) ?_
  refine lv_iconst (v := 2) hF.1 hF.2.1 dL_law_1011 rfl ?_
  refine lv_iadd hF.1 hF.2.1 dL_law_1012 ?_
  refine va_sld hF.1 hF.2.1 hXs hbl (ld_A0 hbl) hS1 i2 dL_law_1013 ?_
  refine lb_callV (A := ld_A s) (R1 := zRes [2, 0] (N + 100) u.2.2) (rest := []) (va_runV (As := [.int (xs (nI i0 + 1).toNatClampNeg), .int (xs (nI i0 + 2).toNatClampNeg)]) (b := G.1 189) hF (m_X12_channel_ l G hG hX [.ref 189, .int (xs (nI i0 + 1).toNatClampNeg), .int (xs (nI i0 + 2).toNatClampNeg)] _ _ (by intro v hv; simp at hv; rcases hv with rfl | rfl | rfl <;> rfl) hq.1) (al_cwV 2 hF.2.2.2.2 uw_1610 uw_1607 uw_1608 uw_1609 uw_14 rfl rfl hw_X12_channel_ ⟨by decide, by decide⟩) ⟨am_blind hG, va_recv hK.1 hH1.1 (ci := 12) rfl (am_ws_get (k := 189) rfl), fun U hU hW => ⟨rfl, by rw [hU]; exact hH1, hK.warm hG hW⟩⟩ rfl rfl hl5.1 rfl (Nat.le_of_ble_eq_true rfl) dL_law_1014 ⟨by show cells + 1 + 0 ≤ 601024; omega, by show slots + 6 + 0 ≤ 7293034; omega⟩) (fun q h => hA q (Or.inl h)) hS1 hO1 ho ?_
  intro w σ2 H2 locs2 hR2 hH2 hO2 hS2
  obtain ⟨hag, hZ2⟩ := hR2
  obtain ⟨et, b9, rfl, hb9⟩ := lb_agree (by decide) (by decide) hq hag
  refine lv_istore hF.1 hF.2.1 dL_law_1017 hl5 (by decide) rfl (fun ls6 (hl6 : lv_has ls6 7 [(6, .int b9), (5, .int k), (0, .ref b), (1, .ref (G.1 0)), (2, .ref (G.1 189)), (3, .ref o), (4, .int (nI i0))]) => ?_)
  refine lv_aload_n hF.1 hF.2.1 dL_law_1019 rfl (hl6.2.2 _ (.tail _ (.tail _ (.tail _ (.tail _ (.head _)))))) ?_
  refine lb_callV (A := ld_A s) (R1 := fun v σ3 => v = some (.int (σ2 189 0)) ∧ σ3 = σ2) (rest := []) (va_runV (As := []) (b := G.1 189) hF (m_X12_thrown l G hG hX [.ref 189] _ _ (by intro v hv; simp at hv; subst hv; rfl) (lb_thr ⟨rfl, rfl⟩)) (al_cwV 0 hF.2.2.2.2 uw_1250 uw_1247 uw_1248 uw_1249 uw_14 rfl rfl hw_X12_thrown ⟨by decide, by decide⟩) ⟨am_blind hG, va_recv hK.1 hH2.1 (ci := 12) rfl (am_ws_get (k := 189) rfl), fun U hU hW => ⟨rfl, by rw [hU]; exact hH2, hK.warm hG hW⟩⟩ rfl rfl hl6.1 rfl (Nat.le_of_ble_eq_true rfl) dL_law_1020 ⟨by show cells + 1 + 0 ≤ 601024; omega, by show slots + 6 + 0 ≤ 7293034; omega⟩) (fun q h => hA q (Or.inl h)) hS2 hO2 ho ?_
  rintro v3 σ3 H3 locs3 ⟨rfl, rfl⟩ hH3 hO3 hS3
  refine lv_iload hF.1 hF.2.1 dL_law_1023 (hl6.2.2 _ (.tail _ (.head _))) ?_
  refine lv_icmp_eq hF.1 hF.2.1 dL_law_1025 (tgt := 1030) (by decide) (fun _ => ?_) (fun z => absurd et z)
  refine lv_iload hF.1 hF.2.1 dL_law_1030 (hl6.2.2 _ (.tail _ (.head _))) ?_
  refine lv_if_ne hF.1 hF.2.1 dL_law_1032 (tgt := 1047) (by decide) (fun _ => lv_goto hF.1 hF.2.1 dL_law_1047 (tgt := 1231) (by decide) (K H3 locs3 _ u.2.1 ls6 hH3 hO3 hS3 hZ2 (ld_sub hl6 (fun q hq => List.mem_cons_of_mem _ (List.mem_cons_of_mem _ hq))))) (fun z => ?_)
  refine lv_aload_n hF.1 hF.2.1 dL_law_1035 rfl (hl6.2.2 _ (.tail _ (.tail _ (.tail _ (.tail _ (.tail _ (.head _))))))) ?_
  refine lv_iconst (v := 0) hF.1 hF.2.1 dL_law_1036 rfl ?_
  refine va_lald (D := G.2.1) (cl := vwCl) (ws := al_ws G o cL _ u.2.1) (tys := [(cL, .long)]) hF.1 hF.2.1 hKl (al_WP hH3 hO3) 0 0 rfl rfl al_in0 dL_law_1037 ?_
  refine lv_iload hF.1 hF.2.1 dL_law_1038 (hl6.2.2 _ (.head _)) ?_
  refine lv_i2l hF.1 hF.2.1 dL_law_1040 rfl ?_
  refine W.lcmp hF.1 hF.2.1 dL_law_1041 ?_
  exact lv_if_eq hF.1 hF.2.1 dL_law_1042 (tgt := 1047) (by decide) (fun _ => lv_goto hF.1 hF.2.1 dL_law_1047 (tgt := 1231) (by decide) (K H3 locs3 _ u.2.1 ls6 hH3 hO3 hS3 hZ2 (ld_sub hl6 (fun q hq => List.mem_cons_of_mem _ (List.mem_cons_of_mem _ hq))))) (fun y => absurd ((lg_cmp_eq _ _).mpr (hb9 z)) y)
theorem k_content (C : ld_C l G o cL b L xs p s m c) (hi : i0 + 4 ≤ L) (hc : cells + 1 ≤ 601024) (hsl : slots + 6 ≤ 7293034) (hN : N + 100 < 2 ^ 26) (hZ : zAll N σ) (hH : am_H G σ H) (hO : al_O o cL f H) (hS : va_S (ld_A s) s.heap H locs) (hl : lv_has ls 7 (ld_l G o b i0)) (K : ld_K l G o cL b p e s m below meth c Q (cells + 1) (slots + 6) i0 (N + 100)) : W p l e room_1 s m #[.ref b] below meth c H locs cells slots Q (F0 m 1050 ls []) := by
  obtain ⟨⟨hF, hK, hKl⟩, ⟨hG, hXn, hNc, hX, hst⟩, ⟨ho, hoH, hA⟩, hXs, hbl, hL⟩ := C
  obtain ⟨-, i1, i2, i3⟩ := ld_in hi hL
  have hz0 : zCall [2, 3] sp_X11_content sp_X12_content [.int (xs (nI i0 + 1).toNatClampNeg), .int (xs (nI i0 + 2).toNatClampNeg)] (N + 100) σ := c_content (fun pc => (am_lk_okY (oy_X11_content l G hG hXn hst) pc).1) hZ
  have hz : sp_X11_content [.ref 0, .int (xs (nI i0 + 1).toNatClampNeg), .int (xs (nI i0 + 2).toNatClampNeg)] σ (fun v σ1 => sp_X12_content [.ref 189, .int (xs (nI i0 + 1).toNatClampNeg), .int (xs (nI i0 + 2).toNatClampNeg)] σ1 (zRes [2, 3] (N + 100) v)) := hz0
  refine lv_aload_n hF.1 hF.2.1 dL_law_1050 rfl (hl.2.2 _ (.tail _ (.head _))) ?_
  refine lv_aload_n hF.1 hF.2.1 dL_law_1051 rfl (hl.2.2 _ (.head _)) ?_
  refine lv_iload hF.1 hF.2.1 dL_law_1052 (hl.2.2 _ (.tail _ (.tail _ (.tail _ (.tail _ (.head _)))))) ?_
  refine lv_iconst (v := 1) hF.1 hF.2.1 dL_law_1054 rfl ?_
  refine lv_iadd hF.1 hF.2.1 dL_law_1055 ?_
  refine va_sld hF.1 hF.2.1 hXs hbl (ld_A0 hbl) hS i1 dL_law_1056 ?_
  refine lv_aload_n hF.1 hF.2.1 dL_law_1057 rfl (hl.2.2 _ (.head _)) ?_
  refine lv_iload hF.1 hF.2.1 dL_law_1058 (hl.2.2 _ (.tail _ (.tail _ (.tail _ (.tail _ (.head _)))))) ?_
  refine lv_iconst (v := 2) hF.1 hF.2.1 dL_law_1060 rfl ?_
  refine lv_iadd hF.1 hF.2.1 dL_law_1061 ?_
  refine va_sld hF.1 hF.2.1 hXs hbl (ld_A0 hbl) hS i2 dL_law_1062 ?_
  refine lv_aload_n hF.1 hF.2.1 dL_law_1063 rfl (hl.2.2 _ (.tail _ (.tail _ (.tail _ (.head _))))) ?_
  refine lb_callS (A := ld_A s) (mc := 1) (ms := 6) (rest := []) (a := ([.ref (G.1 0), .int (xs (nI i0 + 1).toNatClampNeg), .int (xs (nI i0 + 2).toNatClampNeg), .ref o] : List Value).toArray) (vx_runSX (As := [.ref (G.1 0), .int (xs (nI i0 + 1).toNatClampNeg), .int (xs (nI i0 + 2).toNatClampNeg), .ref o]) hF (w_content l G hG hXn hst hNc ho hoH (xs (nI i0 + 1).toNatClampNeg) (xs (nI i0 + 2).toNatClampNeg) σ f _ hz) (lb_cwS 4 hF.2.2.2.2 uw_1179 uw_1177 uw_1178 (hF.2.2.2.2 _ List.mem_cons_self) rfl rfl hd_L_content ⟨by decide, by decide⟩) ⟨al_blind hG, fun U hU hW => ⟨rfl, by rw [hU]; exact hH, hK.warm hG hW, by rw [hU]; exact hO, va_K.moved hW.alike hKl⟩⟩ rfl rfl hl.1 rfl (Nat.le_of_ble_eq_true rfl) dL_law_1064 ⟨hc, hsl⟩) hA hS ?_
  intro k u H1 locs1 hq hH1 hO1 hS1
  refine lv_istore hF.1 hF.2.1 dL_law_1067 hl (by decide) rfl (fun ls5 (hl5 : lv_has ls5 7 [(5, .int k), (0, .ref b), (1, .ref (G.1 0)), (2, .ref (G.1 189)), (3, .ref o), (4, .int (nI i0))]) => ?_)
  refine lv_aload_n hF.1 hF.2.1 dL_law_1069 rfl (hl5.2.2 _ (.tail _ (.tail _ (.tail _ (.head _))))) ?_
  refine lv_aload_n hF.1 hF.2.1 dL_law_1070 rfl (hl5.2.2 _ (.tail _ (.head _))) ?_
  refine lv_iload hF.1 hF.2.1 dL_law_1071 (hl5.2.2 _ (.tail _ (.tail _ (.tail _ (.tail _ (.tail _ (.head _))))))) ?_
  refine lv_iconst (v := 1) hF.1 hF.2.1 dL_law_1073 rfl ?_
  refine lv_iadd hF.1 hF.2.1 dL_law_1074 ?_
  refine va_sld hF.1 hF.2.1 hXs hbl (ld_A0 hbl) hS1 i1 dL_law_1075 ?_
  refine lv_aload_n hF.1 hF.2.1 dL_law_1076 rfl (hl5.2.2 _ (.tail _ (.head _))) ?_
  refine lv_iload hF.1 hF.2.1 dL_law_1077 (hl5.2.2 _ (.tail _ (.tail _ (.tail _ (.tail _ (.tail _ (.head _))))))) ?_
  refine lv_iconst (v := 2) hF.1 hF.2.1 dL_law_1079 rfl ?_
  refine lv_iadd hF.1 hF.2.1 dL_law_1080 ?_
  refine va_sld hF.1 hF.2.1 hXs hbl (ld_A0 hbl) hS1 i2 dL_law_1081 ?_
  refine lb_callV (A := ld_A s) (R1 := zRes [2, 3] (N + 100) u.2.2) (rest := []) (va_runV (As := [.int (xs (nI i0 + 1).toNatClampNeg), .int (xs (nI i0 + 2).toNatClampNeg)]) (b := G.1 189) hF (m_X12_content l G hG hX [.ref 189, .int (xs (nI i0 + 1).toNatClampNeg), .int (xs (nI i0 + 2).toNatClampNeg)] _ _ (by intro v hv; simp at hv; rcases hv with rfl | rfl | rfl <;> rfl) hq.1) (al_cwV 2 hF.2.2.2.2 uw_1621 uw_1618 uw_1619 uw_1620 uw_14 rfl rfl hw_X12_content ⟨by decide, by decide⟩) ⟨am_blind hG, va_recv hK.1 hH1.1 (ci := 12) rfl (am_ws_get (k := 189) rfl), fun U hU hW => ⟨rfl, by rw [hU]; exact hH1, hK.warm hG hW⟩⟩ rfl rfl hl5.1 rfl (Nat.le_of_ble_eq_true rfl) dL_law_1082 ⟨by show cells + 1 + 0 ≤ 601024; omega, by show slots + 6 + 0 ≤ 7293034; omega⟩) (fun q h => hA q (Or.inl h)) hS1 hO1 ho ?_
  intro w σ2 H2 locs2 hR2 hH2 hO2 hS2
  obtain ⟨hag, hZ2⟩ := hR2
  obtain ⟨et, b9, rfl, hb9⟩ := lb_agree (by decide) (by decide) hq hag
  refine lv_istore hF.1 hF.2.1 dL_law_1085 hl5 (by decide) rfl (fun ls6 (hl6 : lv_has ls6 7 [(6, .int b9), (5, .int k), (0, .ref b), (1, .ref (G.1 0)), (2, .ref (G.1 189)), (3, .ref o), (4, .int (nI i0))]) => ?_)
  refine lv_aload_n hF.1 hF.2.1 dL_law_1087 rfl (hl6.2.2 _ (.tail _ (.tail _ (.tail _ (.tail _ (.head _)))))) ?_
  refine lb_callV (A := ld_A s) (R1 := fun v σ3 => v = some (.int (σ2 189 0)) ∧ σ3 = σ2) (rest := []) (va_runV (As := []) (b := G.1 189) hF (m_X12_thrown l G hG hX [.ref 189] _ _ (by intro v hv; simp at hv; subst hv; rfl) (lb_thr ⟨rfl, rfl⟩)) (al_cwV 0 hF.2.2.2.2 uw_1250 uw_1247 uw_1248 uw_1249 uw_14 rfl rfl hw_X12_thrown ⟨by decide, by decide⟩) ⟨am_blind hG, va_recv hK.1 hH2.1 (ci := 12) rfl (am_ws_get (k := 189) rfl), fun U hU hW => ⟨rfl, by rw [hU]; exact hH2, hK.warm hG hW⟩⟩ rfl rfl hl6.1 rfl (Nat.le_of_ble_eq_true rfl) dL_law_1088 ⟨by show cells + 1 + 0 ≤ 601024; omega, by show slots + 6 + 0 ≤ 7293034; omega⟩) (fun q h => hA q (Or.inl h)) hS2 hO2 ho ?_
  rintro v3 σ3 H3 locs3 ⟨rfl, rfl⟩ hH3 hO3 hS3
  refine lv_iload hF.1 hF.2.1 dL_law_1091 (hl6.2.2 _ (.tail _ (.head _))) ?_
  refine lv_icmp_eq hF.1 hF.2.1 dL_law_1093 (tgt := 1098) (by decide) (fun _ => ?_) (fun z => absurd et z)
  refine lv_iload hF.1 hF.2.1 dL_law_1098 (hl6.2.2 _ (.tail _ (.head _))) ?_
  refine lv_if_ne hF.1 hF.2.1 dL_law_1100 (tgt := 1115) (by decide) (fun _ => lv_goto hF.1 hF.2.1 dL_law_1115 (tgt := 1231) (by decide) (K H3 locs3 _ u.2.1 ls6 hH3 hO3 hS3 hZ2 (ld_sub hl6 (fun q hq => List.mem_cons_of_mem _ (List.mem_cons_of_mem _ hq))))) (fun z => ?_)
  refine lv_aload_n hF.1 hF.2.1 dL_law_1103 rfl (hl6.2.2 _ (.tail _ (.tail _ (.tail _ (.tail _ (.tail _ (.head _))))))) ?_
  refine lv_iconst (v := 0) hF.1 hF.2.1 dL_law_1104 rfl ?_
  refine va_lald (D := G.2.1) (cl := vwCl) (ws := al_ws G o cL _ u.2.1) (tys := [(cL, .long)]) hF.1 hF.2.1 hKl (al_WP hH3 hO3) 0 0 rfl rfl al_in0 dL_law_1105 ?_
  refine lv_iload hF.1 hF.2.1 dL_law_1106 (hl6.2.2 _ (.head _)) ?_
  refine lv_i2l hF.1 hF.2.1 dL_law_1108 rfl ?_
  refine W.lcmp hF.1 hF.2.1 dL_law_1109 ?_
  exact lv_if_eq hF.1 hF.2.1 dL_law_1110 (tgt := 1115) (by decide) (fun _ => lv_goto hF.1 hF.2.1 dL_law_1115 (tgt := 1231) (by decide) (K H3 locs3 _ u.2.1 ls6 hH3 hO3 hS3 hZ2 (ld_sub hl6 (fun q hq => List.mem_cons_of_mem _ (List.mem_cons_of_mem _ hq))))) (fun y => absurd ((lg_cmp_eq _ _).mpr (hb9 z)) y)
theorem k_count (C : ld_C l G o cL b L xs p s m c) (hi : i0 + 4 ≤ L) (hc : cells + 1 ≤ 601024) (hsl : slots + 6 ≤ 7293034) (hN : N + 100 < 2 ^ 26) (hZ : zAll N σ) (hH : am_H G σ H) (hO : al_O o cL f H) (hS : va_S (ld_A s) s.heap H locs) (hl : lv_has ls 7 (ld_l G o b i0)) (K : ld_K l G o cL b p e s m below meth c Q (cells + 1) (slots + 6) i0 (N + 100)) : W p l e room_1 s m #[.ref b] below meth c H locs cells slots Q (F0 m 1118 ls []) := by
  obtain ⟨⟨hF, hK, hKl⟩, ⟨hG, hXn, hNc, hX, hst⟩, ⟨ho, hoH, hA⟩, hXs, hbl, hL⟩ := C
  obtain ⟨-, i1, i2, i3⟩ := ld_in hi hL
  have hz0 : zCall [0] sp_X11_count sp_X12_count [.int (xs (nI i0 + 1).toNatClampNeg)] (N + 100) σ := c_count (fun pc => (am_lk_okY (oy_X11_count l G hG hXn hst) pc).1) hZ
  have hz : sp_X11_count [.ref 0, .int (xs (nI i0 + 1).toNatClampNeg)] σ (fun v σ1 => sp_X12_count [.ref 189, .int (xs (nI i0 + 1).toNatClampNeg)] σ1 (zRes [0] (N + 100) v)) := hz0
  refine lv_aload_n hF.1 hF.2.1 dL_law_1118 rfl (hl.2.2 _ (.tail _ (.head _))) ?_
  refine lv_aload_n hF.1 hF.2.1 dL_law_1119 rfl (hl.2.2 _ (.head _)) ?_
  refine lv_iload hF.1 hF.2.1 dL_law_1120 (hl.2.2 _ (.tail _ (.tail _ (.tail _ (.tail _ (.head _)))))) ?_
  refine lv_iconst (v := 1) hF.1 hF.2.1 dL_law_1122 rfl ?_
  refine lv_iadd hF.1 hF.2.1 dL_law_1123 ?_
  refine va_sld hF.1 hF.2.1 hXs hbl (ld_A0 hbl) hS i1 dL_law_1124 ?_
  refine lv_aload_n hF.1 hF.2.1 dL_law_1125 rfl (hl.2.2 _ (.tail _ (.tail _ (.tail _ (.head _))))) ?_
  refine lb_callS (A := ld_A s) (mc := 1) (ms := 6) (rest := []) (a := ([.ref (G.1 0), .int (xs (nI i0 + 1).toNatClampNeg), .ref o] : List Value).toArray) (vx_runSX (As := [.ref (G.1 0), .int (xs (nI i0 + 1).toNatClampNeg), .ref o]) hF (w_count l G hG hXn hst hNc ho hoH (xs (nI i0 + 1).toNatClampNeg) σ f _ hz) (lb_cwS 3 hF.2.2.2.2 uw_1188 uw_1186 uw_1187 (hF.2.2.2.2 _ List.mem_cons_self) rfl rfl hd_L_count ⟨by decide, by decide⟩) ⟨al_blind hG, fun U hU hW => ⟨rfl, by rw [hU]; exact hH, hK.warm hG hW, by rw [hU]; exact hO, va_K.moved hW.alike hKl⟩⟩ rfl rfl hl.1 rfl (Nat.le_of_ble_eq_true rfl) dL_law_1126 ⟨hc, hsl⟩) hA hS ?_
  intro k u H1 locs1 hq hH1 hO1 hS1
  refine lv_istore hF.1 hF.2.1 dL_law_1129 hl (by decide) rfl (fun ls5 (hl5 : lv_has ls5 7 [(5, .int k), (0, .ref b), (1, .ref (G.1 0)), (2, .ref (G.1 189)), (3, .ref o), (4, .int (nI i0))]) => ?_)
  refine lv_aload_n hF.1 hF.2.1 dL_law_1131 rfl (hl5.2.2 _ (.tail _ (.tail _ (.tail _ (.head _))))) ?_
  refine lv_aload_n hF.1 hF.2.1 dL_law_1132 rfl (hl5.2.2 _ (.tail _ (.head _))) ?_
  refine lv_iload hF.1 hF.2.1 dL_law_1133 (hl5.2.2 _ (.tail _ (.tail _ (.tail _ (.tail _ (.tail _ (.head _))))))) ?_
  refine lv_iconst (v := 1) hF.1 hF.2.1 dL_law_1135 rfl ?_
  refine lv_iadd hF.1 hF.2.1 dL_law_1136 ?_
  refine va_sld hF.1 hF.2.1 hXs hbl (ld_A0 hbl) hS1 i1 dL_law_1137 ?_
  refine lb_callV (A := ld_A s) (R1 := zRes [0] (N + 100) u.2.2) (rest := []) (va_runV (As := [.int (xs (nI i0 + 1).toNatClampNeg)]) (b := G.1 189) hF (m_X12_count l G hG hX [.ref 189, .int (xs (nI i0 + 1).toNatClampNeg)] _ _ (by intro v hv; simp at hv; rcases hv with rfl | rfl <;> rfl) hq.1) (al_cwV 1 hF.2.2.2.2 uw_1625 uw_1622 uw_1623 uw_1624 uw_14 rfl rfl hw_X12_count ⟨by decide, by decide⟩) ⟨am_blind hG, va_recv hK.1 hH1.1 (ci := 12) rfl (am_ws_get (k := 189) rfl), fun U hU hW => ⟨rfl, by rw [hU]; exact hH1, hK.warm hG hW⟩⟩ rfl rfl hl5.1 rfl (Nat.le_of_ble_eq_true rfl) dL_law_1138 ⟨by show cells + 1 + 0 ≤ 601024; omega, by show slots + 6 + 0 ≤ 7293034; omega⟩) (fun q h => hA q (Or.inl h)) hS1 hO1 ho ?_
  intro w σ2 H2 locs2 hR2 hH2 hO2 hS2
  obtain ⟨hag, hZ2⟩ := hR2
  obtain ⟨et, b9, rfl, hb9⟩ := lb_agree (by decide) (by decide) hq hag
  refine lv_istore hF.1 hF.2.1 dL_law_1141 hl5 (by decide) rfl (fun ls6 (hl6 : lv_has ls6 7 [(6, .int b9), (5, .int k), (0, .ref b), (1, .ref (G.1 0)), (2, .ref (G.1 189)), (3, .ref o), (4, .int (nI i0))]) => ?_)
  refine lv_aload_n hF.1 hF.2.1 dL_law_1143 rfl (hl6.2.2 _ (.tail _ (.tail _ (.tail _ (.tail _ (.head _)))))) ?_
  refine lb_callV (A := ld_A s) (R1 := fun v σ3 => v = some (.int (σ2 189 0)) ∧ σ3 = σ2) (rest := []) (va_runV (As := []) (b := G.1 189) hF (m_X12_thrown l G hG hX [.ref 189] _ _ (by intro v hv; simp at hv; subst hv; rfl) (lb_thr ⟨rfl, rfl⟩)) (al_cwV 0 hF.2.2.2.2 uw_1250 uw_1247 uw_1248 uw_1249 uw_14 rfl rfl hw_X12_thrown ⟨by decide, by decide⟩) ⟨am_blind hG, va_recv hK.1 hH2.1 (ci := 12) rfl (am_ws_get (k := 189) rfl), fun U hU hW => ⟨rfl, by rw [hU]; exact hH2, hK.warm hG hW⟩⟩ rfl rfl hl6.1 rfl (Nat.le_of_ble_eq_true rfl) dL_law_1144 ⟨by show cells + 1 + 0 ≤ 601024; omega, by show slots + 6 + 0 ≤ 7293034; omega⟩) (fun q h => hA q (Or.inl h)) hS2 hO2 ho ?_
  rintro v3 σ3 H3 locs3 ⟨rfl, rfl⟩ hH3 hO3 hS3
  refine lv_iload hF.1 hF.2.1 dL_law_1147 (hl6.2.2 _ (.tail _ (.head _))) ?_
  refine lv_icmp_eq hF.1 hF.2.1 dL_law_1149 (tgt := 1154) (by decide) (fun _ => ?_) (fun z => absurd et z)
  refine lv_iload hF.1 hF.2.1 dL_law_1154 (hl6.2.2 _ (.tail _ (.head _))) ?_
  refine lv_if_ne hF.1 hF.2.1 dL_law_1156 (tgt := 1171) (by decide) (fun _ => lv_goto hF.1 hF.2.1 dL_law_1171 (tgt := 1231) (by decide) (K H3 locs3 _ u.2.1 ls6 hH3 hO3 hS3 hZ2 (ld_sub hl6 (fun q hq => List.mem_cons_of_mem _ (List.mem_cons_of_mem _ hq))))) (fun z => ?_)
  refine lv_aload_n hF.1 hF.2.1 dL_law_1159 rfl (hl6.2.2 _ (.tail _ (.tail _ (.tail _ (.tail _ (.tail _ (.head _))))))) ?_
  refine lv_iconst (v := 0) hF.1 hF.2.1 dL_law_1160 rfl ?_
  refine va_lald (D := G.2.1) (cl := vwCl) (ws := al_ws G o cL _ u.2.1) (tys := [(cL, .long)]) hF.1 hF.2.1 hKl (al_WP hH3 hO3) 0 0 rfl rfl al_in0 dL_law_1161 ?_
  refine lv_iload hF.1 hF.2.1 dL_law_1162 (hl6.2.2 _ (.head _)) ?_
  refine lv_i2l hF.1 hF.2.1 dL_law_1164 rfl ?_
  refine W.lcmp hF.1 hF.2.1 dL_law_1165 ?_
  exact lv_if_eq hF.1 hF.2.1 dL_law_1166 (tgt := 1171) (by decide) (fun _ => lv_goto hF.1 hF.2.1 dL_law_1171 (tgt := 1231) (by decide) (K H3 locs3 _ u.2.1 ls6 hH3 hO3 hS3 hZ2 (ld_sub hl6 (fun q hq => List.mem_cons_of_mem _ (List.mem_cons_of_mem _ hq))))) (fun y => absurd ((lg_cmp_eq _ _).mpr (hb9 z)) y)
theorem k_save (C : ld_C l G o cL b L xs p s m c) (hi : i0 + 4 ≤ L) (hc : cells + 1 ≤ 601024) (hsl : slots + 6 ≤ 7293034) (hN : N + 100 < 2 ^ 26) (hZ : zAll N σ) (hH : am_H G σ H) (hO : al_O o cL f H) (hS : va_S (ld_A s) s.heap H locs) (hl : lv_has ls 7 (ld_l G o b i0)) (K : ld_K l G o cL b p e s m below meth c Q (cells + 1) (slots + 6) i0 (N + 100)) : W p l e room_1 s m #[.ref b] below meth c H locs cells slots Q (F0 m 1174 ls []) := by
  obtain ⟨⟨hF, hK, hKl⟩, ⟨hG, hXn, hNc, hX, hst⟩, ⟨ho, hoH, hA⟩, hXs, hbl, hL⟩ := C
  obtain ⟨-, i1, i2, i3⟩ := ld_in hi hL
  have hz := e_X11_save (c_save (fun pc => (am_lk_ok (ok_X11_save l G hG) pc).1) hZ)
  refine lv_aload_n hF.1 hF.2.1 dL_law_1174 rfl (hl.2.2 _ (.tail _ (.head _))) ?_
  refine lb_callV (A := ld_A s) (R1 := fun v σ1 => sp_X12_save [.ref 189] σ1 (zResX [] (N + 100) v) ∧ al_T [] v) (rest := []) (va_runV (As := []) (b := G.1 0) hF (m_X11_save l G hG [.ref 0] _ _ (by intro v hv; simp at hv; subst hv; rfl) hz) (al_cwV 0 hF.2.2.2.2 uw_483 uw_480 uw_481 uw_482 uw_1 rfl rfl hw_X11_save ⟨by decide, by decide⟩) ⟨am_blind hG, va_recv hK.1 hH.1 (ci := 11) rfl (am_ws_get (k := 0) rfl), fun U hU hW => ⟨rfl, by rw [hU]; exact hH, hK.warm hG hW⟩⟩ rfl rfl hl.1 rfl (Nat.le_of_ble_eq_true rfl) dL_law_1175 ⟨by show cells + 0 ≤ 601024; omega, by show slots + 0 ≤ 7293034; omega⟩) (fun q h => hA q (Or.inl h)) hS hO ho ?_
  rintro v σ1 H1 locs1 ⟨hR1, hT1⟩ hH1 hO1 hS1
  obtain ⟨a9, rfl⟩ : ∃ a9 : Int32, v = some (.int a9) := hT1.elim id (fun ⟨_, _, z, _⟩ => nomatch z)
  refine lv_aload_n hF.1 hF.2.1 dL_law_1178 rfl (hl.2.2 _ (.tail _ (.tail _ (.head _)))) ?_
  refine lb_callV (A := ld_A s) (R1 := zResX [] (N + 100) (some (.int a9))) (rest := [.int a9]) (va_runV (As := []) (b := G.1 189) hF (m_X12_save l G hG hX [.ref 189] _ _ (by intro v hv; simp at hv; subst hv; rfl) hR1) (al_cwV 0 hF.2.2.2.2 uw_1629 uw_1626 uw_1627 uw_1628 uw_14 rfl rfl hw_X12_save ⟨by decide, by decide⟩) ⟨am_blind hG, va_recv hK.1 hH1.1 (ci := 12) rfl (am_ws_get (k := 189) rfl), fun U hU hW => ⟨rfl, by rw [hU]; exact hH1, hK.warm hG hW⟩⟩ rfl rfl hl.1 rfl (Nat.le_of_ble_eq_true rfl) dL_law_1179 ⟨by show cells + 0 ≤ 601024; omega, by show slots + 0 ≤ 7293034; omega⟩) (fun q h => hA q (Or.inl h)) hS1 hO1 ho ?_
  rintro w σ2 H2 locs2 ⟨hag, hZ2⟩ hH2 hO2 hS2
  obtain ⟨σ9, hE9, hZ9⟩ := hZ2
  obtain ⟨a8, y1, rfl, -⟩ : ∃ a8 : Int32, some (Value.int a9) = some (.int a8) ∧ w = some (.int a8) ∧ σ2 189 0 = 0 := hag.elim id (fun ⟨_, _, _, z, _⟩ => nomatch z)
  have y2 : a9 = a8 := by simpa using y1
  exact lv_icmp_eq hF.1 hF.2.1 dL_law_1182 (tgt := 1231) (by decide) (fun _ => (fun T hT X => (K H2 locs2 σ9 f ls (lb_eqv hE9 hH2) hO2 hS2 hZ9 hl) T hT (stand_widen X (Nat.le_succ _) (Nat.le_add_right _ _)))) (fun z => absurd y2 z)
theorem k_restore (C : ld_C l G o cL b L xs p s m c) (hi : i0 + 4 ≤ L) (hc : cells + 1 ≤ 601024) (hsl : slots + 6 ≤ 7293034) (hN : N + 100 < 2 ^ 26) (hZ : zAll N σ) (hH : am_H G σ H) (hO : al_O o cL f H) (hS : va_S (ld_A s) s.heap H locs) (hl : lv_has ls 7 (ld_l G o b i0)) (K : ld_K l G o cL b p e s m below meth c Q (cells + 1) (slots + 6) i0 (N + 100)) : W p l e room_1 s m #[.ref b] below meth c H locs cells slots Q (F0 m 1187 ls []) := by
  obtain ⟨⟨hF, hK, hKl⟩, ⟨hG, hXn, hNc, hX, hst⟩, ⟨ho, hoH, hA⟩, hXs, hbl, hL⟩ := C
  obtain ⟨-, i1, i2, i3⟩ := ld_in hi hL
  have hz0 : zCallX [1] sp_X11_restore sp_X12_restore [] (N + 100) σ := c_restore (fun pc => (am_lk_okY (oy_X11_restore l G hG hXn hst) pc).1) hZ
  have hz : sp_X11_restore [.ref 0] σ (fun v σ1 => sp_X12_restore [.ref 189] σ1 (zResX [1] (N + 100) v)) := hz0
  refine lv_aload_n hF.1 hF.2.1 dL_law_1187 rfl (hl.2.2 _ (.tail _ (.head _))) ?_
  refine lv_aload_n hF.1 hF.2.1 dL_law_1188 rfl (hl.2.2 _ (.tail _ (.tail _ (.tail _ (.head _))))) ?_
  refine lb_callS (A := ld_A s) (mc := 1) (ms := 6) (rest := []) (a := ([.ref (G.1 0), .ref o] : List Value).toArray) (vx_runSX (As := [.ref (G.1 0), .ref o]) hF (w_restore l G hG hXn hst hNc ho hoH σ f _ hz) (lb_cwS 2 hF.2.2.2.2 uw_1201 uw_1199 uw_1200 (hF.2.2.2.2 _ List.mem_cons_self) rfl rfl hd_L_restore ⟨by decide, by decide⟩) ⟨al_blind hG, fun U hU hW => ⟨rfl, by rw [hU]; exact hH, hK.warm hG hW, by rw [hU]; exact hO, va_K.moved hW.alike hKl⟩⟩ rfl rfl hl.1 rfl (Nat.le_of_ble_eq_true rfl) dL_law_1189 ⟨hc, hsl⟩) hA hS ?_
  intro k u H1 locs1 hq hH1 hO1 hS1
  refine lv_istore hF.1 hF.2.1 dL_law_1192 hl (by decide) rfl (fun ls5 (hl5 : lv_has ls5 7 [(5, .int k), (0, .ref b), (1, .ref (G.1 0)), (2, .ref (G.1 189)), (3, .ref o), (4, .int (nI i0))]) => ?_)
  refine lv_aload_n hF.1 hF.2.1 dL_law_1194 rfl (hl5.2.2 _ (.tail _ (.tail _ (.tail _ (.head _))))) ?_
  refine lb_callV (A := ld_A s) (R1 := zResX [1] (N + 100) u.2.2) (rest := []) (va_runV (As := []) (b := G.1 189) hF (m_X12_restore l G hG hX [.ref 189] _ _ (by intro v hv; simp at hv; subst hv; rfl) hq.1) (al_cwV 0 hF.2.2.2.2 uw_1633 uw_1630 uw_1631 uw_1632 uw_14 rfl rfl hw_X12_restore ⟨by decide, by decide⟩) ⟨am_blind hG, va_recv hK.1 hH1.1 (ci := 12) rfl (am_ws_get (k := 189) rfl), fun U hU hW => ⟨rfl, by rw [hU]; exact hH1, hK.warm hG hW⟩⟩ rfl rfl hl5.1 rfl (Nat.le_of_ble_eq_true rfl) dL_law_1195 ⟨by show cells + 1 + 0 ≤ 601024; omega, by show slots + 6 + 0 ≤ 7293034; omega⟩) (fun q h => hA q (Or.inl h)) hS1 hO1 ho ?_
  intro w σ2 H2 locs2 hR2 hH2 hO2 hS2
  obtain ⟨hag, hZ2⟩ := hR2
  obtain ⟨et, b9, rfl, hb9⟩ := lb_agree (by decide) (by decide) hq hag
  refine lv_istore hF.1 hF.2.1 dL_law_1198 hl5 (by decide) rfl (fun ls6 (hl6 : lv_has ls6 7 [(6, .int b9), (5, .int k), (0, .ref b), (1, .ref (G.1 0)), (2, .ref (G.1 189)), (3, .ref o), (4, .int (nI i0))]) => ?_)
  refine lv_aload_n hF.1 hF.2.1 dL_law_1200 rfl (hl6.2.2 _ (.tail _ (.tail _ (.tail _ (.tail _ (.head _)))))) ?_
  refine lb_callV (A := ld_A s) (R1 := fun v σ3 => v = some (.int (σ2 189 0)) ∧ σ3 = σ2) (rest := []) (va_runV (As := []) (b := G.1 189) hF (m_X12_thrown l G hG hX [.ref 189] _ _ (by intro v hv; simp at hv; subst hv; rfl) (lb_thr ⟨rfl, rfl⟩)) (al_cwV 0 hF.2.2.2.2 uw_1250 uw_1247 uw_1248 uw_1249 uw_14 rfl rfl hw_X12_thrown ⟨by decide, by decide⟩) ⟨am_blind hG, va_recv hK.1 hH2.1 (ci := 12) rfl (am_ws_get (k := 189) rfl), fun U hU hW => ⟨rfl, by rw [hU]; exact hH2, hK.warm hG hW⟩⟩ rfl rfl hl6.1 rfl (Nat.le_of_ble_eq_true rfl) dL_law_1201 ⟨by show cells + 1 + 0 ≤ 601024; omega, by show slots + 6 + 0 ≤ 7293034; omega⟩) (fun q h => hA q (Or.inl h)) hS2 hO2 ho ?_
  rintro v3 σ3 H3 locs3 ⟨rfl, rfl⟩ hH3 hO3 hS3
  obtain ⟨σ9, hE9, hZ9⟩ := hZ2
  refine lv_iload hF.1 hF.2.1 dL_law_1204 (hl6.2.2 _ (.tail _ (.head _))) ?_
  refine lv_icmp_eq hF.1 hF.2.1 dL_law_1206 (tgt := 1211) (by decide) (fun _ => ?_) (fun z => absurd et z)
  refine lv_iload hF.1 hF.2.1 dL_law_1211 (hl6.2.2 _ (.tail _ (.head _))) ?_
  refine lv_if_ne hF.1 hF.2.1 dL_law_1213 (tgt := 1228) (by decide) (fun _ => lv_goto hF.1 hF.2.1 dL_law_1228 (tgt := 1231) (by decide) (K H3 locs3 σ9 u.2.1 ls6 (lb_eqv hE9 hH3) hO3 hS3 hZ9 (ld_sub hl6 (fun q hq => List.mem_cons_of_mem _ (List.mem_cons_of_mem _ hq))))) (fun z => ?_)
  refine lv_aload_n hF.1 hF.2.1 dL_law_1216 rfl (hl6.2.2 _ (.tail _ (.tail _ (.tail _ (.tail _ (.tail _ (.head _))))))) ?_
  refine lv_iconst (v := 0) hF.1 hF.2.1 dL_law_1217 rfl ?_
  refine va_lald (D := G.2.1) (cl := vwCl) (ws := al_ws G o cL _ u.2.1) (tys := [(cL, .long)]) hF.1 hF.2.1 hKl (al_WP hH3 hO3) 0 0 rfl rfl al_in0 dL_law_1218 ?_
  refine lv_iload hF.1 hF.2.1 dL_law_1219 (hl6.2.2 _ (.head _)) ?_
  refine lv_i2l hF.1 hF.2.1 dL_law_1221 rfl ?_
  refine W.lcmp hF.1 hF.2.1 dL_law_1222 ?_
  exact lv_if_eq hF.1 hF.2.1 dL_law_1223 (tgt := 1228) (by decide) (fun _ => lv_goto hF.1 hF.2.1 dL_law_1228 (tgt := 1231) (by decide) (K H3 locs3 σ9 u.2.1 ls6 (lb_eqv hE9 hH3) hO3 hS3 hZ9 (ld_sub hl6 (fun q hq => List.mem_cons_of_mem _ (List.mem_cons_of_mem _ hq))))) (fun y => absurd ((lg_cmp_eq _ _).mpr (hb9 z)) y)
end LD
