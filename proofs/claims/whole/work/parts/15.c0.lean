/-! the law's wrappers: contracts (written by program: wip/whole/gen_law.py) -/
theorem uw_1 : (Jvm.Cond.initialized "CoroutineScheduler") ∈ am_tb := am_t1 1 (by decide +kernel) rfl
theorem uw_532 : (Jvm.Cond.classLink "CoroutineSchedulerLaw" (13 : Nat) "java/lang/IllegalArgumentException") ∈ am_tb := am_t1 532 (by decide +kernel) rfl
theorem uw_533 : (Jvm.Cond.classLink "CoroutineSchedulerLaw" (15 : Nat) "java/lang/IllegalStateException") ∈ am_tb := am_t1 533 (by decide +kernel) rfl
theorem uw_534 : (Jvm.Cond.methodLink "CoroutineSchedulerLaw" (7 : Nat) ({ cls := "CoroutineScheduler", name := "append", desc := "(I)I" } : Jvm.MethodName)) ∈ am_tb := am_t1 534 (by decide +kernel) rfl
theorem uw_535 : (Jvm.Cond.instanceMethod ({ cls := "CoroutineScheduler", name := "append", desc := "(I)I" } : Jvm.MethodName)) ∈ am_tb := am_t1 535 (by decide +kernel) rfl
theorem uw_536 : (Jvm.Cond.selects "CoroutineScheduler" ({ cls := "CoroutineScheduler", name := "append", desc := "(I)I" } : Jvm.MethodName) ({ cls := "CoroutineScheduler", name := "append", desc := "(I)I" } : Jvm.MethodName)) ∈ am_tb := am_t1 536 (by decide +kernel) rfl
theorem uw_537 : (Jvm.Cond.code ({ cls := "CoroutineScheduler", name := "append", desc := "(I)I" } : Jvm.MethodName) prog_1_method_2_code (5 : Nat) (Option.some Jvm.ClassFile.FieldType.int)) ∈ am_tb := am_t1 537 (by decide +kernel) rfl
theorem uw_634 : (Jvm.Cond.methodLink "CoroutineSchedulerLaw" (17 : Nat) ({ cls := "CoroutineScheduler", name := "execute", desc := "()I" } : Jvm.MethodName)) ∈ am_tb := am_t1 634 (by decide +kernel) rfl
theorem uw_635 : (Jvm.Cond.instanceMethod ({ cls := "CoroutineScheduler", name := "execute", desc := "()I" } : Jvm.MethodName)) ∈ am_tb := am_t1 635 (by decide +kernel) rfl
theorem uw_636 : (Jvm.Cond.selects "CoroutineScheduler" ({ cls := "CoroutineScheduler", name := "execute", desc := "()I" } : Jvm.MethodName) ({ cls := "CoroutineScheduler", name := "execute", desc := "()I" } : Jvm.MethodName)) ∈ am_tb := am_t1 636 (by decide +kernel) rfl
theorem uw_637 : (Jvm.Cond.code ({ cls := "CoroutineScheduler", name := "execute", desc := "()I" } : Jvm.MethodName) prog_1_method_3_code (1 : Nat) (Option.some Jvm.ClassFile.FieldType.int)) ∈ am_tb := am_t1 637 (by decide +kernel) rfl
theorem uw_733 : (Jvm.Cond.classLink "CoroutineSchedulerLaw" (25 : Nat) "java/lang/IndexOutOfBoundsException") ∈ am_tb := am_t1 733 (by decide +kernel) rfl
theorem uw_734 : (Jvm.Cond.methodLink "CoroutineSchedulerLaw" (21 : Nat) ({ cls := "CoroutineScheduler", name := "program", desc := "(II)I" } : Jvm.MethodName)) ∈ am_tb := am_t1 734 (by decide +kernel) rfl
theorem uw_735 : (Jvm.Cond.instanceMethod ({ cls := "CoroutineScheduler", name := "program", desc := "(II)I" } : Jvm.MethodName)) ∈ am_tb := am_t1 735 (by decide +kernel) rfl
theorem uw_736 : (Jvm.Cond.selects "CoroutineScheduler" ({ cls := "CoroutineScheduler", name := "program", desc := "(II)I" } : Jvm.MethodName) ({ cls := "CoroutineScheduler", name := "program", desc := "(II)I" } : Jvm.MethodName)) ∈ am_tb := am_t1 736 (by decide +kernel) rfl
theorem uw_737 : (Jvm.Cond.code ({ cls := "CoroutineScheduler", name := "program", desc := "(II)I" } : Jvm.MethodName) prog_1_method_5_code (4 : Nat) (Option.some Jvm.ClassFile.FieldType.int)) ∈ am_tb := am_t1 737 (by decide +kernel) rfl
theorem uw_760 : (Jvm.Cond.methodLink "CoroutineSchedulerLaw" (27 : Nat) ({ cls := "CoroutineScheduler", name := "start", desc := "(I)I" } : Jvm.MethodName)) ∈ am_tb := am_t1 760 (by decide +kernel) rfl
theorem uw_761 : (Jvm.Cond.instanceMethod ({ cls := "CoroutineScheduler", name := "start", desc := "(I)I" } : Jvm.MethodName)) ∈ am_tb := am_t1 761 (by decide +kernel) rfl
theorem uw_762 : (Jvm.Cond.selects "CoroutineScheduler" ({ cls := "CoroutineScheduler", name := "start", desc := "(I)I" } : Jvm.MethodName) ({ cls := "CoroutineScheduler", name := "start", desc := "(I)I" } : Jvm.MethodName)) ∈ am_tb := am_t1 762 (by decide +kernel) rfl
theorem uw_763 : (Jvm.Cond.code ({ cls := "CoroutineScheduler", name := "start", desc := "(I)I" } : Jvm.MethodName) prog_1_method_7_code (3 : Nat) (Option.some Jvm.ClassFile.FieldType.int)) ∈ am_tb := am_t1 763 (by decide +kernel) rfl
theorem uw_783 : (Jvm.Cond.methodLink "CoroutineSchedulerLaw" (30 : Nat) ({ cls := "CoroutineScheduler", name := "cancel", desc := "(I)I" } : Jvm.MethodName)) ∈ am_tb := am_t1 783 (by decide +kernel) rfl
theorem uw_784 : (Jvm.Cond.instanceMethod ({ cls := "CoroutineScheduler", name := "cancel", desc := "(I)I" } : Jvm.MethodName)) ∈ am_tb := am_t1 784 (by decide +kernel) rfl
theorem uw_785 : (Jvm.Cond.selects "CoroutineScheduler" ({ cls := "CoroutineScheduler", name := "cancel", desc := "(I)I" } : Jvm.MethodName) ({ cls := "CoroutineScheduler", name := "cancel", desc := "(I)I" } : Jvm.MethodName)) ∈ am_tb := am_t1 785 (by decide +kernel) rfl
theorem uw_786 : (Jvm.Cond.code ({ cls := "CoroutineScheduler", name := "cancel", desc := "(I)I" } : Jvm.MethodName) prog_1_method_8_code (2 : Nat) (Option.some Jvm.ClassFile.FieldType.int)) ∈ am_tb := am_t1 786 (by decide +kernel) rfl
theorem uw_828 : (Jvm.Cond.methodLink "CoroutineSchedulerLaw" (33 : Nat) ({ cls := "CoroutineScheduler", name := "run", desc := "(I)I" } : Jvm.MethodName)) ∈ am_tb := am_t1 828 (by decide +kernel) rfl
theorem uw_829 : (Jvm.Cond.instanceMethod ({ cls := "CoroutineScheduler", name := "run", desc := "(I)I" } : Jvm.MethodName)) ∈ am_tb := am_t1 829 (by decide +kernel) rfl
theorem uw_830 : (Jvm.Cond.selects "CoroutineScheduler" ({ cls := "CoroutineScheduler", name := "run", desc := "(I)I" } : Jvm.MethodName) ({ cls := "CoroutineScheduler", name := "run", desc := "(I)I" } : Jvm.MethodName)) ∈ am_tb := am_t1 830 (by decide +kernel) rfl
theorem uw_831 : (Jvm.Cond.code ({ cls := "CoroutineScheduler", name := "run", desc := "(I)I" } : Jvm.MethodName) prog_1_method_9_code (3 : Nat) (Option.some Jvm.ClassFile.FieldType.int)) ∈ am_tb := am_t1 831 (by decide +kernel) rfl
theorem uw_1061 : (Jvm.Cond.methodLink "CoroutineSchedulerLaw" (36 : Nat) ({ cls := "CoroutineScheduler", name := "task", desc := "(II)I" } : Jvm.MethodName)) ∈ am_tb := am_t1 1061 (by decide +kernel) rfl
theorem uw_1062 : (Jvm.Cond.instanceMethod ({ cls := "CoroutineScheduler", name := "task", desc := "(II)I" } : Jvm.MethodName)) ∈ am_tb := am_t1 1062 (by decide +kernel) rfl
theorem uw_1063 : (Jvm.Cond.selects "CoroutineScheduler" ({ cls := "CoroutineScheduler", name := "task", desc := "(II)I" } : Jvm.MethodName) ({ cls := "CoroutineScheduler", name := "task", desc := "(II)I" } : Jvm.MethodName)) ∈ am_tb := am_t1 1063 (by decide +kernel) rfl
theorem uw_1064 : (Jvm.Cond.code ({ cls := "CoroutineScheduler", name := "task", desc := "(II)I" } : Jvm.MethodName) prog_1_method_11_code (3 : Nat) (Option.some Jvm.ClassFile.FieldType.int)) ∈ am_tb := am_t1 1064 (by decide +kernel) rfl
theorem uw_1074 : (Jvm.Cond.methodLink "CoroutineSchedulerLaw" (39 : Nat) ({ cls := "CoroutineScheduler", name := "scope", desc := "(II)I" } : Jvm.MethodName)) ∈ am_tb := am_t1 1074 (by decide +kernel) rfl
theorem uw_1075 : (Jvm.Cond.instanceMethod ({ cls := "CoroutineScheduler", name := "scope", desc := "(II)I" } : Jvm.MethodName)) ∈ am_tb := am_t1 1075 (by decide +kernel) rfl
theorem uw_1076 : (Jvm.Cond.selects "CoroutineScheduler" ({ cls := "CoroutineScheduler", name := "scope", desc := "(II)I" } : Jvm.MethodName) ({ cls := "CoroutineScheduler", name := "scope", desc := "(II)I" } : Jvm.MethodName)) ∈ am_tb := am_t1 1076 (by decide +kernel) rfl
theorem uw_1077 : (Jvm.Cond.code ({ cls := "CoroutineScheduler", name := "scope", desc := "(II)I" } : Jvm.MethodName) prog_1_method_12_code (3 : Nat) (Option.some Jvm.ClassFile.FieldType.int)) ∈ am_tb := am_t1 1077 (by decide +kernel) rfl
theorem uw_1091 : (Jvm.Cond.classLink "CoroutineSchedulerLaw" (46 : Nat) "java/util/NoSuchElementException") ∈ am_tb := am_t1 1091 (by decide +kernel) rfl
theorem uw_1092 : (Jvm.Cond.methodLink "CoroutineSchedulerLaw" (42 : Nat) ({ cls := "CoroutineScheduler", name := "failure", desc := "(III)I" } : Jvm.MethodName)) ∈ am_tb := am_t1 1092 (by decide +kernel) rfl
theorem uw_1093 : (Jvm.Cond.instanceMethod ({ cls := "CoroutineScheduler", name := "failure", desc := "(III)I" } : Jvm.MethodName)) ∈ am_tb := am_t1 1093 (by decide +kernel) rfl
theorem uw_1094 : (Jvm.Cond.selects "CoroutineScheduler" ({ cls := "CoroutineScheduler", name := "failure", desc := "(III)I" } : Jvm.MethodName) ({ cls := "CoroutineScheduler", name := "failure", desc := "(III)I" } : Jvm.MethodName)) ∈ am_tb := am_t1 1094 (by decide +kernel) rfl
theorem uw_1095 : (Jvm.Cond.code ({ cls := "CoroutineScheduler", name := "failure", desc := "(III)I" } : Jvm.MethodName) prog_1_method_13_code (5 : Nat) (Option.some Jvm.ClassFile.FieldType.int)) ∈ am_tb := am_t1 1095 (by decide +kernel) rfl
theorem uw_1121 : (Jvm.Cond.methodLink "CoroutineSchedulerLaw" (48 : Nat) ({ cls := "CoroutineScheduler", name := "ready", desc := "(I)I" } : Jvm.MethodName)) ∈ am_tb := am_t1 1121 (by decide +kernel) rfl
theorem uw_1122 : (Jvm.Cond.instanceMethod ({ cls := "CoroutineScheduler", name := "ready", desc := "(I)I" } : Jvm.MethodName)) ∈ am_tb := am_t1 1122 (by decide +kernel) rfl
theorem uw_1123 : (Jvm.Cond.selects "CoroutineScheduler" ({ cls := "CoroutineScheduler", name := "ready", desc := "(I)I" } : Jvm.MethodName) ({ cls := "CoroutineScheduler", name := "ready", desc := "(I)I" } : Jvm.MethodName)) ∈ am_tb := am_t1 1123 (by decide +kernel) rfl
theorem uw_1124 : (Jvm.Cond.code ({ cls := "CoroutineScheduler", name := "ready", desc := "(I)I" } : Jvm.MethodName) prog_1_method_14_code (2 : Nat) (Option.some Jvm.ClassFile.FieldType.int)) ∈ am_tb := am_t1 1124 (by decide +kernel) rfl
theorem uw_1133 : (Jvm.Cond.methodLink "CoroutineSchedulerLaw" (51 : Nat) ({ cls := "CoroutineScheduler", name := "ended", desc := "(I)I" } : Jvm.MethodName)) ∈ am_tb := am_t1 1133 (by decide +kernel) rfl
theorem uw_1134 : (Jvm.Cond.instanceMethod ({ cls := "CoroutineScheduler", name := "ended", desc := "(I)I" } : Jvm.MethodName)) ∈ am_tb := am_t1 1134 (by decide +kernel) rfl
theorem uw_1135 : (Jvm.Cond.selects "CoroutineScheduler" ({ cls := "CoroutineScheduler", name := "ended", desc := "(I)I" } : Jvm.MethodName) ({ cls := "CoroutineScheduler", name := "ended", desc := "(I)I" } : Jvm.MethodName)) ∈ am_tb := am_t1 1135 (by decide +kernel) rfl
theorem uw_1136 : (Jvm.Cond.code ({ cls := "CoroutineScheduler", name := "ended", desc := "(I)I" } : Jvm.MethodName) prog_1_method_15_code (2 : Nat) (Option.some Jvm.ClassFile.FieldType.int)) ∈ am_tb := am_t1 1136 (by decide +kernel) rfl
theorem uw_1141 : (Jvm.Cond.methodLink "CoroutineSchedulerLaw" (54 : Nat) ({ cls := "CoroutineScheduler", name := "isAbove", desc := "(II)Z" } : Jvm.MethodName)) ∈ am_tb := am_t1 1141 (by decide +kernel) rfl
theorem uw_1142 : (Jvm.Cond.instanceMethod ({ cls := "CoroutineScheduler", name := "isAbove", desc := "(II)Z" } : Jvm.MethodName)) ∈ am_tb := am_t1 1142 (by decide +kernel) rfl
theorem uw_1143 : (Jvm.Cond.selects "CoroutineScheduler" ({ cls := "CoroutineScheduler", name := "isAbove", desc := "(II)Z" } : Jvm.MethodName) ({ cls := "CoroutineScheduler", name := "isAbove", desc := "(II)Z" } : Jvm.MethodName)) ∈ am_tb := am_t1 1143 (by decide +kernel) rfl
theorem uw_1144 : (Jvm.Cond.code ({ cls := "CoroutineScheduler", name := "isAbove", desc := "(II)Z" } : Jvm.MethodName) prog_1_method_16_code (5 : Nat) (Option.some Jvm.ClassFile.FieldType.boolean)) ∈ am_tb := am_t1 1144 (by decide +kernel) rfl
theorem uw_1152 : (Jvm.Cond.methodLink "CoroutineSchedulerLaw" (58 : Nat) ({ cls := "CoroutineScheduler", name := "scopeOf", desc := "(II)I" } : Jvm.MethodName)) ∈ am_tb := am_t1 1152 (by decide +kernel) rfl
theorem uw_1153 : (Jvm.Cond.instanceMethod ({ cls := "CoroutineScheduler", name := "scopeOf", desc := "(II)I" } : Jvm.MethodName)) ∈ am_tb := am_t1 1153 (by decide +kernel) rfl
theorem uw_1154 : (Jvm.Cond.selects "CoroutineScheduler" ({ cls := "CoroutineScheduler", name := "scopeOf", desc := "(II)I" } : Jvm.MethodName) ({ cls := "CoroutineScheduler", name := "scopeOf", desc := "(II)I" } : Jvm.MethodName)) ∈ am_tb := am_t1 1154 (by decide +kernel) rfl
theorem uw_1155 : (Jvm.Cond.code ({ cls := "CoroutineScheduler", name := "scopeOf", desc := "(II)I" } : Jvm.MethodName) prog_1_method_17_code (3 : Nat) (Option.some Jvm.ClassFile.FieldType.int)) ∈ am_tb := am_t1 1155 (by decide +kernel) rfl
theorem uw_1161 : (Jvm.Cond.methodLink "CoroutineSchedulerLaw" (61 : Nat) ({ cls := "CoroutineScheduler", name := "channel", desc := "(II)I" } : Jvm.MethodName)) ∈ am_tb := am_t1 1161 (by decide +kernel) rfl
theorem uw_1162 : (Jvm.Cond.instanceMethod ({ cls := "CoroutineScheduler", name := "channel", desc := "(II)I" } : Jvm.MethodName)) ∈ am_tb := am_t1 1162 (by decide +kernel) rfl
theorem uw_1163 : (Jvm.Cond.selects "CoroutineScheduler" ({ cls := "CoroutineScheduler", name := "channel", desc := "(II)I" } : Jvm.MethodName) ({ cls := "CoroutineScheduler", name := "channel", desc := "(II)I" } : Jvm.MethodName)) ∈ am_tb := am_t1 1163 (by decide +kernel) rfl
theorem uw_1164 : (Jvm.Cond.code ({ cls := "CoroutineScheduler", name := "channel", desc := "(II)I" } : Jvm.MethodName) prog_1_method_18_code (3 : Nat) (Option.some Jvm.ClassFile.FieldType.int)) ∈ am_tb := am_t1 1164 (by decide +kernel) rfl
theorem uw_1180 : (Jvm.Cond.methodLink "CoroutineSchedulerLaw" (64 : Nat) ({ cls := "CoroutineScheduler", name := "content", desc := "(II)I" } : Jvm.MethodName)) ∈ am_tb := am_t1 1180 (by decide +kernel) rfl
theorem uw_1181 : (Jvm.Cond.instanceMethod ({ cls := "CoroutineScheduler", name := "content", desc := "(II)I" } : Jvm.MethodName)) ∈ am_tb := am_t1 1181 (by decide +kernel) rfl
theorem uw_1182 : (Jvm.Cond.selects "CoroutineScheduler" ({ cls := "CoroutineScheduler", name := "content", desc := "(II)I" } : Jvm.MethodName) ({ cls := "CoroutineScheduler", name := "content", desc := "(II)I" } : Jvm.MethodName)) ∈ am_tb := am_t1 1182 (by decide +kernel) rfl
theorem uw_1183 : (Jvm.Cond.code ({ cls := "CoroutineScheduler", name := "content", desc := "(II)I" } : Jvm.MethodName) prog_1_method_19_code (3 : Nat) (Option.some Jvm.ClassFile.FieldType.int)) ∈ am_tb := am_t1 1183 (by decide +kernel) rfl
theorem uw_1189 : (Jvm.Cond.methodLink "CoroutineSchedulerLaw" (67 : Nat) ({ cls := "CoroutineScheduler", name := "count", desc := "(I)I" } : Jvm.MethodName)) ∈ am_tb := am_t1 1189 (by decide +kernel) rfl
theorem uw_1190 : (Jvm.Cond.instanceMethod ({ cls := "CoroutineScheduler", name := "count", desc := "(I)I" } : Jvm.MethodName)) ∈ am_tb := am_t1 1190 (by decide +kernel) rfl
theorem uw_1191 : (Jvm.Cond.selects "CoroutineScheduler" ({ cls := "CoroutineScheduler", name := "count", desc := "(I)I" } : Jvm.MethodName) ({ cls := "CoroutineScheduler", name := "count", desc := "(I)I" } : Jvm.MethodName)) ∈ am_tb := am_t1 1191 (by decide +kernel) rfl
theorem uw_1192 : (Jvm.Cond.code ({ cls := "CoroutineScheduler", name := "count", desc := "(I)I" } : Jvm.MethodName) prog_1_method_20_code (2 : Nat) (Option.some Jvm.ClassFile.FieldType.int)) ∈ am_tb := am_t1 1192 (by decide +kernel) rfl
theorem uw_1202 : (Jvm.Cond.methodLink "CoroutineSchedulerLaw" (70 : Nat) ({ cls := "CoroutineScheduler", name := "restore", desc := "()I" } : Jvm.MethodName)) ∈ am_tb := am_t1 1202 (by decide +kernel) rfl
theorem uw_1203 : (Jvm.Cond.instanceMethod ({ cls := "CoroutineScheduler", name := "restore", desc := "()I" } : Jvm.MethodName)) ∈ am_tb := am_t1 1203 (by decide +kernel) rfl
theorem uw_1204 : (Jvm.Cond.selects "CoroutineScheduler" ({ cls := "CoroutineScheduler", name := "restore", desc := "()I" } : Jvm.MethodName) ({ cls := "CoroutineScheduler", name := "restore", desc := "()I" } : Jvm.MethodName)) ∈ am_tb := am_t1 1204 (by decide +kernel) rfl
theorem uw_1205 : (Jvm.Cond.code ({ cls := "CoroutineScheduler", name := "restore", desc := "()I" } : Jvm.MethodName) prog_1_method_22_code (1 : Nat) (Option.some Jvm.ClassFile.FieldType.int)) ∈ am_tb := am_t1 1205 (by decide +kernel) rfl
theorem uo_543 : (Jvm.Cond.castable "java/lang/IllegalArgumentException" "java/lang/IllegalArgumentException") ∈ am_thb := List.mem_filter.mpr ⟨List.mem_of_getElem? (i := 543) (by decide +kernel), by decide +kernel⟩
theorem uo_613 : (Jvm.Cond.castable "java/lang/IllegalStateException" "java/lang/IllegalStateException") ∈ am_thb := List.mem_filter.mpr ⟨List.mem_of_getElem? (i := 613) (by decide +kernel), by decide +kernel⟩
theorem uo_740 : (Jvm.Cond.castable "java/lang/IndexOutOfBoundsException" "java/lang/IndexOutOfBoundsException") ∈ am_thb := List.mem_filter.mpr ⟨List.mem_of_getElem? (i := 740) (by decide +kernel), by decide +kernel⟩
theorem uo_1103 : (Jvm.Cond.castable "java/util/NoSuchElementException" "java/util/NoSuchElementException") ∈ am_thb := List.mem_filter.mpr ⟨List.mem_of_getElem? (i := 1103) (by decide +kernel), by decide +kernel⟩
abbrev hh_append : List (Nat × Nat × Nat × Nat) := [(0, 9, 12, 13), (0, 9, 15, 15)]
abbrev wl_append : List Cond := Cond.codeWith yL_append cL_append 4 (some .int) hh_append :: am_tb
theorem w_append (l : Launch) (G : am_G) (hG : am_ok G) (hXn : am_xn G) (hst : l.stackTraces = false) (hNc : al_xn G) {o : Nat} {cL : ClassId} (ho : ¬ am_A G o) (hoH : G.2.2.2.1.size ≤ o) (x1 : Int32) : al_Met l G o cL yL_append wl_append (am_roX 8) al_l [0, 1] [.ref 0, .int x1] sp_X11_append := by
  intro σ f R0 hs
  have hs' := e_X11_append hs
  refine vx_ofWH (cc := cL_append) (maxL := 4) (ret := some .int) (hh := hh_append) (by decide +kernel) rfl ?_
  intro p e s m args below meth c s₁ B hml hP
  obtain ⟨rfl, hH, hK, hO, hKl⟩ := hP
  have hF := (⟨B.exec, B.bytes, hml, findClass_of_methodNamed B.named, atoms_spec (ws := wl_append) B.pre⟩ : CallFix p m c cL_append 4 s _ wl_append yL_append.cls)
  have hT : c.exceptionTable.toList = tableOf hh_append := vx_table (x := yL_append) B (hF.2.2.2.2 _ List.mem_cons_self)
  have hl : lv_has _ 4 [(0, .ref (G.1 0)), (1, .int x1), (2, .ref o)] := lv_entry [.ref (G.1 0), .int x1, .ref o] (n := 4) (Nat.le_of_ble_eq_true rfl)
  rw [lg_entry_eq]
  refine lv_aload_n hF.1 hF.2.1 dL_append_0 rfl (hl.2.2 _ (.tail _ (.tail _ (.head _)))) ?_
  refine lv_iconst hF.1 hF.2.1 dL_append_1 rfl ?_
  refine lv_aload_n hF.1 hF.2.1 dL_append_2 rfl (hl.2.2 _ (.head _)) ?_
  refine lv_iload_n hF.1 hF.2.1 dL_append_3 rfl (hl.2.2 _ (.tail _ (.head _))) ?_
  refine al_callX (A := al_A G o) (R1 := fun v s => R0 v s ∧ al_T [0, 1] v) (rest := [.int 0, .ref o]) (mc := 1) (ms := 6) (vx_runV (As := [.int x1]) (b := G.1 0) hF (n_X11_append l G hG hXn hst [.ref 0, .int x1] σ _ (by intro v hv; simp at hv; rcases hv with rfl | rfl <;> rfl) hs') (al_cwV 1 hF.2.2.2.2 uw_537 uw_534 uw_535 uw_536 uw_1 rfl rfl hv_X11_append ⟨by decide, by decide⟩) ⟨am_blind hG, va_recv hK.1 hH.1 (ci := 11) rfl (am_ws_get (k := 0) rfl), fun U hU hW => ⟨rfl, by rw [hU]; exact hH, hK.warm hG hW⟩⟩ rfl rfl hl.1 rfl (Nat.le_of_ble_eq_true rfl) dL_append_4 ⟨by decide, by decide⟩) (fun q h => Or.inl h) va_S.rf ?_ ?_
  · intro E ce q9 j σ1 H1 locs1 hj hR hH1 hk1 hS1 hce hcv hcl
    obtain ⟨hR, hT2⟩ := hR
    have hB : am_H G σ1 H1 ∧ al_O o cL f H1 := ⟨hH1, (hk1 o (Array.getElem?_eq_some_iff.mp hO).1 ho).trans hO⟩
    rcases hT2 with ⟨a9, h9⟩ | ⟨n9, j9, h8, h9⟩
    · exact absurd h9 (by simp)
    have ej : j = j9 := by simpa using h9
    subst ej
    cases n9 with
    | zero =>
      cases h8
      cases hj
      refine vx_catch (own := yL_append.cls) hF.2.2.2.1 [] ⟨0, 9, 12, 13⟩ [⟨0, 9, 15, 15⟩] hT (fun z hz => absurd hz List.not_mem_nil) (by decide) (by decide) (hF.2.2.2.2 _ (List.mem_cons_of_mem _ uw_532)) (vx_ot_at (State.WarmedH.refl s) rfl (by decide +kernel) ((hXn s hK.2).2.2.2 _ uo_543)) hce hcv hcl ?_
      refine lv_astore_n hF.1 hF.2.1 dL_append_12 rfl hl (by decide) rfl (fun ls2 _ => ?_)
      refine lv_iconst hF.1 hF.2.1 dL_append_13 rfl ?_
      exact al_fin hF.1 hF.2.1 B.returns B.notSynchronized (u := (σ1, f, some (.ref (2000 + 0)))) ⟨hR, Or.inr ⟨0, 0, rfl, rfl, rfl⟩⟩ hB hS1 dL_append_14
    | succ n9 =>
      cases n9 with
      | zero =>
        cases h8
        cases hj
        refine vx_catch (own := yL_append.cls) hF.2.2.2.1 [⟨0, 9, 12, 13⟩] ⟨0, 9, 15, 15⟩ [] hT (List.forall_mem_cons.mpr ⟨Or.inr ⟨by decide, _, hF.2.2.2.2 _ (List.mem_cons_of_mem _ uw_532), hNc s hK.2 ("java/lang/IllegalStateException", "java/lang/IllegalArgumentException") (by decide)⟩, fun _ h => absurd h List.not_mem_nil⟩) (by decide) (by decide) (hF.2.2.2.2 _ (List.mem_cons_of_mem _ uw_533)) (vx_ot_at (State.WarmedH.refl s) rfl (by decide +kernel) ((hXn s hK.2).2.2.2 _ uo_613)) hce hcv hcl ?_
        refine lv_astore_n hF.1 hF.2.1 dL_append_15 rfl hl (by decide) rfl (fun ls2 _ => ?_)
        refine lv_iconst hF.1 hF.2.1 dL_append_16 rfl ?_
        exact al_fin hF.1 hF.2.1 B.returns B.notSynchronized (u := (σ1, f, some (.ref (2000 + 1)))) ⟨hR, Or.inr ⟨1, 1, rfl, rfl, rfl⟩⟩ hB hS1 dL_append_17
      | succ n9 =>
        exact absurd h8 (by simp)
  · intro v σ1 H1 locs1 hR hv hH1 hk1 hS1
    obtain ⟨hR, hT2⟩ := hR
    have hO1 : al_O o cL f H1 := (hk1 o (Array.getElem?_eq_some_iff.mp hO).1 ho).trans hO
    obtain ⟨a9, rfl⟩ := hv
    refine lv_i2l hF.1 hF.2.1 dL_append_7 rfl ?_
    refine va_last (D := G.2.1) (cl := vwCl) (ws := al_ws G o cL σ1 f) (tys := [(cL, .long)]) (A := al_A G o) (H0 := s.heap) hF.1 hF.2.1 hKl (al_WP hH1 hO1) (al_WD hG ho) hS1 0 0 rfl rfl al_in0 dL_append_8 (fun H2 locs2 hP2 _ hS2 => ?_)
    refine lv_goto hF.1 hF.2.1 dL_append_9 (tgt := 18) (by decide) ?_
    refine lv_iconst hF.1 hF.2.1 dL_append_18 rfl ?_
    exact al_fin hF.1 hF.2.1 B.returns B.notSynchronized (u := (σ1, vp_updL f (0 : Int32).toNatClampNeg a9.toInt64, some (.int a9))) ⟨hR, Or.inl ⟨a9, rfl, rfl, rfl⟩⟩ (al_back hG hoH hH hS2 hP2) hS2 dL_append_19
abbrev hh_execute : List (Nat × Nat × Nat × Nat) := [(0, 8, 11, 13), (0, 8, 14, 15)]
abbrev wl_execute : List Cond := Cond.codeWith yL_execute cL_execute 3 (some .int) hh_execute :: am_tb
theorem w_execute (l : Launch) (G : am_G) (hG : am_ok G) (hXn : am_xn G) (hst : l.stackTraces = false) (hNc : al_xn G) {o : Nat} {cL : ClassId} (ho : ¬ am_A G o) (hoH : G.2.2.2.1.size ≤ o) : al_Met l G o cL yL_execute wl_execute (am_roX 8) al_l [0, 1] [.ref 0] sp_X11_execute := by
  intro σ f R0 hs
  have hs' := e_X11_execute hs
  refine vx_ofWH (cc := cL_execute) (maxL := 3) (ret := some .int) (hh := hh_execute) (by decide +kernel) rfl ?_
  intro p e s m args below meth c s₁ B hml hP
  obtain ⟨rfl, hH, hK, hO, hKl⟩ := hP
  have hF := (⟨B.exec, B.bytes, hml, findClass_of_methodNamed B.named, atoms_spec (ws := wl_execute) B.pre⟩ : CallFix p m c cL_execute 3 s _ wl_execute yL_execute.cls)
  have hT : c.exceptionTable.toList = tableOf hh_execute := vx_table (x := yL_execute) B (hF.2.2.2.2 _ List.mem_cons_self)
  have hl : lv_has _ 3 [(0, .ref (G.1 0)), (1, .ref o)] := lv_entry [.ref (G.1 0), .ref o] (n := 3) (Nat.le_of_ble_eq_true rfl)
  rw [lg_entry_eq]
  refine lv_aload_n hF.1 hF.2.1 dL_execute_0 rfl (hl.2.2 _ (.tail _ (.head _))) ?_
  refine lv_iconst hF.1 hF.2.1 dL_execute_1 rfl ?_
  refine lv_aload_n hF.1 hF.2.1 dL_execute_2 rfl (hl.2.2 _ (.head _)) ?_
  refine al_callX (A := al_A G o) (R1 := fun v s => R0 v s ∧ al_T [0, 1] v) (rest := [.int 0, .ref o]) (mc := 1) (ms := 6) (vx_runV (As := []) (b := G.1 0) hF (n_X11_execute l G hG hXn hst [.ref 0] σ _ (by intro v hv; simp at hv; rcases hv with rfl <;> rfl) hs') (al_cwV 0 hF.2.2.2.2 uw_637 uw_634 uw_635 uw_636 uw_1 rfl rfl hv_X11_execute ⟨by decide, by decide⟩) ⟨am_blind hG, va_recv hK.1 hH.1 (ci := 11) rfl (am_ws_get (k := 0) rfl), fun U hU hW => ⟨rfl, by rw [hU]; exact hH, hK.warm hG hW⟩⟩ rfl rfl hl.1 rfl (Nat.le_of_ble_eq_true rfl) dL_execute_3 ⟨by decide, by decide⟩) (fun q h => Or.inl h) va_S.rf ?_ ?_
  · intro E ce q9 j σ1 H1 locs1 hj hR hH1 hk1 hS1 hce hcv hcl
    obtain ⟨hR, hT2⟩ := hR
    have hB : am_H G σ1 H1 ∧ al_O o cL f H1 := ⟨hH1, (hk1 o (Array.getElem?_eq_some_iff.mp hO).1 ho).trans hO⟩
    rcases hT2 with ⟨a9, h9⟩ | ⟨n9, j9, h8, h9⟩
    · exact absurd h9 (by simp)
    have ej : j = j9 := by simpa using h9
    subst ej
    cases n9 with
    | zero =>
      cases h8
      cases hj
      refine vx_catch (own := yL_execute.cls) hF.2.2.2.1 [] ⟨0, 8, 11, 13⟩ [⟨0, 8, 14, 15⟩] hT (fun z hz => absurd hz List.not_mem_nil) (by decide) (by decide) (hF.2.2.2.2 _ (List.mem_cons_of_mem _ uw_532)) (vx_ot_at (State.WarmedH.refl s) rfl (by decide +kernel) ((hXn s hK.2).2.2.2 _ uo_543)) hce hcv hcl ?_
      refine lv_astore_n hF.1 hF.2.1 dL_execute_11 rfl hl (by decide) rfl (fun ls2 _ => ?_)
      refine lv_iconst hF.1 hF.2.1 dL_execute_12 rfl ?_
      exact al_fin hF.1 hF.2.1 B.returns B.notSynchronized (u := (σ1, f, some (.ref (2000 + 0)))) ⟨hR, Or.inr ⟨0, 0, rfl, rfl, rfl⟩⟩ hB hS1 dL_execute_13
    | succ n9 =>
      cases n9 with
      | zero =>
        cases h8
        cases hj
        refine vx_catch (own := yL_execute.cls) hF.2.2.2.1 [⟨0, 8, 11, 13⟩] ⟨0, 8, 14, 15⟩ [] hT (List.forall_mem_cons.mpr ⟨Or.inr ⟨by decide, _, hF.2.2.2.2 _ (List.mem_cons_of_mem _ uw_532), hNc s hK.2 ("java/lang/IllegalStateException", "java/lang/IllegalArgumentException") (by decide)⟩, fun _ h => absurd h List.not_mem_nil⟩) (by decide) (by decide) (hF.2.2.2.2 _ (List.mem_cons_of_mem _ uw_533)) (vx_ot_at (State.WarmedH.refl s) rfl (by decide +kernel) ((hXn s hK.2).2.2.2 _ uo_613)) hce hcv hcl ?_
        refine lv_astore_n hF.1 hF.2.1 dL_execute_14 rfl hl (by decide) rfl (fun ls2 _ => ?_)
        refine lv_iconst hF.1 hF.2.1 dL_execute_15 rfl ?_
        exact al_fin hF.1 hF.2.1 B.returns B.notSynchronized (u := (σ1, f, some (.ref (2000 + 1)))) ⟨hR, Or.inr ⟨1, 1, rfl, rfl, rfl⟩⟩ hB hS1 dL_execute_16
      | succ n9 =>
        exact absurd h8 (by simp)
  · intro v σ1 H1 locs1 hR hv hH1 hk1 hS1
    obtain ⟨hR, hT2⟩ := hR
    have hO1 : al_O o cL f H1 := (hk1 o (Array.getElem?_eq_some_iff.mp hO).1 ho).trans hO
    obtain ⟨a9, rfl⟩ := hv
    refine lv_i2l hF.1 hF.2.1 dL_execute_6 rfl ?_
    refine va_last (D := G.2.1) (cl := vwCl) (ws := al_ws G o cL σ1 f) (tys := [(cL, .long)]) (A := al_A G o) (H0 := s.heap) hF.1 hF.2.1 hKl (al_WP hH1 hO1) (al_WD hG ho) hS1 0 0 rfl rfl al_in0 dL_execute_7 (fun H2 locs2 hP2 _ hS2 => ?_)
    refine lv_goto hF.1 hF.2.1 dL_execute_8 (tgt := 17) (by decide) ?_
    refine lv_iconst hF.1 hF.2.1 dL_execute_17 rfl ?_
    exact al_fin hF.1 hF.2.1 B.returns B.notSynchronized (u := (σ1, vp_updL f (0 : Int32).toNatClampNeg a9.toInt64, some (.int a9))) ⟨hR, Or.inl ⟨a9, rfl, rfl, rfl⟩⟩ (al_back hG hoH hH hS2 hP2) hS2 dL_execute_18
abbrev hh_program : List (Nat × Nat × Nat × Nat) := [(0, 10, 13, 25)]
abbrev wl_program : List Cond := Cond.codeWith yL_program cL_program 5 (some .int) hh_program :: am_tb
theorem w_program (l : Launch) (G : am_G) (hG : am_ok G) (hXn : am_xn G) (hst : l.stackTraces = false) (hNc : al_xn G) {o : Nat} {cL : ClassId} (ho : ¬ am_A G o) (hoH : G.2.2.2.1.size ≤ o) (x1 : Int32) (x2 : Int32) : al_Met l G o cL yL_program wl_program (am_roX 8) al_l [2] [.ref 0, .int x1, .int x2] sp_X11_program := by
  intro σ f R0 hs
  have hs' := e_X11_program hs
  refine vx_ofWH (cc := cL_program) (maxL := 5) (ret := some .int) (hh := hh_program) (by decide +kernel) rfl ?_
  intro p e s m args below meth c s₁ B hml hP
  obtain ⟨rfl, hH, hK, hO, hKl⟩ := hP
  have hF := (⟨B.exec, B.bytes, hml, findClass_of_methodNamed B.named, atoms_spec (ws := wl_program) B.pre⟩ : CallFix p m c cL_program 5 s _ wl_program yL_program.cls)
  have hT : c.exceptionTable.toList = tableOf hh_program := vx_table (x := yL_program) B (hF.2.2.2.2 _ List.mem_cons_self)
  have hl : lv_has _ 5 [(0, .ref (G.1 0)), (1, .int x1), (2, .int x2), (3, .ref o)] := lv_entry [.ref (G.1 0), .int x1, .int x2, .ref o] (n := 5) (Nat.le_of_ble_eq_true rfl)
  rw [lg_entry_eq]
  refine lv_aload_n hF.1 hF.2.1 dL_program_0 rfl (hl.2.2 _ (.tail _ (.tail _ (.tail _ (.head _))))) ?_
  refine lv_iconst hF.1 hF.2.1 dL_program_1 rfl ?_
  refine lv_aload_n hF.1 hF.2.1 dL_program_2 rfl (hl.2.2 _ (.head _)) ?_
  refine lv_iload_n hF.1 hF.2.1 dL_program_3 rfl (hl.2.2 _ (.tail _ (.head _))) ?_
  refine lv_iload_n hF.1 hF.2.1 dL_program_4 rfl (hl.2.2 _ (.tail _ (.tail _ (.head _)))) ?_
  refine al_callX (A := al_A G o) (R1 := fun v s => R0 v s ∧ al_T [2] v) (rest := [.int 0, .ref o]) (mc := 1) (ms := 6) (vx_runV (As := [.int x1, .int x2]) (b := G.1 0) hF (n_X11_program l G hG hXn hst [.ref 0, .int x1, .int x2] σ _ (by intro v hv; simp at hv; rcases hv with rfl | rfl | rfl <;> rfl) hs') (al_cwV 2 hF.2.2.2.2 uw_737 uw_734 uw_735 uw_736 uw_1 rfl rfl hv_X11_program ⟨by decide, by decide⟩) ⟨am_blind hG, va_recv hK.1 hH.1 (ci := 11) rfl (am_ws_get (k := 0) rfl), fun U hU hW => ⟨rfl, by rw [hU]; exact hH, hK.warm hG hW⟩⟩ rfl rfl hl.1 rfl (Nat.le_of_ble_eq_true rfl) dL_program_5 ⟨by decide, by decide⟩) (fun q h => Or.inl h) va_S.rf ?_ ?_
  · intro E ce q9 j σ1 H1 locs1 hj hR hH1 hk1 hS1 hce hcv hcl
    obtain ⟨hR, hT2⟩ := hR
    have hB : am_H G σ1 H1 ∧ al_O o cL f H1 := ⟨hH1, (hk1 o (Array.getElem?_eq_some_iff.mp hO).1 ho).trans hO⟩
    rcases hT2 with ⟨a9, h9⟩ | ⟨n9, j9, h8, h9⟩
    · exact absurd h9 (by simp)
    have ej : j = j9 := by simpa using h9
    subst ej
    cases n9 with
    | zero =>
      cases h8
      cases hj
      refine vx_catch (own := yL_program.cls) hF.2.2.2.1 [] ⟨0, 10, 13, 25⟩ [] hT (fun z hz => absurd hz List.not_mem_nil) (by decide) (by decide) (hF.2.2.2.2 _ (List.mem_cons_of_mem _ uw_733)) (vx_ot_at (State.WarmedH.refl s) rfl (by decide +kernel) ((hXn s hK.2).2.2.2 _ uo_740)) hce hcv hcl ?_
      refine lv_astore hF.1 hF.2.1 dL_program_13 hl (by decide) rfl (fun ls2 _ => ?_)
      refine lv_iconst hF.1 hF.2.1 dL_program_15 rfl ?_
      exact al_fin hF.1 hF.2.1 B.returns B.notSynchronized (u := (σ1, f, some (.ref (2000 + 2)))) ⟨hR, Or.inr ⟨0, 2, rfl, rfl, rfl⟩⟩ hB hS1 dL_program_16
    | succ n9 =>
      exact absurd h8 (by simp)
  · intro v σ1 H1 locs1 hR hv hH1 hk1 hS1
    obtain ⟨hR, hT2⟩ := hR
    have hO1 : al_O o cL f H1 := (hk1 o (Array.getElem?_eq_some_iff.mp hO).1 ho).trans hO
    obtain ⟨a9, rfl⟩ := hv
    refine lv_i2l hF.1 hF.2.1 dL_program_8 rfl ?_
    refine va_last (D := G.2.1) (cl := vwCl) (ws := al_ws G o cL σ1 f) (tys := [(cL, .long)]) (A := al_A G o) (H0 := s.heap) hF.1 hF.2.1 hKl (al_WP hH1 hO1) (al_WD hG ho) hS1 0 0 rfl rfl al_in0 dL_program_9 (fun H2 locs2 hP2 _ hS2 => ?_)
    refine lv_goto hF.1 hF.2.1 dL_program_10 (tgt := 17) (by decide) ?_
    refine lv_iconst hF.1 hF.2.1 dL_program_17 rfl ?_
    exact al_fin hF.1 hF.2.1 B.returns B.notSynchronized (u := (σ1, vp_updL f (0 : Int32).toNatClampNeg a9.toInt64, some (.int a9))) ⟨hR, Or.inl ⟨a9, rfl, rfl, rfl⟩⟩ (al_back hG hoH hH hS2 hP2) hS2 dL_program_18
abbrev hh_start : List (Nat × Nat × Nat × Nat) := [(0, 9, 12, 25), (0, 9, 15, 15)]
abbrev wl_start : List Cond := Cond.codeWith yL_start cL_start 4 (some .int) hh_start :: am_tb
theorem w_start (l : Launch) (G : am_G) (hG : am_ok G) (hXn : am_xn G) (hst : l.stackTraces = false) (hNc : al_xn G) {o : Nat} {cL : ClassId} (ho : ¬ am_A G o) (hoH : G.2.2.2.1.size ≤ o) (x1 : Int32) : al_Met l G o cL yL_start wl_start (am_roX 8) al_l [2, 1] [.ref 0, .int x1] sp_X11_start := by
  intro σ f R0 hs
  have hs' := e_X11_start hs
  refine vx_ofWH (cc := cL_start) (maxL := 4) (ret := some .int) (hh := hh_start) (by decide +kernel) rfl ?_
  intro p e s m args below meth c s₁ B hml hP
  obtain ⟨rfl, hH, hK, hO, hKl⟩ := hP
  have hF := (⟨B.exec, B.bytes, hml, findClass_of_methodNamed B.named, atoms_spec (ws := wl_start) B.pre⟩ : CallFix p m c cL_start 4 s _ wl_start yL_start.cls)
  have hT : c.exceptionTable.toList = tableOf hh_start := vx_table (x := yL_start) B (hF.2.2.2.2 _ List.mem_cons_self)
  have hl : lv_has _ 4 [(0, .ref (G.1 0)), (1, .int x1), (2, .ref o)] := lv_entry [.ref (G.1 0), .int x1, .ref o] (n := 4) (Nat.le_of_ble_eq_true rfl)
  rw [lg_entry_eq]
  refine lv_aload_n hF.1 hF.2.1 dL_start_0 rfl (hl.2.2 _ (.tail _ (.tail _ (.head _)))) ?_
  refine lv_iconst hF.1 hF.2.1 dL_start_1 rfl ?_
  refine lv_aload_n hF.1 hF.2.1 dL_start_2 rfl (hl.2.2 _ (.head _)) ?_
  refine lv_iload_n hF.1 hF.2.1 dL_start_3 rfl (hl.2.2 _ (.tail _ (.head _))) ?_
  refine al_callX (A := al_A G o) (R1 := fun v s => R0 v s ∧ al_T [2, 1] v) (rest := [.int 0, .ref o]) (mc := 1) (ms := 6) (vx_runV (As := [.int x1]) (b := G.1 0) hF (n_X11_start l G hG hXn hst [.ref 0, .int x1] σ _ (by intro v hv; simp at hv; rcases hv with rfl | rfl <;> rfl) hs') (al_cwV 1 hF.2.2.2.2 uw_763 uw_760 uw_761 uw_762 uw_1 rfl rfl hv_X11_start ⟨by decide, by decide⟩) ⟨am_blind hG, va_recv hK.1 hH.1 (ci := 11) rfl (am_ws_get (k := 0) rfl), fun U hU hW => ⟨rfl, by rw [hU]; exact hH, hK.warm hG hW⟩⟩ rfl rfl hl.1 rfl (Nat.le_of_ble_eq_true rfl) dL_start_4 ⟨by decide, by decide⟩) (fun q h => Or.inl h) va_S.rf ?_ ?_
  · intro E ce q9 j σ1 H1 locs1 hj hR hH1 hk1 hS1 hce hcv hcl
    obtain ⟨hR, hT2⟩ := hR
    have hB : am_H G σ1 H1 ∧ al_O o cL f H1 := ⟨hH1, (hk1 o (Array.getElem?_eq_some_iff.mp hO).1 ho).trans hO⟩
    rcases hT2 with ⟨a9, h9⟩ | ⟨n9, j9, h8, h9⟩
    · exact absurd h9 (by simp)
    have ej : j = j9 := by simpa using h9
    subst ej
    cases n9 with
    | zero =>
      cases h8
      cases hj
      refine vx_catch (own := yL_start.cls) hF.2.2.2.1 [] ⟨0, 9, 12, 25⟩ [⟨0, 9, 15, 15⟩] hT (fun z hz => absurd hz List.not_mem_nil) (by decide) (by decide) (hF.2.2.2.2 _ (List.mem_cons_of_mem _ uw_733)) (vx_ot_at (State.WarmedH.refl s) rfl (by decide +kernel) ((hXn s hK.2).2.2.2 _ uo_740)) hce hcv hcl ?_
      refine lv_astore_n hF.1 hF.2.1 dL_start_12 rfl hl (by decide) rfl (fun ls2 _ => ?_)
      refine lv_iconst hF.1 hF.2.1 dL_start_13 rfl ?_
      exact al_fin hF.1 hF.2.1 B.returns B.notSynchronized (u := (σ1, f, some (.ref (2000 + 2)))) ⟨hR, Or.inr ⟨0, 2, rfl, rfl, rfl⟩⟩ hB hS1 dL_start_14
    | succ n9 =>
      cases n9 with
      | zero =>
        cases h8
        cases hj
        refine vx_catch (own := yL_start.cls) hF.2.2.2.1 [⟨0, 9, 12, 25⟩] ⟨0, 9, 15, 15⟩ [] hT (List.forall_mem_cons.mpr ⟨Or.inr ⟨by decide, _, hF.2.2.2.2 _ (List.mem_cons_of_mem _ uw_733), hNc s hK.2 ("java/lang/IllegalStateException", "java/lang/IndexOutOfBoundsException") (by decide)⟩, fun _ h => absurd h List.not_mem_nil⟩) (by decide) (by decide) (hF.2.2.2.2 _ (List.mem_cons_of_mem _ uw_533)) (vx_ot_at (State.WarmedH.refl s) rfl (by decide +kernel) ((hXn s hK.2).2.2.2 _ uo_613)) hce hcv hcl ?_
        refine lv_astore_n hF.1 hF.2.1 dL_start_15 rfl hl (by decide) rfl (fun ls2 _ => ?_)
        refine lv_iconst hF.1 hF.2.1 dL_start_16 rfl ?_
        exact al_fin hF.1 hF.2.1 B.returns B.notSynchronized (u := (σ1, f, some (.ref (2000 + 1)))) ⟨hR, Or.inr ⟨1, 1, rfl, rfl, rfl⟩⟩ hB hS1 dL_start_17
      | succ n9 =>
        exact absurd h8 (by simp)
  · intro v σ1 H1 locs1 hR hv hH1 hk1 hS1
    obtain ⟨hR, hT2⟩ := hR
    have hO1 : al_O o cL f H1 := (hk1 o (Array.getElem?_eq_some_iff.mp hO).1 ho).trans hO
    obtain ⟨a9, rfl⟩ := hv
    refine lv_i2l hF.1 hF.2.1 dL_start_7 rfl ?_
    refine va_last (D := G.2.1) (cl := vwCl) (ws := al_ws G o cL σ1 f) (tys := [(cL, .long)]) (A := al_A G o) (H0 := s.heap) hF.1 hF.2.1 hKl (al_WP hH1 hO1) (al_WD hG ho) hS1 0 0 rfl rfl al_in0 dL_start_8 (fun H2 locs2 hP2 _ hS2 => ?_)
    refine lv_goto hF.1 hF.2.1 dL_start_9 (tgt := 18) (by decide) ?_
    refine lv_iconst hF.1 hF.2.1 dL_start_18 rfl ?_
    exact al_fin hF.1 hF.2.1 B.returns B.notSynchronized (u := (σ1, vp_updL f (0 : Int32).toNatClampNeg a9.toInt64, some (.int a9))) ⟨hR, Or.inl ⟨a9, rfl, rfl, rfl⟩⟩ (al_back hG hoH hH hS2 hP2) hS2 dL_start_19
abbrev hh_cancel : List (Nat × Nat × Nat × Nat) := [(0, 9, 12, 25)]
abbrev wl_cancel : List Cond := Cond.codeWith yL_cancel cL_cancel 4 (some .int) hh_cancel :: am_tb
theorem w_cancel (l : Launch) (G : am_G) (hG : am_ok G) (hXn : am_xn G) (hst : l.stackTraces = false) (hNc : al_xn G) {o : Nat} {cL : ClassId} (ho : ¬ am_A G o) (hoH : G.2.2.2.1.size ≤ o) (x1 : Int32) : al_Met l G o cL yL_cancel wl_cancel (am_roX 8) al_l [2] [.ref 0, .int x1] sp_X11_cancel := by
  intro σ f R0 hs
  have hs' := e_X11_cancel hs
  refine vx_ofWH (cc := cL_cancel) (maxL := 4) (ret := some .int) (hh := hh_cancel) (by decide +kernel) rfl ?_
  intro p e s m args below meth c s₁ B hml hP
  obtain ⟨rfl, hH, hK, hO, hKl⟩ := hP
  have hF := (⟨B.exec, B.bytes, hml, findClass_of_methodNamed B.named, atoms_spec (ws := wl_cancel) B.pre⟩ : CallFix p m c cL_cancel 4 s _ wl_cancel yL_cancel.cls)
  have hT : c.exceptionTable.toList = tableOf hh_cancel := vx_table (x := yL_cancel) B (hF.2.2.2.2 _ List.mem_cons_self)
  have hl : lv_has _ 4 [(0, .ref (G.1 0)), (1, .int x1), (2, .ref o)] := lv_entry [.ref (G.1 0), .int x1, .ref o] (n := 4) (Nat.le_of_ble_eq_true rfl)
  rw [lg_entry_eq]
  refine lv_aload_n hF.1 hF.2.1 dL_cancel_0 rfl (hl.2.2 _ (.tail _ (.tail _ (.head _)))) ?_
  refine lv_iconst hF.1 hF.2.1 dL_cancel_1 rfl ?_
  refine lv_aload_n hF.1 hF.2.1 dL_cancel_2 rfl (hl.2.2 _ (.head _)) ?_
  refine lv_iload_n hF.1 hF.2.1 dL_cancel_3 rfl (hl.2.2 _ (.tail _ (.head _))) ?_
  refine al_callX (A := al_A G o) (R1 := fun v s => R0 v s ∧ al_T [2] v) (rest := [.int 0, .ref o]) (mc := 1) (ms := 6) (vx_runV (As := [.int x1]) (b := G.1 0) hF (n_X11_cancel l G hG hXn hst [.ref 0, .int x1] σ _ (by intro v hv; simp at hv; rcases hv with rfl | rfl <;> rfl) hs') (al_cwV 1 hF.2.2.2.2 uw_786 uw_783 uw_784 uw_785 uw_1 rfl rfl hv_X11_cancel ⟨by decide, by decide⟩) ⟨am_blind hG, va_recv hK.1 hH.1 (ci := 11) rfl (am_ws_get (k := 0) rfl), fun U hU hW => ⟨rfl, by rw [hU]; exact hH, hK.warm hG hW⟩⟩ rfl rfl hl.1 rfl (Nat.le_of_ble_eq_true rfl) dL_cancel_4 ⟨by decide, by decide⟩) (fun q h => Or.inl h) va_S.rf ?_ ?_
  · intro E ce q9 j σ1 H1 locs1 hj hR hH1 hk1 hS1 hce hcv hcl
    obtain ⟨hR, hT2⟩ := hR
    have hB : am_H G σ1 H1 ∧ al_O o cL f H1 := ⟨hH1, (hk1 o (Array.getElem?_eq_some_iff.mp hO).1 ho).trans hO⟩
    rcases hT2 with ⟨a9, h9⟩ | ⟨n9, j9, h8, h9⟩
    · exact absurd h9 (by simp)
    have ej : j = j9 := by simpa using h9
    subst ej
    cases n9 with
    | zero =>
      cases h8
      cases hj
      refine vx_catch (own := yL_cancel.cls) hF.2.2.2.1 [] ⟨0, 9, 12, 25⟩ [] hT (fun z hz => absurd hz List.not_mem_nil) (by decide) (by decide) (hF.2.2.2.2 _ (List.mem_cons_of_mem _ uw_733)) (vx_ot_at (State.WarmedH.refl s) rfl (by decide +kernel) ((hXn s hK.2).2.2.2 _ uo_740)) hce hcv hcl ?_
      refine lv_astore_n hF.1 hF.2.1 dL_cancel_12 rfl hl (by decide) rfl (fun ls2 _ => ?_)
      refine lv_iconst hF.1 hF.2.1 dL_cancel_13 rfl ?_
      exact al_fin hF.1 hF.2.1 B.returns B.notSynchronized (u := (σ1, f, some (.ref (2000 + 2)))) ⟨hR, Or.inr ⟨0, 2, rfl, rfl, rfl⟩⟩ hB hS1 dL_cancel_14
    | succ n9 =>
      exact absurd h8 (by simp)
  · intro v σ1 H1 locs1 hR hv hH1 hk1 hS1
    obtain ⟨hR, hT2⟩ := hR
    have hO1 : al_O o cL f H1 := (hk1 o (Array.getElem?_eq_some_iff.mp hO).1 ho).trans hO
    obtain ⟨a9, rfl⟩ := hv
    refine lv_i2l hF.1 hF.2.1 dL_cancel_7 rfl ?_
    refine va_last (D := G.2.1) (cl := vwCl) (ws := al_ws G o cL σ1 f) (tys := [(cL, .long)]) (A := al_A G o) (H0 := s.heap) hF.1 hF.2.1 hKl (al_WP hH1 hO1) (al_WD hG ho) hS1 0 0 rfl rfl al_in0 dL_cancel_8 (fun H2 locs2 hP2 _ hS2 => ?_)
    refine lv_goto hF.1 hF.2.1 dL_cancel_9 (tgt := 15) (by decide) ?_
    refine lv_iconst hF.1 hF.2.1 dL_cancel_15 rfl ?_
    exact al_fin hF.1 hF.2.1 B.returns B.notSynchronized (u := (σ1, vp_updL f (0 : Int32).toNatClampNeg a9.toInt64, some (.int a9))) ⟨hR, Or.inl ⟨a9, rfl, rfl, rfl⟩⟩ (al_back hG hoH hH hS2 hP2) hS2 dL_cancel_16
abbrev hh_run : List (Nat × Nat × Nat × Nat) := [(0, 9, 12, 13)]
abbrev wl_run : List Cond := Cond.codeWith yL_run cL_run 4 (some .int) hh_run :: am_tb
theorem w_run (l : Launch) (G : am_G) (hG : am_ok G) (hXn : am_xn G) (hst : l.stackTraces = false) (hNc : al_xn G) {o : Nat} {cL : ClassId} (ho : ¬ am_A G o) (hoH : G.2.2.2.1.size ≤ o) (x1 : Int32) : al_Met l G o cL yL_run wl_run (am_roX 8) al_l [0] [.ref 0, .int x1] sp_X11_run := by
  intro σ f R0 hs
  have hs' := e_X11_run hs
  refine vx_ofWH (cc := cL_run) (maxL := 4) (ret := some .int) (hh := hh_run) (by decide +kernel) rfl ?_
  intro p e s m args below meth c s₁ B hml hP
  obtain ⟨rfl, hH, hK, hO, hKl⟩ := hP
  have hF := (⟨B.exec, B.bytes, hml, findClass_of_methodNamed B.named, atoms_spec (ws := wl_run) B.pre⟩ : CallFix p m c cL_run 4 s _ wl_run yL_run.cls)
  have hT : c.exceptionTable.toList = tableOf hh_run := vx_table (x := yL_run) B (hF.2.2.2.2 _ List.mem_cons_self)
  have hl : lv_has _ 4 [(0, .ref (G.1 0)), (1, .int x1), (2, .ref o)] := lv_entry [.ref (G.1 0), .int x1, .ref o] (n := 4) (Nat.le_of_ble_eq_true rfl)
  rw [lg_entry_eq]
  refine lv_aload_n hF.1 hF.2.1 dL_run_0 rfl (hl.2.2 _ (.tail _ (.tail _ (.head _)))) ?_
  refine lv_iconst hF.1 hF.2.1 dL_run_1 rfl ?_
  refine lv_aload_n hF.1 hF.2.1 dL_run_2 rfl (hl.2.2 _ (.head _)) ?_
  refine lv_iload_n hF.1 hF.2.1 dL_run_3 rfl (hl.2.2 _ (.tail _ (.head _))) ?_
  refine al_callX (A := al_A G o) (R1 := fun v s => R0 v s ∧ al_T [0] v) (rest := [.int 0, .ref o]) (mc := 1) (ms := 6) (vx_runV (As := [.int x1]) (b := G.1 0) hF (n_X11_run l G hG hXn hst [.ref 0, .int x1] σ _ (by intro v hv; simp at hv; rcases hv with rfl | rfl <;> rfl) hs') (al_cwV 1 hF.2.2.2.2 uw_831 uw_828 uw_829 uw_830 uw_1 rfl rfl hv_X11_run ⟨by decide, by decide⟩) ⟨am_blind hG, va_recv hK.1 hH.1 (ci := 11) rfl (am_ws_get (k := 0) rfl), fun U hU hW => ⟨rfl, by rw [hU]; exact hH, hK.warm hG hW⟩⟩ rfl rfl hl.1 rfl (Nat.le_of_ble_eq_true rfl) dL_run_4 ⟨by decide, by decide⟩) (fun q h => Or.inl h) va_S.rf ?_ ?_
  · intro E ce q9 j σ1 H1 locs1 hj hR hH1 hk1 hS1 hce hcv hcl
    obtain ⟨hR, hT2⟩ := hR
    have hB : am_H G σ1 H1 ∧ al_O o cL f H1 := ⟨hH1, (hk1 o (Array.getElem?_eq_some_iff.mp hO).1 ho).trans hO⟩
    rcases hT2 with ⟨a9, h9⟩ | ⟨n9, j9, h8, h9⟩
    · exact absurd h9 (by simp)
    have ej : j = j9 := by simpa using h9
    subst ej
    cases n9 with
    | zero =>
      cases h8
      cases hj
      refine vx_catch (own := yL_run.cls) hF.2.2.2.1 [] ⟨0, 9, 12, 13⟩ [] hT (fun z hz => absurd hz List.not_mem_nil) (by decide) (by decide) (hF.2.2.2.2 _ (List.mem_cons_of_mem _ uw_532)) (vx_ot_at (State.WarmedH.refl s) rfl (by decide +kernel) ((hXn s hK.2).2.2.2 _ uo_543)) hce hcv hcl ?_
      refine lv_astore_n hF.1 hF.2.1 dL_run_12 rfl hl (by decide) rfl (fun ls2 _ => ?_)
      refine lv_iconst hF.1 hF.2.1 dL_run_13 rfl ?_
      exact al_fin hF.1 hF.2.1 B.returns B.notSynchronized (u := (σ1, f, some (.ref (2000 + 0)))) ⟨hR, Or.inr ⟨0, 0, rfl, rfl, rfl⟩⟩ hB hS1 dL_run_14
    | succ n9 =>
      exact absurd h8 (by simp)
  · intro v σ1 H1 locs1 hR hv hH1 hk1 hS1
    obtain ⟨hR, hT2⟩ := hR
    have hO1 : al_O o cL f H1 := (hk1 o (Array.getElem?_eq_some_iff.mp hO).1 ho).trans hO
    obtain ⟨a9, rfl⟩ := hv
    refine lv_i2l hF.1 hF.2.1 dL_run_7 rfl ?_
    refine va_last (D := G.2.1) (cl := vwCl) (ws := al_ws G o cL σ1 f) (tys := [(cL, .long)]) (A := al_A G o) (H0 := s.heap) hF.1 hF.2.1 hKl (al_WP hH1 hO1) (al_WD hG ho) hS1 0 0 rfl rfl al_in0 dL_run_8 (fun H2 locs2 hP2 _ hS2 => ?_)
    refine lv_goto hF.1 hF.2.1 dL_run_9 (tgt := 15) (by decide) ?_
    refine lv_iconst hF.1 hF.2.1 dL_run_15 rfl ?_
    exact al_fin hF.1 hF.2.1 B.returns B.notSynchronized (u := (σ1, vp_updL f (0 : Int32).toNatClampNeg a9.toInt64, some (.int a9))) ⟨hR, Or.inl ⟨a9, rfl, rfl, rfl⟩⟩ (al_back hG hoH hH hS2 hP2) hS2 dL_run_16
abbrev hh_task : List (Nat × Nat × Nat × Nat) := [(0, 10, 13, 25), (0, 10, 17, 13)]
abbrev wl_task : List Cond := Cond.codeWith yL_task cL_task 5 (some .int) hh_task :: am_tb
theorem w_task (l : Launch) (G : am_G) (hG : am_ok G) (hXn : am_xn G) (hst : l.stackTraces = false) (hNc : al_xn G) {o : Nat} {cL : ClassId} (ho : ¬ am_A G o) (hoH : G.2.2.2.1.size ≤ o) (x1 : Int32) (x2 : Int32) : al_Met l G o cL yL_task wl_task (am_roX 8) al_l [2, 0] [.ref 0, .int x1, .int x2] sp_X11_task := by
  intro σ f R0 hs
  have hs' := e_X11_task hs
  refine vx_ofWH (cc := cL_task) (maxL := 5) (ret := some .int) (hh := hh_task) (by decide +kernel) rfl ?_
  intro p e s m args below meth c s₁ B hml hP
  obtain ⟨rfl, hH, hK, hO, hKl⟩ := hP
  have hF := (⟨B.exec, B.bytes, hml, findClass_of_methodNamed B.named, atoms_spec (ws := wl_task) B.pre⟩ : CallFix p m c cL_task 5 s _ wl_task yL_task.cls)
  have hT : c.exceptionTable.toList = tableOf hh_task := vx_table (x := yL_task) B (hF.2.2.2.2 _ List.mem_cons_self)
  have hl : lv_has _ 5 [(0, .ref (G.1 0)), (1, .int x1), (2, .int x2), (3, .ref o)] := lv_entry [.ref (G.1 0), .int x1, .int x2, .ref o] (n := 5) (Nat.le_of_ble_eq_true rfl)
  rw [lg_entry_eq]
  refine lv_aload_n hF.1 hF.2.1 dL_task_0 rfl (hl.2.2 _ (.tail _ (.tail _ (.tail _ (.head _))))) ?_
  refine lv_iconst hF.1 hF.2.1 dL_task_1 rfl ?_
  refine lv_aload_n hF.1 hF.2.1 dL_task_2 rfl (hl.2.2 _ (.head _)) ?_
  refine lv_iload_n hF.1 hF.2.1 dL_task_3 rfl (hl.2.2 _ (.tail _ (.head _))) ?_
  refine lv_iload_n hF.1 hF.2.1 dL_task_4 rfl (hl.2.2 _ (.tail _ (.tail _ (.head _)))) ?_
  refine al_callX (A := al_A G o) (R1 := fun v s => R0 v s ∧ al_T [2, 0] v) (rest := [.int 0, .ref o]) (mc := 1) (ms := 6) (vx_runV (As := [.int x1, .int x2]) (b := G.1 0) hF (n_X11_task l G hG hXn hst [.ref 0, .int x1, .int x2] σ _ (by intro v hv; simp at hv; rcases hv with rfl | rfl | rfl <;> rfl) hs') (al_cwV 2 hF.2.2.2.2 uw_1064 uw_1061 uw_1062 uw_1063 uw_1 rfl rfl hv_X11_task ⟨by decide, by decide⟩) ⟨am_blind hG, va_recv hK.1 hH.1 (ci := 11) rfl (am_ws_get (k := 0) rfl), fun U hU hW => ⟨rfl, by rw [hU]; exact hH, hK.warm hG hW⟩⟩ rfl rfl hl.1 rfl (Nat.le_of_ble_eq_true rfl) dL_task_5 ⟨by decide, by decide⟩) (fun q h => Or.inl h) va_S.rf ?_ ?_
  · intro E ce q9 j σ1 H1 locs1 hj hR hH1 hk1 hS1 hce hcv hcl
    obtain ⟨hR, hT2⟩ := hR
    have hB : am_H G σ1 H1 ∧ al_O o cL f H1 := ⟨hH1, (hk1 o (Array.getElem?_eq_some_iff.mp hO).1 ho).trans hO⟩
    rcases hT2 with ⟨a9, h9⟩ | ⟨n9, j9, h8, h9⟩
    · exact absurd h9 (by simp)
    have ej : j = j9 := by simpa using h9
    subst ej
    cases n9 with
    | zero =>
      cases h8
      cases hj
      refine vx_catch (own := yL_task.cls) hF.2.2.2.1 [] ⟨0, 10, 13, 25⟩ [⟨0, 10, 17, 13⟩] hT (fun z hz => absurd hz List.not_mem_nil) (by decide) (by decide) (hF.2.2.2.2 _ (List.mem_cons_of_mem _ uw_733)) (vx_ot_at (State.WarmedH.refl s) rfl (by decide +kernel) ((hXn s hK.2).2.2.2 _ uo_740)) hce hcv hcl ?_
      refine lv_astore hF.1 hF.2.1 dL_task_13 hl (by decide) rfl (fun ls2 _ => ?_)
      refine lv_iconst hF.1 hF.2.1 dL_task_15 rfl ?_
      exact al_fin hF.1 hF.2.1 B.returns B.notSynchronized (u := (σ1, f, some (.ref (2000 + 2)))) ⟨hR, Or.inr ⟨0, 2, rfl, rfl, rfl⟩⟩ hB hS1 dL_task_16
    | succ n9 =>
      cases n9 with
      | zero =>
        cases h8
        cases hj
        refine vx_catch (own := yL_task.cls) hF.2.2.2.1 [⟨0, 10, 13, 25⟩] ⟨0, 10, 17, 13⟩ [] hT (List.forall_mem_cons.mpr ⟨Or.inr ⟨by decide, _, hF.2.2.2.2 _ (List.mem_cons_of_mem _ uw_733), hNc s hK.2 ("java/lang/IllegalArgumentException", "java/lang/IndexOutOfBoundsException") (by decide)⟩, fun _ h => absurd h List.not_mem_nil⟩) (by decide) (by decide) (hF.2.2.2.2 _ (List.mem_cons_of_mem _ uw_532)) (vx_ot_at (State.WarmedH.refl s) rfl (by decide +kernel) ((hXn s hK.2).2.2.2 _ uo_543)) hce hcv hcl ?_
        refine lv_astore hF.1 hF.2.1 dL_task_17 hl (by decide) rfl (fun ls2 _ => ?_)
        refine lv_iconst hF.1 hF.2.1 dL_task_19 rfl ?_
        exact al_fin hF.1 hF.2.1 B.returns B.notSynchronized (u := (σ1, f, some (.ref (2000 + 0)))) ⟨hR, Or.inr ⟨1, 0, rfl, rfl, rfl⟩⟩ hB hS1 dL_task_20
      | succ n9 =>
        exact absurd h8 (by simp)
  · intro v σ1 H1 locs1 hR hv hH1 hk1 hS1
    obtain ⟨hR, hT2⟩ := hR
    have hO1 : al_O o cL f H1 := (hk1 o (Array.getElem?_eq_some_iff.mp hO).1 ho).trans hO
    obtain ⟨a9, rfl⟩ := hv
    refine lv_i2l hF.1 hF.2.1 dL_task_8 rfl ?_
    refine va_last (D := G.2.1) (cl := vwCl) (ws := al_ws G o cL σ1 f) (tys := [(cL, .long)]) (A := al_A G o) (H0 := s.heap) hF.1 hF.2.1 hKl (al_WP hH1 hO1) (al_WD hG ho) hS1 0 0 rfl rfl al_in0 dL_task_9 (fun H2 locs2 hP2 _ hS2 => ?_)
    refine lv_goto hF.1 hF.2.1 dL_task_10 (tgt := 21) (by decide) ?_
    refine lv_iconst hF.1 hF.2.1 dL_task_21 rfl ?_
    exact al_fin hF.1 hF.2.1 B.returns B.notSynchronized (u := (σ1, vp_updL f (0 : Int32).toNatClampNeg a9.toInt64, some (.int a9))) ⟨hR, Or.inl ⟨a9, rfl, rfl, rfl⟩⟩ (al_back hG hoH hH hS2 hP2) hS2 dL_task_22
abbrev hh_scope : List (Nat × Nat × Nat × Nat) := [(0, 10, 13, 25), (0, 10, 17, 13)]
abbrev wl_scope : List Cond := Cond.codeWith yL_scope cL_scope 5 (some .int) hh_scope :: am_tb
theorem w_scope (l : Launch) (G : am_G) (hG : am_ok G) (hXn : am_xn G) (hst : l.stackTraces = false) (hNc : al_xn G) {o : Nat} {cL : ClassId} (ho : ¬ am_A G o) (hoH : G.2.2.2.1.size ≤ o) (x1 : Int32) (x2 : Int32) : al_Met l G o cL yL_scope wl_scope (am_roX 8) al_l [2, 0] [.ref 0, .int x1, .int x2] sp_X11_scope := by
  intro σ f R0 hs
  have hs' := e_X11_scope hs
  refine vx_ofWH (cc := cL_scope) (maxL := 5) (ret := some .int) (hh := hh_scope) (by decide +kernel) rfl ?_
  intro p e s m args below meth c s₁ B hml hP
  obtain ⟨rfl, hH, hK, hO, hKl⟩ := hP
  have hF := (⟨B.exec, B.bytes, hml, findClass_of_methodNamed B.named, atoms_spec (ws := wl_scope) B.pre⟩ : CallFix p m c cL_scope 5 s _ wl_scope yL_scope.cls)
  have hT : c.exceptionTable.toList = tableOf hh_scope := vx_table (x := yL_scope) B (hF.2.2.2.2 _ List.mem_cons_self)
  have hl : lv_has _ 5 [(0, .ref (G.1 0)), (1, .int x1), (2, .int x2), (3, .ref o)] := lv_entry [.ref (G.1 0), .int x1, .int x2, .ref o] (n := 5) (Nat.le_of_ble_eq_true rfl)
  rw [lg_entry_eq]
  refine lv_aload_n hF.1 hF.2.1 dL_scope_0 rfl (hl.2.2 _ (.tail _ (.tail _ (.tail _ (.head _))))) ?_
  refine lv_iconst hF.1 hF.2.1 dL_scope_1 rfl ?_
  refine lv_aload_n hF.1 hF.2.1 dL_scope_2 rfl (hl.2.2 _ (.head _)) ?_
  refine lv_iload_n hF.1 hF.2.1 dL_scope_3 rfl (hl.2.2 _ (.tail _ (.head _))) ?_
  refine lv_iload_n hF.1 hF.2.1 dL_scope_4 rfl (hl.2.2 _ (.tail _ (.tail _ (.head _)))) ?_
  refine al_callX (A := al_A G o) (R1 := fun v s => R0 v s ∧ al_T [2, 0] v) (rest := [.int 0, .ref o]) (mc := 1) (ms := 6) (vx_runV (As := [.int x1, .int x2]) (b := G.1 0) hF (n_X11_scope l G hG hXn hst [.ref 0, .int x1, .int x2] σ _ (by intro v hv; simp at hv; rcases hv with rfl | rfl | rfl <;> rfl) hs') (al_cwV 2 hF.2.2.2.2 uw_1077 uw_1074 uw_1075 uw_1076 uw_1 rfl rfl hv_X11_scope ⟨by decide, by decide⟩) ⟨am_blind hG, va_recv hK.1 hH.1 (ci := 11) rfl (am_ws_get (k := 0) rfl), fun U hU hW => ⟨rfl, by rw [hU]; exact hH, hK.warm hG hW⟩⟩ rfl rfl hl.1 rfl (Nat.le_of_ble_eq_true rfl) dL_scope_5 ⟨by decide, by decide⟩) (fun q h => Or.inl h) va_S.rf ?_ ?_
  · intro E ce q9 j σ1 H1 locs1 hj hR hH1 hk1 hS1 hce hcv hcl
    obtain ⟨hR, hT2⟩ := hR
    have hB : am_H G σ1 H1 ∧ al_O o cL f H1 := ⟨hH1, (hk1 o (Array.getElem?_eq_some_iff.mp hO).1 ho).trans hO⟩
    rcases hT2 with ⟨a9, h9⟩ | ⟨n9, j9, h8, h9⟩
    · exact absurd h9 (by simp)
    have ej : j = j9 := by simpa using h9
    subst ej
    cases n9 with
    | zero =>
      cases h8
      cases hj
      refine vx_catch (own := yL_scope.cls) hF.2.2.2.1 [] ⟨0, 10, 13, 25⟩ [⟨0, 10, 17, 13⟩] hT (fun z hz => absurd hz List.not_mem_nil) (by decide) (by decide) (hF.2.2.2.2 _ (List.mem_cons_of_mem _ uw_733)) (vx_ot_at (State.WarmedH.refl s) rfl (by decide +kernel) ((hXn s hK.2).2.2.2 _ uo_740)) hce hcv hcl ?_
      refine lv_astore hF.1 hF.2.1 dL_scope_13 hl (by decide) rfl (fun ls2 _ => ?_)
      refine lv_iconst hF.1 hF.2.1 dL_scope_15 rfl ?_
      exact al_fin hF.1 hF.2.1 B.returns B.notSynchronized (u := (σ1, f, some (.ref (2000 + 2)))) ⟨hR, Or.inr ⟨0, 2, rfl, rfl, rfl⟩⟩ hB hS1 dL_scope_16
    | succ n9 =>
      cases n9 with
      | zero =>
        cases h8
        cases hj
        refine vx_catch (own := yL_scope.cls) hF.2.2.2.1 [⟨0, 10, 13, 25⟩] ⟨0, 10, 17, 13⟩ [] hT (List.forall_mem_cons.mpr ⟨Or.inr ⟨by decide, _, hF.2.2.2.2 _ (List.mem_cons_of_mem _ uw_733), hNc s hK.2 ("java/lang/IllegalArgumentException", "java/lang/IndexOutOfBoundsException") (by decide)⟩, fun _ h => absurd h List.not_mem_nil⟩) (by decide) (by decide) (hF.2.2.2.2 _ (List.mem_cons_of_mem _ uw_532)) (vx_ot_at (State.WarmedH.refl s) rfl (by decide +kernel) ((hXn s hK.2).2.2.2 _ uo_543)) hce hcv hcl ?_
        refine lv_astore hF.1 hF.2.1 dL_scope_17 hl (by decide) rfl (fun ls2 _ => ?_)
        refine lv_iconst hF.1 hF.2.1 dL_scope_19 rfl ?_
        exact al_fin hF.1 hF.2.1 B.returns B.notSynchronized (u := (σ1, f, some (.ref (2000 + 0)))) ⟨hR, Or.inr ⟨1, 0, rfl, rfl, rfl⟩⟩ hB hS1 dL_scope_20
      | succ n9 =>
        exact absurd h8 (by simp)
  · intro v σ1 H1 locs1 hR hv hH1 hk1 hS1
    obtain ⟨hR, hT2⟩ := hR
    have hO1 : al_O o cL f H1 := (hk1 o (Array.getElem?_eq_some_iff.mp hO).1 ho).trans hO
    obtain ⟨a9, rfl⟩ := hv
    refine lv_i2l hF.1 hF.2.1 dL_scope_8 rfl ?_
    refine va_last (D := G.2.1) (cl := vwCl) (ws := al_ws G o cL σ1 f) (tys := [(cL, .long)]) (A := al_A G o) (H0 := s.heap) hF.1 hF.2.1 hKl (al_WP hH1 hO1) (al_WD hG ho) hS1 0 0 rfl rfl al_in0 dL_scope_9 (fun H2 locs2 hP2 _ hS2 => ?_)
    refine lv_goto hF.1 hF.2.1 dL_scope_10 (tgt := 21) (by decide) ?_
    refine lv_iconst hF.1 hF.2.1 dL_scope_21 rfl ?_
    exact al_fin hF.1 hF.2.1 B.returns B.notSynchronized (u := (σ1, vp_updL f (0 : Int32).toNatClampNeg a9.toInt64, some (.int a9))) ⟨hR, Or.inl ⟨a9, rfl, rfl, rfl⟩⟩ (al_back hG hoH hH hS2 hP2) hS2 dL_scope_22
abbrev hh_failure : List (Nat × Nat × Nat × Nat) := [(0, 12, 15, 25), (0, 12, 19, 13), (0, 12, 23, 46)]
abbrev wl_failure : List Cond := Cond.codeWith yL_failure cL_failure 6 (some .int) hh_failure :: am_tb
theorem w_failure (l : Launch) (G : am_G) (hG : am_ok G) (hXn : am_xn G) (hst : l.stackTraces = false) (hNc : al_xn G) {o : Nat} {cL : ClassId} (ho : ¬ am_A G o) (hoH : G.2.2.2.1.size ≤ o) (x1 : Int32) (x2 : Int32) (x3 : Int32) : al_Met l G o cL yL_failure wl_failure (am_roX 8) al_l [2, 0, 3] [.ref 0, .int x1, .int x2, .int x3] sp_X11_failure := by
  intro σ f R0 hs
  have hs' := e_X11_failure hs
  refine vx_ofWH (cc := cL_failure) (maxL := 6) (ret := some .int) (hh := hh_failure) (by decide +kernel) rfl ?_
  intro p e s m args below meth c s₁ B hml hP
  obtain ⟨rfl, hH, hK, hO, hKl⟩ := hP
  have hF := (⟨B.exec, B.bytes, hml, findClass_of_methodNamed B.named, atoms_spec (ws := wl_failure) B.pre⟩ : CallFix p m c cL_failure 6 s _ wl_failure yL_failure.cls)
  have hT : c.exceptionTable.toList = tableOf hh_failure := vx_table (x := yL_failure) B (hF.2.2.2.2 _ List.mem_cons_self)
  have hl : lv_has _ 6 [(0, .ref (G.1 0)), (1, .int x1), (2, .int x2), (3, .int x3), (4, .ref o)] := lv_entry [.ref (G.1 0), .int x1, .int x2, .int x3, .ref o] (n := 6) (Nat.le_of_ble_eq_true rfl)
  rw [lg_entry_eq]
  refine lv_aload hF.1 hF.2.1 dL_failure_0 (hl.2.2 _ (.tail _ (.tail _ (.tail _ (.tail _ (.head _)))))) ?_
  refine lv_iconst hF.1 hF.2.1 dL_failure_2 rfl ?_
  refine lv_aload_n hF.1 hF.2.1 dL_failure_3 rfl (hl.2.2 _ (.head _)) ?_
  refine lv_iload_n hF.1 hF.2.1 dL_failure_4 rfl (hl.2.2 _ (.tail _ (.head _))) ?_
  refine lv_iload_n hF.1 hF.2.1 dL_failure_5 rfl (hl.2.2 _ (.tail _ (.tail _ (.head _)))) ?_
  refine lv_iload_n hF.1 hF.2.1 dL_failure_6 rfl (hl.2.2 _ (.tail _ (.tail _ (.tail _ (.head _))))) ?_
  refine al_callX (A := al_A G o) (R1 := fun v s => R0 v s ∧ al_T [2, 0, 3] v) (rest := [.int 0, .ref o]) (mc := 1) (ms := 6) (vx_runV (As := [.int x1, .int x2, .int x3]) (b := G.1 0) hF (n_X11_failure l G hG hXn hst [.ref 0, .int x1, .int x2, .int x3] σ _ (by intro v hv; simp at hv; rcases hv with rfl | rfl | rfl | rfl <;> rfl) hs') (al_cwV 3 hF.2.2.2.2 uw_1095 uw_1092 uw_1093 uw_1094 uw_1 rfl rfl hv_X11_failure ⟨by decide, by decide⟩) ⟨am_blind hG, va_recv hK.1 hH.1 (ci := 11) rfl (am_ws_get (k := 0) rfl), fun U hU hW => ⟨rfl, by rw [hU]; exact hH, hK.warm hG hW⟩⟩ rfl rfl hl.1 rfl (Nat.le_of_ble_eq_true rfl) dL_failure_7 ⟨by decide, by decide⟩) (fun q h => Or.inl h) va_S.rf ?_ ?_
  · intro E ce q9 j σ1 H1 locs1 hj hR hH1 hk1 hS1 hce hcv hcl
    obtain ⟨hR, hT2⟩ := hR
    have hB : am_H G σ1 H1 ∧ al_O o cL f H1 := ⟨hH1, (hk1 o (Array.getElem?_eq_some_iff.mp hO).1 ho).trans hO⟩
    rcases hT2 with ⟨a9, h9⟩ | ⟨n9, j9, h8, h9⟩
    · exact absurd h9 (by simp)
    have ej : j = j9 := by simpa using h9
    subst ej
    cases n9 with
    | zero =>
      cases h8
      cases hj
      refine vx_catch (own := yL_failure.cls) hF.2.2.2.1 [] ⟨0, 12, 15, 25⟩ [⟨0, 12, 19, 13⟩, ⟨0, 12, 23, 46⟩] hT (fun z hz => absurd hz List.not_mem_nil) (by decide) (by decide) (hF.2.2.2.2 _ (List.mem_cons_of_mem _ uw_733)) (vx_ot_at (State.WarmedH.refl s) rfl (by decide +kernel) ((hXn s hK.2).2.2.2 _ uo_740)) hce hcv hcl ?_
      refine lv_astore hF.1 hF.2.1 dL_failure_15 hl (by decide) rfl (fun ls2 _ => ?_)
      refine lv_iconst hF.1 hF.2.1 dL_failure_17 rfl ?_
      exact al_fin hF.1 hF.2.1 B.returns B.notSynchronized (u := (σ1, f, some (.ref (2000 + 2)))) ⟨hR, Or.inr ⟨0, 2, rfl, rfl, rfl⟩⟩ hB hS1 dL_failure_18
    | succ n9 =>
      cases n9 with
      | zero =>
        cases h8
        cases hj
        refine vx_catch (own := yL_failure.cls) hF.2.2.2.1 [⟨0, 12, 15, 25⟩] ⟨0, 12, 19, 13⟩ [⟨0, 12, 23, 46⟩] hT (List.forall_mem_cons.mpr ⟨Or.inr ⟨by decide, _, hF.2.2.2.2 _ (List.mem_cons_of_mem _ uw_733), hNc s hK.2 ("java/lang/IllegalArgumentException", "java/lang/IndexOutOfBoundsException") (by decide)⟩, fun _ h => absurd h List.not_mem_nil⟩) (by decide) (by decide) (hF.2.2.2.2 _ (List.mem_cons_of_mem _ uw_532)) (vx_ot_at (State.WarmedH.refl s) rfl (by decide +kernel) ((hXn s hK.2).2.2.2 _ uo_543)) hce hcv hcl ?_
        refine lv_astore hF.1 hF.2.1 dL_failure_19 hl (by decide) rfl (fun ls2 _ => ?_)
        refine lv_iconst hF.1 hF.2.1 dL_failure_21 rfl ?_
        exact al_fin hF.1 hF.2.1 B.returns B.notSynchronized (u := (σ1, f, some (.ref (2000 + 0)))) ⟨hR, Or.inr ⟨1, 0, rfl, rfl, rfl⟩⟩ hB hS1 dL_failure_22
      | succ n9 =>
        cases n9 with
        | zero =>
          cases h8
          cases hj
          refine vx_catch (own := yL_failure.cls) hF.2.2.2.1 [⟨0, 12, 15, 25⟩, ⟨0, 12, 19, 13⟩] ⟨0, 12, 23, 46⟩ [] hT (List.forall_mem_cons.mpr ⟨Or.inr ⟨by decide, _, hF.2.2.2.2 _ (List.mem_cons_of_mem _ uw_733), hNc s hK.2 ("java/util/NoSuchElementException", "java/lang/IndexOutOfBoundsException") (by decide)⟩, List.forall_mem_cons.mpr ⟨Or.inr ⟨by decide, _, hF.2.2.2.2 _ (List.mem_cons_of_mem _ uw_532), hNc s hK.2 ("java/util/NoSuchElementException", "java/lang/IllegalArgumentException") (by decide)⟩, fun _ h => absurd h List.not_mem_nil⟩⟩) (by decide) (by decide) (hF.2.2.2.2 _ (List.mem_cons_of_mem _ uw_1091)) (vx_ot_at (State.WarmedH.refl s) rfl (by decide +kernel) ((hXn s hK.2).2.2.2 _ uo_1103)) hce hcv hcl ?_
          refine lv_astore hF.1 hF.2.1 dL_failure_23 hl (by decide) rfl (fun ls2 _ => ?_)
          refine lv_iconst hF.1 hF.2.1 dL_failure_25 rfl ?_
          exact al_fin hF.1 hF.2.1 B.returns B.notSynchronized (u := (σ1, f, some (.ref (2000 + 3)))) ⟨hR, Or.inr ⟨2, 3, rfl, rfl, rfl⟩⟩ hB hS1 dL_failure_26
        | succ n9 =>
          exact absurd h8 (by simp)
  · intro v σ1 H1 locs1 hR hv hH1 hk1 hS1
    obtain ⟨hR, hT2⟩ := hR
    have hO1 : al_O o cL f H1 := (hk1 o (Array.getElem?_eq_some_iff.mp hO).1 ho).trans hO
    obtain ⟨a9, rfl⟩ := hv
    refine lv_i2l hF.1 hF.2.1 dL_failure_10 rfl ?_
    refine va_last (D := G.2.1) (cl := vwCl) (ws := al_ws G o cL σ1 f) (tys := [(cL, .long)]) (A := al_A G o) (H0 := s.heap) hF.1 hF.2.1 hKl (al_WP hH1 hO1) (al_WD hG ho) hS1 0 0 rfl rfl al_in0 dL_failure_11 (fun H2 locs2 hP2 _ hS2 => ?_)
    refine lv_goto hF.1 hF.2.1 dL_failure_12 (tgt := 27) (by decide) ?_
    refine lv_iconst hF.1 hF.2.1 dL_failure_27 rfl ?_
    exact al_fin hF.1 hF.2.1 B.returns B.notSynchronized (u := (σ1, vp_updL f (0 : Int32).toNatClampNeg a9.toInt64, some (.int a9))) ⟨hR, Or.inl ⟨a9, rfl, rfl, rfl⟩⟩ (al_back hG hoH hH hS2 hP2) hS2 dL_failure_28
abbrev hh_ready : List (Nat × Nat × Nat × Nat) := [(0, 9, 12, 46)]
abbrev wl_ready : List Cond := Cond.codeWith yL_ready cL_ready 4 (some .int) hh_ready :: am_tb
theorem w_ready (l : Launch) (G : am_G) (hG : am_ok G) (hXn : am_xn G) (hst : l.stackTraces = false) (hNc : al_xn G) {o : Nat} {cL : ClassId} (ho : ¬ am_A G o) (hoH : G.2.2.2.1.size ≤ o) (x1 : Int32) : al_Met l G o cL yL_ready wl_ready (am_roX 8) al_l [3] [.ref 0, .int x1] sp_X11_ready := by
  intro σ f R0 hs
  have hs' := e_X11_ready hs
  refine vx_ofWH (cc := cL_ready) (maxL := 4) (ret := some .int) (hh := hh_ready) (by decide +kernel) rfl ?_
  intro p e s m args below meth c s₁ B hml hP
  obtain ⟨rfl, hH, hK, hO, hKl⟩ := hP
  have hF := (⟨B.exec, B.bytes, hml, findClass_of_methodNamed B.named, atoms_spec (ws := wl_ready) B.pre⟩ : CallFix p m c cL_ready 4 s _ wl_ready yL_ready.cls)
  have hT : c.exceptionTable.toList = tableOf hh_ready := vx_table (x := yL_ready) B (hF.2.2.2.2 _ List.mem_cons_self)
  have hl : lv_has _ 4 [(0, .ref (G.1 0)), (1, .int x1), (2, .ref o)] := lv_entry [.ref (G.1 0), .int x1, .ref o] (n := 4) (Nat.le_of_ble_eq_true rfl)
  rw [lg_entry_eq]
  refine lv_aload_n hF.1 hF.2.1 dL_ready_0 rfl (hl.2.2 _ (.tail _ (.tail _ (.head _)))) ?_
  refine lv_iconst hF.1 hF.2.1 dL_ready_1 rfl ?_
  refine lv_aload_n hF.1 hF.2.1 dL_ready_2 rfl (hl.2.2 _ (.head _)) ?_
  refine lv_iload_n hF.1 hF.2.1 dL_ready_3 rfl (hl.2.2 _ (.tail _ (.head _))) ?_
  refine al_callX (A := al_A G o) (R1 := fun v s => R0 v s ∧ al_T [3] v) (rest := [.int 0, .ref o]) (mc := 1) (ms := 6) (vx_runV (As := [.int x1]) (b := G.1 0) hF (n_X11_ready l G hG hXn hst [.ref 0, .int x1] σ _ (by intro v hv; simp at hv; rcases hv with rfl | rfl <;> rfl) hs') (al_cwV 1 hF.2.2.2.2 uw_1124 uw_1121 uw_1122 uw_1123 uw_1 rfl rfl hv_X11_ready ⟨by decide, by decide⟩) ⟨am_blind hG, va_recv hK.1 hH.1 (ci := 11) rfl (am_ws_get (k := 0) rfl), fun U hU hW => ⟨rfl, by rw [hU]; exact hH, hK.warm hG hW⟩⟩ rfl rfl hl.1 rfl (Nat.le_of_ble_eq_true rfl) dL_ready_4 ⟨by decide, by decide⟩) (fun q h => Or.inl h) va_S.rf ?_ ?_
  · intro E ce q9 j σ1 H1 locs1 hj hR hH1 hk1 hS1 hce hcv hcl
    obtain ⟨hR, hT2⟩ := hR
    have hB : am_H G σ1 H1 ∧ al_O o cL f H1 := ⟨hH1, (hk1 o (Array.getElem?_eq_some_iff.mp hO).1 ho).trans hO⟩
    rcases hT2 with ⟨a9, h9⟩ | ⟨n9, j9, h8, h9⟩
    · exact absurd h9 (by simp)
    have ej : j = j9 := by simpa using h9
    subst ej
    cases n9 with
    | zero =>
      cases h8
      cases hj
      refine vx_catch (own := yL_ready.cls) hF.2.2.2.1 [] ⟨0, 9, 12, 46⟩ [] hT (fun z hz => absurd hz List.not_mem_nil) (by decide) (by decide) (hF.2.2.2.2 _ (List.mem_cons_of_mem _ uw_1091)) (vx_ot_at (State.WarmedH.refl s) rfl (by decide +kernel) ((hXn s hK.2).2.2.2 _ uo_1103)) hce hcv hcl ?_
      refine lv_astore_n hF.1 hF.2.1 dL_ready_12 rfl hl (by decide) rfl (fun ls2 _ => ?_)
      refine lv_iconst hF.1 hF.2.1 dL_ready_13 rfl ?_
      exact al_fin hF.1 hF.2.1 B.returns B.notSynchronized (u := (σ1, f, some (.ref (2000 + 3)))) ⟨hR, Or.inr ⟨0, 3, rfl, rfl, rfl⟩⟩ hB hS1 dL_ready_14
    | succ n9 =>
      exact absurd h8 (by simp)
  · intro v σ1 H1 locs1 hR hv hH1 hk1 hS1
    obtain ⟨hR, hT2⟩ := hR
    have hO1 : al_O o cL f H1 := (hk1 o (Array.getElem?_eq_some_iff.mp hO).1 ho).trans hO
    obtain ⟨a9, rfl⟩ := hv
    refine lv_i2l hF.1 hF.2.1 dL_ready_7 rfl ?_
    refine va_last (D := G.2.1) (cl := vwCl) (ws := al_ws G o cL σ1 f) (tys := [(cL, .long)]) (A := al_A G o) (H0 := s.heap) hF.1 hF.2.1 hKl (al_WP hH1 hO1) (al_WD hG ho) hS1 0 0 rfl rfl al_in0 dL_ready_8 (fun H2 locs2 hP2 _ hS2 => ?_)
    refine lv_goto hF.1 hF.2.1 dL_ready_9 (tgt := 15) (by decide) ?_
    refine lv_iconst hF.1 hF.2.1 dL_ready_15 rfl ?_
    exact al_fin hF.1 hF.2.1 B.returns B.notSynchronized (u := (σ1, vp_updL f (0 : Int32).toNatClampNeg a9.toInt64, some (.int a9))) ⟨hR, Or.inl ⟨a9, rfl, rfl, rfl⟩⟩ (al_back hG hoH hH hS2 hP2) hS2 dL_ready_16
abbrev hh_ended : List (Nat × Nat × Nat × Nat) := [(0, 9, 12, 46)]
abbrev wl_ended : List Cond := Cond.codeWith yL_ended cL_ended 4 (some .int) hh_ended :: am_tb
theorem w_ended (l : Launch) (G : am_G) (hG : am_ok G) (hXn : am_xn G) (hst : l.stackTraces = false) (hNc : al_xn G) {o : Nat} {cL : ClassId} (ho : ¬ am_A G o) (hoH : G.2.2.2.1.size ≤ o) (x1 : Int32) : al_Met l G o cL yL_ended wl_ended (am_roX 8) al_l [3] [.ref 0, .int x1] sp_X11_ended := by
  intro σ f R0 hs
  have hs' := e_X11_ended hs
  refine vx_ofWH (cc := cL_ended) (maxL := 4) (ret := some .int) (hh := hh_ended) (by decide +kernel) rfl ?_
  intro p e s m args below meth c s₁ B hml hP
  obtain ⟨rfl, hH, hK, hO, hKl⟩ := hP
  have hF := (⟨B.exec, B.bytes, hml, findClass_of_methodNamed B.named, atoms_spec (ws := wl_ended) B.pre⟩ : CallFix p m c cL_ended 4 s _ wl_ended yL_ended.cls)
  have hT : c.exceptionTable.toList = tableOf hh_ended := vx_table (x := yL_ended) B (hF.2.2.2.2 _ List.mem_cons_self)
  have hl : lv_has _ 4 [(0, .ref (G.1 0)), (1, .int x1), (2, .ref o)] := lv_entry [.ref (G.1 0), .int x1, .ref o] (n := 4) (Nat.le_of_ble_eq_true rfl)
  rw [lg_entry_eq]
  refine lv_aload_n hF.1 hF.2.1 dL_ended_0 rfl (hl.2.2 _ (.tail _ (.tail _ (.head _)))) ?_
  refine lv_iconst hF.1 hF.2.1 dL_ended_1 rfl ?_
  refine lv_aload_n hF.1 hF.2.1 dL_ended_2 rfl (hl.2.2 _ (.head _)) ?_
  refine lv_iload_n hF.1 hF.2.1 dL_ended_3 rfl (hl.2.2 _ (.tail _ (.head _))) ?_
  refine al_callX (A := al_A G o) (R1 := fun v s => R0 v s ∧ al_T [3] v) (rest := [.int 0, .ref o]) (mc := 1) (ms := 6) (vx_runV (As := [.int x1]) (b := G.1 0) hF (n_X11_ended l G hG hXn hst [.ref 0, .int x1] σ _ (by intro v hv; simp at hv; rcases hv with rfl | rfl <;> rfl) hs') (al_cwV 1 hF.2.2.2.2 uw_1136 uw_1133 uw_1134 uw_1135 uw_1 rfl rfl hv_X11_ended ⟨by decide, by decide⟩) ⟨am_blind hG, va_recv hK.1 hH.1 (ci := 11) rfl (am_ws_get (k := 0) rfl), fun U hU hW => ⟨rfl, by rw [hU]; exact hH, hK.warm hG hW⟩⟩ rfl rfl hl.1 rfl (Nat.le_of_ble_eq_true rfl) dL_ended_4 ⟨by decide, by decide⟩) (fun q h => Or.inl h) va_S.rf ?_ ?_
  · intro E ce q9 j σ1 H1 locs1 hj hR hH1 hk1 hS1 hce hcv hcl
    obtain ⟨hR, hT2⟩ := hR
    have hB : am_H G σ1 H1 ∧ al_O o cL f H1 := ⟨hH1, (hk1 o (Array.getElem?_eq_some_iff.mp hO).1 ho).trans hO⟩
    rcases hT2 with ⟨a9, h9⟩ | ⟨n9, j9, h8, h9⟩
    · exact absurd h9 (by simp)
    have ej : j = j9 := by simpa using h9
    subst ej
    cases n9 with
    | zero =>
      cases h8
      cases hj
      refine vx_catch (own := yL_ended.cls) hF.2.2.2.1 [] ⟨0, 9, 12, 46⟩ [] hT (fun z hz => absurd hz List.not_mem_nil) (by decide) (by decide) (hF.2.2.2.2 _ (List.mem_cons_of_mem _ uw_1091)) (vx_ot_at (State.WarmedH.refl s) rfl (by decide +kernel) ((hXn s hK.2).2.2.2 _ uo_1103)) hce hcv hcl ?_
      refine lv_astore_n hF.1 hF.2.1 dL_ended_12 rfl hl (by decide) rfl (fun ls2 _ => ?_)
      refine lv_iconst hF.1 hF.2.1 dL_ended_13 rfl ?_
      exact al_fin hF.1 hF.2.1 B.returns B.notSynchronized (u := (σ1, f, some (.ref (2000 + 3)))) ⟨hR, Or.inr ⟨0, 3, rfl, rfl, rfl⟩⟩ hB hS1 dL_ended_14
    | succ n9 =>
      exact absurd h8 (by simp)
  · intro v σ1 H1 locs1 hR hv hH1 hk1 hS1
    obtain ⟨hR, hT2⟩ := hR
    have hO1 : al_O o cL f H1 := (hk1 o (Array.getElem?_eq_some_iff.mp hO).1 ho).trans hO
    obtain ⟨a9, rfl⟩ := hv
    refine lv_i2l hF.1 hF.2.1 dL_ended_7 rfl ?_
    refine va_last (D := G.2.1) (cl := vwCl) (ws := al_ws G o cL σ1 f) (tys := [(cL, .long)]) (A := al_A G o) (H0 := s.heap) hF.1 hF.2.1 hKl (al_WP hH1 hO1) (al_WD hG ho) hS1 0 0 rfl rfl al_in0 dL_ended_8 (fun H2 locs2 hP2 _ hS2 => ?_)
    refine lv_goto hF.1 hF.2.1 dL_ended_9 (tgt := 15) (by decide) ?_
    refine lv_iconst hF.1 hF.2.1 dL_ended_15 rfl ?_
    exact al_fin hF.1 hF.2.1 B.returns B.notSynchronized (u := (σ1, vp_updL f (0 : Int32).toNatClampNeg a9.toInt64, some (.int a9))) ⟨hR, Or.inl ⟨a9, rfl, rfl, rfl⟩⟩ (al_back hG hoH hH hS2 hP2) hS2 dL_ended_16
abbrev hh_isAbove : List (Nat × Nat × Nat × Nat) := [(0, 17, 20, 25)]
abbrev wl_isAbove : List Cond := Cond.codeWith yL_isAbove cL_isAbove 5 (some .int) hh_isAbove :: am_tb
theorem w_isAbove (l : Launch) (G : am_G) (hG : am_ok G) (hXn : am_xn G) (hst : l.stackTraces = false) (hNc : al_xn G) {o : Nat} {cL : ClassId} (ho : ¬ am_A G o) (hoH : G.2.2.2.1.size ≤ o) (x1 : Int32) (x2 : Int32) : al_Met l G o cL yL_isAbove wl_isAbove (am_roX 8) al_z [2] [.ref 0, .int x1, .int x2] sp_X11_isAbove := by
  intro σ f R0 hs
  have hs' := e_X11_isAbove hs
  refine vx_ofWH (cc := cL_isAbove) (maxL := 5) (ret := some .int) (hh := hh_isAbove) (by decide +kernel) rfl ?_
  intro p e s m args below meth c s₁ B hml hP
  obtain ⟨rfl, hH, hK, hO, hKl⟩ := hP
  have hF := (⟨B.exec, B.bytes, hml, findClass_of_methodNamed B.named, atoms_spec (ws := wl_isAbove) B.pre⟩ : CallFix p m c cL_isAbove 5 s _ wl_isAbove yL_isAbove.cls)
  have hT : c.exceptionTable.toList = tableOf hh_isAbove := vx_table (x := yL_isAbove) B (hF.2.2.2.2 _ List.mem_cons_self)
  have hl : lv_has _ 5 [(0, .ref (G.1 0)), (1, .int x1), (2, .int x2), (3, .ref o)] := lv_entry [.ref (G.1 0), .int x1, .int x2, .ref o] (n := 5) (Nat.le_of_ble_eq_true rfl)
  rw [lg_entry_eq]
  refine lv_aload_n hF.1 hF.2.1 dL_isAbove_0 rfl (hl.2.2 _ (.tail _ (.tail _ (.tail _ (.head _))))) ?_
  refine lv_iconst hF.1 hF.2.1 dL_isAbove_1 rfl ?_
  refine lv_aload_n hF.1 hF.2.1 dL_isAbove_2 rfl (hl.2.2 _ (.head _)) ?_
  refine lv_iload_n hF.1 hF.2.1 dL_isAbove_3 rfl (hl.2.2 _ (.tail _ (.head _))) ?_
  refine lv_iload_n hF.1 hF.2.1 dL_isAbove_4 rfl (hl.2.2 _ (.tail _ (.tail _ (.head _)))) ?_
  refine al_callX (A := al_A G o) (R1 := fun v s => R0 v s ∧ al_T [2] v) (rest := [.int 0, .ref o]) (mc := 1) (ms := 6) (vx_runV (As := [.int x1, .int x2]) (b := G.1 0) hF (n_X11_isAbove l G hG hXn hst [.ref 0, .int x1, .int x2] σ _ (by intro v hv; simp at hv; rcases hv with rfl | rfl | rfl <;> rfl) hs') (al_cwV 2 hF.2.2.2.2 uw_1144 uw_1141 uw_1142 uw_1143 uw_1 rfl rfl hv_X11_isAbove ⟨by decide, by decide⟩) ⟨am_blind hG, va_recv hK.1 hH.1 (ci := 11) rfl (am_ws_get (k := 0) rfl), fun U hU hW => ⟨rfl, by rw [hU]; exact hH, hK.warm hG hW⟩⟩ rfl rfl hl.1 rfl (Nat.le_of_ble_eq_true rfl) dL_isAbove_5 ⟨by decide, by decide⟩) (fun q h => Or.inl h) va_S.rf ?_ ?_
  · intro E ce q9 j σ1 H1 locs1 hj hR hH1 hk1 hS1 hce hcv hcl
    obtain ⟨hR, hT2⟩ := hR
    have hB : am_H G σ1 H1 ∧ al_O o cL f H1 := ⟨hH1, (hk1 o (Array.getElem?_eq_some_iff.mp hO).1 ho).trans hO⟩
    rcases hT2 with ⟨a9, h9⟩ | ⟨n9, j9, h8, h9⟩
    · exact absurd h9 (by simp)
    have ej : j = j9 := by simpa using h9
    subst ej
    cases n9 with
    | zero =>
      cases h8
      cases hj
      refine vx_catch (own := yL_isAbove.cls) hF.2.2.2.1 [] ⟨0, 17, 20, 25⟩ [] hT (fun z hz => absurd hz List.not_mem_nil) (by decide) (by decide) (hF.2.2.2.2 _ (List.mem_cons_of_mem _ uw_733)) (vx_ot_at (State.WarmedH.refl s) rfl (by decide +kernel) ((hXn s hK.2).2.2.2 _ uo_740)) hce hcv hcl ?_
      refine lv_astore hF.1 hF.2.1 dL_isAbove_20 hl (by decide) rfl (fun ls2 _ => ?_)
      refine lv_iconst hF.1 hF.2.1 dL_isAbove_22 rfl ?_
      exact al_fin hF.1 hF.2.1 B.returns B.notSynchronized (u := (σ1, f, some (.ref (2000 + 2)))) ⟨hR, Or.inr ⟨0, 2, rfl, rfl, rfl⟩⟩ hB hS1 dL_isAbove_23
    | succ n9 =>
      exact absurd h8 (by simp)
  · intro v σ1 H1 locs1 hR hv hH1 hk1 hS1
    obtain ⟨hR, hT2⟩ := hR
    have hO1 : al_O o cL f H1 := (hk1 o (Array.getElem?_eq_some_iff.mp hO).1 ho).trans hO
    obtain ⟨a9, rfl⟩ := hv
    refine lv_if_eq hF.1 hF.2.1 dL_isAbove_8 (tgt := 15) (by decide) (fun q => ?_) (fun q => ?_)
    · refine lv_lconst hF.1 hF.2.1 dL_isAbove_15 (v := 0) rfl ?_
      refine va_last (D := G.2.1) (cl := vwCl) (ws := al_ws G o cL σ1 f) (tys := [(cL, .long)]) (A := al_A G o) (H0 := s.heap) hF.1 hF.2.1 hKl (al_WP hH1 hO1) (al_WD hG ho) hS1 0 0 rfl rfl al_in0 dL_isAbove_16 (fun H2 locs2 hP2 _ hS2 => ?_)
      refine lv_goto hF.1 hF.2.1 dL_isAbove_17 (tgt := 24) (by decide) ?_
      refine lv_iconst hF.1 hF.2.1 dL_isAbove_24 rfl ?_
      exact al_fin hF.1 hF.2.1 B.returns B.notSynchronized (u := (σ1, vp_updL f (0 : Int32).toNatClampNeg 0, some (.int a9))) ⟨hR, Or.inl ⟨a9, rfl, rfl, (by show (0 : Int64) = al_z a9; exact (if_pos q).symm)⟩⟩ (al_back hG hoH hH hS2 hP2) hS2 dL_isAbove_25
    · refine lv_lconst hF.1 hF.2.1 dL_isAbove_11 (v := 1) rfl ?_
      refine lv_goto hF.1 hF.2.1 dL_isAbove_12 (tgt := 16) (by decide) ?_
      refine va_last (D := G.2.1) (cl := vwCl) (ws := al_ws G o cL σ1 f) (tys := [(cL, .long)]) (A := al_A G o) (H0 := s.heap) hF.1 hF.2.1 hKl (al_WP hH1 hO1) (al_WD hG ho) hS1 0 0 rfl rfl al_in0 dL_isAbove_16 (fun H2 locs2 hP2 _ hS2 => ?_)
      refine lv_goto hF.1 hF.2.1 dL_isAbove_17 (tgt := 24) (by decide) ?_
      refine lv_iconst hF.1 hF.2.1 dL_isAbove_24 rfl ?_
      exact al_fin hF.1 hF.2.1 B.returns B.notSynchronized (u := (σ1, vp_updL f (0 : Int32).toNatClampNeg 1, some (.int a9))) ⟨hR, Or.inl ⟨a9, rfl, rfl, (by show (1 : Int64) = al_z a9; exact (if_neg q).symm)⟩⟩ (al_back hG hoH hH hS2 hP2) hS2 dL_isAbove_25
abbrev hh_scopeOf : List (Nat × Nat × Nat × Nat) := [(0, 10, 13, 25)]
abbrev wl_scopeOf : List Cond := Cond.codeWith yL_scopeOf cL_scopeOf 5 (some .int) hh_scopeOf :: am_tb
theorem w_scopeOf (l : Launch) (G : am_G) (hG : am_ok G) (hXn : am_xn G) (hst : l.stackTraces = false) (hNc : al_xn G) {o : Nat} {cL : ClassId} (ho : ¬ am_A G o) (hoH : G.2.2.2.1.size ≤ o) (x1 : Int32) (x2 : Int32) : al_Met l G o cL yL_scopeOf wl_scopeOf (am_roX 8) al_l [2] [.ref 0, .int x1, .int x2] sp_X11_scopeOf := by
  intro σ f R0 hs
  have hs' := e_X11_scopeOf hs
  refine vx_ofWH (cc := cL_scopeOf) (maxL := 5) (ret := some .int) (hh := hh_scopeOf) (by decide +kernel) rfl ?_
  intro p e s m args below meth c s₁ B hml hP
  obtain ⟨rfl, hH, hK, hO, hKl⟩ := hP
  have hF := (⟨B.exec, B.bytes, hml, findClass_of_methodNamed B.named, atoms_spec (ws := wl_scopeOf) B.pre⟩ : CallFix p m c cL_scopeOf 5 s _ wl_scopeOf yL_scopeOf.cls)
  have hT : c.exceptionTable.toList = tableOf hh_scopeOf := vx_table (x := yL_scopeOf) B (hF.2.2.2.2 _ List.mem_cons_self)
  have hl : lv_has _ 5 [(0, .ref (G.1 0)), (1, .int x1), (2, .int x2), (3, .ref o)] := lv_entry [.ref (G.1 0), .int x1, .int x2, .ref o] (n := 5) (Nat.le_of_ble_eq_true rfl)
  rw [lg_entry_eq]
  refine lv_aload_n hF.1 hF.2.1 dL_scopeOf_0 rfl (hl.2.2 _ (.tail _ (.tail _ (.tail _ (.head _))))) ?_
  refine lv_iconst hF.1 hF.2.1 dL_scopeOf_1 rfl ?_
  refine lv_aload_n hF.1 hF.2.1 dL_scopeOf_2 rfl (hl.2.2 _ (.head _)) ?_
  refine lv_iload_n hF.1 hF.2.1 dL_scopeOf_3 rfl (hl.2.2 _ (.tail _ (.head _))) ?_
  refine lv_iload_n hF.1 hF.2.1 dL_scopeOf_4 rfl (hl.2.2 _ (.tail _ (.tail _ (.head _)))) ?_
  refine al_callX (A := al_A G o) (R1 := fun v s => R0 v s ∧ al_T [2] v) (rest := [.int 0, .ref o]) (mc := 1) (ms := 6) (vx_runV (As := [.int x1, .int x2]) (b := G.1 0) hF (n_X11_scopeOf l G hG hXn hst [.ref 0, .int x1, .int x2] σ _ (by intro v hv; simp at hv; rcases hv with rfl | rfl | rfl <;> rfl) hs') (al_cwV 2 hF.2.2.2.2 uw_1155 uw_1152 uw_1153 uw_1154 uw_1 rfl rfl hv_X11_scopeOf ⟨by decide, by decide⟩) ⟨am_blind hG, va_recv hK.1 hH.1 (ci := 11) rfl (am_ws_get (k := 0) rfl), fun U hU hW => ⟨rfl, by rw [hU]; exact hH, hK.warm hG hW⟩⟩ rfl rfl hl.1 rfl (Nat.le_of_ble_eq_true rfl) dL_scopeOf_5 ⟨by decide, by decide⟩) (fun q h => Or.inl h) va_S.rf ?_ ?_
  · intro E ce q9 j σ1 H1 locs1 hj hR hH1 hk1 hS1 hce hcv hcl
    obtain ⟨hR, hT2⟩ := hR
    have hB : am_H G σ1 H1 ∧ al_O o cL f H1 := ⟨hH1, (hk1 o (Array.getElem?_eq_some_iff.mp hO).1 ho).trans hO⟩
    rcases hT2 with ⟨a9, h9⟩ | ⟨n9, j9, h8, h9⟩
    · exact absurd h9 (by simp)
    have ej : j = j9 := by simpa using h9
    subst ej
    cases n9 with
    | zero =>
      cases h8
      cases hj
      refine vx_catch (own := yL_scopeOf.cls) hF.2.2.2.1 [] ⟨0, 10, 13, 25⟩ [] hT (fun z hz => absurd hz List.not_mem_nil) (by decide) (by decide) (hF.2.2.2.2 _ (List.mem_cons_of_mem _ uw_733)) (vx_ot_at (State.WarmedH.refl s) rfl (by decide +kernel) ((hXn s hK.2).2.2.2 _ uo_740)) hce hcv hcl ?_
      refine lv_astore hF.1 hF.2.1 dL_scopeOf_13 hl (by decide) rfl (fun ls2 _ => ?_)
      refine lv_iconst hF.1 hF.2.1 dL_scopeOf_15 rfl ?_
      exact al_fin hF.1 hF.2.1 B.returns B.notSynchronized (u := (σ1, f, some (.ref (2000 + 2)))) ⟨hR, Or.inr ⟨0, 2, rfl, rfl, rfl⟩⟩ hB hS1 dL_scopeOf_16
    | succ n9 =>
      exact absurd h8 (by simp)
  · intro v σ1 H1 locs1 hR hv hH1 hk1 hS1
    obtain ⟨hR, hT2⟩ := hR
    have hO1 : al_O o cL f H1 := (hk1 o (Array.getElem?_eq_some_iff.mp hO).1 ho).trans hO
    obtain ⟨a9, rfl⟩ := hv
    refine lv_i2l hF.1 hF.2.1 dL_scopeOf_8 rfl ?_
    refine va_last (D := G.2.1) (cl := vwCl) (ws := al_ws G o cL σ1 f) (tys := [(cL, .long)]) (A := al_A G o) (H0 := s.heap) hF.1 hF.2.1 hKl (al_WP hH1 hO1) (al_WD hG ho) hS1 0 0 rfl rfl al_in0 dL_scopeOf_9 (fun H2 locs2 hP2 _ hS2 => ?_)
    refine lv_goto hF.1 hF.2.1 dL_scopeOf_10 (tgt := 17) (by decide) ?_
    refine lv_iconst hF.1 hF.2.1 dL_scopeOf_17 rfl ?_
    exact al_fin hF.1 hF.2.1 B.returns B.notSynchronized (u := (σ1, vp_updL f (0 : Int32).toNatClampNeg a9.toInt64, some (.int a9))) ⟨hR, Or.inl ⟨a9, rfl, rfl, rfl⟩⟩ (al_back hG hoH hH hS2 hP2) hS2 dL_scopeOf_18
abbrev hh_channel : List (Nat × Nat × Nat × Nat) := [(0, 10, 13, 25), (0, 10, 17, 13)]
abbrev wl_channel : List Cond := Cond.codeWith yL_channel cL_channel 5 (some .int) hh_channel :: am_tb
theorem w_channel (l : Launch) (G : am_G) (hG : am_ok G) (hXn : am_xn G) (hst : l.stackTraces = false) (hNc : al_xn G) {o : Nat} {cL : ClassId} (ho : ¬ am_A G o) (hoH : G.2.2.2.1.size ≤ o) (x1 : Int32) (x2 : Int32) : al_Met l G o cL yL_channel wl_channel (am_roX 8) al_l [2, 0] [.ref 0, .int x1, .int x2] sp_X11_channel := by
  intro σ f R0 hs
  have hs' := e_X11_channel hs
  refine vx_ofWH (cc := cL_channel) (maxL := 5) (ret := some .int) (hh := hh_channel) (by decide +kernel) rfl ?_
  intro p e s m args below meth c s₁ B hml hP
  obtain ⟨rfl, hH, hK, hO, hKl⟩ := hP
  have hF := (⟨B.exec, B.bytes, hml, findClass_of_methodNamed B.named, atoms_spec (ws := wl_channel) B.pre⟩ : CallFix p m c cL_channel 5 s _ wl_channel yL_channel.cls)
  have hT : c.exceptionTable.toList = tableOf hh_channel := vx_table (x := yL_channel) B (hF.2.2.2.2 _ List.mem_cons_self)
  have hl : lv_has _ 5 [(0, .ref (G.1 0)), (1, .int x1), (2, .int x2), (3, .ref o)] := lv_entry [.ref (G.1 0), .int x1, .int x2, .ref o] (n := 5) (Nat.le_of_ble_eq_true rfl)
  rw [lg_entry_eq]
  refine lv_aload_n hF.1 hF.2.1 dL_channel_0 rfl (hl.2.2 _ (.tail _ (.tail _ (.tail _ (.head _))))) ?_
  refine lv_iconst hF.1 hF.2.1 dL_channel_1 rfl ?_
  refine lv_aload_n hF.1 hF.2.1 dL_channel_2 rfl (hl.2.2 _ (.head _)) ?_
  refine lv_iload_n hF.1 hF.2.1 dL_channel_3 rfl (hl.2.2 _ (.tail _ (.head _))) ?_
  refine lv_iload_n hF.1 hF.2.1 dL_channel_4 rfl (hl.2.2 _ (.tail _ (.tail _ (.head _)))) ?_
  refine al_callX (A := al_A G o) (R1 := fun v s => R0 v s ∧ al_T [2, 0] v) (rest := [.int 0, .ref o]) (mc := 1) (ms := 6) (vx_runV (As := [.int x1, .int x2]) (b := G.1 0) hF (n_X11_channel l G hG hXn hst [.ref 0, .int x1, .int x2] σ _ (by intro v hv; simp at hv; rcases hv with rfl | rfl | rfl <;> rfl) hs') (al_cwV 2 hF.2.2.2.2 uw_1164 uw_1161 uw_1162 uw_1163 uw_1 rfl rfl hv_X11_channel ⟨by decide, by decide⟩) ⟨am_blind hG, va_recv hK.1 hH.1 (ci := 11) rfl (am_ws_get (k := 0) rfl), fun U hU hW => ⟨rfl, by rw [hU]; exact hH, hK.warm hG hW⟩⟩ rfl rfl hl.1 rfl (Nat.le_of_ble_eq_true rfl) dL_channel_5 ⟨by decide, by decide⟩) (fun q h => Or.inl h) va_S.rf ?_ ?_
  · intro E ce q9 j σ1 H1 locs1 hj hR hH1 hk1 hS1 hce hcv hcl
    obtain ⟨hR, hT2⟩ := hR
    have hB : am_H G σ1 H1 ∧ al_O o cL f H1 := ⟨hH1, (hk1 o (Array.getElem?_eq_some_iff.mp hO).1 ho).trans hO⟩
    rcases hT2 with ⟨a9, h9⟩ | ⟨n9, j9, h8, h9⟩
    · exact absurd h9 (by simp)
    have ej : j = j9 := by simpa using h9
    subst ej
    cases n9 with
    | zero =>
      cases h8
      cases hj
      refine vx_catch (own := yL_channel.cls) hF.2.2.2.1 [] ⟨0, 10, 13, 25⟩ [⟨0, 10, 17, 13⟩] hT (fun z hz => absurd hz List.not_mem_nil) (by decide) (by decide) (hF.2.2.2.2 _ (List.mem_cons_of_mem _ uw_733)) (vx_ot_at (State.WarmedH.refl s) rfl (by decide +kernel) ((hXn s hK.2).2.2.2 _ uo_740)) hce hcv hcl ?_
      refine lv_astore hF.1 hF.2.1 dL_channel_13 hl (by decide) rfl (fun ls2 _ => ?_)
      refine lv_iconst hF.1 hF.2.1 dL_channel_15 rfl ?_
      exact al_fin hF.1 hF.2.1 B.returns B.notSynchronized (u := (σ1, f, some (.ref (2000 + 2)))) ⟨hR, Or.inr ⟨0, 2, rfl, rfl, rfl⟩⟩ hB hS1 dL_channel_16
    | succ n9 =>
      cases n9 with
      | zero =>
        cases h8
        cases hj
        refine vx_catch (own := yL_channel.cls) hF.2.2.2.1 [⟨0, 10, 13, 25⟩] ⟨0, 10, 17, 13⟩ [] hT (List.forall_mem_cons.mpr ⟨Or.inr ⟨by decide, _, hF.2.2.2.2 _ (List.mem_cons_of_mem _ uw_733), hNc s hK.2 ("java/lang/IllegalArgumentException", "java/lang/IndexOutOfBoundsException") (by decide)⟩, fun _ h => absurd h List.not_mem_nil⟩) (by decide) (by decide) (hF.2.2.2.2 _ (List.mem_cons_of_mem _ uw_532)) (vx_ot_at (State.WarmedH.refl s) rfl (by decide +kernel) ((hXn s hK.2).2.2.2 _ uo_543)) hce hcv hcl ?_
        refine lv_astore hF.1 hF.2.1 dL_channel_17 hl (by decide) rfl (fun ls2 _ => ?_)
        refine lv_iconst hF.1 hF.2.1 dL_channel_19 rfl ?_
        exact al_fin hF.1 hF.2.1 B.returns B.notSynchronized (u := (σ1, f, some (.ref (2000 + 0)))) ⟨hR, Or.inr ⟨1, 0, rfl, rfl, rfl⟩⟩ hB hS1 dL_channel_20
      | succ n9 =>
        exact absurd h8 (by simp)
  · intro v σ1 H1 locs1 hR hv hH1 hk1 hS1
    obtain ⟨hR, hT2⟩ := hR
    have hO1 : al_O o cL f H1 := (hk1 o (Array.getElem?_eq_some_iff.mp hO).1 ho).trans hO
    obtain ⟨a9, rfl⟩ := hv
    refine lv_i2l hF.1 hF.2.1 dL_channel_8 rfl ?_
    refine va_last (D := G.2.1) (cl := vwCl) (ws := al_ws G o cL σ1 f) (tys := [(cL, .long)]) (A := al_A G o) (H0 := s.heap) hF.1 hF.2.1 hKl (al_WP hH1 hO1) (al_WD hG ho) hS1 0 0 rfl rfl al_in0 dL_channel_9 (fun H2 locs2 hP2 _ hS2 => ?_)
    refine lv_goto hF.1 hF.2.1 dL_channel_10 (tgt := 21) (by decide) ?_
    refine lv_iconst hF.1 hF.2.1 dL_channel_21 rfl ?_
    exact al_fin hF.1 hF.2.1 B.returns B.notSynchronized (u := (σ1, vp_updL f (0 : Int32).toNatClampNeg a9.toInt64, some (.int a9))) ⟨hR, Or.inl ⟨a9, rfl, rfl, rfl⟩⟩ (al_back hG hoH hH hS2 hP2) hS2 dL_channel_22
abbrev hh_content : List (Nat × Nat × Nat × Nat) := [(0, 10, 13, 25), (0, 10, 17, 46)]
abbrev wl_content : List Cond := Cond.codeWith yL_content cL_content 5 (some .int) hh_content :: am_tb
theorem w_content (l : Launch) (G : am_G) (hG : am_ok G) (hXn : am_xn G) (hst : l.stackTraces = false) (hNc : al_xn G) {o : Nat} {cL : ClassId} (ho : ¬ am_A G o) (hoH : G.2.2.2.1.size ≤ o) (x1 : Int32) (x2 : Int32) : al_Met l G o cL yL_content wl_content (am_roX 8) al_l [2, 3] [.ref 0, .int x1, .int x2] sp_X11_content := by
  intro σ f R0 hs
  have hs' := e_X11_content hs
  refine vx_ofWH (cc := cL_content) (maxL := 5) (ret := some .int) (hh := hh_content) (by decide +kernel) rfl ?_
  intro p e s m args below meth c s₁ B hml hP
  obtain ⟨rfl, hH, hK, hO, hKl⟩ := hP
  have hF := (⟨B.exec, B.bytes, hml, findClass_of_methodNamed B.named, atoms_spec (ws := wl_content) B.pre⟩ : CallFix p m c cL_content 5 s _ wl_content yL_content.cls)
  have hT : c.exceptionTable.toList = tableOf hh_content := vx_table (x := yL_content) B (hF.2.2.2.2 _ List.mem_cons_self)
  have hl : lv_has _ 5 [(0, .ref (G.1 0)), (1, .int x1), (2, .int x2), (3, .ref o)] := lv_entry [.ref (G.1 0), .int x1, .int x2, .ref o] (n := 5) (Nat.le_of_ble_eq_true rfl)
  rw [lg_entry_eq]
  refine lv_aload_n hF.1 hF.2.1 dL_content_0 rfl (hl.2.2 _ (.tail _ (.tail _ (.tail _ (.head _))))) ?_
  refine lv_iconst hF.1 hF.2.1 dL_content_1 rfl ?_
  refine lv_aload_n hF.1 hF.2.1 dL_content_2 rfl (hl.2.2 _ (.head _)) ?_
  refine lv_iload_n hF.1 hF.2.1 dL_content_3 rfl (hl.2.2 _ (.tail _ (.head _))) ?_
  refine lv_iload_n hF.1 hF.2.1 dL_content_4 rfl (hl.2.2 _ (.tail _ (.tail _ (.head _)))) ?_
  refine al_callX (A := al_A G o) (R1 := fun v s => R0 v s ∧ al_T [2, 3] v) (rest := [.int 0, .ref o]) (mc := 1) (ms := 6) (vx_runV (As := [.int x1, .int x2]) (b := G.1 0) hF (n_X11_content l G hG hXn hst [.ref 0, .int x1, .int x2] σ _ (by intro v hv; simp at hv; rcases hv with rfl | rfl | rfl <;> rfl) hs') (al_cwV 2 hF.2.2.2.2 uw_1183 uw_1180 uw_1181 uw_1182 uw_1 rfl rfl hv_X11_content ⟨by decide, by decide⟩) ⟨am_blind hG, va_recv hK.1 hH.1 (ci := 11) rfl (am_ws_get (k := 0) rfl), fun U hU hW => ⟨rfl, by rw [hU]; exact hH, hK.warm hG hW⟩⟩ rfl rfl hl.1 rfl (Nat.le_of_ble_eq_true rfl) dL_content_5 ⟨by decide, by decide⟩) (fun q h => Or.inl h) va_S.rf ?_ ?_
  · intro E ce q9 j σ1 H1 locs1 hj hR hH1 hk1 hS1 hce hcv hcl
    obtain ⟨hR, hT2⟩ := hR
    have hB : am_H G σ1 H1 ∧ al_O o cL f H1 := ⟨hH1, (hk1 o (Array.getElem?_eq_some_iff.mp hO).1 ho).trans hO⟩
    rcases hT2 with ⟨a9, h9⟩ | ⟨n9, j9, h8, h9⟩
    · exact absurd h9 (by simp)
    have ej : j = j9 := by simpa using h9
    subst ej
    cases n9 with
    | zero =>
      cases h8
      cases hj
      refine vx_catch (own := yL_content.cls) hF.2.2.2.1 [] ⟨0, 10, 13, 25⟩ [⟨0, 10, 17, 46⟩] hT (fun z hz => absurd hz List.not_mem_nil) (by decide) (by decide) (hF.2.2.2.2 _ (List.mem_cons_of_mem _ uw_733)) (vx_ot_at (State.WarmedH.refl s) rfl (by decide +kernel) ((hXn s hK.2).2.2.2 _ uo_740)) hce hcv hcl ?_
      refine lv_astore hF.1 hF.2.1 dL_content_13 hl (by decide) rfl (fun ls2 _ => ?_)
      refine lv_iconst hF.1 hF.2.1 dL_content_15 rfl ?_
      exact al_fin hF.1 hF.2.1 B.returns B.notSynchronized (u := (σ1, f, some (.ref (2000 + 2)))) ⟨hR, Or.inr ⟨0, 2, rfl, rfl, rfl⟩⟩ hB hS1 dL_content_16
    | succ n9 =>
      cases n9 with
      | zero =>
        cases h8
        cases hj
        refine vx_catch (own := yL_content.cls) hF.2.2.2.1 [⟨0, 10, 13, 25⟩] ⟨0, 10, 17, 46⟩ [] hT (List.forall_mem_cons.mpr ⟨Or.inr ⟨by decide, _, hF.2.2.2.2 _ (List.mem_cons_of_mem _ uw_733), hNc s hK.2 ("java/util/NoSuchElementException", "java/lang/IndexOutOfBoundsException") (by decide)⟩, fun _ h => absurd h List.not_mem_nil⟩) (by decide) (by decide) (hF.2.2.2.2 _ (List.mem_cons_of_mem _ uw_1091)) (vx_ot_at (State.WarmedH.refl s) rfl (by decide +kernel) ((hXn s hK.2).2.2.2 _ uo_1103)) hce hcv hcl ?_
        refine lv_astore hF.1 hF.2.1 dL_content_17 hl (by decide) rfl (fun ls2 _ => ?_)
        refine lv_iconst hF.1 hF.2.1 dL_content_19 rfl ?_
        exact al_fin hF.1 hF.2.1 B.returns B.notSynchronized (u := (σ1, f, some (.ref (2000 + 3)))) ⟨hR, Or.inr ⟨1, 3, rfl, rfl, rfl⟩⟩ hB hS1 dL_content_20
      | succ n9 =>
        exact absurd h8 (by simp)
  · intro v σ1 H1 locs1 hR hv hH1 hk1 hS1
    obtain ⟨hR, hT2⟩ := hR
    have hO1 : al_O o cL f H1 := (hk1 o (Array.getElem?_eq_some_iff.mp hO).1 ho).trans hO
    obtain ⟨a9, rfl⟩ := hv
    refine lv_i2l hF.1 hF.2.1 dL_content_8 rfl ?_
    refine va_last (D := G.2.1) (cl := vwCl) (ws := al_ws G o cL σ1 f) (tys := [(cL, .long)]) (A := al_A G o) (H0 := s.heap) hF.1 hF.2.1 hKl (al_WP hH1 hO1) (al_WD hG ho) hS1 0 0 rfl rfl al_in0 dL_content_9 (fun H2 locs2 hP2 _ hS2 => ?_)
    refine lv_goto hF.1 hF.2.1 dL_content_10 (tgt := 21) (by decide) ?_
    refine lv_iconst hF.1 hF.2.1 dL_content_21 rfl ?_
    exact al_fin hF.1 hF.2.1 B.returns B.notSynchronized (u := (σ1, vp_updL f (0 : Int32).toNatClampNeg a9.toInt64, some (.int a9))) ⟨hR, Or.inl ⟨a9, rfl, rfl, rfl⟩⟩ (al_back hG hoH hH hS2 hP2) hS2 dL_content_22
abbrev hh_count : List (Nat × Nat × Nat × Nat) := [(0, 9, 12, 13)]
abbrev wl_count : List Cond := Cond.codeWith yL_count cL_count 4 (some .int) hh_count :: am_tb
theorem w_count (l : Launch) (G : am_G) (hG : am_ok G) (hXn : am_xn G) (hst : l.stackTraces = false) (hNc : al_xn G) {o : Nat} {cL : ClassId} (ho : ¬ am_A G o) (hoH : G.2.2.2.1.size ≤ o) (x1 : Int32) : al_Met l G o cL yL_count wl_count (am_roX 8) al_l [0] [.ref 0, .int x1] sp_X11_count := by
  intro σ f R0 hs
  have hs' := e_X11_count hs
  refine vx_ofWH (cc := cL_count) (maxL := 4) (ret := some .int) (hh := hh_count) (by decide +kernel) rfl ?_
  intro p e s m args below meth c s₁ B hml hP
  obtain ⟨rfl, hH, hK, hO, hKl⟩ := hP
  have hF := (⟨B.exec, B.bytes, hml, findClass_of_methodNamed B.named, atoms_spec (ws := wl_count) B.pre⟩ : CallFix p m c cL_count 4 s _ wl_count yL_count.cls)
  have hT : c.exceptionTable.toList = tableOf hh_count := vx_table (x := yL_count) B (hF.2.2.2.2 _ List.mem_cons_self)
  have hl : lv_has _ 4 [(0, .ref (G.1 0)), (1, .int x1), (2, .ref o)] := lv_entry [.ref (G.1 0), .int x1, .ref o] (n := 4) (Nat.le_of_ble_eq_true rfl)
  rw [lg_entry_eq]
  refine lv_aload_n hF.1 hF.2.1 dL_count_0 rfl (hl.2.2 _ (.tail _ (.tail _ (.head _)))) ?_
  refine lv_iconst hF.1 hF.2.1 dL_count_1 rfl ?_
  refine lv_aload_n hF.1 hF.2.1 dL_count_2 rfl (hl.2.2 _ (.head _)) ?_
  refine lv_iload_n hF.1 hF.2.1 dL_count_3 rfl (hl.2.2 _ (.tail _ (.head _))) ?_
  refine al_callX (A := al_A G o) (R1 := fun v s => R0 v s ∧ al_T [0] v) (rest := [.int 0, .ref o]) (mc := 1) (ms := 6) (vx_runV (As := [.int x1]) (b := G.1 0) hF (n_X11_count l G hG hXn hst [.ref 0, .int x1] σ _ (by intro v hv; simp at hv; rcases hv with rfl | rfl <;> rfl) hs') (al_cwV 1 hF.2.2.2.2 uw_1192 uw_1189 uw_1190 uw_1191 uw_1 rfl rfl hv_X11_count ⟨by decide, by decide⟩) ⟨am_blind hG, va_recv hK.1 hH.1 (ci := 11) rfl (am_ws_get (k := 0) rfl), fun U hU hW => ⟨rfl, by rw [hU]; exact hH, hK.warm hG hW⟩⟩ rfl rfl hl.1 rfl (Nat.le_of_ble_eq_true rfl) dL_count_4 ⟨by decide, by decide⟩) (fun q h => Or.inl h) va_S.rf ?_ ?_
  · intro E ce q9 j σ1 H1 locs1 hj hR hH1 hk1 hS1 hce hcv hcl
    obtain ⟨hR, hT2⟩ := hR
    have hB : am_H G σ1 H1 ∧ al_O o cL f H1 := ⟨hH1, (hk1 o (Array.getElem?_eq_some_iff.mp hO).1 ho).trans hO⟩
    rcases hT2 with ⟨a9, h9⟩ | ⟨n9, j9, h8, h9⟩
    · exact absurd h9 (by simp)
    have ej : j = j9 := by simpa using h9
    subst ej
    cases n9 with
    | zero =>
      cases h8
      cases hj
      refine vx_catch (own := yL_count.cls) hF.2.2.2.1 [] ⟨0, 9, 12, 13⟩ [] hT (fun z hz => absurd hz List.not_mem_nil) (by decide) (by decide) (hF.2.2.2.2 _ (List.mem_cons_of_mem _ uw_532)) (vx_ot_at (State.WarmedH.refl s) rfl (by decide +kernel) ((hXn s hK.2).2.2.2 _ uo_543)) hce hcv hcl ?_
      refine lv_astore_n hF.1 hF.2.1 dL_count_12 rfl hl (by decide) rfl (fun ls2 _ => ?_)
      refine lv_iconst hF.1 hF.2.1 dL_count_13 rfl ?_
      exact al_fin hF.1 hF.2.1 B.returns B.notSynchronized (u := (σ1, f, some (.ref (2000 + 0)))) ⟨hR, Or.inr ⟨0, 0, rfl, rfl, rfl⟩⟩ hB hS1 dL_count_14
    | succ n9 =>
      exact absurd h8 (by simp)
  · intro v σ1 H1 locs1 hR hv hH1 hk1 hS1
    obtain ⟨hR, hT2⟩ := hR
    have hO1 : al_O o cL f H1 := (hk1 o (Array.getElem?_eq_some_iff.mp hO).1 ho).trans hO
    obtain ⟨a9, rfl⟩ := hv
    refine lv_i2l hF.1 hF.2.1 dL_count_7 rfl ?_
    refine va_last (D := G.2.1) (cl := vwCl) (ws := al_ws G o cL σ1 f) (tys := [(cL, .long)]) (A := al_A G o) (H0 := s.heap) hF.1 hF.2.1 hKl (al_WP hH1 hO1) (al_WD hG ho) hS1 0 0 rfl rfl al_in0 dL_count_8 (fun H2 locs2 hP2 _ hS2 => ?_)
    refine lv_goto hF.1 hF.2.1 dL_count_9 (tgt := 15) (by decide) ?_
    refine lv_iconst hF.1 hF.2.1 dL_count_15 rfl ?_
    exact al_fin hF.1 hF.2.1 B.returns B.notSynchronized (u := (σ1, vp_updL f (0 : Int32).toNatClampNeg a9.toInt64, some (.int a9))) ⟨hR, Or.inl ⟨a9, rfl, rfl, rfl⟩⟩ (al_back hG hoH hH hS2 hP2) hS2 dL_count_16
abbrev hh_restore : List (Nat × Nat × Nat × Nat) := [(0, 8, 11, 15)]
abbrev wl_restore : List Cond := Cond.codeWith yL_restore cL_restore 3 (some .int) hh_restore :: am_tb
theorem w_restore (l : Launch) (G : am_G) (hG : am_ok G) (hXn : am_xn G) (hst : l.stackTraces = false) (hNc : al_xn G) {o : Nat} {cL : ClassId} (ho : ¬ am_A G o) (hoH : G.2.2.2.1.size ≤ o) : al_Met l G o cL yL_restore wl_restore (am_roX 8) al_l [1] [.ref 0] sp_X11_restore := by
  intro σ f R0 hs
  have hs' := e_X11_restore hs
  refine vx_ofWH (cc := cL_restore) (maxL := 3) (ret := some .int) (hh := hh_restore) (by decide +kernel) rfl ?_
  intro p e s m args below meth c s₁ B hml hP
  obtain ⟨rfl, hH, hK, hO, hKl⟩ := hP
  have hF := (⟨B.exec, B.bytes, hml, findClass_of_methodNamed B.named, atoms_spec (ws := wl_restore) B.pre⟩ : CallFix p m c cL_restore 3 s _ wl_restore yL_restore.cls)
  have hT : c.exceptionTable.toList = tableOf hh_restore := vx_table (x := yL_restore) B (hF.2.2.2.2 _ List.mem_cons_self)
  have hl : lv_has _ 3 [(0, .ref (G.1 0)), (1, .ref o)] := lv_entry [.ref (G.1 0), .ref o] (n := 3) (Nat.le_of_ble_eq_true rfl)
  rw [lg_entry_eq]
  refine lv_aload_n hF.1 hF.2.1 dL_restore_0 rfl (hl.2.2 _ (.tail _ (.head _))) ?_
  refine lv_iconst hF.1 hF.2.1 dL_restore_1 rfl ?_
  refine lv_aload_n hF.1 hF.2.1 dL_restore_2 rfl (hl.2.2 _ (.head _)) ?_
  refine al_callX (A := al_A G o) (R1 := fun v s => R0 v s ∧ al_T [1] v) (rest := [.int 0, .ref o]) (mc := 1) (ms := 6) (vx_runV (As := []) (b := G.1 0) hF (n_X11_restore l G hG hXn hst [.ref 0] σ _ (by intro v hv; simp at hv; rcases hv with rfl <;> rfl) hs') (al_cwV 0 hF.2.2.2.2 uw_1205 uw_1202 uw_1203 uw_1204 uw_1 rfl rfl hv_X11_restore ⟨by decide, by decide⟩) ⟨am_blind hG, va_recv hK.1 hH.1 (ci := 11) rfl (am_ws_get (k := 0) rfl), fun U hU hW => ⟨rfl, by rw [hU]; exact hH, hK.warm hG hW⟩⟩ rfl rfl hl.1 rfl (Nat.le_of_ble_eq_true rfl) dL_restore_3 ⟨by decide, by decide⟩) (fun q h => Or.inl h) va_S.rf ?_ ?_
  · intro E ce q9 j σ1 H1 locs1 hj hR hH1 hk1 hS1 hce hcv hcl
    obtain ⟨hR, hT2⟩ := hR
    have hB : am_H G σ1 H1 ∧ al_O o cL f H1 := ⟨hH1, (hk1 o (Array.getElem?_eq_some_iff.mp hO).1 ho).trans hO⟩
    rcases hT2 with ⟨a9, h9⟩ | ⟨n9, j9, h8, h9⟩
    · exact absurd h9 (by simp)
    have ej : j = j9 := by simpa using h9
    subst ej
    cases n9 with
    | zero =>
      cases h8
      cases hj
      refine vx_catch (own := yL_restore.cls) hF.2.2.2.1 [] ⟨0, 8, 11, 15⟩ [] hT (fun z hz => absurd hz List.not_mem_nil) (by decide) (by decide) (hF.2.2.2.2 _ (List.mem_cons_of_mem _ uw_533)) (vx_ot_at (State.WarmedH.refl s) rfl (by decide +kernel) ((hXn s hK.2).2.2.2 _ uo_613)) hce hcv hcl ?_
      refine lv_astore_n hF.1 hF.2.1 dL_restore_11 rfl hl (by decide) rfl (fun ls2 _ => ?_)
      refine lv_iconst hF.1 hF.2.1 dL_restore_12 rfl ?_
      exact al_fin hF.1 hF.2.1 B.returns B.notSynchronized (u := (σ1, f, some (.ref (2000 + 1)))) ⟨hR, Or.inr ⟨0, 1, rfl, rfl, rfl⟩⟩ hB hS1 dL_restore_13
    | succ n9 =>
      exact absurd h8 (by simp)
  · intro v σ1 H1 locs1 hR hv hH1 hk1 hS1
    obtain ⟨hR, hT2⟩ := hR
    have hO1 : al_O o cL f H1 := (hk1 o (Array.getElem?_eq_some_iff.mp hO).1 ho).trans hO
    obtain ⟨a9, rfl⟩ := hv
    refine lv_i2l hF.1 hF.2.1 dL_restore_6 rfl ?_
    refine va_last (D := G.2.1) (cl := vwCl) (ws := al_ws G o cL σ1 f) (tys := [(cL, .long)]) (A := al_A G o) (H0 := s.heap) hF.1 hF.2.1 hKl (al_WP hH1 hO1) (al_WD hG ho) hS1 0 0 rfl rfl al_in0 dL_restore_7 (fun H2 locs2 hP2 _ hS2 => ?_)
    refine lv_goto hF.1 hF.2.1 dL_restore_8 (tgt := 14) (by decide) ?_
    refine lv_iconst hF.1 hF.2.1 dL_restore_14 rfl ?_
    exact al_fin hF.1 hF.2.1 B.returns B.notSynchronized (u := (σ1, vp_updL f (0 : Int32).toNatClampNeg a9.toInt64, some (.int a9))) ⟨hR, Or.inl ⟨a9, rfl, rfl, rfl⟩⟩ (al_back hG hoH hH hS2 hP2) hS2 dL_restore_15
