/-! what the statement's start gives: classes, arrays, constants, statics, words; G of the law's start (written by program: wip/whole/gen_env.py) -/
theorem ux_1 : (Jvm.Cond.initialized "CoroutineScheduler") ∈ am_tb := am_t1 1 (by decide +kernel) rfl
theorem ux_14 : (Jvm.Cond.initialized "CoroutineSchedulerModel") ∈ am_tb := am_t1 14 (by decide +kernel) rfl
theorem ux_28 : (Jvm.Cond.classLink "CoroutineSchedulerLaw" (8 : Nat) "CoroutineScheduler") ∈ am_tb := am_t1 28 (by decide +kernel) rfl
theorem ux_29 : (Jvm.Cond.instantiable "CoroutineScheduler" (7 : Nat)) ∈ am_tb := am_t1 29 (by decide +kernel) rfl
theorem ux_30 : (Jvm.Cond.methodLink "CoroutineSchedulerLaw" (73 : Nat) ({ cls := "CoroutineScheduler", name := "<init>", desc := "()V" } : Jvm.MethodName)) ∈ am_tb := am_t1 30 (by decide +kernel) rfl
theorem ux_31 : (Jvm.Cond.instanceMethod ({ cls := "CoroutineScheduler", name := "<init>", desc := "()V" } : Jvm.MethodName)) ∈ am_tb := am_t1 31 (by decide +kernel) rfl
theorem ux_32 : (Jvm.Cond.code ({ cls := "CoroutineScheduler", name := "<init>", desc := "()V" } : Jvm.MethodName) prog_1_method_1_code (1 : Nat) (Option.none : Option Jvm.ClassFile.FieldType)) ∈ am_tb := am_t1 32 (by decide +kernel) rfl
theorem ux_37 : (Jvm.Cond.instantiable "CoroutineScheduler$Line" (2 : Nat)) ∈ am_tb := am_t1 37 (by decide +kernel) rfl
theorem ux_52 : (Jvm.Cond.arrayClass Jvm.ClassFile.FieldType.int) ∈ am_tb := am_t1 52 (by decide +kernel) rfl
theorem ux_54 : (Jvm.Cond.instantiable "CoroutineScheduler$Reader" (7 : Nat)) ∈ am_tb := am_t1 54 (by decide +kernel) rfl
theorem ux_60 : (Jvm.Cond.instantiable "CoroutineScheduler$Book" (2 : Nat)) ∈ am_tb := am_t1 60 (by decide +kernel) rfl
theorem ux_66 : (Jvm.Cond.instantiable "CoroutineScheduler$Row" (1 : Nat)) ∈ am_tb := am_t1 66 (by decide +kernel) rfl
theorem ux_110 : (Jvm.Cond.instantiable "CoroutineScheduler$World" (8 : Nat)) ∈ am_tb := am_t1 110 (by decide +kernel) rfl
theorem ux_118 : (Jvm.Cond.instantiable "CoroutineScheduler$Tasks" (17 : Nat)) ∈ am_tb := am_t1 118 (by decide +kernel) rfl
theorem ux_208 : (Jvm.Cond.instantiable "CoroutineScheduler$Scopes" (11 : Nat)) ∈ am_tb := am_t1 208 (by decide +kernel) rfl
theorem ux_265 : (Jvm.Cond.instantiable "CoroutineScheduler$Channels" (3 : Nat)) ∈ am_tb := am_t1 265 (by decide +kernel) rfl
theorem ux_289 : (Jvm.Cond.instantiable "CoroutineScheduler$Failures" (3 : Nat)) ∈ am_tb := am_t1 289 (by decide +kernel) rfl
theorem ux_358 : (Jvm.Cond.instantiable "CoroutineScheduler$Schedule" (4 : Nat)) ∈ am_tb := am_t1 358 (by decide +kernel) rfl
theorem ux_364 : (Jvm.Cond.instantiable "CoroutineScheduler$Exchange" (3 : Nat)) ∈ am_tb := am_t1 364 (by decide +kernel) rfl
theorem ux_1207 : (Jvm.Cond.classLink "CoroutineSchedulerLaw" (74 : Nat) "CoroutineSchedulerModel") ∈ am_tb := am_t1 1207 (by decide +kernel) rfl
theorem ux_1208 : (Jvm.Cond.instantiable "CoroutineSchedulerModel" (11 : Nat)) ∈ am_tb := am_t1 1208 (by decide +kernel) rfl
theorem ux_1209 : (Jvm.Cond.methodLink "CoroutineSchedulerLaw" (76 : Nat) ({ cls := "CoroutineSchedulerModel", name := "<init>", desc := "()V" } : Jvm.MethodName)) ∈ am_tb := am_t1 1209 (by decide +kernel) rfl
theorem ux_1210 : (Jvm.Cond.instanceMethod ({ cls := "CoroutineSchedulerModel", name := "<init>", desc := "()V" } : Jvm.MethodName)) ∈ am_tb := am_t1 1210 (by decide +kernel) rfl
theorem ux_1211 : (Jvm.Cond.code ({ cls := "CoroutineSchedulerModel", name := "<init>", desc := "()V" } : Jvm.MethodName) prog_14_method_1_code (1 : Nat) (Option.none : Option Jvm.ClassFile.FieldType)) ∈ am_tb := am_t1 1211 (by decide +kernel) rfl
theorem ux_1634 : (Jvm.Cond.arrayClass Jvm.ClassFile.FieldType.long) ∈ am_tb := am_t1 1634 (by decide +kernel) rfl
theorem ev_kn {w0 : Cond} {s : State} {args : Array Value} (hts : ∀ w ∈ w0 :: am_tb, w.before args s = true) : ∀ q ∈ vwCl, ∃ (cC : ClassId) (iS : Nat → Nat), u_Kn s q.1 q.2.1 q.2.2 cC iS :=
  List.forall_mem_cons.mpr ⟨u_known hts (fun w h => List.mem_cons_of_mem _ (iu_X0 w h)) (hts _ (List.mem_cons_of_mem _ ux_60)), List.forall_mem_cons.mpr ⟨u_known hts (fun w h => List.mem_cons_of_mem _ (iu_X1 w h)) (hts _ (List.mem_cons_of_mem _ ux_265)), List.forall_mem_cons.mpr ⟨u_known hts (fun w h => List.mem_cons_of_mem _ (iu_X2 w h)) (hts _ (List.mem_cons_of_mem _ ux_364)), List.forall_mem_cons.mpr ⟨u_known hts (fun w h => List.mem_cons_of_mem _ (iu_X3 w h)) (hts _ (List.mem_cons_of_mem _ ux_289)), List.forall_mem_cons.mpr ⟨u_known hts (fun w h => List.mem_cons_of_mem _ (iu_X4 w h)) (hts _ (List.mem_cons_of_mem _ ux_37)), List.forall_mem_cons.mpr ⟨u_known hts (fun w h => List.mem_cons_of_mem _ (iu_X5 w h)) (hts _ (List.mem_cons_of_mem _ ux_54)), List.forall_mem_cons.mpr ⟨u_known hts (fun w h => List.mem_cons_of_mem _ (iu_X6 w h)) (hts _ (List.mem_cons_of_mem _ ux_66)), List.forall_mem_cons.mpr ⟨u_known hts (fun w h => List.mem_cons_of_mem _ (iu_X7 w h)) (hts _ (List.mem_cons_of_mem _ ux_358)), List.forall_mem_cons.mpr ⟨u_known hts (fun w h => List.mem_cons_of_mem _ (iu_X8 w h)) (hts _ (List.mem_cons_of_mem _ ux_208)), List.forall_mem_cons.mpr ⟨u_known hts (fun w h => List.mem_cons_of_mem _ (iu_X9 w h)) (hts _ (List.mem_cons_of_mem _ ux_118)), List.forall_mem_cons.mpr ⟨u_known hts (fun w h => List.mem_cons_of_mem _ (iu_X10 w h)) (hts _ (List.mem_cons_of_mem _ ux_110)), List.forall_mem_cons.mpr ⟨u_known hts (fun w h => List.mem_cons_of_mem _ (iu_X11 w h)) (hts _ (List.mem_cons_of_mem _ ux_29)), List.forall_mem_cons.mpr ⟨u_known hts (fun w h => List.mem_cons_of_mem _ (iu_X12 w h)) (hts _ (List.mem_cons_of_mem _ ux_1208)), fun _ h => absurd h List.not_mem_nil⟩⟩⟩⟩⟩⟩⟩⟩⟩⟩⟩⟩⟩
theorem ev_D {w0 : Cond} {s : State} {args : Array Value} (hts : ∀ w ∈ w0 :: am_tb, w.before args s = true) : ∃ D : va_G, ∀ (k : Nat) (q : vw_C), vwCl[k]? = some q → u_Kn s q.1 q.2.1 q.2.2 (D.1 k) (D.2 k) := by
  have h0 : ∀ k : Nat, ∃ d : ClassId × (Nat → Nat), ∀ q : vw_C, vwCl[k]? = some q → u_Kn s q.1 q.2.1 q.2.2 d.1 d.2 := by
    intro k
    rcases Nat.lt_or_ge k vwCl.length with hk | hk
    · obtain ⟨cC, iS, h⟩ := ev_kn hts vwCl[k] (List.getElem_mem hk)
      refine ⟨(cC, iS), fun q hq => ?_⟩
      rw [List.getElem?_eq_getElem hk] at hq
      cases hq
      exact h
    · obtain ⟨cC, iS, -⟩ := ev_kn hts _ List.mem_cons_self
      refine ⟨(cC, iS), fun q hq => ?_⟩
      rw [List.getElem?_eq_none hk] at hq
      cases hq
  obtain ⟨d, hd⟩ := Classical.axiomOfChoice h0
  exact ⟨(fun k => (d k).1, fun k => (d k).2), fun k q hq => hd k q hq⟩
/-- an array class, by its word -/
theorem ev_ar {s : State} {args : Array Value} {ty : FieldType} (h : (Cond.arrayClass ty).before args s = true) : ∃ cA : ClassId, ArrOfT s cA ty ∧ s.vm.findClass ("[" ++ ty.toString) = some cA := by
  obtain ⟨cA, kA, comp, h1, h2, h3⟩ := Cond.arrayClass_spec h
  exact ⟨cA, fun n z => ⟨fun k q => (by cases q), kA, h2, comp, h3⟩, h1⟩
theorem ev_K {D : va_G} {s : State} {cA : ClassId} (hD : ∀ (k : Nat) (q : vw_C), vwCl[k]? = some q → u_Kn s q.1 q.2.1 q.2.2 (D.1 k) (D.2 k)) {ty : FieldType} (h1 : ArrOfT s cA ty) (h2 : va_RA s cA ty) : va_K D vwCl [(cA, ty)] s := by
  refine ⟨hD, fun k q hq => ?_⟩
  cases k with
  | zero => cases hq; exact ⟨h1, h2⟩
  | succ k => cases hq
abbrev ev_fl : List Cond := flatC (Jvm.Cond.and given_1 narrow_1)
/-- the start's words on a String constant's contents -/
def ev_sw (own : String) (k : Nat) (byt : List Int32) : List Cond := [.exactly (.string own k) "java/lang/String", .eq (.field (.string own k) "java/lang/String" "coder" "B") (.int 0), .arrayOf (.field (.string own k) "java/lang/String" "value" "[B") .byte, .eq (.length (.field (.string own k) "java/lang/String" "value" "[B")) (.int (Int32.ofNat byt.length))] ++ (List.range byt.length).map (fun j => .eq (.elem (.field (.string own k) "java/lang/String" "value" "[B") (.int (Int32.ofNat j))) (.int (byt.getD j 0)))
theorem ev_t63 : (ev_fl.drop 801).take 20 = ev_sw RX12 63 (am_byt 63) := by decide +kernel
theorem ev_t69 : (ev_fl.drop 821).take 9 = ev_sw RX12 69 (am_byt 69) := by decide +kernel
theorem ev_t71 : (ev_fl.drop 830).take 7 = ev_sw RX12 71 (am_byt 71) := by decide +kernel
theorem ev_t76 : (ev_fl.drop 837).take 8 = ev_sw RX12 76 (am_byt 76) := by decide +kernel
theorem ev_t78 : (ev_fl.drop 845).take 9 = ev_sw RX12 78 (am_byt 78) := by decide +kernel
theorem ev_t84 : (ev_fl.drop 854).take 6 = ev_sw RX12 84 (am_byt 84) := by decide +kernel
theorem ev_t86 : (ev_fl.drop 860).take 7 = ev_sw RX12 86 (am_byt 86) := by decide +kernel
theorem ev_s0 : ∀ q ∈ am_strs, ∀ w ∈ ev_sw RX12 q.1 (am_byt q.1), w ∈ ev_fl :=
  List.forall_mem_cons.mpr ⟨fun w hw => List.mem_of_mem_drop (List.mem_of_mem_take (by rw [ev_t63]; exact hw)), List.forall_mem_cons.mpr ⟨fun w hw => List.mem_of_mem_drop (List.mem_of_mem_take (by rw [ev_t69]; exact hw)), List.forall_mem_cons.mpr ⟨fun w hw => List.mem_of_mem_drop (List.mem_of_mem_take (by rw [ev_t71]; exact hw)), List.forall_mem_cons.mpr ⟨fun w hw => List.mem_of_mem_drop (List.mem_of_mem_take (by rw [ev_t76]; exact hw)), List.forall_mem_cons.mpr ⟨fun w hw => List.mem_of_mem_drop (List.mem_of_mem_take (by rw [ev_t78]; exact hw)), List.forall_mem_cons.mpr ⟨fun w hw => List.mem_of_mem_drop (List.mem_of_mem_take (by rw [ev_t84]; exact hw)), List.forall_mem_cons.mpr ⟨fun w hw => List.mem_of_mem_drop (List.mem_of_mem_take (by rw [ev_t86]; exact hw)), fun _ h => absurd h List.not_mem_nil⟩⟩⟩⟩⟩⟩⟩
theorem ev_s1 : ∀ q ∈ am_strs, Cond.stringRef RX12 q.1 q.2 ∈ tables_1 :=
  List.forall_mem_cons.mpr ⟨List.mem_of_getElem? (i := 1304) (by decide +kernel), List.forall_mem_cons.mpr ⟨List.mem_of_getElem? (i := 1390) (by decide +kernel), List.forall_mem_cons.mpr ⟨List.mem_of_getElem? (i := 1391) (by decide +kernel), List.forall_mem_cons.mpr ⟨List.mem_of_getElem? (i := 1392) (by decide +kernel), List.forall_mem_cons.mpr ⟨List.mem_of_getElem? (i := 1393) (by decide +kernel), List.forall_mem_cons.mpr ⟨List.mem_of_getElem? (i := 1394) (by decide +kernel), List.forall_mem_cons.mpr ⟨List.mem_of_getElem? (i := 1395) (by decide +kernel), fun _ h => absurd h List.not_mem_nil⟩⟩⟩⟩⟩⟩⟩
theorem ev_s2 : ∀ q ∈ am_estr, Cond.exactly (.string RX11 q.1) "java/lang/String" ∈ ev_fl :=
  List.forall_mem_cons.mpr ⟨List.mem_of_getElem? (i := 75) (by decide +kernel), List.forall_mem_cons.mpr ⟨List.mem_of_getElem? (i := 112) (by decide +kernel), List.forall_mem_cons.mpr ⟨List.mem_of_getElem? (i := 147) (by decide +kernel), List.forall_mem_cons.mpr ⟨List.mem_of_getElem? (i := 180) (by decide +kernel), List.forall_mem_cons.mpr ⟨List.mem_of_getElem? (i := 223) (by decide +kernel), List.forall_mem_cons.mpr ⟨List.mem_of_getElem? (i := 251) (by decide +kernel), List.forall_mem_cons.mpr ⟨List.mem_of_getElem? (i := 277) (by decide +kernel), List.forall_mem_cons.mpr ⟨List.mem_of_getElem? (i := 314) (by decide +kernel), List.forall_mem_cons.mpr ⟨List.mem_of_getElem? (i := 339) (by decide +kernel), List.forall_mem_cons.mpr ⟨List.mem_of_getElem? (i := 364) (by decide +kernel), List.forall_mem_cons.mpr ⟨List.mem_of_getElem? (i := 403) (by decide +kernel), List.forall_mem_cons.mpr ⟨List.mem_of_getElem? (i := 429) (by decide +kernel), List.forall_mem_cons.mpr ⟨List.mem_of_getElem? (i := 469) (by decide +kernel), List.forall_mem_cons.mpr ⟨List.mem_of_getElem? (i := 507) (by decide +kernel), List.forall_mem_cons.mpr ⟨List.mem_of_getElem? (i := 535) (by decide +kernel), List.forall_mem_cons.mpr ⟨List.mem_of_getElem? (i := 566) (by decide +kernel), List.forall_mem_cons.mpr ⟨List.mem_of_getElem? (i := 597) (by decide +kernel), List.forall_mem_cons.mpr ⟨List.mem_of_getElem? (i := 639) (by decide +kernel), List.forall_mem_cons.mpr ⟨List.mem_of_getElem? (i := 667) (by decide +kernel), List.forall_mem_cons.mpr ⟨List.mem_of_getElem? (i := 709) (by decide +kernel), List.forall_mem_cons.mpr ⟨List.mem_of_getElem? (i := 751) (by decide +kernel), List.forall_mem_cons.mpr ⟨List.mem_of_getElem? (i := 777) (by decide +kernel), fun _ h => absurd h List.not_mem_nil⟩⟩⟩⟩⟩⟩⟩⟩⟩⟩⟩⟩⟩⟩⟩⟩⟩⟩⟩⟩⟩⟩
theorem ev_s3 : ∀ q ∈ am_estr, Cond.stringRef RX11 q.1 q.2 ∈ tables_1 :=
  List.forall_mem_cons.mpr ⟨List.mem_of_getElem? (i := 583) (by decide +kernel), List.forall_mem_cons.mpr ⟨List.mem_of_getElem? (i := 620) (by decide +kernel), List.forall_mem_cons.mpr ⟨List.mem_of_getElem? (i := 700) (by decide +kernel), List.forall_mem_cons.mpr ⟨List.mem_of_getElem? (i := 707) (by decide +kernel), List.forall_mem_cons.mpr ⟨List.mem_of_getElem? (i := 747) (by decide +kernel), List.forall_mem_cons.mpr ⟨List.mem_of_getElem? (i := 755) (by decide +kernel), List.forall_mem_cons.mpr ⟨List.mem_of_getElem? (i := 779) (by decide +kernel), List.forall_mem_cons.mpr ⟨List.mem_of_getElem? (i := 791) (by decide +kernel), List.forall_mem_cons.mpr ⟨List.mem_of_getElem? (i := 832) (by decide +kernel), List.forall_mem_cons.mpr ⟨List.mem_of_getElem? (i := 1065) (by decide +kernel), List.forall_mem_cons.mpr ⟨List.mem_of_getElem? (i := 1082) (by decide +kernel), List.forall_mem_cons.mpr ⟨List.mem_of_getElem? (i := 1083) (by decide +kernel), List.forall_mem_cons.mpr ⟨List.mem_of_getElem? (i := 1096) (by decide +kernel), List.forall_mem_cons.mpr ⟨List.mem_of_getElem? (i := 1110) (by decide +kernel), List.forall_mem_cons.mpr ⟨List.mem_of_getElem? (i := 1129) (by decide +kernel), List.forall_mem_cons.mpr ⟨List.mem_of_getElem? (i := 1137) (by decide +kernel), List.forall_mem_cons.mpr ⟨List.mem_of_getElem? (i := 1156) (by decide +kernel), List.forall_mem_cons.mpr ⟨List.mem_of_getElem? (i := 1165) (by decide +kernel), List.forall_mem_cons.mpr ⟨List.mem_of_getElem? (i := 1176) (by decide +kernel), List.forall_mem_cons.mpr ⟨List.mem_of_getElem? (i := 1184) (by decide +kernel), List.forall_mem_cons.mpr ⟨List.mem_of_getElem? (i := 1198) (by decide +kernel), List.forall_mem_cons.mpr ⟨List.mem_of_getElem? (i := 1206) (by decide +kernel), fun _ h => absurd h List.not_mem_nil⟩⟩⟩⟩⟩⟩⟩⟩⟩⟩⟩⟩⟩⟩⟩⟩⟩⟩⟩⟩⟩⟩
theorem ev_s4 : ∀ q ∈ al_nc, Cond.not (.castable q.1 q.2) ∈ ev_fl :=
  List.forall_mem_cons.mpr ⟨List.mem_of_getElem? (i := 24) (by decide +kernel), List.forall_mem_cons.mpr ⟨List.mem_of_getElem? (i := 57) (by decide +kernel), List.forall_mem_cons.mpr ⟨List.mem_of_getElem? (i := 56) (by decide +kernel), List.forall_mem_cons.mpr ⟨List.mem_of_getElem? (i := 58) (by decide +kernel), List.forall_mem_cons.mpr ⟨List.mem_of_getElem? (i := 26) (by decide +kernel), fun _ h => absurd h List.not_mem_nil⟩⟩⟩⟩⟩
theorem ev_s5 : ∀ q ∈ an_nw, Cond.methodLinkNest q.1 q.2.1 q.2.2.1 q.2.2.2 ∈ tables_1 :=
  List.forall_mem_cons.mpr ⟨List.mem_of_getElem? (i := 111) (by decide +kernel), List.forall_mem_cons.mpr ⟨List.mem_of_getElem? (i := 119) (by decide +kernel), List.forall_mem_cons.mpr ⟨List.mem_of_getElem? (i := 209) (by decide +kernel), List.forall_mem_cons.mpr ⟨List.mem_of_getElem? (i := 266) (by decide +kernel), List.forall_mem_cons.mpr ⟨List.mem_of_getElem? (i := 290) (by decide +kernel), fun _ h => absurd h List.not_mem_nil⟩⟩⟩⟩⟩
theorem ev_s6 : ∀ q ∈ am_strs, q.1 < 100 ∧ (am_byt q.1).length < 2 ^ 31 := by decide +kernel
theorem ev_s7 : ∀ p ∈ am_strs, ∀ q ∈ am_strs, p.1 = q.1 → p = q := by decide +kernel
theorem ev_str {s : State} {args : Array Value} {own tx : String} {k : Nat} {byt : List Int32} (hN : byt.length < 2 ^ 31) (hs : ∀ w ∈ ev_sw own k byt, w.before args s = true) (hr : (Cond.stringRef own k tx).before args s = true) :
    ∃ d : Nat × Nat, vk_R own k tx d.1 s ∧ va_O "java/lang/String" d.1 (fun _ => False) s s.heap ∧ va_OF "java/lang/String" "coder" "B" (.int 0) d.1 (fun _ => False) s s.heap ∧ va_OF "java/lang/String" "value" "[B" (.ref d.2) d.1 (fun _ => False) s s.heap ∧ va_T .byte d.2 byt.length (fun j => .int (byt.getD j 0)) (fun _ => False) s s.heap := by
  have m4 : ∀ j, j < byt.length → Cond.eq (.elem (.field (.string own k) "java/lang/String" "value" "[B") (.int (Int32.ofNat j))) (.int (byt.getD j 0)) ∈ ev_sw own k byt := fun j hj => List.mem_append_right _ (List.mem_map.mpr ⟨j, List.mem_range.mpr hj, rfl⟩)
  obtain ⟨adK, adV, h, he⟩ := vk_Sof (s := s) (args := args) (N := 1) (tm := fun _ => .string own k) (len := [byt.length]) (byt := [byt]) (A := fun _ => False)
    (fun i hi => by obtain rfl : i = 0 := by omega
                    exact hN) (fun _ _ => hs _ (List.mem_append_left _ (.head _))) (fun _ _ => hs _ (List.mem_append_left _ (.tail _ (.head _)))) (fun _ _ => hs _ (List.mem_append_left _ (.tail _ (.tail _ (.head _)))))
    (fun i hi => by obtain rfl : i = 0 := by omega
                    exact hs _ (List.mem_append_left _ (.tail _ (.tail _ (.tail _ (.head _))))))
    (fun i hi j hj => by obtain rfl : i = 0 := by omega
                         exact hs _ (m4 j hj))
    (fun i j hi hj hne => absurd (by omega) hne) (fun _ _ h => h)
  obtain ⟨h1, h2, h3, h4⟩ := h.1 0 (by omega)
  exact ⟨(adK 0, adV 0), vk_R.of hr (he 0 (by omega)), h1, h2, h3, h4⟩
/-- the law's start: the cells lie from the old heap's end on -/
def ev_G (s : State) (D : va_G) (cI : ClassId) (ad : Nat → Nat × Nat) : am_G := (fun k => bif Nat.blt k 1000 then s.heap.size + k else bif Nat.blt k 1100 then (ad (k - 1000)).1 else (ad (k - 1100)).2, D, cI, s.heap, fun U => s.WarmedH U.vm)
section EV
variable {s : State} {D : va_G} {cI : ClassId} {ad : Nat → Nat × Nat}
theorem ev_r (k : Nat) (hk : k < 194) : (ev_G s D cI ad).1 k = s.heap.size + k := by
  have h : Nat.blt k 1000 = true := Nat.blt_eq.mpr (by omega)
  show (bif Nat.blt k 1000 then _ else _) = _
  rw [h]
  rfl
theorem ev_rk (k : Nat) (hk : k < 100) : (ev_G s D cI ad).1 (1000 + k) = (ad k).1 := by
  have h : Nat.blt (1000 + k) 1000 = false := by
    cases e : Nat.blt (1000 + k) 1000 with
    | false => rfl
    | true => exact absurd (Nat.blt_eq.mp e) (by omega)
  have h2 : Nat.blt (1000 + k) 1100 = true := Nat.blt_eq.mpr (by omega)
  show (bif Nat.blt (1000 + k) 1000 then _ else bif Nat.blt (1000 + k) 1100 then (ad (1000 + k - 1000)).1 else _) = _
  rw [h, h2, Nat.add_sub_cancel_left]
  rfl
theorem ev_rv (k : Nat) : (ev_G s D cI ad).1 (1100 + k) = (ad k).2 := by
  have h : Nat.blt (1100 + k) 1000 = false := by
    cases e : Nat.blt (1100 + k) 1000 with
    | false => rfl
    | true => exact absurd (Nat.blt_eq.mp e) (by omega)
  have h2 : Nat.blt (1100 + k) 1100 = false := by
    cases e : Nat.blt (1100 + k) 1100 with
    | false => rfl
    | true => exact absurd (Nat.blt_eq.mp e) (by omega)
  show (bif Nat.blt (1100 + k) 1000 then _ else bif Nat.blt (1100 + k) 1100 then _ else (ad (1100 + k - 1100)).2) = _
  rw [h, h2, Nat.add_sub_cancel_left]
  rfl
theorem ev_ok : am_ok (ev_G s D cI ad) := by
  refine ⟨fun i j hi hj e => ?_, fun k hk => ?_, fun t U hW h => State.WarmedH.trans h hW, fun t U e h => ?_⟩
  · rw [am_lay_len] at hi hj
    rw [ev_r i hi, ev_r j hj] at e
    omega
  · rw [am_lay_len] at hk
    rw [ev_r k hk]
    exact Nat.le_add_right _ _
  · show s.WarmedH U.vm
    rw [e]; exact h
theorem ev_o : ¬ am_A (ev_G s D cI ad) (s.heap.size + 194) := by
  rintro ⟨k, hk, e⟩
  rw [am_lay_len] at hk
  rw [ev_r k hk] at e
  omega
theorem ev_A : ∀ q, al_A (ev_G s D cI ad) (s.heap.size + 194) q → ld_A s q := by
  rintro q (⟨k, hk, e⟩ | e)
  · rw [am_lay_len] at hk
    rw [ev_r k hk] at e
    show s.heap.size ≤ q
    omega
  · show s.heap.size ≤ q
    omega
/-- words of the tables that are no good ones, later -/
def ev_k : Cond → Bool
  | .methodLinkNest .. => true
  | w => w.faceAtom && w.onTables
theorem ev_k0 : ∀ w ∈ am_thb, ev_k w = true := by decide +kernel
theorem ev_k1 {w : Cond} (h : ev_k w = true) : (∃ a i x b, w = .methodLinkNest a i x b) ∨ (w.faceAtom && w.onTables) = true := by
  cases w <;> first | exact Or.inl ⟨_, _, _, _, rfl⟩ | exact Or.inr h
theorem ev_kw {args : Array Value} {U : State} (hW : s.WarmedH U.vm) {w : Cond} (hk : ev_k w = true) (h : w.before args s = true) : w.before #[] U = true := by
  rcases ev_k1 hk with ⟨a, i, x, b, rfl⟩ | hf
  · exact va_Nw.warmM hW (va_Nw.of rfl h)
  · rw [Bool.and_eq_true] at hf
    exact va_tabs hf.2 (rfl : (s.setVm U.vm).vm = U.vm) (Cond.faceAtom_setVm hW.alike w hf.1 h)
end EV
/-- all that the start gives -/
theorem ev_all {s : State} {b : Nat} (ht : ∀ w ∈ tables_1, w.before #[Value.ref b] s = true) (hg : (Jvm.Cond.and given_1 narrow_1).before #[Value.ref b] s = true) :
    ∃ ad : Nat → Nat × Nat, ∀ (D : va_G) (cI : ClassId), am_xn (ev_G s D cI ad) ∧ al_xn (ev_G s D cI ad) ∧ am_xs (ev_G s D cI ad) := by
  have hf := flat_of_before _ hg
  have h0 : ∀ k : Nat, ∃ d : Nat × Nat, ∀ q ∈ am_strs, q.1 = k → vk_R RX12 q.1 q.2 d.1 s ∧ va_O "java/lang/String" d.1 (fun _ => False) s s.heap ∧ va_OF "java/lang/String" "coder" "B" (.int 0) d.1 (fun _ => False) s s.heap ∧ va_OF "java/lang/String" "value" "[B" (.ref d.2) d.1 (fun _ => False) s s.heap ∧ va_T .byte d.2 (am_byt q.1).length (fun j => .int ((am_byt q.1).getD j 0)) (fun _ => False) s s.heap := by
    intro k
    by_cases h : ∃ q ∈ am_strs, q.1 = k
    · obtain ⟨q, hq, rfl⟩ := h
      obtain ⟨d, hd⟩ := ev_str (ev_s6 q hq).2 (fun w hw => hf w (ev_s0 q hq w hw)) (ht _ (ev_s1 q hq))
      refine ⟨d, fun q2 hq2 e => ?_⟩
      have e2 : q2 = q := ev_s7 q2 hq2 q hq e
      subst e2
      exact hd
    · exact ⟨(0, 0), fun q hq e => absurd ⟨q, hq, e⟩ h⟩
  obtain ⟨ad, had⟩ := Classical.axiomOfChoice h0
  refine ⟨ad, fun D cI => ⟨fun U hU => ⟨?_, ?_, fun q hq => ?_, fun w hw => ?_⟩, fun U hU q hq => ?_, fun U hU => ⟨fun q hq => ?_, ?_⟩⟩⟩
  · exact vx_Zq.moved (State.WarmedH.alike hU) (vx_Zqof (ht _ (List.mem_of_getElem? (i := 568) (by decide +kernel))) (ht _ (List.mem_of_getElem? (i := 15) (by decide +kernel))) (hf _ (List.mem_of_getElem? (i := 4) (by decide +kernel))) (fun a ha => Nat.not_le.mpr ha))
  · exact vx_Zq.moved (State.WarmedH.alike hU) (vx_Zqof (ht _ (List.mem_of_getElem? (i := 570) (by decide +kernel))) (ht _ (List.mem_of_getElem? (i := 15) (by decide +kernel))) (hf _ (List.mem_of_getElem? (i := 5) (by decide +kernel))) (fun a ha => Nat.not_le.mpr ha))
  · obtain ⟨a, c, cell, kk, q1, -⟩ := Cond.exactly_spec (args := #[Value.ref b]) (first := s) (o := none) (s := s) (idx := []) (t := .string RX11 q.1) (cls := "java/lang/String") (hf _ (ev_s2 q hq))
    exact ⟨a, vk_R.warm hU (vk_R.of (ht _ (ev_s3 q hq)) q1)⟩
  · exact ev_kw hU (ev_k0 w hw) (ht w (List.mem_filter.mp hw).1)
  · exact va_Nc.moved (State.WarmedH.alike hU) (va_Nc.of (hf _ (ev_s4 q hq)))
  · obtain ⟨h1, h2, h3, h4, h5⟩ := had q.1 q hq rfl
    have e1 : (ev_G s D cI ad).1 (1000 + q.1) = (ad q.1).1 := ev_rk q.1 (ev_s6 q hq).1
    have e2 : (ev_G s D cI ad).1 (1100 + q.1) = (ad q.1).2 := ev_rv q.1
    rw [e1, e2]
    have hal := State.WarmedH.alike hU
    exact ⟨vk_R.warm hU h1, va_O.moved hal h2, va_OF.moved hal h3, va_OF.moved hal h4, va_T.moved hal h5⟩
  · exact va_Z.moved (State.WarmedH.alike hU) (va_Zof (ht _ (List.mem_of_getElem? (i := 1321) (by decide +kernel))) (ht _ (List.mem_of_getElem? (i := 20) (by decide +kernel))) (va_eqi (hf _ (List.mem_of_getElem? (i := 6) (by decide +kernel)))) (fun _ _ h => h))
