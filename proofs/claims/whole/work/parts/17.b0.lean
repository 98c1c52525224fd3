/-! constructors: contracts (written by program: wip/whole/gen_ctor.py) -/
theorem an_ar_loc {cI : ClassId} {n : Nat} (a : Nat) (H H1 : Heap) (h : ∀ q, a ≤ q → q < a + 1 → H1[q]? = H[q]?) (j : an_ar cI a n H) : an_ar cI a n H1 := (h a (Nat.le_refl _) (Nat.lt_succ_self _)).trans j
def an_tt : Heap → Prop := fun _ => True
def an_cj (X P : Heap → Prop) : Heap → Prop := fun H => X H ∧ P H
def an_lo (a b : Nat) (X : Heap → Prop) : Prop := ∀ H H1 : Heap, (∀ q, q < b → q ≠ a → H1[q]? = H[q]?) → X H → X H1
theorem an_lo_c {a b b1 a1 len : Nat} {X P : Heap → Prop} (h : an_lo a b X) (hP : ∀ H H1 : Heap, (∀ q, a1 ≤ q → q < a1 + len → H1[q]? = H[q]?) → P H → P H1) (e1 : b ≤ b1) (e2 : a < a1) (e3 : a1 + len ≤ b1) : an_lo a b1 (an_cj X P) :=
  fun H H1 k x => ⟨h H H1 (fun q q1 q2 => k q (by omega) q2) x.1, hP H H1 (fun q q1 q2 => k q (by omega) (by omega)) x.2⟩
theorem an_mul (a b : Nat) : nI a * nI b = nI (a * b) := (Int32.ofNat_mul a b).symm
theorem uw_2 : (Jvm.Cond.initialized "CoroutineScheduler$Line") ∈ am_tb := am_t1 2 (by decide +kernel) rfl
theorem uw_3 : (Jvm.Cond.initialized "java/lang/Math") ∈ am_tb := am_t1 3 (by decide +kernel) rfl
theorem uw_5 : (Jvm.Cond.initialized "CoroutineScheduler$Book") ∈ am_tb := am_t1 5 (by decide +kernel) rfl
theorem uw_6 : (Jvm.Cond.initialized "CoroutineScheduler$Row") ∈ am_tb := am_t1 6 (by decide +kernel) rfl
theorem uw_8 : (Jvm.Cond.initialized "CoroutineScheduler$Tasks") ∈ am_tb := am_t1 8 (by decide +kernel) rfl
theorem uw_9 : (Jvm.Cond.initialized "CoroutineScheduler$Scopes") ∈ am_tb := am_t1 9 (by decide +kernel) rfl
theorem uw_10 : (Jvm.Cond.initialized "CoroutineScheduler$Channels") ∈ am_tb := am_t1 10 (by decide +kernel) rfl
theorem uw_11 : (Jvm.Cond.initialized "CoroutineScheduler$Failures") ∈ am_tb := am_t1 11 (by decide +kernel) rfl
theorem uw_34 : (Jvm.Cond.instanceMethod ({ cls := "java/lang/Object", name := "<init>", desc := "()V" } : Jvm.MethodName)) ∈ am_tb := am_t1 34 (by decide +kernel) rfl
theorem uw_35 : (Jvm.Cond.code ({ cls := "java/lang/Object", name := "<init>", desc := "()V" } : Jvm.MethodName) object_method_1_code (1 : Nat) (Option.none : Option Jvm.ClassFile.FieldType)) ∈ am_tb := am_t1 35 (by decide +kernel) rfl
theorem uw_37 : (Jvm.Cond.instantiable "CoroutineScheduler$Line" (2 : Nat)) ∈ am_tb := am_t1 37 (by decide +kernel) rfl
theorem uw_39 : (Jvm.Cond.instanceMethod ({ cls := "CoroutineScheduler$Line", name := "<init>", desc := "(I)V" } : Jvm.MethodName)) ∈ am_tb := am_t1 39 (by decide +kernel) rfl
theorem uw_40 : (Jvm.Cond.code ({ cls := "CoroutineScheduler$Line", name := "<init>", desc := "(I)V" } : Jvm.MethodName) prog_6_method_1_code (2 : Nat) (Option.none : Option Jvm.ClassFile.FieldType)) ∈ am_tb := am_t1 40 (by decide +kernel) rfl
theorem uw_41 : (Jvm.Cond.methodLink "CoroutineScheduler$Line" (3 : Nat) ({ cls := "java/lang/Object", name := "<init>", desc := "()V" } : Jvm.MethodName)) ∈ am_tb := am_t1 41 (by decide +kernel) rfl
theorem uw_42 : (Jvm.Cond.methodLink "CoroutineScheduler$Line" (9 : Nat) ({ cls := "java/lang/Math", name := "max", desc := "(II)I" } : Jvm.MethodName)) ∈ am_tb := am_t1 42 (by decide +kernel) rfl
theorem uw_43 : (Jvm.Cond.static ({ cls := "java/lang/Math", name := "max", desc := "(II)I" } : Jvm.MethodName)) ∈ am_tb := am_t1 43 (by decide +kernel) rfl
theorem uw_44 : (Jvm.Cond.code ({ cls := "java/lang/Math", name := "max", desc := "(II)I" } : Jvm.MethodName) prog_23_method_65_code (2 : Nat) (Option.some Jvm.ClassFile.FieldType.int)) ∈ am_tb := am_t1 44 (by decide +kernel) rfl
theorem uw_45 : (Jvm.Cond.fieldLink "CoroutineScheduler$Line" (15 : Nat) "CoroutineScheduler$Line" "cells" "[I") ∈ am_tb := am_t1 45 (by decide +kernel) rfl
theorem uw_52 : (Jvm.Cond.arrayClass Jvm.ClassFile.FieldType.int) ∈ am_tb := am_t1 52 (by decide +kernel) rfl
theorem uw_60 : (Jvm.Cond.instantiable "CoroutineScheduler$Book" (2 : Nat)) ∈ am_tb := am_t1 60 (by decide +kernel) rfl
theorem uw_62 : (Jvm.Cond.instanceMethod ({ cls := "CoroutineScheduler$Book", name := "<init>", desc := "(I)V" } : Jvm.MethodName)) ∈ am_tb := am_t1 62 (by decide +kernel) rfl
theorem uw_63 : (Jvm.Cond.code ({ cls := "CoroutineScheduler$Book", name := "<init>", desc := "(I)V" } : Jvm.MethodName) prog_2_method_1_code (2 : Nat) (Option.none : Option Jvm.ClassFile.FieldType)) ∈ am_tb := am_t1 63 (by decide +kernel) rfl
theorem uw_64 : (Jvm.Cond.methodLink "CoroutineScheduler$Book" (3 : Nat) ({ cls := "java/lang/Object", name := "<init>", desc := "()V" } : Jvm.MethodName)) ∈ am_tb := am_t1 64 (by decide +kernel) rfl
theorem uw_65 : (Jvm.Cond.classLink "CoroutineScheduler$Book" (9 : Nat) "CoroutineScheduler$Row") ∈ am_tb := am_t1 65 (by decide +kernel) rfl
theorem uw_66 : (Jvm.Cond.instantiable "CoroutineScheduler$Row" (1 : Nat)) ∈ am_tb := am_t1 66 (by decide +kernel) rfl
theorem uw_67 : (Jvm.Cond.methodLink "CoroutineScheduler$Book" (11 : Nat) ({ cls := "CoroutineScheduler$Row", name := "<init>", desc := "(I)V" } : Jvm.MethodName)) ∈ am_tb := am_t1 67 (by decide +kernel) rfl
theorem uw_68 : (Jvm.Cond.instanceMethod ({ cls := "CoroutineScheduler$Row", name := "<init>", desc := "(I)V" } : Jvm.MethodName)) ∈ am_tb := am_t1 68 (by decide +kernel) rfl
theorem uw_69 : (Jvm.Cond.code ({ cls := "CoroutineScheduler$Row", name := "<init>", desc := "(I)V" } : Jvm.MethodName) prog_8_method_1_code (2 : Nat) (Option.none : Option Jvm.ClassFile.FieldType)) ∈ am_tb := am_t1 69 (by decide +kernel) rfl
theorem uw_70 : (Jvm.Cond.methodLink "CoroutineScheduler$Row" (1 : Nat) ({ cls := "java/lang/Object", name := "<init>", desc := "()V" } : Jvm.MethodName)) ∈ am_tb := am_t1 70 (by decide +kernel) rfl
theorem uw_71 : (Jvm.Cond.methodLink "CoroutineScheduler$Row" (7 : Nat) ({ cls := "java/lang/Math", name := "max", desc := "(II)I" } : Jvm.MethodName)) ∈ am_tb := am_t1 71 (by decide +kernel) rfl
theorem uw_72 : (Jvm.Cond.fieldLink "CoroutineScheduler$Row" (13 : Nat) "CoroutineScheduler$Row" "cells" "[I") ∈ am_tb := am_t1 72 (by decide +kernel) rfl
theorem uw_76 : (Jvm.Cond.fieldLink "CoroutineScheduler$Book" (14 : Nat) "CoroutineScheduler$Book" "lengths" "LCoroutineScheduler$Row;") ∈ am_tb := am_t1 76 (by decide +kernel) rfl
theorem uw_77 : (Jvm.Cond.fieldLink "CoroutineScheduler$Book" (20 : Nat) "CoroutineScheduler$Book" "cells" "LCoroutineScheduler$Row;") ∈ am_tb := am_t1 77 (by decide +kernel) rfl
theorem uw_114 : (Jvm.Cond.methodLink "CoroutineScheduler$World" (3 : Nat) ({ cls := "java/lang/Object", name := "<init>", desc := "()V" } : Jvm.MethodName)) ∈ am_tb := am_t1 114 (by decide +kernel) rfl
theorem uw_115 : (Jvm.Cond.classLink "CoroutineScheduler$World" (9 : Nat) "CoroutineScheduler$Book") ∈ am_tb := am_t1 115 (by decide +kernel) rfl
theorem uw_116 : (Jvm.Cond.methodLink "CoroutineScheduler$World" (11 : Nat) ({ cls := "CoroutineScheduler$Book", name := "<init>", desc := "(I)V" } : Jvm.MethodName)) ∈ am_tb := am_t1 116 (by decide +kernel) rfl
theorem uw_117 : (Jvm.Cond.classLink "CoroutineScheduler$World" (20 : Nat) "CoroutineScheduler$Tasks") ∈ am_tb := am_t1 117 (by decide +kernel) rfl
theorem uw_118 : (Jvm.Cond.instantiable "CoroutineScheduler$Tasks" (17 : Nat)) ∈ am_tb := am_t1 118 (by decide +kernel) rfl
theorem uw_120 : (Jvm.Cond.instanceMethod ({ cls := "CoroutineScheduler$Tasks", name := "<init>", desc := "()V" } : Jvm.MethodName)) ∈ am_tb := am_t1 120 (by decide +kernel) rfl
theorem uw_121 : (Jvm.Cond.code ({ cls := "CoroutineScheduler$Tasks", name := "<init>", desc := "()V" } : Jvm.MethodName) prog_11_method_1_code (1 : Nat) (Option.none : Option Jvm.ClassFile.FieldType)) ∈ am_tb := am_t1 121 (by decide +kernel) rfl
theorem uw_122 : (Jvm.Cond.methodLink "CoroutineScheduler$Tasks" (3 : Nat) ({ cls := "java/lang/Object", name := "<init>", desc := "()V" } : Jvm.MethodName)) ∈ am_tb := am_t1 122 (by decide +kernel) rfl
theorem uw_123 : (Jvm.Cond.classLink "CoroutineScheduler$Tasks" (9 : Nat) "CoroutineScheduler$Row") ∈ am_tb := am_t1 123 (by decide +kernel) rfl
theorem uw_124 : (Jvm.Cond.methodLink "CoroutineScheduler$Tasks" (11 : Nat) ({ cls := "CoroutineScheduler$Row", name := "<init>", desc := "(I)V" } : Jvm.MethodName)) ∈ am_tb := am_t1 124 (by decide +kernel) rfl
theorem uw_125 : (Jvm.Cond.classLink "CoroutineScheduler$Tasks" (62 : Nat) "CoroutineScheduler$Book") ∈ am_tb := am_t1 125 (by decide +kernel) rfl
theorem uw_126 : (Jvm.Cond.methodLink "CoroutineScheduler$Tasks" (64 : Nat) ({ cls := "CoroutineScheduler$Book", name := "<init>", desc := "(I)V" } : Jvm.MethodName)) ∈ am_tb := am_t1 126 (by decide +kernel) rfl
theorem uw_132 : (Jvm.Cond.fieldLink "CoroutineScheduler$Tasks" (14 : Nat) "CoroutineScheduler$Tasks" "status" "LCoroutineScheduler$Row;") ∈ am_tb := am_t1 132 (by decide +kernel) rfl
theorem uw_137 : (Jvm.Cond.fieldLink "CoroutineScheduler$Tasks" (20 : Nat) "CoroutineScheduler$Tasks" "register" "LCoroutineScheduler$Row;") ∈ am_tb := am_t1 137 (by decide +kernel) rfl
theorem uw_140 : (Jvm.Cond.fieldLink "CoroutineScheduler$Tasks" (23 : Nat) "CoroutineScheduler$Tasks" "place" "LCoroutineScheduler$Row;") ∈ am_tb := am_t1 140 (by decide +kernel) rfl
theorem uw_142 : (Jvm.Cond.fieldLink "CoroutineScheduler$Tasks" (26 : Nat) "CoroutineScheduler$Tasks" "depth" "LCoroutineScheduler$Row;") ∈ am_tb := am_t1 142 (by decide +kernel) rfl
theorem uw_145 : (Jvm.Cond.fieldLink "CoroutineScheduler$Tasks" (29 : Nat) "CoroutineScheduler$Tasks" "home" "LCoroutineScheduler$Row;") ∈ am_tb := am_t1 145 (by decide +kernel) rfl
theorem uw_148 : (Jvm.Cond.fieldLink "CoroutineScheduler$Tasks" (32 : Nat) "CoroutineScheduler$Tasks" "choices" "LCoroutineScheduler$Row;") ∈ am_tb := am_t1 148 (by decide +kernel) rfl
theorem uw_150 : (Jvm.Cond.fieldLink "CoroutineScheduler$Tasks" (35 : Nat) "CoroutineScheduler$Tasks" "reason" "LCoroutineScheduler$Row;") ∈ am_tb := am_t1 150 (by decide +kernel) rfl
theorem uw_153 : (Jvm.Cond.fieldLink "CoroutineScheduler$Tasks" (38 : Nat) "CoroutineScheduler$Tasks" "target" "LCoroutineScheduler$Row;") ∈ am_tb := am_t1 153 (by decide +kernel) rfl
theorem uw_156 : (Jvm.Cond.fieldLink "CoroutineScheduler$Tasks" (41 : Nat) "CoroutineScheduler$Tasks" "failure" "LCoroutineScheduler$Row;") ∈ am_tb := am_t1 156 (by decide +kernel) rfl
theorem uw_159 : (Jvm.Cond.fieldLink "CoroutineScheduler$Tasks" (44 : Nat) "CoroutineScheduler$Tasks" "cleanupPlace" "LCoroutineScheduler$Row;") ∈ am_tb := am_t1 159 (by decide +kernel) rfl
theorem uw_161 : (Jvm.Cond.fieldLink "CoroutineScheduler$Tasks" (47 : Nat) "CoroutineScheduler$Tasks" "wakeTime" "LCoroutineScheduler$Row;") ∈ am_tb := am_t1 161 (by decide +kernel) rfl
theorem uw_164 : (Jvm.Cond.fieldLink "CoroutineScheduler$Tasks" (50 : Nat) "CoroutineScheduler$Tasks" "firstChannel" "LCoroutineScheduler$Row;") ∈ am_tb := am_t1 164 (by decide +kernel) rfl
theorem uw_165 : (Jvm.Cond.fieldLink "CoroutineScheduler$Tasks" (53 : Nat) "CoroutineScheduler$Tasks" "secondChannel" "LCoroutineScheduler$Row;") ∈ am_tb := am_t1 165 (by decide +kernel) rfl
theorem uw_166 : (Jvm.Cond.fieldLink "CoroutineScheduler$Tasks" (56 : Nat) "CoroutineScheduler$Tasks" "waitsSince" "LCoroutineScheduler$Row;") ∈ am_tb := am_t1 166 (by decide +kernel) rfl
theorem uw_168 : (Jvm.Cond.fieldLink "CoroutineScheduler$Tasks" (59 : Nat) "CoroutineScheduler$Tasks" "openScopes" "LCoroutineScheduler$Row;") ∈ am_tb := am_t1 168 (by decide +kernel) rfl
theorem uw_169 : (Jvm.Cond.fieldLink "CoroutineScheduler$Tasks" (65 : Nat) "CoroutineScheduler$Tasks" "code" "LCoroutineScheduler$Book;") ∈ am_tb := am_t1 169 (by decide +kernel) rfl
theorem uw_207 : (Jvm.Cond.classLink "CoroutineScheduler$World" (27 : Nat) "CoroutineScheduler$Scopes") ∈ am_tb := am_t1 207 (by decide +kernel) rfl
theorem uw_208 : (Jvm.Cond.instantiable "CoroutineScheduler$Scopes" (11 : Nat)) ∈ am_tb := am_t1 208 (by decide +kernel) rfl
theorem uw_210 : (Jvm.Cond.instanceMethod ({ cls := "CoroutineScheduler$Scopes", name := "<init>", desc := "()V" } : Jvm.MethodName)) ∈ am_tb := am_t1 210 (by decide +kernel) rfl
theorem uw_211 : (Jvm.Cond.code ({ cls := "CoroutineScheduler$Scopes", name := "<init>", desc := "()V" } : Jvm.MethodName) prog_10_method_1_code (1 : Nat) (Option.none : Option Jvm.ClassFile.FieldType)) ∈ am_tb := am_t1 211 (by decide +kernel) rfl
theorem uw_212 : (Jvm.Cond.methodLink "CoroutineScheduler$Scopes" (3 : Nat) ({ cls := "java/lang/Object", name := "<init>", desc := "()V" } : Jvm.MethodName)) ∈ am_tb := am_t1 212 (by decide +kernel) rfl
theorem uw_213 : (Jvm.Cond.classLink "CoroutineScheduler$Scopes" (9 : Nat) "CoroutineScheduler$Row") ∈ am_tb := am_t1 213 (by decide +kernel) rfl
theorem uw_214 : (Jvm.Cond.methodLink "CoroutineScheduler$Scopes" (11 : Nat) ({ cls := "CoroutineScheduler$Row", name := "<init>", desc := "(I)V" } : Jvm.MethodName)) ∈ am_tb := am_t1 214 (by decide +kernel) rfl
theorem uw_215 : (Jvm.Cond.classLink "CoroutineScheduler$Scopes" (44 : Nat) "CoroutineScheduler$Book") ∈ am_tb := am_t1 215 (by decide +kernel) rfl
theorem uw_216 : (Jvm.Cond.methodLink "CoroutineScheduler$Scopes" (46 : Nat) ({ cls := "CoroutineScheduler$Book", name := "<init>", desc := "(I)V" } : Jvm.MethodName)) ∈ am_tb := am_t1 216 (by decide +kernel) rfl
theorem uw_221 : (Jvm.Cond.fieldLink "CoroutineScheduler$Scopes" (14 : Nat) "CoroutineScheduler$Scopes" "owner" "LCoroutineScheduler$Row;") ∈ am_tb := am_t1 221 (by decide +kernel) rfl
theorem uw_224 : (Jvm.Cond.fieldLink "CoroutineScheduler$Scopes" (20 : Nat) "CoroutineScheduler$Scopes" "level" "LCoroutineScheduler$Row;") ∈ am_tb := am_t1 224 (by decide +kernel) rfl
theorem uw_226 : (Jvm.Cond.fieldLink "CoroutineScheduler$Scopes" (23 : Nat) "CoroutineScheduler$Scopes" "kind" "LCoroutineScheduler$Row;") ∈ am_tb := am_t1 226 (by decide +kernel) rfl
theorem uw_228 : (Jvm.Cond.fieldLink "CoroutineScheduler$Scopes" (26 : Nat) "CoroutineScheduler$Scopes" "state" "LCoroutineScheduler$Row;") ∈ am_tb := am_t1 228 (by decide +kernel) rfl
theorem uw_230 : (Jvm.Cond.fieldLink "CoroutineScheduler$Scopes" (29 : Nat) "CoroutineScheduler$Scopes" "liveChildren" "LCoroutineScheduler$Row;") ∈ am_tb := am_t1 230 (by decide +kernel) rfl
theorem uw_232 : (Jvm.Cond.fieldLink "CoroutineScheduler$Scopes" (32 : Nat) "CoroutineScheduler$Scopes" "children" "LCoroutineScheduler$Row;") ∈ am_tb := am_t1 232 (by decide +kernel) rfl
theorem uw_233 : (Jvm.Cond.fieldLink "CoroutineScheduler$Scopes" (35 : Nat) "CoroutineScheduler$Scopes" "deadline" "LCoroutineScheduler$Row;") ∈ am_tb := am_t1 233 (by decide +kernel) rfl
theorem uw_235 : (Jvm.Cond.fieldLink "CoroutineScheduler$Scopes" (38 : Nat) "CoroutineScheduler$Scopes" "cleanupState" "LCoroutineScheduler$Row;") ∈ am_tb := am_t1 235 (by decide +kernel) rfl
theorem uw_237 : (Jvm.Cond.fieldLink "CoroutineScheduler$Scopes" (41 : Nat) "CoroutineScheduler$Scopes" "behind" "LCoroutineScheduler$Row;") ∈ am_tb := am_t1 237 (by decide +kernel) rfl
theorem uw_239 : (Jvm.Cond.fieldLink "CoroutineScheduler$Scopes" (47 : Nat) "CoroutineScheduler$Scopes" "cleanups" "LCoroutineScheduler$Book;") ∈ am_tb := am_t1 239 (by decide +kernel) rfl
theorem uw_264 : (Jvm.Cond.classLink "CoroutineScheduler$World" (34 : Nat) "CoroutineScheduler$Channels") ∈ am_tb := am_t1 264 (by decide +kernel) rfl
theorem uw_265 : (Jvm.Cond.instantiable "CoroutineScheduler$Channels" (3 : Nat)) ∈ am_tb := am_t1 265 (by decide +kernel) rfl
theorem uw_267 : (Jvm.Cond.instanceMethod ({ cls := "CoroutineScheduler$Channels", name := "<init>", desc := "()V" } : Jvm.MethodName)) ∈ am_tb := am_t1 267 (by decide +kernel) rfl
theorem uw_268 : (Jvm.Cond.code ({ cls := "CoroutineScheduler$Channels", name := "<init>", desc := "()V" } : Jvm.MethodName) prog_3_method_1_code (1 : Nat) (Option.none : Option Jvm.ClassFile.FieldType)) ∈ am_tb := am_t1 268 (by decide +kernel) rfl
theorem uw_269 : (Jvm.Cond.methodLink "CoroutineScheduler$Channels" (3 : Nat) ({ cls := "java/lang/Object", name := "<init>", desc := "()V" } : Jvm.MethodName)) ∈ am_tb := am_t1 269 (by decide +kernel) rfl
theorem uw_270 : (Jvm.Cond.classLink "CoroutineScheduler$Channels" (9 : Nat) "CoroutineScheduler$Row") ∈ am_tb := am_t1 270 (by decide +kernel) rfl
theorem uw_271 : (Jvm.Cond.methodLink "CoroutineScheduler$Channels" (11 : Nat) ({ cls := "CoroutineScheduler$Row", name := "<init>", desc := "(I)V" } : Jvm.MethodName)) ∈ am_tb := am_t1 271 (by decide +kernel) rfl
theorem uw_272 : (Jvm.Cond.fieldLink "CoroutineScheduler$Channels" (14 : Nat) "CoroutineScheduler$Channels" "rooms" "LCoroutineScheduler$Row;") ∈ am_tb := am_t1 272 (by decide +kernel) rfl
theorem uw_275 : (Jvm.Cond.fieldLink "CoroutineScheduler$Channels" (20 : Nat) "CoroutineScheduler$Channels" "sizes" "LCoroutineScheduler$Row;") ∈ am_tb := am_t1 275 (by decide +kernel) rfl
theorem uw_280 : (Jvm.Cond.fieldLink "CoroutineScheduler$Channels" (23 : Nat) "CoroutineScheduler$Channels" "cells" "LCoroutineScheduler$Row;") ∈ am_tb := am_t1 280 (by decide +kernel) rfl
theorem uw_288 : (Jvm.Cond.classLink "CoroutineScheduler$World" (41 : Nat) "CoroutineScheduler$Failures") ∈ am_tb := am_t1 288 (by decide +kernel) rfl
theorem uw_289 : (Jvm.Cond.instantiable "CoroutineScheduler$Failures" (3 : Nat)) ∈ am_tb := am_t1 289 (by decide +kernel) rfl
theorem uw_291 : (Jvm.Cond.instanceMethod ({ cls := "CoroutineScheduler$Failures", name := "<init>", desc := "()V" } : Jvm.MethodName)) ∈ am_tb := am_t1 291 (by decide +kernel) rfl
theorem uw_292 : (Jvm.Cond.code ({ cls := "CoroutineScheduler$Failures", name := "<init>", desc := "()V" } : Jvm.MethodName) prog_5_method_1_code (1 : Nat) (Option.none : Option Jvm.ClassFile.FieldType)) ∈ am_tb := am_t1 292 (by decide +kernel) rfl
theorem uw_293 : (Jvm.Cond.methodLink "CoroutineScheduler$Failures" (3 : Nat) ({ cls := "java/lang/Object", name := "<init>", desc := "()V" } : Jvm.MethodName)) ∈ am_tb := am_t1 293 (by decide +kernel) rfl
theorem uw_294 : (Jvm.Cond.classLink "CoroutineScheduler$Failures" (9 : Nat) "CoroutineScheduler$Line") ∈ am_tb := am_t1 294 (by decide +kernel) rfl
theorem uw_295 : (Jvm.Cond.methodLink "CoroutineScheduler$Failures" (11 : Nat) ({ cls := "CoroutineScheduler$Line", name := "<init>", desc := "(I)V" } : Jvm.MethodName)) ∈ am_tb := am_t1 295 (by decide +kernel) rfl
theorem uw_296 : (Jvm.Cond.fieldLink "CoroutineScheduler$Failures" (14 : Nat) "CoroutineScheduler$Failures" "codes" "LCoroutineScheduler$Line;") ∈ am_tb := am_t1 296 (by decide +kernel) rfl
theorem uw_298 : (Jvm.Cond.fieldLink "CoroutineScheduler$Failures" (20 : Nat) "CoroutineScheduler$Failures" "tasks" "LCoroutineScheduler$Line;") ∈ am_tb := am_t1 298 (by decide +kernel) rfl
theorem uw_300 : (Jvm.Cond.fieldLink "CoroutineScheduler$Failures" (23 : Nat) "CoroutineScheduler$Failures" "causes" "LCoroutineScheduler$Line;") ∈ am_tb := am_t1 300 (by decide +kernel) rfl
theorem uw_308 : (Jvm.Cond.classLink "CoroutineScheduler$World" (48 : Nat) "CoroutineScheduler$Line") ∈ am_tb := am_t1 308 (by decide +kernel) rfl
theorem uw_309 : (Jvm.Cond.methodLink "CoroutineScheduler$World" (50 : Nat) ({ cls := "CoroutineScheduler$Line", name := "<init>", desc := "(I)V" } : Jvm.MethodName)) ∈ am_tb := am_t1 309 (by decide +kernel) rfl
theorem uw_310 : (Jvm.Cond.classLink "CoroutineScheduler$World" (58 : Nat) "CoroutineScheduler$Row") ∈ am_tb := am_t1 310 (by decide +kernel) rfl
theorem uw_311 : (Jvm.Cond.methodLink "CoroutineScheduler$World" (60 : Nat) ({ cls := "CoroutineScheduler$Row", name := "<init>", desc := "(I)V" } : Jvm.MethodName)) ∈ am_tb := am_t1 311 (by decide +kernel) rfl
theorem uw_312 : (Jvm.Cond.fieldLink "CoroutineScheduler$World" (14 : Nat) "CoroutineScheduler$World" "programs" "LCoroutineScheduler$Book;") ∈ am_tb := am_t1 312 (by decide +kernel) rfl
theorem uw_318 : (Jvm.Cond.fieldLink "CoroutineScheduler$World" (23 : Nat) "CoroutineScheduler$World" "tasks" "LCoroutineScheduler$Tasks;") ∈ am_tb := am_t1 318 (by decide +kernel) rfl
theorem uw_321 : (Jvm.Cond.fieldLink "CoroutineScheduler$World" (30 : Nat) "CoroutineScheduler$World" "scopes" "LCoroutineScheduler$Scopes;") ∈ am_tb := am_t1 321 (by decide +kernel) rfl
theorem uw_324 : (Jvm.Cond.fieldLink "CoroutineScheduler$World" (37 : Nat) "CoroutineScheduler$World" "channels" "LCoroutineScheduler$Channels;") ∈ am_tb := am_t1 324 (by decide +kernel) rfl
theorem uw_327 : (Jvm.Cond.fieldLink "CoroutineScheduler$World" (44 : Nat) "CoroutineScheduler$World" "failures" "LCoroutineScheduler$Failures;") ∈ am_tb := am_t1 327 (by decide +kernel) rfl
theorem uw_330 : (Jvm.Cond.fieldLink "CoroutineScheduler$World" (51 : Nat) "CoroutineScheduler$World" "queue" "LCoroutineScheduler$Line;") ∈ am_tb := am_t1 330 (by decide +kernel) rfl
theorem uw_333 : (Jvm.Cond.fieldLink "CoroutineScheduler$World" (55 : Nat) "CoroutineScheduler$World" "endings" "LCoroutineScheduler$Line;") ∈ am_tb := am_t1 333 (by decide +kernel) rfl
theorem uw_336 : (Jvm.Cond.fieldLink "CoroutineScheduler$World" (61 : Nat) "CoroutineScheduler$World" "counts" "LCoroutineScheduler$Row;") ∈ am_tb := am_t1 336 (by decide +kernel) rfl
def an_row (D : va_G) (cI : ClassId) (n : Nat) (a : Nat) (H : Heap) : Prop := an_at D 6 a [.ref (a + 1)] H ∧ an_ar cI (a + 1) (n) H
theorem an_row_loc {D : va_G} {cI : ClassId} {n : Nat} (a : Nat) (H H1 : Heap) (h : ∀ q, a ≤ q → q < a + 2 → H1[q]? = H[q]?) (j : an_row D cI (n) (a) H) : an_row D cI (n) (a) H1 := by
  obtain ⟨j0, j1⟩ := j
  exact ⟨an_mv (h a (by omega) (by omega)) j0, an_ar_loc (a + 1) H H1 (fun q q1 q2 => h q (by omega) (by omega)) j1⟩
theorem c_X6_init (l : Launch) (D : va_G) (cI : ClassId) (n : Nat) (hn : n ≤ 2000) : an_Met l D cI yX6_init (Cond.code yX6_init cX6_init 2 none :: am_tb) { frames := 1, cells := 1, slots := (n), locals := 40 } 6 [.null] [.int (nI n)] (fun _ _ => True) 1 ((n)) (an_row D cI n) := by
  intro a
  refine Met.ofW (cc := cX6_init) (maxL := 2) (ret := none) (by decide +kernel) rfl ?_
  intro p e s m args below meth c s₁ B hml hv
  obtain ⟨rfl, hat, hsz, hE, hK, hfI, hNw⟩ := hv
  have hF := (⟨B.exec, B.bytes, hml, findClass_of_methodNamed B.named, atoms_spec (ws := Cond.code yX6_init cX6_init 2 none :: am_tb) B.pre⟩ : CallFix p m c cX6_init 2 s _ (Cond.code yX6_init cX6_init 2 none :: am_tb) yX6_init.cls)
  have hts := hF.2.2.2.2
  have hin : meth.name = "<init>" := (name_of_methodNamed B.named B.method).1
  have hl := lv_entry ([.ref a, .int (nI n)]) (n := 2) (Nat.le_of_ble_eq_true rfl)
  rw [lg_entry_eq]
  generalize (lg_sl ([.ref a, .int (nI n)]) ++ List.replicate (2 - (lg_sl ([.ref a, .int (nI n)])).length) Slot.unset).toArray = ls at hl ⊢
  have hl : lv_has ls 2 [(0, .ref a), (1, .int (nI n))] := hl
  have J0 : an_J D s 6 a [.null] s.heap 0 [] := ⟨hat, rfl, fun _ h => absurd h List.not_mem_nil, by omega⟩
  have kp0 : an_kp a s.heap s.heap := an_kp.rf
  have x0 : an_tt s.heap := trivial
  have lo0 : an_lo a (a + 1) an_tt := fun _ _ _ h => h
  refine lv_aload_n hF.1 hF.2.1 dX6_init_0 rfl (hl.2.2 _ (.head _)) ?_
  refine W.objInit hF.1 hF.2.1 hF.2.2.2.1 (hts _ (List.mem_cons_of_mem _ uw_70)) (hts _ (List.mem_cons_of_mem _ uw_34)) (hts _ (List.mem_cons_of_mem _ uw_35)) rfl (hl.1.trans hF.2.2.1.symm) rfl dX6_init_1 (Nat.le_of_ble_eq_true rfl) (Nat.le_of_ble_eq_true rfl) ?_
  refine W.eq (g2 := F0 m 4 ls []) rfl ?_
  refine lv_aload_n hF.1 hF.2.1 dX6_init_4 rfl (hl.2.2 _ (.head _)) ?_
  refine lv_iload_n hF.1 hF.2.1 dX6_init_5 rfl (hl.2.2 _ (.tail _ (.head _))) ?_
  refine lv_iconst (v := 0) hF.1 hF.2.1 dX6_init_6 rfl ?_
  refine va_mmax hF.1 hF.2.1 (hF.2.2.1.trans hl.1.symm) hF.2.2.2.1 (hts _ (List.mem_cons_of_mem _ uw_71)) (hts _ (List.mem_cons_of_mem _ uw_43)) (hts _ (List.mem_cons_of_mem _ uw_3)) (hts _ (List.mem_cons_of_mem _ uw_44)) (Nat.le_of_ble_eq_true rfl) (Nat.le_of_ble_eq_true rfl) (by show 0 ≤ 1; omega) (by show 0 ≤ n; omega) dX6_init_7 ?_
  rw [an_max (show n < 2 ^ 31 by omega)]
  refine an_newa hF.1 hF.2.1 (hts _ (List.mem_cons_of_mem _ uw_52)) hfI J0 (N := n) (nI_pos (by omega)) (nI_clamp (by omega)) (by omega) (by show 1 ≤ 1; omega) (by show 0 + n ≤ ((n)); omega) dX6_init_10 (fun H1 J1 f1_1 k1 => ?_)
  have z1 : s.heap.size = a + 1 := by have := J0.2.1; omega
  rw [z1] at f1_1 ⊢
  have x1 := lo0 _ _ (fun q q1 q2 => k1 q (by have := J0.2.1; omega) (by omega)) x0
  have kp1 : an_kp a s.heap H1 := kp0.tr k1 (by have := J0.2.1; omega)
  have lo1 := an_lo_c (P := fun H => an_ar cI (a + 1) (n) H) (b1 := a + 1 + 1) lo0 (an_ar_loc (a + 1)) (by omega) (by omega) (by omega)
  have w1 : an_cj _ (fun H => an_ar cI (a + 1) (n) H) _ := And.intro x1 f1_1
  refine an_put (ty := tyX6 0) hF.1 hF.2.1 hts (fun w h => List.mem_cons_of_mem _ (iu_X6 w h)) tyX6 tyX6_ok nmX6 hF.2.2.2.1 hK J1 rfl 0 (by decide) (hts _ (List.mem_cons_of_mem _ uw_72)) (fun _ h => h) hin rfl (tyX6_ok 0 (by decide)) rfl rfl (Nat.le_of_ble_eq_true rfl) dX6_init_12 (fun H2 locs2 J2 k2 => ?_)
  have J2 : an_J D s 6 a [.ref (a + 1)] H2 1 locs2 := J2
  have x2 := lo1 _ _ (fun q q1 q2 => k2 q (by have := J1.2.1; omega) (by omega)) w1
  have kp2 : an_kp a s.heap H2 := kp1.tr k2 (by have := J1.2.1; omega)
  clear k2 w1 kp1 x1 z1 k1 f1_1 J1
  obtain ⟨-, y0⟩ := x2
  refine W.widen (k := 1) (n := ((n))) (by omega) (by omega) ?_
  exact an_fin (P := an_row D cI n) hF.1 hF.2.1 B.returns B.notSynchronized J2 kp2 hsz ⟨J2.1, y0⟩ dX6_init_15
def an_line (D : va_G) (cI : ClassId) (n : Nat) (a : Nat) (H : Heap) : Prop := an_at D 4 a [.ref (a + 1), .int 0] H ∧ an_ar cI (a + 1) (n) H
theorem an_line_loc {D : va_G} {cI : ClassId} {n : Nat} (a : Nat) (H H1 : Heap) (h : ∀ q, a ≤ q → q < a + 2 → H1[q]? = H[q]?) (j : an_line D cI (n) (a) H) : an_line D cI (n) (a) H1 := by
  obtain ⟨j0, j1⟩ := j
  exact ⟨an_mv (h a (by omega) (by omega)) j0, an_ar_loc (a + 1) H H1 (fun q q1 q2 => h q (by omega) (by omega)) j1⟩
theorem c_X4_init (l : Launch) (D : va_G) (cI : ClassId) (n : Nat) (hn : n ≤ 2000) : an_Met l D cI yX4_init (Cond.code yX4_init cX4_init 2 none :: am_tb) { frames := 1, cells := 1, slots := (n), locals := 40 } 4 [.null, .int 0] [.int (nI n)] (fun _ _ => True) 1 ((n)) (an_line D cI n) := by
  intro a
  refine Met.ofW (cc := cX4_init) (maxL := 2) (ret := none) (by decide +kernel) rfl ?_
  intro p e s m args below meth c s₁ B hml hv
  obtain ⟨rfl, hat, hsz, hE, hK, hfI, hNw⟩ := hv
  have hF := (⟨B.exec, B.bytes, hml, findClass_of_methodNamed B.named, atoms_spec (ws := Cond.code yX4_init cX4_init 2 none :: am_tb) B.pre⟩ : CallFix p m c cX4_init 2 s _ (Cond.code yX4_init cX4_init 2 none :: am_tb) yX4_init.cls)
  have hts := hF.2.2.2.2
  have hin : meth.name = "<init>" := (name_of_methodNamed B.named B.method).1
  have hl := lv_entry ([.ref a, .int (nI n)]) (n := 2) (Nat.le_of_ble_eq_true rfl)
  rw [lg_entry_eq]
  generalize (lg_sl ([.ref a, .int (nI n)]) ++ List.replicate (2 - (lg_sl ([.ref a, .int (nI n)])).length) Slot.unset).toArray = ls at hl ⊢
  have hl : lv_has ls 2 [(0, .ref a), (1, .int (nI n))] := hl
  have J0 : an_J D s 4 a [.null, .int 0] s.heap 0 [] := ⟨hat, rfl, fun _ h => absurd h List.not_mem_nil, by omega⟩
  have kp0 : an_kp a s.heap s.heap := an_kp.rf
  have x0 : an_tt s.heap := trivial
  have lo0 : an_lo a (a + 1) an_tt := fun _ _ _ h => h
  refine lv_aload_n hF.1 hF.2.1 dX4_init_0 rfl (hl.2.2 _ (.head _)) ?_
  refine W.objInit hF.1 hF.2.1 hF.2.2.2.1 (hts _ (List.mem_cons_of_mem _ uw_41)) (hts _ (List.mem_cons_of_mem _ uw_34)) (hts _ (List.mem_cons_of_mem _ uw_35)) rfl (hl.1.trans hF.2.2.1.symm) rfl dX4_init_1 (Nat.le_of_ble_eq_true rfl) (Nat.le_of_ble_eq_true rfl) ?_
  refine W.eq (g2 := F0 m 4 ls []) rfl ?_
  refine lv_aload_n hF.1 hF.2.1 dX4_init_4 rfl (hl.2.2 _ (.head _)) ?_
  refine lv_iload_n hF.1 hF.2.1 dX4_init_5 rfl (hl.2.2 _ (.tail _ (.head _))) ?_
  refine lv_iconst (v := 0) hF.1 hF.2.1 dX4_init_6 rfl ?_
  refine va_mmax hF.1 hF.2.1 (hF.2.2.1.trans hl.1.symm) hF.2.2.2.1 (hts _ (List.mem_cons_of_mem _ uw_42)) (hts _ (List.mem_cons_of_mem _ uw_43)) (hts _ (List.mem_cons_of_mem _ uw_3)) (hts _ (List.mem_cons_of_mem _ uw_44)) (Nat.le_of_ble_eq_true rfl) (Nat.le_of_ble_eq_true rfl) (by show 0 ≤ 1; omega) (by show 0 ≤ n; omega) dX4_init_7 ?_
  rw [an_max (show n < 2 ^ 31 by omega)]
  refine an_newa hF.1 hF.2.1 (hts _ (List.mem_cons_of_mem _ uw_52)) hfI J0 (N := n) (nI_pos (by omega)) (nI_clamp (by omega)) (by omega) (by show 1 ≤ 1; omega) (by show 0 + n ≤ ((n)); omega) dX4_init_10 (fun H1 J1 f1_1 k1 => ?_)
  have z1 : s.heap.size = a + 1 := by have := J0.2.1; omega
  rw [z1] at f1_1 ⊢
  have x1 := lo0 _ _ (fun q q1 q2 => k1 q (by have := J0.2.1; omega) (by omega)) x0
  have kp1 : an_kp a s.heap H1 := kp0.tr k1 (by have := J0.2.1; omega)
  have lo1 := an_lo_c (P := fun H => an_ar cI (a + 1) (n) H) (b1 := a + 1 + 1) lo0 (an_ar_loc (a + 1)) (by omega) (by omega) (by omega)
  have w1 : an_cj _ (fun H => an_ar cI (a + 1) (n) H) _ := And.intro x1 f1_1
  refine an_put (ty := tyX4 0) hF.1 hF.2.1 hts (fun w h => List.mem_cons_of_mem _ (iu_X4 w h)) tyX4 tyX4_ok nmX4 hF.2.2.2.1 hK J1 rfl 0 (by decide) (hts _ (List.mem_cons_of_mem _ uw_45)) (fun _ h => h) hin rfl (tyX4_ok 0 (by decide)) rfl rfl (Nat.le_of_ble_eq_true rfl) dX4_init_12 (fun H2 locs2 J2 k2 => ?_)
  have J2 : an_J D s 4 a [.ref (a + 1), .int 0] H2 1 locs2 := J2
  have x2 := lo1 _ _ (fun q q1 q2 => k2 q (by have := J1.2.1; omega) (by omega)) w1
  have kp2 : an_kp a s.heap H2 := kp1.tr k2 (by have := J1.2.1; omega)
  clear k2 w1 kp1 x1 z1 k1 f1_1 J1
  obtain ⟨-, y0⟩ := x2
  refine W.widen (k := 1) (n := ((n))) (by omega) (by omega) ?_
  exact an_fin (P := an_line D cI n) hF.1 hF.2.1 B.returns B.notSynchronized J2 kp2 hsz ⟨J2.1, y0⟩ dX4_init_15
def an_book (D : va_G) (cI : ClassId) (n : Nat) (a : Nat) (H : Heap) : Prop := an_at D 0 a [.ref (a + 1), .ref (a + 3)] H ∧ an_row D cI (n) (a + 1) H ∧ an_row D cI (n * 24) (a + 3) H
theorem an_book_loc {D : va_G} {cI : ClassId} {n : Nat} (a : Nat) (H H1 : Heap) (h : ∀ q, a ≤ q → q < a + 5 → H1[q]? = H[q]?) (j : an_book D cI (n) (a) H) : an_book D cI (n) (a) H1 := by
  obtain ⟨j0, j1, j2⟩ := j
  exact ⟨an_mv (h a (by omega) (by omega)) j0, an_row_loc (a + 1) H H1 (fun q q1 q2 => h q (by omega) (by omega)) j1, an_row_loc (a + 3) H H1 (fun q q1 q2 => h q (by omega) (by omega)) j2⟩
theorem c_X0_init (l : Launch) (D : va_G) (cI : ClassId) (n : Nat) (hn : n ≤ 60) : an_Met l D cI yX0_init (Cond.code yX0_init cX0_init 2 none :: am_tb) { frames := 2, cells := 4, slots := 1 + (((n))) + 1 + (((n * 24))), locals := 80 } 0 [.null, .null] [.int (nI n)] (fun _ _ => True) 4 (1 + (((n))) + 1 + (((n * 24)))) (an_book D cI n) := by
  intro a
  refine Met.ofW (cc := cX0_init) (maxL := 2) (ret := none) (by decide +kernel) rfl ?_
  intro p e s m args below meth c s₁ B hml hv
  obtain ⟨rfl, hat, hsz, hE, hK, hfI, hNw⟩ := hv
  have hF := (⟨B.exec, B.bytes, hml, findClass_of_methodNamed B.named, atoms_spec (ws := Cond.code yX0_init cX0_init 2 none :: am_tb) B.pre⟩ : CallFix p m c cX0_init 2 s _ (Cond.code yX0_init cX0_init 2 none :: am_tb) yX0_init.cls)
  have hts := hF.2.2.2.2
  have hin : meth.name = "<init>" := (name_of_methodNamed B.named B.method).1
  have hl := lv_entry ([.ref a, .int (nI n)]) (n := 2) (Nat.le_of_ble_eq_true rfl)
  rw [lg_entry_eq]
  generalize (lg_sl ([.ref a, .int (nI n)]) ++ List.replicate (2 - (lg_sl ([.ref a, .int (nI n)])).length) Slot.unset).toArray = ls at hl ⊢
  have hl : lv_has ls 2 [(0, .ref a), (1, .int (nI n))] := hl
  have J0 : an_J D s 0 a [.null, .null] s.heap 0 [] := ⟨hat, rfl, fun _ h => absurd h List.not_mem_nil, by omega⟩
  have kp0 : an_kp a s.heap s.heap := an_kp.rf
  have x0 : an_tt s.heap := trivial
  have lo0 : an_lo a (a + 1) an_tt := fun _ _ _ h => h
  refine lv_aload_n hF.1 hF.2.1 dX0_init_0 rfl (hl.2.2 _ (.head _)) ?_
  refine W.objInit hF.1 hF.2.1 hF.2.2.2.1 (hts _ (List.mem_cons_of_mem _ uw_64)) (hts _ (List.mem_cons_of_mem _ uw_34)) (hts _ (List.mem_cons_of_mem _ uw_35)) rfl (hl.1.trans hF.2.2.1.symm) rfl dX0_init_1 (Nat.le_of_ble_eq_true rfl) (Nat.le_of_ble_eq_true rfl) ?_
  refine W.eq (g2 := F0 m 4 ls []) rfl ?_
  refine lv_aload_n hF.1 hF.2.1 dX0_init_4 rfl (hl.2.2 _ (.head _)) ?_
  refine an_new (cj := 6) (gs := [.null]) (C := RX6) (T := TX6) (N := 1) hF.1 hF.2.1 hts (fun w h => List.mem_cons_of_mem _ (iu_X6 w h)) tyX6 tyX6_ok hF.2.2.2.1 (hts _ (List.mem_cons_of_mem _ uw_65)) (hts _ (List.mem_cons_of_mem _ uw_66)) (hts _ (List.mem_cons_of_mem _ uw_6)) hK J0 rfl (by decide +kernel) (by show 1 ≤ 4; omega) (by show 0 + 1 ≤ (1 + (((n))) + 1 + (((n * 24)))); omega) dX0_init_5 (fun H1 J1 g1 k1 => ?_)
  have z1 : s.heap.size = a + 1 := by have := J0.2.1; omega
  rw [z1] at g1 ⊢
  have x1 := lo0 _ _ (fun q q1 q2 => k1 q (by have := J0.2.1; omega) (by omega)) x0
  have kp1 : an_kp a s.heap H1 := kp0.tr k1 (by have := J0.2.1; omega)
  refine lv_dup hF.1 hF.2.1 dX0_init_8 rfl ?_
  refine lv_iload_n hF.1 hF.2.1 dX0_init_9 rfl (hl.2.2 _ (.tail _ (.head _))) ?_
  refine an_call (mc := 1) (ms := ((n))) (a1 := a + 1) (n := 1) (va_runI (As := [.int (nI (n))]) hF (c_X6_init l D cI (n) (by omega) (a + 1)) (cwI 1 hF.2.2.2.2 (am_gi uw_69) rfl rfl rfl (hts _ (List.mem_cons_of_mem _ uw_6)) (hts _ (List.mem_cons_of_mem _ uw_67)) (hts _ (List.mem_cons_of_mem _ uw_68)) rfl (by decide +kernel) ⟨Nat.le_of_ble_eq_true rfl, Nat.le_of_ble_eq_true rfl⟩) ⟨an_blind (D := D) (a := a + 1) (ci := 6) (cI := cI) (dfs := [.null]) (ex := [.int (nI (n))]) (E := (fun _ _ => True)), fun U hU hW => ⟨rfl, by rw [hU]; exact g1, by rw [hU]; have := J1.2.1; omega, by rw [hU]; exact trivial, va_K.moved hW.alike hK, by rw [hW.alike.findClass]; exact hfI, hNw.warm hW⟩⟩ rfl rfl hl.1 rfl (Nat.le_of_ble_eq_true rfl) dX0_init_10 ⟨by show 2 ≤ 4; omega, by show 0 + 1 + ((n)) ≤ (1 + (((n))) + 1 + (((n * 24)))); omega⟩) (by omega) J1 rfl (by have := J1.2.1; omega) (by omega) (fun H2 J2 f2_2 k2 => ?_)
  have x2 := lo0 _ _ (fun q q1 q2 => k2 q (by have := J1.2.1; omega) (by omega)) x1
  have kp2 : an_kp a s.heap H2 := fun q q1 q2 => (k2 q (by have := J1.2.1; omega) (by omega)).trans (kp1 q q1 q2)
  have lo2 := an_lo_c (P := fun H => an_row D cI (n) (a + 1) H) (b1 := a + 1 + 2) lo0 (an_row_loc (a + 1)) (by omega) (by omega) (by omega)
  have w2 : an_cj _ (fun H => an_row D cI (n) (a + 1) H) _ := And.intro x2 f2_2
  refine an_put (ty := tyX0 0) hF.1 hF.2.1 hts (fun w h => List.mem_cons_of_mem _ (iu_X0 w h)) tyX0 tyX0_ok nmX0 hF.2.2.2.1 hK J2 rfl 0 (by decide) (hts _ (List.mem_cons_of_mem _ uw_76)) (fun _ h => h) hin rfl (tyX0_ok 0 (by decide)) rfl rfl (Nat.le_of_ble_eq_true rfl) dX0_init_13 (fun H3 locs3 J3 k3 => ?_)
  have J3 : an_J D s 0 a [.ref (a + 1), .null] H3 2 locs3 := J3
  have x3 := lo2 _ _ (fun q q1 q2 => k3 q (by have := J2.2.1; omega) (by omega)) w2
  have kp3 : an_kp a s.heap H3 := kp2.tr k3 (by have := J2.2.1; omega)
  clear k3 w2 kp2 x2 k2 f2_2 J2 kp1 x1 z1 k1 g1 J1
  refine lv_aload_n hF.1 hF.2.1 dX0_init_16 rfl (hl.2.2 _ (.head _)) ?_
  refine an_new (cj := 6) (gs := [.null]) (C := RX6) (T := TX6) (N := 1) hF.1 hF.2.1 hts (fun w h => List.mem_cons_of_mem _ (iu_X6 w h)) tyX6 tyX6_ok hF.2.2.2.1 (hts _ (List.mem_cons_of_mem _ uw_65)) (hts _ (List.mem_cons_of_mem _ uw_66)) (hts _ (List.mem_cons_of_mem _ uw_6)) hK J3 rfl (by decide +kernel) (by show 3 ≤ 4; omega) (by show 0 + 1 + (((n))) + 1 ≤ (1 + (((n))) + 1 + (((n * 24)))); omega) dX0_init_17 (fun H4 J4 g4 k4 => ?_)
  have z4 : H3.size = a + 3 := by have := J3.2.1; omega
  rw [z4] at g4 ⊢
  have x4 := lo2 _ _ (fun q q1 q2 => k4 q (by have := J3.2.1; omega) (by omega)) x3
  have kp4 : an_kp a s.heap H4 := kp3.tr k4 (by have := J3.2.1; omega)
  refine lv_dup hF.1 hF.2.1 dX0_init_20 rfl ?_
  refine lv_iload_n hF.1 hF.2.1 dX0_init_21 rfl (hl.2.2 _ (.tail _ (.head _))) ?_
  refine lv_bipush (v := nI 24) hF.1 hF.2.1 dX0_init_22 (by decide) ?_
  refine lv_imul hF.1 hF.2.1 dX0_init_24 ?_
  rw [an_mul]
  refine an_call (mc := 1) (ms := ((n * 24))) (a1 := a + 3) (n := 1) (va_runI (As := [.int (nI (n * 24))]) hF (c_X6_init l D cI (n * 24) (by omega) (a + 3)) (cwI 1 hF.2.2.2.2 (am_gi uw_69) rfl rfl rfl (hts _ (List.mem_cons_of_mem _ uw_6)) (hts _ (List.mem_cons_of_mem _ uw_67)) (hts _ (List.mem_cons_of_mem _ uw_68)) rfl (by decide +kernel) ⟨Nat.le_of_ble_eq_true rfl, Nat.le_of_ble_eq_true rfl⟩) ⟨an_blind (D := D) (a := a + 3) (ci := 6) (cI := cI) (dfs := [.null]) (ex := [.int (nI (n * 24))]) (E := (fun _ _ => True)), fun U hU hW => ⟨rfl, by rw [hU]; exact g4, by rw [hU]; have := J4.2.1; omega, by rw [hU]; exact trivial, va_K.moved hW.alike hK, by rw [hW.alike.findClass]; exact hfI, hNw.warm hW⟩⟩ rfl rfl hl.1 rfl (Nat.le_of_ble_eq_true rfl) dX0_init_25 ⟨by show 4 ≤ 4; omega, by show 0 + 1 + (((n))) + 1 + ((n * 24)) ≤ (1 + (((n))) + 1 + (((n * 24)))); omega⟩) (by omega) J4 rfl (by have := J4.2.1; omega) (by omega) (fun H5 J5 f5_5 k5 => ?_)
  have x5 := lo2 _ _ (fun q q1 q2 => k5 q (by have := J4.2.1; omega) (by omega)) x4
  have kp5 : an_kp a s.heap H5 := fun q q1 q2 => (k5 q (by have := J4.2.1; omega) (by omega)).trans (kp4 q q1 q2)
  have lo5 := an_lo_c (P := fun H => an_row D cI (n * 24) (a + 3) H) (b1 := a + 3 + 2) lo2 (an_row_loc (a + 3)) (by omega) (by omega) (by omega)
  have w5 : an_cj _ (fun H => an_row D cI (n * 24) (a + 3) H) _ := And.intro x5 f5_5
  refine an_put (ty := tyX0 1) hF.1 hF.2.1 hts (fun w h => List.mem_cons_of_mem _ (iu_X0 w h)) tyX0 tyX0_ok nmX0 hF.2.2.2.1 hK J5 rfl 1 (by decide) (hts _ (List.mem_cons_of_mem _ uw_77)) (fun _ h => h) hin rfl (tyX0_ok 1 (by decide)) rfl rfl (Nat.le_of_ble_eq_true rfl) dX0_init_28 (fun H6 locs6 J6 k6 => ?_)
  have J6 : an_J D s 0 a [.ref (a + 1), .ref (a + 3)] H6 4 locs6 := J6
  have x6 := lo5 _ _ (fun q q1 q2 => k6 q (by have := J5.2.1; omega) (by omega)) w5
  have kp6 : an_kp a s.heap H6 := kp5.tr k6 (by have := J5.2.1; omega)
  clear k6 w5 kp5 x5 k5 f5_5 J5 kp4 x4 z4 k4 g4 J4 kp3 x3 J3 lo2
  obtain ⟨⟨-, y0⟩, y1⟩ := x6
  refine W.widen (k := 4) (n := (1 + (((n))) + 1 + (((n * 24))))) (by omega) (by omega) ?_
  exact an_fin (P := an_book D cI n) hF.1 hF.2.1 B.returns B.notSynchronized J6 kp6 hsz ⟨J6.1, y0, y1⟩ dX0_init_31
def an_chan (D : va_G) (cI : ClassId) (a : Nat) (H : Heap) : Prop := an_at D 1 a [.ref (a + 1), .ref (a + 3), .ref (a + 5)] H ∧ an_row D cI (4) (a + 1) H ∧ an_row D cI (4) (a + 3) H ∧ an_row D cI (12) (a + 5) H
theorem an_chan_loc {D : va_G} {cI : ClassId} (a : Nat) (H H1 : Heap) (h : ∀ q, a ≤ q → q < a + 7 → H1[q]? = H[q]?) (j : an_chan D cI (a) H) : an_chan D cI (a) H1 := by
  obtain ⟨j0, j1, j2, j3⟩ := j
  exact ⟨an_mv (h a (by omega) (by omega)) j0, an_row_loc (a + 1) H H1 (fun q q1 q2 => h q (by omega) (by omega)) j1, an_row_loc (a + 3) H H1 (fun q q1 q2 => h q (by omega) (by omega)) j2, an_row_loc (a + 5) H H1 (fun q q1 q2 => h q (by omega) (by omega)) j3⟩
theorem c_X1_init (l : Launch) (D : va_G) (cI : ClassId) : an_Met l D cI yX1_init (Cond.code yX1_init cX1_init 1 none :: am_tb) { frames := 2, cells := 6, slots := 23, locals := 80 } 1 [.null, .null, .null] [] (fun _ _ => True) 6 (23) (an_chan D cI) := by
  intro a
  refine Met.ofW (cc := cX1_init) (maxL := 1) (ret := none) (by decide +kernel) rfl ?_
  intro p e s m args below meth c s₁ B hml hv
  obtain ⟨rfl, hat, hsz, hE, hK, hfI, hNw⟩ := hv
  have hF := (⟨B.exec, B.bytes, hml, findClass_of_methodNamed B.named, atoms_spec (ws := Cond.code yX1_init cX1_init 1 none :: am_tb) B.pre⟩ : CallFix p m c cX1_init 1 s _ (Cond.code yX1_init cX1_init 1 none :: am_tb) yX1_init.cls)
  have hts := hF.2.2.2.2
  have hin : meth.name = "<init>" := (name_of_methodNamed B.named B.method).1
  have hl := lv_entry ([.ref a]) (n := 1) (Nat.le_of_ble_eq_true rfl)
  rw [lg_entry_eq]
  generalize (lg_sl ([.ref a]) ++ List.replicate (1 - (lg_sl ([.ref a])).length) Slot.unset).toArray = ls at hl ⊢
  have hl : lv_has ls 1 [(0, .ref a)] := hl
  have J0 : an_J D s 1 a [.null, .null, .null] s.heap 0 [] := ⟨hat, rfl, fun _ h => absurd h List.not_mem_nil, by omega⟩
  have kp0 : an_kp a s.heap s.heap := an_kp.rf
  have x0 : an_tt s.heap := trivial
  have lo0 : an_lo a (a + 1) an_tt := fun _ _ _ h => h
  refine lv_aload_n hF.1 hF.2.1 dX1_init_0 rfl (hl.2.2 _ (.head _)) ?_
  refine W.objInit hF.1 hF.2.1 hF.2.2.2.1 (hts _ (List.mem_cons_of_mem _ uw_269)) (hts _ (List.mem_cons_of_mem _ uw_34)) (hts _ (List.mem_cons_of_mem _ uw_35)) rfl (hl.1.trans hF.2.2.1.symm) rfl dX1_init_1 (Nat.le_of_ble_eq_true rfl) (Nat.le_of_ble_eq_true rfl) ?_
  refine W.eq (g2 := F0 m 4 ls []) rfl ?_
  refine lv_aload_n hF.1 hF.2.1 dX1_init_4 rfl (hl.2.2 _ (.head _)) ?_
  refine an_new (cj := 6) (gs := [.null]) (C := RX6) (T := TX6) (N := 1) hF.1 hF.2.1 hts (fun w h => List.mem_cons_of_mem _ (iu_X6 w h)) tyX6 tyX6_ok hF.2.2.2.1 (hts _ (List.mem_cons_of_mem _ uw_270)) (hts _ (List.mem_cons_of_mem _ uw_66)) (hts _ (List.mem_cons_of_mem _ uw_6)) hK J0 rfl (by decide +kernel) (by show 1 ≤ 6; omega) (by show 0 + 1 ≤ (23); omega) dX1_init_5 (fun H1 J1 g1 k1 => ?_)
  have z1 : s.heap.size = a + 1 := by have := J0.2.1; omega
  rw [z1] at g1 ⊢
  have x1 := lo0 _ _ (fun q q1 q2 => k1 q (by have := J0.2.1; omega) (by omega)) x0
  have kp1 : an_kp a s.heap H1 := kp0.tr k1 (by have := J0.2.1; omega)
  refine lv_dup hF.1 hF.2.1 dX1_init_8 rfl ?_
  refine lv_iconst (v := nI 4) hF.1 hF.2.1 dX1_init_9 (by decide) ?_
  refine an_call (mc := 1) (ms := ((4))) (a1 := a + 1) (n := 1) (va_runI (As := [.int (nI (4))]) hF (c_X6_init l D cI (4) (by omega) (a + 1)) (cwI 1 hF.2.2.2.2 (am_gi uw_69) rfl rfl rfl (hts _ (List.mem_cons_of_mem _ uw_6)) (hts _ (List.mem_cons_of_mem _ uw_271)) (hts _ (List.mem_cons_of_mem _ uw_68)) rfl (by decide +kernel) ⟨Nat.le_of_ble_eq_true rfl, Nat.le_of_ble_eq_true rfl⟩) ⟨an_blind (D := D) (a := a + 1) (ci := 6) (cI := cI) (dfs := [.null]) (ex := [.int (nI (4))]) (E := (fun _ _ => True)), fun U hU hW => ⟨rfl, by rw [hU]; exact g1, by rw [hU]; have := J1.2.1; omega, by rw [hU]; exact trivial, va_K.moved hW.alike hK, by rw [hW.alike.findClass]; exact hfI, hNw.warm hW⟩⟩ rfl rfl hl.1 rfl (Nat.le_of_ble_eq_true rfl) dX1_init_10 ⟨by show 2 ≤ 6; omega, by show 0 + 1 + ((4)) ≤ (23); omega⟩) (by omega) J1 rfl (by have := J1.2.1; omega) (by omega) (fun H2 J2 f2_2 k2 => ?_)
  have x2 := lo0 _ _ (fun q q1 q2 => k2 q (by have := J1.2.1; omega) (by omega)) x1
  have kp2 : an_kp a s.heap H2 := fun q q1 q2 => (k2 q (by have := J1.2.1; omega) (by omega)).trans (kp1 q q1 q2)
  have lo2 := an_lo_c (P := fun H => an_row D cI (4) (a + 1) H) (b1 := a + 1 + 2) lo0 (an_row_loc (a + 1)) (by omega) (by omega) (by omega)
  have w2 : an_cj _ (fun H => an_row D cI (4) (a + 1) H) _ := And.intro x2 f2_2
  refine an_put (ty := tyX1 0) hF.1 hF.2.1 hts (fun w h => List.mem_cons_of_mem _ (iu_X1 w h)) tyX1 tyX1_ok nmX1 hF.2.2.2.1 hK J2 rfl 0 (by decide) (hts _ (List.mem_cons_of_mem _ uw_272)) (fun _ h => h) hin rfl (tyX1_ok 0 (by decide)) rfl rfl (Nat.le_of_ble_eq_true rfl) dX1_init_13 (fun H3 locs3 J3 k3 => ?_)
  have J3 : an_J D s 1 a [.ref (a + 1), .null, .null] H3 2 locs3 := J3
  have x3 := lo2 _ _ (fun q q1 q2 => k3 q (by have := J2.2.1; omega) (by omega)) w2
  have kp3 : an_kp a s.heap H3 := kp2.tr k3 (by have := J2.2.1; omega)
  clear k3 w2 kp2 x2 k2 f2_2 J2 kp1 x1 z1 k1 g1 J1
  refine lv_aload_n hF.1 hF.2.1 dX1_init_16 rfl (hl.2.2 _ (.head _)) ?_
  refine an_new (cj := 6) (gs := [.null]) (C := RX6) (T := TX6) (N := 1) hF.1 hF.2.1 hts (fun w h => List.mem_cons_of_mem _ (iu_X6 w h)) tyX6 tyX6_ok hF.2.2.2.1 (hts _ (List.mem_cons_of_mem _ uw_270)) (hts _ (List.mem_cons_of_mem _ uw_66)) (hts _ (List.mem_cons_of_mem _ uw_6)) hK J3 rfl (by decide +kernel) (by show 3 ≤ 6; omega) (by show 0 + 1 + (((4))) + 1 ≤ (23); omega) dX1_init_17 (fun H4 J4 g4 k4 => ?_)
  have z4 : H3.size = a + 3 := by have := J3.2.1; omega
  rw [z4] at g4 ⊢
  have x4 := lo2 _ _ (fun q q1 q2 => k4 q (by have := J3.2.1; omega) (by omega)) x3
  have kp4 : an_kp a s.heap H4 := kp3.tr k4 (by have := J3.2.1; omega)
  refine lv_dup hF.1 hF.2.1 dX1_init_20 rfl ?_
  refine lv_iconst (v := nI 4) hF.1 hF.2.1 dX1_init_21 (by decide) ?_
  refine an_call (mc := 1) (ms := ((4))) (a1 := a + 3) (n := 1) (va_runI (As := [.int (nI (4))]) hF (c_X6_init l D cI (4) (by omega) (a + 3)) (cwI 1 hF.2.2.2.2 (am_gi uw_69) rfl rfl rfl (hts _ (List.mem_cons_of_mem _ uw_6)) (hts _ (List.mem_cons_of_mem _ uw_271)) (hts _ (List.mem_cons_of_mem _ uw_68)) rfl (by decide +kernel) ⟨Nat.le_of_ble_eq_true rfl, Nat.le_of_ble_eq_true rfl⟩) ⟨an_blind (D := D) (a := a + 3) (ci := 6) (cI := cI) (dfs := [.null]) (ex := [.int (nI (4))]) (E := (fun _ _ => True)), fun U hU hW => ⟨rfl, by rw [hU]; exact g4, by rw [hU]; have := J4.2.1; omega, by rw [hU]; exact trivial, va_K.moved hW.alike hK, by rw [hW.alike.findClass]; exact hfI, hNw.warm hW⟩⟩ rfl rfl hl.1 rfl (Nat.le_of_ble_eq_true rfl) dX1_init_22 ⟨by show 4 ≤ 6; omega, by show 0 + 1 + (((4))) + 1 + ((4)) ≤ (23); omega⟩) (by omega) J4 rfl (by have := J4.2.1; omega) (by omega) (fun H5 J5 f5_5 k5 => ?_)
  have x5 := lo2 _ _ (fun q q1 q2 => k5 q (by have := J4.2.1; omega) (by omega)) x4
  have kp5 : an_kp a s.heap H5 := fun q q1 q2 => (k5 q (by have := J4.2.1; omega) (by omega)).trans (kp4 q q1 q2)
  have lo5 := an_lo_c (P := fun H => an_row D cI (4) (a + 3) H) (b1 := a + 3 + 2) lo2 (an_row_loc (a + 3)) (by omega) (by omega) (by omega)
  have w5 : an_cj _ (fun H => an_row D cI (4) (a + 3) H) _ := And.intro x5 f5_5
  refine an_put (ty := tyX1 1) hF.1 hF.2.1 hts (fun w h => List.mem_cons_of_mem _ (iu_X1 w h)) tyX1 tyX1_ok nmX1 hF.2.2.2.1 hK J5 rfl 1 (by decide) (hts _ (List.mem_cons_of_mem _ uw_275)) (fun _ h => h) hin rfl (tyX1_ok 1 (by decide)) rfl rfl (Nat.le_of_ble_eq_true rfl) dX1_init_25 (fun H6 locs6 J6 k6 => ?_)
  have J6 : an_J D s 1 a [.ref (a + 1), .ref (a + 3), .null] H6 4 locs6 := J6
  have x6 := lo5 _ _ (fun q q1 q2 => k6 q (by have := J5.2.1; omega) (by omega)) w5
  have kp6 : an_kp a s.heap H6 := kp5.tr k6 (by have := J5.2.1; omega)
  clear k6 w5 kp5 x5 k5 f5_5 J5 kp4 x4 z4 k4 g4 J4 kp3 x3 J3 lo2
  refine lv_aload_n hF.1 hF.2.1 dX1_init_28 rfl (hl.2.2 _ (.head _)) ?_
  refine an_new (cj := 6) (gs := [.null]) (C := RX6) (T := TX6) (N := 1) hF.1 hF.2.1 hts (fun w h => List.mem_cons_of_mem _ (iu_X6 w h)) tyX6 tyX6_ok hF.2.2.2.1 (hts _ (List.mem_cons_of_mem _ uw_270)) (hts _ (List.mem_cons_of_mem _ uw_66)) (hts _ (List.mem_cons_of_mem _ uw_6)) hK J6 rfl (by decide +kernel) (by show 5 ≤ 6; omega) (by show 0 + 1 + (((4))) + 1 + (((4))) + 1 ≤ (23); omega) dX1_init_29 (fun H7 J7 g7 k7 => ?_)
  have z7 : H6.size = a + 5 := by have := J6.2.1; omega
  rw [z7] at g7 ⊢
  have x7 := lo5 _ _ (fun q q1 q2 => k7 q (by have := J6.2.1; omega) (by omega)) x6
  have kp7 : an_kp a s.heap H7 := kp6.tr k7 (by have := J6.2.1; omega)
  refine lv_dup hF.1 hF.2.1 dX1_init_32 rfl ?_
  refine lv_bipush (v := nI 12) hF.1 hF.2.1 dX1_init_33 (by decide) ?_
  refine an_call (mc := 1) (ms := ((12))) (a1 := a + 5) (n := 1) (va_runI (As := [.int (nI (12))]) hF (c_X6_init l D cI (12) (by omega) (a + 5)) (cwI 1 hF.2.2.2.2 (am_gi uw_69) rfl rfl rfl (hts _ (List.mem_cons_of_mem _ uw_6)) (hts _ (List.mem_cons_of_mem _ uw_271)) (hts _ (List.mem_cons_of_mem _ uw_68)) rfl (by decide +kernel) ⟨Nat.le_of_ble_eq_true rfl, Nat.le_of_ble_eq_true rfl⟩) ⟨an_blind (D := D) (a := a + 5) (ci := 6) (cI := cI) (dfs := [.null]) (ex := [.int (nI (12))]) (E := (fun _ _ => True)), fun U hU hW => ⟨rfl, by rw [hU]; exact g7, by rw [hU]; have := J7.2.1; omega, by rw [hU]; exact trivial, va_K.moved hW.alike hK, by rw [hW.alike.findClass]; exact hfI, hNw.warm hW⟩⟩ rfl rfl hl.1 rfl (Nat.le_of_ble_eq_true rfl) dX1_init_35 ⟨by show 6 ≤ 6; omega, by show 0 + 1 + (((4))) + 1 + (((4))) + 1 + ((12)) ≤ (23); omega⟩) (by omega) J7 rfl (by have := J7.2.1; omega) (by omega) (fun H8 J8 f8_8 k8 => ?_)
  have x8 := lo5 _ _ (fun q q1 q2 => k8 q (by have := J7.2.1; omega) (by omega)) x7
  have kp8 : an_kp a s.heap H8 := fun q q1 q2 => (k8 q (by have := J7.2.1; omega) (by omega)).trans (kp7 q q1 q2)
  have lo8 := an_lo_c (P := fun H => an_row D cI (12) (a + 5) H) (b1 := a + 5 + 2) lo5 (an_row_loc (a + 5)) (by omega) (by omega) (by omega)
  have w8 : an_cj _ (fun H => an_row D cI (12) (a + 5) H) _ := And.intro x8 f8_8
  refine an_put (ty := tyX1 2) hF.1 hF.2.1 hts (fun w h => List.mem_cons_of_mem _ (iu_X1 w h)) tyX1 tyX1_ok nmX1 hF.2.2.2.1 hK J8 rfl 2 (by decide) (hts _ (List.mem_cons_of_mem _ uw_280)) (fun _ h => h) hin rfl (tyX1_ok 2 (by decide)) rfl rfl (Nat.le_of_ble_eq_true rfl) dX1_init_38 (fun H9 locs9 J9 k9 => ?_)
  have J9 : an_J D s 1 a [.ref (a + 1), .ref (a + 3), .ref (a + 5)] H9 6 locs9 := J9
  have x9 := lo8 _ _ (fun q q1 q2 => k9 q (by have := J8.2.1; omega) (by omega)) w8
  have kp9 : an_kp a s.heap H9 := kp8.tr k9 (by have := J8.2.1; omega)
  clear k9 w8 kp8 x8 k8 f8_8 J8 kp7 x7 z7 k7 g7 J7 kp6 x6 J6 lo5
  obtain ⟨⟨⟨-, y0⟩, y1⟩, y2⟩ := x9
  refine W.widen (k := 6) (n := (23)) (by omega) (by omega) ?_
  exact an_fin (P := an_chan D cI) hF.1 hF.2.1 B.returns B.notSynchronized J9 kp9 hsz ⟨J9.1, y0, y1, y2⟩ dX1_init_41
def an_fail (D : va_G) (cI : ClassId) (a : Nat) (H : Heap) : Prop := an_at D 3 a [.ref (a + 1), .ref (a + 3), .ref (a + 5)] H ∧ an_line D cI (660) (a + 1) H ∧ an_line D cI (660) (a + 3) H ∧ an_line D cI (660) (a + 5) H
theorem an_fail_loc {D : va_G} {cI : ClassId} (a : Nat) (H H1 : Heap) (h : ∀ q, a ≤ q → q < a + 7 → H1[q]? = H[q]?) (j : an_fail D cI (a) H) : an_fail D cI (a) H1 := by
  obtain ⟨j0, j1, j2, j3⟩ := j
  exact ⟨an_mv (h a (by omega) (by omega)) j0, an_line_loc (a + 1) H H1 (fun q q1 q2 => h q (by omega) (by omega)) j1, an_line_loc (a + 3) H H1 (fun q q1 q2 => h q (by omega) (by omega)) j2, an_line_loc (a + 5) H H1 (fun q q1 q2 => h q (by omega) (by omega)) j3⟩
theorem c_X3_init (l : Launch) (D : va_G) (cI : ClassId) : an_Met l D cI yX3_init (Cond.code yX3_init cX3_init 1 none :: am_tb) { frames := 2, cells := 6, slots := 1986, locals := 80 } 3 [.null, .null, .null] [] (fun _ _ => True) 6 (1986) (an_fail D cI) := by
  intro a
  refine Met.ofW (cc := cX3_init) (maxL := 1) (ret := none) (by decide +kernel) rfl ?_
  intro p e s m args below meth c s₁ B hml hv
  obtain ⟨rfl, hat, hsz, hE, hK, hfI, hNw⟩ := hv
  have hF := (⟨B.exec, B.bytes, hml, findClass_of_methodNamed B.named, atoms_spec (ws := Cond.code yX3_init cX3_init 1 none :: am_tb) B.pre⟩ : CallFix p m c cX3_init 1 s _ (Cond.code yX3_init cX3_init 1 none :: am_tb) yX3_init.cls)
  have hts := hF.2.2.2.2
  have hin : meth.name = "<init>" := (name_of_methodNamed B.named B.method).1
  have hl := lv_entry ([.ref a]) (n := 1) (Nat.le_of_ble_eq_true rfl)
  rw [lg_entry_eq]
  generalize (lg_sl ([.ref a]) ++ List.replicate (1 - (lg_sl ([.ref a])).length) Slot.unset).toArray = ls at hl ⊢
  have hl : lv_has ls 1 [(0, .ref a)] := hl
  have J0 : an_J D s 3 a [.null, .null, .null] s.heap 0 [] := ⟨hat, rfl, fun _ h => absurd h List.not_mem_nil, by omega⟩
  have kp0 : an_kp a s.heap s.heap := an_kp.rf
  have x0 : an_tt s.heap := trivial
  have lo0 : an_lo a (a + 1) an_tt := fun _ _ _ h => h
  refine lv_aload_n hF.1 hF.2.1 dX3_init_0 rfl (hl.2.2 _ (.head _)) ?_
  refine W.objInit hF.1 hF.2.1 hF.2.2.2.1 (hts _ (List.mem_cons_of_mem _ uw_293)) (hts _ (List.mem_cons_of_mem _ uw_34)) (hts _ (List.mem_cons_of_mem _ uw_35)) rfl (hl.1.trans hF.2.2.1.symm) rfl dX3_init_1 (Nat.le_of_ble_eq_true rfl) (Nat.le_of_ble_eq_true rfl) ?_
  refine W.eq (g2 := F0 m 4 ls []) rfl ?_
  refine lv_aload_n hF.1 hF.2.1 dX3_init_4 rfl (hl.2.2 _ (.head _)) ?_
  refine an_new (cj := 4) (gs := [.null, .int 0]) (C := RX4) (T := TX4) (N := 2) hF.1 hF.2.1 hts (fun w h => List.mem_cons_of_mem _ (iu_X4 w h)) tyX4 tyX4_ok hF.2.2.2.1 (hts _ (List.mem_cons_of_mem _ uw_294)) (hts _ (List.mem_cons_of_mem _ uw_37)) (hts _ (List.mem_cons_of_mem _ uw_2)) hK J0 rfl (by decide +kernel) (by show 1 ≤ 6; omega) (by show 0 + 2 ≤ (1986); omega) dX3_init_5 (fun H1 J1 g1 k1 => ?_)
  have z1 : s.heap.size = a + 1 := by have := J0.2.1; omega
  rw [z1] at g1 ⊢
  have x1 := lo0 _ _ (fun q q1 q2 => k1 q (by have := J0.2.1; omega) (by omega)) x0
  have kp1 : an_kp a s.heap H1 := kp0.tr k1 (by have := J0.2.1; omega)
  refine lv_dup hF.1 hF.2.1 dX3_init_8 rfl ?_
  refine lv_sipush (v := nI 660) hF.1 hF.2.1 dX3_init_9 (by decide) ?_
  refine an_call (mc := 1) (ms := ((660))) (a1 := a + 1) (n := 1) (va_runI (As := [.int (nI (660))]) hF (c_X4_init l D cI (660) (by omega) (a + 1)) (cwI 1 hF.2.2.2.2 (am_gi uw_40) rfl rfl rfl (hts _ (List.mem_cons_of_mem _ uw_2)) (hts _ (List.mem_cons_of_mem _ uw_295)) (hts _ (List.mem_cons_of_mem _ uw_39)) rfl (by decide +kernel) ⟨Nat.le_of_ble_eq_true rfl, Nat.le_of_ble_eq_true rfl⟩) ⟨an_blind (D := D) (a := a + 1) (ci := 4) (cI := cI) (dfs := [.null, .int 0]) (ex := [.int (nI (660))]) (E := (fun _ _ => True)), fun U hU hW => ⟨rfl, by rw [hU]; exact g1, by rw [hU]; have := J1.2.1; omega, by rw [hU]; exact trivial, va_K.moved hW.alike hK, by rw [hW.alike.findClass]; exact hfI, hNw.warm hW⟩⟩ rfl rfl hl.1 rfl (Nat.le_of_ble_eq_true rfl) dX3_init_12 ⟨by show 2 ≤ 6; omega, by show 0 + 2 + ((660)) ≤ (1986); omega⟩) (by omega) J1 rfl (by have := J1.2.1; omega) (by omega) (fun H2 J2 f2_2 k2 => ?_)
  have x2 := lo0 _ _ (fun q q1 q2 => k2 q (by have := J1.2.1; omega) (by omega)) x1
  have kp2 : an_kp a s.heap H2 := fun q q1 q2 => (k2 q (by have := J1.2.1; omega) (by omega)).trans (kp1 q q1 q2)
  have lo2 := an_lo_c (P := fun H => an_line D cI (660) (a + 1) H) (b1 := a + 1 + 2) lo0 (an_line_loc (a + 1)) (by omega) (by omega) (by omega)
  have w2 : an_cj _ (fun H => an_line D cI (660) (a + 1) H) _ := And.intro x2 f2_2
  refine an_put (ty := tyX3 0) hF.1 hF.2.1 hts (fun w h => List.mem_cons_of_mem _ (iu_X3 w h)) tyX3 tyX3_ok nmX3 hF.2.2.2.1 hK J2 rfl 0 (by decide) (hts _ (List.mem_cons_of_mem _ uw_296)) (fun _ h => h) hin rfl (tyX3_ok 0 (by decide)) rfl rfl (Nat.le_of_ble_eq_true rfl) dX3_init_15 (fun H3 locs3 J3 k3 => ?_)
  have J3 : an_J D s 3 a [.ref (a + 1), .null, .null] H3 2 locs3 := J3
  have x3 := lo2 _ _ (fun q q1 q2 => k3 q (by have := J2.2.1; omega) (by omega)) w2
  have kp3 : an_kp a s.heap H3 := kp2.tr k3 (by have := J2.2.1; omega)
  clear k3 w2 kp2 x2 k2 f2_2 J2 kp1 x1 z1 k1 g1 J1
  refine lv_aload_n hF.1 hF.2.1 dX3_init_18 rfl (hl.2.2 _ (.head _)) ?_
  refine an_new (cj := 4) (gs := [.null, .int 0]) (C := RX4) (T := TX4) (N := 2) hF.1 hF.2.1 hts (fun w h => List.mem_cons_of_mem _ (iu_X4 w h)) tyX4 tyX4_ok hF.2.2.2.1 (hts _ (List.mem_cons_of_mem _ uw_294)) (hts _ (List.mem_cons_of_mem _ uw_37)) (hts _ (List.mem_cons_of_mem _ uw_2)) hK J3 rfl (by decide +kernel) (by show 3 ≤ 6; omega) (by show 0 + 2 + (((660))) + 2 ≤ (1986); omega) dX3_init_19 (fun H4 J4 g4 k4 => ?_)
  have z4 : H3.size = a + 3 := by have := J3.2.1; omega
  rw [z4] at g4 ⊢
  have x4 := lo2 _ _ (fun q q1 q2 => k4 q (by have := J3.2.1; omega) (by omega)) x3
  have kp4 : an_kp a s.heap H4 := kp3.tr k4 (by have := J3.2.1; omega)
  refine lv_dup hF.1 hF.2.1 dX3_init_22 rfl ?_
  refine lv_sipush (v := nI 660) hF.1 hF.2.1 dX3_init_23 (by decide) ?_
  refine an_call (mc := 1) (ms := ((660))) (a1 := a + 3) (n := 1) (va_runI (As := [.int (nI (660))]) hF (c_X4_init l D cI (660) (by omega) (a + 3)) (cwI 1 hF.2.2.2.2 (am_gi uw_40) rfl rfl rfl (hts _ (List.mem_cons_of_mem _ uw_2)) (hts _ (List.mem_cons_of_mem _ uw_295)) (hts _ (List.mem_cons_of_mem _ uw_39)) rfl (by decide +kernel) ⟨Nat.le_of_ble_eq_true rfl, Nat.le_of_ble_eq_true rfl⟩) ⟨an_blind (D := D) (a := a + 3) (ci := 4) (cI := cI) (dfs := [.null, .int 0]) (ex := [.int (nI (660))]) (E := (fun _ _ => True)), fun U hU hW => ⟨rfl, by rw [hU]; exact g4, by rw [hU]; have := J4.2.1; omega, by rw [hU]; exact trivial, va_K.moved hW.alike hK, by rw [hW.alike.findClass]; exact hfI, hNw.warm hW⟩⟩ rfl rfl hl.1 rfl (Nat.le_of_ble_eq_true rfl) dX3_init_26 ⟨by show 4 ≤ 6; omega, by show 0 + 2 + (((660))) + 2 + ((660)) ≤ (1986); omega⟩) (by omega) J4 rfl (by have := J4.2.1; omega) (by omega) (fun H5 J5 f5_5 k5 => ?_)
  have x5 := lo2 _ _ (fun q q1 q2 => k5 q (by have := J4.2.1; omega) (by omega)) x4
  have kp5 : an_kp a s.heap H5 := fun q q1 q2 => (k5 q (by have := J4.2.1; omega) (by omega)).trans (kp4 q q1 q2)
  have lo5 := an_lo_c (P := fun H => an_line D cI (660) (a + 3) H) (b1 := a + 3 + 2) lo2 (an_line_loc (a + 3)) (by omega) (by omega) (by omega)
  have w5 : an_cj _ (fun H => an_line D cI (660) (a + 3) H) _ := And.intro x5 f5_5
  refine an_put (ty := tyX3 1) hF.1 hF.2.1 hts (fun w h => List.mem_cons_of_mem _ (iu_X3 w h)) tyX3 tyX3_ok nmX3 hF.2.2.2.1 hK J5 rfl 1 (by decide) (hts _ (List.mem_cons_of_mem _ uw_298)) (fun _ h => h) hin rfl (tyX3_ok 1 (by decide)) rfl rfl (Nat.le_of_ble_eq_true rfl) dX3_init_29 (fun H6 locs6 J6 k6 => ?_)
  have J6 : an_J D s 3 a [.ref (a + 1), .ref (a + 3), .null] H6 4 locs6 := J6
  have x6 := lo5 _ _ (fun q q1 q2 => k6 q (by have := J5.2.1; omega) (by omega)) w5
  have kp6 : an_kp a s.heap H6 := kp5.tr k6 (by have := J5.2.1; omega)
  clear k6 w5 kp5 x5 k5 f5_5 J5 kp4 x4 z4 k4 g4 J4 kp3 x3 J3 lo2
  refine lv_aload_n hF.1 hF.2.1 dX3_init_32 rfl (hl.2.2 _ (.head _)) ?_
  refine an_new (cj := 4) (gs := [.null, .int 0]) (C := RX4) (T := TX4) (N := 2) hF.1 hF.2.1 hts (fun w h => List.mem_cons_of_mem _ (iu_X4 w h)) tyX4 tyX4_ok hF.2.2.2.1 (hts _ (List.mem_cons_of_mem _ uw_294)) (hts _ (List.mem_cons_of_mem _ uw_37)) (hts _ (List.mem_cons_of_mem _ uw_2)) hK J6 rfl (by decide +kernel) (by show 5 ≤ 6; omega) (by show 0 + 2 + (((660))) + 2 + (((660))) + 2 ≤ (1986); omega) dX3_init_33 (fun H7 J7 g7 k7 => ?_)
  have z7 : H6.size = a + 5 := by have := J6.2.1; omega
  rw [z7] at g7 ⊢
  have x7 := lo5 _ _ (fun q q1 q2 => k7 q (by have := J6.2.1; omega) (by omega)) x6
  have kp7 : an_kp a s.heap H7 := kp6.tr k7 (by have := J6.2.1; omega)
  refine lv_dup hF.1 hF.2.1 dX3_init_36 rfl ?_
  refine lv_sipush (v := nI 660) hF.1 hF.2.1 dX3_init_37 (by decide) ?_
  refine an_call (mc := 1) (ms := ((660))) (a1 := a + 5) (n := 1) (va_runI (As := [.int (nI (660))]) hF (c_X4_init l D cI (660) (by omega) (a + 5)) (cwI 1 hF.2.2.2.2 (am_gi uw_40) rfl rfl rfl (hts _ (List.mem_cons_of_mem _ uw_2)) (hts _ (List.mem_cons_of_mem _ uw_295)) (hts _ (List.mem_cons_of_mem _ uw_39)) rfl (by decide +kernel) ⟨Nat.le_of_ble_eq_true rfl, Nat.le_of_ble_eq_true rfl⟩) ⟨an_blind (D := D) (a := a + 5) (ci := 4) (cI := cI) (dfs := [.null, .int 0]) (ex := [.int (nI (660))]) (E := (fun _ _ => True)), fun U hU hW => ⟨rfl, by rw [hU]; exact g7, by rw [hU]; have := J7.2.1; omega, by rw [hU]; exact trivial, va_K.moved hW.alike hK, by rw [hW.alike.findClass]; exact hfI, hNw.warm hW⟩⟩ rfl rfl hl.1 rfl (Nat.le_of_ble_eq_true rfl) dX3_init_40 ⟨by show 6 ≤ 6; omega, by show 0 + 2 + (((660))) + 2 + (((660))) + 2 + ((660)) ≤ (1986); omega⟩) (by omega) J7 rfl (by have := J7.2.1; omega) (by omega) (fun H8 J8 f8_8 k8 => ?_)
  have x8 := lo5 _ _ (fun q q1 q2 => k8 q (by have := J7.2.1; omega) (by omega)) x7
  have kp8 : an_kp a s.heap H8 := fun q q1 q2 => (k8 q (by have := J7.2.1; omega) (by omega)).trans (kp7 q q1 q2)
  have lo8 := an_lo_c (P := fun H => an_line D cI (660) (a + 5) H) (b1 := a + 5 + 2) lo5 (an_line_loc (a + 5)) (by omega) (by omega) (by omega)
  have w8 : an_cj _ (fun H => an_line D cI (660) (a + 5) H) _ := And.intro x8 f8_8
  refine an_put (ty := tyX3 2) hF.1 hF.2.1 hts (fun w h => List.mem_cons_of_mem _ (iu_X3 w h)) tyX3 tyX3_ok nmX3 hF.2.2.2.1 hK J8 rfl 2 (by decide) (hts _ (List.mem_cons_of_mem _ uw_300)) (fun _ h => h) hin rfl (tyX3_ok 2 (by decide)) rfl rfl (Nat.le_of_ble_eq_true rfl) dX3_init_43 (fun H9 locs9 J9 k9 => ?_)
  have J9 : an_J D s 3 a [.ref (a + 1), .ref (a + 3), .ref (a + 5)] H9 6 locs9 := J9
  have x9 := lo8 _ _ (fun q q1 q2 => k9 q (by have := J8.2.1; omega) (by omega)) w8
  have kp9 : an_kp a s.heap H9 := kp8.tr k9 (by have := J8.2.1; omega)
  clear k9 w8 kp8 x8 k8 f8_8 J8 kp7 x7 z7 k7 g7 J7 kp6 x6 J6 lo5
  obtain ⟨⟨⟨-, y0⟩, y1⟩, y2⟩ := x9
  refine W.widen (k := 6) (n := (1986)) (by omega) (by omega) ?_
  exact an_fin (P := an_fail D cI) hF.1 hF.2.1 B.returns B.notSynchronized J9 kp9 hsz ⟨J9.1, y0, y1, y2⟩ dX3_init_46
def an_scop (D : va_G) (cI : ClassId) (a : Nat) (H : Heap) : Prop := an_at D 8 a [.int 0, .ref (a + 1), .ref (a + 3), .ref (a + 5), .ref (a + 7), .ref (a + 9), .ref (a + 11), .ref (a + 13), .ref (a + 15), .ref (a + 17), .ref (a + 19)] H ∧ an_row D cI (60) (a + 1) H ∧ an_row D cI (60) (a + 3) H ∧ an_row D cI (60) (a + 5) H ∧ an_row D cI (60) (a + 7) H ∧ an_row D cI (60) (a + 9) H ∧ an_row D cI (60) (a + 11) H ∧ an_row D cI (60) (a + 13) H ∧ an_row D cI (60) (a + 15) H ∧ an_row D cI (60) (a + 17) H ∧ an_book D cI (60) (a + 19) H
theorem an_scop_loc {D : va_G} {cI : ClassId} (a : Nat) (H H1 : Heap) (h : ∀ q, a ≤ q → q < a + 24 → H1[q]? = H[q]?) (j : an_scop D cI (a) H) : an_scop D cI (a) H1 := by
  obtain ⟨j0, j1, j2, j3, j4, j5, j6, j7, j8, j9, j10⟩ := j
  exact ⟨an_mv (h a (by omega) (by omega)) j0, an_row_loc (a + 1) H H1 (fun q q1 q2 => h q (by omega) (by omega)) j1, an_row_loc (a + 3) H H1 (fun q q1 q2 => h q (by omega) (by omega)) j2, an_row_loc (a + 5) H H1 (fun q q1 q2 => h q (by omega) (by omega)) j3, an_row_loc (a + 7) H H1 (fun q q1 q2 => h q (by omega) (by omega)) j4, an_row_loc (a + 9) H H1 (fun q q1 q2 => h q (by omega) (by omega)) j5, an_row_loc (a + 11) H H1 (fun q q1 q2 => h q (by omega) (by omega)) j6, an_row_loc (a + 13) H H1 (fun q q1 q2 => h q (by omega) (by omega)) j7, an_row_loc (a + 15) H H1 (fun q q1 q2 => h q (by omega) (by omega)) j8, an_row_loc (a + 17) H H1 (fun q q1 q2 => h q (by omega) (by omega)) j9, an_book_loc (a + 19) H H1 (fun q q1 q2 => h q (by omega) (by omega)) j10⟩
theorem c_X8_init (l : Launch) (D : va_G) (cI : ClassId) : an_Met l D cI yX8_init (Cond.code yX8_init cX8_init 1 none :: am_tb) { frames := 3, cells := 23, slots := 2053, locals := 120 } 8 [.int 0, .null, .null, .null, .null, .null, .null, .null, .null, .null, .null] [] (fun _ _ => True) 23 (2053) (an_scop D cI) := by
  intro a
  refine Met.ofW (cc := cX8_init) (maxL := 1) (ret := none) (by decide +kernel) rfl ?_
  intro p e s m args below meth c s₁ B hml hv
  obtain ⟨rfl, hat, hsz, hE, hK, hfI, hNw⟩ := hv
  have hF := (⟨B.exec, B.bytes, hml, findClass_of_methodNamed B.named, atoms_spec (ws := Cond.code yX8_init cX8_init 1 none :: am_tb) B.pre⟩ : CallFix p m c cX8_init 1 s _ (Cond.code yX8_init cX8_init 1 none :: am_tb) yX8_init.cls)
  have hts := hF.2.2.2.2
  have hin : meth.name = "<init>" := (name_of_methodNamed B.named B.method).1
  have hl := lv_entry ([.ref a]) (n := 1) (Nat.le_of_ble_eq_true rfl)
  rw [lg_entry_eq]
  generalize (lg_sl ([.ref a]) ++ List.replicate (1 - (lg_sl ([.ref a])).length) Slot.unset).toArray = ls at hl ⊢
  have hl : lv_has ls 1 [(0, .ref a)] := hl
  have J0 : an_J D s 8 a [.int 0, .null, .null, .null, .null, .null, .null, .null, .null, .null, .null] s.heap 0 [] := ⟨hat, rfl, fun _ h => absurd h List.not_mem_nil, by omega⟩
  have kp0 : an_kp a s.heap s.heap := an_kp.rf
  have x0 : an_tt s.heap := trivial
  have lo0 : an_lo a (a + 1) an_tt := fun _ _ _ h => h
  refine lv_aload_n hF.1 hF.2.1 dX8_init_0 rfl (hl.2.2 _ (.head _)) ?_
  refine W.objInit hF.1 hF.2.1 hF.2.2.2.1 (hts _ (List.mem_cons_of_mem _ uw_212)) (hts _ (List.mem_cons_of_mem _ uw_34)) (hts _ (List.mem_cons_of_mem _ uw_35)) rfl (hl.1.trans hF.2.2.1.symm) rfl dX8_init_1 (Nat.le_of_ble_eq_true rfl) (Nat.le_of_ble_eq_true rfl) ?_
  refine W.eq (g2 := F0 m 4 ls []) rfl ?_
  refine lv_aload_n hF.1 hF.2.1 dX8_init_4 rfl (hl.2.2 _ (.head _)) ?_
  refine an_new (cj := 6) (gs := [.null]) (C := RX6) (T := TX6) (N := 1) hF.1 hF.2.1 hts (fun w h => List.mem_cons_of_mem _ (iu_X6 w h)) tyX6 tyX6_ok hF.2.2.2.1 (hts _ (List.mem_cons_of_mem _ uw_213)) (hts _ (List.mem_cons_of_mem _ uw_66)) (hts _ (List.mem_cons_of_mem _ uw_6)) hK J0 rfl (by decide +kernel) (by show 1 ≤ 23; omega) (by show 0 + 1 ≤ (2053); omega) dX8_init_5 (fun H1 J1 g1 k1 => ?_)
  have z1 : s.heap.size = a + 1 := by have := J0.2.1; omega
  rw [z1] at g1 ⊢
  have x1 := lo0 _ _ (fun q q1 q2 => k1 q (by have := J0.2.1; omega) (by omega)) x0
  have kp1 : an_kp a s.heap H1 := kp0.tr k1 (by have := J0.2.1; omega)
  refine lv_dup hF.1 hF.2.1 dX8_init_8 rfl ?_
  refine lv_bipush (v := nI 60) hF.1 hF.2.1 dX8_init_9 (by decide) ?_
  refine an_call (mc := 1) (ms := ((60))) (a1 := a + 1) (n := 1) (va_runI (As := [.int (nI (60))]) hF (c_X6_init l D cI (60) (by omega) (a + 1)) (cwI 1 hF.2.2.2.2 (am_gi uw_69) rfl rfl rfl (hts _ (List.mem_cons_of_mem _ uw_6)) (hts _ (List.mem_cons_of_mem _ uw_214)) (hts _ (List.mem_cons_of_mem _ uw_68)) rfl (by decide +kernel) ⟨Nat.le_of_ble_eq_true rfl, Nat.le_of_ble_eq_true rfl⟩) ⟨an_blind (D := D) (a := a + 1) (ci := 6) (cI := cI) (dfs := [.null]) (ex := [.int (nI (60))]) (E := (fun _ _ => True)), fun U hU hW => ⟨rfl, by rw [hU]; exact g1, by rw [hU]; have := J1.2.1; omega, by rw [hU]; exact trivial, va_K.moved hW.alike hK, by rw [hW.alike.findClass]; exact hfI, hNw.warm hW⟩⟩ rfl rfl hl.1 rfl (Nat.le_of_ble_eq_true rfl) dX8_init_11 ⟨by show 2 ≤ 23; omega, by show 0 + 1 + ((60)) ≤ (2053); omega⟩) (by omega) J1 rfl (by have := J1.2.1; omega) (by omega) (fun H2 J2 f2_2 k2 => ?_)
  have x2 := lo0 _ _ (fun q q1 q2 => k2 q (by have := J1.2.1; omega) (by omega)) x1
  have kp2 : an_kp a s.heap H2 := fun q q1 q2 => (k2 q (by have := J1.2.1; omega) (by omega)).trans (kp1 q q1 q2)
  have lo2 := an_lo_c (P := fun H => an_row D cI (60) (a + 1) H) (b1 := a + 1 + 2) lo0 (an_row_loc (a + 1)) (by omega) (by omega) (by omega)
  have w2 : an_cj _ (fun H => an_row D cI (60) (a + 1) H) _ := And.intro x2 f2_2
  refine an_put (ty := tyX8 1) hF.1 hF.2.1 hts (fun w h => List.mem_cons_of_mem _ (iu_X8 w h)) tyX8 tyX8_ok nmX8 hF.2.2.2.1 hK J2 rfl 1 (by decide) (hts _ (List.mem_cons_of_mem _ uw_221)) (fun _ h => h) hin rfl (tyX8_ok 1 (by decide)) rfl rfl (Nat.le_of_ble_eq_true rfl) dX8_init_14 (fun H3 locs3 J3 k3 => ?_)
  have J3 : an_J D s 8 a [.int 0, .ref (a + 1), .null, .null, .null, .null, .null, .null, .null, .null, .null] H3 2 locs3 := J3
  have x3 := lo2 _ _ (fun q q1 q2 => k3 q (by have := J2.2.1; omega) (by omega)) w2
  have kp3 : an_kp a s.heap H3 := kp2.tr k3 (by have := J2.2.1; omega)
  clear k3 w2 kp2 x2 k2 f2_2 J2 kp1 x1 z1 k1 g1 J1
  refine lv_aload_n hF.1 hF.2.1 dX8_init_17 rfl (hl.2.2 _ (.head _)) ?_
  refine an_new (cj := 6) (gs := [.null]) (C := RX6) (T := TX6) (N := 1) hF.1 hF.2.1 hts (fun w h => List.mem_cons_of_mem _ (iu_X6 w h)) tyX6 tyX6_ok hF.2.2.2.1 (hts _ (List.mem_cons_of_mem _ uw_213)) (hts _ (List.mem_cons_of_mem _ uw_66)) (hts _ (List.mem_cons_of_mem _ uw_6)) hK J3 rfl (by decide +kernel) (by show 3 ≤ 23; omega) (by show 0 + 1 + (((60))) + 1 ≤ (2053); omega) dX8_init_18 (fun H4 J4 g4 k4 => ?_)
  have z4 : H3.size = a + 3 := by have := J3.2.1; omega
  rw [z4] at g4 ⊢
  have x4 := lo2 _ _ (fun q q1 q2 => k4 q (by have := J3.2.1; omega) (by omega)) x3
  have kp4 : an_kp a s.heap H4 := kp3.tr k4 (by have := J3.2.1; omega)
  refine lv_dup hF.1 hF.2.1 dX8_init_21 rfl ?_
  refine lv_bipush (v := nI 60) hF.1 hF.2.1 dX8_init_22 (by decide) ?_
  refine an_call (mc := 1) (ms := ((60))) (a1 := a + 3) (n := 1) (va_runI (As := [.int (nI (60))]) hF (c_X6_init l D cI (60) (by omega) (a + 3)) (cwI 1 hF.2.2.2.2 (am_gi uw_69) rfl rfl rfl (hts _ (List.mem_cons_of_mem _ uw_6)) (hts _ (List.mem_cons_of_mem _ uw_214)) (hts _ (List.mem_cons_of_mem _ uw_68)) rfl (by decide +kernel) ⟨Nat.le_of_ble_eq_true rfl, Nat.le_of_ble_eq_true rfl⟩) ⟨an_blind (D := D) (a := a + 3) (ci := 6) (cI := cI) (dfs := [.null]) (ex := [.int (nI (60))]) (E := (fun _ _ => True)), fun U hU hW => ⟨rfl, by rw [hU]; exact g4, by rw [hU]; have := J4.2.1; omega, by rw [hU]; exact trivial, va_K.moved hW.alike hK, by rw [hW.alike.findClass]; exact hfI, hNw.warm hW⟩⟩ rfl rfl hl.1 rfl (Nat.le_of_ble_eq_true rfl) dX8_init_24 ⟨by show 4 ≤ 23; omega, by show 0 + 1 + (((60))) + 1 + ((60)) ≤ (2053); omega⟩) (by omega) J4 rfl (by have := J4.2.1; omega) (by omega) (fun H5 J5 f5_5 k5 => ?_)
  have x5 := lo2 _ _ (fun q q1 q2 => k5 q (by have := J4.2.1; omega) (by omega)) x4
  have kp5 : an_kp a s.heap H5 := fun q q1 q2 => (k5 q (by have := J4.2.1; omega) (by omega)).trans (kp4 q q1 q2)
  have lo5 := an_lo_c (P := fun H => an_row D cI (60) (a + 3) H) (b1 := a + 3 + 2) lo2 (an_row_loc (a + 3)) (by omega) (by omega) (by omega)
  have w5 : an_cj _ (fun H => an_row D cI (60) (a + 3) H) _ := And.intro x5 f5_5
  refine an_put (ty := tyX8 2) hF.1 hF.2.1 hts (fun w h => List.mem_cons_of_mem _ (iu_X8 w h)) tyX8 tyX8_ok nmX8 hF.2.2.2.1 hK J5 rfl 2 (by decide) (hts _ (List.mem_cons_of_mem _ uw_224)) (fun _ h => h) hin rfl (tyX8_ok 2 (by decide)) rfl rfl (Nat.le_of_ble_eq_true rfl) dX8_init_27 (fun H6 locs6 J6 k6 => ?_)
  have J6 : an_J D s 8 a [.int 0, .ref (a + 1), .ref (a + 3), .null, .null, .null, .null, .null, .null, .null, .null] H6 4 locs6 := J6
  have x6 := lo5 _ _ (fun q q1 q2 => k6 q (by have := J5.2.1; omega) (by omega)) w5
  have kp6 : an_kp a s.heap H6 := kp5.tr k6 (by have := J5.2.1; omega)
  clear k6 w5 kp5 x5 k5 f5_5 J5 kp4 x4 z4 k4 g4 J4 kp3 x3 J3 lo2
  refine lv_aload_n hF.1 hF.2.1 dX8_init_30 rfl (hl.2.2 _ (.head _)) ?_
  refine an_new (cj := 6) (gs := [.null]) (C := RX6) (T := TX6) (N := 1) hF.1 hF.2.1 hts (fun w h => List.mem_cons_of_mem _ (iu_X6 w h)) tyX6 tyX6_ok hF.2.2.2.1 (hts _ (List.mem_cons_of_mem _ uw_213)) (hts _ (List.mem_cons_of_mem _ uw_66)) (hts _ (List.mem_cons_of_mem _ uw_6)) hK J6 rfl (by decide +kernel) (by show 5 ≤ 23; omega) (by show 0 + 1 + (((60))) + 1 + (((60))) + 1 ≤ (2053); omega) dX8_init_31 (fun H7 J7 g7 k7 => ?_)
  have z7 : H6.size = a + 5 := by have := J6.2.1; omega
  rw [z7] at g7 ⊢
  have x7 := lo5 _ _ (fun q q1 q2 => k7 q (by have := J6.2.1; omega) (by omega)) x6
  have kp7 : an_kp a s.heap H7 := kp6.tr k7 (by have := J6.2.1; omega)
  refine lv_dup hF.1 hF.2.1 dX8_init_34 rfl ?_
  refine lv_bipush (v := nI 60) hF.1 hF.2.1 dX8_init_35 (by decide) ?_
  refine an_call (mc := 1) (ms := ((60))) (a1 := a + 5) (n := 1) (va_runI (As := [.int (nI (60))]) hF (c_X6_init l D cI (60) (by omega) (a + 5)) (cwI 1 hF.2.2.2.2 (am_gi uw_69) rfl rfl rfl (hts _ (List.mem_cons_of_mem _ uw_6)) (hts _ (List.mem_cons_of_mem _ uw_214)) (hts _ (List.mem_cons_of_mem _ uw_68)) rfl (by decide +kernel) ⟨Nat.le_of_ble_eq_true rfl, Nat.le_of_ble_eq_true rfl⟩) ⟨an_blind (D := D) (a := a + 5) (ci := 6) (cI := cI) (dfs := [.null]) (ex := [.int (nI (60))]) (E := (fun _ _ => True)), fun U hU hW => ⟨rfl, by rw [hU]; exact g7, by rw [hU]; have := J7.2.1; omega, by rw [hU]; exact trivial, va_K.moved hW.alike hK, by rw [hW.alike.findClass]; exact hfI, hNw.warm hW⟩⟩ rfl rfl hl.1 rfl (Nat.le_of_ble_eq_true rfl) dX8_init_37 ⟨by show 6 ≤ 23; omega, by show 0 + 1 + (((60))) + 1 + (((60))) + 1 + ((60)) ≤ (2053); omega⟩) (by omega) J7 rfl (by have := J7.2.1; omega) (by omega) (fun H8 J8 f8_8 k8 => ?_)
  have x8 := lo5 _ _ (fun q q1 q2 => k8 q (by have := J7.2.1; omega) (by omega)) x7
  have kp8 : an_kp a s.heap H8 := fun q q1 q2 => (k8 q (by have := J7.2.1; omega) (by omega)).trans (kp7 q q1 q2)
  have lo8 := an_lo_c (P := fun H => an_row D cI (60) (a + 5) H) (b1 := a + 5 + 2) lo5 (an_row_loc (a + 5)) (by omega) (by omega) (by omega)
  have w8 : an_cj _ (fun H => an_row D cI (60) (a + 5) H) _ := And.intro x8 f8_8
  refine an_put (ty := tyX8 3) hF.1 hF.2.1 hts (fun w h => List.mem_cons_of_mem _ (iu_X8 w h)) tyX8 tyX8_ok nmX8 hF.2.2.2.1 hK J8 rfl 3 (by decide) (hts _ (List.mem_cons_of_mem _ uw_226)) (fun _ h => h) hin rfl (tyX8_ok 3 (by decide)) rfl rfl (Nat.le_of_ble_eq_true rfl) dX8_init_40 (fun H9 locs9 J9 k9 => ?_)
  have J9 : an_J D s 8 a [.int 0, .ref (a + 1), .ref (a + 3), .ref (a + 5), .null, .null, .null, .null, .null, .null, .null] H9 6 locs9 := J9
  have x9 := lo8 _ _ (fun q q1 q2 => k9 q (by have := J8.2.1; omega) (by omega)) w8
  have kp9 : an_kp a s.heap H9 := kp8.tr k9 (by have := J8.2.1; omega)
  clear k9 w8 kp8 x8 k8 f8_8 J8 kp7 x7 z7 k7 g7 J7 kp6 x6 J6 lo5
  refine lv_aload_n hF.1 hF.2.1 dX8_init_43 rfl (hl.2.2 _ (.head _)) ?_
  refine an_new (cj := 6) (gs := [.null]) (C := RX6) (T := TX6) (N := 1) hF.1 hF.2.1 hts (fun w h => List.mem_cons_of_mem _ (iu_X6 w h)) tyX6 tyX6_ok hF.2.2.2.1 (hts _ (List.mem_cons_of_mem _ uw_213)) (hts _ (List.mem_cons_of_mem _ uw_66)) (hts _ (List.mem_cons_of_mem _ uw_6)) hK J9 rfl (by decide +kernel) (by show 7 ≤ 23; omega) (by show 0 + 1 + (((60))) + 1 + (((60))) + 1 + (((60))) + 1 ≤ (2053); omega) dX8_init_44 (fun H10 J10 g10 k10 => ?_)
  have z10 : H9.size = a + 7 := by have := J9.2.1; omega
  rw [z10] at g10 ⊢
  have x10 := lo8 _ _ (fun q q1 q2 => k10 q (by have := J9.2.1; omega) (by omega)) x9
  have kp10 : an_kp a s.heap H10 := kp9.tr k10 (by have := J9.2.1; omega)
  refine lv_dup hF.1 hF.2.1 dX8_init_47 rfl ?_
  refine lv_bipush (v := nI 60) hF.1 hF.2.1 dX8_init_48 (by decide) ?_
  refine an_call (mc := 1) (ms := ((60))) (a1 := a + 7) (n := 1) (va_runI (As := [.int (nI (60))]) hF (c_X6_init l D cI (60) (by omega) (a + 7)) (cwI 1 hF.2.2.2.2 (am_gi uw_69) rfl rfl rfl (hts _ (List.mem_cons_of_mem _ uw_6)) (hts _ (List.mem_cons_of_mem _ uw_214)) (hts _ (List.mem_cons_of_mem _ uw_68)) rfl (by decide +kernel) ⟨Nat.le_of_ble_eq_true rfl, Nat.le_of_ble_eq_true rfl⟩) ⟨an_blind (D := D) (a := a + 7) (ci := 6) (cI := cI) (dfs := [.null]) (ex := [.int (nI (60))]) (E := (fun _ _ => True)), fun U hU hW => ⟨rfl, by rw [hU]; exact g10, by rw [hU]; have := J10.2.1; omega, by rw [hU]; exact trivial, va_K.moved hW.alike hK, by rw [hW.alike.findClass]; exact hfI, hNw.warm hW⟩⟩ rfl rfl hl.1 rfl (Nat.le_of_ble_eq_true rfl) dX8_init_50 ⟨by show 8 ≤ 23; omega, by show 0 + 1 + (((60))) + 1 + (((60))) + 1 + (((60))) + 1 + ((60)) ≤ (2053); omega⟩) (by omega) J10 rfl (by have := J10.2.1; omega) (by omega) (fun H11 J11 f11_11 k11 => ?_)
  have x11 := lo8 _ _ (fun q q1 q2 => k11 q (by have := J10.2.1; omega) (by omega)) x10
  have kp11 : an_kp a s.heap H11 := fun q q1 q2 => (k11 q (by have := J10.2.1; omega) (by omega)).trans (kp10 q q1 q2)
  have lo11 := an_lo_c (P := fun H => an_row D cI (60) (a + 7) H) (b1 := a + 7 + 2) lo8 (an_row_loc (a + 7)) (by omega) (by omega) (by omega)
  have w11 : an_cj _ (fun H => an_row D cI (60) (a + 7) H) _ := And.intro x11 f11_11
  refine an_put (ty := tyX8 4) hF.1 hF.2.1 hts (fun w h => List.mem_cons_of_mem _ (iu_X8 w h)) tyX8 tyX8_ok nmX8 hF.2.2.2.1 hK J11 rfl 4 (by decide) (hts _ (List.mem_cons_of_mem _ uw_228)) (fun _ h => h) hin rfl (tyX8_ok 4 (by decide)) rfl rfl (Nat.le_of_ble_eq_true rfl) dX8_init_53 (fun H12 locs12 J12 k12 => ?_)
  have J12 : an_J D s 8 a [.int 0, .ref (a + 1), .ref (a + 3), .ref (a + 5), .ref (a + 7), .null, .null, .null, .null, .null, .null] H12 8 locs12 := J12
  have x12 := lo11 _ _ (fun q q1 q2 => k12 q (by have := J11.2.1; omega) (by omega)) w11
  have kp12 : an_kp a s.heap H12 := kp11.tr k12 (by have := J11.2.1; omega)
  clear k12 w11 kp11 x11 k11 f11_11 J11 kp10 x10 z10 k10 g10 J10 kp9 x9 J9 lo8
  refine lv_aload_n hF.1 hF.2.1 dX8_init_56 rfl (hl.2.2 _ (.head _)) ?_
  refine an_new (cj := 6) (gs := [.null]) (C := RX6) (T := TX6) (N := 1) hF.1 hF.2.1 hts (fun w h => List.mem_cons_of_mem _ (iu_X6 w h)) tyX6 tyX6_ok hF.2.2.2.1 (hts _ (List.mem_cons_of_mem _ uw_213)) (hts _ (List.mem_cons_of_mem _ uw_66)) (hts _ (List.mem_cons_of_mem _ uw_6)) hK J12 rfl (by decide +kernel) (by show 9 ≤ 23; omega) (by show 0 + 1 + (((60))) + 1 + (((60))) + 1 + (((60))) + 1 + (((60))) + 1 ≤ (2053); omega) dX8_init_57 (fun H13 J13 g13 k13 => ?_)
  have z13 : H12.size = a + 9 := by have := J12.2.1; omega
  rw [z13] at g13 ⊢
  have x13 := lo11 _ _ (fun q q1 q2 => k13 q (by have := J12.2.1; omega) (by omega)) x12
  have kp13 : an_kp a s.heap H13 := kp12.tr k13 (by have := J12.2.1; omega)
  refine lv_dup hF.1 hF.2.1 dX8_init_60 rfl ?_
  refine lv_bipush (v := nI 60) hF.1 hF.2.1 dX8_init_61 (by decide) ?_
  refine an_call (mc := 1) (ms := ((60))) (a1 := a + 9) (n := 1) (va_runI (As := [.int (nI (60))]) hF (c_X6_init l D cI (60) (by omega) (a + 9)) (cwI 1 hF.2.2.2.2 (am_gi uw_69) rfl rfl rfl (hts _ (List.mem_cons_of_mem _ uw_6)) (hts _ (List.mem_cons_of_mem _ uw_214)) (hts _ (List.mem_cons_of_mem _ uw_68)) rfl (by decide +kernel) ⟨Nat.le_of_ble_eq_true rfl, Nat.le_of_ble_eq_true rfl⟩) ⟨an_blind (D := D) (a := a + 9) (ci := 6) (cI := cI) (dfs := [.null]) (ex := [.int (nI (60))]) (E := (fun _ _ => True)), fun U hU hW => ⟨rfl, by rw [hU]; exact g13, by rw [hU]; have := J13.2.1; omega, by rw [hU]; exact trivial, va_K.moved hW.alike hK, by rw [hW.alike.findClass]; exact hfI, hNw.warm hW⟩⟩ rfl rfl hl.1 rfl (Nat.le_of_ble_eq_true rfl) dX8_init_63 ⟨by show 10 ≤ 23; omega, by show 0 + 1 + (((60))) + 1 + (((60))) + 1 + (((60))) + 1 + (((60))) + 1 + ((60)) ≤ (2053); omega⟩) (by omega) J13 rfl (by have := J13.2.1; omega) (by omega) (fun H14 J14 f14_14 k14 => ?_)
  have x14 := lo11 _ _ (fun q q1 q2 => k14 q (by have := J13.2.1; omega) (by omega)) x13
  have kp14 : an_kp a s.heap H14 := fun q q1 q2 => (k14 q (by have := J13.2.1; omega) (by omega)).trans (kp13 q q1 q2)
  have lo14 := an_lo_c (P := fun H => an_row D cI (60) (a + 9) H) (b1 := a + 9 + 2) lo11 (an_row_loc (a + 9)) (by omega) (by omega) (by omega)
  have w14 : an_cj _ (fun H => an_row D cI (60) (a + 9) H) _ := And.intro x14 f14_14
  refine an_put (ty := tyX8 5) hF.1 hF.2.1 hts (fun w h => List.mem_cons_of_mem _ (iu_X8 w h)) tyX8 tyX8_ok nmX8 hF.2.2.2.1 hK J14 rfl 5 (by decide) (hts _ (List.mem_cons_of_mem _ uw_230)) (fun _ h => h) hin rfl (tyX8_ok 5 (by decide)) rfl rfl (Nat.le_of_ble_eq_true rfl) dX8_init_66 (fun H15 locs15 J15 k15 => ?_)
  have J15 : an_J D s 8 a [.int 0, .ref (a + 1), .ref (a + 3), .ref (a + 5), .ref (a + 7), .ref (a + 9), .null, .null, .null, .null, .null] H15 10 locs15 := J15
  have x15 := lo14 _ _ (fun q q1 q2 => k15 q (by have := J14.2.1; omega) (by omega)) w14
  have kp15 : an_kp a s.heap H15 := kp14.tr k15 (by have := J14.2.1; omega)
  clear k15 w14 kp14 x14 k14 f14_14 J14 kp13 x13 z13 k13 g13 J13 kp12 x12 J12 lo11
  refine lv_aload_n hF.1 hF.2.1 dX8_init_69 rfl (hl.2.2 _ (.head _)) ?_
  refine an_new (cj := 6) (gs := [.null]) (C := RX6) (T := TX6) (N := 1) hF.1 hF.2.1 hts (fun w h => List.mem_cons_of_mem _ (iu_X6 w h)) tyX6 tyX6_ok hF.2.2.2.1 (hts _ (List.mem_cons_of_mem _ uw_213)) (hts _ (List.mem_cons_of_mem _ uw_66)) (hts _ (List.mem_cons_of_mem _ uw_6)) hK J15 rfl (by decide +kernel) (by show 11 ≤ 23; omega) (by show 0 + 1 + (((60))) + 1 + (((60))) + 1 + (((60))) + 1 + (((60))) + 1 + (((60))) + 1 ≤ (2053); omega) dX8_init_70 (fun H16 J16 g16 k16 => ?_)
  have z16 : H15.size = a + 11 := by have := J15.2.1; omega
  rw [z16] at g16 ⊢
  have x16 := lo14 _ _ (fun q q1 q2 => k16 q (by have := J15.2.1; omega) (by omega)) x15
  have kp16 : an_kp a s.heap H16 := kp15.tr k16 (by have := J15.2.1; omega)
  refine lv_dup hF.1 hF.2.1 dX8_init_73 rfl ?_
  refine lv_bipush (v := nI 60) hF.1 hF.2.1 dX8_init_74 (by decide) ?_
  refine an_call (mc := 1) (ms := ((60))) (a1 := a + 11) (n := 1) (va_runI (As := [.int (nI (60))]) hF (c_X6_init l D cI (60) (by omega) (a + 11)) (cwI 1 hF.2.2.2.2 (am_gi uw_69) rfl rfl rfl (hts _ (List.mem_cons_of_mem _ uw_6)) (hts _ (List.mem_cons_of_mem _ uw_214)) (hts _ (List.mem_cons_of_mem _ uw_68)) rfl (by decide +kernel) ⟨Nat.le_of_ble_eq_true rfl, Nat.le_of_ble_eq_true rfl⟩) ⟨an_blind (D := D) (a := a + 11) (ci := 6) (cI := cI) (dfs := [.null]) (ex := [.int (nI (60))]) (E := (fun _ _ => True)), fun U hU hW => ⟨rfl, by rw [hU]; exact g16, by rw [hU]; have := J16.2.1; omega, by rw [hU]; exact trivial, va_K.moved hW.alike hK, by rw [hW.alike.findClass]; exact hfI, hNw.warm hW⟩⟩ rfl rfl hl.1 rfl (Nat.le_of_ble_eq_true rfl) dX8_init_76 ⟨by show 12 ≤ 23; omega, by show 0 + 1 + (((60))) + 1 + (((60))) + 1 + (((60))) + 1 + (((60))) + 1 + (((60))) + 1 + ((60)) ≤ (2053); omega⟩) (by omega) J16 rfl (by have := J16.2.1; omega) (by omega) (fun H17 J17 f17_17 k17 => ?_)
  have x17 := lo14 _ _ (fun q q1 q2 => k17 q (by have := J16.2.1; omega) (by omega)) x16
  have kp17 : an_kp a s.heap H17 := fun q q1 q2 => (k17 q (by have := J16.2.1; omega) (by omega)).trans (kp16 q q1 q2)
  have lo17 := an_lo_c (P := fun H => an_row D cI (60) (a + 11) H) (b1 := a + 11 + 2) lo14 (an_row_loc (a + 11)) (by omega) (by omega) (by omega)
  have w17 : an_cj _ (fun H => an_row D cI (60) (a + 11) H) _ := And.intro x17 f17_17
  refine an_put (ty := tyX8 6) hF.1 hF.2.1 hts (fun w h => List.mem_cons_of_mem _ (iu_X8 w h)) tyX8 tyX8_ok nmX8 hF.2.2.2.1 hK J17 rfl 6 (by decide) (hts _ (List.mem_cons_of_mem _ uw_232)) (fun _ h => h) hin rfl (tyX8_ok 6 (by decide)) rfl rfl (Nat.le_of_ble_eq_true rfl) dX8_init_79 (fun H18 locs18 J18 k18 => ?_)
  have J18 : an_J D s 8 a [.int 0, .ref (a + 1), .ref (a + 3), .ref (a + 5), .ref (a + 7), .ref (a + 9), .ref (a + 11), .null, .null, .null, .null] H18 12 locs18 := J18
  have x18 := lo17 _ _ (fun q q1 q2 => k18 q (by have := J17.2.1; omega) (by omega)) w17
  have kp18 : an_kp a s.heap H18 := kp17.tr k18 (by have := J17.2.1; omega)
  clear k18 w17 kp17 x17 k17 f17_17 J17 kp16 x16 z16 k16 g16 J16 kp15 x15 J15 lo14
  refine lv_aload_n hF.1 hF.2.1 dX8_init_82 rfl (hl.2.2 _ (.head _)) ?_
  refine an_new (cj := 6) (gs := [.null]) (C := RX6) (T := TX6) (N := 1) hF.1 hF.2.1 hts (fun w h => List.mem_cons_of_mem _ (iu_X6 w h)) tyX6 tyX6_ok hF.2.2.2.1 (hts _ (List.mem_cons_of_mem _ uw_213)) (hts _ (List.mem_cons_of_mem _ uw_66)) (hts _ (List.mem_cons_of_mem _ uw_6)) hK J18 rfl (by decide +kernel) (by show 13 ≤ 23; omega) (by show 0 + 1 + (((60))) + 1 + (((60))) + 1 + (((60))) + 1 + (((60))) + 1 + (((60))) + 1 + (((60))) + 1 ≤ (2053); omega) dX8_init_83 (fun H19 J19 g19 k19 => ?_)
  have z19 : H18.size = a + 13 := by have := J18.2.1; omega
  rw [z19] at g19 ⊢
  have x19 := lo17 _ _ (fun q q1 q2 => k19 q (by have := J18.2.1; omega) (by omega)) x18
  have kp19 : an_kp a s.heap H19 := kp18.tr k19 (by have := J18.2.1; omega)
  refine lv_dup hF.1 hF.2.1 dX8_init_86 rfl ?_
  refine lv_bipush (v := nI 60) hF.1 hF.2.1 dX8_init_87 (by decide) ?_
  refine an_call (mc := 1) (ms := ((60))) (a1 := a + 13) (n := 1) (va_runI (As := [.int (nI (60))]) hF (c_X6_init l D cI (60) (by omega) (a + 13)) (cwI 1 hF.2.2.2.2 (am_gi uw_69) rfl rfl rfl (hts _ (List.mem_cons_of_mem _ uw_6)) (hts _ (List.mem_cons_of_mem _ uw_214)) (hts _ (List.mem_cons_of_mem _ uw_68)) rfl (by decide +kernel) ⟨Nat.le_of_ble_eq_true rfl, Nat.le_of_ble_eq_true rfl⟩) ⟨an_blind (D := D) (a := a + 13) (ci := 6) (cI := cI) (dfs := [.null]) (ex := [.int (nI (60))]) (E := (fun _ _ => True)), fun U hU hW => ⟨rfl, by rw [hU]; exact g19, by rw [hU]; have := J19.2.1; omega, by rw [hU]; exact trivial, va_K.moved hW.alike hK, by rw [hW.alike.findClass]; exact hfI, hNw.warm hW⟩⟩ rfl rfl hl.1 rfl (Nat.le_of_ble_eq_true rfl) dX8_init_89 ⟨by show 14 ≤ 23; omega, by show 0 + 1 + (((60))) + 1 + (((60))) + 1 + (((60))) + 1 + (((60))) + 1 + (((60))) + 1 + (((60))) + 1 + ((60)) ≤ (2053); omega⟩) (by omega) J19 rfl (by have := J19.2.1; omega) (by omega) (fun H20 J20 f20_20 k20 => ?_)
  have x20 := lo17 _ _ (fun q q1 q2 => k20 q (by have := J19.2.1; omega) (by omega)) x19
  have kp20 : an_kp a s.heap H20 := fun q q1 q2 => (k20 q (by have := J19.2.1; omega) (by omega)).trans (kp19 q q1 q2)
  have lo20 := an_lo_c (P := fun H => an_row D cI (60) (a + 13) H) (b1 := a + 13 + 2) lo17 (an_row_loc (a + 13)) (by omega) (by omega) (by omega)
  have w20 : an_cj _ (fun H => an_row D cI (60) (a + 13) H) _ := And.intro x20 f20_20
  refine an_put (ty := tyX8 7) hF.1 hF.2.1 hts (fun w h => List.mem_cons_of_mem _ (iu_X8 w h)) tyX8 tyX8_ok nmX8 hF.2.2.2.1 hK J20 rfl 7 (by decide) (hts _ (List.mem_cons_of_mem _ uw_233)) (fun _ h => h) hin rfl (tyX8_ok 7 (by decide)) rfl rfl (Nat.le_of_ble_eq_true rfl) dX8_init_92 (fun H21 locs21 J21 k21 => ?_)
  have J21 : an_J D s 8 a [.int 0, .ref (a + 1), .ref (a + 3), .ref (a + 5), .ref (a + 7), .ref (a + 9), .ref (a + 11), .ref (a + 13), .null, .null, .null] H21 14 locs21 := J21
  have x21 := lo20 _ _ (fun q q1 q2 => k21 q (by have := J20.2.1; omega) (by omega)) w20
  have kp21 : an_kp a s.heap H21 := kp20.tr k21 (by have := J20.2.1; omega)
  clear k21 w20 kp20 x20 k20 f20_20 J20 kp19 x19 z19 k19 g19 J19 kp18 x18 J18 lo17
  refine lv_aload_n hF.1 hF.2.1 dX8_init_95 rfl (hl.2.2 _ (.head _)) ?_
  refine an_new (cj := 6) (gs := [.null]) (C := RX6) (T := TX6) (N := 1) hF.1 hF.2.1 hts (fun w h => List.mem_cons_of_mem _ (iu_X6 w h)) tyX6 tyX6_ok hF.2.2.2.1 (hts _ (List.mem_cons_of_mem _ uw_213)) (hts _ (List.mem_cons_of_mem _ uw_66)) (hts _ (List.mem_cons_of_mem _ uw_6)) hK J21 rfl (by decide +kernel) (by show 15 ≤ 23; omega) (by show 0 + 1 + (((60))) + 1 + (((60))) + 1 + (((60))) + 1 + (((60))) + 1 + (((60))) + 1 + (((60))) + 1 + (((60))) + 1 ≤ (2053); omega) dX8_init_96 (fun H22 J22 g22 k22 => ?_)
  have z22 : H21.size = a + 15 := by have := J21.2.1; omega
  rw [z22] at g22 ⊢
  have x22 := lo20 _ _ (fun q q1 q2 => k22 q (by have := J21.2.1; omega) (by omega)) x21
  have kp22 : an_kp a s.heap H22 := kp21.tr k22 (by have := J21.2.1; omega)
  refine lv_dup hF.1 hF.2.1 dX8_init_99 rfl ?_
  refine lv_bipush (v := nI 60) hF.1 hF.2.1 dX8_init_100 (by decide) ?_
  refine an_call (mc := 1) (ms := ((60))) (a1 := a + 15) (n := 1) (va_runI (As := [.int (nI (60))]) hF (c_X6_init l D cI (60) (by omega) (a + 15)) (cwI 1 hF.2.2.2.2 (am_gi uw_69) rfl rfl rfl (hts _ (List.mem_cons_of_mem _ uw_6)) (hts _ (List.mem_cons_of_mem _ uw_214)) (hts _ (List.mem_cons_of_mem _ uw_68)) rfl (by decide +kernel) ⟨Nat.le_of_ble_eq_true rfl, Nat.le_of_ble_eq_true rfl⟩) ⟨an_blind (D := D) (a := a + 15) (ci := 6) (cI := cI) (dfs := [.null]) (ex := [.int (nI (60))]) (E := (fun _ _ => True)), fun U hU hW => ⟨rfl, by rw [hU]; exact g22, by rw [hU]; have := J22.2.1; omega, by rw [hU]; exact trivial, va_K.moved hW.alike hK, by rw [hW.alike.findClass]; exact hfI, hNw.warm hW⟩⟩ rfl rfl hl.1 rfl (Nat.le_of_ble_eq_true rfl) dX8_init_102 ⟨by show 16 ≤ 23; omega, by show 0 + 1 + (((60))) + 1 + (((60))) + 1 + (((60))) + 1 + (((60))) + 1 + (((60))) + 1 + (((60))) + 1 + (((60))) + 1 + ((60)) ≤ (2053); omega⟩) (by omega) J22 rfl (by have := J22.2.1; omega) (by omega) (fun H23 J23 f23_23 k23 => ?_)
  have x23 := lo20 _ _ (fun q q1 q2 => k23 q (by have := J22.2.1; omega) (by omega)) x22
  have kp23 : an_kp a s.heap H23 := fun q q1 q2 => (k23 q (by have := J22.2.1; omega) (by omega)).trans (kp22 q q1 q2)
  have lo23 := an_lo_c (P := fun H => an_row D cI (60) (a + 15) H) (b1 := a + 15 + 2) lo20 (an_row_loc (a + 15)) (by omega) (by omega) (by omega)
  have w23 : an_cj _ (fun H => an_row D cI (60) (a + 15) H) _ := And.intro x23 f23_23
  refine an_put (ty := tyX8 8) hF.1 hF.2.1 hts (fun w h => List.mem_cons_of_mem _ (iu_X8 w h)) tyX8 tyX8_ok nmX8 hF.2.2.2.1 hK J23 rfl 8 (by decide) (hts _ (List.mem_cons_of_mem _ uw_235)) (fun _ h => h) hin rfl (tyX8_ok 8 (by decide)) rfl rfl (Nat.le_of_ble_eq_true rfl) dX8_init_105 (fun H24 locs24 J24 k24 => ?_)
  have J24 : an_J D s 8 a [.int 0, .ref (a + 1), .ref (a + 3), .ref (a + 5), .ref (a + 7), .ref (a + 9), .ref (a + 11), .ref (a + 13), .ref (a + 15), .null, .null] H24 16 locs24 := J24
  have x24 := lo23 _ _ (fun q q1 q2 => k24 q (by have := J23.2.1; omega) (by omega)) w23
  have kp24 : an_kp a s.heap H24 := kp23.tr k24 (by have := J23.2.1; omega)
  clear k24 w23 kp23 x23 k23 f23_23 J23 kp22 x22 z22 k22 g22 J22 kp21 x21 J21 lo20
  refine lv_aload_n hF.1 hF.2.1 dX8_init_108 rfl (hl.2.2 _ (.head _)) ?_
  refine an_new (cj := 6) (gs := [.null]) (C := RX6) (T := TX6) (N := 1) hF.1 hF.2.1 hts (fun w h => List.mem_cons_of_mem _ (iu_X6 w h)) tyX6 tyX6_ok hF.2.2.2.1 (hts _ (List.mem_cons_of_mem _ uw_213)) (hts _ (List.mem_cons_of_mem _ uw_66)) (hts _ (List.mem_cons_of_mem _ uw_6)) hK J24 rfl (by decide +kernel) (by show 17 ≤ 23; omega) (by show 0 + 1 + (((60))) + 1 + (((60))) + 1 + (((60))) + 1 + (((60))) + 1 + (((60))) + 1 + (((60))) + 1 + (((60))) + 1 + (((60))) + 1 ≤ (2053); omega) dX8_init_109 (fun H25 J25 g25 k25 => ?_)
  have z25 : H24.size = a + 17 := by have := J24.2.1; omega
  rw [z25] at g25 ⊢
  have x25 := lo23 _ _ (fun q q1 q2 => k25 q (by have := J24.2.1; omega) (by omega)) x24
  have kp25 : an_kp a s.heap H25 := kp24.tr k25 (by have := J24.2.1; omega)
  refine lv_dup hF.1 hF.2.1 dX8_init_112 rfl ?_
  refine lv_bipush (v := nI 60) hF.1 hF.2.1 dX8_init_113 (by decide) ?_
  refine an_call (mc := 1) (ms := ((60))) (a1 := a + 17) (n := 1) (va_runI (As := [.int (nI (60))]) hF (c_X6_init l D cI (60) (by omega) (a + 17)) (cwI 1 hF.2.2.2.2 (am_gi uw_69) rfl rfl rfl (hts _ (List.mem_cons_of_mem _ uw_6)) (hts _ (List.mem_cons_of_mem _ uw_214)) (hts _ (List.mem_cons_of_mem _ uw_68)) rfl (by decide +kernel) ⟨Nat.le_of_ble_eq_true rfl, Nat.le_of_ble_eq_true rfl⟩) ⟨an_blind (D := D) (a := a + 17) (ci := 6) (cI := cI) (dfs := [.null]) (ex := [.int (nI (60))]) (E := (fun _ _ => True)), fun U hU hW => ⟨rfl, by rw [hU]; exact g25, by rw [hU]; have := J25.2.1; omega, by rw [hU]; exact trivial, va_K.moved hW.alike hK, by rw [hW.alike.findClass]; exact hfI, hNw.warm hW⟩⟩ rfl rfl hl.1 rfl (Nat.le_of_ble_eq_true rfl) dX8_init_115 ⟨by show 18 ≤ 23; omega, by show 0 + 1 + (((60))) + 1 + (((60))) + 1 + (((60))) + 1 + (((60))) + 1 + (((60))) + 1 + (((60))) + 1 + (((60))) + 1 + (((60))) + 1 + ((60)) ≤ (2053); omega⟩) (by omega) J25 rfl (by have := J25.2.1; omega) (by omega) (fun H26 J26 f26_26 k26 => ?_)
  have x26 := lo23 _ _ (fun q q1 q2 => k26 q (by have := J25.2.1; omega) (by omega)) x25
  have kp26 : an_kp a s.heap H26 := fun q q1 q2 => (k26 q (by have := J25.2.1; omega) (by omega)).trans (kp25 q q1 q2)
  have lo26 := an_lo_c (P := fun H => an_row D cI (60) (a + 17) H) (b1 := a + 17 + 2) lo23 (an_row_loc (a + 17)) (by omega) (by omega) (by omega)
  have w26 : an_cj _ (fun H => an_row D cI (60) (a + 17) H) _ := And.intro x26 f26_26
  refine an_put (ty := tyX8 9) hF.1 hF.2.1 hts (fun w h => List.mem_cons_of_mem _ (iu_X8 w h)) tyX8 tyX8_ok nmX8 hF.2.2.2.1 hK J26 rfl 9 (by decide) (hts _ (List.mem_cons_of_mem _ uw_237)) (fun _ h => h) hin rfl (tyX8_ok 9 (by decide)) rfl rfl (Nat.le_of_ble_eq_true rfl) dX8_init_118 (fun H27 locs27 J27 k27 => ?_)
  have J27 : an_J D s 8 a [.int 0, .ref (a + 1), .ref (a + 3), .ref (a + 5), .ref (a + 7), .ref (a + 9), .ref (a + 11), .ref (a + 13), .ref (a + 15), .ref (a + 17), .null] H27 18 locs27 := J27
  have x27 := lo26 _ _ (fun q q1 q2 => k27 q (by have := J26.2.1; omega) (by omega)) w26
  have kp27 : an_kp a s.heap H27 := kp26.tr k27 (by have := J26.2.1; omega)
  clear k27 w26 kp26 x26 k26 f26_26 J26 kp25 x25 z25 k25 g25 J25 kp24 x24 J24 lo23
  refine lv_aload_n hF.1 hF.2.1 dX8_init_121 rfl (hl.2.2 _ (.head _)) ?_
  refine an_new (cj := 0) (gs := [.null, .null]) (C := RX0) (T := TX0) (N := 2) hF.1 hF.2.1 hts (fun w h => List.mem_cons_of_mem _ (iu_X0 w h)) tyX0 tyX0_ok hF.2.2.2.1 (hts _ (List.mem_cons_of_mem _ uw_215)) (hts _ (List.mem_cons_of_mem _ uw_60)) (hts _ (List.mem_cons_of_mem _ uw_5)) hK J27 rfl (by decide +kernel) (by show 19 ≤ 23; omega) (by show 0 + 1 + (((60))) + 1 + (((60))) + 1 + (((60))) + 1 + (((60))) + 1 + (((60))) + 1 + (((60))) + 1 + (((60))) + 1 + (((60))) + 1 + (((60))) + 2 ≤ (2053); omega) dX8_init_122 (fun H28 J28 g28 k28 => ?_)
  have z28 : H27.size = a + 19 := by have := J27.2.1; omega
  rw [z28] at g28 ⊢
  have x28 := lo26 _ _ (fun q q1 q2 => k28 q (by have := J27.2.1; omega) (by omega)) x27
  have kp28 : an_kp a s.heap H28 := kp27.tr k28 (by have := J27.2.1; omega)
  refine lv_dup hF.1 hF.2.1 dX8_init_125 rfl ?_
  refine lv_bipush (v := nI 60) hF.1 hF.2.1 dX8_init_126 (by decide) ?_
  refine an_call (mc := 4) (ms := 1 + ((((60)))) + 1 + ((((60) * 24)))) (a1 := a + 19) (n := 4) (va_runI (As := [.int (nI (60))]) hF (c_X0_init l D cI (60) (by omega) (a + 19)) (cwI 1 hF.2.2.2.2 (am_gi uw_63) rfl rfl rfl (hts _ (List.mem_cons_of_mem _ uw_5)) (hts _ (List.mem_cons_of_mem _ uw_216)) (hts _ (List.mem_cons_of_mem _ uw_62)) rfl (by decide +kernel) ⟨Nat.le_of_ble_eq_true rfl, Nat.le_of_ble_eq_true rfl⟩) ⟨an_blind (D := D) (a := a + 19) (ci := 0) (cI := cI) (dfs := [.null, .null]) (ex := [.int (nI (60))]) (E := (fun _ _ => True)), fun U hU hW => ⟨rfl, by rw [hU]; exact g28, by rw [hU]; have := J28.2.1; omega, by rw [hU]; exact trivial, va_K.moved hW.alike hK, by rw [hW.alike.findClass]; exact hfI, hNw.warm hW⟩⟩ rfl rfl hl.1 rfl (Nat.le_of_ble_eq_true rfl) dX8_init_128 ⟨by show 23 ≤ 23; omega, by show 0 + 1 + (((60))) + 1 + (((60))) + 1 + (((60))) + 1 + (((60))) + 1 + (((60))) + 1 + (((60))) + 1 + (((60))) + 1 + (((60))) + 1 + (((60))) + 2 + 1 + ((((60)))) + 1 + ((((60) * 24))) ≤ (2053); omega⟩) (by omega) J28 rfl (by have := J28.2.1; omega) (by omega) (fun H29 J29 f29_29 k29 => ?_)
  have x29 := lo26 _ _ (fun q q1 q2 => k29 q (by have := J28.2.1; omega) (by omega)) x28
  have kp29 : an_kp a s.heap H29 := fun q q1 q2 => (k29 q (by have := J28.2.1; omega) (by omega)).trans (kp28 q q1 q2)
  have lo29 := an_lo_c (P := fun H => an_book D cI (60) (a + 19) H) (b1 := a + 19 + 5) lo26 (an_book_loc (a + 19)) (by omega) (by omega) (by omega)
  have w29 : an_cj _ (fun H => an_book D cI (60) (a + 19) H) _ := And.intro x29 f29_29
  refine an_put (ty := tyX8 10) hF.1 hF.2.1 hts (fun w h => List.mem_cons_of_mem _ (iu_X8 w h)) tyX8 tyX8_ok nmX8 hF.2.2.2.1 hK J29 rfl 10 (by decide) (hts _ (List.mem_cons_of_mem _ uw_239)) (fun _ h => h) hin rfl (tyX8_ok 10 (by decide)) rfl rfl (Nat.le_of_ble_eq_true rfl) dX8_init_131 (fun H30 locs30 J30 k30 => ?_)
  have J30 : an_J D s 8 a [.int 0, .ref (a + 1), .ref (a + 3), .ref (a + 5), .ref (a + 7), .ref (a + 9), .ref (a + 11), .ref (a + 13), .ref (a + 15), .ref (a + 17), .ref (a + 19)] H30 23 locs30 := J30
  have x30 := lo29 _ _ (fun q q1 q2 => k30 q (by have := J29.2.1; omega) (by omega)) w29
  have kp30 : an_kp a s.heap H30 := kp29.tr k30 (by have := J29.2.1; omega)
  clear k30 w29 kp29 x29 k29 f29_29 J29 kp28 x28 z28 k28 g28 J28 kp27 x27 J27 lo26
  obtain ⟨⟨⟨⟨⟨⟨⟨⟨⟨⟨-, y0⟩, y1⟩, y2⟩, y3⟩, y4⟩, y5⟩, y6⟩, y7⟩, y8⟩, y9⟩ := x30
  refine W.widen (k := 23) (n := (2053)) (by omega) (by omega) ?_
  exact an_fin (P := an_scop D cI) hF.1 hF.2.1 B.returns B.notSynchronized J30 kp30 hsz ⟨J30.1, y0, y1, y2, y3, y4, y5, y6, y7, y8, y9⟩ dX8_init_134
def an_task (D : va_G) (cI : ClassId) (a : Nat) (H : Heap) : Prop := an_at D 9 a [.int 0, .ref (a + 1), .ref (a + 3), .ref (a + 5), .ref (a + 7), .ref (a + 9), .ref (a + 11), .ref (a + 13), .ref (a + 15), .ref (a + 17), .ref (a + 19), .ref (a + 21), .ref (a + 23), .ref (a + 25), .ref (a + 27), .ref (a + 29), .ref (a + 31)] H ∧ an_row D cI (24) (a + 1) H ∧ an_row D cI (24) (a + 3) H ∧ an_row D cI (24) (a + 5) H ∧ an_row D cI (24) (a + 7) H ∧ an_row D cI (24) (a + 9) H ∧ an_row D cI (24) (a + 11) H ∧ an_row D cI (24) (a + 13) H ∧ an_row D cI (24) (a + 15) H ∧ an_row D cI (24) (a + 17) H ∧ an_row D cI (24) (a + 19) H ∧ an_row D cI (24) (a + 21) H ∧ an_row D cI (24) (a + 23) H ∧ an_row D cI (24) (a + 25) H ∧ an_row D cI (24) (a + 27) H ∧ an_row D cI (120) (a + 29) H ∧ an_book D cI (24) (a + 31) H
theorem an_task_loc {D : va_G} {cI : ClassId} (a : Nat) (H H1 : Heap) (h : ∀ q, a ≤ q → q < a + 36 → H1[q]? = H[q]?) (j : an_task D cI (a) H) : an_task D cI (a) H1 := by
  obtain ⟨j0, j1, j2, j3, j4, j5, j6, j7, j8, j9, j10, j11, j12, j13, j14, j15, j16⟩ := j
  exact ⟨an_mv (h a (by omega) (by omega)) j0, an_row_loc (a + 1) H H1 (fun q q1 q2 => h q (by omega) (by omega)) j1, an_row_loc (a + 3) H H1 (fun q q1 q2 => h q (by omega) (by omega)) j2, an_row_loc (a + 5) H H1 (fun q q1 q2 => h q (by omega) (by omega)) j3, an_row_loc (a + 7) H H1 (fun q q1 q2 => h q (by omega) (by omega)) j4, an_row_loc (a + 9) H H1 (fun q q1 q2 => h q (by omega) (by omega)) j5, an_row_loc (a + 11) H H1 (fun q q1 q2 => h q (by omega) (by omega)) j6, an_row_loc (a + 13) H H1 (fun q q1 q2 => h q (by omega) (by omega)) j7, an_row_loc (a + 15) H H1 (fun q q1 q2 => h q (by omega) (by omega)) j8, an_row_loc (a + 17) H H1 (fun q q1 q2 => h q (by omega) (by omega)) j9, an_row_loc (a + 19) H H1 (fun q q1 q2 => h q (by omega) (by omega)) j10, an_row_loc (a + 21) H H1 (fun q q1 q2 => h q (by omega) (by omega)) j11, an_row_loc (a + 23) H H1 (fun q q1 q2 => h q (by omega) (by omega)) j12, an_row_loc (a + 25) H H1 (fun q q1 q2 => h q (by omega) (by omega)) j13, an_row_loc (a + 27) H H1 (fun q q1 q2 => h q (by omega) (by omega)) j14, an_row_loc (a + 29) H H1 (fun q q1 q2 => h q (by omega) (by omega)) j15, an_book_loc (a + 31) H H1 (fun q q1 q2 => h q (by omega) (by omega)) j16⟩
theorem c_X9_init (l : Launch) (D : va_G) (cI : ClassId) : an_Met l D cI yX9_init (Cond.code yX9_init cX9_init 1 none :: am_tb) { frames := 3, cells := 35, slots := 1075, locals := 120 } 9 [.int 0, .null, .null, .null, .null, .null, .null, .null, .null, .null, .null, .null, .null, .null, .null, .null, .null] [] (fun _ _ => True) 35 (1075) (an_task D cI) := by
  intro a
  refine Met.ofW (cc := cX9_init) (maxL := 1) (ret := none) (by decide +kernel) rfl ?_
  intro p e s m args below meth c s₁ B hml hv
  obtain ⟨rfl, hat, hsz, hE, hK, hfI, hNw⟩ := hv
  have hF := (⟨B.exec, B.bytes, hml, findClass_of_methodNamed B.named, atoms_spec (ws := Cond.code yX9_init cX9_init 1 none :: am_tb) B.pre⟩ : CallFix p m c cX9_init 1 s _ (Cond.code yX9_init cX9_init 1 none :: am_tb) yX9_init.cls)
  have hts := hF.2.2.2.2
  have hin : meth.name = "<init>" := (name_of_methodNamed B.named B.method).1
  have hl := lv_entry ([.ref a]) (n := 1) (Nat.le_of_ble_eq_true rfl)
  rw [lg_entry_eq]
  generalize (lg_sl ([.ref a]) ++ List.replicate (1 - (lg_sl ([.ref a])).length) Slot.unset).toArray = ls at hl ⊢
  have hl : lv_has ls 1 [(0, .ref a)] := hl
  have J0 : an_J D s 9 a [.int 0, .null, .null, .null, .null, .null, .null, .null, .null, .null, .null, .null, .null, .null, .null, .null, .null] s.heap 0 [] := ⟨hat, rfl, fun _ h => absurd h List.not_mem_nil, by omega⟩
  have kp0 : an_kp a s.heap s.heap := an_kp.rf
  have x0 : an_tt s.heap := trivial
  have lo0 : an_lo a (a + 1) an_tt := fun _ _ _ h => h
  refine lv_aload_n hF.1 hF.2.1 dX9_init_0 rfl (hl.2.2 _ (.head _)) ?_
  refine W.objInit hF.1 hF.2.1 hF.2.2.2.1 (hts _ (List.mem_cons_of_mem _ uw_122)) (hts _ (List.mem_cons_of_mem _ uw_34)) (hts _ (List.mem_cons_of_mem _ uw_35)) rfl (hl.1.trans hF.2.2.1.symm) rfl dX9_init_1 (Nat.le_of_ble_eq_true rfl) (Nat.le_of_ble_eq_true rfl) ?_
  refine W.eq (g2 := F0 m 4 ls []) rfl ?_
  refine lv_aload_n hF.1 hF.2.1 dX9_init_4 rfl (hl.2.2 _ (.head _)) ?_
  refine an_new (cj := 6) (gs := [.null]) (C := RX6) (T := TX6) (N := 1) hF.1 hF.2.1 hts (fun w h => List.mem_cons_of_mem _ (iu_X6 w h)) tyX6 tyX6_ok hF.2.2.2.1 (hts _ (List.mem_cons_of_mem _ uw_123)) (hts _ (List.mem_cons_of_mem _ uw_66)) (hts _ (List.mem_cons_of_mem _ uw_6)) hK J0 rfl (by decide +kernel) (by show 1 ≤ 35; omega) (by show 0 + 1 ≤ (1075); omega) dX9_init_5 (fun H1 J1 g1 k1 => ?_)
  have z1 : s.heap.size = a + 1 := by have := J0.2.1; omega
  rw [z1] at g1 ⊢
  have x1 := lo0 _ _ (fun q q1 q2 => k1 q (by have := J0.2.1; omega) (by omega)) x0
  have kp1 : an_kp a s.heap H1 := kp0.tr k1 (by have := J0.2.1; omega)
  refine lv_dup hF.1 hF.2.1 dX9_init_8 rfl ?_
  refine lv_bipush (v := nI 24) hF.1 hF.2.1 dX9_init_9 (by decide) ?_
  refine an_call (mc := 1) (ms := ((24))) (a1 := a + 1) (n := 1) (va_runI (As := [.int (nI (24))]) hF (c_X6_init l D cI (24) (by omega) (a + 1)) (cwI 1 hF.2.2.2.2 (am_gi uw_69) rfl rfl rfl (hts _ (List.mem_cons_of_mem _ uw_6)) (hts _ (List.mem_cons_of_mem _ uw_124)) (hts _ (List.mem_cons_of_mem _ uw_68)) rfl (by decide +kernel) ⟨Nat.le_of_ble_eq_true rfl, Nat.le_of_ble_eq_true rfl⟩) ⟨an_blind (D := D) (a := a + 1) (ci := 6) (cI := cI) (dfs := [.null]) (ex := [.int (nI (24))]) (E := (fun _ _ => True)), fun U hU hW => ⟨rfl, by rw [hU]; exact g1, by rw [hU]; have := J1.2.1; omega, by rw [hU]; exact trivial, va_K.moved hW.alike hK, by rw [hW.alike.findClass]; exact hfI, hNw.warm hW⟩⟩ rfl rfl hl.1 rfl (Nat.le_of_ble_eq_true rfl) dX9_init_11 ⟨by show 2 ≤ 35; omega, by show 0 + 1 + ((24)) ≤ (1075); omega⟩) (by omega) J1 rfl (by have := J1.2.1; omega) (by omega) (fun H2 J2 f2_2 k2 => ?_)
  have x2 := lo0 _ _ (fun q q1 q2 => k2 q (by have := J1.2.1; omega) (by omega)) x1
  have kp2 : an_kp a s.heap H2 := fun q q1 q2 => (k2 q (by have := J1.2.1; omega) (by omega)).trans (kp1 q q1 q2)
  have lo2 := an_lo_c (P := fun H => an_row D cI (24) (a + 1) H) (b1 := a + 1 + 2) lo0 (an_row_loc (a + 1)) (by omega) (by omega) (by omega)
  have w2 : an_cj _ (fun H => an_row D cI (24) (a + 1) H) _ := And.intro x2 f2_2
  refine an_put (ty := tyX9 1) hF.1 hF.2.1 hts (fun w h => List.mem_cons_of_mem _ (iu_X9 w h)) tyX9 tyX9_ok nmX9 hF.2.2.2.1 hK J2 rfl 1 (by decide) (hts _ (List.mem_cons_of_mem _ uw_132)) (fun _ h => h) hin rfl (tyX9_ok 1 (by decide)) rfl rfl (Nat.le_of_ble_eq_true rfl) dX9_init_14 (fun H3 locs3 J3 k3 => ?_)
  have J3 : an_J D s 9 a [.int 0, .ref (a + 1), .null, .null, .null, .null, .null, .null, .null, .null, .null, .null, .null, .null, .null, .null, .null] H3 2 locs3 := J3
  have x3 := lo2 _ _ (fun q q1 q2 => k3 q (by have := J2.2.1; omega) (by omega)) w2
  have kp3 : an_kp a s.heap H3 := kp2.tr k3 (by have := J2.2.1; omega)
  clear k3 w2 kp2 x2 k2 f2_2 J2 kp1 x1 z1 k1 g1 J1
  refine lv_aload_n hF.1 hF.2.1 dX9_init_17 rfl (hl.2.2 _ (.head _)) ?_
  refine an_new (cj := 6) (gs := [.null]) (C := RX6) (T := TX6) (N := 1) hF.1 hF.2.1 hts (fun w h => List.mem_cons_of_mem _ (iu_X6 w h)) tyX6 tyX6_ok hF.2.2.2.1 (hts _ (List.mem_cons_of_mem _ uw_123)) (hts _ (List.mem_cons_of_mem _ uw_66)) (hts _ (List.mem_cons_of_mem _ uw_6)) hK J3 rfl (by decide +kernel) (by show 3 ≤ 35; omega) (by show 0 + 1 + (((24))) + 1 ≤ (1075); omega) dX9_init_18 (fun H4 J4 g4 k4 => ?_)
  have z4 : H3.size = a + 3 := by have := J3.2.1; omega
  rw [z4] at g4 ⊢
  have x4 := lo2 _ _ (fun q q1 q2 => k4 q (by have := J3.2.1; omega) (by omega)) x3
  have kp4 : an_kp a s.heap H4 := kp3.tr k4 (by have := J3.2.1; omega)
  refine lv_dup hF.1 hF.2.1 dX9_init_21 rfl ?_
  refine lv_bipush (v := nI 24) hF.1 hF.2.1 dX9_init_22 (by decide) ?_
  refine an_call (mc := 1) (ms := ((24))) (a1 := a + 3) (n := 1) (va_runI (As := [.int (nI (24))]) hF (c_X6_init l D cI (24) (by omega) (a + 3)) (cwI 1 hF.2.2.2.2 (am_gi uw_69) rfl rfl rfl (hts _ (List.mem_cons_of_mem _ uw_6)) (hts _ (List.mem_cons_of_mem _ uw_124)) (hts _ (List.mem_cons_of_mem _ uw_68)) rfl (by decide +kernel) ⟨Nat.le_of_ble_eq_true rfl, Nat.le_of_ble_eq_true rfl⟩) ⟨an_blind (D := D) (a := a + 3) (ci := 6) (cI := cI) (dfs := [.null]) (ex := [.int (nI (24))]) (E := (fun _ _ => True)), fun U hU hW => ⟨rfl, by rw [hU]; exact g4, by rw [hU]; have := J4.2.1; omega, by rw [hU]; exact trivial, va_K.moved hW.alike hK, by rw [hW.alike.findClass]; exact hfI, hNw.warm hW⟩⟩ rfl rfl hl.1 rfl (Nat.le_of_ble_eq_true rfl) dX9_init_24 ⟨by show 4 ≤ 35; omega, by show 0 + 1 + (((24))) + 1 + ((24)) ≤ (1075); omega⟩) (by omega) J4 rfl (by have := J4.2.1; omega) (by omega) (fun H5 J5 f5_5 k5 => ?_)
  have x5 := lo2 _ _ (fun q q1 q2 => k5 q (by have := J4.2.1; omega) (by omega)) x4
  have kp5 : an_kp a s.heap H5 := fun q q1 q2 => (k5 q (by have := J4.2.1; omega) (by omega)).trans (kp4 q q1 q2)
  have lo5 := an_lo_c (P := fun H => an_row D cI (24) (a + 3) H) (b1 := a + 3 + 2) lo2 (an_row_loc (a + 3)) (by omega) (by omega) (by omega)
  have w5 : an_cj _ (fun H => an_row D cI (24) (a + 3) H) _ := And.intro x5 f5_5
  refine an_put (ty := tyX9 2) hF.1 hF.2.1 hts (fun w h => List.mem_cons_of_mem _ (iu_X9 w h)) tyX9 tyX9_ok nmX9 hF.2.2.2.1 hK J5 rfl 2 (by decide) (hts _ (List.mem_cons_of_mem _ uw_137)) (fun _ h => h) hin rfl (tyX9_ok 2 (by decide)) rfl rfl (Nat.le_of_ble_eq_true rfl) dX9_init_27 (fun H6 locs6 J6 k6 => ?_)
  have J6 : an_J D s 9 a [.int 0, .ref (a + 1), .ref (a + 3), .null, .null, .null, .null, .null, .null, .null, .null, .null, .null, .null, .null, .null, .null] H6 4 locs6 := J6
  have x6 := lo5 _ _ (fun q q1 q2 => k6 q (by have := J5.2.1; omega) (by omega)) w5
  have kp6 : an_kp a s.heap H6 := kp5.tr k6 (by have := J5.2.1; omega)
  clear k6 w5 kp5 x5 k5 f5_5 J5 kp4 x4 z4 k4 g4 J4 kp3 x3 J3 lo2
  refine lv_aload_n hF.1 hF.2.1 dX9_init_30 rfl (hl.2.2 _ (.head _)) ?_
  refine an_new (cj := 6) (gs := [.null]) (C := RX6) (T := TX6) (N := 1) hF.1 hF.2.1 hts (fun w h => List.mem_cons_of_mem _ (iu_X6 w h)) tyX6 tyX6_ok hF.2.2.2.1 (hts _ (List.mem_cons_of_mem _ uw_123)) (hts _ (List.mem_cons_of_mem _ uw_66)) (hts _ (List.mem_cons_of_mem _ uw_6)) hK J6 rfl (by decide +kernel) (by show 5 ≤ 35; omega) (by show 0 + 1 + (((24))) + 1 + (((24))) + 1 ≤ (1075); omega) dX9_init_31 (fun H7 J7 g7 k7 => ?_)
  have z7 : H6.size = a + 5 := by have := J6.2.1; omega
  rw [z7] at g7 ⊢
  have x7 := lo5 _ _ (fun q q1 q2 => k7 q (by have := J6.2.1; omega) (by omega)) x6
  have kp7 : an_kp a s.heap H7 := kp6.tr k7 (by have := J6.2.1; omega)
  refine lv_dup hF.1 hF.2.1 dX9_init_34 rfl ?_
  refine lv_bipush (v := nI 24) hF.1 hF.2.1 dX9_init_35 (by decide) ?_
  refine an_call (mc := 1) (ms := ((24))) (a1 := a + 5) (n := 1) (va_runI (As := [.int (nI (24))]) hF (c_X6_init l D cI (24) (by omega) (a + 5)) (cwI 1 hF.2.2.2.2 (am_gi uw_69) rfl rfl rfl (hts _ (List.mem_cons_of_mem _ uw_6)) (hts _ (List.mem_cons_of_mem _ uw_124)) (hts _ (List.mem_cons_of_mem _ uw_68)) rfl (by decide +kernel) ⟨Nat.le_of_ble_eq_true rfl, Nat.le_of_ble_eq_true rfl⟩) ⟨an_blind (D := D) (a := a + 5) (ci := 6) (cI := cI) (dfs := [.null]) (ex := [.int (nI (24))]) (E := (fun _ _ => True)), fun U hU hW => ⟨rfl, by rw [hU]; exact g7, by rw [hU]; have := J7.2.1; omega, by rw [hU]; exact trivial, va_K.moved hW.alike hK, by rw [hW.alike.findClass]; exact hfI, hNw.warm hW⟩⟩ rfl rfl hl.1 rfl (Nat.le_of_ble_eq_true rfl) dX9_init_37 ⟨by show 6 ≤ 35; omega, by show 0 + 1 + (((24))) + 1 + (((24))) + 1 + ((24)) ≤ (1075); omega⟩) (by omega) J7 rfl (by have := J7.2.1; omega) (by omega) (fun H8 J8 f8_8 k8 => ?_)
  have x8 := lo5 _ _ (fun q q1 q2 => k8 q (by have := J7.2.1; omega) (by omega)) x7
  have kp8 : an_kp a s.heap H8 := fun q q1 q2 => (k8 q (by have := J7.2.1; omega) (by omega)).trans (kp7 q q1 q2)
  have lo8 := an_lo_c (P := fun H => an_row D cI (24) (a + 5) H) (b1 := a + 5 + 2) lo5 (an_row_loc (a + 5)) (by omega) (by omega) (by omega)
  have w8 : an_cj _ (fun H => an_row D cI (24) (a + 5) H) _ := And.intro x8 f8_8
  refine an_put (ty := tyX9 3) hF.1 hF.2.1 hts (fun w h => List.mem_cons_of_mem _ (iu_X9 w h)) tyX9 tyX9_ok nmX9 hF.2.2.2.1 hK J8 rfl 3 (by decide) (hts _ (List.mem_cons_of_mem _ uw_140)) (fun _ h => h) hin rfl (tyX9_ok 3 (by decide)) rfl rfl (Nat.le_of_ble_eq_true rfl) dX9_init_40 (fun H9 locs9 J9 k9 => ?_)
  have J9 : an_J D s 9 a [.int 0, .ref (a + 1), .ref (a + 3), .ref (a + 5), .null, .null, .null, .null, .null, .null, .null, .null, .null, .null, .null, .null, .null] H9 6 locs9 := J9
  have x9 := lo8 _ _ (fun q q1 q2 => k9 q (by have := J8.2.1; omega) (by omega)) w8
  have kp9 : an_kp a s.heap H9 := kp8.tr k9 (by have := J8.2.1; omega)
  clear k9 w8 kp8 x8 k8 f8_8 J8 kp7 x7 z7 k7 g7 J7 kp6 x6 J6 lo5
  refine lv_aload_n hF.1 hF.2.1 dX9_init_43 rfl (hl.2.2 _ (.head _)) ?_
  refine an_new (cj := 6) (gs := [.null]) (C := RX6) (T := TX6) (N := 1) hF.1 hF.2.1 hts (fun w h => List.mem_cons_of_mem _ (iu_X6 w h)) tyX6 tyX6_ok hF.2.2.2.1 (hts _ (List.mem_cons_of_mem _ uw_123)) (hts _ (List.mem_cons_of_mem _ uw_66)) (hts _ (List.mem_cons_of_mem _ uw_6)) hK J9 rfl (by decide +kernel) (by show 7 ≤ 35; omega) (by show 0 + 1 + (((24))) + 1 + (((24))) + 1 + (((24))) + 1 ≤ (1075); omega) dX9_init_44 (fun H10 J10 g10 k10 => ?_)
  have z10 : H9.size = a + 7 := by have := J9.2.1; omega
  rw [z10] at g10 ⊢
  have x10 := lo8 _ _ (fun q q1 q2 => k10 q (by have := J9.2.1; omega) (by omega)) x9
  have kp10 : an_kp a s.heap H10 := kp9.tr k10 (by have := J9.2.1; omega)
  refine lv_dup hF.1 hF.2.1 dX9_init_47 rfl ?_
  refine lv_bipush (v := nI 24) hF.1 hF.2.1 dX9_init_48 (by decide) ?_
  refine an_call (mc := 1) (ms := ((24))) (a1 := a + 7) (n := 1) (va_runI (As := [.int (nI (24))]) hF (c_X6_init l D cI (24) (by omega) (a + 7)) (cwI 1 hF.2.2.2.2 (am_gi uw_69) rfl rfl rfl (hts _ (List.mem_cons_of_mem _ uw_6)) (hts _ (List.mem_cons_of_mem _ uw_124)) (hts _ (List.mem_cons_of_mem _ uw_68)) rfl (by decide +kernel) ⟨Nat.le_of_ble_eq_true rfl, Nat.le_of_ble_eq_true rfl⟩) ⟨an_blind (D := D) (a := a + 7) (ci := 6) (cI := cI) (dfs := [.null]) (ex := [.int (nI (24))]) (E := (fun _ _ => True)), fun U hU hW => ⟨rfl, by rw [hU]; exact g10, by rw [hU]; have := J10.2.1; omega, by rw [hU]; exact trivial, va_K.moved hW.alike hK, by rw [hW.alike.findClass]; exact hfI, hNw.warm hW⟩⟩ rfl rfl hl.1 rfl (Nat.le_of_ble_eq_true rfl) dX9_init_50 ⟨by show 8 ≤ 35; omega, by show 0 + 1 + (((24))) + 1 + (((24))) + 1 + (((24))) + 1 + ((24)) ≤ (1075); omega⟩) (by omega) J10 rfl (by have := J10.2.1; omega) (by omega) (fun H11 J11 f11_11 k11 => ?_)
  have x11 := lo8 _ _ (fun q q1 q2 => k11 q (by have := J10.2.1; omega) (by omega)) x10
  have kp11 : an_kp a s.heap H11 := fun q q1 q2 => (k11 q (by have := J10.2.1; omega) (by omega)).trans (kp10 q q1 q2)
  have lo11 := an_lo_c (P := fun H => an_row D cI (24) (a + 7) H) (b1 := a + 7 + 2) lo8 (an_row_loc (a + 7)) (by omega) (by omega) (by omega)
  have w11 : an_cj _ (fun H => an_row D cI (24) (a + 7) H) _ := And.intro x11 f11_11
  refine an_put (ty := tyX9 4) hF.1 hF.2.1 hts (fun w h => List.mem_cons_of_mem _ (iu_X9 w h)) tyX9 tyX9_ok nmX9 hF.2.2.2.1 hK J11 rfl 4 (by decide) (hts _ (List.mem_cons_of_mem _ uw_142)) (fun _ h => h) hin rfl (tyX9_ok 4 (by decide)) rfl rfl (Nat.le_of_ble_eq_true rfl) dX9_init_53 (fun H12 locs12 J12 k12 => ?_)
  have J12 : an_J D s 9 a [.int 0, .ref (a + 1), .ref (a + 3), .ref (a + 5), .ref (a + 7), .null, .null, .null, .null, .null, .null, .null, .null, .null, .null, .null, .null] H12 8 locs12 := J12
  have x12 := lo11 _ _ (fun q q1 q2 => k12 q (by have := J11.2.1; omega) (by omega)) w11
  have kp12 : an_kp a s.heap H12 := kp11.tr k12 (by have := J11.2.1; omega)
  clear k12 w11 kp11 x11 k11 f11_11 J11 kp10 x10 z10 k10 g10 J10 kp9 x9 J9 lo8
  refine lv_aload_n hF.1 hF.2.1 dX9_init_56 rfl (hl.2.2 _ (.head _)) ?_
  refine an_new (cj := 6) (gs := [.null]) (C := RX6) (T := TX6) (N := 1) hF.1 hF.2.1 hts (fun w h => List.mem_cons_of_mem _ (iu_X6 w h)) tyX6 tyX6_ok hF.2.2.2.1 (hts _ (List.mem_cons_of_mem _ uw_123)) (hts _ (List.mem_cons_of_mem _ uw_66)) (hts _ (List.mem_cons_of_mem _ uw_6)) hK J12 rfl (by decide +kernel) (by show 9 ≤ 35; omega) (by show 0 + 1 + (((24))) + 1 + (((24))) + 1 + (((24))) + 1 + (((24))) + 1 ≤ (1075); omega) dX9_init_57 (fun H13 J13 g13 k13 => ?_)
  have z13 : H12.size = a + 9 := by have := J12.2.1; omega
  rw [z13] at g13 ⊢
  have x13 := lo11 _ _ (fun q q1 q2 => k13 q (by have := J12.2.1; omega) (by omega)) x12
  have kp13 : an_kp a s.heap H13 := kp12.tr k13 (by have := J12.2.1; omega)
  refine lv_dup hF.1 hF.2.1 dX9_init_60 rfl ?_
  refine lv_bipush (v := nI 24) hF.1 hF.2.1 dX9_init_61 (by decide) ?_
  refine an_call (mc := 1) (ms := ((24))) (a1 := a + 9) (n := 1) (va_runI (As := [.int (nI (24))]) hF (c_X6_init l D cI (24) (by omega) (a + 9)) (cwI 1 hF.2.2.2.2 (am_gi uw_69) rfl rfl rfl (hts _ (List.mem_cons_of_mem _ uw_6)) (hts _ (List.mem_cons_of_mem _ uw_124)) (hts _ (List.mem_cons_of_mem _ uw_68)) rfl (by decide +kernel) ⟨Nat.le_of_ble_eq_true rfl, Nat.le_of_ble_eq_true rfl⟩) ⟨an_blind (D := D) (a := a + 9) (ci := 6) (cI := cI) (dfs := [.null]) (ex := [.int (nI (24))]) (E := (fun _ _ => True)), fun U hU hW => ⟨rfl, by rw [hU]; exact g13, by rw [hU]; have := J13.2.1; omega, by rw [hU]; exact trivial, va_K.moved hW.alike hK, by rw [hW.alike.findClass]; exact hfI, hNw.warm hW⟩⟩ rfl rfl hl.1 rfl (Nat.le_of_ble_eq_true rfl) dX9_init_63 ⟨by show 10 ≤ 35; omega, by show 0 + 1 + (((24))) + 1 + (((24))) + 1 + (((24))) + 1 + (((24))) + 1 + ((24)) ≤ (1075); omega⟩) (by omega) J13 rfl (by have := J13.2.1; omega) (by omega) (fun H14 J14 f14_14 k14 => ?_)
  have x14 := lo11 _ _ (fun q q1 q2 => k14 q (by have := J13.2.1; omega) (by omega)) x13
  have kp14 : an_kp a s.heap H14 := fun q q1 q2 => (k14 q (by have := J13.2.1; omega) (by omega)).trans (kp13 q q1 q2)
  have lo14 := an_lo_c (P := fun H => an_row D cI (24) (a + 9) H) (b1 := a + 9 + 2) lo11 (an_row_loc (a + 9)) (by omega) (by omega) (by omega)
  have w14 : an_cj _ (fun H => an_row D cI (24) (a + 9) H) _ := And.intro x14 f14_14
  refine an_put (ty := tyX9 5) hF.1 hF.2.1 hts (fun w h => List.mem_cons_of_mem _ (iu_X9 w h)) tyX9 tyX9_ok nmX9 hF.2.2.2.1 hK J14 rfl 5 (by decide) (hts _ (List.mem_cons_of_mem _ uw_145)) (fun _ h => h) hin rfl (tyX9_ok 5 (by decide)) rfl rfl (Nat.le_of_ble_eq_true rfl) dX9_init_66 (fun H15 locs15 J15 k15 => ?_)
  have J15 : an_J D s 9 a [.int 0, .ref (a + 1), .ref (a + 3), .ref (a + 5), .ref (a + 7), .ref (a + 9), .null, .null, .null, .null, .null, .null, .null, .null, .null, .null, .null] H15 10 locs15 := J15
  have x15 := lo14 _ _ (fun q q1 q2 => k15 q (by have := J14.2.1; omega) (by omega)) w14
  have kp15 : an_kp a s.heap H15 := kp14.tr k15 (by have := J14.2.1; omega)
  clear k15 w14 kp14 x14 k14 f14_14 J14 kp13 x13 z13 k13 g13 J13 kp12 x12 J12 lo11
  refine lv_aload_n hF.1 hF.2.1 dX9_init_69 rfl (hl.2.2 _ (.head _)) ?_
  refine an_new (cj := 6) (gs := [.null]) (C := RX6) (T := TX6) (N := 1) hF.1 hF.2.1 hts (fun w h => List.mem_cons_of_mem _ (iu_X6 w h)) tyX6 tyX6_ok hF.2.2.2.1 (hts _ (List.mem_cons_of_mem _ uw_123)) (hts _ (List.mem_cons_of_mem _ uw_66)) (hts _ (List.mem_cons_of_mem _ uw_6)) hK J15 rfl (by decide +kernel) (by show 11 ≤ 35; omega) (by show 0 + 1 + (((24))) + 1 + (((24))) + 1 + (((24))) + 1 + (((24))) + 1 + (((24))) + 1 ≤ (1075); omega) dX9_init_70 (fun H16 J16 g16 k16 => ?_)
  have z16 : H15.size = a + 11 := by have := J15.2.1; omega
  rw [z16] at g16 ⊢
  have x16 := lo14 _ _ (fun q q1 q2 => k16 q (by have := J15.2.1; omega) (by omega)) x15
  have kp16 : an_kp a s.heap H16 := kp15.tr k16 (by have := J15.2.1; omega)
  refine lv_dup hF.1 hF.2.1 dX9_init_73 rfl ?_
  refine lv_bipush (v := nI 24) hF.1 hF.2.1 dX9_init_74 (by decide) ?_
  refine an_call (mc := 1) (ms := ((24))) (a1 := a + 11) (n := 1) (va_runI (As := [.int (nI (24))]) hF (c_X6_init l D cI (24) (by omega) (a + 11)) (cwI 1 hF.2.2.2.2 (am_gi uw_69) rfl rfl rfl (hts _ (List.mem_cons_of_mem _ uw_6)) (hts _ (List.mem_cons_of_mem _ uw_124)) (hts _ (List.mem_cons_of_mem _ uw_68)) rfl (by decide +kernel) ⟨Nat.le_of_ble_eq_true rfl, Nat.le_of_ble_eq_true rfl⟩) ⟨an_blind (D := D) (a := a + 11) (ci := 6) (cI := cI) (dfs := [.null]) (ex := [.int (nI (24))]) (E := (fun _ _ => True)), fun U hU hW => ⟨rfl, by rw [hU]; exact g16, by rw [hU]; have := J16.2.1; omega, by rw [hU]; exact trivial, va_K.moved hW.alike hK, by rw [hW.alike.findClass]; exact hfI, hNw.warm hW⟩⟩ rfl rfl hl.1 rfl (Nat.le_of_ble_eq_true rfl) dX9_init_76 ⟨by show 12 ≤ 35; omega, by show 0 + 1 + (((24))) + 1 + (((24))) + 1 + (((24))) + 1 + (((24))) + 1 + (((24))) + 1 + ((24)) ≤ (1075); omega⟩) (by omega) J16 rfl (by have := J16.2.1; omega) (by omega) (fun H17 J17 f17_17 k17 => ?_)
  have x17 := lo14 _ _ (fun q q1 q2 => k17 q (by have := J16.2.1; omega) (by omega)) x16
  have kp17 : an_kp a s.heap H17 := fun q q1 q2 => (k17 q (by have := J16.2.1; omega) (by omega)).trans (kp16 q q1 q2)
  have lo17 := an_lo_c (P := fun H => an_row D cI (24) (a + 11) H) (b1 := a + 11 + 2) lo14 (an_row_loc (a + 11)) (by omega) (by omega) (by omega)
  have w17 : an_cj _ (fun H => an_row D cI (24) (a + 11) H) _ := And.intro x17 f17_17
  refine an_put (ty := tyX9 6) hF.1 hF.2.1 hts (fun w h => List.mem_cons_of_mem _ (iu_X9 w h)) tyX9 tyX9_ok nmX9 hF.2.2.2.1 hK J17 rfl 6 (by decide) (hts _ (List.mem_cons_of_mem _ uw_148)) (fun _ h => h) hin rfl (tyX9_ok 6 (by decide)) rfl rfl (Nat.le_of_ble_eq_true rfl) dX9_init_79 (fun H18 locs18 J18 k18 => ?_)
  have J18 : an_J D s 9 a [.int 0, .ref (a + 1), .ref (a + 3), .ref (a + 5), .ref (a + 7), .ref (a + 9), .ref (a + 11), .null, .null, .null, .null, .null, .null, .null, .null, .null, .null] H18 12 locs18 := J18
  have x18 := lo17 _ _ (fun q q1 q2 => k18 q (by have := J17.2.1; omega) (by omega)) w17
  have kp18 : an_kp a s.heap H18 := kp17.tr k18 (by have := J17.2.1; omega)
  clear k18 w17 kp17 x17 k17 f17_17 J17 kp16 x16 z16 k16 g16 J16 kp15 x15 J15 lo14
  refine lv_aload_n hF.1 hF.2.1 dX9_init_82 rfl (hl.2.2 _ (.head _)) ?_
  refine an_new (cj := 6) (gs := [.null]) (C := RX6) (T := TX6) (N := 1) hF.1 hF.2.1 hts (fun w h => List.mem_cons_of_mem _ (iu_X6 w h)) tyX6 tyX6_ok hF.2.2.2.1 (hts _ (List.mem_cons_of_mem _ uw_123)) (hts _ (List.mem_cons_of_mem _ uw_66)) (hts _ (List.mem_cons_of_mem _ uw_6)) hK J18 rfl (by decide +kernel) (by show 13 ≤ 35; omega) (by show 0 + 1 + (((24))) + 1 + (((24))) + 1 + (((24))) + 1 + (((24))) + 1 + (((24))) + 1 + (((24))) + 1 ≤ (1075); omega) dX9_init_83 (fun H19 J19 g19 k19 => ?_)
  have z19 : H18.size = a + 13 := by have := J18.2.1; omega
  rw [z19] at g19 ⊢
  have x19 := lo17 _ _ (fun q q1 q2 => k19 q (by have := J18.2.1; omega) (by omega)) x18
  have kp19 : an_kp a s.heap H19 := kp18.tr k19 (by have := J18.2.1; omega)
  refine lv_dup hF.1 hF.2.1 dX9_init_86 rfl ?_
  refine lv_bipush (v := nI 24) hF.1 hF.2.1 dX9_init_87 (by decide) ?_
  refine an_call (mc := 1) (ms := ((24))) (a1 := a + 13) (n := 1) (va_runI (As := [.int (nI (24))]) hF (c_X6_init l D cI (24) (by omega) (a + 13)) (cwI 1 hF.2.2.2.2 (am_gi uw_69) rfl rfl rfl (hts _ (List.mem_cons_of_mem _ uw_6)) (hts _ (List.mem_cons_of_mem _ uw_124)) (hts _ (List.mem_cons_of_mem _ uw_68)) rfl (by decide +kernel) ⟨Nat.le_of_ble_eq_true rfl, Nat.le_of_ble_eq_true rfl⟩) ⟨an_blind (D := D) (a := a + 13) (ci := 6) (cI := cI) (dfs := [.null]) (ex := [.int (nI (24))]) (E := (fun _ _ => True)), fun U hU hW => ⟨rfl, by rw [hU]; exact g19, by rw [hU]; have := J19.2.1; omega, by rw [hU]; exact trivial, va_K.moved hW.alike hK, by rw [hW.alike.findClass]; exact hfI, hNw.warm hW⟩⟩ rfl rfl hl.1 rfl (Nat.le_of_ble_eq_true rfl) dX9_init_89 ⟨by show 14 ≤ 35; omega, by show 0 + 1 + (((24))) + 1 + (((24))) + 1 + (((24))) + 1 + (((24))) + 1 + (((24))) + 1 + (((24))) + 1 + ((24)) ≤ (1075); omega⟩) (by omega) J19 rfl (by have := J19.2.1; omega) (by omega) (fun H20 J20 f20_20 k20 => ?_)
  have x20 := lo17 _ _ (fun q q1 q2 => k20 q (by have := J19.2.1; omega) (by omega)) x19
  have kp20 : an_kp a s.heap H20 := fun q q1 q2 => (k20 q (by have := J19.2.1; omega) (by omega)).trans (kp19 q q1 q2)
  have lo20 := an_lo_c (P := fun H => an_row D cI (24) (a + 13) H) (b1 := a + 13 + 2) lo17 (an_row_loc (a + 13)) (by omega) (by omega) (by omega)
  have w20 : an_cj _ (fun H => an_row D cI (24) (a + 13) H) _ := And.intro x20 f20_20
  refine an_put (ty := tyX9 7) hF.1 hF.2.1 hts (fun w h => List.mem_cons_of_mem _ (iu_X9 w h)) tyX9 tyX9_ok nmX9 hF.2.2.2.1 hK J20 rfl 7 (by decide) (hts _ (List.mem_cons_of_mem _ uw_150)) (fun _ h => h) hin rfl (tyX9_ok 7 (by decide)) rfl rfl (Nat.le_of_ble_eq_true rfl) dX9_init_92 (fun H21 locs21 J21 k21 => ?_)
  have J21 : an_J D s 9 a [.int 0, .ref (a + 1), .ref (a + 3), .ref (a + 5), .ref (a + 7), .ref (a + 9), .ref (a + 11), .ref (a + 13), .null, .null, .null, .null, .null, .null, .null, .null, .null] H21 14 locs21 := J21
  have x21 := lo20 _ _ (fun q q1 q2 => k21 q (by have := J20.2.1; omega) (by omega)) w20
  have kp21 : an_kp a s.heap H21 := kp20.tr k21 (by have := J20.2.1; omega)
  clear k21 w20 kp20 x20 k20 f20_20 J20 kp19 x19 z19 k19 g19 J19 kp18 x18 J18 lo17
  refine lv_aload_n hF.1 hF.2.1 dX9_init_95 rfl (hl.2.2 _ (.head _)) ?_
  refine an_new (cj := 6) (gs := [.null]) (C := RX6) (T := TX6) (N := 1) hF.1 hF.2.1 hts (fun w h => List.mem_cons_of_mem _ (iu_X6 w h)) tyX6 tyX6_ok hF.2.2.2.1 (hts _ (List.mem_cons_of_mem _ uw_123)) (hts _ (List.mem_cons_of_mem _ uw_66)) (hts _ (List.mem_cons_of_mem _ uw_6)) hK J21 rfl (by decide +kernel) (by show 15 ≤ 35; omega) (by show 0 + 1 + (((24))) + 1 + (((24))) + 1 + (((24))) + 1 + (((24))) + 1 + (((24))) + 1 + (((24))) + 1 + (((24))) + 1 ≤ (1075); omega) dX9_init_96 (fun H22 J22 g22 k22 => ?_)
  have z22 : H21.size = a + 15 := by have := J21.2.1; omega
  rw [z22] at g22 ⊢
  have x22 := lo20 _ _ (fun q q1 q2 => k22 q (by have := J21.2.1; omega) (by omega)) x21
  have kp22 : an_kp a s.heap H22 := kp21.tr k22 (by have := J21.2.1; omega)
  refine lv_dup hF.1 hF.2.1 dX9_init_99 rfl ?_
  refine lv_bipush (v := nI 24) hF.1 hF.2.1 dX9_init_100 (by decide) ?_
  refine an_call (mc := 1) (ms := ((24))) (a1 := a + 15) (n := 1) (va_runI (As := [.int (nI (24))]) hF (c_X6_init l D cI (24) (by omega) (a + 15)) (cwI 1 hF.2.2.2.2 (am_gi uw_69) rfl rfl rfl (hts _ (List.mem_cons_of_mem _ uw_6)) (hts _ (List.mem_cons_of_mem _ uw_124)) (hts _ (List.mem_cons_of_mem _ uw_68)) rfl (by decide +kernel) ⟨Nat.le_of_ble_eq_true rfl, Nat.le_of_ble_eq_true rfl⟩) ⟨an_blind (D := D) (a := a + 15) (ci := 6) (cI := cI) (dfs := [.null]) (ex := [.int (nI (24))]) (E := (fun _ _ => True)), fun U hU hW => ⟨rfl, by rw [hU]; exact g22, by rw [hU]; have := J22.2.1; omega, by rw [hU]; exact trivial, va_K.moved hW.alike hK, by rw [hW.alike.findClass]; exact hfI, hNw.warm hW⟩⟩ rfl rfl hl.1 rfl (Nat.le_of_ble_eq_true rfl) dX9_init_102 ⟨by show 16 ≤ 35; omega, by show 0 + 1 + (((24))) + 1 + (((24))) + 1 + (((24))) + 1 + (((24))) + 1 + (((24))) + 1 + (((24))) + 1 + (((24))) + 1 + ((24)) ≤ (1075); omega⟩) (by omega) J22 rfl (by have := J22.2.1; omega) (by omega) (fun H23 J23 f23_23 k23 => ?_)
  have x23 := lo20 _ _ (fun q q1 q2 => k23 q (by have := J22.2.1; omega) (by omega)) x22
  have kp23 : an_kp a s.heap H23 := fun q q1 q2 => (k23 q (by have := J22.2.1; omega) (by omega)).trans (kp22 q q1 q2)
  have lo23 := an_lo_c (P := fun H => an_row D cI (24) (a + 15) H) (b1 := a + 15 + 2) lo20 (an_row_loc (a + 15)) (by omega) (by omega) (by omega)
  have w23 : an_cj _ (fun H => an_row D cI (24) (a + 15) H) _ := And.intro x23 f23_23
  refine an_put (ty := tyX9 8) hF.1 hF.2.1 hts (fun w h => List.mem_cons_of_mem _ (iu_X9 w h)) tyX9 tyX9_ok nmX9 hF.2.2.2.1 hK J23 rfl 8 (by decide) (hts _ (List.mem_cons_of_mem _ uw_153)) (fun _ h => h) hin rfl (tyX9_ok 8 (by decide)) rfl rfl (Nat.le_of_ble_eq_true rfl) dX9_init_105 (fun H24 locs24 J24 k24 => ?_)
  have J24 : an_J D s 9 a [.int 0, .ref (a + 1), .ref (a + 3), .ref (a + 5), .ref (a + 7), .ref (a + 9), .ref (a + 11), .ref (a + 13), .ref (a + 15), .null, .null, .null, .null, .null, .null, .null, .null] H24 16 locs24 := J24
  have x24 := lo23 _ _ (fun q q1 q2 => k24 q (by have := J23.2.1; omega) (by omega)) w23
  have kp24 : an_kp a s.heap H24 := kp23.tr k24 (by have := J23.2.1; omega)
  clear k24 w23 kp23 x23 k23 f23_23 J23 kp22 x22 z22 k22 g22 J22 kp21 x21 J21 lo20
  refine lv_aload_n hF.1 hF.2.1 dX9_init_108 rfl (hl.2.2 _ (.head _)) ?_
  refine an_new (cj := 6) (gs := [.null]) (C := RX6) (T := TX6) (N := 1) hF.1 hF.2.1 hts (fun w h => List.mem_cons_of_mem _ (iu_X6 w h)) tyX6 tyX6_ok hF.2.2.2.1 (hts _ (List.mem_cons_of_mem _ uw_123)) (hts _ (List.mem_cons_of_mem _ uw_66)) (hts _ (List.mem_cons_of_mem _ uw_6)) hK J24 rfl (by decide +kernel) (by show 17 ≤ 35; omega) (by show 0 + 1 + (((24))) + 1 + (((24))) + 1 + (((24))) + 1 + (((24))) + 1 + (((24))) + 1 + (((24))) + 1 + (((24))) + 1 + (((24))) + 1 ≤ (1075); omega) dX9_init_109 (fun H25 J25 g25 k25 => ?_)
  have z25 : H24.size = a + 17 := by have := J24.2.1; omega
  rw [z25] at g25 ⊢
  have x25 := lo23 _ _ (fun q q1 q2 => k25 q (by have := J24.2.1; omega) (by omega)) x24
  have kp25 : an_kp a s.heap H25 := kp24.tr k25 (by have := J24.2.1; omega)
  refine lv_dup hF.1 hF.2.1 dX9_init_112 rfl ?_
  refine lv_bipush (v := nI 24) hF.1 hF.2.1 dX9_init_113 (by decide) ?_
  refine an_call (mc := 1) (ms := ((24))) (a1 := a + 17) (n := 1) (va_runI (As := [.int (nI (24))]) hF (c_X6_init l D cI (24) (by omega) (a + 17)) (cwI 1 hF.2.2.2.2 (am_gi uw_69) rfl rfl rfl (hts _ (List.mem_cons_of_mem _ uw_6)) (hts _ (List.mem_cons_of_mem _ uw_124)) (hts _ (List.mem_cons_of_mem _ uw_68)) rfl (by decide +kernel) ⟨Nat.le_of_ble_eq_true rfl, Nat.le_of_ble_eq_true rfl⟩) ⟨an_blind (D := D) (a := a + 17) (ci := 6) (cI := cI) (dfs := [.null]) (ex := [.int (nI (24))]) (E := (fun _ _ => True)), fun U hU hW => ⟨rfl, by rw [hU]; exact g25, by rw [hU]; have := J25.2.1; omega, by rw [hU]; exact trivial, va_K.moved hW.alike hK, by rw [hW.alike.findClass]; exact hfI, hNw.warm hW⟩⟩ rfl rfl hl.1 rfl (Nat.le_of_ble_eq_true rfl) dX9_init_115 ⟨by show 18 ≤ 35; omega, by show 0 + 1 + (((24))) + 1 + (((24))) + 1 + (((24))) + 1 + (((24))) + 1 + (((24))) + 1 + (((24))) + 1 + (((24))) + 1 + (((24))) + 1 + ((24)) ≤ (1075); omega⟩) (by omega) J25 rfl (by have := J25.2.1; omega) (by omega) (fun H26 J26 f26_26 k26 => ?_)
  have x26 := lo23 _ _ (fun q q1 q2 => k26 q (by have := J25.2.1; omega) (by omega)) x25
  have kp26 : an_kp a s.heap H26 := fun q q1 q2 => (k26 q (by have := J25.2.1; omega) (by omega)).trans (kp25 q q1 q2)
  have lo26 := an_lo_c (P := fun H => an_row D cI (24) (a + 17) H) (b1 := a + 17 + 2) lo23 (an_row_loc (a + 17)) (by omega) (by omega) (by omega)
  have w26 : an_cj _ (fun H => an_row D cI (24) (a + 17) H) _ := And.intro x26 f26_26
  refine an_put (ty := tyX9 9) hF.1 hF.2.1 hts (fun w h => List.mem_cons_of_mem _ (iu_X9 w h)) tyX9 tyX9_ok nmX9 hF.2.2.2.1 hK J26 rfl 9 (by decide) (hts _ (List.mem_cons_of_mem _ uw_156)) (fun _ h => h) hin rfl (tyX9_ok 9 (by decide)) rfl rfl (Nat.le_of_ble_eq_true rfl) dX9_init_118 (fun H27 locs27 J27 k27 => ?_)
  have J27 : an_J D s 9 a [.int 0, .ref (a + 1), .ref (a + 3), .ref (a + 5), .ref (a + 7), .ref (a + 9), .ref (a + 11), .ref (a + 13), .ref (a + 15), .ref (a + 17), .null, .null, .null, .null, .null, .null, .null] H27 18 locs27 := J27
  have x27 := lo26 _ _ (fun q q1 q2 => k27 q (by have := J26.2.1; omega) (by omega)) w26
  have kp27 : an_kp a s.heap H27 := kp26.tr k27 (by have := J26.2.1; omega)
  clear k27 w26 kp26 x26 k26 f26_26 J26 kp25 x25 z25 k25 g25 J25 kp24 x24 J24 lo23
  refine lv_aload_n hF.1 hF.2.1 dX9_init_121 rfl (hl.2.2 _ (.head _)) ?_
  refine an_new (cj := 6) (gs := [.null]) (C := RX6) (T := TX6) (N := 1) hF.1 hF.2.1 hts (fun w h => List.mem_cons_of_mem _ (iu_X6 w h)) tyX6 tyX6_ok hF.2.2.2.1 (hts _ (List.mem_cons_of_mem _ uw_123)) (hts _ (List.mem_cons_of_mem _ uw_66)) (hts _ (List.mem_cons_of_mem _ uw_6)) hK J27 rfl (by decide +kernel) (by show 19 ≤ 35; omega) (by show 0 + 1 + (((24))) + 1 + (((24))) + 1 + (((24))) + 1 + (((24))) + 1 + (((24))) + 1 + (((24))) + 1 + (((24))) + 1 + (((24))) + 1 + (((24))) + 1 ≤ (1075); omega) dX9_init_122 (fun H28 J28 g28 k28 => ?_)
  have z28 : H27.size = a + 19 := by have := J27.2.1; omega
  rw [z28] at g28 ⊢
  have x28 := lo26 _ _ (fun q q1 q2 => k28 q (by have := J27.2.1; omega) (by omega)) x27
  have kp28 : an_kp a s.heap H28 := kp27.tr k28 (by have := J27.2.1; omega)
  refine lv_dup hF.1 hF.2.1 dX9_init_125 rfl ?_
  refine lv_bipush (v := nI 24) hF.1 hF.2.1 dX9_init_126 (by decide) ?_
  refine an_call (mc := 1) (ms := ((24))) (a1 := a + 19) (n := 1) (va_runI (As := [.int (nI (24))]) hF (c_X6_init l D cI (24) (by omega) (a + 19)) (cwI 1 hF.2.2.2.2 (am_gi uw_69) rfl rfl rfl (hts _ (List.mem_cons_of_mem _ uw_6)) (hts _ (List.mem_cons_of_mem _ uw_124)) (hts _ (List.mem_cons_of_mem _ uw_68)) rfl (by decide +kernel) ⟨Nat.le_of_ble_eq_true rfl, Nat.le_of_ble_eq_true rfl⟩) ⟨an_blind (D := D) (a := a + 19) (ci := 6) (cI := cI) (dfs := [.null]) (ex := [.int (nI (24))]) (E := (fun _ _ => True)), fun U hU hW => ⟨rfl, by rw [hU]; exact g28, by rw [hU]; have := J28.2.1; omega, by rw [hU]; exact trivial, va_K.moved hW.alike hK, by rw [hW.alike.findClass]; exact hfI, hNw.warm hW⟩⟩ rfl rfl hl.1 rfl (Nat.le_of_ble_eq_true rfl) dX9_init_128 ⟨by show 20 ≤ 35; omega, by show 0 + 1 + (((24))) + 1 + (((24))) + 1 + (((24))) + 1 + (((24))) + 1 + (((24))) + 1 + (((24))) + 1 + (((24))) + 1 + (((24))) + 1 + (((24))) + 1 + ((24)) ≤ (1075); omega⟩) (by omega) J28 rfl (by have := J28.2.1; omega) (by omega) (fun H29 J29 f29_29 k29 => ?_)
  have x29 := lo26 _ _ (fun q q1 q2 => k29 q (by have := J28.2.1; omega) (by omega)) x28
  have kp29 : an_kp a s.heap H29 := fun q q1 q2 => (k29 q (by have := J28.2.1; omega) (by omega)).trans (kp28 q q1 q2)
  have lo29 := an_lo_c (P := fun H => an_row D cI (24) (a + 19) H) (b1 := a + 19 + 2) lo26 (an_row_loc (a + 19)) (by omega) (by omega) (by omega)
  have w29 : an_cj _ (fun H => an_row D cI (24) (a + 19) H) _ := And.intro x29 f29_29
  refine an_put (ty := tyX9 10) hF.1 hF.2.1 hts (fun w h => List.mem_cons_of_mem _ (iu_X9 w h)) tyX9 tyX9_ok nmX9 hF.2.2.2.1 hK J29 rfl 10 (by decide) (hts _ (List.mem_cons_of_mem _ uw_159)) (fun _ h => h) hin rfl (tyX9_ok 10 (by decide)) rfl rfl (Nat.le_of_ble_eq_true rfl) dX9_init_131 (fun H30 locs30 J30 k30 => ?_)
  have J30 : an_J D s 9 a [.int 0, .ref (a + 1), .ref (a + 3), .ref (a + 5), .ref (a + 7), .ref (a + 9), .ref (a + 11), .ref (a + 13), .ref (a + 15), .ref (a + 17), .ref (a + 19), .null, .null, .null, .null, .null, .null] H30 20 locs30 := J30
  have x30 := lo29 _ _ (fun q q1 q2 => k30 q (by have := J29.2.1; omega) (by omega)) w29
  have kp30 : an_kp a s.heap H30 := kp29.tr k30 (by have := J29.2.1; omega)
  clear k30 w29 kp29 x29 k29 f29_29 J29 kp28 x28 z28 k28 g28 J28 kp27 x27 J27 lo26
  refine lv_aload_n hF.1 hF.2.1 dX9_init_134 rfl (hl.2.2 _ (.head _)) ?_
  refine an_new (cj := 6) (gs := [.null]) (C := RX6) (T := TX6) (N := 1) hF.1 hF.2.1 hts (fun w h => List.mem_cons_of_mem _ (iu_X6 w h)) tyX6 tyX6_ok hF.2.2.2.1 (hts _ (List.mem_cons_of_mem _ uw_123)) (hts _ (List.mem_cons_of_mem _ uw_66)) (hts _ (List.mem_cons_of_mem _ uw_6)) hK J30 rfl (by decide +kernel) (by show 21 ≤ 35; omega) (by show 0 + 1 + (((24))) + 1 + (((24))) + 1 + (((24))) + 1 + (((24))) + 1 + (((24))) + 1 + (((24))) + 1 + (((24))) + 1 + (((24))) + 1 + (((24))) + 1 + (((24))) + 1 ≤ (1075); omega) dX9_init_135 (fun H31 J31 g31 k31 => ?_)
  have z31 : H30.size = a + 21 := by have := J30.2.1; omega
  rw [z31] at g31 ⊢
  have x31 := lo29 _ _ (fun q q1 q2 => k31 q (by have := J30.2.1; omega) (by omega)) x30
  have kp31 : an_kp a s.heap H31 := kp30.tr k31 (by have := J30.2.1; omega)
  refine lv_dup hF.1 hF.2.1 dX9_init_138 rfl ?_
  refine lv_bipush (v := nI 24) hF.1 hF.2.1 dX9_init_139 (by decide) ?_
  refine an_call (mc := 1) (ms := ((24))) (a1 := a + 21) (n := 1) (va_runI (As := [.int (nI (24))]) hF (c_X6_init l D cI (24) (by omega) (a + 21)) (cwI 1 hF.2.2.2.2 (am_gi uw_69) rfl rfl rfl (hts _ (List.mem_cons_of_mem _ uw_6)) (hts _ (List.mem_cons_of_mem _ uw_124)) (hts _ (List.mem_cons_of_mem _ uw_68)) rfl (by decide +kernel) ⟨Nat.le_of_ble_eq_true rfl, Nat.le_of_ble_eq_true rfl⟩) ⟨an_blind (D := D) (a := a + 21) (ci := 6) (cI := cI) (dfs := [.null]) (ex := [.int (nI (24))]) (E := (fun _ _ => True)), fun U hU hW => ⟨rfl, by rw [hU]; exact g31, by rw [hU]; have := J31.2.1; omega, by rw [hU]; exact trivial, va_K.moved hW.alike hK, by rw [hW.alike.findClass]; exact hfI, hNw.warm hW⟩⟩ rfl rfl hl.1 rfl (Nat.le_of_ble_eq_true rfl) dX9_init_141 ⟨by show 22 ≤ 35; omega, by show 0 + 1 + (((24))) + 1 + (((24))) + 1 + (((24))) + 1 + (((24))) + 1 + (((24))) + 1 + (((24))) + 1 + (((24))) + 1 + (((24))) + 1 + (((24))) + 1 + (((24))) + 1 + ((24)) ≤ (1075); omega⟩) (by omega) J31 rfl (by have := J31.2.1; omega) (by omega) (fun H32 J32 f32_32 k32 => ?_)
  have x32 := lo29 _ _ (fun q q1 q2 => k32 q (by have := J31.2.1; omega) (by omega)) x31
  have kp32 : an_kp a s.heap H32 := fun q q1 q2 => (k32 q (by have := J31.2.1; omega) (by omega)).trans (kp31 q q1 q2)
  have lo32 := an_lo_c (P := fun H => an_row D cI (24) (a + 21) H) (b1 := a + 21 + 2) lo29 (an_row_loc (a + 21)) (by omega) (by omega) (by omega)
  have w32 : an_cj _ (fun H => an_row D cI (24) (a + 21) H) _ := And.intro x32 f32_32
  refine an_put (ty := tyX9 11) hF.1 hF.2.1 hts (fun w h => List.mem_cons_of_mem _ (iu_X9 w h)) tyX9 tyX9_ok nmX9 hF.2.2.2.1 hK J32 rfl 11 (by decide) (hts _ (List.mem_cons_of_mem _ uw_161)) (fun _ h => h) hin rfl (tyX9_ok 11 (by decide)) rfl rfl (Nat.le_of_ble_eq_true rfl) dX9_init_144 (fun H33 locs33 J33 k33 => ?_)
  have J33 : an_J D s 9 a [.int 0, .ref (a + 1), .ref (a + 3), .ref (a + 5), .ref (a + 7), .ref (a + 9), .ref (a + 11), .ref (a + 13), .ref (a + 15), .ref (a + 17), .ref (a + 19), .ref (a + 21), .null, .null, .null, .null, .null] H33 22 locs33 := J33
  have x33 := lo32 _ _ (fun q q1 q2 => k33 q (by have := J32.2.1; omega) (by omega)) w32
  have kp33 : an_kp a s.heap H33 := kp32.tr k33 (by have := J32.2.1; omega)
  clear k33 w32 kp32 x32 k32 f32_32 J32 kp31 x31 z31 k31 g31 J31 kp30 x30 J30 lo29
  refine lv_aload_n hF.1 hF.2.1 dX9_init_147 rfl (hl.2.2 _ (.head _)) ?_
  refine an_new (cj := 6) (gs := [.null]) (C := RX6) (T := TX6) (N := 1) hF.1 hF.2.1 hts (fun w h => List.mem_cons_of_mem _ (iu_X6 w h)) tyX6 tyX6_ok hF.2.2.2.1 (hts _ (List.mem_cons_of_mem _ uw_123)) (hts _ (List.mem_cons_of_mem _ uw_66)) (hts _ (List.mem_cons_of_mem _ uw_6)) hK J33 rfl (by decide +kernel) (by show 23 ≤ 35; omega) (by show 0 + 1 + (((24))) + 1 + (((24))) + 1 + (((24))) + 1 + (((24))) + 1 + (((24))) + 1 + (((24))) + 1 + (((24))) + 1 + (((24))) + 1 + (((24))) + 1 + (((24))) + 1 + (((24))) + 1 ≤ (1075); omega) dX9_init_148 (fun H34 J34 g34 k34 => ?_)
  have z34 : H33.size = a + 23 := by have := J33.2.1; omega
  rw [z34] at g34 ⊢
  have x34 := lo32 _ _ (fun q q1 q2 => k34 q (by have := J33.2.1; omega) (by omega)) x33
  have kp34 : an_kp a s.heap H34 := kp33.tr k34 (by have := J33.2.1; omega)
  refine lv_dup hF.1 hF.2.1 dX9_init_151 rfl ?_
  refine lv_bipush (v := nI 24) hF.1 hF.2.1 dX9_init_152 (by decide) ?_
  refine an_call (mc := 1) (ms := ((24))) (a1 := a + 23) (n := 1) (va_runI (As := [.int (nI (24))]) hF (c_X6_init l D cI (24) (by omega) (a + 23)) (cwI 1 hF.2.2.2.2 (am_gi uw_69) rfl rfl rfl (hts _ (List.mem_cons_of_mem _ uw_6)) (hts _ (List.mem_cons_of_mem _ uw_124)) (hts _ (List.mem_cons_of_mem _ uw_68)) rfl (by decide +kernel) ⟨Nat.le_of_ble_eq_true rfl, Nat.le_of_ble_eq_true rfl⟩) ⟨an_blind (D := D) (a := a + 23) (ci := 6) (cI := cI) (dfs := [.null]) (ex := [.int (nI (24))]) (E := (fun _ _ => True)), fun U hU hW => ⟨rfl, by rw [hU]; exact g34, by rw [hU]; have := J34.2.1; omega, by rw [hU]; exact trivial, va_K.moved hW.alike hK, by rw [hW.alike.findClass]; exact hfI, hNw.warm hW⟩⟩ rfl rfl hl.1 rfl (Nat.le_of_ble_eq_true rfl) dX9_init_154 ⟨by show 24 ≤ 35; omega, by show 0 + 1 + (((24))) + 1 + (((24))) + 1 + (((24))) + 1 + (((24))) + 1 + (((24))) + 1 + (((24))) + 1 + (((24))) + 1 + (((24))) + 1 + (((24))) + 1 + (((24))) + 1 + (((24))) + 1 + ((24)) ≤ (1075); omega⟩) (by omega) J34 rfl (by have := J34.2.1; omega) (by omega) (fun H35 J35 f35_35 k35 => ?_)
  have x35 := lo32 _ _ (fun q q1 q2 => k35 q (by have := J34.2.1; omega) (by omega)) x34
  have kp35 : an_kp a s.heap H35 := fun q q1 q2 => (k35 q (by have := J34.2.1; omega) (by omega)).trans (kp34 q q1 q2)
  have lo35 := an_lo_c (P := fun H => an_row D cI (24) (a + 23) H) (b1 := a + 23 + 2) lo32 (an_row_loc (a + 23)) (by omega) (by omega) (by omega)
  have w35 : an_cj _ (fun H => an_row D cI (24) (a + 23) H) _ := And.intro x35 f35_35
  refine an_put (ty := tyX9 12) hF.1 hF.2.1 hts (fun w h => List.mem_cons_of_mem _ (iu_X9 w h)) tyX9 tyX9_ok nmX9 hF.2.2.2.1 hK J35 rfl 12 (by decide) (hts _ (List.mem_cons_of_mem _ uw_164)) (fun _ h => h) hin rfl (tyX9_ok 12 (by decide)) rfl rfl (Nat.le_of_ble_eq_true rfl) dX9_init_157 (fun H36 locs36 J36 k36 => ?_)
  have J36 : an_J D s 9 a [.int 0, .ref (a + 1), .ref (a + 3), .ref (a + 5), .ref (a + 7), .ref (a + 9), .ref (a + 11), .ref (a + 13), .ref (a + 15), .ref (a + 17), .ref (a + 19), .ref (a + 21), .ref (a + 23), .null, .null, .null, .null] H36 24 locs36 := J36
  have x36 := lo35 _ _ (fun q q1 q2 => k36 q (by have := J35.2.1; omega) (by omega)) w35
  have kp36 : an_kp a s.heap H36 := kp35.tr k36 (by have := J35.2.1; omega)
  clear k36 w35 kp35 x35 k35 f35_35 J35 kp34 x34 z34 k34 g34 J34 kp33 x33 J33 lo32
  refine lv_aload_n hF.1 hF.2.1 dX9_init_160 rfl (hl.2.2 _ (.head _)) ?_
  refine an_new (cj := 6) (gs := [.null]) (C := RX6) (T := TX6) (N := 1) hF.1 hF.2.1 hts (fun w h => List.mem_cons_of_mem _ (iu_X6 w h)) tyX6 tyX6_ok hF.2.2.2.1 (hts _ (List.mem_cons_of_mem _ uw_123)) (hts _ (List.mem_cons_of_mem _ uw_66)) (hts _ (List.mem_cons_of_mem _ uw_6)) hK J36 rfl (by decide +kernel) (by show 25 ≤ 35; omega) (by show 0 + 1 + (((24))) + 1 + (((24))) + 1 + (((24))) + 1 + (((24))) + 1 + (((24))) + 1 + (((24))) + 1 + (((24))) + 1 + (((24))) + 1 + (((24))) + 1 + (((24))) + 1 + (((24))) + 1 + (((24))) + 1 ≤ (1075); omega) dX9_init_161 (fun H37 J37 g37 k37 => ?_)
  have z37 : H36.size = a + 25 := by have := J36.2.1; omega
  rw [z37] at g37 ⊢
  have x37 := lo35 _ _ (fun q q1 q2 => k37 q (by have := J36.2.1; omega) (by omega)) x36
  have kp37 : an_kp a s.heap H37 := kp36.tr k37 (by have := J36.2.1; omega)
  refine lv_dup hF.1 hF.2.1 dX9_init_164 rfl ?_
  refine lv_bipush (v := nI 24) hF.1 hF.2.1 dX9_init_165 (by decide) ?_
  refine an_call (mc := 1) (ms := ((24))) (a1 := a + 25) (n := 1) (va_runI (As := [.int (nI (24))]) hF (c_X6_init l D cI (24) (by omega) (a + 25)) (cwI 1 hF.2.2.2.2 (am_gi uw_69) rfl rfl rfl (hts _ (List.mem_cons_of_mem _ uw_6)) (hts _ (List.mem_cons_of_mem _ uw_124)) (hts _ (List.mem_cons_of_mem _ uw_68)) rfl (by decide +kernel) ⟨Nat.le_of_ble_eq_true rfl, Nat.le_of_ble_eq_true rfl⟩) ⟨an_blind (D := D) (a := a + 25) (ci := 6) (cI := cI) (dfs := [.null]) (ex := [.int (nI (24))]) (E := (fun _ _ => True)), fun U hU hW => ⟨rfl, by rw [hU]; exact g37, by rw [hU]; have := J37.2.1; omega, by rw [hU]; exact trivial, va_K.moved hW.alike hK, by rw [hW.alike.findClass]; exact hfI, hNw.warm hW⟩⟩ rfl rfl hl.1 rfl (Nat.le_of_ble_eq_true rfl) dX9_init_167 ⟨by show 26 ≤ 35; omega, by show 0 + 1 + (((24))) + 1 + (((24))) + 1 + (((24))) + 1 + (((24))) + 1 + (((24))) + 1 + (((24))) + 1 + (((24))) + 1 + (((24))) + 1 + (((24))) + 1 + (((24))) + 1 + (((24))) + 1 + (((24))) + 1 + ((24)) ≤ (1075); omega⟩) (by omega) J37 rfl (by have := J37.2.1; omega) (by omega) (fun H38 J38 f38_38 k38 => ?_)
  have x38 := lo35 _ _ (fun q q1 q2 => k38 q (by have := J37.2.1; omega) (by omega)) x37
  have kp38 : an_kp a s.heap H38 := fun q q1 q2 => (k38 q (by have := J37.2.1; omega) (by omega)).trans (kp37 q q1 q2)
  have lo38 := an_lo_c (P := fun H => an_row D cI (24) (a + 25) H) (b1 := a + 25 + 2) lo35 (an_row_loc (a + 25)) (by omega) (by omega) (by omega)
  have w38 : an_cj _ (fun H => an_row D cI (24) (a + 25) H) _ := And.intro x38 f38_38
  refine an_put (ty := tyX9 13) hF.1 hF.2.1 hts (fun w h => List.mem_cons_of_mem _ (iu_X9 w h)) tyX9 tyX9_ok nmX9 hF.2.2.2.1 hK J38 rfl 13 (by decide) (hts _ (List.mem_cons_of_mem _ uw_165)) (fun _ h => h) hin rfl (tyX9_ok 13 (by decide)) rfl rfl (Nat.le_of_ble_eq_true rfl) dX9_init_170 (fun H39 locs39 J39 k39 => ?_)
  have J39 : an_J D s 9 a [.int 0, .ref (a + 1), .ref (a + 3), .ref (a + 5), .ref (a + 7), .ref (a + 9), .ref (a + 11), .ref (a + 13), .ref (a + 15), .ref (a + 17), .ref (a + 19), .ref (a + 21), .ref (a + 23), .ref (a + 25), .null, .null, .null] H39 26 locs39 := J39
  have x39 := lo38 _ _ (fun q q1 q2 => k39 q (by have := J38.2.1; omega) (by omega)) w38
  have kp39 : an_kp a s.heap H39 := kp38.tr k39 (by have := J38.2.1; omega)
  clear k39 w38 kp38 x38 k38 f38_38 J38 kp37 x37 z37 k37 g37 J37 kp36 x36 J36 lo35
  refine lv_aload_n hF.1 hF.2.1 dX9_init_173 rfl (hl.2.2 _ (.head _)) ?_
  refine an_new (cj := 6) (gs := [.null]) (C := RX6) (T := TX6) (N := 1) hF.1 hF.2.1 hts (fun w h => List.mem_cons_of_mem _ (iu_X6 w h)) tyX6 tyX6_ok hF.2.2.2.1 (hts _ (List.mem_cons_of_mem _ uw_123)) (hts _ (List.mem_cons_of_mem _ uw_66)) (hts _ (List.mem_cons_of_mem _ uw_6)) hK J39 rfl (by decide +kernel) (by show 27 ≤ 35; omega) (by show 0 + 1 + (((24))) + 1 + (((24))) + 1 + (((24))) + 1 + (((24))) + 1 + (((24))) + 1 + (((24))) + 1 + (((24))) + 1 + (((24))) + 1 + (((24))) + 1 + (((24))) + 1 + (((24))) + 1 + (((24))) + 1 + (((24))) + 1 ≤ (1075); omega) dX9_init_174 (fun H40 J40 g40 k40 => ?_)
  have z40 : H39.size = a + 27 := by have := J39.2.1; omega
  rw [z40] at g40 ⊢
  have x40 := lo38 _ _ (fun q q1 q2 => k40 q (by have := J39.2.1; omega) (by omega)) x39
  have kp40 : an_kp a s.heap H40 := kp39.tr k40 (by have := J39.2.1; omega)
  refine lv_dup hF.1 hF.2.1 dX9_init_177 rfl ?_
  refine lv_bipush (v := nI 24) hF.1 hF.2.1 dX9_init_178 (by decide) ?_
  refine an_call (mc := 1) (ms := ((24))) (a1 := a + 27) (n := 1) (va_runI (As := [.int (nI (24))]) hF (c_X6_init l D cI (24) (by omega) (a + 27)) (cwI 1 hF.2.2.2.2 (am_gi uw_69) rfl rfl rfl (hts _ (List.mem_cons_of_mem _ uw_6)) (hts _ (List.mem_cons_of_mem _ uw_124)) (hts _ (List.mem_cons_of_mem _ uw_68)) rfl (by decide +kernel) ⟨Nat.le_of_ble_eq_true rfl, Nat.le_of_ble_eq_true rfl⟩) ⟨an_blind (D := D) (a := a + 27) (ci := 6) (cI := cI) (dfs := [.null]) (ex := [.int (nI (24))]) (E := (fun _ _ => True)), fun U hU hW => ⟨rfl, by rw [hU]; exact g40, by rw [hU]; have := J40.2.1; omega, by rw [hU]; exact trivial, va_K.moved hW.alike hK, by rw [hW.alike.findClass]; exact hfI, hNw.warm hW⟩⟩ rfl rfl hl.1 rfl (Nat.le_of_ble_eq_true rfl) dX9_init_180 ⟨by show 28 ≤ 35; omega, by show 0 + 1 + (((24))) + 1 + (((24))) + 1 + (((24))) + 1 + (((24))) + 1 + (((24))) + 1 + (((24))) + 1 + (((24))) + 1 + (((24))) + 1 + (((24))) + 1 + (((24))) + 1 + (((24))) + 1 + (((24))) + 1 + (((24))) + 1 + ((24)) ≤ (1075); omega⟩) (by omega) J40 rfl (by have := J40.2.1; omega) (by omega) (fun H41 J41 f41_41 k41 => ?_)
  have x41 := lo38 _ _ (fun q q1 q2 => k41 q (by have := J40.2.1; omega) (by omega)) x40
  have kp41 : an_kp a s.heap H41 := fun q q1 q2 => (k41 q (by have := J40.2.1; omega) (by omega)).trans (kp40 q q1 q2)
  have lo41 := an_lo_c (P := fun H => an_row D cI (24) (a + 27) H) (b1 := a + 27 + 2) lo38 (an_row_loc (a + 27)) (by omega) (by omega) (by omega)
  have w41 : an_cj _ (fun H => an_row D cI (24) (a + 27) H) _ := And.intro x41 f41_41
  refine an_put (ty := tyX9 14) hF.1 hF.2.1 hts (fun w h => List.mem_cons_of_mem _ (iu_X9 w h)) tyX9 tyX9_ok nmX9 hF.2.2.2.1 hK J41 rfl 14 (by decide) (hts _ (List.mem_cons_of_mem _ uw_166)) (fun _ h => h) hin rfl (tyX9_ok 14 (by decide)) rfl rfl (Nat.le_of_ble_eq_true rfl) dX9_init_183 (fun H42 locs42 J42 k42 => ?_)
  have J42 : an_J D s 9 a [.int 0, .ref (a + 1), .ref (a + 3), .ref (a + 5), .ref (a + 7), .ref (a + 9), .ref (a + 11), .ref (a + 13), .ref (a + 15), .ref (a + 17), .ref (a + 19), .ref (a + 21), .ref (a + 23), .ref (a + 25), .ref (a + 27), .null, .null] H42 28 locs42 := J42
  have x42 := lo41 _ _ (fun q q1 q2 => k42 q (by have := J41.2.1; omega) (by omega)) w41
  have kp42 : an_kp a s.heap H42 := kp41.tr k42 (by have := J41.2.1; omega)
  clear k42 w41 kp41 x41 k41 f41_41 J41 kp40 x40 z40 k40 g40 J40 kp39 x39 J39 lo38
  refine lv_aload_n hF.1 hF.2.1 dX9_init_186 rfl (hl.2.2 _ (.head _)) ?_
  refine an_new (cj := 6) (gs := [.null]) (C := RX6) (T := TX6) (N := 1) hF.1 hF.2.1 hts (fun w h => List.mem_cons_of_mem _ (iu_X6 w h)) tyX6 tyX6_ok hF.2.2.2.1 (hts _ (List.mem_cons_of_mem _ uw_123)) (hts _ (List.mem_cons_of_mem _ uw_66)) (hts _ (List.mem_cons_of_mem _ uw_6)) hK J42 rfl (by decide +kernel) (by show 29 ≤ 35; omega) (by show 0 + 1 + (((24))) + 1 + (((24))) + 1 + (((24))) + 1 + (((24))) + 1 + (((24))) + 1 + (((24))) + 1 + (((24))) + 1 + (((24))) + 1 + (((24))) + 1 + (((24))) + 1 + (((24))) + 1 + (((24))) + 1 + (((24))) + 1 + (((24))) + 1 ≤ (1075); omega) dX9_init_187 (fun H43 J43 g43 k43 => ?_)
  have z43 : H42.size = a + 29 := by have := J42.2.1; omega
  rw [z43] at g43 ⊢
  have x43 := lo41 _ _ (fun q q1 q2 => k43 q (by have := J42.2.1; omega) (by omega)) x42
  have kp43 : an_kp a s.heap H43 := kp42.tr k43 (by have := J42.2.1; omega)
  refine lv_dup hF.1 hF.2.1 dX9_init_190 rfl ?_
  refine lv_bipush (v := nI 120) hF.1 hF.2.1 dX9_init_191 (by decide) ?_
  refine an_call (mc := 1) (ms := ((120))) (a1 := a + 29) (n := 1) (va_runI (As := [.int (nI (120))]) hF (c_X6_init l D cI (120) (by omega) (a + 29)) (cwI 1 hF.2.2.2.2 (am_gi uw_69) rfl rfl rfl (hts _ (List.mem_cons_of_mem _ uw_6)) (hts _ (List.mem_cons_of_mem _ uw_124)) (hts _ (List.mem_cons_of_mem _ uw_68)) rfl (by decide +kernel) ⟨Nat.le_of_ble_eq_true rfl, Nat.le_of_ble_eq_true rfl⟩) ⟨an_blind (D := D) (a := a + 29) (ci := 6) (cI := cI) (dfs := [.null]) (ex := [.int (nI (120))]) (E := (fun _ _ => True)), fun U hU hW => ⟨rfl, by rw [hU]; exact g43, by rw [hU]; have := J43.2.1; omega, by rw [hU]; exact trivial, va_K.moved hW.alike hK, by rw [hW.alike.findClass]; exact hfI, hNw.warm hW⟩⟩ rfl rfl hl.1 rfl (Nat.le_of_ble_eq_true rfl) dX9_init_193 ⟨by show 30 ≤ 35; omega, by show 0 + 1 + (((24))) + 1 + (((24))) + 1 + (((24))) + 1 + (((24))) + 1 + (((24))) + 1 + (((24))) + 1 + (((24))) + 1 + (((24))) + 1 + (((24))) + 1 + (((24))) + 1 + (((24))) + 1 + (((24))) + 1 + (((24))) + 1 + (((24))) + 1 + ((120)) ≤ (1075); omega⟩) (by omega) J43 rfl (by have := J43.2.1; omega) (by omega) (fun H44 J44 f44_44 k44 => ?_)
  have x44 := lo41 _ _ (fun q q1 q2 => k44 q (by have := J43.2.1; omega) (by omega)) x43
  have kp44 : an_kp a s.heap H44 := fun q q1 q2 => (k44 q (by have := J43.2.1; omega) (by omega)).trans (kp43 q q1 q2)
  have lo44 := an_lo_c (P := fun H => an_row D cI (120) (a + 29) H) (b1 := a + 29 + 2) lo41 (an_row_loc (a + 29)) (by omega) (by omega) (by omega)
  have w44 : an_cj _ (fun H => an_row D cI (120) (a + 29) H) _ := And.intro x44 f44_44
  refine an_put (ty := tyX9 15) hF.1 hF.2.1 hts (fun w h => List.mem_cons_of_mem _ (iu_X9 w h)) tyX9 tyX9_ok nmX9 hF.2.2.2.1 hK J44 rfl 15 (by decide) (hts _ (List.mem_cons_of_mem _ uw_168)) (fun _ h => h) hin rfl (tyX9_ok 15 (by decide)) rfl rfl (Nat.le_of_ble_eq_true rfl) dX9_init_196 (fun H45 locs45 J45 k45 => ?_)
  have J45 : an_J D s 9 a [.int 0, .ref (a + 1), .ref (a + 3), .ref (a + 5), .ref (a + 7), .ref (a + 9), .ref (a + 11), .ref (a + 13), .ref (a + 15), .ref (a + 17), .ref (a + 19), .ref (a + 21), .ref (a + 23), .ref (a + 25), .ref (a + 27), .ref (a + 29), .null] H45 30 locs45 := J45
  have x45 := lo44 _ _ (fun q q1 q2 => k45 q (by have := J44.2.1; omega) (by omega)) w44
  have kp45 : an_kp a s.heap H45 := kp44.tr k45 (by have := J44.2.1; omega)
  clear k45 w44 kp44 x44 k44 f44_44 J44 kp43 x43 z43 k43 g43 J43 kp42 x42 J42 lo41
  refine lv_aload_n hF.1 hF.2.1 dX9_init_199 rfl (hl.2.2 _ (.head _)) ?_
  refine an_new (cj := 0) (gs := [.null, .null]) (C := RX0) (T := TX0) (N := 2) hF.1 hF.2.1 hts (fun w h => List.mem_cons_of_mem _ (iu_X0 w h)) tyX0 tyX0_ok hF.2.2.2.1 (hts _ (List.mem_cons_of_mem _ uw_125)) (hts _ (List.mem_cons_of_mem _ uw_60)) (hts _ (List.mem_cons_of_mem _ uw_5)) hK J45 rfl (by decide +kernel) (by show 31 ≤ 35; omega) (by show 0 + 1 + (((24))) + 1 + (((24))) + 1 + (((24))) + 1 + (((24))) + 1 + (((24))) + 1 + (((24))) + 1 + (((24))) + 1 + (((24))) + 1 + (((24))) + 1 + (((24))) + 1 + (((24))) + 1 + (((24))) + 1 + (((24))) + 1 + (((24))) + 1 + (((120))) + 2 ≤ (1075); omega) dX9_init_200 (fun H46 J46 g46 k46 => ?_)
  have z46 : H45.size = a + 31 := by have := J45.2.1; omega
  rw [z46] at g46 ⊢
  have x46 := lo44 _ _ (fun q q1 q2 => k46 q (by have := J45.2.1; omega) (by omega)) x45
  have kp46 : an_kp a s.heap H46 := kp45.tr k46 (by have := J45.2.1; omega)
  refine lv_dup hF.1 hF.2.1 dX9_init_203 rfl ?_
  refine lv_bipush (v := nI 24) hF.1 hF.2.1 dX9_init_204 (by decide) ?_
  refine an_call (mc := 4) (ms := 1 + ((((24)))) + 1 + ((((24) * 24)))) (a1 := a + 31) (n := 4) (va_runI (As := [.int (nI (24))]) hF (c_X0_init l D cI (24) (by omega) (a + 31)) (cwI 1 hF.2.2.2.2 (am_gi uw_63) rfl rfl rfl (hts _ (List.mem_cons_of_mem _ uw_5)) (hts _ (List.mem_cons_of_mem _ uw_126)) (hts _ (List.mem_cons_of_mem _ uw_62)) rfl (by decide +kernel) ⟨Nat.le_of_ble_eq_true rfl, Nat.le_of_ble_eq_true rfl⟩) ⟨an_blind (D := D) (a := a + 31) (ci := 0) (cI := cI) (dfs := [.null, .null]) (ex := [.int (nI (24))]) (E := (fun _ _ => True)), fun U hU hW => ⟨rfl, by rw [hU]; exact g46, by rw [hU]; have := J46.2.1; omega, by rw [hU]; exact trivial, va_K.moved hW.alike hK, by rw [hW.alike.findClass]; exact hfI, hNw.warm hW⟩⟩ rfl rfl hl.1 rfl (Nat.le_of_ble_eq_true rfl) dX9_init_206 ⟨by show 35 ≤ 35; omega, by show 0 + 1 + (((24))) + 1 + (((24))) + 1 + (((24))) + 1 + (((24))) + 1 + (((24))) + 1 + (((24))) + 1 + (((24))) + 1 + (((24))) + 1 + (((24))) + 1 + (((24))) + 1 + (((24))) + 1 + (((24))) + 1 + (((24))) + 1 + (((24))) + 1 + (((120))) + 2 + 1 + ((((24)))) + 1 + ((((24) * 24))) ≤ (1075); omega⟩) (by omega) J46 rfl (by have := J46.2.1; omega) (by omega) (fun H47 J47 f47_47 k47 => ?_)
  have x47 := lo44 _ _ (fun q q1 q2 => k47 q (by have := J46.2.1; omega) (by omega)) x46
  have kp47 : an_kp a s.heap H47 := fun q q1 q2 => (k47 q (by have := J46.2.1; omega) (by omega)).trans (kp46 q q1 q2)
  have lo47 := an_lo_c (P := fun H => an_book D cI (24) (a + 31) H) (b1 := a + 31 + 5) lo44 (an_book_loc (a + 31)) (by omega) (by omega) (by omega)
  have w47 : an_cj _ (fun H => an_book D cI (24) (a + 31) H) _ := And.intro x47 f47_47
  refine an_put (ty := tyX9 16) hF.1 hF.2.1 hts (fun w h => List.mem_cons_of_mem _ (iu_X9 w h)) tyX9 tyX9_ok nmX9 hF.2.2.2.1 hK J47 rfl 16 (by decide) (hts _ (List.mem_cons_of_mem _ uw_169)) (fun _ h => h) hin rfl (tyX9_ok 16 (by decide)) rfl rfl (Nat.le_of_ble_eq_true rfl) dX9_init_209 (fun H48 locs48 J48 k48 => ?_)
  have J48 : an_J D s 9 a [.int 0, .ref (a + 1), .ref (a + 3), .ref (a + 5), .ref (a + 7), .ref (a + 9), .ref (a + 11), .ref (a + 13), .ref (a + 15), .ref (a + 17), .ref (a + 19), .ref (a + 21), .ref (a + 23), .ref (a + 25), .ref (a + 27), .ref (a + 29), .ref (a + 31)] H48 35 locs48 := J48
  have x48 := lo47 _ _ (fun q q1 q2 => k48 q (by have := J47.2.1; omega) (by omega)) w47
  have kp48 : an_kp a s.heap H48 := kp47.tr k48 (by have := J47.2.1; omega)
  clear k48 w47 kp47 x47 k47 f47_47 J47 kp46 x46 z46 k46 g46 J46 kp45 x45 J45 lo44
  obtain ⟨⟨⟨⟨⟨⟨⟨⟨⟨⟨⟨⟨⟨⟨⟨⟨-, y0⟩, y1⟩, y2⟩, y3⟩, y4⟩, y5⟩, y6⟩, y7⟩, y8⟩, y9⟩, y10⟩, y11⟩, y12⟩, y13⟩, y14⟩, y15⟩ := x48
  refine W.widen (k := 35) (n := (1075)) (by omega) (by omega) ?_
  exact an_fin (P := an_task D cI) hF.1 hF.2.1 B.returns B.notSynchronized J48 kp48 hsz ⟨J48.1, y0, y1, y2, y3, y4, y5, y6, y7, y8, y9, y10, y11, y12, y13, y14, y15⟩ dX9_init_212
def an_worl (D : va_G) (cI : ClassId) (a : Nat) (H : Heap) : Prop := an_at D 10 a [.ref (a + 1), .ref (a + 6), .ref (a + 42), .ref (a + 66), .ref (a + 73), .ref (a + 80), .ref (a + 82), .ref (a + 84)] H ∧ an_book D cI (6) (a + 1) H ∧ an_task D cI (a + 6) H ∧ an_scop D cI (a + 42) H ∧ an_chan D cI (a + 66) H ∧ an_fail D cI (a + 73) H ∧ an_line D cI (24) (a + 80) H ∧ an_line D cI (24) (a + 82) H ∧ an_row D cI (12) (a + 84) H
theorem an_worl_loc {D : va_G} {cI : ClassId} (a : Nat) (H H1 : Heap) (h : ∀ q, a ≤ q → q < a + 86 → H1[q]? = H[q]?) (j : an_worl D cI (a) H) : an_worl D cI (a) H1 := by
  obtain ⟨j0, j1, j2, j3, j4, j5, j6, j7, j8⟩ := j
  exact ⟨an_mv (h a (by omega) (by omega)) j0, an_book_loc (a + 1) H H1 (fun q q1 q2 => h q (by omega) (by omega)) j1, an_task_loc (a + 6) H H1 (fun q q1 q2 => h q (by omega) (by omega)) j2, an_scop_loc (a + 42) H H1 (fun q q1 q2 => h q (by omega) (by omega)) j3, an_chan_loc (a + 66) H H1 (fun q q1 q2 => h q (by omega) (by omega)) j4, an_fail_loc (a + 73) H H1 (fun q q1 q2 => h q (by omega) (by omega)) j5, an_line_loc (a + 80) H H1 (fun q q1 q2 => h q (by omega) (by omega)) j6, an_line_loc (a + 82) H H1 (fun q q1 q2 => h q (by omega) (by omega)) j7, an_row_loc (a + 84) H H1 (fun q q1 q2 => h q (by omega) (by omega)) j8⟩
theorem c_X10_init (l : Launch) (D : va_G) (cI : ClassId) : an_Met l D cI yX10_init (Cond.code yX10_init cX10_init 1 none :: am_tb) { frames := 4, cells := 85, slots := 5390, locals := 160 } 10 [.null, .null, .null, .null, .null, .null, .null, .null] [] (fun _ _ => True) 85 (5390) (an_worl D cI) := by
  intro a
  refine Met.ofW (cc := cX10_init) (maxL := 1) (ret := none) (by decide +kernel) rfl ?_
  intro p e s m args below meth c s₁ B hml hv
  obtain ⟨rfl, hat, hsz, hE, hK, hfI, hNw⟩ := hv
  have hF := (⟨B.exec, B.bytes, hml, findClass_of_methodNamed B.named, atoms_spec (ws := Cond.code yX10_init cX10_init 1 none :: am_tb) B.pre⟩ : CallFix p m c cX10_init 1 s _ (Cond.code yX10_init cX10_init 1 none :: am_tb) yX10_init.cls)
  have hts := hF.2.2.2.2
  have hin : meth.name = "<init>" := (name_of_methodNamed B.named B.method).1
  have hl := lv_entry ([.ref a]) (n := 1) (Nat.le_of_ble_eq_true rfl)
  rw [lg_entry_eq]
  generalize (lg_sl ([.ref a]) ++ List.replicate (1 - (lg_sl ([.ref a])).length) Slot.unset).toArray = ls at hl ⊢
  have hl : lv_has ls 1 [(0, .ref a)] := hl
  have J0 : an_J D s 10 a [.null, .null, .null, .null, .null, .null, .null, .null] s.heap 0 [] := ⟨hat, rfl, fun _ h => absurd h List.not_mem_nil, by omega⟩
  have kp0 : an_kp a s.heap s.heap := an_kp.rf
  have x0 : an_tt s.heap := trivial
  have lo0 : an_lo a (a + 1) an_tt := fun _ _ _ h => h
  refine lv_aload_n hF.1 hF.2.1 dX10_init_0 rfl (hl.2.2 _ (.head _)) ?_
  refine W.objInit hF.1 hF.2.1 hF.2.2.2.1 (hts _ (List.mem_cons_of_mem _ uw_114)) (hts _ (List.mem_cons_of_mem _ uw_34)) (hts _ (List.mem_cons_of_mem _ uw_35)) rfl (hl.1.trans hF.2.2.1.symm) rfl dX10_init_1 (Nat.le_of_ble_eq_true rfl) (Nat.le_of_ble_eq_true rfl) ?_
  refine W.eq (g2 := F0 m 4 ls []) rfl ?_
  refine lv_aload_n hF.1 hF.2.1 dX10_init_4 rfl (hl.2.2 _ (.head _)) ?_
  refine an_new (cj := 0) (gs := [.null, .null]) (C := RX0) (T := TX0) (N := 2) hF.1 hF.2.1 hts (fun w h => List.mem_cons_of_mem _ (iu_X0 w h)) tyX0 tyX0_ok hF.2.2.2.1 (hts _ (List.mem_cons_of_mem _ uw_115)) (hts _ (List.mem_cons_of_mem _ uw_60)) (hts _ (List.mem_cons_of_mem _ uw_5)) hK J0 rfl (by decide +kernel) (by show 1 ≤ 85; omega) (by show 0 + 2 ≤ (5390); omega) dX10_init_5 (fun H1 J1 g1 k1 => ?_)
  have z1 : s.heap.size = a + 1 := by have := J0.2.1; omega
  rw [z1] at g1 ⊢
  have x1 := lo0 _ _ (fun q q1 q2 => k1 q (by have := J0.2.1; omega) (by omega)) x0
  have kp1 : an_kp a s.heap H1 := kp0.tr k1 (by have := J0.2.1; omega)
  refine lv_dup hF.1 hF.2.1 dX10_init_8 rfl ?_
  refine lv_bipush (v := nI 6) hF.1 hF.2.1 dX10_init_9 (by decide) ?_
  refine an_call (mc := 4) (ms := 1 + ((((6)))) + 1 + ((((6) * 24)))) (a1 := a + 1) (n := 4) (va_runI (As := [.int (nI (6))]) hF (c_X0_init l D cI (6) (by omega) (a + 1)) (cwI 1 hF.2.2.2.2 (am_gi uw_63) rfl rfl rfl (hts _ (List.mem_cons_of_mem _ uw_5)) (hts _ (List.mem_cons_of_mem _ uw_116)) (hts _ (List.mem_cons_of_mem _ uw_62)) rfl (by decide +kernel) ⟨Nat.le_of_ble_eq_true rfl, Nat.le_of_ble_eq_true rfl⟩) ⟨an_blind (D := D) (a := a + 1) (ci := 0) (cI := cI) (dfs := [.null, .null]) (ex := [.int (nI (6))]) (E := (fun _ _ => True)), fun U hU hW => ⟨rfl, by rw [hU]; exact g1, by rw [hU]; have := J1.2.1; omega, by rw [hU]; exact trivial, va_K.moved hW.alike hK, by rw [hW.alike.findClass]; exact hfI, hNw.warm hW⟩⟩ rfl rfl hl.1 rfl (Nat.le_of_ble_eq_true rfl) dX10_init_11 ⟨by show 5 ≤ 85; omega, by show 0 + 2 + 1 + ((((6)))) + 1 + ((((6) * 24))) ≤ (5390); omega⟩) (by omega) J1 rfl (by have := J1.2.1; omega) (by omega) (fun H2 J2 f2_2 k2 => ?_)
  have x2 := lo0 _ _ (fun q q1 q2 => k2 q (by have := J1.2.1; omega) (by omega)) x1
  have kp2 : an_kp a s.heap H2 := fun q q1 q2 => (k2 q (by have := J1.2.1; omega) (by omega)).trans (kp1 q q1 q2)
  have lo2 := an_lo_c (P := fun H => an_book D cI (6) (a + 1) H) (b1 := a + 1 + 5) lo0 (an_book_loc (a + 1)) (by omega) (by omega) (by omega)
  have w2 : an_cj _ (fun H => an_book D cI (6) (a + 1) H) _ := And.intro x2 f2_2
  refine an_put (ty := tyX10 0) hF.1 hF.2.1 hts (fun w h => List.mem_cons_of_mem _ (iu_X10 w h)) tyX10 tyX10_ok nmX10 hF.2.2.2.1 hK J2 rfl 0 (by decide) (hts _ (List.mem_cons_of_mem _ uw_312)) (fun _ h => h) hin rfl (tyX10_ok 0 (by decide)) rfl rfl (Nat.le_of_ble_eq_true rfl) dX10_init_14 (fun H3 locs3 J3 k3 => ?_)
  have J3 : an_J D s 10 a [.ref (a + 1), .null, .null, .null, .null, .null, .null, .null] H3 5 locs3 := J3
  have x3 := lo2 _ _ (fun q q1 q2 => k3 q (by have := J2.2.1; omega) (by omega)) w2
  have kp3 : an_kp a s.heap H3 := kp2.tr k3 (by have := J2.2.1; omega)
  clear k3 w2 kp2 x2 k2 f2_2 J2 kp1 x1 z1 k1 g1 J1
  refine lv_aload_n hF.1 hF.2.1 dX10_init_17 rfl (hl.2.2 _ (.head _)) ?_
  refine an_new (cj := 9) (gs := [.int 0, .null, .null, .null, .null, .null, .null, .null, .null, .null, .null, .null, .null, .null, .null, .null, .null]) (C := RX9) (T := TX9) (N := 17) hF.1 hF.2.1 hts (fun w h => List.mem_cons_of_mem _ (iu_X9 w h)) tyX9 tyX9_ok hF.2.2.2.1 (hts _ (List.mem_cons_of_mem _ uw_117)) (hts _ (List.mem_cons_of_mem _ uw_118)) (hts _ (List.mem_cons_of_mem _ uw_8)) hK J3 rfl (by decide +kernel) (by show 6 ≤ 85; omega) (by show 0 + 2 + (1 + ((((6)))) + 1 + ((((6) * 24)))) + 17 ≤ (5390); omega) dX10_init_18 (fun H4 J4 g4 k4 => ?_)
  have z4 : H3.size = a + 6 := by have := J3.2.1; omega
  rw [z4] at g4 ⊢
  have x4 := lo2 _ _ (fun q q1 q2 => k4 q (by have := J3.2.1; omega) (by omega)) x3
  have kp4 : an_kp a s.heap H4 := kp3.tr k4 (by have := J3.2.1; omega)
  refine lv_dup hF.1 hF.2.1 dX10_init_21 rfl ?_
  refine an_call (mc := 35) (ms := 1075) (a1 := a + 6) (n := 35) (va_runIN (host := "CoroutineScheduler") (As := []) hF (c_X9_init l D cI (a + 6)) ⟨va_cnB 0 hF.2.2.2.2 (am_gi uw_121) rfl rfl rfl (hNw ("CoroutineScheduler$World", 22, (⟨"CoroutineScheduler$Tasks", "<init>", "()V"⟩ : MethodName), "CoroutineScheduler") (by decide)) (hts _ (List.mem_cons_of_mem _ uw_8)) (by decide +kernel) ⟨Nat.le_of_ble_eq_true rfl, Nat.le_of_ble_eq_true rfl⟩, rfl, (hts _ (List.mem_cons_of_mem _ uw_120))⟩ ⟨an_blind (D := D) (a := a + 6) (ci := 9) (cI := cI) (dfs := [.int 0, .null, .null, .null, .null, .null, .null, .null, .null, .null, .null, .null, .null, .null, .null, .null, .null]) (ex := []) (E := (fun _ _ => True)), fun U hU hW => ⟨rfl, by rw [hU]; exact g4, by rw [hU]; have := J4.2.1; omega, by rw [hU]; exact trivial, va_K.moved hW.alike hK, by rw [hW.alike.findClass]; exact hfI, hNw.warm hW⟩⟩ rfl rfl hl.1 rfl (Nat.le_of_ble_eq_true rfl) dX10_init_22 ⟨by show 41 ≤ 85; omega, by show 0 + 2 + (1 + ((((6)))) + 1 + ((((6) * 24)))) + 17 + 1075 ≤ (5390); omega⟩) (by omega) J4 rfl (by have := J4.2.1; omega) (by omega) (fun H5 J5 f5_5 k5 => ?_)
  have x5 := lo2 _ _ (fun q q1 q2 => k5 q (by have := J4.2.1; omega) (by omega)) x4
  have kp5 : an_kp a s.heap H5 := fun q q1 q2 => (k5 q (by have := J4.2.1; omega) (by omega)).trans (kp4 q q1 q2)
  have lo5 := an_lo_c (P := fun H => an_task D cI (a + 6) H) (b1 := a + 6 + 36) lo2 (an_task_loc (a + 6)) (by omega) (by omega) (by omega)
  have w5 : an_cj _ (fun H => an_task D cI (a + 6) H) _ := And.intro x5 f5_5
  refine an_put (ty := tyX10 1) hF.1 hF.2.1 hts (fun w h => List.mem_cons_of_mem _ (iu_X10 w h)) tyX10 tyX10_ok nmX10 hF.2.2.2.1 hK J5 rfl 1 (by decide) (hts _ (List.mem_cons_of_mem _ uw_318)) (fun _ h => h) hin rfl (tyX10_ok 1 (by decide)) rfl rfl (Nat.le_of_ble_eq_true rfl) dX10_init_25 (fun H6 locs6 J6 k6 => ?_)
  have J6 : an_J D s 10 a [.ref (a + 1), .ref (a + 6), .null, .null, .null, .null, .null, .null] H6 41 locs6 := J6
  have x6 := lo5 _ _ (fun q q1 q2 => k6 q (by have := J5.2.1; omega) (by omega)) w5
  have kp6 : an_kp a s.heap H6 := kp5.tr k6 (by have := J5.2.1; omega)
  clear k6 w5 kp5 x5 k5 f5_5 J5 kp4 x4 z4 k4 g4 J4 kp3 x3 J3 lo2
  refine lv_aload_n hF.1 hF.2.1 dX10_init_28 rfl (hl.2.2 _ (.head _)) ?_
  refine an_new (cj := 8) (gs := [.int 0, .null, .null, .null, .null, .null, .null, .null, .null, .null, .null]) (C := RX8) (T := TX8) (N := 11) hF.1 hF.2.1 hts (fun w h => List.mem_cons_of_mem _ (iu_X8 w h)) tyX8 tyX8_ok hF.2.2.2.1 (hts _ (List.mem_cons_of_mem _ uw_207)) (hts _ (List.mem_cons_of_mem _ uw_208)) (hts _ (List.mem_cons_of_mem _ uw_9)) hK J6 rfl (by decide +kernel) (by show 42 ≤ 85; omega) (by show 0 + 2 + (1 + ((((6)))) + 1 + ((((6) * 24)))) + 17 + (1075) + 11 ≤ (5390); omega) dX10_init_29 (fun H7 J7 g7 k7 => ?_)
  have z7 : H6.size = a + 42 := by have := J6.2.1; omega
  rw [z7] at g7 ⊢
  have x7 := lo5 _ _ (fun q q1 q2 => k7 q (by have := J6.2.1; omega) (by omega)) x6
  have kp7 : an_kp a s.heap H7 := kp6.tr k7 (by have := J6.2.1; omega)
  refine lv_dup hF.1 hF.2.1 dX10_init_32 rfl ?_
  refine an_call (mc := 23) (ms := 2053) (a1 := a + 42) (n := 23) (va_runIN (host := "CoroutineScheduler") (As := []) hF (c_X8_init l D cI (a + 42)) ⟨va_cnB 0 hF.2.2.2.2 (am_gi uw_211) rfl rfl rfl (hNw ("CoroutineScheduler$World", 29, (⟨"CoroutineScheduler$Scopes", "<init>", "()V"⟩ : MethodName), "CoroutineScheduler") (by decide)) (hts _ (List.mem_cons_of_mem _ uw_9)) (by decide +kernel) ⟨Nat.le_of_ble_eq_true rfl, Nat.le_of_ble_eq_true rfl⟩, rfl, (hts _ (List.mem_cons_of_mem _ uw_210))⟩ ⟨an_blind (D := D) (a := a + 42) (ci := 8) (cI := cI) (dfs := [.int 0, .null, .null, .null, .null, .null, .null, .null, .null, .null, .null]) (ex := []) (E := (fun _ _ => True)), fun U hU hW => ⟨rfl, by rw [hU]; exact g7, by rw [hU]; have := J7.2.1; omega, by rw [hU]; exact trivial, va_K.moved hW.alike hK, by rw [hW.alike.findClass]; exact hfI, hNw.warm hW⟩⟩ rfl rfl hl.1 rfl (Nat.le_of_ble_eq_true rfl) dX10_init_33 ⟨by show 65 ≤ 85; omega, by show 0 + 2 + (1 + ((((6)))) + 1 + ((((6) * 24)))) + 17 + (1075) + 11 + 2053 ≤ (5390); omega⟩) (by omega) J7 rfl (by have := J7.2.1; omega) (by omega) (fun H8 J8 f8_8 k8 => ?_)
  have x8 := lo5 _ _ (fun q q1 q2 => k8 q (by have := J7.2.1; omega) (by omega)) x7
  have kp8 : an_kp a s.heap H8 := fun q q1 q2 => (k8 q (by have := J7.2.1; omega) (by omega)).trans (kp7 q q1 q2)
  have lo8 := an_lo_c (P := fun H => an_scop D cI (a + 42) H) (b1 := a + 42 + 24) lo5 (an_scop_loc (a + 42)) (by omega) (by omega) (by omega)
  have w8 : an_cj _ (fun H => an_scop D cI (a + 42) H) _ := And.intro x8 f8_8
  refine an_put (ty := tyX10 2) hF.1 hF.2.1 hts (fun w h => List.mem_cons_of_mem _ (iu_X10 w h)) tyX10 tyX10_ok nmX10 hF.2.2.2.1 hK J8 rfl 2 (by decide) (hts _ (List.mem_cons_of_mem _ uw_321)) (fun _ h => h) hin rfl (tyX10_ok 2 (by decide)) rfl rfl (Nat.le_of_ble_eq_true rfl) dX10_init_36 (fun H9 locs9 J9 k9 => ?_)
  have J9 : an_J D s 10 a [.ref (a + 1), .ref (a + 6), .ref (a + 42), .null, .null, .null, .null, .null] H9 65 locs9 := J9
  have x9 := lo8 _ _ (fun q q1 q2 => k9 q (by have := J8.2.1; omega) (by omega)) w8
  have kp9 : an_kp a s.heap H9 := kp8.tr k9 (by have := J8.2.1; omega)
  clear k9 w8 kp8 x8 k8 f8_8 J8 kp7 x7 z7 k7 g7 J7 kp6 x6 J6 lo5
  refine lv_aload_n hF.1 hF.2.1 dX10_init_39 rfl (hl.2.2 _ (.head _)) ?_
  refine an_new (cj := 1) (gs := [.null, .null, .null]) (C := RX1) (T := TX1) (N := 3) hF.1 hF.2.1 hts (fun w h => List.mem_cons_of_mem _ (iu_X1 w h)) tyX1 tyX1_ok hF.2.2.2.1 (hts _ (List.mem_cons_of_mem _ uw_264)) (hts _ (List.mem_cons_of_mem _ uw_265)) (hts _ (List.mem_cons_of_mem _ uw_10)) hK J9 rfl (by decide +kernel) (by show 66 ≤ 85; omega) (by show 0 + 2 + (1 + ((((6)))) + 1 + ((((6) * 24)))) + 17 + (1075) + 11 + (2053) + 3 ≤ (5390); omega) dX10_init_40 (fun H10 J10 g10 k10 => ?_)
  have z10 : H9.size = a + 66 := by have := J9.2.1; omega
  rw [z10] at g10 ⊢
  have x10 := lo8 _ _ (fun q q1 q2 => k10 q (by have := J9.2.1; omega) (by omega)) x9
  have kp10 : an_kp a s.heap H10 := kp9.tr k10 (by have := J9.2.1; omega)
  refine lv_dup hF.1 hF.2.1 dX10_init_43 rfl ?_
  refine an_call (mc := 6) (ms := 23) (a1 := a + 66) (n := 6) (va_runIN (host := "CoroutineScheduler") (As := []) hF (c_X1_init l D cI (a + 66)) ⟨va_cnB 0 hF.2.2.2.2 (am_gi uw_268) rfl rfl rfl (hNw ("CoroutineScheduler$World", 36, (⟨"CoroutineScheduler$Channels", "<init>", "()V"⟩ : MethodName), "CoroutineScheduler") (by decide)) (hts _ (List.mem_cons_of_mem _ uw_10)) (by decide +kernel) ⟨Nat.le_of_ble_eq_true rfl, Nat.le_of_ble_eq_true rfl⟩, rfl, (hts _ (List.mem_cons_of_mem _ uw_267))⟩ ⟨an_blind (D := D) (a := a + 66) (ci := 1) (cI := cI) (dfs := [.null, .null, .null]) (ex := []) (E := (fun _ _ => True)), fun U hU hW => ⟨rfl, by rw [hU]; exact g10, by rw [hU]; have := J10.2.1; omega, by rw [hU]; exact trivial, va_K.moved hW.alike hK, by rw [hW.alike.findClass]; exact hfI, hNw.warm hW⟩⟩ rfl rfl hl.1 rfl (Nat.le_of_ble_eq_true rfl) dX10_init_44 ⟨by show 72 ≤ 85; omega, by show 0 + 2 + (1 + ((((6)))) + 1 + ((((6) * 24)))) + 17 + (1075) + 11 + (2053) + 3 + 23 ≤ (5390); omega⟩) (by omega) J10 rfl (by have := J10.2.1; omega) (by omega) (fun H11 J11 f11_11 k11 => ?_)
  have x11 := lo8 _ _ (fun q q1 q2 => k11 q (by have := J10.2.1; omega) (by omega)) x10
  have kp11 : an_kp a s.heap H11 := fun q q1 q2 => (k11 q (by have := J10.2.1; omega) (by omega)).trans (kp10 q q1 q2)
  have lo11 := an_lo_c (P := fun H => an_chan D cI (a + 66) H) (b1 := a + 66 + 7) lo8 (an_chan_loc (a + 66)) (by omega) (by omega) (by omega)
  have w11 : an_cj _ (fun H => an_chan D cI (a + 66) H) _ := And.intro x11 f11_11
  refine an_put (ty := tyX10 3) hF.1 hF.2.1 hts (fun w h => List.mem_cons_of_mem _ (iu_X10 w h)) tyX10 tyX10_ok nmX10 hF.2.2.2.1 hK J11 rfl 3 (by decide) (hts _ (List.mem_cons_of_mem _ uw_324)) (fun _ h => h) hin rfl (tyX10_ok 3 (by decide)) rfl rfl (Nat.le_of_ble_eq_true rfl) dX10_init_47 (fun H12 locs12 J12 k12 => ?_)
  have J12 : an_J D s 10 a [.ref (a + 1), .ref (a + 6), .ref (a + 42), .ref (a + 66), .null, .null, .null, .null] H12 72 locs12 := J12
  have x12 := lo11 _ _ (fun q q1 q2 => k12 q (by have := J11.2.1; omega) (by omega)) w11
  have kp12 : an_kp a s.heap H12 := kp11.tr k12 (by have := J11.2.1; omega)
  clear k12 w11 kp11 x11 k11 f11_11 J11 kp10 x10 z10 k10 g10 J10 kp9 x9 J9 lo8
  refine lv_aload_n hF.1 hF.2.1 dX10_init_50 rfl (hl.2.2 _ (.head _)) ?_
  refine an_new (cj := 3) (gs := [.null, .null, .null]) (C := RX3) (T := TX3) (N := 3) hF.1 hF.2.1 hts (fun w h => List.mem_cons_of_mem _ (iu_X3 w h)) tyX3 tyX3_ok hF.2.2.2.1 (hts _ (List.mem_cons_of_mem _ uw_288)) (hts _ (List.mem_cons_of_mem _ uw_289)) (hts _ (List.mem_cons_of_mem _ uw_11)) hK J12 rfl (by decide +kernel) (by show 73 ≤ 85; omega) (by show 0 + 2 + (1 + ((((6)))) + 1 + ((((6) * 24)))) + 17 + (1075) + 11 + (2053) + 3 + (23) + 3 ≤ (5390); omega) dX10_init_51 (fun H13 J13 g13 k13 => ?_)
  have z13 : H12.size = a + 73 := by have := J12.2.1; omega
  rw [z13] at g13 ⊢
  have x13 := lo11 _ _ (fun q q1 q2 => k13 q (by have := J12.2.1; omega) (by omega)) x12
  have kp13 : an_kp a s.heap H13 := kp12.tr k13 (by have := J12.2.1; omega)
  refine lv_dup hF.1 hF.2.1 dX10_init_54 rfl ?_
  refine an_call (mc := 6) (ms := 1986) (a1 := a + 73) (n := 6) (va_runIN (host := "CoroutineScheduler") (As := []) hF (c_X3_init l D cI (a + 73)) ⟨va_cnB 0 hF.2.2.2.2 (am_gi uw_292) rfl rfl rfl (hNw ("CoroutineScheduler$World", 43, (⟨"CoroutineScheduler$Failures", "<init>", "()V"⟩ : MethodName), "CoroutineScheduler") (by decide)) (hts _ (List.mem_cons_of_mem _ uw_11)) (by decide +kernel) ⟨Nat.le_of_ble_eq_true rfl, Nat.le_of_ble_eq_true rfl⟩, rfl, (hts _ (List.mem_cons_of_mem _ uw_291))⟩ ⟨an_blind (D := D) (a := a + 73) (ci := 3) (cI := cI) (dfs := [.null, .null, .null]) (ex := []) (E := (fun _ _ => True)), fun U hU hW => ⟨rfl, by rw [hU]; exact g13, by rw [hU]; have := J13.2.1; omega, by rw [hU]; exact trivial, va_K.moved hW.alike hK, by rw [hW.alike.findClass]; exact hfI, hNw.warm hW⟩⟩ rfl rfl hl.1 rfl (Nat.le_of_ble_eq_true rfl) dX10_init_55 ⟨by show 79 ≤ 85; omega, by show 0 + 2 + (1 + ((((6)))) + 1 + ((((6) * 24)))) + 17 + (1075) + 11 + (2053) + 3 + (23) + 3 + 1986 ≤ (5390); omega⟩) (by omega) J13 rfl (by have := J13.2.1; omega) (by omega) (fun H14 J14 f14_14 k14 => ?_)
  have x14 := lo11 _ _ (fun q q1 q2 => k14 q (by have := J13.2.1; omega) (by omega)) x13
  have kp14 : an_kp a s.heap H14 := fun q q1 q2 => (k14 q (by have := J13.2.1; omega) (by omega)).trans (kp13 q q1 q2)
  have lo14 := an_lo_c (P := fun H => an_fail D cI (a + 73) H) (b1 := a + 73 + 7) lo11 (an_fail_loc (a + 73)) (by omega) (by omega) (by omega)
  have w14 : an_cj _ (fun H => an_fail D cI (a + 73) H) _ := And.intro x14 f14_14
  refine an_put (ty := tyX10 4) hF.1 hF.2.1 hts (fun w h => List.mem_cons_of_mem _ (iu_X10 w h)) tyX10 tyX10_ok nmX10 hF.2.2.2.1 hK J14 rfl 4 (by decide) (hts _ (List.mem_cons_of_mem _ uw_327)) (fun _ h => h) hin rfl (tyX10_ok 4 (by decide)) rfl rfl (Nat.le_of_ble_eq_true rfl) dX10_init_58 (fun H15 locs15 J15 k15 => ?_)
  have J15 : an_J D s 10 a [.ref (a + 1), .ref (a + 6), .ref (a + 42), .ref (a + 66), .ref (a + 73), .null, .null, .null] H15 79 locs15 := J15
  have x15 := lo14 _ _ (fun q q1 q2 => k15 q (by have := J14.2.1; omega) (by omega)) w14
  have kp15 : an_kp a s.heap H15 := kp14.tr k15 (by have := J14.2.1; omega)
  clear k15 w14 kp14 x14 k14 f14_14 J14 kp13 x13 z13 k13 g13 J13 kp12 x12 J12 lo11
  refine lv_aload_n hF.1 hF.2.1 dX10_init_61 rfl (hl.2.2 _ (.head _)) ?_
  refine an_new (cj := 4) (gs := [.null, .int 0]) (C := RX4) (T := TX4) (N := 2) hF.1 hF.2.1 hts (fun w h => List.mem_cons_of_mem _ (iu_X4 w h)) tyX4 tyX4_ok hF.2.2.2.1 (hts _ (List.mem_cons_of_mem _ uw_308)) (hts _ (List.mem_cons_of_mem _ uw_37)) (hts _ (List.mem_cons_of_mem _ uw_2)) hK J15 rfl (by decide +kernel) (by show 80 ≤ 85; omega) (by show 0 + 2 + (1 + ((((6)))) + 1 + ((((6) * 24)))) + 17 + (1075) + 11 + (2053) + 3 + (23) + 3 + (1986) + 2 ≤ (5390); omega) dX10_init_62 (fun H16 J16 g16 k16 => ?_)
  have z16 : H15.size = a + 80 := by have := J15.2.1; omega
  rw [z16] at g16 ⊢
  have x16 := lo14 _ _ (fun q q1 q2 => k16 q (by have := J15.2.1; omega) (by omega)) x15
  have kp16 : an_kp a s.heap H16 := kp15.tr k16 (by have := J15.2.1; omega)
  refine lv_dup hF.1 hF.2.1 dX10_init_65 rfl ?_
  refine lv_bipush (v := nI 24) hF.1 hF.2.1 dX10_init_66 (by decide) ?_
  refine an_call (mc := 1) (ms := ((24))) (a1 := a + 80) (n := 1) (va_runI (As := [.int (nI (24))]) hF (c_X4_init l D cI (24) (by omega) (a + 80)) (cwI 1 hF.2.2.2.2 (am_gi uw_40) rfl rfl rfl (hts _ (List.mem_cons_of_mem _ uw_2)) (hts _ (List.mem_cons_of_mem _ uw_309)) (hts _ (List.mem_cons_of_mem _ uw_39)) rfl (by decide +kernel) ⟨Nat.le_of_ble_eq_true rfl, Nat.le_of_ble_eq_true rfl⟩) ⟨an_blind (D := D) (a := a + 80) (ci := 4) (cI := cI) (dfs := [.null, .int 0]) (ex := [.int (nI (24))]) (E := (fun _ _ => True)), fun U hU hW => ⟨rfl, by rw [hU]; exact g16, by rw [hU]; have := J16.2.1; omega, by rw [hU]; exact trivial, va_K.moved hW.alike hK, by rw [hW.alike.findClass]; exact hfI, hNw.warm hW⟩⟩ rfl rfl hl.1 rfl (Nat.le_of_ble_eq_true rfl) dX10_init_68 ⟨by show 81 ≤ 85; omega, by show 0 + 2 + (1 + ((((6)))) + 1 + ((((6) * 24)))) + 17 + (1075) + 11 + (2053) + 3 + (23) + 3 + (1986) + 2 + ((24)) ≤ (5390); omega⟩) (by omega) J16 rfl (by have := J16.2.1; omega) (by omega) (fun H17 J17 f17_17 k17 => ?_)
  have x17 := lo14 _ _ (fun q q1 q2 => k17 q (by have := J16.2.1; omega) (by omega)) x16
  have kp17 : an_kp a s.heap H17 := fun q q1 q2 => (k17 q (by have := J16.2.1; omega) (by omega)).trans (kp16 q q1 q2)
  have lo17 := an_lo_c (P := fun H => an_line D cI (24) (a + 80) H) (b1 := a + 80 + 2) lo14 (an_line_loc (a + 80)) (by omega) (by omega) (by omega)
  have w17 : an_cj _ (fun H => an_line D cI (24) (a + 80) H) _ := And.intro x17 f17_17
  refine an_put (ty := tyX10 5) hF.1 hF.2.1 hts (fun w h => List.mem_cons_of_mem _ (iu_X10 w h)) tyX10 tyX10_ok nmX10 hF.2.2.2.1 hK J17 rfl 5 (by decide) (hts _ (List.mem_cons_of_mem _ uw_330)) (fun _ h => h) hin rfl (tyX10_ok 5 (by decide)) rfl rfl (Nat.le_of_ble_eq_true rfl) dX10_init_71 (fun H18 locs18 J18 k18 => ?_)
  have J18 : an_J D s 10 a [.ref (a + 1), .ref (a + 6), .ref (a + 42), .ref (a + 66), .ref (a + 73), .ref (a + 80), .null, .null] H18 81 locs18 := J18
  have x18 := lo17 _ _ (fun q q1 q2 => k18 q (by have := J17.2.1; omega) (by omega)) w17
  have kp18 : an_kp a s.heap H18 := kp17.tr k18 (by have := J17.2.1; omega)
  clear k18 w17 kp17 x17 k17 f17_17 J17 kp16 x16 z16 k16 g16 J16 kp15 x15 J15 lo14
  refine lv_aload_n hF.1 hF.2.1 dX10_init_74 rfl (hl.2.2 _ (.head _)) ?_
  refine an_new (cj := 4) (gs := [.null, .int 0]) (C := RX4) (T := TX4) (N := 2) hF.1 hF.2.1 hts (fun w h => List.mem_cons_of_mem _ (iu_X4 w h)) tyX4 tyX4_ok hF.2.2.2.1 (hts _ (List.mem_cons_of_mem _ uw_308)) (hts _ (List.mem_cons_of_mem _ uw_37)) (hts _ (List.mem_cons_of_mem _ uw_2)) hK J18 rfl (by decide +kernel) (by show 82 ≤ 85; omega) (by show 0 + 2 + (1 + ((((6)))) + 1 + ((((6) * 24)))) + 17 + (1075) + 11 + (2053) + 3 + (23) + 3 + (1986) + 2 + (((24))) + 2 ≤ (5390); omega) dX10_init_75 (fun H19 J19 g19 k19 => ?_)
  have z19 : H18.size = a + 82 := by have := J18.2.1; omega
  rw [z19] at g19 ⊢
  have x19 := lo17 _ _ (fun q q1 q2 => k19 q (by have := J18.2.1; omega) (by omega)) x18
  have kp19 : an_kp a s.heap H19 := kp18.tr k19 (by have := J18.2.1; omega)
  refine lv_dup hF.1 hF.2.1 dX10_init_78 rfl ?_
  refine lv_bipush (v := nI 24) hF.1 hF.2.1 dX10_init_79 (by decide) ?_
  refine an_call (mc := 1) (ms := ((24))) (a1 := a + 82) (n := 1) (va_runI (As := [.int (nI (24))]) hF (c_X4_init l D cI (24) (by omega) (a + 82)) (cwI 1 hF.2.2.2.2 (am_gi uw_40) rfl rfl rfl (hts _ (List.mem_cons_of_mem _ uw_2)) (hts _ (List.mem_cons_of_mem _ uw_309)) (hts _ (List.mem_cons_of_mem _ uw_39)) rfl (by decide +kernel) ⟨Nat.le_of_ble_eq_true rfl, Nat.le_of_ble_eq_true rfl⟩) ⟨an_blind (D := D) (a := a + 82) (ci := 4) (cI := cI) (dfs := [.null, .int 0]) (ex := [.int (nI (24))]) (E := (fun _ _ => True)), fun U hU hW => ⟨rfl, by rw [hU]; exact g19, by rw [hU]; have := J19.2.1; omega, by rw [hU]; exact trivial, va_K.moved hW.alike hK, by rw [hW.alike.findClass]; exact hfI, hNw.warm hW⟩⟩ rfl rfl hl.1 rfl (Nat.le_of_ble_eq_true rfl) dX10_init_81 ⟨by show 83 ≤ 85; omega, by show 0 + 2 + (1 + ((((6)))) + 1 + ((((6) * 24)))) + 17 + (1075) + 11 + (2053) + 3 + (23) + 3 + (1986) + 2 + (((24))) + 2 + ((24)) ≤ (5390); omega⟩) (by omega) J19 rfl (by have := J19.2.1; omega) (by omega) (fun H20 J20 f20_20 k20 => ?_)
  have x20 := lo17 _ _ (fun q q1 q2 => k20 q (by have := J19.2.1; omega) (by omega)) x19
  have kp20 : an_kp a s.heap H20 := fun q q1 q2 => (k20 q (by have := J19.2.1; omega) (by omega)).trans (kp19 q q1 q2)
  have lo20 := an_lo_c (P := fun H => an_line D cI (24) (a + 82) H) (b1 := a + 82 + 2) lo17 (an_line_loc (a + 82)) (by omega) (by omega) (by omega)
  have w20 : an_cj _ (fun H => an_line D cI (24) (a + 82) H) _ := And.intro x20 f20_20
  refine an_put (ty := tyX10 6) hF.1 hF.2.1 hts (fun w h => List.mem_cons_of_mem _ (iu_X10 w h)) tyX10 tyX10_ok nmX10 hF.2.2.2.1 hK J20 rfl 6 (by decide) (hts _ (List.mem_cons_of_mem _ uw_333)) (fun _ h => h) hin rfl (tyX10_ok 6 (by decide)) rfl rfl (Nat.le_of_ble_eq_true rfl) dX10_init_84 (fun H21 locs21 J21 k21 => ?_)
  have J21 : an_J D s 10 a [.ref (a + 1), .ref (a + 6), .ref (a + 42), .ref (a + 66), .ref (a + 73), .ref (a + 80), .ref (a + 82), .null] H21 83 locs21 := J21
  have x21 := lo20 _ _ (fun q q1 q2 => k21 q (by have := J20.2.1; omega) (by omega)) w20
  have kp21 : an_kp a s.heap H21 := kp20.tr k21 (by have := J20.2.1; omega)
  clear k21 w20 kp20 x20 k20 f20_20 J20 kp19 x19 z19 k19 g19 J19 kp18 x18 J18 lo17
  refine lv_aload_n hF.1 hF.2.1 dX10_init_87 rfl (hl.2.2 _ (.head _)) ?_
  refine an_new (cj := 6) (gs := [.null]) (C := RX6) (T := TX6) (N := 1) hF.1 hF.2.1 hts (fun w h => List.mem_cons_of_mem _ (iu_X6 w h)) tyX6 tyX6_ok hF.2.2.2.1 (hts _ (List.mem_cons_of_mem _ uw_310)) (hts _ (List.mem_cons_of_mem _ uw_66)) (hts _ (List.mem_cons_of_mem _ uw_6)) hK J21 rfl (by decide +kernel) (by show 84 ≤ 85; omega) (by show 0 + 2 + (1 + ((((6)))) + 1 + ((((6) * 24)))) + 17 + (1075) + 11 + (2053) + 3 + (23) + 3 + (1986) + 2 + (((24))) + 2 + (((24))) + 1 ≤ (5390); omega) dX10_init_88 (fun H22 J22 g22 k22 => ?_)
  have z22 : H21.size = a + 84 := by have := J21.2.1; omega
  rw [z22] at g22 ⊢
  have x22 := lo20 _ _ (fun q q1 q2 => k22 q (by have := J21.2.1; omega) (by omega)) x21
  have kp22 : an_kp a s.heap H22 := kp21.tr k22 (by have := J21.2.1; omega)
  refine lv_dup hF.1 hF.2.1 dX10_init_91 rfl ?_
  refine lv_bipush (v := nI 12) hF.1 hF.2.1 dX10_init_92 (by decide) ?_
  refine an_call (mc := 1) (ms := ((12))) (a1 := a + 84) (n := 1) (va_runI (As := [.int (nI (12))]) hF (c_X6_init l D cI (12) (by omega) (a + 84)) (cwI 1 hF.2.2.2.2 (am_gi uw_69) rfl rfl rfl (hts _ (List.mem_cons_of_mem _ uw_6)) (hts _ (List.mem_cons_of_mem _ uw_311)) (hts _ (List.mem_cons_of_mem _ uw_68)) rfl (by decide +kernel) ⟨Nat.le_of_ble_eq_true rfl, Nat.le_of_ble_eq_true rfl⟩) ⟨an_blind (D := D) (a := a + 84) (ci := 6) (cI := cI) (dfs := [.null]) (ex := [.int (nI (12))]) (E := (fun _ _ => True)), fun U hU hW => ⟨rfl, by rw [hU]; exact g22, by rw [hU]; have := J22.2.1; omega, by rw [hU]; exact trivial, va_K.moved hW.alike hK, by rw [hW.alike.findClass]; exact hfI, hNw.warm hW⟩⟩ rfl rfl hl.1 rfl (Nat.le_of_ble_eq_true rfl) dX10_init_94 ⟨by show 85 ≤ 85; omega, by show 0 + 2 + (1 + ((((6)))) + 1 + ((((6) * 24)))) + 17 + (1075) + 11 + (2053) + 3 + (23) + 3 + (1986) + 2 + (((24))) + 2 + (((24))) + 1 + ((12)) ≤ (5390); omega⟩) (by omega) J22 rfl (by have := J22.2.1; omega) (by omega) (fun H23 J23 f23_23 k23 => ?_)
  have x23 := lo20 _ _ (fun q q1 q2 => k23 q (by have := J22.2.1; omega) (by omega)) x22
  have kp23 : an_kp a s.heap H23 := fun q q1 q2 => (k23 q (by have := J22.2.1; omega) (by omega)).trans (kp22 q q1 q2)
  have lo23 := an_lo_c (P := fun H => an_row D cI (12) (a + 84) H) (b1 := a + 84 + 2) lo20 (an_row_loc (a + 84)) (by omega) (by omega) (by omega)
  have w23 : an_cj _ (fun H => an_row D cI (12) (a + 84) H) _ := And.intro x23 f23_23
  refine an_put (ty := tyX10 7) hF.1 hF.2.1 hts (fun w h => List.mem_cons_of_mem _ (iu_X10 w h)) tyX10 tyX10_ok nmX10 hF.2.2.2.1 hK J23 rfl 7 (by decide) (hts _ (List.mem_cons_of_mem _ uw_336)) (fun _ h => h) hin rfl (tyX10_ok 7 (by decide)) rfl rfl (Nat.le_of_ble_eq_true rfl) dX10_init_97 (fun H24 locs24 J24 k24 => ?_)
  have J24 : an_J D s 10 a [.ref (a + 1), .ref (a + 6), .ref (a + 42), .ref (a + 66), .ref (a + 73), .ref (a + 80), .ref (a + 82), .ref (a + 84)] H24 85 locs24 := J24
  have x24 := lo23 _ _ (fun q q1 q2 => k24 q (by have := J23.2.1; omega) (by omega)) w23
  have kp24 : an_kp a s.heap H24 := kp23.tr k24 (by have := J23.2.1; omega)
  clear k24 w23 kp23 x23 k23 f23_23 J23 kp22 x22 z22 k22 g22 J22 kp21 x21 J21 lo20
  obtain ⟨⟨⟨⟨⟨⟨⟨⟨-, y0⟩, y1⟩, y2⟩, y3⟩, y4⟩, y5⟩, y6⟩, y7⟩ := x24
  refine W.widen (k := 85) (n := (5390)) (by omega) (by omega) ?_
  exact an_fin (P := an_worl D cI) hF.1 hF.2.1 B.returns B.notSynchronized J24 kp24 hsz ⟨J24.1, y0, y1, y2, y3, y4, y5, y6, y7⟩ dX10_init_100
