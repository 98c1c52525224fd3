/-! the model's methods: contracts (written by program: wip/whole/mkmodel.py) -/
set_option maxRecDepth 100000 in
theorem hv_X12_commands : yX12_commands.cls = RX12 ∧ yX12_commands.cls ≠ "java/lang/invoke/MethodHandle" ∧ yX12_commands.cls ≠ "java/lang/invoke/VarHandle" ∧ (parseMethodDescriptor yX12_commands.desc).map (fun d => d.parameters.length) = some 1 := by decide +kernel
set_option maxRecDepth 100000 in
theorem hd_X12_commands : yX12_commands.cls ≠ "java/lang/invoke/MethodHandle" ∧ yX12_commands.cls ≠ "java/lang/invoke/VarHandle" ∧ (parseMethodDescriptor yX12_commands.desc).map (fun d => d.parameters.length) = some 1 := hv_X12_commands.2
abbrev wa_X12_commands : List Cond := Cond.code yX12_commands cX12_commands 5 (some .int) :: am_tb
set_option maxRecDepth 100000 in
theorem ok_X12_commands_0 (l : Launch) (G : am_G) (hG : am_ok G) (hX : am_xs G) : ∀ q ∈ (cl_X12_commands.drop 0).take 30, am_Ok l G cX12_commands 5 yX12_commands.cls wa_X12_commands (am_ro 11) (some .int) q.2 q.1 :=
  List.forall_mem_cons.mpr ⟨(mp_aload_n 0 dX12_commands_0 rfl).ok _,
  List.forall_mem_cons.mpr ⟨(mp_iconst (0) dX12_commands_1 rfl).ok _,
  List.forall_mem_cons.mpr ⟨(mq_putf 12 7 dX12_commands_2 rfl iu_X12 tyX12 tyX12_ok nmX12 (by decide) tw_1220 rfl rfl (by decide +kernel)).ok _,
  List.forall_mem_cons.mpr ⟨(mp_iconst (0) dX12_commands_5 rfl).ok _,
  List.forall_mem_cons.mpr ⟨(mp_istore_n 2 dX12_commands_6 rfl (by decide)).ok _,
  List.forall_mem_cons.mpr ⟨(mp_aload_n 0 dX12_commands_7 rfl).ok _,
  List.forall_mem_cons.mpr ⟨(mq_getf 12 7 dX12_commands_8 rfl iu_X12 (by decide) tw_1220 rfl).ok _,
  List.forall_mem_cons.mpr ⟨(mp_aload_n 0 dX12_commands_11 rfl).ok _,
  List.forall_mem_cons.mpr ⟨(mq_getf 12 5 dX12_commands_12 rfl iu_X12 (by decide) tw_1218 rfl).ok _,
  List.forall_mem_cons.mpr ⟨(mp_icmp_lt 22 dX12_commands_15 (by decide)).ok _,
  List.forall_mem_cons.mpr ⟨(mp_iload_n 2 dX12_commands_18 rfl).ok _,
  List.forall_mem_cons.mpr ⟨(mp_if_ne 220 dX12_commands_19 (by decide)).ok _,
  List.forall_mem_cons.mpr ⟨(mp_aload_n 0 dX12_commands_22 rfl).ok _,
  List.forall_mem_cons.mpr ⟨(mq_cv 12 0 (m_X12_here l G hG hX) (sm_X12_here l G hG hX) dX12_commands_23 rfl tw_1273 tw_1270 tw_1272 ts_36 tw_14 rfl rfl hv_X12_here (Nat.le_of_ble_eq_true rfl) (Nat.le_of_ble_eq_true rfl)).ok _,
  List.forall_mem_cons.mpr ⟨(mp_bipush (35) dX12_commands_26 (by decide)).ok _,
  List.forall_mem_cons.mpr ⟨(mp_icmp_ne 138 dX12_commands_28 (by decide)).ok _,
  List.forall_mem_cons.mpr ⟨(mp_aload_n 0 dX12_commands_31 rfl).ok _,
  List.forall_mem_cons.mpr ⟨(mp_dup dX12_commands_32).ok _,
  List.forall_mem_cons.mpr ⟨(mq_getf 12 7 dX12_commands_33 rfl iu_X12 (by decide) tw_1220 rfl).ok _,
  List.forall_mem_cons.mpr ⟨(mp_iconst (1) dX12_commands_36 rfl).ok _,
  List.forall_mem_cons.mpr ⟨(mp_iadd dX12_commands_37).ok _,
  List.forall_mem_cons.mpr ⟨(mq_putf 12 7 dX12_commands_38 rfl iu_X12 tyX12 tyX12_ok nmX12 (by decide) tw_1220 rfl rfl (by decide +kernel)).ok _,
  List.forall_mem_cons.mpr ⟨(mp_aload_n 0 dX12_commands_41 rfl).ok _,
  List.forall_mem_cons.mpr ⟨(mp_bipush (48) dX12_commands_42 (by decide)).ok _,
  List.forall_mem_cons.mpr ⟨(mp_bipush (51) dX12_commands_44 (by decide)).ok _,
  List.forall_mem_cons.mpr ⟨(mq_cv 12 2 (m_X12_digit l G hG hX) (sm_X12_digit l G hG hX) dX12_commands_46 rfl tw_1277 tw_1274 tw_1276 ts_37 tw_14 rfl rfl hv_X12_digit (Nat.le_of_ble_eq_true rfl) (Nat.le_of_ble_eq_true rfl)).ok _,
  List.forall_mem_cons.mpr ⟨(mp_istore_n 3 dX12_commands_49 rfl (by decide)).ok _,
  List.forall_mem_cons.mpr ⟨(mp_iload_n 3 dX12_commands_50 rfl).ok _,
  List.forall_mem_cons.mpr ⟨(mp_iconst (-1) dX12_commands_51 rfl).ok _,
  List.forall_mem_cons.mpr ⟨(mp_icmp_ne 59 dX12_commands_52 (by decide)).ok _,
  fun _ h => absurd h List.not_mem_nil⟩⟩⟩⟩⟩⟩⟩⟩⟩⟩⟩⟩⟩⟩⟩⟩⟩⟩⟩⟩⟩⟩⟩⟩⟩⟩⟩⟩⟩⟩
set_option maxRecDepth 100000 in
theorem ok_X12_commands_1 (l : Launch) (G : am_G) (hG : am_ok G) (hX : am_xs G) : ∀ q ∈ (cl_X12_commands.drop 30).take 30, am_Ok l G cX12_commands 5 yX12_commands.cls wa_X12_commands (am_ro 11) (some .int) q.2 q.1 :=
  List.forall_mem_cons.mpr ⟨(mp_iconst (-1) dX12_commands_55 rfl).ok _,
  List.forall_mem_cons.mpr ⟨(mp_goto 67 dX12_commands_56 (by decide)).ok _,
  List.forall_mem_cons.mpr ⟨(mp_aload_n 0 dX12_commands_59 rfl).ok _,
  List.forall_mem_cons.mpr ⟨(mp_bipush (48) dX12_commands_60 (by decide)).ok _,
  List.forall_mem_cons.mpr ⟨(mp_bipush (51) dX12_commands_62 (by decide)).ok _,
  List.forall_mem_cons.mpr ⟨(mq_cv 12 2 (m_X12_digit l G hG hX) (sm_X12_digit l G hG hX) dX12_commands_64 rfl tw_1277 tw_1274 tw_1276 ts_37 tw_14 rfl rfl hv_X12_digit (Nat.le_of_ble_eq_true rfl) (Nat.le_of_ble_eq_true rfl)).ok _,
  List.forall_mem_cons.mpr ⟨(mp_istore 4 dX12_commands_67 (by decide)).ok _,
  List.forall_mem_cons.mpr ⟨(mp_iload 4 dX12_commands_69).ok _,
  List.forall_mem_cons.mpr ⟨(mp_iconst (-1) dX12_commands_71 rfl).ok _,
  List.forall_mem_cons.mpr ⟨(mp_icmp_eq 87 dX12_commands_72 (by decide)).ok _,
  List.forall_mem_cons.mpr ⟨(mp_aload_n 0 dX12_commands_75 rfl).ok _,
  List.forall_mem_cons.mpr ⟨(mp_bipush (59) dX12_commands_76 (by decide)).ok _,
  List.forall_mem_cons.mpr ⟨(mp_bipush (59) dX12_commands_78 (by decide)).ok _,
  List.forall_mem_cons.mpr ⟨(mq_cv 12 2 (m_X12_digit l G hG hX) (sm_X12_digit l G hG hX) dX12_commands_80 rfl tw_1277 tw_1274 tw_1276 ts_37 tw_14 rfl rfl hv_X12_digit (Nat.le_of_ble_eq_true rfl) (Nat.le_of_ble_eq_true rfl)).ok _,
  List.forall_mem_cons.mpr ⟨(mp_iconst (-1) dX12_commands_83 rfl).ok _,
  List.forall_mem_cons.mpr ⟨(mp_icmp_ne 89 dX12_commands_84 (by decide)).ok _,
  List.forall_mem_cons.mpr ⟨(mp_iconst (-1) dX12_commands_87 rfl).ok _,
  List.forall_mem_cons.mpr ⟨mo_iret dX12_commands_88,
  List.forall_mem_cons.mpr ⟨(mp_iload_n 1 dX12_commands_89 rfl).ok _,
  List.forall_mem_cons.mpr ⟨(mp_if_eq 107 dX12_commands_90 (by decide)).ok _,
  List.forall_mem_cons.mpr ⟨(mp_aload_n 0 dX12_commands_93 rfl).ok _,
  List.forall_mem_cons.mpr ⟨(mq_getf 12 1 dX12_commands_94 rfl iu_X12 (by decide) tw_1214 rfl).ok _,
  List.forall_mem_cons.mpr ⟨(mp_iload_n 3 dX12_commands_97 rfl).ok _,
  List.forall_mem_cons.mpr ⟨(mq_cs 1 (m_X12_channel l G hG hX) (sm_X12_channel l G hG hX) dX12_commands_98 tw_1280 tw_1278 tw_1279 tw_14 rfl rfl hd_X12_channel (Nat.le_of_ble_eq_true rfl) (Nat.le_of_ble_eq_true rfl)).ok _,
  List.forall_mem_cons.mpr ⟨(mp_iload 4 dX12_commands_101).ok _,
  List.forall_mem_cons.mpr ⟨(mp_iast dX12_commands_103).ok _,
  List.forall_mem_cons.mpr ⟨(mp_goto 135 dX12_commands_104 (by decide)).ok _,
  List.forall_mem_cons.mpr ⟨(mp_aload_n 0 dX12_commands_107 rfl).ok _,
  List.forall_mem_cons.mpr ⟨(mq_cv 12 0 (m_X12_live l G hG hX) (sm_X12_live l G hG hX) dX12_commands_108 rfl tw_1284 tw_1281 tw_1283 ts_38 tw_14 rfl rfl hv_X12_live (Nat.le_of_ble_eq_true rfl) (Nat.le_of_ble_eq_true rfl)).ok _,
  List.forall_mem_cons.mpr ⟨(mp_if_gt 130 dX12_commands_111 (by decide)).ok _,
  fun _ h => absurd h List.not_mem_nil⟩⟩⟩⟩⟩⟩⟩⟩⟩⟩⟩⟩⟩⟩⟩⟩⟩⟩⟩⟩⟩⟩⟩⟩⟩⟩⟩⟩⟩⟩
set_option maxRecDepth 100000 in
theorem ok_X12_commands_2 (l : Launch) (G : am_G) (hG : am_ok G) (hX : am_xs G) : ∀ q ∈ (cl_X12_commands.drop 60).take 30, am_Ok l G cX12_commands 5 yX12_commands.cls wa_X12_commands (am_ro 11) (some .int) q.2 q.1 :=
  List.forall_mem_cons.mpr ⟨(mp_iload 4 dX12_commands_114).ok _,
  List.forall_mem_cons.mpr ⟨(mp_aload_n 0 dX12_commands_116 rfl).ok _,
  List.forall_mem_cons.mpr ⟨(mq_getf 12 1 dX12_commands_117 rfl iu_X12 (by decide) tw_1214 rfl).ok _,
  List.forall_mem_cons.mpr ⟨(mp_iload_n 3 dX12_commands_120 rfl).ok _,
  List.forall_mem_cons.mpr ⟨(mq_cs 1 (m_X12_channel l G hG hX) (sm_X12_channel l G hG hX) dX12_commands_121 tw_1280 tw_1278 tw_1279 tw_14 rfl rfl hd_X12_channel (Nat.le_of_ble_eq_true rfl) (Nat.le_of_ble_eq_true rfl)).ok _,
  List.forall_mem_cons.mpr ⟨(mp_iconst (1) dX12_commands_124 rfl).ok _,
  List.forall_mem_cons.mpr ⟨(mp_iadd dX12_commands_125).ok _,
  List.forall_mem_cons.mpr ⟨(mp_iald dX12_commands_126).ok _,
  List.forall_mem_cons.mpr ⟨(mp_icmp_ge 135 dX12_commands_127 (by decide)).ok _,
  List.forall_mem_cons.mpr ⟨(mp_aload_n 0 dX12_commands_130 rfl).ok _,
  List.forall_mem_cons.mpr ⟨(mp_iconst (1) dX12_commands_131 rfl).ok _,
  List.forall_mem_cons.mpr ⟨(mq_putz 12 10 dX12_commands_132 rfl iu_X12 tyX12 tyX12_ok nmX12 (by decide) tw_1223 rfl rfl (by decide +kernel)).ok _,
  List.forall_mem_cons.mpr ⟨(mp_goto 214 dX12_commands_135 (by decide)).ok _,
  List.forall_mem_cons.mpr ⟨(mp_aload_n 0 dX12_commands_138 rfl).ok _,
  List.forall_mem_cons.mpr ⟨(mp_bipush (48) dX12_commands_139 (by decide)).ok _,
  List.forall_mem_cons.mpr ⟨(mp_bipush (53) dX12_commands_141 (by decide)).ok _,
  List.forall_mem_cons.mpr ⟨(mq_cv 12 2 (m_X12_digit l G hG hX) (sm_X12_digit l G hG hX) dX12_commands_143 rfl tw_1277 tw_1274 tw_1276 ts_37 tw_14 rfl rfl hv_X12_digit (Nat.le_of_ble_eq_true rfl) (Nat.le_of_ble_eq_true rfl)).ok _,
  List.forall_mem_cons.mpr ⟨(mp_istore_n 3 dX12_commands_146 rfl (by decide)).ok _,
  List.forall_mem_cons.mpr ⟨(mp_iload_n 3 dX12_commands_147 rfl).ok _,
  List.forall_mem_cons.mpr ⟨(mp_iconst (-1) dX12_commands_148 rfl).ok _,
  List.forall_mem_cons.mpr ⟨(mp_icmp_eq 171 dX12_commands_149 (by decide)).ok _,
  List.forall_mem_cons.mpr ⟨(mp_aload_n 0 dX12_commands_152 rfl).ok _,
  List.forall_mem_cons.mpr ⟨(mp_bipush (58) dX12_commands_153 (by decide)).ok _,
  List.forall_mem_cons.mpr ⟨(mp_bipush (58) dX12_commands_155 (by decide)).ok _,
  List.forall_mem_cons.mpr ⟨(mq_cv 12 2 (m_X12_digit l G hG hX) (sm_X12_digit l G hG hX) dX12_commands_157 rfl tw_1277 tw_1274 tw_1276 ts_37 tw_14 rfl rfl hv_X12_digit (Nat.le_of_ble_eq_true rfl) (Nat.le_of_ble_eq_true rfl)).ok _,
  List.forall_mem_cons.mpr ⟨(mp_iconst (-1) dX12_commands_160 rfl).ok _,
  List.forall_mem_cons.mpr ⟨(mp_icmp_eq 171 dX12_commands_161 (by decide)).ok _,
  List.forall_mem_cons.mpr ⟨(mp_aload_n 0 dX12_commands_164 rfl).ok _,
  List.forall_mem_cons.mpr ⟨(mq_cv 12 0 (m_X12_instructions l G hG hX) (sm_X12_instructions l G hG hX) dX12_commands_165 rfl tw_1299 tw_1296 tw_1298 ts_41 tw_14 rfl rfl hv_X12_instructions (Nat.le_of_ble_eq_true rfl) (Nat.le_of_ble_eq_true rfl)).ok _,
  List.forall_mem_cons.mpr ⟨(mp_if_ne 173 dX12_commands_168 (by decide)).ok _,
  fun _ h => absurd h List.not_mem_nil⟩⟩⟩⟩⟩⟩⟩⟩⟩⟩⟩⟩⟩⟩⟩⟩⟩⟩⟩⟩⟩⟩⟩⟩⟩⟩⟩⟩⟩⟩
set_option maxRecDepth 100000 in
theorem ok_X12_commands_3 (l : Launch) (G : am_G) (hG : am_ok G) (hX : am_xs G) : ∀ q ∈ (cl_X12_commands.drop 90).take 30, am_Ok l G cX12_commands 5 yX12_commands.cls wa_X12_commands (am_ro 11) (some .int) q.2 q.1 :=
  List.forall_mem_cons.mpr ⟨(mp_iconst (-1) dX12_commands_171 rfl).ok _,
  List.forall_mem_cons.mpr ⟨mo_iret dX12_commands_172,
  List.forall_mem_cons.mpr ⟨(mp_iconst (0) dX12_commands_173 rfl).ok _,
  List.forall_mem_cons.mpr ⟨(mp_istore 4 dX12_commands_174 (by decide)).ok _,
  List.forall_mem_cons.mpr ⟨(mp_iload 4 dX12_commands_176).ok _,
  List.forall_mem_cons.mpr ⟨(mp_bipush (25) dX12_commands_178 (by decide)).ok _,
  List.forall_mem_cons.mpr ⟨(mp_icmp_ge 214 dX12_commands_180 (by decide)).ok _,
  List.forall_mem_cons.mpr ⟨(mp_iload_n 1 dX12_commands_183 rfl).ok _,
  List.forall_mem_cons.mpr ⟨(mp_if_eq 214 dX12_commands_184 (by decide)).ok _,
  List.forall_mem_cons.mpr ⟨(mp_aload_n 0 dX12_commands_187 rfl).ok _,
  List.forall_mem_cons.mpr ⟨(mq_getf 12 1 dX12_commands_188 rfl iu_X12 (by decide) tw_1214 rfl).ok _,
  List.forall_mem_cons.mpr ⟨(mp_iconst (0) dX12_commands_191 rfl).ok _,
  List.forall_mem_cons.mpr ⟨(mp_bipush (25) dX12_commands_192 (by decide)).ok _,
  List.forall_mem_cons.mpr ⟨(mp_iload_n 3 dX12_commands_194 rfl).ok _,
  List.forall_mem_cons.mpr ⟨(mp_imul dX12_commands_195).ok _,
  List.forall_mem_cons.mpr ⟨(mp_iadd dX12_commands_196).ok _,
  List.forall_mem_cons.mpr ⟨(mp_iload 4 dX12_commands_197).ok _,
  List.forall_mem_cons.mpr ⟨(mp_iadd dX12_commands_199).ok _,
  List.forall_mem_cons.mpr ⟨(mp_aload_n 0 dX12_commands_200 rfl).ok _,
  List.forall_mem_cons.mpr ⟨(mq_getf 12 8 dX12_commands_201 rfl iu_X12 (by decide) tw_1221 rfl).ok _,
  List.forall_mem_cons.mpr ⟨(mp_iload 4 dX12_commands_204).ok _,
  List.forall_mem_cons.mpr ⟨(mp_iald dX12_commands_206).ok _,
  List.forall_mem_cons.mpr ⟨(mp_iast dX12_commands_207).ok _,
  List.forall_mem_cons.mpr ⟨(mp_iinc 4 (1) dX12_commands_208 rfl (by decide)).ok _,
  List.forall_mem_cons.mpr ⟨(mp_goto 176 dX12_commands_211 (by decide)).ok _,
  List.forall_mem_cons.mpr ⟨(mp_iinc 2 (1) dX12_commands_214 rfl (by decide)).ok _,
  List.forall_mem_cons.mpr ⟨(mp_goto 7 dX12_commands_217 (by decide)).ok _,
  List.forall_mem_cons.mpr ⟨(mp_iload_n 2 dX12_commands_220 rfl).ok _,
  List.forall_mem_cons.mpr ⟨mo_iret dX12_commands_221,
  fun _ h => absurd h List.not_mem_nil⟩⟩⟩⟩⟩⟩⟩⟩⟩⟩⟩⟩⟩⟩⟩⟩⟩⟩⟩⟩⟩⟩⟩⟩⟩⟩⟩⟩⟩
set_option maxRecDepth 100000 in
theorem ok_X12_commands (l : Launch) (G : am_G) (hG : am_ok G) (hX : am_xs G) : ∀ q ∈ cl_X12_commands, am_Ok l G cX12_commands 5 yX12_commands.cls wa_X12_commands (am_ro 11) (some .int) q.2 q.1 := by
  have e : cl_X12_commands = ((cl_X12_commands.drop 0).take 30) ++ (((cl_X12_commands.drop 30).take 30) ++ (((cl_X12_commands.drop 60).take 30) ++ (((cl_X12_commands.drop 90).take 30)))) := rfl
  rw [e]
  exact List.forall_mem_append.mpr ⟨ok_X12_commands_0 l G hG hX, List.forall_mem_append.mpr ⟨ok_X12_commands_1 l G hG hX, List.forall_mem_append.mpr ⟨ok_X12_commands_2 l G hG hX, ok_X12_commands_3 l G hG hX⟩⟩⟩
set_option maxRecDepth 100000 in
theorem sm_X12_commands (l : Launch) (G : am_G) (hG : am_ok G) (hX : am_xs G) : am_mS sp_X12_commands := fun av σ R R1 hR h => ⟨h.1, am_Wp.mr (fun pc => (am_lk_ok (ok_X12_commands l G hG hX) pc).1) hR h.2⟩
set_option maxRecDepth 100000 in
theorem m_X12_commands (l : Launch) (G : am_G) (hG : am_ok G) (hX : am_xs G) : am_Met l G yX12_commands wa_X12_commands (am_ro 11) sp_X12_commands :=
  am_met hG (am_lk cl_X12_commands) 2 (by decide +kernel) rfl (by decide) (am_lk_ok (ok_X12_commands l G hG hX)) (v_X12_commands (fun pc => (am_lk_ok (ok_X12_commands l G hG hX) pc).1))
set_option maxRecDepth 100000 in
theorem hv_X12_turns : yX12_turns.cls = RX12 ∧ yX12_turns.cls ≠ "java/lang/invoke/MethodHandle" ∧ yX12_turns.cls ≠ "java/lang/invoke/VarHandle" ∧ (parseMethodDescriptor yX12_turns.desc).map (fun d => d.parameters.length) = some 1 := by decide +kernel
set_option maxRecDepth 100000 in
theorem hd_X12_turns : yX12_turns.cls ≠ "java/lang/invoke/MethodHandle" ∧ yX12_turns.cls ≠ "java/lang/invoke/VarHandle" ∧ (parseMethodDescriptor yX12_turns.desc).map (fun d => d.parameters.length) = some 1 := hv_X12_turns.2
abbrev wa_X12_turns : List Cond := Cond.code yX12_turns cX12_turns 2 none :: am_tb
set_option maxRecDepth 100000 in
theorem ok_X12_turns_0 (l : Launch) (G : am_G) (hG : am_ok G) (hX : am_xs G) : ∀ q ∈ (cl_X12_turns.drop 0).take 30, am_Ok l G cX12_turns 2 yX12_turns.cls wa_X12_turns (am_ro 11) none q.2 q.1 :=
  List.forall_mem_cons.mpr ⟨(mp_aload_n 0 dX12_turns_0 rfl).ok _,
  List.forall_mem_cons.mpr ⟨(mp_iload_n 1 dX12_turns_1 rfl).ok _,
  List.forall_mem_cons.mpr ⟨(mp_bipush (9) dX12_turns_2 (by decide)).ok _,
  List.forall_mem_cons.mpr ⟨(mq_cv 12 2 (m_X12_of l G hG hX) (sm_X12_of l G hG hX) dX12_turns_4 rfl tw_1292 tw_1289 tw_1291 ts_40 tw_14 rfl rfl hv_X12_of (Nat.le_of_ble_eq_true rfl) (Nat.le_of_ble_eq_true rfl)).ok _,
  List.forall_mem_cons.mpr ⟨(mp_iconst (1) dX12_turns_7 rfl).ok _,
  List.forall_mem_cons.mpr ⟨(mp_icmp_ne 19 dX12_turns_8 (by decide)).ok _,
  List.forall_mem_cons.mpr ⟨(mp_aload_n 0 dX12_turns_11 rfl).ok _,
  List.forall_mem_cons.mpr ⟨(mp_iload_n 1 dX12_turns_12 rfl).ok _,
  List.forall_mem_cons.mpr ⟨(mq_cv 12 1 (m_X12_cleanup l G hG hX) (sm_X12_cleanup l G hG hX) dX12_turns_13 rfl tw_1459 tw_1456 tw_1458 ts_52 tw_14 rfl rfl hv_X12_cleanup (Nat.le_of_ble_eq_true rfl) (Nat.le_of_ble_eq_true rfl)).ok _,
  List.forall_mem_cons.mpr ⟨(mp_goto 113 dX12_turns_16 (by decide)).ok _,
  List.forall_mem_cons.mpr ⟨(mp_aload_n 0 dX12_turns_19 rfl).ok _,
  List.forall_mem_cons.mpr ⟨(mp_iload_n 1 dX12_turns_20 rfl).ok _,
  List.forall_mem_cons.mpr ⟨(mp_bipush (6) dX12_turns_21 (by decide)).ok _,
  List.forall_mem_cons.mpr ⟨(mq_cv 12 2 (m_X12_of l G hG hX) (sm_X12_of l G hG hX) dX12_turns_23 rfl tw_1292 tw_1289 tw_1291 ts_40 tw_14 rfl rfl hv_X12_of (Nat.le_of_ble_eq_true rfl) (Nat.le_of_ble_eq_true rfl)).ok _,
  List.forall_mem_cons.mpr ⟨(mp_if_le 46 dX12_turns_26 (by decide)).ok _,
  List.forall_mem_cons.mpr ⟨(mp_aload_n 0 dX12_turns_29 rfl).ok _,
  List.forall_mem_cons.mpr ⟨(mp_iload_n 1 dX12_turns_30 rfl).ok _,
  List.forall_mem_cons.mpr ⟨(mp_iconst (3) dX12_turns_31 rfl).ok _,
  List.forall_mem_cons.mpr ⟨(mq_cv 12 2 (m_X12_of l G hG hX) (sm_X12_of l G hG hX) dX12_turns_32 rfl tw_1292 tw_1289 tw_1291 ts_40 tw_14 rfl rfl hv_X12_of (Nat.le_of_ble_eq_true rfl) (Nat.le_of_ble_eq_true rfl)).ok _,
  List.forall_mem_cons.mpr ⟨(mp_if_le 46 dX12_turns_35 (by decide)).ok _,
  List.forall_mem_cons.mpr ⟨(mp_aload_n 0 dX12_turns_38 rfl).ok _,
  List.forall_mem_cons.mpr ⟨(mp_iload_n 1 dX12_turns_39 rfl).ok _,
  List.forall_mem_cons.mpr ⟨(mq_cv 12 1 (m_X12_unwinds l G hG hX) (sm_X12_unwinds l G hG hX) dX12_turns_40 rfl tw_1486 tw_1483 tw_1485 ts_58 tw_14 rfl rfl hv_X12_unwinds (Nat.le_of_ble_eq_true rfl) (Nat.le_of_ble_eq_true rfl)).ok _,
  List.forall_mem_cons.mpr ⟨(mp_goto 113 dX12_turns_43 (by decide)).ok _,
  List.forall_mem_cons.mpr ⟨(mp_aload_n 0 dX12_turns_46 rfl).ok _,
  List.forall_mem_cons.mpr ⟨(mp_iload_n 1 dX12_turns_47 rfl).ok _,
  List.forall_mem_cons.mpr ⟨(mp_bipush (6) dX12_turns_48 (by decide)).ok _,
  List.forall_mem_cons.mpr ⟨(mq_cv 12 2 (m_X12_of l G hG hX) (sm_X12_of l G hG hX) dX12_turns_50 rfl tw_1292 tw_1289 tw_1291 ts_40 tw_14 rfl rfl hv_X12_of (Nat.le_of_ble_eq_true rfl) (Nat.le_of_ble_eq_true rfl)).ok _,
  List.forall_mem_cons.mpr ⟨(mp_if_le 82 dX12_turns_53 (by decide)).ok _,
  List.forall_mem_cons.mpr ⟨(mp_aload_n 0 dX12_turns_56 rfl).ok _,
  fun _ h => absurd h List.not_mem_nil⟩⟩⟩⟩⟩⟩⟩⟩⟩⟩⟩⟩⟩⟩⟩⟩⟩⟩⟩⟩⟩⟩⟩⟩⟩⟩⟩⟩⟩⟩
set_option maxRecDepth 100000 in
theorem ok_X12_turns_1 (l : Launch) (G : am_G) (hG : am_ok G) (hX : am_xs G) : ∀ q ∈ (cl_X12_turns.drop 30).take 30, am_Ok l G cX12_turns 2 yX12_turns.cls wa_X12_turns (am_ro 11) none q.2 q.1 :=
  List.forall_mem_cons.mpr ⟨(mp_iload_n 1 dX12_turns_57 rfl).ok _,
  List.forall_mem_cons.mpr ⟨(mp_aload_n 0 dX12_turns_58 rfl).ok _,
  List.forall_mem_cons.mpr ⟨(mp_iload_n 1 dX12_turns_59 rfl).ok _,
  List.forall_mem_cons.mpr ⟨(mp_bipush (6) dX12_turns_60 (by decide)).ok _,
  List.forall_mem_cons.mpr ⟨(mq_cv 12 2 (m_X12_of l G hG hX) (sm_X12_of l G hG hX) dX12_turns_62 rfl tw_1292 tw_1289 tw_1291 ts_40 tw_14 rfl rfl hv_X12_of (Nat.le_of_ble_eq_true rfl) (Nat.le_of_ble_eq_true rfl)).ok _,
  List.forall_mem_cons.mpr ⟨(mp_iconst (1) dX12_turns_65 rfl).ok _,
  List.forall_mem_cons.mpr ⟨(mp_icmp_ne 74 dX12_turns_66 (by decide)).ok _,
  List.forall_mem_cons.mpr ⟨(mp_bipush (8) dX12_turns_69 (by decide)).ok _,
  List.forall_mem_cons.mpr ⟨(mp_goto 76 dX12_turns_71 (by decide)).ok _,
  List.forall_mem_cons.mpr ⟨(mp_bipush (7) dX12_turns_74 (by decide)).ok _,
  List.forall_mem_cons.mpr ⟨(mq_cv 12 2 (m_X12_ends l G hG hX) (sm_X12_ends l G hG hX) dX12_turns_76 rfl tw_1514 tw_1511 tw_1513 ts_65 tw_14 rfl rfl hv_X12_ends (Nat.le_of_ble_eq_true rfl) (Nat.le_of_ble_eq_true rfl)).ok _,
  List.forall_mem_cons.mpr ⟨(mp_goto 113 dX12_turns_79 (by decide)).ok _,
  List.forall_mem_cons.mpr ⟨(mp_aload_n 0 dX12_turns_82 rfl).ok _,
  List.forall_mem_cons.mpr ⟨(mp_iload_n 1 dX12_turns_83 rfl).ok _,
  List.forall_mem_cons.mpr ⟨(mp_iconst (2) dX12_turns_84 rfl).ok _,
  List.forall_mem_cons.mpr ⟨(mq_cv 12 2 (m_X12_of l G hG hX) (sm_X12_of l G hG hX) dX12_turns_85 rfl tw_1292 tw_1289 tw_1291 ts_40 tw_14 rfl rfl hv_X12_of (Nat.le_of_ble_eq_true rfl) (Nat.le_of_ble_eq_true rfl)).ok _,
  List.forall_mem_cons.mpr ⟨(mp_aload_n 0 dX12_turns_88 rfl).ok _,
  List.forall_mem_cons.mpr ⟨(mp_iload_n 1 dX12_turns_89 rfl).ok _,
  List.forall_mem_cons.mpr ⟨(mp_bipush (20) dX12_turns_90 (by decide)).ok _,
  List.forall_mem_cons.mpr ⟨(mq_cv 12 2 (m_X12_of l G hG hX) (sm_X12_of l G hG hX) dX12_turns_92 rfl tw_1292 tw_1289 tw_1291 ts_40 tw_14 rfl rfl hv_X12_of (Nat.le_of_ble_eq_true rfl) (Nat.le_of_ble_eq_true rfl)).ok _,
  List.forall_mem_cons.mpr ⟨(mp_icmp_lt 108 dX12_turns_95 (by decide)).ok _,
  List.forall_mem_cons.mpr ⟨(mp_aload_n 0 dX12_turns_98 rfl).ok _,
  List.forall_mem_cons.mpr ⟨(mp_iload_n 1 dX12_turns_99 rfl).ok _,
  List.forall_mem_cons.mpr ⟨(mp_bipush (6) dX12_turns_100 (by decide)).ok _,
  List.forall_mem_cons.mpr ⟨(mq_cv 12 2 (m_X12_ends l G hG hX) (sm_X12_ends l G hG hX) dX12_turns_102 rfl tw_1514 tw_1511 tw_1513 ts_65 tw_14 rfl rfl hv_X12_ends (Nat.le_of_ble_eq_true rfl) (Nat.le_of_ble_eq_true rfl)).ok _,
  List.forall_mem_cons.mpr ⟨(mp_goto 113 dX12_turns_105 (by decide)).ok _,
  List.forall_mem_cons.mpr ⟨(mp_aload_n 0 dX12_turns_108 rfl).ok _,
  List.forall_mem_cons.mpr ⟨(mp_iload_n 1 dX12_turns_109 rfl).ok _,
  List.forall_mem_cons.mpr ⟨(mq_cv 12 1 (m_X12_executes l G hG hX) (sm_X12_executes l G hG hX) dX12_turns_110 rfl tw_1518 tw_1515 tw_1517 ts_66 tw_14 rfl rfl hv_X12_executes (Nat.le_of_ble_eq_true rfl) (Nat.le_of_ble_eq_true rfl)).ok _,
  List.forall_mem_cons.mpr ⟨(mp_aload_n 0 dX12_turns_113 rfl).ok _,
  fun _ h => absurd h List.not_mem_nil⟩⟩⟩⟩⟩⟩⟩⟩⟩⟩⟩⟩⟩⟩⟩⟩⟩⟩⟩⟩⟩⟩⟩⟩⟩⟩⟩⟩⟩⟩
set_option maxRecDepth 100000 in
theorem ok_X12_turns_2 (l : Launch) (G : am_G) (hG : am_ok G) (hX : am_xs G) : ∀ q ∈ (cl_X12_turns.drop 60).take 30, am_Ok l G cX12_turns 2 yX12_turns.cls wa_X12_turns (am_ro 11) none q.2 q.1 :=
  List.forall_mem_cons.mpr ⟨(mp_iload_n 1 dX12_turns_114 rfl).ok _,
  List.forall_mem_cons.mpr ⟨(mp_iconst (0) dX12_turns_115 rfl).ok _,
  List.forall_mem_cons.mpr ⟨(mq_cv 12 2 (m_X12_of l G hG hX) (sm_X12_of l G hG hX) dX12_turns_116 rfl tw_1292 tw_1289 tw_1291 ts_40 tw_14 rfl rfl hv_X12_of (Nat.le_of_ble_eq_true rfl) (Nat.le_of_ble_eq_true rfl)).ok _,
  List.forall_mem_cons.mpr ⟨(mp_if_ne 127 dX12_turns_119 (by decide)).ok _,
  List.forall_mem_cons.mpr ⟨(mp_aload_n 0 dX12_turns_122 rfl).ok _,
  List.forall_mem_cons.mpr ⟨(mp_iload_n 1 dX12_turns_123 rfl).ok _,
  List.forall_mem_cons.mpr ⟨(mq_cv 12 1 (m_X12_queues l G hG hX) (sm_X12_queues l G hG hX) dX12_turns_124 rfl tw_1431 tw_1428 tw_1430 ts_47 tw_14 rfl rfl hv_X12_queues (Nat.le_of_ble_eq_true rfl) (Nat.le_of_ble_eq_true rfl)).ok _,
  List.forall_mem_cons.mpr ⟨mo_vret dX12_turns_127,
  fun _ h => absurd h List.not_mem_nil⟩⟩⟩⟩⟩⟩⟩⟩
set_option maxRecDepth 100000 in
theorem ok_X12_turns (l : Launch) (G : am_G) (hG : am_ok G) (hX : am_xs G) : ∀ q ∈ cl_X12_turns, am_Ok l G cX12_turns 2 yX12_turns.cls wa_X12_turns (am_ro 11) none q.2 q.1 := by
  have e : cl_X12_turns = ((cl_X12_turns.drop 0).take 30) ++ (((cl_X12_turns.drop 30).take 30) ++ (((cl_X12_turns.drop 60).take 30))) := rfl
  rw [e]
  exact List.forall_mem_append.mpr ⟨ok_X12_turns_0 l G hG hX, List.forall_mem_append.mpr ⟨ok_X12_turns_1 l G hG hX, ok_X12_turns_2 l G hG hX⟩⟩
set_option maxRecDepth 100000 in
theorem sm_X12_turns (l : Launch) (G : am_G) (hG : am_ok G) (hX : am_xs G) : am_mS sp_X12_turns := fun av σ R R1 hR h => ⟨h.1, am_Wp.mr (fun pc => (am_lk_ok (ok_X12_turns l G hG hX) pc).1) hR h.2⟩
set_option maxRecDepth 100000 in
theorem m_X12_turns (l : Launch) (G : am_G) (hG : am_ok G) (hX : am_xs G) : am_Met l G yX12_turns wa_X12_turns (am_ro 11) sp_X12_turns :=
  am_met hG (am_lk cl_X12_turns) 2 (by decide +kernel) rfl (by decide) (am_lk_ok (ok_X12_turns l G hG hX)) (v_X12_turns (fun pc => (am_lk_ok (ok_X12_turns l G hG hX) pc).1))
set_option maxRecDepth 100000 in
theorem hv_X12_execute : yX12_execute.cls = RX12 ∧ yX12_execute.cls ≠ "java/lang/invoke/MethodHandle" ∧ yX12_execute.cls ≠ "java/lang/invoke/VarHandle" ∧ (parseMethodDescriptor yX12_execute.desc).map (fun d => d.parameters.length) = some 0 := by decide +kernel
set_option maxRecDepth 100000 in
theorem hd_X12_execute : yX12_execute.cls ≠ "java/lang/invoke/MethodHandle" ∧ yX12_execute.cls ≠ "java/lang/invoke/VarHandle" ∧ (parseMethodDescriptor yX12_execute.desc).map (fun d => d.parameters.length) = some 0 := hv_X12_execute.2
abbrev wa_X12_execute : List Cond := Cond.code yX12_execute cX12_execute 2 (some .int) :: am_tb
set_option maxRecDepth 100000 in
theorem ok_X12_execute_0 (l : Launch) (G : am_G) (hG : am_ok G) (hX : am_xs G) : ∀ q ∈ (cl_X12_execute.drop 0).take 30, am_Ok l G cX12_execute 2 yX12_execute.cls wa_X12_execute (am_ro 12) (some .int) q.2 q.1 :=
  List.forall_mem_cons.mpr ⟨(mp_aload_n 0 dX12_execute_0 rfl).ok _,
  List.forall_mem_cons.mpr ⟨(mp_iconst (0) dX12_execute_1 rfl).ok _,
  List.forall_mem_cons.mpr ⟨(mq_putf 12 0 dX12_execute_2 rfl iu_X12 tyX12 tyX12_ok nmX12 (by decide) tw_1213 rfl rfl (by decide +kernel)).ok _,
  List.forall_mem_cons.mpr ⟨(mp_aload_n 0 dX12_execute_5 rfl).ok _,
  List.forall_mem_cons.mpr ⟨(mp_iconst (0) dX12_execute_6 rfl).ok _,
  List.forall_mem_cons.mpr ⟨(mq_putz 12 10 dX12_execute_7 rfl iu_X12 tyX12 tyX12_ok nmX12 (by decide) tw_1223 rfl rfl (by decide +kernel)).ok _,
  List.forall_mem_cons.mpr ⟨(mp_aload_n 0 dX12_execute_10 rfl).ok _,
  List.forall_mem_cons.mpr ⟨(mp_iconst (0) dX12_execute_11 rfl).ok _,
  List.forall_mem_cons.mpr ⟨(mq_cv 12 1 (m_X12_commands l G hG hX) (sm_X12_commands l G hG hX) dX12_execute_12 rfl tw_1269 tw_1266 tw_1268 ts_35 tw_14 rfl rfl hv_X12_commands (Nat.le_of_ble_eq_true rfl) (Nat.le_of_ble_eq_true rfl)).ok _,
  List.forall_mem_cons.mpr ⟨(mp_istore_n 1 dX12_execute_15 rfl (by decide)).ok _,
  List.forall_mem_cons.mpr ⟨(mp_aload_n 0 dX12_execute_16 rfl).ok _,
  List.forall_mem_cons.mpr ⟨(mp_iload_n 1 dX12_execute_17 rfl).ok _,
  List.forall_mem_cons.mpr ⟨(mp_if_ge 28 dX12_execute_18 (by decide)).ok _,
  List.forall_mem_cons.mpr ⟨(mp_aload_n 0 dX12_execute_21 rfl).ok _,
  List.forall_mem_cons.mpr ⟨(mq_getf 12 7 dX12_execute_22 rfl iu_X12 (by decide) tw_1220 rfl).ok _,
  List.forall_mem_cons.mpr ⟨(mp_goto 29 dX12_execute_25 (by decide)).ok _,
  List.forall_mem_cons.mpr ⟨(mp_iconst (-1) dX12_execute_28 rfl).ok _,
  List.forall_mem_cons.mpr ⟨(mq_putf 12 6 dX12_execute_29 rfl iu_X12 tyX12 tyX12_ok nmX12 (by decide) tw_1219 rfl rfl (by decide +kernel)).ok _,
  List.forall_mem_cons.mpr ⟨(mp_iload_n 1 dX12_execute_32 rfl).ok _,
  List.forall_mem_cons.mpr ⟨(mp_if_ge 45 dX12_execute_33 (by decide)).ok _,
  List.forall_mem_cons.mpr ⟨(mp_aload_n 0 dX12_execute_36 rfl).ok _,
  List.forall_mem_cons.mpr ⟨(mp_iconst (1) dX12_execute_37 rfl).ok _,
  List.forall_mem_cons.mpr ⟨(mq_cv 12 1 (m_X12_raises l G hG hX) (sm_X12_raises l G hG hX) dX12_execute_38 rfl tw_1261 tw_1258 tw_1260 ts_34 tw_14 rfl rfl hv_X12_raises (Nat.le_of_ble_eq_true rfl) (Nat.le_of_ble_eq_true rfl)).ok _,
  List.forall_mem_cons.mpr ⟨(mp_pop dX12_execute_41).ok _,
  List.forall_mem_cons.mpr ⟨(mp_goto 67 dX12_execute_42 (by decide)).ok _,
  List.forall_mem_cons.mpr ⟨(mp_aload_n 0 dX12_execute_45 rfl).ok _,
  List.forall_mem_cons.mpr ⟨(mq_getf 12 10 dX12_execute_46 rfl iu_X12 (by decide) tw_1223 rfl).ok _,
  List.forall_mem_cons.mpr ⟨(mp_if_eq 61 dX12_execute_49 (by decide)).ok _,
  List.forall_mem_cons.mpr ⟨(mp_aload_n 0 dX12_execute_52 rfl).ok _,
  List.forall_mem_cons.mpr ⟨(mp_iconst (2) dX12_execute_53 rfl).ok _,
  fun _ h => absurd h List.not_mem_nil⟩⟩⟩⟩⟩⟩⟩⟩⟩⟩⟩⟩⟩⟩⟩⟩⟩⟩⟩⟩⟩⟩⟩⟩⟩⟩⟩⟩⟩⟩
set_option maxRecDepth 100000 in
theorem ok_X12_execute_1 (l : Launch) (G : am_G) (hG : am_ok G) (hX : am_xs G) : ∀ q ∈ (cl_X12_execute.drop 30).take 30, am_Ok l G cX12_execute 2 yX12_execute.cls wa_X12_execute (am_ro 12) (some .int) q.2 q.1 :=
  List.forall_mem_cons.mpr ⟨(mq_cv 12 1 (m_X12_raises l G hG hX) (sm_X12_raises l G hG hX) dX12_execute_54 rfl tw_1261 tw_1258 tw_1260 ts_34 tw_14 rfl rfl hv_X12_raises (Nat.le_of_ble_eq_true rfl) (Nat.le_of_ble_eq_true rfl)).ok _,
  List.forall_mem_cons.mpr ⟨(mp_pop dX12_execute_57).ok _,
  List.forall_mem_cons.mpr ⟨(mp_goto 67 dX12_execute_58 (by decide)).ok _,
  List.forall_mem_cons.mpr ⟨(mp_aload_n 0 dX12_execute_61 rfl).ok _,
  List.forall_mem_cons.mpr ⟨(mp_iconst (1) dX12_execute_62 rfl).ok _,
  List.forall_mem_cons.mpr ⟨(mq_cv 12 1 (m_X12_commands l G hG hX) (sm_X12_commands l G hG hX) dX12_execute_63 rfl tw_1269 tw_1266 tw_1268 ts_35 tw_14 rfl rfl hv_X12_commands (Nat.le_of_ble_eq_true rfl) (Nat.le_of_ble_eq_true rfl)).ok _,
  List.forall_mem_cons.mpr ⟨(mp_pop dX12_execute_66).ok _,
  List.forall_mem_cons.mpr ⟨(mp_aload_n 0 dX12_execute_67 rfl).ok _,
  List.forall_mem_cons.mpr ⟨(mp_iconst (0) dX12_execute_68 rfl).ok _,
  List.forall_mem_cons.mpr ⟨(mq_putf 12 5 dX12_execute_69 rfl iu_X12 tyX12 tyX12_ok nmX12 (by decide) tw_1218 rfl rfl (by decide +kernel)).ok _,
  List.forall_mem_cons.mpr ⟨(mp_aload_n 0 dX12_execute_72 rfl).ok _,
  List.forall_mem_cons.mpr ⟨(mq_getf 12 0 dX12_execute_73 rfl iu_X12 (by decide) tw_1213 rfl).ok _,
  List.forall_mem_cons.mpr ⟨(mp_if_le 83 dX12_execute_76 (by decide)).ok _,
  List.forall_mem_cons.mpr ⟨(mp_iconst (0) dX12_execute_79 rfl).ok _,
  List.forall_mem_cons.mpr ⟨(mp_goto 84 dX12_execute_80 (by decide)).ok _,
  List.forall_mem_cons.mpr ⟨(mp_iload_n 1 dX12_execute_83 rfl).ok _,
  List.forall_mem_cons.mpr ⟨mo_iret dX12_execute_84,
  fun _ h => absurd h List.not_mem_nil⟩⟩⟩⟩⟩⟩⟩⟩⟩⟩⟩⟩⟩⟩⟩⟩⟩
set_option maxRecDepth 100000 in
theorem ok_X12_execute (l : Launch) (G : am_G) (hG : am_ok G) (hX : am_xs G) : ∀ q ∈ cl_X12_execute, am_Ok l G cX12_execute 2 yX12_execute.cls wa_X12_execute (am_ro 12) (some .int) q.2 q.1 := by
  have e : cl_X12_execute = ((cl_X12_execute.drop 0).take 30) ++ (((cl_X12_execute.drop 30).take 30)) := rfl
  rw [e]
  exact List.forall_mem_append.mpr ⟨ok_X12_execute_0 l G hG hX, ok_X12_execute_1 l G hG hX⟩
set_option maxRecDepth 100000 in
theorem sm_X12_execute (l : Launch) (G : am_G) (hG : am_ok G) (hX : am_xs G) : am_mS sp_X12_execute := fun av σ R R1 hR h => ⟨h.1, am_Wp.mr (fun pc => (am_lk_ok (ok_X12_execute l G hG hX) pc).1) hR h.2⟩
set_option maxRecDepth 100000 in
theorem m_X12_execute (l : Launch) (G : am_G) (hG : am_ok G) (hX : am_xs G) : am_Met l G yX12_execute wa_X12_execute (am_ro 12) sp_X12_execute :=
  am_met hG (am_lk cl_X12_execute) 1 (by decide +kernel) rfl (by decide) (am_lk_ok (ok_X12_execute l G hG hX)) (v_X12_execute (fun pc => (am_lk_ok (ok_X12_execute l G hG hX) pc).1))
set_option maxRecDepth 100000 in
theorem hv_X12_turns_ : yX12_turns_.cls = RX12 ∧ yX12_turns_.cls ≠ "java/lang/invoke/MethodHandle" ∧ yX12_turns_.cls ≠ "java/lang/invoke/VarHandle" ∧ (parseMethodDescriptor yX12_turns_.desc).map (fun d => d.parameters.length) = some 0 := by decide +kernel
set_option maxRecDepth 100000 in
theorem hd_X12_turns_ : yX12_turns_.cls ≠ "java/lang/invoke/MethodHandle" ∧ yX12_turns_.cls ≠ "java/lang/invoke/VarHandle" ∧ (parseMethodDescriptor yX12_turns_.desc).map (fun d => d.parameters.length) = some 0 := hv_X12_turns_.2
abbrev wa_X12_turns_ : List Cond := Cond.code yX12_turns_ cX12_turns_ 3 (some .boolean) :: am_tb
set_option maxRecDepth 100000 in
theorem ok_X12_turns__0 (l : Launch) (G : am_G) (hG : am_ok G) (hX : am_xs G) : ∀ q ∈ (cl_X12_turns_.drop 0).take 30, am_Ok l G cX12_turns_ 3 yX12_turns_.cls wa_X12_turns_ (am_ro 12) (some .boolean) q.2 q.1 :=
  List.forall_mem_cons.mpr ⟨(mp_aload_n 0 dX12_turns__0 rfl).ok _,
  List.forall_mem_cons.mpr ⟨(mq_getf 12 1 dX12_turns__1 rfl iu_X12 (by decide) tw_1214 rfl).ok _,
  List.forall_mem_cons.mpr ⟨(mp_sipush (173) dX12_turns__4 (by decide)).ok _,
  List.forall_mem_cons.mpr ⟨(mp_iald dX12_turns__7).ok _,
  List.forall_mem_cons.mpr ⟨(mp_if_le 82 dX12_turns__8 (by decide)).ok _,
  List.forall_mem_cons.mpr ⟨(mp_aload_n 0 dX12_turns__11 rfl).ok _,
  List.forall_mem_cons.mpr ⟨(mq_getf 12 1 dX12_turns__12 rfl iu_X12 (by decide) tw_1214 rfl).ok _,
  List.forall_mem_cons.mpr ⟨(mp_sipush (183) dX12_turns__15 (by decide)).ok _,
  List.forall_mem_cons.mpr ⟨(mp_iald dX12_turns__18).ok _,
  List.forall_mem_cons.mpr ⟨(mp_istore_n 1 dX12_turns__19 rfl (by decide)).ok _,
  List.forall_mem_cons.mpr ⟨(mp_aload_n 0 dX12_turns__20 rfl).ok _,
  List.forall_mem_cons.mpr ⟨(mq_getf 12 1 dX12_turns__21 rfl iu_X12 (by decide) tw_1214 rfl).ok _,
  List.forall_mem_cons.mpr ⟨(mp_sipush (173) dX12_turns__24 (by decide)).ok _,
  List.forall_mem_cons.mpr ⟨(mp_dup2 dX12_turns__27).ok _,
  List.forall_mem_cons.mpr ⟨(mp_iald dX12_turns__28).ok _,
  List.forall_mem_cons.mpr ⟨(mp_iconst (1) dX12_turns__29 rfl).ok _,
  List.forall_mem_cons.mpr ⟨(mp_isub dX12_turns__30).ok _,
  List.forall_mem_cons.mpr ⟨(mp_iast dX12_turns__31).ok _,
  List.forall_mem_cons.mpr ⟨(mp_iconst (0) dX12_turns__32 rfl).ok _,
  List.forall_mem_cons.mpr ⟨(mp_istore_n 2 dX12_turns__33 rfl (by decide)).ok _,
  List.forall_mem_cons.mpr ⟨(mp_iload_n 2 dX12_turns__34 rfl).ok _,
  List.forall_mem_cons.mpr ⟨(mp_aload_n 0 dX12_turns__35 rfl).ok _,
  List.forall_mem_cons.mpr ⟨(mq_getf 12 1 dX12_turns__36 rfl iu_X12 (by decide) tw_1214 rfl).ok _,
  List.forall_mem_cons.mpr ⟨(mp_sipush (173) dX12_turns__39 (by decide)).ok _,
  List.forall_mem_cons.mpr ⟨(mp_iald dX12_turns__42).ok _,
  List.forall_mem_cons.mpr ⟨(mp_icmp_ge 74 dX12_turns__43 (by decide)).ok _,
  List.forall_mem_cons.mpr ⟨(mp_aload_n 0 dX12_turns__46 rfl).ok _,
  List.forall_mem_cons.mpr ⟨(mq_getf 12 1 dX12_turns__47 rfl iu_X12 (by decide) tw_1214 rfl).ok _,
  List.forall_mem_cons.mpr ⟨(mp_sipush (183) dX12_turns__50 (by decide)).ok _,
  List.forall_mem_cons.mpr ⟨(mp_iload_n 2 dX12_turns__53 rfl).ok _,
  fun _ h => absurd h List.not_mem_nil⟩⟩⟩⟩⟩⟩⟩⟩⟩⟩⟩⟩⟩⟩⟩⟩⟩⟩⟩⟩⟩⟩⟩⟩⟩⟩⟩⟩⟩⟩
set_option maxRecDepth 100000 in
theorem ok_X12_turns__1 (l : Launch) (G : am_G) (hG : am_ok G) (hX : am_xs G) : ∀ q ∈ (cl_X12_turns_.drop 30).take 30, am_Ok l G cX12_turns_ 3 yX12_turns_.cls wa_X12_turns_ (am_ro 12) (some .boolean) q.2 q.1 :=
  List.forall_mem_cons.mpr ⟨(mp_iadd dX12_turns__54).ok _,
  List.forall_mem_cons.mpr ⟨(mp_aload_n 0 dX12_turns__55 rfl).ok _,
  List.forall_mem_cons.mpr ⟨(mq_getf 12 1 dX12_turns__56 rfl iu_X12 (by decide) tw_1214 rfl).ok _,
  List.forall_mem_cons.mpr ⟨(mp_sipush (183) dX12_turns__59 (by decide)).ok _,
  List.forall_mem_cons.mpr ⟨(mp_iload_n 2 dX12_turns__62 rfl).ok _,
  List.forall_mem_cons.mpr ⟨(mp_iadd dX12_turns__63).ok _,
  List.forall_mem_cons.mpr ⟨(mp_iconst (1) dX12_turns__64 rfl).ok _,
  List.forall_mem_cons.mpr ⟨(mp_iadd dX12_turns__65).ok _,
  List.forall_mem_cons.mpr ⟨(mp_iald dX12_turns__66).ok _,
  List.forall_mem_cons.mpr ⟨(mp_iast dX12_turns__67).ok _,
  List.forall_mem_cons.mpr ⟨(mp_iinc 2 (1) dX12_turns__68 rfl (by decide)).ok _,
  List.forall_mem_cons.mpr ⟨(mp_goto 34 dX12_turns__71 (by decide)).ok _,
  List.forall_mem_cons.mpr ⟨(mp_aload_n 0 dX12_turns__74 rfl).ok _,
  List.forall_mem_cons.mpr ⟨(mp_iload_n 1 dX12_turns__75 rfl).ok _,
  List.forall_mem_cons.mpr ⟨(mq_cv 12 1 (m_X12_turns l G hG hX) (sm_X12_turns l G hG hX) dX12_turns__76 rfl tw_1455 tw_1452 tw_1454 ts_51 tw_14 rfl rfl hv_X12_turns (Nat.le_of_ble_eq_true rfl) (Nat.le_of_ble_eq_true rfl)).ok _,
  List.forall_mem_cons.mpr ⟨(mp_goto 102 dX12_turns__79 (by decide)).ok _,
  List.forall_mem_cons.mpr ⟨(mp_aload_n 0 dX12_turns__82 rfl).ok _,
  List.forall_mem_cons.mpr ⟨(mq_cv 12 0 (m_X12_nextTime l G hG hX) (sm_X12_nextTime l G hG hX) dX12_turns__83 rfl tw_1566 tw_1563 tw_1565 ts_78 tw_14 rfl rfl hv_X12_nextTime (Nat.le_of_ble_eq_true rfl) (Nat.le_of_ble_eq_true rfl)).ok _,
  List.forall_mem_cons.mpr ⟨(mp_if_lt 100 dX12_turns__86 (by decide)).ok _,
  List.forall_mem_cons.mpr ⟨(mp_aload_n 0 dX12_turns__89 rfl).ok _,
  List.forall_mem_cons.mpr ⟨(mp_aload_n 0 dX12_turns__90 rfl).ok _,
  List.forall_mem_cons.mpr ⟨(mq_cv 12 0 (m_X12_nextTime l G hG hX) (sm_X12_nextTime l G hG hX) dX12_turns__91 rfl tw_1566 tw_1563 tw_1565 ts_78 tw_14 rfl rfl hv_X12_nextTime (Nat.le_of_ble_eq_true rfl) (Nat.le_of_ble_eq_true rfl)).ok _,
  List.forall_mem_cons.mpr ⟨(mq_cv 12 1 (m_X12_passes l G hG hX) (sm_X12_passes l G hG hX) dX12_turns__94 rfl tw_1574 tw_1571 tw_1573 ts_80 tw_14 rfl rfl hv_X12_passes (Nat.le_of_ble_eq_true rfl) (Nat.le_of_ble_eq_true rfl)).ok _,
  List.forall_mem_cons.mpr ⟨(mp_goto 102 dX12_turns__97 (by decide)).ok _,
  List.forall_mem_cons.mpr ⟨(mp_iconst (0) dX12_turns__100 rfl).ok _,
  List.forall_mem_cons.mpr ⟨mo_zret dX12_turns__101,
  List.forall_mem_cons.mpr ⟨(mp_aload_n 0 dX12_turns__102 rfl).ok _,
  List.forall_mem_cons.mpr ⟨(mq_getf 12 1 dX12_turns__103 rfl iu_X12 (by decide) tw_1214 rfl).ok _,
  List.forall_mem_cons.mpr ⟨(mp_sipush (176) dX12_turns__106 (by decide)).ok _,
  List.forall_mem_cons.mpr ⟨(mp_dup2 dX12_turns__109).ok _,
  fun _ h => absurd h List.not_mem_nil⟩⟩⟩⟩⟩⟩⟩⟩⟩⟩⟩⟩⟩⟩⟩⟩⟩⟩⟩⟩⟩⟩⟩⟩⟩⟩⟩⟩⟩⟩
set_option maxRecDepth 100000 in
theorem ok_X12_turns__2 (l : Launch) (G : am_G) (hG : am_ok G) (hX : am_xs G) : ∀ q ∈ (cl_X12_turns_.drop 60).take 30, am_Ok l G cX12_turns_ 3 yX12_turns_.cls wa_X12_turns_ (am_ro 12) (some .boolean) q.2 q.1 :=
  List.forall_mem_cons.mpr ⟨(mp_iald dX12_turns__110).ok _,
  List.forall_mem_cons.mpr ⟨(mp_iconst (1) dX12_turns__111 rfl).ok _,
  List.forall_mem_cons.mpr ⟨(mp_iadd dX12_turns__112).ok _,
  List.forall_mem_cons.mpr ⟨(mp_iast dX12_turns__113).ok _,
  List.forall_mem_cons.mpr ⟨(mp_iconst (1) dX12_turns__114 rfl).ok _,
  List.forall_mem_cons.mpr ⟨mo_zret dX12_turns__115,
  fun _ h => absurd h List.not_mem_nil⟩⟩⟩⟩⟩⟩
set_option maxRecDepth 100000 in
theorem ok_X12_turns_ (l : Launch) (G : am_G) (hG : am_ok G) (hX : am_xs G) : ∀ q ∈ cl_X12_turns_, am_Ok l G cX12_turns_ 3 yX12_turns_.cls wa_X12_turns_ (am_ro 12) (some .boolean) q.2 q.1 := by
  have e : cl_X12_turns_ = ((cl_X12_turns_.drop 0).take 30) ++ (((cl_X12_turns_.drop 30).take 30) ++ (((cl_X12_turns_.drop 60).take 30))) := rfl
  rw [e]
  exact List.forall_mem_append.mpr ⟨ok_X12_turns__0 l G hG hX, List.forall_mem_append.mpr ⟨ok_X12_turns__1 l G hG hX, ok_X12_turns__2 l G hG hX⟩⟩
set_option maxRecDepth 100000 in
theorem sm_X12_turns_ (l : Launch) (G : am_G) (hG : am_ok G) (hX : am_xs G) : am_mS sp_X12_turns_ := fun av σ R R1 hR h => ⟨h.1, am_Wp.mr (fun pc => (am_lk_ok (ok_X12_turns_ l G hG hX) pc).1) hR h.2⟩
set_option maxRecDepth 100000 in
theorem m_X12_turns_ (l : Launch) (G : am_G) (hG : am_ok G) (hX : am_xs G) : am_Met l G yX12_turns_ wa_X12_turns_ (am_ro 12) sp_X12_turns_ :=
  am_met hG (am_lk cl_X12_turns_) 1 (by decide +kernel) rfl (by decide) (am_lk_ok (ok_X12_turns_ l G hG hX)) (v_X12_turns_ (fun pc => (am_lk_ok (ok_X12_turns_ l G hG hX) pc).1))
set_option maxRecDepth 100000 in
theorem hv_X12_run : yX12_run.cls = RX12 ∧ yX12_run.cls ≠ "java/lang/invoke/MethodHandle" ∧ yX12_run.cls ≠ "java/lang/invoke/VarHandle" ∧ (parseMethodDescriptor yX12_run.desc).map (fun d => d.parameters.length) = some 1 := by decide +kernel
set_option maxRecDepth 100000 in
theorem hd_X12_run : yX12_run.cls ≠ "java/lang/invoke/MethodHandle" ∧ yX12_run.cls ≠ "java/lang/invoke/VarHandle" ∧ (parseMethodDescriptor yX12_run.desc).map (fun d => d.parameters.length) = some 1 := hv_X12_run.2
abbrev wa_X12_run : List Cond := Cond.code yX12_run cX12_run 3 (some .int) :: am_tb
set_option maxRecDepth 100000 in
theorem ok_X12_run_0 (l : Launch) (G : am_G) (hG : am_ok G) (hX : am_xs G) : ∀ q ∈ (cl_X12_run.drop 0).take 30, am_Ok l G cX12_run 3 yX12_run.cls wa_X12_run (am_ro 13) (some .int) q.2 q.1 :=
  List.forall_mem_cons.mpr ⟨(mp_aload_n 0 dX12_run_0 rfl).ok _,
  List.forall_mem_cons.mpr ⟨(mp_iconst (0) dX12_run_1 rfl).ok _,
  List.forall_mem_cons.mpr ⟨(mq_putf 12 0 dX12_run_2 rfl iu_X12 tyX12 tyX12_ok nmX12 (by decide) tw_1213 rfl rfl (by decide +kernel)).ok _,
  List.forall_mem_cons.mpr ⟨(mp_iload_n 1 dX12_run_5 rfl).ok _,
  List.forall_mem_cons.mpr ⟨(mp_iconst (1) dX12_run_6 rfl).ok _,
  List.forall_mem_cons.mpr ⟨(mp_bipush (100) dX12_run_7 (by decide)).ok _,
  List.forall_mem_cons.mpr ⟨(mq_cs 3 (m_X12_in l G hG hX) (sm_X12_in l G hG hX) dX12_run_9 tw_1257 tw_1255 tw_1256 tw_14 rfl rfl hd_X12_in (Nat.le_of_ble_eq_true rfl) (Nat.le_of_ble_eq_true rfl)).ok _,
  List.forall_mem_cons.mpr ⟨(mp_if_ne 21 dX12_run_12 (by decide)).ok _,
  List.forall_mem_cons.mpr ⟨(mp_aload_n 0 dX12_run_15 rfl).ok _,
  List.forall_mem_cons.mpr ⟨(mp_iconst (1) dX12_run_16 rfl).ok _,
  List.forall_mem_cons.mpr ⟨(mq_cv 12 1 (m_X12_raises l G hG hX) (sm_X12_raises l G hG hX) dX12_run_17 rfl tw_1261 tw_1258 tw_1260 ts_34 tw_14 rfl rfl hv_X12_raises (Nat.le_of_ble_eq_true rfl) (Nat.le_of_ble_eq_true rfl)).ok _,
  List.forall_mem_cons.mpr ⟨mo_iret dX12_run_20,
  List.forall_mem_cons.mpr ⟨(mp_iconst (0) dX12_run_21 rfl).ok _,
  List.forall_mem_cons.mpr ⟨(mp_istore_n 2 dX12_run_22 rfl (by decide)).ok _,
  List.forall_mem_cons.mpr ⟨(mp_iload_n 2 dX12_run_23 rfl).ok _,
  List.forall_mem_cons.mpr ⟨(mp_iload_n 1 dX12_run_24 rfl).ok _,
  List.forall_mem_cons.mpr ⟨(mp_icmp_ge 41 dX12_run_25 (by decide)).ok _,
  List.forall_mem_cons.mpr ⟨(mp_aload_n 0 dX12_run_28 rfl).ok _,
  List.forall_mem_cons.mpr ⟨(mq_cv 12 0 (m_X12_turns_ l G hG hX) (sm_X12_turns_ l G hG hX) dX12_run_29 rfl tw_1451 tw_1448 tw_1450 ts_50 tw_14 rfl rfl hv_X12_turns_ (Nat.le_of_ble_eq_true rfl) (Nat.le_of_ble_eq_true rfl)).ok _,
  List.forall_mem_cons.mpr ⟨(mp_if_eq 41 dX12_run_32 (by decide)).ok _,
  List.forall_mem_cons.mpr ⟨(mp_iinc 2 (1) dX12_run_35 rfl (by decide)).ok _,
  List.forall_mem_cons.mpr ⟨(mp_goto 23 dX12_run_38 (by decide)).ok _,
  List.forall_mem_cons.mpr ⟨(mp_iload_n 2 dX12_run_41 rfl).ok _,
  List.forall_mem_cons.mpr ⟨mo_iret dX12_run_42,
  fun _ h => absurd h List.not_mem_nil⟩⟩⟩⟩⟩⟩⟩⟩⟩⟩⟩⟩⟩⟩⟩⟩⟩⟩⟩⟩⟩⟩⟩⟩
set_option maxRecDepth 100000 in
theorem ok_X12_run (l : Launch) (G : am_G) (hG : am_ok G) (hX : am_xs G) : ∀ q ∈ cl_X12_run, am_Ok l G cX12_run 3 yX12_run.cls wa_X12_run (am_ro 13) (some .int) q.2 q.1 := by
  exact ok_X12_run_0 l G hG hX
set_option maxRecDepth 100000 in
theorem sm_X12_run (l : Launch) (G : am_G) (hG : am_ok G) (hX : am_xs G) : am_mS sp_X12_run := fun av σ R R1 hR h => ⟨h.1, am_Wp.mr (fun pc => (am_lk_ok (ok_X12_run l G hG hX) pc).1) hR h.2⟩
set_option maxRecDepth 100000 in
theorem m_X12_run (l : Launch) (G : am_G) (hG : am_ok G) (hX : am_xs G) : am_Met l G yX12_run wa_X12_run (am_ro 13) sp_X12_run :=
  am_met hG (am_lk cl_X12_run) 2 (by decide +kernel) rfl (by decide) (am_lk_ok (ok_X12_run l G hG hX)) (v_X12_run (fun pc => (am_lk_ok (ok_X12_run l G hG hX) pc).1))
