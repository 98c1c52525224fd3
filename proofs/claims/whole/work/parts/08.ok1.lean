/-! methods: their instructions fit their transformers, their contracts (written by program: wip/whole/mkok.py) -/
set_option maxRecDepth 100000 in
theorem hv_X6_at : yX6_at.cls = RX6 ∧ yX6_at.cls ≠ "java/lang/invoke/MethodHandle" ∧ yX6_at.cls ≠ "java/lang/invoke/VarHandle" ∧ (parseMethodDescriptor yX6_at.desc).map (fun d => d.parameters.length) = some 1 := by decide +kernel
set_option maxRecDepth 100000 in
theorem hd_X6_at : yX6_at.cls ≠ "java/lang/invoke/MethodHandle" ∧ yX6_at.cls ≠ "java/lang/invoke/VarHandle" ∧ (parseMethodDescriptor yX6_at.desc).map (fun d => d.parameters.length) = some 1 := hv_X6_at.2
abbrev wa_X6_at : List Cond := Cond.code yX6_at cX6_at 2 (some .int) :: am_tb
set_option maxRecDepth 100000 in
theorem ok_X6_at_0 (l : Launch) (G : am_G) (hG : am_ok G) : ∀ q ∈ (cl_X6_at.drop 0).take 30, am_Ok l G cX6_at 2 yX6_at.cls wa_X6_at (am_ro 0) (some .int) q.2 q.1 :=
  List.forall_mem_cons.mpr ⟨(mp_iload_n 1 dX6_at_0 rfl).ok _,
  List.forall_mem_cons.mpr ⟨(mp_if_lt 22 dX6_at_1 (by decide)).ok _,
  List.forall_mem_cons.mpr ⟨(mp_iload_n 1 dX6_at_4 rfl).ok _,
  List.forall_mem_cons.mpr ⟨(mp_aload_n 0 dX6_at_5 rfl).ok _,
  List.forall_mem_cons.mpr ⟨(mq_getf 6 0 dX6_at_6 rfl iu_X6 (by decide) tw_72 rfl).ok _,
  List.forall_mem_cons.mpr ⟨(mp_alen dX6_at_9).ok _,
  List.forall_mem_cons.mpr ⟨(mp_icmp_ge 22 dX6_at_10 (by decide)).ok _,
  List.forall_mem_cons.mpr ⟨(mp_aload_n 0 dX6_at_13 rfl).ok _,
  List.forall_mem_cons.mpr ⟨(mq_getf 6 0 dX6_at_14 rfl iu_X6 (by decide) tw_72 rfl).ok _,
  List.forall_mem_cons.mpr ⟨(mp_iload_n 1 dX6_at_17 rfl).ok _,
  List.forall_mem_cons.mpr ⟨(mp_iald dX6_at_18).ok _,
  List.forall_mem_cons.mpr ⟨(mp_goto 23 dX6_at_19 (by decide)).ok _,
  List.forall_mem_cons.mpr ⟨(mp_iconst (0) dX6_at_22 rfl).ok _,
  List.forall_mem_cons.mpr ⟨mo_iret dX6_at_23,
  fun _ h => absurd h List.not_mem_nil⟩⟩⟩⟩⟩⟩⟩⟩⟩⟩⟩⟩⟩⟩
set_option maxRecDepth 100000 in
theorem ok_X6_at (l : Launch) (G : am_G) (hG : am_ok G) : ∀ q ∈ cl_X6_at, am_Ok l G cX6_at 2 yX6_at.cls wa_X6_at (am_ro 0) (some .int) q.2 q.1 := by
  exact ok_X6_at_0 l G hG
set_option maxRecDepth 100000 in
theorem m_X6_at (l : Launch) (G : am_G) (hG : am_ok G) : am_Met l G yX6_at wa_X6_at (am_ro 0) sp_X6_at :=
  am_met hG (am_lk cl_X6_at) 2 (by decide +kernel) rfl (by decide) (am_lk_ok (ok_X6_at l G hG)) (v_X6_at (fun pc => (am_lk_ok (ok_X6_at l G hG) pc).1))
