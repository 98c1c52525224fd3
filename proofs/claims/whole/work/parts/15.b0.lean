/-! what each public method that throws ends in: an int, or one of its exceptions (written by program: wip/whole/gen_law.py) -/
set_option maxRecDepth 100000 in
theorem en_X11_append_0 : ∀ q ∈ (cl_X11_append.drop 0).take 25, al_end [0, 1] q.2 :=
  List.forall_mem_cons.mpr ⟨fun _ _ _ _ _ h => h, List.forall_mem_cons.mpr ⟨fun _ _ _ _ _ h => h, List.forall_mem_cons.mpr ⟨fun _ _ _ _ _ h => h, List.forall_mem_cons.mpr ⟨fun _ _ _ _ _ h => h, List.forall_mem_cons.mpr ⟨fun _ _ _ _ _ h => h, List.forall_mem_cons.mpr ⟨fun _ _ _ _ _ h => h, List.forall_mem_cons.mpr ⟨al_end_t 0 0 rfl, List.forall_mem_cons.mpr ⟨fun _ _ _ _ _ h => h, List.forall_mem_cons.mpr ⟨fun _ _ _ _ _ h => h, List.forall_mem_cons.mpr ⟨fun _ _ _ _ _ h => h, List.forall_mem_cons.mpr ⟨fun _ _ _ _ _ h => h, List.forall_mem_cons.mpr ⟨fun _ _ _ _ _ h => h, List.forall_mem_cons.mpr ⟨fun _ _ _ _ _ h => h, List.forall_mem_cons.mpr ⟨fun _ _ _ _ _ h => h, List.forall_mem_cons.mpr ⟨al_end_t 1 1 rfl, List.forall_mem_cons.mpr ⟨fun _ _ _ _ _ h => h, List.forall_mem_cons.mpr ⟨fun _ _ _ _ _ h => h, List.forall_mem_cons.mpr ⟨fun _ _ _ _ _ h => h, List.forall_mem_cons.mpr ⟨fun _ _ _ _ _ h => h, List.forall_mem_cons.mpr ⟨fun _ _ _ _ _ h => h, List.forall_mem_cons.mpr ⟨fun _ _ _ _ _ h => h, List.forall_mem_cons.mpr ⟨fun _ _ _ _ _ h => h, List.forall_mem_cons.mpr ⟨fun _ _ _ _ _ h => h, List.forall_mem_cons.mpr ⟨fun _ _ _ _ _ h => h, List.forall_mem_cons.mpr ⟨fun _ _ _ _ _ h => h, fun _ h => absurd h List.not_mem_nil⟩⟩⟩⟩⟩⟩⟩⟩⟩⟩⟩⟩⟩⟩⟩⟩⟩⟩⟩⟩⟩⟩⟩⟩⟩
set_option maxRecDepth 100000 in
theorem en_X11_append_1 : ∀ q ∈ (cl_X11_append.drop 25).take 25, al_end [0, 1] q.2 :=
  List.forall_mem_cons.mpr ⟨fun _ _ _ _ _ h => h, List.forall_mem_cons.mpr ⟨fun _ _ _ _ _ h => h, List.forall_mem_cons.mpr ⟨fun _ _ _ _ _ h => h, List.forall_mem_cons.mpr ⟨fun _ _ _ _ _ h => h, List.forall_mem_cons.mpr ⟨fun _ _ _ _ _ h => h, List.forall_mem_cons.mpr ⟨fun _ _ _ _ _ h => h, List.forall_mem_cons.mpr ⟨fun _ _ _ _ _ h => h, List.forall_mem_cons.mpr ⟨fun _ _ _ _ _ h => h, List.forall_mem_cons.mpr ⟨fun _ _ _ _ _ h => h, List.forall_mem_cons.mpr ⟨fun _ _ _ _ _ h => h, List.forall_mem_cons.mpr ⟨fun _ _ _ _ _ h => h, List.forall_mem_cons.mpr ⟨al_end_i, fun _ h => absurd h List.not_mem_nil⟩⟩⟩⟩⟩⟩⟩⟩⟩⟩⟩⟩
set_option maxRecDepth 100000 in
theorem en_X11_append : ∀ q ∈ cl_X11_append, al_end [0, 1] q.2 := by
  have e : cl_X11_append = ((cl_X11_append.drop 0).take 25) ++ (((cl_X11_append.drop 25).take 25)) := rfl
  rw [e]
  exact List.forall_mem_append.mpr ⟨en_X11_append_0, en_X11_append_1⟩
theorem e_X11_append {av : List Value} {σ : am_M} {R : am_R} (h : sp_X11_append av σ R) : sp_X11_append av σ (fun v s => R v s ∧ al_T [0, 1] v) := ⟨h.1, al_ends (al_end_lk en_X11_append) h.2⟩
set_option maxRecDepth 100000 in
theorem en_X11_execute_0 : ∀ q ∈ (cl_X11_execute.drop 0).take 25, al_end [0, 1] q.2 :=
  List.forall_mem_cons.mpr ⟨fun _ _ _ _ _ h => h, List.forall_mem_cons.mpr ⟨fun _ _ _ _ _ h => h, List.forall_mem_cons.mpr ⟨fun _ _ _ _ _ h => h, List.forall_mem_cons.mpr ⟨fun _ _ _ _ _ h => h, List.forall_mem_cons.mpr ⟨fun _ _ _ _ _ h => h, List.forall_mem_cons.mpr ⟨fun _ _ _ _ _ h => h, List.forall_mem_cons.mpr ⟨fun _ _ _ _ _ h => h, List.forall_mem_cons.mpr ⟨fun _ _ _ _ _ h => h, List.forall_mem_cons.mpr ⟨fun _ _ _ _ _ h => h, List.forall_mem_cons.mpr ⟨fun _ _ _ _ _ h => h, List.forall_mem_cons.mpr ⟨fun _ _ _ _ _ h => h, List.forall_mem_cons.mpr ⟨fun _ _ _ _ _ h => h, List.forall_mem_cons.mpr ⟨al_end_t 0 0 rfl, List.forall_mem_cons.mpr ⟨fun _ _ _ _ _ h => h, List.forall_mem_cons.mpr ⟨fun _ _ _ _ _ h => h, List.forall_mem_cons.mpr ⟨fun _ _ _ _ _ h => h, List.forall_mem_cons.mpr ⟨fun _ _ _ _ _ h => h, List.forall_mem_cons.mpr ⟨fun _ _ _ _ _ h => h, List.forall_mem_cons.mpr ⟨fun _ _ _ _ _ h => h, List.forall_mem_cons.mpr ⟨al_end_t 1 1 rfl, List.forall_mem_cons.mpr ⟨fun _ _ _ _ _ h => h, List.forall_mem_cons.mpr ⟨fun _ _ _ _ _ h => h, List.forall_mem_cons.mpr ⟨fun _ _ _ _ _ h => h, List.forall_mem_cons.mpr ⟨fun _ _ _ _ _ h => h, List.forall_mem_cons.mpr ⟨fun _ _ _ _ _ h => h, fun _ h => absurd h List.not_mem_nil⟩⟩⟩⟩⟩⟩⟩⟩⟩⟩⟩⟩⟩⟩⟩⟩⟩⟩⟩⟩⟩⟩⟩⟩⟩
set_option maxRecDepth 100000 in
theorem en_X11_execute_1 : ∀ q ∈ (cl_X11_execute.drop 25).take 25, al_end [0, 1] q.2 :=
  List.forall_mem_cons.mpr ⟨fun _ _ _ _ _ h => h, List.forall_mem_cons.mpr ⟨fun _ _ _ _ _ h => h, List.forall_mem_cons.mpr ⟨fun _ _ _ _ _ h => h, List.forall_mem_cons.mpr ⟨al_end_i, fun _ h => absurd h List.not_mem_nil⟩⟩⟩⟩
set_option maxRecDepth 100000 in
theorem en_X11_execute : ∀ q ∈ cl_X11_execute, al_end [0, 1] q.2 := by
  have e : cl_X11_execute = ((cl_X11_execute.drop 0).take 25) ++ (((cl_X11_execute.drop 25).take 25)) := rfl
  rw [e]
  exact List.forall_mem_append.mpr ⟨en_X11_execute_0, en_X11_execute_1⟩
theorem e_X11_execute {av : List Value} {σ : am_M} {R : am_R} (h : sp_X11_execute av σ R) : sp_X11_execute av σ (fun v s => R v s ∧ al_T [0, 1] v) := ⟨h.1, al_ends (al_end_lk en_X11_execute) h.2⟩
set_option maxRecDepth 100000 in
theorem en_X11_program_0 : ∀ q ∈ (cl_X11_program.drop 0).take 25, al_end [2] q.2 :=
  List.forall_mem_cons.mpr ⟨fun _ _ _ _ _ h => h, List.forall_mem_cons.mpr ⟨fun _ _ _ _ _ h => h, List.forall_mem_cons.mpr ⟨fun _ _ _ _ _ h => h, List.forall_mem_cons.mpr ⟨fun _ _ _ _ _ h => h, List.forall_mem_cons.mpr ⟨fun _ _ _ _ _ h => h, List.forall_mem_cons.mpr ⟨al_end_t 0 2 rfl, List.forall_mem_cons.mpr ⟨fun _ _ _ _ _ h => h, List.forall_mem_cons.mpr ⟨fun _ _ _ _ _ h => h, List.forall_mem_cons.mpr ⟨fun _ _ _ _ _ h => h, List.forall_mem_cons.mpr ⟨fun _ _ _ _ _ h => h, List.forall_mem_cons.mpr ⟨fun _ _ _ _ _ h => h, List.forall_mem_cons.mpr ⟨fun _ _ _ _ _ h => h, List.forall_mem_cons.mpr ⟨fun _ _ _ _ _ h => h, List.forall_mem_cons.mpr ⟨fun _ _ _ _ _ h => h, List.forall_mem_cons.mpr ⟨fun _ _ _ _ _ h => h, List.forall_mem_cons.mpr ⟨fun _ _ _ _ _ h => h, List.forall_mem_cons.mpr ⟨fun _ _ _ _ _ h => h, List.forall_mem_cons.mpr ⟨fun _ _ _ _ _ h => h, List.forall_mem_cons.mpr ⟨al_end_t 0 2 rfl, List.forall_mem_cons.mpr ⟨fun _ _ _ _ _ h => h, List.forall_mem_cons.mpr ⟨fun _ _ _ _ _ h => h, List.forall_mem_cons.mpr ⟨fun _ _ _ _ _ h => h, List.forall_mem_cons.mpr ⟨fun _ _ _ _ _ h => h, List.forall_mem_cons.mpr ⟨fun _ _ _ _ _ h => h, List.forall_mem_cons.mpr ⟨fun _ _ _ _ _ h => h, fun _ h => absurd h List.not_mem_nil⟩⟩⟩⟩⟩⟩⟩⟩⟩⟩⟩⟩⟩⟩⟩⟩⟩⟩⟩⟩⟩⟩⟩⟩⟩
set_option maxRecDepth 100000 in
theorem en_X11_program_1 : ∀ q ∈ (cl_X11_program.drop 25).take 25, al_end [2] q.2 :=
  List.forall_mem_cons.mpr ⟨fun _ _ _ _ _ h => h, List.forall_mem_cons.mpr ⟨fun _ _ _ _ _ h => h, List.forall_mem_cons.mpr ⟨fun _ _ _ _ _ h => h, List.forall_mem_cons.mpr ⟨fun _ _ _ _ _ h => h, List.forall_mem_cons.mpr ⟨fun _ _ _ _ _ h => h, List.forall_mem_cons.mpr ⟨al_end_i, fun _ h => absurd h List.not_mem_nil⟩⟩⟩⟩⟩⟩
set_option maxRecDepth 100000 in
theorem en_X11_program : ∀ q ∈ cl_X11_program, al_end [2] q.2 := by
  have e : cl_X11_program = ((cl_X11_program.drop 0).take 25) ++ (((cl_X11_program.drop 25).take 25)) := rfl
  rw [e]
  exact List.forall_mem_append.mpr ⟨en_X11_program_0, en_X11_program_1⟩
theorem e_X11_program {av : List Value} {σ : am_M} {R : am_R} (h : sp_X11_program av σ R) : sp_X11_program av σ (fun v s => R v s ∧ al_T [2] v) := ⟨h.1, al_ends (al_end_lk en_X11_program) h.2⟩
set_option maxRecDepth 100000 in
theorem en_X11_start_0 : ∀ q ∈ (cl_X11_start.drop 0).take 25, al_end [2, 1] q.2 :=
  List.forall_mem_cons.mpr ⟨fun _ _ _ _ _ h => h, List.forall_mem_cons.mpr ⟨fun _ _ _ _ _ h => h, List.forall_mem_cons.mpr ⟨fun _ _ _ _ _ h => h, List.forall_mem_cons.mpr ⟨fun _ _ _ _ _ h => h, List.forall_mem_cons.mpr ⟨fun _ _ _ _ _ h => h, List.forall_mem_cons.mpr ⟨al_end_t 0 2 rfl, List.forall_mem_cons.mpr ⟨fun _ _ _ _ _ h => h, List.forall_mem_cons.mpr ⟨fun _ _ _ _ _ h => h, List.forall_mem_cons.mpr ⟨fun _ _ _ _ _ h => h, List.forall_mem_cons.mpr ⟨fun _ _ _ _ _ h => h, List.forall_mem_cons.mpr ⟨fun _ _ _ _ _ h => h, List.forall_mem_cons.mpr ⟨fun _ _ _ _ _ h => h, List.forall_mem_cons.mpr ⟨fun _ _ _ _ _ h => h, List.forall_mem_cons.mpr ⟨fun _ _ _ _ _ h => h, List.forall_mem_cons.mpr ⟨fun _ _ _ _ _ h => h, List.forall_mem_cons.mpr ⟨al_end_t 1 1 rfl, List.forall_mem_cons.mpr ⟨fun _ _ _ _ _ h => h, List.forall_mem_cons.mpr ⟨al_end_i, fun _ h => absurd h List.not_mem_nil⟩⟩⟩⟩⟩⟩⟩⟩⟩⟩⟩⟩⟩⟩⟩⟩⟩⟩
set_option maxRecDepth 100000 in
theorem en_X11_start : ∀ q ∈ cl_X11_start, al_end [2, 1] q.2 := by
  have e : cl_X11_start = ((cl_X11_start.drop 0).take 25) := rfl
  rw [e]
  exact en_X11_start_0
theorem e_X11_start {av : List Value} {σ : am_M} {R : am_R} (h : sp_X11_start av σ R) : sp_X11_start av σ (fun v s => R v s ∧ al_T [2, 1] v) := ⟨h.1, al_ends (al_end_lk en_X11_start) h.2⟩
set_option maxRecDepth 100000 in
theorem en_X11_cancel_0 : ∀ q ∈ (cl_X11_cancel.drop 0).take 25, al_end [2] q.2 :=
  List.forall_mem_cons.mpr ⟨fun _ _ _ _ _ h => h, List.forall_mem_cons.mpr ⟨fun _ _ _ _ _ h => h, List.forall_mem_cons.mpr ⟨fun _ _ _ _ _ h => h, List.forall_mem_cons.mpr ⟨fun _ _ _ _ _ h => h, List.forall_mem_cons.mpr ⟨fun _ _ _ _ _ h => h, List.forall_mem_cons.mpr ⟨fun _ _ _ _ _ h => h, List.forall_mem_cons.mpr ⟨al_end_t 0 2 rfl, List.forall_mem_cons.mpr ⟨fun _ _ _ _ _ h => h, List.forall_mem_cons.mpr ⟨fun _ _ _ _ _ h => h, List.forall_mem_cons.mpr ⟨fun _ _ _ _ _ h => h, List.forall_mem_cons.mpr ⟨fun _ _ _ _ _ h => h, List.forall_mem_cons.mpr ⟨fun _ _ _ _ _ h => h, List.forall_mem_cons.mpr ⟨fun _ _ _ _ _ h => h, List.forall_mem_cons.mpr ⟨fun _ _ _ _ _ h => h, List.forall_mem_cons.mpr ⟨fun _ _ _ _ _ h => h, List.forall_mem_cons.mpr ⟨fun _ _ _ _ _ h => h, List.forall_mem_cons.mpr ⟨fun _ _ _ _ _ h => h, List.forall_mem_cons.mpr ⟨fun _ _ _ _ _ h => h, List.forall_mem_cons.mpr ⟨fun _ _ _ _ _ h => h, List.forall_mem_cons.mpr ⟨fun _ _ _ _ _ h => h, List.forall_mem_cons.mpr ⟨al_end_i, fun _ h => absurd h List.not_mem_nil⟩⟩⟩⟩⟩⟩⟩⟩⟩⟩⟩⟩⟩⟩⟩⟩⟩⟩⟩⟩⟩
set_option maxRecDepth 100000 in
theorem en_X11_cancel : ∀ q ∈ cl_X11_cancel, al_end [2] q.2 := by
  have e : cl_X11_cancel = ((cl_X11_cancel.drop 0).take 25) := rfl
  rw [e]
  exact en_X11_cancel_0
theorem e_X11_cancel {av : List Value} {σ : am_M} {R : am_R} (h : sp_X11_cancel av σ R) : sp_X11_cancel av σ (fun v s => R v s ∧ al_T [2] v) := ⟨h.1, al_ends (al_end_lk en_X11_cancel) h.2⟩
set_option maxRecDepth 100000 in
theorem en_X11_run_0 : ∀ q ∈ (cl_X11_run.drop 0).take 25, al_end [0] q.2 :=
  List.forall_mem_cons.mpr ⟨fun _ _ _ _ _ h => h, List.forall_mem_cons.mpr ⟨fun _ _ _ _ _ h => h, List.forall_mem_cons.mpr ⟨fun _ _ _ _ _ h => h, List.forall_mem_cons.mpr ⟨fun _ _ _ _ _ h => h, List.forall_mem_cons.mpr ⟨fun _ _ _ _ _ h => h, List.forall_mem_cons.mpr ⟨fun _ _ _ _ _ h => h, List.forall_mem_cons.mpr ⟨al_end_t 0 0 rfl, List.forall_mem_cons.mpr ⟨fun _ _ _ _ _ h => h, List.forall_mem_cons.mpr ⟨fun _ _ _ _ _ h => h, List.forall_mem_cons.mpr ⟨fun _ _ _ _ _ h => h, List.forall_mem_cons.mpr ⟨fun _ _ _ _ _ h => h, List.forall_mem_cons.mpr ⟨fun _ _ _ _ _ h => h, List.forall_mem_cons.mpr ⟨fun _ _ _ _ _ h => h, List.forall_mem_cons.mpr ⟨fun _ _ _ _ _ h => h, List.forall_mem_cons.mpr ⟨fun _ _ _ _ _ h => h, List.forall_mem_cons.mpr ⟨fun _ _ _ _ _ h => h, List.forall_mem_cons.mpr ⟨fun _ _ _ _ _ h => h, List.forall_mem_cons.mpr ⟨fun _ _ _ _ _ h => h, List.forall_mem_cons.mpr ⟨fun _ _ _ _ _ h => h, List.forall_mem_cons.mpr ⟨al_end_i, fun _ h => absurd h List.not_mem_nil⟩⟩⟩⟩⟩⟩⟩⟩⟩⟩⟩⟩⟩⟩⟩⟩⟩⟩⟩⟩
set_option maxRecDepth 100000 in
theorem en_X11_run : ∀ q ∈ cl_X11_run, al_end [0] q.2 := by
  have e : cl_X11_run = ((cl_X11_run.drop 0).take 25) := rfl
  rw [e]
  exact en_X11_run_0
theorem e_X11_run {av : List Value} {σ : am_M} {R : am_R} (h : sp_X11_run av σ R) : sp_X11_run av σ (fun v s => R v s ∧ al_T [0] v) := ⟨h.1, al_ends (al_end_lk en_X11_run) h.2⟩
set_option maxRecDepth 100000 in
theorem en_X11_task_0 : ∀ q ∈ (cl_X11_task.drop 0).take 25, al_end [2, 0] q.2 :=
  List.forall_mem_cons.mpr ⟨fun _ _ _ _ _ h => h, List.forall_mem_cons.mpr ⟨fun _ _ _ _ _ h => h, List.forall_mem_cons.mpr ⟨fun _ _ _ _ _ h => h, List.forall_mem_cons.mpr ⟨fun _ _ _ _ _ h => h, List.forall_mem_cons.mpr ⟨fun _ _ _ _ _ h => h, List.forall_mem_cons.mpr ⟨fun _ _ _ _ _ h => h, List.forall_mem_cons.mpr ⟨al_end_t 0 2 rfl, List.forall_mem_cons.mpr ⟨fun _ _ _ _ _ h => h, List.forall_mem_cons.mpr ⟨fun _ _ _ _ _ h => h, List.forall_mem_cons.mpr ⟨fun _ _ _ _ _ h => h, List.forall_mem_cons.mpr ⟨fun _ _ _ _ _ h => h, List.forall_mem_cons.mpr ⟨fun _ _ _ _ _ h => h, List.forall_mem_cons.mpr ⟨al_end_t 1 0 rfl, List.forall_mem_cons.mpr ⟨fun _ _ _ _ _ h => h, List.forall_mem_cons.mpr ⟨fun _ _ _ _ _ h => h, List.forall_mem_cons.mpr ⟨fun _ _ _ _ _ h => h, List.forall_mem_cons.mpr ⟨fun _ _ _ _ _ h => h, List.forall_mem_cons.mpr ⟨fun _ _ _ _ _ h => h, List.forall_mem_cons.mpr ⟨fun _ _ _ _ _ h => h, List.forall_mem_cons.mpr ⟨al_end_i, fun _ h => absurd h List.not_mem_nil⟩⟩⟩⟩⟩⟩⟩⟩⟩⟩⟩⟩⟩⟩⟩⟩⟩⟩⟩⟩
set_option maxRecDepth 100000 in
theorem en_X11_task : ∀ q ∈ cl_X11_task, al_end [2, 0] q.2 := by
  have e : cl_X11_task = ((cl_X11_task.drop 0).take 25) := rfl
  rw [e]
  exact en_X11_task_0
theorem e_X11_task {av : List Value} {σ : am_M} {R : am_R} (h : sp_X11_task av σ R) : sp_X11_task av σ (fun v s => R v s ∧ al_T [2, 0] v) := ⟨h.1, al_ends (al_end_lk en_X11_task) h.2⟩
set_option maxRecDepth 100000 in
theorem en_X11_scope_0 : ∀ q ∈ (cl_X11_scope.drop 0).take 25, al_end [2, 0] q.2 :=
  List.forall_mem_cons.mpr ⟨fun _ _ _ _ _ h => h, List.forall_mem_cons.mpr ⟨fun _ _ _ _ _ h => h, List.forall_mem_cons.mpr ⟨fun _ _ _ _ _ h => h, List.forall_mem_cons.mpr ⟨fun _ _ _ _ _ h => h, List.forall_mem_cons.mpr ⟨fun _ _ _ _ _ h => h, List.forall_mem_cons.mpr ⟨fun _ _ _ _ _ h => h, List.forall_mem_cons.mpr ⟨al_end_t 0 2 rfl, List.forall_mem_cons.mpr ⟨fun _ _ _ _ _ h => h, List.forall_mem_cons.mpr ⟨fun _ _ _ _ _ h => h, List.forall_mem_cons.mpr ⟨fun _ _ _ _ _ h => h, List.forall_mem_cons.mpr ⟨fun _ _ _ _ _ h => h, List.forall_mem_cons.mpr ⟨fun _ _ _ _ _ h => h, List.forall_mem_cons.mpr ⟨al_end_t 1 0 rfl, List.forall_mem_cons.mpr ⟨fun _ _ _ _ _ h => h, List.forall_mem_cons.mpr ⟨fun _ _ _ _ _ h => h, List.forall_mem_cons.mpr ⟨fun _ _ _ _ _ h => h, List.forall_mem_cons.mpr ⟨fun _ _ _ _ _ h => h, List.forall_mem_cons.mpr ⟨fun _ _ _ _ _ h => h, List.forall_mem_cons.mpr ⟨fun _ _ _ _ _ h => h, List.forall_mem_cons.mpr ⟨al_end_i, fun _ h => absurd h List.not_mem_nil⟩⟩⟩⟩⟩⟩⟩⟩⟩⟩⟩⟩⟩⟩⟩⟩⟩⟩⟩⟩
set_option maxRecDepth 100000 in
theorem en_X11_scope : ∀ q ∈ cl_X11_scope, al_end [2, 0] q.2 := by
  have e : cl_X11_scope = ((cl_X11_scope.drop 0).take 25) := rfl
  rw [e]
  exact en_X11_scope_0
theorem e_X11_scope {av : List Value} {σ : am_M} {R : am_R} (h : sp_X11_scope av σ R) : sp_X11_scope av σ (fun v s => R v s ∧ al_T [2, 0] v) := ⟨h.1, al_ends (al_end_lk en_X11_scope) h.2⟩
set_option maxRecDepth 100000 in
theorem en_X11_failure_0 : ∀ q ∈ (cl_X11_failure.drop 0).take 25, al_end [2, 0, 3] q.2 :=
  List.forall_mem_cons.mpr ⟨fun _ _ _ _ _ h => h, List.forall_mem_cons.mpr ⟨fun _ _ _ _ _ h => h, List.forall_mem_cons.mpr ⟨fun _ _ _ _ _ h => h, List.forall_mem_cons.mpr ⟨fun _ _ _ _ _ h => h, List.forall_mem_cons.mpr ⟨fun _ _ _ _ _ h => h, List.forall_mem_cons.mpr ⟨fun _ _ _ _ _ h => h, List.forall_mem_cons.mpr ⟨al_end_t 0 2 rfl, List.forall_mem_cons.mpr ⟨fun _ _ _ _ _ h => h, List.forall_mem_cons.mpr ⟨fun _ _ _ _ _ h => h, List.forall_mem_cons.mpr ⟨fun _ _ _ _ _ h => h, List.forall_mem_cons.mpr ⟨fun _ _ _ _ _ h => h, List.forall_mem_cons.mpr ⟨fun _ _ _ _ _ h => h, List.forall_mem_cons.mpr ⟨al_end_t 1 0 rfl, List.forall_mem_cons.mpr ⟨fun _ _ _ _ _ h => h, List.forall_mem_cons.mpr ⟨fun _ _ _ _ _ h => h, List.forall_mem_cons.mpr ⟨fun _ _ _ _ _ h => h, List.forall_mem_cons.mpr ⟨fun _ _ _ _ _ h => h, List.forall_mem_cons.mpr ⟨fun _ _ _ _ _ h => h, List.forall_mem_cons.mpr ⟨fun _ _ _ _ _ h => h, List.forall_mem_cons.mpr ⟨fun _ _ _ _ _ h => h, List.forall_mem_cons.mpr ⟨fun _ _ _ _ _ h => h, List.forall_mem_cons.mpr ⟨fun _ _ _ _ _ h => h, List.forall_mem_cons.mpr ⟨fun _ _ _ _ _ h => h, List.forall_mem_cons.mpr ⟨fun _ _ _ _ _ h => h, List.forall_mem_cons.mpr ⟨fun _ _ _ _ _ h => h, fun _ h => absurd h List.not_mem_nil⟩⟩⟩⟩⟩⟩⟩⟩⟩⟩⟩⟩⟩⟩⟩⟩⟩⟩⟩⟩⟩⟩⟩⟩⟩
set_option maxRecDepth 100000 in
theorem en_X11_failure_1 : ∀ q ∈ (cl_X11_failure.drop 25).take 25, al_end [2, 0, 3] q.2 :=
  List.forall_mem_cons.mpr ⟨fun _ _ _ _ _ h => h, List.forall_mem_cons.mpr ⟨fun _ _ _ _ _ h => h, List.forall_mem_cons.mpr ⟨fun _ _ _ _ _ h => h, List.forall_mem_cons.mpr ⟨al_end_t 2 3 rfl, List.forall_mem_cons.mpr ⟨fun _ _ _ _ _ h => h, List.forall_mem_cons.mpr ⟨fun _ _ _ _ _ h => h, List.forall_mem_cons.mpr ⟨fun _ _ _ _ _ h => h, List.forall_mem_cons.mpr ⟨fun _ _ _ _ _ h => h, List.forall_mem_cons.mpr ⟨fun _ _ _ _ _ h => h, List.forall_mem_cons.mpr ⟨fun _ _ _ _ _ h => h, List.forall_mem_cons.mpr ⟨fun _ _ _ _ _ h => h, List.forall_mem_cons.mpr ⟨fun _ _ _ _ _ h => h, List.forall_mem_cons.mpr ⟨fun _ _ _ _ _ h => h, List.forall_mem_cons.mpr ⟨fun _ _ _ _ _ h => h, List.forall_mem_cons.mpr ⟨fun _ _ _ _ _ h => h, List.forall_mem_cons.mpr ⟨fun _ _ _ _ _ h => h, List.forall_mem_cons.mpr ⟨fun _ _ _ _ _ h => h, List.forall_mem_cons.mpr ⟨fun _ _ _ _ _ h => h, List.forall_mem_cons.mpr ⟨fun _ _ _ _ _ h => h, List.forall_mem_cons.mpr ⟨al_end_i, fun _ h => absurd h List.not_mem_nil⟩⟩⟩⟩⟩⟩⟩⟩⟩⟩⟩⟩⟩⟩⟩⟩⟩⟩⟩⟩
set_option maxRecDepth 100000 in
theorem en_X11_failure : ∀ q ∈ cl_X11_failure, al_end [2, 0, 3] q.2 := by
  have e : cl_X11_failure = ((cl_X11_failure.drop 0).take 25) ++ (((cl_X11_failure.drop 25).take 25)) := rfl
  rw [e]
  exact List.forall_mem_append.mpr ⟨en_X11_failure_0, en_X11_failure_1⟩
theorem e_X11_failure {av : List Value} {σ : am_M} {R : am_R} (h : sp_X11_failure av σ R) : sp_X11_failure av σ (fun v s => R v s ∧ al_T [2, 0, 3] v) := ⟨h.1, al_ends (al_end_lk en_X11_failure) h.2⟩
set_option maxRecDepth 100000 in
theorem en_X11_ready_0 : ∀ q ∈ (cl_X11_ready.drop 0).take 25, al_end [3] q.2 :=
  List.forall_mem_cons.mpr ⟨fun _ _ _ _ _ h => h, List.forall_mem_cons.mpr ⟨fun _ _ _ _ _ h => h, List.forall_mem_cons.mpr ⟨fun _ _ _ _ _ h => h, List.forall_mem_cons.mpr ⟨fun _ _ _ _ _ h => h, List.forall_mem_cons.mpr ⟨fun _ _ _ _ _ h => h, List.forall_mem_cons.mpr ⟨fun _ _ _ _ _ h => h, List.forall_mem_cons.mpr ⟨al_end_t 0 3 rfl, List.forall_mem_cons.mpr ⟨fun _ _ _ _ _ h => h, List.forall_mem_cons.mpr ⟨fun _ _ _ _ _ h => h, List.forall_mem_cons.mpr ⟨fun _ _ _ _ _ h => h, List.forall_mem_cons.mpr ⟨fun _ _ _ _ _ h => h, List.forall_mem_cons.mpr ⟨fun _ _ _ _ _ h => h, List.forall_mem_cons.mpr ⟨al_end_i, fun _ h => absurd h List.not_mem_nil⟩⟩⟩⟩⟩⟩⟩⟩⟩⟩⟩⟩⟩
set_option maxRecDepth 100000 in
theorem en_X11_ready : ∀ q ∈ cl_X11_ready, al_end [3] q.2 := by
  have e : cl_X11_ready = ((cl_X11_ready.drop 0).take 25) := rfl
  rw [e]
  exact en_X11_ready_0
theorem e_X11_ready {av : List Value} {σ : am_M} {R : am_R} (h : sp_X11_ready av σ R) : sp_X11_ready av σ (fun v s => R v s ∧ al_T [3] v) := ⟨h.1, al_ends (al_end_lk en_X11_ready) h.2⟩
set_option maxRecDepth 100000 in
theorem en_X11_ended_0 : ∀ q ∈ (cl_X11_ended.drop 0).take 25, al_end [3] q.2 :=
  List.forall_mem_cons.mpr ⟨fun _ _ _ _ _ h => h, List.forall_mem_cons.mpr ⟨fun _ _ _ _ _ h => h, List.forall_mem_cons.mpr ⟨fun _ _ _ _ _ h => h, List.forall_mem_cons.mpr ⟨fun _ _ _ _ _ h => h, List.forall_mem_cons.mpr ⟨fun _ _ _ _ _ h => h, List.forall_mem_cons.mpr ⟨fun _ _ _ _ _ h => h, List.forall_mem_cons.mpr ⟨al_end_t 0 3 rfl, List.forall_mem_cons.mpr ⟨fun _ _ _ _ _ h => h, List.forall_mem_cons.mpr ⟨fun _ _ _ _ _ h => h, List.forall_mem_cons.mpr ⟨fun _ _ _ _ _ h => h, List.forall_mem_cons.mpr ⟨fun _ _ _ _ _ h => h, List.forall_mem_cons.mpr ⟨fun _ _ _ _ _ h => h, List.forall_mem_cons.mpr ⟨al_end_i, fun _ h => absurd h List.not_mem_nil⟩⟩⟩⟩⟩⟩⟩⟩⟩⟩⟩⟩⟩
set_option maxRecDepth 100000 in
theorem en_X11_ended : ∀ q ∈ cl_X11_ended, al_end [3] q.2 := by
  have e : cl_X11_ended = ((cl_X11_ended.drop 0).take 25) := rfl
  rw [e]
  exact en_X11_ended_0
theorem e_X11_ended {av : List Value} {σ : am_M} {R : am_R} (h : sp_X11_ended av σ R) : sp_X11_ended av σ (fun v s => R v s ∧ al_T [3] v) := ⟨h.1, al_ends (al_end_lk en_X11_ended) h.2⟩
set_option maxRecDepth 100000 in
theorem en_X11_isAbove_0 : ∀ q ∈ (cl_X11_isAbove.drop 0).take 25, al_end [2] q.2 :=
  List.forall_mem_cons.mpr ⟨fun _ _ _ _ _ h => h, List.forall_mem_cons.mpr ⟨fun _ _ _ _ _ h => h, List.forall_mem_cons.mpr ⟨fun _ _ _ _ _ h => h, List.forall_mem_cons.mpr ⟨fun _ _ _ _ _ h => h, List.forall_mem_cons.mpr ⟨fun _ _ _ _ _ h => h, List.forall_mem_cons.mpr ⟨fun _ _ _ _ _ h => h, List.forall_mem_cons.mpr ⟨fun _ _ _ _ _ h => h, List.forall_mem_cons.mpr ⟨fun _ _ _ _ _ h => h, List.forall_mem_cons.mpr ⟨fun _ _ _ _ _ h => h, List.forall_mem_cons.mpr ⟨fun _ _ _ _ _ h => h, List.forall_mem_cons.mpr ⟨fun _ _ _ _ _ h => h, List.forall_mem_cons.mpr ⟨fun _ _ _ _ _ h => h, List.forall_mem_cons.mpr ⟨al_end_t 0 2 rfl, List.forall_mem_cons.mpr ⟨fun _ _ _ _ _ h => h, List.forall_mem_cons.mpr ⟨fun _ _ _ _ _ h => h, List.forall_mem_cons.mpr ⟨fun _ _ _ _ _ h => h, List.forall_mem_cons.mpr ⟨fun _ _ _ _ _ h => h, List.forall_mem_cons.mpr ⟨fun _ _ _ _ _ h => h, List.forall_mem_cons.mpr ⟨fun _ _ _ _ _ h => h, List.forall_mem_cons.mpr ⟨fun _ _ _ _ _ h => h, List.forall_mem_cons.mpr ⟨fun _ _ _ _ _ h => h, List.forall_mem_cons.mpr ⟨fun _ _ _ _ _ h => h, List.forall_mem_cons.mpr ⟨fun _ _ _ _ _ h => h, List.forall_mem_cons.mpr ⟨fun _ _ _ _ _ h => h, List.forall_mem_cons.mpr ⟨fun _ _ _ _ _ h => h, fun _ h => absurd h List.not_mem_nil⟩⟩⟩⟩⟩⟩⟩⟩⟩⟩⟩⟩⟩⟩⟩⟩⟩⟩⟩⟩⟩⟩⟩⟩⟩
set_option maxRecDepth 100000 in
theorem en_X11_isAbove_1 : ∀ q ∈ (cl_X11_isAbove.drop 25).take 25, al_end [2] q.2 :=
  List.forall_mem_cons.mpr ⟨fun _ _ _ _ _ h => h, List.forall_mem_cons.mpr ⟨fun _ _ _ _ _ h => h, List.forall_mem_cons.mpr ⟨fun _ _ _ _ _ h => h, List.forall_mem_cons.mpr ⟨fun _ _ _ _ _ h => h, List.forall_mem_cons.mpr ⟨fun _ _ _ _ _ h => h, List.forall_mem_cons.mpr ⟨al_end_z, List.forall_mem_cons.mpr ⟨fun _ _ _ _ _ h => h, List.forall_mem_cons.mpr ⟨fun _ _ _ _ _ h => h, List.forall_mem_cons.mpr ⟨fun _ _ _ _ _ h => h, List.forall_mem_cons.mpr ⟨fun _ _ _ _ _ h => h, List.forall_mem_cons.mpr ⟨fun _ _ _ _ _ h => h, List.forall_mem_cons.mpr ⟨fun _ _ _ _ _ h => h, List.forall_mem_cons.mpr ⟨fun _ _ _ _ _ h => h, List.forall_mem_cons.mpr ⟨fun _ _ _ _ _ h => h, List.forall_mem_cons.mpr ⟨al_end_z, fun _ h => absurd h List.not_mem_nil⟩⟩⟩⟩⟩⟩⟩⟩⟩⟩⟩⟩⟩⟩⟩
set_option maxRecDepth 100000 in
theorem en_X11_isAbove : ∀ q ∈ cl_X11_isAbove, al_end [2] q.2 := by
  have e : cl_X11_isAbove = ((cl_X11_isAbove.drop 0).take 25) ++ (((cl_X11_isAbove.drop 25).take 25)) := rfl
  rw [e]
  exact List.forall_mem_append.mpr ⟨en_X11_isAbove_0, en_X11_isAbove_1⟩
theorem e_X11_isAbove {av : List Value} {σ : am_M} {R : am_R} (h : sp_X11_isAbove av σ R) : sp_X11_isAbove av σ (fun v s => R v s ∧ al_T [2] v) := ⟨h.1, al_ends (al_end_lk en_X11_isAbove) h.2⟩
set_option maxRecDepth 100000 in
theorem en_X11_scopeOf_0 : ∀ q ∈ (cl_X11_scopeOf.drop 0).take 25, al_end [2] q.2 :=
  List.forall_mem_cons.mpr ⟨fun _ _ _ _ _ h => h, List.forall_mem_cons.mpr ⟨fun _ _ _ _ _ h => h, List.forall_mem_cons.mpr ⟨fun _ _ _ _ _ h => h, List.forall_mem_cons.mpr ⟨fun _ _ _ _ _ h => h, List.forall_mem_cons.mpr ⟨fun _ _ _ _ _ h => h, List.forall_mem_cons.mpr ⟨fun _ _ _ _ _ h => h, List.forall_mem_cons.mpr ⟨al_end_t 0 2 rfl, List.forall_mem_cons.mpr ⟨fun _ _ _ _ _ h => h, List.forall_mem_cons.mpr ⟨fun _ _ _ _ _ h => h, List.forall_mem_cons.mpr ⟨fun _ _ _ _ _ h => h, List.forall_mem_cons.mpr ⟨fun _ _ _ _ _ h => h, List.forall_mem_cons.mpr ⟨fun _ _ _ _ _ h => h, List.forall_mem_cons.mpr ⟨fun _ _ _ _ _ h => h, List.forall_mem_cons.mpr ⟨fun _ _ _ _ _ h => h, List.forall_mem_cons.mpr ⟨fun _ _ _ _ _ h => h, List.forall_mem_cons.mpr ⟨fun _ _ _ _ _ h => h, List.forall_mem_cons.mpr ⟨fun _ _ _ _ _ h => h, List.forall_mem_cons.mpr ⟨al_end_t 0 2 rfl, List.forall_mem_cons.mpr ⟨fun _ _ _ _ _ h => h, List.forall_mem_cons.mpr ⟨fun _ _ _ _ _ h => h, List.forall_mem_cons.mpr ⟨fun _ _ _ _ _ h => h, List.forall_mem_cons.mpr ⟨fun _ _ _ _ _ h => h, List.forall_mem_cons.mpr ⟨fun _ _ _ _ _ h => h, List.forall_mem_cons.mpr ⟨fun _ _ _ _ _ h => h, List.forall_mem_cons.mpr ⟨al_end_i, fun _ h => absurd h List.not_mem_nil⟩⟩⟩⟩⟩⟩⟩⟩⟩⟩⟩⟩⟩⟩⟩⟩⟩⟩⟩⟩⟩⟩⟩⟩⟩
set_option maxRecDepth 100000 in
theorem en_X11_scopeOf : ∀ q ∈ cl_X11_scopeOf, al_end [2] q.2 := by
  have e : cl_X11_scopeOf = ((cl_X11_scopeOf.drop 0).take 25) := rfl
  rw [e]
  exact en_X11_scopeOf_0
theorem e_X11_scopeOf {av : List Value} {σ : am_M} {R : am_R} (h : sp_X11_scopeOf av σ R) : sp_X11_scopeOf av σ (fun v s => R v s ∧ al_T [2] v) := ⟨h.1, al_ends (al_end_lk en_X11_scopeOf) h.2⟩
set_option maxRecDepth 100000 in
theorem en_X11_channel_0 : ∀ q ∈ (cl_X11_channel.drop 0).take 25, al_end [2, 0] q.2 :=
  List.forall_mem_cons.mpr ⟨fun _ _ _ _ _ h => h, List.forall_mem_cons.mpr ⟨fun _ _ _ _ _ h => h, List.forall_mem_cons.mpr ⟨fun _ _ _ _ _ h => h, List.forall_mem_cons.mpr ⟨fun _ _ _ _ _ h => h, List.forall_mem_cons.mpr ⟨fun _ _ _ _ _ h => h, List.forall_mem_cons.mpr ⟨al_end_t 0 2 rfl, List.forall_mem_cons.mpr ⟨fun _ _ _ _ _ h => h, List.forall_mem_cons.mpr ⟨fun _ _ _ _ _ h => h, List.forall_mem_cons.mpr ⟨fun _ _ _ _ _ h => h, List.forall_mem_cons.mpr ⟨fun _ _ _ _ _ h => h, List.forall_mem_cons.mpr ⟨fun _ _ _ _ _ h => h, List.forall_mem_cons.mpr ⟨fun _ _ _ _ _ h => h, List.forall_mem_cons.mpr ⟨fun _ _ _ _ _ h => h, List.forall_mem_cons.mpr ⟨fun _ _ _ _ _ h => h, List.forall_mem_cons.mpr ⟨al_end_i, List.forall_mem_cons.mpr ⟨fun _ _ _ _ _ h => h, List.forall_mem_cons.mpr ⟨fun _ _ _ _ _ h => h, List.forall_mem_cons.mpr ⟨fun _ _ _ _ _ h => h, List.forall_mem_cons.mpr ⟨fun _ _ _ _ _ h => h, List.forall_mem_cons.mpr ⟨fun _ _ _ _ _ h => h, List.forall_mem_cons.mpr ⟨fun _ _ _ _ _ h => h, List.forall_mem_cons.mpr ⟨al_end_i, List.forall_mem_cons.mpr ⟨fun _ _ _ _ _ h => h, List.forall_mem_cons.mpr ⟨fun _ _ _ _ _ h => h, List.forall_mem_cons.mpr ⟨fun _ _ _ _ _ h => h, fun _ h => absurd h List.not_mem_nil⟩⟩⟩⟩⟩⟩⟩⟩⟩⟩⟩⟩⟩⟩⟩⟩⟩⟩⟩⟩⟩⟩⟩⟩⟩
set_option maxRecDepth 100000 in
theorem en_X11_channel_1 : ∀ q ∈ (cl_X11_channel.drop 25).take 25, al_end [2, 0] q.2 :=
  List.forall_mem_cons.mpr ⟨fun _ _ _ _ _ h => h, List.forall_mem_cons.mpr ⟨fun _ _ _ _ _ h => h, List.forall_mem_cons.mpr ⟨al_end_i, List.forall_mem_cons.mpr ⟨fun _ _ _ _ _ h => h, List.forall_mem_cons.mpr ⟨fun _ _ _ _ _ h => h, List.forall_mem_cons.mpr ⟨fun _ _ _ _ _ h => h, List.forall_mem_cons.mpr ⟨fun _ _ _ _ _ h => h, List.forall_mem_cons.mpr ⟨fun _ _ _ _ _ h => h, List.forall_mem_cons.mpr ⟨al_end_i, List.forall_mem_cons.mpr ⟨al_end_t 1 0 rfl, fun _ h => absurd h List.not_mem_nil⟩⟩⟩⟩⟩⟩⟩⟩⟩⟩
set_option maxRecDepth 100000 in
theorem en_X11_channel : ∀ q ∈ cl_X11_channel, al_end [2, 0] q.2 := by
  have e : cl_X11_channel = ((cl_X11_channel.drop 0).take 25) ++ (((cl_X11_channel.drop 25).take 25)) := rfl
  rw [e]
  exact List.forall_mem_append.mpr ⟨en_X11_channel_0, en_X11_channel_1⟩
theorem e_X11_channel {av : List Value} {σ : am_M} {R : am_R} (h : sp_X11_channel av σ R) : sp_X11_channel av σ (fun v s => R v s ∧ al_T [2, 0] v) := ⟨h.1, al_ends (al_end_lk en_X11_channel) h.2⟩
set_option maxRecDepth 100000 in
theorem en_X11_content_0 : ∀ q ∈ (cl_X11_content.drop 0).take 25, al_end [2, 3] q.2 :=
  List.forall_mem_cons.mpr ⟨fun _ _ _ _ _ h => h, List.forall_mem_cons.mpr ⟨fun _ _ _ _ _ h => h, List.forall_mem_cons.mpr ⟨fun _ _ _ _ _ h => h, List.forall_mem_cons.mpr ⟨fun _ _ _ _ _ h => h, List.forall_mem_cons.mpr ⟨fun _ _ _ _ _ h => h, List.forall_mem_cons.mpr ⟨al_end_t 0 2 rfl, List.forall_mem_cons.mpr ⟨fun _ _ _ _ _ h => h, List.forall_mem_cons.mpr ⟨fun _ _ _ _ _ h => h, List.forall_mem_cons.mpr ⟨fun _ _ _ _ _ h => h, List.forall_mem_cons.mpr ⟨fun _ _ _ _ _ h => h, List.forall_mem_cons.mpr ⟨fun _ _ _ _ _ h => h, List.forall_mem_cons.mpr ⟨fun _ _ _ _ _ h => h, List.forall_mem_cons.mpr ⟨fun _ _ _ _ _ h => h, List.forall_mem_cons.mpr ⟨fun _ _ _ _ _ h => h, List.forall_mem_cons.mpr ⟨fun _ _ _ _ _ h => h, List.forall_mem_cons.mpr ⟨fun _ _ _ _ _ h => h, List.forall_mem_cons.mpr ⟨al_end_t 1 3 rfl, List.forall_mem_cons.mpr ⟨fun _ _ _ _ _ h => h, List.forall_mem_cons.mpr ⟨fun _ _ _ _ _ h => h, List.forall_mem_cons.mpr ⟨fun _ _ _ _ _ h => h, List.forall_mem_cons.mpr ⟨fun _ _ _ _ _ h => h, List.forall_mem_cons.mpr ⟨fun _ _ _ _ _ h => h, List.forall_mem_cons.mpr ⟨fun _ _ _ _ _ h => h, List.forall_mem_cons.mpr ⟨al_end_i, fun _ h => absurd h List.not_mem_nil⟩⟩⟩⟩⟩⟩⟩⟩⟩⟩⟩⟩⟩⟩⟩⟩⟩⟩⟩⟩⟩⟩⟩⟩
set_option maxRecDepth 100000 in
theorem en_X11_content : ∀ q ∈ cl_X11_content, al_end [2, 3] q.2 := by
  have e : cl_X11_content = ((cl_X11_content.drop 0).take 25) := rfl
  rw [e]
  exact en_X11_content_0
theorem e_X11_content {av : List Value} {σ : am_M} {R : am_R} (h : sp_X11_content av σ R) : sp_X11_content av σ (fun v s => R v s ∧ al_T [2, 3] v) := ⟨h.1, al_ends (al_end_lk en_X11_content) h.2⟩
set_option maxRecDepth 100000 in
theorem en_X11_count_0 : ∀ q ∈ (cl_X11_count.drop 0).take 25, al_end [0] q.2 :=
  List.forall_mem_cons.mpr ⟨fun _ _ _ _ _ h => h, List.forall_mem_cons.mpr ⟨fun _ _ _ _ _ h => h, List.forall_mem_cons.mpr ⟨fun _ _ _ _ _ h => h, List.forall_mem_cons.mpr ⟨fun _ _ _ _ _ h => h, List.forall_mem_cons.mpr ⟨fun _ _ _ _ _ h => h, List.forall_mem_cons.mpr ⟨fun _ _ _ _ _ h => h, List.forall_mem_cons.mpr ⟨al_end_i, List.forall_mem_cons.mpr ⟨fun _ _ _ _ _ h => h, List.forall_mem_cons.mpr ⟨fun _ _ _ _ _ h => h, List.forall_mem_cons.mpr ⟨fun _ _ _ _ _ h => h, List.forall_mem_cons.mpr ⟨al_end_i, List.forall_mem_cons.mpr ⟨fun _ _ _ _ _ h => h, List.forall_mem_cons.mpr ⟨fun _ _ _ _ _ h => h, List.forall_mem_cons.mpr ⟨fun _ _ _ _ _ h => h, List.forall_mem_cons.mpr ⟨fun _ _ _ _ _ h => h, List.forall_mem_cons.mpr ⟨al_end_i, List.forall_mem_cons.mpr ⟨fun _ _ _ _ _ h => h, List.forall_mem_cons.mpr ⟨fun _ _ _ _ _ h => h, List.forall_mem_cons.mpr ⟨fun _ _ _ _ _ h => h, List.forall_mem_cons.mpr ⟨fun _ _ _ _ _ h => h, List.forall_mem_cons.mpr ⟨al_end_i, List.forall_mem_cons.mpr ⟨fun _ _ _ _ _ h => h, List.forall_mem_cons.mpr ⟨fun _ _ _ _ _ h => h, List.forall_mem_cons.mpr ⟨fun _ _ _ _ _ h => h, List.forall_mem_cons.mpr ⟨fun _ _ _ _ _ h => h, fun _ h => absurd h List.not_mem_nil⟩⟩⟩⟩⟩⟩⟩⟩⟩⟩⟩⟩⟩⟩⟩⟩⟩⟩⟩⟩⟩⟩⟩⟩⟩
set_option maxRecDepth 100000 in
theorem en_X11_count_1 : ∀ q ∈ (cl_X11_count.drop 25).take 25, al_end [0] q.2 :=
  List.forall_mem_cons.mpr ⟨al_end_i, List.forall_mem_cons.mpr ⟨fun _ _ _ _ _ h => h, List.forall_mem_cons.mpr ⟨fun _ _ _ _ _ h => h, List.forall_mem_cons.mpr ⟨fun _ _ _ _ _ h => h, List.forall_mem_cons.mpr ⟨al_end_i, List.forall_mem_cons.mpr ⟨fun _ _ _ _ _ h => h, List.forall_mem_cons.mpr ⟨fun _ _ _ _ _ h => h, List.forall_mem_cons.mpr ⟨fun _ _ _ _ _ h => h, List.forall_mem_cons.mpr ⟨fun _ _ _ _ _ h => h, List.forall_mem_cons.mpr ⟨fun _ _ _ _ _ h => h, List.forall_mem_cons.mpr ⟨fun _ _ _ _ _ h => h, List.forall_mem_cons.mpr ⟨al_end_t 0 0 rfl, List.forall_mem_cons.mpr ⟨fun _ _ _ _ _ h => h, List.forall_mem_cons.mpr ⟨fun _ _ _ _ _ h => h, List.forall_mem_cons.mpr ⟨fun _ _ _ _ _ h => h, List.forall_mem_cons.mpr ⟨fun _ _ _ _ _ h => h, List.forall_mem_cons.mpr ⟨fun _ _ _ _ _ h => h, List.forall_mem_cons.mpr ⟨al_end_i, fun _ h => absurd h List.not_mem_nil⟩⟩⟩⟩⟩⟩⟩⟩⟩⟩⟩⟩⟩⟩⟩⟩⟩⟩
set_option maxRecDepth 100000 in
theorem en_X11_count : ∀ q ∈ cl_X11_count, al_end [0] q.2 := by
  have e : cl_X11_count = ((cl_X11_count.drop 0).take 25) ++ (((cl_X11_count.drop 25).take 25)) := rfl
  rw [e]
  exact List.forall_mem_append.mpr ⟨en_X11_count_0, en_X11_count_1⟩
theorem e_X11_count {av : List Value} {σ : am_M} {R : am_R} (h : sp_X11_count av σ R) : sp_X11_count av σ (fun v s => R v s ∧ al_T [0] v) := ⟨h.1, al_ends (al_end_lk en_X11_count) h.2⟩
set_option maxRecDepth 100000 in
theorem en_X11_restore_0 : ∀ q ∈ (cl_X11_restore.drop 0).take 25, al_end [1] q.2 :=
  List.forall_mem_cons.mpr ⟨fun _ _ _ _ _ h => h, List.forall_mem_cons.mpr ⟨fun _ _ _ _ _ h => h, List.forall_mem_cons.mpr ⟨fun _ _ _ _ _ h => h, List.forall_mem_cons.mpr ⟨al_end_t 0 1 rfl, List.forall_mem_cons.mpr ⟨fun _ _ _ _ _ h => h, List.forall_mem_cons.mpr ⟨fun _ _ _ _ _ h => h, List.forall_mem_cons.mpr ⟨fun _ _ _ _ _ h => h, List.forall_mem_cons.mpr ⟨fun _ _ _ _ _ h => h, List.forall_mem_cons.mpr ⟨fun _ _ _ _ _ h => h, List.forall_mem_cons.mpr ⟨fun _ _ _ _ _ h => h, List.forall_mem_cons.mpr ⟨fun _ _ _ _ _ h => h, List.forall_mem_cons.mpr ⟨fun _ _ _ _ _ h => h, List.forall_mem_cons.mpr ⟨fun _ _ _ _ _ h => h, List.forall_mem_cons.mpr ⟨al_end_i, fun _ h => absurd h List.not_mem_nil⟩⟩⟩⟩⟩⟩⟩⟩⟩⟩⟩⟩⟩⟩
set_option maxRecDepth 100000 in
theorem en_X11_restore : ∀ q ∈ cl_X11_restore, al_end [1] q.2 := by
  have e : cl_X11_restore = ((cl_X11_restore.drop 0).take 25) := rfl
  rw [e]
  exact en_X11_restore_0
theorem e_X11_restore {av : List Value} {σ : am_M} {R : am_R} (h : sp_X11_restore av σ R) : sp_X11_restore av σ (fun v s => R v s ∧ al_T [1] v) := ⟨h.1, al_ends (al_end_lk en_X11_restore) h.2⟩
