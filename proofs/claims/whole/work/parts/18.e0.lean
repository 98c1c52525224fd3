/-! the law's start: both objects and 'out' are made, then the loop -/
theorem st_kp {D : va_G} {cI : ClassId} {a : Nat} {H H1 : Heap} (hz : a + 189 ≤ H.size) (h : an_clas D cI a H) (k : an_kp a H H1) (g : an_at D 11 a [.ref (a + 1), .ref (a + 3), .ref (a + 15), .ref (a + 101), .ref (a + 187), .int 0, .int (-1)] H1) : an_clas D cI a H1 := by
  obtain ⟨j0, j1, j2, j3, j4, j5⟩ := h
  exact ⟨g, an_line_loc (a + 1) H H1 (fun q q1 q2 => k q (by omega) (by omega)) j1, an_read_loc (a + 3) H H1 (fun q q1 q2 => k q (by omega) (by omega)) j2, an_worl_loc (a + 15) H H1 (fun q q1 q2 => k q (by omega) (by omega)) j3, an_worl_loc (a + 101) H H1 (fun q q1 q2 => k q (by omega) (by omega)) j4, an_sche_loc (a + 187) H H1 (fun q q1 q2 => k q (by omega) (by omega)) j5⟩
theorem st_ge {s : State} {x q : Nat} (h : q = s.heap.size + x) : ld_A s q := by
  subst h
  exact Nat.le_add_right _ _
section ST
variable {p : Program} {e : Env} {s : State} {m : MethodId} {below : List Frame} {meth : Method} {c : Code} {Q : State → Prop} {l : Launch} {D : va_G} {cI : ClassId} {b : Nat} {ls : Array Slot}
/-- the class's object made -/
theorem st_clas (hF : CallFix p m c cL_law 7 s #[.ref b] (Cond.initialized RL :: am_tb) RL) (hK : va_K D vwCl [] s) (hfI : s.vm.findClass "[I" = some cI) (hNw : an_Nw s) (hl : lv_has ls 7 [(0, .ref b)])
    (kk : ∀ (H : Heap) (ls : Array Slot), H.size = s.heap.size + 189 → an_clas D cI s.heap.size H → (∀ q : Nat, q < s.heap.size → H[q]? = s.heap[q]?) → lv_has ls 7 [(1, .ref s.heap.size), (0, .ref b)] → W p l e room_1 s m #[.ref b] below meth c H [] 189 20000 Q (F0 m 8 ls [])) :
    W p l e room_1 s m #[.ref b] below meth c s.heap [] 0 0 Q (F0 m 0 ls []) := by
  have hts := hF.2.2.2.2
  refine va_new (ci := 11) (fs := [.null, .null, .null, .null, .null, .int 0, .int 0]) (C := RX11) (T := TX11) (N := 7) (A := ld_A s) (H0 := s.heap) (ws := []) hF.1 hF.2.1 hts (fun w h => List.mem_cons_of_mem _ (iu_X11 w h)) tyX11 tyX11_ok hF.2.2.2.1 (hts _ (List.mem_cons_of_mem _ ux_28)) (hts _ (List.mem_cons_of_mem _ ux_29)) (hts _ (List.mem_cons_of_mem _ ux_1)) hK (fun _ _ h => by cases h) ⟨fun _ _ _ _ h => (by cases h), fun _ _ h => (by cases h)⟩ va_S.rf (fun _ h => h) rfl (by decide +kernel) (Nat.le_of_ble_eq_true rfl) (Nat.le_of_ble_eq_true rfl) dL_law_0 (fun q H1 hP hDj hS => ?_)
  refine an_size (fun hz => ?_)
  have hq1 : q < H1.size := an_lt (hP 0 _ rfl)
  have hq2 : s.heap.size ≤ q := hDj.2 0 _ rfl
  have hq : q = s.heap.size := by omega
  subst hq
  have hz1 : H1.size = s.heap.size + 1 := by omega
  have hat : an_at D 11 s.heap.size [.null, .null, .null, .null, .null, .int 0, .int 0] H1 := hP 0 _ rfl
  refine lv_dup hF.1 hF.2.1 dL_law_3 rfl ?_
  refine va_callv (A0 := ld_A s) (H0 := s.heap) (va_runI (As := []) hF (c_X11_init l D cI s.heap.size) (cwI 0 hF.2.2.2.2 (am_gi ux_32) rfl rfl rfl (hts _ (List.mem_cons_of_mem _ ux_1)) (hts _ (List.mem_cons_of_mem _ ux_30)) (hts _ (List.mem_cons_of_mem _ ux_31)) rfl (by decide +kernel) ⟨Nat.le_of_ble_eq_true rfl, Nat.le_of_ble_eq_true rfl⟩) ⟨an_blind (D := D) (a := s.heap.size) (ci := 11) (cI := cI) (dfs := [.null, .null, .null, .null, .null, .int 0, .int 0]) (ex := []) (E := (fun _ _ => True)), fun U hU hW => ⟨rfl, by rw [hU]; exact hat, by rw [hU]; exact hz1, trivial, va_K.moved hW.alike hK, by rw [hW.alike.findClass]; exact hfI, hNw.warm hW⟩⟩ rfl rfl hl.1 rfl (Nat.le_of_ble_eq_true rfl) dL_law_4 ⟨Nat.le_of_ble_eq_true rfl, Nat.le_of_ble_eq_true rfl⟩) hS (fun q _ h => st_ge (x := 0) h) (fun q h => st_ge (x := 0) h) (fun u t H2 locs2 e1 _ _ hB hz2 hk2 hS2 => ?_)
  obtain ⟨hB1, hB2⟩ := hB
  rw [e1] at hB1 hB2
  refine va_forget (fun z hz => hS2.2.2 z hz) ?_
  refine W.widen (k := 189) (n := 20000) (Nat.le_of_ble_eq_true rfl) (Nat.le_of_ble_eq_true rfl) ?_
  refine lv_astore_n (lv' := [(1, .ref s.heap.size), (0, .ref b)]) hF.1 hF.2.1 dL_law_7 rfl hl (by decide) rfl (fun ls hl => ?_)
  exact kk H2 ls (by omega) hB2 (fun q hq => hS2.2.1 q hq (Nat.not_le.mpr hq)) hl
/-- the reference's object made -/
theorem st_mode (hF : CallFix p m c cL_law 7 s #[.ref b] (Cond.initialized RL :: am_tb) RL) (hK : va_K D vwCl [] s) (hfI : s.vm.findClass "[I" = some cI) (hNw : an_Nw s) {H : Heap} (hl : lv_has ls 7 [(1, .ref s.heap.size), (0, .ref b)])
    (hz : H.size = s.heap.size + 189) (hB : an_clas D cI s.heap.size H) (ho : ∀ q : Nat, q < s.heap.size → H[q]? = s.heap[q]?)
    (kk : ∀ (H : Heap) (ls : Array Slot), H.size = s.heap.size + 194 → an_clas D cI s.heap.size H → an_mode D cI (s.heap.size + 189) H → (∀ q : Nat, q < s.heap.size → H[q]? = s.heap[q]?) → lv_has ls 7 [(2, .ref (s.heap.size + 189)), (1, .ref s.heap.size), (0, .ref b)] → W p l e room_1 s m #[.ref b] below meth c H [] 194 50000 Q (F0 m 16 ls [])) :
    W p l e room_1 s m #[.ref b] below meth c H [] 189 20000 Q (F0 m 8 ls []) := by
  have hts := hF.2.2.2.2
  have J : an_J D s 11 s.heap.size [.ref (s.heap.size + 1), .ref (s.heap.size + 3), .ref (s.heap.size + 15), .ref (s.heap.size + 101), .ref (s.heap.size + 187), .int 0, .int (-1)] H 189 [] := ⟨hB.1, hz, fun _ h => (by cases h), by omega⟩
  refine an_new (cj := 12) (gs := [.int 0, .null, .null, .int 0, .null, .int 0, .int 0, .int 0, .null, .int 0, .int 0]) (C := RX12) (T := TX12) (N := 11) hF.1 hF.2.1 hts (fun w h => List.mem_cons_of_mem _ (iu_X12 w h)) tyX12 tyX12_ok hF.2.2.2.1 (hts _ (List.mem_cons_of_mem _ ux_1207)) (hts _ (List.mem_cons_of_mem _ ux_1208)) (hts _ (List.mem_cons_of_mem _ ux_14)) hK J rfl (by decide +kernel) (Nat.le_of_ble_eq_true rfl) (Nat.le_of_ble_eq_true rfl) dL_law_8 (fun H3 J3 g3 k3 => ?_)
  have hB3 : an_clas D cI s.heap.size H3 := st_kp (by omega) hB k3 J3.1
  have z3 : H3.size = s.heap.size + 190 := J3.2.1
  rw [hz] at g3 ⊢
  have hS : va_S (ld_A s) s.heap H3 [] := ⟨by omega, fun q q1 _ => (k3 q (by omega) (by omega)).trans (ho q q1), fun _ h => by cases h⟩
  refine lv_dup hF.1 hF.2.1 dL_law_11 rfl ?_
  refine va_callv (A0 := ld_A s) (H0 := s.heap) (va_runI (As := []) hF (c_X12_init l D cI (s.heap.size + 189)) (cwI 0 hF.2.2.2.2 (am_gi ux_1211) rfl rfl rfl (hts _ (List.mem_cons_of_mem _ ux_14)) (hts _ (List.mem_cons_of_mem _ ux_1209)) (hts _ (List.mem_cons_of_mem _ ux_1210)) rfl (by decide +kernel) ⟨Nat.le_of_ble_eq_true rfl, Nat.le_of_ble_eq_true rfl⟩) ⟨an_blind (D := D) (a := s.heap.size + 189) (ci := 12) (cI := cI) (dfs := [.int 0, .null, .null, .int 0, .null, .int 0, .int 0, .int 0, .null, .int 0, .int 0]) (ex := []) (E := (fun _ _ => True)), fun U hU hW => ⟨rfl, by rw [hU]; exact g3, by rw [hU]; omega, trivial, va_K.moved hW.alike hK, by rw [hW.alike.findClass]; exact hfI, hNw.warm hW⟩⟩ rfl rfl hl.1 rfl (Nat.le_of_ble_eq_true rfl) dL_law_12 ⟨Nat.le_of_ble_eq_true rfl, Nat.le_of_ble_eq_true rfl⟩) hS (fun q _ h => st_ge h) (fun q h => st_ge h) (fun u t H4 locs4 e1 _ _ hB4 hz4 hk4 hS4 => ?_)
  obtain ⟨hB5, hB6⟩ := hB4
  rw [e1] at hB5 hB6
  refine va_forget (fun z hz => hS4.2.2 z hz) ?_
  refine W.widen (k := 194) (n := 50000) (Nat.le_of_ble_eq_true rfl) (Nat.le_of_ble_eq_true rfl) ?_
  refine lv_astore_n (lv' := [(2, .ref (s.heap.size + 189)), (1, .ref s.heap.size), (0, .ref b)]) hF.1 hF.2.1 dL_law_15 rfl hl (by decide) rfl (fun ls hl => ?_)
  have hn : ∀ q : Nat, q < s.heap.size + 189 → ¬ q = s.heap.size + 189 := fun q h => by omega
  exact kk H4 ls (by omega) (an_clas_loc s.heap.size H3 H4 (fun q q1 q2 => hk4 q (by omega) (hn q q2)) hB3) hB6 (fun q hq => hS4.2.1 q hq (Nat.not_le.mpr hq)) hl
end ST
