/-! am: switches, calls, Math, arraycopy; walks over the picture -/
section AM4
variable {l : Launch} {G : am_G} {cc : ByteArray} {nL : Nat} {own : String} {Ts : List Cond} {R : Room} {pc : Nat} {ret : Option FieldType}
/-! switches -/
def am_sw (x : Int32) (K : Nat → Prop) (dflt : Nat) : List (Int32 × Nat) → Prop
  | [] => K dflt
  | (v, t) :: r => (x = v → K t) ∧ (¬ x = v → am_sw x K dflt r)
theorem am_sw_mono {x : Int32} {K K' : Nat → Prop} {dflt : Nat} (h : ∀ t, K t → K' t) : ∀ {ps : List (Int32 × Nat)}, am_sw x K dflt ps → am_sw x K' dflt ps := by
  intro ps
  induction ps with
  | nil => exact h _
  | cons q r ih =>
    obtain ⟨v, t⟩ := q
    intro hs
    exact ⟨fun hx => h _ (hs.1 hx), fun hx => ih (hs.2 hx)⟩
theorem am_sw_cases {x : Int32} {K : Nat → Prop} {dflt : Nat} : ∀ {ps : List (Int32 × Nat)}, am_sw x K dflt ps → (∃ q ∈ ps, x = q.1 ∧ K q.2) ∨ ((∀ q ∈ ps, ¬ x = q.1) ∧ K dflt) := by
  intro ps
  induction ps with
  | nil => intro h; exact Or.inr ⟨fun q hq => (by cases hq), h⟩
  | cons q r ih =>
    obtain ⟨v, t⟩ := q
    intro hs
    by_cases hx : x = v
    · exact Or.inl ⟨_, List.mem_cons_self, hx, hs.1 hx⟩
    · rcases ih (hs.2 hx) with ⟨q, h1, h2⟩ | ⟨h1, h2⟩
      · exact Or.inl ⟨q, List.mem_cons_of_mem _ h1, h2⟩
      · refine Or.inr ⟨fun q hq => ?_, h2⟩
        rcases List.mem_cons.mp hq with rfl | hq
        · exact hx
        · exact h1 q hq
def mt_sw (ps : List (Int32 × Nat)) (dflt : Nat) : am_T := fun ls st σ K _ => match st with
  | .int x :: r => am_sw x (fun t => K t ls r σ) dflt ps
  | _ => False
theorem mt_sw_mono (ps : List (Int32 × Nat)) (dflt : Nat) : am_mono (mt_sw ps dflt) := by
  intro ls ls' st σ K K' R R' hle hK hR h
  unfold mt_sw at h ⊢
  split at h
  · exact am_sw_mono (fun _ => hK _ _ _ _ _ hle) h
  · exact h.elim
/-- a table switch: the pairs are those of the table -/
theorem mp_tsw (ps : List (Int32 × Nat)) (dflt : Nat) {do_ lo hi : Int} {offs : Array Int} {len : Nat} (d : decode cc pc = .ok (.tableswitch do_ lo hi offs, len)) (hd : (pc : Int) + do_ = (dflt : Int))
    (hin : ps.all (fun q => decide (lo ≤ q.1.toInt) && decide (q.1.toInt ≤ hi) && decide (offs[(q.1.toInt - lo).toNat]? = some ((q.2 : Int) - (pc : Int)))) = true) (hall : (List.range (hi - lo + 1).toNat).all (fun i => ps.any (fun q => decide (q.1.toInt = lo + (i : Int)))) = true) : am_P l G cc nL own Ts R (mt_sw ps dflt) pc := by
  refine ⟨mt_sw_mono _ _, ?_⟩
  intro p e s m args below meth c A cells slots Q hF hK hG hA hc ls st σ K R0 ht hk
  unfold mt_sw at ht
  split at ht
  · rename_i x r
    intro c1 c2 H locs lsA hH hS hl
    rcases am_sw_cases ht with ⟨q, hq, rfl, hKq⟩ | ⟨hn, hKd⟩
    · have h := List.all_eq_true.mp hin q hq
      simp only [Bool.and_eq_true, decide_eq_true_eq] at h
      exact lv_tableIn hF.1 hF.2.1 d (by omega) (by omega) h.2 (by omega) (hk _ _ _ _ hKq c1 (am_ct c2) H locs lsA hH hS hl)
    · refine lv_tableOut hF.1 hF.2.1 d ?_ hd (hk _ _ _ _ hKd c1 (am_ct c2) H locs lsA hH hS hl)
      rcases Int.lt_or_le x.toInt lo with h1 | h1
      · exact Or.inl h1
      rcases Int.lt_or_le hi x.toInt with h2 | h2
      · exact Or.inr h2
      exfalso
      have h := List.all_eq_true.mp hall (x.toInt - lo).toNat (List.mem_range.mpr (by omega))
      obtain ⟨q, hq, h3⟩ := List.any_eq_true.mp h
      have h4 := of_decide_eq_true h3
      exact hn q hq (Int32.toInt_inj.mp (by omega))
  · exact ht.elim
theorem am_lsw {pc : Nat} {do_ : Int} {dflt : Nat} (hd : (pc : Int) + do_ = (dflt : Int)) {x : Int32} : ∀ {ps : List (Int32 × Nat)} {K : Nat → Prop}, am_sw x K dflt ps → ∃ (off : Int) (tgt : Nat), Op.lookupswitch.offset (ps.map (fun q => (q.1.toInt, (q.2 : Int) - (pc : Int)))) do_ x.toInt = off ∧ (pc : Int) + off = (tgt : Int) ∧ K tgt := by
  intro ps
  induction ps with
  | nil => intro K h; exact ⟨_, dflt, rfl, hd, h⟩
  | cons q r ih =>
    obtain ⟨v, t⟩ := q
    intro K h
    by_cases hx : x = v
    · exact ⟨_, t, by rw [List.map_cons, Op.lookupswitch.offset_cons, if_pos (by rw [hx])], by omega, h.1 hx⟩
    · obtain ⟨off, tgt, h1, h2, h3⟩ := ih (h.2 hx)
      exact ⟨off, tgt, by rw [List.map_cons, Op.lookupswitch.offset_cons, if_neg (fun z => hx (Int32.toInt_inj.mp z.symm))]; exact h1, h2, h3⟩
theorem mp_lsw (ps : List (Int32 × Nat)) (dflt : Nat) {do_ : Int} {pr : Array (Int × Int)} {len : Nat} (d : decode cc pc = .ok (.lookupswitch do_ pr, len)) (hd : (pc : Int) + do_ = (dflt : Int))
    (hp : (pr.toList.zip (pr.toList.drop 1)).all (fun (a, next) => a.1 < next.1) = true) (hps : ps.map (fun q => (q.1.toInt, (q.2 : Int) - (pc : Int))) = pr.toList) : am_P l G cc nL own Ts R (mt_sw ps dflt) pc := by
  refine ⟨mt_sw_mono _ _, ?_⟩
  intro p e s m args below meth c A cells slots Q hF hK hG hA hc ls st σ K R0 ht hk
  unfold mt_sw at ht
  split at ht
  · rename_i x r
    intro c1 c2 H locs lsA hH hS hl
    obtain ⟨off, tgt, h1, h2, h3⟩ := am_lsw hd ht
    rw [hps] at h1
    exact lv_lookup hF.1 hF.2.1 d hp h1 h2 (hk _ _ _ _ h3 c1 (am_ct c2) H locs lsA hH hS hl)
  · exact ht.elim
theorem mp_ldc {index : Nat} (v : Int32) (d : decode cc pc = .ok (.ldc index, 2)) (hq : Jvm.Cond.constant own index v ∈ Ts) : am_P l G cc nL own Ts R (mt_ic v (pc + 2)) pc :=
  ⟨mt_ic_mono _ _, fun p e s m args below meth c A cells slots Q hF hK hG hA hc ls st σ K R0 ht hk c1 c2 H locs lsA hH hS hl => lv_ldc hF.1 hF.2.1 hF.2.2.2.1 (hF.2.2.2.2 _ hq) d (hk _ _ _ _ ht c1 (am_c1 rfl c2) H locs lsA hH hS hl)⟩
/-! calls -/
def am_pop : Nat → List Value → List Value → (List Value → List Value → Prop) → Prop
  | 0, acc, st, k => k acc st
  | n + 1, acc, v :: st, k => am_pop n (v :: acc) st k
  | _ + 1, _, [], _ => False
theorem am_pop_mono : ∀ {n : Nat} {acc st : List Value} {k k' : List Value → List Value → Prop}, (∀ a b, k a b → k' a b) → am_pop n acc st k → am_pop n acc st k' := by
  intro n
  induction n with
  | zero => intro acc st k k' h; exact h _ _
  | succ n ih =>
    intro acc st k k' h hp
    cases st with
    | nil => exact hp
    | cons v st => exact ih h hp
theorem am_pop_spec : ∀ {n : Nat} {acc st : List Value} {k : List Value → List Value → Prop}, am_pop n acc st k → ∃ As rest, As.length = n ∧ st = As.reverse ++ rest ∧ k (As ++ acc) rest := by
  intro n
  induction n with
  | zero => intro acc st k h; exact ⟨[], st, rfl, rfl, h⟩
  | succ n ih =>
    intro acc st k h
    cases st with
    | nil => exact h.elim
    | cons v st =>
      obtain ⟨As, rest, h1, h2, h3⟩ := ih (show am_pop n (v :: acc) st k from h)
      exact ⟨As ++ [v], rest, by simp [h1], by rw [h2]; simp, by simpa using h3⟩
def am_mS (sp : am_S) : Prop := ∀ (av : List Value) (σ : am_M) (R R' : am_R), (∀ v s, R v s → R' v s) → sp av σ R → sp av σ R'
def am_isC (ci k : Nat) : Bool := match am_lay[k]? with
  | some (.inr (c, _)) => Nat.beq c ci
  | _ => false
theorem am_isC_spec {ci k : Nat} (h : am_isC ci k = true) : ∃ fs, am_lay[k]? = some (.inr (ci, fs)) := by
  unfold am_isC at h
  split at h
  · rename_i c fs he
    exact ⟨fs, by rw [he, Nat.eq_of_beq_eq_true h]⟩
  · cases h
def mt_cv (ci n : Nat) (sp : am_S) (nx : Nat) : am_T := fun ls st σ K _ => am_pop n [] st (fun As rest => match rest with
  | .ref k :: r => bif am_isC ci k then (bif Nat.ble r.length 8 then sp (.ref k :: As) σ (fun v σ' => K nx ls (v.toList ++ r) σ') else False) else False
  | _ => False)
def mt_cs (n : Nat) (sp : am_S) (nx : Nat) : am_T := fun ls st σ K _ => am_pop n [] st (fun As r => bif Nat.ble r.length 8 then sp As σ (fun v σ' => K nx ls (v.toList ++ r) σ') else False)
theorem mt_cv_mono {ci n : Nat} {sp : am_S} (hs : am_mS sp) (nx : Nat) : am_mono (mt_cv ci n sp nx) := by
  intro ls ls' st σ K K' R R' hle hK hR h
  refine am_pop_mono (fun As rest => ?_) h
  intro h
  split at h
  · rename_i k r
    try dsimp only
    cases h1 : am_isC ci k with
    | false => rw [h1] at h; exact h.elim
    | true =>
      rw [h1] at h
      cases h2 : Nat.ble r.length 8 with
      | false => rw [h2] at h; exact h.elim
      | true =>
        rw [h2] at h
        exact hs _ _ _ _ (fun v s q => hK _ _ _ _ _ hle q) h
  · exact h.elim
theorem mt_cs_mono {n : Nat} {sp : am_S} (hs : am_mS sp) (nx : Nat) : am_mono (mt_cs n sp nx) := by
  intro ls ls' st σ K K' R R' hle hK hR h
  refine am_pop_mono (fun As r => ?_) h
  intro h
  try dsimp only at h ⊢
  cases h2 : Nat.ble r.length 8 with
  | false => rw [h2] at h; exact h.elim
  | true =>
    rw [h2] at h
    exact hs _ _ _ _ (fun v s q => hK _ _ _ _ _ hle q) h
theorem am_catsum : ∀ {r : List Value}, (∀ v ∈ r, v.category = 1) → ((r.map (am_rn G)).map fun v => v.category).sum = r.length := by
  intro r
  induction r with
  | nil => intro _; rfl
  | cons v r ih =>
    intro h
    simp only [List.map_cons, List.sum_cons, List.length_cons]
    rw [ih (am_ct h), am_rn_cat, am_ch h]
    omega
theorem am_callW {p : Program} {e : Env} {s : State} {m : MethodId} {args : Array Value} {below : List Frame} {meth : Method} {c : Code} {A : Nat → Prop} {cells slots : Nat} {Q : State → Prop} {H : Heap} {locs : List Loc} {lsA : Array Slot} {st0 rest : List Value} {a : Array Value} {R1 : am_R}
    (hr : va_Run p l e R s m args below meth c H locs cells slots 0 0 (F0 m pc lsA st0) rest (am_Qc G (am_A G) R1 a) (am_A G)) (hA : ∀ q, am_A G q → A q) (hS : va_S A s.heap H locs)
    (kk : ∀ (v : Option Value) (σ' : am_M) (H1 : Heap) (locs1 : List Loc), R1 v σ' → (∀ w, v = some w → w.category = 1) → am_H G σ' H1 → va_S A s.heap H1 locs1 → W p l e R s m args below meth c H1 locs1 cells slots Q (F0 m (pc + 3) lsA ((v.map (am_rn G)).toList ++ rest))) :
    W p l e R s m args below meth c H locs cells slots Q (F0 m pc lsA st0) := by
  intro T hT X
  obtain ⟨v0, st₀, t, T', L, h0, X', hL, e1, e2, ⟨⟨v, σ', hv, hcv, hR, hH1⟩, hz, hq⟩, stp⟩ := hr T hT X
  have hv' : v0 = v.map (am_rn G) := Outcome.returned.inj hv
  subst hv'
  rw [h0] at hz hq
  have hS1 : va_S A s.heap t.heap (locs ++ L) := ⟨Nat.le_trans hS.1 hz, fun q h1 h2 => by rw [hq q (Nat.lt_of_lt_of_le h1 hS.1) (fun z => h2 (hA q z))]; exact hS.2.1 q h1 h2, fun q hq => by
    rcases List.mem_append.mp hq with h | h
    · exact hS.2.2 q h
    · exact hA _ (hL q h)⟩
  obtain ⟨t2, a1, b1⟩ := kk v σ' t.heap (locs ++ L) hR hcv hH1 hS1 T' e1 X'
  exact ⟨t2, stp t2 a1, b1⟩
theorem am_blind (hG : am_ok G) {av : List Value} {σ : am_M} : FrameBlind (fun v U => v = (av.map (am_rn G)).toArray ∧ am_H G σ U.heap ∧ am_Kn G U) := fun a U g mk h => ⟨h.1, h.2.1, am_Kn.same (s := U) (U := U.calling g mk a) hG rfl h.2.2⟩
theorem am_vcat {v : Option Value} {r : List Value} (hv : ∀ w, v = some w → w.category = 1) (c2 : ∀ w ∈ r, w.category = 1) : ∀ w ∈ v.toList ++ r, w.category = 1 := by
  intro w hw
  rcases List.mem_append.mp hw with h | h
  · exact hv w (Option.mem_toList.mp h)
  · exact c2 w h
theorem mp_cv (ci n : Nat) {sp : am_S} {index maxL N : Nat} {C : String} {T : u_T} {y : MethodName} {bytes : ByteArray} {rt : Option FieldType} {ws : List Cond} {rm : Room} (hM : am_Met l G y ws rm sp) (hs : am_mS sp) (d : decode cc pc = .ok (.invokevirtual index, 3)) (hC : vwCl[ci]? = some (C, T, N))
    (hcw : ∀ (s : State) (args : Array Value), (∀ w ∈ Ts, w.before args s = true) → CallW R s args own C index y bytes maxL rt ws rm 0 0 n) : am_P l G cc nL own Ts R (mt_cv ci n sp (pc + 3)) pc := by
  refine ⟨mt_cv_mono hs _, ?_⟩
  intro p e s m args below meth c A cells slots Q hF hK hG hA hc ls st σ K R0 ht hk
  obtain ⟨As, rest, h1, h2, h3⟩ := am_pop_spec ht
  subst h2
  rw [List.append_nil] at h3
  split at h3
  · rename_i k r
    cases hi : am_isC ci k with
    | false => rw [hi] at h3; exact h3.elim
    | true =>
      rw [hi] at h3
      cases hle : Nat.ble r.length 8 with
      | false => rw [hle] at h3; exact h3.elim
      | true =>
        rw [hle] at h3
        dsimp only [cond] at h3
        obtain ⟨fs, he⟩ := am_isC_spec hi
        intro c1 c2 H locs lsA hH hS hl
        have cAs : ∀ v ∈ Value.ref k :: As, v.category = 1 := fun v hv => by
          rcases List.mem_cons.mp hv with rfl | hv
          · rfl
          · exact c2 v (List.mem_append_left _ (List.mem_reverse.mpr hv))
        have cr : ∀ v ∈ r, v.category = 1 := fun v hv => c2 v (List.mem_append_right _ (List.mem_cons_of_mem _ hv))
        refine am_callW (st0 := (As.reverse ++ Value.ref k :: r).map (am_rn G)) (rest := r.map (am_rn G)) (va_runV (As := As.map (am_rn G)) (b := G.1 k) hF (hM (.ref k :: As) σ _ cAs h3) (hcw s args hF.2.2.2.2) ⟨am_blind hG, va_recv hK.1 hH.1 hC (am_ws_get he), fun U hU hW => ⟨rfl, by rw [hU]; exact hH, hK.warm hG hW⟩⟩ rfl (by simp [h1]) hl.1 (by simp [am_rn]) (by show 2 * 0 + _ ≤ 8; rw [am_catsum cr]; have := Nat.le_of_ble_eq_true hle; omega) d ⟨by omega, by omega⟩) hA.1 hS (fun v σ' H1 locs1 hR hcv hH1 hS1 => ?_)
        have hw := hk _ _ _ _ hR c1 (am_vcat hcv cr) H1 locs1 lsA hH1 hS1 hl
        rw [List.map_append] at hw
        cases v <;> exact hw
  · exact h3.elim
theorem mp_cs (n : Nat) {sp : am_S} {index maxL : Nat} {y : MethodName} {bytes : ByteArray} {rt : Option FieldType} {ws : List Cond} {rm : Room} (hM : am_Met l G y ws rm sp) (hs : am_mS sp) (d : decode cc pc = .ok (.invokestatic index, 3))
    (hcw : ∀ (s : State) (args : Array Value), (∀ w ∈ Ts, w.before args s = true) → CallB R s args own index y bytes maxL rt ws rm 0 0 n ∧ (Cond.static y).before args s = true) : am_P l G cc nL own Ts R (mt_cs n sp (pc + 3)) pc := by
  refine ⟨mt_cs_mono hs _, ?_⟩
  intro p e s m args below meth c A cells slots Q hF hK hG hA hc ls st σ K R0 ht hk
  obtain ⟨As, r, h1, h2, h3⟩ := am_pop_spec ht
  subst h2
  rw [List.append_nil] at h3
  cases hle : Nat.ble r.length 8 with
  | false => rw [hle] at h3; exact h3.elim
  | true =>
    rw [hle] at h3
    dsimp only [cond] at h3
    intro c1 c2 H locs lsA hH hS hl
    have cAs : ∀ v ∈ As, v.category = 1 := fun v hv => c2 v (List.mem_append_left _ (List.mem_reverse.mpr hv))
    have cr : ∀ v ∈ r, v.category = 1 := fun v hv => c2 v (List.mem_append_right _ hv)
    refine am_callW (st0 := (As.reverse ++ r).map (am_rn G)) (rest := r.map (am_rn G)) (va_runS (As := As.map (am_rn G)) hF (hM As σ _ cAs h3) (hcw s args hF.2.2.2.2) ⟨am_blind hG, fun U hU hW => ⟨rfl, by rw [hU]; exact hH, hK.warm hG hW⟩⟩ rfl (by simp [h1]) hl.1 (by simp) (by show 2 * 0 + _ ≤ 8; rw [am_catsum cr]; have := Nat.le_of_ble_eq_true hle; omega) d ⟨by omega, by omega⟩) hA.1 hS (fun v σ' H1 locs1 hR hcv hH1 hS1 => ?_)
    have hw := hk _ _ _ _ hR c1 (am_vcat hcv cr) H1 locs1 lsA hH1 hS1 hl
    rw [List.map_append] at hw
    cases v <;> exact hw
/-! walks -/
def am_lk : List (Nat × am_T) → Nat → am_T
  | [], _ => fun _ _ _ _ _ => False
  | (k, t) :: r, pc => bif Nat.beq k pc then t else am_lk r pc
def am_Wp (code : Nat → am_T) (pc : Nat) (ls : am_L) (st : List Value) (σ : am_M) (R : am_R) : Prop := ∀ P : am_K, (∀ pc ls st σ, code pc ls st σ P R → P pc ls st σ) → P pc ls st σ
theorem am_Wp.sub {code : Nat → am_T} (hm : ∀ pc, am_mono (code pc)) {pc : Nat} {ls ls' : am_L} {st : List Value} {σ : am_M} {R : am_R} (hle : am_le ls ls') (h : am_Wp code pc ls st σ R) : am_Wp code pc ls' st σ R :=
  fun P hP => h (fun pc ls st σ => ∀ ls', am_le ls ls' → P pc ls' st σ) (fun pc ls st σ q ls' hl => hP _ _ _ _ (hm pc _ _ _ _ _ P R R hl (fun _ b b' _ _ hb z => z b' hb) (fun _ _ z => z) q)) ls' hle
theorem am_Wp.fold {code : Nat → am_T} (hm : ∀ pc, am_mono (code pc)) {pc : Nat} {ls : am_L} {st : List Value} {σ : am_M} {R : am_R} (h : code pc ls st σ (fun pc ls st σ => am_Wp code pc ls st σ R) R) : am_Wp code pc ls st σ R :=
  fun P hP => hP _ _ _ _ (hm pc _ _ _ _ _ P R R (am_le.rf _) (fun _ _ _ _ _ hl q => (am_Wp.sub hm hl q) P hP) (fun _ _ q => q) h)
/-- up to n instructions, stopping ahead of the places of 'cut' -/
def am_k (code : Nat → am_T) (cut : Nat → Bool) (R : am_R) : Nat → Nat → am_L → List Value → am_M → Prop
  | 0, pc, ls, st, σ => am_Wp code pc ls st σ R
  | n + 1, pc, ls, st, σ => code pc ls st σ (fun pc' ls' st' σ' => bif cut pc' then am_Wp code pc' ls' st' σ' R else am_k code cut R n pc' ls' st' σ') R
theorem am_go {code : Nat → am_T} (hm : ∀ pc, am_mono (code pc)) (cut : Nat → Bool) {R : am_R} : ∀ (n : Nat) {pc : Nat} {ls : am_L} {st : List Value} {σ : am_M}, am_k code cut R n pc ls st σ → am_Wp code pc ls st σ R := by
  intro n
  induction n with
  | zero => intro pc ls st σ h; exact h
  | succ n ih =>
    intro pc ls st σ h
    refine am_Wp.fold hm (hm pc _ _ _ _ _ _ _ R (am_le.rf _) (fun pc' b ls' st' σ' hl q => ?_) (fun _ _ q => q) h)
    refine am_Wp.sub hm hl ?_
    cases hc : cut pc' with
    | true => rw [hc] at q; exact q
    | false => rw [hc] at q; exact ih q
theorem am_lk_ok {ret : Option FieldType} : ∀ {L : List (Nat × am_T)}, (∀ q ∈ L, am_Ok l G cc nL own Ts R ret q.2 q.1) → ∀ pc, am_Ok l G cc nL own Ts R ret (am_lk L pc) pc := by
  intro L
  induction L with
  | nil => intro _ pc; exact ⟨fun _ _ _ _ _ _ _ _ _ _ _ h => h.elim, fun _ _ _ _ _ _ _ _ _ _ _ _ _ _ _ _ _ _ h => h.elim⟩
  | cons q r ih =>
    obtain ⟨k, t⟩ := q
    intro h pc
    unfold am_lk
    cases hb : Nat.beq k pc with
    | true => rw [← Nat.eq_of_beq_eq_true hb]; exact h (k, t) List.mem_cons_self
    | false => exact ih (fun q hq => h q (List.mem_cons_of_mem _ hq)) pc
def am_args : Nat → List Value → am_L
  | _, [] => []
  | i, v :: r => (i, v) :: am_args (i + 1) r
theorem am_args_eq : ∀ {av : List Value} (i : Nat), (∀ v ∈ av, v.category = 1) → lv_args i (av.map (am_rn G)) = am_rl G (am_args i av) := by
  intro av
  induction av with
  | nil => intro i _; rfl
  | cons v r ih =>
    intro i h
    have hv : ¬ (am_rn G v).category = 2 := by rw [am_rn_cat, am_ch h]; decide
    show lv_args i (am_rn G v :: r.map (am_rn G)) = (i, am_rn G v) :: am_rl G (am_args (i + 1) r)
    rw [← ih (i + 1) (am_ct h)]
    simp only [lv_args, hv, if_false]
theorem am_args_cat : ∀ {av : List Value} (i : Nat), (∀ v ∈ av, v.category = 1) → ∀ q ∈ am_args i av, q.2.category = 1 := by
  intro av
  induction av with
  | nil => intro i _ q hq; cases hq
  | cons v r ih =>
    intro i h q hq
    rcases List.mem_cons.mp hq with rfl | hq
    · exact am_ch h
    · exact ih (i + 1) (am_ct h) q hq
theorem am_sl_len : ∀ {av : List Value}, (∀ v ∈ av, v.category = 1) → (lg_sl (av.map (am_rn G))).length = av.length := by
  intro av
  induction av with
  | nil => intro _; rfl
  | cons v r ih =>
    intro h
    have hv : ¬ (am_rn G v).category = 2 := by rw [am_rn_cat, am_ch h]; decide
    have h2 := ih (am_ct h)
    unfold lg_sl at h2 ⊢
    simp only [List.map_cons, List.flatMap_cons, hv, if_false, List.length_append, h2, List.length_cons, List.length_nil]
    omega
/-- a method by its transformers: what its walk over the picture gives, its contract has -/
theorem am_met (hG : am_ok G) {y : MethodName} {ws ws' : List Cond} {sp : am_S} (code : Nat → am_T) (nA : Nat) (hy : plainName y.cls = true) (hw : ws = Cond.code y cc nL ret :: ws') (hn : nA ≤ nL)
    (hok : ∀ pc, am_Ok l G cc nL y.cls ws R ret (code pc) pc) (hsp : ∀ (av : List Value) (σ : am_M) (R0 : am_R), sp av σ R0 → av.length = nA ∧ am_Wp code 0 (am_args 0 av) [] σ R0) : am_Met l G y ws R sp := by
  intro av σ R0 hcat hs
  obtain ⟨hlen, hwp⟩ := hsp av σ R0 hs
  refine Met.ofW (cc := cc) (maxL := nL) (ret := ret) hy hw ?_
  intro p e s m args below meth c s₁ B hml hv
  obtain ⟨rfl, hH, hK⟩ := hv
  have hF : CallFix p m c cc nL s (av.map (am_rn G)).toArray ws y.cls := ⟨B.exec, B.bytes, hml, findClass_of_methodNamed B.named, atoms_spec (ws := ws) B.pre⟩
  have hl := lv_entry (av.map (am_rn G)) (n := nL) (by rw [am_sl_len hcat]; omega)
  rw [lg_entry_eq]
  rw [am_args_eq 0 hcat] at hl
  exact hwp (fun pc ls st σ => am_W G p l e R s m (av.map (am_rn G)).toArray below meth c nL (am_A G) 0 0 (MQ below (am_Qc G (am_A G) R0) (av.map (am_rn G)).toArray s 0 0 (am_A G)) pc ls st σ)
    (fun pc ls st σ h => (hok pc).2 p e s m _ below meth c R0 hF hK hG B.returns B.notSynchronized ls st σ _ h (fun _ _ _ _ q => q))
    (am_args_cat 0 hcat) (fun _ h => by cases h) s.heap [] _ hH va_S.rf hl
end AM4
