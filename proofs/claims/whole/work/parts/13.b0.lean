/-! texts: what is right is well-formed; commands -/
section ZDB
variable {x : Nat → Int32} {L : Nat}
theorem qSg {s : Int32} (h : isA 1063 s = true) : ∃ S, s = nI S ∧ 33 ≤ S ∧ S ≤ 126 := by
  have a : s ∈ am_byt _ := isA_m h
  simp only [am_byt, List.mem_cons, List.not_mem_nil, or_false] at a
  rcases a with rfl | rfl | rfl | rfl | rfl | rfl | rfl | rfl | rfl | rfl | rfl | rfl | rfl | rfl | rfl | rfl
  · exact ⟨43, rfl, by decide, by decide⟩
  · exact ⟨45, rfl, by decide, by decide⟩
  · exact ⟨119, rfl, by decide, by decide⟩
  · exact ⟨121, rfl, by decide, by decide⟩
  · exact ⟨122, rfl, by decide, by decide⟩
  · exact ⟨40, rfl, by decide, by decide⟩
  · exact ⟨91, rfl, by decide, by decide⟩
  · exact ⟨123, rfl, by decide, by decide⟩
  · exact ⟨41, rfl, by decide, by decide⟩
  · exact ⟨94, rfl, by decide, by decide⟩
  · exact ⟨112, rfl, by decide, by decide⟩
  · exact ⟨120, rfl, by decide, by decide⟩
  · exact ⟨62, rfl, by decide, by decide⟩
  · exact ⟨60, rfl, by decide, by decide⟩
  · exact ⟨63, rfl, by decide, by decide⟩
  · exact ⟨33, rfl, by decide, by decide⟩
theorem iSign_c {S O : Nat} (hS : S ≤ 126) (hO : O < 100) : iSign (100 * nI S + nI O) = nI S ∧ iOpnd (100 * nI S + nI O) = nI O := by
  have e : 100 * nI S + nI O = nI (100 * S + O) := by rw [show (100 : Int32) = nI 100 from rfl, pk_mul, nI_add]
  unfold iSign iOpnd
  rw [e]
  have e1 : nI (100 * S + O) / 100 = nI S := by
    rw [show (100 : Int32) = nI 100 from rfl, pk_div (by omega) (by decide) (by decide)]
    congr 1; omega
  have e2 : nI (100 * S + O) - nI (100 * S + O) / 100 * 100 = nI ((100 * S + O) % 100) := by
    rw [show (100 : Int32) = nI 100 from rfl]
    exact pk_rem (by omega) (by decide) (by decide)
  refine ⟨e1, e2.trans ?_⟩
  congr 1; omega
theorem qDn_z {s : Int32} (d : Nat) {y : Int32} (h : iSign y = s) : zDn y d = qDn s d := by
  unfold zDn qDn
  rw [h]
  by_cases c : isA 1071 s = true
  · rw [if_pos c]
    have a : s ∈ am_byt _ := isA_m c
    simp only [am_byt, List.mem_cons, List.not_mem_nil, or_false] at a
    exact if_pos a
  · rw [if_neg c]
    have n : ¬ (s = 40 ∨ s = 91 ∨ s = 123) := fun z => c (by rcases z with rfl | rfl | rfl <;> decide)
    rw [if_neg n]
/-- an instruction that may stand, with an operand that is right -/
theorem qOk_z {s o : Int32} {d a : Nat} {z : Bool} (hd : d ≤ 5) (hm : qMay s d z = true) (ho : (qOp x L s a).1 = some o) : zOk (100 * s + o) d z ∧ iSign (100 * s + o) = s := by
  obtain ⟨m1, m2, m3, m4⟩ := qMay_e hm
  obtain ⟨⟨O, o1, rfl, o3, o4, o5, o6⟩, _⟩ := qOp_e ho
  obtain ⟨S, rfl, s2, s3⟩ := qSg m1
  obtain ⟨i1, i2⟩ := iSign_c s3 o1
  refine ⟨?_, i1⟩
  unfold zOk
  rw [i1, i2]
  have zO : ∀ b, O ≤ b → zN (nI O) b := fun b h => zN_i h (by omega)
  refine ⟨fun q => ?_, fun q => ?_, fun q => ?_, fun q => ?_, fun q => ?_, fun q => ?_, fun q => ?_, fun q => ?_⟩
  · have a1 : isA 1069 (nI S) = true ∧ isA 1071 (nI S) = true := by rcases q with q | q | q <;> (rw [q]; exact ⟨by decide, by decide⟩)
    exact ⟨m2 a1.1, by have := m3 a1.2; omega⟩
  · have a1 : isA 1069 (nI S) = true ∧ isA 1076 (nI S) = true := by rw [q]; exact ⟨by decide, by decide⟩
    exact ⟨m2 a1.1, by have := m4 a1.2; omega⟩
  · have a1 : isA 1069 (nI S) = true ∧ isA 1076 (nI S) = true ∧ isA 1084 (nI S) = true := by rw [q]; exact ⟨by decide, by decide, by decide⟩
    exact ⟨m2 a1.1, by have := m4 a1.2.1; omega, zO 5 (o4 a1.2.2)⟩
  · have a1 : isA 1076 (nI S) = true ∧ isA 1084 (nI S) = true := by rw [q]; exact ⟨by decide, by decide⟩
    exact ⟨by have := m4 a1.1; omega, zO 5 (o4 a1.2)⟩
  · have a1 : isA 1076 (nI S) = true := by rw [q]; decide
    have := m4 a1; omega
  · have a1 : isA 1086 (nI S) = true ∧ nI S ≠ 63 := by rcases q with q | q <;> (rw [q]; exact ⟨by decide, by decide⟩)
    exact zO 3 (o5 a1.1 a1.2)
  · obtain ⟨u, v, h1, h2, h3⟩ := o6 q
    exact ⟨u, v, h1, h2, by rw [h3]⟩
  · have a1 : isA 1078 (nI S) = true := by rcases q with q | q <;> (rw [q]; decide)
    exact zO 9 (o3 a1)
theorem qDn_5 {s : Int32} {d : Nat} {z : Bool} (hd : d ≤ 5) (hm : qMay s d z = true) : qDn s d ≤ 5 := by
  obtain ⟨m1, m2, m3, m4⟩ := qMay_e hm
  unfold qDn
  split
  · rename_i c
    have := m3 c; omega
  · split <;> omega
theorem qI_wf : ∀ (n a d c : Nat) (z : Bool) (f : Nat → Int32), d ≤ 5 → (qI x L n a d z).1 = true → (∀ i, i < (qI x L n a d z).2.2.length → f (c + i) = (qI x L n a d z).2.2.getD i 0) → zWf f (qI x L n a d z).2.2.length c d z ∧ (qI x L n a d z).2.2.length < n ∧ a < (qI x L n a d z).2.1 ∧ (a ≤ L → (qI x L n a d z).2.1 ≤ L) := by
  intro n
  induction n with
  | zero => intro a d c z f _ h; cases h
  | succ n ih =>
    intro a d c z f hd h hf
    by_cases c1 : qH x L a = 59 ∧ d = 0 ∧ z = false
    · rw [qI_1 c1]
      refine ⟨c1.2, Nat.succ_pos n, Nat.lt_succ_self a, fun _ => ?_⟩
      rcases Nat.lt_or_ge a L with q | q
      · exact q
      · exfalso
        have e : qH x L a = -1 := if_neg (by omega)
        rw [e] at c1
        exact absurd c1.1 (by decide)
    · rcases n with _ | n
      · rw [qI_2 c1] at h; cases h
      · by_cases c2 : qMay (qH x L a) d z = true
        · cases ho : (qOp x L (qH x L a) (a + 1)).1 with
          | none => rw [qI_4 c1 c2 ho] at h; cases h
          | some o =>
            rw [qI_5 c1 c2 ho] at h hf ⊢
            obtain ⟨k1, k2⟩ := qOk_z hd c2 ho
            obtain ⟨_, p1, p2⟩ := qOp_e ho
            have f0 : f c = 100 * qH x L a + o := hf 0 (Nat.succ_pos _)
            have r := ih (qOp x L (qH x L a) (a + 1)).2 (qDn (qH x L a) d) (c + 1) (decide (qH x L a = 122)) f (qDn_5 hd c2) h (fun i hi => by
              have := hf (i + 1) (Nat.succ_lt_succ hi)
              rw [show c + 1 + i = c + (i + 1) from by omega]
              exact this)
            obtain ⟨r1, r2, r3, r4⟩ := r
            have haL : a < L := by
              rcases Nat.lt_or_ge a L with q | q
              · exact q
              · exfalso
                have e : qH x L a = -1 := if_neg (by omega)
                have := (qMay_e c2).1
                rw [e] at this
                revert this; decide
            refine ⟨?_, by show _ + 1 < _; omega, Nat.lt_of_lt_of_le (Nat.lt_succ_self a) (Nat.le_trans p1 (Nat.le_of_lt r3)), fun _ => r4 (p2 (by omega))⟩
            show zOk (f c) d z ∧ zWf f _ (c + 1) (zDn (f c) d) (decide (iSign (f c) = 122))
            rw [f0, qDn_z d k2, k2]
            exact ⟨k1, r1⟩
        · rw [qI_3 c1 c2] at h; cases h
abbrev qCm : Type := Bool × Nat × List Int32
/-- a command: (true, channel, [room]) or (false, program, its numbers); none: it isn't right; where it ends -/
def qCmd (x : Nat → Int32) (L a : Nat) : Option qCm × Nat :=
  if qH x L a = 35 then (if qIn x L (a + 1) 48 51 then (if qIn x L (a + 2) 48 51 then (if qIn x L (a + 3) 59 59 then (some (true, zc (qH x L (a + 1)) - 48, [qH x L (a + 2) - 48]), a + 4) else (none, a + 3)) else (none, a + 2)) else (none, a + 1))
  else (if qIn x L a 48 53 then (if qIn x L (a + 1) 58 58 then (if (qI x L 25 (a + 2) 0 false).1 = true then (some (false, zc (qH x L a) - 48, (qI x L 25 (a + 2) 0 false).2.2), (qI x L 25 (a + 2) 0 false).2.1) else (none, (qI x L 25 (a + 2) 0 false).2.1)) else (none, a + 1)) else (none, a))
def qOkc (c : qCm) : Prop := (c.1 = true → c.2.1 < 4 ∧ ∃ r, r ≤ 3 ∧ c.2.2 = [nI r]) ∧ (c.1 = false → c.2.1 < 6 ∧ c.2.2.length ≤ 24 ∧ ∀ f : Nat → Int32, (∀ i, i < c.2.2.length → f i = c.2.2.getD i 0) → zWf f c.2.2.length 0 0 false)
theorem qIn_L {a : Nat} {lo hi : Int32} (h : qIn x L a lo hi) (h0 : 0 ≤ lo) : a < L := by
  rcases Nat.lt_or_ge a L with z | z
  · exact z
  · exfalso
    have e : qH x L a = -1 := if_neg (by omega)
    rw [qIn, e] at h
    exact absurd (Int32.le_trans h0 h.1) (by decide)
theorem qCmd_e {a : Nat} {c : qCm} (h : (qCmd x L a).1 = some c) : qOkc c ∧ a < (qCmd x L a).2 ∧ (qCmd x L a).2 ≤ L := by
  unfold qCmd at h ⊢
  split at h
  · rename_i c1
    rw [if_pos c1]
    split at h
    · rename_i c2
      rw [if_pos c2]
      split at h
      · rename_i c3
        rw [if_pos c3]
        split at h
        · rename_i c4
          rw [if_pos c4]
          cases h
          obtain ⟨e1, e2, e3⟩ := qDig (lo := 0) (k := 3) (by decide) c2.1 c2.2
          obtain ⟨f1, f2, f3⟩ := qDig (lo := 0) (k := 3) (by decide) c3.1 c3.2
          refine ⟨⟨fun _ => ⟨by show _ - 48 < 4; omega, _, f2, by rw [f1]⟩, fun z => by cases z⟩, by show a < a + 4; omega, ?_⟩
          have := qIn_L c4 (by decide)
          show a + 4 ≤ L
          omega
        · cases h
      · cases h
    · cases h
  · rename_i c1
    rw [if_neg c1]
    split at h
    · rename_i c2
      rw [if_pos c2]
      split at h
      · rename_i c3
        rw [if_pos c3]
        split at h
        · rename_i c4
          rw [if_pos c4]
          cases h
          obtain ⟨e1, e2, e3⟩ := qDig (lo := 0) (k := 5) (by decide) c2.1 c2.2
          have l1 := qIn_L c3 (by decide)
          have w := qI_wf 25 (a + 2) 0 0 false (fun i => (qI x L 25 (a + 2) 0 false).2.2.getD i 0) (by decide) c4 (fun i _ => by rw [Nat.zero_add])
          refine ⟨⟨fun z => by (cases z), fun _ => ⟨by show _ - 48 < 6; omega, Nat.le_of_lt_succ w.2.1, fun f hf => ?_⟩⟩, by have := w.2.2.1; show a < _; omega, w.2.2.2 (by omega)⟩
          exact (qI_wf 25 (a + 2) 0 0 false f (by decide) c4 (fun i hi => by rw [Nat.zero_add]; exact hf i hi)).1
        · cases h
      · cases h
    · cases h
/-- commands, one behind another: are all right, where they end, those behind cs -/
def qRun (x : Nat → Int32) (L : Nat) : Nat → Nat → List qCm → Bool × Nat × List qCm
  | 0, a, cs => (false, a, cs)
  | m + 1, a, cs => if cs ≠ [] ∧ ¬ a < L then (true, a, cs) else (match (qCmd x L a).1 with
    | none => (false, (qCmd x L a).2, cs)
    | some c => qRun x L m (qCmd x L a).2 (cs ++ [c]))
theorem qRun_1 {m a : Nat} {cs : List qCm} (h : cs ≠ [] ∧ ¬ a < L) : qRun x L (m + 1) a cs = (true, a, cs) := if_pos h
theorem qRun_2 {m a : Nat} {cs : List qCm} (h : ¬ (cs ≠ [] ∧ ¬ a < L)) (hc : (qCmd x L a).1 = none) : qRun x L (m + 1) a cs = (false, (qCmd x L a).2, cs) := by
  conv => lhs; unfold qRun
  rw [if_neg h, hc]
theorem qRun_3 {m a : Nat} {cs : List qCm} {c : qCm} (h : ¬ (cs ≠ [] ∧ ¬ a < L)) (hc : (qCmd x L a).1 = some c) : qRun x L (m + 1) a cs = qRun x L m (qCmd x L a).2 (cs ++ [c]) := by
  conv => lhs; unfold qRun
  rw [if_neg h, hc]
theorem qRun_ok : ∀ m a cs, (∀ c ∈ cs, qOkc c) → ∀ c ∈ (qRun x L m a cs).2.2, qOkc c := by
  intro m
  induction m with
  | zero => intro a cs h; exact h
  | succ m ih =>
    intro a cs h
    by_cases c1 : cs ≠ [] ∧ ¬ a < L
    · rw [qRun_1 c1]; exact h
    · cases hc : (qCmd x L a).1 with
      | none => rw [qRun_2 c1 hc]; exact h
      | some c =>
        rw [qRun_3 c1 hc]
        refine ih _ _ (fun e he => ?_)
        rcases List.mem_append.mp he with q | q
        · exact h e q
        · rw [List.mem_singleton.mp q]; exact (qCmd_e hc).1
/-- the last command of a kind for q -/
def qLp (b : Bool) (q : Nat) (cs : List qCm) : Option (List Int32) := cs.foldl (fun acc c => if c.1 = b ∧ c.2.1 = q then some c.2.2 else acc) none
theorem qLp_s {b : Bool} {q : Nat} {cs : List qCm} {c : qCm} : qLp b q (cs ++ [c]) = if c.1 = b ∧ c.2.1 = q then some c.2.2 else qLp b q cs := by
  unfold qLp
  rw [List.foldl_append]
  rfl
theorem qLp_m {b : Bool} {q : Nat} {l : List Int32} : ∀ (cs : List qCm), qLp b q cs = some l → ∃ c ∈ cs, c.1 = b ∧ c.2.1 = q ∧ c.2.2 = l := by
  have g : ∀ (cs : List qCm) (acc : Option (List Int32)), cs.foldl (fun acc c => if c.1 = b ∧ c.2.1 = q then some c.2.2 else acc) acc = some l → acc = some l ∨ ∃ c ∈ cs, c.1 = b ∧ c.2.1 = q ∧ c.2.2 = l := by
    intro cs
    induction cs with
    | nil => intro acc h; exact Or.inl h
    | cons c r ih =>
      intro acc h
      rcases ih _ h with z | ⟨d, h1, h2⟩
      · have z : (if c.1 = b ∧ c.2.1 = q then some c.2.2 else acc) = some l := z
        by_cases e : c.1 = b ∧ c.2.1 = q
        · rw [if_pos e] at z
          cases z
          exact Or.inr ⟨c, List.mem_cons_self, e.1, e.2, rfl⟩
        · rw [if_neg e] at z
          exact Or.inl z
      · exact Or.inr ⟨d, List.mem_cons_of_mem _ h1, h2⟩
  intro cs h
  rcases g cs none h with z | z
  · cases z
  · exact z
end ZDB
