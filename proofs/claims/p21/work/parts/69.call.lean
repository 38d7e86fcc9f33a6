variable {O : ORC}
/-! contracts and calls -/
theorem q9okAV_app {E : List q9ET} {t : q9ET} {a : q9AV} (h : q9okAV E a = true) : q9okAV (E ++ [t]) a = true := by
  have hl := q9okAV_lt h
  (rewrite [q9okAV_oq] at h ⊢; unfold q9okAV_o at h ⊢)
  rw [List.getElem?_append_left hl]
  exact h
theorem q9wf_app {x : q9ST} {t : q9ET} (h : q9wfB x = true) : q9wfB (q9sE x (q9tE x ++ [t])) = true := by
  have hl : (q9tE x).length ≤ (q9tE x ++ [t]).length := by rw [List.length_append]; omega
  have h1 := q9wf_L h
  have h2 := q9wf_S h
  have h3 := q9wf_G h
  have h4 := q9wf_F h
  have h5 := q9wf_A h
  have h6 := q9wf_C h
  have h7 := q9wf_X h
  (rewrite [q9wfB_oq]; unfold q9wfB_o)
  simp only [Bool.and_eq_true, List.all_eq_true, decide_eq_true_eq]
  exact ⟨fun q hq => q9okAV_app (h1 q hq), fun q hq => q9okAV_app (h2 q hq), fun q hq => q9okAV_app (h3 q hq), fun q hq => ⟨Nat.lt_of_lt_of_le (h4 q hq).1 hl, q9okAV_app (h4 q hq).2⟩, fun q hq => ⟨Nat.lt_of_lt_of_le (h5 q hq).1 hl, q9okAV_app (h5 q hq).2.1, q9okAV_app (h5 q hq).2.2⟩, fun q hq => ⟨Nat.lt_of_lt_of_le (h6 q hq).1 hl, Nat.lt_of_lt_of_le (h6 q hq).2 hl⟩, fun q hq => ⟨q9okAV_app (h7 q hq).1, q9okAV_app (h7 q hq).2.1, Nat.lt_of_lt_of_le (h7 q hq).2.2 hl⟩⟩
abbrev q9CASE : Type := q9ST × List q9DF
/-- name, code, places of the frame, answer, room (frames, locals, cells, slots), start, ends, what it may throw (class, cells, slots), what it writes, its table of handlers -/
abbrev q9INST : Type := MethodName × ByteArray × Nat × Option FieldType × (Nat × Nat × Nat × Nat) × q9CASE × List q9CASE × List (String × Nat × Nat) × List Nat × List (Nat × Nat × Nat × Nat)
abbrev q9iY (q : q9INST) : MethodName := q.1
abbrev q9iC (q : q9INST) : ByteArray := q.2.1
abbrev q9iL (q : q9INST) : Nat := q.2.2.1
abbrev q9iR (q : q9INST) : Option FieldType := q.2.2.2.1
abbrev q9iFr (q : q9INST) : Nat := q.2.2.2.2.1.1
abbrev q9iLc (q : q9INST) : Nat := q.2.2.2.2.1.2.1
abbrev q9iMc (q : q9INST) : Nat := q.2.2.2.2.1.2.2.1
abbrev q9iMs (q : q9INST) : Nat := q.2.2.2.2.1.2.2.2
abbrev q9iPre (q : q9INST) : q9ST := q.2.2.2.2.2.1.1
abbrev q9iPd (q : q9INST) : List q9DF := q.2.2.2.2.2.1.2
abbrev q9iPost (q : q9INST) : List q9CASE := q.2.2.2.2.2.2.1
abbrev q9iThr (q : q9INST) : List (String × Nat × Nat) := q.2.2.2.2.2.2.2.1
abbrev q9iW (q : q9INST) : List Nat := q.2.2.2.2.2.2.2.2.1
abbrev q9iHh (q : q9INST) : List (Nat × Nat × Nat × Nat) := q.2.2.2.2.2.2.2.2.2
/-- the word of its code -/
noncomputable def q9iCw (q : q9INST) : Cond := if q9iHh q = [] then .code (q9iY q) (q9iC q) (q9iL q) (q9iR q) else .codeWith (q9iY q) (q9iC q) (q9iL q) (q9iR q) (q9iHh q)
noncomputable def q9iRm (q : q9INST) : Room := { frames := q9iFr q, cells := q9iMc q, slots := q9iMs q, locals := q9iLc q }
/-- what a heap has grown by, at the most; no old cell has changed its size -/
noncomputable def q9newB (H0 H : Heap) (k n : Nat) : Prop := H.size ≤ H0.size + k ∧ ((H.toList.drop H0.size).map fun z => z.slots.size).sum ≤ n ∧ ∀ (a : Nat) (c : Cell), H0[a]? = some c → ∃ c' : Cell, H[a]? = some c' ∧ c'.slots.size = c.slots.size
theorem q9newB_of {s t : State} {L : List Loc} {k n : Nat} (h : s.sameButNew ({ t with vm := s.vm } : State) L k n) : q9newB s.heap t.heap k n := by
  obtain ⟨-, h2, h3, h4, h5, h6⟩ := h
  refine ⟨h3, h5, fun a c hc => ?_⟩
  obtain ⟨c', e1, -, e3, -⟩ := h6 a c hc
  exact ⟨c', e1, e3⟩
theorem q9newB.mono {H0 H : Heap} {k n k' n' : Nat} (h : q9newB H0 H k n) (hk : k ≤ k') (hn : n ≤ n') : q9newB H0 H k' n' := ⟨Nat.le_trans h.1 (by omega), Nat.le_trans h.2.1 hn, h.2.2⟩
theorem q9newB_sum {H H1 : Heap} {k n a : Nat} (h : q9newB H H1 k n) (ha : a ≤ H.size) : ((H1.toList.drop a).map fun z => z.slots.size).sum ≤ ((H.toList.drop a).map fun z => z.slots.size).sum + n := by
  have e : H1.toList.map (fun z => z.slots.size) = H.toList.map (fun z => z.slots.size) ++ (H1.toList.drop H.size).map fun z => z.slots.size := by
    apply List.ext_getElem?
    intro i
    by_cases hi : i < H.size
    · rw [List.getElem?_append_left (by rw [List.length_map, Array.length_toList]; exact hi), List.getElem?_map, List.getElem?_map, Array.getElem?_toList, Array.getElem?_toList, Array.getElem?_eq_getElem hi]
      obtain ⟨c', e1, e2⟩ := h.2.2 i _ (Array.getElem?_eq_getElem hi)
      rw [e1]
      exact congrArg some e2
    · rw [List.getElem?_append_right (by rw [List.length_map, Array.length_toList]; omega), List.length_map, Array.length_toList, List.getElem?_map, List.getElem?_map, List.getElem?_drop, Nat.add_sub_cancel' (Nat.not_lt.mp hi)]
  have h1 : ((H1.toList.map (fun z => z.slots.size)).drop a).sum = ((H.toList.map (fun z => z.slots.size) ++ (H1.toList.drop H.size).map fun z => z.slots.size).drop a).sum := by rw [e]
  rw [List.drop_append_of_le_length (by rw [List.length_map, Array.length_toList]; exact ha), List.sum_append, ← List.map_drop, ← List.map_drop] at h1
  rw [h1]
  exact Nat.add_le_add_left h.2.1 _
noncomputable def q9QV (P : Option Value → State → State → Prop) (A : Nat → Prop) : Array Value → State → Outcome → State → Prop := fun _ st oc t => (∃ v : Option Value, oc = .returned v ∧ P v st t) ∧ va_F A st t
noncomputable def q9POST (O : ORC) (D : va_G) (cT : Nat → ClassId) (B : q9TB) (Wr : List Nat) (G : q9GH) (ws : va_W) (A : Nat → Prop) (g : List Value) (cs : List q9CASE) (v : Option Value) (st t : State) : Prop :=
  ∃ (G' : q9GH) (ws' : va_W) (r' : Nat → Value) (q : q9CASE), q ∈ cs ∧ q9extG G G' ∧ va_P D vwCl ws' t.heap ∧ va_D A ws' ∧ q9tyW cT B G' ws' ∧ q9keepW Wr G ws ws' ∧ q9SR O g q.1 r' G' ws' v.toList ∧ q9newB st.heap t.heap (q9tN q.1) (q9tM q.1)
/-- where an exception leaves it -/
noncomputable def q9XTH (D : va_G) (cT : Nat → ClassId) (B : q9TB) (Wr : List Nat) (G : q9GH) (ws : va_W) (A : Nat → Prop) (th : List (String × Nat × Nat)) : String → State → State → Prop := fun E st t =>
  ∃ z ∈ th, z.1 = E ∧ q9newB st.heap t.heap z.2.1 z.2.2 ∧ va_F A st t ∧ ∃ (G' : q9GH) (ws' : va_W), q9extG G G' ∧ va_P D vwCl ws' t.heap ∧ va_D A ws' ∧ q9tyW cT B G' ws' ∧ q9keepW Wr G ws ws'
/-- what the program's statics and its texts lie at: the table SIDEWAYS; the texts that words are compared with, and their bytes -/
abbrev q9ZZ : Type := Nat × (Nat → Nat) × (Nat → Nat)
noncomputable def q9skT : List (Nat × String × Nat) := [(129, "hold", 0), (135, "move", 1), (137, "say", 2), (139, "tie", 3), (141, "free", 4), (143, "rig", 5), (145, "camera", 6), (147, "repeat", 7), (199, "in", 8), (215, "slow", 9), (217, "soft", 10), (219, "both", 11), (221, "even", 12), (226, "at", 13), (228, "on", 14), (230, "off", 15), (232, "pan", 16), (234, "tilt", 17), (236, "track", 18)]
noncomputable def q9skL : List Nat := [4, 4, 3, 3, 4, 3, 6, 6, 2, 4, 4, 4, 4, 2, 2, 3, 3, 4, 5]
noncomputable def q9skB : List (List Int32) := [[104, 111, 108, 100], [109, 111, 118, 101], [115, 97, 121], [116, 105, 101], [102, 114, 101, 101], [114, 105, 103], [99, 97, 109, 101, 114, 97], [114, 101, 112, 101, 97, 116], [105, 110], [115, 108, 111, 119], [115, 111, 102, 116], [98, 111, 116, 104], [101, 118, 101, 110], [97, 116], [111, 110], [111, 102, 102], [112, 97, 110], [116, 105, 108, 116], [116, 114, 97, 99, 107]]
noncomputable def q9SD (z : q9ZZ) (A : Nat → Prop) (U : State) (H : Heap) : Prop := (va_Z "PuppetFilm$Puppet" "SIDEWAYS" "[I" (.ref z.1) A U H ∧ ∃ sw : Nat → Int32, va_T .int z.1 16 (fun j => .int (sw j)) A U H) ∧ (vk_S 19 q9skL q9skB z.2.1 z.2.2 A U H ∧ ∀ q ∈ q9skT, vk_R RX6 q.1 q.2.1 (z.2.1 q.2.2) U) ∧ va_Z "java/lang/String" "COMPACT_STRINGS" "Z" (.int 1) A U H ∧ va_Zq "jdk/internal/util/Preconditions" "SIOOBE_FORMATTER" "Ljava/util/function/BiFunction;" A U H
theorem q9SD.go {z : q9ZZ} {A A' : Nat → Prop} {s U : State} {H0 H : Heap} {locs : List Loc} (h : q9SD z A s H0) (hS : va_S A H0 H locs) (hW : s.WarmedH U.vm) (hA : ∀ q, A' q → A q) : q9SD z A' U H :=
  ⟨⟨((va_Z.moved hW.alike h.1.1).kept hS.2.1).narrow hA, by
    obtain ⟨sw, x1⟩ := h.1.2
    exact ⟨sw, ((va_T.moved hW.alike x1).kept hS.2.1).narrow hA⟩⟩, ⟨((vk_S.moved hW.alike h.2.1.1).kept hS.2.1).narrow hA, fun q hq => vk_R.warm hW (h.2.1.2 q hq)⟩, ((va_Z.moved hW.alike h.2.2.1).kept hS.2.1).narrow hA, ((va_Zq.moved hW.alike h.2.2.2).kept hS.2.1).narrow hA⟩
noncomputable def q9PSd (z : q9ZZ) (D : va_G) (cT : Nat → ClassId) (wc : va_W) (sz : Nat) (U : State) : Prop := PZ D cT wc sz U ∧ q9SD z (va_A wc sz) U U.heap
theorem q9ps_blind {z : q9ZZ} {D : va_G} {cT : Nat → ClassId} {wc : va_W} {sz : Nat} {av : List Value} : FrameBlind (va_Pc av (q9PSd z D cT wc sz)) := by
  intro a U g mk q
  obtain ⟨q0, q1, q2, ⟨q3, q4⟩, q5, q6⟩ := q
  have h9 := pz_blind (D := D) (cT := cT) (wc := wc) (sz := sz) (av := av) a U g mk ⟨q0, q1⟩
  obtain ⟨q2, sw, x1⟩ := q2
  exact ⟨h9.1, h9.2, ⟨va_Z.moved (u := U) (U := U.calling g mk a) (Vm.Alike.refl U.vm) q2, sw, va_T.moved (u := U) (U := U.calling g mk a) (Vm.Alike.refl U.vm) x1⟩, ⟨vk_S.moved (u := U) (U := U.calling g mk a) (Vm.Alike.refl U.vm) q3, fun k hk => vk_R.same (u := U) (U := U.calling g mk a) rfl (q4 k hk)⟩, va_Z.moved (u := U) (U := U.calling g mk a) (Vm.Alike.refl U.vm) q5, va_Zq.moved (u := U) (U := U.calling g mk a) (Vm.Alike.refl U.vm) q6⟩
/-- a method's contract, where XP holds of what its ghosts are; without XP -/
noncomputable def q9CONX (O : ORC) (XP : q9ZZ → List Value → Prop) (l : Launch) (B : q9TB) (ALL : List Cond) (q : q9INST) : Prop :=
  ∀ (D : va_G) (cT : Nat → ClassId) (G : q9GH) (ws : va_W) (sz : Nat) (r : Nat → Value) (z : q9ZZ), q9tyW cT B G ws → q9SR O ((q9tG (q9iPre q)).map (q9ev r)) (q9iPre q) r G ws [] → True → XP z ((q9tG (q9iPre q)).map (q9ev r)) →
    (q9iThr q = [] → Met l (q9iY q) (q9iCw q :: ALL) (q9iRm q) (va_Pc ((q9tL (q9iPre q)).map fun z => q9ev r z.2) (q9PSd z D cT ws sz)) (q9QV (q9POST O D cT B (q9iW q) G ws (va_A ws sz) ((q9tG (q9iPre q)).map (q9ev r)) (q9iPost q)) (va_A ws sz)) (q9iMc q) (q9iMs q) (va_A ws sz)) ∧
    (q9iThr q ≠ [] → vx_Met l (q9iY q) (q9iCw q :: ALL) (q9iRm q) (va_Pc ((q9tL (q9iPre q)).map fun z => q9ev r z.2) (q9PSd z D cT ws sz)) (q9QV (q9POST O D cT B (q9iW q) G ws (va_A ws sz) ((q9tG (q9iPre q)).map (q9ev r)) (q9iPost q)) (va_A ws sz)) (q9XTH D cT B (q9iW q) G ws (va_A ws sz) (q9iThr q)) (q9iMc q) (q9iMs q) (va_A ws sz))
noncomputable def q9CON (O : ORC) (l : Launch) (B : q9TB) (ALL : List Cond) (q : q9INST) : Prop := q9CONX O (fun _ _ => True) l B ALL q
/-! what comes back from a call -/
noncomputable def q9keepF_o (Wr : List Nat) (x : q9ST) (q : Nat × Nat × q9AV) : Bool := q.2.1 == 1000 || (match q9codeOf x q.1 with
  | some cd => !(Wr.elem (64 * cd + q.2.1))
  | none => false)
noncomputable def q9keepF (Wr : List Nat) (x : q9ST) (q : Nat × Nat × q9AV) : Bool := q9or9 (q9eq9 (q.2.1) (1000)) ((match q9codeOf x q.1 with
  | some cd => !(q9el9 Wr (64 * cd + q.2.1))
  | none => false))
theorem q9keepF_oq : @q9keepF = @q9keepF_o := by
  delta q9keepF q9keepF_o
  simp only [q9ge9_eq, q9fi9_eq, q9an9_eq, q9al9_eq, q9flt9_eq, q9el9_eq, q9set9_eq, q9ln9_eq, q9gD9_eq, q9ap9_eq, q9eq9_N, q9eq9_I, q9eq9_A, q9eq9_E, q9eq9_OI, q9eq9_ON, q9eq9_OA, q9eq9_L, q9eq9_S, q9de9_N, q9de9_I, q9de9_A, q9le9_N, q9le9_I, q9lt9_N, q9lt9_I, q9de9_E, q9de9_OI, q9de9_ON, q9de9_OA, q9de9_L, q9nd9_eq, q9or9_eq, Bool.cond_decide]
noncomputable def q9keepA_o (Wr : List Nat) (x : q9ST) (q : Nat × q9AV × q9AV) : Bool := match q9codeOf x q.1 with
  | some cd => !(Wr.elem (100000 + cd))
  | none => q9jB Wr (q9tE x) q.1
noncomputable def q9keepA (Wr : List Nat) (x : q9ST) (q : Nat × q9AV × q9AV) : Bool := match q9codeOf x q.1 with
  | some cd => !(q9el9 Wr (100000 + cd))
  | none => q9jB Wr (q9tE x) q.1
theorem q9keepA_oq : @q9keepA = @q9keepA_o := by
  delta q9keepA q9keepA_o
  simp only [q9ge9_eq, q9fi9_eq, q9an9_eq, q9al9_eq, q9flt9_eq, q9el9_eq, q9set9_eq, q9ln9_eq, q9gD9_eq, q9ap9_eq, q9eq9_N, q9eq9_I, q9eq9_A, q9eq9_E, q9eq9_OI, q9eq9_ON, q9eq9_OA, q9eq9_L, q9eq9_S, q9de9_N, q9de9_I, q9de9_A, q9le9_N, q9le9_I, q9lt9_N, q9lt9_I, q9de9_E, q9de9_OI, q9de9_ON, q9de9_OA, q9de9_L, q9nd9_eq, q9or9_eq, Bool.cond_decide]
noncomputable def q9left_o (Wr : List Nat) (x : q9ST) : q9ST := q9sA (q9sF x ((q9tF x).filter (q9keepF Wr x))) ((q9tA x).filter (q9keepA Wr x))
noncomputable def q9left (Wr : List Nat) (x : q9ST) : q9ST := q9sA (q9sF x (q9flt9 (q9tF x) (q9keepF Wr x))) (q9flt9 (q9tA x) (q9keepA Wr x))
theorem q9left_oq : @q9left = @q9left_o := by
  delta q9left q9left_o
  simp only [q9ge9_eq, q9fi9_eq, q9an9_eq, q9al9_eq, q9flt9_eq, q9el9_eq, q9set9_eq, q9ln9_eq, q9gD9_eq, q9ap9_eq, q9eq9_N, q9eq9_I, q9eq9_A, q9eq9_E, q9eq9_OI, q9eq9_ON, q9eq9_OA, q9eq9_L, q9eq9_S, q9de9_N, q9de9_I, q9de9_A, q9le9_N, q9le9_I, q9lt9_N, q9lt9_I, q9de9_E, q9de9_OI, q9de9_ON, q9de9_OA, q9de9_L, q9nd9_eq, q9or9_eq, Bool.cond_decide]
theorem q9left_F {Wr : List Nat} {x : q9ST} {q : Nat × Nat × q9AV} (h : q ∈ q9tF (q9left Wr x)) : q ∈ (q9tF x).filter (q9keepF Wr x) := by
  rw [q9left_oq] at h
  exact h
theorem q9left_A {Wr : List Nat} {x : q9ST} {q : Nat × q9AV × q9AV} (h : q ∈ q9tA (q9left Wr x)) : q ∈ (q9tA x).filter (q9keepA Wr x) := by
  rw [q9left_oq] at h
  exact h
theorem q9left_ok {nL : Nat} {g : List Value} {cT : Nat → ClassId} {B : q9TB} {A : Nat → Prop} {Wr : List Nat} {x : q9ST} {r : Nat → Value} {G G' : q9GH} {ws ws' : va_W} {ls : Array Slot} {st : List Value} (hM : q9SM O nL g x r G ws ls st) (hT : q9tyW cT B G ws) (hD : va_D A ws) (hX : q9extG G G') (hK : q9keepW Wr G ws ws') : q9SM O nL g (q9left Wr x) r G' ws' ls st := by
  refine ⟨hM.1, hM.2.1, hM.2.2.1, fun k t hk => (hM.2.2.2.1 k t hk).mono hX.mem, fun q hq => ?_, fun q hq => ?_, hM.2.2.2.2.2.2⟩
  · obtain ⟨q1, q2⟩ := List.mem_filter.mp (q9left_F hq)
    have h9 := hM.2.2.2.2.1 q q1
    unfold q9FMok at h9 ⊢
    split
    · rename_i h0
      rw [if_pos h0] at h9
      obtain ⟨a, cd, n, z, e1, e2, e3, e4⟩ := h9
      exact ⟨a, cd, n, z, e1, hX.mem _ e2, e3, e4⟩
    · rename_i h0
      rw [if_neg h0] at h9
      obtain ⟨a, i, ci, fs, e1, e2, e3⟩ := h9
      (rewrite [q9keepF_oq] at q2; unfold q9keepF_o at q2)
      rw [Bool.or_eq_true] at q2
      rcases q2 with q2 | q2
      · exact absurd (by simpa using q2) h0
      · cases hc : q9codeOf x q.1 with
        | none => rw [hc] at q2; cases q2
        | some cd =>
          rw [hc] at q2
          have q2 : (!(Wr.elem (64 * cd + q.2.1))) = true := q2
          obtain ⟨b, n, y1, y2⟩ := q9codeOf_ok hM.2.2.2.1 hc
          rw [e1] at y1
          cases y1
          obtain ⟨t, n', g1, g2⟩ := hT.back e2
          have hcd := (hT.one hD y2 (List.mem_of_getElem? g1)).1
          subst hcd
          obtain ⟨e', f1, f2⟩ := hK i a cd n' _ g1 e2
          rcases g2 with ⟨g3, fs3, F3, g4, -⟩ | ⟨hh, k3, -, g5⟩
          · cases g4
            match e', f2 with
            | .inr (c', fs'), ⟨h1, h2, h3⟩ =>
              refine ⟨a, i, c', fs', e1, f1, ?_⟩
              rw [h3 q.2.1 (fun hh => by rw [List.elem_iff.mpr hh] at q2; cases q2)]
              exact e3
          · obtain ⟨t3, N3, b3, et3⟩ := k3
            obtain ⟨-, -, g5⟩ := g5
            match t3, g5 with
            | 0, ⟨f, e9, _⟩ => cases e9
            | 1, ⟨f, e9, _⟩ => cases e9
            | 2, ⟨f, e9, _⟩ => cases e9
            | 3, ⟨f, e9, _⟩ => cases e9
            | _ + 4, ⟨f, e9, _⟩ => cases e9
  · obtain ⟨q1, q2⟩ := List.mem_filter.mp (q9left_A hq)
    (rewrite [q9keepA_oq] at q2; unfold q9keepA_o at q2)
    rcases hM.2.2.2.2.2.1 q q1 with ⟨a, i, cA, n, f, z, e1, e2, e3, e4⟩ | hJ
    case inr =>
      cases hc : q9codeOf x q.1 with
      | none =>
        rw [hc] at q2
        exact .inr (q9JA_keep hX hK (q9jB_ok hM.2.2.2.1 q2) hJ)
      | some cd =>
        obtain ⟨b, n2, y1, y2⟩ := q9codeOf_ok hM.2.2.2.1 hc
        rw [y1] at hJ
        exact (q9JA_ref hJ).elim
    cases hc : q9codeOf x q.1 with
    | none =>
      rw [hc] at q2
      exact (q9jB_ref hM.2.2.2.1 q2 e1).elim
    | some cd =>
      rw [hc] at q2
      have q2 : (!(Wr.elem (100000 + cd))) = true := q2
      obtain ⟨b, n2, y1, y2⟩ := q9codeOf_ok hM.2.2.2.1 hc
      rw [e1] at y1
      cases y1
      obtain ⟨t, n', g1, g2⟩ := hT.back e2
      have hcd := (hT.one hD y2 (List.mem_of_getElem? g1)).1
      subst hcd
      obtain ⟨e', f1, f2⟩ := hK i a cd n' _ g1 e2
      match e', f2 with
      | .inl y, f2 =>
        have f2 := f2 (fun hh => by rw [List.elem_iff.mpr hh] at q2; cases q2)
        subst f2
        exact .inl ⟨a, i, cA, n, f, z, e1, f1, e3, e4⟩
theorem q9wf_left {Wr : List Nat} {x : q9ST} (h : q9wfB x = true) : q9wfB (q9left Wr x) = true := by
  have h1 := q9wf_L h
  have h2 := q9wf_S h
  have h3 := q9wf_G h
  have h4 := q9wf_F h
  have h5 := q9wf_A h
  have h6 := q9wf_C h
  have h7 := q9wf_X h
  (rewrite [q9wfB_oq]; unfold q9wfB_o)
  simp only [Bool.and_eq_true, List.all_eq_true, decide_eq_true_eq]
  exact ⟨h1, h2, h3, fun q hq => h4 q (List.mem_filter.mp (q9left_F hq)).1, fun q hq => h5 q (List.mem_filter.mp (q9left_A hq)).1, h6, h7⟩
noncomputable def q9mkI (gs : List q9AV) : List q9DF → List q9ET → q9ST → List q9AV → q9ST × List q9AV
  | d :: ds, t :: ts, x, th => match d.1 with
    | 2 => q9mkI gs ds ts x (th ++ [gs.getD d.2.1 (0, 0)])
    | 5 => q9mkI gs ds ts x (th ++ [(0, 0)])
    | _ => q9mkI gs ds ts (q9sE x (q9tE x ++ [t])) (th ++ [((q9tE x).length, 0)])
  | _, _, x, th => (x, th)
noncomputable def q9dfB (y : q9ST) (n : Nat) : List q9DF → Nat → Bool
  | [], _ => true
  | d :: ds, k => (match d.1 with
    | 2 => (q9tG y)[d.2.1]? == some (k, 0) && decide (d.2.1 < n)
    | 5 => k == 0
    | _ => q9okAV (q9tE y) (k, 0)) && q9dfB y n ds (k + 1)
theorem q9okAV_of {E E' : List q9ET} {k n : Nat} {t : q9ET} (h : q9okAV E (k, 0) = true) (h1 : E[k]? = some t) (h2 : E'[n]? = some t) : q9okAV E' (n, 0) = true := by
  (rewrite [q9okAV_oq] at h ⊢; unfold q9okAV_o at h ⊢)
  dsimp only at h ⊢
  rw [h1] at h
  rw [h2]
  exact h
theorem q9mkI_ok {nL : Nat} {g : List Value} {gs : List q9AV} {y : q9ST} {r' : Nat → Value} {G : q9GH} {ws : va_W} {ls : Array Slot} {st : List Value} (hy : q9SAT G (q9tE y) r') (hz : q9zeroB y = true) :
    ∀ (ds : List q9DF) (ts : List q9ET) (k : Nat) (x : q9ST) (th : List q9AV) (r : Nat → Value), ds.length = ts.length → (∀ j t, ts[j]? = some t → (q9tE y)[k + j]? = some t) → q9dfB y gs.length ds k = true → q9wfB x = true → q9zeroB x = true → q9SM O nL g x r G ws ls st → th.length = k → (∀ q ∈ gs, q9okAV (q9tE x) q = true) → (∀ q ∈ th, q9okAV (q9tE x) q = true) → (q9tG y).map (q9ev r') = gs.map (q9ev r) → (∀ j, j < k → r' j = q9ev r (th.getD j (0, 0))) →
      ∃ r2, q9agr (q9tE x).length r r2 ∧ (q9tE x).length ≤ (q9tE (q9mkI gs ds ts x th).1).length ∧ q9SM O nL g (q9mkI gs ds ts x th).1 r2 G ws ls st ∧ q9wfB (q9mkI gs ds ts x th).1 = true ∧ (∀ j, j < k + ds.length → r' j = q9ev r2 ((q9mkI gs ds ts x th).2.getD j (0, 0))) ∧ q9tS (q9mkI gs ds ts x th).1 = q9tS x ∧ q9tN (q9mkI gs ds ts x th).1 = q9tN x ∧ q9tM (q9mkI gs ds ts x th).1 = q9tM x
  | [], ts, k, x, th, r, _, _, _, hw, _, hM, _, _, _, _, ht => by
    have e : q9mkI gs [] ts x th = (x, th) := by unfold q9mkI; rfl
    rw [e]
    exact ⟨r, q9agr.rf, Nat.le_refl _, hM, hw, ht, rfl, rfl, rfl⟩
  | d :: ds, [], k, x, th, r, hl, _, _, _, _, _, _, _, _, _, _ => by simp at hl
  | d :: ds, t :: ts, k, x, th, r, hl, hE, hd, hw, hz0, hM, hk, hg, hth, hgg, ht => by
    have hl' : ds.length = ts.length := by simpa using hl
    have hE' : ∀ j t, ts[j]? = some t → (q9tE y)[k + 1 + j]? = some t := fun j u hj => by
      rw [show k + 1 + j = k + (j + 1) by omega]
      exact hE (j + 1) u hj
    have hEk : (q9tE y)[k]? = some t := hE 0 t rfl
    have hd' := hd
    unfold q9dfB at hd'
    rw [Bool.and_eq_true] at hd'
    have fin : ∀ a : q9AV, q9okAV (q9tE x) a = true → r' k = q9ev r a → ∀ j, j < k + 1 → r' j = q9ev r ((th ++ [a]).getD j (0, 0)) := by
      intro a ha hr j hj
      by_cases hjk : j = k
      · subst hjk
        rw [hr]
        congr 1
        rw [List.getD_eq_getElem?_getD, List.getElem?_append_right (by omega), hk]
        simp
      · rw [ht j (by omega)]
        congr 1
        rw [List.getD_eq_getElem?_getD, List.getD_eq_getElem?_getD, List.getElem?_append_left (by omega)]
    have hcase : d.1 = 2 ∨ d.1 = 5 ∨ (d.1 ≠ 2 ∧ d.1 ≠ 5) := by omega
    rcases hcase with h2 | h5 | ⟨h2, h5⟩
    · have e : q9mkI gs (d :: ds) (t :: ts) x th = q9mkI gs ds ts x (th ++ [gs.getD d.2.1 (0, 0)]) := by
        rw [q9mkI.eq_def]
        simp only [h2]
      rw [e]
      rw [h2] at hd'
      have h9 := hd'.1
      simp only [Bool.and_eq_true, beq_iff_eq, decide_eq_true_eq] at h9
      have hga : gs[d.2.1]? = some (gs.getD d.2.1 (0, 0)) := by
        rw [List.getD_eq_getElem?_getD, List.getElem?_eq_getElem h9.2]
        rfl
      have hr : r' k = q9ev r (gs.getD d.2.1 (0, 0)) := by
        have := congrArg (fun z => z[d.2.1]?) hgg
        simp only [List.getElem?_map, h9.1, hga] at this
        have := Option.some.inj this
        rw [q9ev_zero] at this
        exact this
      have ho := hg _ (List.mem_of_getElem? hga)
      have := q9mkI_ok hy hz ds ts (k + 1) x (th ++ [gs.getD d.2.1 (0, 0)]) r hl' hE' hd'.2 hw hz0 hM (by rw [List.length_append, hk]; rfl) hg (fun q hq => by
        rcases List.mem_append.mp hq with hq | hq
        · exact hth q hq
        · rw [List.mem_singleton] at hq
          subst hq
          exact ho) hgg (fin _ ho hr)
      rw [show k + (d :: ds).length = k + 1 + ds.length by rw [List.length_cons]; omega]
      exact this
    · have e : q9mkI gs (d :: ds) (t :: ts) x th = q9mkI gs ds ts x (th ++ [(0, 0)]) := by
        rw [q9mkI.eq_def]
        simp only [h5]
      rw [e]
      rw [h5] at hd'
      have h9 := hd'.1
      simp only [beq_iff_eq] at h9
      have hr : r' k = q9ev r (0, 0) := by
        rw [h9, q9zero_ev hM.2.2.2.1 (q9zero_at hz0) 0, ← q9zero_ev hy (q9zero_at hz) 0, q9ev_zero]
      have ho : q9okAV (q9tE x) (0, 0) = true := q9ok0 hz0 (by omega) (by omega)
      have := q9mkI_ok hy hz ds ts (k + 1) x (th ++ [(0, 0)]) r hl' hE' hd'.2 hw hz0 hM (by rw [List.length_append, hk]; rfl) hg (fun q hq => by
        rcases List.mem_append.mp hq with hq | hq
        · exact hth q hq
        · rw [List.mem_singleton] at hq
          subst hq
          exact ho) hgg (fin _ ho hr)
      rw [show k + (d :: ds).length = k + 1 + ds.length by rw [List.length_cons]; omega]
      exact this
    · have hok : q9okAV (q9tE y) (k, 0) = true := by
        have h9 := hd'.1
        split at h9
        · rename_i h; exact absurd h h2
        · rename_i h; exact absurd h h5
        · exact h9
      have e : q9mkI gs (d :: ds) (t :: ts) x th = q9mkI gs ds ts (q9sE x (q9tE x ++ [t])) (th ++ [((q9tE x).length, 0)]) := by
        rw [q9mkI.eq_def]
        dsimp only
        split
        · rename_i h; exact absurd h h2
        · rename_i h; exact absurd h h5
        · rfl
      rw [e]
      have ag : q9agr (q9tE x).length r (q9up r (q9tE x).length (r' k)) := fun j hj => q9up_lt hj
      have hM' := hM.fresh hw (hy k t hEk)
      have hlen : (q9tE (q9sE x (q9tE x ++ [t]))).length = (q9tE x).length + 1 := by
        show (q9tE x ++ [t]).length = _
        rw [List.length_append]
        rfl
      have hz1 : q9zeroB (q9sE x (q9tE x ++ [t])) = true := by
        (rewrite [q9zeroB_oq] at hz0 ⊢; unfold q9zeroB_o at hz0 ⊢)
        show (match (q9tE x ++ [t])[0]? with | some t => _ | none => _) = true
        rw [List.getElem?_append_left]
        · exact hz0
        · have := q9zero_at (x := x) (by (rewrite [q9zeroB_oq]; unfold q9zeroB_o); exact hz0)
          exact (List.getElem?_eq_some_iff.mp this).1
      have ht' : ∀ j, j < k + 1 → r' j = q9ev (q9up r (q9tE x).length (r' k)) ((th ++ [((q9tE x).length, 0)]).getD j (0, 0)) := by
        intro j hj
        by_cases hjk : j = k
        · subst hjk
          have : (th ++ [((q9tE x).length, (0 : Int))]).getD j (0, 0) = ((q9tE x).length, 0) := by
            rw [List.getD_eq_getElem?_getD, List.getElem?_append_right (by omega), hk]
            simp
          rw [this, q9ev_zero, q9up_at]
        · rw [ht j (by omega)]
          have hjl : j < th.length := by omega
          have : (th ++ [((q9tE x).length, (0 : Int))]).getD j (0, 0) = th.getD j (0, 0) := by
            rw [List.getD_eq_getElem?_getD, List.getD_eq_getElem?_getD, List.getElem?_append_left hjl]
          rw [this, ag.ev (hth _ (by rw [List.getD_eq_getElem?_getD, List.getElem?_eq_getElem hjl]; exact List.getElem_mem hjl))]
      obtain ⟨r2, g1, g2, g3, g4, g5, g6, g7, g8⟩ := q9mkI_ok hy hz ds ts (k + 1) (q9sE x (q9tE x ++ [t])) (th ++ [((q9tE x).length, 0)]) _ hl' hE' hd'.2 (q9wf_app hw) hz1 hM' (by rw [List.length_append, hk]; rfl) (fun q hq => q9okAV_app (hg q hq)) (fun q hq => by
        rcases List.mem_append.mp hq with hq | hq
        · exact q9okAV_app (hth q hq)
        · rw [List.mem_singleton] at hq
          subst hq
          exact q9okAV_of hok hEk (by show (q9tE x ++ [t])[(q9tE x).length]? = _; rw [List.getElem?_append_right (Nat.le_refl _), Nat.sub_self]; rfl)) (by
          rw [hgg]
          exact List.map_congr_left fun q hq => (ag.ev (hg q hq)).symm) ht'
      refine ⟨r2, ag.tr g1 (by rw [hlen]; omega), by rw [hlen] at g2; omega, g3, g4, fun j hj => g5 j (by rw [List.length_cons] at hj; omega), g6, g7, g8⟩
/-- what a type tells of a value -/
noncomputable def q9tyRef_o (x : q9ST) (a : q9AV) (t : q9ET) : Option q9ST := match t.1 with
  | 2 => (match (q9tE x)[a.1]? with
    | some u => if u.1 = 3 ∧ u.2.1 = t.2.1 then some (q9sE x ((q9tE x).set a.1 (2, u.2))) else if u.1 = 4 then none else some x
    | none => some x)
  | 4 => (match (q9tE x)[a.1]? with
    | some u => if u.1 = 3 then some (q9sE x ((q9tE x).set a.1 (4, 0, 0))) else if u.1 = 2 then none else some x
    | none => some x)
  | _ => (match q9num (q9tE x) a with
    | some _ => if t.1 = 0 ∨ t.1 = 1 then (match q9cutLo (q9tE x) a.1 (t.2.1 - a.2) with
        | some E1 => (match q9cutHi E1 a.1 (t.2.2 - a.2) with
          | some E2 => some (q9sE x E2)
          | none => none)
        | none => none) else some x
    | none => some x)
noncomputable def q9tyRef (x : q9ST) (a : q9AV) (t : q9ET) : Option q9ST := match t.1 with
  | 2 => (match (q9ge9 (q9tE x) (a.1)) with
    | some u => if u.1 = 3 ∧ u.2.1 = t.2.1 then some (q9sE x (q9set9 (q9tE x) a.1 (2, u.2))) else bif q9de9 (u.1) (4) then none else some x
    | none => some x)
  | 4 => (match (q9ge9 (q9tE x) (a.1)) with
    | some u => bif q9de9 (u.1) (3) then some (q9sE x (q9set9 (q9tE x) a.1 (4, 0, 0))) else bif q9de9 (u.1) (2) then none else some x
    | none => some x)
  | _ => (match q9num (q9tE x) a with
    | some _ => if t.1 = 0 ∨ t.1 = 1 then (match q9cutLo (q9tE x) a.1 (t.2.1 - a.2) with
        | some E1 => (match q9cutHi E1 a.1 (t.2.2 - a.2) with
          | some E2 => some (q9sE x E2)
          | none => none)
        | none => none) else some x
    | none => some x)
theorem q9tyRef_oq : @q9tyRef = @q9tyRef_o := by
  delta q9tyRef q9tyRef_o
  simp only [q9ge9_eq, q9fi9_eq, q9an9_eq, q9al9_eq, q9flt9_eq, q9el9_eq, q9set9_eq, q9ln9_eq, q9gD9_eq, q9ap9_eq, q9eq9_N, q9eq9_I, q9eq9_A, q9eq9_E, q9eq9_OI, q9eq9_ON, q9eq9_OA, q9eq9_L, q9eq9_S, q9de9_N, q9de9_I, q9de9_A, q9le9_N, q9le9_I, q9lt9_N, q9lt9_I, q9de9_E, q9de9_OI, q9de9_ON, q9de9_OA, q9de9_L, q9nd9_eq, q9or9_eq, Bool.cond_decide]
theorem q9tyV_num {G : q9GH} {t : q9ET} {v : Value} (h : q9tyV G t v) (h0 : t.1 = 0 ∨ t.1 = 1) : t.2.1 ≤ q9nv v ∧ q9nv v ≤ t.2.2 := by
  obtain ⟨k, lo, hi⟩ := t
  rcases h0 with rfl | rfl
  · obtain ⟨x, e, h1, h2⟩ := h
    subst e
    exact ⟨h1, h2⟩
  · obtain ⟨x, e, h1, h2⟩ := h
    subst e
    exact ⟨h1, h2⟩
theorem q9tyRef_ok {nL : Nat} {g : List Value} {x : q9ST} {r : Nat → Value} {G : q9GH} {ws : va_W} {ls : Array Slot} {st : List Value} (h : q9SM O nL g x r G ws ls st) {a : q9AV} {t : q9ET} (ha : q9okAV (q9tE x) a = true) (ht : q9tyV G t (q9ev r a)) : ∃ x', q9tyRef x a t = some x' ∧ q9more G r x x' := by
  have hS := h.2.2.2.1
  have fin : ∀ u : q9ET, q9tyV G u (r a.1) → q9more G r x (q9sE x ((q9tE x).set a.1 u)) := fun u hu => ⟨_, q9tC x, rfl, List.length_set .., q9set_sat hS hu, h.2.2.2.2.2.2.1⟩
  (rewrite [q9tyRef_oq]; unfold q9tyRef_o)
  split
  · rename_i h2
    obtain ⟨tk, lo, hi⟩ := t
    have h2 : tk = 2 := h2
    subst h2
    cases hE : (q9tE x)[a.1]? with
    | none => exact ⟨x, rfl, q9more.rf h⟩
    | some u =>
      dsimp only
      split
      · rename_i hu
        obtain ⟨uk, ul, uh⟩ := u
        obtain ⟨u1, u2⟩ := hu
        dsimp only at u1 u2
        subst u1
        subst u2
        refine ⟨_, rfl, fin _ ?_⟩
        rw [← (q9ev_ref hS hE (by simp)).1]
        exact ht
      · split
        · rename_i h4
          exfalso
          obtain ⟨uk, ul, uh⟩ := u
          have h4 : uk = 4 := h4
          subst h4
          obtain ⟨b, n, e1, -⟩ := ht
          have e2 := (q9ev_ref hS hE (by simp)).2
          have e2 : q9ev r a = .null := e2
          rw [e1] at e2
          cases e2
        · exact ⟨x, rfl, q9more.rf h⟩
  · rename_i h2
    obtain ⟨tk, lo, hi⟩ := t
    have h2 : tk = 4 := h2
    subst h2
    cases hE : (q9tE x)[a.1]? with
    | none => exact ⟨x, rfl, q9more.rf h⟩
    | some u =>
      dsimp only
      split
      · rename_i hu
        obtain ⟨uk, ul, uh⟩ := u
        dsimp only at hu
        subst hu
        refine ⟨_, rfl, fin _ ?_⟩
        rw [← (q9ev_ref hS hE (by simp)).1]
        exact ht
      · split
        · rename_i h4
          exfalso
          obtain ⟨uk, ul, uh⟩ := u
          have h4 : uk = 2 := h4
          subst h4
          obtain ⟨b, n, e1, -⟩ := (q9ev_ref hS hE (by simp)).2
          have e2 : q9ev r a = .null := ht
          rw [e1] at e2
          cases e2
        · exact ⟨x, rfl, q9more.rf h⟩
  · cases na : q9num (q9tE x) a with
    | none => exact ⟨x, rfl, q9more.rf h⟩
    | some q =>
      obtain ⟨k1, l1, h1⟩ := q
      dsimp only
      split
      · rename_i h0
        obtain ⟨b1, b2⟩ := q9tyV_num ht h0
        obtain ⟨-, ea, -, -⟩ := q9num_ok hS ha na
        obtain ⟨ta, ta1, ta2, -⟩ := q9num_sym na
        obtain ⟨E1, c1, c2, c3, c4⟩ := q9cutLo_ok hS ta1 ta2 (l := t.2.1 - a.2) (by omega)
        obtain ⟨tb, tb1, tb2⟩ := c4 _ _ ta1
        obtain ⟨E2, d1, d2, d3, -⟩ := q9cutHi_ok c2 tb1 (by rw [tb2]; exact ta2) (h := t.2.2 - a.2) (by omega)
        rw [c1]
        dsimp only
        rw [d1]
        exact ⟨_, rfl, E2, q9tC x, rfl, d3.trans c3, d2, h.2.2.2.2.2.2.1⟩
      · exact ⟨x, rfl, q9more.rf h⟩
noncomputable def q9refL (th : List q9AV) : List q9ET → Nat → q9ST → Option q9ST
  | [], _, x => some x
  | t :: ts, k, x => if q9okAV (q9tE x) (th.getD k (0, 0)) then (match q9tyRef x (th.getD k (0, 0)) t with
    | some x1 => q9refL th ts (k + 1) x1
    | none => none) else q9refL th ts (k + 1) x
theorem q9refL_ok {nL : Nat} {g : List Value} {th : List q9AV} {r : Nat → Value} {G : q9GH} {ws : va_W} {ls : Array Slot} {st : List Value} : ∀ (ts : List q9ET) (k : Nat) (x : q9ST), q9SM O nL g x r G ws ls st → (∀ j t, ts[j]? = some t → q9tyV G t (q9ev r (th.getD (k + j) (0, 0)))) → ∃ x', q9refL th ts k x = some x' ∧ q9more G r x x'
  | [], k, x, hM, _ => ⟨x, rfl, q9more.rf hM⟩
  | t :: ts, k, x, hM, h => by
    have h' : ∀ j u, ts[j]? = some u → q9tyV G u (q9ev r (th.getD (k + 1 + j) (0, 0))) := fun j u hj => by
      rw [show k + 1 + j = k + (j + 1) by omega]
      exact h (j + 1) u hj
    unfold q9refL
    split
    · rename_i ho
      obtain ⟨x1, e1, m1⟩ := q9tyRef_ok hM ho (h 0 t rfl)
      have e1 : q9tyRef x (th.getD k (0, 0)) t = some x1 := e1
      rw [e1]
      obtain ⟨x2, e2, m2⟩ := q9refL_ok ts (k + 1) x1 (q9more.SM hM m1) h'
      exact ⟨x2, e2, m1.tr m2⟩
    · exact q9refL_ok ts (k + 1) x hM h'
noncomputable def q9facL (th : List q9AV) : List (Nat × Nat × Int) → q9ST → Option q9ST
  | [], x => some x
  | q :: qs, x => if q9okAV (q9tE x) (th.getD q.1 (0, 0)) && q9okAV (q9tE x) (th.getD q.2.1 (0, 0)) then (match q9rle x (th.getD q.1 (0, 0)) (th.getD q.2.1 (0, 0)) q.2.2 with
    | some x1 => q9facL th qs x1
    | none => none) else q9facL th qs x
theorem q9facL_ok {nL : Nat} {g : List Value} {th : List q9AV} {r : Nat → Value} {G : q9GH} {ws : va_W} {ls : Array Slot} {st : List Value} : ∀ (qs : List (Nat × Nat × Int)) (x : q9ST), q9SM O nL g x r G ws ls st → (∀ q ∈ qs, q9nv (q9ev r (th.getD q.1 (0, 0))) ≤ q9nv (q9ev r (th.getD q.2.1 (0, 0))) + q.2.2) → ∃ x', q9facL th qs x = some x' ∧ q9more G r x x'
  | [], x, hM, _ => ⟨x, rfl, q9more.rf hM⟩
  | q :: qs, x, hM, h => by
    have h' := fun z hz => h z (List.mem_cons_of_mem q hz)
    unfold q9facL
    split
    · rename_i ho
      rw [Bool.and_eq_true] at ho
      obtain ⟨x1, e1, m1⟩ := q9rle_ok hM ho.1 ho.2 (h q List.mem_cons_self)
      rw [e1]
      obtain ⟨x2, e2, m2⟩ := q9facL_ok qs x1 (q9more.SM hM m1) h'
      exact ⟨x2, e2, m1.tr m2⟩
    · exact q9facL_ok qs x hM h'
/-- a callee's end, taken into the caller's state; the answer's value -/
noncomputable def q9inh_o (gs : List q9AV) (Wr : List Nat) (x : q9ST) (q : q9CASE) : Option (Option (q9ST × List q9AV)) :=
  let x0 := q9left Wr x
  let y := q.1
  if q9wfB x0 && (q9wfB y && (q9zeroB x0 && (q9zeroB y && (q9dfB y gs.length q.2 0 && (decide (q.2.length = (q9tE y).length) && (gs.all (q9okAV (q9tE x0)) && decide ((q9tG y).length = gs.length))))))) then
    let m := q9mkI gs q.2 (q9tE y) x0 []
    match q9refL m.2 (q9tE y) 0 m.1 with
    | none => some none
    | some x2 => match q9facL m.2 (q9tC y) x2 with
      | none => some none
      | some x3 => if (q9tF y).all (fun z => decide ((m.2.getD z.1 (0, 0)).2 = 0)) && ((q9tA y).all (fun z => decide ((m.2.getD z.1 (0, 0)).2 = 0)) && (q9tX y).all (fun z => decide ((m.2.getD z.2.2.2 (0, 0)).2 = 0))) then
          some (some (q9sX (q9sA (q9sF x3 ((q9tF y).map (fun z => ((m.2.getD z.1 (0, 0)).1, z.2.1, q9sh m.2 z.2.2)) ++ q9tF x3)) ((q9tA y).map (fun z => ((m.2.getD z.1 (0, 0)).1, q9sh m.2 z.2.1, q9sh m.2 z.2.2)) ++ q9tA x3)) ((q9tX y).map (fun z => (z.1, q9sh m.2 z.2.1, q9sh m.2 z.2.2.1, (m.2.getD z.2.2.2 (0, 0)).1)) ++ q9tX x3), (q9tS y).map (q9sh m.2)))
        else none
  else none
noncomputable def q9inh (gs : List q9AV) (Wr : List Nat) (x : q9ST) (q : q9CASE) : Option (Option (q9ST × List q9AV)) :=
  let x0 := q9left Wr x
  let y := q.1
  if q9nd9 (q9wfB x0) ((q9nd9 (q9wfB y) ((q9nd9 (q9zeroB x0) ((q9nd9 (q9zeroB y) ((q9nd9 (q9dfB y (q9ln9 gs) q.2 0) ((q9nd9 ((q9de9 ((q9ln9 q.2)) ((q9ln9 (q9tE y))))) ((q9nd9 (q9al9 gs (q9okAV (q9tE x0))) ((q9de9 ((q9ln9 (q9tG y))) ((q9ln9 gs)))))))))))))))) then
    let m := q9mkI gs q.2 (q9tE y) x0 []
    match q9refL m.2 (q9tE y) 0 m.1 with
    | none => some none
    | some x2 => match q9facL m.2 (q9tC y) x2 with
      | none => some none
      | some x3 => if q9nd9 (q9al9 (q9tF y) (fun z => (q9de9 ((m.2.getD z.1 (0, 0)).2) (0)))) ((q9nd9 (q9al9 (q9tA y) (fun z => (q9de9 ((m.2.getD z.1 (0, 0)).2) (0)))) (q9al9 (q9tX y) (fun z => (q9de9 ((m.2.getD z.2.2.2 (0, 0)).2) (0)))))) then
          some (some (q9sX (q9sA (q9sF x3 ((q9ap9 ((q9tF y).map (fun z => ((m.2.getD z.1 (0, 0)).1, z.2.1, q9sh m.2 z.2.2))) (q9tF x3)))) ((q9ap9 ((q9tA y).map (fun z => ((m.2.getD z.1 (0, 0)).1, q9sh m.2 z.2.1, q9sh m.2 z.2.2))) (q9tA x3)))) ((q9ap9 ((q9tX y).map (fun z => (z.1, q9sh m.2 z.2.1, q9sh m.2 z.2.2.1, (m.2.getD z.2.2.2 (0, 0)).1))) (q9tX x3))), (q9tS y).map (q9sh m.2)))
        else none
  else none
theorem q9inh_oq : @q9inh = @q9inh_o := by
  delta q9inh q9inh_o
  simp only [q9ge9_eq, q9fi9_eq, q9an9_eq, q9al9_eq, q9flt9_eq, q9el9_eq, q9set9_eq, q9ln9_eq, q9gD9_eq, q9ap9_eq, q9eq9_N, q9eq9_I, q9eq9_A, q9eq9_E, q9eq9_OI, q9eq9_ON, q9eq9_OA, q9eq9_L, q9eq9_S, q9de9_N, q9de9_I, q9de9_A, q9le9_N, q9le9_I, q9lt9_N, q9lt9_I, q9de9_E, q9de9_OI, q9de9_ON, q9de9_OA, q9de9_L, q9nd9_eq, q9or9_eq, Bool.cond_decide]
theorem q9inh_ok {nL : Nat} {g : List Value} {cT : Nat → ClassId} {B : q9TB} {A : Nat → Prop} {Wr : List Nat} {x : q9ST} {r : Nat → Value} {G G' : q9GH} {ws ws' : va_W} {ls : Array Slot} {st : List Value} (hM : q9SM O nL g x r G ws ls st) (hT : q9tyW cT B G ws) (hD : va_D A ws) (hX : q9extG G G') (hK : q9keepW Wr G ws ws')
    {gs : List q9AV} {q : q9CASE} {r' : Nat → Value} {vl : List Value} (hR : q9SR O (gs.map (q9ev r)) q.1 r' G' ws' vl) {o : Option (q9ST × List q9AV)} (h : q9inh gs Wr x q = some o) :
    ∃ (x' : q9ST) (vs : List q9AV) (r2 : Nat → Value), o = some (x', vs) ∧ q9agr (q9tE x).length r r2 ∧ (q9tE x).length ≤ (q9tE x').length ∧ q9SM O nL g x' r2 G' ws' ls st ∧ vl = vs.map (q9ev r2) ∧ q9tS x' = q9tS x ∧ q9tN x' = q9tN x ∧ q9tM x' = q9tM x := by
  have hL := q9left_ok hM hT hD hX hK
  (rewrite [q9inh_oq] at h; unfold q9inh_o at h)
  dsimp only at h
  split at h
  · rename_i hc
    simp only [Bool.and_eq_true, decide_eq_true_eq, List.all_eq_true] at hc
    obtain ⟨c1, cw, c2, c3, c4, c5, c6, c7⟩ := hc
    obtain ⟨s1, s2, s3, s4, s5, s6, s7⟩ := hR
    obtain ⟨r2, g1, g2, g3, g4, g5, g6, g7, g8⟩ := q9mkI_ok (y := q.1) (r' := r') s3 c3 q.2 (q9tE q.1) 0 (q9left Wr x) [] r c5 (fun j t hj => by rw [Nat.zero_add]; exact hj) c4 c1 c2 hL rfl c6 (fun _ h => by cases h) s2.symm (fun j hj => by omega)
    have key : ∀ k, k < (q9tE q.1).length → r' k = q9ev r2 ((q9mkI gs q.2 (q9tE q.1) (q9left Wr x) []).2.getD k (0, 0)) := fun k hk => g5 k (by omega)
    obtain ⟨x2, e2, m2⟩ := q9refL_ok (th := (q9mkI gs q.2 (q9tE q.1) (q9left Wr x) []).2) (q9tE q.1) 0 _ g3 (fun j t hj => by
      rw [Nat.zero_add, ← key j (List.getElem?_eq_some_iff.mp hj).1]
      exact s3 j t hj)
    rw [e2] at h
    dsimp only at h
    have kav : ∀ a : q9AV, q9okAV (q9tE q.1) a = true → q9ev r' a = q9ev r2 (q9sh (q9mkI gs q.2 (q9tE q.1) (q9left Wr x) []).2 a) := fun a ha => by
      rw [q9sh_oq]
      exact q9ev_sh (k := a.1) (c := a.2) (key a.1 (q9okAV_lt ha))
    have h2 := q9more.SM g3 m2
    obtain ⟨x3, e3, m3⟩ := q9facL_ok (th := (q9mkI gs q.2 (q9tE q.1) (q9left Wr x) []).2) (q9tC q.1) x2 h2 (fun z hz => by
      obtain ⟨w1, w2⟩ := q9wf_C cw z hz
      have := s6 z hz
      unfold q9FCok at this
      rw [← q9nv_iv, ← q9nv_iv, key _ w1, key _ w2] at this
      exact this)
    rw [e3] at h
    dsimp only at h
    have h3 := q9more.SM h2 m3
    split at h
    · rename_i hm
      simp only [Bool.and_eq_true, decide_eq_true_eq, List.all_eq_true] at hm
      obtain ⟨f1, f2, f3⟩ := hm
      cases h
      have hF := h3.F (F := (q9tF q.1).map (fun z => (((q9mkI gs q.2 (q9tE q.1) (q9left Wr x) []).2.getD z.1 (0, 0)).1, z.2.1, q9sh (q9mkI gs q.2 (q9tE q.1) (q9left Wr x) []).2 z.2.2)) ++ q9tF x3) fun z hz => by
        rcases List.mem_append.mp hz with hz | hz
        · obtain ⟨w, hw, rfl⟩ := List.mem_map.mp hz
          obtain ⟨w1, w2⟩ := q9wf_F cw w hw
          have h9 := s4 w hw
          unfold q9FMok at h9 ⊢
          rw [key _ w1, q9isSym (f1 w hw), kav _ w2] at h9
          exact h9
        · exact h3.2.2.2.2.1 z hz
      have hA := hF.A (F := (q9tA q.1).map (fun z => (((q9mkI gs q.2 (q9tE q.1) (q9left Wr x) []).2.getD z.1 (0, 0)).1, q9sh (q9mkI gs q.2 (q9tE q.1) (q9left Wr x) []).2 z.2.1, q9sh (q9mkI gs q.2 (q9tE q.1) (q9left Wr x) []).2 z.2.2)) ++ q9tA x3) fun z hz => by
        rcases List.mem_append.mp hz with hz | hz
        · obtain ⟨w, hw, rfl⟩ := List.mem_map.mp hz
          obtain ⟨w1, w2, w3⟩ := q9wf_A cw w hw
          have h9 := s5 w hw
          unfold q9AMok q9ALok at h9 ⊢
          rw [key _ w1, q9isSym (f2 w hw), kav _ w2, kav _ w3] at h9
          exact h9
        · exact h3.2.2.2.2.2.1 z hz
      have hXX := hA.X (X := (q9tX q.1).map (fun z => (z.1, q9sh (q9mkI gs q.2 (q9tE q.1) (q9left Wr x) []).2 z.2.1, q9sh (q9mkI gs q.2 (q9tE q.1) (q9left Wr x) []).2 z.2.2.1, ((q9mkI gs q.2 (q9tE q.1) (q9left Wr x) []).2.getD z.2.2.2 (0, 0)).1)) ++ q9tX x3) fun z hz => by
        rcases List.mem_append.mp hz with hz | hz
        · obtain ⟨w, hw, rfl⟩ := List.mem_map.mp hz
          obtain ⟨w1, w2, w3⟩ := q9wf_X cw w hw
          have h9 := s7 w hw
          unfold q9EXok at h9 ⊢
          rw [key _ w3, q9isSym (f3 w hw), kav _ w1, kav _ w2] at h9
          exact h9
        · exact h3.2.2.2.2.2.2.2 z hz
      obtain ⟨l1, l2, l3, l4⟩ := m2.len
      obtain ⟨n1, n2, n3, n4⟩ := m3.len
      refine ⟨_, _, r2, rfl, g1, ?_, hXX, ?_, ?_, ?_, ?_⟩
      · show (q9tE x).length ≤ (q9tE x3).length
        rw [n1, l1]
        exact g2
      · rw [s1, List.map_map]
        exact List.map_congr_left fun a ha => kav a (q9wf_S cw a ha)
      · show q9tS x3 = q9tS x
        rw [n2, l2]
        exact g6
      · show q9tN x3 = q9tN x
        rw [n3, l3]
        exact g7
      · show q9tM x3 = q9tM x
        rw [n4, l4]
        exact g8
    · cases h
  · cases h

section CL
variable {p : Program} {l : Launch} {e : Env} {R : Room} {ko : Nat × Nat} {s : State} {m : MethodId} {args : Array Value} {below : List Frame} {meth : Method} {c : Code} {Q : State → Prop} {cc : ByteArray}
variable {nL : Nat} {g : List Value} {D : va_G} {cT : Nat → ClassId} {B : q9TB} {A : Nat → Prop} {H0 : Heap} {G0 : q9GH} {ws0 : va_W} {Wr : List Nat}
theorem q9stand_newB {T T' : State} {locs locs' : List Loc} {cells slots c' n' k n : Nat} (X : Stand p l e R s m args below meth c T locs cells slots) (X' : Stand p l e R s m args below meth c T' locs' c' n') (h : q9newB T.heap T'.heap k n) : Stand p l e R s m args below meth c T' locs' (cells + k) (slots + n) := by
  obtain ⟨x1, x2, x3, x4, x5, x6⟩ := X.same
  obtain ⟨y1, y2, y3, y4, y5, y6⟩ := X'.same
  have x2 : s.heap.size ≤ T.heap.size := x2
  have x3 : T.heap.size ≤ s.heap.size + cells := x3
  refine { X' with same := ⟨y1, y2, ?_, y4, ?_, y6⟩ }
  · have := h.1
    show T'.heap.size ≤ s.heap.size + (cells + k)
    omega
  · exact Nat.le_trans (q9newB_sum h x2) (Nat.add_le_add_right x5 _)
theorem q9va_callG {pc : Nat} {ls : Array Slot} {rest st0 : List Value} {a : Array Value} {A0 A1 : Nat → Prop} {H : Heap} {locs : List Loc} {cells slots mc ms : Nat} {free : Addr → Prop} {P : Option Value → State → State → Prop} (hr : va_Run p l e R s m args below meth c H locs cells slots mc ms (F0 m pc ls st0) rest (q9QV P A1 a) free) (hS : va_S A0 H0 H locs) (hA : ∀ q, q < H.size → A1 q → A0 q) (hf : ∀ q, free q → A0 q)
    (kk : ∀ (v : Option Value) (st t : State) (H1 : Heap) (locs1 : List Loc), st.heap = H → t.heap = H1 → P v st t → H.size ≤ H1.size → (∀ q : Nat, q < H.size → ¬ A1 q → H1[q]? = H[q]?) → va_S A0 H0 H1 locs1 → ∃ k n : Nat, q9newB H H1 k n ∧ W p l e R s m args below meth c H1 locs1 (cells + k) (slots + n) Q (F0 m (pc + 3) ls (v.toList ++ rest))) : W p l e R s m args below meth c H locs cells slots Q (F0 m pc ls st0) := by
  intro T hT X
  obtain ⟨v, st₀, t, T', L, h0, X', hL, e1, e2, ⟨⟨v', hv, hp⟩, hF⟩, st⟩ := hr T hT X
  cases hv
  obtain ⟨k1, k2, k3⟩ := vx_keep h0 e1 hS hA hf hL hF
  obtain ⟨k, n, hB, kk⟩ := kk v st₀ t T'.heap (locs ++ L) h0 e1.symm hp k1 k2 k3
  obtain ⟨t2, a1, b1⟩ := kk T' rfl (q9stand_newB X X' (by rw [hT]; exact hB))
  exact ⟨t2, st t2 a1, b1⟩
theorem q9vx_callG {pc : Nat} {ls : Array Slot} {rest st0 : List Value} {a : Array Value} {A0 A1 : Nat → Prop} {H : Heap} {locs : List Loc} {cells slots mc ms : Nat} {free : Addr → Prop} {P : Option Value → State → State → Prop} {XC : String → State → State → Prop} (hr : vx_Run p l e R s m args below meth c H locs cells slots mc ms (F0 m pc ls st0) rest (q9QV P A1 a) XC free) (hS : va_S A0 H0 H locs) (hA : ∀ q, q < H.size → A1 q → A0 q) (hf : ∀ q, free q → A0 q) (hXF : ∀ E st t, XC E st t → va_F A1 st t)
    (kx : ∀ (E : String) (ce : Cell) (q9 : Addr) (st t : State) (H1 : Heap) (locs1 : List Loc), st.heap = H → t.heap = H1 → XC E st t → va_S A0 H0 H1 locs1 → H1[q9]? = some ce → ce.vm = .none → s.vm.findClass E = some ce.cls → ∃ k n : Nat, q9newB H H1 k n ∧ vx_W p l e R s m args below meth c H1 locs1 (cells + k) (slots + n) Q (F0 m pc ls rest) q9)
    (kk : ∀ (v : Option Value) (st t : State) (H1 : Heap) (locs1 : List Loc), st.heap = H → t.heap = H1 → P v st t → H.size ≤ H1.size → (∀ q : Nat, q < H.size → ¬ A1 q → H1[q]? = H[q]?) → va_S A0 H0 H1 locs1 → ∃ k n : Nat, q9newB H H1 k n ∧ W p l e R s m args below meth c H1 locs1 (cells + k) (slots + n) Q (F0 m (pc + 3) ls (v.toList ++ rest))) : W p l e R s m args below meth c H locs cells slots Q (F0 m pc ls st0) := by
  intro T hT X
  rcases hr T hT X with ⟨v, st₀, t, T', L, h0, X', hL, e1, e2, ⟨⟨v', hv, hp⟩, hF⟩, st⟩ | ⟨q, st₀, t, T', L, E, ce, h0, X', hL, e1, e2, hxc, hce, hcv, hcl, st⟩
  · cases hv
    obtain ⟨k1, k2, k3⟩ := vx_keep h0 e1 hS hA hf hL hF
    obtain ⟨k, n, hB, kk⟩ := kk v st₀ t T'.heap (locs ++ L) h0 e1.symm hp k1 k2 k3
    obtain ⟨t2, a1, b1⟩ := kk T' rfl (q9stand_newB X X' (by rw [hT]; exact hB))
    exact ⟨t2, st t2 a1, b1⟩
  · obtain ⟨k1, k2, k3⟩ := vx_keep h0 e1 hS hA hf hL (hXF E st₀ t hxc)
    obtain ⟨k, n, hB, kx⟩ := kx E ce q st₀ t T'.heap (locs ++ L) h0 e1.symm hxc k3 (by rw [e1]; exact hce) hcv hcl
    obtain ⟨t2, a1, b1⟩ := kx T' rfl (q9stand_newB X X' (by rw [hT]; exact hB))
    exact ⟨t2, st.trans a1, b1⟩
end CL
