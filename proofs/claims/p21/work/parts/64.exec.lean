variable {O : ORC}
/-! instructions that leave the heap alone -/
section EXP
variable {p : Program} {l : Launch} {e : Env} {R : Room} {ko : Nat × Nat} {s : State} {m : MethodId} {args : Array Value} {below : List Frame} {meth : Method} {c : Code} {Q : State → Prop} {cc : ByteArray}
/-- from every machine state that x pictures, at pc, the machine comes to Q -/
noncomputable def q9GO (O : ORC) (p : Program) (l : Launch) (e : Env) (R : Room) (ko : Nat × Nat) (s : State) (m : MethodId) (args : Array Value) (below : List Frame) (meth : Method) (c : Code) (Q : State → Prop) (nL : Nat) (g : List Value) (WP : q9GH → va_W → Heap → List Loc → Prop) (pc : Nat) (x : q9ST) (r : Nat → Value) : Prop :=
  ∀ (G : q9GH) (ws : va_W) (H : Heap) (locs : List Loc) (ls : Array Slot) (st : List Value), q9SM O nL g x r G ws ls st → WP G ws H locs → W p l e R s m args below meth c H locs (ko.1 + q9tN x) (ko.2 + q9tM x) Q (F0 m pc ls st)
noncomputable def q9NX (O : ORC) (p : Program) (l : Launch) (e : Env) (R : Room) (ko : Nat × Nat) (s : State) (m : MethodId) (args : Array Value) (below : List Frame) (meth : Method) (c : Code) (Q : State → Prop) (nL : Nat) (g : List Value) (WP : q9GH → va_W → Heap → List Loc → Prop) (ss : List (Nat × q9ST)) (x : q9ST) (r : Nat → Value) : Prop :=
  ∀ q ∈ ss, ∀ r' : Nat → Value, q9agr (q9tE x).length r r' → (q9tE x).length ≤ (q9tE q.2).length → q9GO O p l e R ko s m args below meth c Q nL g WP q.1 q.2 r'
/-- a row that only changes the stack -/
noncomputable def q9RW (p : Program) (l : Launch) (e : Env) (R : Room) (s : State) (m : MethodId) (args : Array Value) (below : List Frame) (meth : Method) (c : Code) (Q : State → Prop) (pc pc' : Nat) (a b : List Value) : Prop :=
  ∀ (H : Heap) (locs : List Loc) (cells slots : Nat) (ls : Array Slot) (rest : List Value), W p l e R s m args below meth c H locs cells slots Q (F0 m pc' ls (b ++ rest)) → W p l e R s m args below meth c H locs cells slots Q (F0 m pc ls (a ++ rest))
variable {nL : Nat} {g : List Value} {WP : q9GH → va_W → Heap → List Loc → Prop}
theorem q9NX.one {pc' : Nat} {x x' : q9ST} {r : Nat → Value} (h : q9NX O p l e R ko s m args below meth c Q nL g WP [(pc', x')] x r) {r' : Nat → Value} (ha : q9agr (q9tE x).length r r') (hl : (q9tE x).length ≤ (q9tE x').length) : q9GO O p l e R ko s m args below meth c Q nL g WP pc' x' r' :=
  h (pc', x') List.mem_cons_self r' ha hl
noncomputable def q9zeroB_o (x : q9ST) : Bool := match (q9tE x)[0]? with
  | some t => decide (t.1 = 0) && (decide (t.2.1 = 0) && decide (t.2.2 = 0))
  | none => false
noncomputable def q9zeroB (x : q9ST) : Bool := match (q9ge9 (q9tE x) (0)) with
  | some t => q9nd9 ((q9de9 (t.1) (0))) ((q9nd9 ((q9de9 (t.2.1) (0))) ((q9de9 (t.2.2) (0)))))
  | none => false
theorem q9zeroB_oq : @q9zeroB = @q9zeroB_o := by
  delta q9zeroB q9zeroB_o
  simp only [q9ge9_eq, q9fi9_eq, q9an9_eq, q9al9_eq, q9flt9_eq, q9el9_eq, q9set9_eq, q9ln9_eq, q9gD9_eq, q9ap9_eq, q9eq9_N, q9eq9_I, q9eq9_A, q9eq9_E, q9eq9_OI, q9eq9_ON, q9eq9_OA, q9eq9_L, q9eq9_S, q9de9_N, q9de9_I, q9de9_A, q9le9_N, q9le9_I, q9lt9_N, q9lt9_I, q9de9_E, q9de9_OI, q9de9_ON, q9de9_OA, q9de9_L, q9nd9_eq, q9or9_eq, Bool.cond_decide]
theorem q9zero_at {x : q9ST} (h : q9zeroB x = true) : (q9tE x)[0]? = some (0, 0, 0) := by
  (rewrite [q9zeroB_oq] at h; unfold q9zeroB_o at h)
  cases hE : (q9tE x)[0]? with
  | none => rw [hE] at h; cases h
  | some t =>
    obtain ⟨a, b, d⟩ := t
    rw [hE] at h
    simp only [Bool.and_eq_true, decide_eq_true_eq] at h
    rw [h.1, h.2.1, h.2.2]
theorem q9zero_ev {G : q9GH} {E : List q9ET} {r : Nat → Value} (hS : q9SAT G E r) (h : E[0]? = some (0, 0, 0)) (n : Int) : q9ev r (0, n) = .int (Int32.ofInt n) := by
  obtain ⟨z, e1, e2, e3⟩ := hS 0 _ h
  have hz : z = 0 := Int32.toInt_inj.mp (by have e2 : 0 ≤ z.toInt := e2; have e3 : z.toInt ≤ 0 := e3; rw [Int32.toInt_zero]; omega)
  unfold q9ev
  show (match r 0 with | .int x => _ | v => v) = _
  rw [e1, hz]
  show Value.int (0 + Int32.ofInt n) = _
  rw [Int32.zero_add]
theorem q9nv32 {n : Int} (h1 : -2147483648 ≤ n) (h2 : n ≤ 2147483647) : q9nv (.int (Int32.ofInt n)) = n := q9ofInt_toInt32 h1 h2
noncomputable def q9cst (x : q9ST) (n : Int) (pc' : Nat) : Option (List (Nat × q9ST)) := if q9zeroB x then some [(pc', q9sS x ((0, n) :: q9tS x))] else none
theorem q9cst_ok {x : q9ST} {r : Nat → Value} {n : Int} {pc pc' : Nat} {ss : List (Nat × q9ST)} (h : q9cst x n pc' = some ss) (hn : q9NX O p l e R ko s m args below meth c Q nL g WP ss x r) (row : q9RW p l e R s m args below meth c Q pc pc' [] [.int (Int32.ofInt n)]) : q9GO O p l e R ko s m args below meth c Q nL g WP pc x r := by
  unfold q9cst at h
  split at h
  · rename_i hz
    cases h
    intro G ws H locs ls st hM hW
    have k := hn.one q9agr.rf (Nat.le_refl _) G ws H locs ls _ (hM.S ((0, n) :: q9tS x)) hW
    rw [List.map_cons, q9zero_ev hM.2.2.2.1 (q9zero_at hz), ← hM.2.1] at k
    exact row H locs _ _ ls st k
  · cases h
/-- a value of the frame onto the stack -/
noncomputable def q9ld_o (x : q9ST) (i : Nat) (ok : Nat → Bool) (pc' : Nat) : Option (List (Nat × q9ST)) := match q9lk (q9tL x) i with
  | some a => (match (q9tE x)[a.1]? with
    | some t => if ok t.1 then some [(pc', q9sS x (a :: q9tS x))] else none
    | none => none)
  | none => none
noncomputable def q9ld (x : q9ST) (i : Nat) (ok : Nat → Bool) (pc' : Nat) : Option (List (Nat × q9ST)) := match q9lk (q9tL x) i with
  | some a => (match (q9ge9 (q9tE x) (a.1)) with
    | some t => if ok t.1 then some [(pc', q9sS x (a :: q9tS x))] else none
    | none => none)
  | none => none
theorem q9ld_oq : @q9ld = @q9ld_o := by
  delta q9ld q9ld_o
  simp only [q9ge9_eq, q9fi9_eq, q9an9_eq, q9al9_eq, q9flt9_eq, q9el9_eq, q9set9_eq, q9ln9_eq, q9gD9_eq, q9ap9_eq, q9eq9_N, q9eq9_I, q9eq9_A, q9eq9_E, q9eq9_OI, q9eq9_ON, q9eq9_OA, q9eq9_L, q9eq9_S, q9de9_N, q9de9_I, q9de9_A, q9le9_N, q9le9_I, q9lt9_N, q9lt9_I, q9de9_E, q9de9_OI, q9de9_ON, q9de9_OA, q9de9_L, q9nd9_eq, q9or9_eq, Bool.cond_decide]
theorem q9ld_ok {x : q9ST} {r : Nat → Value} {i : Nat} {ok : Nat → Bool} {pc pc' : Nat} {ss : List (Nat × q9ST)} (hw : q9wfB x = true) (h : q9ld x i ok pc' = some ss) (hn : q9NX O p l e R ko s m args below meth c Q nL g WP ss x r)
    (row : ∀ (G : q9GH) (t : q9ET) (v : Value), ok t.1 = true → q9tyV G t v ∨ (t.1 = 0 ∧ ∃ y : Int32, v = .int y) → ∀ (H : Heap) (locs : List Loc) (cells slots : Nat) (ls : Array Slot) (rest : List Value), ls[i]? = some (.val v) → W p l e R s m args below meth c H locs cells slots Q (F0 m pc' ls (v :: rest)) → W p l e R s m args below meth c H locs cells slots Q (F0 m pc ls rest)) : q9GO O p l e R ko s m args below meth c Q nL g WP pc x r := by
  (rewrite [q9ld_oq] at h; unfold q9ld_o at h)
  cases ha : q9lk (q9tL x) i with
  | none => rw [ha] at h; cases h
  | some a =>
    rw [ha] at h
    dsimp only at h
    cases hE : (q9tE x)[a.1]? with
    | none => rw [hE] at h; cases h
    | some t =>
      rw [hE] at h
      dsimp only at h
      split at h
      · rename_i hok
        cases h
        intro G ws H locs ls st hM hW
        have k := hn.one q9agr.rf (Nat.le_refl _) G ws H locs ls _ (hM.S (a :: q9tS x)) hW
        rw [List.map_cons, ← hM.2.1] at k
        refine row G t (q9ev r a) hok ?_ H locs _ _ ls st (hM.lk ha) k
        by_cases h0 : t.1 = 0
        · obtain ⟨tk, lo, hi⟩ := t
          have h0 : tk = 0 := h0
          subst h0
          obtain ⟨y, e1, -⟩ := q9ev_int hM.2.2.2.1 hE (q9wf_L hw _ (q9lk_mem ha))
          exact .inr ⟨rfl, y, e1⟩
        · exact .inl (q9ev_ref hM.2.2.2.1 hE h0).2
      · cases h
/-- a value of the stack into the frame; q9two: whether it takes q9two slots -/
noncomputable def q9stL_o (x : q9ST) (i : Nat) (a : q9AV) (q9two : Bool) : List (Nat × q9AV) :=
  (i, a) :: (q9tL x).filter (fun q => !(q.1 == i) && (!(q9two && q.1 == i + 1) && !(q.1 + 1 == i && (match (q9tE x)[q.2.1]? with | some t => t.1 == 1 | none => true))))
noncomputable def q9stL (x : q9ST) (i : Nat) (a : q9AV) (q9two : Bool) : List (Nat × q9AV) :=
  (i, a) :: q9flt9 (q9tL x) (fun q => q9nd9 (!(q9eq9 (q.1) (i))) ((q9nd9 (!(q9nd9 (q9two) (q9eq9 (q.1) (i + 1)))) (!(q9nd9 (q9eq9 (q.1 + 1) (i)) ((match (q9ge9 (q9tE x) (q.2.1)) with | some t => q9eq9 (t.1) (1) | none => true)))))))
theorem q9stL_oq : @q9stL = @q9stL_o := by
  delta q9stL q9stL_o
  simp only [q9ge9_eq, q9fi9_eq, q9an9_eq, q9al9_eq, q9flt9_eq, q9el9_eq, q9set9_eq, q9ln9_eq, q9gD9_eq, q9ap9_eq, q9eq9_N, q9eq9_I, q9eq9_A, q9eq9_E, q9eq9_OI, q9eq9_ON, q9eq9_OA, q9eq9_L, q9eq9_S, q9de9_N, q9de9_I, q9de9_A, q9le9_N, q9le9_I, q9lt9_N, q9lt9_I, q9de9_E, q9de9_OI, q9de9_ON, q9de9_OA, q9de9_L, q9nd9_eq, q9or9_eq, Bool.cond_decide]
theorem q9cat_ev {G : q9GH} {E : List q9ET} {r : Nat → Value} (hS : q9SAT G E r) {a : q9AV} {t : q9ET} (hE : E[a.1]? = some t) (h1 : t.1 ≠ 1) (ha : q9okAV E a = true) : (q9ev r a).category = 1 := by
  obtain ⟨tk, lo, hi⟩ := t
  by_cases h0 : tk = 0
  · subst h0
    obtain ⟨y, e1, -⟩ := q9ev_int hS hE ha
    rw [e1]
    rfl
  · have h2 := (q9ev_ref hS hE h0).2
    match tk, h2, h0, h1 with
    | 2, ⟨b, _, e, _⟩, _, _ => rw [e]; rfl
    | 3, .inl e, _, _ => have e : q9ev r a = .null := e; rw [e]; rfl
    | 3, .inr ⟨b, _, e, _⟩, _, _ => rw [e]; rfl
    | 4, e, _, _ => have e : q9ev r a = .null := e; rw [e]; rfl
    | 5, ⟨b, e⟩, _, _ => rw [e]; rfl
    | _ + 6, .inl e, _, _ => have e : q9ev r a = .null := e; rw [e]; rfl
    | _ + 6, .inr ⟨b, e⟩, _, _ => rw [e]; rfl
theorem q9stL_ok {x : q9ST} {r : Nat → Value} {G : q9GH} {ws : va_W} {ls : Array Slot} {st : List Value} {i : Nat} {a : q9AV} {q9two : Bool} (hw : q9wfB x = true) (hM : q9SM O nL g x r G ws ls st) {ls' : Array Slot} {lv : List (Nat × Value)} (hl : lv_has ls' nL lv)
    (hin : ∀ q ∈ (i, q9ev r a) :: ((q9tL x).map fun q => (q.1, q9ev r q.2)).filter (fun q => !(q.1 == i) && (!(q9two && q.1 == i + 1) && !(q.1 + 1 == i && q.2.category == 2))), q ∈ lv) : q9SM O nL g (q9sL x (q9stL x i a q9two)) r G ws ls' st := by
  rw [q9stL_oq]
  refine ⟨⟨hl.1, hl.2.1, fun q hq => hl.2.2 q (hin q ?_)⟩, hM.2⟩
  obtain ⟨z, hz, rfl⟩ := List.mem_map.mp hq
  rcases List.mem_cons.mp hz with rfl | hz
  · exact List.mem_cons_self
  · obtain ⟨h1, h2⟩ := List.mem_filter.mp hz
    refine List.mem_cons_of_mem _ (List.mem_filter.mpr ⟨List.mem_map.mpr ⟨z, h1, rfl⟩, ?_⟩)
    simp only [Bool.and_eq_true, Bool.not_eq_true', Bool.and_eq_false_iff] at h2 ⊢
    refine ⟨h2.1, h2.2.1, ?_⟩
    rcases h2.2.2 with h3 | h3
    · exact .inl h3
    · right
      cases hE : (q9tE x)[z.2.1]? with
      | none => rw [hE] at h3; cases h3
      | some t =>
        rw [hE] at h3
        dsimp only at h3
        rw [q9cat_ev hM.2.2.2.1 hE (by simpa using h3) (q9wf_L hw z h1)]
        rfl
noncomputable def q9hiS (q9two : Bool) (i : Nat) : Nat := if q9two then i + 1 else i
noncomputable def q9sto_o (x : q9ST) (i nL : Nat) (ok : Nat → Bool) (q9two : Bool) (pc' : Nat) : Option (List (Nat × q9ST)) := match q9tS x with
  | a :: rest => (match (q9tE x)[a.1]? with
    | some t => if ok t.1 && decide (q9hiS q9two i < nL) then some [(pc', q9sS (q9sL x (q9stL x i a q9two)) rest)] else none
    | none => none)
  | [] => none
noncomputable def q9sto (x : q9ST) (i nL : Nat) (ok : Nat → Bool) (q9two : Bool) (pc' : Nat) : Option (List (Nat × q9ST)) := match q9tS x with
  | a :: rest => (match (q9ge9 (q9tE x) (a.1)) with
    | some t => if q9nd9 (ok t.1) ((q9lt9 (q9hiS q9two i) (nL))) then some [(pc', q9sS (q9sL x (q9stL x i a q9two)) rest)] else none
    | none => none)
  | [] => none
theorem q9sto_oq : @q9sto = @q9sto_o := by
  delta q9sto q9sto_o
  simp only [q9ge9_eq, q9fi9_eq, q9an9_eq, q9al9_eq, q9flt9_eq, q9el9_eq, q9set9_eq, q9ln9_eq, q9gD9_eq, q9ap9_eq, q9eq9_N, q9eq9_I, q9eq9_A, q9eq9_E, q9eq9_OI, q9eq9_ON, q9eq9_OA, q9eq9_L, q9eq9_S, q9de9_N, q9de9_I, q9de9_A, q9le9_N, q9le9_I, q9lt9_N, q9lt9_I, q9de9_E, q9de9_OI, q9de9_ON, q9de9_OA, q9de9_L, q9nd9_eq, q9or9_eq, Bool.cond_decide]
theorem q9sto_ok {x : q9ST} {r : Nat → Value} {i : Nat} {ok : Nat → Bool} {q9two : Bool} {pc pc' : Nat} {ss : List (Nat × q9ST)} (hw : q9wfB x = true) (h : q9sto x i nL ok q9two pc' = some ss) (hn : q9NX O p l e R ko s m args below meth c Q nL g WP ss x r)
    (row : ∀ (G : q9GH) (t : q9ET) (v : Value), ok t.1 = true → q9tyV G t v ∨ (t.1 = 0 ∧ ∃ y : Int32, v = .int y) → q9hiS q9two i < nL → ∀ (H : Heap) (locs : List Loc) (cells slots : Nat) (ls : Array Slot) (rest : List Value) (lv : List (Nat × Value)), lv_has ls nL lv → (∀ ls' : Array Slot, lv_has ls' nL ((i, v) :: lv.filter (fun q => !(q.1 == i) && (!(q9two && q.1 == i + 1) && !(q.1 + 1 == i && q.2.category == 2)))) → W p l e R s m args below meth c H locs cells slots Q (F0 m pc' ls' rest)) → W p l e R s m args below meth c H locs cells slots Q (F0 m pc ls (v :: rest))) : q9GO O p l e R ko s m args below meth c Q nL g WP pc x r := by
  (rewrite [q9sto_oq] at h; unfold q9sto_o at h)
  cases hT : q9tS x with
  | nil => rw [hT] at h; cases h
  | cons a rest =>
    rw [hT] at h
    dsimp only at h
    cases hE : (q9tE x)[a.1]? with
    | none => rw [hE] at h; cases h
    | some t =>
      rw [hE] at h
      dsimp only at h
      split at h
      · rename_i hok
        cases h
        rw [Bool.and_eq_true, decide_eq_true_eq] at hok
        intro G ws H locs ls st hM hW
        have ha : q9okAV (q9tE x) a = true := q9wf_S hw a (by rw [hT]; exact List.mem_cons_self)
        have hst := hM.2.1
        rw [hT, List.map_cons] at hst
        rw [hst]
        refine row G t (q9ev r a) hok.1 ?_ hok.2 H locs _ _ ls _ _ hM.1 fun ls' hl => ?_
        · by_cases h0 : t.1 = 0
          · obtain ⟨tk, lo, hi⟩ := t
            have h0 : tk = 0 := h0
            subst h0
            obtain ⟨y, e1, -⟩ := q9ev_int hM.2.2.2.1 hE ha
            exact .inr ⟨rfl, y, e1⟩
          · exact .inl (q9ev_ref hM.2.2.2.1 hE h0).2
        · have h9 := q9stL_ok (q9two := q9two) hw hM hl (fun q hq => hq)
          exact hn.one q9agr.rf (Nat.le_refl _) G ws H locs ls' _ (h9.S rest) hW
      · cases h
/-- an operation over the top of the stack -/
noncomputable def q9bin (x : q9ST) (o : Nat) (pc' : Nat) : Option (List (Nat × q9ST)) := match q9tS x with
  | b :: a :: rest => (match q9tyop o (q9tE x) a b with
    | some t => some [(pc', q9sS (q9res x o a b t).1 ((q9res x o a b t).2 :: rest))]
    | none => none)
  | _ => none
noncomputable def q9un (x : q9ST) (o : Nat) (pc' : Nat) : Option (List (Nat × q9ST)) := match q9tS x with
  | a :: rest => (match q9tyop o (q9tE x) a a with
    | some t => some [(pc', q9sS (q9res x o a a t).1 ((q9res x o a a t).2 :: rest))]
    | none => none)
  | _ => none
theorem q9bin_ok {x : q9ST} {r : Nat → Value} {o : Nat} {pc pc' : Nat} {ss : List (Nat × q9ST)} (hw : q9wfB x = true) (h : q9bin x o pc' = some ss) (hn : q9NX O p l e R ko s m args below meth c Q nL g WP ss x r)
    (row : ∀ a b v : Value, q9exop O o a b = some v → (o = 3 ∨ o = 4 → ∃ y : Int32, b = .int y ∧ ¬ y = 0) → (o = 23 → ∃ y : Int64, b = .long y ∧ ¬ y = 0) → q9RW p l e R s m args below meth c Q pc pc' [b, a] [v]) : q9GO O p l e R ko s m args below meth c Q nL g WP pc x r := by
  unfold q9bin at h
  split at h
  · rename_i b a rest hT
    split at h
    · rename_i t ht
      cases h
      intro G ws H locs ls st hM hW
      have ha : q9okAV (q9tE x) a = true := q9wf_S hw a (by rw [hT]; exact List.mem_cons_of_mem _ List.mem_cons_self)
      have hb : q9okAV (q9tE x) b = true := q9wf_S hw b (by rw [hT]; exact List.mem_cons_self)
      obtain ⟨⟨v, ev1, ev2⟩, hd1, hd2⟩ := q9tyop_ok hM.2.2.2.1 ha hb ht
      obtain ⟨r', g1, g2, g3, g4, -, -, g7, g8⟩ := hM.res hw ha hb ev2 ev1
      have k := hn.one g1 g2 G ws H locs ls _ (g3.S ((q9res x o a b t).2 :: rest)) hW
      have hst := hM.2.1
      rw [hT] at hst
      rw [hst]
      have he : ((q9res x o a b t).2 :: rest).map (q9ev r') = v :: rest.map (q9ev r) := by
        rw [List.map_cons, g4]
        congr 1
        exact List.map_congr_left fun q hq => g1.ev (q9wf_S hw q (by rw [hT]; exact List.mem_cons_of_mem _ (List.mem_cons_of_mem _ hq)))
      rw [he] at k
      have k : W p l e R s m args below meth c H locs (ko.1 + q9tN (q9res x o a b t).1) (ko.2 + q9tM (q9res x o a b t).1) Q (F0 m pc' ls (v :: rest.map (q9ev r))) := k
      rw [g7, g8] at k
      exact row _ _ v ev1 hd1 hd2 H locs _ _ ls (rest.map (q9ev r)) k
    · cases h
  · cases h
theorem q9un_ok {x : q9ST} {r : Nat → Value} {o : Nat} {pc pc' : Nat} {ss : List (Nat × q9ST)} (hw : q9wfB x = true) (h : q9un x o pc' = some ss) (hn : q9NX O p l e R ko s m args below meth c Q nL g WP ss x r)
    (row : ∀ a v : Value, q9exop O o a a = some v → q9RW p l e R s m args below meth c Q pc pc' [a] [v]) : q9GO O p l e R ko s m args below meth c Q nL g WP pc x r := by
  unfold q9un at h
  split at h
  · rename_i a rest hT
    split at h
    · rename_i t ht
      cases h
      intro G ws H locs ls st hM hW
      have ha : q9okAV (q9tE x) a = true := q9wf_S hw a (by rw [hT]; exact List.mem_cons_self)
      obtain ⟨⟨v, ev1, ev2⟩, -, -⟩ := q9tyop_ok hM.2.2.2.1 ha ha ht
      obtain ⟨r', g1, g2, g3, g4, -, -, g7, g8⟩ := hM.res hw ha ha ev2 ev1
      have k := hn.one g1 g2 G ws H locs ls _ (g3.S ((q9res x o a a t).2 :: rest)) hW
      have hst := hM.2.1
      rw [hT] at hst
      rw [hst]
      have he : ((q9res x o a a t).2 :: rest).map (q9ev r') = v :: rest.map (q9ev r) := by
        rw [List.map_cons, g4]
        congr 1
        exact List.map_congr_left fun q hq => g1.ev (q9wf_S hw q (by rw [hT]; exact List.mem_cons_of_mem _ hq))
      rw [he] at k
      have k : W p l e R s m args below meth c H locs (ko.1 + q9tN (q9res x o a a t).1) (ko.2 + q9tM (q9res x o a a t).1) Q (F0 m pc' ls (v :: rest.map (q9ev r))) := k
      rw [g7, g8] at k
      exact row _ v ev1 H locs _ _ ls (rest.map (q9ev r)) k
    · cases h
  · cases h
noncomputable def q9isInt_o (x : q9ST) (a : q9AV) : Bool := match (q9tE x)[a.1]? with
  | some t => t.1 == 0
  | none => false
noncomputable def q9isInt (x : q9ST) (a : q9AV) : Bool := match (q9ge9 (q9tE x) (a.1)) with
  | some t => q9eq9 (t.1) (0)
  | none => false
theorem q9isInt_oq : @q9isInt = @q9isInt_o := by
  delta q9isInt q9isInt_o
  simp only [q9ge9_eq, q9fi9_eq, q9an9_eq, q9al9_eq, q9flt9_eq, q9el9_eq, q9set9_eq, q9ln9_eq, q9gD9_eq, q9ap9_eq, q9eq9_N, q9eq9_I, q9eq9_A, q9eq9_E, q9eq9_OI, q9eq9_ON, q9eq9_OA, q9eq9_L, q9eq9_S, q9de9_N, q9de9_I, q9de9_A, q9le9_N, q9le9_I, q9lt9_N, q9lt9_I, q9de9_E, q9de9_OI, q9de9_ON, q9de9_OA, q9de9_L, q9nd9_eq, q9or9_eq, Bool.cond_decide]
theorem q9isInt_ok {x : q9ST} {r : Nat → Value} {G : q9GH} (hS : q9SAT G (q9tE x) r) {a : q9AV} (ha : q9okAV (q9tE x) a = true) (h : q9isInt x a = true) : ∃ y : Int32, q9ev r a = .int y := by
  (rewrite [q9isInt_oq] at h; unfold q9isInt_o at h)
  cases hE : (q9tE x)[a.1]? with
  | none => rw [hE] at h; cases h
  | some t =>
    obtain ⟨tk, lo, hi⟩ := t
    rw [hE] at h
    have h0 : tk = 0 := by simpa using h
    subst h0
    obtain ⟨y, e1, -⟩ := q9ev_int hS hE ha
    exact ⟨y, e1⟩
/-- a known number added: the symbol stays -/
noncomputable def q9addc_o (x : q9ST) (a : q9AV) (n : Int) : Option q9AV := if q9isInt x a && q9okAV (q9tE x) (a.1, a.2 + n) then some (a.1, a.2 + n) else none
noncomputable def q9addc (x : q9ST) (a : q9AV) (n : Int) : Option q9AV := if q9nd9 (q9isInt x a) (q9okAV (q9tE x) (a.1, a.2 + n)) then some (a.1, a.2 + n) else none
theorem q9addc_oq : @q9addc = @q9addc_o := by
  delta q9addc q9addc_o
  simp only [q9ge9_eq, q9fi9_eq, q9an9_eq, q9al9_eq, q9flt9_eq, q9el9_eq, q9set9_eq, q9ln9_eq, q9gD9_eq, q9ap9_eq, q9eq9_N, q9eq9_I, q9eq9_A, q9eq9_E, q9eq9_OI, q9eq9_ON, q9eq9_OA, q9eq9_L, q9eq9_S, q9de9_N, q9de9_I, q9de9_A, q9le9_N, q9le9_I, q9lt9_N, q9lt9_I, q9de9_E, q9de9_OI, q9de9_ON, q9de9_OA, q9de9_L, q9nd9_eq, q9or9_eq, Bool.cond_decide]
theorem q9addc_ok {x : q9ST} {r : Nat → Value} {G : q9GH} (hS : q9SAT G (q9tE x) r) {a b : q9AV} {n : Int} (ha : q9okAV (q9tE x) a = true) (h : q9addc x a n = some b) : ∃ y : Int32, q9ev r a = .int y ∧ q9ev r b = .int (y + Int32.ofInt n) := by
  (rewrite [q9addc_oq] at h; unfold q9addc_o at h)
  split at h
  · rename_i hc
    cases h
    rw [Bool.and_eq_true] at hc
    have hi := hc.1
    (rewrite [q9isInt_oq] at hi; unfold q9isInt_o at hi)
    cases hE : (q9tE x)[a.1]? with
    | none => rw [hE] at hi; cases hi
    | some t =>
      obtain ⟨tk, lo, hi'⟩ := t
      rw [hE] at hi
      have h0 : tk = 0 := by simpa using hi
      subst h0
      obtain ⟨z, e1, -⟩ := hS a.1 _ hE
      refine ⟨z + Int32.ofInt a.2, ?_, ?_⟩
      · unfold q9ev
        rw [e1]
      · unfold q9ev
        show (match r a.1 with | .int x => Value.int (x + Int32.ofInt (a.2 + n)) | v => v) = _
        rw [e1]
        show Value.int (z + Int32.ofInt (a.2 + n)) = _
        rw [Int32.ofInt_add, Int32.add_assoc]
  · cases h
end EXP
