variable {O : ORC}
/-! branches, sums with known numbers, switches -/
theorem q9lcmp_cmp {k : Nat} {x y : Int64} (h : q9cmpZ k (lg_cmp x y).toInt 0) : q9cmpZ k x.toInt y.toInt := by
  have hx : x.toInt = y.toInt ∨ x.toInt < y.toInt ∨ y.toInt < x.toInt := by omega
  have key : (x.toInt = y.toInt → (lg_cmp x y).toInt = 0) ∧ (x.toInt < y.toInt → (lg_cmp x y).toInt = -1) ∧ (y.toInt < x.toInt → (lg_cmp x y).toInt = 1) := by
    unfold lg_cmp
    refine ⟨fun q => ?_, fun q => ?_, fun q => ?_⟩
    · have e : x = y := Int64.toInt_inj.mp q
      subst e
      rw [if_neg (by intro z; rw [gt_iff_lt, Int64.lt_iff_toInt_lt] at z; omega), if_pos rfl]
      rfl
    · rw [if_neg (by intro z; rw [gt_iff_lt, Int64.lt_iff_toInt_lt] at z; omega), if_neg (by intro z; rw [z] at q; omega)]
      rfl
    · rw [if_pos (by rw [gt_iff_lt, Int64.lt_iff_toInt_lt]; exact q)]
      rfl
  obtain ⟨k1, k2, k3⟩ := key
  match k, h with
  | 0, h =>
    have h : (lg_cmp x y).toInt = 0 := h
    show x.toInt = y.toInt
    omega
  | 1, h =>
    have h : (lg_cmp x y).toInt ≠ 0 := h
    show x.toInt ≠ y.toInt
    omega
  | 2, h =>
    have h : (lg_cmp x y).toInt < 0 := h
    show x.toInt < y.toInt
    omega
  | 3, h =>
    have h : 0 ≤ (lg_cmp x y).toInt := h
    show y.toInt ≤ x.toInt
    omega
  | 4, h =>
    have h : 0 < (lg_cmp x y).toInt := h
    show y.toInt < x.toInt
    omega
  | _ + 5, h =>
    have h : (lg_cmp x y).toInt ≤ 0 := h
    show x.toInt ≤ y.toInt
    omega
theorem q9rfl2_ok {nL : Nat} {g : List Value} {x : q9ST} {r : Nat → Value} {G : q9GH} {ws : va_W} {ls : Array Slot} {st : List Value} (h : q9SM O nL g x r G ws ls st) {k : Nat} {a b : q9AV} (hc : q9cmpZ k (q9nv (q9ev r a)) (q9nv (q9ev r b))) : ∃ x', q9rfl2 x k a b = some x' ∧ q9more G r x x' := by
  (rewrite [q9rfl2_oq]; unfold q9rfl2_o)
  split
  · rename_i q hq
    have h1 := List.find?_some hq
    have h2 := List.mem_of_find?_eq_some hq
    simp only [Bool.and_eq_true, beq_iff_eq] at h1
    split
    · rename_i hh
      obtain ⟨c1, c2, c3, c4, c5⟩ := hh
      have hX := h.2.2.2.2.2.2.2 q h2
      unfold q9EXok at hX
      rw [h1.1] at hX
      refine q9rfn_ok h c3 c4 ?_
      have ea : q9ev r a = r a.1 := by
        obtain ⟨a1, a2⟩ := a
        have c1 : a2 = 0 := c1
        subst c1
        exact q9ev_zero
      have eb : q9nv (q9ev r b) = 0 := by
        rw [c2, q9zero_ev h.2.2.2.1 c5]
        rfl
      rw [eb, ea, ← h1.2] at hc
      cases e1 : q9ev r q.2.1 with
      | long u =>
        rw [e1] at hX
        cases e2 : q9ev r q.2.2.1 with
        | long w =>
          rw [e2] at hX
          have hX : some (Value.int (lg_cmp u w)) = some (r q.2.2.2) := hX
          rw [← Option.some.inj hX] at hc
          exact q9lcmp_cmp hc
        | _ => rw [e2] at hX; cases hX
      | _ => rw [e1] at hX; cases hX
    · exact ⟨x, rfl, q9more.rf h⟩
  · exact ⟨x, rfl, q9more.rf h⟩
noncomputable def q9rf2 (x : q9ST) (k : Nat) (a b : q9AV) : Option q9ST := match q9rfn x k a b with
  | none => none
  | some x1 => q9rfl2 x1 k a b
theorem q9rf2_ok {nL : Nat} {g : List Value} {x : q9ST} {r : Nat → Value} {G : q9GH} {ws : va_W} {ls : Array Slot} {st : List Value} (h : q9SM O nL g x r G ws ls st) {k : Nat} {a b : q9AV} (ha : q9okAV (q9tE x) a = true) (hb : q9okAV (q9tE x) b = true) (hc : q9cmpZ k (q9nv (q9ev r a)) (q9nv (q9ev r b))) : ∃ x', q9rf2 x k a b = some x' ∧ q9more G r x x' := by
  obtain ⟨x1, e1, m1⟩ := q9rfn_ok h ha hb hc
  obtain ⟨x2, e2, m2⟩ := q9rfl2_ok (q9more.SM h m1) hc
  refine ⟨x2, ?_, m1.tr m2⟩
  unfold q9rf2
  rw [e1]
  exact e2
theorem q9more.len {x x' : q9ST} {r : Nat → Value} {G : q9GH} (h : q9more G r x x') : (q9tE x').length = (q9tE x).length ∧ q9tS x' = q9tS x ∧ q9tN x' = q9tN x ∧ q9tM x' = q9tM x := by
  obtain ⟨E, C, rfl, h1, -⟩ := h
  exact ⟨h1, rfl, rfl, rfl⟩
noncomputable def q9opt (pc : Nat) (x : Option q9ST) : List (Nat × q9ST) := match x with
  | some y => [(pc, y)]
  | none => []
noncomputable def q9tgt (pc : Nat) (off : Int) : Option Nat := if 0 ≤ (pc : Int) + off then some ((pc : Int) + off).toNat else none
theorem q9tgt_ok {pc t : Nat} {off : Int} (h : q9tgt pc off = some t) : (pc : Int) + off = (t : Int) := by
  unfold q9tgt at h
  split at h
  · cases h
    omega
  · cases h
section EXB
variable {p : Program} {l : Launch} {e : Env} {R : Room} {ko : Nat × Nat} {s : State} {m : MethodId} {args : Array Value} {below : List Frame} {meth : Method} {c : Code} {Q : State → Prop} {cc : ByteArray}
variable {nL : Nat} {g : List Value} {WP : q9GH → va_W → Heap → List Loc → Prop}
/-- a refined state, taken on -/
theorem q9go_opt {x x0 : q9ST} {r : Nat → Value} {ss : List (Nat × q9ST)} (hn : q9NX O p l e R ko s m args below meth c Q nL g WP ss x r) {y : Option q9ST} {pc' : Nat} (hs : ∀ q ∈ q9opt pc' y, q ∈ ss) (h0 : (q9tE x0).length = (q9tE x).length) {x' : q9ST} (hy : y = some x') {G : q9GH} {ws : va_W} {H : Heap} {locs : List Loc} {ls : Array Slot} {st : List Value} (hM : q9SM O nL g x0 r G ws ls st) (hm : q9more G r x0 x') (hW : WP G ws H locs) (hN : q9tN x0 = q9tN x) (hN2 : q9tM x0 = q9tM x) : W p l e R s m args below meth c H locs (ko.1 + q9tN x) (ko.2 + q9tM x) Q (F0 m pc' ls st) := by
  subst hy
  obtain ⟨m1, m2, m3, m4⟩ := hm.len
  have k := hn (pc', x') (hs _ List.mem_cons_self) r q9agr.rf (by rw [m1, h0]; exact Nat.le_refl _) G ws H locs ls st (q9more.SM hM hm) hW
  rw [m3, m4, hN, hN2] at k
  exact k
noncomputable def q9br2_o (x : q9ST) (k t pc' : Nat) : Option (List (Nat × q9ST)) := match q9tS x with
  | b :: a :: rest => if q9isInt x a && q9isInt x b then some (q9opt t (q9rf2 (q9sS x rest) k a b) ++ q9opt pc' (q9rf2 (q9sS x rest) (q9negK k) a b)) else none
  | _ => none
noncomputable def q9br2 (x : q9ST) (k t pc' : Nat) : Option (List (Nat × q9ST)) := match q9tS x with
  | b :: a :: rest => if q9nd9 (q9isInt x a) (q9isInt x b) then some ((q9ap9 (q9opt t (q9rf2 (q9sS x rest) k a b)) (q9opt pc' (q9rf2 (q9sS x rest) (q9negK k) a b)))) else none
  | _ => none
theorem q9br2_oq : @q9br2 = @q9br2_o := by
  delta q9br2 q9br2_o
  simp only [q9ge9_eq, q9fi9_eq, q9an9_eq, q9al9_eq, q9flt9_eq, q9el9_eq, q9set9_eq, q9ln9_eq, q9gD9_eq, q9ap9_eq, q9eq9_N, q9eq9_I, q9eq9_A, q9eq9_E, q9eq9_OI, q9eq9_ON, q9eq9_OA, q9eq9_L, q9eq9_S, q9de9_N, q9de9_I, q9de9_A, q9le9_N, q9le9_I, q9lt9_N, q9lt9_I, q9de9_E, q9de9_OI, q9de9_ON, q9de9_OA, q9de9_L, q9nd9_eq, q9or9_eq, Bool.cond_decide]
theorem q9br2_ok {x : q9ST} {r : Nat → Value} {k t pc pc' : Nat} {ss : List (Nat × q9ST)} (hw : q9wfB x = true) (h : q9br2 x k t pc' = some ss) (hn : q9NX O p l e R ko s m args below meth c Q nL g WP ss x r)
    (row : ∀ (u v : Int32) (H : Heap) (locs : List Loc) (cells slots : Nat) (ls : Array Slot) (rest : List Value), (q9cmpZ k u.toInt v.toInt → W p l e R s m args below meth c H locs cells slots Q (F0 m t ls rest)) → (¬ q9cmpZ k u.toInt v.toInt → W p l e R s m args below meth c H locs cells slots Q (F0 m pc' ls rest)) → W p l e R s m args below meth c H locs cells slots Q (F0 m pc ls (.int v :: .int u :: rest))) : q9GO O p l e R ko s m args below meth c Q nL g WP pc x r := by
  (rewrite [q9br2_oq] at h; unfold q9br2_o at h)
  split at h
  · rename_i b a rest hT
    split at h
    · rename_i hi
      cases h
      rw [Bool.and_eq_true] at hi
      intro G ws H locs ls st hM hW
      have ha : q9okAV (q9tE x) a = true := q9wf_S hw a (by rw [hT]; exact List.mem_cons_of_mem _ List.mem_cons_self)
      have hb : q9okAV (q9tE x) b = true := q9wf_S hw b (by rw [hT]; exact List.mem_cons_self)
      obtain ⟨u, eu⟩ := q9isInt_ok hM.2.2.2.1 ha hi.1
      obtain ⟨v, ew⟩ := q9isInt_ok hM.2.2.2.1 hb hi.2
      have hst := hM.2.1
      rw [hT, List.map_cons, List.map_cons, eu, ew] at hst
      rw [hst]
      have h9 := hM.S rest
      refine row u v H locs _ _ ls _ (fun hc => ?_) (fun hc => ?_)
      · obtain ⟨x', e1, m1⟩ := q9rf2_ok h9 (k := k) (a := a) (b := b) ha hb (by rw [eu, ew]; exact hc)
        exact q9go_opt (x0 := q9sS x rest) hn (fun q hq => List.mem_append_left _ hq) rfl e1 h9 m1 hW rfl rfl
      · obtain ⟨x', e1, m1⟩ := q9rf2_ok h9 (k := q9negK k) (a := a) (b := b) ha hb (by rw [eu, ew]; exact q9cmp_neg hc)
        exact q9go_opt (x0 := q9sS x rest) hn (fun q hq => List.mem_append_right _ hq) rfl e1 h9 m1 hW rfl rfl
    · cases h
  · cases h
noncomputable def q9br1_o (x : q9ST) (k t pc' : Nat) : Option (List (Nat × q9ST)) := match q9tS x with
  | a :: rest => if q9isInt x a && q9zeroB x then some (q9opt t (q9rf2 (q9sS x rest) k a (0, 0)) ++ q9opt pc' (q9rf2 (q9sS x rest) (q9negK k) a (0, 0))) else none
  | _ => none
noncomputable def q9br1 (x : q9ST) (k t pc' : Nat) : Option (List (Nat × q9ST)) := match q9tS x with
  | a :: rest => if q9nd9 (q9isInt x a) (q9zeroB x) then some ((q9ap9 (q9opt t (q9rf2 (q9sS x rest) k a (0, 0))) (q9opt pc' (q9rf2 (q9sS x rest) (q9negK k) a (0, 0))))) else none
  | _ => none
theorem q9br1_oq : @q9br1 = @q9br1_o := by
  delta q9br1 q9br1_o
  simp only [q9ge9_eq, q9fi9_eq, q9an9_eq, q9al9_eq, q9flt9_eq, q9el9_eq, q9set9_eq, q9ln9_eq, q9gD9_eq, q9ap9_eq, q9eq9_N, q9eq9_I, q9eq9_A, q9eq9_E, q9eq9_OI, q9eq9_ON, q9eq9_OA, q9eq9_L, q9eq9_S, q9de9_N, q9de9_I, q9de9_A, q9le9_N, q9le9_I, q9lt9_N, q9lt9_I, q9de9_E, q9de9_OI, q9de9_ON, q9de9_OA, q9de9_L, q9nd9_eq, q9or9_eq, Bool.cond_decide]
theorem q9ok0 {x : q9ST} (h : q9zeroB x = true) {n : Int} (h1 : -2147483648 ≤ n) (h2 : n ≤ 2147483647) : q9okAV (q9tE x) (0, n) = true := by
  (rewrite [q9okAV_oq]; unfold q9okAV_o)
  dsimp only
  rw [q9zero_at h]
  simp
  omega
theorem q9br1_ok {x : q9ST} {r : Nat → Value} {k t pc pc' : Nat} {ss : List (Nat × q9ST)} (hw : q9wfB x = true) (h : q9br1 x k t pc' = some ss) (hn : q9NX O p l e R ko s m args below meth c Q nL g WP ss x r)
    (row : ∀ (u : Int32) (H : Heap) (locs : List Loc) (cells slots : Nat) (ls : Array Slot) (rest : List Value), (q9cmpZ k u.toInt 0 → W p l e R s m args below meth c H locs cells slots Q (F0 m t ls rest)) → (¬ q9cmpZ k u.toInt 0 → W p l e R s m args below meth c H locs cells slots Q (F0 m pc' ls rest)) → W p l e R s m args below meth c H locs cells slots Q (F0 m pc ls (.int u :: rest))) : q9GO O p l e R ko s m args below meth c Q nL g WP pc x r := by
  (rewrite [q9br1_oq] at h; unfold q9br1_o at h)
  split at h
  · rename_i a rest hT
    split at h
    · rename_i hi
      cases h
      rw [Bool.and_eq_true] at hi
      intro G ws H locs ls st hM hW
      have ha : q9okAV (q9tE x) a = true := q9wf_S hw a (by rw [hT]; exact List.mem_cons_self)
      obtain ⟨u, eu⟩ := q9isInt_ok hM.2.2.2.1 ha hi.1
      have e0 : q9ev r (0, 0) = .int 0 := q9zero_ev hM.2.2.2.1 (q9zero_at hi.2) 0
      have hst := hM.2.1
      rw [hT, List.map_cons, eu] at hst
      rw [hst]
      have h9 := hM.S rest
      refine row u H locs _ _ ls _ (fun hc => ?_) (fun hc => ?_)
      · obtain ⟨x', e1, m1⟩ := q9rf2_ok h9 (k := k) (a := a) (b := (0, 0)) ha (q9ok0 hi.2 (by omega) (by omega)) (by rw [eu, e0]; exact hc)
        exact q9go_opt (x0 := q9sS x rest) hn (fun q hq => List.mem_append_left _ hq) rfl e1 h9 m1 hW rfl rfl
      · obtain ⟨x', e1, m1⟩ := q9rf2_ok h9 (k := q9negK k) (a := a) (b := (0, 0)) ha (q9ok0 hi.2 (by omega) (by omega)) (by rw [eu, e0]; exact q9cmp_neg hc)
        exact q9go_opt (x0 := q9sS x rest) hn (fun q hq => List.mem_append_right _ hq) rfl e1 h9 m1 hW rfl rfl
    · cases h
  · cases h
/-- null or not -/
noncomputable def q9brN_o (x : q9ST) (isNull : Bool) (t pc' : Nat) : Option (List (Nat × q9ST)) := match q9tS x with
  | a :: rest => (match (q9tE x)[a.1]? with
    | some (2, cd, z) => some [(if isNull then pc' else t, q9sS x rest)]
    | some (3, cd, z) => some [(if isNull then t else pc', q9sE (q9sS x rest) ((q9tE x).set a.1 (4, 0, 0))), (if isNull then pc' else t, q9sE (q9sS x rest) ((q9tE x).set a.1 (2, cd, z)))]
    | some (4, cd, z) => some [(if isNull then t else pc', q9sS x rest)]
    | _ => none)
  | _ => none
noncomputable def q9brN (x : q9ST) (isNull : Bool) (t pc' : Nat) : Option (List (Nat × q9ST)) := match q9tS x with
  | a :: rest => (match (q9ge9 (q9tE x) (a.1)) with
    | some (2, cd, z) => some [(if isNull then pc' else t, q9sS x rest)]
    | some (3, cd, z) => some [(if isNull then t else pc', q9sE (q9sS x rest) (q9set9 (q9tE x) a.1 (4, 0, 0))), (if isNull then pc' else t, q9sE (q9sS x rest) (q9set9 (q9tE x) a.1 (2, cd, z)))]
    | some (4, cd, z) => some [(if isNull then t else pc', q9sS x rest)]
    | _ => none)
  | _ => none
theorem q9brN_oq : @q9brN = @q9brN_o := by
  delta q9brN q9brN_o
  simp only [q9ge9_eq, q9fi9_eq, q9an9_eq, q9al9_eq, q9flt9_eq, q9el9_eq, q9set9_eq, q9ln9_eq, q9gD9_eq, q9ap9_eq, q9eq9_N, q9eq9_I, q9eq9_A, q9eq9_E, q9eq9_OI, q9eq9_ON, q9eq9_OA, q9eq9_L, q9eq9_S, q9de9_N, q9de9_I, q9de9_A, q9le9_N, q9le9_I, q9lt9_N, q9lt9_I, q9de9_E, q9de9_OI, q9de9_ON, q9de9_OA, q9de9_L, q9nd9_eq, q9or9_eq, Bool.cond_decide]
theorem q9brN_ok {x : q9ST} {r : Nat → Value} {t pc pc' : Nat} {isNull : Bool} {ss : List (Nat × q9ST)} (hw : q9wfB x = true) (h : q9brN x isNull t pc' = some ss) (hn : q9NX O p l e R ko s m args below meth c Q nL g WP ss x r)
    (row1 : ∀ (u : Nat) (H : Heap) (locs : List Loc) (cells slots : Nat) (ls : Array Slot) (rest : List Value), W p l e R s m args below meth c H locs cells slots Q (F0 m (if isNull then pc' else t) ls rest) → W p l e R s m args below meth c H locs cells slots Q (F0 m pc ls (.ref u :: rest)))
    (row2 : ∀ (H : Heap) (locs : List Loc) (cells slots : Nat) (ls : Array Slot) (rest : List Value), W p l e R s m args below meth c H locs cells slots Q (F0 m (if isNull then t else pc') ls rest) → W p l e R s m args below meth c H locs cells slots Q (F0 m pc ls (.null :: rest))) : q9GO O p l e R ko s m args below meth c Q nL g WP pc x r := by
  (rewrite [q9brN_oq] at h; unfold q9brN_o at h)
  split at h
  · rename_i a rest hT
    have hset : ∀ u : q9ET, ((q9tE x).set a.1 u).length = (q9tE x).length := fun u => List.length_set ..
    split at h
    · rename_i cd z hE
      cases h
      intro G ws H locs ls st hM hW
      have hst := hM.2.1
      rw [hT, List.map_cons] at hst
      rw [hst]
      obtain ⟨-, b, nb, eb, -⟩ := q9ev_ref hM.2.2.2.1 hE (by simp)
      rw [eb]
      exact row1 b H locs _ _ ls _ (hn.one q9agr.rf (Nat.le_refl _) G ws H locs ls _ (hM.S rest) hW)
    · rename_i cd z hE
      cases h
      intro G ws H locs ls st hM hW
      have hst := hM.2.1
      rw [hT, List.map_cons] at hst
      rw [hst]
      obtain ⟨e0, hv⟩ := q9ev_ref hM.2.2.2.1 hE (by simp)
      rcases hv with eb | ⟨b, nb, eb, hm⟩
      · have e9 : r a.1 = .null := e0.symm.trans eb
        have eb : q9ev r a = .null := eb
        rw [eb]
        refine row2 H locs _ _ ls _ (hn _ List.mem_cons_self r q9agr.rf ?_ G ws H locs ls _ ((hM.S rest).E (q9set_sat hM.2.2.2.1 (t := (4, 0, 0)) e9)) hW)
        exact Nat.le_of_eq (hset _).symm
      · have e9 : r a.1 = .ref b := e0.symm.trans eb
        rw [eb]
        refine row1 b H locs _ _ ls _ (hn _ (List.mem_cons_of_mem _ List.mem_cons_self) r q9agr.rf ?_ G ws H locs ls _ ((hM.S rest).E (q9set_sat hM.2.2.2.1 (t := (2, cd, z)) ⟨b, nb, e9, hm⟩)) hW)
        exact Nat.le_of_eq (hset _).symm
    · rename_i cd z hE
      cases h
      intro G ws H locs ls st hM hW
      have hst := hM.2.1
      rw [hT, List.map_cons] at hst
      rw [hst]
      have eb : q9ev r a = .null := (q9ev_ref hM.2.2.2.1 hE (by simp)).2
      rw [eb]
      exact row2 H locs _ _ ls _ (hn.one q9agr.rf (Nat.le_refl _) G ws H locs ls _ (hM.S rest) hW)
    · cases h
  · cases h
noncomputable def q9subx (x : q9ST) (pc' : Nat) : Option (List (Nat × q9ST)) := match q9tS x with
  | b :: a :: rest => if b.1 = 0 ∧ q9zeroB x = true then (match q9addc x a (-b.2) with
      | some v => some [(pc', q9sS x (v :: rest))]
      | none => q9bin x 1 pc')
    else q9bin x 1 pc'
  | _ => none
theorem q9subx_ok {x : q9ST} {r : Nat → Value} {pc pc' : Nat} {ss : List (Nat × q9ST)} (hw : q9wfB x = true) (h : q9subx x pc' = some ss) (hn : q9NX O p l e R ko s m args below meth c Q nL g WP ss x r)
    (row : ∀ a b : Int32, q9RW p l e R s m args below meth c Q pc pc' [.int b, .int a] [.int (a - b)]) : q9GO O p l e R ko s m args below meth c Q nL g WP pc x r := by
  have hbin : q9bin x 1 pc' = some ss → q9GO O p l e R ko s m args below meth c Q nL g WP pc x r := fun h => q9bin_ok hw h hn fun a b v hv _ _ => by
    match a, b, hv with
    | .int a, .int b, hv => cases hv; exact row a b
  unfold q9subx at h
  split at h
  · rename_i b a rest hT
    have ha : q9okAV (q9tE x) a = true := q9wf_S hw a (by rw [hT]; exact List.mem_cons_of_mem _ List.mem_cons_self)
    split at h
    · rename_i hz
      split at h
      · rename_i v hv
        cases h
        intro G ws H locs ls st hM hW
        have hst := hM.2.1
        rw [hT, List.map_cons, List.map_cons] at hst
        obtain ⟨y, e1, e2⟩ := q9addc_ok hM.2.2.2.1 ha hv
        have e3 : q9ev r b = .int (Int32.ofInt b.2) := by
          have := q9zero_ev hM.2.2.2.1 (q9zero_at hz.2) b.2
          rw [show b = (0, b.2) from Prod.ext hz.1 rfl]
          exact this
        rw [hst, e1, e3]
        have k := hn.one q9agr.rf (Nat.le_refl _) G ws H locs ls _ (hM.S (v :: rest)) hW
        rw [List.map_cons, e2, Int32.ofInt_neg, ← Int32.sub_eq_add_neg] at k
        exact row y _ H locs _ _ ls _ k
      · exact hbin h
    · exact hbin h
  · cases h
end EXB
