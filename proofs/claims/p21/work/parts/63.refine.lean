variable {O : ORC}
/-! what a comparison tells -/
noncomputable def q9cutHi_o (E : List q9ET) (k : Nat) (h : Int) : Option (List q9ET) := match E[k]? with
  | some t => if t.2.2 ≤ h then some E else if t.2.1 ≤ h then some (E.set k (t.1, t.2.1, min t.2.2 h)) else none
  | none => none
noncomputable def q9cutHi (E : List q9ET) (k : Nat) (h : Int) : Option (List q9ET) := match (q9ge9 E (k)) with
  | some t => bif q9le9 (t.2.2) (h) then some E else bif q9le9 (t.2.1) (h) then some (q9set9 E k (t.1, t.2.1, min t.2.2 h)) else none
  | none => none
theorem q9cutHi_oq : @q9cutHi = @q9cutHi_o := by
  delta q9cutHi q9cutHi_o
  simp only [q9ge9_eq, q9fi9_eq, q9an9_eq, q9al9_eq, q9flt9_eq, q9el9_eq, q9set9_eq, q9ln9_eq, q9gD9_eq, q9ap9_eq, q9eq9_N, q9eq9_I, q9eq9_A, q9eq9_E, q9eq9_OI, q9eq9_ON, q9eq9_OA, q9eq9_L, q9eq9_S, q9de9_N, q9de9_I, q9de9_A, q9le9_N, q9le9_I, q9lt9_N, q9lt9_I, q9de9_E, q9de9_OI, q9de9_ON, q9de9_OA, q9de9_L, q9nd9_eq, q9or9_eq, Bool.cond_decide]
noncomputable def q9cutLo_o (E : List q9ET) (k : Nat) (l : Int) : Option (List q9ET) := match E[k]? with
  | some t => if l ≤ t.2.1 then some E else if l ≤ t.2.2 then some (E.set k (t.1, max t.2.1 l, t.2.2)) else none
  | none => none
noncomputable def q9cutLo (E : List q9ET) (k : Nat) (l : Int) : Option (List q9ET) := match (q9ge9 E (k)) with
  | some t => bif q9le9 (l) (t.2.1) then some E else bif q9le9 (l) (t.2.2) then some (q9set9 E k (t.1, max t.2.1 l, t.2.2)) else none
  | none => none
theorem q9cutLo_oq : @q9cutLo = @q9cutLo_o := by
  delta q9cutLo q9cutLo_o
  simp only [q9ge9_eq, q9fi9_eq, q9an9_eq, q9al9_eq, q9flt9_eq, q9el9_eq, q9set9_eq, q9ln9_eq, q9gD9_eq, q9ap9_eq, q9eq9_N, q9eq9_I, q9eq9_A, q9eq9_E, q9eq9_OI, q9eq9_ON, q9eq9_OA, q9eq9_L, q9eq9_S, q9de9_N, q9de9_I, q9de9_A, q9le9_N, q9le9_I, q9lt9_N, q9lt9_I, q9de9_E, q9de9_OI, q9de9_ON, q9de9_OA, q9de9_L, q9nd9_eq, q9or9_eq, Bool.cond_decide]
theorem q9set_sat {G : q9GH} {E : List q9ET} {r : Nat → Value} (hS : q9SAT G E r) {k : Nat} {t : q9ET} (ht : q9tyV G t (r k)) : q9SAT G (E.set k t) r := by
  intro j u hj
  by_cases h : j = k
  · subst h
    have hl : j < E.length := by
      have := (List.getElem?_eq_some_iff.mp hj).1
      rwa [List.length_set] at this
    rw [List.getElem?_set_self hl] at hj
    cases hj
    exact ht
  · rw [List.getElem?_set_ne (fun z => h z.symm)] at hj
    exact hS j u hj
/-- a number's symbol: its range is that of q9iv -/
theorem q9iv_rng {G : q9GH} {E : List q9ET} {r : Nat → Value} (hS : q9SAT G E r) {k : Nat} {t : q9ET} (ht : E[k]? = some t) (h : t.1 = 0 ∨ t.1 = 1) : t.2.1 ≤ q9iv r k ∧ q9iv r k ≤ t.2.2 ∧ ∀ l h' : Int, l ≤ q9iv r k → q9iv r k ≤ h' → q9tyV G (t.1, l, h') (r k) := by
  obtain ⟨tk, lo, hi⟩ := t
  have hs := hS k _ ht
  unfold q9iv
  rcases h with rfl | rfl
  · obtain ⟨x, e, h1, h2⟩ := hs
    rw [e]
    exact ⟨h1, h2, fun l h' a b => ⟨x, rfl, a, b⟩⟩
  · obtain ⟨x, e, h1, h2⟩ := hs
    rw [e]
    exact ⟨h1, h2, fun l h' a b => ⟨x, rfl, a, b⟩⟩
theorem q9cutHi_ok {G : q9GH} {E : List q9ET} {r : Nat → Value} (hS : q9SAT G E r) {k : Nat} {t : q9ET} (ht : E[k]? = some t) (hn : t.1 = 0 ∨ t.1 = 1) {h : Int} (hh : q9iv r k ≤ h) : ∃ E' : List q9ET, q9cutHi E k h = some E' ∧ q9SAT G E' r ∧ E'.length = E.length ∧ ∀ (j : Nat) (u : q9ET), E[j]? = some u → ∃ u' : q9ET, E'[j]? = some u' ∧ u'.1 = u.1 := by
  obtain ⟨h1, h2, h3⟩ := q9iv_rng hS ht hn
  (rewrite [q9cutHi_oq]; unfold q9cutHi_o)
  rw [ht]
  dsimp only
  split
  · exact ⟨E, rfl, hS, rfl, fun j u hj => ⟨u, hj, rfl⟩⟩
  rw [if_pos (by omega)]
  refine ⟨_, rfl, q9set_sat hS (h3 _ _ h1 (by omega)), List.length_set .., fun j u hj => ?_⟩
  by_cases hjk : j = k
  · subst hjk
    rw [ht] at hj
    cases hj
    exact ⟨_, List.getElem?_set_self (List.getElem?_eq_some_iff.mp ht).1, rfl⟩
  · exact ⟨u, by rw [List.getElem?_set_ne (fun z => hjk z.symm)]; exact hj, rfl⟩
theorem q9cutLo_ok {G : q9GH} {E : List q9ET} {r : Nat → Value} (hS : q9SAT G E r) {k : Nat} {t : q9ET} (ht : E[k]? = some t) (hn : t.1 = 0 ∨ t.1 = 1) {l : Int} (hh : l ≤ q9iv r k) : ∃ E' : List q9ET, q9cutLo E k l = some E' ∧ q9SAT G E' r ∧ E'.length = E.length ∧ ∀ (j : Nat) (u : q9ET), E[j]? = some u → ∃ u' : q9ET, E'[j]? = some u' ∧ u'.1 = u.1 := by
  obtain ⟨h1, h2, h3⟩ := q9iv_rng hS ht hn
  (rewrite [q9cutLo_oq]; unfold q9cutLo_o)
  rw [ht]
  dsimp only
  split
  · exact ⟨E, rfl, hS, rfl, fun j u hj => ⟨u, hj, rfl⟩⟩
  rw [if_pos (by omega)]
  refine ⟨_, rfl, q9set_sat hS (h3 _ _ (by omega) h2), List.length_set .., fun j u hj => ?_⟩
  by_cases hjk : j = k
  · subst hjk
    rw [ht] at hj
    cases hj
    exact ⟨_, List.getElem?_set_self (List.getElem?_eq_some_iff.mp ht).1, rfl⟩
  · exact ⟨u, by rw [List.getElem?_set_ne (fun z => hjk z.symm)]; exact hj, rfl⟩
theorem q9num_sym {E : List q9ET} {a : q9AV} {k : Nat} {lo hi : Int} (h : q9num E a = some (k, lo, hi)) : ∃ t : q9ET, E[a.1]? = some t ∧ (t.1 = 0 ∨ t.1 = 1) ∧ t.1 = k := by
  (rewrite [q9num_oq] at h; unfold q9num_o at h)
  cases hE : E[a.1]? with
  | none => rw [hE] at h; cases h
  | some t =>
    rw [hE] at h
    dsimp only at h
    split at h
    · rename_i h0
      cases h
      exact ⟨t, rfl, .inl h0, h0⟩
    · split at h
      · rename_i h1
        cases h
        exact ⟨t, rfl, .inr h1, h1⟩
      · cases h
/-- a is at most b + d -/
noncomputable def q9rle0_o (x : q9ST) (a b : q9AV) (d : Int) : Option q9ST := match q9num (q9tE x) a, q9num (q9tE x) b with
  | some (_, la, _), some (_, _, hb) =>
    if a.1 = b.1 then (if a.2 ≤ b.2 + d then some x else none) else
    if (q9tC x).any (fun q => q.1 == b.1 && (q.2.1 == a.1 && decide (q.2.2 + (b.2 + d - a.2) < 0))) = true then none else
    match q9cutHi (q9tE x) a.1 (hb + d - a.2) with
    | none => none
    | some E1 => match q9cutLo E1 b.1 (la - d - b.2) with
      | none => none
      | some E2 => some (if a.1 = 0 ∨ b.1 = 0 then q9sE x E2 else q9sC (q9sE x E2) ((a.1, b.1, b.2 + d - a.2) :: q9tC x))
  | _, _ => some x
noncomputable def q9rle0 (x : q9ST) (a b : q9AV) (d : Int) : Option q9ST := match q9num (q9tE x) a, q9num (q9tE x) b with
  | some (_, la, _), some (_, _, hb) =>
    bif q9de9 (a.1) (b.1) then (bif q9le9 (a.2) (b.2 + d) then some x else none) else
    if q9an9 (q9tC x) (fun q => q9nd9 (q9eq9 (q.1) (b.1)) ((q9nd9 (q9eq9 (q.2.1) (a.1)) ((q9lt9 (q.2.2 + (b.2 + d - a.2)) (0)))))) = true then none else
    match q9cutHi (q9tE x) a.1 (hb + d - a.2) with
    | none => none
    | some E1 => match q9cutLo E1 b.1 (la - d - b.2) with
      | none => none
      | some E2 => some (if a.1 = 0 ∨ b.1 = 0 then q9sE x E2 else q9sC (q9sE x E2) ((a.1, b.1, b.2 + d - a.2) :: q9tC x))
  | _, _ => some x
theorem q9rle0_oq : @q9rle0 = @q9rle0_o := by
  delta q9rle0 q9rle0_o
  simp only [q9ge9_eq, q9fi9_eq, q9an9_eq, q9al9_eq, q9flt9_eq, q9el9_eq, q9set9_eq, q9ln9_eq, q9gD9_eq, q9ap9_eq, q9eq9_N, q9eq9_I, q9eq9_A, q9eq9_E, q9eq9_OI, q9eq9_ON, q9eq9_OA, q9eq9_L, q9eq9_S, q9de9_N, q9de9_I, q9de9_A, q9le9_N, q9le9_I, q9lt9_N, q9lt9_I, q9de9_E, q9de9_OI, q9de9_ON, q9de9_OA, q9de9_L, q9nd9_eq, q9or9_eq, Bool.cond_decide]
/-- a state that knows q9more -/
noncomputable def q9more (G : q9GH) (r : Nat → Value) (x x' : q9ST) : Prop := ∃ (E : List q9ET) (C : List (Nat × Nat × Int)), x' = q9sC (q9sE x E) C ∧ E.length = (q9tE x).length ∧ q9SAT G E r ∧ ∀ q ∈ C, q9FCok r q
theorem q9more.rf {nL : Nat} {g : List Value} {x : q9ST} {r : Nat → Value} {G : q9GH} {ws : va_W} {ls : Array Slot} {st : List Value} (h : q9SM O nL g x r G ws ls st) : q9more G r x x := ⟨q9tE x, q9tC x, rfl, rfl, h.2.2.2.1, h.2.2.2.2.2.2.1⟩
theorem q9more.SM {nL : Nat} {g : List Value} {x x' : q9ST} {r : Nat → Value} {G : q9GH} {ws : va_W} {ls : Array Slot} {st : List Value} (h : q9SM O nL g x r G ws ls st) (hm : q9more G r x x') : q9SM O nL g x' r G ws ls st := by
  obtain ⟨E, C, rfl, -, h1, h2⟩ := hm
  exact (h.E h1).C h2
theorem q9more.tr {x x' x2 : q9ST} {r : Nat → Value} {G : q9GH} (h : q9more G r x x') (h2 : q9more G r x' x2) : q9more G r x x2 := by
  obtain ⟨E, C, rfl, a1, a2, a3⟩ := h
  obtain ⟨E', C', rfl, b1, b2, b3⟩ := h2
  exact ⟨E', C', rfl, b1.trans a1, b2, b3⟩
theorem q9rle0_ok {nL : Nat} {g : List Value} {x : q9ST} {r : Nat → Value} {G : q9GH} {ws : va_W} {ls : Array Slot} {st : List Value} (h : q9SM O nL g x r G ws ls st) {a b : q9AV} {d : Int} (ha : q9okAV (q9tE x) a = true) (hb : q9okAV (q9tE x) b = true) (hle : q9nv (q9ev r a) ≤ q9nv (q9ev r b) + d) : ∃ x', q9rle0 x a b d = some x' ∧ q9more G r x x' := by
  have hS := h.2.2.2.1
  (rewrite [q9rle0_oq]; unfold q9rle0_o)
  cases na : q9num (q9tE x) a with
  | none => exact ⟨x, rfl, q9more.rf h⟩
  | some q1 =>
    cases nb : q9num (q9tE x) b with
    | none => obtain ⟨k1, l1, h1⟩ := q1; exact ⟨x, rfl, q9more.rf h⟩
    | some q2 =>
      obtain ⟨k1, l1, h1⟩ := q1
      obtain ⟨k2, l2, h2⟩ := q2
      obtain ⟨-, ea, a3, a4⟩ := q9num_ok hS ha na
      obtain ⟨-, eb, b3, b4⟩ := q9num_ok hS hb nb
      dsimp only
      by_cases hk : a.1 = b.1
      · rw [if_pos hk]
        rw [hk] at ea
        rw [if_pos (by omega)]
        exact ⟨x, rfl, q9more.rf h⟩
      · have hno : ¬ ((q9tC x).any (fun q => q.1 == b.1 && (q.2.1 == a.1 && decide (q.2.2 + (b.2 + d - a.2) < 0))) = true) := fun h9 => by
          obtain ⟨q, q1, q2⟩ := List.any_eq_true.mp h9
          simp only [Bool.and_eq_true, beq_iff_eq, decide_eq_true_eq] at q2
          obtain ⟨q2, q3, q4⟩ := q2
          have h8 := h.2.2.2.2.2.2.1 q q1
          unfold q9FCok at h8
          rw [q2, q3] at h8
          omega
        rw [if_neg hk, if_neg hno]
        obtain ⟨ta, ta1, ta2, -⟩ := q9num_sym na
        obtain ⟨tb, tb1, tb2, -⟩ := q9num_sym nb
        obtain ⟨E1, c1, c2, c3, c4⟩ := q9cutHi_ok hS ta1 ta2 (h := h2 + d - a.2) (by omega)
        obtain ⟨tb', tb3, tb4⟩ := c4 _ _ tb1
        obtain ⟨E2, d1, d2, d3, -⟩ := q9cutLo_ok c2 tb3 (by rw [tb4]; exact tb2) (l := l1 - d - b.2) (by omega)
        rw [c1]
        dsimp only
        rw [d1]
        dsimp only
        refine ⟨_, rfl, ?_⟩
        split
        · exact ⟨E2, q9tC x, rfl, d3.trans c3, d2, h.2.2.2.2.2.2.1⟩
        · refine ⟨E2, _, rfl, d3.trans c3, d2, fun q hq => ?_⟩
          rcases List.mem_cons.mp hq with rfl | hq
          · unfold q9FCok
            dsimp only
            omega
          · exact h.2.2.2.2.2.2.1 q hq
/-- comparisons narrow ranges -/
noncomputable def q9propL_o : List (Nat × Nat × Int) → q9ST → Option q9ST
  | [], x => some x
  | q :: qs, x => match (q9tE x)[q.1]?, (q9tE x)[q.2.1]? with
    | some t, some u => if (t.1 = 0 ∨ t.1 = 1) ∧ (u.1 = 0 ∨ u.1 = 1) then (match q9cutHi (q9tE x) q.1 (u.2.2 + q.2.2) with
        | none => none
        | some E1 => match q9cutLo E1 q.2.1 (t.2.1 - q.2.2) with
          | none => none
          | some E2 => q9propL_o qs (q9sE x E2)) else q9propL_o qs x
    | _, _ => q9propL_o qs x
noncomputable def q9pS_o (ih : q9ST → Option q9ST) (q : Nat × Nat × Int) (x : q9ST) : Option q9ST := match (q9tE x)[q.1]?, (q9tE x)[q.2.1]? with
    | some t, some u => if (t.1 = 0 ∨ t.1 = 1) ∧ (u.1 = 0 ∨ u.1 = 1) then (match q9cutHi (q9tE x) q.1 (u.2.2 + q.2.2) with
        | none => none
        | some E1 => match q9cutLo E1 q.2.1 (t.2.1 - q.2.2) with
          | none => none
          | some E2 => ih (q9sE x E2)) else ih x
    | _, _ => ih x
/-- a comparison that says nothing new is passed over at once -/
noncomputable def q9pS (ih : q9ST → Option q9ST) (q : Nat × Nat × Int) (x : q9ST) : Option q9ST := match q9ge9 (q9tE x) q.1, q9ge9 (q9tE x) q.2.1 with
    | some t, some u => bif q9nd9 (q9leI9 t.2.2 (u.2.2 + q.2.2)) (q9nd9 (q9leI9 (t.2.1 - q.2.2) u.2.1) (q9nd9 (Nat.ble t.1 1) (Nat.ble u.1 1))) then ih x else if (t.1 = 0 ∨ t.1 = 1) ∧ (u.1 = 0 ∨ u.1 = 1) then (match q9cutHi (q9tE x) q.1 (u.2.2 + q.2.2) with
        | none => none
        | some E1 => match q9cutLo E1 q.2.1 (t.2.1 - q.2.2) with
          | none => none
          | some E2 => ih (q9sE x E2)) else ih x
    | _, _ => ih x
theorem q9sE_self (x : q9ST) : q9sE x (q9tE x) = x := rfl
theorem q9pS_oq : @q9pS = @q9pS_o := by
  funext ih q x
  delta q9pS q9pS_o
  rw [q9ge9_eq, q9ge9_eq]
  cases ht : (q9tE x)[q.1]? with
  | none => rfl
  | some t =>
    cases hu : (q9tE x)[q.2.1]? with
    | none => rfl
    | some u =>
      dsimp only
      rw [q9nd9_eq, q9nd9_eq, q9nd9_eq]
      cases hc : (q9leI9 t.2.2 (u.2.2 + q.2.2) && (q9leI9 (t.2.1 - q.2.2) u.2.1 && (Nat.ble t.1 1 && Nat.ble u.1 1))) with
      | false => rfl
      | true =>
        simp only [Bool.and_eq_true, Nat.ble_eq, q9leI9_iff] at hc
        obtain ⟨h1, h2, h3, h4⟩ := hc
        have e1 : q9cutHi (q9tE x) q.1 (u.2.2 + q.2.2) = some (q9tE x) := by
          rw [q9cutHi_oq]
          unfold q9cutHi_o
          rw [ht]
          dsimp only
          rw [if_pos h1]
        have e2 : q9cutLo (q9tE x) q.2.1 (t.2.1 - q.2.2) = some (q9tE x) := by
          rw [q9cutLo_oq]
          unfold q9cutLo_o
          rw [hu]
          dsimp only
          rw [if_pos h2]
        rw [if_pos ⟨by omega, by omega⟩, e1]
        dsimp only
        rw [e2]
        dsimp only
        rw [q9sE_self]
        rfl
noncomputable def q9propL (l : List (Nat × Nat × Int)) : q9ST → Option q9ST := List.rec (motive := fun _ => q9ST → Option q9ST) (fun x => some x) (fun q _ ih => q9pS ih q) l
theorem q9propL_oq : @q9propL = @q9propL_o := by
  funext l
  induction l with
  | nil => rfl
  | cons q qs ih =>
    show q9pS (q9propL qs) q = _
    rw [ih, q9pS_oq]
    funext x
    unfold q9propL_o
    rfl
theorem q9propL_ok_o {nL : Nat} {g : List Value} {r : Nat → Value} {G : q9GH} {ws : va_W} {ls : Array Slot} {st : List Value} : ∀ (qs : List (Nat × Nat × Int)) (x : q9ST), q9SM O nL g x r G ws ls st → (∀ q ∈ qs, q9FCok r q) → ∃ x', q9propL_o qs x = some x' ∧ q9more G r x x'
  | [], x, h, _ => ⟨x, rfl, q9more.rf h⟩
  | q :: qs, x, h, hq => by
    have hq' := fun z hz => hq z (List.mem_cons_of_mem q hz)
    have h0 := hq q List.mem_cons_self
    unfold q9FCok at h0
    unfold q9propL_o
    split
    · rename_i t u ht hu
      split
      · rename_i hn
        obtain ⟨a1, a2, -⟩ := q9iv_rng h.2.2.2.1 ht hn.1
        obtain ⟨b1, b2, -⟩ := q9iv_rng h.2.2.2.1 hu hn.2
        obtain ⟨E1, c1, c2, c3, c4⟩ := q9cutHi_ok h.2.2.2.1 ht hn.1 (h := u.2.2 + q.2.2) (by omega)
        obtain ⟨u', u1, u2⟩ := c4 _ _ hu
        obtain ⟨E2, d1, d2, d3, -⟩ := q9cutLo_ok c2 u1 (by rw [u2]; exact hn.2) (l := t.2.1 - q.2.2) (by omega)
        rw [c1]
        dsimp only
        rw [d1]
        dsimp only
        have m1 : q9more G r x (q9sE x E2) := ⟨E2, q9tC x, rfl, d3.trans c3, d2, h.2.2.2.2.2.2.1⟩
        obtain ⟨x2, e2, m2⟩ := q9propL_ok_o qs (q9sE x E2) (q9more.SM h m1) hq'
        exact ⟨x2, e2, m1.tr m2⟩
      · exact q9propL_ok_o qs x h hq'
    · exact q9propL_ok_o qs x h hq'
theorem q9propL_ok {nL : Nat} {g : List Value} {r : Nat → Value} {G : q9GH} {ws : va_W} {ls : Array Slot} {st : List Value} (qs : List (Nat × Nat × Int)) (x : q9ST) (h : q9SM O nL g x r G ws ls st) (hq : ∀ q ∈ qs, q9FCok r q) : ∃ x', q9propL qs x = some x' ∧ q9more G r x x' := by
  rw [q9propL_oq]
  exact q9propL_ok_o qs x h hq
/-- the same, but comparisons that touch nothing new are passed over -/
noncomputable def q9pT1 (ih : List Nat → q9ST → Option q9ST) (q : Nat × Nat × Int) (g : List Nat) (x : q9ST) : Option q9ST := bif q9or9 (q9el9 g q.1) (q9el9 g q.2.1) then (match q9ge9 (q9tE x) q.1, q9ge9 (q9tE x) q.2.1 with
    | some t, some u => if q9nd9 (q9leI9 t.2.2 (u.2.2 + q.2.2)) (q9leI9 (t.2.1 - q.2.2) u.2.1) = true then ih g x else if (t.1 = 0 ∨ t.1 = 1) ∧ (u.1 = 0 ∨ u.1 = 1) then (match q9cutHi (q9tE x) q.1 (u.2.2 + q.2.2) with
        | none => none
        | some E1 => match q9cutLo E1 q.2.1 (t.2.1 - q.2.2) with
          | none => none
          | some E2 => ih (q.1 :: q.2.1 :: g) (q9sE x E2)) else ih g x
    | _, _ => ih g x) else ih g x
noncomputable def q9pT (l : List (Nat × Nat × Int)) : List Nat → q9ST → Option q9ST := List.rec (motive := fun _ => List Nat → q9ST → Option q9ST) (fun _ x => some x) (fun q _ ih g x => q9pT1 ih q g x) l
theorem q9pT_ok {nL : Nat} {gg : List Value} {r : Nat → Value} {G : q9GH} {ws : va_W} {ls : Array Slot} {st : List Value} : ∀ (l : List (Nat × Nat × Int)) (g : List Nat) (x : q9ST), q9SM O nL gg x r G ws ls st → (∀ q ∈ l, q9FCok r q) → ∃ x', q9pT l g x = some x' ∧ q9more G r x x'
  | [], g, x, h, _ => ⟨x, rfl, q9more.rf h⟩
  | q :: qs, g, x, h, hq => by
    have hq' := fun z hz => hq z (List.mem_cons_of_mem q hz)
    have h0 := hq q List.mem_cons_self
    unfold q9FCok at h0
    show ∃ x', q9pT1 (q9pT qs) q g x = some x' ∧ q9more G r x x'
    unfold q9pT1
    cases q9or9 (q9el9 g q.1) (q9el9 g q.2.1) with
    | false => exact q9pT_ok qs g x h hq'
    | true =>
      simp only [cond_true]
      rw [q9ge9_eq, q9ge9_eq]
      split
      · rename_i t u ht hu
        split
        · exact q9pT_ok qs g x h hq'
        · split
          · rename_i hn
            obtain ⟨a1, a2, -⟩ := q9iv_rng h.2.2.2.1 ht hn.1
            obtain ⟨b1, b2, -⟩ := q9iv_rng h.2.2.2.1 hu hn.2
            obtain ⟨E1, c1, c2, c3, c4⟩ := q9cutHi_ok h.2.2.2.1 ht hn.1 (h := u.2.2 + q.2.2) (by omega)
            obtain ⟨u', u1, u2⟩ := c4 _ _ hu
            obtain ⟨E2, d1, d2, d3, -⟩ := q9cutLo_ok c2 u1 (by rw [u2]; exact hn.2) (l := t.2.1 - q.2.2) (by omega)
            rw [c1]
            dsimp only
            rw [d1]
            dsimp only
            have m1 : q9more G r x (q9sE x E2) := ⟨E2, q9tC x, rfl, d3.trans c3, d2, h.2.2.2.2.2.2.1⟩
            obtain ⟨x2, e2, m2⟩ := q9pT_ok qs (q.1 :: q.2.1 :: g) (q9sE x E2) (q9more.SM h m1) hq'
            exact ⟨x2, e2, m1.tr m2⟩
          · exact q9pT_ok qs g x h hq'
      · exact q9pT_ok qs g x h hq'
noncomputable def q9rle (x : q9ST) (a b : q9AV) (d : Int) : Option q9ST := match q9rle0 x a b d with
  | none => none
  | some x1 => q9pT (q9tC x1) [a.1, b.1] x1
theorem q9rle_ok {nL : Nat} {g : List Value} {x : q9ST} {r : Nat → Value} {G : q9GH} {ws : va_W} {ls : Array Slot} {st : List Value} (h : q9SM O nL g x r G ws ls st) {a b : q9AV} {d : Int} (ha : q9okAV (q9tE x) a = true) (hb : q9okAV (q9tE x) b = true) (hle : q9nv (q9ev r a) ≤ q9nv (q9ev r b) + d) : ∃ x', q9rle x a b d = some x' ∧ q9more G r x x' := by
  obtain ⟨x1, e1, m1⟩ := q9rle0_ok h ha hb hle
  have h1 := q9more.SM h m1
  obtain ⟨x2, e2, m2⟩ := q9pT_ok (q9tC x1) [a.1, b.1] x1 h1 h1.2.2.2.2.2.2.1
  refine ⟨x2, ?_, m1.tr m2⟩
  unfold q9rle
  rw [e1]
  exact e2
noncomputable def q9rne_o (x : q9ST) (a b : q9AV) : Option q9ST := if a = b then none else match q9num (q9tE x) a, q9num (q9tE x) b with
  | some (_, la, ha), some (_, lb, hb) =>
    if ((q9tC x).any (fun q => q.1 == a.1 && (q.2.1 == b.1 && decide (q.2.2 + a.2 ≤ b.2))) && (q9tC x).any (fun q => q.1 == b.1 && (q.2.1 == a.1 && decide (q.2.2 + b.2 ≤ a.2)))) = true then none else
    if lb = hb then
      if la = lb then (match q9cutLo (q9tE x) a.1 (la + 1 - a.2) with | none => none | some E1 => some (q9sE x E1))
      else if ha = lb then (match q9cutHi (q9tE x) a.1 (ha - 1 - a.2) with | none => none | some E1 => some (q9sE x E1))
      else some x
    else some x
  | _, _ => some x
noncomputable def q9rne (x : q9ST) (a b : q9AV) : Option q9ST := bif q9de9 (a) (b) then none else match q9num (q9tE x) a, q9num (q9tE x) b with
  | some (_, la, ha), some (_, lb, hb) =>
    if (q9nd9 (q9an9 (q9tC x) (fun q => q9nd9 (q9eq9 (q.1) (a.1)) ((q9nd9 (q9eq9 (q.2.1) (b.1)) ((q9le9 (q.2.2 + a.2) (b.2))))))) (q9an9 (q9tC x) (fun q => q9nd9 (q9eq9 (q.1) (b.1)) ((q9nd9 (q9eq9 (q.2.1) (a.1)) ((q9le9 (q.2.2 + b.2) (a.2)))))))) = true then none else
    bif q9de9 (lb) (hb) then
      bif q9de9 (la) (lb) then (match q9cutLo (q9tE x) a.1 (la + 1 - a.2) with | none => none | some E1 => some (q9sE x E1))
      else bif q9de9 (ha) (lb) then (match q9cutHi (q9tE x) a.1 (ha - 1 - a.2) with | none => none | some E1 => some (q9sE x E1))
      else some x
    else some x
  | _, _ => some x
theorem q9rne_oq : @q9rne = @q9rne_o := by
  delta q9rne q9rne_o
  simp only [q9ge9_eq, q9fi9_eq, q9an9_eq, q9al9_eq, q9flt9_eq, q9el9_eq, q9set9_eq, q9ln9_eq, q9gD9_eq, q9ap9_eq, q9eq9_N, q9eq9_I, q9eq9_A, q9eq9_E, q9eq9_OI, q9eq9_ON, q9eq9_OA, q9eq9_L, q9eq9_S, q9de9_N, q9de9_I, q9de9_A, q9le9_N, q9le9_I, q9lt9_N, q9lt9_I, q9de9_E, q9de9_OI, q9de9_ON, q9de9_OA, q9de9_L, q9nd9_eq, q9or9_eq, Bool.cond_decide]
theorem q9rne_ok {nL : Nat} {g : List Value} {x : q9ST} {r : Nat → Value} {G : q9GH} {ws : va_W} {ls : Array Slot} {st : List Value} (h : q9SM O nL g x r G ws ls st) {a b : q9AV} (ha : q9okAV (q9tE x) a = true) (hb : q9okAV (q9tE x) b = true) (hne : q9nv (q9ev r a) ≠ q9nv (q9ev r b)) : ∃ x', q9rne x a b = some x' ∧ q9more G r x x' := by
  have hS := h.2.2.2.1
  (rewrite [q9rne_oq]; unfold q9rne_o)
  rw [if_neg (fun e => hne (by rw [e]))]
  cases na : q9num (q9tE x) a with
  | none => exact ⟨x, rfl, q9more.rf h⟩
  | some q1 =>
    cases nb : q9num (q9tE x) b with
    | none => obtain ⟨k1, l1, h1⟩ := q1; exact ⟨x, rfl, q9more.rf h⟩
    | some q2 =>
      obtain ⟨k1, l1, h1⟩ := q1
      obtain ⟨k2, l2, h2⟩ := q2
      obtain ⟨-, ea, a3, a4⟩ := q9num_ok hS ha na
      obtain ⟨-, eb, b3, b4⟩ := q9num_ok hS hb nb
      obtain ⟨ta, ta1, ta2, -⟩ := q9num_sym na
      dsimp only
      have hno : ¬ (((q9tC x).any (fun q => q.1 == a.1 && (q.2.1 == b.1 && decide (q.2.2 + a.2 ≤ b.2))) && (q9tC x).any (fun q => q.1 == b.1 && (q.2.1 == a.1 && decide (q.2.2 + b.2 ≤ a.2)))) = true) := fun h9 => by
        rw [Bool.and_eq_true] at h9
        obtain ⟨q, q1, q2⟩ := List.any_eq_true.mp h9.1
        obtain ⟨w, w1, w2⟩ := List.any_eq_true.mp h9.2
        simp only [Bool.and_eq_true, beq_iff_eq, decide_eq_true_eq] at q2 w2
        obtain ⟨q2, q3, q4⟩ := q2
        obtain ⟨w2, w3, w4⟩ := w2
        have h8 := h.2.2.2.2.2.2.1 q q1
        have h7 := h.2.2.2.2.2.2.1 w w1
        unfold q9FCok at h8 h7
        rw [q2, q3] at h8
        rw [w2, w3] at h7
        exact hne (by omega)
      rw [if_neg hno]
      split
      · split
        · obtain ⟨E1, c1, c2, c3, -⟩ := q9cutLo_ok hS ta1 ta2 (l := l1 + 1 - a.2) (by omega)
          rw [c1]
          exact ⟨_, rfl, E1, q9tC x, rfl, c3, c2, h.2.2.2.2.2.2.1⟩
        · split
          · obtain ⟨E1, c1, c2, c3, -⟩ := q9cutHi_ok hS ta1 ta2 (h := h1 - 1 - a.2) (by omega)
            rw [c1]
            exact ⟨_, rfl, E1, q9tC x, rfl, c3, c2, h.2.2.2.2.2.2.1⟩
          · exact ⟨x, rfl, q9more.rf h⟩
      · exact ⟨x, rfl, q9more.rf h⟩
/-- comparisons by number: = ≠ < ≥ > ≤ -/
noncomputable def q9cmpZ (k : Nat) (a b : Int) : Prop := match k with
  | 0 => a = b
  | 1 => a ≠ b
  | 2 => a < b
  | 3 => b ≤ a
  | 4 => b < a
  | _ => a ≤ b
noncomputable def q9negK (k : Nat) : Nat := match k with
  | 0 => 1
  | 1 => 0
  | 2 => 3
  | 3 => 2
  | 4 => 5
  | _ => 4
theorem q9cmp_neg {k : Nat} {a b : Int} (h : ¬ q9cmpZ k a b) : q9cmpZ (q9negK k) a b := by
  match k, h with
  | 0, h => exact h
  | 1, h => exact Decidable.byContradiction (p := a = b) h
  | 2, h => exact Int.not_lt.mp h
  | 3, h => exact Int.not_le.mp h
  | 4, h => exact Int.not_lt.mp h
  | _ + 5, h => exact Int.not_le.mp h
noncomputable def q9rfn (x : q9ST) (k : Nat) (a b : q9AV) : Option q9ST := match k with
  | 0 => match q9rle x a b 0 with
    | none => none
    | some x1 => if q9okAV (q9tE x1) a && q9okAV (q9tE x1) b then q9rle x1 b a 0 else some x1
  | 1 => q9rne x a b
  | 2 => q9rle x a b (-1)
  | 3 => q9rle x b a 0
  | 4 => q9rle x b a (-1)
  | _ => q9rle x a b 0
theorem q9rfn_ok {nL : Nat} {g : List Value} {x : q9ST} {r : Nat → Value} {G : q9GH} {ws : va_W} {ls : Array Slot} {st : List Value} (h : q9SM O nL g x r G ws ls st) {k : Nat} {a b : q9AV} (ha : q9okAV (q9tE x) a = true) (hb : q9okAV (q9tE x) b = true) (hc : q9cmpZ k (q9nv (q9ev r a)) (q9nv (q9ev r b))) : ∃ x', q9rfn x k a b = some x' ∧ q9more G r x x' := by
  match k, hc with
  | 0, hc =>
    have hc : q9nv (q9ev r a) = q9nv (q9ev r b) := hc
    obtain ⟨x1, e1, m1⟩ := q9rle_ok h (d := 0) ha hb (by omega)
    show ∃ x', (match q9rle x a b 0 with | none => none | some x1 => if q9okAV (q9tE x1) a && q9okAV (q9tE x1) b then q9rle x1 b a 0 else some x1) = some x' ∧ _
    rw [e1]
    dsimp only
    split
    · rename_i hok
      rw [Bool.and_eq_true] at hok
      obtain ⟨x2, e2, m2⟩ := q9rle_ok (q9more.SM h m1) (d := 0) hok.2 hok.1 (by omega)
      exact ⟨x2, e2, m1.tr m2⟩
    · exact ⟨x1, rfl, m1⟩
  | 1, hc => exact q9rne_ok h ha hb hc
  | 2, hc => exact q9rle_ok h ha hb (by have hc : q9nv (q9ev r a) < q9nv (q9ev r b) := hc; omega)
  | 3, hc => exact q9rle_ok h hb ha (by have hc : q9nv (q9ev r b) ≤ q9nv (q9ev r a) := hc; omega)
  | 4, hc => exact q9rle_ok h hb ha (by have hc : q9nv (q9ev r b) < q9nv (q9ev r a) := hc; omega)
  | _ + 5, hc => exact q9rle_ok h ha hb (by have hc : q9nv (q9ev r a) ≤ q9nv (q9ev r b) := hc; omega)
/-- a comparison of longs, seen through its result -/
noncomputable def q9rfl2_o (x : q9ST) (k : Nat) (a b : q9AV) : Option q9ST :=
  match (q9tX x).find? (fun q => q.1 == 24 && q.2.2.2 == a.1) with
  | some q => if a.2 = 0 ∧ b = (0, 0) ∧ q9okAV (q9tE x) q.2.1 = true ∧ q9okAV (q9tE x) q.2.2.1 = true ∧ (q9tE x)[0]? = some (0, 0, 0) then q9rfn x k q.2.1 q.2.2.1 else some x
  | none => some x

noncomputable def q9rfl2 (x : q9ST) (k : Nat) (a b : q9AV) : Option q9ST :=
  match q9fi9 (q9tX x) (fun q => q9nd9 (q9eq9 (q.1) (24)) (q9eq9 (q.2.2.2) (a.1))) with
  | some q => if a.2 = 0 ∧ b = (0, 0) ∧ q9okAV (q9tE x) q.2.1 = true ∧ q9okAV (q9tE x) q.2.2.1 = true ∧ (q9ge9 (q9tE x) (0)) = some (0, 0, 0) then q9rfn x k q.2.1 q.2.2.1 else some x
  | none => some x

theorem q9rfl2_oq : @q9rfl2 = @q9rfl2_o := by
  delta q9rfl2 q9rfl2_o
  simp only [q9ge9_eq, q9fi9_eq, q9an9_eq, q9al9_eq, q9flt9_eq, q9el9_eq, q9set9_eq, q9ln9_eq, q9gD9_eq, q9ap9_eq, q9eq9_N, q9eq9_I, q9eq9_A, q9eq9_E, q9eq9_OI, q9eq9_ON, q9eq9_OA, q9eq9_L, q9eq9_S, q9de9_N, q9de9_I, q9de9_A, q9le9_N, q9le9_I, q9lt9_N, q9lt9_I, q9de9_E, q9de9_OI, q9de9_ON, q9de9_OA, q9de9_L, q9nd9_eq, q9or9_eq, Bool.cond_decide]