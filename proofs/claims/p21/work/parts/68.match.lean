variable {O : ORC}
/-! q9one state within another: where its symbols are found -/
/-- where a symbol is found: 0 in the frame, 1 on the stack, 2 among the ghosts, 3 a known field, 4 a known element, 5 nought -/
abbrev q9DF : Type := Nat × Nat × q9AV
noncomputable def q9sh_o (th : List q9AV) (a : q9AV) : q9AV := ((th.getD a.1 (0, 0)).1, (th.getD a.1 (0, 0)).2 + a.2)
noncomputable def q9sh (th : List q9AV) (a : q9AV) : q9AV := ((q9gD9 th a.1 (0, 0)).1, (q9gD9 th a.1 (0, 0)).2 + a.2)
theorem q9sh_oq : @q9sh = @q9sh_o := by
  delta q9sh q9sh_o
  simp only [q9ge9_eq, q9fi9_eq, q9an9_eq, q9al9_eq, q9flt9_eq, q9el9_eq, q9set9_eq, q9ln9_eq, q9gD9_eq, q9ap9_eq, q9eq9_N, q9eq9_I, q9eq9_A, q9eq9_E, q9eq9_OI, q9eq9_ON, q9eq9_OA, q9eq9_L, q9eq9_S, q9de9_N, q9de9_I, q9de9_A, q9le9_N, q9le9_I, q9lt9_N, q9lt9_I, q9de9_E, q9de9_OI, q9de9_ON, q9de9_OA, q9de9_L, q9nd9_eq, q9or9_eq, Bool.cond_decide]
noncomputable def q9rh (r : Nat → Value) (th : List q9AV) : Nat → Value := fun k => q9ev r (th.getD k (0, 0))
theorem q9sh_ev {r : Nat → Value} {th : List q9AV} (a : q9AV) : q9ev (q9rh r th) a = q9ev r (q9sh th a) := by
  rw [q9sh_oq]
  exact q9ev_sh (k := a.1) (c := a.2) rfl
noncomputable def q9isNum_o (E : List q9ET) (k : Nat) : Bool := match E[k]? with
  | some t => decide (t.1 ≤ 1)
  | none => false
noncomputable def q9isNum (E : List q9ET) (k : Nat) : Bool := match (q9ge9 E (k)) with
  | some t => (q9le9 (t.1) (1))
  | none => false
theorem q9isNum_oq : @q9isNum = @q9isNum_o := by
  delta q9isNum q9isNum_o
  simp only [q9ge9_eq, q9fi9_eq, q9an9_eq, q9al9_eq, q9flt9_eq, q9el9_eq, q9set9_eq, q9ln9_eq, q9gD9_eq, q9ap9_eq, q9eq9_N, q9eq9_I, q9eq9_A, q9eq9_E, q9eq9_OI, q9eq9_ON, q9eq9_OA, q9eq9_L, q9eq9_S, q9de9_N, q9de9_I, q9de9_A, q9le9_N, q9le9_I, q9lt9_N, q9lt9_I, q9de9_E, q9de9_OI, q9de9_ON, q9de9_OA, q9de9_L, q9nd9_eq, q9or9_eq, Bool.cond_decide]
noncomputable def q9find1_o (x : q9ST) (th : List q9AV) (d : q9DF) : Option q9AV := match d.1 with
  | 0 => q9lk (q9tL x) d.2.1
  | 1 => (q9tS x)[d.2.1]?
  | 2 => (q9tG x)[d.2.1]?
  | 3 => ((q9tF x).find? (fun q => q.1 == (th.getD d.2.1 (0, 0)).1 && q.2.1 == d.2.2.1)).map (fun q => q.2.2)
  | 4 => ((q9tA x).find? (fun q => q.1 == (th.getD d.2.1 (0, 0)).1 && q.2.1 == q9sh th d.2.2)).map (fun q => q.2.2)
  | 6 => ((q9tX x).find? (fun q => q.1 == 0 && (q.2.1 == th.getD d.2.1 (0, 0) && q.2.2.1 == q9sh th d.2.2))).map (fun q => (q.2.2.2, 0))
  | 7 => ((q9tX x).find? (fun q => q.1 == 1 && (q.2.1 == th.getD d.2.1 (0, 0) && q.2.2.1 == q9sh th d.2.2))).map (fun q => (q.2.2.2, 0))
  | 8 => ((q9tA x).find? (fun q => q9isNum (q9tE x) q.1 && (q.2.1 == th.getD d.2.1 (0, 0) && q.2.2 == q9sh th d.2.2))).map (fun q => (q.1, 0))
  | 9 => match (q9tA x).find? (fun q => q.1 == (th.getD d.2.1 (0, 0)).1 && q.2.2 == q9sh th d.2.2) with
    | some q => some q.2.1
    | none => ((q9tA x).find? (fun q => q.1 == (th.getD d.2.1 (0, 0)).1 && q9eqV x q.2.2 (q9sh th d.2.2))).map (fun q => q.2.1)
  | 5 => some (0, 0)
  | 10 => ((q9tF x).find? (fun q => q.2.2 == th.getD d.2.1 (0, 0) && q.2.1 == d.2.2.1)).map (fun q => (q.1, 0))
  | 11 => ((q9tA x).find? (fun q => q9isNum (q9tE x) q.1 && q.2.2 == q9sh th d.2.2)).map (fun q => q.2.1)
  | 12 => ((q9tA x).find? (fun q => q9isNum (q9tE x) q.1 && q.2.2 == q9sh th d.2.2)).map (fun q => (q.1, 0))
  | 13 => some (0, d.2.2.2)
  | 14 => ((q9tA x).find? (fun q => !q9isNum (q9tE x) q.1 && q.2.2 == th.getD d.2.1 (0, 0))).map (fun q => (q.1, 0))
  | 16 => some ((th.getD d.2.1 (0, 0)).1, (th.getD d.2.1 (0, 0)).2 + d.2.2.2)
  | 17 => ((q9tX x).find? (fun q => decide ((q.1 : Int) = d.2.2.2))).map (fun q => q.2.1)
  | 15 => ((q9tA x).find? (fun q => q9famE (q9tE x) q.1 == some d.2.2.2 && q.2.1 == th.getD d.2.1 (0, 0))).map (fun q => q.2.2)
  | o => ((q9tX x).find? (fun q => q.1 + 100 == o && (q.2.1 == th.getD d.2.1 (0, 0) && q.2.2.1 == q9sh th d.2.2))).map (fun q => (q.2.2.2, 0))
noncomputable def q9find1 (x : q9ST) (th : List q9AV) (d : q9DF) : Option q9AV := match d.1 with
  | 0 => q9lk (q9tL x) d.2.1
  | 1 => (q9ge9 (q9tS x) (d.2.1))
  | 2 => (q9ge9 (q9tG x) (d.2.1))
  | 3 => (q9fi9 (q9tF x) (fun q => q9nd9 (q9eq9 (q.1) ((q9gD9 th d.2.1 (0, 0)).1)) (q9eq9 (q.2.1) (d.2.2.1)))).map (fun q => q.2.2)
  | 4 => (q9fi9 (q9tA x) (fun q => q9nd9 (q9eq9 (q.1) ((q9gD9 th d.2.1 (0, 0)).1)) (q9eq9 (q.2.1) (q9sh th d.2.2)))).map (fun q => q.2.2)
  | 6 => (q9fi9 (q9tX x) (fun q => q9nd9 (q9eq9 (q.1) (0)) ((q9nd9 (q9eq9 (q.2.1) (q9gD9 th d.2.1 (0, 0))) (q9eq9 (q.2.2.1) (q9sh th d.2.2)))))).map (fun q => (q.2.2.2, 0))
  | 7 => (q9fi9 (q9tX x) (fun q => q9nd9 (q9eq9 (q.1) (1)) ((q9nd9 (q9eq9 (q.2.1) (q9gD9 th d.2.1 (0, 0))) (q9eq9 (q.2.2.1) (q9sh th d.2.2)))))).map (fun q => (q.2.2.2, 0))
  | 8 => (q9fi9 (q9tA x) (fun q => q9nd9 (q9isNum (q9tE x) q.1) ((q9nd9 (q9eq9 (q.2.1) (q9gD9 th d.2.1 (0, 0))) (q9eq9 (q.2.2) (q9sh th d.2.2)))))).map (fun q => (q.1, 0))
  | 9 => match q9fi9 (q9tA x) (fun q => q9nd9 (q9eq9 (q.1) ((q9gD9 th d.2.1 (0, 0)).1)) (q9eq9 (q.2.2) (q9sh th d.2.2))) with
    | some q => some q.2.1
    | none => (q9fi9 (q9tA x) (fun q => q9nd9 (q9eq9 (q.1) ((q9gD9 th d.2.1 (0, 0)).1)) (q9eqV x q.2.2 (q9sh th d.2.2)))).map (fun q => q.2.1)
  | 5 => some (0, 0)
  | 10 => (q9fi9 (q9tF x) (fun q => q9nd9 (q9eq9 (q.2.2) (q9gD9 th d.2.1 (0, 0))) (q9eq9 (q.2.1) (d.2.2.1)))).map (fun q => (q.1, 0))
  | 11 => (q9fi9 (q9tA x) (fun q => q9nd9 (q9isNum (q9tE x) q.1) (q9eq9 (q.2.2) (q9sh th d.2.2)))).map (fun q => q.2.1)
  | 12 => (q9fi9 (q9tA x) (fun q => q9nd9 (q9isNum (q9tE x) q.1) (q9eq9 (q.2.2) (q9sh th d.2.2)))).map (fun q => (q.1, 0))
  | 13 => some (0, d.2.2.2)
  | 14 => (q9fi9 (q9tA x) (fun q => q9nd9 (!q9isNum (q9tE x) q.1) (q9eq9 (q.2.2) (q9gD9 th d.2.1 (0, 0))))).map (fun q => (q.1, 0))
  | 16 => some ((q9gD9 th d.2.1 (0, 0)).1, (q9gD9 th d.2.1 (0, 0)).2 + d.2.2.2)
  | 17 => (q9fi9 (q9tX x) (fun q => (q9de9 ((q.1 : Int)) (d.2.2.2)))).map (fun q => q.2.1)
  | 15 => (q9fi9 (q9tA x) (fun q => q9nd9 (q9eq9 (q9famE (q9tE x) q.1) (some d.2.2.2)) (q9eq9 (q.2.1) (q9gD9 th d.2.1 (0, 0))))).map (fun q => q.2.2)
  | o => (q9fi9 (q9tX x) (fun q => q9nd9 (q9eq9 (q.1 + 100) (o)) ((q9nd9 (q9eq9 (q.2.1) (q9gD9 th d.2.1 (0, 0))) (q9eq9 (q.2.2.1) (q9sh th d.2.2)))))).map (fun q => (q.2.2.2, 0))
theorem q9find1_oq : @q9find1 = @q9find1_o := by
  delta q9find1 q9find1_o
  simp only [q9ge9_eq, q9fi9_eq, q9an9_eq, q9al9_eq, q9flt9_eq, q9el9_eq, q9set9_eq, q9ln9_eq, q9gD9_eq, q9ap9_eq, q9eq9_N, q9eq9_I, q9eq9_A, q9eq9_E, q9eq9_OI, q9eq9_ON, q9eq9_OA, q9eq9_L, q9eq9_S, q9de9_N, q9de9_I, q9de9_A, q9le9_N, q9le9_I, q9lt9_N, q9lt9_I, q9de9_E, q9de9_OI, q9de9_ON, q9de9_OA, q9de9_L, q9nd9_eq, q9or9_eq, Bool.cond_decide]
noncomputable def q9mkT (x : q9ST) : List q9DF → List q9AV → Option (List q9AV)
  | [], th => some th
  | d :: ds, th => match q9find1 x th d with
    | some a => q9mkT x ds (th ++ [a])
    | none => none
noncomputable def q9satL (x : q9ST) (th : List q9AV) : List q9ET → Nat → Bool
  | [], _ => true
  | t :: ts, k => (q9okAV (q9tE x) (th.getD k (0, 0)) && q9subB (q9tE x) (th.getD k (0, 0)) t) && q9satL x th ts (k + 1)
theorem q9satL_ok {x : q9ST} {th : List q9AV} : ∀ (E : List q9ET) (k : Nat), q9satL x th E k = true → ∀ (j : Nat) (t : q9ET), E[j]? = some t → q9okAV (q9tE x) (th.getD (k + j) (0, 0)) = true ∧ q9subB (q9tE x) (th.getD (k + j) (0, 0)) t = true
  | [], _, _, _, _, h => by simp at h
  | u :: E, k, h, j, t, hj => by
    unfold q9satL at h
    simp only [Bool.and_eq_true] at h
    cases j with
    | zero =>
      cases hj
      exact h.1
    | succ j =>
      have := q9satL_ok E (k + 1) h.2 j t hj
      rw [show k + (j + 1) = k + 1 + j by omega]
      exact this
/-- the same, along both lists -/
noncomputable def q9satT (x : q9ST) (E : List q9ET) : List q9AV → Bool := List.rec (motive := fun _ => List q9AV → Bool) (fun _ => true) (fun t _ ih th => List.rec (motive := fun _ => Bool) (q9nd9 (q9nd9 (q9okAV (q9tE x) (0, 0)) (q9subB (q9tE x) (0, 0) t)) (ih [])) (fun a as _ => q9nd9 (q9nd9 (q9okAV (q9tE x) a) (q9subB (q9tE x) a t)) (ih as)) th) E
theorem q9satT_eq {x : q9ST} : ∀ (E : List q9ET) (th : List q9AV) (k : Nat), q9satT x E (th.drop k) = q9satL x th E k
  | [], _, _ => rfl
  | t :: E, th, k => by
    unfold q9satL
    rw [← q9satT_eq E th (k + 1)]
    by_cases hk : k < th.length
    · rw [List.drop_eq_getElem_cons hk, List.getD_eq_getElem?_getD, List.getElem?_eq_getElem hk]
      show q9nd9 (q9nd9 (q9okAV (q9tE x) th[k]) (q9subB (q9tE x) th[k] t)) (q9satT x E (th.drop (k + 1))) = _
      rw [q9nd9_eq, q9nd9_eq]
      rfl
    · rw [List.drop_eq_nil_of_le (by omega), List.drop_eq_nil_of_le (by omega), List.getD_eq_getElem?_getD, List.getElem?_eq_none (by omega)]
      show q9nd9 (q9nd9 (q9okAV (q9tE x) (0, 0)) (q9subB (q9tE x) (0, 0) t)) (q9satT x E []) = _
      rw [q9nd9_eq, q9nd9_eq]
      rfl
theorem q9satT_0 (x : q9ST) (E : List q9ET) (th : List q9AV) : q9satT x E th = q9satL x th E 0 := q9satT_eq E th 0
/-- x is q9one of the states that y pictures, its symbols being th -/
noncomputable def q9fits0_o (x y : q9ST) (th : List q9AV) : Bool :=
  q9satL x th (q9tE y) 0 && ((q9tS x == (q9tS y).map (q9sh th) && (q9tG x == (q9tG y).map (q9sh th) &&
    ((q9tF y).all (fun q => decide ((th.getD q.1 (0, 0)).2 = 0) && (q9tF x).any (fun z => z.1 == (th.getD q.1 (0, 0)).1 && (z.2.1 == q.2.1 && q9eqV x z.2.2 (q9sh th q.2.2)))) &&
    ((q9tA y).all (fun q => decide ((th.getD q.1 (0, 0)).2 = 0) && (q9tA x).any (fun z => z.1 == (th.getD q.1 (0, 0)).1 && (z.2.1 == q9sh th q.2.1 && q9eqV x z.2.2 (q9sh th q.2.2)))) &&
    ((q9tC y).all (fun q => q9okAV (q9tE x) (th.getD q.1 (0, 0)) && (q9okAV (q9tE x) (th.getD q.2.1 (0, 0)) && q9leB x (th.getD q.1 (0, 0)) (th.getD q.2.1 (0, 0)) q.2.2)) &&
    ((q9tX y).all (fun q => decide ((th.getD q.2.2.2 (0, 0)).2 = 0) && (q9tX x).any (fun z => z.1 == q.1 && (z.2.1 == q9sh th q.2.1 && (z.2.2.1 == q9sh th q.2.2.1 && z.2.2.2 == (th.getD q.2.2.2 (0, 0)).1)))) && (decide (q9tN x ≤ q9tN y) && decide (q9tM x ≤ q9tM y)))))))))
noncomputable def q9fits0 (x y : q9ST) (th : List q9AV) : Bool :=
  q9nd9 (q9satT x (q9tE y) th) (((q9nd9 (q9eq9 (q9tS x) ((q9tS y).map (q9sh th))) ((q9nd9 (q9eq9 (q9tG x) ((q9tG y).map (q9sh th))) ((q9nd9 (q9al9 (q9tF y) (fun q => q9nd9 ((q9de9 ((q9gD9 th q.1 (0, 0)).2) (0))) (q9an9 (q9tF x) (fun z => q9nd9 (q9eq9 (z.1) ((q9gD9 th q.1 (0, 0)).1)) ((q9nd9 (q9eq9 (z.2.1) (q.2.1)) (q9eqV x z.2.2 (q9sh th q.2.2)))))))) ((q9nd9 (q9al9 (q9tA y) (fun q => q9nd9 ((q9de9 ((q9gD9 th q.1 (0, 0)).2) (0))) (q9an9 (q9tA x) (fun z => q9nd9 (q9eq9 (z.1) ((q9gD9 th q.1 (0, 0)).1)) ((q9nd9 (q9eq9 (z.2.1) (q9sh th q.2.1)) (q9eqV x z.2.2 (q9sh th q.2.2)))))))) ((q9nd9 (q9al9 (q9tC y) (fun q => q9nd9 (q9okAV (q9tE x) (q9gD9 th q.1 (0, 0))) ((q9nd9 (q9okAV (q9tE x) (q9gD9 th q.2.1 (0, 0))) (q9leB x (q9gD9 th q.1 (0, 0)) (q9gD9 th q.2.1 (0, 0)) q.2.2))))) ((q9nd9 (q9al9 (q9tX y) (fun q => q9nd9 ((q9de9 ((q9gD9 th q.2.2.2 (0, 0)).2) (0))) (q9an9 (q9tX x) (fun z => q9nd9 (q9eq9 (z.1) (q.1)) ((q9nd9 (q9eq9 (z.2.1) (q9sh th q.2.1)) ((q9nd9 (q9eq9 (z.2.2.1) (q9sh th q.2.2.1)) (q9eq9 (z.2.2.2) ((q9gD9 th q.2.2.2 (0, 0)).1)))))))))) ((q9nd9 ((q9le9 (q9tN x) (q9tN y))) ((q9le9 (q9tM x) (q9tM y))))))))))))))))))
theorem q9fits0_oq : @q9fits0 = @q9fits0_o := by
  delta q9fits0 q9fits0_o
  simp only [q9ge9_eq, q9fi9_eq, q9an9_eq, q9al9_eq, q9flt9_eq, q9el9_eq, q9set9_eq, q9ln9_eq, q9gD9_eq, q9ap9_eq, q9eq9_N, q9eq9_I, q9eq9_A, q9eq9_E, q9eq9_OI, q9eq9_ON, q9eq9_OA, q9eq9_L, q9eq9_S, q9de9_N, q9de9_I, q9de9_A, q9le9_N, q9le9_I, q9lt9_N, q9lt9_I, q9de9_E, q9de9_OI, q9de9_ON, q9de9_OA, q9de9_L, q9nd9_eq, q9or9_eq, Bool.cond_decide, q9satT_0]
noncomputable def q9fitsB_o (x y : q9ST) (th : List q9AV) : Bool := (q9tL y).all (fun q => q9lk (q9tL x) q.1 == some (q9sh th q.2)) && q9fits0 x y th
noncomputable def q9fitsB (x y : q9ST) (th : List q9AV) : Bool := q9nd9 (q9al9 (q9tL y) (fun q => q9eq9 (q9lk (q9tL x) q.1) (some (q9sh th q.2)))) (q9fits0 x y th)
theorem q9fitsB_oq : @q9fitsB = @q9fitsB_o := by
  delta q9fitsB q9fitsB_o
  simp only [q9ge9_eq, q9fi9_eq, q9an9_eq, q9al9_eq, q9flt9_eq, q9el9_eq, q9set9_eq, q9ln9_eq, q9gD9_eq, q9ap9_eq, q9eq9_N, q9eq9_I, q9eq9_A, q9eq9_E, q9eq9_OI, q9eq9_ON, q9eq9_OA, q9eq9_L, q9eq9_S, q9de9_N, q9de9_I, q9de9_A, q9le9_N, q9le9_I, q9lt9_N, q9lt9_I, q9de9_E, q9de9_OI, q9de9_ON, q9de9_OA, q9de9_L, q9nd9_eq, q9or9_eq, Bool.cond_decide]
noncomputable def q9SR (O : ORC) (g : List Value) (x : q9ST) (r : Nat → Value) (G : q9GH) (ws : va_W) (st : List Value) : Prop :=
  st = (q9tS x).map (q9ev r) ∧ g = (q9tG x).map (q9ev r) ∧ q9SAT G (q9tE x) r ∧ (∀ q ∈ q9tF x, q9FMok r G ws q) ∧ (∀ q ∈ q9tA x, q9AMok O r G ws q) ∧ (∀ q ∈ q9tC x, q9FCok r q) ∧ ∀ q ∈ q9tX x, q9EXok O r q
theorem q9isSym {r : Nat → Value} {a : q9AV} (h : a.2 = 0) : q9ev r a = r a.1 := by
  obtain ⟨k, c⟩ := a
  have h : c = 0 := h
  subst h
  exact q9ev_zero
theorem q9nv_iv {r : Nat → Value} {k : Nat} : q9nv (r k) = q9iv r k := by
  unfold q9nv q9iv
  cases r k <;> rfl
theorem q9fits_ok {nL : Nat} {g : List Value} {x y : q9ST} {th : List q9AV} {r : Nat → Value} {G : q9GH} {ws : va_W} {ls : Array Slot} {st : List Value} (hM : q9SM O nL g x r G ws ls st) (h : q9fits0 x y th = true) :
    q9SR O g y (q9rh r th) G ws st ∧ q9tN x ≤ q9tN y ∧ q9tM x ≤ q9tM y := by
  (rewrite [q9fits0_oq] at h; unfold q9fits0_o at h)
  simp only [Bool.and_eq_true, List.all_eq_true, beq_iff_eq, decide_eq_true_eq, List.any_eq_true] at h
  obtain ⟨h1, h3, h4, h5, h6, h7, h8, h9, h10⟩ := h
  refine ⟨⟨?_, ?_, fun k t hk => ?_, fun q hq => ?_, fun q hq => ?_, fun q hq => ?_, fun q hq => ?_⟩, h9, h10⟩
  · rw [hM.2.1, h3, List.map_map]
    exact List.map_congr_left fun q _ => (q9sh_ev q).symm
  · rw [hM.2.2.1, h4, List.map_map]
    exact List.map_congr_left fun q _ => (q9sh_ev q).symm
  · obtain ⟨a1, a2⟩ := q9satL_ok _ _ h1 k t hk
    rw [Nat.zero_add] at a1 a2
    exact q9sub_ok hM.2.2.2.1 a1 a2
  · obtain ⟨a1, z, z1, z2, z3, z4⟩ := h5 q hq
    have h9 := hM.2.2.2.2.1 z z1
    unfold q9FMok at h9 ⊢
    have e1 : q9rh r th q.1 = r z.1 := by
      show q9ev r (th.getD q.1 (0, 0)) = _
      rw [q9isSym a1, z2]
    rw [e1, q9sh_ev, ← q9eqV_ok hM z4, ← z3]
    exact h9
  · obtain ⟨a1, z, z1, z2, z3, z4⟩ := h6 q hq
    have h9 := hM.2.2.2.2.2.1 z z1
    unfold q9AMok q9ALok at h9 ⊢
    have e1 : q9rh r th q.1 = r z.1 := by
      show q9ev r (th.getD q.1 (0, 0)) = _
      rw [q9isSym a1, z2]
    rw [e1, q9sh_ev, q9sh_ev, ← z3, ← q9eqV_ok hM z4]
    exact h9
  · obtain ⟨a1, a2, a3⟩ := h7 q hq
    have := q9leB_ok hM a1 a2 a3
    unfold q9FCok
    rw [← q9nv_iv, ← q9nv_iv]
    exact this
  · obtain ⟨a1, z, z1, z2, z3, z4, z5⟩ := h8 q hq
    have h9 := hM.2.2.2.2.2.2.2 z z1
    unfold q9EXok at h9 ⊢
    have e1 : q9rh r th q.2.2.2 = r z.2.2.2 := by
      show q9ev r (th.getD q.2.2.2 (0, 0)) = _
      rw [q9isSym a1, z5]
    rw [e1, q9sh_ev, q9sh_ev, ← z3, ← z4, ← z2]
    exact h9
theorem q9SR.M {nL : Nat} {g : List Value} {x : q9ST} {r : Nat → Value} {G : q9GH} {ws : va_W} {ls : Array Slot} {st : List Value} (h : q9SR O g x r G ws st) (hl : lv_has ls nL ((q9tL x).map fun q => (q.1, q9ev r q.2))) : q9SM O nL g x r G ws ls st := ⟨hl, h⟩
/-- at a place where states are joined -/
theorem q9fits_cut {nL : Nat} {g : List Value} {x y : q9ST} {th : List q9AV} {r : Nat → Value} {G : q9GH} {ws : va_W} {ls : Array Slot} {st : List Value} (hM : q9SM O nL g x r G ws ls st) (h : q9fitsB x y th = true) : q9SM O nL g y (q9rh r th) G ws ls st ∧ q9tN x ≤ q9tN y ∧ q9tM x ≤ q9tM y := by
  (rewrite [q9fitsB_oq] at h; unfold q9fitsB_o at h)
  rw [Bool.and_eq_true, List.all_eq_true] at h
  have h2 : ∀ q ∈ q9tL y, q9lk (q9tL x) q.1 = some (q9sh th q.2) := fun q hq => by simpa using h.1 q hq
  obtain ⟨h1, h3, h4⟩ := q9fits_ok hM h.2
  refine ⟨h1.M ⟨hM.1.1, hM.1.2.1, fun q hq => ?_⟩, h3, h4⟩
  obtain ⟨z, hz, rfl⟩ := List.mem_map.mp hq
  dsimp only
  rw [q9sh_ev]
  exact hM.lk (h2 z hz)
/-! what falls, around a loop -/
/-- a number of the measure: (0, n) itself, (1, k, n) the symbol k and n, (2, k, n) n without the symbol k -/
abbrev q9ME : Type := Nat × Nat × Int
noncomputable def q9meV (r : Nat → Value) (q : q9ME) : Int := match q.1 with
  | 0 => q.2.2
  | 1 => q9iv r q.2.1 + q.2.2
  | _ => q.2.2 - q9iv r q.2.1
noncomputable def q9meN (r : Nat → Value) : List q9ME → Nat
  | [] => 0
  | q :: qs => (q9meV r q).toNat * 1099511627776 ^ qs.length + q9meN r qs
noncomputable def q9meIn_o (E : List q9ET) (q : q9ME) : Bool := match q.1 with
  | 0 => decide (0 ≤ q.2.2) && decide (q.2.2 < 1099511627776)
  | 1 => (match E[q.2.1]? with
    | some t => t.1 == 0 && (decide (0 ≤ t.2.1 + q.2.2) && decide (t.2.2 + q.2.2 < 1099511627776))
    | none => false)
  | _ => (match E[q.2.1]? with
    | some t => t.1 == 0 && (decide (0 ≤ q.2.2 - t.2.2) && decide (q.2.2 - t.2.1 < 1099511627776))
    | none => false)
noncomputable def q9meIn (E : List q9ET) (q : q9ME) : Bool := match q.1 with
  | 0 => q9nd9 ((q9le9 (0) (q.2.2))) ((q9lt9 (q.2.2) (1099511627776)))
  | 1 => (match (q9ge9 E (q.2.1)) with
    | some t => q9nd9 (q9eq9 (t.1) (0)) ((q9nd9 ((q9le9 (0) (t.2.1 + q.2.2))) ((q9lt9 (t.2.2 + q.2.2) (1099511627776)))))
    | none => false)
  | _ => (match (q9ge9 E (q.2.1)) with
    | some t => q9nd9 (q9eq9 (t.1) (0)) ((q9nd9 ((q9le9 (0) (q.2.2 - t.2.2))) ((q9lt9 (q.2.2 - t.2.1) (1099511627776)))))
    | none => false)
theorem q9meIn_oq : @q9meIn = @q9meIn_o := by
  delta q9meIn q9meIn_o
  simp only [q9ge9_eq, q9fi9_eq, q9an9_eq, q9al9_eq, q9flt9_eq, q9el9_eq, q9set9_eq, q9ln9_eq, q9gD9_eq, q9ap9_eq, q9eq9_N, q9eq9_I, q9eq9_A, q9eq9_E, q9eq9_OI, q9eq9_ON, q9eq9_OA, q9eq9_L, q9eq9_S, q9de9_N, q9de9_I, q9de9_A, q9le9_N, q9le9_I, q9lt9_N, q9lt9_I, q9de9_E, q9de9_OI, q9de9_ON, q9de9_OA, q9de9_L, q9nd9_eq, q9or9_eq, Bool.cond_decide]
theorem q9meIn_ok {G : q9GH} {E : List q9ET} {r : Nat → Value} (hS : q9SAT G E r) {q : q9ME} (h : q9meIn E q = true) : 0 ≤ q9meV r q ∧ q9meV r q < 1099511627776 := by
  obtain ⟨o, k, n⟩ := q
  (rewrite [q9meIn_oq] at h; unfold q9meIn_o at h)
  unfold q9meV
  match o, h with
  | 0, h =>
    simpa using h
  | 1, h =>
    dsimp only at h ⊢
    cases hE : E[k]? with
    | none => rw [hE] at h; cases h
    | some t =>
      rw [hE] at h
      simp only [Bool.and_eq_true, beq_iff_eq, decide_eq_true_eq] at h
      obtain ⟨h1, h2, -⟩ := q9iv_rng hS hE (.inl h.1)
      show 0 ≤ q9iv r k + n ∧ q9iv r k + n < 1099511627776
      omega
  | _ + 2, h =>
    dsimp only at h ⊢
    cases hE : E[k]? with
    | none => rw [hE] at h; cases h
    | some t =>
      rw [hE] at h
      simp only [Bool.and_eq_true, beq_iff_eq, decide_eq_true_eq] at h
      obtain ⟨h1, h2, -⟩ := q9iv_rng hS hE (.inl h.1)
      show 0 ≤ n - q9iv r k ∧ n - q9iv r k < 1099511627776
      omega
theorem q9meN_lt {r : Nat → Value} : ∀ qs : List q9ME, (∀ q ∈ qs, 0 ≤ q9meV r q ∧ q9meV r q < 1099511627776) → q9meN r qs < 1099511627776 ^ qs.length
  | [], _ => by simp [q9meN]
  | q :: qs, h => by
    have h1 := h q List.mem_cons_self
    have h2 := q9meN_lt qs fun z hz => h z (List.mem_cons_of_mem _ hz)
    show (q9meV r q).toNat * _ + _ < _ ^ (qs.length + 1)
    rw [Nat.pow_succ]
    have h3 : (q9meV r q).toNat + 1 ≤ 1099511627776 := by omega
    calc (q9meV r q).toNat * 1099511627776 ^ qs.length + q9meN r qs < (q9meV r q).toNat * 1099511627776 ^ qs.length + 1099511627776 ^ qs.length := Nat.add_lt_add_left h2 _
      _ = ((q9meV r q).toNat + 1) * 1099511627776 ^ qs.length := (Nat.succ_mul _ _).symm
      _ ≤ 1099511627776 * 1099511627776 ^ qs.length := Nat.mul_le_mul_right _ h3
      _ = _ := Nat.mul_comm _ _
/-- by what is known at x (whose symbols begin with the old ones) a new number is at most an old q9one and d; the new q9one speaks of symbols th -/
noncomputable def q9meLe_o (x : q9ST) (th : List q9AV) (q0 q : q9ME) (d : Int) : Bool := match q0.1, q.1 with
  | 0, 0 => decide (q.2.2 ≤ q0.2.2 + d)
  | 1, 1 => q9okAV (q9tE x) (th.getD q.2.1 (0, 0)) && (q9okAV (q9tE x) (q0.2.1, 0) && q9leB x (th.getD q.2.1 (0, 0)) (q0.2.1, 0) (q0.2.2 + d - q.2.2))
  | 2, 2 => q9okAV (q9tE x) (th.getD q.2.1 (0, 0)) && (q9okAV (q9tE x) (q0.2.1, 0) && q9leB x (q0.2.1, 0) (th.getD q.2.1 (0, 0)) (q0.2.2 + d - q.2.2))
  | _, _ => false
noncomputable def q9meLe (x : q9ST) (th : List q9AV) (q0 q : q9ME) (d : Int) : Bool := match q0.1, q.1 with
  | 0, 0 => (q9le9 (q.2.2) (q0.2.2 + d))
  | 1, 1 => q9nd9 (q9okAV (q9tE x) (q9gD9 th q.2.1 (0, 0))) ((q9nd9 (q9okAV (q9tE x) (q0.2.1, 0)) (q9leB x (q9gD9 th q.2.1 (0, 0)) (q0.2.1, 0) (q0.2.2 + d - q.2.2))))
  | 2, 2 => q9nd9 (q9okAV (q9tE x) (q9gD9 th q.2.1 (0, 0))) ((q9nd9 (q9okAV (q9tE x) (q0.2.1, 0)) (q9leB x (q0.2.1, 0) (q9gD9 th q.2.1 (0, 0)) (q0.2.2 + d - q.2.2))))
  | _, _ => false
theorem q9meLe_oq : @q9meLe = @q9meLe_o := by
  delta q9meLe q9meLe_o
  simp only [q9ge9_eq, q9fi9_eq, q9an9_eq, q9al9_eq, q9flt9_eq, q9el9_eq, q9set9_eq, q9ln9_eq, q9gD9_eq, q9ap9_eq, q9eq9_N, q9eq9_I, q9eq9_A, q9eq9_E, q9eq9_OI, q9eq9_ON, q9eq9_OA, q9eq9_L, q9eq9_S, q9de9_N, q9de9_I, q9de9_A, q9le9_N, q9le9_I, q9lt9_N, q9lt9_I, q9de9_E, q9de9_OI, q9de9_ON, q9de9_OA, q9de9_L, q9nd9_eq, q9or9_eq, Bool.cond_decide]
theorem q9meLe_ok {nL : Nat} {g : List Value} {x : q9ST} {th : List q9AV} {r : Nat → Value} {G : q9GH} {ws : va_W} {ls : Array Slot} {st : List Value} (hM : q9SM O nL g x r G ws ls st) {q0 q : q9ME} {d : Int} (h : q9meLe x th q0 q d = true) : q9meV (q9rh r th) q ≤ q9meV r q0 + d := by
  obtain ⟨o0, k0, n0⟩ := q0
  obtain ⟨o, k, n⟩ := q
  (rewrite [q9meLe_oq] at h; unfold q9meLe_o at h)
  split at h
  · rename_i e1 e2
    dsimp only at e1 e2
    subst e1
    subst e2
    simp only [decide_eq_true_eq] at h
    exact h
  · rename_i e1 e2
    dsimp only at e1 e2
    subst e1
    subst e2
    simp only [Bool.and_eq_true] at h
    have h9 := q9leB_ok hM h.1 h.2.1 h.2.2
    rw [q9ev_zero, q9nv_iv] at h9
    show q9iv (q9rh r th) k + n ≤ q9iv r k0 + n0 + d
    rw [← q9nv_iv]
    have : q9nv (q9rh r th k) ≤ q9iv r k0 + (n0 + d - n) := h9
    omega
  · rename_i e1 e2
    dsimp only at e1 e2
    subst e1
    subst e2
    simp only [Bool.and_eq_true] at h
    have h9 := q9leB_ok hM h.2.1 h.1 h.2.2
    rw [q9ev_zero, q9nv_iv] at h9
    show n - q9iv (q9rh r th) k ≤ n0 - q9iv r k0 + d
    rw [← q9nv_iv (r := q9rh r th)]
    have : q9iv r k0 ≤ q9nv (q9rh r th k) + (n0 + d - n) := h9
    omega
  · cases h
noncomputable def q9meLt (x : q9ST) (th : List q9AV) : List q9ME → List q9ME → Bool
  | q0 :: qs0, q :: qs => q9meLe x th q0 q (-1) || (q9meLe x th q0 q 0 && q9meLt x th qs0 qs)
  | _, _ => false
theorem q9meLt_ok {nL : Nat} {g : List Value} {x : q9ST} {th : List q9AV} {r : Nat → Value} {G : q9GH} {ws : va_W} {ls : Array Slot} {st : List Value} (hM : q9SM O nL g x r G ws ls st) : ∀ (qs0 qs : List q9ME), qs.length = qs0.length → (∀ q ∈ qs, 0 ≤ q9meV (q9rh r th) q ∧ q9meV (q9rh r th) q < 1099511627776) → q9meLt x th qs0 qs = true → q9meN (q9rh r th) qs < q9meN r qs0
  | [], _, _, _, h => by simp [q9meLt] at h
  | _ :: _, [], _, _, h => by simp [q9meLt] at h
  | q0 :: qs0, q :: qs, hl, hin, h => by
    have hl' : qs.length = qs0.length := by simpa using hl
    have hq := hin q List.mem_cons_self
    have hr := fun z hz => hin z (List.mem_cons_of_mem q hz)
    have hb := q9meN_lt (r := q9rh r th) qs hr
    unfold q9meLt at h
    simp only [Bool.or_eq_true, Bool.and_eq_true] at h
    show (q9meV (q9rh r th) q).toNat * _ + _ < (q9meV r q0).toNat * _ + _
    rw [hl'] at hb ⊢
    rcases h with h | ⟨h, h2⟩
    · have h9 := q9meLe_ok hM h
      have h3 : (q9meV (q9rh r th) q).toNat + 1 ≤ (q9meV r q0).toNat := by omega
      calc (q9meV (q9rh r th) q).toNat * 1099511627776 ^ qs0.length + q9meN (q9rh r th) qs < (q9meV (q9rh r th) q).toNat * 1099511627776 ^ qs0.length + 1099511627776 ^ qs0.length := Nat.add_lt_add_left hb _
        _ = ((q9meV (q9rh r th) q).toNat + 1) * 1099511627776 ^ qs0.length := (Nat.succ_mul _ _).symm
        _ ≤ (q9meV r q0).toNat * 1099511627776 ^ qs0.length := Nat.mul_le_mul_right _ h3
        _ ≤ _ := Nat.le_add_right _ _
    · have h9 := q9meLe_ok hM h
      have h3 : (q9meV (q9rh r th) q).toNat ≤ (q9meV r q0).toNat := by omega
      have h4 := q9meLt_ok hM qs0 qs hl' hr h2
      exact Nat.add_lt_add_of_le_of_lt (Nat.mul_le_mul_right _ h3) h4
