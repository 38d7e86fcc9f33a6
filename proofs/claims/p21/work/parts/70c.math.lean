variable {O : ORC}
/-! Math's max, min, abs -/
noncomputable def q9rmB_o (x : q9ST) (rn : q9RN) (rest : List q9AV) : Bool := decide (1 ≤ rn.1) && (decide (26 ≤ rn.2.1) && (decide (q9tN x ≤ rn.2.2.1) && (decide (q9tM x ≤ rn.2.2.2) && decide (q9catS (q9tE x) rest ≤ 8))))
noncomputable def q9rmB (x : q9ST) (rn : q9RN) (rest : List q9AV) : Bool := q9nd9 ((q9le9 (1) (rn.1))) ((q9nd9 ((q9le9 (26) (rn.2.1))) ((q9nd9 ((q9le9 (q9tN x) (rn.2.2.1))) ((q9nd9 ((q9le9 (q9tM x) (rn.2.2.2))) ((q9le9 (q9catS (q9tE x) rest) (8)))))))))
theorem q9rmB_oq : @q9rmB = @q9rmB_o := by
  delta q9rmB q9rmB_o
  simp only [q9ge9_eq, q9fi9_eq, q9an9_eq, q9al9_eq, q9flt9_eq, q9el9_eq, q9set9_eq, q9ln9_eq, q9gD9_eq, q9ap9_eq, q9eq9_N, q9eq9_I, q9eq9_A, q9eq9_E, q9eq9_OI, q9eq9_ON, q9eq9_OA, q9eq9_L, q9eq9_S, q9de9_N, q9de9_I, q9de9_A, q9le9_N, q9le9_I, q9lt9_N, q9lt9_I, q9de9_E, q9de9_OI, q9de9_ON, q9de9_OA, q9de9_L, q9nd9_eq, q9or9_eq, Bool.cond_decide]
noncomputable def q9mathT_o (k : Nat) (x : q9ST) : Option (q9ET × List q9AV) := match k, q9tS x with
  | 1, b :: a :: rest => (match q9num (q9tE x) a, q9num (q9tE x) b with
    | some (0, l1, h1), some (0, l2, h2) => some ((0, max l1 l2, max h1 h2), rest)
    | _, _ => none)
  | 2, b :: a :: rest => (match q9num (q9tE x) a, q9num (q9tE x) b with
    | some (0, l1, h1), some (0, l2, h2) => some ((0, min l1 l2, min h1 h2), rest)
    | _, _ => none)
  | 3, a :: rest => (match q9num (q9tE x) a with
    | some (0, l1, h1) => some ((if 0 ≤ l1 then (0, l1, h1) else if -2147483648 < l1 then (0, 0, max h1 (-l1)) else q9iFull), rest)
    | _ => none)
  | 4, b :: a :: rest => (match q9num (q9tE x) a, q9num (q9tE x) b with
    | some (1, l1, h1), some (1, l2, h2) => some ((1, min l1 l2, min h1 h2), rest)
    | _, _ => none)
  | _, _ => none
noncomputable def q9mathT (k : Nat) (x : q9ST) : Option (q9ET × List q9AV) := match k, q9tS x with
  | 1, b :: a :: rest => (match q9num (q9tE x) a, q9num (q9tE x) b with
    | some (0, l1, h1), some (0, l2, h2) => some ((0, max l1 l2, max h1 h2), rest)
    | _, _ => none)
  | 2, b :: a :: rest => (match q9num (q9tE x) a, q9num (q9tE x) b with
    | some (0, l1, h1), some (0, l2, h2) => some ((0, min l1 l2, min h1 h2), rest)
    | _, _ => none)
  | 3, a :: rest => (match q9num (q9tE x) a with
    | some (0, l1, h1) => some ((bif q9le9 (0) (l1) then (0, l1, h1) else bif q9lt9 (-2147483648) (l1) then (0, 0, max h1 (-l1)) else q9iFull), rest)
    | _ => none)
  | 4, b :: a :: rest => (match q9num (q9tE x) a, q9num (q9tE x) b with
    | some (1, l1, h1), some (1, l2, h2) => some ((1, min l1 l2, min h1 h2), rest)
    | _, _ => none)
  | _, _ => none
theorem q9mathT_oq : @q9mathT = @q9mathT_o := by
  delta q9mathT q9mathT_o
  simp only [q9ge9_eq, q9fi9_eq, q9an9_eq, q9al9_eq, q9flt9_eq, q9el9_eq, q9set9_eq, q9ln9_eq, q9gD9_eq, q9ap9_eq, q9eq9_N, q9eq9_I, q9eq9_A, q9eq9_E, q9eq9_OI, q9eq9_ON, q9eq9_OA, q9eq9_L, q9eq9_S, q9de9_N, q9de9_I, q9de9_A, q9le9_N, q9le9_I, q9lt9_N, q9lt9_I, q9de9_E, q9de9_OI, q9de9_ON, q9de9_OA, q9de9_L, q9nd9_eq, q9or9_eq, Bool.cond_decide]
/-- what a greater or a lesser of q9two is known by -/
noncomputable def q9mathC_o (k : Nat) (x : q9ST) : List (Nat × Nat × Int) := match k, q9tS x with
  | 1, b :: a :: _ => [(a.1, (q9tE x).length, -a.2), (b.1, (q9tE x).length, -b.2)]
  | 2, b :: a :: _ => [((q9tE x).length, a.1, a.2), ((q9tE x).length, b.1, b.2)]
  | _, _ => []
noncomputable def q9mathC (k : Nat) (x : q9ST) : List (Nat × Nat × Int) := match k, q9tS x with
  | 1, b :: a :: _ => [(a.1, (q9ln9 (q9tE x)), -a.2), (b.1, (q9ln9 (q9tE x)), -b.2)]
  | 2, b :: a :: _ => [((q9ln9 (q9tE x)), a.1, a.2), ((q9ln9 (q9tE x)), b.1, b.2)]
  | _, _ => []
theorem q9mathC_oq : @q9mathC = @q9mathC_o := by
  delta q9mathC q9mathC_o
  simp only [q9ge9_eq, q9fi9_eq, q9an9_eq, q9al9_eq, q9flt9_eq, q9el9_eq, q9set9_eq, q9ln9_eq, q9gD9_eq, q9ap9_eq, q9eq9_N, q9eq9_I, q9eq9_A, q9eq9_E, q9eq9_OI, q9eq9_ON, q9eq9_OA, q9eq9_L, q9eq9_S, q9de9_N, q9de9_I, q9de9_A, q9le9_N, q9le9_I, q9lt9_N, q9lt9_I, q9de9_E, q9de9_OI, q9de9_ON, q9de9_OA, q9de9_L, q9nd9_eq, q9or9_eq, Bool.cond_decide]
noncomputable def q9mathX_o (k : Nat) (x : q9ST) : List (Nat × q9AV × q9AV × Nat) := match k, q9tS x with
  | 1, b :: a :: _ => [(60, a, b, (q9tE x).length)]
  | 2, b :: a :: _ => [(61, a, b, (q9tE x).length)]
  | _, _ => []
noncomputable def q9mathX (k : Nat) (x : q9ST) : List (Nat × q9AV × q9AV × Nat) := match k, q9tS x with
  | 1, b :: a :: _ => [(60, a, b, (q9ln9 (q9tE x)))]
  | 2, b :: a :: _ => [(61, a, b, (q9ln9 (q9tE x)))]
  | _, _ => []
theorem q9mathX_oq : @q9mathX = @q9mathX_o := by
  delta q9mathX q9mathX_o
  simp only [q9ge9_eq, q9fi9_eq, q9an9_eq, q9al9_eq, q9flt9_eq, q9el9_eq, q9set9_eq, q9ln9_eq, q9gD9_eq, q9ap9_eq, q9eq9_N, q9eq9_I, q9eq9_A, q9eq9_E, q9eq9_OI, q9eq9_ON, q9eq9_OA, q9eq9_L, q9eq9_S, q9de9_N, q9de9_I, q9de9_A, q9le9_N, q9le9_I, q9lt9_N, q9lt9_I, q9de9_E, q9de9_OI, q9de9_ON, q9de9_OA, q9de9_L, q9nd9_eq, q9or9_eq, Bool.cond_decide]
/-- the lesser of q9two longs, where the first is no greater -/
noncomputable def q9mn4_o (k : Nat) (x : q9ST) : Option (q9AV × List q9AV) := match k, q9tS x with
  | 4, b :: a :: rest => (match q9num (q9tE x) a, q9num (q9tE x) b with
    | some (1, _, h1), some (1, l2, _) => if h1 ≤ l2 then some (a, rest) else none
    | _, _ => none)
  | _, _ => none
noncomputable def q9mn4 (k : Nat) (x : q9ST) : Option (q9AV × List q9AV) := match k, q9tS x with
  | 4, b :: a :: rest => (match q9num (q9tE x) a, q9num (q9tE x) b with
    | some (1, _, h1), some (1, l2, _) => bif q9le9 (h1) (l2) then some (a, rest) else none
    | _, _ => none)
  | _, _ => none
theorem q9mn4_oq : @q9mn4 = @q9mn4_o := by
  delta q9mn4 q9mn4_o
  simp only [q9ge9_eq, q9fi9_eq, q9an9_eq, q9al9_eq, q9flt9_eq, q9el9_eq, q9set9_eq, q9ln9_eq, q9gD9_eq, q9ap9_eq, q9eq9_N, q9eq9_I, q9eq9_A, q9eq9_E, q9eq9_OI, q9eq9_ON, q9eq9_OA, q9eq9_L, q9eq9_S, q9de9_N, q9de9_I, q9de9_A, q9le9_N, q9le9_I, q9lt9_N, q9lt9_I, q9de9_E, q9de9_OI, q9de9_ON, q9de9_OA, q9de9_L, q9nd9_eq, q9or9_eq, Bool.cond_decide]
noncomputable def q9exMath_o (k : Nat) (rn : q9RN) (x : q9ST) (pc' : Nat) : Option (List (Nat × q9ST)) := match q9mn4 k x with
  | some q => if q9rmB x rn q.2 = true then some [(pc', q9sS x (q.1 :: q.2))] else none
  | none => match q9mathT k x with
    | some q => if q9rmB x rn q.2 = true then some [(pc', q9sS (q9sX (q9sC (q9sE x (q9tE x ++ [q.1])) (q9mathC k x ++ q9tC x)) (q9mathX k x ++ q9tX x)) (((q9tE x).length, 0) :: q.2))] else none
    | none => none
noncomputable def q9exMath (k : Nat) (rn : q9RN) (x : q9ST) (pc' : Nat) : Option (List (Nat × q9ST)) := match q9mn4 k x with
  | some q => if q9rmB x rn q.2 = true then some [(pc', q9sS x (q.1 :: q.2))] else none
  | none => match q9mathT k x with
    | some q => if q9rmB x rn q.2 = true then some [(pc', q9sS (q9sX (q9sC (q9sE x ((q9ap9 (q9tE x) ([q.1])))) ((q9ap9 (q9mathC k x) (q9tC x)))) ((q9ap9 (q9mathX k x) (q9tX x)))) (((q9ln9 (q9tE x)), 0) :: q.2))] else none
    | none => none
theorem q9exMath_oq : @q9exMath = @q9exMath_o := by
  delta q9exMath q9exMath_o
  simp only [q9ge9_eq, q9fi9_eq, q9an9_eq, q9al9_eq, q9flt9_eq, q9el9_eq, q9set9_eq, q9ln9_eq, q9gD9_eq, q9ap9_eq, q9eq9_N, q9eq9_I, q9eq9_A, q9eq9_E, q9eq9_OI, q9eq9_ON, q9eq9_OA, q9eq9_L, q9eq9_S, q9de9_N, q9de9_I, q9de9_A, q9le9_N, q9le9_I, q9lt9_N, q9lt9_I, q9de9_E, q9de9_OI, q9de9_ON, q9de9_OA, q9de9_L, q9nd9_eq, q9or9_eq, Bool.cond_decide]
section MT
variable {p : Program} {l : Launch} {e : Env} {R : Room} {ko : Nat × Nat} {s : State} {m : MethodId} {args : Array Value} {below : List Frame} {meth : Method} {c : Code} {Q : State → Prop} {cc : ByteArray}
variable {nL : Nat} {g : List Value} {WP : q9GH → va_W → Heap → List Loc → Prop}
noncomputable def q9MTw (own : String) (q : Nat × Nat) : List Cond := match q.2 with
  | 1 => [.methodLink own q.1 Lib.Math.max.name, .static Lib.Math.max.name, .initialized "java/lang/Math", .code Lib.Math.max.name Lib.Math.max.code 2 (some .int)]
  | 2 => [.methodLink own q.1 Lib.Math.min.name, .static Lib.Math.min.name, .initialized "java/lang/Math", .code Lib.Math.min.name Lib.Math.min.code 2 (some .int)]
  | 3 => [.methodLink own q.1 Lib.Math.abs.name, .static Lib.Math.abs.name, .initialized "java/lang/Math", .code Lib.Math.abs.name Lib.Math.abs.code 1 (some .int)]
  | 4 => [.methodLink own q.1 Lib.MathLoose.min_long.x, .static Lib.MathLoose.min_long.x, .initialized "java/lang/Math", .code Lib.MathLoose.min_long.x Lib.MathLoose.min_long.code 4 (some .long)]
  | 100 => [.fieldLink own q.1 "PuppetFilm$Puppet" "SIDEWAYS" "[I"]
  | _ => [.methodLink own q.1 arraycopyName, .native arraycopyName, .static arraycopyName, .initialized "java/lang/System"]
theorem q9exMath_ok {own : String} {q : Nat × Nat} (hx : p.tables.exec = Jvm.exec) (hb : c.code = cc) (hml : c.maxLocals = nL) (hown : s.vm.findClass own = some m.cls) (hC : ∀ w ∈ q9MTw own q, w.before args s = true) {rn : q9RN} (hR : rn.1 ≤ R.frames ∧ rn.2.1 ≤ R.locals ∧ ko.1 + rn.2.2.1 ≤ R.cells ∧ ko.2 + rn.2.2.2 ≤ R.slots)
    {x : q9ST} {r : Nat → Value} {pc : Nat} {ss : List (Nat × q9ST)} (hw : q9wfB x = true) (hdg : decode cc pc = .ok (.invokestatic q.1, 3)) (h : q9exMath q.2 rn x (pc + 3) = some ss) (hn : q9NX O p l e R ko s m args below meth c Q nL g WP ss x r) : q9GO O p l e R ko s m args below meth c Q nL g WP pc x r := by
  obtain ⟨idx, k⟩ := q
  (rewrite [q9exMath_oq] at h; unfold q9exMath_o at h)
  split at h
  · rename_i z hz
    split at h
    · rename_i hr
      cases h
      (rewrite [q9rmB_oq] at hr; unfold q9rmB_o at hr)
      simp only [Bool.and_eq_true, decide_eq_true_eq] at hr
      obtain ⟨r1, r2, r3, r4, r5⟩ := hr
      intro G ws H locs ls st hM hW
      have okS : ∀ a ∈ q9tS x, q9okAV (q9tE x) a = true := q9wf_S hw
      have hst := hM.2.1
      have hls : c.maxLocals = ls.size := hml.trans hM.1.1.symm
      (rewrite [q9mn4_oq] at hz; unfold q9mn4_o at hz)
      split at hz
      · rename_i b a rest hk9 hT
        have hk9 : k = 4 := hk9
        subst hk9
        split at hz
        · rename_i l1 h1 l2 h2 na nb
          split at hz
          · rename_i hle
            cases hz
            rw [hT] at hst okS
            obtain ⟨u, eu, -, u1, u2⟩ := q9num_long hM.2.2.2.1 (okS a (by simp)) na
            obtain ⟨v, ew, -, v1, v2⟩ := q9num_long hM.2.2.2.1 (okS b (by simp)) nb
            rw [List.map_cons, List.map_cons, eu, ew] at hst
            rw [hst]
            have ho : ∀ a ∈ rest, q9okAV (q9tE x) a = true := fun a ha => okS a (by simp [ha])
            have hh : ((rest.map (q9ev r)).map fun v => v.category).sum + 15 ≤ R.locals := by
              have := q9catS_ok hM.2.2.2.1 rest ho
              have r5 : q9catS (q9tE x) rest ≤ 8 := r5
              have := hR.2.1
              omega
            have kk := hn.one (fun _ _ => rfl) (Nat.le_refl _) G ws H locs ls _ (hM.S (a :: rest)) hW
            rw [List.map_cons, eu] at kk
            refine va_mmin_long hx hb hls hown (hC _ (by simp [q9MTw])) (hC _ (by simp [q9MTw])) (hC _ (by simp [q9MTw])) (hC _ (by simp [q9MTw])) (Nat.le_trans r1 hR.1) hh (Nat.le_trans (Nat.add_le_add_left r3 _) hR.2.2.1) (Nat.le_trans (Nat.add_le_add_left r4 _) hR.2.2.2) hdg ?_
            rw [if_neg (by rw [Int64.lt_iff_toInt_lt]; omega)]
            exact kk
          · cases hz
        · cases hz
      · cases hz
    · cases h
  split at h
  · rename_i z hz
    split at h
    · rename_i hr
      cases h
      (rewrite [q9rmB_oq] at hr; unfold q9rmB_o at hr)
      simp only [Bool.and_eq_true, decide_eq_true_eq] at hr
      obtain ⟨r1, r2, r3, r4, r5⟩ := hr
      intro G ws H locs ls st hM hW
      have okS : ∀ a ∈ q9tS x, q9okAV (q9tE x) a = true := q9wf_S hw
      have fin : ∀ (v : Value), q9tyV G z.1 v → (∀ q ∈ q9mathC k x, q9FCok (q9up r (q9tE x).length v) q) → (∀ q ∈ q9mathX k x, q9EXok O (q9up r (q9tE x).length v) q) → (∀ a ∈ z.2, q9okAV (q9tE x) a = true) → W p l e R s m args below meth c H locs (ko.1 + q9tN x) (ko.2 + q9tM x) Q (F0 m (pc + 3) ls (v :: z.2.map (q9ev r))) := by
        intro v hv hq9 hx9 ho
        have ag : q9agr (q9tE x).length r (q9up r (q9tE x).length v) := fun k hk => q9up_lt hk
        have h9 := ((hM.fresh hw hv).C (C := q9mathC k x ++ q9tC x) fun q hq => (List.mem_append.mp hq).elim (hq9 q) ((hM.fresh hw hv).2.2.2.2.2.2.1 q)).X (X := q9mathX k x ++ q9tX x) fun q hq => (List.mem_append.mp hq).elim (hx9 q) ((hM.fresh hw hv).2.2.2.2.2.2.2 q)
        have kk := hn.one ag (by show _ ≤ (q9tE x ++ [_]).length; rw [List.length_append]; omega) G ws H locs ls _ (h9.S (((q9tE x).length, 0) :: z.2)) hW
        rw [List.map_cons, q9ev_zero, q9up_at, ag.map ho] at kk
        exact kk
      have hst := hM.2.1
      have hls : c.maxLocals = ls.size := hml.trans hM.1.1.symm
      have hcat : ∀ rest : List q9AV, z.2 = rest → (∀ a ∈ rest, q9okAV (q9tE x) a = true) → ((rest.map (q9ev r)).map fun v => v.category).sum + 15 ≤ R.locals := fun rest h9 ho => by
        have := q9catS_ok hM.2.2.2.1 rest ho
        rw [h9] at r5
        have := hR.2.1
        omega
      (rewrite [q9mathT_oq] at hz; unfold q9mathT_o at hz)
      split at hz
      · rename_i b a rest hk9 hT
        have hk9 : k = 1 := hk9
        subst hk9
        split at hz
        · rename_i l1 h1 l2 h2 na nb
          cases hz
          rw [hT] at hst okS
          obtain ⟨u, eu, u0, u1, u2⟩ := q9num_int hM.2.2.2.1 (okS a (by simp)) na
          obtain ⟨v, ew, v0, v1, v2⟩ := q9num_int hM.2.2.2.1 (okS b (by simp)) nb
          rw [List.map_cons, List.map_cons, eu, ew] at hst
          rw [hst]
          have ho : ∀ a ∈ rest, q9okAV (q9tE x) a = true := fun a ha => okS a (by simp [ha])
          have hh := hcat rest rfl ho
          refine va_mmax hx hb hls hown (hC _ (by simp [q9MTw])) (hC _ (by simp [q9MTw])) (hC _ (by simp [q9MTw])) (hC _ (by simp [q9MTw])) (Nat.le_trans r1 hR.1) (by omega) (Nat.le_trans (Nat.add_le_add_left r3 _) hR.2.2.1) (Nat.le_trans (Nat.add_le_add_left r4 _) hR.2.2.2) hdg (fin _ ?_ ?_ ?_ ho)
          · split
            · rename_i hlt
              rw [Int32.lt_iff_toInt_lt] at hlt
              exact ⟨v, rfl, by show max l1 l2 ≤ _; omega, by show _ ≤ max h1 h2; omega⟩
            · rename_i hlt
              rw [Int32.lt_iff_toInt_lt] at hlt
              exact ⟨u, rfl, by show max l1 l2 ≤ _; omega, by show _ ≤ max h1 h2; omega⟩
          · have e9 : ∀ (k9 : Nat) (z9 : Value), k9 < (q9tE x).length → q9iv (q9up r (q9tE x).length z9) k9 = q9iv r k9 := fun k9 z9 h9 => by
              unfold q9iv
              rw [q9up_lt h9]
            have en : ∀ z9 : Int32, q9iv (q9up r (q9tE x).length (.int z9)) (q9tE x).length = z9.toInt := fun z9 => by
              unfold q9iv
              rw [q9up_at]
            have la := q9okAV_lt (okS a (by simp))
            have lb := q9okAV_lt (okS b (by simp))
            intro q hq
            (rewrite [q9mathC_oq] at hq; unfold q9mathC_o at hq)
            rw [hT] at hq
            simp only [List.mem_cons, List.not_mem_nil, or_false] at hq
            unfold q9FCok
            split
            · rename_i hlt
              rw [Int32.lt_iff_toInt_lt] at hlt
              rcases hq with rfl | rfl
              · dsimp only; rw [e9 _ _ la, en]; omega
              · dsimp only; rw [e9 _ _ lb, en]; omega
            · rename_i hlt
              rw [Int32.lt_iff_toInt_lt] at hlt
              rcases hq with rfl | rfl
              · dsimp only; rw [e9 _ _ la, en]; omega
              · dsimp only; rw [e9 _ _ lb, en]; omega
          · have ag : ∀ z9 : Value, q9agr (q9tE x).length r (q9up r (q9tE x).length z9) := fun _ k hk => q9up_lt hk
            intro q hq
            (rewrite [q9mathX_oq] at hq; unfold q9mathX_o at hq)
            rw [hT] at hq
            have hq : q ∈ [(60, a, b, (q9tE x).length)] := hq
            rw [List.mem_singleton] at hq
            subst hq
            unfold q9EXok
            show q9exop O 60 (q9ev (q9up r (q9tE x).length _) a) (q9ev (q9up r (q9tE x).length _) b) = some (q9up r (q9tE x).length _ (q9tE x).length)
            rw [q9up_at, (ag _).ev (okS a (by simp)), (ag _).ev (okS b (by simp)), eu, ew]
            refine congrArg (fun z => some (Value.int z)) ?_
            simp only [Int32.lt_iff_toInt_lt]
            split
            all_goals split
            all_goals first
              | rfl
              | exact Int32.toInt_inj.mp (by omega)
        · cases hz
      · rename_i b a rest hk9 hT
        have hk9 : k = 2 := hk9
        subst hk9
        split at hz
        · rename_i l1 h1 l2 h2 na nb
          cases hz
          rw [hT] at hst okS
          obtain ⟨u, eu, u0, u1, u2⟩ := q9num_int hM.2.2.2.1 (okS a (by simp)) na
          obtain ⟨v, ew, v0, v1, v2⟩ := q9num_int hM.2.2.2.1 (okS b (by simp)) nb
          rw [List.map_cons, List.map_cons, eu, ew] at hst
          rw [hst]
          have ho : ∀ a ∈ rest, q9okAV (q9tE x) a = true := fun a ha => okS a (by simp [ha])
          have hh := hcat rest rfl ho
          refine va_mmin hx hb hls hown (hC _ (by simp [q9MTw])) (hC _ (by simp [q9MTw])) (hC _ (by simp [q9MTw])) (hC _ (by simp [q9MTw])) (Nat.le_trans r1 hR.1) (by omega) (Nat.le_trans (Nat.add_le_add_left r3 _) hR.2.2.1) (Nat.le_trans (Nat.add_le_add_left r4 _) hR.2.2.2) hdg (fin _ ?_ ?_ ?_ ho)
          · split
            · rename_i hlt
              rw [Int32.lt_iff_toInt_lt] at hlt
              exact ⟨v, rfl, by show min l1 l2 ≤ _; omega, by show _ ≤ min h1 h2; omega⟩
            · rename_i hlt
              rw [Int32.lt_iff_toInt_lt] at hlt
              exact ⟨u, rfl, by show min l1 l2 ≤ _; omega, by show _ ≤ min h1 h2; omega⟩
          · have e9 : ∀ (k9 : Nat) (z9 : Value), k9 < (q9tE x).length → q9iv (q9up r (q9tE x).length z9) k9 = q9iv r k9 := fun k9 z9 h9 => by
              unfold q9iv
              rw [q9up_lt h9]
            have en : ∀ z9 : Int32, q9iv (q9up r (q9tE x).length (.int z9)) (q9tE x).length = z9.toInt := fun z9 => by
              unfold q9iv
              rw [q9up_at]
            have la := q9okAV_lt (okS a (by simp))
            have lb := q9okAV_lt (okS b (by simp))
            intro q hq
            (rewrite [q9mathC_oq] at hq; unfold q9mathC_o at hq)
            rw [hT] at hq
            simp only [List.mem_cons, List.not_mem_nil, or_false] at hq
            unfold q9FCok
            split
            · rename_i hlt
              rw [Int32.lt_iff_toInt_lt] at hlt
              rcases hq with rfl | rfl
              · dsimp only; rw [e9 _ _ la, en]; omega
              · dsimp only; rw [e9 _ _ lb, en]; omega
            · rename_i hlt
              rw [Int32.lt_iff_toInt_lt] at hlt
              rcases hq with rfl | rfl
              · dsimp only; rw [e9 _ _ la, en]; omega
              · dsimp only; rw [e9 _ _ lb, en]; omega
          · have ag : ∀ z9 : Value, q9agr (q9tE x).length r (q9up r (q9tE x).length z9) := fun _ k hk => q9up_lt hk
            intro q hq
            (rewrite [q9mathX_oq] at hq; unfold q9mathX_o at hq)
            rw [hT] at hq
            have hq : q ∈ [(61, a, b, (q9tE x).length)] := hq
            rw [List.mem_singleton] at hq
            subst hq
            unfold q9EXok
            show q9exop O 61 (q9ev (q9up r (q9tE x).length _) a) (q9ev (q9up r (q9tE x).length _) b) = some (q9up r (q9tE x).length _ (q9tE x).length)
            rw [q9up_at, (ag _).ev (okS a (by simp)), (ag _).ev (okS b (by simp)), eu, ew]
            refine congrArg (fun z => some (Value.int z)) ?_
            simp only [Int32.lt_iff_toInt_lt]
            split
            all_goals split
            all_goals first
              | rfl
              | exact Int32.toInt_inj.mp (by omega)
        · cases hz
      · rename_i a rest hk9 hT
        have hk9 : k = 3 := hk9
        subst hk9
        split at hz
        · rename_i l1 h1 na
          cases hz
          rw [hT] at hst okS
          obtain ⟨u, eu, u0, u1, u2⟩ := q9num_int hM.2.2.2.1 (okS a (by simp)) na
          rw [List.map_cons, eu] at hst
          rw [hst]
          have ho : ∀ a ∈ rest, q9okAV (q9tE x) a = true := fun a ha => okS a (by simp [ha])
          have hh := hcat rest rfl ho
          refine va_mabs hx hb hls hown (hC _ (by simp [q9MTw])) (hC _ (by simp [q9MTw])) (hC _ (by simp [q9MTw])) (hC _ (by simp [q9MTw])) (Nat.le_trans r1 hR.1) (by omega) (Nat.le_trans (Nat.add_le_add_left r3 _) hR.2.2.1) (Nat.le_trans (Nat.add_le_add_left r4 _) hR.2.2.2) hdg (fin _ ?_ ?_ ?_ ho)
          · have hu : 0 ≤ u ↔ 0 ≤ u.toInt := by rw [Int32.le_iff_toInt_le, Int32.toInt_zero]
            split
            · rename_i hp
              rw [if_pos (hu.mpr (by omega))]
              exact ⟨u, rfl, u1, u2⟩
            · split
              · rename_i hp hm
                by_cases h0 : 0 ≤ u
                · rw [if_pos h0]
                  have := hu.mp h0
                  exact ⟨u, rfl, by show (0 : Int) ≤ _; omega, by show _ ≤ max h1 (-l1); omega⟩
                · rw [if_neg h0]
                  have h9 : ¬ 0 ≤ u.toInt := fun q => h0 (hu.mpr q)
                  have e0 : (0 - u).toInt = -u.toInt := by
                    rw [q9n_sub (by rw [Int32.toInt_zero]; omega) (by rw [Int32.toInt_zero]; omega), Int32.toInt_zero]
                    omega
                  exact ⟨0 - u, rfl, by show (0 : Int) ≤ _; omega, by show _ ≤ max h1 (-l1); omega⟩
              · exact q9iFull_ok _
          · intro q hq
            (rewrite [q9mathC_oq] at hq; unfold q9mathC_o at hq)
            rw [hT] at hq
            cases hq
          · intro q hq
            (rewrite [q9mathX_oq] at hq; unfold q9mathX_o at hq)
            rw [hT] at hq
            have hq : q ∈ ([] : List (Nat × q9AV × q9AV × Nat)) := hq
            cases hq
        · cases hz
      · rename_i b a rest hk9 hT
        have hk9 : k = 4 := hk9
        subst hk9
        split at hz
        · rename_i l1 h1 l2 h2 na nb
          cases hz
          rw [hT] at hst okS
          obtain ⟨u, eu, -, u1, u2⟩ := q9num_long hM.2.2.2.1 (okS a (by simp)) na
          obtain ⟨v, ew, -, v1, v2⟩ := q9num_long hM.2.2.2.1 (okS b (by simp)) nb
          rw [List.map_cons, List.map_cons, eu, ew] at hst
          rw [hst]
          have ho : ∀ a ∈ rest, q9okAV (q9tE x) a = true := fun a ha => okS a (by simp [ha])
          have hh := hcat rest rfl ho
          refine va_mmin_long hx hb hls hown (hC _ (by simp [q9MTw])) (hC _ (by simp [q9MTw])) (hC _ (by simp [q9MTw])) (hC _ (by simp [q9MTw])) (Nat.le_trans r1 hR.1) hh (Nat.le_trans (Nat.add_le_add_left r3 _) hR.2.2.1) (Nat.le_trans (Nat.add_le_add_left r4 _) hR.2.2.2) hdg (fin _ ?_ ?_ ?_ ho)
          · split
            · rename_i hlt
              rw [Int64.lt_iff_toInt_lt] at hlt
              exact ⟨v, rfl, by show min l1 l2 ≤ _; omega, by show _ ≤ min h1 h2; omega⟩
            · rename_i hlt
              rw [Int64.lt_iff_toInt_lt] at hlt
              exact ⟨u, rfl, by show min l1 l2 ≤ _; omega, by show _ ≤ min h1 h2; omega⟩
          · intro q hq
            (rewrite [q9mathC_oq] at hq; unfold q9mathC_o at hq)
            rw [hT] at hq
            cases hq
          · intro q hq
            (rewrite [q9mathX_oq] at hq; unfold q9mathX_o at hq)
            rw [hT] at hq
            have hq : q ∈ ([] : List (Nat × q9AV × q9AV × Nat)) := hq
            cases hq
        · cases hz
      · cases hz
    · cases h
  · cases h
end MT
