variable {O : ORC}
/-! fields and elements -/
noncomputable def q9subB_o (E : List q9ET) (v : q9AV) (t : q9ET) : Bool := match E[v.1]? with
  | some u => (match t.1 with
    | 0 => u.1 == 0 && (decide (t.2.1 ≤ u.2.1 + v.2) && decide (u.2.2 + v.2 ≤ t.2.2))
    | 1 => u.1 == 1 && (decide (t.2.1 ≤ u.2.1) && decide (u.2.2 ≤ t.2.2))
    | 2 => u.1 == 2 && u.2.1 == t.2.1
    | 3 => ((u.1 == 2 || u.1 == 3) && u.2.1 == t.2.1) || u.1 == 4
    | 4 => u.1 == 4
    | 5 => u.1 == 2 || u.1 == 5
    | _ => u.1 == 2 || (u.1 == 3 || u.1 == 4))
  | none => false
noncomputable def q9subB (E : List q9ET) (v : q9AV) (t : q9ET) : Bool := match (q9ge9 E (v.1)) with
  | some u => (match t.1 with
    | 0 => q9nd9 (q9eq9 (u.1) (0)) ((q9nd9 ((q9le9 (t.2.1) (u.2.1 + v.2))) ((q9le9 (u.2.2 + v.2) (t.2.2)))))
    | 1 => q9nd9 (q9eq9 (u.1) (1)) ((q9nd9 ((q9le9 (t.2.1) (u.2.1))) ((q9le9 (u.2.2) (t.2.2)))))
    | 2 => q9nd9 (q9eq9 (u.1) (2)) (q9eq9 (u.2.1) (t.2.1))
    | 3 => q9or9 ((q9nd9 ((q9or9 (q9eq9 (u.1) (2)) (q9eq9 (u.1) (3)))) (q9eq9 (u.2.1) (t.2.1)))) (q9eq9 (u.1) (4))
    | 4 => q9eq9 (u.1) (4)
    | 5 => q9or9 (q9eq9 (u.1) (2)) (q9eq9 (u.1) (5))
    | _ => q9or9 (q9eq9 (u.1) (2)) ((q9or9 (q9eq9 (u.1) (3)) (q9eq9 (u.1) (4)))))
  | none => false
theorem q9subB_oq : @q9subB = @q9subB_o := by
  delta q9subB q9subB_o
  simp only [q9ge9_eq, q9fi9_eq, q9an9_eq, q9al9_eq, q9flt9_eq, q9el9_eq, q9set9_eq, q9ln9_eq, q9gD9_eq, q9ap9_eq, q9eq9_N, q9eq9_I, q9eq9_A, q9eq9_E, q9eq9_OI, q9eq9_ON, q9eq9_OA, q9eq9_L, q9eq9_S, q9de9_N, q9de9_I, q9de9_A, q9le9_N, q9le9_I, q9lt9_N, q9lt9_I, q9de9_E, q9de9_OI, q9de9_ON, q9de9_OA, q9de9_L, q9nd9_eq, q9or9_eq, Bool.cond_decide]
theorem q9sub_ok {G : q9GH} {E : List q9ET} {r : Nat → Value} (hS : q9SAT G E r) {v : q9AV} {t : q9ET} (hv : q9okAV E v = true) (h : q9subB E v t = true) : q9tyV G t (q9ev r v) := by
  (rewrite [q9subB_oq] at h; unfold q9subB_o at h)
  cases hE : E[v.1]? with
  | none => rw [hE] at h; cases h
  | some u =>
    rw [hE] at h
    obtain ⟨uk, ul, uh⟩ := u
    obtain ⟨tk, tl, th⟩ := t
    dsimp only at h
    match tk, h with
    | 0, h =>
      simp only [Bool.and_eq_true, beq_iff_eq, decide_eq_true_eq] at h
      obtain ⟨h0, h1, h2⟩ := h
      subst h0
      obtain ⟨y, e1, -, e3, e4⟩ := q9ev_int hS hE hv
      exact ⟨y, e1, Int.le_trans h1 e3, Int.le_trans e4 h2⟩
    | 1, h =>
      simp only [Bool.and_eq_true, beq_iff_eq, decide_eq_true_eq] at h
      obtain ⟨h0, h1, h2⟩ := h
      subst h0
      obtain ⟨y, e1, e3, e4⟩ := (q9ev_ref hS hE (by simp)).2
      exact ⟨y, e1, Int.le_trans h1 e3, Int.le_trans e4 h2⟩
    | 2, h =>
      simp only [Bool.and_eq_true, beq_iff_eq] at h
      obtain ⟨h0, h1⟩ := h
      subst h0
      subst h1
      exact (q9ev_ref hS hE (by simp)).2
    | 3, h =>
      simp only [Bool.or_eq_true, Bool.and_eq_true, beq_iff_eq] at h
      rcases h with ⟨h0 | h0, h1⟩ | h0
      · subst h0
        subst h1
        exact .inr (q9ev_ref hS hE (by simp)).2
      · subst h0
        subst h1
        exact (q9ev_ref hS hE (by simp)).2
      · subst h0
        exact .inl (q9ev_ref hS hE (by simp)).2
    | 4, h =>
      simp only [beq_iff_eq] at h
      subst h
      exact (q9ev_ref hS hE (by simp)).2
    | 5, h =>
      simp only [Bool.or_eq_true, beq_iff_eq] at h
      rcases h with h | h
      · subst h
        obtain ⟨a, n, e1, -⟩ := (q9ev_ref hS hE (by simp)).2
        exact ⟨a, e1⟩
      · subst h
        obtain ⟨a, e1⟩ := (q9ev_ref hS hE (by simp)).2
        exact ⟨a, e1⟩
    | _ + 6, h =>
      simp only [Bool.or_eq_true, beq_iff_eq] at h
      rcases h with h | h | h
      · subst h
        obtain ⟨a, n, e1, -⟩ := (q9ev_ref hS hE (by simp)).2
        exact .inr ⟨a, e1⟩
      · subst h
        rcases (q9ev_ref hS hE (by simp)).2 with e1 | ⟨a, n, e1, -⟩
        · exact .inl e1
        · exact .inr ⟨a, e1⟩
      · subst h
        exact .inl (q9ev_ref hS hE (by simp)).2
/-- a is at most b + d, by what is known -/
noncomputable def q9leB_o (x : q9ST) (a b : q9AV) (d : Int) : Bool := match q9num (q9tE x) a, q9num (q9tE x) b with
  | some (_, _, ha), some (_, lb, _) => decide (ha ≤ lb + d) || ((a.1 == b.1 && decide (a.2 ≤ b.2 + d)) || ((q9tC x).any (fun q => q.1 == a.1 && (q.2.1 == b.1 && decide (q.2.2 + a.2 ≤ b.2 + d))) || (q9tC x).any (fun q => q.1 == a.1 && (q9tC x).any (fun w => w.1 == q.2.1 && (w.2.1 == b.1 && decide (q.2.2 + w.2.2 + a.2 ≤ b.2 + d))))))
  | _, _ => false
noncomputable def q9leB (x : q9ST) (a b : q9AV) (d : Int) : Bool := match q9num (q9tE x) a, q9num (q9tE x) b with
  | some (_, _, ha), some (_, lb, _) => q9or9 ((q9le9 (ha) (lb + d))) ((q9or9 ((q9nd9 (q9eq9 (a.1) (b.1)) ((q9le9 (a.2) (b.2 + d))))) ((q9or9 (q9an9 (q9tC x) (fun q => q9nd9 (q9eq9 (q.1) (a.1)) ((q9nd9 (q9eq9 (q.2.1) (b.1)) ((q9le9 (q.2.2 + a.2) (b.2 + d))))))) (q9an9 (q9tC x) (fun q => q9nd9 (q9eq9 (q.1) (a.1)) (q9an9 (q9tC x) (fun w => q9nd9 (q9eq9 (w.1) (q.2.1)) ((q9nd9 (q9eq9 (w.2.1) (b.1)) ((q9le9 (q.2.2 + w.2.2 + a.2) (b.2 + d)))))))))))))
  | _, _ => false
theorem q9leB_oq : @q9leB = @q9leB_o := by
  delta q9leB q9leB_o
  simp only [q9ge9_eq, q9fi9_eq, q9an9_eq, q9al9_eq, q9flt9_eq, q9el9_eq, q9set9_eq, q9ln9_eq, q9gD9_eq, q9ap9_eq, q9eq9_N, q9eq9_I, q9eq9_A, q9eq9_E, q9eq9_OI, q9eq9_ON, q9eq9_OA, q9eq9_L, q9eq9_S, q9de9_N, q9de9_I, q9de9_A, q9le9_N, q9le9_I, q9lt9_N, q9lt9_I, q9de9_E, q9de9_OI, q9de9_ON, q9de9_OA, q9de9_L, q9nd9_eq, q9or9_eq, Bool.cond_decide]
theorem q9leB_ok {nL : Nat} {g : List Value} {x : q9ST} {r : Nat → Value} {G : q9GH} {ws : va_W} {ls : Array Slot} {st : List Value} (h : q9SM O nL g x r G ws ls st) {a b : q9AV} {d : Int} (ha : q9okAV (q9tE x) a = true) (hb : q9okAV (q9tE x) b = true) (hl : q9leB x a b d = true) : q9nv (q9ev r a) ≤ q9nv (q9ev r b) + d := by
  (rewrite [q9leB_oq] at hl; unfold q9leB_o at hl)
  cases na : q9num (q9tE x) a with
  | none => rw [na] at hl; cases hl
  | some q1 =>
    cases nb : q9num (q9tE x) b with
    | none => rw [na, nb] at hl; cases hl
    | some q2 =>
      obtain ⟨k1, l1, h1⟩ := q1
      obtain ⟨k2, l2, h2⟩ := q2
      obtain ⟨-, ea, a3, a4⟩ := q9num_ok h.2.2.2.1 ha na
      obtain ⟨-, eb, b3, b4⟩ := q9num_ok h.2.2.2.1 hb nb
      rw [na, nb] at hl
      simp only [Bool.or_eq_true, decide_eq_true_eq, Bool.and_eq_true, beq_iff_eq, List.any_eq_true] at hl
      rcases hl with hl | ⟨hk, hl⟩ | ⟨q, hq, h3, h4, h5⟩ | ⟨q, hq, h3, w, hw9, h4, h5, h6⟩
      · omega
      · rw [hk] at ea
        omega
      · have hf := h.2.2.2.2.2.2.1 q hq
        unfold q9FCok at hf
        rw [h3, h4] at hf
        omega
      · have hf := h.2.2.2.2.2.2.1 q hq
        have hf2 := h.2.2.2.2.2.2.1 w hw9
        unfold q9FCok at hf hf2
        rw [h3] at hf
        rw [h4, h5] at hf2
        omega
/-- sums with q9one part the same are as their other parts -/
noncomputable def q9fitsS_o (x : q9ST) (a b : q9AV) : Bool := match q9num (q9tE x) a, q9num (q9tE x) b with
  | some (0, l1, h1), some (0, l2, h2) => decide (-2147483648 ≤ l1 + l2) && decide (h1 + h2 ≤ 2147483647)
  | _, _ => false
noncomputable def q9fitsS (x : q9ST) (a b : q9AV) : Bool := match q9num (q9tE x) a, q9num (q9tE x) b with
  | some (0, l1, h1), some (0, l2, h2) => q9nd9 ((q9le9 (-2147483648) (l1 + l2))) ((q9le9 (h1 + h2) (2147483647)))
  | _, _ => false
theorem q9fitsS_oq : @q9fitsS = @q9fitsS_o := by
  delta q9fitsS q9fitsS_o
  simp only [q9ge9_eq, q9fi9_eq, q9an9_eq, q9al9_eq, q9flt9_eq, q9el9_eq, q9set9_eq, q9ln9_eq, q9gD9_eq, q9ap9_eq, q9eq9_N, q9eq9_I, q9eq9_A, q9eq9_E, q9eq9_OI, q9eq9_ON, q9eq9_OA, q9eq9_L, q9eq9_S, q9de9_N, q9de9_I, q9de9_A, q9le9_N, q9le9_I, q9lt9_N, q9lt9_I, q9de9_E, q9de9_OI, q9de9_ON, q9de9_OA, q9de9_L, q9nd9_eq, q9or9_eq, Bool.cond_decide]
noncomputable def q9sumF (x : q9ST) (a b : q9AV) (k : Nat) : List (Nat × q9AV × q9AV × Nat) → List (Nat × Nat × Int)
  | [] => []
  | z :: zs => if z.1 = 0 ∧ z.2.1 = a ∧ z.2.2.2 ≠ k ∧ q9fitsS x a b = true ∧ q9fitsS x a z.2.2.1 = true ∧ q9okAV (q9tE x) z.2.2.1 = true then
      (if q9leB x b z.2.2.1 (-1) then (k, z.2.2.2, -1) :: q9sumF x a b k zs else if q9leB x b z.2.2.1 0 then (k, z.2.2.2, 0) :: q9sumF x a b k zs else q9sumF x a b k zs)
    else q9sumF x a b k zs
noncomputable def q9fitsD_o (x : q9ST) (a b : q9AV) : Bool := match q9num (q9tE x) a, q9num (q9tE x) b with
  | some (0, l1, h1), some (0, l2, h2) => decide (-2147483648 ≤ l1 - h2) && decide (h1 - l2 ≤ 2147483647)
  | _, _ => false
noncomputable def q9fitsD (x : q9ST) (a b : q9AV) : Bool := match q9num (q9tE x) a, q9num (q9tE x) b with
  | some (0, l1, h1), some (0, l2, h2) => q9nd9 ((q9le9 (-2147483648) (l1 - h2))) ((q9le9 (h1 - l2) (2147483647)))
  | _, _ => false
theorem q9fitsD_oq : @q9fitsD = @q9fitsD_o := by
  delta q9fitsD q9fitsD_o
  simp only [q9ge9_eq, q9fi9_eq, q9an9_eq, q9al9_eq, q9flt9_eq, q9el9_eq, q9set9_eq, q9ln9_eq, q9gD9_eq, q9ap9_eq, q9eq9_N, q9eq9_I, q9eq9_A, q9eq9_E, q9eq9_OI, q9eq9_ON, q9eq9_OA, q9eq9_L, q9eq9_S, q9de9_N, q9de9_I, q9de9_A, q9le9_N, q9le9_I, q9lt9_N, q9lt9_I, q9de9_E, q9de9_OI, q9de9_ON, q9de9_OA, q9de9_L, q9nd9_eq, q9or9_eq, Bool.cond_decide]
/-- a sum of what was taken away and at most what was q9left -/
noncomputable def q9sumD (x : q9ST) (a b : q9AV) (k : Nat) : List (Nat × q9AV × q9AV × Nat) → List (Nat × Nat × Int)
  | [] => []
  | z :: zs => if z.1 = 1 ∧ z.2.2.1 = a ∧ z.2.1.1 ≠ k ∧ q9fitsS x a b = true ∧ q9fitsD x z.2.1 a = true ∧ q9okAV (q9tE x) z.2.1 = true ∧ q9okAV (q9tE x) (z.2.2.2, 0) = true then
      (if q9leB x b (z.2.2.2, 0) (-1) then (k, z.2.1.1, z.2.1.2 - 1) :: q9sumD x a b k zs else if q9leB x b (z.2.2.2, 0) 0 then (k, z.2.1.1, z.2.1.2) :: ((if q9leB x (z.2.2.2, 0) b 0 then [(z.2.1.1, k, -z.2.1.2)] else []) ++ q9sumD x a b k zs) else q9sumD x a b k zs)
    else q9sumD x a b k zs
noncomputable def q9sumA_o (x : q9ST) (a b : q9AV) (k : Nat) : List (Nat × Nat × Int) := q9sumF x a b k (q9tX x) ++ q9sumD x a b k (q9tX x)
noncomputable def q9sumA (x : q9ST) (a b : q9AV) (k : Nat) : List (Nat × Nat × Int) := (q9ap9 (q9sumF x a b k (q9tX x)) (q9sumD x a b k (q9tX x)))
theorem q9sumA_oq : @q9sumA = @q9sumA_o := by
  delta q9sumA q9sumA_o
  simp only [q9ge9_eq, q9fi9_eq, q9an9_eq, q9al9_eq, q9flt9_eq, q9el9_eq, q9set9_eq, q9ln9_eq, q9gD9_eq, q9ap9_eq, q9eq9_N, q9eq9_I, q9eq9_A, q9eq9_E, q9eq9_OI, q9eq9_ON, q9eq9_OA, q9eq9_L, q9eq9_S, q9de9_N, q9de9_I, q9de9_A, q9le9_N, q9le9_I, q9lt9_N, q9lt9_I, q9de9_E, q9de9_OI, q9de9_ON, q9de9_OA, q9de9_L, q9nd9_eq, q9or9_eq, Bool.cond_decide]
noncomputable def q9exSum_o (x : q9ST) (pc' : Nat) : Option (List (Nat × q9ST)) := match q9tS x with
  | b :: a :: rest => (match q9tyop 0 (q9tE x) a b with
    | some t => (match q9propL (q9sumA x a b (q9res x 0 a b t).2.1) (q9sC (q9res x 0 a b t).1 (q9sumA x a b (q9res x 0 a b t).2.1 ++ q9tC (q9res x 0 a b t).1)) with
      | some y => some [(pc', q9sS y ((q9res x 0 a b t).2 :: rest))]
      | none => some [])
    | none => none)
  | _ => none
noncomputable def q9exSum (x : q9ST) (pc' : Nat) : Option (List (Nat × q9ST)) := match q9tS x with
  | b :: a :: rest => (match q9tyop 0 (q9tE x) a b with
    | some t => (match q9propL (q9sumA x a b (q9res x 0 a b t).2.1) (q9sC (q9res x 0 a b t).1 ((q9ap9 (q9sumA x a b (q9res x 0 a b t).2.1) (q9tC (q9res x 0 a b t).1)))) with
      | some y => some [(pc', q9sS y ((q9res x 0 a b t).2 :: rest))]
      | none => some [])
    | none => none)
  | _ => none
theorem q9exSum_oq : @q9exSum = @q9exSum_o := by
  delta q9exSum q9exSum_o
  simp only [q9ge9_eq, q9fi9_eq, q9an9_eq, q9al9_eq, q9flt9_eq, q9el9_eq, q9set9_eq, q9ln9_eq, q9gD9_eq, q9ap9_eq, q9eq9_N, q9eq9_I, q9eq9_A, q9eq9_E, q9eq9_OI, q9eq9_ON, q9eq9_OA, q9eq9_L, q9eq9_S, q9de9_N, q9de9_I, q9de9_A, q9le9_N, q9le9_I, q9lt9_N, q9lt9_I, q9de9_E, q9de9_OI, q9de9_ON, q9de9_OA, q9de9_L, q9nd9_eq, q9or9_eq, Bool.cond_decide]
theorem q9fitsS_ok {G : q9GH} {x : q9ST} {r : Nat → Value} (hS : q9SAT G (q9tE x) r) {a b : q9AV} (ha : q9okAV (q9tE x) a = true) (hb : q9okAV (q9tE x) b = true) (h : q9fitsS x a b = true) : ∃ u v : Int32, q9ev r a = .int u ∧ q9ev r b = .int v ∧ (u + v).toInt = u.toInt + v.toInt := by
  (rewrite [q9fitsS_oq] at h; unfold q9fitsS_o at h)
  split at h
  · rename_i l1 h1 l2 h2 na nb
    obtain ⟨u, eu, -, u1, u2⟩ := q9num_int hS ha na
    obtain ⟨v, ew, -, v1, v2⟩ := q9num_int hS hb nb
    rw [Bool.and_eq_true, decide_eq_true_eq, decide_eq_true_eq] at h
    exact ⟨u, v, eu, ew, q9n_add (by omega) (by omega)⟩
  · cases h
theorem q9sumF_ok {nL : Nat} {g : List Value} {x : q9ST} {r r' : Nat → Value} {G : q9GH} {ws : va_W} {ls : Array Slot} {st : List Value} (h : q9SM O nL g x r G ws ls st) {a b : q9AV} {k : Nat} (ha : q9okAV (q9tE x) a = true) (hb : q9okAV (q9tE x) b = true) (hk : ∀ u v : Int32, q9ev r a = .int u → q9ev r b = .int v → r' k = .int (u + v)) (hag : q9agr (q9tE x).length r r') :
    ∀ zs : List (Nat × q9AV × q9AV × Nat), (∀ z ∈ zs, q9EXok O r z ∧ z.2.2.2 < (q9tE x).length) → ∀ q ∈ q9sumF x a b k zs, q9FCok r' q
  | [], _, q, hq => by cases hq
  | z :: zs, hz, q, hq => by
    have ih := q9sumF_ok h ha hb hk hag zs fun w hw => hz w (List.mem_cons_of_mem _ hw)
    unfold q9sumF at hq
    split at hq
    · rename_i hc
      obtain ⟨c1, c2, c3, c4, c5, c6⟩ := hc
      obtain ⟨u, v, eu, ew, e1⟩ := q9fitsS_ok h.2.2.2.1 ha hb c4
      obtain ⟨u', v', eu', ew', e2⟩ := q9fitsS_ok h.2.2.2.1 ha c6 c5
      rw [eu] at eu'
      cases eu'
      obtain ⟨hX, hzl⟩ := hz z List.mem_cons_self
      unfold q9EXok at hX
      rw [c1, c2, eu, ew'] at hX
      have hX : some (Value.int (u + v')) = some (r z.2.2.2) := hX
      have hrz : r' z.2.2.2 = .int (u + v') := (hag _ hzl).trans (Option.some.inj hX).symm
      have hrk := hk u v eu ew
      have fin : ∀ d : Int, q9leB x b z.2.2.1 d = true → q9FCok r' (k, z.2.2.2, d) := by
        intro d hd
        have hle := q9leB_ok h hb c6 hd
        rw [ew, ew'] at hle
        have hle : v.toInt ≤ v'.toInt + d := hle
        unfold q9FCok q9iv
        dsimp only
        rw [hrk, hrz]
        show (u + v).toInt ≤ (u + v').toInt + d
        omega
      split at hq
      · rename_i hl
        rcases List.mem_cons.mp hq with rfl | hq
        · exact fin _ hl
        · exact ih q hq
      · split at hq
        · rename_i hl
          rcases List.mem_cons.mp hq with rfl | hq
          · exact fin _ hl
          · exact ih q hq
        · exact ih q hq
    · exact ih q hq
theorem q9sumD_ok {nL : Nat} {g : List Value} {x : q9ST} {r r' : Nat → Value} {G : q9GH} {ws : va_W} {ls : Array Slot} {st : List Value} (h : q9SM O nL g x r G ws ls st) {a b : q9AV} {k : Nat} (ha : q9okAV (q9tE x) a = true) (hb : q9okAV (q9tE x) b = true) (hk : ∀ u v : Int32, q9ev r a = .int u → q9ev r b = .int v → r' k = .int (u + v)) (hag : q9agr (q9tE x).length r r') :
    ∀ zs : List (Nat × q9AV × q9AV × Nat), (∀ z ∈ zs, q9EXok O r z ∧ z.2.2.2 < (q9tE x).length) → ∀ q ∈ q9sumD x a b k zs, q9FCok r' q
  | [], _, q, hq => by cases hq
  | z :: zs, hz, q, hq => by
    have ih := q9sumD_ok h ha hb hk hag zs fun w hw => hz w (List.mem_cons_of_mem _ hw)
    unfold q9sumD at hq
    split at hq
    · rename_i hc
      obtain ⟨c1, c2, c3, c4, c5, c6, c7⟩ := hc
      obtain ⟨u, v, eu, ew, e1⟩ := q9fitsS_ok h.2.2.2.1 ha hb c4
      have hD : ∃ w : Int32, q9ev r z.2.1 = .int w ∧ (w - u).toInt = w.toInt - u.toInt ∧ w.toInt = q9iv r z.2.1.1 + z.2.1.2 := by
        (rewrite [q9fitsD_oq] at c5; unfold q9fitsD_o at c5)
        split at c5
        · rename_i l1 h1 l2 h2 na nb
          obtain ⟨w, ew9, e9, w1, w2⟩ := q9num_int h.2.2.2.1 c6 na
          obtain ⟨u', eu', -, u1, u2⟩ := q9num_int h.2.2.2.1 ha nb
          rw [eu] at eu'
          cases eu'
          rw [Bool.and_eq_true, decide_eq_true_eq, decide_eq_true_eq] at c5
          exact ⟨w, ew9, q9n_sub (by omega) (by omega), e9⟩
        · cases c5
      obtain ⟨w, ew9, e2, e3⟩ := hD
      obtain ⟨hX, hzl⟩ := hz z List.mem_cons_self
      unfold q9EXok at hX
      rw [c1, c2, eu, ew9] at hX
      have hX : some (Value.int (w - u)) = some (r z.2.2.2) := hX
      have hrz : r z.2.2.2 = .int (w - u) := (Option.some.inj hX).symm
      have hrk := hk u v eu ew
      have fin : ∀ d : Int, q9leB x b (z.2.2.2, 0) d = true → q9FCok r' (k, z.2.1.1, z.2.1.2 + d) := by
        intro d hd
        have hle := q9leB_ok h hb c7 hd
        rw [ew, q9ev_zero, hrz] at hle
        have hle : v.toInt ≤ (w - u).toInt + d := hle
        unfold q9FCok
        dsimp only
        rw [hag.iv (q9okAV_lt c6)]
        unfold q9iv at e3 ⊢
        rw [hrk]
        show (u + v).toInt ≤ _
        omega
      split at hq
      · rename_i hl
        rcases List.mem_cons.mp hq with rfl | hq
        · exact fin _ hl
        · exact ih q hq
      · split at hq
        · rename_i hl
          rcases List.mem_cons.mp hq with rfl | hq
          · have := fin _ hl
            rwa [Int.add_zero] at this
          · rcases List.mem_append.mp hq with hq | hq
            · split at hq
              · rename_i hl2
                rw [List.mem_singleton] at hq
                subst hq
                have hle := q9leB_ok h c7 hb hl2
                rw [ew, q9ev_zero, hrz] at hle
                have hle : (w - u).toInt ≤ v.toInt + 0 := hle
                unfold q9FCok
                dsimp only
                rw [hag.iv (q9okAV_lt c6)]
                unfold q9iv at e3 ⊢
                rw [hrk]
                show _ ≤ (u + v).toInt + _
                omega
              · cases hq
            · exact ih q hq
        · exact ih q hq
    · exact ih q hq
section EXS
variable {p : Program} {l : Launch} {e : Env} {R : Room} {ko : Nat × Nat} {s : State} {m : MethodId} {args : Array Value} {below : List Frame} {meth : Method} {c : Code} {Q : State → Prop} {cc : ByteArray}
variable {nL : Nat} {g : List Value} {WP : q9GH → va_W → Heap → List Loc → Prop}
theorem q9exSum_ok {x : q9ST} {r : Nat → Value} {pc pc' : Nat} {ss : List (Nat × q9ST)} (hw : q9wfB x = true) (h : q9exSum x pc' = some ss) (hn : q9NX O p l e R ko s m args below meth c Q nL g WP ss x r)
    (row : ∀ a b : Int32, q9RW p l e R s m args below meth c Q pc pc' [.int b, .int a] [.int (a + b)]) : q9GO O p l e R ko s m args below meth c Q nL g WP pc x r := by
  (rewrite [q9exSum_oq] at h; unfold q9exSum_o at h)
  split at h
  · rename_i b a rest hT
    split at h
    · rename_i t ht
      intro G ws H locs ls st hM hW
      have ha : q9okAV (q9tE x) a = true := q9wf_S hw a (by rw [hT]; exact List.mem_cons_of_mem _ List.mem_cons_self)
      have hb : q9okAV (q9tE x) b = true := q9wf_S hw b (by rw [hT]; exact List.mem_cons_self)
      obtain ⟨⟨v, ev1, ev2⟩, -, -⟩ := q9tyop_ok hM.2.2.2.1 ha hb ht
      obtain ⟨r', g1, g2, g3, g4, -, -, g7, g8⟩ := hM.res hw ha hb ev2 ev1
      have hz : (q9res x 0 a b t).2.2 = 0 := by
        (rewrite [q9res_oq]; unfold q9res_o)
        split <;> rfl
      have hk : ∀ u w : Int32, q9ev r a = .int u → q9ev r b = .int w → r' (q9res x 0 a b t).2.1 = .int (u + w) := by
        intro u w hu hw9
        rw [hu, hw9] at ev1
        have ev1 : some (Value.int (u + w)) = some v := ev1
        rw [Option.some.inj ev1, ← g4]
        show r' _ = q9ev r' ((q9res x 0 a b t).2.1, (q9res x 0 a b t).2.2)
        rw [hz]
        exact q9ev_zero.symm
      have hf : ∀ q ∈ q9sumA x a b (q9res x 0 a b t).2.1, q9FCok r' q := fun q hq => by
        (rewrite [q9sumA_oq] at hq; unfold q9sumA_o at hq)
        rcases List.mem_append.mp hq with hq | hq
        · exact q9sumF_ok hM (k := (q9res x 0 a b t).2.1) ha hb hk g1 (q9tX x) (fun z hz9 => ⟨hM.2.2.2.2.2.2.2 z hz9, (q9wf_X hw z hz9).2.2⟩) q hq
        · exact q9sumD_ok hM (k := (q9res x 0 a b t).2.1) ha hb hk g1 (q9tX x) (fun z hz9 => ⟨hM.2.2.2.2.2.2.2 z hz9, (q9wf_X hw z hz9).2.2⟩) q hq
      have h9 := g3.C (C := q9sumA x a b (q9res x 0 a b t).2.1 ++ q9tC (q9res x 0 a b t).1) fun q hq => by
        rcases List.mem_append.mp hq with hq | hq
        · exact hf q hq
        · exact g3.2.2.2.2.2.2.1 q hq
      obtain ⟨y, e1, m1⟩ := q9propL_ok (q9sumA x a b (q9res x 0 a b t).2.1) _ h9 hf
      rw [e1] at h
      cases h
      obtain ⟨l1, l2, l3, l4⟩ := m1.len
      have k := hn.one g1 (by rw [show (q9tE (q9sS y ((q9res x 0 a b t).2 :: rest))) = q9tE y from rfl, l1]; exact g2) G ws H locs ls _ ((q9more.SM h9 m1).S ((q9res x 0 a b t).2 :: rest)) hW
      have hst := hM.2.1
      rw [hT] at hst
      rw [hst]
      rw [List.map_cons, g4, List.map_congr_left (g := q9ev r) fun q hq => g1.ev (q9wf_S hw q (by rw [hT]; exact List.mem_cons_of_mem _ (List.mem_cons_of_mem _ hq)))] at k
      have k : W p l e R s m args below meth c H locs (ko.1 + q9tN y) (ko.2 + q9tM y) Q (F0 m pc' ls (v :: rest.map (q9ev r))) := k
      rw [l3, l4] at k
      have k : W p l e R s m args below meth c H locs (ko.1 + q9tN (q9res x 0 a b t).1) (ko.2 + q9tM (q9res x 0 a b t).1) Q (F0 m pc' ls (v :: rest.map (q9ev r))) := k
      rw [g7, g8] at k
      match hea : q9ev r a, heb : q9ev r b, ev1 with
      | .int u, .int w, ev1 =>
        cases ev1
        show W p l e R s m args below meth c H locs (ko.1 + q9tN x) (ko.2 + q9tM x) Q (F0 m pc ls (q9ev r b :: q9ev r a :: rest.map (q9ev r)))
        rw [hea, heb]
        exact row u w H locs _ _ ls (rest.map (q9ev r)) k
    · cases h
  · cases h
/-- a sum or difference with a known number keeps its symbol -/
noncomputable def q9addx (x : q9ST) (pc' : Nat) : Option (List (Nat × q9ST)) := match q9tS x with
  | b :: a :: rest => if b.1 = 0 ∧ q9zeroB x = true then (match q9addc x a b.2 with
      | some v => some [(pc', q9sS x (v :: rest))]
      | none => q9exSum x pc')
    else if a.1 = 0 ∧ q9zeroB x = true then (match q9addc x b a.2 with
      | some v => some [(pc', q9sS x (v :: rest))]
      | none => q9exSum x pc')
    else q9exSum x pc'
  | _ => none
theorem q9addx_ok {x : q9ST} {r : Nat → Value} {pc pc' : Nat} {ss : List (Nat × q9ST)} (hw : q9wfB x = true) (h : q9addx x pc' = some ss) (hn : q9NX O p l e R ko s m args below meth c Q nL g WP ss x r)
    (row : ∀ a b : Int32, q9RW p l e R s m args below meth c Q pc pc' [.int b, .int a] [.int (a + b)]) : q9GO O p l e R ko s m args below meth c Q nL g WP pc x r := by
  have hbin : q9exSum x pc' = some ss → q9GO O p l e R ko s m args below meth c Q nL g WP pc x r := fun h => q9exSum_ok hw h hn row
  unfold q9addx at h
  split at h
  · rename_i b a rest hT
    have ha : q9okAV (q9tE x) a = true := q9wf_S hw a (by rw [hT]; exact List.mem_cons_of_mem _ List.mem_cons_self)
    have hb : q9okAV (q9tE x) b = true := q9wf_S hw b (by rw [hT]; exact List.mem_cons_self)
    split at h
    · rename_i hz
      split at h
      · rename_i v hv
        cases h
        intro G ws H locs ls st hM hW
        have hst := hM.2.1
        rw [hT, List.map_cons, List.map_cons] at hst
        obtain ⟨y, e1, e2⟩ := q9addc_ok hM.2.2.2.1 ha hv
        have e3 : q9ev r b = .int (Int32.ofInt b.2) := by
          have := q9zero_ev hM.2.2.2.1 (q9zero_at hz.2) b.2
          rw [show b = (0, b.2) from Prod.ext hz.1 rfl]
          exact this
        rw [hst, e1, e3]
        have k := hn.one q9agr.rf (Nat.le_refl _) G ws H locs ls _ (hM.S (v :: rest)) hW
        rw [List.map_cons, e2] at k
        exact row y _ H locs _ _ ls _ k
      · exact hbin h
    · split at h
      · rename_i hz
        split at h
        · rename_i v hv
          cases h
          intro G ws H locs ls st hM hW
          have hst := hM.2.1
          rw [hT, List.map_cons, List.map_cons] at hst
          obtain ⟨y, e1, e2⟩ := q9addc_ok hM.2.2.2.1 hb hv
          have e3 : q9ev r a = .int (Int32.ofInt a.2) := by
            have := q9zero_ev hM.2.2.2.1 (q9zero_at hz.2) a.2
            rw [show a = (0, a.2) from Prod.ext hz.1 rfl]
            exact this
          rw [hst, e1, e3]
          have k := hn.one q9agr.rf (Nat.le_refl _) G ws H locs ls _ (hM.S (v :: rest)) hW
          rw [List.map_cons, e2, Int32.add_comm] at k
          exact row _ y H locs _ _ ls _ k
        · exact hbin h
      · exact hbin h
  · cases h
end EXS
section HP
variable {p : Program} {l : Launch} {e : Env} {R : Room} {ko : Nat × Nat} {s : State} {m : MethodId} {args : Array Value} {below : List Frame} {meth : Method} {c : Code} {Q : State → Prop} {cc : ByteArray}
variable {nL : Nat} {g : List Value} {D : va_G} {cT : Nat → ClassId} {B : q9TB} {A : Nat → Prop} {H0 : Heap} {G0 : q9GH} {ws0 : va_W} {Wr : List Nat}
/-- the world of a method that began with G0, ws0 -/
noncomputable def q9WM (D : va_G) (cT : Nat → ClassId) (B : q9TB) (A : Nat → Prop) (H0 : Heap) (G0 : q9GH) (ws0 : va_W) (Wr : List Nat) (G : q9GH) (ws : va_W) (H : Heap) (locs : List Loc) : Prop :=
  va_P D vwCl ws H ∧ va_D A ws ∧ va_S A H0 H locs ∧ q9tyW cT B G ws ∧ q9extG G0 G ∧ q9keepW Wr G0 ws0 ws
/-- which field a link of a pool means: (place in the pool, sort, place of the field) -/
noncomputable def q9FLok (cT : Nat → ClassId) (B : q9TB) (s : State) (args : Array Value) (own : String) (q : Nat × Nat × Nat) : Prop :=
  ∃ (C : String) (T : u_T) (N : Nat) (F : List q9ET) (t : q9ET) (ty0 : Nat → FieldType), vwCl[q.2.1]? = some (C, T, N) ∧ q.2.2 < N ∧ (∀ w ∈ u_ws C T N, w.before args s = true) ∧ (Cond.fieldLink own q.1 (T q.2.2).1 (T q.2.2).2.1 (T q.2.2).2.2.1).before args s = true ∧
    B.1[q.2.1]? = some F ∧ F[q.2.2]? = some t ∧ (∀ k, k < N → parseFieldDescriptor (T k).2.2.1 = some (ty0 k)) ∧ (∀ a, a < N → ∀ b, b < N → a ≠ b → (T a).2.1 ≠ (T b).2.1) ∧ ∀ (G : q9GH) (v : Value), q9tyV G t v → narrow (ty0 q.2.2) v = v ∧ fits (ty0 q.2.2) v = true
/-- not final -/
noncomputable def q9FLput (q : Nat × Nat × Nat) : Prop := ∃ r : vw_C, vwCl[q.2.1]? = some r ∧ (r.2.1 q.2.2).2.2.2 = false
/-- what is known of a field, or a symbol for it -/
noncomputable def q9fet_o (B : q9TB) (x : q9ST) (k ci j : Nat) : Option (q9ST × q9AV) := match (q9tF x).find? (fun q => q.1 == k && q.2.1 == j) with
  | some q => some (x, q.2.2)
  | none => match B.1[ci]? with
    | some F => (match F[j]? with
      | some t => some (q9sF (q9sE x (q9tE x ++ [t])) ((k, j, ((q9tE x).length, 0)) :: q9tF x), ((q9tE x).length, 0))
      | none => none)
    | none => none
noncomputable def q9fet (B : q9TB) (x : q9ST) (k ci j : Nat) : Option (q9ST × q9AV) := match q9fi9 (q9tF x) (fun q => q9nd9 (q9eq9 (q.1) (k)) (q9eq9 (q.2.1) (j))) with
  | some q => some (x, q.2.2)
  | none => match (q9ge9 B.1 (ci)) with
    | some F => (match (q9ge9 F (j)) with
      | some t => some (q9sF (q9sE x ((q9ap9 (q9tE x) ([t])))) ((k, j, ((q9ln9 (q9tE x)), 0)) :: q9tF x), ((q9ln9 (q9tE x)), 0))
      | none => none)
    | none => none
theorem q9fet_oq : @q9fet = @q9fet_o := by
  delta q9fet q9fet_o
  simp only [q9ge9_eq, q9fi9_eq, q9an9_eq, q9al9_eq, q9flt9_eq, q9el9_eq, q9set9_eq, q9ln9_eq, q9gD9_eq, q9ap9_eq, q9eq9_N, q9eq9_I, q9eq9_A, q9eq9_E, q9eq9_OI, q9eq9_ON, q9eq9_OA, q9eq9_L, q9eq9_S, q9de9_N, q9de9_I, q9de9_A, q9le9_N, q9le9_I, q9lt9_N, q9lt9_I, q9de9_E, q9de9_OI, q9de9_ON, q9de9_OA, q9de9_L, q9nd9_eq, q9or9_eq, Bool.cond_decide]
theorem q9fet_ok {x x1 : q9ST} {r : Nat → Value} {G : q9GH} {ws : va_W} {ls : Array Slot} {st : List Value} {k ci j : Nat} {v : q9AV} (hw : q9wfB x = true) (hM : q9SM O nL g x r G ws ls st) (hT : q9tyW cT B G ws) (hD : va_D A ws) (hj : j ≠ 1000) {a n : Nat} (hk : r k = .ref a) (hl : k < (q9tE x).length) (hm : (a, ci, n) ∈ G) (hc : ci < 100) (h : q9fet B x k ci j = some (x1, v)) :
    ∃ (r' : Nat → Value) (q : Nat) (fs : List Value) (F : List q9ET), q9agr (q9tE x).length r r' ∧ (q9tE x).length ≤ (q9tE x1).length ∧ q9SM O nL g x1 r' G ws ls st ∧ q9tS x1 = q9tS x ∧ q9tN x1 = q9tN x ∧ q9tM x1 = q9tM x ∧ G[q]? = some (a, ci, n) ∧ ws[q]? = some (a, .inr (ci % 20, fs)) ∧ fs[j]? = some (q9ev r' v) ∧ B.1[ci]? = some F ∧ fs.length = F.length := by
  obtain ⟨q0, e, hg, hq0, hty⟩ := hT.at hm
  rcases hty with ⟨-, fs, F, h2, h3, h4, h5, h6⟩ | ⟨hh, -⟩
  · subst h2
    (rewrite [q9fet_oq] at h; unfold q9fet_o at h)
    split at h
    · rename_i q hq
      cases h
      have h1 := List.find?_some hq
      have h2 := List.mem_of_find?_eq_some hq
      simp only [Bool.and_eq_true, beq_iff_eq] at h1
      have h9 := hM.2.2.2.2.1 q h2
      unfold q9FMok at h9
      rw [if_neg (by rw [h1.2]; exact hj)] at h9
      obtain ⟨a', i, ci', fs', e1, e2, e3⟩ := h9
      rw [h1.1, hk] at e1
      cases e1
      have hi : i = q0 := hD.1 i q0 _ _ e2 hq0 rfl
      subst hi
      rw [hq0] at e2
      cases e2
      rw [h1.2] at e3
      exact ⟨r, i, fs, F, q9agr.rf, Nat.le_refl _, hM, rfl, rfl, rfl, hg, hq0, e3, h3, h4⟩
    · rw [h3] at h
      dsimp only at h
      cases hF : F[j]? with
      | none => rw [hF] at h; cases h
      | some t =>
        rw [hF] at h
        cases h
        have hjl : j < fs.length := by rw [h4]; exact (List.getElem?_eq_some_iff.mp hF).1
        have hv := h5 j t _ hF (List.getElem?_eq_getElem hjl)
        have h9 := hM.fresh hw hv
        have ag : q9agr (q9tE x).length r (q9up r (q9tE x).length fs[j]) := fun k hk => q9up_lt hk
        refine ⟨q9up r (q9tE x).length fs[j], q0, fs, F, ag, ?_, h9.F (fun q hq => ?_), rfl, rfl, rfl, hg, hq0, ?_, h3, h4⟩
        · show _ ≤ (q9tE x ++ [t]).length
          rw [List.length_append]
          omega
        · rcases List.mem_cons.mp hq with rfl | hq
          · unfold q9FMok
            rw [if_neg hj]
            refine ⟨a, q0, ci % 20, fs, (ag _ hl).trans hk, hq0, ?_⟩
            dsimp only
            rw [q9ev_zero, q9up_at]
            exact List.getElem?_eq_getElem hjl
          · exact h9.2.2.2.2.1 q hq
        · rw [q9ev_zero, q9up_at]
          exact List.getElem?_eq_getElem hjl
  · omega
theorem q9ev_isref {r : Nat → Value} {v : q9AV} {a : Nat} (h : q9ev r v = .ref a) : r v.1 = .ref a := by
  unfold q9ev at h
  cases hr : r v.1 with
  | int x => rw [hr] at h; cases h
  | _ => rw [hr] at h; first | exact h | cases h
theorem q9agr.map {E : List q9ET} {r r' : Nat → Value} (h : q9agr E.length r r') {S : List q9AV} (hS : ∀ q ∈ S, q9okAV E q = true) : S.map (q9ev r') = S.map (q9ev r) := List.map_congr_left fun q hq => h.ev (hS q hq)
noncomputable def q9exG_o (B : q9TB) (FL : List (Nat × Nat × Nat)) (x : q9ST) (idx pc' : Nat) : Option (List (Nat × q9ST)) := match q9tS x with
  | a :: rest => (match (q9tE x)[a.1]?, FL.find? (fun q => q.1 == idx) with
    | some (2, cd, _), some q => if cd.toNat % 20 = q.2.1 ∧ cd.toNat < 100 ∧ q.2.2 ≠ 1000 then
        (match q9fet B x a.1 cd.toNat q.2.2 with
        | some (x1, v) => (match B.2.2.find? (fun z => z.1 == cd.toNat && z.2.2 == q.2.2) with
          | none => some [(pc', q9sS x1 (v :: rest))]
          | some z => if q9wfB x1 = true ∧ z.2.1 ≠ 1000 then (match q9fet B x1 a.1 cd.toNat z.2.1 with
              | some (x2, w) => if v.1 < (q9tE x1).length ∧ q9okAV (q9tE x1) v = true then some [(pc', q9sS (q9sF x2 ((v.1, 1000, w) :: q9tF x2)) (v :: rest))] else none
              | none => none) else none)
        | none => none) else none
    | _, _ => none)
  | _ => none
noncomputable def q9exG (B : q9TB) (FL : List (Nat × Nat × Nat)) (x : q9ST) (idx pc' : Nat) : Option (List (Nat × q9ST)) := match q9tS x with
  | a :: rest => (match (q9ge9 (q9tE x) (a.1)), q9fi9 FL (fun q => q9eq9 (q.1) (idx)) with
    | some (2, cd, _), some q => if cd.toNat % 20 = q.2.1 ∧ cd.toNat < 100 ∧ q.2.2 ≠ 1000 then
        (match q9fet B x a.1 cd.toNat q.2.2 with
        | some (x1, v) => (match q9fi9 B.2.2 (fun z => q9nd9 (q9eq9 (z.1) (cd.toNat)) (q9eq9 (z.2.2) (q.2.2))) with
          | none => some [(pc', q9sS x1 (v :: rest))]
          | some z => if q9wfB x1 = true ∧ z.2.1 ≠ 1000 then (match q9fet B x1 a.1 cd.toNat z.2.1 with
              | some (x2, w) => if v.1 < (q9ln9 (q9tE x1)) ∧ q9okAV (q9tE x1) v = true then some [(pc', q9sS (q9sF x2 ((v.1, 1000, w) :: q9tF x2)) (v :: rest))] else none
              | none => none) else none)
        | none => none) else none
    | _, _ => none)
  | _ => none
theorem q9exG_oq : @q9exG = @q9exG_o := by
  delta q9exG q9exG_o
  simp only [q9ge9_eq, q9fi9_eq, q9an9_eq, q9al9_eq, q9flt9_eq, q9el9_eq, q9set9_eq, q9ln9_eq, q9gD9_eq, q9ap9_eq, q9eq9_N, q9eq9_I, q9eq9_A, q9eq9_E, q9eq9_OI, q9eq9_ON, q9eq9_OA, q9eq9_L, q9eq9_S, q9de9_N, q9de9_I, q9de9_A, q9le9_N, q9le9_I, q9lt9_N, q9lt9_I, q9de9_E, q9de9_OI, q9de9_ON, q9de9_OA, q9de9_L, q9nd9_eq, q9or9_eq, Bool.cond_decide]
theorem q9exG_ok {own : String} (hx : p.tables.exec = Jvm.exec) (hb : c.code = cc) (hown : s.vm.findClass own = some m.cls) (hK : va_K D vwCl (TY cT) s) {FL : List (Nat × Nat × Nat)} (hFL : ∀ q ∈ FL, q9FLok cT B s args own q) {x : q9ST} {r : Nat → Value} {idx pc : Nat} {ss : List (Nat × q9ST)} (hw : q9wfB x = true) (hdg : decode cc pc = .ok (.getfield idx, 3)) (h : q9exG B FL x idx (pc + 3) = some ss) (hn : q9NX O p l e R ko s m args below meth c Q nL g (q9WM D cT B A H0 G0 ws0 Wr) ss x r) : q9GO O p l e R ko s m args below meth c Q nL g (q9WM D cT B A H0 G0 ws0 Wr) pc x r := by
  (rewrite [q9exG_oq] at h; unfold q9exG_o at h)
  split at h
  · rename_i a rest hT
    split at h
    · rename_i cd z0 q hE hq
      split at h
      · rename_i hc
        obtain ⟨c1, c2, c3⟩ := hc
        split at h
        · rename_i x1 v hf
          have q1 := List.find?_some hq
          have q2 := List.mem_of_find?_eq_some hq
          simp only [beq_iff_eq] at q1
          intro G ws H locs ls st hM hW
          obtain ⟨hP, hD, hS, hTy, hX, hKe⟩ := hW
          obtain ⟨e0, b, n, eb, hm⟩ := q9ev_ref hM.2.2.2.1 hE (by simp)
          have hk : r a.1 = .ref b := e0.symm.trans eb
          have hm : (b, cd.toNat, n) ∈ G := hm
          have hal : a.1 < (q9tE x).length := (List.getElem?_eq_some_iff.mp hE).1
          obtain ⟨r', i, fs, F, g1, g2, g3, g4, g5, g6, g7, g8, g9, g10, g11⟩ := q9fet_ok hw hM hTy hD c3 hk hal hm c2 hf
          rw [c1] at g8
          obtain ⟨C, T, N, F', t, ty0, l1, l2, l3, l4, l5, l6, l7, l8, l9⟩ := hFL q q2
          rw [q1] at l4
          have hst := hM.2.1
          rw [hT, List.map_cons, eb] at hst
          rw [hst]
          refine va_get (D := D) (ci := q.2.1) (v := q9ev r' v) (C := C) (T := T) (N := N) hx hb l3 (fun _ h9 => h9) hown hK hP i g8 l1 q.2.2 l2 l4 (fun _ h9 => h9) g9 hdg ?_
          have hrest : rest.map (q9ev r') = rest.map (q9ev r) := g1.map fun z hz => q9wf_S hw z (by rw [hT]; exact List.mem_cons_of_mem _ hz)
          split at h
          · cases h
            have k := hn.one g1 g2 G ws H locs ls _ (g3.S (v :: rest)) ⟨hP, hD, hS, hTy, hX, hKe⟩
            rw [List.map_cons, hrest] at k
            have k : W p l e R s m args below meth c H locs (ko.1 + q9tN x1) (ko.2 + q9tM x1) Q (F0 m (pc + 3) ls (q9ev r' v :: rest.map (q9ev r))) := k
            rw [g5, g6] at k
            exact k
          · rename_i z hz
            have z1 := List.find?_some hz
            have z2 := List.mem_of_find?_eq_some hz
            simp only [Bool.and_eq_true, beq_iff_eq] at z1
            split at h
            · rename_i hw1
              split at h
              · rename_i x2 w hf2
                split at h
                · rename_i hvl
                  cases h
                  obtain ⟨r2, i2, fs2, F2, k1, k2, k3, k4, k5, k6, k7, k8, k9, k10, k11⟩ := q9fet_ok hw1.1 g3 hTy hD hw1.2 ((g1 _ hal).trans hk) (Nat.lt_of_lt_of_le hal g2) hm c2 hf2
                  rw [c1] at k8
                  have hii : i2 = i := hD.1 i2 i _ _ k8 g8 rfl
                  subst hii
                  rw [g8] at k8
                  cases k8
                  obtain ⟨e', y1, y2⟩ := hTy.2.1 i2 b cd.toNat n g7
                  rw [g8] at y1
                  cases y1
                  rcases y2 with ⟨-, fs3, F3, f1, -, -, -, f6⟩ | ⟨hh, -⟩
                  · rw [c1] at f1
                    cases f1
                    obtain ⟨u, a3, cd3, n3, u1, u2, u3, u4⟩ := f6 z.2.1 z.2.2 (by rw [← z1.1]; exact z2)
                    rw [z1.2, g9] at u2
                    have u2 : q9ev r' v = .ref a3 := Option.some.inj u2
                    have ev2 : q9ev r2 v = .ref a3 := (k1.ev hvl.2).trans u2
                    rw [k9] at u1
                    have u1 : q9ev r2 w = .int u := Option.some.inj u1
                    have h9 : q9SM O nL g (q9sF x2 ((v.1, 1000, w) :: q9tF x2)) r2 G ws ls _ := k3.F fun qq hqq => by
                      rcases List.mem_cons.mp hqq with rfl | hqq
                      · unfold q9FMok
                        rw [if_pos rfl]
                        exact ⟨a3, cd3, n3, u, q9ev_isref ev2, u3, u1, u4⟩
                      · exact k3.2.2.2.2.1 qq hqq
                    have k := hn.one (g1.tr k1 g2) (Nat.le_trans g2 k2) G ws H locs ls _ (h9.S (v :: rest)) ⟨hP, hD, hS, hTy, hX, hKe⟩
                    have hrest2 : rest.map (q9ev r2) = rest.map (q9ev r) := (g1.tr k1 g2).map fun z hz => q9wf_S hw z (by rw [hT]; exact List.mem_cons_of_mem _ hz)
                    rw [List.map_cons, hrest2, ev2, ← u2] at k
                    have k : W p l e R s m args below meth c H locs (ko.1 + q9tN x2) (ko.2 + q9tM x2) Q (F0 m (pc + 3) ls (q9ev r' v :: rest.map (q9ev r))) := k
                    rw [k5, k6, g5, g6] at k
                    exact k
                  · omega
                · cases h
              · cases h
            · cases h
        · cases h
      · cases h
    · cases h
  · cases h
/-- the type that a code means, for what is known of a symbol -/
noncomputable def q9codeOf_o (x : q9ST) (k : Nat) : Option Nat := match (q9tE x)[k]? with
  | some t => if t.1 = 2 then some t.2.1.toNat else none
  | none => none
noncomputable def q9codeOf (x : q9ST) (k : Nat) : Option Nat := match (q9ge9 (q9tE x) (k)) with
  | some t => bif q9de9 (t.1) (2) then some t.2.1.toNat else none
  | none => none
theorem q9codeOf_oq : @q9codeOf = @q9codeOf_o := by
  delta q9codeOf q9codeOf_o
  simp only [q9ge9_eq, q9fi9_eq, q9an9_eq, q9al9_eq, q9flt9_eq, q9el9_eq, q9set9_eq, q9ln9_eq, q9gD9_eq, q9ap9_eq, q9eq9_N, q9eq9_I, q9eq9_A, q9eq9_E, q9eq9_OI, q9eq9_ON, q9eq9_OA, q9eq9_L, q9eq9_S, q9de9_N, q9de9_I, q9de9_A, q9le9_N, q9le9_I, q9lt9_N, q9lt9_I, q9de9_E, q9de9_OI, q9de9_ON, q9de9_OA, q9de9_L, q9nd9_eq, q9or9_eq, Bool.cond_decide]
theorem q9codeOf_ok {x : q9ST} {r : Nat → Value} {G : q9GH} (hS : q9SAT G (q9tE x) r) {k cd : Nat} (h : q9codeOf x k = some cd) : ∃ a n : Nat, r k = .ref a ∧ (a, cd, n) ∈ G := by
  (rewrite [q9codeOf_oq] at h; unfold q9codeOf_o at h)
  cases hE : (q9tE x)[k]? with
  | none => rw [hE] at h; cases h
  | some t =>
    obtain ⟨tk, lo, hi⟩ := t
    rw [hE] at h
    dsimp only at h
    split at h
    · rename_i h2
      cases h
      subst h2
      obtain ⟨a, n, e1, e2⟩ := hS k _ hE
      exact ⟨a, n, e1, e2⟩
    · cases h
/-- surely a reference -/
noncomputable def q9refB_o (E : List q9ET) (k : Nat) : Bool := match E[k]? with
  | some t => t.1 == 2
  | none => false
noncomputable def q9refB (E : List q9ET) (k : Nat) : Bool := match (q9ge9 E (k)) with
  | some t => q9eq9 (t.1) (2)
  | none => false
theorem q9refB_oq : @q9refB = @q9refB_o := by
  delta q9refB q9refB_o
  simp only [q9ge9_eq, q9fi9_eq, q9an9_eq, q9al9_eq, q9flt9_eq, q9el9_eq, q9set9_eq, q9ln9_eq, q9gD9_eq, q9ap9_eq, q9eq9_N, q9eq9_I, q9eq9_A, q9eq9_E, q9eq9_OI, q9eq9_ON, q9eq9_OA, q9eq9_L, q9eq9_S, q9de9_N, q9de9_I, q9de9_A, q9le9_N, q9le9_I, q9lt9_N, q9lt9_I, q9de9_E, q9de9_OI, q9de9_ON, q9de9_OA, q9de9_L, q9nd9_eq, q9or9_eq, Bool.cond_decide]
theorem q9refB_no {G : q9GH} {E : List q9ET} {r : Nat → Value} (hS : q9SAT G E r) {k : Nat} {ws : va_W} {v1 v2 : Value} (h : q9refB E k = true) (hJ : q9JA O G ws (r k) v1 v2) : False := by
  (rewrite [q9refB_oq] at h; unfold q9refB_o at h)
  cases hE : E[k]? with
  | none => rw [hE] at h; cases h
  | some t =>
    obtain ⟨tk, lo, hi⟩ := t
    rw [hE] at h
    have h0 : tk = 2 := by simpa using h
    subst h0
    obtain ⟨a, n, e1, -⟩ := hS k _ hE
    rw [e1] at hJ
    exact q9JA_ref hJ
theorem q9jB_ref {G : q9GH} {E : List q9ET} {r : Nat → Value} (hS : q9SAT G E r) {Wr : List Nat} {k b : Nat} (h : q9jB Wr E k = true) (e : r k = .ref b) : False := by
  obtain ⟨c, h1, -⟩ := q9jB_ok hS h
  rw [e] at h1
  cases h1
/-- which facts of puppets a symbol tells -/
noncomputable def q9famE_o (E : List q9ET) (k : Nat) : Option Int := match E[k]? with
  | some t => q9famT t
  | none => none
noncomputable def q9famE (E : List q9ET) (k : Nat) : Option Int := match (q9ge9 E (k)) with
  | some t => q9famT t
  | none => none
theorem q9famE_oq : @q9famE = @q9famE_o := by
  delta q9famE q9famE_o
  simp only [q9ge9_eq, q9fi9_eq, q9an9_eq, q9al9_eq, q9flt9_eq, q9el9_eq, q9set9_eq, q9ln9_eq, q9gD9_eq, q9ap9_eq, q9eq9_N, q9eq9_I, q9eq9_A, q9eq9_E, q9eq9_OI, q9eq9_ON, q9eq9_OA, q9eq9_L, q9eq9_S, q9de9_N, q9de9_I, q9de9_A, q9le9_N, q9le9_I, q9lt9_N, q9lt9_I, q9de9_E, q9de9_OI, q9de9_ON, q9de9_OA, q9de9_L, q9nd9_eq, q9or9_eq, Bool.cond_decide]
theorem q9famE_ok {G : q9GH} {E : List q9ET} {r : Nat → Value} (hS : q9SAT G E r) {k : Nat} {c : Int} (h : q9famE E k = some c) (hc : c ≤ -100) : q9nV (r k) = some c := by
  (rewrite [q9famE_oq] at h; unfold q9famE_o at h)
  split at h
  · rename_i t ht
    obtain ⟨c', h1, -, -, -, h2, -⟩ := q9famT_ok h (hS k t ht)
    rw [h1, h2 (by omega)]
  · cases h
/-- what the facts of puppets say, of those that are known -/
theorem q9fm_of {nL : Nat} {g : List Value} {x : q9ST} {r : Nat → Value} {G : q9GH} {ws : va_W} {ls : Array Slot} {st : List Value} (hM : q9SM O nL g x r G ws ls st) {z : Nat × q9AV × q9AV} (hz : z ∈ q9tA x) {c : Int} (hc : q9famE (q9tE x) z.1 = some c) (h100 : c ≤ -100) : q9FMP O c G ws (q9ev r z.2.1) (q9ev r z.2.2) := by
  have h1 := q9famE_ok hM.2.2.2.1 hc h100
  rcases hM.2.2.2.2.2.1 z hz with ⟨a, i, cA, n, f, y, e1, -⟩ | h
  · rw [e1] at h1
    cases h1
  · exact h.new h1 h100
theorem q9fm_mk {r : Nat → Value} {G : q9GH} {ws : va_W} {z : Nat × q9AV × q9AV} {c : Int} (h1 : q9nV (r z.1) = some c) (h2 : c ≤ -100) (h : q9FMP O c G ws (q9ev r z.2.1) (q9ev r z.2.2)) : q9AMok O r G ws z := .inr (.inr ⟨c, h1, h2, h⟩)
/-- a known element of the puppets' array -/
theorem q9pu_el {nL : Nat} {g : List Value} {x : q9ST} {r : Nat → Value} {G : q9GH} {ws : va_W} {ls : Array Slot} {st : List Value} (hM : q9SM O nL g x r G ws ls st) {A : Nat → Prop} (hD : va_D A ws) {q : Nat × q9AV × q9AV} (hq : q ∈ q9tA x) {a : Nat} (ha : r q.1 = .ref a) {f : Nat → Option Nat} (hf : q9puA G ws a f) : ∃ y : Int32, q9ev r q.2.1 = .int y ∧ q9ev r q.2.2 = va_rf (f y.toNatClampNeg) := by
  rcases hM.2.2.2.2.2.1 q hq with ⟨b, i, cA, n, f', y, e1, e2, e3, e4⟩ | h
  · rw [ha] at e1
    cases e1
    obtain ⟨q9, k, n', cA', -, w⟩ := hf
    have hi : i = q9 := hD.1 i q9 _ _ e2 w rfl
    subst hi
    rw [w] at e2
    cases e2
    exact ⟨y, e3, e4⟩
  · rw [ha] at h
    exact (q9JA_ref h).elim
theorem q9va_rf_ref {o : Option Nat} {b : Nat} (h : va_rf o = .ref b) : o = some b := by
  cases o with
  | none => cases h
  | some c => cases h; rfl
/-- puppet p's number is written: what is known of all the others stays -/
noncomputable def q9jPB_o (x : q9ST) (a : q9AV) (j : Nat) (z : Nat × q9AV × q9AV) : Bool := match q9famE (q9tE x) z.1 with
  | some c => (match q9pqC c with
    | some (s, cj, _, _) => j == cj && (z.2.1.2 == 0 && ((q9tA x).any (fun q => q.1 == z.2.1.1 && (q.2.2 == a && ((match q9num (q9tE x) q.2.1 with
      | some (0, l, h) => decide (0 ≤ l) && decide (h < 8)
      | _ => false) && (q9leB x q.2.1 z.2.2 (-s) && q9leB x z.2.2 q.2.1 s)))) && (q9tA x).any (fun y => q9famE (q9tE x) y.1 == some (-100) && y.2.1 == z.2.1)))
    | none => false)
  | none => false
noncomputable def q9jPB (x : q9ST) (a : q9AV) (j : Nat) (z : Nat × q9AV × q9AV) : Bool := match q9famE (q9tE x) z.1 with
  | some c => (match q9pqC c with
    | some (s, cj, _, _) => q9nd9 (q9eq9 (j) (cj)) ((q9nd9 (q9eq9 (z.2.1.2) (0)) ((q9nd9 (q9an9 (q9tA x) (fun q => q9nd9 (q9eq9 (q.1) (z.2.1.1)) ((q9nd9 (q9eq9 (q.2.2) (a)) ((q9nd9 ((match q9num (q9tE x) q.2.1 with
      | some (0, l, h) => q9nd9 ((q9le9 (0) (l))) ((q9lt9 (h) (8)))
      | _ => false)) ((q9nd9 (q9leB x q.2.1 z.2.2 (-s)) (q9leB x z.2.2 q.2.1 s))))))))) (q9an9 (q9tA x) (fun y => q9nd9 (q9eq9 (q9famE (q9tE x) y.1) (some (-100))) (q9eq9 (y.2.1) (z.2.1))))))))
    | none => false)
  | none => false
theorem q9jPB_oq : @q9jPB = @q9jPB_o := by
  delta q9jPB q9jPB_o
  simp only [q9ge9_eq, q9fi9_eq, q9an9_eq, q9al9_eq, q9flt9_eq, q9el9_eq, q9set9_eq, q9ln9_eq, q9gD9_eq, q9ap9_eq, q9eq9_N, q9eq9_I, q9eq9_A, q9eq9_E, q9eq9_OI, q9eq9_ON, q9eq9_OA, q9eq9_L, q9eq9_S, q9de9_N, q9de9_I, q9de9_A, q9le9_N, q9le9_I, q9lt9_N, q9lt9_I, q9de9_E, q9de9_OI, q9de9_ON, q9de9_OA, q9de9_L, q9nd9_eq, q9or9_eq, Bool.cond_decide]
theorem q9jPB_ok {nL : Nat} {g : List Value} {x : q9ST} {r : Nat → Value} {G : q9GH} {ws : va_W} {ls : Array Slot} {st : List Value} (hM : q9SM O nL g x r G ws ls st) (hw : q9wfB x = true) {cT : Nat → ClassId} {B : q9TB} (hT : q9tyW cT B G ws) {A : Nat → Prop} (hD : va_D A ws) {z : Nat × q9AV × q9AV} (hz : z ∈ q9tA x) {a : q9AV} {j b n i ci : Nat} {fs : List Value} {v : Value} (g1 : G[i]? = some (b, 5, n)) (g2 : ws[i]? = some (b, .inr (ci, fs))) (hb : q9ev r a = .ref b) (h : q9jPB x a j z = true) : q9JA O G (ws.set i (b, .inr (ci, fs.set j v))) (r z.1) (q9ev r z.2.1) (q9ev r z.2.2) := by
  (rewrite [q9jPB_oq] at h; unfold q9jPB_o at h)
  split at h
  · rename_i c hc
    split at h
    · rename_i s cj rj rk hp
      obtain ⟨c1, c2⟩ := q9pqC_ok hp
      simp only [Bool.and_eq_true, beq_iff_eq, List.any_eq_true] at h
      obtain ⟨h1, h2, ⟨q, q1, q2, q3, q4, q5, q6⟩, y, y1, y2, y3⟩ := h
      have hP := q9fm_of hM hz hc c1
      rw [c2] at hP
      obtain ⟨a0, p, f, m, fs0, b0, M, e1, e2, e3, e4, e5, e6, e7⟩ := hP
      have hN := q9fm_of hM y1 y2 (by decide)
      rw [q9FMP_na, y3] at hN
      obtain ⟨a1, n1, f1, k1, -, k3, -, -, -, k7⟩ := hN
      rw [e1] at k1
      cases k1
      have hff := q9puA.one hD e3 k3
      subst hff
      have hr : r q.1 = .ref a0 := by
        rw [q2]
        have : q9ev r (z.2.1.1, 0) = .ref a0 := by rw [← h2]; exact e1
        rw [q9ev_zero] at this
        exact this
      obtain ⟨u, u1, u2⟩ := q9pu_el hM hD q1 hr e3
      rw [q3, hb] at u2
      have u2 := q9va_rf_ref u2.symm
      have wq := q9wf_A hw q q1
      have wz := q9wf_A hw z hz
      have hu : 0 ≤ u.toInt ∧ u.toInt < 8 := by
        split at q4
        · rename_i l hh hn
          rw [Bool.and_eq_true, decide_eq_true_eq, decide_eq_true_eq] at q4
          obtain ⟨u', w1, -, w2, w3⟩ := q9num_int hM.2.2.2.1 wq.2.1 hn
          rw [u1] at w1
          cases w1
          omega
        · cases q4
      have l1 := q9leB_ok hM wq.2.1 wz.2.2 q5
      have l2 := q9leB_ok hM wz.2.2 wq.2.1 q6
      rw [u1, e2] at l1
      rw [u1, e2] at l2
      have l1 : u.toInt ≤ p.toInt + -(s : Int) := l1
      have l2 : p.toInt ≤ u.toInt + s := l2
      have eu : u.toNatClampNeg = u.toInt.toNat := rfl
      refine .inr ⟨c, q9famE_ok hM.2.2.2.1 hc c1, c1, ?_⟩
      rw [c2]
      refine ⟨a0, p, f, m, fs0, b0, M, e1, e2, e3.set g2 fun _ => ⟨_, rfl⟩, e4.set g2 fun hh => ?_, e5, e6.set g2 fun _ => ⟨_, rfl⟩, fun t ht hp' => ⟨(e7 t ht hp').1, fun o ho => ?_⟩⟩
      · subst hh
        obtain ⟨q9, n9, w1, w2⟩ := e4
        have hq9 : q9 = i := hD.1 q9 i _ _ w2 g2 rfl
        subst hq9
        rw [g1] at w1
        cases w1
      · obtain ⟨gs, g3, g4⟩ := (e7 t ht hp').2 o ho
        refine ⟨gs, g3.set g2 fun hh => ?_, g4⟩
        exfalso
        subst hh
        have := k7 t u.toNatClampNeg ht (by omega) (by rw [ho, u2]) (by rw [ho]; exact fun hh => by cases hh)
        omega
    · cases h
  · cases h
/-- a known element of the puppets' array -/
theorem q9sh_el {nL : Nat} {g : List Value} {x : q9ST} {r : Nat → Value} {G : q9GH} {ws : va_W} {ls : Array Slot} {st : List Value} (hM : q9SM O nL g x r G ws ls st) {A : Nat → Prop} (hD : va_D A ws) {q : Nat × q9AV × q9AV} (hq : q ∈ q9tA x) {a : Nat} (ha : r q.1 = .ref a) {f : Nat → Option Nat} (hf : q9shA G ws a f) : ∃ y : Int32, q9ev r q.2.1 = .int y ∧ q9ev r q.2.2 = va_rf (f y.toNatClampNeg) := by
  rcases hM.2.2.2.2.2.1 q hq with ⟨b, i, cA, n, f', y, e1, e2, e3, e4⟩ | h
  · rw [ha] at e1
    cases e1
    obtain ⟨q9, k, n', cA', -, w⟩ := hf
    have hi : i = q9 := hD.1 i q9 _ _ e2 w rfl
    subst hi
    rw [w] at e2
    cases e2
    exact ⟨y, e3, e4⟩
  · rw [ha] at h
    exact (q9JA_ref h).elim
/-- puppet p's number is written: what is known of all the others stays -/
noncomputable def q9jPS_o (x : q9ST) (a : q9AV) (j : Nat) (z : Nat × q9AV × q9AV) : Bool := match q9famE (q9tE x) z.1 with
  | some c => (match q9pqS c with
    | some (s, cj, _, _) => (j == cj && (q9tA x).any (fun y => q9famE (q9tE x) y.1 == some (-151) && (y.2.1 == a && y.2.2 == z.2.1))) || (j == cj && (z.2.1.2 == 0 && ((q9tA x).any (fun q => q.1 == z.2.1.1 && (q.2.2 == a && ((match q9num (q9tE x) q.2.1 with
      | some (0, l, h) => decide (0 ≤ l) && decide (h < 12)
      | _ => false) && (q9leB x q.2.1 z.2.2 (-s) && q9leB x z.2.2 q.2.1 s)))) && (q9tA x).any (fun y => q9famE (q9tE x) y.1 == some (-150) && y.2.1 == z.2.1))))
    | none => false)
  | none => false
noncomputable def q9jPS (x : q9ST) (a : q9AV) (j : Nat) (z : Nat × q9AV × q9AV) : Bool := match q9famE (q9tE x) z.1 with
  | some c => (match q9pqS c with
    | some (s, cj, _, _) => q9or9 ((q9nd9 (q9eq9 (j) (cj)) (q9an9 (q9tA x) (fun y => q9nd9 (q9eq9 (q9famE (q9tE x) y.1) (some (-151))) ((q9nd9 (q9eq9 (y.2.1) (a)) (q9eq9 (y.2.2) (z.2.1)))))))) ((q9nd9 (q9eq9 (j) (cj)) ((q9nd9 (q9eq9 (z.2.1.2) (0)) ((q9nd9 (q9an9 (q9tA x) (fun q => q9nd9 (q9eq9 (q.1) (z.2.1.1)) ((q9nd9 (q9eq9 (q.2.2) (a)) ((q9nd9 ((match q9num (q9tE x) q.2.1 with
      | some (0, l, h) => q9nd9 ((q9le9 (0) (l))) ((q9lt9 (h) (12)))
      | _ => false)) ((q9nd9 (q9leB x q.2.1 z.2.2 (-s)) (q9leB x z.2.2 q.2.1 s))))))))) (q9an9 (q9tA x) (fun y => q9nd9 (q9eq9 (q9famE (q9tE x) y.1) (some (-150))) (q9eq9 (y.2.1) (z.2.1))))))))))
    | none => false)
  | none => false
theorem q9jPS_oq : @q9jPS = @q9jPS_o := by
  delta q9jPS q9jPS_o
  simp only [q9ge9_eq, q9fi9_eq, q9an9_eq, q9al9_eq, q9flt9_eq, q9el9_eq, q9set9_eq, q9ln9_eq, q9gD9_eq, q9ap9_eq, q9eq9_N, q9eq9_I, q9eq9_A, q9eq9_E, q9eq9_OI, q9eq9_ON, q9eq9_OA, q9eq9_L, q9eq9_S, q9de9_N, q9de9_I, q9de9_A, q9le9_N, q9le9_I, q9lt9_N, q9lt9_I, q9de9_E, q9de9_OI, q9de9_ON, q9de9_OA, q9de9_L, q9nd9_eq, q9or9_eq, Bool.cond_decide]
theorem q9jPS_ok {nL : Nat} {g : List Value} {x : q9ST} {r : Nat → Value} {G : q9GH} {ws : va_W} {ls : Array Slot} {st : List Value} (hM : q9SM O nL g x r G ws ls st) (hw : q9wfB x = true) {cT : Nat → ClassId} {B : q9TB} (hT : q9tyW cT B G ws) {A : Nat → Prop} (hD : va_D A ws) {z : Nat × q9AV × q9AV} (hz : z ∈ q9tA x) {a : q9AV} {j b n i ci : Nat} {fs : List Value} {v : Value} (g1 : G[i]? = some (b, 7, n)) (g2 : ws[i]? = some (b, .inr (ci, fs))) (hb : q9ev r a = .ref b) (h : q9jPS x a j z = true) : q9JA O G (ws.set i (b, .inr (ci, fs.set j v))) (r z.1) (q9ev r z.2.1) (q9ev r z.2.2) := by
  (rewrite [q9jPS_oq] at h; unfold q9jPS_o at h)
  split at h
  · rename_i c hc
    split at h
    · rename_i s cj rj rk hp
      obtain ⟨c1, c2⟩ := q9pqS_ok hp
      rcases Bool.or_eq_true _ _ ▸ h with h | h
      · -- it is no shot
        simp only [Bool.and_eq_true, beq_iff_eq, List.any_eq_true] at h
        obtain ⟨h1, y, y1, y2, y3, y4⟩ := h
        have hP := q9fm_of hM hz hc c1
        rw [c2] at hP
        obtain ⟨a0, p, f, m, fs0, b0, M, e1, e2, e3, e4, e5, e6, e7⟩ := hP
        have hN := q9fm_of hM y1 y2 (by decide)
        rw [q9FMP_fs, y3, y4, hb, e1] at hN
        obtain ⟨o1, a1, f1, k1, k2, k3, k4⟩ := hN
        cases k1
        cases k2
        have hff := q9shA.one hD e3 k3
        subst hff
        refine .inr ⟨c, q9famE_ok hM.2.2.2.1 hc c1, c1, ?_⟩
        rw [c2]
        refine ⟨a0, p, f, m, fs0, b0, M, e1, e2, e3.set g2 fun _ => ⟨_, rfl⟩, e4.set g2 fun hh => ?_, e5, e6.set g2 fun _ => ⟨_, rfl⟩, fun t ht hp' => ⟨(e7 t ht hp').1, fun o ho => ?_⟩⟩
        · subst hh
          obtain ⟨q9, n9, w1, w2⟩ := e4
          have hq9 : q9 = i := hD.1 q9 i _ _ w2 g2 rfl
          subst hq9
          rw [g1] at w1
          cases w1
        · obtain ⟨gs, u9, g3, g4, g9⟩ := (e7 t ht hp').2 o ho
          refine ⟨gs, u9, g3.set g2 fun hh => ?_, g4, g9⟩
          subst hh
          exact absurd ho (k4 t ht)
      simp only [Bool.and_eq_true, beq_iff_eq, List.any_eq_true] at h
      obtain ⟨h1, h2, ⟨q, q1, q2, q3, q4, q5, q6⟩, y, y1, y2, y3⟩ := h
      have hP := q9fm_of hM hz hc c1
      rw [c2] at hP
      obtain ⟨a0, p, f, m, fs0, b0, M, e1, e2, e3, e4, e5, e6, e7⟩ := hP
      have hN := q9fm_of hM y1 y2 (by decide)
      rw [q9FMP_nb, y3] at hN
      obtain ⟨a1, n1, f1, k1, -, k3, -, -, -, k7⟩ := hN
      rw [e1] at k1
      cases k1
      have hff := q9shA.one hD e3 k3
      subst hff
      have hr : r q.1 = .ref a0 := by
        rw [q2]
        have : q9ev r (z.2.1.1, 0) = .ref a0 := by rw [← h2]; exact e1
        rw [q9ev_zero] at this
        exact this
      obtain ⟨u, u1, u2⟩ := q9sh_el hM hD q1 hr e3
      rw [q3, hb] at u2
      have u2 := q9va_rf_ref u2.symm
      have wq := q9wf_A hw q q1
      have wz := q9wf_A hw z hz
      have hu : 0 ≤ u.toInt ∧ u.toInt < 12 := by
        split at q4
        · rename_i l hh hn
          rw [Bool.and_eq_true, decide_eq_true_eq, decide_eq_true_eq] at q4
          obtain ⟨u', w1, -, w2, w3⟩ := q9num_int hM.2.2.2.1 wq.2.1 hn
          rw [u1] at w1
          cases w1
          omega
        · cases q4
      have l1 := q9leB_ok hM wq.2.1 wz.2.2 q5
      have l2 := q9leB_ok hM wz.2.2 wq.2.1 q6
      rw [u1, e2] at l1
      rw [u1, e2] at l2
      have l1 : u.toInt ≤ p.toInt + -(s : Int) := l1
      have l2 : p.toInt ≤ u.toInt + s := l2
      have eu : u.toNatClampNeg = u.toInt.toNat := rfl
      refine .inr ⟨c, q9famE_ok hM.2.2.2.1 hc c1, c1, ?_⟩
      rw [c2]
      refine ⟨a0, p, f, m, fs0, b0, M, e1, e2, e3.set g2 fun _ => ⟨_, rfl⟩, e4.set g2 fun hh => ?_, e5, e6.set g2 fun _ => ⟨_, rfl⟩, fun t ht hp' => ⟨(e7 t ht hp').1, fun o ho => ?_⟩⟩
      · subst hh
        obtain ⟨q9, n9, w1, w2⟩ := e4
        have hq9 : q9 = i := hD.1 q9 i _ _ w2 g2 rfl
        subst hq9
        rw [g1] at w1
        cases w1
      · obtain ⟨gs, u9, g3, g4, g9⟩ := (e7 t ht hp').2 o ho
        refine ⟨gs, u9, g3.set g2 fun hh => ?_, g4, g9⟩
        exfalso
        subst hh
        have := k7 t u.toNatClampNeg ht (by omega) (by rw [ho, u2]) (by rw [ho]; exact fun hh => by cases hh)
        omega
    · cases h
  · cases h
theorem q9rf_el {nL : Nat} {g : List Value} {x : q9ST} {r : Nat → Value} {G : q9GH} {ws : va_W} {ls : Array Slot} {st : List Value} (hM : q9SM O nL g x r G ws ls st) {A : Nat → Prop} (hD : va_D A ws) {q : Nat × q9AV × q9AV} (hq : q ∈ q9tA x) {a : Nat} (ha : r q.1 = .ref a) {f : Nat → Option Nat} (hf : q9rfA G ws a f) : ∃ y : Int32, q9ev r q.2.1 = .int y ∧ q9ev r q.2.2 = va_rf (f y.toNatClampNeg) := by
  rcases hM.2.2.2.2.2.1 q hq with ⟨b, i, cA, n, f', y, e1, e2, e3, e4⟩ | h
  · rw [ha] at e1
    cases e1
    obtain ⟨q9, k, n', cA', -, w⟩ := hf
    have hi : i = q9 := hD.1 i q9 _ _ e2 w rfl
    subst hi
    rw [w] at e2
    cases e2
    exact ⟨y, e3, e4⟩
  · rw [ha] at h
    exact (q9JA_ref h).elim
/-- a line's own number is written: what is known of the lines ahead stays -/
noncomputable def q9jLB_o (x : q9ST) (a : q9AV) (j : Nat) (z : Nat × q9AV × q9AV) : Bool := match q9famE (q9tE x) z.1 with
  | some c => c == -120 && (j == 2 && (z.2.1.2 == 0 && ((q9tA x).any (fun q => q.1 == z.2.1.1 && (q.2.2 == a && ((match q9num (q9tE x) q.2.1 with
      | some (0, l, h) => decide (0 ≤ l) && decide (h < 60)
      | _ => false) && q9leB x z.2.2 q.2.1 0))) && (q9tA x).any (fun y => q9famE (q9tE x) y.1 == some (-121) && y.2.1 == z.2.1))))
  | none => false
noncomputable def q9jLB (x : q9ST) (a : q9AV) (j : Nat) (z : Nat × q9AV × q9AV) : Bool := match q9famE (q9tE x) z.1 with
  | some c => q9nd9 (q9eq9 (c) (-120)) ((q9nd9 (q9eq9 (j) (2)) ((q9nd9 (q9eq9 (z.2.1.2) (0)) ((q9nd9 (q9an9 (q9tA x) (fun q => q9nd9 (q9eq9 (q.1) (z.2.1.1)) ((q9nd9 (q9eq9 (q.2.2) (a)) ((q9nd9 ((match q9num (q9tE x) q.2.1 with
      | some (0, l, h) => q9nd9 ((q9le9 (0) (l))) ((q9lt9 (h) (60)))
      | _ => false)) (q9leB x z.2.2 q.2.1 0))))))) (q9an9 (q9tA x) (fun y => q9nd9 (q9eq9 (q9famE (q9tE x) y.1) (some (-121))) (q9eq9 (y.2.1) (z.2.1))))))))))
  | none => false
theorem q9jLB_oq : @q9jLB = @q9jLB_o := by
  delta q9jLB q9jLB_o
  simp only [q9ge9_eq, q9fi9_eq, q9an9_eq, q9al9_eq, q9flt9_eq, q9el9_eq, q9set9_eq, q9ln9_eq, q9gD9_eq, q9ap9_eq, q9eq9_N, q9eq9_I, q9eq9_A, q9eq9_E, q9eq9_OI, q9eq9_ON, q9eq9_OA, q9eq9_L, q9eq9_S, q9de9_N, q9de9_I, q9de9_A, q9le9_N, q9le9_I, q9lt9_N, q9lt9_I, q9de9_E, q9de9_OI, q9de9_ON, q9de9_OA, q9de9_L, q9nd9_eq, q9or9_eq, Bool.cond_decide]
theorem q9jLB_ok {nL : Nat} {g : List Value} {x : q9ST} {r : Nat → Value} {G : q9GH} {ws : va_W} {ls : Array Slot} {st : List Value} (hM : q9SM O nL g x r G ws ls st) (hw : q9wfB x = true) {cT : Nat → ClassId} {B : q9TB} (hT : q9tyW cT B G ws) {A : Nat → Prop} (hD : va_D A ws) {z : Nat × q9AV × q9AV} (hz : z ∈ q9tA x) {a : q9AV} {j b n i ci : Nat} {fs : List Value} {v : Value} (g1 : G[i]? = some (b, 2, n)) (g2 : ws[i]? = some (b, .inr (ci, fs))) (hb : q9ev r a = .ref b) (h : q9jLB x a j z = true) : q9JA O G (ws.set i (b, .inr (ci, fs.set j v))) (r z.1) (q9ev r z.2.1) (q9ev r z.2.2) := by
  (rewrite [q9jLB_oq] at h; unfold q9jLB_o at h)
  split at h
  · rename_i c hc
    simp only [Bool.and_eq_true, beq_iff_eq, List.any_eq_true] at h
    obtain ⟨h0, h1, h2, ⟨q, q1, q2, q3, q4, q5⟩, y, y1, y2, y3⟩ := h
    subst h0
    subst h1
    have hP := q9fm_of hM hz hc (by decide)
    rw [q9FMP_5 (by decide)] at hP
    have hN := q9fm_of hM y1 y2 (by decide)
    rw [q9FMP_5 (by decide), y3] at hN
    obtain ⟨a0, zz, f, e1, e2, e3, e4⟩ : q9AMF O G ws (q9ev r z.2.1) (q9ev r z.2.2) := hP
    obtain ⟨a1, f1, k1, k3, k7⟩ : q9DIS G ws (q9ev r z.2.1) (q9ev r y.2.2) := hN
    rw [e1] at k1
    cases k1
    have hff := q9rfA.one hD e3 k3
    subst hff
    have hr : r q.1 = .ref a0 := by
      rw [q2]
      have : q9ev r (z.2.1.1, 0) = .ref a0 := by rw [← h2]; exact e1
      rw [q9ev_zero] at this
      exact this
    obtain ⟨u, u1, u2⟩ := q9rf_el hM hD q1 hr e3
    rw [q3, hb] at u2
    have u2 := q9va_rf_ref u2.symm
    have wq := q9wf_A hw q q1
    have wz := q9wf_A hw z hz
    have hu : 0 ≤ u.toInt ∧ u.toInt < 60 := by
      split at q4
      · rename_i l hh hn
        rw [Bool.and_eq_true, decide_eq_true_eq, decide_eq_true_eq] at q4
        obtain ⟨u', w1, -, w2, w3⟩ := q9num_int hM.2.2.2.1 wq.2.1 hn
        rw [u1] at w1
        cases w1
        omega
      · cases q4
    have l1 := q9leB_ok hM wz.2.2 wq.2.1 q5
    rw [u1, e2] at l1
    have l1 : zz.toInt ≤ u.toInt + 0 := l1
    have eu : u.toNatClampNeg = u.toInt.toNat := rfl
    refine .inr ⟨-120, q9famE_ok hM.2.2.2.1 hc (by decide), by decide, ?_⟩
    rw [q9FMP_5 (by decide)]
    show q9AMF O G _ _ _
    refine ⟨a0, zz, f, e1, e2, e3.set g2 fun _ => ⟨_, rfl⟩, fun t ht hk => ?_⟩
    obtain ⟨o, gs, m9, o1, o2, o3, o4⟩ := e4 t ht hk
    refine ⟨o, gs, m9, o1, o2.set g2 fun hh => ?_, o3, o4⟩
    exfalso
    subst hh
    have := k7 t u.toNatClampNeg (by omega) (by omega) (by rw [o1, u2]) (by rw [o1]; exact fun hh => by cases hh)
    omega
  · cases h
noncomputable def q9exP_o (B : q9TB) (PL : List (Nat × Nat × Nat)) (Wr : List Nat) (x : q9ST) (idx pc' : Nat) : Option (List (Nat × q9ST)) := match q9tS x with
  | v :: a :: rest => (match q9codeOf x a.1, PL.find? (fun q => q.1 == idx) with
    | some cd, some q => (match B.1[q.2.1]?, B.1[cd]? with
      | some F, some F9 => (match F[q.2.2]?, F9[q.2.2]? with
        | some t, some t9 => if cd % 20 = q.2.1 ∧ cd < 100 ∧ q.2.2 ≠ 1000 ∧ (q9subB (q9tE x) v t && q9subB (q9tE x) v t9) = true ∧ Wr.elem (64 * cd + q.2.2) = true ∧ B.2.2.all (fun z => !(z.1 == cd) || (!(z.2.1 == q.2.2) && !(z.2.2 == q.2.2))) = true then
            some [(pc', q9sS (q9sA (q9sF x ((a.1, q.2.2, v) :: (q9tF x).filter (fun z => !(z.2.1 == q.2.2) || ((match q9codeOf x z.1 with | some cd' => !(cd' == cd) | none => false) || z.2.2 == v)))) ((q9tA x).filter (fun z => q9refB (q9tE x) z.1 || q9jB [64 * cd + q.2.2] (q9tE x) z.1 || (cd == 5 && q9jPB x a q.2.2 z) || (cd == 2 && q9jLB x a q.2.2 z) || (cd == 7 && q9jPS x a q.2.2 z)))) rest)] else none
        | _, _ => none)
      | _, _ => none)
    | _, _ => none)
  | _ => none
noncomputable def q9exP (B : q9TB) (PL : List (Nat × Nat × Nat)) (Wr : List Nat) (x : q9ST) (idx pc' : Nat) : Option (List (Nat × q9ST)) := match q9tS x with
  | v :: a :: rest => (match q9codeOf x a.1, q9fi9 PL (fun q => q9eq9 (q.1) (idx)) with
    | some cd, some q => (match (q9ge9 B.1 (q.2.1)), (q9ge9 B.1 (cd)) with
      | some F, some F9 => (match (q9ge9 F (q.2.2)), (q9ge9 F9 (q.2.2)) with
        | some t, some t9 => if cd % 20 = q.2.1 ∧ cd < 100 ∧ q.2.2 ≠ 1000 ∧ (q9nd9 (q9subB (q9tE x) v t) (q9subB (q9tE x) v t9)) = true ∧ q9el9 Wr (64 * cd + q.2.2) = true ∧ q9al9 B.2.2 (fun z => q9or9 (!(q9eq9 (z.1) (cd))) ((q9nd9 (!(q9eq9 (z.2.1) (q.2.2))) (!(q9eq9 (z.2.2) (q.2.2)))))) = true then
            some [(pc', q9sS (q9sA (q9sF x ((a.1, q.2.2, v) :: q9flt9 (q9tF x) (fun z => q9or9 (!(q9eq9 (z.2.1) (q.2.2))) ((q9or9 ((match q9codeOf x z.1 with | some cd' => !(q9eq9 (cd') (cd)) | none => false)) (q9eq9 (z.2.2) (v))))))) (q9flt9 (q9tA x) (fun z => q9or9 (q9or9 (q9or9 (q9or9 (q9refB (q9tE x) z.1) (q9jB [64 * cd + q.2.2] (q9tE x) z.1)) ((q9nd9 (q9eq9 (cd) (5)) (q9jPB x a q.2.2 z)))) ((q9nd9 (q9eq9 (cd) (2)) (q9jLB x a q.2.2 z)))) ((q9nd9 (q9eq9 (cd) (7)) (q9jPS x a q.2.2 z)))))) rest)] else none
        | _, _ => none)
      | _, _ => none)
    | _, _ => none)
  | _ => none
theorem q9exP_oq : @q9exP = @q9exP_o := by
  delta q9exP q9exP_o
  simp only [q9ge9_eq, q9fi9_eq, q9an9_eq, q9al9_eq, q9flt9_eq, q9el9_eq, q9set9_eq, q9ln9_eq, q9gD9_eq, q9ap9_eq, q9eq9_N, q9eq9_I, q9eq9_A, q9eq9_E, q9eq9_OI, q9eq9_ON, q9eq9_OA, q9eq9_L, q9eq9_S, q9de9_N, q9de9_I, q9de9_A, q9le9_N, q9le9_I, q9lt9_N, q9lt9_I, q9de9_E, q9de9_OI, q9de9_ON, q9de9_OA, q9de9_L, q9nd9_eq, q9or9_eq, Bool.cond_decide]
theorem q9exP_ok {own : String} (hx : p.tables.exec = Jvm.exec) (hb : c.code = cc) (hown : s.vm.findClass own = some m.cls) (hK : va_K D vwCl (TY cT) s) {PL : List (Nat × Nat × Nat)} (hFL : ∀ q ∈ PL, q9FLok cT B s args own q) (hFp : ∀ q ∈ PL, q9FLput q) {x : q9ST} {r : Nat → Value} {idx pc : Nat} {ss : List (Nat × q9ST)} (hw : q9wfB x = true) (hdg : decode cc pc = .ok (.putfield idx, 3)) (h : q9exP B PL Wr x idx (pc + 3) = some ss) (hn : q9NX O p l e R ko s m args below meth c Q nL g (q9WM D cT B A H0 G0 ws0 Wr) ss x r) : q9GO O p l e R ko s m args below meth c Q nL g (q9WM D cT B A H0 G0 ws0 Wr) pc x r := by
  (rewrite [q9exP_oq] at h; unfold q9exP_o at h)
  split at h
  · rename_i v a rest hT
    split at h
    · rename_i cd q hcd hq
      split at h
      · rename_i F F9 hF hF9
        split at h
        · rename_i t t9 ht ht9
          split at h
          · rename_i hc
            obtain ⟨c1, c2, c3, c4, c5, c6⟩ := hc
            cases h
            have q1 := List.find?_some hq
            have q2 := List.mem_of_find?_eq_some hq
            simp only [beq_iff_eq] at q1
            intro G ws H locs ls st hM hW
            obtain ⟨hP, hD, hS, hTy, hX, hKe⟩ := hW
            obtain ⟨b, n, eb, hm⟩ := q9codeOf_ok hM.2.2.2.1 hcd
            have eb' : q9ev r a = .ref b := by
              unfold q9ev
              rw [eb]
            obtain ⟨i, e, g1, g2, g3⟩ := hTy.at hm
            rcases g3 with ⟨-, fs, F', f1, f2, f3, f4, f5⟩ | ⟨hh, -⟩
            · rw [c1] at f1
              subst f1
              rw [hF9] at f2
              cases f2
              have hv : q9okAV (q9tE x) v = true := q9wf_S hw v (by rw [hT]; exact List.mem_cons_self)
              rw [Bool.and_eq_true] at c4
              have htv := q9sub_ok hM.2.2.2.1 hv c4.1
              have htv9 := q9sub_ok hM.2.2.2.1 hv c4.2
              obtain ⟨C, T, N, F', t', ty0, l1, l2, l3, l4, l5, l6, l7, l8, l9⟩ := hFL q q2
              rw [hF] at l5
              cases l5
              rw [ht] at l6
              cases l6
              obtain ⟨n1, n2⟩ := l9 G _ htv
              obtain ⟨rc, p1, p2⟩ := hFp q q2
              rw [l1] at p1
              cases p1
              rw [q1] at l4
              have hjl : q.2.2 < fs.length := by rw [f3]; exact (List.getElem?_eq_some_iff.mp ht9).1
              have hst := hM.2.1
              rw [hT, List.map_cons, List.map_cons, eb'] at hst
              rw [hst]
              refine va_put (D := D) (ci := q.2.1) (v := q9ev r v) (C := C) (T := T) (N := N) hx hb l3 (fun _ h9 => h9) ty0 l7 l8 hown hK hP hD hS i g2 l1 q.2.2 l2 l4 (fun _ h9 => h9) p2 (l7 _ l2) n1 n2 hjl hdg fun H1 locs1 hP1 hD1 hS1 => ?_
              have hTy1 : q9tyW cT B G (ws.set i (b, .inr (q.2.1, fs.set q.2.2 (q9ev r v)))) := hTy.set g1 (.inl ⟨c2, _, F9, by rw [c1], hF9, by rw [List.length_set]; exact f3, fun j f w hj hw' => by
                by_cases hjj : j = q.2.2
                · subst hjj
                  rw [List.getElem?_set_self hjl] at hw'
                  rw [ht9] at hj
                  cases hj
                  cases hw'
                  exact htv9
                · rw [List.getElem?_set_ne (fun z => hjj z.symm)] at hw'
                  exact f4 j f w hj hw', fun j j' hj => by
                obtain ⟨u, a3, cd3, n3, u1, u2, u3, u4⟩ := f5 j j' hj
                have hne := List.all_eq_true.mp c6 _ hj
                simp only [beq_self_eq_true, Bool.not_true, Bool.false_or, Bool.and_eq_true, Bool.not_eq_true', beq_eq_false_iff_ne, ne_eq] at hne
                exact ⟨u, a3, cd3, n3, by rw [List.getElem?_set_ne (fun z => hne.1 z.symm)]; exact u1, by rw [List.getElem?_set_ne (fun z => hne.2 z.symm)]; exact u2, u3, u4⟩⟩)
              have hke : q9keepW Wr G ws (ws.set i (b, .inr (q.2.1, fs.set q.2.2 (q9ev r v)))) := q9keepW.set g1 g2 ⟨rfl, List.length_set .., fun j hj => by
                rw [List.getElem?_set_ne (fun z => hj (by rw [← z]; exact List.elem_iff.mp c5))]⟩
              have hke1 : q9keepW [64 * cd + q.2.2] G ws (ws.set i (b, .inr (q.2.1, fs.set q.2.2 (q9ev r v)))) := q9keepW.set g1 g2 ⟨rfl, List.length_set .., fun j hj => by
                rw [List.getElem?_set_ne (fun z => hj (by rw [← z]; exact List.mem_cons_self))]⟩
              have hM2 : q9SM O nL g (q9sA (q9sF x ((a.1, q.2.2, v) :: (q9tF x).filter (fun z => !(z.2.1 == q.2.2) || ((match q9codeOf x z.1 with | some cd' => !(cd' == cd) | none => false) || z.2.2 == v)))) ((q9tA x).filter (fun z => q9refB (q9tE x) z.1 || q9jB [64 * cd + q.2.2] (q9tE x) z.1 || (cd == 5 && q9jPB x a q.2.2 z) || (cd == 2 && q9jLB x a q.2.2 z) || (cd == 7 && q9jPS x a q.2.2 z)))) r G (ws.set i (b, .inr (q.2.1, fs.set q.2.2 (q9ev r v)))) ls st := by
                refine ⟨hM.1, hM.2.1, hM.2.2.1, hM.2.2.2.1, fun z hz => ?_, fun z hz => ?_, hM.2.2.2.2.2.2⟩
                · rcases List.mem_cons.mp hz with rfl | hz
                  · unfold q9FMok
                    rw [if_neg c3]
                    exact ⟨b, i, q.2.1, _, eb, by rw [List.getElem?_set_self (List.getElem?_eq_some_iff.mp g2).1], List.getElem?_set_self hjl⟩
                  · obtain ⟨z1, z2⟩ := List.mem_filter.mp hz
                    have h9 := hM.2.2.2.2.1 z z1
                    unfold q9FMok at h9 ⊢
                    split
                    · rename_i h0
                      rw [if_pos h0] at h9
                      exact h9
                    · rename_i h0
                      rw [if_neg h0] at h9
                      obtain ⟨b', i', ci', fs', e1, e2, e3⟩ := h9
                      by_cases hii : i' = i
                      · subst hii
                        rw [g2] at e2
                        cases e2
                        refine ⟨b, i', q.2.1, _, e1, by rw [List.getElem?_set_self (List.getElem?_eq_some_iff.mp g2).1], ?_⟩
                        simp only [Bool.or_eq_true, Bool.not_eq_true', beq_eq_false_iff_ne, ne_eq] at z2
                        rcases z2 with z2 | z2 | z2
                        · rw [List.getElem?_set_ne (fun y => z2 y.symm)]
                          exact e3
                        rotate_left
                        · by_cases hj9 : z.2.1 = q.2.2
                          · rw [hj9, List.getElem?_set_self hjl, beq_iff_eq.mp z2]
                          · rw [List.getElem?_set_ne (fun y => hj9 y.symm)]
                            exact e3
                        · exfalso
                          cases hcz : q9codeOf x z.1 with
                          | none => rw [hcz] at z2; cases z2
                          | some cd' =>
                            rw [hcz] at z2
                            obtain ⟨b2, n2', y1, y2⟩ := q9codeOf_ok hM.2.2.2.1 hcz
                            rw [e1] at y1
                            cases y1
                            have := (hTy.one hD y2 hm).1
                            simp [this] at z2
                      · exact ⟨b', i', ci', fs', e1, by rw [List.getElem?_set_ne (fun y => hii y.symm)]; exact e2, e3⟩
                · obtain ⟨hz, hzb⟩ := List.mem_filter.mp hz
                  rcases hM.2.2.2.2.2.1 z hz with ⟨b', i', cA, n', f, y, e1, e2, e3, e4⟩ | hJ
                  case inr =>
                    rcases Bool.or_eq_true _ _ ▸ hzb with hzb | hzb
                    rotate_left
                    · rw [Bool.and_eq_true, beq_iff_eq] at hzb
                      exact .inr (q9jPS_ok hM hw hTy hD hz (by have h5 := hzb.1; rw [h5] at g1; exact g1) g2 eb' hzb.2)
                    rcases Bool.or_eq_true _ _ ▸ hzb with hzb | hzb
                    rotate_left
                    · rw [Bool.and_eq_true, beq_iff_eq] at hzb
                      exact .inr (q9jLB_ok hM hw hTy hD hz (by have h5 := hzb.1; rw [h5] at g1; exact g1) g2 eb' hzb.2)
                    rcases Bool.or_eq_true _ _ ▸ hzb with hzb | hzb
                    · rcases Bool.or_eq_true _ _ ▸ hzb with hzb | hzb
                      · exact (q9refB_no hM.2.2.2.1 hzb hJ).elim
                      · exact .inr (q9JA_keep q9extG.rf hke1 (q9jB_ok hM.2.2.2.1 hzb) hJ)
                    · rw [Bool.and_eq_true, beq_iff_eq] at hzb
                      exact .inr (q9jPB_ok hM hw hTy hD hz (by have h5 := hzb.1; rw [h5] at g1; exact g1) g2 eb' hzb.2)
                  refine .inl ⟨b', i', cA, n', f, y, e1, ?_, e3, e4⟩
                  by_cases hii : i' = i
                  · subst hii
                    rw [g2] at e2
                    cases e2
                  · rw [List.getElem?_set_ne (fun y => hii y.symm)]
                    exact e2
              exact hn.one q9agr.rf (Nat.le_refl _) G _ H1 locs1 ls _ (hM2.S rest) ⟨hP1, hD1, hS1, hTy1, hX, hKe.tr hX hke⟩
            · omega
          · cases h
        · cases h
      · cases h
    · cases h
  · cases h
end HP
