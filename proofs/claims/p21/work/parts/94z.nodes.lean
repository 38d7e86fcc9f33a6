/-! a walk checked in pieces: at some of its places the state stands printed -/
abbrev q9ND : Type := Nat × q9ST
/-- the same state, list by list -/
noncomputable def q9eqST (x y : q9ST) : Bool := q9nd9 (Nat.beq (q9tN x) (q9tN y)) (q9nd9 (Nat.beq (q9tM x) (q9tM y)) (q9nd9 (q9eqL9 q9eqA9 (q9tS x) (q9tS y)) (q9nd9 (q9eqL9 (q9eqP9 Nat.beq q9eqA9) (q9tL x) (q9tL y)) (q9nd9 (q9eqL9 q9eqA9 (q9tG x) (q9tG y)) (q9nd9 (q9eqL9 q9eqE9 (q9tE x) (q9tE y)) (q9nd9 (q9eqL9 (q9eqP9 Nat.beq (q9eqP9 Nat.beq q9eqA9)) (q9tF x) (q9tF y)) (q9nd9 (q9eqL9 (q9eqP9 Nat.beq (q9eqP9 q9eqA9 q9eqA9)) (q9tA x) (q9tA y)) (q9nd9 (q9eqL9 (q9eqP9 Nat.beq (q9eqP9 Nat.beq q9eqI9)) (q9tC x) (q9tC y)) (q9eqL9 (q9eqP9 Nat.beq (q9eqP9 q9eqA9 (q9eqP9 q9eqA9 Nat.beq))) (q9tX x) (q9tX y))))))))))
theorem q9eqST_ok {x y : q9ST} (h : q9eqST x y = true) : x = y := by
  unfold q9eqST at h
  simp only [q9nd9_eq, Bool.and_eq_true, q9nb_iff, q9eqL9_iff q9eqA9_iff, q9eqL9_iff q9eqE9_iff, q9eqL9_iff (q9eqP9_iff q9nb_iff q9eqA9_iff), q9eqL9_iff (q9eqP9_iff q9nb_iff (q9eqP9_iff q9nb_iff q9eqA9_iff)), q9eqL9_iff (q9eqP9_iff q9nb_iff (q9eqP9_iff q9eqA9_iff q9eqA9_iff)), q9eqL9_iff (q9eqP9_iff q9nb_iff (q9eqP9_iff q9nb_iff q9eqI9_iff)), q9eqL9_iff (q9eqP9_iff q9nb_iff (q9eqP9_iff q9eqA9_iff (q9eqP9_iff q9eqA9_iff q9nb_iff)))] at h
  obtain ⟨e9, e10, e3, e2, e4, e1, e5, e6, e7, e8⟩ := h
  obtain ⟨x1, x2, x3, x4, x5, x6, x7, x8, x9, x10⟩ := x
  obtain ⟨y1, y2, y3, y4, y5, y6, y7, y8, y9, y10⟩ := y
  have e1 : x1 = y1 := e1
  have e2 : x2 = y2 := e2
  have e3 : x3 = y3 := e3
  have e4 : x4 = y4 := e4
  have e5 : x5 = y5 := e5
  have e6 : x6 = y6 := e6
  have e7 : x7 = y7 := e7
  have e8 : x8 = y8 := e8
  have e9 : x9 = y9 := e9
  have e10 : x10 = y10 := e10
  rw [e1, e2, e3, e4, e5, e6, e7, e8, e9, e10]
noncomputable def q9chkE (st : Nat → q9ST → Option (List (Nat × q9ST))) (cuts : List q9CUT) (o : Option (List q9ME)) (N : List q9ND) : Nat → Nat → q9ST → Bool
  | 0, _, _ => false
  | f + 1, pc, x => q9wfQ x && (match st pc x with
    | none => false
    | some ss => ss.all (fun q => q9fcD f q.1 q.2 (fun p9 y => match q9cuF cuts p9 with
      | k0 :: ks => (k0 :: ks).any (fun k => match q9mkT y k.2.2.1 [] with
        | some th => q9fitsB y k.2.1 th && (match o with
          | none => true
          | some me0 => k.2.2.2.length == me0.length && (k.2.2.2.all (q9meIn (q9tE k.2.1)) && q9meLt y th me0 k.2.2.2))
        | none => false)
      | [] => N.any (fun k => k.1 == p9 && q9eqST k.2 y) || q9chkE st cuts o N f p9 y)))
theorem q9chk_mono {st : Nat → q9ST → Option (List (Nat × q9ST))} {cuts : List q9CUT} {o : Option (List q9ME)} : ∀ (f pc : Nat) (x : q9ST), q9chk st cuts o f pc x = true → q9chk st cuts o (f + 1) pc x = true
  | 0, _, _, h => by cases h
  | f + 1, pc, x, h => by
    unfold q9chk at h ⊢
    rw [Bool.and_eq_true] at h ⊢
    refine ⟨h.1, ?_⟩
    have h2 := h.2
    cases hs : st pc x with
    | none => rw [hs] at h2; cases h2
    | some ss =>
      rw [hs] at h2
      dsimp only at h2 ⊢
      rw [List.all_eq_true] at h2 ⊢
      intro q hq
      have h9 := h2 q hq
      rw [q9fcD_eq] at h9 ⊢
      cases hc : q9cuF cuts q.1 with
      | nil =>
        rw [hc] at h9
        exact q9chk_mono f q.1 q.2 h9
      | cons k0 ks =>
        rw [hc] at h9
        exact h9
theorem q9chk_le {st : Nat → q9ST → Option (List (Nat × q9ST))} {cuts : List q9CUT} {o : Option (List q9ME)} {f pc : Nat} {x : q9ST} (h : q9chk st cuts o f pc x = true) : ∀ d : Nat, q9chk st cuts o (f + d) pc x = true
  | 0 => h
  | d + 1 => q9chk_mono _ _ _ (q9chk_le h d)
theorem q9chkE_ok {st : Nat → q9ST → Option (List (Nat × q9ST))} {cuts : List q9CUT} {o : Option (List q9ME)} {N : List q9ND} {F : Nat} (hN : ∀ k ∈ N, q9chk st cuts o F k.1 k.2 = true) : ∀ (f pc : Nat) (x : q9ST), q9chkE st cuts o N f pc x = true → q9chk st cuts o (f + F) pc x = true
  | 0, _, _, h => by cases h
  | f + 1, pc, x, h => by
    rw [show f + 1 + F = (f + F) + 1 by omega]
    unfold q9chkE at h
    unfold q9chk
    rw [Bool.and_eq_true] at h ⊢
    refine ⟨h.1, ?_⟩
    have h2 := h.2
    cases hs : st pc x with
    | none => rw [hs] at h2; cases h2
    | some ss =>
      rw [hs] at h2
      dsimp only at h2 ⊢
      rw [List.all_eq_true] at h2 ⊢
      intro q hq
      have h9 := h2 q hq
      rw [q9fcD_eq] at h9 ⊢
      cases hc : q9cuF cuts q.1 with
      | nil =>
        rw [hc] at h9
        dsimp only at h9 ⊢
        rw [Bool.or_eq_true] at h9
        rcases h9 with h9 | h9
        · obtain ⟨k, k1, k2⟩ := List.any_eq_true.mp h9
          rw [Bool.and_eq_true, beq_iff_eq] at k2
          have h8 := hN k k1
          rw [k2.1, q9eqST_ok k2.2] at h8
          have h7 := q9chk_le h8 f
          rw [Nat.add_comm F f] at h7
          exact h7
        · exact q9chkE_ok hN f q.1 q.2 h9
      | cons k0 ks =>
        rw [hc] at h9
        exact h9
noncomputable def q9okE (st : Nat → q9ST → Option (List (Nat × q9ST))) (cuts : List q9CUT) (o : Option (List q9ME)) (f : Nat) : List q9ND → Prop
  | [] => True
  | k :: N => q9chkE st cuts o N f k.1 k.2 = true ∧ q9okE st cuts o f N
theorem q9nodes_ok {st : Nat → q9ST → Option (List (Nat × q9ST))} {cuts : List q9CUT} {o : Option (List q9ME)} {f : Nat} : ∀ (N : List q9ND), q9okE st cuts o f N → ∀ k ∈ N, q9chk st cuts o (f * N.length) k.1 k.2 = true
  | [], _, k, hk => absurd hk List.not_mem_nil
  | k0 :: N, h, k, hk => by
    have ih := q9nodes_ok N h.2
    have e : f * (k0 :: N).length = f + f * N.length := by rw [List.length_cons, Nat.mul_succ, Nat.add_comm]
    rw [e]
    rcases List.mem_cons.mp hk with rfl | hk
    · exact q9chkE_ok ih f _ _ h.1
    · have h7 := q9chk_le (ih k hk) f
      rw [Nat.add_comm] at h7
      exact h7
theorem q9walkE {st : Nat → q9ST → Option (List (Nat × q9ST))} {cuts : List q9CUT} {o : Option (List q9ME)} {f n F pc : Nat} {x : q9ST} {N : List q9ND} (hl : N.length = n) (hF : f + f * n ≤ F) (hN : q9okE st cuts o f N) (h : q9chkE st cuts o N f pc x = true) : q9chk st cuts o F pc x = true := by
  have h7 := q9chk_le (q9chkE_ok (q9nodes_ok N hN) f pc x h) (F - (f + f * n))
  rw [hl, Nat.add_sub_cancel' hF] at h7
  exact h7
