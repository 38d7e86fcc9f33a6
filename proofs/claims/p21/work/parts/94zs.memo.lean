/-! the law's walk checked in pieces, with what its script's places hold -/
abbrev q9NS : Type := Nat × q9ST × q9MM
/-! from the end on: states of q9one place differ in their last symbols -/
noncomputable def q9lastE : List q9ET → List q9ET → Bool
  | [], [] => true
  | a :: as, b :: bs => q9nd9 (q9eqE9 a b) (q9lastE as bs)
  | _, _ => false
noncomputable def q9mmE (a b : q9MM) : Bool := decide (a = b)
theorem q9mmE_iff (a b : q9MM) : q9mmE a b = true ↔ a = b := by
  unfold q9mmE
  rw [decide_eq_true_eq]
noncomputable def q9inN_o (N : List q9NS) (pc : Nat) (x : q9ST) (m9 : q9MM) : Bool := N.any (fun k => k.1 == pc && (q9lastE (q9tE k.2.1) (q9tE x) && (q9eqST k.2.1 x && q9mmE k.2.2 m9)))
noncomputable def q9inN (N : List q9NS) (pc : Nat) (x : q9ST) (m9 : q9MM) : Bool := q9an9 N (fun k => q9nd9 (q9eq9 (k.1) (pc)) ((q9nd9 (q9lastE (q9tE k.2.1) (q9tE x)) ((q9nd9 (q9eqST k.2.1 x) (q9mmE k.2.2 m9))))))
theorem q9inN_oq : @q9inN = @q9inN_o := by
  delta q9inN q9inN_o
  simp only [q9ge9_eq, q9fi9_eq, q9an9_eq, q9al9_eq, q9flt9_eq, q9el9_eq, q9set9_eq, q9ln9_eq, q9gD9_eq, q9ap9_eq, q9eq9_N, q9eq9_I, q9eq9_A, q9eq9_E, q9eq9_OI, q9eq9_ON, q9eq9_OA, q9eq9_L, q9eq9_S, q9de9_N, q9de9_I, q9de9_A, q9le9_N, q9le9_I, q9lt9_N, q9lt9_I, q9de9_E, q9de9_OI, q9de9_ON, q9de9_OA, q9de9_L, q9nd9_eq, q9or9_eq, Bool.cond_decide]
noncomputable def q9chkSE (st : Nat → q9ST → Option (List (Nat × q9ST))) (cc : ByteArray) (cuts : List q9CUT) (me0 : List q9ME) (N : List q9NS) : Nat → Nat → q9ST → q9MM → Bool
  | 0, _, _, _ => false
  | f + 1, pc, x, m9 => q9wfQ x && (q9mmB x m9 && (match q9slS cc pc x m9 with
    | some q => q9fcD f q.1 q.2.1 (fun p9 y => q9fcM q.2.2 (fun m8 => q9inN N p9 y m8 || q9chkSE st cc cuts me0 N f p9 y m8))
    | none => (match st pc x with
      | none => false
      | some ss => ss.all (fun q => q9fcD f q.1 q.2 (fun p9 y => match q9cuF cuts p9 with
        | k0 :: ks => (k0 :: ks).any (fun k => match q9mkT y k.2.2.1 [] with
          | some th => q9fitsB y k.2.1 th && (k.2.2.2.length == me0.length && (k.2.2.2.all (q9meIn (q9tE k.2.1)) && q9meLt y th me0 k.2.2.2))
          | none => false)
        | [] => q9inN N p9 y m9 || q9chkSE st cc cuts me0 N f p9 y m9)))))
theorem q9chkS_mono {st : Nat → q9ST → Option (List (Nat × q9ST))} {cc : ByteArray} {cuts : List q9CUT} {me0 : List q9ME} : ∀ (f pc : Nat) (x : q9ST) (m9 : q9MM), q9chkS st cc cuts me0 f pc x m9 = true → q9chkS st cc cuts me0 (f + 1) pc x m9 = true
  | 0, _, _, _, h => by cases h
  | f + 1, pc, x, m9, h => by
    unfold q9chkS at h ⊢
    rw [Bool.and_eq_true, Bool.and_eq_true] at h ⊢
    refine ⟨h.1, h.2.1, ?_⟩
    have h2 := h.2.2
    cases hs : q9slS cc pc x m9 with
    | some q =>
      rw [hs] at h2
      dsimp only at h2 ⊢
      rw [q9fcD_eq, q9fcM_eq] at h2 ⊢
      exact q9chkS_mono f _ _ _ h2
    | none =>
      rw [hs] at h2
      dsimp only at h2 ⊢
      cases hs2 : st pc x with
      | none => rw [hs2] at h2; cases h2
      | some ss =>
        rw [hs2] at h2
        dsimp only at h2 ⊢
        rw [List.all_eq_true] at h2 ⊢
        intro q hq
        have h9 := h2 q hq
        rw [q9fcD_eq] at h9 ⊢
        cases hc : q9cuF cuts q.1 with
        | nil =>
          rw [hc] at h9
          exact q9chkS_mono f q.1 q.2 m9 h9
        | cons k0 ks =>
          rw [hc] at h9
          exact h9
theorem q9chkS_le {st : Nat → q9ST → Option (List (Nat × q9ST))} {cc : ByteArray} {cuts : List q9CUT} {me0 : List q9ME} {f pc : Nat} {x : q9ST} {m9 : q9MM} (h : q9chkS st cc cuts me0 f pc x m9 = true) : ∀ d : Nat, q9chkS st cc cuts me0 (f + d) pc x m9 = true
  | 0 => h
  | d + 1 => q9chkS_mono _ _ _ _ (q9chkS_le h d)
theorem q9inN_ok {st : Nat → q9ST → Option (List (Nat × q9ST))} {cc : ByteArray} {cuts : List q9CUT} {me0 : List q9ME} {N : List q9NS} {F : Nat} (hN : ∀ k ∈ N, q9chkS st cc cuts me0 F k.1 k.2.1 k.2.2 = true) {f pc : Nat} {x : q9ST} {m9 : q9MM} (h : q9inN N pc x m9 = true) : q9chkS st cc cuts me0 (f + F) pc x m9 = true := by
  (rewrite [q9inN_oq] at h; unfold q9inN_o at h)
  obtain ⟨k, k1, k2⟩ := List.any_eq_true.mp h
  rw [Bool.and_eq_true, Bool.and_eq_true, Bool.and_eq_true, beq_iff_eq, q9mmE_iff] at k2
  have h8 := hN k k1
  rw [k2.1, q9eqST_ok k2.2.2.1, k2.2.2.2] at h8
  have h7 := q9chkS_le h8 f
  rw [Nat.add_comm F f] at h7
  exact h7
theorem q9chkSE_ok {st : Nat → q9ST → Option (List (Nat × q9ST))} {cc : ByteArray} {cuts : List q9CUT} {me0 : List q9ME} {N : List q9NS} {F : Nat} (hN : ∀ k ∈ N, q9chkS st cc cuts me0 F k.1 k.2.1 k.2.2 = true) : ∀ (f pc : Nat) (x : q9ST) (m9 : q9MM), q9chkSE st cc cuts me0 N f pc x m9 = true → q9chkS st cc cuts me0 (f + F) pc x m9 = true
  | 0, _, _, _, h => by cases h
  | f + 1, pc, x, m9, h => by
    rw [show f + 1 + F = (f + F) + 1 by omega]
    unfold q9chkSE at h
    unfold q9chkS
    rw [Bool.and_eq_true, Bool.and_eq_true] at h ⊢
    refine ⟨h.1, h.2.1, ?_⟩
    have h2 := h.2.2
    cases hs : q9slS cc pc x m9 with
    | some q =>
      rw [hs] at h2
      dsimp only at h2 ⊢
      rw [q9fcD_eq, q9fcM_eq] at h2 ⊢
      rw [Bool.or_eq_true] at h2
      rcases h2 with h2 | h2
      · exact q9inN_ok hN h2
      · exact q9chkSE_ok hN f _ _ _ h2
    | none =>
      rw [hs] at h2
      dsimp only at h2 ⊢
      cases hs2 : st pc x with
      | none => rw [hs2] at h2; cases h2
      | some ss =>
        rw [hs2] at h2
        dsimp only at h2 ⊢
        rw [List.all_eq_true] at h2 ⊢
        intro q hq
        have h9 := h2 q hq
        rw [q9fcD_eq] at h9 ⊢
        cases hc : q9cuF cuts q.1 with
        | nil =>
          rw [hc] at h9
          dsimp only at h9 ⊢
          rw [Bool.or_eq_true] at h9
          rcases h9 with h9 | h9
          · exact q9inN_ok hN h9
          · exact q9chkSE_ok hN f q.1 q.2 m9 h9
        | cons k0 ks =>
          rw [hc] at h9
          exact h9
noncomputable def q9okSE (st : Nat → q9ST → Option (List (Nat × q9ST))) (cc : ByteArray) (cuts : List q9CUT) (me0 : List q9ME) (f : Nat) : List q9NS → Prop
  | [] => True
  | k :: N => q9chkSE st cc cuts me0 N f k.1 k.2.1 k.2.2 = true ∧ q9okSE st cc cuts me0 f N
theorem q9nodesS_ok {st : Nat → q9ST → Option (List (Nat × q9ST))} {cc : ByteArray} {cuts : List q9CUT} {me0 : List q9ME} {f : Nat} : ∀ (N : List q9NS), q9okSE st cc cuts me0 f N → ∀ k ∈ N, q9chkS st cc cuts me0 (f * N.length) k.1 k.2.1 k.2.2 = true
  | [], _, k, hk => absurd hk List.not_mem_nil
  | k0 :: N, h, k, hk => by
    have ih := q9nodesS_ok N h.2
    have e : f * (k0 :: N).length = f + f * N.length := by rw [List.length_cons, Nat.mul_succ, Nat.add_comm]
    rw [e]
    rcases List.mem_cons.mp hk with rfl | hk
    · exact q9chkSE_ok ih f _ _ _ h.1
    · have h7 := q9chkS_le (ih k hk) f
      rw [Nat.add_comm] at h7
      exact h7
theorem q9walkSE {st : Nat → q9ST → Option (List (Nat × q9ST))} {cc : ByteArray} {cuts : List q9CUT} {me0 : List q9ME} {f n F pc : Nat} {x : q9ST} {m9 : q9MM} {N : List q9NS} (hl : N.length = n) (hF : f + f * n ≤ F) (hN : q9okSE st cc cuts me0 f N) (h : q9chkSE st cc cuts me0 N f pc x m9 = true) : q9chkS st cc cuts me0 F pc x m9 = true := by
  have h7 := q9chkS_le (q9chkSE_ok (q9nodesS_ok N hN) f pc x m9 h) (F - (f + f * n))
  rw [hl, Nat.add_sub_cancel' hF] at h7
  exact h7
