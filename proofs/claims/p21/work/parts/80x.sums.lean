variable {O : ORC}
/-! sums: q9one q9more on both sides; a field by another name of its value -/
noncomputable def q9asX_o (a b v : q9AV) : q9RF := fun x => match (q9tX x).find? (fun q => q.1 == 0 && (q.2.2.1 == (0, 1) && ((q.2.2.2, (0 : Int)) == v && q.2.1.2 == 0))) with
  | some q => (match (q9tX x).find? (fun p => p.1 == 0 && (p.2.1 == (a.1, a.2 - 1) && (p.2.2.1 == b && p.2.2.2 == q.2.1.1))) with
    | some _ => if q9zeroB x = true ∧ q9okAV (q9tE x) a = true ∧ q9isInt x a = true ∧ q9isInt x b = true then some [q9addS x [] [] [] [] [(0, a, b, q.2.2.2)]] else none
    | none => none)
  | none => none
noncomputable def q9asX (a b v : q9AV) : q9RF := fun x => match q9fi9 (q9tX x) (fun q => q9nd9 (q9eq9 (q.1) (0)) ((q9nd9 (q9eq9 (q.2.2.1) ((0, 1))) ((q9nd9 (q9eq9 ((q.2.2.2, (0 : Int))) (v)) (q9eq9 (q.2.1.2) (0))))))) with
  | some q => (match q9fi9 (q9tX x) (fun p => q9nd9 (q9eq9 (p.1) (0)) ((q9nd9 (q9eq9 (p.2.1) ((a.1, a.2 - 1))) ((q9nd9 (q9eq9 (p.2.2.1) (b)) (q9eq9 (p.2.2.2) (q.2.1.1))))))) with
    | some _ => if q9zeroB x = true ∧ q9okAV (q9tE x) a = true ∧ q9isInt x a = true ∧ q9isInt x b = true then some [q9addS x [] [] [] [] [(0, a, b, q.2.2.2)]] else none
    | none => none)
  | none => none
theorem q9asX_oq : @q9asX = @q9asX_o := by
  delta q9asX q9asX_o
  simp only [q9ge9_eq, q9fi9_eq, q9an9_eq, q9al9_eq, q9flt9_eq, q9el9_eq, q9set9_eq, q9ln9_eq, q9gD9_eq, q9ap9_eq, q9eq9_N, q9eq9_I, q9eq9_A, q9eq9_E, q9eq9_OI, q9eq9_ON, q9eq9_OA, q9eq9_L, q9eq9_S, q9de9_N, q9de9_I, q9de9_A, q9le9_N, q9le9_I, q9lt9_N, q9lt9_I, q9de9_E, q9de9_OI, q9de9_ON, q9de9_OA, q9de9_L, q9nd9_eq, q9or9_eq, Bool.cond_decide]
theorem q9asX_ok (a b v : q9AV) : q9RFok O (q9asX a b v) := by
  intro nL g cT A x r G ws ls st xs hw hM hT hD h
  (rewrite [q9asX_oq] at h; unfold q9asX_o at h)
  split at h
  · rename_i q hq
    split at h
    · rename_i p hp
      split at h
      · rename_i hc
        obtain ⟨c1, c2, c3, c4⟩ := hc
        cases h
        have q1 := List.find?_some hq
        have q2 := List.mem_of_find?_eq_some hq
        have p1 := List.find?_some hp
        have p2 := List.mem_of_find?_eq_some hp
        simp only [Bool.and_eq_true, beq_iff_eq] at q1 p1
        obtain ⟨q11, q12, q13, q14⟩ := q1
        obtain ⟨p11, p12, p13, p14⟩ := p1
        obtain ⟨w1, w2, w3⟩ := q9wf_X hw q q2
        obtain ⟨v1, v2, v3⟩ := q9wf_X hw p p2
        rw [p13] at v2
        have hq3 := hM.2.2.2.2.2.2.2 q q2
        have hp3 := hM.2.2.2.2.2.2.2 p p2
        unfold q9EXok at hq3 hp3
        obtain ⟨bI, hb⟩ := q9isInt_ok hM.2.2.2.1 v2 c4
        obtain ⟨u, hra⟩ : ∃ u : Int32, r a.1 = .int u := by
          (rewrite [q9isInt_oq] at c3; unfold q9isInt_o at c3)
          split at c3
          · rename_i t hE
            obtain ⟨k, lo, hi⟩ := t
            have hk : k = 0 := by simpa using c3
            subst hk
            obtain ⟨u, hu, -⟩ := hM.2.2.2.1 _ _ hE
            exact ⟨u, hu⟩
          · cases c3
        have ea1 : q9ev r (a.1, a.2 - 1) = .int (u + Int32.ofInt (a.2 - 1)) := by
          unfold q9ev
          rw [hra]
        have ea2 : q9ev r a = .int (u + Int32.ofInt a.2) := by
          unfold q9ev
          rw [hra]
        have e1 : q9ev r q.2.1 = r p.2.2.2 := by rw [q9isSym q14, p14]
        rw [p11, p12, p13, ea1, hb] at hp3
        have hp3 : r p.2.2.2 = .int (u + Int32.ofInt (a.2 - 1) + bI) := (Option.some.inj hp3).symm
        rw [q11, q12, e1, hp3, q9zero_ev hM.2.2.2.1 (q9zero_at c1) 1] at hq3
        have hq3 : r q.2.2.2 = .int (u + Int32.ofInt (a.2 - 1) + bI + Int32.ofInt 1) := (Option.some.inj hq3).symm
        refine q9rf_add hM hw [] List.mem_cons_self q9ty_nil q9no_mem q9no_mem q9no_mem (q9one_mem ?_)
        unfold q9EXok
        show q9exop O 0 (q9ev _ a) (q9ev _ b) = some (q9upL r (q9tE x).length [] q.2.2.2)
        rw [q9upL_agr.ev c2, q9upL_agr.ev v2, q9upL_lt w3, ea2, hb, hq3]
        show some (Value.int (u + Int32.ofInt a.2 + bI)) = _
        have e2 : Int32.ofInt a.2 = Int32.ofInt (a.2 - 1) + Int32.ofInt 1 := by
          rw [← Int32.ofInt_add, Int.sub_add_cancel]
        rw [e2, ← Int32.add_assoc u, Int32.add_assoc (u + Int32.ofInt (a.2 - 1)) (Int32.ofInt 1) bI, Int32.add_comm (Int32.ofInt 1) bI, ← Int32.add_assoc]
      · cases h
    · cases h
  · cases h
noncomputable def q9flE_o (o j : Nat) (s : q9AV) : q9RF := fun x => match q9fF x o j with
  | some v => if s.2 = 0 ∧ v.2 = 0 ∧ (q9tX x).any (fun q => q.1 == 0 && (q.2.2.2 == v.1 && (q9tX x).any (fun p => p.1 == 0 && (p.2.1 == q.2.1 && (p.2.2.1 == q.2.2.1 && p.2.2.2 == s.1))))) = true then some [q9addS x [] [(o, j, s)] [] [] []] else none
  | none => none
noncomputable def q9flE (o j : Nat) (s : q9AV) : q9RF := fun x => match q9fF x o j with
  | some v => if s.2 = 0 ∧ v.2 = 0 ∧ q9an9 (q9tX x) (fun q => q9nd9 (q9eq9 (q.1) (0)) ((q9nd9 (q9eq9 (q.2.2.2) (v.1)) (q9an9 (q9tX x) (fun p => q9nd9 (q9eq9 (p.1) (0)) ((q9nd9 (q9eq9 (p.2.1) (q.2.1)) ((q9nd9 (q9eq9 (p.2.2.1) (q.2.2.1)) (q9eq9 (p.2.2.2) (s.1))))))))))) = true then some [q9addS x [] [(o, j, s)] [] [] []] else none
  | none => none
theorem q9flE_oq : @q9flE = @q9flE_o := by
  delta q9flE q9flE_o
  simp only [q9ge9_eq, q9fi9_eq, q9an9_eq, q9al9_eq, q9flt9_eq, q9el9_eq, q9set9_eq, q9ln9_eq, q9gD9_eq, q9ap9_eq, q9eq9_N, q9eq9_I, q9eq9_A, q9eq9_E, q9eq9_OI, q9eq9_ON, q9eq9_OA, q9eq9_L, q9eq9_S, q9de9_N, q9de9_I, q9de9_A, q9le9_N, q9le9_I, q9lt9_N, q9lt9_I, q9de9_E, q9de9_OI, q9de9_ON, q9de9_OA, q9de9_L, q9nd9_eq, q9or9_eq, Bool.cond_decide]
theorem q9flE_ok (o j : Nat) (s : q9AV) : q9RFok O (q9flE o j s) := by
  intro nL g cT A x r G ws ls st xs hw hM hT hD h
  (rewrite [q9flE_oq] at h; unfold q9flE_o at h)
  split at h
  · rename_i v hv
    split at h
    · rename_i hc
      obtain ⟨c1, c2, c3⟩ := hc
      cases h
      obtain ⟨q, q1, q2⟩ := List.any_eq_true.mp c3
      simp only [Bool.and_eq_true, beq_iff_eq] at q2
      obtain ⟨q2, q3, q4⟩ := q2
      obtain ⟨p, p1, p2⟩ := List.any_eq_true.mp q4
      simp only [Bool.and_eq_true, beq_iff_eq] at p2
      obtain ⟨p2, p3, p4, p5⟩ := p2
      have hq3 := hM.2.2.2.2.2.2.2 q q1
      have hp3 := hM.2.2.2.2.2.2.2 p p1
      unfold q9EXok at hq3 hp3
      rw [q2] at hq3
      rw [p2, p3, p4, hq3] at hp3
      have he : r q.2.2.2 = r p.2.2.2 := Option.some.inj hp3
      have hsl : s.1 < (q9tE x).length := by rw [← p5]; exact (q9wf_X hw p p1).2.2
      have hm := q9fF_ok hv
      obtain ⟨w1, w2⟩ := q9wf_F hw _ hm
      have h9 := hM.2.2.2.2.1 _ hm
      refine q9rf_add hM hw [] List.mem_cons_self q9ty_nil (q9one_mem ?_) q9no_mem q9no_mem q9no_mem
      have e1 : q9ev (q9upL r (q9tE x).length []) s = q9ev r v := by
        rw [q9isSym c1, q9isSym c2, q9upL_lt hsl, ← p5, ← q3]
        exact he.symm
      unfold q9FMok at h9 ⊢
      dsimp only at h9 ⊢
      rw [q9upL_lt w1, e1]
      exact h9
    · cases h
  · cases h
