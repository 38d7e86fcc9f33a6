variable {O : ORC}
/-! an element at an equal place -/
noncomputable def q9elE_o (a : Nat) (s : q9AV) : q9RF := fun x => match (q9tA x).find? (fun q => q.1 == a && q9eqB x q.2.1 s) with
  | some q => if q9okAV (q9tE x) s = true ∧ q9isInt x s = true then some [q9addS x [] [] [(a, s, q.2.2)] [] []] else none
  | none => none
noncomputable def q9elE (a : Nat) (s : q9AV) : q9RF := fun x => match q9fi9 (q9tA x) (fun q => q9nd9 (q9eq9 (q.1) (a)) (q9eqB x q.2.1 s)) with
  | some q => if q9okAV (q9tE x) s = true ∧ q9isInt x s = true then some [q9addS x [] [] [(a, s, q.2.2)] [] []] else none
  | none => none
theorem q9elE_oq : @q9elE = @q9elE_o := by
  delta q9elE q9elE_o
  simp only [q9ge9_eq, q9fi9_eq, q9an9_eq, q9al9_eq, q9flt9_eq, q9el9_eq, q9set9_eq, q9ln9_eq, q9gD9_eq, q9ap9_eq, q9eq9_N, q9eq9_I, q9eq9_A, q9eq9_E, q9eq9_OI, q9eq9_ON, q9eq9_OA, q9eq9_L, q9eq9_S, q9de9_N, q9de9_I, q9de9_A, q9le9_N, q9le9_I, q9lt9_N, q9lt9_I, q9de9_E, q9de9_OI, q9de9_ON, q9de9_OA, q9de9_L, q9nd9_eq, q9or9_eq, Bool.cond_decide]
theorem q9elE_ok (a : Nat) (s : q9AV) : q9RFok O (q9elE a s) := by
  intro nL g cT A x r G ws ls st xs hw hM hT hD h
  (rewrite [q9elE_oq] at h; unfold q9elE_o at h)
  split at h
  · rename_i q hq
    split at h
    · rename_i hc
      obtain ⟨c1, c2⟩ := hc
      cases h
      have q1 := List.find?_some hq
      have q2 := List.mem_of_find?_eq_some hq
      simp only [Bool.and_eq_true, beq_iff_eq] at q1
      obtain ⟨q0, q3⟩ := q1
      obtain ⟨y, hy⟩ := q9isInt_ok hM.2.2.2.1 c1 c2
      have e1 := q9eqB_ok hM c1 hy q3
      obtain ⟨w1, w2, w3⟩ := q9wf_A hw q q2
      have h9 := hM.2.2.2.2.2.1 q q2
      rw [q0] at w1
      refine q9rf_add hM hw [] List.mem_cons_self q9ty_nil q9no_mem (q9one_mem ?_) q9no_mem q9no_mem
      unfold q9AMok q9ALok at h9 ⊢
      dsimp only
      rw [e1, q0] at h9
      rw [q9upL_agr.ev c1, q9upL_agr.ev w3, q9upL_lt w1, hy]
      exact h9
    · cases h
  · cases h
