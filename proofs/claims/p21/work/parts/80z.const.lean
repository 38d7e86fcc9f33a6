variable {O : ORC}
/-! what is q9left of a division of constants -/
noncomputable def q9cfR_o (v : Nat) : q9RF := fun x => match (q9tX x).find? (fun q => q.1 == 4 && (q.2.2.2 == v && (q.2.1.1 == 0 && q.2.2.1.1 == 0))), (q9tE x)[v]? with
  | some q, some t => if q9zeroB x = true ∧ t.1 = 0 ∧ 0 ≤ q.2.1.2 ∧ q.2.1.2 ≤ 1000 ∧ 0 < q.2.2.1.2 ∧ q.2.2.1.2 ≤ 1000 then some [q9sE x ((q9tE x).set v (0, q.2.1.2 - q.2.1.2 / q.2.2.1.2 * q.2.2.1.2, q.2.1.2 - q.2.1.2 / q.2.2.1.2 * q.2.2.1.2))] else none
  | _, _ => none
noncomputable def q9cfR (v : Nat) : q9RF := fun x => match q9fi9 (q9tX x) (fun q => q9nd9 (q9eq9 (q.1) (4)) ((q9nd9 (q9eq9 (q.2.2.2) (v)) ((q9nd9 (q9eq9 (q.2.1.1) (0)) (q9eq9 (q.2.2.1.1) (0))))))), (q9ge9 (q9tE x) (v)) with
  | some q, some t => if q9zeroB x = true ∧ t.1 = 0 ∧ 0 ≤ q.2.1.2 ∧ q.2.1.2 ≤ 1000 ∧ 0 < q.2.2.1.2 ∧ q.2.2.1.2 ≤ 1000 then some [q9sE x (q9set9 (q9tE x) v (0, q.2.1.2 - q.2.1.2 / q.2.2.1.2 * q.2.2.1.2, q.2.1.2 - q.2.1.2 / q.2.2.1.2 * q.2.2.1.2))] else none
  | _, _ => none
theorem q9cfR_oq : @q9cfR = @q9cfR_o := by
  delta q9cfR q9cfR_o
  simp only [q9ge9_eq, q9fi9_eq, q9an9_eq, q9al9_eq, q9flt9_eq, q9el9_eq, q9set9_eq, q9ln9_eq, q9gD9_eq, q9ap9_eq, q9eq9_N, q9eq9_I, q9eq9_A, q9eq9_E, q9eq9_OI, q9eq9_ON, q9eq9_OA, q9eq9_L, q9eq9_S, q9de9_N, q9de9_I, q9de9_A, q9le9_N, q9le9_I, q9lt9_N, q9lt9_I, q9de9_E, q9de9_OI, q9de9_ON, q9de9_OA, q9de9_L, q9nd9_eq, q9or9_eq, Bool.cond_decide]
theorem q9cfR_ok (v : Nat) : q9RFok O (q9cfR v) := by
  intro nL g cT A x r G ws ls st xs hw hM hT hD h
  (rewrite [q9cfR_oq] at h; unfold q9cfR_o at h)
  split at h
  · rename_i q t hq hE
    split at h
    · rename_i hc
      obtain ⟨c1, c2, c3, c4, c5, c6⟩ := hc
      cases h
      have q1 := List.find?_some hq
      have q2 := List.mem_of_find?_eq_some hq
      simp only [Bool.and_eq_true, beq_iff_eq] at q1
      obtain ⟨q11, q12, q13, q14⟩ := q1
      have h3 := hM.2.2.2.2.2.2.2 q q2
      unfold q9EXok at h3
      have e1 : q9ev r q.2.1 = .int (Int32.ofInt q.2.1.2) := by
        have := q9zero_ev hM.2.2.2.1 (q9zero_at c1) q.2.1.2
        rw [← q13] at this
        exact this
      have e2 : q9ev r q.2.2.1 = .int (Int32.ofInt q.2.2.1.2) := by
        have := q9zero_ev hM.2.2.2.1 (q9zero_at c1) q.2.2.1.2
        rw [← q14] at this
        exact this
      rw [q11, q12, e1, e2] at h3
      generalize q.2.1.2 = c at c3 c4 h3 ⊢
      generalize q.2.2.1.2 = d at c5 c6 h3 ⊢
      have h3 : r v = .int (Int32.ofInt c - Int32.ofInt c / Int32.ofInt d * Int32.ofInt d) := (Option.some.inj h3).symm
      have k1 : (Int32.ofInt c).toInt = c := Int32.toInt_ofInt_of_le (by omega) (by omega)
      have k2 : (Int32.ofInt d).toInt = d := Int32.toInt_ofInt_of_le (by omega) (by omega)
      have b1 : 0 ≤ c / d := Int.ediv_nonneg c3 (by omega)
      have b2 : c / d * d ≤ c := Int.ediv_mul_le _ (by omega)
      have b3 : 0 ≤ c / d * d := Int.mul_nonneg b1 (by omega)
      have k3 : (Int32.ofInt c / Int32.ofInt d).toInt = c / d := by rw [q9n_div (by omega) (by omega), k1, k2]
      have k4 : (Int32.ofInt c / Int32.ofInt d * Int32.ofInt d).toInt = c / d * d := by rw [q9n_mul (by rw [k3, k2]; omega) (by rw [k3, k2]; omega), k3, k2]
      have k5 : (Int32.ofInt c - Int32.ofInt c / Int32.ofInt d * Int32.ofInt d).toInt = c - c / d * d := by rw [q9n_sub (by rw [k1, k4]; omega) (by rw [k1, k4]; omega), k1, k4]
      have hS := q9set_sat hM.2.2.2.1 (k := v) (t := (0, c - c / d * d, c - c / d * d)) ⟨_, h3, by rw [k5]; exact Int.le_refl _, by rw [k5]; exact Int.le_refl _⟩
      refine ⟨_, List.mem_cons_self, r, q9agr.rf, ?_, rfl, rfl, hM.E hS⟩
      show (q9tE x).length ≤ ((q9tE x).set v _).length
      rw [List.length_set]
      exact Nat.le_refl _
    · cases h
  · cases h
