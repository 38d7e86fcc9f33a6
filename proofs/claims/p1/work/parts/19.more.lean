theorem bst {v x : Int32} (h : ¬ v ≤ 0) (e : x = v >>> (0 &&& 31)) (c : x = 0) : False := by
  have e1 : v >>> ((0 : Int32) &&& 31) = v := by
    rw [show ((0 : Int32) &&& 31) = 0 from by decide]
    first | exact Int32.shiftRight_zero | simp
  rw [e1] at e
  exact h (by rw [← e, c]; exact Int32.le_refl 0)
theorem lcmp_self (a : Int64) : lg_cmp a a = 0 := by
  unfold lg_cmp
  simp
