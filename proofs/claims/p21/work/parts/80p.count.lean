variable {O : ORC}
/-! how many of a number's bits are set -/
theorem q9sh_amt {s : Int32} {k : Nat} (hk : k < 32) (hs : s.toInt = k) : ((s &&& 31).toBitVec.smod 32#32).toNat = k := by
  have e : s = Int32.ofInt (k : Int) := by rw [← hs, q9ofI]
  rw [e]
  exact (by decide +kernel : ∀ k : Nat, k < 32 → ((Int32.ofInt (k : Int) &&& 31).toBitVec.smod 32#32).toNat = k) k hk
theorem q9bitV {x s : Int32} {k : Nat} (hk : k < 32) (hs : s.toInt = k) : ((x >>> (s &&& 31)) &&& 1).toInt = if x.toBitVec.toNat.testBit k = true then 1 else 0 := by
  have e1 : ((x >>> (s &&& 31)) &&& 1).toBitVec = BitVec.setWidth 32 (BitVec.ofBool (x.toBitVec.getLsbD k)) := by
    have e2 : ((x >>> (s &&& 31)) &&& 1).toBitVec = (x.toBitVec.sshiftRight' ((s &&& 31).toBitVec.smod 32#32)) &&& 1#32 := rfl
    rw [e2, BitVec.and_one_eq_setWidth_ofBool_getLsbD, BitVec.sshiftRight_eq', q9sh_amt hk hs, BitVec.getLsbD_sshiftRight]
    simp [hk]
  have e3 : ((x >>> (s &&& 31)) &&& 1).toInt = (BitVec.setWidth 32 (BitVec.ofBool (x.toBitVec.getLsbD k))).toInt := by
    rw [← e1]
    rfl
  rw [e3]
  show _ = if x.toBitVec.getLsbD k = true then (1 : Int) else 0
  cases x.toBitVec.getLsbD k with
  | true => decide
  | false => decide
theorem q9pcN_le (n : Nat) : ∀ k : Nat, q9pcN n k ≤ k
  | 0 => Nat.le_refl 0
  | k + 1 => by
    have := q9pcN_le n k
    show q9pcN n k + (if n.testBit k then 1 else 0) ≤ k + 1
    split <;> omega
theorem q9pcN_pos {n s : Nat} (h : n.testBit s = true) : ∀ k : Nat, s < k → 1 ≤ q9pcN n k
  | 0, hk => absurd hk (Nat.not_lt_zero _)
  | k + 1, hk => by
    show 1 ≤ q9pcN n k + (if n.testBit k then 1 else 0)
    by_cases hs : s = k
    · subst hs
      rw [if_pos h]
      omega
    · have := q9pcN_pos h k (by omega)
      omega
theorem q9pcN_clr {n n' s : Nat} (h : ∀ i : Nat, i < 32 → n'.testBit i = (n.testBit i && decide (i ≠ s))) (hs : n.testBit s = true) : ∀ k : Nat, k ≤ 32 → q9pcN n' k + (if s < k then 1 else 0) = q9pcN n k
  | 0, _ => rfl
  | k + 1, hk => by
    have ih := q9pcN_clr h hs k (by omega)
    have hb := h k (by omega)
    show q9pcN n' k + (if n'.testBit k then 1 else 0) + (if s < k + 1 then 1 else 0) = q9pcN n k + (if n.testBit k then 1 else 0)
    by_cases hks : k = s
    · subst hks
      rw [if_neg (Nat.lt_irrefl k)] at ih
      rw [hs] at hb ⊢
      rw [hb]
      simp
      omega
    · have e : n'.testBit k = n.testBit k := by rw [hb]; simp [hks]
      rw [e]
      by_cases h1 : s < k
      · rw [if_pos h1] at ih
        rw [if_pos (show s < k + 1 by omega)]
        omega
      · rw [if_neg h1] at ih
        rw [if_neg (show ¬ s < k + 1 by omega)]
        omega
theorem q9pcN_tot {n k : Nat} : ∀ m : Nat, k ≤ m → (∀ i : Nat, k ≤ i → i < m → n.testBit i = false) → q9pcN n m = q9pcN n k
  | 0, hk, _ => by rw [show k = 0 by omega]
  | m + 1, hk, h => by
    by_cases hm : k = m + 1
    · rw [hm]
    · have ih := q9pcN_tot m (by omega) fun i h1 h2 => h i h1 (by omega)
      have hb := h m (by omega) (by omega)
      show q9pcN n m + (if n.testBit m then 1 else 0) = q9pcN n k
      rw [hb, ih]
      rfl
theorem q9clrB {x s : Int32} {k i : Nat} (hk : k < 32) (hs : s.toInt = k) (hi : i < 32) : (x &&& ((1 <<< (s &&& 31)) ^^^ (-1))).toBitVec.toNat.testBit i = (x.toBitVec.toNat.testBit i && decide (i ≠ k)) := by
  have e2 : (x &&& ((1 <<< (s &&& 31)) ^^^ (-1))).toBitVec = x.toBitVec &&& ((1#32 <<< ((s &&& 31).toBitVec.smod 32#32)) ^^^ (-1 : Int32).toBitVec) := rfl
  have e9 : (-1 : Int32).toBitVec = BitVec.allOnes 32 := by decide
  rw [e2, e9]
  show BitVec.getLsbD _ i = (BitVec.getLsbD _ i && _)
  rw [BitVec.getLsbD_and, BitVec.getLsbD_xor, BitVec.getLsbD_shiftLeft', q9sh_amt hk hs, BitVec.getLsbD_allOnes, BitVec.getLsbD_one]
  by_cases h1 : i = k
  · subst h1
    simp [hi]
  · by_cases h2 : i < k
    · simp [h1, h2, hi]
    · have h3 : ¬ (i - k = 0) := by omega
      simp [h1, h2, hi, h3]
theorem q9totB {x s : Int32} {k : Nat} (hk : k < 32) (hs : s.toInt = k) (h0 : x >>> (s &&& 31) = 0) : ∀ i : Nat, k ≤ i → i < 32 → x.toBitVec.toNat.testBit i = false := by
  intro i h1 h2
  have e : (x >>> (s &&& 31)).toBitVec.getLsbD (i - k) = false := by
    rw [h0]
    show (0#32).getLsbD _ = false
    simp
  have e2 : (x >>> (s &&& 31)).toBitVec = x.toBitVec.sshiftRight' ((s &&& 31).toBitVec.smod 32#32) := rfl
  rw [e2, BitVec.sshiftRight_eq', q9sh_amt hk hs, BitVec.getLsbD_sshiftRight, show k + (i - k) = i by omega, if_pos h2] at e
  have h3 : (!decide (32 ≤ i - k)) = true := by
    rw [decide_eq_false (by omega)]
    rfl
  rw [h3, Bool.true_and] at e
  exact e
theorem q9pcI {n k : Nat} (hk : k ≤ 32) : (Int32.ofNat (q9pcN n k)).toInt = q9pcN n k := (by decide +kernel : ∀ p : Nat, p ≤ 32 → (Int32.ofNat p).toInt = p) _ (Nat.le_trans (q9pcN_le n k) hk)
/-- a bit of a that is looked at -/
noncomputable def q9btX_o (x : q9ST) (a s : q9AV) : Option Nat := ((q9tX x).find? (fun q => q.1 == 5 && (q.2.2.1 == (0, 1) && (q.2.1.2 == 0 && (q9tX x).any (fun p => p.1 == 9 && (p.2.1 == a && (p.2.2.1 == s && p.2.2.2 == q.2.1.1))))))).map (fun q => q.2.2.2)
noncomputable def q9btX (x : q9ST) (a s : q9AV) : Option Nat := (q9fi9 (q9tX x) (fun q => q9nd9 (q9eq9 (q.1) (5)) ((q9nd9 (q9eq9 (q.2.2.1) ((0, 1))) ((q9nd9 (q9eq9 (q.2.1.2) (0)) (q9an9 (q9tX x) (fun p => q9nd9 (q9eq9 (p.1) (9)) ((q9nd9 (q9eq9 (p.2.1) (a)) ((q9nd9 (q9eq9 (p.2.2.1) (s)) (q9eq9 (p.2.2.2) (q.2.1.1)))))))))))))).map (fun q => q.2.2.2)
theorem q9btX_oq : @q9btX = @q9btX_o := by
  delta q9btX q9btX_o
  simp only [q9ge9_eq, q9fi9_eq, q9an9_eq, q9al9_eq, q9flt9_eq, q9el9_eq, q9set9_eq, q9ln9_eq, q9gD9_eq, q9ap9_eq, q9eq9_N, q9eq9_I, q9eq9_A, q9eq9_E, q9eq9_OI, q9eq9_ON, q9eq9_OA, q9eq9_L, q9eq9_S, q9de9_N, q9de9_I, q9de9_A, q9le9_N, q9le9_I, q9lt9_N, q9lt9_I, q9de9_E, q9de9_OI, q9de9_ON, q9de9_OA, q9de9_L, q9nd9_eq, q9or9_eq, Bool.cond_decide]
theorem q9btX_ok {nL : Nat} {g : List Value} {x : q9ST} {r : Nat → Value} {G : q9GH} {ws : va_W} {ls : Array Slot} {st : List Value} (hM : q9SM O nL g x r G ws ls st) (hw : q9wfB x = true) (h0 : q9zeroB x = true) {a s : q9AV} {v : Nat} (h : q9btX x a s = some v) {aI sI : Int32} (ha : q9ev r a = .int aI) (hs : q9ev r s = .int sI) : r v = .int ((aI >>> (sI &&& 31)) &&& 1) ∧ v < (q9tE x).length := by
  (rewrite [q9btX_oq] at h; unfold q9btX_o at h)
  cases hq : (q9tX x).find? (fun q => q.1 == 5 && (q.2.2.1 == (0, 1) && (q.2.1.2 == 0 && (q9tX x).any (fun p => p.1 == 9 && (p.2.1 == a && (p.2.2.1 == s && p.2.2.2 == q.2.1.1)))))) with
  | none => rw [hq] at h; cases h
  | some q =>
    rw [hq] at h
    have q1 := List.find?_some hq
    have q2 := List.mem_of_find?_eq_some hq
    simp only [Bool.and_eq_true, beq_iff_eq] at q1
    obtain ⟨q3, q4, q5, q6⟩ := q1
    obtain ⟨p, p1, p2⟩ := List.any_eq_true.mp q6
    simp only [Bool.and_eq_true, beq_iff_eq] at p2
    obtain ⟨p3, p4, p5, p6⟩ := p2
    cases h
    have h3 := hM.2.2.2.2.2.2.2 p p1
    unfold q9EXok at h3
    rw [p3, p4, p5, ha, hs, p6] at h3
    have h3 : r q.2.1.1 = .int (aI >>> (sI &&& 31)) := (Option.some.inj h3).symm
    have h4 := hM.2.2.2.2.2.2.2 q q2
    unfold q9EXok at h4
    rw [q3, q4, q9isSym q5, h3, q9zero_ev hM.2.2.2.1 (q9zero_at h0) 1] at h4
    exact ⟨(Option.some.inj h4).symm, (q9wf_X hw q q2).2.2⟩
noncomputable def q9pcX_o (x : q9ST) (a y : q9AV) : Option Nat := ((q9tX x).find? (fun q => q.1 == 31 && (q.2.1 == a && q.2.2.1 == y))).map (fun q => q.2.2.2)
noncomputable def q9pcX (x : q9ST) (a y : q9AV) : Option Nat := (q9fi9 (q9tX x) (fun q => q9nd9 (q9eq9 (q.1) (31)) ((q9nd9 (q9eq9 (q.2.1) (a)) (q9eq9 (q.2.2.1) (y)))))).map (fun q => q.2.2.2)
theorem q9pcX_oq : @q9pcX = @q9pcX_o := by
  delta q9pcX q9pcX_o
  simp only [q9ge9_eq, q9fi9_eq, q9an9_eq, q9al9_eq, q9flt9_eq, q9el9_eq, q9set9_eq, q9ln9_eq, q9gD9_eq, q9ap9_eq, q9eq9_N, q9eq9_I, q9eq9_A, q9eq9_E, q9eq9_OI, q9eq9_ON, q9eq9_OA, q9eq9_L, q9eq9_S, q9de9_N, q9de9_I, q9de9_A, q9le9_N, q9le9_I, q9lt9_N, q9lt9_I, q9de9_E, q9de9_OI, q9de9_ON, q9de9_OA, q9de9_L, q9nd9_eq, q9or9_eq, Bool.cond_decide]
theorem q9pcX_ok {nL : Nat} {g : List Value} {x : q9ST} {r : Nat → Value} {G : q9GH} {ws : va_W} {ls : Array Slot} {st : List Value} (hM : q9SM O nL g x r G ws ls st) (hw : q9wfB x = true) {a y : q9AV} {v : Nat} (h : q9pcX x a y = some v) {aI yI : Int32} (ha : q9ev r a = .int aI) (hy : q9ev r y = .int yI) : r v = .int (Int32.ofNat (q9pcN aI.toBitVec.toNat yI.toInt.toNat)) ∧ v < (q9tE x).length := by
  (rewrite [q9pcX_oq] at h; unfold q9pcX_o at h)
  cases hq : (q9tX x).find? (fun q => q.1 == 31 && (q.2.1 == a && q.2.2.1 == y)) with
  | none => rw [hq] at h; cases h
  | some q =>
    rw [hq] at h
    have q1 := List.find?_some hq
    have q2 := List.mem_of_find?_eq_some hq
    simp only [Bool.and_eq_true, beq_iff_eq] at q1
    cases h
    have h3 := hM.2.2.2.2.2.2.2 q q2
    unfold q9EXok at h3
    rw [q1.1, q1.2.1, q1.2.2, ha, hy] at h3
    exact ⟨(Option.some.inj h3).symm, (q9wf_X hw q q2).2.2⟩
theorem q9ev32 {x : q9ST} {r : Nat → Value} {G : q9GH} (hS : q9SAT G (q9tE x) r) (h0 : q9zeroB x = true) : q9ev r (0, 32) = .int 32 := q9zero_ev hS (q9zero_at h0) 32
/-- where a bit is set, some are -/
noncomputable def q9bitR_o (a s : q9AV) : q9RF := fun x => match q9btX x a s, q9pcX x a (0, 32), q9num (q9tE x) a, q9num (q9tE x) s with
  | some v, some w, some (0, _, _), some (0, l, h) => (match (q9tE x)[v]?, (q9tE x)[w]? with
    | some (0, vl, _), some (0, _, _) => if 1 ≤ vl ∧ 0 ≤ l ∧ h ≤ 31 ∧ q9okAV (q9tE x) a = true ∧ q9okAV (q9tE x) s = true ∧ q9zeroB x = true then (match q9cutLo (q9tE x) w 1 with
      | some E => some [q9sE x E]
      | none => some []) else none
    | _, _ => none)
  | _, _, _, _ => none
noncomputable def q9bitR (a s : q9AV) : q9RF := fun x => match q9btX x a s, q9pcX x a (0, 32), q9num (q9tE x) a, q9num (q9tE x) s with
  | some v, some w, some (0, _, _), some (0, l, h) => (match (q9ge9 (q9tE x) (v)), (q9ge9 (q9tE x) (w)) with
    | some (0, vl, _), some (0, _, _) => if 1 ≤ vl ∧ 0 ≤ l ∧ h ≤ 31 ∧ q9okAV (q9tE x) a = true ∧ q9okAV (q9tE x) s = true ∧ q9zeroB x = true then (match q9cutLo (q9tE x) w 1 with
      | some E => some [q9sE x E]
      | none => some []) else none
    | _, _ => none)
  | _, _, _, _ => none
theorem q9bitR_oq : @q9bitR = @q9bitR_o := by
  delta q9bitR q9bitR_o
  simp only [q9ge9_eq, q9fi9_eq, q9an9_eq, q9al9_eq, q9flt9_eq, q9el9_eq, q9set9_eq, q9ln9_eq, q9gD9_eq, q9ap9_eq, q9eq9_N, q9eq9_I, q9eq9_A, q9eq9_E, q9eq9_OI, q9eq9_ON, q9eq9_OA, q9eq9_L, q9eq9_S, q9de9_N, q9de9_I, q9de9_A, q9le9_N, q9le9_I, q9lt9_N, q9lt9_I, q9de9_E, q9de9_OI, q9de9_ON, q9de9_OA, q9de9_L, q9nd9_eq, q9or9_eq, Bool.cond_decide]
theorem q9bit_set {x : q9ST} {r : Nat → Value} {G : q9GH} {aI sI : Int32} {v k : Nat} (hk : k < 32) (hs : sI.toInt = k) (hv : r v = .int ((aI >>> (sI &&& 31)) &&& 1)) {lo hi : Int} (hS : q9SAT G (q9tE x) r) (hE : (q9tE x)[v]? = some (0, lo, hi)) (hlo : 1 ≤ lo) : aI.toBitVec.toNat.testBit k = true := by
  obtain ⟨u, u1, u2, -⟩ := hS v _ hE
  have u2 : lo ≤ u.toInt := u2
  rw [hv] at u1
  cases u1
  rw [q9bitV hk hs] at u2
  by_cases hb : aI.toBitVec.toNat.testBit k = true
  · exact hb
  · rw [if_neg hb] at u2
    omega
theorem q9bitR_ok (a s : q9AV) : q9RFok O (q9bitR a s) := by
  intro nL g cT A x r G ws ls st xs hw hM hT hD h
  (rewrite [q9bitR_oq] at h; unfold q9bitR_o at h)
  split at h
  · rename_i v w al ah l h' hbt hpc hna hns
    split at h
    · rename_i vl vh wl wh hEv hEw
      split at h
      · rename_i hc
        obtain ⟨c1, c2, c3, c4, c5, c6⟩ := hc
        obtain ⟨aI, a1, -⟩ := q9num_int hM.2.2.2.1 c4 hna
        obtain ⟨sI, s1, s2, s3, s4⟩ := q9num_int hM.2.2.2.1 c5 hns
        obtain ⟨v1, v2⟩ := q9btX_ok hM hw c6 hbt a1 s1
        obtain ⟨w1, w2⟩ := q9pcX_ok hM hw hpc a1 (q9ev32 hM.2.2.2.1 c6)
        have hb := q9bit_set (k := sI.toInt.toNat) (by omega) (by omega) v1 hM.2.2.2.1 hEv c1
        have hp := q9pcN_pos hb 32 (by omega)
        obtain ⟨E, e1, e2, e3, -⟩ := q9cutLo_ok hM.2.2.2.1 hEw (.inl rfl) (l := 1) (by
          rw [q9iv_of w1]
          show (1 : Int) ≤ (Int32.ofNat (q9pcN aI.toBitVec.toNat 32)).toInt
          rw [q9pcI (Nat.le_refl 32)]
          omega)
        rw [e1] at h
        cases h
        exact ⟨_, List.mem_cons_self, r, q9agr.rf, Nat.le_of_eq e3.symm, rfl, rfl, hM.E e2⟩
      · cases h
    · cases h
  · cases h
/-- q9one bit is taken out -/
noncomputable def q9clrQ_o (x : q9ST) (a s v : q9AV) : Bool := v.2 == 0 && (q9tX x).any (fun q => q.1 == 5 && (q.2.1 == a && (q.2.2.2 == v.1 && (q.2.2.1.2 == 0 && (q9tX x).any (fun p => p.1 == 7 && (p.2.1.2 == 0 && (p.2.2.1 == (0, -1) && (p.2.2.2 == q.2.2.1.1 && (q9tX x).any (fun t => t.1 == 8 && (t.2.1 == (0, 1) && (t.2.2.1 == s && t.2.2.2 == p.2.1.1)))))))))))
noncomputable def q9clrQ (x : q9ST) (a s v : q9AV) : Bool := q9nd9 (q9eq9 (v.2) (0)) (q9an9 (q9tX x) (fun q => q9nd9 (q9eq9 (q.1) (5)) ((q9nd9 (q9eq9 (q.2.1) (a)) ((q9nd9 (q9eq9 (q.2.2.2) (v.1)) ((q9nd9 (q9eq9 (q.2.2.1.2) (0)) (q9an9 (q9tX x) (fun p => q9nd9 (q9eq9 (p.1) (7)) ((q9nd9 (q9eq9 (p.2.1.2) (0)) ((q9nd9 (q9eq9 (p.2.2.1) ((0, -1))) ((q9nd9 (q9eq9 (p.2.2.2) (q.2.2.1.1)) (q9an9 (q9tX x) (fun t => q9nd9 (q9eq9 (t.1) (8)) ((q9nd9 (q9eq9 (t.2.1) ((0, 1))) ((q9nd9 (q9eq9 (t.2.2.1) (s)) (q9eq9 (t.2.2.2) (p.2.1.1))))))))))))))))))))))))
theorem q9clrQ_oq : @q9clrQ = @q9clrQ_o := by
  delta q9clrQ q9clrQ_o
  simp only [q9ge9_eq, q9fi9_eq, q9an9_eq, q9al9_eq, q9flt9_eq, q9el9_eq, q9set9_eq, q9ln9_eq, q9gD9_eq, q9ap9_eq, q9eq9_N, q9eq9_I, q9eq9_A, q9eq9_E, q9eq9_OI, q9eq9_ON, q9eq9_OA, q9eq9_L, q9eq9_S, q9de9_N, q9de9_I, q9de9_A, q9le9_N, q9le9_I, q9lt9_N, q9lt9_I, q9de9_E, q9de9_OI, q9de9_ON, q9de9_OA, q9de9_L, q9nd9_eq, q9or9_eq, Bool.cond_decide]
noncomputable def q9clrR_o (a s v : q9AV) : q9RF := fun x => match q9btX x a s, q9pcX x a (0, 32), q9num (q9tE x) a, q9num (q9tE x) s with
  | some b, some w, some (0, _, _), some (0, l, h) => (match (q9tE x)[b]?, (q9tE x)[w]? with
    | some (0, vl, _), some (0, _, wh) => if 1 ≤ vl ∧ 0 ≤ l ∧ h ≤ 31 ∧ q9okAV (q9tE x) a = true ∧ q9okAV (q9tE x) s = true ∧ q9okAV (q9tE x) v = true ∧ q9zeroB x = true ∧ q9clrQ x a s v = true then
        some [q9addS x [(0, 0, wh - 1)] [] [] [((q9tE x).length, w, -1), (w, (q9tE x).length, 1)] [(31, v, (0, 32), (q9tE x).length)]] else none
    | _, _ => none)
  | _, _, _, _ => none
noncomputable def q9clrR (a s v : q9AV) : q9RF := fun x => match q9btX x a s, q9pcX x a (0, 32), q9num (q9tE x) a, q9num (q9tE x) s with
  | some b, some w, some (0, _, _), some (0, l, h) => (match (q9ge9 (q9tE x) (b)), (q9ge9 (q9tE x) (w)) with
    | some (0, vl, _), some (0, _, wh) => if 1 ≤ vl ∧ 0 ≤ l ∧ h ≤ 31 ∧ q9okAV (q9tE x) a = true ∧ q9okAV (q9tE x) s = true ∧ q9okAV (q9tE x) v = true ∧ q9zeroB x = true ∧ q9clrQ x a s v = true then
        some [q9addS x [(0, 0, wh - 1)] [] [] [((q9ln9 (q9tE x)), w, -1), (w, (q9ln9 (q9tE x)), 1)] [(31, v, (0, 32), (q9ln9 (q9tE x)))]] else none
    | _, _ => none)
  | _, _, _, _ => none
theorem q9clrR_oq : @q9clrR = @q9clrR_o := by
  delta q9clrR q9clrR_o
  simp only [q9ge9_eq, q9fi9_eq, q9an9_eq, q9al9_eq, q9flt9_eq, q9el9_eq, q9set9_eq, q9ln9_eq, q9gD9_eq, q9ap9_eq, q9eq9_N, q9eq9_I, q9eq9_A, q9eq9_E, q9eq9_OI, q9eq9_ON, q9eq9_OA, q9eq9_L, q9eq9_S, q9de9_N, q9de9_I, q9de9_A, q9le9_N, q9le9_I, q9lt9_N, q9lt9_I, q9de9_E, q9de9_OI, q9de9_ON, q9de9_OA, q9de9_L, q9nd9_eq, q9or9_eq, Bool.cond_decide]
theorem q9clrR_ok (a s v : q9AV) : q9RFok O (q9clrR a s v) := by
  intro nL g cT A x r G ws ls st xs hw hM hT hD h
  (rewrite [q9clrR_oq] at h; unfold q9clrR_o at h)
  split at h
  · rename_i b w al ah l h' hbt hpc hna hns
    split at h
    · rename_i vl vh wl wh hEv hEw
      split at h
      · rename_i hc
        obtain ⟨c1, c2, c3, c4, c5, c7, c6, q9c8⟩ := hc
        cases h
        obtain ⟨aI, a1, -⟩ := q9num_int hM.2.2.2.1 c4 hna
        obtain ⟨sI, s1, s2, s3, s4⟩ := q9num_int hM.2.2.2.1 c5 hns
        obtain ⟨v1, v2⟩ := q9btX_ok hM hw c6 hbt a1 s1
        obtain ⟨w1, w2⟩ := q9pcX_ok hM hw hpc a1 (q9ev32 hM.2.2.2.1 c6)
        have w1 : r w = .int (Int32.ofNat (q9pcN aI.toBitVec.toNat 32)) := w1
        have hb := q9bit_set (k := sI.toInt.toNat) (by omega) (by omega) v1 hM.2.2.2.1 hEv c1
        (rewrite [q9clrQ_oq] at q9c8; unfold q9clrQ_o at q9c8)
        rw [Bool.and_eq_true, beq_iff_eq] at q9c8
        obtain ⟨q9c8, c9⟩ := q9c8
        obtain ⟨q, q1, q2⟩ := List.any_eq_true.mp c9
        simp only [Bool.and_eq_true, beq_iff_eq] at q2
        obtain ⟨q3, q4, q5, q6, q7⟩ := q2
        obtain ⟨p, p1, p2⟩ := List.any_eq_true.mp q7
        simp only [Bool.and_eq_true, beq_iff_eq] at p2
        obtain ⟨p3, p4, p5, p6, p7⟩ := p2
        obtain ⟨t, t1, t2⟩ := List.any_eq_true.mp p7
        simp only [Bool.and_eq_true, beq_iff_eq] at t2
        obtain ⟨t3, t4, t5, t6⟩ := t2
        have g1 := hM.2.2.2.2.2.2.2 t t1
        unfold q9EXok at g1
        rw [t3, t4, t5, s1, t6, q9zero_ev hM.2.2.2.1 (q9zero_at c6) 1] at g1
        have g1 : r p.2.1.1 = .int (1 <<< (sI &&& 31)) := (Option.some.inj g1).symm
        have g2 := hM.2.2.2.2.2.2.2 p p1
        unfold q9EXok at g2
        rw [p3, q9isSym p4, g1, p5, p6, q9zero_ev hM.2.2.2.1 (q9zero_at c6) (-1)] at g2
        have g2 : r q.2.2.1.1 = .int ((1 <<< (sI &&& 31)) ^^^ (-1)) := (Option.some.inj g2).symm
        have g3 := hM.2.2.2.2.2.2.2 q q1
        unfold q9EXok at g3
        rw [q3, q4, a1, q5, q9isSym q6, g2] at g3
        have g3 : r v.1 = .int (aI &&& ((1 <<< (sI &&& 31)) ^^^ (-1))) := (Option.some.inj g3).symm
        have hcl := q9pcN_clr (n := aI.toBitVec.toNat) (n' := (aI &&& ((1 <<< (sI &&& 31)) ^^^ (-1))).toBitVec.toNat) (s := sI.toInt.toNat) (fun i hi => q9clrB (by omega) (by omega) hi) hb 32 (Nat.le_refl 32)
        rw [if_pos (by omega)] at hcl
        have hwh : (Int32.ofNat (q9pcN aI.toBitVec.toNat 32)).toInt ≤ wh := by
          obtain ⟨u, u1, u2, u3⟩ := hM.2.2.2.1 _ _ hEw
          rw [w1] at u1
          cases u1
          exact u3
        rw [q9pcI (Nat.le_refl 32)] at hwh
        have hI := q9pcI (n := (aI &&& ((1 <<< (sI &&& 31)) ^^^ (-1))).toBitVec.toNat) (Nat.le_refl 32)
        have hI2 := q9pcI (n := aI.toBitVec.toNat) (Nat.le_refl 32)
        refine q9rf_add hM hw [.int (Int32.ofNat (q9pcN (aI &&& ((1 <<< (sI &&& 31)) ^^^ (-1))).toBitVec.toNat 32))] List.mem_cons_self (q9ty_cons ⟨_, rfl, by show (0 : Int) ≤ _; omega, by show _ ≤ wh - 1; omega⟩ q9ty_nil) q9no_mem q9no_mem (q9cons_mem ?_ (q9one_mem ?_)) (q9one_mem ?_)
        · unfold q9FCok
          rw [q9iv_of (k := (q9tE x).length) q9rU0, q9upL_agr.iv w2, q9iv_of w1]
          show (Int32.ofNat _).toInt ≤ (Int32.ofNat _).toInt + -1
          omega
        · unfold q9FCok
          rw [q9iv_of (k := (q9tE x).length) q9rU0, q9upL_agr.iv w2, q9iv_of w1]
          show (Int32.ofNat _).toInt ≤ (Int32.ofNat _).toInt + 1
          omega
        · unfold q9EXok
          show q9exop O 31 (q9ev _ v) (q9ev _ (0, 32)) = some (q9upL r (q9tE x).length _ (q9tE x).length)
          rw [q9upL_agr.ev c7, q9ev_agree (a := (0, 32)) (q9upL_lt (q9lt_of_E (q9zero_at c6))), q9isSym q9c8, g3, q9ev32 hM.2.2.2.1 c6, q9rU0]
          rfl
      · cases h
    · cases h
  · cases h
/-- bits counted so far, with q9one q9more -/
noncomputable def q9cntR_o (a s n v : q9AV) : q9RF := fun x => match q9btX x a s, q9num (q9tE x) a, q9num (q9tE x) s, q9num (q9tE x) n with
  | some b, some (0, _, _), some (0, l, h), some (0, nl, nh) => if 0 ≤ l ∧ h ≤ 30 ∧ 0 ≤ nl ∧ nh ≤ 1000 ∧ q9okAV (q9tE x) a = true ∧ q9okAV (q9tE x) s = true ∧ q9okAV (q9tE x) n = true ∧ q9okAV (q9tE x) v = true ∧ q9okAV (q9tE x) (s.1, s.2 + 1) = true ∧ q9isInt x s = true ∧ q9zeroB x = true ∧ v.2 = 0 ∧
      ((decide (h ≤ 0) && decide (nh ≤ 0)) || (n.2 == 0 && (q9tX x).any (fun q => q.1 == 31 && (q.2.1 == a && (q.2.2.1 == s && q.2.2.2 == n.1))))) = true ∧ (q9tX x).any (fun q => q.1 == 0 && (q.2.1 == n && (q.2.2.1 == (b, 0) && q.2.2.2 == v.1))) = true then
      (match q9cutHi (q9tE x) v.1 (h + 1) with
        | some E => if q9wfB (q9sE x E) = true then some [q9addS (q9sE x E) [] [] [] [] [(31, a, (s.1, s.2 + 1), v.1)]] else none
        | none => none) else none
  | _, _, _, _ => none
noncomputable def q9cntR (a s n v : q9AV) : q9RF := fun x => match q9btX x a s, q9num (q9tE x) a, q9num (q9tE x) s, q9num (q9tE x) n with
  | some b, some (0, _, _), some (0, l, h), some (0, nl, nh) => if 0 ≤ l ∧ h ≤ 30 ∧ 0 ≤ nl ∧ nh ≤ 1000 ∧ q9okAV (q9tE x) a = true ∧ q9okAV (q9tE x) s = true ∧ q9okAV (q9tE x) n = true ∧ q9okAV (q9tE x) v = true ∧ q9okAV (q9tE x) (s.1, s.2 + 1) = true ∧ q9isInt x s = true ∧ q9zeroB x = true ∧ v.2 = 0 ∧
      (q9or9 ((q9nd9 ((q9le9 (h) (0))) ((q9le9 (nh) (0))))) ((q9nd9 (q9eq9 (n.2) (0)) (q9an9 (q9tX x) (fun q => q9nd9 (q9eq9 (q.1) (31)) ((q9nd9 (q9eq9 (q.2.1) (a)) ((q9nd9 (q9eq9 (q.2.2.1) (s)) (q9eq9 (q.2.2.2) (n.1))))))))))) = true ∧ q9an9 (q9tX x) (fun q => q9nd9 (q9eq9 (q.1) (0)) ((q9nd9 (q9eq9 (q.2.1) (n)) ((q9nd9 (q9eq9 (q.2.2.1) ((b, 0))) (q9eq9 (q.2.2.2) (v.1))))))) = true then
      (match q9cutHi (q9tE x) v.1 (h + 1) with
        | some E => if q9wfB (q9sE x E) = true then some [q9addS (q9sE x E) [] [] [] [] [(31, a, (s.1, s.2 + 1), v.1)]] else none
        | none => none) else none
  | _, _, _, _ => none
theorem q9cntR_oq : @q9cntR = @q9cntR_o := by
  delta q9cntR q9cntR_o
  simp only [q9ge9_eq, q9fi9_eq, q9an9_eq, q9al9_eq, q9flt9_eq, q9el9_eq, q9set9_eq, q9ln9_eq, q9gD9_eq, q9ap9_eq, q9eq9_N, q9eq9_I, q9eq9_A, q9eq9_E, q9eq9_OI, q9eq9_ON, q9eq9_OA, q9eq9_L, q9eq9_S, q9de9_N, q9de9_I, q9de9_A, q9le9_N, q9le9_I, q9lt9_N, q9lt9_I, q9de9_E, q9de9_OI, q9de9_ON, q9de9_OA, q9de9_L, q9nd9_eq, q9or9_eq, Bool.cond_decide]
theorem q9cntR_ok (a s n v : q9AV) : q9RFok O (q9cntR a s n v) := by
  intro nL g cT A x r G ws ls st xs hw hM hT hD h
  (rewrite [q9cntR_oq] at h; unfold q9cntR_o at h)
  split at h
  · rename_i b al ah l h' nl nh hbt hna hns hnn
    split at h
    · rename_i hc
      obtain ⟨c1, c2, c3, c4, c5, c6, c7, q9c8, c9, c10, c11, c12, c13, c14⟩ := hc
      obtain ⟨aI, a1, -⟩ := q9num_int hM.2.2.2.1 c5 hna
      obtain ⟨sI, s1, s2, s3, s4⟩ := q9num_int hM.2.2.2.1 c6 hns
      obtain ⟨nI, n1, n2, n3, n4⟩ := q9num_int hM.2.2.2.1 c7 hnn
      obtain ⟨v1, v2⟩ := q9btX_ok hM hw c11 hbt a1 s1
      obtain ⟨s', s5, s6⟩ := q9ev_off hM.2.2.2.1 c6 c9 c10 s1
      obtain ⟨q, q1, q2⟩ := List.any_eq_true.mp c14
      simp only [Bool.and_eq_true, beq_iff_eq] at q2
      obtain ⟨q3, q4, q5, q6⟩ := q2
      have g1 := hM.2.2.2.2.2.2.2 q q1
      unfold q9EXok at g1
      rw [q3, q4, n1, q5, q9ev_zero, v1, q6] at g1
      have g1 : r v.1 = .int (nI + ((aI >>> (sI &&& 31)) &&& 1)) := (Option.some.inj g1).symm
      have hn9 : nI = Int32.ofNat (q9pcN aI.toBitVec.toNat sI.toInt.toNat) := by
        rcases Bool.or_eq_true _ _ ▸ c13 with c13 | c13
        · rw [Bool.and_eq_true, decide_eq_true_eq, decide_eq_true_eq] at c13
          rw [show sI.toInt.toNat = 0 by omega]
          exact Int32.toInt_inj.mp (by rw [show nI.toInt = 0 by omega]; rfl)
        · rw [Bool.and_eq_true, beq_iff_eq] at c13
          obtain ⟨c13, c15⟩ := c13
          obtain ⟨p, p1, p2⟩ := List.any_eq_true.mp c15
          simp only [Bool.and_eq_true, beq_iff_eq] at p2
          obtain ⟨p3, p4, p5, p6⟩ := p2
          have g2 := hM.2.2.2.2.2.2.2 p p1
          unfold q9EXok at g2
          rw [p3, p4, a1, p5, s1, p6] at g2
          have g2 : r n.1 = .int (Int32.ofNat (q9pcN aI.toBitVec.toNat sI.toInt.toNat)) := (Option.some.inj g2).symm
          rw [q9isSym c13, g2] at n1
          injection n1 with n1
          exact n1.symm
      have hk : sI.toInt.toNat < 32 := by omega
      have hb := q9bitV (x := aI) (s := sI) hk (by omega)
      have hp := q9pcI (n := aI.toBitVec.toNat) (k := sI.toInt.toNat) (by omega)
      have hp2 := q9pcI (n := aI.toBitVec.toNat) (k := sI.toInt.toNat + 1) (by omega)
      have hsum : nI + ((aI >>> (sI &&& 31)) &&& 1) = Int32.ofNat (q9pcN aI.toBitVec.toNat (sI.toInt.toNat + 1)) := by
        apply Int32.toInt_inj.mp
        rw [hp2]
        have hs9 : q9pcN aI.toBitVec.toNat (sI.toInt.toNat + 1) = q9pcN aI.toBitVec.toNat sI.toInt.toNat + (if aI.toBitVec.toNat.testBit sI.toInt.toNat = true then 1 else 0) := rfl
        rw [hs9]
        have hle := q9pcN_le aI.toBitVec.toNat sI.toInt.toNat
        rw [← hn9] at hp
        split at hb
        · rename_i ht
          rw [if_pos ht, q9n_add (by omega) (by omega)]
          omega
        · rename_i ht
          rw [if_neg ht, q9n_add (by omega) (by omega)]
          omega
      have hpv : q9nV (r v.1) = some (q9pcN aI.toBitVec.toNat (sI.toInt.toNat + 1) : Int) := by
        rw [g1, hsum]
        show some (Int32.ofNat _).toInt = _
        rw [hp2]
      have hvle := q9pcN_le aI.toBitVec.toNat (sI.toInt.toNat + 1)
      obtain ⟨t9, ht9⟩ : ∃ t9, (q9tE x)[v.1]? = some t9 := ⟨_, List.getElem?_eq_getElem (q9okAV_lt q9c8)⟩
      obtain ⟨E9, e1, e2, e3, -⟩ := q9cutHi_ok hM.2.2.2.1 ht9 (q9numT hpv (hM.2.2.2.1 _ _ ht9)) (h := h' + 1) (by rw [q9iv_nV hpv]; omega)
      rw [e1] at h
      dsimp only at h
      split at h
      · rename_i hw9
        cases h
        have hlen : (q9tE (q9sE x E9)).length = (q9tE x).length := e3
        obtain ⟨x', x1, r', x2, x3, x4, x5, x6⟩ := q9rf_add (hM.E e2) hw9 (ts := []) (F' := []) (A' := []) (C' := []) (X' := [(31, a, (s.1, s.2 + 1), v.1)]) [] List.mem_cons_self q9ty_nil q9no_mem q9no_mem q9no_mem (q9one_mem (by
          unfold q9EXok
          show q9exop O 31 (q9ev _ a) (q9ev _ (s.1, s.2 + 1)) = some (q9upL r (q9tE (q9sE x E9)).length [] v.1)
          rw [q9ev_agree (q9upL_lt (by rw [hlen]; exact q9okAV_lt c5)), q9ev_agree (a := (s.1, s.2 + 1)) (q9upL_lt (by rw [hlen]; exact q9okAV_lt c9)), a1, s5, q9upL_lt (by rw [hlen]; exact q9okAV_lt q9c8), g1, hsum]
          show some (Value.int (Int32.ofNat (q9pcN aI.toBitVec.toNat s'.toInt.toNat))) = _
          rw [show s'.toInt.toNat = sI.toInt.toNat + 1 by omega]))
        rw [hlen] at x2 x3
        exact ⟨x', x1, r', x2, x3, x4, x5, x6⟩
      · cases h
    · cases h
  · cases h
/-- all bits are counted -/
noncomputable def q9totR_o (a s : q9AV) : q9RF := fun x => match q9pcX x a s, q9num (q9tE x) a, q9num (q9tE x) s, (q9tX x).find? (fun p => p.1 == 9 && (p.2.1 == a && (q9isInt x p.2.2.1 && (q9leB x p.2.2.1 s 0 && (q9leB x s p.2.2.1 0 && decide ((q9tE x)[p.2.2.2]? = some (0, 0, 0))))))) with
  | some n, some (0, _, _), some (0, l, h), some p => if 0 ≤ l ∧ h ≤ 31 ∧ q9okAV (q9tE x) a = true ∧ q9okAV (q9tE x) s = true ∧ q9zeroB x = true then some [q9addS x [] [] [] [] [(31, a, (0, 32), n)]] else none
  | _, _, _, _ => none
noncomputable def q9totR (a s : q9AV) : q9RF := fun x => match q9pcX x a s, q9num (q9tE x) a, q9num (q9tE x) s, q9fi9 (q9tX x) (fun p => q9nd9 (q9eq9 (p.1) (9)) ((q9nd9 (q9eq9 (p.2.1) (a)) ((q9nd9 (q9isInt x p.2.2.1) ((q9nd9 (q9leB x p.2.2.1 s 0) ((q9nd9 (q9leB x s p.2.2.1 0) (decide ((q9ge9 (q9tE x) (p.2.2.2)) = some (0, 0, 0)))))))))))) with
  | some n, some (0, _, _), some (0, l, h), some p => if 0 ≤ l ∧ h ≤ 31 ∧ q9okAV (q9tE x) a = true ∧ q9okAV (q9tE x) s = true ∧ q9zeroB x = true then some [q9addS x [] [] [] [] [(31, a, (0, 32), n)]] else none
  | _, _, _, _ => none
theorem q9totR_oq : @q9totR = @q9totR_o := by
  delta q9totR q9totR_o
  simp only [q9ge9_eq, q9fi9_eq, q9an9_eq, q9al9_eq, q9flt9_eq, q9el9_eq, q9set9_eq, q9ln9_eq, q9gD9_eq, q9ap9_eq, q9eq9_N, q9eq9_I, q9eq9_A, q9eq9_E, q9eq9_OI, q9eq9_ON, q9eq9_OA, q9eq9_L, q9eq9_S, q9de9_N, q9de9_I, q9de9_A, q9le9_N, q9le9_I, q9lt9_N, q9lt9_I, q9de9_E, q9de9_OI, q9de9_ON, q9de9_OA, q9de9_L, q9nd9_eq, q9or9_eq, Bool.cond_decide]
theorem q9totR_ok (a s : q9AV) : q9RFok O (q9totR a s) := by
  intro nL g cT A x r G ws ls st xs hw hM hT hD h
  (rewrite [q9totR_oq] at h; unfold q9totR_o at h)
  split at h
  · rename_i n al ah l h' p hpc hna hns hp
    split at h
    · rename_i hc
      obtain ⟨c1, c2, c3, c4, c5⟩ := hc
      cases h
      obtain ⟨aI, a1, -⟩ := q9num_int hM.2.2.2.1 c3 hna
      obtain ⟨sI, s1, s2, s3, s4⟩ := q9num_int hM.2.2.2.1 c4 hns
      obtain ⟨n1, n2⟩ := q9pcX_ok hM hw hpc a1 s1
      have p1 := List.find?_some hp
      have p2 := List.mem_of_find?_eq_some hp
      simp only [Bool.and_eq_true, beq_iff_eq, decide_eq_true_eq] at p1
      obtain ⟨p3, p4, p5, p6, p7, p8⟩ := p1
      obtain ⟨w1, w2, w3⟩ := q9wf_X hw p p2
      obtain ⟨tI, t1⟩ := q9isInt_ok hM.2.2.2.1 w2 p5
      have l1 := q9leB_ok hM w2 c4 p6
      have l2 := q9leB_ok hM c4 w2 p7
      rw [t1, s1] at l1 l2
      have l1 : tI.toInt ≤ sI.toInt + 0 := l1
      have l2 : sI.toInt ≤ tI.toInt + 0 := l2
      have hts : tI = sI := Int32.toInt_inj.mp (by omega)
      have g1 := hM.2.2.2.2.2.2.2 p p2
      unfold q9EXok at g1
      rw [p3, p4, a1, t1, hts] at g1
      have g1 : r p.2.2.2 = .int (aI >>> (sI &&& 31)) := (Option.some.inj g1).symm
      obtain ⟨u, u1, u2, u3⟩ := hM.2.2.2.1 _ _ p8
      rw [g1] at u1
      cases u1
      have u2 : 0 ≤ (aI >>> (sI &&& 31)).toInt := u2
      have u3 : (aI >>> (sI &&& 31)).toInt ≤ 0 := u3
      have hz : aI >>> (sI &&& 31) = 0 := Int32.toInt_inj.mp (by rw [Int32.toInt_zero]; omega)
      have hk : sI.toInt.toNat < 32 := by omega
      have ht := q9pcN_tot 32 (Nat.le_of_lt hk) (q9totB hk (by omega) hz)
      refine q9rf_add hM hw [] List.mem_cons_self q9ty_nil q9no_mem q9no_mem q9no_mem (q9one_mem ?_)
      unfold q9EXok
      show q9exop O 31 (q9ev _ a) (q9ev _ (0, 32)) = some (q9upL r (q9tE x).length [] n)
      rw [q9upL_agr.ev c3, q9ev_agree (a := (0, 32)) (q9upL_lt (q9lt_of_E (q9zero_at c5))), a1, q9ev32 hM.2.2.2.1 c5, q9upL_lt n2, n1, ← ht]
      rfl
    · cases h
  · cases h
