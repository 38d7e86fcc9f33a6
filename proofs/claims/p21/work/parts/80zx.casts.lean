variable {O : ORC}
/-! how many are cast -/
/-- a bit is set -/
theorem q9orB {x s : Int32} {k i : Nat} (hk : k < 32) (hs : s.toInt = k) (hi : i < 32) : (x ||| (1 <<< (s &&& 31))).toBitVec.toNat.testBit i = (x.toBitVec.toNat.testBit i || decide (i = k)) := by
  have e2 : (x ||| (1 <<< (s &&& 31))).toBitVec = x.toBitVec ||| (1#32 <<< ((s &&& 31).toBitVec.smod 32#32)) := rfl
  rw [e2]
  show BitVec.getLsbD _ i = (BitVec.getLsbD _ i || _)
  rw [BitVec.getLsbD_or, BitVec.getLsbD_shiftLeft', q9sh_amt hk hs, BitVec.getLsbD_one]
  by_cases h1 : i = k
  · subst h1
    simp [hi]
  · by_cases h2 : i < k
    · simp [h1, h2, hi]
    · have h3 : ¬ (i - k = 0) := by omega
      simp [h1, h2, hi, h3]
theorem q9bit_clr {x : q9ST} {r : Nat → Value} {G : q9GH} {aI sI : Int32} {v k : Nat} (hk : k < 32) (hs : sI.toInt = k) (hv : r v = .int ((aI >>> (sI &&& 31)) &&& 1)) {lo hi : Int} (hS : q9SAT G (q9tE x) r) (hE : (q9tE x)[v]? = some (0, lo, hi)) (hhi : hi ≤ 0) : aI.toBitVec.toNat.testBit k = false := by
  obtain ⟨u, u1, -, u3⟩ := hS v _ hE
  have u3 : u.toInt ≤ hi := u3
  rw [hv] at u1
  cases u1
  rw [q9bitV hk hs] at u3
  by_cases hb : aI.toBitVec.toNat.testBit k = true
  · rw [if_pos hb] at u3
    omega
  · exact Bool.eq_false_iff.mpr hb
/-- a known result of an operation -/
noncomputable def q9rX9_o (x : q9ST) (o : Nat) (a b : q9AV) : Option Nat := ((q9tX x).find? (fun q => q.1 == o && (q.2.1 == a && q.2.2.1 == b))).map (fun q => q.2.2.2)
noncomputable def q9rX9 (x : q9ST) (o : Nat) (a b : q9AV) : Option Nat := (q9fi9 (q9tX x) (fun q => q9nd9 (q9eq9 (q.1) (o)) ((q9nd9 (q9eq9 (q.2.1) (a)) (q9eq9 (q.2.2.1) (b)))))).map (fun q => q.2.2.2)
theorem q9rX9_oq : @q9rX9 = @q9rX9_o := by
  delta q9rX9 q9rX9_o
  simp only [q9ge9_eq, q9fi9_eq, q9an9_eq, q9al9_eq, q9flt9_eq, q9el9_eq, q9set9_eq, q9ln9_eq, q9gD9_eq, q9ap9_eq, q9eq9_N, q9eq9_I, q9eq9_A, q9eq9_E, q9eq9_OI, q9eq9_ON, q9eq9_OA, q9eq9_L, q9eq9_S, q9de9_N, q9de9_I, q9de9_A, q9le9_N, q9le9_I, q9lt9_N, q9lt9_I, q9de9_E, q9de9_OI, q9de9_ON, q9de9_OA, q9de9_L, q9nd9_eq, q9or9_eq, Bool.cond_decide]
theorem q9rX9_ok {nL : Nat} {g : List Value} {x : q9ST} {r : Nat → Value} {G : q9GH} {ws : va_W} {ls : Array Slot} {st : List Value} (hM : q9SM O nL g x r G ws ls st) {o : Nat} {a b : q9AV} {v : Nat} (h : q9rX9 x o a b = some v) : q9exop O o (q9ev r a) (q9ev r b) = some (r v) := by
  (rewrite [q9rX9_oq] at h; unfold q9rX9_o at h)
  cases hq : (q9tX x).find? (fun q => q.1 == o && (q.2.1 == a && q.2.2.1 == b)) with
  | none => rw [hq] at h; cases h
  | some q =>
    rw [hq] at h
    cases h
    have h1 := List.find?_some hq
    have h2 := List.mem_of_find?_eq_some hq
    simp only [Bool.and_eq_true, beq_iff_eq] at h1
    obtain ⟨h3, h4, h5⟩ := h1
    have hX := hM.2.2.2.2.2.2.2 q h2
    unfold q9EXok at hX
    rw [h3, h4, h5] at hX
    exact hX
/-- 1 << s -/
noncomputable def q9oneX_o (x : q9ST) (s : q9AV) (k : Nat) : Bool := (q9tX x).any (fun t => t.1 == 8 && (t.2.1 == ((0, 1) : q9AV) && (t.2.2.1 == s && t.2.2.2 == k)))
noncomputable def q9oneX (x : q9ST) (s : q9AV) (k : Nat) : Bool := q9an9 (q9tX x) (fun t => q9nd9 (q9eq9 (t.1) (8)) ((q9nd9 (q9eq9 (t.2.1) (((0, 1) : q9AV))) ((q9nd9 (q9eq9 (t.2.2.1) (s)) (q9eq9 (t.2.2.2) (k)))))))
theorem q9oneX_oq : @q9oneX = @q9oneX_o := by
  delta q9oneX q9oneX_o
  simp only [q9ge9_eq, q9fi9_eq, q9an9_eq, q9al9_eq, q9flt9_eq, q9el9_eq, q9set9_eq, q9ln9_eq, q9gD9_eq, q9ap9_eq, q9eq9_N, q9eq9_I, q9eq9_A, q9eq9_E, q9eq9_OI, q9eq9_ON, q9eq9_OA, q9eq9_L, q9eq9_S, q9de9_N, q9de9_I, q9de9_A, q9le9_N, q9le9_I, q9lt9_N, q9lt9_I, q9de9_E, q9de9_OI, q9de9_ON, q9de9_OA, q9de9_L, q9nd9_eq, q9or9_eq, Bool.cond_decide]
theorem q9oneX_ok {nL : Nat} {g : List Value} {x : q9ST} {r : Nat → Value} {G : q9GH} {ws : va_W} {ls : Array Slot} {st : List Value} (hM : q9SM O nL g x r G ws ls st) (h0 : q9zeroB x = true) {s : q9AV} {k : Nat} (h : q9oneX x s k = true) {sI : Int32} (hs : q9ev r s = .int sI) : r k = .int (1 <<< (sI &&& 31)) := by
  (rewrite [q9oneX_oq] at h; unfold q9oneX_o at h)
  obtain ⟨t, t1, t2⟩ := List.any_eq_true.mp h
  simp only [Bool.and_eq_true, beq_iff_eq] at t2
  obtain ⟨t3, t4, t5, t6⟩ := t2
  have g1 := hM.2.2.2.2.2.2.2 t t1
  unfold q9EXok at g1
  rw [t3, t4, t5, hs, t6, q9zero_ev hM.2.2.2.1 (q9zero_at h0) 1] at g1
  exact (Option.some.inj g1).symm
/-- a & ~(1 << f) | 1 << t -/
noncomputable def q9mvQ_o (x : q9ST) (a f t v : q9AV) : Bool := v.2 == 0 && (q9tX x).any (fun o => o.1 == 6 && (o.2.2.2 == v.1 && (o.2.1.2 == 0 && (o.2.2.1.2 == 0 && (q9oneX x t o.2.2.1.1 && (q9tX x).any (fun q => q.1 == 5 && (q.2.1 == a && (q.2.2.2 == o.2.1.1 && (q.2.2.1.2 == 0 && (q9tX x).any (fun p => p.1 == 7 && (p.2.1.2 == 0 && (p.2.2.1 == ((0, -1) : q9AV) && (p.2.2.2 == q.2.2.1.1 && q9oneX x f p.2.1.1)))))))))))))
noncomputable def q9mvQ (x : q9ST) (a f t v : q9AV) : Bool := q9nd9 (q9eq9 (v.2) (0)) (q9an9 (q9tX x) (fun o => q9nd9 (q9eq9 (o.1) (6)) ((q9nd9 (q9eq9 (o.2.2.2) (v.1)) ((q9nd9 (q9eq9 (o.2.1.2) (0)) ((q9nd9 (q9eq9 (o.2.2.1.2) (0)) ((q9nd9 (q9oneX x t o.2.2.1.1) (q9an9 (q9tX x) (fun q => q9nd9 (q9eq9 (q.1) (5)) ((q9nd9 (q9eq9 (q.2.1) (a)) ((q9nd9 (q9eq9 (q.2.2.2) (o.2.1.1)) ((q9nd9 (q9eq9 (q.2.2.1.2) (0)) (q9an9 (q9tX x) (fun p => q9nd9 (q9eq9 (p.1) (7)) ((q9nd9 (q9eq9 (p.2.1.2) (0)) ((q9nd9 (q9eq9 (p.2.2.1) (((0, -1) : q9AV))) ((q9nd9 (q9eq9 (p.2.2.2) (q.2.2.1.1)) (q9oneX x f p.2.1.1)))))))))))))))))))))))))))
theorem q9mvQ_oq : @q9mvQ = @q9mvQ_o := by
  delta q9mvQ q9mvQ_o
  simp only [q9ge9_eq, q9fi9_eq, q9an9_eq, q9al9_eq, q9flt9_eq, q9el9_eq, q9set9_eq, q9ln9_eq, q9gD9_eq, q9ap9_eq, q9eq9_N, q9eq9_I, q9eq9_A, q9eq9_E, q9eq9_OI, q9eq9_ON, q9eq9_OA, q9eq9_L, q9eq9_S, q9de9_N, q9de9_I, q9de9_A, q9le9_N, q9le9_I, q9lt9_N, q9lt9_I, q9de9_E, q9de9_OI, q9de9_ON, q9de9_OA, q9de9_L, q9nd9_eq, q9or9_eq, Bool.cond_decide]
theorem q9mvQ_ok {nL : Nat} {g : List Value} {x : q9ST} {r : Nat → Value} {G : q9GH} {ws : va_W} {ls : Array Slot} {st : List Value} (hM : q9SM O nL g x r G ws ls st) (h0 : q9zeroB x = true) {a f t v : q9AV} (h : q9mvQ x a f t v = true) {aI fI tI : Int32} (ha : q9ev r a = .int aI) (hf : q9ev r f = .int fI) (ht : q9ev r t = .int tI) : q9ev r v = .int ((aI &&& (((1 : Int32) <<< (fI &&& 31)) ^^^ (-1))) ||| ((1 : Int32) <<< (tI &&& 31))) := by
  (rewrite [q9mvQ_oq] at h; unfold q9mvQ_o at h)
  rw [Bool.and_eq_true, beq_iff_eq] at h
  obtain ⟨h1, h2⟩ := h
  obtain ⟨o, o1, o2⟩ := List.any_eq_true.mp h2
  simp only [Bool.and_eq_true, beq_iff_eq] at o2
  obtain ⟨o3, o4, o5, o6, o7, o8⟩ := o2
  obtain ⟨q, q1, q2⟩ := List.any_eq_true.mp o8
  simp only [Bool.and_eq_true, beq_iff_eq] at q2
  obtain ⟨q3, q4, q5, q6, q7⟩ := q2
  obtain ⟨p, p1, p2⟩ := List.any_eq_true.mp q7
  simp only [Bool.and_eq_true, beq_iff_eq] at p2
  obtain ⟨p3, p4, p5, p6, p7⟩ := p2
  have e1 := q9oneX_ok hM h0 p7 hf
  have e2 := q9oneX_ok hM h0 o7 ht
  have g2 := hM.2.2.2.2.2.2.2 p p1
  unfold q9EXok at g2
  rw [p3, q9isSym p4, e1, p5, p6, q9zero_ev hM.2.2.2.1 (q9zero_at h0) (-1)] at g2
  have g2 : r q.2.2.1.1 = .int ((1 <<< (fI &&& 31)) ^^^ (-1)) := (Option.some.inj g2).symm
  have g3 := hM.2.2.2.2.2.2.2 q q1
  unfold q9EXok at g3
  rw [q3, q4, ha, q5, q9isSym q6, g2] at g3
  have g3 : r o.2.1.1 = .int (aI &&& ((1 <<< (fI &&& 31)) ^^^ (-1))) := (Option.some.inj g3).symm
  have g4 := hM.2.2.2.2.2.2.2 o o1
  unfold q9EXok at g4
  rw [o3, o4, q9isSym o5, g3, q9isSym o6, e2] at g4
  have g4 : r v.1 = .int ((aI &&& (((1 : Int32) <<< (fI &&& 31)) ^^^ (-1))) ||| ((1 : Int32) <<< (tI &&& 31))) := (Option.some.inj g4).symm
  rw [q9isSym h1]
  exact g4
/-- a byte has no q9more bits -/
theorem q9sm_bit {x : Int32} (h : 0 ≤ x.toInt ∧ x.toInt ≤ 255) {i : Nat} (hi : 8 ≤ i) : x.toBitVec.toNat.testBit i = false := by
  have e : x.toInt = x.toBitVec.toInt := rfl
  have h1 := BitVec.toInt_eq_toNat_cond x.toBitVec
  have h2 := x.toBitVec.isLt
  have h3 : x.toBitVec.toNat < 2 ^ 8 := by
    rw [e, h1] at h
    split at h <;> omega
  exact Nat.testBit_lt_two_pow (Nat.lt_of_lt_of_le h3 (Nat.pow_le_pow_right (by decide) hi))
/-- a bit moved: as many -/
noncomputable def q9mvR_o (a f t v : q9AV) : q9RF := fun x => match q9btX x a f, q9btX x a t, q9pcX x a (0, 32), q9num (q9tE x) a, q9num (q9tE x) f, q9num (q9tE x) t with
  | some bf, some bt, some w, some (0, al, ah), some (0, fl, fh), some (0, tl, th) => (match (q9tE x)[bf]?, (q9tE x)[bt]? with
    | some (0, vl, _), some (0, _, vh) => if 1 ≤ vl ∧ vh ≤ 0 ∧ 0 ≤ fl ∧ fh ≤ 31 ∧ 0 ≤ tl ∧ th ≤ 7 ∧ 0 ≤ al ∧ ah ≤ 255 ∧ q9okAV (q9tE x) a = true ∧ q9okAV (q9tE x) f = true ∧ q9okAV (q9tE x) t = true ∧ q9okAV (q9tE x) v = true ∧ q9zeroB x = true ∧ q9mvQ x a f t v = true then
        some [q9addS x [] [] [] [(v.1, 0, 255), (0, v.1, 0)] [(31, v, (0, 32), w)]] else none
    | _, _ => none)
  | _, _, _, _, _, _ => none
noncomputable def q9mvR (a f t v : q9AV) : q9RF := fun x => match q9btX x a f, q9btX x a t, q9pcX x a (0, 32), q9num (q9tE x) a, q9num (q9tE x) f, q9num (q9tE x) t with
  | some bf, some bt, some w, some (0, al, ah), some (0, fl, fh), some (0, tl, th) => (match (q9ge9 (q9tE x) (bf)), (q9ge9 (q9tE x) (bt)) with
    | some (0, vl, _), some (0, _, vh) => if 1 ≤ vl ∧ vh ≤ 0 ∧ 0 ≤ fl ∧ fh ≤ 31 ∧ 0 ≤ tl ∧ th ≤ 7 ∧ 0 ≤ al ∧ ah ≤ 255 ∧ q9okAV (q9tE x) a = true ∧ q9okAV (q9tE x) f = true ∧ q9okAV (q9tE x) t = true ∧ q9okAV (q9tE x) v = true ∧ q9zeroB x = true ∧ q9mvQ x a f t v = true then
        some [q9addS x [] [] [] [(v.1, 0, 255), (0, v.1, 0)] [(31, v, (0, 32), w)]] else none
    | _, _ => none)
  | _, _, _, _, _, _ => none
theorem q9mvR_oq : @q9mvR = @q9mvR_o := by
  delta q9mvR q9mvR_o
  simp only [q9ge9_eq, q9fi9_eq, q9an9_eq, q9al9_eq, q9flt9_eq, q9el9_eq, q9set9_eq, q9ln9_eq, q9gD9_eq, q9ap9_eq, q9eq9_N, q9eq9_I, q9eq9_A, q9eq9_E, q9eq9_OI, q9eq9_ON, q9eq9_OA, q9eq9_L, q9eq9_S, q9de9_N, q9de9_I, q9de9_A, q9le9_N, q9le9_I, q9lt9_N, q9lt9_I, q9de9_E, q9de9_OI, q9de9_ON, q9de9_OA, q9de9_L, q9nd9_eq, q9or9_eq, Bool.cond_decide]
theorem q9mvR_ok (a f t v : q9AV) : q9RFok O (q9mvR a f t v) := by
  intro nL g cT A x r G ws ls st xs hw hM hT hD h
  (rewrite [q9mvR_oq] at h; unfold q9mvR_o at h)
  split at h
  · rename_i bf bt w al ah fl fh tl th hbf hbt hpc hna hnf hnt
    split at h
    · rename_i vl vh' wl vh hEf hEt
      split at h
      · rename_i hc
        obtain ⟨c1, c2, c3, c4, c5, c6, c13, c14, c7, q9c8, c9, c10, c11, c12⟩ := hc
        cases h
        obtain ⟨aI, a1, -, a2, a3⟩ := q9num_int hM.2.2.2.1 c7 hna
        obtain ⟨fI, f1, f2, f3, f4⟩ := q9num_int hM.2.2.2.1 q9c8 hnf
        obtain ⟨tI, t1, t2, t3, t4⟩ := q9num_int hM.2.2.2.1 c9 hnt
        obtain ⟨u1, -⟩ := q9btX_ok hM hw c11 hbf a1 f1
        obtain ⟨u2, -⟩ := q9btX_ok hM hw c11 hbt a1 t1
        obtain ⟨w1, w2⟩ := q9pcX_ok hM hw hpc a1 (q9ev32 hM.2.2.2.1 c11)
        have w1 : r w = .int (Int32.ofNat (q9pcN aI.toBitVec.toNat 32)) := w1
        have hb := q9bit_set (k := fI.toInt.toNat) (by omega) (by omega) u1 hM.2.2.2.1 hEf c1
        have hb2 := q9bit_clr (k := tI.toInt.toNat) (by omega) (by omega) u2 hM.2.2.2.1 hEt c2
        have hv := q9mvQ_ok hM c11 c12 a1 f1 t1
        generalize hm : aI &&& ((1 <<< (fI &&& 31)) ^^^ (-1)) = m at hv
        have hmB : ∀ i : Nat, i < 32 → m.toBitVec.toNat.testBit i = (aI.toBitVec.toNat.testBit i && decide (i ≠ fI.toInt.toNat)) := fun i hi => by
          rw [← hm]
          exact q9clrB (by omega) (by omega) hi
        have hcl := q9pcN_clr (n := aI.toBitVec.toNat) (n' := m.toBitVec.toNat) (s := fI.toInt.toNat) hmB hb 32 (Nat.le_refl 32)
        rw [if_pos (by omega)] at hcl
        have hmt : m.toBitVec.toNat.testBit tI.toInt.toNat = false := by
          rw [hmB _ (by omega), hb2]
          rfl
        have hnB : ∀ i : Nat, i < 32 → (m ||| (1 <<< (tI &&& 31))).toBitVec.toNat.testBit i = (m.toBitVec.toNat.testBit i || decide (i = tI.toInt.toNat)) := fun i hi => q9orB (by omega) (by omega) hi
        have hcn := q9pcN_clr (n := (m ||| (1 <<< (tI &&& 31))).toBitVec.toNat) (n' := m.toBitVec.toNat) (s := tI.toInt.toNat) (fun i hi => by
          rw [hnB i hi]
          by_cases hit : i = tI.toInt.toNat
          · subst hit
            rw [hmt]
            simp
          · rw [decide_eq_false hit, Bool.or_false, decide_eq_true (show i ≠ tI.toInt.toNat from hit), Bool.and_true]) (by
          rw [hnB _ (by omega)]
          simp) 32 (Nat.le_refl 32)
        rw [if_pos (by omega)] at hcn
        have hpp : q9pcN (m ||| (1 <<< (tI &&& 31))).toBitVec.toNat 32 = q9pcN aI.toBitVec.toNat 32 := by omega
        have hsm : (m ||| (1 <<< (tI &&& 31))).toBitVec.toNat < 2 ^ 8 := by
          refine Nat.lt_pow_two_of_testBit _ fun i hi => ?_
          by_cases h32 : i < 32
          · rw [hnB i h32, hmB i h32, q9sm_bit (by omega) hi, Bool.false_and, Bool.false_or]
            exact decide_eq_false (by omega)
          · exact Nat.testBit_lt_two_pow (Nat.lt_of_lt_of_le (BitVec.isLt _) (Nat.pow_le_pow_right (by decide) (by omega)))
        have hrg : 0 ≤ (m ||| (1 <<< (tI &&& 31))).toInt ∧ (m ||| (1 <<< (tI &&& 31))).toInt ≤ 255 := by
          have e : (m ||| (1 <<< (tI &&& 31))).toInt = (m ||| (1 <<< (tI &&& 31))).toBitVec.toInt := rfl
          rw [e, BitVec.toInt_eq_toNat_cond]
          split <;> omega
        have hv2 : v.2 = 0 := by
          (rewrite [q9mvQ_oq] at c12; unfold q9mvQ_o at c12)
          rw [Bool.and_eq_true, beq_iff_eq] at c12
          exact c12.1
        have hv1 : r v.1 = .int (m ||| (1 <<< (tI &&& 31))) := by
          rw [q9isSym (r := r) hv2] at hv
          exact hv
        have hi0 : q9iv (q9upL r (q9tE x).length []) 0 = 0 := by
          rw [q9upL_agr.iv (q9lt_of_E (q9zero_at c11))]
          have hz := q9zero_ev0 hM.2.2.2.1 (q9zero_at c11)
          rw [q9ev_zero] at hz
          rw [q9iv_of hz]
          rfl
        have hiv : q9iv (q9upL r (q9tE x).length []) v.1 = (m ||| (1 <<< (tI &&& 31))).toInt := by
          rw [q9upL_agr.iv (q9okAV_lt c10), q9iv_of hv1]
        refine q9rf_add hM hw [] List.mem_cons_self q9ty_nil q9no_mem q9no_mem (q9cons_mem ?_ (q9one_mem ?_)) (q9one_mem ?_)
        · unfold q9FCok
          show q9iv _ v.1 ≤ q9iv _ 0 + 255
          rw [hiv, hi0]
          omega
        · unfold q9FCok
          show q9iv _ 0 ≤ q9iv _ v.1 + 0
          rw [hiv, hi0]
          omega
        unfold q9EXok
        show q9exop O 31 (q9ev _ v) (q9ev _ (0, 32)) = some (q9upL r (q9tE x).length _ w)
        rw [q9upL_agr.ev c10, q9ev_agree (a := (0, 32)) (q9upL_lt (q9lt_of_E (q9zero_at c11))), hv, q9ev32 hM.2.2.2.1 c11, q9upL_lt w2, w1, ← hpp]
        rfl
      · cases h
    · cases h
  · cases h
/-- Integer.bitCount's sums over a byte -/
noncomputable def q9hdN (a : Int32) : Int32 :=
  let q9sh := fun (x k : Int32) => (x.toUInt32 >>> (k.toUInt32 &&& Int32.toUInt32 31)).toInt32
  let d1 := a - (q9sh a 1 &&& 1431655765)
  let d2 := (d1 &&& 858993459) + (q9sh d1 2 &&& 858993459)
  let d3 := (d2 + q9sh d2 4) &&& 252645135
  let d4 := d3 + q9sh d3 8
  let d5 := d4 + q9sh d4 16
  d5 &&& 63
theorem q9hdN_byte : ∀ n : Nat, n < 256 → q9hdN (Int32.ofNat n) = Int32.ofNat (q9pcN (Int32.ofNat n).toBitVec.toNat 32) := by decide +kernel
theorem q9hdN_pc {a : Int32} (h : 0 ≤ a.toInt ∧ a.toInt ≤ 255) : q9hdN a = Int32.ofNat (q9pcN a.toBitVec.toNat 32) := by
  have e : a = Int32.ofNat a.toInt.toNat := Int32.toInt_inj.mp (by rw [Int32.toInt_ofNat_of_lt (by omega)]; omega)
  have h2 := q9hdN_byte a.toInt.toNat (by omega)
  rw [← e] at h2
  exact h2
noncomputable def q9bcN (x : q9ST) (a : q9AV) : Option Nat :=
  (q9rX9 x 14 a (0, 1)).bind fun s1 => (q9rX9 x 5 (s1, 0) (0, 1431655765)).bind fun m1 => (q9rX9 x 1 a (m1, 0)).bind fun d1 =>
  (q9rX9 x 5 (d1, 0) (0, 858993459)).bind fun m2 => (q9rX9 x 14 (d1, 0) (0, 2)).bind fun s2 => (q9rX9 x 5 (s2, 0) (0, 858993459)).bind fun m3 => (q9rX9 x 0 (m2, 0) (m3, 0)).bind fun d2 =>
  (q9rX9 x 14 (d2, 0) (0, 4)).bind fun s3 => (q9rX9 x 0 (d2, 0) (s3, 0)).bind fun t3 => (q9rX9 x 5 (t3, 0) (0, 252645135)).bind fun d3 =>
  (q9rX9 x 14 (d3, 0) (0, 8)).bind fun s4 => (q9rX9 x 0 (d3, 0) (s4, 0)).bind fun d4 =>
  (q9rX9 x 14 (d4, 0) (0, 16)).bind fun s5 => (q9rX9 x 0 (d4, 0) (s5, 0)).bind fun d5 => q9rX9 x 5 (d5, 0) (0, 63)
theorem q9bcN_ok {nL : Nat} {g : List Value} {x : q9ST} {r : Nat → Value} {G : q9GH} {ws : va_W} {ls : Array Slot} {st : List Value} (hM : q9SM O nL g x r G ws ls st) (h0 : q9zeroB x = true) {a : q9AV} {v : Nat} (h : q9bcN x a = some v) {aI : Int32} (ha : q9ev r a = .int aI) : r v = .int (q9hdN aI) := by
  unfold q9bcN at h
  have zc : ∀ c : Int, q9ev r (0, c) = .int (Int32.ofInt c) := fun c => q9zero_ev hM.2.2.2.1 (q9zero_at h0) c
  obtain ⟨s1, h1, h⟩ := Option.bind_eq_some_iff.mp h
  obtain ⟨m1, h2, h⟩ := Option.bind_eq_some_iff.mp h
  obtain ⟨d1, h3, h⟩ := Option.bind_eq_some_iff.mp h
  obtain ⟨m2, h4, h⟩ := Option.bind_eq_some_iff.mp h
  obtain ⟨s2, h5, h⟩ := Option.bind_eq_some_iff.mp h
  obtain ⟨m3, h6, h⟩ := Option.bind_eq_some_iff.mp h
  obtain ⟨d2, h7, h⟩ := Option.bind_eq_some_iff.mp h
  obtain ⟨s3, h8, h⟩ := Option.bind_eq_some_iff.mp h
  obtain ⟨t3, h9, h⟩ := Option.bind_eq_some_iff.mp h
  obtain ⟨d3, h10, h⟩ := Option.bind_eq_some_iff.mp h
  obtain ⟨s4, h11, h⟩ := Option.bind_eq_some_iff.mp h
  obtain ⟨d4, h12, h⟩ := Option.bind_eq_some_iff.mp h
  obtain ⟨s5, h13, h⟩ := Option.bind_eq_some_iff.mp h
  obtain ⟨d5, h14, h⟩ := Option.bind_eq_some_iff.mp h
  have e1 := q9rX9_ok hM h1
  rw [ha, zc] at e1
  have e1 := (Option.some.inj e1).symm
  have e2 := q9rX9_ok hM h2
  rw [q9ev_zero, e1, zc] at e2
  have e2 := (Option.some.inj e2).symm
  have e3 := q9rX9_ok hM h3
  rw [ha, q9ev_zero, e2] at e3
  have e3 := (Option.some.inj e3).symm
  have e4 := q9rX9_ok hM h4
  rw [q9ev_zero, e3, zc] at e4
  have e4 := (Option.some.inj e4).symm
  have e5 := q9rX9_ok hM h5
  rw [q9ev_zero, e3, zc] at e5
  have e5 := (Option.some.inj e5).symm
  have e6 := q9rX9_ok hM h6
  rw [q9ev_zero, e5, zc] at e6
  have e6 := (Option.some.inj e6).symm
  have e7 := q9rX9_ok hM h7
  rw [q9ev_zero, q9ev_zero, e4, e6] at e7
  have e7 := (Option.some.inj e7).symm
  have e8 := q9rX9_ok hM h8
  rw [q9ev_zero, e7, zc] at e8
  have e8 := (Option.some.inj e8).symm
  have e9 := q9rX9_ok hM h9
  rw [q9ev_zero, q9ev_zero, e7, e8] at e9
  have e9 := (Option.some.inj e9).symm
  have e10 := q9rX9_ok hM h10
  rw [q9ev_zero, e9, zc] at e10
  have e10 := (Option.some.inj e10).symm
  have e11 := q9rX9_ok hM h11
  rw [q9ev_zero, e10, zc] at e11
  have e11 := (Option.some.inj e11).symm
  have e12 := q9rX9_ok hM h12
  rw [q9ev_zero, q9ev_zero, e10, e11] at e12
  have e12 := (Option.some.inj e12).symm
  have e13 := q9rX9_ok hM h13
  rw [q9ev_zero, e12, zc] at e13
  have e13 := (Option.some.inj e13).symm
  have e14 := q9rX9_ok hM h14
  rw [q9ev_zero, q9ev_zero, e12, e13] at e14
  have e14 := (Option.some.inj e14).symm
  have e15 := q9rX9_ok hM h
  rw [q9ev_zero, e14, zc] at e15
  have e15 := (Option.some.inj e15).symm
  exact e15
noncomputable def q9bcW (a v : q9AV) : q9RF := fun x => match q9bcN x a, q9num (q9tE x) a with
  | some w, some (0, l, h) => if 0 ≤ l ∧ h ≤ 255 ∧ q9okAV (q9tE x) a = true ∧ q9zeroB x = true ∧ q9okAV (q9tE x) (w, 0) = true ∧ v = (w, 0) then some [q9addS x [] [] [] [] [(31, a, (0, 32), w)]] else none
  | _, _ => none
theorem q9bcW_ok (a v : q9AV) : q9RFok O (q9bcW a v) := by
  intro nL g cT A x r G ws ls st xs hw hM hT hD h
  unfold q9bcW at h
  split at h
  · rename_i w l hh hb hn
    split at h
    · rename_i hc
      obtain ⟨c1, c2, c3, c4, c5, c6⟩ := hc
      cases h
      obtain ⟨aI, a1, -, a2, a3⟩ := q9num_int hM.2.2.2.1 c3 hn
      have hv := q9bcN_ok hM c4 hb a1
      rw [q9hdN_pc (by omega)] at hv
      refine q9rf_add hM hw [] List.mem_cons_self q9ty_nil q9no_mem q9no_mem q9no_mem (q9one_mem ?_)
      unfold q9EXok
      show q9exop O 31 (q9ev _ a) (q9ev _ (0, 32)) = some (q9upL r (q9tE x).length _ w)
      rw [q9upL_agr.ev c3, q9ev_agree (a := (0, 32)) (q9upL_lt (q9lt_of_E (q9zero_at c4))), a1, q9ev32 hM.2.2.2.1 c4, q9upL_lt (q9okAV_lt c5), hv]
      rfl
    · cases h
  · cases h
noncomputable def q9totW (a s : q9AV) : q9RF := fun x => match q9pcX x a s, q9num (q9tE x) a, q9num (q9tE x) s with
  | some w, some (0, l, h), some (0, sl, q9sh) => if 0 ≤ l ∧ h ≤ 255 ∧ 8 ≤ sl ∧ q9sh ≤ 31 ∧ q9okAV (q9tE x) a = true ∧ q9okAV (q9tE x) s = true ∧ q9zeroB x = true then some [q9addS x [] [] [] [] [(31, a, (0, 32), w)]] else none
  | _, _, _ => none
theorem q9totW_ok (a s : q9AV) : q9RFok O (q9totW a s) := by
  intro nL g cT A x r G ws ls st xs hw hM hT hD h
  unfold q9totW at h
  split at h
  · rename_i w l hh sl q9sh hpc hn hs
    split at h
    · rename_i hc
      obtain ⟨c1, c2, c3, c4, c5, c6, c7⟩ := hc
      cases h
      obtain ⟨aI, a1, -, a2, a3⟩ := q9num_int hM.2.2.2.1 c5 hn
      obtain ⟨sI, s1, -, s2, s3⟩ := q9num_int hM.2.2.2.1 c6 hs
      obtain ⟨w1, w2⟩ := q9pcX_ok hM hw hpc a1 s1
      have w1 : r w = .int (Int32.ofNat (q9pcN aI.toBitVec.toNat sI.toInt.toNat)) := w1
      have ht := q9pcN_tot (n := aI.toBitVec.toNat) (k := sI.toInt.toNat) 32 (by omega) (fun i h1 h2 => q9sm_bit (by omega) (by omega))
      refine q9rf_add hM hw [] List.mem_cons_self q9ty_nil q9no_mem q9no_mem q9no_mem (q9one_mem ?_)
      unfold q9EXok
      show q9exop O 31 (q9ev _ a) (q9ev _ (0, 32)) = some (q9upL r (q9tE x).length _ w)
      rw [q9upL_agr.ev c5, q9ev_agree (a := (0, 32)) (q9upL_lt (q9lt_of_E (q9zero_at c7))), a1, q9ev32 hM.2.2.2.1 c7, q9upL_lt w2, w1, ← ht]
      rfl
    · cases h
  · cases h
/-- a quotient of q9one less: the q9one less a symbol of its own -/
noncomputable def q9dvM_o (s d : q9AV) : q9RF := fun x => match q9rX9 x 3 (s.1, s.2 - 1) d, q9num (q9tE x) s with
  | some q, some (0, l, h) => if s.2 = 0 ∧ q9okAV (q9tE x) s = true ∧ q9okAV (q9tE x) (s.1, s.2 - 1) = true ∧ q9okAV (q9tE x) d = true ∧ q9zeroB x = true ∧ q9okAV (q9tE x) (q, 0) = true then some [q9addS x [(0, l - 1, h - 1)] [] [] [((q9tE x).length, s.1, -1), (s.1, (q9tE x).length, 1)] [(1, s, (0, 1), (q9tE x).length), (3, ((q9tE x).length, 0), d, q)]] else none
  | _, _ => none
noncomputable def q9dvM (s d : q9AV) : q9RF := fun x => match q9rX9 x 3 (s.1, s.2 - 1) d, q9num (q9tE x) s with
  | some q, some (0, l, h) => if s.2 = 0 ∧ q9okAV (q9tE x) s = true ∧ q9okAV (q9tE x) (s.1, s.2 - 1) = true ∧ q9okAV (q9tE x) d = true ∧ q9zeroB x = true ∧ q9okAV (q9tE x) (q, 0) = true then some [q9addS x [(0, l - 1, h - 1)] [] [] [((q9ln9 (q9tE x)), s.1, -1), (s.1, (q9ln9 (q9tE x)), 1)] [(1, s, (0, 1), (q9ln9 (q9tE x))), (3, ((q9ln9 (q9tE x)), 0), d, q)]] else none
  | _, _ => none
theorem q9dvM_oq : @q9dvM = @q9dvM_o := by
  delta q9dvM q9dvM_o
  simp only [q9ge9_eq, q9fi9_eq, q9an9_eq, q9al9_eq, q9flt9_eq, q9el9_eq, q9set9_eq, q9ln9_eq, q9gD9_eq, q9ap9_eq, q9eq9_N, q9eq9_I, q9eq9_A, q9eq9_E, q9eq9_OI, q9eq9_ON, q9eq9_OA, q9eq9_L, q9eq9_S, q9de9_N, q9de9_I, q9de9_A, q9le9_N, q9le9_I, q9lt9_N, q9lt9_I, q9de9_E, q9de9_OI, q9de9_ON, q9de9_OA, q9de9_L, q9nd9_eq, q9or9_eq, Bool.cond_decide]
theorem q9dvM_ok (s d : q9AV) : q9RFok O (q9dvM s d) := by
  intro nL g cT A x r G ws ls st xs hw hM hT hD h
  (rewrite [q9dvM_oq] at h; unfold q9dvM_o at h)
  split at h
  · rename_i q l hh hq hn
    split at h
    · rename_i hc
      obtain ⟨c1, c2, c3, c4, c5, c6⟩ := hc
      cases h
      obtain ⟨sI, s1, -, s2, s3⟩ := q9num_int hM.2.2.2.1 c2 hn
      obtain ⟨u, u1, u2⟩ := q9ev_off5 (d := -1) hM.2.2.2.1 hn c2 c3 s1
      have hX := q9rX9_ok hM hq
      have u1 : q9ev r (s.1, s.2 - 1) = .int u := u1
      rw [u1] at hX
      have hrs : r s.1 = .int sI := by
        rw [q9isSym (r := r) c1] at s1
        exact s1
      refine q9rf_add hM hw [.int u] List.mem_cons_self (q9ty_cons ⟨u, rfl, by show l - 1 ≤ _; omega, by show _ ≤ hh - 1; omega⟩ q9ty_nil) q9no_mem q9no_mem (q9cons_mem ?_ (q9one_mem ?_)) (q9cons_mem ?_ (q9one_mem ?_))
      · unfold q9FCok
        rw [q9iv_of (k := (q9tE x).length) q9rU0, q9upL_agr.iv (q9okAV_lt c2), q9iv_of hrs]
        show u.toInt ≤ sI.toInt + -1
        omega
      · unfold q9FCok
        rw [q9iv_of (k := (q9tE x).length) q9rU0, q9upL_agr.iv (q9okAV_lt c2), q9iv_of hrs]
        show sI.toInt ≤ u.toInt + 1
        omega
      · unfold q9EXok
        show q9exop O 1 (q9ev _ s) (q9ev _ (0, 1)) = some (q9upL r (q9tE x).length _ (q9tE x).length)
        rw [q9upL_agr.ev c2, q9ev_agree (a := (0, 1)) (q9upL_lt (q9lt_of_E (q9zero_at c5))), s1, q9zero_ev hM.2.2.2.1 (q9zero_at c5) 1, q9rU0]
        show some (Value.int (sI - Int32.ofInt 1)) = some (.int u)
        have h1 := Int32.le_toInt u
        have h2 := Int32.toInt_lt u
        rw [show sI - Int32.ofInt 1 = u from Int32.toInt_inj.mp (by rw [q9n_sub (by rw [show (Int32.ofInt 1).toInt = 1 from rfl]; omega) (by rw [show (Int32.ofInt 1).toInt = 1 from rfl]; omega), show (Int32.ofInt 1).toInt = 1 from rfl]; omega)]
      · unfold q9EXok
        show q9exop O 3 (q9ev _ ((q9tE x).length, 0)) (q9ev _ d) = some (q9upL r (q9tE x).length _ q)
        rw [q9evU0, q9upL_agr.ev c4, q9upL_lt (q9okAV_lt c6)]
        exact hX
    · cases h
  · cases h
/-- how many are cast by a shot, on both sides -/
noncomputable def q9c155_o (x : q9ST) (a : Nat) (v : q9AV → Bool) : Option (Nat × q9AV × q9AV) := (q9tA x).find? (fun z => q9famE (q9tE x) z.1 == some (-155) && (z.2.1 == ((a, 0) : q9AV) && v z.2.2))
noncomputable def q9c155 (x : q9ST) (a : Nat) (v : q9AV → Bool) : Option (Nat × q9AV × q9AV) := q9fi9 (q9tA x) (fun z => q9nd9 (q9eq9 (q9famE (q9tE x) z.1) (some (-155))) ((q9nd9 (q9eq9 (z.2.1) (((a, 0) : q9AV))) (v z.2.2))))
theorem q9c155_oq : @q9c155 = @q9c155_o := by
  delta q9c155 q9c155_o
  simp only [q9ge9_eq, q9fi9_eq, q9an9_eq, q9al9_eq, q9flt9_eq, q9el9_eq, q9set9_eq, q9ln9_eq, q9gD9_eq, q9ap9_eq, q9eq9_N, q9eq9_I, q9eq9_A, q9eq9_E, q9eq9_OI, q9eq9_ON, q9eq9_OA, q9eq9_L, q9eq9_S, q9de9_N, q9de9_I, q9de9_A, q9le9_N, q9le9_I, q9lt9_N, q9lt9_I, q9de9_E, q9de9_OI, q9de9_ON, q9de9_OA, q9de9_L, q9nd9_eq, q9or9_eq, Bool.cond_decide]
noncomputable def q9refC (x : q9ST) (o : Nat) : Option q9AV := match q9fF x o 45 with
  | some P => if P.2 = 0 ∧ q9codeOf x P.1 = some 196 ∧ q9codeOf x o = some 12 then some P else none
  | none => none
theorem q9refC_ok {nL : Nat} {g : List Value} {x : q9ST} {r : Nat → Value} {G : q9GH} {ws : va_W} {ls : Array Slot} {st : List Value} (hM : q9SM O nL g x r G ws ls st) {cT : Nat → ClassId} (hT : q9tyW cT q9TBL G ws) {A : Nat → Prop} (hD : va_D A ws) {o : Nat} {P : q9AV} (h : q9refC x o = some P) : P.2 = 0 ∧ P.1 < (q9tE x).length ∧ ∃ (m b : Nat) (fs : List Value) (M : Nat → Int32) (qb nb : Nat) (cA : ClassId), r P.1 = .ref b ∧ q9obA G ws m 12 12 fs ∧ fs[45]? = some (.ref b) ∧ q9inA G ws b 196 M ∧ ws[qb]? = some (b, .inl (cA, nb, .inl M)) := by
  unfold q9refC at h
  split at h
  · rename_i P' hP
    split at h
    · rename_i hc
      obtain ⟨c1, c2, c3⟩ := hc
      cases h
      obtain ⟨m, fs, m1, m2⟩ := q9ob_of hM hT c3 (by decide)
      obtain ⟨b, qb, nb, cA, M, b1, b2, b3, b4⟩ := q9is_of hM hT c2 (.inr (.inr rfl))
      have h1 := q9fl_at hM hD (q9fF_ok hP) (by decide) m1 m2
      rw [q9isSym (r := r) c1, b1] at h1
      exact ⟨c1, q9codeOf_lt c2, m, b, fs, M, qb, nb, cA, b1, m2, h1, b4, b3⟩
    · cases h
  · cases h
theorem q9FMP_cs {G : q9GH} {ws : va_W} {v1 v2 : Value} : q9FMP O (-155) G ws v1 v2 = q9SEQ 7000 3 45 196 G ws v1 v2 := by rw [q9FMP_5 (by decide)]; rfl
noncomputable def q9pcL_o (a o : Nat) (k : q9AV) : q9RF := fun x => match q9c155 x a (fun v => q9rgB x v 6999 6999), q9fA x a k, q9refC x o with
  | some _, some bd, some P => if q9rgB x k 0 11 = true ∧ q9zeroB x = true ∧ bd.2 = 0 ∧ q9codeOf x bd.1 = some 7 then some [q9addS x [(0, 0, 255), (0, 0, 255), (0, 0, 32)] [(bd.1, 3, ((q9tE x).length, 0))] [(P.1, k, ((q9tE x).length + 1, 0))] [] [(31, ((q9tE x).length, 0), (0, 32), (q9tE x).length + 2), (31, ((q9tE x).length + 1, 0), (0, 32), (q9tE x).length + 2)]] else none
  | _, _, _ => none
noncomputable def q9pcL (a o : Nat) (k : q9AV) : q9RF := fun x => match q9c155 x a (fun v => q9rgB x v 6999 6999), q9fA x a k, q9refC x o with
  | some _, some bd, some P => if q9rgB x k 0 11 = true ∧ q9zeroB x = true ∧ bd.2 = 0 ∧ q9codeOf x bd.1 = some 7 then some [q9addS x [(0, 0, 255), (0, 0, 255), (0, 0, 32)] [(bd.1, 3, ((q9ln9 (q9tE x)), 0))] [(P.1, k, ((q9ln9 (q9tE x)) + 1, 0))] [] [(31, ((q9ln9 (q9tE x)), 0), (0, 32), (q9ln9 (q9tE x)) + 2), (31, ((q9ln9 (q9tE x)) + 1, 0), (0, 32), (q9ln9 (q9tE x)) + 2)]] else none
  | _, _, _ => none
theorem q9pcL_oq : @q9pcL = @q9pcL_o := by
  delta q9pcL q9pcL_o
  simp only [q9ge9_eq, q9fi9_eq, q9an9_eq, q9al9_eq, q9flt9_eq, q9el9_eq, q9set9_eq, q9ln9_eq, q9gD9_eq, q9ap9_eq, q9eq9_N, q9eq9_I, q9eq9_A, q9eq9_E, q9eq9_OI, q9eq9_ON, q9eq9_OA, q9eq9_L, q9eq9_S, q9de9_N, q9de9_I, q9de9_A, q9le9_N, q9le9_I, q9lt9_N, q9lt9_I, q9de9_E, q9de9_OI, q9de9_ON, q9de9_OA, q9de9_L, q9nd9_eq, q9or9_eq, Bool.cond_decide]
theorem q9pcL_ok (a o : Nat) (k : q9AV) : q9RFok O (q9pcL a o k) := by
  intro nL g cT A x r G ws ls st xs hw hM hT hD h
  (rewrite [q9pcL_oq] at h; unfold q9pcL_o at h)
  split at h
  · rename_i z bd P hz hbd hP
    split at h
    · rename_i hc
      obtain ⟨c1, c2, c3, c4⟩ := hc
      cases h
      (rewrite [q9c155_oq] at hz; unfold q9c155_o at hz)
      have z1 := List.find?_some hz
      have z2 := List.mem_of_find?_eq_some hz
      simp only [Bool.and_eq_true, beq_iff_eq] at z1
      obtain ⟨z3, z4, z5⟩ := z1
      obtain ⟨-, p9, p1, p2, p3⟩ := q9rgB_ok hM z5
      have hF := q9fm_of hM z2 z3 (by decide)
      rw [q9FMP_cs, z4, q9ev_zero, p1] at hF
      obtain ⟨a0, p, f, m, fs, b, M, e1, e2, e3, e4, e5, e6, e7⟩ := hF
      cases e2
      obtain ⟨d1, y, d2, d3, d4⟩ := q9rgB_ok hM c1
      have ey : y.toNatClampNeg = y.toInt.toNat := rfl
      obtain ⟨r1, r2, m', b', fs', M2, qb, nb, cA, r3, r4, r5, r6, r7⟩ := q9refC_ok hM hT hD hP
      have := q9ref_one hT hD r4 e4
      subst this
      rw [r5] at e5
      cases e5
      have := q9inA.one hD r6 e6
      subst this
      obtain ⟨o9, o1, o2⟩ := q9shot_at hM hw hD hbd c3 c4 d1 d2 e1 e3
      obtain ⟨gs, u, g1, g2, g3⟩ := (e7 y.toNatClampNeg (by omega) (by omega)).2 o9 o2
      obtain ⟨h1, h2, h3⟩ := q9eqC9_pc g3
      obtain ⟨qo, no, x1, x2⟩ := g1
      have hI := q9pcI (n := u.toBitVec.toNat) (Nat.le_refl 32)
      have hle := q9pcN_le u.toBitVec.toNat 32
      have hz0 := q9zero_at c2
      refine q9rf_add hM hw [.int u, .int (M2 y.toNatClampNeg), .int (Int32.ofNat (q9pcN u.toBitVec.toNat 32))] List.mem_cons_self (q9ty_cons ⟨_, rfl, h2.1, h2.2⟩ (q9ty_cons ⟨_, rfl, h3.1, h3.2⟩ (q9ty_cons ⟨_, rfl, by show (0 : Int) ≤ _; omega, by show _ ≤ (32 : Int); omega⟩ q9ty_nil))) (q9one_mem ?_) (q9one_mem (.inl ⟨b, qb, cA, nb, .inl M2, y, ?_, r7, ?_, ?_⟩)) q9no_mem (q9cons_mem ?_ (q9one_mem ?_))
      · unfold q9FMok
        rw [if_neg (show ¬ ((3 : Nat) = 1000) by decide)]
        refine ⟨o9, qo, 7, gs, ?_, x2, ?_⟩
        · show q9upL _ _ _ bd.1 = _
          rw [q9upL_lt (q9codeOf_lt c4)]
          exact o1
        · show gs[3]? = some (q9ev _ ((q9tE x).length, 0))
          rw [q9evU0]
          exact g2
      · show q9upL _ _ _ P.1 = _
        rw [q9upL_lt r2]
        exact r3
      · show q9ev _ k = _
        rw [q9upL_agr.ev d1]
        exact d2
      · show q9ev _ ((q9tE x).length + 1, 0) = _
        rw [q9ev_zero]
        exact q9upL_at 1
      · unfold q9EXok
        show q9exop O 31 (q9ev _ ((q9tE x).length, 0)) (q9ev _ (0, 32)) = some (q9upL _ _ _ ((q9tE x).length + 2))
        rw [q9evU0, q9ev_agree (a := (0, 32)) (q9upL_lt (q9lt_of_E hz0)), q9ev32 hM.2.2.2.1 c2, show q9upL r (q9tE x).length [Value.int u, .int (M2 y.toNatClampNeg), .int (Int32.ofNat (q9pcN u.toBitVec.toNat 32))] ((q9tE x).length + 2) = .int (Int32.ofNat (q9pcN u.toBitVec.toNat 32)) from q9upL_at 2]
        rfl
      · unfold q9EXok
        show q9exop O 31 (q9ev _ ((q9tE x).length + 1, 0)) (q9ev _ (0, 32)) = some (q9upL _ _ _ ((q9tE x).length + 2))
        rw [q9ev_zero, show q9upL r (q9tE x).length [Value.int u, .int (M2 y.toNatClampNeg), .int (Int32.ofNat (q9pcN u.toBitVec.toNat 32))] ((q9tE x).length + 1) = .int (M2 y.toNatClampNeg) from q9upL_at 1, q9ev_agree (a := (0, 32)) (q9upL_lt (q9lt_of_E hz0)), q9ev32 hM.2.2.2.1 c2, show q9upL r (q9tE x).length [Value.int u, .int (M2 y.toNatClampNeg), .int (Int32.ofNat (q9pcN u.toBitVec.toNat 32))] ((q9tE x).length + 2) = .int (Int32.ofNat (q9pcN u.toBitVec.toNat 32)) from q9upL_at 2, h1]
        rfl
    · cases h
  · cases h
/-- both have as many: all -/
noncomputable def q9pcJ_o (a o : Nat) (k : q9AV) : q9RF := fun x => match q9c155 x a (fun v => q9leB x k v (-7000) && q9leB x v k 7000), q9fA x a k, q9refC x o with
  | some z, some bd, some P => (match q9fF x bd.1 3, q9fA x P.1 k with
    | some u, some w => (match q9pcX x u (0, 32), q9pcX x w (0, 32) with
      | some p, some q => if q9rgB x k 0 11 = true ∧ q9zeroB x = true ∧ bd.2 = 0 ∧ q9codeOf x bd.1 = some 7 ∧ q9rgB x u 0 255 = true ∧ q9rgB x w 0 255 = true ∧ q9eqV x (p, 0) (q, 0) = true ∧ q9codeOf x a = some 153 then some [q9addS x [] [] [(z.1, (a, 0), (0, 6999))] [] []] else none
      | _, _ => none)
    | _, _ => none)
  | _, _, _ => none
noncomputable def q9pcJ (a o : Nat) (k : q9AV) : q9RF := fun x => match q9c155 x a (fun v => q9nd9 (q9leB x k v (-7000)) (q9leB x v k 7000)), q9fA x a k, q9refC x o with
  | some z, some bd, some P => (match q9fF x bd.1 3, q9fA x P.1 k with
    | some u, some w => (match q9pcX x u (0, 32), q9pcX x w (0, 32) with
      | some p, some q => if q9rgB x k 0 11 = true ∧ q9zeroB x = true ∧ bd.2 = 0 ∧ q9codeOf x bd.1 = some 7 ∧ q9rgB x u 0 255 = true ∧ q9rgB x w 0 255 = true ∧ q9eqV x (p, 0) (q, 0) = true ∧ q9codeOf x a = some 153 then some [q9addS x [] [] [(z.1, (a, 0), (0, 6999))] [] []] else none
      | _, _ => none)
    | _, _ => none)
  | _, _, _ => none
theorem q9pcJ_oq : @q9pcJ = @q9pcJ_o := by
  delta q9pcJ q9pcJ_o
  simp only [q9ge9_eq, q9fi9_eq, q9an9_eq, q9al9_eq, q9flt9_eq, q9el9_eq, q9set9_eq, q9ln9_eq, q9gD9_eq, q9ap9_eq, q9eq9_N, q9eq9_I, q9eq9_A, q9eq9_E, q9eq9_OI, q9eq9_ON, q9eq9_OA, q9eq9_L, q9eq9_S, q9de9_N, q9de9_I, q9de9_A, q9le9_N, q9le9_I, q9lt9_N, q9lt9_I, q9de9_E, q9de9_OI, q9de9_ON, q9de9_OA, q9de9_L, q9nd9_eq, q9or9_eq, Bool.cond_decide]
theorem q9pcJ_ok (a o : Nat) (k : q9AV) : q9RFok O (q9pcJ a o k) := by
  intro nL g cT A x r G ws ls st xs hw hM hT hD h
  (rewrite [q9pcJ_oq] at h; unfold q9pcJ_o at h)
  split at h
  · rename_i z bd P hz hbd hP
    split at h
    · rename_i u w hu hw2
      split at h
      · rename_i p q hp hq
        split at h
        · rename_i hc
          obtain ⟨c1, c2, c3, c4, c5, c6, c7, q9c8⟩ := hc
          cases h
          (rewrite [q9c155_oq] at hz; unfold q9c155_o at hz)
          have z1 := List.find?_some hz
          have z2 := List.mem_of_find?_eq_some hz
          simp only [Bool.and_eq_true, beq_iff_eq] at z1
          obtain ⟨z3, z4, z5, z6⟩ := z1
          have wz := q9wf_A hw z z2
          have hF := q9fm_of hM z2 z3 (by decide)
          rw [q9FMP_cs] at hF
          obtain ⟨a0, p9, f, m, fs, b, M, e1, e2, e3, e4, e5, e6, e7⟩ := hF
          have hra : r a = .ref a0 := by
            rw [z4, q9ev_zero] at e1
            exact e1
          obtain ⟨d1, y, d2, d3, d4⟩ := q9rgB_ok hM c1
          have ey : y.toNatClampNeg = y.toInt.toNat := rfl
          have l1 := q9leB_ok hM d1 wz.2.2 z5
          have l2 := q9leB_ok hM wz.2.2 d1 z6
          rw [d2, e2] at l1
          rw [d2, e2] at l2
          have l1 : y.toInt ≤ p9.toInt + -7000 := l1
          have l2 : p9.toInt ≤ y.toInt + 7000 := l2
          obtain ⟨r1, r2, m', b', fs', M2, qb, nb, cA, r3, r4, r5, r6, r7⟩ := q9refC_ok hM hT hD hP
          have := q9ref_one hT hD r4 e4
          subst this
          rw [r5] at e5
          cases e5
          have := q9inA.one hD r6 e6
          subst this
          obtain ⟨o9, o1, o2⟩ := q9shot_at hM hw hD hbd c3 c4 d1 d2 hra e3
          obtain ⟨ob, gs, g1, g2⟩ := q9ob_of hM hT c4 (by decide)
          rw [o1] at g1
          cases g1
          have hg3 := q9fl_at hM hD (q9fF_ok hu) (by decide) o1 g2
          obtain ⟨-, uI, u1, u2, u3⟩ := q9rgB_ok hM c5
          obtain ⟨-, wI, w1, w2, w3⟩ := q9rgB_ok hM c6
          rw [u1] at hg3
          obtain ⟨-, w9⟩ := q9fA_ok hM hw hD hw2 d1 d2 r3 r7
          have w9 : q9ev r w = .int (M2 y.toNatClampNeg) := w9
          rw [w1] at w9
          cases w9
          obtain ⟨k1, k2⟩ := q9pcX_ok hM hw hp u1 (q9ev32 hM.2.2.2.1 c2)
          obtain ⟨k3, k4⟩ := q9pcX_ok hM hw hq w1 (q9ev32 hM.2.2.2.1 c2)
          have k1 : r p = .int (Int32.ofNat (q9pcN uI.toBitVec.toNat 32)) := k1
          have k3 : r q = .int (Int32.ofNat (q9pcN (M2 y.toNatClampNeg).toBitVec.toNat 32)) := k3
          have hpq := q9eqV_ok hM c7
          rw [q9ev_zero, q9ev_zero, k1, k3] at hpq
          have hpq := congrArg Int32.toInt (Value.int.inj hpq)
          rw [q9pcI (Nat.le_refl 32), q9pcI (Nat.le_refl 32)] at hpq
          have hpc : q9pcN uI.toBitVec.toNat 32 = q9pcN (M2 y.toNatClampNeg).toBitVec.toNat 32 := by omega
          refine q9rf_add hM hw [] List.mem_cons_self q9ty_nil q9no_mem (q9one_mem (q9fm_mk (c := -155) ?_ (by decide) ?_)) q9no_mem q9no_mem
          · show q9nV (q9upL _ _ _ z.1) = _
            rw [q9upL_lt wz.1]
            exact q9famE_ok hM.2.2.2.1 z3 (by decide)
          · show q9FMP O (-155) G ws (q9ev _ (a, 0)) (q9ev _ (0, 6999))
            rw [q9FMP_cs, q9ev_zero, q9upL_lt (q9codeOf_lt q9c8), q9upL_agr.ev (q9okZ c2 (by decide) (by decide)), q9zero_ev hM.2.2.2.1 (q9zero_at c2), hra]
            refine ⟨a0, _, f, m, _, b, M2, rfl, rfl, e3, e4, r5, e6, fun i hi _ => ?_⟩
            by_cases hip : (i : Int) = p9.toInt - 7000
            rotate_left
            · exact e7 i hi hip
            · have hiy : i = y.toNatClampNeg := by omega
              subst hiy
              refine ⟨fun hf => ?_, fun o8 ho => ?_⟩
              · rw [o2] at hf
                cases hf
              · rw [o2] at ho
                cases ho
                exact ⟨gs, uI, g2, hg3, q9eqC9_mk hpc ⟨u2, u3⟩ ⟨w2, w3⟩⟩
        · cases h
      · cases h
    · cases h
  · cases h
