variable {O : ORC}
/-! the frames of a stretch of lines, as they are made -/
theorem q9nV_int {v : Value} {c : Int} (h : q9nV v = some c) {G : q9GH} {lo hi : Int} (hv : q9tyV G (0, lo, hi) v) : ∃ u : Int32, v = .int u ∧ u.toInt = c := by
  obtain ⟨u, e, -⟩ := hv
  subst e
  exact ⟨u, rfl, Option.some.inj h⟩
theorem q9iv_nV {r : Nat → Value} {k : Nat} {c : Int} (h : q9nV (r k) = some c) : q9iv r k = c := by
  unfold q9nV at h
  unfold q9iv
  cases hr : r k with
  | int x => rw [hr] at h; exact Option.some.inj h
  | long x => rw [hr] at h; exact Option.some.inj h
  | _ => rw [hr] at h; cases h
theorem q9toI {c : Int} (h1 : -2147483648 ≤ c) (h2 : c ≤ 2147483647) : (Int32.ofInt c).toInt = c := q9ofInt_toInt32 h1 h2
/-- the sum of q9two symbols that stand for numbers -/
noncomputable def q9fX_o (x : q9ST) (f : q9AV) (k : Nat) : Option Nat := ((q9tX x).find? (fun q => q.1 == 0 && (q.2.1 == f && q.2.2.1 == (k, 0)))).map (fun q => q.2.2.2)
noncomputable def q9fX (x : q9ST) (f : q9AV) (k : Nat) : Option Nat := (q9fi9 (q9tX x) (fun q => q9nd9 (q9eq9 (q.1) (0)) ((q9nd9 (q9eq9 (q.2.1) (f)) (q9eq9 (q.2.2.1) ((k, 0))))))).map (fun q => q.2.2.2)
theorem q9fX_oq : @q9fX = @q9fX_o := by
  delta q9fX q9fX_o
  simp only [q9ge9_eq, q9fi9_eq, q9an9_eq, q9al9_eq, q9flt9_eq, q9el9_eq, q9set9_eq, q9ln9_eq, q9gD9_eq, q9ap9_eq, q9eq9_N, q9eq9_I, q9eq9_A, q9eq9_E, q9eq9_OI, q9eq9_ON, q9eq9_OA, q9eq9_L, q9eq9_S, q9de9_N, q9de9_I, q9de9_A, q9le9_N, q9le9_I, q9lt9_N, q9lt9_I, q9de9_E, q9de9_OI, q9de9_ON, q9de9_OA, q9de9_L, q9nd9_eq, q9or9_eq, Bool.cond_decide]
theorem q9fX_ok {nL : Nat} {g : List Value} {x : q9ST} {r : Nat → Value} {G : q9GH} {ws : va_W} {ls : Array Slot} {st : List Value} (hM : q9SM O nL g x r G ws ls st) (hw : q9wfB x = true) {f : q9AV} {k t : Nat} (h : q9fX x f k = some t) {u w : Int32} (hf : q9ev r f = .int u) (hk : r k = .int w) : r t = .int (u + w) ∧ t < (q9tE x).length := by
  (rewrite [q9fX_oq] at h; unfold q9fX_o at h)
  cases hq : (q9tX x).find? (fun q => q.1 == 0 && (q.2.1 == f && q.2.2.1 == (k, 0))) with
  | none => rw [hq] at h; cases h
  | some q =>
    rw [hq] at h
    have h1 := List.find?_some hq
    have h2 := List.mem_of_find?_eq_some hq
    simp only [Bool.and_eq_true, beq_iff_eq] at h1
    cases h
    have h3 := hM.2.2.2.2.2.2.2 q h2
    unfold q9EXok at h3
    rw [h1.1, h1.2.1, h1.2.2, hf, q9ev_zero, hk] at h3
    exact ⟨(Option.some.inj h3).symm, (q9wf_X hw q h2).2.2⟩
/-- the stretch without its first line; that line's own frames -/
noncomputable def q9nxC_o (o : Nat) (s : q9AV) (d : Nat) (f : q9AV) : q9RF := fun x => match (q9tE x)[o]?, q9enA x o s, (q9tA x).find? (q9isCn x s (1 + d) 60), q9num (q9tE x) s, q9knd x o s with
  | some (2, 12, _), some e, some z, some (0, _, _), some k => if d ≤ 4 ∧ q9okAV (q9tE x) s = true ∧ q9zeroB x = true ∧ q9leB x s z.2.2 (-1 - 1000 * ((1 + d : Nat) : Int)) = true then
      (if d = 0 ∧ k = 7 then some [] else if k = 0 ∨ k = 1 ∨ k = 7 then
        (match (q9tE x)[z.1]?, q9num (q9tE x) f, q9fX x f z.1 with
        | some (0, _, hc), some (0, fl, fh), some t => (match (q9tE x)[t]? with
          | some (0, _, th) => if hc ≤ 1000 ∧ 0 ≤ fl ∧ fh ≤ 1000000 ∧ q9okAV (q9tE x) f = true then
              some [q9addS x [(0, 0, hc), (0, 0, hc), (0, fl, th)] [] [((q9tE x).length, s, (0, 1000 * ((13 + d : Nat) : Int))), ((q9tE x).length + 1, e, z.2.2)] [((q9tE x).length + 2, t, 0)] [(0, ((q9tE x).length, 0), ((q9tE x).length + 1, 0), z.1), (0, f, ((q9tE x).length, 0), (q9tE x).length + 2), (0, ((q9tE x).length + 2, 0), ((q9tE x).length + 1, 0), t)]]
            else none
          | _ => none)
        | _, _, _ => none)
      else some [q9addS x [] [] [(z.1, e, z.2.2)] [] []]) else none
  | _, _, _, _, _ => none
noncomputable def q9nxC (o : Nat) (s : q9AV) (d : Nat) (f : q9AV) : q9RF := fun x => match (q9ge9 (q9tE x) (o)), q9enA x o s, q9fi9 (q9tA x) (q9isCn x s (1 + d) 60), q9num (q9tE x) s, q9knd x o s with
  | some (2, 12, _), some e, some z, some (0, _, _), some k => if d ≤ 4 ∧ q9okAV (q9tE x) s = true ∧ q9zeroB x = true ∧ q9leB x s z.2.2 (-1 - 1000 * ((1 + d : Nat) : Int)) = true then
      (if d = 0 ∧ k = 7 then some [] else if k = 0 ∨ k = 1 ∨ k = 7 then
        (match (q9ge9 (q9tE x) (z.1)), q9num (q9tE x) f, q9fX x f z.1 with
        | some (0, _, hc), some (0, fl, fh), some t => (match (q9ge9 (q9tE x) (t)) with
          | some (0, _, th) => if hc ≤ 1000 ∧ 0 ≤ fl ∧ fh ≤ 1000000 ∧ q9okAV (q9tE x) f = true then
              some [q9addS x [(0, 0, hc), (0, 0, hc), (0, fl, th)] [] [((q9ln9 (q9tE x)), s, (0, 1000 * ((13 + d : Nat) : Int))), ((q9ln9 (q9tE x)) + 1, e, z.2.2)] [((q9ln9 (q9tE x)) + 2, t, 0)] [(0, ((q9ln9 (q9tE x)), 0), ((q9ln9 (q9tE x)) + 1, 0), z.1), (0, f, ((q9ln9 (q9tE x)), 0), (q9ln9 (q9tE x)) + 2), (0, ((q9ln9 (q9tE x)) + 2, 0), ((q9ln9 (q9tE x)) + 1, 0), t)]]
            else none
          | _ => none)
        | _, _, _ => none)
      else some [q9addS x [] [] [(z.1, e, z.2.2)] [] []]) else none
  | _, _, _, _, _ => none
theorem q9nxC_oq : @q9nxC = @q9nxC_o := by
  delta q9nxC q9nxC_o
  simp only [q9ge9_eq, q9fi9_eq, q9an9_eq, q9al9_eq, q9flt9_eq, q9el9_eq, q9set9_eq, q9ln9_eq, q9gD9_eq, q9ap9_eq, q9eq9_N, q9eq9_I, q9eq9_A, q9eq9_E, q9eq9_OI, q9eq9_ON, q9eq9_OA, q9eq9_L, q9eq9_S, q9de9_N, q9de9_I, q9de9_A, q9le9_N, q9le9_I, q9lt9_N, q9lt9_I, q9de9_E, q9de9_OI, q9de9_ON, q9de9_OA, q9de9_L, q9nd9_eq, q9or9_eq, Bool.cond_decide]
theorem q9nxC_ok (o : Nat) (s : q9AV) (d : Nat) (f : q9AV) : q9RFok O (q9nxC o s d f) := by
  intro nL g cT A x r G ws ls st xs hw hM hT hD h
  (rewrite [q9nxC_oq] at h; unfold q9nxC_o at h)
  split at h
  · rename_i h9 e0 z l h8 k ho he hz hn hk
    split at h
    · rename_i hc
      obtain ⟨c1, c3, c5, c4⟩ := hc
      have hzm := List.mem_of_find?_eq_some hz
      obtain ⟨y, y1, y2, y3, y4⟩ := q9num_int hM.2.2.2.1 c3 hn
      obtain ⟨q, a, n, fs, M, c, w, e, k1, k2, k3, k4, k5, k6, k7, k8, k9, k10, k11⟩ := q9isCn_ok (t := 1 + d) hM hw hzm c3 y1 (by omega) (by have := List.find?_some hz; exact this)
      have hle := q9leB_ok hM c3 (q9wf_A hw z hzm).2.2 c4
      rw [y1, k6] at hle
      have hle : y.toInt ≤ w.toInt + (-1 - 1000 * ((1 + d : Nat) : Int)) := hle
      have hyc : y.toNatClampNeg = y.toInt.toNat := rfl
      rw [if_pos (by omega)] at k11
      rw [show 1 + d - 1 = d by omega] at k11
      obtain ⟨zl, c', z3, z4, z5, z6, z7⟩ := k11.lt (by omega)
      have hkk := q9knd_ok hM hw hT hD ho k1 k2 k3 c3 y1 hk
      obtain ⟨e1, e2⟩ := q9enA_ok hM hw hT hD ho k1 k2 k3 c3 y1 he
      have h0 : 0 < (q9tE x).length := q9lt_of_E (q9zero_at c5)
      have hb6 := z6.bd4 (by omega) c1
      have hk07 : ¬ (d = 0 ∧ k = 7) := by
        rintro ⟨rfl, rfl⟩
        rcases z7 with ⟨w1, -⟩ | ⟨-, -, -, d', i, w4, -⟩ | ⟨-, -, w3, -⟩
        · omega
        · omega
        · omega
      rw [if_neg hk07] at h
      unfold q9enN at z3 z4
      split at h
      · rename_i hk017
        split at h
        · rename_i lc hcc fl fh t hEc hnf hft
          split at h
          · rename_i tl th hEt
            split at h
            · rename_i hc2
              obtain ⟨b1, b2, b3, b4⟩ := hc2
              cases h
              have hzE := hM.2.2.2.1 _ _ hEc
              obtain ⟨cI, i1, i2⟩ := q9nV_int k4 hzE
              have hch : c ≤ hcc := by
                obtain ⟨u, u1, u2, u3⟩ := hzE
                rw [i1] at u1
                cases u1
                have u3 : cI.toInt ≤ hcc := u3
                omega
              obtain ⟨fI, f1, f2, f3, f4⟩ := q9num_int hM.2.2.2.1 b4 hnf
              obtain ⟨t1, t2⟩ := q9fX_ok hM hw hft f1 i1
              have hts : (fI + cI).toInt = fI.toInt + cI.toInt := q9n_add (by omega) (by omega)
              have hth : (fI + cI).toInt ≤ th := by
                obtain ⟨u, u1, u2, u3⟩ := hM.2.2.2.1 _ _ hEt
                rw [t1] at u1
                cases u1
                exact u3
              have hln : 0 ≤ zl ∧ q9RLN M d y.toNatClampNeg 0 zl := by
                rcases z7 with ⟨w1, w2, w3, w4⟩ | ⟨w1, w2, w3, d', i, w4, w5, w6⟩ | ⟨w1, w2, w3, -⟩
                · exact ⟨by omega, by omega, 1, by omega, .inl ⟨w1, rfl⟩, by rw [w4]; omega⟩
                · have hi := w5.bd4 (by unfold q9enN; omega) (by omega)
                  refine ⟨by rw [w6]; exact Int.mul_nonneg (by omega) hi.1, by omega, i, hi.1, .inr ⟨w1, d', w4, w5⟩, ?_⟩
                  rw [w6]
                  show _ = ((M 23 y.toNatClampNeg).toInt - ((0 : Nat) : Int)) * i
                  rw [Int.natCast_zero, Int.sub_zero]
                · omega
              obtain ⟨hl0, hRL⟩ := hln
              have q9iL := q9toI (c := zl) (by omega) (by omega)
              have q9iC := q9toI (c := c') (by omega) (by omega)
              have hfl : (fI + Int32.ofInt zl).toInt = fI.toInt + zl := by rw [q9n_add (by omega) (by omega), q9iL]
              refine q9rf_add hM hw [.int (Int32.ofInt zl), .int (Int32.ofInt c'), .int (fI + Int32.ofInt zl)] List.mem_cons_self (q9ty_cons ⟨_, rfl, by show (0 : Int) ≤ _; omega, by show _ ≤ hcc; omega⟩ (q9ty_cons ⟨_, rfl, by show (0 : Int) ≤ _; omega, by show _ ≤ hcc; omega⟩ (q9ty_cons ⟨_, rfl, by show fl ≤ _; omega, by show _ ≤ th; omega⟩ q9ty_nil))) q9no_mem (q9cons_mem ?_ (q9one_mem ?_)) (q9one_mem ?_) (q9cons_mem ?_ (q9cons_mem ?_ (q9one_mem ?_)))
              · refine q9cn_mk (t := 13 + d) (e := 0) (c := zl) (b := y) (w := Int32.ofInt (1000 * ((13 + d : Nat) : Int))) k1 k2 k3 ?_ hl0 ?_ ?_ k10 (by omega) ?_ (by omega) ?_
                · show q9nV (q9upL _ _ _ (q9tE x).length) = _
                  rw [q9rU0]
                  show some (Int32.ofInt zl).toInt = _
                  rw [q9iL]
                · show q9ev _ s = _
                  rw [q9upL_agr.ev c3]
                  exact y1
                · show q9ev _ (0, _) = _
                  rw [q9ev_agree (a := (0, 1000 * ((13 + d : Nat) : Int))) (q9upL_lt h0)]
                  exact q9zero_ev hM.2.2.2.1 (q9zero_at c5) _
                · rw [q9toI (by omega) (by omega)]
                  omega
                · rw [if_neg (by omega), if_neg (by omega), show 13 + d - 13 = d by omega]
                  exact hRL
              · refine q9cn_mk (t := 1 + d) (e := e) (c := c') (b := M 29 y.toNatClampNeg) (w := w) k1 k2 k3 ?_ hb6.1 ?_ ?_ (by omega) (by omega) k8 (by omega) ?_
                · show q9nV (q9upL _ _ _ ((q9tE x).length + 1)) = _
                  rw [q9rU1]
                  show some (Int32.ofInt c').toInt = _
                  rw [q9iC]
                · show q9ev _ e0 = _
                  rw [q9upL_agr.ev e1]
                  exact e2
                · show q9ev _ z.2.2 = _
                  rw [q9upL_agr.ev (q9wf_A hw z hzm).2.2]
                  exact k6
                · rw [if_pos (by omega), show 1 + d - 1 = d by omega]
                  exact z6
              · unfold q9FCok
                rw [q9iv_of (k := (q9tE x).length + 2) q9rU2, q9upL_agr.iv t2, q9iv_of t1]
                show (fI + Int32.ofInt zl).toInt ≤ (fI + cI).toInt + 0
                omega
              · unfold q9EXok
                show q9exop O 0 (q9ev _ ((q9tE x).length, 0)) (q9ev _ ((q9tE x).length + 1, 0)) = some (q9upL r (q9tE x).length _ z.1)
                rw [q9evU0, q9evU1, q9upL_lt (q9lt_of_E hEc), i1]
                show some (Value.int (Int32.ofInt zl + Int32.ofInt c')) = _
                rw [show Int32.ofInt zl + Int32.ofInt c' = cI from Int32.toInt_inj.mp (by rw [q9n_add (by omega) (by omega), q9iL, q9iC]; omega)]
              · unfold q9EXok
                show q9exop O 0 (q9ev _ f) (q9ev _ ((q9tE x).length, 0)) = some (q9upL r (q9tE x).length _ ((q9tE x).length + 2))
                rw [q9evU0, q9upL_agr.ev b4, f1, q9rU2]
                rfl
              · unfold q9EXok
                show q9exop O 0 (q9ev _ ((q9tE x).length + 2, 0)) (q9ev _ ((q9tE x).length + 1, 0)) = some (q9upL r (q9tE x).length _ t)
                rw [q9evU2, q9evU1, q9upL_lt t2, t1]
                show some (Value.int (fI + Int32.ofInt zl + Int32.ofInt c')) = _
                rw [show fI + Int32.ofInt zl + Int32.ofInt c' = fI + cI from Int32.toInt_inj.mp (by rw [q9n_add (by omega) (by omega), hfl, q9iC, hts]; omega)]
            · cases h
          · cases h
        · cases h
      · rename_i hk017
        cases h
        have hz0 : zl = 0 := by
          rcases z7 with ⟨w1, -⟩ | ⟨w1, -⟩ | ⟨-, -, -, w4⟩
          · omega
          · omega
          · exact w4
        refine q9rf_add hM hw [] List.mem_cons_self q9ty_nil q9no_mem (q9one_mem (q9cn_mk (t := 1 + d) (e := e) (c := c) (b := M 29 y.toNatClampNeg) (w := w) k1 k2 k3 ?_ k5 ?_ ?_ (by omega) (by omega) k8 (by omega) ?_)) q9no_mem q9no_mem
        · show q9nV (q9upL r _ [] z.1) = _
          rw [q9upL_lt (q9wf_A hw z hzm).1]
          exact k4
        · show q9ev _ e0 = _
          rw [q9upL_agr.ev e1]
          exact e2
        · show q9ev _ z.2.2 = _
          rw [q9upL_agr.ev (q9wf_A hw z hzm).2.2]
          exact k6
        · rw [if_pos (by omega), show 1 + d - 1 = d by omega, z5, hz0, Int.zero_add]
          exact z6
    · cases h
  · cases h
/-- what is known of how often a line goes on -/
noncomputable def q9mnA (x : q9ST) (o : Nat) (s : q9AV) : Option q9AV := match q9fF x o 23 with
  | some ma => q9fA x ma.1 s
  | none => none
theorem q9mnA_ok {nL : Nat} {g : List Value} {x : q9ST} {r : Nat → Value} {G : q9GH} {ws : va_W} {ls : Array Slot} {st : List Value} (hM : q9SM O nL g x r G ws ls st) (hw : q9wfB x = true) {cT : Nat → ClassId} {B : q9TB} (hT : q9tyW cT B G ws) {A : Nat → Prop} (hD : va_D A ws) {o : Nat} {h9 : Int} (ho : (q9tE x)[o]? = some (2, 12, h9)) {q a n : Nat} {fs : List Value} {M : q9LM} (h1 : G[q]? = some (a, 12, n)) (h2 : ws[q]? = some (a, .inr (12, fs)))
    (h3 : ∀ y ∈ q9jF1, ∃ (i b k n' : Nat) (cA : ClassId), fs[y.1]? = some (.ref b) ∧ G[i]? = some (b, y.2, k) ∧ ws[i]? = some (b, .inl (cA, n', .inl (M y.1)))) {s : q9AV} (hs : q9okAV (q9tE x) s = true) {y : Int32} (hy : q9ev r s = .int y) {v : q9AV} (h : q9mnA x o s = some v) : q9okAV (q9tE x) v = true ∧ q9ev r v = .int (M 23 y.toNatClampNeg) := by
  unfold q9mnA at h
  split at h
  · rename_i ea hea
    obtain ⟨b, i, k, n', cA, m1, m2, m3, m4⟩ := q9omA hM hT hD ho h1 h2 h3 (j := 23) (cd := 179) (by decide) (by decide) (q9fF_ok hea)
    exact q9fA_ok hM hw hD h hs hy m1 m4
  · cases h
/-- that of what is q9left of a line after k turns -/
noncomputable def q9isRl_o (x : q9ST) (s k : q9AV) (d : Nat) (z : Nat × q9AV × q9AV) : Bool := q9isCn x s (13 + d) 400 z && (q9leB x z.2.2 k (1000 * ((13 + d : Nat) : Int)) && q9leB x k z.2.2 (-(1000 * ((13 + d : Nat) : Int))))
noncomputable def q9isRl (x : q9ST) (s k : q9AV) (d : Nat) (z : Nat × q9AV × q9AV) : Bool := q9nd9 (q9isCn x s (13 + d) 400 z) ((q9nd9 (q9leB x z.2.2 k (1000 * ((13 + d : Nat) : Int))) (q9leB x k z.2.2 (-(1000 * ((13 + d : Nat) : Int))))))
theorem q9isRl_oq : @q9isRl = @q9isRl_o := by
  delta q9isRl q9isRl_o
  simp only [q9ge9_eq, q9fi9_eq, q9an9_eq, q9al9_eq, q9flt9_eq, q9el9_eq, q9set9_eq, q9ln9_eq, q9gD9_eq, q9ap9_eq, q9eq9_N, q9eq9_I, q9eq9_A, q9eq9_E, q9eq9_OI, q9eq9_ON, q9eq9_OA, q9eq9_L, q9eq9_S, q9de9_N, q9de9_I, q9de9_A, q9le9_N, q9le9_I, q9lt9_N, q9lt9_I, q9de9_E, q9de9_OI, q9de9_ON, q9de9_OA, q9de9_L, q9nd9_eq, q9or9_eq, Bool.cond_decide]
theorem q9isRl_ok {nL : Nat} {g : List Value} {x : q9ST} {r : Nat → Value} {G : q9GH} {ws : va_W} {ls : Array Slot} {st : List Value} (hM : q9SM O nL g x r G ws ls st) (hw : q9wfB x = true) {z : Nat × q9AV × q9AV} (hz : z ∈ q9tA x) {s k : q9AV} (hs : q9okAV (q9tE x) s = true) (hk : q9okAV (q9tE x) k = true) {y kI : Int32} (hy : q9ev r s = .int y) (hkI : q9ev r k = .int kI) {d : Nat} (h : q9isRl x s k d z = true) :
    ∃ (q a n : Nat) (fs : List Value) (M : q9LM) (c : Int), G[q]? = some (a, 12, n) ∧ ws[q]? = some (a, .inr (12, fs)) ∧ (∀ y ∈ q9jF1, ∃ (i b k n' : Nat) (cA : ClassId), fs[y.1]? = some (.ref b) ∧ G[i]? = some (b, y.2, k) ∧ ws[i]? = some (b, .inl (cA, n', .inl (M y.1)))) ∧
      q9nV (r z.1) = some c ∧ 0 ≤ c ∧ 0 ≤ kI.toInt ∧ kI.toInt ≤ 400 ∧ 0 ≤ y.toInt ∧ q9RLN M d y.toNatClampNeg kI.toInt.toNat c := by
  (rewrite [q9isRl_oq] at h; unfold q9isRl_o at h)
  rw [Bool.and_eq_true, Bool.and_eq_true] at h
  obtain ⟨h1, h2, h3⟩ := h
  obtain ⟨q, a, n, fs, M, c, w, e, k1, k2, k3, k4, k5, k6, k7, k8, k9, k10, k11⟩ := q9isCn_ok (t := 13 + d) hM hw hz hs hy (by omega) h1
  have g2 := q9leB_ok hM (q9wf_A hw z hz).2.2 hk h2
  have g3 := q9leB_ok hM hk (q9wf_A hw z hz).2.2 h3
  rw [k6, hkI] at g2
  rw [k6, hkI] at g3
  have g2 : w.toInt ≤ kI.toInt + 1000 * ((13 + d : Nat) : Int) := g2
  have g3 : kI.toInt ≤ w.toInt + -(1000 * ((13 + d : Nat) : Int)) := g3
  rw [if_neg (by omega), if_neg (by omega), show 13 + d - 13 = d by omega] at k11
  exact ⟨q, a, n, fs, M, c, k1, k2, k3, k4, k5, by omega, by omega, k10, by rw [show kI.toInt.toNat = e by omega]; exact k11⟩
/-- a turn of a line that makes q9one frame a turn -/
noncomputable def q9rlF_o (o : Nat) (s k : q9AV) (f : q9AV) (d : Nat) : q9RF := fun x => match (q9tE x)[o]?, q9mnA x o s, (q9tA x).find? (q9isRl x s k d), q9knd x o s with
  | some (2, 12, _), some m, some z, some kd => (match q9num (q9tE x) s, q9num (q9tE x) k, (q9tE x)[z.1]?, q9num (q9tE x) f, q9fX x f z.1 with
    | some (0, _, _), some (0, _, _), some (0, _, hz), some (0, fl, fh), some t => if d ≤ 4 ∧ (kd = 0 ∨ kd = 1) ∧ q9okAV (q9tE x) s = true ∧ q9okAV (q9tE x) k = true ∧ q9okAV (q9tE x) (k.1, k.2 + (1 + 1000 * ((13 + d : Nat) : Int))) = true ∧ q9isInt x k = true ∧ q9leB x k m (-1) = true ∧ q9okAV (q9tE x) f = true ∧ 0 ≤ fl ∧ fh ≤ 1000000 ∧ hz ≤ 1000 then
        some [q9addS x [(0, 0, hz)] [] [((q9tE x).length, s, (k.1, k.2 + (1 + 1000 * ((13 + d : Nat) : Int))))] [((q9tE x).length, z.1, -1), (z.1, (q9tE x).length, 1), (f.1, t, -1 - f.2)] []] else none
    | _, _, _, _, _ => none)
  | _, _, _, _ => none
noncomputable def q9rlF (o : Nat) (s k : q9AV) (f : q9AV) (d : Nat) : q9RF := fun x => match (q9ge9 (q9tE x) (o)), q9mnA x o s, q9fi9 (q9tA x) (q9isRl x s k d), q9knd x o s with
  | some (2, 12, _), some m, some z, some kd => (match q9num (q9tE x) s, q9num (q9tE x) k, (q9ge9 (q9tE x) (z.1)), q9num (q9tE x) f, q9fX x f z.1 with
    | some (0, _, _), some (0, _, _), some (0, _, hz), some (0, fl, fh), some t => if d ≤ 4 ∧ (kd = 0 ∨ kd = 1) ∧ q9okAV (q9tE x) s = true ∧ q9okAV (q9tE x) k = true ∧ q9okAV (q9tE x) (k.1, k.2 + (1 + 1000 * ((13 + d : Nat) : Int))) = true ∧ q9isInt x k = true ∧ q9leB x k m (-1) = true ∧ q9okAV (q9tE x) f = true ∧ 0 ≤ fl ∧ fh ≤ 1000000 ∧ hz ≤ 1000 then
        some [q9addS x [(0, 0, hz)] [] [((q9ln9 (q9tE x)), s, (k.1, k.2 + (1 + 1000 * ((13 + d : Nat) : Int))))] [((q9ln9 (q9tE x)), z.1, -1), (z.1, (q9ln9 (q9tE x)), 1), (f.1, t, -1 - f.2)] []] else none
    | _, _, _, _, _ => none)
  | _, _, _, _ => none
theorem q9rlF_oq : @q9rlF = @q9rlF_o := by
  delta q9rlF q9rlF_o
  simp only [q9ge9_eq, q9fi9_eq, q9an9_eq, q9al9_eq, q9flt9_eq, q9el9_eq, q9set9_eq, q9ln9_eq, q9gD9_eq, q9ap9_eq, q9eq9_N, q9eq9_I, q9eq9_A, q9eq9_E, q9eq9_OI, q9eq9_ON, q9eq9_OA, q9eq9_L, q9eq9_S, q9de9_N, q9de9_I, q9de9_A, q9le9_N, q9le9_I, q9lt9_N, q9lt9_I, q9de9_E, q9de9_OI, q9de9_ON, q9de9_OA, q9de9_L, q9nd9_eq, q9or9_eq, Bool.cond_decide]
theorem q9rlF_ok (o : Nat) (s k : q9AV) (f : q9AV) (d : Nat) : q9RFok O (q9rlF o s k f d) := by
  intro nL g cT A x r G ws ls st xs hw hM hT hD h
  (rewrite [q9rlF_oq] at h; unfold q9rlF_o at h)
  split at h
  · rename_i h9 m z kd ho hm hz hkd
    split at h
    · rename_i sl q9sh kl kh zl hzh fl fh t hns hnk hEz hnf hft
      split at h
      · rename_i hc
        obtain ⟨c1, c2, c3, c4, c5, c6, c7, q9c8, c9, c10, c11⟩ := hc
        cases h
        have hzm := List.mem_of_find?_eq_some hz
        obtain ⟨y, y1, -⟩ := q9num_int hM.2.2.2.1 c3 hns
        obtain ⟨kI, q1, -⟩ := q9num_int hM.2.2.2.1 c4 hnk
        obtain ⟨q, a, n, fs, M, c, k1, k2, k3, k4, k5, k6, k7, k8, k9⟩ := q9isRl_ok (d := d) hM hw hzm c3 c4 y1 q1 (by have := List.find?_some hz; exact this)
        have hkk := q9knd_ok hM hw hT hD ho k1 k2 k3 c3 y1 hkd
        obtain ⟨m1, m2⟩ := q9mnA_ok hM hw hT hD ho k1 k2 k3 c3 y1 hm
        have hle := q9leB_ok hM c4 m1 c7
        rw [q1, m2] at hle
        have hle : kI.toInt ≤ (M 23 y.toNatClampNeg).toInt + -1 := hle
        obtain ⟨r1, i, r2, r3, r4⟩ := k9
        have hi : i = 1 := by
          rcases r3 with ⟨-, r3⟩ | ⟨r3, -⟩
          · exact r3
          · omega
        subst hi
        rw [Int.mul_one] at r4
        have hzE := hM.2.2.2.1 _ _ hEz
        obtain ⟨cI, i1, i2⟩ := q9nV_int k4 hzE
        have hch : c ≤ hzh := by
          obtain ⟨u, u1, u2, u3⟩ := hzE
          rw [i1] at u1
          cases u1
          have u3 : cI.toInt ≤ hzh := u3
          omega
        obtain ⟨fI, f1, f2, f3, f4⟩ := q9num_int hM.2.2.2.1 q9c8 hnf
        obtain ⟨t1, t2⟩ := q9fX_ok hM hw hft f1 i1
        have hts : (fI + cI).toInt = fI.toInt + cI.toInt := q9n_add (by omega) (by omega)
        obtain ⟨k', g1, g2⟩ := q9ev_off hM.2.2.2.1 c4 c5 c6 q1
        have q9iC := q9toI (c := c - 1) (by omega) (by omega)
        refine q9rf_add hM hw [.int (Int32.ofInt (c - 1))] List.mem_cons_self (q9ty_cons ⟨_, rfl, by show (0 : Int) ≤ _; omega, by show _ ≤ hzh; omega⟩ q9ty_nil) q9no_mem (q9one_mem ?_) (q9cons_mem ?_ (q9cons_mem ?_ (q9one_mem ?_))) q9no_mem
        · refine q9cn_mk (t := 13 + d) (e := kI.toInt.toNat + 1) (c := c - 1) (b := y) (w := k') k1 k2 k3 ?_ (by omega) ?_ ?_ k8 (by omega) (by omega) (by omega) ?_
          · show q9nV (q9upL _ _ _ (q9tE x).length) = _
            rw [q9rU0]
            show some (Int32.ofInt (c - 1)).toInt = _
            rw [q9iC]
          · show q9ev _ s = _
            rw [q9upL_agr.ev c3]
            exact y1
          · show q9ev _ (k.1, _) = _
            rw [q9upL_agr.ev c5]
            exact g1
          · rw [if_neg (by omega), if_neg (by omega), show 13 + d - 13 = d by omega]
            have hR9 : q9RLN M d y.toNatClampNeg (kI.toInt.toNat + 1) (c - 1) := ⟨by omega, 1, by omega, r3, by omega⟩
            exact hR9
        · unfold q9FCok
          rw [q9iv_of (k := (q9tE x).length) q9rU0, q9upL_agr.iv (q9lt_of_E hEz), q9iv_of i1]
          show (Int32.ofInt (c - 1)).toInt ≤ cI.toInt + -1
          omega
        · unfold q9FCok
          rw [q9iv_of (k := (q9tE x).length) q9rU0, q9upL_agr.iv (q9lt_of_E hEz), q9iv_of i1]
          show cI.toInt ≤ (Int32.ofInt (c - 1)).toInt + 1
          omega
        · unfold q9FCok
          rw [q9upL_agr.iv (q9okAV_lt q9c8), q9upL_agr.iv t2, q9iv_of t1]
          show q9iv r f.1 ≤ _ + (-1 - f.2)
          omega
      · cases h
    · cases h
  · cases h
/-- a turn of a repeat -/
noncomputable def q9rlR_o (o : Nat) (s k : q9AV) (f : q9AV) (d : Nat) : q9RF := fun x => match (q9tE x)[o]?, q9mnA x o s, (q9tA x).find? (q9isRl x s k d), q9knd x o s, q9enA x o s with
  | some (2, 12, _), some m, some z, some kd, some e => (match q9num (q9tE x) s, q9num (q9tE x) k, (q9tE x)[z.1]?, q9num (q9tE x) f, q9fX x f z.1 with
    | some (0, _, q9sh), some (0, _, _), some (0, _, hz), some (0, fl, fh), some t => (match (q9tE x)[t]? with
      | some (0, _, th) => if d ≤ 4 ∧ kd = 7 ∧ q9okAV (q9tE x) s = true ∧ q9okAV (q9tE x) k = true ∧ q9okAV (q9tE x) (k.1, k.2 + (1 + 1000 * ((13 + d : Nat) : Int))) = true ∧ q9isInt x k = true ∧ q9leB x k m (-1) = true ∧ q9okAV (q9tE x) f = true ∧ 0 ≤ fl ∧ fh ≤ 1000000 ∧ hz ≤ 1000 ∧
          q9okAV (q9tE x) (s.1, s.2 + 1) = true ∧ q9isInt x s = true ∧ q9okAV (q9tE x) (e.1, e.2 + 1000 * (d : Int)) = true ∧ q9isInt x e = true ∧ q9sh ≤ 60 then
          some [q9addS x [(0, 0, hz), (0, 0, hz), (0, fl, th)] [] [((q9tE x).length, (s.1, s.2 + 1), (e.1, e.2 + 1000 * (d : Int))), ((q9tE x).length + 1, s, (k.1, k.2 + (1 + 1000 * ((13 + d : Nat) : Int))))] [((q9tE x).length + 2, t, 0)] [(0, f, ((q9tE x).length, 0), (q9tE x).length + 2), (0, ((q9tE x).length + 2, 0), ((q9tE x).length + 1, 0), t)]] else none
      | _ => none)
    | _, _, _, _, _ => none)
  | _, _, _, _, _ => none
noncomputable def q9rlR (o : Nat) (s k : q9AV) (f : q9AV) (d : Nat) : q9RF := fun x => match (q9ge9 (q9tE x) (o)), q9mnA x o s, q9fi9 (q9tA x) (q9isRl x s k d), q9knd x o s, q9enA x o s with
  | some (2, 12, _), some m, some z, some kd, some e => (match q9num (q9tE x) s, q9num (q9tE x) k, (q9ge9 (q9tE x) (z.1)), q9num (q9tE x) f, q9fX x f z.1 with
    | some (0, _, q9sh), some (0, _, _), some (0, _, hz), some (0, fl, fh), some t => (match (q9ge9 (q9tE x) (t)) with
      | some (0, _, th) => if d ≤ 4 ∧ kd = 7 ∧ q9okAV (q9tE x) s = true ∧ q9okAV (q9tE x) k = true ∧ q9okAV (q9tE x) (k.1, k.2 + (1 + 1000 * ((13 + d : Nat) : Int))) = true ∧ q9isInt x k = true ∧ q9leB x k m (-1) = true ∧ q9okAV (q9tE x) f = true ∧ 0 ≤ fl ∧ fh ≤ 1000000 ∧ hz ≤ 1000 ∧
          q9okAV (q9tE x) (s.1, s.2 + 1) = true ∧ q9isInt x s = true ∧ q9okAV (q9tE x) (e.1, e.2 + 1000 * (d : Int)) = true ∧ q9isInt x e = true ∧ q9sh ≤ 60 then
          some [q9addS x [(0, 0, hz), (0, 0, hz), (0, fl, th)] [] [((q9ln9 (q9tE x)), (s.1, s.2 + 1), (e.1, e.2 + 1000 * (d : Int))), ((q9ln9 (q9tE x)) + 1, s, (k.1, k.2 + (1 + 1000 * ((13 + d : Nat) : Int))))] [((q9ln9 (q9tE x)) + 2, t, 0)] [(0, f, ((q9ln9 (q9tE x)), 0), (q9ln9 (q9tE x)) + 2), (0, ((q9ln9 (q9tE x)) + 2, 0), ((q9ln9 (q9tE x)) + 1, 0), t)]] else none
      | _ => none)
    | _, _, _, _, _ => none)
  | _, _, _, _, _ => none
theorem q9rlR_oq : @q9rlR = @q9rlR_o := by
  delta q9rlR q9rlR_o
  simp only [q9ge9_eq, q9fi9_eq, q9an9_eq, q9al9_eq, q9flt9_eq, q9el9_eq, q9set9_eq, q9ln9_eq, q9gD9_eq, q9ap9_eq, q9eq9_N, q9eq9_I, q9eq9_A, q9eq9_E, q9eq9_OI, q9eq9_ON, q9eq9_OA, q9eq9_L, q9eq9_S, q9de9_N, q9de9_I, q9de9_A, q9le9_N, q9le9_I, q9lt9_N, q9lt9_I, q9de9_E, q9de9_OI, q9de9_ON, q9de9_OA, q9de9_L, q9nd9_eq, q9or9_eq, Bool.cond_decide]
theorem q9rlR_ok (o : Nat) (s k : q9AV) (f : q9AV) (d : Nat) : q9RFok O (q9rlR o s k f d) := by
  intro nL g cT A x r G ws ls st xs hw hM hT hD h
  (rewrite [q9rlR_oq] at h; unfold q9rlR_o at h)
  split at h
  · rename_i h9 m z kd e0 ho hm hz hkd he
    split at h
    · rename_i sl q9sh kl kh zl hzh fl fh t hns hnk hEz hnf hft
      split at h
      · rename_i tl th hEt
        split at h
        · rename_i hc
          obtain ⟨c1, c2, c3, c4, c5, c6, c7, q9c8, c9, c10, c11, c12, c13, c14, c15, q9c16⟩ := hc
          cases h
          have hzm := List.mem_of_find?_eq_some hz
          obtain ⟨y, y1, -⟩ := q9num_int hM.2.2.2.1 c3 hns
          obtain ⟨kI, q1, -⟩ := q9num_int hM.2.2.2.1 c4 hnk
          obtain ⟨q, a, n, fs, M, c, k1, k2, k3, k4, k5, k6, k7, k8, k9⟩ := q9isRl_ok (d := d) hM hw hzm c3 c4 y1 q1 (by have := List.find?_some hz; exact this)
          have hkk := q9knd_ok hM hw hT hD ho k1 k2 k3 c3 y1 hkd
          obtain ⟨m1, m2⟩ := q9mnA_ok hM hw hT hD ho k1 k2 k3 c3 y1 hm
          obtain ⟨e1, e2⟩ := q9enA_ok hM hw hT hD ho k1 k2 k3 c3 y1 he
          have hle := q9leB_ok hM c4 m1 c7
          rw [q1, m2] at hle
          have hle : kI.toInt ≤ (M 23 y.toNatClampNeg).toInt + -1 := hle
          have hyc : y.toNatClampNeg = y.toInt.toNat := rfl
          obtain ⟨r1, i, r2, r3, r4⟩ := k9
          have hcn : ∃ d' : Nat, d = d' + 1 ∧ q9CNT M d' (y.toNatClampNeg + 1) (q9enN M y.toNatClampNeg) i := by
            rcases r3 with ⟨r3, -⟩ | ⟨-, r3⟩
            · omega
            · exact r3
          obtain ⟨d', rfl, hcn⟩ := hcn
          have hspl : c = ((M 23 y.toNatClampNeg).toInt - ((kI.toInt.toNat + 1 : Nat) : Int)) * i + i := by
            rw [r4, show (M 23 y.toNatClampNeg).toInt - (kI.toInt.toNat : Int) = ((M 23 y.toNatClampNeg).toInt - ((kI.toInt.toNat + 1 : Nat) : Int)) + 1 by omega, Int.add_mul, Int.one_mul]
          have hpos : 0 ≤ ((M 23 y.toNatClampNeg).toInt - ((kI.toInt.toNat + 1 : Nat) : Int)) * i := Int.mul_nonneg (by omega) r2
          generalize hcw : ((M 23 y.toNatClampNeg).toInt - ((kI.toInt.toNat + 1 : Nat) : Int)) * i = c' at hspl hpos
          have hzE := hM.2.2.2.1 _ _ hEz
          obtain ⟨cI, i1, i2⟩ := q9nV_int k4 hzE
          have hch : c ≤ hzh := by
            obtain ⟨u, u1, u2, u3⟩ := hzE
            rw [i1] at u1
            cases u1
            have u3 : cI.toInt ≤ hzh := u3
            omega
          obtain ⟨fI, f1, f2, f3, f4⟩ := q9num_int hM.2.2.2.1 q9c8 hnf
          obtain ⟨t1, t2⟩ := q9fX_ok hM hw hft f1 i1
          have hts : (fI + cI).toInt = fI.toInt + cI.toInt := q9n_add (by omega) (by omega)
          have hth : (fI + cI).toInt ≤ th := by
            obtain ⟨u, u1, u2, u3⟩ := hM.2.2.2.1 _ _ hEt
            rw [t1] at u1
            cases u1
            exact u3
          obtain ⟨k', g1, g2⟩ := q9ev_off hM.2.2.2.1 c4 c5 c6 q1
          obtain ⟨ys, s1, s2⟩ := q9ev_off hM.2.2.2.1 c3 c12 c13 y1
          obtain ⟨ye, s3, s4⟩ := q9ev_off hM.2.2.2.1 e1 c14 c15 e2
          have q9iC := q9toI (c := c') (by omega) (by omega)
          have iI := q9toI (c := i) (by omega) (by omega)
          have hfl : (fI + Int32.ofInt i).toInt = fI.toInt + i := by rw [q9n_add (by omega) (by omega), iI]
          have hle9 := hcn.le
          unfold q9enN at hle9 hcn
          have he60 : (M 29 y.toNatClampNeg).toInt.toNat ≤ 999 := by
            obtain ⟨b, i9, k9, n', cA, w1, w2, w3, w4⟩ : ∃ (b i9 k9 n' : Nat) (cA : ClassId), fs[29]? = some (.ref b) ∧ G[i9]? = some (b, 185, k9) ∧ ws[i9]? = some (b, .inl (cA, n', .inl (M 29))) ∧ True := by
              obtain ⟨i9, b, k9, n', cA, w1, w2, w3⟩ := k3 (29, 185) (by decide)
              exact ⟨b, i9, k9, n', cA, w1, w2, w3, trivial⟩
            have := q9omT hT hD w2 w3 (N := 61) (lo := 0) (hi := 60) (by decide +kernel) (y := y.toNatClampNeg)
            by_cases h61 : y.toNatClampNeg < 61
            · have := this h61
              omega
            · have hn9 := q9num_iv hM.2.2.2.1 c3 hns y1
              omega
          refine q9rf_add hM hw [.int (Int32.ofInt i), .int (Int32.ofInt c'), .int (fI + Int32.ofInt i)] List.mem_cons_self (q9ty_cons ⟨_, rfl, by show (0 : Int) ≤ _; omega, by show _ ≤ hzh; omega⟩ (q9ty_cons ⟨_, rfl, by show (0 : Int) ≤ _; omega, by show _ ≤ hzh; omega⟩ (q9ty_cons ⟨_, rfl, by show fl ≤ _; omega, by show _ ≤ th; omega⟩ q9ty_nil))) q9no_mem (q9cons_mem ?_ (q9one_mem ?_)) (q9one_mem ?_) (q9cons_mem ?_ (q9one_mem ?_))
          · refine q9cn_mk (t := 1 + d') (e := (M 29 y.toNatClampNeg).toInt.toNat) (c := i) (b := ys) (w := ye) k1 k2 k3 ?_ r2 ?_ ?_ (by omega) (by omega) (by omega) he60 ?_
            · show q9nV (q9upL _ _ _ (q9tE x).length) = _
              rw [q9rU0]
              show some (Int32.ofInt i).toInt = _
              rw [iI]
            · show q9ev _ (s.1, s.2 + 1) = _
              rw [q9upL_agr.ev c12]
              exact s1
            · show q9ev _ (e0.1, _) = _
              rw [q9upL_agr.ev c14]
              exact s3
            · rw [if_pos (by omega), show 1 + d' - 1 = d' by omega, show ys.toInt.toNat = y.toNatClampNeg + 1 by omega]
              exact hcn
          · refine q9cn_mk (t := 13 + (d' + 1)) (e := kI.toInt.toNat + 1) (c := c') (b := y) (w := k') k1 k2 k3 ?_ hpos ?_ ?_ k8 (by omega) (by omega) (by omega) ?_
            · show q9nV (q9upL _ _ _ ((q9tE x).length + 1)) = _
              rw [q9rU1]
              show some (Int32.ofInt c').toInt = _
              rw [q9iC]
            · show q9ev _ s = _
              rw [q9upL_agr.ev c3]
              exact y1
            · show q9ev _ (k.1, _) = _
              rw [q9upL_agr.ev c5]
              exact g1
            · rw [if_neg (by omega), if_neg (by omega), show 13 + (d' + 1) - 13 = d' + 1 by omega]
              have hR9 : q9RLN M (d' + 1) y.toNatClampNeg (kI.toInt.toNat + 1) c' := ⟨by omega, i, r2, r3, hcw.symm⟩
              exact hR9
          · unfold q9FCok
            rw [q9iv_of (k := (q9tE x).length + 2) q9rU2, q9upL_agr.iv t2, q9iv_of t1]
            show (fI + Int32.ofInt i).toInt ≤ (fI + cI).toInt + 0
            omega
          · unfold q9EXok
            show q9exop O 0 (q9ev _ f) (q9ev _ ((q9tE x).length, 0)) = some (q9upL r (q9tE x).length _ ((q9tE x).length + 2))
            rw [q9evU0, q9upL_agr.ev q9c8, f1, q9rU2]
            rfl
          · unfold q9EXok
            show q9exop O 0 (q9ev _ ((q9tE x).length + 2, 0)) (q9ev _ ((q9tE x).length + 1, 0)) = some (q9upL r (q9tE x).length _ t)
            rw [q9evU2, q9evU1, q9upL_lt t2, t1]
            show some (Value.int (fI + Int32.ofInt i + Int32.ofInt c')) = _
            rw [show fI + Int32.ofInt i + Int32.ofInt c' = fI + cI from Int32.toInt_inj.mp (by rw [q9n_add (by omega) (by omega), hfl, q9iC, hts]; omega)]
        · cases h
      · cases h
    · cases h
  · cases h
/-- a sum whose parts have moved against each other -/
noncomputable def q9mvX_o (a b a2 b2 : q9AV) (dl : Int) : q9RF := fun x => match (q9tX x).find? (fun q => q.1 == 0 && (q.2.1 == a && q.2.2.1 == b)) with
  | some q => if q9okAV (q9tE x) a2 && (q9okAV (q9tE x) b2 && (q9isInt x a && (q9isInt x b && (q9isInt x a2 && (q9isInt x b2 && (q9leB x a2 a dl && (q9leB x a a2 (-dl) && (q9leB x b2 b (-dl) && q9leB x b b2 dl)))))))) then some [q9addS x [] [] [] [] [(0, a2, b2, q.2.2.2)]] else none
  | none => none
noncomputable def q9mvX (a b a2 b2 : q9AV) (dl : Int) : q9RF := fun x => match q9fi9 (q9tX x) (fun q => q9nd9 (q9eq9 (q.1) (0)) ((q9nd9 (q9eq9 (q.2.1) (a)) (q9eq9 (q.2.2.1) (b))))) with
  | some q => if q9nd9 (q9okAV (q9tE x) a2) ((q9nd9 (q9okAV (q9tE x) b2) ((q9nd9 (q9isInt x a) ((q9nd9 (q9isInt x b) ((q9nd9 (q9isInt x a2) ((q9nd9 (q9isInt x b2) ((q9nd9 (q9leB x a2 a dl) ((q9nd9 (q9leB x a a2 (-dl)) ((q9nd9 (q9leB x b2 b (-dl)) (q9leB x b b2 dl))))))))))))))))) then some [q9addS x [] [] [] [] [(0, a2, b2, q.2.2.2)]] else none
  | none => none
theorem q9mvX_oq : @q9mvX = @q9mvX_o := by
  delta q9mvX q9mvX_o
  simp only [q9ge9_eq, q9fi9_eq, q9an9_eq, q9al9_eq, q9flt9_eq, q9el9_eq, q9set9_eq, q9ln9_eq, q9gD9_eq, q9ap9_eq, q9eq9_N, q9eq9_I, q9eq9_A, q9eq9_E, q9eq9_OI, q9eq9_ON, q9eq9_OA, q9eq9_L, q9eq9_S, q9de9_N, q9de9_I, q9de9_A, q9le9_N, q9le9_I, q9lt9_N, q9lt9_I, q9de9_E, q9de9_OI, q9de9_ON, q9de9_OA, q9de9_L, q9nd9_eq, q9or9_eq, Bool.cond_decide]
theorem q9mvX_ok (a b a2 b2 : q9AV) (dl : Int) : q9RFok O (q9mvX a b a2 b2 dl) := by
  intro nL g cT A x r G ws ls st xs hw hM hT hD h
  (rewrite [q9mvX_oq] at h; unfold q9mvX_o at h)
  split at h
  · rename_i q hq
    split at h
    · rename_i hc
      simp only [Bool.and_eq_true] at hc
      obtain ⟨c1, c2, c3, c4, c5, c6, c7, q9c8, c9, c10⟩ := hc
      cases h
      have q1 := List.find?_some hq
      have q2 := List.mem_of_find?_eq_some hq
      simp only [Bool.and_eq_true, beq_iff_eq] at q1
      obtain ⟨w1, w2, w3⟩ := q9wf_X hw q q2
      rw [q1.2.1] at w1
      rw [q1.2.2] at w2
      obtain ⟨aI, a1⟩ := q9isInt_ok hM.2.2.2.1 w1 c3
      obtain ⟨bI, b1⟩ := q9isInt_ok hM.2.2.2.1 w2 c4
      obtain ⟨aJ, a3⟩ := q9isInt_ok hM.2.2.2.1 c1 c5
      obtain ⟨bJ, b3⟩ := q9isInt_ok hM.2.2.2.1 c2 c6
      have l1 := q9leB_ok hM c1 w1 c7
      have l2 := q9leB_ok hM w1 c1 q9c8
      have l3 := q9leB_ok hM c2 w2 c9
      have l4 := q9leB_ok hM w2 c2 c10
      rw [a1, a3] at l1 l2
      rw [b1, b3] at l3 l4
      have l1 : aJ.toInt ≤ aI.toInt + dl := l1
      have l2 : aI.toInt ≤ aJ.toInt + -dl := l2
      have l3 : bJ.toInt ≤ bI.toInt + -dl := l3
      have l4 : bI.toInt ≤ bJ.toInt + dl := l4
      have h3 := hM.2.2.2.2.2.2.2 q q2
      unfold q9EXok at h3
      rw [q1.1, q1.2.1, q1.2.2, a1, b1] at h3
      have hs : aJ + bJ = aI + bI := Int32.toInt_inj.mp (by rw [Int32.toInt_add, Int32.toInt_add, show aJ.toInt + bJ.toInt = aI.toInt + bI.toInt by omega])
      refine q9rf_add hM hw [] List.mem_cons_self q9ty_nil q9no_mem q9no_mem q9no_mem (q9one_mem ?_)
      unfold q9EXok
      show q9exop O 0 (q9ev _ a2) (q9ev _ b2) = some (q9upL r (q9tE x).length [] q.2.2.2)
      rw [q9upL_agr.ev c1, q9upL_agr.ev c2, a3, b3, q9upL_lt w3]
      show some (Value.int (aJ + bJ)) = _
      rw [hs]
      exact h3
    · cases h
  · cases h
/-- a sum of numbers, as comparisons -/
noncomputable def q9sumC_o (a b : q9AV) : q9RF := fun x => match (q9tX x).find? (fun q => q.1 == 0 && (q.2.1 == a && q.2.2.1 == b)), q9num (q9tE x) a, q9num (q9tE x) b with
  | some q, some (0, l1, h1), some (0, l2, h2) => if -2147483648 ≤ l1 + l2 ∧ h1 + h2 ≤ 2147483647 then some [q9addS x [] [] [] [(q.2.2.2, a.1, a.2 + h2), (a.1, q.2.2.2, -a.2 - l2), (q.2.2.2, b.1, b.2 + h1), (b.1, q.2.2.2, -b.2 - l1)] []] else none
  | _, _, _ => none
noncomputable def q9sumC (a b : q9AV) : q9RF := fun x => match q9fi9 (q9tX x) (fun q => q9nd9 (q9eq9 (q.1) (0)) ((q9nd9 (q9eq9 (q.2.1) (a)) (q9eq9 (q.2.2.1) (b))))), q9num (q9tE x) a, q9num (q9tE x) b with
  | some q, some (0, l1, h1), some (0, l2, h2) => if -2147483648 ≤ l1 + l2 ∧ h1 + h2 ≤ 2147483647 then some [q9addS x [] [] [] [(q.2.2.2, a.1, a.2 + h2), (a.1, q.2.2.2, -a.2 - l2), (q.2.2.2, b.1, b.2 + h1), (b.1, q.2.2.2, -b.2 - l1)] []] else none
  | _, _, _ => none
theorem q9sumC_oq : @q9sumC = @q9sumC_o := by
  delta q9sumC q9sumC_o
  simp only [q9ge9_eq, q9fi9_eq, q9an9_eq, q9al9_eq, q9flt9_eq, q9el9_eq, q9set9_eq, q9ln9_eq, q9gD9_eq, q9ap9_eq, q9eq9_N, q9eq9_I, q9eq9_A, q9eq9_E, q9eq9_OI, q9eq9_ON, q9eq9_OA, q9eq9_L, q9eq9_S, q9de9_N, q9de9_I, q9de9_A, q9le9_N, q9le9_I, q9lt9_N, q9lt9_I, q9de9_E, q9de9_OI, q9de9_ON, q9de9_OA, q9de9_L, q9nd9_eq, q9or9_eq, Bool.cond_decide]
theorem q9sumC_ok (a b : q9AV) : q9RFok O (q9sumC a b) := by
  intro nL g cT A x r G ws ls st xs hw hM hT hD h
  (rewrite [q9sumC_oq] at h; unfold q9sumC_o at h)
  split at h
  · rename_i q l1 h1 l2 h2 hq na nb
    split at h
    · rename_i hc
      cases h
      have q1 := List.find?_some hq
      have q2 := List.mem_of_find?_eq_some hq
      simp only [Bool.and_eq_true, beq_iff_eq] at q1
      obtain ⟨w1, w2, w3⟩ := q9wf_X hw q q2
      rw [q1.2.1] at w1
      rw [q1.2.2] at w2
      obtain ⟨aI, a1, a2, a3, a4⟩ := q9num_int hM.2.2.2.1 w1 na
      obtain ⟨bI, b1, b2, b3, b4⟩ := q9num_int hM.2.2.2.1 w2 nb
      have h3 := hM.2.2.2.2.2.2.2 q q2
      unfold q9EXok at h3
      rw [q1.1, q1.2.1, q1.2.2, a1, b1] at h3
      have h3 : r q.2.2.2 = .int (aI + bI) := (Option.some.inj h3).symm
      have hs := q9n_add (x := aI) (y := bI) (by omega) (by omega)
      refine q9rf_add hM hw [] List.mem_cons_self q9ty_nil q9no_mem q9no_mem (q9cons_mem ?_ (q9cons_mem ?_ (q9cons_mem ?_ (q9one_mem ?_)))) q9no_mem
      · unfold q9FCok
        rw [q9upL_agr.iv w3, q9upL_agr.iv (q9okAV_lt w1), q9iv_of h3]
        show _ ≤ q9iv r a.1 + (a.2 + h2)
        omega
      · unfold q9FCok
        rw [q9upL_agr.iv w3, q9upL_agr.iv (q9okAV_lt w1), q9iv_of h3]
        show q9iv r a.1 ≤ _ + (-a.2 - l2)
        omega
      · unfold q9FCok
        rw [q9upL_agr.iv w3, q9upL_agr.iv (q9okAV_lt w2), q9iv_of h3]
        show _ ≤ q9iv r b.1 + (b.2 + h1)
        omega
      · unfold q9FCok
        rw [q9upL_agr.iv w3, q9upL_agr.iv (q9okAV_lt w2), q9iv_of h3]
        show q9iv r b.1 ≤ _ + (-b.2 - l1)
        omega
    · cases h
  · cases h
/-- where a stretch is at its end, nothing is q9left -/
noncomputable def q9endC_o (s : q9AV) (d : Nat) : q9RF := fun x => match (q9tA x).find? (fun z => q9isCn x s (1 + d) 60 z && q9leB x z.2.2 s (1000 * ((1 + d : Nat) : Int))), q9num (q9tE x) s with
  | some z, some (0, _, _) => if d ≤ 5 ∧ q9okAV (q9tE x) s = true then (match q9cutHi (q9tE x) z.1 0 with
    | some E => some [q9sE x E]
    | none => some []) else none
  | _, _ => none
noncomputable def q9endC (s : q9AV) (d : Nat) : q9RF := fun x => match q9fi9 (q9tA x) (fun z => q9nd9 (q9isCn x s (1 + d) 60 z) (q9leB x z.2.2 s (1000 * ((1 + d : Nat) : Int)))), q9num (q9tE x) s with
  | some z, some (0, _, _) => if d ≤ 5 ∧ q9okAV (q9tE x) s = true then (match q9cutHi (q9tE x) z.1 0 with
    | some E => some [q9sE x E]
    | none => some []) else none
  | _, _ => none
theorem q9endC_oq : @q9endC = @q9endC_o := by
  delta q9endC q9endC_o
  simp only [q9ge9_eq, q9fi9_eq, q9an9_eq, q9al9_eq, q9flt9_eq, q9el9_eq, q9set9_eq, q9ln9_eq, q9gD9_eq, q9ap9_eq, q9eq9_N, q9eq9_I, q9eq9_A, q9eq9_E, q9eq9_OI, q9eq9_ON, q9eq9_OA, q9eq9_L, q9eq9_S, q9de9_N, q9de9_I, q9de9_A, q9le9_N, q9le9_I, q9lt9_N, q9lt9_I, q9de9_E, q9de9_OI, q9de9_ON, q9de9_OA, q9de9_L, q9nd9_eq, q9or9_eq, Bool.cond_decide]
theorem q9cut0 {nL : Nat} {g : List Value} {x : q9ST} {r : Nat → Value} {G : q9GH} {ws : va_W} {ls : Array Slot} {st : List Value} {xs : List q9ST} (hM : q9SM O nL g x r G ws ls st) {k : Nat} {t : q9ET} (ht : (q9tE x)[k]? = some t) (h1 : t.1 ≤ 1) (h0 : q9iv r k ≤ 0) (h : (match q9cutHi (q9tE x) k 0 with | some E => some [q9sE x E] | none => some []) = some xs) : ∃ x' ∈ xs, ∃ r' : Nat → Value, q9agr (q9tE x).length r r' ∧ (q9tE x).length ≤ (q9tE x').length ∧ q9tN x' = q9tN x ∧ q9tM x' = q9tM x ∧ q9SM O nL g x' r' G ws ls st := by
  obtain ⟨E, e1, e2, e3, -⟩ := q9cutHi_ok hM.2.2.2.1 ht (by omega) h0
  rw [e1] at h
  cases h
  exact ⟨_, List.mem_cons_self, r, q9agr.rf, Nat.le_of_eq e3.symm, rfl, rfl, hM.E e2⟩
theorem q9endC_ok (s : q9AV) (d : Nat) : q9RFok O (q9endC s d) := by
  intro nL g cT A x r G ws ls st xs hw hM hT hD h
  (rewrite [q9endC_oq] at h; unfold q9endC_o at h)
  split at h
  · rename_i z l h8 hz hn
    split at h
    · rename_i hc
      obtain ⟨c1, c3⟩ := hc
      have hzm := List.mem_of_find?_eq_some hz
      have hz9 := List.find?_some hz
      rw [Bool.and_eq_true] at hz9
      obtain ⟨y, y1, y2, y3, y4⟩ := q9num_int hM.2.2.2.1 c3 hn
      obtain ⟨q, a, n, fs, M, c, w, e, k1, k2, k3, k4, k5, k6, k7, k8, k9, k10, k11⟩ := q9isCn_ok (t := 1 + d) hM hw hzm c3 y1 (by omega) hz9.1
      have hle := q9leB_ok hM (q9wf_A hw z hzm).2.2 c3 hz9.2
      rw [y1, k6] at hle
      have hle : w.toInt ≤ y.toInt + 1000 * ((1 + d : Nat) : Int) := hle
      have hyc : y.toNatClampNeg = y.toInt.toNat := rfl
      rw [if_pos (by omega)] at k11
      have hc0 : c = 0 := by
        rcases k11.cut with ⟨-, h9⟩ | ⟨zl, c', z3, z4, -⟩
        · exact h9
        · omega
      have hty : ∃ t : q9ET, (q9tE x)[z.1]? = some t ∧ t.1 ≤ 1 := by
        have h9 := hz9.1
        (rewrite [q9isCn_oq] at h9; unfold q9isCn_o at h9)
        split at h9
        · rename_i t ht
          rw [Bool.and_eq_true, decide_eq_true_eq] at h9
          have h9 := h9.1
          (rewrite [q9famT_oq] at h9; unfold q9famT_o at h9)
          split at h9
          · rename_i h1
            exact ⟨t, ht, h1⟩
          · cases h9
        · cases h9
      obtain ⟨t, t1, t2⟩ := hty
      exact q9cut0 hM t1 t2 (by rw [q9iv_nV k4]; omega) h
    · cases h
  · cases h
/-- where a line has had all its turns, nothing of it is q9left -/
noncomputable def q9endR_o (o : Nat) (s k : q9AV) (d : Nat) : q9RF := fun x => match (q9tE x)[o]?, q9mnA x o s, (q9tA x).find? (q9isRl x s k d) with
  | some (2, 12, _), some m, some z => (match q9num (q9tE x) s, q9num (q9tE x) k with
    | some (0, _, _), some (0, _, _) => if q9okAV (q9tE x) s = true ∧ q9okAV (q9tE x) k = true ∧ q9leB x m k 0 = true then (match q9cutHi (q9tE x) z.1 0 with
      | some E => some [q9sE x E]
      | none => some []) else none
    | _, _ => none)
  | _, _, _ => none
noncomputable def q9endR (o : Nat) (s k : q9AV) (d : Nat) : q9RF := fun x => match (q9ge9 (q9tE x) (o)), q9mnA x o s, q9fi9 (q9tA x) (q9isRl x s k d) with
  | some (2, 12, _), some m, some z => (match q9num (q9tE x) s, q9num (q9tE x) k with
    | some (0, _, _), some (0, _, _) => if q9okAV (q9tE x) s = true ∧ q9okAV (q9tE x) k = true ∧ q9leB x m k 0 = true then (match q9cutHi (q9tE x) z.1 0 with
      | some E => some [q9sE x E]
      | none => some []) else none
    | _, _ => none)
  | _, _, _ => none
theorem q9endR_oq : @q9endR = @q9endR_o := by
  delta q9endR q9endR_o
  simp only [q9ge9_eq, q9fi9_eq, q9an9_eq, q9al9_eq, q9flt9_eq, q9el9_eq, q9set9_eq, q9ln9_eq, q9gD9_eq, q9ap9_eq, q9eq9_N, q9eq9_I, q9eq9_A, q9eq9_E, q9eq9_OI, q9eq9_ON, q9eq9_OA, q9eq9_L, q9eq9_S, q9de9_N, q9de9_I, q9de9_A, q9le9_N, q9le9_I, q9lt9_N, q9lt9_I, q9de9_E, q9de9_OI, q9de9_ON, q9de9_OA, q9de9_L, q9nd9_eq, q9or9_eq, Bool.cond_decide]
theorem q9endR_ok (o : Nat) (s k : q9AV) (d : Nat) : q9RFok O (q9endR o s k d) := by
  intro nL g cT A x r G ws ls st xs hw hM hT hD h
  (rewrite [q9endR_oq] at h; unfold q9endR_o at h)
  split at h
  · rename_i h9 m z ho hm hz
    split at h
    · rename_i sl q9sh kl kh hns hnk
      split at h
      · rename_i hc
        obtain ⟨c3, c4, c7⟩ := hc
        have hzm := List.mem_of_find?_eq_some hz
        have hz9 : q9isRl x s k d z = true := by have := List.find?_some hz; exact this
        obtain ⟨y, y1, -⟩ := q9num_int hM.2.2.2.1 c3 hns
        obtain ⟨kI, q1, -⟩ := q9num_int hM.2.2.2.1 c4 hnk
        obtain ⟨q, a, n, fs, M, c, k1, k2, k3, k4, k5, k6, k7, k8, k9⟩ := q9isRl_ok hM hw hzm c3 c4 y1 q1 hz9
        obtain ⟨m1, m2⟩ := q9mnA_ok hM hw hT hD ho k1 k2 k3 c3 y1 hm
        have hle := q9leB_ok hM m1 c4 c7
        rw [q1, m2] at hle
        have hle : (M 23 y.toNatClampNeg).toInt ≤ kI.toInt + 0 := hle
        obtain ⟨r1, i, r2, r3, r4⟩ := k9
        have hc0 : c = 0 := by
          rw [r4, show (M 23 y.toNatClampNeg).toInt - (kI.toInt.toNat : Int) = 0 by omega, Int.zero_mul]
        have hty : ∃ t : q9ET, (q9tE x)[z.1]? = some t ∧ t.1 ≤ 1 := by
          have h9 := hz9
          (rewrite [q9isRl_oq] at h9; unfold q9isRl_o at h9)
          rw [Bool.and_eq_true] at h9
          have h9 := h9.1
          (rewrite [q9isCn_oq] at h9; unfold q9isCn_o at h9)
          split at h9
          · rename_i t ht
            rw [Bool.and_eq_true, decide_eq_true_eq] at h9
            have h9 := h9.1
            (rewrite [q9famT_oq] at h9; unfold q9famT_o at h9)
            split at h9
            · rename_i h1
              exact ⟨t, ht, h1⟩
            · cases h9
          · cases h9
        obtain ⟨t, t1, t2⟩ := hty
        exact q9cut0 hM t1 t2 (by rw [q9iv_nV k4]; omega) h
      · cases h
    · cases h
  · cases h
