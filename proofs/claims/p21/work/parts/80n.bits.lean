variable {O : ORC}
/-! repeats that are being read -/
/-- a difference is at least so much -/
noncomputable def q9difR_o (v : q9AV) (dl : Int) : q9RF := fun x => match (q9tX x).find? (fun q => q.1 == 1 && (q.2.2.2, (0 : Int)) == v) with
  | some q => (match q9num (q9tE x) q.2.1, q9num (q9tE x) q.2.2.1, (q9tE x)[v.1]? with
    | some (0, l1, h1), some (0, l2, h2), some t => if q9leB x q.2.2.1 q.2.1 (-dl) = true ∧ -2147483648 ≤ l1 - h2 ∧ h1 - l2 ≤ 2147483647 ∧ t.1 ≤ 1 then
        (match q9cutLo (q9tE x) v.1 dl with
        | some E => some [q9sE x E]
        | none => some []) else none
    | _, _, _ => none)
  | none => none
noncomputable def q9difR (v : q9AV) (dl : Int) : q9RF := fun x => match q9fi9 (q9tX x) (fun q => q9nd9 (q9eq9 (q.1) (1)) (q9eq9 ((q.2.2.2, (0 : Int))) (v))) with
  | some q => (match q9num (q9tE x) q.2.1, q9num (q9tE x) q.2.2.1, (q9ge9 (q9tE x) (v.1)) with
    | some (0, l1, h1), some (0, l2, h2), some t => if q9leB x q.2.2.1 q.2.1 (-dl) = true ∧ -2147483648 ≤ l1 - h2 ∧ h1 - l2 ≤ 2147483647 ∧ t.1 ≤ 1 then
        (match q9cutLo (q9tE x) v.1 dl with
        | some E => some [q9sE x E]
        | none => some []) else none
    | _, _, _ => none)
  | none => none
theorem q9difR_oq : @q9difR = @q9difR_o := by
  delta q9difR q9difR_o
  simp only [q9ge9_eq, q9fi9_eq, q9an9_eq, q9al9_eq, q9flt9_eq, q9el9_eq, q9set9_eq, q9ln9_eq, q9gD9_eq, q9ap9_eq, q9eq9_N, q9eq9_I, q9eq9_A, q9eq9_E, q9eq9_OI, q9eq9_ON, q9eq9_OA, q9eq9_L, q9eq9_S, q9de9_N, q9de9_I, q9de9_A, q9le9_N, q9le9_I, q9lt9_N, q9lt9_I, q9de9_E, q9de9_OI, q9de9_ON, q9de9_OA, q9de9_L, q9nd9_eq, q9or9_eq, Bool.cond_decide]
theorem q9difR_ok (v : q9AV) (dl : Int) : q9RFok O (q9difR v dl) := by
  intro nL g cT A x r G ws ls st xs hw hM hT hD h
  (rewrite [q9difR_oq] at h; unfold q9difR_o at h)
  split at h
  · rename_i q hq
    split at h
    · rename_i l1 h1 l2 h2 t na nb ht
      split at h
      · rename_i hc
        obtain ⟨c1, c2, c3, c4⟩ := hc
        have q1 := List.find?_some hq
        have q2 := List.mem_of_find?_eq_some hq
        simp only [Bool.and_eq_true, beq_iff_eq] at q1
        obtain ⟨w1, w2, w3⟩ := q9wf_X hw q q2
        obtain ⟨U, u1, -, u3, u4⟩ := q9num_int hM.2.2.2.1 w1 na
        obtain ⟨V, v1, -, v3, v4⟩ := q9num_int hM.2.2.2.1 w2 nb
        have hle := q9leB_ok hM w2 w1 c1
        rw [u1, v1] at hle
        have hle : V.toInt ≤ U.toInt + -dl := hle
        have hXX := hM.2.2.2.2.2.2.2 q q2
        unfold q9EXok at hXX
        rw [q1.1, u1, v1] at hXX
        have hXX : r q.2.2.2 = .int (U - V) := (Option.some.inj hXX).symm
        have hv : v.1 = q.2.2.2 := by rw [← q1.2]
        have hsub : (U - V).toInt = U.toInt - V.toInt := q9n_sub (by omega) (by omega)
        have hiv : dl ≤ q9iv r v.1 := by
          rw [hv, q9iv_of hXX]
          omega
        obtain ⟨E, e1, e2, e3, -⟩ := q9cutLo_ok hM.2.2.2.1 ht (by omega) hiv
        rw [e1] at h
        cases h
        exact ⟨_, List.mem_cons_self, r, q9agr.rf, Nat.le_of_eq e3.symm, rfl, rfl, hM.E e2⟩
      · cases h
    · cases h
  · cases h
theorem q9STK.snoc {M : q9LM} {s : Nat} {z : Int} (hs : s < q9enN M s) : ∀ (b c : Nat), q9STK M b c s → q9lnP M (q9CNT M) (4 - b) s z → q9STK M b c (q9enN M s)
  | 0, c, ⟨c', h⟩, hz => ⟨_, h.snoc hs hz⟩
  | b + 1, c, ⟨h1, h2, c', h3⟩, hz => ⟨h1, h2, _, h3.snoc hs (by rw [show 3 - b = 4 - (b + 1) by omega]; exact hz)⟩
/-- that of what is being read -/
noncomputable def q9isSt_o (x : q9ST) (e : q9AV) (z : Nat × q9AV × q9AV) : Bool := match (q9tE x)[z.1]? with
  | some t => decide (q9famT t = some 0) && (decide (t.1 = 1) && (match q9num (q9tE x) z.2.2 with
    | some (0, l, h) => decide (19000 ≤ l) && (decide (h ≤ 19060) && (q9leB x z.2.2 e 19000 && q9leB x e z.2.2 (-19000)))
    | _ => false))
  | none => false
noncomputable def q9isSt (x : q9ST) (e : q9AV) (z : Nat × q9AV × q9AV) : Bool := match (q9ge9 (q9tE x) (z.1)) with
  | some t => q9nd9 (decide (q9famT t = some 0)) ((q9nd9 ((q9de9 (t.1) (1))) ((match q9num (q9tE x) z.2.2 with
    | some (0, l, h) => q9nd9 ((q9le9 (19000) (l))) ((q9nd9 ((q9le9 (h) (19060))) ((q9nd9 (q9leB x z.2.2 e 19000) (q9leB x e z.2.2 (-19000))))))
    | _ => false))))
  | none => false
theorem q9isSt_oq : @q9isSt = @q9isSt_o := by
  delta q9isSt q9isSt_o
  simp only [q9ge9_eq, q9fi9_eq, q9an9_eq, q9al9_eq, q9flt9_eq, q9el9_eq, q9set9_eq, q9ln9_eq, q9gD9_eq, q9ap9_eq, q9eq9_N, q9eq9_I, q9eq9_A, q9eq9_E, q9eq9_OI, q9eq9_ON, q9eq9_OA, q9eq9_L, q9eq9_S, q9de9_N, q9de9_I, q9de9_A, q9le9_N, q9le9_I, q9lt9_N, q9lt9_I, q9de9_E, q9de9_OI, q9de9_ON, q9de9_OA, q9de9_L, q9nd9_eq, q9or9_eq, Bool.cond_decide]
theorem q9isSt_ok {nL : Nat} {g : List Value} {x : q9ST} {r : Nat → Value} {G : q9GH} {ws : va_W} {ls : Array Slot} {st : List Value} (hM : q9SM O nL g x r G ws ls st) (hw : q9wfB x = true) {z : Nat × q9AV × q9AV} (hz : z ∈ q9tA x) {e : q9AV} (he : q9okAV (q9tE x) e = true) {y : Int32} (hy : q9ev r e = .int y) (h : q9isSt x e z = true) :
    ∃ (q a n : Nat) (fs : List Value) (M : q9LM) (c : Int64) (b : Int32), G[q]? = some (a, 12, n) ∧ ws[q]? = some (a, .inr (12, fs)) ∧ (∀ y ∈ q9jF1, ∃ (i b k n' : Nat) (cA : ClassId), fs[y.1]? = some (.ref b) ∧ G[i]? = some (b, y.2, k) ∧ ws[i]? = some (b, .inl (cA, n', .inl (M y.1)))) ∧
      r z.1 = .long c ∧ 0 ≤ c.toInt ∧ q9ev r z.2.1 = .int b ∧ 0 ≤ b.toInt ∧ 0 ≤ y.toInt ∧ y.toInt ≤ 60 ∧ q9STK M b.toInt.toNat c.toInt.toNat y.toInt.toNat := by
  (rewrite [q9isSt_oq] at h; unfold q9isSt_o at h)
  split at h
  · rename_i t ht
    rw [Bool.and_eq_true, Bool.and_eq_true, decide_eq_true_eq, decide_eq_true_eq] at h
    obtain ⟨h1, h2, h3⟩ := h
    split at h3
    · rename_i lo hi hn
      simp only [Bool.and_eq_true, decide_eq_true_eq] at h3
      obtain ⟨h3, h4, h5, h6⟩ := h3
      obtain ⟨q, a, n, fs, M, c, b, w, nn, k1, k2, k3, k4, k5, k6, k7, k8, k9, -⟩ := q9ja_of hM hz ht h1
      have hw3 := q9wf_A hw z hz
      obtain ⟨-, w2, w3⟩ := q9num_iv hM.2.2.2.1 hw3.2.2 hn k6
      have l1 := q9leB_ok hM hw3.2.2 he h5
      have l2 := q9leB_ok hM he hw3.2.2 h6
      rw [k6, hy] at l1 l2
      have l1 : w.toInt ≤ y.toInt + 19000 := l1
      have l2 : y.toInt ≤ w.toInt + -19000 := l2
      rw [q9JP_st (k9 rfl) (by omega)] at k8
      rw [q9jFc_pos (Int.le_refl 0)] at k3
      obtain ⟨tk, tlo, thi⟩ := t
      have h2 : tk = 1 := h2
      subst h2
      obtain ⟨cL, c1, -⟩ := hM.2.2.2.1 _ _ ht
      have c2 : cL.toInt = c := q9nV_long k4 c1
      refine ⟨q, a, n, fs, M, cL, b, k1, k2, k3, c1, by rw [c2]; exact k9 rfl, k5, k8.1, by omega, by omega, ?_⟩
      rw [c2, show y.toInt.toNat = (w.toInt - 19000).toNat by omega]
      exact k8.2
    · cases h3
  · cases h
theorem q9st_mk {r : Nat → Value} {G : q9GH} {ws : va_W} {q a n : Nat} {fs : List Value} {M : q9LM} (h1 : G[q]? = some (a, 12, n)) (h2 : ws[q]? = some (a, .inr (12, fs))) (h3 : ∀ y ∈ q9jF1, ∃ (i b k n' : Nat) (cA : ClassId), fs[y.1]? = some (.ref b) ∧ G[i]? = some (b, y.2, k) ∧ ws[i]? = some (b, .inl (cA, n', .inl (M y.1))))
    {z : Nat × q9AV × q9AV} {c : Int} {b w : Int32} {e : Nat} (k1 : q9nV (r z.1) = some c) (k2 : 0 ≤ c) (k3 : q9ev r z.2.1 = .int b) (k4 : q9ev r z.2.2 = .int w) (hb : 0 ≤ b.toInt) (hw : w.toInt = 19000 + (e : Int)) (hC : q9STK M b.toInt.toNat c.toNat e) : q9AMok O r G ws z := by
  refine .inr (.inl ⟨q, a, n, fs, M, c, b, w, 0, h1, h2, by rw [q9jFc_pos k2]; exact h3, k1, k3, k4, fun h => by omega, ?_⟩)
  rw [q9JP_st k2 (by omega)]
  refine ⟨hb, ?_⟩
  rw [show (w.toInt - 19000).toNat = e by omega]
  exact hC
/-- nothing is read yet -/
noncomputable def q9stN_o (o : Nat) (e : q9AV) : q9RF := fun x => match (q9tE x)[o]?, q9num (q9tE x) e with
  | some (2, 12, _), some (0, l, h) => if 0 ≤ l ∧ h ≤ 0 ∧ q9okAV (q9tE x) e = true ∧ q9okAV (q9tE x) (e.1, e.2 + 19000) = true ∧ q9isInt x e = true ∧ q9zeroB x = true then some [q9addS x [(1, 0, 0)] [] [((q9tE x).length, (0, 0), (e.1, e.2 + 19000))] [] []] else none
  | _, _ => none
noncomputable def q9stN (o : Nat) (e : q9AV) : q9RF := fun x => match (q9ge9 (q9tE x) (o)), q9num (q9tE x) e with
  | some (2, 12, _), some (0, l, h) => if 0 ≤ l ∧ h ≤ 0 ∧ q9okAV (q9tE x) e = true ∧ q9okAV (q9tE x) (e.1, e.2 + 19000) = true ∧ q9isInt x e = true ∧ q9zeroB x = true then some [q9addS x [(1, 0, 0)] [] [((q9ln9 (q9tE x)), (0, 0), (e.1, e.2 + 19000))] [] []] else none
  | _, _ => none
theorem q9stN_oq : @q9stN = @q9stN_o := by
  delta q9stN q9stN_o
  simp only [q9ge9_eq, q9fi9_eq, q9an9_eq, q9al9_eq, q9flt9_eq, q9el9_eq, q9set9_eq, q9ln9_eq, q9gD9_eq, q9ap9_eq, q9eq9_N, q9eq9_I, q9eq9_A, q9eq9_E, q9eq9_OI, q9eq9_ON, q9eq9_OA, q9eq9_L, q9eq9_S, q9de9_N, q9de9_I, q9de9_A, q9le9_N, q9le9_I, q9lt9_N, q9lt9_I, q9de9_E, q9de9_OI, q9de9_ON, q9de9_OA, q9de9_L, q9nd9_eq, q9or9_eq, Bool.cond_decide]
theorem q9stN_ok (o : Nat) (e : q9AV) : q9RFok O (q9stN o e) := by
  intro nL g cT A x r G ws ls st xs hw hM hT hD h
  (rewrite [q9stN_oq] at h; unfold q9stN_o at h)
  split at h
  · rename_i h9 l h' ho hn
    split at h
    · rename_i hc
      obtain ⟨c2, c3, c4, c5, c6, c7⟩ := hc
      cases h
      obtain ⟨q, a, n, fs, M, k0, k1, k2, k3⟩ := q9ja_obj hM hT ho
      have k3 : ∀ y ∈ q9jF1, _ := fun y hy => k3 y (List.mem_append_left _ hy)
      obtain ⟨y, y1, y2, y3, y4⟩ := q9num_int hM.2.2.2.1 c4 hn
      obtain ⟨w, w1, w2⟩ := q9ev_off hM.2.2.2.1 c4 c5 c6 y1
      refine q9rf_add hM hw [.long 0] List.mem_cons_self (q9ty_cons ⟨0, rfl, by decide, by decide⟩ q9ty_nil) q9no_mem (q9one_mem (q9st_mk (e := 0) (c := 0) (b := 0) (w := w) k1 k2 k3 ?_ (Int.le_refl 0) ?_ ?_ (by decide) (by omega) ⟨0, q9CNT.nil⟩)) q9no_mem q9no_mem
      · show q9nV (q9upL _ _ _ (q9tE x).length) = _
        rw [q9rU0]
        rfl
      · show q9ev _ (0, 0) = _
        rw [q9ev_agree (a := (0, 0)) (q9upL_lt (q9lt_of_E (q9zero_at c7))), q9zero_ev hM.2.2.2.1 (q9zero_at c7) 0]
        rfl
      · show q9ev _ (e.1, _) = _
        rw [q9upL_agr.ev c5]
        exact w1
    · cases h
  · cases h
/-- a repeat begins at s -/
noncomputable def q9stO_o (s : q9AV) : q9RF := fun x => match (q9tA x).find? (q9isSt x s), q9num (q9tE x) s with
  | some z, some (0, _, _) => (match q9num (q9tE x) z.2.1, (q9tE x)[z.1]? with
    | some (0, _, h), some (1, cl, ch) => if q9okAV (q9tE x) s = true ∧ h ≤ 3 ∧ 0 ≤ cl ∧ ch ≤ 1099511627776 ∧ q9okAV (q9tE x) (s.1, s.2 + 19001) = true ∧ q9okAV (q9tE x) (z.2.1.1, z.2.1.2 + 1) = true ∧ q9isInt x s = true ∧ q9isInt x z.2.1 = true then
        some [q9addS x [(1, 0, 64 * ch + 63)] [] [((q9tE x).length, (z.2.1.1, z.2.1.2 + 1), (s.1, s.2 + 19001))] [] [(40, (z.1, 0), s, (q9tE x).length)]] else none
    | _, _ => none)
  | _, _ => none
noncomputable def q9stO (s : q9AV) : q9RF := fun x => match q9fi9 (q9tA x) (q9isSt x s), q9num (q9tE x) s with
  | some z, some (0, _, _) => (match q9num (q9tE x) z.2.1, (q9ge9 (q9tE x) (z.1)) with
    | some (0, _, h), some (1, cl, ch) => if q9okAV (q9tE x) s = true ∧ h ≤ 3 ∧ 0 ≤ cl ∧ ch ≤ 1099511627776 ∧ q9okAV (q9tE x) (s.1, s.2 + 19001) = true ∧ q9okAV (q9tE x) (z.2.1.1, z.2.1.2 + 1) = true ∧ q9isInt x s = true ∧ q9isInt x z.2.1 = true then
        some [q9addS x [(1, 0, 64 * ch + 63)] [] [((q9ln9 (q9tE x)), (z.2.1.1, z.2.1.2 + 1), (s.1, s.2 + 19001))] [] [(40, (z.1, 0), s, (q9ln9 (q9tE x)))]] else none
    | _, _ => none)
  | _, _ => none
theorem q9stO_oq : @q9stO = @q9stO_o := by
  delta q9stO q9stO_o
  simp only [q9ge9_eq, q9fi9_eq, q9an9_eq, q9al9_eq, q9flt9_eq, q9el9_eq, q9set9_eq, q9ln9_eq, q9gD9_eq, q9ap9_eq, q9eq9_N, q9eq9_I, q9eq9_A, q9eq9_E, q9eq9_OI, q9eq9_ON, q9eq9_OA, q9eq9_L, q9eq9_S, q9de9_N, q9de9_I, q9de9_A, q9le9_N, q9le9_I, q9lt9_N, q9lt9_I, q9de9_E, q9de9_OI, q9de9_ON, q9de9_OA, q9de9_L, q9nd9_eq, q9or9_eq, Bool.cond_decide]
theorem q9stO_ok (s : q9AV) : q9RFok O (q9stO s) := by
  intro nL g cT A x r G ws ls st xs hw hM hT hD h
  (rewrite [q9stO_oq] at h; unfold q9stO_o at h)
  split at h
  · rename_i z l h' hz hn
    split at h
    · rename_i bl bh cl ch hnb hE
      split at h
      · rename_i hc
        obtain ⟨c1, c2, c3, c4, c5, c6, c7, q9c8⟩ := hc
        cases h
        have hzm := List.mem_of_find?_eq_some hz
        have hz9 : q9isSt x s z = true := by have := List.find?_some hz; exact this
        obtain ⟨y, y1, -⟩ := q9num_int hM.2.2.2.1 c1 hn
        obtain ⟨q, a, n, fs, M, cL, b, k1, k2, k3, k4, k5, k6, k7, k8, k9, k10⟩ := q9isSt_ok hM hw hzm c1 y1 hz9
        have hw3 := q9wf_A hw z hzm
        have hb := q9num_iv hM.2.2.2.1 hw3.2.1 hnb k6
        obtain ⟨u, u1, u2, u3⟩ := hM.2.2.2.1 _ _ hE
        rw [k4] at u1
        cases u1
        have u3 : cL.toInt ≤ ch := u3
        obtain ⟨ys, s1, s2⟩ := q9ev_off hM.2.2.2.1 c1 c5 c7 y1
        obtain ⟨yb, s3, s4⟩ := q9ev_off hM.2.2.2.1 hw3.2.1 c6 q9c8 k6
        have e64 : (64 : Int64).toInt = 64 := rfl
        have hm : (cL * 64).toInt = cL.toInt * 64 := by rw [q9m_mul (by rw [e64]; omega) (by rw [e64]; omega), e64]
        have hs : (cL * 64 + y.toInt64).toInt = cL.toInt * 64 + y.toInt := by rw [q9m_add (by rw [hm, Int32.toInt_toInt64]; omega) (by rw [hm, Int32.toInt_toInt64]; omega), hm, Int32.toInt_toInt64]
        refine q9rf_add hM hw [.long (cL * 64 + y.toInt64)] List.mem_cons_self (q9ty_cons ⟨_, rfl, by show (0 : Int) ≤ _; omega, by show _ ≤ 64 * ch + 63; omega⟩ q9ty_nil) q9no_mem (q9one_mem (q9st_mk (e := y.toInt.toNat + 1) (c := cL.toInt * 64 + y.toInt) (b := yb) (w := ys) k1 k2 k3 ?_ (by omega) ?_ ?_ (by omega) (by omega) ?_)) q9no_mem (q9one_mem ?_)
        · show q9nV (q9upL _ _ _ (q9tE x).length) = _
          rw [q9rU0]
          show some (cL * 64 + y.toInt64).toInt = _
          rw [hs]
        · show q9ev _ (z.2.1.1, _) = _
          rw [q9upL_agr.ev c6]
          exact s3
        · show q9ev _ (s.1, _) = _
          rw [q9upL_agr.ev c5]
          exact s1
        · rw [show yb.toInt.toNat = b.toInt.toNat + 1 by omega]
          have e1 : (cL.toInt * 64 + y.toInt).toNat / 64 = cL.toInt.toNat := by omega
          have e2 : (cL.toInt * 64 + y.toInt).toNat % 64 = y.toInt.toNat := by omega
          unfold q9STK
          rw [e1, e2]
          exact ⟨k10, by omega, 0, q9CNT.nil⟩
        · unfold q9EXok
          show q9exop O 40 (q9ev _ (z.1, 0)) (q9ev _ s) = some (q9upL r (q9tE x).length _ (q9tE x).length)
          rw [q9ev_agree (a := (z.1, 0)) (q9upL_lt hw3.1), q9ev_zero, k4, q9upL_agr.ev c1, y1, q9rU0]
          rfl
      · cases h
    · cases h
  · cases h
/-- a line is read, and what stands in it -/
theorem q9ln_lev {M : q9LM} {w : Int} {s b : Nat} (hl : q9lnOK M w s) (hi : (M 22 s).toInt ≠ 7 ∨ ∃ (d : Nat) (c' : Int), b = d + 1 ∧ q9CNT M d (s + 1) (q9enN M s) c') : ∃ z : Int, q9lnP M (q9CNT M) b s z := by
  obtain ⟨g0, g1, g2, g6, g7⟩ := hl
  by_cases h0 : (M 22 s).toInt = 0
  · have := g0 h0
    exact ⟨_, .inl ⟨.inl h0, this.1, this.2, rfl⟩⟩
  · by_cases h1 : (M 22 s).toInt = 1
    · have := g1 h1
      exact ⟨_, .inl ⟨.inr h1, this.1, this.2.1, rfl⟩⟩
    · by_cases h7 : (M 22 s).toInt = 7
      · have h78 := g7 h7
        rcases hi with hi | ⟨d, c', e1, e2⟩
        · exact absurd h7 hi
        · exact ⟨_, .inr (.inl ⟨h7, h78.1, h78.2, d, c', e1, e2, rfl⟩)⟩
      · exact ⟨0, .inr (.inr ⟨h0, h1, h7, rfl⟩)⟩
/-- a line that is no repeat is closed -/
noncomputable def q9stC_o (o : Nat) (s : q9AV) : q9RF := fun x => match (q9tE x)[o]?, q9enA x o s, (q9tA x).find? (q9isSt x s), (q9tA x).find? (fun z => q9isLn x z && q9leB x s z.2.1 (-1)) with
  | some (2, 12, _), some e, some z, some z2 => (match q9num (q9tE x) s, q9num (q9tE x) e with
    | some (0, _, _), some (0, _, he) => if q9okAV (q9tE x) s = true ∧ q9leB x s e (-1) = true ∧ he ≤ 60 ∧ q9okAV (q9tE x) (e.1, e.2 + 19000) = true ∧ q9isInt x e = true ∧ q9elB x o 22 s 0 6 = true then some [q9addS x [] [] [(z.1, z.2.1, (e.1, e.2 + 19000))] [] []] else none
    | _, _ => none)
  | _, _, _, _ => none
noncomputable def q9stC (o : Nat) (s : q9AV) : q9RF := fun x => match (q9ge9 (q9tE x) (o)), q9enA x o s, q9fi9 (q9tA x) (q9isSt x s), q9fi9 (q9tA x) (fun z => q9nd9 (q9isLn x z) (q9leB x s z.2.1 (-1))) with
  | some (2, 12, _), some e, some z, some z2 => (match q9num (q9tE x) s, q9num (q9tE x) e with
    | some (0, _, _), some (0, _, he) => if q9okAV (q9tE x) s = true ∧ q9leB x s e (-1) = true ∧ he ≤ 60 ∧ q9okAV (q9tE x) (e.1, e.2 + 19000) = true ∧ q9isInt x e = true ∧ q9elB x o 22 s 0 6 = true then some [q9addS x [] [] [(z.1, z.2.1, (e.1, e.2 + 19000))] [] []] else none
    | _, _ => none)
  | _, _, _, _ => none
theorem q9stC_oq : @q9stC = @q9stC_o := by
  delta q9stC q9stC_o
  simp only [q9ge9_eq, q9fi9_eq, q9an9_eq, q9al9_eq, q9flt9_eq, q9el9_eq, q9set9_eq, q9ln9_eq, q9gD9_eq, q9ap9_eq, q9eq9_N, q9eq9_I, q9eq9_A, q9eq9_E, q9eq9_OI, q9eq9_ON, q9eq9_OA, q9eq9_L, q9eq9_S, q9de9_N, q9de9_I, q9de9_A, q9le9_N, q9le9_I, q9lt9_N, q9lt9_I, q9de9_E, q9de9_OI, q9de9_ON, q9de9_OA, q9de9_L, q9nd9_eq, q9or9_eq, Bool.cond_decide]
theorem q9stC_ok (o : Nat) (s : q9AV) : q9RFok O (q9stC o s) := by
  intro nL g cT A x r G ws ls st xs hw hM hT hD h
  (rewrite [q9stC_oq] at h; unfold q9stC_o at h)
  split at h
  · rename_i h9 e0 z z2 ho he hz hz2
    split at h
    · rename_i sl q9sh el eh hn hne
      split at h
      · rename_i hc
        obtain ⟨c1, c2, c3, c4, c5, c6⟩ := hc
        cases h
        have hzm := List.mem_of_find?_eq_some hz
        have hz9 : q9isSt x s z = true := by have := List.find?_some hz; exact this
        have hm2 := List.mem_of_find?_eq_some hz2
        have hf2 := List.find?_some hz2
        rw [Bool.and_eq_true] at hf2
        obtain ⟨y, y1, -⟩ := q9num_int hM.2.2.2.1 c1 hn
        obtain ⟨q, a, n, fs, M, cL, b, k1, k2, k3, k4, k5, k6, k7, k8, k9, k10⟩ := q9isSt_ok hM hw hzm c1 y1 hz9
        obtain ⟨q', a', n2, fs', M', c2', u, w', j1, j2, j3, j4, j5, j6, j7, j8, j9⟩ := q9isLn_ok hM hw hm2 hf2.1
        obtain ⟨-, hMM⟩ := q9sameM hT hD j1 j2 j3 k1 k2 k3
        have hw3 := q9wf_A hw z hzm
        have l4 := q9leB_ok hM c1 (q9wf_A hw z2 hm2).2.1 hf2.2
        rw [y1, j6] at l4
        have l4 : y.toInt ≤ u.toInt + -1 := l4
        have hyc : y.toNatClampNeg = y.toInt.toNat := rfl
        have hln := j9.1 y.toNatClampNeg (by omega)
        have hln : q9lnOK M w'.toInt y.toNatClampNeg := by
          unfold q9lnOK at hln ⊢
          rw [hMM (22, 178) (by decide), hMM (23, 179) (by decide), hMM (25, 181) (by decide), hMM (26, 182) (by decide), hMM (27, 183) (by decide), hMM (28, 184) (by decide)]
          exact hln
        obtain ⟨e1, e2⟩ := q9enA_ok hM hw hT hD ho k1 k2 k3 c1 y1 he
        have l3 := q9leB_ok hM c1 e1 c2
        rw [y1, e2] at l3
        have l3 : y.toInt ≤ (M 29 y.toNatClampNeg).toInt + -1 := l3
        have hk := q9elB_ok hM hw hT hD ho k1 k2 k3 c1 y1 (j := 22) (cd := 178) (by decide) (by decide) c6
        obtain ⟨zl, hzl⟩ := q9ln_lev (b := 4 - b.toInt.toNat) hln (.inl (by omega))
        have hlt : y.toNatClampNeg < q9enN M y.toNatClampNeg := by
          unfold q9enN
          omega
        have hst := q9STK.snoc hlt _ _ k10 hzl
        obtain ⟨ye, s3, s4⟩ := q9ev_off hM.2.2.2.1 e1 c4 c5 e2
        refine q9rf_add hM hw [] List.mem_cons_self q9ty_nil q9no_mem (q9one_mem (q9st_mk (e := q9enN M y.toNatClampNeg) (c := cL.toInt) (b := b) (w := ye) k1 k2 k3 ?_ k5 ?_ ?_ k7 ?_ hst)) q9no_mem q9no_mem
        · show q9nV (q9upL r _ [] z.1) = _
          rw [q9upL_lt hw3.1, k4]
          rfl
        · show q9ev _ z.2.1 = _
          rw [q9upL_agr.ev hw3.2.1]
          exact k6
        · show q9ev _ (e0.1, _) = _
          rw [q9upL_agr.ev c4]
          exact s3
        · unfold q9enN
          omega
      · cases h
    · cases h
  · cases h
noncomputable def q9lngB_o (x : q9ST) (k : Nat) : Bool := match (q9tE x)[k]? with
  | some (1, cl, ch) => decide (0 ≤ cl) && decide (ch ≤ 1099511627776)
  | _ => false
noncomputable def q9lngB (x : q9ST) (k : Nat) : Bool := match (q9ge9 (q9tE x) (k)) with
  | some (1, cl, ch) => q9nd9 ((q9le9 (0) (cl))) ((q9le9 (ch) (1099511627776)))
  | _ => false
theorem q9lngB_oq : @q9lngB = @q9lngB_o := by
  delta q9lngB q9lngB_o
  simp only [q9ge9_eq, q9fi9_eq, q9an9_eq, q9al9_eq, q9flt9_eq, q9el9_eq, q9set9_eq, q9ln9_eq, q9gD9_eq, q9ap9_eq, q9eq9_N, q9eq9_I, q9eq9_A, q9eq9_E, q9eq9_OI, q9eq9_ON, q9eq9_OA, q9eq9_L, q9eq9_S, q9de9_N, q9de9_I, q9de9_A, q9le9_N, q9le9_I, q9lt9_N, q9lt9_I, q9de9_E, q9de9_OI, q9de9_ON, q9de9_OA, q9de9_L, q9nd9_eq, q9or9_eq, Bool.cond_decide]
/-- ahead of a repeat's closing: what stands ahead of it, what stands in it -/
noncomputable def q9stP_o (s e : q9AV) (d : Nat) : q9RF := fun x => match (q9tA x).find? (q9isSt x e) with
  | some z => (match (q9tX x).find? (fun q => q.1 == 40 && (q.2.2.1 == s && (q.2.1.2 == 0 && q.2.2.2 == z.1))), q9num (q9tE x) s, q9num (q9tE x) e, q9num (q9tE x) z.2.1 with
    | some q, some (0, sl, q9sh), some (0, _, _), some (0, bl, bh) => if d ≤ 3 ∧ q9okAV (q9tE x) s = true ∧ q9okAV (q9tE x) e = true ∧ 0 ≤ sl ∧ q9sh ≤ 60 ∧ q9okAV (q9tE x) (s.1, s.2 + 1) = true ∧ q9okAV (q9tE x) (s.1, s.2 + 19000) = true ∧ q9okAV (q9tE x) (e.1, e.2 + 1000 * ((10 - d : Nat) : Int)) = true ∧ q9isInt x e = true ∧ q9isInt x s = true ∧ bl = (d : Int) + 1 ∧ bh = (d : Int) + 1 ∧ q9okAV (q9tE x) (z.2.1.1, z.2.1.2 + -1) = true ∧ q9isInt x z.2.1 = true ∧ q9zeroB x = true ∧ q9lngB x q.2.1.1 = true then some [q9addS x [] [] [(q.2.1.1, (z.2.1.1, z.2.1.2 + -1), (s.1, s.2 + 19000)), (0, (s.1, s.2 + 1), (e.1, e.2 + 1000 * ((10 - d : Nat) : Int)))] [] []] else none
    | _, _, _, _ => none)
  | none => none
noncomputable def q9stP (s e : q9AV) (d : Nat) : q9RF := fun x => match q9fi9 (q9tA x) (q9isSt x e) with
  | some z => (match q9fi9 (q9tX x) (fun q => q9nd9 (q9eq9 (q.1) (40)) ((q9nd9 (q9eq9 (q.2.2.1) (s)) ((q9nd9 (q9eq9 (q.2.1.2) (0)) (q9eq9 (q.2.2.2) (z.1))))))), q9num (q9tE x) s, q9num (q9tE x) e, q9num (q9tE x) z.2.1 with
    | some q, some (0, sl, q9sh), some (0, _, _), some (0, bl, bh) => if d ≤ 3 ∧ q9okAV (q9tE x) s = true ∧ q9okAV (q9tE x) e = true ∧ 0 ≤ sl ∧ q9sh ≤ 60 ∧ q9okAV (q9tE x) (s.1, s.2 + 1) = true ∧ q9okAV (q9tE x) (s.1, s.2 + 19000) = true ∧ q9okAV (q9tE x) (e.1, e.2 + 1000 * ((10 - d : Nat) : Int)) = true ∧ q9isInt x e = true ∧ q9isInt x s = true ∧ bl = (d : Int) + 1 ∧ bh = (d : Int) + 1 ∧ q9okAV (q9tE x) (z.2.1.1, z.2.1.2 + -1) = true ∧ q9isInt x z.2.1 = true ∧ q9zeroB x = true ∧ q9lngB x q.2.1.1 = true then some [q9addS x [] [] [(q.2.1.1, (z.2.1.1, z.2.1.2 + -1), (s.1, s.2 + 19000)), (0, (s.1, s.2 + 1), (e.1, e.2 + 1000 * ((10 - d : Nat) : Int)))] [] []] else none
    | _, _, _, _ => none)
  | none => none
theorem q9stP_oq : @q9stP = @q9stP_o := by
  delta q9stP q9stP_o
  simp only [q9ge9_eq, q9fi9_eq, q9an9_eq, q9al9_eq, q9flt9_eq, q9el9_eq, q9set9_eq, q9ln9_eq, q9gD9_eq, q9ap9_eq, q9eq9_N, q9eq9_I, q9eq9_A, q9eq9_E, q9eq9_OI, q9eq9_ON, q9eq9_OA, q9eq9_L, q9eq9_S, q9de9_N, q9de9_I, q9de9_A, q9le9_N, q9le9_I, q9lt9_N, q9lt9_I, q9de9_E, q9de9_OI, q9de9_ON, q9de9_OA, q9de9_L, q9nd9_eq, q9or9_eq, Bool.cond_decide]
theorem q9stP_ok (s e0 : q9AV) (d : Nat) : q9RFok O (q9stP s e0 d) := by
  intro nL g cT A x r G ws ls st xs hw hM hT hD h
  (rewrite [q9stP_oq] at h; unfold q9stP_o at h)
  split at h
  · rename_i z hz
    split at h
    · rename_i qx sl q9sh el eh bl bh hqx hns hne hnb
      split at h
      · rename_i hc
        obtain ⟨c0, c1, ce, c2, c3, c4, c5, c6, c7, c7', q9c8, c8', c9, c10, cz, c11⟩ := hc
        cases h
        have hzm := List.mem_of_find?_eq_some hz
        have hz9 : q9isSt x e0 z = true := by have := List.find?_some hz; exact this
        have hw3 := q9wf_A hw z hzm
        obtain ⟨y, y1, y2, y3, y4⟩ := q9num_int hM.2.2.2.1 c1 hns
        obtain ⟨ev0, e2, -⟩ := q9num_int hM.2.2.2.1 ce hne
        obtain ⟨q, a, n, fs, M, cL, b, k1, k2, k3, k4, k5, k6, k7, k8, k9, k10⟩ := q9isSt_ok hM hw hzm ce e2 hz9
        have x1 := List.find?_some hqx
        have x2 := List.mem_of_find?_eq_some hqx
        simp only [Bool.and_eq_true, beq_iff_eq] at x1
        obtain ⟨x3, x4, x5, x6⟩ := x1
        obtain ⟨v1, v2, v3⟩ := q9wf_X hw qx x2
        (rewrite [q9lngB_oq] at c11; unfold q9lngB_o at c11)
        split at c11
        · rename_i cl ch hEc
          rw [Bool.and_eq_true, decide_eq_true_eq, decide_eq_true_eq] at c11
          obtain ⟨cc, u1, u2, u3⟩ := hM.2.2.2.1 _ _ hEc
          have u2 : cl ≤ cc.toInt := u2
          have u3 : cc.toInt ≤ ch := u3
          have hX := hM.2.2.2.2.2.2.2 qx x2
          unfold q9EXok at hX
          rw [x3, q9isSym x5, u1, x4, y1, x6, k4] at hX
          have hX : Value.long (cc * 64 + y.toInt64) = .long cL := Option.some.inj hX
          injection hX with hX
          have e64 : (64 : Int64).toInt = 64 := rfl
          have hm : (cc * 64).toInt = cc.toInt * 64 := by rw [q9m_mul (by rw [e64]; omega) (by rw [e64]; omega), e64]
          have hs : (cc * 64 + y.toInt64).toInt = cc.toInt * 64 + y.toInt := by rw [q9m_add (by rw [hm, Int32.toInt_toInt64]; omega) (by rw [hm, Int32.toInt_toInt64]; omega), hm, Int32.toInt_toInt64]
          rw [hX] at hs
          have hb := q9num_iv hM.2.2.2.1 hw3.2.1 hnb k6
          obtain ⟨yb, s5, s6⟩ := q9ev_off hM.2.2.2.1 hw3.2.1 c9 c10 k6
          obtain ⟨ye, s3, s4⟩ := q9ev_off hM.2.2.2.1 ce c6 c7 e2
          obtain ⟨ys, t1, t2⟩ := q9ev_off hM.2.2.2.1 c1 c4 c7' y1
          obtain ⟨yt, t3, t4⟩ := q9ev_off hM.2.2.2.1 c1 c5 c7' y1
          have hb1 : b.toInt.toNat = d + 1 := by omega
          rw [hb1] at k10
          unfold q9STK at k10
          have f1 : cL.toInt.toNat / 64 = cc.toInt.toNat := by omega
          have f2 : cL.toInt.toNat % 64 = y.toInt.toNat := by omega
          rw [f1, f2] at k10
          obtain ⟨k11, k12, c', k13⟩ := k10
          refine q9rf_add hM hw [] List.mem_cons_self q9ty_nil q9no_mem (q9cons_mem (q9st_mk (e := y.toInt.toNat) (c := cc.toInt) (b := yb) (w := yt) k1 k2 k3 ?_ (by omega) ?_ ?_ (by omega) (by omega) ?_) (q9one_mem (q9cn_mk (t := 10 - d) (e := ev0.toInt.toNat) (c := 0) (b := ys) (w := ye) k1 k2 k3 (q9nV0 hM.2.2.2.1 cz) (Int.le_refl 0) ?_ ?_ (by omega) (by omega) (by omega) (by omega) ?_))) q9no_mem q9no_mem
          · show q9nV (q9upL r _ [] qx.2.1.1) = _
            rw [q9upL_lt (q9lt_of_E hEc), u1]
            rfl
          · show q9ev _ (z.2.1.1, _) = _
            rw [q9upL_agr.ev c9]
            exact s5
          · show q9ev _ (s.1, _) = _
            rw [q9upL_agr.ev c5]
            exact t3
          · rw [show yb.toInt.toNat = d by omega]
            exact k11
          · show q9ev _ (s.1, s.2 + 1) = _
            rw [q9upL_agr.ev c4]
            exact t1
          · show q9ev _ (e0.1, _) = _
            rw [q9upL_agr.ev c6]
            exact s3
          · rw [if_neg (by omega), if_pos (by omega), show 10 - d - 7 = 3 - d by omega, show ys.toInt.toNat = y.toInt.toNat + 1 by omega]
            exact ⟨c', k13⟩
        · cases c11
      · cases h
    · cases h
  · cases h
/-- a repeat is closed -/
noncomputable def q9stQ_o (o : Nat) (s : q9AV) (d : Nat) : q9RF := fun x => match (q9tE x)[o]?, q9enA x o s, (q9tA x).find? (q9isSt x s), (q9tA x).find? (fun z => q9isLn x z && q9leB x s z.2.1 (-1)) with
  | some (2, 12, _), some e, some z, some z2 => (match q9num (q9tE x) s, q9num (q9tE x) e, q9num (q9tE x) z.2.1 with
    | some (0, _, _), some (0, _, he), some (0, bl, bh) => if d ≤ 3 ∧ q9okAV (q9tE x) s = true ∧ q9leB x s e (-1) = true ∧ he ≤ 60 ∧ q9okAV (q9tE x) (e.1, e.2 + 19000) = true ∧ q9isInt x e = true ∧ bl = (d : Int) ∧ bh = (d : Int) ∧ q9okAV (q9tE x) (s.1, s.2 + 1) = true ∧ q9isInt x s = true ∧
        (q9tA x).any (fun y => q9isCn x (s.1, s.2 + 1) (10 - d) 60 y && (q9leB x y.2.2 e (1000 * ((10 - d : Nat) : Int)) && q9leB x e y.2.2 (-(1000 * ((10 - d : Nat) : Int))))) = true then some [q9addS x [] [] [(z.1, z.2.1, (e.1, e.2 + 19000))] [] []] else none
    | _, _, _ => none)
  | _, _, _, _ => none
noncomputable def q9stQ (o : Nat) (s : q9AV) (d : Nat) : q9RF := fun x => match (q9ge9 (q9tE x) (o)), q9enA x o s, q9fi9 (q9tA x) (q9isSt x s), q9fi9 (q9tA x) (fun z => q9nd9 (q9isLn x z) (q9leB x s z.2.1 (-1))) with
  | some (2, 12, _), some e, some z, some z2 => (match q9num (q9tE x) s, q9num (q9tE x) e, q9num (q9tE x) z.2.1 with
    | some (0, _, _), some (0, _, he), some (0, bl, bh) => if d ≤ 3 ∧ q9okAV (q9tE x) s = true ∧ q9leB x s e (-1) = true ∧ he ≤ 60 ∧ q9okAV (q9tE x) (e.1, e.2 + 19000) = true ∧ q9isInt x e = true ∧ bl = (d : Int) ∧ bh = (d : Int) ∧ q9okAV (q9tE x) (s.1, s.2 + 1) = true ∧ q9isInt x s = true ∧
        q9an9 (q9tA x) (fun y => q9nd9 (q9isCn x (s.1, s.2 + 1) (10 - d) 60 y) ((q9nd9 (q9leB x y.2.2 e (1000 * ((10 - d : Nat) : Int))) (q9leB x e y.2.2 (-(1000 * ((10 - d : Nat) : Int))))))) = true then some [q9addS x [] [] [(z.1, z.2.1, (e.1, e.2 + 19000))] [] []] else none
    | _, _, _ => none)
  | _, _, _, _ => none
theorem q9stQ_oq : @q9stQ = @q9stQ_o := by
  delta q9stQ q9stQ_o
  simp only [q9ge9_eq, q9fi9_eq, q9an9_eq, q9al9_eq, q9flt9_eq, q9el9_eq, q9set9_eq, q9ln9_eq, q9gD9_eq, q9ap9_eq, q9eq9_N, q9eq9_I, q9eq9_A, q9eq9_E, q9eq9_OI, q9eq9_ON, q9eq9_OA, q9eq9_L, q9eq9_S, q9de9_N, q9de9_I, q9de9_A, q9le9_N, q9le9_I, q9lt9_N, q9lt9_I, q9de9_E, q9de9_OI, q9de9_ON, q9de9_OA, q9de9_L, q9nd9_eq, q9or9_eq, Bool.cond_decide]
theorem q9stQ_ok (o : Nat) (s : q9AV) (d : Nat) : q9RFok O (q9stQ o s d) := by
  intro nL g cT A x r G ws ls st xs hw hM hT hD h
  (rewrite [q9stQ_oq] at h; unfold q9stQ_o at h)
  split at h
  · rename_i h9 e0 z z2 ho he hz hz2
    split at h
    · rename_i sl q9sh el eh bl bh hn hne hnb
      split at h
      · rename_i hc
        obtain ⟨c0, c1, c2, c3, c4, c5, c6, c7, q9c8, c9, c10⟩ := hc
        cases h
        have hzm := List.mem_of_find?_eq_some hz
        have hz9 : q9isSt x s z = true := by have := List.find?_some hz; exact this
        have hm2 := List.mem_of_find?_eq_some hz2
        have hf2 := List.find?_some hz2
        rw [Bool.and_eq_true] at hf2
        obtain ⟨y, y1, -⟩ := q9num_int hM.2.2.2.1 c1 hn
        obtain ⟨q, a, n, fs, M, cL, b, k1, k2, k3, k4, k5, k6, k7, k8, k9, k10⟩ := q9isSt_ok hM hw hzm c1 y1 hz9
        obtain ⟨q', a', n2, fs', M', c2', u, w', j1, j2, j3, j4, j5, j6, j7, j8, j9⟩ := q9isLn_ok hM hw hm2 hf2.1
        obtain ⟨-, hMM⟩ := q9sameM hT hD j1 j2 j3 k1 k2 k3
        have hw3 := q9wf_A hw z hzm
        have hb := q9num_iv hM.2.2.2.1 hw3.2.1 hnb k6
        have l4 := q9leB_ok hM c1 (q9wf_A hw z2 hm2).2.1 hf2.2
        rw [y1, j6] at l4
        have l4 : y.toInt ≤ u.toInt + -1 := l4
        have hyc : y.toNatClampNeg = y.toInt.toNat := rfl
        have hln := j9.1 y.toNatClampNeg (by omega)
        have hln : q9lnOK M w'.toInt y.toNatClampNeg := by
          unfold q9lnOK at hln ⊢
          rw [hMM (22, 178) (by decide), hMM (23, 179) (by decide), hMM (25, 181) (by decide), hMM (26, 182) (by decide), hMM (27, 183) (by decide), hMM (28, 184) (by decide)]
          exact hln
        obtain ⟨e1, e2⟩ := q9enA_ok hM hw hT hD ho k1 k2 k3 c1 y1 he
        have l3 := q9leB_ok hM c1 e1 c2
        rw [y1, e2] at l3
        have l3 : y.toInt ≤ (M 29 y.toNatClampNeg).toInt + -1 := l3
        have hlt : y.toNatClampNeg < q9enN M y.toNatClampNeg := by
          unfold q9enN
          omega
        obtain ⟨y9, y8, y7⟩ := List.any_eq_true.mp c10
        simp only [Bool.and_eq_true] at y7
        obtain ⟨ys, s1, s2⟩ := q9ev_off hM.2.2.2.1 c1 q9c8 c9 y1
        obtain ⟨q3, a3, n3, fs3, M3, c3', w3, e3, p1, p2, p3, p4, p5, p6, p7, p8, p9, p10, p11⟩ := q9isCn_ok (t := 10 - d) hM hw y8 q9c8 s1 (by omega) y7.1
        obtain ⟨-, hM3⟩ := q9sameM hT hD p1 p2 p3 k1 k2 k3
        have w4 := q9wf_A hw y9 y8
        have l5 := q9leB_ok hM w4.2.2 e1 y7.2.1
        have l6 := q9leB_ok hM e1 w4.2.2 y7.2.2
        rw [p6, e2] at l5 l6
        have l5 : w3.toInt ≤ (M 29 y.toNatClampNeg).toInt + 1000 * ((10 - d : Nat) : Int) := l5
        have l6 : (M 29 y.toNatClampNeg).toInt ≤ w3.toInt + -(1000 * ((10 - d : Nat) : Int)) := l6
        rw [if_neg (by omega), if_pos (by omega)] at p11
        obtain ⟨c9', p11⟩ := p11
        have hyc2 : ys.toNatClampNeg = ys.toInt.toNat := rfl
        rw [show 10 - d - 7 = 3 - d by omega, show ys.toNatClampNeg = y.toNatClampNeg + 1 by omega, show e3 = q9enN M y.toNatClampNeg by unfold q9enN; omega] at p11
        have p12 : q9CNT M (3 - d) (y.toNatClampNeg + 1) (q9enN M y.toNatClampNeg) c9' := p11.fr fun i _ hi k hk => by
          have := (by decide : ∀ k ∈ [22, 23, 29], (k, k + 156) ∈ q9jF1) k hk
          rw [hM3 _ this]
        obtain ⟨zl, hzl⟩ := q9ln_lev (b := 4 - b.toInt.toNat) hln (.inr ⟨3 - d, c9', by omega, p12⟩)
        have hst := q9STK.snoc hlt _ _ k10 hzl
        obtain ⟨ye, s3, s4⟩ := q9ev_off hM.2.2.2.1 e1 c4 c5 e2
        refine q9rf_add hM hw [] List.mem_cons_self q9ty_nil q9no_mem (q9one_mem (q9st_mk (e := q9enN M y.toNatClampNeg) (c := cL.toInt) (b := b) (w := ye) k1 k2 k3 ?_ k5 ?_ ?_ k7 ?_ hst)) q9no_mem q9no_mem
        · show q9nV (q9upL r _ [] z.1) = _
          rw [q9upL_lt hw3.1, k4]
          rfl
        · show q9ev _ z.2.1 = _
          rw [q9upL_agr.ev hw3.2.1]
          exact k6
        · show q9ev _ (e0.1, _) = _
          rw [q9upL_agr.ev c4]
          exact s3
        · unfold q9enN
          omega
      · cases h
    · cases h
  · cases h
/-- all lines are read -/
noncomputable def q9stW_o (e : q9AV) : q9RF := fun x => match (q9tA x).find? (fun z => q9isSt x e z && (z.2.1 == (0, 0))), q9num (q9tE x) e with
  | some z, some (0, _, _) => if q9okAV (q9tE x) e = true ∧ q9okAV (q9tE x) (e.1, e.2 + 11000) = true ∧ q9isInt x e = true ∧ q9zeroB x = true then some [q9addS x [] [] [(0, (0, 0), (e.1, e.2 + 11000))] [] []] else none
  | _, _ => none
noncomputable def q9stW (e : q9AV) : q9RF := fun x => match q9fi9 (q9tA x) (fun z => q9nd9 (q9isSt x e z) ((q9eq9 (z.2.1) ((0, 0))))), q9num (q9tE x) e with
  | some z, some (0, _, _) => if q9okAV (q9tE x) e = true ∧ q9okAV (q9tE x) (e.1, e.2 + 11000) = true ∧ q9isInt x e = true ∧ q9zeroB x = true then some [q9addS x [] [] [(0, (0, 0), (e.1, e.2 + 11000))] [] []] else none
  | _, _ => none
theorem q9stW_oq : @q9stW = @q9stW_o := by
  delta q9stW q9stW_o
  simp only [q9ge9_eq, q9fi9_eq, q9an9_eq, q9al9_eq, q9flt9_eq, q9el9_eq, q9set9_eq, q9ln9_eq, q9gD9_eq, q9ap9_eq, q9eq9_N, q9eq9_I, q9eq9_A, q9eq9_E, q9eq9_OI, q9eq9_ON, q9eq9_OA, q9eq9_L, q9eq9_S, q9de9_N, q9de9_I, q9de9_A, q9le9_N, q9le9_I, q9lt9_N, q9lt9_I, q9de9_E, q9de9_OI, q9de9_ON, q9de9_OA, q9de9_L, q9nd9_eq, q9or9_eq, Bool.cond_decide]
theorem q9stW_ok (e : q9AV) : q9RFok O (q9stW e) := by
  intro nL g cT A x r G ws ls st xs hw hM hT hD h
  (rewrite [q9stW_oq] at h; unfold q9stW_o at h)
  split at h
  · rename_i z l h' hz hn
    split at h
    · rename_i hc
      obtain ⟨c1, c2, c3, c4⟩ := hc
      cases h
      have hzm := List.mem_of_find?_eq_some hz
      have hz9 := List.find?_some hz
      rw [Bool.and_eq_true, beq_iff_eq] at hz9
      obtain ⟨y, y1, -⟩ := q9num_int hM.2.2.2.1 c1 hn
      obtain ⟨q, a, n, fs, M, cL, b, k1, k2, k3, k4, k5, k6, k7, k8, k9, k10⟩ := q9isSt_ok hM hw hzm c1 y1 hz9.1
      have e00 := q9zero_ev hM.2.2.2.1 (q9zero_at c4) 0
      rw [hz9.2, e00] at k6
      have hb0 : b.toInt = 0 := by cases k6; rfl
      rw [hb0] at k10
      have k10 : ∃ c' : Int, q9CNT M 4 0 y.toInt.toNat c' := k10
      obtain ⟨ye, s3, s4⟩ := q9ev_off hM.2.2.2.1 c1 c2 c3 y1
      refine q9rf_add hM hw [] List.mem_cons_self q9ty_nil q9no_mem (q9one_mem (q9cn_mk (t := 11) (e := y.toInt.toNat) (c := 0) (b := Int32.ofInt 0) (w := ye) k1 k2 k3 (q9nV0 hM.2.2.2.1 c4) (Int.le_refl 0) ?_ ?_ (by decide) (by omega) (by omega) (by omega) ?_)) q9no_mem q9no_mem
      · show q9ev _ (0, 0) = _
        rw [q9ev_agree (a := (0, 0)) (q9upL_lt (q9lt_of_E (q9zero_at c4)))]
        exact e00
      · show q9ev _ (e.1, _) = _
        rw [q9upL_agr.ev c2]
        exact s3
      · rw [if_neg (by omega), if_pos (by omega)]
        exact k10
    · cases h
  · cases h
/-- a comparison that is known is told -/
noncomputable def q9cmpR (a b : q9AV) (d : Int) : q9RF := fun x => match q9num (q9tE x) a, q9num (q9tE x) b with
  | some (0, _, _), some (0, _, _) => if q9okAV (q9tE x) a = true ∧ q9okAV (q9tE x) b = true ∧ q9leB x a b d = true then some [q9addS x [] [] [] [(a.1, b.1, b.2 + d - a.2)] []] else none
  | _, _ => none
theorem q9cmpR_ok (a b : q9AV) (d : Int) : q9RFok O (q9cmpR a b d) := by
  intro nL g cT A x r G ws ls st xs hw hM hT hD h
  unfold q9cmpR at h
  split at h
  · rename_i l1 h1 l2 h2 na nb
    split at h
    · rename_i hc
      obtain ⟨c1, c2, c3⟩ := hc
      cases h
      obtain ⟨U, u1, u2, -⟩ := q9num_int hM.2.2.2.1 c1 na
      obtain ⟨V, v1, v2, -⟩ := q9num_int hM.2.2.2.1 c2 nb
      have hle := q9leB_ok hM c1 c2 c3
      rw [u1, v1] at hle
      have hle : U.toInt ≤ V.toInt + d := hle
      refine q9rf_add hM hw [] List.mem_cons_self q9ty_nil q9no_mem q9no_mem (q9one_mem ?_) q9no_mem
      unfold q9FCok
      rw [q9upL_agr.iv (q9okAV_lt c1), q9upL_agr.iv (q9okAV_lt c2)]
      show q9iv r a.1 ≤ q9iv r b.1 + (b.2 + d - a.2)
      omega
    · cases h
  · cases h
