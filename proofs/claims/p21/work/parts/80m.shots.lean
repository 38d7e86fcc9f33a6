variable {O : ORC}
/-! lines that are read; frames that are counted -/
/-- the reference's arrays, by the typed world alone -/
theorem q9ja_obj {nL : Nat} {g : List Value} {x : q9ST} {r : Nat → Value} {G : q9GH} {ws : va_W} {ls : Array Slot} {st : List Value} (hM : q9SM O nL g x r G ws ls st) {cT : Nat → ClassId} (hT : q9tyW cT q9TBL G ws) {o : Nat} {h9 : Int} (ho : (q9tE x)[o]? = some (2, 12, h9)) :
    ∃ (q a n : Nat) (fs : List Value) (M : q9LM), r o = .ref a ∧ G[q]? = some (a, 12, n) ∧ ws[q]? = some (a, .inr (12, fs)) ∧ ∀ y ∈ q9jF, ∃ (i b k n' : Nat) (cA : ClassId), fs[y.1]? = some (.ref b) ∧ G[i]? = some (b, y.2, k) ∧ ws[i]? = some (b, .inl (cA, n', .inl (M y.1))) := by
  obtain ⟨a, n, e1, e2⟩ := hM.2.2.2.1 o _ ho
  have e2 : (a, 12, n) ∈ G := e2
  obtain ⟨q, e, g1, g2, g3⟩ := hT.at e2
  rcases g3 with ⟨-, fs, F, f1, f2, f3, f4, -⟩ | ⟨hh, -⟩
  · subst f1
    have hF : q9TBL.1[12]? = some q9ft_12 := rfl
    rw [hF] at f2
    cases f2
    have hp : ∀ y ∈ q9jF, ∃ g9 : Nat → Int32, ∃ (i b k n' : Nat) (cA : ClassId), fs[y.1]? = some (.ref b) ∧ G[i]? = some (b, y.2, k) ∧ ws[i]? = some (b, .inl (cA, n', .inl g9)) := by
      intro y hy
      obtain ⟨t1, t2⟩ := (by decide +kernel : ∀ y ∈ q9jF, q9ft_12[y.1]? = some (2, (y.2 : Int), 0) ∧ ((100 ≤ y.2 ∧ (q9KAS[y.2 - 100]?).map (fun K => K.1) = some 0))) y hy
      obtain ⟨t2, t3⟩ := t2
      have hlt : y.1 < fs.length := by
        rw [f3]
        exact (List.getElem?_eq_some_iff.mp t1).1
      obtain ⟨v, hv⟩ : ∃ v, fs[y.1]? = some v := ⟨fs[y.1], List.getElem?_eq_getElem hlt⟩
      obtain ⟨b, nn, v1, v2⟩ := f4 y.1 _ v t1 hv
      have v2 : (b, y.2, nn) ∈ G := by
        have v3 : (b, ((y.2 : Int)).toNat, nn) ∈ G := v2
        rw [Int.toNat_natCast] at v3
        exact v3
      obtain ⟨i, ce, w1, w2, w3⟩ := hT.at v2
      rcases w3 with ⟨hh, -⟩ | ⟨-, K, w4, w5⟩
      · omega
      · have w4 : q9KAS[y.2 - 100]? = some K := w4
        rw [w4] at t3
        have t3 : K.1 = 0 := Option.some.inj t3
        obtain ⟨K1, N, b3, et3⟩ := K
        have t3 : K1 = 0 := t3
        subst t3
        obtain ⟨-, -, f9, f10, -⟩ := w5
        subst f10
        exact ⟨f9, i, b, nn, nn, _, by rw [hv, v1], w1, w2⟩
    have hch : ∀ k9 : Nat, ∃ g9 : Nat → Int32, ∀ p ∈ q9jF, p.1 = k9 → ∃ (i b k n' : Nat) (cA : ClassId), fs[p.1]? = some (.ref b) ∧ G[i]? = some (b, p.2, k) ∧ ws[i]? = some (b, .inl (cA, n', .inl g9)) := by
      intro k9
      by_cases hh : ∃ p ∈ q9jF, p.1 = k9
      · obtain ⟨p, p1, p2⟩ := hh
        obtain ⟨g9, g1⟩ := hp p p1
        refine ⟨g9, fun p' p3 p4 => ?_⟩
        have e : p' = p := (by decide : ∀ p' ∈ q9jF, ∀ p ∈ q9jF, p'.1 = p.1 → p' = p) p' p3 p p1 (p4.trans p2.symm)
        rw [e]
        exact g1
      · exact ⟨fun _ => 0, fun p p1 p2 => absurd ⟨p, p1, p2⟩ hh⟩
    obtain ⟨M, hMM⟩ := Classical.axiomOfChoice hch
    exact ⟨q, a, n, fs, M, e1, g1, g2, fun y hy => hMM y.1 y hy rfl⟩
  · omega
theorem q9nV0 {x : q9ST} {r : Nat → Value} {G : q9GH} (hS : q9SAT G (q9tE x) r) (h : q9zeroB x = true) {vs : List Value} : q9nV (q9upL r (q9tE x).length vs 0) = some 0 := by
  rw [q9upL_lt (q9lt_of_E (q9zero_at h))]
  obtain ⟨u, u1, u2, u3⟩ := hS 0 _ (q9zero_at h)
  have u2 : 0 ≤ u.toInt := u2
  have u3 : u.toInt ≤ 0 := u3
  rw [u1]
  show some u.toInt = _
  rw [show u.toInt = 0 by omega]
/-- no line, told as a stretch -/
noncomputable def q9nilW_o (o : Nat) (b : q9AV) (d : Nat) : q9RF := fun x => match (q9tE x)[o]?, q9num (q9tE x) b with
  | some (2, 12, _), some (0, l, h) => if d ≤ 5 ∧ 0 ≤ l ∧ h ≤ 60 ∧ q9okAV (q9tE x) b = true ∧ q9okAV (q9tE x) (b.1, b.2 + 1000 * ((7 + d : Nat) : Int)) = true ∧ q9isInt x b = true ∧ q9zeroB x = true then some [q9addS x [] [] [(0, b, (b.1, b.2 + 1000 * ((7 + d : Nat) : Int)))] [] []] else none
  | _, _ => none
noncomputable def q9nilW (o : Nat) (b : q9AV) (d : Nat) : q9RF := fun x => match (q9ge9 (q9tE x) (o)), q9num (q9tE x) b with
  | some (2, 12, _), some (0, l, h) => if d ≤ 5 ∧ 0 ≤ l ∧ h ≤ 60 ∧ q9okAV (q9tE x) b = true ∧ q9okAV (q9tE x) (b.1, b.2 + 1000 * ((7 + d : Nat) : Int)) = true ∧ q9isInt x b = true ∧ q9zeroB x = true then some [q9addS x [] [] [(0, b, (b.1, b.2 + 1000 * ((7 + d : Nat) : Int)))] [] []] else none
  | _, _ => none
theorem q9nilW_oq : @q9nilW = @q9nilW_o := by
  delta q9nilW q9nilW_o
  simp only [q9ge9_eq, q9fi9_eq, q9an9_eq, q9al9_eq, q9flt9_eq, q9el9_eq, q9set9_eq, q9ln9_eq, q9gD9_eq, q9ap9_eq, q9eq9_N, q9eq9_I, q9eq9_A, q9eq9_E, q9eq9_OI, q9eq9_ON, q9eq9_OA, q9eq9_L, q9eq9_S, q9de9_N, q9de9_I, q9de9_A, q9le9_N, q9le9_I, q9lt9_N, q9lt9_I, q9de9_E, q9de9_OI, q9de9_ON, q9de9_OA, q9de9_L, q9nd9_eq, q9or9_eq, Bool.cond_decide]
theorem q9nilW_ok (o : Nat) (b : q9AV) (d : Nat) : q9RFok O (q9nilW o b d) := by
  intro nL g cT A x r G ws ls st xs hw hM hT hD h
  (rewrite [q9nilW_oq] at h; unfold q9nilW_o at h)
  split at h
  · rename_i h9 l h' ho hn
    split at h
    · rename_i hc
      obtain ⟨c1, c2, c3, c4, c5, c6, c7⟩ := hc
      cases h
      obtain ⟨q, a, n, fs, M, k0, k1, k2, k3⟩ := q9ja_obj hM hT ho
      have k3 : ∀ y ∈ q9jF1, _ := fun y hy => k3 y (List.mem_append_left _ hy)
      obtain ⟨y, y1, y2, y3, y4⟩ := q9num_int hM.2.2.2.1 c4 hn
      obtain ⟨w, w1, w2⟩ := q9ev_off hM.2.2.2.1 c4 c5 c6 y1
      refine q9rf_add hM hw [] List.mem_cons_self q9ty_nil q9no_mem (q9one_mem (q9cn_mk (t := 7 + d) (e := y.toInt.toNat) (c := 0) (b := y) (w := w) k1 k2 k3 (q9nV0 hM.2.2.2.1 c7) (Int.le_refl 0) ?_ ?_ (by omega) (by omega) (by omega) (by omega) ?_)) q9no_mem q9no_mem
      · show q9ev _ b = _
        rw [q9upL_agr.ev c4]
        exact y1
      · show q9ev _ (b.1, _) = _
        rw [q9upL_agr.ev c5]
        exact w1
      · rw [if_neg (by omega), if_pos (by omega)]
        exact ⟨0, q9CNT.nil⟩
    · cases h
  · cases h
/-- no frame of no line -/
noncomputable def q9nilC_o (o : Nat) (b : q9AV) (d c : Nat) : q9RF := fun x => match (q9tE x)[o]?, q9num (q9tE x) b, (q9tE x)[c]? with
  | some (2, 12, _), some (0, l, h), some t => if d ≤ 5 ∧ 0 ≤ l ∧ h ≤ 60 ∧ q9okAV (q9tE x) b = true ∧ q9okAV (q9tE x) (b.1, b.2 + 1000 * ((1 + d : Nat) : Int)) = true ∧ q9isInt x b = true ∧ t.1 ≤ 1 ∧ t.2.1 = 0 ∧ t.2.2 = 0 then some [q9addS x [] [] [(c, b, (b.1, b.2 + 1000 * ((1 + d : Nat) : Int)))] [] []] else none
  | _, _, _ => none
noncomputable def q9nilC (o : Nat) (b : q9AV) (d c : Nat) : q9RF := fun x => match (q9ge9 (q9tE x) (o)), q9num (q9tE x) b, (q9ge9 (q9tE x) (c)) with
  | some (2, 12, _), some (0, l, h), some t => if d ≤ 5 ∧ 0 ≤ l ∧ h ≤ 60 ∧ q9okAV (q9tE x) b = true ∧ q9okAV (q9tE x) (b.1, b.2 + 1000 * ((1 + d : Nat) : Int)) = true ∧ q9isInt x b = true ∧ t.1 ≤ 1 ∧ t.2.1 = 0 ∧ t.2.2 = 0 then some [q9addS x [] [] [(c, b, (b.1, b.2 + 1000 * ((1 + d : Nat) : Int)))] [] []] else none
  | _, _, _ => none
theorem q9nilC_oq : @q9nilC = @q9nilC_o := by
  delta q9nilC q9nilC_o
  simp only [q9ge9_eq, q9fi9_eq, q9an9_eq, q9al9_eq, q9flt9_eq, q9el9_eq, q9set9_eq, q9ln9_eq, q9gD9_eq, q9ap9_eq, q9eq9_N, q9eq9_I, q9eq9_A, q9eq9_E, q9eq9_OI, q9eq9_ON, q9eq9_OA, q9eq9_L, q9eq9_S, q9de9_N, q9de9_I, q9de9_A, q9le9_N, q9le9_I, q9lt9_N, q9lt9_I, q9de9_E, q9de9_OI, q9de9_ON, q9de9_OA, q9de9_L, q9nd9_eq, q9or9_eq, Bool.cond_decide]
theorem q9nilC_ok (o : Nat) (b : q9AV) (d c : Nat) : q9RFok O (q9nilC o b d c) := by
  intro nL g cT A x r G ws ls st xs hw hM hT hD h
  (rewrite [q9nilC_oq] at h; unfold q9nilC_o at h)
  split at h
  · rename_i h9 l h' t ho hn hE
    split at h
    · rename_i hc
      obtain ⟨c1, c2, c3, c4, c5, c6, c7, q9c8, c9⟩ := hc
      cases h
      obtain ⟨q, a, n, fs, M, k0, k1, k2, k3⟩ := q9ja_obj hM hT ho
      have k3 : ∀ y ∈ q9jF1, _ := fun y hy => k3 y (List.mem_append_left _ hy)
      obtain ⟨y, y1, y2, y3, y4⟩ := q9num_int hM.2.2.2.1 c4 hn
      obtain ⟨w, w1, w2⟩ := q9ev_off hM.2.2.2.1 c4 c5 c6 y1
      obtain ⟨tk, lo, hi⟩ := t
      have q9c8 : lo = 0 := q9c8
      have c9 : hi = 0 := c9
      subst q9c8
      subst c9
      have c7 : tk ≤ 1 := c7
      have hfam : q9famT (tk, 0, 0) = some 0 := by
        (rewrite [q9famT_oq]; unfold q9famT_o)
        rw [if_pos c7, if_pos (Int.le_refl 0)]
      obtain ⟨c', f1, -⟩ := q9famT_ok hfam (hM.2.2.2.1 _ _ hE)
      have hc0 : c' = 0 := by
        have h8 := hM.2.2.2.1 _ _ hE
        match tk, c7, h8 with
        | 0, _, ⟨u, u1, u2, u3⟩ =>
          rw [u1] at f1
          have f1 : u.toInt = c' := Option.some.inj f1
          have u2 : 0 ≤ u.toInt := u2
          have u3 : u.toInt ≤ 0 := u3
          omega
        | 1, _, ⟨u, u1, u2, u3⟩ =>
          rw [u1] at f1
          have f1 : u.toInt = c' := Option.some.inj f1
          have u2 : 0 ≤ u.toInt := u2
          have u3 : u.toInt ≤ 0 := u3
          omega
      rw [hc0] at f1
      refine q9rf_add hM hw [] List.mem_cons_self q9ty_nil q9no_mem (q9one_mem (q9cn_mk (t := 1 + d) (e := y.toInt.toNat) (c := 0) (b := y) (w := w) k1 k2 k3 ?_ (Int.le_refl 0) ?_ ?_ (by omega) (by omega) (by omega) (by omega) ?_)) q9no_mem q9no_mem
      · show q9nV (q9upL r _ [] c) = _
        rw [q9upL_lt (q9lt_of_E hE)]
        exact f1
      · show q9ev _ b = _
        rw [q9upL_agr.ev c4]
        exact y1
      · show q9ev _ (b.1, _) = _
        rw [q9upL_agr.ev c5]
        exact w1
      · rw [if_pos (by omega)]
        exact q9CNT.nil
    · cases h
  · cases h
theorem q9ln_mk {r : Nat → Value} {G : q9GH} {ws : va_W} {q a n : Nat} {fs : List Value} {M : q9LM} (h1 : G[q]? = some (a, 12, n)) (h2 : ws[q]? = some (a, .inr (12, fs))) (h3 : ∀ y ∈ q9jF1, ∃ (i b k n' : Nat) (cA : ClassId), fs[y.1]? = some (.ref b) ∧ G[i]? = some (b, y.2, k) ∧ ws[i]? = some (b, .inl (cA, n', .inl (M y.1))))
    {z : Nat × q9AV × q9AV} {c : Int} {u w : Int32} (k1 : q9nV (r z.1) = some c) (k2 : 0 ≤ c) (k3 : q9ev r z.2.1 = .int u) (k4 : q9ev r z.2.2 = .int w) (hw : w.toInt < 1000) (hC : q9LINES M u.toInt w.toInt) : q9AMok O r G ws z :=
  .inr (.inl ⟨q, a, n, fs, M, c, u, w, 0, h1, h2, by rw [q9jFc_pos k2]; exact h3, k1, k3, k4, fun h => by omega, by rw [q9JP_lines k2 hw]; exact hC⟩)
/-- no line, no act -/
noncomputable def q9nilL_o (o : Nat) (u w : q9AV) : q9RF := fun x => match (q9tE x)[o]?, q9num (q9tE x) u, q9num (q9tE x) w with
  | some (2, 12, _), some (0, _, h1), some (0, _, h2) => if h1 ≤ 0 ∧ h2 ≤ 0 ∧ q9okAV (q9tE x) u = true ∧ q9okAV (q9tE x) w = true then some [q9addS x [(1, 0, 0)] [] [((q9tE x).length, u, w)] [] []] else none
  | _, _, _ => none
noncomputable def q9nilL (o : Nat) (u w : q9AV) : q9RF := fun x => match (q9ge9 (q9tE x) (o)), q9num (q9tE x) u, q9num (q9tE x) w with
  | some (2, 12, _), some (0, _, h1), some (0, _, h2) => if h1 ≤ 0 ∧ h2 ≤ 0 ∧ q9okAV (q9tE x) u = true ∧ q9okAV (q9tE x) w = true then some [q9addS x [(1, 0, 0)] [] [((q9ln9 (q9tE x)), u, w)] [] []] else none
  | _, _, _ => none
theorem q9nilL_oq : @q9nilL = @q9nilL_o := by
  delta q9nilL q9nilL_o
  simp only [q9ge9_eq, q9fi9_eq, q9an9_eq, q9al9_eq, q9flt9_eq, q9el9_eq, q9set9_eq, q9ln9_eq, q9gD9_eq, q9ap9_eq, q9eq9_N, q9eq9_I, q9eq9_A, q9eq9_E, q9eq9_OI, q9eq9_ON, q9eq9_OA, q9eq9_L, q9eq9_S, q9de9_N, q9de9_I, q9de9_A, q9le9_N, q9le9_I, q9lt9_N, q9lt9_I, q9de9_E, q9de9_OI, q9de9_ON, q9de9_OA, q9de9_L, q9nd9_eq, q9or9_eq, Bool.cond_decide]
theorem q9nilL_ok (o : Nat) (u w : q9AV) : q9RFok O (q9nilL o u w) := by
  intro nL g cT A x r G ws ls st xs hw hM hT hD h
  (rewrite [q9nilL_oq] at h; unfold q9nilL_o at h)
  split at h
  · rename_i h9 l1 h1 l2 h2 ho hn1 hn2
    split at h
    · rename_i hc
      obtain ⟨c1, c2, c3, c4⟩ := hc
      cases h
      obtain ⟨q, a, n, fs, M, k0, k1, k2, k3⟩ := q9ja_obj hM hT ho
      have k3 : ∀ y ∈ q9jF1, _ := fun y hy => k3 y (List.mem_append_left _ hy)
      obtain ⟨uI, u1, u2, u3, u4⟩ := q9num_int hM.2.2.2.1 c3 hn1
      obtain ⟨wI, w1, w2, w3, w4⟩ := q9num_int hM.2.2.2.1 c4 hn2
      refine q9rf_add hM hw [.long 0] List.mem_cons_self (q9ty_cons ⟨0, rfl, by decide, by decide⟩ q9ty_nil) q9no_mem (q9one_mem (q9ln_mk (c := 0) (u := uI) (w := wI) k1 k2 k3 ?_ (Int.le_refl 0) ?_ ?_ (by omega) ⟨fun i hi => by omega, fun i hi => by omega⟩)) q9no_mem q9no_mem
      · show q9nV (q9upL _ _ _ (q9tE x).length) = _
        rw [q9rU0]
        rfl
      · show q9ev _ u = _
        rw [q9upL_agr.ev c3]
        exact u1
      · show q9ev _ w = _
        rw [q9upL_agr.ev c4]
        exact w1
    · cases h
  · cases h
/-- an element of the array in the field j is known to be within bounds -/
noncomputable def q9elB_o (x : q9ST) (o j : Nat) (s : q9AV) (lo hi : Int) : Bool := match q9fF x o j with
  | some a => (match q9fA x a.1 s with
    | some v => (match q9num (q9tE x) v with
      | some (0, p, q) => decide (lo ≤ p) && decide (q ≤ hi)
      | _ => false)
    | none => false)
  | none => false
noncomputable def q9elB (x : q9ST) (o j : Nat) (s : q9AV) (lo hi : Int) : Bool := match q9fF x o j with
  | some a => (match q9fA x a.1 s with
    | some v => (match q9num (q9tE x) v with
      | some (0, p, q) => q9nd9 ((q9le9 (lo) (p))) ((q9le9 (q) (hi)))
      | _ => false)
    | none => false)
  | none => false
theorem q9elB_oq : @q9elB = @q9elB_o := by
  delta q9elB q9elB_o
  simp only [q9ge9_eq, q9fi9_eq, q9an9_eq, q9al9_eq, q9flt9_eq, q9el9_eq, q9set9_eq, q9ln9_eq, q9gD9_eq, q9ap9_eq, q9eq9_N, q9eq9_I, q9eq9_A, q9eq9_E, q9eq9_OI, q9eq9_ON, q9eq9_OA, q9eq9_L, q9eq9_S, q9de9_N, q9de9_I, q9de9_A, q9le9_N, q9le9_I, q9lt9_N, q9lt9_I, q9de9_E, q9de9_OI, q9de9_ON, q9de9_OA, q9de9_L, q9nd9_eq, q9or9_eq, Bool.cond_decide]
theorem q9elB_ok {nL : Nat} {g : List Value} {x : q9ST} {r : Nat → Value} {G : q9GH} {ws : va_W} {ls : Array Slot} {st : List Value} (hM : q9SM O nL g x r G ws ls st) (hw : q9wfB x = true) {cT : Nat → ClassId} {B : q9TB} (hT : q9tyW cT B G ws) {A : Nat → Prop} (hD : va_D A ws) {o : Nat} {h9 : Int} (ho : (q9tE x)[o]? = some (2, 12, h9)) {q a n : Nat} {fs : List Value} {M : q9LM} {L : List (Nat × Nat)} (h1 : G[q]? = some (a, 12, n)) (h2 : ws[q]? = some (a, .inr (12, fs)))
    (h3 : ∀ y ∈ L, ∃ (i b k n' : Nat) (cA : ClassId), fs[y.1]? = some (.ref b) ∧ G[i]? = some (b, y.2, k) ∧ ws[i]? = some (b, .inl (cA, n', .inl (M y.1)))) {s : q9AV} (hs : q9okAV (q9tE x) s = true) {y : Int32} (hy : q9ev r s = .int y) {j cd : Nat} (hj : (j, cd) ∈ L) (hjj : j ≠ 1000) {lo hi : Int} (h : q9elB x o j s lo hi = true) : lo ≤ (M j y.toNatClampNeg).toInt ∧ (M j y.toNatClampNeg).toInt ≤ hi := by
  (rewrite [q9elB_oq] at h; unfold q9elB_o at h)
  split at h
  · rename_i ka hka
    split at h
    · rename_i v hv
      split at h
      · rename_i p q9 hn
        rw [Bool.and_eq_true, decide_eq_true_eq, decide_eq_true_eq] at h
        obtain ⟨b, i, k, n', cA, m1, m2, m3, m4⟩ := q9omA hM hT hD ho h1 h2 h3 hj hjj (q9fF_ok hka)
        obtain ⟨v1, v2⟩ := q9fA_ok hM hw hD hv hs hy m1 m4
        have v2 : q9ev r v = .int (M j y.toNatClampNeg) := v2
        obtain ⟨-, v3, v4⟩ := q9num_iv hM.2.2.2.1 v1 hn v2
        omega
      · cases h
    · cases h
  · cases h
/-- count is how far from is behind this -/
noncomputable def q9sbA_o (x : q9ST) (o : Nat) (s : q9AV) : Option q9AV := match q9fF x o 27, q9fF x o 28 with
  | some fa, some ca => (match q9fA x fa.1 s, q9fA x ca.1 s with
    | some fr, some ct => (match (q9tX x).find? (fun q => q.1 == 1 && (q.2.2.1 == fr && (q.2.2.2, (0 : Int)) == ct)), q9num (q9tE x) fr with
      | some q, some (0, l, _) => if 0 ≤ l ∧ q9isInt x q.2.1 = true ∧ q9leB x fr q.2.1 0 = true then some q.2.1 else none
      | _, _ => none)
    | _, _ => none)
  | _, _ => none
noncomputable def q9sbA (x : q9ST) (o : Nat) (s : q9AV) : Option q9AV := match q9fF x o 27, q9fF x o 28 with
  | some fa, some ca => (match q9fA x fa.1 s, q9fA x ca.1 s with
    | some fr, some ct => (match q9fi9 (q9tX x) (fun q => q9nd9 (q9eq9 (q.1) (1)) ((q9nd9 (q9eq9 (q.2.2.1) (fr)) (q9eq9 ((q.2.2.2, (0 : Int))) (ct))))), q9num (q9tE x) fr with
      | some q, some (0, l, _) => if 0 ≤ l ∧ q9isInt x q.2.1 = true ∧ q9leB x fr q.2.1 0 = true then some q.2.1 else none
      | _, _ => none)
    | _, _ => none)
  | _, _ => none
theorem q9sbA_oq : @q9sbA = @q9sbA_o := by
  delta q9sbA q9sbA_o
  simp only [q9ge9_eq, q9fi9_eq, q9an9_eq, q9al9_eq, q9flt9_eq, q9el9_eq, q9set9_eq, q9ln9_eq, q9gD9_eq, q9ap9_eq, q9eq9_N, q9eq9_I, q9eq9_A, q9eq9_E, q9eq9_OI, q9eq9_ON, q9eq9_OA, q9eq9_L, q9eq9_S, q9de9_N, q9de9_I, q9de9_A, q9le9_N, q9le9_I, q9lt9_N, q9lt9_I, q9de9_E, q9de9_OI, q9de9_ON, q9de9_OA, q9de9_L, q9nd9_eq, q9or9_eq, Bool.cond_decide]
theorem q9sbA_ok {nL : Nat} {g : List Value} {x : q9ST} {r : Nat → Value} {G : q9GH} {ws : va_W} {ls : Array Slot} {st : List Value} (hM : q9SM O nL g x r G ws ls st) (hw : q9wfB x = true) {cT : Nat → ClassId} {B : q9TB} (hT : q9tyW cT B G ws) {A : Nat → Prop} (hD : va_D A ws) {o : Nat} {h9 : Int} (ho : (q9tE x)[o]? = some (2, 12, h9)) {q a n : Nat} {fs : List Value} {M : q9LM} (h1 : G[q]? = some (a, 12, n)) (h2 : ws[q]? = some (a, .inr (12, fs)))
    (h3 : ∀ y ∈ q9jF1, ∃ (i b k n' : Nat) (cA : ClassId), fs[y.1]? = some (.ref b) ∧ G[i]? = some (b, y.2, k) ∧ ws[i]? = some (b, .inl (cA, n', .inl (M y.1)))) {s : q9AV} (hs : q9okAV (q9tE x) s = true) {y : Int32} (hy : q9ev r s = .int y) {v : q9AV} (h : q9sbA x o s = some v) : q9okAV (q9tE x) v = true ∧ ∃ u : Int32, q9ev r v = .int u ∧ 0 ≤ (M 27 y.toNatClampNeg).toInt ∧ 0 ≤ (M 28 y.toNatClampNeg).toInt ∧ (M 27 y.toNatClampNeg).toInt + (M 28 y.toNatClampNeg).toInt = u.toInt := by
  (rewrite [q9sbA_oq] at h; unfold q9sbA_o at h)
  split at h
  · rename_i fa ca hfa hca
    split at h
    · rename_i fr ct hfr hct
      split at h
      · rename_i q9 l h' hq hn
        split at h
        · rename_i hc
          obtain ⟨c1, c2, c3⟩ := hc
          cases h
          obtain ⟨b, i, k', n', cA, m1, m2, m3, m4⟩ := q9omA hM hT hD ho h1 h2 h3 (j := 27) (cd := 183) (by decide) (by decide) (q9fF_ok hfa)
          obtain ⟨b2, i2, k2', n2', cA2, p1, p2, p3, p4⟩ := q9omA hM hT hD ho h1 h2 h3 (j := 28) (cd := 184) (by decide) (by decide) (q9fF_ok hca)
          obtain ⟨f1, f2⟩ := q9fA_ok hM hw hD hfr hs hy m1 m4
          obtain ⟨t1, t2⟩ := q9fA_ok hM hw hD hct hs hy p1 p4
          have f2 : q9ev r fr = .int (M 27 y.toNatClampNeg) := f2
          have t2 : q9ev r ct = .int (M 28 y.toNatClampNeg) := t2
          have q1 := List.find?_some hq
          have q2 := List.mem_of_find?_eq_some hq
          simp only [Bool.and_eq_true, beq_iff_eq] at q1
          obtain ⟨w1, w2, w3⟩ := q9wf_X hw q9 q2
          obtain ⟨u, hu⟩ := q9isInt_ok hM.2.2.2.1 w1 c2
          have h8 := hM.2.2.2.2.2.2.2 q9 q2
          unfold q9EXok at h8
          rw [q1.1, q1.2.1, hu, f2] at h8
          rw [← q1.2.2, q9ev_zero] at t2
          rw [t2] at h8
          have h8 : Value.int (u - M 27 y.toNatClampNeg) = .int (M 28 y.toNatClampNeg) := Option.some.inj h8
          injection h8 with h8
          have hle := q9leB_ok hM f1 w1 c3
          rw [f2, hu] at hle
          have hle : (M 27 y.toNatClampNeg).toInt ≤ u.toInt + 0 := hle
          have hn9 := q9num_iv hM.2.2.2.1 f1 hn f2
          have hu2 := Int32.toInt_lt u
          have hs9 := q9n_sub (x := u) (y := M 27 y.toNatClampNeg) (by omega) (by omega)
          rw [h8] at hs9
          exact ⟨w1, u, hu, by omega, by omega, by omega⟩
        · cases h
      · cases h
    · cases h
  · cases h
/-- a line is as it should be -/
noncomputable def q9grB_o (x : q9ST) (o : Nat) (s w : q9AV) : Bool := match q9fF x o 22 with
  | some ka => (match q9fA x ka.1 s with
    | some v => (match q9num (q9tE x) v with
      | some (0, k1, k2) => (decide (k2 < 0) || (decide (0 < k1) || q9elB x o 23 s 1 200)) && ((decide (k2 < 1) || (decide (1 < k1) || (q9elB x o 23 s 1 200 && (match q9sbA x o s with
          | some a => q9leB x a w 0
          | none => false)))) && ((decide (k2 < 2) || (decide (2 < k1) || (q9elB x o 25 s 0 7 && (q9elB x o 26 s 0 400 && (q9elB x o 28 s 0 20 && (match q9sbA x o s with
          | some a => (match q9num (q9tE x) a with
            | some (0, _, h) => decide (h ≤ 400)
            | _ => false)
          | none => false)))))) && ((decide (k2 < 6) || (decide (6 < k1) || (q9elB x o 25 s 0 2 && q9elB x o 23 s 1 400))) && (decide (k2 < 7) || (decide (7 < k1) || q9elB x o 23 s 1 20)))))
      | _ => false)
    | none => false)
  | none => false
noncomputable def q9grB (x : q9ST) (o : Nat) (s w : q9AV) : Bool := match q9fF x o 22 with
  | some ka => (match q9fA x ka.1 s with
    | some v => (match q9num (q9tE x) v with
      | some (0, k1, k2) => q9nd9 ((q9or9 ((q9lt9 (k2) (0))) ((q9or9 ((q9lt9 (0) (k1))) (q9elB x o 23 s 1 200))))) ((q9nd9 ((q9or9 ((q9lt9 (k2) (1))) ((q9or9 ((q9lt9 (1) (k1))) ((q9nd9 (q9elB x o 23 s 1 200) ((match q9sbA x o s with
          | some a => q9leB x a w 0
          | none => false)))))))) ((q9nd9 ((q9or9 ((q9lt9 (k2) (2))) ((q9or9 ((q9lt9 (2) (k1))) ((q9nd9 (q9elB x o 25 s 0 7) ((q9nd9 (q9elB x o 26 s 0 400) ((q9nd9 (q9elB x o 28 s 0 20) ((match q9sbA x o s with
          | some a => (match q9num (q9tE x) a with
            | some (0, _, h) => (q9le9 (h) (400))
            | _ => false)
          | none => false)))))))))))) ((q9nd9 ((q9or9 ((q9lt9 (k2) (6))) ((q9or9 ((q9lt9 (6) (k1))) ((q9nd9 (q9elB x o 25 s 0 2) (q9elB x o 23 s 1 400))))))) ((q9or9 ((q9lt9 (k2) (7))) ((q9or9 ((q9lt9 (7) (k1))) (q9elB x o 23 s 1 20)))))))))))
      | _ => false)
    | none => false)
  | none => false
theorem q9grB_oq : @q9grB = @q9grB_o := by
  delta q9grB q9grB_o
  simp only [q9ge9_eq, q9fi9_eq, q9an9_eq, q9al9_eq, q9flt9_eq, q9el9_eq, q9set9_eq, q9ln9_eq, q9gD9_eq, q9ap9_eq, q9eq9_N, q9eq9_I, q9eq9_A, q9eq9_E, q9eq9_OI, q9eq9_ON, q9eq9_OA, q9eq9_L, q9eq9_S, q9de9_N, q9de9_I, q9de9_A, q9le9_N, q9le9_I, q9lt9_N, q9lt9_I, q9de9_E, q9de9_OI, q9de9_ON, q9de9_OA, q9de9_L, q9nd9_eq, q9or9_eq, Bool.cond_decide]
theorem q9grB_ok {nL : Nat} {g : List Value} {x : q9ST} {r : Nat → Value} {G : q9GH} {ws : va_W} {ls : Array Slot} {st : List Value} (hM : q9SM O nL g x r G ws ls st) (hw : q9wfB x = true) {cT : Nat → ClassId} {B : q9TB} (hT : q9tyW cT B G ws) {A : Nat → Prop} (hD : va_D A ws) {o : Nat} {h9 : Int} (ho : (q9tE x)[o]? = some (2, 12, h9)) {q a n : Nat} {fs : List Value} {M : q9LM} (h1 : G[q]? = some (a, 12, n)) (h2 : ws[q]? = some (a, .inr (12, fs)))
    (h3 : ∀ y ∈ q9jF1, ∃ (i b k n' : Nat) (cA : ClassId), fs[y.1]? = some (.ref b) ∧ G[i]? = some (b, y.2, k) ∧ ws[i]? = some (b, .inl (cA, n', .inl (M y.1)))) {s w : q9AV} (hs : q9okAV (q9tE x) s = true) (hwok : q9okAV (q9tE x) w = true) {y wI : Int32} (hy : q9ev r s = .int y) (hwI : q9ev r w = .int wI) (h : q9grB x o s w = true) : q9lnOK M wI.toInt y.toNatClampNeg := by
  (rewrite [q9grB_oq] at h; unfold q9grB_o at h)
  split at h
  · rename_i ka hka
    split at h
    · rename_i v hv
      split at h
      · rename_i k1 k2 hn
        simp only [Bool.and_eq_true, Bool.or_eq_true, decide_eq_true_eq] at h
        obtain ⟨g0, g1, g2, g6, g7⟩ := h
        obtain ⟨b, i, k, n', cA, m1, m2, m3, m4⟩ := q9omA hM hT hD ho h1 h2 h3 (j := 22) (cd := 178) (by decide) (by decide) (q9fF_ok hka)
        obtain ⟨v1, v2⟩ := q9fA_ok hM hw hD hv hs hy m1 m4
        have v2 : q9ev r v = .int (M 22 y.toNatClampNeg) := v2
        obtain ⟨-, v3, v4⟩ := q9num_iv hM.2.2.2.1 v1 hn v2
        have el : ∀ (j cd : Nat), (j, cd) ∈ q9jF1 → j ≠ 1000 → ∀ lo hi : Int, q9elB x o j s lo hi = true → lo ≤ (M j y.toNatClampNeg).toInt ∧ (M j y.toNatClampNeg).toInt ≤ hi := fun j cd hj hjj lo hi hh => q9elB_ok hM hw hT hD ho h1 h2 h3 hs hy hj hjj hh
        refine ⟨fun hk => ?_, fun hk => ?_, fun hk => ?_, fun hk => ?_, fun hk => ?_⟩
        · rcases g0 with g0 | g0 | g0
          · omega
          · omega
          · exact el 23 179 (by decide) (by decide) _ _ g0
        · rcases g1 with g1 | g1 | g1
          · omega
          · omega
          · obtain ⟨ga, gb⟩ := g1
            have e1 := el 23 179 (by decide) (by decide) _ _ ga
            split at gb
            · rename_i av hav
              obtain ⟨s1, u, s2, s3, s4, s5⟩ := q9sbA_ok hM hw hT hD ho h1 h2 h3 hs hy hav
              have hle := q9leB_ok hM s1 hwok gb
              rw [s2, hwI] at hle
              have hle : u.toInt ≤ wI.toInt + 0 := hle
              exact ⟨e1.1, e1.2, s3, s4, by omega⟩
            · cases gb
        · rcases g2 with g2 | g2 | g2
          · omega
          · omega
          · obtain ⟨ga, gb, gc, gd⟩ := g2
            have e1 := el 25 181 (by decide) (by decide) _ _ ga
            have e2 := el 26 182 (by decide) (by decide) _ _ gb
            have e3 := el 28 184 (by decide) (by decide) _ _ gc
            split at gd
            · rename_i av hav
              split at gd
              · rename_i l9 h8 hna
                rw [decide_eq_true_eq] at gd
                obtain ⟨s1, u, s2, s3, s4, s5⟩ := q9sbA_ok hM hw hT hD ho h1 h2 h3 hs hy hav
                have := q9num_iv hM.2.2.2.1 s1 hna s2
                exact ⟨e1.1, e1.2, e2.1, e2.2, e3.1, e3.2, s3, by omega⟩
              · cases gd
            · cases gd
        · rcases g6 with g6 | g6 | g6
          · omega
          · omega
          · obtain ⟨ga, gb⟩ := g6
            have e1 := el 25 181 (by decide) (by decide) _ _ ga
            have e2 := el 23 179 (by decide) (by decide) _ _ gb
            exact ⟨e1.1, e1.2, e2.1, e2.2⟩
        · rcases g7 with g7 | g7 | g7
          · omega
          · omega
          · exact el 23 179 (by decide) (by decide) _ _ g7
      · cases h
    · cases h
  · cases h
/-- q9one line q9more is read -/
noncomputable def q9growL_o (o : Nat) (s : q9AV) : q9RF := fun x => match (q9tE x)[o]?, (q9tA x).find? (fun z => q9isLn x z && q9eqB x z.2.1 s), q9num (q9tE x) s with
  | some (2, 12, _), some z, some (0, _, _) => if q9okAV (q9tE x) s = true ∧ q9okAV (q9tE x) (s.1, s.2 + 1) = true ∧ q9isInt x s = true ∧ q9grB x o s z.2.2 = true then some [q9addS x [] [] [(z.1, (s.1, s.2 + 1), z.2.2)] [] []] else none
  | _, _, _ => none
noncomputable def q9growL (o : Nat) (s : q9AV) : q9RF := fun x => match (q9ge9 (q9tE x) (o)), q9fi9 (q9tA x) (fun z => q9nd9 (q9isLn x z) (q9eqB x z.2.1 s)), q9num (q9tE x) s with
  | some (2, 12, _), some z, some (0, _, _) => if q9okAV (q9tE x) s = true ∧ q9okAV (q9tE x) (s.1, s.2 + 1) = true ∧ q9isInt x s = true ∧ q9grB x o s z.2.2 = true then some [q9addS x [] [] [(z.1, (s.1, s.2 + 1), z.2.2)] [] []] else none
  | _, _, _ => none
theorem q9growL_oq : @q9growL = @q9growL_o := by
  delta q9growL q9growL_o
  simp only [q9ge9_eq, q9fi9_eq, q9an9_eq, q9al9_eq, q9flt9_eq, q9el9_eq, q9set9_eq, q9ln9_eq, q9gD9_eq, q9ap9_eq, q9eq9_N, q9eq9_I, q9eq9_A, q9eq9_E, q9eq9_OI, q9eq9_ON, q9eq9_OA, q9eq9_L, q9eq9_S, q9de9_N, q9de9_I, q9de9_A, q9le9_N, q9le9_I, q9lt9_N, q9lt9_I, q9de9_E, q9de9_OI, q9de9_ON, q9de9_OA, q9de9_L, q9nd9_eq, q9or9_eq, Bool.cond_decide]
theorem q9growL_ok (o : Nat) (s : q9AV) : q9RFok O (q9growL o s) := by
  intro nL g cT A x r G ws ls st xs hw hM hT hD h
  (rewrite [q9growL_oq] at h; unfold q9growL_o at h)
  split at h
  · rename_i h9 z l h8 ho hz hn
    split at h
    · rename_i hc
      obtain ⟨c1, c2, c3, c4⟩ := hc
      cases h
      have hzm := List.mem_of_find?_eq_some hz
      have hz9 := List.find?_some hz
      rw [Bool.and_eq_true] at hz9
      obtain ⟨q, a, n, fs, M, c, u, w, k1, k2, k3, k4, k5, k6, k7, k8, k9⟩ := q9isLn_ok hM hw hzm hz9.1
      obtain ⟨y, y1, y2, y3, y4⟩ := q9num_int hM.2.2.2.1 c1 hn
      have huy : u = y := by
        rw [q9eqB_ok hM c1 y1 hz9.2] at k6
        injection k6 with k6
        exact k6.symm
      rw [huy] at k9
      obtain ⟨y', z1, z2⟩ := q9ev_off hM.2.2.2.1 c1 c2 c3 y1
      have hyc : y.toNatClampNeg = y.toInt.toNat := rfl
      have hw3 := q9wf_A hw z hzm
      have hgr := q9grB_ok hM hw hT hD ho k1 k2 k3 c1 hw3.2.2 y1 k7 c4
      refine q9rf_add hM hw [] List.mem_cons_self q9ty_nil q9no_mem (q9one_mem (q9ln_mk (c := c) (u := y') (w := w) k1 k2 k3 ?_ k5 ?_ ?_ (by omega) ⟨fun i hi => ?_, k9.2⟩)) q9no_mem q9no_mem
      · show q9nV (q9upL r _ [] z.1) = _
        rw [q9upL_lt hw3.1]
        exact k4
      · show q9ev _ (s.1, s.2 + 1) = _
        rw [q9upL_agr.ev c2]
        exact z1
      · show q9ev _ z.2.2 = _
        rw [q9upL_agr.ev hw3.2.2]
        exact k7
      · by_cases hi2 : (i : Int) < y.toInt
        · exact k9.1 i hi2
        · rw [show i = y.toNatClampNeg by omega]
          exact hgr
    · cases h
  · cases h
/-- q9one act q9more is read -/
noncomputable def q9growA_o (o : Nat) (a : q9AV) : q9RF := fun x => match (q9tE x)[o]?, (q9tA x).find? (fun z => q9isLn x z && (q9leB x z.2.2 a 0 && q9leB x a z.2.2 0)), q9num (q9tE x) a with
  | some (2, 12, _), some z, some (0, _, _) => if q9okAV (q9tE x) a = true ∧ q9okAV (q9tE x) (a.1, a.2 + 1) = true ∧ q9isInt x a = true ∧ q9elB x o 30 a 0 7 = true ∧ q9elB x o 31 a 0 11 = true then some [q9addS x [] [] [(z.1, z.2.1, (a.1, a.2 + 1))] [] []] else none
  | _, _, _ => none
noncomputable def q9growA (o : Nat) (a : q9AV) : q9RF := fun x => match (q9ge9 (q9tE x) (o)), q9fi9 (q9tA x) (fun z => q9nd9 (q9isLn x z) ((q9nd9 (q9leB x z.2.2 a 0) (q9leB x a z.2.2 0)))), q9num (q9tE x) a with
  | some (2, 12, _), some z, some (0, _, _) => if q9okAV (q9tE x) a = true ∧ q9okAV (q9tE x) (a.1, a.2 + 1) = true ∧ q9isInt x a = true ∧ q9elB x o 30 a 0 7 = true ∧ q9elB x o 31 a 0 11 = true then some [q9addS x [] [] [(z.1, z.2.1, (a.1, a.2 + 1))] [] []] else none
  | _, _, _ => none
theorem q9growA_oq : @q9growA = @q9growA_o := by
  delta q9growA q9growA_o
  simp only [q9ge9_eq, q9fi9_eq, q9an9_eq, q9al9_eq, q9flt9_eq, q9el9_eq, q9set9_eq, q9ln9_eq, q9gD9_eq, q9ap9_eq, q9eq9_N, q9eq9_I, q9eq9_A, q9eq9_E, q9eq9_OI, q9eq9_ON, q9eq9_OA, q9eq9_L, q9eq9_S, q9de9_N, q9de9_I, q9de9_A, q9le9_N, q9le9_I, q9lt9_N, q9lt9_I, q9de9_E, q9de9_OI, q9de9_ON, q9de9_OA, q9de9_L, q9nd9_eq, q9or9_eq, Bool.cond_decide]
theorem q9growA_ok (o : Nat) (av : q9AV) : q9RFok O (q9growA o av) := by
  intro nL g cT A x r G ws ls st xs hw hM hT hD h
  (rewrite [q9growA_oq] at h; unfold q9growA_o at h)
  split at h
  · rename_i h9 z l h8 ho hz hn
    split at h
    · rename_i hc
      obtain ⟨c1, c2, c3, c4, c5⟩ := hc
      cases h
      have hzm := List.mem_of_find?_eq_some hz
      have hz9 := List.find?_some hz
      rw [Bool.and_eq_true, Bool.and_eq_true] at hz9
      obtain ⟨q, a, n, fs, M, c, u, w, k1, k2, k3, k4, k5, k6, k7, k8, k9⟩ := q9isLn_ok hM hw hzm hz9.1
      obtain ⟨y, y1, y2, y3, y4⟩ := q9num_int hM.2.2.2.1 c1 hn
      have hw3 := q9wf_A hw z hzm
      have l1 := q9leB_ok hM hw3.2.2 c1 hz9.2.1
      have l2 := q9leB_ok hM c1 hw3.2.2 hz9.2.2
      rw [k7, y1] at l1 l2
      have l1 : w.toInt ≤ y.toInt + 0 := l1
      have l2 : y.toInt ≤ w.toInt + 0 := l2
      obtain ⟨y', z1, z2⟩ := q9ev_off hM.2.2.2.1 c1 c2 c3 y1
      have hyc : y.toNatClampNeg = y.toInt.toNat := rfl
      have e1 := q9elB_ok hM hw hT hD ho k1 k2 k3 c1 y1 (j := 30) (cd := 186) (by decide) (by decide) c4
      have e2 := q9elB_ok hM hw hT hD ho k1 k2 k3 c1 y1 (j := 31) (cd := 187) (by decide) (by decide) c5
      refine q9rf_add hM hw [] List.mem_cons_self q9ty_nil q9no_mem (q9one_mem (q9ln_mk (c := c) (u := u) (w := y') k1 k2 k3 ?_ k5 ?_ ?_ (by omega) ⟨fun i hi => ?_, fun i hi => ?_⟩)) q9no_mem q9no_mem
      · show q9nV (q9upL r _ [] z.1) = _
        rw [q9upL_lt hw3.1]
        exact k4
      · show q9ev _ z.2.1 = _
        rw [q9upL_agr.ev hw3.2.1]
        exact k6
      · show q9ev _ (av.1, av.2 + 1) = _
        rw [q9upL_agr.ev c2]
        exact z1
      · obtain ⟨g0, g1, g2, g6, g7⟩ := k9.1 i hi
        refine ⟨g0, fun hk => ?_, g2, g6, g7⟩
        have := g1 hk
        omega
      · by_cases hi2 : (i : Int) < w.toInt
        · exact k9.2 i hi2
        · rw [show i = y.toNatClampNeg by omega]
          exact ⟨e1.1, e1.2, e2.1, e2.2⟩
    · cases h
  · cases h
/-- an act that is read -/
noncomputable def q9actR_o (o : Nat) (a : q9AV) : q9RF := fun x => match (q9tE x)[o]?, q9fF x o 30, q9fF x o 31, (q9tA x).find? (fun z => q9isLn x z && q9leB x a z.2.2 (-1)), q9num (q9tE x) a with
  | some (2, 12, _), some pa, some ja, some z, some (0, l, _) => if 0 ≤ l ∧ q9okAV (q9tE x) a = true then some [q9addS x [(0, 0, 7), (0, 0, 11)] [] [(pa.1, a, ((q9tE x).length, 0)), (ja.1, a, ((q9tE x).length + 1, 0))] [] []] else none
  | _, _, _, _, _ => none
noncomputable def q9actR (o : Nat) (a : q9AV) : q9RF := fun x => match (q9ge9 (q9tE x) (o)), q9fF x o 30, q9fF x o 31, q9fi9 (q9tA x) (fun z => q9nd9 (q9isLn x z) (q9leB x a z.2.2 (-1))), q9num (q9tE x) a with
  | some (2, 12, _), some pa, some ja, some z, some (0, l, _) => if 0 ≤ l ∧ q9okAV (q9tE x) a = true then some [q9addS x [(0, 0, 7), (0, 0, 11)] [] [(pa.1, a, ((q9ln9 (q9tE x)), 0)), (ja.1, a, ((q9ln9 (q9tE x)) + 1, 0))] [] []] else none
  | _, _, _, _, _ => none
theorem q9actR_oq : @q9actR = @q9actR_o := by
  delta q9actR q9actR_o
  simp only [q9ge9_eq, q9fi9_eq, q9an9_eq, q9al9_eq, q9flt9_eq, q9el9_eq, q9set9_eq, q9ln9_eq, q9gD9_eq, q9ap9_eq, q9eq9_N, q9eq9_I, q9eq9_A, q9eq9_E, q9eq9_OI, q9eq9_ON, q9eq9_OA, q9eq9_L, q9eq9_S, q9de9_N, q9de9_I, q9de9_A, q9le9_N, q9le9_I, q9lt9_N, q9lt9_I, q9de9_E, q9de9_OI, q9de9_ON, q9de9_OA, q9de9_L, q9nd9_eq, q9or9_eq, Bool.cond_decide]
theorem q9actR_ok (o : Nat) (av : q9AV) : q9RFok O (q9actR o av) := by
  intro nL g cT A x r G ws ls st xs hw hM hT hD h
  (rewrite [q9actR_oq] at h; unfold q9actR_o at h)
  split at h
  · rename_i h9 pa ja z l h8 ho hpa hja hz hn
    split at h
    · rename_i hc
      obtain ⟨c1, c2⟩ := hc
      cases h
      have hzm := List.mem_of_find?_eq_some hz
      have hz9 := List.find?_some hz
      rw [Bool.and_eq_true] at hz9
      obtain ⟨q, a, n, fs, M, c, u, w, k1, k2, k3, k4, k5, k6, k7, k8, k9⟩ := q9isLn_ok hM hw hzm hz9.1
      obtain ⟨y, y1, y2, y3, y4⟩ := q9num_int hM.2.2.2.1 c2 hn
      have hw3 := q9wf_A hw z hzm
      have l1 := q9leB_ok hM c2 hw3.2.2 hz9.2
      rw [k7, y1] at l1
      have l1 : y.toInt ≤ w.toInt + -1 := l1
      have hyc : y.toNatClampNeg = y.toInt.toNat := rfl
      obtain ⟨b, i, k', n', cA, m1, m2, m3, m4⟩ := q9omA hM hT hD ho k1 k2 k3 (j := 30) (cd := 186) (by decide) (by decide) (q9fF_ok hpa)
      obtain ⟨b2, i2, k2', n2', cA2, p1, p2, p3, p4⟩ := q9omA hM hT hD ho k1 k2 k3 (j := 31) (cd := 187) (by decide) (by decide) (q9fF_ok hja)
      obtain ⟨q1, q2, q3, q4⟩ := k9.2 y.toNatClampNeg (by omega)
      refine q9rf_add hM hw [.int (M 30 y.toNatClampNeg), .int (M 31 y.toNatClampNeg)] List.mem_cons_self (q9ty_cons ⟨_, rfl, q1, q2⟩ (q9ty_cons ⟨_, rfl, q3, q4⟩ q9ty_nil)) q9no_mem (q9cons_mem (.inl (q9al_new (f := M 30) (y := y) ((q9upL_lt ?_).trans m1) m4 ?_ q9evU0)) (q9one_mem (.inl (q9al_new (f := M 31) (y := y) ((q9upL_lt ?_).trans p1) p4 ?_ q9evU1)))) q9no_mem q9no_mem
      · exact q9okAV_lt (q9wf_F hw _ (q9fF_ok hpa)).2
      · rw [q9upL_agr.ev c2]
        exact y1
      · exact q9okAV_lt (q9wf_F hw _ (q9fF_ok hja)).2
      · rw [q9upL_agr.ev c2]
        exact y1
    · cases h
  · cases h
theorem q9sameM {cT : Nat → ClassId} {B : q9TB} {G : q9GH} {ws : va_W} (hT : q9tyW cT B G ws) {A : Nat → Prop} (hD : va_D A ws) {q a n q' a' n' : Nat} {fs fs' : List Value} {M M' : q9LM} {L : List (Nat × Nat)} (k1 : G[q]? = some (a, 12, n)) (k2 : ws[q]? = some (a, .inr (12, fs))) (k3 : ∀ y ∈ L, ∃ (i b k n' : Nat) (cA : ClassId), fs[y.1]? = some (.ref b) ∧ G[i]? = some (b, y.2, k) ∧ ws[i]? = some (b, .inl (cA, n', .inl (M y.1))))
    (j1 : G[q']? = some (a', 12, n')) (j2 : ws[q']? = some (a', .inr (12, fs'))) (j3 : ∀ y ∈ L, ∃ (i b k n' : Nat) (cA : ClassId), fs'[y.1]? = some (.ref b) ∧ G[i]? = some (b, y.2, k) ∧ ws[i]? = some (b, .inl (cA, n', .inl (M' y.1)))) : fs' = fs ∧ ∀ y ∈ L, M' y.1 = M y.1 := by
  have ha := hT.2.2 q' q a' a n' n j1 k1
  subst ha
  have hqq : q' = q := hD.1 q' q _ _ j2 k2 rfl
  subst hqq
  rw [k2] at j2
  cases j2
  refine ⟨rfl, fun y hy => ?_⟩
  obtain ⟨i3, b3, k3', n3, cA3, g1, g2, g3⟩ := k3 y hy
  obtain ⟨i4, b4, k4', n4, cA4, g4, g5, g6⟩ := j3 y hy
  rw [g1] at g4
  cases g4
  have hii : i4 = i3 := hD.1 i4 i3 _ _ g6 g3 rfl
  subst hii
  rw [g3] at g6
  have g7 := (Prod.mk.inj (Option.some.inj g6)).2
  have g8 := (Prod.mk.inj (Sum.inl.inj g7)).2
  exact (Sum.inl.inj (Prod.mk.inj g8).2).symm
/-- a line and what stands in it closes the stretch ahead of it -/
noncomputable def q9closeR_o (o : Nat) (b s : q9AV) (d : Nat) : q9RF := fun x => match (q9tE x)[o]?, q9enA x o s, (q9tA x).find? (fun z => q9isCn x b (7 + d) 60 z && (q9leB x z.2.2 s (1000 * ((7 + d : Nat) : Int)) && q9leB x s z.2.2 (-(1000 * ((7 + d : Nat) : Int))))), (q9tA x).find? (fun z => q9isLn x z && q9leB x s z.2.1 (-1)) with
  | some (2, 12, _), some e, some z1, some z2 => (match q9num (q9tE x) b, q9num (q9tE x) s, q9num (q9tE x) e with
    | some (0, _, _), some (0, _, _), some (0, _, he) => if d ≤ 5 ∧ q9okAV (q9tE x) b = true ∧ q9okAV (q9tE x) s = true ∧ q9leB x s e (-1) = true ∧ he ≤ 60 ∧ q9okAV (q9tE x) (e.1, e.2 + 1000 * ((7 + d : Nat) : Int)) = true ∧ q9isInt x e = true ∧ q9isInt x s = true ∧ q9zeroB x = true ∧
        (q9elB x o 22 s 0 6 || (decide (0 < d) && (q9okAV (q9tE x) (s.1, s.2 + 1) && (q9tA x).any (fun z => q9isCn x (s.1, s.2 + 1) (6 + d) 60 z && (q9leB x z.2.2 e (1000 * ((6 + d : Nat) : Int)) && q9leB x e z.2.2 (-(1000 * ((6 + d : Nat) : Int)))))))) = true then
        some [q9addS x [] [] [(0, b, (e.1, e.2 + 1000 * ((7 + d : Nat) : Int)))] [] []] else none
    | _, _, _ => none)
  | _, _, _, _ => none
noncomputable def q9closeR (o : Nat) (b s : q9AV) (d : Nat) : q9RF := fun x => match (q9ge9 (q9tE x) (o)), q9enA x o s, q9fi9 (q9tA x) (fun z => q9nd9 (q9isCn x b (7 + d) 60 z) ((q9nd9 (q9leB x z.2.2 s (1000 * ((7 + d : Nat) : Int))) (q9leB x s z.2.2 (-(1000 * ((7 + d : Nat) : Int))))))), q9fi9 (q9tA x) (fun z => q9nd9 (q9isLn x z) (q9leB x s z.2.1 (-1))) with
  | some (2, 12, _), some e, some z1, some z2 => (match q9num (q9tE x) b, q9num (q9tE x) s, q9num (q9tE x) e with
    | some (0, _, _), some (0, _, _), some (0, _, he) => if d ≤ 5 ∧ q9okAV (q9tE x) b = true ∧ q9okAV (q9tE x) s = true ∧ q9leB x s e (-1) = true ∧ he ≤ 60 ∧ q9okAV (q9tE x) (e.1, e.2 + 1000 * ((7 + d : Nat) : Int)) = true ∧ q9isInt x e = true ∧ q9isInt x s = true ∧ q9zeroB x = true ∧
        (q9or9 (q9elB x o 22 s 0 6) ((q9nd9 ((q9lt9 (0) (d))) ((q9nd9 (q9okAV (q9tE x) (s.1, s.2 + 1)) (q9an9 (q9tA x) (fun z => q9nd9 (q9isCn x (s.1, s.2 + 1) (6 + d) 60 z) ((q9nd9 (q9leB x z.2.2 e (1000 * ((6 + d : Nat) : Int))) (q9leB x e z.2.2 (-(1000 * ((6 + d : Nat) : Int))))))))))))) = true then
        some [q9addS x [] [] [(0, b, (e.1, e.2 + 1000 * ((7 + d : Nat) : Int)))] [] []] else none
    | _, _, _ => none)
  | _, _, _, _ => none
theorem q9closeR_oq : @q9closeR = @q9closeR_o := by
  delta q9closeR q9closeR_o
  simp only [q9ge9_eq, q9fi9_eq, q9an9_eq, q9al9_eq, q9flt9_eq, q9el9_eq, q9set9_eq, q9ln9_eq, q9gD9_eq, q9ap9_eq, q9eq9_N, q9eq9_I, q9eq9_A, q9eq9_E, q9eq9_OI, q9eq9_ON, q9eq9_OA, q9eq9_L, q9eq9_S, q9de9_N, q9de9_I, q9de9_A, q9le9_N, q9le9_I, q9lt9_N, q9lt9_I, q9de9_E, q9de9_OI, q9de9_ON, q9de9_OA, q9de9_L, q9nd9_eq, q9or9_eq, Bool.cond_decide]
theorem q9closeR_ok (o : Nat) (b s : q9AV) (d : Nat) : q9RFok O (q9closeR o b s d) := by
  intro nL g cT A x r G ws ls st xs hw hM hT hD h
  (rewrite [q9closeR_oq] at h; unfold q9closeR_o at h)
  split at h
  · rename_i h9 e0 z1 z2 ho he hz1 hz2
    split at h
    · rename_i bl bh sl q9sh el he6 hnb hns hne
      split at h
      · rename_i hc
        obtain ⟨c1, c2, c3, c4, c5, c6, c7, q9c8, c9, c10⟩ := hc
        cases h
        have hm1 := List.mem_of_find?_eq_some hz1
        have hm2 := List.mem_of_find?_eq_some hz2
        have hf1 := List.find?_some hz1
        have hf2 := List.find?_some hz2
        rw [Bool.and_eq_true, Bool.and_eq_true] at hf1
        rw [Bool.and_eq_true] at hf2
        obtain ⟨bI, b1, -⟩ := q9num_int hM.2.2.2.1 c2 hnb
        obtain ⟨y, y1, -⟩ := q9num_int hM.2.2.2.1 c3 hns
        obtain ⟨q, a, n, fs, M, c, w, e, k1, k2, k3, k4, k5, k6, k7, k8, k9, k10, k11⟩ := q9isCn_ok (t := 7 + d) hM hw hm1 c2 b1 (by omega) hf1.1
        obtain ⟨e1, e2⟩ := q9enA_ok hM hw hT hD ho k1 k2 k3 c3 y1 he
        have w1 := q9wf_A hw z1 hm1
        have w2 := q9wf_A hw z2 hm2
        have l1 := q9leB_ok hM w1.2.2 c3 hf1.2.1
        have l2 := q9leB_ok hM c3 w1.2.2 hf1.2.2
        rw [k6, y1] at l1 l2
        have l1 : w.toInt ≤ y.toInt + 1000 * ((7 + d : Nat) : Int) := l1
        have l2 : y.toInt ≤ w.toInt + -(1000 * ((7 + d : Nat) : Int)) := l2
        rw [if_neg (by omega), if_pos (by omega), show 7 + d - 7 = d by omega] at k11
        obtain ⟨c', k11⟩ := k11
        have l3 := q9leB_ok hM c3 e1 c4
        rw [y1, e2] at l3
        have l3 : y.toInt ≤ (M 29 y.toNatClampNeg).toInt + -1 := l3
        have hyc : y.toNatClampNeg = y.toInt.toNat := rfl
        have hbc : bI.toNatClampNeg = bI.toInt.toNat := rfl
        have hne9 := q9num_iv hM.2.2.2.1 e1 hne e2
        have hey : e = y.toNatClampNeg := by omega
        subst hey
        -- the ranges of the line
        obtain ⟨q', a', n2, fs', M', c2', u, w', j1, j2, j3, j4, j5, j6, j7, j8, j9⟩ := q9isLn_ok hM hw hm2 hf2.1
        obtain ⟨-, hMM⟩ := q9sameM hT hD k1 k2 k3 j1 j2 j3
        have l4 := q9leB_ok hM c3 w2.2.1 hf2.2
        rw [y1, j6] at l4
        have l4 : y.toInt ≤ u.toInt + -1 := l4
        have hln := j9.1 y.toNatClampNeg (by omega)
        have hln : q9lnOK M w'.toInt y.toNatClampNeg := by
          unfold q9lnOK at hln ⊢
          rw [hMM (22, 178) (by decide), hMM (23, 179) (by decide), hMM (25, 181) (by decide), hMM (26, 182) (by decide), hMM (27, 183) (by decide), hMM (28, 184) (by decide)] at hln
          exact hln
        have hlt : y.toNatClampNeg < q9enN M y.toNatClampNeg := by
          unfold q9enN
          omega
        have key : ∃ zl : Int, q9lnP M (q9CNT M) d y.toNatClampNeg zl := by
          obtain ⟨g0, g1, g2, g6, g7⟩ := hln
          by_cases h0 : (M 22 y.toNatClampNeg).toInt = 0
          · have := g0 h0
            exact ⟨_, .inl ⟨.inl h0, this.1, this.2, rfl⟩⟩
          · by_cases h1 : (M 22 y.toNatClampNeg).toInt = 1
            · have := g1 h1
              exact ⟨_, .inl ⟨.inr h1, this.1, this.2.1, rfl⟩⟩
            · by_cases h7 : (M 22 y.toNatClampNeg).toInt = 7
              · have h78 := g7 h7
                rcases Bool.or_eq_true _ _ ▸ c10 with c10 | c10
                · have := q9elB_ok hM hw hT hD ho k1 k2 k3 c3 y1 (j := 22) (cd := 178) (by decide) (by decide) c10
                  omega
                · simp only [Bool.and_eq_true, decide_eq_true_eq] at c10
                  obtain ⟨d1, d2, d3⟩ := c10
                  obtain ⟨z3, z4, z5⟩ := List.any_eq_true.mp d3
                  simp only [Bool.and_eq_true] at z5
                  obtain ⟨ys, s1, s2⟩ := q9ev_off hM.2.2.2.1 c3 d2 q9c8 y1
                  obtain ⟨q', a', n2, fs', M2, c3', w3, e3, p1, p2, p3, p4, p5, p6, p7, p8, p9, p10, p11⟩ := q9isCn_ok (t := 6 + d) hM hw z4 d2 s1 (by omega) z5.1
                  obtain ⟨-, hM2⟩ := q9sameM hT hD k1 k2 k3 p1 p2 p3
                  have w4 := q9wf_A hw z3 z4
                  have l5 := q9leB_ok hM w4.2.2 e1 z5.2.1
                  have l6 := q9leB_ok hM e1 w4.2.2 z5.2.2
                  rw [p6, e2] at l5 l6
                  have l5 : w3.toInt ≤ (M 29 y.toNatClampNeg).toInt + 1000 * ((6 + d : Nat) : Int) := l5
                  have l6 : (M 29 y.toNatClampNeg).toInt ≤ w3.toInt + -(1000 * ((6 + d : Nat) : Int)) := l6
                  rw [if_neg (by omega), if_pos (by omega)] at p11
                  obtain ⟨c9', p11⟩ := p11
                  have hyc2 : ys.toNatClampNeg = ys.toInt.toNat := rfl
                  rw [show 6 + d - 7 = d - 1 by omega, show ys.toNatClampNeg = y.toNatClampNeg + 1 by omega, show e3 = q9enN M y.toNatClampNeg by unfold q9enN; omega] at p11
                  have p12 : q9CNT M (d - 1) (y.toNatClampNeg + 1) (q9enN M y.toNatClampNeg) c9' := p11.fr fun i _ hi k hk => by
                    have := (by decide : ∀ k ∈ [22, 23, 29], (k, k + 156) ∈ q9jF1) k hk
                    rw [hM2 _ this]
                  exact ⟨_, .inr (.inl ⟨h7, h78.1, h78.2, d - 1, c9', by omega, p12, rfl⟩)⟩
              · exact ⟨0, .inr (.inr ⟨h0, h1, h7, rfl⟩)⟩
        obtain ⟨zl, key⟩ := key
        have hsn := k11.snoc hlt key
        obtain ⟨ye, s3, s4⟩ := q9ev_off hM.2.2.2.1 e1 c6 c7 e2
        refine q9rf_add hM hw [] List.mem_cons_self q9ty_nil q9no_mem (q9one_mem (q9cn_mk (t := 7 + d) (e := (M 29 y.toNatClampNeg).toInt.toNat) (c := 0) (b := bI) (w := ye) k1 k2 k3 (q9nV0 hM.2.2.2.1 c9) (Int.le_refl 0) ?_ ?_ k10 (by omega) (by omega) (by omega) ?_)) q9no_mem q9no_mem
        · show q9ev _ b = _
          rw [q9upL_agr.ev c2]
          exact b1
        · show q9ev _ (e0.1, _) = _
          rw [q9upL_agr.ev c6]
          exact s3
        · rw [if_neg (by omega), if_pos (by omega), show 7 + d - 7 = d by omega]
          exact ⟨_, hsn⟩
      · cases h
    · cases h
  · cases h
/-- half of what is below twice something is below it -/
noncomputable def q9halfR_o (k c : q9AV) : q9RF := fun x => match (q9tX x).find? (fun q => q.1 == 3 && (q.2.1 == k && q.2.2.1 == (0, 2))), (q9tX x).find? (fun q => q.1 == 2 && (q.2.1 == (0, 2) && q.2.2.1 == c)), q9num (q9tE x) k, q9num (q9tE x) c with
  | some q, some t, some (0, kl, _), some (0, cl, ch) => if q9zeroB x = true ∧ 0 ≤ kl ∧ 0 ≤ cl ∧ ch ≤ 1000000 ∧ q9leB x k (t.2.2.2, 0) (-1) = true ∧ q9okAV (q9tE x) (t.2.2.2, 0) = true then some [q9addS x [] [] [] [(q.2.2.2, c.1, c.2 - 1)] []] else none
  | _, _, _, _ => none
noncomputable def q9halfR (k c : q9AV) : q9RF := fun x => match q9fi9 (q9tX x) (fun q => q9nd9 (q9eq9 (q.1) (3)) ((q9nd9 (q9eq9 (q.2.1) (k)) (q9eq9 (q.2.2.1) ((0, 2)))))), q9fi9 (q9tX x) (fun q => q9nd9 (q9eq9 (q.1) (2)) ((q9nd9 (q9eq9 (q.2.1) ((0, 2))) (q9eq9 (q.2.2.1) (c))))), q9num (q9tE x) k, q9num (q9tE x) c with
  | some q, some t, some (0, kl, _), some (0, cl, ch) => if q9zeroB x = true ∧ 0 ≤ kl ∧ 0 ≤ cl ∧ ch ≤ 1000000 ∧ q9leB x k (t.2.2.2, 0) (-1) = true ∧ q9okAV (q9tE x) (t.2.2.2, 0) = true then some [q9addS x [] [] [] [(q.2.2.2, c.1, c.2 - 1)] []] else none
  | _, _, _, _ => none
theorem q9halfR_oq : @q9halfR = @q9halfR_o := by
  delta q9halfR q9halfR_o
  simp only [q9ge9_eq, q9fi9_eq, q9an9_eq, q9al9_eq, q9flt9_eq, q9el9_eq, q9set9_eq, q9ln9_eq, q9gD9_eq, q9ap9_eq, q9eq9_N, q9eq9_I, q9eq9_A, q9eq9_E, q9eq9_OI, q9eq9_ON, q9eq9_OA, q9eq9_L, q9eq9_S, q9de9_N, q9de9_I, q9de9_A, q9le9_N, q9le9_I, q9lt9_N, q9lt9_I, q9de9_E, q9de9_OI, q9de9_ON, q9de9_OA, q9de9_L, q9nd9_eq, q9or9_eq, Bool.cond_decide]
theorem q9halfR_ok (k c : q9AV) : q9RFok O (q9halfR k c) := by
  intro nL g cT A x r G ws ls st xs hw hM hT hD h
  (rewrite [q9halfR_oq] at h; unfold q9halfR_o at h)
  split at h
  · rename_i q t kl kh cl ch hq ht hnk hnc
    split at h
    · rename_i hc
      obtain ⟨c1, c2, c3, c4, c5, c6⟩ := hc
      cases h
      have q1 := List.find?_some hq
      have q2 := List.mem_of_find?_eq_some hq
      have t1 := List.find?_some ht
      have t2 := List.mem_of_find?_eq_some ht
      simp only [Bool.and_eq_true, beq_iff_eq] at q1 t1
      obtain ⟨w1, w2, w3⟩ := q9wf_X hw q q2
      obtain ⟨v1, v2, v3⟩ := q9wf_X hw t t2
      rw [q1.2.1] at w1
      rw [t1.2.2] at v2
      obtain ⟨kI, a1, a2, a3, a4⟩ := q9num_int hM.2.2.2.1 w1 hnk
      obtain ⟨cI, b1, b2, b3, b4⟩ := q9num_int hM.2.2.2.1 v2 hnc
      have e2 : q9ev r (0, 2) = .int 2 := q9zero_ev hM.2.2.2.1 (q9zero_at c1) 2
      have h3 := hM.2.2.2.2.2.2.2 q q2
      unfold q9EXok at h3
      rw [q1.1, q1.2.1, q1.2.2, a1, e2] at h3
      have h3 : r q.2.2.2 = .int (kI / 2) := (Option.some.inj h3).symm
      have h4 := hM.2.2.2.2.2.2.2 t t2
      unfold q9EXok at h4
      rw [t1.1, t1.2.1, t1.2.2, b1, e2] at h4
      have h4 : r t.2.2.2 = .int (2 * cI) := (Option.some.inj h4).symm
      have m2 : (2 : Int32).toInt = 2 := rfl
      have hm := q9n_mul (x := 2) (y := cI) (by rw [m2]; omega) (by rw [m2]; omega)
      rw [m2] at hm
      have hd := q9n_div (x := kI) (y := 2) (by omega) (by rw [m2]; omega)
      rw [m2] at hd
      have hle := q9leB_ok hM w1 c6 c5
      rw [a1, q9ev_zero, h4] at hle
      have hle : kI.toInt ≤ (2 * cI).toInt + -1 := hle
      refine q9rf_add hM hw [] List.mem_cons_self q9ty_nil q9no_mem q9no_mem (q9one_mem ?_) q9no_mem
      unfold q9FCok
      rw [q9upL_agr.iv w3, q9upL_agr.iv (q9okAV_lt v2), q9iv_of h3]
      show _ ≤ q9iv r c.1 + (c.2 - 1)
      omega
    · cases h
  · cases h
/-- a count that is taken as an int -/
noncomputable def q9convR_o (c : Nat) : q9RF := fun x => match (q9tX x).find? (fun q => q.1 == 12 && q.2.1 == (c, 0)), (q9tA x).find? (fun z => z.1 == c && (match q9num (q9tE x) z.2.2 with
      | some (0, l, h) => decide (1000 ≤ l) && decide (h < 7000)
      | _ => false)), (q9tE x)[c]? with
  | some q, some z, some (1, l, h) => if 0 ≤ l ∧ h ≤ 2147483647 then some [q9addS x [] [] [(q.2.2.2, z.2.1, z.2.2)] [] []] else none
  | _, _, _ => none
noncomputable def q9convR (c : Nat) : q9RF := fun x => match q9fi9 (q9tX x) (fun q => q9nd9 (q9eq9 (q.1) (12)) (q9eq9 (q.2.1) ((c, 0)))), q9fi9 (q9tA x) (fun z => q9nd9 (q9eq9 (z.1) (c)) ((match q9num (q9tE x) z.2.2 with
      | some (0, l, h) => q9nd9 ((q9le9 (1000) (l))) ((q9lt9 (h) (7000)))
      | _ => false))), (q9ge9 (q9tE x) (c)) with
  | some q, some z, some (1, l, h) => if 0 ≤ l ∧ h ≤ 2147483647 then some [q9addS x [] [] [(q.2.2.2, z.2.1, z.2.2)] [] []] else none
  | _, _, _ => none
theorem q9convR_oq : @q9convR = @q9convR_o := by
  delta q9convR q9convR_o
  simp only [q9ge9_eq, q9fi9_eq, q9an9_eq, q9al9_eq, q9flt9_eq, q9el9_eq, q9set9_eq, q9ln9_eq, q9gD9_eq, q9ap9_eq, q9eq9_N, q9eq9_I, q9eq9_A, q9eq9_E, q9eq9_OI, q9eq9_ON, q9eq9_OA, q9eq9_L, q9eq9_S, q9de9_N, q9de9_I, q9de9_A, q9le9_N, q9le9_I, q9lt9_N, q9lt9_I, q9de9_E, q9de9_OI, q9de9_ON, q9de9_OA, q9de9_L, q9nd9_eq, q9or9_eq, Bool.cond_decide]
theorem q9convR_ok (c : Nat) : q9RFok O (q9convR c) := by
  intro nL g cT A x r G ws ls st xs hw hM hT hD h
  (rewrite [q9convR_oq] at h; unfold q9convR_o at h)
  split at h
  · rename_i q z l h' hq hz hE
    split at h
    · rename_i hc
      obtain ⟨c1, c2⟩ := hc
      cases h
      have q1 := List.find?_some hq
      have q2 := List.mem_of_find?_eq_some hq
      have z1 := List.find?_some hz
      have z2 := List.mem_of_find?_eq_some hz
      simp only [Bool.and_eq_true, beq_iff_eq] at q1 z1
      obtain ⟨w1, w2, w3⟩ := q9wf_X hw q q2
      obtain ⟨u, u1, u2, u3⟩ := hM.2.2.2.1 _ _ hE
      have u2 : l ≤ u.toInt := u2
      have u3 : u.toInt ≤ h' := u3
      have h3 := hM.2.2.2.2.2.2.2 q q2
      unfold q9EXok at h3
      rw [q1.1, q1.2, q9ev_zero, u1] at h3
      have h3 : r q.2.2.2 = .int u.toInt32 := by
        cases hv : q9ev r q.2.2.1 <;> rw [hv] at h3 <;> exact (Option.some.inj h3).symm
      have hu := q9n_ofL (x := u) (by omega) (by omega)
      have hfam : q9famT (1, l, h') = some 0 := by
        have h11 : (1 : Nat) ≤ 1 := Nat.le_refl 1
        (rewrite [q9famT_oq]; unfold q9famT_o)
        rw [if_pos h11, if_pos c1]
      obtain ⟨q', a, n, fs, M, cc, b, w, nn, k1, k2, k3, k4, k5, k6, k7, k8, k9, -⟩ := q9ja_of hM z2 (by rw [z1.1]; exact hE) hfam
      have hcc : cc = u.toInt := by
        rw [z1.1, u1] at k4
        exact (Option.some.inj k4).symm
      have w4 := q9wf_A hw z z2
      obtain ⟨-, z3⟩ := z1
      split at z3
      · rename_i l9 h9 hn9
        rw [Bool.and_eq_true, decide_eq_true_eq, decide_eq_true_eq] at z3
        have hw9 := q9num_iv hM.2.2.2.1 w4.2.2 hn9 k6
        refine q9rf_add hM hw [] List.mem_cons_self q9ty_nil q9no_mem (q9one_mem (.inr (.inl ⟨q', a, n, fs, M, cc, b, w, nn, k1, k2, ?_, ?_, ?_, ?_, k7, k8⟩))) q9no_mem q9no_mem
        · rw [q9jFc_pos (k9 rfl)]
          rw [q9jFc_pos (Int.le_refl 0)] at k3
          exact k3
        · show q9nV (q9upL r _ [] q.2.2.2) = _
          rw [q9upL_lt w3, h3, hcc]
          show some u.toInt32.toInt = _
          rw [hu]
        · show q9ev _ z.2.1 = _
          rw [q9upL_agr.ev w4.2.1]
          exact k5
        · show q9ev _ z.2.2 = _
          rw [q9upL_agr.ev w4.2.2]
          exact k6
      · cases z3
    · cases h
  · cases h
/-- nought and something -/
noncomputable def q9zeroX_o (a : Nat) : q9RF := fun x => match (q9tE x)[a]? with
  | some (0, _, _) => if q9zeroB x = true ∧ q9okAV (q9tE x) (a, 0) = true then some [q9addS x [] [] [] [] [(0, (0, 0), (a, 0), a)]] else none
  | _ => none
noncomputable def q9zeroX (a : Nat) : q9RF := fun x => match (q9ge9 (q9tE x) (a)) with
  | some (0, _, _) => if q9zeroB x = true ∧ q9okAV (q9tE x) (a, 0) = true then some [q9addS x [] [] [] [] [(0, (0, 0), (a, 0), a)]] else none
  | _ => none
theorem q9zeroX_oq : @q9zeroX = @q9zeroX_o := by
  delta q9zeroX q9zeroX_o
  simp only [q9ge9_eq, q9fi9_eq, q9an9_eq, q9al9_eq, q9flt9_eq, q9el9_eq, q9set9_eq, q9ln9_eq, q9gD9_eq, q9ap9_eq, q9eq9_N, q9eq9_I, q9eq9_A, q9eq9_E, q9eq9_OI, q9eq9_ON, q9eq9_OA, q9eq9_L, q9eq9_S, q9de9_N, q9de9_I, q9de9_A, q9le9_N, q9le9_I, q9lt9_N, q9lt9_I, q9de9_E, q9de9_OI, q9de9_ON, q9de9_OA, q9de9_L, q9nd9_eq, q9or9_eq, Bool.cond_decide]
theorem q9zeroX_ok (a : Nat) : q9RFok O (q9zeroX a) := by
  intro nL g cT A x r G ws ls st xs hw hM hT hD h
  (rewrite [q9zeroX_oq] at h; unfold q9zeroX_o at h)
  split at h
  · rename_i l h' hE
    split at h
    · rename_i hc
      obtain ⟨c1, c2⟩ := hc
      cases h
      obtain ⟨u, u1, -⟩ := hM.2.2.2.1 _ _ hE
      refine q9rf_add hM hw [] List.mem_cons_self q9ty_nil q9no_mem q9no_mem q9no_mem (q9one_mem ?_)
      unfold q9EXok
      show q9exop O 0 (q9ev _ (0, 0)) (q9ev _ (a, 0)) = some (q9upL r (q9tE x).length [] a)
      rw [q9ev_agree (a := (0, 0)) (q9upL_lt (q9lt_of_E (q9zero_at c1))), q9upL_agr.ev c2, q9upL_lt (q9lt_of_E hE), q9ev_zero (k := a), u1, q9zero_ev hM.2.2.2.1 (q9zero_at c1) 0]
      show some (Value.int (Int32.ofInt 0 + u)) = _
      rw [show Int32.ofInt 0 = (0 : Int32) from rfl, Int32.zero_add]
    · cases h
  · cases h
noncomputable def q9acM_o (x : q9ST) (o : Nat) (s : q9AV) (k : Nat) : Bool := q9elB x o 23 s (if k = 7 ∨ k ≤ 1 then 1 else -2147483648) (if k = 7 then 20 else if k ≤ 1 then 200 else 2147483647)
noncomputable def q9acM (x : q9ST) (o : Nat) (s : q9AV) (k : Nat) : Bool := q9elB x o 23 s (if k = 7 ∨ k ≤ 1 then 1 else -2147483648) (bif q9de9 (k) (7) then 20 else bif q9le9 (k) (1) then 200 else 2147483647)
theorem q9acM_oq : @q9acM = @q9acM_o := by
  delta q9acM q9acM_o
  simp only [q9ge9_eq, q9fi9_eq, q9an9_eq, q9al9_eq, q9flt9_eq, q9el9_eq, q9set9_eq, q9ln9_eq, q9gD9_eq, q9ap9_eq, q9eq9_N, q9eq9_I, q9eq9_A, q9eq9_E, q9eq9_OI, q9eq9_ON, q9eq9_OA, q9eq9_L, q9eq9_S, q9de9_N, q9de9_I, q9de9_A, q9le9_N, q9le9_I, q9lt9_N, q9lt9_I, q9de9_E, q9de9_OI, q9de9_ON, q9de9_OA, q9de9_L, q9nd9_eq, q9or9_eq, Bool.cond_decide]
noncomputable def q9acX_o (x : q9ST) (s v : q9AV) (d k : Nat) (z : Nat × q9AV × q9AV) (m e : q9AV) : Bool := (if k ≤ 1 then (q9tX x).any (fun q => q.1 == 20 && (q.2.1 == (z.1, 0) && (q.2.2.2 == v.1 && (q9tX x).any (fun p => p.1 == 11 && (p.2.1 == m && (p.2.2.2, 0) == q.2.2.1)))))
         else if k = 7 then decide (0 < d) && (q9okAV (q9tE x) (s.1, s.2 + 1) && (q9tX x).any (fun q => q.1 == 20 && (q.2.1 == (z.1, 0) && (q.2.2.2 == v.1 && (q9tX x).any (fun w => w.1 == 22 && ((w.2.2.2, 0) == q.2.2.1 && (w.2.2.1.2 == 0 && (q9isLng x w.2.2.1 && ((q9tX x).any (fun p => p.1 == 11 && (p.2.1 == m && (p.2.2.2, 0) == w.2.1)) && (q9tA x).any (fun y => y.1 == w.2.2.1.1 && (q9isCn x (s.1, s.2 + 1) d 60 y && (q9leB x y.2.2 e (1000 * (d : Int)) && q9leB x e y.2.2 (-(1000 * (d : Int))))))))))))))) 
         else v.1 == z.1)
noncomputable def q9acX (x : q9ST) (s v : q9AV) (d k : Nat) (z : Nat × q9AV × q9AV) (m e : q9AV) : Bool := (bif q9le9 (k) (1) then q9an9 (q9tX x) (fun q => q9nd9 (q9eq9 (q.1) (20)) ((q9nd9 (q9eq9 (q.2.1) ((z.1, 0))) ((q9nd9 (q9eq9 (q.2.2.2) (v.1)) (q9an9 (q9tX x) (fun p => q9nd9 (q9eq9 (p.1) (11)) ((q9nd9 (q9eq9 (p.2.1) (m)) (q9eq9 ((p.2.2.2, 0)) (q.2.2.1)))))))))))
         else bif q9de9 (k) (7) then q9nd9 ((q9lt9 (0) (d))) ((q9nd9 (q9okAV (q9tE x) (s.1, s.2 + 1)) (q9an9 (q9tX x) (fun q => q9nd9 (q9eq9 (q.1) (20)) ((q9nd9 (q9eq9 (q.2.1) ((z.1, 0))) ((q9nd9 (q9eq9 (q.2.2.2) (v.1)) (q9an9 (q9tX x) (fun w => q9nd9 (q9eq9 (w.1) (22)) ((q9nd9 (q9eq9 ((w.2.2.2, 0)) (q.2.2.1)) ((q9nd9 (q9eq9 (w.2.2.1.2) (0)) ((q9nd9 (q9isLng x w.2.2.1) ((q9nd9 (q9an9 (q9tX x) (fun p => q9nd9 (q9eq9 (p.1) (11)) ((q9nd9 (q9eq9 (p.2.1) (m)) (q9eq9 ((p.2.2.2, 0)) (w.2.1)))))) (q9an9 (q9tA x) (fun y => q9nd9 (q9eq9 (y.1) (w.2.2.1.1)) ((q9nd9 (q9isCn x (s.1, s.2 + 1) d 60 y) ((q9nd9 (q9leB x y.2.2 e (1000 * (d : Int))) (q9leB x e y.2.2 (-(1000 * (d : Int)))))))))))))))))))))))))))) 
         else q9eq9 (v.1) (z.1))
theorem q9acX_oq : @q9acX = @q9acX_o := by
  delta q9acX q9acX_o
  simp only [q9ge9_eq, q9fi9_eq, q9an9_eq, q9al9_eq, q9flt9_eq, q9el9_eq, q9set9_eq, q9ln9_eq, q9gD9_eq, q9ap9_eq, q9eq9_N, q9eq9_I, q9eq9_A, q9eq9_E, q9eq9_OI, q9eq9_ON, q9eq9_OA, q9eq9_L, q9eq9_S, q9de9_N, q9de9_I, q9de9_A, q9le9_N, q9le9_I, q9lt9_N, q9lt9_I, q9de9_E, q9de9_OI, q9de9_ON, q9de9_OA, q9de9_L, q9nd9_eq, q9or9_eq, Bool.cond_decide]
/-- frames counted so far, with q9one line q9more -/
noncomputable def q9acC_o (o : Nat) (b s : q9AV) (d : Nat) (v : q9AV) : q9RF := fun x => match (q9tE x)[o]?, q9enA x o s, (q9tA x).find? (fun z => q9isCn x b (1 + d) 60 z && (q9leB x z.2.2 s (1000 * ((1 + d : Nat) : Int)) && q9leB x s z.2.2 (-(1000 * ((1 + d : Nat) : Int))))), q9knd x o s, q9mnA x o s with
  | some (2, 12, _), some e, some z, some k, some m => (match q9num (q9tE x) b, q9num (q9tE x) s, q9num (q9tE x) e with
    | some (0, _, _), some (0, _, _), some (0, _, he) => if d ≤ 4 ∧ q9okAV (q9tE x) b = true ∧ q9okAV (q9tE x) s = true ∧ q9leB x s e (-1) = true ∧ he ≤ 60 ∧ q9okAV (q9tE x) (e.1, e.2 + 1000 * ((1 + d : Nat) : Int)) = true ∧ q9isInt x e = true ∧ q9isInt x s = true ∧ v.2 = 0 ∧ q9okAV (q9tE x) v = true ∧ q9isLng x (z.1, 0) = true ∧ q9acM x o s k = true ∧ q9acX x s v d k z m e = true then
        (match q9cutLo (q9tE x) v.1 0 with
          | some E => if q9wfB (q9sE x E) = true then some [q9addS (q9sE x E) [] [] [(v.1, b, (e.1, e.2 + 1000 * ((1 + d : Nat) : Int)))] [] []] else none
          | none => none) else none
    | _, _, _ => none)
  | _, _, _, _, _ => none
noncomputable def q9acC (o : Nat) (b s : q9AV) (d : Nat) (v : q9AV) : q9RF := fun x => match (q9ge9 (q9tE x) (o)), q9enA x o s, q9fi9 (q9tA x) (fun z => q9nd9 (q9isCn x b (1 + d) 60 z) ((q9nd9 (q9leB x z.2.2 s (1000 * ((1 + d : Nat) : Int))) (q9leB x s z.2.2 (-(1000 * ((1 + d : Nat) : Int))))))), q9knd x o s, q9mnA x o s with
  | some (2, 12, _), some e, some z, some k, some m => (match q9num (q9tE x) b, q9num (q9tE x) s, q9num (q9tE x) e with
    | some (0, _, _), some (0, _, _), some (0, _, he) => if d ≤ 4 ∧ q9okAV (q9tE x) b = true ∧ q9okAV (q9tE x) s = true ∧ q9leB x s e (-1) = true ∧ he ≤ 60 ∧ q9okAV (q9tE x) (e.1, e.2 + 1000 * ((1 + d : Nat) : Int)) = true ∧ q9isInt x e = true ∧ q9isInt x s = true ∧ v.2 = 0 ∧ q9okAV (q9tE x) v = true ∧ q9isLng x (z.1, 0) = true ∧ q9acM x o s k = true ∧ q9acX x s v d k z m e = true then
        (match q9cutLo (q9tE x) v.1 0 with
          | some E => if q9wfB (q9sE x E) = true then some [q9addS (q9sE x E) [] [] [(v.1, b, (e.1, e.2 + 1000 * ((1 + d : Nat) : Int)))] [] []] else none
          | none => none) else none
    | _, _, _ => none)
  | _, _, _, _, _ => none
theorem q9acC_oq : @q9acC = @q9acC_o := by
  delta q9acC q9acC_o
  simp only [q9ge9_eq, q9fi9_eq, q9an9_eq, q9al9_eq, q9flt9_eq, q9el9_eq, q9set9_eq, q9ln9_eq, q9gD9_eq, q9ap9_eq, q9eq9_N, q9eq9_I, q9eq9_A, q9eq9_E, q9eq9_OI, q9eq9_ON, q9eq9_OA, q9eq9_L, q9eq9_S, q9de9_N, q9de9_I, q9de9_A, q9le9_N, q9le9_I, q9lt9_N, q9lt9_I, q9de9_E, q9de9_OI, q9de9_ON, q9de9_OA, q9de9_L, q9nd9_eq, q9or9_eq, Bool.cond_decide]
theorem q9numT {G : q9GH} {t : q9ET} {v : Value} {c : Int} (h : q9nV v = some c) (hv : q9tyV G t v) : t.1 = 0 ∨ t.1 = 1 := by
  obtain ⟨k, lo, hi⟩ := t
  match k, hv with
  | 0, _ => exact .inl rfl
  | 1, _ => exact .inr rfl
  | 2, ⟨a, n, e, _⟩ => rw [e] at h; cases h
  | 3, .inl e => rw [show v = .null from e] at h; cases h
  | 3, .inr ⟨a, n, e, _⟩ => rw [e] at h; cases h
  | 4, e => rw [show v = .null from e] at h; cases h
  | 5, ⟨a, e⟩ => rw [e] at h; cases h
  | _ + 6, .inl e => rw [show v = .null from e] at h; cases h
  | _ + 6, .inr ⟨a, e⟩ => rw [e] at h; cases h
theorem q9ex11 {u : Int32} {w v : Value} (h : q9exop O 11 (.int u) w = some v) : v = .long u.toInt64 := by
  cases w <;> exact (Option.some.inj h).symm
theorem q9nV_long {v : Value} {c : Int} (h : q9nV v = some c) {w : Int64} (hv : v = .long w) : w.toInt = c := by
  rw [hv] at h
  exact Option.some.inj h
theorem q9acC_ok (o : Nat) (b s : q9AV) (d : Nat) (v : q9AV) : q9RFok O (q9acC o b s d v) := by
  intro nL g cT A x r G ws ls st xs hw hM hT hD h
  (rewrite [q9acC_oq] at h; unfold q9acC_o at h)
  split at h
  · rename_i h9 e0 z k m ho he hz hk hm
    split at h
    · rename_i bl bh sl q9sh el he6 hnb hns hne
      split at h
      · rename_i hc
        obtain ⟨c1, c2, c3, c4, c5, c6, c7, q9c8, c9, c10, c11, c12, c13⟩ := hc
        have hm1 := List.mem_of_find?_eq_some hz
        have hf1 := List.find?_some hz
        rw [Bool.and_eq_true, Bool.and_eq_true] at hf1
        obtain ⟨bI, b1, -⟩ := q9num_int hM.2.2.2.1 c2 hnb
        obtain ⟨y, y1, -⟩ := q9num_int hM.2.2.2.1 c3 hns
        obtain ⟨q, a, n, fs, M, c, w, e, k1, k2, k3, k4, k5, k6, k7, k8, k9, k10, k11⟩ := q9isCn_ok (t := 1 + d) hM hw hm1 c2 b1 (by omega) hf1.1
        obtain ⟨e1, e2⟩ := q9enA_ok hM hw hT hD ho k1 k2 k3 c3 y1 he
        obtain ⟨m1, m2⟩ := q9mnA_ok hM hw hT hD ho k1 k2 k3 c3 y1 hm
        have hkk := q9knd_ok hM hw hT hD ho k1 k2 k3 c3 y1 hk
        (rewrite [q9acM_oq] at c12; unfold q9acM_o at c12)
        have hmn := q9elB_ok hM hw hT hD ho k1 k2 k3 c3 y1 (j := 23) (cd := 179) (by decide) (by decide) c12
        have w1 := q9wf_A hw z hm1
        have l1 := q9leB_ok hM w1.2.2 c3 hf1.2.1
        have l2 := q9leB_ok hM c3 w1.2.2 hf1.2.2
        rw [k6, y1] at l1 l2
        have l1 : w.toInt ≤ y.toInt + 1000 * ((1 + d : Nat) : Int) := l1
        have l2 : y.toInt ≤ w.toInt + -(1000 * ((1 + d : Nat) : Int)) := l2
        rw [if_pos (by omega), show 1 + d - 1 = d by omega] at k11
        have l3 := q9leB_ok hM c3 e1 c4
        rw [y1, e2] at l3
        have l3 : y.toInt ≤ (M 29 y.toNatClampNeg).toInt + -1 := l3
        have hyc : y.toNatClampNeg = y.toInt.toNat := rfl
        have hbc : bI.toNatClampNeg = bI.toInt.toNat := rfl
        have hne9 := q9num_iv hM.2.2.2.1 e1 hne e2
        have hey : e = y.toNatClampNeg := by omega
        subst hey
        have hlt : y.toNatClampNeg < q9enN M y.toNatClampNeg := by
          unfold q9enN
          omega
        have hen : q9enN M y.toNatClampNeg ≤ 60 := by
          unfold q9enN
          omega
        obtain ⟨cL, cL1⟩ := q9isLng_ok hM.2.2.2.1 c11
        rw [q9ev_zero] at cL1
        have cL2 := q9nV_long k4 cL1
        obtain ⟨ye, s3, s4⟩ := q9ev_off hM.2.2.2.1 e1 c6 c7 e2
        have fin : ∀ zl : Int, q9lnP M (q9CNT M) d y.toNatClampNeg zl → q9nV (r v.1) = some (c + zl) → ∃ x' ∈ xs, ∃ r' : Nat → Value, q9agr (q9tE x).length r r' ∧ (q9tE x).length ≤ (q9tE x').length ∧ q9tN x' = q9tN x ∧ q9tM x' = q9tM x ∧ q9SM O nL g x' r' G ws ls st := by
          intro zl hzl hv9
          have hsn := k11.snoc hlt hzl
          have hbd := hsn.bd4 hen c1
          obtain ⟨t9, ht9⟩ : ∃ t9, (q9tE x)[v.1]? = some t9 := ⟨_, List.getElem?_eq_getElem (q9okAV_lt c10)⟩
          obtain ⟨E9, q1, q2, q3, -⟩ := q9cutLo_ok hM.2.2.2.1 ht9 (q9numT hv9 (hM.2.2.2.1 _ _ ht9)) (l := 0) (by rw [q9iv_nV hv9]; exact hbd.1)
          rw [q1] at h
          dsimp only at h
          split at h
          · rename_i hw9
            cases h
            have hM9 := hM.E q2
            obtain ⟨x', x1, r', x2, x3, x4, x5, x6⟩ := q9rf_add hM9 hw9 (F' := []) (A' := [(v.1, b, (e0.1, e0.2 + 1000 * ((1 + d : Nat) : Int)))]) (C' := []) (X' := []) (ts := []) [] List.mem_cons_self q9ty_nil q9no_mem (q9one_mem (q9cn_mk (t := 1 + d) (e := (M 29 y.toNatClampNeg).toInt.toNat) (c := c + zl) (b := bI) (w := ye) k1 k2 k3 (by
                show q9nV (q9upL r (q9tE (q9sE x E9)).length [] v.1) = _
                rw [q9upL_lt (by show v.1 < E9.length; rw [q3]; exact q9okAV_lt c10)]
                exact hv9) hbd.1 (by
                show q9ev _ b = _
                rw [q9ev_agree (q9upL_lt (by show b.1 < E9.length; rw [q3]; exact q9okAV_lt c2))]
                exact b1) (by
                show q9ev _ (e0.1, _) = _
                rw [q9ev_agree (a := (e0.1, e0.2 + 1000 * ((1 + d : Nat) : Int))) (q9upL_lt (by show e0.1 < E9.length; rw [q3]; exact q9okAV_lt e1))]
                exact s3) k10 (by omega) (by omega) (by omega) (by
                rw [if_pos (by omega), show 1 + d - 1 = d by omega]
                exact hsn))) q9no_mem q9no_mem
            have x2 : q9agr E9.length r r' := x2
            have x3 : E9.length ≤ (q9tE x').length := x3
            rw [q3] at x2 x3
            exact ⟨x', x1, r', x2, x3, x4, x5, x6⟩
          · cases h
        (rewrite [q9acX_oq] at c13; unfold q9acX_o at c13)
        split at c13
        · rename_i hk1
          rw [if_pos (.inr hk1), if_neg (by omega), if_pos hk1] at hmn
          obtain ⟨qx, x1, x2⟩ := List.any_eq_true.mp c13
          simp only [Bool.and_eq_true, beq_iff_eq] at x2
          obtain ⟨x2, x3, x4, x5⟩ := x2
          obtain ⟨px, p1, p2⟩ := List.any_eq_true.mp x5
          simp only [Bool.and_eq_true, beq_iff_eq] at p2
          obtain ⟨p2, p3, p4⟩ := p2
          have h3 := hM.2.2.2.2.2.2.2 px p1
          unfold q9EXok at h3
          rw [p2, p3, m2] at h3
          have h3 := q9ex11 h3
          have h4 := hM.2.2.2.2.2.2.2 qx x1
          unfold q9EXok at h4
          rw [x2, x3, q9ev_zero, cL1, ← p4, q9ev_zero, h3, x4] at h4
          have h4 : r v.1 = .long (cL + (M 23 y.toNatClampNeg).toInt64) := (Option.some.inj h4).symm
          have hzl : q9lnP M (q9CNT M) d y.toNatClampNeg (M 23 y.toNatClampNeg).toInt := .inl ⟨by omega, hmn.1, hmn.2, rfl⟩
          have hbd := (k11.snoc hlt hzl).bd4 hen c1
          refine fin _ hzl ?_
          rw [h4]
          show some (cL + (M 23 y.toNatClampNeg).toInt64).toInt = _
          rw [q9m_add (by rw [Int32.toInt_toInt64]; omega) (by rw [Int32.toInt_toInt64]; omega), Int32.toInt_toInt64, cL2]
        · rename_i hk1
          split at c13
          · rename_i hk7
            rw [if_pos (.inl hk7), if_pos hk7] at hmn
            simp only [Bool.and_eq_true, decide_eq_true_eq] at c13
            obtain ⟨d1, d2, d3⟩ := c13
            obtain ⟨qx, x1, x2⟩ := List.any_eq_true.mp d3
            simp only [Bool.and_eq_true, beq_iff_eq] at x2
            obtain ⟨x2, x3, x4, x5⟩ := x2
            obtain ⟨wx, g1, g2⟩ := List.any_eq_true.mp x5
            simp only [Bool.and_eq_true, beq_iff_eq] at g2
            obtain ⟨g2, g3, g4, g5, g6, g7⟩ := g2
            obtain ⟨px, p1, p2⟩ := List.any_eq_true.mp g6
            simp only [Bool.and_eq_true, beq_iff_eq] at p2
            obtain ⟨p2, p3, p4⟩ := p2
            obtain ⟨z3, z4, z5⟩ := List.any_eq_true.mp g7
            simp only [Bool.and_eq_true, beq_iff_eq] at z5
            obtain ⟨z5, z6, z7, z8⟩ := z5
            obtain ⟨d', rfl⟩ : ∃ d' : Nat, d = d' + 1 := ⟨d - 1, by omega⟩
            obtain ⟨ys, s1, s2⟩ := q9ev_off hM.2.2.2.1 c3 d2 q9c8 y1
            obtain ⟨q', a', n2, fs', M2, i, w3, e3, j1, j2, j3, j4, j5, j6, j7, j8, j9, j10, j11⟩ := q9isCn_ok (t := d' + 1) hM hw z4 d2 s1 (by omega) z6
            obtain ⟨-, hM2⟩ := q9sameM hT hD k1 k2 k3 j1 j2 j3
            have w4 := q9wf_A hw z3 z4
            have l5 := q9leB_ok hM w4.2.2 e1 z7
            have l6 := q9leB_ok hM e1 w4.2.2 z8
            rw [j6, e2] at l5 l6
            have l5 : w3.toInt ≤ (M 29 y.toNatClampNeg).toInt + 1000 * ((d' + 1 : Nat) : Int) := l5
            have l6 : (M 29 y.toNatClampNeg).toInt ≤ w3.toInt + -(1000 * ((d' + 1 : Nat) : Int)) := l6
            have hyc2 : ys.toNatClampNeg = ys.toInt.toNat := rfl
            rw [if_pos (by omega), show d' + 1 - 1 = d' by omega, show ys.toNatClampNeg = y.toNatClampNeg + 1 by omega, show e3 = q9enN M y.toNatClampNeg by unfold q9enN; omega] at j11
            have hin : q9CNT M d' (y.toNatClampNeg + 1) (q9enN M y.toNatClampNeg) i := j11.fr fun i9 _ hi9 k9 hk9 => by
              have := (by decide : ∀ k ∈ [22, 23, 29], (k, k + 156) ∈ q9jF1) k9 hk9
              rw [hM2 _ this]
            obtain ⟨wwf1, wwf2, wwf3⟩ := q9wf_X hw wx g1
            obtain ⟨q9iL, iL1⟩ := q9isLng_ok hM.2.2.2.1 g5
            have iL2 : q9iL.toInt = i := by
              rw [z5] at j4
              refine q9nV_long j4 ?_
              rw [q9isSym g4] at iL1
              exact iL1
            have h3 := hM.2.2.2.2.2.2.2 px p1
            unfold q9EXok at h3
            rw [p2, p3, m2] at h3
            have h3 := q9ex11 h3
            have h5 := hM.2.2.2.2.2.2.2 wx g1
            unfold q9EXok at h5
            rw [g2, ← p4, q9ev_zero, h3, iL1] at h5
            have h5 : r wx.2.2.2 = .long ((M 23 y.toNatClampNeg).toInt64 * q9iL) := (Option.some.inj h5).symm
            have h4 := hM.2.2.2.2.2.2.2 qx x1
            unfold q9EXok at h4
            rw [x2, x3, q9ev_zero, cL1, ← g3, q9ev_zero, h5, x4] at h4
            have h4 : r v.1 = .long (cL + (M 23 y.toNatClampNeg).toInt64 * q9iL) := (Option.some.inj h4).symm
            have hzl : q9lnP M (q9CNT M) (d' + 1) y.toNatClampNeg ((M 23 y.toNatClampNeg).toInt * i) := .inr (.inl ⟨by omega, hmn.1, hmn.2, d', i, rfl, hin, rfl⟩)
            have hbd := (k11.snoc hlt hzl).bd4 hen c1
            have hpo : 0 ≤ (M 23 y.toNatClampNeg).toInt * i := Int.mul_nonneg (by omega) (hin.bd4 hen (by omega)).1
            have hml : ((M 23 y.toNatClampNeg).toInt64 * q9iL).toInt = (M 23 y.toNatClampNeg).toInt * i := by
              rw [q9m_mul (by rw [Int32.toInt_toInt64, iL2]; omega) (by rw [Int32.toInt_toInt64, iL2]; omega), Int32.toInt_toInt64, iL2]
            refine fin _ hzl ?_
            rw [h4]
            show some (cL + (M 23 y.toNatClampNeg).toInt64 * q9iL).toInt = _
            rw [q9m_add (by rw [hml]; omega) (by rw [hml]; omega), hml, cL2]
          · rename_i hk7
            simp only [beq_iff_eq] at c13
            refine fin 0 (.inr (.inr ⟨by omega, by omega, by omega, rfl⟩)) ?_
            rw [c13, Int.add_zero]
            exact k4
      · cases h
    · cases h
  · cases h
/-- a field is looked q9up -/
noncomputable def q9fldR (o j : Nat) : q9RF := fun x => match q9codeOf x o with
  | some cd => if cd < 100 ∧ j ≠ 1000 then (match q9fet q9TBL x o cd j with
    | some (x1, _) => some [x1]
    | none => none) else none
  | none => none
theorem q9fldR_ok (o j : Nat) : q9RFok O (q9fldR o j) := by
  intro nL g cT A x r G ws ls st xs hw hM hT hD h
  unfold q9fldR at h
  split at h
  · rename_i cd hcd
    split at h
    · rename_i hc
      split at h
      · rename_i x1 v hf
        cases h
        obtain ⟨a, n, e1, e2⟩ := q9codeOf_ok hM.2.2.2.1 hcd
        have hal : o < (q9tE x).length := by
          (rewrite [q9codeOf_oq] at hcd; unfold q9codeOf_o at hcd)
          cases hE : (q9tE x)[o]? with
          | none => rw [hE] at hcd; cases hcd
          | some t => exact q9lt_of_E hE
        obtain ⟨r', i, fs, F, g1, g2, g3, g4, g5, g6, -⟩ := q9fet_ok hw hM hT hD hc.2 e1 hal e2 hc.1 hf
        exact ⟨x1, List.mem_cons_self, r', g1, g2, g5, g6, g3⟩
      · cases h
    · cases h
  · cases h
/-- what the comparisons say of the ranges -/
noncomputable def q9prpR : q9RF := fun x => match q9propL (q9tC x) x with
  | some x1 => some [x1]
  | none => some []
theorem q9prpR_ok : q9RFok O q9prpR := by
  intro nL g cT A x r G ws ls st xs hw hM hT hD h
  unfold q9prpR at h
  obtain ⟨x', e1, m1⟩ := q9propL_ok (q9tC x) x hM hM.2.2.2.2.2.2.1
  rw [e1] at h
  cases h
  exact q9rf_more hM List.mem_cons_self m1
/-- an element is looked q9up -/
noncomputable def q9elN_o (a : Nat) (s : q9AV) : q9RF := fun x => match q9fA x a s with
  | some _ => some [x]
  | none => (match q9kindOf q9TBL x a with
    | some (_, k) => if q9numK k = true ∧ q9okAV (q9tE x) s = true ∧ q9inB x a s k = true then some [q9addS x [k.2.2.2] [] [(a, s, ((q9tE x).length, 0))] [] []] else none
    | none => none)
noncomputable def q9elN (a : Nat) (s : q9AV) : q9RF := fun x => match q9fA x a s with
  | some _ => some [x]
  | none => (match q9kindOf q9TBL x a with
    | some (_, k) => if q9numK k = true ∧ q9okAV (q9tE x) s = true ∧ q9inB x a s k = true then some [q9addS x [k.2.2.2] [] [(a, s, ((q9ln9 (q9tE x)), 0))] [] []] else none
    | none => none)
theorem q9elN_oq : @q9elN = @q9elN_o := by
  delta q9elN q9elN_o
  simp only [q9ge9_eq, q9fi9_eq, q9an9_eq, q9al9_eq, q9flt9_eq, q9el9_eq, q9set9_eq, q9ln9_eq, q9gD9_eq, q9ap9_eq, q9eq9_N, q9eq9_I, q9eq9_A, q9eq9_E, q9eq9_OI, q9eq9_ON, q9eq9_OA, q9eq9_L, q9eq9_S, q9de9_N, q9de9_I, q9de9_A, q9le9_N, q9le9_I, q9lt9_N, q9lt9_I, q9de9_E, q9de9_OI, q9de9_ON, q9de9_OA, q9de9_L, q9nd9_eq, q9or9_eq, Bool.cond_decide]
theorem q9elN_ok (a : Nat) (s : q9AV) : q9RFok O (q9elN a s) := by
  intro nL g cT A x r G ws ls st xs hw hM hT hD h
  (rewrite [q9elN_oq] at h; unfold q9elN_o at h)
  split at h
  · cases h
    exact ⟨x, List.mem_cons_self, r, q9agr.rf, Nat.le_refl _, rfl, rfl, hM⟩
  · split at h
    · rename_i cd k hk
      split at h
      · rename_i hc
        obtain ⟨c1, c2, c3⟩ := hc
        cases h
        obtain ⟨b, n, i, ce, k1, k2, k3, k4, k5, k6, k7⟩ := q9kindOf_ok hM.2.2.2.1 hT hk
        obtain ⟨y, y1, y2, y3⟩ := q9inB_ok hw hM hT hD c2 k1 k2 k5 c3
        obtain ⟨f, hf⟩ := q9numK_ok k5 c1
        have hty := q9el_ty k5 y3
        subst hf
        have hal : a < (q9tE x).length := by
          have hk9 := hk
          (rewrite [q9kindOf_oq] at hk9; unfold q9kindOf_o at hk9; rewrite [q9codeOf_oq] at hk9; unfold q9codeOf_o at hk9)
          cases hE : (q9tE x)[a]? with
          | none => rw [hE] at hk9; cases hk9
          | some t => exact q9lt_of_E hE
        refine q9rf_add hM hw [q9elV (.inl (cT k.1, n, f)) y.toNatClampNeg] List.mem_cons_self (q9ty_cons hty q9ty_nil) q9no_mem (q9one_mem (.inl ⟨b, i, cT k.1, n, f, y, (q9upL_lt hal).trans k1, k4, ?_, q9evU0⟩)) q9no_mem q9no_mem
        show q9ev _ s = _
        rw [q9upL_agr.ev c2]
        exact y1
      · cases h
    · cases h
