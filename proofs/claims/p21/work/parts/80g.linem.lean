variable {O : ORC}
/-! the filling of an array of objects: q9one q9step of the checker -/
/-- from anewarray to behind the loop: (place, kind, head, store, behind, kind then) -/
noncomputable def q9liM_o (mac : Nat → q9ST → Option (List (Nat × q9ST))) (L : List q9NE) (z : Nat × Nat × Nat × Nat × Nat × Nat) (f a b N : Nat) (n : q9EN) (K K2 : List (Nat × Int)) (cc : ByteArray) (pc : Nat) (x : q9ST) : Option (List (Nat × q9ST)) :=
  if pc = z.1 ∧ q9eT n = ([], []) then (match q9mkM [(z.1, z.2.1)] n 3 pc x 6 with
    | some [q] => if q9wfB q.2 = true ∧ (q9tE q.2).length = (q9tE x).length + 1 then (match q9seg (q9step n K K2 mac (fun _ _ => false) cc) z.2.2.1 f q.1 q.2 with
      | some x2 => if q9wfB x2 = true ∧ q9fitsB x2 (q9liY x2 0 a b) (q9idT (q9tE x2).length) = true ∧ (q9tE x).length < (q9tE x2).length ∧ (q9eB n).2.1[z.2.1 - 100]? = some (6, N, true, (3, 2, 0)) ∧ 250 ≤ z.2.1 ∧ N = 60 ∧ ((List.range N).all (fun i => q9liR (q9step (q9nW n) K K2 (q9newL L (q9nW n) K K2 cc [(1, 1, (0, 0))] 0) (fun _ _ => false) cc) x2 (q9tE x).length a b z.2.2.1 z.2.2.2.1 i)) = true ∧ q9wfB (q9liY x2 N a b) = true then
          (match q9seg (q9step (q9nW n) K K2 (q9newL L (q9nW n) K K2 cc [(1, 1, (0, 0))] 0) (fun _ _ => false) cc) z.2.2.2.2.1 40 z.2.2.1 (q9liY x2 N a b) with
          | some x3 => if q9wfB x3 = true ∧ (q9tE x2).length ≤ (q9tE x3).length ∧ 100 ≤ z.2.2.2.2.2 ∧ (q9eB n).2.1[z.2.2.2.2.2 - 100]? = some (6, N, true, (2, 2, 0)) ∧ q9noC (q9eB n) z.2.1 = true ∧ ((q9tE x3).zipIdx.all (fun w => w.2 == (q9tE x).length || !q9tyC z.2.1 w.1)) = true ∧ z.2.2.2.2.2 = 136 ∧ q9zeroB x3 = true ∧ 0 < (q9tE x).length ∧ q9wfB (q9sE (q9sA x3 []) ((q9tE x3).set (q9tE x).length (2, (z.2.2.2.2.2 : Int), 0))) = true then
              some [(z.2.2.2.2.1, q9sA (q9sE x3 ((q9tE x3).set (q9tE x).length (2, (z.2.2.2.2.2 : Int), 0) ++ [(0, -121, -121)])) [((q9tE x3).length, ((q9tE x).length, 0), (0, 0))])] else none
          | none => none) else none
      | none => none) else none
    | _ => none)
  else none
noncomputable def q9liM (mac : Nat → q9ST → Option (List (Nat × q9ST))) (L : List q9NE) (z : Nat × Nat × Nat × Nat × Nat × Nat) (f a b N : Nat) (n : q9EN) (K K2 : List (Nat × Int)) (cc : ByteArray) (pc : Nat) (x : q9ST) : Option (List (Nat × q9ST)) :=
  if pc = z.1 ∧ q9eT n = ([], []) then (match q9mkM [(z.1, z.2.1)] n 3 pc x 6 with
    | some [q] => if q9wfB q.2 = true ∧ (q9ln9 (q9tE q.2)) = (q9ln9 (q9tE x)) + 1 then (match q9seg (q9step n K K2 mac (fun _ _ => false) cc) z.2.2.1 f q.1 q.2 with
      | some x2 => if q9wfB x2 = true ∧ q9fitsB x2 (q9liY x2 0 a b) (q9idT (q9ln9 (q9tE x2))) = true ∧ (q9ln9 (q9tE x)) < (q9ln9 (q9tE x2)) ∧ (q9ge9 (q9eB n).2.1 (z.2.1 - 100)) = some (6, N, true, (3, 2, 0)) ∧ 250 ≤ z.2.1 ∧ N = 60 ∧ (q9al9 (List.range N) (fun i => q9liR (q9step (q9nW n) K K2 (q9newL L (q9nW n) K K2 cc [(1, 1, (0, 0))] 0) (fun _ _ => false) cc) x2 (q9ln9 (q9tE x)) a b z.2.2.1 z.2.2.2.1 i)) = true ∧ q9wfB (q9liY x2 N a b) = true then
          (match q9seg (q9step (q9nW n) K K2 (q9newL L (q9nW n) K K2 cc [(1, 1, (0, 0))] 0) (fun _ _ => false) cc) z.2.2.2.2.1 40 z.2.2.1 (q9liY x2 N a b) with
          | some x3 => if q9wfB x3 = true ∧ (q9ln9 (q9tE x2)) ≤ (q9ln9 (q9tE x3)) ∧ 100 ≤ z.2.2.2.2.2 ∧ (q9ge9 (q9eB n).2.1 (z.2.2.2.2.2 - 100)) = some (6, N, true, (2, 2, 0)) ∧ q9noC (q9eB n) z.2.1 = true ∧ (q9al9 (q9tE x3).zipIdx (fun w => q9or9 (q9eq9 (w.2) ((q9ln9 (q9tE x)))) (!q9tyC z.2.1 w.1))) = true ∧ z.2.2.2.2.2 = 136 ∧ q9zeroB x3 = true ∧ 0 < (q9ln9 (q9tE x)) ∧ q9wfB (q9sE (q9sA x3 []) (q9set9 (q9tE x3) (q9ln9 (q9tE x)) (2, (z.2.2.2.2.2 : Int), 0))) = true then
              some [(z.2.2.2.2.1, q9sA (q9sE x3 ((q9ap9 (q9set9 (q9tE x3) (q9ln9 (q9tE x)) (2, (z.2.2.2.2.2 : Int), 0)) ([(0, -121, -121)])))) [((q9ln9 (q9tE x3)), ((q9ln9 (q9tE x)), 0), (0, 0))])] else none
          | none => none) else none
      | none => none) else none
    | _ => none)
  else none
theorem q9liM_oq : @q9liM = @q9liM_o := by
  delta q9liM q9liM_o
  simp only [q9ge9_eq, q9fi9_eq, q9an9_eq, q9al9_eq, q9flt9_eq, q9el9_eq, q9set9_eq, q9ln9_eq, q9gD9_eq, q9ap9_eq, q9eq9_N, q9eq9_I, q9eq9_A, q9eq9_E, q9eq9_OI, q9eq9_ON, q9eq9_OA, q9eq9_L, q9eq9_S, q9de9_N, q9de9_I, q9de9_A, q9le9_N, q9le9_I, q9lt9_N, q9lt9_I, q9de9_E, q9de9_OI, q9de9_ON, q9de9_OA, q9de9_L, q9nd9_eq, q9or9_eq, Bool.cond_decide]
theorem q9macx_li {XP : q9ZZ → List Value → Prop} {l : Launch} {own nm : String} {cc : ByteArray} {n : q9EN} {K K2 : List (Nat × Int)} {mac : Nat → q9ST → Option (List (Nat × q9ST))} (hB : q9eB n = q9TBL) (L : List q9NE) (z : Nat × Nat × Nat × Nat × Nat × Nat) (f a b N : Nat) (hmac : q9MACX O XP l q9ALLW own nm cc n K K2 mac) (hL : ∀ w ∈ L, q9NEok O l own cc w) {idx : Nat} (hd3 : Cond.classLink own idx "PuppetFilm$Line" ∈ q9ALLW) (hd : decode cc z.1 = .ok (.anewarray idx, 3)) (hd2 : decode cc z.2.2.2.1 = .ok (.aastore, 1)) : q9MACX O XP l q9ALLW own nm cc n K K2 (q9liM mac L z f a b N n K K2 cc) := by
  intro p e R ko s m args below meth c Q D cT A H0 G0 ws0 z0 g hE hT hX hN pc x ss r hw hm hn
  have hE' := hE
  obtain ⟨hx, hb, hml, hown, hts, hAll, hK, hG, hZ, hA, hF, hPp, hV, hS, hR, h6, h7, h8, h9, hH0, hZz, hzG⟩ := hE'
  (rewrite [q9liM_oq] at hm; unfold q9liM_o at hm)
  split at hm
  · rename_i h0
    obtain ⟨rfl, h1⟩ := h0
    split at hm
    · rename_i q hq
      split at hm
      · rename_i hwq
        obtain ⟨hwq, hlq⟩ := hwq
        split at hm
        · rename_i x2 hseg
          split at hm
          · rename_i hc
            obtain ⟨hw2, hfit, hkl, hK0, hc0, hN9, hall, hwN⟩ := hc
            split at hm
            · rename_i x3 hseg3
              split at hm
              · rename_i hc3
                obtain ⟨hw3, hl3, hc1, hK1, hno, hzip, h136, hz3, hx0, hw9⟩ := hc3
                cases hm
                refine q9mkB_ok (s := s) (D := D) hA hR hK hw hq (fun w hw9 z9 hz9 G ws q0 n0 hXg hKe hlen => ?_) fun ws H locs cells slots M ls rest y hy hyN hN9 hP hD hS9 hc1 hs1 kk => ?_
                · rw [List.mem_singleton] at hw9 hz9
                  subst hw9
                  subst hz9
                  have hext : q9extG G (G ++ [(q0, z.2.1, n0)]) := ⟨_, rfl⟩
                  have hEV1 := hE.base (hXg.tr hext)
                  have hTH1 : ∀ (G9 : q9GH) (ws9 : va_W) (Wr9 : List Nat), q9THok p l e R ko s m args below meth c Q (q9WM D cT (q9eB n) A H0 G9 ws9 Wr9) own (q9eT n) := fun G9 ws9 Wr9 => by
                    rw [h1]
                    exact q9th_nil
                  have hstp := q9step_ok hEV1 (hTH1 (G ++ [(q0, z.2.1, n0)]) (ws ++ [(q0, q9newE cT 6 n0)]) (q9eW n)) (fun pc x ss r' hw hm hn => hmac hEV1 (hTH1 _ _ _) hX hN pc x ss r' hw hm hn) (rt := fun _ _ => false) (fun pc x r' k hw hd hr => by cases hr)
                  refine q9seg_ok hstp f w.1 w.2 x2 _ hseg fun r2 ha2 hl2 => ?_
                  intro G3 ws3 H3 locs3 ls3 st3 hM3 hW3
                  obtain ⟨hP3, hD3, hS3, hTy3, hX3, hKe3⟩ := hW3
                  have hpos : (G ++ [(q0, z.2.1, n0)])[G.length]? = some (q0, z.2.1, n0) := by
                    rw [List.getElem?_append_right (Nat.le_refl _), Nat.sub_self]
                    rfl
                  have hp3 : G3[G.length]? = some (q0, z.2.1, n0) := hX3.at hpos
                  have hk3 : r2 (q9tE x).length = .ref q0 := (ha2 _ (by omega)).trans q9up_at
                  have hXG : q9extG G G3 := hext.tr hX3
                  have hKG : q9keepW (q9eW n) G ws ws3 := fun i a t k9 e9 hi he => hKe3 i a t k9 e9 (hext.at hi) (by rw [List.getElem?_append_left (List.getElem?_eq_some_iff.mp he).1]; exact he)
                  -- the array's length
                  obtain ⟨e0, w1, w2⟩ := hTy3.2.1 _ _ _ _ hp3
                  have hn0 : n0 = N ∧ ∃ f9 : Nat → Option Nat, e0 = .inl (cT 6, N, .inr (.inr (.inr (.inr f9)))) := by
                    rcases w2 with ⟨hh, -⟩ | ⟨-, K9, k1, k2⟩
                    · omega
                    · rw [hK0] at k1
                      cases k1
                      obtain ⟨-, k3, f9, k4, -⟩ := k2
                      have k3 : n0 = N := k3 rfl
                      exact ⟨k3, f9, by rw [k4, k3]⟩
                  obtain ⟨rfl, f9, rfl⟩ := hn0
                  obtain ⟨hMy, hn1, hn2⟩ := q9fits_cut hM3 hfit
                  have hrh : q9agr (q9tE x2).length r2 (q9rh r2 (q9idT (q9tE x2).length)) := fun k hk => by
                    unfold q9rh
                    rw [q9idT_at hk, q9ev_zero]
                  have hst9 : ∀ (G9 : q9GH) (ws9 : va_W), q9extG G G9 → ∀ (pc : Nat) (x : q9ST) (ss : List (Nat × q9ST)) (r : Nat → Value), q9wfB x = true → q9step (q9nW n) K K2 (q9newL L (q9nW n) K K2 cc [(1, 1, (0, 0))] 0) (fun _ _ => false) cc pc x = some ss → q9NX O p l e R ko s m args below meth c Q (q9eN n) g (q9WM D cT (q9eB n) A H0 G9 ws9 []) ss x r → q9GO O p l e R ko s m args below meth c Q (q9eN n) g (q9WM D cT (q9eB n) A H0 G9 ws9 []) pc x r := fun G9 ws9 hX9 => by
                    have hEVn : q9EV O p l R ko s m args c cc D cT A H0 G9 own q9ALLW (q9nW n) K K2 z0 := hE.base (hXg.tr hX9)
                    have hTHn : q9THok p l e R ko s m args below meth c Q (q9WM D cT (q9eB (q9nW n)) A H0 G9 ws9 (q9eW (q9nW n))) own (q9eT (q9nW n)) := hTH1 G9 ws9 []
                    exact q9step_ok (n := q9nW n) hEVn hTHn (fun pc x ss r' hw hm hn => q9macx_newL (XP := XP) (nm := nm) (n := q9nW n) hB L hL [(1, 1, (0, 0))] 0 hEVn hTHn hX hN pc x ss r' hw hm hn) (rt := fun _ _ => false) (fun pc x r' k hw hd hr => by cases hr)
                  have hLI0 : q9LI cT G.length q0 n0 G3 ws3 0 := ⟨f9, w1, fun j hj => absurd hj (Nat.not_lt_zero _), fun j j' hj => absurd hj (Nat.not_lt_zero _)⟩
                  have key := q9liL (rr := q9rh r2 (q9idT (q9tE x2).length)) (hE.base hXg) (ws0 := ws) hst9 (x := x2) (k := (q9tE x).length) (a := a) (b := b) (hd := z.2.2.1) (sp := z.2.2.2.1) (N := n0) (c0 := z.2.1) (p0 := G.length) (q0 := q0) (by omega) (by omega) (by omega) hK0 (Nat.le_refl _) hd2 (fun i hi => List.all_eq_true.mp hall i (List.mem_range.mpr hi)) (fun G4 ws4 H4 locs4 ls4 st4 r4 hM4 hP4 hD4 hS4 hTy4 hX4 hKe4 hp4 hLI4 hk4 hag4 => by
                    refine q9seg_ok (hst9 G4 ws4 hX4) 40 z.2.2.1 (q9liY x2 n0 a b) x3 r4 hseg3 (fun r5 ha5 hl5 => ?_) G4 ws4 H4 locs4 ls4 st4 hM4 ⟨hP4, hD4, hS4, hTy4, q9extG.rf, q9keepW.rf⟩
                    intro G5 ws5 H5 locs5 ls5 st5 hM5 hW5
                    obtain ⟨hP5, hD5, hS5, hTy5, hX5, hKe5⟩ := hW5
                    have ha5 : q9agr (q9tE x2).length r4 r5 := ha5
                    have hp5 := hX5.at hp4
                    have hk5 : r5 (q9tE x).length = .ref q0 := (ha5 _ (by omega)).trans hk4
                    obtain ⟨f5, u1, u2, u3⟩ := hLI4.keep hp4 hX5 hKe5
                    have hM5A := hM5.A (F := []) fun _ hz => (List.not_mem_nil hz).elim
                    have hjj : ∀ y ∈ q9jF, y.2 ≠ z.2.1 := fun y hy => by
                      have := (by decide : ∀ y ∈ q9jF, y.2 < 250) y hy
                      omega
                    obtain ⟨y1, y2⟩ := q9reT (cg := .inr rfl) (c' := z.2.2.2.2.2) hM5A hTy5 hp5 hk5 (show _ < (q9tE x3).length by omega) (by omega) (by omega) (by omega) hjj hno hzip fun e0 w1 w2 hmem => by
                      rw [u1] at w1
                      cases w1
                      refine .inr ⟨hc1, _, hK1, Nat.le_refl _, fun _ => rfl, f5, rfl, fun j hj => ?_⟩
                      obtain ⟨b9, n9, e1, e2⟩ := u2 j hj
                      exact ⟨b9, n9, by rw [e1]; rfl, hmem b9 2 n9 e2 (by omega)⟩
                    have hag : q9agr (q9tE x).length r r5 := fun k hk => by
                      rw [ha5 k (by omega), hag4 k (by omega), hrh k (by omega), ha2 k (by omega), q9up_lt hk]
                    have hXn : q9extG G (G5.set G.length (q0, z.2.2.2.2.2, n0)) := by
                      obtain ⟨Y, hY⟩ := hX4.tr hX5
                      refine ⟨Y.set 0 (q0, z.2.2.2.2.2, n0), ?_⟩
                      rw [hY, List.set_append_right _ _ (Nat.le_refl _), Nat.sub_self]
                    have hl9 : (q9tE (q9sE (q9sA x3 []) ((q9tE x3).set (q9tE x).length (2, (z.2.2.2.2.2 : Int), 0)))).length = (q9tE x3).length := by
                      show ((q9tE x3).set _ _).length = _
                      rw [List.length_set]
                    have y1 : q9SM O (q9eN n) g (q9sE (q9sA x3 []) ((q9tE x3).set (q9tE x).length (2, (z.2.2.2.2.2 : Int), 0))) r5 (G5.set G.length (q0, z.2.2.2.2.2, n0)) ws5 ls5 st5 := y1
                    have y3 := y1.fresh hw9 (t := (0, -121, -121)) (v := .int (-121)) ⟨_, rfl, by decide, by decide⟩
                    rw [hl9] at y3
                    have hG5 : (G5.set G.length (q0, z.2.2.2.2.2, n0))[G.length]? = some (q0, z.2.2.2.2.2, n0) := List.getElem?_set_self (List.getElem?_eq_some_iff.mp hp5).1
                    have y4 := y3.A (F := [((q9tE x3).length, ((q9tE x).length, 0), (0, 0))]) fun w hw8 => by
                      rw [List.mem_singleton] at hw8
                      subst hw8
                      refine q9fm_mk (c := -121) ?_ (by decide) ?_
                      · show q9nV (q9up r5 (q9tE x3).length _ (q9tE x3).length) = _
                        rw [q9up_at]
                        rfl
                      · rw [q9FMP_5 (by decide)]
                        show q9DIS (G5.set G.length (q0, z.2.2.2.2.2, n0)) ws5 (q9ev (q9up r5 (q9tE x3).length (.int (-121))) ((q9tE x).length, 0)) (q9ev (q9up r5 (q9tE x3).length (.int (-121))) (0, 0))
                        refine ⟨q0, f5, ?_, ⟨G.length, n0, n0, cT 6, by rw [hG5, h136], u1⟩, fun i j hi hj he _ => u3 i j (by omega) (by omega) he⟩
                        show q9ev _ ((q9tE x).length, 0) = _
                        rw [q9ev_zero, q9up_lt (by omega)]
                        exact hk5
                    have hag9 : q9agr (q9tE x).length r (q9up r5 (q9tE x3).length (.int (-121))) := fun k hk => by
                      rw [q9up_lt (by omega)]
                      exact hag k hk
                    exact hn.one hag9 (by show _ ≤ ((q9tE x3).set _ _ ++ [_]).length; rw [List.length_append, List.length_set]; omega) _ ws5 H5 locs5 ls5 st5 y4 ⟨hP5, hD5, hS5, y2, hXg.tr hXn, hKe.tr hXg (hKe4.tr hX4 (hKe5.wk fun _ hq => (List.not_mem_nil hq).elim))⟩) n0 0 (by omega) G3 ws3 H3 locs3 ls3 st3 _ hMy hP3 hD3 hS3 hTy3 hXG hKG hp3 hLI0 ((hrh _ (by omega)).trans hk3) q9agr.rf
                  exact W.widen (by omega) (by omega) key
                · have hy0 : ¬ y < 0 := by
                    rw [Int32.lt_iff_toInt_lt, Int32.toInt_zero]
                    omega
                  exact va_newq hx hb hown (hts _ hd3) hG.2.2.2.2.2.2 hK hP hD hS9 hA hy0 hyN (by omega) hc1 hs1 hd (fun q cA H1 hK1 hP1 hD1 hS1 => by obtain rfl := ty_new hK1 6 rfl; exact kk q H1 hP1 hD1 hS1)
              · cases hm
            · cases hm
          · cases hm
        · cases hm
      · cases hm
    · cases hm
  · cases hm
