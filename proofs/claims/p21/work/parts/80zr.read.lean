variable {O : ORC}
/-! what is told of what is read of a text -/
noncomputable def q9famF_o (x : q9ST) (c : Int) (a : Nat) : Option (Nat × q9AV × q9AV) := (q9tA x).find? (fun z => q9famE (q9tE x) z.1 == some c && z.2.1 == ((a, 0) : q9AV))
noncomputable def q9famF (x : q9ST) (c : Int) (a : Nat) : Option (Nat × q9AV × q9AV) := q9fi9 (q9tA x) (fun z => q9nd9 (q9eq9 (q9famE (q9tE x) z.1) (some c)) (q9eq9 (z.2.1) (((a, 0) : q9AV))))
theorem q9famF_oq : @q9famF = @q9famF_o := by
  delta q9famF q9famF_o
  simp only [q9ge9_eq, q9fi9_eq, q9an9_eq, q9al9_eq, q9flt9_eq, q9el9_eq, q9set9_eq, q9ln9_eq, q9gD9_eq, q9ap9_eq, q9eq9_N, q9eq9_I, q9eq9_A, q9eq9_E, q9eq9_OI, q9eq9_ON, q9eq9_OA, q9eq9_L, q9eq9_S, q9de9_N, q9de9_I, q9de9_A, q9le9_N, q9le9_I, q9lt9_N, q9lt9_I, q9de9_E, q9de9_OI, q9de9_ON, q9de9_OA, q9de9_L, q9nd9_eq, q9or9_eq, Bool.cond_decide]
theorem q9famF_ok {nL : Nat} {g : List Value} {x : q9ST} {r : Nat → Value} {G : q9GH} {ws : va_W} {ls : Array Slot} {st : List Value} (hM : q9SM O nL g x r G ws ls st) (hw : q9wfB x = true) {c : Int} (hc : c ≤ -100) {a : Nat} {z : Nat × q9AV × q9AV} (h : q9famF x c a = some z) : q9FMP O c G ws (r a) (q9ev r z.2.2) ∧ q9okAV (q9tE x) z.2.2 = true ∧ a < (q9tE x).length := by
  (rewrite [q9famF_oq] at h; unfold q9famF_o at h)
  have z1 := List.find?_some h
  have z2 := List.mem_of_find?_eq_some h
  simp only [Bool.and_eq_true, beq_iff_eq] at z1
  have wz := q9wf_A hw z z2
  have hN := q9fm_of hM z2 z1.1 hc
  rw [z1.2, q9ev_zero] at hN
  have w2 := wz.2.1
  rw [z1.2] at w2
  exact ⟨hN, wz.2.2, q9okAV_lt w2⟩
/-- a family q9more -/
theorem q9rf_fam {nL : Nat} {g : List Value} {x : q9ST} {r : Nat → Value} {G : q9GH} {ws : va_W} {ls : Array Slot} {st : List Value} (hM : q9SM O nL g x r G ws ls st) (hw : q9wfB x = true) {c : Int} (hc : c ≤ -100) (hc2 : -1000 ≤ c) {a : Nat} (ha : a < (q9tE x).length) {n : q9AV} (hn : q9okAV (q9tE x) n = true) (h : q9FMP O c G ws (r a) (q9ev r n)) :
    ∃ x' ∈ [q9addS x [(0, c, c)] [] [((q9tE x).length, (a, 0), n)] [] []], ∃ r' : Nat → Value, q9agr (q9tE x).length r r' ∧ (q9tE x).length ≤ (q9tE x').length ∧ q9tN x' = q9tN x ∧ q9tM x' = q9tM x ∧ q9SM O nL g x' r' G ws ls st := by
  have ec : (Int32.ofInt c).toInt = c := q9ofInt_toInt32 (by omega) (by omega)
  refine q9rf_add hM hw [.int (Int32.ofInt c)] List.mem_cons_self (q9ty_cons ⟨_, rfl, by show c ≤ _; omega, by show _ ≤ c; omega⟩ q9ty_nil) q9no_mem (q9one_mem (q9fm_mk (c := c) ?_ hc ?_)) q9no_mem q9no_mem
  · show q9nV (q9upL _ _ _ (q9tE x).length) = _
    rw [q9rU0]
    show some (Int32.ofInt c).toInt = some c
    rw [ec]
  · show q9FMP O c G ws (q9ev _ (a, 0)) (q9ev _ n)
    rw [q9ev_zero, q9upL_lt ha, q9upL_agr.ev hn]
    exact h
/-- a result q9more, of a symbol that there is -/
theorem q9rf_X {nL : Nat} {g : List Value} {x : q9ST} {r : Nat → Value} {G : q9GH} {ws : va_W} {ls : Array Slot} {st : List Value} (hM : q9SM O nL g x r G ws ls st) (hw : q9wfB x = true) {o k : Nat} {a b : q9AV} (ha : q9okAV (q9tE x) a = true) (hb : q9okAV (q9tE x) b = true) (hk : k < (q9tE x).length) (h : q9exop O o (q9ev r a) (q9ev r b) = some (r k)) :
    ∃ x' ∈ [q9addS x [] [] [] [] [(o, a, b, k)]], ∃ r' : Nat → Value, q9agr (q9tE x).length r r' ∧ (q9tE x).length ≤ (q9tE x').length ∧ q9tN x' = q9tN x ∧ q9tM x' = q9tM x ∧ q9SM O nL g x' r' G ws ls st := by
  refine q9rf_add hM hw [] List.mem_cons_self q9ty_nil q9no_mem q9no_mem q9no_mem (q9one_mem ?_)
  unfold q9EXok
  show q9exop O o (q9ev _ a) (q9ev _ b) = some (q9upL _ _ _ k)
  rw [q9upL_agr.ev ha, q9upL_agr.ev hb, q9upL_lt hk]
  exact h
/-- .. of a new symbol -/
theorem q9rf_XS {nL : Nat} {g : List Value} {x : q9ST} {r : Nat → Value} {G : q9GH} {ws : va_W} {ls : Array Slot} {st : List Value} (hM : q9SM O nL g x r G ws ls st) (hw : q9wfB x = true) {o : Nat} {a b : q9AV} (ha : q9okAV (q9tE x) a = true) (hb : q9okAV (q9tE x) b = true) {t : q9ET} {v : Value} (ht : q9tyV G t v) (h : q9exop O o (q9ev r a) (q9ev r b) = some v) :
    ∃ x' ∈ [q9addS x [t] [] [] [] [(o, a, b, (q9tE x).length)]], ∃ r' : Nat → Value, q9agr (q9tE x).length r r' ∧ (q9tE x).length ≤ (q9tE x').length ∧ q9tN x' = q9tN x ∧ q9tM x' = q9tM x ∧ q9SM O nL g x' r' G ws ls st := by
  refine q9rf_add hM hw [v] List.mem_cons_self (q9ty_cons ht q9ty_nil) q9no_mem q9no_mem q9no_mem (q9one_mem ?_)
  unfold q9EXok
  show q9exop O o (q9ev _ a) (q9ev _ b) = some (q9upL _ _ _ (q9tE x).length)
  rw [q9upL_agr.ev ha, q9upL_agr.ev hb, q9rU0]
  exact h
/-- .. and an element's -/
theorem q9rf_XA {nL : Nat} {g : List Value} {x : q9ST} {r : Nat → Value} {G : q9GH} {ws : va_W} {ls : Array Slot} {st : List Value} (hM : q9SM O nL g x r G ws ls st) (hw : q9wfB x = true) {o arr : Nat} {i a b : q9AV} (ha : q9okAV (q9tE x) a = true) (hb : q9okAV (q9tE x) b = true) (hi : q9okAV (q9tE x) i = true) (hr : arr < (q9tE x).length) {t : q9ET} {v : Value} (ht : q9tyV G t v) (h : q9exop O o (q9ev r a) (q9ev r b) = some v)
    {c q : Nat} {e : va_E} {y : Int32} (e1 : r arr = .ref c) (e2 : ws[q]? = some (c, e)) (e0 : ∃ w, e = .inl w) (e3 : q9ev r i = .int y) (e4 : v = q9elV e y.toNatClampNeg) :
    ∃ x' ∈ [q9addS x [t] [] [(arr, i, ((q9tE x).length, 0))] [] [(o, a, b, (q9tE x).length)]], ∃ r' : Nat → Value, q9agr (q9tE x).length r r' ∧ (q9tE x).length ≤ (q9tE x').length ∧ q9tN x' = q9tN x ∧ q9tM x' = q9tM x ∧ q9SM O nL g x' r' G ws ls st := by
  obtain ⟨⟨cA, n, f⟩, rfl⟩ := e0
  refine q9rf_add hM hw [v] List.mem_cons_self (q9ty_cons ht q9ty_nil) q9no_mem (q9one_mem (.inl ⟨c, q, cA, n, f, y, (q9upL_lt hr).trans e1, e2, ?_, q9evU0.trans e4⟩)) q9no_mem (q9one_mem ?_)
  · show q9ev _ i = _
    rw [q9upL_agr.ev hi]
    exact e3
  · unfold q9EXok
    show q9exop O o (q9ev _ a) (q9ev _ b) = some (q9upL _ _ _ (q9tE x).length)
    rw [q9upL_agr.ev ha, q9upL_agr.ev hb, q9rU0]
    exact h
theorem q9inA.at {G : q9GH} {ws : va_W} {a cd : Nat} {M : Nat → Int32} (h : q9inA G ws a cd M) : ∃ (q : Nat) (e : va_E), ws[q]? = some (a, e) ∧ (∃ w, e = .inl w) ∧ ∀ j : Nat, q9elV e j = .int (M j) := by
  obtain ⟨q, k, n, cA, -, h2⟩ := h
  exact ⟨q, _, h2, ⟨_, rfl⟩, fun _ => rfl⟩
/-- a known element of an array of ints -/
theorem q9in_el {nL : Nat} {g : List Value} {x : q9ST} {r : Nat → Value} {G : q9GH} {ws : va_W} {ls : Array Slot} {st : List Value} (hM : q9SM O nL g x r G ws ls st) (hw : q9wfB x = true) {A : Nat → Prop} (hD : va_D A ws) {a : Nat} {i v : q9AV} (h : q9fA x a i = some v) (hi : q9okAV (q9tE x) i = true) {y : Int32} (hy : q9ev r i = .int y) {b cd : Nat} (hr : r a = .ref b) {M : Nat → Int32} (hq : q9inA G ws b cd M) : q9okAV (q9tE x) v = true ∧ q9ev r v = .int (M y.toNatClampNeg) := by
  obtain ⟨q, k, n, cA, -, h2⟩ := hq
  exact q9fA_ok hM hw hD h hi hy hr h2
theorem q9and255 {u : Int32} (h1 : 0 ≤ u.toInt) (h2 : u.toInt ≤ 255) : u &&& 255 = u := by
  have key : ∀ k : Fin 256, (Int32.ofNat k.val &&& 255) = Int32.ofNat k.val := by decide +kernel
  have e : Int32.ofNat u.toNatClampNeg = u := q9ofNat_clamp h1
  have ey : u.toNatClampNeg = u.toInt.toNat := rfl
  have := key ⟨u.toNatClampNeg, by omega⟩
  rw [e] at this
  exact this
theorem q9and255n {u : Int32} (h1 : -128 ≤ u.toInt) (h2 : u.toInt ≤ -1) : 128 ≤ (u &&& 255).toInt ∧ (u &&& 255).toInt ≤ 255 := by
  have key : ∀ k : Fin 128, 128 ≤ (Int32.ofInt ((k.val : Int) - 128) &&& 255).toInt ∧ (Int32.ofInt ((k.val : Int) - 128) &&& 255).toInt ≤ 255 := by decide +kernel
  have h3 := key ⟨(u.toInt + 128).toNat, by omega⟩
  have e : (((u.toInt + 128).toNat : Nat) : Int) - 128 = u.toInt := by omega
  dsimp only at h3
  rw [e, q9ofI] at h3
  exact h3
/-- the class's text: a known byte's value -/
noncomputable def q9hoT1_o (a : Nat) (i : q9AV) : q9RF := fun x => match q9famF x (-104) a, q9fA x a i, q9num (q9tE x) i with
  | some z, some b, some (0, l, _) => if q9okAV (q9tE x) i = true ∧ q9zeroB x = true ∧ 0 ≤ l ∧ q9leB x i z.2.2 (-1) = true then (match q9num (q9tE x) b with
      | some (0, lb, hb) => if 0 ≤ lb ∧ b.2 = 0 ∧ hb ≤ 255 then some [q9addS x [] [] [] [] [(1000, i, (0, 0), b.1), (5, b, (0, 255), b.1)]]
        else if -128 ≤ lb ∧ hb ≤ -1 then some [q9addS x [(0, 128, 255)] [] [] [] [(1000, i, (0, 0), (q9tE x).length), (5, b, (0, 255), (q9tE x).length)]] else none
      | _ => none) else none
  | _, _, _ => none
noncomputable def q9hoT1 (a : Nat) (i : q9AV) : q9RF := fun x => match q9famF x (-104) a, q9fA x a i, q9num (q9tE x) i with
  | some z, some b, some (0, l, _) => if q9okAV (q9tE x) i = true ∧ q9zeroB x = true ∧ 0 ≤ l ∧ q9leB x i z.2.2 (-1) = true then (match q9num (q9tE x) b with
      | some (0, lb, hb) => if 0 ≤ lb ∧ b.2 = 0 ∧ hb ≤ 255 then some [q9addS x [] [] [] [] [(1000, i, (0, 0), b.1), (5, b, (0, 255), b.1)]]
        else if -128 ≤ lb ∧ hb ≤ -1 then some [q9addS x [(0, 128, 255)] [] [] [] [(1000, i, (0, 0), (q9ln9 (q9tE x))), (5, b, (0, 255), (q9ln9 (q9tE x)))]] else none
      | _ => none) else none
  | _, _, _ => none
theorem q9hoT1_oq : @q9hoT1 = @q9hoT1_o := by
  delta q9hoT1 q9hoT1_o
  simp only [q9ge9_eq, q9fi9_eq, q9an9_eq, q9al9_eq, q9flt9_eq, q9el9_eq, q9set9_eq, q9ln9_eq, q9gD9_eq, q9ap9_eq, q9eq9_N, q9eq9_I, q9eq9_A, q9eq9_E, q9eq9_OI, q9eq9_ON, q9eq9_OA, q9eq9_L, q9eq9_S, q9de9_N, q9de9_I, q9de9_A, q9le9_N, q9le9_I, q9lt9_N, q9lt9_I, q9de9_E, q9de9_OI, q9de9_ON, q9de9_OA, q9de9_L, q9nd9_eq, q9or9_eq, Bool.cond_decide]
theorem q9hoT1_ok (a : Nat) (i : q9AV) : q9RFok O (q9hoT1 a i) := by
  intro nL g cT A x r G ws ls st xs hw hM hT hD h
  (rewrite [q9hoT1_oq] at h; unfold q9hoT1_o at h)
  split at h
  · rename_i z b l hi hz hb hn
    split at h
    · rename_i hc
      obtain ⟨c1, c2, c3, c4⟩ := hc
      obtain ⟨hF, hz2, ha⟩ := q9famF_ok hM hw (by decide) hz
      rw [q9FMP_5 (by decide)] at hF
      obtain ⟨a0, cd, n, M, e1, e2, e3, e4, e5, -⟩ : q9EQF O true [165, 166] 1000 true G ws (r a) (q9ev r z.2.2) := hF
      obtain ⟨y, y1, -, y2, y3⟩ := q9num_int hM.2.2.2.1 c1 hn
      have ey : y.toNatClampNeg = y.toInt.toNat := rfl
      obtain ⟨b1, b2⟩ := q9in_el hM hw hD hb c1 y1 e1 e4
      have l1 := q9leB_ok hM c1 hz2 c4
      rw [y1, e2] at l1
      have l1 : y.toInt ≤ n.toInt + (-1) := l1
      have h5 := e5 y.toNatClampNeg (by omega)
      rw [q9ofNat_clamp (by omega)] at h5
      have h5 : O.1 1000 (.int y) (.int 0) = some (.int (M y.toNatClampNeg &&& 255)) := h5
      have z0 := q9zero_ev0 hM.2.2.2.1 (q9zero_at c2)
      have z255 : q9ev r (0, 255) = .int 255 := q9zero_ev hM.2.2.2.1 (q9zero_at c2) 255
      have q9ok0 : q9okAV (q9tE x) (0, 0) = true := q9okZ c2 (by decide) (by decide)
      have ok255 : q9okAV (q9tE x) (0, 255) = true := q9okZ c2 (by decide) (by decide)
      split at h
      · rename_i lb hb9 hnb
        obtain ⟨v, v1, -, v2, v3⟩ := q9num_int hM.2.2.2.1 b1 hnb
        rw [b2] at v1
        cases v1
        split at h
        · rename_i hc9
          obtain ⟨d1, d2, d3⟩ := hc9
          cases h
          have eb : r b.1 = .int (M y.toNatClampNeg) := by rw [← q9isSym (r := r) d2]; exact b2
          have hm := q9and255 (u := M y.toNatClampNeg) (by omega) (by omega)
          refine q9rf_add hM hw [] List.mem_cons_self q9ty_nil q9no_mem q9no_mem q9no_mem (q9cons_mem ?_ (q9one_mem ?_))
          · unfold q9EXok
            show q9exop O 1000 (q9ev _ i) (q9ev _ (0, 0)) = some (q9upL _ _ _ b.1)
            rw [q9upL_agr.ev c1, q9upL_agr.ev q9ok0, q9upL_lt (q9okAV_lt b1), y1, z0, eb, q9exop_hi (by decide), h5, hm]
          · unfold q9EXok
            show q9exop O 5 (q9ev _ b) (q9ev _ (0, 255)) = some (q9upL _ _ _ b.1)
            rw [q9upL_agr.ev b1, q9upL_agr.ev ok255, q9upL_lt (q9okAV_lt b1), b2, z255, eb]
            show some (Value.int (M y.toNatClampNeg &&& 255)) = _
            rw [hm]
        · split at h
          · rename_i hc9
            obtain ⟨d1, d2⟩ := hc9
            cases h
            obtain ⟨m1, m2⟩ := q9and255n (u := M y.toNatClampNeg) (by omega) (by omega)
            refine q9rf_add hM hw [.int (M y.toNatClampNeg &&& 255)] List.mem_cons_self (q9ty_cons ⟨_, rfl, m1, m2⟩ q9ty_nil) q9no_mem q9no_mem q9no_mem (q9cons_mem ?_ (q9one_mem ?_))
            · unfold q9EXok
              show q9exop O 1000 (q9ev _ i) (q9ev _ (0, 0)) = some (q9upL _ _ _ (q9tE x).length)
              rw [q9upL_agr.ev c1, q9upL_agr.ev q9ok0, q9rU0, y1, z0, q9exop_hi (by decide), h5]
            · unfold q9EXok
              show q9exop O 5 (q9ev _ b) (q9ev _ (0, 255)) = some (q9upL _ _ _ (q9tE x).length)
              rw [q9upL_agr.ev b1, q9upL_agr.ev ok255, q9rU0, b2, z255]
              rfl
          · cases h
      · cases h
    · cases h
  · cases h
noncomputable def q9hoT (a : Nat) (i : q9AV) : q9RF := fun x => match q9fA x a i with
  | some b => q9rfSeq [q9spC 2 b (0, 0), q9hoT1 a i] x
  | none => none
theorem q9hoT_ok (a : Nat) (i : q9AV) : q9RFok O (q9hoT a i) := by
  intro nL g cT A x r G ws ls st xs hw hM hT hD h
  unfold q9hoT at h
  split at h
  · exact q9rfSeq_ok (fun f hf => by
      rcases List.mem_cons.mp hf with rfl | hf
      · exact q9spC_ok _ _ _
      · rw [List.mem_singleton] at hf
        subst hf
        exact q9hoT1_ok _ _) nL g cT A x r G ws ls st xs hw hM hT hD h
  · cases h
/-- behind a text there is no byte -/
noncomputable def q9hoE_o (c : Int) (a : Nat) (i : q9AV) : q9RF := fun x => match q9famF x c a, q9num (q9tE x) i with
  | some z, some (0, l, _) => if (c = -104 ∨ c = -105) ∧ q9okAV (q9tE x) i = true ∧ q9zeroB x = true ∧ 0 ≤ l ∧ q9leB x z.2.2 i 0 = true then some [q9addS x [(0, -1, -1)] [] [] [] [(1000, i, (0, 0), (q9tE x).length)]] else none
  | _, _ => none
noncomputable def q9hoE (c : Int) (a : Nat) (i : q9AV) : q9RF := fun x => match q9famF x c a, q9num (q9tE x) i with
  | some z, some (0, l, _) => if (c = -104 ∨ c = -105) ∧ q9okAV (q9tE x) i = true ∧ q9zeroB x = true ∧ 0 ≤ l ∧ q9leB x z.2.2 i 0 = true then some [q9addS x [(0, -1, -1)] [] [] [] [(1000, i, (0, 0), (q9ln9 (q9tE x)))]] else none
  | _, _ => none
theorem q9hoE_oq : @q9hoE = @q9hoE_o := by
  delta q9hoE q9hoE_o
  simp only [q9ge9_eq, q9fi9_eq, q9an9_eq, q9al9_eq, q9flt9_eq, q9el9_eq, q9set9_eq, q9ln9_eq, q9gD9_eq, q9ap9_eq, q9eq9_N, q9eq9_I, q9eq9_A, q9eq9_E, q9eq9_OI, q9eq9_ON, q9eq9_OA, q9eq9_L, q9eq9_S, q9de9_N, q9de9_I, q9de9_A, q9le9_N, q9le9_I, q9lt9_N, q9lt9_I, q9de9_E, q9de9_OI, q9de9_ON, q9de9_OA, q9de9_L, q9nd9_eq, q9or9_eq, Bool.cond_decide]
theorem q9hoE_ok (c : Int) (a : Nat) (i : q9AV) : q9RFok O (q9hoE c a i) := by
  intro nL g cT A x r G ws ls st xs hw hM hT hD h
  (rewrite [q9hoE_oq] at h; unfold q9hoE_o at h)
  split at h
  · rename_i z l hi hz hn
    split at h
    · rename_i hc
      obtain ⟨c0, c1, c2, c3, c4⟩ := hc
      cases h
      obtain ⟨hF, hz2, ha⟩ := q9famF_ok hM hw (by omega) hz
      rw [q9FMP_5 (by omega)] at hF
      have hE : ∃ (m : Bool) (cds : List Nat), q9EQF O m cds 1000 true G ws (r a) (q9ev r z.2.2) := by
        rcases c0 with rfl | rfl
        · exact ⟨_, _, hF⟩
        · exact ⟨_, _, hF⟩
      obtain ⟨m, cds, a0, cd, n, M, e1, e2, e3, e4, e5, e6⟩ := hE
      obtain ⟨-, -, e6⟩ := e6 rfl
      obtain ⟨y, y1, -, y2, y3⟩ := q9num_int hM.2.2.2.1 c1 hn
      have l1 := q9leB_ok hM hz2 c1 c4
      rw [y1, e2] at l1
      have l1 : n.toInt ≤ y.toInt + 0 := l1
      refine q9rf_XS hM hw c1 (q9okZ c2 (by decide) (by decide)) (v := .int (-1)) ⟨-1, rfl, by decide, by decide⟩ ?_
      rw [y1, q9zero_ev0 hM.2.2.2.1 (q9zero_at c2), q9exop_hi (by decide)]
      exact e6 y (by omega)
    · cases h
  · cases h
noncomputable def q9hoN (a : Nat) (i : q9AV) : q9RF := q9hoE (-104) a i
noncomputable def q9hoM (a : Nat) (i : q9AV) : q9RF := q9hoE (-105) a i
theorem q9hoN_ok (a : Nat) (i : q9AV) : q9RFok O (q9hoN a i) := q9hoE_ok _ _ _
theorem q9hoM_ok (a : Nat) (i : q9AV) : q9RFok O (q9hoM a i) := q9hoE_ok _ _ _
/-- how long the text is -/
noncomputable def q9hoL (c : Int) (a : Nat) : q9RF := fun x => match q9famF x c a with
  | some z => if (c = -104 ∨ c = -105) ∧ q9zeroB x = true ∧ z.2.2.2 = 0 then some [q9addS x [] [] [] [] [(1018, (0, 0), (0, 0), z.2.2.1)]] else none
  | none => none
theorem q9hoL_ok (c : Int) (a : Nat) : q9RFok O (q9hoL c a) := by
  intro nL g cT A x r G ws ls st xs hw hM hT hD h
  unfold q9hoL at h
  split at h
  · rename_i z hz
    split at h
    · rename_i hc
      obtain ⟨c0, c2, c3⟩ := hc
      cases h
      obtain ⟨hF, hz2, ha⟩ := q9famF_ok hM hw (by omega) hz
      rw [q9FMP_5 (by omega)] at hF
      have hE : ∃ (m : Bool) (cds : List Nat), q9EQF O m cds 1000 true G ws (r a) (q9ev r z.2.2) := by
        rcases c0 with rfl | rfl
        · exact ⟨_, _, hF⟩
        · exact ⟨_, _, hF⟩
      obtain ⟨m, cds, a0, cd, n, M, e1, e2, e3, e4, e5, e6⟩ := hE
      obtain ⟨-, e6, -⟩ := e6 rfl
      have q9ok0 : q9okAV (q9tE x) (0, 0) = true := q9okZ c2 (by decide) (by decide)
      refine q9rf_X hM hw q9ok0 q9ok0 (q9okAV_lt hz2) ?_
      rw [q9zero_ev0 hM.2.2.2.1 (q9zero_at c2), q9exop_hi (by decide), ← q9isSym (r := r) c3, e2]
      exact e6
    · cases h
  · cases h
noncomputable def q9hoS (a : Nat) : q9RF := q9hoL (-104) a
noncomputable def q9hoS2 (a : Nat) : q9RF := q9hoL (-105) a
theorem q9hoS_ok (a : Nat) : q9RFok O (q9hoS a) := q9hoL_ok _ _
theorem q9hoS2_ok (a : Nat) : q9RFok O (q9hoS2 a) := q9hoL_ok _ _
/-- an element by its family: of ints that are told as they are -/
noncomputable def q9faK_o (c : Int) (a : Nat) (i : q9AV) : q9RF := fun x => match q9famS c, q9famF x c a, q9num (q9tE x) i with
  | some (false, cds, op, _), some z, some (0, l, _) => if -1000 ≤ c ∧ c ≤ -104 ∧ 1000 ≤ op ∧ q9okAV (q9tE x) i = true ∧ q9zeroB x = true ∧ 0 ≤ l ∧ q9leB x i z.2.2 (-1) = true then (match q9fA x a i with
      | some v => if v.2 = 0 then some [q9addS x [] [] [] [] [(op, i, (0, 0), v.1)]] else none
      | none => (match q9kindOf q9TBL x a with
        | some (_, K) => if q9numK K = true ∧ q9inB x a i K = true then some [q9addS x [K.2.2.2] [] [(a, i, ((q9tE x).length, 0))] [] [(op, i, (0, 0), (q9tE x).length)]] else none
        | none => none)) else none
  | _, _, _ => none
noncomputable def q9faK (c : Int) (a : Nat) (i : q9AV) : q9RF := fun x => match q9famS c, q9famF x c a, q9num (q9tE x) i with
  | some (false, cds, op, _), some z, some (0, l, _) => if -1000 ≤ c ∧ c ≤ -104 ∧ 1000 ≤ op ∧ q9okAV (q9tE x) i = true ∧ q9zeroB x = true ∧ 0 ≤ l ∧ q9leB x i z.2.2 (-1) = true then (match q9fA x a i with
      | some v => bif q9de9 (v.2) (0) then some [q9addS x [] [] [] [] [(op, i, (0, 0), v.1)]] else none
      | none => (match q9kindOf q9TBL x a with
        | some (_, K) => if q9numK K = true ∧ q9inB x a i K = true then some [q9addS x [K.2.2.2] [] [(a, i, ((q9ln9 (q9tE x)), 0))] [] [(op, i, (0, 0), (q9ln9 (q9tE x)))]] else none
        | none => none)) else none
  | _, _, _ => none
theorem q9faK_oq : @q9faK = @q9faK_o := by
  delta q9faK q9faK_o
  simp only [q9ge9_eq, q9fi9_eq, q9an9_eq, q9al9_eq, q9flt9_eq, q9el9_eq, q9set9_eq, q9ln9_eq, q9gD9_eq, q9ap9_eq, q9eq9_N, q9eq9_I, q9eq9_A, q9eq9_E, q9eq9_OI, q9eq9_ON, q9eq9_OA, q9eq9_L, q9eq9_S, q9de9_N, q9de9_I, q9de9_A, q9le9_N, q9le9_I, q9lt9_N, q9lt9_I, q9de9_E, q9de9_OI, q9de9_ON, q9de9_OA, q9de9_L, q9nd9_eq, q9or9_eq, Bool.cond_decide]
theorem q9faK_ok (c : Int) (a : Nat) (i : q9AV) : q9RFok O (q9faK c a i) := by
  intro nL g cT A x r G ws ls st xs hw hM hT hD h
  (rewrite [q9faK_oq] at h; unfold q9faK_o at h)
  split at h
  · rename_i cds op fin z l hi hs hz hn
    split at h
    · rename_i hc
      obtain ⟨k1, k2, k3, c1, c2, c3, c4⟩ := hc
      obtain ⟨hF, hz2, ha⟩ := q9famF_ok hM hw (by omega) hz
      rw [q9FMP_5 (by omega)] at hF
      unfold q9FM5 at hF
      rw [hs] at hF
      obtain ⟨a0, cd, n, M, e1, e2, e3, e4, e5, -⟩ : q9EQF O false cds op fin G ws (r a) (q9ev r z.2.2) := hF
      obtain ⟨y, y1, -, y2, y3⟩ := q9num_int hM.2.2.2.1 c1 hn
      have ey : y.toNatClampNeg = y.toInt.toNat := rfl
      have l1 := q9leB_ok hM c1 hz2 c4
      rw [y1, e2] at l1
      have l1 : y.toInt ≤ n.toInt + (-1) := l1
      have h5 := e5 y.toNatClampNeg (by omega)
      rw [q9ofNat_clamp (by omega)] at h5
      have h5 : O.1 op (.int y) (.int 0) = some (.int (M y.toNatClampNeg)) := h5
      have z0 := q9zero_ev0 hM.2.2.2.1 (q9zero_at c2)
      have q9ok0 : q9okAV (q9tE x) (0, 0) = true := q9okZ c2 (by decide) (by decide)
      split at h
      · rename_i v hv
        split at h
        · rename_i hv0
          cases h
          obtain ⟨b1, b2⟩ := q9in_el hM hw hD hv c1 y1 e1 e4
          refine q9rf_X hM hw c1 q9ok0 (q9okAV_lt b1) ?_
          rw [y1, z0, q9exop_hi k3, ← q9isSym (r := r) hv0, b2]
          exact h5
        · cases h
      · split at h
        · rename_i cd9 K hk
          split at h
          · rename_i hc9
            obtain ⟨d1, d2⟩ := hc9
            cases h
            obtain ⟨b, n9, i9, ce, m1, m2, m3, m4, m5, m6, m7⟩ := q9kindOf_ok hM.2.2.2.1 hT hk
            obtain ⟨y', w1, w2, w3⟩ := q9inB_ok hw hM hT hD c1 m1 m2 m5 d2
            rw [y1] at w1
            cases w1
            rw [e1] at m1
            cases m1
            obtain ⟨q, ce', q1, q2, q3⟩ := e4.at
            have hq : q = i9 := hD.1 q i9 _ _ q1 m4 rfl
            subst hq
            rw [m4] at q1
            cases q1
            have hty := q9el_ty m5 w3
            rw [q3] at hty
            refine q9rf_XA hM hw c1 q9ok0 c1 ha hty ?_ e1 m4 q2 y1 (q3 _).symm
            rw [y1, z0, q9exop_hi k3]
            exact h5
          · cases h
        · cases h
    · cases h
  · cases h
noncomputable def q9hoR (a : Nat) (i : q9AV) : q9RF := q9faK (-105) a i
theorem q9hoR_ok (a : Nat) (i : q9AV) : q9RFok O (q9hoR a i) := q9faK_ok _ _ _
noncomputable def q9joM (a : Nat) (i : q9AV) : q9RF := q9faK (-123) a i
theorem q9joM_ok (a : Nat) (i : q9AV) : q9RFok O (q9joM a i) := q9faK_ok _ _ _
/-- the same value, by what is known or as both are q9one number -/
noncomputable def q9eqW_o (x : q9ST) (a b : q9AV) : Bool := q9eqV x a b || (q9okAV (q9tE x) a && (q9okAV (q9tE x) b && (match q9num (q9tE x) a, q9num (q9tE x) b with
  | some (k, l, h), some (k2, l2, h2) => decide (k = k2) && (decide (l = h) && (decide (l2 = l) && decide (h2 = h)))
  | _, _ => false)))
noncomputable def q9eqW (x : q9ST) (a b : q9AV) : Bool := q9or9 (q9eqV x a b) ((q9nd9 (q9okAV (q9tE x) a) ((q9nd9 (q9okAV (q9tE x) b) ((match q9num (q9tE x) a, q9num (q9tE x) b with
  | some (k, l, h), some (k2, l2, h2) => q9nd9 ((q9de9 (k) (k2))) ((q9nd9 ((q9de9 (l) (h))) ((q9nd9 ((q9de9 (l2) (l))) ((q9de9 (h2) (h)))))))
  | _, _ => false))))))
theorem q9eqW_oq : @q9eqW = @q9eqW_o := by
  delta q9eqW q9eqW_o
  simp only [q9ge9_eq, q9fi9_eq, q9an9_eq, q9al9_eq, q9flt9_eq, q9el9_eq, q9set9_eq, q9ln9_eq, q9gD9_eq, q9ap9_eq, q9eq9_N, q9eq9_I, q9eq9_A, q9eq9_E, q9eq9_OI, q9eq9_ON, q9eq9_OA, q9eq9_L, q9eq9_S, q9de9_N, q9de9_I, q9de9_A, q9le9_N, q9le9_I, q9lt9_N, q9lt9_I, q9de9_E, q9de9_OI, q9de9_ON, q9de9_OA, q9de9_L, q9nd9_eq, q9or9_eq, Bool.cond_decide]
theorem q9eqW_ok {nL : Nat} {g : List Value} {x : q9ST} {r : Nat → Value} {G : q9GH} {ws : va_W} {ls : Array Slot} {st : List Value} (hM : q9SM O nL g x r G ws ls st) {a b : q9AV} (h : q9eqW x a b = true) : q9ev r a = q9ev r b := by
  (rewrite [q9eqW_oq] at h; unfold q9eqW_o at h)
  rcases Bool.or_eq_true _ _ ▸ h with h | h
  · exact q9eqV_ok hM h
  · simp only [Bool.and_eq_true] at h
    obtain ⟨h1, h2, h3⟩ := h
    split at h3
    · rename_i k l hh k2 l2 hh2 na nb
      simp only [Bool.and_eq_true, decide_eq_true_eq] at h3
      obtain ⟨f1, f2, f3, f4⟩ := h3
      obtain ⟨i1, i2, i3, i4⟩ := q9num_ok hM.2.2.2.1 h1 na
      obtain ⟨j1, j2, j3, j4⟩ := q9num_ok hM.2.2.2.1 h2 nb
      rcases i1 with ⟨k0, u, hu⟩ | ⟨k0, u, hu⟩
      · rcases j1 with ⟨-, w, hw⟩ | ⟨k1, -⟩
        · rw [hu] at i3 i4
          rw [hw] at j3 j4
          have i3 : l ≤ u.toInt := i3
          have i4 : u.toInt ≤ hh := i4
          have j3 : l2 ≤ w.toInt := j3
          have j4 : w.toInt ≤ hh2 := j4
          rw [hu, hw, show u = w from Int32.toInt_inj.mp (by omega)]
        · omega
      · rcases j1 with ⟨k1, -⟩ | ⟨-, w, hw⟩
        · omega
        · rw [hu] at i3 i4
          rw [hw] at j3 j4
          have i3 : l ≤ u.toInt := i3
          have i4 : u.toInt ≤ hh := i4
          have j3 : l2 ≤ w.toInt := j3
          have j4 : w.toInt ≤ hh2 := j4
          rw [hu, hw, show u = w from Int64.toInt_inj.mp (by omega)]
    · cases h3
theorem q9ev_off5 {G : q9GH} {E : List q9ET} {r : Nat → Value} (hS : q9SAT G E r) {i : q9AV} {l h : Int} (hn : q9num E i = some (0, l, h)) (h1 : q9okAV E i = true) {d : Int} (h2 : q9okAV E (i.1, i.2 + d) = true) {y : Int32} (hy : q9ev r i = .int y) : ∃ y' : Int32, q9ev r (i.1, i.2 + d) = .int y' ∧ y'.toInt = y.toInt + d := by
  obtain ⟨y0, e0, e1, -⟩ := q9num_int hS h1 hn
  rw [hy] at e0
  cases e0
  (rewrite [q9num_oq] at hn; unfold q9num_o at hn)
  cases hE : E[i.1]? with
  | none => rw [hE] at hn; cases hn
  | some t =>
    rw [hE] at hn
    obtain ⟨k, lo, hi⟩ := t
    dsimp only at hn
    by_cases hk : k = 0
    · subst hk
      obtain ⟨y', f1, f2, -⟩ := q9ev_int (a := (i.1, i.2 + d)) hS hE h2
      exact ⟨y', f1, by rw [f2, e1]; dsimp only; omega⟩
    · rw [if_neg hk] at hn
      split at hn
      · cases hn
      · cases hn
/-- q9one element q9more -/
noncomputable def q9grF_o (c : Int) (a : Nat) (i n2 : q9AV) : q9RF := fun x => match q9famS c, q9famF x c a, q9fA x a i, q9num (q9tE x) i with
  | some (false, _, op, false), some z, some v, some (0, l, _) => if -1000 ≤ c ∧ c ≤ -104 ∧ 1000 ≤ op ∧ q9okAV (q9tE x) i = true ∧ q9zeroB x = true ∧ 0 ≤ l ∧ q9eqV x z.2.2 i = true ∧ q9okAV (q9tE x) (i.1, i.2 + 1) = true ∧ q9okAV (q9tE x) n2 = true ∧ q9eqV x (i.1, i.2 + 1) n2 = true ∧
      (q9tX x).any (fun q => q.1 == op && (q9eqV x q.2.1 i && (q.2.2.1 == ((0, 0) : q9AV) && q9eqW x (q.2.2.2, 0) v))) = true then some [q9addS x [(0, c, c)] [] [((q9tE x).length, (a, 0), n2)] [] []] else none
  | _, _, _, _ => none
noncomputable def q9grF (c : Int) (a : Nat) (i n2 : q9AV) : q9RF := fun x => match q9famS c, q9famF x c a, q9fA x a i, q9num (q9tE x) i with
  | some (false, _, op, false), some z, some v, some (0, l, _) => if -1000 ≤ c ∧ c ≤ -104 ∧ 1000 ≤ op ∧ q9okAV (q9tE x) i = true ∧ q9zeroB x = true ∧ 0 ≤ l ∧ q9eqV x z.2.2 i = true ∧ q9okAV (q9tE x) (i.1, i.2 + 1) = true ∧ q9okAV (q9tE x) n2 = true ∧ q9eqV x (i.1, i.2 + 1) n2 = true ∧
      q9an9 (q9tX x) (fun q => q9nd9 (q9eq9 (q.1) (op)) ((q9nd9 (q9eqV x q.2.1 i) ((q9nd9 (q9eq9 (q.2.2.1) (((0, 0) : q9AV))) (q9eqW x (q.2.2.2, 0) v)))))) = true then some [q9addS x [(0, c, c)] [] [((q9ln9 (q9tE x)), (a, 0), n2)] [] []] else none
  | _, _, _, _ => none
theorem q9grF_oq : @q9grF = @q9grF_o := by
  delta q9grF q9grF_o
  simp only [q9ge9_eq, q9fi9_eq, q9an9_eq, q9al9_eq, q9flt9_eq, q9el9_eq, q9set9_eq, q9ln9_eq, q9gD9_eq, q9ap9_eq, q9eq9_N, q9eq9_I, q9eq9_A, q9eq9_E, q9eq9_OI, q9eq9_ON, q9eq9_OA, q9eq9_L, q9eq9_S, q9de9_N, q9de9_I, q9de9_A, q9le9_N, q9le9_I, q9lt9_N, q9lt9_I, q9de9_E, q9de9_OI, q9de9_ON, q9de9_OA, q9de9_L, q9nd9_eq, q9or9_eq, Bool.cond_decide]
theorem q9grF_ok (c : Int) (a : Nat) (i n2 : q9AV) : q9RFok O (q9grF c a i n2) := by
  intro nL g cT A x r G ws ls st xs hw hM hT hD h
  (rewrite [q9grF_oq] at h; unfold q9grF_o at h)
  split at h
  · rename_i cds op z v l hi hs hz hv hn
    split at h
    · rename_i hc
      obtain ⟨k1, k2, k3, c1, c2, c3, c4, c5, c6, c7, q9c8⟩ := hc
      cases h
      obtain ⟨hF, hz2, ha⟩ := q9famF_ok hM hw (by omega) hz
      rw [q9FMP_5 (by omega)] at hF
      unfold q9FM5 at hF
      rw [hs] at hF
      obtain ⟨a0, cd, n, M, e1, e2, e3, e4, e5, -⟩ : q9EQF O false cds op false G ws (r a) (q9ev r z.2.2) := hF
      obtain ⟨y, y1, -, y2, y3⟩ := q9num_int hM.2.2.2.1 c1 hn
      have ey : y.toNatClampNeg = y.toInt.toNat := rfl
      obtain ⟨y', f1, f2⟩ := q9ev_off5 hM.2.2.2.1 hn c1 c5 y1
      rw [q9eqV_ok hM c4, y1] at e2
      have e2 := Value.int.inj e2
      subst e2
      rw [q9eqV_ok hM c7] at f1
      obtain ⟨b1, b2⟩ := q9in_el hM hw hD hv c1 y1 e1 e4
      simp only [List.any_eq_true, Bool.and_eq_true, beq_iff_eq] at q9c8
      obtain ⟨q, q1, q2, q3, q4, q5⟩ := q9c8
      have hX := hM.2.2.2.2.2.2.2 q q1
      unfold q9EXok at hX
      rw [q2, q9eqV_ok hM q3, q4, y1, q9zero_ev0 hM.2.2.2.1 (q9zero_at c2), q9exop_hi k3] at hX
      have hq := q9eqW_ok hM q5
      rw [q9ev_zero, b2] at hq
      rw [hq] at hX
      refine q9rf_fam hM hw (by omega) k1 ha c6 ?_
      rw [q9FMP_5 (by omega)]
      unfold q9FM5
      rw [hs]
      show q9EQF O false cds op false G ws (r a) (q9ev r n2)
      refine ⟨a0, cd, y', M, e1, f1, e3, e4, fun t ht => ?_, fun hh => by cases hh⟩
      by_cases hty : t = y.toNatClampNeg
      · subst hty
        show O.1 op (.int (Int32.ofNat y.toNatClampNeg)) (.int 0) = some (.int (M y.toNatClampNeg))
        rw [q9ofNat_clamp (by omega)]
        exact hX
      · exact e5 t (by omega)
    · cases h
  · cases h
/-- less of it -/
noncomputable def q9eqL_o (c : Int) (a : Nat) (n : q9AV) : q9RF := fun x => match q9famS c, q9famF x c a with
  | some (_, _, _, false), some z => if -1000 ≤ c ∧ c ≤ -104 ∧ q9okAV (q9tE x) n = true ∧ q9isInt x n = true ∧ q9leB x n z.2.2 0 = true then some [q9addS x [(0, c, c)] [] [((q9tE x).length, (a, 0), n)] [] []] else none
  | _, _ => none
noncomputable def q9eqL (c : Int) (a : Nat) (n : q9AV) : q9RF := fun x => match q9famS c, q9famF x c a with
  | some (_, _, _, false), some z => if -1000 ≤ c ∧ c ≤ -104 ∧ q9okAV (q9tE x) n = true ∧ q9isInt x n = true ∧ q9leB x n z.2.2 0 = true then some [q9addS x [(0, c, c)] [] [((q9ln9 (q9tE x)), (a, 0), n)] [] []] else none
  | _, _ => none
theorem q9eqL_oq : @q9eqL = @q9eqL_o := by
  delta q9eqL q9eqL_o
  simp only [q9ge9_eq, q9fi9_eq, q9an9_eq, q9al9_eq, q9flt9_eq, q9el9_eq, q9set9_eq, q9ln9_eq, q9gD9_eq, q9ap9_eq, q9eq9_N, q9eq9_I, q9eq9_A, q9eq9_E, q9eq9_OI, q9eq9_ON, q9eq9_OA, q9eq9_L, q9eq9_S, q9de9_N, q9de9_I, q9de9_A, q9le9_N, q9le9_I, q9lt9_N, q9lt9_I, q9de9_E, q9de9_OI, q9de9_ON, q9de9_OA, q9de9_L, q9nd9_eq, q9or9_eq, Bool.cond_decide]
theorem q9eqL_ok (c : Int) (a : Nat) (n : q9AV) : q9RFok O (q9eqL c a n) := by
  intro nL g cT A x r G ws ls st xs hw hM hT hD h
  (rewrite [q9eqL_oq] at h; unfold q9eqL_o at h)
  split at h
  · rename_i m cds op z hs hz
    split at h
    · rename_i hc
      obtain ⟨k1, k2, c1, c2, c3⟩ := hc
      cases h
      obtain ⟨hF, hz2, ha⟩ := q9famF_ok hM hw (by omega) hz
      rw [q9FMP_5 (by omega)] at hF
      unfold q9FM5 at hF
      rw [hs] at hF
      obtain ⟨a0, cd, n0, M, e1, e2, e3, e4, e5, -⟩ : q9EQF O m cds op false G ws (r a) (q9ev r z.2.2) := hF
      obtain ⟨y, y1⟩ := q9isInt_ok hM.2.2.2.1 c1 c2
      have l1 := q9leB_ok hM c1 hz2 c3
      rw [y1, e2] at l1
      have l1 : y.toInt ≤ n0.toInt + 0 := l1
      refine q9rf_fam hM hw (by omega) k1 ha c1 ?_
      rw [q9FMP_5 (by omega)]
      unfold q9FM5
      rw [hs]
      show q9EQF O m cds op false G ws (r a) (q9ev r n)
      exact ⟨a0, cd, y, M, e1, y1, e3, e4, fun t ht => e5 t (by omega), fun hh => by cases hh⟩
    · cases h
  · cases h
noncomputable def q9tpW (c : Int) (a : Nat) (n : q9AV) : q9RF := q9eqL c a n
theorem q9tpW_ok (c : Int) (a : Nat) (n : q9AV) : q9RFok O (q9tpW c a n) := q9eqL_ok _ _ _
theorem q9in_of {nL : Nat} {g : List Value} {x : q9ST} {r : Nat → Value} {G : q9GH} {ws : va_W} {ls : Array Slot} {st : List Value} (hM : q9SM O nL g x r G ws ls st) {cT : Nat → ClassId} (hT : q9tyW cT q9TBL G ws) {a cd : Nat} (h : q9codeOf x a = some cd) (h9 : 100 ≤ cd) {K : q9AK} (hK : q9KAS[cd - 100]? = some K) (h0 : K.1 = 0 ∨ K.1 = 1) : ∃ (b : Nat) (M : Nat → Int32), r a = .ref b ∧ q9inA G ws b cd M := by
  obtain ⟨b, n, e1, m1⟩ := q9codeOf_ok hM.2.2.2.1 h
  obtain ⟨q, e, g1, g2, g3⟩ := hT.at m1
  rcases g3 with ⟨hh, -⟩ | ⟨-, K', u1, u2⟩
  · omega
  · have u1 : q9KAS[cd - 100]? = some K' := u1
    rw [hK] at u1
    cases u1
    obtain ⟨t, N, fx, et⟩ := K
    rcases h0 with h0 | h0
    · have h0 : t = 0 := h0
      subst h0
      obtain ⟨-, -, M, u3, -⟩ := u2
      subst u3
      exact ⟨b, M, e1, q, n, n, _, g1, g2⟩
    · have h0 : t = 1 := h0
      subst h0
      obtain ⟨-, -, M, u3, -⟩ := u2
      subst u3
      exact ⟨b, M, e1, q, n, n, _, g1, g2⟩
/-- nothing yet -/
noncomputable def q9eqN_o (c : Int) (a : Nat) (n : q9AV) : q9RF := fun x => match q9famS c, q9codeOf x a, q9num (q9tE x) n with
  | some (_, cds, _, false), some cd, some (0, _, h) => (match q9KAS[cd - 100]? with
    | some K => if -1000 ≤ c ∧ c ≤ -104 ∧ q9okAV (q9tE x) n = true ∧ h ≤ 0 ∧ cds.elem cd = true ∧ 100 ≤ cd ∧ (K.1 = 0 ∨ K.1 = 1) then some [q9addS x [(0, c, c)] [] [((q9tE x).length, (a, 0), n)] [] []] else none
    | none => none)
  | _, _, _ => none
noncomputable def q9eqN (c : Int) (a : Nat) (n : q9AV) : q9RF := fun x => match q9famS c, q9codeOf x a, q9num (q9tE x) n with
  | some (_, cds, _, false), some cd, some (0, _, h) => (match (q9ge9 q9KAS (cd - 100)) with
    | some K => if -1000 ≤ c ∧ c ≤ -104 ∧ q9okAV (q9tE x) n = true ∧ h ≤ 0 ∧ q9el9 cds cd = true ∧ 100 ≤ cd ∧ (K.1 = 0 ∨ K.1 = 1) then some [q9addS x [(0, c, c)] [] [((q9ln9 (q9tE x)), (a, 0), n)] [] []] else none
    | none => none)
  | _, _, _ => none
theorem q9eqN_oq : @q9eqN = @q9eqN_o := by
  delta q9eqN q9eqN_o
  simp only [q9ge9_eq, q9fi9_eq, q9an9_eq, q9al9_eq, q9flt9_eq, q9el9_eq, q9set9_eq, q9ln9_eq, q9gD9_eq, q9ap9_eq, q9eq9_N, q9eq9_I, q9eq9_A, q9eq9_E, q9eq9_OI, q9eq9_ON, q9eq9_OA, q9eq9_L, q9eq9_S, q9de9_N, q9de9_I, q9de9_A, q9le9_N, q9le9_I, q9lt9_N, q9lt9_I, q9de9_E, q9de9_OI, q9de9_ON, q9de9_OA, q9de9_L, q9nd9_eq, q9or9_eq, Bool.cond_decide]
theorem q9eqN_ok (c : Int) (a : Nat) (n : q9AV) : q9RFok O (q9eqN c a n) := by
  intro nL g cT A x r G ws ls st xs hw hM hT hD h
  (rewrite [q9eqN_oq] at h; unfold q9eqN_o at h)
  split at h
  · rename_i m cds op cd l hh hs hcd hn
    split at h
    · rename_i K hK
      split at h
      · rename_i hc
        obtain ⟨k1, k2, c1, c2, c3, c4, c5⟩ := hc
        cases h
        obtain ⟨y, y1, -, y2, y3⟩ := q9num_int hM.2.2.2.1 c1 hn
        obtain ⟨b, M, e1, e4⟩ := q9in_of hM hT hcd c4 hK c5
        refine q9rf_fam hM hw (by omega) k1 (q9codeOf_lt hcd) c1 ?_
        rw [q9FMP_5 (by omega)]
        unfold q9FM5
        rw [hs]
        show q9EQF O m cds op false G ws (r a) (q9ev r n)
        exact ⟨b, cd, y, M, e1, y1, List.elem_iff.mp c3, e4, fun t ht => by omega, fun hh => by cases hh⟩
      · cases h
    · cases h
  · cases h
noncomputable def q9grN (c : Int) (a : Nat) (n : q9AV) : q9RF := q9eqN c a n
noncomputable def q9tpN (c : Int) (a : Nat) (n : q9AV) : q9RF := q9eqN c a n
theorem q9grN_ok (c : Int) (a : Nat) (n : q9AV) : q9RFok O (q9grN c a n) := q9eqN_ok _ _ _
theorem q9tpN_ok (c : Int) (a : Nat) (n : q9AV) : q9RFok O (q9tpN c a n) := q9eqN_ok _ _ _
/-- an operation's result, of equal values -/
noncomputable def q9xeR_o (o : Nat) (a b k : q9AV) : q9RF := fun x => if q9okAV (q9tE x) a = true ∧ q9okAV (q9tE x) b = true ∧ q9okAV (q9tE x) k = true ∧ k.2 = 0 ∧ (q9tX x).any (fun q => q.1 == o && (q9eqV x q.2.1 a && (q9eqV x q.2.2.1 b && q9eqV x (q.2.2.2, 0) k))) = true then some [q9addS x [] [] [] [] [(o, a, b, k.1)]] else none
noncomputable def q9xeR (o : Nat) (a b k : q9AV) : q9RF := fun x => if q9okAV (q9tE x) a = true ∧ q9okAV (q9tE x) b = true ∧ q9okAV (q9tE x) k = true ∧ k.2 = 0 ∧ q9an9 (q9tX x) (fun q => q9nd9 (q9eq9 (q.1) (o)) ((q9nd9 (q9eqV x q.2.1 a) ((q9nd9 (q9eqV x q.2.2.1 b) (q9eqV x (q.2.2.2, 0) k)))))) = true then some [q9addS x [] [] [] [] [(o, a, b, k.1)]] else none
theorem q9xeR_oq : @q9xeR = @q9xeR_o := by
  delta q9xeR q9xeR_o
  simp only [q9ge9_eq, q9fi9_eq, q9an9_eq, q9al9_eq, q9flt9_eq, q9el9_eq, q9set9_eq, q9ln9_eq, q9gD9_eq, q9ap9_eq, q9eq9_N, q9eq9_I, q9eq9_A, q9eq9_E, q9eq9_OI, q9eq9_ON, q9eq9_OA, q9eq9_L, q9eq9_S, q9de9_N, q9de9_I, q9de9_A, q9le9_N, q9le9_I, q9lt9_N, q9lt9_I, q9de9_E, q9de9_OI, q9de9_ON, q9de9_OA, q9de9_L, q9nd9_eq, q9or9_eq, Bool.cond_decide]
theorem q9xeR_ok (o : Nat) (a b k : q9AV) : q9RFok O (q9xeR o a b k) := by
  intro nL g cT A x r G ws ls st xs hw hM hT hD h
  (rewrite [q9xeR_oq] at h; unfold q9xeR_o at h)
  split at h
  · rename_i hc
    obtain ⟨c1, c2, c3, c4, c5⟩ := hc
    cases h
    simp only [List.any_eq_true, Bool.and_eq_true, beq_iff_eq] at c5
    obtain ⟨q, q1, q2, q3, q4, q5⟩ := c5
    have hX := hM.2.2.2.2.2.2.2 q q1
    unfold q9EXok at hX
    have h5 := q9eqV_ok hM q5
    rw [q9ev_zero] at h5
    rw [q2, q9eqV_ok hM q3, q9eqV_ok hM q4, h5, q9isSym c4] at hX
    exact q9rf_X hM hw c1 c2 (q9okAV_lt c3) hX
  · cases h
/-- the symbols that comparisons speak of; told, and then what the comparisons say -/
noncomputable def q9syC (l : List (Nat × Nat × Int)) : List Nat := List.rec (motive := fun _ => List Nat) [] (fun p _ ih => p.1 :: p.2.1 :: ih) l
noncomputable def q9thenP (g : List Nat) (x1 : q9ST) : Option (List q9ST) := if q9wfQ x1 = true then (match q9pT (q9tC x1) g x1 with
  | some x2 => some [x2]
  | none => some []) else none
theorem q9thenP_ok {nL : Nat} {g : List Value} {cT : Nat → ClassId} {A : Nat → Prop} {x x1 : q9ST} {r : Nat → Value} {G : q9GH} {ws : va_W} {ls : Array Slot} {st : List Value} {xs : List q9ST} {gs : List Nat} (hT : q9tyW cT q9TBL G ws) (hD : va_D A ws) (h1 : ∃ x' ∈ [x1], ∃ r' : Nat → Value, q9agr (q9tE x).length r r' ∧ (q9tE x).length ≤ (q9tE x').length ∧ q9tN x' = q9tN x ∧ q9tM x' = q9tM x ∧ q9SM O nL g x' r' G ws ls st) (h : q9thenP gs x1 = some xs) :
    ∃ x' ∈ xs, ∃ r' : Nat → Value, q9agr (q9tE x).length r r' ∧ (q9tE x).length ≤ (q9tE x').length ∧ q9tN x' = q9tN x ∧ q9tM x' = q9tM x ∧ q9SM O nL g x' r' G ws ls st := by
  obtain ⟨x', m1, r', a1, l1, n1, n2, hM⟩ := h1
  rw [List.mem_singleton] at m1
  subst m1
  unfold q9thenP at h
  split at h
  · rename_i hw
    have hw := q9wfQ_ok hw
    obtain ⟨x9, e1, q1⟩ := q9pT_ok (q9tC x') gs x' hM hM.2.2.2.2.2.2.1
    rw [e1] at h
    cases h
    obtain ⟨x2, m2, r2, a2, l2, n3, n4, h2⟩ := q9rf_more hM (List.mem_cons_self (a := x9) (l := [])) q1
    exact ⟨x2, m2, r2, a1.tr a2 l1, Nat.le_trans l1 l2, n3.trans n1, n4.trans n2, h2⟩
  · cases h
/-- the same operation of equal things: the same -/
noncomputable def q9cgC (k0 : Nat) (qs : List (Nat × q9AV × q9AV × Nat)) : List (Nat × Nat × Int) := qs.reverse.flatMap (fun q => [(k0, q.2.2.2, 0), (q.2.2.2, k0, 0)])
noncomputable def q9cgV_o (o : Nat) (a b : q9AV) : q9RF := fun x => match (q9tX x).filter (fun q => q.1 == o && (q9eqV x q.2.1 a && q9eqV x q.2.2.1 b)) with
  | q0 :: q1 :: qs => q9thenP (q9syC (q9cgC q0.2.2.2 (q1 :: qs))) (q9addS x [] [] [] (q9cgC q0.2.2.2 (q1 :: qs)) [])
  | _ => none
noncomputable def q9cgV (o : Nat) (a b : q9AV) : q9RF := fun x => match q9flt9 (q9tX x) (fun q => q9nd9 (q9eq9 (q.1) (o)) ((q9nd9 (q9eqV x q.2.1 a) (q9eqV x q.2.2.1 b)))) with
  | q0 :: q1 :: qs => q9thenP (q9syC (q9cgC q0.2.2.2 (q1 :: qs))) (q9addS x [] [] [] (q9cgC q0.2.2.2 (q1 :: qs)) [])
  | _ => none
theorem q9cgV_oq : @q9cgV = @q9cgV_o := by
  delta q9cgV q9cgV_o
  simp only [q9ge9_eq, q9fi9_eq, q9an9_eq, q9al9_eq, q9flt9_eq, q9el9_eq, q9set9_eq, q9ln9_eq, q9gD9_eq, q9ap9_eq, q9eq9_N, q9eq9_I, q9eq9_A, q9eq9_E, q9eq9_OI, q9eq9_ON, q9eq9_OA, q9eq9_L, q9eq9_S, q9de9_N, q9de9_I, q9de9_A, q9le9_N, q9le9_I, q9lt9_N, q9lt9_I, q9de9_E, q9de9_OI, q9de9_ON, q9de9_OA, q9de9_L, q9nd9_eq, q9or9_eq, Bool.cond_decide]
theorem q9cgV_ok (o : Nat) (a b : q9AV) : q9RFok O (q9cgV o a b) := by
  intro nL g cT A x r G ws ls st xs hw hM hT hD h
  (rewrite [q9cgV_oq] at h; unfold q9cgV_o at h)
  split at h
  · rename_i q0 q1 qs hq
    refine q9thenP_ok hT hD (q9rf_add hM hw [] List.mem_cons_self q9ty_nil q9no_mem q9no_mem (fun z hz => ?_) q9no_mem) h
    have hall : ∀ q ∈ q0 :: q1 :: qs, q9exop O o (q9ev r a) (q9ev r b) = some (r q.2.2.2) ∧ q.2.2.2 < (q9tE x).length := by
      intro q hq9
      rw [← hq] at hq9
      obtain ⟨m1, m2⟩ := List.mem_filter.mp hq9
      simp only [Bool.and_eq_true, beq_iff_eq] at m2
      have hX := hM.2.2.2.2.2.2.2 q m1
      unfold q9EXok at hX
      rw [m2.1, q9eqV_ok hM m2.2.1, q9eqV_ok hM m2.2.2] at hX
      exact ⟨hX, (q9wf_X hw q m1).2.2⟩
    obtain ⟨h0, h1⟩ := hall q0 List.mem_cons_self
    unfold q9cgC at hz
    obtain ⟨q, m1, m2⟩ := List.mem_flatMap.mp hz
    rw [List.mem_reverse] at m1
    obtain ⟨h2, h3⟩ := hall q (List.mem_cons_of_mem _ m1)
    rw [h0] at h2
    have h2 := Option.some.inj h2
    have hi : q9iv r q0.2.2.2 = q9iv r q.2.2.2 := by
      unfold q9iv
      rw [h2]
    simp only [List.mem_cons, List.not_mem_nil, or_false] at m2
    unfold q9FCok
    rcases m2 with rfl | rfl
    · rw [q9upL_agr.iv h1, q9upL_agr.iv h3]
      dsimp only
      omega
    · rw [q9upL_agr.iv h1, q9upL_agr.iv h3]
      dsimp only
      omega
  · cases h
/-- .. the very same things -/
noncomputable def q9cgX_o (o : Nat) (a b : q9AV) : q9RF := fun x => match (q9tX x).filter (fun q => q.1 == o && (q.2.1 == a && q.2.2.1 == b)) with
  | q0 :: qs => q9thenP (q9syC (q9cgC q0.2.2.2 qs)) (q9addS x [] [] [] (q9cgC q0.2.2.2 qs) [])
  | _ => none
noncomputable def q9cgX (o : Nat) (a b : q9AV) : q9RF := fun x => match q9flt9 (q9tX x) (fun q => q9nd9 (q9eq9 (q.1) (o)) ((q9nd9 (q9eq9 (q.2.1) (a)) (q9eq9 (q.2.2.1) (b))))) with
  | q0 :: qs => q9thenP (q9syC (q9cgC q0.2.2.2 qs)) (q9addS x [] [] [] (q9cgC q0.2.2.2 qs) [])
  | _ => none
theorem q9cgX_oq : @q9cgX = @q9cgX_o := by
  delta q9cgX q9cgX_o
  simp only [q9ge9_eq, q9fi9_eq, q9an9_eq, q9al9_eq, q9flt9_eq, q9el9_eq, q9set9_eq, q9ln9_eq, q9gD9_eq, q9ap9_eq, q9eq9_N, q9eq9_I, q9eq9_A, q9eq9_E, q9eq9_OI, q9eq9_ON, q9eq9_OA, q9eq9_L, q9eq9_S, q9de9_N, q9de9_I, q9de9_A, q9le9_N, q9le9_I, q9lt9_N, q9lt9_I, q9de9_E, q9de9_OI, q9de9_ON, q9de9_OA, q9de9_L, q9nd9_eq, q9or9_eq, Bool.cond_decide]
theorem q9cgX_ok (o : Nat) (a b : q9AV) : q9RFok O (q9cgX o a b) := by
  intro nL g cT A x r G ws ls st xs hw hM hT hD h
  (rewrite [q9cgX_oq] at h; unfold q9cgX_o at h)
  split at h
  · rename_i q0 qs hq
    refine q9thenP_ok hT hD (q9rf_add hM hw [] List.mem_cons_self q9ty_nil q9no_mem q9no_mem (fun z hz => ?_) q9no_mem) h
    have hall : ∀ q ∈ q0 :: qs, q9exop O o (q9ev r a) (q9ev r b) = some (r q.2.2.2) ∧ q.2.2.2 < (q9tE x).length := by
      intro q hq9
      rw [← hq] at hq9
      obtain ⟨m1, m2⟩ := List.mem_filter.mp hq9
      simp only [Bool.and_eq_true, beq_iff_eq] at m2
      have hX := hM.2.2.2.2.2.2.2 q m1
      unfold q9EXok at hX
      rw [m2.1, m2.2.1, m2.2.2] at hX
      exact ⟨hX, (q9wf_X hw q m1).2.2⟩
    obtain ⟨h0, h1⟩ := hall q0 List.mem_cons_self
    unfold q9cgC at hz
    obtain ⟨q, m1, m2⟩ := List.mem_flatMap.mp hz
    rw [List.mem_reverse] at m1
    obtain ⟨h2, h3⟩ := hall q (List.mem_cons_of_mem _ m1)
    rw [h0] at h2
    have h2 := Option.some.inj h2
    have hi : q9iv r q0.2.2.2 = q9iv r q.2.2.2 := by
      unfold q9iv
      rw [h2]
    simp only [List.mem_cons, List.not_mem_nil, or_false] at m2
    unfold q9FCok
    rcases m2 with rfl | rfl
    · rw [q9upL_agr.iv h1, q9upL_agr.iv h3]
      dsimp only
      omega
    · rw [q9upL_agr.iv h1, q9upL_agr.iv h3]
      dsimp only
      omega
  · cases h
/-- a known field by an equal value -/
noncomputable def q9fqR (o j : Nat) (s : q9AV) : q9RF := fun x => match q9fF x o j with
  | some v => if j ≠ 1000 ∧ q9okAV (q9tE x) s = true ∧ q9eqV x v s = true then some [q9addS x [] [(o, j, s)] [] [] []] else none
  | none => none
theorem q9fqR_ok (o j : Nat) (s : q9AV) : q9RFok O (q9fqR o j s) := by
  intro nL g cT A x r G ws ls st xs hw hM hT hD h
  unfold q9fqR at h
  split at h
  · rename_i v hv
    split at h
    · rename_i hc
      obtain ⟨c1, c2, c3⟩ := hc
      cases h
      have hf := q9fF_ok hv
      have wf := q9wf_F hw _ hf
      have h8 := hM.2.2.2.2.1 _ hf
      refine q9rf_add hM hw [] List.mem_cons_self q9ty_nil (q9one_mem ?_) q9no_mem q9no_mem q9no_mem
      unfold q9FMok at h8 ⊢
      rw [if_neg c1] at h8 ⊢
      obtain ⟨a, i, ci, fs, f1, f2, f3⟩ := h8
      refine ⟨a, i, ci, fs, (q9upL_lt wf.1).trans f1, f2, ?_⟩
      show fs[j]? = some (q9ev _ s)
      rw [q9upL_agr.ev c2, ← q9eqV_ok hM c3]
      exact f3
    · cases h
  · cases h
/-! by depth -/
noncomputable def q9depX_o (x : q9ST) (o : Nat) (p : q9AV) : Option Nat := ((q9tX x).find? (fun q => q.1 == o && (q9eqV x q.2.1 p && (q.2.2.1 == ((0, 0) : q9AV) && (q9okAV (q9tE x) (q.2.2.2, 0) && q9isInt x (q.2.2.2, 0)))))).map (fun q => q.2.2.2)
noncomputable def q9depX (x : q9ST) (o : Nat) (p : q9AV) : Option Nat := (q9fi9 (q9tX x) (fun q => q9nd9 (q9eq9 (q.1) (o)) ((q9nd9 (q9eqV x q.2.1 p) ((q9nd9 (q9eq9 (q.2.2.1) (((0, 0) : q9AV))) ((q9nd9 (q9okAV (q9tE x) (q.2.2.2, 0)) (q9isInt x (q.2.2.2, 0)))))))))).map (fun q => q.2.2.2)
theorem q9depX_oq : @q9depX = @q9depX_o := by
  delta q9depX q9depX_o
  simp only [q9ge9_eq, q9fi9_eq, q9an9_eq, q9al9_eq, q9flt9_eq, q9el9_eq, q9set9_eq, q9ln9_eq, q9gD9_eq, q9ap9_eq, q9eq9_N, q9eq9_I, q9eq9_A, q9eq9_E, q9eq9_OI, q9eq9_ON, q9eq9_OA, q9eq9_L, q9eq9_S, q9de9_N, q9de9_I, q9de9_A, q9le9_N, q9le9_I, q9lt9_N, q9lt9_I, q9de9_E, q9de9_OI, q9de9_ON, q9de9_OA, q9de9_L, q9nd9_eq, q9or9_eq, Bool.cond_decide]
theorem q9depX_ok {nL : Nat} {g : List Value} {x : q9ST} {r : Nat → Value} {G : q9GH} {ws : va_W} {ls : Array Slot} {st : List Value} (hM : q9SM O nL g x r G ws ls st) (hz : q9zeroB x = true) {o : Nat} (ho : 1000 ≤ o) {p : q9AV} {k : Nat} (h : q9depX x o p = some k) : ∃ d : Int32, O.1 o (q9ev r p) (.int 0) = some (.int d) ∧ q9ev r (k, 0) = .int d ∧ q9okAV (q9tE x) (k, 0) = true := by
  (rewrite [q9depX_oq] at h; unfold q9depX_o at h)
  cases hf : (q9tX x).find? (fun q => q.1 == o && (q9eqV x q.2.1 p && (q.2.2.1 == ((0, 0) : q9AV) && (q9okAV (q9tE x) (q.2.2.2, 0) && q9isInt x (q.2.2.2, 0))))) with
  | none => rw [hf] at h; cases h
  | some q =>
    rw [hf] at h
    cases h
    have h1 := List.find?_some hf
    have h2 := List.mem_of_find?_eq_some hf
    simp only [Bool.and_eq_true, beq_iff_eq] at h1
    have hX := hM.2.2.2.2.2.2.2 q h2
    unfold q9EXok at hX
    rw [h1.1, q9eqV_ok hM h1.2.1, h1.2.2.1, q9zero_ev0 hM.2.2.2.1 (q9zero_at hz), q9exop_hi ho] at hX
    obtain ⟨d, hd⟩ := q9isInt_ok hM.2.2.2.1 h1.2.2.2.1 h1.2.2.2.2
    have hd2 := hd
    rw [q9ev_zero] at hd2
    rw [hd2] at hX
    exact ⟨d, hX, hd, h1.2.2.2.1⟩
/-- an element by its family -/
noncomputable def q9faL_o (c : Int) (a : Nat) (i : q9AV) : q9RF := fun x => match q9famD c, q9famF x c a, q9num (q9tE x) i with
  | some (cd, op, lo, lv), some z, some (0, l, _) => (match q9depX x 1021 z.2.2 with
    | some k => if -1000 ≤ c ∧ c ≤ -104 ∧ 1000 ≤ op ∧ q9okAV (q9tE x) i = true ∧ q9zeroB x = true ∧ (lo : Int) ≤ l ∧ q9leB x i (k, 0) (-(lv : Int)) = true then
      some [q9addS x [if cd = 140 then (0, -2147483648, 2147483647) else (1, -9223372036854775808, 9223372036854775807)] [] [(a, i, ((q9tE x).length, 0))] [] [(op, z.2.2, i, (q9tE x).length)]] else none
    | none => none)
  | _, _, _ => none
noncomputable def q9faL (c : Int) (a : Nat) (i : q9AV) : q9RF := fun x => match q9famD c, q9famF x c a, q9num (q9tE x) i with
  | some (cd, op, lo, lv), some z, some (0, l, _) => (match q9depX x 1021 z.2.2 with
    | some k => if -1000 ≤ c ∧ c ≤ -104 ∧ 1000 ≤ op ∧ q9okAV (q9tE x) i = true ∧ q9zeroB x = true ∧ (lo : Int) ≤ l ∧ q9leB x i (k, 0) (-(lv : Int)) = true then
      some [q9addS x [bif q9de9 (cd) (140) then (0, -2147483648, 2147483647) else (1, -9223372036854775808, 9223372036854775807)] [] [(a, i, ((q9ln9 (q9tE x)), 0))] [] [(op, z.2.2, i, (q9ln9 (q9tE x)))]] else none
    | none => none)
  | _, _, _ => none
theorem q9faL_oq : @q9faL = @q9faL_o := by
  delta q9faL q9faL_o
  simp only [q9ge9_eq, q9fi9_eq, q9an9_eq, q9al9_eq, q9flt9_eq, q9el9_eq, q9set9_eq, q9ln9_eq, q9gD9_eq, q9ap9_eq, q9eq9_N, q9eq9_I, q9eq9_A, q9eq9_E, q9eq9_OI, q9eq9_ON, q9eq9_OA, q9eq9_L, q9eq9_S, q9de9_N, q9de9_I, q9de9_A, q9le9_N, q9le9_I, q9lt9_N, q9lt9_I, q9de9_E, q9de9_OI, q9de9_ON, q9de9_OA, q9de9_L, q9nd9_eq, q9or9_eq, Bool.cond_decide]
theorem q9famD_ty {cT : Nat → ClassId} {G : q9GH} {ws : va_W} (hT : q9tyW cT q9TBL G ws) {c : Int} {cd op lo lv : Nat} (hc : q9famD c = some (cd, op, lo, lv)) {a : Nat} {e : va_E} (h : q9arA G ws a cd e) (j : Nat) : q9tyV G (if cd = 140 then (0, -2147483648, 2147483647) else (1, -9223372036854775808, 9223372036854775807)) (q9elV e j) := by
  obtain ⟨q, k, h1, h2, -⟩ := h
  obtain ⟨e', g1, g2⟩ := hT.2.1 q _ _ _ h1
  rw [h2] at g1
  cases g1
  have hcd : (cd = 140 ∧ q9KAS[cd - 100]? = some (0, 5, true, 0, -2147483648, 2147483647)) ∨ (cd ≠ 140 ∧ ∃ t, q9KAS[cd - 100]? = some (2, t)) := by
    (rewrite [q9famD_oq] at hc; unfold q9famD_o at hc)
    repeat' split at hc
    all_goals first
      | (cases hc; exact .inr ⟨by decide, _, rfl⟩)
      | (cases hc; exact .inl ⟨rfl, rfl⟩)
      | cases hc
  rcases g2 with ⟨hh, -⟩ | ⟨-, K, u1, u2⟩
  · rcases hcd with ⟨h9, -⟩ | ⟨-, t, h9⟩
    · omega
    · have : cd - 100 < q9KAS.length := (List.getElem?_eq_some_iff.mp h9).1
      by_cases h0 : cd < 100
      · (rewrite [q9famD_oq] at hc; unfold q9famD_o at hc)
        repeat' split at hc
        all_goals first
          | (cases hc; omega)
          | cases hc
      · omega
  · have u1 : q9KAS[cd - 100]? = some K := u1
    rcases hcd with ⟨h8, h9⟩ | ⟨h8, t, h9⟩
    · rw [h9] at u1
      cases u1
      rw [if_pos h8]
      obtain ⟨-, -, M, u3, -⟩ := u2
      subst u3
      exact ⟨M j, rfl, by have := Int32.le_toInt (M j); show -2147483648 ≤ _; omega, by have := Int32.toInt_lt (M j); show _ ≤ 2147483647; omega⟩
    · rw [h9] at u1
      cases u1
      rw [if_neg h8]
      obtain ⟨-, -, M, u3, -⟩ := u2
      subst u3
      exact ⟨M j, rfl, by have := Int64.le_toInt (M j); show -9223372036854775808 ≤ _; omega, by have := Int64.toInt_lt (M j); show _ ≤ 9223372036854775807; omega⟩
theorem q9faL_ok (c : Int) (a : Nat) (i : q9AV) : q9RFok O (q9faL c a i) := by
  intro nL g cT A x r G ws ls st xs hw hM hT hD h
  (rewrite [q9faL_oq] at h; unfold q9faL_o at h)
  split at h
  · rename_i cd op lo lv z l hi hs hz hn
    split at h
    · rename_i k hk
      split at h
      · rename_i hc
        obtain ⟨k1, k2, k3, c1, c2, c3, c4⟩ := hc
        cases h
        obtain ⟨hF, hz2, ha⟩ := q9famF_ok hM hw (by omega) hz
        rw [q9FMP_5 (by omega)] at hF
        have hF2 := hF
        unfold q9FM5 at hF
        have hs9 : q9famS c = none := by
          (rewrite [q9famD_oq] at hs; unfold q9famD_o at hs)
          repeat' split at hs
          all_goals first
            | (rename_i hc9; subst hc9; rfl)
            | cases hs
        rw [hs9, hs] at hF
        obtain ⟨a0, p, e, e1, e2, e3, e4⟩ : q9FVF O cd op lo lv G ws (r a) (q9ev r z.2.2) := hF
        obtain ⟨d, d1, d2, d3⟩ := q9depX_ok hM c2 (by decide) hk
        rw [e2] at d1
        obtain ⟨y, y1, -, y2, y3⟩ := q9num_int hM.2.2.2.1 c1 hn
        have ey : y.toNatClampNeg = y.toInt.toNat := rfl
        have l1 := q9leB_ok hM c1 d3 c4
        rw [y1, d2] at l1
        have l1 : y.toInt ≤ d.toInt + -(lv : Int) := l1
        have h5 := e4 d d1 y.toNatClampNeg (by omega) (by omega)
        rw [q9ofNat_clamp (by omega)] at h5
        obtain ⟨q, kk, w1, w2, w3⟩ := id e3
        refine q9rf_XA hM hw hz2 c1 c1 ha (q9famD_ty hT hs e3 y.toNatClampNeg) ?_ e1 w2 w3 y1 rfl
        rw [e2, y1, q9exop_hi k3]
        exact h5
      · cases h
    · cases h
  · cases h
/-- q9one less of the top -/
noncomputable def q9faW_o (c : Int) (a : Nat) : q9RF := fun x => match q9famD c, q9famD (c - 1), q9famF x c a with
  | some (cd, op, lo, lv), some (cd', op', lo', lv'), some z => if -900 ≤ c ∧ c ≤ -104 ∧ cd' = cd ∧ op' = op ∧ lo' = lo ∧ lv ≤ lv' then some [q9addS x [(0, c - 1, c - 1)] [] [((q9tE x).length, (a, 0), z.2.2)] [] []] else none
  | _, _, _ => none
noncomputable def q9faW (c : Int) (a : Nat) : q9RF := fun x => match q9famD c, q9famD (c - 1), q9famF x c a with
  | some (cd, op, lo, lv), some (cd', op', lo', lv'), some z => if -900 ≤ c ∧ c ≤ -104 ∧ cd' = cd ∧ op' = op ∧ lo' = lo ∧ lv ≤ lv' then some [q9addS x [(0, c - 1, c - 1)] [] [((q9ln9 (q9tE x)), (a, 0), z.2.2)] [] []] else none
  | _, _, _ => none
theorem q9faW_oq : @q9faW = @q9faW_o := by
  delta q9faW q9faW_o
  simp only [q9ge9_eq, q9fi9_eq, q9an9_eq, q9al9_eq, q9flt9_eq, q9el9_eq, q9set9_eq, q9ln9_eq, q9gD9_eq, q9ap9_eq, q9eq9_N, q9eq9_I, q9eq9_A, q9eq9_E, q9eq9_OI, q9eq9_ON, q9eq9_OA, q9eq9_L, q9eq9_S, q9de9_N, q9de9_I, q9de9_A, q9le9_N, q9le9_I, q9lt9_N, q9lt9_I, q9de9_E, q9de9_OI, q9de9_ON, q9de9_OA, q9de9_L, q9nd9_eq, q9or9_eq, Bool.cond_decide]
theorem q9famD_no {c : Int} {q : Nat × Nat × Nat × Nat} (hs : q9famD c = some q) : q9famS c = none := by
  (rewrite [q9famD_oq] at hs; unfold q9famD_o at hs)
  repeat' split at hs
  all_goals first
    | (rename_i hc9; subst hc9; rfl)
    | cases hs
theorem q9faW_ok (c : Int) (a : Nat) : q9RFok O (q9faW c a) := by
  intro nL g cT A x r G ws ls st xs hw hM hT hD h
  (rewrite [q9faW_oq] at h; unfold q9faW_o at h)
  split at h
  · rename_i cd op lo lv cd' op' lo' lv' z hs hs' hz
    split at h
    · rename_i hc
      obtain ⟨k1, k2, rfl, rfl, rfl, k3⟩ := hc
      cases h
      obtain ⟨hF, hz2, ha⟩ := q9famF_ok hM hw (by omega) hz
      rw [q9FMP_5 (by omega)] at hF
      unfold q9FM5 at hF
      rw [q9famD_no hs, hs] at hF
      obtain ⟨a0, p, e, e1, e2, e3, e4⟩ : q9FVF O cd' op' lo' lv G ws (r a) (q9ev r z.2.2) := hF
      refine q9rf_fam hM hw (by omega) (by omega) ha hz2 ?_
      rw [q9FMP_5 (by omega)]
      unfold q9FM5
      rw [q9famD_no hs', hs']
      show q9FVF O cd' op' lo' lv' G ws (r a) (q9ev r z.2.2)
      exact ⟨a0, p, e, e1, e2, e3, fun d hd j hj1 hj2 => e4 d hd j hj1 (by omega)⟩
    · cases h
  · cases h
theorem q9fm5d {c : Int} {q : Nat × Nat × Nat × Nat} (hs : q9famD c = some q) {G : q9GH} {ws : va_W} {v1 v2 : Value} : q9FM5 O c G ws v1 v2 = q9FVF O q.1 q.2.1 q.2.2.1 q.2.2.2 G ws v1 v2 := by
  unfold q9FM5
  rw [q9famD_no hs, hs]
/-- from q9one turn to the next -/
noncomputable def q9faU_o (op lv : Nat) (s : Int) : Int := if op = 1023 then min 1 (s + 1) else min (min (1 - (lv : Int)) 0) s
noncomputable def q9faU (op lv : Nat) (s : Int) : Int := bif q9de9 (op) (1023) then min 1 (s + 1) else min (min (1 - (lv : Int)) 0) s
theorem q9faU_oq : @q9faU = @q9faU_o := by
  delta q9faU q9faU_o
  simp only [q9ge9_eq, q9fi9_eq, q9an9_eq, q9al9_eq, q9flt9_eq, q9el9_eq, q9set9_eq, q9ln9_eq, q9gD9_eq, q9ap9_eq, q9eq9_N, q9eq9_I, q9eq9_A, q9eq9_E, q9eq9_OI, q9eq9_ON, q9eq9_OA, q9eq9_L, q9eq9_S, q9de9_N, q9de9_I, q9de9_A, q9le9_N, q9le9_I, q9lt9_N, q9lt9_I, q9de9_E, q9de9_OI, q9de9_ON, q9de9_OA, q9de9_L, q9nd9_eq, q9or9_eq, Bool.cond_decide]
noncomputable def q9faMe_o (x : q9ST) (op a : Nat) (p2 i : q9AV) : Bool := match q9fA x a i with
  | some v => q9okAV (q9tE x) i && (q9tX x).any (fun q => q.1 == op && (q9eqV x q.2.1 p2 && (q9eqV x q.2.2.1 i && q9eqW x (q.2.2.2, 0) v)))
  | none => false
noncomputable def q9faMe (x : q9ST) (op a : Nat) (p2 i : q9AV) : Bool := match q9fA x a i with
  | some v => q9nd9 (q9okAV (q9tE x) i) (q9an9 (q9tX x) (fun q => q9nd9 (q9eq9 (q.1) (op)) ((q9nd9 (q9eqV x q.2.1 p2) ((q9nd9 (q9eqV x q.2.2.1 i) (q9eqW x (q.2.2.2, 0) v)))))))
  | none => false
theorem q9faMe_oq : @q9faMe = @q9faMe_o := by
  delta q9faMe q9faMe_o
  simp only [q9ge9_eq, q9fi9_eq, q9an9_eq, q9al9_eq, q9flt9_eq, q9el9_eq, q9set9_eq, q9ln9_eq, q9gD9_eq, q9ap9_eq, q9eq9_N, q9eq9_I, q9eq9_A, q9eq9_E, q9eq9_OI, q9eq9_ON, q9eq9_OA, q9eq9_L, q9eq9_S, q9de9_N, q9de9_I, q9de9_A, q9le9_N, q9le9_I, q9lt9_N, q9lt9_I, q9de9_E, q9de9_OI, q9de9_ON, q9de9_OA, q9de9_L, q9nd9_eq, q9or9_eq, Bool.cond_decide]
noncomputable def q9faM_o (c : Int) (a : Nat) (p2 : q9AV) : q9RF := fun x => match q9famD c, q9famF x c a with
  | some (cd, op, lo, lv), some z => (match q9depX x 1021 z.2.2, q9depX x 1021 p2 with
    | some k, some k2 => (match ([-1, 0, 1] : List Int).find? (fun s => q9leB x (k2, 0) (k, 0) s && q9leB x (k, 0) (k2, 0) (-s)) with
      | some s => if -1000 ≤ c ∧ c + lv ≤ -104 ∧ q9famD (c + lv) = some (cd, op, lo, 0) ∧ q9zeroB x = true ∧ q9okAV (q9tE x) p2 = true ∧ (op = 1023 → lv = 0) ∧ (op = 1023 ∨ op = 1024 ∨ op = 1025) ∧ (op = 1023 → 1 ≤ lo) ∧ q9isInt x p2 = true ∧
          (q9tX x).any (fun q => q.1 == 1026 && (q9eqV x q.2.1 p2 && (q.2.2.1 == ((0, 0) : q9AV) && q9eqV x (q.2.2.2, 0) z.2.2))) = true ∧ (q9num (q9tE x) (k, 0)).isSome = true ∧
          (List.range (s - q9faU op lv s + 1).toNat).all (fun t => q9faMe x op a p2 (k, q9faU op lv s + (t : Int))) = true then some [q9addS x [(0, c + lv, c + lv)] [] [((q9tE x).length, (a, 0), p2)] [] []] else none
      | none => none)
    | _, _ => none)
  | _, _ => none
noncomputable def q9faM (c : Int) (a : Nat) (p2 : q9AV) : q9RF := fun x => match q9famD c, q9famF x c a with
  | some (cd, op, lo, lv), some z => (match q9depX x 1021 z.2.2, q9depX x 1021 p2 with
    | some k, some k2 => (match q9fi9 ([-1, 0, 1] : List Int) (fun s => q9nd9 (q9leB x (k2, 0) (k, 0) s) (q9leB x (k, 0) (k2, 0) (-s))) with
      | some s => if -1000 ≤ c ∧ c + lv ≤ -104 ∧ q9famD (c + lv) = some (cd, op, lo, 0) ∧ q9zeroB x = true ∧ q9okAV (q9tE x) p2 = true ∧ (op = 1023 → lv = 0) ∧ (op = 1023 ∨ op = 1024 ∨ op = 1025) ∧ (op = 1023 → 1 ≤ lo) ∧ q9isInt x p2 = true ∧
          q9an9 (q9tX x) (fun q => q9nd9 (q9eq9 (q.1) (1026)) ((q9nd9 (q9eqV x q.2.1 p2) ((q9nd9 (q9eq9 (q.2.2.1) (((0, 0) : q9AV))) (q9eqV x (q.2.2.2, 0) z.2.2)))))) = true ∧ (q9num (q9tE x) (k, 0)).isSome = true ∧
          q9al9 (List.range (s - q9faU op lv s + 1).toNat) (fun t => q9faMe x op a p2 (k, q9faU op lv s + (t : Int))) = true then some [q9addS x [(0, c + lv, c + lv)] [] [((q9ln9 (q9tE x)), (a, 0), p2)] [] []] else none
      | none => none)
    | _, _ => none)
  | _, _ => none
theorem q9faM_oq : @q9faM = @q9faM_o := by
  delta q9faM q9faM_o
  simp only [q9ge9_eq, q9fi9_eq, q9an9_eq, q9al9_eq, q9flt9_eq, q9el9_eq, q9set9_eq, q9ln9_eq, q9gD9_eq, q9ap9_eq, q9eq9_N, q9eq9_I, q9eq9_A, q9eq9_E, q9eq9_OI, q9eq9_ON, q9eq9_OA, q9eq9_L, q9eq9_S, q9de9_N, q9de9_I, q9de9_A, q9le9_N, q9le9_I, q9lt9_N, q9lt9_I, q9de9_E, q9de9_OI, q9de9_ON, q9de9_OA, q9de9_L, q9nd9_eq, q9or9_eq, Bool.cond_decide]
theorem q9faM_ok (c : Int) (a : Nat) (p2 : q9AV) : q9RFok O (q9faM c a p2) := by
  intro nL g cT A x r G ws ls st xs hw hM hT hD h
  (rewrite [q9faM_oq] at h; unfold q9faM_o at h)
  split at h
  · rename_i cd op lo lv z hs hz
    split at h
    · rename_i k k2 hk hk2
      split at h
      · rename_i s hfs
        split at h
        · rename_i hc
          obtain ⟨k1, k3, c0, c1, c2, c3, c4, c5, c6, c7, q9c8, c9⟩ := hc
          cases h
          have hs1 := List.find?_some hfs
          rw [Bool.and_eq_true] at hs1
          obtain ⟨hF, hz2, ha⟩ := q9famF_ok hM hw (by omega) hz
          rw [q9FMP_5 (by omega), q9fm5d hs] at hF
          obtain ⟨a0, p, e, e1, e2, e3, e4⟩ : q9FVF O cd op lo lv G ws (r a) (q9ev r z.2.2) := hF
          obtain ⟨d, d1, d2, d3⟩ := q9depX_ok hM c1 (by decide) hk
          obtain ⟨d', b1, b2, b3⟩ := q9depX_ok hM c1 (by decide) hk2
          rw [e2] at d1
          obtain ⟨t2, ht2⟩ := q9isInt_ok hM.2.2.2.1 c2 c6
          rw [ht2] at b1
          have l1 := q9leB_ok hM b3 d3 hs1.1
          have l2 := q9leB_ok hM d3 b3 hs1.2
          rw [b2, d2] at l1 l2
          have l1 : d'.toInt ≤ d.toInt + s := l1
          have l2 : d.toInt ≤ d'.toInt + -s := l2
          simp only [List.any_eq_true, Bool.and_eq_true, beq_iff_eq] at c7
          obtain ⟨q, q1, q2, q3, q4, q5⟩ := c7
          have hX := hM.2.2.2.2.2.2.2 q q1
          unfold q9EXok at hX
          have h5 := q9eqV_ok hM q5
          rw [q9ev_zero, e2] at h5
          rw [q2, q9eqV_ok hM q3, q4, ht2, q9zero_ev0 hM.2.2.2.1 (q9zero_at c1), q9exop_hi (by decide), h5] at hX
          have hGX := O.2.2
          refine q9rf_fam hM hw (by omega) (by omega) ha c2 ?_
          rw [q9FMP_5 (by omega), q9fm5d c0]
          show q9FVF O cd op lo 0 G ws (r a) (q9ev r p2)
          refine ⟨a0, t2, e, e1, ht2, e3, fun dd hdd j hj1 hj2 => ?_⟩
          have hdd : O.1 1021 (.int t2) (.int 0) = some (.int dd) := hdd
          rw [b1] at hdd
          cases hdd
          have hj3 : (Int32.ofNat j).toInt = j := Int32.toInt_ofNat_of_lt (by have := Int32.toInt_lt d'; omega)
          by_cases hju : (j : Int) ≤ d.toInt + q9faU op lv s - 1
          · rcases c4 with h9 | h9
            · have hl := c3 h9
              have hlo := c5 h9
              (rewrite [q9faU_oq] at hju; unfold q9faU_o at hju)
              rw [if_pos h9] at hju
              have h8 := e4 d d1 j hj1 (by omega)
              rw [h9] at h8 ⊢
              exact hGX.2.2.1 t2 p d d' (Int32.ofNat j) _ hX d1 b1 (by omega) (by omega) (by omega) h8
            · have h9' : ¬ op = 1023 := by omega
              (rewrite [q9faU_oq] at hju; unfold q9faU_o at hju)
              rw [if_neg h9'] at hju
              have h8 := e4 d d1 j hj1 (by omega)
              exact hGX.2.2.2.1 t2 p d d' (Int32.ofNat j) _ op h9 hX d1 b1 (by omega) (by omega) (by omega) h8
          · have h7 := List.all_eq_true.mp c9 ((j : Int) - d.toInt - q9faU op lv s).toNat (List.mem_range.mpr (by omega))
            have e7 : q9faU op lv s + ((((j : Int) - d.toInt - q9faU op lv s).toNat : Nat) : Int) = (j : Int) - d.toInt := by omega
            rw [e7] at h7
            (rewrite [q9faMe_oq] at h7; unfold q9faMe_o at h7)
            split at h7
            · rename_i v hv
              simp only [List.any_eq_true, Bool.and_eq_true, beq_iff_eq] at h7
              obtain ⟨w1, q', w2, w3, w4, w5, w6⟩ := h7
              have hY := hM.2.2.2.2.2.2.2 q' w2
              unfold q9EXok at hY
              have hnk : ∃ l hh, q9num (q9tE x) (k, 0) = some (0, l, hh) := by
                have : q9isInt x (k, 0) = true := by
                  (rewrite [q9depX_oq] at hk; unfold q9depX_o at hk)
                  cases hf : (q9tX x).find? (fun q => q.1 == 1021 && (q9eqV x q.2.1 z.2.2 && (q.2.2.1 == ((0, 0) : q9AV) && (q9okAV (q9tE x) (q.2.2.2, 0) && q9isInt x (q.2.2.2, 0))))) with
                  | none => rw [hf] at hk; cases hk
                  | some qq =>
                    rw [hf] at hk
                    cases hk
                    have h1 := List.find?_some hf
                    simp only [Bool.and_eq_true] at h1
                    exact h1.2.2.2.2
                (rewrite [q9isInt_oq] at this; unfold q9isInt_o at this)
                (rewrite [q9num_oq]; unfold q9num_o)
                split at this
                · rename_i t ht
                  rw [ht]
                  dsimp only
                  rw [if_pos (by simpa using this)]
                  exact ⟨_, _, rfl⟩
                · cases this
              obtain ⟨l0, h0, hnk⟩ := hnk
              obtain ⟨y', f1, f2⟩ := q9ev_off5 (d := (j : Int) - d.toInt) hM.2.2.2.1 hnk d3 (by rw [Int.zero_add]; exact w1) d2
              rw [Int.zero_add] at f1
              have hy' : y' = Int32.ofNat j := Int32.toInt_inj.mp (by omega)
              subst hy'
              have hcl : (Int32.ofNat j).toNatClampNeg = j := by
                show (Int32.ofNat j).toInt.toNat = j
                omega
              obtain ⟨qq, kk, m1, m2, ⟨cA, n9, f9⟩, rfl⟩ := e3
              obtain ⟨-, hv2⟩ := q9fA_ok hM hw hD hv w1 f1 e1 m2
              rw [hcl] at hv2
              have h6 := q9eqW_ok hM w6
              rw [q9ev_zero, hv2] at h6
              rw [w3, q9eqV_ok hM w4, ht2, q9eqV_ok hM w5, f1, h6, q9exop_hi (by omega)] at hY
              exact hY
            · cases h7
        · cases h
      · cases h
    · cases h
  · cases h
/-- at the beginning -/
noncomputable def q9faN_o (c : Int) (a : Nat) (p : q9AV) : q9RF := fun x => match q9famD c, q9codeOf x a, q9depX x 1021 p with
  | some (cd, op, lo, 0), some cd', some k => (match q9num (q9tE x) (k, 0) with
    | some (0, _, h) => if -1000 ≤ c ∧ c ≤ -104 ∧ cd' = cd ∧ q9zeroB x = true ∧ q9okAV (q9tE x) p = true ∧ q9isInt x p = true ∧ h ≤ 0 ∧ (1 ≤ lo ∨ (1000 ≤ op ∧ q9faMe x op a p (0, 0) = true)) then some [q9addS x [(0, c, c)] [] [((q9tE x).length, (a, 0), p)] [] []] else none
    | _ => none)
  | _, _, _ => none
noncomputable def q9faN (c : Int) (a : Nat) (p : q9AV) : q9RF := fun x => match q9famD c, q9codeOf x a, q9depX x 1021 p with
  | some (cd, op, lo, 0), some cd', some k => (match q9num (q9tE x) (k, 0) with
    | some (0, _, h) => if -1000 ≤ c ∧ c ≤ -104 ∧ cd' = cd ∧ q9zeroB x = true ∧ q9okAV (q9tE x) p = true ∧ q9isInt x p = true ∧ h ≤ 0 ∧ (1 ≤ lo ∨ (1000 ≤ op ∧ q9faMe x op a p (0, 0) = true)) then some [q9addS x [(0, c, c)] [] [((q9ln9 (q9tE x)), (a, 0), p)] [] []] else none
    | _ => none)
  | _, _, _ => none
theorem q9faN_oq : @q9faN = @q9faN_o := by
  delta q9faN q9faN_o
  simp only [q9ge9_eq, q9fi9_eq, q9an9_eq, q9al9_eq, q9flt9_eq, q9el9_eq, q9set9_eq, q9ln9_eq, q9gD9_eq, q9ap9_eq, q9eq9_N, q9eq9_I, q9eq9_A, q9eq9_E, q9eq9_OI, q9eq9_ON, q9eq9_OA, q9eq9_L, q9eq9_S, q9de9_N, q9de9_I, q9de9_A, q9le9_N, q9le9_I, q9lt9_N, q9lt9_I, q9de9_E, q9de9_OI, q9de9_ON, q9de9_OA, q9de9_L, q9nd9_eq, q9or9_eq, Bool.cond_decide]
theorem q9ar_of {nL : Nat} {g : List Value} {x : q9ST} {r : Nat → Value} {G : q9GH} {ws : va_W} {ls : Array Slot} {st : List Value} (hM : q9SM O nL g x r G ws ls st) {cT : Nat → ClassId} (hT : q9tyW cT q9TBL G ws) {a cd : Nat} (h : q9codeOf x a = some cd) (h9 : 100 ≤ cd) : ∃ (b : Nat) (e : va_E), r a = .ref b ∧ q9arA G ws b cd e := by
  obtain ⟨b, n, e1, m1⟩ := q9codeOf_ok hM.2.2.2.1 h
  obtain ⟨q, e, g1, g2, g3⟩ := hT.at m1
  rcases g3 with ⟨hh, -⟩ | ⟨-, K, u1, u2⟩
  · omega
  · obtain ⟨t, N, fx, et⟩ := K
    obtain ⟨-, -, u2⟩ := u2
    have : ∃ y, e = .inl y := by
      match t, u2 with
      | 0, ⟨f, u3, _⟩ => exact ⟨_, u3⟩
      | 1, ⟨f, u3, _⟩ => exact ⟨_, u3⟩
      | 2, ⟨f, u3, _⟩ => exact ⟨_, u3⟩
      | 3, ⟨f, u3, _⟩ => exact ⟨_, u3⟩
      | _ + 4, ⟨f, u3, _⟩ => exact ⟨_, u3⟩
    exact ⟨b, e, e1, q, n, g1, g2, this⟩
theorem q9famD_100 {c : Int} {cd op lo lv : Nat} (hs : q9famD c = some (cd, op, lo, lv)) : 100 ≤ cd := by
  (rewrite [q9famD_oq] at hs; unfold q9famD_o at hs)
  repeat' split at hs
  all_goals first
    | (cases hs; decide)
    | cases hs
theorem q9faN_ok (c : Int) (a : Nat) (p : q9AV) : q9RFok O (q9faN c a p) := by
  intro nL g cT A x r G ws ls st xs hw hM hT hD h
  (rewrite [q9faN_oq] at h; unfold q9faN_o at h)
  split at h
  · rename_i cd op lo cd' k hs hcd hk
    split at h
    · rename_i l hh hnk
      split at h
      · rename_i hc
        obtain ⟨k1, k3, c0, c1, c2, c3, c4, c5⟩ := hc
        cases h
        subst c0
        obtain ⟨b, e, e1, e3⟩ := q9ar_of hM hT hcd (q9famD_100 hs)
        obtain ⟨d, d1, d2, d3⟩ := q9depX_ok hM c1 (by decide) hk
        obtain ⟨t2, ht2⟩ := q9isInt_ok hM.2.2.2.1 c2 c3
        rw [ht2] at d1
        obtain ⟨y, y1, -, y2, y3⟩ := q9num_int hM.2.2.2.1 d3 hnk
        rw [d2] at y1
        cases y1
        refine q9rf_fam hM hw (by omega) (by omega) (q9codeOf_lt hcd) c2 ?_
        rw [q9FMP_5 (by omega), q9fm5d hs]
        show q9FVF O cd' op lo 0 G ws (r a) (q9ev r p)
        refine ⟨b, t2, e, e1, ht2, e3, fun dd hdd j hj1 hj2 => ?_⟩
        have hdd : O.1 1021 (.int t2) (.int 0) = some (.int dd) := hdd
        rw [d1] at hdd
        cases hdd
        have hj : j = 0 := by omega
        subst hj
        rcases c5 with h9 | ⟨h9, h7⟩
        · omega
        · (rewrite [q9faMe_oq] at h7; unfold q9faMe_o at h7)
          split at h7
          · rename_i v hv
            simp only [List.any_eq_true, Bool.and_eq_true, beq_iff_eq] at h7
            obtain ⟨w1, q', w2, w3, w4, w5, w6⟩ := h7
            have hY := hM.2.2.2.2.2.2.2 q' w2
            unfold q9EXok at hY
            have z0 := q9zero_ev0 hM.2.2.2.1 (q9zero_at c1)
            obtain ⟨qq, kk, m1, m2, ⟨cA, n9, f9⟩, rfl⟩ := e3
            obtain ⟨-, hv2⟩ := q9fA_ok hM hw hD hv w1 z0 e1 m2
            have h6 := q9eqW_ok hM w6
            rw [q9ev_zero, hv2] at h6
            rw [w3, q9eqV_ok hM w4, ht2, q9eqV_ok hM w5, z0, h6, q9exop_hi h9] at hY
            exact hY
          · cases h7
      · cases h
    · cases h
  · cases h
/-! lines -/
theorem q9rf_of {nL : Nat} {g : List Value} {x : q9ST} {r : Nat → Value} {G : q9GH} {ws : va_W} {ls : Array Slot} {st : List Value} (hM : q9SM O nL g x r G ws ls st) {cT : Nat → ClassId} (hT : q9tyW cT q9TBL G ws) {a : Nat} (h : q9codeOf x a = some 136) : ∃ (b : Nat) (f : Nat → Option Nat), r a = .ref b ∧ q9rfA G ws b f := by
  obtain ⟨b, n, e1, m1⟩ := q9codeOf_ok hM.2.2.2.1 h
  obtain ⟨q, e, g1, g2, g3⟩ := hT.at m1
  rcases g3 with ⟨hh, -⟩ | ⟨-, K, u1, u2⟩
  · omega
  · have u1 : q9KAS[136 - 100]? = some K := u1
    rw [show q9KAS[136 - 100]? = some (6, 60, true, 2, 2, 0) from rfl] at u1
    cases u1
    obtain ⟨-, -, f, u3, -⟩ := u2
    subst u3
    exact ⟨b, f, e1, q, n, n, _, g1, g2⟩
theorem q9am_of {c : Int} (hc : c = -120) {G : q9GH} {ws : va_W} {v1 v2 : Value} : q9FMP O c G ws v1 v2 = q9AMF O G ws v1 v2 := by
  subst hc
  rw [q9FMP_5 (by decide)]
  rfl
/-- how many times an open repeat's line -/
noncomputable def q9liX_o (a : Nat) (i : q9AV) : q9RF := fun x => match q9famF x (-120) a, q9fA x a i, q9num (q9tE x) i with
  | some z, some b, some (0, l, _) => if q9codeOf x b.1 = some 2 ∧ b.2 = 0 ∧ q9okAV (q9tE x) i = true ∧ q9zeroB x = true ∧ 0 ≤ l ∧ q9leB x i z.2.2 (-1) = true ∧ (q9tX x).any (fun q => q.1 == 1050 && (q9eqV x q.2.1 i && (q.2.2.1 == ((0, 0) : q9AV) && (q9okAV (q9tE x) (q.2.2.2, 0) && (match q9num (q9tE x) (q.2.2.2, 0) with
      | some (0, l9, h9) => decide (l9 = 7) && decide (h9 = 7)
      | _ => false))))) = true then some [q9addS x [(0, -2147483648, 2147483647)] [(b.1, 2, ((q9tE x).length, 0))] [] [] [(1051, i, (0, 0), (q9tE x).length)]] else none
  | _, _, _ => none
noncomputable def q9liX (a : Nat) (i : q9AV) : q9RF := fun x => match q9famF x (-120) a, q9fA x a i, q9num (q9tE x) i with
  | some z, some b, some (0, l, _) => if q9codeOf x b.1 = some 2 ∧ b.2 = 0 ∧ q9okAV (q9tE x) i = true ∧ q9zeroB x = true ∧ 0 ≤ l ∧ q9leB x i z.2.2 (-1) = true ∧ q9an9 (q9tX x) (fun q => q9nd9 (q9eq9 (q.1) (1050)) ((q9nd9 (q9eqV x q.2.1 i) ((q9nd9 (q9eq9 (q.2.2.1) (((0, 0) : q9AV))) ((q9nd9 (q9okAV (q9tE x) (q.2.2.2, 0)) ((match q9num (q9tE x) (q.2.2.2, 0) with
      | some (0, l9, h9) => q9nd9 ((q9de9 (l9) (7))) ((q9de9 (h9) (7)))
      | _ => false))))))))) = true then some [q9addS x [(0, -2147483648, 2147483647)] [(b.1, 2, ((q9ln9 (q9tE x)), 0))] [] [] [(1051, i, (0, 0), (q9ln9 (q9tE x)))]] else none
  | _, _, _ => none
theorem q9liX_oq : @q9liX = @q9liX_o := by
  delta q9liX q9liX_o
  simp only [q9ge9_eq, q9fi9_eq, q9an9_eq, q9al9_eq, q9flt9_eq, q9el9_eq, q9set9_eq, q9ln9_eq, q9gD9_eq, q9ap9_eq, q9eq9_N, q9eq9_I, q9eq9_A, q9eq9_E, q9eq9_OI, q9eq9_ON, q9eq9_OA, q9eq9_L, q9eq9_S, q9de9_N, q9de9_I, q9de9_A, q9le9_N, q9le9_I, q9lt9_N, q9lt9_I, q9de9_E, q9de9_OI, q9de9_ON, q9de9_OA, q9de9_L, q9nd9_eq, q9or9_eq, Bool.cond_decide]
theorem q9liX_ok (a : Nat) (i : q9AV) : q9RFok O (q9liX a i) := by
  intro nL g cT A x r G ws ls st xs hw hM hT hD h
  (rewrite [q9liX_oq] at h; unfold q9liX_o at h)
  split at h
  · rename_i z b l hi hz hb hn
    split at h
    · rename_i hc
      obtain ⟨c0, c00, c1, c2, c3, c4, c5⟩ := hc
      cases h
      obtain ⟨hF, hz2, ha⟩ := q9famF_ok hM hw (by decide) hz
      rw [q9am_of rfl] at hF
      obtain ⟨a0, zz, f, e1, e2, e3, e4⟩ := hF
      obtain ⟨y, y1, -, y2, y3⟩ := q9num_int hM.2.2.2.1 c1 hn
      have ey : y.toNatClampNeg = y.toInt.toNat := rfl
      have l1 := q9leB_ok hM c1 hz2 c4
      rw [y1, e2] at l1
      have l1 : y.toInt ≤ zz.toInt + (-1) := l1
      have z0 := q9zero_ev0 hM.2.2.2.1 (q9zero_at c2)
      have q9ok0 : q9okAV (q9tE x) (0, 0) = true := q9okZ c2 (by decide) (by decide)
      simp only [List.any_eq_true, Bool.and_eq_true, beq_iff_eq] at c5
      obtain ⟨q, q1, q2, q3, q4, q5, q6⟩ := c5
      have hX := hM.2.2.2.2.2.2.2 q q1
      unfold q9EXok at hX
      split at q6
      · rename_i l9 h9 hnq
        rw [Bool.and_eq_true, decide_eq_true_eq, decide_eq_true_eq] at q6
        obtain ⟨w, w1, -, w2, w3⟩ := q9num_int hM.2.2.2.1 q5 hnq
        have hw7 : w = 7 := Int32.toInt_inj.mp (by
          show w.toInt = 7
          omega)
        rw [q9ev_zero] at w1
        rw [q2, q9eqV_ok hM q3, q4, y1, z0, q9exop_hi (by decide), w1, hw7] at hX
        obtain ⟨o, gs, u, o1, o2, o3, o4⟩ := e4 y.toNatClampNeg (by omega) (by
          rw [q9ofNat_clamp (by omega)]
          exact hX)
        rw [q9ofNat_clamp (by omega)] at o4
        obtain ⟨qq, kk, n', cA, m1, m2⟩ := e3
        obtain ⟨b1, b2⟩ := q9fA_ok hM hw hD hb c1 y1 e1 m2
        have b2 : q9ev r b = va_rf (f y.toNatClampNeg) := b2
        rw [o1] at b2
        have eb : r b.1 = .ref o := by rw [← q9isSym (r := r) c00]; exact b2
        obtain ⟨q9, n9, p1, p2⟩ := o2
        refine q9rf_add hM hw [.int u] List.mem_cons_self (q9ty_cons ⟨u, rfl, by have := Int32.le_toInt u; show -2147483648 ≤ _; omega, by have := Int32.toInt_lt u; show _ ≤ 2147483647; omega⟩ q9ty_nil) (q9one_mem ?_) q9no_mem q9no_mem (q9one_mem ?_)
        · unfold q9FMok
          rw [if_neg (by show ¬ 2 = 1000; decide)]
          exact ⟨o, q9, 2, gs, (q9upL_lt (q9okAV_lt b1)).trans eb, p2, by rw [show q9ev _ ((q9tE x).length, 0) = _ from q9evU0]; exact o3⟩
        · unfold q9EXok
          show q9exop O 1051 (q9ev _ i) (q9ev _ (0, 0)) = some (q9upL _ _ _ (q9tE x).length)
          rw [q9upL_agr.ev c1, q9upL_agr.ev q9ok0, q9rU0, y1, z0, q9exop_hi (by decide)]
          exact o4
      · cases q6
    · cases h
  · cases h
noncomputable def q9liGm_o (x : q9ST) (k : Nat) (i : q9AV) : Bool := match q9fF x k 2 with
  | some m => q9okAV (q9tE x) m && (q9isInt x m && (q9tX x).any (fun q => q.1 == 1051 && (q9eqV x q.2.1 i && (q.2.2.1 == ((0, 0) : q9AV) && q9eqV x (q.2.2.2, 0) m))))
  | none => false
noncomputable def q9liGm (x : q9ST) (k : Nat) (i : q9AV) : Bool := match q9fF x k 2 with
  | some m => q9nd9 (q9okAV (q9tE x) m) ((q9nd9 (q9isInt x m) (q9an9 (q9tX x) (fun q => q9nd9 (q9eq9 (q.1) (1051)) ((q9nd9 (q9eqV x q.2.1 i) ((q9nd9 (q9eq9 (q.2.2.1) (((0, 0) : q9AV))) (q9eqV x (q.2.2.2, 0) m)))))))))
  | none => false
theorem q9liGm_oq : @q9liGm = @q9liGm_o := by
  delta q9liGm q9liGm_o
  simp only [q9ge9_eq, q9fi9_eq, q9an9_eq, q9al9_eq, q9flt9_eq, q9el9_eq, q9set9_eq, q9ln9_eq, q9gD9_eq, q9ap9_eq, q9eq9_N, q9eq9_I, q9eq9_A, q9eq9_E, q9eq9_OI, q9eq9_ON, q9eq9_OA, q9eq9_L, q9eq9_S, q9de9_N, q9de9_I, q9de9_A, q9le9_N, q9le9_I, q9lt9_N, q9lt9_I, q9de9_E, q9de9_OI, q9de9_ON, q9de9_OA, q9de9_L, q9nd9_eq, q9or9_eq, Bool.cond_decide]
/-- q9one line q9more -/
noncomputable def q9liG_o (a : Nat) (i n2 : q9AV) : q9RF := fun x => match q9famF x (-120) a, q9fA x a i, q9num (q9tE x) i with
  | some z, some b, some (0, l, _) => if q9codeOf x b.1 = some 2 ∧ b.2 = 0 ∧ q9okAV (q9tE x) i = true ∧ q9zeroB x = true ∧ 0 ≤ l ∧ q9eqV x z.2.2 i = true ∧ q9okAV (q9tE x) (i.1, i.2 + 1) = true ∧ q9okAV (q9tE x) n2 = true ∧ q9eqV x (i.1, i.2 + 1) n2 = true ∧
      (q9tX x).any (fun q => q.1 == 1050 && (q9eqV x q.2.1 i && (q.2.2.1 == ((0, 0) : q9AV) && (q9okAV (q9tE x) (q.2.2.2, 0) && (match q9num (q9tE x) (q.2.2.2, 0) with
        | some (0, _, h9) => decide (h9 < 7)
        | _ => false))))) = true then some [q9addS x [(0, -120, -120)] [] [((q9tE x).length, (a, 0), n2)] [] []]
      else if q9codeOf x b.1 = some 2 ∧ b.2 = 0 ∧ q9okAV (q9tE x) i = true ∧ q9zeroB x = true ∧ 0 ≤ l ∧ q9eqV x z.2.2 i = true ∧ q9okAV (q9tE x) (i.1, i.2 + 1) = true ∧ q9okAV (q9tE x) n2 = true ∧ q9eqV x (i.1, i.2 + 1) n2 = true ∧ q9liGm x b.1 i = true then some [q9addS x [(0, -120, -120)] [] [((q9tE x).length, (a, 0), n2)] [] []] else none
  | _, _, _ => none
noncomputable def q9liG (a : Nat) (i n2 : q9AV) : q9RF := fun x => match q9famF x (-120) a, q9fA x a i, q9num (q9tE x) i with
  | some z, some b, some (0, l, _) => if q9codeOf x b.1 = some 2 ∧ b.2 = 0 ∧ q9okAV (q9tE x) i = true ∧ q9zeroB x = true ∧ 0 ≤ l ∧ q9eqV x z.2.2 i = true ∧ q9okAV (q9tE x) (i.1, i.2 + 1) = true ∧ q9okAV (q9tE x) n2 = true ∧ q9eqV x (i.1, i.2 + 1) n2 = true ∧
      q9an9 (q9tX x) (fun q => q9nd9 (q9eq9 (q.1) (1050)) ((q9nd9 (q9eqV x q.2.1 i) ((q9nd9 (q9eq9 (q.2.2.1) (((0, 0) : q9AV))) ((q9nd9 (q9okAV (q9tE x) (q.2.2.2, 0)) ((match q9num (q9tE x) (q.2.2.2, 0) with
        | some (0, _, h9) => (q9lt9 (h9) (7))
        | _ => false))))))))) = true then some [q9addS x [(0, -120, -120)] [] [((q9ln9 (q9tE x)), (a, 0), n2)] [] []]
      else if q9codeOf x b.1 = some 2 ∧ b.2 = 0 ∧ q9okAV (q9tE x) i = true ∧ q9zeroB x = true ∧ 0 ≤ l ∧ q9eqV x z.2.2 i = true ∧ q9okAV (q9tE x) (i.1, i.2 + 1) = true ∧ q9okAV (q9tE x) n2 = true ∧ q9eqV x (i.1, i.2 + 1) n2 = true ∧ q9liGm x b.1 i = true then some [q9addS x [(0, -120, -120)] [] [((q9ln9 (q9tE x)), (a, 0), n2)] [] []] else none
  | _, _, _ => none
theorem q9liG_oq : @q9liG = @q9liG_o := by
  delta q9liG q9liG_o
  simp only [q9ge9_eq, q9fi9_eq, q9an9_eq, q9al9_eq, q9flt9_eq, q9el9_eq, q9set9_eq, q9ln9_eq, q9gD9_eq, q9ap9_eq, q9eq9_N, q9eq9_I, q9eq9_A, q9eq9_E, q9eq9_OI, q9eq9_ON, q9eq9_OA, q9eq9_L, q9eq9_S, q9de9_N, q9de9_I, q9de9_A, q9le9_N, q9le9_I, q9lt9_N, q9lt9_I, q9de9_E, q9de9_OI, q9de9_ON, q9de9_OA, q9de9_L, q9nd9_eq, q9or9_eq, Bool.cond_decide]
theorem q9liG_ok (a : Nat) (i n2 : q9AV) : q9RFok O (q9liG a i n2) := by
  intro nL g cT A x r G ws ls st xs hw hM hT hD h
  (rewrite [q9liG_oq] at h; unfold q9liG_o at h)
  split at h
  · rename_i z b l hi hz hb hn
    have key : q9codeOf x b.1 = some 2 ∧ b.2 = 0 ∧ q9okAV (q9tE x) i = true ∧ q9zeroB x = true ∧ 0 ≤ l ∧ q9eqV x z.2.2 i = true ∧ q9okAV (q9tE x) (i.1, i.2 + 1) = true ∧ q9okAV (q9tE x) n2 = true ∧ q9eqV x (i.1, i.2 + 1) n2 = true →
        (∀ (y : Int32), q9ev r i = .int y → 0 ≤ y.toInt → q9oI O.1 1050 y 7 → ∃ (o : Nat) (gs : List Value) (u : Int32), q9ev r b = .ref o ∧ q9obA G ws o 2 2 gs ∧ gs[2]? = some (.int u) ∧ q9oI O.1 1051 y u) →
        ∃ x' ∈ [q9addS x [(0, -120, -120)] [] [((q9tE x).length, (a, 0), n2)] [] []], ∃ r' : Nat → Value, q9agr (q9tE x).length r r' ∧ (q9tE x).length ≤ (q9tE x').length ∧ q9tN x' = q9tN x ∧ q9tM x' = q9tM x ∧ q9SM O nL g x' r' G ws ls st := by
      rintro ⟨c0, c00, c1, c2, c3, c4, c5, c6, c7⟩ hnew
      obtain ⟨hF, hz2, ha⟩ := q9famF_ok hM hw (by decide) hz
      rw [q9am_of rfl] at hF
      obtain ⟨a0, zz, f, e1, e2, e3, e4⟩ := hF
      obtain ⟨y, y1, -, y2, y3⟩ := q9num_int hM.2.2.2.1 c1 hn
      have ey : y.toNatClampNeg = y.toInt.toNat := rfl
      obtain ⟨y', f1, f2⟩ := q9ev_off5 hM.2.2.2.1 hn c1 c5 y1
      rw [q9eqV_ok hM c4, y1] at e2
      have e2 := Value.int.inj e2
      subst e2
      rw [q9eqV_ok hM c7] at f1
      obtain ⟨qq, kk, n', cA, m1, m2⟩ := id e3
      obtain ⟨b1, b2⟩ := q9fA_ok hM hw hD hb c1 y1 e1 m2
      have b2 : q9ev r b = va_rf (f y.toNatClampNeg) := b2
      refine q9rf_fam hM hw (by decide) (by decide) ha c6 ?_
      rw [q9am_of rfl]
      refine ⟨a0, y', f, e1, f1, e3, fun t ht hk => ?_⟩
      by_cases hty : t = y.toNatClampNeg
      · subst hty
        rw [q9ofNat_clamp (by omega)] at hk ⊢
        obtain ⟨o, gs, u, o1, o2, o3, o4⟩ := hnew y y1 (by omega) hk
        rw [o1] at b2
        exact ⟨o, gs, u, q9va_rf_ref b2.symm, o2, o3, o4⟩
      · exact e4 t (by omega) hk
    split at h
    · rename_i hc
      obtain ⟨c0, c00, c1, c2, c3, c4, c5, c6, c7, q9c8⟩ := hc
      cases h
      refine key ⟨c0, c00, c1, c2, c3, c4, c5, c6, c7⟩ fun y y1 y0 hk => ?_
      exfalso
      simp only [List.any_eq_true, Bool.and_eq_true, beq_iff_eq] at q9c8
      obtain ⟨q, q1, q2, q3, q4, q5, q6⟩ := q9c8
      have hX := hM.2.2.2.2.2.2.2 q q1
      unfold q9EXok at hX
      split at q6
      · rename_i l9 h9 hnq
        rw [decide_eq_true_eq] at q6
        obtain ⟨w, w1, -, w2, w3⟩ := q9num_int hM.2.2.2.1 q5 hnq
        rw [q9ev_zero] at w1
        rw [q2, q9eqV_ok hM q3, q4, y1, q9zero_ev0 hM.2.2.2.1 (q9zero_at c2), q9exop_hi (by decide), w1] at hX
        have hk : O.1 1050 (.int y) (.int 0) = some (.int 7) := hk
        rw [hk] at hX
        cases hX
        have : (7 : Int32).toInt = 7 := rfl
        omega
      · cases q6
    · split at h
      · rename_i hc
        obtain ⟨c0, c00, c1, c2, c3, c4, c5, c6, c7, q9c8⟩ := hc
        cases h
        refine key ⟨c0, c00, c1, c2, c3, c4, c5, c6, c7⟩ fun y y1 y0 hk => ?_
        (rewrite [q9liGm_oq] at q9c8; unfold q9liGm_o at q9c8)
        split at q9c8
        · rename_i m hm
          simp only [List.any_eq_true, Bool.and_eq_true, beq_iff_eq] at q9c8
          obtain ⟨d1, d2, q, q1, q2, q3, q4, q5⟩ := q9c8
          obtain ⟨u, hu⟩ := q9isInt_ok hM.2.2.2.1 d1 d2
          have hX := hM.2.2.2.2.2.2.2 q q1
          unfold q9EXok at hX
          have h5 := q9eqV_ok hM q5
          rw [q9ev_zero, hu] at h5
          rw [q2, q9eqV_ok hM q3, q4, y1, q9zero_ev0 hM.2.2.2.1 (q9zero_at c2), q9exop_hi (by decide), h5] at hX
          obtain ⟨o, gs, r1, r2⟩ := q9ob_of hM hT c0 (by decide)
          have hf := q9fl_at hM hD (q9fF_ok hm) (by decide) r1 r2
          rw [hu] at hf
          exact ⟨o, gs, u, by rw [q9isSym c00]; exact r1, r2, hf, hX⟩
        · cases q9c8
      · cases h
  · cases h
noncomputable def q9liN_o (a : Nat) (n : q9AV) : q9RF := fun x => match q9codeOf x a, q9num (q9tE x) n with
  | some 136, some (0, _, h) => if q9okAV (q9tE x) n = true ∧ h ≤ 0 then some [q9addS x [(0, -120, -120)] [] [((q9tE x).length, (a, 0), n)] [] []] else none
  | _, _ => none
noncomputable def q9liN (a : Nat) (n : q9AV) : q9RF := fun x => match q9codeOf x a, q9num (q9tE x) n with
  | some 136, some (0, _, h) => if q9okAV (q9tE x) n = true ∧ h ≤ 0 then some [q9addS x [(0, -120, -120)] [] [((q9ln9 (q9tE x)), (a, 0), n)] [] []] else none
  | _, _ => none
theorem q9liN_oq : @q9liN = @q9liN_o := by
  delta q9liN q9liN_o
  simp only [q9ge9_eq, q9fi9_eq, q9an9_eq, q9al9_eq, q9flt9_eq, q9el9_eq, q9set9_eq, q9ln9_eq, q9gD9_eq, q9ap9_eq, q9eq9_N, q9eq9_I, q9eq9_A, q9eq9_E, q9eq9_OI, q9eq9_ON, q9eq9_OA, q9eq9_L, q9eq9_S, q9de9_N, q9de9_I, q9de9_A, q9le9_N, q9le9_I, q9lt9_N, q9lt9_I, q9de9_E, q9de9_OI, q9de9_ON, q9de9_OA, q9de9_L, q9nd9_eq, q9or9_eq, Bool.cond_decide]
theorem q9liN_ok (a : Nat) (n : q9AV) : q9RFok O (q9liN a n) := by
  intro nL g cT A x r G ws ls st xs hw hM hT hD h
  (rewrite [q9liN_oq] at h; unfold q9liN_o at h)
  split at h
  · rename_i l hh hcd hn
    split at h
    · rename_i hc
      obtain ⟨c1, c2⟩ := hc
      cases h
      obtain ⟨y, y1, -, y2, y3⟩ := q9num_int hM.2.2.2.1 c1 hn
      obtain ⟨b, f, e1, e3⟩ := q9rf_of hM hT hcd
      refine q9rf_fam hM hw (by decide) (by decide) (q9codeOf_lt hcd) c1 ?_
      rw [q9am_of rfl]
      exact ⟨b, y, f, e1, y1, e3, fun t ht => by omega⟩
    · cases h
  · cases h
/-- an element of an array of objects is looked q9up -/
noncomputable def q9elR_o (a : Nat) (s : q9AV) : q9RF := fun x => match q9fA x a s with
  | some _ => some [x]
  | none => (match q9kindOf q9TBL x a with
    | some (_, k) => if 4 ≤ k.1 ∧ q9okAV (q9tE x) s = true ∧ q9inB x a s k = true then some [q9addS x [k.2.2.2] [] [(a, s, ((q9tE x).length, 0))] [] []] else none
    | none => none)
noncomputable def q9elR (a : Nat) (s : q9AV) : q9RF := fun x => match q9fA x a s with
  | some _ => some [x]
  | none => (match q9kindOf q9TBL x a with
    | some (_, k) => if 4 ≤ k.1 ∧ q9okAV (q9tE x) s = true ∧ q9inB x a s k = true then some [q9addS x [k.2.2.2] [] [(a, s, ((q9ln9 (q9tE x)), 0))] [] []] else none
    | none => none)
theorem q9elR_oq : @q9elR = @q9elR_o := by
  delta q9elR q9elR_o
  simp only [q9ge9_eq, q9fi9_eq, q9an9_eq, q9al9_eq, q9flt9_eq, q9el9_eq, q9set9_eq, q9ln9_eq, q9gD9_eq, q9ap9_eq, q9eq9_N, q9eq9_I, q9eq9_A, q9eq9_E, q9eq9_OI, q9eq9_ON, q9eq9_OA, q9eq9_L, q9eq9_S, q9de9_N, q9de9_I, q9de9_A, q9le9_N, q9le9_I, q9lt9_N, q9lt9_I, q9de9_E, q9de9_OI, q9de9_ON, q9de9_OA, q9de9_L, q9nd9_eq, q9or9_eq, Bool.cond_decide]
theorem q9elR_ok (a : Nat) (s : q9AV) : q9RFok O (q9elR a s) := by
  intro nL g cT A x r G ws ls st xs hw hM hT hD h
  (rewrite [q9elR_oq] at h; unfold q9elR_o at h)
  split at h
  · cases h
    exact ⟨x, List.mem_cons_self, r, q9agr.rf, Nat.le_refl _, rfl, rfl, hM⟩
  · split at h
    · rename_i cd k hk
      split at h
      · rename_i hc
        obtain ⟨c1, c2, c3⟩ := hc
        cases h
        obtain ⟨b, n, i, ce, k1, k2, k3, k4, k5, k6, k7⟩ := q9kindOf_ok hM.2.2.2.1 hT hk
        obtain ⟨y, y1, y2, y3⟩ := q9inB_ok hw hM hT hD c2 k1 k2 k5 c3
        have hce : ∃ f, ce = .inl (cT k.1, n, f) := by
          obtain ⟨t, N, fx, et⟩ := k
          obtain ⟨-, -, u2⟩ := k5
          match t, u2 with
          | 0, _ => exact absurd (show 4 ≤ 0 from c1) (by decide)
          | 1, _ => exact absurd (show 4 ≤ 1 from c1) (by decide)
          | 2, _ => exact absurd (show 4 ≤ 2 from c1) (by decide)
          | 3, _ => exact absurd (show 4 ≤ 3 from c1) (by decide)
          | _ + 4, ⟨f, u3, _⟩ => exact ⟨_, u3⟩
        obtain ⟨f, hf⟩ := hce
        have hty := q9el_ty k5 y3
        subst hf
        have hal : a < (q9tE x).length := by
          have hk9 := hk
          (rewrite [q9kindOf_oq] at hk9; unfold q9kindOf_o at hk9; rewrite [q9codeOf_oq] at hk9; unfold q9codeOf_o at hk9)
          cases hE : (q9tE x)[a]? with
          | none => rw [hE] at hk9; cases hk9
          | some t => exact q9lt_of_E hE
        refine q9rf_add hM hw [q9elV (.inl (cT k.1, n, f)) y.toNatClampNeg] List.mem_cons_self (q9ty_cons hty q9ty_nil) q9no_mem (q9one_mem (.inl ⟨b, i, cT k.1, n, f, y, (q9upL_lt hal).trans k1, k4, ?_, q9evU0⟩)) q9no_mem q9no_mem
        show q9ev _ s = _
        rw [q9upL_agr.ev c2]
        exact y1
      · cases h
    · cases h
/-- an element at an equal place -/
noncomputable def q9elC_o (a : Nat) (i j : q9AV) : q9RF := fun x => match (q9tA x).find? (fun q => q.1 == a && q9eqB x q.2.1 j) with
  | some q => if (q9codeOf x a).isSome = true ∧ q9okAV (q9tE x) i = true ∧ q9okAV (q9tE x) j = true ∧ q9isInt x j = true ∧ q9eqV x i j = true then some [q9addS x [] [] [(a, i, q.2.2)] [] []] else none
  | none => none
noncomputable def q9elC (a : Nat) (i j : q9AV) : q9RF := fun x => match q9fi9 (q9tA x) (fun q => q9nd9 (q9eq9 (q.1) (a)) (q9eqB x q.2.1 j)) with
  | some q => if (q9codeOf x a).isSome = true ∧ q9okAV (q9tE x) i = true ∧ q9okAV (q9tE x) j = true ∧ q9isInt x j = true ∧ q9eqV x i j = true then some [q9addS x [] [] [(a, i, q.2.2)] [] []] else none
  | none => none
theorem q9elC_oq : @q9elC = @q9elC_o := by
  delta q9elC q9elC_o
  simp only [q9ge9_eq, q9fi9_eq, q9an9_eq, q9al9_eq, q9flt9_eq, q9el9_eq, q9set9_eq, q9ln9_eq, q9gD9_eq, q9ap9_eq, q9eq9_N, q9eq9_I, q9eq9_A, q9eq9_E, q9eq9_OI, q9eq9_ON, q9eq9_OA, q9eq9_L, q9eq9_S, q9de9_N, q9de9_I, q9de9_A, q9le9_N, q9le9_I, q9lt9_N, q9lt9_I, q9de9_E, q9de9_OI, q9de9_ON, q9de9_OA, q9de9_L, q9nd9_eq, q9or9_eq, Bool.cond_decide]
theorem q9elC_ok (a : Nat) (i j : q9AV) : q9RFok O (q9elC a i j) := by
  intro nL g cT A x r G ws ls st xs hw hM hT hD h
  (rewrite [q9elC_oq] at h; unfold q9elC_o at h)
  split at h
  · rename_i q hq
    split at h
    · rename_i hc
      obtain ⟨c0, c1, c2, c3, c4⟩ := hc
      cases h
      have h1 := List.find?_some hq
      have h2 := List.mem_of_find?_eq_some hq
      simp only [Bool.and_eq_true, beq_iff_eq] at h1
      have wq := q9wf_A hw q h2
      obtain ⟨y, y1⟩ := q9isInt_ok hM.2.2.2.1 c2 c3
      obtain ⟨cd, hcd⟩ := Option.isSome_iff_exists.mp c0
      obtain ⟨b0, n0, r0, -⟩ := q9codeOf_ok hM.2.2.2.1 hcd
      have h9 := hM.2.2.2.2.2.1 q h2
      unfold q9AMok at h9
      rw [h1.1, r0] at h9
      obtain ⟨a', i', cA', n', f', w, e1, e2, e3, e4⟩ := h9.resolve_right q9JA_ref
      rw [q9eqB_ok hM c2 y1 h1.2] at e3
      cases e3
      refine q9rf_add hM hw [] List.mem_cons_self q9ty_nil q9no_mem (q9one_mem (.inl ⟨a', i', cA', n', f', y, ?_, e2, ?_, ?_⟩)) q9no_mem q9no_mem
      · show q9upL _ _ _ a = _
        rw [q9upL_lt (q9codeOf_lt hcd)]
        rw [h1.1] at e1
        exact e1
      · show q9ev _ i = _
        rw [q9upL_agr.ev c1, q9eqV_ok hM c4]
        exact y1
      · show q9ev _ q.2.2 = _
        rw [q9upL_agr.ev wq.2.2]
        exact e4
    · cases h
  · cases h
/-! joints -/
noncomputable def q9joL1 (a : Nat) (s : q9AV) : q9RF := fun x => match q9fA x a s, q9num (q9tE x) s, q9famF x (-106) a with
  | some bd, some (0, l, h), some _ => (match q9fF x bd.1 0 with
    | some v => if q9okAV (q9tE x) s = true ∧ q9zeroB x = true ∧ 0 ≤ l ∧ h < 8 ∧ q9codeOf x bd.1 = some 5 ∧ v.2 = 0 then some [q9addS x [] [] [] [] [(1016, s, (0, 0), v.1)]] else none
    | none => none)
  | _, _, _ => none
theorem q9joL1_ok (a : Nat) (s : q9AV) : q9RFok O (q9joL1 a s) := by
  intro nL g cT A x r G ws ls st xs hw hM hT hD h
  unfold q9joL1 at h
  split at h
  · rename_i bd l hh z hbd hn hz
    split at h
    · rename_i v hv
      split at h
      · rename_i hc
        obtain ⟨c1, c2, c3, c4, c5, c6⟩ := hc
        cases h
        obtain ⟨hF, hz2, ha⟩ := q9famF_ok hM hw (by decide) hz
        rw [q9FMP_5 (by decide)] at hF
        obtain ⟨a0, f, e1, e2, e3⟩ : q9JOP O G ws (r a) (q9ev r z.2.2) := hF
        obtain ⟨y, y1, -, y2, y3⟩ := q9num_int hM.2.2.2.1 c1 hn
        have ey : y.toNatClampNeg = y.toInt.toNat := rfl
        obtain ⟨qa, ka, na, cA, w1, w2⟩ := id e2
        obtain ⟨-, bd2⟩ := q9fA_ok hM hw hD hbd c1 y1 e1 w2
        obtain ⟨ob, gs, g1, g2⟩ := q9ob_of hM hT c5 (by decide)
        have hbr : q9ev r bd = .ref ob := by
          unfold q9ev
          rw [g1]
        rw [hbr] at bd2
        have bd2 : Value.ref ob = va_rf (f y.toNatClampNeg) := bd2
        obtain ⟨gs', u, m1, m2, m3⟩ := e3 y.toNatClampNeg (by omega) ob (q9va_rf_ref bd2.symm)
        obtain ⟨hgg, -⟩ := q9obA.one hD g2 m1
        subst hgg
        have hfl := q9fl_at hM hD (q9fF_ok hv) (by decide) g1 g2
        rw [m2] at hfl
        have hfl := Option.some.inj hfl
        have wv := (q9wf_F hw _ (q9fF_ok hv)).2
        refine q9rf_X hM hw c1 (q9okZ c2 (by decide) (by decide)) (q9okAV_lt wv) ?_
        rw [q9ofNat_clamp (by omega)] at m3
        rw [y1, q9zero_ev0 hM.2.2.2.1 (q9zero_at c2), q9exop_hi (by decide), ← q9isSym (r := r) c6, ← hfl]
        exact m3
      · cases h
    · cases h
  · cases h
/-- a puppet's joints are the oracle's -/
noncomputable def q9joL (a : Nat) (s : q9AV) : q9RF := fun x => match q9fA x a s with
  | some bd => q9rfSeq [q9fldR bd.1 0, q9joL1 a s] x
  | none => none
theorem q9joL_ok (a : Nat) (s : q9AV) : q9RFok O (q9joL a s) := by
  intro nL g cT A x r G ws ls st xs hw hM hT hD h
  unfold q9joL at h
  split at h
  · exact q9rfSeq_ok (fun f hf => by
      rcases List.mem_cons.mp hf with rfl | hf
      · exact q9fldR_ok _ _
      · rw [List.mem_singleton] at hf
        subst hf
        exact q9joL1_ok _ _) nL g cT A x r G ws ls st xs hw hM hT hD h
  · cases h
/-- the class's joints by the reference's -/
noncomputable def q9joJ_o (a o : Nat) : q9RF := fun x => match q9codeOf x o, q9fF x o 2, (q9tA x).find? (fun z => q9famE (q9tE x) z.1 == some (-103) && (z.2.1 == ((a, 0) : q9AV) && (match q9num (q9tE x) z.2.2 with
      | some (0, l, h) => decide (l = 1999) && decide (h = 1999)
      | _ => false))) with
  | some 12, some v, some _ => (match q9famF x (-123) v.1 with
    | some w => (match q9num (q9tE x) w.2.2 with
      | some (0, l, _) => if v.2 = 0 ∧ 8 ≤ l ∧ q9zeroB x = true then some [q9addS x [(0, -106, -106)] [] [((q9tE x).length, (a, 0), (0, 0))] [] []] else none
      | _ => none)
    | none => none)
  | _, _, _ => none
noncomputable def q9joJ (a o : Nat) : q9RF := fun x => match q9codeOf x o, q9fF x o 2, q9fi9 (q9tA x) (fun z => q9nd9 (q9eq9 (q9famE (q9tE x) z.1) (some (-103))) ((q9nd9 (q9eq9 (z.2.1) (((a, 0) : q9AV))) ((match q9num (q9tE x) z.2.2 with
      | some (0, l, h) => q9nd9 ((q9de9 (l) (1999))) ((q9de9 (h) (1999)))
      | _ => false))))) with
  | some 12, some v, some _ => (match q9famF x (-123) v.1 with
    | some w => (match q9num (q9tE x) w.2.2 with
      | some (0, l, _) => if v.2 = 0 ∧ 8 ≤ l ∧ q9zeroB x = true then some [q9addS x [(0, -106, -106)] [] [((q9ln9 (q9tE x)), (a, 0), (0, 0))] [] []] else none
      | _ => none)
    | none => none)
  | _, _, _ => none
theorem q9joJ_oq : @q9joJ = @q9joJ_o := by
  delta q9joJ q9joJ_o
  simp only [q9ge9_eq, q9fi9_eq, q9an9_eq, q9al9_eq, q9flt9_eq, q9el9_eq, q9set9_eq, q9ln9_eq, q9gD9_eq, q9ap9_eq, q9eq9_N, q9eq9_I, q9eq9_A, q9eq9_E, q9eq9_OI, q9eq9_ON, q9eq9_OA, q9eq9_L, q9eq9_S, q9de9_N, q9de9_I, q9de9_A, q9le9_N, q9le9_I, q9lt9_N, q9lt9_I, q9de9_E, q9de9_OI, q9de9_ON, q9de9_OA, q9de9_L, q9nd9_eq, q9or9_eq, Bool.cond_decide]
set_option maxRecDepth 100000 in
theorem q9joJ_ok (a o : Nat) : q9RFok O (q9joJ a o) := by
  intro nL g cT A x r G ws ls st xs hw hM hT hD h
  (rewrite [q9joJ_oq] at h; unfold q9joJ_o at h)
  split at h
  · rename_i v z hco hv hz
    split at h
    · rename_i w hw9
      split at h
      · rename_i l hh hn
        split at h
        · rename_i hc
          obtain ⟨c1, c2, c3⟩ := hc
          cases h
          have z1 := List.find?_some hz
          have z2 := List.mem_of_find?_eq_some hz
          simp only [Bool.and_eq_true, beq_iff_eq] at z1
          obtain ⟨z3, z4, z5⟩ := z1
          have wz := q9wf_A hw z z2
          have hP := q9fm_of hM z2 z3 (by decide)
          rw [(q9pqC_ok (show q9pqC (-103) = some (2000, 0, 2, 167) from rfl)).2] at hP
          obtain ⟨a0, p, f, m, fs, b, M, e1, e2, e3, e4, e5, e6, e7⟩ := hP
          have hp0 : p.toInt = 1999 := by
            split at z5
            · rename_i l9 h9 hn9
              rw [Bool.and_eq_true, decide_eq_true_eq, decide_eq_true_eq] at z5
              obtain ⟨u, u1, -, u2, u3⟩ := q9num_int hM.2.2.2.1 wz.2.2 hn9
              rw [e2] at u1
              cases u1
              omega
            · cases z5
          have w2 := wz.2.1
          rw [z4] at w2 e1
          have ha : a < (q9tE x).length := q9okAV_lt w2
          rw [q9ev_zero] at e1
          obtain ⟨m', fs', m1, m2⟩ := q9ob_of hM hT hco (by decide)
          have hmm : m' = m ∧ fs' = fs := by
            obtain ⟨q1, n1, x1, x2⟩ := m2
            obtain ⟨q2, n2, x3, x4⟩ := e4
            have := hT.2.2 q1 q2 m' m n1 n2 x1 x3
            subst this
            have hqq : q1 = q2 := hD.1 q1 q2 _ _ x2 x4 rfl
            subst hqq
            rw [x2] at x4
            cases x4
            exact ⟨rfl, rfl⟩
          obtain ⟨rfl, rfl⟩ := hmm
          have hfl := q9fl_at hM hD (q9fF_ok hv) (by decide) m1 m2
          rw [e5, q9isSym c1] at hfl
          have hfl := Option.some.inj hfl
          obtain ⟨hF, hw2, hv3⟩ := q9famF_ok hM hw (by decide) hw9
          rw [q9FMP_5 (by decide)] at hF
          obtain ⟨a1, cd, n, M', k1, k2, k3, k4, k5, -⟩ : q9EQF O false [167] 1016 false G ws (r v.1) (q9ev r w.2.2) := hF
          rw [← hfl] at k1
          cases k1
          rw [List.mem_singleton] at k3
          subst k3
          have hMM : M = M' := q9inA.one hD e6 k4
          subst hMM
          obtain ⟨u, u1, -, u2, u3⟩ := q9num_int hM.2.2.2.1 hw2 hn
          rw [k2] at u1
          cases u1
          refine q9rf_fam hM hw (by decide) (by decide) ha (q9okZ c3 (by decide) (by decide)) ?_
          rw [q9FMP_5 (by decide)]
          show q9JOP O G ws (r a) (q9ev r (0, 0))
          refine ⟨a0, f, e1, e3, fun i hi o9 ho => ?_⟩
          obtain ⟨gs, g1, g2⟩ := (e7 i hi (by omega)).2 o9 ho
          exact ⟨gs, M i, g1, g2, k5 i (by omega)⟩
        · cases h
      · cases h
    · cases h
  · cases h
/-! where lines end -/
noncomputable def q9knE_o (x : q9ST) (op a : Nat) (i : q9AV) : Option (List q9ST) := match q9fA x a i with
  | some v => if v.2 = 0 then some [q9addS x [] [] [] [] [(op, i, (0, 0), v.1)]] else none
  | none => (match q9kindOf q9TBL x a with
    | some (_, K) => if q9numK K = true ∧ q9inB x a i K = true then some [q9addS x [K.2.2.2] [] [(a, i, ((q9tE x).length, 0))] [] [(op, i, (0, 0), (q9tE x).length)]] else none
    | none => none)
noncomputable def q9knE (x : q9ST) (op a : Nat) (i : q9AV) : Option (List q9ST) := match q9fA x a i with
  | some v => bif q9de9 (v.2) (0) then some [q9addS x [] [] [] [] [(op, i, (0, 0), v.1)]] else none
  | none => (match q9kindOf q9TBL x a with
    | some (_, K) => if q9numK K = true ∧ q9inB x a i K = true then some [q9addS x [K.2.2.2] [] [(a, i, ((q9ln9 (q9tE x)), 0))] [] [(op, i, (0, 0), (q9ln9 (q9tE x)))]] else none
    | none => none)
theorem q9knE_oq : @q9knE = @q9knE_o := by
  delta q9knE q9knE_o
  simp only [q9ge9_eq, q9fi9_eq, q9an9_eq, q9al9_eq, q9flt9_eq, q9el9_eq, q9set9_eq, q9ln9_eq, q9gD9_eq, q9ap9_eq, q9eq9_N, q9eq9_I, q9eq9_A, q9eq9_E, q9eq9_OI, q9eq9_ON, q9eq9_OA, q9eq9_L, q9eq9_S, q9de9_N, q9de9_I, q9de9_A, q9le9_N, q9le9_I, q9lt9_N, q9lt9_I, q9de9_E, q9de9_OI, q9de9_ON, q9de9_OA, q9de9_L, q9nd9_eq, q9or9_eq, Bool.cond_decide]
theorem q9knE_ok {nL : Nat} {g : List Value} {cT : Nat → ClassId} {A : Nat → Prop} {x : q9ST} {r : Nat → Value} {G : q9GH} {ws : va_W} {ls : Array Slot} {st : List Value} {xs : List q9ST} (hw : q9wfB x = true) (hM : q9SM O nL g x r G ws ls st) (hT : q9tyW cT q9TBL G ws) (hD : va_D A ws) {op a : Nat} {i : q9AV} (h : q9knE x op a i = some xs) (k3 : 1000 ≤ op) (c1 : q9okAV (q9tE x) i = true) (c2 : q9zeroB x = true) {y : Int32} (y1 : q9ev r i = .int y) {a0 cd : Nat} {M : Nat → Int32} (e1 : r a = .ref a0) (e4 : q9inA G ws a0 cd M) (ha : a < (q9tE x).length) (h5 : O.1 op (.int y) (.int 0) = some (.int (M y.toNatClampNeg))) :
    ∃ x' ∈ xs, ∃ r' : Nat → Value, q9agr (q9tE x).length r r' ∧ (q9tE x).length ≤ (q9tE x').length ∧ q9tN x' = q9tN x ∧ q9tM x' = q9tM x ∧ q9SM O nL g x' r' G ws ls st := by
  have q9ok0 : q9okAV (q9tE x) (0, 0) = true := q9okZ c2 (by decide) (by decide)
  have z0 := q9zero_ev0 hM.2.2.2.1 (q9zero_at c2)
  (rewrite [q9knE_oq] at h; unfold q9knE_o at h)
  split at h
  · rename_i v hv
    split at h
    · rename_i hv0
      cases h
      obtain ⟨b1, b2⟩ := q9in_el hM hw hD hv c1 y1 e1 e4
      refine q9rf_X hM hw c1 q9ok0 (q9okAV_lt b1) ?_
      rw [y1, z0, q9exop_hi k3, ← q9isSym (r := r) hv0, b2]
      exact h5
    · cases h
  · split at h
    · rename_i cd9 K hk
      split at h
      · rename_i hc9
        obtain ⟨d1, d2⟩ := hc9
        cases h
        obtain ⟨b, n9, i9, ce, m1, m2, m3, m4, m5, m6, m7⟩ := q9kindOf_ok hM.2.2.2.1 hT hk
        obtain ⟨y', w1, w2, w3⟩ := q9inB_ok hw hM hT hD c1 m1 m2 m5 d2
        rw [y1] at w1
        cases w1
        rw [e1] at m1
        cases m1
        obtain ⟨q, ce', q1, q2, q3⟩ := e4.at
        have hq : q = i9 := hD.1 q i9 _ _ q1 m4 rfl
        subst hq
        rw [m4] at q1
        cases q1
        have hty := q9el_ty m5 w3
        rw [q3] at hty
        refine q9rf_XA hM hw c1 q9ok0 c1 ha hty ?_ e1 m4 q2 y1 (q3 _).symm
        rw [y1, z0, q9exop_hi k3]
        exact h5
      · cases h
    · cases h
noncomputable def q9le0B_o (x : q9ST) (k : Nat) : Bool := match q9num (q9tE x) (k, 0) with
  | some (0, _, h) => decide (h ≤ 0)
  | _ => false
noncomputable def q9le0B (x : q9ST) (k : Nat) : Bool := match q9num (q9tE x) (k, 0) with
  | some (0, _, h) => (q9le9 (h) (0))
  | _ => false
theorem q9le0B_oq : @q9le0B = @q9le0B_o := by
  delta q9le0B q9le0B_o
  simp only [q9ge9_eq, q9fi9_eq, q9an9_eq, q9al9_eq, q9flt9_eq, q9el9_eq, q9set9_eq, q9ln9_eq, q9gD9_eq, q9ap9_eq, q9eq9_N, q9eq9_I, q9eq9_A, q9eq9_E, q9eq9_OI, q9eq9_ON, q9eq9_OA, q9eq9_L, q9eq9_S, q9de9_N, q9de9_I, q9de9_A, q9le9_N, q9le9_I, q9lt9_N, q9lt9_I, q9de9_E, q9de9_OI, q9de9_ON, q9de9_OA, q9de9_L, q9nd9_eq, q9or9_eq, Bool.cond_decide]
/-- where a line ends, once no repeat is open -/
noncomputable def q9faE (a : Nat) (i : q9AV) : q9RF := fun x => match q9famF x (-126) a, q9num (q9tE x) i with
  | some z, some (0, l, _) => (match q9depX x 1021 z.2.2, q9depX x 1022 z.2.2 with
    | some kd, some ks => if q9okAV (q9tE x) i = true ∧ q9zeroB x = true ∧ 0 ≤ l ∧ q9leB x i (ks, 0) (-1) = true ∧ q9le0B x kd = true then q9knE x 1052 a i else none
    | _, _ => none)
  | _, _ => none
theorem q9faE_ok (a : Nat) (i : q9AV) : q9RFok O (q9faE a i) := by
  intro nL g cT A x r G ws ls st xs hw hM hT hD h
  unfold q9faE at h
  split at h
  · rename_i z l hi hz hn
    split at h
    · rename_i kd ks hkd hks
      split at h
      · rename_i hc
        obtain ⟨c1, c2, c3, c4, c5⟩ := hc
        obtain ⟨hF, hz2, ha⟩ := q9famF_ok hM hw (by decide) hz
        rw [q9FMP_5 (by decide)] at hF
        obtain ⟨a0, p, M, e1, e2, e3, e4⟩ : q9ENF O 1022 1023 G ws (r a) (q9ev r z.2.2) := hF
        obtain ⟨d, d1, d2, d3⟩ := q9depX_ok hM c2 (by decide) hkd
        obtain ⟨s, s1, s2, s3⟩ := q9depX_ok hM c2 (by decide) hks
        rw [e2] at d1 s1
        obtain ⟨y, y1, -, y2, y3⟩ := q9num_int hM.2.2.2.1 c1 hn
        have ey : y.toNatClampNeg = y.toInt.toNat := rfl
        have l1 := q9leB_ok hM c1 s3 c4
        rw [y1, s2] at l1
        have l1 : y.toInt ≤ s.toInt + (-1) := l1
        have hd0 : d.toInt ≤ 0 := by
          (rewrite [q9le0B_oq] at c5; unfold q9le0B_o at c5)
          split at c5
          · rename_i l9 h9 hn9
            rw [decide_eq_true_eq] at c5
            obtain ⟨u, u1, -, u2, u3⟩ := q9num_int hM.2.2.2.1 d3 hn9
            rw [d2] at u1
            cases u1
            omega
          · cases c5
        have h5 := e4 s s1 y.toNatClampNeg (by omega) (fun j hj hh => by
          have := O.2.2.2.2.2.2.2.2.1 p d j _ d1 hj hh
          omega)
        rw [q9ofNat_clamp (by omega)] at h5
        exact q9knE_ok hw hM hT hD h (by decide) c1 c2 y1 e1 e3 ha h5
      · cases h
    · cases h
  · cases h
noncomputable def q9elX_o (x : q9ST) (op a : Nat) (i : q9AV) : Bool := match q9fA x a i with
  | some v => q9okAV (q9tE x) i && (q9tX x).any (fun q => q.1 == op && (q9eqV x q.2.1 i && (q.2.2.1 == ((0, 0) : q9AV) && q9eqW x (q.2.2.2, 0) v)))
  | none => false
noncomputable def q9elX (x : q9ST) (op a : Nat) (i : q9AV) : Bool := match q9fA x a i with
  | some v => q9nd9 (q9okAV (q9tE x) i) (q9an9 (q9tX x) (fun q => q9nd9 (q9eq9 (q.1) (op)) ((q9nd9 (q9eqV x q.2.1 i) ((q9nd9 (q9eq9 (q.2.2.1) (((0, 0) : q9AV))) (q9eqW x (q.2.2.2, 0) v)))))))
  | none => false
theorem q9elX_oq : @q9elX = @q9elX_o := by
  delta q9elX q9elX_o
  simp only [q9ge9_eq, q9fi9_eq, q9an9_eq, q9al9_eq, q9flt9_eq, q9el9_eq, q9set9_eq, q9ln9_eq, q9gD9_eq, q9ap9_eq, q9eq9_N, q9eq9_I, q9eq9_A, q9eq9_E, q9eq9_OI, q9eq9_ON, q9eq9_OA, q9eq9_L, q9eq9_S, q9de9_N, q9de9_I, q9de9_A, q9le9_N, q9le9_I, q9lt9_N, q9lt9_I, q9de9_E, q9de9_OI, q9de9_ON, q9de9_OA, q9de9_L, q9nd9_eq, q9or9_eq, Bool.cond_decide]
theorem q9elX_ok {nL : Nat} {g : List Value} {x : q9ST} {r : Nat → Value} {G : q9GH} {ws : va_W} {ls : Array Slot} {st : List Value} (hM : q9SM O nL g x r G ws ls st) (hw : q9wfB x = true) {A : Nat → Prop} (hD : va_D A ws) (c2 : q9zeroB x = true) {op a : Nat} {i : q9AV} (h : q9elX x op a i = true) (k3 : 1000 ≤ op) {y : Int32} (y1 : q9ev r i = .int y) {a0 cd : Nat} {M : Nat → Int32} (e1 : r a = .ref a0) (e4 : q9inA G ws a0 cd M) : O.1 op (.int y) (.int 0) = some (.int (M y.toNatClampNeg)) := by
  (rewrite [q9elX_oq] at h; unfold q9elX_o at h)
  split at h
  · rename_i v hv
    simp only [List.any_eq_true, Bool.and_eq_true, beq_iff_eq] at h
    obtain ⟨c1, q, q1, q2, q3, q4, q5⟩ := h
    obtain ⟨b1, b2⟩ := q9in_el hM hw hD hv c1 y1 e1 e4
    have hX := hM.2.2.2.2.2.2.2 q q1
    unfold q9EXok at hX
    have h6 := q9eqW_ok hM q5
    rw [q9ev_zero, b2] at h6
    rw [q2, q9eqV_ok hM q3, q4, y1, q9zero_ev0 hM.2.2.2.1 (q9zero_at c2), h6, q9exop_hi k3] at hX
    exact hX
  · cases h
noncomputable def q9pX_o (x : q9ST) (o : Nat) (e p : q9AV) : Bool := (q9tX x).any (fun q => q.1 == o && (q9eqV x q.2.1 e && (q.2.2.1 == ((0, 0) : q9AV) && q9eqV x (q.2.2.2, 0) p)))
noncomputable def q9pX (x : q9ST) (o : Nat) (e p : q9AV) : Bool := q9an9 (q9tX x) (fun q => q9nd9 (q9eq9 (q.1) (o)) ((q9nd9 (q9eqV x q.2.1 e) ((q9nd9 (q9eq9 (q.2.2.1) (((0, 0) : q9AV))) (q9eqV x (q.2.2.2, 0) p))))))
theorem q9pX_oq : @q9pX = @q9pX_o := by
  delta q9pX q9pX_o
  simp only [q9ge9_eq, q9fi9_eq, q9an9_eq, q9al9_eq, q9flt9_eq, q9el9_eq, q9set9_eq, q9ln9_eq, q9gD9_eq, q9ap9_eq, q9eq9_N, q9eq9_I, q9eq9_A, q9eq9_E, q9eq9_OI, q9eq9_ON, q9eq9_OA, q9eq9_L, q9eq9_S, q9de9_N, q9de9_I, q9de9_A, q9le9_N, q9le9_I, q9lt9_N, q9lt9_I, q9de9_E, q9de9_OI, q9de9_ON, q9de9_OA, q9de9_L, q9nd9_eq, q9or9_eq, Bool.cond_decide]
theorem q9pX_ok {nL : Nat} {g : List Value} {x : q9ST} {r : Nat → Value} {G : q9GH} {ws : va_W} {ls : Array Slot} {st : List Value} (hM : q9SM O nL g x r G ws ls st) (c2 : q9zeroB x = true) {o : Nat} (ho : 1000 ≤ o) {e p : q9AV} (h : q9pX x o e p = true) : O.1 o (q9ev r e) (.int 0) = some (q9ev r p) := by
  (rewrite [q9pX_oq] at h; unfold q9pX_o at h)
  simp only [List.any_eq_true, Bool.and_eq_true, beq_iff_eq] at h
  obtain ⟨q, q1, q2, q3, q4, q5⟩ := h
  have hX := hM.2.2.2.2.2.2.2 q q1
  unfold q9EXok at hX
  have h5 := q9eqV_ok hM q5
  rw [q9ev_zero] at h5
  rw [q2, q9eqV_ok hM q3, q4, q9zero_ev0 hM.2.2.2.1 (q9zero_at c2), h5, q9exop_hi ho] at hX
  exact hX
noncomputable def q9hasX_o (x : q9ST) (o : Nat) (a b k : q9AV) : Bool := (q9tX x).any (fun q => q.1 == o && (q9eqV x q.2.1 a && (q9eqV x q.2.2.1 b && q9eqV x (q.2.2.2, 0) k)))
noncomputable def q9hasX (x : q9ST) (o : Nat) (a b k : q9AV) : Bool := q9an9 (q9tX x) (fun q => q9nd9 (q9eq9 (q.1) (o)) ((q9nd9 (q9eqV x q.2.1 a) ((q9nd9 (q9eqV x q.2.2.1 b) (q9eqV x (q.2.2.2, 0) k))))))
theorem q9hasX_oq : @q9hasX = @q9hasX_o := by
  delta q9hasX q9hasX_o
  simp only [q9ge9_eq, q9fi9_eq, q9an9_eq, q9al9_eq, q9flt9_eq, q9el9_eq, q9set9_eq, q9ln9_eq, q9gD9_eq, q9ap9_eq, q9eq9_N, q9eq9_I, q9eq9_A, q9eq9_E, q9eq9_OI, q9eq9_ON, q9eq9_OA, q9eq9_L, q9eq9_S, q9de9_N, q9de9_I, q9de9_A, q9le9_N, q9le9_I, q9lt9_N, q9lt9_I, q9de9_E, q9de9_OI, q9de9_ON, q9de9_OA, q9de9_L, q9nd9_eq, q9or9_eq, Bool.cond_decide]
theorem q9hasX_ok {nL : Nat} {g : List Value} {x : q9ST} {r : Nat → Value} {G : q9GH} {ws : va_W} {ls : Array Slot} {st : List Value} (hM : q9SM O nL g x r G ws ls st) {o : Nat} {a b k : q9AV} (h : q9hasX x o a b k = true) : q9exop O o (q9ev r a) (q9ev r b) = some (q9ev r k) := by
  (rewrite [q9hasX_oq] at h; unfold q9hasX_o at h)
  simp only [List.any_eq_true, Bool.and_eq_true, beq_iff_eq] at h
  obtain ⟨q, q1, q2, q3, q4, q5⟩ := h
  have hX := hM.2.2.2.2.2.2.2 q q1
  unfold q9EXok at hX
  have h5 := q9eqV_ok hM q5
  rw [q9ev_zero] at h5
  rw [q2, q9eqV_ok hM q3, q9eqV_ok hM q4, h5] at hX
  exact hX
/-- behind a line -/
noncomputable def q9enL_o (a : Nat) (p e : q9AV) : q9RF := fun x => match q9famF x (-126) a, q9depX x 1022 p, q9depX x 1032 e with
  | some z, some ks, some kn => if q9okAV (q9tE x) e = true ∧ q9isInt x e = true ∧ q9zeroB x = true ∧ q9eqV x z.2.2 p = true ∧ q9pX x 1034 e p = true ∧ q9leB x (kn, 0) (ks, 0) 1 = true ∧ q9elX x 1052 a (ks, 0) = true then some [q9addS x [(0, -127, -127)] [] [((q9tE x).length, (a, 0), e)] [] []] else none
  | _, _, _ => none
noncomputable def q9enL (a : Nat) (p e : q9AV) : q9RF := fun x => match q9famF x (-126) a, q9depX x 1022 p, q9depX x 1032 e with
  | some z, some ks, some kn => if q9okAV (q9tE x) e = true ∧ q9isInt x e = true ∧ q9zeroB x = true ∧ q9eqV x z.2.2 p = true ∧ q9pX x 1034 e p = true ∧ q9leB x (kn, 0) (ks, 0) 1 = true ∧ q9elX x 1052 a (ks, 0) = true then some [q9addS x [(0, -127, -127)] [] [((q9ln9 (q9tE x)), (a, 0), e)] [] []] else none
  | _, _, _ => none
theorem q9enL_oq : @q9enL = @q9enL_o := by
  delta q9enL q9enL_o
  simp only [q9ge9_eq, q9fi9_eq, q9an9_eq, q9al9_eq, q9flt9_eq, q9el9_eq, q9set9_eq, q9ln9_eq, q9gD9_eq, q9ap9_eq, q9eq9_N, q9eq9_I, q9eq9_A, q9eq9_E, q9eq9_OI, q9eq9_ON, q9eq9_OA, q9eq9_L, q9eq9_S, q9de9_N, q9de9_I, q9de9_A, q9le9_N, q9le9_I, q9lt9_N, q9lt9_I, q9de9_E, q9de9_OI, q9de9_ON, q9de9_OA, q9de9_L, q9nd9_eq, q9or9_eq, Bool.cond_decide]
theorem q9enL_ok (a : Nat) (p e : q9AV) : q9RFok O (q9enL a p e) := by
  intro nL g cT A x r G ws ls st xs hw hM hT hD h
  (rewrite [q9enL_oq] at h; unfold q9enL_o at h)
  split at h
  · rename_i z ks kn hz hks hkn
    split at h
    · rename_i hc
      obtain ⟨c1, c2, c3, c4, c5, c6, c7⟩ := hc
      cases h
      obtain ⟨hF, hz2, ha⟩ := q9famF_ok hM hw (by decide) hz
      rw [q9FMP_5 (by decide)] at hF
      obtain ⟨a0, pp, M, e1, e2, e3, e4⟩ : q9ENF O 1022 1023 G ws (r a) (q9ev r z.2.2) := hF
      rw [q9eqV_ok hM c4] at e2
      obtain ⟨s, s1, s2, s3⟩ := q9depX_ok hM c3 (by decide) hks
      obtain ⟨n, n1, n2, n3⟩ := q9depX_ok hM c3 (by decide) hkn
      obtain ⟨t, ht⟩ := q9isInt_ok hM.2.2.2.1 c1 c2
      have hp := q9pX_ok hM c3 (by decide) c5
      rw [e2] at s1
      rw [ht] at n1
      rw [ht, e2] at hp
      have l1 := q9leB_ok hM n3 s3 c6
      rw [n2, s2] at l1
      have l1 : n.toInt ≤ s.toInt + 1 := l1
      have hE := q9elX_ok hM hw hD c3 c7 (by decide) s2 e1 e3
      refine q9rf_fam hM hw (by decide) (by decide) ha c1 ?_
      rw [q9FMP_5 (by decide)]
      show q9ENF O 1032 1033 G ws (r a) (q9ev r e)
      refine ⟨a0, t, M, e1, ht, e3, fun zz hzz i hi hop => ?_⟩
      have hzz : O.1 1032 (.int t) (.int 0) = some (.int zz) := hzz
      rw [n1] at hzz
      cases hzz
      by_cases his : (i : Int) < s.toInt
      · exact e4 s s1 i his fun j hj hh => hop j hj (O.2.2.1 t pp j _ hp hj hh)
      · have hlt := Int32.toInt_lt s
        have ey : s.toNatClampNeg = s.toInt.toNat := rfl
        have hi2 : i = s.toNatClampNeg := by omega
        subst hi2
        rw [q9ofNat_clamp (by omega)]
        exact hE
    · cases h
  · cases h
/-- behind a repeat that is closed -/
noncomputable def q9enC_o (a : Nat) (p e o : q9AV) : q9RF := fun x => match q9famF x (-126) a, q9depX x 1021 p, q9depX x 1022 p, q9depX x 1032 e with
  | some z, some kd, some ks, some kn => if q9okAV (q9tE x) e = true ∧ q9isInt x e = true ∧ q9okAV (q9tE x) o = true ∧ q9isInt x o = true ∧ q9zeroB x = true ∧ q9eqV x z.2.2 p = true ∧ q9pX x 1036 e p = true ∧ q9leB x (kn, 0) (ks, 0) 0 = true ∧ q9hasX x 1023 p (kd, 0) o = true ∧ q9elX x 1052 a o = true then some [q9addS x [(0, -127, -127)] [] [((q9tE x).length, (a, 0), e)] [] []] else none
  | _, _, _, _ => none
noncomputable def q9enC (a : Nat) (p e o : q9AV) : q9RF := fun x => match q9famF x (-126) a, q9depX x 1021 p, q9depX x 1022 p, q9depX x 1032 e with
  | some z, some kd, some ks, some kn => if q9okAV (q9tE x) e = true ∧ q9isInt x e = true ∧ q9okAV (q9tE x) o = true ∧ q9isInt x o = true ∧ q9zeroB x = true ∧ q9eqV x z.2.2 p = true ∧ q9pX x 1036 e p = true ∧ q9leB x (kn, 0) (ks, 0) 0 = true ∧ q9hasX x 1023 p (kd, 0) o = true ∧ q9elX x 1052 a o = true then some [q9addS x [(0, -127, -127)] [] [((q9ln9 (q9tE x)), (a, 0), e)] [] []] else none
  | _, _, _, _ => none
theorem q9enC_oq : @q9enC = @q9enC_o := by
  delta q9enC q9enC_o
  simp only [q9ge9_eq, q9fi9_eq, q9an9_eq, q9al9_eq, q9flt9_eq, q9el9_eq, q9set9_eq, q9ln9_eq, q9gD9_eq, q9ap9_eq, q9eq9_N, q9eq9_I, q9eq9_A, q9eq9_E, q9eq9_OI, q9eq9_ON, q9eq9_OA, q9eq9_L, q9eq9_S, q9de9_N, q9de9_I, q9de9_A, q9le9_N, q9le9_I, q9lt9_N, q9lt9_I, q9de9_E, q9de9_OI, q9de9_ON, q9de9_OA, q9de9_L, q9nd9_eq, q9or9_eq, Bool.cond_decide]
theorem q9enC_ok (a : Nat) (p e o : q9AV) : q9RFok O (q9enC a p e o) := by
  intro nL g cT A x r G ws ls st xs hw hM hT hD h
  (rewrite [q9enC_oq] at h; unfold q9enC_o at h)
  split at h
  · rename_i z kd ks kn hz hkd hks hkn
    split at h
    · rename_i hc
      obtain ⟨c1, c2, q9c8, c9, c3, c4, c5, c6, c10, c7⟩ := hc
      cases h
      obtain ⟨hF, hz2, ha⟩ := q9famF_ok hM hw (by decide) hz
      rw [q9FMP_5 (by decide)] at hF
      obtain ⟨a0, pp, M, e1, e2, e3, e4⟩ : q9ENF O 1022 1023 G ws (r a) (q9ev r z.2.2) := hF
      rw [q9eqV_ok hM c4] at e2
      obtain ⟨d, d1, d2, d3⟩ := q9depX_ok hM c3 (by decide) hkd
      obtain ⟨s, s1, s2, s3⟩ := q9depX_ok hM c3 (by decide) hks
      obtain ⟨n, n1, n2, n3⟩ := q9depX_ok hM c3 (by decide) hkn
      obtain ⟨t, ht⟩ := q9isInt_ok hM.2.2.2.1 c1 c2
      obtain ⟨oo, ho⟩ := q9isInt_ok hM.2.2.2.1 q9c8 c9
      have hp := q9pX_ok hM c3 (by decide) c5
      have hO := q9hasX_ok hM c10
      rw [e2] at s1 d1
      rw [ht] at n1
      rw [ht, e2] at hp
      rw [e2, d2, ho, q9exop_hi (by decide)] at hO
      have l1 := q9leB_ok hM n3 s3 c6
      rw [n2, s2] at l1
      have l1 : n.toInt ≤ s.toInt + 0 := l1
      have hE := q9elX_ok hM hw hD c3 c7 (by decide) ho e1 e3
      refine q9rf_fam hM hw (by decide) (by decide) ha c1 ?_
      rw [q9FMP_5 (by decide)]
      show q9ENF O 1032 1033 G ws (r a) (q9ev r e)
      refine ⟨a0, t, M, e1, ht, e3, fun zz hzz i hi hop => ?_⟩
      have hzz : O.1 1032 (.int t) (.int 0) = some (.int zz) := hzz
      rw [n1] at hzz
      cases hzz
      by_cases hio : Int32.ofNat i = oo
      · have hlt := Int32.toInt_lt s
        have e9 : (Int32.ofNat i).toInt = i := Int32.toInt_ofNat_of_lt (by omega)
        have hi2 : oo.toNatClampNeg = i := by
          rw [← hio]
          show (Int32.ofNat i).toInt.toNat = i
          omega
        rw [hi2, ← hio] at hE
        exact hE
      · refine e4 s s1 i (by omega) fun j hj hh => ?_
        rcases O.2.2.2.1 t pp d j _ hp d1 hj hh with h9 | h9
        · subst h9
          rw [hO] at hh
          cases hh
          exact hio rfl
        · exact hop j hj h9
    · cases h
  · cases h
/-- where a repeat opens -/
noncomputable def q9enO_o (a : Nat) (p t : q9AV) : q9RF := fun x => match q9famF x (-126) a, q9depX x 1021 p, q9depX x 1021 t, q9depX x 1022 p, q9depX x 1022 t with
  | some z, some kd, some kd2, some ks, some ks2 => if q9okAV (q9tE x) t = true ∧ q9isInt x t = true ∧ q9zeroB x = true ∧ q9eqV x z.2.2 p = true ∧ q9pX x 1026 t p = true ∧ q9leB x (kd, 0) (kd2, 0) 0 = true ∧ q9leB x (ks2, 0) (ks, 0) 1 = true ∧ (q9leB x (ks2, 0) (ks, 0) 0 || (q9leB x (0, 1) (kd2, 0) 0 && q9hasX x 1023 t (kd2, 0) (ks, 0))) = true then some [q9addS x [(0, -126, -126)] [] [((q9tE x).length, (a, 0), t)] [] []] else none
  | _, _, _, _, _ => none
noncomputable def q9enO (a : Nat) (p t : q9AV) : q9RF := fun x => match q9famF x (-126) a, q9depX x 1021 p, q9depX x 1021 t, q9depX x 1022 p, q9depX x 1022 t with
  | some z, some kd, some kd2, some ks, some ks2 => if q9okAV (q9tE x) t = true ∧ q9isInt x t = true ∧ q9zeroB x = true ∧ q9eqV x z.2.2 p = true ∧ q9pX x 1026 t p = true ∧ q9leB x (kd, 0) (kd2, 0) 0 = true ∧ q9leB x (ks2, 0) (ks, 0) 1 = true ∧ (q9or9 (q9leB x (ks2, 0) (ks, 0) 0) ((q9nd9 (q9leB x (0, 1) (kd2, 0) 0) (q9hasX x 1023 t (kd2, 0) (ks, 0))))) = true then some [q9addS x [(0, -126, -126)] [] [((q9ln9 (q9tE x)), (a, 0), t)] [] []] else none
  | _, _, _, _, _ => none
theorem q9enO_oq : @q9enO = @q9enO_o := by
  delta q9enO q9enO_o
  simp only [q9ge9_eq, q9fi9_eq, q9an9_eq, q9al9_eq, q9flt9_eq, q9el9_eq, q9set9_eq, q9ln9_eq, q9gD9_eq, q9ap9_eq, q9eq9_N, q9eq9_I, q9eq9_A, q9eq9_E, q9eq9_OI, q9eq9_ON, q9eq9_OA, q9eq9_L, q9eq9_S, q9de9_N, q9de9_I, q9de9_A, q9le9_N, q9le9_I, q9lt9_N, q9lt9_I, q9de9_E, q9de9_OI, q9de9_ON, q9de9_OA, q9de9_L, q9nd9_eq, q9or9_eq, Bool.cond_decide]
theorem q9enO_ok (a : Nat) (p t : q9AV) : q9RFok O (q9enO a p t) := by
  intro nL g cT A x r G ws ls st xs hw hM hT hD h
  (rewrite [q9enO_oq] at h; unfold q9enO_o at h)
  split at h
  · rename_i z kd kd2 ks ks2 hz hkd hkd2 hks hks2
    split at h
    · rename_i hc
      obtain ⟨c1, c2, c3, c4, c5, c6, c7, q9c8⟩ := hc
      cases h
      obtain ⟨hF, hz2, ha⟩ := q9famF_ok hM hw (by decide) hz
      rw [q9FMP_5 (by decide)] at hF
      obtain ⟨a0, pp, M, e1, e2, e3, e4⟩ : q9ENF O 1022 1023 G ws (r a) (q9ev r z.2.2) := hF
      rw [q9eqV_ok hM c4] at e2
      obtain ⟨d, d1, d2, d3⟩ := q9depX_ok hM c3 (by decide) hkd
      obtain ⟨d', f1, f2, f3⟩ := q9depX_ok hM c3 (by decide) hkd2
      obtain ⟨s, s1, s2, s3⟩ := q9depX_ok hM c3 (by decide) hks
      obtain ⟨n, n1, n2, n3⟩ := q9depX_ok hM c3 (by decide) hks2
      obtain ⟨tt, ht⟩ := q9isInt_ok hM.2.2.2.1 c1 c2
      have hp := q9pX_ok hM c3 (by decide) c5
      rw [e2] at s1 d1
      rw [ht] at n1 f1
      rw [ht, e2] at hp
      have l1 := q9leB_ok hM d3 f3 c6
      rw [d2, f2] at l1
      have l1 : d.toInt ≤ d'.toInt + 0 := l1
      have l2 := q9leB_ok hM n3 s3 c7
      rw [n2, s2] at l2
      have l2 : n.toInt ≤ s.toInt + 1 := l2
      refine q9rf_fam hM hw (by decide) (by decide) ha c1 ?_
      rw [q9FMP_5 (by decide)]
      show q9ENF O 1022 1023 G ws (r a) (q9ev r t)
      refine ⟨a0, tt, M, e1, ht, e3, fun zz hzz i hi hop => ?_⟩
      have hzz : O.1 1022 (.int tt) (.int 0) = some (.int zz) := hzz
      rw [n1] at hzz
      cases hzz
      by_cases his : (i : Int) < s.toInt
      · refine e4 s s1 i his fun j hj hh => ?_
        have hjd := O.2.2.2.2.2.2.2.2.1 pp d j _ d1 hj hh
        exact hop j hj (O.2.2.2.2.1 tt pp d d' j _ hp d1 f1 hj hjd (by omega) hh)
      · exfalso
        rcases Bool.or_eq_true _ _ ▸ q9c8 with q9c8 | q9c8
        · have l3 := q9leB_ok hM n3 s3 q9c8
          rw [n2, s2] at l3
          have l3 : n.toInt ≤ s.toInt + 0 := l3
          omega
        · rw [Bool.and_eq_true] at q9c8
          have l3 := q9leB_ok hM (q9okZ c3 (by decide) (by decide)) f3 q9c8.1
          rw [q9zero_ev hM.2.2.2.1 (q9zero_at c3) 1, f2] at l3
          have l3 : (Int32.ofInt 1).toInt ≤ d'.toInt + 0 := l3
          have l4 : (Int32.ofInt 1).toInt = 1 := by decide
          have hO := q9hasX_ok hM q9c8.2
          rw [ht, f2, s2, q9exop_hi (by decide)] at hO
          refine hop d' (by omega) ?_
          have hlt := Int32.toInt_lt s
          have hs : Int32.ofNat i = s := Int32.toInt_inj.mp (by
            rw [Int32.toInt_ofNat_of_lt (by omega)]
            omega)
          rw [hs]
          exact hO
    · cases h
  · cases h
/-- from behind a line to the next turn -/
noncomputable def q9enS_o (a : Nat) (e t : q9AV) : q9RF := fun x => match q9famF x (-127) a with
  | some z => if q9okAV (q9tE x) t = true ∧ q9isInt x t = true ∧ q9zeroB x = true ∧ q9eqV x z.2.2 e = true ∧ q9pX x 1035 t e = true then some [q9addS x [(0, -126, -126)] [] [((q9tE x).length, (a, 0), t)] [] []] else none
  | none => none
noncomputable def q9enS (a : Nat) (e t : q9AV) : q9RF := fun x => match q9famF x (-127) a with
  | some z => if q9okAV (q9tE x) t = true ∧ q9isInt x t = true ∧ q9zeroB x = true ∧ q9eqV x z.2.2 e = true ∧ q9pX x 1035 t e = true then some [q9addS x [(0, -126, -126)] [] [((q9ln9 (q9tE x)), (a, 0), t)] [] []] else none
  | none => none
theorem q9enS_oq : @q9enS = @q9enS_o := by
  delta q9enS q9enS_o
  simp only [q9ge9_eq, q9fi9_eq, q9an9_eq, q9al9_eq, q9flt9_eq, q9el9_eq, q9set9_eq, q9ln9_eq, q9gD9_eq, q9ap9_eq, q9eq9_N, q9eq9_I, q9eq9_A, q9eq9_E, q9eq9_OI, q9eq9_ON, q9eq9_OA, q9eq9_L, q9eq9_S, q9de9_N, q9de9_I, q9de9_A, q9le9_N, q9le9_I, q9lt9_N, q9lt9_I, q9de9_E, q9de9_OI, q9de9_ON, q9de9_OA, q9de9_L, q9nd9_eq, q9or9_eq, Bool.cond_decide]
theorem q9enS_ok (a : Nat) (e t : q9AV) : q9RFok O (q9enS a e t) := by
  intro nL g cT A x r G ws ls st xs hw hM hT hD h
  (rewrite [q9enS_oq] at h; unfold q9enS_o at h)
  split at h
  · rename_i z hz
    split at h
    · rename_i hc
      obtain ⟨c1, c2, c3, c4, c5⟩ := hc
      cases h
      obtain ⟨hF, hz2, ha⟩ := q9famF_ok hM hw (by decide) hz
      rw [q9FMP_5 (by decide)] at hF
      obtain ⟨a0, pp, M, e1, e2, e3, e4⟩ : q9ENF O 1032 1033 G ws (r a) (q9ev r z.2.2) := hF
      rw [q9eqV_ok hM c4] at e2
      obtain ⟨tt, ht⟩ := q9isInt_ok hM.2.2.2.1 c1 c2
      have hp := q9pX_ok hM c3 (by decide) c5
      rw [ht, e2] at hp
      refine q9rf_fam hM hw (by decide) (by decide) ha c1 ?_
      rw [q9FMP_5 (by decide)]
      show q9ENF O 1022 1023 G ws (r a) (q9ev r t)
      exact ⟨a0, tt, M, e1, ht, e3, fun zz hzz i hi hop => e4 zz (O.2.2.2.2.2.2.1 tt pp zz hp hzz) i hi fun j hj hh => hop j hj (O.2.2.2.2.2.2.2.1 tt pp j _ hp hj hh)⟩
    · cases h
  · cases h
/-- no line yet -/
noncomputable def q9enF_o (a : Nat) (p : q9AV) : q9RF := fun x => match q9codeOf x a, q9depX x 1022 p, q9KAS[185 - 100]? with
  | some 185, some ks, some K => (match q9num (q9tE x) (ks, 0) with
    | some (0, _, h) => if q9okAV (q9tE x) p = true ∧ q9isInt x p = true ∧ q9zeroB x = true ∧ h ≤ 0 ∧ (K.1 = 0 ∨ K.1 = 1) then some [q9addS x [(0, -126, -126)] [] [((q9tE x).length, (a, 0), p)] [] []] else none
    | _ => none)
  | _, _, _ => none
noncomputable def q9enF (a : Nat) (p : q9AV) : q9RF := fun x => match q9codeOf x a, q9depX x 1022 p, (q9ge9 q9KAS (185 - 100)) with
  | some 185, some ks, some K => (match q9num (q9tE x) (ks, 0) with
    | some (0, _, h) => if q9okAV (q9tE x) p = true ∧ q9isInt x p = true ∧ q9zeroB x = true ∧ h ≤ 0 ∧ (K.1 = 0 ∨ K.1 = 1) then some [q9addS x [(0, -126, -126)] [] [((q9ln9 (q9tE x)), (a, 0), p)] [] []] else none
    | _ => none)
  | _, _, _ => none
theorem q9enF_oq : @q9enF = @q9enF_o := by
  delta q9enF q9enF_o
  simp only [q9ge9_eq, q9fi9_eq, q9an9_eq, q9al9_eq, q9flt9_eq, q9el9_eq, q9set9_eq, q9ln9_eq, q9gD9_eq, q9ap9_eq, q9eq9_N, q9eq9_I, q9eq9_A, q9eq9_E, q9eq9_OI, q9eq9_ON, q9eq9_OA, q9eq9_L, q9eq9_S, q9de9_N, q9de9_I, q9de9_A, q9le9_N, q9le9_I, q9lt9_N, q9lt9_I, q9de9_E, q9de9_OI, q9de9_ON, q9de9_OA, q9de9_L, q9nd9_eq, q9or9_eq, Bool.cond_decide]
theorem q9enF_ok (a : Nat) (p : q9AV) : q9RFok O (q9enF a p) := by
  intro nL g cT A x r G ws ls st xs hw hM hT hD h
  (rewrite [q9enF_oq] at h; unfold q9enF_o at h)
  split at h
  · rename_i ks K hcd hks hK
    split at h
    · rename_i l hh hn
      split at h
      · rename_i hc
        obtain ⟨c1, c2, c3, c4, c5⟩ := hc
        cases h
        obtain ⟨b, M, e1, e4⟩ := q9in_of hM hT hcd (by decide) hK c5
        obtain ⟨s, s1, s2, s3⟩ := q9depX_ok hM c3 (by decide) hks
        obtain ⟨t, ht⟩ := q9isInt_ok hM.2.2.2.1 c1 c2
        rw [ht] at s1
        obtain ⟨u, u1, -, u2, u3⟩ := q9num_int hM.2.2.2.1 s3 hn
        rw [s2] at u1
        cases u1
        refine q9rf_fam hM hw (by decide) (by decide) (q9codeOf_lt hcd) c1 ?_
        rw [q9FMP_5 (by decide)]
        show q9ENF O 1022 1023 G ws (r a) (q9ev r p)
        refine ⟨b, t, M, e1, ht, e4, fun zz hzz i hi hop => ?_⟩
        have hzz : O.1 1022 (.int t) (.int 0) = some (.int zz) := hzz
        rw [s1] at hzz
        cases hzz
        omega
      · cases h
    · cases h
  · cases h
/-! tapes -/
theorem q9b8_mask (x : Int32) : x.toInt8.toInt32 &&& 255 = x &&& 255 := by
  apply Int32.toBitVec_inj.mp
  rw [Int32.toBitVec_and, Int32.toBitVec_and]
  have e : x.toInt8.toInt32.toBitVec = (x.toBitVec.signExtend 8).signExtend 32 := rfl
  rw [e]
  apply BitVec.eq_of_getLsbD_eq
  intro i hi
  rw [BitVec.getLsbD_and, BitVec.getLsbD_and]
  by_cases h8 : i < 8
  · rw [BitVec.getLsbD_signExtend, if_pos h8, BitVec.getLsbD_signExtend, if_pos hi]
    simp [hi, h8]
  · have key : ∀ k : Fin 24, (Int32.toBitVec 255).getLsbD (k.val + 8) = false := by decide
    have := key ⟨i - 8, by omega⟩
    rw [show (⟨i - 8, by omega⟩ : Fin 24).val + 8 = i by dsimp only; omega] at this
    rw [this, Bool.and_false, Bool.and_false]
noncomputable def q9tpS_o (x : q9ST) (c : Int) (v b : q9AV) (k : Nat) : Bool := (q9tX x).any (fun q => q.1 == 9 && (q.2.1 == v && (q9eqV x q.2.2.1 (0, 24 - 8 * (k : Int)) && (if c = -130 then (q9tX x).any (fun q2 => q2.1 == 13 && (q2.2.1 == ((q.2.2.2, 0) : q9AV) && ((q2.2.2.2, 0) : q9AV) == b)) else (q9tX x).any (fun q2 => q2.1 == 5 && (q2.2.1 == ((q.2.2.2, 0) : q9AV) && (q2.2.2.1 == ((0, 255) : q9AV) && ((q2.2.2.2, 0) : q9AV) == b)))))))
noncomputable def q9tpS (x : q9ST) (c : Int) (v b : q9AV) (k : Nat) : Bool := q9an9 (q9tX x) (fun q => q9nd9 (q9eq9 (q.1) (9)) ((q9nd9 (q9eq9 (q.2.1) (v)) ((q9nd9 (q9eqV x q.2.2.1 (0, 24 - 8 * (k : Int))) ((bif q9de9 (c) (-130) then q9an9 (q9tX x) (fun q2 => q9nd9 (q9eq9 (q2.1) (13)) ((q9nd9 (q9eq9 (q2.2.1) (((q.2.2.2, 0) : q9AV))) (q9eq9 (((q2.2.2.2, 0) : q9AV)) (b))))) else q9an9 (q9tX x) (fun q2 => q9nd9 (q9eq9 (q2.1) (5)) ((q9nd9 (q9eq9 (q2.2.1) (((q.2.2.2, 0) : q9AV))) ((q9nd9 (q9eq9 (q2.2.2.1) (((0, 255) : q9AV))) (q9eq9 (((q2.2.2.2, 0) : q9AV)) (b))))))))))))))
theorem q9tpS_oq : @q9tpS = @q9tpS_o := by
  delta q9tpS q9tpS_o
  simp only [q9ge9_eq, q9fi9_eq, q9an9_eq, q9al9_eq, q9flt9_eq, q9el9_eq, q9set9_eq, q9ln9_eq, q9gD9_eq, q9ap9_eq, q9eq9_N, q9eq9_I, q9eq9_A, q9eq9_E, q9eq9_OI, q9eq9_ON, q9eq9_OA, q9eq9_L, q9eq9_S, q9de9_N, q9de9_I, q9de9_A, q9le9_N, q9le9_I, q9lt9_N, q9lt9_I, q9de9_E, q9de9_OI, q9de9_ON, q9de9_OA, q9de9_L, q9nd9_eq, q9or9_eq, Bool.cond_decide]
/-- q9one byte q9more of an int -/
noncomputable def q9tpG_o (c : Int) (a : Nat) (i : q9AV) (k : Nat) (v : q9AV) : q9RF := fun x => match q9famF x c a, q9fA x a i, q9num (q9tE x) i with
  | some z, some b, some (0, l, _) => if (c = -130 ∨ c = -131) ∧ k ≤ 3 ∧ q9okAV (q9tE x) i = true ∧ q9zeroB x = true ∧ (k : Int) ≤ l ∧ q9eqV x z.2.2 i = true ∧ q9okAV (q9tE x) (i.1, i.2 + 1) = true ∧ q9okAV (q9tE x) (i.1, i.2 + -(k : Int)) = true ∧ q9okAV (q9tE x) v = true ∧ q9isInt x v = true ∧ q9hasX x 1059 (i.1, i.2 + -(k : Int)) (0, 0) v = true ∧ q9tpS x c v b k = true then some [q9addS x [(0, c, c)] [] [((q9tE x).length, (a, 0), (i.1, i.2 + 1))] [] []] else none
  | _, _, _ => none
noncomputable def q9tpG (c : Int) (a : Nat) (i : q9AV) (k : Nat) (v : q9AV) : q9RF := fun x => match q9famF x c a, q9fA x a i, q9num (q9tE x) i with
  | some z, some b, some (0, l, _) => if (c = -130 ∨ c = -131) ∧ k ≤ 3 ∧ q9okAV (q9tE x) i = true ∧ q9zeroB x = true ∧ (k : Int) ≤ l ∧ q9eqV x z.2.2 i = true ∧ q9okAV (q9tE x) (i.1, i.2 + 1) = true ∧ q9okAV (q9tE x) (i.1, i.2 + -(k : Int)) = true ∧ q9okAV (q9tE x) v = true ∧ q9isInt x v = true ∧ q9hasX x 1059 (i.1, i.2 + -(k : Int)) (0, 0) v = true ∧ q9tpS x c v b k = true then some [q9addS x [(0, c, c)] [] [((q9ln9 (q9tE x)), (a, 0), (i.1, i.2 + 1))] [] []] else none
  | _, _, _ => none
theorem q9tpG_oq : @q9tpG = @q9tpG_o := by
  delta q9tpG q9tpG_o
  simp only [q9ge9_eq, q9fi9_eq, q9an9_eq, q9al9_eq, q9flt9_eq, q9el9_eq, q9set9_eq, q9ln9_eq, q9gD9_eq, q9ap9_eq, q9eq9_N, q9eq9_I, q9eq9_A, q9eq9_E, q9eq9_OI, q9eq9_ON, q9eq9_OA, q9eq9_L, q9eq9_S, q9de9_N, q9de9_I, q9de9_A, q9le9_N, q9le9_I, q9lt9_N, q9lt9_I, q9de9_E, q9de9_OI, q9de9_ON, q9de9_OA, q9de9_L, q9nd9_eq, q9or9_eq, Bool.cond_decide]
theorem q9tpG_ok (c : Int) (a : Nat) (i : q9AV) (k : Nat) (v : q9AV) : q9RFok O (q9tpG c a i k v) := by
  intro nL g cT A x r G ws ls st xs hw hM hT hD h
  (rewrite [q9tpG_oq] at h; unfold q9tpG_o at h)
  split at h
  · rename_i z b l hi hz hb hn
    split at h
    · rename_i hc
      obtain ⟨c0, k1, c1, c2, c3, c4, c5, c6, c7, q9c8, c9, c10⟩ := hc
      cases h
      have hcr : c ≤ -100 ∧ -1000 ≤ c ∧ ¬ -103 ≤ c := by omega
      obtain ⟨hF, hz2, ha⟩ := q9famF_ok hM hw hcr.1 hz
      rw [q9FMP_5 hcr.2.2] at hF
      obtain ⟨m, cds, hs, hm⟩ : ∃ (m : Bool) (cds : List Nat), q9famS c = some (m, cds, 1058, false) ∧ m = decide (c = -130) := by
        rcases c0 with rfl | rfl
        · exact ⟨_, _, rfl, rfl⟩
        · exact ⟨_, _, rfl, rfl⟩
      unfold q9FM5 at hF
      rw [hs] at hF
      obtain ⟨a0, cd, n, M, e1, e2, e3, e4, e5, -⟩ : q9EQF O m cds 1058 false G ws (r a) (q9ev r z.2.2) := hF
      obtain ⟨y, y1, -, y2, y3⟩ := q9num_int hM.2.2.2.1 c1 hn
      have ey : y.toNatClampNeg = y.toInt.toNat := rfl
      obtain ⟨y', f1, f2⟩ := q9ev_off5 hM.2.2.2.1 hn c1 c5 y1
      obtain ⟨w, w1, w2⟩ := q9ev_off5 hM.2.2.2.1 hn c1 c6 y1
      obtain ⟨u, hu⟩ := q9isInt_ok hM.2.2.2.1 c7 q9c8
      rw [q9eqV_ok hM c4, y1] at e2
      have e2 := Value.int.inj e2
      subst e2
      obtain ⟨b1, b2⟩ := q9in_el hM hw hD hb c1 y1 e1 e4
      have z0 := q9zero_ev0 hM.2.2.2.1 (q9zero_at c2)
      have hW := q9hasX_ok hM c9
      rw [w1, z0, hu, q9exop_hi (by decide)] at hW
      have hB := O.2.2.2.2.2.2.2.2.2.2.2 w y u k hW (by omega) (by omega)
      have ek : Int32.ofInt (24 - 8 * (k : Int)) = Int32.ofNat (24 - 8 * k) := match k, k1 with
        | 0, _ => rfl
        | 1, _ => rfl
        | 2, _ => rfl
        | 3, _ => rfl
      have hMy : q9mskV m (M y.toNatClampNeg) = u >>> (Int32.ofNat (24 - 8 * k) &&& 31) &&& 255 := by
        (rewrite [q9tpS_oq] at c10; unfold q9tpS_o at c10)
        simp only [List.any_eq_true, Bool.and_eq_true, beq_iff_eq] at c10
        obtain ⟨q, q1, q2, q3, q4, q5⟩ := c10
        have hX := hM.2.2.2.2.2.2.2 q q1
        unfold q9EXok at hX
        rw [q2, q3, q9eqV_ok hM q4, hu, q9zero_ev hM.2.2.2.1 (q9zero_at c2), ek] at hX
        have hX : some (Value.int (u >>> (Int32.ofNat (24 - 8 * k) &&& 31))) = some (r q.2.2.2) := hX
        have hX := Option.some.inj hX
        split at q5
        · rename_i hc9
          rw [List.any_eq_true] at q5
          obtain ⟨p, p1, p5⟩ := q5
          simp only [Bool.and_eq_true, beq_iff_eq] at p5
          obtain ⟨p2, p3, p4⟩ := p5
          have hY := hM.2.2.2.2.2.2.2 p p1
          unfold q9EXok at hY
          rw [p2, p3, q9ev_zero, ← hX] at hY
          have hY : some (Value.int (u >>> (Int32.ofNat (24 - 8 * k) &&& 31)).toInt8.toInt32) = some (r p.2.2.2) := hY
          have hY := Option.some.inj hY
          rw [← p4, q9ev_zero, ← hY] at b2
          have b2 := Value.int.inj b2
          rw [← b2, hm, decide_eq_true hc9]
          exact q9b8_mask _
        · rename_i hc9
          rw [List.any_eq_true] at q5
          obtain ⟨p, p1, p5⟩ := q5
          simp only [Bool.and_eq_true, beq_iff_eq] at p5
          obtain ⟨p2, p3, p6, p4⟩ := p5
          have hY := hM.2.2.2.2.2.2.2 p p1
          unfold q9EXok at hY
          rw [p2, p3, p6, q9ev_zero, ← hX, q9zero_ev hM.2.2.2.1 (q9zero_at c2)] at hY
          have hY : some (Value.int (u >>> (Int32.ofNat (24 - 8 * k) &&& 31) &&& 255)) = some (r p.2.2.2) := hY
          have hY := Option.some.inj hY
          rw [← p4, q9ev_zero, ← hY] at b2
          have b2 := Value.int.inj b2
          rw [← b2, hm, decide_eq_false hc9]
          rfl
      refine q9rf_fam hM hw hcr.1 hcr.2.1 ha c5 ?_
      rw [q9FMP_5 hcr.2.2]
      unfold q9FM5
      rw [hs]
      show q9EQF O m cds 1058 false G ws (r a) (q9ev r (i.1, i.2 + 1))
      refine ⟨a0, cd, y', M, e1, f1, e3, e4, fun t ht => ?_, fun hh => by cases hh⟩
      by_cases hty : t = y.toNatClampNeg
      · subst hty
        rw [q9ofNat_clamp (by omega), hMy]
        exact hB
      · exact e5 t (by omega)
    · cases h
  · cases h
/-- a text of the tape -/
noncomputable def q9tpH_o (c : Int) (a : Nat) (n : q9AV) : q9RF := fun x => match q9famF x c a, q9num (q9tE x) n with
  | some z, some (0, l, _) => if (c = -130 ∨ c = -131) ∧ q9okAV (q9tE x) n = true ∧ q9zeroB x = true ∧ 0 ≤ l ∧ q9leB x n z.2.2 0 = true ∧ q9hasX x 1018 (0, 0) (0, 0) n = true then some [q9addS x [(0, if c = -130 then -104 else -105, if c = -130 then -104 else -105)] [] [((q9tE x).length, (a, 0), n)] [] []] else none
  | _, _ => none
noncomputable def q9tpH (c : Int) (a : Nat) (n : q9AV) : q9RF := fun x => match q9famF x c a, q9num (q9tE x) n with
  | some z, some (0, l, _) => if (c = -130 ∨ c = -131) ∧ q9okAV (q9tE x) n = true ∧ q9zeroB x = true ∧ 0 ≤ l ∧ q9leB x n z.2.2 0 = true ∧ q9hasX x 1018 (0, 0) (0, 0) n = true then some [q9addS x [(0, bif q9de9 (c) (-130) then -104 else -105, bif q9de9 (c) (-130) then -104 else -105)] [] [((q9ln9 (q9tE x)), (a, 0), n)] [] []] else none
  | _, _ => none
theorem q9tpH_oq : @q9tpH = @q9tpH_o := by
  delta q9tpH q9tpH_o
  simp only [q9ge9_eq, q9fi9_eq, q9an9_eq, q9al9_eq, q9flt9_eq, q9el9_eq, q9set9_eq, q9ln9_eq, q9gD9_eq, q9ap9_eq, q9eq9_N, q9eq9_I, q9eq9_A, q9eq9_E, q9eq9_OI, q9eq9_ON, q9eq9_OA, q9eq9_L, q9eq9_S, q9de9_N, q9de9_I, q9de9_A, q9le9_N, q9le9_I, q9lt9_N, q9lt9_I, q9de9_E, q9de9_OI, q9de9_ON, q9de9_OA, q9de9_L, q9nd9_eq, q9or9_eq, Bool.cond_decide]
theorem q9tpH_ok (c : Int) (a : Nat) (n : q9AV) : q9RFok O (q9tpH c a n) := by
  intro nL g cT A x r G ws ls st xs hw hM hT hD h
  (rewrite [q9tpH_oq] at h; unfold q9tpH_o at h)
  split at h
  · rename_i z l hi hz hn
    split at h
    · rename_i hc
      obtain ⟨c0, c1, c2, c3, c4, c5⟩ := hc
      cases h
      have hcr : c ≤ -100 ∧ ¬ -103 ≤ c := by omega
      obtain ⟨hF, hz2, ha⟩ := q9famF_ok hM hw hcr.1 hz
      rw [q9FMP_5 hcr.2] at hF
      obtain ⟨y, y1, -, y2, y3⟩ := q9num_int hM.2.2.2.1 c1 hn
      have z0 := q9zero_ev0 hM.2.2.2.1 (q9zero_at c2)
      have hN := q9hasX_ok hM c5
      rw [z0, y1, q9exop_hi (by decide)] at hN
      have key : ∀ (m : Bool) (cds cds2 : List Nat), (∀ k ∈ cds, k ∈ cds2) → q9EQF O m cds 1058 false G ws (r a) (q9ev r z.2.2) → q9EQF O m cds2 1000 true G ws (r a) (q9ev r n) := by
        rintro m cds cds2 hcs ⟨a0, cd, n0, M, e1, e2, e3, e4, e5, -⟩
        have l1 := q9leB_ok hM c1 hz2 c4
        rw [y1, e2] at l1
        have l1 : y.toInt ≤ n0.toInt + 0 := l1
        have hlt := Int32.toInt_lt y
        refine ⟨a0, cd, y, M, e1, y1, hcs _ e3, e4, fun t ht => ?_, fun _ => ⟨by omega, hN, fun t ht => O.2.2.2.2.2.2.2.2.2.2.1 t y hN ht (by omega)⟩⟩
        have e9 : (Int32.ofNat t).toInt = t := Int32.toInt_ofNat_of_lt (by omega)
        exact O.2.2.2.2.2.2.2.2.2.1 (Int32.ofNat t) y _ hN (e5 t (by omega)) (by omega) (by omega)
      rcases c0 with rfl | rfl
      · refine q9rf_fam hM hw (c := -104) (by decide) (by decide) ha c1 ?_
        rw [q9FMP_5 (by decide)]
        exact key true [166] [165, 166] (fun k hk => List.mem_cons_of_mem _ hk) hF
      · refine q9rf_fam hM hw (c := -105) (by decide) (by decide) ha c1 ?_
        rw [q9FMP_5 (by decide)]
        exact key false [177] [177] (fun k hk => hk) hF
    · cases h
  · cases h
/-! a rule -/
theorem q9nw_nv (v : Value) : q9nw v = q9nv v := by
  cases v <;> rfl
theorem q9tyN_V {G : q9GH} {t : q9ET} {v : Value} (h : q9tyN t v) : q9tyV G t v := by
  obtain ⟨k, lo, hi⟩ := t
  match k, h with
  | 0, h => exact h
  | 1, h => exact h
  | _ + 2, h => exact False.elim h
noncomputable def q9valX_o (x : q9ST) (o : Nat) (a b : q9AV) (n : Int) : Bool := (q9tX x).any (fun q => q.1 == o && (q9eqV x q.2.1 a && (q9eqV x q.2.2.1 b && (q9okAV (q9tE x) (q.2.2.2, 0) && (match q9num (q9tE x) (q.2.2.2, 0) with
  | some (0, l, h) => decide (l = n) && decide (h = n)
  | _ => false)))))
noncomputable def q9valX (x : q9ST) (o : Nat) (a b : q9AV) (n : Int) : Bool := q9an9 (q9tX x) (fun q => q9nd9 (q9eq9 (q.1) (o)) ((q9nd9 (q9eqV x q.2.1 a) ((q9nd9 (q9eqV x q.2.2.1 b) ((q9nd9 (q9okAV (q9tE x) (q.2.2.2, 0)) ((match q9num (q9tE x) (q.2.2.2, 0) with
  | some (0, l, h) => q9nd9 ((q9de9 (l) (n))) ((q9de9 (h) (n)))
  | _ => false)))))))))
theorem q9valX_oq : @q9valX = @q9valX_o := by
  delta q9valX q9valX_o
  simp only [q9ge9_eq, q9fi9_eq, q9an9_eq, q9al9_eq, q9flt9_eq, q9el9_eq, q9set9_eq, q9ln9_eq, q9gD9_eq, q9ap9_eq, q9eq9_N, q9eq9_I, q9eq9_A, q9eq9_E, q9eq9_OI, q9eq9_ON, q9eq9_OA, q9eq9_L, q9eq9_S, q9de9_N, q9de9_I, q9de9_A, q9le9_N, q9le9_I, q9lt9_N, q9lt9_I, q9de9_E, q9de9_OI, q9de9_ON, q9de9_OA, q9de9_L, q9nd9_eq, q9or9_eq, Bool.cond_decide]
theorem q9valX_ok {nL : Nat} {g : List Value} {x : q9ST} {r : Nat → Value} {G : q9GH} {ws : va_W} {ls : Array Slot} {st : List Value} (hM : q9SM O nL g x r G ws ls st) {o : Nat} {a b : q9AV} {n : Int} (h : q9valX x o a b n = true) : q9exop O o (q9ev r a) (q9ev r b) = some (.int (Int32.ofInt n)) := by
  (rewrite [q9valX_oq] at h; unfold q9valX_o at h)
  simp only [List.any_eq_true, Bool.and_eq_true, beq_iff_eq] at h
  obtain ⟨q, q1, q2, q3, q4, q5, q6⟩ := h
  have hX := hM.2.2.2.2.2.2.2 q q1
  unfold q9EXok at hX
  split at q6
  · rename_i l hh hn
    rw [Bool.and_eq_true, decide_eq_true_eq, decide_eq_true_eq] at q6
    obtain ⟨rfl, rfl⟩ := q6
    obtain ⟨y, y1, -, y2, y3⟩ := q9num_int hM.2.2.2.1 q5 hn
    rw [q9ev_zero] at y1
    rw [q2, q9eqV_ok hM q3, q9eqV_ok hM q4, y1] at hX
    rw [hX, show hh = y.toInt by omega, q9ofI]
  · cases q6
noncomputable def q9rngB_o (x : q9ST) (a : q9AV) (t : q9ET) : Bool := q9okAV (q9tE x) a && (match q9num (q9tE x) a with
  | some (k, l, h) => k == t.1 && (decide (t.2.1 ≤ l) && decide (h ≤ t.2.2))
  | none => false)
noncomputable def q9rngB (x : q9ST) (a : q9AV) (t : q9ET) : Bool := q9nd9 (q9okAV (q9tE x) a) ((match q9num (q9tE x) a with
  | some (k, l, h) => q9nd9 (q9eq9 (k) (t.1)) ((q9nd9 ((q9le9 (t.2.1) (l))) ((q9le9 (h) (t.2.2)))))
  | none => false))
theorem q9rngB_oq : @q9rngB = @q9rngB_o := by
  delta q9rngB q9rngB_o
  simp only [q9ge9_eq, q9fi9_eq, q9an9_eq, q9al9_eq, q9flt9_eq, q9el9_eq, q9set9_eq, q9ln9_eq, q9gD9_eq, q9ap9_eq, q9eq9_N, q9eq9_I, q9eq9_A, q9eq9_E, q9eq9_OI, q9eq9_ON, q9eq9_OA, q9eq9_L, q9eq9_S, q9de9_N, q9de9_I, q9de9_A, q9le9_N, q9le9_I, q9lt9_N, q9lt9_I, q9de9_E, q9de9_OI, q9de9_ON, q9de9_OA, q9de9_L, q9nd9_eq, q9or9_eq, Bool.cond_decide]
theorem q9rngB_ok {nL : Nat} {g : List Value} {x : q9ST} {r : Nat → Value} {G : q9GH} {ws : va_W} {ls : Array Slot} {st : List Value} (hM : q9SM O nL g x r G ws ls st) {a : q9AV} {t : q9ET} (h : q9rngB x a t = true) : q9tyN t (q9ev r a) := by
  (rewrite [q9rngB_oq] at h; unfold q9rngB_o at h)
  rw [Bool.and_eq_true] at h
  obtain ⟨h1, h2⟩ := h
  split at h2
  · rename_i k l hh hn
    simp only [Bool.and_eq_true, beq_iff_eq, decide_eq_true_eq] at h2
    obtain ⟨h3, h4, h5⟩ := h2
    obtain ⟨t0, lo, hi⟩ := t
    have h3 : k = t0 := h3
    subst h3
    have h4 : lo ≤ l := h4
    have h5 : hh ≤ hi := h5
    obtain ⟨i1, -, i3, i4⟩ := q9num_ok hM.2.2.2.1 h1 hn
    rcases i1 with ⟨k0, u, hu⟩ | ⟨k0, u, hu⟩
    · subst k0
      rw [hu] at i3 i4 ⊢
      have i3 : l ≤ u.toInt := i3
      have i4 : u.toInt ≤ hh := i4
      exact ⟨u, rfl, Int.le_trans h4 i3, Int.le_trans i4 h5⟩
    · subst k0
      rw [hu] at i3 i4 ⊢
      have i3 : l ≤ u.toInt := i3
      have i4 : u.toInt ≤ hh := i4
      exact ⟨u, rfl, Int.le_trans h4 i3, Int.le_trans i4 h5⟩
  · cases h2
noncomputable def q9argK (x : q9ST) : List Nat → List q9AV → Bool
  | [], [] => true
  | k :: ks, a :: as => q9okAV (q9tE x) a && ((match q9num (q9tE x) a with
    | some (k', _, _) => k' == (if k = 0 then 0 else 1)
    | none => false) && q9argK x ks as)
  | _, _ => false
theorem q9argK_ok {nL : Nat} {g : List Value} {x : q9ST} {r : Nat → Value} {G : q9GH} {ws : va_W} {ls : Array Slot} {st : List Value} (hM : q9SM O nL g x r G ws ls st) : ∀ (ks : List Nat) (as : List q9AV), q9argK x ks as = true → ks.length = as.length ∧ (∀ i k : Nat, ks[i]? = some k → q9tyN (q9kdT k) (q9ev r (as.getD i (0, 0)))) ∧ ∀ a ∈ as, q9okAV (q9tE x) a = true
  | [], [], _ => ⟨rfl, fun i k h => (by simp at h), fun a h => absurd h List.not_mem_nil⟩
  | [], _ :: _, h => by cases h
  | _ :: _, [], h => by cases h
  | k :: ks, a :: as, h => by
    unfold q9argK at h
    rw [Bool.and_eq_true, Bool.and_eq_true] at h
    obtain ⟨h1, h2, h3⟩ := h
    obtain ⟨i1, i2, i3⟩ := q9argK_ok hM ks as h3
    refine ⟨congrArg Nat.succ i1, fun i k' hk => ?_, fun b hb => ?_⟩
    · match i, hk with
      | 0, hk =>
        cases hk
        show q9tyN (q9kdT k) (q9ev r a)
        split at h2
        · rename_i k9 l hh hn
          rw [beq_iff_eq] at h2
          obtain ⟨j1, -, -, -⟩ := q9num_ok hM.2.2.2.1 h1 hn
          unfold q9kdT
          by_cases hk0 : k = 0
          · rw [if_pos hk0] at h2 ⊢
            subst h2
            rcases j1 with ⟨-, u, hu⟩ | ⟨k0, -⟩
            · rw [hu]
              exact ⟨u, rfl, by have := Int32.le_toInt u; show -2147483648 ≤ _; omega, by have := Int32.toInt_lt u; show _ ≤ 2147483647; omega⟩
            · cases k0
          · rw [if_neg hk0] at h2 ⊢
            subst h2
            rcases j1 with ⟨k0, -⟩ | ⟨-, u, hu⟩
            · cases k0
            · rw [hu]
              exact ⟨u, rfl, by have := Int64.le_toInt u; show -9223372036854775808 ≤ _; omega, by have := Int64.toInt_lt u; show _ ≤ 9223372036854775807; omega⟩
        · cases h2
      | i + 1, hk => exact i2 i k' hk
    · rcases List.mem_cons.mp hb with rfl | hb
      · exact h1
      · exact i3 b hb
noncomputable def q9ruT_o (n : Nat) (as : List q9AV) (m : Nat) : List q9AV := ((0, 0) :: as) ++ (List.range m).map (fun i => (n + i, 0))
noncomputable def q9ruT (n : Nat) (as : List q9AV) (m : Nat) : List q9AV := (q9ap9 (((0, 0) :: as)) ((List.range m).map (fun i => (n + i, 0))))
theorem q9ruT_oq : @q9ruT = @q9ruT_o := by
  delta q9ruT q9ruT_o
  simp only [q9ge9_eq, q9fi9_eq, q9an9_eq, q9al9_eq, q9flt9_eq, q9el9_eq, q9set9_eq, q9ln9_eq, q9gD9_eq, q9ap9_eq, q9eq9_N, q9eq9_I, q9eq9_A, q9eq9_E, q9eq9_OI, q9eq9_ON, q9eq9_OA, q9eq9_L, q9eq9_S, q9de9_N, q9de9_I, q9de9_A, q9le9_N, q9le9_I, q9lt9_N, q9lt9_I, q9de9_E, q9de9_OI, q9de9_ON, q9de9_OA, q9de9_L, q9nd9_eq, q9or9_eq, Bool.cond_decide]
noncomputable def q9ruN_o (q : q9RUD) (n : Nat) (th : List q9AV) : List (Nat × q9AV × q9AV × Nat) := (List.range q.2.2.2.2.2.1.length).filterMap (fun i => (q.2.2.2.2.2.1[i]?).map (fun p => (p.1, q9sh th p.2.1, q9sh th p.2.2.1, n + i)))
noncomputable def q9ruN (q : q9RUD) (n : Nat) (th : List q9AV) : List (Nat × q9AV × q9AV × Nat) := (List.range (q9ln9 q.2.2.2.2.2.1)).filterMap (fun i => ((q9ge9 q.2.2.2.2.2.1 (i))).map (fun p => (p.1, q9sh th p.2.1, q9sh th p.2.2.1, n + i)))
theorem q9ruN_oq : @q9ruN = @q9ruN_o := by
  delta q9ruN q9ruN_o
  simp only [q9ge9_eq, q9fi9_eq, q9an9_eq, q9al9_eq, q9flt9_eq, q9el9_eq, q9set9_eq, q9ln9_eq, q9gD9_eq, q9ap9_eq, q9eq9_N, q9eq9_I, q9eq9_A, q9eq9_E, q9eq9_OI, q9eq9_ON, q9eq9_OA, q9eq9_L, q9eq9_S, q9de9_N, q9de9_I, q9de9_A, q9le9_N, q9le9_I, q9lt9_N, q9lt9_I, q9de9_E, q9de9_OI, q9de9_ON, q9de9_OA, q9de9_L, q9nd9_eq, q9or9_eq, Bool.cond_decide]
noncomputable def q9ruX (q : q9RUD) (th : List q9AV) : List (Nat × q9AV × q9AV × Nat) := q.2.2.2.2.2.2.1.map (fun p => (p.1, q9sh th p.2.1, q9sh th p.2.2.1, (q9sh th p.2.2.2).1))
noncomputable def q9ruC (q : q9RUD) (th : List q9AV) : List (Nat × Nat × Int) := q.2.2.2.2.2.2.2.map (fun p => ((q9sh th p.1).1, (q9sh th p.2.1).1, (q9sh th p.2.1).2 + p.2.2 - (q9sh th p.1).2))
noncomputable def q9ruB_o (q : q9RUD) (E : List q9ET) (L : Nat) (th : List q9AV) : Bool :=
  q.2.2.2.2.2.1.all (fun p => decide (p.2.1.1 < L) && decide (p.2.2.1.1 < L)) &&
  (q.2.2.2.2.2.2.1.all (fun p => decide (p.2.1.1 < L) && (decide (p.2.2.1.1 < L) && (decide (p.2.2.2.1 < L) && decide ((q9sh th p.2.2.2).2 = 0)))) &&
  q.2.2.2.2.2.2.2.all (fun p => decide (p.1.1 < L) && (decide (p.2.1.1 < L) && (q9okAV E (q9sh th p.1) && (q9okAV E (q9sh th p.2.1) && ((q9num E (q9sh th p.1)).isSome && (q9num E (q9sh th p.2.1)).isSome))))))
noncomputable def q9ruB (q : q9RUD) (E : List q9ET) (L : Nat) (th : List q9AV) : Bool :=
  q9nd9 (q9al9 q.2.2.2.2.2.1 (fun p => q9nd9 ((q9lt9 (p.2.1.1) (L))) ((q9lt9 (p.2.2.1.1) (L))))) ((q9nd9 (q9al9 q.2.2.2.2.2.2.1 (fun p => q9nd9 ((q9lt9 (p.2.1.1) (L))) ((q9nd9 ((q9lt9 (p.2.2.1.1) (L))) ((q9nd9 ((q9lt9 (p.2.2.2.1) (L))) ((q9de9 ((q9sh th p.2.2.2).2) (0))))))))) (q9al9 q.2.2.2.2.2.2.2 (fun p => q9nd9 ((q9lt9 (p.1.1) (L))) ((q9nd9 ((q9lt9 (p.2.1.1) (L))) ((q9nd9 (q9okAV E (q9sh th p.1)) ((q9nd9 (q9okAV E (q9sh th p.2.1)) ((q9nd9 ((q9num E (q9sh th p.1)).isSome) ((q9num E (q9sh th p.2.1)).isSome)))))))))))))
theorem q9ruB_oq : @q9ruB = @q9ruB_o := by
  delta q9ruB q9ruB_o
  simp only [q9ge9_eq, q9fi9_eq, q9an9_eq, q9al9_eq, q9flt9_eq, q9el9_eq, q9set9_eq, q9ln9_eq, q9gD9_eq, q9ap9_eq, q9eq9_N, q9eq9_I, q9eq9_A, q9eq9_E, q9eq9_OI, q9eq9_ON, q9eq9_OA, q9eq9_L, q9eq9_S, q9de9_N, q9de9_I, q9de9_A, q9le9_N, q9le9_I, q9lt9_N, q9lt9_I, q9de9_E, q9de9_OI, q9de9_ON, q9de9_OA, q9de9_L, q9nd9_eq, q9or9_eq, Bool.cond_decide]
noncomputable def q9ruR_o (q : q9RUD) (as : List q9AV) : q9RF := fun x =>
  if q9zeroB x = true ∧ q9argK x q.1 as = true ∧ q.2.1.all (fun p => q9hasX x p.1 (q9sh ((0, 0) :: as) p.2.1) (q9sh ((0, 0) :: as) p.2.2.1) (q9sh ((0, 0) :: as) p.2.2.2)) = true ∧
    q.2.2.1.all (fun p => q9okAV (q9tE x) (q9sh ((0, 0) :: as) p.1) && (q9okAV (q9tE x) (q9sh ((0, 0) :: as) p.2.1) && q9leB x (q9sh ((0, 0) :: as) p.1) (q9sh ((0, 0) :: as) p.2.1) p.2.2)) = true ∧
    q.2.2.2.1.all (fun p => q9valX x p.1 (q9sh ((0, 0) :: as) p.2.1) (q9sh ((0, 0) :: as) p.2.2.1) p.2.2.2) = true ∧
    q.2.2.2.2.1.all (fun p => q9rngB x (((0, 0) :: as : List q9AV).getD p.1 (0, 0)) p.2) = true ∧
    q9ruB q (q9tE x ++ q.2.2.2.2.2.1.map (fun p => p.2.2.2)) (as.length + 1 + q.2.2.2.2.2.1.length) (q9ruT (q9tE x).length as q.2.2.2.2.2.1.length) = true then
    q9thenP (q9syC (q9ruC q (q9ruT (q9tE x).length as q.2.2.2.2.2.1.length))) (q9addS x (q.2.2.2.2.2.1.map (fun p => p.2.2.2)) [] [] (q9ruC q (q9ruT (q9tE x).length as q.2.2.2.2.2.1.length)) (q9ruN q (q9tE x).length (q9ruT (q9tE x).length as q.2.2.2.2.2.1.length) ++ q9ruX q (q9ruT (q9tE x).length as q.2.2.2.2.2.1.length))) else none
noncomputable def q9ruR (q : q9RUD) (as : List q9AV) : q9RF := fun x =>
  if q9zeroB x = true ∧ q9argK x q.1 as = true ∧ q9al9 q.2.1 (fun p => q9hasX x p.1 (q9sh ((0, 0) :: as) p.2.1) (q9sh ((0, 0) :: as) p.2.2.1) (q9sh ((0, 0) :: as) p.2.2.2)) = true ∧
    q9al9 q.2.2.1 (fun p => q9nd9 (q9okAV (q9tE x) (q9sh ((0, 0) :: as) p.1)) ((q9nd9 (q9okAV (q9tE x) (q9sh ((0, 0) :: as) p.2.1)) (q9leB x (q9sh ((0, 0) :: as) p.1) (q9sh ((0, 0) :: as) p.2.1) p.2.2)))) = true ∧
    q9al9 q.2.2.2.1 (fun p => q9valX x p.1 (q9sh ((0, 0) :: as) p.2.1) (q9sh ((0, 0) :: as) p.2.2.1) p.2.2.2) = true ∧
    q9al9 q.2.2.2.2.1 (fun p => q9rngB x (q9gD9 ((0, 0) :: as : List q9AV) p.1 (0, 0)) p.2) = true ∧
    q9ruB q ((q9ap9 (q9tE x) (q.2.2.2.2.2.1.map (fun p => p.2.2.2)))) ((q9ln9 as) + 1 + (q9ln9 q.2.2.2.2.2.1)) (q9ruT (q9ln9 (q9tE x)) as (q9ln9 q.2.2.2.2.2.1)) = true then
    q9thenP (q9syC (q9ruC q (q9ruT (q9ln9 (q9tE x)) as (q9ln9 q.2.2.2.2.2.1)))) (q9addS x (q.2.2.2.2.2.1.map (fun p => p.2.2.2)) [] [] (q9ruC q (q9ruT (q9ln9 (q9tE x)) as (q9ln9 q.2.2.2.2.2.1))) ((q9ap9 (q9ruN q (q9ln9 (q9tE x)) (q9ruT (q9ln9 (q9tE x)) as (q9ln9 q.2.2.2.2.2.1))) (q9ruX q (q9ruT (q9ln9 (q9tE x)) as (q9ln9 q.2.2.2.2.2.1)))))) else none
theorem q9ruR_oq : @q9ruR = @q9ruR_o := by
  delta q9ruR q9ruR_o
  simp only [q9ge9_eq, q9fi9_eq, q9an9_eq, q9al9_eq, q9flt9_eq, q9el9_eq, q9set9_eq, q9ln9_eq, q9gD9_eq, q9ap9_eq, q9eq9_N, q9eq9_I, q9eq9_A, q9eq9_E, q9eq9_OI, q9eq9_ON, q9eq9_OA, q9eq9_L, q9eq9_S, q9de9_N, q9de9_I, q9de9_A, q9le9_N, q9le9_I, q9lt9_N, q9lt9_I, q9de9_E, q9de9_OI, q9de9_ON, q9de9_OA, q9de9_L, q9nd9_eq, q9or9_eq, Bool.cond_decide]
theorem q9ruR_ok {q : q9RUD} (hq : q ∈ q9RULES) (as : List q9AV) : q9RFok O (q9ruR q as) := by
  intro nL g cT A x r G ws ls st xs hw hM hT hD h
  (rewrite [q9ruR_oq] at h; unfold q9ruR_o at h)
  split at h
  · rename_i hc
    obtain ⟨c1, c2, c3, c4, c5, c6, c7⟩ := hc
    obtain ⟨hl, k1, k2⟩ := q9argK_ok hM q.1 as c2
    have w0 : q9rh r ((0, 0) :: as) 0 = .int 0 := q9zero_ev0 hM.2.2.2.1 (q9zero_at c1)
    have wA : ∀ i k : Nat, q.1[i]? = some k → q9tyN (q9kdT k) (q9rh r ((0, 0) :: as) (i + 1)) := k1
    have wX : ∀ p ∈ q.2.1, q9exo O.1 p.1 (q9ev (q9rh r ((0, 0) :: as)) p.2.1) (q9ev (q9rh r ((0, 0) :: as)) p.2.2.1) = some (q9ev (q9rh r ((0, 0) :: as)) p.2.2.2) := fun p hp => by
      rw [q9sh_ev, q9sh_ev, q9sh_ev]
      exact q9hasX_ok hM (List.all_eq_true.mp c3 p hp)
    have wL : ∀ p ∈ q.2.2.1, q9nw (q9ev (q9rh r ((0, 0) :: as)) p.1) ≤ q9nw (q9ev (q9rh r ((0, 0) :: as)) p.2.1) + p.2.2 := fun p hp => by
      have h9 := List.all_eq_true.mp c4 p hp
      simp only [Bool.and_eq_true] at h9
      rw [q9sh_ev, q9sh_ev, q9nw_nv, q9nw_nv]
      exact q9leB_ok hM h9.1 h9.2.1 h9.2.2
    have wV : ∀ p ∈ q.2.2.2.1, q9exo O.1 p.1 (q9ev (q9rh r ((0, 0) :: as)) p.2.1) (q9ev (q9rh r ((0, 0) :: as)) p.2.2.1) = some (.int (Int32.ofInt p.2.2.2)) := fun p hp => by
      rw [q9sh_ev, q9sh_ev]
      exact q9valX_ok hM (List.all_eq_true.mp c5 p hp)
    have wR : ∀ p ∈ q.2.2.2.2.1, q9tyN p.2 (q9rh r ((0, 0) :: as) p.1) := fun p hp => q9rngB_ok hM (List.all_eq_true.mp c6 p hp)
    obtain ⟨vs, h1, h2, h3⟩ := O.2.1 q hq _ w0 wA wX wL wV wR
    have q9okT : ∀ k : Nat, q9okAV (q9tE x) (((0, 0) :: as : List q9AV).getD k (0, 0)) = true := by
      intro k
      rw [List.getD_eq_getElem?_getD]
      cases hk : ((0, 0) :: as : List q9AV)[k]? with
      | none => exact q9okZ c1 (by decide) (by decide)
      | some v =>
        rcases List.mem_cons.mp (List.mem_of_getElem? hk) with rfl | hv
        · exact q9okZ c1 (by decide) (by decide)
        · exact k2 v hv
    have key : ∀ a : q9AV, a.1 < as.length + 1 + q.2.2.2.2.2.1.length → q9ev (q9upN (q9rh r ((0, 0) :: as)) (q.1.length + 1) vs) a = q9ev (q9upL r (q9tE x).length vs) (q9sh (q9ruT (q9tE x).length as q.2.2.2.2.2.1.length) a) := by
      intro a ha
      rw [← q9sh_ev]
      refine q9ev_agree ?_
      show q9upN (q9rh r ((0, 0) :: as)) (q.1.length + 1) vs a.1 = q9ev (q9upL r (q9tE x).length vs) ((q9ruT (q9tE x).length as q.2.2.2.2.2.1.length).getD a.1 (0, 0))
      (unfold q9upN; rewrite [q9ruT_oq]; unfold q9ruT_o)
      rw [hl]
      show (if a.1 < as.length + 1 then q9ev r (((0, 0) :: as : List q9AV).getD a.1 (0, 0)) else vs.getD (a.1 - (as.length + 1)) .null) = q9ev (q9upL r (q9tE x).length vs) ((((0, 0) :: as) ++ (List.range q.2.2.2.2.2.1.length).map (fun i => ((q9tE x).length + i, (0 : Int))))[a.1]?.getD (0, 0))
      split
      · rename_i hlt
        rw [List.getElem?_append_left (by rw [List.length_cons]; exact hlt)]
        show q9ev r (((0, 0) :: as : List q9AV).getD a.1 (0, 0)) = q9ev (q9upL r (q9tE x).length vs) (((0, 0) :: as : List q9AV)[a.1]?.getD (0, 0))
        rw [← List.getD_eq_getElem?_getD]
        exact (q9upL_agr.ev (q9okT a.1)).symm
      · rename_i hlt
        rw [List.getElem?_append_right (by rw [List.length_cons]; omega), List.length_cons, List.getElem?_map, List.getElem?_range (by omega)]
        show vs.getD (a.1 - (as.length + 1)) .null = q9ev (q9upL r (q9tE x).length vs) ((q9tE x).length + (a.1 - (as.length + 1)), 0)
        rw [q9ev_zero, q9upL_at]
    have ht : ∀ (i : Nat) (t : q9ET), (q.2.2.2.2.2.1.map (fun p => p.2.2.2))[i]? = some t → q9tyV G t (vs.getD i .null) := by
      intro i t hi
      rw [List.getElem?_map] at hi
      cases hp : q.2.2.2.2.2.1[i]? with
      | none => rw [hp] at hi; cases hi
      | some p =>
        rw [hp] at hi
        cases hi
        exact q9tyN_V (h1 i p hp).1
    (rewrite [q9ruB_oq] at c7; unfold q9ruB_o at c7)
    simp only [Bool.and_eq_true, List.all_eq_true, decide_eq_true_eq] at c7
    obtain ⟨b1, b2, b3⟩ := c7
    refine q9thenP_ok hT hD (q9rf_add hM hw vs List.mem_cons_self ht q9no_mem q9no_mem (fun z hz => ?_) fun z hz => ?_) h
    · unfold q9ruC at hz
      obtain ⟨p, hp, rfl⟩ := List.mem_map.mp hz
      obtain ⟨d1, d2, d3, d4, d5, d6⟩ := b3 p hp
      have h9 := h3 p hp
      rw [key _ d1, key _ d2, q9nw_nv, q9nw_nv] at h9
      have hS : q9SAT G (q9tE x ++ q.2.2.2.2.2.1.map (fun p => p.2.2.2)) (q9upL r (q9tE x).length vs) := by
        intro k t' hk
        by_cases hlt : k < (q9tE x).length
        · rw [List.getElem?_append_left hlt] at hk
          rw [q9upL_lt hlt]
          exact hM.2.2.2.1 k t' hk
        · rw [List.getElem?_append_right (by omega)] at hk
          unfold q9upL
          rw [if_neg hlt]
          exact ht _ t' hk
      obtain ⟨⟨ka, la, ha'⟩, na⟩ := Option.isSome_iff_exists.mp d5
      obtain ⟨⟨kb, lb, hb'⟩, nb⟩ := Option.isSome_iff_exists.mp d6
      obtain ⟨-, i2, -, -⟩ := q9num_ok hS d3 na
      obtain ⟨-, j2, -, -⟩ := q9num_ok hS d4 nb
      unfold q9FCok
      dsimp only
      omega
    · rcases List.mem_append.mp hz with hz | hz
      · (rewrite [q9ruN_oq] at hz; unfold q9ruN_o at hz)
        obtain ⟨i, -, hi⟩ := List.mem_filterMap.mp hz
        cases hp : q.2.2.2.2.2.1[i]? with
        | none => rw [hp] at hi; cases hi
        | some p =>
          rw [hp] at hi
          cases hi
          obtain ⟨d1, d2⟩ := b1 p (List.mem_of_getElem? hp)
          have h9 := (h1 i p hp).2
          rw [key _ d1, key _ d2] at h9
          unfold q9EXok
          dsimp only
          rw [q9upL_at]
          exact h9
      · unfold q9ruX at hz
        obtain ⟨p, hp, rfl⟩ := List.mem_map.mp hz
        obtain ⟨d1, d2, d3, d4⟩ := b2 p hp
        have h9 := h2 p hp
        rw [key _ d1, key _ d2, key _ d3, q9isSym d4] at h9
        exact h9
  · cases h
/-! another oracle -/
noncomputable def q9amB_o (t : q9ET) : Bool := t.1 == 2 || (t.1 == 0 && (decide (-99 ≤ t.2.1) || (t.2.1 == t.2.2 && (decide (-103 ≤ t.2.1) || (t.2.1 == -121 || (t.2.1 == -130 || t.2.1 == -131))))))
noncomputable def q9amB (t : q9ET) : Bool := q9or9 (q9eq9 (t.1) (2)) ((q9nd9 (q9eq9 (t.1) (0)) ((q9or9 ((q9le9 (-99) (t.2.1))) ((q9nd9 (q9eq9 (t.2.1) (t.2.2)) ((q9or9 ((q9le9 (-103) (t.2.1))) ((q9or9 (q9eq9 (t.2.1) (-121)) ((q9or9 (q9eq9 (t.2.1) (-130)) (q9eq9 (t.2.1) (-131))))))))))))))
theorem q9amB_oq : @q9amB = @q9amB_o := by
  delta q9amB q9amB_o
  simp only [q9ge9_eq, q9fi9_eq, q9an9_eq, q9al9_eq, q9flt9_eq, q9el9_eq, q9set9_eq, q9ln9_eq, q9gD9_eq, q9ap9_eq, q9eq9_N, q9eq9_I, q9eq9_A, q9eq9_E, q9eq9_OI, q9eq9_ON, q9eq9_OA, q9eq9_L, q9eq9_S, q9de9_N, q9de9_I, q9de9_A, q9le9_N, q9le9_I, q9lt9_N, q9lt9_I, q9de9_E, q9de9_OI, q9de9_ON, q9de9_OA, q9de9_L, q9nd9_eq, q9or9_eq, Bool.cond_decide]
theorem q9am_new {O' : ORC} {G : q9GH} {ws : va_W} {r : Nat → Value} {E : List q9ET} (hS : q9SAT G E r) {q : Nat × q9AV × q9AV} {t : q9ET} (hE : E[q.1]? = some t) (hk : q9amB t = true) (hN : ∀ c : Int, (c = -130 ∨ c = -131) → t = (0, c, c) → q9FMP O c G ws (q9ev r q.2.1) (q9ev r q.2.2) → q9FMP O' c G ws (q9ev r q.2.1) (q9ev r q.2.2)) (h : q9AMok O r G ws q) : q9AMok O' r G ws q := by
  rcases h with h | h
  · exact .inl h
  · refine .inr ?_
    rcases h with h | ⟨c, c1, c2, c3⟩
    · exact .inl h
    · refine .inr ⟨c, c1, c2, ?_⟩
      have hv := hS q.1 t hE
      obtain ⟨k, lo, hi⟩ := t
      (rewrite [q9amB_oq] at hk; unfold q9amB_o at hk)
      simp only [Bool.or_eq_true, Bool.and_eq_true, beq_iff_eq, decide_eq_true_eq] at hk
      rcases hk with hk | ⟨hk, hk2⟩
      · have hk : k = 2 := hk
        subst hk
        obtain ⟨a, n, e1, -⟩ := hv
        rw [e1] at c1
        cases c1
      · have hk : k = 0 := hk
        subst hk
        obtain ⟨y, e1, e2, e3⟩ := hv
        have e2 : lo ≤ y.toInt := e2
        have e3 : y.toInt ≤ hi := e3
        rw [e1] at c1
        have c1 : some y.toInt = some c := c1
        have c1 := Option.some.inj c1
        rcases hk2 with hk2 | ⟨hk2, hk3⟩
        · have hk2 : -99 ≤ lo := hk2
          omega
        · have hk2 : lo = hi := hk2
          have hc : lo = c := by omega
          rcases hk3 with hk3 | hk3 | hk3 | hk3
          · have hk3 : -103 ≤ lo := hk3
            unfold q9FMP at c3 ⊢
            rw [if_pos (by omega)] at c3 ⊢
            exact c3
          · have hk3 : lo = -121 := hk3
            have hc9 : c = -121 := by omega
            subst hc9
            rw [q9FMP_5 (by decide)] at c3 ⊢
            exact c3
          · have hk3 : lo = -130 := hk3
            exact hN c (.inl (by omega)) (by rw [← hk2, hc]) c3
          · have hk3 : lo = -131 := hk3
            exact hN c (.inr (by omega)) (by rw [← hk2, hc]) c3
