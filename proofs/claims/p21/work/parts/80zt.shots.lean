variable {O : ORC}
/-! what is told of the shots -/
/-- a shot by its number: there is q9one below the count, none from it on -/
noncomputable def q9snE_o (a : Nat) (s : q9AV) : q9RF := fun x => match q9codeOf x a, q9num (q9tE x) s, (q9tA x).find? (fun z => q9famE (q9tE x) z.1 == some (-150) && z.2.1 == ((a, 0) : q9AV)) with
  | some 153, some (0, l, h), some z => if q9okAV (q9tE x) s = true ∧ 0 ≤ l ∧ h < 12 then
      (if q9leB x s z.2.2 (-1) = true then some [q9addS x [(2, 7, 0)] [] [(a, s, ((q9tE x).length, 0))] [] []]
       else if q9leB x z.2.2 s 0 = true then some [q9addS x [(4, 0, 0)] [] [(a, s, ((q9tE x).length, 0))] [] []] else none) else none
  | _, _, _ => none
noncomputable def q9snE (a : Nat) (s : q9AV) : q9RF := fun x => match q9codeOf x a, q9num (q9tE x) s, q9fi9 (q9tA x) (fun z => q9nd9 (q9eq9 (q9famE (q9tE x) z.1) (some (-150))) (q9eq9 (z.2.1) (((a, 0) : q9AV)))) with
  | some 153, some (0, l, h), some z => if q9okAV (q9tE x) s = true ∧ 0 ≤ l ∧ h < 12 then
      (if q9leB x s z.2.2 (-1) = true then some [q9addS x [(2, 7, 0)] [] [(a, s, ((q9ln9 (q9tE x)), 0))] [] []]
       else if q9leB x z.2.2 s 0 = true then some [q9addS x [(4, 0, 0)] [] [(a, s, ((q9ln9 (q9tE x)), 0))] [] []] else none) else none
  | _, _, _ => none
theorem q9snE_oq : @q9snE = @q9snE_o := by
  delta q9snE q9snE_o
  simp only [q9ge9_eq, q9fi9_eq, q9an9_eq, q9al9_eq, q9flt9_eq, q9el9_eq, q9set9_eq, q9ln9_eq, q9gD9_eq, q9ap9_eq, q9eq9_N, q9eq9_I, q9eq9_A, q9eq9_E, q9eq9_OI, q9eq9_ON, q9eq9_OA, q9eq9_L, q9eq9_S, q9de9_N, q9de9_I, q9de9_A, q9le9_N, q9le9_I, q9lt9_N, q9lt9_I, q9de9_E, q9de9_OI, q9de9_ON, q9de9_OA, q9de9_L, q9nd9_eq, q9or9_eq, Bool.cond_decide]
set_option maxRecDepth 100000 in
theorem q9snE_ok (a : Nat) (s : q9AV) : q9RFok O (q9snE a s) := by
  intro nL g cT A x r G ws ls st xs hw hM hT hD h
  (rewrite [q9snE_oq] at h; unfold q9snE_o at h)
  split at h
  · rename_i l hh z hcd hn hz
    split at h
    · rename_i hc
      obtain ⟨c1, c2, c3⟩ := hc
      have z1 := List.find?_some hz
      have z2 := List.mem_of_find?_eq_some hz
      simp only [Bool.and_eq_true, beq_iff_eq] at z1
      have wz := q9wf_A hw z z2
      have hN := q9fm_of hM z2 z1.1 (by decide)
      rw [q9FMP_nb, z1.2, q9ev_zero] at hN
      obtain ⟨a1, n1, f, k1, k2, k3, k4, k5, k6, k7⟩ := hN
      obtain ⟨y, y1, -, y2, y3⟩ := q9num_int hM.2.2.2.1 c1 hn
      have ey : y.toNatClampNeg = y.toInt.toNat := rfl
      have ha : a < (q9tE x).length := by
        (rewrite [q9codeOf_oq] at hcd; unfold q9codeOf_o at hcd)
        split at hcd
        · rename_i t ht
          exact (List.getElem?_eq_some_iff.mp ht).1
        · cases hcd
      obtain ⟨q, k, n', cA, w1, w2⟩ := k3
      -- the array's elements are shots
      obtain ⟨e9, v1, v2⟩ := hT.2.1 q _ _ _ w1
      rw [w2] at v1
      cases v1
      have hel : ∀ i : Nat, i < 12 → q9tyV G (3, 7, 0) (va_rf (f i)) := by
        intro i hi
        rcases v2 with ⟨hlt, -⟩ | ⟨-, K, u1, u2⟩
        · omega
        · have u1 : q9KAS[153 - 100]? = some K := u1
          rw [show q9KAS[153 - 100]? = some (5, 12, true, 3, 7, 0) from rfl] at u1
          cases u1
          obtain ⟨u3, u4, f9, u5, u6⟩ := u2
          cases u5
          have u4 : k = 12 := u4 rfl
          exact u6 i (by omega)
      split at h
      · rename_i hle
        cases h
        have l1 := q9leB_ok hM c1 wz.2.2 hle
        rw [y1, k2] at l1
        have l1 : y.toInt ≤ n1.toInt + (-1) := l1
        have hne : f y.toNatClampNeg ≠ none := fun hf => by
          have := (k6 y.toNatClampNeg (by omega)).mp hf
          omega
        have hp := hel y.toNatClampNeg (by omega)
        cases hf : f y.toNatClampNeg with
        | none => exact absurd hf hne
        | some o =>
          rw [hf] at hp
          have hp2 : q9tyV G (2, 7, 0) (.ref o) := by
            rcases hp with hp | hp
            · cases hp
            · exact hp
          refine q9rf_add hM hw [.ref o] List.mem_cons_self (q9ty_cons hp2 q9ty_nil) q9no_mem (q9one_mem (.inl ⟨a1, q, cA, n', .inr (.inr (.inr (.inr f))), y, ?_, w2, ?_, ?_⟩)) q9no_mem q9no_mem
          · show q9upL r _ _ a = _
            rw [q9upL_lt ha]
            exact k1
          · show q9ev _ s = _
            rw [q9upL_agr.ev c1]
            exact y1
          · show q9ev _ ((q9tE x).length, 0) = _
            rw [q9evU0]
            show Value.ref o = va_rf (f y.toNatClampNeg)
            rw [hf]
            rfl
      · split at h
        · rename_i hle
          cases h
          have l1 := q9leB_ok hM wz.2.2 c1 hle
          rw [y1, k2] at l1
          have l1 : n1.toInt ≤ y.toInt + 0 := l1
          have hf : f y.toNatClampNeg = none := (k6 y.toNatClampNeg (by omega)).mpr (by omega)
          refine q9rf_add hM hw [.null] List.mem_cons_self (q9ty_cons rfl q9ty_nil) q9no_mem (q9one_mem (.inl ⟨a1, q, cA, n', .inr (.inr (.inr (.inr f))), y, ?_, w2, ?_, ?_⟩)) q9no_mem q9no_mem
          · show q9upL r _ _ a = _
            rw [q9upL_lt ha]
            exact k1
          · show q9ev _ s = _
            rw [q9upL_agr.ev c1]
            exact y1
          · show q9ev _ ((q9tE x).length, 0) = _
            rw [q9evU0]
            show Value.null = va_rf (f y.toNatClampNeg)
            rw [hf]
            rfl
        · cases h
    · cases h
  · cases h
/-- twelve nothings -/
noncomputable def q9snN_o (a : Nat) (s : q9AV) : q9RF := fun x => match q9codeOf x a, q9num (q9tE x) s with
  | some 153, some (0, l, h) => if q9zeroB x = true ∧ q9okAV (q9tE x) s = true ∧ l = 0 ∧ h = 0 ∧ (List.range 12).all (fun (j : Nat) => match q9fA x a (0, (j : Int)) with
      | some v => (match (q9tE x)[v.1]? with
        | some t => t.1 == 4
        | none => false)
      | none => false) = true then some [q9addS x [(0, -150, -150)] [] [((q9tE x).length, (a, 0), s)] [] []] else none
  | _, _ => none
noncomputable def q9snN (a : Nat) (s : q9AV) : q9RF := fun x => match q9codeOf x a, q9num (q9tE x) s with
  | some 153, some (0, l, h) => if q9zeroB x = true ∧ q9okAV (q9tE x) s = true ∧ l = 0 ∧ h = 0 ∧ q9al9 (List.range 12) (fun (j : Nat) => match q9fA x a (0, (j : Int)) with
      | some v => (match (q9ge9 (q9tE x) (v.1)) with
        | some t => q9eq9 (t.1) (4)
        | none => false)
      | none => false) = true then some [q9addS x [(0, -150, -150)] [] [((q9ln9 (q9tE x)), (a, 0), s)] [] []] else none
  | _, _ => none
theorem q9snN_oq : @q9snN = @q9snN_o := by
  delta q9snN q9snN_o
  simp only [q9ge9_eq, q9fi9_eq, q9an9_eq, q9al9_eq, q9flt9_eq, q9el9_eq, q9set9_eq, q9ln9_eq, q9gD9_eq, q9ap9_eq, q9eq9_N, q9eq9_I, q9eq9_A, q9eq9_E, q9eq9_OI, q9eq9_ON, q9eq9_OA, q9eq9_L, q9eq9_S, q9de9_N, q9de9_I, q9de9_A, q9le9_N, q9le9_I, q9lt9_N, q9lt9_I, q9de9_E, q9de9_OI, q9de9_ON, q9de9_OA, q9de9_L, q9nd9_eq, q9or9_eq, Bool.cond_decide]
set_option maxRecDepth 100000 in
theorem q9snN_ok (a : Nat) (s : q9AV) : q9RFok O (q9snN a s) := by
  intro nL g cT A x r G ws ls st xs hw hM hT hD h
  (rewrite [q9snN_oq] at h; unfold q9snN_o at h)
  split at h
  · rename_i l h' hcd hsn
    split at h
    · rename_i hc
      obtain ⟨c1, c3, c4, c5, c2⟩ := hc
      subst c4
      subst c5
      cases h
      obtain ⟨us, us1, -, us2, us3⟩ := q9num_int hM.2.2.2.1 c3 hsn
      have ha : a < (q9tE x).length := by
        (rewrite [q9codeOf_oq] at hcd; unfold q9codeOf_o at hcd)
        split at hcd
        · rename_i t ht
          exact (List.getElem?_eq_some_iff.mp ht).1
        · cases hcd
      obtain ⟨b, nb, e1, m1⟩ := q9codeOf_ok hM.2.2.2.1 hcd
      obtain ⟨q, e, g1, g2, g3⟩ := hT.at m1
      rcases g3 with ⟨hh, -⟩ | ⟨-, K, u1, u2⟩
      · omega
      · have u1 : q9KAS[153 - 100]? = some K := u1
        rw [show q9KAS[153 - 100]? = some (5, 12, true, 3, 7, 0) from rfl] at u1
        cases u1
        obtain ⟨u3, u4, f, u5, u6⟩ := u2
        subst u5
        have hz0 := q9zero_at c1
        have okz : ∀ j : Nat, j < 12 → q9okAV (q9tE x) (0, (j : Int)) = true := fun j hj => by
          (rewrite [q9okAV_oq]; unfold q9okAV_o)
          dsimp only
          rw [hz0]
          simp only [if_true, Bool.and_eq_true, decide_eq_true_eq]
          omega
        have hnil : ∀ j : Nat, j < 12 → f j = none := by
          intro j hj
          have h9 := List.all_eq_true.mp c2 j (List.mem_range.mpr hj)
          split at h9
          · rename_i v hv
            have hev := q9zero_ev hM.2.2.2.1 hz0 (j : Int)
            obtain ⟨v1, v2⟩ := q9fA_ok hM hw hD hv (okz j hj) hev e1 g2
            split at h9
            · rename_i t ht
              have h4 : t.1 = 4 := by simpa using h9
              obtain ⟨tk, lo, hi⟩ := t
              have h4 : tk = 4 := h4
              subst h4
              have h5 : r v.1 = .null := hM.2.2.2.1 _ _ ht
              have h6 : q9ev r v = .null := by
                unfold q9ev
                rw [h5]
              rw [h6] at v2
              have e8 : (Int32.ofInt (j : Int)).toInt = j := Int32.toInt_ofInt_of_le (by omega) (by omega)
              have e9 : (Int32.ofInt (j : Int)).toNatClampNeg = j := by
                show (Int32.ofInt (j : Int)).toInt.toNat = j
                rw [e8]
                rfl
              rw [e9] at v2
              have v2 : Value.null = va_rf (f j) := v2
              cases hf : f j with
              | none => rfl
              | some o => rw [hf] at v2; cases v2
            · cases h9
          · cases h9
        refine q9rf_add hM hw [.int (-150)] List.mem_cons_self (q9ty_cons ⟨_, rfl, by decide, by decide⟩ q9ty_nil) q9no_mem (q9one_mem (q9fm_mk (c := -150) ?_ (by decide) ?_)) q9no_mem q9no_mem
        · show q9nV (q9upL _ _ _ (q9tE x).length) = _
          rw [q9rU0]
          rfl
        · rw [q9FMP_nb]
          refine ⟨b, us, f, ?_, ?_, ⟨q, nb, nb, cT 5, g1, g2⟩, us2, by omega, fun i hi => ⟨fun _ => ?_, fun _ => hnil i hi⟩, fun i j hi _ _ hne => absurd (hnil i hi) hne⟩
          · show q9ev _ (a, 0) = _
            rw [q9ev_zero, q9upL_lt ha]
            exact e1
          · show q9ev _ s = _
            rw [q9upL_agr.ev c3]
            exact us1
          · omega
    · cases h
  · cases h
set_option maxRecDepth 100000 in
/-- an array of twelve ints of the reference, by its symbol -/
theorem q9is_of {nL : Nat} {g : List Value} {x : q9ST} {r : Nat → Value} {G : q9GH} {ws : va_W} {ls : Array Slot} {st : List Value} (hM : q9SM O nL g x r G ws ls st) {cT : Nat → ClassId} (hT : q9tyW cT q9TBL G ws) {o cd : Nat} (h : q9codeOf x o = some cd) (h9 : cd = 198 ∨ cd = 195 ∨ cd = 196) : ∃ (a q n : Nat) (cA : ClassId) (M : Nat → Int32), r o = .ref a ∧ G[q]? = some (a, cd, n) ∧ ws[q]? = some (a, .inl (cA, n, .inl M)) ∧ q9inA G ws a cd M := by
  obtain ⟨a, n, e1, m1⟩ := q9codeOf_ok hM.2.2.2.1 h
  obtain ⟨q, e, g1, g2, g3⟩ := hT.at m1
  rcases g3 with ⟨hh, -⟩ | ⟨-, K, u1, u2⟩
  · omega
  · have u1 : q9KAS[cd - 100]? = some K := u1
    have hK : K.1 = 0 := by
      rcases h9 with h9 | h9 | h9
      · subst h9
        rw [show q9KAS[198 - 100]? = some (0, 12, true, 0, 0, 7) from rfl] at u1
        cases u1
        rfl
      · subst h9
        rw [show q9KAS[195 - 100]? = some (0, 12, true, 0, 0, 400) from rfl] at u1
        cases u1
        rfl
      · subst h9
        rw [show q9KAS[196 - 100]? = some (0, 12, true, 0, -2147483648, 2147483647) from rfl] at u1
        cases u1
        rfl
    obtain ⟨t, N, fx, et⟩ := K
    have hK : t = 0 := hK
    subst hK
    obtain ⟨-, -, M, u3, -⟩ := u2
    subst u3
    exact ⟨a, q, n, _, M, e1, g1, g2, q, n, n, _, g1, g2⟩
theorem q9pqS_rk {c : Int} {s cj rj rk : Nat} (h : q9pqS c = some (s, cj, rj, rk)) : (rk = 198 ∨ rk = 195 ∨ rk = 196) ∧ cj ≠ 1000 ∧ rj ≠ 1000 ∧ 1 ≤ s ∧ s ≤ 8000 := by
  (rewrite [q9pqS_oq] at h; unfold q9pqS_o at h)
  split at h
  · cases h
    decide
  · split at h
    · cases h
      decide
    · split at h
      · cases h
        decide
      · cases h
theorem q9pqS_196 {c : Int} {s cj rj rk : Nat} (h : q9pqS c = some (s, cj, rj, rk)) (hc : c ≠ -155) : rk ≠ 196 := by
  (rewrite [q9pqS_oq] at h; unfold q9pqS_o at h)
  split at h
  · cases h
    decide
  · split at h
    · cases h
      decide
    · cases h
/-- no shot, and the reference's numbers are nought -/
noncomputable def q9seZ_o (a o : Nat) (c : Int) : q9RF := fun x => match q9codeOf x a, q9codeOf x o, q9pqS c, (q9tA x).find? (fun z => q9famE (q9tE x) z.1 == some (-150) && (z.2.1 == ((a, 0) : q9AV) && (match q9num (q9tE x) z.2.2 with
    | some (0, _, h) => decide (h ≤ 0)
    | _ => false))) with
  | some 153, some 12, some q, some _ => (match q9fF x o q.2.2.1 with
    | some ka => if q9codeOf x ka.1 = some q.2.2.2 ∧ ka.2 = 0 ∧ q9zeroB x = true ∧ (List.range 12).all (fun (j : Nat) => match q9fA x ka.1 (0, (j : Int)) with
      | some v => (match q9num (q9tE x) v with
        | some (0, l, h) => decide (l = 0) && decide (h = 0)
        | _ => false)
      | none => false) = true then some [q9addS x [(0, c, c)] [] [((q9tE x).length, (a, 0), (0, (q.1 : Int) - 1))] [] []] else none
    | none => none)
  | _, _, _, _ => none
noncomputable def q9seZ (a o : Nat) (c : Int) : q9RF := fun x => match q9codeOf x a, q9codeOf x o, q9pqS c, q9fi9 (q9tA x) (fun z => q9nd9 (q9eq9 (q9famE (q9tE x) z.1) (some (-150))) ((q9nd9 (q9eq9 (z.2.1) (((a, 0) : q9AV))) ((match q9num (q9tE x) z.2.2 with
    | some (0, _, h) => (q9le9 (h) (0))
    | _ => false))))) with
  | some 153, some 12, some q, some _ => (match q9fF x o q.2.2.1 with
    | some ka => if q9codeOf x ka.1 = some q.2.2.2 ∧ ka.2 = 0 ∧ q9zeroB x = true ∧ q9al9 (List.range 12) (fun (j : Nat) => match q9fA x ka.1 (0, (j : Int)) with
      | some v => (match q9num (q9tE x) v with
        | some (0, l, h) => q9nd9 ((q9de9 (l) (0))) ((q9de9 (h) (0)))
        | _ => false)
      | none => false) = true then some [q9addS x [(0, c, c)] [] [((q9ln9 (q9tE x)), (a, 0), (0, (q.1 : Int) - 1))] [] []] else none
    | none => none)
  | _, _, _, _ => none
theorem q9seZ_oq : @q9seZ = @q9seZ_o := by
  delta q9seZ q9seZ_o
  simp only [q9ge9_eq, q9fi9_eq, q9an9_eq, q9al9_eq, q9flt9_eq, q9el9_eq, q9set9_eq, q9ln9_eq, q9gD9_eq, q9ap9_eq, q9eq9_N, q9eq9_I, q9eq9_A, q9eq9_E, q9eq9_OI, q9eq9_ON, q9eq9_OA, q9eq9_L, q9eq9_S, q9de9_N, q9de9_I, q9de9_A, q9le9_N, q9le9_I, q9lt9_N, q9lt9_I, q9de9_E, q9de9_OI, q9de9_ON, q9de9_OA, q9de9_L, q9nd9_eq, q9or9_eq, Bool.cond_decide]
theorem q9seZ_ok (a o : Nat) (c : Int) : q9RFok O (q9seZ a o c) := by
  intro nL g cT A x r G ws ls st xs hw hM hT hD h
  (rewrite [q9seZ_oq] at h; unfold q9seZ_o at h)
  split at h
  · rename_i q z hca hco hq hz
    obtain ⟨s, cj, rj, rk⟩ := q
    split at h
    · rename_i ka hka
      split at h
      · rename_i hc
        obtain ⟨c1, c2, c3, c4⟩ := hc
        have c1 : q9codeOf x ka.1 = some rk := c1
        have hka : q9fF x o rj = some ka := hka
        cases h
        obtain ⟨p1, p2⟩ := q9pqS_ok hq
        obtain ⟨r1, r2, r3, r4, r5⟩ := q9pqS_rk hq
        have z1 := List.find?_some hz
        have z2 := List.mem_of_find?_eq_some hz
        simp only [Bool.and_eq_true, beq_iff_eq] at z1
        obtain ⟨z3, z4, z5⟩ := z1
        have wz := q9wf_A hw z z2
        have hN := q9fm_of hM z2 z3 (by decide)
        rw [q9FMP_nb, z4, q9ev_zero] at hN
        obtain ⟨a1, n1, f, k1, k2, k3, k4, k5, k6, k7⟩ := hN
        have hn0 : n1.toInt ≤ 0 := by
          split at z5
          · rename_i l h' hn
            rw [decide_eq_true_eq] at z5
            obtain ⟨u, u1, -, u2, u3⟩ := q9num_int hM.2.2.2.1 wz.2.2 hn
            rw [k2] at u1
            cases u1
            omega
          · cases z5
        have hnil : ∀ i : Nat, i < 12 → f i = none := fun i hi => (k6 i hi).mpr (by omega)
        obtain ⟨m, fs, m1, m2⟩ := q9ob_of hM hT hco (by decide)
        have hfl := q9fl_at hM hD (q9fF_ok hka) r3 m1 m2
        obtain ⟨b, qb, nb, cA, M, b1, b2, b3, b4⟩ := q9is_of hM hT c1 r1
        have hkv : q9ev r ka = .ref b := by
          unfold q9ev
          rw [b1]
        rw [hkv] at hfl
        have hz0 := q9zero_at c3
        have hM0 : ∀ j : Nat, j < 12 → M j = 0 := by
          intro j hj
          have h9 := List.all_eq_true.mp c4 j (List.mem_range.mpr hj)
          split at h9
          · rename_i v hv
            have hev := q9zero_ev hM.2.2.2.1 hz0 (j : Int)
            obtain ⟨v1, v2⟩ := q9fA_ok hM hw hD hv (q9okZ c3 (by omega) (by omega)) hev b1 b3
            split at h9
            · rename_i l h' hn
              rw [Bool.and_eq_true, decide_eq_true_eq, decide_eq_true_eq] at h9
              obtain ⟨u, u1, -, u2, u3⟩ := q9num_int hM.2.2.2.1 v1 hn
              have e8 : (Int32.ofInt (j : Int)).toInt = j := Int32.toInt_ofInt_of_le (by omega) (by omega)
              have e9 : (Int32.ofInt (j : Int)).toNatClampNeg = j := by
                show (Int32.ofInt (j : Int)).toInt.toNat = j
                rw [e8]
                rfl
              rw [e9, u1] at v2
              have v2 : Value.int u = .int (M j) := v2
              cases v2
              exact Int32.toInt_inj.mp (by rw [Int32.toInt_zero]; omega)
            · cases h9
          · cases h9
        have ha := q9codeOf_lt hca
        have hcr : -2147483648 ≤ c ∧ c ≤ 2147483647 := by
          (rewrite [q9pqS_oq] at hq; unfold q9pqS_o at hq)
          split at hq
          · rename_i hc9
            omega
          · split at hq
            · rename_i hc9
              omega
            · split at hq
              · rename_i hc9
                omega
              · cases hq
        refine q9rf_add hM hw [.int (Int32.ofInt c)] List.mem_cons_self (q9ty_cons ⟨_, rfl, by rw [q9ofInt_toInt32 hcr.1 hcr.2]; exact Int.le_refl _, by rw [q9ofInt_toInt32 hcr.1 hcr.2]; exact Int.le_refl _⟩ q9ty_nil) q9no_mem (q9one_mem (q9fm_mk (c := c) ?_ p1 ?_)) q9no_mem q9no_mem
        · show q9nV (q9upL _ _ _ (q9tE x).length) = _
          rw [q9rU0]
          show some (Int32.ofInt c).toInt = _
          rw [q9ofInt_toInt32 hcr.1 hcr.2]
        · rw [p2]
          refine ⟨a1, Int32.ofInt ((s : Int) - 1), f, m, fs, b, M, ?_, ?_, k3, m2, hfl, b4, fun i hi _ => ⟨fun _ => hM0 i hi, fun o9 ho => by rw [hnil i hi] at ho; cases ho⟩⟩
          · show q9ev _ (a, 0) = _
            rw [q9ev_zero, q9upL_lt ha]
            exact k1
          · show q9ev _ (0, (s : Int) - 1) = _
            rw [q9upL_agr.ev (q9okZ c3 (by omega) (by omega))]
            exact q9zero_ev hM.2.2.2.1 hz0 _
      · cases h
    · cases h
  · cases h
/-- all but q9one -/
noncomputable def q9seO_o (a : Nat) (s : q9AV) (c : Int) : q9RF := fun x => match q9pqS c, q9num (q9tE x) s with
  | some q, some (0, l, h) => (match (q9tA x).find? (fun z => q9famE (q9tE x) z.1 == some c && (z.2.1 == ((a, 0) : q9AV) && (match q9num (q9tE x) z.2.2 with
      | some (0, l, h) => decide (l = (q.1 : Int) - 1) && decide (h = (q.1 : Int) - 1)
      | _ => false))) with
    | some z => if q9okAV (q9tE x) s = true ∧ 0 ≤ l ∧ h < 12 ∧ q9okAV (q9tE x) (s.1, s.2 + q.1) = true then some [q9addS x [] [] [(z.1, (a, 0), (s.1, s.2 + (q.1 : Int)))] [] []] else none
    | none => none)
  | _, _ => none
noncomputable def q9seO (a : Nat) (s : q9AV) (c : Int) : q9RF := fun x => match q9pqS c, q9num (q9tE x) s with
  | some q, some (0, l, h) => (match q9fi9 (q9tA x) (fun z => q9nd9 (q9eq9 (q9famE (q9tE x) z.1) (some c)) ((q9nd9 (q9eq9 (z.2.1) (((a, 0) : q9AV))) ((match q9num (q9tE x) z.2.2 with
      | some (0, l, h) => q9nd9 ((q9de9 (l) ((q.1 : Int) - 1))) ((q9de9 (h) ((q.1 : Int) - 1)))
      | _ => false))))) with
    | some z => if q9okAV (q9tE x) s = true ∧ 0 ≤ l ∧ h < 12 ∧ q9okAV (q9tE x) (s.1, s.2 + q.1) = true then some [q9addS x [] [] [(z.1, (a, 0), (s.1, s.2 + (q.1 : Int)))] [] []] else none
    | none => none)
  | _, _ => none
theorem q9seO_oq : @q9seO = @q9seO_o := by
  delta q9seO q9seO_o
  simp only [q9ge9_eq, q9fi9_eq, q9an9_eq, q9al9_eq, q9flt9_eq, q9el9_eq, q9set9_eq, q9ln9_eq, q9gD9_eq, q9ap9_eq, q9eq9_N, q9eq9_I, q9eq9_A, q9eq9_E, q9eq9_OI, q9eq9_ON, q9eq9_OA, q9eq9_L, q9eq9_S, q9de9_N, q9de9_I, q9de9_A, q9le9_N, q9le9_I, q9lt9_N, q9lt9_I, q9de9_E, q9de9_OI, q9de9_ON, q9de9_OA, q9de9_L, q9nd9_eq, q9or9_eq, Bool.cond_decide]
theorem q9seO_ok (a : Nat) (s : q9AV) (c : Int) : q9RFok O (q9seO a s c) := by
  intro nL g cT A x r G ws ls st xs hw hM hT hD h
  (rewrite [q9seO_oq] at h; unfold q9seO_o at h)
  split at h
  · rename_i q l hh hq hn
    obtain ⟨sf, cj, rj, rk⟩ := q
    split at h
    · rename_i z hz
      split at h
      · rename_i hc
        obtain ⟨c1, c2, c3, c4⟩ := hc
        have c4 : q9okAV (q9tE x) (s.1, s.2 + (sf : Int)) = true := c4
        cases h
        obtain ⟨p1, p2⟩ := q9pqS_ok hq
        have z1 := List.find?_some hz
        have z2 := List.mem_of_find?_eq_some hz
        simp only [Bool.and_eq_true, beq_iff_eq] at z1
        obtain ⟨z3, z4, z5⟩ := z1
        have wz := q9wf_A hw z z2
        have hP := q9fm_of hM z2 z3 p1
        rw [p2] at hP
        obtain ⟨a0, p, f, m, fs, b, M, e1, e2, e3, e4, e5, e6, e7⟩ := hP
        have hp0 : p.toInt = (sf : Int) - 1 := by
          split at z5
          · rename_i l9 h9 hn9
            rw [Bool.and_eq_true, decide_eq_true_eq, decide_eq_true_eq] at z5
            obtain ⟨u, u1, -, u2, u3⟩ := q9num_int hM.2.2.2.1 wz.2.2 hn9
            rw [e2] at u1
            cases u1
            omega
          · cases z5
        obtain ⟨u, u1, u9, u2, u3⟩ := q9num_int hM.2.2.2.1 c4 (q9num_sh hn)
        refine q9rf_add hM hw [] List.mem_cons_self q9ty_nil q9no_mem (q9one_mem (q9fm_mk (c := c) ?_ p1 ?_)) q9no_mem q9no_mem
        · show q9nV (q9upL _ _ _ z.1) = _
          rw [q9upL_lt wz.1]
          exact q9famE_ok hM.2.2.2.1 z3 p1
        · rw [p2]
          refine ⟨a0, u, f, m, fs, b, M, ?_, ?_, e3, e4, e5, e6, fun i hi _ => e7 i hi (by omega)⟩
          · show q9ev _ (a, 0) = _
            rw [← z4, q9upL_agr.ev wz.2.1]
            exact e1
          · show q9ev _ (s.1, s.2 + (sf : Int)) = _
            rw [q9upL_agr.ev c4]
            exact u1
      · cases h
    · cases h
  · cases h
/-- the q9one as well -/
noncomputable def q9seJ_o (a o : Nat) (s : q9AV) (c : Int) : q9RF := fun x => match q9pqS c, q9codeOf x o, q9num (q9tE x) s, q9fA x a s with
  | some q, some 12, some (0, l, h), some bd => (match q9fF x bd.1 q.2.1, q9fF x o q.2.2.1, (q9tA x).find? (fun z => q9famE (q9tE x) z.1 == some c && (z.2.1 == ((a, 0) : q9AV) && (q9leB x s z.2.2 (-(q.1 : Int)) && q9leB x z.2.2 s q.1))) with
    | some v1, some ka, some z => (match q9fA x ka.1 s with
      | some v2 => if q9okAV (q9tE x) s = true ∧ 0 ≤ l ∧ h < 12 ∧ q9codeOf x bd.1 = some 7 ∧ q9codeOf x ka.1 = some q.2.2.2 ∧ q9eqV x v1 v2 = true ∧ q9zeroB x = true ∧ q9codeOf x a = some 153 ∧ (c ≠ -155 ∨ q9rgB x v1 0 255 = true) then some [q9addS x [] [] [(z.1, (a, 0), (0, (q.1 : Int) - 1))] [] []] else none
      | none => none)
    | _, _, _ => none)
  | _, _, _, _ => none
noncomputable def q9seJ (a o : Nat) (s : q9AV) (c : Int) : q9RF := fun x => match q9pqS c, q9codeOf x o, q9num (q9tE x) s, q9fA x a s with
  | some q, some 12, some (0, l, h), some bd => (match q9fF x bd.1 q.2.1, q9fF x o q.2.2.1, q9fi9 (q9tA x) (fun z => q9nd9 (q9eq9 (q9famE (q9tE x) z.1) (some c)) ((q9nd9 (q9eq9 (z.2.1) (((a, 0) : q9AV))) ((q9nd9 (q9leB x s z.2.2 (-(q.1 : Int))) (q9leB x z.2.2 s q.1)))))) with
    | some v1, some ka, some z => (match q9fA x ka.1 s with
      | some v2 => if q9okAV (q9tE x) s = true ∧ 0 ≤ l ∧ h < 12 ∧ q9codeOf x bd.1 = some 7 ∧ q9codeOf x ka.1 = some q.2.2.2 ∧ q9eqV x v1 v2 = true ∧ q9zeroB x = true ∧ q9codeOf x a = some 153 ∧ (c ≠ -155 ∨ q9rgB x v1 0 255 = true) then some [q9addS x [] [] [(z.1, (a, 0), (0, (q.1 : Int) - 1))] [] []] else none
      | none => none)
    | _, _, _ => none)
  | _, _, _, _ => none
theorem q9seJ_oq : @q9seJ = @q9seJ_o := by
  delta q9seJ q9seJ_o
  simp only [q9ge9_eq, q9fi9_eq, q9an9_eq, q9al9_eq, q9flt9_eq, q9el9_eq, q9set9_eq, q9ln9_eq, q9gD9_eq, q9ap9_eq, q9eq9_N, q9eq9_I, q9eq9_A, q9eq9_E, q9eq9_OI, q9eq9_ON, q9eq9_OA, q9eq9_L, q9eq9_S, q9de9_N, q9de9_I, q9de9_A, q9le9_N, q9le9_I, q9lt9_N, q9lt9_I, q9de9_E, q9de9_OI, q9de9_ON, q9de9_OA, q9de9_L, q9nd9_eq, q9or9_eq, Bool.cond_decide]
theorem q9seJ_ok (a o : Nat) (s : q9AV) (c : Int) : q9RFok O (q9seJ a o s c) := by
  intro nL g cT A x r G ws ls st xs hw hM hT hD h
  (rewrite [q9seJ_oq] at h; unfold q9seJ_o at h)
  split at h
  · rename_i q l hh bd hq hco hn hbd
    obtain ⟨sf, cj, rj, rk⟩ := q
    split at h
    · rename_i v1 ka z hv1 hka hz
      split at h
      · rename_i v2 hv2
        split at h
        · rename_i hc
          obtain ⟨c1, c2, c3, c4, c5, c6, c7, q9c8, c9⟩ := hc
          have c5 : q9codeOf x ka.1 = some rk := c5
          have hv1 : q9fF x bd.1 cj = some v1 := hv1
          have hka : q9fF x o rj = some ka := hka
          cases h
          obtain ⟨p1, p2⟩ := q9pqS_ok hq
          obtain ⟨r1, r2, r3, r4, r5⟩ := q9pqS_rk hq
          have z1 := List.find?_some hz
          have z2 := List.mem_of_find?_eq_some hz
          simp only [Bool.and_eq_true, beq_iff_eq] at z1
          obtain ⟨z3, z4, z5, z6⟩ := z1
          have wz := q9wf_A hw z z2
          have hP := q9fm_of hM z2 z3 p1
          rw [p2] at hP
          obtain ⟨a0, p, f, m, fs, b, M, e1, e2, e3, e4, e5, e6, e7⟩ := hP
          have e3' := e3
          obtain ⟨qa, ka9, na9, cA9, w1, w2⟩ := e3'
          have hra : r a = .ref a0 := by
            rw [z4, q9ev_zero] at e1
            exact e1
          obtain ⟨y, y1, -, y2, y3⟩ := q9num_int hM.2.2.2.1 c1 hn
          have ey : y.toNatClampNeg = y.toInt.toNat := rfl
          have l1 := q9leB_ok hM c1 wz.2.2 z5
          have l2 := q9leB_ok hM wz.2.2 c1 z6
          rw [y1, e2] at l1
          rw [y1, e2] at l2
          have l1 : y.toInt ≤ p.toInt + -(sf : Int) := l1
          have l2 : p.toInt ≤ y.toInt + sf := l2
          -- the puppet
          obtain ⟨-, bd2⟩ := q9fA_ok hM hw hD hbd c1 y1 hra w2
          obtain ⟨ob, gs, g1, g2⟩ := q9ob_of hM hT c4 (by decide)
          have hbr : q9ev r bd = .ref ob := by
            unfold q9ev
            rw [g1]
          rw [hbr] at bd2
          have bd2 : Value.ref ob = va_rf (f y.toNatClampNeg) := bd2
          have hfo := q9va_rf_ref bd2.symm
          have hg3 := q9fl_at hM hD (q9fF_ok hv1) r2 g1 g2
          -- the reference's
          obtain ⟨m', fs', m1, m2⟩ := q9ob_of hM hT hco (by decide)
          have hmm : m' = m ∧ fs' = fs := by
            obtain ⟨q1, n1, x1, x2⟩ := m2
            obtain ⟨q2, n2, x3, x4⟩ := e4
            have := hT.2.2 q1 q2 m' m n1 n2 x1 x3
            subst this
            have hqq : q1 = q2 := hD.1 q1 q2 _ _ x2 x4 rfl
            subst hqq
            rw [x2] at x4
            cases x4
            exact ⟨rfl, rfl⟩
          obtain ⟨rfl, rfl⟩ := hmm
          have hfl := q9fl_at hM hD (q9fF_ok hka) r3 m1 m2
          obtain ⟨b', qb, nb, cA, M', b1, b2, b3, b4⟩ := q9is_of hM hT c5 r1
          have hkv : q9ev r ka = .ref b' := by
            unfold q9ev
            rw [b1]
          rw [hkv, e5] at hfl
          have hbb : b = b' := by
            cases hfl
            rfl
          subst hbb
          have hMM : M = M' := q9inA.one hD e6 b4
          subst hMM
          obtain ⟨-, w9⟩ := q9fA_ok hM hw hD hv2 c1 y1 b1 b3
          have w9 : q9ev r v2 = .int (M y.toNatClampNeg) := w9
          have hr9 : rk ≠ 196 ∨ (0 ≤ (M y.toNatClampNeg).toInt ∧ (M y.toNatClampNeg).toInt ≤ 255) := by
            rcases c9 with c9 | c9
            · exact .inl (q9pqS_196 hq c9)
            · obtain ⟨-, u, u1, u2, u3⟩ := q9rgB_ok hM c9
              rw [q9eqV_ok hM c6, w9] at u1
              cases u1
              exact .inr ⟨u2, u3⟩
          rw [q9eqV_ok hM c6, w9] at hg3
          refine q9rf_add hM hw [] List.mem_cons_self q9ty_nil q9no_mem (q9one_mem (q9fm_mk (c := c) ?_ p1 ?_)) q9no_mem q9no_mem
          · show q9nV (q9upL _ _ _ z.1) = _
            rw [q9upL_lt wz.1]
            exact q9famE_ok hM.2.2.2.1 z3 p1
          · rw [p2]
            refine ⟨a0, Int32.ofInt ((sf : Int) - 1), f, _, _, b, M, ?_, ?_, e3, e4, e5, e6, fun i hi _ => ?_⟩
            · show q9ev _ (a, 0) = _
              rw [q9ev_zero, q9upL_lt (q9codeOf_lt q9c8)]
              exact hra
            · show q9ev _ (0, (sf : Int) - 1) = _
              rw [q9upL_agr.ev (q9okZ c7 (by omega) (by omega))]
              exact q9zero_ev hM.2.2.2.1 (q9zero_at c7) _
            · by_cases hip : (i : Int) = p.toInt - sf
              rotate_left
              · exact e7 i hi hip
              · have hiy : i = y.toNatClampNeg := by omega
                subst hiy
                refine ⟨fun hf => ?_, fun o9 ho => ?_⟩
                · rw [hfo] at hf
                  cases hf
                · rw [hfo] at ho
                  cases ho
                  exact ⟨gs, _, g2, hg3, q9eqC9_rf hr9⟩
        · cases h
      · cases h
    · cases h
  · cases h
/-- the number, on both sides -/
noncomputable def q9seL_o (a o : Nat) (s : q9AV) (c : Int) : q9RF := fun x => match q9pqS c, q9codeOf x o, q9num (q9tE x) s, q9fA x a s with
  | some q, some 12, some (0, l, h), some bd => (match q9fF x o q.2.2.1, q9KAS[q.2.2.2 - 100]?, (q9tA x).find? (fun z => q9famE (q9tE x) z.1 == some c && (z.2.1 == ((a, 0) : q9AV) && (match q9num (q9tE x) z.2.2 with
      | some (0, l, h) => decide (l = (q.1 : Int) - 1) && decide (h = (q.1 : Int) - 1)
      | _ => false))) with
    | some ka, some (0, 12, true, 0, lo, hi), some _ => if q9okAV (q9tE x) s = true ∧ 0 ≤ l ∧ h < 12 ∧ q9codeOf x bd.1 = some 7 ∧ q9codeOf x ka.1 = some q.2.2.2 ∧ ka.2 = 0 ∧ c ≠ -155 then some [q9addS x [(0, lo, hi)] [(bd.1, q.2.1, ((q9tE x).length, 0))] [(ka.1, s, ((q9tE x).length, 0))] [] []] else none
    | _, _, _ => none)
  | _, _, _, _ => none
noncomputable def q9seL (a o : Nat) (s : q9AV) (c : Int) : q9RF := fun x => match q9pqS c, q9codeOf x o, q9num (q9tE x) s, q9fA x a s with
  | some q, some 12, some (0, l, h), some bd => (match q9fF x o q.2.2.1, (q9ge9 q9KAS (q.2.2.2 - 100)), q9fi9 (q9tA x) (fun z => q9nd9 (q9eq9 (q9famE (q9tE x) z.1) (some c)) ((q9nd9 (q9eq9 (z.2.1) (((a, 0) : q9AV))) ((match q9num (q9tE x) z.2.2 with
      | some (0, l, h) => q9nd9 ((q9de9 (l) ((q.1 : Int) - 1))) ((q9de9 (h) ((q.1 : Int) - 1)))
      | _ => false))))) with
    | some ka, some (0, 12, true, 0, lo, hi), some _ => if q9okAV (q9tE x) s = true ∧ 0 ≤ l ∧ h < 12 ∧ q9codeOf x bd.1 = some 7 ∧ q9codeOf x ka.1 = some q.2.2.2 ∧ ka.2 = 0 ∧ c ≠ -155 then some [q9addS x [(0, lo, hi)] [(bd.1, q.2.1, ((q9ln9 (q9tE x)), 0))] [(ka.1, s, ((q9ln9 (q9tE x)), 0))] [] []] else none
    | _, _, _ => none)
  | _, _, _, _ => none
theorem q9seL_oq : @q9seL = @q9seL_o := by
  delta q9seL q9seL_o
  simp only [q9ge9_eq, q9fi9_eq, q9an9_eq, q9al9_eq, q9flt9_eq, q9el9_eq, q9set9_eq, q9ln9_eq, q9gD9_eq, q9ap9_eq, q9eq9_N, q9eq9_I, q9eq9_A, q9eq9_E, q9eq9_OI, q9eq9_ON, q9eq9_OA, q9eq9_L, q9eq9_S, q9de9_N, q9de9_I, q9de9_A, q9le9_N, q9le9_I, q9lt9_N, q9lt9_I, q9de9_E, q9de9_OI, q9de9_ON, q9de9_OA, q9de9_L, q9nd9_eq, q9or9_eq, Bool.cond_decide]
theorem q9seL_ok (a o : Nat) (s : q9AV) (c : Int) : q9RFok O (q9seL a o s c) := by
  intro nL g cT A x r G ws ls st xs hw hM hT hD h
  (rewrite [q9seL_oq] at h; unfold q9seL_o at h)
  split at h
  · rename_i q l hh bd hq hco hn hbd
    obtain ⟨sf, cj, rj, rk⟩ := q
    split at h
    · rename_i ka lo hi z hka hK hz
      split at h
      · rename_i hc
        obtain ⟨c1, c2, c3, c4, c5, c6, c55⟩ := hc
        have c5 : q9codeOf x ka.1 = some rk := c5
        have hka : q9fF x o rj = some ka := hka
        have hK : q9KAS[rk - 100]? = some (0, 12, true, 0, lo, hi) := hK
        cases h
        obtain ⟨p1, p2⟩ := q9pqS_ok hq
        obtain ⟨r1, r2, r3, r4, r5⟩ := q9pqS_rk hq
        have z1 := List.find?_some hz
        have z2 := List.mem_of_find?_eq_some hz
        simp only [Bool.and_eq_true, beq_iff_eq] at z1
        obtain ⟨z3, z4, z5⟩ := z1
        have wz := q9wf_A hw z z2
        have hP := q9fm_of hM z2 z3 p1
        rw [p2] at hP
        obtain ⟨a0, p, f, m, fs, b, M, e1, e2, e3, e4, e5, e6, e7⟩ := hP
        have hp0 : p.toInt = (sf : Int) - 1 := by
          split at z5
          · rename_i l9 h9 hn9
            rw [Bool.and_eq_true, decide_eq_true_eq, decide_eq_true_eq] at z5
            obtain ⟨u, u1, -, u2, u3⟩ := q9num_int hM.2.2.2.1 wz.2.2 hn9
            rw [e2] at u1
            cases u1
            omega
          · cases z5
        obtain ⟨qa, ka9, na9, cA9, w1, w2⟩ := e3
        have hra : r a = .ref a0 := by
          rw [z4, q9ev_zero] at e1
          exact e1
        obtain ⟨y, y1, -, y2, y3⟩ := q9num_int hM.2.2.2.1 c1 hn
        have ey : y.toNatClampNeg = y.toInt.toNat := rfl
        obtain ⟨-, bd2⟩ := q9fA_ok hM hw hD hbd c1 y1 hra w2
        obtain ⟨ob, gs, g1, g2⟩ := q9ob_of hM hT c4 (by decide)
        have hbr : q9ev r bd = .ref ob := by
          unfold q9ev
          rw [g1]
        rw [hbr] at bd2
        have bd2 : Value.ref ob = va_rf (f y.toNatClampNeg) := bd2
        have hfo := q9va_rf_ref bd2.symm
        obtain ⟨gs', u9, g3, g4, g9⟩ := (e7 y.toNatClampNeg (by omega) (by omega)).2 ob hfo
        rw [q9eqC9_eq (q9pqS_196 hq c55) g9] at g4
        obtain ⟨hgg, -⟩ := q9obA.one hD g2 g3
        subst hgg
        obtain ⟨m', fs', m1, m2⟩ := q9ob_of hM hT hco (by decide)
        have hmm : m' = m ∧ fs' = fs := by
          obtain ⟨q1, n1, x1, x2⟩ := m2
          obtain ⟨q2, n2, x3, x4⟩ := e4
          have := hT.2.2 q1 q2 m' m n1 n2 x1 x3
          subst this
          have hqq : q1 = q2 := hD.1 q1 q2 _ _ x2 x4 rfl
          subst hqq
          rw [x2] at x4
          cases x4
          exact ⟨rfl, rfl⟩
        obtain ⟨rfl, rfl⟩ := hmm
        have hfl := q9fl_at hM hD (q9fF_ok hka) r3 m1 m2
        obtain ⟨b', qb, nb, cA, M', b1, b2, b3, b4⟩ := q9is_of hM hT c5 r1
        have hkv : q9ev r ka = .ref b' := by
          unfold q9ev
          rw [b1]
        rw [hkv, e5] at hfl
        have hbb : b = b' := by
          cases hfl
          rfl
        subst hbb
        have hMM : M = M' := q9inA.one hD e6 b4
        subst hMM
        have hrg := q9omT hT hD b2 b3 hK (y := y.toNatClampNeg) (by omega)
        obtain ⟨qo, no, o1, o2⟩ := g2
        refine q9rf_add hM hw [.int (M y.toNatClampNeg)] List.mem_cons_self (q9ty_cons ⟨_, rfl, hrg.1, hrg.2⟩ q9ty_nil) (q9one_mem ?_) (q9one_mem (.inl ⟨b, qb, cA, nb, .inl M, y, ?_, b3, ?_, ?_⟩)) q9no_mem q9no_mem
        · unfold q9FMok
          rw [if_neg r2]
          refine ⟨ob, qo, 7, gs, ?_, o2, ?_⟩
          · show q9upL _ _ _ bd.1 = _
            rw [q9upL_lt (q9codeOf_lt c4)]
            exact g1
          · show gs[cj]? = some (q9ev _ ((q9tE x).length, 0))
            rw [q9evU0]
            exact g4
        · show q9upL _ _ _ ka.1 = _
          rw [q9upL_lt (q9codeOf_lt c5)]
          exact b1
        · show q9ev _ s = _
          rw [q9upL_agr.ev c1]
          exact y1
        · show q9ev _ ((q9tE x).length, 0) = _
          rw [q9evU0]
          rfl
      · cases h
    · cases h
  · cases h
/-- no shot there: the reference's number is 0 -/
noncomputable def q9seI_o (a o : Nat) (s : q9AV) (c : Int) : q9RF := fun x => match q9codeOf x a, q9codeOf x o, q9pqS c, q9num (q9tE x) s with
  | some 153, some 12, some q, some (0, l, h) => (match q9fF x o q.2.2.1 with
    | some ka => if q9codeOf x ka.1 = some q.2.2.2 ∧ ka.2 = 0 ∧ q9zeroB x = true ∧ q9okAV (q9tE x) s = true ∧ 0 ≤ l ∧ h < 12 ∧ (q9tA x).any (fun z => q9famE (q9tE x) z.1 == some c && (z.2.1 == ((a, 0) : q9AV) && (match q9num (q9tE x) z.2.2 with
        | some (0, l', h') => decide (l' = (q.1 : Int) - 1) && decide (h' = (q.1 : Int) - 1)
        | _ => false))) = true ∧ (q9tA x).any (fun z => q9famE (q9tE x) z.1 == some (-150) && (z.2.1 == ((a, 0) : q9AV) && q9leB x z.2.2 s 0)) = true then some [q9addS x [] [] [(ka.1, s, (0, 0))] [] []] else none
    | none => none)
  | _, _, _, _ => none
noncomputable def q9seI (a o : Nat) (s : q9AV) (c : Int) : q9RF := fun x => match q9codeOf x a, q9codeOf x o, q9pqS c, q9num (q9tE x) s with
  | some 153, some 12, some q, some (0, l, h) => (match q9fF x o q.2.2.1 with
    | some ka => if q9codeOf x ka.1 = some q.2.2.2 ∧ ka.2 = 0 ∧ q9zeroB x = true ∧ q9okAV (q9tE x) s = true ∧ 0 ≤ l ∧ h < 12 ∧ q9an9 (q9tA x) (fun z => q9nd9 (q9eq9 (q9famE (q9tE x) z.1) (some c)) ((q9nd9 (q9eq9 (z.2.1) (((a, 0) : q9AV))) ((match q9num (q9tE x) z.2.2 with
        | some (0, l', h') => q9nd9 ((q9de9 (l') ((q.1 : Int) - 1))) ((q9de9 (h') ((q.1 : Int) - 1)))
        | _ => false))))) = true ∧ q9an9 (q9tA x) (fun z => q9nd9 (q9eq9 (q9famE (q9tE x) z.1) (some (-150))) ((q9nd9 (q9eq9 (z.2.1) (((a, 0) : q9AV))) (q9leB x z.2.2 s 0)))) = true then some [q9addS x [] [] [(ka.1, s, (0, 0))] [] []] else none
    | none => none)
  | _, _, _, _ => none
theorem q9seI_oq : @q9seI = @q9seI_o := by
  delta q9seI q9seI_o
  simp only [q9ge9_eq, q9fi9_eq, q9an9_eq, q9al9_eq, q9flt9_eq, q9el9_eq, q9set9_eq, q9ln9_eq, q9gD9_eq, q9ap9_eq, q9eq9_N, q9eq9_I, q9eq9_A, q9eq9_E, q9eq9_OI, q9eq9_ON, q9eq9_OA, q9eq9_L, q9eq9_S, q9de9_N, q9de9_I, q9de9_A, q9le9_N, q9le9_I, q9lt9_N, q9lt9_I, q9de9_E, q9de9_OI, q9de9_ON, q9de9_OA, q9de9_L, q9nd9_eq, q9or9_eq, Bool.cond_decide]
/-- no shot there, and the reference's number is 0: all -/
noncomputable def q9seN_o (a o : Nat) (s : q9AV) (c : Int) : q9RF := fun x => match q9codeOf x a, q9codeOf x o, q9pqS c, q9num (q9tE x) s with
  | some 153, some 12, some q, some (0, l, h) => (match q9fF x o q.2.2.1, (q9tA x).find? (fun z => q9famE (q9tE x) z.1 == some c && (z.2.1 == ((a, 0) : q9AV) && (q9leB x s z.2.2 (-(q.1 : Int)) && q9leB x z.2.2 s q.1))) with
    | some ka, some z => (match q9fA x ka.1 s with
      | some v => if q9codeOf x ka.1 = some q.2.2.2 ∧ ka.2 = 0 ∧ q9zeroB x = true ∧ q9okAV (q9tE x) s = true ∧ 0 ≤ l ∧ h < 12 ∧ q9rgB x v 0 0 = true ∧ (q9tA x).any (fun z => q9famE (q9tE x) z.1 == some (-150) && (z.2.1 == ((a, 0) : q9AV) && q9leB x z.2.2 s 0)) = true then some [q9addS x [] [] [(z.1, (a, 0), (0, (q.1 : Int) - 1))] [] []] else none
      | none => none)
    | _, _ => none)
  | _, _, _, _ => none
noncomputable def q9seN (a o : Nat) (s : q9AV) (c : Int) : q9RF := fun x => match q9codeOf x a, q9codeOf x o, q9pqS c, q9num (q9tE x) s with
  | some 153, some 12, some q, some (0, l, h) => (match q9fF x o q.2.2.1, q9fi9 (q9tA x) (fun z => q9nd9 (q9eq9 (q9famE (q9tE x) z.1) (some c)) ((q9nd9 (q9eq9 (z.2.1) (((a, 0) : q9AV))) ((q9nd9 (q9leB x s z.2.2 (-(q.1 : Int))) (q9leB x z.2.2 s q.1)))))) with
    | some ka, some z => (match q9fA x ka.1 s with
      | some v => if q9codeOf x ka.1 = some q.2.2.2 ∧ ka.2 = 0 ∧ q9zeroB x = true ∧ q9okAV (q9tE x) s = true ∧ 0 ≤ l ∧ h < 12 ∧ q9rgB x v 0 0 = true ∧ q9an9 (q9tA x) (fun z => q9nd9 (q9eq9 (q9famE (q9tE x) z.1) (some (-150))) ((q9nd9 (q9eq9 (z.2.1) (((a, 0) : q9AV))) (q9leB x z.2.2 s 0)))) = true then some [q9addS x [] [] [(z.1, (a, 0), (0, (q.1 : Int) - 1))] [] []] else none
      | none => none)
    | _, _ => none)
  | _, _, _, _ => none
theorem q9seN_oq : @q9seN = @q9seN_o := by
  delta q9seN q9seN_o
  simp only [q9ge9_eq, q9fi9_eq, q9an9_eq, q9al9_eq, q9flt9_eq, q9el9_eq, q9set9_eq, q9ln9_eq, q9gD9_eq, q9ap9_eq, q9eq9_N, q9eq9_I, q9eq9_A, q9eq9_E, q9eq9_OI, q9eq9_ON, q9eq9_OA, q9eq9_L, q9eq9_S, q9de9_N, q9de9_I, q9de9_A, q9le9_N, q9le9_I, q9lt9_N, q9lt9_I, q9de9_E, q9de9_OI, q9de9_ON, q9de9_OA, q9de9_L, q9nd9_eq, q9or9_eq, Bool.cond_decide]
theorem q9seI_ok (a o : Nat) (s : q9AV) (c : Int) : q9RFok O (q9seI a o s c) := by
  intro nL g cT A x r G ws ls st xs hw hM hT hD h
  (rewrite [q9seI_oq] at h; unfold q9seI_o at h)
  split at h
  · rename_i q l hh hca hco hq hn
    obtain ⟨sf, cj, rj, rk⟩ := q
    split at h
    · rename_i ka hka
      split at h
      · rename_i hc
        obtain ⟨c1, c2, c3, c4, c5, c6, c7, q9c8⟩ := hc
        have c1 : q9codeOf x ka.1 = some rk := c1
        have hka : q9fF x o rj = some ka := hka
        cases h
        obtain ⟨p1, p2⟩ := q9pqS_ok hq
        obtain ⟨r1, r2, r3, r4, r5⟩ := q9pqS_rk hq
        obtain ⟨z, z2, z9⟩ := List.any_eq_true.mp c7
        simp only [Bool.and_eq_true, beq_iff_eq] at z9
        obtain ⟨z3, z4, z5⟩ := z9
        have wz := q9wf_A hw z z2
        have hP := q9fm_of hM z2 z3 p1
        rw [p2] at hP
        obtain ⟨a0, p, f, m, fs, b, M, e1, e2, e3, e4, e5, e6, e7⟩ := hP
        have hra : r a = .ref a0 := by
          rw [z4, q9ev_zero] at e1
          exact e1
        have hp0 : p.toInt = (sf : Int) - 1 := by
          split at z5
          · rename_i l9 h9 hn9
            rw [Bool.and_eq_true, decide_eq_true_eq, decide_eq_true_eq] at z5
            obtain ⟨u, u1, -, u2, u3⟩ := q9num_int hM.2.2.2.1 wz.2.2 hn9
            rw [e2] at u1
            cases u1
            omega
          · cases z5
        obtain ⟨y9, y2, y0⟩ := List.any_eq_true.mp q9c8
        simp only [Bool.and_eq_true, beq_iff_eq] at y0
        obtain ⟨y3, y4, y5⟩ := y0
        have wy := q9wf_A hw y9 y2
        have hN := q9fm_of hM y2 y3 (by decide)
        rw [q9FMP_nb, y4, q9ev_zero, hra] at hN
        obtain ⟨a1, n1, f1, k1, k2, k3, k4, k5, k6, k7⟩ := hN
        cases k1
        have hff := q9shA.one hD e3 k3
        subst hff
        obtain ⟨y, y1, -, yl, yh⟩ := q9num_int hM.2.2.2.1 c4 hn
        have ey : y.toNatClampNeg = y.toInt.toNat := rfl
        have l9 := q9leB_ok hM wy.2.2 c4 y5
        rw [k2, y1] at l9
        have l9 : n1.toInt ≤ y.toInt + 0 := l9
        have hnil : f y.toNatClampNeg = none := (k6 _ (by omega)).mpr (by omega)
        obtain ⟨m', fs', m1, m2⟩ := q9ob_of hM hT hco (by decide)
        have hmm : m' = m ∧ fs' = fs := by
          obtain ⟨q1, n1, x1, x2⟩ := m2
          obtain ⟨q2, n2, x3, x4⟩ := e4
          have := hT.2.2 q1 q2 m' m n1 n2 x1 x3
          subst this
          have hqq : q1 = q2 := hD.1 q1 q2 _ _ x2 x4 rfl
          subst hqq
          rw [x2] at x4
          cases x4
          exact ⟨rfl, rfl⟩
        obtain ⟨rfl, rfl⟩ := hmm
        have hfl := q9fl_at hM hD (q9fF_ok hka) r3 m1 m2
        obtain ⟨b', qb, nb, cA, M', b1, b2, b3, b4⟩ := q9is_of hM hT c1 r1
        have hkv : q9ev r ka = .ref b' := by
          unfold q9ev
          rw [b1]
        rw [hkv, e5] at hfl
        have hbb : b = b' := by
          cases hfl
          rfl
        subst hbb
        have hMM : M = M' := q9inA.one hD e6 b4
        subst hMM
        have hM0 : M y.toNatClampNeg = 0 := (e7 _ (by omega) (by omega)).1 hnil
        refine q9rf_add hM hw [] List.mem_cons_self q9ty_nil q9no_mem (q9one_mem (.inl ⟨b, qb, cA, nb, .inl M, y, ?_, b3, ?_, ?_⟩)) q9no_mem q9no_mem
        · show q9upL _ _ _ ka.1 = _
          rw [q9upL_lt (q9codeOf_lt c1)]
          exact b1
        · show q9ev _ s = _
          rw [q9upL_agr.ev c4]
          exact y1
        · show q9ev _ (0, 0) = _
          rw [q9upL_agr.ev (q9okZ c3 (by omega) (by omega))]
          show q9ev r (0, 0) = .int (M y.toNatClampNeg)
          rw [hM0]
          exact q9zero_ev hM.2.2.2.1 (q9zero_at c3) 0
      · cases h
    · cases h
  · cases h
theorem q9seN_ok (a o : Nat) (s : q9AV) (c : Int) : q9RFok O (q9seN a o s c) := by
  intro nL g cT A x r G ws ls st xs hw hM hT hD h
  (rewrite [q9seN_oq] at h; unfold q9seN_o at h)
  split at h
  · rename_i q l hh hca hco hq hn
    obtain ⟨sf, cj, rj, rk⟩ := q
    split at h
    · rename_i ka z hka hz
      split at h
      · rename_i v hv
        split at h
        rotate_left
        · cases h
        rename_i hc
        obtain ⟨c1, c2, c3, c4, c5, c6, c7, q9c8⟩ := hc
        have c1 : q9codeOf x ka.1 = some rk := c1
        have hka : q9fF x o rj = some ka := hka
        cases h
        obtain ⟨p1, p2⟩ := q9pqS_ok hq
        obtain ⟨r1, r2, r3, r4, r5⟩ := q9pqS_rk hq
        have z1 := List.find?_some hz
        have z2 := List.mem_of_find?_eq_some hz
        simp only [Bool.and_eq_true, beq_iff_eq] at z1
        obtain ⟨z3, z4, z5, z6⟩ := z1
        have wz := q9wf_A hw z z2
        have hP := q9fm_of hM z2 z3 p1
        rw [p2] at hP
        obtain ⟨a0, p, f, m, fs, b, M, e1, e2, e3, e4, e5, e6, e7⟩ := hP
        have hra : r a = .ref a0 := by
          rw [z4, q9ev_zero] at e1
          exact e1
        obtain ⟨y9, y2, y0⟩ := List.any_eq_true.mp q9c8
        simp only [Bool.and_eq_true, beq_iff_eq] at y0
        obtain ⟨y3, y4, y5⟩ := y0
        have wy := q9wf_A hw y9 y2
        have hN := q9fm_of hM y2 y3 (by decide)
        rw [q9FMP_nb, y4, q9ev_zero, hra] at hN
        obtain ⟨a1, n1, f1, k1, k2, k3, k4, k5, k6, k7⟩ := hN
        cases k1
        have hff := q9shA.one hD e3 k3
        subst hff
        obtain ⟨y, y1, -, yl, yh⟩ := q9num_int hM.2.2.2.1 c4 hn
        have ey : y.toNatClampNeg = y.toInt.toNat := rfl
        have l9 := q9leB_ok hM wy.2.2 c4 y5
        rw [k2, y1] at l9
        have l9 : n1.toInt ≤ y.toInt + 0 := l9
        have hnil : f y.toNatClampNeg = none := (k6 _ (by omega)).mpr (by omega)
        have l1 := q9leB_ok hM c4 wz.2.2 z5
        have l2 := q9leB_ok hM wz.2.2 c4 z6
        rw [y1, e2] at l1
        rw [y1, e2] at l2
        have l1 : y.toInt ≤ p.toInt + -(sf : Int) := l1
        have l2 : p.toInt ≤ y.toInt + sf := l2
        obtain ⟨m', fs', m1, m2⟩ := q9ob_of hM hT hco (by decide)
        have hmm : m' = m ∧ fs' = fs := by
          obtain ⟨q1, n1, x1, x2⟩ := m2
          obtain ⟨q2, n2, x3, x4⟩ := e4
          have := hT.2.2 q1 q2 m' m n1 n2 x1 x3
          subst this
          have hqq : q1 = q2 := hD.1 q1 q2 _ _ x2 x4 rfl
          subst hqq
          rw [x2] at x4
          cases x4
          exact ⟨rfl, rfl⟩
        obtain ⟨rfl, rfl⟩ := hmm
        have hfl := q9fl_at hM hD (q9fF_ok hka) r3 m1 m2
        obtain ⟨b', qb, nb, cA, M', b1, b2, b3, b4⟩ := q9is_of hM hT c1 r1
        have hkv : q9ev r ka = .ref b' := by
          unfold q9ev
          rw [b1]
        rw [hkv, e5] at hfl
        have hbb : b = b' := by
          cases hfl
          rfl
        subst hbb
        have hMM : M = M' := q9inA.one hD e6 b4
        subst hMM
        obtain ⟨v1, w9⟩ := q9fA_ok hM hw hD hv c4 y1 b1 b3
        have w9 : q9ev r v = .int (M y.toNatClampNeg) := w9
        have hM0 : M y.toNatClampNeg = 0 := by
          obtain ⟨-, u, u1, u2, u3⟩ := q9rgB_ok hM c7
          rw [w9] at u1
          cases u1
          exact Int32.toInt_inj.mp (by rw [Int32.toInt_zero]; omega)
        refine q9rf_add hM hw [] List.mem_cons_self q9ty_nil q9no_mem (q9one_mem (q9fm_mk (c := c) ?_ p1 ?_)) q9no_mem q9no_mem
        · show q9nV (q9upL _ _ _ z.1) = _
          rw [q9upL_lt wz.1]
          exact q9famE_ok hM.2.2.2.1 z3 p1
        · rw [p2]
          refine ⟨a0, Int32.ofInt ((sf : Int) - 1), f, _, _, b, M, ?_, ?_, e3, e4, e5, e6, fun i hi _ => ?_⟩
          · show q9ev _ (a, 0) = _
            rw [q9ev_zero, q9upL_lt (q9codeOf_lt hca)]
            exact hra
          · show q9ev _ (0, (sf : Int) - 1) = _
            rw [q9upL_agr.ev (q9okZ c3 (by omega) (by omega))]
            exact q9zero_ev hM.2.2.2.1 (q9zero_at c3) _
          · by_cases hip : (i : Int) = p.toInt - sf
            rotate_left
            · exact e7 i hi hip
            · have hiy : i = y.toNatClampNeg := by omega
              subst hiy
              exact ⟨fun _ => hM0, fun o9 ho => by rw [hnil] at ho; cases ho⟩
      · cases h
    · cases h
  · cases h
