variable {O : ORC}
/-! what is told of painted frames -/
theorem q9ob3_of {nL : Nat} {g : List Value} {x : q9ST} {r : Nat → Value} {G : q9GH} {ws : va_W} {ls : Array Slot} {st : List Value} (hM : q9SM O nL g x r G ws ls st) {cT : Nat → ClassId} (hT : q9tyW cT q9TBL G ws) {a cd : Nat} (h : q9codeOf x a = some cd) (h9 : cd = 151 ∨ cd = 201) : ∃ (b : Nat) (M : Nat → Int32), r a = .ref b ∧ q9inA G ws b cd M ∧ (cd = 201 → ∀ j : Nat, j < 4800 → 0 ≤ (M j).toInt ∧ (M j).toInt ≤ 1) := by
  obtain ⟨b, n, e1, m1⟩ := q9codeOf_ok hM.2.2.2.1 h
  obtain ⟨q, e, g1, g2, g3⟩ := hT.at m1
  rcases g3 with ⟨hh, -⟩ | ⟨-, K, u1, u2⟩
  · omega
  · have u1 : q9KAS[cd - 100]? = some K := u1
    rcases h9 with rfl | rfl
    · rw [show q9KAS[151 - 100]? = some (3, 400, false, 0, 0, 1) from rfl] at u1
      cases u1
      obtain ⟨-, -, M, u3, -⟩ := u2
      subst u3
      exact ⟨b, M, e1, ⟨q, n, n, _, g1, g2⟩, fun hh => by omega⟩
    · rw [show q9KAS[201 - 100]? = some (3, 4800, true, 0, 0, 1) from rfl] at u1
      cases u1
      obtain ⟨-, u4, M, u3, u5⟩ := u2
      subst u3
      have u4 : n = 4800 := u4 rfl
      refine ⟨b, M, e1, ⟨q, n, n, _, g1, g2⟩, fun _ j hj => ?_⟩
      obtain ⟨y, y1, y2, y3⟩ := u5 j (by omega)
      have y1 : Value.int (M j) = .int y := y1
      cases y1
      exact ⟨y2, y3⟩
/-- a known shot among the shots -/
theorem q9shot_at {nL : Nat} {g : List Value} {x : q9ST} {r : Nat → Value} {G : q9GH} {ws : va_W} {ls : Array Slot} {st : List Value} (hM : q9SM O nL g x r G ws ls st) (hw : q9wfB x = true) {A : Nat → Prop} (hD : va_D A ws) {a a0 : Nat} {s bd : q9AV} {f : Nat → Option Nat} (hbd : q9fA x a s = some bd) (h2 : bd.2 = 0) (h7 : q9codeOf x bd.1 = some 7) (hs : q9okAV (q9tE x) s = true) {y : Int32} (hy : q9ev r s = .int y) (hr : r a = .ref a0) (hf : q9shA G ws a0 f) : ∃ o : Nat, r bd.1 = .ref o ∧ f y.toNatClampNeg = some o := by
  obtain ⟨o, no, ro, -⟩ := q9codeOf_ok hM.2.2.2.1 h7
  obtain ⟨q, k, n', cA, w1, w2⟩ := hf
  obtain ⟨-, w9⟩ := q9fA_ok hM hw hD hbd hs hy hr w2
  have hb : q9ev r bd = .ref o := by
    rw [q9isSym (r := r) h2]
    exact ro
  rw [hb] at w9
  have w9 : Value.ref o = va_rf (f y.toNatClampNeg) := w9
  refine ⟨o, ro, ?_⟩
  cases hf : f y.toNatClampNeg with
  | none => rw [hf] at w9; cases w9
  | some o9 => rw [hf] at w9; cases w9; rfl
/-- a known field that is an object, by the object -/
theorem q9fl_ref {nL : Nat} {g : List Value} {x : q9ST} {r : Nat → Value} {G : q9GH} {ws : va_W} {ls : Array Slot} {st : List Value} (hM : q9SM O nL g x r G ws ls st) {A : Nat → Prop} (hD : va_D A ws) {k j : Nat} {v : q9AV} (h : q9fF x k j = some v) (hv : v.2 = 0) (hj : j ≠ 1000) {a cd ci b : Nat} (hk : r k = .ref a) {fs : List Value} (ho : q9obA G ws a cd ci fs) (hb : fs[j]? = some (.ref b)) : r v.1 = .ref b := by
  have h1 := q9fl_at hM hD (q9fF_ok h) hj hk ho
  rw [hb, q9isSym (r := r) hv] at h1
  exact (Option.some.inj h1).symm
/-- a family at an equal place -/
noncomputable def q9fmE_o (c : Int) (a : Nat) (v : q9AV) : q9RF := fun x => match (q9tA x).find? (fun z => q9famE (q9tE x) z.1 == some c && (z.2.1 == ((a, 0) : q9AV) && q9eqV x z.2.2 v)) with
  | some z => if c ≤ -100 ∧ q9okAV (q9tE x) v = true ∧ q9okAV (q9tE x) (a, 0) = true then some [q9addS x [] [] [(z.1, (a, 0), v)] [] []] else none
  | none => none
noncomputable def q9fmE (c : Int) (a : Nat) (v : q9AV) : q9RF := fun x => match q9fi9 (q9tA x) (fun z => q9nd9 (q9eq9 (q9famE (q9tE x) z.1) (some c)) ((q9nd9 (q9eq9 (z.2.1) (((a, 0) : q9AV))) (q9eqV x z.2.2 v)))) with
  | some z => if c ≤ -100 ∧ q9okAV (q9tE x) v = true ∧ q9okAV (q9tE x) (a, 0) = true then some [q9addS x [] [] [(z.1, (a, 0), v)] [] []] else none
  | none => none
theorem q9fmE_oq : @q9fmE = @q9fmE_o := by
  delta q9fmE q9fmE_o
  simp only [q9ge9_eq, q9fi9_eq, q9an9_eq, q9al9_eq, q9flt9_eq, q9el9_eq, q9set9_eq, q9ln9_eq, q9gD9_eq, q9ap9_eq, q9eq9_N, q9eq9_I, q9eq9_A, q9eq9_E, q9eq9_OI, q9eq9_ON, q9eq9_OA, q9eq9_L, q9eq9_S, q9de9_N, q9de9_I, q9de9_A, q9le9_N, q9le9_I, q9lt9_N, q9lt9_I, q9de9_E, q9de9_OI, q9de9_ON, q9de9_OA, q9de9_L, q9nd9_eq, q9or9_eq, Bool.cond_decide]
theorem q9fmE_ok (c : Int) (a : Nat) (v : q9AV) : q9RFok O (q9fmE c a v) := by
  intro nL g cT A x r G ws ls st xs hw hM hT hD h
  (rewrite [q9fmE_oq] at h; unfold q9fmE_o at h)
  split at h
  · rename_i z hz
    split at h
    · rename_i hc
      obtain ⟨c1, c2, c3⟩ := hc
      cases h
      have z1 := List.find?_some hz
      have z2 := List.mem_of_find?_eq_some hz
      simp only [Bool.and_eq_true, beq_iff_eq] at z1
      obtain ⟨z3, z4, z5⟩ := z1
      have wz := q9wf_A hw z z2
      have hP := q9fm_of hM z2 z3 c1
      rw [q9eqV_ok hM z5, z4] at hP
      refine q9rf_add hM hw [] List.mem_cons_self q9ty_nil q9no_mem (q9one_mem (q9fm_mk (c := c) ?_ c1 ?_)) q9no_mem q9no_mem
      · show q9nV (q9upL _ _ _ z.1) = _
        rw [q9upL_lt wz.1]
        exact q9famE_ok hM.2.2.2.1 z3 c1
      · show q9FMP O c G ws (q9ev _ (a, 0)) (q9ev _ v)
        rw [q9upL_agr.ev c3, q9upL_agr.ev c2]
        exact hP
    · cases h
  · cases h
noncomputable def q9pvk (c : Int) : Nat := if c = -146 ∨ c = -148 then 151 else 201
noncomputable def q9pvI_o (x : q9ST) (c : Int) (i f : q9AV) : Bool := if c = -146 ∨ c = -148 then i == f else q9plK x i (fun k w => q9scrB x 1 k && q9eqV x w f)
noncomputable def q9pvI (x : q9ST) (c : Int) (i f : q9AV) : Bool := if c = -146 ∨ c = -148 then q9eq9 (i) (f) else q9plK x i (fun k w => q9nd9 (q9scrB x 1 k) (q9eqV x w f))
theorem q9pvI_oq : @q9pvI = @q9pvI_o := by
  delta q9pvI q9pvI_o
  simp only [q9ge9_eq, q9fi9_eq, q9an9_eq, q9al9_eq, q9flt9_eq, q9el9_eq, q9set9_eq, q9ln9_eq, q9gD9_eq, q9ap9_eq, q9eq9_N, q9eq9_I, q9eq9_A, q9eq9_E, q9eq9_OI, q9eq9_ON, q9eq9_OA, q9eq9_L, q9eq9_S, q9de9_N, q9de9_I, q9de9_A, q9le9_N, q9le9_I, q9lt9_N, q9lt9_I, q9de9_E, q9de9_OI, q9de9_ON, q9de9_OA, q9de9_L, q9nd9_eq, q9or9_eq, Bool.cond_decide]
noncomputable def q9pvu (c : Int) : Int32 := if c = -146 ∨ c = -145 then 0 else 1
/-- the array's part that a family speaks of -/
noncomputable def q9pvM (O : ORC) (c : Int) (M M' : Nat → Int32) : Prop := if c = -146 ∨ c = -148 then M' = M else ∃ k : Int32, q9oI O.1 1063 (Int32.ofInt 1) k ∧ (0 ≤ k.toInt ∧ k.toInt ≤ 11) ∧ M' = fun j => M (400 * k.toInt.toNat + j)
theorem q9afP_pv {c : Int} (hc : c = -146 ∨ c = -148 ∨ c = -145 ∨ c = -144) {n : Int32} {M : Nat → Int32} : q9afP O c n M ↔ ∃ (g : Int32) (M' : Nat → Int32), q9oI O.1 1063 (Int32.ofInt 2) g ∧ q9pvM O c M M' ∧ q9PVV O (q9pvu c) g.toInt n.toInt M' := by
  rcases hc with rfl | rfl | rfl | rfl
  · constructor
    · rintro ⟨g, h1, h2⟩
      exact ⟨g, M, h1, rfl, h2⟩
    · rintro ⟨g, M', h1, h2, h3⟩
      have h2 : M' = M := h2
      subst h2
      exact ⟨g, h1, h3⟩
  · constructor
    · rintro ⟨g, h1, h2⟩
      exact ⟨g, M, h1, rfl, h2⟩
    · rintro ⟨g, M', h1, h2, h3⟩
      have h2 : M' = M := h2
      subst h2
      exact ⟨g, h1, h3⟩
  · constructor
    · rintro ⟨g, k, h1, h2, h3, h4⟩
      exact ⟨g, _, h1, ⟨k, h2, h3, rfl⟩, h4⟩
    · rintro ⟨g, M', h1, ⟨k, h2, h3, h5⟩, h4⟩
      subst h5
      exact ⟨g, k, h1, h2, h3, h4⟩
  · constructor
    · rintro ⟨g, k, h1, h2, h3, h4⟩
      exact ⟨g, _, h1, ⟨k, h2, h3, rfl⟩, h4⟩
    · rintro ⟨g, M', h1, ⟨k, h2, h3, h5⟩, h4⟩
      subst h5
      exact ⟨g, k, h1, h2, h3, h4⟩
theorem q9pv_af {c : Int} (hc : c = -146 ∨ c = -148 ∨ c = -145 ∨ c = -144) : q9afK c = [q9pvk c] := by
  rcases hc with rfl | rfl | rfl | rfl <;> decide
theorem q9pv_ne {c : Int} (hc : c = -146 ∨ c = -148 ∨ c = -145 ∨ c = -144) : q9afK c ≠ [] ∧ c ≤ -100 := by
  rcases hc with rfl | rfl | rfl | rfl <;> decide
/-- the frame's element -/
theorem q9pvI_ok {nL : Nat} {g : List Value} {x : q9ST} {r : Nat → Value} {G : q9GH} {ws : va_W} {ls : Array Slot} {st : List Value} (hM : q9SM O nL g x r G ws ls st) (hz0 : (q9tE x)[0]? = some (0, 0, 0)) {c : Int} {i f : q9AV} (h : q9pvI x c i f = true) {u : Int32} (hf : q9ev r f = .int u) (h0 : 0 ≤ u.toInt) {M M' : Nat → Int32} (hp : q9pvM O c M M') : ∃ y : Int32, q9ev r i = .int y ∧ M y.toNatClampNeg = M' u.toNatClampNeg := by
  (rewrite [q9pvI_oq] at h; unfold q9pvI_o at h)
  unfold q9pvM at hp
  split at h
  · rename_i hc
    rw [if_pos hc] at hp
    rw [eq_of_beq h]
    exact ⟨u, hf, by rw [hp]⟩
  · rename_i hc
    rw [if_neg hc] at hp
    obtain ⟨k', p1, p2, p3⟩ := hp
    obtain ⟨ka, fa, k, w, y, d1, d2, d3, d4, d5, d6, d7, d8, d9⟩ := q9plK_ok hM hz0 h
    rw [Bool.and_eq_true] at d1
    have hk := q9scrB_ok hM hz0 d4 d1.1
    have hk9 : k' = k := by
      unfold q9oI at p1 hk
      rw [p1] at hk
      exact Value.int.inj (Option.some.inj hk)
    subst hk9
    have hw := q9eqV_ok hM d1.2
    rw [d5, hf] at hw
    have hw : w = u := Value.int.inj hw
    subst hw
    refine ⟨y, d8, ?_⟩
    rw [p3]
    show M _ = M _
    congr 1
    have e1 : y.toNatClampNeg = y.toInt.toNat := rfl
    have e2 : w.toNatClampNeg = w.toInt.toNat := rfl
    omega
/-- the frame's bit; nothing q9more is told of it -/
noncomputable def q9pvE_o (c : Int) (a : Nat) (i f : q9AV) : q9RF := fun x => match (q9tA x).find? (fun z => q9famE (q9tE x) z.1 == some c && (z.2.1 == ((a, 0) : q9AV) && q9eqV x z.2.2 f)) with
  | some z => if (c = -146 ∨ c = -148 ∨ c = -145 ∨ c = -144) ∧ q9zeroB x = true ∧ q9codeOf x a = some (q9pvk c) ∧ q9rgB x f 0 399 = true ∧ q9okAV (q9tE x) i = true ∧ q9pvI x c i f = true ∧ q9okAV (q9tE x) (f.1, f.2 + 20000) = true then some [q9addS x [q9iFull] [] [(a, i, ((q9tE x).length, 0)), (z.1, (a, 0), (f.1, f.2 + 20000))] [] [(1490, f, (0, 0), (q9tE x).length)]] else none
  | none => none
noncomputable def q9pvE (c : Int) (a : Nat) (i f : q9AV) : q9RF := fun x => match q9fi9 (q9tA x) (fun z => q9nd9 (q9eq9 (q9famE (q9tE x) z.1) (some c)) ((q9nd9 (q9eq9 (z.2.1) (((a, 0) : q9AV))) (q9eqV x z.2.2 f)))) with
  | some z => if (c = -146 ∨ c = -148 ∨ c = -145 ∨ c = -144) ∧ q9zeroB x = true ∧ q9codeOf x a = some (q9pvk c) ∧ q9rgB x f 0 399 = true ∧ q9okAV (q9tE x) i = true ∧ q9pvI x c i f = true ∧ q9okAV (q9tE x) (f.1, f.2 + 20000) = true then some [q9addS x [q9iFull] [] [(a, i, ((q9ln9 (q9tE x)), 0)), (z.1, (a, 0), (f.1, f.2 + 20000))] [] [(1490, f, (0, 0), (q9ln9 (q9tE x)))]] else none
  | none => none
theorem q9pvE_oq : @q9pvE = @q9pvE_o := by
  delta q9pvE q9pvE_o
  simp only [q9ge9_eq, q9fi9_eq, q9an9_eq, q9al9_eq, q9flt9_eq, q9el9_eq, q9set9_eq, q9ln9_eq, q9gD9_eq, q9ap9_eq, q9eq9_N, q9eq9_I, q9eq9_A, q9eq9_E, q9eq9_OI, q9eq9_ON, q9eq9_OA, q9eq9_L, q9eq9_S, q9de9_N, q9de9_I, q9de9_A, q9le9_N, q9le9_I, q9lt9_N, q9lt9_I, q9de9_E, q9de9_OI, q9de9_ON, q9de9_OA, q9de9_L, q9nd9_eq, q9or9_eq, Bool.cond_decide]
theorem q9pvE_ok (c : Int) (a : Nat) (i f : q9AV) : q9RFok O (q9pvE c a i f) := by
  intro nL g cT A x r G ws ls st xs hw hM hT hD h
  (rewrite [q9pvE_oq] at h; unfold q9pvE_o at h)
  split at h
  · rename_i z hz
    split at h
    · rename_i hc
      obtain ⟨c1, c2, c3, c4, c5, c6, c7⟩ := hc
      cases h
      have hz0 := q9zero_at c2
      have z1 := List.find?_some hz
      have z2 := List.mem_of_find?_eq_some hz
      simp only [Bool.and_eq_true, beq_iff_eq] at z1
      obtain ⟨z3, z4, z5⟩ := z1
      have wz := q9wf_A hw z z2
      obtain ⟨n1, n2⟩ := q9pv_ne c1
      have hP := q9fm_of hM z2 z3 n2
      rw [q9FMP_af n1, q9eqV_ok hM z5, z4, q9ev_zero] at hP
      obtain ⟨f1, u, f2, f3, f4⟩ := q9rgB_ok hM c4
      obtain ⟨a0, cd0, n0, M, e1, e2, e3, e4, e5⟩ := hP
      rw [f2] at e2
      cases e2
      obtain ⟨gg, M', s1, s2, s3⟩ := (q9afP_pv c1).mp e5
      obtain ⟨y, y1, y2⟩ := q9pvI_ok hM hz0 c6 f2 f3 s2
      have e3' : cd0 = q9pvk c := by
        rw [q9pv_af c1] at e3
        exact List.mem_singleton.mp e3
      subst e3'
      have hor : q9oI O.1 1490 u (M y.toNatClampNeg) := by
        have e9 : u.toNatClampNeg = u.toInt.toNat := rfl
        have h9 := s3 u.toNatClampNeg (by omega) (by omega)
        rw [if_neg (by split <;> omega), q9ofNat_clamp f3, ← y2] at h9
        exact h9
      have hfm : q9AFM O c G ws (.ref a0) (q9ev r (f.1, f.2 + 20000)) := by
        have hn : ∃ l hh, q9num (q9tE x) f = some (0, l, hh) := by
          (rewrite [q9rgB_oq] at c4; unfold q9rgB_o at c4)
          rw [Bool.and_eq_true] at c4
          have c4 := c4.2
          split at c4
          · rename_i l hh hn
            exact ⟨l, hh, hn⟩
          · cases c4
        obtain ⟨l, hh, hn⟩ := hn
        obtain ⟨w, w1, w2⟩ := q9ev_off5 hM.2.2.2.1 hn f1 c7 f2
        refine ⟨a0, q9pvk c, w, M, rfl, w1, e3, e4, (q9afP_pv c1).mpr ⟨gg, M', s1, s2, fun j hj1 hj2 => ?_⟩⟩
        have h9 := s3 j hj1 (by omega)
        have e8 : (if (20000 : Int) ≤ w.toInt then w.toInt - 20000 else w.toInt) = u.toInt := by
          rw [if_pos (by omega)]
          omega
        have e9 : (if (20000 : Int) ≤ u.toInt then u.toInt - 20000 else u.toInt) = u.toInt := by
          rw [if_neg (by omega)]
        rw [e9] at h9
        rw [e8]
        exact h9
      obtain ⟨q, k, n', cA, w1, w2⟩ := e4
      have hal := q9codeOf_lt c3
      refine q9rf_add hM hw [.int (M y.toNatClampNeg)] List.mem_cons_self (q9ty_cons (q9iFull_ok _) q9ty_nil) q9no_mem (q9cons_mem (.inl ⟨a0, q, cA, n', .inl M, y, ?_, w2, ?_, ?_⟩) (q9one_mem (q9fm_mk (c := c) ?_ n2 ?_))) q9no_mem (q9one_mem ?_)
      · show q9upL _ _ _ a = _
        rw [q9upL_lt hal]
        exact e1
      · show q9ev _ i = _
        rw [q9upL_agr.ev c5]
        exact y1
      · show q9ev _ ((q9tE x).length, 0) = _
        rw [q9ev_zero]
        exact q9upL_at 0
      · show q9nV (q9upL _ _ _ z.1) = _
        rw [q9upL_lt wz.1]
        exact q9famE_ok hM.2.2.2.1 z3 n2
      · show q9FMP O c G ws (q9ev _ (a, 0)) (q9ev _ (f.1, f.2 + 20000))
        rw [q9FMP_af n1, q9ev_zero, q9upL_lt hal, q9upL_agr.ev c7, e1]
        exact hfm
      · unfold q9EXok
        show q9exop O 1490 (q9ev _ f) (q9ev _ (0, 0)) = some (q9upL _ _ _ (q9tE x).length)
        rw [q9upL_agr.ev f1, q9upL_agr.ev (q9okZ c2 (by decide) (by decide)), f2, q9zero_ev0 hM.2.2.2.1 hz0, q9exop_hi (by decide), show q9upL r (q9tE x).length [Value.int (M y.toNatClampNeg)] (q9tE x).length = .int (M y.toNatClampNeg) from q9upL_at 0]
        exact hor
    · cases h
  · cases h
/-- the script's n-th int is no greater -/
noncomputable def q9scrL_o (x : q9ST) (n : Int) (f : q9AV) : Bool := (q9tX x).any (fun q => q.1 == 1063 && (q.2.1 == ((0, n) : q9AV) && (q.2.2.1 == ((0, 0) : q9AV) && (q9okAV (q9tE x) (q.2.2.2, 0) && q9leB x (q.2.2.2, 0) f 0))))
noncomputable def q9scrL (x : q9ST) (n : Int) (f : q9AV) : Bool := q9an9 (q9tX x) (fun q => q9nd9 (q9eq9 (q.1) (1063)) ((q9nd9 (q9eq9 (q.2.1) (((0, n) : q9AV))) ((q9nd9 (q9eq9 (q.2.2.1) (((0, 0) : q9AV))) ((q9nd9 (q9okAV (q9tE x) (q.2.2.2, 0)) (q9leB x (q.2.2.2, 0) f 0))))))))
theorem q9scrL_oq : @q9scrL = @q9scrL_o := by
  delta q9scrL q9scrL_o
  simp only [q9ge9_eq, q9fi9_eq, q9an9_eq, q9al9_eq, q9flt9_eq, q9el9_eq, q9set9_eq, q9ln9_eq, q9gD9_eq, q9ap9_eq, q9eq9_N, q9eq9_I, q9eq9_A, q9eq9_E, q9eq9_OI, q9eq9_ON, q9eq9_OA, q9eq9_L, q9eq9_S, q9de9_N, q9de9_I, q9de9_A, q9le9_N, q9le9_I, q9lt9_N, q9lt9_I, q9de9_E, q9de9_OI, q9de9_ON, q9de9_OA, q9de9_L, q9nd9_eq, q9or9_eq, Bool.cond_decide]
/-- the frame is painted: q9one frame on -/
noncomputable def q9pvC_o (c : Int) (a : Nat) (i f : q9AV) : q9RF := fun x => match (q9tA x).find? (fun z => q9famE (q9tE x) z.1 == some c && (z.2.1 == ((a, 0) : q9AV) && q9eqV x z.2.2 (f.1, f.2 + 20000))), q9fA x a i with
  | some z, some v => if (c = -146 ∨ c = -148 ∨ c = -145 ∨ c = -144) ∧ q9zeroB x = true ∧ q9codeOf x a = some (q9pvk c) ∧ q9rgB x f 0 399 = true ∧ q9okAV (q9tE x) i = true ∧ q9pvI x c i f = true ∧ q9okAV (q9tE x) (f.1, f.2 + 20000) = true ∧ q9okAV (q9tE x) (f.1, f.2 + 1) = true ∧ q9rgB x v (q9pvu c).toInt (q9pvu c).toInt = true ∧ q9scrL x 2 f = true then some [q9addS x [] [] [(z.1, (a, 0), (f.1, f.2 + 1))] [] []] else none
  | _, _ => none
noncomputable def q9pvC (c : Int) (a : Nat) (i f : q9AV) : q9RF := fun x => match q9fi9 (q9tA x) (fun z => q9nd9 (q9eq9 (q9famE (q9tE x) z.1) (some c)) ((q9nd9 (q9eq9 (z.2.1) (((a, 0) : q9AV))) (q9eqV x z.2.2 (f.1, f.2 + 20000))))), q9fA x a i with
  | some z, some v => if (c = -146 ∨ c = -148 ∨ c = -145 ∨ c = -144) ∧ q9zeroB x = true ∧ q9codeOf x a = some (q9pvk c) ∧ q9rgB x f 0 399 = true ∧ q9okAV (q9tE x) i = true ∧ q9pvI x c i f = true ∧ q9okAV (q9tE x) (f.1, f.2 + 20000) = true ∧ q9okAV (q9tE x) (f.1, f.2 + 1) = true ∧ q9rgB x v (q9pvu c).toInt (q9pvu c).toInt = true ∧ q9scrL x 2 f = true then some [q9addS x [] [] [(z.1, (a, 0), (f.1, f.2 + 1))] [] []] else none
  | _, _ => none
theorem q9pvC_oq : @q9pvC = @q9pvC_o := by
  delta q9pvC q9pvC_o
  simp only [q9ge9_eq, q9fi9_eq, q9an9_eq, q9al9_eq, q9flt9_eq, q9el9_eq, q9set9_eq, q9ln9_eq, q9gD9_eq, q9ap9_eq, q9eq9_N, q9eq9_I, q9eq9_A, q9eq9_E, q9eq9_OI, q9eq9_ON, q9eq9_OA, q9eq9_L, q9eq9_S, q9de9_N, q9de9_I, q9de9_A, q9le9_N, q9le9_I, q9lt9_N, q9lt9_I, q9de9_E, q9de9_OI, q9de9_ON, q9de9_OA, q9de9_L, q9nd9_eq, q9or9_eq, Bool.cond_decide]
theorem q9pvC_ok (c : Int) (a : Nat) (i f : q9AV) : q9RFok O (q9pvC c a i f) := by
  intro nL g cT A x r G ws ls st xs hw hM hT hD h
  (rewrite [q9pvC_oq] at h; unfold q9pvC_o at h)
  split at h
  · rename_i z v hz hv
    split at h
    · rename_i hc
      obtain ⟨c1, c2, c3, c4, c5, c6, c7, q9c8, c9, c10⟩ := hc
      cases h
      have hz0 := q9zero_at c2
      have z1 := List.find?_some hz
      have z2 := List.mem_of_find?_eq_some hz
      simp only [Bool.and_eq_true, beq_iff_eq] at z1
      obtain ⟨z3, z4, z5⟩ := z1
      have wz := q9wf_A hw z z2
      obtain ⟨n1, n2⟩ := q9pv_ne c1
      have hP := q9fm_of hM z2 z3 n2
      rw [q9FMP_af n1, q9eqV_ok hM z5, z4, q9ev_zero] at hP
      obtain ⟨f1, u, f2, f3, f4⟩ := q9rgB_ok hM c4
      have hn : ∃ l hh, q9num (q9tE x) f = some (0, l, hh) := by
        (rewrite [q9rgB_oq] at c4; unfold q9rgB_o at c4)
        rw [Bool.and_eq_true] at c4
        have c4 := c4.2
        split at c4
        · rename_i l hh hn
          exact ⟨l, hh, hn⟩
        · cases c4
      obtain ⟨l, hh, hn⟩ := hn
      obtain ⟨w, w1, w2⟩ := q9ev_off5 hM.2.2.2.1 hn f1 c7 f2
      obtain ⟨w', w3, w4⟩ := q9ev_off5 hM.2.2.2.1 hn f1 q9c8 f2
      obtain ⟨a0, cd0, n0, M, e1, e2, e3, e4, e5⟩ := hP
      rw [w1] at e2
      cases e2
      obtain ⟨gg, M', s1, s2, s3⟩ := (q9afP_pv c1).mp e5
      obtain ⟨y, y1, y2⟩ := q9pvI_ok hM hz0 c6 f2 f3 s2
      have hgg : gg.toInt ≤ u.toInt := by
        (rewrite [q9scrL_oq] at c10; unfold q9scrL_o at c10)
        simp only [Bool.and_eq_true, beq_iff_eq, List.any_eq_true] at c10
        obtain ⟨q, q1, q2, q3, q4, q5, q6⟩ := c10
        have hq := hM.2.2.2.2.2.2.2 q q1
        unfold q9EXok at hq
        rw [q2, q3, q4, q9zero_ev hM.2.2.2.1 hz0, q9zero_ev0 hM.2.2.2.1 hz0, q9exop_hi (by decide)] at hq
        unfold q9oI at s1
        rw [s1] at hq
        have hq := Option.some.inj hq
        have l1 := q9leB_ok hM q5 f1 q6
        rw [q9ev_zero, ← hq, f2] at l1
        have l1 : gg.toInt ≤ u.toInt + 0 := l1
        omega
      obtain ⟨q, k, n', cA, x1, x2⟩ := e4
      obtain ⟨-, v9⟩ := q9fA_ok hM hw hD hv c5 y1 e1 x2
      have v9 : q9ev r v = .int (M y.toNatClampNeg) := v9
      have hMu : M y.toNatClampNeg = q9pvu c := by
        obtain ⟨-, t, t1, t2, t3⟩ := q9rgB_ok hM c9
        rw [v9] at t1
        cases t1
        exact Int32.toInt_inj.mp (by omega)
      have e9 : u.toNatClampNeg = u.toInt.toNat := rfl
      refine q9rf_add hM hw [] List.mem_cons_self q9ty_nil q9no_mem (q9one_mem (q9fm_mk (c := c) ?_ n2 ?_)) q9no_mem q9no_mem
      · show q9nV (q9upL _ _ _ z.1) = _
        rw [q9upL_lt wz.1]
        exact q9famE_ok hM.2.2.2.1 z3 n2
      · show q9FMP O c G ws (q9ev _ (a, 0)) (q9ev _ (f.1, f.2 + 1))
        rw [q9FMP_af n1, q9ev_zero, q9upL_lt (q9codeOf_lt c3), q9upL_agr.ev q9c8]
        refine ⟨a0, cd0, w', M, e1, w3, e3, ⟨q, k, n', cA, x1, x2⟩, (q9afP_pv c1).mpr ⟨gg, M', s1, s2, fun j hj1 hj2 => ?_⟩⟩
        have e8 : (if (20000 : Int) ≤ w'.toInt then w'.toInt - 20000 else w'.toInt) = u.toInt + 1 := by
          rw [if_neg (by omega)]
          omega
        rw [e8]
        by_cases hju : j = u.toNatClampNeg
        · rw [if_pos (by omega), hju, ← y2]
          exact hMu
        · have h9 := s3 j hj1 (by omega)
          have e7 : (if (20000 : Int) ≤ w.toInt then w.toInt - 20000 else w.toInt) = u.toInt := by
            rw [if_pos (by omega)]
            omega
          rw [e7] at h9
          by_cases hgj : gg.toInt ≤ (j : Int) ∧ (j : Int) < u.toInt
          · rw [if_pos hgj] at h9
            rw [if_pos (by omega)]
            exact h9
          · rw [if_neg hgj] at h9
            rw [if_neg (by omega)]
            exact h9
    · cases h
  · cases h
/-- all shots' -/
noncomputable def q9allP_o (x : q9ST) (a : Nat) : Option (Nat × q9AV × q9AV) := (q9tA x).find? (fun z => q9famE (q9tE x) z.1 == some (-157) && (z.2.1 == ((a, 0) : q9AV) && q9rgB x z.2.2 12999 12999))
noncomputable def q9allP (x : q9ST) (a : Nat) : Option (Nat × q9AV × q9AV) := q9fi9 (q9tA x) (fun z => q9nd9 (q9eq9 (q9famE (q9tE x) z.1) (some (-157))) ((q9nd9 (q9eq9 (z.2.1) (((a, 0) : q9AV))) (q9rgB x z.2.2 12999 12999))))
theorem q9allP_oq : @q9allP = @q9allP_o := by
  delta q9allP q9allP_o
  simp only [q9ge9_eq, q9fi9_eq, q9an9_eq, q9al9_eq, q9flt9_eq, q9el9_eq, q9set9_eq, q9ln9_eq, q9gD9_eq, q9ap9_eq, q9eq9_N, q9eq9_I, q9eq9_A, q9eq9_E, q9eq9_OI, q9eq9_ON, q9eq9_OA, q9eq9_L, q9eq9_S, q9de9_N, q9de9_I, q9de9_A, q9le9_N, q9le9_I, q9lt9_N, q9lt9_I, q9de9_E, q9de9_OI, q9de9_ON, q9de9_OA, q9de9_L, q9nd9_eq, q9or9_eq, Bool.cond_decide]
/-- all but one's -/
noncomputable def q9excP_o (x : q9ST) (a : Nat) (s : q9AV) : Option (Nat × q9AV × q9AV) := (q9tA x).find? (fun z => q9famE (q9tE x) z.1 == some (-157) && (z.2.1 == ((a, 0) : q9AV) && (q9leB x s z.2.2 (-13000) && q9leB x z.2.2 s 13000)))
noncomputable def q9excP (x : q9ST) (a : Nat) (s : q9AV) : Option (Nat × q9AV × q9AV) := q9fi9 (q9tA x) (fun z => q9nd9 (q9eq9 (q9famE (q9tE x) z.1) (some (-157))) ((q9nd9 (q9eq9 (z.2.1) (((a, 0) : q9AV))) ((q9nd9 (q9leB x s z.2.2 (-13000)) (q9leB x z.2.2 s 13000))))))
theorem q9excP_oq : @q9excP = @q9excP_o := by
  delta q9excP q9excP_o
  simp only [q9ge9_eq, q9fi9_eq, q9an9_eq, q9al9_eq, q9flt9_eq, q9el9_eq, q9set9_eq, q9ln9_eq, q9gD9_eq, q9ap9_eq, q9eq9_N, q9eq9_I, q9eq9_A, q9eq9_E, q9eq9_OI, q9eq9_ON, q9eq9_OA, q9eq9_L, q9eq9_S, q9de9_N, q9de9_I, q9de9_A, q9le9_N, q9le9_I, q9lt9_N, q9lt9_I, q9de9_E, q9de9_OI, q9de9_ON, q9de9_OA, q9de9_L, q9nd9_eq, q9or9_eq, Bool.cond_decide]
theorem q9allP_ok {nL : Nat} {g : List Value} {x : q9ST} {r : Nat → Value} {G : q9GH} {ws : va_W} {ls : Array Slot} {st : List Value} (hM : q9SM O nL g x r G ws ls st) (hw : q9wfB x = true) {a : Nat} {z : Nat × q9AV × q9AV} (h : q9allP x a = some z) : z.1 < (q9tE x).length ∧ q9nV (r z.1) = some (-157) ∧ ∃ p : Int32, q9ev r z.2.2 = .int p ∧ p.toInt = 12999 ∧ q9PNQ G ws (r a) (.int p) := by
  (rewrite [q9allP_oq] at h; unfold q9allP_o at h)
  have z1 := List.find?_some h
  have z2 := List.mem_of_find?_eq_some h
  simp only [Bool.and_eq_true, beq_iff_eq] at z1
  obtain ⟨z3, z4, z5⟩ := z1
  obtain ⟨-, p, p1, p2, p3⟩ := q9rgB_ok hM z5
  have hP := q9fm_of hM z2 z3 (by decide)
  rw [q9FMP_pq, z4, q9ev_zero, p1] at hP
  exact ⟨(q9wf_A hw z z2).1, q9famE_ok hM.2.2.2.1 z3 (by decide), p, p1, by omega, hP⟩
theorem q9excP_ok {nL : Nat} {g : List Value} {x : q9ST} {r : Nat → Value} {G : q9GH} {ws : va_W} {ls : Array Slot} {st : List Value} (hM : q9SM O nL g x r G ws ls st) (hw : q9wfB x = true) {a : Nat} {s : q9AV} {z : Nat × q9AV × q9AV} (hs : q9okAV (q9tE x) s = true) {k : Int32} (hk : q9ev r s = .int k) (h : q9excP x a s = some z) : z.1 < (q9tE x).length ∧ q9nV (r z.1) = some (-157) ∧ ∃ p : Int32, q9ev r z.2.2 = .int p ∧ p.toInt = k.toInt + 13000 ∧ q9PNQ G ws (r a) (.int p) := by
  (rewrite [q9excP_oq] at h; unfold q9excP_o at h)
  have z1 := List.find?_some h
  have z2 := List.mem_of_find?_eq_some h
  simp only [Bool.and_eq_true, beq_iff_eq] at z1
  obtain ⟨z3, z4, z5, z6⟩ := z1
  have wz := q9wf_A hw z z2
  have hP := q9fm_of hM z2 z3 (by decide)
  rw [q9FMP_pq, z4, q9ev_zero] at hP
  have hP' := hP
  obtain ⟨a0, p, f, m, fs, b, M, be, e1, e2, -⟩ := hP'
  have l1 := q9leB_ok hM hs wz.2.2 z5
  have l2 := q9leB_ok hM wz.2.2 hs z6
  rw [hk, e2] at l1
  rw [hk, e2] at l2
  have l1 : k.toInt ≤ p.toInt + -13000 := l1
  have l2 : p.toInt ≤ k.toInt + 13000 := l2
  rw [e2] at hP
  exact ⟨wz.1, q9famE_ok hM.2.2.2.1 z3 (by decide), p, e2, by omega, hP⟩
theorem q9pq_mk {nL : Nat} {g : List Value} {x : q9ST} {r : Nat → Value} {G : q9GH} {ws : va_W} {ls : Array Slot} {st : List Value} {xs : List q9ST} (hM : q9SM O nL g x r G ws ls st) (hw : q9wfB x = true) {z : Nat} {a : Nat} {v : q9AV} (h1 : z < (q9tE x).length) (h2 : q9nV (r z) = some (-157)) (h3 : a < (q9tE x).length) (h4 : q9okAV (q9tE x) v = true) (h5 : q9PNQ G ws (r a) (q9ev r v)) (hm : q9addS x [] [] [(z, (a, 0), v)] [] [] ∈ xs) :
    ∃ x' ∈ xs, ∃ r' : Nat → Value, q9agr (q9tE x).length r r' ∧ (q9tE x).length ≤ (q9tE x').length ∧ q9tN x' = q9tN x ∧ q9tM x' = q9tM x ∧ q9SM O nL g x' r' G ws ls st := by
  refine q9rf_add hM hw [] hm q9ty_nil q9no_mem (q9one_mem (q9fm_mk (c := -157) ?_ (by decide) ?_)) q9no_mem q9no_mem
  · show q9nV (q9upL _ _ _ z) = _
    rw [q9upL_lt h1]
    exact h2
  · show q9FMP O (-157) G ws (q9ev _ (a, 0)) (q9ev _ v)
    rw [q9FMP_pq, q9ev_zero, q9upL_lt h3, q9upL_agr.ev h4]
    exact h5
/-- the reference's array -/
noncomputable def q9refP (x : q9ST) (o : Nat) : Option q9AV := match q9fF x o 50 with
  | some P => if P.2 = 0 ∧ q9codeOf x P.1 = some 201 ∧ q9codeOf x o = some 12 then some P else none
  | none => none
theorem q9refP_ok {nL : Nat} {g : List Value} {x : q9ST} {r : Nat → Value} {G : q9GH} {ws : va_W} {ls : Array Slot} {st : List Value} (hM : q9SM O nL g x r G ws ls st) {cT : Nat → ClassId} (hT : q9tyW cT q9TBL G ws) {A : Nat → Prop} (hD : va_D A ws) {o : Nat} {P : q9AV} (h : q9refP x o = some P) : P.2 = 0 ∧ P.1 < (q9tE x).length ∧ ∃ (m b : Nat) (fs : List Value) (M : Nat → Int32), r P.1 = .ref b ∧ q9obA G ws m 12 12 fs ∧ fs[50]? = some (.ref b) ∧ q9inA G ws b 201 M ∧ (∀ j : Nat, j < 4800 → 0 ≤ (M j).toInt ∧ (M j).toInt ≤ 1) := by
  unfold q9refP at h
  split at h
  · rename_i P' hP
    split at h
    · rename_i hc
      obtain ⟨c1, c2, c3⟩ := hc
      cases h
      obtain ⟨m, fs, m1, m2⟩ := q9ob_of hM hT c3 (by decide)
      obtain ⟨b, M, b1, b2, b3⟩ := q9ob3_of hM hT c2 (.inr rfl)
      have h1 := q9fl_at hM hD (q9fF_ok hP) (by decide) m1 m2
      rw [q9isSym (r := r) c1, b1] at h1
      exact ⟨c1, q9codeOf_lt c2, m, b, fs, M, b1, m2, h1, b2, b3 rfl⟩
    · cases h
  · cases h
/-- there is q9one reference -/
theorem q9ref_one {cT : Nat → ClassId} {G : q9GH} {ws : va_W} (hT : q9tyW cT q9TBL G ws) {A : Nat → Prop} (hD : va_D A ws) {m m' : Nat} {fs fs' : List Value} (h1 : q9obA G ws m 12 12 fs) (h2 : q9obA G ws m' 12 12 fs') : fs = fs' := by
  obtain ⟨q1, n1, x1, x2⟩ := h1
  obtain ⟨q2, n2, x3, x4⟩ := h2
  have := hT.2.2 q1 q2 m m' n1 n2 x1 x3
  subst this
  have hqq : q1 = q2 := hD.1 q1 q2 _ _ x2 x4 rfl
  subst hqq
  rw [x2] at x4
  cases x4
  rfl
/-- no shot yet -/
noncomputable def q9pnZ_o (a o : Nat) : q9RF := fun x => match (q9tA x).find? (fun z => q9famE (q9tE x) z.1 == some (-150) && (z.2.1 == ((a, 0) : q9AV) && (match q9num (q9tE x) z.2.2 with
    | some (0, _, h) => decide (h ≤ 0)
    | _ => false))), q9refP x o with
  | some _, some _ => if q9codeOf x a = some 153 ∧ q9zeroB x = true then some [q9addS x [(0, -157, -157)] [] [((q9tE x).length, (a, 0), (0, 12999))] [] []] else none
  | _, _ => none
noncomputable def q9pnZ (a o : Nat) : q9RF := fun x => match q9fi9 (q9tA x) (fun z => q9nd9 (q9eq9 (q9famE (q9tE x) z.1) (some (-150))) ((q9nd9 (q9eq9 (z.2.1) (((a, 0) : q9AV))) ((match q9num (q9tE x) z.2.2 with
    | some (0, _, h) => (q9le9 (h) (0))
    | _ => false))))), q9refP x o with
  | some _, some _ => if q9codeOf x a = some 153 ∧ q9zeroB x = true then some [q9addS x [(0, -157, -157)] [] [((q9ln9 (q9tE x)), (a, 0), (0, 12999))] [] []] else none
  | _, _ => none
theorem q9pnZ_oq : @q9pnZ = @q9pnZ_o := by
  delta q9pnZ q9pnZ_o
  simp only [q9ge9_eq, q9fi9_eq, q9an9_eq, q9al9_eq, q9flt9_eq, q9el9_eq, q9set9_eq, q9ln9_eq, q9gD9_eq, q9ap9_eq, q9eq9_N, q9eq9_I, q9eq9_A, q9eq9_E, q9eq9_OI, q9eq9_ON, q9eq9_OA, q9eq9_L, q9eq9_S, q9de9_N, q9de9_I, q9de9_A, q9le9_N, q9le9_I, q9lt9_N, q9lt9_I, q9de9_E, q9de9_OI, q9de9_ON, q9de9_OA, q9de9_L, q9nd9_eq, q9or9_eq, Bool.cond_decide]
theorem q9pnZ_ok (a o : Nat) : q9RFok O (q9pnZ a o) := by
  intro nL g cT A x r G ws ls st xs hw hM hT hD h
  (rewrite [q9pnZ_oq] at h; unfold q9pnZ_o at h)
  split at h
  · rename_i z P hz hP
    split at h
    · rename_i hc
      obtain ⟨c1, c2⟩ := hc
      cases h
      have z1 := List.find?_some hz
      have z2 := List.mem_of_find?_eq_some hz
      simp only [Bool.and_eq_true, beq_iff_eq] at z1
      obtain ⟨z3, z4, z5⟩ := z1
      have wz := q9wf_A hw z z2
      have hN := q9fm_of hM z2 z3 (by decide)
      rw [q9FMP_nb, z4, q9ev_zero] at hN
      obtain ⟨a1, n1, f, k1, k2, k3, k4, k5, k6, k7⟩ := hN
      have hn0 : n1.toInt ≤ 0 := by
        split at z5
        · rename_i l hh hn
          rw [decide_eq_true_eq] at z5
          obtain ⟨u, u1, -, u2, u3⟩ := q9num_int hM.2.2.2.1 wz.2.2 hn
          rw [k2] at u1
          cases u1
          omega
        · cases z5
      have hnil : ∀ i : Nat, i < 12 → f i = none := fun i hi => (k6 i hi).mpr (by omega)
      obtain ⟨-, -, m, b, fs, M, -, p3, p4, p5, -⟩ := q9refP_ok hM hT hD hP
      refine q9rf_add hM hw [.int (-157)] List.mem_cons_self (q9ty_cons ⟨-157, rfl, by decide, by decide⟩ q9ty_nil) q9no_mem (q9one_mem (q9fm_mk (c := -157) ?_ (by decide) ?_)) q9no_mem q9no_mem
      · show q9nV (q9upL _ _ _ (q9tE x).length) = _
        rw [show q9upL r (q9tE x).length [Value.int (-157)] (q9tE x).length = .int (-157) from q9upL_at 0]
        rfl
      · show q9FMP O (-157) G ws (q9ev _ (a, 0)) (q9ev _ (0, 12999))
        rw [q9FMP_pq, q9ev_zero, q9upL_lt (q9codeOf_lt c1), q9upL_agr.ev (q9okZ c2 (by decide) (by decide)), q9zero_ev hM.2.2.2.1 (q9zero_at c2), k1]
        refine ⟨a1, _, f, m, fs, b, M, fun i => i, rfl, rfl, k3, p3, p4, p5, fun i hi o ho => ?_, fun i j _ _ _ _ hij => hij⟩
        rw [hnil i hi] at ho
        cases ho
    · cases h
  · cases h
/-- all but q9one -/
noncomputable def q9pnO (a : Nat) (s : q9AV) : q9RF := fun x => match q9allP x a, q9num (q9tE x) s with
  | some z, some (0, _, _) => if q9rgB x s 0 11 = true ∧ q9okAV (q9tE x) (s.1, s.2 + 13000) = true ∧ q9okAV (q9tE x) (a, 0) = true then some [q9addS x [] [] [(z.1, (a, 0), (s.1, s.2 + 13000))] [] []] else none
  | _, _ => none
theorem q9pnO_ok (a : Nat) (s : q9AV) : q9RFok O (q9pnO a s) := by
  intro nL g cT A x r G ws ls st xs hw hM hT hD h
  unfold q9pnO at h
  split at h
  · rename_i z l hh hz hn
    split at h
    · rename_i hc
      obtain ⟨c1, c2, c3⟩ := hc
      cases h
      obtain ⟨z1, z2, p, p1, p2, a0, p', f, m, fs, b, M, be, e1, e2, e3, e4, e5, e6, e7, e8⟩ := q9allP_ok hM hw hz
      cases e2
      obtain ⟨d1, k, d2, d3, d4⟩ := q9rgB_ok hM c1
      obtain ⟨w, w1, w2⟩ := q9ev_off5 hM.2.2.2.1 hn d1 c2 d2
      refine q9pq_mk hM hw z1 z2 (q9okAV_lt c3) c2 ?_ List.mem_cons_self
      rw [w1]
      refine ⟨a0, w, f, m, fs, b, M, be, e1, rfl, e3, e4, e5, e6, fun i hi o ho => ?_, e8⟩
      obtain ⟨gs, M', g1, g2, g3, g4⟩ := e7 i hi o ho
      exact ⟨gs, M', g1, g2, g3, fun _ => g4 (by omega)⟩
    · cases h
  · cases h
/-- no shot there: all -/
noncomputable def q9pnN_o (a : Nat) (s : q9AV) : q9RF := fun x => match q9excP x a s with
  | some z => if q9rgB x s 0 11 = true ∧ q9zeroB x = true ∧ q9okAV (q9tE x) (a, 0) = true ∧ (q9tA x).any (fun y => q9famE (q9tE x) y.1 == some (-150) && (y.2.1 == ((a, 0) : q9AV) && q9leB x y.2.2 s 0)) = true then some [q9addS x [] [] [(z.1, (a, 0), (0, 12999))] [] []] else none
  | none => none
noncomputable def q9pnN (a : Nat) (s : q9AV) : q9RF := fun x => match q9excP x a s with
  | some z => if q9rgB x s 0 11 = true ∧ q9zeroB x = true ∧ q9okAV (q9tE x) (a, 0) = true ∧ q9an9 (q9tA x) (fun y => q9nd9 (q9eq9 (q9famE (q9tE x) y.1) (some (-150))) ((q9nd9 (q9eq9 (y.2.1) (((a, 0) : q9AV))) (q9leB x y.2.2 s 0)))) = true then some [q9addS x [] [] [(z.1, (a, 0), (0, 12999))] [] []] else none
  | none => none
theorem q9pnN_oq : @q9pnN = @q9pnN_o := by
  delta q9pnN q9pnN_o
  simp only [q9ge9_eq, q9fi9_eq, q9an9_eq, q9al9_eq, q9flt9_eq, q9el9_eq, q9set9_eq, q9ln9_eq, q9gD9_eq, q9ap9_eq, q9eq9_N, q9eq9_I, q9eq9_A, q9eq9_E, q9eq9_OI, q9eq9_ON, q9eq9_OA, q9eq9_L, q9eq9_S, q9de9_N, q9de9_I, q9de9_A, q9le9_N, q9le9_I, q9lt9_N, q9lt9_I, q9de9_E, q9de9_OI, q9de9_ON, q9de9_OA, q9de9_L, q9nd9_eq, q9or9_eq, Bool.cond_decide]
theorem q9pnN_ok (a : Nat) (s : q9AV) : q9RFok O (q9pnN a s) := by
  intro nL g cT A x r G ws ls st xs hw hM hT hD h
  (rewrite [q9pnN_oq] at h; unfold q9pnN_o at h)
  split at h
  · rename_i z hz
    split at h
    · rename_i hc
      obtain ⟨c1, c2, c3, c4⟩ := hc
      cases h
      obtain ⟨d1, k, d2, d3, d4⟩ := q9rgB_ok hM c1
      obtain ⟨z1, z2, p, p1, p2, a0, p', f, m, fs, b, M, be, e1, e2, e3, e4, e5, e6, e7, e8⟩ := q9excP_ok hM hw d1 d2 hz
      cases e2
      obtain ⟨y9, y2, y0⟩ := List.any_eq_true.mp c4
      simp only [Bool.and_eq_true, beq_iff_eq] at y0
      obtain ⟨y3, y4, y5⟩ := y0
      have wy := q9wf_A hw y9 y2
      have hN := q9fm_of hM y2 y3 (by decide)
      rw [q9FMP_nb, y4, q9ev_zero, e1] at hN
      obtain ⟨a1, n1, f1, k1, k2, k3, k4, k5, k6, k7⟩ := hN
      cases k1
      have hff := q9shA.one hD e3 k3
      subst hff
      have l9 := q9leB_ok hM wy.2.2 d1 y5
      rw [k2, d2] at l9
      have l9 : n1.toInt ≤ k.toInt + 0 := l9
      refine q9pq_mk hM hw z1 z2 (q9okAV_lt c3) (q9okZ c2 (by decide) (by decide)) ?_ List.mem_cons_self
      rw [q9zero_ev hM.2.2.2.1 (q9zero_at c2)]
      refine ⟨a0, _, f, m, fs, b, M, be, e1, rfl, e3, e4, e5, e6, fun i hi o ho => ?_, e8⟩
      obtain ⟨gs, M', g1, g2, g3, g4⟩ := e7 i hi o ho
      refine ⟨gs, M', g1, g2, g3, fun _ => g4 fun hip => ?_⟩
      have := (k6 i hi).mpr (by omega)
      rw [this] at ho
      cases ho
    · cases h
  · cases h
/-- the shot at a place, its painted frames: the element, the field -/
noncomputable def q9shB (x : q9ST) (a : Nat) (s : q9AV) : Option (q9AV × q9AV) := match q9fA x a s with
  | some bd => (match q9fF x bd.1 14 with
    | some b => if bd.2 = 0 ∧ q9codeOf x bd.1 = some 7 ∧ b.2 = 0 ∧ q9codeOf x b.1 = some 151 then some (bd, b) else none
    | none => none)
  | none => none
theorem q9shB_ok {x : q9ST} {a : Nat} {s : q9AV} {q : q9AV × q9AV} (h : q9shB x a s = some q) : q9fA x a s = some q.1 ∧ q9fF x q.1.1 14 = some q.2 ∧ q.1.2 = 0 ∧ q9codeOf x q.1.1 = some 7 ∧ q.2.2 = 0 ∧ q9codeOf x q.2.1 = some 151 := by
  unfold q9shB at h
  split at h
  · rename_i bd h1
    split at h
    · rename_i b h2
      split at h
      · rename_i hc
        cases h
        exact ⟨h1, h2, hc.1, hc.2.1, hc.2.2.1, hc.2.2.2⟩
      · cases h
    · cases h
  · cases h
/-- the newest shot's aren't painted, on both sides: all -/
noncomputable def q9pnJ_o (a o : Nat) (s : q9AV) : q9RF := fun x => match q9excP x a s, q9shB x a s, q9refP x o with
  | some z, some q, some P => if q9rgB x s 0 11 = true ∧ q9zeroB x = true ∧ q9okAV (q9tE x) (a, 0) = true ∧ (q9tA x).any (fun y => q9famE (q9tE x) y.1 == some (-147) && y.2.1 == q.2) = true ∧ (q9tA x).any (fun y => q9famE (q9tE x) y.1 == some (-149) && (y.2.1 == P && q9leB x y.2.2 s 0)) = true then some [q9addS x [] [] [(z.1, (a, 0), (0, 12999))] [] []] else none
  | _, _, _ => none
noncomputable def q9pnJ (a o : Nat) (s : q9AV) : q9RF := fun x => match q9excP x a s, q9shB x a s, q9refP x o with
  | some z, some q, some P => if q9rgB x s 0 11 = true ∧ q9zeroB x = true ∧ q9okAV (q9tE x) (a, 0) = true ∧ q9an9 (q9tA x) (fun y => q9nd9 (q9eq9 (q9famE (q9tE x) y.1) (some (-147))) (q9eq9 (y.2.1) (q.2))) = true ∧ q9an9 (q9tA x) (fun y => q9nd9 (q9eq9 (q9famE (q9tE x) y.1) (some (-149))) ((q9nd9 (q9eq9 (y.2.1) (P)) (q9leB x y.2.2 s 0)))) = true then some [q9addS x [] [] [(z.1, (a, 0), (0, 12999))] [] []] else none
  | _, _, _ => none
theorem q9pnJ_oq : @q9pnJ = @q9pnJ_o := by
  delta q9pnJ q9pnJ_o
  simp only [q9ge9_eq, q9fi9_eq, q9an9_eq, q9al9_eq, q9flt9_eq, q9el9_eq, q9set9_eq, q9ln9_eq, q9gD9_eq, q9ap9_eq, q9eq9_N, q9eq9_I, q9eq9_A, q9eq9_E, q9eq9_OI, q9eq9_ON, q9eq9_OA, q9eq9_L, q9eq9_S, q9de9_N, q9de9_I, q9de9_A, q9le9_N, q9le9_I, q9lt9_N, q9lt9_I, q9de9_E, q9de9_OI, q9de9_ON, q9de9_OA, q9de9_L, q9nd9_eq, q9or9_eq, Bool.cond_decide]
theorem q9pnJ_ok (a o : Nat) (s : q9AV) : q9RFok O (q9pnJ a o s) := by
  intro nL g cT A x r G ws ls st xs hw hM hT hD h
  (rewrite [q9pnJ_oq] at h; unfold q9pnJ_o at h)
  split at h
  · rename_i z q P hz hq hP
    split at h
    · rename_i hc
      obtain ⟨c1, c2, c3, c4, c5⟩ := hc
      cases h
      obtain ⟨d1, k, d2, d3, d4⟩ := q9rgB_ok hM c1
      obtain ⟨z1, z2, p, p1, p2, a0, p', f, m, fs, b, M, be, e1, e2, e3, e4, e5, e6, e7, e8⟩ := q9excP_ok hM hw d1 d2 hz
      cases e2
      obtain ⟨s1, s2, s3, s4, s5, s6⟩ := q9shB_ok hq
      obtain ⟨r1, r2, m', b', fs', M2, r3, r4, r5, r6, -⟩ := q9refP_ok hM hT hD hP
      have := q9ref_one hT hD r4 e4
      subst this
      rw [r5] at e5
      cases e5
      have := q9inA.one hD r6 e6
      subst this
      obtain ⟨o9, o1, o2⟩ := q9shot_at hM hw hD s1 s3 s4 d1 d2 e1 e3
      -- nothing is painted
      obtain ⟨y9, y2, y0⟩ := List.any_eq_true.mp c4
      simp only [Bool.and_eq_true, beq_iff_eq] at y0
      have hZ := q9fm_of hM y2 y0.1 (by decide)
      rw [q9FMP_af (by decide), y0.2] at hZ
      obtain ⟨b9, cd9, n9, M9, t1, t2, t3, t4, t5⟩ := hZ
      have t3 : cd9 = 151 := List.mem_singleton.mp t3
      subst t3
      have t5 : ∀ j : Nat, j < 400 → M9 j = 0 := t5
      obtain ⟨v9, v2, v0⟩ := List.any_eq_true.mp c5
      simp only [Bool.and_eq_true, beq_iff_eq] at v0
      obtain ⟨v3, v4, v5⟩ := v0
      have wv := q9wf_A hw v9 v2
      have hV := q9fm_of hM v2 v3 (by decide)
      rw [q9FMP_af (by decide), v4, q9isSym (r := r) r1, r3] at hV
      obtain ⟨b8, cd8, n8, M8, i1, i2, i3, i4, i5⟩ := hV
      cases i1
      have i3 : cd8 = 201 := List.mem_singleton.mp i3
      subst i3
      have := q9inA.one hD r6 i4
      subst this
      have i5 : ∀ j : Nat, 400 * n8.toInt ≤ (j : Int) → j < 4800 → M2 j = 0 := i5
      have l9 := q9leB_ok hM wv.2.2 d1 v5
      rw [i2, d2] at l9
      have l9 : n8.toInt ≤ k.toInt + 0 := l9
      have ek : k.toNatClampNeg = k.toInt.toNat := rfl
      refine q9pq_mk hM hw z1 z2 (q9okAV_lt c3) (q9okZ c2 (by decide) (by decide)) ?_ List.mem_cons_self
      rw [q9zero_ev hM.2.2.2.1 (q9zero_at c2)]
      refine ⟨a0, _, f, _, _, _, M2, be, e1, rfl, e3, e4, r5, r6, fun i hi o ho => ?_, e8⟩
      obtain ⟨gs, M', g1, g2, g3, g4⟩ := e7 i hi o ho
      refine ⟨gs, M', g1, g2, g3, fun _ j hj => ?_⟩
      by_cases hip : (i : Int) = p.toInt - 13000
      · have hik : i = k.toNatClampNeg := by omega
        subst hik
        rw [o2] at ho
        cases ho
        have hb9 := q9fl_ref hM hD s2 s5 (by decide) o1 g1 g2
        rw [q9isSym (r := r) s5, hb9] at t1
        cases t1
        have := q9inA.one hD g3 t4
        subst this
        rw [t5 j hj, i5 _ (by omega) (by omega)]
      · exact g4 hip j hj
    · cases h
  · cases h
/-- of q9more shots -/
noncomputable def q9ztW_o (a : Nat) (n : q9AV) : q9RF := fun x => match (q9tA x).find? (fun z => q9famE (q9tE x) z.1 == some (-149) && (z.2.1 == ((a, 0) : q9AV) && q9leB x z.2.2 n 0)) with
  | some z => if q9rgB x n 0 2147483647 = true ∧ q9okAV (q9tE x) (a, 0) = true then some [q9addS x [] [] [(z.1, (a, 0), n)] [] []] else none
  | none => none
noncomputable def q9ztW (a : Nat) (n : q9AV) : q9RF := fun x => match q9fi9 (q9tA x) (fun z => q9nd9 (q9eq9 (q9famE (q9tE x) z.1) (some (-149))) ((q9nd9 (q9eq9 (z.2.1) (((a, 0) : q9AV))) (q9leB x z.2.2 n 0)))) with
  | some z => if q9rgB x n 0 2147483647 = true ∧ q9okAV (q9tE x) (a, 0) = true then some [q9addS x [] [] [(z.1, (a, 0), n)] [] []] else none
  | none => none
theorem q9ztW_oq : @q9ztW = @q9ztW_o := by
  delta q9ztW q9ztW_o
  simp only [q9ge9_eq, q9fi9_eq, q9an9_eq, q9al9_eq, q9flt9_eq, q9el9_eq, q9set9_eq, q9ln9_eq, q9gD9_eq, q9ap9_eq, q9eq9_N, q9eq9_I, q9eq9_A, q9eq9_E, q9eq9_OI, q9eq9_ON, q9eq9_OA, q9eq9_L, q9eq9_S, q9de9_N, q9de9_I, q9de9_A, q9le9_N, q9le9_I, q9lt9_N, q9lt9_I, q9de9_E, q9de9_OI, q9de9_ON, q9de9_OA, q9de9_L, q9nd9_eq, q9or9_eq, Bool.cond_decide]
theorem q9ztW_ok (a : Nat) (n : q9AV) : q9RFok O (q9ztW a n) := by
  intro nL g cT A x r G ws ls st xs hw hM hT hD h
  (rewrite [q9ztW_oq] at h; unfold q9ztW_o at h)
  split at h
  · rename_i z hz
    split at h
    · rename_i hc
      obtain ⟨c1, c3⟩ := hc
      cases h
      have z1 := List.find?_some hz
      have z2 := List.mem_of_find?_eq_some hz
      simp only [Bool.and_eq_true, beq_iff_eq] at z1
      obtain ⟨z3, z4, z5⟩ := z1
      have wz := q9wf_A hw z z2
      obtain ⟨d1, k, d2, d3, d4⟩ := q9rgB_ok hM c1
      have hP := q9fm_of hM z2 z3 (by decide)
      rw [q9FMP_af (by decide), z4, q9ev_zero] at hP
      obtain ⟨b8, cd8, n8, M8, i1, i2, i3, i4, i5⟩ := hP
      have i5 : ∀ j : Nat, 400 * n8.toInt ≤ (j : Int) → j < 4800 → M8 j = 0 := i5
      have l9 := q9leB_ok hM wz.2.2 d1 z5
      rw [i2, d2] at l9
      have l9 : n8.toInt ≤ k.toInt + 0 := l9
      refine q9rf_add hM hw [] List.mem_cons_self q9ty_nil q9no_mem (q9one_mem (q9fm_mk (c := -149) ?_ (by decide) ?_)) q9no_mem q9no_mem
      · show q9nV (q9upL _ _ _ z.1) = _
        rw [q9upL_lt wz.1]
        exact q9famE_ok hM.2.2.2.1 z3 (by decide)
      · show q9FMP O (-149) G ws (q9ev _ (a, 0)) (q9ev _ n)
        rw [q9FMP_af (by decide), q9ev_zero, q9upL_lt (q9okAV_lt c3), q9upL_agr.ev d1]
        refine ⟨b8, cd8, k, M8, i1, d2, i3, i4, ?_⟩
        show ∀ j : Nat, 400 * k.toInt ≤ (j : Int) → j < 4800 → M8 j = 0
        exact fun j h1 h2 => i5 j (by omega) h2
    · cases h
  · cases h
/-- the script's n-th int is q9one of these -/
noncomputable def q9scrR_o (x : q9ST) (n lo hi : Int) : Bool := (q9tX x).any (fun q => q.1 == 1063 && (q.2.1 == ((0, n) : q9AV) && (q.2.2.1 == ((0, 0) : q9AV) && q9rgB x (q.2.2.2, 0) lo hi)))
noncomputable def q9scrR (x : q9ST) (n lo hi : Int) : Bool := q9an9 (q9tX x) (fun q => q9nd9 (q9eq9 (q.1) (1063)) ((q9nd9 (q9eq9 (q.2.1) (((0, n) : q9AV))) ((q9nd9 (q9eq9 (q.2.2.1) (((0, 0) : q9AV))) (q9rgB x (q.2.2.2, 0) lo hi))))))
theorem q9scrR_oq : @q9scrR = @q9scrR_o := by
  delta q9scrR q9scrR_o
  simp only [q9ge9_eq, q9fi9_eq, q9an9_eq, q9al9_eq, q9flt9_eq, q9el9_eq, q9set9_eq, q9ln9_eq, q9gD9_eq, q9ap9_eq, q9eq9_N, q9eq9_I, q9eq9_A, q9eq9_E, q9eq9_OI, q9eq9_ON, q9eq9_OA, q9eq9_L, q9eq9_S, q9de9_N, q9de9_I, q9de9_A, q9le9_N, q9le9_I, q9lt9_N, q9lt9_I, q9de9_E, q9de9_OI, q9de9_ON, q9de9_OA, q9de9_L, q9nd9_eq, q9or9_eq, Bool.cond_decide]
theorem q9scrR_ok {nL : Nat} {g : List Value} {x : q9ST} {r : Nat → Value} {G : q9GH} {ws : va_W} {ls : Array Slot} {st : List Value} (hM : q9SM O nL g x r G ws ls st) (hz0 : (q9tE x)[0]? = some (0, 0, 0)) {n lo hi : Int} (h : q9scrR x n lo hi = true) : ∃ k : Int32, q9oI O.1 1063 (Int32.ofInt n) k ∧ lo ≤ k.toInt ∧ k.toInt ≤ hi := by
  (rewrite [q9scrR_oq] at h; unfold q9scrR_o at h)
  simp only [Bool.and_eq_true, beq_iff_eq, List.any_eq_true] at h
  obtain ⟨q, q1, q2, q3, q4, q5⟩ := h
  obtain ⟨-, k, k1, k2, k3⟩ := q9rgB_ok hM q5
  rw [q9ev_zero] at k1
  have hq := hM.2.2.2.2.2.2.2 q q1
  unfold q9EXok at hq
  rw [q2, q3, q4, q9zero_ev hM.2.2.2.1 hz0, q9zero_ev0 hM.2.2.2.1 hz0, q9exop_hi (by decide), k1] at hq
  exact ⟨k, hq, k2, k3⟩
theorem q9pv_begin {u : Int32} {g : Int} {M : Nat → Int32} (hg : 0 ≤ g ∧ g ≤ 399) (h : ∀ j : Nat, j < 400 → q9oI O.1 1490 (Int32.ofNat j) (M j)) : q9PVV O u g g M := by
  intro j h1 h2
  rw [if_neg (by rw [if_neg (by omega)]; omega)]
  exact h j h1
/-- the reference's painted frames as the round begins -/
noncomputable def q9pvM0_o (c : Int) (a : Nat) (g : q9AV) : q9RF := fun x => if (c = -145 ∨ c = -144) ∧ q9zeroB x = true ∧ q9codeOf x a = some 201 ∧ q9rgB x g 0 399 = true ∧ q9scrB x 2 g = true ∧ q9scrR x 1 0 11 = true ∧ (q9tA x).any (fun z => q9famE (q9tE x) z.1 == some (-139) && z.2.1 == ((a, 0) : q9AV)) = true then some [q9addS x [(0, c, c)] [] [((q9tE x).length, (a, 0), g)] [] []] else none
noncomputable def q9pvM0 (c : Int) (a : Nat) (g : q9AV) : q9RF := fun x => if (c = -145 ∨ c = -144) ∧ q9zeroB x = true ∧ q9codeOf x a = some 201 ∧ q9rgB x g 0 399 = true ∧ q9scrB x 2 g = true ∧ q9scrR x 1 0 11 = true ∧ q9an9 (q9tA x) (fun z => q9nd9 (q9eq9 (q9famE (q9tE x) z.1) (some (-139))) (q9eq9 (z.2.1) (((a, 0) : q9AV)))) = true then some [q9addS x [(0, c, c)] [] [((q9ln9 (q9tE x)), (a, 0), g)] [] []] else none
theorem q9pvM0_oq : @q9pvM0 = @q9pvM0_o := by
  delta q9pvM0 q9pvM0_o
  simp only [q9ge9_eq, q9fi9_eq, q9an9_eq, q9al9_eq, q9flt9_eq, q9el9_eq, q9set9_eq, q9ln9_eq, q9gD9_eq, q9ap9_eq, q9eq9_N, q9eq9_I, q9eq9_A, q9eq9_E, q9eq9_OI, q9eq9_ON, q9eq9_OA, q9eq9_L, q9eq9_S, q9de9_N, q9de9_I, q9de9_A, q9le9_N, q9le9_I, q9lt9_N, q9lt9_I, q9de9_E, q9de9_OI, q9de9_ON, q9de9_OA, q9de9_L, q9nd9_eq, q9or9_eq, Bool.cond_decide]
theorem q9pvM0_ok (c : Int) (a : Nat) (g : q9AV) : q9RFok O (q9pvM0 c a g) := by
  intro nL gs cT A x r G ws ls st xs hw hM hT hD h
  (rewrite [q9pvM0_oq] at h; unfold q9pvM0_o at h)
  split at h
  · rename_i hc
    obtain ⟨c1, c2, c3, c4, c5, c6, c7⟩ := hc
    cases h
    have hz0 := q9zero_at c2
    obtain ⟨d1, u, d2, d3, d4⟩ := q9rgB_ok hM c4
    have hs2 := q9scrB_ok hM hz0 d2 c5
    obtain ⟨k, k1, k2, k3⟩ := q9scrR_ok hM hz0 c6
    obtain ⟨y9, y2, y0⟩ := List.any_eq_true.mp c7
    simp only [Bool.and_eq_true, beq_iff_eq] at y0
    have hV := q9fm_of hM y2 y0.1 (by decide)
    rw [q9FMP_af (by decide), y0.2, q9ev_zero] at hV
    obtain ⟨b8, cd8, n8, M8, i1, i2, i3, i4, i5⟩ := hV
    have i3 : cd8 = 201 := List.mem_singleton.mp i3
    subst i3
    have i5 : ∀ k : Int32, q9oI O.1 1063 (Int32.ofInt 1) k → 0 ≤ k.toInt → k.toInt ≤ 11 → ∀ j : Nat, j < 400 → q9oI O.1 1490 (Int32.ofNat j) (M8 (400 * k.toInt.toNat + j)) := i5
    have hc4 : c = -146 ∨ c = -148 ∨ c = -145 ∨ c = -144 := .inr (.inr c1)
    obtain ⟨n1, n2⟩ := q9pv_ne hc4
    have hcr : -2147483648 ≤ c ∧ c ≤ 2147483647 := by omega
    refine q9rf_add hM hw [.int (Int32.ofInt c)] List.mem_cons_self (q9ty_cons ⟨Int32.ofInt c, rfl, by rw [q9ofInt_toInt32 hcr.1 hcr.2]; exact Int.le_refl _, by rw [q9ofInt_toInt32 hcr.1 hcr.2]; exact Int.le_refl _⟩ q9ty_nil) q9no_mem (q9one_mem (q9fm_mk (c := c) ?_ n2 ?_)) q9no_mem q9no_mem
    · show q9nV (q9upL _ _ _ (q9tE x).length) = _
      rw [show q9upL r (q9tE x).length [Value.int (Int32.ofInt c)] (q9tE x).length = .int (Int32.ofInt c) from q9upL_at 0]
      show some (Int32.ofInt c).toInt = _
      rw [q9ofInt_toInt32 hcr.1 hcr.2]
    · show q9FMP O c G ws (q9ev _ (a, 0)) (q9ev _ g)
      rw [q9FMP_af n1, q9ev_zero, q9upL_lt (q9codeOf_lt c3), q9upL_agr.ev d1, d2]
      refine ⟨b8, 201, u, M8, i1, rfl, ?_, i4, (q9afP_pv hc4).mpr ⟨u, fun j => M8 (400 * k.toInt.toNat + j), hs2, ?_, q9pv_begin ⟨d3, d4⟩ fun j hj => i5 k k1 k2 k3 j hj⟩⟩
      · rw [q9pv_af hc4]
        rcases c1 with rfl | rfl <;> decide
      · unfold q9pvM
        rw [if_neg (by omega)]
        exact ⟨k, k1, ⟨k2, k3⟩, rfl⟩
  · cases h
/-- the class's, of the shot k -/
noncomputable def q9pvS0_o (c : Int) (a o : Nat) (k g : q9AV) : q9RF := fun x => match q9allP x a, q9fA x a k, q9refP x o with
  | some _, some bd, some P => if (c = -146 ∨ c = -148) ∧ q9zeroB x = true ∧ q9rgB x k 0 11 = true ∧ q9scrB x 1 k = true ∧ q9rgB x g 0 399 = true ∧ q9scrB x 2 g = true ∧ bd.2 = 0 ∧ q9codeOf x bd.1 = some 7 ∧ (q9tA x).any (fun z => q9famE (q9tE x) z.1 == some (-139) && z.2.1 == P) = true then some [q9addS x [(2, 151, 0), (0, c, c)] [(bd.1, 14, ((q9tE x).length, 0))] [((q9tE x).length + 1, ((q9tE x).length, 0), g)] [] []] else none
  | _, _, _ => none
noncomputable def q9pvS0 (c : Int) (a o : Nat) (k g : q9AV) : q9RF := fun x => match q9allP x a, q9fA x a k, q9refP x o with
  | some _, some bd, some P => if (c = -146 ∨ c = -148) ∧ q9zeroB x = true ∧ q9rgB x k 0 11 = true ∧ q9scrB x 1 k = true ∧ q9rgB x g 0 399 = true ∧ q9scrB x 2 g = true ∧ bd.2 = 0 ∧ q9codeOf x bd.1 = some 7 ∧ q9an9 (q9tA x) (fun z => q9nd9 (q9eq9 (q9famE (q9tE x) z.1) (some (-139))) (q9eq9 (z.2.1) (P))) = true then some [q9addS x [(2, 151, 0), (0, c, c)] [(bd.1, 14, ((q9ln9 (q9tE x)), 0))] [((q9ln9 (q9tE x)) + 1, ((q9ln9 (q9tE x)), 0), g)] [] []] else none
  | _, _, _ => none
theorem q9pvS0_oq : @q9pvS0 = @q9pvS0_o := by
  delta q9pvS0 q9pvS0_o
  simp only [q9ge9_eq, q9fi9_eq, q9an9_eq, q9al9_eq, q9flt9_eq, q9el9_eq, q9set9_eq, q9ln9_eq, q9gD9_eq, q9ap9_eq, q9eq9_N, q9eq9_I, q9eq9_A, q9eq9_E, q9eq9_OI, q9eq9_ON, q9eq9_OA, q9eq9_L, q9eq9_S, q9de9_N, q9de9_I, q9de9_A, q9le9_N, q9le9_I, q9lt9_N, q9lt9_I, q9de9_E, q9de9_OI, q9de9_ON, q9de9_OA, q9de9_L, q9nd9_eq, q9or9_eq, Bool.cond_decide]
theorem q9pvS0_ok (c : Int) (a o : Nat) (k g : q9AV) : q9RFok O (q9pvS0 c a o k g) := by
  intro nL g9 cT A x r G ws ls st xs hw hM hT hD h
  (rewrite [q9pvS0_oq] at h; unfold q9pvS0_o at h)
  split at h
  · rename_i z bd P hz hbd hP
    split at h
    · rename_i hc
      obtain ⟨c1, c2, c3, c4, c5, c6, c7, q9c8, c9⟩ := hc
      cases h
      have hz0 := q9zero_at c2
      obtain ⟨z1, z2, p, p1, p2, a0, p', f, m, fs, b, M, be, e1, e2, e3, e4, e5, e6, e7, e8⟩ := q9allP_ok hM hw hz
      cases e2
      obtain ⟨d1, kk, d2, d3, d4⟩ := q9rgB_ok hM c3
      obtain ⟨f1, u, f2, f3, f4⟩ := q9rgB_ok hM c5
      have hs1 := q9scrB_ok hM hz0 d2 c4
      have hs2 := q9scrB_ok hM hz0 f2 c6
      obtain ⟨r1, r2, m', b', fs', M2, r3, r4, r5, r6, -⟩ := q9refP_ok hM hT hD hP
      have := q9ref_one hT hD r4 e4
      subst this
      rw [r5] at e5
      cases e5
      have := q9inA.one hD r6 e6
      subst this
      obtain ⟨o9, o1, o2⟩ := q9shot_at hM hw hD hbd c7 q9c8 d1 d2 e1 e3
      have ek : kk.toNatClampNeg = kk.toInt.toNat := rfl
      obtain ⟨gs, M', g1, g2, g3, g4⟩ := e7 kk.toNatClampNeg (by omega) o9 o2
      have g4 := g4 (by omega)
      obtain ⟨y9, y2, y0⟩ := List.any_eq_true.mp c9
      simp only [Bool.and_eq_true, beq_iff_eq] at y0
      have hV := q9fm_of hM y2 y0.1 (by decide)
      rw [q9FMP_af (by decide), y0.2, q9isSym (r := r) r1, r3] at hV
      obtain ⟨b8, cd8, n8, M8, i1, i2, i3, i4, i5⟩ := hV
      cases i1
      have i3 : cd8 = 201 := List.mem_singleton.mp i3
      subst i3
      have := q9inA.one hD r6 i4
      subst this
      have i5 : ∀ k : Int32, q9oI O.1 1063 (Int32.ofInt 1) k → 0 ≤ k.toInt → k.toInt ≤ 11 → ∀ j : Nat, j < 400 → q9oI O.1 1490 (Int32.ofNat j) (M2 (400 * k.toInt.toNat + j)) := i5
      have hc4 : c = -146 ∨ c = -148 ∨ c = -145 ∨ c = -144 := by omega
      obtain ⟨n1, n2⟩ := q9pv_ne hc4
      have hcr : -2147483648 ≤ c ∧ c ≤ 2147483647 := by omega
      obtain ⟨q9, n9, x1, x2⟩ := g1
      have hn0 : ∀ v1 v2 : Value, q9upL r (q9tE x).length [v1, v2] (q9tE x).length = v1 := fun v1 v2 => q9upL_at 0
      have hn1 : ∀ v1 v2 : Value, q9upL r (q9tE x).length [v1, v2] ((q9tE x).length + 1) = v2 := fun v1 v2 => q9upL_at 1
      refine q9rf_add hM hw [.ref (be kk.toNatClampNeg), .int (Int32.ofInt c)] List.mem_cons_self (q9ty_cons ?_ (q9ty_cons ⟨Int32.ofInt c, rfl, by rw [q9ofInt_toInt32 hcr.1 hcr.2]; exact Int.le_refl _, by rw [q9ofInt_toInt32 hcr.1 hcr.2]; exact Int.le_refl _⟩ q9ty_nil)) (q9one_mem ?_) (q9one_mem (q9fm_mk (c := c) ?_ n2 ?_)) q9no_mem q9no_mem
      · obtain ⟨q3, k3, n3, cA3, j1, j2⟩ := g3
        exact ⟨be kk.toNatClampNeg, k3, rfl, List.mem_of_getElem? j1⟩
      · unfold q9FMok
        rw [if_neg (show ¬ ((14 : Nat) = 1000) by decide)]
        refine ⟨o9, q9, 7, gs, ?_, x2, ?_⟩
        · show q9upL _ _ _ bd.1 = _
          rw [q9upL_lt (q9codeOf_lt q9c8)]
          exact o1
        · show gs[14]? = some (q9ev _ ((q9tE x).length, 0))
          rw [q9ev_zero, hn0]
          exact g2
      · show q9nV (q9upL _ _ _ ((q9tE x).length + 1)) = _
        rw [hn1]
        show some (Int32.ofInt c).toInt = _
        rw [q9ofInt_toInt32 hcr.1 hcr.2]
      · show q9FMP O c G ws (q9ev _ ((q9tE x).length, 0)) (q9ev _ g)
        rw [q9FMP_af n1, q9ev_zero, hn0, q9upL_agr.ev f1, f2]
        refine ⟨be kk.toNatClampNeg, 151, u, M', rfl, rfl, ?_, g3, (q9afP_pv hc4).mpr ⟨u, M', hs2, ?_, q9pv_begin ⟨f3, f4⟩ fun j hj => ?_⟩⟩
        · rw [q9pv_af hc4]
          rcases c1 with rfl | rfl <;> decide
        · unfold q9pvM
          rw [if_pos c1]
        · rw [g4 j hj, ek]
          exact i5 kk hs1 d3 d4 j hj
    · cases h
  · cases h
noncomputable def q9pvc7_o (u : Nat) : Int := if u = 0 then -146 else -148
noncomputable def q9pvc7 (u : Nat) : Int := bif q9de9 (u) (0) then -146 else -148
theorem q9pvc7_oq : @q9pvc7 = @q9pvc7_o := by
  delta q9pvc7 q9pvc7_o
  simp only [q9ge9_eq, q9fi9_eq, q9an9_eq, q9al9_eq, q9flt9_eq, q9el9_eq, q9set9_eq, q9ln9_eq, q9gD9_eq, q9ap9_eq, q9eq9_N, q9eq9_I, q9eq9_A, q9eq9_E, q9eq9_OI, q9eq9_ON, q9eq9_OA, q9eq9_L, q9eq9_S, q9de9_N, q9de9_I, q9de9_A, q9le9_N, q9le9_I, q9lt9_N, q9lt9_I, q9de9_E, q9de9_OI, q9de9_ON, q9de9_OA, q9de9_L, q9nd9_eq, q9or9_eq, Bool.cond_decide]
noncomputable def q9pvc12_o (u : Nat) : Int := if u = 0 then -145 else -144
noncomputable def q9pvc12 (u : Nat) : Int := bif q9de9 (u) (0) then -145 else -144
theorem q9pvc12_oq : @q9pvc12 = @q9pvc12_o := by
  delta q9pvc12 q9pvc12_o
  simp only [q9ge9_eq, q9fi9_eq, q9an9_eq, q9al9_eq, q9flt9_eq, q9el9_eq, q9set9_eq, q9ln9_eq, q9gD9_eq, q9ap9_eq, q9eq9_N, q9eq9_I, q9eq9_A, q9eq9_E, q9eq9_OI, q9eq9_ON, q9eq9_OA, q9eq9_L, q9eq9_S, q9de9_N, q9de9_I, q9de9_A, q9le9_N, q9le9_I, q9lt9_N, q9lt9_I, q9de9_E, q9de9_OI, q9de9_ON, q9de9_OA, q9de9_L, q9nd9_eq, q9or9_eq, Bool.cond_decide]
/-- both are painted alike: all -/
noncomputable def q9pvJ_o (u a o : Nat) (k f : q9AV) : q9RF := fun x => match q9excP x a k, q9shB x a k, q9refP x o with
  | some z, some q, some P => if q9zeroB x = true ∧ q9rgB x k 0 11 = true ∧ q9scrB x 1 k = true ∧ q9okAV (q9tE x) (a, 0) = true ∧ q9rgB x f 0 19999 = true ∧ (q9tA x).any (fun y => q9famE (q9tE x) y.1 == some (q9pvc7 u) && (y.2.1 == q.2 && q9eqV x y.2.2 f)) = true ∧ (q9tA x).any (fun y => q9famE (q9tE x) y.1 == some (q9pvc12 u) && (y.2.1 == P && q9eqV x y.2.2 f)) = true then some [q9addS x [] [] [(z.1, (a, 0), (0, 12999))] [] []] else none
  | _, _, _ => none
noncomputable def q9pvJ (u a o : Nat) (k f : q9AV) : q9RF := fun x => match q9excP x a k, q9shB x a k, q9refP x o with
  | some z, some q, some P => if q9zeroB x = true ∧ q9rgB x k 0 11 = true ∧ q9scrB x 1 k = true ∧ q9okAV (q9tE x) (a, 0) = true ∧ q9rgB x f 0 19999 = true ∧ q9an9 (q9tA x) (fun y => q9nd9 (q9eq9 (q9famE (q9tE x) y.1) (some (q9pvc7 u))) ((q9nd9 (q9eq9 (y.2.1) (q.2)) (q9eqV x y.2.2 f)))) = true ∧ q9an9 (q9tA x) (fun y => q9nd9 (q9eq9 (q9famE (q9tE x) y.1) (some (q9pvc12 u))) ((q9nd9 (q9eq9 (y.2.1) (P)) (q9eqV x y.2.2 f)))) = true then some [q9addS x [] [] [(z.1, (a, 0), (0, 12999))] [] []] else none
  | _, _, _ => none
theorem q9pvJ_oq : @q9pvJ = @q9pvJ_o := by
  delta q9pvJ q9pvJ_o
  simp only [q9ge9_eq, q9fi9_eq, q9an9_eq, q9al9_eq, q9flt9_eq, q9el9_eq, q9set9_eq, q9ln9_eq, q9gD9_eq, q9ap9_eq, q9eq9_N, q9eq9_I, q9eq9_A, q9eq9_E, q9eq9_OI, q9eq9_ON, q9eq9_OA, q9eq9_L, q9eq9_S, q9de9_N, q9de9_I, q9de9_A, q9le9_N, q9le9_I, q9lt9_N, q9lt9_I, q9de9_E, q9de9_OI, q9de9_ON, q9de9_OA, q9de9_L, q9nd9_eq, q9or9_eq, Bool.cond_decide]
theorem q9pvJ_ok (u a o : Nat) (k f : q9AV) : q9RFok O (q9pvJ u a o k f) := by
  intro nL g9 cT A x r G ws ls st xs hw hM hT hD h
  (rewrite [q9pvJ_oq] at h; unfold q9pvJ_o at h)
  split at h
  · rename_i z q P hz hq hP
    split at h
    · rename_i hc
      obtain ⟨c1, c2, c3, c4, c5, c6, c7⟩ := hc
      cases h
      have hz0 := q9zero_at c1
      obtain ⟨d1, kk, d2, d3, d4⟩ := q9rgB_ok hM c2
      obtain ⟨f1, w, f2, f3, f4⟩ := q9rgB_ok hM c5
      have hs1 := q9scrB_ok hM hz0 d2 c3
      obtain ⟨z1, z2, p, p1, p2, a0, p', ff, m, fs, b, M, be, e1, e2, e3, e4, e5, e6, e7, e8⟩ := q9excP_ok hM hw d1 d2 hz
      cases e2
      obtain ⟨s1, s2, s3, s4, s5, s6⟩ := q9shB_ok hq
      obtain ⟨r1, r2, m', b', fs', M2, r3, r4, r5, r6, -⟩ := q9refP_ok hM hT hD hP
      have := q9ref_one hT hD r4 e4
      subst this
      rw [r5] at e5
      cases e5
      have := q9inA.one hD r6 e6
      subst this
      obtain ⟨o9, o1, o2⟩ := q9shot_at hM hw hD s1 s3 s4 d1 d2 e1 e3
      have ek : kk.toNatClampNeg = kk.toInt.toNat := rfl
      have h7 : q9pvc7 u = -146 ∨ q9pvc7 u = -148 := by
        (rewrite [q9pvc7_oq]; unfold q9pvc7_o)
        split
        · exact .inl rfl
        · exact .inr rfl
      have h12 : q9pvc12 u = -145 ∨ q9pvc12 u = -144 := by
        (rewrite [q9pvc12_oq]; unfold q9pvc12_o)
        split
        · exact .inl rfl
        · exact .inr rfl
      have hu : q9pvu (q9pvc7 u) = q9pvu (q9pvc12 u) := by
        (rewrite [q9pvc7_oq]; unfold q9pvc7_o; rewrite [q9pvc12_oq]; unfold q9pvc12_o)
        split <;> rfl
      have k7 : q9pvc7 u = -146 ∨ q9pvc7 u = -148 ∨ q9pvc7 u = -145 ∨ q9pvc7 u = -144 := by omega
      have k12 : q9pvc12 u = -146 ∨ q9pvc12 u = -148 ∨ q9pvc12 u = -145 ∨ q9pvc12 u = -144 := by omega
      obtain ⟨n1, n2⟩ := q9pv_ne k7
      obtain ⟨n3, n4⟩ := q9pv_ne k12
      obtain ⟨y9, y2, y0⟩ := List.any_eq_true.mp c6
      simp only [Bool.and_eq_true, beq_iff_eq] at y0
      have hV := q9fm_of hM y2 y0.1 n2
      rw [q9FMP_af n1, y0.2.1, q9eqV_ok hM y0.2.2, f2] at hV
      obtain ⟨b7, cd7, n7, M7, i1, i2, i3, i4, i5⟩ := hV
      cases i2
      obtain ⟨gg, M7', j1, j2, j3⟩ := (q9afP_pv k7).mp i5
      have j2 : M7' = M7 := by
        unfold q9pvM at j2
        rw [if_pos h7] at j2
        exact j2
      subst j2
      obtain ⟨v9, v2, v0⟩ := List.any_eq_true.mp c7
      simp only [Bool.and_eq_true, beq_iff_eq] at v0
      have hW := q9fm_of hM v2 v0.1 n4
      rw [q9FMP_af n3, v0.2.1, q9eqV_ok hM v0.2.2, f2, q9isSym (r := r) r1, r3] at hW
      obtain ⟨b8, cd8, n8, M8, t1, t2, t3, t4, t5⟩ := hW
      cases t1
      cases t2
      have := q9inA.one hD r6 t4
      subst this
      obtain ⟨gg', M8', t6, t7, t8⟩ := (q9afP_pv k12).mp t5
      have hgg : gg' = gg := by
        unfold q9oI at j1 t6
        rw [j1] at t6
        exact (Value.int.inj (Option.some.inj t6)).symm
      subst hgg
      unfold q9pvM at t7
      rw [if_neg (by omega)] at t7
      obtain ⟨k', t9, -, t10⟩ := t7
      have hkk : k' = kk := by
        unfold q9oI at t9 hs1
        rw [t9] at hs1
        exact Value.int.inj (Option.some.inj hs1)
      subst hkk
      refine q9pq_mk hM hw z1 z2 (q9okAV_lt c4) (q9okZ c1 (by decide) (by decide)) ?_ List.mem_cons_self
      rw [q9zero_ev hM.2.2.2.1 hz0]
      refine ⟨a0, _, ff, _, _, _, M2, be, e1, rfl, e3, e4, r5, r6, fun i hi o ho => ?_, e8⟩
      obtain ⟨gs, M', g1, g2, g3, g4⟩ := e7 i hi o ho
      refine ⟨gs, M', g1, g2, g3, fun _ j hj => ?_⟩
      by_cases hip : (i : Int) = p.toInt - 13000
      · have hik : i = k'.toNatClampNeg := by omega
        subst hik
        rw [o2] at ho
        cases ho
        have hb9 := q9fl_ref hM hD s2 s5 (by decide) o1 g1 g2
        rw [q9isSym (r := r) s5, hb9] at i1
        cases i1
        have := q9inA.one hD g3 i4
        subst this
        have x1 := j3 j hj (by omega)
        have x2 := t8 j hj (by omega)
        rw [t10] at x2
        rw [← hu] at x2
        rw [ek]
        by_cases hcc : gg'.toInt ≤ (j : Int) ∧ (j : Int) < (if 20000 ≤ w.toInt then w.toInt - 20000 else w.toInt)
        · rw [if_pos hcc] at x1 x2
          rw [x1]
          exact x2.symm
        · rw [if_neg hcc] at x1 x2
          unfold q9oI at x1 x2
          rw [x1] at x2
          exact Value.int.inj (Option.some.inj x2)
      · exact g4 hip j hj
    · cases h
  · cases h
