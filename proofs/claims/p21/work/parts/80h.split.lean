variable {O : ORC}
/-! cases: before a place the checker tells apart what is known, and goes on in each case -/
noncomputable def q9two_o (inner : Nat → q9ST → Option (List (Nat × q9ST))) (pc : Nat) (o1 o2 : Option q9ST) : Option (List (Nat × q9ST)) := match o1, o2 with
  | some x1, some x2 => if q9wfB x1 = true ∧ q9wfB x2 = true then (match inner pc x1, inner pc x2 with
    | some s1, some s2 => some (s1 ++ s2)
    | _, _ => none) else none
  | some x1, none => if q9wfB x1 = true then inner pc x1 else none
  | none, some x2 => if q9wfB x2 = true then inner pc x2 else none
  | none, none => some []
noncomputable def q9two (inner : Nat → q9ST → Option (List (Nat × q9ST))) (pc : Nat) (o1 o2 : Option q9ST) : Option (List (Nat × q9ST)) := match o1, o2 with
  | some x1, some x2 => if q9wfB x1 = true ∧ q9wfB x2 = true then (match inner pc x1, inner pc x2 with
    | some s1, some s2 => some ((q9ap9 (s1) (s2)))
    | _, _ => none) else none
  | some x1, none => if q9wfB x1 = true then inner pc x1 else none
  | none, some x2 => if q9wfB x2 = true then inner pc x2 else none
  | none, none => some []
theorem q9two_oq : @q9two = @q9two_o := by
  delta q9two q9two_o
  simp only [q9ge9_eq, q9fi9_eq, q9an9_eq, q9al9_eq, q9flt9_eq, q9el9_eq, q9set9_eq, q9ln9_eq, q9gD9_eq, q9ap9_eq, q9eq9_N, q9eq9_I, q9eq9_A, q9eq9_E, q9eq9_OI, q9eq9_ON, q9eq9_OA, q9eq9_L, q9eq9_S, q9de9_N, q9de9_I, q9de9_A, q9le9_N, q9le9_I, q9lt9_N, q9lt9_I, q9de9_E, q9de9_OI, q9de9_ON, q9de9_OA, q9de9_L, q9nd9_eq, q9or9_eq, Bool.cond_decide]
/-- (place, symbols, comparison, its sides) -/
noncomputable def q9spM_o (inner : Nat → q9ST → Option (List (Nat × q9ST))) (z : Nat × List q9DF × Nat × q9AV × q9AV) (pc : Nat) (x : q9ST) : Option (List (Nat × q9ST)) :=
  if pc = z.1 then (match q9mkT x z.2.1 [] with
    | some th => if q9okAV (q9tE x) (q9sh th z.2.2.2.1) && (q9okAV (q9tE x) (q9sh th z.2.2.2.2) && (q9isInt x (q9sh th z.2.2.2.1) && q9isInt x (q9sh th z.2.2.2.2))) then
        q9two inner pc (q9rfn x z.2.2.1 (q9sh th z.2.2.2.1) (q9sh th z.2.2.2.2)) (q9rfn x (q9negK z.2.2.1) (q9sh th z.2.2.2.1) (q9sh th z.2.2.2.2)) else none
    | none => none) else none
noncomputable def q9spM (inner : Nat → q9ST → Option (List (Nat × q9ST))) (z : Nat × List q9DF × Nat × q9AV × q9AV) (pc : Nat) (x : q9ST) : Option (List (Nat × q9ST)) :=
  bif q9de9 (pc) (z.1) then (match q9mkT x z.2.1 [] with
    | some th => if q9nd9 (q9okAV (q9tE x) (q9sh th z.2.2.2.1)) ((q9nd9 (q9okAV (q9tE x) (q9sh th z.2.2.2.2)) ((q9nd9 (q9isInt x (q9sh th z.2.2.2.1)) (q9isInt x (q9sh th z.2.2.2.2)))))) then
        q9two inner pc (q9rfn x z.2.2.1 (q9sh th z.2.2.2.1) (q9sh th z.2.2.2.2)) (q9rfn x (q9negK z.2.2.1) (q9sh th z.2.2.2.1) (q9sh th z.2.2.2.2)) else none
    | none => none) else none
theorem q9spM_oq : @q9spM = @q9spM_o := by
  delta q9spM q9spM_o
  simp only [q9ge9_eq, q9fi9_eq, q9an9_eq, q9al9_eq, q9flt9_eq, q9el9_eq, q9set9_eq, q9ln9_eq, q9gD9_eq, q9ap9_eq, q9eq9_N, q9eq9_I, q9eq9_A, q9eq9_E, q9eq9_OI, q9eq9_ON, q9eq9_OA, q9eq9_L, q9eq9_S, q9de9_N, q9de9_I, q9de9_A, q9le9_N, q9le9_I, q9lt9_N, q9lt9_I, q9de9_E, q9de9_OI, q9de9_ON, q9de9_OA, q9de9_L, q9nd9_eq, q9or9_eq, Bool.cond_decide]
/-- the q9step itself, after the cases -/
noncomputable def q9stM (n : q9EN) (K K2 : List (Nat × Int)) (mac : Nat → q9ST → Option (List (Nat × q9ST))) (cc : ByteArray) (pc : Nat) (x : q9ST) : Option (List (Nat × q9ST)) := q9step n K K2 mac (fun _ _ => false) cc pc x
section SP
variable {XP : q9ZZ → List Value → Prop} {l : Launch} {own nm : String} {cc : ByteArray} {n : q9EN} {K K2 : List (Nat × Int)}
theorem q9macx_st {mac : Nat → q9ST → Option (List (Nat × q9ST))} (hmac : q9MACX O XP l q9ALLW own nm cc n K K2 mac) : q9MACX O XP l q9ALLW own nm cc n K K2 (q9stM n K K2 mac cc) := by
  intro p e R ko s m args below meth c Q D cT A H0 G0 ws0 z0 g hE hT hX hN pc x ss r hw hm hn
  exact q9step_ok hE hT (fun pc x ss r' hw hm hn => hmac hE hT hX hN pc x ss r' hw hm hn) (rt := fun _ _ => false) (fun pc x r' k hw hd hr => by cases hr) pc x ss r hw hm hn
theorem q9macx_sp {inner : Nat → q9ST → Option (List (Nat × q9ST))} (hin : q9MACX O XP l q9ALLW own nm cc n K K2 inner) (z : Nat × List q9DF × Nat × q9AV × q9AV) : q9MACX O XP l q9ALLW own nm cc n K K2 (q9spM inner z) := by
  intro p e R ko s m args below meth c Q D cT A H0 G0 ws0 z0 g hE hT hX hN pc x ss r hw hm hn
  (rewrite [q9spM_oq] at hm; unfold q9spM_o at hm)
  split at hm
  · split at hm
    · rename_i th hth
      split at hm
      · rename_i hc
        simp only [Bool.and_eq_true] at hc
        obtain ⟨c1, c2, c3, c4⟩ := hc
        generalize q9sh th z.2.2.2.1 = a at hm c1 c3
        generalize q9sh th z.2.2.2.2 = b at hm c2 c4
        generalize z.2.2.1 = k at hm
        intro G ws H locs ls st hM hW
        -- q9one of the cases
        have go1 : ∀ (x1 : q9ST) (s1 : List (Nat × q9ST)), q9wfB x1 = true → inner pc x1 = some s1 → (∀ q ∈ s1, q ∈ ss) → q9more G r x x1 → W p l e R s m args below meth c H locs (ko.1 + q9tN x) (ko.2 + q9tM x) Q (F0 m pc ls st) := by
          intro x1 s1 w1 i1 hs m1
          obtain ⟨m2, m3, m4, m5⟩ := m1.len
          have kk := hin hE hT hX hN pc x1 s1 r w1 i1 (fun q hq r' ha hl => hn q (hs q hq) r' (by rw [m2] at ha; exact ha) (by rw [m2] at hl; exact hl)) G ws H locs ls st (q9more.SM hM m1) hW
          rw [m4, m5] at kk
          exact kk
        by_cases hcm : q9cmpZ k (q9nv (q9ev r a)) (q9nv (q9ev r b))
        · obtain ⟨x1, e1, m1⟩ := q9rfn_ok hM c1 c2 hcm
          rw [e1] at hm
          (rewrite [q9two_oq] at hm; unfold q9two_o at hm)
          split at hm
          · rename_i y1 y2 h1 h2
            cases h1
            split at hm
            · rename_i hww
              split at hm
              · rename_i s1 s2 i1 i2
                cases hm
                exact go1 _ s1 hww.1 i1 (fun q hq => List.mem_append_left _ hq) m1
              · cases hm
            · cases hm
          · rename_i y1 h1 h2
            cases h1
            split at hm
            · rename_i hww
              exact go1 _ ss hww hm (fun q hq => hq) m1
            · cases hm
          · rename_i h1 h2
            cases h1
          · rename_i h1 h2
            cases h1
        · obtain ⟨x1, e1, m1⟩ := q9rfn_ok hM c1 c2 (q9cmp_neg hcm)
          rw [e1] at hm
          (rewrite [q9two_oq] at hm; unfold q9two_o at hm)
          split at hm
          · rename_i y1 y2 h1 h2
            cases h2
            split at hm
            · rename_i hww
              split at hm
              · rename_i s1 s2 i1 i2
                cases hm
                exact go1 _ s2 hww.2 i2 (fun q hq => List.mem_append_right _ hq) m1
              · cases hm
            · cases hm
          · rename_i h1 h2
            cases h2
          · rename_i y1 h1 h2
            cases h2
            split at hm
            · rename_i hww
              exact go1 _ ss hww hm (fun q hq => hq) m1
            · cases hm
          · rename_i h1 h2
            cases h2
      · cases hm
    · cases hm
  · cases hm
end SP
/-- the difference on top of the stack is known to be positive -/
noncomputable def q9sbM_o (inner : Nat → q9ST → Option (List (Nat × q9ST))) (pcs : List Nat) (pc : Nat) (x : q9ST) : Option (List (Nat × q9ST)) :=
  if pcs.elem pc = true then (match q9tS x with
    | b :: _ => (match (q9tX x).find? (fun q => q.1 == 1 && q.2.2.2 == b.1) with
      | some q => (match q9num (q9tE x) q.2.1, q9num (q9tE x) q.2.2.1 with
        | some (0, l1, h1), some (0, l2, h2) => if q9okAV (q9tE x) q.2.1 = true ∧ q9okAV (q9tE x) q.2.2.1 = true ∧ q9leB x q.2.2.1 q.2.1 (-1) = true ∧ -2147483648 ≤ l1 - h2 ∧ h1 - l2 ≤ 2147483647 ∧ q9isInt x b = true then
            (match q9cutLo (q9tE x) b.1 1 with
            | some E => if q9wfB (q9sE x E) = true ∧ E.length = (q9tE x).length then inner pc (q9sE x E) else none
            | none => none) else none
        | _, _ => none)
      | none => none)
    | _ => none)
  else none
noncomputable def q9sbM (inner : Nat → q9ST → Option (List (Nat × q9ST))) (pcs : List Nat) (pc : Nat) (x : q9ST) : Option (List (Nat × q9ST)) :=
  if q9el9 pcs pc = true then (match q9tS x with
    | b :: _ => (match q9fi9 (q9tX x) (fun q => q9nd9 (q9eq9 (q.1) (1)) (q9eq9 (q.2.2.2) (b.1))) with
      | some q => (match q9num (q9tE x) q.2.1, q9num (q9tE x) q.2.2.1 with
        | some (0, l1, h1), some (0, l2, h2) => if q9okAV (q9tE x) q.2.1 = true ∧ q9okAV (q9tE x) q.2.2.1 = true ∧ q9leB x q.2.2.1 q.2.1 (-1) = true ∧ -2147483648 ≤ l1 - h2 ∧ h1 - l2 ≤ 2147483647 ∧ q9isInt x b = true then
            (match q9cutLo (q9tE x) b.1 1 with
            | some E => if q9wfB (q9sE x E) = true ∧ (q9ln9 E) = (q9ln9 (q9tE x)) then inner pc (q9sE x E) else none
            | none => none) else none
        | _, _ => none)
      | none => none)
    | _ => none)
  else none
theorem q9sbM_oq : @q9sbM = @q9sbM_o := by
  delta q9sbM q9sbM_o
  simp only [q9ge9_eq, q9fi9_eq, q9an9_eq, q9al9_eq, q9flt9_eq, q9el9_eq, q9set9_eq, q9ln9_eq, q9gD9_eq, q9ap9_eq, q9eq9_N, q9eq9_I, q9eq9_A, q9eq9_E, q9eq9_OI, q9eq9_ON, q9eq9_OA, q9eq9_L, q9eq9_S, q9de9_N, q9de9_I, q9de9_A, q9le9_N, q9le9_I, q9lt9_N, q9lt9_I, q9de9_E, q9de9_OI, q9de9_ON, q9de9_OA, q9de9_L, q9nd9_eq, q9or9_eq, Bool.cond_decide]
theorem q9macx_sb {XP : q9ZZ → List Value → Prop} {l : Launch} {own nm : String} {cc : ByteArray} {n : q9EN} {K K2 : List (Nat × Int)} {inner : Nat → q9ST → Option (List (Nat × q9ST))} (hin : q9MACX O XP l q9ALLW own nm cc n K K2 inner) (pcs : List Nat) : q9MACX O XP l q9ALLW own nm cc n K K2 (q9sbM inner pcs) := by
  intro p e R ko s m args below meth c Q D cT A H0 G0 ws0 z0 g hE hT hX hN pc x ss r hw hm hn
  (rewrite [q9sbM_oq] at hm; unfold q9sbM_o at hm)
  split at hm
  · split at hm
    · rename_i b rest hS
      split at hm
      · rename_i q hq
        have q1 := List.find?_some hq
        have q2 := List.mem_of_find?_eq_some hq
        simp only [Bool.and_eq_true, beq_iff_eq] at q1
        split at hm
        · rename_i l1 h1 l2 h2 na nb
          split at hm
          · rename_i hc
            obtain ⟨c1, c2, c3, c4, c5, c6⟩ := hc
            split at hm
            · rename_i E hcut
              split at hm
              · rename_i hwE
                obtain ⟨hwE, hlE⟩ := hwE
                intro G ws H locs ls st hM hW
                obtain ⟨U, u1, -, u3, u4⟩ := q9num_int hM.2.2.2.1 c1 na
                obtain ⟨V, v1, -, v3, v4⟩ := q9num_int hM.2.2.2.1 c2 nb
                have hle := q9leB_ok hM c2 c1 c3
                rw [u1, v1] at hle
                have hle : V.toInt ≤ U.toInt + -1 := hle
                have hXX := hM.2.2.2.2.2.2.2 q q2
                unfold q9EXok at hXX
                rw [q1.1, q1.2, u1, v1] at hXX
                have hXX : some (Value.int (U - V)) = some (r b.1) := hXX
                have hr : r b.1 = .int (U - V) := (Option.some.inj hXX).symm
                have hsub : (U - V).toInt = U.toInt - V.toInt := q9n_sub (by omega) (by omega)
                have hiv : q9iv r b.1 = (U - V).toInt := by
                  unfold q9iv
                  rw [hr]
                (rewrite [q9isInt_oq] at c6; unfold q9isInt_o at c6)
                cases hEb : (q9tE x)[b.1]? with
                | none => rw [hEb] at c6; cases c6
                | some t =>
                  rw [hEb] at c6
                  have ht : t.1 = 0 := by simpa using c6
                  obtain ⟨E', k1, k2, k3, -⟩ := q9cutLo_ok hM.2.2.2.1 hEb (.inl ht) (l := 1) (by omega)
                  rw [hcut] at k1
                  cases k1
                  exact hin hE hT hX hN pc (q9sE x E) ss r hwE hm (fun q hq r' ha hl => hn q hq r' (by rw [← hlE]; exact ha) (by rw [← hlE]; exact hl)) G ws H locs ls st (hM.E k2) hW
              · cases hm
            · cases hm
          · cases hm
        · cases hm
      · cases hm
    · cases hm
  · cases hm
/-- a field is looked q9up before a place: (place, place on the stack, field) -/
noncomputable def q9ftM_o (inner : Nat → q9ST → Option (List (Nat × q9ST))) (B : q9TB) (z : Nat × Nat × Nat) (pc : Nat) (x : q9ST) : Option (List (Nat × q9ST)) :=
  if pc = z.1 then (match (q9tS x)[z.2.1]? with
    | some a => (match (q9tE x)[a.1]? with
      | some (2, cd, _) => if cd.toNat < 100 ∧ z.2.2 ≠ 1000 then (match q9fet B x a.1 cd.toNat z.2.2 with
        | some (x1, _) => if q9wfB x1 = true then inner pc x1 else none
        | none => none) else none
      | _ => none)
    | none => none) else none
noncomputable def q9ftM (inner : Nat → q9ST → Option (List (Nat × q9ST))) (B : q9TB) (z : Nat × Nat × Nat) (pc : Nat) (x : q9ST) : Option (List (Nat × q9ST)) :=
  bif q9de9 (pc) (z.1) then (match (q9ge9 (q9tS x) (z.2.1)) with
    | some a => (match (q9ge9 (q9tE x) (a.1)) with
      | some (2, cd, _) => if cd.toNat < 100 ∧ z.2.2 ≠ 1000 then (match q9fet B x a.1 cd.toNat z.2.2 with
        | some (x1, _) => if q9wfB x1 = true then inner pc x1 else none
        | none => none) else none
      | _ => none)
    | none => none) else none
theorem q9ftM_oq : @q9ftM = @q9ftM_o := by
  delta q9ftM q9ftM_o
  simp only [q9ge9_eq, q9fi9_eq, q9an9_eq, q9al9_eq, q9flt9_eq, q9el9_eq, q9set9_eq, q9ln9_eq, q9gD9_eq, q9ap9_eq, q9eq9_N, q9eq9_I, q9eq9_A, q9eq9_E, q9eq9_OI, q9eq9_ON, q9eq9_OA, q9eq9_L, q9eq9_S, q9de9_N, q9de9_I, q9de9_A, q9le9_N, q9le9_I, q9lt9_N, q9lt9_I, q9de9_E, q9de9_OI, q9de9_ON, q9de9_OA, q9de9_L, q9nd9_eq, q9or9_eq, Bool.cond_decide]
theorem q9macx_ft {XP : q9ZZ → List Value → Prop} {l : Launch} {own nm : String} {cc : ByteArray} {n : q9EN} {K K2 : List (Nat × Int)} {inner : Nat → q9ST → Option (List (Nat × q9ST))} (hin : q9MACX O XP l q9ALLW own nm cc n K K2 inner) (hB : q9eB n = q9TBL) (z : Nat × Nat × Nat) : q9MACX O XP l q9ALLW own nm cc n K K2 (q9ftM inner q9TBL z) := by
  intro p e R ko s m args below meth c Q D cT A H0 G0 ws0 z0 g hE hT hX hN pc x ss r hw hm hn
  (rewrite [q9ftM_oq] at hm; unfold q9ftM_o at hm)
  split at hm
  · split at hm
    · rename_i a hS
      split at hm
      · rename_i cd z9 hEa
        split at hm
        · rename_i hc
          split at hm
          · rename_i x1 v hf
            split at hm
            · rename_i hw1
              intro G ws H locs ls st hM hW
              have hW' := hW
              obtain ⟨hP, hD, hS9, hTy, hXg, hKe⟩ := hW'
              obtain ⟨e0, b, nb, eb, hmm⟩ := q9ev_ref hM.2.2.2.1 hEa (by simp)
              have hk : r a.1 = .ref b := e0.symm.trans eb
              have hmm : (b, cd.toNat, nb) ∈ G := hmm
              have hal : a.1 < (q9tE x).length := (List.getElem?_eq_some_iff.mp hEa).1
              rw [hB] at hTy
              obtain ⟨r', i, fs, F, g1, g2, g3, g4, g5, g6, -⟩ := q9fet_ok hw hM hTy hD hc.2 hk hal hmm hc.1 hf
              have kk := hin hE hT hX hN pc x1 ss r' hw1 hm (fun q hq r2 ha hl => hn q hq r2 (g1.tr ha g2) (Nat.le_trans g2 hl)) G ws H locs ls st g3 hW
              rw [g5, g6] at kk
              exact kk
            · cases hm
          · cases hm
        · cases hm
      · cases hm
    · cases hm
  · cases hm
