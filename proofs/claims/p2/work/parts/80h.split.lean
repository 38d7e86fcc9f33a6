/-! cases: before a place the checker tells apart what is known, and goes on in each case -/
def q9two (inner : Nat → q9ST → Option (List (Nat × q9ST))) (pc : Nat) (o1 o2 : Option q9ST) : Option (List (Nat × q9ST)) := match o1, o2 with
  | some x1, some x2 => if q9wfB x1 = true ∧ q9wfB x2 = true then (match inner pc x1, inner pc x2 with
    | some s1, some s2 => some (s1 ++ s2)
    | _, _ => none) else none
  | some x1, none => if q9wfB x1 = true then inner pc x1 else none
  | none, some x2 => if q9wfB x2 = true then inner pc x2 else none
  | none, none => some []
/-- (place, symbols, comparison, its sides) -/
def q9spM (inner : Nat → q9ST → Option (List (Nat × q9ST))) (z : Nat × List q9DF × Nat × q9AV × q9AV) (pc : Nat) (x : q9ST) : Option (List (Nat × q9ST)) :=
  if pc = z.1 then (match q9mkT x z.2.1 [] with
    | some th => if q9okAV (q9tE x) (q9sh th z.2.2.2.1) && (q9okAV (q9tE x) (q9sh th z.2.2.2.2) && (q9isInt x (q9sh th z.2.2.2.1) && q9isInt x (q9sh th z.2.2.2.2))) then
        q9two inner pc (q9rfn x z.2.2.1 (q9sh th z.2.2.2.1) (q9sh th z.2.2.2.2)) (q9rfn x (q9negK z.2.2.1) (q9sh th z.2.2.2.1) (q9sh th z.2.2.2.2)) else none
    | none => none) else none
/-- the q9step itself, after the cases -/
def q9stM (n : q9EN) (K K2 : List (Nat × Int)) (mac : Nat → q9ST → Option (List (Nat × q9ST))) (cc : ByteArray) (pc : Nat) (x : q9ST) : Option (List (Nat × q9ST)) := q9step n K K2 mac (fun _ _ => false) cc pc x
section SP
variable {XP : q9ZZ → List Value → Prop} {l : Launch} {own nm : String} {cc : ByteArray} {n : q9EN} {K K2 : List (Nat × Int)}
theorem q9macx_st {mac : Nat → q9ST → Option (List (Nat × q9ST))} (hmac : q9MACX XP l q9ALLW own nm cc n K K2 mac) : q9MACX XP l q9ALLW own nm cc n K K2 (q9stM n K K2 mac cc) := by
  intro p e R ko s m args below meth c Q D cT A H0 G0 ws0 z0 g hE hT hX hN pc x ss r hw hm hn
  exact q9step_ok hE hT (fun pc x ss r' hw hm hn => hmac hE hT hX hN pc x ss r' hw hm hn) (rt := fun _ _ => false) (fun pc x r' k hw hd hr => by cases hr) pc x ss r hw hm hn
theorem q9macx_sp {inner : Nat → q9ST → Option (List (Nat × q9ST))} (hin : q9MACX XP l q9ALLW own nm cc n K K2 inner) (z : Nat × List q9DF × Nat × q9AV × q9AV) : q9MACX XP l q9ALLW own nm cc n K K2 (q9spM inner z) := by
  intro p e R ko s m args below meth c Q D cT A H0 G0 ws0 z0 g hE hT hX hN pc x ss r hw hm hn
  unfold q9spM at hm
  split at hm
  · split at hm
    · rename_i th hth
      split at hm
      · rename_i hc
        simp only [Bool.and_eq_true] at hc
        obtain ⟨c1, c2, c3, c4⟩ := hc
        generalize q9sh th z.2.2.2.1 = a at hm c1 c3
        generalize q9sh th z.2.2.2.2 = b at hm c2 c4
        generalize z.2.2.1 = k at hm
        intro G ws H locs ls st hM hW
        -- q9one of the cases
        have go1 : ∀ (x1 : q9ST) (s1 : List (Nat × q9ST)), q9wfB x1 = true → inner pc x1 = some s1 → (∀ q ∈ s1, q ∈ ss) → q9more G r x x1 → W p l e R s m args below meth c H locs (ko.1 + q9tN x) (ko.2 + q9tM x) Q (F0 m pc ls st) := by
          intro x1 s1 w1 i1 hs m1
          obtain ⟨m2, m3, m4, m5⟩ := m1.len
          have kk := hin hE hT hX hN pc x1 s1 r w1 i1 (fun q hq r' ha hl => hn q (hs q hq) r' (by rw [m2] at ha; exact ha) (by rw [m2] at hl; exact hl)) G ws H locs ls st (q9more.SM hM m1) hW
          rw [m4, m5] at kk
          exact kk
        by_cases hcm : q9cmpZ k (q9nv (q9ev r a)) (q9nv (q9ev r b))
        · obtain ⟨x1, e1, m1⟩ := q9rfn_ok hM c1 c2 hcm
          rw [e1] at hm
          unfold q9two at hm
          split at hm
          · rename_i y1 y2 h1 h2
            cases h1
            split at hm
            · rename_i hww
              split at hm
              · rename_i s1 s2 i1 i2
                cases hm
                exact go1 _ s1 hww.1 i1 (fun q hq => List.mem_append_left _ hq) m1
              · cases hm
            · cases hm
          · rename_i y1 h1 h2
            cases h1
            split at hm
            · rename_i hww
              exact go1 _ ss hww hm (fun q hq => hq) m1
            · cases hm
          · rename_i h1 h2
            cases h1
          · rename_i h1 h2
            cases h1
        · obtain ⟨x1, e1, m1⟩ := q9rfn_ok hM c1 c2 (q9cmp_neg hcm)
          rw [e1] at hm
          unfold q9two at hm
          split at hm
          · rename_i y1 y2 h1 h2
            cases h2
            split at hm
            · rename_i hww
              split at hm
              · rename_i s1 s2 i1 i2
                cases hm
                exact go1 _ s2 hww.2 i2 (fun q hq => List.mem_append_right _ hq) m1
              · cases hm
            · cases hm
          · rename_i h1 h2
            cases h2
          · rename_i y1 h1 h2
            cases h2
            split at hm
            · rename_i hww
              exact go1 _ ss hww hm (fun q hq => hq) m1
            · cases hm
          · rename_i h1 h2
            cases h2
      · cases hm
    · cases hm
  · cases hm
end SP
