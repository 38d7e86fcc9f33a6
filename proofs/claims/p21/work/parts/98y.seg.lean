variable {O : ORC}
/-! a straight walk in pieces, and the array that changes its kind at its end -/
noncomputable def q9segK (st : Nat → q9ST → Option (List (Nat × q9ST))) (target : Nat) : Nat → Nat → q9ST → Option (Nat × q9ST)
  | 0, pc, x => some (pc, x)
  | f + 1, pc, x => if pc = target then none else if q9wfQ x then (match st pc x with
    | some [q] => q9segK st target f q.1 q.2
    | _ => none) else none
theorem q9seg_cat {st : Nat → q9ST → Option (List (Nat × q9ST))} {target m : Nat} {x2 : q9ST} : ∀ (n pc : Nat) (x : q9ST) {pc' : Nat} {x' : q9ST}, q9segK st target n pc x = some (pc', x') → q9seg st target m pc' x' = some x2 → q9seg st target (n + m) pc x = some x2
  | 0, pc, x, pc', x', h, h2 => by
    cases h
    rw [Nat.zero_add]
    exact h2
  | n + 1, pc, x, pc', x', h, h2 => by
    unfold q9segK at h
    rw [show n + 1 + m = (n + m) + 1 by omega]
    unfold q9seg
    split at h
    · cases h
    · rename_i hp
      rw [if_neg hp]
      split at h
      · rename_i hw
        rw [if_pos hw]
        split at h
        · rename_i q hq
          rw [hq]
          exact q9seg_cat n q.1 q.2 h h2
        · cases h
      · cases h
theorem q9seg_end {st : Nat → q9ST → Option (List (Nat × q9ST))} {target m : Nat} {x : q9ST} : q9seg st target (m + 1) target x = some x := by
  unfold q9seg
  rw [if_pos rfl]
noncomputable def q9segF (st : Nat → q9ST → Option (List (Nat × q9ST))) (target pc' : Nat) (x' : q9ST) : Nat → Nat → q9ST → Bool
  | 0, pc, x => pc == pc' && q9eqST x x'
  | f + 1, pc, x => if pc = target then false else if q9wfQ x then (match st pc x with
    | some [q] => q9fcD f q.1 q.2 (fun p9 y => q9segF st target pc' x' f p9 y)
    | _ => false) else false
theorem q9segF_ok {st : Nat → q9ST → Option (List (Nat × q9ST))} {target pc' : Nat} {x' : q9ST} : ∀ (n pc : Nat) (x : q9ST), q9segF st target pc' x' n pc x = true → q9segK st target n pc x = some (pc', x')
  | 0, pc, x, h => by
    unfold q9segF at h
    rw [Bool.and_eq_true, beq_iff_eq] at h
    unfold q9segK
    rw [h.1, q9eqST_ok h.2]
  | n + 1, pc, x, h => by
    unfold q9segF at h
    unfold q9segK
    split at h
    · cases h
    · rename_i hp
      rw [if_neg hp]
      split at h
      · rename_i hw
        rw [if_pos hw]
        split at h
        · rename_i q hq
          rw [q9fcD_eq] at h
          exact q9segF_ok n q.1 q.2 h
        · cases h
      · cases h
noncomputable def q9segB (st : Nat → q9ST → Option (List (Nat × q9ST))) (target n pc : Nat) (x : q9ST) (pc' : Nat) (x' : q9ST) : Bool := q9segF st target pc' x' n pc x
theorem q9segB_ok {st : Nat → q9ST → Option (List (Nat × q9ST))} {target n pc pc' : Nat} {x x' : q9ST} (h : q9segB st target n pc x pc' x' = true) : q9segK st target n pc x = some (pc', x') := q9segF_ok n pc x h
noncomputable def q9mkB1 (o : Option (List (Nat × q9ST))) (pc : Nat) (x : q9ST) : Bool := match o with
  | some [q] => q.1 == pc && q9eqST q.2 x
  | _ => false
theorem q9mkB1_ok {o : Option (List (Nat × q9ST))} {pc : Nat} {x : q9ST} (h : q9mkB1 o pc x = true) : o = some [(pc, x)] := by
  unfold q9mkB1 at h
  split at h
  · rename_i q
    rw [Bool.and_eq_true, beq_iff_eq] at h
    rw [← h.1, ← q9eqST_ok h.2]
  · cases h
noncomputable def q9opB1 (o : Option q9ST) (x : q9ST) : Bool := match o with
  | some y => q9eqST y x
  | none => false
theorem q9opB1_ok {o : Option q9ST} {x : q9ST} (h : q9opB1 o x = true) : o = some x := by
  unfold q9opB1 at h
  split at h
  · rw [q9eqST_ok h]
  · cases h
theorem q9rtM_of {cc : ByteArray} {mac : Nat → q9ST → Option (List (Nat × q9ST))} {z : Nat × Nat × Nat × Nat} {f : Nat} {n : q9EN} {K K2 : List (Nat × Int)} {x x2 x3 : q9ST} {q : Nat × q9ST} (hT : q9eT n = ([], [])) (h1 : q9mkM [(z.1, z.2.1)] n 2 z.1 x 0 = some [q]) (h2 : (q9wfB q.2 && decide ((q9tE q.2).length = (q9tE x).length + 1)) = true) (h3 : q9seg (q9step n K K2 mac (fun _ _ => false) cc) z.2.2.1 f q.1 q.2 = some x2) (h4 : q9wfQ x2 = true) (h5 : q9ret2 (q9eB n) z.2.1 z.2.2.2 (q9tE x).length x2 = some x3) : q9rtM mac z f n K K2 cc z.1 x = some [(z.2.2.1, x3)] := by
  rw [Bool.and_eq_true, decide_eq_true_eq] at h2
  (rewrite [q9rtM_oq]; unfold q9rtM_o)
  rw [if_pos ⟨rfl, hT⟩, h1]
  dsimp only
  rw [if_pos h2, h3]
  dsimp only
  rw [if_pos (q9wfQ_ok h4), h5]
noncomputable def q9rtK (x0 x3 : q9ST) (pc0 pc1 : Nat) (pc : Nat) (x : q9ST) : Option (List (Nat × q9ST)) := if pc = pc0 then (if q9eqST x0 x then some [(pc1, x3)] else none) else none
theorem q9macx_rk {XP : q9ZZ → List Value → Prop} {l : Launch} {own nm : String} {cc : ByteArray} {n : q9EN} {K K2 : List (Nat × Int)} {mac : Nat → q9ST → Option (List (Nat × q9ST))} (z : Nat × Nat × Nat × Nat) (f : Nat) {x0 x3 : q9ST} (hm : q9MACX O XP l q9ALLW own nm cc n K K2 (q9rtM mac z f n K K2 cc)) (h : q9rtM mac z f n K K2 cc z.1 x0 = some [(z.2.2.1, x3)]) : q9MACX O XP l q9ALLW own nm cc n K K2 (q9rtK x0 x3 z.1 z.2.2.1) := by
  intro p e R ko s m args below meth c Q D cT A H0 G0 ws0 z0 g hE hT hX hN pc x ss r hw hk hn
  unfold q9rtK at hk
  split at hk
  · rename_i hp
    split at hk
    · rename_i hx
      cases hk
      have h9 := h
      rw [q9eqST_ok hx, ← hp] at h9
      exact hm hE hT hX hN pc x _ r hw h9 hn
    · cases hk
  · cases hk
