variable {O : ORC}
/-! a symbolic state: types of symbols, locals, stack, ghosts, known fields, known elements, comparisons, results of operations, new cells, their slots -/
abbrev q9ST : Type := List q9ET × List (Nat × q9AV) × List q9AV × List q9AV × List (Nat × Nat × q9AV) × List (Nat × q9AV × q9AV) × List (Nat × Nat × Int) × List (Nat × q9AV × q9AV × Nat) × Nat × Nat
abbrev q9tE (x : q9ST) : List q9ET := x.1
abbrev q9tL (x : q9ST) : List (Nat × q9AV) := x.2.1
abbrev q9tS (x : q9ST) : List q9AV := x.2.2.1
abbrev q9tG (x : q9ST) : List q9AV := x.2.2.2.1
abbrev q9tF (x : q9ST) : List (Nat × Nat × q9AV) := x.2.2.2.2.1
abbrev q9tA (x : q9ST) : List (Nat × q9AV × q9AV) := x.2.2.2.2.2.1
abbrev q9tC (x : q9ST) : List (Nat × Nat × Int) := x.2.2.2.2.2.2.1
abbrev q9tX (x : q9ST) : List (Nat × q9AV × q9AV × Nat) := x.2.2.2.2.2.2.2.1
abbrev q9tN (x : q9ST) : Nat := x.2.2.2.2.2.2.2.2.1
abbrev q9tM (x : q9ST) : Nat := x.2.2.2.2.2.2.2.2.2
noncomputable def q9sE (x : q9ST) (v : List q9ET) : q9ST := (v, q9tL x, q9tS x, q9tG x, q9tF x, q9tA x, q9tC x, q9tX x, q9tN x, q9tM x)
noncomputable def q9sL (x : q9ST) (v : List (Nat × q9AV)) : q9ST := (q9tE x, v, q9tS x, q9tG x, q9tF x, q9tA x, q9tC x, q9tX x, q9tN x, q9tM x)
noncomputable def q9sS (x : q9ST) (v : List q9AV) : q9ST := (q9tE x, q9tL x, v, q9tG x, q9tF x, q9tA x, q9tC x, q9tX x, q9tN x, q9tM x)
noncomputable def q9sF (x : q9ST) (v : List (Nat × Nat × q9AV)) : q9ST := (q9tE x, q9tL x, q9tS x, q9tG x, v, q9tA x, q9tC x, q9tX x, q9tN x, q9tM x)
noncomputable def q9sA (x : q9ST) (v : List (Nat × q9AV × q9AV)) : q9ST := (q9tE x, q9tL x, q9tS x, q9tG x, q9tF x, v, q9tC x, q9tX x, q9tN x, q9tM x)
noncomputable def q9sC (x : q9ST) (v : List (Nat × Nat × Int)) : q9ST := (q9tE x, q9tL x, q9tS x, q9tG x, q9tF x, q9tA x, v, q9tX x, q9tN x, q9tM x)
noncomputable def q9sX (x : q9ST) (v : List (Nat × q9AV × q9AV × Nat)) : q9ST := (q9tE x, q9tL x, q9tS x, q9tG x, q9tF x, q9tA x, q9tC x, v, q9tN x, q9tM x)
noncomputable def q9sNM (x : q9ST) (a b : Nat) : q9ST := (q9tE x, q9tL x, q9tS x, q9tG x, q9tF x, q9tA x, q9tC x, q9tX x, a, b)
noncomputable def q9wfB_o (x : q9ST) : Bool :=
  (q9tL x).all (fun q => q9okAV (q9tE x) q.2) && ((q9tS x).all (q9okAV (q9tE x)) && ((q9tG x).all (q9okAV (q9tE x)) && ((q9tF x).all (fun q => decide (q.1 < (q9tE x).length) && q9okAV (q9tE x) q.2.2) && ((q9tA x).all (fun q => decide (q.1 < (q9tE x).length) && (q9okAV (q9tE x) q.2.1 && q9okAV (q9tE x) q.2.2)) && ((q9tC x).all (fun q => decide (q.1 < (q9tE x).length) && decide (q.2.1 < (q9tE x).length)) && (q9tX x).all (fun q => q9okAV (q9tE x) q.2.1 && (q9okAV (q9tE x) q.2.2.1 && decide (q.2.2.2 < (q9tE x).length))))))))
noncomputable def q9wfB (x : q9ST) : Bool :=
  q9nd9 (q9al9 (q9tL x) (fun q => q9okAV (q9tE x) q.2)) ((q9nd9 (q9al9 (q9tS x) (q9okAV (q9tE x))) ((q9nd9 (q9al9 (q9tG x) (q9okAV (q9tE x))) ((q9nd9 (q9al9 (q9tF x) (fun q => q9nd9 ((q9lt9 (q.1) ((q9ln9 (q9tE x))))) (q9okAV (q9tE x) q.2.2))) ((q9nd9 (q9al9 (q9tA x) (fun q => q9nd9 ((q9lt9 (q.1) ((q9ln9 (q9tE x))))) ((q9nd9 (q9okAV (q9tE x) q.2.1) (q9okAV (q9tE x) q.2.2))))) ((q9nd9 (q9al9 (q9tC x) (fun q => q9nd9 ((q9lt9 (q.1) ((q9ln9 (q9tE x))))) ((q9lt9 (q.2.1) ((q9ln9 (q9tE x))))))) (q9al9 (q9tX x) (fun q => q9nd9 (q9okAV (q9tE x) q.2.1) ((q9nd9 (q9okAV (q9tE x) q.2.2.1) ((q9lt9 (q.2.2.2) ((q9ln9 (q9tE x)))))))))))))))))))
theorem q9wfB_oq : @q9wfB = @q9wfB_o := by
  delta q9wfB q9wfB_o
  simp only [q9ge9_eq, q9fi9_eq, q9an9_eq, q9al9_eq, q9flt9_eq, q9el9_eq, q9set9_eq, q9ln9_eq, q9gD9_eq, q9ap9_eq, q9eq9_N, q9eq9_I, q9eq9_A, q9eq9_E, q9eq9_OI, q9eq9_ON, q9eq9_OA, q9eq9_L, q9eq9_S, q9de9_N, q9de9_I, q9de9_A, q9le9_N, q9le9_I, q9lt9_N, q9lt9_I, q9de9_E, q9de9_OI, q9de9_ON, q9de9_OA, q9de9_L, q9nd9_eq, q9or9_eq, Bool.cond_decide]
/-- operations whose result is a symbol of its own -/
noncomputable def q9exop (O : ORC) (o : Nat) (a b : Value) : Option Value := q9exo O.1 o a b
theorem q9exop_hi {o : Nat} (h : 1000 ≤ o) {a b : Value} : q9exop O o a b = O.1 o a b := by
  unfold q9exop q9exo
  split
  all_goals first
    | omega
    | rw [if_pos h]
/-- a known field; at place 1000 an array's length -/
noncomputable def q9FMok (r : Nat → Value) (G : q9GH) (ws : va_W) (q : Nat × Nat × q9AV) : Prop := if q.2.1 = 1000 then ∃ (a cd n : Nat) (x : Int32), r q.1 = .ref a ∧ (a, cd, n) ∈ G ∧ q9ev r q.2.2 = .int x ∧ x.toInt = n
  else ∃ (a i ci : Nat) (fs : List Value), r q.1 = .ref a ∧ ws[i]? = some (a, .inr (ci, fs)) ∧ fs[q.2.1]? = some (q9ev r q.2.2)
noncomputable def q9ALok (r : Nat → Value) (ws : va_W) (q : Nat × q9AV × q9AV) : Prop := ∃ (a i : Nat) (cA : ClassId) (n : Nat) (f : (Nat → Int32) ⊕ (Nat → Int64) ⊕ (Nat → UInt32) ⊕ (Nat → UInt64) ⊕ (Nat → Option Nat)) (x : Int32), r q.1 = .ref a ∧ ws[i]? = some (a, .inl (cA, n, f)) ∧ q9ev r q.2.1 = .int x ∧ q9ev r q.2.2 = q9elV (.inl (cA, n, f)) x.toNatClampNeg
/-- a known element; or what is known of the reference's lines -/
noncomputable def q9AMok (O : ORC) (r : Nat → Value) (G : q9GH) (ws : va_W) (q : Nat × q9AV × q9AV) : Prop := q9ALok r ws q ∨ q9JA O G ws (r q.1) (q9ev r q.2.1) (q9ev r q.2.2)
noncomputable def q9FCok (r : Nat → Value) (q : Nat × Nat × Int) : Prop := q9iv r q.1 ≤ q9iv r q.2.1 + q.2.2
noncomputable def q9EXok (O : ORC) (r : Nat → Value) (q : Nat × q9AV × q9AV × Nat) : Prop := q9exop O q.1 (q9ev r q.2.1) (q9ev r q.2.2.1) = some (r q.2.2.2)
/-- what a state says of the machine -/
noncomputable def q9SM (O : ORC) (nL : Nat) (g : List Value) (x : q9ST) (r : Nat → Value) (G : q9GH) (ws : va_W) (ls : Array Slot) (st : List Value) : Prop :=
  lv_has ls nL ((q9tL x).map fun q => (q.1, q9ev r q.2)) ∧ st = (q9tS x).map (q9ev r) ∧ g = (q9tG x).map (q9ev r) ∧ q9SAT G (q9tE x) r ∧ (∀ q ∈ q9tF x, q9FMok r G ws q) ∧ (∀ q ∈ q9tA x, q9AMok O r G ws q) ∧ (∀ q ∈ q9tC x, q9FCok r q) ∧ ∀ q ∈ q9tX x, q9EXok O r q
noncomputable def q9agr (n : Nat) (r r' : Nat → Value) : Prop := ∀ k, k < n → r' k = r k
theorem q9agr.rf {n : Nat} {r : Nat → Value} : q9agr n r r := fun _ _ => rfl
theorem q9agr.tr {n n' : Nat} {r r' r2 : Nat → Value} (h : q9agr n r r') (h2 : q9agr n' r' r2) (hn : n ≤ n') : q9agr n r r2 := fun k hk => (h2 k (Nat.lt_of_lt_of_le hk hn)).trans (h k hk)
theorem q9agr.ev {E : List q9ET} {r r' : Nat → Value} (h : q9agr E.length r r') {a : q9AV} (ha : q9okAV E a = true) : q9ev r' a = q9ev r a := q9ev_agree (h _ (q9okAV_lt ha))
theorem q9agr.iv {n : Nat} {r r' : Nat → Value} (h : q9agr n r r') {k : Nat} (hk : k < n) : q9iv r' k = q9iv r k := by unfold q9iv; rw [h k hk]
theorem q9wf_L {x : q9ST} (h : q9wfB x = true) : ∀ q ∈ q9tL x, q9okAV (q9tE x) q.2 = true := by
  (rewrite [q9wfB_oq] at h; unfold q9wfB_o at h)
  simp only [Bool.and_eq_true, List.all_eq_true] at h
  exact fun q hq => h.1 q hq
theorem q9wf_S {x : q9ST} (h : q9wfB x = true) : ∀ q ∈ q9tS x, q9okAV (q9tE x) q = true := by
  (rewrite [q9wfB_oq] at h; unfold q9wfB_o at h)
  simp only [Bool.and_eq_true, List.all_eq_true] at h
  exact fun q hq => h.2.1 q hq
theorem q9wf_G {x : q9ST} (h : q9wfB x = true) : ∀ q ∈ q9tG x, q9okAV (q9tE x) q = true := by
  (rewrite [q9wfB_oq] at h; unfold q9wfB_o at h)
  simp only [Bool.and_eq_true, List.all_eq_true] at h
  exact fun q hq => h.2.2.1 q hq
theorem q9wf_F {x : q9ST} (h : q9wfB x = true) : ∀ q ∈ q9tF x, q.1 < (q9tE x).length ∧ q9okAV (q9tE x) q.2.2 = true := by
  (rewrite [q9wfB_oq] at h; unfold q9wfB_o at h)
  simp only [Bool.and_eq_true, List.all_eq_true, decide_eq_true_eq] at h
  exact fun q hq => h.2.2.2.1 q hq
theorem q9wf_A {x : q9ST} (h : q9wfB x = true) : ∀ q ∈ q9tA x, q.1 < (q9tE x).length ∧ q9okAV (q9tE x) q.2.1 = true ∧ q9okAV (q9tE x) q.2.2 = true := by
  (rewrite [q9wfB_oq] at h; unfold q9wfB_o at h)
  simp only [Bool.and_eq_true, List.all_eq_true, decide_eq_true_eq] at h
  exact fun q hq => h.2.2.2.2.1 q hq
theorem q9wf_C {x : q9ST} (h : q9wfB x = true) : ∀ q ∈ q9tC x, q.1 < (q9tE x).length ∧ q.2.1 < (q9tE x).length := by
  (rewrite [q9wfB_oq] at h; unfold q9wfB_o at h)
  simp only [Bool.and_eq_true, List.all_eq_true, decide_eq_true_eq] at h
  exact fun q hq => h.2.2.2.2.2.1 q hq
theorem q9wf_X {x : q9ST} (h : q9wfB x = true) : ∀ q ∈ q9tX x, q9okAV (q9tE x) q.2.1 = true ∧ q9okAV (q9tE x) q.2.2.1 = true ∧ q.2.2.2 < (q9tE x).length := by
  (rewrite [q9wfB_oq] at h; unfold q9wfB_o at h)
  simp only [Bool.and_eq_true, List.all_eq_true, decide_eq_true_eq] at h
  exact fun q hq => h.2.2.2.2.2.2 q hq
/-- q9one symbol q9more -/
theorem q9SM.fresh {nL : Nat} {g : List Value} {x : q9ST} {r : Nat → Value} {G : q9GH} {ws : va_W} {ls : Array Slot} {st : List Value} (h : q9SM O nL g x r G ws ls st) (hw : q9wfB x = true) {t : q9ET} {v : Value} (hv : q9tyV G t v) :
    q9SM O nL g (q9sE x (q9tE x ++ [t])) (q9up r (q9tE x).length v) G ws ls st := by
  obtain ⟨h1, h2, h3, h4, h5, h6, h7, h8⟩ := h
  have ha : q9agr (q9tE x).length r (q9up r (q9tE x).length v) := fun k hk => q9up_lt hk
  refine ⟨?_, ?_, ?_, ?_, fun q hq => ?_, fun q hq => ?_, fun q hq => ?_, fun q hq => ?_⟩
  · rw [show ((q9tL (q9sE x (q9tE x ++ [t]))).map fun q => (q.1, q9ev (q9up r (q9tE x).length v) q.2)) = (q9tL x).map fun q => (q.1, q9ev r q.2) from List.map_congr_left fun q hq => by rw [ha.ev (q9wf_L hw q hq)]]
    exact h1
  · rw [h2]
    exact List.map_congr_left fun q hq => (ha.ev (q9wf_S hw q hq)).symm
  · rw [h3]
    exact List.map_congr_left fun q hq => (ha.ev (q9wf_G hw q hq)).symm
  · intro k t' hk
    by_cases hl : k < (q9tE x).length
    · have hk : (q9tE x ++ [t])[k]? = some t' := hk
      rw [List.getElem?_append_left hl] at hk
      rw [q9up_lt hl]
      exact h4 k t' hk
    · have hk : (q9tE x ++ [t])[k]? = some t' := hk
      rw [List.getElem?_append_right (by omega)] at hk
      have hz : k - (q9tE x).length < 1 := (List.getElem?_eq_some_iff.mp hk).1
      have hz : k = (q9tE x).length := by omega
      subst hz
      rw [Nat.sub_self] at hk
      cases hk
      rw [q9up_at]
      exact hv
  · have h9 := h5 q hq
    obtain ⟨w1, w2⟩ := q9wf_F hw q hq
    unfold q9FMok at h9 ⊢
    rw [ha.ev w2, ha _ w1]
    exact h9
  · have h9 := h6 q hq
    obtain ⟨w1, w2, w3⟩ := q9wf_A hw q hq
    unfold q9AMok q9ALok at h9 ⊢
    rw [ha _ w1, ha.ev w2, ha.ev w3]
    exact h9
  · obtain ⟨w1, w2⟩ := q9wf_C hw q hq
    unfold q9FCok
    rw [ha.iv w1, ha.iv w2]
    exact h7 q hq
  · obtain ⟨w1, w2, w3⟩ := q9wf_X hw q hq
    unfold q9EXok
    rw [ha.ev w1, ha.ev w2, ha _ w3]
    exact h8 q hq
theorem q9SM.S {nL : Nat} {g : List Value} {x : q9ST} {r : Nat → Value} {G : q9GH} {ws : va_W} {ls : Array Slot} {st : List Value} (h : q9SM O nL g x r G ws ls st) (v : List q9AV) : q9SM O nL g (q9sS x v) r G ws ls (v.map (q9ev r)) :=
  ⟨h.1, rfl, h.2.2⟩
theorem q9SM.E {nL : Nat} {g : List Value} {x : q9ST} {r : Nat → Value} {G : q9GH} {ws : va_W} {ls : Array Slot} {st : List Value} (h : q9SM O nL g x r G ws ls st) {E : List q9ET} (hE : q9SAT G E r) : q9SM O nL g (q9sE x E) r G ws ls st :=
  ⟨h.1, h.2.1, h.2.2.1, hE, h.2.2.2.2⟩
theorem q9SM.C {nL : Nat} {g : List Value} {x : q9ST} {r : Nat → Value} {G : q9GH} {ws : va_W} {ls : Array Slot} {st : List Value} (h : q9SM O nL g x r G ws ls st) {C : List (Nat × Nat × Int)} (hC : ∀ q ∈ C, q9FCok r q) : q9SM O nL g (q9sC x C) r G ws ls st :=
  ⟨h.1, h.2.1, h.2.2.1, h.2.2.2.1, h.2.2.2.2.1, h.2.2.2.2.2.1, hC, h.2.2.2.2.2.2.2⟩
theorem q9SM.X {nL : Nat} {g : List Value} {x : q9ST} {r : Nat → Value} {G : q9GH} {ws : va_W} {ls : Array Slot} {st : List Value} (h : q9SM O nL g x r G ws ls st) {X : List (Nat × q9AV × q9AV × Nat)} (hX : ∀ q ∈ X, q9EXok O r q) : q9SM O nL g (q9sX x X) r G ws ls st :=
  ⟨h.1, h.2.1, h.2.2.1, h.2.2.2.1, h.2.2.2.2.1, h.2.2.2.2.2.1, h.2.2.2.2.2.2.1, hX⟩
theorem q9SM.F {nL : Nat} {g : List Value} {x : q9ST} {r : Nat → Value} {G : q9GH} {ws : va_W} {ls : Array Slot} {st : List Value} (h : q9SM O nL g x r G ws ls st) {F : List (Nat × Nat × q9AV)} (hF : ∀ q ∈ F, q9FMok r G ws q) : q9SM O nL g (q9sF x F) r G ws ls st :=
  ⟨h.1, h.2.1, h.2.2.1, h.2.2.2.1, hF, h.2.2.2.2.2⟩
theorem q9SM.A {nL : Nat} {g : List Value} {x : q9ST} {r : Nat → Value} {G : q9GH} {ws : va_W} {ls : Array Slot} {st : List Value} (h : q9SM O nL g x r G ws ls st) {F : List (Nat × q9AV × q9AV)} (hF : ∀ q ∈ F, q9AMok O r G ws q) : q9SM O nL g (q9sA x F) r G ws ls st :=
  ⟨h.1, h.2.1, h.2.2.1, h.2.2.2.1, h.2.2.2.2.1, hF, h.2.2.2.2.2.2⟩
theorem q9SM.NM {nL : Nat} {g : List Value} {x : q9ST} {r : Nat → Value} {G : q9GH} {ws : va_W} {ls : Array Slot} {st : List Value} (h : q9SM O nL g x r G ws ls st) (a b : Nat) : q9SM O nL g (q9sNM x a b) r G ws ls st := h
/-- a value of the frame -/
noncomputable def q9lk_o (L : List (Nat × q9AV)) (i : Nat) : Option q9AV := (L.find? (fun q => q.1 == i)).map (fun q => q.2)
noncomputable def q9lk (L : List (Nat × q9AV)) (i : Nat) : Option q9AV := (q9fi9 L (fun q => q9eq9 (q.1) (i))).map (fun q => q.2)
theorem q9lk_oq : @q9lk = @q9lk_o := by
  delta q9lk q9lk_o
  simp only [q9ge9_eq, q9fi9_eq, q9an9_eq, q9al9_eq, q9flt9_eq, q9el9_eq, q9set9_eq, q9ln9_eq, q9gD9_eq, q9ap9_eq, q9eq9_N, q9eq9_I, q9eq9_A, q9eq9_E, q9eq9_OI, q9eq9_ON, q9eq9_OA, q9eq9_L, q9eq9_S, q9de9_N, q9de9_I, q9de9_A, q9le9_N, q9le9_I, q9lt9_N, q9lt9_I, q9de9_E, q9de9_OI, q9de9_ON, q9de9_OA, q9de9_L, q9nd9_eq, q9or9_eq, Bool.cond_decide]
theorem q9lk_mem {L : List (Nat × q9AV)} {i : Nat} {a : q9AV} (h : q9lk L i = some a) : (i, a) ∈ L := by
  (rewrite [q9lk_oq] at h; unfold q9lk_o at h)
  cases hf : L.find? (fun q => q.1 == i) with
  | none => rw [hf] at h; cases h
  | some q =>
    rw [hf] at h
    obtain ⟨j, b⟩ := q
    have h1 := List.find?_some hf
    have h2 := List.mem_of_find?_eq_some hf
    have h3 : j = i := by simpa using h1
    have h4 : b = a := Option.some.inj h
    rw [← h3, ← h4]
    exact h2
theorem q9SM.lk {nL : Nat} {g : List Value} {x : q9ST} {r : Nat → Value} {G : q9GH} {ws : va_W} {ls : Array Slot} {st : List Value} (h : q9SM O nL g x r G ws ls st) {i : Nat} {a : q9AV} (ha : q9lk (q9tL x) i = some a) : ls[i]? = some (.val (q9ev r a)) :=
  h.1.2.2 (i, q9ev r a) (List.mem_map.mpr ⟨(i, a), q9lk_mem ha, rfl⟩)
/-- the result of an operation, which is the same symbol if it was had before -/
noncomputable def q9res_o (x : q9ST) (o : Nat) (a b : q9AV) (t : q9ET) : q9ST × q9AV :=
  match (q9tX x).find? (fun q => q.1 == o && (q.2.1 == a && q.2.2.1 == b)) with
  | some q => (x, (q.2.2.2, 0))
  | none => (q9sX (q9sE x (q9tE x ++ [t])) ((o, a, b, (q9tE x).length) :: q9tX x), ((q9tE x).length, 0))
noncomputable def q9res (x : q9ST) (o : Nat) (a b : q9AV) (t : q9ET) : q9ST × q9AV :=
  match q9fi9 (q9tX x) (fun q => q9nd9 (q9eq9 (q.1) (o)) ((q9nd9 (q9eq9 (q.2.1) (a)) (q9eq9 (q.2.2.1) (b))))) with
  | some q => (x, (q.2.2.2, 0))
  | none => (q9sX (q9sE x ((q9ap9 (q9tE x) ([t])))) ((o, a, b, (q9ln9 (q9tE x))) :: q9tX x), ((q9ln9 (q9tE x)), 0))
theorem q9res_oq : @q9res = @q9res_o := by
  delta q9res q9res_o
  simp only [q9ge9_eq, q9fi9_eq, q9an9_eq, q9al9_eq, q9flt9_eq, q9el9_eq, q9set9_eq, q9ln9_eq, q9gD9_eq, q9ap9_eq, q9eq9_N, q9eq9_I, q9eq9_A, q9eq9_E, q9eq9_OI, q9eq9_ON, q9eq9_OA, q9eq9_L, q9eq9_S, q9de9_N, q9de9_I, q9de9_A, q9le9_N, q9le9_I, q9lt9_N, q9lt9_I, q9de9_E, q9de9_OI, q9de9_ON, q9de9_OA, q9de9_L, q9nd9_eq, q9or9_eq, Bool.cond_decide]
theorem q9SM.res {nL : Nat} {g : List Value} {x : q9ST} {r : Nat → Value} {G : q9GH} {ws : va_W} {ls : Array Slot} {st : List Value} (h : q9SM O nL g x r G ws ls st) (hw : q9wfB x = true) {o : Nat} {a b : q9AV} {t : q9ET} {v : Value} (ha : q9okAV (q9tE x) a = true) (hb : q9okAV (q9tE x) b = true) (hv : q9tyV G t v) (ho : q9exop O o (q9ev r a) (q9ev r b) = some v) :
    ∃ r', q9agr (q9tE x).length r r' ∧ (q9tE x).length ≤ (q9tE (q9res x o a b t).1).length ∧ q9SM O nL g (q9res x o a b t).1 r' G ws ls st ∧ q9ev r' (q9res x o a b t).2 = v ∧ q9tL (q9res x o a b t).1 = q9tL x ∧ q9tS (q9res x o a b t).1 = q9tS x ∧ q9tN (q9res x o a b t).1 = q9tN x ∧ q9tM (q9res x o a b t).1 = q9tM x := by
  (rewrite [q9res_oq]; unfold q9res_o)
  split
  · rename_i q hq
    have h1 := List.find?_some hq
    have h2 := List.mem_of_find?_eq_some hq
    simp only [Bool.and_eq_true, beq_iff_eq] at h1
    have h3 := h.2.2.2.2.2.2.2 q h2
    unfold q9EXok at h3
    rw [h1.1, h1.2.1, h1.2.2, ho] at h3
    exact ⟨r, q9agr.rf, Nat.le_refl _, h, by rw [q9ev_zero]; exact (Option.some.inj h3).symm, rfl, rfl, rfl, rfl⟩
  · have ag : q9agr (q9tE x).length r (q9up r (q9tE x).length v) := fun k hk => q9up_lt hk
    have h9 := h.fresh hw hv
    refine ⟨q9up r (q9tE x).length v, ag, ?_, h9.X (fun q hq => ?_), ?_, rfl, rfl, rfl, rfl⟩
    · show _ ≤ (q9tE x ++ [t]).length
      rw [List.length_append]
      omega
    · rcases List.mem_cons.mp hq with rfl | hq
      · unfold q9EXok
        show q9exop O o (q9ev _ a) (q9ev _ b) = some (q9up r (q9tE x).length v (q9tE x).length)
        rw [ag.ev ha, ag.ev hb, q9up_at]
        exact ho
      · exact h9.2.2.2.2.2.2.2 q hq
    · show q9ev _ ((q9tE x).length, 0) = v
      rw [q9ev_zero, q9up_at]
/-! the same as q9wfB, cheaper to compute -/
noncomputable def q9okT0 (t : q9ET) : Bool := match t.1 with
  | 0 => decide ((-2147483648 : Int) ≤ t.2.1) && decide (t.2.2 ≤ 2147483647)
  | _ => true
noncomputable def q9w9lo (i : Int) : Bool := Int.rec (motive := fun _ => Bool) (fun _ => true) (fun n => Nat.ble n 2147483647) i
noncomputable def q9w9hi (i : Int) : Bool := Int.rec (motive := fun _ => Bool) (fun n => Nat.ble n 2147483647) (fun _ => true) i
theorem q9w9lo_ok {i : Int} (h : q9w9lo i = true) : -2147483648 ≤ i := by
  cases i with
  | ofNat n =>
    show (-2147483648 : Int) ≤ (n : Int)
    omega
  | negSucc n =>
    have h : Nat.ble n 2147483647 = true := h
    have h := Nat.le_of_ble_eq_true h
    rw [Int.negSucc_eq]
    omega
theorem q9w9hi_ok {i : Int} (h : q9w9hi i = true) : i ≤ 2147483647 := by
  cases i with
  | ofNat n =>
    have h : Nat.ble n 2147483647 = true := h
    have h := Nat.le_of_ble_eq_true h
    show (n : Int) ≤ 2147483647
    omega
  | negSucc n =>
    rw [Int.negSucc_eq]
    omega
theorem q9w9cnd {a b : Bool} : cond a b false = (a && b) := by cases a <;> rfl
noncomputable def q9w9all {α : Type} (f : α → Bool) (l : List α) : Bool := List.rec (motive := fun _ => Bool) true (fun a _ ih => cond (f a) ih false) l
theorem q9w9all_eq {α : Type} {f : α → Bool} : ∀ l : List α, q9w9all f l = l.all f
  | [] => rfl
  | a :: l => by
    show cond (f a) (q9w9all f l) false = (f a && l.all f)
    rw [q9w9cnd, q9w9all_eq l]
noncomputable def q9w9ok (t : q9ET) : Bool := Nat.rec (motive := fun _ => Bool) (cond (q9w9lo t.2.1) (q9w9hi t.2.2) false) (fun _ _ => true) t.1
theorem q9w9ok_ok {t : q9ET} (h : q9w9ok t = true) : q9okT0 t = true := by
  obtain ⟨k, lo, hi⟩ := t
  cases k with
  | zero =>
    have h : cond (q9w9lo lo) (q9w9hi hi) false = true := h
    rw [q9w9cnd, Bool.and_eq_true] at h
    show (decide ((-2147483648 : Int) ≤ lo) && decide (hi ≤ 2147483647)) = true
    rw [Bool.and_eq_true, decide_eq_true_eq, decide_eq_true_eq]
    exact ⟨q9w9lo_ok h.1, q9w9hi_ok h.2⟩
  | succ k => rfl
noncomputable def q9w9z (E : List q9ET) : Bool := match E with
  | (0, .ofNat 0, .ofNat 0) :: _ => true
  | _ => false
noncomputable def q9w9g (E : List q9ET) (z : Bool) (a : q9AV) : Bool := Nat.rec (motive := fun _ => Bool) (cond z (cond (q9w9lo a.2) (q9w9hi a.2) false) (q9okAV E a)) (fun _ _ => q9okAV E a) a.1
theorem q9w9g_ok {E : List q9ET} {a : q9AV} (h : q9w9g E (q9w9z E) a = true) : q9okAV E a = true := by
  obtain ⟨s, off⟩ := a
  cases s with
  | zero =>
    have h : cond (q9w9z E) (cond (q9w9lo off) (q9w9hi off) false) (q9okAV E (0, off)) = true := h
    cases hz : q9w9z E with
    | false => rw [hz] at h; exact h
    | true =>
      rw [hz] at h
      have h : cond (q9w9lo off) (q9w9hi off) false = true := h
      rw [q9w9cnd, Bool.and_eq_true] at h
      have h1 := q9w9lo_ok h.1
      have h2 := q9w9hi_ok h.2
      unfold q9w9z at hz
      split at hz
      · rw [q9okAV_oq]
        show (decide ((-2147483648 : Int) ≤ 0 + off) && decide (0 + off ≤ 2147483647)) = true
        rw [Bool.and_eq_true, decide_eq_true_eq, decide_eq_true_eq]
        omega
      · cases hz
  | succ s => exact h
noncomputable def q9okQ (E : List q9ET) (z : Bool) (n : Nat) (a : q9AV) : Bool := Int.rec (motive := fun _ => Bool) (fun k => Nat.rec (motive := fun _ => Bool) (Nat.ble (Nat.succ a.1) n) (fun _ _ => q9w9g E z a) k) (fun _ => q9w9g E z a) a.2
theorem q9okQ_ok {E : List q9ET} (hE : ∀ t ∈ E, q9okT0 t = true) {a : q9AV} (h : q9okQ E (q9w9z E) E.length a = true) : q9okAV E a = true := by
  obtain ⟨s, off⟩ := a
  cases off with
  | negSucc k => exact q9w9g_ok h
  | ofNat k =>
    cases k with
    | succ k => exact q9w9g_ok h
    | zero =>
      have h : Nat.ble (s + 1) E.length = true := h
      have hl : s < E.length := Nat.le_of_ble_eq_true h
      have ht := hE _ (List.getElem_mem hl)
      show q9okAV E (s, 0) = true
      (rewrite [q9okAV_oq]; unfold q9okAV_o)
      rw [List.getElem?_eq_getElem hl]
      generalize E[s] = t at ht ⊢
      obtain ⟨k, lo, hi⟩ := t
      match k, ht with
      | 0, ht =>
        have ht : (decide ((-2147483648 : Int) ≤ lo) && decide (hi ≤ 2147483647)) = true := ht
        simp only [Bool.and_eq_true, decide_eq_true_eq] at ht
        show (if (0 : Nat) = 0 then decide ((-2147483648 : Int) ≤ lo + 0) && decide (hi + 0 ≤ 2147483647) else decide ((0 : Int) = 0)) = true
        rw [if_pos rfl, Bool.and_eq_true, decide_eq_true_eq, decide_eq_true_eq]
        omega
      | k + 1, _ =>
        show (if k + 1 = 0 then decide ((-2147483648 : Int) ≤ lo + 0) && decide (hi + 0 ≤ 2147483647) else decide ((0 : Int) = 0)) = true
        rw [if_neg (Nat.succ_ne_zero k)]
        rfl
noncomputable def q9w9ls (n k : Nat) : Bool := Nat.ble (Nat.succ k) n
theorem q9w9ls_ok {n k : Nat} (h : q9w9ls n k = true) : k < n := Nat.le_of_ble_eq_true h
noncomputable def q9wfQ (x : q9ST) : Bool :=
  cond (q9w9all q9w9ok (q9tE x)) (cond (q9w9all (fun q => q9okQ (q9tE x) (q9w9z (q9tE x)) (q9tE x).length q.2) (q9tL x)) (cond (q9w9all (q9okQ (q9tE x) (q9w9z (q9tE x)) (q9tE x).length) (q9tS x)) (cond (q9w9all (q9okQ (q9tE x) (q9w9z (q9tE x)) (q9tE x).length) (q9tG x)) (cond (q9w9all (fun q => cond (q9w9ls (q9tE x).length q.1) (q9okQ (q9tE x) (q9w9z (q9tE x)) (q9tE x).length q.2.2) false) (q9tF x)) (cond (q9w9all (fun q => cond (q9w9ls (q9tE x).length q.1) (cond (q9okQ (q9tE x) (q9w9z (q9tE x)) (q9tE x).length q.2.1) (q9okQ (q9tE x) (q9w9z (q9tE x)) (q9tE x).length q.2.2) false) false) (q9tA x)) (cond (q9w9all (fun q => cond (q9w9ls (q9tE x).length q.1) (q9w9ls (q9tE x).length q.2.1) false) (q9tC x)) (q9w9all (fun q => cond (q9okQ (q9tE x) (q9w9z (q9tE x)) (q9tE x).length q.2.1) (cond (q9okQ (q9tE x) (q9w9z (q9tE x)) (q9tE x).length q.2.2.1) (q9w9ls (q9tE x).length q.2.2.2) false) false) (q9tX x)) false) false) false) false) false) false) false
theorem q9wfQ_ok {x : q9ST} (h : q9wfQ x = true) : q9wfB x = true := by
  unfold q9wfQ at h
  simp only [q9w9cnd, q9w9all_eq, Bool.and_eq_true, List.all_eq_true] at h
  obtain ⟨hE, h1, h2, h3, h4, h5, h6, h7⟩ := h
  have hE : ∀ t ∈ q9tE x, q9okT0 t = true := fun t ht => q9w9ok_ok (hE t ht)
  (rewrite [q9wfB_oq]; unfold q9wfB_o)
  simp only [Bool.and_eq_true, List.all_eq_true, decide_eq_true_eq]
  exact ⟨fun q hq => q9okQ_ok hE (h1 q hq), fun q hq => q9okQ_ok hE (h2 q hq), fun q hq => q9okQ_ok hE (h3 q hq), fun q hq => ⟨q9w9ls_ok (h4 q hq).1, q9okQ_ok hE (h4 q hq).2⟩, fun q hq => ⟨q9w9ls_ok (h5 q hq).1, q9okQ_ok hE (h5 q hq).2.1, q9okQ_ok hE (h5 q hq).2.2⟩, fun q hq => ⟨q9w9ls_ok (h6 q hq).1, q9w9ls_ok (h6 q hq).2⟩, fun q hq => ⟨q9okQ_ok hE (h7 q hq).1, q9okQ_ok hE (h7 q hq).2.1, q9w9ls_ok (h7 q hq).2.2⟩⟩
