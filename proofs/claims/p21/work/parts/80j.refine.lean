variable {O : ORC}
/-! what is told once q9more before a place: the state refined, then the q9step itself -/
abbrev q9RF : Type := q9ST → Option (List q9ST)
noncomputable def q9RFok (O : ORC) (f : q9RF) : Prop := ∀ (nL : Nat) (g : List Value) (cT : Nat → ClassId) (A : Nat → Prop) (x : q9ST) (r : Nat → Value) (G : q9GH) (ws : va_W) (ls : Array Slot) (st : List Value) (xs : List q9ST), q9wfB x = true → q9SM O nL g x r G ws ls st → q9tyW cT q9TBL G ws → va_D A ws → f x = some xs →
  ∃ x' ∈ xs, ∃ r' : Nat → Value, q9agr (q9tE x).length r r' ∧ (q9tE x).length ≤ (q9tE x').length ∧ q9tN x' = q9tN x ∧ q9tM x' = q9tM x ∧ q9SM O nL g x' r' G ws ls st
noncomputable def q9rfL (h : q9RF) : List q9ST → Option (List q9ST)
  | [] => some []
  | x :: xs => if q9wfQ x = true then (match h x, q9rfL h xs with
    | some a, some b => some (a ++ b)
    | _, _ => none) else none
noncomputable def q9rfSeq : List q9RF → q9RF
  | [] => fun x => some [x]
  | f :: fs => fun x => match f x with
    | some xs => q9rfL (q9rfSeq fs) xs
    | none => none
theorem q9rfL_in {h : q9RF} : ∀ {xs : List q9ST} {ys : List q9ST}, q9rfL h xs = some ys → ∀ x ∈ xs, q9wfB x = true ∧ ∃ zs, h x = some zs ∧ ∀ z ∈ zs, z ∈ ys
  | [], _, _, _, hx => by cases hx
  | y :: xs, ys, hh, x, hx => by
    unfold q9rfL at hh
    split at hh
    · rename_i hw
      split at hh
      · rename_i a b e1 e2
        cases hh
        rcases List.mem_cons.mp hx with rfl | hx
        · exact ⟨q9wfQ_ok hw, a, e1, fun z hz => List.mem_append_left _ hz⟩
        · obtain ⟨h1, zs, h2, h3⟩ := q9rfL_in e2 x hx
          exact ⟨h1, zs, h2, fun z hz => List.mem_append_right _ (h3 z hz)⟩
      · cases hh
    · cases hh
theorem q9rfSeq_ok : ∀ {fs : List q9RF}, (∀ f ∈ fs, q9RFok O f) → q9RFok O (q9rfSeq fs)
  | [], _ => fun nL g cT A x r G ws ls st xs hw hM hT hD h => by
    have h : some [x] = some xs := h
    cases h
    exact ⟨x, List.mem_cons_self, r, q9agr.rf, Nat.le_refl _, rfl, rfl, hM⟩
  | f :: fs, hf => fun nL g cT A x r G ws ls st xs hw hM hT hD h => by
    have h : (match f x with
      | some xs => q9rfL (q9rfSeq fs) xs
      | none => none) = some xs := h
    cases e1 : f x with
    | none => rw [e1] at h; cases h
    | some ys =>
      rw [e1] at h
      obtain ⟨x1, m1, r1, a1, l1, n1, n2, h1⟩ := hf f List.mem_cons_self nL g cT A x r G ws ls st ys hw hM hT hD e1
      obtain ⟨w1, zs, e2, m2⟩ := q9rfL_in h x1 m1
      obtain ⟨x2, m3, r2, a2, l2, n3, n4, h2⟩ := q9rfSeq_ok (fun q hq => hf q (List.mem_cons_of_mem _ hq)) nL g cT A x1 r1 G ws ls st zs w1 h1 hT hD e2
      exact ⟨x2, m2 x2 m3, r2, a1.tr a2 l1, Nat.le_trans l1 l2, n3.trans n1, n4.trans n2, h2⟩
noncomputable def q9goL (inner : Nat → q9ST → Option (List (Nat × q9ST))) (pc : Nat) : List q9ST → Option (List (Nat × q9ST))
  | [] => some []
  | x :: xs => if q9wfB x = true then (match inner pc x, q9goL inner pc xs with
    | some a, some b => some (a ++ b)
    | _, _ => none) else none
theorem q9goL_in {inner : Nat → q9ST → Option (List (Nat × q9ST))} {pc : Nat} : ∀ {xs : List q9ST} {ys : List (Nat × q9ST)}, q9goL inner pc xs = some ys → ∀ x ∈ xs, q9wfB x = true ∧ ∃ zs, inner pc x = some zs ∧ ∀ z ∈ zs, z ∈ ys
  | [], _, _, _, hx => by cases hx
  | y :: xs, ys, hh, x, hx => by
    unfold q9goL at hh
    split at hh
    · rename_i hw
      split at hh
      · rename_i a b e1 e2
        cases hh
        rcases List.mem_cons.mp hx with rfl | hx
        · exact ⟨hw, a, e1, fun z hz => List.mem_append_left _ hz⟩
        · obtain ⟨h1, zs, h2, h3⟩ := q9goL_in e2 x hx
          exact ⟨h1, zs, h2, fun z hz => List.mem_append_right _ (h3 z hz)⟩
      · cases hh
    · cases hh
/-- (place, what is told there) -/
noncomputable def q9rfM_o (inner : Nat → q9ST → Option (List (Nat × q9ST))) (tab : List (Nat × List q9RF)) (pc : Nat) (x : q9ST) : Option (List (Nat × q9ST)) := match tab.find? (fun z => z.1 == pc) with
  | some z => (match q9rfSeq z.2 x with
    | some xs => q9goL inner pc xs
    | none => none)
  | none => none
noncomputable def q9rfM (inner : Nat → q9ST → Option (List (Nat × q9ST))) (tab : List (Nat × List q9RF)) (pc : Nat) (x : q9ST) : Option (List (Nat × q9ST)) := match q9fi9 tab (fun z => q9eq9 (z.1) (pc)) with
  | some z => (match q9rfSeq z.2 x with
    | some xs => q9goL inner pc xs
    | none => none)
  | none => none
theorem q9rfM_oq : @q9rfM = @q9rfM_o := by
  delta q9rfM q9rfM_o
  simp only [q9ge9_eq, q9fi9_eq, q9an9_eq, q9al9_eq, q9flt9_eq, q9el9_eq, q9set9_eq, q9ln9_eq, q9gD9_eq, q9ap9_eq, q9eq9_N, q9eq9_I, q9eq9_A, q9eq9_E, q9eq9_OI, q9eq9_ON, q9eq9_OA, q9eq9_L, q9eq9_S, q9de9_N, q9de9_I, q9de9_A, q9le9_N, q9le9_I, q9lt9_N, q9lt9_I, q9de9_E, q9de9_OI, q9de9_ON, q9de9_OA, q9de9_L, q9nd9_eq, q9or9_eq, Bool.cond_decide]
theorem q9macx_rf {XP : q9ZZ → List Value → Prop} {l : Launch} {own nm : String} {cc : ByteArray} {n : q9EN} {K K2 : List (Nat × Int)} {inner : Nat → q9ST → Option (List (Nat × q9ST))} (hin : q9MACX O XP l q9ALLW own nm cc n K K2 inner) (hB : q9eB n = q9TBL) (tab : List (Nat × List q9RF)) (htab : ∀ z ∈ tab, ∀ f ∈ z.2, q9RFok O f) : q9MACX O XP l q9ALLW own nm cc n K K2 (q9rfM inner tab) := by
  intro p e R ko s m args below meth c Q D cT A H0 G0 ws0 z0 g hE hT hX hN pc x ss r hw hm hn
  (rewrite [q9rfM_oq] at hm; unfold q9rfM_o at hm)
  split at hm
  · rename_i z hz
    split at hm
    · rename_i xs hxs
      intro G ws H locs ls st hM hW
      have hW' := hW
      obtain ⟨hP, hD, hS9, hTy, hXg, hKe⟩ := hW'
      rw [hB] at hTy
      obtain ⟨x1, m1, r1, a1, l1, n1, n2, h1⟩ := q9rfSeq_ok (htab z (List.mem_of_find?_eq_some hz)) _ g cT A x r G ws ls st xs hw hM hTy hD hxs
      obtain ⟨w1, zs, e2, m2⟩ := q9goL_in hm x1 m1
      have kk := hin hE hT hX hN pc x1 zs r1 w1 e2 (fun q hq r2 ha hl => hn q (m2 q hq) r2 (a1.tr ha l1) (Nat.le_trans l1 hl)) G ws H locs ls st h1 hW
      rw [n1, n2] at kk
      exact kk
    · cases hm
  · cases hm
/-- symbols are found first -/
noncomputable def q9wT (ds : List q9DF) (k : List q9AV → q9RF) : q9RF := fun x => match q9mkT x ds [] with
  | some th => k th x
  | none => none
theorem q9wT_ok {ds : List q9DF} {k : List q9AV → q9RF} (h : ∀ th, q9RFok O (k th)) : q9RFok O (q9wT ds k) := by
  intro nL g cT A x r G ws ls st xs hw hM hT hD hh
  unfold q9wT at hh
  split at hh
  · exact h _ nL g cT A x r G ws ls st xs hw hM hT hD hh
  · cases hh
/-- where it serves -/
noncomputable def q9tryR (f : q9RF) : q9RF := fun x => match f x with
  | some xs => some xs
  | none => some [x]
theorem q9tryR_ok {f : q9RF} (h : q9RFok O f) : q9RFok O (q9tryR f) := by
  intro nL g cT A x r G ws ls st xs hw hM hT hD hh
  unfold q9tryR at hh
  split at hh
  · rename_i ys e1
    cases hh
    exact h nL g cT A x r G ws ls st _ hw hM hT hD e1
  · cases hh
    exact ⟨x, List.mem_cons_self, r, q9agr.rf, Nat.le_refl _, rfl, rfl, hM⟩
abbrev q9gA (th : List q9AV) (i : Nat) : q9AV := th.getD i (0, 0)
/-- symbols and facts q9more -/
noncomputable def q9addS (x : q9ST) (ts : List q9ET) (F' : List (Nat × Nat × q9AV)) (A' : List (Nat × q9AV × q9AV)) (C' : List (Nat × Nat × Int)) (X' : List (Nat × q9AV × q9AV × Nat)) : q9ST := (q9tE x ++ ts, q9tL x, q9tS x, q9tG x, F' ++ q9tF x, A' ++ q9tA x, C' ++ q9tC x, X' ++ q9tX x, q9tN x, q9tM x)
noncomputable def q9upL (r : Nat → Value) (n : Nat) (vs : List Value) : Nat → Value := fun k => if k < n then r k else vs.getD (k - n) .null
theorem q9upL_lt {r : Nat → Value} {n k : Nat} {vs : List Value} (h : k < n) : q9upL r n vs k = r k := if_pos h
theorem q9upL_at {r : Nat → Value} {n : Nat} {vs : List Value} (k : Nat) : q9upL r n vs (n + k) = vs.getD k .null := by
  unfold q9upL
  rw [if_neg (by omega), Nat.add_sub_cancel_left]
theorem q9upL_agr {r : Nat → Value} {n : Nat} {vs : List Value} : q9agr n r (q9upL r n vs) := fun _ hk => q9upL_lt hk
theorem q9addS_ok {nL : Nat} {g : List Value} {x : q9ST} {r : Nat → Value} {G : q9GH} {ws : va_W} {ls : Array Slot} {st : List Value} (h : q9SM O nL g x r G ws ls st) (hw : q9wfB x = true) {ts : List q9ET} {vs : List Value} {F' : List (Nat × Nat × q9AV)} {A' : List (Nat × q9AV × q9AV)} {C' : List (Nat × Nat × Int)} {X' : List (Nat × q9AV × q9AV × Nat)}
    (ht : ∀ (i : Nat) (t : q9ET), ts[i]? = some t → q9tyV G t (vs.getD i .null)) (hF : ∀ q ∈ F', q9FMok (q9upL r (q9tE x).length vs) G ws q) (hA : ∀ q ∈ A', q9AMok O (q9upL r (q9tE x).length vs) G ws q) (hC : ∀ q ∈ C', q9FCok (q9upL r (q9tE x).length vs) q) (hX : ∀ q ∈ X', q9EXok O (q9upL r (q9tE x).length vs) q) :
    q9SM O nL g (q9addS x ts F' A' C' X') (q9upL r (q9tE x).length vs) G ws ls st := by
  obtain ⟨h1, h2, h3, h4, h5, h6, h7, h8⟩ := h
  have ha : q9agr (q9tE x).length r (q9upL r (q9tE x).length vs) := q9upL_agr
  refine ⟨?_, ?_, ?_, ?_, fun q hq => ?_, fun q hq => ?_, fun q hq => ?_, fun q hq => ?_⟩
  · rw [show ((q9tL (q9addS x ts F' A' C' X')).map fun q => (q.1, q9ev (q9upL r (q9tE x).length vs) q.2)) = (q9tL x).map fun q => (q.1, q9ev r q.2) from List.map_congr_left fun q hq => by rw [ha.ev (q9wf_L hw q hq)]]
    exact h1
  · rw [h2]
    exact List.map_congr_left fun q hq => (ha.ev (q9wf_S hw q hq)).symm
  · rw [h3]
    exact List.map_congr_left fun q hq => (ha.ev (q9wf_G hw q hq)).symm
  · intro k t' hk
    have hk : (q9tE x ++ ts)[k]? = some t' := hk
    by_cases hl : k < (q9tE x).length
    · rw [List.getElem?_append_left hl] at hk
      rw [q9upL_lt hl]
      exact h4 k t' hk
    · rw [List.getElem?_append_right (by omega)] at hk
      unfold q9upL
      rw [if_neg hl]
      exact ht _ t' hk
  · rcases List.mem_append.mp hq with hq | hq
    · exact hF q hq
    · have h9 := h5 q hq
      obtain ⟨w1, w2⟩ := q9wf_F hw q hq
      unfold q9FMok at h9 ⊢
      rw [ha.ev w2, ha _ w1]
      exact h9
  · rcases List.mem_append.mp hq with hq | hq
    · exact hA q hq
    · have h9 := h6 q hq
      obtain ⟨w1, w2, w3⟩ := q9wf_A hw q hq
      unfold q9AMok q9ALok at h9 ⊢
      rw [ha _ w1, ha.ev w2, ha.ev w3]
      exact h9
  · rcases List.mem_append.mp hq with hq | hq
    · exact hC q hq
    · obtain ⟨w1, w2⟩ := q9wf_C hw q hq
      unfold q9FCok
      rw [ha.iv w1, ha.iv w2]
      exact h7 q hq
  · rcases List.mem_append.mp hq with hq | hq
    · exact hX q hq
    · obtain ⟨w1, w2, w3⟩ := q9wf_X hw q hq
      unfold q9EXok
      rw [ha.ev w1, ha.ev w2, ha _ w3]
      exact h8 q hq
/-- a refinement that only adds -/
theorem q9rf_add {nL : Nat} {g : List Value} {x : q9ST} {r : Nat → Value} {G : q9GH} {ws : va_W} {ls : Array Slot} {st : List Value} {xs : List q9ST} (h : q9SM O nL g x r G ws ls st) (hw : q9wfB x = true) {ts : List q9ET} (vs : List Value) {F' : List (Nat × Nat × q9AV)} {A' : List (Nat × q9AV × q9AV)} {C' : List (Nat × Nat × Int)} {X' : List (Nat × q9AV × q9AV × Nat)} (hm : q9addS x ts F' A' C' X' ∈ xs)
    (ht : ∀ (i : Nat) (t : q9ET), ts[i]? = some t → q9tyV G t (vs.getD i .null)) (hF : ∀ q ∈ F', q9FMok (q9upL r (q9tE x).length vs) G ws q) (hA : ∀ q ∈ A', q9AMok O (q9upL r (q9tE x).length vs) G ws q) (hC : ∀ q ∈ C', q9FCok (q9upL r (q9tE x).length vs) q) (hX : ∀ q ∈ X', q9EXok O (q9upL r (q9tE x).length vs) q) :
    ∃ x' ∈ xs, ∃ r' : Nat → Value, q9agr (q9tE x).length r r' ∧ (q9tE x).length ≤ (q9tE x').length ∧ q9tN x' = q9tN x ∧ q9tM x' = q9tM x ∧ q9SM O nL g x' r' G ws ls st :=
  ⟨_, hm, _, q9upL_agr, by show _ ≤ (q9tE x ++ ts).length; rw [List.length_append]; omega, rfl, rfl, q9addS_ok h hw ht hF hA hC hX⟩
theorem q9rf_more {nL : Nat} {g : List Value} {x x1 : q9ST} {r : Nat → Value} {G : q9GH} {ws : va_W} {ls : Array Slot} {st : List Value} {xs : List q9ST} (h : q9SM O nL g x r G ws ls st) (hm : x1 ∈ xs) (h1 : q9more G r x x1) :
    ∃ x' ∈ xs, ∃ r' : Nat → Value, q9agr (q9tE x).length r r' ∧ (q9tE x).length ≤ (q9tE x').length ∧ q9tN x' = q9tN x ∧ q9tM x' = q9tM x ∧ q9SM O nL g x' r' G ws ls st := by
  obtain ⟨m1, m2, m3, m4⟩ := h1.len
  exact ⟨x1, hm, r, q9agr.rf, Nat.le_of_eq m1.symm, m3, m4, q9more.SM h h1⟩
theorem q9no_mem {α : Type} {P : α → Prop} : ∀ q ∈ ([] : List α), P q := fun _ h => absurd h List.not_mem_nil
theorem q9one_mem {α : Type} {P : α → Prop} {a : α} (h : P a) : ∀ q ∈ [a], P q := fun q hq => by
  rw [List.mem_singleton] at hq
  rw [hq]
  exact h
theorem q9cons_mem {α : Type} {P : α → Prop} {a : α} {as : List α} (h : P a) (h2 : ∀ q ∈ as, P q) : ∀ q ∈ a :: as, P q := fun q hq => by
  rcases List.mem_cons.mp hq with rfl | hq
  · exact h
  · exact h2 q hq
/-- the types of new symbols, q9one by q9one -/
theorem q9ty_nil {G : q9GH} {vs : List Value} : ∀ (i : Nat) (t : q9ET), ([] : List q9ET)[i]? = some t → q9tyV G t (vs.getD i .null) := fun i t h => by simp at h
theorem q9ty_cons {G : q9GH} {t0 : q9ET} {v : Value} {ts : List q9ET} {vs : List Value} (h0 : q9tyV G t0 v) (h : ∀ (i : Nat) (t : q9ET), ts[i]? = some t → q9tyV G t (vs.getD i .null)) : ∀ (i : Nat) (t : q9ET), (t0 :: ts)[i]? = some t → q9tyV G t ((v :: vs).getD i .null)
  | 0, t, hh => by
    cases hh
    exact h0
  | i + 1, t, hh => h i t hh
/-- fields and elements that are known -/
noncomputable def q9fF_o (x : q9ST) (o j : Nat) : Option q9AV := ((q9tF x).find? (fun q => q.1 == o && q.2.1 == j)).map (fun q => q.2.2)
noncomputable def q9fF (x : q9ST) (o j : Nat) : Option q9AV := (q9fi9 (q9tF x) (fun q => q9nd9 (q9eq9 (q.1) (o)) (q9eq9 (q.2.1) (j)))).map (fun q => q.2.2)
theorem q9fF_oq : @q9fF = @q9fF_o := by
  delta q9fF q9fF_o
  simp only [q9ge9_eq, q9fi9_eq, q9an9_eq, q9al9_eq, q9flt9_eq, q9el9_eq, q9set9_eq, q9ln9_eq, q9gD9_eq, q9ap9_eq, q9eq9_N, q9eq9_I, q9eq9_A, q9eq9_E, q9eq9_OI, q9eq9_ON, q9eq9_OA, q9eq9_L, q9eq9_S, q9de9_N, q9de9_I, q9de9_A, q9le9_N, q9le9_I, q9lt9_N, q9lt9_I, q9de9_E, q9de9_OI, q9de9_ON, q9de9_OA, q9de9_L, q9nd9_eq, q9or9_eq, Bool.cond_decide]
theorem q9fF_ok {x : q9ST} {o j : Nat} {a : q9AV} (h : q9fF x o j = some a) : (o, j, a) ∈ q9tF x := by
  (rewrite [q9fF_oq] at h; unfold q9fF_o at h)
  cases hf : (q9tF x).find? (fun q => q.1 == o && q.2.1 == j) with
  | none => rw [hf] at h; cases h
  | some q =>
    rw [hf] at h
    have h1 := List.find?_some hf
    have h2 := List.mem_of_find?_eq_some hf
    obtain ⟨q1, q2, q3⟩ := q
    simp only [Bool.and_eq_true, beq_iff_eq] at h1
    obtain ⟨rfl, rfl⟩ := h1
    cases h
    exact h2
noncomputable def q9fA_o (x : q9ST) (a : Nat) (i : q9AV) : Option q9AV := ((q9tA x).find? (fun q => q.1 == a && q9eqB x q.2.1 i)).map (fun q => q.2.2)
noncomputable def q9fA (x : q9ST) (a : Nat) (i : q9AV) : Option q9AV := (q9fi9 (q9tA x) (fun q => q9nd9 (q9eq9 (q.1) (a)) (q9eqB x q.2.1 i))).map (fun q => q.2.2)
theorem q9fA_oq : @q9fA = @q9fA_o := by
  delta q9fA q9fA_o
  simp only [q9ge9_eq, q9fi9_eq, q9an9_eq, q9al9_eq, q9flt9_eq, q9el9_eq, q9set9_eq, q9ln9_eq, q9gD9_eq, q9ap9_eq, q9eq9_N, q9eq9_I, q9eq9_A, q9eq9_E, q9eq9_OI, q9eq9_ON, q9eq9_OA, q9eq9_L, q9eq9_S, q9de9_N, q9de9_I, q9de9_A, q9le9_N, q9le9_I, q9lt9_N, q9lt9_I, q9de9_E, q9de9_OI, q9de9_ON, q9de9_OA, q9de9_L, q9nd9_eq, q9or9_eq, Bool.cond_decide]
theorem q9fA_ok {nL : Nat} {g : List Value} {x : q9ST} {r : Nat → Value} {G : q9GH} {ws : va_W} {ls : Array Slot} {st : List Value} (hM : q9SM O nL g x r G ws ls st) (hw : q9wfB x = true) {A : Nat → Prop} (hD : va_D A ws) {a : Nat} {i v : q9AV} (h : q9fA x a i = some v) (hi : q9okAV (q9tE x) i = true) {y : Int32} (hy : q9ev r i = .int y) {b q : Nat} {cA : ClassId} {n : Nat} {f : (Nat → Int32) ⊕ (Nat → Int64) ⊕ (Nat → UInt32) ⊕ (Nat → UInt64) ⊕ (Nat → Option Nat)} (hr : r a = .ref b) (hq : ws[q]? = some (b, .inl (cA, n, f))) : q9okAV (q9tE x) v = true ∧ q9ev r v = q9elV (.inl (cA, n, f)) y.toNatClampNeg := by
  (rewrite [q9fA_oq] at h; unfold q9fA_o at h)
  cases hf : (q9tA x).find? (fun q => q.1 == a && q9eqB x q.2.1 i) with
  | none => rw [hf] at h; cases h
  | some z =>
    rw [hf] at h
    have h1 := List.find?_some hf
    have h2 := List.mem_of_find?_eq_some hf
    simp only [Bool.and_eq_true, beq_iff_eq] at h1
    cases h
    refine ⟨(q9wf_A hw z h2).2.2, ?_⟩
    have h9 := hM.2.2.2.2.2.1 z h2
    unfold q9AMok at h9
    rw [h1.1, hr] at h9
    obtain ⟨a', i', cA', n', f', w, e1, e2, e3, e4⟩ := h9.resolve_right q9JA_ref
    rw [h1.1, hr] at e1
    cases e1
    have hii : i' = q := hD.1 i' q _ _ e2 hq rfl
    subst hii
    rw [hq] at e2
    cases e2
    rw [q9eqB_ok hM hi hy h1.2] at e3
    cases e3
    exact e4
theorem q9ev_back {r : Nat → Value} {a : q9AV} {b : Nat} (h : q9ev r a = .ref b) : r a.1 = .ref b := by
  unfold q9ev at h
  cases hr : r a.1 with
  | int x => rw [hr] at h; cases h
  | _ => rw [hr] at h; exact h
/-- the reference's arrays, by what is known of its fields -/
theorem q9omA {nL : Nat} {g : List Value} {x : q9ST} {r : Nat → Value} {G : q9GH} {ws : va_W} {ls : Array Slot} {st : List Value} (hM : q9SM O nL g x r G ws ls st) {cT : Nat → ClassId} {B : q9TB} (hT : q9tyW cT B G ws) {A : Nat → Prop} (hD : va_D A ws) {o : Nat} {h9 : Int} (ho : (q9tE x)[o]? = some (2, 12, h9)) {q a n : Nat} {fs : List Value} {M : q9LM} {L : List (Nat × Nat)} (h1 : G[q]? = some (a, 12, n)) (h2 : ws[q]? = some (a, .inr (12, fs)))
    (h3 : ∀ y ∈ L, ∃ (i b k n' : Nat) (cA : ClassId), fs[y.1]? = some (.ref b) ∧ G[i]? = some (b, y.2, k) ∧ ws[i]? = some (b, .inl (cA, n', .inl (M y.1)))) {j cd : Nat} (hj : (j, cd) ∈ L) (hjj : j ≠ 1000) {av : q9AV} (hf : (o, j, av) ∈ q9tF x) :
    ∃ (b i k n' : Nat) (cA : ClassId), r av.1 = .ref b ∧ q9ev r av = .ref b ∧ G[i]? = some (b, cd, k) ∧ ws[i]? = some (b, .inl (cA, n', .inl (M j))) := by
  obtain ⟨i, b, k, n', cA, m1, m2, m3⟩ := h3 _ hj
  obtain ⟨a', n1, e1, e2⟩ := hM.2.2.2.1 o _ ho
  have e2 : (a', 12, n1) ∈ G := e2
  obtain ⟨i9, hi9⟩ := List.getElem?_of_mem e2
  have ha := hT.2.2 i9 q a' a n1 n hi9 h1
  subst ha
  have h8 := hM.2.2.2.2.1 _ hf
  unfold q9FMok at h8
  rw [if_neg hjj] at h8
  obtain ⟨a2, i2, ci, fs2, f1, f2, f3⟩ := h8
  rw [e1] at f1
  cases f1
  have hq : i2 = q := hD.1 i2 q _ _ f2 h2 rfl
  subst hq
  rw [h2] at f2
  cases f2
  rw [m1] at f3
  have f3 : q9ev r av = .ref b := (Option.some.inj f3).symm
  exact ⟨b, i, k, n', cA, q9ev_back f3, f3, m2, m3⟩
/-- the range of an element of such an array -/
theorem q9omT {cT : Nat → ClassId} {G : q9GH} {ws : va_W} (hT : q9tyW cT q9TBL G ws) {A : Nat → Prop} (hD : va_D A ws) {i b cd k n' : Nat} {cA : ClassId} {f : Nat → Int32} (m2 : G[i]? = some (b, cd, k)) (m3 : ws[i]? = some (b, .inl (cA, n', .inl f))) {N : Nat} {lo hi : Int} (hK : q9KAS[cd - 100]? = some (0, N, true, 0, lo, hi)) {y : Nat} (hy : y < N) : lo ≤ (f y).toInt ∧ (f y).toInt ≤ hi := by
  obtain ⟨e, w1, w2⟩ := hT.2.1 i b cd k m2
  rw [m3] at w1
  cases w1
  rcases w2 with ⟨-, fs, F, w3, -⟩ | ⟨-, K, w3, w4⟩
  · cases w3
  · have w3 : q9KAS[cd - 100]? = some K := w3
    rw [hK] at w3
    cases w3
    obtain ⟨-, w5, f', w6, w7⟩ := w4
    cases w6
    have w5 := w5 rfl
    have w5 : k = N := w5
    obtain ⟨z, z1, z2, z3⟩ := w7 y (by omega)
    cases z1
    exact ⟨z2, z3⟩
/-- an element that is known, from the arrays of the reference -/
theorem q9al_new {r : Nat → Value} {ws : va_W} {a b i n' : Nat} {cA : ClassId} {f : Nat → Int32} (hr : r a = .ref b) (hi : ws[i]? = some (b, .inl (cA, n', .inl f))) {s v : q9AV} {y : Int32} (hs : q9ev r s = .int y) (hv : q9ev r v = .int (f y.toNatClampNeg)) : q9ALok r ws (a, s, v) := ⟨b, i, cA, n', .inl f, y, hr, hi, hs, hv⟩
theorem q9ok_of_num {E : List q9ET} {a : q9AV} {k : Nat} {lo hi : Int} (h : q9num E a = some (k, lo, hi)) : ∃ t : q9ET, E[a.1]? = some t := by
  obtain ⟨t, h1, -⟩ := q9num_sym h
  exact ⟨t, h1⟩
/-- a number at its value, in the state with symbols q9more -/
theorem q9int_of {G : q9GH} {E : List q9ET} {r : Nat → Value} {a : q9AV} (hS : q9SAT G E r) (h : q9okAV E a = true) {lo hi : Int} (hn : q9num E a = some (0, lo, hi)) : ∃ y : Int32, q9ev r a = .int y ∧ y.toInt = q9iv r a.1 + a.2 ∧ lo ≤ y.toInt ∧ y.toInt ≤ hi := q9num_int hS h hn
