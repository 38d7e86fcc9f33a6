variable {O : ORC}
/-! what is shot of a shot -/
noncomputable def q9isPr_o (x : q9ST) (c0 : Int) (b : q9AV) (z : Nat × q9AV × q9AV) : Bool := match (q9tE x)[z.1]? with
  | some t => decide (q9famT t = some c0) && (z.2.1 == b)
  | none => false
noncomputable def q9isPr (x : q9ST) (c0 : Int) (b : q9AV) (z : Nat × q9AV × q9AV) : Bool := match (q9ge9 (q9tE x) (z.1)) with
  | some t => q9nd9 (decide (q9famT t = some c0)) ((q9eq9 (z.2.1) (b)))
  | none => false
theorem q9isPr_oq : @q9isPr = @q9isPr_o := by
  delta q9isPr q9isPr_o
  simp only [q9ge9_eq, q9fi9_eq, q9an9_eq, q9al9_eq, q9flt9_eq, q9el9_eq, q9set9_eq, q9ln9_eq, q9gD9_eq, q9ap9_eq, q9eq9_N, q9eq9_I, q9eq9_A, q9eq9_E, q9eq9_OI, q9eq9_ON, q9eq9_OA, q9eq9_L, q9eq9_S, q9de9_N, q9de9_I, q9de9_A, q9le9_N, q9le9_I, q9lt9_N, q9lt9_I, q9de9_E, q9de9_OI, q9de9_ON, q9de9_OA, q9de9_L, q9nd9_eq, q9or9_eq, Bool.cond_decide]
theorem q9isPr_ok {nL : Nat} {g : List Value} {x : q9ST} {r : Nat → Value} {G : q9GH} {ws : va_W} {ls : Array Slot} {st : List Value} (hM : q9SM O nL g x r G ws ls st) {z : Nat × q9AV × q9AV} (hz : z ∈ q9tA x) {b : q9AV} {c0 : Int} (h0 : c0 ≠ 0 ∧ -100 < c0) (h : q9isPr x c0 b z = true) :
    ∃ (q a n : Nat) (fs : List Value) (M : q9LM) (bI w : Int32) (nn : Int), G[q]? = some (a, 12, n) ∧ ws[q]? = some (a, .inr (12, fs)) ∧ (∀ y ∈ q9jF2, ∃ (i b k n' : Nat) (cA : ClassId), fs[y.1]? = some (.ref b) ∧ G[i]? = some (b, y.2, k) ∧ ws[i]? = some (b, .inl (cA, n', .inl (M y.1)))) ∧
      q9nV (r z.1) = some c0 ∧ q9ev r b = .int bI ∧ q9ev r z.2.2 = .int w ∧ (c0 = -7 → ∃ u : Int32, fs[38]? = some (.int u) ∧ nn = u.toInt) ∧ q9JP M nn c0 bI.toInt w.toInt := by
  (rewrite [q9isPr_oq] at h; unfold q9isPr_o at h)
  split at h
  · rename_i t ht
    rw [Bool.and_eq_true, decide_eq_true_eq, beq_iff_eq] at h
    obtain ⟨h1, h2⟩ := h
    obtain ⟨q, a, n, fs, M, c, bI, w, nn, k1, k2, k3, k4, k5, k6, k7, k8, -, k9⟩ := q9ja_of hM hz ht h1 h0.2
    have hc := k9 h0.1
    rw [hc] at k4 k7 k8
    rw [h2] at k5
    refine ⟨q, a, n, fs, M, bI, w, nn, k1, k2, ?_, k4, k5, k6, k7, k8⟩
    have e : q9jFc c0 = q9jF2 := by
      (rewrite [q9famT_oq] at h1; unfold q9famT_o at h1)
      have : c0 < 0 := by
        split at h1
        · split at h1
          · cases h1
            exact absurd rfl h0.1
          · split at h1
            · cases h1
              decide
            · split at h1
              · cases h1
                decide
              · split at h1
                · rename_i hq
                  have := Option.some.inj h1
                  omega
                · cases h1
        · cases h1
      unfold q9jFc
      rw [if_neg (by omega)]
    rw [e] at k3
    exact k3
  · cases h
theorem q9pr_mk {r : Nat → Value} {G : q9GH} {ws : va_W} {q a n : Nat} {fs : List Value} {M : q9LM} (h1 : G[q]? = some (a, 12, n)) (h2 : ws[q]? = some (a, .inr (12, fs))) (h3 : ∀ y ∈ q9jF2, ∃ (i b k n' : Nat) (cA : ClassId), fs[y.1]? = some (.ref b) ∧ G[i]? = some (b, y.2, k) ∧ ws[i]? = some (b, .inl (cA, n', .inl (M y.1))))
    {z : Nat × q9AV × q9AV} {b w u : Int32} (hu : fs[38]? = some (.int u)) (k1 : q9nV (r z.1) = some (-7)) (k3 : q9ev r z.2.1 = .int b) (k4 : q9ev r z.2.2 = .int w) (hC : q9PRA M u.toInt b.toInt w.toInt) : q9AMok O r G ws z :=
  .inr (.inl ⟨q, a, n, fs, M, -7, b, w, u.toInt, h1, h2, (by rw [show q9jFc (-7) = q9jF2 from rfl]; exact h3), k1, k3, k4, fun _ => ⟨u, hu, rfl⟩, by rw [q9JP_pr]; exact hC⟩)
theorem q9PRA.mono {M : q9LM} {n b k k' : Int} (h : q9PRA M n b k) (hk : k' ≤ k) : q9PRA M n b k' := fun i h1 h2 => h i (by omega) h2
/-- the shots that are told, by the field -/
theorem q9shF {nL : Nat} {g : List Value} {x : q9ST} {r : Nat → Value} {G : q9GH} {ws : va_W} {ls : Array Slot} {st : List Value} (hM : q9SM O nL g x r G ws ls st) {cT : Nat → ClassId} {B : q9TB} (hT : q9tyW cT B G ws) {A : Nat → Prop} (hD : va_D A ws) {o : Nat} {h9 : Int} (ho : (q9tE x)[o]? = some (2, 12, h9)) {q a n : Nat} {fs : List Value} (h1 : G[q]? = some (a, 12, n)) (h2 : ws[q]? = some (a, .inr (12, fs))) {v : q9AV} (hv : q9fF x o 38 = some v) : fs[38]? = some (q9ev r v) := by
  obtain ⟨a', n1, e1, e2⟩ := hM.2.2.2.1 o _ ho
  have e2 : (a', 12, n1) ∈ G := e2
  obtain ⟨i9, hi9⟩ := List.getElem?_of_mem e2
  have ha := hT.2.2 i9 q a' a n1 n hi9 h1
  subst ha
  have h8 := hM.2.2.2.2.1 _ (q9fF_ok hv)
  unfold q9FMok at h8
  rw [if_neg (show ¬ (38 : Nat) = 1000 by decide)] at h8
  obtain ⟨a2, i2, ci, fs2, f1, f2, f3⟩ := h8
  rw [e1] at f1
  cases f1
  have hq : i2 = q := hD.1 i2 q _ _ f2 h2 rfl
  subst hq
  rw [h2] at f2
  cases f2
  exact f3
noncomputable def q9xf_o (sel : Nat) : Nat := if sel = 1 then 48 else 108
noncomputable def q9xf (sel : Nat) : Nat := bif q9de9 (sel) (1) then 48 else 108
theorem q9xf_oq : @q9xf = @q9xf_o := by
  delta q9xf q9xf_o
  simp only [q9ge9_eq, q9fi9_eq, q9an9_eq, q9al9_eq, q9flt9_eq, q9el9_eq, q9set9_eq, q9ln9_eq, q9gD9_eq, q9ap9_eq, q9eq9_N, q9eq9_I, q9eq9_A, q9eq9_E, q9eq9_OI, q9eq9_ON, q9eq9_OA, q9eq9_L, q9eq9_S, q9de9_N, q9de9_I, q9de9_A, q9le9_N, q9le9_I, q9lt9_N, q9lt9_I, q9de9_E, q9de9_OI, q9de9_ON, q9de9_OA, q9de9_L, q9nd9_eq, q9or9_eq, Bool.cond_decide]
noncomputable def q9PRq (M : q9LM) (n : Int) (sel i : Nat) : Prop := if sel = 3 then (n ≤ i → (M 44 i).toInt = 0) else (M (q9xf sel) i).toInt ≤ (M 44 i).toInt
theorem q9PRq_eq {M : q9LM} {n : Int} {sel i : Nat} : (if (sel : Int) = 3 then (n ≤ i → (M 44 i).toInt = 0) else (M (if (sel : Int) = 1 then 48 else 108) i).toInt ≤ (M 44 i).toInt) ↔ q9PRq M n sel i := by
  (unfold q9PRq; rewrite [q9xf_oq]; unfold q9xf_o)
  by_cases h3 : sel = 3
  · subst h3
    exact Iff.rfl
  · rw [if_neg (show ¬ (sel : Int) = 3 by omega), if_neg h3]
    by_cases h1 : sel = 1
    · subst h1
      exact Iff.rfl
    · rw [if_neg (show ¬ (sel : Int) = 1 by omega), if_neg h1]
theorem q9pra_iff {M : q9LM} {n k b : Int} {sel e : Nat} (hb : b = 1000 * (sel : Int) + (e : Int)) (he : e < 1000) : q9PRA M n b k ↔ ∀ i : Nat, (i : Int) < k → i + 1 ≠ e → q9PRq M n sel i := by
  have d1 : b / 1000 = (sel : Int) := by omega
  have d2 : b % 1000 = (e : Int) := by omega
  unfold q9PRA
  rw [d1, d2]
  constructor
  · intro h i h1 h2
    exact q9PRq_eq.mp (h i h1 (by omega))
  · intro h i h1 h2
    exact q9PRq_eq.mpr (h i h1 (by omega))
theorem q9pra_0 {M : q9LM} {n k b : Int} {sel : Nat} (hb : b = 1000 * (sel : Int)) : q9PRA M n b k ↔ ∀ i : Nat, (i : Int) < k → q9PRq M n sel i := by
  rw [q9pra_iff (e := 0) (sel := sel) (by rw [hb]; exact (Int.add_zero _).symm) (by decide)]
  exact ⟨fun h i h1 => h i h1 (Nat.succ_ne_zero _), fun h i h1 _ => h i h1⟩
theorem q9PRq_12 {M : q9LM} {n : Int} {sel i : Nat} (h : sel = 1 ∨ sel = 2) : q9PRq M n sel i ↔ (M (q9xf sel) i).toInt ≤ (M 44 i).toInt := by
  unfold q9PRq
  rw [if_neg (by rcases h with rfl | rfl <;> decide)]
theorem q9xf_in (sel : Nat) : (q9xf sel, if sel = 1 then 199 else 247) ∈ q9jF2 ∧ q9xf sel ≠ 1000 := by
  (rewrite [q9xf_oq]; unfold q9xf_o)
  split
  · exact ⟨by decide, by decide⟩
  · exact ⟨by decide, by decide⟩
theorem q9cst_ev {x : q9ST} {r : Nat → Value} {G : q9GH} (hS : q9SAT G (q9tE x) r) (h : q9zeroB x = true) {c : Int} {b : Int32} (hb : q9ev r (0, c) = .int b) (h1 : -2147483648 ≤ c) (h2 : c ≤ 2147483647) : b.toInt = c := by
  rw [q9zero_ev hS (q9zero_at h) c] at hb
  cases hb
  exact q9toI h1 h2
/-- shot no farther than it goes, at a place -/
noncomputable def q9prL_o (o sel : Nat) (i : q9AV) : q9RF := fun x => match (q9tE x)[o]?, q9fF x o (q9xf sel), q9fF x o 44, q9num (q9tE x) i, (q9tA x).find? (fun z => q9isPr x (-7) (0, 1000 * (sel : Int)) z && q9leB x i z.2.2 (-1)) with
  | some (2, 12, _), some sa, some fa, some (0, l, _), some z => (match q9fA x sa.1 i, q9fA x fa.1 i with
    | some v, some w => if 0 ≤ l ∧ q9okAV (q9tE x) i = true ∧ q9zeroB x = true ∧ q9isInt x v = true ∧ q9isInt x w = true ∧ (sel = 1 ∨ sel = 2) then some [q9addS x [] [] [] [(v.1, w.1, w.2 - v.2)] []] else none
    | _, _ => none)
  | _, _, _, _, _ => none
noncomputable def q9prL (o sel : Nat) (i : q9AV) : q9RF := fun x => match (q9ge9 (q9tE x) (o)), q9fF x o (q9xf sel), q9fF x o 44, q9num (q9tE x) i, q9fi9 (q9tA x) (fun z => q9nd9 (q9isPr x (-7) (0, 1000 * (sel : Int)) z) (q9leB x i z.2.2 (-1))) with
  | some (2, 12, _), some sa, some fa, some (0, l, _), some z => (match q9fA x sa.1 i, q9fA x fa.1 i with
    | some v, some w => if 0 ≤ l ∧ q9okAV (q9tE x) i = true ∧ q9zeroB x = true ∧ q9isInt x v = true ∧ q9isInt x w = true ∧ (sel = 1 ∨ sel = 2) then some [q9addS x [] [] [] [(v.1, w.1, w.2 - v.2)] []] else none
    | _, _ => none)
  | _, _, _, _, _ => none
theorem q9prL_oq : @q9prL = @q9prL_o := by
  delta q9prL q9prL_o
  simp only [q9ge9_eq, q9fi9_eq, q9an9_eq, q9al9_eq, q9flt9_eq, q9el9_eq, q9set9_eq, q9ln9_eq, q9gD9_eq, q9ap9_eq, q9eq9_N, q9eq9_I, q9eq9_A, q9eq9_E, q9eq9_OI, q9eq9_ON, q9eq9_OA, q9eq9_L, q9eq9_S, q9de9_N, q9de9_I, q9de9_A, q9le9_N, q9le9_I, q9lt9_N, q9lt9_I, q9de9_E, q9de9_OI, q9de9_ON, q9de9_OA, q9de9_L, q9nd9_eq, q9or9_eq, Bool.cond_decide]
theorem q9int_iv {x : q9ST} {r : Nat → Value} {G : q9GH} (hS : q9SAT G (q9tE x) r) {a : q9AV} (ha : q9okAV (q9tE x) a = true) (hi : q9isInt x a = true) {y : Int32} (hy : q9ev r a = .int y) : y.toInt = q9iv r a.1 + a.2 := by
  (rewrite [q9isInt_oq] at hi; unfold q9isInt_o at hi)
  cases hE : (q9tE x)[a.1]? with
  | none => rw [hE] at hi; cases hi
  | some t =>
    obtain ⟨k, lo, hh⟩ := t
    rw [hE] at hi
    have h0 : k = 0 := by simpa using hi
    subst h0
    obtain ⟨u, e1, e2, -⟩ := q9ev_int hS hE ha
    rw [hy] at e1
    cases e1
    exact e2
theorem q9prL_ok (o sel : Nat) (i : q9AV) : q9RFok O (q9prL o sel i) := by
  intro nL g cT A x r G ws ls st xs hw hM hT hD h
  (rewrite [q9prL_oq] at h; unfold q9prL_o at h)
  split at h
  · rename_i h9 sa fa l h' z ho hsa hfa hn hz
    split at h
    · rename_i v w hv hw9
      split at h
      · rename_i hc
        obtain ⟨c1, c2, c3, c4, c5, c6⟩ := hc
        cases h
        have hzm := List.mem_of_find?_eq_some hz
        have hz9 := List.find?_some hz
        rw [Bool.and_eq_true] at hz9
        obtain ⟨q, a, n, fs, M, bI, wI, nn, k1, k2, k3, k4, k5, k6, k7, k8⟩ := q9isPr_ok hM hzm (by decide) hz9.1
        have hb := q9cst_ev hM.2.2.2.1 c3 k5 (by omega) (by omega)
        obtain ⟨y, y1, y2, y3, y4⟩ := q9num_int hM.2.2.2.1 c2 hn
        have hle := q9leB_ok hM c2 (q9wf_A hw z hzm).2.2 hz9.2
        rw [y1, k6] at hle
        have hle : y.toInt ≤ wI.toInt + -1 := hle
        have hyc : y.toNatClampNeg = y.toInt.toNat := rfl
        rw [q9JP_pr, q9pra_0 hb] at k8
        have hyw : (y.toNatClampNeg : Int) < wI.toInt := by
          clear c6 k7 k8
          omega
        have h8 := (q9PRq_12 c6).mp (k8 y.toNatClampNeg hyw)
        clear c6
        obtain ⟨xi, xj⟩ := q9xf_in sel
        obtain ⟨b1, i1, k1', n1, cA1, m1, m2, m3, m4⟩ := q9omA hM hT hD ho k1 k2 k3 xi xj (q9fF_ok hsa)
        obtain ⟨b2, i2, k2', n2, cA2, p1, p2, p3, p4⟩ := q9omA hM hT hD ho k1 k2 k3 (j := 44) (cd := 195) (by decide) (by decide) (q9fF_ok hfa)
        obtain ⟨v1, v2⟩ := q9fA_ok hM hw hD hv c2 y1 m1 m4
        obtain ⟨w1, w2⟩ := q9fA_ok hM hw hD hw9 c2 y1 p1 p4
        have v2 : q9ev r v = .int (M (q9xf sel) y.toNatClampNeg) := v2
        have w2 : q9ev r w = .int (M 44 y.toNatClampNeg) := w2
        have e1 := q9int_iv hM.2.2.2.1 v1 c4 v2
        have e2 := q9int_iv hM.2.2.2.1 w1 c5 w2
        refine q9rf_add hM hw [] List.mem_cons_self q9ty_nil q9no_mem q9no_mem (q9one_mem ?_) q9no_mem
        unfold q9FCok
        rw [q9upL_agr.iv (q9okAV_lt v1), q9upL_agr.iv (q9okAV_lt w1)]
        show q9iv r v.1 ≤ q9iv r w.1 + (w.2 - v.2)
        omega
      · cases h
    · cases h
  · cases h
/-- what isn't told has no frames -/
noncomputable def q9prZ_o (o : Nat) (i : q9AV) : q9RF := fun x => match (q9tE x)[o]?, q9fF x o 44, q9fF x o 38, q9num (q9tE x) i, (q9tA x).find? (fun z => q9isPr x (-7) (0, 3000) z && q9leB x i z.2.2 (-1)) with
  | some (2, 12, _), some fa, some n, some (0, l, _), some z => (match q9fA x fa.1 i with
    | some w => if 0 ≤ l ∧ q9okAV (q9tE x) i = true ∧ q9zeroB x = true ∧ q9isInt x w = true ∧ q9isInt x n = true ∧ q9leB x n i 0 = true then some [q9addS x [] [] [] [(w.1, 0, -w.2)] []] else none
    | none => none)
  | _, _, _, _, _ => none
noncomputable def q9prZ (o : Nat) (i : q9AV) : q9RF := fun x => match (q9ge9 (q9tE x) (o)), q9fF x o 44, q9fF x o 38, q9num (q9tE x) i, q9fi9 (q9tA x) (fun z => q9nd9 (q9isPr x (-7) (0, 3000) z) (q9leB x i z.2.2 (-1))) with
  | some (2, 12, _), some fa, some n, some (0, l, _), some z => (match q9fA x fa.1 i with
    | some w => if 0 ≤ l ∧ q9okAV (q9tE x) i = true ∧ q9zeroB x = true ∧ q9isInt x w = true ∧ q9isInt x n = true ∧ q9leB x n i 0 = true then some [q9addS x [] [] [] [(w.1, 0, -w.2)] []] else none
    | none => none)
  | _, _, _, _, _ => none
theorem q9prZ_oq : @q9prZ = @q9prZ_o := by
  delta q9prZ q9prZ_o
  simp only [q9ge9_eq, q9fi9_eq, q9an9_eq, q9al9_eq, q9flt9_eq, q9el9_eq, q9set9_eq, q9ln9_eq, q9gD9_eq, q9ap9_eq, q9eq9_N, q9eq9_I, q9eq9_A, q9eq9_E, q9eq9_OI, q9eq9_ON, q9eq9_OA, q9eq9_L, q9eq9_S, q9de9_N, q9de9_I, q9de9_A, q9le9_N, q9le9_I, q9lt9_N, q9lt9_I, q9de9_E, q9de9_OI, q9de9_ON, q9de9_OA, q9de9_L, q9nd9_eq, q9or9_eq, Bool.cond_decide]
theorem q9iv0 {x : q9ST} {r : Nat → Value} {G : q9GH} (hS : q9SAT G (q9tE x) r) (h : q9zeroB x = true) : q9iv r 0 = 0 := by
  obtain ⟨u, u1, u2, u3⟩ := hS 0 _ (q9zero_at h)
  have u2 : 0 ≤ u.toInt := u2
  have u3 : u.toInt ≤ 0 := u3
  rw [q9iv_of u1]
  omega
theorem q9prZ_ok (o : Nat) (i : q9AV) : q9RFok O (q9prZ o i) := by
  intro nL g cT A x r G ws ls st xs hw hM hT hD h
  (rewrite [q9prZ_oq] at h; unfold q9prZ_o at h)
  split at h
  · rename_i h9 fa nv9 l h' z ho hfa hnf hn hz
    split at h
    · rename_i w hw9
      split at h
      · rename_i hc
        obtain ⟨c1, c2, c3, c4, c5, c6⟩ := hc
        cases h
        have hzm := List.mem_of_find?_eq_some hz
        have hz9 := List.find?_some hz
        rw [Bool.and_eq_true] at hz9
        obtain ⟨q, a, n, fs, M, bI, wI, nn, k1, k2, k3, k4, k5, k6, k7, k8⟩ := q9isPr_ok hM hzm (by decide) hz9.1
        have hb := q9cst_ev hM.2.2.2.1 c3 k5 (by omega) (by omega)
        obtain ⟨y, y1, y2, y3, y4⟩ := q9num_int hM.2.2.2.1 c2 hn
        have hle := q9leB_ok hM c2 (q9wf_A hw z hzm).2.2 hz9.2
        rw [y1, k6] at hle
        have hle : y.toInt ≤ wI.toInt + -1 := hle
        have hyc : y.toNatClampNeg = y.toInt.toNat := rfl
        rw [q9JP_pr] at k8
        have h8 := k8 y.toNatClampNeg (by omega) (by omega)
        rw [if_pos (by omega)] at h8
        obtain ⟨u, u1, u2⟩ := k7 rfl
        have hsf := q9shF hM hT hD ho k1 k2 hnf
        rw [u1] at hsf
        have hsf : q9ev r nv9 = .int u := (Option.some.inj hsf).symm
        have hn9 : q9okAV (q9tE x) nv9 = true := (q9wf_F hw _ (q9fF_ok hnf)).2
        have hl2 := q9leB_ok hM hn9 c2 c6
        rw [hsf, y1] at hl2
        have hl2 : u.toInt ≤ y.toInt + 0 := hl2
        have h8 := h8 (by omega)
        obtain ⟨b2, i2, k2', n2, cA2, p1, p2, p3, p4⟩ := q9omA hM hT hD ho k1 k2 k3 (j := 44) (cd := 195) (by decide) (by decide) (q9fF_ok hfa)
        obtain ⟨w1, w2⟩ := q9fA_ok hM hw hD hw9 c2 y1 p1 p4
        have w2 : q9ev r w = .int (M 44 y.toNatClampNeg) := w2
        have e2 := q9int_iv hM.2.2.2.1 w1 c4 w2
        refine q9rf_add hM hw [] List.mem_cons_self q9ty_nil q9no_mem q9no_mem (q9one_mem ?_) q9no_mem
        unfold q9FCok
        rw [q9upL_agr.iv (q9okAV_lt w1), q9upL_agr.iv (q9lt_of_E (q9zero_at c3)), q9iv0 hM.2.2.2.1 c3]
        show q9iv r w.1 ≤ 0 + -w.2
        omega
      · cases h
    · cases h
  · cases h
/-- all but q9one place -/
noncomputable def q9prO_o (o sel : Nat) (i : q9AV) : q9RF := fun x => match (q9tE x)[o]?, q9num (q9tE x) i, (q9tA x).find? (q9isPr x (-7) (0, 1000 * (sel : Int))) with
  | some (2, 12, _), some (0, l, h), some z => if 0 ≤ l ∧ h ≤ 900 ∧ sel ≤ 3 ∧ q9okAV (q9tE x) i = true ∧ q9zeroB x = true ∧ q9isInt x i = true ∧ q9okAV (q9tE x) (i.1, i.2 + (1000 * (sel : Int) + 1)) = true then some [q9addS x [] [] [(z.1, (i.1, i.2 + (1000 * (sel : Int) + 1)), z.2.2)] [] []] else none
  | _, _, _ => none
noncomputable def q9prO (o sel : Nat) (i : q9AV) : q9RF := fun x => match (q9ge9 (q9tE x) (o)), q9num (q9tE x) i, q9fi9 (q9tA x) (q9isPr x (-7) (0, 1000 * (sel : Int))) with
  | some (2, 12, _), some (0, l, h), some z => if 0 ≤ l ∧ h ≤ 900 ∧ sel ≤ 3 ∧ q9okAV (q9tE x) i = true ∧ q9zeroB x = true ∧ q9isInt x i = true ∧ q9okAV (q9tE x) (i.1, i.2 + (1000 * (sel : Int) + 1)) = true then some [q9addS x [] [] [(z.1, (i.1, i.2 + (1000 * (sel : Int) + 1)), z.2.2)] [] []] else none
  | _, _, _ => none
theorem q9prO_oq : @q9prO = @q9prO_o := by
  delta q9prO q9prO_o
  simp only [q9ge9_eq, q9fi9_eq, q9an9_eq, q9al9_eq, q9flt9_eq, q9el9_eq, q9set9_eq, q9ln9_eq, q9gD9_eq, q9ap9_eq, q9eq9_N, q9eq9_I, q9eq9_A, q9eq9_E, q9eq9_OI, q9eq9_ON, q9eq9_OA, q9eq9_L, q9eq9_S, q9de9_N, q9de9_I, q9de9_A, q9le9_N, q9le9_I, q9lt9_N, q9lt9_I, q9de9_E, q9de9_OI, q9de9_ON, q9de9_OA, q9de9_L, q9nd9_eq, q9or9_eq, Bool.cond_decide]
theorem q9prO_ok (o sel : Nat) (i : q9AV) : q9RFok O (q9prO o sel i) := by
  intro nL g cT A x r G ws ls st xs hw hM hT hD h
  (rewrite [q9prO_oq] at h; unfold q9prO_o at h)
  split at h
  · rename_i h9 l h' z ho hn hz
    split at h
    · rename_i hc
      obtain ⟨c1, c2, c3, c4, c5, c6, c7⟩ := hc
      cases h
      have hzm := List.mem_of_find?_eq_some hz
      obtain ⟨q, a, n, fs, M, bI, wI, nn, k1, k2, k3, k4, k5, k6, k7, k8⟩ := q9isPr_ok (c0 := -7) hM hzm (by decide) (List.find?_some hz)
      have hb := q9cst_ev hM.2.2.2.1 c5 k5 (by omega) (by omega)
      obtain ⟨y, y1, y2, y3, y4⟩ := q9num_int hM.2.2.2.1 c4 hn
      obtain ⟨y', z1, z2⟩ := q9ev_off hM.2.2.2.1 c4 c7 c6 y1
      obtain ⟨u, u1, u2⟩ := k7 rfl
      have hw3 := q9wf_A hw z hzm
      rw [q9JP_pr, u2, q9pra_0 hb] at k8
      have hyc : y.toNatClampNeg = y.toInt.toNat := rfl
      have hy' : y'.toInt = 1000 * (sel : Int) + ((y.toNatClampNeg + 1 : Nat) : Int) := by
        clear k7 k8
        omega
      have hye : y.toNatClampNeg + 1 < 1000 := by
        clear k7 k8
        omega
      refine q9rf_add hM hw [] List.mem_cons_self q9ty_nil q9no_mem (q9one_mem (q9pr_mk (b := y') (w := wI) (u := u) k1 k2 k3 u1 ?_ ?_ ?_ ((q9pra_iff hy' hye).mpr fun j j1 j2 => k8 j j1))) q9no_mem q9no_mem
      · show q9nV (q9upL r _ [] z.1) = _
        rw [q9upL_lt hw3.1]
        exact k4
      · show q9ev _ (i.1, _) = _
        rw [q9upL_agr.ev c7]
        exact z1
      · show q9ev _ z.2.2 = _
        rw [q9upL_agr.ev hw3.2.2]
        exact k6
    · cases h
  · cases h
/-- told by how many shots there were -/
noncomputable def q9prX_o (o : Nat) (b : q9AV) : q9RF := fun x => match (q9tE x)[o]?, q9fF x o 38, (q9tA x).find? (fun z => q9isPr x (-7) b z && q9leB x (0, 12) z.2.2 0) with
  | some (2, 12, _), some n, some z => if q9okAV (q9tE x) b = true ∧ q9zeroB x = true ∧ q9okAV (q9tE x) (0, 12) = true then some [q9addS x [(0, -8, -8)] [] [((q9tE x).length, b, n)] [] []] else none
  | _, _, _ => none
noncomputable def q9prX (o : Nat) (b : q9AV) : q9RF := fun x => match (q9ge9 (q9tE x) (o)), q9fF x o 38, q9fi9 (q9tA x) (fun z => q9nd9 (q9isPr x (-7) b z) (q9leB x (0, 12) z.2.2 0)) with
  | some (2, 12, _), some n, some z => if q9okAV (q9tE x) b = true ∧ q9zeroB x = true ∧ q9okAV (q9tE x) (0, 12) = true then some [q9addS x [(0, -8, -8)] [] [((q9ln9 (q9tE x)), b, n)] [] []] else none
  | _, _, _ => none
theorem q9prX_oq : @q9prX = @q9prX_o := by
  delta q9prX q9prX_o
  simp only [q9ge9_eq, q9fi9_eq, q9an9_eq, q9al9_eq, q9flt9_eq, q9el9_eq, q9set9_eq, q9ln9_eq, q9gD9_eq, q9ap9_eq, q9eq9_N, q9eq9_I, q9eq9_A, q9eq9_E, q9eq9_OI, q9eq9_ON, q9eq9_OA, q9eq9_L, q9eq9_S, q9de9_N, q9de9_I, q9de9_A, q9le9_N, q9le9_I, q9lt9_N, q9lt9_I, q9de9_E, q9de9_OI, q9de9_ON, q9de9_OA, q9de9_L, q9nd9_eq, q9or9_eq, Bool.cond_decide]
theorem q9prX_ok (o : Nat) (b : q9AV) : q9RFok O (q9prX o b) := by
  intro nL g cT A x r G ws ls st xs hw hM hT hD h
  (rewrite [q9prX_oq] at h; unfold q9prX_o at h)
  split at h
  · rename_i h9 nv9 z ho hnf hz
    split at h
    · rename_i hc
      obtain ⟨c1, c2, c3⟩ := hc
      cases h
      have hzm := List.mem_of_find?_eq_some hz
      have hz9 := List.find?_some hz
      rw [Bool.and_eq_true] at hz9
      obtain ⟨q, a, n, fs, M, bI, wI, nn, k1, k2, k3, k4, k5, k6, k7, k8⟩ := q9isPr_ok hM hzm (by decide) hz9.1
      obtain ⟨u, u1, u2⟩ := k7 rfl
      have hsf := q9shF hM hT hD ho k1 k2 hnf
      rw [u1] at hsf
      have hsf : q9ev r nv9 = .int u := (Option.some.inj hsf).symm
      have hn9 : q9okAV (q9tE x) nv9 = true := (q9wf_F hw _ (q9fF_ok hnf)).2
      have hle := q9leB_ok hM c3 (q9wf_A hw z hzm).2.2 hz9.2
      rw [q9zero_ev hM.2.2.2.1 (q9zero_at c2) 12, k6] at hle
      have hle : (12 : Int) ≤ wI.toInt + 0 := hle
      rw [q9JP_pr, u2] at k8
      refine q9rf_add hM hw [.int (-8)] List.mem_cons_self (q9ty_cons ⟨_, rfl, by decide, by decide⟩ q9ty_nil) q9no_mem (q9one_mem (.inr (.inl ⟨q, a, n, fs, M, -8, bI, u, 0, k1, k2, (by rw [show q9jFc (-8) = q9jF2 from rfl]; exact k3), ?_, ?_, ?_, fun h => absurd h (by decide), ?_⟩))) q9no_mem q9no_mem
      · show q9nV (q9upL _ _ _ (q9tE x).length) = _
        rw [q9rU0]
        rfl
      · show q9ev _ b = _
        rw [q9upL_agr.ev c1]
        exact k5
      · show q9ev _ nv9 = _
        rw [q9upL_agr.ev hn9]
        exact hsf
      · rw [q9JP_px]
        exact k8.mono (by clear k7 k8; omega)
    · cases h
  · cases h
/-- and again by how many there are -/
noncomputable def q9prB_o (o : Nat) (b : q9AV) : q9RF := fun x => match (q9tE x)[o]?, q9fF x o 38, (q9tA x).find? (q9isPr x (-8) b) with
  | some (2, 12, _), some n, some z => if q9okAV (q9tE x) b = true ∧ q9zeroB x = true ∧ q9isInt x n = true ∧ q9leB x z.2.2 n 0 = true then some [q9addS x [(0, -7, -7)] [] [((q9tE x).length, b, (0, 12))] [] []] else none
  | _, _, _ => none
noncomputable def q9prB (o : Nat) (b : q9AV) : q9RF := fun x => match (q9ge9 (q9tE x) (o)), q9fF x o 38, q9fi9 (q9tA x) (q9isPr x (-8) b) with
  | some (2, 12, _), some n, some z => if q9okAV (q9tE x) b = true ∧ q9zeroB x = true ∧ q9isInt x n = true ∧ q9leB x z.2.2 n 0 = true then some [q9addS x [(0, -7, -7)] [] [((q9ln9 (q9tE x)), b, (0, 12))] [] []] else none
  | _, _, _ => none
theorem q9prB_oq : @q9prB = @q9prB_o := by
  delta q9prB q9prB_o
  simp only [q9ge9_eq, q9fi9_eq, q9an9_eq, q9al9_eq, q9flt9_eq, q9el9_eq, q9set9_eq, q9ln9_eq, q9gD9_eq, q9ap9_eq, q9eq9_N, q9eq9_I, q9eq9_A, q9eq9_E, q9eq9_OI, q9eq9_ON, q9eq9_OA, q9eq9_L, q9eq9_S, q9de9_N, q9de9_I, q9de9_A, q9le9_N, q9le9_I, q9lt9_N, q9lt9_I, q9de9_E, q9de9_OI, q9de9_ON, q9de9_OA, q9de9_L, q9nd9_eq, q9or9_eq, Bool.cond_decide]
theorem q9prB_ok (o : Nat) (b : q9AV) : q9RFok O (q9prB o b) := by
  intro nL g cT A x r G ws ls st xs hw hM hT hD h
  (rewrite [q9prB_oq] at h; unfold q9prB_o at h)
  split at h
  · rename_i h9 nv9 z ho hnf hz
    split at h
    · rename_i hc
      obtain ⟨c1, c2, c3, c4⟩ := hc
      cases h
      have hzm := List.mem_of_find?_eq_some hz
      obtain ⟨q, a, n, fs, M, bI, wI, nn, k1, k2, k3, k4, k5, k6, k7, k8⟩ := q9isPr_ok (c0 := -8) hM hzm (by decide) (List.find?_some hz)
      have hsf := q9shF hM hT hD ho k1 k2 hnf
      have hn9 : q9okAV (q9tE x) nv9 = true := (q9wf_F hw _ (q9fF_ok hnf)).2
      obtain ⟨u, hu⟩ := q9isInt_ok hM.2.2.2.1 hn9 c3
      rw [hu] at hsf
      have hle := q9leB_ok hM (q9wf_A hw z hzm).2.2 hn9 c4
      rw [k6, hu] at hle
      have hle : wI.toInt ≤ u.toInt + 0 := hle
      rw [q9JP_px] at k8
      refine q9rf_add hM hw [.int (-7)] List.mem_cons_self (q9ty_cons ⟨_, rfl, by decide, by decide⟩ q9ty_nil) q9no_mem (q9one_mem (q9pr_mk (b := bI) (w := Int32.ofInt 12) (u := u) k1 k2 k3 hsf ?_ ?_ ?_ fun j j1 j2 => ?_)) q9no_mem q9no_mem
      · show q9nV (q9upL _ _ _ (q9tE x).length) = _
        rw [q9rU0]
        rfl
      · show q9ev _ b = _
        rw [q9upL_agr.ev c1]
        exact k5
      · show q9ev _ (0, 12) = _
        rw [q9ev_agree (a := (0, 12)) (q9upL_lt (q9lt_of_E (q9zero_at c2)))]
        exact q9zero_ev hM.2.2.2.1 (q9zero_at c2) 12
      · have h8 := k8 j j1 j2
        split
        · rename_i h3
          rw [if_pos h3] at h8
          exact fun hn => h8 (by omega)
        · rename_i h3
          rw [if_neg h3] at h8
          exact h8
    · cases h
  · cases h
noncomputable def q9prCB_o (x : q9ST) (sel : Nat) (i n sa fa : q9AV) : Bool := if sel = 3 then q9leB x i n (-1) else (match q9fA x sa.1 i, q9fA x fa.1 i with
  | some v, some w => q9isInt x v && (q9isInt x w && q9leB x v w 0)
  | _, _ => false)
noncomputable def q9prCB (x : q9ST) (sel : Nat) (i n sa fa : q9AV) : Bool := bif q9de9 (sel) (3) then q9leB x i n (-1) else (match q9fA x sa.1 i, q9fA x fa.1 i with
  | some v, some w => q9nd9 (q9isInt x v) ((q9nd9 (q9isInt x w) (q9leB x v w 0)))
  | _, _ => false)
theorem q9prCB_oq : @q9prCB = @q9prCB_o := by
  delta q9prCB q9prCB_o
  simp only [q9ge9_eq, q9fi9_eq, q9an9_eq, q9al9_eq, q9flt9_eq, q9el9_eq, q9set9_eq, q9ln9_eq, q9gD9_eq, q9ap9_eq, q9eq9_N, q9eq9_I, q9eq9_A, q9eq9_E, q9eq9_OI, q9eq9_ON, q9eq9_OA, q9eq9_L, q9eq9_S, q9de9_N, q9de9_I, q9de9_A, q9le9_N, q9le9_I, q9lt9_N, q9lt9_I, q9de9_E, q9de9_OI, q9de9_ON, q9de9_OA, q9de9_L, q9nd9_eq, q9or9_eq, Bool.cond_decide]
/-- all places again -/
noncomputable def q9prC_o (o sel : Nat) (i : q9AV) : q9RF := fun x => match (q9tE x)[o]?, q9fF x o (q9xf sel), q9fF x o 44, q9fF x o 38, q9num (q9tE x) i, (q9tA x).find? (q9isPr x (-7) (i.1, i.2 + (1000 * (sel : Int) + 1))) with
  | some (2, 12, _), some sa, some fa, some n, some (0, l, h), some z => if 0 ≤ l ∧ h ≤ 900 ∧ sel ≤ 3 ∧ 1 ≤ sel ∧ q9okAV (q9tE x) i = true ∧ q9zeroB x = true ∧ q9isInt x i = true ∧ q9okAV (q9tE x) (i.1, i.2 + (1000 * (sel : Int) + 1)) = true ∧ q9isInt x n = true ∧
        q9prCB x sel i n sa fa = true then some [q9addS x [] [] [(z.1, (0, 1000 * (sel : Int)), z.2.2)] [] []] else none
  | _, _, _, _, _, _ => none
noncomputable def q9prC (o sel : Nat) (i : q9AV) : q9RF := fun x => match (q9ge9 (q9tE x) (o)), q9fF x o (q9xf sel), q9fF x o 44, q9fF x o 38, q9num (q9tE x) i, q9fi9 (q9tA x) (q9isPr x (-7) (i.1, i.2 + (1000 * (sel : Int) + 1))) with
  | some (2, 12, _), some sa, some fa, some n, some (0, l, h), some z => if 0 ≤ l ∧ h ≤ 900 ∧ sel ≤ 3 ∧ 1 ≤ sel ∧ q9okAV (q9tE x) i = true ∧ q9zeroB x = true ∧ q9isInt x i = true ∧ q9okAV (q9tE x) (i.1, i.2 + (1000 * (sel : Int) + 1)) = true ∧ q9isInt x n = true ∧
        q9prCB x sel i n sa fa = true then some [q9addS x [] [] [(z.1, (0, 1000 * (sel : Int)), z.2.2)] [] []] else none
  | _, _, _, _, _, _ => none
theorem q9prC_oq : @q9prC = @q9prC_o := by
  delta q9prC q9prC_o
  simp only [q9ge9_eq, q9fi9_eq, q9an9_eq, q9al9_eq, q9flt9_eq, q9el9_eq, q9set9_eq, q9ln9_eq, q9gD9_eq, q9ap9_eq, q9eq9_N, q9eq9_I, q9eq9_A, q9eq9_E, q9eq9_OI, q9eq9_ON, q9eq9_OA, q9eq9_L, q9eq9_S, q9de9_N, q9de9_I, q9de9_A, q9le9_N, q9le9_I, q9lt9_N, q9lt9_I, q9de9_E, q9de9_OI, q9de9_ON, q9de9_OA, q9de9_L, q9nd9_eq, q9or9_eq, Bool.cond_decide]
theorem q9prC_ok (o sel : Nat) (i : q9AV) : q9RFok O (q9prC o sel i) := by
  intro nL g cT A x r G ws ls st xs hw hM hT hD h
  (rewrite [q9prC_oq] at h; unfold q9prC_o at h)
  split at h
  · rename_i h9 sa fa nv9 l h' z ho hsa hfa hnf hn hz
    split at h
    · rename_i hc
      obtain ⟨c1, c2, c3, c3', c4, c5, c6, c7, q9c8, c9⟩ := hc
      cases h
      have hzm := List.mem_of_find?_eq_some hz
      obtain ⟨q, a, n, fs, M, bI, wI, nn, k1, k2, k3, k4, k5, k6, k7, k8⟩ := q9isPr_ok (c0 := -7) hM hzm (by decide) (List.find?_some hz)
      obtain ⟨y, y1, y2, y3, y4⟩ := q9num_int hM.2.2.2.1 c4 hn
      obtain ⟨y', z1, z2⟩ := q9ev_off hM.2.2.2.1 c4 c7 c6 y1
      rw [z1] at k5
      have k5 : y' = bI := by
        injection k5
      subst k5
      obtain ⟨u, u1, u2⟩ := k7 rfl
      have hw3 := q9wf_A hw z hzm
      have hyc : y.toNatClampNeg = y.toInt.toNat := rfl
      have hy' : y'.toInt = 1000 * (sel : Int) + ((y.toNatClampNeg + 1 : Nat) : Int) := by
        clear k7 k8
        omega
      have hye : y.toNatClampNeg + 1 < 1000 := by
        clear k7 k8
        omega
      rw [q9JP_pr, u2, q9pra_iff hy' hye] at k8
      have hsf := q9shF hM hT hD ho k1 k2 hnf
      rw [u1] at hsf
      have hsf : q9ev r nv9 = .int u := (Option.some.inj hsf).symm
      have hn9 : q9okAV (q9tE x) nv9 = true := (q9wf_F hw _ (q9fF_ok hnf)).2
      have i1000 := q9toI (c := 1000 * (sel : Int)) (by omega) (by omega)
      refine q9rf_add hM hw [] List.mem_cons_self q9ty_nil q9no_mem (q9one_mem (q9pr_mk (b := Int32.ofInt (1000 * (sel : Int))) (w := wI) (u := u) k1 k2 k3 u1 ?_ ?_ ?_ ((q9pra_0 i1000).mpr fun j j1 => ?_))) q9no_mem q9no_mem
      · show q9nV (q9upL r _ [] z.1) = _
        rw [q9upL_lt hw3.1]
        exact k4
      · show q9ev _ (0, _) = _
        rw [q9ev_agree (a := (0, 1000 * (sel : Int))) (q9upL_lt (q9lt_of_E (q9zero_at c5)))]
        exact q9zero_ev hM.2.2.2.1 (q9zero_at c5) _
      · show q9ev _ z.2.2 = _
        rw [q9upL_agr.ev hw3.2.2]
        exact k6
      · by_cases hj : j + 1 = y.toNatClampNeg + 1
        · have hj9 : j = y.toNatClampNeg := Nat.succ.inj hj
          subst hj9
          (rewrite [q9prCB_oq] at c9; unfold q9prCB_o at c9)
          unfold q9PRq
          split at c9
          · rename_i h3
            rw [if_pos h3]
            have hle := q9leB_ok hM c4 hn9 c9
            rw [y1, hsf] at hle
            have hle : y.toInt ≤ u.toInt + -1 := hle
            intro hh
            clear k7 k8
            omega
          · rename_i h3
            rw [if_neg h3]
            split at c9
            · rename_i v w hv hw9
              simp only [Bool.and_eq_true] at c9
              obtain ⟨xi, xj⟩ := q9xf_in sel
              obtain ⟨b1, i1, k1', n1, cA1, m1, m2, m3, m4⟩ := q9omA hM hT hD ho k1 k2 k3 xi xj (q9fF_ok hsa)
              obtain ⟨b2, i2, k2', n2, cA2, p1, p2, p3, p4⟩ := q9omA hM hT hD ho k1 k2 k3 (j := 44) (cd := 195) (by decide) (by decide) (q9fF_ok hfa)
              obtain ⟨v1, v2⟩ := q9fA_ok hM hw hD hv c4 y1 m1 m4
              obtain ⟨w1, w2⟩ := q9fA_ok hM hw hD hw9 c4 y1 p1 p4
              have v2 : q9ev r v = .int (M (q9xf sel) y.toNatClampNeg) := v2
              have w2 : q9ev r w = .int (M 44 y.toNatClampNeg) := w2
              have hle := q9leB_ok hM v1 w1 c9.2.2
              rw [v2, w2] at hle
              have hle : (M (q9xf sel) y.toNatClampNeg).toInt ≤ (M 44 y.toNatClampNeg).toInt + 0 := hle
              clear k7 k8
              omega
            · cases c9
        · exact k8 j j1 hj
    · cases h
  · cases h
/-- none yet -/
noncomputable def q9prN_o (o sel : Nat) : q9RF := fun x => match (q9tE x)[o]?, q9fF x o 38 with
  | some (2, 12, _), some n => if q9zeroB x = true ∧ q9isInt x n = true ∧ sel ≤ 3 then some [q9addS x [(0, -7, -7)] [] [((q9tE x).length, (0, 1000 * (sel : Int)), (0, 0))] [] []] else none
  | _, _ => none
noncomputable def q9prN (o sel : Nat) : q9RF := fun x => match (q9ge9 (q9tE x) (o)), q9fF x o 38 with
  | some (2, 12, _), some n => if q9zeroB x = true ∧ q9isInt x n = true ∧ sel ≤ 3 then some [q9addS x [(0, -7, -7)] [] [((q9ln9 (q9tE x)), (0, 1000 * (sel : Int)), (0, 0))] [] []] else none
  | _, _ => none
theorem q9prN_oq : @q9prN = @q9prN_o := by
  delta q9prN q9prN_o
  simp only [q9ge9_eq, q9fi9_eq, q9an9_eq, q9al9_eq, q9flt9_eq, q9el9_eq, q9set9_eq, q9ln9_eq, q9gD9_eq, q9ap9_eq, q9eq9_N, q9eq9_I, q9eq9_A, q9eq9_E, q9eq9_OI, q9eq9_ON, q9eq9_OA, q9eq9_L, q9eq9_S, q9de9_N, q9de9_I, q9de9_A, q9le9_N, q9le9_I, q9lt9_N, q9lt9_I, q9de9_E, q9de9_OI, q9de9_ON, q9de9_OA, q9de9_L, q9nd9_eq, q9or9_eq, Bool.cond_decide]
theorem q9prN_ok (o sel : Nat) : q9RFok O (q9prN o sel) := by
  intro nL g cT A x r G ws ls st xs hw hM hT hD h
  (rewrite [q9prN_oq] at h; unfold q9prN_o at h)
  split at h
  · rename_i h9 nv9 ho hnf
    split at h
    · rename_i hc
      obtain ⟨c1, c2, c3⟩ := hc
      cases h
      obtain ⟨q, a, n, fs, M, k0, k1, k2, k3⟩ := q9ja_obj hM hT ho
      have k3 : ∀ y ∈ q9jF2, _ := fun y hy => k3 y (List.mem_append_right _ hy)
      have hsf := q9shF hM hT hD ho k1 k2 hnf
      have hn9 : q9okAV (q9tE x) nv9 = true := (q9wf_F hw _ (q9fF_ok hnf)).2
      obtain ⟨u, hu⟩ := q9isInt_ok hM.2.2.2.1 hn9 c2
      rw [hu] at hsf
      refine q9rf_add hM hw [.int (-7)] List.mem_cons_self (q9ty_cons ⟨_, rfl, by decide, by decide⟩ q9ty_nil) q9no_mem (q9one_mem (q9pr_mk (b := Int32.ofInt (1000 * (sel : Int))) (w := Int32.ofInt 0) (u := u) k1 k2 k3 hsf ?_ ?_ ?_ fun j j1 j2 => ?_)) q9no_mem q9no_mem
      · show q9nV (q9upL _ _ _ (q9tE x).length) = _
        rw [q9rU0]
        rfl
      · show q9ev _ (0, _) = _
        rw [q9ev_agree (a := (0, 1000 * (sel : Int))) (q9upL_lt (q9lt_of_E (q9zero_at c1)))]
        exact q9zero_ev hM.2.2.2.1 (q9zero_at c1) _
      · show q9ev _ (0, 0) = _
        rw [q9ev_agree (a := (0, 0)) (q9upL_lt (q9lt_of_E (q9zero_at c1)))]
        exact q9zero_ev hM.2.2.2.1 (q9zero_at c1) 0
      · have : (Int32.ofInt 0).toInt = 0 := rfl
        omega
    · cases h
  · cases h
/-- q9one place q9more is copied -/
noncomputable def q9prG_o (o q9sX sY : Nat) (k : q9AV) : q9RF := fun x => match (q9tE x)[o]?, q9fF x o (q9xf q9sX), q9fF x o (q9xf sY), q9num (q9tE x) k, (q9tA x).find? (fun z => q9isPr x (-7) (0, 1000 * (q9sX : Int)) z && (q9leB x z.2.2 k 0 && q9leB x k z.2.2 0)), (q9tA x).find? (fun z => q9isPr x (-7) (0, 1000 * (sY : Int)) z && q9leB x k z.2.2 (-1)) with
  | some (2, 12, _), some xa, some ya, some (0, l, _), some z1, some z2 => (match q9fA x xa.1 k, q9fA x ya.1 k with
    | some v, some w => if 0 ≤ l ∧ q9okAV (q9tE x) k = true ∧ q9okAV (q9tE x) (k.1, k.2 + 1) = true ∧ q9isInt x k = true ∧ q9zeroB x = true ∧ q9eqV x v w = true ∧ (q9sX = 1 ∨ q9sX = 2) ∧ (sY = 1 ∨ sY = 2) then some [q9addS x [] [] [(z1.1, (0, 1000 * (q9sX : Int)), (k.1, k.2 + 1))] [] []] else none
    | _, _ => none)
  | _, _, _, _, _, _ => none
noncomputable def q9prG (o q9sX sY : Nat) (k : q9AV) : q9RF := fun x => match (q9ge9 (q9tE x) (o)), q9fF x o (q9xf q9sX), q9fF x o (q9xf sY), q9num (q9tE x) k, q9fi9 (q9tA x) (fun z => q9nd9 (q9isPr x (-7) (0, 1000 * (q9sX : Int)) z) ((q9nd9 (q9leB x z.2.2 k 0) (q9leB x k z.2.2 0)))), q9fi9 (q9tA x) (fun z => q9nd9 (q9isPr x (-7) (0, 1000 * (sY : Int)) z) (q9leB x k z.2.2 (-1))) with
  | some (2, 12, _), some xa, some ya, some (0, l, _), some z1, some z2 => (match q9fA x xa.1 k, q9fA x ya.1 k with
    | some v, some w => if 0 ≤ l ∧ q9okAV (q9tE x) k = true ∧ q9okAV (q9tE x) (k.1, k.2 + 1) = true ∧ q9isInt x k = true ∧ q9zeroB x = true ∧ q9eqV x v w = true ∧ (q9sX = 1 ∨ q9sX = 2) ∧ (sY = 1 ∨ sY = 2) then some [q9addS x [] [] [(z1.1, (0, 1000 * (q9sX : Int)), (k.1, k.2 + 1))] [] []] else none
    | _, _ => none)
  | _, _, _, _, _, _ => none
theorem q9prG_oq : @q9prG = @q9prG_o := by
  delta q9prG q9prG_o
  simp only [q9ge9_eq, q9fi9_eq, q9an9_eq, q9al9_eq, q9flt9_eq, q9el9_eq, q9set9_eq, q9ln9_eq, q9gD9_eq, q9ap9_eq, q9eq9_N, q9eq9_I, q9eq9_A, q9eq9_E, q9eq9_OI, q9eq9_ON, q9eq9_OA, q9eq9_L, q9eq9_S, q9de9_N, q9de9_I, q9de9_A, q9le9_N, q9le9_I, q9lt9_N, q9lt9_I, q9de9_E, q9de9_OI, q9de9_ON, q9de9_OA, q9de9_L, q9nd9_eq, q9or9_eq, Bool.cond_decide]
theorem q9prG_ok (o q9sX sY : Nat) (k : q9AV) : q9RFok O (q9prG o q9sX sY k) := by
  intro nL g cT A x r G ws ls st xs hw hM hT hD h
  (rewrite [q9prG_oq] at h; unfold q9prG_o at h)
  split at h
  · rename_i h9 xa ya l h' z1 z2 ho hxa hya hn hz1 hz2
    split at h
    · rename_i v w hv hw9
      split at h
      · rename_i hc
        obtain ⟨c1, c2, c3, c4, c5, c6, c7, q9c8⟩ := hc
        cases h
        have hm1 := List.mem_of_find?_eq_some hz1
        have hf1 := List.find?_some hz1
        rw [Bool.and_eq_true, Bool.and_eq_true] at hf1
        have hm2 := List.mem_of_find?_eq_some hz2
        have hf2 := List.find?_some hz2
        rw [Bool.and_eq_true] at hf2
        obtain ⟨q, a, n, fs, M, bI, wI, nn, k1, k2, k3, k4, k5, k6, k7, k8⟩ := q9isPr_ok hM hm1 (by decide) hf1.1
        obtain ⟨q', a', n', fs', M', bI', wI', nn', j1, j2, j3, j4, j5, j6, j7, j8⟩ := q9isPr_ok hM hm2 (by decide) hf2.1
        obtain ⟨hff, hMM⟩ := q9sameM hT hD k1 k2 k3 j1 j2 j3
        have hX9 : q9sX ≤ 2 ∧ sY ≤ 2 := by
          rcases c7 with rfl | rfl <;> rcases q9c8 with rfl | rfl <;> decide
        have hb := q9cst_ev hM.2.2.2.1 c5 k5 (by clear c7 q9c8 k7 k8 j7 j8; omega) (by clear c7 q9c8 k7 k8 j7 j8; omega)
        have hb' := q9cst_ev hM.2.2.2.1 c5 j5 (by clear c7 q9c8 k7 k8 j7 j8; omega) (by clear c7 q9c8 k7 k8 j7 j8; omega)
        obtain ⟨y, y1, y2, y3, y4⟩ := q9num_int hM.2.2.2.1 c2 hn
        obtain ⟨y', s1, s2⟩ := q9ev_off hM.2.2.2.1 c2 c3 c4 y1
        have w1 := q9wf_A hw z1 hm1
        have w2 := q9wf_A hw z2 hm2
        have l1 := q9leB_ok hM w1.2.2 c2 hf1.2.1
        have l2 := q9leB_ok hM c2 w1.2.2 hf1.2.2
        have l3 := q9leB_ok hM c2 w2.2.2 hf2.2
        rw [k6, y1] at l1 l2
        rw [y1, j6] at l3
        have l1 : wI.toInt ≤ y.toInt + 0 := l1
        have l2 : y.toInt ≤ wI.toInt + 0 := l2
        have l3 : y.toInt ≤ wI'.toInt + -1 := l3
        have hyc : y.toNatClampNeg = y.toInt.toNat := rfl
        obtain ⟨u, u1, u2⟩ := k7 rfl
        rw [q9JP_pr, u2, q9pra_0 hb] at k8
        rw [q9JP_pr, q9pra_0 hb'] at j8
        have hX3 : q9sX ≤ 2 := by
          rcases c7 with rfl | rfl <;> decide
        obtain ⟨xi, xj⟩ := q9xf_in q9sX
        obtain ⟨yi, yj⟩ := q9xf_in sY
        obtain ⟨b1, i1, k1', n1, cA1, m1, m2, m3, m4⟩ := q9omA hM hT hD ho k1 k2 k3 xi xj (q9fF_ok hxa)
        obtain ⟨b2, i2, k2', n2, cA2, p1, p2, p3, p4⟩ := q9omA hM hT hD ho k1 k2 k3 yi yj (q9fF_ok hya)
        obtain ⟨v1, v2⟩ := q9fA_ok hM hw hD hv c2 y1 m1 m4
        obtain ⟨w1', w2'⟩ := q9fA_ok hM hw hD hw9 c2 y1 p1 p4
        have v2 : q9ev r v = .int (M (q9xf q9sX) y.toNatClampNeg) := v2
        have w2' : q9ev r w = .int (M (q9xf sY) y.toNatClampNeg) := w2'
        have hev := q9eqV_ok hM c6
        rw [v2, w2'] at hev
        injection hev with hev
        have i1000 := q9toI (c := 1000 * (q9sX : Int)) (by clear c7 q9c8 k7 k8 j7 j8; omega) (by clear c7 q9c8 k7 k8 j7 j8; omega)
        refine q9rf_add hM hw [] List.mem_cons_self q9ty_nil q9no_mem (q9one_mem (q9pr_mk (b := Int32.ofInt (1000 * (q9sX : Int))) (w := y') (u := u) k1 k2 k3 u1 ?_ ?_ ?_ ((q9pra_0 i1000).mpr fun j j1' => (q9PRq_12 c7).mpr ?_))) q9no_mem q9no_mem
        · show q9nV (q9upL r _ [] z1.1) = _
          rw [q9upL_lt w1.1]
          exact k4
        · show q9ev _ (0, _) = _
          rw [q9ev_agree (a := (0, 1000 * (q9sX : Int))) (q9upL_lt (q9lt_of_E (q9zero_at c5)))]
          exact q9zero_ev hM.2.2.2.1 (q9zero_at c5) _
        · show q9ev _ (k.1, _) = _
          rw [q9upL_agr.ev c3]
          exact s1
        · by_cases hj : (j : Int) < wI.toInt
          · exact (q9PRq_12 c7).mp (k8 j hj)
          · have hj9 : j = y.toNatClampNeg := by
              clear c7 q9c8 k7 k8 j7 j8
              omega
            subst hj9
            have := (q9PRq_12 q9c8).mp (j8 y.toNatClampNeg (by clear c7 q9c8 k7 k8 j7 j8; omega))
            rw [hMM _ yi, hMM (44, 195) (by decide)] at this
            rw [hev]
            exact this
      · cases h
    · cases h
  · cases h
/-- all twelve -/
noncomputable def q9prE_o (o sel : Nat) : q9RF := fun x => match (q9tE x)[o]?, (q9tA x).find? (fun z => q9isPr x (-7) (0, 1000 * (sel : Int)) z && q9leB x (0, 12) z.2.2 0) with
  | some (2, 12, _), some z => if q9zeroB x = true ∧ q9okAV (q9tE x) (0, 12) = true then some [q9addS x [] [] [(z.1, (0, 1000 * (sel : Int)), (0, 12))] [] []] else none
  | _, _ => none
noncomputable def q9prE (o sel : Nat) : q9RF := fun x => match (q9ge9 (q9tE x) (o)), q9fi9 (q9tA x) (fun z => q9nd9 (q9isPr x (-7) (0, 1000 * (sel : Int)) z) (q9leB x (0, 12) z.2.2 0)) with
  | some (2, 12, _), some z => if q9zeroB x = true ∧ q9okAV (q9tE x) (0, 12) = true then some [q9addS x [] [] [(z.1, (0, 1000 * (sel : Int)), (0, 12))] [] []] else none
  | _, _ => none
theorem q9prE_oq : @q9prE = @q9prE_o := by
  delta q9prE q9prE_o
  simp only [q9ge9_eq, q9fi9_eq, q9an9_eq, q9al9_eq, q9flt9_eq, q9el9_eq, q9set9_eq, q9ln9_eq, q9gD9_eq, q9ap9_eq, q9eq9_N, q9eq9_I, q9eq9_A, q9eq9_E, q9eq9_OI, q9eq9_ON, q9eq9_OA, q9eq9_L, q9eq9_S, q9de9_N, q9de9_I, q9de9_A, q9le9_N, q9le9_I, q9lt9_N, q9lt9_I, q9de9_E, q9de9_OI, q9de9_ON, q9de9_OA, q9de9_L, q9nd9_eq, q9or9_eq, Bool.cond_decide]
theorem q9prE_ok (o sel : Nat) : q9RFok O (q9prE o sel) := by
  intro nL g cT A x r G ws ls st xs hw hM hT hD h
  (rewrite [q9prE_oq] at h; unfold q9prE_o at h)
  split at h
  · rename_i h9 z ho hz
    split at h
    · rename_i hc
      obtain ⟨c2, c3⟩ := hc
      cases h
      have hzm := List.mem_of_find?_eq_some hz
      have hz9 := List.find?_some hz
      rw [Bool.and_eq_true] at hz9
      obtain ⟨q, a, n, fs, M, bI, wI, nn, k1, k2, k3, k4, k5, k6, k7, k8⟩ := q9isPr_ok hM hzm (by decide) hz9.1
      obtain ⟨u, u1, u2⟩ := k7 rfl
      have hw3 := q9wf_A hw z hzm
      have hle := q9leB_ok hM c3 hw3.2.2 hz9.2
      rw [q9zero_ev hM.2.2.2.1 (q9zero_at c2) 12, k6] at hle
      have hle : (12 : Int) ≤ wI.toInt + 0 := hle
      rw [q9JP_pr, u2] at k8
      have e12 : (Int32.ofInt 12).toInt = 12 := rfl
      refine q9rf_add hM hw [] List.mem_cons_self q9ty_nil q9no_mem (q9one_mem (q9pr_mk (b := bI) (w := Int32.ofInt 12) (u := u) k1 k2 k3 u1 ?_ ?_ ?_ (k8.mono (by omega)))) q9no_mem q9no_mem
      · show q9nV (q9upL r _ [] z.1) = _
        rw [q9upL_lt hw3.1]
        exact k4
      · show q9ev _ (0, _) = _
        rw [q9ev_agree (a := (0, 1000 * (sel : Int))) (q9upL_lt (q9lt_of_E (q9zero_at c2)))]
        exact k5
      · show q9ev _ (0, 12) = _
        rw [q9ev_agree (a := (0, 12)) (q9upL_lt (q9lt_of_E (q9zero_at c2)))]
        exact q9zero_ev hM.2.2.2.1 (q9zero_at c2) 12
    · cases h
  · cases h
