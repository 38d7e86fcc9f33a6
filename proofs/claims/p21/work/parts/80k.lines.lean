variable {O : ORC}
/-! what is told of the reference's lines -/
theorem q9evU0 {r : Nat → Value} {n : Nat} {v : Value} {vs : List Value} : q9ev (q9upL r n (v :: vs)) (n, 0) = v := by
  rw [q9ev_zero]
  exact q9upL_at 0
theorem q9evU1 {r : Nat → Value} {n : Nat} {v w : Value} {vs : List Value} : q9ev (q9upL r n (v :: w :: vs)) (n + 1, 0) = w := by
  rw [q9ev_zero]
  exact q9upL_at 1
theorem q9evU2 {r : Nat → Value} {n : Nat} {v w u : Value} {vs : List Value} : q9ev (q9upL r n (v :: w :: u :: vs)) (n + 2, 0) = u := by
  rw [q9ev_zero]
  exact q9upL_at 2
theorem q9rU0 {r : Nat → Value} {n : Nat} {v : Value} {vs : List Value} : q9upL r n (v :: vs) n = v := q9upL_at 0
theorem q9rU1 {r : Nat → Value} {n : Nat} {v w : Value} {vs : List Value} : q9upL r n (v :: w :: vs) (n + 1) = w := q9upL_at 1
theorem q9rU2 {r : Nat → Value} {n : Nat} {v w u : Value} {vs : List Value} : q9upL r n (v :: w :: u :: vs) (n + 2) = u := q9upL_at 2
theorem q9iv_of {r : Nat → Value} {k : Nat} {u : Int32} (h : r k = .int u) : q9iv r k = u.toInt := by
  unfold q9iv
  rw [h]
theorem q9ivJ_of {r : Nat → Value} {k : Nat} {u : Int64} (h : r k = .long u) : q9iv r k = u.toInt := by
  unfold q9iv
  rw [h]
theorem q9num_iv {G : q9GH} {E : List q9ET} {r : Nat → Value} {a : q9AV} (hS : q9SAT G E r) (h : q9okAV E a = true) {lo hi : Int} (hn : q9num E a = some (0, lo, hi)) {y : Int32} (hy : q9ev r a = .int y) : y.toInt = q9iv r a.1 + a.2 ∧ lo ≤ y.toInt ∧ y.toInt ≤ hi := by
  obtain ⟨y', e, h1, h2, h3⟩ := q9num_int hS h hn
  rw [hy] at e
  cases e
  exact ⟨h1, h2, h3⟩
theorem q9ofI {u : Int32} : Int32.ofInt u.toInt = u := Int32.toInt_inj.mp (q9ofInt_toInt32 (by have := Int32.le_toInt u; omega) (by have := Int32.toInt_lt u; omega))
theorem q9ja_of {nL : Nat} {g : List Value} {x : q9ST} {r : Nat → Value} {G : q9GH} {ws : va_W} {ls : Array Slot} {st : List Value} (hM : q9SM O nL g x r G ws ls st) {z : Nat × q9AV × q9AV} (hz : z ∈ q9tA x) {t : q9ET} (ht : (q9tE x)[z.1]? = some t) {c0 : Int} (hc : q9famT t = some c0) (h100 : -100 < c0 := by omega) :
    ∃ (q a n : Nat) (fs : List Value) (M : q9LM) (c : Int) (b w : Int32) (nn : Int), G[q]? = some (a, 12, n) ∧ ws[q]? = some (a, .inr (12, fs)) ∧ (∀ y ∈ q9jFc c0, ∃ (i b k n' : Nat) (cA : ClassId), fs[y.1]? = some (.ref b) ∧ G[i]? = some (b, y.2, k) ∧ ws[i]? = some (b, .inl (cA, n', .inl (M y.1)))) ∧
      q9nV (r z.1) = some c ∧ q9ev r z.2.1 = .int b ∧ q9ev r z.2.2 = .int w ∧ (c = -7 → ∃ u : Int32, fs[38]? = some (.int u) ∧ nn = u.toInt) ∧ q9JP M nn c b.toInt w.toInt ∧ (c0 = 0 → 0 ≤ c) ∧ (c0 ≠ 0 → c = c0) := by
  obtain ⟨c', f1, f2, f3, f4, f5, f6⟩ := q9famT_ok hc (hM.2.2.2.1 _ t ht)
  have h9 := hM.2.2.2.2.2.1 z hz
  unfold q9AMok at h9
  rcases h9 with ⟨b, i, cA, n, f, w, e1, -⟩ | h9
  · rw [e1] at f1
    cases f1
  · have h9 := h9.old f1 (fun hh => by
      by_cases h0 : c0 = 0
      · have := f4 h0
        omega
      · have := f5 h0
        omega)
    obtain ⟨q, a, n, fs, M, c, b, w, nn, h1, h2, h3, h4, h5, h6, h7, h8⟩ := h9
    have hcc : c = c' := by
      rw [f1] at h4
      exact (Option.some.inj h4).symm
    subst hcc
    rw [f3] at h3
    exact ⟨q, a, n, fs, M, c, b, w, nn, h1, h2, h3, h4, h5, h6, h7, h8, f4, f5⟩
/-- a known element of few values: case by case -/
noncomputable def q9elK_o (a : Nat) (s : q9AV) : q9RF := fun x => match q9codeOf x a, q9num (q9tE x) s with
  | some cd, some (0, l, h) => (match q9KAS[cd - 100]? with
    | some (0, N, true, 0, lo, hi) => if 100 ≤ cd ∧ q9zeroB x = true ∧ q9okAV (q9tE x) s = true ∧ 0 ≤ l ∧ h < N ∧ -1000 ≤ lo ∧ hi ≤ 1000 then
        some (((List.range (hi - lo + 1).toNat).filter (fun (k : Nat) => match q9fA x a s with
          | some v => (match q9num (q9tE x) v with
            | some (0, p, q) => decide (p ≤ lo + (k : Int)) && decide (lo + (k : Int) ≤ q)
            | _ => true)
          | none => true)).map (fun (k : Nat) => q9addS x [] [] [(a, s, (0, lo + (k : Int)))] [] []))
      else none
    | _ => none)
  | _, _ => none
noncomputable def q9elK (a : Nat) (s : q9AV) : q9RF := fun x => match q9codeOf x a, q9num (q9tE x) s with
  | some cd, some (0, l, h) => (match (q9ge9 q9KAS (cd - 100)) with
    | some (0, N, true, 0, lo, hi) => if 100 ≤ cd ∧ q9zeroB x = true ∧ q9okAV (q9tE x) s = true ∧ 0 ≤ l ∧ h < N ∧ -1000 ≤ lo ∧ hi ≤ 1000 then
        some ((q9flt9 (List.range (hi - lo + 1).toNat) (fun (k : Nat) => match q9fA x a s with
          | some v => (match q9num (q9tE x) v with
            | some (0, p, q) => q9nd9 ((q9le9 (p) (lo + (k : Int)))) ((q9le9 (lo + (k : Int)) (q)))
            | _ => true)
          | none => true)).map (fun (k : Nat) => q9addS x [] [] [(a, s, (0, lo + (k : Int)))] [] []))
      else none
    | _ => none)
  | _, _ => none
theorem q9elK_oq : @q9elK = @q9elK_o := by
  delta q9elK q9elK_o
  simp only [q9ge9_eq, q9fi9_eq, q9an9_eq, q9al9_eq, q9flt9_eq, q9el9_eq, q9set9_eq, q9ln9_eq, q9gD9_eq, q9ap9_eq, q9eq9_N, q9eq9_I, q9eq9_A, q9eq9_E, q9eq9_OI, q9eq9_ON, q9eq9_OA, q9eq9_L, q9eq9_S, q9de9_N, q9de9_I, q9de9_A, q9le9_N, q9le9_I, q9lt9_N, q9lt9_I, q9de9_E, q9de9_OI, q9de9_ON, q9de9_OA, q9de9_L, q9nd9_eq, q9or9_eq, Bool.cond_decide]
theorem q9elK_ok (a : Nat) (s : q9AV) : q9RFok O (q9elK a s) := by
  intro nL g cT A x r G ws ls st xs hw hM hT hD h
  (rewrite [q9elK_oq] at h; unfold q9elK_o at h)
  split at h
  · rename_i cd l h' hcd hn
    split at h
    · rename_i N lo hi hK
      split at h
      · rename_i hc
        obtain ⟨c1, c2, c3, c4, c5, c6, c7⟩ := hc
        cases h
        obtain ⟨b, n, e1, e2⟩ := q9codeOf_ok hM.2.2.2.1 hcd
        obtain ⟨i, ce, g1, g2, g3⟩ := hT.at e2
        obtain ⟨y, y1, -, y3, y4⟩ := q9num_int hM.2.2.2.1 c3 hn
        rcases g3 with ⟨hh, -⟩ | ⟨-, K, w3, w4⟩
        · omega
        · have w3 : q9KAS[cd - 100]? = some K := w3
          rw [hK] at w3
          cases w3
          obtain ⟨-, w5, f, w6, w7⟩ := w4
          subst w6
          have w5 : n = N := w5 rfl
          have hyc : y.toNatClampNeg = y.toInt.toNat := rfl
          obtain ⟨u, u1, u2, u3⟩ := w7 y.toNatClampNeg (by omega)
          have u1 : f y.toNatClampNeg = u := by injection u1
          have u2 : lo ≤ u.toInt := u2
          have u3 : u.toInt ≤ hi := u3
          have hkk : lo + (((u.toInt - lo).toNat : Nat) : Int) = u.toInt := by omega
          have hal : a < (q9tE x).length := by
            (rewrite [q9codeOf_oq] at hcd; unfold q9codeOf_o at hcd)
            cases hE : (q9tE x)[a]? with
            | none => rw [hE] at hcd; cases hcd
            | some t => exact (List.getElem?_eq_some_iff.mp hE).1
          have h0 : 0 < (q9tE x).length := (List.getElem?_eq_some_iff.mp (q9zero_at c2)).1
          refine q9rf_add hM hw [] (List.mem_map.mpr ⟨(u.toInt - lo).toNat, List.mem_filter.mpr ⟨List.mem_range.mpr (by omega), ?_⟩, rfl⟩) q9ty_nil q9no_mem (q9one_mem (.inl (q9al_new (f := f) (y := y) ((q9upL_lt hal).trans e1) g2 ?_ ?_))) q9no_mem q9no_mem
          · split
            · rename_i v hv
              obtain ⟨v1, v2⟩ := q9fA_ok hM hw hD hv c3 y1 e1 g2
              split
              · rename_i p q hp
                obtain ⟨v3, v4, v5, v6⟩ := q9num_int hM.2.2.2.1 v1 hp
                rw [v2] at v4
                have v4 : Value.int (f y.toNatClampNeg) = .int v3 := v4
                injection v4 with v4
                rw [u1] at v4
                subst v4
                rw [hkk, Bool.and_eq_true, decide_eq_true_eq, decide_eq_true_eq]
                exact ⟨v6.1, v6.2⟩
              · rfl
            · rfl
          · rw [q9upL_agr.ev c3]
            exact y1
          · rw [q9ev_agree (a := (0, lo + (((u.toInt - lo).toNat : Nat) : Int))) (q9upL_lt h0), q9zero_ev hM.2.2.2.1 (q9zero_at c2), hkk, q9ofI, u1]
      · cases h
    · cases h
  · cases h
/-- that of the ranges -/
noncomputable def q9isLn_o (x : q9ST) (z : Nat × q9AV × q9AV) : Bool := match (q9tE x)[z.1]? with
  | some t => decide (q9famT t = some 0) && (match q9num (q9tE x) z.2.2 with
    | some (0, _, h) => decide (h ≤ 400)
    | _ => false)
  | none => false
noncomputable def q9isLn (x : q9ST) (z : Nat × q9AV × q9AV) : Bool := match (q9ge9 (q9tE x) (z.1)) with
  | some t => q9nd9 (decide (q9famT t = some 0)) ((match q9num (q9tE x) z.2.2 with
    | some (0, _, h) => (q9le9 (h) (400))
    | _ => false))
  | none => false
theorem q9isLn_oq : @q9isLn = @q9isLn_o := by
  delta q9isLn q9isLn_o
  simp only [q9ge9_eq, q9fi9_eq, q9an9_eq, q9al9_eq, q9flt9_eq, q9el9_eq, q9set9_eq, q9ln9_eq, q9gD9_eq, q9ap9_eq, q9eq9_N, q9eq9_I, q9eq9_A, q9eq9_E, q9eq9_OI, q9eq9_ON, q9eq9_OA, q9eq9_L, q9eq9_S, q9de9_N, q9de9_I, q9de9_A, q9le9_N, q9le9_I, q9lt9_N, q9lt9_I, q9de9_E, q9de9_OI, q9de9_ON, q9de9_OA, q9de9_L, q9nd9_eq, q9or9_eq, Bool.cond_decide]
theorem q9isLn_ok {nL : Nat} {g : List Value} {x : q9ST} {r : Nat → Value} {G : q9GH} {ws : va_W} {ls : Array Slot} {st : List Value} (hM : q9SM O nL g x r G ws ls st) (hw : q9wfB x = true) {z : Nat × q9AV × q9AV} (hz : z ∈ q9tA x) (h : q9isLn x z = true) :
    ∃ (q a n : Nat) (fs : List Value) (M : q9LM) (c : Int) (u w : Int32), G[q]? = some (a, 12, n) ∧ ws[q]? = some (a, .inr (12, fs)) ∧ (∀ y ∈ q9jF1, ∃ (i b k n' : Nat) (cA : ClassId), fs[y.1]? = some (.ref b) ∧ G[i]? = some (b, y.2, k) ∧ ws[i]? = some (b, .inl (cA, n', .inl (M y.1)))) ∧
      q9nV (r z.1) = some c ∧ 0 ≤ c ∧ q9ev r z.2.1 = .int u ∧ q9ev r z.2.2 = .int w ∧ w.toInt ≤ 400 ∧ q9LINES M u.toInt w.toInt := by
  (rewrite [q9isLn_oq] at h; unfold q9isLn_o at h)
  split at h
  · rename_i t ht
    rw [Bool.and_eq_true, decide_eq_true_eq] at h
    obtain ⟨h1, h2⟩ := h
    split at h2
    · rename_i lo hi hn
      rw [decide_eq_true_eq] at h2
      obtain ⟨q, a, n, fs, M, c, b, w, nn, k1, k2, k3, k4, k5, k6, k7, k8, k9, -⟩ := q9ja_of hM hz ht h1
      obtain ⟨-, w2, w3⟩ := q9num_iv hM.2.2.2.1 (q9wf_A hw z hz).2.2 hn k6
      rw [q9JP_lines (k9 rfl) (by omega)] at k8
      rw [q9jFc_pos (Int.le_refl 0)] at k3
      exact ⟨q, a, n, fs, M, c, b, w, k1, k2, k3, k4, k9 rfl, k5, k6, by omega, k8⟩
    · cases h2
  · cases h
noncomputable def q9lnT : Nat → Nat → Option (Int × Int)
  | 0, 23 => some (1, 200)
  | 1, 23 => some (1, 200)
  | 1, 27 => some (0, 400)
  | 1, 28 => some (0, 400)
  | 2, 25 => some (0, 7)
  | 2, 26 => some (0, 400)
  | 2, 28 => some (0, 20)
  | 2, 27 => some (0, 400)
  | 6, 25 => some (0, 2)
  | 6, 23 => some (1, 400)
  | 7, 23 => some (1, 20)
  | _, _ => none
theorem q9lnT_ok {M : q9LM} {w : Int} {i : Nat} (h : q9lnOK M w i) (hw : w ≤ 400) {k j : Nat} {lo hi : Int} (hk : (M 22 i).toInt = k) (hT : q9lnT k j = some (lo, hi)) : lo ≤ (M j i).toInt ∧ (M j i).toInt ≤ hi := by
  obtain ⟨h0, h1, h2, h6, h7⟩ := h
  unfold q9lnT at hT
  split at hT
  · cases hT
    have := h0 hk
    omega
  · cases hT
    have := h1 hk
    omega
  · cases hT
    have := h1 hk
    omega
  · cases hT
    have := h1 hk
    omega
  · cases hT
    have := h2 hk
    omega
  · cases hT
    have := h2 hk
    omega
  · cases hT
    have := h2 hk
    omega
  · cases hT
    have := h2 hk
    omega
  · cases hT
    have := h6 hk
    omega
  · cases hT
    have := h6 hk
    omega
  · cases hT
    have := h7 hk
    omega
  · cases hT
/-- what is known of a line's sort -/
noncomputable def q9knd (x : q9ST) (o : Nat) (s : q9AV) : Option Nat := match q9fF x o 22 with
  | some ka => (match q9fA x ka.1 s with
    | some v => (match q9num (q9tE x) v with
      | some (0, p, q) => if p = q ∧ 0 ≤ p then some p.toNat else none
      | _ => none)
    | none => none)
  | none => none
theorem q9knd_ok {nL : Nat} {g : List Value} {x : q9ST} {r : Nat → Value} {G : q9GH} {ws : va_W} {ls : Array Slot} {st : List Value} (hM : q9SM O nL g x r G ws ls st) (hw : q9wfB x = true) {cT : Nat → ClassId} {B : q9TB} (hT : q9tyW cT B G ws) {A : Nat → Prop} (hD : va_D A ws) {o : Nat} {h9 : Int} (ho : (q9tE x)[o]? = some (2, 12, h9)) {q a n : Nat} {fs : List Value} {M : q9LM} (h1 : G[q]? = some (a, 12, n)) (h2 : ws[q]? = some (a, .inr (12, fs)))
    (h3 : ∀ y ∈ q9jF1, ∃ (i b k n' : Nat) (cA : ClassId), fs[y.1]? = some (.ref b) ∧ G[i]? = some (b, y.2, k) ∧ ws[i]? = some (b, .inl (cA, n', .inl (M y.1)))) {s : q9AV} (hs : q9okAV (q9tE x) s = true) {y : Int32} (hy : q9ev r s = .int y) {k : Nat} (h : q9knd x o s = some k) : (M 22 y.toNatClampNeg).toInt = k := by
  unfold q9knd at h
  split at h
  · rename_i ka hka
    split at h
    · rename_i v hv
      split at h
      · rename_i p q9 hn
        split at h
        · rename_i hpq
          cases h
          obtain ⟨b, i, k, n', cA, m1, m2, m3, m4⟩ := q9omA hM hT hD ho h1 h2 h3 (j := 22) (cd := 178) (by decide) (by decide) (q9fF_ok hka)
          obtain ⟨v1, v2⟩ := q9fA_ok hM hw hD hv hs hy m1 m4
          have v2 : q9ev r v = .int (M 22 y.toNatClampNeg) := v2
          obtain ⟨-, v3, v4⟩ := q9num_iv hM.2.2.2.1 v1 hn v2
          omega
        · cases h
      · cases h
    · cases h
  · cases h
theorem q9lt_of_E {E : List q9ET} {k : Nat} {t : q9ET} (h : E[k]? = some t) : k < E.length := (List.getElem?_eq_some_iff.mp h).1
/-- a line's number of the field j, by its sort -/
noncomputable def q9lnF_o (o : Nat) (s : q9AV) (j : Nat) : q9RF := fun x => match (q9tE x)[o]?, q9fF x o j, (q9tA x).find? (q9isLn x), q9num (q9tE x) s, q9knd x o s with
  | some (2, 12, _), some ja, some z, some (0, l, _), some k => if 0 ≤ l ∧ q9okAV (q9tE x) s = true ∧ j ∈ [23, 25, 26, 27, 28] ∧ q9leB x s z.2.1 (-1) = true then
      (match q9lnT k j with
      | some (lo, hi) => some [q9addS x [(0, lo, hi)] [] [(ja.1, s, ((q9tE x).length, 0))] [] []]
      | none => some [x]) else none
  | _, _, _, _, _ => none
noncomputable def q9lnF (o : Nat) (s : q9AV) (j : Nat) : q9RF := fun x => match (q9ge9 (q9tE x) (o)), q9fF x o j, q9fi9 (q9tA x) (q9isLn x), q9num (q9tE x) s, q9knd x o s with
  | some (2, 12, _), some ja, some z, some (0, l, _), some k => if 0 ≤ l ∧ q9okAV (q9tE x) s = true ∧ j ∈ [23, 25, 26, 27, 28] ∧ q9leB x s z.2.1 (-1) = true then
      (match q9lnT k j with
      | some (lo, hi) => some [q9addS x [(0, lo, hi)] [] [(ja.1, s, ((q9ln9 (q9tE x)), 0))] [] []]
      | none => some [x]) else none
  | _, _, _, _, _ => none
theorem q9lnF_oq : @q9lnF = @q9lnF_o := by
  delta q9lnF q9lnF_o
  simp only [q9ge9_eq, q9fi9_eq, q9an9_eq, q9al9_eq, q9flt9_eq, q9el9_eq, q9set9_eq, q9ln9_eq, q9gD9_eq, q9ap9_eq, q9eq9_N, q9eq9_I, q9eq9_A, q9eq9_E, q9eq9_OI, q9eq9_ON, q9eq9_OA, q9eq9_L, q9eq9_S, q9de9_N, q9de9_I, q9de9_A, q9le9_N, q9le9_I, q9lt9_N, q9lt9_I, q9de9_E, q9de9_OI, q9de9_ON, q9de9_OA, q9de9_L, q9nd9_eq, q9or9_eq, Bool.cond_decide]
theorem q9lnF_ok (o : Nat) (s : q9AV) (j : Nat) : q9RFok O (q9lnF o s j) := by
  intro nL g cT A x r G ws ls st xs hw hM hT hD h
  (rewrite [q9lnF_oq] at h; unfold q9lnF_o at h)
  split at h
  · rename_i h9 ja z l h8 k ho hja hz hn hk
    split at h
    · rename_i hc
      obtain ⟨c1, c2, c3, c4⟩ := hc
      split at h
      · rename_i lo hi hlT
        cases h
        have hzm := List.mem_of_find?_eq_some hz
        obtain ⟨q, a, n, fs, M, c, u, w, k1, k2, k3, k4, k5, k6, k7, k8, k9⟩ := q9isLn_ok hM hw hzm (by have := List.find?_some hz; exact this)
        obtain ⟨y, y1, y2, y3, y4⟩ := q9num_int hM.2.2.2.1 c2 hn
        have hle := q9leB_ok hM c2 (q9wf_A hw z hzm).2.1 c4
        rw [y1, k6] at hle
        have hle : y.toInt ≤ u.toInt + -1 := hle
        have hyc : y.toNatClampNeg = y.toInt.toNat := rfl
        have hkk := q9knd_ok hM hw hT hD ho k1 k2 k3 c2 y1 hk
        obtain ⟨r1, r2⟩ := q9lnT_ok (k9.1 y.toNatClampNeg (by omega)) k8 hkk hlT
        have hj9 := (by decide : ∀ j ∈ [23, 25, 26, 27, 28], (j, j + 156) ∈ q9jF1 ∧ j ≠ 1000) j c3
        obtain ⟨b, i, k', n', cA, m1, m2, m3, m4⟩ := q9omA hM hT hD ho k1 k2 k3 hj9.1 hj9.2 (q9fF_ok hja)
        refine q9rf_add hM hw [.int (M j y.toNatClampNeg)] List.mem_cons_self (q9ty_cons ⟨_, rfl, r1, r2⟩ q9ty_nil) q9no_mem (q9one_mem (.inl (q9al_new (f := M j) (y := y) ((q9upL_lt ?_).trans m1) m4 ?_ q9evU0))) q9no_mem q9no_mem
        · exact q9okAV_lt (q9wf_F hw _ (q9fF_ok hja)).2
        · rw [q9upL_agr.ev c2]
          exact y1
      · cases h
        exact ⟨x, List.mem_cons_self, r, q9agr.rf, Nat.le_refl _, rfl, rfl, hM⟩
    · cases h
  · cases h
/-- from and count of a line are within what is read -/
noncomputable def q9lnS_o (o : Nat) (s : q9AV) : q9RF := fun x => match (q9tE x)[o]?, q9fF x o 27, q9fF x o 28, (q9tA x).find? (q9isLn x), q9num (q9tE x) s, q9knd x o s with
  | some (2, 12, _), some fa, some ca, some z, some (0, l, _), some k => if 0 ≤ l ∧ q9okAV (q9tE x) s = true ∧ q9leB x s z.2.1 (-1) = true then
      (if k = 1 ∨ k = 2 then (match q9fA x fa.1 s, q9fA x ca.1 s with
        | some fr, some ct => some [q9addS x [(0, 0, 400)] [] [] (if k = 1 then [((q9tE x).length, z.2.2.1, z.2.2.2)] else []) [(0, fr, ct, (q9tE x).length)]]
        | _, _ => none) else some [x]) else none
  | _, _, _, _, _, _ => none
noncomputable def q9lnS (o : Nat) (s : q9AV) : q9RF := fun x => match (q9ge9 (q9tE x) (o)), q9fF x o 27, q9fF x o 28, q9fi9 (q9tA x) (q9isLn x), q9num (q9tE x) s, q9knd x o s with
  | some (2, 12, _), some fa, some ca, some z, some (0, l, _), some k => if 0 ≤ l ∧ q9okAV (q9tE x) s = true ∧ q9leB x s z.2.1 (-1) = true then
      (if k = 1 ∨ k = 2 then (match q9fA x fa.1 s, q9fA x ca.1 s with
        | some fr, some ct => some [q9addS x [(0, 0, 400)] [] [] (bif q9de9 (k) (1) then [((q9ln9 (q9tE x)), z.2.2.1, z.2.2.2)] else []) [(0, fr, ct, (q9ln9 (q9tE x)))]]
        | _, _ => none) else some [x]) else none
  | _, _, _, _, _, _ => none
theorem q9lnS_oq : @q9lnS = @q9lnS_o := by
  delta q9lnS q9lnS_o
  simp only [q9ge9_eq, q9fi9_eq, q9an9_eq, q9al9_eq, q9flt9_eq, q9el9_eq, q9set9_eq, q9ln9_eq, q9gD9_eq, q9ap9_eq, q9eq9_N, q9eq9_I, q9eq9_A, q9eq9_E, q9eq9_OI, q9eq9_ON, q9eq9_OA, q9eq9_L, q9eq9_S, q9de9_N, q9de9_I, q9de9_A, q9le9_N, q9le9_I, q9lt9_N, q9lt9_I, q9de9_E, q9de9_OI, q9de9_ON, q9de9_OA, q9de9_L, q9nd9_eq, q9or9_eq, Bool.cond_decide]
theorem q9lnS_ok (o : Nat) (s : q9AV) : q9RFok O (q9lnS o s) := by
  intro nL g cT A x r G ws ls st xs hw hM hT hD h
  (rewrite [q9lnS_oq] at h; unfold q9lnS_o at h)
  split at h
  · rename_i h9 fa ca z l h8 k ho hfa hca hz hn hk
    split at h
    · rename_i hc
      obtain ⟨c1, c2, c4⟩ := hc
      split at h
      · rename_i hk12
        split at h
        · rename_i fr ct hfr hct
          cases h
          have hzm := List.mem_of_find?_eq_some hz
          obtain ⟨q, a, n, fs, M, c, u, w, k1, k2, k3, k4, k5, k6, k7, k8, k9⟩ := q9isLn_ok hM hw hzm (by have := List.find?_some hz; exact this)
          obtain ⟨y, y1, y2, y3, y4⟩ := q9num_int hM.2.2.2.1 c2 hn
          have hle := q9leB_ok hM c2 (q9wf_A hw z hzm).2.1 c4
          rw [y1, k6] at hle
          have hle : y.toInt ≤ u.toInt + -1 := hle
          have hyc : y.toNatClampNeg = y.toInt.toNat := rfl
          have hkk := q9knd_ok hM hw hT hD ho k1 k2 k3 c2 y1 hk
          obtain ⟨-, q1, q2, -, -⟩ := k9.1 y.toNatClampNeg (by omega)
          obtain ⟨b, i, k', n', cA, m1, m2, m3, m4⟩ := q9omA hM hT hD ho k1 k2 k3 (j := 27) (cd := 183) (by decide) (by decide) (q9fF_ok hfa)
          obtain ⟨b2, i2, k2', n2', cA2, p1, p2, p3, p4⟩ := q9omA hM hT hD ho k1 k2 k3 (j := 28) (cd := 184) (by decide) (by decide) (q9fF_ok hca)
          obtain ⟨f1, f2⟩ := q9fA_ok hM hw hD hfr c2 y1 m1 m4
          obtain ⟨t1, t2⟩ := q9fA_ok hM hw hD hct c2 y1 p1 p4
          have f2 : q9ev r fr = .int (M 27 y.toNatClampNeg) := f2
          have t2 : q9ev r ct = .int (M 28 y.toNatClampNeg) := t2
          have key : 0 ≤ (M 27 y.toNatClampNeg).toInt ∧ 0 ≤ (M 28 y.toNatClampNeg).toInt ∧ (M 27 y.toNatClampNeg).toInt + (M 28 y.toNatClampNeg).toInt ≤ 400 ∧ (k = 1 → (M 27 y.toNatClampNeg).toInt + (M 28 y.toNatClampNeg).toInt ≤ w.toInt) := by
            rcases hk12 with rfl | rfl
            · have := q1 hkk
              exact ⟨by omega, by omega, by omega, fun _ => by omega⟩
            · have := q2 hkk
              exact ⟨by omega, by omega, by omega, fun h => absurd h (by decide)⟩
          obtain ⟨e1, e2, e3, e4⟩ := key
          have hs := q9n_add (x := M 27 y.toNatClampNeg) (y := M 28 y.toNatClampNeg) (by omega) (by omega)
          refine q9rf_add hM hw [.int (M 27 y.toNatClampNeg + M 28 y.toNatClampNeg)] List.mem_cons_self (q9ty_cons ⟨_, rfl, by show (0 : Int) ≤ _; omega, by show _ ≤ (400 : Int); omega⟩ q9ty_nil) q9no_mem q9no_mem (fun q9 hq9 => ?_) (q9one_mem ?_)
          · split at hq9
            · rename_i hk1
              rw [List.mem_singleton] at hq9
              subst hq9
              unfold q9FCok
              rw [q9iv_of q9rU0, q9upL_agr.iv (q9okAV_lt (q9wf_A hw z hzm).2.2), hs]
              (rewrite [q9isLn_oq] at hz; unfold q9isLn_o at hz)
              have hl9 := List.find?_some hz
              split at hl9
              · rename_i t9 ht9
                rw [Bool.and_eq_true] at hl9
                have hl9 := hl9.2
                split at hl9
                · rename_i lo9 hi9 hn9
                  have := (q9num_iv hM.2.2.2.1 (q9wf_A hw z hzm).2.2 hn9 k7).1
                  have := e4 hk1
                  show _ ≤ q9iv r z.2.2.1 + z.2.2.2
                  omega
                · cases hl9
              · cases hl9
            · cases hq9
          · unfold q9EXok
            rw [q9upL_agr.ev f1, q9upL_agr.ev t1, f2, t2, q9rU0]
            rfl
        · cases h
      · cases h
        exact ⟨x, List.mem_cons_self, r, q9agr.rf, Nat.le_refl _, rfl, rfl, hM⟩
    · cases h
  · cases h
/-- that of a stretch of lines which begins at s; t: 1000 times it is in the last -/
noncomputable def q9isCn_o (x : q9ST) (s : q9AV) (t B : Nat) (z : Nat × q9AV × q9AV) : Bool := match (q9tE x)[z.1]? with
  | some ty => decide (q9famT ty = some 0) && (q9eqB x z.2.1 s && (match q9num (q9tE x) z.2.2 with
    | some (0, l, h) => decide (1000 * (t : Int) ≤ l) && (decide (h ≤ 1000 * (t : Int) + B) && (decide (B ≤ 999) && decide (t ≤ 18)))
    | _ => false))
  | none => false
noncomputable def q9isCn (x : q9ST) (s : q9AV) (t B : Nat) (z : Nat × q9AV × q9AV) : Bool := match (q9ge9 (q9tE x) (z.1)) with
  | some ty => q9nd9 (decide (q9famT ty = some 0)) ((q9nd9 (q9eqB x z.2.1 s) ((match q9num (q9tE x) z.2.2 with
    | some (0, l, h) => q9nd9 ((q9le9 (1000 * (t : Int)) (l))) ((q9nd9 ((q9le9 (h) (1000 * (t : Int) + B))) ((q9nd9 ((q9le9 (B) (999))) ((q9le9 (t) (18)))))))
    | _ => false))))
  | none => false
theorem q9isCn_oq : @q9isCn = @q9isCn_o := by
  delta q9isCn q9isCn_o
  simp only [q9ge9_eq, q9fi9_eq, q9an9_eq, q9al9_eq, q9flt9_eq, q9el9_eq, q9set9_eq, q9ln9_eq, q9gD9_eq, q9ap9_eq, q9eq9_N, q9eq9_I, q9eq9_A, q9eq9_E, q9eq9_OI, q9eq9_ON, q9eq9_OA, q9eq9_L, q9eq9_S, q9de9_N, q9de9_I, q9de9_A, q9le9_N, q9le9_I, q9lt9_N, q9lt9_I, q9de9_E, q9de9_OI, q9de9_ON, q9de9_OA, q9de9_L, q9nd9_eq, q9or9_eq, Bool.cond_decide]
theorem q9isCn_ok {nL : Nat} {g : List Value} {x : q9ST} {r : Nat → Value} {G : q9GH} {ws : va_W} {ls : Array Slot} {st : List Value} (hM : q9SM O nL g x r G ws ls st) (hw : q9wfB x = true) {z : Nat × q9AV × q9AV} (hz : z ∈ q9tA x) {s : q9AV} (hs : q9okAV (q9tE x) s = true) {y : Int32} (hy : q9ev r s = .int y) {t B : Nat} (ht1 : 1 ≤ t) (h : q9isCn x s t B z = true) :
    ∃ (q a n : Nat) (fs : List Value) (M : q9LM) (c : Int) (w : Int32) (e : Nat), G[q]? = some (a, 12, n) ∧ ws[q]? = some (a, .inr (12, fs)) ∧ (∀ y ∈ q9jF1, ∃ (i b k n' : Nat) (cA : ClassId), fs[y.1]? = some (.ref b) ∧ G[i]? = some (b, y.2, k) ∧ ws[i]? = some (b, .inl (cA, n', .inl (M y.1)))) ∧
      q9nV (r z.1) = some c ∧ 0 ≤ c ∧ q9ev r z.2.2 = .int w ∧ w.toInt = q9iv r z.2.2.1 + z.2.2.2 ∧ w.toInt = 1000 * (t : Int) + e ∧ e ≤ B ∧ 0 ≤ y.toInt ∧ (if t < 7 then q9CNT M (t - 1) y.toNatClampNeg e c else if t < 13 then ∃ c' : Int, q9CNT M (t - 7) y.toNatClampNeg e c' else q9RLN M (t - 13) y.toNatClampNeg e c) := by
  (rewrite [q9isCn_oq] at h; unfold q9isCn_o at h)
  split at h
  · rename_i ty hty
    rw [Bool.and_eq_true, Bool.and_eq_true, decide_eq_true_eq] at h
    obtain ⟨h1, h2, h3⟩ := h
    split at h3
    · rename_i lo hi hn
      rw [Bool.and_eq_true, Bool.and_eq_true, Bool.and_eq_true, decide_eq_true_eq, decide_eq_true_eq, decide_eq_true_eq, decide_eq_true_eq] at h3
      obtain ⟨q, a, n, fs, M, c, b, w, nn, k1, k2, k3, k4, k5, k6, k7, k8, k9, -⟩ := q9ja_of hM hz hty h1
      rw [q9eqB_ok hM hs hy h2] at k5
      cases k5
      obtain ⟨w1, w2, w3⟩ := q9num_iv hM.2.2.2.1 (q9wf_A hw z hz).2.2 hn k6
      rw [q9jFc_pos (Int.le_refl 0)] at k3
      have hyc : y.toNatClampNeg = y.toInt.toNat := rfl
      have e1 : w.toInt.toNat % 1000 = (w.toInt - 1000 * (t : Int)).toNat := by omega
      have e2 : w.toInt.toNat / 1000 = t := by omega
      refine ⟨q, a, n, fs, M, c, w, (w.toInt - 1000 * (t : Int)).toNat, k1, k2, k3, k4, k9 rfl, k6, w1, by omega, by omega, ?_⟩
      by_cases h7 : t < 7
      · rw [q9JP_cnt (k9 rfl) (by omega) (by omega), e1, e2] at k8
        rw [if_pos h7]
        exact k8
      · rw [if_neg h7]
        by_cases h13 : t < 13
        · rw [q9JP_wn (k9 rfl) (by omega) (by omega), e1, e2] at k8
          rw [if_pos h13]
          exact k8
        · rw [q9JP_rl (k9 rfl) (by omega) (by omega), e1, e2] at k8
          rw [if_neg h13]
          exact k8
    · cases h3
  · cases h
/-- a fact of a stretch made anew -/
theorem q9cn_mk {r : Nat → Value} {G : q9GH} {ws : va_W} {q a n : Nat} {fs : List Value} {M : q9LM} (h1 : G[q]? = some (a, 12, n)) (h2 : ws[q]? = some (a, .inr (12, fs))) (h3 : ∀ y ∈ q9jF1, ∃ (i b k n' : Nat) (cA : ClassId), fs[y.1]? = some (.ref b) ∧ G[i]? = some (b, y.2, k) ∧ ws[i]? = some (b, .inl (cA, n', .inl (M y.1))))
    {z : Nat × q9AV × q9AV} {c : Int} {b w : Int32} {t e : Nat} (k1 : q9nV (r z.1) = some c) (k2 : 0 ≤ c) (k3 : q9ev r z.2.1 = .int b) (k4 : q9ev r z.2.2 = .int w) (hb : 0 ≤ b.toInt) (ht1 : 1 ≤ t) (hw : w.toInt = 1000 * (t : Int) + e) (he : e ≤ 999) (hC : if t < 7 then q9CNT M (t - 1) b.toInt.toNat e c else if t < 13 then ∃ c' : Int, q9CNT M (t - 7) b.toInt.toNat e c' else q9RLN M (t - 13) b.toInt.toNat e c) (ht2 : t ≤ 18 := by omega) : q9AMok O r G ws z := by
  refine .inr (.inl ⟨q, a, n, fs, M, c, b, w, 0, h1, h2, by rw [q9jFc_pos k2]; exact h3, k1, k3, k4, fun h => by omega, ?_⟩)
  have e1 : w.toInt.toNat % 1000 = e := by omega
  have e2 : w.toInt.toNat / 1000 = t := by omega
  by_cases h7 : t < 7
  · rw [if_pos h7] at hC
    rw [q9JP_cnt k2 (by omega) (by omega), e1, e2]
    exact ⟨hb, hC⟩
  · rw [if_neg h7] at hC
    by_cases h13 : t < 13
    · rw [if_pos h13] at hC
      rw [q9JP_wn k2 (by omega) (by omega), e1, e2]
      exact ⟨hb, hC⟩
    · rw [if_neg h13] at hC
      rw [q9JP_rl k2 (by omega) (by omega), e1, e2]
      exact ⟨hb, hC⟩
theorem q9CNT.lt {M : q9LM} {d b e : Nat} {c : Int} (h : q9CNT M d b e c) (hb : b < e) : ∃ z c' : Int, b < q9enN M b ∧ q9enN M b ≤ e ∧ c = z + c' ∧ q9CNT M d (q9enN M b) e c' ∧ q9lnP M (q9CNT M) d b z := by
  rcases h.cut with ⟨h1, -⟩ | h
  · omega
  · exact h
/-- where the stretch's first line ends -/
noncomputable def q9nxE_o (o : Nat) (s : q9AV) (t : Nat) : q9RF := fun x => match (q9tE x)[o]?, q9fF x o 29, (q9tA x).find? (q9isCn x s t 60), q9num (q9tE x) s with
  | some (2, 12, _), some ea, some z, some (0, _, _) => if 1 ≤ t ∧ t ≤ 12 ∧ q9okAV (q9tE x) s = true ∧ q9leB x s z.2.2 (-1 - 1000 * (t : Int)) = true then
      some [q9addS x [(0, 1, 60)] [] [(ea.1, s, ((q9tE x).length, 0))] [(s.1, (q9tE x).length, -1 - s.2), ((q9tE x).length, z.2.2.1, z.2.2.2 - 1000 * (t : Int))] []] else none
  | _, _, _, _ => none
noncomputable def q9nxE (o : Nat) (s : q9AV) (t : Nat) : q9RF := fun x => match (q9ge9 (q9tE x) (o)), q9fF x o 29, q9fi9 (q9tA x) (q9isCn x s t 60), q9num (q9tE x) s with
  | some (2, 12, _), some ea, some z, some (0, _, _) => if 1 ≤ t ∧ t ≤ 12 ∧ q9okAV (q9tE x) s = true ∧ q9leB x s z.2.2 (-1 - 1000 * (t : Int)) = true then
      some [q9addS x [(0, 1, 60)] [] [(ea.1, s, ((q9ln9 (q9tE x)), 0))] [(s.1, (q9ln9 (q9tE x)), -1 - s.2), ((q9ln9 (q9tE x)), z.2.2.1, z.2.2.2 - 1000 * (t : Int))] []] else none
  | _, _, _, _ => none
theorem q9nxE_oq : @q9nxE = @q9nxE_o := by
  delta q9nxE q9nxE_o
  simp only [q9ge9_eq, q9fi9_eq, q9an9_eq, q9al9_eq, q9flt9_eq, q9el9_eq, q9set9_eq, q9ln9_eq, q9gD9_eq, q9ap9_eq, q9eq9_N, q9eq9_I, q9eq9_A, q9eq9_E, q9eq9_OI, q9eq9_ON, q9eq9_OA, q9eq9_L, q9eq9_S, q9de9_N, q9de9_I, q9de9_A, q9le9_N, q9le9_I, q9lt9_N, q9lt9_I, q9de9_E, q9de9_OI, q9de9_ON, q9de9_OA, q9de9_L, q9nd9_eq, q9or9_eq, Bool.cond_decide]
theorem q9nxE_ok (o : Nat) (s : q9AV) (t : Nat) : q9RFok O (q9nxE o s t) := by
  intro nL g cT A x r G ws ls st xs hw hM hT hD h
  (rewrite [q9nxE_oq] at h; unfold q9nxE_o at h)
  split at h
  · rename_i h9 ea z l h8 ho hea hz hn
    split at h
    · rename_i hc
      obtain ⟨c1, c2, c3, c4⟩ := hc
      cases h
      have hzm := List.mem_of_find?_eq_some hz
      obtain ⟨y, y1, y2, y3, y4⟩ := q9num_int hM.2.2.2.1 c3 hn
      obtain ⟨q, a, n, fs, M, c, w, e, k1, k2, k3, k4, k5, k6, k7, k8, k9, k10, k11⟩ := q9isCn_ok hM hw hzm c3 y1 c1 (by have := List.find?_some hz; exact this)
      have hle := q9leB_ok hM c3 (q9wf_A hw z hzm).2.2 c4
      rw [y1, k6] at hle
      have hle : y.toInt ≤ w.toInt + (-1 - 1000 * (t : Int)) := hle
      have hyc : y.toNatClampNeg = y.toInt.toNat := rfl
      have hx : ∃ (d : Nat) (c' : Int), q9CNT M d y.toNatClampNeg e c' := by
        split at k11
        · exact ⟨_, _, k11⟩
        · rw [if_pos (by omega)] at k11
          obtain ⟨c', k11⟩ := k11
          exact ⟨_, _, k11⟩
      obtain ⟨d, c', hx⟩ := hx
      obtain ⟨z1, z2, z3, z4, -⟩ := hx.lt (by omega)
      obtain ⟨b, i, k', n', cA, m1, m2, m3, m4⟩ := q9omA hM hT hD ho k1 k2 k3 (j := 29) (cd := 185) (by decide) (by decide) (q9fF_ok hea)
      unfold q9enN at z3 z4
      refine q9rf_add hM hw [.int (M 29 y.toNatClampNeg)] List.mem_cons_self (q9ty_cons ⟨_, rfl, by show (1 : Int) ≤ _; omega, by show _ ≤ (60 : Int); omega⟩ q9ty_nil) q9no_mem (q9one_mem (.inl (q9al_new (f := M 29) (y := y) ((q9upL_lt ?_).trans m1) m4 ?_ q9evU0))) (q9cons_mem ?_ (q9one_mem ?_)) q9no_mem
      · exact q9okAV_lt (q9wf_F hw _ (q9fF_ok hea)).2
      · rw [q9upL_agr.ev c3]
        exact y1
      · unfold q9FCok
        rw [q9iv_of (k := (q9tE x).length) q9rU0, q9upL_agr.iv (q9okAV_lt c3)]
        show q9iv r s.1 ≤ _ + (-1 - s.2)
        omega
      · unfold q9FCok
        rw [q9iv_of (k := (q9tE x).length) q9rU0, q9upL_agr.iv (q9okAV_lt (q9wf_A hw z hzm).2.2)]
        show _ ≤ q9iv r z.2.2.1 + (z.2.2.2 - 1000 * (t : Int))
        omega
    · cases h
  · cases h
/-- what is known of a line's end -/
noncomputable def q9enA (x : q9ST) (o : Nat) (s : q9AV) : Option q9AV := match q9fF x o 29 with
  | some ea => q9fA x ea.1 s
  | none => none
theorem q9enA_ok {nL : Nat} {g : List Value} {x : q9ST} {r : Nat → Value} {G : q9GH} {ws : va_W} {ls : Array Slot} {st : List Value} (hM : q9SM O nL g x r G ws ls st) (hw : q9wfB x = true) {cT : Nat → ClassId} {B : q9TB} (hT : q9tyW cT B G ws) {A : Nat → Prop} (hD : va_D A ws) {o : Nat} {h9 : Int} (ho : (q9tE x)[o]? = some (2, 12, h9)) {q a n : Nat} {fs : List Value} {M : q9LM} (h1 : G[q]? = some (a, 12, n)) (h2 : ws[q]? = some (a, .inr (12, fs)))
    (h3 : ∀ y ∈ q9jF1, ∃ (i b k n' : Nat) (cA : ClassId), fs[y.1]? = some (.ref b) ∧ G[i]? = some (b, y.2, k) ∧ ws[i]? = some (b, .inl (cA, n', .inl (M y.1)))) {s : q9AV} (hs : q9okAV (q9tE x) s = true) {y : Int32} (hy : q9ev r s = .int y) {v : q9AV} (h : q9enA x o s = some v) : q9okAV (q9tE x) v = true ∧ q9ev r v = .int (M 29 y.toNatClampNeg) := by
  unfold q9enA at h
  split at h
  · rename_i ea hea
    obtain ⟨b, i, k, n', cA, m1, m2, m3, m4⟩ := q9omA hM hT hD ho h1 h2 h3 (j := 29) (cd := 185) (by decide) (by decide) (q9fF_ok hea)
    exact q9fA_ok hM hw hD h hs hy m1 m4
  · cases h
/-- the rest of the stretch is a stretch -/
noncomputable def q9nxW_o (o : Nat) (s : q9AV) (d : Nat) : q9RF := fun x => match (q9tE x)[o]?, q9enA x o s, (q9tA x).find? (q9isCn x s (7 + d) 60), q9num (q9tE x) s with
  | some (2, 12, _), some e, some z, some (0, _, _) => if d ≤ 5 ∧ q9okAV (q9tE x) s = true ∧ q9zeroB x = true ∧ q9leB x s z.2.2 (-1 - 1000 * ((7 + d : Nat) : Int)) = true then
      some [q9addS x [] [] [(0, e, z.2.2)] [] []] else none
  | _, _, _, _ => none
noncomputable def q9nxW (o : Nat) (s : q9AV) (d : Nat) : q9RF := fun x => match (q9ge9 (q9tE x) (o)), q9enA x o s, q9fi9 (q9tA x) (q9isCn x s (7 + d) 60), q9num (q9tE x) s with
  | some (2, 12, _), some e, some z, some (0, _, _) => if d ≤ 5 ∧ q9okAV (q9tE x) s = true ∧ q9zeroB x = true ∧ q9leB x s z.2.2 (-1 - 1000 * ((7 + d : Nat) : Int)) = true then
      some [q9addS x [] [] [(0, e, z.2.2)] [] []] else none
  | _, _, _, _ => none
theorem q9nxW_oq : @q9nxW = @q9nxW_o := by
  delta q9nxW q9nxW_o
  simp only [q9ge9_eq, q9fi9_eq, q9an9_eq, q9al9_eq, q9flt9_eq, q9el9_eq, q9set9_eq, q9ln9_eq, q9gD9_eq, q9ap9_eq, q9eq9_N, q9eq9_I, q9eq9_A, q9eq9_E, q9eq9_OI, q9eq9_ON, q9eq9_OA, q9eq9_L, q9eq9_S, q9de9_N, q9de9_I, q9de9_A, q9le9_N, q9le9_I, q9lt9_N, q9lt9_I, q9de9_E, q9de9_OI, q9de9_ON, q9de9_OA, q9de9_L, q9nd9_eq, q9or9_eq, Bool.cond_decide]
theorem q9nxW_ok (o : Nat) (s : q9AV) (d : Nat) : q9RFok O (q9nxW o s d) := by
  intro nL g cT A x r G ws ls st xs hw hM hT hD h
  (rewrite [q9nxW_oq] at h; unfold q9nxW_o at h)
  split at h
  · rename_i h9 e0 z l h8 ho he hz hn
    split at h
    · rename_i hc
      obtain ⟨c1, c3, c5, c4⟩ := hc
      cases h
      have hzm := List.mem_of_find?_eq_some hz
      obtain ⟨y, y1, y2, y3, y4⟩ := q9num_int hM.2.2.2.1 c3 hn
      obtain ⟨q, a, n, fs, M, c, w, e, k1, k2, k3, k4, k5, k6, k7, k8, k9, k10, k11⟩ := q9isCn_ok (t := 7 + d) hM hw hzm c3 y1 (by omega) (by have := List.find?_some hz; exact this)
      have hle := q9leB_ok hM c3 (q9wf_A hw z hzm).2.2 c4
      rw [y1, k6] at hle
      have hle : y.toInt ≤ w.toInt + (-1 - 1000 * ((7 + d : Nat) : Int)) := hle
      have hyc : y.toNatClampNeg = y.toInt.toNat := rfl
      rw [if_neg (by omega), if_pos (by omega)] at k11
      obtain ⟨c', k11⟩ := k11
      obtain ⟨z1, z2, z3, z4, z5, z6, -⟩ := k11.lt (by omega)
      obtain ⟨e1, e2⟩ := q9enA_ok hM hw hT hD ho k1 k2 k3 c3 y1 he
      have h0 : 0 < (q9tE x).length := q9lt_of_E (q9zero_at c5)
      refine q9rf_add hM hw [] List.mem_cons_self q9ty_nil q9no_mem (q9one_mem (q9cn_mk (t := 7 + d) (e := e) (c := 0) (b := M 29 y.toNatClampNeg) (w := w) k1 k2 k3 ?_ (Int.le_refl 0) ?_ ?_ ?_ (by omega) k8 (by omega) ?_)) q9no_mem q9no_mem
      · show q9nV (q9upL r _ [] 0) = some 0
        rw [q9upL_lt h0]
        obtain ⟨u, u1, u2, u3⟩ := hM.2.2.2.1 0 _ (q9zero_at c5)
        have u2 : 0 ≤ u.toInt := u2
        have u3 : u.toInt ≤ 0 := u3
        rw [u1]
        show some u.toInt = _
        rw [show u.toInt = 0 by omega]
      · show q9ev _ e0 = _
        rw [q9upL_agr.ev e1]
        exact e2
      · show q9ev _ z.2.2 = _
        rw [q9upL_agr.ev (q9wf_A hw z hzm).2.2]
        exact k6
      · unfold q9enN at z3
        omega
      · rw [if_neg (by omega), if_pos (by omega)]
        exact ⟨_, z6⟩
    · cases h
  · cases h
/-- what a repeat repeats is a stretch; where none may stand, none stands -/
noncomputable def q9nxI_o (o : Nat) (s : q9AV) (d : Nat) : q9RF := fun x => match (q9tE x)[o]?, q9enA x o s, (q9tA x).find? (q9isCn x s (7 + d) 60), q9num (q9tE x) s, q9knd x o s with
  | some (2, 12, _), some e, some z, some (0, _, _), some k => if d ≤ 5 ∧ q9okAV (q9tE x) s = true ∧ q9okAV (q9tE x) (s.1, s.2 + 1) = true ∧ q9okAV (q9tE x) (e.1, e.2 + 1000 * ((6 + d : Nat) : Int)) = true ∧ q9isInt x s = true ∧ q9isInt x e = true ∧ q9zeroB x = true ∧ q9leB x s z.2.2 (-1 - 1000 * ((7 + d : Nat) : Int)) = true then
      (if k = 7 then (if d = 0 then some [] else some [q9addS x [] [] [(0, (s.1, s.2 + 1), (e.1, e.2 + 1000 * ((6 + d : Nat) : Int)))] [] []]) else some [x]) else none
  | _, _, _, _, _ => none
noncomputable def q9nxI (o : Nat) (s : q9AV) (d : Nat) : q9RF := fun x => match (q9ge9 (q9tE x) (o)), q9enA x o s, q9fi9 (q9tA x) (q9isCn x s (7 + d) 60), q9num (q9tE x) s, q9knd x o s with
  | some (2, 12, _), some e, some z, some (0, _, _), some k => if d ≤ 5 ∧ q9okAV (q9tE x) s = true ∧ q9okAV (q9tE x) (s.1, s.2 + 1) = true ∧ q9okAV (q9tE x) (e.1, e.2 + 1000 * ((6 + d : Nat) : Int)) = true ∧ q9isInt x s = true ∧ q9isInt x e = true ∧ q9zeroB x = true ∧ q9leB x s z.2.2 (-1 - 1000 * ((7 + d : Nat) : Int)) = true then
      (bif q9de9 (k) (7) then (bif q9de9 (d) (0) then some [] else some [q9addS x [] [] [(0, (s.1, s.2 + 1), (e.1, e.2 + 1000 * ((6 + d : Nat) : Int)))] [] []]) else some [x]) else none
  | _, _, _, _, _ => none
theorem q9nxI_oq : @q9nxI = @q9nxI_o := by
  delta q9nxI q9nxI_o
  simp only [q9ge9_eq, q9fi9_eq, q9an9_eq, q9al9_eq, q9flt9_eq, q9el9_eq, q9set9_eq, q9ln9_eq, q9gD9_eq, q9ap9_eq, q9eq9_N, q9eq9_I, q9eq9_A, q9eq9_E, q9eq9_OI, q9eq9_ON, q9eq9_OA, q9eq9_L, q9eq9_S, q9de9_N, q9de9_I, q9de9_A, q9le9_N, q9le9_I, q9lt9_N, q9lt9_I, q9de9_E, q9de9_OI, q9de9_ON, q9de9_OA, q9de9_L, q9nd9_eq, q9or9_eq, Bool.cond_decide]
theorem q9ev_off {G : q9GH} {x : q9ST} {r : Nat → Value} (hS : q9SAT G (q9tE x) r) {a : q9AV} {d : Int} (ha : q9okAV (q9tE x) a = true) (hd : q9okAV (q9tE x) (a.1, a.2 + d) = true) (hi : q9isInt x a = true) {y : Int32} (hy : q9ev r a = .int y) : ∃ y' : Int32, q9ev r (a.1, a.2 + d) = .int y' ∧ y'.toInt = y.toInt + d := by
  (rewrite [q9isInt_oq] at hi; unfold q9isInt_o at hi)
  cases hE : (q9tE x)[a.1]? with
  | none => rw [hE] at hi; cases hi
  | some t =>
    obtain ⟨k, lo, hh⟩ := t
    rw [hE] at hi
    have h0 : k = 0 := by simpa using hi
    subst h0
    obtain ⟨u, e1, e2, -⟩ := q9ev_int hS hE ha
    obtain ⟨v, e3, e4, -⟩ := q9ev_int (a := (a.1, a.2 + d)) hS hE hd
    rw [hy] at e1
    cases e1
    refine ⟨v, e3, ?_⟩
    have e4 : v.toInt = q9iv r a.1 + (a.2 + d) := e4
    omega
theorem q9nxI_ok (o : Nat) (s : q9AV) (d : Nat) : q9RFok O (q9nxI o s d) := by
  intro nL g cT A x r G ws ls st xs hw hM hT hD h
  (rewrite [q9nxI_oq] at h; unfold q9nxI_o at h)
  split at h
  · rename_i h9 e0 z l h8 k ho he hz hn hk
    split at h
    · rename_i hc
      obtain ⟨c1, c3, c6, c7, q9c8, c9, c5, c4⟩ := hc
      split at h
      · rename_i hk7
        have hzm := List.mem_of_find?_eq_some hz
        obtain ⟨y, y1, y2, y3, y4⟩ := q9num_int hM.2.2.2.1 c3 hn
        obtain ⟨q, a, n, fs, M, c, w, e, k1, k2, k3, k4, k5, k6, k7, k8, k9, k10, k11⟩ := q9isCn_ok (t := 7 + d) hM hw hzm c3 y1 (by omega) (by have := List.find?_some hz; exact this)
        have hle := q9leB_ok hM c3 (q9wf_A hw z hzm).2.2 c4
        rw [y1, k6] at hle
        have hle : y.toInt ≤ w.toInt + (-1 - 1000 * ((7 + d : Nat) : Int)) := hle
        have hyc : y.toNatClampNeg = y.toInt.toNat := rfl
        rw [if_neg (by omega), if_pos (by omega)] at k11
        obtain ⟨c', k11⟩ := k11
        obtain ⟨z1, z2, z3, z4, z5, z6, z7⟩ := k11.lt (by omega)
        have hkk := q9knd_ok hM hw hT hD ho k1 k2 k3 c3 y1 hk
        have hin : ∃ (d' : Nat) (i : Int), d = d' + 1 ∧ q9CNT M d' (y.toNatClampNeg + 1) (q9enN M y.toNatClampNeg) i := by
          rcases z7 with ⟨z8, -⟩ | ⟨-, -, -, d', i, z8, z9, -⟩ | ⟨z8, z9, z10, -⟩
          · omega
          · exact ⟨d', i, by omega, z9⟩
          · omega
        obtain ⟨d', i, rfl, hin⟩ := hin
        rw [if_neg (by omega)] at h
        cases h
        obtain ⟨e1, e2⟩ := q9enA_ok hM hw hT hD ho k1 k2 k3 c3 y1 he
        obtain ⟨ys, s1, s2⟩ := q9ev_off hM.2.2.2.1 c3 c6 q9c8 y1
        obtain ⟨ye, s3, s4⟩ := q9ev_off hM.2.2.2.1 e1 c7 c9 e2
        have h0 : 0 < (q9tE x).length := q9lt_of_E (q9zero_at c5)
        unfold q9enN at z3 z4 hin
        refine q9rf_add hM hw [] List.mem_cons_self q9ty_nil q9no_mem (q9one_mem (q9cn_mk (t := 7 + d') (e := (M 29 y.toNatClampNeg).toInt.toNat) (c := 0) (b := ys) (w := ye) k1 k2 k3 ?_ (Int.le_refl 0) ?_ ?_ (by omega) (by omega) (by omega) (by omega) ?_)) q9no_mem q9no_mem
        · show q9nV (q9upL r _ [] 0) = some 0
          rw [q9upL_lt h0]
          obtain ⟨u, u1, u2, u3⟩ := hM.2.2.2.1 0 _ (q9zero_at c5)
          have u2 : 0 ≤ u.toInt := u2
          have u3 : u.toInt ≤ 0 := u3
          rw [u1]
          show some u.toInt = _
          rw [show u.toInt = 0 by omega]
        · show q9ev _ (s.1, s.2 + 1) = _
          rw [q9upL_agr.ev c6]
          exact s1
        · show q9ev _ (e0.1, e0.2 + 1000 * ((6 + (d' + 1) : Nat) : Int)) = _
          rw [q9upL_agr.ev c7]
          exact s3
        · rw [if_neg (by omega), if_pos (by omega), show ys.toInt.toNat = y.toNatClampNeg + 1 by omega, show 7 + d' - 7 = d' by omega]
          exact ⟨_, hin⟩
      · cases h
        exact ⟨x, List.mem_cons_self, r, q9agr.rf, Nat.le_refl _, rfl, rfl, hM⟩
    · cases h
  · cases h
