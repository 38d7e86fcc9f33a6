/-! what is known of the reference's lines, as far as they are read: ranges; how many frames a stretch of them tells -/
abbrev q9LM : Type := Nat → Nat → Int32
def q9lnOK (M : q9LM) (ac : Int) (i : Nat) : Prop :=
  ((M 22 i).toInt = 0 → 1 ≤ (M 23 i).toInt ∧ (M 23 i).toInt ≤ 200) ∧
  ((M 22 i).toInt = 1 → 1 ≤ (M 23 i).toInt ∧ (M 23 i).toInt ≤ 200 ∧ 0 ≤ (M 27 i).toInt ∧ 0 ≤ (M 28 i).toInt ∧ (M 27 i).toInt + (M 28 i).toInt ≤ ac) ∧
  ((M 22 i).toInt = 2 → 0 ≤ (M 25 i).toInt ∧ (M 25 i).toInt ≤ 7 ∧ 0 ≤ (M 26 i).toInt ∧ (M 26 i).toInt ≤ 400 ∧ 0 ≤ (M 28 i).toInt ∧ (M 28 i).toInt ≤ 20 ∧ 0 ≤ (M 27 i).toInt ∧ (M 27 i).toInt + (M 28 i).toInt ≤ 400) ∧
  ((M 22 i).toInt = 6 → 0 ≤ (M 25 i).toInt ∧ (M 25 i).toInt ≤ 2 ∧ 1 ≤ (M 23 i).toInt ∧ (M 23 i).toInt ≤ 400) ∧
  ((M 22 i).toInt = 7 → 1 ≤ (M 23 i).toInt ∧ (M 23 i).toInt ≤ 20)
def q9acOK (M : q9LM) (i : Nat) : Prop := 0 ≤ (M 30 i).toInt ∧ (M 30 i).toInt ≤ 7 ∧ 0 ≤ (M 31 i).toInt ∧ (M 31 i).toInt ≤ 11
def q9LINES (M : q9LM) (u w : Int) : Prop := (∀ i : Nat, (i : Int) < u → q9lnOK M w i) ∧ ∀ i : Nat, (i : Int) < w → q9acOK M i
/-- the frames of a line, of a stretch of lines; d: how deep repeats may stand in q9one another -/
def q9cntF (M : q9LM) : Nat → Nat → Nat → Nat → Option Int
  | 0, _, b, e => if b = e then some 0 else none
  | n + 1, d, b, e => if b = e then some 0 else if b < (M 29 b).toInt.toNat ∧ (M 29 b).toInt.toNat ≤ e then
      (match (if (M 22 b).toInt = 0 ∨ (M 22 b).toInt = 1 then (if 1 ≤ (M 23 b).toInt ∧ (M 23 b).toInt ≤ 200 then some (M 23 b).toInt else none)
        else if (M 22 b).toInt = 7 then (match d with
          | 0 => none
          | d' + 1 => if 1 ≤ (M 23 b).toInt ∧ (M 23 b).toInt ≤ 20 then (q9cntF M n d' (b + 1) (M 29 b).toInt.toNat).map (fun c => (M 23 b).toInt * c) else none)
        else some 0), q9cntF M n d (M 29 b).toInt.toNat e with
      | some c, some c' => some (c + c')
      | _, _ => none) else none
def q9CNT (M : q9LM) (d b e : Nat) (c : Int) : Prop := ∃ n, q9cntF M n d b e = some c
def q9JP (M : q9LM) (v0 v1 v2 : Value) : Prop := match v0, v1, v2 with
  | .int _, .int u, .int w => q9LINES M u.toInt w.toInt
  | .long c, .int b, .int e => 0 ≤ b.toInt ∧ 0 ≤ e.toInt ∧ q9CNT M (e.toInt.toNat / 1000) b.toInt.toNat (e.toInt.toNat % 1000) c.toInt
  | _, _, _ => False
/-- the reference's fields that the lines lie in, their codes -/
def q9jF : List (Nat × Nat) := [(22, 178), (23, 179), (25, 181), (26, 182), (27, 183), (28, 184), (29, 185), (30, 186), (31, 187), (32, 188)]
def q9jK : List Nat := q9jF.flatMap fun q => [768 + q.1, 100000 + q.2]
def q9JA (G : q9GH) (ws : va_W) (v0 v1 v2 : Value) : Prop :=
  ∃ (q a n : Nat) (fs : List Value) (M : q9LM), G[q]? = some (a, 12, n) ∧ ws[q]? = some (a, .inr (12, fs)) ∧ (∀ z ∈ q9jF, ∃ (i b k n' : Nat) (cA : ClassId), fs[z.1]? = some (.ref b) ∧ G[i]? = some (b, z.2, k) ∧ ws[i]? = some (b, .inl (cA, n', .inl (M z.1)))) ∧ q9JP M v0 v1 v2
theorem q9JA_ref {G : q9GH} {ws : va_W} {a : Nat} {v1 v2 : Value} (h : q9JA G ws (.ref a) v1 v2) : False := by
  obtain ⟨q, a, n, fs, M, -, -, -, h⟩ := h
  exact h
theorem q9JA_keep {Wr : List Nat} {G G' : q9GH} {ws ws' : va_W} (hX : q9extG G G') (hK : q9keepW Wr G ws ws') (hn : ∀ z ∈ q9jK, z ∉ Wr) {v0 v1 v2 : Value} (h : q9JA G ws v0 v1 v2) : q9JA G' ws' v0 v1 v2 := by
  obtain ⟨q, a, n, fs, M, h1, h2, h3, h4⟩ := h
  obtain ⟨e', f1, f2⟩ := hK q a 12 n _ h1 h2
  match e', f2 with
  | .inr (c', fs'), ⟨g1, g2, g3⟩ =>
    subst g1
    refine ⟨q, a, n, fs', M, hX.at h1, f1, fun z hz => ?_, h4⟩
    obtain ⟨i, b, k, n', cA, k1, k2, k3⟩ := h3 z hz
    obtain ⟨e2, m1, m2⟩ := hK i b z.2 k _ k2 k3
    have hn1 : 64 * 12 + z.1 ∉ Wr := hn _ (List.mem_flatMap.mpr ⟨z, hz, List.mem_cons_self⟩)
    have hn2 : 100000 + z.2 ∉ Wr := hn _ (List.mem_flatMap.mpr ⟨z, hz, List.mem_cons_of_mem _ List.mem_cons_self⟩)
    match e2, m2 with
    | .inl y, m2 =>
      have m2 := m2 hn2
      subst m2
      exact ⟨i, b, k, n', cA, by rw [g3 _ hn1]; exact k1, hX.at k2, m1⟩
/-- of a symbol that is a number, from a state that is q9left -/
def q9jB (Wr : List Nat) (E : List q9ET) (k : Nat) : Bool := (match E[k]? with
  | some t => decide (t.1 ≤ 1)
  | none => false) && q9jK.all (fun z => !(Wr.elem z))
theorem q9jB_ok {Wr : List Nat} {E : List q9ET} {k : Nat} (h : q9jB Wr E k = true) : (∃ t : q9ET, E[k]? = some t ∧ t.1 ≤ 1) ∧ ∀ z ∈ q9jK, z ∉ Wr := by
  unfold q9jB at h
  rw [Bool.and_eq_true] at h
  refine ⟨?_, fun z hz hw => ?_⟩
  · cases hE : E[k]? with
    | none => rw [hE] at h; cases h.1
    | some t =>
      rw [hE] at h
      exact ⟨t, rfl, by simpa using h.1⟩
  · have := List.all_eq_true.mp h.2 z hz
    rw [List.elem_iff.mpr hw] at this
    cases this
