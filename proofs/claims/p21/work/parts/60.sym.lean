/-! symbolic values: a type (kind, low, high), a value (symbol, offset), a typed world -/
abbrev q9ET : Type := Nat × Int × Int
abbrev q9AV : Type := Nat × Int
/-- typed addresses: address, code, an array's length -/
abbrev q9GH : Type := List (Nat × Nat × Nat)
noncomputable def q9tyV (G : q9GH) (t : q9ET) (v : Value) : Prop := match t.1 with
  | 0 => ∃ x : Int32, v = .int x ∧ t.2.1 ≤ x.toInt ∧ x.toInt ≤ t.2.2
  | 1 => ∃ x : Int64, v = .long x ∧ t.2.1 ≤ x.toInt ∧ x.toInt ≤ t.2.2
  | 2 => ∃ a n : Nat, v = .ref a ∧ (a, t.2.1.toNat, n) ∈ G
  | 3 => v = .null ∨ ∃ a n : Nat, v = .ref a ∧ (a, t.2.1.toNat, n) ∈ G
  | 4 => v = .null
  | 5 => ∃ a : Nat, v = .ref a
  | _ => v = .null ∨ ∃ a : Nat, v = .ref a
theorem q9tyV.mono {G G' : q9GH} (h : ∀ q ∈ G, q ∈ G') {t : q9ET} {v : Value} (hv : q9tyV G t v) : q9tyV G' t v := by
  obtain ⟨k, lo, hi⟩ := t
  match k, hv with
  | 0, hv => exact hv
  | 1, hv => exact hv
  | 2, ⟨a, n, e, m⟩ => exact ⟨a, n, e, h _ m⟩
  | 3, .inl e => exact .inl e
  | 3, .inr ⟨a, n, e, m⟩ => exact .inr ⟨a, n, e, h _ m⟩
  | 4, hv => exact hv
  | 5, hv => exact hv
  | _ + 6, hv => exact hv
/-- an array's kind: place of its sort among TY, the most it may hold, whether it always holds so many, what its elements are -/
abbrev q9AK : Type := Nat × Nat × Bool × q9ET
noncomputable def q9tyA (cT : Nat → ClassId) (G : q9GH) (k : q9AK) (n : Nat) (e : va_E) : Prop := n ≤ k.2.1 ∧ (k.2.2.1 = true → n = k.2.1) ∧ match k.1 with
  | 2 => ∃ f : Nat → Int64, e = .inl (cT 2, n, .inr (.inl f)) ∧ ∀ i : Nat, i < n → q9tyV G k.2.2.2 (.long (f i))
  | 0 => ∃ f : Nat → Int32, e = .inl (cT 0, n, .inl f) ∧ ∀ i : Nat, i < n → q9tyV G k.2.2.2 (.int (f i))
  | 1 => ∃ f : Nat → Int32, e = .inl (cT 1, n, .inl f) ∧ ∀ i : Nat, i < n → q9tyV G k.2.2.2 (.int (f i))
  | 3 => ∃ f : Nat → Int32, e = .inl (cT 3, n, .inl f) ∧ ∀ i : Nat, i < n → q9tyV G k.2.2.2 (.int (f i))
  | t => ∃ f : Nat → Option Nat, e = .inl (cT t, n, .inr (.inr (.inr (.inr f)))) ∧ ∀ i : Nat, i < n → q9tyV G k.2.2.2 (va_rf (f i))
theorem q9tyA.mono {cT : Nat → ClassId} {G G' : q9GH} (h : ∀ q ∈ G, q ∈ G') {k : q9AK} {n : Nat} {e : va_E} (hv : q9tyA cT G k n e) : q9tyA cT G' k n e := by
  obtain ⟨k, N, b, t⟩ := k
  obtain ⟨h1, h2, hv⟩ := hv
  refine ⟨h1, h2, ?_⟩
  match k, hv with
  | 0, ⟨f, e, m⟩ => exact ⟨f, e, fun i hi => (m i hi).mono h⟩
  | 1, ⟨f, e, m⟩ => exact ⟨f, e, fun i hi => (m i hi).mono h⟩
  | 2, ⟨f, e, m⟩ => exact ⟨f, e, fun i hi => (m i hi).mono h⟩
  | 3, ⟨f, e, m⟩ => exact ⟨f, e, fun i hi => (m i hi).mono h⟩
  | _ + 4, ⟨f, e, m⟩ => exact ⟨f, e, fun i hi => (m i hi).mono h⟩
/-- the tables of a system: the fields of its objects, its kinds of arrays, which field (sort, place) is the length of which array (place) -/
abbrev q9TB : Type := List (List q9ET) × List q9AK × List (Nat × Nat × Nat)
/-- a cell by its code: below 100 an object (below 20 of that sort; 20 q9more: q9one that is being made), from 100 on a kind of array -/
noncomputable def q9tyE (cT : Nat → ClassId) (B : q9TB) (G : q9GH) (t n : Nat) (e : va_E) : Prop :=
  (t < 100 ∧ ∃ (fs : List Value) (F : List q9ET), e = .inr (t % 20, fs) ∧ B.1[t]? = some F ∧ fs.length = F.length ∧ (∀ (j : Nat) (f : q9ET) (v : Value), F[j]? = some f → fs[j]? = some v → q9tyV G f v) ∧
    ∀ j j' : Nat, (t, j, j') ∈ B.2.2 → ∃ (x : Int32) (a cd k : Nat), fs[j]? = some (.int x) ∧ fs[j']? = some (.ref a) ∧ (a, cd, k) ∈ G ∧ x.toInt = k) ∨
  (100 ≤ t ∧ ∃ k : q9AK, B.2.1[t - 100]? = some k ∧ q9tyA cT G k n e)
theorem q9tyE.mono {cT : Nat → ClassId} {B : q9TB} {G G' : q9GH} (h : ∀ q ∈ G, q ∈ G') {t n : Nat} {e : va_E} (hv : q9tyE cT B G t n e) : q9tyE cT B G' t n e := by
  rcases hv with ⟨h1, fs, F, h2, h3, h4, h5, h6⟩ | ⟨h1, k, h2, h3⟩
  · refine .inl ⟨h1, fs, F, h2, h3, h4, fun j f v hf hv => (h5 j f v hf hv).mono h, fun j j' hj => ?_⟩
    obtain ⟨x, a, cd, k, e1, e2, e3, e4⟩ := h6 j j' hj
    exact ⟨x, a, cd, k, e1, e2, h _ e3, e4⟩
  · exact .inr ⟨h1, k, h2, h3.mono h⟩
noncomputable def q9tyW (cT : Nat → ClassId) (B : q9TB) (G : q9GH) (ws : va_W) : Prop :=
  ws.length = G.length ∧ (∀ (q a t n : Nat), G[q]? = some (a, t, n) → ∃ e : va_E, ws[q]? = some (a, e) ∧ q9tyE cT B G t n e) ∧ ∀ (i j a b n k : Nat), G[i]? = some (a, 12, n) → G[j]? = some (b, 12, k) → a = b
noncomputable def q9extG (G G' : q9GH) : Prop := ∃ X : q9GH, G' = G ++ X
theorem q9extG.rf {G : q9GH} : q9extG G G := ⟨[], (List.append_nil G).symm⟩
theorem q9extG.tr {G G' G2 : q9GH} (h : q9extG G G') (h2 : q9extG G' G2) : q9extG G G2 := by
  obtain ⟨X, rfl⟩ := h
  obtain ⟨Y, rfl⟩ := h2
  exact ⟨X ++ Y, List.append_assoc _ _ _⟩
theorem q9extG.mem {G G' : q9GH} (h : q9extG G G') : ∀ q ∈ G, q ∈ G' := by
  obtain ⟨X, rfl⟩ := h
  exact fun q hq => List.mem_append_left _ hq
theorem q9extG.at {G G' : q9GH} (h : q9extG G G') {k : Nat} {q : Nat × Nat × Nat} (hk : G[k]? = some q) : G'[k]? = some q := by
  obtain ⟨X, rfl⟩ := h
  rw [List.getElem?_append_left (List.getElem?_eq_some_iff.mp hk).1]
  exact hk
/-- what a method leaves as it was: every field and every array whose code isn't among those that it writes; a field's code is 64 * sort + place, an array's 100000 + its kind -/
noncomputable def q9keepE (Wr : List Nat) (t : Nat) (e e' : va_E) : Prop := match e, e' with
  | .inr (c, fs), .inr (c', fs') => c' = c ∧ fs'.length = fs.length ∧ ∀ j : Nat, 64 * t + j ∉ Wr → fs'[j]? = fs[j]?
  | .inl x, .inl y => 100000 + t ∉ Wr → y = x
  | _, _ => False
noncomputable def q9keepW (Wr : List Nat) (G : q9GH) (ws ws' : va_W) : Prop := ∀ (q a t n : Nat) (e : va_E), G[q]? = some (a, t, n) → ws[q]? = some (a, e) → ∃ e' : va_E, ws'[q]? = some (a, e') ∧ q9keepE Wr t e e'
theorem q9keepE.rf {Wr : List Nat} {t : Nat} {e : va_E} : q9keepE Wr t e e := by
  match e with
  | .inr (c, fs) => exact ⟨rfl, rfl, fun _ _ => rfl⟩
  | .inl x => exact fun _ => rfl
theorem q9keepE.tr {Wr : List Nat} {t : Nat} {e e' e2 : va_E} (h : q9keepE Wr t e e') (h2 : q9keepE Wr t e' e2) : q9keepE Wr t e e2 := by
  match e, e', e2, h, h2 with
  | .inr (c, fs), .inr (c', fs'), .inr (c2, fs2), ⟨a1, a2, a3⟩, ⟨b1, b2, b3⟩ =>
    subst a1
    exact ⟨b1, b2.trans a2, fun j hj => (b3 j hj).trans (a3 j hj)⟩
  | .inl x, .inl y, .inl z, h, h2 => exact fun hn => (h2 hn).trans (h hn)
theorem q9keepE.wk {Wr Wr' : List Nat} (hs : ∀ q ∈ Wr, q ∈ Wr') {t : Nat} {e e' : va_E} (h : q9keepE Wr t e e') : q9keepE Wr' t e e' := by
  match e, e', h with
  | .inr (c, fs), .inr (c', fs'), ⟨a1, a2, a3⟩ => exact ⟨a1, a2, fun j hj => a3 j fun q => hj (hs _ q)⟩
  | .inl x, .inl y, h => exact fun hn => h fun q => hn (hs _ q)
theorem q9keepW.rf {Wr : List Nat} {G : q9GH} {ws : va_W} : q9keepW Wr G ws ws := fun q a t n e _ h => ⟨e, h, q9keepE.rf⟩
theorem q9keepW.tr {Wr : List Nat} {G G' : q9GH} (hG : q9extG G G') {ws w1 w2 : va_W} (h : q9keepW Wr G ws w1) (h2 : q9keepW Wr G' w1 w2) : q9keepW Wr G ws w2 := by
  intro q a t n e hg he
  obtain ⟨e1, h3, h4⟩ := h q a t n e hg he
  obtain ⟨e2, h5, h6⟩ := h2 q a t n e1 (hG.at hg) h3
  exact ⟨e2, h5, h4.tr h6⟩
theorem q9keepW.wk {Wr Wr' : List Nat} (hs : ∀ q ∈ Wr, q ∈ Wr') {G : q9GH} {ws w1 : va_W} (h : q9keepW Wr G ws w1) : q9keepW Wr' G ws w1 := by
  intro q a t n e hg he
  obtain ⟨e1, h3, h4⟩ := h q a t n e hg he
  exact ⟨e1, h3, h4.wk hs⟩
/-- the place of a typed address -/
theorem q9tyW.at {cT : Nat → ClassId} {B : q9TB} {G : q9GH} {ws : va_W} (h : q9tyW cT B G ws) {a t n : Nat} (hm : (a, t, n) ∈ G) : ∃ (q : Nat) (e : va_E), G[q]? = some (a, t, n) ∧ ws[q]? = some (a, e) ∧ q9tyE cT B G t n e := by
  obtain ⟨q, hq⟩ := List.getElem?_of_mem hm
  obtain ⟨e, h1, h2⟩ := h.2.1 q a t n hq
  exact ⟨q, e, hq, h1, h2⟩
theorem q9tyW.back {cT : Nat → ClassId} {B : q9TB} {G : q9GH} {ws : va_W} (h : q9tyW cT B G ws) {q a : Nat} {e : va_E} (hq : ws[q]? = some (a, e)) : ∃ t n : Nat, G[q]? = some (a, t, n) ∧ q9tyE cT B G t n e := by
  have hl : q < G.length := by rw [← h.1]; exact (List.getElem?_eq_some_iff.mp hq).1
  obtain ⟨⟨b, t, n⟩, hg⟩ : ∃ x, G[q]? = some x := ⟨G[q], List.getElem?_eq_getElem hl⟩
  obtain ⟨e', h1, h2⟩ := h.2.1 q b t n hg
  rw [hq] at h1
  cases h1
  exact ⟨t, n, hg, h2⟩
/-- writing q9one cell by another of its code -/
theorem q9tyW.set {cT : Nat → ClassId} {B : q9TB} {G : q9GH} {ws : va_W} (h : q9tyW cT B G ws) {q a t n : Nat} {e' : va_E} (hg : G[q]? = some (a, t, n)) (he : q9tyE cT B G t n e') : q9tyW cT B G (ws.set q (a, e')) := by
  refine ⟨by rw [List.length_set]; exact h.1, fun i b u n' hi => ?_, h.2.2⟩
  obtain ⟨e, h1, h2⟩ := h.2.1 i b u n' hi
  by_cases hiq : i = q
  · subst hiq
    rw [hg] at hi
    cases hi
    exact ⟨e', by rw [List.getElem?_set_self (List.getElem?_eq_some_iff.mp h1).1], he⟩
  · exact ⟨e, by rw [List.getElem?_set_ne (fun z => hiq z.symm)]; exact h1, h2⟩
theorem q9keepW.set {Wr : List Nat} {G : q9GH} {ws : va_W} {q a t n : Nat} {e e' : va_E} (hg : G[q]? = some (a, t, n)) (hq : ws[q]? = some (a, e)) (he : q9keepE Wr t e e') : q9keepW Wr G ws (ws.set q (a, e')) := by
  intro i b u n' x hi hx
  by_cases hiq : i = q
  · subst hiq
    rw [hg] at hi
    cases hi
    rw [hq] at hx
    cases hx
    exact ⟨e', by rw [List.getElem?_set_self (List.getElem?_eq_some_iff.mp hq).1], he⟩
  · exact ⟨x, by rw [List.getElem?_set_ne (fun z => hiq z.symm)]; exact hx, q9keepE.rf⟩
/-- q9one address, q9one code -/
theorem q9tyW.one {cT : Nat → ClassId} {B : q9TB} {G : q9GH} {ws : va_W} {A : Nat → Prop} (h : q9tyW cT B G ws) (hD : va_D A ws) {a t n t' n' : Nat} (h1 : (a, t, n) ∈ G) (h2 : (a, t', n') ∈ G) : t = t' ∧ n = n' := by
  obtain ⟨q, e, g1, w1, -⟩ := h.at h1
  obtain ⟨q', e', g2, w2, -⟩ := h.at h2
  have hq : q = q' := hD.1 q q' _ _ w1 w2 rfl
  subst hq
  rw [g1] at g2
  cases g2
  exact ⟨rfl, rfl⟩
/-- q9one address, q9one place -/
theorem va_D.one {A : Nat → Prop} {ws : va_W} (h : va_D A ws) {i j a : Nat} {e e' : va_E} (hi : ws[i]? = some (a, e)) (hj : ws[j]? = some (a, e')) : i = j := h.1 i j _ _ hi hj rfl
/-! values of symbols -/
theorem q9bm32 {x : Int} (h1 : -2 ^ 31 ≤ x) (h2 : x < 2 ^ 31) : x.bmod (2 ^ 32) = x := Int.bmod_eq_of_le (by omega) (by omega)
noncomputable def q9ev (r : Nat → Value) (a : q9AV) : Value := match r a.1 with
  | .int x => .int (x + Int32.ofInt a.2)
  | v => v
noncomputable def q9iv (r : Nat → Value) (k : Nat) : Int := match r k with
  | .int x => x.toInt
  | .long x => x.toInt
  | _ => 0
noncomputable def q9okAV_o (E : List q9ET) (a : q9AV) : Bool := match E[a.1]? with
  | some t => if t.1 = 0 then decide (-2147483648 ≤ t.2.1 + a.2) && decide (t.2.2 + a.2 ≤ 2147483647) else decide (a.2 = 0)
  | none => false
noncomputable def q9okAV (E : List q9ET) (a : q9AV) : Bool := match (q9ge9 E (a.1)) with
  | some t => bif q9de9 (t.1) (0) then q9nd9 ((q9le9 (-2147483648) (t.2.1 + a.2))) ((q9le9 (t.2.2 + a.2) (2147483647))) else (q9de9 (a.2) (0))
  | none => false
theorem q9okAV_oq : @q9okAV = @q9okAV_o := by
  delta q9okAV q9okAV_o
  simp only [q9ge9_eq, q9fi9_eq, q9an9_eq, q9al9_eq, q9flt9_eq, q9el9_eq, q9set9_eq, q9ln9_eq, q9gD9_eq, q9ap9_eq, q9eq9_N, q9eq9_I, q9eq9_A, q9eq9_E, q9eq9_OI, q9eq9_ON, q9eq9_OA, q9eq9_L, q9eq9_S, q9de9_N, q9de9_I, q9de9_A, q9le9_N, q9le9_I, q9lt9_N, q9lt9_I, q9de9_E, q9de9_OI, q9de9_ON, q9de9_OA, q9de9_L, q9nd9_eq, q9or9_eq, Bool.cond_decide]
noncomputable def q9SAT (G : q9GH) (E : List q9ET) (r : Nat → Value) : Prop := ∀ (k : Nat) (t : q9ET), E[k]? = some t → q9tyV G t (r k)
noncomputable def q9up (r : Nat → Value) (n : Nat) (v : Value) : Nat → Value := fun k => if k = n then v else r k
theorem q9up_lt {r : Nat → Value} {n k : Nat} {v : Value} (h : k < n) : q9up r n v k = r k := if_neg (Nat.ne_of_lt h)
theorem q9up_at {r : Nat → Value} {n : Nat} {v : Value} : q9up r n v n = v := if_pos rfl
theorem q9ev_agree {r r' : Nat → Value} {a : q9AV} (h : r' a.1 = r a.1) : q9ev r' a = q9ev r a := by unfold q9ev; rw [h]
theorem q9okAV_lt {E : List q9ET} {a : q9AV} (h : q9okAV E a = true) : a.1 < E.length := by
  (rewrite [q9okAV_oq] at h; unfold q9okAV_o at h)
  cases hE : E[a.1]? with
  | none => rw [hE] at h; cases h
  | some t => exact (List.getElem?_eq_some_iff.mp hE).1
theorem q9ofInt_toInt32 {n : Int} (h1 : -2147483648 ≤ n) (h2 : n ≤ 2147483647) : (Int32.ofInt n).toInt = n := by
  rw [Int32.toInt_ofInt]
  exact q9bm32 (by omega) (by omega)
/-- an int's value: exact -/
theorem q9ev_int {G : q9GH} {E : List q9ET} {r : Nat → Value} {a : q9AV} {lo hi : Int} (hS : q9SAT G E r) (hE : E[a.1]? = some (0, lo, hi)) (h : q9okAV E a = true) : ∃ y : Int32, q9ev r a = .int y ∧ y.toInt = q9iv r a.1 + a.2 ∧ lo + a.2 ≤ y.toInt ∧ y.toInt ≤ hi + a.2 := by
  obtain ⟨x, hx, h1, h2⟩ := hS a.1 _ hE
  (rewrite [q9okAV_oq] at h; unfold q9okAV_o at h)
  rw [hE] at h
  simp only [if_true, Bool.and_eq_true, decide_eq_true_eq] at h
  have h1 : lo ≤ x.toInt := h1
  have h2 : x.toInt ≤ hi := h2
  have b1 := Int32.le_toInt x
  have b2 := Int32.toInt_lt x
  by_cases h0 : a.2 = 0
  · have e0 : x + Int32.ofInt a.2 = x := by
      apply Int32.toInt_inj.mp
      rw [h0]
      show (x + 0).toInt = _
      rw [Int32.add_zero]
    refine ⟨x, ?_, ?_, by omega, by omega⟩
    · unfold q9ev
      rw [hx]
      show Value.int (x + Int32.ofInt a.2) = _
      rw [e0]
    · unfold q9iv
      rw [hx]
      show x.toInt = x.toInt + a.2
      omega
  · have hr : (x + Int32.ofInt a.2).toInt = x.toInt + a.2 := by
      rw [Int32.toInt_add, Int32.toInt_ofInt]
      rw [show (x.toInt + Int.bmod a.2 Int32.size) = (x.toInt + Int.bmod a.2 (2 ^ 32)) from rfl, Int.add_bmod_bmod]
      exact q9bm32 (by omega) (by omega)
    refine ⟨x + Int32.ofInt a.2, ?_, ?_, by omega, by omega⟩
    · unfold q9ev
      rw [hx]
    · unfold q9iv
      rw [hx, hr]
/-- what isn't an int carries no offset -/
theorem q9ev_ref {G : q9GH} {E : List q9ET} {r : Nat → Value} {a : q9AV} {t : q9ET} (hS : q9SAT G E r) (hE : E[a.1]? = some t) (h0 : t.1 ≠ 0) : q9ev r a = r a.1 ∧ q9tyV G t (q9ev r a) := by
  have h := hS a.1 _ hE
  have e : q9ev r a = r a.1 := by
    unfold q9ev
    obtain ⟨k, lo, hi⟩ := t
    match k, h, h0 with
    | 1, ⟨x, hx, _⟩, _ => rw [hx]
    | 2, ⟨x, _, hx, _⟩, _ => rw [hx]
    | 3, .inl hx, _ => have hx : r a.1 = .null := hx; rw [hx]
    | 3, .inr ⟨x, _, hx, _⟩, _ => rw [hx]
    | 4, hx, _ => have hx : r a.1 = .null := hx; rw [hx]
    | 5, ⟨x, hx⟩, _ => rw [hx]
    | _ + 6, .inl hx, _ => have hx : r a.1 = .null := hx; rw [hx]
    | _ + 6, .inr ⟨x, hx⟩, _ => rw [hx]
  exact ⟨e, by rw [e]; exact h⟩
theorem q9ev_zero {r : Nat → Value} {k : Nat} : q9ev r (k, 0) = r k := by
  unfold q9ev
  cases hr : r k with
  | int x => exact congrArg Value.int (Int32.add_zero x)
  | _ => rfl
/-- offsets add -/
theorem q9ev_sh {r r' : Nat → Value} {k : Nat} {b : q9AV} {c : Int} (h : r' k = q9ev r b) : q9ev r' (k, c) = q9ev r (b.1, b.2 + c) := by
  unfold q9ev at h ⊢
  show (match r' k with | .int x => _ | v => v) = (match r b.1 with | .int x => _ | v => v)
  cases hb : r b.1 with
  | int x =>
    rw [hb] at h
    have h : r' k = .int (x + Int32.ofInt b.2) := h
    rw [h]
    show Value.int (x + Int32.ofInt b.2 + Int32.ofInt c) = Value.int (x + Int32.ofInt (b.2 + c))
    rw [Int32.ofInt_add, Int32.add_assoc]
  | _ =>
    rw [hb] at h
    rw [h]
