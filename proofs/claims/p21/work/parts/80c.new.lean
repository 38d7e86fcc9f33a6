variable {O : ORC}
/-! new objects: from 'new' to behind the constructor's call -/
/-- a type that may speak of an object of code c -/
noncomputable def q9tyC_o (c : Nat) (t : q9ET) : Bool := (t.1 == 2 || t.1 == 3) && t.2.1 == (c : Int)
noncomputable def q9tyC (c : Nat) (t : q9ET) : Bool := q9nd9 ((q9or9 (q9eq9 (t.1) (2)) (q9eq9 (t.1) (3)))) (q9eq9 (t.2.1) ((c : Int)))
theorem q9tyC_oq : @q9tyC = @q9tyC_o := by
  delta q9tyC q9tyC_o
  simp only [q9ge9_eq, q9fi9_eq, q9an9_eq, q9al9_eq, q9flt9_eq, q9el9_eq, q9set9_eq, q9ln9_eq, q9gD9_eq, q9ap9_eq, q9eq9_N, q9eq9_I, q9eq9_A, q9eq9_E, q9eq9_OI, q9eq9_ON, q9eq9_OA, q9eq9_L, q9eq9_S, q9de9_N, q9de9_I, q9de9_A, q9le9_N, q9le9_I, q9lt9_N, q9lt9_I, q9de9_E, q9de9_OI, q9de9_ON, q9de9_OA, q9de9_L, q9nd9_eq, q9or9_eq, Bool.cond_decide]
/-- the tables never speak of a code -/
noncomputable def q9noC_o (B : q9TB) (c : Nat) : Bool := B.1.all (fun F => F.all (fun t => !q9tyC c t)) && B.2.1.all (fun k => !q9tyC c k.2.2.2)
noncomputable def q9noC (B : q9TB) (c : Nat) : Bool := q9nd9 (q9al9 B.1 (fun F => q9al9 F (fun t => !q9tyC c t))) (q9al9 B.2.1 (fun k => !q9tyC c k.2.2.2))
theorem q9noC_oq : @q9noC = @q9noC_o := by
  delta q9noC q9noC_o
  simp only [q9ge9_eq, q9fi9_eq, q9an9_eq, q9al9_eq, q9flt9_eq, q9el9_eq, q9set9_eq, q9ln9_eq, q9gD9_eq, q9ap9_eq, q9eq9_N, q9eq9_I, q9eq9_A, q9eq9_E, q9eq9_OI, q9eq9_ON, q9eq9_OA, q9eq9_L, q9eq9_S, q9de9_N, q9de9_I, q9de9_A, q9le9_N, q9le9_I, q9lt9_N, q9lt9_I, q9de9_E, q9de9_OI, q9de9_ON, q9de9_OA, q9de9_L, q9nd9_eq, q9or9_eq, Bool.cond_decide]
theorem q9tyV_re {G G' : q9GH} {c : Nat} (h : ∀ (a t n : Nat), (a, t, n) ∈ G → t ≠ c → (a, t, n) ∈ G') {t : q9ET} {v : Value} (ht : q9tyC c t = false) (hc : 0 < c) (hv : q9tyV G t v) : q9tyV G' t v := by
  obtain ⟨k, lo, hi⟩ := t
  have key : (k == 2 || k == 3) = true → lo.toNat ≠ c := by
    intro h1 h2
    (rewrite [q9tyC_oq] at ht; unfold q9tyC_o at ht)
    dsimp only at ht
    rw [h1, Bool.true_and] at ht
    have h3 : lo ≠ (c : Int) := by simpa using ht
    omega
  match k, hv, key with
  | 0, hv, _ => exact hv
  | 1, hv, _ => exact hv
  | 2, ⟨a, n, e, m⟩, key => exact ⟨a, n, e, h _ _ _ m (key rfl)⟩
  | 3, .inl e, _ => exact .inl e
  | 3, .inr ⟨a, n, e, m⟩, key => exact .inr ⟨a, n, e, h _ _ _ m (key rfl)⟩
  | 4, hv, _ => exact hv
  | 5, hv, _ => exact hv
  | _ + 6, hv, _ => exact hv
theorem q9tyA_re {cT : Nat → ClassId} {G G' : q9GH} {c : Nat} (h : ∀ (a t n : Nat), (a, t, n) ∈ G → t ≠ c → (a, t, n) ∈ G') (hc : 0 < c) {k : q9AK} {n : Nat} {e : va_E} (hk : q9tyC c k.2.2.2 = false) (hv : q9tyA cT G k n e) : q9tyA cT G' k n e := by
  obtain ⟨k, N, b, t⟩ := k
  obtain ⟨h1, h2, hv⟩ := hv
  refine ⟨h1, h2, ?_⟩
  match k, hv with
  | 0, ⟨f, e, m⟩ => exact ⟨f, e, fun i hi => q9tyV_re h hk hc (m i hi)⟩
  | 1, ⟨f, e, m⟩ => exact ⟨f, e, fun i hi => q9tyV_re h hk hc (m i hi)⟩
  | 2, ⟨f, e, m⟩ => exact ⟨f, e, fun i hi => q9tyV_re h hk hc (m i hi)⟩
  | 3, ⟨f, e, m⟩ => exact ⟨f, e, fun i hi => q9tyV_re h hk hc (m i hi)⟩
  | _ + 4, ⟨f, e, m⟩ => exact ⟨f, e, fun i hi => q9tyV_re h hk hc (m i hi)⟩
theorem q9tyE_re {cT : Nat → ClassId} {B : q9TB} {G G' : q9GH} {c : Nat} (h : ∀ (a t n : Nat), (a, t, n) ∈ G → t ≠ c → (a, t, n) ∈ G') (h' : ∀ (a t n : Nat), (a, t, n) ∈ G → ∃ t', (a, t', n) ∈ G') (hc : 0 < c) (hB : q9noC B c = true) {t n : Nat} {e : va_E} (hv : q9tyE cT B G t n e) : q9tyE cT B G' t n e := by
  (rewrite [q9noC_oq] at hB; unfold q9noC_o at hB)
  rw [Bool.and_eq_true, List.all_eq_true, List.all_eq_true] at hB
  rcases hv with ⟨h1, fs, F, h2, h3, h4, h5, h6⟩ | ⟨h1, k, h2, h3⟩
  · refine .inl ⟨h1, fs, F, h2, h3, h4, fun j f v hf hv => ?_, fun j j' hj => ?_⟩
    · have h7 := List.all_eq_true.mp (hB.1 F (List.mem_of_getElem? h3)) f (List.mem_of_getElem? hf)
      exact q9tyV_re h (by simpa using h7) hc (h5 j f v hf hv)
    · obtain ⟨x, a, cd, k, e1, e2, e3, e4⟩ := h6 j j' hj
      obtain ⟨t', m'⟩ := h' a cd k e3
      exact ⟨x, a, t', k, e1, e2, m', e4⟩
  · have h7 := hB.2 k (List.mem_of_getElem? h2)
    exact .inr ⟨h1, k, h2, q9tyA_re h hc (by simpa using h7) h3⟩
/-- what is known of the fields of symbol k fits the table F -/
noncomputable def q9fldB (x : q9ST) (k : Nat) : List q9ET → Nat → Bool
  | [], _ => true
  | t :: ts, j => (match (q9tF x).find? (fun z => z.1 == k && z.2.1 == j) with
    | some z => !(j == 1000) && (q9okAV (q9tE x) z.2.2 && q9subB (q9tE x) z.2.2 t)
    | none => false) && q9fldB x k ts (j + 1)
theorem q9fldB_ok {x : q9ST} {k : Nat} : ∀ {F : List q9ET} {j : Nat}, q9fldB x k F j = true → ∀ (i : Nat) (t : q9ET), F[i]? = some t → ∃ v : q9AV, (k, j + i, v) ∈ q9tF x ∧ j + i ≠ 1000 ∧ q9okAV (q9tE x) v = true ∧ q9subB (q9tE x) v t = true
  | [], _, _, i, t, hi => by simp at hi
  | u :: F, j, h, i, t, hi => by
    unfold q9fldB at h
    rw [Bool.and_eq_true] at h
    obtain ⟨h1, h2⟩ := h
    cases i with
    | zero =>
      cases hi
      split at h1
      · rename_i z hz
        have z1 := List.find?_some hz
        have z2 := List.mem_of_find?_eq_some hz
        simp only [Bool.and_eq_true, beq_iff_eq, Bool.not_eq_true', beq_eq_false_iff_ne] at z1 h1
        obtain ⟨z3, z4, z5⟩ := z
        obtain ⟨rfl, rfl⟩ := z1
        exact ⟨z5, z2, h1.1, h1.2.1, h1.2.2⟩
      · cases h1
    | succ i =>
      obtain ⟨v, v1, v2, v3⟩ := q9fldB_ok h2 i t hi
      exact ⟨v, by rw [show j + (i + 1) = j + 1 + i by omega]; exact v1, by omega, v3⟩
/-- the object of symbol k is made: its code 20 + ci becomes ci -/
noncomputable def q9ret1_o (B : q9TB) (ci k : Nat) (x : q9ST) : Option q9ST := match B.1[ci]?, B.1[20 + ci]?, (q9tE x)[k]? with
  | some F, some F', some t => if t = (2, ((20 + ci : Nat) : Int), 0) ∧ F.length = F'.length ∧ ci < 80 ∧ ci ≠ 12 ∧ q9noC B (20 + ci) = true ∧ q9fldB x k F 0 = true ∧
      ((q9tE x).zipIdx.all (fun z => z.2 == k || !q9tyC (20 + ci) z.1)) = true ∧
      (B.2.2.all (fun z => !(z.1 == ci) || ((q9tF x).any (fun a => a.1 == k && (a.2.1 == z.2.1 && (q9tF x).any (fun b => b.1 == k && (b.2.1 == z.2.2 && (decide (z.2.1 ≠ 1000 ∧ z.2.2 ≠ 1000 ∧ b.2.2.2 = 0) && (q9tF x).any (fun w => w.1 == b.2.2.1 && (w.2.1 == 1000 && w.2.2 == a.2.2)))))))))) = true then
      some (q9sE x ((q9tE x).set k (2, (ci : Int), 0))) else none
  | _, _, _ => none
noncomputable def q9ret1 (B : q9TB) (ci k : Nat) (x : q9ST) : Option q9ST := match (q9ge9 B.1 (ci)), (q9ge9 B.1 (20 + ci)), (q9ge9 (q9tE x) (k)) with
  | some F, some F', some t => if t = (2, ((20 + ci : Nat) : Int), 0) ∧ (q9ln9 F) = (q9ln9 F') ∧ ci < 80 ∧ ci ≠ 12 ∧ q9noC B (20 + ci) = true ∧ q9fldB x k F 0 = true ∧
      (q9al9 (q9tE x).zipIdx (fun z => q9or9 (q9eq9 (z.2) (k)) (!q9tyC (20 + ci) z.1))) = true ∧
      (q9al9 B.2.2 (fun z => q9or9 (!(q9eq9 (z.1) (ci))) ((q9an9 (q9tF x) (fun a => q9nd9 (q9eq9 (a.1) (k)) ((q9nd9 (q9eq9 (a.2.1) (z.2.1)) (q9an9 (q9tF x) (fun b => q9nd9 (q9eq9 (b.1) (k)) ((q9nd9 (q9eq9 (b.2.1) (z.2.2)) ((q9nd9 (decide (z.2.1 ≠ 1000 ∧ z.2.2 ≠ 1000 ∧ b.2.2.2 = 0)) (q9an9 (q9tF x) (fun w => q9nd9 (q9eq9 (w.1) (b.2.2.1)) ((q9nd9 (q9eq9 (w.2.1) (1000)) (q9eq9 (w.2.2) (a.2.2))))))))))))))))))) = true then
      some (q9sE x (q9set9 (q9tE x) k (2, (ci : Int), 0))) else none
  | _, _, _ => none
theorem q9ret1_oq : @q9ret1 = @q9ret1_o := by
  delta q9ret1 q9ret1_o
  simp only [q9ge9_eq, q9fi9_eq, q9an9_eq, q9al9_eq, q9flt9_eq, q9el9_eq, q9set9_eq, q9ln9_eq, q9gD9_eq, q9ap9_eq, q9eq9_N, q9eq9_I, q9eq9_A, q9eq9_E, q9eq9_OI, q9eq9_ON, q9eq9_OA, q9eq9_L, q9eq9_S, q9de9_N, q9de9_I, q9de9_A, q9le9_N, q9le9_I, q9lt9_N, q9lt9_I, q9de9_E, q9de9_OI, q9de9_ON, q9de9_OA, q9de9_L, q9nd9_eq, q9or9_eq, Bool.cond_decide]
theorem q9ret1_ok {nL : Nat} {g : List Value} {cT : Nat → ClassId} {B : q9TB} {A : Nat → Prop} {ci k : Nat} {x x' : q9ST} {r : Nat → Value} {G : q9GH} {ws : va_W} {ls : Array Slot} {st : List Value} {p0 q0 : Nat} (hM : q9SM O nL g x r G ws ls st) (hT : q9tyW cT B G ws) (hD : va_D A ws) (hp : G[p0]? = some (q0, 20 + ci, 0)) (hk : r k = .ref q0) (h : q9ret1 B ci k x = some x') :
    q9SM O nL g x' r (G.set p0 (q0, ci, 0)) ws ls st ∧ q9tyW cT B (G.set p0 (q0, ci, 0)) ws ∧ (q9tE x').length = (q9tE x).length ∧ q9tN x' = q9tN x ∧ q9tM x' = q9tM x ∧ q9tS x' = q9tS x := by
  (rewrite [q9ret1_oq] at h; unfold q9ret1_o at h)
  split at h
  · rename_i F F' t hF hF' hE
    split at h
    · rename_i hc
      obtain ⟨c1, c2, c3, c3', c4, c5, c6, c7⟩ := hc
      cases h
      have hlt : p0 < G.length := (List.getElem?_eq_some_iff.mp hp).1
      have at' : ∀ i : Nat, i ≠ p0 → (G.set p0 (q0, ci, 0))[i]? = G[i]? := fun i hi => List.getElem?_set_ne (fun z => hi z.symm)
      have atp : (G.set p0 (q0, ci, 0))[p0]? = some (q0, ci, 0) := List.getElem?_set_self hlt
      have h1 : ∀ (a t n : Nat), (a, t, n) ∈ G → t ≠ 20 + ci → (a, t, n) ∈ G.set p0 (q0, ci, 0) := by
        intro a t n hm ht
        obtain ⟨i, hi⟩ := List.getElem?_of_mem hm
        by_cases hip : i = p0
        · subst hip
          rw [hp] at hi
          cases hi
          exact absurd rfl ht
        · exact List.mem_of_getElem? (by rw [at' i hip]; exact hi)
      have h2 : ∀ (a t n : Nat), (a, t, n) ∈ G → ∃ t', (a, t', n) ∈ G.set p0 (q0, ci, 0) := by
        intro a t n hm
        obtain ⟨i, hi⟩ := List.getElem?_of_mem hm
        by_cases hip : i = p0
        · subst hip
          rw [hp] at hi
          cases hi
          exact ⟨ci, List.mem_of_getElem? atp⟩
        · exact ⟨t, List.mem_of_getElem? (by rw [at' i hip]; exact hi)⟩
      -- the object's cell
      obtain ⟨e0, w1, w2⟩ := hT.2.1 p0 q0 _ _ hp
      have q9fF : ∀ (k2 j : Nat) (v : q9AV), (k2, j, v) ∈ q9tF x → j ≠ 1000 → ∃ (a i cc : Nat) (fs : List Value), r k2 = .ref a ∧ ws[i]? = some (a, .inr (cc, fs)) ∧ fs[j]? = some (q9ev r v) := fun k2 j v hv hj => by
        have h9 := hM.2.2.2.2.1 _ hv
        unfold q9FMok at h9
        rw [if_neg hj] at h9
        exact h9
      have hTy : q9tyW cT B (G.set p0 (q0, ci, 0)) ws := by
        refine ⟨by rw [List.length_set]; exact hT.1, fun i a u n hi => ?_, fun i j a b n n' hi hj => ?_⟩
        · by_cases hip : i = p0
          · subst hip
            rw [atp] at hi
            cases hi
            refine ⟨e0, w1, ?_⟩
            rcases w2 with ⟨-, fs, F2, f1, f2, f3, f4, f5⟩ | ⟨hh, -⟩
            · rw [hF'] at f2
              cases f2
              have hmod : (20 + ci) % 20 = ci % 20 := by omega
              have hfk : ∀ (j : Nat) (v : q9AV), (k, j, v) ∈ q9tF x → j ≠ 1000 → fs[j]? = some (q9ev r v) := by
                intro j v hv hj
                obtain ⟨a', i', cc, fs', g1, g2, g3⟩ := q9fF k j v hv hj
                rw [hk] at g1
                cases g1
                have hii : i' = i := hD.1 i' i _ _ g2 w1 rfl
                subst hii
                rw [w1] at g2
                cases g2
                cases f1
                exact g3
              refine .inl ⟨by omega, fs, F, by rw [f1, hmod], hF, by rw [f3, c2], fun j f v hf hv => ?_, fun j j' hj => ?_⟩
              · obtain ⟨v9, v1, v2, v3, v4⟩ := q9fldB_ok c5 j f hf
                rw [Nat.zero_add] at v1 v2
                have h9 := hfk j v9 v1 v2
                rw [hv] at h9
                rw [Option.some.inj h9]
                have h8 := q9sub_ok hM.2.2.2.1 v3 v4
                refine q9tyV_re h1 ?_ (by omega) h8
                have hB := c4
                (rewrite [q9noC_oq] at hB; unfold q9noC_o at hB)
                rw [Bool.and_eq_true, List.all_eq_true] at hB
                have h7 := List.all_eq_true.mp (hB.1 F (List.mem_of_getElem? hF)) f (List.mem_of_getElem? hf)
                simpa using h7
              · have h9 := List.all_eq_true.mp c7 _ hj
                simp only [beq_self_eq_true, Bool.not_true, Bool.false_or, List.any_eq_true, Bool.and_eq_true, beq_iff_eq, decide_eq_true_eq] at h9
                obtain ⟨a, a1, a2, a3, b, b1, b2, b3, ⟨b4, b5, b6⟩, w, y1, y2, y3, y4⟩ := h9
                obtain ⟨a4, a5, a6⟩ := a
                obtain ⟨b7, b8, b9⟩ := b
                dsimp only at a2 a3 b2 b3 b6 y2 y4
                subst a2
                subst a3
                subst b2
                subst b3
                have ga := hfk _ _ a1 b4
                have gb := hfk _ _ b1 b5
                have gw := hM.2.2.2.2.1 w y1
                unfold q9FMok at gw
                rw [if_pos y3] at gw
                obtain ⟨aa, cd, nn, z, k1, k2, k3, k4⟩ := gw
                rw [y2] at k1
                rw [y4] at k3
                obtain ⟨t', m'⟩ := h2 aa cd nn k2
                exact ⟨z, aa, t', nn, by rw [ga, k3], by rw [gb, q9isSym b6, k1], m', k4⟩
            · omega
          · rw [at' i hip] at hi
            obtain ⟨e', v1, v2⟩ := hT.2.1 i a u n hi
            exact ⟨e', v1, q9tyE_re h1 h2 (by omega) c4 v2⟩
        · have hip : i ≠ p0 := by
            rintro rfl
            rw [atp] at hi
            cases hi
            exact c3' rfl
          have hjp : j ≠ p0 := by
            rintro rfl
            rw [atp] at hj
            cases hj
            exact c3' rfl
          rw [at' i hip] at hi
          rw [at' j hjp] at hj
          exact hT.2.2 i j a b n n' hi hj
      refine ⟨⟨hM.1, hM.2.1, hM.2.2.1, fun i u hi => ?_, fun z hz => ?_, fun z hz => ?_, hM.2.2.2.2.2.2⟩, hTy, by show ((q9tE x).set k _).length = _; rw [List.length_set], rfl, rfl, rfl⟩
      · have hi : ((q9tE x).set k (2, (ci : Int), 0))[i]? = some u := hi
        by_cases hik : i = k
        · subst hik
          rw [List.getElem?_set_self (List.getElem?_eq_some_iff.mp hE).1] at hi
          cases hi
          exact ⟨q0, 0, hk, List.mem_of_getElem? (by rw [Int.toNat_natCast]; exact atp)⟩
        · rw [List.getElem?_set_ne (fun z => hik z.symm)] at hi
          have h9 := List.all_eq_true.mp c6 (u, i) (by
            rw [List.mem_iff_getElem?]
            exact ⟨i, by rw [List.getElem?_zipIdx, hi]; simp⟩)
          simp only [Bool.or_eq_true, beq_iff_eq, Bool.not_eq_true'] at h9
          rcases h9 with h9 | h9
          · exact absurd h9 hik
          · exact q9tyV_re h1 h9 (by omega) (hM.2.2.2.1 i u hi)
      · have h9 := hM.2.2.2.2.1 z hz
        unfold q9FMok at h9 ⊢
        split
        · rename_i h0
          rw [if_pos h0] at h9
          obtain ⟨a, cd, n, u, e1, e2, e3, e4⟩ := h9
          obtain ⟨t', m'⟩ := h2 a cd n e2
          exact ⟨a, t', n, u, e1, m', e3, e4⟩
        · rename_i h0
          rw [if_neg h0] at h9
          exact h9
      · rcases hM.2.2.2.2.2.1 z hz with h9 | ⟨q9, a, n, fs, M, c9, b9, z9, n9, e1, e2, e3, e4⟩ | ⟨c9, d1, d2, d3⟩
        · exact .inl h9
        rotate_left
        · exact .inr (.inr ⟨c9, d1, d2, d3.re (N := 20 + ci) (by omega) fun i y hi hy => by
            rw [at' i (by
              rintro rfl
              rw [hp] at hi
              cases hi
              exact hy rfl)]
            exact hi⟩)
        · have keepAt : ∀ (i : Nat) (y : Nat × Nat × Nat), G[i]? = some y → y.2.1 ≠ 20 + ci → (G.set p0 (q0, ci, 0))[i]? = some y := by
            intro i y hi hy
            rw [at' i (by
              rintro rfl
              rw [hp] at hi
              cases hi
              exact hy rfl)]
            exact hi
          refine .inr (.inl ⟨q9, a, n, fs, M, c9, b9, z9, n9, keepAt _ _ e1 (by show 12 ≠ 20 + ci; omega), e2, fun y hy => ?_, e4⟩)
          obtain ⟨i, b, k9, n', cA, k1, k2, k3⟩ := e3 y hy
          exact ⟨i, b, k9, n', cA, k1, keepAt _ _ k2 (by
            have : 100 ≤ y.2 := (by decide : ∀ y ∈ q9jF, 100 ≤ y.2) y (q9jFc_in hy)
            show y.2 ≠ 20 + ci
            omega), k3⟩
    · cases h
  · cases h
