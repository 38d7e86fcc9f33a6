variable {O : ORC}
/-! the reference, when it is made: its raw object and three raw arrays get their codes; what else has those codes is dropped from the world -/
noncomputable def q9phC_o (t : Nat) : Nat := if t = 32 then 12 else if t = 252 then 195 else if t = 253 then 199 else if t = 254 then 247 else t
noncomputable def q9phC (t : Nat) : Nat := bif q9de9 (t) (32) then 12 else bif q9de9 (t) (252) then 195 else bif q9de9 (t) (253) then 199 else bif q9de9 (t) (254) then 247 else t
theorem q9phC_oq : @q9phC = @q9phC_o := by
  delta q9phC q9phC_o
  simp only [q9ge9_eq, q9fi9_eq, q9an9_eq, q9al9_eq, q9flt9_eq, q9el9_eq, q9set9_eq, q9ln9_eq, q9gD9_eq, q9ap9_eq, q9eq9_N, q9eq9_I, q9eq9_A, q9eq9_E, q9eq9_OI, q9eq9_ON, q9eq9_OA, q9eq9_L, q9eq9_S, q9de9_N, q9de9_I, q9de9_A, q9le9_N, q9le9_I, q9lt9_N, q9lt9_I, q9de9_E, q9de9_OI, q9de9_ON, q9de9_OA, q9de9_L, q9nd9_eq, q9or9_eq, Bool.cond_decide]
noncomputable def q9phT (t : q9ET) : q9ET := if t.1 = 2 ∨ t.1 = 3 then (t.1, ((q9phC t.2.1.toNat : Nat) : Int), t.2.2) else t
noncomputable def q9kpB_o (mm : Nat) (q : Nat × Nat × Nat) : Bool := decide (q.2.1 ≠ 12) && (decide (q.2.1 ≠ 32) || decide (q.1 = mm))
noncomputable def q9kpB (mm : Nat) (q : Nat × Nat × Nat) : Bool := q9nd9 (decide (q.2.1 ≠ 12)) ((q9or9 (decide (q.2.1 ≠ 32)) ((q9de9 (q.1) (mm)))))
theorem q9kpB_oq : @q9kpB = @q9kpB_o := by
  delta q9kpB q9kpB_o
  simp only [q9ge9_eq, q9fi9_eq, q9an9_eq, q9al9_eq, q9flt9_eq, q9el9_eq, q9set9_eq, q9ln9_eq, q9gD9_eq, q9ap9_eq, q9eq9_N, q9eq9_I, q9eq9_A, q9eq9_E, q9eq9_OI, q9eq9_ON, q9eq9_OA, q9eq9_L, q9eq9_S, q9de9_N, q9de9_I, q9de9_A, q9le9_N, q9le9_I, q9lt9_N, q9lt9_I, q9de9_E, q9de9_OI, q9de9_ON, q9de9_OA, q9de9_L, q9nd9_eq, q9or9_eq, Bool.cond_decide]
noncomputable def q9rwG (mm : Nat) : q9GH → q9GH
  | [] => []
  | q :: G => if q9kpB mm q = true then (q.1, q9phC q.2.1, q.2.2) :: q9rwG mm G else q9rwG mm G
noncomputable def q9rwW (mm : Nat) : q9GH → va_W → va_W
  | q :: G, w :: ws => if q9kpB mm q = true then w :: q9rwW mm G ws else q9rwW mm G ws
  | [], _ => []
  | _ :: _, [] => []
theorem q9rw_at {mm : Nat} : ∀ (G : q9GH) (ws : va_W), ws.length = G.length → ∀ (i : Nat) (q : Nat × Nat × Nat), (q9rwG mm G)[i]? = some q → ∃ (j : Nat) (q0 : Nat × Nat × Nat) (w : Nat × va_E), G[j]? = some q0 ∧ ws[j]? = some w ∧ (q9rwW mm G ws)[i]? = some w ∧ q9kpB mm q0 = true ∧ q = (q0.1, q9phC q0.2.1, q0.2.2)
  | [], _, _, i, q, h => by simp [q9rwG] at h
  | p :: G, [], hl, _, _, _ => by simp at hl
  | p :: G, w :: ws, hl, i, q, h => by
    have hl' : ws.length = G.length := by simpa using hl
    unfold q9rwG at h
    unfold q9rwW
    by_cases hk : q9kpB mm p = true
    · rw [if_pos hk] at h ⊢
      cases i with
      | zero =>
        have h : some (p.1, q9phC p.2.1, p.2.2) = some q := h
        cases h
        exact ⟨0, p, w, rfl, rfl, rfl, hk, rfl⟩
      | succ i =>
        obtain ⟨j, q0, w0, h1, h2, h3, h4, h5⟩ := q9rw_at G ws hl' i q h
        exact ⟨j + 1, q0, w0, h1, h2, h3, h4, h5⟩
    · rw [if_neg hk] at h ⊢
      obtain ⟨j, q0, w0, h1, h2, h3, h4, h5⟩ := q9rw_at G ws hl' i q h
      exact ⟨j + 1, q0, w0, h1, h2, h3, h4, h5⟩
theorem q9rw_in {mm : Nat} : ∀ (G : q9GH) (ws : va_W) (j : Nat) (q0 : Nat × Nat × Nat) (w : Nat × va_E), G[j]? = some q0 → ws[j]? = some w → q9kpB mm q0 = true → ∃ i : Nat, (q9rwG mm G)[i]? = some (q0.1, q9phC q0.2.1, q0.2.2) ∧ (q9rwW mm G ws)[i]? = some w
  | [], _, j, q0, w, h, _, _ => by simp at h
  | _ :: _, [], j, q0, w, _, h, _ => by simp at h
  | p :: G, u :: ws, j, q0, w, h1, h2, hk => by
    unfold q9rwG q9rwW
    cases j with
    | zero =>
      have h1 : some p = some q0 := h1
      have h2 : some u = some w := h2
      cases h1
      cases h2
      rw [if_pos hk, if_pos hk]
      exact ⟨0, rfl, rfl⟩
    | succ j =>
      obtain ⟨i, e1, e2⟩ := q9rw_in G ws j q0 w h1 h2 hk
      by_cases hp : q9kpB mm p = true
      · rw [if_pos hp, if_pos hp]
        exact ⟨i + 1, e1, e2⟩
      · rw [if_neg hp, if_neg hp]
        exact ⟨i, e1, e2⟩
theorem q9rw_len {mm : Nat} : ∀ (G : q9GH) (ws : va_W), ws.length = G.length → (q9rwW mm G ws).length = (q9rwG mm G).length
  | [], _, _ => rfl
  | _ :: _, [], hl => by simp at hl
  | p :: G, w :: ws, hl => by
    have hl' : ws.length = G.length := by simpa using hl
    unfold q9rwG q9rwW
    by_cases hp : q9kpB mm p = true
    · rw [if_pos hp, if_pos hp, List.length_cons, List.length_cons, q9rw_len G ws hl']
    · rw [if_neg hp, if_neg hp]
      exact q9rw_len G ws hl'
theorem q9rw_sub {mm : Nat} : ∀ (G : q9GH) (ws : va_W), (q9rwW mm G ws).Sublist ws
  | [], ws => List.nil_sublist ws
  | _ :: _, [] => List.nil_sublist []
  | p :: G, w :: ws => by
    unfold q9rwW
    by_cases hp : q9kpB mm p = true
    · rw [if_pos hp]
      exact (q9rw_sub G ws).cons₂ w
    · rw [if_neg hp]
      exact (q9rw_sub G ws).cons w
theorem q9D_sub {A : Nat → Prop} {ws ws' : va_W} (h : va_D A ws) (hs : ws'.Sublist ws) : va_D A ws' := by
  have hp : ws.Pairwise (fun p q => p.1 ≠ q.1) := by
    rw [List.pairwise_iff_getElem]
    intro i j hi hj hij e
    have := h.1 i j _ _ (List.getElem?_eq_getElem hi) (List.getElem?_eq_getElem hj) e
    omega
  have hp' := hp.sublist hs
  rw [List.pairwise_iff_getElem] at hp'
  refine ⟨fun i j p q hi hj e => ?_, fun k q hk => ?_⟩
  · obtain ⟨li, ei⟩ := List.getElem?_eq_some_iff.mp hi
    obtain ⟨lj, ej⟩ := List.getElem?_eq_some_iff.mp hj
    rcases Nat.lt_trichotomy i j with h9 | h9 | h9
    · exact absurd (by rw [ei, ej]; exact e) (hp' i j li lj h9)
    · exact h9
    · exact absurd (by rw [ei, ej]; exact e.symm) (hp' j i lj li h9)
  · obtain ⟨i, hi⟩ := List.getElem?_of_mem (hs.subset (List.mem_of_getElem? hk))
    exact h.2 i q hi
theorem q9P_sub {D : va_G} {ws ws' : va_W} {H : Heap} (h : va_P D vwCl ws H) (hs : ws'.Sublist ws) : va_P D vwCl ws' H := fun k q hk => by
  obtain ⟨i, hi⟩ := List.getElem?_of_mem (hs.subset (List.mem_of_getElem? hk))
  exact h i q hi
noncomputable def q9okC (c : Nat) : Bool := decide (c ≠ 12 ∧ c ≠ 32 ∧ c ≠ 252 ∧ c ≠ 253 ∧ c ≠ 254)
noncomputable def q9okT_o (t : q9ET) : Bool := !(t.1 == 2 || t.1 == 3) || q9okC t.2.1.toNat
noncomputable def q9okT (t : q9ET) : Bool := q9or9 (!(q9or9 (q9eq9 (t.1) (2)) (q9eq9 (t.1) (3)))) (q9okC t.2.1.toNat)
theorem q9okT_oq : @q9okT = @q9okT_o := by
  delta q9okT q9okT_o
  simp only [q9ge9_eq, q9fi9_eq, q9an9_eq, q9al9_eq, q9flt9_eq, q9el9_eq, q9set9_eq, q9ln9_eq, q9gD9_eq, q9ap9_eq, q9eq9_N, q9eq9_I, q9eq9_A, q9eq9_E, q9eq9_OI, q9eq9_ON, q9eq9_OA, q9eq9_L, q9eq9_S, q9de9_N, q9de9_I, q9de9_A, q9le9_N, q9le9_I, q9lt9_N, q9lt9_I, q9de9_E, q9de9_OI, q9de9_ON, q9de9_OA, q9de9_L, q9nd9_eq, q9or9_eq, Bool.cond_decide]
theorem q9kp_of {mm a c n : Nat} (h1 : c ≠ 12) (h2 : c ≠ 32 ∨ a = mm) : q9kpB mm (a, c, n) = true := by
  (rewrite [q9kpB_oq]; unfold q9kpB_o)
  rw [Bool.and_eq_true, Bool.or_eq_true, decide_eq_true_eq, decide_eq_true_eq, decide_eq_true_eq]
  exact ⟨h1, h2⟩
theorem q9okC_k {c : Nat} (h : q9okC c = true) : q9phC c = c ∧ ∀ mm a n : Nat, q9kpB mm (a, c, n) = true := by
  have h1 : c ≠ 12 ∧ c ≠ 32 ∧ c ≠ 252 ∧ c ≠ 253 ∧ c ≠ 254 := of_decide_eq_true h
  obtain ⟨a1, a2, a3, a4, a5⟩ := h1
  refine ⟨?_, fun mm a n => q9kp_of a1 (.inl a2)⟩
  (rewrite [q9phC_oq]; unfold q9phC_o)
  rw [if_neg a2, if_neg a3, if_neg a4, if_neg a5]
theorem q9tblF_ok : q9TBL.1.all (fun F => F.all q9okT) = true := by decide +kernel
theorem q9tblK_ok : q9TBL.2.1.all (fun k => q9okT k.2.2.2) = true := by decide +kernel
theorem q9tblR_ok : q9TBL.2.2.all (fun y => match q9TBL.1[y.1]? with
  | some F => (match F[y.2.2]? with
    | some f => f.1 == 2 && q9okC f.2.1.toNat
    | none => false)
  | none => false) = true := by decide +kernel
section q9RW
variable {mm : Nat} {cT : Nat → ClassId} {G : q9GH} {ws : va_W} {A : Nat → Prop}
theorem q9rw_mem (hT : q9tyW cT q9TBL G ws) {a c n : Nat} (h : (a, c, n) ∈ G) (hk : q9kpB mm (a, c, n) = true) : (a, q9phC c, n) ∈ q9rwG mm G := by
  obtain ⟨q, e, g1, w1, -⟩ := hT.at h
  obtain ⟨i, e1, -⟩ := q9rw_in G ws q _ _ g1 w1 hk
  exact List.mem_of_getElem? e1
theorem q9rw_mem0 (hT : q9tyW cT q9TBL G ws) {a c n : Nat} (h : (a, c, n) ∈ G) (hk : q9okC c = true) : (a, c, n) ∈ q9rwG mm G := by
  obtain ⟨h1, h2⟩ := q9okC_k hk
  have := q9rw_mem (mm := mm) hT h (h2 mm a n)
  rw [h1] at this
  exact this
theorem q9tv_ok (hT : q9tyW cT q9TBL G ws) {t : q9ET} {v : Value} (ho : q9okT t = true) (h : q9tyV G t v) : q9tyV (q9rwG mm G) t v := by
  obtain ⟨k, lo, hi⟩ := t
  match k, h, ho with
  | 0, h, _ => exact h
  | 1, h, _ => exact h
  | 2, ⟨a, n, e, hm⟩, ho =>
    have hc : q9okC lo.toNat = true := ho
    exact ⟨a, n, e, q9rw_mem0 hT hm hc⟩
  | 3, .inl e, _ => exact .inl e
  | 3, .inr ⟨a, n, e, hm⟩, ho =>
    have hc : q9okC lo.toNat = true := ho
    exact .inr ⟨a, n, e, q9rw_mem0 hT hm hc⟩
  | 4, h, _ => exact h
  | 5, h, _ => exact h
  | _ + 6, h, _ => exact h
theorem q9ta_ok (hT : q9tyW cT q9TBL G ws) {k : q9AK} {n : Nat} {e : va_E} (ho : q9okT k.2.2.2 = true) (h : q9tyA cT G k n e) : q9tyA cT (q9rwG mm G) k n e := by
  obtain ⟨k0, N, b, t⟩ := k
  obtain ⟨h1, h2, hv⟩ := h
  refine ⟨h1, h2, ?_⟩
  match k0, hv with
  | 0, ⟨f, e, m9⟩ => exact ⟨f, e, fun i hi => q9tv_ok hT ho (m9 i hi)⟩
  | 1, ⟨f, e, m9⟩ => exact ⟨f, e, fun i hi => q9tv_ok hT ho (m9 i hi)⟩
  | 2, ⟨f, e, m9⟩ => exact ⟨f, e, fun i hi => q9tv_ok hT ho (m9 i hi)⟩
  | 3, ⟨f, e, m9⟩ => exact ⟨f, e, fun i hi => q9tv_ok hT ho (m9 i hi)⟩
  | _ + 4, ⟨f, e, m9⟩ => exact ⟨f, e, fun i hi => q9tv_ok hT ho (m9 i hi)⟩
theorem q9te_ok (hT : q9tyW cT q9TBL G ws) (hD : va_D A ws) {t n : Nat} {e : va_E} (h : q9tyE cT q9TBL G t n e) : q9tyE cT q9TBL (q9rwG mm G) t n e := by
  rcases h with ⟨h1, fs, F, h2, h3, h4, h5, h6⟩ | ⟨h1, k, h2, h3⟩
  · refine .inl ⟨h1, fs, F, h2, h3, h4, fun j f v hf hv => q9tv_ok hT (List.all_eq_true.mp (List.all_eq_true.mp q9tblF_ok F (List.mem_of_getElem? h3)) f (List.mem_of_getElem? hf)) (h5 j f v hf hv), fun j j' hj => ?_⟩
    obtain ⟨x, a, cd, k, e1, e2, e3, e4⟩ := h6 j j' hj
    have hr := List.all_eq_true.mp q9tblR_ok _ hj
    dsimp only at hr
    rw [h3] at hr
    dsimp only at hr
    cases hf : F[j']? with
    | none => rw [hf] at hr; cases hr
    | some f =>
      rw [hf] at hr
      dsimp only at hr
      rw [Bool.and_eq_true, beq_iff_eq] at hr
      obtain ⟨f1, c, hi⟩ := f
      obtain ⟨hr1, hr2⟩ := hr
      have hr1 : f1 = 2 := hr1
      subst hr1
      obtain ⟨a', n', e5, e6⟩ := h5 j' _ _ hf e2
      cases e5
      have hcd := (hT.one hD e3 e6).1
      subst hcd
      exact ⟨x, a, _, k, e1, e2, q9rw_mem0 hT e3 hr2, e4⟩
  · exact .inr ⟨h1, k, h2, q9ta_ok hT (List.all_eq_true.mp q9tblK_ok k (List.mem_of_getElem? h2)) h3⟩
noncomputable def q9zc3 (t : Nat) : Prop := t = 252 ∨ t = 253 ∨ t = 254
theorem q9zk3 {t : Nat} (h : q9zc3 t) : 100 ≤ t ∧ q9TBL.2.1[t - 100]? = some (0, 12, true, (0, 0, 0)) ∧ 100 ≤ q9phC t ∧ q9TBL.2.1[q9phC t - 100]? = some (0, 12, true, (0, 0, 400)) := by
  rcases h with rfl | rfl | rfl
  · exact ⟨Nat.le_of_ble_eq_true rfl, rfl, Nat.le_of_ble_eq_true rfl, rfl⟩
  · exact ⟨Nat.le_of_ble_eq_true rfl, rfl, Nat.le_of_ble_eq_true rfl, rfl⟩
  · exact ⟨Nat.le_of_ble_eq_true rfl, rfl, Nat.le_of_ble_eq_true rfl, rfl⟩
theorem q9tz_at {t n : Nat} {e : va_E} (ht : q9zc3 t) (h : q9tyE cT q9TBL G t n e) : n = 12 ∧ ∃ f : Nat → Int32, e = .inl (cT 0, n, .inl f) ∧ ∀ i : Nat, i < n → (f i).toInt = 0 := by
  obtain ⟨z1, z2, -, -⟩ := q9zk3 ht
  rcases h with ⟨h1, -⟩ | ⟨h1, k, h2, h3⟩
  · omega
  · rw [z2] at h2
    cases h2
    obtain ⟨-, g2, f, g3, g4⟩ := h3
    refine ⟨g2 rfl, f, g3, fun i hi => ?_⟩
    obtain ⟨x, e1, e2, e3⟩ := g4 i hi
    cases e1
    have e2 : 0 ≤ (f i).toInt := e2
    have e3 : (f i).toInt ≤ 0 := e3
    omega
theorem q9te_z {t n : Nat} {e : va_E} (ht : q9zc3 t) (h : q9tyE cT q9TBL G t n e) : q9tyE cT q9TBL (q9rwG mm G) (q9phC t) n e := by
  obtain ⟨hn, f, he, hz⟩ := q9tz_at ht h
  obtain ⟨-, -, z3, z4⟩ := q9zk3 ht
  refine .inr ⟨z3, _, z4, by show n ≤ 12; omega, fun _ => hn, f, he, fun i hi => ⟨f i, rfl, ?_, ?_⟩⟩
  · show 0 ≤ (f i).toInt
    rw [hz i hi]
    decide
  · show (f i).toInt ≤ 400
    rw [hz i hi]
    decide
end q9RW
/-- the checks of the state: symbol k is the raw object -/
noncomputable def q9reF_o (x : q9ST) (k j : Nat) (f : q9ET) : Bool := match q9fF x k j with
  | some v => q9okAV (q9tE x) v && (match (q9tE x)[v.1]? with
    | some t => if t.1 = 2 then f.1 == 2 && (f.2.1 == ((q9phC t.2.1.toNat : Nat) : Int) && decide (t.2.1.toNat ≠ 12 ∧ t.2.1.toNat ≠ 32)) else decide (f.1 ≤ 1) && q9subB (q9tE x) v f
    | none => false)
  | none => f.1 == 1 && (match q9ft_32[j]? with
    | some u => u == f
    | none => false)
noncomputable def q9reF (x : q9ST) (k j : Nat) (f : q9ET) : Bool := match q9fF x k j with
  | some v => q9nd9 (q9okAV (q9tE x) v) ((match (q9ge9 (q9tE x) (v.1)) with
    | some t => bif q9de9 (t.1) (2) then q9nd9 (q9eq9 (f.1) (2)) ((q9nd9 (q9eq9 (f.2.1) (((q9phC t.2.1.toNat : Nat) : Int))) (decide (t.2.1.toNat ≠ 12 ∧ t.2.1.toNat ≠ 32)))) else q9nd9 ((q9le9 (f.1) (1))) (q9subB (q9tE x) v f)
    | none => false))
  | none => q9nd9 (q9eq9 (f.1) (1)) ((match (q9ge9 q9ft_32 (j)) with
    | some u => q9eq9 (u) (f)
    | none => false))
theorem q9reF_oq : @q9reF = @q9reF_o := by
  delta q9reF q9reF_o
  simp only [q9ge9_eq, q9fi9_eq, q9an9_eq, q9al9_eq, q9flt9_eq, q9el9_eq, q9set9_eq, q9ln9_eq, q9gD9_eq, q9ap9_eq, q9eq9_N, q9eq9_I, q9eq9_A, q9eq9_E, q9eq9_OI, q9eq9_ON, q9eq9_OA, q9eq9_L, q9eq9_S, q9de9_N, q9de9_I, q9de9_A, q9le9_N, q9le9_I, q9lt9_N, q9lt9_I, q9de9_E, q9de9_OI, q9de9_ON, q9de9_OA, q9de9_L, q9nd9_eq, q9or9_eq, Bool.cond_decide]
noncomputable def q9reA (x : q9ST) (k : Nat) : Nat → List q9ET → Bool
  | _, [] => true
  | j, f :: fs => q9reF x k j f && q9reA x k (j + 1) fs
theorem q9reA_at {x : q9ST} {k : Nat} : ∀ {F : List q9ET} {j0 : Nat}, q9reA x k j0 F = true → ∀ (j : Nat) (f : q9ET), F[j]? = some f → q9reF x k (j0 + j) f = true
  | [], j0, h, j, f, hf => by simp at hf
  | u :: F, j0, h, j, f, hf => by
    unfold q9reA at h
    rw [Bool.and_eq_true] at h
    cases j with
    | zero =>
      cases hf
      exact h.1
    | succ j =>
      have := q9reA_at h.2 j f hf
      rw [show j0 + (j + 1) = j0 + 1 + j by omega]
      exact this
noncomputable def q9reS_o (k : Nat) (t : q9ET) (i : Nat) : Bool := !(t.1 == 2 || t.1 == 3) || (decide (t.2.1.toNat ≠ 12) && (decide (t.2.1.toNat ≠ 32) || decide (i = k)))
noncomputable def q9reS (k : Nat) (t : q9ET) (i : Nat) : Bool := q9or9 (!(q9or9 (q9eq9 (t.1) (2)) (q9eq9 (t.1) (3)))) ((q9nd9 (decide (t.2.1.toNat ≠ 12)) ((q9or9 (decide (t.2.1.toNat ≠ 32)) ((q9de9 (i) (k)))))))
theorem q9reS_oq : @q9reS = @q9reS_o := by
  delta q9reS q9reS_o
  simp only [q9ge9_eq, q9fi9_eq, q9an9_eq, q9al9_eq, q9flt9_eq, q9el9_eq, q9set9_eq, q9ln9_eq, q9gD9_eq, q9ap9_eq, q9eq9_N, q9eq9_I, q9eq9_A, q9eq9_E, q9eq9_OI, q9eq9_ON, q9eq9_OA, q9eq9_L, q9eq9_S, q9de9_N, q9de9_I, q9de9_A, q9le9_N, q9le9_I, q9lt9_N, q9lt9_I, q9de9_E, q9de9_OI, q9de9_ON, q9de9_OA, q9de9_L, q9nd9_eq, q9or9_eq, Bool.cond_decide]
noncomputable def q9re3_o (x : q9ST) (k j t : Nat) : Bool := match q9fF x k j with
  | some v => decide ((q9tE x)[v.1]? = some (2, (t : Int), 0))
  | none => false
noncomputable def q9re3 (x : q9ST) (k j t : Nat) : Bool := match q9fF x k j with
  | some v => decide ((q9ge9 (q9tE x) (v.1)) = some (2, (t : Int), 0))
  | none => false
theorem q9re3_oq : @q9re3 = @q9re3_o := by
  delta q9re3 q9re3_o
  simp only [q9ge9_eq, q9fi9_eq, q9an9_eq, q9al9_eq, q9flt9_eq, q9el9_eq, q9set9_eq, q9ln9_eq, q9gD9_eq, q9ap9_eq, q9eq9_N, q9eq9_I, q9eq9_A, q9eq9_E, q9eq9_OI, q9eq9_ON, q9eq9_OA, q9eq9_L, q9eq9_S, q9de9_N, q9de9_I, q9de9_A, q9le9_N, q9le9_I, q9lt9_N, q9lt9_I, q9de9_E, q9de9_OI, q9de9_ON, q9de9_OA, q9de9_L, q9nd9_eq, q9or9_eq, Bool.cond_decide]
noncomputable def q9reQ_o (x : q9ST) (q : Nat × q9AV × q9AV) : Bool := match (q9tE x)[q.1]? with
  | some t => t.1 == 2 || (t == (0, -121, -121) || t == (0, -149, -149))
  | none => false
noncomputable def q9reQ (x : q9ST) (q : Nat × q9AV × q9AV) : Bool := match (q9ge9 (q9tE x) (q.1)) with
  | some t => q9or9 (q9eq9 (t.1) (2)) ((q9or9 (q9eq9 (t) ((0, -121, -121))) (q9eq9 (t) ((0, -149, -149)))))
  | none => false
theorem q9reQ_oq : @q9reQ = @q9reQ_o := by
  delta q9reQ q9reQ_o
  simp only [q9ge9_eq, q9fi9_eq, q9an9_eq, q9al9_eq, q9flt9_eq, q9el9_eq, q9set9_eq, q9ln9_eq, q9gD9_eq, q9ap9_eq, q9eq9_N, q9eq9_I, q9eq9_A, q9eq9_E, q9eq9_OI, q9eq9_ON, q9eq9_OA, q9eq9_L, q9eq9_S, q9de9_N, q9de9_I, q9de9_A, q9le9_N, q9le9_I, q9lt9_N, q9lt9_I, q9de9_E, q9de9_OI, q9de9_ON, q9de9_OA, q9de9_L, q9nd9_eq, q9or9_eq, Bool.cond_decide]
noncomputable def q9reX0 (x : q9ST) : q9ST := ((q9tE x).map q9phT, q9tL x, q9tS x, q9tG x, q9tF x, (q9tA x).filter (q9reQ x), q9tC x, q9tX x, q9tN x, q9tM x)
noncomputable def q9reX (x : q9ST) : q9ST := q9addS (q9reX0 x) [(0, -7, -7)] [] [((q9tE x).length, (0, 1000), (0, 12)), ((q9tE x).length, (0, 2000), (0, 12)), ((q9tE x).length, (0, 3000), (0, 12))] [] []
noncomputable def q9reI_o (x : q9ST) (k : Nat) : Bool := match q9fF x k 38 with
  | some v => q9okAV (q9tE x) v && q9isInt x v
  | none => false
noncomputable def q9reI (x : q9ST) (k : Nat) : Bool := match q9fF x k 38 with
  | some v => q9nd9 (q9okAV (q9tE x) v) (q9isInt x v)
  | none => false
theorem q9reI_oq : @q9reI = @q9reI_o := by
  delta q9reI q9reI_o
  simp only [q9ge9_eq, q9fi9_eq, q9an9_eq, q9al9_eq, q9flt9_eq, q9el9_eq, q9set9_eq, q9ln9_eq, q9gD9_eq, q9ap9_eq, q9eq9_N, q9eq9_I, q9eq9_A, q9eq9_E, q9eq9_OI, q9eq9_ON, q9eq9_OA, q9eq9_L, q9eq9_S, q9de9_N, q9de9_I, q9de9_A, q9le9_N, q9le9_I, q9lt9_N, q9lt9_I, q9de9_E, q9de9_OI, q9de9_ON, q9de9_OA, q9de9_L, q9nd9_eq, q9or9_eq, Bool.cond_decide]
noncomputable def q9reB_o (x : q9ST) (k : Nat) : Bool := q9wfB x && (q9wfB (q9reX0 x) && (q9zeroB x && (q9zeroB (q9reX0 x) && (decide ((q9tE x)[k]? = some (2, 32, 0)) && (q9reA x k 0 q9ft_12 && ((q9tE x).zipIdx.all (fun z => q9reS k z.1 z.2) && ((q9tF x).all (fun q => match (q9tE x)[q.1]? with
  | some t => t.1 == 2
  | none => false) && (q9re3 x k 44 252 && (q9re3 x k 48 253 && (q9re3 x k 108 254 && q9reI x k))))))))))
noncomputable def q9reB (x : q9ST) (k : Nat) : Bool := q9nd9 (q9wfB x) ((q9nd9 (q9wfB (q9reX0 x)) ((q9nd9 (q9zeroB x) ((q9nd9 (q9zeroB (q9reX0 x)) ((q9nd9 (decide ((q9ge9 (q9tE x) (k)) = some (2, 32, 0))) ((q9nd9 (q9reA x k 0 q9ft_12) ((q9nd9 (q9al9 (q9tE x).zipIdx (fun z => q9reS k z.1 z.2)) ((q9nd9 (q9al9 (q9tF x) (fun q => match (q9ge9 (q9tE x) (q.1)) with
  | some t => q9eq9 (t.1) (2)
  | none => false)) ((q9nd9 (q9re3 x k 44 252) ((q9nd9 (q9re3 x k 48 253) ((q9nd9 (q9re3 x k 108 254) (q9reI x k)))))))))))))))))))))
theorem q9reB_oq : @q9reB = @q9reB_o := by
  delta q9reB q9reB_o
  simp only [q9ge9_eq, q9fi9_eq, q9an9_eq, q9al9_eq, q9flt9_eq, q9el9_eq, q9set9_eq, q9ln9_eq, q9gD9_eq, q9ap9_eq, q9eq9_N, q9eq9_I, q9eq9_A, q9eq9_E, q9eq9_OI, q9eq9_ON, q9eq9_OA, q9eq9_L, q9eq9_S, q9de9_N, q9de9_I, q9de9_A, q9le9_N, q9le9_I, q9lt9_N, q9lt9_I, q9de9_E, q9de9_OI, q9de9_ON, q9de9_OA, q9de9_L, q9nd9_eq, q9or9_eq, Bool.cond_decide]
theorem q9phT_n {t : q9ET} (h : ¬ (t.1 = 2 ∨ t.1 = 3)) : q9phT t = t := if_neg h
/-- a symbol's value in the new world -/
theorem q9re_ty {mm k i : Nat} {cT : Nat → ClassId} {G : q9GH} {ws : va_W} (hT : q9tyW cT q9TBL G ws) {t : q9ET} {v : Value} (hs : q9reS k t i = true) (hm : i = k → v = .ref mm) (h : q9tyV G t v) : q9tyV (q9rwG mm G) (q9phT t) v := by
  obtain ⟨t1, lo, hi⟩ := t
  have key : ∀ a n : Nat, t1 = 2 ∨ t1 = 3 → v = .ref a → (a, lo.toNat, n) ∈ G → (a, (((q9phC lo.toNat : Nat) : Int)).toNat, n) ∈ q9rwG mm G := by
    intro a n h23 e he
    (rewrite [q9reS_oq] at hs; unfold q9reS_o at hs)
    rw [Bool.or_eq_true] at hs
    rcases hs with hs | hs
    · exfalso
      rcases h23 with rfl | rfl
      · cases hs
      · cases hs
    · rw [Bool.and_eq_true, Bool.or_eq_true, decide_eq_true_eq, decide_eq_true_eq, decide_eq_true_eq] at hs
      rw [Int.toNat_natCast]
      refine q9rw_mem hT he (q9kp_of hs.1 (hs.2.imp id fun hik => ?_))
      have := hm hik
      rw [e] at this
      cases this
      rfl
  match t1, h, key with
  | 0, h, _ => exact h
  | 1, h, _ => exact h
  | 2, ⟨a, n, e, he⟩, key => exact ⟨a, n, e, key a n (.inl rfl) e he⟩
  | 3, .inl e, _ => exact .inl e
  | 3, .inr ⟨a, n, e, he⟩, key => exact .inr ⟨a, n, e, key a n (.inr rfl) e he⟩
  | 4, h, _ => exact h
  | 5, h, _ => exact h
  | _ + 6, h, _ => exact h
theorem q9isym {x : q9ST} {k j : Nat} {v : q9AV} (h : q9fF x k j = some v) : (k, j, v) ∈ q9tF x := q9fF_ok h
theorem q9re_ok {nL : Nat} {g : List Value} {cT : Nat → ClassId} {A : Nat → Prop} {x : q9ST} {k : Nat} {r : Nat → Value} {G : q9GH} {ws : va_W} {ls : Array Slot} {st : List Value} (hc : q9reB x k = true) (hM : q9SM O nL g x r G ws ls st) (hT : q9tyW cT q9TBL G ws) (hD : va_D A ws) :
    ∃ (G' : q9GH) (ws' : va_W) (r' : Nat → Value), ws'.Sublist ws ∧ q9tyW cT q9TBL G' ws' ∧ q9agr (q9tE x).length r r' ∧ q9SM O nL g (q9reX x) r' G' ws' ls st := by
  (rewrite [q9reB_oq] at hc; unfold q9reB_o at hc)
  simp only [Bool.and_eq_true, decide_eq_true_eq] at hc
  obtain ⟨c1, c2, c3, c4, c5, c6, c7, q9c8, c9, c10, c11, c12⟩ := hc
  have hS := hM.2.2.2.1
  obtain ⟨mm, n0, hk, hm0⟩ := hS k _ c5
  have hm0 : (mm, 32, n0) ∈ G := hm0
  have hDs : va_D A (q9rwW mm G ws) := q9D_sub hD (q9rw_sub G ws)
  have c7' : ∀ (i : Nat) (t : q9ET), (q9tE x)[i]? = some t → q9reS k t i = true := fun i t hi => List.all_eq_true.mp c7 (t, i) (by
    rw [List.mem_iff_getElem?]
    exact ⟨i, by rw [List.getElem?_zipIdx, hi, Nat.zero_add]; rfl⟩)
  -- the cell of the raw object
  obtain ⟨qm, em, gm, wm, tm⟩ := hT.at hm0
  have hobj : ∃ fs : List Value, em = .inr (12, fs) ∧ fs.length = q9ft_32.length ∧ (∀ (j : Nat) (f : q9ET) (v : Value), q9ft_32[j]? = some f → fs[j]? = some v → q9tyV G f v) := by
    rcases tm with ⟨-, fs, F, h2, h3, h4, h5, -⟩ | ⟨h1, -⟩
    · have h3 : some q9ft_32 = some F := h3
      cases h3
      exact ⟨fs, h2, h4, h5⟩
    · omega
  obtain ⟨fsm, rfl, hlen, hraw⟩ := hobj
  have hfld : ∀ (j : Nat) (v : q9AV), q9fF x k j = some v → j ≠ 1000 → fsm[j]? = some (q9ev r v) := by
    intro j v hv hj
    have h8 := hM.2.2.2.2.1 _ (q9fF_ok hv)
    unfold q9FMok at h8
    rw [if_neg hj] at h8
    obtain ⟨a2, i2, ci, fs2, f1, f2, f3⟩ := h8
    rw [hk] at f1
    cases f1
    have hq : i2 = qm := hD.1 i2 qm _ _ f2 wm rfl
    subst hq
    rw [wm] at f2
    cases f2
    exact f3
  have hT' : q9tyW cT q9TBL (q9rwG mm G) (q9rwW mm G ws) := by
    refine ⟨q9rw_len G ws hT.1, fun i a t n hi => ?_, fun i j a b n n' hi hj => ?_⟩
    · obtain ⟨j, q0, w, e1, e2, e3, e4, e5⟩ := q9rw_at G ws hT.1 i _ hi
      obtain ⟨a0, t0, m0⟩ := q0
      cases e5
      obtain ⟨e, w1, w2⟩ := hT.2.1 j _ _ _ e1
      rw [e2] at w1
      cases w1
      refine ⟨e, e3, ?_⟩
      (rewrite [q9kpB_oq] at e4; unfold q9kpB_o at e4)
      rw [Bool.and_eq_true, Bool.or_eq_true, decide_eq_true_eq, decide_eq_true_eq, decide_eq_true_eq] at e4
      obtain ⟨k1, k2⟩ := e4
      have k1 : t0 ≠ 12 := k1
      have k2 : t0 ≠ 32 ∨ a0 = mm := k2
      by_cases h32 : t0 = 32
      · subst h32
        obtain rfl : a0 = mm := k2.resolve_left fun h => h rfl
        have hq : j = qm := hD.1 j qm _ _ e2 wm rfl
        subst hq
        rw [e2] at wm
        cases wm
        refine .inl ⟨by show (12 : Nat) < 100; decide, fsm, q9ft_12, rfl, rfl, by rw [hlen]; decide +kernel, fun y f v hf hv => ?_, fun y y' hy => ?_⟩
        · have h9 := q9reA_at c6 y f hf
          rw [Nat.zero_add] at h9
          (rewrite [q9reF_oq] at h9; unfold q9reF_o at h9)
          split at h9
          · rename_i u hu
            have hyl : y < 109 := by
              have h7 := (List.getElem?_eq_some_iff.mp hf).1
              have h6 : q9ft_12.length = 109 := by decide +kernel
              omega
            have hfy := hfld y u hu (by omega)
            rw [hfy] at hv
            cases hv
            rw [Bool.and_eq_true] at h9
            obtain ⟨h9, h10⟩ := h9
            split at h10
            · rename_i t ht
              split at h10
              · rename_i h2
                simp only [Bool.and_eq_true, beq_iff_eq, decide_eq_true_eq] at h10
                obtain ⟨d1, d2, d3, d4⟩ := h10
                obtain ⟨f1, flo, fhi⟩ := f
                have d1 : f1 = 2 := d1
                have d2 : flo = _ := d2
                subst d1
                subst d2
                obtain ⟨t1, tlo, thi⟩ := t
                have h2 : t1 = 2 := h2
                subst h2
                obtain ⟨b, nb, y1, y2⟩ := (q9ev_ref hS ht (by show (2 : Nat) ≠ 0; decide)).2
                refine ⟨b, nb, y1, ?_⟩
                show (b, (((q9phC tlo.toNat : Nat) : Int)).toNat, nb) ∈ _
                rw [Int.toNat_natCast]
                exact q9rw_mem hT y2 (q9kp_of d3 (.inl d4))
              · rw [Bool.and_eq_true, decide_eq_true_eq] at h10
                have h7 := q9sub_ok hS h9 h10.2
                obtain ⟨f1, flo, fhi⟩ := f
                have h11 : f1 ≤ 1 := h10.1
                match f1, h11, h7 with
                | 0, _, h7 => exact h7
                | 1, _, h7 => exact h7
            · cases h10
          · rw [Bool.and_eq_true, beq_iff_eq] at h9
            obtain ⟨h9, h10⟩ := h9
            split at h10
            · rename_i u hu
              rw [beq_iff_eq] at h10
              subst h10
              have h7 := hraw y _ _ hu hv
              obtain ⟨f1, flo, fhi⟩ := u
              have h9 : f1 = 1 := h9
              subst h9
              exact h7
            · cases h10
        · exfalso
          have hno : ∀ y9 ∈ q9TBL.2.2, y9.1 ≠ 12 := by decide +kernel
          exact hno _ hy rfl
      · by_cases h3 : q9zc3 t0
        · exact q9te_z h3 w2
        · have hcc : q9okC t0 = true := by
            unfold q9okC
            rw [decide_eq_true_eq]
            exact ⟨k1, h32, fun h => h3 (.inl h), fun h => h3 (.inr (.inl h)), fun h => h3 (.inr (.inr h))⟩
          show q9tyE cT q9TBL (q9rwG mm G) (q9phC t0) m0 e
          rw [(q9okC_k hcc).1]
          exact q9te_ok hT hD w2
    · have key : ∀ (i a n : Nat), (q9rwG mm G)[i]? = some (a, 12, n) → a = mm := by
        intro i a n hi
        obtain ⟨j, q0, w, e1, e2, e3, e4, e5⟩ := q9rw_at G ws hT.1 i _ hi
        obtain ⟨a0, t0, m0⟩ := q0
        (rewrite [q9kpB_oq] at e4; unfold q9kpB_o at e4)
        rw [Bool.and_eq_true, Bool.or_eq_true, decide_eq_true_eq, decide_eq_true_eq, decide_eq_true_eq] at e4
        obtain ⟨k1, k2⟩ := e4
        have k1 : t0 ≠ 12 := k1
        have k2 : t0 ≠ 32 ∨ a0 = mm := k2
        have e6 : a = a0 := congrArg (fun z => z.1) e5
        have e7 : 12 = q9phC t0 := congrArg (fun z => z.2.1) e5
        have h32 : t0 = 32 := by
          (rewrite [q9phC_oq] at e7; unfold q9phC_o at e7)
          split at e7
          · assumption
          · split at e7
            · cases e7
            · split at e7
              · cases e7
              · split at e7
                · cases e7
                · exact absurd e7.symm k1
        rw [e6]
        exact k2.resolve_left fun h => h h32
      rw [key i a n hi, key j b n' hj]
  have hS0 : q9SAT (q9rwG mm G) ((q9tE x).map q9phT) r := by
    intro i t hi
    rw [List.getElem?_map] at hi
    cases hE : (q9tE x)[i]? with
    | none => rw [hE] at hi; cases hi
    | some t0 =>
      rw [hE] at hi
      cases hi
      exact q9re_ty hT (c7' i t0 hE) (fun h => by rw [h]; exact hk) (hS i t0 hE)
  -- a cell that a symbol refers to is kept
  have hkeep : ∀ (i a : Nat) (t : q9ET), (q9tE x)[i]? = some t → t.1 = 2 → r i = .ref a → ∀ c n : Nat, (a, c, n) ∈ G → q9kpB mm (a, c, n) = true := by
    intro i a t hE h2 hr c n hm
    obtain ⟨t1, lo, hi⟩ := t
    have h2 : t1 = 2 := h2
    subst h2
    obtain ⟨b, nb, y1, y2⟩ := hS i _ hE
    rw [hr] at y1
    cases y1
    have hcd := (hT.one hD hm y2).1
    subst hcd
    have h9 := c7' i _ hE
    (rewrite [q9reS_oq] at h9; unfold q9reS_o at h9)
    rw [Bool.or_eq_true] at h9
    rcases h9 with h9 | h9
    · cases h9
    · rw [Bool.and_eq_true, Bool.or_eq_true, decide_eq_true_eq, decide_eq_true_eq, decide_eq_true_eq] at h9
      refine q9kp_of h9.1 (h9.2.imp id fun hik => ?_)
      rw [hik, hk] at hr
      cases hr
      rfl
  have hM0 : q9SM O nL g (q9reX0 x) r (q9rwG mm G) (q9rwW mm G ws) ls st := by
    refine ⟨hM.1, hM.2.1, hM.2.2.1, hS0, fun q hq => ?_, fun q hq => ?_, hM.2.2.2.2.2.2.1, hM.2.2.2.2.2.2.2⟩
    rotate_left
    · obtain ⟨q1, q2⟩ := List.mem_filter.mp (show q ∈ (q9tA x).filter (q9reQ x) from hq)
      (rewrite [q9reQ_oq] at q2; unfold q9reQ_o at q2)
      split at q2
      · rename_i t hE
        rcases Bool.or_eq_true _ _ ▸ q2 with q2 | q2
        · have h7 : t.1 = 2 := by simpa using q2
          rcases hM.2.2.2.2.2.1 q q1 with ⟨a, i, cA, n, f, w, e1, e2, e3, e4⟩ | hJ
          · obtain ⟨t9, n9, g9, -⟩ := hT.back e2
            obtain ⟨i', -, w'⟩ := q9rw_in G ws i _ _ g9 e2 (hkeep q.1 a t hE h7 e1 t9 n9 (List.mem_of_getElem? g9))
            exact .inl ⟨a, i', cA, n, f, w, e1, w', e3, e4⟩
          · exfalso
            obtain ⟨t1, lo, hi⟩ := t
            have h7 : t1 = 2 := h7
            subst h7
            obtain ⟨b, nb, y1, y2⟩ := hS _ _ hE
            rw [y1] at hJ
            exact q9JA_ref hJ
        · rcases Bool.or_eq_true _ _ ▸ q2 with q2 | q2
          · have h7 : t = (0, -121, -121) := by simpa using q2
            subst h7
            have hf : q9famE (q9tE x) q.1 = some (-121) := by
              (rewrite [q9famE_oq]; unfold q9famE_o)
              rw [hE]
              rfl
            have hN := q9fm_of hM q1 hf (by decide)
            rw [q9FMP_5 (by decide)] at hN
            obtain ⟨a, f, e1, ⟨j, k9, n9, cA, g1, g2⟩, e3⟩ : q9DIS G ws (q9ev r q.2.1) (q9ev r q.2.2) := hN
            obtain ⟨i', w1, w2⟩ := q9rw_in G ws j _ _ g1 g2 (q9kp_of (by decide) (.inl (by decide)))
            refine q9fm_mk (c := -121) (q9famE_ok hS hf (by decide)) (by decide) ?_
            rw [q9FMP_5 (by decide)]
            exact ⟨a, f, e1, ⟨i', k9, n9, cA, w1, w2⟩, e3⟩
          · have h7 : t = (0, -149, -149) := by simpa using q2
            subst h7
            have hf : q9famE (q9tE x) q.1 = some (-149) := by
              (rewrite [q9famE_oq]; unfold q9famE_o)
              rw [hE]
              rfl
            have hN := q9fm_of hM q1 hf (by decide)
            rw [q9FMP_af (by decide)] at hN
            obtain ⟨a, cd, n0, M, e1, e2, e3, ⟨j, k9, n9, cA, g1, g2⟩, e5⟩ := hN
            have e3' : cd = 201 := List.mem_singleton.mp e3
            subst e3'
            obtain ⟨i', w1, w2⟩ := q9rw_in G ws j _ _ g1 g2 (q9kp_of (by decide) (.inl (by decide)))
            refine q9fm_mk (c := -149) (q9famE_ok hS hf (by decide)) (by decide) ?_
            rw [q9FMP_af (by decide)]
            exact ⟨a, 201, n0, M, e1, e2, e3, ⟨i', k9, n9, cA, w1, w2⟩, e5⟩
      · cases q2
    have hq : q ∈ q9tF x := hq
    have h8 := hM.2.2.2.2.1 q hq
    have h7 := q9c8
    rw [List.all_eq_true] at h7
    have h7 := h7 q hq
    cases hE : (q9tE x)[q.1]? with
    | none => rw [hE] at h7; cases h7
    | some t =>
      rw [hE] at h7
      have h7 : t.1 = 2 := by simpa using h7
      unfold q9FMok at h8 ⊢
      split at h8
      · rename_i h0
        rw [if_pos h0]
        obtain ⟨a, cd, n, z, e1, e2, e3, e4⟩ := h8
        exact ⟨a, q9phC cd, n, z, e1, q9rw_mem hT e2 (hkeep q.1 a t hE h7 e1 cd n e2), e3, e4⟩
      · rename_i h0
        rw [if_neg h0]
        obtain ⟨a, i, ci, fs, e1, e2, e3⟩ := h8
        obtain ⟨t9, n9, g9, -⟩ := hT.back e2
        obtain ⟨i', -, w'⟩ := q9rw_in G ws i _ _ g9 e2 (hkeep q.1 a t hE h7 e1 t9 n9 (List.mem_of_getElem? g9))
        exact ⟨a, i', ci, fs, e1, w', e3⟩
  -- what is shot: nothing yet
  have hE12 : (q9tE (q9reX0 x))[k]? = some (2, 12, 0) := by
    show ((q9tE x).map q9phT)[k]? = _
    rw [List.getElem?_map, c5]
    rfl
  obtain ⟨q, a, n, fs, M, k0, k1, k2, k3⟩ := q9ja_obj hM0 hT' hE12
  rw [hk] at k0
  cases k0
  have k3 : ∀ y ∈ q9jF2, _ := fun y hy => k3 y (List.mem_append_right _ hy)
  have hzero : ∀ j t tn : Nat, q9zc3 t → (j, tn) ∈ q9jF2 → j ≠ 1000 → q9re3 x k j t = true → ∀ i : Nat, i < 12 → (M j i).toInt = 0 := by
    intro j t tn ht hj h1000 h3 i hi
    (rewrite [q9re3_oq] at h3; unfold q9re3_o at h3)
    split at h3
    · rename_i v hv
      rw [decide_eq_true_eq] at h3
      have hf := hfld j v hv h1000
      obtain ⟨b, nb, y1, y2⟩ := (q9ev_ref hS h3 (by show (2 : Nat) ≠ 0; decide)).2
      have y2 : (b, t, nb) ∈ G := y2
      obtain ⟨qz, ez, gz, wz, tz⟩ := hT.at y2
      obtain ⟨hn, f, he, hz⟩ := q9tz_at ht tz
      obtain ⟨i9, b9, kk9, n9, cA9, s1, s2, s3⟩ := k3 _ hj
      -- the same object
      obtain ⟨p9, hp9⟩ := List.getElem?_of_mem ((q9rw_sub G ws).subset (List.mem_of_getElem? k2))
      have hpq : p9 = qm := hD.1 p9 qm _ _ hp9 wm rfl
      subst hpq
      rw [wm] at hp9
      cases hp9
      have s1 : fsm[j]? = some (.ref b9) := s1
      rw [hf, y1] at s1
      cases s1
      obtain ⟨o9, ho9⟩ := List.getElem?_of_mem ((q9rw_sub G ws).subset (List.mem_of_getElem? s3))
      have hoz : o9 = qz := hD.1 o9 qz _ _ ho9 wz rfl
      subst hoz
      rw [wz] at ho9
      rw [he] at ho9
      cases ho9
      exact hz i (by omega)
    · cases h3
  have z44 := hzero 44 252 195 (.inl rfl) (by decide) (by decide) c9
  have z48 := hzero 48 253 199 (.inr (.inl rfl)) (by decide) (by decide) c10
  have z108 := hzero 108 254 247 (.inr (.inr rfl)) (by decide) (by decide) c11
  have hPRA : ∀ (u b : Int), q9PRA M u b 12 := by
    intro u b i hi _
    have hi : i < 12 := by omega
    split
    · exact fun _ => z44 i hi
    · split
      · rw [z48 i hi, z44 i hi]
        exact Int.le_refl _
      · rw [z108 i hi, z44 i hi]
        exact Int.le_refl _
  (rewrite [q9reI_oq] at c12; unfold q9reI_o at c12)
  split at c12
  · rename_i v38 hv38
    rw [Bool.and_eq_true] at c12
    have hsf := q9shF (v := v38) hM0 hT' hDs hE12 k1 k2 hv38
    obtain ⟨u, hu⟩ := q9isInt_ok hS c12.1 c12.2
    rw [hu] at hsf
    have h0 := q9zero_at c4
    have q9cst : ∀ z9 : Int, q9ev (q9upL r (q9tE (q9reX0 x)).length [.int (-7)]) (0, z9) = .int (Int32.ofInt z9) := fun z9 => by
      rw [q9ev_agree (a := (0, z9)) (q9upL_lt (q9lt_of_E h0))]
      exact q9zero_ev hS0 h0 z9
    have hl0 : (q9tE (q9reX0 x)).length = (q9tE x).length := List.length_map ..
    have h7 : q9nV (q9upL r (q9tE (q9reX0 x)).length [.int (-7)] (q9tE x).length) = some (-7) := by
      rw [← hl0, q9rU0]
      rfl
    obtain ⟨x', x1, r', x2, x3, x4, x5, x6⟩ := q9rf_add (xs := [q9reX x]) hM0 c2 (ts := [(0, -7, -7)]) (F' := []) (A' := [((q9tE x).length, (0, 1000), (0, 12)), ((q9tE x).length, (0, 2000), (0, 12)), ((q9tE x).length, (0, 3000), (0, 12))]) (C' := []) (X' := []) [.int (-7)] List.mem_cons_self (q9ty_cons ⟨_, rfl, by decide, by decide⟩ q9ty_nil) q9no_mem
      (q9cons_mem (q9pr_mk (b := Int32.ofInt 1000) (w := Int32.ofInt 12) (u := u) k1 k2 k3 hsf h7 (q9cst 1000) (q9cst 12) (hPRA _ _)) (q9cons_mem (q9pr_mk (b := Int32.ofInt 2000) (w := Int32.ofInt 12) (u := u) k1 k2 k3 hsf h7 (q9cst 2000) (q9cst 12) (hPRA _ _)) (q9one_mem (q9pr_mk (b := Int32.ofInt 3000) (w := Int32.ofInt 12) (u := u) k1 k2 k3 hsf h7 (q9cst 3000) (q9cst 12) (hPRA _ _))))) q9no_mem q9no_mem
    rw [List.mem_singleton] at x1
    subst x1
    exact ⟨_, _, r', q9rw_sub G ws, hT', by rw [← hl0]; exact x2, x6⟩
  · cases c12
section RG
variable {p : Program} {l : Launch} {e : Env} {R : Room} {ko : Nat × Nat} {s : State} {m : MethodId} {args : Array Value} {below : List Frame} {meth : Method} {c : Code} {Q : State → Prop}
theorem q9re_go {nL : Nat} {g : List Value} {D : va_G} {cT : Nat → ClassId} {A : Nat → Prop} {H0 : Heap} {Wr : List Nat} {x : q9ST} {k pc : Nat} {r : Nat → Value} (hc : q9reB x k = true) (hn : ∀ r' : Nat → Value, q9agr (q9tE x).length r r' → q9GO O p l e R ko s m args below meth c Q nL g (q9WM D cT q9TBL A H0 [] [] Wr) pc (q9reX x) r') : q9GO O p l e R ko s m args below meth c Q nL g (q9WM D cT q9TBL A H0 [] [] Wr) pc x r := by
  intro G ws H locs ls st hM hW
  obtain ⟨hP, hD, hS, hT, hX, hK⟩ := hW
  obtain ⟨G', ws', r', h1, h2, h3, h4⟩ := q9re_ok hc hM hT hD
  exact hn r' h3 G' ws' H locs ls st h4 ⟨q9P_sub hP h1, q9D_sub hD h1, hS, h2, ⟨G', rfl⟩, fun q a t n e9 hg => by simp at hg⟩
end RG
