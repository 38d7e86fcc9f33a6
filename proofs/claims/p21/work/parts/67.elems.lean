variable {O : ORC}
/-! elements of arrays -/
noncomputable def q9upE (e : va_E) (i : Nat) (v : Value) : va_E := match e, v with
  | .inl (cA, n, .inl f), .int x => .inl (cA, n, .inl (upd f i x))
  | .inl (cA, n, .inr (.inl f)), .long x => .inl (cA, n, .inr (.inl (vp_updL f i x)))
  | .inl (cA, n, .inr (.inr (.inr (.inr f)))), .ref a => .inl (cA, n, .inr (.inr (.inr (.inr (va_up f i (some a))))))
  | e, _ => e
theorem q9el_ty {cT : Nat → ClassId} {G : q9GH} {k : q9AK} {n : Nat} {e : va_E} (h : q9tyA cT G k n e) {i : Nat} (hi : i < n) : q9tyV G k.2.2.2 (q9elV e i) := by
  obtain ⟨t, N, b, et⟩ := k
  obtain ⟨-, -, h⟩ := h
  match t, h with
  | 0, ⟨f, e1, e2⟩ => subst e1; exact e2 i hi
  | 1, ⟨f, e1, e2⟩ => subst e1; exact e2 i hi
  | 2, ⟨f, e1, e2⟩ => subst e1; exact e2 i hi
  | 3, ⟨f, e1, e2⟩ => subst e1; exact e2 i hi
  | _ + 4, ⟨f, e1, e2⟩ => subst e1; exact e2 i hi
/-- kinds whose elements are ints for the machine -/
noncomputable def q9intK_o (k : q9AK) : Bool := k.1 == 0 || (k.1 == 1 || k.1 == 3)
noncomputable def q9intK (k : q9AK) : Bool := q9or9 (q9eq9 (k.1) (0)) ((q9or9 (q9eq9 (k.1) (1)) (q9eq9 (k.1) (3))))
theorem q9intK_oq : @q9intK = @q9intK_o := by
  delta q9intK q9intK_o
  simp only [q9ge9_eq, q9fi9_eq, q9an9_eq, q9al9_eq, q9flt9_eq, q9el9_eq, q9set9_eq, q9ln9_eq, q9gD9_eq, q9ap9_eq, q9eq9_N, q9eq9_I, q9eq9_A, q9eq9_E, q9eq9_OI, q9eq9_ON, q9eq9_OA, q9eq9_L, q9eq9_S, q9de9_N, q9de9_I, q9de9_A, q9le9_N, q9le9_I, q9lt9_N, q9lt9_I, q9de9_E, q9de9_OI, q9de9_ON, q9de9_OA, q9de9_L, q9nd9_eq, q9or9_eq, Bool.cond_decide]
theorem q9intK_ok {cT : Nat → ClassId} {G : q9GH} {k : q9AK} {n : Nat} {e : va_E} (h : q9tyA cT G k n e) (hk : q9intK k = true) : ∃ f : Nat → Int32, e = .inl (cT k.1, n, .inl f) := by
  obtain ⟨t, N, b, et⟩ := k
  obtain ⟨-, -, h⟩ := h
  (rewrite [q9intK_oq] at hk; unfold q9intK_o at hk)
  simp only [Bool.or_eq_true, beq_iff_eq] at hk
  rcases hk with rfl | rfl | rfl
  · obtain ⟨f, e1, -⟩ := h; exact ⟨f, e1⟩
  · obtain ⟨f, e1, -⟩ := h; exact ⟨f, e1⟩
  · obtain ⟨f, e1, -⟩ := h; exact ⟨f, e1⟩
noncomputable def q9numK_o (k : q9AK) : Bool := q9intK k || k.1 == 2
noncomputable def q9numK (k : q9AK) : Bool := q9or9 (q9intK k) (q9eq9 (k.1) (2))
theorem q9numK_oq : @q9numK = @q9numK_o := by
  delta q9numK q9numK_o
  simp only [q9ge9_eq, q9fi9_eq, q9an9_eq, q9al9_eq, q9flt9_eq, q9el9_eq, q9set9_eq, q9ln9_eq, q9gD9_eq, q9ap9_eq, q9eq9_N, q9eq9_I, q9eq9_A, q9eq9_E, q9eq9_OI, q9eq9_ON, q9eq9_OA, q9eq9_L, q9eq9_S, q9de9_N, q9de9_I, q9de9_A, q9le9_N, q9le9_I, q9lt9_N, q9lt9_I, q9de9_E, q9de9_OI, q9de9_ON, q9de9_OA, q9de9_L, q9nd9_eq, q9or9_eq, Bool.cond_decide]
theorem q9numK_ok {cT : Nat → ClassId} {G : q9GH} {k : q9AK} {n : Nat} {e : va_E} (h : q9tyA cT G k n e) (hk : q9numK k = true) : ∃ f, e = .inl (cT k.1, n, f) := by
  (rewrite [q9numK_oq] at hk; unfold q9numK_o at hk)
  rcases Bool.or_eq_true _ _ ▸ hk with hk | hk
  · obtain ⟨f, e1⟩ := q9intK_ok h hk
    exact ⟨_, e1⟩
  · obtain ⟨t, N, b, et⟩ := k
    obtain ⟨-, -, h⟩ := h
    have hk : t = 2 := by simpa using hk
    subst hk
    obtain ⟨f, e1, -⟩ := h
    exact ⟨_, e1⟩
theorem q9upE_at {cT : Nat → ClassId} {G : q9GH} {k : q9AK} {n : Nat} {e : va_E} (h : q9tyA cT G k n e) (hk : q9numK k = true) {v : Value} {j : Nat} (hi : q9intK k = true → ∃ u : Int32, v = .int u) (hl : k.1 = 2 → ∃ u : Int64, v = .long u) : ∃ f, q9upE e j v = .inl (cT k.1, n, f) ∧ v = q9elV (.inl (cT k.1, n, f)) j := by
  (rewrite [q9numK_oq] at hk; unfold q9numK_o at hk)
  rcases Bool.or_eq_true _ _ ▸ hk with hk | hk
  · obtain ⟨f, e1⟩ := q9intK_ok h hk
    obtain ⟨u, rfl⟩ := hi hk
    subst e1
    exact ⟨.inl (upd f j u), rfl, by simp [q9elV, upd]⟩
  · obtain ⟨t, N, b, et⟩ := k
    obtain ⟨-, -, h⟩ := h
    have hk : t = 2 := by simpa using hk
    subst hk
    obtain ⟨f, e1, -⟩ := h
    obtain ⟨u, rfl⟩ := hl rfl
    subst e1
    exact ⟨.inr (.inl (vp_updL f j u)), rfl, by simp [q9elV, vp_updL]⟩
theorem q9upE_ne {cA : ClassId} {n j w : Nat} {f : (Nat → Int32) ⊕ (Nat → Int64) ⊕ (Nat → UInt32) ⊕ (Nat → UInt64) ⊕ (Nat → Option Nat)} {v : Value} (h : w ≠ j) : ∃ f', q9upE (.inl (cA, n, f)) j v = .inl (cA, n, f') ∧ q9elV (.inl (cA, n, f)) w = q9elV (.inl (cA, n, f')) w := by
  match f, v with
  | .inl f, .int x => exact ⟨_, rfl, by simp [q9elV, upd, h]⟩
  | .inr (.inl f), .long x => exact ⟨_, rfl, by simp [q9elV, vp_updL, h]⟩
  | .inr (.inr (.inr (.inr f))), .ref x => exact ⟨_, rfl, by simp [q9elV, va_up, h]⟩
  | .inl f, .long _ => exact ⟨_, rfl, rfl⟩
  | .inl f, .float _ => exact ⟨_, rfl, rfl⟩
  | .inl f, .double _ => exact ⟨_, rfl, rfl⟩
  | .inl f, .ref _ => exact ⟨_, rfl, rfl⟩
  | .inl f, .null => exact ⟨_, rfl, rfl⟩
  | .inl f, .retAddr _ => exact ⟨_, rfl, rfl⟩
  | .inr (.inl f), .int _ => exact ⟨_, rfl, rfl⟩
  | .inr (.inl f), .float _ => exact ⟨_, rfl, rfl⟩
  | .inr (.inl f), .double _ => exact ⟨_, rfl, rfl⟩
  | .inr (.inl f), .ref _ => exact ⟨_, rfl, rfl⟩
  | .inr (.inl f), .null => exact ⟨_, rfl, rfl⟩
  | .inr (.inl f), .retAddr _ => exact ⟨_, rfl, rfl⟩
  | .inr (.inr (.inl f)), _ => exact ⟨_, rfl, rfl⟩
  | .inr (.inr (.inr (.inl f))), _ => exact ⟨_, rfl, rfl⟩
  | .inr (.inr (.inr (.inr f))), .int _ => exact ⟨_, rfl, rfl⟩
  | .inr (.inr (.inr (.inr f))), .float _ => exact ⟨_, rfl, rfl⟩
  | .inr (.inr (.inr (.inr f))), .double _ => exact ⟨_, rfl, rfl⟩
  | .inr (.inr (.inr (.inr f))), .long _ => exact ⟨_, rfl, rfl⟩
  | .inr (.inr (.inr (.inr f))), .null => exact ⟨_, rfl, rfl⟩
  | .inr (.inr (.inr (.inr f))), .retAddr _ => exact ⟨_, rfl, rfl⟩
noncomputable def q9inB_o (x : q9ST) (a : Nat) (i : q9AV) (k : q9AK) : Bool := match q9num (q9tE x) i with
  | some (0, lo, hi) => decide (0 ≤ lo) && (if k.2.2.1 then decide (hi < (k.2.1 : Int)) else (match (q9tF x).find? (fun q => q.1 == a && q.2.1 == 1000) with
    | some q => q9leB x i q.2.2 (-1)
    | none => false))
  | _ => false
noncomputable def q9inB (x : q9ST) (a : Nat) (i : q9AV) (k : q9AK) : Bool := match q9num (q9tE x) i with
  | some (0, lo, hi) => q9nd9 ((q9le9 (0) (lo))) ((if k.2.2.1 then (q9lt9 (hi) ((k.2.1 : Int))) else (match q9fi9 (q9tF x) (fun q => q9nd9 (q9eq9 (q.1) (a)) (q9eq9 (q.2.1) (1000))) with
    | some q => q9leB x i q.2.2 (-1)
    | none => false)))
  | _ => false
theorem q9inB_oq : @q9inB = @q9inB_o := by
  delta q9inB q9inB_o
  simp only [q9ge9_eq, q9fi9_eq, q9an9_eq, q9al9_eq, q9flt9_eq, q9el9_eq, q9set9_eq, q9ln9_eq, q9gD9_eq, q9ap9_eq, q9eq9_N, q9eq9_I, q9eq9_A, q9eq9_E, q9eq9_OI, q9eq9_ON, q9eq9_OA, q9eq9_L, q9eq9_S, q9de9_N, q9de9_I, q9de9_A, q9le9_N, q9le9_I, q9lt9_N, q9lt9_I, q9de9_E, q9de9_OI, q9de9_ON, q9de9_OA, q9de9_L, q9nd9_eq, q9or9_eq, Bool.cond_decide]
theorem q9inB_ok {nL : Nat} {g : List Value} {cT : Nat → ClassId} {B : q9TB} {A : Nat → Prop} {x : q9ST} {r : Nat → Value} {G : q9GH} {ws : va_W} {ls : Array Slot} {st : List Value} (hw : q9wfB x = true) (hM : q9SM O nL g x r G ws ls st) (hT : q9tyW cT B G ws) (hD : va_D A ws) {k : Nat} {i : q9AV} {K : q9AK} {b n cd : Nat} {e : va_E} (hi : q9okAV (q9tE x) i = true) (hk : r k = .ref b) (hm : (b, cd, n) ∈ G) (hA : q9tyA cT G K n e) (h : q9inB x k i K = true) : ∃ y : Int32, q9ev r i = .int y ∧ vp_in y n ∧ y.toNatClampNeg < n := by
  (rewrite [q9inB_oq] at h; unfold q9inB_o at h)
  split at h
  · rename_i lo hi' hn
    obtain ⟨y, e1, e2, e3, e4⟩ := q9num_int hM.2.2.2.1 hi hn
    rw [Bool.and_eq_true, decide_eq_true_eq] at h
    have key : y.toInt < n := by
      split at h
      · rename_i hf
        have := hA.2.1 hf
        have h2 := h.2
        rw [decide_eq_true_eq] at h2
        omega
      · split at h
        · rename_i q hq
          have q1 := List.find?_some hq
          have q2 := List.mem_of_find?_eq_some hq
          simp only [Bool.and_eq_true, beq_iff_eq] at q1
          have h9 := hM.2.2.2.2.1 q q2
          unfold q9FMok at h9
          rw [if_pos q1.2, q1.1, hk] at h9
          obtain ⟨a', cd', n', z, f1, f2, f3, f4⟩ := h9
          cases f1
          have hnn := (hT.one hD f2 hm).2
          subst hnn
          have hle := q9leB_ok hM hi (q9wf_F hw q q2).2 h.2
          rw [e1, f3] at hle
          have hle : y.toInt ≤ z.toInt + -1 := hle
          omega
        · exact absurd h.2 (by decide)
    have hc : y.toNatClampNeg = y.toInt.toNat := rfl
    refine ⟨y, e1, ?_, by omega⟩
    rintro (hh | hh)
    · rw [Int32.lt_iff_toInt_lt, Int32.toInt_zero] at hh
      omega
    · omega
  · cases h
section EL
variable {p : Program} {l : Launch} {e : Env} {R : Room} {ko : Nat × Nat} {s : State} {m : MethodId} {args : Array Value} {below : List Frame} {meth : Method} {c : Code} {Q : State → Prop} {cc : ByteArray}
variable {nL : Nat} {g : List Value} {D : va_G} {cT : Nat → ClassId} {B : q9TB} {A : Nat → Prop} {H0 : Heap} {G0 : q9GH} {ws0 : va_W} {Wr : List Nat}
noncomputable def q9kindOf_o (B : q9TB) (x : q9ST) (a : Nat) : Option (Nat × q9AK) := match q9codeOf x a with
  | some cd => if 100 ≤ cd then (match B.2.1[cd - 100]? with
    | some k => some (cd, k)
    | none => none) else none
  | none => none
noncomputable def q9kindOf (B : q9TB) (x : q9ST) (a : Nat) : Option (Nat × q9AK) := match q9codeOf x a with
  | some cd => bif q9le9 (100) (cd) then (match (q9ge9 B.2.1 (cd - 100)) with
    | some k => some (cd, k)
    | none => none) else none
  | none => none
theorem q9kindOf_oq : @q9kindOf = @q9kindOf_o := by
  delta q9kindOf q9kindOf_o
  simp only [q9ge9_eq, q9fi9_eq, q9an9_eq, q9al9_eq, q9flt9_eq, q9el9_eq, q9set9_eq, q9ln9_eq, q9gD9_eq, q9ap9_eq, q9eq9_N, q9eq9_I, q9eq9_A, q9eq9_E, q9eq9_OI, q9eq9_ON, q9eq9_OA, q9eq9_L, q9eq9_S, q9de9_N, q9de9_I, q9de9_A, q9le9_N, q9le9_I, q9lt9_N, q9lt9_I, q9de9_E, q9de9_OI, q9de9_ON, q9de9_OA, q9de9_L, q9nd9_eq, q9or9_eq, Bool.cond_decide]
theorem q9kindOf_ok {x : q9ST} {r : Nat → Value} {G : q9GH} {ws : va_W} (hS : q9SAT G (q9tE x) r) (hT : q9tyW cT B G ws) {a cd : Nat} {k : q9AK} (h : q9kindOf B x a = some (cd, k)) : ∃ (b n i : Nat) (e : va_E), r a = .ref b ∧ (b, cd, n) ∈ G ∧ G[i]? = some (b, cd, n) ∧ ws[i]? = some (b, e) ∧ q9tyA cT G k n e ∧ B.2.1[cd - 100]? = some k ∧ 100 ≤ cd := by
  (rewrite [q9kindOf_oq] at h; unfold q9kindOf_o at h)
  split at h
  · rename_i cd' hcd
    split at h
    · rename_i h100
      split at h
      · rename_i k' hk
        cases h
        obtain ⟨b, n, e1, e2⟩ := q9codeOf_ok hS hcd
        obtain ⟨i, e, g1, g2, g3⟩ := hT.at e2
        rcases g3 with ⟨hh, -⟩ | ⟨-, k2, f1, f2⟩
        · omega
        · rw [hk] at f1
          cases f1
          exact ⟨b, n, i, e, e1, e2, g1, g2, f2, hk, h100⟩
      · cases h
    · cases h
  · cases h
/-- the same place, by what is known -/
noncomputable def q9eqB_o (x : q9ST) (a b : q9AV) : Bool := a == b || (q9okAV (q9tE x) a && (q9isInt x a && (q9leB x a b 0 && q9leB x b a 0)))
noncomputable def q9eqB (x : q9ST) (a b : q9AV) : Bool := q9or9 (q9eq9 (a) (b)) ((q9nd9 (q9okAV (q9tE x) a) ((q9nd9 (q9isInt x a) ((q9nd9 (q9leB x a b 0) (q9leB x b a 0)))))))
theorem q9eqB_oq : @q9eqB = @q9eqB_o := by
  delta q9eqB q9eqB_o
  simp only [q9ge9_eq, q9fi9_eq, q9an9_eq, q9al9_eq, q9flt9_eq, q9el9_eq, q9set9_eq, q9ln9_eq, q9gD9_eq, q9ap9_eq, q9eq9_N, q9eq9_I, q9eq9_A, q9eq9_E, q9eq9_OI, q9eq9_ON, q9eq9_OA, q9eq9_L, q9eq9_S, q9de9_N, q9de9_I, q9de9_A, q9le9_N, q9le9_I, q9lt9_N, q9lt9_I, q9de9_E, q9de9_OI, q9de9_ON, q9de9_OA, q9de9_L, q9nd9_eq, q9or9_eq, Bool.cond_decide]
theorem q9eqB_ok {nL : Nat} {g : List Value} {x : q9ST} {r : Nat → Value} {G : q9GH} {ws : va_W} {ls : Array Slot} {st : List Value} (hM : q9SM O nL g x r G ws ls st) {a b : q9AV} (hb : q9okAV (q9tE x) b = true) {y : Int32} (hy : q9ev r b = .int y) (h : q9eqB x a b = true) : q9ev r a = .int y := by
  (rewrite [q9eqB_oq] at h; unfold q9eqB_o at h)
  rcases Bool.or_eq_true _ _ ▸ h with h | h
  · rw [eq_of_beq h]
    exact hy
  · simp only [Bool.and_eq_true] at h
    obtain ⟨h1, h2, h3, h4⟩ := h
    obtain ⟨u, hu⟩ := q9isInt_ok hM.2.2.2.1 h1 h2
    have k1 := q9leB_ok hM h1 hb h3
    have k2 := q9leB_ok hM hb h1 h4
    rw [hu, hy] at k1 k2
    have k1 : u.toInt ≤ y.toInt + 0 := k1
    have k2 : y.toInt ≤ u.toInt + 0 := k2
    have : u = y := Int32.toInt_inj.mp (by omega)
    rw [hu, this]
noncomputable def q9exLd_o (B : q9TB) (x : q9ST) (tys : List Nat) (pc' : Nat) : Option (List (Nat × q9ST)) := match q9tS x with
  | i :: a :: rest => (match q9kindOf B x a.1 with
    | some (_, k) => if tys.elem k.1 = true ∧ q9inB x a.1 i k = true then
        (match (q9tA x).find? (fun q => q.1 == a.1 && q9eqB x q.2.1 i) with
        | some q => some [(pc', q9sS x (q.2.2 :: rest))]
        | none => if q9numK k then some [(pc', q9sS (q9sA (q9sE x (q9tE x ++ [k.2.2.2])) ((a.1, i, ((q9tE x).length, 0)) :: q9tA x)) (((q9tE x).length, 0) :: rest))]
          else some [(pc', q9sS (q9sE x (q9tE x ++ [k.2.2.2])) (((q9tE x).length, 0) :: rest))]) else none
    | none => none)
  | _ => none
noncomputable def q9exLd (B : q9TB) (x : q9ST) (tys : List Nat) (pc' : Nat) : Option (List (Nat × q9ST)) := match q9tS x with
  | i :: a :: rest => (match q9kindOf B x a.1 with
    | some (_, k) => if q9el9 tys k.1 = true ∧ q9inB x a.1 i k = true then
        (match q9fi9 (q9tA x) (fun q => q9nd9 (q9eq9 (q.1) (a.1)) (q9eqB x q.2.1 i)) with
        | some q => some [(pc', q9sS x (q.2.2 :: rest))]
        | none => if q9numK k then some [(pc', q9sS (q9sA (q9sE x ((q9ap9 (q9tE x) ([k.2.2.2])))) ((a.1, i, ((q9ln9 (q9tE x)), 0)) :: q9tA x)) (((q9ln9 (q9tE x)), 0) :: rest))]
          else some [(pc', q9sS (q9sE x ((q9ap9 (q9tE x) ([k.2.2.2])))) (((q9ln9 (q9tE x)), 0) :: rest))]) else none
    | none => none)
  | _ => none
theorem q9exLd_oq : @q9exLd = @q9exLd_o := by
  delta q9exLd q9exLd_o
  simp only [q9ge9_eq, q9fi9_eq, q9an9_eq, q9al9_eq, q9flt9_eq, q9el9_eq, q9set9_eq, q9ln9_eq, q9gD9_eq, q9ap9_eq, q9eq9_N, q9eq9_I, q9eq9_A, q9eq9_E, q9eq9_OI, q9eq9_ON, q9eq9_OA, q9eq9_L, q9eq9_S, q9de9_N, q9de9_I, q9de9_A, q9le9_N, q9le9_I, q9lt9_N, q9lt9_I, q9de9_E, q9de9_OI, q9de9_ON, q9de9_OA, q9de9_L, q9nd9_eq, q9or9_eq, Bool.cond_decide]
theorem q9exLd_ok {x : q9ST} {r : Nat → Value} {tys : List Nat} {pc pc' : Nat} {ss : List (Nat × q9ST)} (hw : q9wfB x = true) (h : q9exLd B x tys pc' = some ss) (hn : q9NX O p l e R ko s m args below meth c Q nL g (q9WM D cT B A H0 G0 ws0 Wr) ss x r)
    (row : ∀ (G : q9GH) (k : q9AK) (n : Nat) (ce : va_E), k.1 ∈ tys → q9tyA cT G k n ce → ∀ (ws : va_W) (q b : Nat) (i : Int32) (H : Heap) (locs : List Loc) (cells slots : Nat) (ls : Array Slot) (rest : List Value), va_P D vwCl ws H → ws[q]? = some (b, ce) → vp_in i n → W p l e R s m args below meth c H locs cells slots Q (F0 m pc' ls (q9elV ce i.toNatClampNeg :: rest)) → W p l e R s m args below meth c H locs cells slots Q (F0 m pc ls (.int i :: .ref b :: rest))) : q9GO O p l e R ko s m args below meth c Q nL g (q9WM D cT B A H0 G0 ws0 Wr) pc x r := by
  (rewrite [q9exLd_oq] at h; unfold q9exLd_o at h)
  split at h
  · rename_i i a rest hT
    split at h
    · rename_i cd k hk
      split at h
      · rename_i hc
        intro G ws H locs ls st hM hW
        obtain ⟨hP, hD, hS, hTy, hX, hKe⟩ := hW
        have hi : q9okAV (q9tE x) i = true := q9wf_S hw i (by rw [hT]; exact List.mem_cons_self)
        obtain ⟨b, n, qi, ce, k1, k2, k3, k4, k5, k6, k7⟩ := q9kindOf_ok hM.2.2.2.1 hTy hk
        obtain ⟨y, y1, y2, y3⟩ := q9inB_ok hw hM hTy hD hi k1 k2 k5 hc.2
        have ea : q9ev r a = .ref b := by
          unfold q9ev
          rw [k1]
        have hst := hM.2.1
        rw [hT, List.map_cons, List.map_cons, y1, ea] at hst
        rw [hst]
        refine row G k n ce (List.elem_iff.mp hc.1) k5 ws qi b y H locs _ _ ls _ hP k4 y2 ?_
        split at h
        · rename_i q hq
          cases h
          have q1 := List.find?_some hq
          have q2 := List.mem_of_find?_eq_some hq
          simp only [Bool.and_eq_true, beq_iff_eq] at q1
          have hq9 := hM.2.2.2.2.2.1 q q2
          unfold q9AMok at hq9
          rw [q1.1, k1] at hq9
          obtain ⟨a', i', cA, n', f, z, e1, e2, e3, e4⟩ := hq9.resolve_right q9JA_ref
          rw [q1.1, k1] at e1
          cases e1
          have hii : i' = qi := hD.1 i' qi _ _ e2 k4 rfl
          subst hii
          rw [k4] at e2
          cases e2
          rw [q9eqB_ok hM hi y1 q1.2] at e3
          cases e3
          have kk := hn.one q9agr.rf (Nat.le_refl _) G ws H locs ls _ (hM.S (q.2.2 :: rest)) ⟨hP, hD, hS, hTy, hX, hKe⟩
          rw [List.map_cons, e4] at kk
          exact kk
        · have ag : q9agr (q9tE x).length r (q9up r (q9tE x).length (q9elV ce y.toNatClampNeg)) := fun k hk => q9up_lt hk
          have h9 := hM.fresh hw (q9el_ty k5 y3)
          have hlen : (q9tE x).length ≤ (q9tE x ++ [k.2.2.2]).length := by rw [List.length_append]; omega
          have hrest : rest.map (q9ev (q9up r (q9tE x).length (q9elV ce y.toNatClampNeg))) = rest.map (q9ev r) := ag.map fun z hz => q9wf_S hw z (by rw [hT]; exact List.mem_cons_of_mem _ (List.mem_cons_of_mem _ hz))
          split at h
          · rename_i hi'
            cases h
            obtain ⟨f, hf⟩ := q9numK_ok k5 hi'
            subst hf
            have h8 := h9.A (F := (a.1, i, ((q9tE x).length, 0)) :: q9tA x) fun z hz => by
              rcases List.mem_cons.mp hz with rfl | hz
              · refine .inl ⟨b, qi, _, n, f, y, ?_, k4, ?_, ?_⟩
                · rw [ag _ (q9okAV_lt (q9wf_S hw a (by rw [hT]; exact List.mem_cons_of_mem _ List.mem_cons_self)))]
                  exact k1
                · dsimp only
                  rw [ag.ev hi]
                  exact y1
                · dsimp only
                  rw [q9ev_zero, q9up_at]
              · exact h9.2.2.2.2.2.1 z hz
            have kk := hn.one ag hlen G ws H locs ls _ (h8.S (((q9tE x).length, 0) :: rest)) ⟨hP, hD, hS, hTy, hX, hKe⟩
            rw [List.map_cons, q9ev_zero, q9up_at, hrest] at kk
            exact kk
          · cases h
            have kk := hn.one ag hlen G ws H locs ls _ (h9.S (((q9tE x).length, 0) :: rest)) ⟨hP, hD, hS, hTy, hX, hKe⟩
            rw [List.map_cons, q9ev_zero, q9up_at, hrest] at kk
            exact kk
      · cases h
    · cases h
  · cases h
noncomputable def q9isLng_o (x : q9ST) (a : q9AV) : Bool := match (q9tE x)[a.1]? with
  | some t => t.1 == 1
  | none => false
noncomputable def q9isLng (x : q9ST) (a : q9AV) : Bool := match (q9ge9 (q9tE x) (a.1)) with
  | some t => q9eq9 (t.1) (1)
  | none => false
theorem q9isLng_oq : @q9isLng = @q9isLng_o := by
  delta q9isLng q9isLng_o
  simp only [q9ge9_eq, q9fi9_eq, q9an9_eq, q9al9_eq, q9flt9_eq, q9el9_eq, q9set9_eq, q9ln9_eq, q9gD9_eq, q9ap9_eq, q9eq9_N, q9eq9_I, q9eq9_A, q9eq9_E, q9eq9_OI, q9eq9_ON, q9eq9_OA, q9eq9_L, q9eq9_S, q9de9_N, q9de9_I, q9de9_A, q9le9_N, q9le9_I, q9lt9_N, q9lt9_I, q9de9_E, q9de9_OI, q9de9_ON, q9de9_OA, q9de9_L, q9nd9_eq, q9or9_eq, Bool.cond_decide]
theorem q9isLng_ok {x : q9ST} {r : Nat → Value} {G : q9GH} (hS : q9SAT G (q9tE x) r) {a : q9AV} (h : q9isLng x a = true) : ∃ y : Int64, q9ev r a = .long y := by
  (rewrite [q9isLng_oq] at h; unfold q9isLng_o at h)
  cases hE : (q9tE x)[a.1]? with
  | none => rw [hE] at h; cases h
  | some t =>
    obtain ⟨tk, lo, hi⟩ := t
    rw [hE] at h
    have h0 : tk = 1 := by simpa using h
    subst h0
    obtain ⟨y, e1, -⟩ := (q9ev_ref hS hE (by simp)).2
    exact ⟨y, e1⟩
/-- what an array keeps whole of what is stored -/
noncomputable def q9narB_o (k : q9AK) : Bool := if k.1 = 1 then k.2.2.2.1 == 0 && (decide (-128 ≤ k.2.2.2.2.1) && decide (k.2.2.2.2.2 ≤ 127)) else if k.1 = 3 then k.2.2.2.1 == 0 && (decide (0 ≤ k.2.2.2.2.1) && decide (k.2.2.2.2.2 ≤ 1)) else if 4 ≤ k.1 then k.2.2.2.1 == 3 else true
noncomputable def q9narB (k : q9AK) : Bool := bif q9de9 (k.1) (1) then q9nd9 (q9eq9 (k.2.2.2.1) (0)) ((q9nd9 ((q9le9 (-128) (k.2.2.2.2.1))) ((q9le9 (k.2.2.2.2.2) (127))))) else bif q9de9 (k.1) (3) then q9nd9 (q9eq9 (k.2.2.2.1) (0)) ((q9nd9 ((q9le9 (0) (k.2.2.2.2.1))) ((q9le9 (k.2.2.2.2.2) (1))))) else bif q9le9 (4) (k.1) then q9eq9 (k.2.2.2.1) (3) else true
theorem q9narB_oq : @q9narB = @q9narB_o := by
  delta q9narB q9narB_o
  simp only [q9ge9_eq, q9fi9_eq, q9an9_eq, q9al9_eq, q9flt9_eq, q9el9_eq, q9set9_eq, q9ln9_eq, q9gD9_eq, q9ap9_eq, q9eq9_N, q9eq9_I, q9eq9_A, q9eq9_E, q9eq9_OI, q9eq9_ON, q9eq9_OA, q9eq9_L, q9eq9_S, q9de9_N, q9de9_I, q9de9_A, q9le9_N, q9le9_I, q9lt9_N, q9lt9_I, q9de9_E, q9de9_OI, q9de9_ON, q9de9_OA, q9de9_L, q9nd9_eq, q9or9_eq, Bool.cond_decide]
/-- places that are told apart; only in arrays that are being made -/
noncomputable def q9cneq_o (x : q9ST) (cd : Nat) (a b : q9AV) : Bool := decide (250 ≤ cd) && (q9zeroB x && (a.1 == 0 && (b.1 == 0 && (decide (0 ≤ a.2) && (decide (a.2 ≤ 1000000) && (decide (0 ≤ b.2) && (decide (b.2 ≤ 1000000) && !(a.2 == b.2))))))))
noncomputable def q9cneq (x : q9ST) (cd : Nat) (a b : q9AV) : Bool := q9nd9 ((q9le9 (250) (cd))) ((q9nd9 (q9zeroB x) ((q9nd9 (q9eq9 (a.1) (0)) ((q9nd9 (q9eq9 (b.1) (0)) ((q9nd9 ((q9le9 (0) (a.2))) ((q9nd9 ((q9le9 (a.2) (1000000))) ((q9nd9 ((q9le9 (0) (b.2))) ((q9nd9 ((q9le9 (b.2) (1000000))) (!(q9eq9 (a.2) (b.2)))))))))))))))))
theorem q9cneq_oq : @q9cneq = @q9cneq_o := by
  delta q9cneq q9cneq_o
  simp only [q9ge9_eq, q9fi9_eq, q9an9_eq, q9al9_eq, q9flt9_eq, q9el9_eq, q9set9_eq, q9ln9_eq, q9gD9_eq, q9ap9_eq, q9eq9_N, q9eq9_I, q9eq9_A, q9eq9_E, q9eq9_OI, q9eq9_ON, q9eq9_OA, q9eq9_L, q9eq9_S, q9de9_N, q9de9_I, q9de9_A, q9le9_N, q9le9_I, q9lt9_N, q9lt9_I, q9de9_E, q9de9_OI, q9de9_ON, q9de9_OA, q9de9_L, q9nd9_eq, q9or9_eq, Bool.cond_decide]
theorem q9cneq_ok {nL : Nat} {g : List Value} {x : q9ST} {r : Nat → Value} {G : q9GH} {ws : va_W} {ls : Array Slot} {st : List Value} (hM : q9SM O nL g x r G ws ls st) {cd : Nat} {a b : q9AV} {u w : Int32} (h : q9cneq x cd a b = true) (ha : q9ev r a = .int u) (hb : q9ev r b = .int w) : u.toNatClampNeg ≠ w.toNatClampNeg := by
  (rewrite [q9cneq_oq] at h; unfold q9cneq_o at h)
  simp only [Bool.and_eq_true, beq_iff_eq, decide_eq_true_eq, Bool.not_eq_true', beq_eq_false_iff_ne] at h
  obtain ⟨-, h0, h1, h2, h3, h3', h4, h4', h5⟩ := h
  obtain ⟨a1, a2⟩ := a
  obtain ⟨b1, b2⟩ := b
  dsimp only at h1 h2 h3 h3' h4 h4' h5
  subst h1
  subst h2
  rw [q9zero_ev hM.2.2.2.1 (q9zero_at h0) a2] at ha
  rw [q9zero_ev hM.2.2.2.1 (q9zero_at h0) b2] at hb
  cases ha
  cases hb
  intro h9
  have e1 : (Int32.ofInt a2).toInt = a2 := Int32.toInt_ofInt_of_le (by omega) (by omega)
  have e2 : (Int32.ofInt b2).toInt = b2 := Int32.toInt_ofInt_of_le (by omega) (by omega)
  have h9 : (Int32.ofInt a2).toInt.toNat = (Int32.ofInt b2).toInt.toNat := h9
  rw [e1, e2] at h9
  omega
/-- another place, by what is known -/
noncomputable def q9nneq_o (x : q9ST) (a b : q9AV) : Bool := q9isInt x a && (q9isInt x b && (q9leB x b a (-1) || (q9leB x a b (-1) && (match q9num (q9tE x) a with
  | some (0, l, _) => decide (0 ≤ l)
  | _ => false))))
noncomputable def q9nneq (x : q9ST) (a b : q9AV) : Bool := q9nd9 (q9isInt x a) ((q9nd9 (q9isInt x b) ((q9or9 (q9leB x b a (-1)) ((q9nd9 (q9leB x a b (-1)) ((match q9num (q9tE x) a with
  | some (0, l, _) => (q9le9 (0) (l))
  | _ => false))))))))
theorem q9nneq_oq : @q9nneq = @q9nneq_o := by
  delta q9nneq q9nneq_o
  simp only [q9ge9_eq, q9fi9_eq, q9an9_eq, q9al9_eq, q9flt9_eq, q9el9_eq, q9set9_eq, q9ln9_eq, q9gD9_eq, q9ap9_eq, q9eq9_N, q9eq9_I, q9eq9_A, q9eq9_E, q9eq9_OI, q9eq9_ON, q9eq9_OA, q9eq9_L, q9eq9_S, q9de9_N, q9de9_I, q9de9_A, q9le9_N, q9le9_I, q9lt9_N, q9lt9_I, q9de9_E, q9de9_OI, q9de9_ON, q9de9_OA, q9de9_L, q9nd9_eq, q9or9_eq, Bool.cond_decide]
theorem q9nneq_ok {nL : Nat} {g : List Value} {x : q9ST} {r : Nat → Value} {G : q9GH} {ws : va_W} {ls : Array Slot} {st : List Value} (hM : q9SM O nL g x r G ws ls st) {a b : q9AV} (ha : q9okAV (q9tE x) a = true) (hb : q9okAV (q9tE x) b = true) {u w : Int32} (h : q9nneq x a b = true) (eu : q9ev r a = .int u) (ew : q9ev r b = .int w) (hw0 : 0 ≤ w.toInt) : u.toNatClampNeg ≠ w.toNatClampNeg := by
  (rewrite [q9nneq_oq] at h; unfold q9nneq_o at h)
  simp only [Bool.and_eq_true] at h
  obtain ⟨-, -, h⟩ := h
  intro h9
  have h9 : u.toInt.toNat = w.toInt.toNat := h9
  rcases Bool.or_eq_true _ _ ▸ h with h | h
  · have k := q9leB_ok hM hb ha h
    rw [eu, ew] at k
    have k : w.toInt ≤ u.toInt + (-1) := k
    omega
  · rw [Bool.and_eq_true] at h
    have k := q9leB_ok hM ha hb h.1
    rw [eu, ew] at k
    have k : u.toInt ≤ w.toInt + (-1) := k
    have h2 := h.2
    split at h2
    · rename_i l hi hn
      rw [decide_eq_true_eq] at h2
      obtain ⟨u', e1, -, u1, u2⟩ := q9num_int hM.2.2.2.1 ha hn
      rw [eu] at e1
      cases e1
      omega
    · cases h2
/-- a store at a place that what is known of the lines doesn't speak of -/
noncomputable def q9jSB_o (x : q9ST) (cd : Nat) (i : q9AV) (z : Nat × q9AV × q9AV) : Bool := match (q9tE x)[z.1]? with
  | some t => (match q9famT t, q9num (q9tE x) z.2.1, q9num (q9tE x) z.2.2 with
    | some c, some (0, l1, h1), some (0, l2, h2) =>
      if c ≤ -100 then false else if c = 0 then
        (if h2 < 1000 then (if cd = 186 ∨ cd = 187 then q9leB x z.2.2 i 0 else if 178 ≤ cd ∧ cd ≤ 184 then q9leB x z.2.1 i 0 else true)
         else if 1000 ≤ l2 ∧ h2 < 13000 ∧ l2 / 1000 = h2 / 1000 then (if cd = 178 ∨ cd = 179 ∨ cd = 185 then q9leB x z.2.2 i (1000 * (l2 / 1000)) || q9leB x i z.2.1 (-1) else true)
         else if 19000 ≤ l2 then (if cd = 178 ∨ cd = 179 ∨ cd = 185 then q9leB x z.2.2 i 19000 else true)
         else false)
      else (if cd = 195 ∨ cd = 199 ∨ cd = 247 then
          decide (l1 / 1000 = h1 / 1000) && (q9leB x z.2.1 i (1000 * (l1 / 1000) + 1) && q9leB x i z.2.1 (-(1000 * (l1 / 1000) + 1))) || (decide (c = -7) && q9leB x z.2.2 i 0) || (decide (l1 / 1000 = h1 / 1000) && (if l1 / 1000 = 3 then !(cd == 195) else decide (cd = if l1 / 1000 = 1 then 247 else 199)))
        else true)
    | _, _, _ => false)
  | none => false
noncomputable def q9jSB (x : q9ST) (cd : Nat) (i : q9AV) (z : Nat × q9AV × q9AV) : Bool := match (q9ge9 (q9tE x) (z.1)) with
  | some t => (match q9famT t, q9num (q9tE x) z.2.1, q9num (q9tE x) z.2.2 with
    | some c, some (0, l1, h1), some (0, l2, h2) =>
      bif q9le9 (c) (-100) then false else bif q9de9 (c) (0) then
        (bif q9lt9 (h2) (1000) then (if cd = 186 ∨ cd = 187 then q9leB x z.2.2 i 0 else if 178 ≤ cd ∧ cd ≤ 184 then q9leB x z.2.1 i 0 else true)
         else if 1000 ≤ l2 ∧ h2 < 13000 ∧ l2 / 1000 = h2 / 1000 then (if cd = 178 ∨ cd = 179 ∨ cd = 185 then q9or9 (q9leB x z.2.2 i (1000 * (l2 / 1000))) (q9leB x i z.2.1 (-1)) else true)
         else bif q9le9 (19000) (l2) then (if cd = 178 ∨ cd = 179 ∨ cd = 185 then q9leB x z.2.2 i 19000 else true)
         else false)
      else (if cd = 195 ∨ cd = 199 ∨ cd = 247 then
          q9or9 (q9or9 (q9nd9 ((q9de9 (l1 / 1000) (h1 / 1000))) ((q9nd9 (q9leB x z.2.1 i (1000 * (l1 / 1000) + 1)) (q9leB x i z.2.1 (-(1000 * (l1 / 1000) + 1)))))) ((q9nd9 ((q9de9 (c) (-7))) (q9leB x z.2.2 i 0)))) ((q9nd9 ((q9de9 (l1 / 1000) (h1 / 1000))) ((bif q9de9 (l1 / 1000) (3) then !(q9eq9 (cd) (195)) else decide (cd = bif q9de9 (l1 / 1000) (1) then 247 else 199)))))
        else true)
    | _, _, _ => false)
  | none => false
theorem q9jSB_oq : @q9jSB = @q9jSB_o := by
  delta q9jSB q9jSB_o
  simp only [q9ge9_eq, q9fi9_eq, q9an9_eq, q9al9_eq, q9flt9_eq, q9el9_eq, q9set9_eq, q9ln9_eq, q9gD9_eq, q9ap9_eq, q9eq9_N, q9eq9_I, q9eq9_A, q9eq9_E, q9eq9_OI, q9eq9_ON, q9eq9_OA, q9eq9_L, q9eq9_S, q9de9_N, q9de9_I, q9de9_A, q9le9_N, q9le9_I, q9lt9_N, q9lt9_I, q9de9_E, q9de9_OI, q9de9_ON, q9de9_OA, q9de9_L, q9nd9_eq, q9or9_eq, Bool.cond_decide]
theorem q9jSB_ref {G : q9GH} {x : q9ST} {r : Nat → Value} (hS : q9SAT G (q9tE x) r) {cd : Nat} {i : q9AV} {z : Nat × q9AV × q9AV} {b : Nat} (h : q9jSB x cd i z = true) (e : r z.1 = .ref b) : False := by
  (rewrite [q9jSB_oq] at h; unfold q9jSB_o at h)
  split at h
  · rename_i t ht
    split at h
    · rename_i c l1 h1 l2 h2 e1 e2 e3
      obtain ⟨c', f1, -⟩ := q9famT_ok e1 (hS _ t ht)
      rw [e] at f1
      cases f1
    · cases h
  · cases h
theorem q9jSB_lo {c : Int} {b : Bool} (h : (if c ≤ -100 then false else b) = true) : ¬ c ≤ -100 := by
  intro hc
  rw [if_pos hc] at h
  cases h
theorem q9jSB_fam {G : q9GH} {x : q9ST} {r : Nat → Value} (hS : q9SAT G (q9tE x) r) {cd : Nat} {i : q9AV} {z : Nat × q9AV × q9AV} (h : q9jSB x cd i z = true) : ∃ c : Int, q9nV (r z.1) = some c ∧ ¬ c ≤ -100 := by
  (rewrite [q9jSB_oq] at h; unfold q9jSB_o at h)
  split at h
  · rename_i t ht
    split at h
    · rename_i c l1 h1 l2 h2 e1 e2 e3
      obtain ⟨c', f1, f2, f3, f4, f5, f6⟩ := q9famT_ok e1 (hS _ t ht)
      have h9 := q9jSB_lo h
      refine ⟨c', f1, fun hh => ?_⟩
      by_cases h0 : c = 0
      · have := f4 h0
        omega
      · have := f5 h0
        omega
    · cases h
  · cases h
theorem q9jSB_ok {nL : Nat} {g : List Value} {x : q9ST} {r : Nat → Value} {G : q9GH} {ws : va_W} {ls : Array Slot} {st : List Value} (hM : q9SM O nL g x r G ws ls st) {cd : Nat} {i : q9AV} {z : Nat × q9AV × q9AV} (hi : q9okAV (q9tE x) i = true) (hz1 : q9okAV (q9tE x) z.2.1 = true) (hz2 : q9okAV (q9tE x) z.2.2 = true) {y : Int32} (hy : q9ev r i = .int y) (hy0 : 0 ≤ y.toInt) (h : q9jSB x cd i z = true) :
    ∀ (M M' : q9LM) (c : Int) (b w : Int32) (nn : Int), q9nV (r z.1) = some c → q9ev r z.2.1 = .int b → q9ev r z.2.2 = .int w → (∀ p ∈ q9jFc c, ∀ j : Nat, (p.2 = cd → j ≠ y.toNatClampNeg) → M' p.1 j = M p.1 j) → q9JP M nn c b.toInt w.toInt → q9JP M' nn c b.toInt w.toInt := by
  intro M M' c b w nn hc hb hw hfr hJ
  have hyc : y.toNatClampNeg = y.toInt.toNat := rfl
  (rewrite [q9jSB_oq] at h; unfold q9jSB_o at h)
  split at h
  · rename_i t ht
    split at h
    · rename_i c0 l1 h1 l2 h2 e1 e2 e3
      obtain ⟨c', f1, f2, f3, f4, f5, f6⟩ := q9famT_ok e1 (hM.2.2.2.1 _ t ht)
      rw [hc] at f1
      cases f1
      rw [if_neg (q9jSB_lo h)] at h
      obtain ⟨b', g1, -, g2, g3⟩ := q9num_int hM.2.2.2.1 hz1 e2
      rw [hb] at g1
      cases g1
      obtain ⟨w', g4, -, g5, g6⟩ := q9num_int hM.2.2.2.1 hz2 e3
      rw [hw] at g4
      cases g4
      split at h
      · rename_i h0
        have hc0 := f4 h0
        have hF : q9jFc c = q9jF1 := by unfold q9jFc; rw [if_pos hc0]
        rw [hF] at hfr
        split at h
        · rename_i h2
          rw [q9JP_lines hc0 (by omega)] at hJ ⊢
          have key1 : ∀ (j k : Nat), (k + 156, k + 156) = (k + 156, k + 156) → (k, k + 156) ∈ q9jF1 → (k + 156 = cd → j ≠ y.toNatClampNeg) → M' k j = M k j := fun j k _ hk hh => hfr _ hk j hh
          have mem1 : ∀ k ∈ [22, 23, 25, 26, 27, 28], (k, k + 156) ∈ q9jF1 ∧ k + 156 ≤ 184 ∧ 178 ≤ k + 156 := by decide
          have mem2 : ∀ k ∈ [30, 31], (k, k + 156) ∈ q9jF1 ∧ 186 ≤ k + 156 ∧ k + 156 ≤ 187 := by decide
          split at h
          · rename_i hcd
            have hle := q9leB_ok hM hz2 hi h
            rw [hw, hy] at hle
            have hle : w.toInt ≤ y.toInt + 0 := hle
            refine hJ.fr (fun j hj k hk => ?_) (fun j hj k hk => ?_)
            · obtain ⟨m1, m2, m3⟩ := mem1 k hk
              exact key1 j k rfl m1 fun hh => by omega
            · obtain ⟨m1, m2, m3⟩ := mem2 k hk
              exact key1 j k rfl m1 fun hh => by omega
          · rename_i hcd
            split at h
            · rename_i hcd2
              have hle := q9leB_ok hM hz1 hi h
              rw [hb, hy] at hle
              have hle : b.toInt ≤ y.toInt + 0 := hle
              refine hJ.fr (fun j hj k hk => ?_) (fun j hj k hk => ?_)
              · obtain ⟨m1, m2, m3⟩ := mem1 k hk
                exact key1 j k rfl m1 fun hh => by omega
              · obtain ⟨m1, m2, m3⟩ := mem2 k hk
                exact key1 j k rfl m1 fun hh => by omega
            · rename_i hcd2
              refine hJ.fr (fun j hj k hk => ?_) (fun j hj k hk => ?_)
              · obtain ⟨m1, m2, m3⟩ := mem1 k hk
                exact key1 j k rfl m1 fun hh => by omega
              · obtain ⟨m1, m2, m3⟩ := mem2 k hk
                exact key1 j k rfl m1 fun hh => by omega
        · split at h
          · rename_i h2 h3
            have mem3 : ∀ k ∈ [22, 23, 29], (k, k + 156) ∈ q9jF1 ∧ (k + 156 = 178 ∨ k + 156 = 179 ∨ k + 156 = 185) := by decide
            have hT : (w.toInt.toNat % 1000 : Nat) ≤ y.toInt.toNat ∨ y.toInt.toNat < b.toInt.toNat ∨ ¬ (cd = 178 ∨ cd = 179 ∨ cd = 185) := by
              split at h
              · rcases Bool.or_eq_true _ _ ▸ h with h | h
                · have hle := q9leB_ok hM hz2 hi h
                  rw [hw, hy] at hle
                  have hle : w.toInt ≤ y.toInt + 1000 * (l2 / 1000) := hle
                  exact .inl (by omega)
                · have hle := q9leB_ok hM hi hz1 h
                  rw [hb, hy] at hle
                  have hle : y.toInt ≤ b.toInt + -1 := hle
                  exact .inr (.inl (by omega))
              · rename_i hh
                exact .inr (.inr hh)
            have key3 : ∀ j : Nat, b.toInt.toNat ≤ j → j < w.toInt.toNat % 1000 → ∀ k ∈ [22, 23, 29], M' k j = M k j := fun j hjb hj k hk => by
              obtain ⟨m1, m2⟩ := mem3 k hk
              refine hfr _ m1 j fun hh => ?_
              have hh : k + 156 = cd := hh
              rcases hT with hT | hT | hT
              · omega
              · omega
              · exact absurd (by omega) hT
            by_cases h7 : w.toInt < 7000
            · rw [q9JP_cnt hc0 (by omega) h7] at hJ ⊢
              exact ⟨hJ.1, hJ.2.fr key3⟩
            · rw [q9JP_wn hc0 (by omega) (by omega)] at hJ ⊢
              obtain ⟨hJ0, c9, hJ⟩ := hJ
              exact ⟨hJ0, c9, hJ.fr key3⟩
          · split at h
            · rename_i h2 h3 h4
              have mem3 : ∀ k ∈ [22, 23, 29], (k, k + 156) ∈ q9jF1 ∧ (k + 156 = 178 ∨ k + 156 = 179 ∨ k + 156 = 185) := by decide
              have hT : (w.toInt - 19000).toNat ≤ y.toInt.toNat ∨ ¬ (cd = 178 ∨ cd = 179 ∨ cd = 185) := by
                split at h
                · have hle := q9leB_ok hM hz2 hi h
                  rw [hw, hy] at hle
                  have hle : w.toInt ≤ y.toInt + 19000 := hle
                  exact .inl (by omega)
                · rename_i hh
                  exact .inr hh
              rw [q9JP_st hc0 (by omega)] at hJ ⊢
              refine ⟨hJ.1, hJ.2.fr _ _ _ fun j hj k hk => ?_⟩
              obtain ⟨m1, m2⟩ := mem3 k hk
              refine hfr _ m1 j fun hh => ?_
              have hh : k + 156 = cd := hh
              rcases hT with hT | hT
              · omega
              · exact absurd (by omega) hT
            · cases h
      · rename_i h0
        have hcc := f5 h0
        have hF : q9jFc c = q9jF2 := by
          unfold q9jFc
          rw [if_neg (by omega)]
        rw [hF] at hfr
        have mem44 : (44, 195) ∈ q9jF2 := by decide
        have mem48 : (48, 199) ∈ q9jF2 := by decide
        have mem108 : (108, 247) ∈ q9jF2 := by decide
        have fin : ∀ nn k : Int, (c = -7 → k = w.toInt) → q9PRA M nn b.toInt k → q9PRA M' nn b.toInt k := by
          intro nn k hk hP j j1 j2
          have hj := hP j j1 j2
          -- a place that is written is none of those spoken of
          have hne : (cd = 195 ∨ cd = 199 ∨ cd = 247) → j = y.toNatClampNeg → (if b.toInt / 1000 = 3 then cd ≠ 195 else cd = if b.toInt / 1000 = 1 then 247 else 199) := by
            intro k1 k2
            rw [if_pos k1] at h
            simp only [Bool.or_eq_true, Bool.and_eq_true, decide_eq_true_eq] at h
            rcases h with (⟨a1, a2, a3⟩ | ⟨a1, a2⟩) | ⟨a1, a2⟩
            · exfalso
              have b1 := q9leB_ok hM hz1 hi a2
              have b2 := q9leB_ok hM hi hz1 a3
              rw [hb, hy] at b1
              rw [hb, hy] at b2
              have b1 : b.toInt ≤ y.toInt + (1000 * (l1 / 1000) + 1) := b1
              have b2 : y.toInt ≤ b.toInt + -(1000 * (l1 / 1000) + 1) := b2
              omega
            · exfalso
              have b1 := q9leB_ok hM hz2 hi a2
              rw [hw, hy] at b1
              have b1 : w.toInt ≤ y.toInt + 0 := b1
              have := hk (by omega)
              omega
            · have e9 : b.toInt / 1000 = l1 / 1000 := by omega
              rw [e9]
              split at a2
              · rename_i a3
                rw [if_pos a3]
                simpa using a2
              · rename_i a3
                rw [if_neg a3]
                simpa using a2
          split
          · rename_i h3
            rw [if_pos h3] at hj
            intro hn
            rw [hfr _ mem44 j fun hh k2 => ?_]
            · exact hj hn
            · have := hne (.inl hh.symm) k2
              rw [if_pos h3] at this
              exact this hh.symm
          · rename_i h3
            rw [if_neg h3] at hj
            have e44 : M' 44 j = M 44 j := hfr _ mem44 j fun hh k2 => by
              have := hne (.inl hh.symm) k2
              rw [if_neg h3] at this
              have hh : 195 = cd := hh
              split at this
              · omega
              · omega
            rw [e44]
            split
            · rename_i h1
              rw [if_pos h1] at hj
              rw [hfr _ mem48 j fun hh k2 => ?_]
              · exact hj
              · have := hne (.inr (.inl hh.symm)) k2
                rw [if_neg h3, if_pos h1] at this
                have hh : 199 = cd := hh
                omega
            · rename_i h1
              rw [if_neg h1] at hj
              rw [hfr _ mem108 j fun hh k2 => ?_]
              · exact hj
              · have := hne (.inr (.inr hh.symm)) k2
                rw [if_neg h3, if_neg h1] at this
                have hh : 247 = cd := hh
                omega
        rcases f6 with f6 | f6 | f6 | f6
        · exact absurd f6 h0
        rotate_left 2
        · exact absurd hJ (q9JP_no (by omega))
        · have e7 : c = -7 := hcc.trans f6
          subst e7
          rw [q9JP_pr] at hJ ⊢
          exact fin nn _ (fun _ => rfl) hJ
        · have e7 : c = -8 := hcc.trans f6
          subst e7
          rw [q9JP_px] at hJ ⊢
          exact fin _ _ (fun h9 => by omega) hJ
    · cases h
  · cases h
theorem q9upE_int {cA : ClassId} {n j : Nat} {f : Nat → Int32} {v : Value} : ∃ f' : Nat → Int32, q9upE (.inl (cA, n, .inl f)) j v = .inl (cA, n, .inl f') ∧ ∀ i : Nat, i ≠ j → f' i = f i := by
  match v with
  | .int x => exact ⟨_, rfl, fun i hi => by simp [upd, hi]⟩
  | .long _ => exact ⟨_, rfl, fun _ _ => rfl⟩
  | .float _ => exact ⟨_, rfl, fun _ _ => rfl⟩
  | .double _ => exact ⟨_, rfl, fun _ _ => rfl⟩
  | .ref _ => exact ⟨_, rfl, fun _ _ => rfl⟩
  | .null => exact ⟨_, rfl, fun _ _ => rfl⟩
  | .retAddr _ => exact ⟨_, rfl, fun _ _ => rfl⟩
theorem q9JA0_st {G : q9GH} {ws : va_W} {qi b cd n y : Nat} {w9 : ClassId × vp_A} (k3 : G[qi]? = some (b, cd, n)) (k4 : ws[qi]? = some (b, .inl w9)) {v v0 v1 v2 : Value} (hJ : q9JA0 G ws v0 v1 v2)
    (hc : ∀ (M M' : q9LM) (c : Int) (b w : Int32) (nn : Int), q9nV v0 = some c → v1 = .int b → v2 = .int w → (∀ p ∈ q9jFc c, ∀ j : Nat, (p.2 = cd → j ≠ y) → M' p.1 j = M p.1 j) → q9JP M nn c b.toInt w.toInt → q9JP M' nn c b.toInt w.toInt) : q9JA0 G (ws.set qi (b, q9upE (.inl w9) y v)) v0 v1 v2 := by
  obtain ⟨q, a, n1, fs, M, c, bb, z, nn, h1, h2, h3, h4, h5, h6, h7, h8⟩ := hJ
  have hlt := (List.getElem?_eq_some_iff.mp k4).1
  have hq : q ≠ qi := by
    rintro rfl
    rw [k4] at h2
    cases h2
  have h2' : (ws.set qi (b, q9upE (.inl w9) y v))[q]? = some (a, .inr (12, fs)) := by
    rw [List.getElem?_set_ne (fun z => hq z.symm)]
    exact h2
  have hp : ∀ p ∈ q9jFc c, ∃ g9 : Nat → Int32, (∃ (i b9 k n' : Nat) (cA : ClassId), fs[p.1]? = some (.ref b9) ∧ G[i]? = some (b9, p.2, k) ∧ (ws.set qi (b, q9upE (.inl w9) y v))[i]? = some (b9, .inl (cA, n', .inl g9))) ∧ ∀ j : Nat, (p.2 = cd → j ≠ y) → g9 j = M p.1 j := by
    intro p hp
    obtain ⟨i, b9, k, n', cA, m1, m2, m3⟩ := h3 p hp
    by_cases hi : i = qi
    · subst hi
      rw [k3] at m2
      rw [k4] at m3
      cases m2
      cases m3
      obtain ⟨f', f1, f2⟩ := q9upE_int (cA := cA) (n := n') (j := y) (f := M p.1) (v := v)
      exact ⟨f', ⟨i, _, _, n', cA, m1, k3, by rw [List.getElem?_set_self hlt, f1]⟩, fun j hj => f2 j (hj rfl)⟩
    · exact ⟨M p.1, ⟨i, b9, k, n', cA, m1, m2, by rw [List.getElem?_set_ne (fun z => hi z.symm)]; exact m3⟩, fun _ _ => rfl⟩
  have hch : ∀ k9 : Nat, ∃ g9 : Nat → Int32, ∀ p ∈ q9jFc c, p.1 = k9 → (∃ (i b9 k n' : Nat) (cA : ClassId), fs[p.1]? = some (.ref b9) ∧ G[i]? = some (b9, p.2, k) ∧ (ws.set qi (b, q9upE (.inl w9) y v))[i]? = some (b9, .inl (cA, n', .inl g9))) ∧ ∀ j : Nat, (p.2 = cd → j ≠ y) → g9 j = M p.1 j := by
    intro k9
    by_cases hh : ∃ p ∈ q9jFc c, p.1 = k9
    · obtain ⟨p, p1, p2⟩ := hh
      obtain ⟨g9, g1⟩ := hp p p1
      refine ⟨g9, fun p' p3 p4 => ?_⟩
      have e : p' = p := (by decide : ∀ p' ∈ q9jF, ∀ p ∈ q9jF, p'.1 = p.1 → p' = p) p' (q9jFc_in p3) p (q9jFc_in p1) (p4.trans p2.symm)
      rw [e]
      exact g1
    · exact ⟨fun _ => 0, fun p p1 p2 => absurd ⟨p, p1, p2⟩ hh⟩
  obtain ⟨M', hM'⟩ := Classical.axiomOfChoice hch
  exact ⟨q, a, n1, fs, M', c, bb, z, nn, h1, h2', fun p p1 => (hM' p.1 p p1 rfl).1, h4, h5, h6, h7, hc M M' c bb z nn h4 h5 h6 (fun p p1 j hj => (hM' p.1 p p1 rfl).2 j hj) h8⟩
theorem q9num_sh {E : List q9ET} {a : q9AV} {l h d : Int} (hn : q9num E a = some (0, l, h)) : q9num E (a.1, a.2 + d) = some (0, l + d, h + d) := by
  (rewrite [q9num_oq] at hn ⊢; unfold q9num_o at hn ⊢)
  dsimp only
  cases hE : E[a.1]? with
  | none => rw [hE] at hn; cases hn
  | some t =>
    rw [hE] at hn
    dsimp only at hn ⊢
    split at hn
    · rename_i h0
      rw [if_pos h0]
      cases hn
      rw [Int.add_assoc, Int.add_assoc]
    · split at hn
      · cases hn
      · cases hn
/-- a store that what is known of the puppets bears: puppet p's own number; a new puppet behind the last -/
noncomputable def q9jTB4_o (x : q9ST) (cd : Nat) (a i v : q9AV) (z : Nat × q9AV × q9AV) : Bool := match q9famE (q9tE x) z.1 with
  | some c => (match q9pqC c with
    | some (s, cj, _, rk) => (cd == rk && (q9leB x i z.2.2 (-s) && q9leB x z.2.2 i s)) || (cd == 152 && (z.2.1 == a && ((q9tA x).any (fun y => q9famE (q9tE x) y.1 == some (-100) && (y.2.1 == a && q9eqB x y.2.2 i)) && ((q9tF x).any (fun w => w.1 == v.1 && (v.2 == 0 && (w.2.1 == cj && (match q9num (q9tE x) w.2.2 with
      | some (0, l, h) => decide (l = 0) && decide (h = 0)
      | _ => false)))) && (cj != 1000 && q9codeOf x v.1 == some 5)))))
    | none => false)
  | none => false
noncomputable def q9jTB4 (x : q9ST) (cd : Nat) (a i v : q9AV) (z : Nat × q9AV × q9AV) : Bool := match q9famE (q9tE x) z.1 with
  | some c => (match q9pqC c with
    | some (s, cj, _, rk) => q9or9 ((q9nd9 (q9eq9 (cd) (rk)) ((q9nd9 (q9leB x i z.2.2 (-s)) (q9leB x z.2.2 i s))))) ((q9nd9 (q9eq9 (cd) (152)) ((q9nd9 (q9eq9 (z.2.1) (a)) ((q9nd9 (q9an9 (q9tA x) (fun y => q9nd9 (q9eq9 (q9famE (q9tE x) y.1) (some (-100))) ((q9nd9 (q9eq9 (y.2.1) (a)) (q9eqB x y.2.2 i))))) ((q9nd9 (q9an9 (q9tF x) (fun w => q9nd9 (q9eq9 (w.1) (v.1)) ((q9nd9 (q9eq9 (v.2) (0)) ((q9nd9 (q9eq9 (w.2.1) (cj)) ((match q9num (q9tE x) w.2.2 with
      | some (0, l, h) => q9nd9 ((q9de9 (l) (0))) ((q9de9 (h) (0)))
      | _ => false)))))))) ((q9nd9 (cj != 1000) (q9eq9 (q9codeOf x v.1) (some 5))))))))))))
    | none => false)
  | none => false
theorem q9jTB4_oq : @q9jTB4 = @q9jTB4_o := by
  delta q9jTB4 q9jTB4_o
  simp only [q9ge9_eq, q9fi9_eq, q9an9_eq, q9al9_eq, q9flt9_eq, q9el9_eq, q9set9_eq, q9ln9_eq, q9gD9_eq, q9ap9_eq, q9eq9_N, q9eq9_I, q9eq9_A, q9eq9_E, q9eq9_OI, q9eq9_ON, q9eq9_OA, q9eq9_L, q9eq9_S, q9de9_N, q9de9_I, q9de9_A, q9le9_N, q9le9_I, q9lt9_N, q9lt9_I, q9de9_E, q9de9_OI, q9de9_ON, q9de9_OA, q9de9_L, q9nd9_eq, q9or9_eq, Bool.cond_decide]
/-- the same value, by what is known -/
noncomputable def q9eqV_o (x : q9ST) (a b : q9AV) : Bool := a == b || (q9okAV (q9tE x) a && (q9okAV (q9tE x) b && (q9isInt x a && (q9isInt x b && (q9leB x a b 0 && q9leB x b a 0)))))
noncomputable def q9eqV (x : q9ST) (a b : q9AV) : Bool := q9or9 (q9eq9 (a) (b)) ((q9nd9 (q9okAV (q9tE x) a) ((q9nd9 (q9okAV (q9tE x) b) ((q9nd9 (q9isInt x a) ((q9nd9 (q9isInt x b) ((q9nd9 (q9leB x a b 0) (q9leB x b a 0)))))))))))
theorem q9eqV_oq : @q9eqV = @q9eqV_o := by
  delta q9eqV q9eqV_o
  simp only [q9ge9_eq, q9fi9_eq, q9an9_eq, q9al9_eq, q9flt9_eq, q9el9_eq, q9set9_eq, q9ln9_eq, q9gD9_eq, q9ap9_eq, q9eq9_N, q9eq9_I, q9eq9_A, q9eq9_E, q9eq9_OI, q9eq9_ON, q9eq9_OA, q9eq9_L, q9eq9_S, q9de9_N, q9de9_I, q9de9_A, q9le9_N, q9le9_I, q9lt9_N, q9lt9_I, q9de9_E, q9de9_OI, q9de9_ON, q9de9_OA, q9de9_L, q9nd9_eq, q9or9_eq, Bool.cond_decide]
theorem q9eqV_ok {nL : Nat} {g : List Value} {x : q9ST} {r : Nat → Value} {G : q9GH} {ws : va_W} {ls : Array Slot} {st : List Value} (hM : q9SM O nL g x r G ws ls st) {a b : q9AV} (h : q9eqV x a b = true) : q9ev r a = q9ev r b := by
  (rewrite [q9eqV_oq] at h; unfold q9eqV_o at h)
  rcases Bool.or_eq_true _ _ ▸ h with h | h
  · rw [eq_of_beq h]
  · simp only [Bool.and_eq_true] at h
    obtain ⟨h1, h2, h3, h4, h5, h6⟩ := h
    obtain ⟨u, hu⟩ := q9isInt_ok hM.2.2.2.1 h1 h3
    obtain ⟨w, hw⟩ := q9isInt_ok hM.2.2.2.1 h2 h4
    have k1 := q9leB_ok hM h1 h2 h5
    have k2 := q9leB_ok hM h2 h1 h6
    rw [hu, hw] at k1 k2
    have k1 : u.toInt ≤ w.toInt + 0 := k1
    have k2 : w.toInt ≤ u.toInt + 0 := k2
    have : u = w := Int32.toInt_inj.mp (by omega)
    rw [hu, hw, this]
theorem q9zero_ev0 {G : q9GH} {E : List q9ET} {r : Nat → Value} (hS : q9SAT G E r) (h : E[0]? = some (0, 0, 0)) : q9ev r (0, 0) = .int 0 := q9zero_ev hS h 0
/-- a store that what is known of the puppets bears: puppet p's own number; a new puppet behind the last -/
noncomputable def q9jTS4_o (x : q9ST) (cd : Nat) (a i v : q9AV) (z : Nat × q9AV × q9AV) : Bool := match q9famE (q9tE x) z.1 with
  | some c => (match q9pqS c with
    | some (s, cj, _, rk) => ((cd == rk && (q9leB x i z.2.2 (-s) && q9leB x z.2.2 i s)) || ((c == -153 || c == -155) && (cd == 153 && (z.2.1 == a && (q9leB x i z.2.2 (-s) && q9leB x z.2.2 i s))))) || (cd == 153 && (z.2.1 == a && ((q9tA x).any (fun y => q9famE (q9tE x) y.1 == some (-150) && (y.2.1 == a && q9eqB x y.2.2 i)) && ((q9tF x).any (fun w => w.1 == v.1 && (v.2 == 0 && (w.2.1 == cj && (match q9num (q9tE x) w.2.2 with
      | some (0, l, h) => decide (l = 0) && decide (h = 0)
      | _ => false)))) && (cj != 1000 && q9codeOf x v.1 == some 7)))))
    | none => false)
  | none => false
noncomputable def q9jTS4 (x : q9ST) (cd : Nat) (a i v : q9AV) (z : Nat × q9AV × q9AV) : Bool := match q9famE (q9tE x) z.1 with
  | some c => (match q9pqS c with
    | some (s, cj, _, rk) => q9or9 ((q9or9 ((q9nd9 (q9eq9 (cd) (rk)) ((q9nd9 (q9leB x i z.2.2 (-s)) (q9leB x z.2.2 i s))))) ((q9nd9 ((q9or9 (q9eq9 (c) (-153)) (q9eq9 (c) (-155)))) ((q9nd9 (q9eq9 (cd) (153)) ((q9nd9 (q9eq9 (z.2.1) (a)) ((q9nd9 (q9leB x i z.2.2 (-s)) (q9leB x z.2.2 i s))))))))))) ((q9nd9 (q9eq9 (cd) (153)) ((q9nd9 (q9eq9 (z.2.1) (a)) ((q9nd9 (q9an9 (q9tA x) (fun y => q9nd9 (q9eq9 (q9famE (q9tE x) y.1) (some (-150))) ((q9nd9 (q9eq9 (y.2.1) (a)) (q9eqB x y.2.2 i))))) ((q9nd9 (q9an9 (q9tF x) (fun w => q9nd9 (q9eq9 (w.1) (v.1)) ((q9nd9 (q9eq9 (v.2) (0)) ((q9nd9 (q9eq9 (w.2.1) (cj)) ((match q9num (q9tE x) w.2.2 with
      | some (0, l, h) => q9nd9 ((q9de9 (l) (0))) ((q9de9 (h) (0)))
      | _ => false)))))))) ((q9nd9 (cj != 1000) (q9eq9 (q9codeOf x v.1) (some 7))))))))))))
    | none => false)
  | none => false
theorem q9jTS4_oq : @q9jTS4 = @q9jTS4_o := by
  delta q9jTS4 q9jTS4_o
  simp only [q9ge9_eq, q9fi9_eq, q9an9_eq, q9al9_eq, q9flt9_eq, q9el9_eq, q9set9_eq, q9ln9_eq, q9gD9_eq, q9ap9_eq, q9eq9_N, q9eq9_I, q9eq9_A, q9eq9_E, q9eq9_OI, q9eq9_ON, q9eq9_OA, q9eq9_L, q9eq9_S, q9de9_N, q9de9_I, q9de9_A, q9le9_N, q9le9_I, q9lt9_N, q9lt9_I, q9de9_E, q9de9_OI, q9de9_ON, q9de9_OA, q9de9_L, q9nd9_eq, q9or9_eq, Bool.cond_decide]
/-- a store that what is read of a text bears -/
noncomputable def q9jTB5_o (x : q9ST) (cd : Nat) (i : q9AV) (z : Nat × q9AV × q9AV) : Bool := match q9famE (q9tE x) z.1 with
  | some c => if -103 ≤ c then false else (match q9famS c with
    | some (_, cds, _, _) => cds.elem cd && q9leB x z.2.2 i 0
    | none => match q9famD c with
      | some (cd', _, _, lv) => cd == cd' && (q9tX x).any (fun q => q.1 == 1021 && (q.2.1 == z.2.2 && (q.2.2.1 == ((0, 0) : q9AV) && (q9okAV (q9tE x) (q.2.2.2, 0) && q9leB x (q.2.2.2, 0) i ((lv : Int) - 1)))))
      | none => match q9famZ c with
        | some (sz, op) => cd == 185 && (q9tX x).any (fun q => (q.1 == sz && (q.2.1 == z.2.2 && (q.2.2.1 == ((0, 0) : q9AV) && (q9okAV (q9tE x) (q.2.2.2, 0) && q9leB x (q.2.2.2, 0) i 0)))) || (q.1 == op && (q.2.1 == z.2.2 && ((match q9num (q9tE x) q.2.2.1 with
            | some (0, l, _) => decide (1 ≤ l)
            | _ => false) && (q9okAV (q9tE x) q.2.2.1 && q9eqV x (q.2.2.2, 0) i)))))
        | none => false)
  | none => false
noncomputable def q9jTB5 (x : q9ST) (cd : Nat) (i : q9AV) (z : Nat × q9AV × q9AV) : Bool := match q9famE (q9tE x) z.1 with
  | some c => bif q9le9 (-103) (c) then false else (match q9famS c with
    | some (_, cds, _, _) => q9nd9 (q9el9 cds cd) (q9leB x z.2.2 i 0)
    | none => match q9famD c with
      | some (cd', _, _, lv) => q9nd9 (q9eq9 (cd) (cd')) (q9an9 (q9tX x) (fun q => q9nd9 (q9eq9 (q.1) (1021)) ((q9nd9 (q9eq9 (q.2.1) (z.2.2)) ((q9nd9 (q9eq9 (q.2.2.1) (((0, 0) : q9AV))) ((q9nd9 (q9okAV (q9tE x) (q.2.2.2, 0)) (q9leB x (q.2.2.2, 0) i ((lv : Int) - 1))))))))))
      | none => match q9famZ c with
        | some (sz, op) => q9nd9 (q9eq9 (cd) (185)) (q9an9 (q9tX x) (fun q => q9or9 ((q9nd9 (q9eq9 (q.1) (sz)) ((q9nd9 (q9eq9 (q.2.1) (z.2.2)) ((q9nd9 (q9eq9 (q.2.2.1) (((0, 0) : q9AV))) ((q9nd9 (q9okAV (q9tE x) (q.2.2.2, 0)) (q9leB x (q.2.2.2, 0) i 0))))))))) ((q9nd9 (q9eq9 (q.1) (op)) ((q9nd9 (q9eq9 (q.2.1) (z.2.2)) ((q9nd9 ((match q9num (q9tE x) q.2.2.1 with
            | some (0, l, _) => (q9le9 (1) (l))
            | _ => false)) ((q9nd9 (q9okAV (q9tE x) q.2.2.1) (q9eqV x (q.2.2.2, 0) i)))))))))))
        | none => false)
  | none => false
theorem q9jTB5_oq : @q9jTB5 = @q9jTB5_o := by
  delta q9jTB5 q9jTB5_o
  simp only [q9ge9_eq, q9fi9_eq, q9an9_eq, q9al9_eq, q9flt9_eq, q9el9_eq, q9set9_eq, q9ln9_eq, q9gD9_eq, q9ap9_eq, q9eq9_N, q9eq9_I, q9eq9_A, q9eq9_E, q9eq9_OI, q9eq9_ON, q9eq9_OA, q9eq9_L, q9eq9_S, q9de9_N, q9de9_I, q9de9_A, q9le9_N, q9le9_I, q9lt9_N, q9lt9_I, q9de9_E, q9de9_OI, q9de9_ON, q9de9_OA, q9de9_L, q9nd9_eq, q9or9_eq, Bool.cond_decide]
/-! stores that what is known of painted frames bears -/
noncomputable def q9rgB_o (x : q9ST) (a : q9AV) (lo hi : Int) : Bool := q9okAV (q9tE x) a && (match q9num (q9tE x) a with
  | some (0, l, h) => decide (lo ≤ l) && decide (h ≤ hi)
  | _ => false)
noncomputable def q9rgB (x : q9ST) (a : q9AV) (lo hi : Int) : Bool := q9nd9 (q9okAV (q9tE x) a) ((match q9num (q9tE x) a with
  | some (0, l, h) => q9nd9 ((q9le9 (lo) (l))) ((q9le9 (h) (hi)))
  | _ => false))
theorem q9rgB_oq : @q9rgB = @q9rgB_o := by
  delta q9rgB q9rgB_o
  simp only [q9ge9_eq, q9fi9_eq, q9an9_eq, q9al9_eq, q9flt9_eq, q9el9_eq, q9set9_eq, q9ln9_eq, q9gD9_eq, q9ap9_eq, q9eq9_N, q9eq9_I, q9eq9_A, q9eq9_E, q9eq9_OI, q9eq9_ON, q9eq9_OA, q9eq9_L, q9eq9_S, q9de9_N, q9de9_I, q9de9_A, q9le9_N, q9le9_I, q9lt9_N, q9lt9_I, q9de9_E, q9de9_OI, q9de9_ON, q9de9_OA, q9de9_L, q9nd9_eq, q9or9_eq, Bool.cond_decide]
/-- a place of the reference's array: 400 k and f -/
noncomputable def q9plK_o (x : q9ST) (i : q9AV) (P : q9AV → q9AV → Bool) : Bool := (q9tX x).any (fun p => p.1 == 0 && (p.2.1.2 == 0 && (q9eqV x (p.2.2.2, 0) i && (q9tX x).any (fun q => q.1 == 2 && (q.2.1 == ((0, 400) : q9AV) && (q.2.2.2 == p.2.1.1 && (q9rgB x q.2.2.1 0 11 && (q9rgB x p.2.2.1 0 399 && P q.2.2.1 p.2.2.1))))))))
noncomputable def q9plK (x : q9ST) (i : q9AV) (P : q9AV → q9AV → Bool) : Bool := q9an9 (q9tX x) (fun p => q9nd9 (q9eq9 (p.1) (0)) ((q9nd9 (q9eq9 (p.2.1.2) (0)) ((q9nd9 (q9eqV x (p.2.2.2, 0) i) (q9an9 (q9tX x) (fun q => q9nd9 (q9eq9 (q.1) (2)) ((q9nd9 (q9eq9 (q.2.1) (((0, 400) : q9AV))) ((q9nd9 (q9eq9 (q.2.2.2) (p.2.1.1)) ((q9nd9 (q9rgB x q.2.2.1 0 11) ((q9nd9 (q9rgB x p.2.2.1 0 399) (P q.2.2.1 p.2.2.1))))))))))))))))
theorem q9plK_oq : @q9plK = @q9plK_o := by
  delta q9plK q9plK_o
  simp only [q9ge9_eq, q9fi9_eq, q9an9_eq, q9al9_eq, q9flt9_eq, q9el9_eq, q9set9_eq, q9ln9_eq, q9gD9_eq, q9ap9_eq, q9eq9_N, q9eq9_I, q9eq9_A, q9eq9_E, q9eq9_OI, q9eq9_ON, q9eq9_OA, q9eq9_L, q9eq9_S, q9de9_N, q9de9_I, q9de9_A, q9le9_N, q9le9_I, q9lt9_N, q9lt9_I, q9de9_E, q9de9_OI, q9de9_ON, q9de9_OA, q9de9_L, q9nd9_eq, q9or9_eq, Bool.cond_decide]
/-- the script's n-th int of the round -/
noncomputable def q9scrB_o (x : q9ST) (n : Int) (k : q9AV) : Bool := (q9tX x).any (fun q => q.1 == 1063 && (q.2.1 == ((0, n) : q9AV) && (q.2.2.1 == ((0, 0) : q9AV) && q9eqV x (q.2.2.2, 0) k)))
noncomputable def q9scrB (x : q9ST) (n : Int) (k : q9AV) : Bool := q9an9 (q9tX x) (fun q => q9nd9 (q9eq9 (q.1) (1063)) ((q9nd9 (q9eq9 (q.2.1) (((0, n) : q9AV))) ((q9nd9 (q9eq9 (q.2.2.1) (((0, 0) : q9AV))) (q9eqV x (q.2.2.2, 0) k))))))
theorem q9scrB_oq : @q9scrB = @q9scrB_o := by
  delta q9scrB q9scrB_o
  simp only [q9ge9_eq, q9fi9_eq, q9an9_eq, q9al9_eq, q9flt9_eq, q9el9_eq, q9set9_eq, q9ln9_eq, q9gD9_eq, q9ap9_eq, q9eq9_N, q9eq9_I, q9eq9_A, q9eq9_E, q9eq9_OI, q9eq9_ON, q9eq9_OA, q9eq9_L, q9eq9_S, q9de9_N, q9de9_I, q9de9_A, q9le9_N, q9le9_I, q9lt9_N, q9lt9_I, q9de9_E, q9de9_OI, q9de9_ON, q9de9_OA, q9de9_L, q9nd9_eq, q9or9_eq, Bool.cond_decide]
noncomputable def q9jT7s_o (x : q9ST) (a i v : q9AV) (z : Nat × q9AV × q9AV) : Bool := z.2.1 == a && (q9leB x i z.2.2 (-13000) && (q9leB x z.2.2 i 13000 && (v.2 == 0 && (q9codeOf x v.1 == some 7 && (q9tF x).any (fun w => w.1 == v.1 && (w.2.1 == 14 && (q9tA x).any (fun y => q9famE (q9tE x) y.1 == some (-159) && (y.2.1 == w.2.2 && y.2.2 == a))))))))
noncomputable def q9jT7s (x : q9ST) (a i v : q9AV) (z : Nat × q9AV × q9AV) : Bool := q9nd9 (q9eq9 (z.2.1) (a)) ((q9nd9 (q9leB x i z.2.2 (-13000)) ((q9nd9 (q9leB x z.2.2 i 13000) ((q9nd9 (q9eq9 (v.2) (0)) ((q9nd9 (q9eq9 (q9codeOf x v.1) (some 7)) (q9an9 (q9tF x) (fun w => q9nd9 (q9eq9 (w.1) (v.1)) ((q9nd9 (q9eq9 (w.2.1) (14)) (q9an9 (q9tA x) (fun y => q9nd9 (q9eq9 (q9famE (q9tE x) y.1) (some (-159))) ((q9nd9 (q9eq9 (y.2.1) (w.2.2)) (q9eq9 (y.2.2) (a))))))))))))))))))
theorem q9jT7s_oq : @q9jT7s = @q9jT7s_o := by
  delta q9jT7s q9jT7s_o
  simp only [q9ge9_eq, q9fi9_eq, q9an9_eq, q9al9_eq, q9flt9_eq, q9el9_eq, q9set9_eq, q9ln9_eq, q9gD9_eq, q9ap9_eq, q9eq9_N, q9eq9_I, q9eq9_A, q9eq9_E, q9eq9_OI, q9eq9_ON, q9eq9_OA, q9eq9_L, q9eq9_S, q9de9_N, q9de9_I, q9de9_A, q9le9_N, q9le9_I, q9lt9_N, q9lt9_I, q9de9_E, q9de9_OI, q9de9_ON, q9de9_OA, q9de9_L, q9nd9_eq, q9or9_eq, Bool.cond_decide]
noncomputable def q9jT7c_o (x : q9ST) (a : q9AV) (z : Nat × q9AV × q9AV) : Bool := z.2.1.2 == 0 && (q9tA x).any (fun q => q.1 == z.2.1.1 && (q.2.2.2 == 0 && (q9codeOf x q.2.2.1 == some 7 && (q9rgB x q.2.1 0 11 && (q9leB x q.2.1 z.2.2 (-13000) && (q9leB x z.2.2 q.2.1 13000 && (q9tF x).any (fun w => w.1 == q.2.2.1 && (w.2.1 == 14 && w.2.2 == a))))))))
noncomputable def q9jT7c (x : q9ST) (a : q9AV) (z : Nat × q9AV × q9AV) : Bool := q9nd9 (q9eq9 (z.2.1.2) (0)) (q9an9 (q9tA x) (fun q => q9nd9 (q9eq9 (q.1) (z.2.1.1)) ((q9nd9 (q9eq9 (q.2.2.2) (0)) ((q9nd9 (q9eq9 (q9codeOf x q.2.2.1) (some 7)) ((q9nd9 (q9rgB x q.2.1 0 11) ((q9nd9 (q9leB x q.2.1 z.2.2 (-13000)) ((q9nd9 (q9leB x z.2.2 q.2.1 13000) (q9an9 (q9tF x) (fun w => q9nd9 (q9eq9 (w.1) (q.2.2.1)) ((q9nd9 (q9eq9 (w.2.1) (14)) (q9eq9 (w.2.2) (a))))))))))))))))))
theorem q9jT7c_oq : @q9jT7c = @q9jT7c_o := by
  delta q9jT7c q9jT7c_o
  simp only [q9ge9_eq, q9fi9_eq, q9an9_eq, q9al9_eq, q9flt9_eq, q9el9_eq, q9set9_eq, q9ln9_eq, q9gD9_eq, q9ap9_eq, q9eq9_N, q9eq9_I, q9eq9_A, q9eq9_E, q9eq9_OI, q9eq9_ON, q9eq9_OA, q9eq9_L, q9eq9_S, q9de9_N, q9de9_I, q9de9_A, q9le9_N, q9le9_I, q9lt9_N, q9lt9_I, q9de9_E, q9de9_OI, q9de9_ON, q9de9_OA, q9de9_L, q9nd9_eq, q9or9_eq, Bool.cond_decide]
noncomputable def q9jT7m_o (x : q9ST) (i : q9AV) (z : Nat × q9AV × q9AV) : Bool := q9plK x i (fun k _ => q9leB x k z.2.2 (-13000) && q9leB x z.2.2 k 13000)
noncomputable def q9jT7m (x : q9ST) (i : q9AV) (z : Nat × q9AV × q9AV) : Bool := q9plK x i (fun k _ => q9nd9 (q9leB x k z.2.2 (-13000)) (q9leB x z.2.2 k 13000))
theorem q9jT7m_oq : @q9jT7m = @q9jT7m_o := by
  delta q9jT7m q9jT7m_o
  simp only [q9ge9_eq, q9fi9_eq, q9an9_eq, q9al9_eq, q9flt9_eq, q9el9_eq, q9set9_eq, q9ln9_eq, q9gD9_eq, q9ap9_eq, q9eq9_N, q9eq9_I, q9eq9_A, q9eq9_E, q9eq9_OI, q9eq9_ON, q9eq9_OA, q9eq9_L, q9eq9_S, q9de9_N, q9de9_I, q9de9_A, q9le9_N, q9le9_I, q9lt9_N, q9lt9_I, q9de9_E, q9de9_OI, q9de9_ON, q9de9_OA, q9de9_L, q9nd9_eq, q9or9_eq, Bool.cond_decide]
noncomputable def q9jTN_o (x : q9ST) (cd : Nat) (a i v : q9AV) (z : Nat × q9AV × q9AV) : Bool := match q9famE (q9tE x) z.1 with
  | some c => if c = -157 then (cd == 153 && q9jT7s x a i v z) || ((cd == 151 && q9jT7c x a z) || (cd == 201 && q9jT7m x i z))
    else if c = -149 then cd == 201 && (q9rgB x v 0 0 || q9plK x i (fun k _ => q9leB x k z.2.2 (-1)))
    else if c = -146 ∨ c = -148 then cd == 151 && (z.2.1 == a && (q9leB x i z.2.2 (-20000) && q9leB x z.2.2 i 20000))
    else if c = -145 ∨ c = -144 then cd == 201 && (z.2.1 == a && q9plK x i (fun k f => q9leB x f z.2.2 (-20000) && (q9leB x z.2.2 f 20000 && q9scrB x 1 k)))
    else false
  | none => false
noncomputable def q9jTN (x : q9ST) (cd : Nat) (a i v : q9AV) (z : Nat × q9AV × q9AV) : Bool := match q9famE (q9tE x) z.1 with
  | some c => bif q9de9 (c) (-157) then q9or9 ((q9nd9 (q9eq9 (cd) (153)) (q9jT7s x a i v z))) ((q9or9 ((q9nd9 (q9eq9 (cd) (151)) (q9jT7c x a z))) ((q9nd9 (q9eq9 (cd) (201)) (q9jT7m x i z)))))
    else bif q9de9 (c) (-149) then q9nd9 (q9eq9 (cd) (201)) ((q9or9 (q9rgB x v 0 0) (q9plK x i (fun k _ => q9leB x k z.2.2 (-1)))))
    else if c = -146 ∨ c = -148 then q9nd9 (q9eq9 (cd) (151)) ((q9nd9 (q9eq9 (z.2.1) (a)) ((q9nd9 (q9leB x i z.2.2 (-20000)) (q9leB x z.2.2 i 20000)))))
    else if c = -145 ∨ c = -144 then q9nd9 (q9eq9 (cd) (201)) ((q9nd9 (q9eq9 (z.2.1) (a)) (q9plK x i (fun k f => q9nd9 (q9leB x f z.2.2 (-20000)) ((q9nd9 (q9leB x z.2.2 f 20000) (q9scrB x 1 k)))))))
    else false
  | none => false
theorem q9jTN_oq : @q9jTN = @q9jTN_o := by
  delta q9jTN q9jTN_o
  simp only [q9ge9_eq, q9fi9_eq, q9an9_eq, q9al9_eq, q9flt9_eq, q9el9_eq, q9set9_eq, q9ln9_eq, q9gD9_eq, q9ap9_eq, q9eq9_N, q9eq9_I, q9eq9_A, q9eq9_E, q9eq9_OI, q9eq9_ON, q9eq9_OA, q9eq9_L, q9eq9_S, q9de9_N, q9de9_I, q9de9_A, q9le9_N, q9le9_I, q9lt9_N, q9lt9_I, q9de9_E, q9de9_OI, q9de9_ON, q9de9_OA, q9de9_L, q9nd9_eq, q9or9_eq, Bool.cond_decide]
noncomputable def q9jTB_o (x : q9ST) (cd : Nat) (a i v : q9AV) (z : Nat × q9AV × q9AV) : Bool := q9jTB4 x cd a i v z || (q9zeroB x && q9jTB5 x cd i z) || q9jTS4 x cd a i v z || (q9zeroB x && q9jTN x cd a i v z)
noncomputable def q9jTB (x : q9ST) (cd : Nat) (a i v : q9AV) (z : Nat × q9AV × q9AV) : Bool := q9or9 (q9or9 (q9or9 (q9jTB4 x cd a i v z) ((q9nd9 (q9zeroB x) (q9jTB5 x cd i z)))) (q9jTS4 x cd a i v z)) ((q9nd9 (q9zeroB x) (q9jTN x cd a i v z)))
theorem q9jTB_oq : @q9jTB = @q9jTB_o := by
  delta q9jTB q9jTB_o
  simp only [q9ge9_eq, q9fi9_eq, q9an9_eq, q9al9_eq, q9flt9_eq, q9el9_eq, q9set9_eq, q9ln9_eq, q9gD9_eq, q9ap9_eq, q9eq9_N, q9eq9_I, q9eq9_A, q9eq9_E, q9eq9_OI, q9eq9_ON, q9eq9_OA, q9eq9_L, q9eq9_S, q9de9_N, q9de9_I, q9de9_A, q9le9_N, q9le9_I, q9lt9_N, q9lt9_I, q9de9_E, q9de9_OI, q9de9_ON, q9de9_OA, q9de9_L, q9nd9_eq, q9or9_eq, Bool.cond_decide]
/-- q9one puppet q9more -/
noncomputable def q9stCq_o (x : q9ST) (cd : Nat) (a i v : q9AV) : Bool := cd == 152 && (q9okAV (q9tE x) (i.1, i.2 + 1) && ((match q9num (q9tE x) i with
  | some (0, l, h) => decide (0 ≤ l) && decide (h < 8)
  | _ => false) && (q9tA x).any (fun y => q9famE (q9tE x) y.1 == some (-101) && (y.2.1 == v && y.2.2 == a))))
noncomputable def q9stCq (x : q9ST) (cd : Nat) (a i v : q9AV) : Bool := q9nd9 (q9eq9 (cd) (152)) ((q9nd9 (q9okAV (q9tE x) (i.1, i.2 + 1)) ((q9nd9 ((match q9num (q9tE x) i with
  | some (0, l, h) => q9nd9 ((q9le9 (0) (l))) ((q9lt9 (h) (8)))
  | _ => false)) (q9an9 (q9tA x) (fun y => q9nd9 (q9eq9 (q9famE (q9tE x) y.1) (some (-101))) ((q9nd9 (q9eq9 (y.2.1) (v)) (q9eq9 (y.2.2) (a))))))))))
theorem q9stCq_oq : @q9stCq = @q9stCq_o := by
  delta q9stCq q9stCq_o
  simp only [q9ge9_eq, q9fi9_eq, q9an9_eq, q9al9_eq, q9flt9_eq, q9el9_eq, q9set9_eq, q9ln9_eq, q9gD9_eq, q9ap9_eq, q9eq9_N, q9eq9_I, q9eq9_A, q9eq9_E, q9eq9_OI, q9eq9_ON, q9eq9_OA, q9eq9_L, q9eq9_S, q9de9_N, q9de9_I, q9de9_A, q9le9_N, q9le9_I, q9lt9_N, q9lt9_I, q9de9_E, q9de9_OI, q9de9_ON, q9de9_OA, q9de9_L, q9nd9_eq, q9or9_eq, Bool.cond_decide]
noncomputable def q9stA0_o (x : q9ST) (cd : Nat) (a i v : q9AV) : List (Nat × q9AV × q9AV) := if q9stCq x cd a i v = true then
  ((q9tA x).filter (fun z => q9famE (q9tE x) z.1 == some (-100) && (z.2.1 == a && q9eqB x z.2.2 i))).map (fun z => (z.1, a, (i.1, i.2 + 1))) else []
noncomputable def q9stA0 (x : q9ST) (cd : Nat) (a i v : q9AV) : List (Nat × q9AV × q9AV) := if q9stCq x cd a i v = true then
  (q9flt9 (q9tA x) (fun z => q9nd9 (q9eq9 (q9famE (q9tE x) z.1) (some (-100))) ((q9nd9 (q9eq9 (z.2.1) (a)) (q9eqB x z.2.2 i))))).map (fun z => (z.1, a, (i.1, i.2 + 1))) else []
theorem q9stA0_oq : @q9stA0 = @q9stA0_o := by
  delta q9stA0 q9stA0_o
  simp only [q9ge9_eq, q9fi9_eq, q9an9_eq, q9al9_eq, q9flt9_eq, q9el9_eq, q9set9_eq, q9ln9_eq, q9gD9_eq, q9ap9_eq, q9eq9_N, q9eq9_I, q9eq9_A, q9eq9_E, q9eq9_OI, q9eq9_ON, q9eq9_OA, q9eq9_L, q9eq9_S, q9de9_N, q9de9_I, q9de9_A, q9le9_N, q9le9_I, q9lt9_N, q9lt9_I, q9de9_E, q9de9_OI, q9de9_ON, q9de9_OA, q9de9_L, q9nd9_eq, q9or9_eq, Bool.cond_decide]
theorem q9puA.st {G : q9GH} {ws : va_W} {A : Nat → Prop} (hD : va_D A ws) {a qi b y z : Nat} {cA : ClassId} {n' : Nat} {f : Nat → Option Nat} (h : q9puA G ws a f) (h9 : ws[qi]? = some (b, .inl (cA, n', .inr (.inr (.inr (.inr f)))))) (hab : a = b) : q9puA G (ws.set qi (b, q9upE (.inl (cA, n', .inr (.inr (.inr (.inr f))))) y (.ref z))) a (va_up f y (some z)) := by
  subst hab
  obtain ⟨q, k, n9, cA9, h1, h2⟩ := h
  have hq : q = qi := hD.1 q qi _ _ h2 h9 rfl
  subst hq
  exact ⟨q, k, n', cA, h1, by rw [List.getElem?_set_self (List.getElem?_eq_some_iff.mp h9).1]; rfl⟩
theorem q9jTB4_ok {nL : Nat} {g : List Value} {x : q9ST} {r : Nat → Value} {G : q9GH} {ws : va_W} {ls : Array Slot} {st : List Value} (hM : q9SM O nL g x r G ws ls st) (hw : q9wfB x = true) {cT : Nat → ClassId} {B : q9TB} (hT : q9tyW cT B G ws) {A : Nat → Prop} (hD : va_D A ws) {z : Nat × q9AV × q9AV} (hz : z ∈ q9tA x) {cd : Nat} {a i v : q9AV} {b qi n : Nat} {ce : va_E} (hi9 : q9okAV (q9tE x) i = true) (hb : q9ev r a = .ref b) (g1 : G[qi]? = some (b, cd, n)) (g2 : ws[qi]? = some (b, ce)) {y : Int32} (hy : q9ev r i = .int y) (hy0 : 0 ≤ y.toInt) (h : q9jTB4 x cd a i v z = true) : q9JA O G (ws.set qi (b, q9upE ce y.toNatClampNeg (q9ev r v))) (r z.1) (q9ev r z.2.1) (q9ev r z.2.2) := by
  have ey : y.toNatClampNeg = y.toInt.toNat := rfl
  (rewrite [q9jTB4_oq] at h; unfold q9jTB4_o at h)
  split at h
  · rename_i c hc
    split at h
    · rename_i s cj rj rk hp
      obtain ⟨c1, c2⟩ := q9pqC_ok hp
      have hP := q9fm_of hM hz hc c1
      rw [c2] at hP
      obtain ⟨a0, p, f, m, fs0, b0, M, e1, e2, e3, e4, e5, e6, e7⟩ := hP
      refine .inr ⟨c, q9famE_ok hM.2.2.2.1 hc c1, c1, ?_⟩
      rw [c2]
      have wz := q9wf_A hw z hz
      rcases Bool.or_eq_true _ _ ▸ h with h | h
      · -- the reference's number
        simp only [Bool.and_eq_true, beq_iff_eq] at h
        obtain ⟨h1, h2, h3⟩ := h
        subst h1
        have l1 := q9leB_ok hM hi9 wz.2.2 h2
        have l2 := q9leB_ok hM wz.2.2 hi9 h3
        rw [hy, e2] at l1
        rw [hy, e2] at l2
        have l1 : y.toInt ≤ p.toInt + -(s : Int) := l1
        have l2 : p.toInt ≤ y.toInt + s := l2
        have hrk : cd ≠ 152 ∧ cd ≠ 12 ∧ cd ≠ 5 := by
          (rewrite [q9pqC_oq] at hp; unfold q9pqC_o at hp)
          split at hp
          · cases hp; decide
          · split at hp
            · cases hp; decide
            · cases hp
        have pcode : ∀ (o co ko : Nat), (∃ qo : Nat, G[qo]? = some (o, co, ko)) → co ≠ cd → o ≠ b := by
          rintro o co ko ⟨qo, ho⟩ hne rfl
          exact hne (hT.one hD (List.mem_of_getElem? ho) (List.mem_of_getElem? g1)).1
        have f3 : q9puA G (ws.set qi (b, q9upE ce y.toNatClampNeg (q9ev r v))) a0 f := e3.set g2 fun hh => by
          obtain ⟨q, k, n', cA, w1, w2⟩ := e3
          exact absurd hh (pcode a0 152 k ⟨q, w1⟩ (fun h => hrk.1 h.symm))
        have f4 : q9obA G (ws.set qi (b, q9upE ce y.toNatClampNeg (q9ev r v))) m 12 12 fs0 := e4.set g2 fun hh => by
          obtain ⟨q, k, w1, w2⟩ := e4
          exact absurd hh (pcode m 12 k ⟨q, w1⟩ (fun h => hrk.2.1 h.symm))
        have f6 : ∃ M' : Nat → Int32, q9inA G (ws.set qi (b, q9upE ce y.toNatClampNeg (q9ev r v))) b0 cd M' ∧ ∀ j : Nat, j ≠ y.toNatClampNeg → M' j = M j := by
          by_cases hbb : b0 = b
          · subst hbb
            obtain ⟨q, k, n', cA, w1, w2⟩ := e6
            have hq : q = qi := hD.1 q qi _ _ w2 g2 rfl
            subst hq
            rw [w2] at g2
            cases g2
            obtain ⟨f', u1, u2⟩ := q9upE_int (cA := cA) (n := n') (j := y.toNatClampNeg) (f := M) (v := q9ev r v)
            exact ⟨f', ⟨q, k, n', cA, w1, by rw [List.getElem?_set_self (List.getElem?_eq_some_iff.mp w2).1, u1]⟩, u2⟩
          · exact ⟨M, e6.set g2 fun hh => absurd hh hbb, fun _ _ => rfl⟩
        obtain ⟨M', f6, f7⟩ := f6
        refine ⟨a0, p, f, m, fs0, b0, M', e1, e2, f3, f4, e5, f6, fun t ht hp' => ?_⟩
        have ht9 : t ≠ y.toNatClampNeg := by omega
        rw [f7 t ht9]
        refine ⟨(e7 t ht hp').1, fun o ho => ?_⟩
        obtain ⟨gs, g3, g4⟩ := (e7 t ht hp').2 o ho
        refine ⟨gs, g3.set g2 fun hh => ?_, g4⟩
        obtain ⟨q, k, w1, w2⟩ := g3
        exact absurd hh (pcode o 5 k ⟨q, w1⟩ (fun h => hrk.2.2 h.symm))
      · -- q9one puppet q9more
        simp only [Bool.and_eq_true, beq_iff_eq, List.any_eq_true, bne_iff_ne] at h
        obtain ⟨h1, h2, ⟨w, w1, w2, w3, w4⟩, ⟨u, u1, u2, u3, u4, u5⟩, h6, h7⟩ := h
        subst h1
        have hN := q9fm_of hM w1 w2 (by decide)
        rw [q9FMP_na, w3, hb] at hN
        obtain ⟨a1, n1, f1, k1, k2, k3, k4, k5, k6, k7⟩ := hN
        cases k1
        rw [h2, hb] at e1
        cases e1
        have hff := q9puA.one hD e3 k3
        subst hff
        have hn := q9eqB_ok hM hi9 hy w4
        rw [k2] at hn
        cases hn
        -- what is stored
        obtain ⟨o9, no, ro, mo⟩ := q9codeOf_ok hM.2.2.2.1 h7
        have ev9 : q9ev r v = .ref o9 := by
          unfold q9ev
          rw [ro]
        have hF := hM.2.2.2.2.1 u u1
        unfold q9FMok at hF
        rw [if_neg (by rw [u4]; exact h6)] at hF
        obtain ⟨a2, i2, ci2, fs2, v1, v2, v3⟩ := hF
        rw [u2, ro] at v1
        cases v1
        have hz0 : q9ev r u.2.2 = .int 0 := by
          have wu := q9wf_F hw u u1
          split at u5
          · rename_i l h hn
            rw [Bool.and_eq_true, decide_eq_true_eq, decide_eq_true_eq] at u5
            obtain ⟨u', y1, -, y2, y3⟩ := q9num_int hM.2.2.2.1 wu.2 hn
            rw [y1, show u' = 0 from Int32.toInt_inj.mp (by rw [Int32.toInt_zero]; omega)]
          · cases u5
        rw [hz0, u4] at v3
        have ob9 : q9obA G ws o9 5 5 fs2 := by
          obtain ⟨qq, ee, x1, x2, x3⟩ := hT.at mo
          have hqq : i2 = qq := hD.1 i2 qq _ _ v2 x2 rfl
          subst hqq
          rw [v2] at x2
          cases x2
          rcases x3 with ⟨-, fs3, F3, x4, -⟩ | ⟨x4, -⟩
          · have x4 : ci2 = 5 ∧ fs2 = fs3 := by
              cases x4
              exact ⟨rfl, rfl⟩
            obtain ⟨rfl, rfl⟩ := x4
            exact ⟨i2, no, x1, v2⟩
          · omega
        have pcode : ∀ (o co ko : Nat), (∃ qo : Nat, G[qo]? = some (o, co, ko)) → co ≠ 152 → o ≠ b := by
          rintro o co ko ⟨qo, ho⟩ hne rfl
          exact hne (hT.one hD (List.mem_of_getElem? ho) (List.mem_of_getElem? g1)).1
        obtain ⟨q, kk, n', cA, x1, x2⟩ := e3
        have hq : q = qi := hD.1 q qi _ _ x2 g2 rfl
        subst hq
        rw [x2] at g2
        cases g2
        have f3 := q9puA.st (y := y.toNatClampNeg) (z := o9) hD ⟨q, kk, n', cA, x1, x2⟩ x2 rfl
        rw [ev9]
        refine ⟨b, p, _, m, fs0, b0, M, by rw [h2, hb], e2, f3, e4.set x2 fun _ => ⟨_, rfl⟩, e5, e6.set x2 fun hh => ?_, fun t ht hp' => ⟨fun hn => ?_, fun o ho => ?_⟩⟩
        · obtain ⟨q9, k9, n9, cA9, y1, -⟩ := e6
          exact absurd hh (pcode b0 rk k9 ⟨q9, y1⟩ (by
            (rewrite [q9pqC_oq] at hp; unfold q9pqC_o at hp)
            split at hp
            · cases hp; decide
            · split at hp
              · cases hp; decide
              · cases hp))
        · unfold va_up at hn
          split at hn
          · cases hn
          · exact (e7 t ht hp').1 hn
        · unfold va_up at ho
          split at ho
          · rename_i hty
            cases ho
            refine ⟨fs2, ob9.set x2 fun _ => ⟨_, rfl⟩, ?_⟩
            rw [v3, (e7 t ht hp').1 ((k6 t ht).mpr (by omega))]
          · obtain ⟨gs, g3, g4⟩ := (e7 t ht hp').2 o ho
            exact ⟨gs, g3.set x2 fun _ => ⟨_, rfl⟩, g4⟩
    · cases h
  · cases h
theorem q9jTB4_ref {G : q9GH} {x : q9ST} {r : Nat → Value} (hS : q9SAT G (q9tE x) r) {cd : Nat} {a i v : q9AV} {z : Nat × q9AV × q9AV} {b : Nat} (h : q9jTB4 x cd a i v z = true) (e : r z.1 = .ref b) : False := by
  (rewrite [q9jTB4_oq] at h; unfold q9jTB4_o at h)
  split at h
  · rename_i c hc
    split at h
    · rename_i s cj rj rk hp
      have h1 := q9famE_ok hS hc (q9pqC_le hp)
      rw [e] at h1
      cases h1
    · cases h
  · cases h
theorem q9inA.st {G : q9GH} {ws : va_W} {A : Nat → Prop} (hD : va_D A ws) {a cd qi b j : Nat} {ce : va_E} {v : Value} {M : Nat → Int32} (h : q9inA G ws a cd M) (g2 : ws[qi]? = some (b, ce)) : ∃ M' : Nat → Int32, q9inA G (ws.set qi (b, q9upE ce j v)) a cd M' ∧ ∀ t : Nat, t ≠ j → M' t = M t := by
  by_cases hbb : a = b
  · subst hbb
    obtain ⟨q, k, n', cA, w1, w2⟩ := h
    have hq : q = qi := hD.1 q qi _ _ w2 g2 rfl
    subst hq
    rw [w2] at g2
    cases g2
    obtain ⟨f', u1, u2⟩ := q9upE_int (cA := cA) (n := n') (j := j) (f := M) (v := v)
    exact ⟨f', ⟨q, k, n', cA, w1, by rw [List.getElem?_set_self (List.getElem?_eq_some_iff.mp w2).1, u1]⟩, u2⟩
  · exact ⟨M, h.set g2 fun hh => absurd hh hbb, fun _ _ => rfl⟩
theorem q9upE_el {j : Nat} {v : Value} {w : ClassId × vp_A} : ∃ w', q9upE (.inl w) j v = .inl w' ∧ ∀ t : Nat, t ≠ j → q9elV (.inl w') t = q9elV (.inl w) t := by
  obtain ⟨cA, n, f⟩ := w
  match f, v with
  | .inl f, .int x => exact ⟨_, rfl, fun t ht => by simp [q9elV, upd, ht]⟩
  | .inr (.inl f), .long x => exact ⟨_, rfl, fun t ht => by simp [q9elV, vp_updL, ht]⟩
  | .inr (.inr (.inr (.inr f))), .ref x => exact ⟨_, rfl, fun t ht => by simp [q9elV, va_up, ht]⟩
  | .inl f, .long _ => exact ⟨_, rfl, fun _ _ => rfl⟩
  | .inl f, .float _ => exact ⟨_, rfl, fun _ _ => rfl⟩
  | .inl f, .double _ => exact ⟨_, rfl, fun _ _ => rfl⟩
  | .inl f, .ref _ => exact ⟨_, rfl, fun _ _ => rfl⟩
  | .inl f, .null => exact ⟨_, rfl, fun _ _ => rfl⟩
  | .inl f, .retAddr _ => exact ⟨_, rfl, fun _ _ => rfl⟩
  | .inr (.inl f), .int _ => exact ⟨_, rfl, fun _ _ => rfl⟩
  | .inr (.inl f), .float _ => exact ⟨_, rfl, fun _ _ => rfl⟩
  | .inr (.inl f), .double _ => exact ⟨_, rfl, fun _ _ => rfl⟩
  | .inr (.inl f), .ref _ => exact ⟨_, rfl, fun _ _ => rfl⟩
  | .inr (.inl f), .null => exact ⟨_, rfl, fun _ _ => rfl⟩
  | .inr (.inl f), .retAddr _ => exact ⟨_, rfl, fun _ _ => rfl⟩
  | .inr (.inr (.inl f)), _ => exact ⟨_, rfl, fun _ _ => rfl⟩
  | .inr (.inr (.inr (.inl f))), _ => exact ⟨_, rfl, fun _ _ => rfl⟩
  | .inr (.inr (.inr (.inr f))), .int _ => exact ⟨_, rfl, fun _ _ => rfl⟩
  | .inr (.inr (.inr (.inr f))), .long _ => exact ⟨_, rfl, fun _ _ => rfl⟩
  | .inr (.inr (.inr (.inr f))), .float _ => exact ⟨_, rfl, fun _ _ => rfl⟩
  | .inr (.inr (.inr (.inr f))), .double _ => exact ⟨_, rfl, fun _ _ => rfl⟩
  | .inr (.inr (.inr (.inr f))), .null => exact ⟨_, rfl, fun _ _ => rfl⟩
  | .inr (.inr (.inr (.inr f))), .retAddr _ => exact ⟨_, rfl, fun _ _ => rfl⟩
theorem q9arA.st {G : q9GH} {ws : va_W} {A : Nat → Prop} (hD : va_D A ws) {a cd qi b j : Nat} {ce e : va_E} {v : Value} (h : q9arA G ws a cd e) (g2 : ws[qi]? = some (b, ce)) : ∃ e' : va_E, q9arA G (ws.set qi (b, q9upE ce j v)) a cd e' ∧ ∀ t : Nat, t ≠ j → q9elV e' t = q9elV e t := by
  by_cases hbb : a = b
  · subst hbb
    obtain ⟨q, k, w1, w2, y, rfl⟩ := h
    have hq : q = qi := hD.1 q qi _ _ w2 g2 rfl
    subst hq
    rw [w2] at g2
    cases g2
    obtain ⟨w', u1, u2⟩ := q9upE_el (j := j) (v := v) (w := y)
    exact ⟨.inl w', ⟨q, k, w1, by rw [List.getElem?_set_self (List.getElem?_eq_some_iff.mp w2).1, u1], w', rfl⟩, u2⟩
  · exact ⟨e, h.set g2 fun hh => absurd hh hbb, fun _ _ => rfl⟩
theorem q9ofNat_clamp {y : Int32} (h : 0 ≤ y.toInt) : Int32.ofNat y.toNatClampNeg = y := by
  apply Int32.toInt_inj.mp
  have ey : y.toNatClampNeg = y.toInt.toNat := rfl
  have b2 := Int32.toInt_lt y
  rw [Int32.toInt_ofNat_of_lt (by omega), ey]
  omega
theorem q9shA.st {G : q9GH} {ws : va_W} {A : Nat → Prop} (hD : va_D A ws) {a qi b y z : Nat} {cA : ClassId} {n' : Nat} {f : Nat → Option Nat} (h : q9shA G ws a f) (h9 : ws[qi]? = some (b, .inl (cA, n', .inr (.inr (.inr (.inr f)))))) (hab : a = b) : q9shA G (ws.set qi (b, q9upE (.inl (cA, n', .inr (.inr (.inr (.inr f))))) y (.ref z))) a (va_up f y (some z)) := by
  subst hab
  obtain ⟨q, k, n9, cA9, h1, h2⟩ := h
  have hq : q = qi := hD.1 q qi _ _ h2 h9 rfl
  subst hq
  exact ⟨q, k, n', cA, h1, by rw [List.getElem?_set_self (List.getElem?_eq_some_iff.mp h9).1]; rfl⟩
theorem q9jTS4_ok {nL : Nat} {g : List Value} {x : q9ST} {r : Nat → Value} {G : q9GH} {ws : va_W} {ls : Array Slot} {st : List Value} (hM : q9SM O nL g x r G ws ls st) (hw : q9wfB x = true) {cT : Nat → ClassId} {B : q9TB} (hT : q9tyW cT B G ws) {A : Nat → Prop} (hD : va_D A ws) {z : Nat × q9AV × q9AV} (hz : z ∈ q9tA x) {cd : Nat} {a i v : q9AV} {b qi n : Nat} {ce : va_E} (hi9 : q9okAV (q9tE x) i = true) (hb : q9ev r a = .ref b) (g1 : G[qi]? = some (b, cd, n)) (g2 : ws[qi]? = some (b, ce)) {y : Int32} (hy : q9ev r i = .int y) (hy0 : 0 ≤ y.toInt) (h : q9jTS4 x cd a i v z = true) : q9JA O G (ws.set qi (b, q9upE ce y.toNatClampNeg (q9ev r v))) (r z.1) (q9ev r z.2.1) (q9ev r z.2.2) := by
  have ey : y.toNatClampNeg = y.toInt.toNat := rfl
  (rewrite [q9jTS4_oq] at h; unfold q9jTS4_o at h)
  split at h
  · rename_i c hc
    split at h
    · rename_i s cj rj rk hp
      obtain ⟨c1, c2⟩ := q9pqS_ok hp
      have hP := q9fm_of hM hz hc c1
      rw [c2] at hP
      obtain ⟨a0, p, f, m, fs0, b0, M, e1, e2, e3, e4, e5, e6, e7⟩ := hP
      refine .inr ⟨c, q9famE_ok hM.2.2.2.1 hc c1, c1, ?_⟩
      rw [c2]
      have wz := q9wf_A hw z hz
      rcases Bool.or_eq_true _ _ ▸ h with h | h
      rcases Bool.or_eq_true _ _ ▸ h with h | h
      · -- the reference's number
        simp only [Bool.and_eq_true, beq_iff_eq] at h
        obtain ⟨h1, h2, h3⟩ := h
        subst h1
        have l1 := q9leB_ok hM hi9 wz.2.2 h2
        have l2 := q9leB_ok hM wz.2.2 hi9 h3
        rw [hy, e2] at l1
        rw [hy, e2] at l2
        have l1 : y.toInt ≤ p.toInt + -(s : Int) := l1
        have l2 : p.toInt ≤ y.toInt + s := l2
        have hrk : cd ≠ 153 ∧ cd ≠ 12 ∧ cd ≠ 7 := by
          (rewrite [q9pqS_oq] at hp; unfold q9pqS_o at hp)
          split at hp
          · cases hp; decide
          · split at hp
            · cases hp; decide
            · split at hp
              · cases hp; decide
              · cases hp
        have pcode : ∀ (o co ko : Nat), (∃ qo : Nat, G[qo]? = some (o, co, ko)) → co ≠ cd → o ≠ b := by
          rintro o co ko ⟨qo, ho⟩ hne rfl
          exact hne (hT.one hD (List.mem_of_getElem? ho) (List.mem_of_getElem? g1)).1
        have f3 : q9shA G (ws.set qi (b, q9upE ce y.toNatClampNeg (q9ev r v))) a0 f := e3.set g2 fun hh => by
          obtain ⟨q, k, n', cA, w1, w2⟩ := e3
          exact absurd hh (pcode a0 153 k ⟨q, w1⟩ (fun h => hrk.1 h.symm))
        have f4 : q9obA G (ws.set qi (b, q9upE ce y.toNatClampNeg (q9ev r v))) m 12 12 fs0 := e4.set g2 fun hh => by
          obtain ⟨q, k, w1, w2⟩ := e4
          exact absurd hh (pcode m 12 k ⟨q, w1⟩ (fun h => hrk.2.1 h.symm))
        have f6 : ∃ M' : Nat → Int32, q9inA G (ws.set qi (b, q9upE ce y.toNatClampNeg (q9ev r v))) b0 cd M' ∧ ∀ j : Nat, j ≠ y.toNatClampNeg → M' j = M j := by
          by_cases hbb : b0 = b
          · subst hbb
            obtain ⟨q, k, n', cA, w1, w2⟩ := e6
            have hq : q = qi := hD.1 q qi _ _ w2 g2 rfl
            subst hq
            rw [w2] at g2
            cases g2
            obtain ⟨f', u1, u2⟩ := q9upE_int (cA := cA) (n := n') (j := y.toNatClampNeg) (f := M) (v := q9ev r v)
            exact ⟨f', ⟨q, k, n', cA, w1, by rw [List.getElem?_set_self (List.getElem?_eq_some_iff.mp w2).1, u1]⟩, u2⟩
          · exact ⟨M, e6.set g2 fun hh => absurd hh hbb, fun _ _ => rfl⟩
        obtain ⟨M', f6, f7⟩ := f6
        refine ⟨a0, p, f, m, fs0, b0, M', e1, e2, f3, f4, e5, f6, fun t ht hp' => ?_⟩
        have ht9 : t ≠ y.toNatClampNeg := by omega
        rw [f7 t ht9]
        refine ⟨(e7 t ht hp').1, fun o ho => ?_⟩
        obtain ⟨gs, u9, g3, g4, g9⟩ := (e7 t ht hp').2 o ho
        refine ⟨gs, u9, g3.set g2 fun hh => ?_, g4, g9⟩
        obtain ⟨q, k, w1, w2⟩ := g3
        exact absurd hh (pcode o 7 k ⟨q, w1⟩ (fun h => hrk.2.2 h.symm))
      · -- the q9one that is q9left out
        simp only [Bool.and_eq_true, beq_iff_eq] at h
        obtain ⟨-, h1, h2, h3, h4⟩ := h
        subst h1
        have l1 := q9leB_ok hM hi9 wz.2.2 h3
        have l2 := q9leB_ok hM wz.2.2 hi9 h4
        rw [hy, e2] at l1
        rw [hy, e2] at l2
        have l1 : y.toInt ≤ p.toInt + -(s : Int) := l1
        have l2 : p.toInt ≤ y.toInt + s := l2
        rw [h2, hb] at e1
        cases e1
        have pcode : ∀ (o co ko : Nat), (∃ qo : Nat, G[qo]? = some (o, co, ko)) → co ≠ 153 → o ≠ b := by
          rintro o co ko ⟨qo, ho⟩ hne rfl
          exact hne (hT.one hD (List.mem_of_getElem? ho) (List.mem_of_getElem? g1)).1
        have hrk : rk ≠ 153 := by
          (rewrite [q9pqS_oq] at hp; unfold q9pqS_o at hp)
          split at hp
          · cases hp; decide
          · split at hp
            · cases hp; decide
            · split at hp
              · cases hp; decide
              · cases hp
        obtain ⟨q, kk, n', cA, x1, x2⟩ := e3
        have hq : q = qi := hD.1 q qi _ _ x2 g2 rfl
        subst hq
        rw [x2] at g2
        cases g2
        obtain ⟨f', F1, F2⟩ : ∃ f' : Nat → Option Nat, q9shA G (ws.set q (b, q9upE (.inl (cA, n', .inr (.inr (.inr (.inr f))))) y.toNatClampNeg (q9ev r v))) b f' ∧ ∀ t : Nat, t ≠ y.toNatClampNeg → f' t = f t := by
          cases hvv : q9ev r v with
          | ref o9 => exact ⟨_, q9shA.st (y := y.toNatClampNeg) (z := o9) hD ⟨q, kk, n', cA, x1, x2⟩ x2 rfl, fun t ht => by unfold va_up; rw [if_neg ht]⟩
          | _ => exact ⟨f, ⟨q, kk, n', cA, x1, by rw [List.getElem?_set_self (List.getElem?_eq_some_iff.mp x2).1]; rfl⟩, fun _ _ => rfl⟩
        refine ⟨b, p, f', m, fs0, b0, M, by rw [h2, hb], e2, F1, e4.set x2 fun _ => ⟨_, rfl⟩, e5, e6.set x2 fun hh => ?_, fun t ht hp' => ?_⟩
        · obtain ⟨q9, k9, n9, cA9, y1, -⟩ := e6
          exact absurd hh (pcode b0 rk k9 ⟨q9, y1⟩ hrk)
        · have ht9 : t ≠ y.toNatClampNeg := by omega
          rw [F2 t ht9]
          refine ⟨(e7 t ht hp').1, fun o ho => ?_⟩
          obtain ⟨gs, u9, g3, g4, g9⟩ := (e7 t ht hp').2 o ho
          exact ⟨gs, u9, g3.set x2 fun _ => ⟨_, rfl⟩, g4, g9⟩
      · -- q9one puppet q9more
        simp only [Bool.and_eq_true, beq_iff_eq, List.any_eq_true, bne_iff_ne] at h
        obtain ⟨h1, h2, ⟨w, w1, w2, w3, w4⟩, ⟨u, u1, u2, u3, u4, u5⟩, h6, h7⟩ := h
        subst h1
        have hN := q9fm_of hM w1 w2 (by decide)
        rw [q9FMP_nb, w3, hb] at hN
        obtain ⟨a1, n1, f1, k1, k2, k3, k4, k5, k6, k7⟩ := hN
        cases k1
        rw [h2, hb] at e1
        cases e1
        have hff := q9shA.one hD e3 k3
        subst hff
        have hn := q9eqB_ok hM hi9 hy w4
        rw [k2] at hn
        cases hn
        -- what is stored
        obtain ⟨o9, no, ro, mo⟩ := q9codeOf_ok hM.2.2.2.1 h7
        have ev9 : q9ev r v = .ref o9 := by
          unfold q9ev
          rw [ro]
        have hF := hM.2.2.2.2.1 u u1
        unfold q9FMok at hF
        rw [if_neg (by rw [u4]; exact h6)] at hF
        obtain ⟨a2, i2, ci2, fs2, v1, v2, v3⟩ := hF
        rw [u2, ro] at v1
        cases v1
        have hz0 : q9ev r u.2.2 = .int 0 := by
          have wu := q9wf_F hw u u1
          split at u5
          · rename_i l h hn
            rw [Bool.and_eq_true, decide_eq_true_eq, decide_eq_true_eq] at u5
            obtain ⟨u', y1, -, y2, y3⟩ := q9num_int hM.2.2.2.1 wu.2 hn
            rw [y1, show u' = 0 from Int32.toInt_inj.mp (by rw [Int32.toInt_zero]; omega)]
          · cases u5
        rw [hz0, u4] at v3
        have ob9 : q9obA G ws o9 7 7 fs2 := by
          obtain ⟨qq, ee, x1, x2, x3⟩ := hT.at mo
          have hqq : i2 = qq := hD.1 i2 qq _ _ v2 x2 rfl
          subst hqq
          rw [v2] at x2
          cases x2
          rcases x3 with ⟨-, fs3, F3, x4, -⟩ | ⟨x4, -⟩
          · have x4 : ci2 = 7 ∧ fs2 = fs3 := by
              cases x4
              exact ⟨rfl, rfl⟩
            obtain ⟨rfl, rfl⟩ := x4
            exact ⟨i2, no, x1, v2⟩
          · omega
        have pcode : ∀ (o co ko : Nat), (∃ qo : Nat, G[qo]? = some (o, co, ko)) → co ≠ 153 → o ≠ b := by
          rintro o co ko ⟨qo, ho⟩ hne rfl
          exact hne (hT.one hD (List.mem_of_getElem? ho) (List.mem_of_getElem? g1)).1
        obtain ⟨q, kk, n', cA, x1, x2⟩ := e3
        have hq : q = qi := hD.1 q qi _ _ x2 g2 rfl
        subst hq
        rw [x2] at g2
        cases g2
        have f3 := q9shA.st (y := y.toNatClampNeg) (z := o9) hD ⟨q, kk, n', cA, x1, x2⟩ x2 rfl
        rw [ev9]
        refine ⟨b, p, _, m, fs0, b0, M, by rw [h2, hb], e2, f3, e4.set x2 fun _ => ⟨_, rfl⟩, e5, e6.set x2 fun hh => ?_, fun t ht hp' => ⟨fun hn => ?_, fun o ho => ?_⟩⟩
        · obtain ⟨q9, k9, n9, cA9, y1, -⟩ := e6
          exact absurd hh (pcode b0 rk k9 ⟨q9, y1⟩ (by
            (rewrite [q9pqS_oq] at hp; unfold q9pqS_o at hp)
            split at hp
            · cases hp; decide
            · split at hp
              · cases hp; decide
              · split at hp
                · cases hp; decide
                · cases hp))
        · unfold va_up at hn
          split at hn
          · cases hn
          · exact (e7 t ht hp').1 hn
        · unfold va_up at ho
          split at ho
          · rename_i hty
            cases ho
            refine ⟨fs2, 0, ob9.set x2 fun _ => ⟨_, rfl⟩, v3, ?_⟩
            rw [(e7 t ht hp').1 ((k6 t ht).mpr (by omega))]
            exact q9eqC9_0
          · obtain ⟨gs, u9, g3, g4, g9⟩ := (e7 t ht hp').2 o ho
            exact ⟨gs, u9, g3.set x2 fun _ => ⟨_, rfl⟩, g4, g9⟩
    · cases h
  · cases h
theorem q9jTS4_ref {G : q9GH} {x : q9ST} {r : Nat → Value} (hS : q9SAT G (q9tE x) r) {cd : Nat} {a i v : q9AV} {z : Nat × q9AV × q9AV} {b : Nat} (h : q9jTS4 x cd a i v z = true) (e : r z.1 = .ref b) : False := by
  (rewrite [q9jTS4_oq] at h; unfold q9jTS4_o at h)
  split at h
  · rename_i c hc
    split at h
    · rename_i s cj rj rk hp
      have h1 := q9famE_ok hS hc (q9pqS_le hp)
      rw [e] at h1
      cases h1
    · cases h
  · cases h
theorem q9jTB5_ok {nL : Nat} {g : List Value} {x : q9ST} {r : Nat → Value} {G : q9GH} {ws : va_W} {ls : Array Slot} {st : List Value} (hM : q9SM O nL g x r G ws ls st) (hw : q9wfB x = true) {cT : Nat → ClassId} {B : q9TB} (hT : q9tyW cT B G ws) {A : Nat → Prop} (hD : va_D A ws) {z : Nat × q9AV × q9AV} (hz : z ∈ q9tA x) {cd : Nat} {a i v : q9AV} {b qi n : Nat} {ce : va_E} (hi9 : q9okAV (q9tE x) i = true) (hb : q9ev r a = .ref b) (g1 : G[qi]? = some (b, cd, n)) (g2 : ws[qi]? = some (b, ce)) {y : Int32} (hy : q9ev r i = .int y) (hy0 : 0 ≤ y.toInt) (hz0 : (q9tE x)[0]? = some (0, 0, 0)) (h : q9jTB5 x cd i z = true) : q9JA O G (ws.set qi (b, q9upE ce y.toNatClampNeg (q9ev r v))) (r z.1) (q9ev r z.2.1) (q9ev r z.2.2) := by
  have ey : y.toNatClampNeg = y.toInt.toNat := rfl
  (rewrite [q9jTB5_oq] at h; unfold q9jTB5_o at h)
  split at h
  · rename_i c hc
    split at h
    · cases h
    · rename_i hc3
      have c1 : c ≤ -100 := by omega
      have hP := q9fm_of hM hz hc c1
      rw [q9FMP_5 hc3] at hP
      refine .inr ⟨c, q9famE_ok hM.2.2.2.1 hc c1, c1, ?_⟩
      rw [q9FMP_5 hc3]
      have wz := q9wf_A hw z hz
      unfold q9FM5 at hP ⊢
      cases hs : q9famS c with
      | some q =>
        obtain ⟨m, cds, op, fin⟩ := q
        rw [hs] at hP h
        obtain ⟨a0, cd0, n0, M, e1, e2, e3, e4, e5, e6⟩ := hP
        simp only [Bool.and_eq_true] at h
        have l1 := q9leB_ok hM wz.2.2 hi9 h.2
        rw [e2, hy] at l1
        have l1 : n0.toInt ≤ y.toInt + 0 := l1
        obtain ⟨M', k1, k2⟩ := e4.st (j := y.toNatClampNeg) (v := q9ev r v) hD g2
        exact ⟨a0, cd0, n0, M', e1, e2, e3, k1, fun t ht => by rw [k2 t (by omega)]; exact e5 t ht, e6⟩
      | none =>
        rw [hs] at hP h
        dsimp only at hP h ⊢
        cases hd : q9famD c with
        | some q =>
          obtain ⟨cd0, op, lo, lv⟩ := q
          rw [hd] at hP h
          obtain ⟨a0, p, e, e1, e2, e3, e4⟩ := hP
          simp only [Bool.and_eq_true, beq_iff_eq, List.any_eq_true] at h
          obtain ⟨-, q, q1, q2, q3, q4, q5, q6⟩ := h
          have hX := hM.2.2.2.2.2.2.2 q q1
          unfold q9EXok at hX
          rw [q2, q3, q4, e2, q9zero_ev0 hM.2.2.2.1 hz0, q9exop_hi (by decide)] at hX
          obtain ⟨e', k1, k2⟩ := e3.st (j := y.toNatClampNeg) (v := q9ev r v) hD g2
          refine ⟨a0, p, e', e1, e2, k1, fun d hd9 t ht1 ht2 => ?_⟩
          have hd9' : O.1 1021 (.int p) (.int 0) = some (.int d) := hd9
          rw [hd9'] at hX
          have hX := Option.some.inj hX
          have l1 := q9leB_ok hM q5 hi9 q6
          rw [q9ev_zero, ← hX, hy] at l1
          have l1 : d.toInt ≤ y.toInt + ((lv : Int) - 1) := l1
          rw [k2 t (by omega)]
          exact e4 d hd9 t ht1 ht2
        | none =>
          rw [hd] at hP h
          dsimp only at hP h ⊢
          cases hz9 : q9famZ c with
          | some q =>
            obtain ⟨sz, op⟩ := q
            rw [hz9] at hP h
            obtain ⟨a0, p, M, e1, e2, e3, e4⟩ := hP
            simp only [Bool.and_eq_true, beq_iff_eq, List.any_eq_true, Bool.or_eq_true] at h
            obtain ⟨-, q, q1, q2⟩ := h
            have hX := hM.2.2.2.2.2.2.2 q q1
            obtain ⟨M', k1, k2⟩ := e3.st (j := y.toNatClampNeg) (v := q9ev r v) hD g2
            have hso : 1000 ≤ sz ∧ 1000 ≤ op := by
              (rewrite [q9famZ_oq] at hz9; unfold q9famZ_o at hz9)
              split at hz9
              · cases hz9; decide
              · split at hz9
                · cases hz9; decide
                · cases hz9
            refine ⟨a0, p, M', e1, e2, k1, fun zz hzz t ht hop => ?_⟩
            by_cases hty : t = y.toNatClampNeg
            · exfalso
              rcases q2 with ⟨p1, p2, p3, p4, p5⟩ | ⟨p1, p2, p3, p4, p5⟩
              · unfold q9EXok at hX
                rw [p1, p2, p3, e2, q9zero_ev0 hM.2.2.2.1 hz0, q9exop_hi hso.1] at hX
                have hzz' : O.1 sz (.int p) (.int 0) = some (.int zz) := hzz
                rw [hzz'] at hX
                have hX := Option.some.inj hX
                have l1 := q9leB_ok hM p4 hi9 p5
                rw [q9ev_zero, ← hX, hy] at l1
                have l1 : zz.toInt ≤ y.toInt + 0 := l1
                omega
              · split at p3
                · rename_i l hh hn
                  rw [decide_eq_true_eq] at p3
                  obtain ⟨u, u1, -, u2, u3⟩ := q9num_int hM.2.2.2.1 p4 hn
                  unfold q9EXok at hX
                  rw [p1, p2, e2, u1] at hX
                  have hq := q9eqV_ok hM p5
                  rw [q9ev_zero, hy] at hq
                  rw [hq, q9exop_hi hso.2] at hX
                  refine hop u (by omega) ?_
                  rw [hX, hty, q9ofNat_clamp hy0]
                · cases p3
            · rw [k2 t hty]
              exact e4 zz hzz t ht hop
          | none =>
            rw [hz9] at h
            cases h
  · cases h
theorem q9jTB5_ref {G : q9GH} {x : q9ST} {r : Nat → Value} (hS : q9SAT G (q9tE x) r) {cd : Nat} {i : q9AV} {z : Nat × q9AV × q9AV} {b : Nat} (h : q9jTB5 x cd i z = true) (e : r z.1 = .ref b) : False := by
  (rewrite [q9jTB5_oq] at h; unfold q9jTB5_o at h)
  split at h
  · rename_i c hc
    split at h
    · cases h
    · rename_i hc3
      have h1 := q9famE_ok hS hc (by omega)
      rw [e] at h1
      cases h1
  · cases h
theorem q9rgB_ok {nL : Nat} {g : List Value} {x : q9ST} {r : Nat → Value} {G : q9GH} {ws : va_W} {ls : Array Slot} {st : List Value} (hM : q9SM O nL g x r G ws ls st) {a : q9AV} {lo hi : Int} (h : q9rgB x a lo hi = true) : q9okAV (q9tE x) a = true ∧ ∃ y : Int32, q9ev r a = .int y ∧ lo ≤ y.toInt ∧ y.toInt ≤ hi := by
  (rewrite [q9rgB_oq] at h; unfold q9rgB_o at h)
  rw [Bool.and_eq_true] at h
  obtain ⟨h1, h2⟩ := h
  split at h2
  · rename_i l hh hn
    rw [Bool.and_eq_true, decide_eq_true_eq, decide_eq_true_eq] at h2
    obtain ⟨u, u1, -, u2, u3⟩ := q9num_int hM.2.2.2.1 h1 hn
    exact ⟨h1, u, u1, by omega, by omega⟩
  · cases h2
theorem q9plK_ok {nL : Nat} {g : List Value} {x : q9ST} {r : Nat → Value} {G : q9GH} {ws : va_W} {ls : Array Slot} {st : List Value} (hM : q9SM O nL g x r G ws ls st) (hz0 : (q9tE x)[0]? = some (0, 0, 0)) {i : q9AV} {P : q9AV → q9AV → Bool} (h : q9plK x i P = true) : ∃ (ka fa : q9AV) (k f y : Int32), P ka fa = true ∧ q9okAV (q9tE x) ka = true ∧ q9okAV (q9tE x) fa = true ∧ q9ev r ka = .int k ∧ q9ev r fa = .int f ∧ (0 ≤ k.toInt ∧ k.toInt ≤ 11) ∧ (0 ≤ f.toInt ∧ f.toInt ≤ 399) ∧ q9ev r i = .int y ∧ y.toInt = 400 * k.toInt + f.toInt := by
  (rewrite [q9plK_oq] at h; unfold q9plK_o at h)
  simp only [Bool.and_eq_true, beq_iff_eq, List.any_eq_true] at h
  obtain ⟨p, p1, p2, p3, p4, q, q1, q2, q3, q4, q5, q6, q7⟩ := h
  obtain ⟨k1, k, k2, k3, k4⟩ := q9rgB_ok hM q5
  obtain ⟨f1, f, f2, f3, f4⟩ := q9rgB_ok hM q6
  have hq := hM.2.2.2.2.2.2.2 q q1
  have hp := hM.2.2.2.2.2.2.2 p p1
  unfold q9EXok at hq hp
  rw [q2, q3, q9zero_ev hM.2.2.2.1 hz0, k2] at hq
  have hq : some (Value.int (Int32.ofInt 400 * k)) = some (r q.2.2.2) := hq
  have hpa : q9ev r p.2.1 = r q.2.2.2 := by
    have e : p.2.1 = (q.2.2.2, 0) := by
      rw [q4]
      exact Prod.ext rfl p3
    rw [e, q9ev_zero]
  rw [p2, hpa, ← Option.some.inj hq, f2] at hp
  have hp : some (Value.int (Int32.ofInt 400 * k + f)) = some (r p.2.2.2) := hp
  have e := q9eqV_ok hM p4
  rw [q9ev_zero] at e
  have h400 : (Int32.ofInt 400).toInt = 400 := by decide
  have m1 : (Int32.ofInt 400 * k).toInt = 400 * k.toInt := by
    rw [q9n_mul (by rw [h400]; omega) (by rw [h400]; omega), h400]
  have a1 : (Int32.ofInt 400 * k + f).toInt = 400 * k.toInt + f.toInt := by
    rw [q9n_add (by rw [m1]; omega) (by rw [m1]; omega), m1]
  exact ⟨q.2.2.1, p.2.2.1, k, f, _, q7, k1, f1, k2, f2, ⟨k3, k4⟩, ⟨f3, f4⟩, by rw [← e, ← Option.some.inj hp], a1⟩
theorem q9scrB_ok {nL : Nat} {g : List Value} {x : q9ST} {r : Nat → Value} {G : q9GH} {ws : va_W} {ls : Array Slot} {st : List Value} (hM : q9SM O nL g x r G ws ls st) (hz0 : (q9tE x)[0]? = some (0, 0, 0)) {n : Int} {k : q9AV} {u : Int32} (hu : q9ev r k = .int u) (h : q9scrB x n k = true) : q9oI O.1 1063 (Int32.ofInt n) u := by
  (rewrite [q9scrB_oq] at h; unfold q9scrB_o at h)
  simp only [Bool.and_eq_true, beq_iff_eq, List.any_eq_true] at h
  obtain ⟨q, q1, q2, q3, q4, q5⟩ := h
  have hq := hM.2.2.2.2.2.2.2 q q1
  unfold q9EXok at hq
  have e := q9eqV_ok hM q5
  rw [q9ev_zero, hu] at e
  rw [q2, q3, q4, q9zero_ev hM.2.2.2.1 hz0, q9zero_ev0 hM.2.2.2.1 hz0, q9exop_hi (by decide), e] at hq
  exact hq
/-- a store into an array of ints: what is there afterwards -/
theorem q9inA.st9 {G : q9GH} {ws : va_W} {A : Nat → Prop} (hD : va_D A ws) {a cd qi b j : Nat} {ce : va_E} {v : Value} {M : Nat → Int32} (h : q9inA G ws a cd M) (g2 : ws[qi]? = some (b, ce)) : ∃ M' : Nat → Int32, q9inA G (ws.set qi (b, q9upE ce j v)) a cd M' ∧ (∀ t : Nat, t ≠ j → M' t = M t) ∧ (a ≠ b → M' = M) ∧ (M' j = M j ∨ ∃ u : Int32, v = .int u ∧ M' j = u) := by
  by_cases hbb : a = b
  · subst hbb
    obtain ⟨q, k, n', cA, w1, w2⟩ := h
    have hq : q = qi := hD.1 q qi _ _ w2 g2 rfl
    subst hq
    rw [w2] at g2
    cases g2
    have hs : ∀ e' : va_E, (ws.set q (a, e'))[q]? = some (a, e') := fun e' => List.getElem?_set_self (List.getElem?_eq_some_iff.mp w2).1
    cases v with
    | int u => exact ⟨upd M j u, ⟨q, k, n', cA, w1, hs _⟩, fun t ht => by simp [upd, ht], fun hh => absurd rfl hh, .inr ⟨u, rfl, by simp [upd]⟩⟩
    | _ => exact ⟨M, ⟨q, k, n', cA, w1, hs _⟩, fun _ _ => rfl, fun _ => rfl, .inl rfl⟩
  · exact ⟨M, h.set g2 fun hh => absurd hh hbb, fun _ _ => rfl, fun _ => rfl, .inl rfl⟩
/-- another address, by its kind -/
theorem q9ne_code {cT : Nat → ClassId} {B : q9TB} {G : q9GH} {ws : va_W} (hT : q9tyW cT B G ws) {A : Nat → Prop} (hD : va_D A ws) {qi b cd n : Nat} (g1 : G[qi]? = some (b, cd, n)) {o co ko : Nat} (ho : ∃ qo : Nat, G[qo]? = some (o, co, ko)) (hne : co ≠ cd) : o ≠ b := by
  rintro rfl
  obtain ⟨qo, ho⟩ := ho
  exact hne (hT.one hD (List.mem_of_getElem? ho) (List.mem_of_getElem? g1)).1
theorem q9shA.k {G : q9GH} {ws : va_W} {a : Nat} {f : Nat → Option Nat} (h : q9shA G ws a f) : ∃ k q : Nat, G[q]? = some (a, 153, k) := by
  obtain ⟨q, k, n', cA, h1, -⟩ := h
  exact ⟨k, q, h1⟩
theorem q9inA.k {G : q9GH} {ws : va_W} {a cd : Nat} {M : Nat → Int32} (h : q9inA G ws a cd M) : ∃ k q : Nat, G[q]? = some (a, cd, k) := by
  obtain ⟨q, k, n', cA, h1, -⟩ := h
  exact ⟨k, q, h1⟩
theorem q9obA.k {G : q9GH} {ws : va_W} {a cd ci : Nat} {fs : List Value} (h : q9obA G ws a cd ci fs) : ∃ k q : Nat, G[q]? = some (a, cd, k) := by
  obtain ⟨q, k, h1, -⟩ := h
  exact ⟨k, q, h1⟩
/-- where the place is another q9one, what was said of the elements holds -/
theorem q9PVV.st {u : Int32} {g w : Int} {M M' : Nat → Int32} (h : q9PVV O u g w M) (he : ∀ j : Nat, j < 400 → (j : Int) ≠ w - 20000 → M' j = M j) : q9PVV O u g w M' := by
  intro j h1 h2
  rw [he j h1 h2]
  exact h j h1 h2
theorem q9jTN_ok {nL : Nat} {g : List Value} {x : q9ST} {r : Nat → Value} {G : q9GH} {ws : va_W} {ls : Array Slot} {st : List Value} (hM : q9SM O nL g x r G ws ls st) (hw : q9wfB x = true) {cT : Nat → ClassId} {B : q9TB} (hT : q9tyW cT B G ws) {A : Nat → Prop} (hD : va_D A ws) {z : Nat × q9AV × q9AV} (hz : z ∈ q9tA x) {cd : Nat} {a i v : q9AV} {b qi n : Nat} {ce : va_E} (hi9 : q9okAV (q9tE x) i = true) (hb : q9ev r a = .ref b) (g1 : G[qi]? = some (b, cd, n)) (g2 : ws[qi]? = some (b, ce)) {y : Int32} (hy : q9ev r i = .int y) (hy0 : 0 ≤ y.toInt) (hz0 : (q9tE x)[0]? = some (0, 0, 0)) (h : q9jTN x cd a i v z = true) : q9JA O G (ws.set qi (b, q9upE ce y.toNatClampNeg (q9ev r v))) (r z.1) (q9ev r z.2.1) (q9ev r z.2.2) := by
  have ey : y.toNatClampNeg = y.toInt.toNat := rfl
  have wz := q9wf_A hw z hz
  (rewrite [q9jTN_oq] at h; unfold q9jTN_o at h)
  split at h
  · rename_i c hc
    have mk : c ≤ -100 → q9FMP O c G (ws.set qi (b, q9upE ce y.toNatClampNeg (q9ev r v))) (q9ev r z.2.1) (q9ev r z.2.2) → q9JA O G (ws.set qi (b, q9upE ce y.toNatClampNeg (q9ev r v))) (r z.1) (q9ev r z.2.1) (q9ev r z.2.2) := fun h1 h2 => .inr ⟨c, q9famE_ok hM.2.2.2.1 hc h1, h1, h2⟩
    split at h
    · rename_i h157
      subst h157
      have hP := q9fm_of hM hz hc (by decide)
      refine mk (by decide) ?_
      rw [q9FMP_pq] at hP ⊢
      obtain ⟨a0, p, f, m, fs, b0, M, be, e1, e2, e3, e4, e5, e6, e7, e8⟩ := hP
      rcases Bool.or_eq_true _ _ ▸ h with h | h
      · -- a shot is stored
        (rewrite [q9jT7s_oq] at h; unfold q9jT7s_o at h)
        simp only [Bool.and_eq_true, beq_iff_eq, List.any_eq_true] at h
        obtain ⟨h0, h1, h2, h3, h4, h5, w, w1, w2, w3, u, u1, u2, u3, u4⟩ := h
        subst h0
        have l1 := q9leB_ok hM hi9 wz.2.2 h2
        have l2 := q9leB_ok hM wz.2.2 hi9 h3
        rw [hy, e2] at l1
        rw [hy, e2] at l2
        have l1 : y.toInt ≤ p.toInt + -13000 := l1
        have l2 : p.toInt ≤ y.toInt + 13000 := l2
        rw [h1, hb] at e1
        cases e1
        have hN := q9fm_of hM u1 u2 (by decide)
        rw [q9FMP_pf, u3, u4, hb] at hN
        obtain ⟨b9, a1, f1, be9, M9, k1, k2, k3, k4, k5⟩ := hN
        cases k2
        have hff := q9shA.one hD e3 k4
        subst hff
        obtain ⟨o9, no, ro, mo⟩ := q9codeOf_ok hM.2.2.2.1 h5
        have ev9 : q9ev r v = .ref o9 := by
          unfold q9ev
          rw [ro]
        obtain ⟨fs2, ob9⟩ : ∃ fs2 : List Value, q9obA G ws o9 7 7 fs2 := by
          obtain ⟨qq, ee, x1, x2, x3⟩ := hT.at mo
          rcases x3 with ⟨-, fs3, F3, x4, -⟩ | ⟨x4, -⟩
          · subst x4
            exact ⟨fs3, qq, no, x1, x2⟩
          · omega
        have hF := hM.2.2.2.2.1 w w1
        unfold q9FMok at hF
        rw [if_neg (by rw [w3]; decide)] at hF
        obtain ⟨a2, i2, ci2, fs4, v1, v2, v3⟩ := hF
        rw [w2, ro] at v1
        cases v1
        have hfs : fs4 = fs2 := by
          obtain ⟨q9, n9, x1, x2⟩ := ob9
          have hqq : i2 = q9 := hD.1 i2 q9 _ _ v2 x2 rfl
          subst hqq
          rw [v2] at x2
          cases x2
          rfl
        subst hfs
        rw [w3, k1] at v3
        have hne : ∀ {o co ko : Nat}, (∃ qo : Nat, G[qo]? = some (o, co, ko)) → co ≠ 153 → o ≠ b := fun ho hne => q9ne_code hT hD g1 ho hne
        obtain ⟨q, kk, n', cA, x1, x2⟩ := e3
        have hq : q = qi := hD.1 q qi _ _ x2 g2 rfl
        subst hq
        rw [x2] at g2
        cases g2
        have f3 := q9shA.st (y := y.toNatClampNeg) (z := o9) hD ⟨q, kk, n', cA, x1, x2⟩ x2 rfl
        rw [ev9]
        refine ⟨b, p, _, m, fs, b0, M, fun t => if t = y.toNatClampNeg then b9 else be t, by rw [h1, hb], e2, f3, e4.set x2 fun _ => ⟨_, rfl⟩, e5, e6.set x2 fun hh => ?_, fun t ht o ho => ?_, fun s t hs ht hs9 ht9 hbe => ?_⟩
        · obtain ⟨k, hk⟩ := e6.k
          exact absurd hh (hne hk (by decide))
        · have inset : ∀ {a' : Nat} {M' : Nat → Int32}, q9inA G ws a' 151 M' → q9inA G (ws.set q (b, q9upE (.inl (cA, n', .inr (.inr (.inr (.inr f))))) y.toNatClampNeg (.ref o9))) a' 151 M' := fun hi => hi.set x2 fun hh => by
            obtain ⟨k, hk⟩ := hi.k
            exact absurd hh (hne hk (by decide))
          unfold va_up at ho
          split at ho
          · rename_i hty
            cases ho
            refine ⟨fs4, M9, ob9.set x2 fun _ => ⟨_, rfl⟩, ?_, ?_, fun hp => by omega⟩
            · dsimp only
              rw [if_pos hty]
              exact v3
            · dsimp only
              rw [if_pos hty]
              exact inset k3
          · rename_i hty
            obtain ⟨gs, M', g3, g4, g5, g6⟩ := e7 t ht o ho
            refine ⟨gs, M', g3.set x2 fun _ => ⟨_, rfl⟩, ?_, ?_, g6⟩
            · dsimp only
              rw [if_neg hty]
              exact g4
            · dsimp only
              rw [if_neg hty]
              exact inset g5
        · have hb9 : ∀ t : Nat, t < 12 → f t ≠ none → be t ≠ b9 := fun t ht hn => by
            cases hft : f t with
            | none => exact absurd hft hn
            | some o =>
              obtain ⟨gs, M', g3, g4, -, -⟩ := e7 t ht o hft
              obtain ⟨j1, gs', j2, j3⟩ := k5 t ht o hft
              have := (q9obA.one hD g3 j2).1
              subst this
              rw [g4] at j3
              have j3 : be t = be9 t := by
                exact Value.ref.inj (Option.some.inj j3)
              rw [j3]
              exact j1
          have hup : ∀ t : Nat, t ≠ y.toNatClampNeg → va_up f y.toNatClampNeg (some o9) t = f t := fun t ht => by
            unfold va_up
            rw [if_neg ht]
          by_cases c1 : s = y.toNatClampNeg
          · by_cases c2 : t = y.toNatClampNeg
            · omega
            · rw [hup t c2] at ht9
              dsimp only at hbe
              rw [if_pos c1, if_neg c2] at hbe
              exact absurd hbe.symm (hb9 t ht ht9)
          · by_cases c2 : t = y.toNatClampNeg
            · rw [hup s c1] at hs9
              dsimp only at hbe
              rw [if_neg c1, if_pos c2] at hbe
              exact absurd hbe (hb9 s hs hs9)
            · rw [hup s c1] at hs9
              rw [hup t c2] at ht9
              dsimp only at hbe
              rw [if_neg c1, if_neg c2] at hbe
              exact e8 s t hs ht hs9 ht9 hbe
      rcases Bool.or_eq_true _ _ ▸ h with h | h
      · -- its own frame
        (rewrite [q9jT7c_oq] at h; unfold q9jT7c_o at h)
        simp only [Bool.and_eq_true, beq_iff_eq, List.any_eq_true] at h
        obtain ⟨h0, h1, q, q1, q2, q3, q4, q5, q6, q7, w, w1, w2, w3, w4⟩ := h
        subst h0
        obtain ⟨d1, k, d2, d3, d4⟩ := q9rgB_ok hM q5
        have l1 := q9leB_ok hM d1 wz.2.2 q6
        have l2 := q9leB_ok hM wz.2.2 d1 q7
        rw [d2, e2] at l1
        rw [d2, e2] at l2
        have l1 : k.toInt ≤ p.toInt + -13000 := l1
        have l2 : p.toInt ≤ k.toInt + 13000 := l2
        have ek : k.toNatClampNeg = k.toInt.toNat := rfl
        have za : q9ev r z.2.1 = r z.2.1.1 := by
          have e : z.2.1 = (z.2.1.1, 0) := Prod.ext rfl h1
          rw [e, q9ev_zero]
        rw [za] at e1
        -- the element
        obtain ⟨o9, no, ro, mo⟩ := q9codeOf_ok hM.2.2.2.1 q4
        have hA9 := hM.2.2.2.2.2.1 q q1
        unfold q9AMok at hA9
        rw [q2, e1] at hA9
        obtain ⟨a', i', cA', n', f', w', s1, s2, s3, s4⟩ := hA9.resolve_right q9JA_ref
        rw [q2, e1] at s1
        cases s1
        rw [d2] at s3
        cases s3
        have hfk : f k.toNatClampNeg = some o9 := by
          obtain ⟨q', k', n'', cA, x1, x2⟩ := e3
          have hqq : q' = i' := hD.1 q' i' _ _ x2 s2 rfl
          subst hqq
          rw [x2] at s2
          cases s2
          have hq9 : q9ev r q.2.2 = .ref o9 := by
            have e : q.2.2 = (q.2.2.1, 0) := Prod.ext rfl q3
            rw [e, q9ev_zero]
            exact ro
          rw [hq9] at s4
          have s4 : Value.ref o9 = va_rf (f k.toNatClampNeg) := s4
          cases hf : f k.toNatClampNeg with
          | none => rw [hf] at s4; cases s4
          | some o => rw [hf] at s4; cases s4; rfl
        obtain ⟨gs, M0, g3, g4, g5, -⟩ := e7 k.toNatClampNeg (by omega) o9 hfk
        have hbk : be k.toNatClampNeg = b := by
          have hF := hM.2.2.2.2.1 w w1
          unfold q9FMok at hF
          rw [if_neg (by rw [w3]; decide)] at hF
          obtain ⟨a2, i2, ci2, fs4, v1, v2, v3⟩ := hF
          rw [w2, ro] at v1
          cases v1
          have hfs : fs4 = gs := by
            obtain ⟨q9, n9, x1, x2⟩ := g3
            have hqq : i2 = q9 := hD.1 i2 q9 _ _ v2 x2 rfl
            subst hqq
            rw [v2] at x2
            cases x2
            rfl
          subst hfs
          rw [w3, w4, hb, g4] at v3
          cases v3
          rfl
        have hne : ∀ {o co ko : Nat}, (∃ qo : Nat, G[qo]? = some (o, co, ko)) → co ≠ 151 → o ≠ b := fun ho hne => q9ne_code hT hD g1 ho hne
        have obset : ∀ {o co ci : Nat} {fs9 : List Value}, co ≠ 151 → q9obA G ws o co ci fs9 → q9obA G (ws.set qi (b, q9upE ce y.toNatClampNeg (q9ev r v))) o co ci fs9 := fun hco ho => ho.set g2 fun hh => by
          obtain ⟨k, hk⟩ := ho.k
          exact absurd hh (hne hk hco)
        refine ⟨a0, p, f, m, fs, b0, M, be, by rw [za]; exact e1, e2, e3.set g2 fun hh => ?_, obset (by decide) e4, e5, e6.set g2 fun hh => ?_, fun t ht o ho => ?_, e8⟩
        · obtain ⟨k, hk⟩ := e3.k
          exact absurd hh (hne hk (by decide))
        · obtain ⟨k, hk⟩ := e6.k
          exact absurd hh (hne hk (by decide))
        · obtain ⟨gs', M', j1, j2, j3, j4⟩ := e7 t ht o ho
          obtain ⟨M'', m1, m2, m3, -⟩ := j3.st9 (j := y.toNatClampNeg) (v := q9ev r v) hD g2
          refine ⟨gs', M'', obset (by decide) j1, j2, m1, fun hp => ?_⟩
          have htk : t ≠ k.toNatClampNeg := by omega
          have hbt : be t ≠ b := fun hh => htk (e8 t k.toNatClampNeg ht (by omega) (by rw [ho]; exact Option.some_ne_none _) (by rw [hfk]; exact Option.some_ne_none _) (by rw [hh, hbk]))
          rw [m3 hbt]
          exact j4 hp
      · -- the reference's
        (rewrite [q9jT7m_oq] at h; unfold q9jT7m_o at h)
        simp only [Bool.and_eq_true, beq_iff_eq] at h
        obtain ⟨h0, hp⟩ := h
        subst h0
        obtain ⟨ka, fa, k, f9, y', d1, d2, d3, d4, d5, d6, d7, d8, d9⟩ := q9plK_ok hM hz0 hp
        rw [hy] at d8
        cases d8
        rw [Bool.and_eq_true] at d1
        have l1 := q9leB_ok hM d2 wz.2.2 d1.1
        have l2 := q9leB_ok hM wz.2.2 d2 d1.2
        rw [d4, e2] at l1
        rw [d4, e2] at l2
        have l1 : k.toInt ≤ p.toInt + -13000 := l1
        have l2 : p.toInt ≤ k.toInt + 13000 := l2
        have hne : ∀ {o co ko : Nat}, (∃ qo : Nat, G[qo]? = some (o, co, ko)) → co ≠ 201 → o ≠ b := fun ho hne => q9ne_code hT hD g1 ho hne
        have obset : ∀ {o co ci : Nat} {fs9 : List Value}, co ≠ 201 → q9obA G ws o co ci fs9 → q9obA G (ws.set qi (b, q9upE ce y.toNatClampNeg (q9ev r v))) o co ci fs9 := fun hco ho => ho.set g2 fun hh => by
          obtain ⟨k, hk⟩ := ho.k
          exact absurd hh (hne hk hco)
        obtain ⟨M'', m1, m2, -, -⟩ := e6.st9 (j := y.toNatClampNeg) (v := q9ev r v) hD g2
        refine ⟨a0, p, f, m, fs, b0, M'', be, e1, e2, e3.set g2 fun hh => ?_, obset (by decide) e4, e5, m1, fun t ht o ho => ?_, e8⟩
        · obtain ⟨k, hk⟩ := e3.k
          exact absurd hh (hne hk (by decide))
        · obtain ⟨gs', M', j1, j2, j3, j4⟩ := e7 t ht o ho
          refine ⟨gs', M', obset (by decide) j1, j2, j3.set g2 fun hh => ?_, fun hp j hj => ?_⟩
          · obtain ⟨k, hk⟩ := j3.k
            exact absurd hh (hne hk (by decide))
          · rw [m2 _ (by omega)]
            exact j4 hp j hj
    · rename_i h157
      split at h
      · rename_i h149
        subst h149
        have hP := q9fm_of hM hz hc (by decide)
        refine mk (by decide) ?_
        rw [q9FMP_af (by decide)] at hP ⊢
        obtain ⟨a0, cd0, n0, M, e1, e2, e3, e4, e5⟩ := hP
        have e5 : ∀ j : Nat, 400 * n0.toInt ≤ (j : Int) → j < 4800 → M j = 0 := e5
        obtain ⟨M', m1, m2, m3, m4⟩ := e4.st9 (j := y.toNatClampNeg) (v := q9ev r v) hD g2
        rw [Bool.and_eq_true, beq_iff_eq] at h
        refine ⟨a0, cd0, n0, M', e1, e2, e3, m1, ?_⟩
        show ∀ j : Nat, 400 * n0.toInt ≤ (j : Int) → j < 4800 → M' j = 0
        intro j hj1 hj2
        by_cases hjy : j = y.toNatClampNeg
        · rcases Bool.or_eq_true _ _ ▸ h.2 with h | h
          · obtain ⟨-, u, u1, u2, u3⟩ := q9rgB_ok hM h
            have hu : u = 0 := Int32.toInt_inj.mp (by rw [Int32.toInt_zero]; omega)
            rw [hjy]
            rcases m4 with m4 | ⟨u', v1, v2⟩
            · rw [m4]
              exact e5 _ (by omega) (by omega)
            · rw [u1] at v1
              cases v1
              rw [v2, hu]
          · obtain ⟨ka, fa, k, f9, y', d1, d2, d3, d4, d5, d6, d7, d8, d9⟩ := q9plK_ok hM hz0 h
            rw [hy] at d8
            cases d8
            have l1 := q9leB_ok hM d2 wz.2.2 d1
            rw [d4, e2] at l1
            have l1 : k.toInt ≤ n0.toInt + -1 := l1
            omega
        · rw [m2 j hjy]
          exact e5 j hj1 hj2
      · rename_i h149
        split at h
        · rename_i h146
          rw [Bool.and_eq_true, beq_iff_eq, Bool.and_eq_true, beq_iff_eq, Bool.and_eq_true] at h
          obtain ⟨h1, h2, h3, h4⟩ := h
          have hc9 : c ≤ -100 := by omega
          have hk9 : q9afK c ≠ [] := by
            rcases h146 with rfl | rfl
            · decide
            · decide
          have hP := q9fm_of hM hz hc hc9
          refine mk hc9 ?_
          rw [q9FMP_af hk9] at hP ⊢
          obtain ⟨a0, cd0, n0, M, e1, e2, e3, e4, e5⟩ := hP
          have l1 := q9leB_ok hM hi9 wz.2.2 h3
          have l2 := q9leB_ok hM wz.2.2 hi9 h4
          rw [hy, e2] at l1
          rw [hy, e2] at l2
          have l1 : y.toInt ≤ n0.toInt + -20000 := l1
          have l2 : n0.toInt ≤ y.toInt + 20000 := l2
          obtain ⟨M', m1, m2, -, -⟩ := e4.st9 (j := y.toNatClampNeg) (v := q9ev r v) hD g2
          refine ⟨a0, cd0, n0, M', e1, e2, e3, m1, ?_⟩
          rcases h146 with rfl | rfl
          · obtain ⟨gg, s1, s2⟩ : ∃ g : Int32, q9oI O.1 1063 (Int32.ofInt 2) g ∧ q9PVV O 0 g.toInt n0.toInt M := e5
            exact (⟨gg, s1, s2.st fun j _ hj => m2 j (by omega)⟩ : ∃ g : Int32, q9oI O.1 1063 (Int32.ofInt 2) g ∧ q9PVV O 0 g.toInt n0.toInt M')
          · obtain ⟨gg, s1, s2⟩ : ∃ g : Int32, q9oI O.1 1063 (Int32.ofInt 2) g ∧ q9PVV O 1 g.toInt n0.toInt M := e5
            exact (⟨gg, s1, s2.st fun j _ hj => m2 j (by omega)⟩ : ∃ g : Int32, q9oI O.1 1063 (Int32.ofInt 2) g ∧ q9PVV O 1 g.toInt n0.toInt M')
        · rename_i h146
          split at h
          · rename_i h145
            rw [Bool.and_eq_true, beq_iff_eq, Bool.and_eq_true, beq_iff_eq] at h
            obtain ⟨h1, h2, h3⟩ := h
            have hc9 : c ≤ -100 := by omega
            have hk9 : q9afK c ≠ [] := by
              rcases h145 with rfl | rfl
              · decide
              · decide
            have hP := q9fm_of hM hz hc hc9
            refine mk hc9 ?_
            rw [q9FMP_af hk9] at hP ⊢
            obtain ⟨a0, cd0, n0, M, e1, e2, e3, e4, e5⟩ := hP
            obtain ⟨ka, fa, k, f9, y', d1, d2, d3, d4, d5, d6, d7, d8, d9⟩ := q9plK_ok hM hz0 h3
            rw [hy] at d8
            cases d8
            rw [Bool.and_eq_true, Bool.and_eq_true] at d1
            obtain ⟨d1, d10, d11⟩ := d1
            have hsk := q9scrB_ok hM hz0 d4 d11
            have l1 := q9leB_ok hM d3 wz.2.2 d1
            have l2 := q9leB_ok hM wz.2.2 d3 d10
            rw [d5, e2] at l1
            rw [d5, e2] at l2
            have l1 : f9.toInt ≤ n0.toInt + -20000 := l1
            have l2 : n0.toInt ≤ f9.toInt + 20000 := l2
            obtain ⟨M', m1, m2, -, -⟩ := e4.st9 (j := y.toNatClampNeg) (v := q9ev r v) hD g2
            refine ⟨a0, cd0, n0, M', e1, e2, e3, m1, ?_⟩
            have same : ∀ k' : Int32, q9oI O.1 1063 (Int32.ofInt 1) k' → k' = k := fun k' hk' => by
              unfold q9oI at hk' hsk
              rw [hk'] at hsk
              exact Value.int.inj (Option.some.inj hsk)
            rcases h145 with rfl | rfl
            · obtain ⟨gg, kk, s1, s2, s3, s4⟩ : ∃ g k : Int32, q9oI O.1 1063 (Int32.ofInt 2) g ∧ q9oI O.1 1063 (Int32.ofInt 1) k ∧ (0 ≤ k.toInt ∧ k.toInt ≤ 11) ∧ q9PVV O 0 g.toInt n0.toInt (fun j => M (400 * k.toInt.toNat + j)) := e5
              have := same kk s2
              subst this
              exact (⟨gg, kk, s1, s2, s3, s4.st fun j hj1 hj => m2 _ (by omega)⟩ : ∃ g k : Int32, q9oI O.1 1063 (Int32.ofInt 2) g ∧ q9oI O.1 1063 (Int32.ofInt 1) k ∧ (0 ≤ k.toInt ∧ k.toInt ≤ 11) ∧ q9PVV O 0 g.toInt n0.toInt (fun j => M' (400 * k.toInt.toNat + j)))
            · obtain ⟨gg, kk, s1, s2, s3, s4⟩ : ∃ g k : Int32, q9oI O.1 1063 (Int32.ofInt 2) g ∧ q9oI O.1 1063 (Int32.ofInt 1) k ∧ (0 ≤ k.toInt ∧ k.toInt ≤ 11) ∧ q9PVV O 1 g.toInt n0.toInt (fun j => M (400 * k.toInt.toNat + j)) := e5
              have := same kk s2
              subst this
              exact (⟨gg, kk, s1, s2, s3, s4.st fun j hj1 hj => m2 _ (by omega)⟩ : ∃ g k : Int32, q9oI O.1 1063 (Int32.ofInt 2) g ∧ q9oI O.1 1063 (Int32.ofInt 1) k ∧ (0 ≤ k.toInt ∧ k.toInt ≤ 11) ∧ q9PVV O 1 g.toInt n0.toInt (fun j => M' (400 * k.toInt.toNat + j)))
          · cases h
  · cases h
theorem q9jTN_ref {G : q9GH} {x : q9ST} {r : Nat → Value} (hS : q9SAT G (q9tE x) r) {cd : Nat} {a i v : q9AV} {z : Nat × q9AV × q9AV} {b : Nat} (h : q9jTN x cd a i v z = true) (e : r z.1 = .ref b) : False := by
  (rewrite [q9jTN_oq] at h; unfold q9jTN_o at h)
  split at h
  · rename_i c hc
    have hc9 : c ≤ -100 := by
      split at h
      · omega
      · split at h
        · omega
        · split at h
          · omega
          · split at h
            · omega
            · cases h
    have h1 := q9famE_ok hS hc hc9
    rw [e] at h1
    cases h1
  · cases h
theorem q9jTB_ok {nL : Nat} {g : List Value} {x : q9ST} {r : Nat → Value} {G : q9GH} {ws : va_W} {ls : Array Slot} {st : List Value} (hM : q9SM O nL g x r G ws ls st) (hw : q9wfB x = true) {cT : Nat → ClassId} {B : q9TB} (hT : q9tyW cT B G ws) {A : Nat → Prop} (hD : va_D A ws) {z : Nat × q9AV × q9AV} (hz : z ∈ q9tA x) {cd : Nat} {a i v : q9AV} {b qi n : Nat} {ce : va_E} (hi9 : q9okAV (q9tE x) i = true) (hb : q9ev r a = .ref b) (g1 : G[qi]? = some (b, cd, n)) (g2 : ws[qi]? = some (b, ce)) {y : Int32} (hy : q9ev r i = .int y) (hy0 : 0 ≤ y.toInt) (h : q9jTB x cd a i v z = true) : q9JA O G (ws.set qi (b, q9upE ce y.toNatClampNeg (q9ev r v))) (r z.1) (q9ev r z.2.1) (q9ev r z.2.2) := by
  (rewrite [q9jTB_oq] at h; unfold q9jTB_o at h)
  rcases Bool.or_eq_true _ _ ▸ h with h | h
  rotate_left
  · rw [Bool.and_eq_true] at h
    exact q9jTN_ok hM hw hT hD hz hi9 hb g1 g2 hy hy0 (q9zero_at h.1) h.2
  rcases Bool.or_eq_true _ _ ▸ h with h | h
  rotate_left
  · exact q9jTS4_ok hM hw hT hD hz hi9 hb g1 g2 hy hy0 h
  rcases Bool.or_eq_true _ _ ▸ h with h | h
  · exact q9jTB4_ok hM hw hT hD hz hi9 hb g1 g2 hy hy0 h
  · rw [Bool.and_eq_true] at h
    exact q9jTB5_ok hM hw hT hD hz hi9 hb g1 g2 hy hy0 (q9zero_at h.1) h.2
theorem q9jTB_ref {G : q9GH} {x : q9ST} {r : Nat → Value} (hS : q9SAT G (q9tE x) r) {cd : Nat} {a i v : q9AV} {z : Nat × q9AV × q9AV} {b : Nat} (h : q9jTB x cd a i v z = true) (e : r z.1 = .ref b) : False := by
  (rewrite [q9jTB_oq] at h; unfold q9jTB_o at h)
  rcases Bool.or_eq_true _ _ ▸ h with h | h
  rotate_left
  · rw [Bool.and_eq_true] at h
    exact q9jTN_ref hS h.2 e
  rcases Bool.or_eq_true _ _ ▸ h with h | h
  rotate_left
  · exact q9jTS4_ref hS h e
  rcases Bool.or_eq_true _ _ ▸ h with h | h
  · exact q9jTB4_ref hS h e
  · rw [Bool.and_eq_true] at h
    exact q9jTB5_ref hS h.2 e
theorem q9stA0_ok {nL : Nat} {g : List Value} {x : q9ST} {r : Nat → Value} {G : q9GH} {ws : va_W} {ls : Array Slot} {st : List Value} (hM : q9SM O nL g x r G ws ls st) {A : Nat → Prop} (hD : va_D A ws) {cd : Nat} {a i v : q9AV} {b qi : Nat} {ce : va_E} (hi9 : q9okAV (q9tE x) i = true) (hb : q9ev r a = .ref b) (g2 : ws[qi]? = some (b, ce)) {y : Int32} (hy : q9ev r i = .int y) (hy0 : 0 ≤ y.toInt) : ∀ z ∈ q9stA0 x cd a i v, q9AMok O r G (ws.set qi (b, q9upE ce y.toNatClampNeg (q9ev r v))) z := by
  intro z hz
  have ey : y.toNatClampNeg = y.toInt.toNat := rfl
  (rewrite [q9stA0_oq] at hz; unfold q9stA0_o at hz)
  split at hz
  · rename_i hc
    (rewrite [q9stCq_oq] at hc; unfold q9stCq_o at hc)
    simp only [Bool.and_eq_true, beq_iff_eq, List.any_eq_true] at hc
    obtain ⟨c1, c2, c3, u, u1, u2, u3, u4⟩ := hc
    obtain ⟨w, w0, rfl⟩ := List.mem_map.mp hz
    obtain ⟨w1, w2⟩ := List.mem_filter.mp w0
    simp only [Bool.and_eq_true, beq_iff_eq] at w2
    obtain ⟨w2, w3, w4⟩ := w2
    have hN := q9fm_of hM w1 w2 (by decide)
    rw [q9FMP_na, w3, hb] at hN
    obtain ⟨a1, n1, f, k1, k2, k3, k4, k5, k6, k7⟩ := hN
    cases k1
    have hR := q9fm_of hM u1 u2 (by decide)
    rw [q9FMP_fr, u3, u4, hb] at hR
    obtain ⟨o, a2, f2, m1, m2, m3, m4⟩ := hR
    cases m2
    have hff := q9puA.one hD k3 m3
    subst hff
    have hn := q9eqB_ok hM hi9 hy w4
    rw [k2] at hn
    cases hn
    have hyr : 0 ≤ y.toInt ∧ y.toInt < 8 ∧ q9ev r (i.1, i.2 + 1) = .int (y + 1) ∧ (y + 1).toInt = y.toInt + 1 := by
      split at c3
      · rename_i l h hn
        rw [Bool.and_eq_true, decide_eq_true_eq, decide_eq_true_eq] at c3
        obtain ⟨u', y1, y9, y2, y3⟩ := q9num_int hM.2.2.2.1 hi9 hn
        rw [hy] at y1
        cases y1
        have hn1 : q9num (q9tE x) (i.1, i.2 + 1) = some (0, l + 1, h + 1) := q9num_sh hn
        obtain ⟨w', x1, x9, x2, x3⟩ := q9num_int hM.2.2.2.1 c2 hn1
        have x9 : w'.toInt = q9iv r i.1 + (i.2 + 1) := x9
        have e1 : (y + 1).toInt = y.toInt + 1 := by
          rw [Int32.toInt_add]
          show (y.toInt + (1 : Int32).toInt).bmod (2 ^ 32) = _
          rw [show (1 : Int32).toInt = 1 from rfl]
          exact q9bm32 (by omega) (by omega)
        refine ⟨by omega, by omega, ?_, e1⟩
        rw [x1]
        have : w' = y + 1 := Int32.toInt_inj.mp (by rw [e1]; omega)
        rw [this]
      · cases c3
    obtain ⟨y1, y2, y3, y4⟩ := hyr
    obtain ⟨q, kk, n', cA, x1, x2⟩ := k3
    have hq : q = qi := hD.1 q qi _ _ x2 g2 rfl
    subst hq
    rw [x2] at g2
    cases g2
    have f3 := q9puA.st (y := y.toNatClampNeg) (z := o) hD ⟨q, kk, n', cA, x1, x2⟩ x2 rfl
    rw [m1]
    refine q9fm_mk (c := -100) (q9famE_ok hM.2.2.2.1 w2 (by decide)) (by decide) ?_
    rw [q9FMP_na]
    refine ⟨b, y + 1, _, hb, y3, f3, by omega, by omega, fun t ht => ?_, fun t1 t2 h1 h2 he hne => ?_⟩
    · unfold va_up
      split
      · rename_i hty
        constructor
        · intro hh; cases hh
        · intro hh; omega
      · rename_i hty
        rw [k6 t ht]
        omega
    · unfold va_up at he hne
      split at he
      · rename_i ht1
        split at he
        · rename_i ht2
          omega
        · exact absurd he.symm (m4 t2 h2)
      · rename_i ht1
        split at he
        · exact absurd he (m4 t1 h1)
        · rw [if_neg ht1] at hne
          exact k7 t1 t2 h1 h2 he hne
  · cases hz
noncomputable def q9stSq_o (x : q9ST) (cd : Nat) (a i v : q9AV) : Bool := cd == 153 && (q9okAV (q9tE x) (i.1, i.2 + 1) && ((match q9num (q9tE x) i with
  | some (0, l, h) => decide (0 ≤ l) && decide (h < 12)
  | _ => false) && (q9tA x).any (fun y => q9famE (q9tE x) y.1 == some (-151) && (y.2.1 == v && y.2.2 == a))))
noncomputable def q9stSq (x : q9ST) (cd : Nat) (a i v : q9AV) : Bool := q9nd9 (q9eq9 (cd) (153)) ((q9nd9 (q9okAV (q9tE x) (i.1, i.2 + 1)) ((q9nd9 ((match q9num (q9tE x) i with
  | some (0, l, h) => q9nd9 ((q9le9 (0) (l))) ((q9lt9 (h) (12)))
  | _ => false)) (q9an9 (q9tA x) (fun y => q9nd9 (q9eq9 (q9famE (q9tE x) y.1) (some (-151))) ((q9nd9 (q9eq9 (y.2.1) (v)) (q9eq9 (y.2.2) (a))))))))))
theorem q9stSq_oq : @q9stSq = @q9stSq_o := by
  delta q9stSq q9stSq_o
  simp only [q9ge9_eq, q9fi9_eq, q9an9_eq, q9al9_eq, q9flt9_eq, q9el9_eq, q9set9_eq, q9ln9_eq, q9gD9_eq, q9ap9_eq, q9eq9_N, q9eq9_I, q9eq9_A, q9eq9_E, q9eq9_OI, q9eq9_ON, q9eq9_OA, q9eq9_L, q9eq9_S, q9de9_N, q9de9_I, q9de9_A, q9le9_N, q9le9_I, q9lt9_N, q9lt9_I, q9de9_E, q9de9_OI, q9de9_ON, q9de9_OA, q9de9_L, q9nd9_eq, q9or9_eq, Bool.cond_decide]
noncomputable def q9stS_o (x : q9ST) (cd : Nat) (a i v : q9AV) : List (Nat × q9AV × q9AV) := if q9stSq x cd a i v = true then
  ((q9tA x).filter (fun z => q9famE (q9tE x) z.1 == some (-150) && (z.2.1 == a && q9eqB x z.2.2 i))).map (fun z => (z.1, a, (i.1, i.2 + 1))) else []
noncomputable def q9stS (x : q9ST) (cd : Nat) (a i v : q9AV) : List (Nat × q9AV × q9AV) := if q9stSq x cd a i v = true then
  (q9flt9 (q9tA x) (fun z => q9nd9 (q9eq9 (q9famE (q9tE x) z.1) (some (-150))) ((q9nd9 (q9eq9 (z.2.1) (a)) (q9eqB x z.2.2 i))))).map (fun z => (z.1, a, (i.1, i.2 + 1))) else []
theorem q9stS_oq : @q9stS = @q9stS_o := by
  delta q9stS q9stS_o
  simp only [q9ge9_eq, q9fi9_eq, q9an9_eq, q9al9_eq, q9flt9_eq, q9el9_eq, q9set9_eq, q9ln9_eq, q9gD9_eq, q9ap9_eq, q9eq9_N, q9eq9_I, q9eq9_A, q9eq9_E, q9eq9_OI, q9eq9_ON, q9eq9_OA, q9eq9_L, q9eq9_S, q9de9_N, q9de9_I, q9de9_A, q9le9_N, q9le9_I, q9lt9_N, q9lt9_I, q9de9_E, q9de9_OI, q9de9_ON, q9de9_OA, q9de9_L, q9nd9_eq, q9or9_eq, Bool.cond_decide]
theorem q9stS_ok {nL : Nat} {g : List Value} {x : q9ST} {r : Nat → Value} {G : q9GH} {ws : va_W} {ls : Array Slot} {st : List Value} (hM : q9SM O nL g x r G ws ls st) {A : Nat → Prop} (hD : va_D A ws) {cd : Nat} {a i v : q9AV} {b qi : Nat} {ce : va_E} (hi9 : q9okAV (q9tE x) i = true) (hb : q9ev r a = .ref b) (g2 : ws[qi]? = some (b, ce)) {y : Int32} (hy : q9ev r i = .int y) (hy0 : 0 ≤ y.toInt) : ∀ z ∈ q9stS x cd a i v, q9AMok O r G (ws.set qi (b, q9upE ce y.toNatClampNeg (q9ev r v))) z := by
  intro z hz
  have ey : y.toNatClampNeg = y.toInt.toNat := rfl
  (rewrite [q9stS_oq] at hz; unfold q9stS_o at hz)
  split at hz
  · rename_i hc
    (rewrite [q9stSq_oq] at hc; unfold q9stSq_o at hc)
    simp only [Bool.and_eq_true, beq_iff_eq, List.any_eq_true] at hc
    obtain ⟨c1, c2, c3, u, u1, u2, u3, u4⟩ := hc
    obtain ⟨w, w0, rfl⟩ := List.mem_map.mp hz
    obtain ⟨w1, w2⟩ := List.mem_filter.mp w0
    simp only [Bool.and_eq_true, beq_iff_eq] at w2
    obtain ⟨w2, w3, w4⟩ := w2
    have hN := q9fm_of hM w1 w2 (by decide)
    rw [q9FMP_nb, w3, hb] at hN
    obtain ⟨a1, n1, f, k1, k2, k3, k4, k5, k6, k7⟩ := hN
    cases k1
    have hR := q9fm_of hM u1 u2 (by decide)
    rw [q9FMP_fs, u3, u4, hb] at hR
    obtain ⟨o, a2, f2, m1, m2, m3, m4⟩ := hR
    cases m2
    have hff := q9shA.one hD k3 m3
    subst hff
    have hn := q9eqB_ok hM hi9 hy w4
    rw [k2] at hn
    cases hn
    have hyr : 0 ≤ y.toInt ∧ y.toInt < 12 ∧ q9ev r (i.1, i.2 + 1) = .int (y + 1) ∧ (y + 1).toInt = y.toInt + 1 := by
      split at c3
      · rename_i l h hn
        rw [Bool.and_eq_true, decide_eq_true_eq, decide_eq_true_eq] at c3
        obtain ⟨u', y1, y9, y2, y3⟩ := q9num_int hM.2.2.2.1 hi9 hn
        rw [hy] at y1
        cases y1
        have hn1 : q9num (q9tE x) (i.1, i.2 + 1) = some (0, l + 1, h + 1) := q9num_sh hn
        obtain ⟨w', x1, x9, x2, x3⟩ := q9num_int hM.2.2.2.1 c2 hn1
        have x9 : w'.toInt = q9iv r i.1 + (i.2 + 1) := x9
        have e1 : (y + 1).toInt = y.toInt + 1 := by
          rw [Int32.toInt_add]
          show (y.toInt + (1 : Int32).toInt).bmod (2 ^ 32) = _
          rw [show (1 : Int32).toInt = 1 from rfl]
          exact q9bm32 (by omega) (by omega)
        refine ⟨by omega, by omega, ?_, e1⟩
        rw [x1]
        have : w' = y + 1 := Int32.toInt_inj.mp (by rw [e1]; omega)
        rw [this]
      · cases c3
    obtain ⟨y1, y2, y3, y4⟩ := hyr
    obtain ⟨q, kk, n', cA, x1, x2⟩ := k3
    have hq : q = qi := hD.1 q qi _ _ x2 g2 rfl
    subst hq
    rw [x2] at g2
    cases g2
    have f3 := q9shA.st (y := y.toNatClampNeg) (z := o) hD ⟨q, kk, n', cA, x1, x2⟩ x2 rfl
    rw [m1]
    refine q9fm_mk (c := -150) (q9famE_ok hM.2.2.2.1 w2 (by decide)) (by decide) ?_
    rw [q9FMP_nb]
    refine ⟨b, y + 1, _, hb, y3, f3, by omega, by omega, fun t ht => ?_, fun t1 t2 h1 h2 he hne => ?_⟩
    · unfold va_up
      split
      · rename_i hty
        constructor
        · intro hh; cases hh
        · intro hh; omega
      · rename_i hty
        rw [k6 t ht]
        omega
    · unfold va_up at he hne
      split at he
      · rename_i ht1
        split at he
        · rename_i ht2
          omega
        · exact absurd he.symm (m4 t2 h2)
      · rename_i ht1
        split at he
        · exact absurd he (m4 t1 h1)
        · rw [if_neg ht1] at hne
          exact k7 t1 t2 h1 h2 he hne
  · cases hz
noncomputable def q9stA_o (x : q9ST) (cd : Nat) (a i v : q9AV) : List (Nat × q9AV × q9AV) := q9stA0 x cd a i v ++ q9stS x cd a i v
noncomputable def q9stA (x : q9ST) (cd : Nat) (a i v : q9AV) : List (Nat × q9AV × q9AV) := (q9ap9 (q9stA0 x cd a i v) (q9stS x cd a i v))
theorem q9stA_oq : @q9stA = @q9stA_o := by
  delta q9stA q9stA_o
  simp only [q9ge9_eq, q9fi9_eq, q9an9_eq, q9al9_eq, q9flt9_eq, q9el9_eq, q9set9_eq, q9ln9_eq, q9gD9_eq, q9ap9_eq, q9eq9_N, q9eq9_I, q9eq9_A, q9eq9_E, q9eq9_OI, q9eq9_ON, q9eq9_OA, q9eq9_L, q9eq9_S, q9de9_N, q9de9_I, q9de9_A, q9le9_N, q9le9_I, q9lt9_N, q9lt9_I, q9de9_E, q9de9_OI, q9de9_ON, q9de9_OA, q9de9_L, q9nd9_eq, q9or9_eq, Bool.cond_decide]
theorem q9stA_ok {nL : Nat} {g : List Value} {x : q9ST} {r : Nat → Value} {G : q9GH} {ws : va_W} {ls : Array Slot} {st : List Value} (hM : q9SM O nL g x r G ws ls st) {A : Nat → Prop} (hD : va_D A ws) {cd : Nat} {a i v : q9AV} {b qi : Nat} {ce : va_E} (hi9 : q9okAV (q9tE x) i = true) (hb : q9ev r a = .ref b) (g2 : ws[qi]? = some (b, ce)) {y : Int32} (hy : q9ev r i = .int y) (hy0 : 0 ≤ y.toInt) : ∀ z ∈ q9stA x cd a i v, q9AMok O r G (ws.set qi (b, q9upE ce y.toNatClampNeg (q9ev r v))) z := fun z hz => by
  (rewrite [q9stA_oq] at hz; unfold q9stA_o at hz)
  exact (List.mem_append.mp hz).elim (fun h => q9stA0_ok hM hD hi9 hb g2 hy hy0 z h) (fun h => q9stS_ok hM hD hi9 hb g2 hy hy0 z h)
/-- a shot, stored among the shots -/
noncomputable def q9rcK_o (cd : Nat) (k : q9AK) : Bool := cd == 153 && decide (4 ≤ k.1)
noncomputable def q9rcK (cd : Nat) (k : q9AK) : Bool := q9nd9 (q9eq9 (cd) (153)) ((q9le9 (4) (k.1)))
theorem q9rcK_oq : @q9rcK = @q9rcK_o := by
  delta q9rcK q9rcK_o
  simp only [q9ge9_eq, q9fi9_eq, q9an9_eq, q9al9_eq, q9flt9_eq, q9el9_eq, q9set9_eq, q9ln9_eq, q9gD9_eq, q9ap9_eq, q9eq9_N, q9eq9_I, q9eq9_A, q9eq9_E, q9eq9_OI, q9eq9_ON, q9eq9_OA, q9eq9_L, q9eq9_S, q9de9_N, q9de9_I, q9de9_A, q9le9_N, q9le9_I, q9lt9_N, q9lt9_I, q9de9_E, q9de9_OI, q9de9_ON, q9de9_OA, q9de9_L, q9nd9_eq, q9or9_eq, Bool.cond_decide]
noncomputable def q9exSt_o (B : q9TB) (Wr : List Nat) (x : q9ST) (tys : List Nat) (pc' : Nat) : Option (List (Nat × q9ST)) := match q9tS x with
  | v :: i :: a :: rest => (match q9kindOf B x a.1 with
    | some (cd, k) => if tys.elem k.1 = true ∧ q9inB x a.1 i k = true ∧ q9subB (q9tE x) v k.2.2.2 = true ∧ q9narB k = true ∧ Wr.elem (100000 + cd) = true ∧ (4 ≤ k.1 → q9codeOf x v.1 = some k.2.2.2.2.1.toNat ∧ k.2.2.2.2.1.toNat < 20) ∧ (q9intK k = true → q9isInt x v = true) ∧ (k.1 = 2 → q9isLng x v = true) then
        some [(pc', q9sS (q9sA x ((if (q9numK k || (q9rcK cd k && v.2 == 0)) then [(a.1, i, v)] else []) ++ (q9stA x cd a i v ++ (q9tA x).filter (fun z => match q9codeOf x z.1 with | some cd' => !(cd' == cd) || (q9cneq x cd z.2.1 i || q9nneq x z.2.1 i) | none => q9jB [100000 + cd] (q9tE x) z.1 || q9jSB x cd i z || q9jTB x cd a i v z)))) rest)] else none
    | none => none)
  | _ => none
noncomputable def q9exSt (B : q9TB) (Wr : List Nat) (x : q9ST) (tys : List Nat) (pc' : Nat) : Option (List (Nat × q9ST)) := match q9tS x with
  | v :: i :: a :: rest => (match q9kindOf B x a.1 with
    | some (cd, k) => if q9el9 tys k.1 = true ∧ q9inB x a.1 i k = true ∧ q9subB (q9tE x) v k.2.2.2 = true ∧ q9narB k = true ∧ q9el9 Wr (100000 + cd) = true ∧ (4 ≤ k.1 → q9codeOf x v.1 = some k.2.2.2.2.1.toNat ∧ k.2.2.2.2.1.toNat < 20) ∧ (q9intK k = true → q9isInt x v = true) ∧ (k.1 = 2 → q9isLng x v = true) then
        some [(pc', q9sS (q9sA x ((q9ap9 ((if (q9or9 (q9numK k) ((q9nd9 (q9rcK cd k) (q9eq9 (v.2) (0))))) then [(a.1, i, v)] else [])) (((q9ap9 (q9stA x cd a i v) (q9flt9 (q9tA x) (fun z => match q9codeOf x z.1 with | some cd' => q9or9 (!(q9eq9 (cd') (cd))) ((q9or9 (q9cneq x cd z.2.1 i) (q9nneq x z.2.1 i))) | none => q9or9 (q9or9 (q9jB [100000 + cd] (q9tE x) z.1) (q9jSB x cd i z)) (q9jTB x cd a i v z))))))))) rest)] else none
    | none => none)
  | _ => none
theorem q9exSt_oq : @q9exSt = @q9exSt_o := by
  delta q9exSt q9exSt_o
  simp only [q9ge9_eq, q9fi9_eq, q9an9_eq, q9al9_eq, q9flt9_eq, q9el9_eq, q9set9_eq, q9ln9_eq, q9gD9_eq, q9ap9_eq, q9eq9_N, q9eq9_I, q9eq9_A, q9eq9_E, q9eq9_OI, q9eq9_ON, q9eq9_OA, q9eq9_L, q9eq9_S, q9de9_N, q9de9_I, q9de9_A, q9le9_N, q9le9_I, q9lt9_N, q9lt9_I, q9de9_E, q9de9_OI, q9de9_ON, q9de9_OA, q9de9_L, q9nd9_eq, q9or9_eq, Bool.cond_decide]
theorem q9upE_ty {G : q9GH} {k : q9AK} {n : Nat} {e : va_E} (h : q9tyA cT G k n e) {i : Nat} {v : Value} (hv : q9tyV G k.2.2.2 v) : q9tyA cT G k n (q9upE e i v) := by
  obtain ⟨t, N, b, et⟩ := k
  obtain ⟨h1, h2, h⟩ := h
  refine ⟨h1, h2, ?_⟩
  have key : ∀ f : Nat → Int32, (∀ j : Nat, j < n → q9tyV G et (.int (f j))) → ∀ x : Int32, v = .int x → ∀ j : Nat, j < n → q9tyV G et (.int (upd f i x j)) := by
    intro f hf x hx j hj
    unfold upd
    split
    · rw [← hx]
      exact hv
    · exact hf j hj
  match t, h with
  | 0, ⟨f, e1, e2⟩ =>
    subst e1
    match v, hv with
    | .int x, hv => exact ⟨_, rfl, key f e2 x rfl⟩
    | .long x, hv => exact ⟨f, rfl, e2⟩
    | .float x, hv => exact ⟨f, rfl, e2⟩
    | .double x, hv => exact ⟨f, rfl, e2⟩
    | .ref x, hv => exact ⟨f, rfl, e2⟩
    | .null, hv => exact ⟨f, rfl, e2⟩
    | .retAddr x, hv => exact ⟨f, rfl, e2⟩
  | 1, ⟨f, e1, e2⟩ =>
    subst e1
    match v, hv with
    | .int x, hv => exact ⟨_, rfl, key f e2 x rfl⟩
    | .long x, hv => exact ⟨f, rfl, e2⟩
    | .float x, hv => exact ⟨f, rfl, e2⟩
    | .double x, hv => exact ⟨f, rfl, e2⟩
    | .ref x, hv => exact ⟨f, rfl, e2⟩
    | .null, hv => exact ⟨f, rfl, e2⟩
    | .retAddr x, hv => exact ⟨f, rfl, e2⟩
  | 3, ⟨f, e1, e2⟩ =>
    subst e1
    match v, hv with
    | .int x, hv => exact ⟨_, rfl, key f e2 x rfl⟩
    | .long x, hv => exact ⟨f, rfl, e2⟩
    | .float x, hv => exact ⟨f, rfl, e2⟩
    | .double x, hv => exact ⟨f, rfl, e2⟩
    | .ref x, hv => exact ⟨f, rfl, e2⟩
    | .null, hv => exact ⟨f, rfl, e2⟩
    | .retAddr x, hv => exact ⟨f, rfl, e2⟩
  | 2, ⟨f, e1, e2⟩ =>
    subst e1
    match v, hv with
    | .long x, hv =>
      refine ⟨_, rfl, fun j hj => ?_⟩
      unfold vp_updL
      split
      · exact hv
      · exact e2 j hj
    | .int x, hv => exact ⟨f, rfl, e2⟩
    | .float x, hv => exact ⟨f, rfl, e2⟩
    | .double x, hv => exact ⟨f, rfl, e2⟩
    | .ref x, hv => exact ⟨f, rfl, e2⟩
    | .null, hv => exact ⟨f, rfl, e2⟩
    | .retAddr x, hv => exact ⟨f, rfl, e2⟩
  | _ + 4, ⟨f, e1, e2⟩ =>
    subst e1
    match v, hv with
    | .ref x, hv =>
      refine ⟨_, rfl, fun j hj => ?_⟩
      unfold va_up
      split
      · exact hv
      · exact e2 j hj
    | .int x, hv => exact ⟨f, rfl, e2⟩
    | .float x, hv => exact ⟨f, rfl, e2⟩
    | .double x, hv => exact ⟨f, rfl, e2⟩
    | .long x, hv => exact ⟨f, rfl, e2⟩
    | .null, hv => exact ⟨f, rfl, e2⟩
    | .retAddr x, hv => exact ⟨f, rfl, e2⟩
theorem q9exSt_ok {x : q9ST} {r : Nat → Value} {tys : List Nat} {pc pc' : Nat} {ss : List (Nat × q9ST)} (hw : q9wfB x = true) (h : q9exSt B Wr x tys pc' = some ss) (hn : q9NX O p l e R ko s m args below meth c Q nL g (q9WM D cT B A H0 G0 ws0 Wr) ss x r)
    (row : ∀ (G : q9GH) (k : q9AK) (n : Nat) (ce : va_E) (v : Value) (cd : Nat), k.1 ∈ tys → B.2.1[cd - 100]? = some k → q9tyA cT G k n ce → q9tyV G k.2.2.2 v → q9narB k = true → ∀ (ws : va_W) (q b : Nat) (i : Int32) (H : Heap) (locs : List Loc) (cells slots : Nat) (ls : Array Slot) (rest : List Value), va_P D vwCl ws H → va_D A ws → va_S A H0 H locs → ws[q]? = some (b, ce) → vp_in i n → (4 ≤ k.1 → ∃ (qk z : Nat) (vs : List Value), v = .ref z ∧ ws[qk]? = some (z, .inr (k.2.2.2.2.1.toNat, vs))) → (q9intK k = true → ∃ u : Int32, v = .int u) → (k.1 = 2 → ∃ u : Int64, v = .long u) →
      (∀ (H1 : Heap) (locs1 : List Loc), va_P D vwCl (ws.set q (b, q9upE ce i.toNatClampNeg v)) H1 → va_D A (ws.set q (b, q9upE ce i.toNatClampNeg v)) → va_S A H0 H1 locs1 → W p l e R s m args below meth c H1 locs1 cells slots Q (F0 m pc' ls rest)) → W p l e R s m args below meth c H locs cells slots Q (F0 m pc ls (v :: .int i :: .ref b :: rest))) : q9GO O p l e R ko s m args below meth c Q nL g (q9WM D cT B A H0 G0 ws0 Wr) pc x r := by
  (rewrite [q9exSt_oq] at h; unfold q9exSt_o at h)
  split at h
  · rename_i v i a rest hT
    split at h
    · rename_i cd k hk
      split at h
      · rename_i hc
        obtain ⟨c1, c2, c3, c4, c5, c6, c7, q9c8⟩ := hc
        cases h
        intro G ws H locs ls st hM hW
        obtain ⟨hP, hD, hS, hTy, hX, hKe⟩ := hW
        have hv : q9okAV (q9tE x) v = true := q9wf_S hw v (by rw [hT]; exact List.mem_cons_self)
        have hi : q9okAV (q9tE x) i = true := q9wf_S hw i (by rw [hT]; exact List.mem_cons_of_mem _ List.mem_cons_self)
        obtain ⟨b, n, qi, ce, k1, k2, k3, k4, k5, k6, k7⟩ := q9kindOf_ok hM.2.2.2.1 hTy hk
        obtain ⟨y, y1, y2, y3⟩ := q9inB_ok hw hM hTy hD hi k1 k2 k5 c2
        have htv := q9sub_ok hM.2.2.2.1 hv c3
        have ea : q9ev r a = .ref b := by
          unfold q9ev
          rw [k1]
        have hst := hM.2.1
        rw [hT, List.map_cons, List.map_cons, List.map_cons, y1, ea] at hst
        rw [hst]
        refine row G k n ce (q9ev r v) cd (List.elem_iff.mp c1) k6 k5 htv c4 ws qi b y H locs _ _ ls _ hP hD hS k4 y2 (fun h4 => ?_) (fun h5 => q9isInt_ok hM.2.2.2.1 hv (c7 h5)) (fun h5 => q9isLng_ok hM.2.2.2.1 (q9c8 h5)) fun H1 locs1 hP1 hD1 hS1 => ?_
        · obtain ⟨d1, d2⟩ := c6 h4
          obtain ⟨z, nz, z1, z2⟩ := q9codeOf_ok hM.2.2.2.1 d1
          obtain ⟨qk, ez, w1, w2, w3⟩ := hTy.at z2
          rcases w3 with ⟨-, vs, F, f1, -⟩ | ⟨hh, -⟩
          · subst f1
            exact ⟨qk, z, vs, by unfold q9ev; rw [z1], by rw [Nat.mod_eq_of_lt d2] at w2; exact w2⟩
          · omega
        · have hTy1 := hTy.set k3 (e' := q9upE ce y.toNatClampNeg (q9ev r v)) (.inr ⟨k7, k, k6, q9upE_ty k5 htv⟩)
          have hkeg : ∀ W9 : List Nat, 100000 + cd ∈ W9 → q9keepW W9 G ws (ws.set qi (b, q9upE ce y.toNatClampNeg (q9ev r v))) := fun W9 hin => q9keepW.set k3 k4 (by
            obtain ⟨t, N, fx, et⟩ := k
            obtain ⟨-, -, k5⟩ := k5
            have fin : ∀ u w : ClassId × vp_A, q9keepE W9 cd (.inl u) (.inl w) := fun u w hh => absurd hin hh
            match t, k5 with
            | 0, ⟨f, e1, e2⟩ => subst e1; cases hvv : q9ev r v <;> exact fin _ _
            | 1, ⟨f, e1, e2⟩ => subst e1; cases hvv : q9ev r v <;> exact fin _ _
            | 2, ⟨f, e1, e2⟩ => subst e1; cases hvv : q9ev r v <;> exact fin _ _
            | 3, ⟨f, e1, e2⟩ => subst e1; cases hvv : q9ev r v <;> exact fin _ _
            | _ + 4, ⟨f, e1, e2⟩ => subst e1; cases hvv : q9ev r v <;> exact fin _ _)
          have hke := hkeg Wr (List.elem_iff.mp c5)
          have hke1 := hkeg [100000 + cd] List.mem_cons_self
          have hy0 : 0 ≤ y.toInt := by
            by_cases h9 : 0 ≤ y.toInt
            · exact h9
            · exact absurd (.inl (by rw [Int32.lt_iff_toInt_lt, Int32.toInt_zero]; omega)) y2
          have hM2 : q9SM O nL g (q9sA x ((if (q9numK k || (q9rcK cd k && v.2 == 0)) then [(a.1, i, v)] else []) ++ (q9stA x cd a i v ++ (q9tA x).filter (fun z => match q9codeOf x z.1 with | some cd' => !(cd' == cd) || (q9cneq x cd z.2.1 i || q9nneq x z.2.1 i) | none => q9jB [100000 + cd] (q9tE x) z.1 || q9jSB x cd i z || q9jTB x cd a i v z)))) r G (ws.set qi (b, q9upE ce y.toNatClampNeg (q9ev r v))) ls st := by
            refine ⟨hM.1, hM.2.1, hM.2.2.1, hM.2.2.2.1, fun z hz => ?_, fun z hz => ?_, hM.2.2.2.2.2.2⟩
            · have h9 := hM.2.2.2.2.1 z hz
              unfold q9FMok at h9 ⊢
              split
              · rename_i h0
                rw [if_pos h0] at h9
                exact h9
              · rename_i h0
                rw [if_neg h0] at h9
                obtain ⟨b', i', ci', fs', e1, e2, e3⟩ := h9
                refine ⟨b', i', ci', fs', e1, ?_, e3⟩
                by_cases hii : i' = qi
                · subst hii
                  rw [k4] at e2
                  cases e2
                  obtain ⟨t, N, fx, et⟩ := k
                  obtain ⟨-, -, k5⟩ := k5
                  match t, k5 with
                  | 0, ⟨f, e1, e2⟩ => cases e1
                  | 1, ⟨f, e1, e2⟩ => cases e1
                  | 2, ⟨f, e1, e2⟩ => cases e1
                  | 3, ⟨f, e1, e2⟩ => cases e1
                  | _ + 4, ⟨f, e1, e2⟩ => cases e1
                · rw [List.getElem?_set_ne (fun y => hii y.symm)]
                  exact e2
            · rcases List.mem_append.mp hz with hz | hz
              · split at hz
                · rename_i hik
                  rw [List.mem_singleton] at hz
                  subst hz
                  rcases Bool.or_eq_true _ _ ▸ hik with hik | hik
                  · obtain ⟨f, hf1, hf2⟩ := q9upE_at k5 hik (v := q9ev r v) (j := y.toNatClampNeg) (fun h5 => q9isInt_ok hM.2.2.2.1 hv (c7 h5)) (fun h5 => q9isLng_ok hM.2.2.2.1 (q9c8 h5))
                    exact .inl ⟨b, qi, cT k.1, n, f, y, k1, by rw [List.getElem?_set_self (List.getElem?_eq_some_iff.mp k4).1, hf1], y1, hf2⟩
                  · (rewrite [q9rcK_oq] at hik; unfold q9rcK_o at hik)
                    simp only [Bool.and_eq_true, beq_iff_eq, decide_eq_true_eq] at hik
                    obtain ⟨⟨-, hk4⟩, -⟩ := hik
                    obtain ⟨o9, no, ro, -⟩ := q9codeOf_ok hM.2.2.2.1 (c6 hk4).1
                    have ev9 : q9ev r v = .ref o9 := by
                      unfold q9ev
                      rw [ro]
                    obtain ⟨t, N, fx, et⟩ := k
                    obtain ⟨-, -, k5⟩ := k5
                    match t, hk4, k5 with
                    | t' + 4, _, ⟨f, e1, e2⟩ =>
                      subst e1
                      refine .inl ⟨b, qi, cT (t' + 4), n, .inr (.inr (.inr (.inr (va_up f y.toNatClampNeg (some o9))))), y, k1, ?_, y1, ?_⟩
                      · rw [List.getElem?_set_self (List.getElem?_eq_some_iff.mp k4).1, ev9]
                        rfl
                      · show q9ev r v = va_rf (va_up f y.toNatClampNeg (some o9) y.toNatClampNeg)
                        unfold va_up
                        rw [if_pos rfl, ev9]
                        rfl
                · cases hz
              rcases List.mem_append.mp hz with hz | hz
              · exact q9stA_ok hM hD hi ea k4 y1 hy0 z hz
              · obtain ⟨z1, z2⟩ := List.mem_filter.mp hz
                rcases hM.2.2.2.2.2.1 z z1 with ⟨b', i', cA, n', f, w, e1, e2, e3, e4⟩ | hJ
                case inr =>
                  cases hcz : q9codeOf x z.1 with
                  | none =>
                    rw [hcz] at z2
                    rcases Bool.or_eq_true _ _ ▸ z2 with z2 | z2
                    rotate_left
                    · exact .inr (q9jTB_ok hM hw hTy hD z1 hi ea k3 k4 y1 hy0 z2)
                    rcases Bool.or_eq_true _ _ ▸ z2 with z2 | z2
                    · exact .inr (q9JA_keep q9extG.rf hke1 (q9jB_ok hM.2.2.2.1 z2) hJ)
                    · obtain ⟨c9, hc9, hc8⟩ := q9jSB_fam hM.2.2.2.1 z2
                      have hJ := hJ.old hc9 hc8
                      obtain ⟨w9, hw9⟩ : ∃ w9 : ClassId × vp_A, ce = .inl w9 := by
                        obtain ⟨t, N, fx, et⟩ := k
                        obtain ⟨-, -, k5⟩ := k5
                        match t, k5 with
                        | 0, ⟨f, e1, e2⟩ => exact ⟨_, e1⟩
                        | 1, ⟨f, e1, e2⟩ => exact ⟨_, e1⟩
                        | 2, ⟨f, e1, e2⟩ => exact ⟨_, e1⟩
                        | 3, ⟨f, e1, e2⟩ => exact ⟨_, e1⟩
                        | _ + 4, ⟨f, e1, e2⟩ => exact ⟨_, e1⟩
                      have hwz := q9wf_A hw z z1
                      rw [hw9] at k4
                      rw [hw9]
                      exact .inr (.inl (q9JA0_st k3 k4 hJ (q9jSB_ok hM hi hwz.2.1 hwz.2.2 y1 hy0 z2)))
                  | some cd' =>
                    obtain ⟨b2, n2', w1, w2⟩ := q9codeOf_ok hM.2.2.2.1 hcz
                    rw [w1] at hJ
                    exact (q9JA_ref hJ).elim
                by_cases hii : i' = qi
                · subst hii
                  cases hcz : q9codeOf x z.1 with
                  | none =>
                    rw [hcz] at z2
                    rcases Bool.or_eq_true _ _ ▸ z2 with z2 | z2
                    rotate_left
                    · exact (q9jTB_ref hM.2.2.2.1 z2 e1).elim
                    rcases Bool.or_eq_true _ _ ▸ z2 with z2 | z2
                    · exact (q9jB_ref hM.2.2.2.1 z2 e1).elim
                    · exact (q9jSB_ref hM.2.2.2.1 z2 e1).elim
                  | some cd' =>
                    rw [hcz] at z2
                    obtain ⟨b2, n2', w1, w2⟩ := q9codeOf_ok hM.2.2.2.1 hcz
                    rw [e1] at w1
                    cases w1
                    rw [k4] at e2
                    cases e2
                    have hcc := (hTy.one hD w2 k2).1
                    have hcn : q9cneq x cd z.2.1 i = true ∨ q9nneq x z.2.1 i = true := by simpa [hcc] using z2
                    have hne : w.toNatClampNeg ≠ y.toNatClampNeg := by
                      rcases hcn with hcn | hcn
                      · exact q9cneq_ok hM hcn e3 y1
                      · refine q9nneq_ok hM (q9wf_A hw z z1).2.1 hi hcn e3 y1 ?_
                        by_cases h9 : 0 ≤ y.toInt
                        · exact h9
                        · exact absurd (.inl (by rw [Int32.lt_iff_toInt_lt, Int32.toInt_zero]; omega)) y2
                    obtain ⟨f', hf1, hf2⟩ := q9upE_ne (cA := cA) (n := n') (f := f) (v := q9ev r v) hne
                    exact .inl ⟨b, i', cA, n', f', w, e1, by rw [List.getElem?_set_self (List.getElem?_eq_some_iff.mp k4).1, hf1], e3, by rw [e4]; exact hf2⟩
                · exact .inl ⟨b', i', cA, n', f, w, e1, by rw [List.getElem?_set_ne (fun y => hii y.symm)]; exact e2, e3, e4⟩
          exact hn.one q9agr.rf (Nat.le_refl _) G _ H1 locs1 ls _ (hM2.S rest) ⟨hP1, hD1, hS1, hTy1, hX, hKe.tr hX hke⟩
      · cases h
    · cases h
  · cases h
end EL
