variable {O : ORC}
/-! what is made: arrays, objects, in the checker -/
/-- a world that has grown -/
theorem q9keepW.app {Wr : List Nat} {G0 : q9GH} {ws0 ws X : va_W} (h : q9keepW Wr G0 ws0 ws) : q9keepW Wr G0 ws0 (ws ++ X) := by
  intro q a t n e hg he
  obtain ⟨e', h1, h2⟩ := h q a t n e hg he
  exact ⟨e', by rw [List.getElem?_append_left (List.getElem?_eq_some_iff.mp h1).1]; exact h1, h2⟩
theorem q9extG.app {G0 G X : q9GH} (h : q9extG G0 G) : q9extG G0 (G ++ X) := h.tr ⟨X, rfl⟩
theorem q9tyW_app {cT : Nat → ClassId} {B : q9TB} {G : q9GH} {ws : va_W} (h : q9tyW cT B G ws) {a t n : Nat} {e : va_E} (he : q9tyE cT B (G ++ [(a, t, n)]) t n e) (ht : t ≠ 12) : q9tyW cT B (G ++ [(a, t, n)]) (ws ++ [(a, e)]) := by
  have hm : ∀ q ∈ G, q ∈ G ++ [(a, t, n)] := fun q hq => List.mem_append_left _ hq
  have at' : ∀ (i : Nat) (z : Nat × Nat × Nat), (G ++ [(a, t, n)])[i]? = some z → G[i]? = some z ∨ (i = G.length ∧ z = (a, t, n)) := by
    intro i z hi
    by_cases hl : i < G.length
    · rw [List.getElem?_append_left hl] at hi
      exact .inl hi
    · rw [List.getElem?_append_right (Nat.not_lt.mp hl)] at hi
      have h1 : i - G.length < 1 := (List.getElem?_eq_some_iff.mp hi).1
      have h2 : i = G.length := by omega
      subst h2
      rw [Nat.sub_self] at hi
      cases hi
      exact .inr ⟨rfl, rfl⟩
  refine ⟨by rw [List.length_append, List.length_append, h.1]; rfl, fun q b u k hq => ?_, fun i j b d k k' hi hj => ?_⟩
  · rcases at' q _ hq with hq | ⟨rfl, e1⟩
    · obtain ⟨e', h1, h2⟩ := h.2.1 q b u k hq
      exact ⟨e', by rw [List.getElem?_append_left (List.getElem?_eq_some_iff.mp h1).1]; exact h1, h2.mono hm⟩
    · cases e1
      exact ⟨e, by rw [← h.1, List.getElem?_append_right (Nat.le_refl _), Nat.sub_self]; rfl, he⟩
  · rcases at' i _ hi with hi | ⟨-, e1⟩
    · rcases at' j _ hj with hj | ⟨-, e2⟩
      · exact h.2.2 i j b d k k' hi hj
      · cases e2
        exact absurd rfl ht
    · cases e1
      exact absurd rfl ht
theorem q9SM.grow {nL : Nat} {g : List Value} {x : q9ST} {r : Nat → Value} {G Y : q9GH} {ws X : va_W} {ls : Array Slot} {st : List Value} (h : q9SM O nL g x r G ws ls st) : q9SM O nL g x r (G ++ Y) (ws ++ X) ls st := by
  have hg : ∀ (i : Nat) (z : Nat × Nat × Nat), G[i]? = some z → (G ++ Y)[i]? = some z := fun i z hi => by rw [List.getElem?_append_left (List.getElem?_eq_some_iff.mp hi).1]; exact hi
  have hw : ∀ (i : Nat) (z : Nat × va_E), ws[i]? = some z → (ws ++ X)[i]? = some z := fun i z hi => by rw [List.getElem?_append_left (List.getElem?_eq_some_iff.mp hi).1]; exact hi
  refine ⟨h.1, h.2.1, h.2.2.1, fun k t hk => (h.2.2.2.1 k t hk).mono fun q hq => List.mem_append_left _ hq, fun q hq => ?_, fun q hq => ?_, h.2.2.2.2.2.2⟩
  · have h9 := h.2.2.2.2.1 q hq
    unfold q9FMok at h9 ⊢
    split
    · rename_i h0
      rw [if_pos h0] at h9
      obtain ⟨a, cd, n, z, e1, e2, e3, e4⟩ := h9
      exact ⟨a, cd, n, z, e1, List.mem_append_left _ e2, e3, e4⟩
    · rename_i h0
      rw [if_neg h0] at h9
      obtain ⟨a, i, ci, fs, e1, e2, e3⟩ := h9
      exact ⟨a, i, ci, fs, e1, hw _ _ e2, e3⟩
  · rcases h.2.2.2.2.2.1 q hq with ⟨a, i, cA, n, f, z, e1, e2, e3, e4⟩ | hJ
    · exact .inl ⟨a, i, cA, n, f, z, e1, hw _ _ e2, e3, e4⟩
    · obtain ⟨c9, hc9⟩ := q9JA_nV hJ
      exact .inr (q9JA_keep (Wr := []) ⟨Y, rfl⟩ (q9keepW.rf.app) ⟨c9, hc9, fun _ _ hh => List.not_mem_nil hh⟩ hJ)
section MK
variable {p : Program} {l : Launch} {e : Env} {R : Room} {ko : Nat × Nat} {s : State} {m : MethodId} {args : Array Value} {below : List Frame} {meth : Method} {c : Code} {Q : State → Prop} {cc : ByteArray}
variable {nL : Nat} {g : List Value} {D : va_G} {cT : Nat → ClassId} {B : q9TB} {A : Nat → Prop} {H0 : Heap} {G0 : q9GH} {ws0 : va_W} {Wr : List Nat}
/-- nought is q9one of the elements -/
noncomputable def q9nilB_o (k : q9AK) : Bool := match k.1 with
  | 2 => k.2.2.2.1 == 1 && (decide (k.2.2.2.2.1 ≤ 0) && decide (0 ≤ k.2.2.2.2.2))
  | 0 => k.2.2.2.1 == 0 && (decide (k.2.2.2.2.1 ≤ 0) && decide (0 ≤ k.2.2.2.2.2))
  | 1 => k.2.2.2.1 == 0 && (decide (k.2.2.2.2.1 ≤ 0) && decide (0 ≤ k.2.2.2.2.2))
  | 3 => k.2.2.2.1 == 0 && (decide (k.2.2.2.2.1 ≤ 0) && decide (0 ≤ k.2.2.2.2.2))
  | _ => k.2.2.2.1 == 3
noncomputable def q9nilB (k : q9AK) : Bool := match k.1 with
  | 2 => q9nd9 (q9eq9 (k.2.2.2.1) (1)) ((q9nd9 ((q9le9 (k.2.2.2.2.1) (0))) ((q9le9 (0) (k.2.2.2.2.2)))))
  | 0 => q9nd9 (q9eq9 (k.2.2.2.1) (0)) ((q9nd9 ((q9le9 (k.2.2.2.2.1) (0))) ((q9le9 (0) (k.2.2.2.2.2)))))
  | 1 => q9nd9 (q9eq9 (k.2.2.2.1) (0)) ((q9nd9 ((q9le9 (k.2.2.2.2.1) (0))) ((q9le9 (0) (k.2.2.2.2.2)))))
  | 3 => q9nd9 (q9eq9 (k.2.2.2.1) (0)) ((q9nd9 ((q9le9 (k.2.2.2.2.1) (0))) ((q9le9 (0) (k.2.2.2.2.2)))))
  | _ => q9eq9 (k.2.2.2.1) (3)
theorem q9nilB_oq : @q9nilB = @q9nilB_o := by
  delta q9nilB q9nilB_o
  simp only [q9ge9_eq, q9fi9_eq, q9an9_eq, q9al9_eq, q9flt9_eq, q9el9_eq, q9set9_eq, q9ln9_eq, q9gD9_eq, q9ap9_eq, q9eq9_N, q9eq9_I, q9eq9_A, q9eq9_E, q9eq9_OI, q9eq9_ON, q9eq9_OA, q9eq9_L, q9eq9_S, q9de9_N, q9de9_I, q9de9_A, q9le9_N, q9le9_I, q9lt9_N, q9lt9_I, q9de9_E, q9de9_OI, q9de9_ON, q9de9_OA, q9de9_L, q9nd9_eq, q9or9_eq, Bool.cond_decide]
/-- a new array of n elements -/
noncomputable def q9newE (cT : Nat → ClassId) (t n : Nat) : va_E := .inl (cT t, n, match t with
  | 2 => .inr (.inl (fun _ => 0))
  | 0 => .inl (fun _ => 0)
  | 1 => .inl (fun _ => 0)
  | 3 => .inl (fun _ => 0)
  | _ => .inr (.inr (.inr (.inr (fun _ => none)))))
theorem q9newE_ty {G : q9GH} {k : q9AK} {n : Nat} (h : q9nilB k = true) (h1 : n ≤ k.2.1) (h2 : k.2.2.1 = true → n = k.2.1) : q9tyA cT G k n (q9newE cT k.1 n) := by
  obtain ⟨t, N, b, et⟩ := k
  obtain ⟨ek, el, eh⟩ := et
  refine ⟨h1, h2, ?_⟩
  (rewrite [q9nilB_oq] at h; unfold q9nilB_o at h)
  match t, h with
  | 0, h =>
    simp only [Bool.and_eq_true, beq_iff_eq, decide_eq_true_eq] at h
    obtain ⟨h3, h4, h5⟩ := h
    subst h3
    exact ⟨_, rfl, fun _ _ => ⟨0, rfl, h4, h5⟩⟩
  | 1, h =>
    simp only [Bool.and_eq_true, beq_iff_eq, decide_eq_true_eq] at h
    obtain ⟨h3, h4, h5⟩ := h
    subst h3
    exact ⟨_, rfl, fun _ _ => ⟨0, rfl, h4, h5⟩⟩
  | 3, h =>
    simp only [Bool.and_eq_true, beq_iff_eq, decide_eq_true_eq] at h
    obtain ⟨h3, h4, h5⟩ := h
    subst h3
    exact ⟨_, rfl, fun _ _ => ⟨0, rfl, h4, h5⟩⟩
  | 2, h =>
    simp only [Bool.and_eq_true, beq_iff_eq, decide_eq_true_eq] at h
    obtain ⟨h3, h4, h5⟩ := h
    subst h3
    exact ⟨_, rfl, fun _ _ => ⟨0, rfl, h4, h5⟩⟩
  | _ + 4, h =>
    have h3 : ek = 3 := by simpa using h
    subst h3
    exact ⟨_, rfl, fun _ _ => .inl rfl⟩
noncomputable def q9mkM_o (L : List (Nat × Nat)) (n : q9EN) (len pc : Nat) (x : q9ST) (t0 : Nat) : Option (List (Nat × q9ST)) := match L.find? (fun z => z.1 == pc) with
  | some z => (match q9tS x with
    | a :: rest => (match (q9eB n).2.1[z.2 - 100]?, q9num (q9tE x) a with
      | some k, some (0, lo, hi) => if 100 ≤ z.2 ∧ k.1 = t0 ∧ 0 ≤ lo ∧ hi ≤ (k.2.1 : Int) ∧ k.2.1 ≤ 1000000 ∧ (k.2.2.1 = true → lo = (k.2.1 : Int)) ∧ q9nilB k = true ∧ q9tN x + 1 ≤ (q9eR n).2.2.1 ∧ q9tM x + hi.toNat ≤ (q9eR n).2.2.2 then
          some [(pc + len, q9sNM (q9sS (q9sF (q9sE x (q9tE x ++ [(2, (z.2 : Int), 0)])) (((q9tE x).length, 1000, a) :: q9tF x)) (((q9tE x).length, 0) :: rest)) (q9tN x + 1) (q9tM x + hi.toNat))] else none
      | _, _ => none)
    | _ => none)
  | none => none
noncomputable def q9mkM (L : List (Nat × Nat)) (n : q9EN) (len pc : Nat) (x : q9ST) (t0 : Nat) : Option (List (Nat × q9ST)) := match q9fi9 L (fun z => q9eq9 (z.1) (pc)) with
  | some z => (match q9tS x with
    | a :: rest => (match (q9ge9 (q9eB n).2.1 (z.2 - 100)), q9num (q9tE x) a with
      | some k, some (0, lo, hi) => if 100 ≤ z.2 ∧ k.1 = t0 ∧ 0 ≤ lo ∧ hi ≤ (k.2.1 : Int) ∧ k.2.1 ≤ 1000000 ∧ (k.2.2.1 = true → lo = (k.2.1 : Int)) ∧ q9nilB k = true ∧ q9tN x + 1 ≤ (q9eR n).2.2.1 ∧ q9tM x + hi.toNat ≤ (q9eR n).2.2.2 then
          some [(pc + len, q9sNM (q9sS (q9sF (q9sE x ((q9ap9 (q9tE x) ([(2, (z.2 : Int), 0)])))) (((q9ln9 (q9tE x)), 1000, a) :: q9tF x)) (((q9ln9 (q9tE x)), 0) :: rest)) (q9tN x + 1) (q9tM x + hi.toNat))] else none
      | _, _ => none)
    | _ => none)
  | none => none
theorem q9mkM_oq : @q9mkM = @q9mkM_o := by
  delta q9mkM q9mkM_o
  simp only [q9ge9_eq, q9fi9_eq, q9an9_eq, q9al9_eq, q9flt9_eq, q9el9_eq, q9set9_eq, q9ln9_eq, q9gD9_eq, q9ap9_eq, q9eq9_N, q9eq9_I, q9eq9_A, q9eq9_E, q9eq9_OI, q9eq9_ON, q9eq9_OA, q9eq9_L, q9eq9_S, q9de9_N, q9de9_I, q9de9_A, q9le9_N, q9le9_I, q9lt9_N, q9lt9_I, q9de9_E, q9de9_OI, q9de9_ON, q9de9_OA, q9de9_L, q9nd9_eq, q9or9_eq, Bool.cond_decide]
theorem q9mkM_ok {n : q9EN} {L : List (Nat × Nat)} {len t0 : Nat} (hA : ∀ q, H0.size ≤ q → A q) (hR : (q9eR n).1 ≤ R.frames ∧ (q9eR n).2.1 ≤ R.locals ∧ ko.1 + (q9eR n).2.2.1 ≤ R.cells ∧ ko.2 + (q9eR n).2.2.2 ≤ R.slots) (hK : va_K D vwCl (TY cT) s) {x : q9ST} {r : Nat → Value} {pc : Nat} {ss : List (Nat × q9ST)} (hw : q9wfB x = true) (h : q9mkM L n len pc x t0 = some ss) (hn : q9NX O p l e R ko s m args below meth c Q (q9eN n) g (q9WM D cT (q9eB n) A H0 G0 ws0 (q9eW n)) ss x r)
    (row : ∀ (ws : va_W) (H : Heap) (locs : List Loc) (cells slots N : Nat) (ls : Array Slot) (rest : List Value) (y : Int32), 0 ≤ y.toInt → y.toNatClampNeg = N → N ≤ 1000000 → va_P D vwCl ws H → va_D A ws → va_S A H0 H locs → cells + 1 ≤ R.cells → slots + N ≤ R.slots → (∀ (q : Nat) (H1 : Heap), va_P D vwCl (ws ++ [(q, q9newE cT t0 N)]) H1 → va_D A (ws ++ [(q, q9newE cT t0 N)]) → va_S A H0 H1 locs → W p l e R s m args below meth c H1 locs (cells + 1) (slots + N) Q (F0 m (pc + len) ls (.ref q :: rest))) → W p l e R s m args below meth c H locs cells slots Q (F0 m pc ls (.int y :: rest))) : q9GO O p l e R ko s m args below meth c Q (q9eN n) g (q9WM D cT (q9eB n) A H0 G0 ws0 (q9eW n)) pc x r := by
  (rewrite [q9mkM_oq] at h; unfold q9mkM_o at h)
  split at h
  · rename_i z hz
    split at h
    · rename_i a rest hT
      split at h
      · rename_i k lo hi hk hnum
        split at h
        · rename_i hc
          obtain ⟨c1, c2, c3, c4, c5, c6, c7, q9c8, c9⟩ := hc
          cases h
          intro G ws H locs ls st hM hW
          obtain ⟨hP, hD, hS, hTy, hX, hKe⟩ := hW
          have ha : q9okAV (q9tE x) a = true := q9wf_S hw a (by rw [hT]; exact List.mem_cons_self)
          obtain ⟨y, y1, -, y2, y3⟩ := q9num_int hM.2.2.2.1 ha hnum
          have hst := hM.2.1
          rw [hT, List.map_cons, y1] at hst
          rw [hst]
          have e0 : y.toNatClampNeg = y.toInt.toNat := rfl
          have q3 := hR.2.2.1
          have q4 := hR.2.2.2
          refine row ws H locs _ _ y.toNatClampNeg ls _ y (by omega) rfl (by omega) hP hD hS (by omega) (by omega) fun q H1 hP1 hD1 hS1 => ?_
          have okr : ∀ b ∈ rest, q9okAV (q9tE x) b = true := fun b hb => q9wf_S hw b (by rw [hT]; exact List.mem_cons_of_mem _ hb)
          have ag : q9agr (q9tE x).length r (q9up r (q9tE x).length (.ref q)) := fun k hk => q9up_lt hk
          have hty : q9tyE cT (q9eB n) (G ++ [(q, z.2, y.toNatClampNeg)]) z.2 y.toNatClampNeg (q9newE cT k.1 y.toNatClampNeg) := .inr ⟨c1, k, hk, q9newE_ty c7 (by omega) (fun h9 => by have := c6 h9; omega)⟩
          rw [c2] at hty
          have hTy1 := q9tyW_app hTy hty (by omega)
          have hg := (hM.grow (Y := [(q, z.2, y.toNatClampNeg)]) (X := [(q, q9newE cT t0 y.toNatClampNeg)])).fresh hw (t := (2, (z.2 : Int), 0)) (v := .ref q) ⟨q, y.toNatClampNeg, rfl, List.mem_append_right _ (by rw [Int.toNat_natCast]; exact List.mem_cons_self)⟩
          have hF := hg.F (F := ((q9tE x).length, 1000, a) :: q9tF x) fun w hw9 => by
            rcases List.mem_cons.mp hw9 with rfl | hw9
            · unfold q9FMok
              rw [if_pos rfl]
              refine ⟨q, z.2, y.toNatClampNeg, y, q9up_at, List.mem_append_right _ List.mem_cons_self, ?_, by omega⟩
              rw [ag.ev ha]
              exact y1
            · exact hg.2.2.2.2.1 w hw9
          have kk := hn.one ag (by show _ ≤ (q9tE x ++ [_]).length; rw [List.length_append]; omega) _ _ H1 locs ls _ ((hF.S (((q9tE x).length, 0) :: rest)).NM (q9tN x + 1) (q9tM x + hi.toNat)) ⟨hP1, hD1, hS1, hTy1, hX.app, hKe.app⟩
          rw [List.map_cons, q9ev_zero, q9up_at, ag.map okr] at kk
          have kk : W p l e R s m args below meth c H1 locs (ko.1 + (q9tN x + 1)) (ko.2 + (q9tM x + hi.toNat)) Q (F0 m (pc + len) ls (.ref q :: rest.map (q9ev r))) := kk
          exact W.widen (by omega) (by omega) kk
        · cases h
      · cases h
    · cases h
  · cases h
/-- what a new array of these kinds tells -/
noncomputable def q9nwE (cd : Nat) : List q9ET := if cd = 152 ∨ cd = 153 then [(4, 0, 0)] else if cd = 151 then [(0, -147, -147), (0, -159, -159)] else if cd = 201 then [(0, -149, -149)] else []
noncomputable def q9nwA (cd k : Nat) (x : q9ST) : List (Nat × q9AV × q9AV) := if cd = 152 then (List.range 8).map (fun (j : Nat) => (k, ((0, (j : Int)) : q9AV), ((k + 1, 0) : q9AV))) else if cd = 153 then (List.range 12).map (fun (j : Nat) => (k, ((0, (j : Int)) : q9AV), ((k + 1, 0) : q9AV))) else if cd = 167 ∨ cd = 175 ∨ cd = 198 then (List.range (if cd = 198 then 12 else 8)).map (fun (j : Nat) => (k, ((0, (j : Int)) : q9AV), ((0, 0) : q9AV))) else if cd = 151 then (k + 1, ((k, 0) : q9AV), ((0, 0) : q9AV)) :: ((q9tA x).filter (fun z => q9famE (q9tE x) z.1 == some (-157))).map (fun z => (k + 2, ((k, 0) : q9AV), z.2.1)) else if cd = 201 then [(k + 1, ((k, 0) : q9AV), ((0, 0) : q9AV))] else []
noncomputable def q9nwC (cd t0 : Nat) (x : q9ST) : Bool := if cd = 152 then q9zeroB x && decide (t0 = 4) else if cd = 153 then q9zeroB x && decide (t0 = 5) else if cd = 167 ∨ cd = 175 ∨ cd = 198 then q9zeroB x && decide (t0 = 0) else if cd = 151 ∨ cd = 201 then q9zeroB x && decide (t0 = 3) else true
noncomputable def q9mkN_o (L : List (Nat × Nat)) (n : q9EN) (len pc : Nat) (x : q9ST) (t0 : Nat) : Option (List (Nat × q9ST)) := match L.find? (fun z => z.1 == pc) with
  | some z => (match q9tS x with
    | a :: rest => (match (q9eB n).2.1[z.2 - 100]?, q9num (q9tE x) a with
      | some k, some (0, lo, hi) => if 100 ≤ z.2 ∧ k.1 = t0 ∧ 0 ≤ lo ∧ hi ≤ (k.2.1 : Int) ∧ k.2.1 ≤ 1000000 ∧ (k.2.2.1 = true → lo = (k.2.1 : Int)) ∧ q9nilB k = true ∧ q9tN x + 1 ≤ (q9eR n).2.2.1 ∧ q9tM x + hi.toNat ≤ (q9eR n).2.2.2 ∧ q9nwC z.2 t0 x = true then
          some [(pc + len, q9sNM (q9sS (q9sA (q9sF (q9sE x (q9tE x ++ [(2, (z.2 : Int), 0)] ++ q9nwE z.2)) (((q9tE x).length, 1000, a) :: q9tF x)) (q9nwA z.2 (q9tE x).length x ++ q9tA x)) (((q9tE x).length, 0) :: rest)) (q9tN x + 1) (q9tM x + hi.toNat))] else none
      | _, _ => none)
    | _ => none)
  | none => none
noncomputable def q9mkN (L : List (Nat × Nat)) (n : q9EN) (len pc : Nat) (x : q9ST) (t0 : Nat) : Option (List (Nat × q9ST)) := match q9fi9 L (fun z => q9eq9 (z.1) (pc)) with
  | some z => (match q9tS x with
    | a :: rest => (match (q9ge9 (q9eB n).2.1 (z.2 - 100)), q9num (q9tE x) a with
      | some k, some (0, lo, hi) => if 100 ≤ z.2 ∧ k.1 = t0 ∧ 0 ≤ lo ∧ hi ≤ (k.2.1 : Int) ∧ k.2.1 ≤ 1000000 ∧ (k.2.2.1 = true → lo = (k.2.1 : Int)) ∧ q9nilB k = true ∧ q9tN x + 1 ≤ (q9eR n).2.2.1 ∧ q9tM x + hi.toNat ≤ (q9eR n).2.2.2 ∧ q9nwC z.2 t0 x = true then
          some [(pc + len, q9sNM (q9sS (q9sA (q9sF (q9sE x ((q9ap9 ((q9ap9 (q9tE x) ([(2, (z.2 : Int), 0)]))) (q9nwE z.2)))) (((q9ln9 (q9tE x)), 1000, a) :: q9tF x)) ((q9ap9 (q9nwA z.2 (q9ln9 (q9tE x)) x) (q9tA x)))) (((q9ln9 (q9tE x)), 0) :: rest)) (q9tN x + 1) (q9tM x + hi.toNat))] else none
      | _, _ => none)
    | _ => none)
  | none => none
theorem q9mkN_oq : @q9mkN = @q9mkN_o := by
  delta q9mkN q9mkN_o
  simp only [q9ge9_eq, q9fi9_eq, q9an9_eq, q9al9_eq, q9flt9_eq, q9el9_eq, q9set9_eq, q9ln9_eq, q9gD9_eq, q9ap9_eq, q9eq9_N, q9eq9_I, q9eq9_A, q9eq9_E, q9eq9_OI, q9eq9_ON, q9eq9_OA, q9eq9_L, q9eq9_S, q9de9_N, q9de9_I, q9de9_A, q9le9_N, q9le9_I, q9lt9_N, q9lt9_I, q9de9_E, q9de9_OI, q9de9_ON, q9de9_OA, q9de9_L, q9nd9_eq, q9or9_eq, Bool.cond_decide]
theorem q9mkN_ok {n : q9EN} {L : List (Nat × Nat)} {len t0 : Nat} (hA : ∀ q, H0.size ≤ q → A q) (hR : (q9eR n).1 ≤ R.frames ∧ (q9eR n).2.1 ≤ R.locals ∧ ko.1 + (q9eR n).2.2.1 ≤ R.cells ∧ ko.2 + (q9eR n).2.2.2 ≤ R.slots) (hK : va_K D vwCl (TY cT) s) {x : q9ST} {r : Nat → Value} {pc : Nat} {ss : List (Nat × q9ST)} (hw : q9wfB x = true) (h : q9mkN L n len pc x t0 = some ss) (hn : q9NX O p l e R ko s m args below meth c Q (q9eN n) g (q9WM D cT (q9eB n) A H0 G0 ws0 (q9eW n)) ss x r)
    (row : ∀ (ws : va_W) (H : Heap) (locs : List Loc) (cells slots N : Nat) (ls : Array Slot) (rest : List Value) (y : Int32), 0 ≤ y.toInt → y.toNatClampNeg = N → N ≤ 1000000 → va_P D vwCl ws H → va_D A ws → va_S A H0 H locs → cells + 1 ≤ R.cells → slots + N ≤ R.slots → (∀ (q : Nat) (H1 : Heap), va_P D vwCl (ws ++ [(q, q9newE cT t0 N)]) H1 → va_D A (ws ++ [(q, q9newE cT t0 N)]) → va_S A H0 H1 locs → W p l e R s m args below meth c H1 locs (cells + 1) (slots + N) Q (F0 m (pc + len) ls (.ref q :: rest))) → W p l e R s m args below meth c H locs cells slots Q (F0 m pc ls (.int y :: rest))) : q9GO O p l e R ko s m args below meth c Q (q9eN n) g (q9WM D cT (q9eB n) A H0 G0 ws0 (q9eW n)) pc x r := by
  (rewrite [q9mkN_oq] at h; unfold q9mkN_o at h)
  split at h
  · rename_i z hz
    split at h
    · rename_i a rest hT
      split at h
      · rename_i k lo hi hk hnum
        split at h
        · rename_i hc
          obtain ⟨c1, c2, c3, c4, c5, c6, c7, q9c8, c9, c10⟩ := hc
          cases h
          intro G ws H locs ls st hM hW
          obtain ⟨hP, hD, hS, hTy, hX, hKe⟩ := hW
          have ha : q9okAV (q9tE x) a = true := q9wf_S hw a (by rw [hT]; exact List.mem_cons_self)
          obtain ⟨y, y1, -, y2, y3⟩ := q9num_int hM.2.2.2.1 ha hnum
          have hst := hM.2.1
          rw [hT, List.map_cons, y1] at hst
          rw [hst]
          have e0 : y.toNatClampNeg = y.toInt.toNat := rfl
          have q3 := hR.2.2.1
          have q4 := hR.2.2.2
          refine row ws H locs _ _ y.toNatClampNeg ls _ y (by omega) rfl (by omega) hP hD hS (by omega) (by omega) fun q H1 hP1 hD1 hS1 => ?_
          have okr : ∀ b ∈ rest, q9okAV (q9tE x) b = true := fun b hb => q9wf_S hw b (by rw [hT]; exact List.mem_cons_of_mem _ hb)
          have hty : q9tyE cT (q9eB n) (G ++ [(q, z.2, y.toNatClampNeg)]) z.2 y.toNatClampNeg (q9newE cT k.1 y.toNatClampNeg) := .inr ⟨c1, k, hk, q9newE_ty c7 (by omega) (fun h9 => by have := c6 h9; omega)⟩
          rw [c2] at hty
          have hTy1 := q9tyW_app hTy hty (by omega)
          have hg := (hM.grow (Y := [(q, z.2, y.toNatClampNeg)]) (X := [(q, q9newE cT t0 y.toNatClampNeg)])).fresh hw (t := (2, (z.2 : Int), 0)) (v := .ref q) ⟨q, y.toNatClampNeg, rfl, List.mem_append_right _ (by rw [Int.toNat_natCast]; exact List.mem_cons_self)⟩
          have hlen : (q9tE (q9sE x (q9tE x ++ [(2, (z.2 : Int), 0)]))).length = (q9tE x).length + 1 := by
            show (q9tE x ++ [_]).length = _
            rw [List.length_append]
            rfl
          -- nothing
          obtain ⟨r2, ag2, hg2, hr2, hr3, hr4⟩ : ∃ r2 : Nat → Value, q9agr ((q9tE x).length + 1) (q9up r (q9tE x).length (.ref q)) r2 ∧ q9SM O (q9eN n) g (q9sE x (q9tE x ++ [(2, (z.2 : Int), 0)] ++ q9nwE z.2)) r2 (G ++ [(q, z.2, y.toNatClampNeg)]) (ws ++ [(q, q9newE cT t0 y.toNatClampNeg)]) ls st ∧ (z.2 = 152 ∨ z.2 = 153 → r2 ((q9tE x).length + 1) = .null) ∧ (z.2 = 151 → r2 ((q9tE x).length + 1) = .int (-147) ∧ r2 ((q9tE x).length + 2) = .int (-159)) ∧ (z.2 = 201 → r2 ((q9tE x).length + 1) = .int (-149)) := by
            by_cases h152 : z.2 = 152 ∨ z.2 = 153
            · have hf := hg.fresh (q9wf_app hw) (t := (4, 0, 0)) (v := .null) rfl
              rw [hlen] at hf
              refine ⟨_, fun k hk => q9up_lt hk, ?_, fun _ => q9up_at, fun hh => by omega, fun hh => by omega⟩
              have e1 : q9nwE z.2 = [(4, 0, 0)] := if_pos h152
              rw [e1]
              exact hf
            · by_cases h151 : z.2 = 151
              · have hf1 := hg.fresh (q9wf_app hw) (t := (0, -147, -147)) (v := .int (-147)) ⟨-147, rfl, by decide, by decide⟩
                have hf := hf1.fresh (q9wf_app (q9wf_app hw)) (t := (0, -159, -159)) (v := .int (-159)) ⟨-159, rfl, by decide, by decide⟩
                have hlen2 : (q9tE (q9sE (q9sE x (q9tE x ++ [(2, (z.2 : Int), 0)])) (q9tE (q9sE x (q9tE x ++ [(2, (z.2 : Int), 0)])) ++ [(0, -147, -147)]))).length = (q9tE x).length + 2 := by
                  show (q9tE x ++ [_] ++ [_]).length = _
                  rw [List.length_append, List.length_append]
                  rfl
                rw [hlen2] at hf
                rw [hlen] at hf
                refine ⟨q9up (q9up (q9up r (q9tE x).length (.ref q)) ((q9tE x).length + 1) (.int (-147))) ((q9tE x).length + 2) (.int (-159)), fun k hk => by rw [q9up_lt (by omega), q9up_lt (by omega)], ?_, fun hh => absurd hh h152, fun _ => ⟨by rw [q9up_lt (by omega)]; exact q9up_at, q9up_at⟩, fun hh => by omega⟩
                have e1 : q9nwE z.2 = [(0, -147, -147), (0, -159, -159)] := by
                  unfold q9nwE
                  rw [if_neg h152, if_pos h151]
                rw [e1]
                have e2 : q9tE x ++ [(2, (z.2 : Int), 0)] ++ [((0, -147, -147) : q9ET), (0, -159, -159)] = q9tE x ++ [(2, (z.2 : Int), 0)] ++ [(0, -147, -147)] ++ [(0, -159, -159)] := by
                  rw [List.append_assoc (q9tE x ++ [(2, (z.2 : Int), 0)])]
                  rfl
                rw [e2]
                exact hf
              · by_cases h201 : z.2 = 201
                · have hf := hg.fresh (q9wf_app hw) (t := (0, -149, -149)) (v := .int (-149)) ⟨-149, rfl, by decide, by decide⟩
                  rw [hlen] at hf
                  refine ⟨_, fun k hk => q9up_lt hk, ?_, fun hh => absurd hh h152, fun hh => absurd hh h151, fun _ => q9up_at⟩
                  have e1 : q9nwE z.2 = [(0, -149, -149)] := by
                    unfold q9nwE
                    rw [if_neg h152, if_neg h151, if_pos h201]
                  rw [e1]
                  exact hf
                · refine ⟨_, q9agr.rf, ?_, fun hh => absurd hh h152, fun hh => absurd hh h151, fun hh => absurd hh h201⟩
                  have e1 : q9nwE z.2 = [] := by
                    unfold q9nwE
                    rw [if_neg h152, if_neg h151, if_neg h201]
                  rw [e1, List.append_nil]
                  exact hg
          have rq : r2 (q9tE x).length = .ref q := by rw [ag2 _ (by omega)]; exact q9up_at
          have ag : q9agr (q9tE x).length r r2 := fun k hk => by rw [ag2 k (by omega)]; exact q9up_lt hk
          have hF := hg2.F (F := ((q9tE x).length, 1000, a) :: q9tF x) fun w hw9 => by
            rcases List.mem_cons.mp hw9 with rfl | hw9
            · unfold q9FMok
              rw [if_pos rfl]
              refine ⟨q, z.2, y.toNatClampNeg, y, rq, List.mem_append_right _ List.mem_cons_self, ?_, by omega⟩
              rw [ag.ev ha]
              exact y1
            · exact hg2.2.2.2.2.1 w hw9
          have hwl : G.length = ws.length := hTy.1.symm
          have hG9 : (G ++ [(q, z.2, y.toNatClampNeg)])[G.length]? = some (q, z.2, y.toNatClampNeg) := by
            rw [List.getElem?_append_right (Nat.le_refl _), Nat.sub_self]
            rfl
          have hw9 : (ws ++ [(q, q9newE cT t0 y.toNatClampNeg)])[G.length]? = some (q, q9newE cT t0 y.toNatClampNeg) := by
            rw [hwl, List.getElem?_append_right (Nat.le_refl _), Nat.sub_self]
            rfl
          have hzer : q9zeroB x = true → ∀ j : Int, q9ev r2 (0, j) = .int (Int32.ofInt j) := fun h0 j => q9zero_ev hg2.2.2.2.1 (by
            have h0 := q9zero_at h0
            show (q9tE x ++ [_] ++ q9nwE z.2)[0]? = _
            rw [List.append_assoc, List.getElem?_append_left (List.getElem?_eq_some_iff.mp h0).1]
            exact h0) j
          have hAA := hF.A (F := q9nwA z.2 (q9tE x).length x ++ q9tA x) fun w hw8 => by
            rcases List.mem_append.mp hw8 with hw8 | hw8
            · unfold q9nwA at hw8
              unfold q9nwC at c10
              split at hw8
              · rename_i h152
                rw [if_pos h152, Bool.and_eq_true, decide_eq_true_eq] at c10
                obtain ⟨z0, t4⟩ := c10
                obtain ⟨j, -, rfl⟩ := List.mem_map.mp hw8
                exact .inl ⟨q, G.length, cT 4, y.toNatClampNeg, .inr (.inr (.inr (.inr (fun _ => none)))), Int32.ofInt j, rq, hw9.trans (by rw [t4]; exact rfl), hzer z0 j, by
                  show q9ev r2 ((q9tE x).length + 1, 0) = _
                  rw [q9ev_zero, hr2 (.inl h152)]
                  rfl⟩
              · rename_i h152
                rw [if_neg h152] at c10
                split at hw8
                · rename_i h153
                  rw [if_pos h153, Bool.and_eq_true, decide_eq_true_eq] at c10
                  obtain ⟨z0, t4⟩ := c10
                  obtain ⟨j, -, rfl⟩ := List.mem_map.mp hw8
                  exact .inl ⟨q, G.length, cT 5, y.toNatClampNeg, .inr (.inr (.inr (.inr (fun _ => none)))), Int32.ofInt j, rq, hw9.trans (by rw [t4]; exact rfl), hzer z0 j, by
                    show q9ev r2 ((q9tE x).length + 1, 0) = _
                    rw [q9ev_zero, hr2 (.inr h153)]
                    rfl⟩
                · rename_i h153
                  rw [if_neg h153] at c10
                  split at hw8
                  · rename_i h167
                    rw [if_pos h167, Bool.and_eq_true, decide_eq_true_eq] at c10
                    obtain ⟨z0, t4⟩ := c10
                    obtain ⟨j, -, rfl⟩ := List.mem_map.mp hw8
                    exact .inl ⟨q, G.length, cT 0, y.toNatClampNeg, .inl (fun _ => 0), Int32.ofInt j, rq, hw9.trans (by rw [t4]; exact rfl), hzer z0 j, hzer z0 0⟩
                  · rename_i h167
                    rw [if_neg h167] at c10
                    have hin9 : t0 = 3 → q9inA (G ++ [(q, z.2, y.toNatClampNeg)]) (ws ++ [(q, q9newE cT t0 y.toNatClampNeg)]) q z.2 (fun _ => 0) := fun t4 => ⟨G.length, y.toNatClampNeg, y.toNatClampNeg, cT 3, hG9, hw9.trans (by rw [t4]; exact rfl)⟩
                    split at hw8
                    · rename_i h151
                      rw [if_pos (.inl h151), Bool.and_eq_true, decide_eq_true_eq] at c10
                      obtain ⟨z0, t4⟩ := c10
                      obtain ⟨p1, p2⟩ := hr3 h151
                      have hin9 := hin9 t4
                      rw [h151] at hin9
                      rcases List.mem_cons.mp hw8 with rfl | hw8
                      · refine q9fm_mk (c := -147) ?_ (by decide) ?_
                        · show q9nV (r2 ((q9tE x).length + 1)) = _
                          rw [p1]
                          rfl
                        · show q9FMP O (-147) _ _ (q9ev r2 ((q9tE x).length, 0)) (q9ev r2 (0, 0))
                          rw [q9FMP_af (by decide), q9ev_zero, rq, hzer z0 0]
                          exact ⟨q, 151, 0, fun _ => 0, rfl, rfl, List.mem_cons_self, by rw [h151]; exact hin9, fun _ _ => rfl⟩
                      · obtain ⟨w9, hw7, rfl⟩ := List.mem_map.mp hw8
                        obtain ⟨m1, m2⟩ := List.mem_filter.mp hw7
                        have m2 : q9famE (q9tE x) w9.1 = some (-157) := eq_of_beq m2
                        have hPQ := q9fm_of hM m1 m2 (by decide)
                        rw [q9FMP_pq] at hPQ
                        obtain ⟨a0, p, f, m, fs, b, M, be, e1, e2, e3, e4, e5, e6, e7, e8⟩ := hPQ
                        have hX9 : q9extG G (G ++ [(q, z.2, y.toNatClampNeg)]) := ⟨_, rfl⟩
                        have hK9 : q9keepW [] G ws (ws ++ [(q, q9newE cT t0 y.toNatClampNeg)]) := q9keepW.rf.app
                        refine q9fm_mk (c := -159) ?_ (by decide) ?_
                        · show q9nV (r2 ((q9tE x).length + 2)) = _
                          rw [p2]
                          rfl
                        · show q9FMP O (-159) _ _ (q9ev r2 ((q9tE x).length, 0)) (q9ev r2 w9.2.1)
                          rw [q9FMP_pf, q9ev_zero, rq, ag.ev (q9wf_A hw w9 m1).2.1, e1]
                          refine ⟨q, a0, f, be, fun _ => 0, rfl, rfl, by rw [h151]; exact hin9, e3.keep hX9 hK9 List.not_mem_nil, fun i hi o ho => ⟨fun hbe => ?_, ?_⟩⟩
                          · obtain ⟨gs, M', g1, g2, g3, g4⟩ := e7 i hi o ho
                            obtain ⟨q', k', n', cA, x1, x2⟩ := g3
                            have hl := (List.getElem?_eq_some_iff.mp x2).1
                            have x3 : (ws ++ [(q, q9newE cT t0 y.toNatClampNeg)])[q']? = some (be i, .inl (cA, n', .inl M')) := by
                              rw [List.getElem?_append_left hl]
                              exact x2
                            have := hD1.1 q' G.length _ _ x3 hw9 hbe
                            omega
                          · obtain ⟨gs, M', g1, g2, g3, g4⟩ := e7 i hi o ho
                            obtain ⟨gs', g5, g6⟩ := g1.keep hX9 hK9
                            exact ⟨gs', g5, by rw [g6 14 List.not_mem_nil]; exact g2⟩
                    · rename_i h151
                      split at hw8
                      · rename_i h201
                        rw [if_pos (.inr h201), Bool.and_eq_true, decide_eq_true_eq] at c10
                        obtain ⟨z0, t4⟩ := c10
                        have p1 := hr4 h201
                        have hin9 := hin9 t4
                        rw [h201] at hin9
                        rw [List.mem_singleton] at hw8
                        subst hw8
                        refine q9fm_mk (c := -149) ?_ (by decide) ?_
                        · show q9nV (r2 ((q9tE x).length + 1)) = _
                          rw [p1]
                          rfl
                        · show q9FMP O (-149) _ _ (q9ev r2 ((q9tE x).length, 0)) (q9ev r2 (0, 0))
                          rw [q9FMP_af (by decide), q9ev_zero, rq, hzer z0 0]
                          exact ⟨q, 201, 0, fun _ => 0, rfl, rfl, List.mem_cons_self, by rw [h201]; exact hin9, fun _ _ _ => rfl⟩
                      · cases hw8
            · exact hF.2.2.2.2.2.1 w hw8
          have kk := hn.one ag (by show _ ≤ (q9tE x ++ [_] ++ q9nwE z.2).length; rw [List.length_append, List.length_append]; omega) _ _ H1 locs ls _ ((hAA.S (((q9tE x).length, 0) :: rest)).NM (q9tN x + 1) (q9tM x + hi.toNat)) ⟨hP1, hD1, hS1, hTy1, hX.app, hKe.app⟩
          rw [List.map_cons, q9ev_zero, rq, ag.map okr] at kk
          have kk : W p l e R s m args below meth c H1 locs (ko.1 + (q9tN x + 1)) (ko.2 + (q9tM x + hi.toNat)) Q (F0 m (pc + len) ls (.ref q :: rest.map (q9ev r))) := kk
          exact W.widen (by omega) (by omega) kk
        · cases h
      · cases h
    · cases h
  · cases h
noncomputable def q9atO : Nat → ArrayType
  | 0 => .int
  | 1 => .byte
  | 2 => .long
  | _ => .boolean
/-- newarray: (place, kind) of each sort -/
noncomputable def q9naM_o (L : List (Nat × Nat × Nat)) (n : q9EN) (pc : Nat) (x : q9ST) : Option (List (Nat × q9ST)) := match L.find? (fun z => z.1 == pc) with
  | some z => q9mkN [(z.1, z.2.2)] n 2 pc x z.2.1
  | none => none
noncomputable def q9naM (L : List (Nat × Nat × Nat)) (n : q9EN) (pc : Nat) (x : q9ST) : Option (List (Nat × q9ST)) := match q9fi9 L (fun z => q9eq9 (z.1) (pc)) with
  | some z => q9mkN [(z.1, z.2.2)] n 2 pc x z.2.1
  | none => none
theorem q9naM_oq : @q9naM = @q9naM_o := by
  delta q9naM q9naM_o
  simp only [q9ge9_eq, q9fi9_eq, q9an9_eq, q9al9_eq, q9flt9_eq, q9el9_eq, q9set9_eq, q9ln9_eq, q9gD9_eq, q9ap9_eq, q9eq9_N, q9eq9_I, q9eq9_A, q9eq9_E, q9eq9_OI, q9eq9_ON, q9eq9_OA, q9eq9_L, q9eq9_S, q9de9_N, q9de9_I, q9de9_A, q9le9_N, q9le9_I, q9lt9_N, q9lt9_I, q9de9_E, q9de9_OI, q9de9_ON, q9de9_OA, q9de9_L, q9nd9_eq, q9or9_eq, Bool.cond_decide]
theorem q9macx_na {XP : q9ZZ → List Value → Prop} {l : Launch} {own nm : String} {cc : ByteArray} {n : q9EN} {K K2 : List (Nat × Int)} (L : List (Nat × Nat × Nat)) (hd : ∀ z ∈ L, z.2.1 < 4 ∧ decode cc z.1 = .ok (.newarray (q9atO z.2.1), 2)) (hw4 : ∀ t, t < 4 → Cond.arrayClass (newarray.typeOf (q9atO t)) ∈ q9ALLW) : q9MACX O XP l q9ALLW own nm cc n K K2 (q9naM L n) := by
  intro p e R ko s m args below meth c Q D cT A H0 G0 ws0 z0 g hE hT hX hN pc x ss r hw hm hn
  obtain ⟨hx, hb, hml, hown, hts, hAll, hK, hG, hZ, hA, hF, hPp, hV, hS, hR, h6, h7, h8, h9, hH0, hZz, hzG⟩ := hE
  (rewrite [q9naM_oq] at hm; unfold q9naM_o at hm)
  split at hm
  · rename_i z hz
    have z1 := List.find?_some hz
    simp only [beq_iff_eq] at z1
    obtain ⟨d1, d2⟩ := hd z (List.mem_of_find?_eq_some hz)
    rw [z1] at d2
    refine q9mkN_ok (s := s) (D := D) hA hR hK hw hm hn fun ws H locs cells slots N ls rest y hy hyN hN9 hP hD hS9 hc1 hs1 kk => ?_
    have hy0 : ¬ y < 0 := by
      rw [Int32.lt_iff_toInt_lt, Int32.toInt_zero]
      omega
    have hwd := hts _ (hw4 z.2.1 d1)
    generalize z.2.1 = t at d1 d2 kk hwd
    match t, d1, d2, kk, hwd with
    | 0, _, d2, kk, hwd => exact va_newa (atype := .int) (ty := .int) (n := y) (N' := N) (a0 := (N, .inl (fun _ => 0))) hx hb hwd rfl hK hP hD hS9 hA (fun _ => rfl) hy0 hyN (by show N * 4 ≤ _; omega) hc1 hs1 d2 (fun q cA H1 hK1 hP1 hD1 hS1 => by obtain rfl := ty_new hK1 0 rfl; exact kk q H1 hP1 hD1 hS1)
    | 1, _, d2, kk, hwd => exact va_newa (atype := .byte) (ty := .byte) (n := y) (N' := N) (a0 := (N, .inl (fun _ => 0))) hx hb hwd rfl hK hP hD hS9 hA (fun _ => rfl) hy0 hyN (by show N * 1 ≤ _; omega) hc1 hs1 d2 (fun q cA H1 hK1 hP1 hD1 hS1 => by obtain rfl := ty_new hK1 1 rfl; exact kk q H1 hP1 hD1 hS1)
    | 2, _, d2, kk, hwd => exact va_newa (atype := .long) (ty := .long) (n := y) (N' := N) (a0 := (N, .inr (.inl (fun _ => 0)))) hx hb hwd rfl hK hP hD hS9 hA (fun _ => rfl) hy0 hyN (by show N * 8 ≤ _; omega) hc1 hs1 d2 (fun q cA H1 hK1 hP1 hD1 hS1 => by obtain rfl := ty_new hK1 2 rfl; exact kk q H1 hP1 hD1 hS1)
    | 3, _, d2, kk, hwd => exact va_newa (atype := .boolean) (ty := .boolean) (n := y) (N' := N) (a0 := (N, .inl (fun _ => 0))) hx hb hwd rfl hK hP hD hS9 hA (fun _ => rfl) hy0 hyN (by show N * 1 ≤ _; omega) hc1 hs1 d2 (fun q cA H1 hK1 hP1 hD1 hS1 => by obtain rfl := ty_new hK1 3 rfl; exact kk q H1 hP1 hD1 hS1)
  · cases hm
/-- anewarray: (place, sort 4 or 5 or 6, kind, place in the pool) -/
noncomputable def q9qaM_o (L : List (Nat × Nat × Nat × Nat)) (n : q9EN) (pc : Nat) (x : q9ST) : Option (List (Nat × q9ST)) := match L.find? (fun z => z.1 == pc) with
  | some z => q9mkN [(z.1, z.2.2.1)] n 3 pc x z.2.1
  | none => none
noncomputable def q9qaM (L : List (Nat × Nat × Nat × Nat)) (n : q9EN) (pc : Nat) (x : q9ST) : Option (List (Nat × q9ST)) := match q9fi9 L (fun z => q9eq9 (z.1) (pc)) with
  | some z => q9mkN [(z.1, z.2.2.1)] n 3 pc x z.2.1
  | none => none
theorem q9qaM_oq : @q9qaM = @q9qaM_o := by
  delta q9qaM q9qaM_o
  simp only [q9ge9_eq, q9fi9_eq, q9an9_eq, q9al9_eq, q9flt9_eq, q9el9_eq, q9set9_eq, q9ln9_eq, q9gD9_eq, q9ap9_eq, q9eq9_N, q9eq9_I, q9eq9_A, q9eq9_E, q9eq9_OI, q9eq9_ON, q9eq9_OA, q9eq9_L, q9eq9_S, q9de9_N, q9de9_I, q9de9_A, q9le9_N, q9le9_I, q9lt9_N, q9lt9_I, q9de9_E, q9de9_OI, q9de9_ON, q9de9_OA, q9de9_L, q9nd9_eq, q9or9_eq, Bool.cond_decide]
noncomputable def q9qaC : Nat → String
  | 4 => "PuppetFilm$Puppet"
  | 5 => "PuppetFilm$Shot"
  | _ => "PuppetFilm$Line"
theorem q9macx_qa {XP : q9ZZ → List Value → Prop} {l : Launch} {own nm : String} {cc : ByteArray} {n : q9EN} {K K2 : List (Nat × Int)} (L : List (Nat × Nat × Nat × Nat)) (hd : ∀ z ∈ L, (4 ≤ z.2.1 ∧ z.2.1 < 7) ∧ Cond.classLink own z.2.2.2 (q9qaC z.2.1) ∈ q9ALLW ∧ decode cc z.1 = .ok (.anewarray z.2.2.2, 3)) : q9MACX O XP l q9ALLW own nm cc n K K2 (q9qaM L n) := by
  intro p e R ko s m args below meth c Q D cT A H0 G0 ws0 z0 g hE hT hX hN pc x ss r hw hm hn
  obtain ⟨hx, hb, hml, hown, hts, hAll, hK, hG, hZ, hA, hF, hPp, hV, hS, hR, h6, h7, h8, h9, hH0, hZz, hzG⟩ := hE
  (rewrite [q9qaM_oq] at hm; unfold q9qaM_o at hm)
  split at hm
  · rename_i z hz
    have z1 := List.find?_some hz
    simp only [beq_iff_eq] at z1
    obtain ⟨d1, d3, d2⟩ := hd z (List.mem_of_find?_eq_some hz)
    rw [z1] at d2
    have d3 := hts _ d3
    refine q9mkN_ok (s := s) (D := D) hA hR hK hw hm hn fun ws H locs cells slots N ls rest y hy hyN hN9 hP hD hS9 hc1 hs1 kk => ?_
    have hy0 : ¬ y < 0 := by
      rw [Int32.lt_iff_toInt_lt, Int32.toInt_zero]
      omega
    generalize z.2.1 = t at d1 d3 kk
    match t, d1, d3, kk with
    | 4, _, d3, kk => exact va_newq hx hb hown d3 hG.2.2.2.2.1 hK hP hD hS9 hA hy0 hyN (by omega) hc1 hs1 d2 (fun q cA H1 hK1 hP1 hD1 hS1 => by obtain rfl := ty_new hK1 4 rfl; exact kk q H1 hP1 hD1 hS1)
    | 5, _, d3, kk => exact va_newq hx hb hown d3 hG.2.2.2.2.2.1 hK hP hD hS9 hA hy0 hyN (by omega) hc1 hs1 d2 (fun q cA H1 hK1 hP1 hD1 hS1 => by obtain rfl := ty_new hK1 5 rfl; exact kk q H1 hP1 hD1 hS1)
    | 6, _, d3, kk => exact va_newq hx hb hown d3 hG.2.2.2.2.2.2 hK hP hD hS9 hA hy0 hyN (by omega) hc1 hs1 d2 (fun q cA H1 hK1 hP1 hD1 hS1 => by obtain rfl := ty_new hK1 6 rfl; exact kk q H1 hP1 hD1 hS1)
    | 0, d1, _, _ => omega
    | 1, d1, _, _ => omega
    | 2, d1, _, _ => omega
    | 3, d1, _, _ => omega
    | _ + 7, d1, _, _ => omega
  · cases hm
/-- Object's own constructor -/
noncomputable def q9oiM_o (L : List Nat) (n : q9EN) (pc : Nat) (x : q9ST) : Option (List (Nat × q9ST)) := if L.elem pc then (match q9tS x with
  | a :: rest => if q9refB (q9tE x) a.1 ∧ 1 ≤ (q9eR n).1 ∧ 20 ≤ (q9eR n).2.1 ∧ q9catS (q9tE x) rest ≤ 8 then some [(pc + 3, q9sS x rest)] else none
  | _ => none) else none
noncomputable def q9oiM (L : List Nat) (n : q9EN) (pc : Nat) (x : q9ST) : Option (List (Nat × q9ST)) := if q9el9 L pc then (match q9tS x with
  | a :: rest => if q9refB (q9tE x) a.1 ∧ 1 ≤ (q9eR n).1 ∧ 20 ≤ (q9eR n).2.1 ∧ q9catS (q9tE x) rest ≤ 8 then some [(pc + 3, q9sS x rest)] else none
  | _ => none) else none
theorem q9oiM_oq : @q9oiM = @q9oiM_o := by
  delta q9oiM q9oiM_o
  simp only [q9ge9_eq, q9fi9_eq, q9an9_eq, q9al9_eq, q9flt9_eq, q9el9_eq, q9set9_eq, q9ln9_eq, q9gD9_eq, q9ap9_eq, q9eq9_N, q9eq9_I, q9eq9_A, q9eq9_E, q9eq9_OI, q9eq9_ON, q9eq9_OA, q9eq9_L, q9eq9_S, q9de9_N, q9de9_I, q9de9_A, q9le9_N, q9le9_I, q9lt9_N, q9lt9_I, q9de9_E, q9de9_OI, q9de9_ON, q9de9_OA, q9de9_L, q9nd9_eq, q9or9_eq, Bool.cond_decide]
theorem q9macx_oi {XP : q9ZZ → List Value → Prop} {l : Launch} {own nm : String} {cc : ByteArray} {n : q9EN} {K K2 : List (Nat × Int)} (L : List Nat) {idx : Nat} (hd : ∀ z ∈ L, decode cc z = .ok (.invokespecial idx, 3)) (h1 : Cond.methodLink own idx Lib.objectInit ∈ q9ALLW) (h2 : Cond.instanceMethod Lib.objectInit ∈ q9ALLW) (h3 : Cond.code Lib.objectInit ⟨#[0xb1]⟩ 1 none ∈ q9ALLW) : q9MACX O XP l q9ALLW own nm cc n K K2 (q9oiM L n) := by
  intro p e R ko s m args below meth c Q D cT A H0 G0 ws0 z0 g hE hT hX hN pc x ss r hw hm hn
  obtain ⟨hx, hb, hml, hown, hts, hAll, hK, hG, hZ, hA, hF, hPp, hV, hS, hR, h6, h7, h8, h9, hH0, hZz, hzG⟩ := hE
  (rewrite [q9oiM_oq] at hm; unfold q9oiM_o at hm)
  split at hm
  · rename_i hL
    split at hm
    · rename_i a rest hSt
      split at hm
      · rename_i hc
        obtain ⟨c1, c2, c3, c4⟩ := hc
        cases hm
        intro G ws H locs ls st hM hW
        (rewrite [q9refB_oq] at c1; unfold q9refB_o at c1)
        cases hE9 : (q9tE x)[a.1]? with
        | none => rw [hE9] at c1; cases c1
        | some t =>
          rw [hE9] at c1
          obtain ⟨tk, lo, hi⟩ := t
          have h0 : tk = 2 := by simpa using c1
          subst h0
          obtain ⟨-, b, nb, eb, -⟩ := q9ev_ref hM.2.2.2.1 hE9 (by simp)
          have hst := hM.2.1
          rw [hSt, List.map_cons, eb] at hst
          have okr : ∀ b ∈ rest, q9okAV (q9tE x) b = true := fun b hb => q9wf_S hw b (by rw [hSt]; exact List.mem_cons_of_mem _ hb)
          have hcat : ((rest.map (q9ev r)).map fun v => v.category).sum ≤ 8 := Nat.le_trans (q9catS_ok hM.2.2.2.1 rest okr) c4
          have q1 := hR.1
          have q2 := hR.2.1
          rw [hst]
          refine W.objInit hx hb hown (hts _ h1) (hts _ h2) (hts _ h3) rfl (by rw [hml]; exact hM.1.1) rfl (hd pc (List.elem_iff.mp hL)) (by omega) (by show 2 * 0 + _ + 12 ≤ _; omega) ?_
          exact hn.one q9agr.rf (Nat.le_refl _) G ws H locs ls _ (hM.S rest) hW
      · cases hm
    · cases hm
  · cases hm
end MK
