variable {O : ORC}
/-! arrays that change their kind when they are filled -/
theorem q9reT {nL : Nat} {g : List Value} {cT : Nat → ClassId} {B : q9TB} {c c' k p0 q0 n0 : Nat} {x : q9ST} {r : Nat → Value} {G : q9GH} {ws : va_W} {ls : Array Slot} {st : List Value} (hM : q9SM O nL g x r G ws ls st) (hT : q9tyW cT B G ws) (hp : G[p0]? = some (q0, c, n0)) (hk : r k = .ref q0) (hE : k < (q9tE x).length) (c0 : 0 < c) (c12 : c ≠ 12) (c12' : c' ≠ 12) (cj : ∀ y ∈ q9jF, y.2 ≠ c) (c4 : q9noC B c = true)
    (c6 : ((q9tE x).zipIdx.all (fun z => z.2 == k || !q9tyC c z.1)) = true)
    (hty : ∀ e0, ws[p0]? = some (q0, e0) → q9tyE cT B G c n0 e0 → (∀ (a t n : Nat), (a, t, n) ∈ G → t ≠ c → (a, t, n) ∈ G.set p0 (q0, c', n0)) → q9tyE cT B (G.set p0 (q0, c', n0)) c' n0 e0) (cf : 250 ≤ c := by omega) (cg : c ≠ 250 ∨ q9tA x = [] := by exact Or.inl (by omega)) :
    q9SM O nL g (q9sE x ((q9tE x).set k (2, (c' : Int), 0))) r (G.set p0 (q0, c', n0)) ws ls st ∧ q9tyW cT B (G.set p0 (q0, c', n0)) ws := by
  have hlt : p0 < G.length := (List.getElem?_eq_some_iff.mp hp).1
  have at' : ∀ i : Nat, i ≠ p0 → (G.set p0 (q0, c', n0))[i]? = G[i]? := fun i hi => List.getElem?_set_ne (fun z => hi z.symm)
  have atp : (G.set p0 (q0, c', n0))[p0]? = some (q0, c', n0) := List.getElem?_set_self hlt
  have h1 : ∀ (a t n : Nat), (a, t, n) ∈ G → t ≠ c → (a, t, n) ∈ G.set p0 (q0, c', n0) := by
    intro a t n hm ht
    obtain ⟨i, hi⟩ := List.getElem?_of_mem hm
    by_cases hip : i = p0
    · subst hip
      rw [hp] at hi
      cases hi
      exact absurd rfl ht
    · exact List.mem_of_getElem? (by rw [at' i hip]; exact hi)
  have h2 : ∀ (a t n : Nat), (a, t, n) ∈ G → ∃ t', (a, t', n) ∈ G.set p0 (q0, c', n0) := by
    intro a t n hm
    obtain ⟨i, hi⟩ := List.getElem?_of_mem hm
    by_cases hip : i = p0
    · subst hip
      rw [hp] at hi
      cases hi
      exact ⟨c', List.mem_of_getElem? atp⟩
    · exact ⟨t, List.mem_of_getElem? (by rw [at' i hip]; exact hi)⟩
  obtain ⟨e0, w1, w2⟩ := hT.2.1 p0 q0 _ _ hp
  have hTy : q9tyW cT B (G.set p0 (q0, c', n0)) ws := by
    refine ⟨by rw [List.length_set]; exact hT.1, fun i a u n hi => ?_, fun i j a b n n' hi hj => ?_⟩
    · by_cases hip : i = p0
      · subst hip
        rw [atp] at hi
        cases hi
        exact ⟨e0, w1, hty e0 w1 w2 h1⟩
      · rw [at' i hip] at hi
        obtain ⟨e', v1, v2⟩ := hT.2.1 i a u n hi
        exact ⟨e', v1, q9tyE_re h1 h2 c0 c4 v2⟩
    · have hip : i ≠ p0 := by
        rintro rfl
        rw [atp] at hi
        cases hi
        exact c12' rfl
      have hjp : j ≠ p0 := by
        rintro rfl
        rw [atp] at hj
        cases hj
        exact c12' rfl
      rw [at' i hip] at hi
      rw [at' j hjp] at hj
      exact hT.2.2 i j a b n n' hi hj
  refine ⟨⟨hM.1, hM.2.1, hM.2.2.1, fun i u hi => ?_, fun z hz => ?_, fun z hz => ?_, hM.2.2.2.2.2.2⟩, hTy⟩
  · have hi : ((q9tE x).set k (2, (c' : Int), 0))[i]? = some u := hi
    by_cases hik : i = k
    · subst hik
      rw [List.getElem?_set_self hE] at hi
      cases hi
      exact ⟨q0, n0, hk, List.mem_of_getElem? (by rw [Int.toNat_natCast]; exact atp)⟩
    · rw [List.getElem?_set_ne (fun z => hik z.symm)] at hi
      have h9 := List.all_eq_true.mp c6 (u, i) (by
        rw [List.mem_iff_getElem?]
        exact ⟨i, by rw [List.getElem?_zipIdx, hi]; simp⟩)
      simp only [Bool.or_eq_true, beq_iff_eq, Bool.not_eq_true'] at h9
      rcases h9 with h9 | h9
      · exact absurd h9 hik
      · exact q9tyV_re h1 h9 c0 (hM.2.2.2.1 i u hi)
  · have h9 := hM.2.2.2.2.1 z hz
    unfold q9FMok at h9 ⊢
    split
    · rename_i h0
      rw [if_pos h0] at h9
      obtain ⟨a, cd, n, u, e1, e2, e3, e4⟩ := h9
      obtain ⟨t', m'⟩ := h2 a cd n e2
      exact ⟨a, t', n, u, e1, m', e3, e4⟩
    · rename_i h0
      rw [if_neg h0] at h9
      exact h9
  · rcases hM.2.2.2.2.2.1 z hz with h9 | ⟨q9, a, n, fs, M, c9, b9, z9, n9, e1, e2, e3, e4⟩ | ⟨c9, d1, d2, d3⟩
    · exact .inl h9
    rotate_left
    · have cg : c ≠ 250 := cg.elim id fun hh => by
        have hz : z ∈ q9tA x := hz
        rw [hh] at hz
        cases hz
      exact .inr (.inr ⟨c9, d1, d2, d3.re (N := c) (by omega) fun i y hi hy => by
        rw [at' i (by
          rintro rfl
          rw [hp] at hi
          cases hi
          exact hy rfl)]
        exact hi⟩)
    · have keepAt : ∀ (i : Nat) (y : Nat × Nat × Nat), G[i]? = some y → y.2.1 ≠ c → (G.set p0 (q0, c', n0))[i]? = some y := by
        intro i y hi hy
        rw [at' i (by
          rintro rfl
          rw [hp] at hi
          cases hi
          exact hy rfl)]
        exact hi
      refine .inr (.inl ⟨q9, a, n, fs, M, c9, b9, z9, n9, keepAt _ _ e1 (fun h => c12 h.symm), e2, fun y hy => ?_, e4⟩)
      obtain ⟨i, b, k9, n', cA, k1, k2, k3⟩ := e3 y hy
      exact ⟨i, b, k9, n', cA, k1, keepAt _ _ k2 (cj y (q9jFc_in hy)), k3⟩
/-- an array of ints, all of whose elements are known to be of the new kind -/
noncomputable def q9ret2_o (B : q9TB) (c c' k : Nat) (x : q9ST) : Option q9ST := match B.2.1[c - 100]?, B.2.1[c' - 100]?, (q9tE x)[k]? with
  | some K, some K', some t => if t = (2, (c : Int), 0) ∧ 251 ≤ c ∧ 100 ≤ c' ∧ K.1 = 0 ∧ K'.1 = 0 ∧ K.2.1 = K'.2.1 ∧ K.2.2.1 = true ∧ K.2.1 ≤ 1000 ∧ q9noC B c = true ∧ q9zeroB x = true ∧
      ((q9tE x).zipIdx.all (fun z => z.2 == k || !q9tyC c z.1)) = true ∧
      ((List.range K.2.1).all (fun (j : Nat) => (q9tA x).any (fun z => z.1 == k && (z.2.1 == (0, (j : Int)) && (q9okAV (q9tE x) z.2.2 && q9subB (q9tE x) z.2.2 K'.2.2.2))))) = true then
      some (q9sE x ((q9tE x).set k (2, (c' : Int), 0))) else none
  | _, _, _ => none
noncomputable def q9ret2 (B : q9TB) (c c' k : Nat) (x : q9ST) : Option q9ST := match (q9ge9 B.2.1 (c - 100)), (q9ge9 B.2.1 (c' - 100)), (q9ge9 (q9tE x) (k)) with
  | some K, some K', some t => if t = (2, (c : Int), 0) ∧ 251 ≤ c ∧ 100 ≤ c' ∧ K.1 = 0 ∧ K'.1 = 0 ∧ K.2.1 = K'.2.1 ∧ K.2.2.1 = true ∧ K.2.1 ≤ 1000 ∧ q9noC B c = true ∧ q9zeroB x = true ∧
      (q9al9 (q9tE x).zipIdx (fun z => q9or9 (q9eq9 (z.2) (k)) (!q9tyC c z.1))) = true ∧
      (q9al9 (List.range K.2.1) (fun (j : Nat) => q9an9 (q9tA x) (fun z => q9nd9 (q9eq9 (z.1) (k)) ((q9nd9 (q9eq9 (z.2.1) ((0, (j : Int)))) ((q9nd9 (q9okAV (q9tE x) z.2.2) (q9subB (q9tE x) z.2.2 K'.2.2.2)))))))) = true then
      some (q9sE x (q9set9 (q9tE x) k (2, (c' : Int), 0))) else none
  | _, _, _ => none
theorem q9ret2_oq : @q9ret2 = @q9ret2_o := by
  delta q9ret2 q9ret2_o
  simp only [q9ge9_eq, q9fi9_eq, q9an9_eq, q9al9_eq, q9flt9_eq, q9el9_eq, q9set9_eq, q9ln9_eq, q9gD9_eq, q9ap9_eq, q9eq9_N, q9eq9_I, q9eq9_A, q9eq9_E, q9eq9_OI, q9eq9_ON, q9eq9_OA, q9eq9_L, q9eq9_S, q9de9_N, q9de9_I, q9de9_A, q9le9_N, q9le9_I, q9lt9_N, q9lt9_I, q9de9_E, q9de9_OI, q9de9_ON, q9de9_OA, q9de9_L, q9nd9_eq, q9or9_eq, Bool.cond_decide]
theorem q9ret2_ok {nL : Nat} {g : List Value} {cT : Nat → ClassId} {B : q9TB} {A : Nat → Prop} {c c' k n0 : Nat} {x x' : q9ST} {r : Nat → Value} {G : q9GH} {ws : va_W} {ls : Array Slot} {st : List Value} {p0 q0 : Nat} (hM : q9SM O nL g x r G ws ls st) (hT : q9tyW cT B G ws) (hD : va_D A ws) (hp : G[p0]? = some (q0, c, n0)) (hk : r k = .ref q0) (h : q9ret2 B c c' k x = some x') :
    q9SM O nL g x' r (G.set p0 (q0, c', n0)) ws ls st ∧ q9tyW cT B (G.set p0 (q0, c', n0)) ws ∧ (q9tE x').length = (q9tE x).length ∧ q9tN x' = q9tN x ∧ q9tM x' = q9tM x ∧ q9tS x' = q9tS x := by
  (rewrite [q9ret2_oq] at h; unfold q9ret2_o at h)
  split at h
  · rename_i K K' t hK hK' hE
    split at h
    · rename_i hc
      obtain ⟨c1, c2, c3, c4, c5, c6, c7, q9c8, c9, c10, c11, c12⟩ := hc
      cases h
      have hjj : ∀ y ∈ q9jF, y.2 ≠ c := fun y hy => by
        have := (by decide : ∀ y ∈ q9jF, y.2 < 250) y hy
        omega
      have hr := q9reT (c' := c') hM hT hp hk (List.getElem?_eq_some_iff.mp hE).1 (by omega) (by omega) (by omega) hjj c9 c11 fun e0 w1 w2 hmem => by
        rcases w2 with ⟨hh, -⟩ | ⟨-, K2, k1, k2⟩
        · omega
        · rw [hK] at k1
          cases k1
          obtain ⟨Kt, KN, Kb, Ke⟩ := K
          obtain ⟨Kt', KN', Kb', Ke'⟩ := K'
          dsimp only at c4 c5 c6 c7 q9c8 c12
          subst c4
          subst c5
          subst c6
          subst c7
          obtain ⟨k3, k4, f, k5, k6⟩ := k2
          have k3 : n0 ≤ KN := k3
          have k4 : n0 = KN := k4 rfl
          refine .inr ⟨c3, _, hK', k3, fun _ => k4, f, k5, fun i hi => ?_⟩
          have h9 := List.all_eq_true.mp c12 i (List.mem_range.mpr (by omega))
          simp only [List.any_eq_true, Bool.and_eq_true, beq_iff_eq] at h9
          obtain ⟨z, z1, z2, z3, z4, z5⟩ := h9
          have hv := q9sub_ok hM.2.2.2.1 z4 z5
          have hv : q9tyV G Ke' (q9ev r z.2.2) := hv
          have hat := hM.2.2.2.2.2.1 z z1
          have z0 : q9ev r z.2.1 = .int (Int32.ofInt (i : Int)) := by
            rw [z3]
            exact q9zero_ev hM.2.2.2.1 (q9zero_at c10) _
          rcases hat with ⟨a, j, cA, n, f2, w, e1, e2, e3, e4⟩ | hJ
          · rw [z2, hk] at e1
            cases e1
            have hj : j = p0 := hD.1 j p0 _ _ e2 w1 rfl
            subst hj
            rw [w1] at e2
            have e2 := (Prod.mk.inj (Option.some.inj e2)).2
            rw [k5] at e2
            cases e2
            rw [z0] at e3
            cases e3
            have ei : (Int32.ofInt (i : Int)).toInt = i := Int32.toInt_ofInt_of_le (by omega) (by omega)
            have ei' : (Int32.ofInt (i : Int)).toNatClampNeg = i := by
              show (Int32.ofInt (i : Int)).toInt.toNat = i
              rw [ei]
              omega
            rw [ei'] at e4
            have e4 : q9ev r z.2.2 = .int (f i) := e4
            rw [e4] at hv
            obtain ⟨ek, el, eh⟩ := Ke'
            match ek, hv with
            | 0, hv => exact hv
            | 1, ⟨_, hv, _⟩ => cases hv
            | 2, ⟨_, _, hv, _⟩ => cases hv
            | 3, .inl hv => cases hv
            | 3, .inr ⟨_, _, hv, _⟩ => cases hv
            | 4, hv => cases hv
            | 5, ⟨_, hv⟩ => cases hv
            | _ + 6, .inl hv => cases hv
            | _ + 6, .inr ⟨_, hv⟩ => cases hv
          · rw [z2, hk] at hJ
            exact (q9JA_ref hJ).elim
      exact ⟨hr.1, hr.2, by show ((q9tE x).set k _).length = _; rw [List.length_set], rfl, rfl, rfl⟩
    · cases h
  · cases h
section RTM
variable {p : Program} {l : Launch} {e : Env} {R : Room} {ko : Nat × Nat} {s : State} {m : MethodId} {args : Array Value} {below : List Frame} {meth : Method} {c : Code} {Q : State → Prop} {cc : ByteArray}
variable {nL : Nat} {g : List Value} {D : va_G} {cT : Nat → ClassId} {B : q9TB} {A : Nat → Prop} {H0 : Heap} {G0 : q9GH} {ws0 : va_W} {Wr : List Nat}
/-- the same, and what follows starts at the new array -/
theorem q9mkB_ok {n : q9EN} {L : List (Nat × Nat)} {len t0 : Nat} (hA : ∀ q, H0.size ≤ q → A q) (hR : (q9eR n).1 ≤ R.frames ∧ (q9eR n).2.1 ≤ R.locals ∧ ko.1 + (q9eR n).2.2.1 ≤ R.cells ∧ ko.2 + (q9eR n).2.2.2 ≤ R.slots) (hK : va_K D vwCl (TY cT) s) {x : q9ST} {r : Nat → Value} {pc : Nat} {ss : List (Nat × q9ST)} (hw : q9wfB x = true) (h : q9mkM L n len pc x t0 = some ss) (hk : ∀ w ∈ ss, ∀ z ∈ L, ∀ (G : q9GH) (ws : va_W) (q n0 : Nat), q9extG G0 G → q9keepW (q9eW n) G0 ws0 ws → ws.length = G.length → q9GO O p l e R ko s m args below meth c Q (q9eN n) g (q9WM D cT (q9eB n) A H0 (G ++ [(q, z.2, n0)]) (ws ++ [(q, q9newE cT t0 n0)]) (q9eW n)) w.1 w.2 (q9up r (q9tE x).length (.ref q)))
    (row : ∀ (ws : va_W) (H : Heap) (locs : List Loc) (cells slots N : Nat) (ls : Array Slot) (rest : List Value) (y : Int32), 0 ≤ y.toInt → y.toNatClampNeg = N → N ≤ 1000000 → va_P D vwCl ws H → va_D A ws → va_S A H0 H locs → cells + 1 ≤ R.cells → slots + N ≤ R.slots → (∀ (q : Nat) (H1 : Heap), va_P D vwCl (ws ++ [(q, q9newE cT t0 N)]) H1 → va_D A (ws ++ [(q, q9newE cT t0 N)]) → va_S A H0 H1 locs → W p l e R s m args below meth c H1 locs (cells + 1) (slots + N) Q (F0 m (pc + len) ls (.ref q :: rest))) → W p l e R s m args below meth c H locs cells slots Q (F0 m pc ls (.int y :: rest))) : q9GO O p l e R ko s m args below meth c Q (q9eN n) g (q9WM D cT (q9eB n) A H0 G0 ws0 (q9eW n)) pc x r := by
  (rewrite [q9mkM_oq] at h; unfold q9mkM_o at h)
  split at h
  · rename_i z hz
    split at h
    · rename_i a rest hT
      split at h
      · rename_i k lo hi hkk hnum
        split at h
        · rename_i hc
          obtain ⟨c1, c2, c3, c4, c5, c6, c7, q9c8, c9⟩ := hc
          cases h
          intro G ws H locs ls st hM hW
          obtain ⟨hP, hD, hS, hTy, hX, hKe⟩ := hW
          have ha : q9okAV (q9tE x) a = true := q9wf_S hw a (by rw [hT]; exact List.mem_cons_self)
          obtain ⟨y, y1, -, y2, y3⟩ := q9num_int hM.2.2.2.1 ha hnum
          have hst := hM.2.1
          rw [hT, List.map_cons, y1] at hst
          rw [hst]
          have e0 : y.toNatClampNeg = y.toInt.toNat := rfl
          have q3 := hR.2.2.1
          have q4 := hR.2.2.2
          refine row ws H locs _ _ y.toNatClampNeg ls _ y (by omega) rfl (by omega) hP hD hS (by omega) (by omega) fun q H1 hP1 hD1 hS1 => ?_
          have okr : ∀ b ∈ rest, q9okAV (q9tE x) b = true := fun b hb => q9wf_S hw b (by rw [hT]; exact List.mem_cons_of_mem _ hb)
          have ag : q9agr (q9tE x).length r (q9up r (q9tE x).length (.ref q)) := fun k h9 => q9up_lt h9
          have hty : q9tyE cT (q9eB n) (G ++ [(q, z.2, y.toNatClampNeg)]) z.2 y.toNatClampNeg (q9newE cT k.1 y.toNatClampNeg) := .inr ⟨c1, k, hkk, q9newE_ty c7 (by omega) (fun h9 => by have := c6 h9; omega)⟩
          rw [c2] at hty
          have hTy1 := q9tyW_app hTy hty (by omega)
          have hg := (hM.grow (Y := [(q, z.2, y.toNatClampNeg)]) (X := [(q, q9newE cT t0 y.toNatClampNeg)])).fresh hw (t := (2, (z.2 : Int), 0)) (v := .ref q) ⟨q, y.toNatClampNeg, rfl, List.mem_append_right _ (by rw [Int.toNat_natCast]; exact List.mem_cons_self)⟩
          have hF := hg.F (F := ((q9tE x).length, 1000, a) :: q9tF x) fun w hw9 => by
            rcases List.mem_cons.mp hw9 with rfl | hw9
            · unfold q9FMok
              rw [if_pos rfl]
              refine ⟨q, z.2, y.toNatClampNeg, y, q9up_at, List.mem_append_right _ List.mem_cons_self, ?_, by omega⟩
              rw [ag.ev ha]
              exact y1
            · exact hg.2.2.2.2.1 w hw9
          have kk := hk _ List.mem_cons_self z (List.mem_of_find?_eq_some hz) G ws q y.toNatClampNeg hX hKe hTy.1 _ _ H1 locs ls _ ((hF.S (((q9tE x).length, 0) :: rest)).NM (q9tN x + 1) (q9tM x + hi.toNat)) ⟨hP1, hD1, hS1, hTy1, q9extG.rf, q9keepW.rf⟩
          rw [List.map_cons, q9ev_zero, q9up_at, ag.map okr] at kk
          have kk : W p l e R s m args below meth c H1 locs (ko.1 + (q9tN x + 1)) (ko.2 + (q9tM x + hi.toNat)) Q (F0 m (pc + len) ls (.ref q :: rest.map (q9ev r))) := kk
          exact W.widen (by omega) (by omega) kk
        · cases h
      · cases h
    · cases h
  · cases h
/-- a new base of what is known -/
theorem q9EV.base {own : String} {ALL : List Cond} {n : q9EN} {K K2 : List (Nat × Int)} {z0 : q9ZZ} (h : q9EV O p l R ko s m args c cc D cT A H0 G0 own ALL n K K2 z0) {G : q9GH} (hX : q9extG G0 G) : q9EV O p l R ko s m args c cc D cT A H0 G own ALL n K K2 z0 := by
  obtain ⟨hx, hb, hml, hown, hts, hAll, hK, hG, hZ, hA, hF9, hPp, hV, hS9, hR, h6, h7, h8, h9, hH0, hZz, hzG⟩ := h
  exact ⟨hx, hb, hml, hown, hts, hAll, hK, hG, hZ, hA, hF9, hPp, hV, hS9, hR, h6, h7, h8, h9, hH0, hZz, hzG⟩
theorem q9th_nil {WP : q9GH → va_W → Heap → List Loc → Prop} {own : String} : q9THok p l e R ko s m args below meth c Q WP own ([], []) := ⟨fun _ hh => (List.not_mem_nil hh).elim, fun _ hh => (List.not_mem_nil hh).elim, fun _ hh => (List.not_mem_nil hh).elim⟩
/-- from newarray to where the array is filled: (place, kind, place, kind then) -/
noncomputable def q9rtM_o (mac : Nat → q9ST → Option (List (Nat × q9ST))) (z : Nat × Nat × Nat × Nat) (f : Nat) (n : q9EN) (K K2 : List (Nat × Int)) (cc : ByteArray) (pc : Nat) (x : q9ST) : Option (List (Nat × q9ST)) :=
  if pc = z.1 ∧ q9eT n = ([], []) then (match q9mkM [(z.1, z.2.1)] n 2 pc x 0 with
    | some [q] => if q9wfB q.2 = true ∧ (q9tE q.2).length = (q9tE x).length + 1 then (match q9seg (q9step n K K2 mac (fun _ _ => false) cc) z.2.2.1 f q.1 q.2 with
      | some x2 => if q9wfB x2 = true then (match q9ret2 (q9eB n) z.2.1 z.2.2.2 (q9tE x).length x2 with
        | some x3 => some [(z.2.2.1, x3)]
        | none => none) else none
      | none => none) else none
    | _ => none)
  else none
noncomputable def q9rtM (mac : Nat → q9ST → Option (List (Nat × q9ST))) (z : Nat × Nat × Nat × Nat) (f : Nat) (n : q9EN) (K K2 : List (Nat × Int)) (cc : ByteArray) (pc : Nat) (x : q9ST) : Option (List (Nat × q9ST)) :=
  if pc = z.1 ∧ q9eT n = ([], []) then (match q9mkM [(z.1, z.2.1)] n 2 pc x 0 with
    | some [q] => if q9wfB q.2 = true ∧ (q9ln9 (q9tE q.2)) = (q9ln9 (q9tE x)) + 1 then (match q9seg (q9step n K K2 mac (fun _ _ => false) cc) z.2.2.1 f q.1 q.2 with
      | some x2 => if q9wfB x2 = true then (match q9ret2 (q9eB n) z.2.1 z.2.2.2 (q9ln9 (q9tE x)) x2 with
        | some x3 => some [(z.2.2.1, x3)]
        | none => none) else none
      | none => none) else none
    | _ => none)
  else none
theorem q9rtM_oq : @q9rtM = @q9rtM_o := by
  delta q9rtM q9rtM_o
  simp only [q9ge9_eq, q9fi9_eq, q9an9_eq, q9al9_eq, q9flt9_eq, q9el9_eq, q9set9_eq, q9ln9_eq, q9gD9_eq, q9ap9_eq, q9eq9_N, q9eq9_I, q9eq9_A, q9eq9_E, q9eq9_OI, q9eq9_ON, q9eq9_OA, q9eq9_L, q9eq9_S, q9de9_N, q9de9_I, q9de9_A, q9le9_N, q9le9_I, q9lt9_N, q9lt9_I, q9de9_E, q9de9_OI, q9de9_ON, q9de9_OA, q9de9_L, q9nd9_eq, q9or9_eq, Bool.cond_decide]
theorem q9macx_rt {XP : q9ZZ → List Value → Prop} {l : Launch} {own nm : String} {n : q9EN} {K K2 : List (Nat × Int)} {mac : Nat → q9ST → Option (List (Nat × q9ST))} (z : Nat × Nat × Nat × Nat) (f : Nat) (hmac : q9MACX O XP l q9ALLW own nm cc n K K2 mac) (hd : decode cc z.1 = .ok (.newarray .int, 2)) (hw4 : Cond.arrayClass (newarray.typeOf .int) ∈ q9ALLW) : q9MACX O XP l q9ALLW own nm cc n K K2 (q9rtM mac z f n K K2 cc) := by
  intro p e R ko s m args below meth c Q D cT A H0 G0 ws0 z0 g hE hT hX hN pc x ss r hw hm hn
  have hE' := hE
  obtain ⟨hx, hb, hml, hown, hts, hAll, hK, hG, hZ, hA, hF, hPp, hV, hS, hR, h6, h7, h8, h9, hH0, hZz, hzG⟩ := hE'
  (rewrite [q9rtM_oq] at hm; unfold q9rtM_o at hm)
  split at hm
  · rename_i h0
    obtain ⟨rfl, h1⟩ := h0
    split at hm
    · rename_i q hq
      split at hm
      · rename_i hwq
        obtain ⟨hwq, hlq⟩ := hwq
        split at hm
        · rename_i x2 hseg
          split at hm
          · rename_i hw2
            split at hm
            · rename_i x3 hx3
              cases hm
              refine q9mkB_ok (s := s) (D := D) hA hR hK hw hq (fun w hw9 z9 hz9 G ws a n0 hXg hKe hlen => ?_) fun ws H locs cells slots N ls rest y hy hyN hN9 hP hD hS9 hc1 hs1 kk => ?_
              · rw [List.mem_singleton] at hw9 hz9
                subst hw9
                subst hz9
                have hext : q9extG G (G ++ [(a, z.2.1, n0)]) := ⟨_, rfl⟩
                have hEV1 := hE.base (hXg.tr hext)
                have hTH1 : q9THok p l e R ko s m args below meth c Q (q9WM D cT (q9eB n) A H0 (G ++ [(a, z.2.1, n0)]) (ws ++ [(a, q9newE cT 0 n0)]) (q9eW n)) own (q9eT n) := by
                  rw [h1]
                  exact q9th_nil
                refine q9seg_ok (q9step_ok hEV1 hTH1 (fun pc x ss r' hw hm hn => hmac hEV1 hTH1 hX hN pc x ss r' hw hm hn) (fun pc x r' k hw hd hr => by cases hr)) f w.1 w.2 x2 _ hseg fun r2 ha2 hl2 => ?_
                intro G3 ws3 H3 locs3 ls3 st3 hM3 hW3
                obtain ⟨hP3, hD3, hS3, hTy3, hX3, hKe3⟩ := hW3
                have hpos : (G ++ [(a, z.2.1, n0)])[G.length]? = some (a, z.2.1, n0) := by
                  rw [List.getElem?_append_right (Nat.le_refl _), Nat.sub_self]
                  rfl
                have hp3 : G3[G.length]? = some (a, z.2.1, n0) := hX3.at hpos
                have hk3 : r2 (q9tE x).length = .ref a := (ha2 _ (by omega)).trans q9up_at
                obtain ⟨y1, y2, y3, y4, y5, y6⟩ := q9ret2_ok hM3 hTy3 hD3 hp3 hk3 hx3
                have hag : q9agr (q9tE x).length r r2 := fun k hk => (ha2 k (by omega)).trans (q9up_lt hk)
                have hXn : q9extG G (G3.set G.length (a, z.2.2.2, n0)) := by
                  obtain ⟨Y, hY⟩ := hX3
                  refine ⟨[(a, z.2.2.2, n0)] ++ Y, ?_⟩
                  rw [hY, List.append_assoc, List.set_append_right _ _ (Nat.le_refl _), Nat.sub_self]
                  rfl
                have kk := hn.one hag (by rw [y3]; omega) _ ws3 H3 locs3 ls3 st3 y1 ⟨hP3, hD3, hS3, y2, hXg.tr hXn, hKe.tr hXg (fun i a t k9 e9 hi he => hKe3 i a t k9 e9 (hext.at hi) (by rw [List.getElem?_append_left (List.getElem?_eq_some_iff.mp he).1]; exact he))⟩
                rw [y4, y5] at kk
                exact kk
              · have hy0 : ¬ y < 0 := by
                  rw [Int32.lt_iff_toInt_lt, Int32.toInt_zero]
                  omega
                exact va_newa (atype := .int) (ty := .int) (n := y) (N' := N) (a0 := (N, .inl (fun _ => 0))) hx hb (hts _ hw4) rfl hK hP hD hS9 hA (fun _ => rfl) hy0 hyN (by show N * 4 ≤ _; omega) hc1 hs1 hd (fun q cA H1 hK1 hP1 hD1 hS1 => by obtain rfl := ty_new hK1 0 rfl; exact kk q H1 hP1 hD1 hS1)
            · cases hm
          · cases hm
        · cases hm
      · cases hm
    · cases hm
  · cases hm
end RTM
