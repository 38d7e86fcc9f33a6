variable {O : ORC}
/-! the law, with what its script's places were found to hold -/
abbrev q9MM : Type := List (q9AV × Nat)
noncomputable def q9mmB_o (x : q9ST) (m9 : q9MM) : Bool := decide (6 < (q9tE x).length) && m9.all (fun z => decide (z.1.1 < (q9tE x).length) && decide (z.2 < (q9tE x).length))
noncomputable def q9mmB (x : q9ST) (m9 : q9MM) : Bool := q9nd9 ((q9lt9 (6) ((q9ln9 (q9tE x))))) (q9al9 m9 (fun z => q9nd9 ((q9lt9 (z.1.1) ((q9ln9 (q9tE x))))) ((q9lt9 (z.2) ((q9ln9 (q9tE x)))))))
theorem q9mmB_oq : @q9mmB = @q9mmB_o := by
  delta q9mmB q9mmB_o
  simp only [q9ge9_eq, q9fi9_eq, q9an9_eq, q9al9_eq, q9flt9_eq, q9el9_eq, q9set9_eq, q9ln9_eq, q9gD9_eq, q9ap9_eq, q9eq9_N, q9eq9_I, q9eq9_A, q9eq9_E, q9eq9_OI, q9eq9_ON, q9eq9_OA, q9eq9_L, q9eq9_S, q9de9_N, q9de9_I, q9de9_A, q9le9_N, q9le9_I, q9lt9_N, q9lt9_I, q9de9_E, q9de9_OI, q9de9_ON, q9de9_OA, q9de9_L, q9nd9_eq, q9or9_eq, Bool.cond_decide]
noncomputable def q9MEM (O : ORC) (xs : Nat → Int32) (r : Nat → Value) (m9 : q9MM) : Prop := (∀ z ∈ m9, ∃ u : Int32, q9ev r z.1 = .int u ∧ r z.2 = .int (xs u.toNatClampNeg)) ∧ ∀ k : Int, 1 ≤ k → k ≤ 6 → ∀ u : Int32, q9ev r (6, k) = .int u → O.1 1063 (.int (Int32.ofInt k)) (.int 0) = some (.int (xs u.toNatClampNeg))
theorem q9MEM.agr {xs : Nat → Int32} {r r' : Nat → Value} {x : q9ST} {m9 : q9MM} (h : q9MEM O xs r m9) (hb : q9mmB x m9 = true) (ha : q9agr (q9tE x).length r r') : q9MEM O xs r' m9 := by
  (rewrite [q9mmB_oq] at hb; unfold q9mmB_o at hb)
  rw [Bool.and_eq_true, decide_eq_true_eq] at hb
  refine ⟨fun z hz => ?_, fun k h1 h2 u hu => h.2 k h1 h2 u (by rw [← hu]; exact (q9ev_agree (ha _ hb.1)).symm)⟩
  obtain ⟨u, h1, h2⟩ := h.1 z hz
  have h9 := List.all_eq_true.mp hb.2 z hz
  rw [Bool.and_eq_true, decide_eq_true_eq, decide_eq_true_eq] at h9
  exact ⟨u, by rw [q9ev_agree (ha _ h9.1)]; exact h1, by rw [ha _ h9.2]; exact h2⟩
noncomputable def q9sl5_o (x : q9ST) (j : q9AV) : List (Nat × q9AV × q9AV × Nat) := if q9zeroB x = true ∧ j.1 = 6 ∧ 1 ≤ j.2 ∧ j.2 ≤ 6 then [(1063, (0, j.2), (0, 0), (q9tE x).length)] else []
noncomputable def q9sl5 (x : q9ST) (j : q9AV) : List (Nat × q9AV × q9AV × Nat) := if q9zeroB x = true ∧ j.1 = 6 ∧ 1 ≤ j.2 ∧ j.2 ≤ 6 then [(1063, (0, j.2), (0, 0), (q9ln9 (q9tE x)))] else []
theorem q9sl5_oq : @q9sl5 = @q9sl5_o := by
  delta q9sl5 q9sl5_o
  simp only [q9ge9_eq, q9fi9_eq, q9an9_eq, q9al9_eq, q9flt9_eq, q9el9_eq, q9set9_eq, q9ln9_eq, q9gD9_eq, q9ap9_eq, q9eq9_N, q9eq9_I, q9eq9_A, q9eq9_E, q9eq9_OI, q9eq9_ON, q9eq9_OA, q9eq9_L, q9eq9_S, q9de9_N, q9de9_I, q9de9_A, q9le9_N, q9le9_I, q9lt9_N, q9lt9_I, q9de9_E, q9de9_OI, q9de9_ON, q9de9_OA, q9de9_L, q9nd9_eq, q9or9_eq, Bool.cond_decide]
noncomputable def q9slS_o (cc : ByteArray) (pc : Nat) (x : q9ST) (m9 : q9MM) : Option (Nat × q9ST × q9MM) := match decode cc pc with
  | .ok (.iaload, 1) => (match q9tS x, (q9tG x)[1]? with
    | j :: a :: rest, some L9 => (match q9num (q9tE x) j with
      | some (0, lo, _) => if (q9tG x)[0]? = some a ∧ 0 ≤ lo ∧ q9okAV (q9tE x) L9 = true ∧ q9leB x j L9 (-1) = true then (match m9.find? (fun z => z.1 == j) with
          | some z => some (pc + 1, q9sS x ((z.2, 0) :: rest), m9)
          | none => some (pc + 1, q9sS (q9sX (q9sE x (q9tE x ++ [(0, -2147483648, 2147483647)])) (q9sl5 x j ++ q9tX x)) (((q9tE x).length, 0) :: rest), (j, (q9tE x).length) :: m9)) else none
      | _ => none)
    | _, _ => none)
  | .ok (.arraylength, 1) => (match q9tS x, (q9tG x)[1]? with
    | a :: rest, some L9 => if (q9tG x)[0]? = some a then some (pc + 1, q9sS x (L9 :: rest), m9) else none
    | _, _ => none)
  | _ => none
noncomputable def q9slS (cc : ByteArray) (pc : Nat) (x : q9ST) (m9 : q9MM) : Option (Nat × q9ST × q9MM) := match decode cc pc with
  | .ok (.iaload, 1) => (match q9tS x, (q9ge9 (q9tG x) (1)) with
    | j :: a :: rest, some L9 => (match q9num (q9tE x) j with
      | some (0, lo, _) => if (q9ge9 (q9tG x) (0)) = some a ∧ 0 ≤ lo ∧ q9okAV (q9tE x) L9 = true ∧ q9leB x j L9 (-1) = true then (match q9fi9 m9 (fun z => q9eq9 (z.1) (j)) with
          | some z => some (pc + 1, q9sS x ((z.2, 0) :: rest), m9)
          | none => some (pc + 1, q9sS (q9sX (q9sE x ((q9ap9 (q9tE x) ([(0, -2147483648, 2147483647)])))) ((q9ap9 (q9sl5 x j) (q9tX x)))) (((q9ln9 (q9tE x)), 0) :: rest), (j, (q9ln9 (q9tE x))) :: m9)) else none
      | _ => none)
    | _, _ => none)
  | .ok (.arraylength, 1) => (match q9tS x, (q9ge9 (q9tG x) (1)) with
    | a :: rest, some L9 => if (q9ge9 (q9tG x) (0)) = some a then some (pc + 1, q9sS x (L9 :: rest), m9) else none
    | _, _ => none)
  | _ => none
theorem q9slS_oq : @q9slS = @q9slS_o := by
  delta q9slS q9slS_o
  simp only [q9ge9_eq, q9fi9_eq, q9an9_eq, q9al9_eq, q9flt9_eq, q9el9_eq, q9set9_eq, q9ln9_eq, q9gD9_eq, q9ap9_eq, q9eq9_N, q9eq9_I, q9eq9_A, q9eq9_E, q9eq9_OI, q9eq9_ON, q9eq9_OA, q9eq9_L, q9eq9_S, q9de9_N, q9de9_I, q9de9_A, q9le9_N, q9le9_I, q9lt9_N, q9lt9_I, q9de9_E, q9de9_OI, q9de9_ON, q9de9_OA, q9de9_L, q9nd9_eq, q9or9_eq, Bool.cond_decide]
noncomputable def q9fcMv (a : q9AV × Nat) (k : q9AV × Nat → Bool) : Bool := q9fcA a.1 (fun u => q9fcN a.2 (fun v => k (u, v)))
noncomputable def q9fcM (m9 : q9MM) (k : q9MM → Bool) : Bool := q9fcL q9fcMv m9 k
theorem q9fcMv_eq (a : q9AV × Nat) (k : q9AV × Nat → Bool) : q9fcMv a k = k a := by
  obtain ⟨u, v⟩ := a
  show q9fcA u (fun u => q9fcN v (fun v => k (u, v))) = k (u, v)
  rw [q9fcA_eq, q9fcN_eq]
theorem q9fcM_eq (m9 : q9MM) (k : q9MM → Bool) : q9fcM m9 k = k m9 := q9fcL_eq q9fcMv_eq m9 k
noncomputable def q9chkS (st : Nat → q9ST → Option (List (Nat × q9ST))) (cc : ByteArray) (cuts : List q9CUT) (me0 : List q9ME) : Nat → Nat → q9ST → q9MM → Bool
  | 0, _, _, _ => false
  | f + 1, pc, x, m9 => q9wfQ x && (q9mmB x m9 && (match q9slS cc pc x m9 with
    | some q => q9fcD f q.1 q.2.1 (fun p9 y => q9fcM q.2.2 (fun m8 => q9chkS st cc cuts me0 f p9 y m8))
    | none => (match st pc x with
      | none => false
      | some ss => ss.all (fun q => q9fcD f q.1 q.2 (fun p9 y => match q9cuF cuts p9 with
        | k0 :: ks => (k0 :: ks).any (fun k => match q9mkT y k.2.2.1 [] with
          | some th => q9fitsB y k.2.1 th && (k.2.2.2.length == me0.length && (k.2.2.2.all (q9meIn (q9tE k.2.1)) && q9meLt y th me0 k.2.2.2))
          | none => false)
        | [] => q9chkS st cc cuts me0 f p9 y m9)))))
section CS
variable {p : Program} {l : Launch} {e : Env} {R : Room} {ko : Nat × Nat} {s : State} {m : MethodId} {args : Array Value} {below : List Frame} {meth : Method} {c : Code} {Q : State → Prop} {cc : ByteArray}
theorem q9chkS_ok {nL : Nat} {g : List Value} {WP : q9GH → va_W → Heap → List Loc → Prop} {st : Nat → q9ST → Option (List (Nat × q9ST))} {cuts : List q9CUT} {me0 : List q9ME} {xs : Nat → Int32} (hst : ∀ (pc : Nat) (x : q9ST) (ss : List (Nat × q9ST)) (r : Nat → Value), q9wfB x = true → st pc x = some ss → q9NX O p l e R ko s m args below meth c Q nL g WP ss x r → q9GO O p l e R ko s m args below meth c Q nL g WP pc x r)
    (hsl : ∀ (pc : Nat) (x : q9ST) (m9 : q9MM) (q : Nat × q9ST × q9MM) (r : Nat → Value), q9wfB x = true → q9mmB x m9 = true → q9slS cc pc x m9 = some q → q9MEM O xs r m9 → (∀ r' : Nat → Value, q9agr (q9tE x).length r r' → (q9tE x).length ≤ (q9tE q.2.1).length → q9MEM O xs r' q.2.2 → q9GO O p l e R ko s m args below meth c Q nL g WP q.1 q.2.1 r') → q9GO O p l e R ko s m args below meth c Q nL g WP pc x r)
    {N0 : Nat} (hcut : ∀ k ∈ cuts, ∀ r : Nat → Value, q9meN r k.2.2.2 < N0 → q9GO O p l e R ko s m args below meth c Q nL g WP k.1 k.2.1 r) :
    ∀ (f pc : Nat) (x : q9ST) (m9 : q9MM) (r : Nat → Value), q9chkS st cc cuts me0 f pc x m9 = true → q9MEM O xs r m9 → q9meN r me0 = N0 → (∀ q ∈ me0, q.1 = 0 ∨ q.2.1 < (q9tE x).length) → q9GO O p l e R ko s m args below meth c Q nL g WP pc x r
  | 0, _, _, _, _, h, _, _, _ => by cases h
  | f + 1, pc, x, m9, r, h, hM9, hN, hin => by
    unfold q9chkS at h
    rw [Bool.and_eq_true, Bool.and_eq_true] at h
    obtain ⟨hw, hmm, h⟩ := h
    have hw := q9wfQ_ok hw
    cases hs : q9slS cc pc x m9 with
    | some q =>
      rw [hs] at h
      dsimp only at h
      rw [q9fcD_eq, q9fcM_eq] at h
      exact hsl pc x m9 q r hw hmm hs hM9 fun r' ha hl hM' => q9chkS_ok hst hsl hcut f q.1 q.2.1 q.2.2 r' h hM' (by rw [q9meN_agr ha me0 hin]; exact hN) fun z hz => (hin z hz).imp id fun y => Nat.lt_of_lt_of_le y hl
    | none =>
      rw [hs] at h
      dsimp only at h
      cases hs2 : st pc x with
      | none => rw [hs2] at h; cases h
      | some ss =>
        rw [hs2] at h
        dsimp only at h
        rw [List.all_eq_true] at h
        refine hst pc x ss r hw hs2 fun q hq r' ha hl => ?_
        have h9 := h q hq
        rw [q9fcD_eq] at h9
        cases hc : q9cuF cuts q.1 with
        | nil =>
          rw [hc] at h9
          exact q9chkS_ok hst hsl hcut f q.1 q.2 m9 r' h9 (hM9.agr hmm ha) (by rw [q9meN_agr ha me0 hin]; exact hN) fun z hz => (hin z hz).imp id fun y => Nat.lt_of_lt_of_le y hl
        | cons k0 ks =>
          rw [hc] at h9
          dsimp only at h9
          rw [List.any_eq_true] at h9
          obtain ⟨k, hk9, h9⟩ := h9
          rw [← hc] at hk9
          obtain ⟨k2, k1⟩ := q9cuF_mem hk9
          have k1 : k.1 = q.1 := by simpa using k1
          cases ht : q9mkT q.2 k.2.2.1 [] with
          | none => rw [ht] at h9; cases h9
          | some th =>
            rw [ht] at h9
            dsimp only at h9
            simp only [Bool.and_eq_true, beq_iff_eq, List.all_eq_true] at h9
            obtain ⟨hf, m1, m2, m3⟩ := h9
            intro G ws H locs ls stk hM hW
            obtain ⟨g1, g2, g3⟩ := q9fits_cut hM hf
            have kk := hcut k k2 (q9rh r' th) (by
              rw [← hN, ← q9meN_agr ha me0 hin]
              exact q9meLt_ok hM me0 k.2.2.2 m1 (fun z hz => q9meIn_ok g1.2.2.2.1 (m2 z hz)) m3) G ws H locs ls stk g1 hW
            rw [← k1]
            exact W.widen (Nat.add_le_add_left g2 _) (Nat.add_le_add_left g3 _) kk
variable {g : List Value} {D : va_G} {cT : Nat → ClassId} {A : Nat → Prop} {H0 : Heap} {G0 : q9GH} {ws0 : va_W}
theorem q9slS_ok {own : String} {n : q9EN} {K K2 : List (Nat × Int)} {z0 : q9ZZ} {b L : Nat} {xs : Nat → Int32} (hE : q9EV O p l R ko s m args c cc D cT A H0 G0 own q9ALLW n K K2 z0) (hX9 : va_X b L xs s H0) (hbl : b < H0.size) (hbA : ¬ A b) (hL9 : (Int32.ofNat L).toInt = (L : Int)) (hg0 : g[0]? = some (.ref b)) (hg1 : g[1]? = some (.int (Int32.ofNat L))) :
    ∀ (pc : Nat) (x : q9ST) (m9 : q9MM) (q : Nat × q9ST × q9MM) (r : Nat → Value), q9wfB x = true → q9mmB x m9 = true → q9slS cc pc x m9 = some q → q9MEM O xs r m9 → (∀ r' : Nat → Value, q9agr (q9tE x).length r r' → (q9tE x).length ≤ (q9tE q.2.1).length → q9MEM O xs r' q.2.2 → q9GO O p l e R ko s m args below meth c Q (q9eN n) g (q9WM D cT (q9eB n) A H0 G0 ws0 (q9eW n)) q.1 q.2.1 r') → q9GO O p l e R ko s m args below meth c Q (q9eN n) g (q9WM D cT (q9eB n) A H0 G0 ws0 (q9eW n)) pc x r := by
  obtain ⟨hx, hb, hml, hown, hts, hAll, hK, hG, hZ, hA, hF, hPp, hV, hS, hR, h6, h7, h8, h9, hH0, hZz, hzG⟩ := hE
  intro pc x m9 q r hw hmm hm hM9 hn
  (rewrite [q9slS_oq] at hm; unfold q9slS_o at hm)
  split at hm
  · rename_i hd
    split at hm
    · rename_i j a rest L9 hSt hGt
      split at hm
      · rename_i lo hi9 hnum
        split at hm
        · rename_i hc
          obtain ⟨c1, c2, c3, c4⟩ := hc
          intro G ws H locs ls st hM hW
          have ea := q9gh_is0 hM c1 hg0
          have eL := q9gh_is0 hM hGt hg1
          have okj : q9okAV (q9tE x) j = true := q9wf_S hw j (by rw [hSt]; exact List.mem_cons_self)
          obtain ⟨u, eu, -, u1, u2⟩ := q9num_int hM.2.2.2.1 okj hnum
          have hle := q9leB_ok hM okj c3 c4
          rw [eu, eL] at hle
          have hle : u.toInt ≤ (Int32.ofNat L).toInt + (-1) := hle
          have hst := hM.2.1
          rw [hSt, List.map_cons, List.map_cons, ea, eu] at hst
          have okr : ∀ a ∈ rest, q9okAV (q9tE x) a = true := fun a ha => q9wf_S hw a (by rw [hSt]; exact List.mem_cons_of_mem _ (List.mem_cons_of_mem _ ha))
          rw [hst]
          have hin : vp_in u L := by
            intro h9
            have e0 : u.toNatClampNeg = u.toInt.toNat := rfl
            rw [Int32.lt_iff_toInt_lt, Int32.toInt_zero] at h9
            omega
          split at hm
          · rename_i z hz
            cases hm
            have z1 := List.find?_some hz
            simp only [beq_iff_eq] at z1
            obtain ⟨u', v1, v2⟩ := hM9.1 z (List.mem_of_find?_eq_some hz)
            rw [z1, eu] at v1
            cases v1
            have kk9 := hn r q9agr.rf (Nat.le_refl _) hM9 G ws H locs ls _ (hM.S ((z.2, 0) :: rest)) hW
            rw [List.map_cons, q9ev_zero, v2] at kk9
            exact va_sld hx hb hX9 hbl hbA hW.2.2.1 hin hd kk9
          · cases hm
            have ag : q9agr (q9tE x).length r (q9up r (q9tE x).length (.int (xs u.toNatClampNeg))) := fun k hk => q9up_lt hk
            have h9 := (hM.fresh hw (q9ty_any (xs u.toNatClampNeg))).X (X := q9sl5 x j ++ q9tX x) fun q hq => by
              rcases List.mem_append.mp hq with hq | hq
              · (rewrite [q9sl5_oq] at hq; unfold q9sl5_o at hq)
                split at hq
                · rename_i hc5
                  obtain ⟨d1, d2, d3, d4⟩ := hc5
                  rw [List.mem_singleton] at hq
                  subst hq
                  have h0 := hM.2.2.2.1
                  have okz : ∀ d : Int, -2147483648 ≤ d → d ≤ 2147483647 → q9okAV (q9tE x) (0, d) = true := fun d k1 k2 => by
                    have hz0 := q9zero_at d1
                    (rewrite [q9okAV_oq]; unfold q9okAV_o)
                    dsimp only
                    rw [hz0]
                    simp only [if_true, Bool.and_eq_true, decide_eq_true_eq]
                    omega
                  have e6 : q9ev r (6, j.2) = .int u := by
                    rw [← d2]
                    exact eu
                  unfold q9EXok
                  show q9exop O 1063 (q9ev _ (0, j.2)) (q9ev _ (0, 0)) = some (q9up _ _ _ (q9tE x).length)
                  rw [ag.ev (okz j.2 (by omega) (by omega)), ag.ev (okz 0 (by omega) (by omega)), q9up_at, q9zero_ev h0 (q9zero_at d1), q9zero_ev h0 (q9zero_at d1), q9exop_hi (by decide)]
                  exact hM9.2 j.2 d3 d4 u e6
                · cases hq
              · exact (hM.fresh hw (q9ty_any (xs u.toNatClampNeg))).2.2.2.2.2.2.2 q hq
            have kk9 := hn _ ag (by show _ ≤ (q9tE x ++ [_]).length; rw [List.length_append]; omega) ⟨fun z hz => by
              rcases List.mem_cons.mp hz with rfl | hz
              · exact ⟨u, by rw [ag.ev okj]; exact eu, q9up_at⟩
              · exact (hM9.agr hmm ag).1 z hz, (hM9.agr hmm ag).2⟩ G ws H locs ls _ (h9.S (((q9tE x).length, 0) :: rest)) hW
            rw [List.map_cons, q9ev_zero, q9up_at, ag.map okr] at kk9
            exact va_sld hx hb hX9 hbl hbA hW.2.2.1 hin hd kk9
        · cases hm
      · cases hm
    · cases hm
  · rename_i hd
    split at hm
    · rename_i a rest L9 hSt hGt
      split at hm
      · rename_i c1
        cases hm
        intro G ws H locs ls st hM hW
        have ea := q9gh_is0 hM c1 hg0
        have eL := q9gh_is0 hM hGt hg1
        have hst := hM.2.1
        rw [hSt, List.map_cons, ea] at hst
        rw [hst]
        have kk9 := hn r q9agr.rf (Nat.le_refl _) hM9 G ws H locs ls _ (hM.S (L9 :: rest)) hW
        rw [List.map_cons, eL] at kk9
        exact va_slen hx hb hX9 hbl hbA hW.2.2.1 hd kk9
      · cases hm
    · cases hm
  · cases hm
end CS
