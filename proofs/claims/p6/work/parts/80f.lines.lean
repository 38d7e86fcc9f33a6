/-! an array of objects that a loop fills with new ones -/
theorem q9keepW.far {Wr : List Nat} {G0 : q9GH} {ws0 ws : va_W} {p0 : Nat} {y : Nat × va_E} (h : q9keepW Wr G0 ws0 ws) (hp : G0.length ≤ p0) : q9keepW Wr G0 ws0 (ws.set p0 y) := by
  intro q a t n e hg he
  obtain ⟨e', h1, h2⟩ := h q a t n e hg he
  have := (List.getElem?_eq_some_iff.mp hg).1
  exact ⟨e', by rw [List.getElem?_set_ne (by omega)]; exact h1, h2⟩
/-- the loop's head after i rounds -/
noncomputable def q9liY (x : q9ST) (i a b : Nat) : q9ST := q9sNM (q9sL (q9sA x []) ((2, ((0, (i : Int)) : q9AV)) :: (q9tL x).filter (fun q => !(q.1 == 2)))) (q9tN x + i * a) (q9tM x + i * b)
noncomputable def q9idT (n : Nat) : List q9AV := (List.range n).map (fun k => (k, 0))
theorem q9idT_at {n k : Nat} (h : k < n) : (q9idT n).getD k (0, 0) = (k, 0) := by
  unfold q9idT
  rw [List.getD_eq_getElem?_getD, List.getElem?_map, List.getElem?_range h]
  rfl
/-- q9one round: to the store, and from it to the head -/
noncomputable def q9liR (st : Nat → q9ST → Option (List (Nat × q9ST))) (x : q9ST) (k a b hd sp i : Nat) : Bool :=
  q9wfB (q9liY x i a b) && (match q9seg st sp 40 hd (q9liY x i a b) with
  | some xa => q9wfB xa && (match q9tS xa with
    | v :: w :: u :: rest => (w == (0, (i : Int)) && (u == (k, 0) && (rest.isEmpty && (q9codeOf xa v.1 == some 2 && q9zeroB xa)))) && (match q9seg st hd 40 (sp + 1) (q9sA (q9sS xa []) []) with
       | some xc => q9wfB xc && (decide ((q9tE x).length ≤ (q9tE xa).length) && q9fitsB xc (q9liY x (i + 1) a b) (q9idT (q9tE x).length))
       | none => false)
    | _ => false)
  | none => false)
noncomputable def q9nW (n : q9EN) : q9EN := (n.1, n.2.1, n.2.2.1, [], n.2.2.2.2)
/-- what is known of the array after i rounds -/
noncomputable def q9LI (cT : Nat → ClassId) (p0 q0 N : Nat) (G : q9GH) (ws : va_W) (i : Nat) : Prop := ∃ f : Nat → Option Nat, ws[p0]? = some (q0, .inl (cT 6, N, .inr (.inr (.inr (.inr f))))) ∧ ∀ j, j < i → ∃ b9 n9 : Nat, f j = some b9 ∧ (b9, 2, n9) ∈ G
section LIN
variable {p : Program} {l : Launch} {e : Env} {R : Room} {ko : Nat × Nat} {s : State} {m : MethodId} {args : Array Value} {below : List Frame} {meth : Method} {c : Code} {Q : State → Prop} {cc : ByteArray}
variable {g : List Value} {D : va_G} {cT : Nat → ClassId} {B : q9TB} {A : Nat → Prop} {H0 : Heap} {G0 : q9GH} {ws0 : va_W}
theorem q9LI.keep {p0 q0 N c0 i : Nat} {G G' : q9GH} {ws ws' : va_W} (h : q9LI cT p0 q0 N G ws i) (hp : G[p0]? = some (q0, c0, N)) (hX : q9extG G G') (hK : q9keepW [] G ws ws') : q9LI cT p0 q0 N G' ws' i := by
  obtain ⟨f, h1, h2⟩ := h
  obtain ⟨e', h3, h4⟩ := hK p0 q0 c0 N _ hp h1
  refine ⟨f, ?_, fun j hj => ?_⟩
  · match e', h3, h4 with
    | .inl y, h3, h4 =>
      have h4 : 100000 + c0 ∉ ([] : List Nat) → y = _ := h4
      rw [h4 List.not_mem_nil] at h3
      exact h3
    | .inr (_, _), h3, h4 => exact h4.elim
  · obtain ⟨b9, n9, e1, e2⟩ := h2 j hj
    exact ⟨b9, n9, e1, hX.mem _ e2⟩
theorem q9liL {own : String} {n : q9EN} {K K2 : List (Nat × Int)} {z0 : q9ZZ} (hE : q9EV p l R ko s m args c cc D cT A H0 G0 own q9ALLW n K K2 z0) {st : Nat → q9ST → Option (List (Nat × q9ST))}
    (hst : ∀ (G : q9GH) (ws : va_W), q9extG G0 G → ∀ (pc : Nat) (x : q9ST) (ss : List (Nat × q9ST)) (r : Nat → Value), q9wfB x = true → st pc x = some ss → q9NX p l e R ko s m args below meth c Q (q9eN n) g (q9WM D cT (q9eB n) A H0 G ws []) ss x r → q9GO p l e R ko s m args below meth c Q (q9eN n) g (q9WM D cT (q9eB n) A H0 G ws []) pc x r)
    {x : q9ST} {rr : Nat → Value} {k a b hd sp N c0 p0 q0 : Nat} (hkl : k < (q9tE x).length) (hN : N ≤ 1000) (hc0 : 100 ≤ c0) (hK0 : (q9eB n).2.1[c0 - 100]? = some (6, N, true, (3, 2, 0))) (hp0 : G0.length ≤ p0)
    (hdg : decode cc sp = .ok (.aastore, 1)) (hall : ∀ i, i < N → q9liR st x k a b hd sp i = true)
    (hfin : ∀ (G : q9GH) (ws : va_W) (H : Heap) (locs : List Loc) (ls : Array Slot) (st9 : List Value) (r' : Nat → Value), q9SM (q9eN n) g (q9liY x N a b) r' G ws ls st9 → va_P D vwCl ws H → va_D A ws → va_S A H0 H locs → q9tyW cT (q9eB n) G ws → q9extG G0 G → q9keepW (q9eW n) G0 ws0 ws → G[p0]? = some (q0, c0, N) → q9LI cT p0 q0 N G ws N → r' k = .ref q0 → q9agr (q9tE x).length rr r' → W p l e R s m args below meth c H locs (ko.1 + q9tN (q9liY x N a b)) (ko.2 + q9tM (q9liY x N a b)) Q (F0 m hd ls st9)) :
    ∀ (d i : Nat), i + d = N → ∀ (G : q9GH) (ws : va_W) (H : Heap) (locs : List Loc) (ls : Array Slot) (st9 : List Value) (r' : Nat → Value), q9SM (q9eN n) g (q9liY x i a b) r' G ws ls st9 → va_P D vwCl ws H → va_D A ws → va_S A H0 H locs → q9tyW cT (q9eB n) G ws → q9extG G0 G → q9keepW (q9eW n) G0 ws0 ws → G[p0]? = some (q0, c0, N) → q9LI cT p0 q0 N G ws i → r' k = .ref q0 → q9agr (q9tE x).length rr r' → W p l e R s m args below meth c H locs (ko.1 + q9tN (q9liY x i a b)) (ko.2 + q9tM (q9liY x i a b)) Q (F0 m hd ls st9)
  | 0, i, hi, G, ws, H, locs, ls, st9, r', hM, hP, hD, hS, hTy, hX, hKe, hp, hLI, hk, hag => by
    have hi : i = N := by omega
    subst hi
    exact hfin G ws H locs ls st9 r' hM hP hD hS hTy hX hKe hp hLI hk hag
  | d + 1, i, hi, G, ws, H, locs, ls, st9, r', hM, hP, hD, hS, hTy, hX, hKe, hp, hLI, hk, hag => by
    have hr := hall i (by omega)
    have hE' := hE
    obtain ⟨hx, hb, hml, hown, hts, hAll, hK, hGw, hZ, hA, hF9, hPp, hV, hS9, hR, h6, h7, h8, h9, hH0, hZz, hzG⟩ := hE'
    unfold q9liR at hr
    rw [Bool.and_eq_true] at hr
    obtain ⟨hwy, hr⟩ := hr
    split at hr
    · rename_i xa hsa
      rw [Bool.and_eq_true] at hr
      obtain ⟨hwa, hr⟩ := hr
      split at hr
      · rename_i v w u rest hTS
        rw [Bool.and_eq_true] at hr
        obtain ⟨hc, hr⟩ := hr
        simp only [Bool.and_eq_true, beq_iff_eq, List.isEmpty_iff] at hc
        obtain ⟨c1, c2, c3, c4, c5⟩ := hc
        split at hr
        · rename_i xc hsc
          simp only [Bool.and_eq_true, decide_eq_true_eq] at hr
          obtain ⟨hwc, hla, hfit⟩ := hr
          refine q9seg_ok (hst G ws hX) 40 hd (q9liY x i a b) xa r' hsa (fun r2 ha2 hl2 => ?_) G ws H locs ls st9 hM ⟨hP, hD, hS, hTy, q9extG.rf, q9keepW.rf⟩
          intro G2 ws2 H2 locs2 ls2 st2 hM2 hW2
          obtain ⟨hP2, hD2, hS2, hTy2, hX2, hKe2⟩ := hW2
          have hp2 : G2[p0]? = some (q0, c0, N) := hX2.at hp
          obtain ⟨f, hf1, hf2⟩ := hLI.keep hp hX2 hKe2
          obtain ⟨b9, n9, eb, hm9⟩ := q9codeOf_ok hM2.2.2.2.1 c4
          obtain ⟨qk, ez, w1, w2, w3⟩ := hTy2.at hm9
          have ev1 : q9ev r2 v = .ref b9 := by
            unfold q9ev
            rw [eb]
          have ev2 : q9ev r2 w = .int (Int32.ofInt (i : Int)) := by
            rw [c1]
            exact q9zero_ev hM2.2.2.2.1 (q9zero_at c5) _
          have hk2 : r2 k = .ref q0 := (ha2 k hkl).trans hk
          have ev3 : q9ev r2 u = .ref q0 := by
            rw [c2, q9ev_zero]
            exact hk2
          have ei : (Int32.ofInt (i : Int)).toInt = i := Int32.toInt_ofInt_of_le (by omega) (by omega)
          have ei' : (Int32.ofInt (i : Int)).toNatClampNeg = i := by
            show (Int32.ofInt (i : Int)).toInt.toNat = i
            rw [ei]
            omega
          have hin : vp_in (Int32.ofInt (i : Int)) N := by
            unfold vp_in
            rw [Int32.lt_iff_toInt_lt, Int32.toInt_zero, ei, ei']
            omega
          have hst2 := hM2.2.1
          rw [hTS, List.map_cons, List.map_cons, List.map_cons, c3, ev1, ev2, ev3] at hst2
          rw [hst2]
          obtain ⟨rc, g1, g2⟩ := (h6 _ (List.mem_of_getElem? hK0)).2 (by decide : 4 ≤ 6)
          rcases w3 with ⟨-, vs, F, f1, -⟩ | ⟨hh, -⟩
          case inr => omega
          subst f1
          refine va_astq hx hb hK hP2 hD2 hS2 p0 6 qk 2 hf1 g2 w2 g1 hin hdg fun H3 locs3 hP3 hD3 hS3 => ?_
          rw [ei'] at hP3 hD3
          -- the world with the new line
          obtain ⟨e0, z1, z2⟩ := hTy2.2.1 p0 q0 c0 N hp2
          rw [hf1] at z1
          cases z1
          have hTy3 : q9tyW cT (q9eB n) G2 (ws2.set p0 (q0, .inl (cT 6, N, .inr (.inr (.inr (.inr (va_up f i (some b9)))))))) := by
            refine hTy2.set hp2 ?_
            rcases z2 with ⟨hh, -⟩ | ⟨-, K9, k1, k2⟩
            · omega
            · rw [hK0] at k1
              cases k1
              exact .inr ⟨hc0, _, hK0, q9upE_ty (i := i) (v := .ref b9) k2 (.inr ⟨b9, n9, rfl, hm9⟩)⟩
          have hM3 : q9SM (q9eN n) g (q9sA (q9sS xa []) []) r2 G2 (ws2.set p0 (q0, .inl (cT 6, N, .inr (.inr (.inr (.inr (va_up f i (some b9)))))))) ls2 [] := by
            refine ⟨hM2.1, rfl, hM2.2.2.1, hM2.2.2.2.1, fun z hz => ?_, fun z hz => (List.not_mem_nil hz).elim, hM2.2.2.2.2.2.2⟩
            have h9 := hM2.2.2.2.2.1 z hz
            unfold q9FMok at h9 ⊢
            split
            · rename_i h0
              rw [if_pos h0] at h9
              exact h9
            · rename_i h0
              rw [if_neg h0] at h9
              obtain ⟨b', i', ci', fs', e1, e2, e3⟩ := h9
              refine ⟨b', i', ci', fs', e1, ?_, e3⟩
              by_cases hii : i' = p0
              · subst hii
                rw [hf1] at e2
                cases e2
              · rw [List.getElem?_set_ne (fun y => hii y.symm)]
                exact e2
          have hrest : rest = [] := c3
          have key := q9seg_ok (hst G2 (ws2.set p0 (q0, .inl (cT 6, N, .inr (.inr (.inr (.inr (va_up f i (some b9)))))))) (hX.tr hX2)) 40 (sp + 1) (q9sA (q9sS xa []) []) xc r2 hsc (fun r3 ha3 hl3 => by
            intro G4 ws4 H4 locs4 ls4 st4 hM4 hW4
            obtain ⟨hP4, hD4, hS4, hTy4, hX4, hKe4⟩ := hW4
            obtain ⟨hMy, hn1, hn2⟩ := q9fits_cut hM4 hfit
            have hlen : (q9tE (q9liY x i a b)).length = (q9tE x).length := rfl
            have hla' : (q9tE (q9sA (q9sS xa []) [])).length = (q9tE xa).length := rfl
            rw [hlen] at ha2
            rw [hla'] at ha3
            have hrh : q9agr (q9tE x).length r3 (q9rh r3 (q9idT (q9tE x).length)) := fun q hq => by
              unfold q9rh
              rw [q9idT_at hq, q9ev_zero]
            have hag4 : q9agr (q9tE x).length r' (q9rh r3 (q9idT (q9tE x).length)) := (ha2.tr ha3 hla).tr hrh (Nat.le_refl _)
            have hLI3 : q9LI cT p0 q0 N G2 (ws2.set p0 (q0, .inl (cT 6, N, .inr (.inr (.inr (.inr (va_up f i (some b9)))))))) (i + 1) := by
              refine ⟨va_up f i (some b9), List.getElem?_set_self (List.getElem?_eq_some_iff.mp hf1).1, fun j hj => ?_⟩
              by_cases hji : j = i
              · subst hji
                exact ⟨b9, n9, va_up_self _ _ _, hm9⟩
              · obtain ⟨b8, n8, y1, y2⟩ := hf2 j (by omega)
                exact ⟨b8, n8, by rw [va_up_ne _ _ hji]; exact y1, y2⟩
            have kk := q9liL hE hst hkl hN hc0 hK0 hp0 hdg hall hfin d (i + 1) (by omega) G4 ws4 H4 locs4 ls4 st4 _ hMy hP4 hD4 hS4 hTy4 ((hX.tr hX2).tr hX4) (((hKe.tr hX (hKe2.wk fun _ hq => (List.not_mem_nil hq).elim)).far hp0).tr (hX.tr hX2) (hKe4.wk fun _ hq => (List.not_mem_nil hq).elim)) (hX4.at hp2) (hLI3.keep hp2 hX4 hKe4) ((hag4 k hkl).trans hk) (hag.tr hag4 (Nat.le_refl _))
            exact W.widen (by omega) (by omega) kk) G2 _ H3 locs3 ls2 [] hM3 ⟨hP3, hD3, hS3, hTy3, q9extG.rf, q9keepW.rf⟩
          exact key
        · cases hr
      · cases hr
    · cases hr
end LIN
