variable {O : ORC}
/-! a constructor's call; 'new' to behind it -/
noncomputable def q9hdR (E : List q9ET) : List q9AV → Bool
  | a :: _ => q9refB E a.1
  | [] => false
noncomputable def q9exI_o (n : q9EN) (x : q9ST) (q : q9CE) (pc : Nat) : Option (List (Nat × q9ST)) :=
  let i := q.2.2.2
  let k := (q9tL (q9iPre i)).length
  if k ≤ (q9tS x).length then
    let as := ((q9tS x).take k).reverse
    let rest := (q9tS x).drop k
    match q9mkT (q9sL x (q9numL (q9tE x) 0 as)) (q9iPd i) [] with
    | none => none
    | some th =>
      let gs := (q9tG (q9iPre i)).map (q9sh th)
      if q9fits0 (q9sNM (q9sG (q9sS (q9sL x []) []) gs) 0 0) (q9iPre i) th && ((q9tL (q9iPre i)).map (fun z => q9sh th z.2) == as && ((q9tS (q9iPre i)).isEmpty && (decide (q9iFr i + 1 ≤ (q9eR n).1) && (decide (8 + (q9iL i + 11) + q9iLc i ≤ (q9eR n).2.1) && (decide (q9tN x + q9iMc i ≤ (q9eR n).2.2.1) && (decide (q9tM x + q9iMs i ≤ (q9eR n).2.2.2) && (decide (q9catS (q9tE x) rest ≤ 8) &&
          ((q9iW i).all (fun z => (q9eW n).elem z) && (gs.all (q9okAV (q9tE x)) && (q9hdR (q9tE x) as && ((q9iThr i).isEmpty && (q9iHh i).isEmpty))))))))))) then
        q9inhs gs (q9iW i) (q9sS x rest) (pc + 3) (q9iPost i)
      else none
  else none
noncomputable def q9exI (n : q9EN) (x : q9ST) (q : q9CE) (pc : Nat) : Option (List (Nat × q9ST)) :=
  let i := q.2.2.2
  let k := (q9ln9 (q9tL (q9iPre i)))
  bif q9le9 (k) ((q9ln9 (q9tS x))) then
    let as := ((q9tS x).take k).reverse
    let rest := (q9tS x).drop k
    match q9mkT (q9sL x (q9numL (q9tE x) 0 as)) (q9iPd i) [] with
    | none => none
    | some th =>
      let gs := (q9tG (q9iPre i)).map (q9sh th)
      if q9nd9 (q9fits0 (q9sNM (q9sG (q9sS (q9sL x []) []) gs) 0 0) (q9iPre i) th) ((q9nd9 (q9eq9 ((q9tL (q9iPre i)).map (fun z => q9sh th z.2)) (as)) ((q9nd9 ((q9tS (q9iPre i)).isEmpty) ((q9nd9 ((q9le9 (q9iFr i + 1) ((q9eR n).1))) ((q9nd9 ((q9le9 (8 + (q9iL i + 11) + q9iLc i) ((q9eR n).2.1))) ((q9nd9 ((q9le9 (q9tN x + q9iMc i) ((q9eR n).2.2.1))) ((q9nd9 ((q9le9 (q9tM x + q9iMs i) ((q9eR n).2.2.2))) ((q9nd9 ((q9le9 (q9catS (q9tE x) rest) (8))) ((q9nd9 (q9al9 (q9iW i) (fun z => q9el9 (q9eW n) z)) ((q9nd9 (q9al9 gs (q9okAV (q9tE x))) ((q9nd9 (q9hdR (q9tE x) as) ((q9nd9 ((q9iThr i).isEmpty) ((q9iHh i).isEmpty))))))))))))))))))))))) then
        q9inhs gs (q9iW i) (q9sS x rest) (pc + 3) (q9iPost i)
      else none
  else none
theorem q9exI_oq : @q9exI = @q9exI_o := by
  delta q9exI q9exI_o
  simp only [q9ge9_eq, q9fi9_eq, q9an9_eq, q9al9_eq, q9flt9_eq, q9el9_eq, q9set9_eq, q9ln9_eq, q9gD9_eq, q9ap9_eq, q9eq9_N, q9eq9_I, q9eq9_A, q9eq9_E, q9eq9_OI, q9eq9_ON, q9eq9_OA, q9eq9_L, q9eq9_S, q9de9_N, q9de9_I, q9de9_A, q9le9_N, q9le9_I, q9lt9_N, q9lt9_I, q9de9_E, q9de9_OI, q9de9_ON, q9de9_OA, q9de9_L, q9nd9_eq, q9or9_eq, Bool.cond_decide]
noncomputable def q9LKi (own : String) (q : q9CE) : Prop :=
  GoodIn q9ALLW [.code (q9iY q.2.2.2) (q9iC q.2.2.2) (q9iL q.2.2.2) none, .initialized (q9iY q.2.2.2).cls, .instanceMethod (q9iY q.2.2.2)] ∧ q9iR q.2.2.2 = none ∧ (q9iY q.2.2.2).name = "<init>" ∧ ((q9iY q.2.2.2).cls ≠ "java/lang/invoke/MethodHandle" ∧ (q9iY q.2.2.2).cls ≠ "java/lang/invoke/VarHandle" ∧ (parseMethodDescriptor (q9iY q.2.2.2).desc).map (fun d => d.parameters.length) = some ((q9tL (q9iPre q.2.2.2)).length - 1)) ∧
  match q.2.1 with
  | 0 => GoodIn q9ALLW [.methodLink own q.1 (q9iY q.2.2.2)]
  | _ => (own, q.1, q9iY q.2.2.2) ∈ gwN
section NEWM
variable {p : Program} {l : Launch} {e : Env} {R : Room} {ko : Nat × Nat} {s : State} {m : MethodId} {args : Array Value} {below : List Frame} {meth : Method} {c : Code} {Q : State → Prop} {cc : ByteArray}
variable {g : List Value} {D : va_G} {cT : Nat → ClassId} {A : Nat → Prop} {H0 : Heap} {G0 : q9GH} {ws0 : va_W}
theorem q9exI_ok {own : String} {n : q9EN} {K K2 : List (Nat × Int)} {z0 : q9ZZ} (hE : q9EV O p l R ko s m args c cc D cT A H0 G0 own q9ALLW n K K2 z0) {q : q9CE} (hCon : q9CON O l (q9eB n) q9ALLW q.2.2.2) (hLK : q9LKi own q) {x : q9ST} {r : Nat → Value} {pc : Nat} {ss : List (Nat × q9ST)} (hw : q9wfB x = true) (hdg : decode cc pc = .ok (.invokespecial q.1, 3))
    (h : q9exI n x q pc = some ss) (hn : q9NX O p l e R ko s m args below meth c Q (q9eN n) g (q9WM D cT (q9eB n) A H0 G0 ws0 (q9eW n)) ss x r) : q9GO O p l e R ko s m args below meth c Q (q9eN n) g (q9WM D cT (q9eB n) A H0 G0 ws0 (q9eW n)) pc x r := by
  obtain ⟨hx, hb, hml, hown, hts, hAll, hK, hG, hZ, hA, hF9, hPp, hV, hS9, hR, h6, h7, h8, h9, hH0, hZz, hzG⟩ := hE
  (rewrite [q9exI_oq] at h; unfold q9exI_o at h)
  dsimp only at h
  split at h
  · rename_i hnl
    split at h
    · cases h
    · rename_i th hth
      split at h
      · rename_i hc
        generalize has : ((q9tS x).take (q9tL (q9iPre q.2.2.2)).length).reverse = as at h hc hth
        generalize hrest : (q9tS x).drop (q9tL (q9iPre q.2.2.2)).length = rest at h hc
        simp only [Bool.and_eq_true, beq_iff_eq, decide_eq_true_eq, List.all_eq_true, List.isEmpty_iff] at hc
        obtain ⟨c1, c2, c3, c4, c5, c6, c7, q9c8, c9, c10, c11, c12, c13⟩ := hc
        have hS : q9tS x = as.reverse ++ rest := by rw [← has, ← hrest, List.reverse_reverse, List.take_append_drop]
        have hlen : as.length = (q9tL (q9iPre q.2.2.2)).length := by
          rw [← has, List.length_reverse, List.length_take]
          omega
        have okas : ∀ a ∈ as, q9okAV (q9tE x) a = true := fun a ha => q9wf_S hw a (by rw [hS]; exact List.mem_append_left _ (List.mem_reverse.mpr ha))
        have okrest : ∀ a ∈ rest, q9okAV (q9tE x) a = true := fun a ha => q9wf_S hw a (by rw [hS]; exact List.mem_append_right _ ha)
        intro G ws H locs ls st hM hW
        obtain ⟨hP, hD, hSv, hTy, hX, hKe⟩ := hW
        have hMa : q9SM O 0 (((q9tG (q9iPre q.2.2.2)).map (q9sh th)).map (q9ev r)) (q9sNM (q9sG (q9sS (q9sL x []) []) ((q9tG (q9iPre q.2.2.2)).map (q9sh th))) 0 0) r G ws #[] [] := ⟨q9lv_nil, rfl, rfl, hM.2.2.2⟩
        obtain ⟨hSR, -, -⟩ := q9fits_ok hMa c1
        have hgg : ((q9tG (q9iPre q.2.2.2)).map (q9sh th)).map (q9ev r) = (q9tG (q9iPre q.2.2.2)).map (q9ev (q9rh r th)) := hSR.2.1
        have hSR' := hSR
        rw [hgg] at hSR'
        have hzz : True := hzG
        have hMet := (hCon D cT G ws H.size (q9rh r th) z0 hTy hSR' hzz trivial).1 c12
        have hav : ((q9tL (q9iPre q.2.2.2)).map fun z => q9ev (q9rh r th) z.2) = as.map (q9ev r) := by
          rw [← c2, List.map_map]
          exact List.map_congr_left fun z _ => q9sh_ev z.2
        rw [hav, ← hgg] at hMet
        have hF : ∀ z, va_A ws H.size z → A z := by
          intro z hz
          rcases hz with ⟨k, e9, hk⟩ | hz
          · exact hD.2 k _ hk
          · exact hA z (Nat.le_trans hSv.1 hz)
        have hPZ : ∀ U : State, U.heap = H → s.WarmedH U.vm → PZ D cT ws H.size U := fun U hU hW9 =>
          ⟨⟨by rw [hU], by rw [hU]; exact hP, va_K.moved hW9.alike hK, hD.weaken (fun _ _ _ _ => trivial), GW.warm hW9 hG⟩, by rw [hU]; exact hZ.go hSv hW9.alike hF⟩
        have hPS : ∀ U : State, U.heap = H → s.WarmedH U.vm → q9PSd z0 D cT ws H.size U := fun U hU hW9 => ⟨hPZ U hU hW9, by rw [hU]; exact hZz.go hSv hW9 hF⟩
        have hst := hM.2.1
        rw [hS, List.map_append, List.map_reverse] at hst
        have hls : ls.size = q9eN n := hM.1.1
        have hcat : ((rest.map (q9ev r)).map fun v => v.category).sum ≤ 8 := Nat.le_trans (q9catS_ok hM.2.2.2.1 rest okrest) q9c8
        have hrm : (q9iRm q.2.2.2).frames + 1 ≤ R.frames ∧ 8 + (q9iL q.2.2.2 + 11) + (q9iRm q.2.2.2).locals ≤ R.locals := ⟨Nat.le_trans c4 hR.1, Nat.le_trans c5 hR.2.1⟩
        have hfit : ko.1 + q9tN x + q9iMc q.2.2.2 ≤ R.cells ∧ ko.2 + q9tM x + q9iMs q.2.2.2 ≤ R.slots := ⟨by have := hR.2.2.1; omega, by have := hR.2.2.2; omega⟩
        obtain ⟨hk1, hkR, hkn, hk2, hk3⟩ := hLK
        have hcw : q9iCw q.2.2.2 :: q9ALLW = Cond.code (q9iY q.2.2.2) (q9iC q.2.2.2) (q9iL q.2.2.2) none :: q9ALLW := by
          unfold q9iCw
          rw [if_pos c13, hkR]
        rw [hcw] at hMet
        have hgood : GoodIn q9ALLW (Cond.code (q9iY q.2.2.2) (q9iC q.2.2.2) (q9iL q.2.2.2) none :: q9ALLW) := fun w hw9 => by
          rcases List.mem_cons.mp hw9 with rfl | hw9
          · exact hk1 _ List.mem_cons_self
          · exact hAll w hw9
        have hini : (Cond.initialized (q9iY q.2.2.2).cls).before args s = true := hts _ (hk1 _ (by simp)).1
        have hinm : (Cond.instanceMethod (q9iY q.2.2.2)).before args s = true := hts _ (hk1 _ (by simp)).1
        have hrun : va_Run p l e R s m args below meth c H locs (ko.1 + q9tN x) (ko.2 + q9tM x) (q9iMc q.2.2.2) (q9iMs q.2.2.2) (F0 m pc ls st) (rest.map (q9ev r)) (q9QV (q9POST O D cT (q9eB n) (q9iW q.2.2.2) G ws (va_A ws H.size) (((q9tG (q9iPre q.2.2.2)).map (q9sh th)).map (q9ev r)) (q9iPost q.2.2.2)) (va_A ws H.size) (as.map (q9ev r)).toArray) (va_A ws H.size) := by
          match as, c11, hav, hlen, hst, hMet, okas with
          | a0 :: as', c11, hav, hlen, hst, hMet, okas =>
            have c11 : q9refB (q9tE x) a0.1 = true := c11
            (rewrite [q9refB_oq] at c11; unfold q9refB_o at c11)
            cases hE9 : (q9tE x)[a0.1]? with
            | none => rw [hE9] at c11; cases c11
            | some t =>
              rw [hE9] at c11
              obtain ⟨tk, lo, hi⟩ := t
              have h0 : tk = 2 := by simpa using c11
              subst h0
              obtain ⟨-, b, nb, eb, -⟩ := q9ev_ref hM.2.2.2.1 hE9 (by simp)
              rw [List.map_cons, eb] at hMet hst ⊢
              have hl8 : (as'.map (q9ev r)).length = (q9tL (q9iPre q.2.2.2)).length - 1 := by
                rw [List.length_map]
                rw [List.length_cons] at hlen
                omega
              have hs8 : (F0 m pc ls st).stack = (as'.map (q9ev r)).reverse ++ .ref b :: rest.map (q9ev r) := by
                show st = _
                rw [hst]
                simp
              have hpre : PreS s H (va_Pc (Value.ref b :: as'.map (q9ev r)) (q9PSd z0 D cT ws H.size)) (Value.ref b :: as'.map (q9ev r)) := ⟨q9ps_blind, fun U hU hW9 => ⟨rfl, hPS U hU hW9⟩⟩
              have hk3' : (q.2.1 = 0 ∧ GoodIn q9ALLW [.methodLink own q.1 (q9iY q.2.2.2)]) ∨ va_Nw (.methodLinkNest own q.1 (q9iY q.2.2.2) RX11) s := by
                match hq : q.2.1, hk3 with
                | 0, hk3 => exact .inl ⟨rfl, hk3⟩
                | _ + 1, hk3 => exact .inr (hG.1 _ hk3)
              rcases hk3' with ⟨-, hk3⟩ | hk3
              · exact va_runI (As := as'.map (q9ev r)) (b := b) ⟨hx, hb, hml, hown, hts⟩ hMet (cwI _ hts hgood rfl rfl rfl hini (hts _ (hk3 _ (by simp)).1) hinm hkn hk2 hrm) hpre rfl hl8 hls hs8 (lv_room hcat) hdg hfit
              · exact va_runIN (As := as'.map (q9ev r)) (b := b) ⟨hx, hb, hml, hown, hts⟩ hMet ⟨va_cnB _ hts hgood rfl rfl rfl hk3 hini hk2 hrm, hkn, hinm⟩ hpre rfl hl8 hls hs8 (lv_room hcat) hdg hfit
        refine q9va_callG hrun hSv (fun z _ hz => hF z hz) hF ?_
        intro v st9 t H1 locs1 hst9 ht hpost hle hfr hS1
        obtain ⟨G', ws', r', qc, p1, p2, p3, p4, p5, p6, p7, p8⟩ := hpost
        rw [hst9, ht] at p8
        refine ⟨q9tN qc.1, q9tM qc.1, p8, ?_⟩
        obtain ⟨o, o1, o2⟩ := q9inhs_mem h qc p1
        have hMr : q9SM O (q9eN n) g (q9sS x rest) r G ws ls (rest.map (q9ev r)) := hM.S rest
        obtain ⟨x', vs, r2, y1, y2, y3, y4, y5, y6, y7, y8⟩ := q9inh_ok hMr hTy hD p2 p6 p7 o1
        have hmem := o2 x' vs y1
        have y6 : q9tS x' = rest := y6
        have y7 : q9tN x' = q9tN x := y7
        have y8 : q9tM x' = q9tM x := y8
        have y2 : q9agr (q9tE x).length r r2 := y2
        have kk := hn _ hmem r2 y2 y3 G' ws' H1 locs1 ls _ ((y4.S (vs ++ q9tS x')).NM _ _) ⟨by rw [← ht]; exact p3, p4.weaken (fun k z _ hz => hF _ hz), hS1, p5, hX.tr p2, hKe.tr hX (p6.wk fun z hz => List.elem_iff.mp (c9 z hz))⟩
        rw [List.map_append, ← y5, y6, y2.map okrest] at kk
        have kk : W p l e R s m args below meth c H1 locs1 (ko.1 + (q9tN x' + q9tN qc.1)) (ko.2 + (q9tM x' + q9tM qc.1)) Q (F0 m (pc + 3) ls (v.toList ++ rest.map (q9ev r))) := kk
        rw [y7, y8, ← Nat.add_assoc, ← Nat.add_assoc] at kk
        exact kk
      · cases h
  · cases h
/-- straight on to a place -/
noncomputable def q9seg (st : Nat → q9ST → Option (List (Nat × q9ST))) (target : Nat) : Nat → Nat → q9ST → Option q9ST
  | 0, _, _ => none
  | f + 1, pc, x => if pc = target then some x else if q9wfQ x then (match st pc x with
    | some [q] => q9seg st target f q.1 q.2
    | _ => none) else none
theorem q9seg_ok {nL : Nat} {WP : q9GH → va_W → Heap → List Loc → Prop} {st : Nat → q9ST → Option (List (Nat × q9ST))} {target : Nat} (hst : ∀ (pc : Nat) (x : q9ST) (ss : List (Nat × q9ST)) (r : Nat → Value), q9wfB x = true → st pc x = some ss → q9NX O p l e R ko s m args below meth c Q nL g WP ss x r → q9GO O p l e R ko s m args below meth c Q nL g WP pc x r) : ∀ (f pc : Nat) (x x2 : q9ST) (r : Nat → Value), q9seg st target f pc x = some x2 → (∀ r', q9agr (q9tE x).length r r' → (q9tE x).length ≤ (q9tE x2).length → q9GO O p l e R ko s m args below meth c Q nL g WP target x2 r') → q9GO O p l e R ko s m args below meth c Q nL g WP pc x r
  | 0, _, _, _, _, h, _ => by cases h
  | f + 1, pc, x, x2, r, h, hk => by
    unfold q9seg at h
    split at h
    · rename_i hp
      cases h
      subst hp
      exact hk r q9agr.rf (Nat.le_refl _)
    · split at h
      · rename_i hw
        have hw := q9wfQ_ok hw
        split at h
        · rename_i q hq
          refine hst pc x _ r hw hq fun q' hq' r' ha hl => ?_
          rw [List.mem_singleton] at hq'
          subst hq'
          exact q9seg_ok hst f q'.1 q'.2 x2 r' h fun r2 ha2 hl2 => hk r2 (ha.tr ha2 hl) (Nat.le_trans hl hl2)
        · cases h
      · cases h
/-- an object's fields as 'new' leaves them -/
noncomputable def q9dflF (k nul : Nat) : List q9ET → Nat → List (Nat × Nat × q9AV)
  | [], _ => []
  | t :: ts, j => (if t.1 = 0 then [(k, j, ((0, 0) : q9AV))] else if t.1 = 3 ∨ t.1 = 6 then [(k, j, ((nul, 0) : q9AV))] else []) ++ q9dflF k nul ts (j + 1)
noncomputable def q9dflV (t : q9ET) : Value := if t.1 = 0 then .int 0 else if t.1 = 1 then .long 0 else .null
noncomputable def q9dflB_o (t : q9ET) : Bool := (t.1 == 0 && (decide (t.2.1 ≤ 0) && decide (0 ≤ t.2.2))) || ((t.1 == 1 && (decide (t.2.1 ≤ 0) && decide (0 ≤ t.2.2))) || (t.1 == 3 || t.1 == 6))
noncomputable def q9dflB (t : q9ET) : Bool := q9or9 ((q9nd9 (q9eq9 (t.1) (0)) ((q9nd9 ((q9le9 (t.2.1) (0))) ((q9le9 (0) (t.2.2))))))) ((q9or9 ((q9nd9 (q9eq9 (t.1) (1)) ((q9nd9 ((q9le9 (t.2.1) (0))) ((q9le9 (0) (t.2.2))))))) ((q9or9 (q9eq9 (t.1) (3)) (q9eq9 (t.1) (6))))))
theorem q9dflB_oq : @q9dflB = @q9dflB_o := by
  delta q9dflB q9dflB_o
  simp only [q9ge9_eq, q9fi9_eq, q9an9_eq, q9al9_eq, q9flt9_eq, q9el9_eq, q9set9_eq, q9ln9_eq, q9gD9_eq, q9ap9_eq, q9eq9_N, q9eq9_I, q9eq9_A, q9eq9_E, q9eq9_OI, q9eq9_ON, q9eq9_OA, q9eq9_L, q9eq9_S, q9de9_N, q9de9_I, q9de9_A, q9le9_N, q9le9_I, q9lt9_N, q9lt9_I, q9de9_E, q9de9_OI, q9de9_ON, q9de9_OA, q9de9_L, q9nd9_eq, q9or9_eq, Bool.cond_decide]
theorem q9dflB_ty {G : q9GH} {t : q9ET} (h : q9dflB t = true) : q9tyV G t (q9dflV t) := by
  obtain ⟨k, lo, hi⟩ := t
  (rewrite [q9dflB_oq] at h; unfold q9dflB_o at h)
  simp only [Bool.or_eq_true, Bool.and_eq_true, beq_iff_eq, decide_eq_true_eq] at h
  rcases h with ⟨h1, h2, h3⟩ | ⟨h1, h2, h3⟩ | h1 | h1
  · subst h1
    exact ⟨0, rfl, h2, h3⟩
  · subst h1
    exact ⟨0, rfl, h2, h3⟩
  · subst h1
    exact .inl rfl
  · subst h1
    exact .inl rfl
theorem q9dflF_mem {k nul : Nat} : ∀ {F : List q9ET} {j : Nat} {q : Nat × Nat × q9AV}, q ∈ q9dflF k nul F j → q.1 = k ∧ ∃ (i : Nat) (t : q9ET), F[i]? = some t ∧ q.2.1 = j + i ∧ ((t.1 = 0 ∧ q.2.2 = (0, 0)) ∨ ((t.1 = 3 ∨ t.1 = 6) ∧ q.2.2 = (nul, 0)))
  | [], _, _, h => by cases h
  | t :: F, j, q, h => by
    unfold q9dflF at h
    rcases List.mem_append.mp h with h | h
    · split at h
      · rename_i h0
        rw [List.mem_singleton] at h
        subst h
        exact ⟨rfl, 0, t, rfl, rfl, .inl ⟨h0, rfl⟩⟩
      · split at h
        · rename_i h0
          rw [List.mem_singleton] at h
          subst h
          exact ⟨rfl, 0, t, rfl, rfl, .inr ⟨h0, rfl⟩⟩
        · cases h
    · obtain ⟨h1, i, t', h2, h3, h4⟩ := q9dflF_mem h
      exact ⟨h1, i + 1, t', h2, by omega, h4⟩
/-- 'new C; dup': (place, place in the pool of C, sort, place of the constructor's call, the constructor) -/
noncomputable def q9newX (n : q9EN) (ci : Nat) (F : List q9ET) (x : q9ST) : q9ST :=
  let k := (q9tE x).length
  q9sNM (q9sS (q9sF (q9sE x (q9tE x ++ [(4, 0, 0), (2, ((20 + ci : Nat) : Int), 0)])) (q9dflF (k + 1) k F 0 ++ q9tF x)) ((k + 1, 0) :: (k + 1, 0) :: q9tS x)) (q9tN x + 1) (q9tM x + F.length)
noncomputable def q9retL (B : q9TB) (ci k : Nat) : List (Nat × q9ST) → Option (List (Nat × q9ST))
  | [] => some []
  | q :: qs => match q9ret1 B ci k q.2, q9retL B ci k qs with
    | some x', some ss => some ((q.1, x') :: ss)
    | _, _ => none
theorem q9retL_mem {B : q9TB} {ci k : Nat} : ∀ {qs ss : List (Nat × q9ST)}, q9retL B ci k qs = some ss → ∀ q ∈ qs, ∃ x', q9ret1 B ci k q.2 = some x' ∧ (q.1, x') ∈ ss
  | [], _, _, q, hq => by cases hq
  | q0 :: qs, ss, h, q, hq => by
    unfold q9retL at h
    split at h
    · rename_i x' ss' e1 e2
      cases h
      rcases List.mem_cons.mp hq with rfl | hq
      · exact ⟨x', e1, List.mem_cons_self⟩
      · obtain ⟨y, y1, y2⟩ := q9retL_mem e2 q hq
        exact ⟨y, y1, List.mem_cons_of_mem _ y2⟩
    · cases h
abbrev q9NE : Type := Nat × Nat × Nat × Nat × q9CE
noncomputable def q9newM_o (L : List q9NE) (n : q9EN) (K K2 : List (Nat × Int)) (cc : ByteArray) (pc : Nat) (x : q9ST) : Option (List (Nat × q9ST)) := match L.find? (fun z => z.1 == pc) with
  | some z => (match (q9eB n).1[20 + z.2.2.1]?, vwCl[z.2.2.1 % 20]? with
    | some F, some rc => if q9zeroB x = true ∧ F.length = rc.2.2 ∧ (20 + z.2.2.1) < 80 ∧ F.all q9dflB = true ∧ F.length < 1000 ∧ q9tN x + 1 ≤ (q9eR n).2.2.1 ∧ q9tM x + F.length ≤ (q9eR n).2.2.2 ∧ q9eT n = ([], []) ∧ q9wfB (q9newX n z.2.2.1 F x) = true then
        (match q9seg (q9step n K K2 (fun _ _ => none) (fun _ _ => false) cc) z.2.2.2.1 40 (pc + 4) (q9newX n z.2.2.1 F x) with
        | some x2 => if q9wfB x2 then (match q9exI n x2 z.2.2.2.2 z.2.2.2.1 with
          | some ss => q9retL (q9eB n) z.2.2.1 ((q9tE x).length + 1) ss
          | none => none) else none
        | none => none) else none
    | _, _ => none)
  | none => none
noncomputable def q9newM (L : List q9NE) (n : q9EN) (K K2 : List (Nat × Int)) (cc : ByteArray) (pc : Nat) (x : q9ST) : Option (List (Nat × q9ST)) := match q9fi9 L (fun z => q9eq9 (z.1) (pc)) with
  | some z => (match (q9ge9 (q9eB n).1 (20 + z.2.2.1)), (q9ge9 vwCl (z.2.2.1 % 20)) with
    | some F, some rc => if q9zeroB x = true ∧ (q9ln9 F) = rc.2.2 ∧ (20 + z.2.2.1) < 80 ∧ q9al9 F q9dflB = true ∧ (q9ln9 F) < 1000 ∧ q9tN x + 1 ≤ (q9eR n).2.2.1 ∧ q9tM x + (q9ln9 F) ≤ (q9eR n).2.2.2 ∧ q9eT n = ([], []) ∧ q9wfB (q9newX n z.2.2.1 F x) = true then
        (match q9seg (q9step n K K2 (fun _ _ => none) (fun _ _ => false) cc) z.2.2.2.1 40 (pc + 4) (q9newX n z.2.2.1 F x) with
        | some x2 => if q9wfB x2 then (match q9exI n x2 z.2.2.2.2 z.2.2.2.1 with
          | some ss => q9retL (q9eB n) z.2.2.1 ((q9ln9 (q9tE x)) + 1) ss
          | none => none) else none
        | none => none) else none
    | _, _ => none)
  | none => none
theorem q9newM_oq : @q9newM = @q9newM_o := by
  delta q9newM q9newM_o
  simp only [q9ge9_eq, q9fi9_eq, q9an9_eq, q9al9_eq, q9flt9_eq, q9el9_eq, q9set9_eq, q9ln9_eq, q9gD9_eq, q9ap9_eq, q9eq9_N, q9eq9_I, q9eq9_A, q9eq9_E, q9eq9_OI, q9eq9_ON, q9eq9_OA, q9eq9_L, q9eq9_S, q9de9_N, q9de9_I, q9de9_A, q9le9_N, q9le9_I, q9lt9_N, q9lt9_I, q9de9_E, q9de9_OI, q9de9_ON, q9de9_OA, q9de9_L, q9nd9_eq, q9or9_eq, Bool.cond_decide]
/-- a field's default, by its type -/
noncomputable def q9dflK_o (ty : FieldType) (t : q9ET) : Bool := match ty with
  | .long => t.1 == 1
  | .float => false
  | .double => false
  | .object _ => !(t.1 == 0) && !(t.1 == 1)
  | .array _ => !(t.1 == 0) && !(t.1 == 1)
  | _ => t.1 == 0
noncomputable def q9dflK (ty : FieldType) (t : q9ET) : Bool := match ty with
  | .long => q9eq9 (t.1) (1)
  | .float => false
  | .double => false
  | .object _ => q9nd9 (!(q9eq9 (t.1) (0))) (!(q9eq9 (t.1) (1)))
  | .array _ => q9nd9 (!(q9eq9 (t.1) (0))) (!(q9eq9 (t.1) (1)))
  | _ => q9eq9 (t.1) (0)
theorem q9dflK_oq : @q9dflK = @q9dflK_o := by
  delta q9dflK q9dflK_o
  simp only [q9ge9_eq, q9fi9_eq, q9an9_eq, q9al9_eq, q9flt9_eq, q9el9_eq, q9set9_eq, q9ln9_eq, q9gD9_eq, q9ap9_eq, q9eq9_N, q9eq9_I, q9eq9_A, q9eq9_E, q9eq9_OI, q9eq9_ON, q9eq9_OA, q9eq9_L, q9eq9_S, q9de9_N, q9de9_I, q9de9_A, q9le9_N, q9le9_I, q9lt9_N, q9lt9_I, q9de9_E, q9de9_OI, q9de9_ON, q9de9_OA, q9de9_L, q9nd9_eq, q9or9_eq, Bool.cond_decide]
noncomputable def q9dflAll (ty0 : Nat → FieldType) : Nat → List q9ET → Bool
  | _, [] => true
  | j, t :: ts => q9dflK (ty0 j) t && q9dflAll ty0 (j + 1) ts
theorem q9dflK_ok {ty : FieldType} {t : q9ET} (h : q9dflK ty t = true) : defaultValue ty = q9dflV t := by
  (rewrite [q9dflK_oq] at h; unfold q9dflK_o at h)
  unfold q9dflV
  cases ty <;> simp_all [defaultValue]
theorem q9dflAll_at {ty0 : Nat → FieldType} : ∀ {F : List q9ET} {j0 : Nat}, q9dflAll ty0 j0 F = true → ∀ (j : Nat) (t : q9ET), F[j]? = some t → q9dflK (ty0 (j0 + j)) t = true
  | [], _, _, j, t, ht => by simp at ht
  | u :: F, j0, h, j, t, ht => by
    unfold q9dflAll at h
    rw [Bool.and_eq_true] at h
    cases j with
    | zero =>
      cases ht
      exact h.1
    | succ j =>
      have := q9dflAll_at h.2 j t ht
      rw [show j0 + (j + 1) = j0 + 1 + j by omega]
      exact this
theorem q9dfl_ok {ty0 : Nat → FieldType} {F : List q9ET} {N : Nat} (h : (q9dflAll ty0 0 F && F.length == N) = true) : ∀ j, j < N → ∃ t, F[j]? = some t ∧ defaultValue (ty0 j) = q9dflV t := by
  intro j hj
  rw [Bool.and_eq_true, beq_iff_eq] at h
  have hl : j < F.length := by omega
  refine ⟨F[j], List.getElem?_eq_getElem hl, ?_⟩
  have := q9dflAll_at h.1 j F[j] (List.getElem?_eq_getElem hl)
  rw [Nat.zero_add] at this
  exact q9dflK_ok this
/-- what 'new' is sound by -/
noncomputable def q9NEok (O : ORC) (l : Launch) (own : String) (cc : ByteArray) (z : q9NE) : Prop := ∃ (C : String) (T : u_T) (N : Nat) (ty0 : Nat → FieldType), vwCl[z.2.2.1 % 20]? = some (C, T, N) ∧ (∀ w ∈ u_ws C T N, w ∈ q9ALLW) ∧ (∀ k, k < N → parseFieldDescriptor (T k).2.2.1 = some (ty0 k)) ∧ Cond.classLink own z.2.1 C ∈ q9ALLW ∧ Cond.instantiable C N ∈ q9ALLW ∧ Cond.initialized C ∈ q9ALLW ∧
  decode cc z.1 = .ok (.new z.2.1, 3) ∧ decode cc (z.1 + 3) = .ok (.dup, 1) ∧ decode cc z.2.2.2.1 = .ok (.invokespecial z.2.2.2.2.1, 3) ∧ q9CON O l q9TBL q9ALLW z.2.2.2.2.2.2.2 ∧ q9LKi own z.2.2.2.2 ∧ (∀ F, q9TBL.1[20 + z.2.2.1]? = some F → ∀ j, j < N → ∃ t, F[j]? = some t ∧ defaultValue (ty0 j) = q9dflV t)
theorem q9macx_new {XP : q9ZZ → List Value → Prop} {own nm : String} {n : q9EN} {K K2 : List (Nat × Int)} (hB : q9eB n = q9TBL) (L : List q9NE) (hL : ∀ z ∈ L, q9NEok O l own cc z) : q9MACX O XP l q9ALLW own nm cc n K K2 (q9newM L n K K2 cc) := by
  intro p e R ko s m args below meth c Q D cT A H0 G0 ws0 z0 g hE hT hX hN pc x ss r hw hm hn
  have hE' := hE
  obtain ⟨hx, hb, hml, hown, hts, hAll, hK, hG, hZ, hA, hF9, hPp, hV, hS9, hR, h6, h7, h8, h9, hH0, hZz, hzG⟩ := hE'
  (rewrite [q9newM_oq] at hm; unfold q9newM_o at hm)
  split at hm
  · rename_i z hz
    have z1 := List.find?_some hz
    simp only [beq_iff_eq] at z1
    obtain ⟨C, T, N, ty0, n1, n2, n3, n4, n5, n6, d1, d2, d3, n7, n8, n9⟩ := hL z (List.mem_of_find?_eq_some hz)
    rw [z1] at d1 d2
    split at hm
    · rename_i F rc hF hrc
      split at hm
      · rename_i hc
        obtain ⟨c1, c2, c3, c4, c5, c6, c7, q9c8, c9⟩ := hc
        rw [n1] at hrc
        cases hrc
        have c2 : F.length = N := c2
        split at hm
        · rename_i x2 hseg
          split at hm
          · rename_i hw2
            split at hm
            · rename_i ss2 hss2
              intro G ws H locs ls st hM hW
              obtain ⟨hP, hD, hS, hTy, hXg, hKe⟩ := hW
              have q3 := hR.2.2.1
              have q4 := hR.2.2.2
              have hfs : ∀ j, j < N → defaultValue (ty0 j) = vp_V (F.map q9dflV) j := by
                intro j hj
                obtain ⟨t, t1, t2⟩ := n9 F (by rw [← hB]; exact hF) j hj
                unfold vp_V
                rw [t2, List.getD_eq_getElem?_getD, List.getElem?_map, t1]
                rfl
              refine va_new hx hb hts (fun w hw9 => n2 w hw9) ty0 n3 hown (hts _ n4) (hts _ n5) (hts _ n6) hK hP hD hS hA n1 (fs := F.map q9dflV) hfs (by omega) (by omega) d1 fun q H1 hP1 hD1 hS1 => ?_
              refine lv_dup hx hb d2 rfl ?_
              -- the world with the new object
              have hpos : (G ++ [(q, 20 + z.2.2.1, 0)])[G.length]? = some (q, 20 + z.2.2.1, 0) := by
                rw [List.getElem?_append_right (Nat.le_refl _), Nat.sub_self]
                rfl
              have hty : q9tyE cT (q9eB n) (G ++ [(q, 20 + z.2.2.1, 0)]) (20 + z.2.2.1) 0 (.inr (z.2.2.1 % 20, F.map q9dflV)) := by
                refine .inl ⟨by omega, F.map q9dflV, F, by rw [show (20 + z.2.2.1) % 20 = z.2.2.1 % 20 by omega], hF, by rw [List.length_map], fun j f v hf hv => ?_, fun j j' hj => ?_⟩
                · rw [List.getElem?_map, hf] at hv
                  cases hv
                  exact q9dflB_ty (List.all_eq_true.mp c4 f (List.mem_of_getElem? hf))
                · exfalso
                  have hno : ∀ y ∈ q9TBL.2.2, y.1 < 20 := by decide
                  rw [hB] at hj
                  have := hno _ hj
                  have : 20 + z.2.2.1 < 20 := this
                  omega
              have hTy1 := q9tyW_app hTy hty (by omega)
              have hext : q9extG G (G ++ [(q, 20 + z.2.2.1, 0)]) := ⟨_, rfl⟩
              have hM1 : q9SM O (q9eN n) g (q9sE x (q9tE x ++ [(4, 0, 0), (2, ((20 + z.2.2.1 : Nat) : Int), 0)])) (q9up (q9up r (q9tE x).length .null) ((q9tE x).length + 1) (.ref q)) (G ++ [(q, 20 + z.2.2.1, 0)]) (ws ++ [(q, .inr (z.2.2.1 % 20, F.map q9dflV))]) ls st := by
                have a1 := (hM.grow (Y := [(q, 20 + z.2.2.1, 0)]) (X := [(q, .inr (z.2.2.1 % 20, F.map q9dflV))])).fresh hw (t := (4, 0, 0)) (v := .null) rfl
                have hv2 : ∃ (a n : Nat), Value.ref q = .ref a ∧ (a, ((20 + z.2.2.1 : Nat) : Int).toNat, n) ∈ G ++ [(q, 20 + z.2.2.1, 0)] := ⟨q, 0, rfl, by rw [Int.toNat_natCast]; exact List.mem_of_getElem? hpos⟩
                have hv3 : q9tyV (G ++ [(q, 20 + z.2.2.1, 0)]) (2, ((20 + z.2.2.1 : Nat) : Int), 0) (.ref q) := by
                  first
                    | exact hv2
                    | (unfold q9tyV; exact hv2)
                    | (simp only [q9tyV]; exact hv2)
                have a2 := a1.fresh (q9wf_app hw) (t := (2, ((20 + z.2.2.1 : Nat) : Int), 0)) (v := .ref q) hv3
                have e1 : q9tE (q9sE x (q9tE x ++ [(4, 0, 0)])) = q9tE x ++ [(4, 0, 0)] := rfl
                rw [e1, List.length_append] at a2
                have e2 : q9sE (q9sE x (q9tE x ++ [(4, 0, 0)])) (q9tE x ++ [(4, 0, 0)] ++ [(2, ((20 + z.2.2.1 : Nat) : Int), 0)]) = q9sE x (q9tE x ++ [(4, 0, 0), (2, ((20 + z.2.2.1 : Nat) : Int), 0)]) := by
                  rw [List.append_assoc]
                  rfl
                rw [e2] at a2
                exact a2
              have ag : q9agr (q9tE x).length r (q9up (q9up r (q9tE x).length .null) ((q9tE x).length + 1) (.ref q)) := fun k hk => by
                rw [q9up_lt (by omega), q9up_lt hk]
              have rk : q9up (q9up r (q9tE x).length .null) ((q9tE x).length + 1) (.ref q) ((q9tE x).length + 1) = .ref q := q9up_at
              have rn : q9up (q9up r (q9tE x).length .null) ((q9tE x).length + 1) (.ref q) (q9tE x).length = .null := by
                rw [q9up_lt (by omega), q9up_at]
              have hF1 := hM1.F (F := q9dflF ((q9tE x).length + 1) (q9tE x).length F 0 ++ q9tF x) fun w hw9 => by
                rcases List.mem_append.mp hw9 with hw9 | hw9
                · obtain ⟨w1, i, t, w2, w3, w4⟩ := q9dflF_mem hw9
                  have hil : i < F.length := (List.getElem?_eq_some_iff.mp w2).1
                  unfold q9FMok
                  rw [if_neg (by omega)]
                  refine ⟨q, ws.length, z.2.2.1 % 20, F.map q9dflV, by rw [w1]; exact rk, by rw [List.getElem?_append_right (Nat.le_refl _), Nat.sub_self]; rfl, ?_⟩
                  rw [w3, Nat.zero_add, List.getElem?_map, w2]
                  rcases w4 with ⟨w4, w5⟩ | ⟨w4, w5⟩
                  · rw [w5]
                    have := q9zero_ev hM1.2.2.2.1 (by
                      show (q9tE x ++ [(4, 0, 0), (2, ((20 + z.2.2.1 : Nat) : Int), 0)])[0]? = some (0, 0, 0)
                      have h0 := q9zero_at c1
                      rw [List.getElem?_append_left (List.getElem?_eq_some_iff.mp h0).1]
                      exact h0) 0
                    rw [this]
                    show some (q9dflV t) = _
                    unfold q9dflV
                    rw [if_pos w4]
                    rfl
                  · rw [w5, q9ev_zero, rn]
                    show some (q9dflV t) = _
                    unfold q9dflV
                    rw [if_neg (by omega), if_neg (by omega)]
                · exact hM1.2.2.2.2.1 w hw9
              have hst1 : (((q9tE x).length + 1, (0 : Int)) :: ((q9tE x).length + 1, 0) :: q9tS x).map (q9ev (q9up (q9up r (q9tE x).length .null) ((q9tE x).length + 1) (.ref q))) = .ref q :: .ref q :: st := by
                rw [List.map_cons, List.map_cons, q9ev_zero, rk, ag.map (q9wf_S hw), ← hM.2.1]
              have hMx := (hF1.S (((q9tE x).length + 1, 0) :: ((q9tE x).length + 1, 0) :: q9tS x)).NM (q9tN x + 1) (q9tM x + F.length)
              rw [hst1] at hMx
              -- the walk over the world with the new object as its base
              have hTH1 : q9THok p l e R ko s m args below meth c Q (q9WM D cT (q9eB n) A H0 (G ++ [(q, 20 + z.2.2.1, 0)]) (ws ++ [(q, .inr (z.2.2.1 % 20, F.map q9dflV))]) (q9eW n)) own (q9eT n) := by
                rw [q9c8]
                exact ⟨fun _ hh => (List.not_mem_nil hh).elim, fun _ hh => (List.not_mem_nil hh).elim, fun _ hh => (List.not_mem_nil hh).elim⟩
              have hEV1 : q9EV O p l R ko s m args c cc D cT A H0 (G ++ [(q, 20 + z.2.2.1, 0)]) own q9ALLW n K K2 z0 := by
                exact ⟨hx, hb, hml, hown, hts, hAll, hK, hG, hZ, hA, hF9, hPp, hV, hS9, hR, h6, h7, h8, h9, hH0, hZz, hzG⟩
              have hlen : (q9tE (q9newX n z.2.2.1 F x)).length = (q9tE x).length + 2 := by
                show (q9tE x ++ [_, _]).length = _
                rw [List.length_append]
                rfl
              have go : q9GO O p l e R ko s m args below meth c Q (q9eN n) g (q9WM D cT (q9eB n) A H0 (G ++ [(q, 20 + z.2.2.1, 0)]) (ws ++ [(q, .inr (z.2.2.1 % 20, F.map q9dflV))]) (q9eW n)) (pc + 4) (q9newX n z.2.2.1 F x) (q9up (q9up r (q9tE x).length .null) ((q9tE x).length + 1) (.ref q)) := by
                refine q9seg_ok (q9step_ok hEV1 hTH1 (fun pc x ss r' hw hm => by cases hm) (fun pc x r' k hw hd hr => by cases hr)) 40 (pc + 4) _ x2 _ hseg fun r2 ha2 hl2 => ?_
                refine q9exI_ok hEV1 (by rw [hB]; exact n7) n8 hw2 d3 hss2 fun q3 hq3 r3 ha3 hl3 => ?_
                obtain ⟨x4, e4, m4⟩ := q9retL_mem hm q3 hq3
                intro G3 ws3 H3 locs3 ls3 st3 hM3 hW3
                obtain ⟨hP3, hD3, hS3, hTy3, hX3, hKe3⟩ := hW3
                have hp3 : G3[G.length]? = some (q, 20 + z.2.2.1, 0) := hX3.at hpos
                have hag3 : q9agr ((q9tE x).length + 2) (q9up (q9up r (q9tE x).length .null) ((q9tE x).length + 1) (.ref q)) r3 := by
                  rw [hlen] at ha2 hl2
                  exact ha2.tr ha3 hl2
                have hk3 : r3 ((q9tE x).length + 1) = .ref q := (hag3 _ (by omega)).trans rk
                obtain ⟨y1, y2, y3, y4, y5, y6⟩ := q9ret1_ok hM3 hTy3 hD3 hp3 hk3 e4
                have hag : q9agr (q9tE x).length r r3 := fun k hk => (hag3 k (by omega)).trans (ag k hk)
                have hXn : q9extG G (G3.set G.length (q, z.2.2.1, 0)) := by
                  obtain ⟨Y, hY⟩ := hX3
                  refine ⟨[(q, z.2.2.1, 0)] ++ Y, ?_⟩
                  rw [hY, List.append_assoc, List.set_append_right _ _ (Nat.le_refl _), Nat.sub_self]
                  rfl
                have kk := hn (q3.1, x4) m4 r3 hag (by rw [hlen] at hl2; show _ ≤ (q9tE x4).length; rw [y3]; omega) _ ws3 H3 locs3 ls3 st3 y1 ⟨hP3, hD3, hS3, y2, hXg.tr hXn, hKe.tr hXg (fun i a t k9 e9 hi he => hKe3 i a t k9 e9 (hext.at hi) (by rw [List.getElem?_append_left (List.getElem?_eq_some_iff.mp he).1]; exact he))⟩
                dsimp only at kk
                rw [y4, y5] at kk
                exact kk
              have kk := go _ _ H1 locs ls _ hMx ⟨hP1, hD1, hS1, hTy1, q9extG.rf, q9keepW.rf⟩
              have kk : W p l e R s m args below meth c H1 locs (ko.1 + (q9tN x + 1)) (ko.2 + (q9tM x + F.length)) Q (F0 m (pc + 4) ls (.ref q :: .ref q :: st)) := kk
              exact W.widen (by omega) (by omega) kk
            · cases hm
          · cases hm
        · cases hm
      · cases hm
    · cases hm
  · cases hm
end NEWM
