variable {O : ORC}
/-! the table SIDEWAYS: an old array that nobody writes; its address is what its static holds -/
noncomputable def q9XPs : q9ZZ → List Value → Prop := fun z g => g[0]? = some (.ref z.1)
theorem q9gh_is0 {nL : Nat} {g : List Value} {x : q9ST} {r : Nat → Value} {G : q9GH} {ws : va_W} {ls : Array Slot} {st : List Value} (hM : q9SM O nL g x r G ws ls st) {i : Nat} {a : q9AV} (h : (q9tG x)[i]? = some a) {v : Value} (hv : g[i]? = some v) : q9ev r a = v := by
  have h1 := hM.2.2.1
  rw [h1, List.getElem?_map, h] at hv
  exact Option.some.inj hv
theorem q9ty_any {G : q9GH} (u : Int32) : q9tyV G (0, -2147483648, 2147483647) (.int u) := by
  have h1 := Int32.le_toInt u
  have h2 := Int32.toInt_lt u
  exact ⟨u, rfl, by show -2147483648 ≤ u.toInt; omega, by show u.toInt ≤ 2147483647; omega⟩
/-- length and elements of the array that the first ghost is -/
noncomputable def q9olM_o (pl pk : Nat) (pc : Nat) (x : q9ST) : Option (List (Nat × q9ST)) :=
  if pc = pl then (match q9tS x with
    | a :: rest => if (q9tG x)[0]? = some a ∧ q9zeroB x = true then some [(pc + 1, q9sS x ((0, 16) :: rest))] else none
    | _ => none)
  else if pc = pk then (match q9tS x with
    | j :: a :: rest => (match q9num (q9tE x) j with
      | some (0, lo, hi) => if (q9tG x)[0]? = some a ∧ 0 ≤ lo ∧ hi < 16 then some [(pc + 1, q9sS (q9sE x (q9tE x ++ [(0, -2147483648, 2147483647)])) (((q9tE x).length, 0) :: rest))] else none
      | _ => none)
    | _ => none)
  else none
noncomputable def q9olM (pl pk : Nat) (pc : Nat) (x : q9ST) : Option (List (Nat × q9ST)) :=
  bif q9de9 (pc) (pl) then (match q9tS x with
    | a :: rest => if (q9ge9 (q9tG x) (0)) = some a ∧ q9zeroB x = true then some [(pc + 1, q9sS x ((0, 16) :: rest))] else none
    | _ => none)
  else bif q9de9 (pc) (pk) then (match q9tS x with
    | j :: a :: rest => (match q9num (q9tE x) j with
      | some (0, lo, hi) => if (q9ge9 (q9tG x) (0)) = some a ∧ 0 ≤ lo ∧ hi < 16 then some [(pc + 1, q9sS (q9sE x ((q9ap9 (q9tE x) ([(0, -2147483648, 2147483647)])))) (((q9ln9 (q9tE x)), 0) :: rest))] else none
      | _ => none)
    | _ => none)
  else none
theorem q9olM_oq : @q9olM = @q9olM_o := by
  delta q9olM q9olM_o
  simp only [q9ge9_eq, q9fi9_eq, q9an9_eq, q9al9_eq, q9flt9_eq, q9el9_eq, q9set9_eq, q9ln9_eq, q9gD9_eq, q9ap9_eq, q9eq9_N, q9eq9_I, q9eq9_A, q9eq9_E, q9eq9_OI, q9eq9_ON, q9eq9_OA, q9eq9_L, q9eq9_S, q9de9_N, q9de9_I, q9de9_A, q9le9_N, q9le9_I, q9lt9_N, q9lt9_I, q9de9_E, q9de9_OI, q9de9_ON, q9de9_OA, q9de9_L, q9nd9_eq, q9or9_eq, Bool.cond_decide]
theorem q9macx_ol {l : Launch} {own nm : String} {cc : ByteArray} {n : q9EN} {K K2 : List (Nat × Int)} {pl pk : Nat} (d1 : decode cc pl = .ok (.arraylength, 1)) (d2 : decode cc pk = .ok (.iaload, 1)) : q9MACX O q9XPs l q9ALLW own nm cc n K K2 (q9olM pl pk) := by
  intro p e R ko s m args below meth c Q D cT A H0 G0 ws0 z0 g hE hT hX hN pc x ss r hw hm hn
  obtain ⟨hx, hb, hml, hown, hts, hAll, hK, hG, hZ, hA, hF, hPp, hV, hS, hR, h6, h7, h8, h9, hH0, hZz, hzG⟩ := hE
  obtain ⟨sw, x1⟩ := hZz.1.2
  rw [hH0] at x1
  (rewrite [q9olM_oq] at hm; unfold q9olM_o at hm)
  split at hm
  · rename_i hp
    subst hp
    split at hm
    · rename_i a rest hSt
      split at hm
      · rename_i hc
        obtain ⟨c1, c2⟩ := hc
        cases hm
        intro G ws H locs ls st hM hW
        have ea := q9gh_is0 hM c1 hX
        have hst := hM.2.1
        rw [hSt, List.map_cons, ea] at hst
        rw [hst]
        have kk9 := hn.one q9agr.rf (Nat.le_refl _) G ws H locs ls _ (hM.S ((0, 16) :: rest)) hW
        rw [List.map_cons, q9zero_ev hM.2.2.2.1 (q9zero_at c2)] at kk9
        have hSv : va_S A H0 H locs := hW.2.2.1
        rw [hH0] at hSv
        exact va_tlen hx hb x1 hSv (v := 16) rfl d1 kk9
      · cases hm
    · cases hm
  · split at hm
    · rename_i hp
      subst hp
      split at hm
      · rename_i j a rest hSt
        split at hm
        · rename_i lo hi9 hnum
          split at hm
          · rename_i hc
            obtain ⟨c1, c3, c4⟩ := hc
            cases hm
            intro G ws H locs ls st hM hW
            have ea := q9gh_is0 hM c1 hX
            have okj : q9okAV (q9tE x) j = true := q9wf_S hw j (by rw [hSt]; exact List.mem_cons_self)
            obtain ⟨u, eu, -, u1, u2⟩ := q9num_int hM.2.2.2.1 okj hnum
            have hst := hM.2.1
            rw [hSt, List.map_cons, List.map_cons, ea, eu] at hst
            have okr : ∀ a ∈ rest, q9okAV (q9tE x) a = true := fun a ha => q9wf_S hw a (by rw [hSt]; exact List.mem_cons_of_mem _ (List.mem_cons_of_mem _ ha))
            rw [hst]
            have hin : vp_in u 16 := by
              intro h9
              have e0 : u.toNatClampNeg = u.toInt.toNat := rfl
              rw [Int32.lt_iff_toInt_lt, Int32.toInt_zero] at h9
              omega
            have ag : q9agr (q9tE x).length r (q9up r (q9tE x).length (.int (sw u.toNatClampNeg))) := fun k hk => q9up_lt hk
            have h9 := hM.fresh hw (q9ty_any (sw u.toNatClampNeg))
            have kk9 := hn.one ag (by show _ ≤ (q9tE x ++ [_]).length; rw [List.length_append]; omega) G ws H locs ls _ (h9.S (((q9tE x).length, 0) :: rest)) hW
            rw [List.map_cons, q9ev_zero, q9up_at, ag.map okr] at kk9
            have hSv : va_S A H0 H locs := hW.2.2.1
            rw [hH0] at hSv
            exact va_ti hx hb x1 hSv hin (v := .int (sw u.toNatClampNeg)) rfl d2 kk9
          · cases hm
        · cases hm
      · cases hm
    · cases hm
/-- a contract whose first argument is that table, its ghost -/
noncomputable def q9swP (i : q9INST) : Prop := (q9tL (q9iPre i)).length = 3 ∧ ∃ k a, (q9tL (q9iPre i))[0]? = some (k, a) ∧ (q9tG (q9iPre i))[0]? = some a
theorem q9swP_xp {q : q9INST} (h : q9swP q) {th : List q9AV} {x : q9ST} {a b9 c9 : q9AV} {rest : List q9AV} (hS : q9tS x = c9 :: b9 :: a :: rest) (he : ((q9tL (q9iPre q)).map fun z => q9sh th z.2) = ((q9tS x).take (q9tL (q9iPre q)).length).reverse) {r : Nat → Value} {z0 : q9ZZ} (hv : q9ev r a = .ref z0.1) : q9XPs z0 (((q9tG (q9iPre q)).map (q9sh th)).map (q9ev r)) := by
  obtain ⟨h1, k, a0, h2, h3⟩ := h
  rw [h1, hS] at he
  have e1 := congrArg (fun z => z[0]?) he
  simp only [List.getElem?_map, h2] at e1
  have e1 : some (q9sh th a0) = some a := e1
  unfold q9XPs
  rw [List.getElem?_map, List.getElem?_map, h3]
  show some (q9ev r (q9sh th a0)) = _
  rw [Option.some.inj e1, hv]
/-- from where the table is taken to the call that it is handed to -/
noncomputable def q9swM_o (q : q9CE) (p0 p1 f : Nat) (n : q9EN) (K K2 : List (Nat × Int)) (cc : ByteArray) (pc : Nat) (x : q9ST) : Option (List (Nat × q9ST)) :=
  if pc = p0 then (match q9seg (q9step n K K2 (fun _ _ => none) (fun _ _ => false) cc) p1 f (pc + 3) (q9sS (q9sE x (q9tE x ++ [(5, 0, 0)])) (((q9tE x).length, 0) :: q9tS x)) with
    | some x2 => (match q9tS x2 with
      | _ :: _ :: a :: _ => if a = ((q9tE x).length, 0) ∧ q9wfB x2 = true then q9exC1 (q9eT n) (q9eW n) (q9eR n) x2 q p1 (p1 + 3) else none
      | _ => none)
    | none => none)
  else none
noncomputable def q9swM (q : q9CE) (p0 p1 f : Nat) (n : q9EN) (K K2 : List (Nat × Int)) (cc : ByteArray) (pc : Nat) (x : q9ST) : Option (List (Nat × q9ST)) :=
  bif q9de9 (pc) (p0) then (match q9seg (q9step n K K2 (fun _ _ => none) (fun _ _ => false) cc) p1 f (pc + 3) (q9sS (q9sE x ((q9ap9 (q9tE x) ([(5, 0, 0)])))) (((q9ln9 (q9tE x)), 0) :: q9tS x)) with
    | some x2 => (match q9tS x2 with
      | _ :: _ :: a :: _ => if a = ((q9ln9 (q9tE x)), 0) ∧ q9wfB x2 = true then q9exC1 (q9eT n) (q9eW n) (q9eR n) x2 q p1 (p1 + 3) else none
      | _ => none)
    | none => none)
  else none
theorem q9swM_oq : @q9swM = @q9swM_o := by
  delta q9swM q9swM_o
  simp only [q9ge9_eq, q9fi9_eq, q9an9_eq, q9al9_eq, q9flt9_eq, q9el9_eq, q9set9_eq, q9ln9_eq, q9gD9_eq, q9ap9_eq, q9eq9_N, q9eq9_I, q9eq9_A, q9eq9_E, q9eq9_OI, q9eq9_ON, q9eq9_OA, q9eq9_L, q9eq9_S, q9de9_N, q9de9_I, q9de9_A, q9le9_N, q9le9_I, q9lt9_N, q9lt9_I, q9de9_E, q9de9_OI, q9de9_ON, q9de9_OA, q9de9_L, q9nd9_eq, q9or9_eq, Bool.cond_decide]
theorem q9macx_sw {XP : q9ZZ → List Value → Prop} {l : Launch} {own nm : String} {cc : ByteArray} {n : q9EN} {K K2 : List (Nat × Int)} {q : q9CE} {p0 gi p1 : Nat} (f : Nat) (hB : q9eB n = q9TBL) (hCon : q9CONX O q9XPs l q9TBL q9ALLW q.2.2.2) (hLK : q9LKs q9ALLW own q) (h0 : q.2.1 ≠ 0) (ht : q9swP q.2.2.2) (hw4 : Cond.fieldLink own gi "PuppetFilm$Puppet" "SIDEWAYS" "[I" ∈ q9ALLW) (d0 : decode cc p0 = .ok (.getstatic gi, 3)) (d1 : decode cc p1 = .ok (.invokestatic q.1, 3)) : q9MACX O XP l q9ALLW own nm cc n K K2 (q9swM q p0 p1 f n K K2 cc) := by
  intro p e R ko s m args below meth c Q D cT A H0 G0 ws0 z0 g hE hT hX hN pc x ss r hw hm hn
  have hE' := hE
  obtain ⟨hx, hb, hml, hown, hts, hAll, hK, hG, hZ, hA, hF, hPp, hV, hS, hR, h6, h7, h8, h9, hH0, hZz, hzG⟩ := hE'
  (rewrite [q9swM_oq] at hm; unfold q9swM_o at hm)
  split at hm
  · rename_i hp
    subst hp
    split at hm
    · rename_i x2 hseg
      split at hm
      · rename_i c9 i9 a9 rest hSt
        split at hm
        · rename_i hc
          obtain ⟨c1, c2⟩ := hc
          have hle : (q9tE x).length ≤ (q9tE x ++ [((5, 0, 0) : q9ET)]).length := by rw [List.length_append]; omega
          have hlt : (q9tE x).length < (q9tE x ++ [((5, 0, 0) : q9ET)]).length := by rw [List.length_append]; exact Nat.lt_succ_self _
          have ag : q9agr (q9tE x).length r (q9up r (q9tE x).length (.ref z0.1)) := fun k hk => q9up_lt hk
          have hgo : q9GO O p l e R ko s m args below meth c Q (q9eN n) g (q9WM D cT (q9eB n) A H0 G0 ws0 (q9eW n)) (pc + 3) (q9sS (q9sE x (q9tE x ++ [(5, 0, 0)])) (((q9tE x).length, 0) :: q9tS x)) (q9up r (q9tE x).length (.ref z0.1)) := by
            refine q9seg_ok (q9step_ok hE hT (fun pc x ss r' hw hm => by cases hm) (fun pc x r' k hw hd hr => by cases hr)) f (pc + 3) _ x2 _ hseg fun r2 ha2 hl2 => ?_
            have hk2 : r2 (q9tE x).length = .ref z0.1 := (ha2 _ hlt).trans q9up_at
            exact q9exC1_ok (r := r2) hx hb hml hown hts hAll hK hG hZ hA hZz hzG hT (by rw [hB]; exact hCon) (hLK.ok hG) hR c2 rfl (fun th he => q9swP_xp ht hSt he (by rw [c1, q9ev_zero, hk2])) (.inr ⟨d1, h0⟩) hm fun w hw9 r' ha hl => hn w hw9 r' (ag.tr (ha2.tr ha hl2) hle) (Nat.le_trans hle (Nat.le_trans hl2 hl))
          intro G ws H locs ls st hM hW
          have hM1 := hM.fresh hw (t := (5, 0, 0)) (v := .ref z0.1) ⟨_, rfl⟩
          have k := hgo G ws H locs ls _ (hM1.S (((q9tE x).length, 0) :: q9tS x)) hW
          rw [List.map_cons, q9ev_zero, q9up_at, ag.map (q9wf_S hw), ← hM.2.1] at k
          have hZ1 := hZz.1.1
          have hSv : va_S A H0 H locs := hW.2.2.1
          rw [hH0] at hZ1 hSv
          exact va_gets hx hb hZ1 hSv hown (hts _ hw4) (fun _ h => h) d0 k
        · cases hm
      · cases hm
    · cases hm
  · cases hm
