variable {O : ORC}
/-! an array of objects that a loop fills with new ones, all different -/
theorem q9cdLt {x : q9ST} {a cd : Nat} (h : q9codeOf x a = some cd) : a < (q9tE x).length := by
  (rewrite [q9codeOf_oq] at h; unfold q9codeOf_o at h)
  split at h
  · rename_i t ht
    exact (List.getElem?_eq_some_iff.mp ht).1
  · cases h
noncomputable def q9newXL (n : q9EN) (ci : Nat) (F : List q9ET) (x : q9ST) (ar : Nat) : q9ST :=
  let k := (q9tE x).length
  q9sNM (q9sS (q9sA (q9sF (q9sE x (q9tE x ++ [(4, 0, 0), (2, ((20 + ci : Nat) : Int), 0), (0, -122, -122)])) (q9dflF (k + 1) k F 0 ++ q9tF x)) ((k + 2, (k + 1, 0), (ar, 0)) :: q9tA x)) ((k + 1, 0) :: (k + 1, 0) :: q9tS x)) (q9tN x + 1) (q9tM x + F.length)
noncomputable def q9newL_o (L : List q9NE) (n : q9EN) (K K2 : List (Nat × Int)) (cc : ByteArray) (ds : List q9DF) (ai : Nat) (pc : Nat) (x : q9ST) : Option (List (Nat × q9ST)) := match L.find? (fun z => z.1 == pc), q9mkT x ds [] with
  | some z, some th => (match (q9eB n).1[20 + z.2.2.1]?, vwCl[z.2.2.1 % 20]? with
    | some F, some rc => if q9zeroB x = true ∧ F.length = rc.2.2 ∧ (20 + z.2.2.1) < 80 ∧ F.all q9dflB = true ∧ F.length < 1000 ∧ q9tN x + 1 ≤ (q9eR n).2.2.1 ∧ q9tM x + F.length ≤ (q9eR n).2.2.2 ∧ q9eT n = ([], []) ∧ q9wfB (q9newXL n z.2.2.1 F x (th.getD ai (0, 0)).1) = true ∧ q9codeOf x (th.getD ai (0, 0)).1 = some 250 then
        (match q9seg (q9step n K K2 (fun _ _ => none) (fun _ _ => false) cc) z.2.2.2.1 40 (pc + 4) (q9newXL n z.2.2.1 F x (th.getD ai (0, 0)).1) with
        | some x2 => if q9wfB x2 then (match q9exI n x2 z.2.2.2.2 z.2.2.2.1 with
          | some ss => q9retL (q9eB n) z.2.2.1 ((q9tE x).length + 1) ss
          | none => none) else none
        | none => none) else none
    | _, _ => none)
  | _, _ => none
noncomputable def q9newL (L : List q9NE) (n : q9EN) (K K2 : List (Nat × Int)) (cc : ByteArray) (ds : List q9DF) (ai : Nat) (pc : Nat) (x : q9ST) : Option (List (Nat × q9ST)) := match q9fi9 L (fun z => q9eq9 (z.1) (pc)), q9mkT x ds [] with
  | some z, some th => (match (q9ge9 (q9eB n).1 (20 + z.2.2.1)), (q9ge9 vwCl (z.2.2.1 % 20)) with
    | some F, some rc => if q9zeroB x = true ∧ (q9ln9 F) = rc.2.2 ∧ (20 + z.2.2.1) < 80 ∧ q9al9 F q9dflB = true ∧ (q9ln9 F) < 1000 ∧ q9tN x + 1 ≤ (q9eR n).2.2.1 ∧ q9tM x + (q9ln9 F) ≤ (q9eR n).2.2.2 ∧ q9eT n = ([], []) ∧ q9wfB (q9newXL n z.2.2.1 F x (q9gD9 th ai (0, 0)).1) = true ∧ q9codeOf x (q9gD9 th ai (0, 0)).1 = some 250 then
        (match q9seg (q9step n K K2 (fun _ _ => none) (fun _ _ => false) cc) z.2.2.2.1 40 (pc + 4) (q9newXL n z.2.2.1 F x (q9gD9 th ai (0, 0)).1) with
        | some x2 => if q9wfB x2 then (match q9exI n x2 z.2.2.2.2 z.2.2.2.1 with
          | some ss => q9retL (q9eB n) z.2.2.1 ((q9ln9 (q9tE x)) + 1) ss
          | none => none) else none
        | none => none) else none
    | _, _ => none)
  | _, _ => none
theorem q9newL_oq : @q9newL = @q9newL_o := by
  delta q9newL q9newL_o
  simp only [q9ge9_eq, q9fi9_eq, q9an9_eq, q9al9_eq, q9flt9_eq, q9el9_eq, q9set9_eq, q9ln9_eq, q9gD9_eq, q9ap9_eq, q9eq9_N, q9eq9_I, q9eq9_A, q9eq9_E, q9eq9_OI, q9eq9_ON, q9eq9_OA, q9eq9_L, q9eq9_S, q9de9_N, q9de9_I, q9de9_A, q9le9_N, q9le9_I, q9lt9_N, q9lt9_I, q9de9_E, q9de9_OI, q9de9_ON, q9de9_OA, q9de9_L, q9nd9_eq, q9or9_eq, Bool.cond_decide]
section NEWM
variable {p : Program} {l : Launch} {e : Env} {R : Room} {ko : Nat × Nat} {s : State} {m : MethodId} {args : Array Value} {below : List Frame} {meth : Method} {c : Code} {Q : State → Prop} {cc : ByteArray}
variable {g : List Value} {D : va_G} {cT : Nat → ClassId} {A : Nat → Prop} {H0 : Heap} {G0 : q9GH} {ws0 : va_W}
set_option maxRecDepth 100000 in
theorem q9macx_newL {XP : q9ZZ → List Value → Prop} {own nm : String} {n : q9EN} {K K2 : List (Nat × Int)} (hB : q9eB n = q9TBL) (L : List q9NE) (hL : ∀ z ∈ L, q9NEok O l own cc z) (ds : List q9DF) (ai : Nat) : q9MACX O XP l q9ALLW own nm cc n K K2 (q9newL L n K K2 cc ds ai) := by
  intro p e R ko s m args below meth c Q D cT A H0 G0 ws0 z0 g hE hT hX hN pc x ss r hw hm hn
  have hE' := hE
  obtain ⟨hx, hb, hml, hown, hts, hAll, hK, hG, hZ, hA, hF9, hPp, hV, hS9, hR, h6, h7, h8, h9, hH0, hZz, hzG⟩ := hE'
  (rewrite [q9newL_oq] at hm; unfold q9newL_o at hm)
  split at hm
  · rename_i z th hz hth
    have z1 := List.find?_some hz
    simp only [beq_iff_eq] at z1
    obtain ⟨C, T, N, ty0, n1, n2, n3, n4, n5, n6, d1, d2, d3, n7, n8, n9⟩ := hL z (List.mem_of_find?_eq_some hz)
    rw [z1] at d1 d2
    split at hm
    · rename_i F rc hF hrc
      split at hm
      · rename_i hc
        obtain ⟨c1, c2, c3, c4, c5, c6, c7, q9c8, c9, c10⟩ := hc
        generalize (th.getD ai (0, 0)).1 = ar at hm c9 c10
        rw [n1] at hrc
        cases hrc
        have c2 : F.length = N := c2
        split at hm
        · rename_i x2 hseg
          split at hm
          · rename_i hw2
            split at hm
            · rename_i ss2 hss2
              intro G ws H locs ls st hM hW
              obtain ⟨hP, hD, hS, hTy, hXg, hKe⟩ := hW
              have q3 := hR.2.2.1
              have q4 := hR.2.2.2
              have hfs : ∀ j, j < N → defaultValue (ty0 j) = vp_V (F.map q9dflV) j := by
                intro j hj
                obtain ⟨t, t1, t2⟩ := n9 F (by rw [← hB]; exact hF) j hj
                unfold vp_V
                rw [t2, List.getD_eq_getElem?_getD, List.getElem?_map, t1]
                rfl
              refine va_new hx hb hts (fun w hw9 => n2 w hw9) ty0 n3 hown (hts _ n4) (hts _ n5) (hts _ n6) hK hP hD hS hA n1 (fs := F.map q9dflV) hfs (by omega) (by omega) d1 fun q H1 hP1 hD1 hS1 => ?_
              refine lv_dup hx hb d2 rfl ?_
              -- the world with the new object
              have hpos : (G ++ [(q, 20 + z.2.2.1, 0)])[G.length]? = some (q, 20 + z.2.2.1, 0) := by
                rw [List.getElem?_append_right (Nat.le_refl _), Nat.sub_self]
                rfl
              have hty : q9tyE cT (q9eB n) (G ++ [(q, 20 + z.2.2.1, 0)]) (20 + z.2.2.1) 0 (.inr (z.2.2.1 % 20, F.map q9dflV)) := by
                refine .inl ⟨by omega, F.map q9dflV, F, by rw [show (20 + z.2.2.1) % 20 = z.2.2.1 % 20 by omega], hF, by rw [List.length_map], fun j f v hf hv => ?_, fun j j' hj => ?_⟩
                · rw [List.getElem?_map, hf] at hv
                  cases hv
                  exact q9dflB_ty (List.all_eq_true.mp c4 f (List.mem_of_getElem? hf))
                · exfalso
                  have hno : ∀ y ∈ q9TBL.2.2, y.1 < 20 := by decide
                  rw [hB] at hj
                  have := hno _ hj
                  have : 20 + z.2.2.1 < 20 := this
                  omega
              have hTy1 := q9tyW_app hTy hty (by omega)
              have hext : q9extG G (G ++ [(q, 20 + z.2.2.1, 0)]) := ⟨_, rfl⟩
              have hM1 : q9SM O (q9eN n) g (q9sE x (q9tE x ++ [(4, 0, 0), (2, ((20 + z.2.2.1 : Nat) : Int), 0), (0, -122, -122)])) (q9up (q9up (q9up r (q9tE x).length .null) ((q9tE x).length + 1) (.ref q)) ((q9tE x).length + 2) (.int (-122))) (G ++ [(q, 20 + z.2.2.1, 0)]) (ws ++ [(q, .inr (z.2.2.1 % 20, F.map q9dflV))]) ls st := by
                have a1 := (hM.grow (Y := [(q, 20 + z.2.2.1, 0)]) (X := [(q, .inr (z.2.2.1 % 20, F.map q9dflV))])).fresh hw (t := (4, 0, 0)) (v := .null) rfl
                have hv2 : ∃ (a n : Nat), Value.ref q = .ref a ∧ (a, ((20 + z.2.2.1 : Nat) : Int).toNat, n) ∈ G ++ [(q, 20 + z.2.2.1, 0)] := ⟨q, 0, rfl, by rw [Int.toNat_natCast]; exact List.mem_of_getElem? hpos⟩
                have hv3 : q9tyV (G ++ [(q, 20 + z.2.2.1, 0)]) (2, ((20 + z.2.2.1 : Nat) : Int), 0) (.ref q) := by
                  first
                    | exact hv2
                    | (unfold q9tyV; exact hv2)
                    | (simp only [q9tyV]; exact hv2)
                have a2 := a1.fresh (q9wf_app hw) (t := (2, ((20 + z.2.2.1 : Nat) : Int), 0)) (v := .ref q) hv3
                have a3 := a2.fresh (q9wf_app (q9wf_app hw)) (t := (0, -122, -122)) (v := .int (-122)) ⟨_, rfl, by decide, by decide⟩
                have l1 : (q9tE (q9sE x (q9tE x ++ [(4, 0, 0)]))).length = (q9tE x).length + 1 := by
                  show (q9tE x ++ [_]).length = _
                  rw [List.length_append]
                  rfl
                have l2 : (q9tE (q9sE (q9sE x (q9tE x ++ [(4, 0, 0)])) (q9tE (q9sE x (q9tE x ++ [(4, 0, 0)])) ++ [(2, ((20 + z.2.2.1 : Nat) : Int), 0)]))).length = (q9tE x).length + 2 := by
                  show (q9tE x ++ [_] ++ [_]).length = _
                  rw [List.length_append, List.length_append]
                  rfl
                rw [l1, l2] at a3
                have e2 : q9sE (q9sE (q9sE x (q9tE x ++ [(4, 0, 0)])) (q9tE (q9sE x (q9tE x ++ [(4, 0, 0)])) ++ [(2, ((20 + z.2.2.1 : Nat) : Int), 0)])) (q9tE (q9sE (q9sE x (q9tE x ++ [(4, 0, 0)])) (q9tE (q9sE x (q9tE x ++ [(4, 0, 0)])) ++ [(2, ((20 + z.2.2.1 : Nat) : Int), 0)])) ++ [(0, -122, -122)]) = q9sE x (q9tE x ++ [(4, 0, 0), (2, ((20 + z.2.2.1 : Nat) : Int), 0), (0, -122, -122)]) := by
                  show q9sE x (q9tE x ++ [(4, 0, 0)] ++ [(2, ((20 + z.2.2.1 : Nat) : Int), 0)] ++ [(0, -122, -122)]) = _
                  rw [List.append_assoc, List.append_assoc]
                  rfl
                rw [e2] at a3
                exact a3
              have ag : q9agr (q9tE x).length r (q9up (q9up (q9up r (q9tE x).length .null) ((q9tE x).length + 1) (.ref q)) ((q9tE x).length + 2) (.int (-122))) := fun k hk => by
                rw [q9up_lt (by omega), q9up_lt (by omega), q9up_lt hk]
              have rk : (q9up (q9up (q9up r (q9tE x).length .null) ((q9tE x).length + 1) (.ref q)) ((q9tE x).length + 2) (.int (-122))) ((q9tE x).length + 1) = .ref q := by
                rw [q9up_lt (by omega)]
                exact q9up_at
              have rn : (q9up (q9up (q9up r (q9tE x).length .null) ((q9tE x).length + 1) (.ref q)) ((q9tE x).length + 2) (.int (-122))) (q9tE x).length = .null := by
                rw [q9up_lt (by omega), q9up_lt (by omega), q9up_at]
              have hF1 := hM1.F (F := q9dflF ((q9tE x).length + 1) (q9tE x).length F 0 ++ q9tF x) fun w hw9 => by
                rcases List.mem_append.mp hw9 with hw9 | hw9
                · obtain ⟨w1, i, t, w2, w3, w4⟩ := q9dflF_mem hw9
                  have hil : i < F.length := (List.getElem?_eq_some_iff.mp w2).1
                  unfold q9FMok
                  rw [if_neg (by omega)]
                  refine ⟨q, ws.length, z.2.2.1 % 20, F.map q9dflV, by rw [w1]; exact rk, by rw [List.getElem?_append_right (Nat.le_refl _), Nat.sub_self]; rfl, ?_⟩
                  rw [w3, Nat.zero_add, List.getElem?_map, w2]
                  rcases w4 with ⟨w4, w5⟩ | ⟨w4, w5⟩
                  · rw [w5]
                    have := q9zero_ev hM1.2.2.2.1 (by
                      show (q9tE x ++ [(4, 0, 0), (2, ((20 + z.2.2.1 : Nat) : Int), 0), (0, -122, -122)])[0]? = some (0, 0, 0)
                      have h0 := q9zero_at c1
                      rw [List.getElem?_append_left (List.getElem?_eq_some_iff.mp h0).1]
                      exact h0) 0
                    rw [this]
                    show some (q9dflV t) = _
                    unfold q9dflV
                    rw [if_pos w4]
                    rfl
                  · rw [w5, q9ev_zero, rn]
                    show some (q9dflV t) = _
                    unfold q9dflV
                    rw [if_neg (by omega), if_neg (by omega)]
                · exact hM1.2.2.2.2.1 w hw9
              have hA1 := hF1.A (F := ((q9tE x).length + 2, ((q9tE x).length + 1, 0), (ar, 0)) :: q9tA x) fun w hw9 => by
                rcases List.mem_cons.mp hw9 with rfl | hw9
                · refine q9fm_mk (c := -122) ?_ (by decide) ?_
                  · show q9nV (q9up _ _ _ ((q9tE x).length + 2)) = _
                    rw [q9up_at]
                    rfl
                  · rw [q9FMP_5 (by decide)]
                    show q9PFL _ _ _ _
                    obtain ⟨a9, n9', k1, k2⟩ := q9codeOf_ok hM.2.2.2.1 c10
                    obtain ⟨i9, e9, g1, g2, g3⟩ := hTy.at k2
                    rcases g3 with ⟨hh, -⟩ | ⟨-, K9, u1, u2⟩
                    · omega
                    · rw [hB] at u1
                      have u1 : q9KAS[250 - 100]? = some K9 := u1
                      rw [show q9KAS[250 - 100]? = some (6, 60, true, 3, 2, 0) from rfl] at u1
                      cases u1
                      obtain ⟨u3, u4, f9, u5, u6⟩ := u2
                      subst u5
                      have u4 : n9' = 60 := u4 rfl
                      refine ⟨q, a9, f9, ?_, ?_, ⟨i9, n9', n9', cT 6, hext.at g1, by rw [List.getElem?_append_left (List.getElem?_eq_some_iff.mp g2).1]; exact g2⟩, fun i hi hf => ?_⟩
                      · show q9ev _ ((q9tE x).length + 1, 0) = _
                        rw [q9ev_zero, rk]
                      · show q9ev _ (ar, 0) = _
                        rw [q9ev_zero, ag _ (q9cdLt c10)]
                        exact k1
                      · have h5 := u6 i (by omega)
                        rw [hf] at h5
                        rcases h5 with h5 | ⟨aa, na, h5, h6'⟩
                        · cases h5
                        · have h5 : Value.ref q = .ref aa := h5
                          cases h5
                          have h6' : (q, 2, na) ∈ G := h6'
                          have := (hTy1.one hD1 (hext.mem _ h6') (List.mem_of_getElem? hpos)).1
                          omega
                · exact hF1.2.2.2.2.2.1 w hw9
              have hst1 : (((q9tE x).length + 1, (0 : Int)) :: ((q9tE x).length + 1, 0) :: q9tS x).map (q9ev (q9up (q9up (q9up r (q9tE x).length .null) ((q9tE x).length + 1) (.ref q)) ((q9tE x).length + 2) (.int (-122)))) = .ref q :: .ref q :: st := by
                rw [List.map_cons, List.map_cons, q9ev_zero, rk, ag.map (q9wf_S hw), ← hM.2.1]
              have hMx := (hA1.S (((q9tE x).length + 1, 0) :: ((q9tE x).length + 1, 0) :: q9tS x)).NM (q9tN x + 1) (q9tM x + F.length)
              rw [hst1] at hMx
              -- the walk over the world with the new object as its base
              have hTH1 : q9THok p l e R ko s m args below meth c Q (q9WM D cT (q9eB n) A H0 (G ++ [(q, 20 + z.2.2.1, 0)]) (ws ++ [(q, .inr (z.2.2.1 % 20, F.map q9dflV))]) (q9eW n)) own (q9eT n) := by
                rw [q9c8]
                exact ⟨fun _ hh => (List.not_mem_nil hh).elim, fun _ hh => (List.not_mem_nil hh).elim, fun _ hh => (List.not_mem_nil hh).elim⟩
              have hEV1 : q9EV O p l R ko s m args c cc D cT A H0 (G ++ [(q, 20 + z.2.2.1, 0)]) own q9ALLW n K K2 z0 := by
                exact ⟨hx, hb, hml, hown, hts, hAll, hK, hG, hZ, hA, hF9, hPp, hV, hS9, hR, h6, h7, h8, h9, hH0, hZz, hzG⟩
              have hlen : (q9tE (q9newXL n z.2.2.1 F x ar)).length = (q9tE x).length + 3 := by
                show (q9tE x ++ [_, _, _]).length = _
                rw [List.length_append]
                rfl
              have go : q9GO O p l e R ko s m args below meth c Q (q9eN n) g (q9WM D cT (q9eB n) A H0 (G ++ [(q, 20 + z.2.2.1, 0)]) (ws ++ [(q, .inr (z.2.2.1 % 20, F.map q9dflV))]) (q9eW n)) (pc + 4) (q9newXL n z.2.2.1 F x ar) (q9up (q9up (q9up r (q9tE x).length .null) ((q9tE x).length + 1) (.ref q)) ((q9tE x).length + 2) (.int (-122))) := by
                refine q9seg_ok (q9step_ok hEV1 hTH1 (fun pc x ss r' hw hm => by cases hm) (fun pc x r' k hw hd hr => by cases hr)) 40 (pc + 4) _ x2 _ hseg fun r2 ha2 hl2 => ?_
                refine q9exI_ok hEV1 (by rw [hB]; exact n7) n8 hw2 d3 hss2 fun q3 hq3 r3 ha3 hl3 => ?_
                obtain ⟨x4, e4, m4⟩ := q9retL_mem hm q3 hq3
                intro G3 ws3 H3 locs3 ls3 st3 hM3 hW3
                obtain ⟨hP3, hD3, hS3, hTy3, hX3, hKe3⟩ := hW3
                have hp3 : G3[G.length]? = some (q, 20 + z.2.2.1, 0) := hX3.at hpos
                have hag3 : q9agr ((q9tE x).length + 3) (q9up (q9up (q9up r (q9tE x).length .null) ((q9tE x).length + 1) (.ref q)) ((q9tE x).length + 2) (.int (-122))) r3 := by
                  rw [hlen] at ha2 hl2
                  exact ha2.tr ha3 hl2
                have hk3 : r3 ((q9tE x).length + 1) = .ref q := (hag3 _ (by omega)).trans rk
                obtain ⟨y1, y2, y3, y4, y5, y6⟩ := q9ret1_ok hM3 hTy3 hD3 hp3 hk3 e4
                have hag : q9agr (q9tE x).length r r3 := fun k hk => (hag3 k (by omega)).trans (ag k hk)
                have hXn : q9extG G (G3.set G.length (q, z.2.2.1, 0)) := by
                  obtain ⟨Y, hY⟩ := hX3
                  refine ⟨[(q, z.2.2.1, 0)] ++ Y, ?_⟩
                  rw [hY, List.append_assoc, List.set_append_right _ _ (Nat.le_refl _), Nat.sub_self]
                  rfl
                have kk := hn (q3.1, x4) m4 r3 hag (by rw [hlen] at hl2; show _ ≤ (q9tE x4).length; rw [y3]; omega) _ ws3 H3 locs3 ls3 st3 y1 ⟨hP3, hD3, hS3, y2, hXg.tr hXn, hKe.tr hXg (fun i a t k9 e9 hi he => hKe3 i a t k9 e9 (hext.at hi) (by rw [List.getElem?_append_left (List.getElem?_eq_some_iff.mp he).1]; exact he))⟩
                dsimp only at kk
                rw [y4, y5] at kk
                exact kk
              have kk := go _ _ H1 locs ls _ hMx ⟨hP1, hD1, hS1, hTy1, q9extG.rf, q9keepW.rf⟩
              have kk : W p l e R s m args below meth c H1 locs (ko.1 + (q9tN x + 1)) (ko.2 + (q9tM x + F.length)) Q (F0 m (pc + 4) ls (.ref q :: .ref q :: st)) := kk
              exact W.widen (by omega) (by omega) kk
            · cases hm
          · cases hm
        · cases hm
      · cases hm
    · cases hm
  · cases hm
end NEWM
theorem q9keepW.far {Wr : List Nat} {G0 : q9GH} {ws0 ws : va_W} {p0 : Nat} {y : Nat × va_E} (h : q9keepW Wr G0 ws0 ws) (hp : G0.length ≤ p0) : q9keepW Wr G0 ws0 (ws.set p0 y) := by
  intro q a t n e hg he
  obtain ⟨e', h1, h2⟩ := h q a t n e hg he
  have := (List.getElem?_eq_some_iff.mp hg).1
  exact ⟨e', by rw [List.getElem?_set_ne (by omega)]; exact h1, h2⟩
/-- the loop's head after i rounds -/
noncomputable def q9liY_o (x : q9ST) (i a b : Nat) : q9ST := q9sNM (q9sL (q9sA x []) ((2, ((0, (i : Int)) : q9AV)) :: (q9tL x).filter (fun q => !(q.1 == 2)))) (q9tN x + i * a) (q9tM x + i * b)
noncomputable def q9liY (x : q9ST) (i a b : Nat) : q9ST := q9sNM (q9sL (q9sA x []) ((2, ((0, (i : Int)) : q9AV)) :: q9flt9 (q9tL x) (fun q => !(q9eq9 (q.1) (2))))) (q9tN x + i * a) (q9tM x + i * b)
theorem q9liY_oq : @q9liY = @q9liY_o := by
  delta q9liY q9liY_o
  simp only [q9ge9_eq, q9fi9_eq, q9an9_eq, q9al9_eq, q9flt9_eq, q9el9_eq, q9set9_eq, q9ln9_eq, q9gD9_eq, q9ap9_eq, q9eq9_N, q9eq9_I, q9eq9_A, q9eq9_E, q9eq9_OI, q9eq9_ON, q9eq9_OA, q9eq9_L, q9eq9_S, q9de9_N, q9de9_I, q9de9_A, q9le9_N, q9le9_I, q9lt9_N, q9lt9_I, q9de9_E, q9de9_OI, q9de9_ON, q9de9_OA, q9de9_L, q9nd9_eq, q9or9_eq, Bool.cond_decide]
noncomputable def q9idT (n : Nat) : List q9AV := (List.range n).map (fun k => (k, 0))
theorem q9idT_at {n k : Nat} (h : k < n) : (q9idT n).getD k (0, 0) = (k, 0) := by
  unfold q9idT
  rw [List.getD_eq_getElem?_getD, List.getElem?_map, List.getElem?_range h]
  rfl
/-- q9one round: to the store, and from it to the head -/
noncomputable def q9liR_o (st : Nat → q9ST → Option (List (Nat × q9ST))) (x : q9ST) (k a b hd sp i : Nat) : Bool :=
  q9wfB (q9liY x i a b) && (match q9seg st sp 40 hd (q9liY x i a b) with
  | some xa => q9wfB xa && (match q9tS xa with
    | v :: w :: u :: rest => (w == (0, (i : Int)) && (u == (k, 0) && (rest.isEmpty && (q9codeOf xa v.1 == some 2 && (q9zeroB xa && (q9tA xa).any (fun y => q9famE (q9tE xa) y.1 == some (-122) && (y.2.1 == v && y.2.2 == u))))))) && (match q9seg st hd 40 (sp + 1) (q9sA (q9sS xa []) []) with
       | some xc => q9wfB xc && (decide ((q9tE x).length ≤ (q9tE xa).length) && q9fitsB xc (q9liY x (i + 1) a b) (q9idT (q9tE x).length))
       | none => false)
    | _ => false)
  | none => false)
noncomputable def q9liR (st : Nat → q9ST → Option (List (Nat × q9ST))) (x : q9ST) (k a b hd sp i : Nat) : Bool :=
  q9nd9 (q9wfB (q9liY x i a b)) ((match q9seg st sp 40 hd (q9liY x i a b) with
  | some xa => q9nd9 (q9wfB xa) ((match q9tS xa with
    | v :: w :: u :: rest => q9nd9 ((q9nd9 (q9eq9 (w) ((0, (i : Int)))) ((q9nd9 (q9eq9 (u) ((k, 0))) ((q9nd9 (rest.isEmpty) ((q9nd9 (q9eq9 (q9codeOf xa v.1) (some 2)) ((q9nd9 (q9zeroB xa) (q9an9 (q9tA xa) (fun y => q9nd9 (q9eq9 (q9famE (q9tE xa) y.1) (some (-122))) ((q9nd9 (q9eq9 (y.2.1) (v)) (q9eq9 (y.2.2) (u)))))))))))))))) ((match q9seg st hd 40 (sp + 1) (q9sA (q9sS xa []) []) with
       | some xc => q9nd9 (q9wfB xc) ((q9nd9 ((q9le9 ((q9ln9 (q9tE x))) ((q9ln9 (q9tE xa))))) (q9fitsB xc (q9liY x (i + 1) a b) (q9idT (q9ln9 (q9tE x))))))
       | none => false))
    | _ => false))
  | none => false))
theorem q9liR_oq : @q9liR = @q9liR_o := by
  delta q9liR q9liR_o
  simp only [q9ge9_eq, q9fi9_eq, q9an9_eq, q9al9_eq, q9flt9_eq, q9el9_eq, q9set9_eq, q9ln9_eq, q9gD9_eq, q9ap9_eq, q9eq9_N, q9eq9_I, q9eq9_A, q9eq9_E, q9eq9_OI, q9eq9_ON, q9eq9_OA, q9eq9_L, q9eq9_S, q9de9_N, q9de9_I, q9de9_A, q9le9_N, q9le9_I, q9lt9_N, q9lt9_I, q9de9_E, q9de9_OI, q9de9_ON, q9de9_OA, q9de9_L, q9nd9_eq, q9or9_eq, Bool.cond_decide]
noncomputable def q9nW (n : q9EN) : q9EN := (n.1, n.2.1, n.2.2.1, [], n.2.2.2.2)
/-- what is known of the array after i rounds -/
noncomputable def q9LI (cT : Nat → ClassId) (p0 q0 N : Nat) (G : q9GH) (ws : va_W) (i : Nat) : Prop := ∃ f : Nat → Option Nat, ws[p0]? = some (q0, .inl (cT 6, N, .inr (.inr (.inr (.inr f))))) ∧ (∀ j, j < i → ∃ b9 n9 : Nat, f j = some b9 ∧ (b9, 2, n9) ∈ G) ∧ ∀ j j' : Nat, j < i → j' < i → f j = f j' → j = j'
section LIN
variable {p : Program} {l : Launch} {e : Env} {R : Room} {ko : Nat × Nat} {s : State} {m : MethodId} {args : Array Value} {below : List Frame} {meth : Method} {c : Code} {Q : State → Prop} {cc : ByteArray}
variable {g : List Value} {D : va_G} {cT : Nat → ClassId} {B : q9TB} {A : Nat → Prop} {H0 : Heap} {G0 : q9GH} {ws0 : va_W}
theorem q9LI.keep {p0 q0 N c0 i : Nat} {G G' : q9GH} {ws ws' : va_W} (h : q9LI cT p0 q0 N G ws i) (hp : G[p0]? = some (q0, c0, N)) (hX : q9extG G G') (hK : q9keepW [] G ws ws') : q9LI cT p0 q0 N G' ws' i := by
  obtain ⟨f, h1, h2, h5⟩ := h
  obtain ⟨e', h3, h4⟩ := hK p0 q0 c0 N _ hp h1
  refine ⟨f, ?_, fun j hj => ?_, h5⟩
  · match e', h3, h4 with
    | .inl y, h3, h4 =>
      have h4 : 100000 + c0 ∉ ([] : List Nat) → y = _ := h4
      rw [h4 List.not_mem_nil] at h3
      exact h3
    | .inr (_, _), h3, h4 => exact h4.elim
  · obtain ⟨b9, n9, e1, e2⟩ := h2 j hj
    exact ⟨b9, n9, e1, hX.mem _ e2⟩
theorem q9liL {own : String} {n : q9EN} {K K2 : List (Nat × Int)} {z0 : q9ZZ} (hE : q9EV O p l R ko s m args c cc D cT A H0 G0 own q9ALLW n K K2 z0) {st : Nat → q9ST → Option (List (Nat × q9ST))}
    (hst : ∀ (G : q9GH) (ws : va_W), q9extG G0 G → ∀ (pc : Nat) (x : q9ST) (ss : List (Nat × q9ST)) (r : Nat → Value), q9wfB x = true → st pc x = some ss → q9NX O p l e R ko s m args below meth c Q (q9eN n) g (q9WM D cT (q9eB n) A H0 G ws []) ss x r → q9GO O p l e R ko s m args below meth c Q (q9eN n) g (q9WM D cT (q9eB n) A H0 G ws []) pc x r)
    {x : q9ST} {rr : Nat → Value} {k a b hd sp N c0 p0 q0 : Nat} (hkl : k < (q9tE x).length) (hN : N ≤ 60) (hc0 : 100 ≤ c0) (hK0 : (q9eB n).2.1[c0 - 100]? = some (6, N, true, (3, 2, 0))) (hp0 : G0.length ≤ p0)
    (hdg : decode cc sp = .ok (.aastore, 1)) (hall : ∀ i, i < N → q9liR st x k a b hd sp i = true)
    (hfin : ∀ (G : q9GH) (ws : va_W) (H : Heap) (locs : List Loc) (ls : Array Slot) (st9 : List Value) (r' : Nat → Value), q9SM O (q9eN n) g (q9liY x N a b) r' G ws ls st9 → va_P D vwCl ws H → va_D A ws → va_S A H0 H locs → q9tyW cT (q9eB n) G ws → q9extG G0 G → q9keepW (q9eW n) G0 ws0 ws → G[p0]? = some (q0, c0, N) → q9LI cT p0 q0 N G ws N → r' k = .ref q0 → q9agr (q9tE x).length rr r' → W p l e R s m args below meth c H locs (ko.1 + q9tN (q9liY x N a b)) (ko.2 + q9tM (q9liY x N a b)) Q (F0 m hd ls st9)) :
    ∀ (d i : Nat), i + d = N → ∀ (G : q9GH) (ws : va_W) (H : Heap) (locs : List Loc) (ls : Array Slot) (st9 : List Value) (r' : Nat → Value), q9SM O (q9eN n) g (q9liY x i a b) r' G ws ls st9 → va_P D vwCl ws H → va_D A ws → va_S A H0 H locs → q9tyW cT (q9eB n) G ws → q9extG G0 G → q9keepW (q9eW n) G0 ws0 ws → G[p0]? = some (q0, c0, N) → q9LI cT p0 q0 N G ws i → r' k = .ref q0 → q9agr (q9tE x).length rr r' → W p l e R s m args below meth c H locs (ko.1 + q9tN (q9liY x i a b)) (ko.2 + q9tM (q9liY x i a b)) Q (F0 m hd ls st9)
  | 0, i, hi, G, ws, H, locs, ls, st9, r', hM, hP, hD, hS, hTy, hX, hKe, hp, hLI, hk, hag => by
    have hi : i = N := by omega
    subst hi
    exact hfin G ws H locs ls st9 r' hM hP hD hS hTy hX hKe hp hLI hk hag
  | d + 1, i, hi, G, ws, H, locs, ls, st9, r', hM, hP, hD, hS, hTy, hX, hKe, hp, hLI, hk, hag => by
    have hr := hall i (by omega)
    have hE' := hE
    obtain ⟨hx, hb, hml, hown, hts, hAll, hK, hGw, hZ, hA, hF9, hPp, hV, hS9, hR, h6, h7, h8, h9, hH0, hZz, hzG⟩ := hE'
    (rewrite [q9liR_oq] at hr; unfold q9liR_o at hr)
    rw [Bool.and_eq_true] at hr
    obtain ⟨hwy, hr⟩ := hr
    split at hr
    · rename_i xa hsa
      rw [Bool.and_eq_true] at hr
      obtain ⟨hwa, hr⟩ := hr
      split at hr
      · rename_i v w u rest hTS
        rw [Bool.and_eq_true] at hr
        obtain ⟨hc, hr⟩ := hr
        simp only [Bool.and_eq_true, beq_iff_eq, List.isEmpty_iff, List.any_eq_true] at hc
        obtain ⟨c1, c2, c3, c4, c5, y9, y91, y92, y93, y94⟩ := hc
        split at hr
        · rename_i xc hsc
          simp only [Bool.and_eq_true, decide_eq_true_eq] at hr
          obtain ⟨hwc, hla, hfit⟩ := hr
          refine q9seg_ok (hst G ws hX) 40 hd (q9liY x i a b) xa r' hsa (fun r2 ha2 hl2 => ?_) G ws H locs ls st9 hM ⟨hP, hD, hS, hTy, q9extG.rf, q9keepW.rf⟩
          intro G2 ws2 H2 locs2 ls2 st2 hM2 hW2
          obtain ⟨hP2, hD2, hS2, hTy2, hX2, hKe2⟩ := hW2
          have hp2 : G2[p0]? = some (q0, c0, N) := hX2.at hp
          obtain ⟨f, hf1, hf2, hf3⟩ := hLI.keep hp hX2 hKe2
          obtain ⟨b9, n9, eb, hm9⟩ := q9codeOf_ok hM2.2.2.2.1 c4
          obtain ⟨qk, ez, w1, w2, w3⟩ := hTy2.at hm9
          have ev1 : q9ev r2 v = .ref b9 := by
            unfold q9ev
            rw [eb]
          have ev2 : q9ev r2 w = .int (Int32.ofInt (i : Int)) := by
            rw [c1]
            exact q9zero_ev hM2.2.2.2.1 (q9zero_at c5) _
          have hk2 : r2 k = .ref q0 := (ha2 k hkl).trans hk
          have ev3 : q9ev r2 u = .ref q0 := by
            rw [c2, q9ev_zero]
            exact hk2
          have hnf : ∀ j : Nat, j < 60 → f j ≠ some b9 := by
            have hF := q9fm_of hM2 y91 y92 (by decide)
            rw [q9FMP_5 (by decide), y93, y94, ev1, ev3] at hF
            obtain ⟨o9, a9, f9, v1, v2, ⟨q8, k8, n8, cA8, v5, v6⟩, v4⟩ : q9PFL G2 ws2 (.ref b9) (.ref q0) := hF
            cases v1
            cases v2
            have hq : q8 = p0 := hD2.1 q8 p0 _ _ v6 hf1 rfl
            subst hq
            rw [hf1] at v6
            cases v6
            exact v4
          have ei : (Int32.ofInt (i : Int)).toInt = i := Int32.toInt_ofInt_of_le (by omega) (by omega)
          have ei' : (Int32.ofInt (i : Int)).toNatClampNeg = i := by
            show (Int32.ofInt (i : Int)).toInt.toNat = i
            rw [ei]
            omega
          have hin : vp_in (Int32.ofInt (i : Int)) N := by
            unfold vp_in
            rw [Int32.lt_iff_toInt_lt, Int32.toInt_zero, ei, ei']
            omega
          have hst2 := hM2.2.1
          rw [hTS, List.map_cons, List.map_cons, List.map_cons, c3, ev1, ev2, ev3] at hst2
          rw [hst2]
          obtain ⟨rc, g1, g2⟩ := (h6 _ (List.mem_of_getElem? hK0)).2 (by decide : 4 ≤ 6)
          rcases w3 with ⟨-, vs, F, f1, -⟩ | ⟨hh, -⟩
          case inr => omega
          subst f1
          refine va_astq hx hb hK hP2 hD2 hS2 p0 6 qk 2 hf1 g2 w2 g1 hin hdg fun H3 locs3 hP3 hD3 hS3 => ?_
          rw [ei'] at hP3 hD3
          -- the world with the new line
          obtain ⟨e0, z1, z2⟩ := hTy2.2.1 p0 q0 c0 N hp2
          rw [hf1] at z1
          cases z1
          have hTy3 : q9tyW cT (q9eB n) G2 (ws2.set p0 (q0, .inl (cT 6, N, .inr (.inr (.inr (.inr (va_up f i (some b9)))))))) := by
            refine hTy2.set hp2 ?_
            rcases z2 with ⟨hh, -⟩ | ⟨-, K9, k1, k2⟩
            · omega
            · rw [hK0] at k1
              cases k1
              exact .inr ⟨hc0, _, hK0, q9upE_ty (i := i) (v := .ref b9) k2 (.inr ⟨b9, n9, rfl, hm9⟩)⟩
          have hM3 : q9SM O (q9eN n) g (q9sA (q9sS xa []) []) r2 G2 (ws2.set p0 (q0, .inl (cT 6, N, .inr (.inr (.inr (.inr (va_up f i (some b9)))))))) ls2 [] := by
            refine ⟨hM2.1, rfl, hM2.2.2.1, hM2.2.2.2.1, fun z hz => ?_, fun z hz => (List.not_mem_nil hz).elim, hM2.2.2.2.2.2.2⟩
            have h9 := hM2.2.2.2.2.1 z hz
            unfold q9FMok at h9 ⊢
            split
            · rename_i h0
              rw [if_pos h0] at h9
              exact h9
            · rename_i h0
              rw [if_neg h0] at h9
              obtain ⟨b', i', ci', fs', e1, e2, e3⟩ := h9
              refine ⟨b', i', ci', fs', e1, ?_, e3⟩
              by_cases hii : i' = p0
              · subst hii
                rw [hf1] at e2
                cases e2
              · rw [List.getElem?_set_ne (fun y => hii y.symm)]
                exact e2
          have hrest : rest = [] := c3
          have key := q9seg_ok (hst G2 (ws2.set p0 (q0, .inl (cT 6, N, .inr (.inr (.inr (.inr (va_up f i (some b9)))))))) (hX.tr hX2)) 40 (sp + 1) (q9sA (q9sS xa []) []) xc r2 hsc (fun r3 ha3 hl3 => by
            intro G4 ws4 H4 locs4 ls4 st4 hM4 hW4
            obtain ⟨hP4, hD4, hS4, hTy4, hX4, hKe4⟩ := hW4
            obtain ⟨hMy, hn1, hn2⟩ := q9fits_cut hM4 hfit
            have hlen : (q9tE (q9liY x i a b)).length = (q9tE x).length := rfl
            have hla' : (q9tE (q9sA (q9sS xa []) [])).length = (q9tE xa).length := rfl
            rw [hlen] at ha2
            rw [hla'] at ha3
            have hrh : q9agr (q9tE x).length r3 (q9rh r3 (q9idT (q9tE x).length)) := fun q hq => by
              unfold q9rh
              rw [q9idT_at hq, q9ev_zero]
            have hag4 : q9agr (q9tE x).length r' (q9rh r3 (q9idT (q9tE x).length)) := (ha2.tr ha3 hla).tr hrh (Nat.le_refl _)
            have hLI3 : q9LI cT p0 q0 N G2 (ws2.set p0 (q0, .inl (cT 6, N, .inr (.inr (.inr (.inr (va_up f i (some b9)))))))) (i + 1) := by
              refine ⟨va_up f i (some b9), List.getElem?_set_self (List.getElem?_eq_some_iff.mp hf1).1, fun j hj => ?_, fun j j' hj hj' he => ?_⟩
              rotate_left
              · by_cases h1 : j = i
                · by_cases h2 : j' = i
                  · omega
                  · subst h1
                    rw [va_up_self, va_up_ne _ _ h2] at he
                    exact absurd he.symm (hnf j' (by omega))
                · by_cases h2 : j' = i
                  · subst h2
                    rw [va_up_self, va_up_ne _ _ h1] at he
                    exact absurd he (hnf j (by omega))
                  · rw [va_up_ne _ _ h1, va_up_ne _ _ h2] at he
                    exact hf3 j j' (by omega) (by omega) he
              by_cases hji : j = i
              · subst hji
                exact ⟨b9, n9, va_up_self _ _ _, hm9⟩
              · obtain ⟨b8, n8, y1, y2⟩ := hf2 j (by omega)
                exact ⟨b8, n8, by rw [va_up_ne _ _ hji]; exact y1, y2⟩
            have kk := q9liL hE hst hkl hN hc0 hK0 hp0 hdg hall hfin d (i + 1) (by omega) G4 ws4 H4 locs4 ls4 st4 _ hMy hP4 hD4 hS4 hTy4 ((hX.tr hX2).tr hX4) (((hKe.tr hX (hKe2.wk fun _ hq => (List.not_mem_nil hq).elim)).far hp0).tr (hX.tr hX2) (hKe4.wk fun _ hq => (List.not_mem_nil hq).elim)) (hX4.at hp2) (hLI3.keep hp2 hX4 hKe4) ((hag4 k hkl).trans hk) (hag.tr hag4 (Nat.le_refl _))
            exact W.widen (by omega) (by omega) kk) G2 _ H3 locs3 ls2 [] hM3 ⟨hP3, hD3, hS3, hTy3, q9extG.rf, q9keepW.rf⟩
          exact key
        · cases hr
      · cases hr
    · cases hr
end LIN
