variable {O : ORC}
/-! 'new', and that the new object isn't q9one of those in an array -/
noncomputable def q9newXS (n : q9EN) (ci : Nat) (F : List q9ET) (x : q9ST) (ar : Nat) : q9ST :=
  let k := (q9tE x).length
  q9sNM (q9sS (q9sA (q9sF (q9sE x (q9tE x ++ [(4, 0, 0), (2, ((20 + ci : Nat) : Int), 0), (0, -151, -151)])) (q9dflF (k + 1) k F 0 ++ q9tF x)) ((k + 2, (k + 1, 0), (ar, 0)) :: q9tA x)) ((k + 1, 0) :: (k + 1, 0) :: q9tS x)) (q9tN x + 1) (q9tM x + F.length)
noncomputable def q9newS_o (L : List q9NE) (n : q9EN) (K K2 : List (Nat × Int)) (cc : ByteArray) (ds : List q9DF) (ai : Nat) (pc : Nat) (x : q9ST) : Option (List (Nat × q9ST)) := match L.find? (fun z => z.1 == pc), q9mkT x ds [] with
  | some z, some th => (match (q9eB n).1[20 + z.2.2.1]?, vwCl[z.2.2.1 % 20]? with
    | some F, some rc => if q9zeroB x = true ∧ F.length = rc.2.2 ∧ (20 + z.2.2.1) < 80 ∧ F.all q9dflB = true ∧ F.length < 1000 ∧ q9tN x + 1 ≤ (q9eR n).2.2.1 ∧ q9tM x + F.length ≤ (q9eR n).2.2.2 ∧ q9eT n = ([], []) ∧ q9wfB (q9newXS n z.2.2.1 F x (q9gA th ai).1) = true ∧ q9codeOf x (q9gA th ai).1 = some 153 then
        (match q9seg (q9step n K K2 (fun _ _ => none) (fun _ _ => false) cc) z.2.2.2.1 40 (pc + 4) (q9newXS n z.2.2.1 F x (q9gA th ai).1) with
        | some x2 => if q9wfB x2 then (match q9exI n x2 z.2.2.2.2 z.2.2.2.1 with
          | some ss => q9retL (q9eB n) z.2.2.1 ((q9tE x).length + 1) ss
          | none => none) else none
        | none => none) else none
    | _, _ => none)
  | _, _ => none
noncomputable def q9newS (L : List q9NE) (n : q9EN) (K K2 : List (Nat × Int)) (cc : ByteArray) (ds : List q9DF) (ai : Nat) (pc : Nat) (x : q9ST) : Option (List (Nat × q9ST)) := match q9fi9 L (fun z => q9eq9 (z.1) (pc)), q9mkT x ds [] with
  | some z, some th => (match (q9ge9 (q9eB n).1 (20 + z.2.2.1)), (q9ge9 vwCl (z.2.2.1 % 20)) with
    | some F, some rc => if q9zeroB x = true ∧ (q9ln9 F) = rc.2.2 ∧ (20 + z.2.2.1) < 80 ∧ q9al9 F q9dflB = true ∧ (q9ln9 F) < 1000 ∧ q9tN x + 1 ≤ (q9eR n).2.2.1 ∧ q9tM x + (q9ln9 F) ≤ (q9eR n).2.2.2 ∧ q9eT n = ([], []) ∧ q9wfB (q9newXS n z.2.2.1 F x (q9gA th ai).1) = true ∧ q9codeOf x (q9gA th ai).1 = some 153 then
        (match q9seg (q9step n K K2 (fun _ _ => none) (fun _ _ => false) cc) z.2.2.2.1 40 (pc + 4) (q9newXS n z.2.2.1 F x (q9gA th ai).1) with
        | some x2 => if q9wfB x2 then (match q9exI n x2 z.2.2.2.2 z.2.2.2.1 with
          | some ss => q9retL (q9eB n) z.2.2.1 ((q9ln9 (q9tE x)) + 1) ss
          | none => none) else none
        | none => none) else none
    | _, _ => none)
  | _, _ => none
theorem q9newS_oq : @q9newS = @q9newS_o := by
  delta q9newS q9newS_o
  simp only [q9ge9_eq, q9fi9_eq, q9an9_eq, q9al9_eq, q9flt9_eq, q9el9_eq, q9set9_eq, q9ln9_eq, q9gD9_eq, q9ap9_eq, q9eq9_N, q9eq9_I, q9eq9_A, q9eq9_E, q9eq9_OI, q9eq9_ON, q9eq9_OA, q9eq9_L, q9eq9_S, q9de9_N, q9de9_I, q9de9_A, q9le9_N, q9le9_I, q9lt9_N, q9lt9_I, q9de9_E, q9de9_OI, q9de9_ON, q9de9_OA, q9de9_L, q9nd9_eq, q9or9_eq, Bool.cond_decide]
section NEWM
variable {p : Program} {l : Launch} {e : Env} {R : Room} {ko : Nat × Nat} {s : State} {m : MethodId} {args : Array Value} {below : List Frame} {meth : Method} {c : Code} {Q : State → Prop} {cc : ByteArray}
variable {g : List Value} {D : va_G} {cT : Nat → ClassId} {A : Nat → Prop} {H0 : Heap} {G0 : q9GH} {ws0 : va_W}
set_option maxRecDepth 100000 in
theorem q9macx_newS {XP : q9ZZ → List Value → Prop} {own nm : String} {n : q9EN} {K K2 : List (Nat × Int)} (hB : q9eB n = q9TBL) (L : List q9NE) (hL : ∀ z ∈ L, q9NEok O l own cc z) (ds : List q9DF) (ai : Nat) : q9MACX O XP l q9ALLW own nm cc n K K2 (q9newS L n K K2 cc ds ai) := by
  intro p e R ko s m args below meth c Q D cT A H0 G0 ws0 z0 g hE hT hX hN pc x ss r hw hm hn
  have hE' := hE
  obtain ⟨hx, hb, hml, hown, hts, hAll, hK, hG, hZ, hA, hF9, hPp, hV, hS9, hR, h6, h7, h8, h9, hH0, hZz, hzG⟩ := hE'
  (rewrite [q9newS_oq] at hm; unfold q9newS_o at hm)
  split at hm
  · rename_i z th hz hth
    have z1 := List.find?_some hz
    simp only [beq_iff_eq] at z1
    obtain ⟨C, T, N, ty0, n1, n2, n3, n4, n5, n6, d1, d2, d3, n7, n8, n9⟩ := hL z (List.mem_of_find?_eq_some hz)
    rw [z1] at d1 d2
    split at hm
    · rename_i F rc hF hrc
      split at hm
      · rename_i hc
        obtain ⟨c1, c2, c3, c4, c5, c6, c7, q9c8, c9, c10⟩ := hc
        generalize (q9gA th ai).1 = ar at hm c9 c10
        rw [n1] at hrc
        cases hrc
        have c2 : F.length = N := c2
        split at hm
        · rename_i x2 hseg
          split at hm
          · rename_i hw2
            split at hm
            · rename_i ss2 hss2
              intro G ws H locs ls st hM hW
              obtain ⟨hP, hD, hS, hTy, hXg, hKe⟩ := hW
              have q3 := hR.2.2.1
              have q4 := hR.2.2.2
              have hfs : ∀ j, j < N → defaultValue (ty0 j) = vp_V (F.map q9dflV) j := by
                intro j hj
                obtain ⟨t, t1, t2⟩ := n9 F (by rw [← hB]; exact hF) j hj
                unfold vp_V
                rw [t2, List.getD_eq_getElem?_getD, List.getElem?_map, t1]
                rfl
              refine va_new hx hb hts (fun w hw9 => n2 w hw9) ty0 n3 hown (hts _ n4) (hts _ n5) (hts _ n6) hK hP hD hS hA n1 (fs := F.map q9dflV) hfs (by omega) (by omega) d1 fun q H1 hP1 hD1 hS1 => ?_
              refine lv_dup hx hb d2 rfl ?_
              -- the world with the new object
              have hpos : (G ++ [(q, 20 + z.2.2.1, 0)])[G.length]? = some (q, 20 + z.2.2.1, 0) := by
                rw [List.getElem?_append_right (Nat.le_refl _), Nat.sub_self]
                rfl
              have hty : q9tyE cT (q9eB n) (G ++ [(q, 20 + z.2.2.1, 0)]) (20 + z.2.2.1) 0 (.inr (z.2.2.1 % 20, F.map q9dflV)) := by
                refine .inl ⟨by omega, F.map q9dflV, F, by rw [show (20 + z.2.2.1) % 20 = z.2.2.1 % 20 by omega], hF, by rw [List.length_map], fun j f v hf hv => ?_, fun j j' hj => ?_⟩
                · rw [List.getElem?_map, hf] at hv
                  cases hv
                  exact q9dflB_ty (List.all_eq_true.mp c4 f (List.mem_of_getElem? hf))
                · exfalso
                  have hno : ∀ y ∈ q9TBL.2.2, y.1 < 20 := by decide
                  rw [hB] at hj
                  have := hno _ hj
                  have : 20 + z.2.2.1 < 20 := this
                  omega
              have hTy1 := q9tyW_app hTy hty (by omega)
              have hext : q9extG G (G ++ [(q, 20 + z.2.2.1, 0)]) := ⟨_, rfl⟩
              have hM1 : q9SM O (q9eN n) g (q9sE x (q9tE x ++ [(4, 0, 0), (2, ((20 + z.2.2.1 : Nat) : Int), 0), (0, -151, -151)])) (q9up (q9up (q9up r (q9tE x).length .null) ((q9tE x).length + 1) (.ref q)) ((q9tE x).length + 2) (.int (-151))) (G ++ [(q, 20 + z.2.2.1, 0)]) (ws ++ [(q, .inr (z.2.2.1 % 20, F.map q9dflV))]) ls st := by
                have a1 := (hM.grow (Y := [(q, 20 + z.2.2.1, 0)]) (X := [(q, .inr (z.2.2.1 % 20, F.map q9dflV))])).fresh hw (t := (4, 0, 0)) (v := .null) rfl
                have hv2 : ∃ (a n : Nat), Value.ref q = .ref a ∧ (a, ((20 + z.2.2.1 : Nat) : Int).toNat, n) ∈ G ++ [(q, 20 + z.2.2.1, 0)] := ⟨q, 0, rfl, by rw [Int.toNat_natCast]; exact List.mem_of_getElem? hpos⟩
                have hv3 : q9tyV (G ++ [(q, 20 + z.2.2.1, 0)]) (2, ((20 + z.2.2.1 : Nat) : Int), 0) (.ref q) := by
                  first
                    | exact hv2
                    | (unfold q9tyV; exact hv2)
                    | (simp only [q9tyV]; exact hv2)
                have a2 := a1.fresh (q9wf_app hw) (t := (2, ((20 + z.2.2.1 : Nat) : Int), 0)) (v := .ref q) hv3
                have a3 := a2.fresh (q9wf_app (q9wf_app hw)) (t := (0, -151, -151)) (v := .int (-151)) ⟨_, rfl, by decide, by decide⟩
                have l1 : (q9tE (q9sE x (q9tE x ++ [(4, 0, 0)]))).length = (q9tE x).length + 1 := by
                  show (q9tE x ++ [_]).length = _
                  rw [List.length_append]
                  rfl
                have l2 : (q9tE (q9sE (q9sE x (q9tE x ++ [(4, 0, 0)])) (q9tE (q9sE x (q9tE x ++ [(4, 0, 0)])) ++ [(2, ((20 + z.2.2.1 : Nat) : Int), 0)]))).length = (q9tE x).length + 2 := by
                  show (q9tE x ++ [_] ++ [_]).length = _
                  rw [List.length_append, List.length_append]
                  rfl
                rw [l1, l2] at a3
                have e2 : q9sE (q9sE (q9sE x (q9tE x ++ [(4, 0, 0)])) (q9tE (q9sE x (q9tE x ++ [(4, 0, 0)])) ++ [(2, ((20 + z.2.2.1 : Nat) : Int), 0)])) (q9tE (q9sE (q9sE x (q9tE x ++ [(4, 0, 0)])) (q9tE (q9sE x (q9tE x ++ [(4, 0, 0)])) ++ [(2, ((20 + z.2.2.1 : Nat) : Int), 0)])) ++ [(0, -151, -151)]) = q9sE x (q9tE x ++ [(4, 0, 0), (2, ((20 + z.2.2.1 : Nat) : Int), 0), (0, -151, -151)]) := by
                  show q9sE x (q9tE x ++ [(4, 0, 0)] ++ [(2, ((20 + z.2.2.1 : Nat) : Int), 0)] ++ [(0, -151, -151)]) = _
                  rw [List.append_assoc, List.append_assoc]
                  rfl
                rw [e2] at a3
                exact a3
              have ag : q9agr (q9tE x).length r (q9up (q9up (q9up r (q9tE x).length .null) ((q9tE x).length + 1) (.ref q)) ((q9tE x).length + 2) (.int (-151))) := fun k hk => by
                rw [q9up_lt (by omega), q9up_lt (by omega), q9up_lt hk]
              have rk : (q9up (q9up (q9up r (q9tE x).length .null) ((q9tE x).length + 1) (.ref q)) ((q9tE x).length + 2) (.int (-151))) ((q9tE x).length + 1) = .ref q := by
                rw [q9up_lt (by omega)]
                exact q9up_at
              have rn : (q9up (q9up (q9up r (q9tE x).length .null) ((q9tE x).length + 1) (.ref q)) ((q9tE x).length + 2) (.int (-151))) (q9tE x).length = .null := by
                rw [q9up_lt (by omega), q9up_lt (by omega), q9up_at]
              have hF1 := hM1.F (F := q9dflF ((q9tE x).length + 1) (q9tE x).length F 0 ++ q9tF x) fun w hw9 => by
                rcases List.mem_append.mp hw9 with hw9 | hw9
                · obtain ⟨w1, i, t, w2, w3, w4⟩ := q9dflF_mem hw9
                  have hil : i < F.length := (List.getElem?_eq_some_iff.mp w2).1
                  unfold q9FMok
                  rw [if_neg (by omega)]
                  refine ⟨q, ws.length, z.2.2.1 % 20, F.map q9dflV, by rw [w1]; exact rk, by rw [List.getElem?_append_right (Nat.le_refl _), Nat.sub_self]; rfl, ?_⟩
                  rw [w3, Nat.zero_add, List.getElem?_map, w2]
                  rcases w4 with ⟨w4, w5⟩ | ⟨w4, w5⟩
                  · rw [w5]
                    have := q9zero_ev hM1.2.2.2.1 (by
                      show (q9tE x ++ [(4, 0, 0), (2, ((20 + z.2.2.1 : Nat) : Int), 0), (0, -151, -151)])[0]? = some (0, 0, 0)
                      have h0 := q9zero_at c1
                      rw [List.getElem?_append_left (List.getElem?_eq_some_iff.mp h0).1]
                      exact h0) 0
                    rw [this]
                    show some (q9dflV t) = _
                    unfold q9dflV
                    rw [if_pos w4]
                    rfl
                  · rw [w5, q9ev_zero, rn]
                    show some (q9dflV t) = _
                    unfold q9dflV
                    rw [if_neg (by omega), if_neg (by omega)]
                · exact hM1.2.2.2.2.1 w hw9
              have hA1 := hF1.A (F := ((q9tE x).length + 2, ((q9tE x).length + 1, 0), (ar, 0)) :: q9tA x) fun w hw9 => by
                rcases List.mem_cons.mp hw9 with rfl | hw9
                · refine q9fm_mk (c := -151) ?_ (by decide) ?_
                  · show q9nV (q9up _ _ _ ((q9tE x).length + 2)) = _
                    rw [q9up_at]
                    rfl
                  · rw [q9FMP_fs]
                    obtain ⟨a9, n9', k1, k2⟩ := q9codeOf_ok hM.2.2.2.1 c10
                    obtain ⟨i9, e9, g1, g2, g3⟩ := hTy.at k2
                    rcases g3 with ⟨hh, -⟩ | ⟨-, K9, u1, u2⟩
                    · omega
                    · rw [hB] at u1
                      have u1 : q9KAS[153 - 100]? = some K9 := u1
                      rw [show q9KAS[153 - 100]? = some (5, 12, true, 3, 7, 0) from rfl] at u1
                      cases u1
                      obtain ⟨u3, u4, f9, u5, u6⟩ := u2
                      subst u5
                      have u4 : n9' = 12 := u4 rfl
                      refine ⟨q, a9, f9, ?_, ?_, ⟨i9, n9', n9', cT 5, hext.at g1, by rw [List.getElem?_append_left (List.getElem?_eq_some_iff.mp g2).1]; exact g2⟩, fun i hi hf => ?_⟩
                      · show q9ev _ ((q9tE x).length + 1, 0) = _
                        rw [q9ev_zero, rk]
                      · show q9ev _ (ar, 0) = _
                        rw [q9ev_zero, ag _ (q9codeOf_lt c10)]
                        exact k1
                      · have h5 := u6 i (by omega)
                        rw [hf] at h5
                        rcases h5 with h5 | ⟨aa, na, h5, h6'⟩
                        · cases h5
                        · have h5 : Value.ref q = .ref aa := h5
                          cases h5
                          have h6' : (q, 7, na) ∈ G := h6'
                          have := (hTy1.one hD1 (hext.mem _ h6') (List.mem_of_getElem? hpos)).1
                          omega
                · exact hF1.2.2.2.2.2.1 w hw9
              have hst1 : (((q9tE x).length + 1, (0 : Int)) :: ((q9tE x).length + 1, 0) :: q9tS x).map (q9ev (q9up (q9up (q9up r (q9tE x).length .null) ((q9tE x).length + 1) (.ref q)) ((q9tE x).length + 2) (.int (-151)))) = .ref q :: .ref q :: st := by
                rw [List.map_cons, List.map_cons, q9ev_zero, rk, ag.map (q9wf_S hw), ← hM.2.1]
              have hMx := (hA1.S (((q9tE x).length + 1, 0) :: ((q9tE x).length + 1, 0) :: q9tS x)).NM (q9tN x + 1) (q9tM x + F.length)
              rw [hst1] at hMx
              -- the walk over the world with the new object as its base
              have hTH1 : q9THok p l e R ko s m args below meth c Q (q9WM D cT (q9eB n) A H0 (G ++ [(q, 20 + z.2.2.1, 0)]) (ws ++ [(q, .inr (z.2.2.1 % 20, F.map q9dflV))]) (q9eW n)) own (q9eT n) := by
                rw [q9c8]
                exact ⟨fun _ hh => (List.not_mem_nil hh).elim, fun _ hh => (List.not_mem_nil hh).elim, fun _ hh => (List.not_mem_nil hh).elim⟩
              have hEV1 : q9EV O p l R ko s m args c cc D cT A H0 (G ++ [(q, 20 + z.2.2.1, 0)]) own q9ALLW n K K2 z0 := by
                exact ⟨hx, hb, hml, hown, hts, hAll, hK, hG, hZ, hA, hF9, hPp, hV, hS9, hR, h6, h7, h8, h9, hH0, hZz, hzG⟩
              have hlen : (q9tE (q9newXS n z.2.2.1 F x ar)).length = (q9tE x).length + 3 := by
                show (q9tE x ++ [_, _, _]).length = _
                rw [List.length_append]
                rfl
              have go : q9GO O p l e R ko s m args below meth c Q (q9eN n) g (q9WM D cT (q9eB n) A H0 (G ++ [(q, 20 + z.2.2.1, 0)]) (ws ++ [(q, .inr (z.2.2.1 % 20, F.map q9dflV))]) (q9eW n)) (pc + 4) (q9newXS n z.2.2.1 F x ar) (q9up (q9up (q9up r (q9tE x).length .null) ((q9tE x).length + 1) (.ref q)) ((q9tE x).length + 2) (.int (-151))) := by
                refine q9seg_ok (q9step_ok hEV1 hTH1 (fun pc x ss r' hw hm => by cases hm) (fun pc x r' k hw hd hr => by cases hr)) 40 (pc + 4) _ x2 _ hseg fun r2 ha2 hl2 => ?_
                refine q9exI_ok hEV1 (by rw [hB]; exact n7) n8 hw2 d3 hss2 fun q3 hq3 r3 ha3 hl3 => ?_
                obtain ⟨x4, e4, m4⟩ := q9retL_mem hm q3 hq3
                intro G3 ws3 H3 locs3 ls3 st3 hM3 hW3
                obtain ⟨hP3, hD3, hS3, hTy3, hX3, hKe3⟩ := hW3
                have hp3 : G3[G.length]? = some (q, 20 + z.2.2.1, 0) := hX3.at hpos
                have hag3 : q9agr ((q9tE x).length + 3) (q9up (q9up (q9up r (q9tE x).length .null) ((q9tE x).length + 1) (.ref q)) ((q9tE x).length + 2) (.int (-151))) r3 := by
                  rw [hlen] at ha2 hl2
                  exact ha2.tr ha3 hl2
                have hk3 : r3 ((q9tE x).length + 1) = .ref q := (hag3 _ (by omega)).trans rk
                obtain ⟨y1, y2, y3, y4, y5, y6⟩ := q9ret1_ok hM3 hTy3 hD3 hp3 hk3 e4
                have hag : q9agr (q9tE x).length r r3 := fun k hk => (hag3 k (by omega)).trans (ag k hk)
                have hXn : q9extG G (G3.set G.length (q, z.2.2.1, 0)) := by
                  obtain ⟨Y, hY⟩ := hX3
                  refine ⟨[(q, z.2.2.1, 0)] ++ Y, ?_⟩
                  rw [hY, List.append_assoc, List.set_append_right _ _ (Nat.le_refl _), Nat.sub_self]
                  rfl
                have kk := hn (q3.1, x4) m4 r3 hag (by rw [hlen] at hl2; show _ ≤ (q9tE x4).length; rw [y3]; omega) _ ws3 H3 locs3 ls3 st3 y1 ⟨hP3, hD3, hS3, y2, hXg.tr hXn, hKe.tr hXg (fun i a t k9 e9 hi he => hKe3 i a t k9 e9 (hext.at hi) (by rw [List.getElem?_append_left (List.getElem?_eq_some_iff.mp he).1]; exact he))⟩
                dsimp only at kk
                rw [y4, y5] at kk
                exact kk
              have kk := go _ _ H1 locs ls _ hMx ⟨hP1, hD1, hS1, hTy1, q9extG.rf, q9keepW.rf⟩
              have kk : W p l e R s m args below meth c H1 locs (ko.1 + (q9tN x + 1)) (ko.2 + (q9tM x + F.length)) Q (F0 m (pc + 4) ls (.ref q :: .ref q :: st)) := kk
              exact W.widen (by omega) (by omega) kk
            · cases hm
          · cases hm
        · cases hm
      · cases hm
    · cases hm
  · cases hm
end NEWM
