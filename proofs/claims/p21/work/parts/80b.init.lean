variable {O : ORC}
/-! fields of what is being made -/
/-- a field's link, final or not: (place in the pool, sort, place of the field) -/
noncomputable def q9FLany (own : String) (q : Nat × Nat × Nat) : Prop := ∃ r : vw_C, vwCl[q.2.1]? = some r ∧ ((r.2.1 q.2.2).2.2.2 = false ∨ ((r.2.1 q.2.2).2.2.2 = true ∧ (r.2.1 q.2.2).1 = own))
noncomputable def q9inP_o (PL : List (Nat × Nat × Nat)) (Lp : List (Nat × Nat)) (n : q9EN) (pc : Nat) (x : q9ST) : Option (List (Nat × q9ST)) := match Lp.find? (fun z => z.1 == pc) with
  | some z0 => (match q9tS x with
    | v :: a :: rest => (match q9codeOf x a.1, PL.find? (fun q => q.1 == z0.2) with
      | some cd, some q => (match (q9eB n).1[q.2.1]?, (q9eB n).1[cd]? with
        | some F, some F' => (match F[q.2.2]?, F'[q.2.2]? with
          | some t, some t' => if cd % 20 = q.2.1 ∧ cd < 100 ∧ q.2.2 ≠ 1000 ∧ (q9subB (q9tE x) v t || ((t.1 == 2 || t.1 == 3) && q9refB (q9tE x) v.1)) = true ∧ q9subB (q9tE x) v t' = true ∧ (q9eW n).elem (64 * cd + q.2.2) = true ∧ (q9eB n).2.2.all (fun z => !(z.1 == cd) || (!(z.2.1 == q.2.2) && !(z.2.2 == q.2.2))) = true then
              some [(pc + 3, q9sS (q9sA (q9sF x ((a.1, q.2.2, v) :: (q9tF x).filter (fun z => !(z.2.1 == q.2.2) || (match q9codeOf x z.1 with | some cd' => !(cd' == cd) | none => false)))) ((q9tA x).filter (fun z => q9refB (q9tE x) z.1 || q9jB [64 * cd + q.2.2] (q9tE x) z.1))) rest)] else none
          | _, _ => none)
        | _, _ => none)
      | _, _ => none)
    | _ => none)
  | none => none
noncomputable def q9inP (PL : List (Nat × Nat × Nat)) (Lp : List (Nat × Nat)) (n : q9EN) (pc : Nat) (x : q9ST) : Option (List (Nat × q9ST)) := match q9fi9 Lp (fun z => q9eq9 (z.1) (pc)) with
  | some z0 => (match q9tS x with
    | v :: a :: rest => (match q9codeOf x a.1, q9fi9 PL (fun q => q9eq9 (q.1) (z0.2)) with
      | some cd, some q => (match (q9ge9 (q9eB n).1 (q.2.1)), (q9ge9 (q9eB n).1 (cd)) with
        | some F, some F' => (match (q9ge9 F (q.2.2)), (q9ge9 F' (q.2.2)) with
          | some t, some t' => if cd % 20 = q.2.1 ∧ cd < 100 ∧ q.2.2 ≠ 1000 ∧ (q9or9 (q9subB (q9tE x) v t) ((q9nd9 ((q9or9 (q9eq9 (t.1) (2)) (q9eq9 (t.1) (3)))) (q9refB (q9tE x) v.1)))) = true ∧ q9subB (q9tE x) v t' = true ∧ q9el9 (q9eW n) (64 * cd + q.2.2) = true ∧ q9al9 (q9eB n).2.2 (fun z => q9or9 (!(q9eq9 (z.1) (cd))) ((q9nd9 (!(q9eq9 (z.2.1) (q.2.2))) (!(q9eq9 (z.2.2) (q.2.2)))))) = true then
              some [(pc + 3, q9sS (q9sA (q9sF x ((a.1, q.2.2, v) :: q9flt9 (q9tF x) (fun z => q9or9 (!(q9eq9 (z.2.1) (q.2.2))) ((match q9codeOf x z.1 with | some cd' => !(q9eq9 (cd') (cd)) | none => false))))) (q9flt9 (q9tA x) (fun z => q9or9 (q9refB (q9tE x) z.1) (q9jB [64 * cd + q.2.2] (q9tE x) z.1)))) rest)] else none
          | _, _ => none)
        | _, _ => none)
      | _, _ => none)
    | _ => none)
  | none => none
theorem q9inP_oq : @q9inP = @q9inP_o := by
  delta q9inP q9inP_o
  simp only [q9ge9_eq, q9fi9_eq, q9an9_eq, q9al9_eq, q9flt9_eq, q9el9_eq, q9set9_eq, q9ln9_eq, q9gD9_eq, q9ap9_eq, q9eq9_N, q9eq9_I, q9eq9_A, q9eq9_E, q9eq9_OI, q9eq9_ON, q9eq9_OA, q9eq9_L, q9eq9_S, q9de9_N, q9de9_I, q9de9_A, q9le9_N, q9le9_I, q9lt9_N, q9lt9_I, q9de9_E, q9de9_OI, q9de9_ON, q9de9_OA, q9de9_L, q9nd9_eq, q9or9_eq, Bool.cond_decide]
theorem q9macx_in {XP : q9ZZ → List Value → Prop} {l : Launch} {own : String} {cc : ByteArray} {n : q9EN} {K K2 : List (Nat × Int)} (PL : List (Nat × Nat × Nat)) (Lp : List (Nat × Nat)) (hd : ∀ z ∈ Lp, decode cc z.1 = .ok (.putfield z.2, 3)) (hFL : ∀ q ∈ PL, q9FLs q9ALLW (q9eB n) own q ∧ q9FLany own q) : q9MACX O XP l q9ALLW own "<init>" cc n K K2 (q9inP PL Lp n) := by
  intro p e R ko s m args below meth c Q D cT A H0 G0 ws0 z0 g hE hT hX hN pc x ss r hw h hn
  obtain ⟨hx, hb, hml, hown, hts, hAll, hK, hG, hZ, hA, hF9, hPp, hV, hS9, hR, h6, h7, h8, h9, hH0, hZz, hzG⟩ := hE
  (rewrite [q9inP_oq] at h; unfold q9inP_o at h)
  split at h
  · rename_i z1 hz1
    have z2 := List.find?_some hz1
    simp only [beq_iff_eq] at z2
    have hdg := hd z1 (List.mem_of_find?_eq_some hz1)
    rw [z2] at hdg
    split at h
    · rename_i v a rest hTS
      split at h
      · rename_i cd q hcd hq
        split at h
        · rename_i F F' hF hF'
          split at h
          · rename_i t t' ht ht'
            split at h
            · rename_i hc
              obtain ⟨c1, c2, c3, c4, c4', c5, c6⟩ := hc
              cases h
              have q1 := List.find?_some hq
              have q2 := List.mem_of_find?_eq_some hq
              simp only [beq_iff_eq] at q1
              intro G ws H locs ls st hM hW
              obtain ⟨hP, hD, hS, hTy, hXg, hKe⟩ := hW
              obtain ⟨b, nb, eb, hm⟩ := q9codeOf_ok hM.2.2.2.1 hcd
              have eb' : q9ev r a = .ref b := by
                unfold q9ev
                rw [eb]
              obtain ⟨i, e9, g1, g2, g3⟩ := hTy.at hm
              rcases g3 with ⟨-, fs, F2, f1, f2, f3, f4, f5⟩ | ⟨hh, -⟩
              · rw [c1] at f1
                subst f1
                rw [hF'] at f2
                cases f2
                have hv : q9okAV (q9tE x) v = true := q9wf_S hw v (by rw [hTS]; exact List.mem_cons_self)
                have htv' := q9sub_ok hM.2.2.2.1 hv c4'
                obtain ⟨C, T, N, F3, t3, ty0, l1, l2, l3, l4, l5, l6, l7, l8, l9⟩ := ((hFL q q2).1.ok hts : q9FLok cT (q9eB n) s args own q)
                rw [hF] at l5
                cases l5
                rw [ht] at l6
                cases l6
                have htv : ∃ G9 : q9GH, q9tyV G9 t (q9ev r v) := by
                  rcases Bool.or_eq_true _ _ ▸ c4 with c4 | c4
                  · exact ⟨G, q9sub_ok hM.2.2.2.1 hv c4⟩
                  · rw [Bool.and_eq_true, Bool.or_eq_true, beq_iff_eq, beq_iff_eq] at c4
                    obtain ⟨k1, k2⟩ := c4
                    (rewrite [q9refB_oq] at k2; unfold q9refB_o at k2)
                    cases hE9 : (q9tE x)[v.1]? with
                    | none => rw [hE9] at k2; cases k2
                    | some u =>
                      rw [hE9] at k2
                      obtain ⟨uk, ul, uh⟩ := u
                      have h0 : uk = 2 := by simpa using k2
                      subst h0
                      obtain ⟨-, b9, n9, e9, -⟩ := q9ev_ref hM.2.2.2.1 hE9 (by simp)
                      obtain ⟨tk, tl, th⟩ := t
                      have k1 : tk = 2 ∨ tk = 3 := k1
                      rcases k1 with k1 | k1
                      · subst k1
                        exact ⟨[(b9, tl.toNat, 0)], b9, 0, e9, List.mem_cons_self⟩
                      · subst k1
                        exact ⟨[(b9, tl.toNat, 0)], .inr ⟨b9, 0, e9, List.mem_cons_self⟩⟩
                obtain ⟨G9, htv⟩ := htv
                obtain ⟨n1, n2⟩ := l9 G9 _ htv
                obtain ⟨rc, p1, p2⟩ := (hFL q q2).2
                rw [l1] at p1
                cases p1
                rw [q1] at l4
                have hjl : q.2.2 < fs.length := by rw [f3]; exact (List.getElem?_eq_some_iff.mp ht').1
                have hst := hM.2.1
                rw [hTS, List.map_cons, List.map_cons, eb'] at hst
                rw [hst]
                have fin : ∀ (H1 : Heap) (locs1 : List Loc), va_P D vwCl (ws.set i (b, .inr (q.2.1, fs.set q.2.2 (q9ev r v)))) H1 → va_D A (ws.set i (b, .inr (q.2.1, fs.set q.2.2 (q9ev r v)))) → va_S A H0 H1 locs1 → W p l e R s m args below meth c H1 locs1 (ko.1 + q9tN x) (ko.2 + q9tM x) Q (F0 m (pc + 3) ls (rest.map (q9ev r))) := by
                  intro H1 locs1 hP1 hD1 hS1
                  have hTy1 : q9tyW cT (q9eB n) G (ws.set i (b, .inr (q.2.1, fs.set q.2.2 (q9ev r v)))) := hTy.set g1 (.inl ⟨c2, _, F', by rw [c1], hF', by rw [List.length_set]; exact f3, fun j f w hj hw' => by
                    by_cases hjj : j = q.2.2
                    · subst hjj
                      rw [List.getElem?_set_self hjl] at hw'
                      rw [ht'] at hj
                      cases hj
                      cases hw'
                      exact htv'
                    · rw [List.getElem?_set_ne (fun z => hjj z.symm)] at hw'
                      exact f4 j f w hj hw', fun j j' hj => by
                    obtain ⟨u, a3, cd3, n3, u1, u2, u3, u4⟩ := f5 j j' hj
                    have hne := List.all_eq_true.mp c6 _ hj
                    simp only [beq_self_eq_true, Bool.not_true, Bool.false_or, Bool.and_eq_true, Bool.not_eq_true', beq_eq_false_iff_ne, ne_eq] at hne
                    exact ⟨u, a3, cd3, n3, by rw [List.getElem?_set_ne (fun z => hne.1 z.symm)]; exact u1, by rw [List.getElem?_set_ne (fun z => hne.2 z.symm)]; exact u2, u3, u4⟩⟩)
                  have hkeg : ∀ W9 : List Nat, 64 * cd + q.2.2 ∈ W9 → q9keepW W9 G ws (ws.set i (b, .inr (q.2.1, fs.set q.2.2 (q9ev r v)))) := fun W9 h9 => q9keepW.set g1 g2 ⟨rfl, List.length_set .., fun j hj => by
                    rw [List.getElem?_set_ne (fun z => hj (by rw [← z]; exact h9))]⟩
                  have hke := hkeg (q9eW n) (List.elem_iff.mp c5)
                  have hke1 := hkeg [64 * cd + q.2.2] List.mem_cons_self
                  have hM2 : q9SM O (q9eN n) g (q9sA (q9sF x ((a.1, q.2.2, v) :: (q9tF x).filter (fun z => !(z.2.1 == q.2.2) || (match q9codeOf x z.1 with | some cd' => !(cd' == cd) | none => false)))) ((q9tA x).filter (fun z => q9refB (q9tE x) z.1 || q9jB [64 * cd + q.2.2] (q9tE x) z.1))) r G (ws.set i (b, .inr (q.2.1, fs.set q.2.2 (q9ev r v)))) ls st := by
                    refine ⟨hM.1, hM.2.1, hM.2.2.1, hM.2.2.2.1, fun z hz => ?_, fun z hz => ?_, hM.2.2.2.2.2.2⟩
                    · rcases List.mem_cons.mp hz with rfl | hz
                      · unfold q9FMok
                        rw [if_neg c3]
                        exact ⟨b, i, q.2.1, _, eb, by rw [List.getElem?_set_self (List.getElem?_eq_some_iff.mp g2).1], List.getElem?_set_self hjl⟩
                      · obtain ⟨z1, z2⟩ := List.mem_filter.mp hz
                        have h9 := hM.2.2.2.2.1 z z1
                        unfold q9FMok at h9 ⊢
                        split
                        · rename_i h0
                          rw [if_pos h0] at h9
                          exact h9
                        · rename_i h0
                          rw [if_neg h0] at h9
                          obtain ⟨b', i', ci', fs', e1, e2, e3⟩ := h9
                          by_cases hii : i' = i
                          · subst hii
                            rw [g2] at e2
                            cases e2
                            refine ⟨b, i', q.2.1, _, e1, by rw [List.getElem?_set_self (List.getElem?_eq_some_iff.mp g2).1], ?_⟩
                            simp only [Bool.or_eq_true, Bool.not_eq_true', beq_eq_false_iff_ne, ne_eq] at z2
                            rcases z2 with z2 | z2
                            · rw [List.getElem?_set_ne (fun y => z2 y.symm)]
                              exact e3
                            · exfalso
                              cases hcz : q9codeOf x z.1 with
                              | none => rw [hcz] at z2; cases z2
                              | some cd' =>
                                rw [hcz] at z2
                                obtain ⟨b2, n2', y1, y2⟩ := q9codeOf_ok hM.2.2.2.1 hcz
                                rw [e1] at y1
                                cases y1
                                have := (hTy.one hD y2 hm).1
                                simp [this] at z2
                          · exact ⟨b', i', ci', fs', e1, by rw [List.getElem?_set_ne (fun y => hii y.symm)]; exact e2, e3⟩
                    · obtain ⟨hz, hzb⟩ := List.mem_filter.mp hz
                      rcases hM.2.2.2.2.2.1 z hz with ⟨b', i', cA, n', f, y, e1, e2, e3, e4⟩ | hJ
                      case inr =>
                        rcases Bool.or_eq_true _ _ ▸ hzb with hzb | hzb
                        · exact (q9refB_no hM.2.2.2.1 hzb hJ).elim
                        · exact .inr (q9JA_keep q9extG.rf hke1 (q9jB_ok hM.2.2.2.1 hzb) hJ)
                      refine .inl ⟨b', i', cA, n', f, y, e1, ?_, e3, e4⟩
                      by_cases hii : i' = i
                      · subst hii
                        rw [g2] at e2
                        cases e2
                      · rw [List.getElem?_set_ne (fun y => hii y.symm)]
                        exact e2
                  exact hn.one q9agr.rf (Nat.le_refl _) G _ H1 locs1 ls _ (hM2.S rest) ⟨hP1, hD1, hS1, hTy1, hXg, hKe.tr hXg hke⟩
                rcases p2 with p2 | ⟨p2, p3⟩
                · exact va_put (D := D) (ci := q.2.1) (v := q9ev r v) (C := C) (T := T) (N := N) hx hb l3 (fun _ h9 => h9) ty0 l7 l8 hown hK hP hD hS i g2 l1 q.2.2 l2 l4 (fun _ h9 => h9) p2 (l7 _ l2) n1 n2 hjl hdg fin
                · have l4' := l4
                  exact va_putF (D := D) (ci := q.2.1) (v := q9ev r v) (C := C) (T := T) (N := N) hx hb l3 (fun _ h9 => h9) ty0 l7 l8 hown hK hP hD hS i g2 l1 q.2.2 l2 l4' (fun _ h9 => h9) p2 hN p3 (l7 _ l2) n1 n2 hjl hdg fin
              · omega
            · cases h
          · cases h
        · cases h
      · cases h
    · cases h
  · cases h
