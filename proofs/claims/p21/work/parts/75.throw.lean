variable {O : ORC}
/-! throws and their catching, in the checker -/
noncomputable def q9macOr (a b : Nat → q9ST → Option (List (Nat × q9ST))) : Nat → q9ST → Option (List (Nat × q9ST)) := fun pc x => match a pc x with
  | some s => some s
  | none => b pc x
theorem q9macx_or {XP : q9ZZ → List Value → Prop} {l : Launch} {ALL : List Cond} {own nm : String} {cc : ByteArray} {n : q9EN} {K K2 : List (Nat × Int)} {a b : Nat → q9ST → Option (List (Nat × q9ST))} (ha : q9MACX O XP l ALL own nm cc n K K2 a) (hb : q9MACX O XP l ALL own nm cc n K K2 b) : q9MACX O XP l ALL own nm cc n K K2 (q9macOr a b) := by
  intro p e R ko s m args below meth c Q D cT A H0 G0 ws0 z0 g hE hT hX hN pc x ss r hw hm hn
  unfold q9macOr at hm
  split at hm
  · rename_i s9 h9
    cases hm
    exact ha hE hT hX hN pc x _ r hw h9 hn
  · exact hb hE hT hX hN pc x ss r hw hm hn
/-- a place where a new exception is thrown -/
noncomputable def q9thrM_o (sites : List (Nat × String)) (n : q9EN) (pc : Nat) (x : q9ST) : Option (List (Nat × q9ST)) := match sites.find? (fun z => z.1 == pc) with
  | some z => if (q9eT n).2.any (fun w => w.1 == z.2 && (decide (q9tN x + 1 ≤ w.2.1) && decide (q9tM x + 6 ≤ w.2.2))) && (decide (q9catS (q9tE x) (q9tS x) ≤ 8) && (decide (6 ≤ (q9eR n).1) && (decide (90 ≤ (q9eR n).2.1) && (decide (q9tN x + 1 ≤ (q9eR n).2.2.1) && decide (q9tM x + 6 ≤ (q9eR n).2.2.2))))) then some [] else none
  | none => none
noncomputable def q9thrM (sites : List (Nat × String)) (n : q9EN) (pc : Nat) (x : q9ST) : Option (List (Nat × q9ST)) := match q9fi9 sites (fun z => q9eq9 (z.1) (pc)) with
  | some z => if q9nd9 (q9an9 (q9eT n).2 (fun w => q9nd9 (q9eq9 (w.1) (z.2)) ((q9nd9 ((q9le9 (q9tN x + 1) (w.2.1))) ((q9le9 (q9tM x + 6) (w.2.2))))))) ((q9nd9 ((q9le9 (q9catS (q9tE x) (q9tS x)) (8))) ((q9nd9 ((q9le9 (6) ((q9eR n).1))) ((q9nd9 ((q9le9 (90) ((q9eR n).2.1))) ((q9nd9 ((q9le9 (q9tN x + 1) ((q9eR n).2.2.1))) ((q9le9 (q9tM x + 6) ((q9eR n).2.2.2))))))))))) then some [] else none
  | none => none
theorem q9thrM_oq : @q9thrM = @q9thrM_o := by
  delta q9thrM q9thrM_o
  simp only [q9ge9_eq, q9fi9_eq, q9an9_eq, q9al9_eq, q9flt9_eq, q9el9_eq, q9set9_eq, q9ln9_eq, q9gD9_eq, q9ap9_eq, q9eq9_N, q9eq9_I, q9eq9_A, q9eq9_E, q9eq9_OI, q9eq9_ON, q9eq9_OA, q9eq9_L, q9eq9_S, q9de9_N, q9de9_I, q9de9_A, q9le9_N, q9le9_I, q9lt9_N, q9lt9_I, q9de9_E, q9de9_OI, q9de9_ON, q9de9_OA, q9de9_L, q9nd9_eq, q9or9_eq, Bool.cond_decide]
noncomputable def q9THRs (ALL : List Cond) (cc : ByteArray) (own E : String) (pc : Nat) : Prop :=
  (∃ (ik is ic : Nat) (text : String), Bundle.fit E = true ∧ Cond.classLink own ik E ∈ ALL ∧ Cond.initialized E ∈ ALL ∧ (own = RX11 ∧ (is, text) ∈ gwS) ∧ (∀ w ∈ (vx_atS own ic E q9xNm).filter goodWord, w ∈ ALL) ∧ (∀ w ∈ (vx_atS own ic E q9xNm).filter (fun w => !goodWord w), w ∈ gwB) ∧ (∀ w ∈ Cond.classLink own ik E :: Cond.initialized E :: vx_atS own ic E q9xNm, vx_ot w = true) ∧
    decode cc pc = .ok (.new ik, 3) ∧ decode cc (pc + 3) = .ok (.dup, 1) ∧ ((decode cc (pc + 4) = .ok (.ldc is, 2) ∧ decode cc (pc + 6) = .ok (.invokespecial ic, 3) ∧ decode cc (pc + 9) = .ok (.athrow, 1)) ∨ (decode cc (pc + 4) = .ok (.ldc_w is, 3) ∧ decode cc (pc + 7) = .ok (.invokespecial ic, 3) ∧ decode cc (pc + 10) = .ok (.athrow, 1)))) ∨
  (E = zE ∧ own = RX11 ∧ ∃ (is : Nat) (text : String), Cond.classLink "PuppetFilm" 408 zE ∈ ALL ∧ Cond.initialized zE ∈ ALL ∧ (is, text) ∈ gwS ∧ (∀ w ∈ zxw, w ∈ ALL) ∧
    decode cc pc = .ok (.new 408, 3) ∧ decode cc (pc + 3) = .ok (.dup, 1) ∧ decode cc (pc + 4) = .ok (.ldc_w is, 3) ∧ decode cc (pc + 7) = .ok (.invokespecial 412, 3) ∧ decode cc (pc + 10) = .ok (.athrow, 1))
theorem q9THRs.ok {ALL : List Cond} {cc : ByteArray} {own E : String} {pc : Nat} (h : q9THRs ALL cc own E pc) {s : State} {args : Array Value} (hts : ∀ w ∈ ALL, w.before args s = true) (hG : GW s) : q9THR s args cc own E pc := by
  rcases h with ⟨ik, is, ic, text, h1, h2, h3, ⟨h4, h5⟩, h6, h7, h8, h9⟩ | ⟨h1, h2, is, text, h3, h4, h5, h6, h9⟩
  · subst h4
    obtain ⟨sa, hsa⟩ := hG.2.2.2.1 _ h5
    exact .inl ⟨ik, is, ic, sa, text, h1, hts _ h2, hts _ h3, hsa, vx_hat (fun w hw => hts w (h6 w hw)) h7 (gwB_any hG), h8, h9⟩
  · subst h2
    obtain ⟨sa, hsa⟩ := hG.2.2.2.1 _ h5
    exact .inr ⟨h1, rfl, is, sa, text, hts _ h3, hts _ h4, hsa, z_hat (fun w hw => hts w (h6 w hw)) (gwB_any hG), h9⟩
theorem q9macx_thr {XP : q9ZZ → List Value → Prop} {l : Launch} {ALL : List Cond} {own nm : String} {cc : ByteArray} {n : q9EN} {K K2 : List (Nat × Int)} (sites : List (Nat × String)) (h : ∀ z ∈ sites, q9THRs ALL cc own z.2 z.1) : q9MACX O XP l ALL own nm cc n K K2 (q9thrM sites n) := by
  intro p e R ko s m args below meth c Q D cT A H0 G0 ws0 z0 g hE hT hX hN pc x ss r hw hm hn
  (rewrite [q9thrM_oq] at hm; unfold q9thrM_o at hm)
  split at hm
  · rename_i z hz
    split at hm
    · rename_i hc
      cases hm
      have z1 := List.find?_some hz
      simp only [beq_iff_eq] at z1
      have z2 := h z (List.mem_of_find?_eq_some hz)
      simp only [Bool.and_eq_true, decide_eq_true_eq] at hc
      obtain ⟨c1, c2, c3, c4, c5, c6⟩ := hc
      obtain ⟨w, w1, w2⟩ := List.any_eq_true.mp c1
      simp only [Bool.and_eq_true, beq_iff_eq, decide_eq_true_eq] at w2
      obtain ⟨w2, w3, w4⟩ := w2
      obtain ⟨hx, hb, hml, hown, hts, hAll, hK, hG, hZ, hA, hF, hPp, hV, hS, hR, hrest⟩ := hE
      intro G ws H locs ls st hM hW
      rw [z1, ← w2, ← hb] at z2
      have hst := hM.2.1
      refine hT.2.2 w w1 G ws H locs _ _ pc ls st (z2.ok hts hG) hW (hM.1.1.trans hml.symm) ?_ (Nat.le_trans c3 hR.1) (Nat.le_trans c4 hR.2.1) ?_ ?_ (by omega) (by omega)
      · rw [hst]
        exact Nat.le_trans (q9catS_ok hM.2.2.2.1 _ (q9wf_S hw)) c2
      · have := hR.2.2.1
        omega
      · have := hR.2.2.2
        omega
    · cases hm
  · cases hm
/-- a row of a table takes what is thrown at a call: (place of the call, class, place of the handler) -/
noncomputable def q9hdB (nms : List (Nat × String)) (h : Nat × String × Nat) : List (Nat × Nat × Nat × Nat) → Bool
  | [] => false
  | z :: zs => if z.1 ≤ h.1 ∧ h.1 < z.2.1 then (match nms.find? (fun y => y.1 == z.2.2.2) with
    | some nm => !(z.2.2.2 == 0) && (if nm.2 = h.2.1 then z.2.2.1 == h.2.2 && gwC.elem (nm.2, nm.2) else gwX.elem (h.2.1, nm.2) && q9hdB nms h zs)
    | none => false) else q9hdB nms h zs
theorem q9hdB_ok {nms : List (Nat × String)} {h : Nat × String × Nat} : ∀ {hh : List (Nat × Nat × Nat × Nat)}, q9hdB nms h hh = true → ∃ (pre : List ExceptionTableEntry) (x : ExceptionTableEntry) (suf : List ExceptionTableEntry) (nm : Nat × String), tableOf hh = pre ++ x :: suf ∧ nm ∈ nms ∧ x.catchType = nm.1 ∧ x.catchType ≠ 0 ∧ nm.2 = h.2.1 ∧ x.handlerPc = h.2.2 ∧ covers x h.1 = true ∧ (nm.2, nm.2) ∈ gwC ∧
    ∀ z ∈ pre, covers z h.1 = false ∨ (z.catchType ≠ 0 ∧ ∃ nm' ∈ nms, nm'.1 = z.catchType ∧ (h.2.1, nm'.2) ∈ gwX)
  | [], hh => by cases hh
  | z :: zs, hh => by
    unfold q9hdB at hh
    split at hh
    · rename_i hc
      cases hf : nms.find? (fun y => y.1 == z.2.2.2) with
      | none => rw [hf] at hh; cases hh
      | some nm =>
        rw [hf] at hh
        have f1 := List.find?_some hf
        simp only [beq_iff_eq] at f1
        have f2 := List.mem_of_find?_eq_some hf
        rw [Bool.and_eq_true] at hh
        obtain ⟨h0, hh⟩ := hh
        have h0 : z.2.2.2 ≠ 0 := by simpa using h0
        split at hh
        · rename_i he
          simp only [Bool.and_eq_true, beq_iff_eq, List.elem_iff] at hh
          exact ⟨[], ⟨z.1, z.2.1, z.2.2.1, z.2.2.2⟩, tableOf zs, nm, rfl, f2, f1.symm, h0, he, hh.1, by simp [covers, hc.1, hc.2], hh.2, fun y hy => by cases hy⟩
        · rw [Bool.and_eq_true, List.elem_iff] at hh
          obtain ⟨pre, x, suf, nm', g1, g2, g3, g4, g5, g6, g7, g8, g9⟩ := q9hdB_ok hh.2
          refine ⟨⟨z.1, z.2.1, z.2.2.1, z.2.2.2⟩ :: pre, x, suf, nm', by show _ :: tableOf zs = _; rw [g1]; rfl, g2, g3, g4, g5, g6, g7, g8, fun y hy => ?_⟩
          rcases List.mem_cons.mp hy with rfl | hy
          · exact .inr ⟨h0, nm, f2, f1, hh.1⟩
          · exact g9 y hy
    · rename_i hc
      obtain ⟨pre, x, suf, nm', g1, g2, g3, g4, g5, g6, g7, g8, g9⟩ := q9hdB_ok hh
      refine ⟨⟨z.1, z.2.1, z.2.2.1, z.2.2.2⟩ :: pre, x, suf, nm', by show _ :: tableOf zs = _; rw [g1]; rfl, g2, g3, g4, g5, g6, g7, g8, fun y hy => ?_⟩
      rcases List.mem_cons.mp hy with rfl | hy
      · refine .inl ?_
        show (decide (z.1 ≤ h.1) && decide (h.1 < z.2.1)) = false
        rw [Bool.and_eq_false_iff]
        by_cases h1 : z.1 ≤ h.1
        · exact .inr (decide_eq_false fun h2 => hc ⟨h1, h2⟩)
        · exact .inl (decide_eq_false h1)
      · exact g9 y hy
/-- a method with handlers, that lets nothing out -/
theorem q9con_ofW {l : Launch} {ALL : List Cond} {q : q9INST} {n : q9EN} {K K2 : List (Nat × Int)} {cuts : List q9CUT} {f : Nat} (hpn : plainName (q9iY q).cls = true) (hE : q9ES O l (q9iY q).cls ALL n K K2) {B : q9TB} (hB : q9eB n = B) (hT : (q9eT n).2 = []) (h0 : q9iThr q = []) (hH : q9iHh q ≠ []) (nms : List (Nat × String)) (hnm : ∀ z ∈ nms, Cond.classLink (q9iY q).cls z.1 z.2 ∈ ALL) (hd : (q9eT n).1.all (fun h => q9hdB nms h (q9iHh q)) = true) (h : q9conB q n K K2 (fun _ _ => none) cuts f = true) : q9CON O l B ALL q := by
  subst hB
  intro D cT G ws sz r z0 hTy hSR hzG hXP
  have hcw : q9iCw q = Cond.codeWith (q9iY q) (q9iC q) (q9iL q) (q9iR q) (q9iHh q) := if_neg hH
  refine ⟨fun _ => ?_, fun h9 => absurd h0 h9⟩
  refine va_MetW (cc := q9iC q) (maxL := q9iL q) (ret := q9iR q) (hh := q9iHh q) hpn (by rw [hcw]) ?_
  intro p e s m args below meth c s₁ B9 hml hv
  have hsz : s.heap.size = sz := hv.2.1.1.1
  subst hsz
  refine q9con_walk hE (q9macx_none (XP := fun _ _ => True)) h hTy hSR hzG hXP B9 hml hv (fun _ _ _ _ _ k => k) ?_
  rw [show q9eT n = ((q9eT n).1, []) by rw [← hT]]
  refine ⟨fun h9 hh9 H locs cells slots ls rest q9 ce hq9 hv9 hc9 kk => ?_, fun _ hh => (List.not_mem_nil hh).elim, fun _ hh => (List.not_mem_nil hh).elim⟩
  have hd9 := List.all_eq_true.mp hd h9 hh9
  obtain ⟨pre, x, suf, nm, g1, g2, g3, g4, g5, g6, g7, g8, g9⟩ := q9hdB_ok hd9
  have hts0 := atoms_spec (ws := q9iCw q :: ALL) B9.pre
  have hG : GW s := hv.2.1.1.2.2.2.2
  have hown : s.vm.findClass (q9iY q).cls = some m.cls := findClass_of_methodNamed B9.named
  have htb : c.exceptionTable.toList = tableOf (q9iHh q) := vx_table (x := q9iY q) B9 (by rw [← hcw]; exact hts0 _ List.mem_cons_self)
  refine vx_catch (E := h9.2.1) (name := h9.2.1) hown pre x suf (htb.trans g1) (fun z hz => ?_) g7 g4 ?_ ?_ hq9 hv9 hc9 ?_
  · rcases g9 z hz with k1 | ⟨k1, nm', k2, k3, k4⟩
    · exact .inl k1
    · refine .inr ⟨k1, nm'.2, ?_, hG.2.2.1 _ k4⟩
      rw [← k3]
      exact hts0 _ (List.mem_cons_of_mem _ (hnm nm' k2))
  · rw [g3, ← g5]
    exact hts0 _ (List.mem_cons_of_mem _ (hnm nm g2))
  · refine gwB_any hG _ (List.mem_append_left _ (List.mem_map.mpr ⟨(nm.2, nm.2), g8, ?_⟩))
    rw [← g5]
  · rw [g6]
    exact kk
