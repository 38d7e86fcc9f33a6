variable {O : ORC}
/-! a method that catches, by steps of its own -/
section WX
theorem q9con_ofWX {l : Launch} {ALL : List Cond} {XP : q9ZZ → List Value → Prop} {q : q9INST} {n : q9EN} {K K2 : List (Nat × Int)} {mac : Nat → q9ST → Option (List (Nat × q9ST))} {cuts : List q9CUT} {f : Nat} (hpn : plainName (q9iY q).cls = true) (hE : q9ES O l (q9iY q).cls ALL n K K2) {B : q9TB} (hB : q9eB n = B) (hT : (q9eT n).2 = []) (h0 : q9iThr q = []) (hH : q9iHh q ≠ []) (nms : List (Nat × String)) (hnm : ∀ z ∈ nms, Cond.classLink (q9iY q).cls z.1 z.2 ∈ ALL) (hd : (q9eT n).1.all (fun h => q9hdB nms h (q9iHh q)) = true) (hm : q9MACX O XP l ALL (q9iY q).cls (q9iY q).name (q9iC q) n K K2 mac) (h : q9conB q n K K2 mac cuts f = true) : q9CONX O XP l B ALL q := by
  subst hB
  intro D cT G ws sz r z0 hTy hSR hzG hXP
  have hcw : q9iCw q = Cond.codeWith (q9iY q) (q9iC q) (q9iL q) (q9iR q) (q9iHh q) := if_neg hH
  refine ⟨fun _ => ?_, fun h9 => absurd h0 h9⟩
  refine va_MetW (cc := q9iC q) (maxL := q9iL q) (ret := q9iR q) (hh := q9iHh q) hpn (by rw [hcw]) ?_
  intro p e s m args below meth c s₁ B9 hml hv
  have hsz : s.heap.size = sz := hv.2.1.1.1
  subst hsz
  refine q9con_walk hE hm h hTy hSR hzG hXP B9 hml hv (fun _ _ _ _ _ k => k) ?_
  rw [show q9eT n = ((q9eT n).1, []) by rw [← hT]]
  refine ⟨fun h9 hh9 H locs cells slots ls rest q9 ce hq9 hv9 hc9 kk => ?_, fun _ hh => (List.not_mem_nil hh).elim, fun _ hh => (List.not_mem_nil hh).elim⟩
  have hd9 := List.all_eq_true.mp hd h9 hh9
  obtain ⟨pre, x, suf, nm, g1, g2, g3, g4, g5, g6, g7, g8, g9⟩ := q9hdB_ok hd9
  have hts0 := atoms_spec (ws := q9iCw q :: ALL) B9.pre
  have hG : GW s := hv.2.1.1.2.2.2.2
  have hown : s.vm.findClass (q9iY q).cls = some m.cls := findClass_of_methodNamed B9.named
  have htb : c.exceptionTable.toList = tableOf (q9iHh q) := vx_table (x := q9iY q) B9 (by rw [← hcw]; exact hts0 _ List.mem_cons_self)
  refine vx_catch (E := h9.2.1) (name := h9.2.1) hown pre x suf (htb.trans g1) (fun z hz => ?_) g7 g4 ?_ ?_ hq9 hv9 hc9 ?_
  · rcases g9 z hz with k1 | ⟨k1, nm', k2, k3, k4⟩
    · exact .inl k1
    · refine .inr ⟨k1, nm'.2, ?_, hG.2.2.1 _ k4⟩
      rw [← k3]
      exact hts0 _ (List.mem_cons_of_mem _ (hnm nm' k2))
  · rw [g3, ← g5]
    exact hts0 _ (List.mem_cons_of_mem _ (hnm nm g2))
  · refine gwB_any hG _ (List.mem_append_left _ (List.mem_map.mpr ⟨(nm.2, nm.2), g8, ?_⟩))
    rw [← g5]
  · rw [g6]
    exact kk
end WX
