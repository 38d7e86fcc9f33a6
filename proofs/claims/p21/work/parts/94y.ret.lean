variable {O : ORC}
/-! what is told once q9more where a method returns -/
noncomputable def q9RTX (O : ORC) (B : q9TB) (q : q9INST) (rt : Nat → q9ST → Bool) : Prop := ∀ (k : Nat) (x : q9ST), rt k x = true → ∀ (nL : Nat) (g : List Value) (cT : Nat → ClassId) (A : Nat → Prop) (r : Nat → Value) (G : q9GH) (ws : va_W) (ls : Array Slot) (st : List Value), q9wfB x = true → q9SM O nL g x r G ws ls st → q9tyW cT B G ws → va_D A ws →
  ∃ (x1 : q9ST) (r1 : Nat → Value), q9wfB x1 = true ∧ q9rtB q k x1 = true ∧ q9tN x1 = q9tN x ∧ q9tM x1 = q9tM x ∧ q9SM O nL g x1 r1 G ws ls st
noncomputable def q9rtR_o (fs : List q9RF) (q : q9INST) (k : Nat) (x : q9ST) : Bool := match q9rfSeq fs x with
  | some xs => xs.all (fun y => q9wfQ y && q9rtB q k y)
  | none => false
noncomputable def q9rtR (fs : List q9RF) (q : q9INST) (k : Nat) (x : q9ST) : Bool := match q9rfSeq fs x with
  | some xs => q9al9 xs (fun y => q9nd9 (q9wfQ y) (q9rtB q k y))
  | none => false
theorem q9rtR_oq : @q9rtR = @q9rtR_o := by
  delta q9rtR q9rtR_o
  simp only [q9ge9_eq, q9fi9_eq, q9an9_eq, q9al9_eq, q9flt9_eq, q9el9_eq, q9set9_eq, q9ln9_eq, q9gD9_eq, q9ap9_eq, q9eq9_N, q9eq9_I, q9eq9_A, q9eq9_E, q9eq9_OI, q9eq9_ON, q9eq9_OA, q9eq9_L, q9eq9_S, q9de9_N, q9de9_I, q9de9_A, q9le9_N, q9le9_I, q9lt9_N, q9lt9_I, q9de9_E, q9de9_OI, q9de9_ON, q9de9_OA, q9de9_L, q9nd9_eq, q9or9_eq, Bool.cond_decide]
theorem q9rtR_ok {fs : List q9RF} {q : q9INST} (hf : ∀ f ∈ fs, q9RFok O f) : q9RTX O q9TBL q (q9rtR fs q) := by
  intro k x h nL g cT A r G ws ls st hw hM hT hD
  (rewrite [q9rtR_oq] at h; unfold q9rtR_o at h)
  split at h
  · rename_i xs hxs
    obtain ⟨x1, m1, r1, -, -, n1, n2, h1⟩ := q9rfSeq_ok hf nL g cT A x r G ws ls st xs hw hM hT hD hxs
    have h9 := List.all_eq_true.mp h x1 m1
    rw [Bool.and_eq_true] at h9
    exact ⟨x1, r1, q9wfQ_ok h9.1, h9.2, n1, n2, h1⟩
  · cases h
noncomputable def q9conR (q : q9INST) (n : q9EN) (K K2 : List (Nat × Int)) (mac : Nat → q9ST → Option (List (Nat × q9ST))) (rt : Nat → q9ST → Bool) (cuts : List q9CUT) (f : Nat) : Bool :=
  q9chk (q9step n K K2 mac rt (q9iC q)) cuts none f 0 (q9iPre q) && (cuts.all (fun k => q9chk (q9step n K K2 mac rt (q9iC q)) cuts (some k.2.2.2) f k.1 k.2.1 && k.2.2.2.all (fun q => decide (q.1 = 0) || decide (q.2.1 < (q9tE k.2.1).length))) &&
  (q9numB (q9tE (q9iPre q)) 0 (q9tL (q9iPre q)) && ((q9tL (q9iPre q)).all (fun z => q9okAV (q9tE (q9iPre q)) z.2) && (decide (q9slN (q9tE (q9iPre q)) (q9tL (q9iPre q)) ≤ q9iL q) && (decide (q9tN (q9iPre q) = 0) && (decide (q9tM (q9iPre q) = 0) && (decide (q9eR n = (q9iFr q, q9iLc q, q9iMc q, q9iMs q)) && (decide (q9eN n = q9iL q) && (decide (q9eW n = q9iW q) && (q9iThr q).all (fun w => decide (w.2.1 ≤ q9iMc q) && decide (w.2.2 ≤ q9iMs q)))))))))))
theorem q9con_walkR {l : Launch} {ALL : List Cond} {XP : q9ZZ → List Value → Prop} {q : q9INST} {n : q9EN} {K K2 : List (Nat × Int)} {mac : Nat → q9ST → Option (List (Nat × q9ST))} {rt : Nat → q9ST → Bool} {cuts : List q9CUT} {f : Nat} (hE : q9ES O l (q9iY q).cls ALL n K K2) (hm : q9MACX O XP l ALL (q9iY q).cls (q9iY q).name (q9iC q) n K K2 mac) (hrx : q9RTX O (q9eB n) q rt) (h : q9conR q n K K2 mac rt cuts f = true)
    {D : va_G} {cT : Nat → ClassId} {G : q9GH} {ws : va_W} {r : Nat → Value} {z0 : q9ZZ} (hTy : q9tyW cT (q9eB n) G ws) (hSR : q9SR O ((q9tG (q9iPre q)).map (q9ev r)) (q9iPre q) r G ws []) (hzG : True) (hXP : XP z0 ((q9tG (q9iPre q)).map (q9ev r)))
    {p : Program} {e : Env} {s : State} {m : MethodId} {args : Array Value} {below : List Frame} {meth : Method} {c : Code} {s₁ : State} (B9 : BodyLoose p l (q9iY q) (headSpec (q9iCw q :: ALL) (q9iRm q)) (q9iC q) (q9iL q) (q9iR q) e s m args below meth c s₁) (hml : c.maxLocals = q9iL q) (hv : va_Pc ((q9tL (q9iPre q)).map fun z => q9ev r z.2) (q9PSd z0 D cT ws s.heap.size) args s)
    {Q : State → Prop} (hret : ∀ (H : Heap) (locs : List Loc) (cells slots : Nat) (g : JFrame), W p l e (headSpec (q9iCw q :: ALL) (q9iRm q)).room s m args below meth c H locs cells slots (MQ below (q9QV (q9POST O D cT (q9eB n) (q9iW q) G ws (va_A ws s.heap.size) ((q9tG (q9iPre q)).map (q9ev r)) (q9iPost q)) (va_A ws s.heap.size)) args s (q9iMc q) (q9iMs q) (va_A ws s.heap.size)) g → W p l e (headSpec (q9iCw q :: ALL) (q9iRm q)).room s m args below meth c H locs cells slots Q g)
    (hTH : q9THok p l e (headSpec (q9iCw q :: ALL) (q9iRm q)).room (0, 0) s m args below meth c Q (q9WM D cT (q9eB n) (va_A ws s.heap.size) s.heap G ws (q9eW n)) (q9iY q).cls (q9eT n)) :
    W p l e (headSpec (q9iCw q :: ALL) (q9iRm q)).room s m args below meth c s.heap [] 0 0 Q (entryFrame m args (q9iL q)) := by
  unfold q9conR at h
  simp only [Bool.and_eq_true, decide_eq_true_eq] at h
  obtain ⟨h1, h2, h3, h4, h5, h6, h7, h8, h9, h10, h11⟩ := h
  obtain ⟨rfl, ⟨⟨hsz, hP, hK, hD0, hG⟩, hZ⟩, hZz⟩ := hv
  have hx := B9.exec
  have hb := B9.bytes
  have hr := B9.returns
  have hts0 := atoms_spec (ws := q9iCw q :: ALL) B9.pre
  have hlocks := B9.notSynchronized
  have hown : s.vm.findClass (q9iY q).cls = some m.cls := findClass_of_methodNamed B9.named
  have hD := hD0.self (sz := s.heap.size)
  have hS0 : q9SAT G (q9tE (q9iPre q)) r := hSR.2.2.1
  have ho : ∀ z ∈ q9tL (q9iPre q), q9okAV (q9tE (q9iPre q)) z.2 = true := fun z hz => List.all_eq_true.mp h4 z hz
  have hl := lv_entry ((q9tL (q9iPre q)).map fun z => q9ev r z.2) (n := q9iL q) (by rw [q9sl_len hS0 _ ho]; exact h5)
  rw [q9args_eq hS0 (q9tL (q9iPre q)) 0 h3 ho] at hl
  rw [lg_entry_eq]
  generalize (lg_sl ((q9tL (q9iPre q)).map fun z => q9ev r z.2) ++ List.replicate (q9iL q - (lg_sl ((q9tL (q9iPre q)).map fun z => q9ev r z.2)).length) Slot.unset).toArray = ls at hl ⊢
  have hEV : q9EV O p l (headSpec (q9iCw q :: ALL) (q9iRm q)).room (0, 0) s m ((q9tL (q9iPre q)).map fun z => q9ev r z.2).toArray c (q9iC q) D cT (va_A ws s.heap.size) s.heap G (q9iY q).cls ALL n K K2 z0 :=
    hE.ev (z := z0) rfl hZz hzG hx hb (hml.trans h9.symm) hown (fun w hw => hts0 w (List.mem_cons_of_mem _ hw)) hK hG hZ (fun z hz => .inr hz) (by rw [h8]; exact ⟨Nat.le_refl _, Nat.le_refl _, Nat.le_of_eq (Nat.zero_add _), Nat.le_of_eq (Nat.zero_add _)⟩)
  have hgo : q9GO O p l e (headSpec (q9iCw q :: ALL) (q9iRm q)).room (0, 0) s m ((q9tL (q9iPre q)).map fun z => q9ev r z.2).toArray below meth c Q (q9eN n) ((q9tG (q9iPre q)).map (q9ev r)) (q9WM D cT (q9eB n) (va_A ws s.heap.size) s.heap G ws (q9eW n)) 0 (q9iPre q) r := by
    refine q9walk_ok (q9step_ok hEV hTH (hm hEV hTH hXP (name_of_methodNamed B9.named B9.method).1) ?_) h2 h1 r
    intro pc x r' k hw hdg hrt G1 ws1 H locs ls1 st hM hW
    obtain ⟨hP1, hD1, hS1, hT1, hX1, hK1⟩ := hW
    obtain ⟨x1, r1, hw1, hrt1, hn1, hn2, hM1⟩ := hrx k x hrt _ _ cT _ r' G1 ws1 ls1 st hw hM hT1 hD1
    rw [← hn1, ← hn2]
    have hM := hM1
    have hw := hw1
    have hrt := hrt1
    (rewrite [q9rtB_oq] at hrt; unfold q9rtB_o at hrt)
    simp only [Bool.and_eq_true, decide_eq_true_eq] at hrt
    obtain ⟨t1, t2, t3, t4⟩ := hrt
    obtain ⟨qc, rc, e1, e2, e3, e4⟩ := q9endB_ok hM t2
    refine hret _ _ _ _ _ (q9w_lift (Qc := q9QV (fun v st9 t => q9POST0 O D cT (q9eB n) (q9iW q) G ws (va_A ws s.heap.size) ((q9tG (q9iPre q)).map (q9ev r)) qc v t) (va_A ws s.heap.size)) ?_ (fun o t h9 hB9 => ?_) (by omega) (by omega))
    rotate_left
    · obtain ⟨⟨v, rfl, G', ws', r9, p2, p3, p4, p5, p6, p7⟩, hF9⟩ := h9
      exact ⟨⟨v, rfl, G', ws', r9, qc, e1, p2, p3, p4, p5, p6, p7, hB9.mono (by omega) (by omega)⟩, hF9⟩
    have post : ∀ v : Option Value, v.toList = st → ∀ t : State, t.heap = H → q9QV (fun v st9 t => q9POST0 O D cT (q9eB n) (q9iW q) G ws (va_A ws s.heap.size) ((q9tG (q9iPre q)).map (q9ev r)) qc v t) (va_A ws s.heap.size) ((q9tL (q9iPre q)).map fun z => q9ev r z.2).toArray s (.returned v) t := fun v hv9 t ht =>
      ⟨⟨v, rfl, G1, ws1, rc, hX1, by rw [ht]; exact hP1, hD1, hT1, by rw [← h10]; exact hK1, by rw [hv9]; exact e2⟩, hS1.F ht⟩
    have hst := hM.2.1
    (rewrite [q9retB_oq] at t1; unfold q9retB_o at t1)
    split at t1
    · rename_i v hT
      rw [hT] at hst
      have hv9 : q9okAV (q9tE x1) v = true := q9wf_S hw v (by rw [hT]; exact List.mem_cons_self)
      have hdg : decode (q9iC q) pc = .ok (.ireturn, 1) := by
        rcases hdg with ⟨-, h⟩ | ⟨h, -⟩ | ⟨h, -⟩ | ⟨h, -⟩
        · exact h
        · cases h
        · cases h
        · cases h
      split at t1
      · rename_i hR9
        obtain ⟨u, eu⟩ := q9isInt_ok hM.2.2.2.1 hv9 t1
        rw [List.map_cons, eu] at hst
        have hst : st = [.int u] := hst
        rw [hst]
        exact W.iret hx hb (hr.trans hR9) (fun t ht _ => post (some (.int u)) hst.symm t ht) hS1.2.2 hdg hlocks
      · rename_i hR9
        split at t1
        · rename_i lo hi hn9
          rw [Bool.and_eq_true, decide_eq_true_eq, decide_eq_true_eq] at t1
          obtain ⟨u, eu, -, u1, u2⟩ := q9num_int hM.2.2.2.1 hv9 hn9
          rw [List.map_cons, eu] at hst
          have hst : st = [.int u] := hst
          rw [hst]
          exact W.zret (ty := .boolean) hx hb (hr.trans hR9) (congrArg Value.int (q9nar1 (by omega) (by omega))) (fun t ht _ => post (some (.int u)) hst.symm t ht) hS1.2.2 hdg hlocks
        · cases t1
      · cases t1
    · rename_i v hT
      rw [hT] at hst
      have hv9 : q9okAV (q9tE x1) v = true := q9wf_S hw v (by rw [hT]; exact List.mem_cons_self)
      have hdg : decode (q9iC q) pc = .ok (.areturn, 1) := by
        rcases hdg with ⟨h, -⟩ | ⟨-, h⟩ | ⟨h, -⟩ | ⟨h, -⟩
        · cases h
        · exact h
        · cases h
        · cases h
      split at t1
      · rename_i t ht9
        rw [Bool.and_eq_true] at t1
        have h0 : t.1 ≠ 0 := by
          intro h0
          rw [h0] at t1
          exact absurd t1.1 (by decide)
        have hnull := q9tyR t1.1 (.inl (q9ev_ref hM.2.2.2.1 ht9 h0).2)
        have hst : st = [q9ev r1 v] := hst
        rw [hst]
        have hobj : ∃ rt, q9iR q = some rt ∧ ((∃ n, rt = .object n) ∨ ∃ t, rt = .array t) := by
          have t2 := t1.2
          split at t2
          · rename_i a hR9; exact ⟨_, hR9, .inl ⟨_, rfl⟩⟩
          · rename_i a hR9; exact ⟨_, hR9, .inr ⟨_, rfl⟩⟩
          · cases t2
        obtain ⟨rt, hR9, hrt9⟩ := hobj
        exact W.aret hx hb (hr.trans hR9) hrt9 hnull (fun t ht _ => post (some (q9ev r1 v)) hst.symm t ht) hS1.2.2 hdg hlocks
      · cases t1
    · rename_i hT
      rw [hT] at hst
      have hdg : decode (q9iC q) pc = .ok (.return_, 1) := by
        rcases hdg with ⟨h, -⟩ | ⟨h, -⟩ | ⟨-, h⟩ | ⟨h, -⟩
        · cases h
        · cases h
        · exact h
        · cases h
      split at t1
      · rename_i hR9
        have hst : st = [] := hst
        rw [hst]
        exact W.vret hx hb (hr.trans hR9) (fun t ht _ => post none hst.symm t ht) hS1.2.2 hdg hlocks
      · cases t1
    · rename_i v hT
      rw [hT] at hst
      have hdg : decode (q9iC q) pc = .ok (.lreturn, 1) := by
        rcases hdg with ⟨h, -⟩ | ⟨h, -⟩ | ⟨h, -⟩ | ⟨-, h⟩
        · cases h
        · cases h
        · cases h
        · exact h
      rw [Bool.and_eq_true] at t1
      obtain ⟨u, eu⟩ := q9isLng_ok hM.2.2.2.1 t1.1
      have t2 := t1.2
      split at t2
      · rename_i hR9
        rw [List.map_cons, eu] at hst
        have hst : st = [.long u] := hst
        rw [hst]
        exact W.lret hx hb (hr.trans hR9) (fun t ht _ => post (some (.long u)) hst.symm t ht) hS1.2.2 hdg hlocks
      · cases t2
    · cases t1
  have k := hgo G ws s.heap [] ls [] ⟨by rw [h9]; exact hl, hSR⟩ ⟨hP, hD, va_S.rf, hTy, q9extG.rf, q9keepW.rf⟩
  rw [h6, h7] at k
  exact k
theorem q9con_ofXR {l : Launch} {ALL : List Cond} {XP : q9ZZ → List Value → Prop} {q : q9INST} {n : q9EN} {K K2 : List (Nat × Int)} {mac : Nat → q9ST → Option (List (Nat × q9ST))} {rt : Nat → q9ST → Bool} {cuts : List q9CUT} {f : Nat} (hst : l.stackTraces = false) (hpl : plainFor (q9iY q) = true) (hpn : q9iThr q ≠ [] → plainName (q9iY q).cls = true) (hE : q9ES O l (q9iY q).cls ALL n K K2) {B : q9TB} (hB : q9eB n = B) (hT : q9eT n = ([], q9iThr q)) (hH : q9iHh q = []) (hm : q9MACX O XP l ALL (q9iY q).cls (q9iY q).name (q9iC q) n K K2 mac) (hrx : q9RTX O B q rt) (h : q9conR q n K K2 mac rt cuts f = true) : q9CONX O XP l B ALL q := by
  subst hB
  intro D cT G ws sz r z0 hTy hSR hzG hXP
  have hcw : q9iCw q = Cond.code (q9iY q) (q9iC q) (q9iL q) (q9iR q) := if_pos hH
  refine ⟨fun h0 => ?_, fun h0 => ?_⟩
  · refine q9ofWF (cc := q9iC q) (maxL := q9iL q) (ret := q9iR q) hpl (by rw [hcw]) ?_
    intro p e s m args below meth c s₁ B9 hml hv
    have hsz : s.heap.size = sz := hv.2.1.1.1
    subst hsz
    refine q9con_walkR hE hm hrx h hTy hSR hzG hXP B9 hml hv (fun _ _ _ _ _ k => k) ?_
    rw [hT, h0]
    exact ⟨fun _ hh => (List.not_mem_nil hh).elim, fun _ hh => (List.not_mem_nil hh).elim, fun _ hh => (List.not_mem_nil hh).elim⟩
  · refine vx_ofW (cc := q9iC q) (maxL := q9iL q) (ret := q9iR q) (hpn h0) (by rw [hcw]) ?_
    intro p e s m args below meth c s₁ B9 hml hex hv
    have hsz : s.heap.size = sz := hv.2.1.1.1
    subst hsz
    have hlocks := B9.notSynchronized
    have h' := h
    unfold q9conR at h'
    simp only [Bool.and_eq_true, decide_eq_true_eq] at h'
    obtain ⟨-, -, -, -, -, -, -, -, -, h10, h11⟩ := h'
    refine q9con_walkR hE hm hrx h hTy hSR hzG hXP B9 hml hv (fun _ _ _ _ _ k => vx_ret k) ?_
    rw [hT]
    have fin : ∀ (w : String × Nat × Nat), w ∈ q9iThr q → ∀ (G1 : q9GH) (ws1 : va_W) (H : Heap) (locs : List Loc), q9WM D cT (q9eB n) (va_A ws s.heap.size) s.heap G ws (q9eW n) G1 ws1 H locs → ∀ (k9 n9 : Nat), k9 ≤ w.2.1 → n9 ≤ w.2.2 → ∀ (E : String) (t : State), (E = w.1 ∧ H.size ≤ t.heap.size ∧ ∀ q : Nat, q < H.size → t.heap[q]? = H[q]?) → q9newB s.heap t.heap k9 n9 → q9XTH D cT (q9eB n) (q9iW q) G ws (va_A ws s.heap.size) (q9iThr q) E s t := by
      intro w hw G1 ws1 H locs hWM k9 n9 hk9 hn9 E t h8 hB9
      obtain ⟨hP1, hD1, hS1, hT1, hX1, hK1⟩ := hWM
      obtain ⟨rfl, ht1, ht2⟩ := h8
      exact ⟨w, hw, rfl, hB9.mono hk9 hn9, ⟨Nat.le_trans hS1.1 ht1, fun q h1 h2 => (ht2 q (Nat.lt_of_lt_of_le h1 hS1.1)).trans (hS1.2.1 q h1 h2)⟩, G1, ws1, hX1, hP1.kept (fun k q hk => ht2 q.1 (vx_lt hP1 hk)), hD1, hT1, by rw [← h10]; exact hK1⟩
    have hmc : ∀ w ∈ q9iThr q, w.2.1 ≤ q9iMc q ∧ w.2.2 ≤ q9iMs q := fun w hw => by
      have h12 := List.all_eq_true.mp h11 w hw
      simpa only [Bool.and_eq_true, decide_eq_true_eq] using h12
    refine ⟨fun _ hh => (List.not_mem_nil hh).elim, fun w hw G1 ws1 H locs cells slots pc ls rest q9 ce hWM hq9 hv9 hc9 hc hs => ?_, fun w hw G1 ws1 H locs cells slots pc ls rest hTR hWM hls hcat hf6 hl90 hrc hrs hc hs => ?_⟩
    · have hmw := hmc w hw
      exact q9vx_lift (XC := fun E st t => E = w.1 ∧ H.size ≤ t.heap.size ∧ ∀ q : Nat, q < H.size → t.heap[q]? = H[q]?) (vx_out (fun x hx9 => (hex x hx9).elim) hlocks hq9 hv9 hc9 (fun t ht9 hA9 => ⟨rfl, by rw [ht9]; exact Nat.le_refl _, fun q _ => by rw [ht9]⟩) hWM.2.2.1.2.2 (Nat.le_refl _) (Nat.le_refl _)) (fin w hw G1 ws1 H locs hWM _ _ (by omega) (by omega)) (by omega) (by omega)
    · have hmw := hmc w hw
      have hx := B9.exec
      have hown : s.vm.findClass (q9iY q).cls = some m.cls := findClass_of_methodNamed B9.named
      have hZ : GZ (va_A ws s.heap.size) s s.heap := hv.2.1.2
      rcases hTR with ⟨ik, is, ic, sa, text, g1, g2, g3, g4, g5, g6, d0, d3, ⟨d4, d6, d9⟩ | ⟨d4, d6, d9⟩⟩ | ⟨e1, e2, is, sa, text, g2, g3, g4, g5, d0, d3, d4, d6, d9⟩
      · refine q9vxw_lift (mc := q9iMc q) (ms := q9iMs q) (k9 := cells + 1) (n9 := slots + 6) (XC := fun E st t => E = w.1 ∧ H.size ≤ t.heap.size ∧ ∀ q : Nat, q < H.size → t.heap[q]? = H[q]?) (vx_throwS (own := (q9iY q).cls) (cls := w.1) (text := text) (names := q9xNm) (ik := ik) (is := is) (ic := ic) (A := va_A ws s.heap.size) hx rfl hst hown g1 (by decide +kernel) g2 g3 g4 g5 g6 hZ.1 hZ.2 hWM.2.2.1 hls d0 d3 d4 d6 d9 (fun x hx9 => (hex x hx9).elim) (by show 2 + 3 < _; omega) (by show _ + (13 * (2 + 1) + 43) ≤ _; omega) hrc hrs hlocks (fun t hA9 h1 h2 => ⟨rfl, h1, h2⟩) hWM.2.2.1.2.2 (Nat.le_refl _) (Nat.le_refl _)) (fin w hw G1 ws1 H locs hWM _ _ (by omega) (by omega)) (by omega) (by omega)
      · refine q9vxw_lift (mc := q9iMc q) (ms := q9iMs q) (k9 := cells + 1) (n9 := slots + 6) (XC := fun E st t => E = w.1 ∧ H.size ≤ t.heap.size ∧ ∀ q : Nat, q < H.size → t.heap[q]? = H[q]?) (vx_throwSW (own := (q9iY q).cls) (cls := w.1) (text := text) (names := q9xNm) (ik := ik) (is := is) (ic := ic) (A := va_A ws s.heap.size) hx rfl hst hown g1 (by decide +kernel) g2 g3 g4 g5 g6 hZ.1 hZ.2 hWM.2.2.1 hls d0 d3 d4 d6 d9 (fun x hx9 => (hex x hx9).elim) (by show 2 + 3 < _; omega) (by show _ + (13 * (2 + 1) + 43) ≤ _; omega) hrc hrs hlocks (fun t hA9 h1 h2 => ⟨rfl, h1, h2⟩) hWM.2.2.1.2.2 (Nat.le_refl _) (Nat.le_refl _)) (fin w hw G1 ws1 H locs hWM _ _ (by omega) (by omega)) (by omega) (by omega)
      · rw [e2] at hown
        refine z_make (text := text) (is := is) (A := va_A ws s.heap.size) hx rfl hst hown g2 g3 g4 g5 z_good hZ.1 hZ.2 hWM.2.2.1 hls d0 d3 d4 d6 (fun z hz => .inr hz) (by omega) (by omega) hrc hrs fun q9 ce H1 hq9 hv9 hc9 hk9 hS1 => ?_
        refine vx_athrow hx rfl d9 ?_
        refine q9vx_lift (XC := fun E st t => E = w.1 ∧ H.size ≤ t.heap.size ∧ ∀ q : Nat, q < H.size → t.heap[q]? = H[q]?) (vx_out (fun x hx9 => (hex x hx9).elim) hlocks hq9 hv9 hc9 (fun t ht9 hA9 => ⟨e1.symm, by rw [ht9]; exact hk9.1, fun q hq => by rw [ht9]; exact hk9.2 q hq⟩) hS1.2.2 (Nat.le_refl _) (Nat.le_refl _)) (fin w hw G1 ws1 H locs hWM _ _ (by omega) (by omega)) (by omega) (by omega)
theorem q9conB_of {q : q9INST} {n : q9EN} {K K2 : List (Nat × Int)} {mac : Nat → q9ST → Option (List (Nat × q9ST))} {cuts : List q9CUT} {f : Nat} (h0 : q9chk (q9step n K K2 mac (q9rtB q) (q9iC q)) cuts none f 0 (q9iPre q) = true) (h1 : ∀ k ∈ cuts, (q9chk (q9step n K K2 mac (q9rtB q) (q9iC q)) cuts (some k.2.2.2) f k.1 k.2.1 && k.2.2.2.all (fun q => decide (q.1 = 0) || decide (q.2.1 < (q9tE k.2.1).length))) = true)
    (h2 : (q9numB (q9tE (q9iPre q)) 0 (q9tL (q9iPre q)) && ((q9tL (q9iPre q)).all (fun z => q9okAV (q9tE (q9iPre q)) z.2) && (decide (q9slN (q9tE (q9iPre q)) (q9tL (q9iPre q)) ≤ q9iL q) && (decide (q9tN (q9iPre q) = 0) && (decide (q9tM (q9iPre q) = 0) && (decide (q9eR n = (q9iFr q, q9iLc q, q9iMc q, q9iMs q)) && (decide (q9eN n = q9iL q) && (decide (q9eW n = q9iW q) && (q9iThr q).all (fun w => decide (w.2.1 ≤ q9iMc q) && decide (w.2.2 ≤ q9iMs q)))))))))) = true) : q9conB q n K K2 mac cuts f = true := by
  unfold q9conB
  rw [Bool.and_eq_true, Bool.and_eq_true]
  exact ⟨h0, List.all_eq_true.mpr h1, h2⟩
theorem q9conR_of {q : q9INST} {n : q9EN} {K K2 : List (Nat × Int)} {mac : Nat → q9ST → Option (List (Nat × q9ST))} {rt : Nat → q9ST → Bool} {cuts : List q9CUT} {f : Nat} (h0 : q9chk (q9step n K K2 mac rt (q9iC q)) cuts none f 0 (q9iPre q) = true) (h1 : ∀ k ∈ cuts, (q9chk (q9step n K K2 mac rt (q9iC q)) cuts (some k.2.2.2) f k.1 k.2.1 && k.2.2.2.all (fun q => decide (q.1 = 0) || decide (q.2.1 < (q9tE k.2.1).length))) = true)
    (h2 : (q9numB (q9tE (q9iPre q)) 0 (q9tL (q9iPre q)) && ((q9tL (q9iPre q)).all (fun z => q9okAV (q9tE (q9iPre q)) z.2) && (decide (q9slN (q9tE (q9iPre q)) (q9tL (q9iPre q)) ≤ q9iL q) && (decide (q9tN (q9iPre q) = 0) && (decide (q9tM (q9iPre q) = 0) && (decide (q9eR n = (q9iFr q, q9iLc q, q9iMc q, q9iMs q)) && (decide (q9eN n = q9iL q) && (decide (q9eW n = q9iW q) && (q9iThr q).all (fun w => decide (w.2.1 ≤ q9iMc q) && decide (w.2.2 ≤ q9iMs q)))))))))) = true) : q9conR q n K K2 mac rt cuts f = true := by
  unfold q9conR
  rw [Bool.and_eq_true, Bool.and_eq_true]
  exact ⟨h0, List.all_eq_true.mpr h1, h2⟩
