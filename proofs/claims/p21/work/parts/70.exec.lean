variable {O : ORC}
/-! calls, and q9one q9step -/
noncomputable def q9sG (x : q9ST) (v : List q9AV) : q9ST := (q9tE x, q9tL x, q9tS x, v, q9tF x, q9tA x, q9tC x, q9tX x, q9tN x, q9tM x)
/-- a call: place in the pool, how (0 of an object, 1 static, 2 static of a nest mate), the sort of the object, the contract -/
abbrev q9CE : Type := Nat × Nat × Nat × q9INST
noncomputable def q9oneB_o (E : List q9ET) (a : q9AV) : Bool := match E[a.1]? with
  | some t => !(t.1 == 1)
  | none => false
noncomputable def q9oneB (E : List q9ET) (a : q9AV) : Bool := match (q9ge9 E (a.1)) with
  | some t => !(q9eq9 (t.1) (1))
  | none => false
theorem q9oneB_oq : @q9oneB = @q9oneB_o := by
  delta q9oneB q9oneB_o
  simp only [q9ge9_eq, q9fi9_eq, q9an9_eq, q9al9_eq, q9flt9_eq, q9el9_eq, q9set9_eq, q9ln9_eq, q9gD9_eq, q9ap9_eq, q9eq9_N, q9eq9_I, q9eq9_A, q9eq9_E, q9eq9_OI, q9eq9_ON, q9eq9_OA, q9eq9_L, q9eq9_S, q9de9_N, q9de9_I, q9de9_A, q9le9_N, q9le9_I, q9lt9_N, q9lt9_I, q9de9_E, q9de9_OI, q9de9_ON, q9de9_OA, q9de9_L, q9nd9_eq, q9or9_eq, Bool.cond_decide]
noncomputable def q9numL (E : List q9ET) : Nat → List q9AV → List (Nat × q9AV)
  | _, [] => []
  | k, a :: as => (k, a) :: q9numL E (if q9oneB E a then k + 1 else k + 2) as
noncomputable def q9catS (E : List q9ET) : List q9AV → Nat
  | [] => 0
  | a :: as => (if q9oneB E a then 1 else 2) + q9catS E as
theorem q9catS_ok {G : q9GH} {E : List q9ET} {r : Nat → Value} (hS : q9SAT G E r) : ∀ as : List q9AV, (∀ a ∈ as, q9okAV E a = true) → ((as.map (q9ev r)).map fun v => v.category).sum ≤ q9catS E as
  | [], _ => Nat.le_refl _
  | a :: as, h => by
    have h1 := q9catS_ok hS as fun z hz => h z (List.mem_cons_of_mem _ hz)
    show (q9ev r a).category + _ ≤ (if q9oneB E a then 1 else 2) + q9catS E as
    have h2 : (q9ev r a).category ≤ (if q9oneB E a then 1 else 2) := by
      split
      · rename_i ho
        (rewrite [q9oneB_oq] at ho; unfold q9oneB_o at ho)
        cases hE : E[a.1]? with
        | none => rw [hE] at ho; cases ho
        | some t =>
          rw [hE] at ho
          exact Nat.le_of_eq (q9cat_ev hS hE (by simpa using ho) (h a List.mem_cons_self))
      · rcases lv_cat (q9ev r a) with e | e <;> omega
    exact Nat.add_le_add h2 h1
noncomputable def q9LK (ALL : List Cond) (s : State) (own : String) (q : q9CE) : Prop :=
  GoodIn ALL [q9iCw q.2.2.2, .initialized (q9iY q.2.2.2).cls] ∧ ((q9iY q.2.2.2).cls ≠ "java/lang/invoke/MethodHandle" ∧ (q9iY q.2.2.2).cls ≠ "java/lang/invoke/VarHandle" ∧ (parseMethodDescriptor (q9iY q.2.2.2).desc).map (fun d => d.parameters.length) = some (if q.2.1 = 0 then (q9tL (q9iPre q.2.2.2)).length - 1 else (q9tL (q9iPre q.2.2.2)).length)) ∧
  match q.2.1 with
  | 0 => GoodIn ALL [.methodLink own q.1 (q9iY q.2.2.2), .instanceMethod (q9iY q.2.2.2), .selects (q9iY q.2.2.2).cls (q9iY q.2.2.2) (q9iY q.2.2.2)] ∧ ∃ rc : vw_C, vwCl[q.2.2.1]? = some rc ∧ rc.1 = (q9iY q.2.2.2).cls
  | 1 => GoodIn ALL [.methodLink own q.1 (q9iY q.2.2.2), .static (q9iY q.2.2.2)]
  | _ => va_Nw (.methodLinkNest own q.1 (q9iY q.2.2.2) RX11) s ∧ GoodIn ALL [.static (q9iY q.2.2.2)]
/-- the cases of a callee's end -/
noncomputable def q9inhs (gs : List q9AV) (Wr : List Nat) (x : q9ST) (pc' : Nat) : List q9CASE → Option (List (Nat × q9ST))
  | [] => some []
  | q :: qs => match q9inh gs Wr x q, q9inhs gs Wr x pc' qs with
    | some (some (x', vs)), some ss => some ((pc', q9sNM (q9sS x' (vs ++ q9tS x')) (q9tN x' + q9tN q.1) (q9tM x' + q9tM q.1)) :: ss)
    | some none, some ss => some ss
    | _, _ => none
theorem q9inhs_mem {gs : List q9AV} {Wr : List Nat} {x : q9ST} {pc' : Nat} : ∀ {qs : List q9CASE} {ss : List (Nat × q9ST)}, q9inhs gs Wr x pc' qs = some ss → ∀ q ∈ qs, ∃ o, q9inh gs Wr x q = some o ∧ ∀ (x' : q9ST) (vs : List q9AV), o = some (x', vs) → (pc', q9sNM (q9sS x' (vs ++ q9tS x')) (q9tN x' + q9tN q.1) (q9tM x' + q9tM q.1)) ∈ ss
  | [], _, _, q, hq => by cases hq
  | q0 :: qs, ss, h, q, hq => by
    unfold q9inhs at h
    split at h
    · rename_i x' vs ss' e1 e2
      cases h
      rcases List.mem_cons.mp hq with rfl | hq
      · exact ⟨_, e1, fun y ws hy => by cases hy; exact List.mem_cons_self⟩
      · obtain ⟨o, f1, f2⟩ := q9inhs_mem e2 q hq
        exact ⟨o, f1, fun y ws hy => List.mem_cons_of_mem _ (f2 y ws hy)⟩
    · rename_i ss' e1 e2
      cases h
      rcases List.mem_cons.mp hq with rfl | hq
      · exact ⟨_, e1, fun y ws hy => by cases hy⟩
      · exact q9inhs_mem e2 q hq
    · cases h
abbrev q9RN : Type := Nat × Nat × Nat × Nat
noncomputable def q9recvB_o (x : q9ST) (q : q9CE) (as : List q9AV) : Bool := if q.2.1 = 0 then (match as with
  | a :: _ => (match q9codeOf x a.1 with
    | some cd => cd % 20 == q.2.2.1 && decide (cd < 100)
    | none => false)
  | [] => false) else true
noncomputable def q9recvB (x : q9ST) (q : q9CE) (as : List q9AV) : Bool := bif q9de9 (q.2.1) (0) then (match as with
  | a :: _ => (match q9codeOf x a.1 with
    | some cd => q9nd9 (q9eq9 (cd % 20) (q.2.2.1)) ((q9lt9 (cd) (100)))
    | none => false)
  | [] => false) else true
theorem q9recvB_oq : @q9recvB = @q9recvB_o := by
  delta q9recvB q9recvB_o
  simp only [q9ge9_eq, q9fi9_eq, q9an9_eq, q9al9_eq, q9flt9_eq, q9el9_eq, q9set9_eq, q9ln9_eq, q9gD9_eq, q9ap9_eq, q9eq9_N, q9eq9_I, q9eq9_A, q9eq9_E, q9eq9_OI, q9eq9_ON, q9eq9_OA, q9eq9_L, q9eq9_S, q9de9_N, q9de9_I, q9de9_A, q9le9_N, q9le9_I, q9lt9_N, q9lt9_I, q9de9_E, q9de9_OI, q9de9_ON, q9de9_OA, q9de9_L, q9nd9_eq, q9or9_eq, Bool.cond_decide]
/-- what a callee throws: where it is caught; or it goes on -/
noncomputable def q9thrS (T : List (Nat × String × Nat) × List (String × Nat × Nat)) (Wr : List Nat) (pc : Nat) (x : q9ST) : List (String × Nat × Nat) → Option (List (Nat × q9ST))
  | [] => some []
  | z :: zs => match q9thrS T Wr pc x zs with
    | none => none
    | some ss => match T.1.find? (fun h => h.1 == pc && h.2.1 == z.1) with
      | some h => some ((h.2.2, q9sNM (q9sS (q9sE (q9left Wr x) (q9tE x ++ [(5, 0, 0)])) [((q9tE x).length, 0)]) (q9tN x + z.2.1) (q9tM x + z.2.2)) :: ss)
      | none => if T.2.any (fun w => w.1 == z.1 && (decide (q9tN x + z.2.1 ≤ w.2.1) && decide (q9tM x + z.2.2 ≤ w.2.2))) then some ss else none
theorem q9thrS_mem {T : List (Nat × String × Nat) × List (String × Nat × Nat)} {Wr : List Nat} {pc : Nat} {x : q9ST} : ∀ {zs : List (String × Nat × Nat)} {ss : List (Nat × q9ST)}, q9thrS T Wr pc x zs = some ss → ∀ z ∈ zs,
    (∃ h ∈ T.1, h.1 = pc ∧ h.2.1 = z.1 ∧ (h.2.2, q9sNM (q9sS (q9sE (q9left Wr x) (q9tE x ++ [(5, 0, 0)])) [((q9tE x).length, 0)]) (q9tN x + z.2.1) (q9tM x + z.2.2)) ∈ ss) ∨ ∃ w ∈ T.2, w.1 = z.1 ∧ q9tN x + z.2.1 ≤ w.2.1 ∧ q9tM x + z.2.2 ≤ w.2.2
  | [], _, _, z, hz => by cases hz
  | z0 :: zs, ss, h, z, hz => by
    unfold q9thrS at h
    split at h
    · cases h
    · rename_i ss0 e0
      split at h
      · rename_i h0 f0
        cases h
        rcases List.mem_cons.mp hz with rfl | hz
        · have f1 := List.find?_some f0
          simp only [Bool.and_eq_true, beq_iff_eq] at f1
          exact .inl ⟨h0, List.mem_of_find?_eq_some f0, f1.1, f1.2, List.mem_cons_self⟩
        · rcases q9thrS_mem e0 z hz with ⟨h1, g1, g2, g3, g4⟩ | h1
          · exact .inl ⟨h1, g1, g2, g3, List.mem_cons_of_mem _ g4⟩
          · exact .inr h1
      · split at h
        · rename_i f0 f1
          cases h
          rcases List.mem_cons.mp hz with rfl | hz
          · obtain ⟨w, w1, w2⟩ := List.any_eq_true.mp f1
            simp only [Bool.and_eq_true, beq_iff_eq, decide_eq_true_eq] at w2
            exact .inr ⟨w, w1, w2.1, w2.2.1, w2.2.2⟩
          · exact q9thrS_mem e0 z hz
        · cases h
noncomputable def q9exC1_o (T : List (Nat × String × Nat) × List (String × Nat × Nat)) (Wr : List Nat) (rn : q9RN) (x : q9ST) (q : q9CE) (pc pc' : Nat) : Option (List (Nat × q9ST)) :=
  let i := q.2.2.2
  let n := (q9tL (q9iPre i)).length
  if n ≤ (q9tS x).length then
    let as := ((q9tS x).take n).reverse
    let rest := (q9tS x).drop n
    match q9mkT (q9sL x (q9numL (q9tE x) 0 as)) (q9iPd i) [] with
    | none => none
    | some th =>
      let gs := (q9tG (q9iPre i)).map (q9sh th)
      if q9fits0 (q9sNM (q9sG (q9sS (q9sL x []) []) gs) 0 0) (q9iPre i) th && ((q9tL (q9iPre i)).map (fun z => q9sh th z.2) == as && ((q9tS (q9iPre i)).isEmpty && (decide (q9iFr i + 1 ≤ rn.1) && (decide (8 + (q9iL i + 11) + q9iLc i ≤ rn.2.1) && (decide (q9tN x + q9iMc i ≤ rn.2.2.1) && (decide (q9tM x + q9iMs i ≤ rn.2.2.2) && (decide (q9catS (q9tE x) rest ≤ 8) &&
          ((q9iW i).all (fun z => Wr.elem z) && (gs.all (q9okAV (q9tE x)) && (q9recvB x q as && (((q9iThr i).isEmpty || decide (q.2.1 ≤ 1)) && ((q9iHh i).isEmpty || (decide (q.2.1 = 1) && (q9iThr i).isEmpty))))))))))))) then
        (match q9inhs gs (q9iW i) (q9sS x rest) pc' (q9iPost i), q9thrS T (q9iW i) pc x (q9iThr i) with
        | some ss, some tt => some (ss ++ tt)
        | _, _ => none)
      else none
  else none
noncomputable def q9exC1 (T : List (Nat × String × Nat) × List (String × Nat × Nat)) (Wr : List Nat) (rn : q9RN) (x : q9ST) (q : q9CE) (pc pc' : Nat) : Option (List (Nat × q9ST)) :=
  let i := q.2.2.2
  let n := (q9ln9 (q9tL (q9iPre i)))
  bif q9le9 (n) ((q9ln9 (q9tS x))) then
    let as := ((q9tS x).take n).reverse
    let rest := (q9tS x).drop n
    match q9mkT (q9sL x (q9numL (q9tE x) 0 as)) (q9iPd i) [] with
    | none => none
    | some th =>
      let gs := (q9tG (q9iPre i)).map (q9sh th)
      if q9nd9 (q9fits0 (q9sNM (q9sG (q9sS (q9sL x []) []) gs) 0 0) (q9iPre i) th) ((q9nd9 (q9eq9 ((q9tL (q9iPre i)).map (fun z => q9sh th z.2)) (as)) ((q9nd9 ((q9tS (q9iPre i)).isEmpty) ((q9nd9 ((q9le9 (q9iFr i + 1) (rn.1))) ((q9nd9 ((q9le9 (8 + (q9iL i + 11) + q9iLc i) (rn.2.1))) ((q9nd9 ((q9le9 (q9tN x + q9iMc i) (rn.2.2.1))) ((q9nd9 ((q9le9 (q9tM x + q9iMs i) (rn.2.2.2))) ((q9nd9 ((q9le9 (q9catS (q9tE x) rest) (8))) ((q9nd9 (q9al9 (q9iW i) (fun z => q9el9 Wr z)) ((q9nd9 (q9al9 gs (q9okAV (q9tE x))) ((q9nd9 (q9recvB x q as) ((q9nd9 ((q9or9 ((q9iThr i).isEmpty) ((q9le9 (q.2.1) (1))))) ((q9or9 ((q9iHh i).isEmpty) ((q9nd9 ((q9de9 (q.2.1) (1))) ((q9iThr i).isEmpty))))))))))))))))))))))))))) then
        (match q9inhs gs (q9iW i) (q9sS x rest) pc' (q9iPost i), q9thrS T (q9iW i) pc x (q9iThr i) with
        | some ss, some tt => some ((q9ap9 (ss) (tt)))
        | _, _ => none)
      else none
  else none
theorem q9exC1_oq : @q9exC1 = @q9exC1_o := by
  delta q9exC1 q9exC1_o
  simp only [q9ge9_eq, q9fi9_eq, q9an9_eq, q9al9_eq, q9flt9_eq, q9el9_eq, q9set9_eq, q9ln9_eq, q9gD9_eq, q9ap9_eq, q9eq9_N, q9eq9_I, q9eq9_A, q9eq9_E, q9eq9_OI, q9eq9_ON, q9eq9_OA, q9eq9_L, q9eq9_S, q9de9_N, q9de9_I, q9de9_A, q9le9_N, q9le9_I, q9lt9_N, q9lt9_I, q9de9_E, q9de9_OI, q9de9_ON, q9de9_OA, q9de9_L, q9nd9_eq, q9or9_eq, Bool.cond_decide]
noncomputable def q9exC (T : List (Nat × String × Nat) × List (String × Nat × Nat)) (Wr : List Nat) (rn : q9RN) (x : q9ST) (pc pc' idx : Nat) : List q9CE → Option (List (Nat × q9ST))
  | [] => none
  | q :: qs => if q.1 = idx then (match q9exC1 T Wr rn x q pc pc' with
    | some ss => some ss
    | none => q9exC T Wr rn x pc pc' idx qs) else q9exC T Wr rn x pc pc' idx qs
theorem q9exC_mem {T : List (Nat × String × Nat) × List (String × Nat × Nat)} {Wr : List Nat} {rn : q9RN} {x : q9ST} {pc pc' idx : Nat} {ss : List (Nat × q9ST)} : ∀ {qs : List q9CE}, q9exC T Wr rn x pc pc' idx qs = some ss → ∃ q ∈ qs, q.1 = idx ∧ q9exC1 T Wr rn x q pc pc' = some ss
  | [], h => by cases h
  | q :: qs, h => by
    unfold q9exC at h
    split at h
    · rename_i h1
      split at h
      · rename_i ss' e1
        cases h
        exact ⟨q, List.mem_cons_self, h1, e1⟩
      · obtain ⟨z, z1, z2⟩ := q9exC_mem h
        exact ⟨z, List.mem_cons_of_mem _ z1, z2⟩
    · obtain ⟨z, z1, z2⟩ := q9exC_mem h
      exact ⟨z, List.mem_cons_of_mem _ z1, z2⟩
section CLL
variable {p : Program} {l : Launch} {e : Env} {R : Room} {ko : Nat × Nat} {s : State} {m : MethodId} {args : Array Value} {below : List Frame} {meth : Method} {c : Code} {Q : State → Prop} {cc : ByteArray}
variable {nL : Nat} {g : List Value} {D : va_G} {cT : Nat → ClassId} {B : q9TB} {A : Nat → Prop} {H0 : Heap} {G0 : q9GH} {ws0 : va_W} {Wr : List Nat}
theorem q9lv_nil : lv_has #[] 0 [] := ⟨rfl, ⟨fun i v h => by simp at h, fun i h => by simp at h⟩, fun q h => by cases h⟩
noncomputable def q9xNm : List String := ["java/lang/RuntimeException", "java/lang/Exception"]
/-- 'throw new E(text)' at a place of the code -/
noncomputable def q9THR (s : State) (args : Array Value) (cc : ByteArray) (own E : String) (pc : Nat) : Prop :=
  (∃ (ik is ic sa : Nat) (text : String), Bundle.fit E = true ∧ (Cond.classLink own ik E).before args s = true ∧ (Cond.initialized E).before args s = true ∧ vk_R own is text sa s ∧ (∀ w ∈ vx_atS own ic E q9xNm, w.before args s = true) ∧ (∀ w ∈ Cond.classLink own ik E :: Cond.initialized E :: vx_atS own ic E q9xNm, vx_ot w = true) ∧
    decode cc pc = .ok (.new ik, 3) ∧ decode cc (pc + 3) = .ok (.dup, 1) ∧ ((decode cc (pc + 4) = .ok (.ldc is, 2) ∧ decode cc (pc + 6) = .ok (.invokespecial ic, 3) ∧ decode cc (pc + 9) = .ok (.athrow, 1)) ∨ (decode cc (pc + 4) = .ok (.ldc_w is, 3) ∧ decode cc (pc + 7) = .ok (.invokespecial ic, 3) ∧ decode cc (pc + 10) = .ok (.athrow, 1)))) ∨
  (E = zE ∧ own = "PuppetFilm" ∧ ∃ (is sa : Nat) (text : String), (Cond.classLink "PuppetFilm" 408 zE).before args s = true ∧ (Cond.initialized zE).before args s = true ∧ vk_R "PuppetFilm" is text sa s ∧ (∀ w ∈ zL, w.before args s = true) ∧
    decode cc pc = .ok (.new 408, 3) ∧ decode cc (pc + 3) = .ok (.dup, 1) ∧ decode cc (pc + 4) = .ok (.ldc_w is, 3) ∧ decode cc (pc + 7) = .ok (.invokespecial 412, 3) ∧ decode cc (pc + 10) = .ok (.athrow, 1))
/-- what becomes of a throw: it is caught here (at this place of a call, of this class, there), or leaves the method -/
noncomputable def q9THok (p : Program) (l : Launch) (e : Env) (R : Room) (ko : Nat × Nat) (s : State) (m : MethodId) (args : Array Value) (below : List Frame) (meth : Method) (c : Code) (Q : State → Prop) (WP : q9GH → va_W → Heap → List Loc → Prop) (own : String) (T : List (Nat × String × Nat) × List (String × Nat × Nat)) : Prop :=
  (∀ h ∈ T.1, ∀ (H : Heap) (locs : List Loc) (cells slots : Nat) (ls : Array Slot) (rest : List Value) (q : Nat) (ce : Cell), H[q]? = some ce → ce.vm = .none → s.vm.findClass h.2.1 = some ce.cls → W p l e R s m args below meth c H locs cells slots Q (F0 m h.2.2 ls [.ref q]) → vx_W p l e R s m args below meth c H locs cells slots Q (F0 m h.1 ls rest) q) ∧
  (∀ w ∈ T.2, ∀ (G : q9GH) (ws : va_W) (H : Heap) (locs : List Loc) (cells slots pc : Nat) (ls : Array Slot) (rest : List Value) (q : Nat) (ce : Cell), WP G ws H locs → H[q]? = some ce → ce.vm = .none → s.vm.findClass w.1 = some ce.cls → cells ≤ ko.1 + w.2.1 → slots ≤ ko.2 + w.2.2 → vx_W p l e R s m args below meth c H locs cells slots Q (F0 m pc ls rest) q) ∧
  ∀ w ∈ T.2, ∀ (G : q9GH) (ws : va_W) (H : Heap) (locs : List Loc) (cells slots pc : Nat) (ls : Array Slot) (rest : List Value), q9THR s args c.code own w.1 pc → WP G ws H locs → ls.size = c.maxLocals → (rest.map fun v => v.category).sum ≤ 8 → 6 ≤ R.frames → 90 ≤ R.locals → cells + 1 ≤ R.cells → slots + 6 ≤ R.slots → cells + 1 ≤ ko.1 + w.2.1 → slots + 6 ≤ ko.2 + w.2.2 → W p l e R s m args below meth c H locs cells slots Q (F0 m pc ls rest)
theorem q9exC1_ok {own : String} {ALL : List Cond} (hx : p.tables.exec = Jvm.exec) (hb : c.code = cc) (hml : c.maxLocals = nL) (hown : s.vm.findClass own = some m.cls) (hts : ∀ w ∈ ALL, w.before args s = true) (hAll : GoodIn ALL ALL) (hK : va_K D vwCl (TY cT) s) (hG : GW s) (hZ : GZ A s H0) (hA : ∀ q, H0.size ≤ q → A q) {z0 : q9ZZ} (hZz : q9SD z0 A s H0) (hzG : True)
    {T : List (Nat × String × Nat) × List (String × Nat × Nat)} (hTH : q9THok p l e R ko s m args below meth c Q (q9WM D cT B A H0 G0 ws0 Wr) own T)
    {XP : q9ZZ → List Value → Prop} {q : q9CE} (hCon : q9CONX O XP l B ALL q.2.2.2) (hLK : q9LK ALL s own q) {rn : q9RN} (hR : rn.1 ≤ R.frames ∧ rn.2.1 ≤ R.locals ∧ ko.1 + rn.2.2.1 ≤ R.cells ∧ ko.2 + rn.2.2.2 ≤ R.slots) {x : q9ST} {r : Nat → Value} {idx pc : Nat} {ss : List (Nat × q9ST)} (hw : q9wfB x = true) (q2 : q.1 = idx)
    (hXP : ∀ th, ((q9tL (q9iPre q.2.2.2)).map fun z => q9sh th z.2) = ((q9tS x).take (q9tL (q9iPre q.2.2.2)).length).reverse → XP z0 (((q9tG (q9iPre q.2.2.2)).map (q9sh th)).map (q9ev r)))
    (hdg : decode cc pc = .ok (.invokevirtual idx, 3) ∧ q.2.1 = 0 ∨ decode cc pc = .ok (.invokestatic idx, 3) ∧ q.2.1 ≠ 0)
    (h : q9exC1 T Wr rn x q pc (pc + 3) = some ss) (hn : q9NX O p l e R ko s m args below meth c Q nL g (q9WM D cT B A H0 G0 ws0 Wr) ss x r) : q9GO O p l e R ko s m args below meth c Q nL g (q9WM D cT B A H0 G0 ws0 Wr) pc x r := by
  (rewrite [q9exC1_oq] at h; unfold q9exC1_o at h)
  dsimp only at h
  split at h
  · rename_i hnl
    split at h
    · cases h
    · rename_i th hth
      split at h
      · rename_i hc
        generalize has : ((q9tS x).take (q9tL (q9iPre q.2.2.2)).length).reverse = as at h hc hth
        generalize hrest : (q9tS x).drop (q9tL (q9iPre q.2.2.2)).length = rest at h hc
        simp only [Bool.and_eq_true, beq_iff_eq, decide_eq_true_eq, List.all_eq_true, List.isEmpty_iff] at hc
        obtain ⟨c1, c2, c3, c4, c5, c6, c7, q9c8, c9, c10, c11, c13, c14⟩ := hc
        have hXP := hXP th (by rw [has]; exact c2)
        split at h
        case h_2 => cases h
        rename_i ss1 tt1 hss htt
        cases h
        have hS : q9tS x = as.reverse ++ rest := by rw [← has, ← hrest, List.reverse_reverse, List.take_append_drop]
        have hlen : as.length = (q9tL (q9iPre q.2.2.2)).length := by
          rw [← has, List.length_reverse, List.length_take]
          omega
        have okas : ∀ a ∈ as, q9okAV (q9tE x) a = true := fun a ha => q9wf_S hw a (by rw [hS]; exact List.mem_append_left _ (List.mem_reverse.mpr ha))
        have okrest : ∀ a ∈ rest, q9okAV (q9tE x) a = true := fun a ha => q9wf_S hw a (by rw [hS]; exact List.mem_append_right _ ha)
        intro G ws H locs ls st hM hW
        obtain ⟨hP, hD, hSv, hTy, hX, hKe⟩ := hW
        have hMa : q9SM O 0 (((q9tG (q9iPre q.2.2.2)).map (q9sh th)).map (q9ev r)) (q9sNM (q9sG (q9sS (q9sL x []) []) ((q9tG (q9iPre q.2.2.2)).map (q9sh th))) 0 0) r G ws #[] [] := ⟨q9lv_nil, rfl, rfl, hM.2.2.2⟩
        obtain ⟨hSR, -, -⟩ := q9fits_ok hMa c1
        have hgg : ((q9tG (q9iPre q.2.2.2)).map (q9sh th)).map (q9ev r) = (q9tG (q9iPre q.2.2.2)).map (q9ev (q9rh r th)) := hSR.2.1
        have hSR' := hSR
        rw [hgg] at hSR'
        have hzz : True := hzG
        have hMet := hCon D cT G ws H.size (q9rh r th) z0 hTy hSR' hzz (by rw [← hgg]; exact hXP)
        have hav : ((q9tL (q9iPre q.2.2.2)).map fun z => q9ev (q9rh r th) z.2) = as.map (q9ev r) := by
          rw [← c2, List.map_map]
          exact List.map_congr_left fun z _ => q9sh_ev z.2
        rw [hav, ← hgg] at hMet
        have hF : ∀ z, va_A ws H.size z → A z := by
          intro z hz
          rcases hz with ⟨k, e9, hk⟩ | hz
          · exact hD.2 k _ hk
          · exact hA z (Nat.le_trans hSv.1 hz)
        have hPZ : ∀ U : State, U.heap = H → s.WarmedH U.vm → PZ D cT ws H.size U := fun U hU hW9 =>
          ⟨⟨by rw [hU], by rw [hU]; exact hP, va_K.moved hW9.alike hK, hD.weaken (fun _ _ _ _ => trivial), GW.warm hW9 hG⟩, by rw [hU]; exact hZ.go hSv hW9.alike hF⟩
        have hPS : ∀ U : State, U.heap = H → s.WarmedH U.vm → q9PSd z0 D cT ws H.size U := fun U hU hW9 => ⟨hPZ U hU hW9, by rw [hU]; exact hZz.go hSv hW9 hF⟩
        have hst := hM.2.1
        rw [hS, List.map_append, List.map_reverse] at hst
        have hls : ls.size = nL := hM.1.1
        have hcat : ((rest.map (q9ev r)).map fun v => v.category).sum ≤ 8 := Nat.le_trans (q9catS_ok hM.2.2.2.1 rest okrest) q9c8
        have hcode : GoodIn ALL (q9iCw q.2.2.2 :: ALL) := fun w hw9 => by
          rcases List.mem_cons.mp hw9 with rfl | hw9
          · exact hLK.1 _ List.mem_cons_self
          · exact hAll w hw9
        have hrm : (q9iRm q.2.2.2).frames + 1 ≤ R.frames ∧ 8 + (q9iL q.2.2.2 + 11) + (q9iRm q.2.2.2).locals ≤ R.locals := ⟨Nat.le_trans c4 hR.1, Nat.le_trans c5 hR.2.1⟩
        have hfit : ko.1 + q9tN x + q9iMc q.2.2.2 ≤ R.cells ∧ ko.2 + q9tM x + q9iMs q.2.2.2 ≤ R.slots := ⟨by have := hR.2.2.1; omega, by have := hR.2.2.2; omega⟩
        have hrun : (q9iThr q.2.2.2 = [] → va_Run p l e R s m args below meth c H locs (ko.1 + q9tN x) (ko.2 + q9tM x) (q9iMc q.2.2.2) (q9iMs q.2.2.2) (F0 m pc ls st) (rest.map (q9ev r)) (q9QV (q9POST O D cT B (q9iW q.2.2.2) G ws (va_A ws H.size) (((q9tG (q9iPre q.2.2.2)).map (q9sh th)).map (q9ev r)) (q9iPost q.2.2.2)) (va_A ws H.size) (as.map (q9ev r)).toArray) (va_A ws H.size)) ∧
            (q9iThr q.2.2.2 ≠ [] → vx_Run p l e R s m args below meth c H locs (ko.1 + q9tN x) (ko.2 + q9tM x) (q9iMc q.2.2.2) (q9iMs q.2.2.2) (F0 m pc ls st) (rest.map (q9ev r)) (q9QV (q9POST O D cT B (q9iW q.2.2.2) G ws (va_A ws H.size) (((q9tG (q9iPre q.2.2.2)).map (q9sh th)).map (q9ev r)) (q9iPost q.2.2.2)) (va_A ws H.size) (as.map (q9ev r)).toArray) (q9XTH D cT B (q9iW q.2.2.2) G ws (va_A ws H.size) (q9iThr q.2.2.2)) (va_A ws H.size)) := by
          obtain ⟨hk1, hk2, hk3⟩ := hLK
          have hini : (Cond.initialized (q9iY q.2.2.2).cls).before args s = true := hts _ (hk1 _ (List.mem_cons_of_mem _ List.mem_cons_self)).1
          have hcwp : q9iHh q.2.2.2 = [] → q9iCw q.2.2.2 :: ALL = Cond.code (q9iY q.2.2.2) (q9iC q.2.2.2) (q9iL q.2.2.2) (q9iR q.2.2.2) :: ALL := fun h9 => congrArg (fun z => z :: ALL) (if_pos h9)
          have hcwn : q9iHh q.2.2.2 ≠ [] → q9iCw q.2.2.2 :: ALL = Cond.codeWith (q9iY q.2.2.2) (q9iC q.2.2.2) (q9iL q.2.2.2) (q9iR q.2.2.2) (q9iHh q.2.2.2) :: ALL := fun h9 => congrArg (fun z => z :: ALL) (if_neg h9)
          simp only [Bool.or_eq_true, Bool.and_eq_true, List.isEmpty_iff, decide_eq_true_eq] at c13 c14
          rcases hdg with ⟨hdg, hk0⟩ | ⟨hdg, hk0⟩
          · have hH0 : q9iHh q.2.2.2 = [] := by
              rcases c14 with h9 | h9
              · exact h9
              · omega
            (rewrite [q9recvB_oq] at c11; unfold q9recvB_o at c11)
            rw [hk0] at hk2 hk3 c11
            rw [if_pos rfl] at hk2 c11
            obtain ⟨hk3, rc, hrc, hrn⟩ := hk3
            match as, c11, hav, hlen, hst, hMet, okas with
            | a0 :: as', c11, hav, hlen, hst, hMet, okas =>
              obtain ⟨cd9, hcd9, c11⟩ : ∃ cd9, q9codeOf x a0.1 = some cd9 ∧ (cd9 % 20 == q.2.2.1 && decide (cd9 < 100)) = true := by
                dsimp only at c11
                cases h9 : q9codeOf x a0.1 with
                | none => rw [h9] at c11; cases c11
                | some cd9 => rw [h9] at c11; exact ⟨cd9, rfl, c11⟩
              simp only [Bool.and_eq_true, beq_iff_eq, decide_eq_true_eq] at c11
              obtain ⟨b, nb, eb, hm⟩ := q9codeOf_ok hM.2.2.2.1 hcd9
              have ea : q9ev r a0 = .ref b := by
                unfold q9ev
                rw [eb]
              obtain ⟨i, ce, g1, g2, g3⟩ := hTy.at hm
              rcases g3 with ⟨-, fs, F, f1, -⟩ | ⟨hh, -⟩
              · subst f1
                rw [List.map_cons, ea] at hMet hst ⊢
                have hgood : GoodIn ALL (wsV own q.1 (q9iY q.2.2.2).cls (q9iY q.2.2.2) (q9iCw q.2.2.2 :: ALL)) := by
                  intro w hw9
                  unfold wsV at hw9
                  rcases List.mem_append.mp hw9 with hw9 | hw9
                  · simp only [List.mem_cons, List.not_mem_nil, or_false] at hw9
                    rcases hw9 with rfl | rfl | rfl | rfl
                    · exact hk3 _ (by simp)
                    · exact hk3 _ (by simp)
                    · exact hk3 _ (by simp)
                    · exact hk1 _ (by simp)
                  · exact hcode w hw9
                have hcw := cwV (R := R) (s := s) (args := args) (rm := q9iRm q.2.2.2) (mc := q9iMc q.2.2.2) (ms := q9iMs q.2.2.2) ((q9tL (q9iPre q.2.2.2)).length - 1) hts hgood (hcwp hH0) rfl rfl ⟨rfl, hk2⟩ hrm
                have hrecv := va_recv hK hP hrc (by rw [c11.1] at g2; exact g2)
                rw [hrn] at hrecv
                rw [q2] at hcw
                have hl8 : (as'.map (q9ev r)).length = (q9tL (q9iPre q.2.2.2)).length - 1 := by
                  rw [List.length_map]
                  rw [List.length_cons] at hlen
                  omega
                have hs8 : (F0 m pc ls st).stack = (as'.map (q9ev r)).reverse ++ .ref b :: rest.map (q9ev r) := by
                  show st = _
                  rw [hst]
                  simp
                exact ⟨fun h9 => va_runV (As := as'.map (q9ev r)) (b := b) ⟨hx, hb, hml, hown, hts⟩ (hMet.1 h9) hcw ⟨q9ps_blind, hrecv, fun U hU hW9 => ⟨rfl, hPS U hU hW9⟩⟩ rfl hl8 hls hs8 (lv_room hcat) hdg hfit,
                  fun h9 => vx_runV (As := as'.map (q9ev r)) (b := b) ⟨hx, hb, hml, hown, hts⟩ (hMet.2 h9) hcw ⟨q9ps_blind, hrecv, fun U hU hW9 => ⟨rfl, hPS U hU hW9⟩⟩ rfl hl8 hls hs8 (lv_room hcat) hdg hfit⟩
              · omega
          · rw [if_neg hk0] at hk2
            have hpre : PreS s H (va_Pc (as.map (q9ev r)) (q9PSd z0 D cT ws H.size)) (as.map (q9ev r)) := ⟨q9ps_blind, fun U hU hW9 => ⟨rfl, hPS U hU hW9⟩⟩
            have hl9 : (as.map (q9ev r)).length = (q9tL (q9iPre q.2.2.2)).length := by rw [List.length_map, hlen]
            have hstk : (F0 m pc ls st).stack = (as.map (q9ev r)).reverse ++ rest.map (q9ev r) := hst
            have hk3' : (q.2.1 = 1 ∧ GoodIn ALL [.methodLink own q.1 (q9iY q.2.2.2), .static (q9iY q.2.2.2)]) ∨ (2 ≤ q.2.1 ∧ va_Nw (.methodLinkNest own q.1 (q9iY q.2.2.2) RX11) s ∧ GoodIn ALL [.static (q9iY q.2.2.2)]) := by
              match hq : q.2.1, hk3 with
              | 0, _ => exact absurd hq hk0
              | 1, hk3 => exact .inl ⟨rfl, hk3⟩
              | _ + 2, hk3 => exact .inr ⟨by omega, hk3⟩
            rcases hk3' with ⟨-, hk3⟩ | ⟨h2q, hk3, hk4⟩
            · have hgood : GoodIn ALL (va_wsS own q.1 (q9iY q.2.2.2) (q9iCw q.2.2.2 :: ALL)) := by
                intro w hw9
                unfold va_wsS at hw9
                rcases List.mem_append.mp hw9 with hw9 | hw9
                · simp only [List.mem_cons, List.not_mem_nil, or_false] at hw9
                  rcases hw9 with rfl | rfl | rfl
                  · exact hk3 _ (by simp)
                  · exact hk3 _ (by simp)
                  · exact hk1 _ (by simp)
                · exact hcode w hw9
              by_cases hH9 : q9iHh q.2.2.2 = []
              case neg =>
                have hcw := vx_cwSW (R := R) (s := s) (args := args) (rm := q9iRm q.2.2.2) (mc := q9iMc q.2.2.2) (ms := q9iMs q.2.2.2) ((q9tL (q9iPre q.2.2.2)).length) hts hgood (hcwn hH9) rfl rfl hk2 hrm
                rw [q2] at hcw
                refine ⟨fun h9 => vx_runSW ⟨hx, hb, hml, hown, hts⟩ (hMet.1 h9) hcw hpre rfl hl9 hls hstk (lv_room hcat) hdg hfit, fun h9 => ?_⟩
                rcases c14 with h8 | h8
                · exact absurd h8 hH9
                · exact absurd h8.2 h9
              have hcw := va_cwS (R := R) (s := s) (args := args) (rm := q9iRm q.2.2.2) (mc := q9iMc q.2.2.2) (ms := q9iMs q.2.2.2) ((q9tL (q9iPre q.2.2.2)).length) hts hgood (hcwp hH9) rfl rfl hk2 hrm
              rw [q2] at hcw
              exact ⟨fun h9 => va_runS ⟨hx, hb, hml, hown, hts⟩ (hMet.1 h9) hcw hpre rfl hl9 hls hstk (lv_room hcat) hdg hfit, fun h9 => vx_runS ⟨hx, hb, hml, hown, hts⟩ (hMet.2 h9) hcw hpre rfl hl9 hls hstk (lv_room hcat) hdg hfit⟩
            · have hstat : (Cond.static (q9iY q.2.2.2)).before args s = true := hts _ (hk4 _ (by simp)).1
              rw [q2] at hk3
              have hH0 : q9iHh q.2.2.2 = [] := by
                rcases c14 with h9 | h9
                · exact h9
                · omega
              refine ⟨fun h9 => va_runSN ⟨hx, hb, hml, hown, hts⟩ (hMet.1 h9) ⟨va_cnB ((q9tL (q9iPre q.2.2.2)).length) hts hcode (hcwp hH0) rfl rfl hk3 hini hk2 hrm, hstat, trivial⟩ hpre rfl hl9 hls hstk (lv_room hcat) hdg hfit, fun h9 => ?_⟩
              rcases c13 with c13 | c13
              · exact absurd c13 h9
              · omega
        have norm : ∀ (v : Option Value) (st9 t : State) (H1 : Heap) (locs1 : List Loc), st9.heap = H → t.heap = H1 → q9POST O D cT B (q9iW q.2.2.2) G ws (va_A ws H.size) (((q9tG (q9iPre q.2.2.2)).map (q9sh th)).map (q9ev r)) (q9iPost q.2.2.2) v st9 t → H.size ≤ H1.size → (∀ q : Nat, q < H.size → ¬ va_A ws H.size q → H1[q]? = H[q]?) → va_S A H0 H1 locs1 → ∃ k n : Nat, q9newB H H1 k n ∧ W p l e R s m args below meth c H1 locs1 (ko.1 + q9tN x + k) (ko.2 + q9tM x + n) Q (F0 m (pc + 3) ls (v.toList ++ rest.map (q9ev r))) := by
          intro v st9 t H1 locs1 hst9 ht hpost hle hfr hS1
          obtain ⟨G', ws', r', qc, p1, p2, p3, p4, p5, p6, p7, p8⟩ := hpost
          rw [hst9, ht] at p8
          refine ⟨q9tN qc.1, q9tM qc.1, p8, ?_⟩
          obtain ⟨o, o1, o2⟩ := q9inhs_mem hss qc p1
          have hMr : q9SM O nL g (q9sS x rest) r G ws ls (rest.map (q9ev r)) := hM.S rest
          obtain ⟨x', vs, r2, y1, y2, y3, y4, y5, y6, y7, y8⟩ := q9inh_ok hMr hTy hD p2 p6 p7 o1
          have hmem := o2 x' vs y1
          have y6 : q9tS x' = rest := y6
          have y7 : q9tN x' = q9tN x := y7
          have y8 : q9tM x' = q9tM x := y8
          have y2 : q9agr (q9tE x).length r r2 := y2
          have kk := hn _ (List.mem_append_left _ hmem) r2 y2 y3 G' ws' H1 locs1 ls _ ((y4.S (vs ++ q9tS x')).NM _ _) ⟨by rw [← ht]; exact p3, p4.weaken (fun k z _ hz => hF _ hz), hS1, p5, hX.tr p2, hKe.tr hX (p6.wk fun z hz => List.elem_iff.mp (c9 z hz))⟩
          rw [List.map_append, ← y5, y6, y2.map okrest] at kk
          have kk : W p l e R s m args below meth c H1 locs1 (ko.1 + (q9tN x' + q9tN qc.1)) (ko.2 + (q9tM x' + q9tM qc.1)) Q (F0 m (pc + 3) ls (v.toList ++ rest.map (q9ev r))) := kk
          rw [y7, y8, ← Nat.add_assoc, ← Nat.add_assoc] at kk
          exact kk
        by_cases hthr : q9iThr q.2.2.2 = []
        · exact q9va_callG (hrun.1 hthr) hSv (fun z _ hz => hF z hz) hF norm
        · refine q9vx_callG (hrun.2 hthr) hSv (fun z _ hz => hF z hz) hF (fun E st9 t h9 => by obtain ⟨z, -, -, -, h8, -⟩ := h9; exact h8) ?_ norm
          intro E ce q9 st9 t H1 locs1 hst9 ht hxc hS1 hq9 hv9 hc9
          obtain ⟨z, z1, z2, z3, -, G', ws', p2, p3, p4, p5, p6⟩ := hxc
          rw [hst9, ht] at z3
          refine ⟨z.2.1, z.2.2, z3, ?_⟩
          have hWM : q9WM D cT B A H0 G0 ws0 Wr G' ws' H1 locs1 := ⟨by rw [← ht]; exact p3, p4.weaken (fun k z _ hz => hF _ hz), hS1, p5, hX.tr p2, hKe.tr hX (p6.wk fun z hz => List.elem_iff.mp (c9 z hz))⟩
          rcases q9thrS_mem htt z z1 with ⟨h1, g1, g2, g3, g4⟩ | ⟨w, w1, w2, w3, w4⟩
          · have hM1 : q9SM O nL g (q9left (q9iW q.2.2.2) x) r G' ws' ls st := q9left_ok hM hTy hD p2 p6
            have ag : q9agr (q9tE x).length r (q9up r (q9tE x).length (.ref q9)) := fun k hk => q9up_lt hk
            have hM2 := hM1.fresh (q9wf_left hw) (t := (5, 0, 0)) (v := .ref q9) ⟨q9, rfl⟩
            have hle : (q9tE x).length ≤ (q9tE x ++ [((5, 0, 0) : q9ET)]).length := by rw [List.length_append]; omega
            have kk := hn _ (List.mem_append_right _ g4) (q9up r (q9tE x).length (.ref q9)) ag hle G' ws' H1 locs1 ls _ ((hM2.S [((q9tE x).length, 0)]).NM _ _) hWM
            have kk : W p l e R s m args below meth c H1 locs1 (ko.1 + (q9tN x + z.2.1)) (ko.2 + (q9tM x + z.2.2)) Q (F0 m h1.2.2 ls [q9ev (q9up r (q9tE x).length (.ref q9)) ((q9tE x).length, 0)]) := kk
            rw [q9ev_zero, q9up_at, ← Nat.add_assoc, ← Nat.add_assoc] at kk
            rw [← g2]
            exact hTH.1 h1 g1 H1 locs1 _ _ ls _ q9 ce hq9 hv9 (by rw [g3, z2]; exact hc9) kk
          · exact hTH.2.1 w w1 G' ws' H1 locs1 _ _ pc ls _ q9 ce hWM hq9 hv9 (by rw [w2, z2]; exact hc9) (by omega) (by omega)
      · cases h
  · cases h
theorem q9exC_ok {own : String} {ALL : List Cond} (hx : p.tables.exec = Jvm.exec) (hb : c.code = cc) (hml : c.maxLocals = nL) (hown : s.vm.findClass own = some m.cls) (hts : ∀ w ∈ ALL, w.before args s = true) (hAll : GoodIn ALL ALL) (hK : va_K D vwCl (TY cT) s) (hG : GW s) (hZ : GZ A s H0) (hA : ∀ q, H0.size ≤ q → A q) {z0 : q9ZZ} (hZz : q9SD z0 A s H0) (hzG : True)
    {T : List (Nat × String × Nat) × List (String × Nat × Nat)} (hTH : q9THok p l e R ko s m args below meth c Q (q9WM D cT B A H0 G0 ws0 Wr) own T)
    {CT : List q9CE} (hCT : ∀ q ∈ CT, q9CON O l B ALL q.2.2.2 ∧ q9LK ALL s own q) {rn : q9RN} (hR : rn.1 ≤ R.frames ∧ rn.2.1 ≤ R.locals ∧ ko.1 + rn.2.2.1 ≤ R.cells ∧ ko.2 + rn.2.2.2 ≤ R.slots) {x : q9ST} {r : Nat → Value} {idx pc : Nat} {ss : List (Nat × q9ST)} (hw : q9wfB x = true) (hdg : decode cc pc = .ok (.invokevirtual idx, 3) ∧ (∀ q ∈ CT, q.2.1 = 0) ∨ decode cc pc = .ok (.invokestatic idx, 3) ∧ (∀ q ∈ CT, q.2.1 ≠ 0))
    (h : q9exC T Wr rn x pc (pc + 3) idx CT = some ss) (hn : q9NX O p l e R ko s m args below meth c Q nL g (q9WM D cT B A H0 G0 ws0 Wr) ss x r) : q9GO O p l e R ko s m args below meth c Q nL g (q9WM D cT B A H0 G0 ws0 Wr) pc x r := by
  obtain ⟨q, q1, q2, h⟩ := q9exC_mem h
  obtain ⟨hCon, hLK⟩ := hCT q q1
  exact q9exC1_ok hx hb hml hown hts hAll hK hG hZ hA hZz hzG hTH hCon hLK hR hw q2 (fun _ _ => trivial) (hdg.imp (fun h => ⟨h.1, h.2 q q1⟩) (fun h => ⟨h.1, h.2 q q1⟩)) h hn
end CLL
