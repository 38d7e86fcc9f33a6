variable {O : ORC}
/-! a walk gives a contract -/
noncomputable def q9endB_o (cs : List q9CASE) (x : q9ST) : Bool := cs.any (fun q => match q9mkT x q.2 [] with
  | some th => q9fits0 x q.1 th
  | none => false)
noncomputable def q9endB (cs : List q9CASE) (x : q9ST) : Bool := q9an9 cs (fun q => match q9mkT x q.2 [] with
  | some th => q9fits0 x q.1 th
  | none => false)
theorem q9endB_oq : @q9endB = @q9endB_o := by
  delta q9endB q9endB_o
  simp only [q9ge9_eq, q9fi9_eq, q9an9_eq, q9al9_eq, q9flt9_eq, q9el9_eq, q9set9_eq, q9ln9_eq, q9gD9_eq, q9ap9_eq, q9eq9_N, q9eq9_I, q9eq9_A, q9eq9_E, q9eq9_OI, q9eq9_ON, q9eq9_OA, q9eq9_L, q9eq9_S, q9de9_N, q9de9_I, q9de9_A, q9le9_N, q9le9_I, q9lt9_N, q9lt9_I, q9de9_E, q9de9_OI, q9de9_ON, q9de9_OA, q9de9_L, q9nd9_eq, q9or9_eq, Bool.cond_decide]
noncomputable def q9retB_o (ret : Option FieldType) (k : Nat) (x : q9ST) : Bool := match k, q9tS x with
  | 0, [v] => (match ret with
    | some .int => q9isInt x v
    | some .boolean => (match q9num (q9tE x) v with
      | some (0, lo, hi) => decide (0 ≤ lo) && decide (hi ≤ 1)
      | _ => false)
    | _ => false)
  | 1, [v] => (match (q9tE x)[v.1]? with
    | some t => q9isA t.1 && (match ret with
      | some (.object _) => true
      | some (.array _) => true
      | _ => false)
    | none => false)
  | 2, [] => (match ret with
    | none => true
    | _ => false)
  | 3, [v] => q9isLng x v && (match ret with
    | some .long => true
    | _ => false)
  | _, _ => false
noncomputable def q9retB (ret : Option FieldType) (k : Nat) (x : q9ST) : Bool := match k, q9tS x with
  | 0, [v] => (match ret with
    | some .int => q9isInt x v
    | some .boolean => (match q9num (q9tE x) v with
      | some (0, lo, hi) => q9nd9 ((q9le9 (0) (lo))) ((q9le9 (hi) (1)))
      | _ => false)
    | _ => false)
  | 1, [v] => (match (q9ge9 (q9tE x) (v.1)) with
    | some t => q9nd9 (q9isA t.1) ((match ret with
      | some (.object _) => true
      | some (.array _) => true
      | _ => false))
    | none => false)
  | 2, [] => (match ret with
    | none => true
    | _ => false)
  | 3, [v] => q9nd9 (q9isLng x v) ((match ret with
    | some .long => true
    | _ => false))
  | _, _ => false
theorem q9retB_oq : @q9retB = @q9retB_o := by
  delta q9retB q9retB_o
  simp only [q9ge9_eq, q9fi9_eq, q9an9_eq, q9al9_eq, q9flt9_eq, q9el9_eq, q9set9_eq, q9ln9_eq, q9gD9_eq, q9ap9_eq, q9eq9_N, q9eq9_I, q9eq9_A, q9eq9_E, q9eq9_OI, q9eq9_ON, q9eq9_OA, q9eq9_L, q9eq9_S, q9de9_N, q9de9_I, q9de9_A, q9le9_N, q9le9_I, q9lt9_N, q9lt9_I, q9de9_E, q9de9_OI, q9de9_ON, q9de9_OA, q9de9_L, q9nd9_eq, q9or9_eq, Bool.cond_decide]
noncomputable def q9rtB_o (q : q9INST) (k : Nat) (x : q9ST) : Bool := q9retB (q9iR q) k x && (q9endB (q9iPost q) x && (decide (q9tN x ≤ q9iMc q) && decide (q9tM x ≤ q9iMs q)))
noncomputable def q9rtB (q : q9INST) (k : Nat) (x : q9ST) : Bool := q9nd9 (q9retB (q9iR q) k x) ((q9nd9 (q9endB (q9iPost q) x) ((q9nd9 ((q9le9 (q9tN x) (q9iMc q))) ((q9le9 (q9tM x) (q9iMs q)))))))
theorem q9rtB_oq : @q9rtB = @q9rtB_o := by
  delta q9rtB q9rtB_o
  simp only [q9ge9_eq, q9fi9_eq, q9an9_eq, q9al9_eq, q9flt9_eq, q9el9_eq, q9set9_eq, q9ln9_eq, q9gD9_eq, q9ap9_eq, q9eq9_N, q9eq9_I, q9eq9_A, q9eq9_E, q9eq9_OI, q9eq9_ON, q9eq9_OA, q9eq9_L, q9eq9_S, q9de9_N, q9de9_I, q9de9_A, q9le9_N, q9le9_I, q9lt9_N, q9lt9_I, q9de9_E, q9de9_OI, q9de9_ON, q9de9_OA, q9de9_L, q9nd9_eq, q9or9_eq, Bool.cond_decide]
theorem q9endB_ok {nL : Nat} {g : List Value} {cs : List q9CASE} {x : q9ST} {r : Nat → Value} {G : q9GH} {ws : va_W} {ls : Array Slot} {st : List Value} (hM : q9SM O nL g x r G ws ls st) (h : q9endB cs x = true) : ∃ (q : q9CASE) (r' : Nat → Value), q ∈ cs ∧ q9SR O g q.1 r' G ws st ∧ q9tN x ≤ q9tN q.1 ∧ q9tM x ≤ q9tM q.1 := by
  (rewrite [q9endB_oq] at h; unfold q9endB_o at h)
  rw [List.any_eq_true] at h
  obtain ⟨q, q1, q2⟩ := h
  split at q2
  · rename_i th _
    exact ⟨q, _, q1, q9fits_ok hM q2⟩
  · cases q2
/-- a link, by the words of the tables -/
noncomputable def q9FLs (ALL : List Cond) (B : q9TB) (own : String) (q : Nat × Nat × Nat) : Prop :=
  ∃ (C : String) (T : u_T) (N : Nat) (F : List q9ET) (t : q9ET) (ty0 : Nat → FieldType), vwCl[q.2.1]? = some (C, T, N) ∧ q.2.2 < N ∧ (∀ w ∈ u_ws C T N, w ∈ ALL) ∧ (Cond.fieldLink own q.1 (T q.2.2).1 (T q.2.2).2.1 (T q.2.2).2.2.1) ∈ ALL ∧
    B.1[q.2.1]? = some F ∧ F[q.2.2]? = some t ∧ (∀ k, k < N → parseFieldDescriptor (T k).2.2.1 = some (ty0 k)) ∧ (∀ a, a < N → ∀ b, b < N → a ≠ b → (T a).2.1 ≠ (T b).2.1) ∧ ∀ (G : q9GH) (v : Value), q9tyV G t v → narrow (ty0 q.2.2) v = v ∧ fits (ty0 q.2.2) v = true
theorem q9FLs.ok {ALL : List Cond} {B : q9TB} {own : String} {q : Nat × Nat × Nat} (h : q9FLs ALL B own q) {cT : Nat → ClassId} {s : State} {args : Array Value} (hts : ∀ w ∈ ALL, w.before args s = true) : q9FLok cT B s args own q := by
  obtain ⟨C, T, N, F, t, ty0, l1, l2, l3, l4, l5⟩ := h
  exact ⟨C, T, N, F, t, ty0, l1, l2, fun w hw => hts w (l3 w hw), hts _ l4, l5⟩
noncomputable def q9LKs (ALL : List Cond) (own : String) (q : q9CE) : Prop :=
  GoodIn ALL [q9iCw q.2.2.2, .initialized (q9iY q.2.2.2).cls] ∧ ((q9iY q.2.2.2).cls ≠ "java/lang/invoke/MethodHandle" ∧ (q9iY q.2.2.2).cls ≠ "java/lang/invoke/VarHandle" ∧ (parseMethodDescriptor (q9iY q.2.2.2).desc).map (fun d => d.parameters.length) = some (if q.2.1 = 0 then (q9tL (q9iPre q.2.2.2)).length - 1 else (q9tL (q9iPre q.2.2.2)).length)) ∧
  match q.2.1 with
  | 0 => GoodIn ALL [.methodLink own q.1 (q9iY q.2.2.2), .instanceMethod (q9iY q.2.2.2), .selects (q9iY q.2.2.2).cls (q9iY q.2.2.2) (q9iY q.2.2.2)] ∧ ∃ rc : vw_C, vwCl[q.2.2.1]? = some rc ∧ rc.1 = (q9iY q.2.2.2).cls
  | 1 => GoodIn ALL [.methodLink own q.1 (q9iY q.2.2.2), .static (q9iY q.2.2.2)]
  | _ => (own, q.1, q9iY q.2.2.2) ∈ gwN ∧ GoodIn ALL [.static (q9iY q.2.2.2)]
theorem q9LKs.ok {ALL : List Cond} {own : String} {q : q9CE} (h : q9LKs ALL own q) {s : State} (hG : GW s) : q9LK ALL s own q := by
  obtain ⟨h1, h2, h3⟩ := h
  refine ⟨h1, h2, ?_⟩
  match hq : q.2.1, h3 with
  | 0, h3 => exact h3
  | 1, h3 => exact h3
  | _ + 2, h3 => exact ⟨hG.1 _ h3.1, h3.2⟩
/-- what a method's walk is checked against -/
noncomputable def q9ES (O : ORC) (l : Launch) (own : String) (ALL : List Cond) (n : q9EN) (K K2 : List (Nat × Int)) : Prop :=
  GoodIn ALL ALL ∧ (∀ q ∈ q9eF n, q9FLs ALL (q9eB n) own q) ∧ (∀ q ∈ q9eP n, q9FLs ALL (q9eB n) own q ∧ q9FLput q) ∧ (∀ q ∈ q9eV n, (q9CON O l (q9eB n) ALL q.2.2.2 ∧ q9LKs ALL own q) ∧ q.2.1 = 0) ∧ (∀ q ∈ q9eS n, (q9CON O l (q9eB n) ALL q.2.2.2 ∧ q9LKs ALL own q) ∧ q.2.1 ≠ 0) ∧
  (∀ k ∈ (q9eB n).2.1, k.1 < 7 ∧ (4 ≤ k.1 → ∃ rc : vw_C, vwCl[k.2.2.2.2.1.toNat]? = some rc ∧ ∀ cT : Nat → ClassId, (TY cT)[k.1]? = some (cT k.1, .object rc.1))) ∧
  (∀ q ∈ K, ∃ v : Int32, v.toInt = q.2 ∧ (Cond.constant own q.1 v) ∈ ALL) ∧ (∀ q ∈ K2, ∃ v : Int64, v.toInt = q.2 ∧ (Cond.constantLong own q.1 v) ∈ ALL) ∧ (∀ q ∈ q9eK n, ∀ w ∈ q9MTw own q, w ∈ ALL)
theorem q9ES.ev {l : Launch} {own : String} {ALL : List Cond} {n : q9EN} {K K2 : List (Nat × Int)} (h : q9ES O l own ALL n K K2) {p : Program} {R : Room} {ko : Nat × Nat} {s : State} {m : MethodId} {args : Array Value} {c : Code} {cc : ByteArray} {D : va_G} {cT : Nat → ClassId} {A : Nat → Prop} {H0 : Heap} {G0 : q9GH} {z : q9ZZ} (hH0 : H0 = s.heap) (hZz : q9SD z A s H0) (hzG : True)
    (hx : p.tables.exec = Jvm.exec) (hb : c.code = cc) (hml : c.maxLocals = q9eN n) (hown : s.vm.findClass own = some m.cls) (hts : ∀ w ∈ ALL, w.before args s = true) (hK : va_K D vwCl (TY cT) s) (hG : GW s) (hZ : GZ A s H0) (hA : ∀ q, H0.size ≤ q → A q) (hR : (q9eR n).1 ≤ R.frames ∧ (q9eR n).2.1 ≤ R.locals ∧ ko.1 + (q9eR n).2.2.1 ≤ R.cells ∧ ko.2 + (q9eR n).2.2.2 ≤ R.slots) : q9EV O p l R ko s m args c cc D cT A H0 G0 own ALL n K K2 z := by
  obtain ⟨h1, h2, h3, h4, h5, h6, h7, h8, h9⟩ := h
  refine ⟨hx, hb, hml, hown, hts, h1, hK, hG, hZ, hA, fun q hq => (h2 q hq).ok hts, fun q hq => ⟨(h3 q hq).1.ok hts, (h3 q hq).2⟩, fun q hq => ⟨⟨(h4 q hq).1.1, (h4 q hq).1.2.ok hG⟩, (h4 q hq).2⟩, fun q hq => ⟨⟨(h5 q hq).1.1, (h5 q hq).1.2.ok hG⟩, (h5 q hq).2⟩, hR, fun k hk => ⟨(h6 k hk).1, fun hh9 => ?_⟩, fun q hq => ?_, fun q hq => ?_, fun q hq w hw => hts _ (h9 q hq w hw), hH0, hZz, hzG⟩
  · obtain ⟨rc, r1, r2⟩ := (h6 k hk).2 hh9
    exact ⟨rc, r1, r2 cT⟩
  · obtain ⟨v, v1, v2⟩ := h7 q hq
    exact ⟨v, v1, hts _ v2⟩
  · obtain ⟨v, v1, v2⟩ := h8 q hq
    exact ⟨v, v1, hts _ v2⟩
noncomputable def q9numB (E : List q9ET) : Nat → List (Nat × q9AV) → Bool
  | _, [] => true
  | k, q :: qs => q.1 == k && q9numB E (if q9oneB E q.2 then k + 1 else k + 2) qs
noncomputable def q9slN (E : List q9ET) : List (Nat × q9AV) → Nat
  | [] => 0
  | q :: qs => (if q9oneB E q.2 then 1 else 2) + q9slN E qs
theorem q9cat_is {G : q9GH} {E : List q9ET} {r : Nat → Value} (hS : q9SAT G E r) {a : q9AV} (ha : q9okAV E a = true) : (q9ev r a).category = if q9oneB E a then 1 else 2 := by
  split
  · rename_i o2
    (rewrite [q9oneB_oq] at o2; unfold q9oneB_o at o2)
    cases hE : E[a.1]? with
    | none => rw [hE] at o2; cases o2
    | some t =>
      rw [hE] at o2
      exact q9cat_ev hS hE (by simpa using o2) ha
  · rename_i o2
    (rewrite [q9oneB_oq] at o2; unfold q9oneB_o at o2)
    cases hE : E[a.1]? with
    | none => (rewrite [q9okAV_oq] at ha; unfold q9okAV_o at ha); rw [hE] at ha; cases ha
    | some t =>
      obtain ⟨k, lo, hi⟩ := t
      rw [hE] at o2
      have h1 : k = 1 := by simpa using o2
      subst h1
      obtain ⟨y, e1, -⟩ := (q9ev_ref hS hE (by simp)).2
      rw [e1]
      rfl
theorem q9args_eq {G : q9GH} {E : List q9ET} {r : Nat → Value} (hS : q9SAT G E r) : ∀ (L : List (Nat × q9AV)) (k : Nat), q9numB E k L = true → (∀ q ∈ L, q9okAV E q.2 = true) → lv_args k (L.map fun z => q9ev r z.2) = L.map fun q => (q.1, q9ev r q.2)
  | [], _, _, _ => rfl
  | q :: L, k, hn, ho => by
    unfold q9numB at hn
    rw [Bool.and_eq_true, beq_iff_eq] at hn
    have hcat := q9cat_is hS (ho q List.mem_cons_self)
    rw [List.map_cons, List.map_cons]
    unfold lv_args
    have hk : (if (q9ev r q.2).category = 2 then k + 2 else k + 1) = (if q9oneB E q.2 = true then k + 1 else k + 2) := by
      rw [hcat]
      split <;> simp
    rw [hk, q9args_eq hS L _ hn.2 fun z hz => ho z (List.mem_cons_of_mem _ hz), hn.1]
theorem q9sl_len {G : q9GH} {E : List q9ET} {r : Nat → Value} (hS : q9SAT G E r) : ∀ L : List (Nat × q9AV), (∀ q ∈ L, q9okAV E q.2 = true) → (lg_sl (L.map fun z => q9ev r z.2)).length = q9slN E L
  | [], _ => rfl
  | q :: L, ho => by
    have h1 := q9sl_len hS L fun z hz => ho z (List.mem_cons_of_mem _ hz)
    have hcat := q9cat_is hS (ho q List.mem_cons_self)
    unfold lg_sl at h1 ⊢
    rw [List.map_cons, List.flatMap_cons, List.length_append, h1]
    show _ + q9slN E L = (if q9oneB E q.2 = true then 1 else 2) + q9slN E L
    rw [hcat]
    split <;> rfl
/-- what is checked of a method: its walk, and that its start is q9one -/
noncomputable def q9conB (q : q9INST) (n : q9EN) (K K2 : List (Nat × Int)) (mac : Nat → q9ST → Option (List (Nat × q9ST))) (cuts : List q9CUT) (f : Nat) : Bool :=
  q9chk (q9step n K K2 mac (q9rtB q) (q9iC q)) cuts none f 0 (q9iPre q) && (cuts.all (fun k => q9chk (q9step n K K2 mac (q9rtB q) (q9iC q)) cuts (some k.2.2.2) f k.1 k.2.1 && k.2.2.2.all (fun q => decide (q.1 = 0) || decide (q.2.1 < (q9tE k.2.1).length))) &&
  (q9numB (q9tE (q9iPre q)) 0 (q9tL (q9iPre q)) && ((q9tL (q9iPre q)).all (fun z => q9okAV (q9tE (q9iPre q)) z.2) && (decide (q9slN (q9tE (q9iPre q)) (q9tL (q9iPre q)) ≤ q9iL q) && (decide (q9tN (q9iPre q) = 0) && (decide (q9tM (q9iPre q) = 0) && (decide (q9eR n = (q9iFr q, q9iLc q, q9iMc q, q9iMs q)) && (decide (q9eN n = q9iL q) && (decide (q9eW n = q9iW q) && (q9iThr q).all (fun w => decide (w.2.1 ≤ q9iMc q) && decide (w.2.2 ≤ q9iMs q)))))))))))
/-- as the kit's own row of this kind, for a name that may lie among the machine's own classes -/
theorem q9ofWF {l : Launch} {y : MethodName} {ws ws' : List Cond} {rm : Room} {Pc : Array Value → State → Prop} {Qc : Array Value → State → Outcome → State → Prop} {mc ms : Nat} {free : Addr → Prop} {cc : ByteArray} {maxL : Nat} {ret : Option FieldType}
    (hy : plainFor y = true) (hw : ws = Cond.code y cc maxL ret :: ws')
    (body : ∀ p e s m args below meth c s₁, BodyLoose p l y (headSpec ws rm) cc maxL ret e s m args below meth c s₁ → c.maxLocals = maxL → Pc args s →
      W p l e (headSpec ws rm).room s m args below meth c s.heap [] 0 0 (MQ below Qc args s mc ms free) (entryFrame m args maxL)) : Met l y ws rm Pc Qc mc ms free := by
  refine MetFree.of_bodySF (code := cc) (maxLocals := maxL) (ret := ret) hy (fun args s m h hn => ?_) (fun p e s m args below meth c s₁ B hml hP _ => ?_)
  · have h0 := Cond.code_spec hn (atoms_spec (ws := ws) h _ (by rw [hw]; exact List.mem_cons_self))
    obtain ⟨meth, c, g1, g2, g3, g4, g5, g6, -⟩ := h0
    exact ⟨meth, c, g1, g2, g3, g4, g5, g6⟩
  · have e0 : s₁.heap = s.heap := by rw [B.state]; rfl
    obtain ⟨t, a1, o, b1, b2, b3⟩ := body p e s m args below meth c s₁ B hml hP s₁ e0 (Stand.of_body B)
    exact ⟨t, o, a1, b1, b2, b3⟩
/-- an end, without what the heap has grown by -/
noncomputable def q9POST0 (O : ORC) (D : va_G) (cT : Nat → ClassId) (B : q9TB) (Wr : List Nat) (G : q9GH) (ws : va_W) (A : Nat → Prop) (g : List Value) (q : q9CASE) (v : Option Value) (t : State) : Prop :=
  ∃ (G' : q9GH) (ws' : va_W) (r' : Nat → Value), q9extG G G' ∧ va_P D vwCl ws' t.heap ∧ va_D A ws' ∧ q9tyW cT B G' ws' ∧ q9keepW Wr G ws ws' ∧ q9SR O g q.1 r' G' ws' v.toList
section LIFT
variable {p : Program} {l : Launch} {e : Env} {R : Room} {s : State} {m : MethodId} {args : Array Value} {below : List Frame} {meth : Method} {c : Code} {H : Heap} {locs : List Loc} {cells slots mc ms : Nat} {free : Addr → Prop} {Qc Qc' : Array Value → State → Outcome → State → Prop} {XC XC' : String → State → State → Prop}
theorem q9fe_mono {st : State} {o : Outcome} {t : State} {L : List Loc} {k n k' n' : Nat} (h : FrameEnd st o t L k n) (h1 : k ≤ k') (h2 : n ≤ n') : FrameEnd st o t L k' n' := ⟨h.1, h.2.1, h.2.2.mono h1 h2⟩
theorem q9w_lift {g : JFrame} (h : W p l e R s m args below meth c H locs cells slots (MQ below Qc args s cells slots free) g) (hq : ∀ o t, Qc args s o t → q9newB s.heap t.heap cells slots → Qc' args s o t) (h1 : cells ≤ mc) (h2 : slots ≤ ms) : W p l e R s m args below meth c H locs cells slots (MQ below Qc' args s mc ms free) g := by
  intro T hT X
  obtain ⟨t, a1, o, b1, b2, b3, L, b4, b5⟩ := h T hT X
  exact ⟨t, a1, o, b1, b2, hq o t b3 (q9newB_of b4.2.2), L, q9fe_mono b4 h1 h2, b5⟩
theorem q9vx_lift {g : JFrame} {q : Addr} (h : vx_W p l e R s m args below meth c H locs cells slots (vx_MQ below Qc XC args s cells slots free) g q) (hx : ∀ E t, XC E s t → q9newB s.heap t.heap cells slots → XC' E s t) (h1 : cells ≤ mc) (h2 : slots ≤ ms) : vx_W p l e R s m args below meth c H locs cells slots (vx_MQ below Qc XC' args s mc ms free) g q := by
  intro T hT X
  obtain ⟨t, a1, o, b1, b2, b3⟩ := h T hT X
  refine ⟨t, a1, o, b1, b2, ?_⟩
  rcases b3 with ⟨b3, L, b4, b5⟩ | ⟨q9, e9, E, ce, L, c1, c2, c3, c4, c5, c6, c7⟩
  · exact .inl ⟨b3, L, q9fe_mono b4 h1 h2, b5⟩
  · exact .inr ⟨q9, e9, E, ce, L, hx E t c1 (q9newB_of c6), c2, c3, c4, c5, c6.mono h1 h2, c7⟩
theorem q9vxw_lift {g : JFrame} {k9 n9 : Nat} (h : W p l e R s m args below meth c H locs cells slots (vx_MQ below Qc XC args s k9 n9 free) g) (hx : ∀ E t, XC E s t → q9newB s.heap t.heap k9 n9 → XC' E s t) (h1 : k9 ≤ mc) (h2 : n9 ≤ ms) : W p l e R s m args below meth c H locs cells slots (vx_MQ below Qc XC' args s mc ms free) g := by
  intro T hT X
  obtain ⟨t, a1, o, b1, b2, b3⟩ := h T hT X
  refine ⟨t, a1, o, b1, b2, ?_⟩
  rcases b3 with ⟨b3, L, b4, b5⟩ | ⟨q9, e9, E, ce, L, c1, c2, c3, c4, c5, c6, c7⟩
  · exact .inl ⟨b3, L, q9fe_mono b4 h1 h2, b5⟩
  · exact .inr ⟨q9, e9, E, ce, L, hx E t c1 (q9newB_of c6), c2, c3, c4, c5, c6.mono h1 h2, c7⟩
end LIFT
/-- macros are sound, where XP holds of the ghosts -/
noncomputable def q9MACX (O : ORC) (XP : q9ZZ → List Value → Prop) (l : Launch) (ALL : List Cond) (own nm : String) (cc : ByteArray) (n : q9EN) (K K2 : List (Nat × Int)) (mac : Nat → q9ST → Option (List (Nat × q9ST))) : Prop :=
  ∀ {p : Program} {e : Env} {R : Room} {ko : Nat × Nat} {s : State} {m : MethodId} {args : Array Value} {below : List Frame} {meth : Method} {c : Code} {Q : State → Prop} {D : va_G} {cT : Nat → ClassId} {A : Nat → Prop} {H0 : Heap} {G0 : q9GH} {ws0 : va_W} {z0 : q9ZZ} {g : List Value},
    q9EV O p l R ko s m args c cc D cT A H0 G0 own ALL n K K2 z0 → q9THok p l e R ko s m args below meth c Q (q9WM D cT (q9eB n) A H0 G0 ws0 (q9eW n)) own (q9eT n) → XP z0 g → meth.name = nm →
    ∀ (pc : Nat) (x : q9ST) (ss : List (Nat × q9ST)) (r : Nat → Value), q9wfB x = true → mac pc x = some ss → q9NX O p l e R ko s m args below meth c Q (q9eN n) g (q9WM D cT (q9eB n) A H0 G0 ws0 (q9eW n)) ss x r → q9GO O p l e R ko s m args below meth c Q (q9eN n) g (q9WM D cT (q9eB n) A H0 G0 ws0 (q9eW n)) pc x r
theorem q9macx_none {XP : q9ZZ → List Value → Prop} {l : Launch} {ALL : List Cond} {own nm : String} {cc : ByteArray} {n : q9EN} {K K2 : List (Nat × Int)} : q9MACX O XP l ALL own nm cc n K K2 (fun _ _ => none) := fun _ _ _ _ pc x ss r hw hm => by cases hm
/-- a method's walk, whatever is owed at its end -/
theorem q9con_walk {l : Launch} {ALL : List Cond} {XP : q9ZZ → List Value → Prop} {q : q9INST} {n : q9EN} {K K2 : List (Nat × Int)} {mac : Nat → q9ST → Option (List (Nat × q9ST))} {cuts : List q9CUT} {f : Nat} (hE : q9ES O l (q9iY q).cls ALL n K K2) (hm : q9MACX O XP l ALL (q9iY q).cls (q9iY q).name (q9iC q) n K K2 mac) (h : q9conB q n K K2 mac cuts f = true)
    {D : va_G} {cT : Nat → ClassId} {G : q9GH} {ws : va_W} {r : Nat → Value} {z0 : q9ZZ} (hTy : q9tyW cT (q9eB n) G ws) (hSR : q9SR O ((q9tG (q9iPre q)).map (q9ev r)) (q9iPre q) r G ws []) (hzG : True) (hXP : XP z0 ((q9tG (q9iPre q)).map (q9ev r)))
    {p : Program} {e : Env} {s : State} {m : MethodId} {args : Array Value} {below : List Frame} {meth : Method} {c : Code} {s₁ : State} (B9 : BodyLoose p l (q9iY q) (headSpec (q9iCw q :: ALL) (q9iRm q)) (q9iC q) (q9iL q) (q9iR q) e s m args below meth c s₁) (hml : c.maxLocals = q9iL q) (hv : va_Pc ((q9tL (q9iPre q)).map fun z => q9ev r z.2) (q9PSd z0 D cT ws s.heap.size) args s)
    {Q : State → Prop} (hret : ∀ (H : Heap) (locs : List Loc) (cells slots : Nat) (g : JFrame), W p l e (headSpec (q9iCw q :: ALL) (q9iRm q)).room s m args below meth c H locs cells slots (MQ below (q9QV (q9POST O D cT (q9eB n) (q9iW q) G ws (va_A ws s.heap.size) ((q9tG (q9iPre q)).map (q9ev r)) (q9iPost q)) (va_A ws s.heap.size)) args s (q9iMc q) (q9iMs q) (va_A ws s.heap.size)) g → W p l e (headSpec (q9iCw q :: ALL) (q9iRm q)).room s m args below meth c H locs cells slots Q g)
    (hTH : q9THok p l e (headSpec (q9iCw q :: ALL) (q9iRm q)).room (0, 0) s m args below meth c Q (q9WM D cT (q9eB n) (va_A ws s.heap.size) s.heap G ws (q9eW n)) (q9iY q).cls (q9eT n)) :
    W p l e (headSpec (q9iCw q :: ALL) (q9iRm q)).room s m args below meth c s.heap [] 0 0 Q (entryFrame m args (q9iL q)) := by
  unfold q9conB at h
  simp only [Bool.and_eq_true, decide_eq_true_eq] at h
  obtain ⟨h1, h2, h3, h4, h5, h6, h7, h8, h9, h10, h11⟩ := h
  obtain ⟨rfl, ⟨⟨hsz, hP, hK, hD0, hG⟩, hZ⟩, hZz⟩ := hv
  have hx := B9.exec
  have hb := B9.bytes
  have hr := B9.returns
  have hts0 := atoms_spec (ws := q9iCw q :: ALL) B9.pre
  have hlocks := B9.notSynchronized
  have hown : s.vm.findClass (q9iY q).cls = some m.cls := findClass_of_methodNamed B9.named
  have hD := hD0.self (sz := s.heap.size)
  have hS0 : q9SAT G (q9tE (q9iPre q)) r := hSR.2.2.1
  have ho : ∀ z ∈ q9tL (q9iPre q), q9okAV (q9tE (q9iPre q)) z.2 = true := fun z hz => List.all_eq_true.mp h4 z hz
  have hl := lv_entry ((q9tL (q9iPre q)).map fun z => q9ev r z.2) (n := q9iL q) (by rw [q9sl_len hS0 _ ho]; exact h5)
  rw [q9args_eq hS0 (q9tL (q9iPre q)) 0 h3 ho] at hl
  rw [lg_entry_eq]
  generalize (lg_sl ((q9tL (q9iPre q)).map fun z => q9ev r z.2) ++ List.replicate (q9iL q - (lg_sl ((q9tL (q9iPre q)).map fun z => q9ev r z.2)).length) Slot.unset).toArray = ls at hl ⊢
  have hEV : q9EV O p l (headSpec (q9iCw q :: ALL) (q9iRm q)).room (0, 0) s m ((q9tL (q9iPre q)).map fun z => q9ev r z.2).toArray c (q9iC q) D cT (va_A ws s.heap.size) s.heap G (q9iY q).cls ALL n K K2 z0 :=
    hE.ev (z := z0) rfl hZz hzG hx hb (hml.trans h9.symm) hown (fun w hw => hts0 w (List.mem_cons_of_mem _ hw)) hK hG hZ (fun z hz => .inr hz) (by rw [h8]; exact ⟨Nat.le_refl _, Nat.le_refl _, Nat.le_of_eq (Nat.zero_add _), Nat.le_of_eq (Nat.zero_add _)⟩)
  have hgo : q9GO O p l e (headSpec (q9iCw q :: ALL) (q9iRm q)).room (0, 0) s m ((q9tL (q9iPre q)).map fun z => q9ev r z.2).toArray below meth c Q (q9eN n) ((q9tG (q9iPre q)).map (q9ev r)) (q9WM D cT (q9eB n) (va_A ws s.heap.size) s.heap G ws (q9eW n)) 0 (q9iPre q) r := by
    refine q9walk_ok (q9step_ok hEV hTH (hm hEV hTH hXP (name_of_methodNamed B9.named B9.method).1) ?_) h2 h1 r
    intro pc x r' k hw hdg hrt G1 ws1 H locs ls1 st hM hW
    obtain ⟨hP1, hD1, hS1, hT1, hX1, hK1⟩ := hW
    (rewrite [q9rtB_oq] at hrt; unfold q9rtB_o at hrt)
    simp only [Bool.and_eq_true, decide_eq_true_eq] at hrt
    obtain ⟨t1, t2, t3, t4⟩ := hrt
    obtain ⟨qc, rc, e1, e2, e3, e4⟩ := q9endB_ok hM t2
    refine hret _ _ _ _ _ (q9w_lift (Qc := q9QV (fun v st9 t => q9POST0 O D cT (q9eB n) (q9iW q) G ws (va_A ws s.heap.size) ((q9tG (q9iPre q)).map (q9ev r)) qc v t) (va_A ws s.heap.size)) ?_ (fun o t h9 hB9 => ?_) (by omega) (by omega))
    rotate_left
    · obtain ⟨⟨v, rfl, G', ws', r9, p2, p3, p4, p5, p6, p7⟩, hF9⟩ := h9
      exact ⟨⟨v, rfl, G', ws', r9, qc, e1, p2, p3, p4, p5, p6, p7, hB9.mono (by omega) (by omega)⟩, hF9⟩
    have post : ∀ v : Option Value, v.toList = st → ∀ t : State, t.heap = H → q9QV (fun v st9 t => q9POST0 O D cT (q9eB n) (q9iW q) G ws (va_A ws s.heap.size) ((q9tG (q9iPre q)).map (q9ev r)) qc v t) (va_A ws s.heap.size) ((q9tL (q9iPre q)).map fun z => q9ev r z.2).toArray s (.returned v) t := fun v hv9 t ht =>
      ⟨⟨v, rfl, G1, ws1, rc, hX1, by rw [ht]; exact hP1, hD1, hT1, by rw [← h10]; exact hK1, by rw [hv9]; exact e2⟩, hS1.F ht⟩
    have hst := hM.2.1
    (rewrite [q9retB_oq] at t1; unfold q9retB_o at t1)
    split at t1
    · rename_i v hT
      rw [hT] at hst
      have hv9 : q9okAV (q9tE x) v = true := q9wf_S hw v (by rw [hT]; exact List.mem_cons_self)
      have hdg : decode (q9iC q) pc = .ok (.ireturn, 1) := by
        rcases hdg with ⟨-, h⟩ | ⟨h, -⟩ | ⟨h, -⟩ | ⟨h, -⟩
        · exact h
        · cases h
        · cases h
        · cases h
      split at t1
      · rename_i hR9
        obtain ⟨u, eu⟩ := q9isInt_ok hM.2.2.2.1 hv9 t1
        rw [List.map_cons, eu] at hst
        have hst : st = [.int u] := hst
        rw [hst]
        exact W.iret hx hb (hr.trans hR9) (fun t ht _ => post (some (.int u)) hst.symm t ht) hS1.2.2 hdg hlocks
      · rename_i hR9
        split at t1
        · rename_i lo hi hn9
          rw [Bool.and_eq_true, decide_eq_true_eq, decide_eq_true_eq] at t1
          obtain ⟨u, eu, -, u1, u2⟩ := q9num_int hM.2.2.2.1 hv9 hn9
          rw [List.map_cons, eu] at hst
          have hst : st = [.int u] := hst
          rw [hst]
          exact W.zret (ty := .boolean) hx hb (hr.trans hR9) (congrArg Value.int (q9nar1 (by omega) (by omega))) (fun t ht _ => post (some (.int u)) hst.symm t ht) hS1.2.2 hdg hlocks
        · cases t1
      · cases t1
    · rename_i v hT
      rw [hT] at hst
      have hv9 : q9okAV (q9tE x) v = true := q9wf_S hw v (by rw [hT]; exact List.mem_cons_self)
      have hdg : decode (q9iC q) pc = .ok (.areturn, 1) := by
        rcases hdg with ⟨h, -⟩ | ⟨-, h⟩ | ⟨h, -⟩ | ⟨h, -⟩
        · cases h
        · exact h
        · cases h
        · cases h
      split at t1
      · rename_i t ht9
        rw [Bool.and_eq_true] at t1
        have h0 : t.1 ≠ 0 := by
          intro h0
          rw [h0] at t1
          exact absurd t1.1 (by decide)
        have hnull := q9tyR t1.1 (.inl (q9ev_ref hM.2.2.2.1 ht9 h0).2)
        have hst : st = [q9ev r' v] := hst
        rw [hst]
        have hobj : ∃ rt, q9iR q = some rt ∧ ((∃ n, rt = .object n) ∨ ∃ t, rt = .array t) := by
          have t2 := t1.2
          split at t2
          · rename_i a hR9; exact ⟨_, hR9, .inl ⟨_, rfl⟩⟩
          · rename_i a hR9; exact ⟨_, hR9, .inr ⟨_, rfl⟩⟩
          · cases t2
        obtain ⟨rt, hR9, hrt9⟩ := hobj
        exact W.aret hx hb (hr.trans hR9) hrt9 hnull (fun t ht _ => post (some (q9ev r' v)) hst.symm t ht) hS1.2.2 hdg hlocks
      · cases t1
    · rename_i hT
      rw [hT] at hst
      have hdg : decode (q9iC q) pc = .ok (.return_, 1) := by
        rcases hdg with ⟨h, -⟩ | ⟨h, -⟩ | ⟨-, h⟩ | ⟨h, -⟩
        · cases h
        · cases h
        · exact h
        · cases h
      split at t1
      · rename_i hR9
        have hst : st = [] := hst
        rw [hst]
        exact W.vret hx hb (hr.trans hR9) (fun t ht _ => post none hst.symm t ht) hS1.2.2 hdg hlocks
      · cases t1
    · rename_i v hT
      rw [hT] at hst
      have hdg : decode (q9iC q) pc = .ok (.lreturn, 1) := by
        rcases hdg with ⟨h, -⟩ | ⟨h, -⟩ | ⟨h, -⟩ | ⟨-, h⟩
        · cases h
        · cases h
        · cases h
        · exact h
      rw [Bool.and_eq_true] at t1
      obtain ⟨u, eu⟩ := q9isLng_ok hM.2.2.2.1 t1.1
      have t2 := t1.2
      split at t2
      · rename_i hR9
        rw [List.map_cons, eu] at hst
        have hst : st = [.long u] := hst
        rw [hst]
        exact W.lret hx hb (hr.trans hR9) (fun t ht _ => post (some (.long u)) hst.symm t ht) hS1.2.2 hdg hlocks
      · cases t2
    · cases t1
  have k := hgo G ws s.heap [] ls [] ⟨by rw [h9]; exact hl, hSR⟩ ⟨hP, hD, va_S.rf, hTy, q9extG.rf, q9keepW.rf⟩
  rw [h6, h7] at k
  exact k
theorem q9con_ofX {l : Launch} {ALL : List Cond} {XP : q9ZZ → List Value → Prop} {q : q9INST} {n : q9EN} {K K2 : List (Nat × Int)} {mac : Nat → q9ST → Option (List (Nat × q9ST))} {cuts : List q9CUT} {f : Nat} (hst : l.stackTraces = false) (hpl : plainFor (q9iY q) = true) (hpn : q9iThr q ≠ [] → plainName (q9iY q).cls = true) (hE : q9ES O l (q9iY q).cls ALL n K K2) {B : q9TB} (hB : q9eB n = B) (hT : q9eT n = ([], q9iThr q)) (hH : q9iHh q = []) (hm : q9MACX O XP l ALL (q9iY q).cls (q9iY q).name (q9iC q) n K K2 mac) (h : q9conB q n K K2 mac cuts f = true) : q9CONX O XP l B ALL q := by
  subst hB
  intro D cT G ws sz r z0 hTy hSR hzG hXP
  have hcw : q9iCw q = Cond.code (q9iY q) (q9iC q) (q9iL q) (q9iR q) := if_pos hH
  refine ⟨fun h0 => ?_, fun h0 => ?_⟩
  · refine q9ofWF (cc := q9iC q) (maxL := q9iL q) (ret := q9iR q) hpl (by rw [hcw]) ?_
    intro p e s m args below meth c s₁ B9 hml hv
    have hsz : s.heap.size = sz := hv.2.1.1.1
    subst hsz
    refine q9con_walk hE hm h hTy hSR hzG hXP B9 hml hv (fun _ _ _ _ _ k => k) ?_
    rw [hT, h0]
    exact ⟨fun _ hh => (List.not_mem_nil hh).elim, fun _ hh => (List.not_mem_nil hh).elim, fun _ hh => (List.not_mem_nil hh).elim⟩
  · refine vx_ofW (cc := q9iC q) (maxL := q9iL q) (ret := q9iR q) (hpn h0) (by rw [hcw]) ?_
    intro p e s m args below meth c s₁ B9 hml hex hv
    have hsz : s.heap.size = sz := hv.2.1.1.1
    subst hsz
    have hlocks := B9.notSynchronized
    have h' := h
    unfold q9conB at h'
    simp only [Bool.and_eq_true, decide_eq_true_eq] at h'
    obtain ⟨-, -, -, -, -, -, -, -, -, h10, h11⟩ := h'
    refine q9con_walk hE hm h hTy hSR hzG hXP B9 hml hv (fun _ _ _ _ _ k => vx_ret k) ?_
    rw [hT]
    have fin : ∀ (w : String × Nat × Nat), w ∈ q9iThr q → ∀ (G1 : q9GH) (ws1 : va_W) (H : Heap) (locs : List Loc), q9WM D cT (q9eB n) (va_A ws s.heap.size) s.heap G ws (q9eW n) G1 ws1 H locs → ∀ (k9 n9 : Nat), k9 ≤ w.2.1 → n9 ≤ w.2.2 → ∀ (E : String) (t : State), (E = w.1 ∧ H.size ≤ t.heap.size ∧ ∀ q : Nat, q < H.size → t.heap[q]? = H[q]?) → q9newB s.heap t.heap k9 n9 → q9XTH D cT (q9eB n) (q9iW q) G ws (va_A ws s.heap.size) (q9iThr q) E s t := by
      intro w hw G1 ws1 H locs hWM k9 n9 hk9 hn9 E t h8 hB9
      obtain ⟨hP1, hD1, hS1, hT1, hX1, hK1⟩ := hWM
      obtain ⟨rfl, ht1, ht2⟩ := h8
      exact ⟨w, hw, rfl, hB9.mono hk9 hn9, ⟨Nat.le_trans hS1.1 ht1, fun q h1 h2 => (ht2 q (Nat.lt_of_lt_of_le h1 hS1.1)).trans (hS1.2.1 q h1 h2)⟩, G1, ws1, hX1, hP1.kept (fun k q hk => ht2 q.1 (vx_lt hP1 hk)), hD1, hT1, by rw [← h10]; exact hK1⟩
    have hmc : ∀ w ∈ q9iThr q, w.2.1 ≤ q9iMc q ∧ w.2.2 ≤ q9iMs q := fun w hw => by
      have h12 := List.all_eq_true.mp h11 w hw
      simpa only [Bool.and_eq_true, decide_eq_true_eq] using h12
    refine ⟨fun _ hh => (List.not_mem_nil hh).elim, fun w hw G1 ws1 H locs cells slots pc ls rest q9 ce hWM hq9 hv9 hc9 hc hs => ?_, fun w hw G1 ws1 H locs cells slots pc ls rest hTR hWM hls hcat hf6 hl90 hrc hrs hc hs => ?_⟩
    · have hmw := hmc w hw
      exact q9vx_lift (XC := fun E st t => E = w.1 ∧ H.size ≤ t.heap.size ∧ ∀ q : Nat, q < H.size → t.heap[q]? = H[q]?) (vx_out (fun x hx9 => (hex x hx9).elim) hlocks hq9 hv9 hc9 (fun t ht9 hA9 => ⟨rfl, by rw [ht9]; exact Nat.le_refl _, fun q _ => by rw [ht9]⟩) hWM.2.2.1.2.2 (Nat.le_refl _) (Nat.le_refl _)) (fin w hw G1 ws1 H locs hWM _ _ (by omega) (by omega)) (by omega) (by omega)
    · have hmw := hmc w hw
      have hx := B9.exec
      have hown : s.vm.findClass (q9iY q).cls = some m.cls := findClass_of_methodNamed B9.named
      have hZ : GZ (va_A ws s.heap.size) s s.heap := hv.2.1.2
      rcases hTR with ⟨ik, is, ic, sa, text, g1, g2, g3, g4, g5, g6, d0, d3, ⟨d4, d6, d9⟩ | ⟨d4, d6, d9⟩⟩ | ⟨e1, e2, is, sa, text, g2, g3, g4, g5, d0, d3, d4, d6, d9⟩
      · refine q9vxw_lift (mc := q9iMc q) (ms := q9iMs q) (k9 := cells + 1) (n9 := slots + 6) (XC := fun E st t => E = w.1 ∧ H.size ≤ t.heap.size ∧ ∀ q : Nat, q < H.size → t.heap[q]? = H[q]?) (vx_throwS (own := (q9iY q).cls) (cls := w.1) (text := text) (names := q9xNm) (ik := ik) (is := is) (ic := ic) (A := va_A ws s.heap.size) hx rfl hst hown g1 (by decide +kernel) g2 g3 g4 g5 g6 hZ.1 hZ.2 hWM.2.2.1 hls d0 d3 d4 d6 d9 (fun x hx9 => (hex x hx9).elim) (by show 2 + 3 < _; omega) (by show _ + (13 * (2 + 1) + 43) ≤ _; omega) hrc hrs hlocks (fun t hA9 h1 h2 => ⟨rfl, h1, h2⟩) hWM.2.2.1.2.2 (Nat.le_refl _) (Nat.le_refl _)) (fin w hw G1 ws1 H locs hWM _ _ (by omega) (by omega)) (by omega) (by omega)
      · refine q9vxw_lift (mc := q9iMc q) (ms := q9iMs q) (k9 := cells + 1) (n9 := slots + 6) (XC := fun E st t => E = w.1 ∧ H.size ≤ t.heap.size ∧ ∀ q : Nat, q < H.size → t.heap[q]? = H[q]?) (vx_throwSW (own := (q9iY q).cls) (cls := w.1) (text := text) (names := q9xNm) (ik := ik) (is := is) (ic := ic) (A := va_A ws s.heap.size) hx rfl hst hown g1 (by decide +kernel) g2 g3 g4 g5 g6 hZ.1 hZ.2 hWM.2.2.1 hls d0 d3 d4 d6 d9 (fun x hx9 => (hex x hx9).elim) (by show 2 + 3 < _; omega) (by show _ + (13 * (2 + 1) + 43) ≤ _; omega) hrc hrs hlocks (fun t hA9 h1 h2 => ⟨rfl, h1, h2⟩) hWM.2.2.1.2.2 (Nat.le_refl _) (Nat.le_refl _)) (fin w hw G1 ws1 H locs hWM _ _ (by omega) (by omega)) (by omega) (by omega)
      · rw [e2] at hown
        refine z_make (text := text) (is := is) (A := va_A ws s.heap.size) hx rfl hst hown g2 g3 g4 g5 z_good hZ.1 hZ.2 hWM.2.2.1 hls d0 d3 d4 d6 (fun z hz => .inr hz) (by omega) (by omega) hrc hrs fun q9 ce H1 hq9 hv9 hc9 hk9 hS1 => ?_
        refine vx_athrow hx rfl d9 ?_
        refine q9vx_lift (XC := fun E st t => E = w.1 ∧ H.size ≤ t.heap.size ∧ ∀ q : Nat, q < H.size → t.heap[q]? = H[q]?) (vx_out (fun x hx9 => (hex x hx9).elim) hlocks hq9 hv9 hc9 (fun t ht9 hA9 => ⟨e1.symm, by rw [ht9]; exact hk9.1, fun q hq => by rw [ht9]; exact hk9.2 q hq⟩) hS1.2.2 (Nat.le_refl _) (Nat.le_refl _)) (fin w hw G1 ws1 H locs hWM _ _ (by omega) (by omega)) (by omega) (by omega)
theorem q9con_of {l : Launch} {ALL : List Cond} {q : q9INST} {n : q9EN} {K K2 : List (Nat × Int)} {cuts : List q9CUT} {f : Nat} (hst : l.stackTraces = false) (hpl : plainFor (q9iY q) = true) (hpn : q9iThr q ≠ [] → plainName (q9iY q).cls = true) (hE : q9ES O l (q9iY q).cls ALL n K K2) {B : q9TB} (hB : q9eB n = B) (hT : q9eT n = ([], q9iThr q)) (hH : q9iHh q = []) (h : q9conB q n K K2 (fun _ _ => none) cuts f = true) : q9CON O l B ALL q :=
  q9con_ofX hst hpl hpn hE hB hT hH (q9macx_none (XP := fun _ _ => True)) h
