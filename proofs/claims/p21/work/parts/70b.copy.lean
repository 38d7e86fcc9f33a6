variable {O : ORC}
/-! System.arraycopy of the first elements of q9one array to the first of another -/
noncomputable def q9lenB_o (x : q9ST) (ln : q9AV) (a b : Nat) : Bool := match q9num (q9tE x) ln with
  | some (0, lo, hi) => decide (0 ≤ lo) && (decide (hi ≤ (a : Int)) && decide (hi ≤ (b : Int)))
  | _ => false
noncomputable def q9lenB (x : q9ST) (ln : q9AV) (a b : Nat) : Bool := match q9num (q9tE x) ln with
  | some (0, lo, hi) => q9nd9 ((q9le9 (0) (lo))) ((q9nd9 ((q9le9 (hi) ((a : Int)))) ((q9le9 (hi) ((b : Int))))))
  | _ => false
theorem q9lenB_oq : @q9lenB = @q9lenB_o := by
  delta q9lenB q9lenB_o
  simp only [q9ge9_eq, q9fi9_eq, q9an9_eq, q9al9_eq, q9flt9_eq, q9el9_eq, q9set9_eq, q9ln9_eq, q9gD9_eq, q9ap9_eq, q9eq9_N, q9eq9_I, q9eq9_A, q9eq9_E, q9eq9_OI, q9eq9_ON, q9eq9_OA, q9eq9_L, q9eq9_S, q9de9_N, q9de9_I, q9de9_A, q9le9_N, q9le9_I, q9lt9_N, q9lt9_I, q9de9_E, q9de9_OI, q9de9_ON, q9de9_OA, q9de9_L, q9nd9_eq, q9or9_eq, Bool.cond_decide]
noncomputable def q9cpyB_o (x : q9ST) (Wr : List Nat) (rn : q9RN) (ln dp sp : q9AV) (ks kd : q9AK) (cd : Nat) (rest : List q9AV) : Bool :=
  dp == (0, 0) && (sp == (0, 0) && (q9zeroB x && ((ks.1 == 0 || ks.1 == 1) && (kd.1 == ks.1 && (ks.2.2.1 && (kd.2.2.1 && (q9lenB x ln ks.2.1 kd.2.1 && (ks.2.2.2.1 == 0 && (kd.2.2.2.1 == 0 && (decide (kd.2.2.2.2.1 ≤ ks.2.2.2.2.1) && (decide (ks.2.2.2.2.2 ≤ kd.2.2.2.2.2) && (q9narB ks && (Wr.elem (100000 + cd) && (decide (1 ≤ rn.1) && (decide (26 ≤ rn.2.1) && decide (q9catS (q9tE x) rest ≤ 8))))))))))))))))
noncomputable def q9cpyB (x : q9ST) (Wr : List Nat) (rn : q9RN) (ln dp sp : q9AV) (ks kd : q9AK) (cd : Nat) (rest : List q9AV) : Bool :=
  q9nd9 (q9eq9 (dp) ((0, 0))) ((q9nd9 (q9eq9 (sp) ((0, 0))) ((q9nd9 (q9zeroB x) ((q9nd9 ((q9or9 (q9eq9 (ks.1) (0)) (q9eq9 (ks.1) (1)))) ((q9nd9 (q9eq9 (kd.1) (ks.1)) ((q9nd9 (ks.2.2.1) ((q9nd9 (kd.2.2.1) ((q9nd9 (q9lenB x ln ks.2.1 kd.2.1) ((q9nd9 (q9eq9 (ks.2.2.2.1) (0)) ((q9nd9 (q9eq9 (kd.2.2.2.1) (0)) ((q9nd9 ((q9le9 (kd.2.2.2.2.1) (ks.2.2.2.2.1))) ((q9nd9 ((q9le9 (ks.2.2.2.2.2) (kd.2.2.2.2.2))) ((q9nd9 (q9narB ks) ((q9nd9 (q9el9 Wr (100000 + cd)) ((q9nd9 ((q9le9 (1) (rn.1))) ((q9nd9 ((q9le9 (26) (rn.2.1))) ((q9le9 (q9catS (q9tE x) rest) (8)))))))))))))))))))))))))))))))))
theorem q9cpyB_oq : @q9cpyB = @q9cpyB_o := by
  delta q9cpyB q9cpyB_o
  simp only [q9ge9_eq, q9fi9_eq, q9an9_eq, q9al9_eq, q9flt9_eq, q9el9_eq, q9set9_eq, q9ln9_eq, q9gD9_eq, q9ap9_eq, q9eq9_N, q9eq9_I, q9eq9_A, q9eq9_E, q9eq9_OI, q9eq9_ON, q9eq9_OA, q9eq9_L, q9eq9_S, q9de9_N, q9de9_I, q9de9_A, q9le9_N, q9le9_I, q9lt9_N, q9lt9_I, q9de9_E, q9de9_OI, q9de9_ON, q9de9_OA, q9de9_L, q9nd9_eq, q9or9_eq, Bool.cond_decide]
/-- a text that is copied whole -/
noncomputable def q9cpA_o (x : q9ST) (cd : Nat) (ln d s : q9AV) : List (Nat × q9AV × q9AV) := if (cd == 165 || cd == 166) = true then
  ((q9tA x).filter (fun z => q9famE (q9tE x) z.1 == some (-104) && (z.2.1 == s && q9eqV x z.2.2 ln))).map (fun z => (z.1, d, ln)) else []
noncomputable def q9cpA (x : q9ST) (cd : Nat) (ln d s : q9AV) : List (Nat × q9AV × q9AV) := if (q9or9 (q9eq9 (cd) (165)) (q9eq9 (cd) (166))) = true then
  (q9flt9 (q9tA x) (fun z => q9nd9 (q9eq9 (q9famE (q9tE x) z.1) (some (-104))) ((q9nd9 (q9eq9 (z.2.1) (s)) (q9eqV x z.2.2 ln))))).map (fun z => (z.1, d, ln)) else []
theorem q9cpA_oq : @q9cpA = @q9cpA_o := by
  delta q9cpA q9cpA_o
  simp only [q9ge9_eq, q9fi9_eq, q9an9_eq, q9al9_eq, q9flt9_eq, q9el9_eq, q9set9_eq, q9ln9_eq, q9gD9_eq, q9ap9_eq, q9eq9_N, q9eq9_I, q9eq9_A, q9eq9_E, q9eq9_OI, q9eq9_ON, q9eq9_OA, q9eq9_L, q9eq9_S, q9de9_N, q9de9_I, q9de9_A, q9le9_N, q9le9_I, q9lt9_N, q9lt9_I, q9de9_E, q9de9_OI, q9de9_ON, q9de9_OA, q9de9_L, q9nd9_eq, q9or9_eq, Bool.cond_decide]
noncomputable def q9exCopy_o (B : q9TB) (Wr : List Nat) (rn : q9RN) (x : q9ST) (pc' : Nat) : Option (List (Nat × q9ST)) := match q9tS x with
  | ln :: dp :: d :: sp :: s :: rest => (match q9kindOf B x s.1, q9kindOf B x d.1 with
    | some (_, ks), some (cd, kd) => if q9cpyB x Wr rn ln dp sp ks kd cd rest = true then
        some [(pc', q9sS (q9sA x (q9cpA x cd ln d s ++ (q9tA x).filter (fun z => match q9codeOf x z.1 with | some cd' => !(cd' == cd) | none => q9jB [100000 + cd] (q9tE x) z.1))) rest)] else none
    | _, _ => none)
  | _ => none
noncomputable def q9exCopy (B : q9TB) (Wr : List Nat) (rn : q9RN) (x : q9ST) (pc' : Nat) : Option (List (Nat × q9ST)) := match q9tS x with
  | ln :: dp :: d :: sp :: s :: rest => (match q9kindOf B x s.1, q9kindOf B x d.1 with
    | some (_, ks), some (cd, kd) => if q9cpyB x Wr rn ln dp sp ks kd cd rest = true then
        some [(pc', q9sS (q9sA x ((q9ap9 (q9cpA x cd ln d s) (q9flt9 (q9tA x) (fun z => match q9codeOf x z.1 with | some cd' => !(q9eq9 (cd') (cd)) | none => q9jB [100000 + cd] (q9tE x) z.1))))) rest)] else none
    | _, _ => none)
  | _ => none
theorem q9exCopy_oq : @q9exCopy = @q9exCopy_o := by
  delta q9exCopy q9exCopy_o
  simp only [q9ge9_eq, q9fi9_eq, q9an9_eq, q9al9_eq, q9flt9_eq, q9el9_eq, q9set9_eq, q9ln9_eq, q9gD9_eq, q9ap9_eq, q9eq9_N, q9eq9_I, q9eq9_A, q9eq9_E, q9eq9_OI, q9eq9_ON, q9eq9_OA, q9eq9_L, q9eq9_S, q9de9_N, q9de9_I, q9de9_A, q9le9_N, q9le9_I, q9lt9_N, q9lt9_I, q9de9_E, q9de9_OI, q9de9_ON, q9de9_OA, q9de9_L, q9nd9_eq, q9or9_eq, Bool.cond_decide]
theorem q9tyV_num' {G : q9GH} {t : q9ET} {v : Int32} (h : q9tyV G t (.int v)) (h0 : t.1 = 0) : t.2.1 ≤ v.toInt ∧ v.toInt ≤ t.2.2 := q9tyV_num h (.inl h0)
theorem q9tyV_sub {G : q9GH} {t u : q9ET} {v : Int32} (h : q9tyV G t (.int v)) (h0 : t.1 = 0) (h1 : u.1 = 0) (h2 : u.2.1 ≤ t.2.1) (h3 : t.2.2 ≤ u.2.2) : q9tyV G u (.int v) := by
  have := q9tyV_num' h h0
  obtain ⟨k, lo, hi⟩ := u
  have h1 : k = 0 := h1
  subst h1
  have h2 : lo ≤ t.2.1 := h2
  have h3 : t.2.2 ≤ hi := h3
  exact ⟨v, rfl, by show lo ≤ _; omega, by show _ ≤ hi; omega⟩
theorem q9fits8 {u : Int32} (h1 : -128 ≤ u.toInt) (h2 : u.toInt ≤ 127) : fits .byte (.int u) = true := by
  have a : (-128 : Int32) ≤ u := by
    rw [Int32.le_iff_toInt_le]
    exact h1
  have b : u ≤ (127 : Int32) := by
    rw [Int32.le_iff_toInt_le]
    exact h2
  show (decide (-128 ≤ u) && decide (u ≤ 127)) = true
  rw [decide_eq_true a, decide_eq_true b]
  rfl
section CPY
variable {p : Program} {l : Launch} {e : Env} {R : Room} {ko : Nat × Nat} {s : State} {m : MethodId} {args : Array Value} {below : List Frame} {meth : Method} {c : Code} {Q : State → Prop} {cc : ByteArray}
variable {nL : Nat} {g : List Value} {D : va_G} {cT : Nat → ClassId} {B : q9TB} {A : Nat → Prop} {H0 : Heap} {G0 : q9GH} {ws0 : va_W} {Wr : List Nat}
/-- the words of a copy -/
noncomputable def q9CPok (s : State) (args : Array Value) (own : String) (idx : Nat) : Prop := (Cond.methodLink own idx arraycopyName).before args s = true ∧ (Cond.native arraycopyName).before args s = true ∧ (Cond.static arraycopyName).before args s = true ∧ (Cond.initialized "java/lang/System").before args s = true
theorem q9zero_z {G : q9GH} {E : List q9ET} {r : Nat → Value} (hS : q9SAT G E r) (h : E[0]? = some (0, 0, 0)) : q9ev r (0, 0) = .int 0 := q9zero_ev hS h 0
theorem q9exCopy_ok {own : String} {idx : Nat} (hx : p.tables.exec = Jvm.exec) (hb : c.code = cc) (hml : c.maxLocals = nL) (hown : s.vm.findClass own = some m.cls) (hK : va_K D vwCl (TY cT) s) (hC : q9CPok s args own idx) {rn : q9RN} (hR : rn.1 ≤ R.frames ∧ rn.2.1 ≤ R.locals ∧ ko.1 + rn.2.2.1 ≤ R.cells ∧ ko.2 + rn.2.2.2 ≤ R.slots)
    {x : q9ST} {r : Nat → Value} {pc : Nat} {ss : List (Nat × q9ST)} (hw : q9wfB x = true) (hdg : decode cc pc = .ok (.invokestatic idx, 3)) (h : q9exCopy B Wr rn x (pc + 3) = some ss) (hn : q9NX O p l e R ko s m args below meth c Q nL g (q9WM D cT B A H0 G0 ws0 Wr) ss x r) : q9GO O p l e R ko s m args below meth c Q nL g (q9WM D cT B A H0 G0 ws0 Wr) pc x r := by
  (rewrite [q9exCopy_oq] at h; unfold q9exCopy_o at h)
  split at h
  · rename_i ln dp d sp so rest hT
    split at h
    · rename_i cs ks cd kd hks hkd
      split at h
      · rename_i hc
        cases h
        (rewrite [q9cpyB_oq] at hc; unfold q9cpyB_o at hc)
        simp only [Bool.and_eq_true, Bool.or_eq_true, beq_iff_eq, decide_eq_true_eq] at hc
        obtain ⟨c1, c2, c3, c4, c5, c6, c7, q9c8, c9, c10, c11, c12, c13, c14, c15, q9c16, c17⟩ := hc
        intro G ws H locs ls st hM hW
        obtain ⟨hP, hD, hS, hTy, hX, hKe⟩ := hW
        have okS : ∀ a ∈ q9tS x, q9okAV (q9tE x) a = true := q9wf_S hw
        rw [hT] at okS
        have hln : q9okAV (q9tE x) ln = true := okS ln (by simp)
        have okr : ∀ a ∈ rest, q9okAV (q9tE x) a = true := fun a ha => okS a (by simp [ha])
        obtain ⟨b0, n0, q0, ce0, k1, k2, k3, k4, k5, k6, k7⟩ := q9kindOf_ok hM.2.2.2.1 hTy hks
        obtain ⟨b1, n1, q1, ce1, j1, j2, j3, j4, j5, j6, j7⟩ := q9kindOf_ok hM.2.2.2.1 hTy hkd
        have es : q9ev r so = .ref b0 := by
          unfold q9ev
          rw [k1]
        have ed : q9ev r d = .ref b1 := by
          unfold q9ev
          rw [j1]
        have hlen : ∃ y : Int32, q9ev r ln = .int y ∧ 0 ≤ y.toInt ∧ y.toInt ≤ (ks.2.1 : Int) ∧ y.toInt ≤ (kd.2.1 : Int) := by
          (rewrite [q9lenB_oq] at q9c8; unfold q9lenB_o at q9c8)
          split at q9c8
          · rename_i lo hi hn9
            obtain ⟨y, e1, -, e3, e4⟩ := q9num_int hM.2.2.2.1 hln hn9
            simp only [Bool.and_eq_true, decide_eq_true_eq] at q9c8
            exact ⟨y, e1, by omega, by omega, by omega⟩
          · cases q9c8
        obtain ⟨y, ey, y0, y1, y2⟩ := hlen
        have z0 := q9zero_z hM.2.2.2.1 (q9zero_at c3)
        have hst := hM.2.1
        rw [hT, c1, c2, List.map_cons, List.map_cons, List.map_cons, List.map_cons, List.map_cons, ey, z0, es, ed] at hst
        rw [hst]
        have hik : q9intK ks = true := by
          (rewrite [q9intK_oq]; unfold q9intK_o)
          rcases c4 with c4 | c4 <;> simp [c4]
        have hik2 : q9intK kd = true := by
          (rewrite [q9intK_oq]; unfold q9intK_o)
          rw [c5]
          rcases c4 with c4 | c4 <;> simp [c4]
        obtain ⟨f, hf⟩ := q9intK_ok k5 hik
        obtain ⟨f1, hf1⟩ := q9intK_ok j5 hik2
        have hf1' := hf1
        rw [c5] at hf1'
        have en0 : n0 = ks.2.1 := k5.2.1 c6
        have en1 : n1 = kd.2.1 := j5.2.1 c7
        have hfty : ∀ i : Nat, i < n0 → q9tyV G ks.2.2.2 (.int (f i)) := fun i hi => by
          have := q9el_ty k5 hi
          rw [hf] at this
          exact this
        have hfty1 : ∀ i : Nat, i < n1 → q9tyV G kd.2.2.2 (.int (f1 i)) := fun i hi => by
          have := q9el_ty j5 hi
          rw [hf1] at this
          exact this
        have yc : y.toNatClampNeg = y.toInt.toNat := rfl
        have z9 : (0 : Int32).toNatClampNeg = 0 := rfl
        have n0' : ¬ (0 : Int32) < 0 := by decide
        have yn : ¬ y < 0 := by
          rw [Int32.lt_iff_toInt_lt, Int32.toInt_zero]
          omega
        have hcat : ((rest.map (q9ev r)).map fun v => v.category).sum ≤ 8 := Nat.le_trans (q9catS_ok hM.2.2.2.1 rest okr) c17
        have hwords : ((rest.map (q9ev r)).map fun v => v.category).sum + (nativeFrameWords "java/lang/System" "arraycopy" 5 + 11) ≤ R.locals := by
          have e : nativeFrameWords "java/lang/System" "arraycopy" 5 = 7 := by decide +kernel
          rw [e]
          have := hR.2.1
          omega
        have hty : ∃ ty : FieldType, (TY cT)[ks.1]? = some (cT ks.1, ty) ∧ refKind ty = false ∧ ∀ i : Nat, i < y.toNatClampNeg → fits ty (.int (f ((0 : Int32).toNatClampNeg + i))) = true := by
          rcases c4 with c4 | c4
          · rw [c4]
            exact ⟨.int, rfl, rfl, fun i hi => rfl⟩
          · rw [c4]
            refine ⟨.byte, rfl, rfl, fun i hi => ?_⟩
            rw [z9, Nat.zero_add]
            have h9 := hfty i (by omega)
            obtain ⟨t, N, fx, et⟩ := ks
            have c4 : t = 1 := c4
            subst c4
            (rewrite [q9narB_oq] at c13; unfold q9narB_o at c13)
            rw [if_pos rfl] at c13
            simp only [Bool.and_eq_true, beq_iff_eq, decide_eq_true_eq] at c13
            have b1 : -128 ≤ et.2.1 := c13.2.1
            have b2 : et.2.2 ≤ 127 := c13.2.2
            have b3 := (q9tyV_num' h9 c13.1).1
            have b4 := (q9tyV_num' h9 c13.1).2
            have b3 : et.2.1 ≤ (f i).toInt := b3
            have b4 : (f i).toInt ≤ et.2.2 := b4
            exact q9fits8 (by omega) (by omega)
        obtain ⟨ty, t1, t2, t3⟩ := hty
        refine va_copyi (ty := ty) hx hb (hml.trans hM.1.1.symm) hown hC.1 hC.2.1 hC.2.2.1 hC.2.2.2 hK hP hD hS q0 q1 ks.1 ks.1 (by rw [k4, hf]) (by rw [j4, hf1']) t1 t1 t2 n0' n0' yn (by rw [z9]; omega) (by rw [z9]; omega) t3 (Nat.le_trans c15 hR.1) hwords hdg fun H1 locs1 hP1 hD1 hS1 => ?_
        have hTy1 : q9tyW cT B G (ws.set q1 (b1, .inl (cT ks.1, n1, .inl (va_cpy f f1 (0 : Int32).toNatClampNeg (0 : Int32).toNatClampNeg y.toNatClampNeg)))) := hTy.set j3 (.inr ⟨j7, kd, j6, by
          have key : ∀ i : Nat, i < n1 → q9tyV G kd.2.2.2 (.int (va_cpy f f1 (0 : Int32).toNatClampNeg (0 : Int32).toNatClampNeg y.toNatClampNeg i)) := by
            intro i hi
            unfold va_cpy
            rw [z9]
            split
            · rename_i hh
              have h9 := hfty (0 + (i - 0)) (by omega)
              exact q9tyV_sub h9 c9 c10 c11 c12
            · exact hfty1 i hi
          obtain ⟨h1, h2, h3⟩ := j5
          refine ⟨h1, h2, ?_⟩
          rcases c4 with c4 | c4
          · rw [c5, c4]
            exact ⟨_, rfl, key⟩
          · rw [c5, c4]
            exact ⟨_, rfl, key⟩⟩)
        have hke : q9keepW Wr G ws (ws.set q1 (b1, .inl (cT ks.1, n1, .inl (va_cpy f f1 (0 : Int32).toNatClampNeg (0 : Int32).toNatClampNeg y.toNatClampNeg)))) := q9keepW.set j3 j4 (by
          rw [hf1]
          exact fun hh => absurd (List.elem_iff.mp c14) hh)
        have hke1 : q9keepW [100000 + cd] G ws (ws.set q1 (b1, .inl (cT ks.1, n1, .inl (va_cpy f f1 (0 : Int32).toNatClampNeg (0 : Int32).toNatClampNeg y.toNatClampNeg)))) := q9keepW.set j3 j4 (by
          rw [hf1]
          exact fun hh => absurd List.mem_cons_self hh)
        have hM2 : q9SM O nL g (q9sA x (q9cpA x cd ln d so ++ (q9tA x).filter (fun z => match q9codeOf x z.1 with | some cd' => !(cd' == cd) | none => q9jB [100000 + cd] (q9tE x) z.1))) r G (ws.set q1 (b1, .inl (cT ks.1, n1, .inl (va_cpy f f1 (0 : Int32).toNatClampNeg (0 : Int32).toNatClampNeg y.toNatClampNeg)))) ls st := by
          refine ⟨hM.1, hM.2.1, hM.2.2.1, hM.2.2.2.1, fun z hz => ?_, fun z hz => ?_, hM.2.2.2.2.2.2⟩
          · have h9 := hM.2.2.2.2.1 z hz
            unfold q9FMok at h9 ⊢
            split
            · rename_i h0
              rw [if_pos h0] at h9
              exact h9
            · rename_i h0
              rw [if_neg h0] at h9
              obtain ⟨b', i', ci', fs', e1, e2, e3⟩ := h9
              refine ⟨b', i', ci', fs', e1, ?_, e3⟩
              by_cases hii : i' = q1
              · subst hii
                rw [j4, hf1] at e2
                cases e2
              · rw [List.getElem?_set_ne (fun y => hii y.symm)]
                exact e2
          · rcases List.mem_append.mp hz with hz | hz
            · (rewrite [q9cpA_oq] at hz; unfold q9cpA_o at hz)
              split at hz
              · rename_i hcd
                obtain ⟨w, w0, rfl⟩ := List.mem_map.mp hz
                obtain ⟨w1, w2⟩ := List.mem_filter.mp w0
                simp only [Bool.and_eq_true, beq_iff_eq] at w2
                obtain ⟨w2, w3, w4⟩ := w2
                have hN := q9fm_of hM w1 w2 (by decide)
                rw [q9FMP_5 (by decide), w3, es, q9eqV_ok hM w4, ey] at hN
                obtain ⟨a0, cd0, n0, M, e1, e2, e3, e4, e5, e6⟩ : q9EQF O true [165, 166] 1000 true G ws (.ref b0) (.int y) := hN
                cases e1
                cases e2
                obtain ⟨qq, kk, nn, cA, g1, g2⟩ := e4
                have hq : qq = q0 := hD.1 qq q0 _ _ g2 k4 rfl
                subst hq
                rw [k4, hf] at g2
                cases g2
                refine .inr (.inr ⟨-104, q9famE_ok hM.2.2.2.1 w2 (by decide), by decide, ?_⟩)
                rw [q9FMP_5 (by decide)]
                show q9EQF O true [165, 166] 1000 true G _ (q9ev r d) (q9ev r ln)
                rw [ed, ey]
                refine ⟨b1, cd, y, _, rfl, rfl, ?_, ⟨q1, n1, n1, cT ks.1, j3, by rw [List.getElem?_set_self (List.getElem?_eq_some_iff.mp j4).1]⟩, fun i hi => ?_, e6⟩
                · rcases Bool.or_eq_true _ _ ▸ hcd with h9 | h9
                  · rw [beq_iff_eq.mp h9]; exact List.mem_cons_self
                  · rw [beq_iff_eq.mp h9]; exact List.mem_cons_of_mem _ List.mem_cons_self
                · have h5 := e5 i hi
                  unfold va_cpy
                  rw [z9]
                  have ey9 : y.toNatClampNeg = y.toInt.toNat := rfl
                  rw [if_pos (by omega)]
                  have : 0 + (i - 0) = i := by omega
                  rw [this]
                  exact h5
              · exact (List.not_mem_nil hz).elim
            obtain ⟨z1, z2⟩ := List.mem_filter.mp hz
            rcases hM.2.2.2.2.2.1 z z1 with ⟨b', i', cA, n', f', w, e1, e2, e3, e4⟩ | hJ
            case inr =>
              cases hcz : q9codeOf x z.1 with
              | none =>
                rw [hcz] at z2
                exact .inr (q9JA_keep q9extG.rf hke1 (q9jB_ok hM.2.2.2.1 z2) hJ)
              | some cd' =>
                obtain ⟨b2, n2', w1, w2⟩ := q9codeOf_ok hM.2.2.2.1 hcz
                rw [w1] at hJ
                exact (q9JA_ref hJ).elim
            refine .inl ⟨b', i', cA, n', f', w, e1, ?_, e3, e4⟩
            by_cases hii : i' = q1
            · exfalso
              subst hii
              cases hcz : q9codeOf x z.1 with
              | none =>
                rw [hcz] at z2
                exact q9jB_ref hM.2.2.2.1 z2 e1
              | some cd' =>
                rw [hcz] at z2
                obtain ⟨b2, n2', w1, w2⟩ := q9codeOf_ok hM.2.2.2.1 hcz
                rw [e1] at w1
                cases w1
                rw [j4] at e2
                cases e2
                have := (hTy.one hD w2 j2).1
                simp [this] at z2
            · rw [List.getElem?_set_ne (fun y => hii y.symm)]
              exact e2
        exact hn.one q9agr.rf (Nat.le_refl _) G _ H1 locs1 ls _ (hM2.S rest) ⟨hP1, hD1, hS1, hTy1, hX, hKe.tr hX hke⟩
      · cases h
    · cases h
  · cases h
end CPY
