/-! calls, and q9one q9step -/
def q9sG (x : q9ST) (v : List q9AV) : q9ST := (q9tE x, q9tL x, q9tS x, v, q9tF x, q9tA x, q9tC x, q9tX x, q9tN x, q9tM x)
/-- a call: place in the pool, how (0 of an object, 1 static, 2 static of a nest mate), the sort of the object, the contract -/
abbrev q9CE : Type := Nat × Nat × Nat × q9INST
def q9oneB (E : List q9ET) (a : q9AV) : Bool := match E[a.1]? with
  | some t => !(t.1 == 1)
  | none => false
def q9numL (E : List q9ET) : Nat → List q9AV → List (Nat × q9AV)
  | _, [] => []
  | k, a :: as => (k, a) :: q9numL E (if q9oneB E a then k + 1 else k + 2) as
def q9catS (E : List q9ET) : List q9AV → Nat
  | [] => 0
  | a :: as => (if q9oneB E a then 1 else 2) + q9catS E as
theorem q9catS_ok {G : q9GH} {E : List q9ET} {r : Nat → Value} (hS : q9SAT G E r) : ∀ as : List q9AV, (∀ a ∈ as, q9okAV E a = true) → ((as.map (q9ev r)).map fun v => v.category).sum ≤ q9catS E as
  | [], _ => Nat.le_refl _
  | a :: as, h => by
    have h1 := q9catS_ok hS as fun z hz => h z (List.mem_cons_of_mem _ hz)
    show (q9ev r a).category + _ ≤ (if q9oneB E a then 1 else 2) + q9catS E as
    have h2 : (q9ev r a).category ≤ (if q9oneB E a then 1 else 2) := by
      split
      · rename_i ho
        unfold q9oneB at ho
        cases hE : E[a.1]? with
        | none => rw [hE] at ho; cases ho
        | some t =>
          rw [hE] at ho
          exact Nat.le_of_eq (q9cat_ev hS hE (by simpa using ho) (h a List.mem_cons_self))
      · rcases lv_cat (q9ev r a) with e | e <;> omega
    exact Nat.add_le_add h2 h1
def q9LK (ALL : List Cond) (s : State) (own : String) (q : q9CE) : Prop :=
  GoodIn ALL [.code (q9iY q.2.2.2) (q9iC q.2.2.2) (q9iL q.2.2.2) (q9iR q.2.2.2), .initialized (q9iY q.2.2.2).cls] ∧ ((q9iY q.2.2.2).cls ≠ "java/lang/invoke/MethodHandle" ∧ (q9iY q.2.2.2).cls ≠ "java/lang/invoke/VarHandle" ∧ (parseMethodDescriptor (q9iY q.2.2.2).desc).map (fun d => d.parameters.length) = some (if q.2.1 = 0 then (q9tL (q9iPre q.2.2.2)).length - 1 else (q9tL (q9iPre q.2.2.2)).length)) ∧
  match q.2.1 with
  | 0 => GoodIn ALL [.methodLink own q.1 (q9iY q.2.2.2), .instanceMethod (q9iY q.2.2.2), .selects (q9iY q.2.2.2).cls (q9iY q.2.2.2) (q9iY q.2.2.2)] ∧ ∃ rc : vw_C, vwCl[q.2.2.1]? = some rc ∧ rc.1 = (q9iY q.2.2.2).cls
  | 1 => GoodIn ALL [.methodLink own q.1 (q9iY q.2.2.2), .static (q9iY q.2.2.2)]
  | _ => va_Nw (.methodLinkNest own q.1 (q9iY q.2.2.2) RX11) s ∧ GoodIn ALL [.static (q9iY q.2.2.2)]
/-- the cases of a callee's end -/
def q9inhs (gs : List q9AV) (Wr : List Nat) (x : q9ST) (pc' : Nat) : List q9CASE → Option (List (Nat × q9ST))
  | [] => some []
  | q :: qs => match q9inh gs Wr x q, q9inhs gs Wr x pc' qs with
    | some (some (x', vs)), some ss => some ((pc', q9sS x' (vs ++ q9tS x')) :: ss)
    | some none, some ss => some ss
    | _, _ => none
theorem q9inhs_mem {gs : List q9AV} {Wr : List Nat} {x : q9ST} {pc' : Nat} : ∀ {qs : List q9CASE} {ss : List (Nat × q9ST)}, q9inhs gs Wr x pc' qs = some ss → ∀ q ∈ qs, ∃ o, q9inh gs Wr x q = some o ∧ ∀ (x' : q9ST) (vs : List q9AV), o = some (x', vs) → (pc', q9sS x' (vs ++ q9tS x')) ∈ ss
  | [], _, _, q, hq => by cases hq
  | q0 :: qs, ss, h, q, hq => by
    unfold q9inhs at h
    split at h
    · rename_i x' vs ss' e1 e2
      cases h
      rcases List.mem_cons.mp hq with rfl | hq
      · exact ⟨_, e1, fun y ws hy => by cases hy; exact List.mem_cons_self⟩
      · obtain ⟨o, f1, f2⟩ := q9inhs_mem e2 q hq
        exact ⟨o, f1, fun y ws hy => List.mem_cons_of_mem _ (f2 y ws hy)⟩
    · rename_i ss' e1 e2
      cases h
      rcases List.mem_cons.mp hq with rfl | hq
      · exact ⟨_, e1, fun y ws hy => by cases hy⟩
      · exact q9inhs_mem e2 q hq
    · cases h
abbrev q9RN : Type := Nat × Nat × Nat × Nat
def q9recvB (x : q9ST) (q : q9CE) (as : List q9AV) : Bool := if q.2.1 = 0 then (match as with
  | a :: _ => q9codeOf x a.1 == some q.2.2.1 && decide (q.2.2.1 < 100)
  | [] => false) else true
def q9exC1 (Wr : List Nat) (rn : q9RN) (x : q9ST) (q : q9CE) (pc' : Nat) : Option (List (Nat × q9ST)) :=
  let i := q.2.2.2
  let n := (q9tL (q9iPre i)).length
  if n ≤ (q9tS x).length then
    let as := ((q9tS x).take n).reverse
    let rest := (q9tS x).drop n
    match q9mkT (q9sL x (q9numL (q9tE x) 0 as)) (q9iPd i) [] with
    | none => none
    | some th =>
      let gs := (q9tG (q9iPre i)).map (q9sh th)
      if q9fits0 (q9sNM (q9sG (q9sS (q9sL x []) []) gs) 0 0) (q9iPre i) th && ((q9tL (q9iPre i)).map (fun z => q9sh th z.2) == as && ((q9tS (q9iPre i)).isEmpty && (decide (q9iFr i + 1 ≤ rn.1) && (decide (8 + (q9iL i + 11) + q9iLc i ≤ rn.2.1) && (decide (q9tN x + q9iMc i ≤ rn.2.2.1) && (decide (q9tM x + q9iMs i ≤ rn.2.2.2) && (decide (q9catS (q9tE x) rest ≤ 8) &&
          ((q9iW i).all (fun z => Wr.elem z) && (gs.all (q9okAV (q9tE x)) && q9recvB x q as))))))))) then
        q9inhs gs (q9iW i) (q9sNM (q9sS x rest) (q9tN x + q9iMc i) (q9tM x + q9iMs i)) pc' (q9iPost i)
      else none
  else none
def q9exC (Wr : List Nat) (rn : q9RN) (x : q9ST) (pc' idx : Nat) : List q9CE → Option (List (Nat × q9ST))
  | [] => none
  | q :: qs => if q.1 = idx then (match q9exC1 Wr rn x q pc' with
    | some ss => some ss
    | none => q9exC Wr rn x pc' idx qs) else q9exC Wr rn x pc' idx qs
theorem q9exC_mem {Wr : List Nat} {rn : q9RN} {x : q9ST} {pc' idx : Nat} {ss : List (Nat × q9ST)} : ∀ {qs : List q9CE}, q9exC Wr rn x pc' idx qs = some ss → ∃ q ∈ qs, q.1 = idx ∧ q9exC1 Wr rn x q pc' = some ss
  | [], h => by cases h
  | q :: qs, h => by
    unfold q9exC at h
    split at h
    · rename_i h1
      split at h
      · rename_i ss' e1
        cases h
        exact ⟨q, List.mem_cons_self, h1, e1⟩
      · obtain ⟨z, z1, z2⟩ := q9exC_mem h
        exact ⟨z, List.mem_cons_of_mem _ z1, z2⟩
    · obtain ⟨z, z1, z2⟩ := q9exC_mem h
      exact ⟨z, List.mem_cons_of_mem _ z1, z2⟩
section CLL
variable {p : Program} {l : Launch} {e : Env} {R : Room} {s : State} {m : MethodId} {args : Array Value} {below : List Frame} {meth : Method} {c : Code} {Q : State → Prop} {cc : ByteArray}
variable {nL : Nat} {g : List Value} {D : va_G} {cT : Nat → ClassId} {B : q9TB} {A : Nat → Prop} {H0 : Heap} {G0 : q9GH} {ws0 : va_W} {Wr : List Nat}
theorem q9lv_nil : lv_has #[] 0 [] := ⟨rfl, ⟨fun i v h => by simp at h, fun i h => by simp at h⟩, fun q h => by cases h⟩
theorem q9exC_ok {own : String} {ALL : List Cond} (hx : p.tables.exec = Jvm.exec) (hb : c.code = cc) (hml : c.maxLocals = nL) (hown : s.vm.findClass own = some m.cls) (hts : ∀ w ∈ ALL, w.before args s = true) (hAll : GoodIn ALL ALL) (hK : va_K D vwCl (TY cT) s) (hG : GW s) (hZ : GZ A s H0) (hA : ∀ q, H0.size ≤ q → A q) {z0 : q9ZZ} (hZz : q9SD z0 A s H0) (hzG : ∃ n9 : Nat, (z0.1, 248, n9) ∈ G0)
    {CT : List q9CE} (hCT : ∀ q ∈ CT, q9CON l B ALL q.2.2.2 ∧ q9LK ALL s own q) {rn : q9RN} (hR : rn.1 ≤ R.frames ∧ rn.2.1 ≤ R.locals ∧ rn.2.2.1 ≤ R.cells ∧ rn.2.2.2 ≤ R.slots) {x : q9ST} {r : Nat → Value} {idx pc : Nat} {ss : List (Nat × q9ST)} (hw : q9wfB x = true) (hdg : decode cc pc = .ok (.invokevirtual idx, 3) ∧ (∀ q ∈ CT, q.2.1 = 0) ∨ decode cc pc = .ok (.invokestatic idx, 3) ∧ (∀ q ∈ CT, q.2.1 ≠ 0))
    (h : q9exC Wr rn x (pc + 3) idx CT = some ss) (hn : q9NX p l e R s m args below meth c Q nL g (q9WM D cT B A H0 G0 ws0 Wr) ss x r) : q9GO p l e R s m args below meth c Q nL g (q9WM D cT B A H0 G0 ws0 Wr) pc x r := by
  obtain ⟨q, q1, q2, h⟩ := q9exC_mem h
  obtain ⟨hCon, hLK⟩ := hCT q q1
  unfold q9exC1 at h
  dsimp only at h
  split at h
  · rename_i hnl
    split at h
    · cases h
    · rename_i th hth
      split at h
      · rename_i hc
        generalize has : ((q9tS x).take (q9tL (q9iPre q.2.2.2)).length).reverse = as at h hc hth
        generalize hrest : (q9tS x).drop (q9tL (q9iPre q.2.2.2)).length = rest at h hc
        simp only [Bool.and_eq_true, beq_iff_eq, decide_eq_true_eq, List.all_eq_true, List.isEmpty_iff] at hc
        obtain ⟨c1, c2, c3, c4, c5, c6, c7, q9c8, c9, c10, c11⟩ := hc
        have hS : q9tS x = as.reverse ++ rest := by rw [← has, ← hrest, List.reverse_reverse, List.take_append_drop]
        have hlen : as.length = (q9tL (q9iPre q.2.2.2)).length := by
          rw [← has, List.length_reverse, List.length_take]
          omega
        have okas : ∀ a ∈ as, q9okAV (q9tE x) a = true := fun a ha => q9wf_S hw a (by rw [hS]; exact List.mem_append_left _ (List.mem_reverse.mpr ha))
        have okrest : ∀ a ∈ rest, q9okAV (q9tE x) a = true := fun a ha => q9wf_S hw a (by rw [hS]; exact List.mem_append_right _ ha)
        intro G ws H locs ls st hM hW
        obtain ⟨hP, hD, hSv, hTy, hX, hKe⟩ := hW
        have hMa : q9SM 0 (((q9tG (q9iPre q.2.2.2)).map (q9sh th)).map (q9ev r)) (q9sNM (q9sG (q9sS (q9sL x []) []) ((q9tG (q9iPre q.2.2.2)).map (q9sh th))) 0 0) r G ws #[] [] := ⟨q9lv_nil, rfl, rfl, hM.2.2.2⟩
        obtain ⟨hSR, -, -⟩ := q9fits_ok hMa c1
        have hgg : ((q9tG (q9iPre q.2.2.2)).map (q9sh th)).map (q9ev r) = (q9tG (q9iPre q.2.2.2)).map (q9ev (q9rh r th)) := hSR.2.1
        have hSR' := hSR
        rw [hgg] at hSR'
        have hzz : ∃ n9 : Nat, (z0.1, 248, n9) ∈ G := by
          obtain ⟨n9, g9⟩ := hzG
          obtain ⟨X9, e9⟩ := hX
          exact ⟨n9, by rw [e9]; exact List.mem_append_left _ g9⟩
        have hMet := hCon D cT G ws H.size (q9rh r th) z0 hTy hSR' hzz
        have hav : ((q9tL (q9iPre q.2.2.2)).map fun z => q9ev (q9rh r th) z.2) = as.map (q9ev r) := by
          rw [← c2, List.map_map]
          exact List.map_congr_left fun z _ => q9sh_ev z.2
        rw [hav, ← hgg] at hMet
        have hF : ∀ z, va_A ws H.size z → A z := by
          intro z hz
          rcases hz with ⟨k, e9, hk⟩ | hz
          · exact hD.2 k _ hk
          · exact hA z (Nat.le_trans hSv.1 hz)
        have hPZ : ∀ U : State, U.heap = H → s.WarmedH U.vm → PZ D cT ws H.size U := fun U hU hW9 =>
          ⟨⟨by rw [hU], by rw [hU]; exact hP, va_K.moved hW9.alike hK, hD.weaken (fun _ _ _ _ => trivial), GW.warm hW9 hG⟩, by rw [hU]; exact hZ.go hSv hW9.alike hF⟩
        have hPS : ∀ U : State, U.heap = H → s.WarmedH U.vm → q9PSd z0 D cT ws H.size U := fun U hU hW9 => ⟨hPZ U hU hW9, by rw [hU]; exact hZz.go hSv hW9 hF⟩
        have hst := hM.2.1
        rw [hS, List.map_append, List.map_reverse] at hst
        have hls : ls.size = nL := hM.1.1
        have hcat : ((rest.map (q9ev r)).map fun v => v.category).sum ≤ 8 := Nat.le_trans (q9catS_ok hM.2.2.2.1 rest okrest) q9c8
        have hcode : GoodIn ALL (.code (q9iY q.2.2.2) (q9iC q.2.2.2) (q9iL q.2.2.2) (q9iR q.2.2.2) :: ALL) := fun w hw9 => by
          rcases List.mem_cons.mp hw9 with rfl | hw9
          · exact hLK.1 _ List.mem_cons_self
          · exact hAll w hw9
        have hrm : (q9iRm q.2.2.2).frames + 1 ≤ R.frames ∧ 8 + (q9iL q.2.2.2 + 11) + (q9iRm q.2.2.2).locals ≤ R.locals := ⟨Nat.le_trans c4 hR.1, Nat.le_trans c5 hR.2.1⟩
        have hfit : q9tN x + q9iMc q.2.2.2 ≤ R.cells ∧ q9tM x + q9iMs q.2.2.2 ≤ R.slots := ⟨Nat.le_trans c6 hR.2.2.1, Nat.le_trans c7 hR.2.2.2⟩
        have hrun : va_Run p l e R s m args below meth c H locs (q9tN x) (q9tM x) (q9iMc q.2.2.2) (q9iMs q.2.2.2) (F0 m pc ls st) (rest.map (q9ev r)) (q9QV (q9POST D cT B (q9iW q.2.2.2) G ws (va_A ws H.size) (((q9tG (q9iPre q.2.2.2)).map (q9sh th)).map (q9ev r)) (q9iPost q.2.2.2)) (va_A ws H.size) (as.map (q9ev r)).toArray) (va_A ws H.size) := by
          obtain ⟨hk1, hk2, hk3⟩ := hLK
          have hini : (Cond.initialized (q9iY q.2.2.2).cls).before args s = true := hts _ (hk1 _ (List.mem_cons_of_mem _ List.mem_cons_self)).1
          rcases hdg with ⟨hdg, hkind⟩ | ⟨hdg, hkind⟩
          · have hk0 := hkind q q1
            unfold q9recvB at c11
            rw [hk0] at hk2 hk3 c11
            rw [if_pos rfl] at hk2 c11
            obtain ⟨hk3, rc, hrc, hrn⟩ := hk3
            match as, c11, hav, hlen, hst, hMet, okas with
            | a0 :: as', c11, hav, hlen, hst, hMet, okas =>
              simp only [Bool.and_eq_true, beq_iff_eq, decide_eq_true_eq] at c11
              obtain ⟨b, nb, eb, hm⟩ := q9codeOf_ok hM.2.2.2.1 c11.1
              have ea : q9ev r a0 = .ref b := by
                unfold q9ev
                rw [eb]
              obtain ⟨i, ce, g1, g2, g3⟩ := hTy.at hm
              rcases g3 with ⟨-, fs, F, f1, -⟩ | ⟨hh, -⟩
              · subst f1
                rw [List.map_cons, ea] at hMet hst ⊢
                have hgood : GoodIn ALL (wsV own q.1 (q9iY q.2.2.2).cls (q9iY q.2.2.2) (.code (q9iY q.2.2.2) (q9iC q.2.2.2) (q9iL q.2.2.2) (q9iR q.2.2.2) :: ALL)) := by
                  intro w hw9
                  unfold wsV at hw9
                  rcases List.mem_append.mp hw9 with hw9 | hw9
                  · simp only [List.mem_cons, List.not_mem_nil, or_false] at hw9
                    rcases hw9 with rfl | rfl | rfl | rfl
                    · exact hk3 _ (by simp)
                    · exact hk3 _ (by simp)
                    · exact hk3 _ (by simp)
                    · exact hk1 _ (by simp)
                  · exact hcode w hw9
                have hcw := cwV (R := R) (s := s) (args := args) (rm := q9iRm q.2.2.2) (mc := q9iMc q.2.2.2) (ms := q9iMs q.2.2.2) ((q9tL (q9iPre q.2.2.2)).length - 1) hts hgood rfl rfl rfl ⟨rfl, hk2⟩ hrm
                have hrecv := va_recv hK hP hrc g2
                rw [hrn] at hrecv
                rw [q2] at hcw
                refine va_runV (As := as'.map (q9ev r)) (b := b) ⟨hx, hb, hml, hown, hts⟩ hMet hcw ⟨q9ps_blind, hrecv, fun U hU hW9 => ⟨rfl, hPS U hU hW9⟩⟩ rfl ?_ hls ?_ (lv_room hcat) hdg hfit
                · rw [List.length_map]
                  rw [List.length_cons] at hlen
                  omega
                · rw [hst]
                  simp
              · omega
          · have hk0 := hkind q q1
            rw [if_neg hk0] at hk2
            have hk3' : (q.2.1 = 1 ∧ GoodIn ALL [.methodLink own q.1 (q9iY q.2.2.2), .static (q9iY q.2.2.2)]) ∨ (va_Nw (.methodLinkNest own q.1 (q9iY q.2.2.2) RX11) s ∧ GoodIn ALL [.static (q9iY q.2.2.2)]) := by
              match hq : q.2.1, hk3 with
              | 0, _ => exact absurd hq hk0
              | 1, hk3 => exact .inl ⟨rfl, hk3⟩
              | _ + 2, hk3 => exact .inr hk3
            have hpre : PreS s H (va_Pc (as.map (q9ev r)) (q9PSd z0 D cT ws H.size)) (as.map (q9ev r)) := ⟨q9ps_blind, fun U hU hW9 => ⟨rfl, hPS U hU hW9⟩⟩
            have hl9 : (as.map (q9ev r)).length = (q9tL (q9iPre q.2.2.2)).length := by rw [List.length_map, hlen]
            have hstk : (F0 m pc ls st).stack = (as.map (q9ev r)).reverse ++ rest.map (q9ev r) := hst
            rcases hk3' with ⟨-, hk3⟩ | ⟨hk3, hk4⟩
            · have hgood : GoodIn ALL (va_wsS own q.1 (q9iY q.2.2.2) (.code (q9iY q.2.2.2) (q9iC q.2.2.2) (q9iL q.2.2.2) (q9iR q.2.2.2) :: ALL)) := by
                intro w hw9
                unfold va_wsS at hw9
                rcases List.mem_append.mp hw9 with hw9 | hw9
                · simp only [List.mem_cons, List.not_mem_nil, or_false] at hw9
                  rcases hw9 with rfl | rfl | rfl
                  · exact hk3 _ (by simp)
                  · exact hk3 _ (by simp)
                  · exact hk1 _ (by simp)
                · exact hcode w hw9
              have hcw := va_cwS (R := R) (s := s) (args := args) (rm := q9iRm q.2.2.2) (mc := q9iMc q.2.2.2) (ms := q9iMs q.2.2.2) ((q9tL (q9iPre q.2.2.2)).length) hts hgood rfl rfl rfl hk2 hrm
              rw [q2] at hcw
              exact va_runS ⟨hx, hb, hml, hown, hts⟩ hMet hcw hpre rfl hl9 hls hstk (lv_room hcat) hdg hfit
            · have hstat : (Cond.static (q9iY q.2.2.2)).before args s = true := hts _ (hk4 _ (by simp)).1
              rw [q2] at hk3
              exact va_runSN ⟨hx, hb, hml, hown, hts⟩ hMet ⟨va_cnB ((q9tL (q9iPre q.2.2.2)).length) hts hcode rfl rfl rfl hk3 hini hk2 hrm, hstat, trivial⟩ hpre rfl hl9 hls hstk (lv_room hcat) hdg hfit
        refine q9va_callG hrun hSv (fun z _ hz => hF z hz) hF fun v t H1 locs1 ht hpost hle hfr hS1 => ?_
        obtain ⟨G', ws', r', qc, p1, p2, p3, p4, p5, p6, p7⟩ := hpost
        obtain ⟨o, o1, o2⟩ := q9inhs_mem h qc p1
        have hMr : q9SM nL g (q9sNM (q9sS x rest) (q9tN x + q9iMc q.2.2.2) (q9tM x + q9iMs q.2.2.2)) r G ws ls (rest.map (q9ev r)) := (hM.S rest).NM _ _
        obtain ⟨x', vs, r2, y1, y2, y3, y4, y5, y6, y7, y8⟩ := q9inh_ok hMr hTy hD p2 p6 p7 o1
        have hmem := o2 x' vs y1
        have y6 : q9tS x' = rest := y6
        have y7 : q9tN x' = q9tN x + q9iMc q.2.2.2 := y7
        have y8 : q9tM x' = q9tM x + q9iMs q.2.2.2 := y8
        have y2 : q9agr (q9tE x).length r r2 := y2
        have kk := hn _ hmem r2 y2 y3 G' ws' H1 locs1 ls _ (y4.S (vs ++ q9tS x')) ⟨by rw [← ht]; exact p3, p4.weaken (fun k z _ hz => hF _ hz), hS1, p5, hX.tr p2, hKe.tr hX (p6.wk fun z hz => List.elem_iff.mp (c9 z hz))⟩
        rw [List.map_append, ← y5, y6, y2.map okrest] at kk
        have kk : W p l e R s m args below meth c H1 locs1 (q9tN x') (q9tM x') Q (F0 m (pc + 3) ls (v.toList ++ rest.map (q9ev r))) := kk
        rw [y7, y8] at kk
        exact kk
      · cases h
  · cases h
end CLL
