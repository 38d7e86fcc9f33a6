/-! the law's start: what the Statement gives, as the walks want it -/
theorem q9arr_of {args : Array Value} {s : State} {ty : FieldType} (h : (Cond.arrayClass ty).before args s = true) : ∃ cA : ClassId, ArrOfT s cA ty ∧ s.vm.findClass ("[" ++ ty.toString) = some cA := by
  obtain ⟨cA, kA, comp, h1, h2, h3⟩ := Cond.arrayClass_spec h
  exact ⟨cA, fun N z => ⟨(fun k h => by cases h), kA, h2, comp, h3⟩, h1⟩
theorem q9arr_ofO {args : Array Value} {s : State} {C : String} (h : (Cond.arrayOver (.object C)).before args s = true) : ∃ cA : ClassId, ArrOfT s cA (.object C) ∧ va_RA s cA (.object C) := by
  obtain ⟨comp, cA, kA, h1, h2, h3, h4, h5⟩ := Cond.arrayOver_spec h
  exact ⟨cA, fun N z => ⟨(fun k h => by cases h), kA, h3, comp, h4⟩, kA, comp, h3, h4, h1, h5⟩
theorem q9str_of {args : Array Value} {s : State} {k : Nat} {tx : String} (h1 : (Cond.stringRef RX11 k tx).before args s = true) (h2 : (Cond.exactly (Term.string RX11 k) "java/lang/String").before args s = true) : ∃ a, vk_R RX11 k tx a s := by
  obtain ⟨a, c, cell, k2, e1, -⟩ := Cond.exactly_spec h2
  exact ⟨a, vk_R.of h1 e1⟩
set_option maxRecDepth 100000 in
theorem q9gwN_in : ∀ w ∈ gwN.map (fun q => Cond.methodLinkNest q.1 q.2.1 q.2.2 RX11), w ∈ lw_tbl := q9inRT [(1, 87), (1, 123), (2, 111), (2, 237), (3, 68), (3, 83), (3, 160), (3, 163), (3, 173), (4, 216), (5, 67), (5, 207), (5, 208), (5, 232), (5, 237), (6, 9), (6, 24), (6, 90), (6, 136), (6, 152), (7, 3), (7, 46), (7, 51), (7, 56), (7, 189)] (by decide +kernel)
set_option maxRecDepth 100000 in
theorem q9gwB_in : ∀ w ∈ gwB, w ∈ lw_tbl := by decide +kernel
set_option maxRecDepth 100000 in
theorem q9gwX_in : ∀ q ∈ gwX, Cond.not (.castable q.1 q.2) ∈ flatC (Jvm.Cond.and given_1 narrow_1) := by decide +kernel
set_option maxRecDepth 100000 in
theorem q9gwS_in : ∀ q ∈ gwS, Cond.stringRef RX11 q.1 q.2 ∈ lw_tbl ∧ Cond.exactly (Term.string RX11 q.1) "java/lang/String" ∈ flatC (Jvm.Cond.and given_1 narrow_1) := by decide +kernel
noncomputable def q9swL : List Int32 := [0, 383, 707, 924, 1000, 924, 707, 383, 0, -383, -707, -924, -1000, -924, -707, -383]
noncomputable def q9swT : Term := Term.static "PuppetFilm$Puppet" "SIDEWAYS" "[I"
set_option maxRecDepth 100000 in
theorem q9swT_in : Cond.arrayOf q9swT .int ∈ flatC (Jvm.Cond.and given_1 narrow_1) ∧ Cond.eq (.length q9swT) (.int 16) ∈ flatC (Jvm.Cond.and given_1 narrow_1) ∧ ∀ j : Nat, j < 16 → Cond.eq (.elem q9swT (.int (Int32.ofNat j))) (.int (q9swL.getD j 0)) ∈ flatC (Jvm.Cond.and given_1 narrow_1) := by decide +kernel
noncomputable def q9skP : List Nat := [129, 135, 137, 139, 141, 143, 145, 147, 199, 215, 217, 219, 221, 226, 228, 230, 232, 234, 236]
noncomputable def q9skTm (i : Nat) : Term := Term.string RX6 (q9skP.getD i 0)
noncomputable def q9skO : List Nat := [201, 209, 217, 224, 231, 239, 246, 256, 266, 272, 280, 288, 296, 304, 310, 316, 323, 330, 338]
set_option maxRecDepth 100000 in
theorem q9skT_in : ∀ q ∈ q9skT, q.2.2 < 19 ∧ q9skP.getD q.2.2 0 = q.1 ∧ Cond.stringRef RX6 q.1 q.2.1 ∈ lw_tbl := by decide +kernel
set_option maxRecDepth 100000 in
theorem q9skA_in0 : ∀ i : Nat, i < 19 → Cond.exactly (q9skTm i) "java/lang/String" ∈ (flatC (Jvm.Cond.and given_1 narrow_1)).drop (q9skO.getD i 0) ∧ Cond.eq (.field (q9skTm i) "java/lang/String" "coder" "B") (.int 0) ∈ (flatC (Jvm.Cond.and given_1 narrow_1)).drop (q9skO.getD i 0) ∧ Cond.arrayOf (.field (q9skTm i) "java/lang/String" "value" "[B") .byte ∈ (flatC (Jvm.Cond.and given_1 narrow_1)).drop (q9skO.getD i 0) ∧ Cond.eq (.length (.field (q9skTm i) "java/lang/String" "value" "[B")) (.int (Int32.ofNat (q9skL.getD i 0))) ∈ (flatC (Jvm.Cond.and given_1 narrow_1)).drop (q9skO.getD i 0) := by decide +kernel
theorem q9skA_in : ∀ i : Nat, i < 19 → Cond.exactly (q9skTm i) "java/lang/String" ∈ flatC (Jvm.Cond.and given_1 narrow_1) ∧ Cond.eq (.field (q9skTm i) "java/lang/String" "coder" "B") (.int 0) ∈ flatC (Jvm.Cond.and given_1 narrow_1) ∧ Cond.arrayOf (.field (q9skTm i) "java/lang/String" "value" "[B") .byte ∈ flatC (Jvm.Cond.and given_1 narrow_1) ∧ Cond.eq (.length (.field (q9skTm i) "java/lang/String" "value" "[B")) (.int (Int32.ofNat (q9skL.getD i 0))) ∈ flatC (Jvm.Cond.and given_1 narrow_1) := fun i hi => ⟨List.mem_of_mem_drop (q9skA_in0 i hi).1, List.mem_of_mem_drop (q9skA_in0 i hi).2.1, List.mem_of_mem_drop (q9skA_in0 i hi).2.2.1, List.mem_of_mem_drop (q9skA_in0 i hi).2.2.2⟩
set_option maxRecDepth 100000 in
theorem q9skB_in0 : ∀ i : Nat, i < 19 → ∀ j : Nat, j < q9skL.getD i 0 → Cond.eq (.elem (.field (q9skTm i) "java/lang/String" "value" "[B") (.int (Int32.ofNat j))) (.int ((q9skB.getD i []).getD j 0)) ∈ (flatC (Jvm.Cond.and given_1 narrow_1)).drop (q9skO.getD i 0) := by decide +kernel
theorem q9skB_in : ∀ i : Nat, i < 19 → ∀ j : Nat, j < q9skL.getD i 0 → Cond.eq (.elem (.field (q9skTm i) "java/lang/String" "value" "[B") (.int (Int32.ofNat j))) (.int ((q9skB.getD i []).getD j 0)) ∈ flatC (Jvm.Cond.and given_1 narrow_1) := fun i hi j hj => List.mem_of_mem_drop (q9skB_in0 i hi j hj)
theorem q9sk_len : ∀ i : Nat, i < 19 → ∀ j : Nat, j < 19 → Int32.ofNat (q9skL.getD i 0) = Int32.ofNat (q9skL.getD j 0) → q9skL.getD i 0 = q9skL.getD j 0 := by decide +kernel
theorem q9sk_ne : ∀ i : Nat, i < 19 → ∀ j : Nat, j < 19 → q9skL.getD i 0 = q9skL.getD j 0 → (∀ k : Nat, k < q9skL.getD i 0 → (q9skB.getD i []).getD k 0 = (q9skB.getD j []).getD k 0) → i = j := by decide +kernel
theorem q9sk_S {args : Array Value} {s : State} {A : Nat → Prop} (hs : ∀ w ∈ flatC (Jvm.Cond.and given_1 narrow_1), w.before args s = true) (hA : ∀ a : Nat, a < s.heap.size → ¬ A a) : ∃ adK adV : Nat → Nat, vk_S 19 q9skL q9skB adK adV A s s.heap ∧ ∀ i : Nat, i < 19 → (q9skTm i).eval args s none [] s = some (.ref (adK i)) := by
  have h0 : ∀ i : Nat, ∃ q : Nat × Nat, i < 19 → (q9skTm i).eval args s none [] s = some (.ref q.1) ∧ (Term.field (q9skTm i) "java/lang/String" "value" "[B").eval args s none [] s = some (.ref q.2) ∧ va_O "java/lang/String" q.1 A s s.heap ∧ va_OF "java/lang/String" "coder" "B" (.int 0) q.1 A s s.heap ∧ va_OF "java/lang/String" "value" "[B" (.ref q.2) q.1 A s s.heap ∧ va_T .byte q.2 (q9skL.getD i 0) (fun j => .int ((q9skB.getD i []).getD j 0)) A s s.heap := by
    intro i
    by_cases hi : i < 19
    · obtain ⟨w1, w2, w3, w4⟩ := q9skA_in i hi
      obtain ⟨l1, -, -⟩ := q9len_sk i hi
      obtain ⟨a, c, cA, kA, q1, q2, q3, q4, q5, q6, -⟩ := Cond.exactly_spec (args := args) (first := s) (o := none) (s := s) (idx := []) (t := q9skTm i) (cls := "java/lang/String") (hs _ w1)
      obtain ⟨t, ht, hT⟩ := va_Tof (f := fun j => .int ((q9skB.getD i []).getD j 0)) (A := A) (by omega) (hs _ w3) (va_eqt (hs _ w4)) (fun j hj => va_eqt (hs _ (q9skB_in i hi j hj))) hA
      exact ⟨(a, t), fun _ => ⟨q1, ht, ⟨cA, q3, q5, by rw [q6]; exact q2, hA a (Array.getElem?_eq_some_iff.mp q3).1⟩, vk_OFof q1 (va_eqt (hs _ w2)) hA, vk_OFof q1 ht hA, hT⟩⟩
    · exact ⟨(0, 0), fun h => absurd h hi⟩
  obtain ⟨ad, had⟩ := Classical.axiomOfChoice h0
  refine ⟨fun i => (ad i).1, fun i => (ad i).2, ⟨fun i hi => (had i hi).2.2, fun i j hi hj e => ?_⟩, fun i hi => (had i hi).1⟩
  obtain ⟨a1, a2, -, -, -, a3⟩ := had i hi
  obtain ⟨b1, b2, -, -, -, b3⟩ := had j hj
  have e : (ad i).1 = (ad j).1 := e
  have e2 : (ad i).2 = (ad j).2 := by
    rw [va_fe a1] at a2
    rw [va_fe b1, ← e, a2] at b2
    injection b2 with b2
    injection b2 with b2
  obtain ⟨cell, c1, -, -, -, c5, c6, -⟩ := a3
  obtain ⟨cell', d1, -, -, -, d5, d6, -⟩ := b3
  rw [e2, d1] at c1
  cases c1
  rw [c5] at d5
  have hl := q9sk_len i hi j hj d5
  refine q9sk_ne i hi j hj hl fun k hk => ?_
  have y1 := c6 k hk
  rw [d6 k (by omega)] at y1
  injection y1 with y1
  injection y1 with y1
  exact y1.symm
set_option maxRecDepth 100000 in
theorem q9law_K {args : Array Value} {s : State} (hts0 : ∀ w ∈ lw_tbl, w.before args s = true) : ∃ (D : va_G) (cT : Nat → ClassId), va_K D vwCl (TY cT) s := by
  have htsA : ∀ w ∈ q9ALLW, w.before args s = true := fun w hw => hts0 w (List.mem_filter.mp hw).1
  obtain ⟨c0, iS0, hKn0⟩ := u_known (C := RX0) (T := TX0) (N := 5) (n := 5) htsA q9uw_0 (hts0 (.instantiable RX0 5) (List.mem_of_getElem? (i := 467) rfl))
  obtain ⟨c1, iS1, hKn1⟩ := u_known (C := RX1) (T := TX1) (N := 18) (n := 18) htsA q9uw_1 (hts0 (.instantiable RX1 18) (List.mem_of_getElem? (i := 490) rfl))
  obtain ⟨c2, iS2, hKn2⟩ := u_known (C := RX2) (T := TX2) (N := 8) (n := 8) htsA q9uw_2 (hts0 (.instantiable RX2 8) (List.mem_of_getElem? (i := 239) rfl))
  obtain ⟨c3, iS3, hKn3⟩ := u_known (C := RX3) (T := TX3) (N := 5) (n := 5) htsA q9uw_3 (hts0 (.instantiable RX3 5) (List.mem_of_getElem? (i := 444) rfl))
  obtain ⟨c4, iS4, hKn4⟩ := u_known (C := RX4) (T := TX4) (N := 19) (n := 19) htsA q9uw_4 (hts0 (.instantiable RX4 19) (List.mem_of_getElem? (i := 378) rfl))
  obtain ⟨c5, iS5, hKn5⟩ := u_known (C := RX5) (T := TX5) (N := 11) (n := 11) htsA q9uw_5 (hts0 (.instantiable RX5 11) (List.mem_of_getElem? (i := 593) rfl))
  obtain ⟨c6, iS6, hKn6⟩ := u_known (C := RX6) (T := TX6) (N := 14) (n := 14) htsA q9uw_6 (hts0 (.instantiable RX6 14) (List.mem_of_getElem? (i := 197) rfl))
  obtain ⟨c7, iS7, hKn7⟩ := u_known (C := RX7) (T := TX7) (N := 15) (n := 15) htsA q9uw_7 (hts0 (.instantiable RX7 15) (List.mem_of_getElem? (i := 1198) rfl))
  obtain ⟨q9c8, iS8, hKn8⟩ := u_known (C := RX8) (T := TX8) (N := 7) (n := 7) htsA q9uw_8 (hts0 (.instantiable RX8 7) (List.mem_of_getElem? (i := 155) rfl))
  obtain ⟨c9, iS9, hKn9⟩ := u_known (C := RX9) (T := TX9) (N := 13) (n := 13) htsA q9uw_9 (hts0 (.instantiable RX9 13) (List.mem_of_getElem? (i := 332) rfl))
  obtain ⟨c10, iS10, hKn10⟩ := u_known (C := RX10) (T := TX10) (N := 7) (n := 7) htsA q9uw_10 (hts0 (.instantiable RX10 7) (List.mem_of_getElem? (i := 203) rfl))
  obtain ⟨c11, iS11, hKn11⟩ := u_known (C := RX11) (T := TX11) (N := 11) (n := 11) htsA q9uw_11 (hts0 (.instantiable RX11 11) (List.mem_of_getElem? (i := 147) rfl))
  obtain ⟨c12, iS12, hKn12⟩ := u_known (C := RX12) (T := TX12) (N := 109) (n := 109) htsA q9uw_12 (hts0 (.instantiable RX12 109) (List.mem_of_getElem? (i := 1875) rfl))
  obtain ⟨D, hKc⟩ : ∃ D : va_G, ∀ (k : Nat) (q : vw_C), vwCl[k]? = some q → u_Kn s q.1 q.2.1 q.2.2 (D.1 k) (D.2 k) := by
    refine ⟨(fun k => match k with | 0 => c0 | 1 => c1 | 2 => c2 | 3 => c3 | 4 => c4 | 5 => c5 | 6 => c6 | 7 => c7 | 8 => q9c8 | 9 => c9 | 10 => c10 | 11 => c11 | _ => c12, fun k => match k with | 0 => iS0 | 1 => iS1 | 2 => iS2 | 3 => iS3 | 4 => iS4 | 5 => iS5 | 6 => iS6 | 7 => iS7 | 8 => iS8 | 9 => iS9 | 10 => iS10 | 11 => iS11 | _ => iS12), ?_⟩
    intro k q hq
    match k, hq with
    | 0, hq => cases hq; exact hKn0
    | 1, hq => cases hq; exact hKn1
    | 2, hq => cases hq; exact hKn2
    | 3, hq => cases hq; exact hKn3
    | 4, hq => cases hq; exact hKn4
    | 5, hq => cases hq; exact hKn5
    | 6, hq => cases hq; exact hKn6
    | 7, hq => cases hq; exact hKn7
    | 8, hq => cases hq; exact hKn8
    | 9, hq => cases hq; exact hKn9
    | 10, hq => cases hq; exact hKn10
    | 11, hq => cases hq; exact hKn11
    | 12, hq => cases hq; exact hKn12
    | k + 13, hq => simp [vwCl] at hq
  obtain ⟨a0, hAr0, hNm0⟩ := q9arr_of (ty := .int) (hts0 (.arrayClass .int) (List.mem_of_getElem? (i := 195) rfl))
  obtain ⟨a1, hAr1, hNm1⟩ := q9arr_of (ty := .byte) (hts0 (.arrayClass .byte) (List.mem_of_getElem? (i := 236) rfl))
  obtain ⟨a2, hAr2, hNm2⟩ := q9arr_of (ty := .long) (hts0 (.arrayClass .long) (List.mem_of_getElem? (i := 277) rfl))
  obtain ⟨a3, hAr3, hNm3⟩ := q9arr_of (ty := .boolean) (hts0 (.arrayClass .boolean) (List.mem_of_getElem? (i := 1283) rfl))
  obtain ⟨a4, hAr4, hNm4⟩ := q9arr_ofO (C := "PuppetFilm$Puppet") (hts0 (Cond.arrayOver (.object "PuppetFilm$Puppet")) (List.mem_of_getElem? (i := 161) rfl))
  obtain ⟨a5, hAr5, hNm5⟩ := q9arr_ofO (C := "PuppetFilm$Shot") (hts0 (Cond.arrayOver (.object "PuppetFilm$Shot")) (List.mem_of_getElem? (i := 163) rfl))
  obtain ⟨a6, hAr6, hNm6⟩ := q9arr_ofO (C := "PuppetFilm$Line") (hts0 (Cond.arrayOver (.object "PuppetFilm$Line")) (List.mem_of_getElem? (i := 238) rfl))
  refine ⟨D, fun k => match k with | 0 => a0 | 1 => a1 | 2 => a2 | 3 => a3 | 4 => a4 | 5 => a5 | _ => a6, hKc, ?_⟩
  intro k q hq
  match k, hq with
  | 0, hq => cases hq; exact ⟨hAr0, hNm0⟩
  | 1, hq => cases hq; exact ⟨hAr1, hNm1⟩
  | 2, hq => cases hq; exact ⟨hAr2, hNm2⟩
  | 3, hq => cases hq; exact ⟨hAr3, hNm3⟩
  | 4, hq => cases hq; exact ⟨hAr4, hNm4⟩
  | 5, hq => cases hq; exact ⟨hAr5, hNm5⟩
  | 6, hq => cases hq; exact ⟨hAr6, hNm6⟩
  | k + 7, hq => simp [TY] at hq
set_option maxRecDepth 100000 in
theorem q9law_G {args : Array Value} {s : State} (hts0 : ∀ w ∈ lw_tbl, w.before args s = true) (hs : ∀ w ∈ flatC (Jvm.Cond.and given_1 narrow_1), w.before args s = true) : GW s := by
  refine ⟨fun q hq => va_Nw.of rfl (hts0 _ (q9gwN_in _ (List.mem_map_of_mem hq))), fun w hw => va_tabs (gwB_tab w hw) rfl (hts0 w (q9gwB_in w hw)), fun q hq => va_Nc.of (args := args) (hs _ (q9gwX_in q hq)), fun q hq => q9str_of (hts0 _ (q9gwS_in q hq).1) (hs _ (q9gwS_in q hq).2), va_AO.of (hts0 (Cond.arrayOver (.object "PuppetFilm$Puppet")) (List.mem_of_getElem? (i := 161) rfl)), va_AO.of (hts0 (Cond.arrayOver (.object "PuppetFilm$Shot")) (List.mem_of_getElem? (i := 163) rfl)), va_AO.of (hts0 (Cond.arrayOver (.object "PuppetFilm$Line")) (List.mem_of_getElem? (i := 238) rfl))⟩
set_option maxRecDepth 100000 in
theorem q9law_Z {args : Array Value} {s : State} {A : Nat → Prop} (hts0 : ∀ w ∈ lw_tbl, w.before args s = true) (hs : ∀ w ∈ flatC (Jvm.Cond.and given_1 narrow_1), w.before args s = true) (hAn : ∀ a : Nat, a < s.heap.size → ¬ A a) : GZ A s s.heap := ⟨vx_Zqof (hts0 (Cond.laysStatic "java/lang/Throwable" "UNASSIGNED_STACK" "[Ljava/lang/StackTraceElement;") (List.mem_of_getElem? (i := 889) rfl)) (hts0 (.initialized "java/lang/Throwable") (List.mem_of_getElem? (i := 131) rfl)) (hs (Cond.isRef (Term.static "java/lang/Throwable" "UNASSIGNED_STACK" "[Ljava/lang/StackTraceElement;")) (by decide +kernel)) hAn, vx_Zqof (hts0 (Cond.laysStatic "java/lang/Throwable" "SUPPRESSED_SENTINEL" "Ljava/util/List;") (List.mem_of_getElem? (i := 891) rfl)) (hts0 (.initialized "java/lang/Throwable") (List.mem_of_getElem? (i := 131) rfl)) (hs (Cond.isRef (Term.static "java/lang/Throwable" "SUPPRESSED_SENTINEL" "Ljava/util/List;")) (by decide +kernel)) hAn⟩
set_option maxRecDepth 100000 in
theorem q9law_SD {args : Array Value} {s : State} {A : Nat → Prop} (hts0 : ∀ w ∈ lw_tbl, w.before args s = true) (hs : ∀ w ∈ flatC (Jvm.Cond.and given_1 narrow_1), w.before args s = true) (hAn : ∀ a : Nat, a < s.heap.size → ¬ A a) : ∃ z : q9ZZ, q9SD z A s s.heap := by
  obtain ⟨w1, w2, w3⟩ := q9swT_in
  obtain ⟨t, ht, hT⟩ := va_Tof (tm := q9swT) (N := 16) (f := fun j => .int (q9swL.getD j 0)) (A := A) (by decide) (hs _ w1) (va_eqt (hs _ w2)) (fun j hj => va_eqt (hs _ (w3 j hj))) hAn
  obtain ⟨adK, adV, hS9, hev⟩ := q9sk_S hs hAn
  refine ⟨(t, adK, adV), ⟨va_Zref (hts0 (Cond.laysStatic "PuppetFilm$Puppet" "SIDEWAYS" "[I") (List.mem_of_getElem? (i := 1468) rfl)) (hts0 (.initialized "PuppetFilm$Puppet") (List.mem_of_getElem? (i := 130) rfl)) ht hAn, fun j => q9swL.getD j 0, hT⟩, ⟨hS9, fun q hq => ?_⟩, va_Zof (hts0 (Cond.laysStatic "java/lang/String" "COMPACT_STRINGS" "Z") (List.mem_of_getElem? (i := 1072) rfl)) (hts0 (.initialized "java/lang/String") (List.mem_of_getElem? (i := 139) rfl)) (va_eqt (hs (Cond.eq (Term.static "java/lang/String" "COMPACT_STRINGS" "Z") (.int 1)) (by decide +kernel))) hAn, va_Zqof (hts0 (Cond.laysStatic "jdk/internal/util/Preconditions" "SIOOBE_FORMATTER" "Ljava/util/function/BiFunction;") (List.mem_of_getElem? (i := 1088) rfl)) (hts0 (.initialized "jdk/internal/util/Preconditions") (List.mem_of_getElem? (i := 141) rfl)) (hs (Cond.isRef (Term.static "jdk/internal/util/Preconditions" "SIOOBE_FORMATTER" "Ljava/util/function/BiFunction;")) (by decide +kernel)) hAn⟩
  obtain ⟨k1, k2, k3⟩ := q9skT_in q hq
  have := hev q.2.2 k1
  unfold q9skTm at this
  rw [k2] at this
  exact vk_R.of (hts0 _ k3) this
