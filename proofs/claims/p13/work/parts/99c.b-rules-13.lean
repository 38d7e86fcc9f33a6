section RUL
variable {T : Int → Int} {N P : Int} {J : Int → Int} {t0 : Int} {Sc : Int → Int}
theorem q9ru_ffr (hT : ∀ i, 0 ≤ T i ∧ T i ≤ 255) (hN : 0 ≤ N ∧ N ≤ 400) (hSc : 0 ≤ Sc 1 ∧ Sc 1 ≤ 400 → N = Sc 1) : q9ruOK (fO T N P J t0 Sc) q9R_ffr := by
  intro w w0 hA hX hL hV hR
  obtain ⟨x0, ae0, -, -⟩ := hA 0 0 rfl
  obtain ⟨x1, ae1, -, -⟩ := hA 1 1 rfl
  obtain ⟨x2, ae2, -, -⟩ := hA 2 1 rfl
  have kz : (0 : Int32).toInt = 0 := rfl
  have V0 := q9pV (T := T) (N := N) (P := P) (J := J) (t0 := t0) (Sc := Sc) (op := 1040) (n := 0) (q9evZ w0) (q9evZ w0) (hV _ (List.mem_of_getElem? (i := 0) rfl)) (by decide)
  rw [q9FF_1040] at V0
  have K0 := q9chV_of V0
  try simp only [kz] at K0
  have X0 := q9th_pX (T := T) (N := N) (P := P) (J := J) (t0 := t0) (Sc := Sc) (op := 1042) (q9evZ w0) (q9evZ w0) (q9evS ae0) (hX _ (List.mem_of_getElem? (i := 0) rfl)) (by decide)
  rw [q9FF_1042] at X0
  have H0 := q9chV_of X0
  try simp only [kz] at H0
  have X1 := q9pL (T := T) (N := N) (P := P) (J := J) (t0 := t0) (Sc := Sc) (op := 1053) (q9evZ w0) (q9evS ae0) (q9evS ae1) (hX _ (List.mem_of_getElem? (i := 1) rfl)) (by decide)
  rw [q9FL_1053] at X1
  have H1 := q9chV_of X1
  try simp only [kz] at H1
  have X2 := q9pL (T := T) (N := N) (P := P) (J := J) (t0 := t0) (Sc := Sc) (op := 1054) (q9evZ w0) (q9evS ae0) (q9evS ae2) (hX _ (List.mem_of_getElem? (i := 2) rfl)) (by decide)
  rw [q9FL_1054] at X2
  have H2 := q9chV_of X2
  try simp only [kz] at H2
  obtain ⟨c, hv, hn, hed, hz⟩ := H0
  obtain ⟨n, d, h1⟩ := H1
  obtain ⟨n2, f, h2⟩ := H2
  have ed := (q9hs_one hN.1 _ _ _ _ _ _ _ _ h1 h2).2
  subst ed
  obtain ⟨q, hq⟩ := List.length_eq_one_iff.mp hed.2
  have hs := q9vis_hs hN.1 hv
  rw [hq] at hs
  obtain ⟨⟨n3, d3, k1, k2⟩, -⟩ := hs
  rw [if_pos rfl] at k2
  have hb := q9vis_base hv
  have hb : some (q.1, q.2.1) = some ((-1, 0) : Int × Int) := by rw [show q9th_stP c = [(q.1, q.2.1)] by unfold q9th_stP; rw [hq]; rfl] at hb; exact hb
  have hq1 : q.1 = -1 := congrArg Prod.fst (Option.some.inj hb)
  rw [hq1] at k1
  have e := q9hs_one hN.1 _ _ _ _ _ _ _ _ k1 (by rw [← hz]; exact h1)
  have he : q9enI c 0 = some q := q9en_top hq (by rw [hed.2]; rfl)
  have u_ : q9upN w 4 [] 0 = .int 0 := q9upN_of (by decide) w0
  have u0 : q9upN w 4 [] 1 = .int x0 := q9upN_of (by decide) ae0
  have u1 : q9upN w 4 [] 2 = .long x1 := q9upN_of (by decide) ae1
  have u2 : q9upN w 4 [] 3 = .long x2 := q9upN_of (by decide) ae2
  refine ⟨[], fun i9 p9 hq9 => ?_, List.forall_mem_cons.mpr ⟨?_, List.forall_mem_cons.mpr ⟨?_, fun _ h => absurd h List.not_mem_nil⟩⟩, fun _ h => absurd h List.not_mem_nil⟩
  · exact nomatch (show (none : Option (Nat × q9AV × q9AV × q9ET)) = some p9 from hq9)
  · exact q9th_tL (T := T) (N := N) (P := P) (J := J) (t0 := t0) (Sc := Sc) (q9evZ u_) (q9evZ u_) (q9evS u1) (by rw [q9FL_1043]; exact (by rw [← q9FL_1043 (a := (0 : Int32).toInt) (b := (0 : Int32).toInt)]; exact q9G_ffr hv hn hed he e.1)) (by decide)
  · exact q9th_tL (T := T) (N := N) (P := P) (J := J) (t0 := t0) (Sc := Sc) (q9evZ u_) (q9evZ u_) (q9evS u2) (by rw [q9FL_1044]; exact (by rw [← q9FL_1044 (a := (0 : Int32).toInt) (b := (0 : Int32).toInt)]; exact q9G_fdn hv hn hed he (by rw [k2, e.2]))) (by decide)
theorem q9ru_ffi (hT : ∀ i, 0 ≤ T i ∧ T i ≤ 255) (hN : 0 ≤ N ∧ N ≤ 400) (hSc : 0 ≤ Sc 1 ∧ Sc 1 ≤ 400 → N = Sc 1) : q9ruOK (fO T N P J t0 Sc) q9R_ffi := by
  intro w w0 hA hX hL hV hR
  obtain ⟨x0, ae0, -, -⟩ := hA 0 1 rfl
  obtain ⟨x1, ae1, -, -⟩ := hA 1 0 rfl
  have kz : (0 : Int32).toInt = 0 := rfl
  have V0 := q9pV (T := T) (N := N) (P := P) (J := J) (t0 := t0) (Sc := Sc) (op := 1045) (n := 0) (q9evZ w0) (q9evZ w0) (hV _ (List.mem_of_getElem? (i := 0) rfl)) (by decide)
  rw [q9FF_1045] at V0
  have K0 := Option.some.inj V0
  try simp only [kz] at K0
  have X0 := q9pL (T := T) (N := N) (P := P) (J := J) (t0 := t0) (Sc := Sc) (op := 1043) (q9evZ w0) (q9evZ w0) (q9evS ae0) (hX _ (List.mem_of_getElem? (i := 0) rfl)) (by decide)
  rw [q9FL_1043] at X0
  have H0 := q9chV_of X0
  try simp only [kz] at H0
  have X1 := q9pB (T := T) (N := N) (P := P) (J := J) (t0 := t0) (Sc := Sc) (q9evS ae0) (q9evS ae0) (q9evS ae1) (hX _ (List.mem_of_getElem? (i := 1) rfl))
  have L0 : (0 : Int32).toInt ≤ x1.toInt + 0 := q9pC (q9evZ w0) (q9evS ae1) (hL _ (List.mem_of_getElem? (i := 0) rfl))
  obtain ⟨c, hv, hn, hed, e, he, f1⟩ := H0
  have hF : finI T N P J = _ := (q9fin_of hv hn).trans (q9fn_ed (P := P) (J := J) hed he)
  have hcond : 1 ≤ e.2.2.1.toInt ∧ e.2.2.1.toInt ≤ 400 ∧ e.2.2.2.toInt ≤ 2000 := by
    by_cases hc : 1 ≤ e.2.2.1.toInt ∧ e.2.2.1.toInt ≤ 400 ∧ e.2.2.2.toInt ≤ 2000
    · exact hc
    · rw [if_neg hc] at hF
      rw [hF] at K0
      exact absurd K0 (by show ¬ (4 : Int) = 0; decide)
  rw [if_pos hcond] at hF
  have e1 : x0.toInt32 = x1 := Value.int.inj (Option.some.inj (X1 : some (Value.int x0.toInt32) = some (.int x1)))
  have e2 : x1.toInt = x0.toInt := by rw [← e1, Int64.toInt_toInt32, f1, Int.bmod_eq_of_le (by omega) (by omega)]
  have u_ : q9upN w 3 [] 0 = .int 0 := q9upN_of (by decide) w0
  have u0 : q9upN w 3 [] 1 = .long x0 := q9upN_of (by decide) ae0
  have u1 : q9upN w 3 [] 2 = .int x1 := q9upN_of (by decide) ae1
  refine ⟨[], fun i9 p9 hq9 => ?_, List.forall_mem_cons.mpr ⟨?_, fun _ h => absurd h List.not_mem_nil⟩, fun _ h => absurd h List.not_mem_nil⟩
  · exact nomatch (show (none : Option (Nat × q9AV × q9AV × q9ET)) = some p9 from hq9)
  · exact q9th_tX (T := T) (N := N) (P := P) (J := J) (t0 := t0) (Sc := Sc) (q9evZ u_) (q9evZ u_) (q9evS u1) (by rw [q9FF_1047]; exact (by rw [hF, e2, f1])) (by decide)
theorem q9ru_fwk0 (hT : ∀ i, 0 ≤ T i ∧ T i ≤ 255) (hN : 0 ≤ N ∧ N ≤ 400) (hSc : 0 ≤ Sc 1 ∧ Sc 1 ≤ 400 → N = Sc 1) : q9ruOK (fO T N P J t0 Sc) q9R_fwk0 := by
  intro w w0 hA hX hL hV hR
  obtain ⟨x0, ae0, -, -⟩ := hA 0 0 rfl
  obtain ⟨x1, ae1, -, -⟩ := hA 1 0 rfl
  have kz : (0 : Int32).toInt = 0 := rfl
  have k1 : (Int32.ofInt 1).toInt = 1 := q9oI_toInt (by decide)
  have k380 : (Int32.ofInt 380).toInt = 380 := q9oI_toInt (by decide)
  have X0 := q9th_pX (T := T) (N := N) (P := P) (J := J) (t0 := t0) (Sc := Sc) (op := 1064) (q9evZ w0) (q9evZ w0) (q9evS ae0) (hX _ (List.mem_of_getElem? (i := 0) rfl)) (by decide)
  rw [q9FF_1064] at X0
  have H0 := Option.some.inj X0
  try simp only [kz, k1, k380] at H0
  have X1 := q9th_pX (T := T) (N := N) (P := P) (J := J) (t0 := t0) (Sc := Sc) (op := 1063) (q9evC w0 1) (q9evZ w0) (q9evS ae1) (hX _ (List.mem_of_getElem? (i := 1) rfl)) (by decide)
  rw [q9FF_1063] at X1
  have H1 := Option.some.inj X1
  try simp only [kz, k1, k380] at H1
  have L0 : (0 : Int32).toInt ≤ x0.toInt + 0 := q9pC (q9evZ w0) (q9evS ae0) (hL _ (List.mem_of_getElem? (i := 0) rfl))
  have L1 : x0.toInt ≤ (Int32.ofInt 380).toInt + 0 := q9pC (q9evS ae0) (q9evC w0 380) (hL _ (List.mem_of_getElem? (i := 1) rfl))
  have ht : t0 = x0.toInt := H0
  have hs : Sc 1 = x1.toInt := H1
  have u_ : q9upN w 3 [] 0 = .int 0 := q9upN_of (by decide) w0
  have u0 : q9upN w 3 [] 1 = .int x0 := q9upN_of (by decide) ae0
  have u1 : q9upN w 3 [] 2 = .int x1 := q9upN_of (by decide) ae1
  refine ⟨[], fun i9 p9 hq9 => ?_, List.forall_mem_cons.mpr ⟨?_, fun _ h => absurd h List.not_mem_nil⟩, fun _ h => absurd h List.not_mem_nil⟩
  · exact nomatch (show (none : Option (Nat × q9AV × q9AV × q9ET)) = some p9 from hq9)
  · exact q9th_tX (T := T) (N := N) (P := P) (J := J) (t0 := t0) (Sc := Sc) (q9evS u0) (q9evZ u_) (q9evS u1) (by rw [q9FF_1059]; exact (by rw [if_pos (by omega), show (x0.toInt - t0) / 4 + 1 = 1 by omega, hs])) (by decide)
theorem q9ru_fwk1 (hT : ∀ i, 0 ≤ T i ∧ T i ≤ 255) (hN : 0 ≤ N ∧ N ≤ 400) (hSc : 0 ≤ Sc 1 ∧ Sc 1 ≤ 400 → N = Sc 1) : q9ruOK (fO T N P J t0 Sc) q9R_fwk1 := by
  intro w w0 hA hX hL hV hR
  obtain ⟨x0, ae0, -, -⟩ := hA 0 0 rfl
  obtain ⟨x1, ae1, -, -⟩ := hA 1 0 rfl
  have kz : (0 : Int32).toInt = 0 := rfl
  have k2 : (Int32.ofInt 2).toInt = 2 := q9oI_toInt (by decide)
  have k380 : (Int32.ofInt 380).toInt = 380 := q9oI_toInt (by decide)
  have X0 := q9th_pX (T := T) (N := N) (P := P) (J := J) (t0 := t0) (Sc := Sc) (op := 1064) (q9evZ w0) (q9evZ w0) (q9evS ae0) (hX _ (List.mem_of_getElem? (i := 0) rfl)) (by decide)
  rw [q9FF_1064] at X0
  have H0 := Option.some.inj X0
  try simp only [kz, k2, k380] at H0
  have X1 := q9th_pX (T := T) (N := N) (P := P) (J := J) (t0 := t0) (Sc := Sc) (op := 1063) (q9evC w0 2) (q9evZ w0) (q9evS ae1) (hX _ (List.mem_of_getElem? (i := 1) rfl)) (by decide)
  rw [q9FF_1063] at X1
  have H1 := Option.some.inj X1
  try simp only [kz, k2, k380] at H1
  have L0 : (0 : Int32).toInt ≤ x0.toInt + 0 := q9pC (q9evZ w0) (q9evS ae0) (hL _ (List.mem_of_getElem? (i := 0) rfl))
  have L1 : x0.toInt ≤ (Int32.ofInt 380).toInt + 0 := q9pC (q9evS ae0) (q9evC w0 380) (hL _ (List.mem_of_getElem? (i := 1) rfl))
  have ht : t0 = x0.toInt := H0
  have hs : Sc 2 = x1.toInt := H1
  have a9 := q9ad32 (x := x0) (d := 4) (by omega)
  have u_ : q9upN w 3 [] 0 = .int 0 := q9upN_of (by decide) w0
  have u0 : q9upN w 3 [] 1 = .int x0 := q9upN_of (by decide) ae0
  have u1 : q9upN w 3 [] 2 = .int x1 := q9upN_of (by decide) ae1
  refine ⟨[], fun i9 p9 hq9 => ?_, List.forall_mem_cons.mpr ⟨?_, fun _ h => absurd h List.not_mem_nil⟩, fun _ h => absurd h List.not_mem_nil⟩
  · exact nomatch (show (none : Option (Nat × q9AV × q9AV × q9ET)) = some p9 from hq9)
  · exact q9th_tX (T := T) (N := N) (P := P) (J := J) (t0 := t0) (Sc := Sc) (q9evO u0 4) (q9evZ u_) (q9evS u1) (by rw [q9FF_1059]; exact (by rw [a9, if_pos (by omega), show (x0.toInt + 4 - t0) / 4 + 1 = 2 by omega, hs])) (by decide)
theorem q9ru_fwk2 (hT : ∀ i, 0 ≤ T i ∧ T i ≤ 255) (hN : 0 ≤ N ∧ N ≤ 400) (hSc : 0 ≤ Sc 1 ∧ Sc 1 ≤ 400 → N = Sc 1) : q9ruOK (fO T N P J t0 Sc) q9R_fwk2 := by
  intro w w0 hA hX hL hV hR
  obtain ⟨x0, ae0, -, -⟩ := hA 0 0 rfl
  obtain ⟨x1, ae1, -, -⟩ := hA 1 0 rfl
  have kz : (0 : Int32).toInt = 0 := rfl
  have k3 : (Int32.ofInt 3).toInt = 3 := q9oI_toInt (by decide)
  have k380 : (Int32.ofInt 380).toInt = 380 := q9oI_toInt (by decide)
  have X0 := q9th_pX (T := T) (N := N) (P := P) (J := J) (t0 := t0) (Sc := Sc) (op := 1064) (q9evZ w0) (q9evZ w0) (q9evS ae0) (hX _ (List.mem_of_getElem? (i := 0) rfl)) (by decide)
  rw [q9FF_1064] at X0
  have H0 := Option.some.inj X0
  try simp only [kz, k3, k380] at H0
  have X1 := q9th_pX (T := T) (N := N) (P := P) (J := J) (t0 := t0) (Sc := Sc) (op := 1063) (q9evC w0 3) (q9evZ w0) (q9evS ae1) (hX _ (List.mem_of_getElem? (i := 1) rfl)) (by decide)
  rw [q9FF_1063] at X1
  have H1 := Option.some.inj X1
  try simp only [kz, k3, k380] at H1
  have L0 : (0 : Int32).toInt ≤ x0.toInt + 0 := q9pC (q9evZ w0) (q9evS ae0) (hL _ (List.mem_of_getElem? (i := 0) rfl))
  have L1 : x0.toInt ≤ (Int32.ofInt 380).toInt + 0 := q9pC (q9evS ae0) (q9evC w0 380) (hL _ (List.mem_of_getElem? (i := 1) rfl))
  have ht : t0 = x0.toInt := H0
  have hs : Sc 3 = x1.toInt := H1
  have a9 := q9ad32 (x := x0) (d := 8) (by omega)
  have u_ : q9upN w 3 [] 0 = .int 0 := q9upN_of (by decide) w0
  have u0 : q9upN w 3 [] 1 = .int x0 := q9upN_of (by decide) ae0
  have u1 : q9upN w 3 [] 2 = .int x1 := q9upN_of (by decide) ae1
  refine ⟨[], fun i9 p9 hq9 => ?_, List.forall_mem_cons.mpr ⟨?_, fun _ h => absurd h List.not_mem_nil⟩, fun _ h => absurd h List.not_mem_nil⟩
  · exact nomatch (show (none : Option (Nat × q9AV × q9AV × q9ET)) = some p9 from hq9)
  · exact q9th_tX (T := T) (N := N) (P := P) (J := J) (t0 := t0) (Sc := Sc) (q9evO u0 8) (q9evZ u_) (q9evS u1) (by rw [q9FF_1059]; exact (by rw [a9, if_pos (by omega), show (x0.toInt + 8 - t0) / 4 + 1 = 3 by omega, hs])) (by decide)
theorem q9ru_fwk3 (hT : ∀ i, 0 ≤ T i ∧ T i ≤ 255) (hN : 0 ≤ N ∧ N ≤ 400) (hSc : 0 ≤ Sc 1 ∧ Sc 1 ≤ 400 → N = Sc 1) : q9ruOK (fO T N P J t0 Sc) q9R_fwk3 := by
  intro w w0 hA hX hL hV hR
  obtain ⟨x0, ae0, -, -⟩ := hA 0 0 rfl
  obtain ⟨x1, ae1, -, -⟩ := hA 1 0 rfl
  have kz : (0 : Int32).toInt = 0 := rfl
  have k4 : (Int32.ofInt 4).toInt = 4 := q9oI_toInt (by decide)
  have k380 : (Int32.ofInt 380).toInt = 380 := q9oI_toInt (by decide)
  have X0 := q9th_pX (T := T) (N := N) (P := P) (J := J) (t0 := t0) (Sc := Sc) (op := 1064) (q9evZ w0) (q9evZ w0) (q9evS ae0) (hX _ (List.mem_of_getElem? (i := 0) rfl)) (by decide)
  rw [q9FF_1064] at X0
  have H0 := Option.some.inj X0
  try simp only [kz, k4, k380] at H0
  have X1 := q9th_pX (T := T) (N := N) (P := P) (J := J) (t0 := t0) (Sc := Sc) (op := 1063) (q9evC w0 4) (q9evZ w0) (q9evS ae1) (hX _ (List.mem_of_getElem? (i := 1) rfl)) (by decide)
  rw [q9FF_1063] at X1
  have H1 := Option.some.inj X1
  try simp only [kz, k4, k380] at H1
  have L0 : (0 : Int32).toInt ≤ x0.toInt + 0 := q9pC (q9evZ w0) (q9evS ae0) (hL _ (List.mem_of_getElem? (i := 0) rfl))
  have L1 : x0.toInt ≤ (Int32.ofInt 380).toInt + 0 := q9pC (q9evS ae0) (q9evC w0 380) (hL _ (List.mem_of_getElem? (i := 1) rfl))
  have ht : t0 = x0.toInt := H0
  have hs : Sc 4 = x1.toInt := H1
  have a9 := q9ad32 (x := x0) (d := 12) (by omega)
  have u_ : q9upN w 3 [] 0 = .int 0 := q9upN_of (by decide) w0
  have u0 : q9upN w 3 [] 1 = .int x0 := q9upN_of (by decide) ae0
  have u1 : q9upN w 3 [] 2 = .int x1 := q9upN_of (by decide) ae1
  refine ⟨[], fun i9 p9 hq9 => ?_, List.forall_mem_cons.mpr ⟨?_, fun _ h => absurd h List.not_mem_nil⟩, fun _ h => absurd h List.not_mem_nil⟩
  · exact nomatch (show (none : Option (Nat × q9AV × q9AV × q9ET)) = some p9 from hq9)
  · exact q9th_tX (T := T) (N := N) (P := P) (J := J) (t0 := t0) (Sc := Sc) (q9evO u0 12) (q9evZ u_) (q9evS u1) (by rw [q9FF_1059]; exact (by rw [a9, if_pos (by omega), show (x0.toInt + 12 - t0) / 4 + 1 = 4 by omega, hs])) (by decide)
theorem q9ru_fwk4 (hT : ∀ i, 0 ≤ T i ∧ T i ≤ 255) (hN : 0 ≤ N ∧ N ≤ 400) (hSc : 0 ≤ Sc 1 ∧ Sc 1 ≤ 400 → N = Sc 1) : q9ruOK (fO T N P J t0 Sc) q9R_fwk4 := by
  intro w w0 hA hX hL hV hR
  obtain ⟨x0, ae0, -, -⟩ := hA 0 0 rfl
  obtain ⟨x1, ae1, -, -⟩ := hA 1 0 rfl
  have kz : (0 : Int32).toInt = 0 := rfl
  have k5 : (Int32.ofInt 5).toInt = 5 := q9oI_toInt (by decide)
  have k380 : (Int32.ofInt 380).toInt = 380 := q9oI_toInt (by decide)
  have X0 := q9th_pX (T := T) (N := N) (P := P) (J := J) (t0 := t0) (Sc := Sc) (op := 1064) (q9evZ w0) (q9evZ w0) (q9evS ae0) (hX _ (List.mem_of_getElem? (i := 0) rfl)) (by decide)
  rw [q9FF_1064] at X0
  have H0 := Option.some.inj X0
  try simp only [kz, k5, k380] at H0
  have X1 := q9th_pX (T := T) (N := N) (P := P) (J := J) (t0 := t0) (Sc := Sc) (op := 1063) (q9evC w0 5) (q9evZ w0) (q9evS ae1) (hX _ (List.mem_of_getElem? (i := 1) rfl)) (by decide)
  rw [q9FF_1063] at X1
  have H1 := Option.some.inj X1
  try simp only [kz, k5, k380] at H1
  have L0 : (0 : Int32).toInt ≤ x0.toInt + 0 := q9pC (q9evZ w0) (q9evS ae0) (hL _ (List.mem_of_getElem? (i := 0) rfl))
  have L1 : x0.toInt ≤ (Int32.ofInt 380).toInt + 0 := q9pC (q9evS ae0) (q9evC w0 380) (hL _ (List.mem_of_getElem? (i := 1) rfl))
  have ht : t0 = x0.toInt := H0
  have hs : Sc 5 = x1.toInt := H1
  have a9 := q9ad32 (x := x0) (d := 16) (by omega)
  have u_ : q9upN w 3 [] 0 = .int 0 := q9upN_of (by decide) w0
  have u0 : q9upN w 3 [] 1 = .int x0 := q9upN_of (by decide) ae0
  have u1 : q9upN w 3 [] 2 = .int x1 := q9upN_of (by decide) ae1
  refine ⟨[], fun i9 p9 hq9 => ?_, List.forall_mem_cons.mpr ⟨?_, fun _ h => absurd h List.not_mem_nil⟩, fun _ h => absurd h List.not_mem_nil⟩
  · exact nomatch (show (none : Option (Nat × q9AV × q9AV × q9ET)) = some p9 from hq9)
  · exact q9th_tX (T := T) (N := N) (P := P) (J := J) (t0 := t0) (Sc := Sc) (q9evO u0 16) (q9evZ u_) (q9evS u1) (by rw [q9FF_1059]; exact (by rw [a9, if_pos (by omega), show (x0.toInt + 16 - t0) / 4 + 1 = 5 by omega, hs])) (by decide)
theorem q9ru_onn (hT : ∀ i, 0 ≤ T i ∧ T i ≤ 255) (hN : 0 ≤ N ∧ N ≤ 400) (hSc : 0 ≤ Sc 1 ∧ Sc 1 ≤ 400 → N = Sc 1) : q9ruOK (fO T N P J t0 Sc) q9R_onn := by
  intro w w0 hA hX hL hV hR
  obtain ⟨x0, ae0, -, -⟩ := hA 0 0 rfl
  have kz : (0 : Int32).toInt = 0 := rfl
  have k1 : (Int32.ofInt 1).toInt = 1 := q9oI_toInt (by decide)
  have k400 : (Int32.ofInt 400).toInt = 400 := q9oI_toInt (by decide)
  have X0 := q9th_pX (T := T) (N := N) (P := P) (J := J) (t0 := t0) (Sc := Sc) (op := 1063) (q9evC w0 1) (q9evZ w0) (q9evS ae0) (hX _ (List.mem_of_getElem? (i := 0) rfl)) (by decide)
  rw [q9FF_1063] at X0
  have H0 := Option.some.inj X0
  try simp only [kz, k1, k400] at H0
  have L0 : (0 : Int32).toInt ≤ x0.toInt + 0 := q9pC (q9evZ w0) (q9evS ae0) (hL _ (List.mem_of_getElem? (i := 0) rfl))
  have L1 : x0.toInt ≤ (Int32.ofInt 400).toInt + 0 := q9pC (q9evS ae0) (q9evC w0 400) (hL _ (List.mem_of_getElem? (i := 1) rfl))
  have hs : Sc 1 = x0.toInt := H0
  have := hSc (by omega)
  have u_ : q9upN w 2 [] 0 = .int 0 := q9upN_of (by decide) w0
  have u0 : q9upN w 2 [] 1 = .int x0 := q9upN_of (by decide) ae0
  refine ⟨[], fun i9 p9 hq9 => ?_, List.forall_mem_cons.mpr ⟨?_, fun _ h => absurd h List.not_mem_nil⟩, fun _ h => absurd h List.not_mem_nil⟩
  · exact nomatch (show (none : Option (Nat × q9AV × q9AV × q9ET)) = some p9 from hq9)
  · exact q9th_tX (T := T) (N := N) (P := P) (J := J) (t0 := t0) (Sc := Sc) (q9evZ u_) (q9evZ u_) (q9evS u0) (by rw [q9FF_1018]; exact (by rw [this, hs])) (by decide)
theorem q9ru_eFIN (hT : ∀ i, 0 ≤ T i ∧ T i ≤ 255) (hN : 0 ≤ N ∧ N ≤ 400) (hSc : 0 ≤ Sc 1 ∧ Sc 1 ≤ 400 → N = Sc 1) : q9ruOK (fO T N P J t0 Sc) q9R_eFIN := by
  intro w w0 hA hX hL hV hR
  have kz : (0 : Int32).toInt = 0 := rfl
  have hr := q9fin_rng (T := T) (P := P) (J := J) hN
  have rg0 : (0 : Int) ≤ (finI T N P J).1 ∧ ((finI T N P J).1 : Int) ≤ 9 := ⟨hr.1, hr.2.1⟩
  obtain ⟨x0, nt0⟩ : ∃ x : Int32, x.toInt = (finI T N P J).1 := ⟨Int32.ofInt ((finI T N P J).1), q9oI_toInt (by omega)⟩
  have rg1 : (0 : Int) ≤ (finI T N P J).2.1 ∧ ((finI T N P J).2.1 : Int) ≤ 400 := ⟨hr.2.2.1, hr.2.2.2.1⟩
  obtain ⟨x1, nt1⟩ : ∃ x : Int32, x.toInt = (finI T N P J).2.1 := ⟨Int32.ofInt ((finI T N P J).2.1), q9oI_toInt (by omega)⟩
  have rg2 : (0 : Int) ≤ (finI T N P J).2.2 ∧ ((finI T N P J).2.2 : Int) ≤ 400 := ⟨hr.2.2.2.2.1, hr.2.2.2.2.2⟩
  obtain ⟨x2, nt2⟩ : ∃ x : Int32, x.toInt = (finI T N P J).2.2 := ⟨Int32.ofInt ((finI T N P J).2.2), q9oI_toInt (by omega)⟩
  have u_ : q9upN w 1 [.int x0, .int x1, .int x2] 0 = .int 0 := q9upN_of (by decide) w0
  have u0 : q9upN w 1 [.int x0, .int x1, .int x2] 1 = .int x0 := q9upN_at (by decide)
  have u1 : q9upN w 1 [.int x0, .int x1, .int x2] 2 = .int x1 := q9upN_at (by decide)
  have u2 : q9upN w 1 [.int x0, .int x1, .int x2] 3 = .int x2 := q9upN_at (by decide)
  refine ⟨[.int x0, .int x1, .int x2], fun i9 p9 hq9 => ?_, fun _ h => absurd h List.not_mem_nil, fun _ h => absurd h List.not_mem_nil⟩
  · match i9, hq9 with
    | 0, hq9 =>
      have hp9 : ((1045, (0, 0), (0, 0), (0, 0, 9)) : Nat × q9AV × q9AV × q9ET) = p9 := Option.some.inj hq9
      subst hp9
      exact ⟨⟨x0, rfl, by rw [nt0]; exact rg0.1, by rw [nt0]; exact rg0.2⟩, (q9th_tX (T := T) (N := N) (P := P) (J := J) (t0 := t0) (Sc := Sc) (q9evZ u_) (q9evZ u_) (q9evS u0) (by rw [q9FF_1045, nt0]; first | done | exact rfl) (by decide)).trans (congrArg some (q9evS u0))⟩
    | 1, hq9 =>
      have hp9 : ((1046, (0, 0), (0, 0), (0, 0, 400)) : Nat × q9AV × q9AV × q9ET) = p9 := Option.some.inj hq9
      subst hp9
      exact ⟨⟨x1, rfl, by rw [nt1]; exact rg1.1, by rw [nt1]; exact rg1.2⟩, (q9th_tX (T := T) (N := N) (P := P) (J := J) (t0 := t0) (Sc := Sc) (q9evZ u_) (q9evZ u_) (q9evS u1) (by rw [q9FF_1046, nt1]; first | done | exact rfl) (by decide)).trans (congrArg some (q9evS u1))⟩
    | 2, hq9 =>
      have hp9 : ((1047, (0, 0), (0, 0), (0, 0, 400)) : Nat × q9AV × q9AV × q9ET) = p9 := Option.some.inj hq9
      subst hp9
      exact ⟨⟨x2, rfl, by rw [nt2]; exact rg2.1, by rw [nt2]; exact rg2.2⟩, (q9th_tX (T := T) (N := N) (P := P) (J := J) (t0 := t0) (Sc := Sc) (q9evZ u_) (q9evZ u_) (q9evS u2) (by rw [q9FF_1047, nt2]; first | done | exact rfl) (by decide)).trans (congrArg some (q9evS u2))⟩
    | k9 + 3, hq9 => exact nomatch (show (none : Option (Nat × q9AV × q9AV × q9ET)) = some p9 from hq9)
theorem q9ru_cde (hT : ∀ i, 0 ≤ T i ∧ T i ≤ 255) (hN : 0 ≤ N ∧ N ≤ 400) (hSc : 0 ≤ Sc 1 ∧ Sc 1 ≤ 400 → N = Sc 1) : q9ruOK (fO T N P J t0 Sc) q9R_cde := by
  intro w w0 hA hX hL hV hR
  obtain ⟨x0, ae0, -, -⟩ := hA 0 0 rfl
  obtain ⟨x1, ae1, -, -⟩ := hA 1 0 rfl
  have kz : (0 : Int32).toInt = 0 := rfl
  have k400 : (Int32.ofInt 400).toInt = 400 := q9oI_toInt (by decide)
  have L0 : (0 : Int32).toInt ≤ x0.toInt + 0 := q9pC (q9evZ w0) (q9evS ae0) (hL _ (List.mem_of_getElem? (i := 0) rfl))
  have L1 : x0.toInt ≤ (Int32.ofInt 400).toInt + 0 := q9pC (q9evS ae0) (q9evC w0 400) (hL _ (List.mem_of_getElem? (i := 1) rfl))
  have L2 : (0 : Int32).toInt ≤ x1.toInt + 0 := q9pC (q9evZ w0) (q9evS ae1) (hL _ (List.mem_of_getElem? (i := 2) rfl))
  have L3 : x1.toInt ≤ (Int32.ofInt 400).toInt + 0 := q9pC (q9evS ae1) (q9evC w0 400) (hL _ (List.mem_of_getElem? (i := 3) rfl))
  have rg0 : (0 : Int) ≤ (q9cdI x0.toInt x1.toInt) ∧ ((q9cdI x0.toInt x1.toInt) : Int) ≤ 500000 := (by unfold q9cdI; omega)
  obtain ⟨x2, nt2⟩ : ∃ x : Int32, x.toInt = (q9cdI x0.toInt x1.toInt) := ⟨Int32.ofInt ((q9cdI x0.toInt x1.toInt)), q9oI_toInt (by omega)⟩
  have u_ : q9upN w 3 [.int x2] 0 = .int 0 := q9upN_of (by decide) w0
  have u0 : q9upN w 3 [.int x2] 1 = .int x0 := q9upN_of (by decide) ae0
  have u1 : q9upN w 3 [.int x2] 2 = .int x1 := q9upN_of (by decide) ae1
  have u2 : q9upN w 3 [.int x2] 3 = .int x2 := q9upN_at (by decide)
  refine ⟨[.int x2], fun i9 p9 hq9 => ?_, fun _ h => absurd h List.not_mem_nil, fun _ h => absurd h List.not_mem_nil⟩
  · match i9, hq9 with
    | 0, hq9 =>
      have hp9 : ((1440, (1, 0), (2, 0), (0, 0, 500000)) : Nat × q9AV × q9AV × q9ET) = p9 := Option.some.inj hq9
      subst hp9
      exact ⟨⟨x2, rfl, by rw [nt2]; exact rg0.1, by rw [nt2]; exact rg0.2⟩, (q9th_tX (T := T) (N := N) (P := P) (J := J) (t0 := t0) (Sc := Sc) (q9evS u0) (q9evS u1) (q9evS u2) (by rw [q9FF_1440, nt2]; first | done | exact rfl) (by decide)).trans (congrArg some (q9evS u2))⟩
    | k9 + 1, hq9 => exact nomatch (show (none : Option (Nat × q9AV × q9AV × q9ET)) = some p9 from hq9)
theorem q9ru_cdf (hT : ∀ i, 0 ≤ T i ∧ T i ≤ 255) (hN : 0 ≤ N ∧ N ≤ 400) (hSc : 0 ≤ Sc 1 ∧ Sc 1 ≤ 400 → N = Sc 1) : q9ruOK (fO T N P J t0 Sc) q9R_cdf := by
  intro w w0 hA hX hL hV hR
  obtain ⟨x0, ae0, -, -⟩ := hA 0 0 rfl
  obtain ⟨x1, ae1, -, -⟩ := hA 1 0 rfl
  have kz : (0 : Int32).toInt = 0 := rfl
  have k3 : (Int32.ofInt 3).toInt = 3 := q9oI_toInt (by decide)
  have k500000 : (Int32.ofInt 500000).toInt = 500000 := q9oI_toInt (by decide)
  have L0 : (0 : Int32).toInt ≤ x0.toInt + 0 := q9pC (q9evZ w0) (q9evS ae0) (hL _ (List.mem_of_getElem? (i := 0) rfl))
  have L1 : x0.toInt ≤ (Int32.ofInt 500000).toInt + 0 := q9pC (q9evS ae0) (q9evC w0 500000) (hL _ (List.mem_of_getElem? (i := 1) rfl))
  have L2 : (0 : Int32).toInt ≤ x1.toInt + 0 := q9pC (q9evZ w0) (q9evS ae1) (hL _ (List.mem_of_getElem? (i := 2) rfl))
  have L3 : x1.toInt ≤ (Int32.ofInt 3).toInt + 0 := q9pC (q9evS ae1) (q9evC w0 3) (hL _ (List.mem_of_getElem? (i := 3) rfl))
  have rg0 : ((-2147483648) : Int) ≤ (q9cdI x0.toInt x1.toInt) ∧ ((q9cdI x0.toInt x1.toInt) : Int) ≤ 2147483647 := (by unfold q9cdI; omega)
  obtain ⟨x2, nt2⟩ : ∃ x : Int32, x.toInt = (q9cdI x0.toInt x1.toInt) := ⟨Int32.ofInt ((q9cdI x0.toInt x1.toInt)), q9oI_toInt (by omega)⟩
  have u_ : q9upN w 3 [.int x2] 0 = .int 0 := q9upN_of (by decide) w0
  have u0 : q9upN w 3 [.int x2] 1 = .int x0 := q9upN_of (by decide) ae0
  have u1 : q9upN w 3 [.int x2] 2 = .int x1 := q9upN_of (by decide) ae1
  have u2 : q9upN w 3 [.int x2] 3 = .int x2 := q9upN_at (by decide)
  refine ⟨[.int x2], fun i9 p9 hq9 => ?_, fun _ h => absurd h List.not_mem_nil, fun _ h => absurd h List.not_mem_nil⟩
  · match i9, hq9 with
    | 0, hq9 =>
      have hp9 : ((1440, (1, 0), (2, 0), (0, (-2147483648), 2147483647)) : Nat × q9AV × q9AV × q9ET) = p9 := Option.some.inj hq9
      subst hp9
      exact ⟨⟨x2, rfl, by rw [nt2]; exact rg0.1, by rw [nt2]; exact rg0.2⟩, (q9th_tX (T := T) (N := N) (P := P) (J := J) (t0 := t0) (Sc := Sc) (q9evS u0) (q9evS u1) (q9evS u2) (by rw [q9FF_1440, nt2]; first | done | exact rfl) (by decide)).trans (congrArg some (q9evS u2))⟩
    | k9 + 1, hq9 => exact nomatch (show (none : Option (Nat × q9AV × q9AV × q9ET)) = some p9 from hq9)
theorem q9ru_sgz (hT : ∀ i, 0 ≤ T i ∧ T i ≤ 255) (hN : 0 ≤ N ∧ N ≤ 400) (hSc : 0 ≤ Sc 1 ∧ Sc 1 ≤ 400 → N = Sc 1) : q9ruOK (fO T N P J t0 Sc) q9R_sgz := by
  intro w w0 hA hX hL hV hR
  obtain ⟨x0, ae0, -, -⟩ := hA 0 1 rfl
  obtain ⟨x1, ae1, -, -⟩ := hA 1 1 rfl
  have kz : (0 : Int32).toInt = 0 := rfl
  obtain ⟨y0, ye0, R0, S0⟩ := hR _ (List.mem_of_getElem? (i := 0) rfl)
  obtain ⟨y1, ye1, R1, S1⟩ := hR _ (List.mem_of_getElem? (i := 1) rfl)
  rw [ae1] at ye1
  cases ye1
  have z1 : x1 = 0 := Int64.toInt_inj.mp (by have a1 : 0 ≤ x1.toInt := R1; have a2 : x1.toInt ≤ 0 := S1; rw [show (0 : Int64).toInt = 0 from rfl]; omega)
  have rg0 : ((-1) : Int) ≤ (lg_cmp x0 x1).toInt ∧ ((lg_cmp x0 x1).toInt : Int) ≤ 1 := (q9lcmp_rng x0 x1)
  obtain ⟨x2, nt2⟩ : ∃ x : Int32, x.toInt = (lg_cmp x0 x1).toInt := ⟨Int32.ofInt ((lg_cmp x0 x1).toInt), q9oI_toInt (by omega)⟩
  have u_ : q9upN w 3 [.int x2] 0 = .int 0 := q9upN_of (by decide) w0
  have u0 : q9upN w 3 [.int x2] 1 = .long x0 := q9upN_of (by decide) ae0
  have u1 : q9upN w 3 [.int x2] 2 = .long x1 := q9upN_of (by decide) ae1
  have u2 : q9upN w 3 [.int x2] 3 = .int x2 := q9upN_at (by decide)
  refine ⟨[.int x2], fun i9 p9 hq9 => ?_, List.forall_mem_cons.mpr ⟨?_, fun _ h => absurd h List.not_mem_nil⟩, fun _ h => absurd h List.not_mem_nil⟩
  · match i9, hq9 with
    | 0, hq9 =>
      have hp9 : ((24, (1, 0), (2, 0), (0, (-1), 1)) : Nat × q9AV × q9AV × q9ET) = p9 := Option.some.inj hq9
      subst hp9
      exact ⟨⟨x2, rfl, by rw [nt2]; exact rg0.1, by rw [nt2]; exact rg0.2⟩, (q9tB (T := T) (N := N) (P := P) (J := J) (t0 := t0) (Sc := Sc) (q9evS u0) (q9evS u1) (q9evS u2) (show some (Value.int (lg_cmp x0 x1)) = some (.int x2) from congrArg (fun z => some (Value.int z)) (Int32.toInt_inj.mp nt2.symm))).trans (congrArg some (q9evS u2))⟩
    | k9 + 1, hq9 => exact nomatch (show (none : Option (Nat × q9AV × q9AV × q9ET)) = some p9 from hq9)
  · exact q9tB (T := T) (N := N) (P := P) (J := J) (t0 := t0) (Sc := Sc) (q9evS u0) (q9evZ u_) (q9evS u2) (by rw [show x2 = lg_cmp x0 0 from Int32.toInt_inj.mp (by rw [nt2, z1])]; exact q9xl_sg)
theorem q9ru_dec1 (hT : ∀ i, 0 ≤ T i ∧ T i ≤ 255) (hN : 0 ≤ N ∧ N ≤ 400) (hSc : 0 ≤ Sc 1 ∧ Sc 1 ≤ 400 → N = Sc 1) : q9ruOK (fO T N P J t0 Sc) q9R_dec1 := by
  intro w w0 hA hX hL hV hR
  obtain ⟨x0, ae0, -, -⟩ := hA 0 1 rfl
  obtain ⟨x1, ae1, -, -⟩ := hA 1 1 rfl
  have kz : (0 : Int32).toInt = 0 := rfl
  obtain ⟨y0, ye0, R0, S0⟩ := hR _ (List.mem_of_getElem? (i := 0) rfl)
  obtain ⟨y1, ye1, R1, S1⟩ := hR _ (List.mem_of_getElem? (i := 1) rfl)
  rw [ae1] at ye1
  cases ye1
  have z1 : x1 = 1 := Int64.toInt_inj.mp (by have a1 : 1 ≤ x1.toInt := R1; have a2 : x1.toInt ≤ 1 := S1; rw [show (1 : Int64).toInt = 1 from rfl]; omega)
  have u_ : q9upN w 3 [.long (x0 - x1)] 0 = .int 0 := q9upN_of (by decide) w0
  have u0 : q9upN w 3 [.long (x0 - x1)] 1 = .long x0 := q9upN_of (by decide) ae0
  have u1 : q9upN w 3 [.long (x0 - x1)] 2 = .long x1 := q9upN_of (by decide) ae1
  have u2 : q9upN w 3 [.long (x0 - x1)] 3 = .long (x0 - x1) := q9upN_at (by decide)
  refine ⟨[.long (x0 - x1)], fun i9 p9 hq9 => ?_, List.forall_mem_cons.mpr ⟨?_, fun _ h => absurd h List.not_mem_nil⟩, fun _ h => absurd h List.not_mem_nil⟩
  · match i9, hq9 with
    | 0, hq9 =>
      have hp9 : ((21, (1, 0), (2, 0), (1, (-9223372036854775808), 9223372036854775807)) : Nat × q9AV × q9AV × q9ET) = p9 := Option.some.inj hq9
      subst hp9
      exact ⟨⟨_, rfl, by have h9 := Int64.le_toInt (x0 - x1); show -9223372036854775808 ≤ _; omega, by have h9 := Int64.toInt_lt (x0 - x1); show _ ≤ 9223372036854775807; omega⟩, (q9tB (T := T) (N := N) (P := P) (J := J) (t0 := t0) (Sc := Sc) (q9evS u0) (q9evS u1) (q9evS u2) rfl).trans (congrArg some (q9evS u2))⟩
    | k9 + 1, hq9 => exact nomatch (show (none : Option (Nat × q9AV × q9AV × q9ET)) = some p9 from hq9)
  · exact q9tB (T := T) (N := N) (P := P) (J := J) (t0 := t0) (Sc := Sc) (q9evS u0) (q9evZ u_) (q9evS u2) (by rw [z1]; exact q9xl_d1)
theorem q9ru_dbl (hT : ∀ i, 0 ≤ T i ∧ T i ≤ 255) (hN : 0 ≤ N ∧ N ≤ 400) (hSc : 0 ≤ Sc 1 ∧ Sc 1 ≤ 400 → N = Sc 1) : q9ruOK (fO T N P J t0 Sc) q9R_dbl := by
  intro w w0 hA hX hL hV hR
  obtain ⟨x0, ae0, -, -⟩ := hA 0 1 rfl
  obtain ⟨x1, ae1, -, -⟩ := hA 1 1 rfl
  have kz : (0 : Int32).toInt = 0 := rfl
  obtain ⟨y0, ye0, R0, S0⟩ := hR _ (List.mem_of_getElem? (i := 0) rfl)
  obtain ⟨y1, ye1, R1, S1⟩ := hR _ (List.mem_of_getElem? (i := 1) rfl)
  rw [ae1] at ye1
  cases ye1
  have z1 : x1 = 2 := Int64.toInt_inj.mp (by have a1 : 2 ≤ x1.toInt := R1; have a2 : x1.toInt ≤ 2 := S1; rw [show (2 : Int64).toInt = 2 from rfl]; omega)
  have u_ : q9upN w 3 [.long (x1 * x0)] 0 = .int 0 := q9upN_of (by decide) w0
  have u0 : q9upN w 3 [.long (x1 * x0)] 1 = .long x0 := q9upN_of (by decide) ae0
  have u1 : q9upN w 3 [.long (x1 * x0)] 2 = .long x1 := q9upN_of (by decide) ae1
  have u2 : q9upN w 3 [.long (x1 * x0)] 3 = .long (x1 * x0) := q9upN_at (by decide)
  refine ⟨[.long (x1 * x0)], fun i9 p9 hq9 => ?_, List.forall_mem_cons.mpr ⟨?_, fun _ h => absurd h List.not_mem_nil⟩, fun _ h => absurd h List.not_mem_nil⟩
  · match i9, hq9 with
    | 0, hq9 =>
      have hp9 : ((22, (2, 0), (1, 0), (1, (-9223372036854775808), 9223372036854775807)) : Nat × q9AV × q9AV × q9ET) = p9 := Option.some.inj hq9
      subst hp9
      exact ⟨⟨_, rfl, by have h9 := Int64.le_toInt (x1 * x0); show -9223372036854775808 ≤ _; omega, by have h9 := Int64.toInt_lt (x1 * x0); show _ ≤ 9223372036854775807; omega⟩, (q9tB (T := T) (N := N) (P := P) (J := J) (t0 := t0) (Sc := Sc) (q9evS u1) (q9evS u0) (q9evS u2) rfl).trans (congrArg some (q9evS u2))⟩
    | k9 + 1, hq9 => exact nomatch (show (none : Option (Nat × q9AV × q9AV × q9ET)) = some p9 from hq9)
  · exact q9tB (T := T) (N := N) (P := P) (J := J) (t0 := t0) (Sc := Sc) (q9evS u0) (q9evZ u_) (q9evS u2) (by rw [z1]; exact q9xl_d2)
theorem q9ru_wh1 (hT : ∀ i, 0 ≤ T i ∧ T i ≤ 255) (hN : 0 ≤ N ∧ N ≤ 400) (hSc : 0 ≤ Sc 1 ∧ Sc 1 ≤ 400 → N = Sc 1) : q9ruOK (fO T N P J t0 Sc) q9R_wh1 := by
  intro w w0 hA hX hL hV hR
  obtain ⟨x0, ae0, -, -⟩ := hA 0 1 rfl
  obtain ⟨x1, ae1, -, -⟩ := hA 1 1 rfl
  have kz : (0 : Int32).toInt = 0 := rfl
  obtain ⟨y0, ye0, R0, S0⟩ := hR _ (List.mem_of_getElem? (i := 0) rfl)
  obtain ⟨y1, ye1, R1, S1⟩ := hR _ (List.mem_of_getElem? (i := 1) rfl)
  rw [ae1] at ye1
  cases ye1
  have z1 : x1 = 1 := Int64.toInt_inj.mp (by have a1 : 1 ≤ x1.toInt := R1; have a2 : x1.toInt ≤ 1 := S1; rw [show (1 : Int64).toInt = 1 from rfl]; omega)
  have c1 := q9lc_val (x := x0) (y := x1)
  rw [z1] at c1
  have g1 : (1 : Int64).toInt = 1 := rfl
  have g2 : 1 ≤ x0.toInt := R0
  have c2 : (lg_cmp x0 x1).toInt = if (1 : Int64).toInt < x0.toInt then 1 else if x0.toInt = (1 : Int64).toInt then 0 else -1 := by rw [z1]; exact c1
  have rg0 : (0 : Int) ≤ (lg_cmp x0 x1).toInt ∧ ((lg_cmp x0 x1).toInt : Int) ≤ 1 := (by rw [c2]; repeat' split
                                                                                                           all_goals omega)
  obtain ⟨x2, nt2⟩ : ∃ x : Int32, x.toInt = (lg_cmp x0 x1).toInt := ⟨Int32.ofInt ((lg_cmp x0 x1).toInt), q9oI_toInt (by omega)⟩
  have u_ : q9upN w 3 [.int x2] 0 = .int 0 := q9upN_of (by decide) w0
  have u0 : q9upN w 3 [.int x2] 1 = .long x0 := q9upN_of (by decide) ae0
  have u1 : q9upN w 3 [.int x2] 2 = .long x1 := q9upN_of (by decide) ae1
  have u2 : q9upN w 3 [.int x2] 3 = .int x2 := q9upN_at (by decide)
  refine ⟨[.int x2], fun i9 p9 hq9 => ?_, fun _ h => absurd h List.not_mem_nil, fun _ h => absurd h List.not_mem_nil⟩
  · match i9, hq9 with
    | 0, hq9 =>
      have hp9 : ((24, (1, 0), (2, 0), (0, 0, 1)) : Nat × q9AV × q9AV × q9ET) = p9 := Option.some.inj hq9
      subst hp9
      exact ⟨⟨x2, rfl, by rw [nt2]; exact rg0.1, by rw [nt2]; exact rg0.2⟩, (q9tB (T := T) (N := N) (P := P) (J := J) (t0 := t0) (Sc := Sc) (q9evS u0) (q9evS u1) (q9evS u2) (show some (Value.int (lg_cmp x0 x1)) = some (.int x2) from congrArg (fun z => some (Value.int z)) (Int32.toInt_inj.mp nt2.symm))).trans (congrArg some (q9evS u2))⟩
    | k9 + 1, hq9 => exact nomatch (show (none : Option (Nat × q9AV × q9AV × q9ET)) = some p9 from hq9)
theorem q9ru_fda (hT : ∀ i, 0 ≤ T i ∧ T i ≤ 255) (hN : 0 ≤ N ∧ N ≤ 400) (hSc : 0 ≤ Sc 1 ∧ Sc 1 ≤ 400 → N = Sc 1) : q9ruOK (fO T N P J t0 Sc) q9R_fda := by
  intro w w0 hA hX hL hV hR
  obtain ⟨x0, ae0, -, -⟩ := hA 0 1 rfl
  obtain ⟨x1, ae1, -, -⟩ := hA 1 1 rfl
  obtain ⟨x2, ae2, -, -⟩ := hA 2 1 rfl
  obtain ⟨x3, ae3, -, -⟩ := hA 3 1 rfl
  obtain ⟨x4, ae4, -, -⟩ := hA 4 0 rfl
  have kz : (0 : Int32).toInt = 0 := rfl
  obtain ⟨y0, ye0, R0, S0⟩ := hR _ (List.mem_of_getElem? (i := 0) rfl)
  have X0 := q9pB (T := T) (N := N) (P := P) (J := J) (t0 := t0) (Sc := Sc) (q9evS ae0) (q9evS ae1) (q9evS ae2) (hX _ (List.mem_of_getElem? (i := 0) rfl))
  have X1 := q9pB (T := T) (N := N) (P := P) (J := J) (t0 := t0) (Sc := Sc) (q9evS ae0) (q9evS ae1) (q9evS ae3) (hX _ (List.mem_of_getElem? (i := 1) rfl))
  have X2 := q9pB (T := T) (N := N) (P := P) (J := J) (t0 := t0) (Sc := Sc) (q9evS ae3) (q9evZ w0) (q9evS ae4) (hX _ (List.mem_of_getElem? (i := 2) rfl))
  have L0 : (0 : Int32).toInt ≤ x4.toInt + 0 := q9pC (q9evZ w0) (q9evS ae4) (hL _ (List.mem_of_getElem? (i := 0) rfl))
  rw [ae1] at ye0
  cases ye0
  have hy : 1 ≤ x1.toInt := R0
  have q0 : x0 / x1 = x2 := q9lg_div hy X0
  have v1 : x0 ^^^ x1 = x3 := q9lg_in X1
  have sg := q9sg_in X2
  rw [q9lc_val, show (0 : Int64).toInt = 0 from rfl] at sg
  have xo := q9xo_sg hy v1
  have dv := q9dv64 hy q0 rfl
  have h0 : ¬ x3.toInt < 0 := fun h => by rw [if_neg (by omega), if_neg (by omega)] at sg; omega
  have h1 : ¬ x0.toInt < 0 := fun h => h0 (xo.mpr h)
  have h2 := dv.2.1 (by omega)
  have e := q9fd_eq (q := x2) hy (by omega) (by omega)
  have u_ : q9upN w 6 [] 0 = .int 0 := q9upN_of (by decide) w0
  have u0 : q9upN w 6 [] 1 = .long x0 := q9upN_of (by decide) ae0
  have u1 : q9upN w 6 [] 2 = .long x1 := q9upN_of (by decide) ae1
  have u2 : q9upN w 6 [] 3 = .long x2 := q9upN_of (by decide) ae2
  have u3 : q9upN w 6 [] 4 = .long x3 := q9upN_of (by decide) ae3
  have u4 : q9upN w 6 [] 5 = .int x4 := q9upN_of (by decide) ae4
  refine ⟨[], fun i9 p9 hq9 => ?_, List.forall_mem_cons.mpr ⟨?_, fun _ h => absurd h List.not_mem_nil⟩, fun _ h => absurd h List.not_mem_nil⟩
  · exact nomatch (show (none : Option (Nat × q9AV × q9AV × q9ET)) = some p9 from hq9)
  · exact q9tB (T := T) (N := N) (P := P) (J := J) (t0 := t0) (Sc := Sc) (q9evS u0) (q9evS u1) (q9evS u2) (by rw [q9xl_fd, e])
theorem q9ru_fdb (hT : ∀ i, 0 ≤ T i ∧ T i ≤ 255) (hN : 0 ≤ N ∧ N ≤ 400) (hSc : 0 ≤ Sc 1 ∧ Sc 1 ≤ 400 → N = Sc 1) : q9ruOK (fO T N P J t0 Sc) q9R_fdb := by
  intro w w0 hA hX hL hV hR
  obtain ⟨x0, ae0, -, -⟩ := hA 0 1 rfl
  obtain ⟨x1, ae1, -, -⟩ := hA 1 1 rfl
  obtain ⟨x2, ae2, -, -⟩ := hA 2 1 rfl
  obtain ⟨x3, ae3, -, -⟩ := hA 3 1 rfl
  obtain ⟨x4, ae4, -, -⟩ := hA 4 0 rfl
  obtain ⟨x5, ae5, -, -⟩ := hA 5 1 rfl
  obtain ⟨x6, ae6, -, -⟩ := hA 6 0 rfl
  have kz : (0 : Int32).toInt = 0 := rfl
  have km1 : (Int32.ofInt (-1)).toInt = (-1) := q9oI_toInt (by decide)
  obtain ⟨y0, ye0, R0, S0⟩ := hR _ (List.mem_of_getElem? (i := 0) rfl)
  have X0 := q9pB (T := T) (N := N) (P := P) (J := J) (t0 := t0) (Sc := Sc) (q9evS ae0) (q9evS ae1) (q9evS ae2) (hX _ (List.mem_of_getElem? (i := 0) rfl))
  have X1 := q9pB (T := T) (N := N) (P := P) (J := J) (t0 := t0) (Sc := Sc) (q9evS ae0) (q9evS ae1) (q9evS ae3) (hX _ (List.mem_of_getElem? (i := 1) rfl))
  have X2 := q9pB (T := T) (N := N) (P := P) (J := J) (t0 := t0) (Sc := Sc) (q9evS ae3) (q9evZ w0) (q9evS ae4) (hX _ (List.mem_of_getElem? (i := 2) rfl))
  have X3 := q9pB (T := T) (N := N) (P := P) (J := J) (t0 := t0) (Sc := Sc) (q9evS ae2) (q9evS ae1) (q9evS ae5) (hX _ (List.mem_of_getElem? (i := 3) rfl))
  have X4 := q9pB (T := T) (N := N) (P := P) (J := J) (t0 := t0) (Sc := Sc) (q9evS ae5) (q9evS ae0) (q9evS ae6) (hX _ (List.mem_of_getElem? (i := 4) rfl))
  have L0 : x4.toInt ≤ (Int32.ofInt (-1)).toInt + 0 := q9pC (q9evS ae4) (q9evC w0 (-1)) (hL _ (List.mem_of_getElem? (i := 0) rfl))
  have L1 : x6.toInt ≤ (0 : Int32).toInt + 0 := q9pC (q9evS ae6) (q9evZ w0) (hL _ (List.mem_of_getElem? (i := 1) rfl))
  have L2 : (0 : Int32).toInt ≤ x6.toInt + 0 := q9pC (q9evZ w0) (q9evS ae6) (hL _ (List.mem_of_getElem? (i := 2) rfl))
  rw [ae1] at ye0
  cases ye0
  have hy : 1 ≤ x1.toInt := R0
  have q0 : x0 / x1 = x2 := q9lg_div hy X0
  have v1 : x0 ^^^ x1 = x3 := q9lg_in X1
  have sg := q9sg_in X2
  rw [q9lc_val, show (0 : Int64).toInt = 0 from rfl] at sg
  have xo := q9xo_sg hy v1
  have dv := q9dv64 hy q0 rfl
  have h0 : x3.toInt < 0 := by
    by_cases h : x3.toInt < 0
    · exact h
    · exfalso
      by_cases h5 : 0 < x3.toInt
      · rw [if_pos h5] at sg
        omega
      · rw [if_neg h5, if_pos (by omega)] at sg
        omega
  have h1 := xo.mp h0
  have h2 := dv.2.2 h1
  have v3 : x2 * x1 = x5 := q9lg_in X3
  have dw := q9dv64 hy q0 v3
  have cm : x6.toInt = (lg_cmp x5 x0).toInt := congrArg Int32.toInt (show lg_cmp x5 x0 = x6 from Value.int.inj (Option.some.inj X4)).symm
  rw [q9lc_val] at cm
  have h3 := dw.2.2 h1
  have h4 : x5.toInt = x0.toInt := by
    by_cases h : x0.toInt < x5.toInt
    · rw [if_pos h] at cm
      omega
    · omega
  have e := q9fd_eq (x := x0) (q := x2) hy (by omega) (by omega)
  have u_ : q9upN w 8 [] 0 = .int 0 := q9upN_of (by decide) w0
  have u0 : q9upN w 8 [] 1 = .long x0 := q9upN_of (by decide) ae0
  have u1 : q9upN w 8 [] 2 = .long x1 := q9upN_of (by decide) ae1
  have u2 : q9upN w 8 [] 3 = .long x2 := q9upN_of (by decide) ae2
  have u3 : q9upN w 8 [] 4 = .long x3 := q9upN_of (by decide) ae3
  have u4 : q9upN w 8 [] 5 = .int x4 := q9upN_of (by decide) ae4
  have u5 : q9upN w 8 [] 6 = .long x5 := q9upN_of (by decide) ae5
  have u6 : q9upN w 8 [] 7 = .int x6 := q9upN_of (by decide) ae6
  refine ⟨[], fun i9 p9 hq9 => ?_, List.forall_mem_cons.mpr ⟨?_, fun _ h => absurd h List.not_mem_nil⟩, fun _ h => absurd h List.not_mem_nil⟩
  · exact nomatch (show (none : Option (Nat × q9AV × q9AV × q9ET)) = some p9 from hq9)
  · exact q9tB (T := T) (N := N) (P := P) (J := J) (t0 := t0) (Sc := Sc) (q9evS u0) (q9evS u1) (q9evS u2) (by rw [q9xl_fd, e])
theorem q9ru_fdc (hT : ∀ i, 0 ≤ T i ∧ T i ≤ 255) (hN : 0 ≤ N ∧ N ≤ 400) (hSc : 0 ≤ Sc 1 ∧ Sc 1 ≤ 400 → N = Sc 1) : q9ruOK (fO T N P J t0 Sc) q9R_fdc := by
  intro w w0 hA hX hL hV hR
  obtain ⟨x0, ae0, -, -⟩ := hA 0 1 rfl
  obtain ⟨x1, ae1, -, -⟩ := hA 1 1 rfl
  obtain ⟨x2, ae2, -, -⟩ := hA 2 1 rfl
  obtain ⟨x3, ae3, -, -⟩ := hA 3 1 rfl
  obtain ⟨x4, ae4, -, -⟩ := hA 4 0 rfl
  obtain ⟨x5, ae5, -, -⟩ := hA 5 1 rfl
  obtain ⟨x6, ae6, -, -⟩ := hA 6 0 rfl
  obtain ⟨x7, ae7, -, -⟩ := hA 7 1 rfl
  have kz : (0 : Int32).toInt = 0 := rfl
  have km1 : (Int32.ofInt (-1)).toInt = (-1) := q9oI_toInt (by decide)
  have k1 : (Int32.ofInt 1).toInt = 1 := q9oI_toInt (by decide)
  obtain ⟨y0, ye0, R0, S0⟩ := hR _ (List.mem_of_getElem? (i := 0) rfl)
  have X0 := q9pB (T := T) (N := N) (P := P) (J := J) (t0 := t0) (Sc := Sc) (q9evS ae0) (q9evS ae1) (q9evS ae2) (hX _ (List.mem_of_getElem? (i := 0) rfl))
  have X1 := q9pB (T := T) (N := N) (P := P) (J := J) (t0 := t0) (Sc := Sc) (q9evS ae0) (q9evS ae1) (q9evS ae3) (hX _ (List.mem_of_getElem? (i := 1) rfl))
  have X2 := q9pB (T := T) (N := N) (P := P) (J := J) (t0 := t0) (Sc := Sc) (q9evS ae3) (q9evZ w0) (q9evS ae4) (hX _ (List.mem_of_getElem? (i := 2) rfl))
  have X3 := q9pB (T := T) (N := N) (P := P) (J := J) (t0 := t0) (Sc := Sc) (q9evS ae2) (q9evS ae1) (q9evS ae5) (hX _ (List.mem_of_getElem? (i := 3) rfl))
  have X4 := q9pB (T := T) (N := N) (P := P) (J := J) (t0 := t0) (Sc := Sc) (q9evS ae5) (q9evS ae0) (q9evS ae6) (hX _ (List.mem_of_getElem? (i := 4) rfl))
  have X5 := q9pB (T := T) (N := N) (P := P) (J := J) (t0 := t0) (Sc := Sc) (q9evS ae2) (q9evZ w0) (q9evS ae7) (hX _ (List.mem_of_getElem? (i := 5) rfl))
  have L0 : x4.toInt ≤ (Int32.ofInt (-1)).toInt + 0 := q9pC (q9evS ae4) (q9evC w0 (-1)) (hL _ (List.mem_of_getElem? (i := 0) rfl))
  have L1 : (Int32.ofInt 1).toInt ≤ x6.toInt + 0 := q9pC (q9evC w0 1) (q9evS ae6) (hL _ (List.mem_of_getElem? (i := 1) rfl))
  rw [ae1] at ye0
  cases ye0
  have hy : 1 ≤ x1.toInt := R0
  have q0 : x0 / x1 = x2 := q9lg_div hy X0
  have v1 : x0 ^^^ x1 = x3 := q9lg_in X1
  have sg := q9sg_in X2
  rw [q9lc_val, show (0 : Int64).toInt = 0 from rfl] at sg
  have xo := q9xo_sg hy v1
  have dv := q9dv64 hy q0 rfl
  have h0 : x3.toInt < 0 := by
    by_cases h : x3.toInt < 0
    · exact h
    · exfalso
      by_cases h5 : 0 < x3.toInt
      · rw [if_pos h5] at sg
        omega
      · rw [if_neg h5, if_pos (by omega)] at sg
        omega
  have h1 := xo.mp h0
  have h2 := dv.2.2 h1
  have v3 : x2 * x1 = x5 := q9lg_in X3
  have dw := q9dv64 hy q0 v3
  have cm : x6.toInt = (lg_cmp x5 x0).toInt := congrArg Int32.toInt (show lg_cmp x5 x0 = x6 from Value.int.inj (Option.some.inj X4)).symm
  rw [q9lc_val] at cm
  have h3 := dw.2.2 h1
  have h4 : x0.toInt < x5.toInt := by
    by_cases h : x0.toInt < x5.toInt
    · exact h
    · exfalso
      rw [if_neg h] at cm
      split at cm <;> omega
  have d1 : x7 = x2 - 1 := q9d1_in X5
  have b2 := Int64.toInt_lt x2
  have b3 := Int64.le_toInt x2
  have ql : -9223372036854775807 ≤ x2.toInt := by
    by_cases h : 0 ≤ x2.toInt
    · omega
    · have g := Int.mul_le_mul_of_nonpos_left (a := x2.toInt) (b := 1) (c := x1.toInt) hy (by omega)
      have b4 := Int64.le_toInt x0
      have b5 := Int64.toInt_lt x0
      by_cases h6 : 0 ≤ x0.toInt
      · have := dw.2.1 h6
        omega
      · have := dw.2.2 (by omega)
        omega
  have d2 : x7.toInt = x2.toInt - 1 := by
    rw [d1, q9ls64 (by rw [show (1 : Int64).toInt = 1 from rfl]; omega)]
    rfl
  have e3 : (x2.toInt - 1) * x1.toInt = x2.toInt * x1.toInt - x1.toInt := by rw [Int.sub_mul, Int.one_mul]
  have e := q9fd_eq (x := x0) (q := x7) hy (by rw [d2, e3]; omega) (by rw [d2, e3]; omega)
  have u_ : q9upN w 9 [] 0 = .int 0 := q9upN_of (by decide) w0
  have u0 : q9upN w 9 [] 1 = .long x0 := q9upN_of (by decide) ae0
  have u1 : q9upN w 9 [] 2 = .long x1 := q9upN_of (by decide) ae1
  have u2 : q9upN w 9 [] 3 = .long x2 := q9upN_of (by decide) ae2
  have u3 : q9upN w 9 [] 4 = .long x3 := q9upN_of (by decide) ae3
  have u4 : q9upN w 9 [] 5 = .int x4 := q9upN_of (by decide) ae4
  have u5 : q9upN w 9 [] 6 = .long x5 := q9upN_of (by decide) ae5
  have u6 : q9upN w 9 [] 7 = .int x6 := q9upN_of (by decide) ae6
  have u7 : q9upN w 9 [] 8 = .long x7 := q9upN_of (by decide) ae7
  refine ⟨[], fun i9 p9 hq9 => ?_, List.forall_mem_cons.mpr ⟨?_, fun _ h => absurd h List.not_mem_nil⟩, fun _ h => absurd h List.not_mem_nil⟩
  · exact nomatch (show (none : Option (Nat × q9AV × q9AV × q9ET)) = some p9 from hq9)
  · exact q9tB (T := T) (N := N) (P := P) (J := J) (t0 := t0) (Sc := Sc) (q9evS u0) (q9evS u1) (q9evS u7) (by rw [q9xl_fd, e])
theorem q9ru_fdn (hT : ∀ i, 0 ≤ T i ∧ T i ≤ 255) (hN : 0 ≤ N ∧ N ≤ 400) (hSc : 0 ≤ Sc 1 ∧ Sc 1 ≤ 400 → N = Sc 1) : q9ruOK (fO T N P J t0 Sc) q9R_fdn := by
  intro w w0 hA hX hL hV hR
  obtain ⟨x0, ae0, -, -⟩ := hA 0 1 rfl
  obtain ⟨x1, ae1, -, -⟩ := hA 1 1 rfl
  obtain ⟨x2, ae2, -, -⟩ := hA 2 1 rfl
  obtain ⟨x3, ae3, -, -⟩ := hA 3 1 rfl
  obtain ⟨x4, ae4, -, -⟩ := hA 4 0 rfl
  obtain ⟨x5, ae5, -, -⟩ := hA 5 1 rfl
  obtain ⟨x6, ae6, -, -⟩ := hA 6 0 rfl
  obtain ⟨x7, ae7, -, -⟩ := hA 7 1 rfl
  have kz : (0 : Int32).toInt = 0 := rfl
  have km1 : (Int32.ofInt (-1)).toInt = (-1) := q9oI_toInt (by decide)
  obtain ⟨y0, ye0, R0, S0⟩ := hR _ (List.mem_of_getElem? (i := 0) rfl)
  have X0 := q9pB (T := T) (N := N) (P := P) (J := J) (t0 := t0) (Sc := Sc) (q9evS ae0) (q9evS ae1) (q9evS ae2) (hX _ (List.mem_of_getElem? (i := 0) rfl))
  have X1 := q9pB (T := T) (N := N) (P := P) (J := J) (t0 := t0) (Sc := Sc) (q9evS ae0) (q9evS ae1) (q9evS ae3) (hX _ (List.mem_of_getElem? (i := 1) rfl))
  have X2 := q9pB (T := T) (N := N) (P := P) (J := J) (t0 := t0) (Sc := Sc) (q9evS ae3) (q9evZ w0) (q9evS ae4) (hX _ (List.mem_of_getElem? (i := 2) rfl))
  have X3 := q9pB (T := T) (N := N) (P := P) (J := J) (t0 := t0) (Sc := Sc) (q9evS ae2) (q9evS ae1) (q9evS ae5) (hX _ (List.mem_of_getElem? (i := 3) rfl))
  have X4 := q9pB (T := T) (N := N) (P := P) (J := J) (t0 := t0) (Sc := Sc) (q9evS ae5) (q9evS ae0) (q9evS ae6) (hX _ (List.mem_of_getElem? (i := 4) rfl))
  have X5 := q9pB (T := T) (N := N) (P := P) (J := J) (t0 := t0) (Sc := Sc) (q9evS ae2) (q9evZ w0) (q9evS ae7) (hX _ (List.mem_of_getElem? (i := 5) rfl))
  have L0 : x4.toInt ≤ (Int32.ofInt (-1)).toInt + 0 := q9pC (q9evS ae4) (q9evC w0 (-1)) (hL _ (List.mem_of_getElem? (i := 0) rfl))
  have L1 : x6.toInt ≤ (Int32.ofInt (-1)).toInt + 0 := q9pC (q9evS ae6) (q9evC w0 (-1)) (hL _ (List.mem_of_getElem? (i := 1) rfl))
  rw [ae1] at ye0
  cases ye0
  have hy : 1 ≤ x1.toInt := R0
  have q0 : x0 / x1 = x2 := q9lg_div hy X0
  have v1 : x0 ^^^ x1 = x3 := q9lg_in X1
  have sg := q9sg_in X2
  rw [q9lc_val, show (0 : Int64).toInt = 0 from rfl] at sg
  have xo := q9xo_sg hy v1
  have dv := q9dv64 hy q0 rfl
  have h0 : x3.toInt < 0 := by
    by_cases h : x3.toInt < 0
    · exact h
    · exfalso
      by_cases h5 : 0 < x3.toInt
      · rw [if_pos h5] at sg
        omega
      · rw [if_neg h5, if_pos (by omega)] at sg
        omega
  have h1 := xo.mp h0
  have h2 := dv.2.2 h1
  have v3 : x2 * x1 = x5 := q9lg_in X3
  have dw := q9dv64 hy q0 v3
  have cm : x6.toInt = (lg_cmp x5 x0).toInt := congrArg Int32.toInt (show lg_cmp x5 x0 = x6 from Value.int.inj (Option.some.inj X4)).symm
  rw [q9lc_val] at cm
  have h3 := dw.2.2 h1
  have h4 : False := by
    by_cases h : x0.toInt < x5.toInt
    · rw [if_pos h] at cm
      omega
    · rw [if_neg h, if_pos (by omega)] at cm
      omega
  have u_ : q9upN w 9 [] 0 = .int 0 := q9upN_of (by decide) w0
  have u0 : q9upN w 9 [] 1 = .long x0 := q9upN_of (by decide) ae0
  have u1 : q9upN w 9 [] 2 = .long x1 := q9upN_of (by decide) ae1
  have u2 : q9upN w 9 [] 3 = .long x2 := q9upN_of (by decide) ae2
  have u3 : q9upN w 9 [] 4 = .long x3 := q9upN_of (by decide) ae3
  have u4 : q9upN w 9 [] 5 = .int x4 := q9upN_of (by decide) ae4
  have u5 : q9upN w 9 [] 6 = .long x5 := q9upN_of (by decide) ae5
  have u6 : q9upN w 9 [] 7 = .int x6 := q9upN_of (by decide) ae6
  have u7 : q9upN w 9 [] 8 = .long x7 := q9upN_of (by decide) ae7
  refine ⟨[], fun i9 p9 hq9 => ?_, List.forall_mem_cons.mpr ⟨?_, fun _ h => absurd h List.not_mem_nil⟩, fun _ h => absurd h List.not_mem_nil⟩
  · exact nomatch (show (none : Option (Nat × q9AV × q9AV × q9ET)) = some p9 from hq9)
  · exact q9tB (T := T) (N := N) (P := P) (J := J) (t0 := t0) (Sc := Sc) (q9evS u0) (q9evS u1) (q9evS u7) (h4.elim)
theorem q9ru_fra (hT : ∀ i, 0 ≤ T i ∧ T i ≤ 255) (hN : 0 ≤ N ∧ N ≤ 400) (hSc : 0 ≤ Sc 1 ∧ Sc 1 ≤ 400 → N = Sc 1) : q9ruOK (fO T N P J t0 Sc) q9R_fra := by
  intro w w0 hA hX hL hV hR
  obtain ⟨x0, ae0, -, -⟩ := hA 0 1 rfl
  obtain ⟨x1, ae1, -, -⟩ := hA 1 1 rfl
  obtain ⟨x2, ae2, -, -⟩ := hA 2 1 rfl
  obtain ⟨x3, ae3, -, -⟩ := hA 3 1 rfl
  obtain ⟨x4, ae4, -, -⟩ := hA 4 0 rfl
  have kz : (0 : Int32).toInt = 0 := rfl
  obtain ⟨y0, ye0, R0, S0⟩ := hR _ (List.mem_of_getElem? (i := 0) rfl)
  have X0 := q9pB (T := T) (N := N) (P := P) (J := J) (t0 := t0) (Sc := Sc) (q9evS ae0) (q9evS ae1) (q9evS ae2) (hX _ (List.mem_of_getElem? (i := 0) rfl))
  have X1 := q9pB (T := T) (N := N) (P := P) (J := J) (t0 := t0) (Sc := Sc) (q9evS ae2) (q9evS ae1) (q9evS ae3) (hX _ (List.mem_of_getElem? (i := 1) rfl))
  have X2 := q9pB (T := T) (N := N) (P := P) (J := J) (t0 := t0) (Sc := Sc) (q9evS ae3) (q9evS ae0) (q9evS ae4) (hX _ (List.mem_of_getElem? (i := 2) rfl))
  have L0 : x4.toInt ≤ (0 : Int32).toInt + 0 := q9pC (q9evS ae4) (q9evZ w0) (hL _ (List.mem_of_getElem? (i := 0) rfl))
  rw [ae1] at ye0
  cases ye0
  have hy : 1 ≤ x1.toInt := R0
  have q0 : x0 / x1 = x2 := q9lg_div hy X0
  have v1 : x2 * x1 = x3 := q9lg_in X1
  have dw := q9dv64 hy q0 v1
  have cm : x4.toInt = (lg_cmp x3 x0).toInt := congrArg Int32.toInt (show lg_cmp x3 x0 = x4 from Value.int.inj (Option.some.inj X2)).symm
  rw [q9lc_val] at cm
  have h9 : (0 ≤ x0.toInt → x3.toInt ≤ x0.toInt ∧ x0.toInt < x3.toInt + x1.toInt) ∧ (x0.toInt < 0 → x0.toInt ≤ x3.toInt ∧ x3.toInt < x0.toInt + x1.toInt) := dw.2
  have h4 : x3.toInt ≤ x0.toInt := by
    by_cases h : x0.toInt < x3.toInt
    · rw [if_pos h] at cm
      omega
    · omega
  have e := q9fd_eq (x := x0) (q := x2) hy (by omega) (by by_cases h6 : 0 ≤ x0.toInt <;> omega)
  have u_ : q9upN w 6 [] 0 = .int 0 := q9upN_of (by decide) w0
  have u0 : q9upN w 6 [] 1 = .long x0 := q9upN_of (by decide) ae0
  have u1 : q9upN w 6 [] 2 = .long x1 := q9upN_of (by decide) ae1
  have u2 : q9upN w 6 [] 3 = .long x2 := q9upN_of (by decide) ae2
  have u3 : q9upN w 6 [] 4 = .long x3 := q9upN_of (by decide) ae3
  have u4 : q9upN w 6 [] 5 = .int x4 := q9upN_of (by decide) ae4
  refine ⟨[], fun i9 p9 hq9 => ?_, List.forall_mem_cons.mpr ⟨?_, fun _ h => absurd h List.not_mem_nil⟩, fun _ h => absurd h List.not_mem_nil⟩
  · exact nomatch (show (none : Option (Nat × q9AV × q9AV × q9ET)) = some p9 from hq9)
  · exact q9tB (T := T) (N := N) (P := P) (J := J) (t0 := t0) (Sc := Sc) (q9evS u0) (q9evS u1) (q9evS u2) (by rw [q9xl_fd, e])
theorem q9ru_frb (hT : ∀ i, 0 ≤ T i ∧ T i ≤ 255) (hN : 0 ≤ N ∧ N ≤ 400) (hSc : 0 ≤ Sc 1 ∧ Sc 1 ≤ 400 → N = Sc 1) : q9ruOK (fO T N P J t0 Sc) q9R_frb := by
  intro w w0 hA hX hL hV hR
  obtain ⟨x0, ae0, -, -⟩ := hA 0 1 rfl
  obtain ⟨x1, ae1, -, -⟩ := hA 1 1 rfl
  obtain ⟨x2, ae2, -, -⟩ := hA 2 1 rfl
  obtain ⟨x3, ae3, -, -⟩ := hA 3 1 rfl
  obtain ⟨x4, ae4, -, -⟩ := hA 4 0 rfl
  obtain ⟨x5, ae5, -, -⟩ := hA 5 1 rfl
  have kz : (0 : Int32).toInt = 0 := rfl
  have k1 : (Int32.ofInt 1).toInt = 1 := q9oI_toInt (by decide)
  obtain ⟨y0, ye0, R0, S0⟩ := hR _ (List.mem_of_getElem? (i := 0) rfl)
  have X0 := q9pB (T := T) (N := N) (P := P) (J := J) (t0 := t0) (Sc := Sc) (q9evS ae0) (q9evS ae1) (q9evS ae2) (hX _ (List.mem_of_getElem? (i := 0) rfl))
  have X1 := q9pB (T := T) (N := N) (P := P) (J := J) (t0 := t0) (Sc := Sc) (q9evS ae2) (q9evS ae1) (q9evS ae3) (hX _ (List.mem_of_getElem? (i := 1) rfl))
  have X2 := q9pB (T := T) (N := N) (P := P) (J := J) (t0 := t0) (Sc := Sc) (q9evS ae3) (q9evS ae0) (q9evS ae4) (hX _ (List.mem_of_getElem? (i := 2) rfl))
  have L0 : (Int32.ofInt 1).toInt ≤ x4.toInt + 0 := q9pC (q9evC w0 1) (q9evS ae4) (hL _ (List.mem_of_getElem? (i := 0) rfl))
  have X3 := q9pB (T := T) (N := N) (P := P) (J := J) (t0 := t0) (Sc := Sc) (q9evS ae2) (q9evZ w0) (q9evS ae5) (hX _ (List.mem_of_getElem? (i := 3) rfl))
  rw [ae1] at ye0
  cases ye0
  have hy : 1 ≤ x1.toInt := R0
  have q0 : x0 / x1 = x2 := q9lg_div hy X0
  have v1 : x2 * x1 = x3 := q9lg_in X1
  have dw := q9dv64 hy q0 v1
  have cm : x4.toInt = (lg_cmp x3 x0).toInt := congrArg Int32.toInt (show lg_cmp x3 x0 = x4 from Value.int.inj (Option.some.inj X2)).symm
  rw [q9lc_val] at cm
  have h9 : (0 ≤ x0.toInt → x3.toInt ≤ x0.toInt ∧ x0.toInt < x3.toInt + x1.toInt) ∧ (x0.toInt < 0 → x0.toInt ≤ x3.toInt ∧ x3.toInt < x0.toInt + x1.toInt) := dw.2
  have h4 : x0.toInt < x3.toInt := by
    by_cases h : x0.toInt < x3.toInt
    · exact h
    · exfalso
      rw [if_neg h] at cm
      split at cm <;> omega
  have d1 : x5 = x2 - 1 := q9d1_in X3
  have b2 := Int64.toInt_lt x2
  have b3 := Int64.le_toInt x2
  have ql : -9223372036854775807 ≤ x2.toInt := by
    by_cases h : 0 ≤ x2.toInt
    · omega
    · have g := Int.mul_le_mul_of_nonpos_left (a := x2.toInt) (b := 1) (c := x1.toInt) hy (by omega)
      have b4 := Int64.le_toInt x0
      have b5 := Int64.toInt_lt x0
      by_cases h6 : 0 ≤ x0.toInt
      · have := dw.2.1 h6
        omega
      · have := dw.2.2 (by omega)
        omega
  have d2 : x5.toInt = x2.toInt - 1 := by
    rw [d1, q9ls64 (by rw [show (1 : Int64).toInt = 1 from rfl]; omega)]
    rfl
  have e3 : (x2.toInt - 1) * x1.toInt = x2.toInt * x1.toInt - x1.toInt := by rw [Int.sub_mul, Int.one_mul]
  have e := q9fd_eq (x := x0) (q := x5) hy (by rw [d2, e3]; omega) (by rw [d2, e3]; omega)
  have u_ : q9upN w 7 [] 0 = .int 0 := q9upN_of (by decide) w0
  have u0 : q9upN w 7 [] 1 = .long x0 := q9upN_of (by decide) ae0
  have u1 : q9upN w 7 [] 2 = .long x1 := q9upN_of (by decide) ae1
  have u2 : q9upN w 7 [] 3 = .long x2 := q9upN_of (by decide) ae2
  have u3 : q9upN w 7 [] 4 = .long x3 := q9upN_of (by decide) ae3
  have u4 : q9upN w 7 [] 5 = .int x4 := q9upN_of (by decide) ae4
  have u5 : q9upN w 7 [] 6 = .long x5 := q9upN_of (by decide) ae5
  refine ⟨[], fun i9 p9 hq9 => ?_, List.forall_mem_cons.mpr ⟨?_, fun _ h => absurd h List.not_mem_nil⟩, fun _ h => absurd h List.not_mem_nil⟩
  · exact nomatch (show (none : Option (Nat × q9AV × q9AV × q9ET)) = some p9 from hq9)
  · exact q9tB (T := T) (N := N) (P := P) (J := J) (t0 := t0) (Sc := Sc) (q9evS u0) (q9evS u1) (q9evS u5) (by rw [q9xl_fd, e])
theorem q9ru_ec0 (hT : ∀ i, 0 ≤ T i ∧ T i ≤ 255) (hN : 0 ≤ N ∧ N ≤ 400) (hSc : 0 ≤ Sc 1 ∧ Sc 1 ≤ 400 → N = Sc 1) : q9ruOK (fO T N P J t0 Sc) q9R_ec0 := by
  intro w w0 hA hX hL hV hR
  obtain ⟨x0, ae0, -, -⟩ := hA 0 0 rfl
  obtain ⟨x1, ae1, -, -⟩ := hA 1 0 rfl
  obtain ⟨x2, ae2, -, -⟩ := hA 2 0 rfl
  obtain ⟨x3, ae3, -, -⟩ := hA 3 0 rfl
  obtain ⟨x4, ae4, -, -⟩ := hA 4 0 rfl
  obtain ⟨x5, ae5, -, -⟩ := hA 5 1 rfl
  obtain ⟨x6, ae6, -, -⟩ := hA 6 1 rfl
  obtain ⟨x7, ae7, -, -⟩ := hA 7 1 rfl
  obtain ⟨x8, ae8, -, -⟩ := hA 8 1 rfl
  obtain ⟨x9, ae9, -, -⟩ := hA 9 1 rfl
  obtain ⟨x10, ae10, -, -⟩ := hA 10 0 rfl
  have kz : (0 : Int32).toInt = 0 := rfl
  obtain ⟨y0, ye0, R0, S0⟩ := hR _ (List.mem_of_getElem? (i := 0) rfl)
  obtain ⟨y1, ye1, R1, S1⟩ := hR _ (List.mem_of_getElem? (i := 1) rfl)
  obtain ⟨y2, ye2, R2, S2⟩ := hR _ (List.mem_of_getElem? (i := 2) rfl)
  have X0 := q9th_pX (T := T) (N := N) (P := P) (J := J) (t0 := t0) (Sc := Sc) (op := 1440) (q9evS ae1) (q9evS ae2) (q9evS ae3) (hX _ (List.mem_of_getElem? (i := 0) rfl)) (by decide)
  rw [q9FF_1440] at X0
  have H0 := Option.some.inj X0
  try simp only [kz] at H0
  have X1 := q9th_pX (T := T) (N := N) (P := P) (J := J) (t0 := t0) (Sc := Sc) (op := 1440) (q9evS ae3) (q9evZ w0) (q9evS ae4) (hX _ (List.mem_of_getElem? (i := 1) rfl)) (by decide)
  rw [q9FF_1440] at X1
  have H1 := Option.some.inj X1
  try simp only [kz] at H1
  have X2 := q9pB (T := T) (N := N) (P := P) (J := J) (t0 := t0) (Sc := Sc) (q9evS ae1) (q9evS ae1) (q9evS ae5) (hX _ (List.mem_of_getElem? (i := 2) rfl))
  have X3 := q9pB (T := T) (N := N) (P := P) (J := J) (t0 := t0) (Sc := Sc) (q9evS ae2) (q9evS ae2) (q9evS ae6) (hX _ (List.mem_of_getElem? (i := 3) rfl))
  have X4 := q9pB (T := T) (N := N) (P := P) (J := J) (t0 := t0) (Sc := Sc) (q9evS ae0) (q9evS ae0) (q9evS ae7) (hX _ (List.mem_of_getElem? (i := 4) rfl))
  have X5 := q9pB (T := T) (N := N) (P := P) (J := J) (t0 := t0) (Sc := Sc) (q9evS ae7) (q9evS ae5) (q9evS ae8) (hX _ (List.mem_of_getElem? (i := 5) rfl))
  have X6 := q9pB (T := T) (N := N) (P := P) (J := J) (t0 := t0) (Sc := Sc) (q9evS ae8) (q9evS ae6) (q9evS ae9) (hX _ (List.mem_of_getElem? (i := 6) rfl))
  have X7 := q9pB (T := T) (N := N) (P := P) (J := J) (t0 := t0) (Sc := Sc) (q9evS ae9) (q9evS ae9) (q9evS ae10) (hX _ (List.mem_of_getElem? (i := 7) rfl))
  rw [ae0] at ye0
  cases ye0
  rw [ae1] at ye1
  cases ye1
  rw [ae2] at ye2
  cases ye2
  have w0 : -2147483648 ≤ x0.toInt ∧ x0.toInt ≤ 2147483648 := ⟨Int32.le_toInt x0, by have := Int32.toInt_lt x0; omega⟩
  have k0 : 1 ≤ x1.toInt := R1
  have k01 : x1.toInt ≤ 400 := S1
  have m0 : 1 ≤ x2.toInt := R2
  have m01 : x2.toInt ≤ 400 := S2
  have hc : q9easI x0.toInt x4.toInt = q9ezI x0.toInt x1.toInt x2.toInt 0 := by
    rw [← H1, ← H0]
    exact q9cd_dec (by omega) (by omega) (by omega)
  have i5 : x5.toInt = x1.toInt := by
    rw [← (q9lg_in X2 : x1.toInt64 = x5)]
    exact Int32.toInt_toInt64 x1
  have i6 : x6.toInt = x2.toInt := by
    rw [← (q9lg_in X3 : x2.toInt64 = x6)]
    exact Int32.toInt_toInt64 x2
  have i7 : x7.toInt = x0.toInt := by
    rw [← (q9lg_in X4 : x0.toInt64 = x7)]
    exact Int32.toInt_toInt64 x0
  have b1 := q9mul_bd (Z := 400) w0 (show -400 ≤ x1.toInt ∧ x1.toInt ≤ 400 by omega)
  have v5 : x7 * x5 = x8 := q9lg_in X5
  have u89 : x8.toInt = x0.toInt * x1.toInt := by
    rw [← v5, q9lm64 (by rw [i7, i5]; omega)]
    rw [i7, i5]
  have l9 : x9.toInt32 = x10 := Value.int.inj (Option.some.inj X7)
  have f9 := q9fd_val (q9fd_in X6) u89 i6
  have u_ : q9upN w 12 [] 0 = .int 0 := q9upN_of (by decide) w0
  have u0 : q9upN w 12 [] 1 = .int x0 := q9upN_of (by decide) ae0
  have u1 : q9upN w 12 [] 2 = .int x1 := q9upN_of (by decide) ae1
  have u2 : q9upN w 12 [] 3 = .int x2 := q9upN_of (by decide) ae2
  have u3 : q9upN w 12 [] 4 = .int x3 := q9upN_of (by decide) ae3
  have u4 : q9upN w 12 [] 5 = .int x4 := q9upN_of (by decide) ae4
  have u5 : q9upN w 12 [] 6 = .long x5 := q9upN_of (by decide) ae5
  have u6 : q9upN w 12 [] 7 = .long x6 := q9upN_of (by decide) ae6
  have u7 : q9upN w 12 [] 8 = .long x7 := q9upN_of (by decide) ae7
  have u8 : q9upN w 12 [] 9 = .long x8 := q9upN_of (by decide) ae8
  have u9 : q9upN w 12 [] 10 = .long x9 := q9upN_of (by decide) ae9
  have u10 : q9upN w 12 [] 11 = .int x10 := q9upN_of (by decide) ae10
  refine ⟨[], fun i9 p9 hq9 => ?_, List.forall_mem_cons.mpr ⟨?_, fun _ h => absurd h List.not_mem_nil⟩, fun _ h => absurd h List.not_mem_nil⟩
  · exact nomatch (show (none : Option (Nat × q9AV × q9AV × q9ET)) = some p9 from hq9)
  · exact q9th_tX (T := T) (N := N) (P := P) (J := J) (t0 := t0) (Sc := Sc) (q9evS u0) (q9evS u4) (q9evS u10) (by rw [q9FF_1441]; exact (by rw [hc, q9ez_0, ← f9, l9])) (by decide)
theorem q9ru_er0 (hT : ∀ i, 0 ≤ T i ∧ T i ≤ 255) (hN : 0 ≤ N ∧ N ≤ 400) (hSc : 0 ≤ Sc 1 ∧ Sc 1 ≤ 400 → N = Sc 1) : q9ruOK (fO T N P J t0 Sc) q9R_er0 := by
  intro w w0 hA hX hL hV hR
  obtain ⟨x0, ae0, -, -⟩ := hA 0 0 rfl
  obtain ⟨x1, ae1, -, -⟩ := hA 1 0 rfl
  obtain ⟨x2, ae2, -, -⟩ := hA 2 0 rfl
  obtain ⟨x3, ae3, -, -⟩ := hA 3 0 rfl
  obtain ⟨x4, ae4, -, -⟩ := hA 4 0 rfl
  obtain ⟨x5, ae5, -, -⟩ := hA 5 1 rfl
  obtain ⟨x6, ae6, -, -⟩ := hA 6 1 rfl
  obtain ⟨x7, ae7, -, -⟩ := hA 7 1 rfl
  obtain ⟨x8, ae8, -, -⟩ := hA 8 1 rfl
  obtain ⟨x9, ae9, -, -⟩ := hA 9 1 rfl
  obtain ⟨x10, ae10, -, -⟩ := hA 10 1 rfl
  obtain ⟨x11, ae11, -, -⟩ := hA 11 1 rfl
  obtain ⟨x12, ae12, -, -⟩ := hA 12 0 rfl
  have kz : (0 : Int32).toInt = 0 := rfl
  obtain ⟨y0, ye0, R0, S0⟩ := hR _ (List.mem_of_getElem? (i := 0) rfl)
  obtain ⟨y1, ye1, R1, S1⟩ := hR _ (List.mem_of_getElem? (i := 1) rfl)
  obtain ⟨y2, ye2, R2, S2⟩ := hR _ (List.mem_of_getElem? (i := 2) rfl)
  have X0 := q9th_pX (T := T) (N := N) (P := P) (J := J) (t0 := t0) (Sc := Sc) (op := 1440) (q9evS ae1) (q9evS ae2) (q9evS ae3) (hX _ (List.mem_of_getElem? (i := 0) rfl)) (by decide)
  rw [q9FF_1440] at X0
  have H0 := Option.some.inj X0
  try simp only [kz] at H0
  have X1 := q9th_pX (T := T) (N := N) (P := P) (J := J) (t0 := t0) (Sc := Sc) (op := 1440) (q9evS ae3) (q9evZ w0) (q9evS ae4) (hX _ (List.mem_of_getElem? (i := 1) rfl)) (by decide)
  rw [q9FF_1440] at X1
  have H1 := Option.some.inj X1
  try simp only [kz] at H1
  have X2 := q9pB (T := T) (N := N) (P := P) (J := J) (t0 := t0) (Sc := Sc) (q9evS ae1) (q9evS ae1) (q9evS ae5) (hX _ (List.mem_of_getElem? (i := 2) rfl))
  have X3 := q9pB (T := T) (N := N) (P := P) (J := J) (t0 := t0) (Sc := Sc) (q9evS ae2) (q9evS ae2) (q9evS ae6) (hX _ (List.mem_of_getElem? (i := 3) rfl))
  have X4 := q9pB (T := T) (N := N) (P := P) (J := J) (t0 := t0) (Sc := Sc) (q9evS ae0) (q9evS ae0) (q9evS ae7) (hX _ (List.mem_of_getElem? (i := 4) rfl))
  have X5 := q9pB (T := T) (N := N) (P := P) (J := J) (t0 := t0) (Sc := Sc) (q9evS ae6) (q9evS ae6) (q9evS ae8) (hX _ (List.mem_of_getElem? (i := 5) rfl))
  have X6 := q9pB (T := T) (N := N) (P := P) (J := J) (t0 := t0) (Sc := Sc) (q9evS ae5) (q9evS ae6) (q9evS ae9) (hX _ (List.mem_of_getElem? (i := 6) rfl))
  have X7 := q9pB (T := T) (N := N) (P := P) (J := J) (t0 := t0) (Sc := Sc) (q9evS ae7) (q9evS ae9) (q9evS ae10) (hX _ (List.mem_of_getElem? (i := 7) rfl))
  have X8 := q9pB (T := T) (N := N) (P := P) (J := J) (t0 := t0) (Sc := Sc) (q9evS ae10) (q9evS ae8) (q9evS ae11) (hX _ (List.mem_of_getElem? (i := 8) rfl))
  have X9 := q9pB (T := T) (N := N) (P := P) (J := J) (t0 := t0) (Sc := Sc) (q9evS ae11) (q9evS ae11) (q9evS ae12) (hX _ (List.mem_of_getElem? (i := 9) rfl))
  rw [ae0] at ye0
  cases ye0
  rw [ae1] at ye1
  cases ye1
  rw [ae2] at ye2
  cases ye2
  have w0 : -2147483648 ≤ x0.toInt ∧ x0.toInt ≤ 2147483648 := ⟨Int32.le_toInt x0, by have := Int32.toInt_lt x0; omega⟩
  have k0 : 1 ≤ x1.toInt := R1
  have k01 : x1.toInt ≤ 400 := S1
  have m0 : 1 ≤ x2.toInt := R2
  have m01 : x2.toInt ≤ 400 := S2
  have hc : q9easI x0.toInt x4.toInt = q9ezI x0.toInt x1.toInt x2.toInt 0 := by
    rw [← H1, ← H0]
    exact q9cd_dec (by omega) (by omega) (by omega)
  have i5 : x5.toInt = x1.toInt := by
    rw [← (q9lg_in X2 : x1.toInt64 = x5)]
    exact Int32.toInt_toInt64 x1
  have i6 : x6.toInt = x2.toInt := by
    rw [← (q9lg_in X3 : x2.toInt64 = x6)]
    exact Int32.toInt_toInt64 x2
  have i7 : x7.toInt = x0.toInt := by
    rw [← (q9lg_in X4 : x0.toInt64 = x7)]
    exact Int32.toInt_toInt64 x0
  have mm := q9mul_pb (A := 400) (B := 400) (show 0 ≤ x2.toInt ∧ x2.toInt ≤ 400 by omega) (show 0 ≤ x2.toInt ∧ x2.toInt ≤ 400 by omega)
  have km := q9mul_pb (A := 400) (B := 400) (show 0 ≤ x1.toInt ∧ x1.toInt ≤ 400 by omega) (show 0 ≤ x2.toInt ∧ x2.toInt ≤ 400 by omega)
  have kk9 := q9mul_pb (A := 400) (B := 400) (show 0 ≤ x1.toInt ∧ x1.toInt ≤ 400 by omega) (show 0 ≤ x1.toInt ∧ x1.toInt ≤ 400 by omega)
  have mk9 := q9mul_pb (A := 800) (B := 400) (show 0 ≤ 2 * x2.toInt ∧ 2 * x2.toInt ≤ 800 by omega) (show 0 ≤ x1.toInt ∧ x1.toInt ≤ 400 by omega)
  have k29 := q9mul_pb (A := 800) (B := 400) (show 0 ≤ 2 * x1.toInt ∧ 2 * x1.toInt ≤ 800 by omega) (show 0 ≤ x1.toInt ∧ x1.toInt ≤ 400 by omega)
  have wb := q9mul_bd (Z := 160000) w0 (show -160000 ≤ x1.toInt * x2.toInt ∧ x1.toInt * x2.toInt ≤ 160000 by omega)
  have v5 : x6 * x6 = x8 := q9lg_in X5
  have u89 : x8.toInt = x2.toInt * x2.toInt := by
    rw [← v5, q9lm64 (by rw [i6]; omega)]
    rw [i6]
  have v6 : x5 * x6 = x9 := q9lg_in X6
  have u99 : x9.toInt = x1.toInt * x2.toInt := by
    rw [← v6, q9lm64 (by rw [i5, i6]; omega)]
    rw [i5, i6]
  have v7 : x7 * x9 = x10 := q9lg_in X7
  have u109 : x10.toInt = x0.toInt * (x1.toInt * x2.toInt) := by
    rw [← v7, q9lm64 (by rw [i7, u99]; omega)]
    rw [i7, u99]
  have l9 : x11.toInt32 = x12 := Value.int.inj (Option.some.inj X9)
  have f9 := (q9fd_val (q9fd_in X8) u109 u89).trans (congrArg Int64.ofInt (q9fd_can m0))
  have u_ : q9upN w 14 [] 0 = .int 0 := q9upN_of (by decide) w0
  have u0 : q9upN w 14 [] 1 = .int x0 := q9upN_of (by decide) ae0
  have u1 : q9upN w 14 [] 2 = .int x1 := q9upN_of (by decide) ae1
  have u2 : q9upN w 14 [] 3 = .int x2 := q9upN_of (by decide) ae2
  have u3 : q9upN w 14 [] 4 = .int x3 := q9upN_of (by decide) ae3
  have u4 : q9upN w 14 [] 5 = .int x4 := q9upN_of (by decide) ae4
  have u5 : q9upN w 14 [] 6 = .long x5 := q9upN_of (by decide) ae5
  have u6 : q9upN w 14 [] 7 = .long x6 := q9upN_of (by decide) ae6
  have u7 : q9upN w 14 [] 8 = .long x7 := q9upN_of (by decide) ae7
  have u8 : q9upN w 14 [] 9 = .long x8 := q9upN_of (by decide) ae8
  have u9 : q9upN w 14 [] 10 = .long x9 := q9upN_of (by decide) ae9
  have u10 : q9upN w 14 [] 11 = .long x10 := q9upN_of (by decide) ae10
  have u11 : q9upN w 14 [] 12 = .long x11 := q9upN_of (by decide) ae11
  have u12 : q9upN w 14 [] 13 = .int x12 := q9upN_of (by decide) ae12
  refine ⟨[], fun i9 p9 hq9 => ?_, List.forall_mem_cons.mpr ⟨?_, fun _ h => absurd h List.not_mem_nil⟩, fun _ h => absurd h List.not_mem_nil⟩
  · exact nomatch (show (none : Option (Nat × q9AV × q9AV × q9ET)) = some p9 from hq9)
  · exact q9th_tX (T := T) (N := N) (P := P) (J := J) (t0 := t0) (Sc := Sc) (q9evS u0) (q9evS u4) (q9evS u12) (by rw [q9FF_1441]; exact (by rw [hc, q9ez_0, ← f9, l9])) (by decide)
theorem q9ru_e1 (hT : ∀ i, 0 ≤ T i ∧ T i ≤ 255) (hN : 0 ≤ N ∧ N ≤ 400) (hSc : 0 ≤ Sc 1 ∧ Sc 1 ≤ 400 → N = Sc 1) : q9ruOK (fO T N P J t0 Sc) q9R_e1 := by
  intro w w0 hA hX hL hV hR
  obtain ⟨x0, ae0, -, -⟩ := hA 0 0 rfl
  obtain ⟨x1, ae1, -, -⟩ := hA 1 0 rfl
  obtain ⟨x2, ae2, -, -⟩ := hA 2 0 rfl
  obtain ⟨x3, ae3, -, -⟩ := hA 3 0 rfl
  obtain ⟨x4, ae4, -, -⟩ := hA 4 0 rfl
  obtain ⟨x5, ae5, -, -⟩ := hA 5 1 rfl
  obtain ⟨x6, ae6, -, -⟩ := hA 6 1 rfl
  obtain ⟨x7, ae7, -, -⟩ := hA 7 1 rfl
  obtain ⟨x8, ae8, -, -⟩ := hA 8 1 rfl
  obtain ⟨x9, ae9, -, -⟩ := hA 9 1 rfl
  obtain ⟨x10, ae10, -, -⟩ := hA 10 1 rfl
  obtain ⟨x11, ae11, -, -⟩ := hA 11 1 rfl
  obtain ⟨x12, ae12, -, -⟩ := hA 12 0 rfl
  have kz : (0 : Int32).toInt = 0 := rfl
  have k1 : (Int32.ofInt 1).toInt = 1 := q9oI_toInt (by decide)
  obtain ⟨y0, ye0, R0, S0⟩ := hR _ (List.mem_of_getElem? (i := 0) rfl)
  obtain ⟨y1, ye1, R1, S1⟩ := hR _ (List.mem_of_getElem? (i := 1) rfl)
  obtain ⟨y2, ye2, R2, S2⟩ := hR _ (List.mem_of_getElem? (i := 2) rfl)
  have X0 := q9th_pX (T := T) (N := N) (P := P) (J := J) (t0 := t0) (Sc := Sc) (op := 1440) (q9evS ae1) (q9evS ae2) (q9evS ae3) (hX _ (List.mem_of_getElem? (i := 0) rfl)) (by decide)
  rw [q9FF_1440] at X0
  have H0 := Option.some.inj X0
  try simp only [kz, k1] at H0
  have X1 := q9th_pX (T := T) (N := N) (P := P) (J := J) (t0 := t0) (Sc := Sc) (op := 1440) (q9evS ae3) (q9evC w0 1) (q9evS ae4) (hX _ (List.mem_of_getElem? (i := 1) rfl)) (by decide)
  rw [q9FF_1440] at X1
  have H1 := Option.some.inj X1
  try simp only [kz, k1] at H1
  have X2 := q9pB (T := T) (N := N) (P := P) (J := J) (t0 := t0) (Sc := Sc) (q9evS ae1) (q9evS ae1) (q9evS ae5) (hX _ (List.mem_of_getElem? (i := 2) rfl))
  have X3 := q9pB (T := T) (N := N) (P := P) (J := J) (t0 := t0) (Sc := Sc) (q9evS ae2) (q9evS ae2) (q9evS ae6) (hX _ (List.mem_of_getElem? (i := 3) rfl))
  have X4 := q9pB (T := T) (N := N) (P := P) (J := J) (t0 := t0) (Sc := Sc) (q9evS ae0) (q9evS ae0) (q9evS ae7) (hX _ (List.mem_of_getElem? (i := 4) rfl))
  have X5 := q9pB (T := T) (N := N) (P := P) (J := J) (t0 := t0) (Sc := Sc) (q9evS ae6) (q9evS ae6) (q9evS ae8) (hX _ (List.mem_of_getElem? (i := 5) rfl))
  have X6 := q9pB (T := T) (N := N) (P := P) (J := J) (t0 := t0) (Sc := Sc) (q9evS ae5) (q9evS ae5) (q9evS ae9) (hX _ (List.mem_of_getElem? (i := 6) rfl))
  have X7 := q9pB (T := T) (N := N) (P := P) (J := J) (t0 := t0) (Sc := Sc) (q9evS ae7) (q9evS ae9) (q9evS ae10) (hX _ (List.mem_of_getElem? (i := 7) rfl))
  have X8 := q9pB (T := T) (N := N) (P := P) (J := J) (t0 := t0) (Sc := Sc) (q9evS ae10) (q9evS ae8) (q9evS ae11) (hX _ (List.mem_of_getElem? (i := 8) rfl))
  have X9 := q9pB (T := T) (N := N) (P := P) (J := J) (t0 := t0) (Sc := Sc) (q9evS ae11) (q9evS ae11) (q9evS ae12) (hX _ (List.mem_of_getElem? (i := 9) rfl))
  rw [ae0] at ye0
  cases ye0
  rw [ae1] at ye1
  cases ye1
  rw [ae2] at ye2
  cases ye2
  have w0 : -2147483648 ≤ x0.toInt ∧ x0.toInt ≤ 2147483648 := ⟨Int32.le_toInt x0, by have := Int32.toInt_lt x0; omega⟩
  have k0 : 1 ≤ x1.toInt := R1
  have k01 : x1.toInt ≤ 400 := S1
  have m0 : 1 ≤ x2.toInt := R2
  have m01 : x2.toInt ≤ 400 := S2
  have hc : q9easI x0.toInt x4.toInt = q9ezI x0.toInt x1.toInt x2.toInt 1 := by
    rw [← H1, ← H0]
    exact q9cd_dec (by omega) (by omega) (by omega)
  have i5 : x5.toInt = x1.toInt := by
    rw [← (q9lg_in X2 : x1.toInt64 = x5)]
    exact Int32.toInt_toInt64 x1
  have i6 : x6.toInt = x2.toInt := by
    rw [← (q9lg_in X3 : x2.toInt64 = x6)]
    exact Int32.toInt_toInt64 x2
  have i7 : x7.toInt = x0.toInt := by
    rw [← (q9lg_in X4 : x0.toInt64 = x7)]
    exact Int32.toInt_toInt64 x0
  have mm := q9mul_pb (A := 400) (B := 400) (show 0 ≤ x2.toInt ∧ x2.toInt ≤ 400 by omega) (show 0 ≤ x2.toInt ∧ x2.toInt ≤ 400 by omega)
  have km := q9mul_pb (A := 400) (B := 400) (show 0 ≤ x1.toInt ∧ x1.toInt ≤ 400 by omega) (show 0 ≤ x2.toInt ∧ x2.toInt ≤ 400 by omega)
  have kk9 := q9mul_pb (A := 400) (B := 400) (show 0 ≤ x1.toInt ∧ x1.toInt ≤ 400 by omega) (show 0 ≤ x1.toInt ∧ x1.toInt ≤ 400 by omega)
  have mk9 := q9mul_pb (A := 800) (B := 400) (show 0 ≤ 2 * x2.toInt ∧ 2 * x2.toInt ≤ 800 by omega) (show 0 ≤ x1.toInt ∧ x1.toInt ≤ 400 by omega)
  have k29 := q9mul_pb (A := 800) (B := 400) (show 0 ≤ 2 * x1.toInt ∧ 2 * x1.toInt ≤ 800 by omega) (show 0 ≤ x1.toInt ∧ x1.toInt ≤ 400 by omega)
  have wb := q9mul_bd (Z := 160000) w0 (show -160000 ≤ x1.toInt * x1.toInt ∧ x1.toInt * x1.toInt ≤ 160000 by omega)
  have v5 : x6 * x6 = x8 := q9lg_in X5
  have u89 : x8.toInt = x2.toInt * x2.toInt := by
    rw [← v5, q9lm64 (by rw [i6]; omega)]
    rw [i6]
  have v6 : x5 * x5 = x9 := q9lg_in X6
  have u99 : x9.toInt = x1.toInt * x1.toInt := by
    rw [← v6, q9lm64 (by rw [i5]; omega)]
    rw [i5]
  have v7 : x7 * x9 = x10 := q9lg_in X7
  have u109 : x10.toInt = x0.toInt * (x1.toInt * x1.toInt) := by
    rw [← v7, q9lm64 (by rw [i7, u99]; omega)]
    rw [i7, u99]
  have l9 : x11.toInt32 = x12 := Value.int.inj (Option.some.inj X9)
  have f9 := q9fd_val (q9fd_in X8) u109 u89
  have u_ : q9upN w 14 [] 0 = .int 0 := q9upN_of (by decide) w0
  have u0 : q9upN w 14 [] 1 = .int x0 := q9upN_of (by decide) ae0
  have u1 : q9upN w 14 [] 2 = .int x1 := q9upN_of (by decide) ae1
  have u2 : q9upN w 14 [] 3 = .int x2 := q9upN_of (by decide) ae2
  have u3 : q9upN w 14 [] 4 = .int x3 := q9upN_of (by decide) ae3
  have u4 : q9upN w 14 [] 5 = .int x4 := q9upN_of (by decide) ae4
  have u5 : q9upN w 14 [] 6 = .long x5 := q9upN_of (by decide) ae5
  have u6 : q9upN w 14 [] 7 = .long x6 := q9upN_of (by decide) ae6
  have u7 : q9upN w 14 [] 8 = .long x7 := q9upN_of (by decide) ae7
  have u8 : q9upN w 14 [] 9 = .long x8 := q9upN_of (by decide) ae8
  have u9 : q9upN w 14 [] 10 = .long x9 := q9upN_of (by decide) ae9
  have u10 : q9upN w 14 [] 11 = .long x10 := q9upN_of (by decide) ae10
  have u11 : q9upN w 14 [] 12 = .long x11 := q9upN_of (by decide) ae11
  have u12 : q9upN w 14 [] 13 = .int x12 := q9upN_of (by decide) ae12
  refine ⟨[], fun i9 p9 hq9 => ?_, List.forall_mem_cons.mpr ⟨?_, fun _ h => absurd h List.not_mem_nil⟩, fun _ h => absurd h List.not_mem_nil⟩
  · exact nomatch (show (none : Option (Nat × q9AV × q9AV × q9ET)) = some p9 from hq9)
  · exact q9th_tX (T := T) (N := N) (P := P) (J := J) (t0 := t0) (Sc := Sc) (q9evS u0) (q9evS u4) (q9evS u12) (by rw [q9FF_1441]; exact (by rw [hc, q9ez_1, ← f9, l9])) (by decide)
theorem q9ru_e2 (hT : ∀ i, 0 ≤ T i ∧ T i ≤ 255) (hN : 0 ≤ N ∧ N ≤ 400) (hSc : 0 ≤ Sc 1 ∧ Sc 1 ≤ 400 → N = Sc 1) : q9ruOK (fO T N P J t0 Sc) q9R_e2 := by
  intro w w0 hA hX hL hV hR
  obtain ⟨x0, ae0, -, -⟩ := hA 0 0 rfl
  obtain ⟨x1, ae1, -, -⟩ := hA 1 0 rfl
  obtain ⟨x2, ae2, -, -⟩ := hA 2 0 rfl
  obtain ⟨x3, ae3, -, -⟩ := hA 3 0 rfl
  obtain ⟨x4, ae4, -, -⟩ := hA 4 0 rfl
  obtain ⟨x5, ae5, -, -⟩ := hA 5 1 rfl
  obtain ⟨x6, ae6, -, -⟩ := hA 6 1 rfl
  obtain ⟨x7, ae7, -, -⟩ := hA 7 1 rfl
  obtain ⟨x8, ae8, -, -⟩ := hA 8 1 rfl
  obtain ⟨x9, ae9, -, -⟩ := hA 9 1 rfl
  obtain ⟨x10, ae10, -, -⟩ := hA 10 1 rfl
  obtain ⟨x11, ae11, -, -⟩ := hA 11 1 rfl
  obtain ⟨x12, ae12, -, -⟩ := hA 12 1 rfl
  obtain ⟨x13, ae13, -, -⟩ := hA 13 1 rfl
  obtain ⟨x14, ae14, -, -⟩ := hA 14 1 rfl
  obtain ⟨x15, ae15, -, -⟩ := hA 15 0 rfl
  have kz : (0 : Int32).toInt = 0 := rfl
  have k2 : (Int32.ofInt 2).toInt = 2 := q9oI_toInt (by decide)
  obtain ⟨y0, ye0, R0, S0⟩ := hR _ (List.mem_of_getElem? (i := 0) rfl)
  obtain ⟨y1, ye1, R1, S1⟩ := hR _ (List.mem_of_getElem? (i := 1) rfl)
  obtain ⟨y2, ye2, R2, S2⟩ := hR _ (List.mem_of_getElem? (i := 2) rfl)
  have X0 := q9th_pX (T := T) (N := N) (P := P) (J := J) (t0 := t0) (Sc := Sc) (op := 1440) (q9evS ae1) (q9evS ae2) (q9evS ae3) (hX _ (List.mem_of_getElem? (i := 0) rfl)) (by decide)
  rw [q9FF_1440] at X0
  have H0 := Option.some.inj X0
  try simp only [kz, k2] at H0
  have X1 := q9th_pX (T := T) (N := N) (P := P) (J := J) (t0 := t0) (Sc := Sc) (op := 1440) (q9evS ae3) (q9evC w0 2) (q9evS ae4) (hX _ (List.mem_of_getElem? (i := 1) rfl)) (by decide)
  rw [q9FF_1440] at X1
  have H1 := Option.some.inj X1
  try simp only [kz, k2] at H1
  have X2 := q9pB (T := T) (N := N) (P := P) (J := J) (t0 := t0) (Sc := Sc) (q9evS ae1) (q9evS ae1) (q9evS ae5) (hX _ (List.mem_of_getElem? (i := 2) rfl))
  have X3 := q9pB (T := T) (N := N) (P := P) (J := J) (t0 := t0) (Sc := Sc) (q9evS ae2) (q9evS ae2) (q9evS ae6) (hX _ (List.mem_of_getElem? (i := 3) rfl))
  have X4 := q9pB (T := T) (N := N) (P := P) (J := J) (t0 := t0) (Sc := Sc) (q9evS ae0) (q9evS ae0) (q9evS ae7) (hX _ (List.mem_of_getElem? (i := 4) rfl))
  have X5 := q9pB (T := T) (N := N) (P := P) (J := J) (t0 := t0) (Sc := Sc) (q9evS ae6) (q9evS ae6) (q9evS ae8) (hX _ (List.mem_of_getElem? (i := 5) rfl))
  have X6 := q9pB (T := T) (N := N) (P := P) (J := J) (t0 := t0) (Sc := Sc) (q9evS ae6) (q9evZ w0) (q9evS ae9) (hX _ (List.mem_of_getElem? (i := 6) rfl))
  have X7 := q9pB (T := T) (N := N) (P := P) (J := J) (t0 := t0) (Sc := Sc) (q9evS ae9) (q9evS ae5) (q9evS ae10) (hX _ (List.mem_of_getElem? (i := 7) rfl))
  have X8 := q9pB (T := T) (N := N) (P := P) (J := J) (t0 := t0) (Sc := Sc) (q9evS ae5) (q9evS ae5) (q9evS ae11) (hX _ (List.mem_of_getElem? (i := 8) rfl))
  have X9 := q9pB (T := T) (N := N) (P := P) (J := J) (t0 := t0) (Sc := Sc) (q9evS ae10) (q9evS ae11) (q9evS ae12) (hX _ (List.mem_of_getElem? (i := 9) rfl))
  have X10 := q9pB (T := T) (N := N) (P := P) (J := J) (t0 := t0) (Sc := Sc) (q9evS ae7) (q9evS ae12) (q9evS ae13) (hX _ (List.mem_of_getElem? (i := 10) rfl))
  have X11 := q9pB (T := T) (N := N) (P := P) (J := J) (t0 := t0) (Sc := Sc) (q9evS ae13) (q9evS ae8) (q9evS ae14) (hX _ (List.mem_of_getElem? (i := 11) rfl))
  have X12 := q9pB (T := T) (N := N) (P := P) (J := J) (t0 := t0) (Sc := Sc) (q9evS ae14) (q9evS ae14) (q9evS ae15) (hX _ (List.mem_of_getElem? (i := 12) rfl))
  rw [ae0] at ye0
  cases ye0
  rw [ae1] at ye1
  cases ye1
  rw [ae2] at ye2
  cases ye2
  have w0 : -2147483648 ≤ x0.toInt ∧ x0.toInt ≤ 2147483648 := ⟨Int32.le_toInt x0, by have := Int32.toInt_lt x0; omega⟩
  have k0 : 1 ≤ x1.toInt := R1
  have k01 : x1.toInt ≤ 400 := S1
  have m0 : 1 ≤ x2.toInt := R2
  have m01 : x2.toInt ≤ 400 := S2
  have hc : q9easI x0.toInt x4.toInt = q9ezI x0.toInt x1.toInt x2.toInt 2 := by
    rw [← H1, ← H0]
    exact q9cd_dec (by omega) (by omega) (by omega)
  have i5 : x5.toInt = x1.toInt := by
    rw [← (q9lg_in X2 : x1.toInt64 = x5)]
    exact Int32.toInt_toInt64 x1
  have i6 : x6.toInt = x2.toInt := by
    rw [← (q9lg_in X3 : x2.toInt64 = x6)]
    exact Int32.toInt_toInt64 x2
  have i7 : x7.toInt = x0.toInt := by
    rw [← (q9lg_in X4 : x0.toInt64 = x7)]
    exact Int32.toInt_toInt64 x0
  have mm := q9mul_pb (A := 400) (B := 400) (show 0 ≤ x2.toInt ∧ x2.toInt ≤ 400 by omega) (show 0 ≤ x2.toInt ∧ x2.toInt ≤ 400 by omega)
  have km := q9mul_pb (A := 400) (B := 400) (show 0 ≤ x1.toInt ∧ x1.toInt ≤ 400 by omega) (show 0 ≤ x2.toInt ∧ x2.toInt ≤ 400 by omega)
  have kk9 := q9mul_pb (A := 400) (B := 400) (show 0 ≤ x1.toInt ∧ x1.toInt ≤ 400 by omega) (show 0 ≤ x1.toInt ∧ x1.toInt ≤ 400 by omega)
  have mk9 := q9mul_pb (A := 800) (B := 400) (show 0 ≤ 2 * x2.toInt ∧ 2 * x2.toInt ≤ 800 by omega) (show 0 ≤ x1.toInt ∧ x1.toInt ≤ 400 by omega)
  have k29 := q9mul_pb (A := 800) (B := 400) (show 0 ≤ 2 * x1.toInt ∧ 2 * x1.toInt ≤ 800 by omega) (show 0 ≤ x1.toInt ∧ x1.toInt ≤ 400 by omega)
  have wb := q9mul_bd (Z := 480000) w0 (show -480000 ≤ 2 * x2.toInt * x1.toInt - x1.toInt * x1.toInt ∧ 2 * x2.toInt * x1.toInt - x1.toInt * x1.toInt ≤ 480000 by omega)
  have v5 : x6 * x6 = x8 := q9lg_in X5
  have u89 : x8.toInt = x2.toInt * x2.toInt := by
    rw [← v5, q9lm64 (by rw [i6]; omega)]
    rw [i6]
  have u99 : x9.toInt = 2 * x2.toInt := by
    rw [q9d2_in X6, q9lm64 (by rw [show (2 : Int64).toInt = 2 from rfl, i6]; omega), i6]
    rfl
  have v7 : x9 * x5 = x10 := q9lg_in X7
  have u109 : x10.toInt = 2 * x2.toInt * x1.toInt := by
    rw [← v7, q9lm64 (by rw [u99, i5]; omega)]
    rw [u99, i5]
  have v8 : x5 * x5 = x11 := q9lg_in X8
  have u119 : x11.toInt = x1.toInt * x1.toInt := by
    rw [← v8, q9lm64 (by rw [i5]; omega)]
    rw [i5]
  have v9 : x10 - x11 = x12 := q9lg_in X9
  have u129 : x12.toInt = 2 * x2.toInt * x1.toInt - x1.toInt * x1.toInt := by
    rw [← v9, q9ls64 (by rw [u109, u119]; omega)]
    rw [u109, u119]
  have v10 : x7 * x12 = x13 := q9lg_in X10
  have u139 : x13.toInt = x0.toInt * (2 * x2.toInt * x1.toInt - x1.toInt * x1.toInt) := by
    rw [← v10, q9lm64 (by rw [i7, u129]; omega)]
    rw [i7, u129]
  have l9 : x14.toInt32 = x15 := Value.int.inj (Option.some.inj X12)
  have f9 := q9fd_val (q9fd_in X11) u139 u89
  have u_ : q9upN w 17 [] 0 = .int 0 := q9upN_of (by decide) w0
  have u0 : q9upN w 17 [] 1 = .int x0 := q9upN_of (by decide) ae0
  have u1 : q9upN w 17 [] 2 = .int x1 := q9upN_of (by decide) ae1
  have u2 : q9upN w 17 [] 3 = .int x2 := q9upN_of (by decide) ae2
  have u3 : q9upN w 17 [] 4 = .int x3 := q9upN_of (by decide) ae3
  have u4 : q9upN w 17 [] 5 = .int x4 := q9upN_of (by decide) ae4
  have u5 : q9upN w 17 [] 6 = .long x5 := q9upN_of (by decide) ae5
  have u6 : q9upN w 17 [] 7 = .long x6 := q9upN_of (by decide) ae6
  have u7 : q9upN w 17 [] 8 = .long x7 := q9upN_of (by decide) ae7
  have u8 : q9upN w 17 [] 9 = .long x8 := q9upN_of (by decide) ae8
  have u9 : q9upN w 17 [] 10 = .long x9 := q9upN_of (by decide) ae9
  have u10 : q9upN w 17 [] 11 = .long x10 := q9upN_of (by decide) ae10
  have u11 : q9upN w 17 [] 12 = .long x11 := q9upN_of (by decide) ae11
  have u12 : q9upN w 17 [] 13 = .long x12 := q9upN_of (by decide) ae12
  have u13 : q9upN w 17 [] 14 = .long x13 := q9upN_of (by decide) ae13
  have u14 : q9upN w 17 [] 15 = .long x14 := q9upN_of (by decide) ae14
  have u15 : q9upN w 17 [] 16 = .int x15 := q9upN_of (by decide) ae15
  refine ⟨[], fun i9 p9 hq9 => ?_, List.forall_mem_cons.mpr ⟨?_, fun _ h => absurd h List.not_mem_nil⟩, fun _ h => absurd h List.not_mem_nil⟩
  · exact nomatch (show (none : Option (Nat × q9AV × q9AV × q9ET)) = some p9 from hq9)
  · exact q9th_tX (T := T) (N := N) (P := P) (J := J) (t0 := t0) (Sc := Sc) (q9evS u0) (q9evS u4) (q9evS u15) (by rw [q9FF_1441]; exact (by rw [hc, q9ez_2, ← f9, l9])) (by decide)
theorem q9ru_e3a (hT : ∀ i, 0 ≤ T i ∧ T i ≤ 255) (hN : 0 ≤ N ∧ N ≤ 400) (hSc : 0 ≤ Sc 1 ∧ Sc 1 ≤ 400 → N = Sc 1) : q9ruOK (fO T N P J t0 Sc) q9R_e3a := by
  intro w w0 hA hX hL hV hR
  obtain ⟨x0, ae0, -, -⟩ := hA 0 0 rfl
  obtain ⟨x1, ae1, -, -⟩ := hA 1 0 rfl
  obtain ⟨x2, ae2, -, -⟩ := hA 2 0 rfl
  obtain ⟨x3, ae3, -, -⟩ := hA 3 0 rfl
  obtain ⟨x4, ae4, -, -⟩ := hA 4 0 rfl
  obtain ⟨x5, ae5, -, -⟩ := hA 5 1 rfl
  obtain ⟨x6, ae6, -, -⟩ := hA 6 1 rfl
  obtain ⟨x7, ae7, -, -⟩ := hA 7 1 rfl
  obtain ⟨x8, ae8, -, -⟩ := hA 8 1 rfl
  obtain ⟨x9, ae9, -, -⟩ := hA 9 0 rfl
  obtain ⟨x10, ae10, -, -⟩ := hA 10 1 rfl
  obtain ⟨x11, ae11, -, -⟩ := hA 11 1 rfl
  obtain ⟨x12, ae12, -, -⟩ := hA 12 1 rfl
  obtain ⟨x13, ae13, -, -⟩ := hA 13 1 rfl
  obtain ⟨x14, ae14, -, -⟩ := hA 14 0 rfl
  have kz : (0 : Int32).toInt = 0 := rfl
  have k2 : (Int32.ofInt 2).toInt = 2 := q9oI_toInt (by decide)
  have k3 : (Int32.ofInt 3).toInt = 3 := q9oI_toInt (by decide)
  obtain ⟨y0, ye0, R0, S0⟩ := hR _ (List.mem_of_getElem? (i := 0) rfl)
  obtain ⟨y1, ye1, R1, S1⟩ := hR _ (List.mem_of_getElem? (i := 1) rfl)
  obtain ⟨y2, ye2, R2, S2⟩ := hR _ (List.mem_of_getElem? (i := 2) rfl)
  have X0 := q9th_pX (T := T) (N := N) (P := P) (J := J) (t0 := t0) (Sc := Sc) (op := 1440) (q9evS ae1) (q9evS ae2) (q9evS ae3) (hX _ (List.mem_of_getElem? (i := 0) rfl)) (by decide)
  rw [q9FF_1440] at X0
  have H0 := Option.some.inj X0
  try simp only [kz, k2, k3] at H0
  have X1 := q9th_pX (T := T) (N := N) (P := P) (J := J) (t0 := t0) (Sc := Sc) (op := 1440) (q9evS ae3) (q9evC w0 3) (q9evS ae4) (hX _ (List.mem_of_getElem? (i := 1) rfl)) (by decide)
  rw [q9FF_1440] at X1
  have H1 := Option.some.inj X1
  try simp only [kz, k2, k3] at H1
  have X2 := q9pB (T := T) (N := N) (P := P) (J := J) (t0 := t0) (Sc := Sc) (q9evS ae1) (q9evS ae1) (q9evS ae5) (hX _ (List.mem_of_getElem? (i := 2) rfl))
  have X3 := q9pB (T := T) (N := N) (P := P) (J := J) (t0 := t0) (Sc := Sc) (q9evS ae2) (q9evS ae2) (q9evS ae6) (hX _ (List.mem_of_getElem? (i := 3) rfl))
  have X4 := q9pB (T := T) (N := N) (P := P) (J := J) (t0 := t0) (Sc := Sc) (q9evS ae0) (q9evS ae0) (q9evS ae7) (hX _ (List.mem_of_getElem? (i := 4) rfl))
  have X5 := q9pB (T := T) (N := N) (P := P) (J := J) (t0 := t0) (Sc := Sc) (q9evS ae6) (q9evS ae6) (q9evS ae8) (hX _ (List.mem_of_getElem? (i := 5) rfl))
  have X6 := q9pB (T := T) (N := N) (P := P) (J := J) (t0 := t0) (Sc := Sc) (q9evC w0 2) (q9evS ae1) (q9evS ae9) (hX _ (List.mem_of_getElem? (i := 6) rfl))
  have L0 : x9.toInt ≤ x2.toInt + 0 := q9pC (q9evS ae9) (q9evS ae2) (hL _ (List.mem_of_getElem? (i := 0) rfl))
  have X7 := q9pB (T := T) (N := N) (P := P) (J := J) (t0 := t0) (Sc := Sc) (q9evS ae5) (q9evZ w0) (q9evS ae10) (hX _ (List.mem_of_getElem? (i := 7) rfl))
  have X8 := q9pB (T := T) (N := N) (P := P) (J := J) (t0 := t0) (Sc := Sc) (q9evS ae10) (q9evS ae5) (q9evS ae11) (hX _ (List.mem_of_getElem? (i := 8) rfl))
  have X9 := q9pB (T := T) (N := N) (P := P) (J := J) (t0 := t0) (Sc := Sc) (q9evS ae7) (q9evS ae11) (q9evS ae12) (hX _ (List.mem_of_getElem? (i := 9) rfl))
  have X10 := q9pB (T := T) (N := N) (P := P) (J := J) (t0 := t0) (Sc := Sc) (q9evS ae12) (q9evS ae8) (q9evS ae13) (hX _ (List.mem_of_getElem? (i := 10) rfl))
  have X11 := q9pB (T := T) (N := N) (P := P) (J := J) (t0 := t0) (Sc := Sc) (q9evS ae13) (q9evS ae13) (q9evS ae14) (hX _ (List.mem_of_getElem? (i := 11) rfl))
  rw [ae0] at ye0
  cases ye0
  rw [ae1] at ye1
  cases ye1
  rw [ae2] at ye2
  cases ye2
  have w0 : -2147483648 ≤ x0.toInt ∧ x0.toInt ≤ 2147483648 := ⟨Int32.le_toInt x0, by have := Int32.toInt_lt x0; omega⟩
  have k0 : 1 ≤ x1.toInt := R1
  have k01 : x1.toInt ≤ 400 := S1
  have m0 : 1 ≤ x2.toInt := R2
  have m01 : x2.toInt ≤ 400 := S2
  have hc : q9easI x0.toInt x4.toInt = q9ezI x0.toInt x1.toInt x2.toInt 3 := by
    rw [← H1, ← H0]
    exact q9cd_dec (by omega) (by omega) (by omega)
  have i5 : x5.toInt = x1.toInt := by
    rw [← (q9lg_in X2 : x1.toInt64 = x5)]
    exact Int32.toInt_toInt64 x1
  have i6 : x6.toInt = x2.toInt := by
    rw [← (q9lg_in X3 : x2.toInt64 = x6)]
    exact Int32.toInt_toInt64 x2
  have i7 : x7.toInt = x0.toInt := by
    rw [← (q9lg_in X4 : x0.toInt64 = x7)]
    exact Int32.toInt_toInt64 x0
  have m29 := q9mu32 X6 (by rw [k2]; omega)
  rw [k2] at m29
  have mm := q9mul_pb (A := 400) (B := 400) (show 0 ≤ x2.toInt ∧ x2.toInt ≤ 400 by omega) (show 0 ≤ x2.toInt ∧ x2.toInt ≤ 400 by omega)
  have km := q9mul_pb (A := 400) (B := 400) (show 0 ≤ x1.toInt ∧ x1.toInt ≤ 400 by omega) (show 0 ≤ x2.toInt ∧ x2.toInt ≤ 400 by omega)
  have kk9 := q9mul_pb (A := 400) (B := 400) (show 0 ≤ x1.toInt ∧ x1.toInt ≤ 400 by omega) (show 0 ≤ x1.toInt ∧ x1.toInt ≤ 400 by omega)
  have mk9 := q9mul_pb (A := 800) (B := 400) (show 0 ≤ 2 * x2.toInt ∧ 2 * x2.toInt ≤ 800 by omega) (show 0 ≤ x1.toInt ∧ x1.toInt ≤ 400 by omega)
  have k29 := q9mul_pb (A := 800) (B := 400) (show 0 ≤ 2 * x1.toInt ∧ 2 * x1.toInt ≤ 800 by omega) (show 0 ≤ x1.toInt ∧ x1.toInt ≤ 400 by omega)
  have wb := q9mul_bd (Z := 320000) w0 (show -320000 ≤ 2 * x1.toInt * x1.toInt ∧ 2 * x1.toInt * x1.toInt ≤ 320000 by omega)
  have v5 : x6 * x6 = x8 := q9lg_in X5
  have u89 : x8.toInt = x2.toInt * x2.toInt := by
    rw [← v5, q9lm64 (by rw [i6]; omega)]
    rw [i6]
  have u109 : x10.toInt = 2 * x1.toInt := by
    rw [q9d2_in X7, q9lm64 (by rw [show (2 : Int64).toInt = 2 from rfl, i5]; omega), i5]
    rfl
  have v8 : x10 * x5 = x11 := q9lg_in X8
  have u119 : x11.toInt = 2 * x1.toInt * x1.toInt := by
    rw [← v8, q9lm64 (by rw [u109, i5]; omega)]
    rw [u109, i5]
  have v9 : x7 * x11 = x12 := q9lg_in X9
  have u129 : x12.toInt = x0.toInt * (2 * x1.toInt * x1.toInt) := by
    rw [← v9, q9lm64 (by rw [i7, u119]; omega)]
    rw [i7, u119]
  have l9 : x13.toInt32 = x14 := Value.int.inj (Option.some.inj X11)
  have f9 := q9fd_val (q9fd_in X10) u129 u89
  have u_ : q9upN w 16 [] 0 = .int 0 := q9upN_of (by decide) w0
  have u0 : q9upN w 16 [] 1 = .int x0 := q9upN_of (by decide) ae0
  have u1 : q9upN w 16 [] 2 = .int x1 := q9upN_of (by decide) ae1
  have u2 : q9upN w 16 [] 3 = .int x2 := q9upN_of (by decide) ae2
  have u3 : q9upN w 16 [] 4 = .int x3 := q9upN_of (by decide) ae3
  have u4 : q9upN w 16 [] 5 = .int x4 := q9upN_of (by decide) ae4
  have u5 : q9upN w 16 [] 6 = .long x5 := q9upN_of (by decide) ae5
  have u6 : q9upN w 16 [] 7 = .long x6 := q9upN_of (by decide) ae6
  have u7 : q9upN w 16 [] 8 = .long x7 := q9upN_of (by decide) ae7
  have u8 : q9upN w 16 [] 9 = .long x8 := q9upN_of (by decide) ae8
  have u9 : q9upN w 16 [] 10 = .int x9 := q9upN_of (by decide) ae9
  have u10 : q9upN w 16 [] 11 = .long x10 := q9upN_of (by decide) ae10
  have u11 : q9upN w 16 [] 12 = .long x11 := q9upN_of (by decide) ae11
  have u12 : q9upN w 16 [] 13 = .long x12 := q9upN_of (by decide) ae12
  have u13 : q9upN w 16 [] 14 = .long x13 := q9upN_of (by decide) ae13
  have u14 : q9upN w 16 [] 15 = .int x14 := q9upN_of (by decide) ae14
  refine ⟨[], fun i9 p9 hq9 => ?_, List.forall_mem_cons.mpr ⟨?_, fun _ h => absurd h List.not_mem_nil⟩, fun _ h => absurd h List.not_mem_nil⟩
  · exact nomatch (show (none : Option (Nat × q9AV × q9AV × q9ET)) = some p9 from hq9)
  · exact q9th_tX (T := T) (N := N) (P := P) (J := J) (t0 := t0) (Sc := Sc) (q9evS u0) (q9evS u4) (q9evS u14) (by rw [q9FF_1441]; exact (by rw [hc, q9ez_3 (by omega), ← f9, l9])) (by decide)
theorem q9ru_e3b (hT : ∀ i, 0 ≤ T i ∧ T i ≤ 255) (hN : 0 ≤ N ∧ N ≤ 400) (hSc : 0 ≤ Sc 1 ∧ Sc 1 ≤ 400 → N = Sc 1) : q9ruOK (fO T N P J t0 Sc) q9R_e3b := by
  intro w w0 hA hX hL hV hR
  obtain ⟨x0, ae0, -, -⟩ := hA 0 0 rfl
  obtain ⟨x1, ae1, -, -⟩ := hA 1 0 rfl
  obtain ⟨x2, ae2, -, -⟩ := hA 2 0 rfl
  obtain ⟨x3, ae3, -, -⟩ := hA 3 0 rfl
  obtain ⟨x4, ae4, -, -⟩ := hA 4 0 rfl
  obtain ⟨x5, ae5, -, -⟩ := hA 5 0 rfl
  obtain ⟨x6, ae6, -, -⟩ := hA 6 1 rfl
  obtain ⟨x7, ae7, -, -⟩ := hA 7 1 rfl
  obtain ⟨x8, ae8, -, -⟩ := hA 8 1 rfl
  obtain ⟨x9, ae9, -, -⟩ := hA 9 0 rfl
  obtain ⟨x10, ae10, -, -⟩ := hA 10 0 rfl
  obtain ⟨x11, ae11, -, -⟩ := hA 11 1 rfl
  obtain ⟨x12, ae12, -, -⟩ := hA 12 1 rfl
  obtain ⟨x13, ae13, -, -⟩ := hA 13 1 rfl
  obtain ⟨x14, ae14, -, -⟩ := hA 14 1 rfl
  obtain ⟨x15, ae15, -, -⟩ := hA 15 1 rfl
  obtain ⟨x16, ae16, -, -⟩ := hA 16 1 rfl
  obtain ⟨x17, ae17, -, -⟩ := hA 17 0 rfl
  have kz : (0 : Int32).toInt = 0 := rfl
  have k2 : (Int32.ofInt 2).toInt = 2 := q9oI_toInt (by decide)
  have k3 : (Int32.ofInt 3).toInt = 3 := q9oI_toInt (by decide)
  obtain ⟨y0, ye0, R0, S0⟩ := hR _ (List.mem_of_getElem? (i := 0) rfl)
  obtain ⟨y1, ye1, R1, S1⟩ := hR _ (List.mem_of_getElem? (i := 1) rfl)
  obtain ⟨y2, ye2, R2, S2⟩ := hR _ (List.mem_of_getElem? (i := 2) rfl)
  have X0 := q9th_pX (T := T) (N := N) (P := P) (J := J) (t0 := t0) (Sc := Sc) (op := 1440) (q9evS ae1) (q9evS ae2) (q9evS ae3) (hX _ (List.mem_of_getElem? (i := 0) rfl)) (by decide)
  rw [q9FF_1440] at X0
  have H0 := Option.some.inj X0
  try simp only [kz, k2, k3] at H0
  have X1 := q9th_pX (T := T) (N := N) (P := P) (J := J) (t0 := t0) (Sc := Sc) (op := 1440) (q9evS ae3) (q9evC w0 3) (q9evS ae4) (hX _ (List.mem_of_getElem? (i := 1) rfl)) (by decide)
  rw [q9FF_1440] at X1
  have H1 := Option.some.inj X1
  try simp only [kz, k2, k3] at H1
  have X2 := q9pB (T := T) (N := N) (P := P) (J := J) (t0 := t0) (Sc := Sc) (q9evS ae2) (q9evS ae2) (q9evS ae6) (hX _ (List.mem_of_getElem? (i := 2) rfl))
  have X3 := q9pB (T := T) (N := N) (P := P) (J := J) (t0 := t0) (Sc := Sc) (q9evS ae0) (q9evS ae0) (q9evS ae7) (hX _ (List.mem_of_getElem? (i := 3) rfl))
  have X4 := q9pB (T := T) (N := N) (P := P) (J := J) (t0 := t0) (Sc := Sc) (q9evS ae6) (q9evS ae6) (q9evS ae8) (hX _ (List.mem_of_getElem? (i := 4) rfl))
  have X5 := q9pB (T := T) (N := N) (P := P) (J := J) (t0 := t0) (Sc := Sc) (q9evC w0 2) (q9evS ae1) (q9evS ae9) (hX _ (List.mem_of_getElem? (i := 5) rfl))
  have L0 : x2.toInt ≤ x9.toInt + (-1) := q9pC (q9evS ae2) (q9evS ae9) (hL _ (List.mem_of_getElem? (i := 0) rfl))
  have X6 := q9pB (T := T) (N := N) (P := P) (J := J) (t0 := t0) (Sc := Sc) (q9evS ae2) (q9evS ae1) (q9evS ae10) (hX _ (List.mem_of_getElem? (i := 6) rfl))
  have X7 := q9pB (T := T) (N := N) (P := P) (J := J) (t0 := t0) (Sc := Sc) (q9evS ae10) (q9evS ae10) (q9evS ae11) (hX _ (List.mem_of_getElem? (i := 7) rfl))
  have X8 := q9pB (T := T) (N := N) (P := P) (J := J) (t0 := t0) (Sc := Sc) (q9evS ae11) (q9evZ w0) (q9evS ae12) (hX _ (List.mem_of_getElem? (i := 8) rfl))
  have X9 := q9pB (T := T) (N := N) (P := P) (J := J) (t0 := t0) (Sc := Sc) (q9evS ae12) (q9evS ae11) (q9evS ae13) (hX _ (List.mem_of_getElem? (i := 9) rfl))
  have X10 := q9pB (T := T) (N := N) (P := P) (J := J) (t0 := t0) (Sc := Sc) (q9evS ae8) (q9evS ae13) (q9evS ae14) (hX _ (List.mem_of_getElem? (i := 10) rfl))
  have X11 := q9pB (T := T) (N := N) (P := P) (J := J) (t0 := t0) (Sc := Sc) (q9evS ae7) (q9evS ae14) (q9evS ae15) (hX _ (List.mem_of_getElem? (i := 11) rfl))
  have X12 := q9pB (T := T) (N := N) (P := P) (J := J) (t0 := t0) (Sc := Sc) (q9evS ae15) (q9evS ae8) (q9evS ae16) (hX _ (List.mem_of_getElem? (i := 12) rfl))
  have X13 := q9pB (T := T) (N := N) (P := P) (J := J) (t0 := t0) (Sc := Sc) (q9evS ae16) (q9evS ae16) (q9evS ae17) (hX _ (List.mem_of_getElem? (i := 13) rfl))
  rw [ae0] at ye0
  cases ye0
  rw [ae1] at ye1
  cases ye1
  rw [ae2] at ye2
  cases ye2
  have w0 : -2147483648 ≤ x0.toInt ∧ x0.toInt ≤ 2147483648 := ⟨Int32.le_toInt x0, by have := Int32.toInt_lt x0; omega⟩
  have k0 : 1 ≤ x1.toInt := R1
  have k01 : x1.toInt ≤ 400 := S1
  have m0 : 1 ≤ x2.toInt := R2
  have m01 : x2.toInt ≤ 400 := S2
  have hc : q9easI x0.toInt x4.toInt = q9ezI x0.toInt x1.toInt x2.toInt 3 := by
    rw [← H1, ← H0]
    exact q9cd_dec (by omega) (by omega) (by omega)
  have i6 : x6.toInt = x2.toInt := by
    rw [← (q9lg_in X2 : x2.toInt64 = x6)]
    exact Int32.toInt_toInt64 x2
  have i7 : x7.toInt = x0.toInt := by
    rw [← (q9lg_in X3 : x0.toInt64 = x7)]
    exact Int32.toInt_toInt64 x0
  have i11 : x11.toInt = x10.toInt := by
    rw [← (q9lg_in X7 : x10.toInt64 = x11)]
    exact Int32.toInt_toInt64 x10
  have m29 := q9mu32 X5 (by rw [k2]; omega)
  rw [k2] at m29
  have s19 := q9su32 X6 (by omega)
  have mm := q9mul_pb (A := 400) (B := 400) (show 0 ≤ x2.toInt ∧ x2.toInt ≤ 400 by omega) (show 0 ≤ x2.toInt ∧ x2.toInt ≤ 400 by omega)
  have km := q9mul_pb (A := 400) (B := 400) (show 0 ≤ x1.toInt ∧ x1.toInt ≤ 400 by omega) (show 0 ≤ x2.toInt ∧ x2.toInt ≤ 400 by omega)
  have kk9 := q9mul_pb (A := 400) (B := 400) (show 0 ≤ x1.toInt ∧ x1.toInt ≤ 400 by omega) (show 0 ≤ x1.toInt ∧ x1.toInt ≤ 400 by omega)
  have mk9 := q9mul_pb (A := 800) (B := 400) (show 0 ≤ 2 * x2.toInt ∧ 2 * x2.toInt ≤ 800 by omega) (show 0 ≤ x1.toInt ∧ x1.toInt ≤ 400 by omega)
  have k29 := q9mul_pb (A := 800) (B := 400) (show 0 ≤ 2 * x1.toInt ∧ 2 * x1.toInt ≤ 800 by omega) (show 0 ≤ x1.toInt ∧ x1.toInt ≤ 400 by omega)
  have d9 : -400 ≤ x2.toInt - x1.toInt ∧ x2.toInt - x1.toInt ≤ 400 := by omega
  have dd := q9mul_bd (w := 2 * (x2.toInt - x1.toInt)) (z := x2.toInt - x1.toInt) (Z := 400) (by omega) d9
  have dq : -320000 ≤ 2 * (x2.toInt - x1.toInt) * (x2.toInt - x1.toInt) ∧ 2 * (x2.toInt - x1.toInt) * (x2.toInt - x1.toInt) ≤ 320000 := by
    by_cases h : 0 ≤ x2.toInt - x1.toInt
    · have g := q9mul_pb (A := 800) (B := 400) (show 0 ≤ 2 * (x2.toInt - x1.toInt) ∧ 2 * (x2.toInt - x1.toInt) ≤ 800 by omega) (show 0 ≤ x2.toInt - x1.toInt ∧ x2.toInt - x1.toInt ≤ 400 by omega)
      omega
    · have g := q9mul_pb (A := 800) (B := 400) (show 0 ≤ -(2 * (x2.toInt - x1.toInt)) ∧ -(2 * (x2.toInt - x1.toInt)) ≤ 800 by omega) (show 0 ≤ -(x2.toInt - x1.toInt) ∧ -(x2.toInt - x1.toInt) ≤ 400 by omega)
      rw [Int.neg_mul_neg] at g
      omega
  have wb := q9mul_bd (Z := 480000) w0 (show -480000 ≤ x2.toInt * x2.toInt - 2 * (x2.toInt - x1.toInt) * (x2.toInt - x1.toInt) ∧ x2.toInt * x2.toInt - 2 * (x2.toInt - x1.toInt) * (x2.toInt - x1.toInt) ≤ 480000 by omega)
  have v4 : x6 * x6 = x8 := q9lg_in X4
  have u89 : x8.toInt = x2.toInt * x2.toInt := by
    rw [← v4, q9lm64 (by rw [i6]; omega)]
    rw [i6]
  have i119 : x11.toInt = x2.toInt - x1.toInt := by rw [i11, s19]
  have u129 : x12.toInt = 2 * (x2.toInt - x1.toInt) := by
    rw [q9d2_in X8, q9lm64 (by rw [show (2 : Int64).toInt = 2 from rfl, i119]; omega), i119]
    rfl
  have v9 : x12 * x11 = x13 := q9lg_in X9
  have u139 : x13.toInt = 2 * (x2.toInt - x1.toInt) * (x2.toInt - x1.toInt) := by
    rw [← v9, q9lm64 (by rw [u129, i119]; omega)]
    rw [u129, i119]
  have v10 : x8 - x13 = x14 := q9lg_in X10
  have u149 : x14.toInt = x2.toInt * x2.toInt - 2 * (x2.toInt - x1.toInt) * (x2.toInt - x1.toInt) := by
    rw [← v10, q9ls64 (by rw [u89, u139]; omega)]
    rw [u89, u139]
  have v11 : x7 * x14 = x15 := q9lg_in X11
  have u159 : x15.toInt = x0.toInt * (x2.toInt * x2.toInt - 2 * (x2.toInt - x1.toInt) * (x2.toInt - x1.toInt)) := by
    rw [← v11, q9lm64 (by rw [i7, u149]; omega)]
    rw [i7, u149]
  have l9 : x16.toInt32 = x17 := Value.int.inj (Option.some.inj X13)
  have f9 := q9fd_val (q9fd_in X12) u159 u89
  have u_ : q9upN w 19 [] 0 = .int 0 := q9upN_of (by decide) w0
  have u0 : q9upN w 19 [] 1 = .int x0 := q9upN_of (by decide) ae0
  have u1 : q9upN w 19 [] 2 = .int x1 := q9upN_of (by decide) ae1
  have u2 : q9upN w 19 [] 3 = .int x2 := q9upN_of (by decide) ae2
  have u3 : q9upN w 19 [] 4 = .int x3 := q9upN_of (by decide) ae3
  have u4 : q9upN w 19 [] 5 = .int x4 := q9upN_of (by decide) ae4
  have u5 : q9upN w 19 [] 6 = .int x5 := q9upN_of (by decide) ae5
  have u6 : q9upN w 19 [] 7 = .long x6 := q9upN_of (by decide) ae6
  have u7 : q9upN w 19 [] 8 = .long x7 := q9upN_of (by decide) ae7
  have u8 : q9upN w 19 [] 9 = .long x8 := q9upN_of (by decide) ae8
  have u9 : q9upN w 19 [] 10 = .int x9 := q9upN_of (by decide) ae9
  have u10 : q9upN w 19 [] 11 = .int x10 := q9upN_of (by decide) ae10
  have u11 : q9upN w 19 [] 12 = .long x11 := q9upN_of (by decide) ae11
  have u12 : q9upN w 19 [] 13 = .long x12 := q9upN_of (by decide) ae12
  have u13 : q9upN w 19 [] 14 = .long x13 := q9upN_of (by decide) ae13
  have u14 : q9upN w 19 [] 15 = .long x14 := q9upN_of (by decide) ae14
  have u15 : q9upN w 19 [] 16 = .long x15 := q9upN_of (by decide) ae15
  have u16 : q9upN w 19 [] 17 = .long x16 := q9upN_of (by decide) ae16
  have u17 : q9upN w 19 [] 18 = .int x17 := q9upN_of (by decide) ae17
  refine ⟨[], fun i9 p9 hq9 => ?_, List.forall_mem_cons.mpr ⟨?_, fun _ h => absurd h List.not_mem_nil⟩, fun _ h => absurd h List.not_mem_nil⟩
  · exact nomatch (show (none : Option (Nat × q9AV × q9AV × q9ET)) = some p9 from hq9)
  · exact q9th_tX (T := T) (N := N) (P := P) (J := J) (t0 := t0) (Sc := Sc) (q9evS u0) (q9evS u4) (q9evS u17) (by rw [q9FF_1441]; exact (by rw [hc, q9ez_4 (by omega), ← f9, l9])) (by decide)
theorem q9ru_evl (hT : ∀ i, 0 ≤ T i ∧ T i ≤ 255) (hN : 0 ≤ N ∧ N ≤ 400) (hSc : 0 ≤ Sc 1 ∧ Sc 1 ≤ 400 → N = Sc 1) : q9ruOK (fO T N P J t0 Sc) q9R_evl := by
  intro w w0 hA hX hL hV hR
  obtain ⟨x0, ae0, -, -⟩ := hA 0 0 rfl
  obtain ⟨x1, ae1, -, -⟩ := hA 1 0 rfl
  obtain ⟨x2, ae2, -, -⟩ := hA 2 0 rfl
  have kz : (0 : Int32).toInt = 0 := rfl
  have k96 : (Int32.ofInt 96).toInt = 96 := q9oI_toInt (by decide)
  have X0 := q9th_pX (T := T) (N := N) (P := P) (J := J) (t0 := t0) (Sc := Sc) (op := 1002) (q9evS ae0) (q9evZ w0) (q9evS ae1) (hX _ (List.mem_of_getElem? (i := 0) rfl)) (by decide)
  rw [q9FF_1002] at X0
  have H0 := Option.some.inj X0
  try simp only [kz, k96] at H0
  have X1 := q9th_pX (T := T) (N := N) (P := P) (J := J) (t0 := t0) (Sc := Sc) (op := 1000) (q9evS ae1) (q9evZ w0) (q9evS ae2) (hX _ (List.mem_of_getElem? (i := 1) rfl)) (by decide)
  rw [q9FF_1000] at X1
  have H1 := Option.some.inj X1
  try simp only [kz, k96] at H1
  have L0 : x2.toInt ≤ (Int32.ofInt 96).toInt + 0 := q9pC (q9evS ae2) (q9evC w0 96) (hL _ (List.mem_of_getElem? (i := 0) rfl))
  have L1 : (0 : Int32).toInt ≤ x0.toInt + 0 := q9pC (q9evZ w0) (q9evS ae0) (hL _ (List.mem_of_getElem? (i := 1) rfl))
  have rg0 : (0 : Int) ≤ 0 ∧ (0 : Int) ≤ 0 := by omega
  obtain ⟨x3, nt3⟩ : ∃ x : Int32, x.toInt = 0 := ⟨Int32.ofInt (0), q9oI_toInt (by omega)⟩
  have u_ : q9upN w 4 [.int x3] 0 = .int 0 := q9upN_of (by decide) w0
  have u0 : q9upN w 4 [.int x3] 1 = .int x0 := q9upN_of (by decide) ae0
  have u1 : q9upN w 4 [.int x3] 2 = .int x1 := q9upN_of (by decide) ae1
  have u2 : q9upN w 4 [.int x3] 3 = .int x2 := q9upN_of (by decide) ae2
  have u3 : q9upN w 4 [.int x3] 4 = .int x3 := q9upN_at (by decide)
  refine ⟨[.int x3], fun i9 p9 hq9 => ?_, fun _ h => absurd h List.not_mem_nil, fun _ h => absurd h List.not_mem_nil⟩
  · match i9, hq9 with
    | 0, hq9 =>
      have hp9 : ((1463, (1, 0), (0, 0), (0, 0, 0)) : Nat × q9AV × q9AV × q9ET) = p9 := Option.some.inj hq9
      subst hp9
      exact ⟨⟨x3, rfl, by rw [nt3]; exact rg0.1, by rw [nt3]; exact rg0.2⟩, (q9th_tX (T := T) (N := N) (P := P) (J := J) (t0 := t0) (Sc := Sc) (q9evS u0) (q9evZ u_) (q9evS u3) (by rw [q9FF_1463, nt3]; exact (by unfold q9ezvI; rw [H0, if_neg (by omega)])) (by decide)).trans (congrArg some (q9evS u3))⟩
    | k9 + 1, hq9 => exact nomatch (show (none : Option (Nat × q9AV × q9AV × q9ET)) = some p9 from hq9)
theorem q9ru_evh (hT : ∀ i, 0 ≤ T i ∧ T i ≤ 255) (hN : 0 ≤ N ∧ N ≤ 400) (hSc : 0 ≤ Sc 1 ∧ Sc 1 ≤ 400 → N = Sc 1) : q9ruOK (fO T N P J t0 Sc) q9R_evh := by
  intro w w0 hA hX hL hV hR
  obtain ⟨x0, ae0, -, -⟩ := hA 0 0 rfl
  obtain ⟨x1, ae1, -, -⟩ := hA 1 0 rfl
  obtain ⟨x2, ae2, -, -⟩ := hA 2 0 rfl
  have kz : (0 : Int32).toInt = 0 := rfl
  have k123 : (Int32.ofInt 123).toInt = 123 := q9oI_toInt (by decide)
  have X0 := q9th_pX (T := T) (N := N) (P := P) (J := J) (t0 := t0) (Sc := Sc) (op := 1002) (q9evS ae0) (q9evZ w0) (q9evS ae1) (hX _ (List.mem_of_getElem? (i := 0) rfl)) (by decide)
  rw [q9FF_1002] at X0
  have H0 := Option.some.inj X0
  try simp only [kz, k123] at H0
  have X1 := q9th_pX (T := T) (N := N) (P := P) (J := J) (t0 := t0) (Sc := Sc) (op := 1000) (q9evS ae1) (q9evZ w0) (q9evS ae2) (hX _ (List.mem_of_getElem? (i := 1) rfl)) (by decide)
  rw [q9FF_1000] at X1
  have H1 := Option.some.inj X1
  try simp only [kz, k123] at H1
  have L0 : (Int32.ofInt 123).toInt ≤ x2.toInt + 0 := q9pC (q9evC w0 123) (q9evS ae2) (hL _ (List.mem_of_getElem? (i := 0) rfl))
  have L1 : (0 : Int32).toInt ≤ x0.toInt + 0 := q9pC (q9evZ w0) (q9evS ae0) (hL _ (List.mem_of_getElem? (i := 1) rfl))
  have rg0 : (0 : Int) ≤ 0 ∧ (0 : Int) ≤ 0 := by omega
  obtain ⟨x3, nt3⟩ : ∃ x : Int32, x.toInt = 0 := ⟨Int32.ofInt (0), q9oI_toInt (by omega)⟩
  have u_ : q9upN w 4 [.int x3] 0 = .int 0 := q9upN_of (by decide) w0
  have u0 : q9upN w 4 [.int x3] 1 = .int x0 := q9upN_of (by decide) ae0
  have u1 : q9upN w 4 [.int x3] 2 = .int x1 := q9upN_of (by decide) ae1
  have u2 : q9upN w 4 [.int x3] 3 = .int x2 := q9upN_of (by decide) ae2
  have u3 : q9upN w 4 [.int x3] 4 = .int x3 := q9upN_at (by decide)
  refine ⟨[.int x3], fun i9 p9 hq9 => ?_, fun _ h => absurd h List.not_mem_nil, fun _ h => absurd h List.not_mem_nil⟩
  · match i9, hq9 with
    | 0, hq9 =>
      have hp9 : ((1463, (1, 0), (0, 0), (0, 0, 0)) : Nat × q9AV × q9AV × q9ET) = p9 := Option.some.inj hq9
      subst hp9
      exact ⟨⟨x3, rfl, by rw [nt3]; exact rg0.1, by rw [nt3]; exact rg0.2⟩, (q9th_tX (T := T) (N := N) (P := P) (J := J) (t0 := t0) (Sc := Sc) (q9evS u0) (q9evZ u_) (q9evS u3) (by rw [q9FF_1463, nt3]; exact (by unfold q9ezvI; rw [H0, if_neg (by omega)])) (by decide)).trans (congrArg some (q9evS u3))⟩
    | k9 + 1, hq9 => exact nomatch (show (none : Option (Nat × q9AV × q9AV × q9ET)) = some p9 from hq9)
theorem q9ru_ev9 (hT : ∀ i, 0 ≤ T i ∧ T i ≤ 255) (hN : 0 ≤ N ∧ N ≤ 400) (hSc : 0 ≤ Sc 1 ∧ Sc 1 ≤ 400 → N = Sc 1) : q9ruOK (fO T N P J t0 Sc) q9R_ev9 := by
  intro w w0 hA hX hL hV hR
  obtain ⟨x0, ae0, -, -⟩ := hA 0 0 rfl
  obtain ⟨x1, ae1, -, -⟩ := hA 1 0 rfl
  obtain ⟨x2, ae2, -, -⟩ := hA 2 0 rfl
  have kz : (0 : Int32).toInt = 0 := rfl
  have X0 := q9th_pX (T := T) (N := N) (P := P) (J := J) (t0 := t0) (Sc := Sc) (op := 1002) (q9evS ae0) (q9evZ w0) (q9evS ae1) (hX _ (List.mem_of_getElem? (i := 0) rfl)) (by decide)
  rw [q9FF_1002] at X0
  have H0 := Option.some.inj X0
  try simp only [kz] at H0
  have V0 := q9pV (T := T) (N := N) (P := P) (J := J) (t0 := t0) (Sc := Sc) (op := 1109) (n := 1) (q9evS ae1) (q9evZ w0) (hV _ (List.mem_of_getElem? (i := 0) rfl)) (by decide)
  rw [q9FF_1109] at V0
  have K0 := Option.some.inj V0
  try simp only [kz] at K0
  have L0 : (0 : Int32).toInt ≤ x0.toInt + 0 := q9pC (q9evZ w0) (q9evS ae0) (hL _ (List.mem_of_getElem? (i := 0) rfl))
  have hb := q9ws_b0 (t := 9) (by decide) K0
  have hb : q9byI T N x1.toInt = 115 := hb
  have rg0 : (1 : Int) ≤ 1 ∧ (1 : Int) ≤ 1 := by omega
  obtain ⟨x3, nt3⟩ : ∃ x : Int32, x.toInt = 1 := ⟨Int32.ofInt (1), q9oI_toInt (by omega)⟩
  have u_ : q9upN w 4 [.int x3] 0 = .int 0 := q9upN_of (by decide) w0
  have u0 : q9upN w 4 [.int x3] 1 = .int x0 := q9upN_of (by decide) ae0
  have u1 : q9upN w 4 [.int x3] 2 = .int x1 := q9upN_of (by decide) ae1
  have u2 : q9upN w 4 [.int x3] 3 = .int x2 := q9upN_of (by decide) ae2
  have u3 : q9upN w 4 [.int x3] 4 = .int x3 := q9upN_at (by decide)
  refine ⟨[.int x3], fun i9 p9 hq9 => ?_, fun _ h => absurd h List.not_mem_nil, fun _ h => absurd h List.not_mem_nil⟩
  · match i9, hq9 with
    | 0, hq9 =>
      have hp9 : ((1463, (1, 0), (0, 0), (0, 1, 1)) : Nat × q9AV × q9AV × q9ET) = p9 := Option.some.inj hq9
      subst hp9
      exact ⟨⟨x3, rfl, by rw [nt3]; exact rg0.1, by rw [nt3]; exact rg0.2⟩, (q9th_tX (T := T) (N := N) (P := P) (J := J) (t0 := t0) (Sc := Sc) (q9evS u0) (q9evZ u_) (q9evS u3) (by rw [q9FF_1463, nt3]; exact (by unfold q9ezvI; rw [H0, if_pos (by omega), if_pos K0])) (by decide)).trans (congrArg some (q9evS u3))⟩
    | k9 + 1, hq9 => exact nomatch (show (none : Option (Nat × q9AV × q9AV × q9ET)) = some p9 from hq9)
theorem q9ru_ev10 (hT : ∀ i, 0 ≤ T i ∧ T i ≤ 255) (hN : 0 ≤ N ∧ N ≤ 400) (hSc : 0 ≤ Sc 1 ∧ Sc 1 ≤ 400 → N = Sc 1) : q9ruOK (fO T N P J t0 Sc) q9R_ev10 := by
  intro w w0 hA hX hL hV hR
  obtain ⟨x0, ae0, -, -⟩ := hA 0 0 rfl
  obtain ⟨x1, ae1, -, -⟩ := hA 1 0 rfl
  obtain ⟨x2, ae2, -, -⟩ := hA 2 0 rfl
  have kz : (0 : Int32).toInt = 0 := rfl
  have X0 := q9th_pX (T := T) (N := N) (P := P) (J := J) (t0 := t0) (Sc := Sc) (op := 1002) (q9evS ae0) (q9evZ w0) (q9evS ae1) (hX _ (List.mem_of_getElem? (i := 0) rfl)) (by decide)
  rw [q9FF_1002] at X0
  have H0 := Option.some.inj X0
  try simp only [kz] at H0
  have V0 := q9pV (T := T) (N := N) (P := P) (J := J) (t0 := t0) (Sc := Sc) (op := 1110) (n := 1) (q9evS ae1) (q9evZ w0) (hV _ (List.mem_of_getElem? (i := 0) rfl)) (by decide)
  rw [q9FF_1110] at V0
  have K0 := Option.some.inj V0
  try simp only [kz] at K0
  have L0 : (0 : Int32).toInt ≤ x0.toInt + 0 := q9pC (q9evZ w0) (q9evS ae0) (hL _ (List.mem_of_getElem? (i := 0) rfl))
  have hb := q9ws_b0 (t := 10) (by decide) K0
  have hb : q9byI T N x1.toInt = 115 := hb
  have n9 : ¬ q9wsI T N 9 x1.toInt = 1 := fun h => by
    have h1 := (q9ws_wc (t := 9) (by decide)).mp h
    have h2 := (q9ws_wc (t := 10) (by decide)).mp K0
    have hd : q9wnI 9 ≠ q9wnI 10 := by decide +kernel
    exact hd (h1.symm.trans h2)
  have rg0 : (2 : Int) ≤ 2 ∧ (2 : Int) ≤ 2 := by omega
  obtain ⟨x3, nt3⟩ : ∃ x : Int32, x.toInt = 2 := ⟨Int32.ofInt (2), q9oI_toInt (by omega)⟩
  have u_ : q9upN w 4 [.int x3] 0 = .int 0 := q9upN_of (by decide) w0
  have u0 : q9upN w 4 [.int x3] 1 = .int x0 := q9upN_of (by decide) ae0
  have u1 : q9upN w 4 [.int x3] 2 = .int x1 := q9upN_of (by decide) ae1
  have u2 : q9upN w 4 [.int x3] 3 = .int x2 := q9upN_of (by decide) ae2
  have u3 : q9upN w 4 [.int x3] 4 = .int x3 := q9upN_at (by decide)
  refine ⟨[.int x3], fun i9 p9 hq9 => ?_, fun _ h => absurd h List.not_mem_nil, fun _ h => absurd h List.not_mem_nil⟩
  · match i9, hq9 with
    | 0, hq9 =>
      have hp9 : ((1463, (1, 0), (0, 0), (0, 2, 2)) : Nat × q9AV × q9AV × q9ET) = p9 := Option.some.inj hq9
      subst hp9
      exact ⟨⟨x3, rfl, by rw [nt3]; exact rg0.1, by rw [nt3]; exact rg0.2⟩, (q9th_tX (T := T) (N := N) (P := P) (J := J) (t0 := t0) (Sc := Sc) (q9evS u0) (q9evZ u_) (q9evS u3) (by rw [q9FF_1463, nt3]; exact (by unfold q9ezvI; rw [H0, if_pos (by omega), if_neg n9, if_pos K0])) (by decide)).trans (congrArg some (q9evS u3))⟩
    | k9 + 1, hq9 => exact nomatch (show (none : Option (Nat × q9AV × q9AV × q9ET)) = some p9 from hq9)
theorem q9ru_ev11 (hT : ∀ i, 0 ≤ T i ∧ T i ≤ 255) (hN : 0 ≤ N ∧ N ≤ 400) (hSc : 0 ≤ Sc 1 ∧ Sc 1 ≤ 400 → N = Sc 1) : q9ruOK (fO T N P J t0 Sc) q9R_ev11 := by
  intro w w0 hA hX hL hV hR
  obtain ⟨x0, ae0, -, -⟩ := hA 0 0 rfl
  obtain ⟨x1, ae1, -, -⟩ := hA 1 0 rfl
  obtain ⟨x2, ae2, -, -⟩ := hA 2 0 rfl
  have kz : (0 : Int32).toInt = 0 := rfl
  have X0 := q9th_pX (T := T) (N := N) (P := P) (J := J) (t0 := t0) (Sc := Sc) (op := 1002) (q9evS ae0) (q9evZ w0) (q9evS ae1) (hX _ (List.mem_of_getElem? (i := 0) rfl)) (by decide)
  rw [q9FF_1002] at X0
  have H0 := Option.some.inj X0
  try simp only [kz] at H0
  have V0 := q9pV (T := T) (N := N) (P := P) (J := J) (t0 := t0) (Sc := Sc) (op := 1111) (n := 1) (q9evS ae1) (q9evZ w0) (hV _ (List.mem_of_getElem? (i := 0) rfl)) (by decide)
  rw [q9FF_1111] at V0
  have K0 := Option.some.inj V0
  try simp only [kz] at K0
  have L0 : (0 : Int32).toInt ≤ x0.toInt + 0 := q9pC (q9evZ w0) (q9evS ae0) (hL _ (List.mem_of_getElem? (i := 0) rfl))
  have hb := q9ws_b0 (t := 11) (by decide) K0
  have hb : q9byI T N x1.toInt = 98 := hb
  have n9 : ¬ q9wsI T N 9 x1.toInt = 1 := fun h => by
    have h1 := (q9ws_wc (t := 9) (by decide)).mp h
    have h2 := (q9ws_wc (t := 11) (by decide)).mp K0
    have hd : q9wnI 9 ≠ q9wnI 11 := by decide +kernel
    exact hd (h1.symm.trans h2)
  have n10 : ¬ q9wsI T N 10 x1.toInt = 1 := fun h => by
    have h1 := (q9ws_wc (t := 10) (by decide)).mp h
    have h2 := (q9ws_wc (t := 11) (by decide)).mp K0
    have hd : q9wnI 10 ≠ q9wnI 11 := by decide +kernel
    exact hd (h1.symm.trans h2)
  have rg0 : (3 : Int) ≤ 3 ∧ (3 : Int) ≤ 3 := by omega
  obtain ⟨x3, nt3⟩ : ∃ x : Int32, x.toInt = 3 := ⟨Int32.ofInt (3), q9oI_toInt (by omega)⟩
  have u_ : q9upN w 4 [.int x3] 0 = .int 0 := q9upN_of (by decide) w0
  have u0 : q9upN w 4 [.int x3] 1 = .int x0 := q9upN_of (by decide) ae0
  have u1 : q9upN w 4 [.int x3] 2 = .int x1 := q9upN_of (by decide) ae1
  have u2 : q9upN w 4 [.int x3] 3 = .int x2 := q9upN_of (by decide) ae2
  have u3 : q9upN w 4 [.int x3] 4 = .int x3 := q9upN_at (by decide)
  refine ⟨[.int x3], fun i9 p9 hq9 => ?_, fun _ h => absurd h List.not_mem_nil, fun _ h => absurd h List.not_mem_nil⟩
  · match i9, hq9 with
    | 0, hq9 =>
      have hp9 : ((1463, (1, 0), (0, 0), (0, 3, 3)) : Nat × q9AV × q9AV × q9ET) = p9 := Option.some.inj hq9
      subst hp9
      exact ⟨⟨x3, rfl, by rw [nt3]; exact rg0.1, by rw [nt3]; exact rg0.2⟩, (q9th_tX (T := T) (N := N) (P := P) (J := J) (t0 := t0) (Sc := Sc) (q9evS u0) (q9evZ u_) (q9evS u3) (by rw [q9FF_1463, nt3]; exact (by unfold q9ezvI; rw [H0, if_pos (by omega), if_neg n9, if_neg n10, if_pos K0])) (by decide)).trans (congrArg some (q9evS u3))⟩
    | k9 + 1, hq9 => exact nomatch (show (none : Option (Nat × q9AV × q9AV × q9ET)) = some p9 from hq9)
theorem q9ru_ev12 (hT : ∀ i, 0 ≤ T i ∧ T i ≤ 255) (hN : 0 ≤ N ∧ N ≤ 400) (hSc : 0 ≤ Sc 1 ∧ Sc 1 ≤ 400 → N = Sc 1) : q9ruOK (fO T N P J t0 Sc) q9R_ev12 := by
  intro w w0 hA hX hL hV hR
  obtain ⟨x0, ae0, -, -⟩ := hA 0 0 rfl
  obtain ⟨x1, ae1, -, -⟩ := hA 1 0 rfl
  obtain ⟨x2, ae2, -, -⟩ := hA 2 0 rfl
  have kz : (0 : Int32).toInt = 0 := rfl
  have X0 := q9th_pX (T := T) (N := N) (P := P) (J := J) (t0 := t0) (Sc := Sc) (op := 1002) (q9evS ae0) (q9evZ w0) (q9evS ae1) (hX _ (List.mem_of_getElem? (i := 0) rfl)) (by decide)
  rw [q9FF_1002] at X0
  have H0 := Option.some.inj X0
  try simp only [kz] at H0
  have V0 := q9pV (T := T) (N := N) (P := P) (J := J) (t0 := t0) (Sc := Sc) (op := 1112) (n := 1) (q9evS ae1) (q9evZ w0) (hV _ (List.mem_of_getElem? (i := 0) rfl)) (by decide)
  rw [q9FF_1112] at V0
  have K0 := Option.some.inj V0
  try simp only [kz] at K0
  have L0 : (0 : Int32).toInt ≤ x0.toInt + 0 := q9pC (q9evZ w0) (q9evS ae0) (hL _ (List.mem_of_getElem? (i := 0) rfl))
  have hb := q9ws_b0 (t := 12) (by decide) K0
  have hb : q9byI T N x1.toInt = 101 := hb
  have n9 : ¬ q9wsI T N 9 x1.toInt = 1 := fun h => by
    have h1 := (q9ws_wc (t := 9) (by decide)).mp h
    have h2 := (q9ws_wc (t := 12) (by decide)).mp K0
    have hd : q9wnI 9 ≠ q9wnI 12 := by decide +kernel
    exact hd (h1.symm.trans h2)
  have n10 : ¬ q9wsI T N 10 x1.toInt = 1 := fun h => by
    have h1 := (q9ws_wc (t := 10) (by decide)).mp h
    have h2 := (q9ws_wc (t := 12) (by decide)).mp K0
    have hd : q9wnI 10 ≠ q9wnI 12 := by decide +kernel
    exact hd (h1.symm.trans h2)
  have n11 : ¬ q9wsI T N 11 x1.toInt = 1 := fun h => by
    have h1 := (q9ws_wc (t := 11) (by decide)).mp h
    have h2 := (q9ws_wc (t := 12) (by decide)).mp K0
    have hd : q9wnI 11 ≠ q9wnI 12 := by decide +kernel
    exact hd (h1.symm.trans h2)
  have rg0 : (0 : Int) ≤ 0 ∧ (0 : Int) ≤ 0 := by omega
  obtain ⟨x3, nt3⟩ : ∃ x : Int32, x.toInt = 0 := ⟨Int32.ofInt (0), q9oI_toInt (by omega)⟩
  have u_ : q9upN w 4 [.int x3] 0 = .int 0 := q9upN_of (by decide) w0
  have u0 : q9upN w 4 [.int x3] 1 = .int x0 := q9upN_of (by decide) ae0
  have u1 : q9upN w 4 [.int x3] 2 = .int x1 := q9upN_of (by decide) ae1
  have u2 : q9upN w 4 [.int x3] 3 = .int x2 := q9upN_of (by decide) ae2
  have u3 : q9upN w 4 [.int x3] 4 = .int x3 := q9upN_at (by decide)
  refine ⟨[.int x3], fun i9 p9 hq9 => ?_, fun _ h => absurd h List.not_mem_nil, fun _ h => absurd h List.not_mem_nil⟩
  · match i9, hq9 with
    | 0, hq9 =>
      have hp9 : ((1463, (1, 0), (0, 0), (0, 0, 0)) : Nat × q9AV × q9AV × q9ET) = p9 := Option.some.inj hq9
      subst hp9
      exact ⟨⟨x3, rfl, by rw [nt3]; exact rg0.1, by rw [nt3]; exact rg0.2⟩, (q9th_tX (T := T) (N := N) (P := P) (J := J) (t0 := t0) (Sc := Sc) (q9evS u0) (q9evZ u_) (q9evS u3) (by rw [q9FF_1463, nt3]; exact (by unfold q9ezvI; rw [H0, if_pos (by omega), if_neg n9, if_neg n10, if_neg n11])) (by decide)).trans (congrArg some (q9evS u3))⟩
    | k9 + 1, hq9 => exact nomatch (show (none : Option (Nat × q9AV × q9AV × q9ET)) = some p9 from hq9)
theorem q9ru_aw0 (hT : ∀ i, 0 ≤ T i ∧ T i ≤ 255) (hN : 0 ≤ N ∧ N ≤ 400) (hSc : 0 ≤ Sc 1 ∧ Sc 1 ≤ 400 → N = Sc 1) : q9ruOK (fO T N P J t0 Sc) q9R_aw0 := by
  intro w w0 hA hX hL hV hR
  obtain ⟨x0, ae0, -, -⟩ := hA 0 0 rfl
  have kz : (0 : Int32).toInt = 0 := rfl
  have V0 := q9pV (T := T) (N := N) (P := P) (J := J) (t0 := t0) (Sc := Sc) (op := 1116) (n := 1) (q9evS ae0) (q9evZ w0) (hV _ (List.mem_of_getElem? (i := 0) rfl)) (by decide)
  rw [q9FF_1116] at V0
  have K0 := Option.some.inj V0
  try simp only [kz] at K0
  have L0 : (0 : Int32).toInt ≤ x0.toInt + 0 := q9pC (q9evZ w0) (q9evS ae0) (hL _ (List.mem_of_getElem? (i := 0) rfl))
  have rg0 : (0 : Int) ≤ 0 ∧ (0 : Int) ≤ 0 := by omega
  obtain ⟨x1, nt1⟩ : ∃ x : Int32, x.toInt = 0 := ⟨Int32.ofInt (0), q9oI_toInt (by omega)⟩
  have u_ : q9upN w 2 [.int x1] 0 = .int 0 := q9upN_of (by decide) w0
  have u0 : q9upN w 2 [.int x1] 1 = .int x0 := q9upN_of (by decide) ae0
  have u1 : q9upN w 2 [.int x1] 2 = .int x1 := q9upN_at (by decide)
  refine ⟨[.int x1], fun i9 p9 hq9 => ?_, fun _ h => absurd h List.not_mem_nil, fun _ h => absurd h List.not_mem_nil⟩
  · match i9, hq9 with
    | 0, hq9 =>
      have hp9 : ((1460, (1, 0), (0, 0), (0, 0, 0)) : Nat × q9AV × q9AV × q9ET) = p9 := Option.some.inj hq9
      subst hp9
      exact ⟨⟨x1, rfl, by rw [nt1]; exact rg0.1, by rw [nt1]; exact rg0.2⟩, (q9th_tX (T := T) (N := N) (P := P) (J := J) (t0 := t0) (Sc := Sc) (q9evS u0) (q9evZ u_) (q9evS u1) (by rw [q9FF_1460, nt1]; exact (by unfold q9axwI; rw [if_pos K0])) (by decide)).trans (congrArg some (q9evS u1))⟩
    | k9 + 1, hq9 => exact nomatch (show (none : Option (Nat × q9AV × q9AV × q9ET)) = some p9 from hq9)
theorem q9ru_aw1 (hT : ∀ i, 0 ≤ T i ∧ T i ≤ 255) (hN : 0 ≤ N ∧ N ≤ 400) (hSc : 0 ≤ Sc 1 ∧ Sc 1 ≤ 400 → N = Sc 1) : q9ruOK (fO T N P J t0 Sc) q9R_aw1 := by
  intro w w0 hA hX hL hV hR
  obtain ⟨x0, ae0, -, -⟩ := hA 0 0 rfl
  have kz : (0 : Int32).toInt = 0 := rfl
  have V0 := q9pV (T := T) (N := N) (P := P) (J := J) (t0 := t0) (Sc := Sc) (op := 1116) (n := 0) (q9evS ae0) (q9evZ w0) (hV _ (List.mem_of_getElem? (i := 0) rfl)) (by decide)
  rw [q9FF_1116] at V0
  have K0 := Option.some.inj V0
  try simp only [kz] at K0
  have V1 := q9pV (T := T) (N := N) (P := P) (J := J) (t0 := t0) (Sc := Sc) (op := 1117) (n := 1) (q9evS ae0) (q9evZ w0) (hV _ (List.mem_of_getElem? (i := 1) rfl)) (by decide)
  rw [q9FF_1117] at V1
  have K1 := Option.some.inj V1
  try simp only [kz] at K1
  have L0 : (0 : Int32).toInt ≤ x0.toInt + 0 := q9pC (q9evZ w0) (q9evS ae0) (hL _ (List.mem_of_getElem? (i := 0) rfl))
  have rg0 : (1 : Int) ≤ 1 ∧ (1 : Int) ≤ 1 := by omega
  obtain ⟨x1, nt1⟩ : ∃ x : Int32, x.toInt = 1 := ⟨Int32.ofInt (1), q9oI_toInt (by omega)⟩
  have u_ : q9upN w 2 [.int x1] 0 = .int 0 := q9upN_of (by decide) w0
  have u0 : q9upN w 2 [.int x1] 1 = .int x0 := q9upN_of (by decide) ae0
  have u1 : q9upN w 2 [.int x1] 2 = .int x1 := q9upN_at (by decide)
  refine ⟨[.int x1], fun i9 p9 hq9 => ?_, fun _ h => absurd h List.not_mem_nil, fun _ h => absurd h List.not_mem_nil⟩
  · match i9, hq9 with
    | 0, hq9 =>
      have hp9 : ((1460, (1, 0), (0, 0), (0, 1, 1)) : Nat × q9AV × q9AV × q9ET) = p9 := Option.some.inj hq9
      subst hp9
      exact ⟨⟨x1, rfl, by rw [nt1]; exact rg0.1, by rw [nt1]; exact rg0.2⟩, (q9th_tX (T := T) (N := N) (P := P) (J := J) (t0 := t0) (Sc := Sc) (q9evS u0) (q9evZ u_) (q9evS u1) (by rw [q9FF_1460, nt1]; exact (by unfold q9axwI; rw [if_neg (by rw [K0]; decide), if_pos K1])) (by decide)).trans (congrArg some (q9evS u1))⟩
    | k9 + 1, hq9 => exact nomatch (show (none : Option (Nat × q9AV × q9AV × q9ET)) = some p9 from hq9)
theorem q9ru_aw2 (hT : ∀ i, 0 ≤ T i ∧ T i ≤ 255) (hN : 0 ≤ N ∧ N ≤ 400) (hSc : 0 ≤ Sc 1 ∧ Sc 1 ≤ 400 → N = Sc 1) : q9ruOK (fO T N P J t0 Sc) q9R_aw2 := by
  intro w w0 hA hX hL hV hR
  obtain ⟨x0, ae0, -, -⟩ := hA 0 0 rfl
  have kz : (0 : Int32).toInt = 0 := rfl
  have V0 := q9pV (T := T) (N := N) (P := P) (J := J) (t0 := t0) (Sc := Sc) (op := 1116) (n := 0) (q9evS ae0) (q9evZ w0) (hV _ (List.mem_of_getElem? (i := 0) rfl)) (by decide)
  rw [q9FF_1116] at V0
  have K0 := Option.some.inj V0
  try simp only [kz] at K0
  have V1 := q9pV (T := T) (N := N) (P := P) (J := J) (t0 := t0) (Sc := Sc) (op := 1117) (n := 0) (q9evS ae0) (q9evZ w0) (hV _ (List.mem_of_getElem? (i := 1) rfl)) (by decide)
  rw [q9FF_1117] at V1
  have K1 := Option.some.inj V1
  try simp only [kz] at K1
  have V2 := q9pV (T := T) (N := N) (P := P) (J := J) (t0 := t0) (Sc := Sc) (op := 1118) (n := 1) (q9evS ae0) (q9evZ w0) (hV _ (List.mem_of_getElem? (i := 2) rfl)) (by decide)
  rw [q9FF_1118] at V2
  have K2 := Option.some.inj V2
  try simp only [kz] at K2
  have L0 : (0 : Int32).toInt ≤ x0.toInt + 0 := q9pC (q9evZ w0) (q9evS ae0) (hL _ (List.mem_of_getElem? (i := 0) rfl))
  have rg0 : (2 : Int) ≤ 2 ∧ (2 : Int) ≤ 2 := by omega
  obtain ⟨x1, nt1⟩ : ∃ x : Int32, x.toInt = 2 := ⟨Int32.ofInt (2), q9oI_toInt (by omega)⟩
  have u_ : q9upN w 2 [.int x1] 0 = .int 0 := q9upN_of (by decide) w0
  have u0 : q9upN w 2 [.int x1] 1 = .int x0 := q9upN_of (by decide) ae0
  have u1 : q9upN w 2 [.int x1] 2 = .int x1 := q9upN_at (by decide)
  refine ⟨[.int x1], fun i9 p9 hq9 => ?_, fun _ h => absurd h List.not_mem_nil, fun _ h => absurd h List.not_mem_nil⟩
  · match i9, hq9 with
    | 0, hq9 =>
      have hp9 : ((1460, (1, 0), (0, 0), (0, 2, 2)) : Nat × q9AV × q9AV × q9ET) = p9 := Option.some.inj hq9
      subst hp9
      exact ⟨⟨x1, rfl, by rw [nt1]; exact rg0.1, by rw [nt1]; exact rg0.2⟩, (q9th_tX (T := T) (N := N) (P := P) (J := J) (t0 := t0) (Sc := Sc) (q9evS u0) (q9evZ u_) (q9evS u1) (by rw [q9FF_1460, nt1]; exact (by unfold q9axwI; rw [if_neg (by rw [K0]; decide), if_neg (by rw [K1]; decide)])) (by decide)).trans (congrArg some (q9evS u1))⟩
    | k9 + 1, hq9 => exact nomatch (show (none : Option (Nat × q9AV × q9AV × q9ET)) = some p9 from hq9)
theorem q9ru_lw6 (hT : ∀ i, 0 ≤ T i ∧ T i ≤ 255) (hN : 0 ≤ N ∧ N ≤ 400) (hSc : 0 ≤ Sc 1 ∧ Sc 1 ≤ 400 → N = Sc 1) : q9ruOK (fO T N P J t0 Sc) q9R_lw6 := by
  intro w w0 hA hX hL hV hR
  obtain ⟨x0, ae0, -, -⟩ := hA 0 0 rfl
  obtain ⟨x1, ae1, -, -⟩ := hA 1 0 rfl
  obtain ⟨x2, ae2, -, -⟩ := hA 2 0 rfl
  have kz : (0 : Int32).toInt = 0 := rfl
  have X0 := q9th_pX (T := T) (N := N) (P := P) (J := J) (t0 := t0) (Sc := Sc) (op := 1002) (q9evS ae0) (q9evZ w0) (q9evS ae1) (hX _ (List.mem_of_getElem? (i := 0) rfl)) (by decide)
  rw [q9FF_1002] at X0
  have H0 := Option.some.inj X0
  try simp only [kz] at H0
  have X1 := q9th_pX (T := T) (N := N) (P := P) (J := J) (t0 := t0) (Sc := Sc) (op := 1460) (q9evS ae1) (q9evZ w0) (q9evS ae2) (hX _ (List.mem_of_getElem? (i := 1) rfl)) (by decide)
  rw [q9FF_1460] at X1
  have H1 := Option.some.inj X1
  try simp only [kz] at H1
  have L0 : (0 : Int32).toInt ≤ x0.toInt + 0 := q9pC (q9evZ w0) (q9evS ae0) (hL _ (List.mem_of_getElem? (i := 0) rfl))
  have u_ : q9upN w 4 [] 0 = .int 0 := q9upN_of (by decide) w0
  have u0 : q9upN w 4 [] 1 = .int x0 := q9upN_of (by decide) ae0
  have u1 : q9upN w 4 [] 2 = .int x1 := q9upN_of (by decide) ae1
  have u2 : q9upN w 4 [] 3 = .int x2 := q9upN_of (by decide) ae2
  refine ⟨[], fun i9 p9 hq9 => ?_, List.forall_mem_cons.mpr ⟨?_, fun _ h => absurd h List.not_mem_nil⟩, fun _ h => absurd h List.not_mem_nil⟩
  · exact nomatch (show (none : Option (Nat × q9AV × q9AV × q9ET)) = some p9 from hq9)
  · exact q9th_tX (T := T) (N := N) (P := P) (J := J) (t0 := t0) (Sc := Sc) (q9evS u0) (q9evZ u_) (q9evS u2) (by rw [q9FF_1461]; exact (by unfold q9lwhI; rw [H0, H1])) (by decide)
theorem q9ru_lv6 (hT : ∀ i, 0 ≤ T i ∧ T i ≤ 255) (hN : 0 ≤ N ∧ N ≤ 400) (hSc : 0 ≤ Sc 1 ∧ Sc 1 ≤ 400 → N = Sc 1) : q9ruOK (fO T N P J t0 Sc) q9R_lv6 := by
  intro w w0 hA hX hL hV hR
  obtain ⟨x0, ae0, -, -⟩ := hA 0 0 rfl
  obtain ⟨x1, ae1, -, -⟩ := hA 1 0 rfl
  obtain ⟨x2, ae2, -, -⟩ := hA 2 0 rfl
  obtain ⟨x3, ae3, -, -⟩ := hA 3 0 rfl
  have kz : (0 : Int32).toInt = 0 := rfl
  have X0 := q9th_pX (T := T) (N := N) (P := P) (J := J) (t0 := t0) (Sc := Sc) (op := 1221) (q9evS ae0) (q9evZ w0) (q9evS ae1) (hX _ (List.mem_of_getElem? (i := 0) rfl)) (by decide)
  rw [q9FF_1221] at X0
  have H0 := Option.some.inj X0
  try simp only [kz] at H0
  have X1 := q9th_pX (T := T) (N := N) (P := P) (J := J) (t0 := t0) (Sc := Sc) (op := 1002) (q9evS ae1) (q9evZ w0) (q9evS ae2) (hX _ (List.mem_of_getElem? (i := 1) rfl)) (by decide)
  rw [q9FF_1002] at X1
  have H1 := Option.some.inj X1
  try simp only [kz] at H1
  have X2 := q9th_pX (T := T) (N := N) (P := P) (J := J) (t0 := t0) (Sc := Sc) (op := 1005) (q9evS ae2) (q9evZ w0) (q9evS ae3) (hX _ (List.mem_of_getElem? (i := 2) rfl)) (by decide)
  rw [q9FF_1005] at X2
  have H2 := Option.some.inj X2
  try simp only [kz] at H2
  have L0 : (0 : Int32).toInt ≤ x0.toInt + 0 := q9pC (q9evZ w0) (q9evS ae0) (hL _ (List.mem_of_getElem? (i := 0) rfl))
  have q1 : (q9tkW T N [16, 17, 18] x0.toInt).2 = x1.toInt := H0
  have u_ : q9upN w 5 [] 0 = .int 0 := q9upN_of (by decide) w0
  have u0 : q9upN w 5 [] 1 = .int x0 := q9upN_of (by decide) ae0
  have u1 : q9upN w 5 [] 2 = .int x1 := q9upN_of (by decide) ae1
  have u2 : q9upN w 5 [] 3 = .int x2 := q9upN_of (by decide) ae2
  have u3 : q9upN w 5 [] 4 = .int x3 := q9upN_of (by decide) ae3
  refine ⟨[], fun i9 p9 hq9 => ?_, List.forall_mem_cons.mpr ⟨?_, fun _ h => absurd h List.not_mem_nil⟩, fun _ h => absurd h List.not_mem_nil⟩
  · exact nomatch (show (none : Option (Nat × q9AV × q9AV × q9ET)) = some p9 from hq9)
  · exact q9th_tX (T := T) (N := N) (P := P) (J := J) (t0 := t0) (Sc := Sc) (q9evS u0) (q9evZ u_) (q9evS u3) (by rw [q9FF_1462]; exact (by unfold q9lvlI; rw [q1, H1, H2])) (by decide)
theorem q9ru_le6 (hT : ∀ i, 0 ≤ T i ∧ T i ≤ 255) (hN : 0 ≤ N ∧ N ≤ 400) (hSc : 0 ≤ Sc 1 ∧ Sc 1 ≤ 400 → N = Sc 1) : q9ruOK (fO T N P J t0 Sc) q9R_le6 := by
  intro w w0 hA hX hL hV hR
  obtain ⟨x0, ae0, -, -⟩ := hA 0 0 rfl
  obtain ⟨x1, ae1, -, -⟩ := hA 1 0 rfl
  obtain ⟨x2, ae2, -, -⟩ := hA 2 0 rfl
  obtain ⟨x3, ae3, -, -⟩ := hA 3 0 rfl
  obtain ⟨x4, ae4, -, -⟩ := hA 4 0 rfl
  obtain ⟨x5, ae5, -, -⟩ := hA 5 0 rfl
  have kz : (0 : Int32).toInt = 0 := rfl
  have X0 := q9th_pX (T := T) (N := N) (P := P) (J := J) (t0 := t0) (Sc := Sc) (op := 1221) (q9evS ae0) (q9evZ w0) (q9evS ae1) (hX _ (List.mem_of_getElem? (i := 0) rfl)) (by decide)
  rw [q9FF_1221] at X0
  have H0 := Option.some.inj X0
  try simp only [kz] at H0
  have X1 := q9th_pX (T := T) (N := N) (P := P) (J := J) (t0 := t0) (Sc := Sc) (op := 1209) (q9evS ae1) (q9evZ w0) (q9evS ae2) (hX _ (List.mem_of_getElem? (i := 1) rfl)) (by decide)
  rw [q9FF_1209] at X1
  have H1 := Option.some.inj X1
  try simp only [kz] at H1
  have X2 := q9th_pX (T := T) (N := N) (P := P) (J := J) (t0 := t0) (Sc := Sc) (op := 1217) (q9evS ae2) (q9evZ w0) (q9evS ae3) (hX _ (List.mem_of_getElem? (i := 2) rfl)) (by decide)
  rw [q9FF_1217] at X2
  have H2 := Option.some.inj X2
  try simp only [kz] at H2
  have X3 := q9th_pX (T := T) (N := N) (P := P) (J := J) (t0 := t0) (Sc := Sc) (op := 1205) (q9evS ae3) (q9evZ w0) (q9evS ae4) (hX _ (List.mem_of_getElem? (i := 3) rfl)) (by decide)
  rw [q9FF_1205] at X3
  have H3 := Option.some.inj X3
  try simp only [kz] at H3
  have X4 := q9th_pX (T := T) (N := N) (P := P) (J := J) (t0 := t0) (Sc := Sc) (op := 1463) (q9evS ae4) (q9evZ w0) (q9evS ae5) (hX _ (List.mem_of_getElem? (i := 4) rfl)) (by decide)
  rw [q9FF_1463] at X4
  have H4 := Option.some.inj X4
  try simp only [kz] at H4
  have L0 : (0 : Int32).toInt ≤ x0.toInt + 0 := q9pC (q9evZ w0) (q9evS ae0) (hL _ (List.mem_of_getElem? (i := 0) rfl))
  have q1 : (q9tkW T N [16, 17, 18] x0.toInt).2 = x1.toInt := H0
  have q2 : (q9tkN T N 0 9999 x1.toInt).2 = x2.toInt := H1
  have q3 : (q9tkW T N [8] x2.toInt).2 = x3.toInt := H2
  have q4 : (q9tkN T N 1 400 x3.toInt).2 = x4.toInt := H3
  have u_ : q9upN w 7 [] 0 = .int 0 := q9upN_of (by decide) w0
  have u0 : q9upN w 7 [] 1 = .int x0 := q9upN_of (by decide) ae0
  have u1 : q9upN w 7 [] 2 = .int x1 := q9upN_of (by decide) ae1
  have u2 : q9upN w 7 [] 3 = .int x2 := q9upN_of (by decide) ae2
  have u3 : q9upN w 7 [] 4 = .int x3 := q9upN_of (by decide) ae3
  have u4 : q9upN w 7 [] 5 = .int x4 := q9upN_of (by decide) ae4
  have u5 : q9upN w 7 [] 6 = .int x5 := q9upN_of (by decide) ae5
  refine ⟨[], fun i9 p9 hq9 => ?_, List.forall_mem_cons.mpr ⟨?_, fun _ h => absurd h List.not_mem_nil⟩, fun _ h => absurd h List.not_mem_nil⟩
  · exact nomatch (show (none : Option (Nat × q9AV × q9AV × q9ET)) = some p9 from hq9)
  · exact q9th_tX (T := T) (N := N) (P := P) (J := J) (t0 := t0) (Sc := Sc) (q9evS u0) (q9evZ u_) (q9evS u5) (by rw [q9FF_1464]; exact (by unfold q9les6I; rw [q1, q2, q3, q4, H4])) (by decide)
theorem q9ru_le1 (hT : ∀ i, 0 ≤ T i ∧ T i ≤ 255) (hN : 0 ≤ N ∧ N ≤ 400) (hSc : 0 ≤ Sc 1 ∧ Sc 1 ≤ 400 → N = Sc 1) : q9ruOK (fO T N P J t0 Sc) q9R_le1 := by
  intro w w0 hA hX hL hV hR
  obtain ⟨x0, ae0, -, -⟩ := hA 0 0 rfl
  obtain ⟨x1, ae1, -, -⟩ := hA 1 0 rfl
  obtain ⟨x2, ae2, -, -⟩ := hA 2 0 rfl
  obtain ⟨x3, ae3, -, -⟩ := hA 3 0 rfl
  obtain ⟨x4, ae4, -, -⟩ := hA 4 0 rfl
  have kz : (0 : Int32).toInt = 0 := rfl
  have X0 := q9th_pX (T := T) (N := N) (P := P) (J := J) (t0 := t0) (Sc := Sc) (op := 1271) (q9evS ae0) (q9evZ w0) (q9evS ae1) (hX _ (List.mem_of_getElem? (i := 0) rfl)) (by decide)
  rw [q9FF_1271] at X0
  have H0 := Option.some.inj X0
  try simp only [kz] at H0
  have X1 := q9th_pX (T := T) (N := N) (P := P) (J := J) (t0 := t0) (Sc := Sc) (op := 1217) (q9evS ae1) (q9evZ w0) (q9evS ae2) (hX _ (List.mem_of_getElem? (i := 1) rfl)) (by decide)
  rw [q9FF_1217] at X1
  have H1 := Option.some.inj X1
  try simp only [kz] at H1
  have X2 := q9th_pX (T := T) (N := N) (P := P) (J := J) (t0 := t0) (Sc := Sc) (op := 1201) (q9evS ae2) (q9evZ w0) (q9evS ae3) (hX _ (List.mem_of_getElem? (i := 2) rfl)) (by decide)
  rw [q9FF_1201] at X2
  have H2 := Option.some.inj X2
  try simp only [kz] at H2
  have X3 := q9th_pX (T := T) (N := N) (P := P) (J := J) (t0 := t0) (Sc := Sc) (op := 1463) (q9evS ae3) (q9evZ w0) (q9evS ae4) (hX _ (List.mem_of_getElem? (i := 3) rfl)) (by decide)
  rw [q9FF_1463] at X3
  have H3 := Option.some.inj X3
  try simp only [kz] at H3
  have L0 : (0 : Int32).toInt ≤ x0.toInt + 0 := q9pC (q9evZ w0) (q9evS ae0) (hL _ (List.mem_of_getElem? (i := 0) rfl))
  have q1 : (q9tk35 T N P J x0.toInt).2 = x1.toInt := H0
  have q3 : (q9tkW T N [8] x1.toInt).2 = x2.toInt := H1
  have q4 : (q9tkN T N 1 200 x2.toInt).2 = x3.toInt := H2
  have u_ : q9upN w 6 [] 0 = .int 0 := q9upN_of (by decide) w0
  have u0 : q9upN w 6 [] 1 = .int x0 := q9upN_of (by decide) ae0
  have u1 : q9upN w 6 [] 2 = .int x1 := q9upN_of (by decide) ae1
  have u2 : q9upN w 6 [] 3 = .int x2 := q9upN_of (by decide) ae2
  have u3 : q9upN w 6 [] 4 = .int x3 := q9upN_of (by decide) ae3
  have u4 : q9upN w 6 [] 5 = .int x4 := q9upN_of (by decide) ae4
  refine ⟨[], fun i9 p9 hq9 => ?_, List.forall_mem_cons.mpr ⟨?_, fun _ h => absurd h List.not_mem_nil⟩, fun _ h => absurd h List.not_mem_nil⟩
  · exact nomatch (show (none : Option (Nat × q9AV × q9AV × q9ET)) = some p9 from hq9)
  · exact q9th_tX (T := T) (N := N) (P := P) (J := J) (t0 := t0) (Sc := Sc) (q9evS u0) (q9evZ u_) (q9evS u4) (by rw [q9FF_1465]; exact (by unfold q9les1I; rw [q1, q3, q4, H3])) (by decide)
theorem q9ruP_13 (hT : ∀ i, 0 ≤ T i ∧ T i ≤ 255) (hN : 0 ≤ N ∧ N ≤ 400) (hSc : 0 ≤ Sc 1 ∧ Sc 1 ≤ 400 → N = Sc 1) : ∀ q ∈ q9RULES_13, q9ruOK (fO T N P J t0 Sc) q := List.forall_mem_cons.mpr ⟨q9ru_ffr hT hN hSc, List.forall_mem_cons.mpr ⟨q9ru_ffi hT hN hSc, List.forall_mem_cons.mpr ⟨q9ru_fwk0 hT hN hSc, List.forall_mem_cons.mpr ⟨q9ru_fwk1 hT hN hSc, List.forall_mem_cons.mpr ⟨q9ru_fwk2 hT hN hSc, List.forall_mem_cons.mpr ⟨q9ru_fwk3 hT hN hSc, List.forall_mem_cons.mpr ⟨q9ru_fwk4 hT hN hSc, List.forall_mem_cons.mpr ⟨q9ru_onn hT hN hSc, List.forall_mem_cons.mpr ⟨q9ru_eFIN hT hN hSc, List.forall_mem_cons.mpr ⟨q9ru_cde hT hN hSc, List.forall_mem_cons.mpr ⟨q9ru_cdf hT hN hSc, List.forall_mem_cons.mpr ⟨q9ru_sgz hT hN hSc, List.forall_mem_cons.mpr ⟨q9ru_dec1 hT hN hSc, List.forall_mem_cons.mpr ⟨q9ru_dbl hT hN hSc, List.forall_mem_cons.mpr ⟨q9ru_wh1 hT hN hSc, List.forall_mem_cons.mpr ⟨q9ru_fda hT hN hSc, List.forall_mem_cons.mpr ⟨q9ru_fdb hT hN hSc, List.forall_mem_cons.mpr ⟨q9ru_fdc hT hN hSc, List.forall_mem_cons.mpr ⟨q9ru_fdn hT hN hSc, List.forall_mem_cons.mpr ⟨q9ru_fra hT hN hSc, List.forall_mem_cons.mpr ⟨q9ru_frb hT hN hSc, List.forall_mem_cons.mpr ⟨q9ru_ec0 hT hN hSc, List.forall_mem_cons.mpr ⟨q9ru_er0 hT hN hSc, List.forall_mem_cons.mpr ⟨q9ru_e1 hT hN hSc, List.forall_mem_cons.mpr ⟨q9ru_e2 hT hN hSc, List.forall_mem_cons.mpr ⟨q9ru_e3a hT hN hSc, List.forall_mem_cons.mpr ⟨q9ru_e3b hT hN hSc, List.forall_mem_cons.mpr ⟨q9ru_evl hT hN hSc, List.forall_mem_cons.mpr ⟨q9ru_evh hT hN hSc, List.forall_mem_cons.mpr ⟨q9ru_ev9 hT hN hSc, List.forall_mem_cons.mpr ⟨q9ru_ev10 hT hN hSc, List.forall_mem_cons.mpr ⟨q9ru_ev11 hT hN hSc, List.forall_mem_cons.mpr ⟨q9ru_ev12 hT hN hSc, List.forall_mem_cons.mpr ⟨q9ru_aw0 hT hN hSc, List.forall_mem_cons.mpr ⟨q9ru_aw1 hT hN hSc, List.forall_mem_cons.mpr ⟨q9ru_aw2 hT hN hSc, List.forall_mem_cons.mpr ⟨q9ru_lw6 hT hN hSc, List.forall_mem_cons.mpr ⟨q9ru_lv6 hT hN hSc, List.forall_mem_cons.mpr ⟨q9ru_le6 hT hN hSc, List.forall_mem_cons.mpr ⟨q9ru_le1 hT hN hSc, fun _ h => absurd h List.not_mem_nil⟩⟩⟩⟩⟩⟩⟩⟩⟩⟩⟩⟩⟩⟩⟩⟩⟩⟩⟩⟩⟩⟩⟩⟩⟩⟩⟩⟩⟩⟩⟩⟩⟩⟩⟩⟩⟩⟩⟩⟩
end RUL
