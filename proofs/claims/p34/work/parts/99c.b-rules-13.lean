section RUL
variable {T : Int → Int} {N P : Int} {J : Int → Int} {t0 : Int} {Sc : Int → Int}
theorem q9ru_ffr (hT : ∀ i, 0 ≤ T i ∧ T i ≤ 255) (hN : 0 ≤ N ∧ N ≤ 400) (hSc : 0 ≤ Sc 1 ∧ Sc 1 ≤ 400 → N = Sc 1) : q9ruOK (fO T N P J t0 Sc) q9R_ffr := by
  intro w w0 hA hX hL hV hR
  obtain ⟨x0, ae0, -, -⟩ := hA 0 0 rfl
  obtain ⟨x1, ae1, -, -⟩ := hA 1 1 rfl
  obtain ⟨x2, ae2, -, -⟩ := hA 2 1 rfl
  have kz : (0 : Int32).toInt = 0 := rfl
  have V0 := q9pV (T := T) (N := N) (P := P) (J := J) (t0 := t0) (Sc := Sc) (op := 1040) (n := 0) (q9evZ w0) (q9evZ w0) (hV _ (List.mem_of_getElem? (i := 0) rfl)) (by decide)
  rw [q9FF_1040] at V0
  have K0 := q9chV_of V0
  try simp only [kz] at K0
  have X0 := q9th_pX (T := T) (N := N) (P := P) (J := J) (t0 := t0) (Sc := Sc) (op := 1042) (q9evZ w0) (q9evZ w0) (q9evS ae0) (hX _ (List.mem_of_getElem? (i := 0) rfl)) (by decide)
  rw [q9FF_1042] at X0
  have H0 := q9chV_of X0
  try simp only [kz] at H0
  have X1 := q9pL (T := T) (N := N) (P := P) (J := J) (t0 := t0) (Sc := Sc) (op := 1053) (q9evZ w0) (q9evS ae0) (q9evS ae1) (hX _ (List.mem_of_getElem? (i := 1) rfl)) (by decide)
  rw [q9FL_1053] at X1
  have H1 := q9chV_of X1
  try simp only [kz] at H1
  have X2 := q9pL (T := T) (N := N) (P := P) (J := J) (t0 := t0) (Sc := Sc) (op := 1054) (q9evZ w0) (q9evS ae0) (q9evS ae2) (hX _ (List.mem_of_getElem? (i := 2) rfl)) (by decide)
  rw [q9FL_1054] at X2
  have H2 := q9chV_of X2
  try simp only [kz] at H2
  obtain ⟨c, hv, hn, hed, hz⟩ := H0
  obtain ⟨n, d, h1⟩ := H1
  obtain ⟨n2, f, h2⟩ := H2
  have ed := (q9hs_one hN.1 _ _ _ _ _ _ _ _ h1 h2).2
  subst ed
  obtain ⟨q, hq⟩ := List.length_eq_one_iff.mp hed.2
  have hs := q9vis_hs hN.1 hv
  rw [hq] at hs
  obtain ⟨⟨n3, d3, k1, k2⟩, -⟩ := hs
  rw [if_pos rfl] at k2
  have hb := q9vis_base hv
  have hb : some (q.1, q.2.1) = some ((-1, 0) : Int × Int) := by rw [show q9th_stP c = [(q.1, q.2.1)] by unfold q9th_stP; rw [hq]; rfl] at hb; exact hb
  have hq1 : q.1 = -1 := congrArg Prod.fst (Option.some.inj hb)
  rw [hq1] at k1
  have e := q9hs_one hN.1 _ _ _ _ _ _ _ _ k1 (by rw [← hz]; exact h1)
  have he : q9enI c 0 = some q := q9en_top hq (by rw [hed.2]; rfl)
  have u_ : q9upN w 4 [] 0 = .int 0 := q9upN_of (by decide) w0
  have u0 : q9upN w 4 [] 1 = .int x0 := q9upN_of (by decide) ae0
  have u1 : q9upN w 4 [] 2 = .long x1 := q9upN_of (by decide) ae1
  have u2 : q9upN w 4 [] 3 = .long x2 := q9upN_of (by decide) ae2
  refine ⟨[], fun i9 p9 hq9 => ?_, List.forall_mem_cons.mpr ⟨?_, List.forall_mem_cons.mpr ⟨?_, fun _ h => absurd h List.not_mem_nil⟩⟩, fun _ h => absurd h List.not_mem_nil⟩
  · exact nomatch (show (none : Option (Nat × q9AV × q9AV × q9ET)) = some p9 from hq9)
  · exact q9th_tL (T := T) (N := N) (P := P) (J := J) (t0 := t0) (Sc := Sc) (q9evZ u_) (q9evZ u_) (q9evS u1) (by rw [q9FL_1043]; exact (by rw [← q9FL_1043 (a := (0 : Int32).toInt) (b := (0 : Int32).toInt)]; exact q9G_ffr hv hn hed he e.1)) (by decide)
  · exact q9th_tL (T := T) (N := N) (P := P) (J := J) (t0 := t0) (Sc := Sc) (q9evZ u_) (q9evZ u_) (q9evS u2) (by rw [q9FL_1044]; exact (by rw [← q9FL_1044 (a := (0 : Int32).toInt) (b := (0 : Int32).toInt)]; exact q9G_fdn hv hn hed he (by rw [k2, e.2]))) (by decide)
theorem q9ru_ffi (hT : ∀ i, 0 ≤ T i ∧ T i ≤ 255) (hN : 0 ≤ N ∧ N ≤ 400) (hSc : 0 ≤ Sc 1 ∧ Sc 1 ≤ 400 → N = Sc 1) : q9ruOK (fO T N P J t0 Sc) q9R_ffi := by
  intro w w0 hA hX hL hV hR
  obtain ⟨x0, ae0, -, -⟩ := hA 0 1 rfl
  obtain ⟨x1, ae1, -, -⟩ := hA 1 0 rfl
  have kz : (0 : Int32).toInt = 0 := rfl
  have V0 := q9pV (T := T) (N := N) (P := P) (J := J) (t0 := t0) (Sc := Sc) (op := 1045) (n := 0) (q9evZ w0) (q9evZ w0) (hV _ (List.mem_of_getElem? (i := 0) rfl)) (by decide)
  rw [q9FF_1045] at V0
  have K0 := Option.some.inj V0
  try simp only [kz] at K0
  have X0 := q9pL (T := T) (N := N) (P := P) (J := J) (t0 := t0) (Sc := Sc) (op := 1043) (q9evZ w0) (q9evZ w0) (q9evS ae0) (hX _ (List.mem_of_getElem? (i := 0) rfl)) (by decide)
  rw [q9FL_1043] at X0
  have H0 := q9chV_of X0
  try simp only [kz] at H0
  have X1 := q9pB (T := T) (N := N) (P := P) (J := J) (t0 := t0) (Sc := Sc) (q9evS ae0) (q9evS ae0) (q9evS ae1) (hX _ (List.mem_of_getElem? (i := 1) rfl))
  have L0 : (0 : Int32).toInt ≤ x1.toInt + 0 := q9pC (q9evZ w0) (q9evS ae1) (hL _ (List.mem_of_getElem? (i := 0) rfl))
  obtain ⟨c, hv, hn, hed, e, he, f1⟩ := H0
  have hF : finI T N P J = _ := (q9fin_of hv hn).trans (q9fn_ed (P := P) (J := J) hed he)
  have hcond : 1 ≤ e.2.2.1.toInt ∧ e.2.2.1.toInt ≤ 400 ∧ e.2.2.2.toInt ≤ 2000 := by
    by_cases hc : 1 ≤ e.2.2.1.toInt ∧ e.2.2.1.toInt ≤ 400 ∧ e.2.2.2.toInt ≤ 2000
    · exact hc
    · rw [if_neg hc] at hF
      rw [hF] at K0
      exact absurd K0 (by show ¬ (4 : Int) = 0; decide)
  rw [if_pos hcond] at hF
  have e1 : x0.toInt32 = x1 := Value.int.inj (Option.some.inj (X1 : some (Value.int x0.toInt32) = some (.int x1)))
  have e2 : x1.toInt = x0.toInt := by rw [← e1, Int64.toInt_toInt32, f1, Int.bmod_eq_of_le (by omega) (by omega)]
  have u_ : q9upN w 3 [] 0 = .int 0 := q9upN_of (by decide) w0
  have u0 : q9upN w 3 [] 1 = .long x0 := q9upN_of (by decide) ae0
  have u1 : q9upN w 3 [] 2 = .int x1 := q9upN_of (by decide) ae1
  refine ⟨[], fun i9 p9 hq9 => ?_, List.forall_mem_cons.mpr ⟨?_, fun _ h => absurd h List.not_mem_nil⟩, fun _ h => absurd h List.not_mem_nil⟩
  · exact nomatch (show (none : Option (Nat × q9AV × q9AV × q9ET)) = some p9 from hq9)
  · exact q9th_tX (T := T) (N := N) (P := P) (J := J) (t0 := t0) (Sc := Sc) (q9evZ u_) (q9evZ u_) (q9evS u1) (by rw [q9FF_1047]; exact (by rw [hF, e2, f1])) (by decide)
theorem q9ru_fwk0 (hT : ∀ i, 0 ≤ T i ∧ T i ≤ 255) (hN : 0 ≤ N ∧ N ≤ 400) (hSc : 0 ≤ Sc 1 ∧ Sc 1 ≤ 400 → N = Sc 1) : q9ruOK (fO T N P J t0 Sc) q9R_fwk0 := by
  intro w w0 hA hX hL hV hR
  obtain ⟨x0, ae0, -, -⟩ := hA 0 0 rfl
  obtain ⟨x1, ae1, -, -⟩ := hA 1 0 rfl
  have kz : (0 : Int32).toInt = 0 := rfl
  have k1 : (Int32.ofInt 1).toInt = 1 := q9oI_toInt (by decide)
  have k380 : (Int32.ofInt 380).toInt = 380 := q9oI_toInt (by decide)
  have X0 := q9th_pX (T := T) (N := N) (P := P) (J := J) (t0 := t0) (Sc := Sc) (op := 1064) (q9evZ w0) (q9evZ w0) (q9evS ae0) (hX _ (List.mem_of_getElem? (i := 0) rfl)) (by decide)
  rw [q9FF_1064] at X0
  have H0 := Option.some.inj X0
  try simp only [kz, k1, k380] at H0
  have X1 := q9th_pX (T := T) (N := N) (P := P) (J := J) (t0 := t0) (Sc := Sc) (op := 1063) (q9evC w0 1) (q9evZ w0) (q9evS ae1) (hX _ (List.mem_of_getElem? (i := 1) rfl)) (by decide)
  rw [q9FF_1063] at X1
  have H1 := Option.some.inj X1
  try simp only [kz, k1, k380] at H1
  have L0 : (0 : Int32).toInt ≤ x0.toInt + 0 := q9pC (q9evZ w0) (q9evS ae0) (hL _ (List.mem_of_getElem? (i := 0) rfl))
  have L1 : x0.toInt ≤ (Int32.ofInt 380).toInt + 0 := q9pC (q9evS ae0) (q9evC w0 380) (hL _ (List.mem_of_getElem? (i := 1) rfl))
  have ht : t0 = x0.toInt := H0
  have hs : Sc 1 = x1.toInt := H1
  have u_ : q9upN w 3 [] 0 = .int 0 := q9upN_of (by decide) w0
  have u0 : q9upN w 3 [] 1 = .int x0 := q9upN_of (by decide) ae0
  have u1 : q9upN w 3 [] 2 = .int x1 := q9upN_of (by decide) ae1
  refine ⟨[], fun i9 p9 hq9 => ?_, List.forall_mem_cons.mpr ⟨?_, fun _ h => absurd h List.not_mem_nil⟩, fun _ h => absurd h List.not_mem_nil⟩
  · exact nomatch (show (none : Option (Nat × q9AV × q9AV × q9ET)) = some p9 from hq9)
  · exact q9th_tX (T := T) (N := N) (P := P) (J := J) (t0 := t0) (Sc := Sc) (q9evS u0) (q9evZ u_) (q9evS u1) (by rw [q9FF_1059]; exact (by rw [if_pos (by omega), show (x0.toInt - t0) / 4 + 1 = 1 by omega, hs])) (by decide)
theorem q9ru_fwk1 (hT : ∀ i, 0 ≤ T i ∧ T i ≤ 255) (hN : 0 ≤ N ∧ N ≤ 400) (hSc : 0 ≤ Sc 1 ∧ Sc 1 ≤ 400 → N = Sc 1) : q9ruOK (fO T N P J t0 Sc) q9R_fwk1 := by
  intro w w0 hA hX hL hV hR
  obtain ⟨x0, ae0, -, -⟩ := hA 0 0 rfl
  obtain ⟨x1, ae1, -, -⟩ := hA 1 0 rfl
  have kz : (0 : Int32).toInt = 0 := rfl
  have k2 : (Int32.ofInt 2).toInt = 2 := q9oI_toInt (by decide)
  have k380 : (Int32.ofInt 380).toInt = 380 := q9oI_toInt (by decide)
  have X0 := q9th_pX (T := T) (N := N) (P := P) (J := J) (t0 := t0) (Sc := Sc) (op := 1064) (q9evZ w0) (q9evZ w0) (q9evS ae0) (hX _ (List.mem_of_getElem? (i := 0) rfl)) (by decide)
  rw [q9FF_1064] at X0
  have H0 := Option.some.inj X0
  try simp only [kz, k2, k380] at H0
  have X1 := q9th_pX (T := T) (N := N) (P := P) (J := J) (t0 := t0) (Sc := Sc) (op := 1063) (q9evC w0 2) (q9evZ w0) (q9evS ae1) (hX _ (List.mem_of_getElem? (i := 1) rfl)) (by decide)
  rw [q9FF_1063] at X1
  have H1 := Option.some.inj X1
  try simp only [kz, k2, k380] at H1
  have L0 : (0 : Int32).toInt ≤ x0.toInt + 0 := q9pC (q9evZ w0) (q9evS ae0) (hL _ (List.mem_of_getElem? (i := 0) rfl))
  have L1 : x0.toInt ≤ (Int32.ofInt 380).toInt + 0 := q9pC (q9evS ae0) (q9evC w0 380) (hL _ (List.mem_of_getElem? (i := 1) rfl))
  have ht : t0 = x0.toInt := H0
  have hs : Sc 2 = x1.toInt := H1
  have a9 := q9ad32 (x := x0) (d := 4) (by omega)
  have u_ : q9upN w 3 [] 0 = .int 0 := q9upN_of (by decide) w0
  have u0 : q9upN w 3 [] 1 = .int x0 := q9upN_of (by decide) ae0
  have u1 : q9upN w 3 [] 2 = .int x1 := q9upN_of (by decide) ae1
  refine ⟨[], fun i9 p9 hq9 => ?_, List.forall_mem_cons.mpr ⟨?_, fun _ h => absurd h List.not_mem_nil⟩, fun _ h => absurd h List.not_mem_nil⟩
  · exact nomatch (show (none : Option (Nat × q9AV × q9AV × q9ET)) = some p9 from hq9)
  · exact q9th_tX (T := T) (N := N) (P := P) (J := J) (t0 := t0) (Sc := Sc) (q9evO u0 4) (q9evZ u_) (q9evS u1) (by rw [q9FF_1059]; exact (by rw [a9, if_pos (by omega), show (x0.toInt + 4 - t0) / 4 + 1 = 2 by omega, hs])) (by decide)
theorem q9ru_fwk2 (hT : ∀ i, 0 ≤ T i ∧ T i ≤ 255) (hN : 0 ≤ N ∧ N ≤ 400) (hSc : 0 ≤ Sc 1 ∧ Sc 1 ≤ 400 → N = Sc 1) : q9ruOK (fO T N P J t0 Sc) q9R_fwk2 := by
  intro w w0 hA hX hL hV hR
  obtain ⟨x0, ae0, -, -⟩ := hA 0 0 rfl
  obtain ⟨x1, ae1, -, -⟩ := hA 1 0 rfl
  have kz : (0 : Int32).toInt = 0 := rfl
  have k3 : (Int32.ofInt 3).toInt = 3 := q9oI_toInt (by decide)
  have k380 : (Int32.ofInt 380).toInt = 380 := q9oI_toInt (by decide)
  have X0 := q9th_pX (T := T) (N := N) (P := P) (J := J) (t0 := t0) (Sc := Sc) (op := 1064) (q9evZ w0) (q9evZ w0) (q9evS ae0) (hX _ (List.mem_of_getElem? (i := 0) rfl)) (by decide)
  rw [q9FF_1064] at X0
  have H0 := Option.some.inj X0
  try simp only [kz, k3, k380] at H0
  have X1 := q9th_pX (T := T) (N := N) (P := P) (J := J) (t0 := t0) (Sc := Sc) (op := 1063) (q9evC w0 3) (q9evZ w0) (q9evS ae1) (hX _ (List.mem_of_getElem? (i := 1) rfl)) (by decide)
  rw [q9FF_1063] at X1
  have H1 := Option.some.inj X1
  try simp only [kz, k3, k380] at H1
  have L0 : (0 : Int32).toInt ≤ x0.toInt + 0 := q9pC (q9evZ w0) (q9evS ae0) (hL _ (List.mem_of_getElem? (i := 0) rfl))
  have L1 : x0.toInt ≤ (Int32.ofInt 380).toInt + 0 := q9pC (q9evS ae0) (q9evC w0 380) (hL _ (List.mem_of_getElem? (i := 1) rfl))
  have ht : t0 = x0.toInt := H0
  have hs : Sc 3 = x1.toInt := H1
  have a9 := q9ad32 (x := x0) (d := 8) (by omega)
  have u_ : q9upN w 3 [] 0 = .int 0 := q9upN_of (by decide) w0
  have u0 : q9upN w 3 [] 1 = .int x0 := q9upN_of (by decide) ae0
  have u1 : q9upN w 3 [] 2 = .int x1 := q9upN_of (by decide) ae1
  refine ⟨[], fun i9 p9 hq9 => ?_, List.forall_mem_cons.mpr ⟨?_, fun _ h => absurd h List.not_mem_nil⟩, fun _ h => absurd h List.not_mem_nil⟩
  · exact nomatch (show (none : Option (Nat × q9AV × q9AV × q9ET)) = some p9 from hq9)
  · exact q9th_tX (T := T) (N := N) (P := P) (J := J) (t0 := t0) (Sc := Sc) (q9evO u0 8) (q9evZ u_) (q9evS u1) (by rw [q9FF_1059]; exact (by rw [a9, if_pos (by omega), show (x0.toInt + 8 - t0) / 4 + 1 = 3 by omega, hs])) (by decide)
theorem q9ru_fwk3 (hT : ∀ i, 0 ≤ T i ∧ T i ≤ 255) (hN : 0 ≤ N ∧ N ≤ 400) (hSc : 0 ≤ Sc 1 ∧ Sc 1 ≤ 400 → N = Sc 1) : q9ruOK (fO T N P J t0 Sc) q9R_fwk3 := by
  intro w w0 hA hX hL hV hR
  obtain ⟨x0, ae0, -, -⟩ := hA 0 0 rfl
  obtain ⟨x1, ae1, -, -⟩ := hA 1 0 rfl
  have kz : (0 : Int32).toInt = 0 := rfl
  have k4 : (Int32.ofInt 4).toInt = 4 := q9oI_toInt (by decide)
  have k380 : (Int32.ofInt 380).toInt = 380 := q9oI_toInt (by decide)
  have X0 := q9th_pX (T := T) (N := N) (P := P) (J := J) (t0 := t0) (Sc := Sc) (op := 1064) (q9evZ w0) (q9evZ w0) (q9evS ae0) (hX _ (List.mem_of_getElem? (i := 0) rfl)) (by decide)
  rw [q9FF_1064] at X0
  have H0 := Option.some.inj X0
  try simp only [kz, k4, k380] at H0
  have X1 := q9th_pX (T := T) (N := N) (P := P) (J := J) (t0 := t0) (Sc := Sc) (op := 1063) (q9evC w0 4) (q9evZ w0) (q9evS ae1) (hX _ (List.mem_of_getElem? (i := 1) rfl)) (by decide)
  rw [q9FF_1063] at X1
  have H1 := Option.some.inj X1
  try simp only [kz, k4, k380] at H1
  have L0 : (0 : Int32).toInt ≤ x0.toInt + 0 := q9pC (q9evZ w0) (q9evS ae0) (hL _ (List.mem_of_getElem? (i := 0) rfl))
  have L1 : x0.toInt ≤ (Int32.ofInt 380).toInt + 0 := q9pC (q9evS ae0) (q9evC w0 380) (hL _ (List.mem_of_getElem? (i := 1) rfl))
  have ht : t0 = x0.toInt := H0
  have hs : Sc 4 = x1.toInt := H1
  have a9 := q9ad32 (x := x0) (d := 12) (by omega)
  have u_ : q9upN w 3 [] 0 = .int 0 := q9upN_of (by decide) w0
  have u0 : q9upN w 3 [] 1 = .int x0 := q9upN_of (by decide) ae0
  have u1 : q9upN w 3 [] 2 = .int x1 := q9upN_of (by decide) ae1
  refine ⟨[], fun i9 p9 hq9 => ?_, List.forall_mem_cons.mpr ⟨?_, fun _ h => absurd h List.not_mem_nil⟩, fun _ h => absurd h List.not_mem_nil⟩
  · exact nomatch (show (none : Option (Nat × q9AV × q9AV × q9ET)) = some p9 from hq9)
  · exact q9th_tX (T := T) (N := N) (P := P) (J := J) (t0 := t0) (Sc := Sc) (q9evO u0 12) (q9evZ u_) (q9evS u1) (by rw [q9FF_1059]; exact (by rw [a9, if_pos (by omega), show (x0.toInt + 12 - t0) / 4 + 1 = 4 by omega, hs])) (by decide)
theorem q9ru_fwk4 (hT : ∀ i, 0 ≤ T i ∧ T i ≤ 255) (hN : 0 ≤ N ∧ N ≤ 400) (hSc : 0 ≤ Sc 1 ∧ Sc 1 ≤ 400 → N = Sc 1) : q9ruOK (fO T N P J t0 Sc) q9R_fwk4 := by
  intro w w0 hA hX hL hV hR
  obtain ⟨x0, ae0, -, -⟩ := hA 0 0 rfl
  obtain ⟨x1, ae1, -, -⟩ := hA 1 0 rfl
  have kz : (0 : Int32).toInt = 0 := rfl
  have k5 : (Int32.ofInt 5).toInt = 5 := q9oI_toInt (by decide)
  have k380 : (Int32.ofInt 380).toInt = 380 := q9oI_toInt (by decide)
  have X0 := q9th_pX (T := T) (N := N) (P := P) (J := J) (t0 := t0) (Sc := Sc) (op := 1064) (q9evZ w0) (q9evZ w0) (q9evS ae0) (hX _ (List.mem_of_getElem? (i := 0) rfl)) (by decide)
  rw [q9FF_1064] at X0
  have H0 := Option.some.inj X0
  try simp only [kz, k5, k380] at H0
  have X1 := q9th_pX (T := T) (N := N) (P := P) (J := J) (t0 := t0) (Sc := Sc) (op := 1063) (q9evC w0 5) (q9evZ w0) (q9evS ae1) (hX _ (List.mem_of_getElem? (i := 1) rfl)) (by decide)
  rw [q9FF_1063] at X1
  have H1 := Option.some.inj X1
  try simp only [kz, k5, k380] at H1
  have L0 : (0 : Int32).toInt ≤ x0.toInt + 0 := q9pC (q9evZ w0) (q9evS ae0) (hL _ (List.mem_of_getElem? (i := 0) rfl))
  have L1 : x0.toInt ≤ (Int32.ofInt 380).toInt + 0 := q9pC (q9evS ae0) (q9evC w0 380) (hL _ (List.mem_of_getElem? (i := 1) rfl))
  have ht : t0 = x0.toInt := H0
  have hs : Sc 5 = x1.toInt := H1
  have a9 := q9ad32 (x := x0) (d := 16) (by omega)
  have u_ : q9upN w 3 [] 0 = .int 0 := q9upN_of (by decide) w0
  have u0 : q9upN w 3 [] 1 = .int x0 := q9upN_of (by decide) ae0
  have u1 : q9upN w 3 [] 2 = .int x1 := q9upN_of (by decide) ae1
  refine ⟨[], fun i9 p9 hq9 => ?_, List.forall_mem_cons.mpr ⟨?_, fun _ h => absurd h List.not_mem_nil⟩, fun _ h => absurd h List.not_mem_nil⟩
  · exact nomatch (show (none : Option (Nat × q9AV × q9AV × q9ET)) = some p9 from hq9)
  · exact q9th_tX (T := T) (N := N) (P := P) (J := J) (t0 := t0) (Sc := Sc) (q9evO u0 16) (q9evZ u_) (q9evS u1) (by rw [q9FF_1059]; exact (by rw [a9, if_pos (by omega), show (x0.toInt + 16 - t0) / 4 + 1 = 5 by omega, hs])) (by decide)
theorem q9ru_onn (hT : ∀ i, 0 ≤ T i ∧ T i ≤ 255) (hN : 0 ≤ N ∧ N ≤ 400) (hSc : 0 ≤ Sc 1 ∧ Sc 1 ≤ 400 → N = Sc 1) : q9ruOK (fO T N P J t0 Sc) q9R_onn := by
  intro w w0 hA hX hL hV hR
  obtain ⟨x0, ae0, -, -⟩ := hA 0 0 rfl
  have kz : (0 : Int32).toInt = 0 := rfl
  have k1 : (Int32.ofInt 1).toInt = 1 := q9oI_toInt (by decide)
  have k400 : (Int32.ofInt 400).toInt = 400 := q9oI_toInt (by decide)
  have X0 := q9th_pX (T := T) (N := N) (P := P) (J := J) (t0 := t0) (Sc := Sc) (op := 1063) (q9evC w0 1) (q9evZ w0) (q9evS ae0) (hX _ (List.mem_of_getElem? (i := 0) rfl)) (by decide)
  rw [q9FF_1063] at X0
  have H0 := Option.some.inj X0
  try simp only [kz, k1, k400] at H0
  have L0 : (0 : Int32).toInt ≤ x0.toInt + 0 := q9pC (q9evZ w0) (q9evS ae0) (hL _ (List.mem_of_getElem? (i := 0) rfl))
  have L1 : x0.toInt ≤ (Int32.ofInt 400).toInt + 0 := q9pC (q9evS ae0) (q9evC w0 400) (hL _ (List.mem_of_getElem? (i := 1) rfl))
  have hs : Sc 1 = x0.toInt := H0
  have := hSc (by omega)
  have u_ : q9upN w 2 [] 0 = .int 0 := q9upN_of (by decide) w0
  have u0 : q9upN w 2 [] 1 = .int x0 := q9upN_of (by decide) ae0
  refine ⟨[], fun i9 p9 hq9 => ?_, List.forall_mem_cons.mpr ⟨?_, fun _ h => absurd h List.not_mem_nil⟩, fun _ h => absurd h List.not_mem_nil⟩
  · exact nomatch (show (none : Option (Nat × q9AV × q9AV × q9ET)) = some p9 from hq9)
  · exact q9th_tX (T := T) (N := N) (P := P) (J := J) (t0 := t0) (Sc := Sc) (q9evZ u_) (q9evZ u_) (q9evS u0) (by rw [q9FF_1018]; exact (by rw [this, hs])) (by decide)
theorem q9ru_eFIN (hT : ∀ i, 0 ≤ T i ∧ T i ≤ 255) (hN : 0 ≤ N ∧ N ≤ 400) (hSc : 0 ≤ Sc 1 ∧ Sc 1 ≤ 400 → N = Sc 1) : q9ruOK (fO T N P J t0 Sc) q9R_eFIN := by
  intro w w0 hA hX hL hV hR
  have kz : (0 : Int32).toInt = 0 := rfl
  have hr := q9fin_rng (T := T) (P := P) (J := J) hN
  have rg0 : (0 : Int) ≤ (finI T N P J).1 ∧ ((finI T N P J).1 : Int) ≤ 9 := ⟨hr.1, hr.2.1⟩
  obtain ⟨x0, nt0⟩ : ∃ x : Int32, x.toInt = (finI T N P J).1 := ⟨Int32.ofInt ((finI T N P J).1), q9oI_toInt (by omega)⟩
  have rg1 : (0 : Int) ≤ (finI T N P J).2.1 ∧ ((finI T N P J).2.1 : Int) ≤ 400 := ⟨hr.2.2.1, hr.2.2.2.1⟩
  obtain ⟨x1, nt1⟩ : ∃ x : Int32, x.toInt = (finI T N P J).2.1 := ⟨Int32.ofInt ((finI T N P J).2.1), q9oI_toInt (by omega)⟩
  have rg2 : (0 : Int) ≤ (finI T N P J).2.2 ∧ ((finI T N P J).2.2 : Int) ≤ 400 := ⟨hr.2.2.2.2.1, hr.2.2.2.2.2⟩
  obtain ⟨x2, nt2⟩ : ∃ x : Int32, x.toInt = (finI T N P J).2.2 := ⟨Int32.ofInt ((finI T N P J).2.2), q9oI_toInt (by omega)⟩
  have u_ : q9upN w 1 [.int x0, .int x1, .int x2] 0 = .int 0 := q9upN_of (by decide) w0
  have u0 : q9upN w 1 [.int x0, .int x1, .int x2] 1 = .int x0 := q9upN_at (by decide)
  have u1 : q9upN w 1 [.int x0, .int x1, .int x2] 2 = .int x1 := q9upN_at (by decide)
  have u2 : q9upN w 1 [.int x0, .int x1, .int x2] 3 = .int x2 := q9upN_at (by decide)
  refine ⟨[.int x0, .int x1, .int x2], fun i9 p9 hq9 => ?_, fun _ h => absurd h List.not_mem_nil, fun _ h => absurd h List.not_mem_nil⟩
  · match i9, hq9 with
    | 0, hq9 =>
      have hp9 : ((1045, (0, 0), (0, 0), (0, 0, 9)) : Nat × q9AV × q9AV × q9ET) = p9 := Option.some.inj hq9
      subst hp9
      exact ⟨⟨x0, rfl, by rw [nt0]; exact rg0.1, by rw [nt0]; exact rg0.2⟩, (q9th_tX (T := T) (N := N) (P := P) (J := J) (t0 := t0) (Sc := Sc) (q9evZ u_) (q9evZ u_) (q9evS u0) (by rw [q9FF_1045, nt0]; first | done | exact rfl) (by decide)).trans (congrArg some (q9evS u0))⟩
    | 1, hq9 =>
      have hp9 : ((1046, (0, 0), (0, 0), (0, 0, 400)) : Nat × q9AV × q9AV × q9ET) = p9 := Option.some.inj hq9
      subst hp9
      exact ⟨⟨x1, rfl, by rw [nt1]; exact rg1.1, by rw [nt1]; exact rg1.2⟩, (q9th_tX (T := T) (N := N) (P := P) (J := J) (t0 := t0) (Sc := Sc) (q9evZ u_) (q9evZ u_) (q9evS u1) (by rw [q9FF_1046, nt1]; first | done | exact rfl) (by decide)).trans (congrArg some (q9evS u1))⟩
    | 2, hq9 =>
      have hp9 : ((1047, (0, 0), (0, 0), (0, 0, 400)) : Nat × q9AV × q9AV × q9ET) = p9 := Option.some.inj hq9
      subst hp9
      exact ⟨⟨x2, rfl, by rw [nt2]; exact rg2.1, by rw [nt2]; exact rg2.2⟩, (q9th_tX (T := T) (N := N) (P := P) (J := J) (t0 := t0) (Sc := Sc) (q9evZ u_) (q9evZ u_) (q9evS u2) (by rw [q9FF_1047, nt2]; first | done | exact rfl) (by decide)).trans (congrArg some (q9evS u2))⟩
    | k9 + 3, hq9 => exact nomatch (show (none : Option (Nat × q9AV × q9AV × q9ET)) = some p9 from hq9)
theorem q9ru_np0_0 (hT : ∀ i, 0 ≤ T i ∧ T i ≤ 255) (hN : 0 ≤ N ∧ N ≤ 400) (hSc : 0 ≤ Sc 1 ∧ Sc 1 ≤ 400 → N = Sc 1) : q9ruOK (fO T N P J t0 Sc) q9R_np0_0 := by
  intro w w0 hA hX hL hV hR
  obtain ⟨x0, ae0, -, -⟩ := hA 0 0 rfl
  have kz : (0 : Int32).toInt = 0 := rfl
  have k399 : (Int32.ofInt 399).toInt = 399 := q9oI_toInt (by decide)
  have L0 : (0 : Int32).toInt ≤ x0.toInt + 0 := q9pC (q9evZ w0) (q9evS ae0) (hL _ (List.mem_of_getElem? (i := 0) rfl))
  have L1 : x0.toInt ≤ (Int32.ofInt 399).toInt + 0 := q9pC (q9evS ae0) (q9evC w0 399) (hL _ (List.mem_of_getElem? (i := 1) rfl))
  have rg0 : (0 : Int) ≤ 0 ∧ (0 : Int) ≤ 0 := by omega
  obtain ⟨x1, nt1⟩ : ∃ x : Int32, x.toInt = 0 := ⟨Int32.ofInt (0), q9oI_toInt (by omega)⟩
  have u_ : q9upN w 2 [.int x1] 0 = .int 0 := q9upN_of (by decide) w0
  have u0 : q9upN w 2 [.int x1] 1 = .int x0 := q9upN_of (by decide) ae0
  have u1 : q9upN w 2 [.int x1] 2 = .int x1 := q9upN_at (by decide)
  refine ⟨[.int x1], fun i9 p9 hq9 => ?_, fun _ h => absurd h List.not_mem_nil, fun _ h => absurd h List.not_mem_nil⟩
  · match i9, hq9 with
    | 0, hq9 =>
      have hp9 : ((1491, (1, 0), (1, 0), (0, 0, 0)) : Nat × q9AV × q9AV × q9ET) = p9 := Option.some.inj hq9
      subst hp9
      exact ⟨⟨x1, rfl, by rw [nt1]; exact rg0.1, by rw [nt1]; exact rg0.2⟩, (q9th_tX (T := T) (N := N) (P := P) (J := J) (t0 := t0) (Sc := Sc) (q9evS u0) (q9evS u0) (q9evS u1) (by rw [q9FF_1491, nt1]; exact (by rw [q9np_0])) (by decide)).trans (congrArg some (q9evS u1))⟩
    | k9 + 1, hq9 => exact nomatch (show (none : Option (Nat × q9AV × q9AV × q9ET)) = some p9 from hq9)
theorem q9ru_npe0 (hT : ∀ i, 0 ≤ T i ∧ T i ≤ 255) (hN : 0 ≤ N ∧ N ≤ 400) (hSc : 0 ≤ Sc 1 ∧ Sc 1 ≤ 400 → N = Sc 1) : q9ruOK (fO T N P J t0 Sc) q9R_npe0 := by
  intro w w0 hA hX hL hV hR
  obtain ⟨x0, ae0, -, -⟩ := hA 0 0 rfl
  obtain ⟨x1, ae1, -, -⟩ := hA 1 0 rfl
  obtain ⟨x2, ae2, -, -⟩ := hA 2 0 rfl
  obtain ⟨x3, ae3, -, -⟩ := hA 3 0 rfl
  have kz : (0 : Int32).toInt = 0 := rfl
  have k399 : (Int32.ofInt 399).toInt = 399 := q9oI_toInt (by decide)
  have X0 := q9th_pX (T := T) (N := N) (P := P) (J := J) (t0 := t0) (Sc := Sc) (op := 1490) (q9evS ae1) (q9evZ w0) (q9evS ae2) (hX _ (List.mem_of_getElem? (i := 0) rfl)) (by decide)
  rw [q9FF_1490] at X0
  have H0 := Option.some.inj X0
  try simp only [kz, k399] at H0
  have L0 : x2.toInt ≤ (0 : Int32).toInt + 0 := q9pC (q9evS ae2) (q9evZ w0) (hL _ (List.mem_of_getElem? (i := 0) rfl))
  have L1 : (0 : Int32).toInt ≤ x2.toInt + 0 := q9pC (q9evZ w0) (q9evS ae2) (hL _ (List.mem_of_getElem? (i := 1) rfl))
  have X1 := q9th_pX (T := T) (N := N) (P := P) (J := J) (t0 := t0) (Sc := Sc) (op := 1491) (q9evS ae0) (q9evS ae1) (q9evS ae3) (hX _ (List.mem_of_getElem? (i := 1) rfl)) (by decide)
  rw [q9FF_1491] at X1
  have H1 := Option.some.inj X1
  try simp only [kz, k399] at H1
  have L2 : x0.toInt ≤ x1.toInt + 0 := q9pC (q9evS ae0) (q9evS ae1) (hL _ (List.mem_of_getElem? (i := 2) rfl))
  have L3 : (0 : Int32).toInt ≤ x0.toInt + 0 := q9pC (q9evZ w0) (q9evS ae0) (hL _ (List.mem_of_getElem? (i := 3) rfl))
  have L4 : x0.toInt ≤ (Int32.ofInt 399).toInt + 0 := q9pC (q9evS ae0) (q9evC w0 399) (hL _ (List.mem_of_getElem? (i := 4) rfl))
  have L5 : (0 : Int32).toInt ≤ x1.toInt + 0 := q9pC (q9evZ w0) (q9evS ae1) (hL _ (List.mem_of_getElem? (i := 5) rfl))
  have L6 : x1.toInt ≤ (Int32.ofInt 399).toInt + 0 := q9pC (q9evS ae1) (q9evC w0 399) (hL _ (List.mem_of_getElem? (i := 6) rfl))
  have a1 := q9ad32 (x := x1) (d := 1) (by omega)
  have u_ : q9upN w 5 [] 0 = .int 0 := q9upN_of (by decide) w0
  have u0 : q9upN w 5 [] 1 = .int x0 := q9upN_of (by decide) ae0
  have u1 : q9upN w 5 [] 2 = .int x1 := q9upN_of (by decide) ae1
  have u2 : q9upN w 5 [] 3 = .int x2 := q9upN_of (by decide) ae2
  have u3 : q9upN w 5 [] 4 = .int x3 := q9upN_of (by decide) ae3
  refine ⟨[], fun i9 p9 hq9 => ?_, List.forall_mem_cons.mpr ⟨?_, fun _ h => absurd h List.not_mem_nil⟩, fun _ h => absurd h List.not_mem_nil⟩
  · exact nomatch (show (none : Option (Nat × q9AV × q9AV × q9ET)) = some p9 from hq9)
  · exact q9th_tX (T := T) (N := N) (P := P) (J := J) (t0 := t0) (Sc := Sc) (q9evS u0) (q9evO u1 1) (q9evS u3) (by rw [q9FF_1491]; exact (by rw [a1, q9np_s (by omega), H0, if_pos (by omega), Int.add_zero, H1])) (by decide)
theorem q9ru_npn0 (hT : ∀ i, 0 ≤ T i ∧ T i ≤ 255) (hN : 0 ≤ N ∧ N ≤ 400) (hSc : 0 ≤ Sc 1 ∧ Sc 1 ≤ 400 → N = Sc 1) : q9ruOK (fO T N P J t0 Sc) q9R_npn0 := by
  intro w w0 hA hX hL hV hR
  obtain ⟨x0, ae0, -, -⟩ := hA 0 0 rfl
  obtain ⟨x1, ae1, -, -⟩ := hA 1 0 rfl
  obtain ⟨x2, ae2, -, -⟩ := hA 2 0 rfl
  obtain ⟨x3, ae3, -, -⟩ := hA 3 0 rfl
  have kz : (0 : Int32).toInt = 0 := rfl
  have k1 : (Int32.ofInt 1).toInt = 1 := q9oI_toInt (by decide)
  have k399 : (Int32.ofInt 399).toInt = 399 := q9oI_toInt (by decide)
  have X0 := q9th_pX (T := T) (N := N) (P := P) (J := J) (t0 := t0) (Sc := Sc) (op := 1490) (q9evS ae1) (q9evZ w0) (q9evS ae2) (hX _ (List.mem_of_getElem? (i := 0) rfl)) (by decide)
  rw [q9FF_1490] at X0
  have H0 := Option.some.inj X0
  try simp only [kz, k1, k399] at H0
  have L0 : x2.toInt ≤ (Int32.ofInt 1).toInt + 0 := q9pC (q9evS ae2) (q9evC w0 1) (hL _ (List.mem_of_getElem? (i := 0) rfl))
  have L1 : (Int32.ofInt 1).toInt ≤ x2.toInt + 0 := q9pC (q9evC w0 1) (q9evS ae2) (hL _ (List.mem_of_getElem? (i := 1) rfl))
  have X1 := q9th_pX (T := T) (N := N) (P := P) (J := J) (t0 := t0) (Sc := Sc) (op := 1491) (q9evS ae0) (q9evS ae1) (q9evS ae3) (hX _ (List.mem_of_getElem? (i := 1) rfl)) (by decide)
  rw [q9FF_1491] at X1
  have H1 := Option.some.inj X1
  try simp only [kz, k1, k399] at H1
  have L2 : x0.toInt ≤ x1.toInt + 0 := q9pC (q9evS ae0) (q9evS ae1) (hL _ (List.mem_of_getElem? (i := 2) rfl))
  have L3 : (0 : Int32).toInt ≤ x0.toInt + 0 := q9pC (q9evZ w0) (q9evS ae0) (hL _ (List.mem_of_getElem? (i := 3) rfl))
  have L4 : x0.toInt ≤ (Int32.ofInt 399).toInt + 0 := q9pC (q9evS ae0) (q9evC w0 399) (hL _ (List.mem_of_getElem? (i := 4) rfl))
  have L5 : (0 : Int32).toInt ≤ x1.toInt + 0 := q9pC (q9evZ w0) (q9evS ae1) (hL _ (List.mem_of_getElem? (i := 5) rfl))
  have L6 : x1.toInt ≤ (Int32.ofInt 399).toInt + 0 := q9pC (q9evS ae1) (q9evC w0 399) (hL _ (List.mem_of_getElem? (i := 6) rfl))
  have a1 := q9ad32 (x := x1) (d := 1) (by omega)
  have hb := q9np_le (Sc := Sc) (u := 0) (a := x0.toInt) (b := x1.toInt) (by omega)
  rw [H1] at hb
  have rg0 : (1 : Int) ≤ (x3.toInt + 1) ∧ ((x3.toInt + 1) : Int) ≤ 400 := by omega
  obtain ⟨x4, nt4⟩ : ∃ x : Int32, x.toInt = (x3.toInt + 1) := ⟨Int32.ofInt ((x3.toInt + 1)), q9oI_toInt (by omega)⟩
  have u_ : q9upN w 5 [.int x4] 0 = .int 0 := q9upN_of (by decide) w0
  have u0 : q9upN w 5 [.int x4] 1 = .int x0 := q9upN_of (by decide) ae0
  have u1 : q9upN w 5 [.int x4] 2 = .int x1 := q9upN_of (by decide) ae1
  have u2 : q9upN w 5 [.int x4] 3 = .int x2 := q9upN_of (by decide) ae2
  have u3 : q9upN w 5 [.int x4] 4 = .int x3 := q9upN_of (by decide) ae3
  have u4 : q9upN w 5 [.int x4] 5 = .int x4 := q9upN_at (by decide)
  refine ⟨[.int x4], fun i9 p9 hq9 => ?_, fun _ h => absurd h List.not_mem_nil, List.forall_mem_cons.mpr ⟨?_, List.forall_mem_cons.mpr ⟨?_, fun _ h => absurd h List.not_mem_nil⟩⟩⟩
  · match i9, hq9 with
    | 0, hq9 =>
      have hp9 : ((1491, (1, 0), (2, 1), (0, 1, 400)) : Nat × q9AV × q9AV × q9ET) = p9 := Option.some.inj hq9
      subst hp9
      exact ⟨⟨x4, rfl, by rw [nt4]; exact rg0.1, by rw [nt4]; exact rg0.2⟩, (q9th_tX (T := T) (N := N) (P := P) (J := J) (t0 := t0) (Sc := Sc) (q9evS u0) (q9evO u1 1) (q9evS u4) (by rw [q9FF_1491, nt4]; exact (by rw [a1, q9np_s (by omega), H0, if_neg (by omega), H1])) (by decide)).trans (congrArg some (q9evS u4))⟩
    | k9 + 1, hq9 => exact nomatch (show (none : Option (Nat × q9AV × q9AV × q9ET)) = some p9 from hq9)
  · exact q9th_tC (d := 1) (q9evS u4) (q9evS u3) (by omega)
  · exact q9th_tC (d := (-1)) (q9evS u3) (q9evS u4) (by omega)
theorem q9ru_np0_1 (hT : ∀ i, 0 ≤ T i ∧ T i ≤ 255) (hN : 0 ≤ N ∧ N ≤ 400) (hSc : 0 ≤ Sc 1 ∧ Sc 1 ≤ 400 → N = Sc 1) : q9ruOK (fO T N P J t0 Sc) q9R_np0_1 := by
  intro w w0 hA hX hL hV hR
  obtain ⟨x0, ae0, -, -⟩ := hA 0 0 rfl
  have kz : (0 : Int32).toInt = 0 := rfl
  have k399 : (Int32.ofInt 399).toInt = 399 := q9oI_toInt (by decide)
  have L0 : (0 : Int32).toInt ≤ x0.toInt + 0 := q9pC (q9evZ w0) (q9evS ae0) (hL _ (List.mem_of_getElem? (i := 0) rfl))
  have L1 : x0.toInt ≤ (Int32.ofInt 399).toInt + 0 := q9pC (q9evS ae0) (q9evC w0 399) (hL _ (List.mem_of_getElem? (i := 1) rfl))
  have rg0 : (0 : Int) ≤ 0 ∧ (0 : Int) ≤ 0 := by omega
  obtain ⟨x1, nt1⟩ : ∃ x : Int32, x.toInt = 0 := ⟨Int32.ofInt (0), q9oI_toInt (by omega)⟩
  have u_ : q9upN w 2 [.int x1] 0 = .int 0 := q9upN_of (by decide) w0
  have u0 : q9upN w 2 [.int x1] 1 = .int x0 := q9upN_of (by decide) ae0
  have u1 : q9upN w 2 [.int x1] 2 = .int x1 := q9upN_at (by decide)
  refine ⟨[.int x1], fun i9 p9 hq9 => ?_, fun _ h => absurd h List.not_mem_nil, fun _ h => absurd h List.not_mem_nil⟩
  · match i9, hq9 with
    | 0, hq9 =>
      have hp9 : ((1492, (1, 0), (1, 0), (0, 0, 0)) : Nat × q9AV × q9AV × q9ET) = p9 := Option.some.inj hq9
      subst hp9
      exact ⟨⟨x1, rfl, by rw [nt1]; exact rg0.1, by rw [nt1]; exact rg0.2⟩, (q9th_tX (T := T) (N := N) (P := P) (J := J) (t0 := t0) (Sc := Sc) (q9evS u0) (q9evS u0) (q9evS u1) (by rw [q9FF_1492, nt1]; exact (by rw [q9np_0])) (by decide)).trans (congrArg some (q9evS u1))⟩
    | k9 + 1, hq9 => exact nomatch (show (none : Option (Nat × q9AV × q9AV × q9ET)) = some p9 from hq9)
theorem q9ru_npe1 (hT : ∀ i, 0 ≤ T i ∧ T i ≤ 255) (hN : 0 ≤ N ∧ N ≤ 400) (hSc : 0 ≤ Sc 1 ∧ Sc 1 ≤ 400 → N = Sc 1) : q9ruOK (fO T N P J t0 Sc) q9R_npe1 := by
  intro w w0 hA hX hL hV hR
  obtain ⟨x0, ae0, -, -⟩ := hA 0 0 rfl
  obtain ⟨x1, ae1, -, -⟩ := hA 1 0 rfl
  obtain ⟨x2, ae2, -, -⟩ := hA 2 0 rfl
  obtain ⟨x3, ae3, -, -⟩ := hA 3 0 rfl
  have kz : (0 : Int32).toInt = 0 := rfl
  have k1 : (Int32.ofInt 1).toInt = 1 := q9oI_toInt (by decide)
  have k399 : (Int32.ofInt 399).toInt = 399 := q9oI_toInt (by decide)
  have X0 := q9th_pX (T := T) (N := N) (P := P) (J := J) (t0 := t0) (Sc := Sc) (op := 1490) (q9evS ae1) (q9evZ w0) (q9evS ae2) (hX _ (List.mem_of_getElem? (i := 0) rfl)) (by decide)
  rw [q9FF_1490] at X0
  have H0 := Option.some.inj X0
  try simp only [kz, k1, k399] at H0
  have L0 : x2.toInt ≤ (Int32.ofInt 1).toInt + 0 := q9pC (q9evS ae2) (q9evC w0 1) (hL _ (List.mem_of_getElem? (i := 0) rfl))
  have L1 : (Int32.ofInt 1).toInt ≤ x2.toInt + 0 := q9pC (q9evC w0 1) (q9evS ae2) (hL _ (List.mem_of_getElem? (i := 1) rfl))
  have X1 := q9th_pX (T := T) (N := N) (P := P) (J := J) (t0 := t0) (Sc := Sc) (op := 1492) (q9evS ae0) (q9evS ae1) (q9evS ae3) (hX _ (List.mem_of_getElem? (i := 1) rfl)) (by decide)
  rw [q9FF_1492] at X1
  have H1 := Option.some.inj X1
  try simp only [kz, k1, k399] at H1
  have L2 : x0.toInt ≤ x1.toInt + 0 := q9pC (q9evS ae0) (q9evS ae1) (hL _ (List.mem_of_getElem? (i := 2) rfl))
  have L3 : (0 : Int32).toInt ≤ x0.toInt + 0 := q9pC (q9evZ w0) (q9evS ae0) (hL _ (List.mem_of_getElem? (i := 3) rfl))
  have L4 : x0.toInt ≤ (Int32.ofInt 399).toInt + 0 := q9pC (q9evS ae0) (q9evC w0 399) (hL _ (List.mem_of_getElem? (i := 4) rfl))
  have L5 : (0 : Int32).toInt ≤ x1.toInt + 0 := q9pC (q9evZ w0) (q9evS ae1) (hL _ (List.mem_of_getElem? (i := 5) rfl))
  have L6 : x1.toInt ≤ (Int32.ofInt 399).toInt + 0 := q9pC (q9evS ae1) (q9evC w0 399) (hL _ (List.mem_of_getElem? (i := 6) rfl))
  have a1 := q9ad32 (x := x1) (d := 1) (by omega)
  have u_ : q9upN w 5 [] 0 = .int 0 := q9upN_of (by decide) w0
  have u0 : q9upN w 5 [] 1 = .int x0 := q9upN_of (by decide) ae0
  have u1 : q9upN w 5 [] 2 = .int x1 := q9upN_of (by decide) ae1
  have u2 : q9upN w 5 [] 3 = .int x2 := q9upN_of (by decide) ae2
  have u3 : q9upN w 5 [] 4 = .int x3 := q9upN_of (by decide) ae3
  refine ⟨[], fun i9 p9 hq9 => ?_, List.forall_mem_cons.mpr ⟨?_, fun _ h => absurd h List.not_mem_nil⟩, fun _ h => absurd h List.not_mem_nil⟩
  · exact nomatch (show (none : Option (Nat × q9AV × q9AV × q9ET)) = some p9 from hq9)
  · exact q9th_tX (T := T) (N := N) (P := P) (J := J) (t0 := t0) (Sc := Sc) (q9evS u0) (q9evO u1 1) (q9evS u3) (by rw [q9FF_1492]; exact (by rw [a1, q9np_s (by omega), H0, if_pos (by omega), Int.add_zero, H1])) (by decide)
theorem q9ru_npn1 (hT : ∀ i, 0 ≤ T i ∧ T i ≤ 255) (hN : 0 ≤ N ∧ N ≤ 400) (hSc : 0 ≤ Sc 1 ∧ Sc 1 ≤ 400 → N = Sc 1) : q9ruOK (fO T N P J t0 Sc) q9R_npn1 := by
  intro w w0 hA hX hL hV hR
  obtain ⟨x0, ae0, -, -⟩ := hA 0 0 rfl
  obtain ⟨x1, ae1, -, -⟩ := hA 1 0 rfl
  obtain ⟨x2, ae2, -, -⟩ := hA 2 0 rfl
  obtain ⟨x3, ae3, -, -⟩ := hA 3 0 rfl
  have kz : (0 : Int32).toInt = 0 := rfl
  have k399 : (Int32.ofInt 399).toInt = 399 := q9oI_toInt (by decide)
  have X0 := q9th_pX (T := T) (N := N) (P := P) (J := J) (t0 := t0) (Sc := Sc) (op := 1490) (q9evS ae1) (q9evZ w0) (q9evS ae2) (hX _ (List.mem_of_getElem? (i := 0) rfl)) (by decide)
  rw [q9FF_1490] at X0
  have H0 := Option.some.inj X0
  try simp only [kz, k399] at H0
  have L0 : x2.toInt ≤ (0 : Int32).toInt + 0 := q9pC (q9evS ae2) (q9evZ w0) (hL _ (List.mem_of_getElem? (i := 0) rfl))
  have L1 : (0 : Int32).toInt ≤ x2.toInt + 0 := q9pC (q9evZ w0) (q9evS ae2) (hL _ (List.mem_of_getElem? (i := 1) rfl))
  have X1 := q9th_pX (T := T) (N := N) (P := P) (J := J) (t0 := t0) (Sc := Sc) (op := 1492) (q9evS ae0) (q9evS ae1) (q9evS ae3) (hX _ (List.mem_of_getElem? (i := 1) rfl)) (by decide)
  rw [q9FF_1492] at X1
  have H1 := Option.some.inj X1
  try simp only [kz, k399] at H1
  have L2 : x0.toInt ≤ x1.toInt + 0 := q9pC (q9evS ae0) (q9evS ae1) (hL _ (List.mem_of_getElem? (i := 2) rfl))
  have L3 : (0 : Int32).toInt ≤ x0.toInt + 0 := q9pC (q9evZ w0) (q9evS ae0) (hL _ (List.mem_of_getElem? (i := 3) rfl))
  have L4 : x0.toInt ≤ (Int32.ofInt 399).toInt + 0 := q9pC (q9evS ae0) (q9evC w0 399) (hL _ (List.mem_of_getElem? (i := 4) rfl))
  have L5 : (0 : Int32).toInt ≤ x1.toInt + 0 := q9pC (q9evZ w0) (q9evS ae1) (hL _ (List.mem_of_getElem? (i := 5) rfl))
  have L6 : x1.toInt ≤ (Int32.ofInt 399).toInt + 0 := q9pC (q9evS ae1) (q9evC w0 399) (hL _ (List.mem_of_getElem? (i := 6) rfl))
  have a1 := q9ad32 (x := x1) (d := 1) (by omega)
  have hb := q9np_le (Sc := Sc) (u := 1) (a := x0.toInt) (b := x1.toInt) (by omega)
  rw [H1] at hb
  have rg0 : (1 : Int) ≤ (x3.toInt + 1) ∧ ((x3.toInt + 1) : Int) ≤ 400 := by omega
  obtain ⟨x4, nt4⟩ : ∃ x : Int32, x.toInt = (x3.toInt + 1) := ⟨Int32.ofInt ((x3.toInt + 1)), q9oI_toInt (by omega)⟩
  have u_ : q9upN w 5 [.int x4] 0 = .int 0 := q9upN_of (by decide) w0
  have u0 : q9upN w 5 [.int x4] 1 = .int x0 := q9upN_of (by decide) ae0
  have u1 : q9upN w 5 [.int x4] 2 = .int x1 := q9upN_of (by decide) ae1
  have u2 : q9upN w 5 [.int x4] 3 = .int x2 := q9upN_of (by decide) ae2
  have u3 : q9upN w 5 [.int x4] 4 = .int x3 := q9upN_of (by decide) ae3
  have u4 : q9upN w 5 [.int x4] 5 = .int x4 := q9upN_at (by decide)
  refine ⟨[.int x4], fun i9 p9 hq9 => ?_, fun _ h => absurd h List.not_mem_nil, List.forall_mem_cons.mpr ⟨?_, List.forall_mem_cons.mpr ⟨?_, fun _ h => absurd h List.not_mem_nil⟩⟩⟩
  · match i9, hq9 with
    | 0, hq9 =>
      have hp9 : ((1492, (1, 0), (2, 1), (0, 1, 400)) : Nat × q9AV × q9AV × q9ET) = p9 := Option.some.inj hq9
      subst hp9
      exact ⟨⟨x4, rfl, by rw [nt4]; exact rg0.1, by rw [nt4]; exact rg0.2⟩, (q9th_tX (T := T) (N := N) (P := P) (J := J) (t0 := t0) (Sc := Sc) (q9evS u0) (q9evO u1 1) (q9evS u4) (by rw [q9FF_1492, nt4]; exact (by rw [a1, q9np_s (by omega), H0, if_neg (by omega), H1])) (by decide)).trans (congrArg some (q9evS u4))⟩
    | k9 + 1, hq9 => exact nomatch (show (none : Option (Nat × q9AV × q9AV × q9ET)) = some p9 from hq9)
  · exact q9th_tC (d := 1) (q9evS u4) (q9evS u3) (by omega)
  · exact q9th_tC (d := (-1)) (q9evS u3) (q9evS u4) (by omega)
theorem q9ru_pbr (hT : ∀ i, 0 ≤ T i ∧ T i ≤ 255) (hN : 0 ≤ N ∧ N ≤ 400) (hSc : 0 ≤ Sc 1 ∧ Sc 1 ≤ 400 → N = Sc 1) : q9ruOK (fO T N P J t0 Sc) q9R_pbr := by
  intro w w0 hA hX hL hV hR
  obtain ⟨x0, ae0, -, -⟩ := hA 0 0 rfl
  obtain ⟨x1, ae1, -, -⟩ := hA 1 0 rfl
  have kz : (0 : Int32).toInt = 0 := rfl
  have k1 : (Int32.ofInt 1).toInt = 1 := q9oI_toInt (by decide)
  have X0 := q9th_pX (T := T) (N := N) (P := P) (J := J) (t0 := t0) (Sc := Sc) (op := 1490) (q9evS ae0) (q9evZ w0) (q9evS ae1) (hX _ (List.mem_of_getElem? (i := 0) rfl)) (by decide)
  rw [q9FF_1490] at X0
  have H0 := Option.some.inj X0
  try simp only [kz, k1] at H0
  have hb := q9pb_01 (Sc := Sc) (i := x0.toInt)
  rw [H0] at hb
  have u_ : q9upN w 3 [] 0 = .int 0 := q9upN_of (by decide) w0
  have u0 : q9upN w 3 [] 1 = .int x0 := q9upN_of (by decide) ae0
  have u1 : q9upN w 3 [] 2 = .int x1 := q9upN_of (by decide) ae1
  refine ⟨[], fun i9 p9 hq9 => ?_, fun _ h => absurd h List.not_mem_nil, List.forall_mem_cons.mpr ⟨?_, List.forall_mem_cons.mpr ⟨?_, fun _ h => absurd h List.not_mem_nil⟩⟩⟩
  · exact nomatch (show (none : Option (Nat × q9AV × q9AV × q9ET)) = some p9 from hq9)
  · exact q9th_tC (d := 0) (q9evZ u_) (q9evS u1) (by omega)
  · exact q9th_tC (d := 0) (q9evS u1) (q9evC u_ 1) (by omega)
theorem q9ru_m4k (hT : ∀ i, 0 ≤ T i ∧ T i ≤ 255) (hN : 0 ≤ N ∧ N ≤ 400) (hSc : 0 ≤ Sc 1 ∧ Sc 1 ≤ 400 → N = Sc 1) : q9ruOK (fO T N P J t0 Sc) q9R_m4k := by
  intro w w0 hA hX hL hV hR
  obtain ⟨x0, ae0, -, -⟩ := hA 0 0 rfl
  have kz : (0 : Int32).toInt = 0 := rfl
  have k11 : (Int32.ofInt 11).toInt = 11 := q9oI_toInt (by decide)
  have k400 : (Int32.ofInt 400).toInt = 400 := q9oI_toInt (by decide)
  have L0 : (0 : Int32).toInt ≤ x0.toInt + 0 := q9pC (q9evZ w0) (q9evS ae0) (hL _ (List.mem_of_getElem? (i := 0) rfl))
  have L1 : x0.toInt ≤ (Int32.ofInt 11).toInt + 0 := q9pC (q9evS ae0) (q9evC w0 11) (hL _ (List.mem_of_getElem? (i := 1) rfl))
  have rg0 : (0 : Int) ≤ (400 * x0.toInt) ∧ ((400 * x0.toInt) : Int) ≤ 4400 := by omega
  obtain ⟨x1, nt1⟩ : ∃ x : Int32, x.toInt = (400 * x0.toInt) := ⟨Int32.ofInt ((400 * x0.toInt)), q9oI_toInt (by omega)⟩
  have u_ : q9upN w 2 [.int x1] 0 = .int 0 := q9upN_of (by decide) w0
  have u0 : q9upN w 2 [.int x1] 1 = .int x0 := q9upN_of (by decide) ae0
  have u1 : q9upN w 2 [.int x1] 2 = .int x1 := q9upN_at (by decide)
  refine ⟨[.int x1], fun i9 p9 hq9 => ?_, fun _ h => absurd h List.not_mem_nil, fun _ h => absurd h List.not_mem_nil⟩
  · match i9, hq9 with
    | 0, hq9 =>
      have hp9 : ((2, (0, 400), (1, 0), (0, 0, 4400)) : Nat × q9AV × q9AV × q9ET) = p9 := Option.some.inj hq9
      subst hp9
      exact ⟨⟨x1, rfl, by rw [nt1]; exact rg0.1, by rw [nt1]; exact rg0.2⟩, (q9tB (T := T) (N := N) (P := P) (J := J) (t0 := t0) (Sc := Sc) (q9evC u_ 400) (q9evS u0) (q9evS u1) (q9mu32t (by rw [k400]; omega))).trans (congrArg some (q9evS u1))⟩
    | k9 + 1, hq9 => exact nomatch (show (none : Option (Nat × q9AV × q9AV × q9ET)) = some p9 from hq9)
theorem q9ru_pls (hT : ∀ i, 0 ≤ T i ∧ T i ≤ 255) (hN : 0 ≤ N ∧ N ≤ 400) (hSc : 0 ≤ Sc 1 ∧ Sc 1 ≤ 400 → N = Sc 1) : q9ruOK (fO T N P J t0 Sc) q9R_pls := by
  intro w w0 hA hX hL hV hR
  obtain ⟨x0, ae0, -, -⟩ := hA 0 0 rfl
  obtain ⟨x1, ae1, -, -⟩ := hA 1 0 rfl
  obtain ⟨x2, ae2, -, -⟩ := hA 2 0 rfl
  have kz : (0 : Int32).toInt = 0 := rfl
  have k11 : (Int32.ofInt 11).toInt = 11 := q9oI_toInt (by decide)
  have k399 : (Int32.ofInt 399).toInt = 399 := q9oI_toInt (by decide)
  have k400 : (Int32.ofInt 400).toInt = 400 := q9oI_toInt (by decide)
  have X0 := q9pB (T := T) (N := N) (P := P) (J := J) (t0 := t0) (Sc := Sc) (q9evC w0 400) (q9evS ae0) (q9evS ae1) (hX _ (List.mem_of_getElem? (i := 0) rfl))
  have L0 : (0 : Int32).toInt ≤ x0.toInt + 0 := q9pC (q9evZ w0) (q9evS ae0) (hL _ (List.mem_of_getElem? (i := 0) rfl))
  have L1 : x0.toInt ≤ (Int32.ofInt 11).toInt + 0 := q9pC (q9evS ae0) (q9evC w0 11) (hL _ (List.mem_of_getElem? (i := 1) rfl))
  have L2 : (0 : Int32).toInt ≤ x2.toInt + 0 := q9pC (q9evZ w0) (q9evS ae2) (hL _ (List.mem_of_getElem? (i := 2) rfl))
  have L3 : x2.toInt ≤ (Int32.ofInt 399).toInt + 0 := q9pC (q9evS ae2) (q9evC w0 399) (hL _ (List.mem_of_getElem? (i := 3) rfl))
  have m1 := q9mu32 X0 (by rw [k400]; omega)
  rw [k400] at m1
  have rg0 : (0 : Int) ≤ (x1.toInt + x2.toInt) ∧ ((x1.toInt + x2.toInt) : Int) ≤ 4799 := by omega
  obtain ⟨x3, nt3⟩ : ∃ x : Int32, x.toInt = (x1.toInt + x2.toInt) := ⟨Int32.ofInt ((x1.toInt + x2.toInt)), q9oI_toInt (by omega)⟩
  have u_ : q9upN w 4 [.int x3] 0 = .int 0 := q9upN_of (by decide) w0
  have u0 : q9upN w 4 [.int x3] 1 = .int x0 := q9upN_of (by decide) ae0
  have u1 : q9upN w 4 [.int x3] 2 = .int x1 := q9upN_of (by decide) ae1
  have u2 : q9upN w 4 [.int x3] 3 = .int x2 := q9upN_of (by decide) ae2
  have u3 : q9upN w 4 [.int x3] 4 = .int x3 := q9upN_at (by decide)
  refine ⟨[.int x3], fun i9 p9 hq9 => ?_, fun _ h => absurd h List.not_mem_nil, fun _ h => absurd h List.not_mem_nil⟩
  · match i9, hq9 with
    | 0, hq9 =>
      have hp9 : ((0, (2, 0), (3, 0), (0, 0, 4799)) : Nat × q9AV × q9AV × q9ET) = p9 := Option.some.inj hq9
      subst hp9
      exact ⟨⟨x3, rfl, by rw [nt3]; exact rg0.1, by rw [nt3]; exact rg0.2⟩, (q9tB (T := T) (N := N) (P := P) (J := J) (t0 := t0) (Sc := Sc) (q9evS u1) (q9evS u2) (q9evS u3) (q9aa32t (by omega))).trans (congrArg some (q9evS u3))⟩
    | k9 + 1, hq9 => exact nomatch (show (none : Option (Nat × q9AV × q9AV × q9ET)) = some p9 from hq9)
theorem q9ruP_13 (hT : ∀ i, 0 ≤ T i ∧ T i ≤ 255) (hN : 0 ≤ N ∧ N ≤ 400) (hSc : 0 ≤ Sc 1 ∧ Sc 1 ≤ 400 → N = Sc 1) : ∀ q ∈ q9RULES_13, q9ruOK (fO T N P J t0 Sc) q := List.forall_mem_cons.mpr ⟨q9ru_ffr hT hN hSc, List.forall_mem_cons.mpr ⟨q9ru_ffi hT hN hSc, List.forall_mem_cons.mpr ⟨q9ru_fwk0 hT hN hSc, List.forall_mem_cons.mpr ⟨q9ru_fwk1 hT hN hSc, List.forall_mem_cons.mpr ⟨q9ru_fwk2 hT hN hSc, List.forall_mem_cons.mpr ⟨q9ru_fwk3 hT hN hSc, List.forall_mem_cons.mpr ⟨q9ru_fwk4 hT hN hSc, List.forall_mem_cons.mpr ⟨q9ru_onn hT hN hSc, List.forall_mem_cons.mpr ⟨q9ru_eFIN hT hN hSc, List.forall_mem_cons.mpr ⟨q9ru_np0_0 hT hN hSc, List.forall_mem_cons.mpr ⟨q9ru_npe0 hT hN hSc, List.forall_mem_cons.mpr ⟨q9ru_npn0 hT hN hSc, List.forall_mem_cons.mpr ⟨q9ru_np0_1 hT hN hSc, List.forall_mem_cons.mpr ⟨q9ru_npe1 hT hN hSc, List.forall_mem_cons.mpr ⟨q9ru_npn1 hT hN hSc, List.forall_mem_cons.mpr ⟨q9ru_pbr hT hN hSc, List.forall_mem_cons.mpr ⟨q9ru_m4k hT hN hSc, List.forall_mem_cons.mpr ⟨q9ru_pls hT hN hSc, fun _ h => absurd h List.not_mem_nil⟩⟩⟩⟩⟩⟩⟩⟩⟩⟩⟩⟩⟩⟩⟩⟩⟩⟩
end RUL
