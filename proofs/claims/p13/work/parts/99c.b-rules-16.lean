section RUL
variable {T : Int → Int} {N P : Int} {J : Int → Int} {t0 : Int} {Sc : Int → Int}
theorem q9ru_trn (hT : ∀ i, 0 ≤ T i ∧ T i ≤ 255) (hN : 0 ≤ N ∧ N ≤ 400) (hSc : 0 ≤ Sc 1 ∧ Sc 1 ≤ 400 → N = Sc 1) : q9ruOK (fO T N P J t0 Sc) q9R_trn := by
  intro w w0 hA hX hL hV hR
  obtain ⟨x0, ae0, -, -⟩ := hA 0 0 rfl
  obtain ⟨x1, ae1, -, -⟩ := hA 1 0 rfl
  obtain ⟨x2, ae2, -, -⟩ := hA 2 0 rfl
  have kz : (0 : Int32).toInt = 0 := rfl
  have L0 : x0.toInt ≤ x1.toInt + 0 := q9pC (q9evS ae0) (q9evS ae1) (hL _ (List.mem_of_getElem? (i := 0) rfl))
  have L1 : x1.toInt ≤ x2.toInt + 0 := q9pC (q9evS ae1) (q9evS ae2) (hL _ (List.mem_of_getElem? (i := 1) rfl))
  have u_ : q9upN w 4 [] 0 = .int 0 := q9upN_of (by decide) w0
  have u0 : q9upN w 4 [] 1 = .int x0 := q9upN_of (by decide) ae0
  have u1 : q9upN w 4 [] 2 = .int x1 := q9upN_of (by decide) ae1
  have u2 : q9upN w 4 [] 3 = .int x2 := q9upN_of (by decide) ae2
  refine ⟨[], fun i9 p9 hq9 => ?_, fun _ h => absurd h List.not_mem_nil, List.forall_mem_cons.mpr ⟨?_, fun _ h => absurd h List.not_mem_nil⟩⟩
  · exact nomatch (show (none : Option (Nat × q9AV × q9AV × q9ET)) = some p9 from hq9)
  · exact q9th_tC (d := 0) (q9evS u0) (q9evS u2) (by omega)
theorem q9ru_trl (hT : ∀ i, 0 ≤ T i ∧ T i ≤ 255) (hN : 0 ≤ N ∧ N ≤ 400) (hSc : 0 ≤ Sc 1 ∧ Sc 1 ≤ 400 → N = Sc 1) : q9ruOK (fO T N P J t0 Sc) q9R_trl := by
  intro w w0 hA hX hL hV hR
  obtain ⟨x0, ae0, -, -⟩ := hA 0 0 rfl
  obtain ⟨x1, ae1, -, -⟩ := hA 1 0 rfl
  obtain ⟨x2, ae2, -, -⟩ := hA 2 0 rfl
  have kz : (0 : Int32).toInt = 0 := rfl
  have L0 : x0.toInt ≤ x1.toInt + 0 := q9pC (q9evS ae0) (q9evS ae1) (hL _ (List.mem_of_getElem? (i := 0) rfl))
  have L1 : x1.toInt ≤ x2.toInt + (-1) := q9pC (q9evS ae1) (q9evS ae2) (hL _ (List.mem_of_getElem? (i := 1) rfl))
  have u_ : q9upN w 4 [] 0 = .int 0 := q9upN_of (by decide) w0
  have u0 : q9upN w 4 [] 1 = .int x0 := q9upN_of (by decide) ae0
  have u1 : q9upN w 4 [] 2 = .int x1 := q9upN_of (by decide) ae1
  have u2 : q9upN w 4 [] 3 = .int x2 := q9upN_of (by decide) ae2
  refine ⟨[], fun i9 p9 hq9 => ?_, fun _ h => absurd h List.not_mem_nil, List.forall_mem_cons.mpr ⟨?_, fun _ h => absurd h List.not_mem_nil⟩⟩
  · exact nomatch (show (none : Option (Nat × q9AV × q9AV × q9ET)) = some p9 from hq9)
  · exact q9th_tC (d := (-1)) (q9evS u0) (q9evS u2) (by omega)
theorem q9ru_rgM (hT : ∀ i, 0 ≤ T i ∧ T i ≤ 255) (hN : 0 ≤ N ∧ N ≤ 400) (hSc : 0 ≤ Sc 1 ∧ Sc 1 ≤ 400 → N = Sc 1) : q9ruOK (fO T N P J t0 Sc) q9R_rgM := by
  intro w w0 hA hX hL hV hR
  obtain ⟨x0, ae0, -, -⟩ := hA 0 0 rfl
  obtain ⟨x1, ae1, -, -⟩ := hA 1 0 rfl
  obtain ⟨x2, ae2, -, -⟩ := hA 2 0 rfl
  have kz : (0 : Int32).toInt = 0 := rfl
  have k400 : (Int32.ofInt 400).toInt = 400 := q9oI_toInt (by decide)
  have X0 := q9th_pX (T := T) (N := N) (P := P) (J := J) (t0 := t0) (Sc := Sc) (op := 1413) (q9evS ae0) (q9evS ae1) (q9evS ae2) (hX _ (List.mem_of_getElem? (i := 0) rfl)) (by decide)
  rw [q9FF_1413] at X0
  have H0 := Option.some.inj X0
  try simp only [kz, k400] at H0
  have L0 : (0 : Int32).toInt ≤ x0.toInt + 0 := q9pC (q9evZ w0) (q9evS ae0) (hL _ (List.mem_of_getElem? (i := 0) rfl))
  have L1 : (0 : Int32).toInt ≤ x1.toInt + 0 := q9pC (q9evZ w0) (q9evS ae1) (hL _ (List.mem_of_getElem? (i := 1) rfl))
  have hr := q9axO_rng (T := T) (P := P) (J := J) hN.1 (s := x0.toInt) (a := x1.toInt) (by omega)
  have u_ : q9upN w 4 [] 0 = .int 0 := q9upN_of (by decide) w0
  have u0 : q9upN w 4 [] 1 = .int x0 := q9upN_of (by decide) ae0
  have u1 : q9upN w 4 [] 2 = .int x1 := q9upN_of (by decide) ae1
  have u2 : q9upN w 4 [] 3 = .int x2 := q9upN_of (by decide) ae2
  refine ⟨[], fun i9 p9 hq9 => ?_, fun _ h => absurd h List.not_mem_nil, List.forall_mem_cons.mpr ⟨?_, List.forall_mem_cons.mpr ⟨?_, fun _ h => absurd h List.not_mem_nil⟩⟩⟩
  · exact nomatch (show (none : Option (Nat × q9AV × q9AV × q9ET)) = some p9 from hq9)
  · exact q9th_tC (d := 0) (q9evZ u_) (q9evS u2) (by omega)
  · exact q9th_tC (d := 0) (q9evS u2) (q9evC u_ 400) (by omega)
theorem q9ru_rgE (hT : ∀ i, 0 ≤ T i ∧ T i ≤ 255) (hN : 0 ≤ N ∧ N ≤ 400) (hSc : 0 ≤ Sc 1 ∧ Sc 1 ≤ 400 → N = Sc 1) : q9ruOK (fO T N P J t0 Sc) q9R_rgE := by
  intro w w0 hA hX hL hV hR
  obtain ⟨x0, ae0, -, -⟩ := hA 0 0 rfl
  obtain ⟨x1, ae1, -, -⟩ := hA 1 0 rfl
  obtain ⟨x2, ae2, -, -⟩ := hA 2 0 rfl
  obtain ⟨x3, ae3, -, -⟩ := hA 3 0 rfl
  have kz : (0 : Int32).toInt = 0 := rfl
  have k1 : (Int32.ofInt 1).toInt = 1 := q9oI_toInt (by decide)
  have k3 : (Int32.ofInt 3).toInt = 3 := q9oI_toInt (by decide)
  have X0 := q9th_pX (T := T) (N := N) (P := P) (J := J) (t0 := t0) (Sc := Sc) (op := 1414) (q9evS ae0) (q9evS ae1) (q9evS ae2) (hX _ (List.mem_of_getElem? (i := 0) rfl)) (by decide)
  rw [q9FF_1414] at X0
  have H0 := Option.some.inj X0
  try simp only [kz, k1, k3] at H0
  have X1 := q9th_pX (T := T) (N := N) (P := P) (J := J) (t0 := t0) (Sc := Sc) (op := 1413) (q9evS ae0) (q9evS ae1) (q9evS ae3) (hX _ (List.mem_of_getElem? (i := 1) rfl)) (by decide)
  rw [q9FF_1413] at X1
  have H1 := Option.some.inj X1
  try simp only [kz, k1, k3] at H1
  have L0 : (Int32.ofInt 1).toInt ≤ x3.toInt + 0 := q9pC (q9evC w0 1) (q9evS ae3) (hL _ (List.mem_of_getElem? (i := 0) rfl))
  have L1 : (0 : Int32).toInt ≤ x0.toInt + 0 := q9pC (q9evZ w0) (q9evS ae0) (hL _ (List.mem_of_getElem? (i := 1) rfl))
  have L2 : (0 : Int32).toInt ≤ x1.toInt + 0 := q9pC (q9evZ w0) (q9evS ae1) (hL _ (List.mem_of_getElem? (i := 2) rfl))
  have hr := q9axO_rng (T := T) (P := P) (J := J) hN.1 (s := x0.toInt) (a := x1.toInt) (by omega)
  have u_ : q9upN w 5 [] 0 = .int 0 := q9upN_of (by decide) w0
  have u0 : q9upN w 5 [] 1 = .int x0 := q9upN_of (by decide) ae0
  have u1 : q9upN w 5 [] 2 = .int x1 := q9upN_of (by decide) ae1
  have u2 : q9upN w 5 [] 3 = .int x2 := q9upN_of (by decide) ae2
  have u3 : q9upN w 5 [] 4 = .int x3 := q9upN_of (by decide) ae3
  refine ⟨[], fun i9 p9 hq9 => ?_, fun _ h => absurd h List.not_mem_nil, List.forall_mem_cons.mpr ⟨?_, List.forall_mem_cons.mpr ⟨?_, fun _ h => absurd h List.not_mem_nil⟩⟩⟩
  · exact nomatch (show (none : Option (Nat × q9AV × q9AV × q9ET)) = some p9 from hq9)
  · exact q9th_tC (d := 0) (q9evZ u_) (q9evS u2) (by omega)
  · exact q9th_tC (d := 0) (q9evS u2) (q9evC u_ 3) (by omega)
theorem q9ru_rgD (hT : ∀ i, 0 ≤ T i ∧ T i ≤ 255) (hN : 0 ≤ N ∧ N ≤ 400) (hSc : 0 ≤ Sc 1 ∧ Sc 1 ≤ 400 → N = Sc 1) : q9ruOK (fO T N P J t0 Sc) q9R_rgD := by
  intro w w0 hA hX hL hV hR
  obtain ⟨x0, ae0, -, -⟩ := hA 0 0 rfl
  obtain ⟨x1, ae1, -, -⟩ := hA 1 0 rfl
  obtain ⟨x2, ae2, -, -⟩ := hA 2 0 rfl
  obtain ⟨x3, ae3, -, -⟩ := hA 3 0 rfl
  have kz : (0 : Int32).toInt = 0 := rfl
  have X0 := q9th_pX (T := T) (N := N) (P := P) (J := J) (t0 := t0) (Sc := Sc) (op := 1415) (q9evS ae0) (q9evS ae1) (q9evS ae2) (hX _ (List.mem_of_getElem? (i := 0) rfl)) (by decide)
  rw [q9FF_1415] at X0
  have H0 := Option.some.inj X0
  try simp only [kz] at H0
  have X1 := q9th_pX (T := T) (N := N) (P := P) (J := J) (t0 := t0) (Sc := Sc) (op := 1413) (q9evS ae0) (q9evS ae1) (q9evS ae3) (hX _ (List.mem_of_getElem? (i := 1) rfl)) (by decide)
  rw [q9FF_1413] at X1
  have H1 := Option.some.inj X1
  try simp only [kz] at H1
  have L0 : (0 : Int32).toInt ≤ x0.toInt + 0 := q9pC (q9evZ w0) (q9evS ae0) (hL _ (List.mem_of_getElem? (i := 0) rfl))
  have L1 : (0 : Int32).toInt ≤ x1.toInt + 0 := q9pC (q9evZ w0) (q9evS ae1) (hL _ (List.mem_of_getElem? (i := 1) rfl))
  have hr := q9axO_rng (T := T) (P := P) (J := J) hN.1 (s := x0.toInt) (a := x1.toInt) (by omega)
  have u_ : q9upN w 5 [] 0 = .int 0 := q9upN_of (by decide) w0
  have u0 : q9upN w 5 [] 1 = .int x0 := q9upN_of (by decide) ae0
  have u1 : q9upN w 5 [] 2 = .int x1 := q9upN_of (by decide) ae1
  have u2 : q9upN w 5 [] 3 = .int x2 := q9upN_of (by decide) ae2
  have u3 : q9upN w 5 [] 4 = .int x3 := q9upN_of (by decide) ae3
  refine ⟨[], fun i9 p9 hq9 => ?_, fun _ h => absurd h List.not_mem_nil, List.forall_mem_cons.mpr ⟨?_, List.forall_mem_cons.mpr ⟨?_, fun _ h => absurd h List.not_mem_nil⟩⟩⟩
  · exact nomatch (show (none : Option (Nat × q9AV × q9AV × q9ET)) = some p9 from hq9)
  · exact q9th_tC (d := 0) (q9evZ u_) (q9evS u2) (by omega)
  · exact q9th_tC (d := 0) (q9evS u2) (q9evS u3) (by omega)
theorem q9ru_fst (hT : ∀ i, 0 ≤ T i ∧ T i ≤ 255) (hN : 0 ≤ N ∧ N ≤ 400) (hSc : 0 ≤ Sc 1 ∧ Sc 1 ≤ 400 → N = Sc 1) : q9ruOK (fO T N P J t0 Sc) q9R_fst := by
  intro w w0 hA hX hL hV hR
  obtain ⟨x0, ae0, -, -⟩ := hA 0 0 rfl
  obtain ⟨x1, ae1, -, -⟩ := hA 1 0 rfl
  obtain ⟨x2, ae2, -, -⟩ := hA 2 0 rfl
  obtain ⟨x3, ae3, -, -⟩ := hA 3 0 rfl
  obtain ⟨x4, ae4, -, -⟩ := hA 4 0 rfl
  obtain ⟨x5, ae5, -, -⟩ := hA 5 0 rfl
  have kz : (0 : Int32).toInt = 0 := rfl
  have k1 : (Int32.ofInt 1).toInt = 1 := q9oI_toInt (by decide)
  have k400 : (Int32.ofInt 400).toInt = 400 := q9oI_toInt (by decide)
  have X0 := q9th_pX (T := T) (N := N) (P := P) (J := J) (t0 := t0) (Sc := Sc) (op := 1406) (q9evS ae0) (q9evZ w0) (q9evS ae2) (hX _ (List.mem_of_getElem? (i := 0) rfl)) (by decide)
  rw [q9FF_1406] at X0
  have H0 := Option.some.inj X0
  try simp only [kz, k1, k400] at H0
  have X1 := q9th_pX (T := T) (N := N) (P := P) (J := J) (t0 := t0) (Sc := Sc) (op := 1416) (q9evS ae0) (q9evS ae1) (q9evS ae3) (hX _ (List.mem_of_getElem? (i := 1) rfl)) (by decide)
  rw [q9FF_1416] at X1
  have H1 := Option.some.inj X1
  try simp only [kz, k1, k400] at H1
  have X2 := q9th_pX (T := T) (N := N) (P := P) (J := J) (t0 := t0) (Sc := Sc) (op := 1413) (q9evS ae0) (q9evS ae1) (q9evS ae5) (hX _ (List.mem_of_getElem? (i := 2) rfl)) (by decide)
  rw [q9FF_1413] at X2
  have H2 := Option.some.inj X2
  try simp only [kz, k1, k400] at H2
  have L0 : (Int32.ofInt 1).toInt ≤ x5.toInt + 0 := q9pC (q9evC w0 1) (q9evS ae5) (hL _ (List.mem_of_getElem? (i := 0) rfl))
  have X3 := q9pB (T := T) (N := N) (P := P) (J := J) (t0 := t0) (Sc := Sc) (q9evS ae2) (q9evS ae3) (q9evS ae4) (hX _ (List.mem_of_getElem? (i := 3) rfl))
  have L1 : (0 : Int32).toInt ≤ x0.toInt + 0 := q9pC (q9evZ w0) (q9evS ae0) (hL _ (List.mem_of_getElem? (i := 1) rfl))
  have L2 : (0 : Int32).toInt ≤ x1.toInt + 0 := q9pC (q9evZ w0) (q9evS ae1) (hL _ (List.mem_of_getElem? (i := 2) rfl))
  have hf : q9fnP T N P J := by
    by_cases hf : q9fnP T N P J
    · exact hf
    · exfalso
      rw [q9axO_n hf] at H2
      have h9 : (0 : Int) = x5.toInt := H2
      omega
  have hr := q9axO_R hN.1 hf (s := x0.toInt) (a := x1.toInt) (by omega)
  unfold q9axR at hr
  have hc4 := q9cn_400 hN.1 hf (s := x0.toInt) (by omega)
  have hfc : cnQ T N P J x0.toInt = x2.toInt := H0
  have d9 := q9su32 X3 (by omega)
  have u_ : q9upN w 7 [] 0 = .int 0 := q9upN_of (by decide) w0
  have u0 : q9upN w 7 [] 1 = .int x0 := q9upN_of (by decide) ae0
  have u1 : q9upN w 7 [] 2 = .int x1 := q9upN_of (by decide) ae1
  have u2 : q9upN w 7 [] 3 = .int x2 := q9upN_of (by decide) ae2
  have u3 : q9upN w 7 [] 4 = .int x3 := q9upN_of (by decide) ae3
  have u4 : q9upN w 7 [] 5 = .int x4 := q9upN_of (by decide) ae4
  have u5 : q9upN w 7 [] 6 = .int x5 := q9upN_of (by decide) ae5
  refine ⟨[], fun i9 p9 hq9 => ?_, fun _ h => absurd h List.not_mem_nil, List.forall_mem_cons.mpr ⟨?_, List.forall_mem_cons.mpr ⟨?_, List.forall_mem_cons.mpr ⟨?_, List.forall_mem_cons.mpr ⟨?_, fun _ h => absurd h List.not_mem_nil⟩⟩⟩⟩⟩
  · exact nomatch (show (none : Option (Nat × q9AV × q9AV × q9ET)) = some p9 from hq9)
  · exact q9th_tC (d := 0) (q9evZ u_) (q9evS u4) (by omega)
  · exact q9th_tC (d := 0) (q9evS u4) (q9evS u2) (by omega)
  · exact q9th_tC (d := 0) (q9evZ u_) (q9evS u2) (by omega)
  · exact q9th_tC (d := 0) (q9evS u2) (q9evC u_ 400) (by omega)
theorem q9ru_fv1 (hT : ∀ i, 0 ≤ T i ∧ T i ≤ 255) (hN : 0 ≤ N ∧ N ≤ 400) (hSc : 0 ≤ Sc 1 ∧ Sc 1 ≤ 400 → N = Sc 1) : q9ruOK (fO T N P J t0 Sc) q9R_fv1 := by
  intro w w0 hA hX hL hV hR
  obtain ⟨x0, ae0, -, -⟩ := hA 0 0 rfl
  obtain ⟨x1, ae1, -, -⟩ := hA 1 0 rfl
  obtain ⟨x2, ae2, -, -⟩ := hA 2 0 rfl
  obtain ⟨x3, ae3, -, -⟩ := hA 3 0 rfl
  obtain ⟨x4, ae4, -, -⟩ := hA 4 0 rfl
  obtain ⟨x5, ae5, -, -⟩ := hA 5 0 rfl
  obtain ⟨x6, ae6, -, -⟩ := hA 6 0 rfl
  obtain ⟨x7, ae7, -, -⟩ := hA 7 0 rfl
  obtain ⟨x8, ae8, -, -⟩ := hA 8 0 rfl
  obtain ⟨x9, ae9, -, -⟩ := hA 9 0 rfl
  obtain ⟨x10, ae10, -, -⟩ := hA 10 0 rfl
  obtain ⟨x11, ae11, -, -⟩ := hA 11 0 rfl
  obtain ⟨x12, ae12, -, -⟩ := hA 12 0 rfl
  obtain ⟨x13, ae13, -, -⟩ := hA 13 0 rfl
  have kz : (0 : Int32).toInt = 0 := rfl
  have V0 := q9pV (T := T) (N := N) (P := P) (J := J) (t0 := t0) (Sc := Sc) (op := 1408) (n := 2) (q9evS ae0) (q9evZ w0) (hV _ (List.mem_of_getElem? (i := 0) rfl)) (by decide)
  rw [q9FF_1408] at V0
  have K0 := id V0
  try simp only [kz] at K0
  have X0 := q9th_pX (T := T) (N := N) (P := P) (J := J) (t0 := t0) (Sc := Sc) (op := 1411) (q9evS ae0) (q9evS ae1) (q9evS ae6) (hX _ (List.mem_of_getElem? (i := 0) rfl)) (by decide)
  rw [q9FF_1411] at X0
  have H0 := Option.some.inj X0
  try simp only [kz] at H0
  have X1 := q9th_pX (T := T) (N := N) (P := P) (J := J) (t0 := t0) (Sc := Sc) (op := 1412) (q9evS ae0) (q9evS ae1) (q9evS ae7) (hX _ (List.mem_of_getElem? (i := 1) rfl)) (by decide)
  rw [q9FF_1412] at X1
  have H1 := Option.some.inj X1
  try simp only [kz] at H1
  have X2 := q9th_pX (T := T) (N := N) (P := P) (J := J) (t0 := t0) (Sc := Sc) (op := 1414) (q9evS ae0) (q9evS ae1) (q9evS ae9) (hX _ (List.mem_of_getElem? (i := 2) rfl)) (by decide)
  rw [q9FF_1414] at X2
  have H2 := Option.some.inj X2
  try simp only [kz] at H2
  have X3 := q9th_pX (T := T) (N := N) (P := P) (J := J) (t0 := t0) (Sc := Sc) (op := 1413) (q9evS ae0) (q9evS ae1) (q9evS ae5) (hX _ (List.mem_of_getElem? (i := 3) rfl)) (by decide)
  rw [q9FF_1413] at X3
  have H3 := Option.some.inj X3
  try simp only [kz] at H3
  have L0 : (0 : Int32).toInt ≤ x0.toInt + 0 := q9pC (q9evZ w0) (q9evS ae0) (hL _ (List.mem_of_getElem? (i := 0) rfl))
  have L1 : (0 : Int32).toInt ≤ x1.toInt + 0 := q9pC (q9evZ w0) (q9evS ae1) (hL _ (List.mem_of_getElem? (i := 1) rfl))
  have X4 := q9th_pX (T := T) (N := N) (P := P) (J := J) (t0 := t0) (Sc := Sc) (op := 1406) (q9evS ae0) (q9evZ w0) (q9evS ae2) (hX _ (List.mem_of_getElem? (i := 4) rfl)) (by decide)
  rw [q9FF_1406] at X4
  have H4 := Option.some.inj X4
  try simp only [kz] at H4
  have X5 := q9th_pX (T := T) (N := N) (P := P) (J := J) (t0 := t0) (Sc := Sc) (op := 1416) (q9evS ae0) (q9evS ae1) (q9evS ae3) (hX _ (List.mem_of_getElem? (i := 5) rfl)) (by decide)
  rw [q9FF_1416] at X5
  have H5 := Option.some.inj X5
  try simp only [kz] at H5
  have X6 := q9pB (T := T) (N := N) (P := P) (J := J) (t0 := t0) (Sc := Sc) (q9evS ae2) (q9evS ae3) (q9evS ae4) (hX _ (List.mem_of_getElem? (i := 6) rfl))
  have L2 : (0 : Int32).toInt ≤ x4.toInt + 0 := q9pC (q9evZ w0) (q9evS ae4) (hL _ (List.mem_of_getElem? (i := 2) rfl))
  have L3 : x4.toInt ≤ x5.toInt + (-1) := q9pC (q9evS ae4) (q9evS ae5) (hL _ (List.mem_of_getElem? (i := 3) rfl))
  have X7 := q9th_pX (T := T) (N := N) (P := P) (J := J) (t0 := t0) (Sc := Sc) (op := 1440) (q9evO ae4 1) (q9evS ae5) (q9evS ae10) (hX _ (List.mem_of_getElem? (i := 7) rfl)) (by decide)
  rw [q9FF_1440] at X7
  have H7 := Option.some.inj X7
  try simp only [kz] at H7
  have X8 := q9th_pX (T := T) (N := N) (P := P) (J := J) (t0 := t0) (Sc := Sc) (op := 1440) (q9evS ae10) (q9evS ae9) (q9evS ae11) (hX _ (List.mem_of_getElem? (i := 8) rfl)) (by decide)
  rw [q9FF_1440] at X8
  have H8 := Option.some.inj X8
  try simp only [kz] at H8
  have X9 := q9pB (T := T) (N := N) (P := P) (J := J) (t0 := t0) (Sc := Sc) (q9evS ae7) (q9evS ae6) (q9evS ae8) (hX _ (List.mem_of_getElem? (i := 9) rfl))
  have X10 := q9th_pX (T := T) (N := N) (P := P) (J := J) (t0 := t0) (Sc := Sc) (op := 1441) (q9evS ae8) (q9evS ae11) (q9evS ae12) (hX _ (List.mem_of_getElem? (i := 10) rfl)) (by decide)
  rw [q9FF_1441] at X10
  have H10 := Option.some.inj X10
  try simp only [kz] at H10
  have X11 := q9pB (T := T) (N := N) (P := P) (J := J) (t0 := t0) (Sc := Sc) (q9evS ae6) (q9evS ae12) (q9evS ae13) (hX _ (List.mem_of_getElem? (i := 11) rfl))
  obtain ⟨q, hq, ht⟩ := q9q_m K0
  obtain ⟨hf, ha, ho⟩ := q9q_of hq
  obtain ⟨⟨l1, l2, l3, l4⟩, ⟨l5, l6⟩, ⟨l7, l8, l9⟩, l10, l11, l12⟩ := q9q_ln hN.1 hf ha
  have W := q9plW_P hN.1 hf
  obtain ⟨hfr, hk1, hk2⟩ := q9fr_Q ha ho (q9tp_2 ht)
  have hlb := q9fr_lt hN.1 hf hfr
  have a1 := q9ad32 (x := x0) (d := 1) (by omega)
  have hr := q9axO_R hN.1 hf (s := x0.toInt) (a := x1.toInt) (by omega)
  unfold q9axR at hr
  have hc4 := q9cn_400 hN.1 hf (s := x0.toInt) (by omega)
  have hfc : cnQ T N P J x0.toInt = x2.toInt := H4
  have d9 := q9su32 X6 (by omega)
  have hax := q9axO_fr hf (a := x1.toInt) (by omega) hfr
  have a4 := q9ad32 (x := x4) (d := 1) (by omega)
  have s8 : x8.toInt = q9w32 (x7.toInt - x6.toInt) := by rw [← (Value.int.inj (Option.some.inj X9) : x7 - x6 = x8), q9w32_sub]
  have s13 : x13.toInt = q9w32 (x6.toInt + x12.toInt) := by rw [← (Value.int.inj (Option.some.inj X11) : x6 + x12 = x13), q9w32_add]
  have e12 : q9ezI x8.toInt (x4.toInt + 1) x5.toInt x9.toInt = x12.toInt := by
    rw [← q9cd_dec (by omega) (by omega) (by omega), ← a4, H7, H8]
    exact H10
  have hd9 : (axO T N P J x0.toInt x1.toInt).2.2.2.2.1 = x4.toInt := by omega
  have hlt9 : (axO T N P J x0.toInt x1.toInt).2.2.2.2.1 < (axO T N P J x0.toInt x1.toInt).2.2.2.1 := by omega
  have hM : q9axM (axO T N P J x0.toInt x1.toInt) = (q9w32 ((axO T N P J x0.toInt x1.toInt).2.1 + q9ezI (q9w32 ((axO T N P J x0.toInt x1.toInt).2.2.1 - (axO T N P J x0.toInt x1.toInt).2.1)) ((axO T N P J x0.toInt x1.toInt).2.2.2.2.1 + 1) (axO T N P J x0.toInt x1.toInt).2.2.2.1 (axO T N P J x0.toInt x1.toInt).2.2.2.2.2.1), (axO T N P J x0.toInt x1.toInt).2.1, (axO T N P J x0.toInt x1.toInt).2.2.1, (axO T N P J x0.toInt x1.toInt).2.2.2.1, (axO T N P J x0.toInt x1.toInt).2.2.2.2.1 + 1, (axO T N P J x0.toInt x1.toInt).2.2.2.2.2.1, (axO T N P J x0.toInt x1.toInt).2.2.2.2.2.2) := by unfold q9axM; rw [if_pos hlt9]
  have hval : (q9axM (axO T N P J x0.toInt x1.toInt)).1 = x13.toInt := by
    rw [hM]
    dsimp only
    rw [H0, H1, H3, H2, hd9, ← s8, e12, ← s13]
  have u_ : q9upN w 15 [] 0 = .int 0 := q9upN_of (by decide) w0
  have u0 : q9upN w 15 [] 1 = .int x0 := q9upN_of (by decide) ae0
  have u1 : q9upN w 15 [] 2 = .int x1 := q9upN_of (by decide) ae1
  have u2 : q9upN w 15 [] 3 = .int x2 := q9upN_of (by decide) ae2
  have u3 : q9upN w 15 [] 4 = .int x3 := q9upN_of (by decide) ae3
  have u4 : q9upN w 15 [] 5 = .int x4 := q9upN_of (by decide) ae4
  have u5 : q9upN w 15 [] 6 = .int x5 := q9upN_of (by decide) ae5
  have u6 : q9upN w 15 [] 7 = .int x6 := q9upN_of (by decide) ae6
  have u7 : q9upN w 15 [] 8 = .int x7 := q9upN_of (by decide) ae7
  have u8 : q9upN w 15 [] 9 = .int x8 := q9upN_of (by decide) ae8
  have u9 : q9upN w 15 [] 10 = .int x9 := q9upN_of (by decide) ae9
  have u10 : q9upN w 15 [] 11 = .int x10 := q9upN_of (by decide) ae10
  have u11 : q9upN w 15 [] 12 = .int x11 := q9upN_of (by decide) ae11
  have u12 : q9upN w 15 [] 13 = .int x12 := q9upN_of (by decide) ae12
  have u13 : q9upN w 15 [] 14 = .int x13 := q9upN_of (by decide) ae13
  refine ⟨[], fun i9 p9 hq9 => ?_, List.forall_mem_cons.mpr ⟨?_, fun _ h => absurd h List.not_mem_nil⟩, fun _ h => absurd h List.not_mem_nil⟩
  · exact nomatch (show (none : Option (Nat × q9AV × q9AV × q9ET)) = some p9 from hq9)
  · exact q9th_tX (T := T) (N := N) (P := P) (J := J) (t0 := t0) (Sc := Sc) (q9evO u0 1) (q9evS u1) (q9evS u13) (by rw [q9FF_1410]; exact (by rw [a1, hax]; exact congrArg some hval)) (by decide)
theorem q9ru_fv0 (hT : ∀ i, 0 ≤ T i ∧ T i ≤ 255) (hN : 0 ≤ N ∧ N ≤ 400) (hSc : 0 ≤ Sc 1 ∧ Sc 1 ≤ 400 → N = Sc 1) : q9ruOK (fO T N P J t0 Sc) q9R_fv0 := by
  intro w w0 hA hX hL hV hR
  obtain ⟨x0, ae0, -, -⟩ := hA 0 0 rfl
  obtain ⟨x1, ae1, -, -⟩ := hA 1 0 rfl
  obtain ⟨x2, ae2, -, -⟩ := hA 2 0 rfl
  obtain ⟨x3, ae3, -, -⟩ := hA 3 0 rfl
  obtain ⟨x4, ae4, -, -⟩ := hA 4 0 rfl
  obtain ⟨x5, ae5, -, -⟩ := hA 5 0 rfl
  obtain ⟨x6, ae6, -, -⟩ := hA 6 0 rfl
  have kz : (0 : Int32).toInt = 0 := rfl
  have V0 := q9pV (T := T) (N := N) (P := P) (J := J) (t0 := t0) (Sc := Sc) (op := 1408) (n := 2) (q9evS ae0) (q9evZ w0) (hV _ (List.mem_of_getElem? (i := 0) rfl)) (by decide)
  rw [q9FF_1408] at V0
  have K0 := id V0
  try simp only [kz] at K0
  have X0 := q9th_pX (T := T) (N := N) (P := P) (J := J) (t0 := t0) (Sc := Sc) (op := 1406) (q9evS ae0) (q9evZ w0) (q9evS ae2) (hX _ (List.mem_of_getElem? (i := 0) rfl)) (by decide)
  rw [q9FF_1406] at X0
  have H0 := Option.some.inj X0
  try simp only [kz] at H0
  have X1 := q9th_pX (T := T) (N := N) (P := P) (J := J) (t0 := t0) (Sc := Sc) (op := 1416) (q9evS ae0) (q9evS ae1) (q9evS ae3) (hX _ (List.mem_of_getElem? (i := 1) rfl)) (by decide)
  rw [q9FF_1416] at X1
  have H1 := Option.some.inj X1
  try simp only [kz] at H1
  have X2 := q9pB (T := T) (N := N) (P := P) (J := J) (t0 := t0) (Sc := Sc) (q9evS ae2) (q9evS ae3) (q9evS ae4) (hX _ (List.mem_of_getElem? (i := 2) rfl))
  have X3 := q9th_pX (T := T) (N := N) (P := P) (J := J) (t0 := t0) (Sc := Sc) (op := 1413) (q9evS ae0) (q9evS ae1) (q9evS ae5) (hX _ (List.mem_of_getElem? (i := 3) rfl)) (by decide)
  rw [q9FF_1413] at X3
  have H3 := Option.some.inj X3
  try simp only [kz] at H3
  have L0 : x5.toInt ≤ x4.toInt + 0 := q9pC (q9evS ae5) (q9evS ae4) (hL _ (List.mem_of_getElem? (i := 0) rfl))
  have X4 := q9th_pX (T := T) (N := N) (P := P) (J := J) (t0 := t0) (Sc := Sc) (op := 1410) (q9evS ae0) (q9evS ae1) (q9evS ae6) (hX _ (List.mem_of_getElem? (i := 4) rfl)) (by decide)
  rw [q9FF_1410] at X4
  have H4 := Option.some.inj X4
  try simp only [kz] at H4
  have L1 : (0 : Int32).toInt ≤ x0.toInt + 0 := q9pC (q9evZ w0) (q9evS ae0) (hL _ (List.mem_of_getElem? (i := 1) rfl))
  have L2 : (0 : Int32).toInt ≤ x1.toInt + 0 := q9pC (q9evZ w0) (q9evS ae1) (hL _ (List.mem_of_getElem? (i := 2) rfl))
  obtain ⟨q, hq, ht⟩ := q9q_m K0
  obtain ⟨hf, ha, ho⟩ := q9q_of hq
  obtain ⟨⟨l1, l2, l3, l4⟩, ⟨l5, l6⟩, ⟨l7, l8, l9⟩, l10, l11, l12⟩ := q9q_ln hN.1 hf ha
  have W := q9plW_P hN.1 hf
  obtain ⟨hfr, hk1, hk2⟩ := q9fr_Q ha ho (q9tp_2 ht)
  have hlb := q9fr_lt hN.1 hf hfr
  have a1 := q9ad32 (x := x0) (d := 1) (by omega)
  have hr := q9axO_R hN.1 hf (s := x0.toInt) (a := x1.toInt) (by omega)
  unfold q9axR at hr
  have hc4 := q9cn_400 hN.1 hf (s := x0.toInt) (by omega)
  have hfc : cnQ T N P J x0.toInt = x2.toInt := H0
  have d9 := q9su32 X2 (by omega)
  have hax := q9axO_fr hf (a := x1.toInt) (by omega) hfr
  have hM : q9axM (axO T N P J x0.toInt x1.toInt) = (axO T N P J x0.toInt x1.toInt) := by unfold q9axM; rw [if_neg (by omega)]
  have u_ : q9upN w 8 [] 0 = .int 0 := q9upN_of (by decide) w0
  have u0 : q9upN w 8 [] 1 = .int x0 := q9upN_of (by decide) ae0
  have u1 : q9upN w 8 [] 2 = .int x1 := q9upN_of (by decide) ae1
  have u2 : q9upN w 8 [] 3 = .int x2 := q9upN_of (by decide) ae2
  have u3 : q9upN w 8 [] 4 = .int x3 := q9upN_of (by decide) ae3
  have u4 : q9upN w 8 [] 5 = .int x4 := q9upN_of (by decide) ae4
  have u5 : q9upN w 8 [] 6 = .int x5 := q9upN_of (by decide) ae5
  have u6 : q9upN w 8 [] 7 = .int x6 := q9upN_of (by decide) ae6
  refine ⟨[], fun i9 p9 hq9 => ?_, List.forall_mem_cons.mpr ⟨?_, fun _ h => absurd h List.not_mem_nil⟩, fun _ h => absurd h List.not_mem_nil⟩
  · exact nomatch (show (none : Option (Nat × q9AV × q9AV × q9ET)) = some p9 from hq9)
  · exact q9th_tX (T := T) (N := N) (P := P) (J := J) (t0 := t0) (Sc := Sc) (q9evO u0 1) (q9evS u1) (q9evS u6) (by rw [q9FF_1410]; exact (by rw [a1, hax, hM]; exact congrArg some H4)) (by decide)
theorem q9ru_fvm (hT : ∀ i, 0 ≤ T i ∧ T i ≤ 255) (hN : 0 ≤ N ∧ N ≤ 400) (hSc : 0 ≤ Sc 1 ∧ Sc 1 ≤ 400 → N = Sc 1) : q9ruOK (fO T N P J t0 Sc) q9R_fvm := by
  intro w w0 hA hX hL hV hR
  obtain ⟨x0, ae0, -, -⟩ := hA 0 0 rfl
  obtain ⟨x1, ae1, -, -⟩ := hA 1 0 rfl
  obtain ⟨x2, ae2, -, -⟩ := hA 2 0 rfl
  obtain ⟨x3, ae3, -, -⟩ := hA 3 0 rfl
  have kz : (0 : Int32).toInt = 0 := rfl
  have V0 := q9pV (T := T) (N := N) (P := P) (J := J) (t0 := t0) (Sc := Sc) (op := 1408) (n := 2) (q9evS ae0) (q9evZ w0) (hV _ (List.mem_of_getElem? (i := 0) rfl)) (by decide)
  rw [q9FF_1408] at V0
  have K0 := id V0
  try simp only [kz] at K0
  have X0 := q9th_pX (T := T) (N := N) (P := P) (J := J) (t0 := t0) (Sc := Sc) (op := 1413) (q9evS ae0) (q9evS ae1) (q9evS ae2) (hX _ (List.mem_of_getElem? (i := 0) rfl)) (by decide)
  rw [q9FF_1413] at X0
  have H0 := Option.some.inj X0
  try simp only [kz] at H0
  have L0 : x2.toInt ≤ (0 : Int32).toInt + 0 := q9pC (q9evS ae2) (q9evZ w0) (hL _ (List.mem_of_getElem? (i := 0) rfl))
  have X1 := q9th_pX (T := T) (N := N) (P := P) (J := J) (t0 := t0) (Sc := Sc) (op := 1410) (q9evS ae0) (q9evS ae1) (q9evS ae3) (hX _ (List.mem_of_getElem? (i := 1) rfl)) (by decide)
  rw [q9FF_1410] at X1
  have H1 := Option.some.inj X1
  try simp only [kz] at H1
  have L1 : (0 : Int32).toInt ≤ x0.toInt + 0 := q9pC (q9evZ w0) (q9evS ae0) (hL _ (List.mem_of_getElem? (i := 1) rfl))
  have L2 : (0 : Int32).toInt ≤ x1.toInt + 0 := q9pC (q9evZ w0) (q9evS ae1) (hL _ (List.mem_of_getElem? (i := 2) rfl))
  obtain ⟨q, hq, ht⟩ := q9q_m K0
  obtain ⟨hf, ha, ho⟩ := q9q_of hq
  obtain ⟨⟨l1, l2, l3, l4⟩, ⟨l5, l6⟩, ⟨l7, l8, l9⟩, l10, l11, l12⟩ := q9q_ln hN.1 hf ha
  have W := q9plW_P hN.1 hf
  obtain ⟨hfr, hk1, hk2⟩ := q9fr_Q ha ho (q9tp_2 ht)
  have hlb := q9fr_lt hN.1 hf hfr
  have a1 := q9ad32 (x := x0) (d := 1) (by omega)
  have hr := q9axO_R hN.1 hf (s := x0.toInt) (a := x1.toInt) (by omega)
  unfold q9axR at hr
  have hc4 := q9cn_400 hN.1 hf (s := x0.toInt) (by omega)
  have hax := q9axO_fr hf (a := x1.toInt) (by omega) hfr
  have hM : q9axM (axO T N P J x0.toInt x1.toInt) = (axO T N P J x0.toInt x1.toInt) := by unfold q9axM; rw [if_neg (by omega)]
  have u_ : q9upN w 5 [] 0 = .int 0 := q9upN_of (by decide) w0
  have u0 : q9upN w 5 [] 1 = .int x0 := q9upN_of (by decide) ae0
  have u1 : q9upN w 5 [] 2 = .int x1 := q9upN_of (by decide) ae1
  have u2 : q9upN w 5 [] 3 = .int x2 := q9upN_of (by decide) ae2
  have u3 : q9upN w 5 [] 4 = .int x3 := q9upN_of (by decide) ae3
  refine ⟨[], fun i9 p9 hq9 => ?_, List.forall_mem_cons.mpr ⟨?_, fun _ h => absurd h List.not_mem_nil⟩, fun _ h => absurd h List.not_mem_nil⟩
  · exact nomatch (show (none : Option (Nat × q9AV × q9AV × q9ET)) = some p9 from hq9)
  · exact q9th_tX (T := T) (N := N) (P := P) (J := J) (t0 := t0) (Sc := Sc) (q9evO u0 1) (q9evS u1) (q9evS u3) (by rw [q9FF_1410]; exact (by rw [a1, hax, hM]; exact congrArg some H1)) (by decide)
theorem q9ru_fr1 (hT : ∀ i, 0 ≤ T i ∧ T i ≤ 255) (hN : 0 ≤ N ∧ N ≤ 400) (hSc : 0 ≤ Sc 1 ∧ Sc 1 ≤ 400 → N = Sc 1) : q9ruOK (fO T N P J t0 Sc) q9R_fr1 := by
  intro w w0 hA hX hL hV hR
  obtain ⟨x0, ae0, -, -⟩ := hA 0 0 rfl
  obtain ⟨x1, ae1, -, -⟩ := hA 1 0 rfl
  obtain ⟨x2, ae2, -, -⟩ := hA 2 0 rfl
  obtain ⟨x3, ae3, -, -⟩ := hA 3 0 rfl
  obtain ⟨x4, ae4, -, -⟩ := hA 4 0 rfl
  obtain ⟨x5, ae5, -, -⟩ := hA 5 0 rfl
  obtain ⟨x6, ae6, -, -⟩ := hA 6 0 rfl
  obtain ⟨x7, ae7, -, -⟩ := hA 7 0 rfl
  obtain ⟨x8, ae8, -, -⟩ := hA 8 0 rfl
  obtain ⟨x9, ae9, -, -⟩ := hA 9 0 rfl
  obtain ⟨x10, ae10, -, -⟩ := hA 10 0 rfl
  obtain ⟨x11, ae11, -, -⟩ := hA 11 0 rfl
  obtain ⟨x12, ae12, -, -⟩ := hA 12 0 rfl
  obtain ⟨x13, ae13, -, -⟩ := hA 13 0 rfl
  have kz : (0 : Int32).toInt = 0 := rfl
  have V0 := q9pV (T := T) (N := N) (P := P) (J := J) (t0 := t0) (Sc := Sc) (op := 1408) (n := 2) (q9evS ae0) (q9evZ w0) (hV _ (List.mem_of_getElem? (i := 0) rfl)) (by decide)
  rw [q9FF_1408] at V0
  have K0 := id V0
  try simp only [kz] at K0
  have X0 := q9th_pX (T := T) (N := N) (P := P) (J := J) (t0 := t0) (Sc := Sc) (op := 1411) (q9evS ae0) (q9evS ae1) (q9evS ae6) (hX _ (List.mem_of_getElem? (i := 0) rfl)) (by decide)
  rw [q9FF_1411] at X0
  have H0 := Option.some.inj X0
  try simp only [kz] at H0
  have X1 := q9th_pX (T := T) (N := N) (P := P) (J := J) (t0 := t0) (Sc := Sc) (op := 1412) (q9evS ae0) (q9evS ae1) (q9evS ae7) (hX _ (List.mem_of_getElem? (i := 1) rfl)) (by decide)
  rw [q9FF_1412] at X1
  have H1 := Option.some.inj X1
  try simp only [kz] at H1
  have X2 := q9th_pX (T := T) (N := N) (P := P) (J := J) (t0 := t0) (Sc := Sc) (op := 1414) (q9evS ae0) (q9evS ae1) (q9evS ae9) (hX _ (List.mem_of_getElem? (i := 2) rfl)) (by decide)
  rw [q9FF_1414] at X2
  have H2 := Option.some.inj X2
  try simp only [kz] at H2
  have X3 := q9th_pX (T := T) (N := N) (P := P) (J := J) (t0 := t0) (Sc := Sc) (op := 1413) (q9evS ae0) (q9evS ae1) (q9evS ae5) (hX _ (List.mem_of_getElem? (i := 3) rfl)) (by decide)
  rw [q9FF_1413] at X3
  have H3 := Option.some.inj X3
  try simp only [kz] at H3
  have L0 : (0 : Int32).toInt ≤ x0.toInt + 0 := q9pC (q9evZ w0) (q9evS ae0) (hL _ (List.mem_of_getElem? (i := 0) rfl))
  have L1 : (0 : Int32).toInt ≤ x1.toInt + 0 := q9pC (q9evZ w0) (q9evS ae1) (hL _ (List.mem_of_getElem? (i := 1) rfl))
  have X4 := q9th_pX (T := T) (N := N) (P := P) (J := J) (t0 := t0) (Sc := Sc) (op := 1415) (q9evS ae0) (q9evS ae1) (q9evS ae4) (hX _ (List.mem_of_getElem? (i := 4) rfl)) (by decide)
  rw [q9FF_1415] at X4
  have H4 := Option.some.inj X4
  try simp only [kz] at H4
  have L2 : x4.toInt ≤ x5.toInt + (-1) := q9pC (q9evS ae4) (q9evS ae5) (hL _ (List.mem_of_getElem? (i := 2) rfl))
  have X5 := q9th_pX (T := T) (N := N) (P := P) (J := J) (t0 := t0) (Sc := Sc) (op := 1440) (q9evO ae4 1) (q9evS ae5) (q9evS ae10) (hX _ (List.mem_of_getElem? (i := 5) rfl)) (by decide)
  rw [q9FF_1440] at X5
  have H5 := Option.some.inj X5
  try simp only [kz] at H5
  have X6 := q9th_pX (T := T) (N := N) (P := P) (J := J) (t0 := t0) (Sc := Sc) (op := 1440) (q9evS ae10) (q9evS ae9) (q9evS ae11) (hX _ (List.mem_of_getElem? (i := 6) rfl)) (by decide)
  rw [q9FF_1440] at X6
  have H6 := Option.some.inj X6
  try simp only [kz] at H6
  have X7 := q9pB (T := T) (N := N) (P := P) (J := J) (t0 := t0) (Sc := Sc) (q9evS ae7) (q9evS ae6) (q9evS ae8) (hX _ (List.mem_of_getElem? (i := 7) rfl))
  have X8 := q9th_pX (T := T) (N := N) (P := P) (J := J) (t0 := t0) (Sc := Sc) (op := 1441) (q9evS ae8) (q9evS ae11) (q9evS ae12) (hX _ (List.mem_of_getElem? (i := 8) rfl)) (by decide)
  rw [q9FF_1441] at X8
  have H8 := Option.some.inj X8
  try simp only [kz] at H8
  have X9 := q9pB (T := T) (N := N) (P := P) (J := J) (t0 := t0) (Sc := Sc) (q9evS ae6) (q9evS ae12) (q9evS ae13) (hX _ (List.mem_of_getElem? (i := 9) rfl))
  obtain ⟨q, hq, ht⟩ := q9q_m K0
  obtain ⟨hf, ha, ho⟩ := q9q_of hq
  obtain ⟨⟨l1, l2, l3, l4⟩, ⟨l5, l6⟩, ⟨l7, l8, l9⟩, l10, l11, l12⟩ := q9q_ln hN.1 hf ha
  have W := q9plW_P hN.1 hf
  obtain ⟨hfr, hk1, hk2⟩ := q9fr_Q ha ho (q9tp_2 ht)
  have hlb := q9fr_lt hN.1 hf hfr
  have a1 := q9ad32 (x := x0) (d := 1) (by omega)
  have hr := q9axO_R hN.1 hf (s := x0.toInt) (a := x1.toInt) (by omega)
  unfold q9axR at hr
  have hc4 := q9cn_400 hN.1 hf (s := x0.toInt) (by omega)
  have hax := q9axO_fr hf (a := x1.toInt) (by omega) hfr
  have a4 := q9ad32 (x := x4) (d := 1) (by omega)
  have s8 : x8.toInt = q9w32 (x7.toInt - x6.toInt) := by rw [← (Value.int.inj (Option.some.inj X7) : x7 - x6 = x8), q9w32_sub]
  have s13 : x13.toInt = q9w32 (x6.toInt + x12.toInt) := by rw [← (Value.int.inj (Option.some.inj X9) : x6 + x12 = x13), q9w32_add]
  have e12 : q9ezI x8.toInt (x4.toInt + 1) x5.toInt x9.toInt = x12.toInt := by
    rw [← q9cd_dec (by omega) (by omega) (by omega), ← a4, H5, H6]
    exact H8
  have hd9 : (axO T N P J x0.toInt x1.toInt).2.2.2.2.1 = x4.toInt := by omega
  have hlt9 : (axO T N P J x0.toInt x1.toInt).2.2.2.2.1 < (axO T N P J x0.toInt x1.toInt).2.2.2.1 := by omega
  have hM : q9axM (axO T N P J x0.toInt x1.toInt) = (q9w32 ((axO T N P J x0.toInt x1.toInt).2.1 + q9ezI (q9w32 ((axO T N P J x0.toInt x1.toInt).2.2.1 - (axO T N P J x0.toInt x1.toInt).2.1)) ((axO T N P J x0.toInt x1.toInt).2.2.2.2.1 + 1) (axO T N P J x0.toInt x1.toInt).2.2.2.1 (axO T N P J x0.toInt x1.toInt).2.2.2.2.2.1), (axO T N P J x0.toInt x1.toInt).2.1, (axO T N P J x0.toInt x1.toInt).2.2.1, (axO T N P J x0.toInt x1.toInt).2.2.2.1, (axO T N P J x0.toInt x1.toInt).2.2.2.2.1 + 1, (axO T N P J x0.toInt x1.toInt).2.2.2.2.2.1, (axO T N P J x0.toInt x1.toInt).2.2.2.2.2.2) := by unfold q9axM; rw [if_pos hlt9]
  have hval : (q9axM (axO T N P J x0.toInt x1.toInt)).1 = x13.toInt := by
    rw [hM]
    dsimp only
    rw [H0, H1, H3, H2, hd9, ← s8, e12, ← s13]
  have hdn : (q9axM (axO T N P J x0.toInt x1.toInt)).2.2.2.2.1 = x4.toInt + 1 := by
    rw [hM]
    dsimp only
    rw [hd9]
  have rg0 : (1 : Int) ≤ (x4.toInt + 1) ∧ ((x4.toInt + 1) : Int) ≤ 400 := by omega
  obtain ⟨x14, nt14⟩ : ∃ x : Int32, x.toInt = (x4.toInt + 1) := ⟨Int32.ofInt ((x4.toInt + 1)), q9oI_toInt (by omega)⟩
  have u_ : q9upN w 15 [.int x14] 0 = .int 0 := q9upN_of (by decide) w0
  have u0 : q9upN w 15 [.int x14] 1 = .int x0 := q9upN_of (by decide) ae0
  have u1 : q9upN w 15 [.int x14] 2 = .int x1 := q9upN_of (by decide) ae1
  have u2 : q9upN w 15 [.int x14] 3 = .int x2 := q9upN_of (by decide) ae2
  have u3 : q9upN w 15 [.int x14] 4 = .int x3 := q9upN_of (by decide) ae3
  have u4 : q9upN w 15 [.int x14] 5 = .int x4 := q9upN_of (by decide) ae4
  have u5 : q9upN w 15 [.int x14] 6 = .int x5 := q9upN_of (by decide) ae5
  have u6 : q9upN w 15 [.int x14] 7 = .int x6 := q9upN_of (by decide) ae6
  have u7 : q9upN w 15 [.int x14] 8 = .int x7 := q9upN_of (by decide) ae7
  have u8 : q9upN w 15 [.int x14] 9 = .int x8 := q9upN_of (by decide) ae8
  have u9 : q9upN w 15 [.int x14] 10 = .int x9 := q9upN_of (by decide) ae9
  have u10 : q9upN w 15 [.int x14] 11 = .int x10 := q9upN_of (by decide) ae10
  have u11 : q9upN w 15 [.int x14] 12 = .int x11 := q9upN_of (by decide) ae11
  have u12 : q9upN w 15 [.int x14] 13 = .int x12 := q9upN_of (by decide) ae12
  have u13 : q9upN w 15 [.int x14] 14 = .int x13 := q9upN_of (by decide) ae13
  have u14 : q9upN w 15 [.int x14] 15 = .int x14 := q9upN_at (by decide)
  refine ⟨[.int x14], fun i9 p9 hq9 => ?_, List.forall_mem_cons.mpr ⟨?_, fun _ h => absurd h List.not_mem_nil⟩, List.forall_mem_cons.mpr ⟨?_, List.forall_mem_cons.mpr ⟨?_, fun _ h => absurd h List.not_mem_nil⟩⟩⟩
  · match i9, hq9 with
    | 0, hq9 =>
      have hp9 : ((1415, (1, 1), (2, 0), (0, 1, 400)) : Nat × q9AV × q9AV × q9ET) = p9 := Option.some.inj hq9
      subst hp9
      exact ⟨⟨x14, rfl, by rw [nt14]; exact rg0.1, by rw [nt14]; exact rg0.2⟩, (q9th_tX (T := T) (N := N) (P := P) (J := J) (t0 := t0) (Sc := Sc) (q9evO u0 1) (q9evS u1) (q9evS u14) (by rw [q9FF_1415, nt14]; exact (by rw [a1, hax]; exact congrArg some hdn)) (by decide)).trans (congrArg some (q9evS u14))⟩
    | k9 + 1, hq9 => exact nomatch (show (none : Option (Nat × q9AV × q9AV × q9ET)) = some p9 from hq9)
  · exact q9th_tX (T := T) (N := N) (P := P) (J := J) (t0 := t0) (Sc := Sc) (q9evO u0 1) (q9evS u1) (q9evS u13) (by rw [q9FF_1410]; exact (by rw [a1, hax]; exact congrArg some hval)) (by decide)
  · exact q9th_tC (d := 1) (q9evS u14) (q9evS u4) (by omega)
  · exact q9th_tC (d := (-1)) (q9evS u4) (q9evS u14) (by omega)
theorem q9ru_fr0 (hT : ∀ i, 0 ≤ T i ∧ T i ≤ 255) (hN : 0 ≤ N ∧ N ≤ 400) (hSc : 0 ≤ Sc 1 ∧ Sc 1 ≤ 400 → N = Sc 1) : q9ruOK (fO T N P J t0 Sc) q9R_fr0 := by
  intro w w0 hA hX hL hV hR
  obtain ⟨x0, ae0, -, -⟩ := hA 0 0 rfl
  obtain ⟨x1, ae1, -, -⟩ := hA 1 0 rfl
  obtain ⟨x2, ae2, -, -⟩ := hA 2 0 rfl
  obtain ⟨x3, ae3, -, -⟩ := hA 3 0 rfl
  obtain ⟨x4, ae4, -, -⟩ := hA 4 0 rfl
  have kz : (0 : Int32).toInt = 0 := rfl
  have V0 := q9pV (T := T) (N := N) (P := P) (J := J) (t0 := t0) (Sc := Sc) (op := 1408) (n := 2) (q9evS ae0) (q9evZ w0) (hV _ (List.mem_of_getElem? (i := 0) rfl)) (by decide)
  rw [q9FF_1408] at V0
  have K0 := id V0
  try simp only [kz] at K0
  have X0 := q9th_pX (T := T) (N := N) (P := P) (J := J) (t0 := t0) (Sc := Sc) (op := 1415) (q9evS ae0) (q9evS ae1) (q9evS ae2) (hX _ (List.mem_of_getElem? (i := 0) rfl)) (by decide)
  rw [q9FF_1415] at X0
  have H0 := Option.some.inj X0
  try simp only [kz] at H0
  have X1 := q9th_pX (T := T) (N := N) (P := P) (J := J) (t0 := t0) (Sc := Sc) (op := 1413) (q9evS ae0) (q9evS ae1) (q9evS ae3) (hX _ (List.mem_of_getElem? (i := 1) rfl)) (by decide)
  rw [q9FF_1413] at X1
  have H1 := Option.some.inj X1
  try simp only [kz] at H1
  have L0 : x3.toInt ≤ x2.toInt + 0 := q9pC (q9evS ae3) (q9evS ae2) (hL _ (List.mem_of_getElem? (i := 0) rfl))
  have X2 := q9th_pX (T := T) (N := N) (P := P) (J := J) (t0 := t0) (Sc := Sc) (op := 1410) (q9evS ae0) (q9evS ae1) (q9evS ae4) (hX _ (List.mem_of_getElem? (i := 2) rfl)) (by decide)
  rw [q9FF_1410] at X2
  have H2 := Option.some.inj X2
  try simp only [kz] at H2
  have L1 : (0 : Int32).toInt ≤ x0.toInt + 0 := q9pC (q9evZ w0) (q9evS ae0) (hL _ (List.mem_of_getElem? (i := 1) rfl))
  have L2 : (0 : Int32).toInt ≤ x1.toInt + 0 := q9pC (q9evZ w0) (q9evS ae1) (hL _ (List.mem_of_getElem? (i := 2) rfl))
  obtain ⟨q, hq, ht⟩ := q9q_m K0
  obtain ⟨hf, ha, ho⟩ := q9q_of hq
  obtain ⟨⟨l1, l2, l3, l4⟩, ⟨l5, l6⟩, ⟨l7, l8, l9⟩, l10, l11, l12⟩ := q9q_ln hN.1 hf ha
  have W := q9plW_P hN.1 hf
  obtain ⟨hfr, hk1, hk2⟩ := q9fr_Q ha ho (q9tp_2 ht)
  have hlb := q9fr_lt hN.1 hf hfr
  have a1 := q9ad32 (x := x0) (d := 1) (by omega)
  have hr := q9axO_R hN.1 hf (s := x0.toInt) (a := x1.toInt) (by omega)
  unfold q9axR at hr
  have hc4 := q9cn_400 hN.1 hf (s := x0.toInt) (by omega)
  have hax := q9axO_fr hf (a := x1.toInt) (by omega) hfr
  have hM : q9axM (axO T N P J x0.toInt x1.toInt) = (axO T N P J x0.toInt x1.toInt) := by unfold q9axM; rw [if_neg (by omega)]
  have u_ : q9upN w 6 [] 0 = .int 0 := q9upN_of (by decide) w0
  have u0 : q9upN w 6 [] 1 = .int x0 := q9upN_of (by decide) ae0
  have u1 : q9upN w 6 [] 2 = .int x1 := q9upN_of (by decide) ae1
  have u2 : q9upN w 6 [] 3 = .int x2 := q9upN_of (by decide) ae2
  have u3 : q9upN w 6 [] 4 = .int x3 := q9upN_of (by decide) ae3
  have u4 : q9upN w 6 [] 5 = .int x4 := q9upN_of (by decide) ae4
  refine ⟨[], fun i9 p9 hq9 => ?_, List.forall_mem_cons.mpr ⟨?_, List.forall_mem_cons.mpr ⟨?_, fun _ h => absurd h List.not_mem_nil⟩⟩, fun _ h => absurd h List.not_mem_nil⟩
  · exact nomatch (show (none : Option (Nat × q9AV × q9AV × q9ET)) = some p9 from hq9)
  · exact q9th_tX (T := T) (N := N) (P := P) (J := J) (t0 := t0) (Sc := Sc) (q9evO u0 1) (q9evS u1) (q9evS u4) (by rw [q9FF_1410]; exact (by rw [a1, hax, hM]; exact congrArg some H2)) (by decide)
  · exact q9th_tX (T := T) (N := N) (P := P) (J := J) (t0 := t0) (Sc := Sc) (q9evO u0 1) (q9evS u1) (q9evS u2) (by rw [q9FF_1415]; exact (by rw [a1, hax, hM]; exact congrArg some H0)) (by decide)
theorem q9ru_axc0 (hT : ∀ i, 0 ≤ T i ∧ T i ≤ 255) (hN : 0 ≤ N ∧ N ≤ 400) (hSc : 0 ≤ Sc 1 ∧ Sc 1 ≤ 400 → N = Sc 1) : q9ruOK (fO T N P J t0 Sc) q9R_axc0 := by
  intro w w0 hA hX hL hV hR
  obtain ⟨x0, ae0, -, -⟩ := hA 0 0 rfl
  obtain ⟨x1, ae1, -, -⟩ := hA 1 0 rfl
  obtain ⟨x2, ae2, -, -⟩ := hA 2 0 rfl
  obtain ⟨x3, ae3, -, -⟩ := hA 3 0 rfl
  have kz : (0 : Int32).toInt = 0 := rfl
  have k3 : (Int32.ofInt 3).toInt = 3 := q9oI_toInt (by decide)
  have k399 : (Int32.ofInt 399).toInt = 399 := q9oI_toInt (by decide)
  have V0 := q9pV (T := T) (N := N) (P := P) (J := J) (t0 := t0) (Sc := Sc) (op := 1408) (n := 2) (q9evS ae0) (q9evZ w0) (hV _ (List.mem_of_getElem? (i := 0) rfl)) (by decide)
  rw [q9FF_1408] at V0
  have K0 := id V0
  try simp only [kz, k3, k399] at K0
  have X0 := q9th_pX (T := T) (N := N) (P := P) (J := J) (t0 := t0) (Sc := Sc) (op := 1406) (q9evS ae0) (q9evZ w0) (q9evS ae1) (hX _ (List.mem_of_getElem? (i := 0) rfl)) (by decide)
  rw [q9FF_1406] at X0
  have H0 := Option.some.inj X0
  try simp only [kz, k3, k399] at H0
  have X1 := q9pB (T := T) (N := N) (P := P) (J := J) (t0 := t0) (Sc := Sc) (q9evS ae1) (q9evC w0 3) (q9evS ae2) (hX _ (List.mem_of_getElem? (i := 1) rfl))
  have X2 := q9th_pX (T := T) (N := N) (P := P) (J := J) (t0 := t0) (Sc := Sc) (op := 1410) (q9evO ae0 1) (q9evZ w0) (q9evS ae3) (hX _ (List.mem_of_getElem? (i := 2) rfl)) (by decide)
  rw [q9FF_1410] at X2
  have H2 := Option.some.inj X2
  try simp only [kz, k3, k399] at H2
  have L0 : (0 : Int32).toInt ≤ x1.toInt + 0 := q9pC (q9evZ w0) (q9evS ae1) (hL _ (List.mem_of_getElem? (i := 0) rfl))
  have L1 : x1.toInt ≤ (Int32.ofInt 399).toInt + 0 := q9pC (q9evS ae1) (q9evC w0 399) (hL _ (List.mem_of_getElem? (i := 1) rfl))
  have L2 : (0 : Int32).toInt ≤ x0.toInt + 0 := q9pC (q9evZ w0) (q9evS ae0) (hL _ (List.mem_of_getElem? (i := 2) rfl))
  obtain ⟨q, hq, ht⟩ := q9q_m K0
  obtain ⟨hf, ha, ho⟩ := q9q_of hq
  obtain ⟨⟨l1, l2, l3, l4⟩, ⟨l5, l6⟩, ⟨l7, l8, l9⟩, l10, l11, l12⟩ := q9q_ln hN.1 hf ha
  have W := q9plW_P hN.1 hf
  obtain ⟨hfr, hk1, hk2⟩ := q9fr_Q ha ho (q9tp_2 ht)
  have hlb := q9fr_lt hN.1 hf hfr
  have a1 := q9ad32 (x := x0) (d := 1) (by omega)
  have hfc : cnQ T N P J x0.toInt = x1.toInt := H0
  have m2 := q9mu32 X1 (by rw [k3]; omega)
  rw [k3] at m2
  have hv : axC T N P J x2.toInt = some x3.toInt := q9axC_to hN.1 hf (by omega) hfr (by omega) (by rw [show x2.toInt % 3 = 0 by omega, ← a1]; exact H2.symm)
  have u_ : q9upN w 5 [] 0 = .int 0 := q9upN_of (by decide) w0
  have u0 : q9upN w 5 [] 1 = .int x0 := q9upN_of (by decide) ae0
  have u1 : q9upN w 5 [] 2 = .int x1 := q9upN_of (by decide) ae1
  have u2 : q9upN w 5 [] 3 = .int x2 := q9upN_of (by decide) ae2
  have u3 : q9upN w 5 [] 4 = .int x3 := q9upN_of (by decide) ae3
  refine ⟨[], fun i9 p9 hq9 => ?_, List.forall_mem_cons.mpr ⟨?_, fun _ h => absurd h List.not_mem_nil⟩, fun _ h => absurd h List.not_mem_nil⟩
  · exact nomatch (show (none : Option (Nat × q9AV × q9AV × q9ET)) = some p9 from hq9)
  · exact q9th_tX (T := T) (N := N) (P := P) (J := J) (t0 := t0) (Sc := Sc) (q9evS u2) (q9evZ u_) (q9evS u3) (by rw [q9FF_1430]; exact hv) (by decide)
theorem q9ru_axc1 (hT : ∀ i, 0 ≤ T i ∧ T i ≤ 255) (hN : 0 ≤ N ∧ N ≤ 400) (hSc : 0 ≤ Sc 1 ∧ Sc 1 ≤ 400 → N = Sc 1) : q9ruOK (fO T N P J t0 Sc) q9R_axc1 := by
  intro w w0 hA hX hL hV hR
  obtain ⟨x0, ae0, -, -⟩ := hA 0 0 rfl
  obtain ⟨x1, ae1, -, -⟩ := hA 1 0 rfl
  obtain ⟨x2, ae2, -, -⟩ := hA 2 0 rfl
  obtain ⟨x3, ae3, -, -⟩ := hA 3 0 rfl
  have kz : (0 : Int32).toInt = 0 := rfl
  have k1 : (Int32.ofInt 1).toInt = 1 := q9oI_toInt (by decide)
  have k3 : (Int32.ofInt 3).toInt = 3 := q9oI_toInt (by decide)
  have k399 : (Int32.ofInt 399).toInt = 399 := q9oI_toInt (by decide)
  have V0 := q9pV (T := T) (N := N) (P := P) (J := J) (t0 := t0) (Sc := Sc) (op := 1408) (n := 2) (q9evS ae0) (q9evZ w0) (hV _ (List.mem_of_getElem? (i := 0) rfl)) (by decide)
  rw [q9FF_1408] at V0
  have K0 := id V0
  try simp only [kz, k1, k3, k399] at K0
  have X0 := q9th_pX (T := T) (N := N) (P := P) (J := J) (t0 := t0) (Sc := Sc) (op := 1406) (q9evS ae0) (q9evZ w0) (q9evS ae1) (hX _ (List.mem_of_getElem? (i := 0) rfl)) (by decide)
  rw [q9FF_1406] at X0
  have H0 := Option.some.inj X0
  try simp only [kz, k1, k3, k399] at H0
  have X1 := q9pB (T := T) (N := N) (P := P) (J := J) (t0 := t0) (Sc := Sc) (q9evS ae1) (q9evC w0 3) (q9evS ae2) (hX _ (List.mem_of_getElem? (i := 1) rfl))
  have X2 := q9th_pX (T := T) (N := N) (P := P) (J := J) (t0 := t0) (Sc := Sc) (op := 1410) (q9evO ae0 1) (q9evC w0 1) (q9evS ae3) (hX _ (List.mem_of_getElem? (i := 2) rfl)) (by decide)
  rw [q9FF_1410] at X2
  have H2 := Option.some.inj X2
  try simp only [kz, k1, k3, k399] at H2
  have L0 : (0 : Int32).toInt ≤ x1.toInt + 0 := q9pC (q9evZ w0) (q9evS ae1) (hL _ (List.mem_of_getElem? (i := 0) rfl))
  have L1 : x1.toInt ≤ (Int32.ofInt 399).toInt + 0 := q9pC (q9evS ae1) (q9evC w0 399) (hL _ (List.mem_of_getElem? (i := 1) rfl))
  have L2 : (0 : Int32).toInt ≤ x0.toInt + 0 := q9pC (q9evZ w0) (q9evS ae0) (hL _ (List.mem_of_getElem? (i := 2) rfl))
  obtain ⟨q, hq, ht⟩ := q9q_m K0
  obtain ⟨hf, ha, ho⟩ := q9q_of hq
  obtain ⟨⟨l1, l2, l3, l4⟩, ⟨l5, l6⟩, ⟨l7, l8, l9⟩, l10, l11, l12⟩ := q9q_ln hN.1 hf ha
  have W := q9plW_P hN.1 hf
  obtain ⟨hfr, hk1, hk2⟩ := q9fr_Q ha ho (q9tp_2 ht)
  have hlb := q9fr_lt hN.1 hf hfr
  have a1 := q9ad32 (x := x0) (d := 1) (by omega)
  have hfc : cnQ T N P J x0.toInt = x1.toInt := H0
  have m2 := q9mu32 X1 (by rw [k3]; omega)
  rw [k3] at m2
  have aj := q9ad32 (x := x2) (d := 1) (by omega)
  have hv : axC T N P J (x2.toInt + 1) = some x3.toInt := q9axC_to hN.1 hf (by omega) hfr (by omega) (by rw [show (x2.toInt + 1) % 3 = 1 by omega, ← a1]; exact H2.symm)
  have u_ : q9upN w 5 [] 0 = .int 0 := q9upN_of (by decide) w0
  have u0 : q9upN w 5 [] 1 = .int x0 := q9upN_of (by decide) ae0
  have u1 : q9upN w 5 [] 2 = .int x1 := q9upN_of (by decide) ae1
  have u2 : q9upN w 5 [] 3 = .int x2 := q9upN_of (by decide) ae2
  have u3 : q9upN w 5 [] 4 = .int x3 := q9upN_of (by decide) ae3
  refine ⟨[], fun i9 p9 hq9 => ?_, List.forall_mem_cons.mpr ⟨?_, fun _ h => absurd h List.not_mem_nil⟩, fun _ h => absurd h List.not_mem_nil⟩
  · exact nomatch (show (none : Option (Nat × q9AV × q9AV × q9ET)) = some p9 from hq9)
  · exact q9th_tX (T := T) (N := N) (P := P) (J := J) (t0 := t0) (Sc := Sc) (q9evO u2 1) (q9evZ u_) (q9evS u3) (by rw [q9FF_1430]; exact (by rw [aj]; exact hv)) (by decide)
theorem q9ru_axc2 (hT : ∀ i, 0 ≤ T i ∧ T i ≤ 255) (hN : 0 ≤ N ∧ N ≤ 400) (hSc : 0 ≤ Sc 1 ∧ Sc 1 ≤ 400 → N = Sc 1) : q9ruOK (fO T N P J t0 Sc) q9R_axc2 := by
  intro w w0 hA hX hL hV hR
  obtain ⟨x0, ae0, -, -⟩ := hA 0 0 rfl
  obtain ⟨x1, ae1, -, -⟩ := hA 1 0 rfl
  obtain ⟨x2, ae2, -, -⟩ := hA 2 0 rfl
  obtain ⟨x3, ae3, -, -⟩ := hA 3 0 rfl
  have kz : (0 : Int32).toInt = 0 := rfl
  have k2 : (Int32.ofInt 2).toInt = 2 := q9oI_toInt (by decide)
  have k3 : (Int32.ofInt 3).toInt = 3 := q9oI_toInt (by decide)
  have k399 : (Int32.ofInt 399).toInt = 399 := q9oI_toInt (by decide)
  have V0 := q9pV (T := T) (N := N) (P := P) (J := J) (t0 := t0) (Sc := Sc) (op := 1408) (n := 2) (q9evS ae0) (q9evZ w0) (hV _ (List.mem_of_getElem? (i := 0) rfl)) (by decide)
  rw [q9FF_1408] at V0
  have K0 := id V0
  try simp only [kz, k2, k3, k399] at K0
  have X0 := q9th_pX (T := T) (N := N) (P := P) (J := J) (t0 := t0) (Sc := Sc) (op := 1406) (q9evS ae0) (q9evZ w0) (q9evS ae1) (hX _ (List.mem_of_getElem? (i := 0) rfl)) (by decide)
  rw [q9FF_1406] at X0
  have H0 := Option.some.inj X0
  try simp only [kz, k2, k3, k399] at H0
  have X1 := q9pB (T := T) (N := N) (P := P) (J := J) (t0 := t0) (Sc := Sc) (q9evS ae1) (q9evC w0 3) (q9evS ae2) (hX _ (List.mem_of_getElem? (i := 1) rfl))
  have X2 := q9th_pX (T := T) (N := N) (P := P) (J := J) (t0 := t0) (Sc := Sc) (op := 1410) (q9evO ae0 1) (q9evC w0 2) (q9evS ae3) (hX _ (List.mem_of_getElem? (i := 2) rfl)) (by decide)
  rw [q9FF_1410] at X2
  have H2 := Option.some.inj X2
  try simp only [kz, k2, k3, k399] at H2
  have L0 : (0 : Int32).toInt ≤ x1.toInt + 0 := q9pC (q9evZ w0) (q9evS ae1) (hL _ (List.mem_of_getElem? (i := 0) rfl))
  have L1 : x1.toInt ≤ (Int32.ofInt 399).toInt + 0 := q9pC (q9evS ae1) (q9evC w0 399) (hL _ (List.mem_of_getElem? (i := 1) rfl))
  have L2 : (0 : Int32).toInt ≤ x0.toInt + 0 := q9pC (q9evZ w0) (q9evS ae0) (hL _ (List.mem_of_getElem? (i := 2) rfl))
  obtain ⟨q, hq, ht⟩ := q9q_m K0
  obtain ⟨hf, ha, ho⟩ := q9q_of hq
  obtain ⟨⟨l1, l2, l3, l4⟩, ⟨l5, l6⟩, ⟨l7, l8, l9⟩, l10, l11, l12⟩ := q9q_ln hN.1 hf ha
  have W := q9plW_P hN.1 hf
  obtain ⟨hfr, hk1, hk2⟩ := q9fr_Q ha ho (q9tp_2 ht)
  have hlb := q9fr_lt hN.1 hf hfr
  have a1 := q9ad32 (x := x0) (d := 1) (by omega)
  have hfc : cnQ T N P J x0.toInt = x1.toInt := H0
  have m2 := q9mu32 X1 (by rw [k3]; omega)
  rw [k3] at m2
  have aj := q9ad32 (x := x2) (d := 2) (by omega)
  have hv : axC T N P J (x2.toInt + 2) = some x3.toInt := q9axC_to hN.1 hf (by omega) hfr (by omega) (by rw [show (x2.toInt + 2) % 3 = 2 by omega, ← a1]; exact H2.symm)
  have u_ : q9upN w 5 [] 0 = .int 0 := q9upN_of (by decide) w0
  have u0 : q9upN w 5 [] 1 = .int x0 := q9upN_of (by decide) ae0
  have u1 : q9upN w 5 [] 2 = .int x1 := q9upN_of (by decide) ae1
  have u2 : q9upN w 5 [] 3 = .int x2 := q9upN_of (by decide) ae2
  have u3 : q9upN w 5 [] 4 = .int x3 := q9upN_of (by decide) ae3
  refine ⟨[], fun i9 p9 hq9 => ?_, List.forall_mem_cons.mpr ⟨?_, fun _ h => absurd h List.not_mem_nil⟩, fun _ h => absurd h List.not_mem_nil⟩
  · exact nomatch (show (none : Option (Nat × q9AV × q9AV × q9ET)) = some p9 from hq9)
  · exact q9th_tX (T := T) (N := N) (P := P) (J := J) (t0 := t0) (Sc := Sc) (q9evO u2 2) (q9evZ u_) (q9evS u3) (by rw [q9FF_1430]; exact (by rw [aj]; exact hv)) (by decide)
theorem q9ru_m30 (hT : ∀ i, 0 ≤ T i ∧ T i ≤ 255) (hN : 0 ≤ N ∧ N ≤ 400) (hSc : 0 ≤ Sc 1 ∧ Sc 1 ≤ 400 → N = Sc 1) : q9ruOK (fO T N P J t0 Sc) q9R_m30 := by
  intro w w0 hA hX hL hV hR
  have kz : (0 : Int32).toInt = 0 := rfl
  have k3 : (Int32.ofInt 3).toInt = 3 := q9oI_toInt (by decide)
  have rg0 : (0 : Int) ≤ 0 ∧ (0 : Int) ≤ 0 := by omega
  obtain ⟨x0, nt0⟩ : ∃ x : Int32, x.toInt = 0 := ⟨Int32.ofInt (0), q9oI_toInt (by omega)⟩
  have u_ : q9upN w 1 [.int x0] 0 = .int 0 := q9upN_of (by decide) w0
  have u0 : q9upN w 1 [.int x0] 1 = .int x0 := q9upN_at (by decide)
  refine ⟨[.int x0], fun i9 p9 hq9 => ?_, fun _ h => absurd h List.not_mem_nil, fun _ h => absurd h List.not_mem_nil⟩
  · match i9, hq9 with
    | 0, hq9 =>
      have hp9 : ((2, (0, 0), (0, 3), (0, 0, 0)) : Nat × q9AV × q9AV × q9ET) = p9 := Option.some.inj hq9
      subst hp9
      exact ⟨⟨x0, rfl, by rw [nt0]; exact rg0.1, by rw [nt0]; exact rg0.2⟩, (q9tB (T := T) (N := N) (P := P) (J := J) (t0 := t0) (Sc := Sc) (q9evZ u_) (q9evC u_ 3) (q9evS u0) (q9mu32t (by rw [nt0, kz]; first | done | exact (Int.zero_mul _).symm))).trans (congrArg some (q9evS u0))⟩
    | k9 + 1, hq9 => exact nomatch (show (none : Option (Nat × q9AV × q9AV × q9ET)) = some p9 from hq9)
theorem q9ru_m3s (hT : ∀ i, 0 ≤ T i ∧ T i ≤ 255) (hN : 0 ≤ N ∧ N ≤ 400) (hSc : 0 ≤ Sc 1 ∧ Sc 1 ≤ 400 → N = Sc 1) : q9ruOK (fO T N P J t0 Sc) q9R_m3s := by
  intro w w0 hA hX hL hV hR
  obtain ⟨x0, ae0, -, -⟩ := hA 0 0 rfl
  obtain ⟨x1, ae1, -, -⟩ := hA 1 0 rfl
  obtain ⟨x2, ae2, -, -⟩ := hA 2 0 rfl
  have kz : (0 : Int32).toInt = 0 := rfl
  have k3 : (Int32.ofInt 3).toInt = 3 := q9oI_toInt (by decide)
  have k399 : (Int32.ofInt 399).toInt = 399 := q9oI_toInt (by decide)
  have X0 := q9pB (T := T) (N := N) (P := P) (J := J) (t0 := t0) (Sc := Sc) (q9evS ae0) (q9evC w0 3) (q9evS ae1) (hX _ (List.mem_of_getElem? (i := 0) rfl))
  have L0 : (0 : Int32).toInt ≤ x0.toInt + 0 := q9pC (q9evZ w0) (q9evS ae0) (hL _ (List.mem_of_getElem? (i := 0) rfl))
  have L1 : x0.toInt ≤ (Int32.ofInt 399).toInt + 0 := q9pC (q9evS ae0) (q9evC w0 399) (hL _ (List.mem_of_getElem? (i := 1) rfl))
  have L2 : x2.toInt ≤ x0.toInt + 1 := q9pC (q9evS ae2) (q9evS ae0) (hL _ (List.mem_of_getElem? (i := 2) rfl))
  have L3 : x0.toInt ≤ x2.toInt + (-1) := q9pC (q9evS ae0) (q9evS ae2) (hL _ (List.mem_of_getElem? (i := 3) rfl))
  have m0 := q9mu32 X0 (by rw [k3]; omega)
  rw [k3] at m0
  have rg0 : (3 : Int) ≤ (x0.toInt * 3 + 3) ∧ ((x0.toInt * 3 + 3) : Int) ≤ 1200 := by omega
  obtain ⟨x3, nt3⟩ : ∃ x : Int32, x.toInt = (x0.toInt * 3 + 3) := ⟨Int32.ofInt ((x0.toInt * 3 + 3)), q9oI_toInt (by omega)⟩
  have u_ : q9upN w 4 [.int x3] 0 = .int 0 := q9upN_of (by decide) w0
  have u0 : q9upN w 4 [.int x3] 1 = .int x0 := q9upN_of (by decide) ae0
  have u1 : q9upN w 4 [.int x3] 2 = .int x1 := q9upN_of (by decide) ae1
  have u2 : q9upN w 4 [.int x3] 3 = .int x2 := q9upN_of (by decide) ae2
  have u3 : q9upN w 4 [.int x3] 4 = .int x3 := q9upN_at (by decide)
  refine ⟨[.int x3], fun i9 p9 hq9 => ?_, fun _ h => absurd h List.not_mem_nil, List.forall_mem_cons.mpr ⟨?_, List.forall_mem_cons.mpr ⟨?_, fun _ h => absurd h List.not_mem_nil⟩⟩⟩
  · match i9, hq9 with
    | 0, hq9 =>
      have hp9 : ((2, (3, 0), (0, 3), (0, 3, 1200)) : Nat × q9AV × q9AV × q9ET) = p9 := Option.some.inj hq9
      subst hp9
      exact ⟨⟨x3, rfl, by rw [nt3]; exact rg0.1, by rw [nt3]; exact rg0.2⟩, (q9tB (T := T) (N := N) (P := P) (J := J) (t0 := t0) (Sc := Sc) (q9evS u2) (q9evC u_ 3) (q9evS u3) (q9mu32t (by rw [k3]; omega))).trans (congrArg some (q9evS u3))⟩
    | k9 + 1, hq9 => exact nomatch (show (none : Option (Nat × q9AV × q9AV × q9ET)) = some p9 from hq9)
  · exact q9th_tC (d := 3) (q9evS u3) (q9evS u1) (by omega)
  · exact q9th_tC (d := (-3)) (q9evS u1) (q9evS u3) (by omega)
theorem q9ru_m3l (hT : ∀ i, 0 ≤ T i ∧ T i ≤ 255) (hN : 0 ≤ N ∧ N ≤ 400) (hSc : 0 ≤ Sc 1 ∧ Sc 1 ≤ 400 → N = Sc 1) : q9ruOK (fO T N P J t0 Sc) q9R_m3l := by
  intro w w0 hA hX hL hV hR
  obtain ⟨x0, ae0, -, -⟩ := hA 0 0 rfl
  obtain ⟨x1, ae1, -, -⟩ := hA 1 0 rfl
  obtain ⟨x2, ae2, -, -⟩ := hA 2 0 rfl
  obtain ⟨x3, ae3, -, -⟩ := hA 3 0 rfl
  have kz : (0 : Int32).toInt = 0 := rfl
  have k3 : (Int32.ofInt 3).toInt = 3 := q9oI_toInt (by decide)
  have k400 : (Int32.ofInt 400).toInt = 400 := q9oI_toInt (by decide)
  have X0 := q9pB (T := T) (N := N) (P := P) (J := J) (t0 := t0) (Sc := Sc) (q9evS ae0) (q9evC w0 3) (q9evS ae1) (hX _ (List.mem_of_getElem? (i := 0) rfl))
  have X1 := q9pB (T := T) (N := N) (P := P) (J := J) (t0 := t0) (Sc := Sc) (q9evS ae2) (q9evC w0 3) (q9evS ae3) (hX _ (List.mem_of_getElem? (i := 1) rfl))
  have L0 : x0.toInt ≤ x2.toInt + (-1) := q9pC (q9evS ae0) (q9evS ae2) (hL _ (List.mem_of_getElem? (i := 0) rfl))
  have L1 : (0 : Int32).toInt ≤ x0.toInt + 0 := q9pC (q9evZ w0) (q9evS ae0) (hL _ (List.mem_of_getElem? (i := 1) rfl))
  have L2 : x2.toInt ≤ (Int32.ofInt 400).toInt + 0 := q9pC (q9evS ae2) (q9evC w0 400) (hL _ (List.mem_of_getElem? (i := 2) rfl))
  have m0 := q9mu32 X0 (by rw [k3]; omega)
  rw [k3] at m0
  have m1 := q9mu32 X1 (by rw [k3]; omega)
  rw [k3] at m1
  have u_ : q9upN w 5 [] 0 = .int 0 := q9upN_of (by decide) w0
  have u0 : q9upN w 5 [] 1 = .int x0 := q9upN_of (by decide) ae0
  have u1 : q9upN w 5 [] 2 = .int x1 := q9upN_of (by decide) ae1
  have u2 : q9upN w 5 [] 3 = .int x2 := q9upN_of (by decide) ae2
  have u3 : q9upN w 5 [] 4 = .int x3 := q9upN_of (by decide) ae3
  refine ⟨[], fun i9 p9 hq9 => ?_, fun _ h => absurd h List.not_mem_nil, List.forall_mem_cons.mpr ⟨?_, fun _ h => absurd h List.not_mem_nil⟩⟩
  · exact nomatch (show (none : Option (Nat × q9AV × q9AV × q9ET)) = some p9 from hq9)
  · exact q9th_tC (d := (-3)) (q9evS u1) (q9evS u3) (by omega)
theorem q9ru_fce (hT : ∀ i, 0 ≤ T i ∧ T i ≤ 255) (hN : 0 ≤ N ∧ N ≤ 400) (hSc : 0 ≤ Sc 1 ∧ Sc 1 ≤ 400 → N = Sc 1) : q9ruOK (fO T N P J t0 Sc) q9R_fce := by
  intro w w0 hA hX hL hV hR
  obtain ⟨x0, ae0, -, -⟩ := hA 0 0 rfl
  obtain ⟨x1, ae1, -, -⟩ := hA 1 0 rfl
  obtain ⟨x2, ae2, -, -⟩ := hA 2 0 rfl
  have kz : (0 : Int32).toInt = 0 := rfl
  have V0 := q9pV (T := T) (N := N) (P := P) (J := J) (t0 := t0) (Sc := Sc) (op := 1045) (n := 0) (q9evZ w0) (q9evZ w0) (hV _ (List.mem_of_getElem? (i := 0) rfl)) (by decide)
  rw [q9FF_1045] at V0
  have K0 := Option.some.inj V0
  try simp only [kz] at K0
  have X0 := q9th_pX (T := T) (N := N) (P := P) (J := J) (t0 := t0) (Sc := Sc) (op := 1404) (q9evZ w0) (q9evZ w0) (q9evS ae0) (hX _ (List.mem_of_getElem? (i := 0) rfl)) (by decide)
  rw [q9FF_1404] at X0
  have H0 := X0
  try simp only [kz] at H0
  have X1 := q9th_pX (T := T) (N := N) (P := P) (J := J) (t0 := t0) (Sc := Sc) (op := 1406) (q9evS ae0) (q9evZ w0) (q9evS ae1) (hX _ (List.mem_of_getElem? (i := 1) rfl)) (by decide)
  rw [q9FF_1406] at X1
  have H1 := Option.some.inj X1
  try simp only [kz] at H1
  have X2 := q9th_pX (T := T) (N := N) (P := P) (J := J) (t0 := t0) (Sc := Sc) (op := 1047) (q9evZ w0) (q9evZ w0) (q9evS ae2) (hX _ (List.mem_of_getElem? (i := 2) rfl)) (by decide)
  rw [q9FF_1047] at X2
  have H2 := Option.some.inj X2
  try simp only [kz] at H2
  obtain ⟨q, hq, het⟩ := q9q_m H0
  obtain ⟨hf, ha, ho⟩ := q9q_of hq
  have W := q9plW_P hN.1 hf
  rw [kz, q9q_root hN.1 hf] at hq
  cases hq
  have het : bQ T N P J 0 (szP T N P J) = x0.toInt := het
  have hc : cnQ T N P J (bQ T N P J 0 (szP T N P J)) = bFQ T N P J 0 (szP T N P J) := q9cn_all W
  rw [het] at hc
  have hfc : cnQ T N P J x0.toInt = x1.toInt := H1
  have hfi := q9fn_fin hN.1 hf
  have hff : (finI T N P J).2.2 = x2.toInt := H2
  have u_ : q9upN w 4 [] 0 = .int 0 := q9upN_of (by decide) w0
  have u0 : q9upN w 4 [] 1 = .int x0 := q9upN_of (by decide) ae0
  have u1 : q9upN w 4 [] 2 = .int x1 := q9upN_of (by decide) ae1
  have u2 : q9upN w 4 [] 3 = .int x2 := q9upN_of (by decide) ae2
  refine ⟨[], fun i9 p9 hq9 => ?_, fun _ h => absurd h List.not_mem_nil, List.forall_mem_cons.mpr ⟨?_, List.forall_mem_cons.mpr ⟨?_, fun _ h => absurd h List.not_mem_nil⟩⟩⟩
  · exact nomatch (show (none : Option (Nat × q9AV × q9AV × q9ET)) = some p9 from hq9)
  · exact q9th_tC (d := 0) (q9evS u1) (q9evS u2) (by omega)
  · exact q9th_tC (d := 0) (q9evS u2) (q9evS u1) (by omega)
theorem q9ru_m3e (hT : ∀ i, 0 ≤ T i ∧ T i ≤ 255) (hN : 0 ≤ N ∧ N ≤ 400) (hSc : 0 ≤ Sc 1 ∧ Sc 1 ≤ 400 → N = Sc 1) : q9ruOK (fO T N P J t0 Sc) q9R_m3e := by
  intro w w0 hA hX hL hV hR
  obtain ⟨x0, ae0, -, -⟩ := hA 0 0 rfl
  obtain ⟨x1, ae1, -, -⟩ := hA 1 0 rfl
  obtain ⟨x2, ae2, -, -⟩ := hA 2 0 rfl
  obtain ⟨x3, ae3, -, -⟩ := hA 3 0 rfl
  have kz : (0 : Int32).toInt = 0 := rfl
  have k3 : (Int32.ofInt 3).toInt = 3 := q9oI_toInt (by decide)
  have X0 := q9pB (T := T) (N := N) (P := P) (J := J) (t0 := t0) (Sc := Sc) (q9evS ae0) (q9evC w0 3) (q9evS ae1) (hX _ (List.mem_of_getElem? (i := 0) rfl))
  have X1 := q9pB (T := T) (N := N) (P := P) (J := J) (t0 := t0) (Sc := Sc) (q9evS ae2) (q9evC w0 3) (q9evS ae3) (hX _ (List.mem_of_getElem? (i := 1) rfl))
  have L0 : x0.toInt ≤ x2.toInt + 0 := q9pC (q9evS ae0) (q9evS ae2) (hL _ (List.mem_of_getElem? (i := 0) rfl))
  have L1 : x2.toInt ≤ x0.toInt + 0 := q9pC (q9evS ae2) (q9evS ae0) (hL _ (List.mem_of_getElem? (i := 1) rfl))
  have m0 := q9mu32 X0 (by rw [k3]; omega)
  rw [k3] at m0
  have m1 := q9mu32 X1 (by rw [k3]; omega)
  rw [k3] at m1
  have u_ : q9upN w 5 [] 0 = .int 0 := q9upN_of (by decide) w0
  have u0 : q9upN w 5 [] 1 = .int x0 := q9upN_of (by decide) ae0
  have u1 : q9upN w 5 [] 2 = .int x1 := q9upN_of (by decide) ae1
  have u2 : q9upN w 5 [] 3 = .int x2 := q9upN_of (by decide) ae2
  have u3 : q9upN w 5 [] 4 = .int x3 := q9upN_of (by decide) ae3
  refine ⟨[], fun i9 p9 hq9 => ?_, fun _ h => absurd h List.not_mem_nil, List.forall_mem_cons.mpr ⟨?_, List.forall_mem_cons.mpr ⟨?_, fun _ h => absurd h List.not_mem_nil⟩⟩⟩
  · exact nomatch (show (none : Option (Nat × q9AV × q9AV × q9ET)) = some p9 from hq9)
  · exact q9th_tC (d := 0) (q9evS u1) (q9evS u3) (by omega)
  · exact q9th_tC (d := 0) (q9evS u3) (q9evS u1) (by omega)
theorem q9ru_plc (hT : ∀ i, 0 ≤ T i ∧ T i ≤ 255) (hN : 0 ≤ N ∧ N ≤ 400) (hSc : 0 ≤ Sc 1 ∧ Sc 1 ≤ 400 → N = Sc 1) : q9ruOK (fO T N P J t0 Sc) q9R_plc := by
  intro w w0 hA hX hL hV hR
  obtain ⟨x0, ae0, -, -⟩ := hA 0 0 rfl
  obtain ⟨x1, ae1, -, -⟩ := hA 1 0 rfl
  obtain ⟨x2, ae2, -, -⟩ := hA 2 0 rfl
  obtain ⟨x3, ae3, -, -⟩ := hA 3 0 rfl
  have kz : (0 : Int32).toInt = 0 := rfl
  have k11 : (Int32.ofInt 11).toInt = 11 := q9oI_toInt (by decide)
  have k399 : (Int32.ofInt 399).toInt = 399 := q9oI_toInt (by decide)
  have k400 : (Int32.ofInt 400).toInt = 400 := q9oI_toInt (by decide)
  have X0 := q9th_pX (T := T) (N := N) (P := P) (J := J) (t0 := t0) (Sc := Sc) (op := 1432) (q9evZ w0) (q9evZ w0) (q9evS ae0) (hX _ (List.mem_of_getElem? (i := 0) rfl)) (by decide)
  rw [q9FF_1432] at X0
  have H0 := Option.some.inj X0
  try simp only [kz, k11, k399, k400] at H0
  have X1 := q9pB (T := T) (N := N) (P := P) (J := J) (t0 := t0) (Sc := Sc) (q9evC w0 400) (q9evS ae0) (q9evS ae2) (hX _ (List.mem_of_getElem? (i := 1) rfl))
  have X2 := q9pB (T := T) (N := N) (P := P) (J := J) (t0 := t0) (Sc := Sc) (q9evS ae2) (q9evS ae1) (q9evS ae3) (hX _ (List.mem_of_getElem? (i := 2) rfl))
  have L0 : (0 : Int32).toInt ≤ x0.toInt + 0 := q9pC (q9evZ w0) (q9evS ae0) (hL _ (List.mem_of_getElem? (i := 0) rfl))
  have L1 : x0.toInt ≤ (Int32.ofInt 11).toInt + 0 := q9pC (q9evS ae0) (q9evC w0 11) (hL _ (List.mem_of_getElem? (i := 1) rfl))
  have L2 : (0 : Int32).toInt ≤ x1.toInt + 0 := q9pC (q9evZ w0) (q9evS ae1) (hL _ (List.mem_of_getElem? (i := 2) rfl))
  have L3 : x1.toInt ≤ (Int32.ofInt 399).toInt + 0 := q9pC (q9evS ae1) (q9evC w0 399) (hL _ (List.mem_of_getElem? (i := 3) rfl))
  have hs := q9shn_rng (Sc := Sc)
  have h0 : q9shnI Sc = x0.toInt := H0
  have m1 := q9mu32 X1 (by rw [k400]; omega)
  rw [k400] at m1
  have m2 := q9aa32 X2 (by omega)
  have u_ : q9upN w 5 [] 0 = .int 0 := q9upN_of (by decide) w0
  have u0 : q9upN w 5 [] 1 = .int x0 := q9upN_of (by decide) ae0
  have u1 : q9upN w 5 [] 2 = .int x1 := q9upN_of (by decide) ae1
  have u2 : q9upN w 5 [] 3 = .int x2 := q9upN_of (by decide) ae2
  have u3 : q9upN w 5 [] 4 = .int x3 := q9upN_of (by decide) ae3
  refine ⟨[], fun i9 p9 hq9 => ?_, List.forall_mem_cons.mpr ⟨?_, fun _ h => absurd h List.not_mem_nil⟩, fun _ h => absurd h List.not_mem_nil⟩
  · exact nomatch (show (none : Option (Nat × q9AV × q9AV × q9ET)) = some p9 from hq9)
  · exact q9th_tX (T := T) (N := N) (P := P) (J := J) (t0 := t0) (Sc := Sc) (q9evS u1) (q9evZ u_) (q9evS u3) (by rw [q9FF_1435]; exact (congrArg some (show 400 * q9shnI Sc + x1.toInt = x3.toInt by omega))) (by decide)
theorem q9ru_axq (hT : ∀ i, 0 ≤ T i ∧ T i ≤ 255) (hN : 0 ≤ N ∧ N ≤ 400) (hSc : 0 ≤ Sc 1 ∧ Sc 1 ≤ 400 → N = Sc 1) : q9ruOK (fO T N P J t0 Sc) q9R_axq := by
  intro w w0 hA hX hL hV hR
  obtain ⟨x0, ae0, -, -⟩ := hA 0 0 rfl
  obtain ⟨x1, ae1, -, -⟩ := hA 1 0 rfl
  obtain ⟨x2, ae2, -, -⟩ := hA 2 0 rfl
  obtain ⟨x3, ae3, -, -⟩ := hA 3 0 rfl
  have kz : (0 : Int32).toInt = 0 := rfl
  have k3 : (Int32.ofInt 3).toInt = 3 := q9oI_toInt (by decide)
  have k399 : (Int32.ofInt 399).toInt = 399 := q9oI_toInt (by decide)
  have X0 := q9th_pX (T := T) (N := N) (P := P) (J := J) (t0 := t0) (Sc := Sc) (op := 1435) (q9evS ae0) (q9evZ w0) (q9evS ae1) (hX _ (List.mem_of_getElem? (i := 0) rfl)) (by decide)
  rw [q9FF_1435] at X0
  have H0 := Option.some.inj X0
  try simp only [kz, k3, k399] at H0
  have X1 := q9pB (T := T) (N := N) (P := P) (J := J) (t0 := t0) (Sc := Sc) (q9evC w0 3) (q9evS ae1) (q9evS ae2) (hX _ (List.mem_of_getElem? (i := 1) rfl))
  have X2 := q9th_pX (T := T) (N := N) (P := P) (J := J) (t0 := t0) (Sc := Sc) (op := 1434) (q9evS ae0) (q9evZ w0) (q9evS ae3) (hX _ (List.mem_of_getElem? (i := 2) rfl)) (by decide)
  rw [q9FF_1434] at X2
  have H2 := Option.some.inj X2
  try simp only [kz, k3, k399] at H2
  have L0 : (0 : Int32).toInt ≤ x0.toInt + 0 := q9pC (q9evZ w0) (q9evS ae0) (hL _ (List.mem_of_getElem? (i := 0) rfl))
  have L1 : x0.toInt ≤ (Int32.ofInt 399).toInt + 0 := q9pC (q9evS ae0) (q9evC w0 399) (hL _ (List.mem_of_getElem? (i := 1) rfl))
  have hs := q9shn_rng (Sc := Sc)
  have h0 : 400 * q9shnI Sc + x0.toInt = x1.toInt := H0
  have m1 := q9mu32 X1 (by rw [k3]; omega)
  rw [k3] at m1
  have h2 : 1200 * q9shnI Sc + 3 * x0.toInt = x3.toInt := H2
  have u_ : q9upN w 5 [] 0 = .int 0 := q9upN_of (by decide) w0
  have u0 : q9upN w 5 [] 1 = .int x0 := q9upN_of (by decide) ae0
  have u1 : q9upN w 5 [] 2 = .int x1 := q9upN_of (by decide) ae1
  have u2 : q9upN w 5 [] 3 = .int x2 := q9upN_of (by decide) ae2
  have u3 : q9upN w 5 [] 4 = .int x3 := q9upN_of (by decide) ae3
  refine ⟨[], fun i9 p9 hq9 => ?_, fun _ h => absurd h List.not_mem_nil, List.forall_mem_cons.mpr ⟨?_, List.forall_mem_cons.mpr ⟨?_, fun _ h => absurd h List.not_mem_nil⟩⟩⟩
  · exact nomatch (show (none : Option (Nat × q9AV × q9AV × q9ET)) = some p9 from hq9)
  · exact q9th_tC (d := 0) (q9evS u2) (q9evS u3) (by omega)
  · exact q9th_tC (d := 0) (q9evS u3) (q9evS u2) (by omega)
theorem q9ru_axn (hT : ∀ i, 0 ≤ T i ∧ T i ≤ 255) (hN : 0 ≤ N ∧ N ≤ 400) (hSc : 0 ≤ Sc 1 ∧ Sc 1 ≤ 400 → N = Sc 1) : q9ruOK (fO T N P J t0 Sc) q9R_axn := by
  intro w w0 hA hX hL hV hR
  obtain ⟨x0, ae0, -, -⟩ := hA 0 0 rfl
  obtain ⟨x1, ae1, -, -⟩ := hA 1 0 rfl
  obtain ⟨x2, ae2, -, -⟩ := hA 2 0 rfl
  have kz : (0 : Int32).toInt = 0 := rfl
  have k399 : (Int32.ofInt 399).toInt = 399 := q9oI_toInt (by decide)
  have X0 := q9th_pX (T := T) (N := N) (P := P) (J := J) (t0 := t0) (Sc := Sc) (op := 1434) (q9evS ae0) (q9evZ w0) (q9evS ae1) (hX _ (List.mem_of_getElem? (i := 0) rfl)) (by decide)
  rw [q9FF_1434] at X0
  have H0 := Option.some.inj X0
  try simp only [kz, k399] at H0
  have L0 : (0 : Int32).toInt ≤ x0.toInt + 0 := q9pC (q9evZ w0) (q9evS ae0) (hL _ (List.mem_of_getElem? (i := 0) rfl))
  have L1 : x0.toInt ≤ (Int32.ofInt 399).toInt + 0 := q9pC (q9evS ae0) (q9evC w0 399) (hL _ (List.mem_of_getElem? (i := 1) rfl))
  have L2 : x2.toInt ≤ x0.toInt + 1 := q9pC (q9evS ae2) (q9evS ae0) (hL _ (List.mem_of_getElem? (i := 2) rfl))
  have L3 : x0.toInt ≤ x2.toInt + (-1) := q9pC (q9evS ae0) (q9evS ae2) (hL _ (List.mem_of_getElem? (i := 3) rfl))
  have hs := q9shn_rng (Sc := Sc)
  have h0 : 1200 * q9shnI Sc + 3 * x0.toInt = x1.toInt := H0
  have rg0 : (3 : Int) ≤ (1200 * q9shnI Sc + 3 * x2.toInt) ∧ ((1200 * q9shnI Sc + 3 * x2.toInt) : Int) ≤ 14400 := by omega
  obtain ⟨x3, nt3⟩ : ∃ x : Int32, x.toInt = (1200 * q9shnI Sc + 3 * x2.toInt) := ⟨Int32.ofInt ((1200 * q9shnI Sc + 3 * x2.toInt)), q9oI_toInt (by omega)⟩
  have u_ : q9upN w 4 [.int x3] 0 = .int 0 := q9upN_of (by decide) w0
  have u0 : q9upN w 4 [.int x3] 1 = .int x0 := q9upN_of (by decide) ae0
  have u1 : q9upN w 4 [.int x3] 2 = .int x1 := q9upN_of (by decide) ae1
  have u2 : q9upN w 4 [.int x3] 3 = .int x2 := q9upN_of (by decide) ae2
  have u3 : q9upN w 4 [.int x3] 4 = .int x3 := q9upN_at (by decide)
  refine ⟨[.int x3], fun i9 p9 hq9 => ?_, fun _ h => absurd h List.not_mem_nil, List.forall_mem_cons.mpr ⟨?_, List.forall_mem_cons.mpr ⟨?_, fun _ h => absurd h List.not_mem_nil⟩⟩⟩
  · match i9, hq9 with
    | 0, hq9 =>
      have hp9 : ((1434, (3, 0), (0, 0), (0, 3, 14400)) : Nat × q9AV × q9AV × q9ET) = p9 := Option.some.inj hq9
      subst hp9
      exact ⟨⟨x3, rfl, by rw [nt3]; exact rg0.1, by rw [nt3]; exact rg0.2⟩, (q9th_tX (T := T) (N := N) (P := P) (J := J) (t0 := t0) (Sc := Sc) (q9evS u2) (q9evZ u_) (q9evS u3) (by rw [q9FF_1434, nt3]; first | done | exact rfl) (by decide)).trans (congrArg some (q9evS u3))⟩
    | k9 + 1, hq9 => exact nomatch (show (none : Option (Nat × q9AV × q9AV × q9ET)) = some p9 from hq9)
  · exact q9th_tC (d := 3) (q9evS u3) (q9evS u1) (by omega)
  · exact q9th_tC (d := (-3)) (q9evS u1) (q9evS u3) (by omega)
theorem q9ru_axa0 (hT : ∀ i, 0 ≤ T i ∧ T i ≤ 255) (hN : 0 ≤ N ∧ N ≤ 400) (hSc : 0 ≤ Sc 1 ∧ Sc 1 ≤ 400 → N = Sc 1) : q9ruOK (fO T N P J t0 Sc) q9R_axa0 := by
  intro w w0 hA hX hL hV hR
  obtain ⟨x0, ae0, -, -⟩ := hA 0 0 rfl
  obtain ⟨x1, ae1, -, -⟩ := hA 1 0 rfl
  obtain ⟨x2, ae2, -, -⟩ := hA 2 0 rfl
  obtain ⟨x3, ae3, -, -⟩ := hA 3 0 rfl
  have kz : (0 : Int32).toInt = 0 := rfl
  have k399 : (Int32.ofInt 399).toInt = 399 := q9oI_toInt (by decide)
  have V0 := q9pV (T := T) (N := N) (P := P) (J := J) (t0 := t0) (Sc := Sc) (op := 1408) (n := 2) (q9evS ae0) (q9evZ w0) (hV _ (List.mem_of_getElem? (i := 0) rfl)) (by decide)
  rw [q9FF_1408] at V0
  have K0 := id V0
  try simp only [kz, k399] at K0
  have X0 := q9th_pX (T := T) (N := N) (P := P) (J := J) (t0 := t0) (Sc := Sc) (op := 1406) (q9evS ae0) (q9evZ w0) (q9evS ae1) (hX _ (List.mem_of_getElem? (i := 0) rfl)) (by decide)
  rw [q9FF_1406] at X0
  have H0 := Option.some.inj X0
  try simp only [kz, k399] at H0
  have X1 := q9th_pX (T := T) (N := N) (P := P) (J := J) (t0 := t0) (Sc := Sc) (op := 1434) (q9evS ae1) (q9evZ w0) (q9evS ae2) (hX _ (List.mem_of_getElem? (i := 1) rfl)) (by decide)
  rw [q9FF_1434] at X1
  have H1 := Option.some.inj X1
  try simp only [kz, k399] at H1
  have X2 := q9th_pX (T := T) (N := N) (P := P) (J := J) (t0 := t0) (Sc := Sc) (op := 1410) (q9evO ae0 1) (q9evZ w0) (q9evS ae3) (hX _ (List.mem_of_getElem? (i := 2) rfl)) (by decide)
  rw [q9FF_1410] at X2
  have H2 := Option.some.inj X2
  try simp only [kz, k399] at H2
  have L0 : (0 : Int32).toInt ≤ x1.toInt + 0 := q9pC (q9evZ w0) (q9evS ae1) (hL _ (List.mem_of_getElem? (i := 0) rfl))
  have L1 : x1.toInt ≤ (Int32.ofInt 399).toInt + 0 := q9pC (q9evS ae1) (q9evC w0 399) (hL _ (List.mem_of_getElem? (i := 1) rfl))
  have L2 : (0 : Int32).toInt ≤ x0.toInt + 0 := q9pC (q9evZ w0) (q9evS ae0) (hL _ (List.mem_of_getElem? (i := 2) rfl))
  obtain ⟨q, hq, ht⟩ := q9q_m K0
  obtain ⟨hf, ha, ho⟩ := q9q_of hq
  obtain ⟨⟨l1, l2, l3, l4⟩, ⟨l5, l6⟩, ⟨l7, l8, l9⟩, l10, l11, l12⟩ := q9q_ln hN.1 hf ha
  have W := q9plW_P hN.1 hf
  obtain ⟨hfr, hk1, hk2⟩ := q9fr_Q ha ho (q9tp_2 ht)
  have hlb := q9fr_lt hN.1 hf hfr
  have a1 := q9ad32 (x := x0) (d := 1) (by omega)
  have hfc : cnQ T N P J x0.toInt = x1.toInt := H0
  have hs := q9shn_rng (Sc := Sc)
  have m2 : 1200 * q9shnI Sc + 3 * x1.toInt = x2.toInt := H1
  have hv : axC T N P J (x2.toInt - 1200 * q9shnI Sc) = some x3.toInt := q9axC_to hN.1 hf (by omega) hfr (by omega) (by rw [show (x2.toInt - 1200 * q9shnI Sc) % 3 = 0 by omega, ← a1]; exact H2.symm)
  have u_ : q9upN w 5 [] 0 = .int 0 := q9upN_of (by decide) w0
  have u0 : q9upN w 5 [] 1 = .int x0 := q9upN_of (by decide) ae0
  have u1 : q9upN w 5 [] 2 = .int x1 := q9upN_of (by decide) ae1
  have u2 : q9upN w 5 [] 3 = .int x2 := q9upN_of (by decide) ae2
  have u3 : q9upN w 5 [] 4 = .int x3 := q9upN_of (by decide) ae3
  refine ⟨[], fun i9 p9 hq9 => ?_, List.forall_mem_cons.mpr ⟨?_, fun _ h => absurd h List.not_mem_nil⟩, fun _ h => absurd h List.not_mem_nil⟩
  · exact nomatch (show (none : Option (Nat × q9AV × q9AV × q9ET)) = some p9 from hq9)
  · exact q9th_tX (T := T) (N := N) (P := P) (J := J) (t0 := t0) (Sc := Sc) (q9evS u2) (q9evZ u_) (q9evS u3) (by rw [q9FF_1433]; exact hv) (by decide)
theorem q9ru_axa1 (hT : ∀ i, 0 ≤ T i ∧ T i ≤ 255) (hN : 0 ≤ N ∧ N ≤ 400) (hSc : 0 ≤ Sc 1 ∧ Sc 1 ≤ 400 → N = Sc 1) : q9ruOK (fO T N P J t0 Sc) q9R_axa1 := by
  intro w w0 hA hX hL hV hR
  obtain ⟨x0, ae0, -, -⟩ := hA 0 0 rfl
  obtain ⟨x1, ae1, -, -⟩ := hA 1 0 rfl
  obtain ⟨x2, ae2, -, -⟩ := hA 2 0 rfl
  obtain ⟨x3, ae3, -, -⟩ := hA 3 0 rfl
  have kz : (0 : Int32).toInt = 0 := rfl
  have k1 : (Int32.ofInt 1).toInt = 1 := q9oI_toInt (by decide)
  have k399 : (Int32.ofInt 399).toInt = 399 := q9oI_toInt (by decide)
  have V0 := q9pV (T := T) (N := N) (P := P) (J := J) (t0 := t0) (Sc := Sc) (op := 1408) (n := 2) (q9evS ae0) (q9evZ w0) (hV _ (List.mem_of_getElem? (i := 0) rfl)) (by decide)
  rw [q9FF_1408] at V0
  have K0 := id V0
  try simp only [kz, k1, k399] at K0
  have X0 := q9th_pX (T := T) (N := N) (P := P) (J := J) (t0 := t0) (Sc := Sc) (op := 1406) (q9evS ae0) (q9evZ w0) (q9evS ae1) (hX _ (List.mem_of_getElem? (i := 0) rfl)) (by decide)
  rw [q9FF_1406] at X0
  have H0 := Option.some.inj X0
  try simp only [kz, k1, k399] at H0
  have X1 := q9th_pX (T := T) (N := N) (P := P) (J := J) (t0 := t0) (Sc := Sc) (op := 1434) (q9evS ae1) (q9evZ w0) (q9evS ae2) (hX _ (List.mem_of_getElem? (i := 1) rfl)) (by decide)
  rw [q9FF_1434] at X1
  have H1 := Option.some.inj X1
  try simp only [kz, k1, k399] at H1
  have X2 := q9th_pX (T := T) (N := N) (P := P) (J := J) (t0 := t0) (Sc := Sc) (op := 1410) (q9evO ae0 1) (q9evC w0 1) (q9evS ae3) (hX _ (List.mem_of_getElem? (i := 2) rfl)) (by decide)
  rw [q9FF_1410] at X2
  have H2 := Option.some.inj X2
  try simp only [kz, k1, k399] at H2
  have L0 : (0 : Int32).toInt ≤ x1.toInt + 0 := q9pC (q9evZ w0) (q9evS ae1) (hL _ (List.mem_of_getElem? (i := 0) rfl))
  have L1 : x1.toInt ≤ (Int32.ofInt 399).toInt + 0 := q9pC (q9evS ae1) (q9evC w0 399) (hL _ (List.mem_of_getElem? (i := 1) rfl))
  have L2 : (0 : Int32).toInt ≤ x0.toInt + 0 := q9pC (q9evZ w0) (q9evS ae0) (hL _ (List.mem_of_getElem? (i := 2) rfl))
  obtain ⟨q, hq, ht⟩ := q9q_m K0
  obtain ⟨hf, ha, ho⟩ := q9q_of hq
  obtain ⟨⟨l1, l2, l3, l4⟩, ⟨l5, l6⟩, ⟨l7, l8, l9⟩, l10, l11, l12⟩ := q9q_ln hN.1 hf ha
  have W := q9plW_P hN.1 hf
  obtain ⟨hfr, hk1, hk2⟩ := q9fr_Q ha ho (q9tp_2 ht)
  have hlb := q9fr_lt hN.1 hf hfr
  have a1 := q9ad32 (x := x0) (d := 1) (by omega)
  have hfc : cnQ T N P J x0.toInt = x1.toInt := H0
  have hs := q9shn_rng (Sc := Sc)
  have m2 : 1200 * q9shnI Sc + 3 * x1.toInt = x2.toInt := H1
  have aj := q9ad32 (x := x2) (d := 1) (by omega)
  have hv : axC T N P J ((x2.toInt + 1) - 1200 * q9shnI Sc) = some x3.toInt := q9axC_to hN.1 hf (by omega) hfr (by omega) (by rw [show ((x2.toInt + 1) - 1200 * q9shnI Sc) % 3 = 1 by omega, ← a1]; exact H2.symm)
  have u_ : q9upN w 5 [] 0 = .int 0 := q9upN_of (by decide) w0
  have u0 : q9upN w 5 [] 1 = .int x0 := q9upN_of (by decide) ae0
  have u1 : q9upN w 5 [] 2 = .int x1 := q9upN_of (by decide) ae1
  have u2 : q9upN w 5 [] 3 = .int x2 := q9upN_of (by decide) ae2
  have u3 : q9upN w 5 [] 4 = .int x3 := q9upN_of (by decide) ae3
  refine ⟨[], fun i9 p9 hq9 => ?_, List.forall_mem_cons.mpr ⟨?_, fun _ h => absurd h List.not_mem_nil⟩, fun _ h => absurd h List.not_mem_nil⟩
  · exact nomatch (show (none : Option (Nat × q9AV × q9AV × q9ET)) = some p9 from hq9)
  · exact q9th_tX (T := T) (N := N) (P := P) (J := J) (t0 := t0) (Sc := Sc) (q9evO u2 1) (q9evZ u_) (q9evS u3) (by rw [q9FF_1433]; exact (by rw [aj]; exact hv)) (by decide)
theorem q9ru_axa2 (hT : ∀ i, 0 ≤ T i ∧ T i ≤ 255) (hN : 0 ≤ N ∧ N ≤ 400) (hSc : 0 ≤ Sc 1 ∧ Sc 1 ≤ 400 → N = Sc 1) : q9ruOK (fO T N P J t0 Sc) q9R_axa2 := by
  intro w w0 hA hX hL hV hR
  obtain ⟨x0, ae0, -, -⟩ := hA 0 0 rfl
  obtain ⟨x1, ae1, -, -⟩ := hA 1 0 rfl
  obtain ⟨x2, ae2, -, -⟩ := hA 2 0 rfl
  obtain ⟨x3, ae3, -, -⟩ := hA 3 0 rfl
  have kz : (0 : Int32).toInt = 0 := rfl
  have k2 : (Int32.ofInt 2).toInt = 2 := q9oI_toInt (by decide)
  have k399 : (Int32.ofInt 399).toInt = 399 := q9oI_toInt (by decide)
  have V0 := q9pV (T := T) (N := N) (P := P) (J := J) (t0 := t0) (Sc := Sc) (op := 1408) (n := 2) (q9evS ae0) (q9evZ w0) (hV _ (List.mem_of_getElem? (i := 0) rfl)) (by decide)
  rw [q9FF_1408] at V0
  have K0 := id V0
  try simp only [kz, k2, k399] at K0
  have X0 := q9th_pX (T := T) (N := N) (P := P) (J := J) (t0 := t0) (Sc := Sc) (op := 1406) (q9evS ae0) (q9evZ w0) (q9evS ae1) (hX _ (List.mem_of_getElem? (i := 0) rfl)) (by decide)
  rw [q9FF_1406] at X0
  have H0 := Option.some.inj X0
  try simp only [kz, k2, k399] at H0
  have X1 := q9th_pX (T := T) (N := N) (P := P) (J := J) (t0 := t0) (Sc := Sc) (op := 1434) (q9evS ae1) (q9evZ w0) (q9evS ae2) (hX _ (List.mem_of_getElem? (i := 1) rfl)) (by decide)
  rw [q9FF_1434] at X1
  have H1 := Option.some.inj X1
  try simp only [kz, k2, k399] at H1
  have X2 := q9th_pX (T := T) (N := N) (P := P) (J := J) (t0 := t0) (Sc := Sc) (op := 1410) (q9evO ae0 1) (q9evC w0 2) (q9evS ae3) (hX _ (List.mem_of_getElem? (i := 2) rfl)) (by decide)
  rw [q9FF_1410] at X2
  have H2 := Option.some.inj X2
  try simp only [kz, k2, k399] at H2
  have L0 : (0 : Int32).toInt ≤ x1.toInt + 0 := q9pC (q9evZ w0) (q9evS ae1) (hL _ (List.mem_of_getElem? (i := 0) rfl))
  have L1 : x1.toInt ≤ (Int32.ofInt 399).toInt + 0 := q9pC (q9evS ae1) (q9evC w0 399) (hL _ (List.mem_of_getElem? (i := 1) rfl))
  have L2 : (0 : Int32).toInt ≤ x0.toInt + 0 := q9pC (q9evZ w0) (q9evS ae0) (hL _ (List.mem_of_getElem? (i := 2) rfl))
  obtain ⟨q, hq, ht⟩ := q9q_m K0
  obtain ⟨hf, ha, ho⟩ := q9q_of hq
  obtain ⟨⟨l1, l2, l3, l4⟩, ⟨l5, l6⟩, ⟨l7, l8, l9⟩, l10, l11, l12⟩ := q9q_ln hN.1 hf ha
  have W := q9plW_P hN.1 hf
  obtain ⟨hfr, hk1, hk2⟩ := q9fr_Q ha ho (q9tp_2 ht)
  have hlb := q9fr_lt hN.1 hf hfr
  have a1 := q9ad32 (x := x0) (d := 1) (by omega)
  have hfc : cnQ T N P J x0.toInt = x1.toInt := H0
  have hs := q9shn_rng (Sc := Sc)
  have m2 : 1200 * q9shnI Sc + 3 * x1.toInt = x2.toInt := H1
  have aj := q9ad32 (x := x2) (d := 2) (by omega)
  have hv : axC T N P J ((x2.toInt + 2) - 1200 * q9shnI Sc) = some x3.toInt := q9axC_to hN.1 hf (by omega) hfr (by omega) (by rw [show ((x2.toInt + 2) - 1200 * q9shnI Sc) % 3 = 2 by omega, ← a1]; exact H2.symm)
  have u_ : q9upN w 5 [] 0 = .int 0 := q9upN_of (by decide) w0
  have u0 : q9upN w 5 [] 1 = .int x0 := q9upN_of (by decide) ae0
  have u1 : q9upN w 5 [] 2 = .int x1 := q9upN_of (by decide) ae1
  have u2 : q9upN w 5 [] 3 = .int x2 := q9upN_of (by decide) ae2
  have u3 : q9upN w 5 [] 4 = .int x3 := q9upN_of (by decide) ae3
  refine ⟨[], fun i9 p9 hq9 => ?_, List.forall_mem_cons.mpr ⟨?_, fun _ h => absurd h List.not_mem_nil⟩, fun _ h => absurd h List.not_mem_nil⟩
  · exact nomatch (show (none : Option (Nat × q9AV × q9AV × q9ET)) = some p9 from hq9)
  · exact q9th_tX (T := T) (N := N) (P := P) (J := J) (t0 := t0) (Sc := Sc) (q9evO u2 2) (q9evZ u_) (q9evS u3) (by rw [q9FF_1433]; exact (by rw [aj]; exact hv)) (by decide)
theorem q9ru_lbg (hT : ∀ i, 0 ≤ T i ∧ T i ≤ 255) (hN : 0 ≤ N ∧ N ≤ 400) (hSc : 0 ≤ Sc 1 ∧ Sc 1 ≤ 400 → N = Sc 1) : q9ruOK (fO T N P J t0 Sc) q9R_lbg := by
  intro w w0 hA hX hL hV hR
  obtain ⟨x0, ae0, -, -⟩ := hA 0 0 rfl
  have kz : (0 : Int32).toInt = 0 := rfl
  have L0 : (0 : Int32).toInt ≤ x0.toInt + 0 := q9pC (q9evZ w0) (q9evS ae0) (hL _ (List.mem_of_getElem? (i := 0) rfl))
  have rg0 : (1 : Int) ≤ 1 ∧ (1 : Int) ≤ 1 := by omega
  obtain ⟨x1, nt1⟩ : ∃ x : Int32, x.toInt = 1 := ⟨Int32.ofInt (1), q9oI_toInt (by omega)⟩
  have u_ : q9upN w 2 [.int x1] 0 = .int 0 := q9upN_of (by decide) w0
  have u0 : q9upN w 2 [.int x1] 1 = .int x0 := q9upN_of (by decide) ae0
  have u1 : q9upN w 2 [.int x1] 2 = .int x1 := q9upN_at (by decide)
  refine ⟨[.int x1], fun i9 p9 hq9 => ?_, fun _ h => absurd h List.not_mem_nil, fun _ h => absurd h List.not_mem_nil⟩
  · match i9, hq9 with
    | 0, hq9 =>
      have hp9 : ((1436, (1, 0), (0, 0), (0, 1, 1)) : Nat × q9AV × q9AV × q9ET) = p9 := Option.some.inj hq9
      subst hp9
      exact ⟨⟨x1, rfl, by rw [nt1]; exact rg0.1, by rw [nt1]; exact rg0.2⟩, (q9th_tX (T := T) (N := N) (P := P) (J := J) (t0 := t0) (Sc := Sc) (q9evS u0) (q9evZ u_) (q9evS u1) (by rw [q9FF_1436, nt1]; first | done | exact rfl) (by decide)).trans (congrArg some (q9evS u1))⟩
    | k9 + 1, hq9 => exact nomatch (show (none : Option (Nat × q9AV × q9AV × q9ET)) = some p9 from hq9)
theorem q9ru_axz (hT : ∀ i, 0 ≤ T i ∧ T i ≤ 255) (hN : 0 ≤ N ∧ N ≤ 400) (hSc : 0 ≤ Sc 1 ∧ Sc 1 ≤ 400 → N = Sc 1) : q9ruOK (fO T N P J t0 Sc) q9R_axz := by
  intro w w0 hA hX hL hV hR
  have kz : (0 : Int32).toInt = 0 := rfl
  have hs := q9shn_rng (Sc := Sc)
  have rg0 : (0 : Int) ≤ (1200 * q9shnI Sc) ∧ ((1200 * q9shnI Sc) : Int) ≤ 13200 := by omega
  obtain ⟨x0, nt0⟩ : ∃ x : Int32, x.toInt = (1200 * q9shnI Sc) := ⟨Int32.ofInt ((1200 * q9shnI Sc)), q9oI_toInt (by omega)⟩
  have u_ : q9upN w 1 [.int x0] 0 = .int 0 := q9upN_of (by decide) w0
  have u0 : q9upN w 1 [.int x0] 1 = .int x0 := q9upN_at (by decide)
  refine ⟨[.int x0], fun i9 p9 hq9 => ?_, fun _ h => absurd h List.not_mem_nil, fun _ h => absurd h List.not_mem_nil⟩
  · match i9, hq9 with
    | 0, hq9 =>
      have hp9 : ((1434, (0, 0), (0, 0), (0, 0, 13200)) : Nat × q9AV × q9AV × q9ET) = p9 := Option.some.inj hq9
      subst hp9
      exact ⟨⟨x0, rfl, by rw [nt0]; exact rg0.1, by rw [nt0]; exact rg0.2⟩, (q9th_tX (T := T) (N := N) (P := P) (J := J) (t0 := t0) (Sc := Sc) (q9evZ u_) (q9evZ u_) (q9evS u0) (by rw [q9FF_1434, nt0]; exact (by rw [kz]; exact congrArg some (by omega))) (by decide)).trans (congrArg some (q9evS u0))⟩
    | k9 + 1, hq9 => exact nomatch (show (none : Option (Nat × q9AV × q9AV × q9ET)) = some p9 from hq9)
theorem q9ruP_16 (hT : ∀ i, 0 ≤ T i ∧ T i ≤ 255) (hN : 0 ≤ N ∧ N ≤ 400) (hSc : 0 ≤ Sc 1 ∧ Sc 1 ≤ 400 → N = Sc 1) : ∀ q ∈ q9RULES_16, q9ruOK (fO T N P J t0 Sc) q := List.forall_mem_cons.mpr ⟨q9ru_trn hT hN hSc, List.forall_mem_cons.mpr ⟨q9ru_trl hT hN hSc, List.forall_mem_cons.mpr ⟨q9ru_rgM hT hN hSc, List.forall_mem_cons.mpr ⟨q9ru_rgE hT hN hSc, List.forall_mem_cons.mpr ⟨q9ru_rgD hT hN hSc, List.forall_mem_cons.mpr ⟨q9ru_fst hT hN hSc, List.forall_mem_cons.mpr ⟨q9ru_fv1 hT hN hSc, List.forall_mem_cons.mpr ⟨q9ru_fv0 hT hN hSc, List.forall_mem_cons.mpr ⟨q9ru_fvm hT hN hSc, List.forall_mem_cons.mpr ⟨q9ru_fr1 hT hN hSc, List.forall_mem_cons.mpr ⟨q9ru_fr0 hT hN hSc, List.forall_mem_cons.mpr ⟨q9ru_axc0 hT hN hSc, List.forall_mem_cons.mpr ⟨q9ru_axc1 hT hN hSc, List.forall_mem_cons.mpr ⟨q9ru_axc2 hT hN hSc, List.forall_mem_cons.mpr ⟨q9ru_m30 hT hN hSc, List.forall_mem_cons.mpr ⟨q9ru_m3s hT hN hSc, List.forall_mem_cons.mpr ⟨q9ru_m3l hT hN hSc, List.forall_mem_cons.mpr ⟨q9ru_fce hT hN hSc, List.forall_mem_cons.mpr ⟨q9ru_m3e hT hN hSc, List.forall_mem_cons.mpr ⟨q9ru_plc hT hN hSc, List.forall_mem_cons.mpr ⟨q9ru_axq hT hN hSc, List.forall_mem_cons.mpr ⟨q9ru_axn hT hN hSc, List.forall_mem_cons.mpr ⟨q9ru_axa0 hT hN hSc, List.forall_mem_cons.mpr ⟨q9ru_axa1 hT hN hSc, List.forall_mem_cons.mpr ⟨q9ru_axa2 hT hN hSc, List.forall_mem_cons.mpr ⟨q9ru_lbg hT hN hSc, List.forall_mem_cons.mpr ⟨q9ru_axz hT hN hSc, fun _ h => absurd h List.not_mem_nil⟩⟩⟩⟩⟩⟩⟩⟩⟩⟩⟩⟩⟩⟩⟩⟩⟩⟩⟩⟩⟩⟩⟩⟩⟩⟩⟩
end RUL
