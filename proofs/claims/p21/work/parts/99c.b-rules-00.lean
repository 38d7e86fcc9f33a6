section RUL
variable {T : Int → Int} {N P : Int} {J : Int → Int} {t0 : Int} {Sc : Int → Int}
theorem q9ru_spg (hT : ∀ i, 0 ≤ T i ∧ T i ≤ 255) (hN : 0 ≤ N ∧ N ≤ 400) (hSc : 0 ≤ Sc 1 ∧ Sc 1 ≤ 400 → N = Sc 1) : q9ruOK (fO T N P J t0 Sc) q9R_spg := by
  intro w w0 hA hX hL hV hR
  obtain ⟨x0, ae0, -, -⟩ := hA 0 0 rfl
  obtain ⟨x1, ae1, -, -⟩ := hA 1 0 rfl
  obtain ⟨x2, ae2, -, -⟩ := hA 2 0 rfl
  have kz : (0 : Int32).toInt = 0 := rfl
  have k32 : (Int32.ofInt 32).toInt = 32 := q9oI_toInt (by decide)
  have X0 := q9th_pX (T := T) (N := N) (P := P) (J := J) (t0 := t0) (Sc := Sc) (op := 1000) (q9evS ae0) (q9evZ w0) (q9evS ae1) (hX _ (List.mem_of_getElem? (i := 0) rfl)) (by decide)
  rw [q9FF_1000] at X0
  have H0 := Option.some.inj X0
  try simp only [kz, k32] at H0
  have L0 : x1.toInt ≤ (Int32.ofInt 32).toInt + 0 := q9pC (q9evS ae1) (q9evC w0 32) (hL _ (List.mem_of_getElem? (i := 0) rfl))
  have L1 : (Int32.ofInt 32).toInt ≤ x1.toInt + 0 := q9pC (q9evC w0 32) (q9evS ae1) (hL _ (List.mem_of_getElem? (i := 1) rfl))
  have X1 := q9th_pX (T := T) (N := N) (P := P) (J := J) (t0 := t0) (Sc := Sc) (op := 1002) (q9evS ae0) (q9evZ w0) (q9evS ae2) (hX _ (List.mem_of_getElem? (i := 1) rfl)) (by decide)
  rw [q9FF_1002] at X1
  have H1 := Option.some.inj X1
  try simp only [kz, k32] at H1
  have bl := q9byI_lt (T := T) (N := N) (i := x0.toInt) (by omega)
  have a1 := q9ad32 (x := x0) (d := 1) (by omega)
  have u_ : q9upN w 4 [] 0 = .int 0 := q9upN_of (by decide) w0
  have u0 : q9upN w 4 [] 1 = .int x0 := q9upN_of (by decide) ae0
  have u1 : q9upN w 4 [] 2 = .int x1 := q9upN_of (by decide) ae1
  have u2 : q9upN w 4 [] 3 = .int x2 := q9upN_of (by decide) ae2
  refine ⟨[], fun i9 p9 hq9 => ?_, List.forall_mem_cons.mpr ⟨?_, fun _ h => absurd h List.not_mem_nil⟩, fun _ h => absurd h List.not_mem_nil⟩
  · exact nomatch (show (none : Option (Nat × q9AV × q9AV × q9ET)) = some p9 from hq9)
  · exact q9th_tX (T := T) (N := N) (P := P) (J := J) (t0 := t0) (Sc := Sc) (q9evO u0 1) (q9evZ u_) (q9evS u2) (by rw [q9FF_1002]; exact (by rw [a1, ← H1]; exact congrArg some (q9sp_yes (by omega)).symm)) (by decide)
theorem q9ru_spl (hT : ∀ i, 0 ≤ T i ∧ T i ≤ 255) (hN : 0 ≤ N ∧ N ≤ 400) (hSc : 0 ≤ Sc 1 ∧ Sc 1 ≤ 400 → N = Sc 1) : q9ruOK (fO T N P J t0 Sc) q9R_spl := by
  intro w w0 hA hX hL hV hR
  obtain ⟨x0, ae0, -, -⟩ := hA 0 0 rfl
  obtain ⟨x1, ae1, -, -⟩ := hA 1 0 rfl
  obtain ⟨x2, ae2, -, -⟩ := hA 2 0 rfl
  have kz : (0 : Int32).toInt = 0 := rfl
  have k31 : (Int32.ofInt 31).toInt = 31 := q9oI_toInt (by decide)
  have X0 := q9th_pX (T := T) (N := N) (P := P) (J := J) (t0 := t0) (Sc := Sc) (op := 1000) (q9evS ae0) (q9evZ w0) (q9evS ae1) (hX _ (List.mem_of_getElem? (i := 0) rfl)) (by decide)
  rw [q9FF_1000] at X0
  have H0 := Option.some.inj X0
  try simp only [kz, k31] at H0
  have L0 : x1.toInt ≤ (Int32.ofInt 31).toInt + 0 := q9pC (q9evS ae1) (q9evC w0 31) (hL _ (List.mem_of_getElem? (i := 0) rfl))
  have X1 := q9th_pX (T := T) (N := N) (P := P) (J := J) (t0 := t0) (Sc := Sc) (op := 1002) (q9evS ae0) (q9evZ w0) (q9evS ae2) (hX _ (List.mem_of_getElem? (i := 1) rfl)) (by decide)
  rw [q9FF_1002] at X1
  have H1 := Option.some.inj X1
  try simp only [kz, k31] at H1
  have e := q9sp_no (T := T) (N := N) (i := x0.toInt) (by omega)
  have u_ : q9upN w 4 [] 0 = .int 0 := q9upN_of (by decide) w0
  have u0 : q9upN w 4 [] 1 = .int x0 := q9upN_of (by decide) ae0
  have u1 : q9upN w 4 [] 2 = .int x1 := q9upN_of (by decide) ae1
  have u2 : q9upN w 4 [] 3 = .int x2 := q9upN_of (by decide) ae2
  refine ⟨[], fun i9 p9 hq9 => ?_, List.forall_mem_cons.mpr ⟨?_, fun _ h => absurd h List.not_mem_nil⟩, List.forall_mem_cons.mpr ⟨?_, List.forall_mem_cons.mpr ⟨?_, fun _ h => absurd h List.not_mem_nil⟩⟩⟩
  · exact nomatch (show (none : Option (Nat × q9AV × q9AV × q9ET)) = some p9 from hq9)
  · exact q9th_tX (T := T) (N := N) (P := P) (J := J) (t0 := t0) (Sc := Sc) (q9evS u2) (q9evZ u_) (q9evS u1) (by rw [q9FF_1000]; exact (by rw [← H1, e, H0])) (by decide)
  · exact q9th_tC (d := 0) (q9evS u2) (q9evS u0) (by omega)
  · exact q9th_tC (d := 0) (q9evS u0) (q9evS u2) (by omega)
theorem q9ru_sph (hT : ∀ i, 0 ≤ T i ∧ T i ≤ 255) (hN : 0 ≤ N ∧ N ≤ 400) (hSc : 0 ≤ Sc 1 ∧ Sc 1 ≤ 400 → N = Sc 1) : q9ruOK (fO T N P J t0 Sc) q9R_sph := by
  intro w w0 hA hX hL hV hR
  obtain ⟨x0, ae0, -, -⟩ := hA 0 0 rfl
  obtain ⟨x1, ae1, -, -⟩ := hA 1 0 rfl
  obtain ⟨x2, ae2, -, -⟩ := hA 2 0 rfl
  have kz : (0 : Int32).toInt = 0 := rfl
  have k33 : (Int32.ofInt 33).toInt = 33 := q9oI_toInt (by decide)
  have X0 := q9th_pX (T := T) (N := N) (P := P) (J := J) (t0 := t0) (Sc := Sc) (op := 1000) (q9evS ae0) (q9evZ w0) (q9evS ae1) (hX _ (List.mem_of_getElem? (i := 0) rfl)) (by decide)
  rw [q9FF_1000] at X0
  have H0 := Option.some.inj X0
  try simp only [kz, k33] at H0
  have L0 : (Int32.ofInt 33).toInt ≤ x1.toInt + 0 := q9pC (q9evC w0 33) (q9evS ae1) (hL _ (List.mem_of_getElem? (i := 0) rfl))
  have X1 := q9th_pX (T := T) (N := N) (P := P) (J := J) (t0 := t0) (Sc := Sc) (op := 1002) (q9evS ae0) (q9evZ w0) (q9evS ae2) (hX _ (List.mem_of_getElem? (i := 1) rfl)) (by decide)
  rw [q9FF_1002] at X1
  have H1 := Option.some.inj X1
  try simp only [kz, k33] at H1
  have e := q9sp_no (T := T) (N := N) (i := x0.toInt) (by omega)
  have u_ : q9upN w 4 [] 0 = .int 0 := q9upN_of (by decide) w0
  have u0 : q9upN w 4 [] 1 = .int x0 := q9upN_of (by decide) ae0
  have u1 : q9upN w 4 [] 2 = .int x1 := q9upN_of (by decide) ae1
  have u2 : q9upN w 4 [] 3 = .int x2 := q9upN_of (by decide) ae2
  refine ⟨[], fun i9 p9 hq9 => ?_, List.forall_mem_cons.mpr ⟨?_, fun _ h => absurd h List.not_mem_nil⟩, List.forall_mem_cons.mpr ⟨?_, List.forall_mem_cons.mpr ⟨?_, fun _ h => absurd h List.not_mem_nil⟩⟩⟩
  · exact nomatch (show (none : Option (Nat × q9AV × q9AV × q9ET)) = some p9 from hq9)
  · exact q9th_tX (T := T) (N := N) (P := P) (J := J) (t0 := t0) (Sc := Sc) (q9evS u2) (q9evZ u_) (q9evS u1) (by rw [q9FF_1000]; exact (by rw [← H1, e, H0])) (by decide)
  · exact q9th_tC (d := 0) (q9evS u2) (q9evS u0) (by omega)
  · exact q9th_tC (d := 0) (q9evS u0) (q9evS u2) (by omega)
theorem q9ru_weg (hT : ∀ i, 0 ≤ T i ∧ T i ≤ 255) (hN : 0 ≤ N ∧ N ≤ 400) (hSc : 0 ≤ Sc 1 ∧ Sc 1 ≤ 400 → N = Sc 1) : q9ruOK (fO T N P J t0 Sc) q9R_weg := by
  intro w w0 hA hX hL hV hR
  obtain ⟨x0, ae0, -, -⟩ := hA 0 0 rfl
  obtain ⟨x1, ae1, -, -⟩ := hA 1 0 rfl
  obtain ⟨x2, ae2, -, -⟩ := hA 2 0 rfl
  have kz : (0 : Int32).toInt = 0 := rfl
  have k97 : (Int32.ofInt 97).toInt = 97 := q9oI_toInt (by decide)
  have k122 : (Int32.ofInt 122).toInt = 122 := q9oI_toInt (by decide)
  have X0 := q9th_pX (T := T) (N := N) (P := P) (J := J) (t0 := t0) (Sc := Sc) (op := 1000) (q9evS ae0) (q9evZ w0) (q9evS ae1) (hX _ (List.mem_of_getElem? (i := 0) rfl)) (by decide)
  rw [q9FF_1000] at X0
  have H0 := Option.some.inj X0
  try simp only [kz, k97, k122] at H0
  have L0 : (Int32.ofInt 97).toInt ≤ x1.toInt + 0 := q9pC (q9evC w0 97) (q9evS ae1) (hL _ (List.mem_of_getElem? (i := 0) rfl))
  have L1 : x1.toInt ≤ (Int32.ofInt 122).toInt + 0 := q9pC (q9evS ae1) (q9evC w0 122) (hL _ (List.mem_of_getElem? (i := 1) rfl))
  have X1 := q9th_pX (T := T) (N := N) (P := P) (J := J) (t0 := t0) (Sc := Sc) (op := 1003) (q9evS ae0) (q9evZ w0) (q9evS ae2) (hX _ (List.mem_of_getElem? (i := 1) rfl)) (by decide)
  rw [q9FF_1003] at X1
  have H1 := Option.some.inj X1
  try simp only [kz, k97, k122] at H1
  have bl := q9byI_lt (T := T) (N := N) (i := x0.toInt) (by omega)
  have a1 := q9ad32 (x := x0) (d := 1) (by omega)
  have u_ : q9upN w 4 [] 0 = .int 0 := q9upN_of (by decide) w0
  have u0 : q9upN w 4 [] 1 = .int x0 := q9upN_of (by decide) ae0
  have u1 : q9upN w 4 [] 2 = .int x1 := q9upN_of (by decide) ae1
  have u2 : q9upN w 4 [] 3 = .int x2 := q9upN_of (by decide) ae2
  refine ⟨[], fun i9 p9 hq9 => ?_, List.forall_mem_cons.mpr ⟨?_, fun _ h => absurd h List.not_mem_nil⟩, fun _ h => absurd h List.not_mem_nil⟩
  · exact nomatch (show (none : Option (Nat × q9AV × q9AV × q9ET)) = some p9 from hq9)
  · exact q9th_tX (T := T) (N := N) (P := P) (J := J) (t0 := t0) (Sc := Sc) (q9evO u0 1) (q9evZ u_) (q9evS u2) (by rw [q9FF_1003]; exact (by rw [a1, ← H1]; exact congrArg some (q9we_yes (by omega)).symm)) (by decide)
theorem q9ru_wel (hT : ∀ i, 0 ≤ T i ∧ T i ≤ 255) (hN : 0 ≤ N ∧ N ≤ 400) (hSc : 0 ≤ Sc 1 ∧ Sc 1 ≤ 400 → N = Sc 1) : q9ruOK (fO T N P J t0 Sc) q9R_wel := by
  intro w w0 hA hX hL hV hR
  obtain ⟨x0, ae0, -, -⟩ := hA 0 0 rfl
  obtain ⟨x1, ae1, -, -⟩ := hA 1 0 rfl
  obtain ⟨x2, ae2, -, -⟩ := hA 2 0 rfl
  have kz : (0 : Int32).toInt = 0 := rfl
  have k96 : (Int32.ofInt 96).toInt = 96 := q9oI_toInt (by decide)
  have X0 := q9th_pX (T := T) (N := N) (P := P) (J := J) (t0 := t0) (Sc := Sc) (op := 1000) (q9evS ae0) (q9evZ w0) (q9evS ae1) (hX _ (List.mem_of_getElem? (i := 0) rfl)) (by decide)
  rw [q9FF_1000] at X0
  have H0 := Option.some.inj X0
  try simp only [kz, k96] at H0
  have L0 : x1.toInt ≤ (Int32.ofInt 96).toInt + 0 := q9pC (q9evS ae1) (q9evC w0 96) (hL _ (List.mem_of_getElem? (i := 0) rfl))
  have X1 := q9th_pX (T := T) (N := N) (P := P) (J := J) (t0 := t0) (Sc := Sc) (op := 1003) (q9evS ae0) (q9evZ w0) (q9evS ae2) (hX _ (List.mem_of_getElem? (i := 1) rfl)) (by decide)
  rw [q9FF_1003] at X1
  have H1 := Option.some.inj X1
  try simp only [kz, k96] at H1
  have e := q9we_no (T := T) (N := N) (i := x0.toInt) (by omega)
  have u_ : q9upN w 4 [] 0 = .int 0 := q9upN_of (by decide) w0
  have u0 : q9upN w 4 [] 1 = .int x0 := q9upN_of (by decide) ae0
  have u1 : q9upN w 4 [] 2 = .int x1 := q9upN_of (by decide) ae1
  have u2 : q9upN w 4 [] 3 = .int x2 := q9upN_of (by decide) ae2
  refine ⟨[], fun i9 p9 hq9 => ?_, fun _ h => absurd h List.not_mem_nil, List.forall_mem_cons.mpr ⟨?_, List.forall_mem_cons.mpr ⟨?_, fun _ h => absurd h List.not_mem_nil⟩⟩⟩
  · exact nomatch (show (none : Option (Nat × q9AV × q9AV × q9ET)) = some p9 from hq9)
  · exact q9th_tC (d := 0) (q9evS u2) (q9evS u0) (by omega)
  · exact q9th_tC (d := 0) (q9evS u0) (q9evS u2) (by omega)
theorem q9ru_weh (hT : ∀ i, 0 ≤ T i ∧ T i ≤ 255) (hN : 0 ≤ N ∧ N ≤ 400) (hSc : 0 ≤ Sc 1 ∧ Sc 1 ≤ 400 → N = Sc 1) : q9ruOK (fO T N P J t0 Sc) q9R_weh := by
  intro w w0 hA hX hL hV hR
  obtain ⟨x0, ae0, -, -⟩ := hA 0 0 rfl
  obtain ⟨x1, ae1, -, -⟩ := hA 1 0 rfl
  obtain ⟨x2, ae2, -, -⟩ := hA 2 0 rfl
  have kz : (0 : Int32).toInt = 0 := rfl
  have k123 : (Int32.ofInt 123).toInt = 123 := q9oI_toInt (by decide)
  have X0 := q9th_pX (T := T) (N := N) (P := P) (J := J) (t0 := t0) (Sc := Sc) (op := 1000) (q9evS ae0) (q9evZ w0) (q9evS ae1) (hX _ (List.mem_of_getElem? (i := 0) rfl)) (by decide)
  rw [q9FF_1000] at X0
  have H0 := Option.some.inj X0
  try simp only [kz, k123] at H0
  have L0 : (Int32.ofInt 123).toInt ≤ x1.toInt + 0 := q9pC (q9evC w0 123) (q9evS ae1) (hL _ (List.mem_of_getElem? (i := 0) rfl))
  have X1 := q9th_pX (T := T) (N := N) (P := P) (J := J) (t0 := t0) (Sc := Sc) (op := 1003) (q9evS ae0) (q9evZ w0) (q9evS ae2) (hX _ (List.mem_of_getElem? (i := 1) rfl)) (by decide)
  rw [q9FF_1003] at X1
  have H1 := Option.some.inj X1
  try simp only [kz, k123] at H1
  have e := q9we_no (T := T) (N := N) (i := x0.toInt) (by omega)
  have u_ : q9upN w 4 [] 0 = .int 0 := q9upN_of (by decide) w0
  have u0 : q9upN w 4 [] 1 = .int x0 := q9upN_of (by decide) ae0
  have u1 : q9upN w 4 [] 2 = .int x1 := q9upN_of (by decide) ae1
  have u2 : q9upN w 4 [] 3 = .int x2 := q9upN_of (by decide) ae2
  refine ⟨[], fun i9 p9 hq9 => ?_, fun _ h => absurd h List.not_mem_nil, List.forall_mem_cons.mpr ⟨?_, List.forall_mem_cons.mpr ⟨?_, fun _ h => absurd h List.not_mem_nil⟩⟩⟩
  · exact nomatch (show (none : Option (Nat × q9AV × q9AV × q9ET)) = some p9 from hq9)
  · exact q9th_tC (d := 0) (q9evS u2) (q9evS u0) (by omega)
  · exact q9th_tC (d := 0) (q9evS u0) (q9evS u2) (by omega)
theorem q9ru_deg (hT : ∀ i, 0 ≤ T i ∧ T i ≤ 255) (hN : 0 ≤ N ∧ N ≤ 400) (hSc : 0 ≤ Sc 1 ∧ Sc 1 ≤ 400 → N = Sc 1) : q9ruOK (fO T N P J t0 Sc) q9R_deg := by
  intro w w0 hA hX hL hV hR
  obtain ⟨x0, ae0, -, -⟩ := hA 0 0 rfl
  obtain ⟨x1, ae1, -, -⟩ := hA 1 0 rfl
  obtain ⟨x2, ae2, -, -⟩ := hA 2 0 rfl
  have kz : (0 : Int32).toInt = 0 := rfl
  have k48 : (Int32.ofInt 48).toInt = 48 := q9oI_toInt (by decide)
  have k57 : (Int32.ofInt 57).toInt = 57 := q9oI_toInt (by decide)
  have X0 := q9th_pX (T := T) (N := N) (P := P) (J := J) (t0 := t0) (Sc := Sc) (op := 1000) (q9evS ae0) (q9evZ w0) (q9evS ae1) (hX _ (List.mem_of_getElem? (i := 0) rfl)) (by decide)
  rw [q9FF_1000] at X0
  have H0 := Option.some.inj X0
  try simp only [kz, k48, k57] at H0
  have L0 : (Int32.ofInt 48).toInt ≤ x1.toInt + 0 := q9pC (q9evC w0 48) (q9evS ae1) (hL _ (List.mem_of_getElem? (i := 0) rfl))
  have L1 : x1.toInt ≤ (Int32.ofInt 57).toInt + 0 := q9pC (q9evS ae1) (q9evC w0 57) (hL _ (List.mem_of_getElem? (i := 1) rfl))
  have X1 := q9th_pX (T := T) (N := N) (P := P) (J := J) (t0 := t0) (Sc := Sc) (op := 1004) (q9evS ae0) (q9evZ w0) (q9evS ae2) (hX _ (List.mem_of_getElem? (i := 1) rfl)) (by decide)
  rw [q9FF_1004] at X1
  have H1 := Option.some.inj X1
  try simp only [kz, k48, k57] at H1
  have bl := q9byI_lt (T := T) (N := N) (i := x0.toInt) (by omega)
  have a1 := q9ad32 (x := x0) (d := 1) (by omega)
  have u_ : q9upN w 4 [] 0 = .int 0 := q9upN_of (by decide) w0
  have u0 : q9upN w 4 [] 1 = .int x0 := q9upN_of (by decide) ae0
  have u1 : q9upN w 4 [] 2 = .int x1 := q9upN_of (by decide) ae1
  have u2 : q9upN w 4 [] 3 = .int x2 := q9upN_of (by decide) ae2
  refine ⟨[], fun i9 p9 hq9 => ?_, List.forall_mem_cons.mpr ⟨?_, fun _ h => absurd h List.not_mem_nil⟩, fun _ h => absurd h List.not_mem_nil⟩
  · exact nomatch (show (none : Option (Nat × q9AV × q9AV × q9ET)) = some p9 from hq9)
  · exact q9th_tX (T := T) (N := N) (P := P) (J := J) (t0 := t0) (Sc := Sc) (q9evO u0 1) (q9evZ u_) (q9evS u2) (by rw [q9FF_1004]; exact (by rw [a1, ← H1]; exact congrArg some (q9de_yes (by omega)).symm)) (by decide)
theorem q9ru_del (hT : ∀ i, 0 ≤ T i ∧ T i ≤ 255) (hN : 0 ≤ N ∧ N ≤ 400) (hSc : 0 ≤ Sc 1 ∧ Sc 1 ≤ 400 → N = Sc 1) : q9ruOK (fO T N P J t0 Sc) q9R_del := by
  intro w w0 hA hX hL hV hR
  obtain ⟨x0, ae0, -, -⟩ := hA 0 0 rfl
  obtain ⟨x1, ae1, -, -⟩ := hA 1 0 rfl
  obtain ⟨x2, ae2, -, -⟩ := hA 2 0 rfl
  have kz : (0 : Int32).toInt = 0 := rfl
  have k47 : (Int32.ofInt 47).toInt = 47 := q9oI_toInt (by decide)
  have X0 := q9th_pX (T := T) (N := N) (P := P) (J := J) (t0 := t0) (Sc := Sc) (op := 1000) (q9evS ae0) (q9evZ w0) (q9evS ae1) (hX _ (List.mem_of_getElem? (i := 0) rfl)) (by decide)
  rw [q9FF_1000] at X0
  have H0 := Option.some.inj X0
  try simp only [kz, k47] at H0
  have L0 : x1.toInt ≤ (Int32.ofInt 47).toInt + 0 := q9pC (q9evS ae1) (q9evC w0 47) (hL _ (List.mem_of_getElem? (i := 0) rfl))
  have X1 := q9th_pX (T := T) (N := N) (P := P) (J := J) (t0 := t0) (Sc := Sc) (op := 1004) (q9evS ae0) (q9evZ w0) (q9evS ae2) (hX _ (List.mem_of_getElem? (i := 1) rfl)) (by decide)
  rw [q9FF_1004] at X1
  have H1 := Option.some.inj X1
  try simp only [kz, k47] at H1
  have e := q9de_no (T := T) (N := N) (i := x0.toInt) (by omega)
  have u_ : q9upN w 4 [] 0 = .int 0 := q9upN_of (by decide) w0
  have u0 : q9upN w 4 [] 1 = .int x0 := q9upN_of (by decide) ae0
  have u1 : q9upN w 4 [] 2 = .int x1 := q9upN_of (by decide) ae1
  have u2 : q9upN w 4 [] 3 = .int x2 := q9upN_of (by decide) ae2
  refine ⟨[], fun i9 p9 hq9 => ?_, fun _ h => absurd h List.not_mem_nil, List.forall_mem_cons.mpr ⟨?_, List.forall_mem_cons.mpr ⟨?_, fun _ h => absurd h List.not_mem_nil⟩⟩⟩
  · exact nomatch (show (none : Option (Nat × q9AV × q9AV × q9ET)) = some p9 from hq9)
  · exact q9th_tC (d := 0) (q9evS u2) (q9evS u0) (by omega)
  · exact q9th_tC (d := 0) (q9evS u0) (q9evS u2) (by omega)
theorem q9ru_deh (hT : ∀ i, 0 ≤ T i ∧ T i ≤ 255) (hN : 0 ≤ N ∧ N ≤ 400) (hSc : 0 ≤ Sc 1 ∧ Sc 1 ≤ 400 → N = Sc 1) : q9ruOK (fO T N P J t0 Sc) q9R_deh := by
  intro w w0 hA hX hL hV hR
  obtain ⟨x0, ae0, -, -⟩ := hA 0 0 rfl
  obtain ⟨x1, ae1, -, -⟩ := hA 1 0 rfl
  obtain ⟨x2, ae2, -, -⟩ := hA 2 0 rfl
  have kz : (0 : Int32).toInt = 0 := rfl
  have k58 : (Int32.ofInt 58).toInt = 58 := q9oI_toInt (by decide)
  have X0 := q9th_pX (T := T) (N := N) (P := P) (J := J) (t0 := t0) (Sc := Sc) (op := 1000) (q9evS ae0) (q9evZ w0) (q9evS ae1) (hX _ (List.mem_of_getElem? (i := 0) rfl)) (by decide)
  rw [q9FF_1000] at X0
  have H0 := Option.some.inj X0
  try simp only [kz, k58] at H0
  have L0 : (Int32.ofInt 58).toInt ≤ x1.toInt + 0 := q9pC (q9evC w0 58) (q9evS ae1) (hL _ (List.mem_of_getElem? (i := 0) rfl))
  have X1 := q9th_pX (T := T) (N := N) (P := P) (J := J) (t0 := t0) (Sc := Sc) (op := 1004) (q9evS ae0) (q9evZ w0) (q9evS ae2) (hX _ (List.mem_of_getElem? (i := 1) rfl)) (by decide)
  rw [q9FF_1004] at X1
  have H1 := Option.some.inj X1
  try simp only [kz, k58] at H1
  have e := q9de_no (T := T) (N := N) (i := x0.toInt) (by omega)
  have u_ : q9upN w 4 [] 0 = .int 0 := q9upN_of (by decide) w0
  have u0 : q9upN w 4 [] 1 = .int x0 := q9upN_of (by decide) ae0
  have u1 : q9upN w 4 [] 2 = .int x1 := q9upN_of (by decide) ae1
  have u2 : q9upN w 4 [] 3 = .int x2 := q9upN_of (by decide) ae2
  refine ⟨[], fun i9 p9 hq9 => ?_, fun _ h => absurd h List.not_mem_nil, List.forall_mem_cons.mpr ⟨?_, List.forall_mem_cons.mpr ⟨?_, fun _ h => absurd h List.not_mem_nil⟩⟩⟩
  · exact nomatch (show (none : Option (Nat × q9AV × q9AV × q9ET)) = some p9 from hq9)
  · exact q9th_tC (d := 0) (q9evS u2) (q9evS u0) (by omega)
  · exact q9th_tC (d := 0) (q9evS u0) (q9evS u2) (by omega)
theorem q9ru_nvg (hT : ∀ i, 0 ≤ T i ∧ T i ≤ 255) (hN : 0 ≤ N ∧ N ≤ 400) (hSc : 0 ≤ Sc 1 ∧ Sc 1 ≤ 400 → N = Sc 1) : q9ruOK (fO T N P J t0 Sc) q9R_nvg := by
  intro w w0 hA hX hL hV hR
  obtain ⟨x0, ae0, -, -⟩ := hA 0 0 rfl
  obtain ⟨x1, ae1, -, -⟩ := hA 1 0 rfl
  obtain ⟨x2, ae2, -, -⟩ := hA 2 0 rfl
  obtain ⟨x3, ae3, -, -⟩ := hA 3 0 rfl
  obtain ⟨x4, ae4, -, -⟩ := hA 4 0 rfl
  obtain ⟨x5, ae5, -, -⟩ := hA 5 0 rfl
  obtain ⟨x6, ae6, -, -⟩ := hA 6 0 rfl
  have kz : (0 : Int32).toInt = 0 := rfl
  have k10 : (Int32.ofInt 10).toInt = 10 := q9oI_toInt (by decide)
  have k48 : (Int32.ofInt 48).toInt = 48 := q9oI_toInt (by decide)
  have k57 : (Int32.ofInt 57).toInt = 57 := q9oI_toInt (by decide)
  have k1000000 : (Int32.ofInt 1000000).toInt = 1000000 := q9oI_toInt (by decide)
  have X0 := q9th_pX (T := T) (N := N) (P := P) (J := J) (t0 := t0) (Sc := Sc) (op := 1000) (q9evS ae0) (q9evZ w0) (q9evS ae1) (hX _ (List.mem_of_getElem? (i := 0) rfl)) (by decide)
  rw [q9FF_1000] at X0
  have H0 := Option.some.inj X0
  try simp only [kz, k10, k48, k57, k1000000] at H0
  have L0 : (Int32.ofInt 48).toInt ≤ x1.toInt + 0 := q9pC (q9evC w0 48) (q9evS ae1) (hL _ (List.mem_of_getElem? (i := 0) rfl))
  have L1 : x1.toInt ≤ (Int32.ofInt 57).toInt + 0 := q9pC (q9evS ae1) (q9evC w0 57) (hL _ (List.mem_of_getElem? (i := 1) rfl))
  have L2 : (0 : Int32).toInt ≤ x2.toInt + 0 := q9pC (q9evZ w0) (q9evS ae2) (hL _ (List.mem_of_getElem? (i := 2) rfl))
  have L3 : x2.toInt ≤ (Int32.ofInt 1000000).toInt + 0 := q9pC (q9evS ae2) (q9evC w0 1000000) (hL _ (List.mem_of_getElem? (i := 3) rfl))
  have X1 := q9th_pX (T := T) (N := N) (P := P) (J := J) (t0 := t0) (Sc := Sc) (op := 1005) (q9evS ae0) (q9evS ae2) (q9evS ae3) (hX _ (List.mem_of_getElem? (i := 1) rfl)) (by decide)
  rw [q9FF_1005] at X1
  have H1 := Option.some.inj X1
  try simp only [kz, k10, k48, k57, k1000000] at H1
  have X2 := q9pB (T := T) (N := N) (P := P) (J := J) (t0 := t0) (Sc := Sc) (q9evS ae2) (q9evC w0 10) (q9evS ae4) (hX _ (List.mem_of_getElem? (i := 2) rfl))
  have X3 := q9pB (T := T) (N := N) (P := P) (J := J) (t0 := t0) (Sc := Sc) (q9evS ae4) (q9evS ae1) (q9evS ae5) (hX _ (List.mem_of_getElem? (i := 3) rfl))
  have X4 := q9pB (T := T) (N := N) (P := P) (J := J) (t0 := t0) (Sc := Sc) (q9evC w0 1000000) (q9evO ae5 (-48)) (q9evS ae6) (hX _ (List.mem_of_getElem? (i := 4) rfl))
  have bl := q9byI_lt (T := T) (N := N) (i := x0.toInt) (by omega)
  have a1 := q9ad32 (x := x0) (d := 1) (by omega)
  have b1 : 48 ≤ q9byI T N x0.toInt := by omega
  have b2 : q9byI T N x0.toInt ≤ 57 := by omega
  have b3 : 0 ≤ x2.toInt := by omega
  have b4 : 0 ≤ 10 * x2.toInt + (q9byI T N x0.toInt - 48) := by omega
  have m1 := q9mu32 X2 (by rw [k10]; omega)
  rw [k10] at m1
  have m2 := q9aa32 X3 (by omega)
  have m3 := q9ad32 (x := x5) (d := -48) (by omega)
  have b6 : 10 * x2.toInt + (q9byI T N x0.toInt - 48) = x5.toInt + -48 := by omega
  have m4 := q9mi32 X4
  rw [k1000000, m3] at m4
  have b5 : min 1000000 (10 * x2.toInt + (q9byI T N x0.toInt - 48)) = x6.toInt := by rw [b6, m4]
  have u_ : q9upN w 8 [] 0 = .int 0 := q9upN_of (by decide) w0
  have u0 : q9upN w 8 [] 1 = .int x0 := q9upN_of (by decide) ae0
  have u1 : q9upN w 8 [] 2 = .int x1 := q9upN_of (by decide) ae1
  have u2 : q9upN w 8 [] 3 = .int x2 := q9upN_of (by decide) ae2
  have u3 : q9upN w 8 [] 4 = .int x3 := q9upN_of (by decide) ae3
  have u4 : q9upN w 8 [] 5 = .int x4 := q9upN_of (by decide) ae4
  have u5 : q9upN w 8 [] 6 = .int x5 := q9upN_of (by decide) ae5
  have u6 : q9upN w 8 [] 7 = .int x6 := q9upN_of (by decide) ae6
  refine ⟨[], fun i9 p9 hq9 => ?_, List.forall_mem_cons.mpr ⟨?_, fun _ h => absurd h List.not_mem_nil⟩, fun _ h => absurd h List.not_mem_nil⟩
  · exact nomatch (show (none : Option (Nat × q9AV × q9AV × q9ET)) = some p9 from hq9)
  · exact q9th_tX (T := T) (N := N) (P := P) (J := J) (t0 := t0) (Sc := Sc) (q9evO u0 1) (q9evS u6) (q9evS u3) (by rw [q9FF_1005]; exact (by rw [a1, ← H1, q9nvI_yes (i := x0.toInt) (v := x2.toInt) b1 b2 b3, q9nv_cap (v := 10 * x2.toInt + (q9byI T N x0.toInt - 48)) b4, b5])) (by decide)
theorem q9ru_nvl (hT : ∀ i, 0 ≤ T i ∧ T i ≤ 255) (hN : 0 ≤ N ∧ N ≤ 400) (hSc : 0 ≤ Sc 1 ∧ Sc 1 ≤ 400 → N = Sc 1) : q9ruOK (fO T N P J t0 Sc) q9R_nvl := by
  intro w w0 hA hX hL hV hR
  obtain ⟨x0, ae0, -, -⟩ := hA 0 0 rfl
  obtain ⟨x1, ae1, -, -⟩ := hA 1 0 rfl
  obtain ⟨x2, ae2, -, -⟩ := hA 2 0 rfl
  obtain ⟨x3, ae3, -, -⟩ := hA 3 0 rfl
  have kz : (0 : Int32).toInt = 0 := rfl
  have k47 : (Int32.ofInt 47).toInt = 47 := q9oI_toInt (by decide)
  have k1000000 : (Int32.ofInt 1000000).toInt = 1000000 := q9oI_toInt (by decide)
  have X0 := q9th_pX (T := T) (N := N) (P := P) (J := J) (t0 := t0) (Sc := Sc) (op := 1000) (q9evS ae0) (q9evZ w0) (q9evS ae1) (hX _ (List.mem_of_getElem? (i := 0) rfl)) (by decide)
  rw [q9FF_1000] at X0
  have H0 := Option.some.inj X0
  try simp only [kz, k47, k1000000] at H0
  have L0 : x1.toInt ≤ (Int32.ofInt 47).toInt + 0 := q9pC (q9evS ae1) (q9evC w0 47) (hL _ (List.mem_of_getElem? (i := 0) rfl))
  have L1 : (0 : Int32).toInt ≤ x2.toInt + 0 := q9pC (q9evZ w0) (q9evS ae2) (hL _ (List.mem_of_getElem? (i := 1) rfl))
  have L2 : x2.toInt ≤ (Int32.ofInt 1000000).toInt + 0 := q9pC (q9evS ae2) (q9evC w0 1000000) (hL _ (List.mem_of_getElem? (i := 2) rfl))
  have X1 := q9th_pX (T := T) (N := N) (P := P) (J := J) (t0 := t0) (Sc := Sc) (op := 1005) (q9evS ae0) (q9evS ae2) (q9evS ae3) (hX _ (List.mem_of_getElem? (i := 1) rfl)) (by decide)
  rw [q9FF_1005] at X1
  have H1 := Option.some.inj X1
  try simp only [kz, k47, k1000000] at H1
  have b1 : x2.toInt ≤ 1000000 := by omega
  have e := (q9nvI_no (T := T) (N := N) (i := x0.toInt) (v := x2.toInt) (by omega) (by omega)).trans (Int.min_eq_right b1)
  have u_ : q9upN w 5 [] 0 = .int 0 := q9upN_of (by decide) w0
  have u0 : q9upN w 5 [] 1 = .int x0 := q9upN_of (by decide) ae0
  have u1 : q9upN w 5 [] 2 = .int x1 := q9upN_of (by decide) ae1
  have u2 : q9upN w 5 [] 3 = .int x2 := q9upN_of (by decide) ae2
  have u3 : q9upN w 5 [] 4 = .int x3 := q9upN_of (by decide) ae3
  refine ⟨[], fun i9 p9 hq9 => ?_, fun _ h => absurd h List.not_mem_nil, List.forall_mem_cons.mpr ⟨?_, List.forall_mem_cons.mpr ⟨?_, fun _ h => absurd h List.not_mem_nil⟩⟩⟩
  · exact nomatch (show (none : Option (Nat × q9AV × q9AV × q9ET)) = some p9 from hq9)
  · exact q9th_tC (d := 0) (q9evS u2) (q9evS u3) (by omega)
  · exact q9th_tC (d := 0) (q9evS u3) (q9evS u2) (by omega)
theorem q9ru_nvh (hT : ∀ i, 0 ≤ T i ∧ T i ≤ 255) (hN : 0 ≤ N ∧ N ≤ 400) (hSc : 0 ≤ Sc 1 ∧ Sc 1 ≤ 400 → N = Sc 1) : q9ruOK (fO T N P J t0 Sc) q9R_nvh := by
  intro w w0 hA hX hL hV hR
  obtain ⟨x0, ae0, -, -⟩ := hA 0 0 rfl
  obtain ⟨x1, ae1, -, -⟩ := hA 1 0 rfl
  obtain ⟨x2, ae2, -, -⟩ := hA 2 0 rfl
  obtain ⟨x3, ae3, -, -⟩ := hA 3 0 rfl
  have kz : (0 : Int32).toInt = 0 := rfl
  have k58 : (Int32.ofInt 58).toInt = 58 := q9oI_toInt (by decide)
  have k1000000 : (Int32.ofInt 1000000).toInt = 1000000 := q9oI_toInt (by decide)
  have X0 := q9th_pX (T := T) (N := N) (P := P) (J := J) (t0 := t0) (Sc := Sc) (op := 1000) (q9evS ae0) (q9evZ w0) (q9evS ae1) (hX _ (List.mem_of_getElem? (i := 0) rfl)) (by decide)
  rw [q9FF_1000] at X0
  have H0 := Option.some.inj X0
  try simp only [kz, k58, k1000000] at H0
  have L0 : (Int32.ofInt 58).toInt ≤ x1.toInt + 0 := q9pC (q9evC w0 58) (q9evS ae1) (hL _ (List.mem_of_getElem? (i := 0) rfl))
  have L1 : (0 : Int32).toInt ≤ x2.toInt + 0 := q9pC (q9evZ w0) (q9evS ae2) (hL _ (List.mem_of_getElem? (i := 1) rfl))
  have L2 : x2.toInt ≤ (Int32.ofInt 1000000).toInt + 0 := q9pC (q9evS ae2) (q9evC w0 1000000) (hL _ (List.mem_of_getElem? (i := 2) rfl))
  have X1 := q9th_pX (T := T) (N := N) (P := P) (J := J) (t0 := t0) (Sc := Sc) (op := 1005) (q9evS ae0) (q9evS ae2) (q9evS ae3) (hX _ (List.mem_of_getElem? (i := 1) rfl)) (by decide)
  rw [q9FF_1005] at X1
  have H1 := Option.some.inj X1
  try simp only [kz, k58, k1000000] at H1
  have b1 : x2.toInt ≤ 1000000 := by omega
  have e := (q9nvI_no (T := T) (N := N) (i := x0.toInt) (v := x2.toInt) (by omega) (by omega)).trans (Int.min_eq_right b1)
  have u_ : q9upN w 5 [] 0 = .int 0 := q9upN_of (by decide) w0
  have u0 : q9upN w 5 [] 1 = .int x0 := q9upN_of (by decide) ae0
  have u1 : q9upN w 5 [] 2 = .int x1 := q9upN_of (by decide) ae1
  have u2 : q9upN w 5 [] 3 = .int x2 := q9upN_of (by decide) ae2
  have u3 : q9upN w 5 [] 4 = .int x3 := q9upN_of (by decide) ae3
  refine ⟨[], fun i9 p9 hq9 => ?_, fun _ h => absurd h List.not_mem_nil, List.forall_mem_cons.mpr ⟨?_, List.forall_mem_cons.mpr ⟨?_, fun _ h => absurd h List.not_mem_nil⟩⟩⟩
  · exact nomatch (show (none : Option (Nat × q9AV × q9AV × q9ET)) = some p9 from hq9)
  · exact q9th_tC (d := 0) (q9evS u2) (q9evS u3) (by omega)
  · exact q9th_tC (d := 0) (q9evS u3) (q9evS u2) (by omega)
theorem q9ru_dg1 (hT : ∀ i, 0 ≤ T i ∧ T i ≤ 255) (hN : 0 ≤ N ∧ N ≤ 400) (hSc : 0 ≤ Sc 1 ∧ Sc 1 ≤ 400 → N = Sc 1) : q9ruOK (fO T N P J t0 Sc) q9R_dg1 := by
  intro w w0 hA hX hL hV hR
  obtain ⟨x0, ae0, -, -⟩ := hA 0 0 rfl
  obtain ⟨x1, ae1, -, -⟩ := hA 1 0 rfl
  have kz : (0 : Int32).toInt = 0 := rfl
  have k48 : (Int32.ofInt 48).toInt = 48 := q9oI_toInt (by decide)
  have k57 : (Int32.ofInt 57).toInt = 57 := q9oI_toInt (by decide)
  have X0 := q9th_pX (T := T) (N := N) (P := P) (J := J) (t0 := t0) (Sc := Sc) (op := 1000) (q9evS ae0) (q9evZ w0) (q9evS ae1) (hX _ (List.mem_of_getElem? (i := 0) rfl)) (by decide)
  rw [q9FF_1000] at X0
  have H0 := Option.some.inj X0
  try simp only [kz, k48, k57] at H0
  have L0 : (Int32.ofInt 48).toInt ≤ x1.toInt + 0 := q9pC (q9evC w0 48) (q9evS ae1) (hL _ (List.mem_of_getElem? (i := 0) rfl))
  have L1 : x1.toInt ≤ (Int32.ofInt 57).toInt + 0 := q9pC (q9evS ae1) (q9evC w0 57) (hL _ (List.mem_of_getElem? (i := 1) rfl))
  have rg0 : (1 : Int) ≤ 1 ∧ (1 : Int) ≤ 1 := by omega
  obtain ⟨x2, nt2⟩ : ∃ x : Int32, x.toInt = 1 := ⟨Int32.ofInt (1), q9oI_toInt (by omega)⟩
  have u_ : q9upN w 3 [.int x2] 0 = .int 0 := q9upN_of (by decide) w0
  have u0 : q9upN w 3 [.int x2] 1 = .int x0 := q9upN_of (by decide) ae0
  have u1 : q9upN w 3 [.int x2] 2 = .int x1 := q9upN_of (by decide) ae1
  have u2 : q9upN w 3 [.int x2] 3 = .int x2 := q9upN_at (by decide)
  refine ⟨[.int x2], fun i9 p9 hq9 => ?_, fun _ h => absurd h List.not_mem_nil, fun _ h => absurd h List.not_mem_nil⟩
  · match i9, hq9 with
    | 0, hq9 =>
      have hp9 : ((1007, (1, 0), (0, 0), (0, 1, 1)) : Nat × q9AV × q9AV × q9ET) = p9 := Option.some.inj hq9
      subst hp9
      exact ⟨⟨x2, rfl, by rw [nt2]; exact rg0.1, by rw [nt2]; exact rg0.2⟩, (q9th_tX (T := T) (N := N) (P := P) (J := J) (t0 := t0) (Sc := Sc) (q9evS u0) (q9evZ u_) (q9evS u2) (by rw [q9FF_1007, nt2]; exact (by rw [if_pos (by omega)])) (by decide)).trans (congrArg some (q9evS u2))⟩
    | k9 + 1, hq9 => exact nomatch (show (none : Option (Nat × q9AV × q9AV × q9ET)) = some p9 from hq9)
theorem q9ru_dg0l (hT : ∀ i, 0 ≤ T i ∧ T i ≤ 255) (hN : 0 ≤ N ∧ N ≤ 400) (hSc : 0 ≤ Sc 1 ∧ Sc 1 ≤ 400 → N = Sc 1) : q9ruOK (fO T N P J t0 Sc) q9R_dg0l := by
  intro w w0 hA hX hL hV hR
  obtain ⟨x0, ae0, -, -⟩ := hA 0 0 rfl
  obtain ⟨x1, ae1, -, -⟩ := hA 1 0 rfl
  have kz : (0 : Int32).toInt = 0 := rfl
  have k47 : (Int32.ofInt 47).toInt = 47 := q9oI_toInt (by decide)
  have X0 := q9th_pX (T := T) (N := N) (P := P) (J := J) (t0 := t0) (Sc := Sc) (op := 1000) (q9evS ae0) (q9evZ w0) (q9evS ae1) (hX _ (List.mem_of_getElem? (i := 0) rfl)) (by decide)
  rw [q9FF_1000] at X0
  have H0 := Option.some.inj X0
  try simp only [kz, k47] at H0
  have L0 : x1.toInt ≤ (Int32.ofInt 47).toInt + 0 := q9pC (q9evS ae1) (q9evC w0 47) (hL _ (List.mem_of_getElem? (i := 0) rfl))
  have rg0 : (0 : Int) ≤ 0 ∧ (0 : Int) ≤ 0 := by omega
  obtain ⟨x2, nt2⟩ : ∃ x : Int32, x.toInt = 0 := ⟨Int32.ofInt (0), q9oI_toInt (by omega)⟩
  have u_ : q9upN w 3 [.int x2] 0 = .int 0 := q9upN_of (by decide) w0
  have u0 : q9upN w 3 [.int x2] 1 = .int x0 := q9upN_of (by decide) ae0
  have u1 : q9upN w 3 [.int x2] 2 = .int x1 := q9upN_of (by decide) ae1
  have u2 : q9upN w 3 [.int x2] 3 = .int x2 := q9upN_at (by decide)
  refine ⟨[.int x2], fun i9 p9 hq9 => ?_, fun _ h => absurd h List.not_mem_nil, fun _ h => absurd h List.not_mem_nil⟩
  · match i9, hq9 with
    | 0, hq9 =>
      have hp9 : ((1007, (1, 0), (0, 0), (0, 0, 0)) : Nat × q9AV × q9AV × q9ET) = p9 := Option.some.inj hq9
      subst hp9
      exact ⟨⟨x2, rfl, by rw [nt2]; exact rg0.1, by rw [nt2]; exact rg0.2⟩, (q9th_tX (T := T) (N := N) (P := P) (J := J) (t0 := t0) (Sc := Sc) (q9evS u0) (q9evZ u_) (q9evS u2) (by rw [q9FF_1007, nt2]; exact (by rw [if_neg (by omega)])) (by decide)).trans (congrArg some (q9evS u2))⟩
    | k9 + 1, hq9 => exact nomatch (show (none : Option (Nat × q9AV × q9AV × q9ET)) = some p9 from hq9)
theorem q9ru_dg0h (hT : ∀ i, 0 ≤ T i ∧ T i ≤ 255) (hN : 0 ≤ N ∧ N ≤ 400) (hSc : 0 ≤ Sc 1 ∧ Sc 1 ≤ 400 → N = Sc 1) : q9ruOK (fO T N P J t0 Sc) q9R_dg0h := by
  intro w w0 hA hX hL hV hR
  obtain ⟨x0, ae0, -, -⟩ := hA 0 0 rfl
  obtain ⟨x1, ae1, -, -⟩ := hA 1 0 rfl
  have kz : (0 : Int32).toInt = 0 := rfl
  have k58 : (Int32.ofInt 58).toInt = 58 := q9oI_toInt (by decide)
  have X0 := q9th_pX (T := T) (N := N) (P := P) (J := J) (t0 := t0) (Sc := Sc) (op := 1000) (q9evS ae0) (q9evZ w0) (q9evS ae1) (hX _ (List.mem_of_getElem? (i := 0) rfl)) (by decide)
  rw [q9FF_1000] at X0
  have H0 := Option.some.inj X0
  try simp only [kz, k58] at H0
  have L0 : (Int32.ofInt 58).toInt ≤ x1.toInt + 0 := q9pC (q9evC w0 58) (q9evS ae1) (hL _ (List.mem_of_getElem? (i := 0) rfl))
  have rg0 : (0 : Int) ≤ 0 ∧ (0 : Int) ≤ 0 := by omega
  obtain ⟨x2, nt2⟩ : ∃ x : Int32, x.toInt = 0 := ⟨Int32.ofInt (0), q9oI_toInt (by omega)⟩
  have u_ : q9upN w 3 [.int x2] 0 = .int 0 := q9upN_of (by decide) w0
  have u0 : q9upN w 3 [.int x2] 1 = .int x0 := q9upN_of (by decide) ae0
  have u1 : q9upN w 3 [.int x2] 2 = .int x1 := q9upN_of (by decide) ae1
  have u2 : q9upN w 3 [.int x2] 3 = .int x2 := q9upN_at (by decide)
  refine ⟨[.int x2], fun i9 p9 hq9 => ?_, fun _ h => absurd h List.not_mem_nil, fun _ h => absurd h List.not_mem_nil⟩
  · match i9, hq9 with
    | 0, hq9 =>
      have hp9 : ((1007, (1, 0), (0, 0), (0, 0, 0)) : Nat × q9AV × q9AV × q9ET) = p9 := Option.some.inj hq9
      subst hp9
      exact ⟨⟨x2, rfl, by rw [nt2]; exact rg0.1, by rw [nt2]; exact rg0.2⟩, (q9th_tX (T := T) (N := N) (P := P) (J := J) (t0 := t0) (Sc := Sc) (q9evS u0) (q9evZ u_) (q9evS u2) (by rw [q9FF_1007, nt2]; exact (by rw [if_neg (by omega)])) (by decide)).trans (congrArg some (q9evS u2))⟩
    | k9 + 1, hq9 => exact nomatch (show (none : Option (Nat × q9AV × q9AV × q9ET)) = some p9 from hq9)
theorem q9ru_is1 (hT : ∀ i, 0 ≤ T i ∧ T i ≤ 255) (hN : 0 ≤ N ∧ N ≤ 400) (hSc : 0 ≤ Sc 1 ∧ Sc 1 ≤ 400 → N = Sc 1) : q9ruOK (fO T N P J t0 Sc) q9R_is1 := by
  intro w w0 hA hX hL hV hR
  obtain ⟨x0, ae0, -, -⟩ := hA 0 0 rfl
  obtain ⟨x1, ae1, -, -⟩ := hA 1 0 rfl
  obtain ⟨x2, ae2, -, -⟩ := hA 2 0 rfl
  have kz : (0 : Int32).toInt = 0 := rfl
  have X0 := q9th_pX (T := T) (N := N) (P := P) (J := J) (t0 := t0) (Sc := Sc) (op := 1000) (q9evS ae0) (q9evZ w0) (q9evS ae1) (hX _ (List.mem_of_getElem? (i := 0) rfl)) (by decide)
  rw [q9FF_1000] at X0
  have H0 := Option.some.inj X0
  try simp only [kz] at H0
  have L0 : x1.toInt ≤ x2.toInt + 0 := q9pC (q9evS ae1) (q9evS ae2) (hL _ (List.mem_of_getElem? (i := 0) rfl))
  have L1 : x2.toInt ≤ x1.toInt + 0 := q9pC (q9evS ae2) (q9evS ae1) (hL _ (List.mem_of_getElem? (i := 1) rfl))
  have rg0 : (1 : Int) ≤ 1 ∧ (1 : Int) ≤ 1 := by omega
  obtain ⟨x3, nt3⟩ : ∃ x : Int32, x.toInt = 1 := ⟨Int32.ofInt (1), q9oI_toInt (by omega)⟩
  have u_ : q9upN w 4 [.int x3] 0 = .int 0 := q9upN_of (by decide) w0
  have u0 : q9upN w 4 [.int x3] 1 = .int x0 := q9upN_of (by decide) ae0
  have u1 : q9upN w 4 [.int x3] 2 = .int x1 := q9upN_of (by decide) ae1
  have u2 : q9upN w 4 [.int x3] 3 = .int x2 := q9upN_of (by decide) ae2
  have u3 : q9upN w 4 [.int x3] 4 = .int x3 := q9upN_at (by decide)
  refine ⟨[.int x3], fun i9 p9 hq9 => ?_, fun _ h => absurd h List.not_mem_nil, fun _ h => absurd h List.not_mem_nil⟩
  · match i9, hq9 with
    | 0, hq9 =>
      have hp9 : ((1009, (1, 0), (3, 0), (0, 1, 1)) : Nat × q9AV × q9AV × q9ET) = p9 := Option.some.inj hq9
      subst hp9
      exact ⟨⟨x3, rfl, by rw [nt3]; exact rg0.1, by rw [nt3]; exact rg0.2⟩, (q9th_tX (T := T) (N := N) (P := P) (J := J) (t0 := t0) (Sc := Sc) (q9evS u0) (q9evS u2) (q9evS u3) (by rw [q9FF_1009, nt3]; exact (by rw [if_pos (by omega)])) (by decide)).trans (congrArg some (q9evS u3))⟩
    | k9 + 1, hq9 => exact nomatch (show (none : Option (Nat × q9AV × q9AV × q9ET)) = some p9 from hq9)
theorem q9ru_is0l (hT : ∀ i, 0 ≤ T i ∧ T i ≤ 255) (hN : 0 ≤ N ∧ N ≤ 400) (hSc : 0 ≤ Sc 1 ∧ Sc 1 ≤ 400 → N = Sc 1) : q9ruOK (fO T N P J t0 Sc) q9R_is0l := by
  intro w w0 hA hX hL hV hR
  obtain ⟨x0, ae0, -, -⟩ := hA 0 0 rfl
  obtain ⟨x1, ae1, -, -⟩ := hA 1 0 rfl
  obtain ⟨x2, ae2, -, -⟩ := hA 2 0 rfl
  have kz : (0 : Int32).toInt = 0 := rfl
  have X0 := q9th_pX (T := T) (N := N) (P := P) (J := J) (t0 := t0) (Sc := Sc) (op := 1000) (q9evS ae0) (q9evZ w0) (q9evS ae1) (hX _ (List.mem_of_getElem? (i := 0) rfl)) (by decide)
  rw [q9FF_1000] at X0
  have H0 := Option.some.inj X0
  try simp only [kz] at H0
  have L0 : x1.toInt ≤ x2.toInt + (-1) := q9pC (q9evS ae1) (q9evS ae2) (hL _ (List.mem_of_getElem? (i := 0) rfl))
  have rg0 : (0 : Int) ≤ 0 ∧ (0 : Int) ≤ 0 := by omega
  obtain ⟨x3, nt3⟩ : ∃ x : Int32, x.toInt = 0 := ⟨Int32.ofInt (0), q9oI_toInt (by omega)⟩
  have u_ : q9upN w 4 [.int x3] 0 = .int 0 := q9upN_of (by decide) w0
  have u0 : q9upN w 4 [.int x3] 1 = .int x0 := q9upN_of (by decide) ae0
  have u1 : q9upN w 4 [.int x3] 2 = .int x1 := q9upN_of (by decide) ae1
  have u2 : q9upN w 4 [.int x3] 3 = .int x2 := q9upN_of (by decide) ae2
  have u3 : q9upN w 4 [.int x3] 4 = .int x3 := q9upN_at (by decide)
  refine ⟨[.int x3], fun i9 p9 hq9 => ?_, fun _ h => absurd h List.not_mem_nil, fun _ h => absurd h List.not_mem_nil⟩
  · match i9, hq9 with
    | 0, hq9 =>
      have hp9 : ((1009, (1, 0), (3, 0), (0, 0, 0)) : Nat × q9AV × q9AV × q9ET) = p9 := Option.some.inj hq9
      subst hp9
      exact ⟨⟨x3, rfl, by rw [nt3]; exact rg0.1, by rw [nt3]; exact rg0.2⟩, (q9th_tX (T := T) (N := N) (P := P) (J := J) (t0 := t0) (Sc := Sc) (q9evS u0) (q9evS u2) (q9evS u3) (by rw [q9FF_1009, nt3]; exact (by rw [if_neg (by omega)])) (by decide)).trans (congrArg some (q9evS u3))⟩
    | k9 + 1, hq9 => exact nomatch (show (none : Option (Nat × q9AV × q9AV × q9ET)) = some p9 from hq9)
theorem q9ru_is0h (hT : ∀ i, 0 ≤ T i ∧ T i ≤ 255) (hN : 0 ≤ N ∧ N ≤ 400) (hSc : 0 ≤ Sc 1 ∧ Sc 1 ≤ 400 → N = Sc 1) : q9ruOK (fO T N P J t0 Sc) q9R_is0h := by
  intro w w0 hA hX hL hV hR
  obtain ⟨x0, ae0, -, -⟩ := hA 0 0 rfl
  obtain ⟨x1, ae1, -, -⟩ := hA 1 0 rfl
  obtain ⟨x2, ae2, -, -⟩ := hA 2 0 rfl
  have kz : (0 : Int32).toInt = 0 := rfl
  have X0 := q9th_pX (T := T) (N := N) (P := P) (J := J) (t0 := t0) (Sc := Sc) (op := 1000) (q9evS ae0) (q9evZ w0) (q9evS ae1) (hX _ (List.mem_of_getElem? (i := 0) rfl)) (by decide)
  rw [q9FF_1000] at X0
  have H0 := Option.some.inj X0
  try simp only [kz] at H0
  have L0 : x2.toInt ≤ x1.toInt + (-1) := q9pC (q9evS ae2) (q9evS ae1) (hL _ (List.mem_of_getElem? (i := 0) rfl))
  have rg0 : (0 : Int) ≤ 0 ∧ (0 : Int) ≤ 0 := by omega
  obtain ⟨x3, nt3⟩ : ∃ x : Int32, x.toInt = 0 := ⟨Int32.ofInt (0), q9oI_toInt (by omega)⟩
  have u_ : q9upN w 4 [.int x3] 0 = .int 0 := q9upN_of (by decide) w0
  have u0 : q9upN w 4 [.int x3] 1 = .int x0 := q9upN_of (by decide) ae0
  have u1 : q9upN w 4 [.int x3] 2 = .int x1 := q9upN_of (by decide) ae1
  have u2 : q9upN w 4 [.int x3] 3 = .int x2 := q9upN_of (by decide) ae2
  have u3 : q9upN w 4 [.int x3] 4 = .int x3 := q9upN_at (by decide)
  refine ⟨[.int x3], fun i9 p9 hq9 => ?_, fun _ h => absurd h List.not_mem_nil, fun _ h => absurd h List.not_mem_nil⟩
  · match i9, hq9 with
    | 0, hq9 =>
      have hp9 : ((1009, (1, 0), (3, 0), (0, 0, 0)) : Nat × q9AV × q9AV × q9ET) = p9 := Option.some.inj hq9
      subst hp9
      exact ⟨⟨x3, rfl, by rw [nt3]; exact rg0.1, by rw [nt3]; exact rg0.2⟩, (q9th_tX (T := T) (N := N) (P := P) (J := J) (t0 := t0) (Sc := Sc) (q9evS u0) (q9evS u2) (q9evS u3) (by rw [q9FF_1009, nt3]; exact (by rw [if_neg (by omega)])) (by decide)).trans (congrArg some (q9evS u3))⟩
    | k9 + 1, hq9 => exact nomatch (show (none : Option (Nat × q9AV × q9AV × q9ET)) = some p9 from hq9)
theorem q9ru_mv1 (hT : ∀ i, 0 ≤ T i ∧ T i ≤ 255) (hN : 0 ≤ N ∧ N ≤ 400) (hSc : 0 ≤ Sc 1 ∧ Sc 1 ≤ 400 → N = Sc 1) : q9ruOK (fO T N P J t0 Sc) q9R_mv1 := by
  intro w w0 hA hX hL hV hR
  obtain ⟨x0, ae0, -, -⟩ := hA 0 0 rfl
  obtain ⟨x1, ae1, -, -⟩ := hA 1 0 rfl
  obtain ⟨x2, ae2, -, -⟩ := hA 2 0 rfl
  obtain ⟨x3, ae3, -, -⟩ := hA 3 0 rfl
  obtain ⟨x4, ae4, -, -⟩ := hA 4 0 rfl
  have kz : (0 : Int32).toInt = 0 := rfl
  have X0 := q9pB (T := T) (N := N) (P := P) (J := J) (t0 := t0) (Sc := Sc) (q9evS ae0) (q9evS ae1) (q9evS ae4) (hX _ (List.mem_of_getElem? (i := 0) rfl))
  have L0 : x0.toInt ≤ x2.toInt + 0 := q9pC (q9evS ae0) (q9evS ae2) (hL _ (List.mem_of_getElem? (i := 0) rfl))
  have L1 : x2.toInt ≤ x0.toInt + 0 := q9pC (q9evS ae2) (q9evS ae0) (hL _ (List.mem_of_getElem? (i := 1) rfl))
  have L2 : x1.toInt ≤ x3.toInt + 0 := q9pC (q9evS ae1) (q9evS ae3) (hL _ (List.mem_of_getElem? (i := 2) rfl))
  have L3 : x3.toInt ≤ x1.toInt + 0 := q9pC (q9evS ae3) (q9evS ae1) (hL _ (List.mem_of_getElem? (i := 3) rfl))
  have e1 : x2 = x0 := Int32.toInt_inj.mp (by omega)
  have e2 : x3 = x1 := Int32.toInt_inj.mp (by omega)
  have u_ : q9upN w 6 [] 0 = .int 0 := q9upN_of (by decide) w0
  have u0 : q9upN w 6 [] 1 = .int x0 := q9upN_of (by decide) ae0
  have u1 : q9upN w 6 [] 2 = .int x1 := q9upN_of (by decide) ae1
  have u2 : q9upN w 6 [] 3 = .int x2 := q9upN_of (by decide) ae2
  have u3 : q9upN w 6 [] 4 = .int x3 := q9upN_of (by decide) ae3
  have u4 : q9upN w 6 [] 5 = .int x4 := q9upN_of (by decide) ae4
  refine ⟨[], fun i9 p9 hq9 => ?_, List.forall_mem_cons.mpr ⟨?_, fun _ h => absurd h List.not_mem_nil⟩, fun _ h => absurd h List.not_mem_nil⟩
  · exact nomatch (show (none : Option (Nat × q9AV × q9AV × q9ET)) = some p9 from hq9)
  · exact q9tB (T := T) (N := N) (P := P) (J := J) (t0 := t0) (Sc := Sc) (q9evS u2) (q9evS u3) (q9evS u4) (by rw [e1, e2]; exact X0)
theorem q9ru_vrg (hT : ∀ i, 0 ≤ T i ∧ T i ≤ 255) (hN : 0 ≤ N ∧ N ≤ 400) (hSc : 0 ≤ Sc 1 ∧ Sc 1 ≤ 400 → N = Sc 1) : q9ruOK (fO T N P J t0 Sc) q9R_vrg := by
  intro w w0 hA hX hL hV hR
  obtain ⟨x0, ae0, -, -⟩ := hA 0 0 rfl
  obtain ⟨x1, ae1, -, -⟩ := hA 1 0 rfl
  obtain ⟨x2, ae2, -, -⟩ := hA 2 0 rfl
  obtain ⟨x3, ae3, -, -⟩ := hA 3 0 rfl
  obtain ⟨x4, ae4, -, -⟩ := hA 4 0 rfl
  obtain ⟨x5, ae5, -, -⟩ := hA 5 0 rfl
  have kz : (0 : Int32).toInt = 0 := rfl
  have k5 : (Int32.ofInt 5).toInt = 5 := q9oI_toInt (by decide)
  have k97 : (Int32.ofInt 97).toInt = 97 := q9oI_toInt (by decide)
  have k122 : (Int32.ofInt 122).toInt = 122 := q9oI_toInt (by decide)
  have X0 := q9th_pX (T := T) (N := N) (P := P) (J := J) (t0 := t0) (Sc := Sc) (op := 1000) (q9evS ae0) (q9evZ w0) (q9evS ae1) (hX _ (List.mem_of_getElem? (i := 0) rfl)) (by decide)
  rw [q9FF_1000] at X0
  have H0 := Option.some.inj X0
  try simp only [kz, k5, k97, k122] at H0
  have L0 : (Int32.ofInt 97).toInt ≤ x1.toInt + 0 := q9pC (q9evC w0 97) (q9evS ae1) (hL _ (List.mem_of_getElem? (i := 0) rfl))
  have L1 : x1.toInt ≤ (Int32.ofInt 122).toInt + 0 := q9pC (q9evS ae1) (q9evC w0 122) (hL _ (List.mem_of_getElem? (i := 1) rfl))
  have X1 := q9th_pX (T := T) (N := N) (P := P) (J := J) (t0 := t0) (Sc := Sc) (op := 1011) (q9evS ae0) (q9evS ae2) (q9evS ae3) (hX _ (List.mem_of_getElem? (i := 1) rfl)) (by decide)
  rw [q9FF_1011] at X1
  have H1 := Option.some.inj X1
  try simp only [kz, k5, k97, k122] at H1
  have X2 := q9pB (T := T) (N := N) (P := P) (J := J) (t0 := t0) (Sc := Sc) (q9evS ae2) (q9evC w0 5) (q9evS ae4) (hX _ (List.mem_of_getElem? (i := 2) rfl))
  have X3 := q9pB (T := T) (N := N) (P := P) (J := J) (t0 := t0) (Sc := Sc) (q9evS ae4) (q9evO ae1 (-96)) (q9evS ae5) (hX _ (List.mem_of_getElem? (i := 3) rfl))
  have bl := q9byI_lt (T := T) (N := N) (i := x0.toInt) (by omega)
  have a1 := q9ad32 (x := x0) (d := 1) (by omega)
  have m1 : x2 <<< 5 = x4 := Value.int.inj (Option.some.inj (X2 : some (Value.int (x2 <<< (Int32.ofInt 5 &&& 31))) = some (.int x4)))
  have m2 : x4 ||| (x1 + Int32.ofInt (-96)) = x5 := Value.int.inj (Option.some.inj (X3 : some (Value.int (x4 ||| (x1 + Int32.ofInt (-96)))) = some (.int x5)))
  rw [q9add_oI (x := x1) (d := -96) (by omega), ← m1, show x1.toInt + -96 = q9byI T N x0.toInt - 96 by omega] at m2
  have u_ : q9upN w 7 [] 0 = .int 0 := q9upN_of (by decide) w0
  have u0 : q9upN w 7 [] 1 = .int x0 := q9upN_of (by decide) ae0
  have u1 : q9upN w 7 [] 2 = .int x1 := q9upN_of (by decide) ae1
  have u2 : q9upN w 7 [] 3 = .int x2 := q9upN_of (by decide) ae2
  have u3 : q9upN w 7 [] 4 = .int x3 := q9upN_of (by decide) ae3
  have u4 : q9upN w 7 [] 5 = .int x4 := q9upN_of (by decide) ae4
  have u5 : q9upN w 7 [] 6 = .int x5 := q9upN_of (by decide) ae5
  refine ⟨[], fun i9 p9 hq9 => ?_, List.forall_mem_cons.mpr ⟨?_, fun _ h => absurd h List.not_mem_nil⟩, fun _ h => absurd h List.not_mem_nil⟩
  · exact nomatch (show (none : Option (Nat × q9AV × q9AV × q9ET)) = some p9 from hq9)
  · exact q9th_tX (T := T) (N := N) (P := P) (J := J) (t0 := t0) (Sc := Sc) (q9evO u0 1) (q9evS u5) (q9evS u3) (by rw [q9FF_1011]; exact (by rw [a1, q9oI_of, ← H1, q9oI_of, ← m2, q9vrI_yes (i := x0.toInt) (v := x2) (by omega) (by omega), m1])) (by decide)
theorem q9ru_vrl (hT : ∀ i, 0 ≤ T i ∧ T i ≤ 255) (hN : 0 ≤ N ∧ N ≤ 400) (hSc : 0 ≤ Sc 1 ∧ Sc 1 ≤ 400 → N = Sc 1) : q9ruOK (fO T N P J t0 Sc) q9R_vrl := by
  intro w w0 hA hX hL hV hR
  obtain ⟨x0, ae0, -, -⟩ := hA 0 0 rfl
  obtain ⟨x1, ae1, -, -⟩ := hA 1 0 rfl
  obtain ⟨x2, ae2, -, -⟩ := hA 2 0 rfl
  obtain ⟨x3, ae3, -, -⟩ := hA 3 0 rfl
  have kz : (0 : Int32).toInt = 0 := rfl
  have k96 : (Int32.ofInt 96).toInt = 96 := q9oI_toInt (by decide)
  have X0 := q9th_pX (T := T) (N := N) (P := P) (J := J) (t0 := t0) (Sc := Sc) (op := 1000) (q9evS ae0) (q9evZ w0) (q9evS ae1) (hX _ (List.mem_of_getElem? (i := 0) rfl)) (by decide)
  rw [q9FF_1000] at X0
  have H0 := Option.some.inj X0
  try simp only [kz, k96] at H0
  have L0 : x1.toInt ≤ (Int32.ofInt 96).toInt + 0 := q9pC (q9evS ae1) (q9evC w0 96) (hL _ (List.mem_of_getElem? (i := 0) rfl))
  have X1 := q9th_pX (T := T) (N := N) (P := P) (J := J) (t0 := t0) (Sc := Sc) (op := 1011) (q9evS ae0) (q9evS ae2) (q9evS ae3) (hX _ (List.mem_of_getElem? (i := 1) rfl)) (by decide)
  rw [q9FF_1011] at X1
  have H1 := Option.some.inj X1
  try simp only [kz, k96] at H1
  rw [q9oI_of, q9vrI_no (by omega)] at H1
  have u_ : q9upN w 5 [] 0 = .int 0 := q9upN_of (by decide) w0
  have u0 : q9upN w 5 [] 1 = .int x0 := q9upN_of (by decide) ae0
  have u1 : q9upN w 5 [] 2 = .int x1 := q9upN_of (by decide) ae1
  have u2 : q9upN w 5 [] 3 = .int x2 := q9upN_of (by decide) ae2
  have u3 : q9upN w 5 [] 4 = .int x3 := q9upN_of (by decide) ae3
  refine ⟨[], fun i9 p9 hq9 => ?_, fun _ h => absurd h List.not_mem_nil, List.forall_mem_cons.mpr ⟨?_, List.forall_mem_cons.mpr ⟨?_, fun _ h => absurd h List.not_mem_nil⟩⟩⟩
  · exact nomatch (show (none : Option (Nat × q9AV × q9AV × q9ET)) = some p9 from hq9)
  · exact q9th_tC (d := 0) (q9evS u2) (q9evS u3) (by omega)
  · exact q9th_tC (d := 0) (q9evS u3) (q9evS u2) (by omega)
theorem q9ru_vrh (hT : ∀ i, 0 ≤ T i ∧ T i ≤ 255) (hN : 0 ≤ N ∧ N ≤ 400) (hSc : 0 ≤ Sc 1 ∧ Sc 1 ≤ 400 → N = Sc 1) : q9ruOK (fO T N P J t0 Sc) q9R_vrh := by
  intro w w0 hA hX hL hV hR
  obtain ⟨x0, ae0, -, -⟩ := hA 0 0 rfl
  obtain ⟨x1, ae1, -, -⟩ := hA 1 0 rfl
  obtain ⟨x2, ae2, -, -⟩ := hA 2 0 rfl
  obtain ⟨x3, ae3, -, -⟩ := hA 3 0 rfl
  have kz : (0 : Int32).toInt = 0 := rfl
  have k123 : (Int32.ofInt 123).toInt = 123 := q9oI_toInt (by decide)
  have X0 := q9th_pX (T := T) (N := N) (P := P) (J := J) (t0 := t0) (Sc := Sc) (op := 1000) (q9evS ae0) (q9evZ w0) (q9evS ae1) (hX _ (List.mem_of_getElem? (i := 0) rfl)) (by decide)
  rw [q9FF_1000] at X0
  have H0 := Option.some.inj X0
  try simp only [kz, k123] at H0
  have L0 : (Int32.ofInt 123).toInt ≤ x1.toInt + 0 := q9pC (q9evC w0 123) (q9evS ae1) (hL _ (List.mem_of_getElem? (i := 0) rfl))
  have X1 := q9th_pX (T := T) (N := N) (P := P) (J := J) (t0 := t0) (Sc := Sc) (op := 1011) (q9evS ae0) (q9evS ae2) (q9evS ae3) (hX _ (List.mem_of_getElem? (i := 1) rfl)) (by decide)
  rw [q9FF_1011] at X1
  have H1 := Option.some.inj X1
  try simp only [kz, k123] at H1
  rw [q9oI_of, q9vrI_no (by omega)] at H1
  have u_ : q9upN w 5 [] 0 = .int 0 := q9upN_of (by decide) w0
  have u0 : q9upN w 5 [] 1 = .int x0 := q9upN_of (by decide) ae0
  have u1 : q9upN w 5 [] 2 = .int x1 := q9upN_of (by decide) ae1
  have u2 : q9upN w 5 [] 3 = .int x2 := q9upN_of (by decide) ae2
  have u3 : q9upN w 5 [] 4 = .int x3 := q9upN_of (by decide) ae3
  refine ⟨[], fun i9 p9 hq9 => ?_, fun _ h => absurd h List.not_mem_nil, List.forall_mem_cons.mpr ⟨?_, List.forall_mem_cons.mpr ⟨?_, fun _ h => absurd h List.not_mem_nil⟩⟩⟩
  · exact nomatch (show (none : Option (Nat × q9AV × q9AV × q9ET)) = some p9 from hq9)
  · exact q9th_tC (d := 0) (q9evS u2) (q9evS u3) (by omega)
  · exact q9th_tC (d := 0) (q9evS u3) (q9evS u2) (by omega)
theorem q9ru_wc6 (hT : ∀ i, 0 ≤ T i ∧ T i ≤ 255) (hN : 0 ≤ N ∧ N ≤ 400) (hSc : 0 ≤ Sc 1 ∧ Sc 1 ≤ 400 → N = Sc 1) : q9ruOK (fO T N P J t0 Sc) q9R_wc6 := by
  intro w w0 hA hX hL hV hR
  obtain ⟨x0, ae0, -, -⟩ := hA 0 0 rfl
  obtain ⟨x1, ae1, -, -⟩ := hA 1 0 rfl
  obtain ⟨x2, ae2, -, -⟩ := hA 2 0 rfl
  obtain ⟨x3, ae3, -, -⟩ := hA 3 0 rfl
  have kz : (0 : Int32).toInt = 0 := rfl
  have X0 := q9th_pX (T := T) (N := N) (P := P) (J := J) (t0 := t0) (Sc := Sc) (op := 1003) (q9evS ae0) (q9evZ w0) (q9evS ae1) (hX _ (List.mem_of_getElem? (i := 0) rfl)) (by decide)
  rw [q9FF_1003] at X0
  have H0 := Option.some.inj X0
  try simp only [kz] at H0
  have L0 : x1.toInt ≤ x0.toInt + 6 := q9pC (q9evS ae1) (q9evS ae0) (hL _ (List.mem_of_getElem? (i := 0) rfl))
  have X1 := q9th_pX (T := T) (N := N) (P := P) (J := J) (t0 := t0) (Sc := Sc) (op := 1011) (q9evS ae0) (q9evZ w0) (q9evS ae2) (hX _ (List.mem_of_getElem? (i := 1) rfl)) (by decide)
  rw [q9FF_1011] at X1
  have H1 := Option.some.inj X1
  try simp only [kz] at H1
  have L1 : x2.toInt ≤ x3.toInt + 0 := q9pC (q9evS ae2) (q9evS ae3) (hL _ (List.mem_of_getElem? (i := 1) rfl))
  have L2 : x3.toInt ≤ x2.toInt + 0 := q9pC (q9evS ae3) (q9evS ae2) (hL _ (List.mem_of_getElem? (i := 2) rfl))
  have u_ : q9upN w 5 [] 0 = .int 0 := q9upN_of (by decide) w0
  have u0 : q9upN w 5 [] 1 = .int x0 := q9upN_of (by decide) ae0
  have u1 : q9upN w 5 [] 2 = .int x1 := q9upN_of (by decide) ae1
  have u2 : q9upN w 5 [] 3 = .int x2 := q9upN_of (by decide) ae2
  have u3 : q9upN w 5 [] 4 = .int x3 := q9upN_of (by decide) ae3
  refine ⟨[], fun i9 p9 hq9 => ?_, List.forall_mem_cons.mpr ⟨?_, fun _ h => absurd h List.not_mem_nil⟩, fun _ h => absurd h List.not_mem_nil⟩
  · exact nomatch (show (none : Option (Nat × q9AV × q9AV × q9ET)) = some p9 from hq9)
  · exact q9th_tX (T := T) (N := N) (P := P) (J := J) (t0 := t0) (Sc := Sc) (q9evS u0) (q9evZ u_) (q9evS u3) (by rw [q9FF_1008]; exact (by unfold q9wcI; rw [if_pos (by omega)]; exact congrArg some (H1.trans (by omega)))) (by decide)
theorem q9ru_wc7 (hT : ∀ i, 0 ≤ T i ∧ T i ≤ 255) (hN : 0 ≤ N ∧ N ≤ 400) (hSc : 0 ≤ Sc 1 ∧ Sc 1 ≤ 400 → N = Sc 1) : q9ruOK (fO T N P J t0 Sc) q9R_wc7 := by
  intro w w0 hA hX hL hV hR
  obtain ⟨x0, ae0, -, -⟩ := hA 0 0 rfl
  obtain ⟨x1, ae1, -, -⟩ := hA 1 0 rfl
  have kz : (0 : Int32).toInt = 0 := rfl
  have X0 := q9th_pX (T := T) (N := N) (P := P) (J := J) (t0 := t0) (Sc := Sc) (op := 1003) (q9evS ae0) (q9evZ w0) (q9evS ae1) (hX _ (List.mem_of_getElem? (i := 0) rfl)) (by decide)
  rw [q9FF_1003] at X0
  have H0 := Option.some.inj X0
  try simp only [kz] at H0
  have L0 : x0.toInt ≤ x1.toInt + (-7) := q9pC (q9evS ae0) (q9evS ae1) (hL _ (List.mem_of_getElem? (i := 0) rfl))
  have rg0 : (0 : Int) ≤ 0 ∧ (0 : Int) ≤ 0 := by omega
  obtain ⟨x2, nt2⟩ : ∃ x : Int32, x.toInt = 0 := ⟨Int32.ofInt (0), q9oI_toInt (by omega)⟩
  have u_ : q9upN w 3 [.int x2] 0 = .int 0 := q9upN_of (by decide) w0
  have u0 : q9upN w 3 [.int x2] 1 = .int x0 := q9upN_of (by decide) ae0
  have u1 : q9upN w 3 [.int x2] 2 = .int x1 := q9upN_of (by decide) ae1
  have u2 : q9upN w 3 [.int x2] 3 = .int x2 := q9upN_at (by decide)
  refine ⟨[.int x2], fun i9 p9 hq9 => ?_, fun _ h => absurd h List.not_mem_nil, fun _ h => absurd h List.not_mem_nil⟩
  · match i9, hq9 with
    | 0, hq9 =>
      have hp9 : ((1008, (1, 0), (0, 0), (0, 0, 0)) : Nat × q9AV × q9AV × q9ET) = p9 := Option.some.inj hq9
      subst hp9
      exact ⟨⟨x2, rfl, by rw [nt2]; exact rg0.1, by rw [nt2]; exact rg0.2⟩, (q9th_tX (T := T) (N := N) (P := P) (J := J) (t0 := t0) (Sc := Sc) (q9evS u0) (q9evZ u_) (q9evS u2) (by rw [q9FF_1008, nt2]; exact (by unfold q9wcI; rw [if_neg (by omega)])) (by decide)).trans (congrArg some (q9evS u2))⟩
    | k9 + 1, hq9 => exact nomatch (show (none : Option (Nat × q9AV × q9AV × q9ET)) = some p9 from hq9)
theorem q9ru_ko0 (hT : ∀ i, 0 ≤ T i ∧ T i ≤ 255) (hN : 0 ≤ N ∧ N ≤ 400) (hSc : 0 ≤ Sc 1 ∧ Sc 1 ≤ 400 → N = Sc 1) : q9ruOK (fO T N P J t0 Sc) q9R_ko0 := by
  intro w w0 hA hX hL hV hR
  obtain ⟨x0, ae0, -, -⟩ := hA 0 0 rfl
  have kz : (0 : Int32).toInt = 0 := rfl
  have k277892 : (Int32.ofInt 277892).toInt = 277892 := q9oI_toInt (by decide)
  have L0 : x0.toInt ≤ (Int32.ofInt 277892).toInt + 0 := q9pC (q9evS ae0) (q9evC w0 277892) (hL _ (List.mem_of_getElem? (i := 0) rfl))
  have L1 : (Int32.ofInt 277892).toInt ≤ x0.toInt + 0 := q9pC (q9evC w0 277892) (q9evS ae0) (hL _ (List.mem_of_getElem? (i := 1) rfl))
  have e : x0.toInt = 277892 := by omega
  have rg0 : (0 : Int) ≤ 0 ∧ (0 : Int) ≤ 0 := by omega
  obtain ⟨x1, nt1⟩ : ∃ x : Int32, x.toInt = 0 := ⟨Int32.ofInt (0), q9oI_toInt (by omega)⟩
  have u_ : q9upN w 2 [.int x1] 0 = .int 0 := q9upN_of (by decide) w0
  have u0 : q9upN w 2 [.int x1] 1 = .int x0 := q9upN_of (by decide) ae0
  have u1 : q9upN w 2 [.int x1] 2 = .int x1 := q9upN_at (by decide)
  refine ⟨[.int x1], fun i9 p9 hq9 => ?_, fun _ h => absurd h List.not_mem_nil, fun _ h => absurd h List.not_mem_nil⟩
  · match i9, hq9 with
    | 0, hq9 =>
      have hp9 : ((1012, (1, 0), (0, 0), (0, 0, 0)) : Nat × q9AV × q9AV × q9ET) = p9 := Option.some.inj hq9
      subst hp9
      exact ⟨⟨x1, rfl, by rw [nt1]; exact rg0.1, by rw [nt1]; exact rg0.2⟩, (q9th_tX (T := T) (N := N) (P := P) (J := J) (t0 := t0) (Sc := Sc) (q9evS u0) (q9evZ u_) (q9evS u1) (by rw [q9FF_1012, nt1]; exact (by rw [e]; rfl)) (by decide)).trans (congrArg some (q9evS u1))⟩
    | k9 + 1, hq9 => exact nomatch (show (none : Option (Nat × q9AV × q9AV × q9ET)) = some p9 from hq9)
theorem q9ru_ko1 (hT : ∀ i, 0 ≤ T i ∧ T i ≤ 255) (hN : 0 ≤ N ∧ N ≤ 400) (hSc : 0 ≤ Sc 1 ∧ Sc 1 ≤ 400 → N = Sc 1) : q9ruOK (fO T N P J t0 Sc) q9R_ko1 := by
  intro w w0 hA hX hL hV hR
  obtain ⟨x0, ae0, -, -⟩ := hA 0 0 rfl
  have kz : (0 : Int32).toInt = 0 := rfl
  have k442053 : (Int32.ofInt 442053).toInt = 442053 := q9oI_toInt (by decide)
  have L0 : x0.toInt ≤ (Int32.ofInt 442053).toInt + 0 := q9pC (q9evS ae0) (q9evC w0 442053) (hL _ (List.mem_of_getElem? (i := 0) rfl))
  have L1 : (Int32.ofInt 442053).toInt ≤ x0.toInt + 0 := q9pC (q9evC w0 442053) (q9evS ae0) (hL _ (List.mem_of_getElem? (i := 1) rfl))
  have e : x0.toInt = 442053 := by omega
  have rg0 : (1 : Int) ≤ 1 ∧ (1 : Int) ≤ 1 := by omega
  obtain ⟨x1, nt1⟩ : ∃ x : Int32, x.toInt = 1 := ⟨Int32.ofInt (1), q9oI_toInt (by omega)⟩
  have u_ : q9upN w 2 [.int x1] 0 = .int 0 := q9upN_of (by decide) w0
  have u0 : q9upN w 2 [.int x1] 1 = .int x0 := q9upN_of (by decide) ae0
  have u1 : q9upN w 2 [.int x1] 2 = .int x1 := q9upN_at (by decide)
  refine ⟨[.int x1], fun i9 p9 hq9 => ?_, fun _ h => absurd h List.not_mem_nil, fun _ h => absurd h List.not_mem_nil⟩
  · match i9, hq9 with
    | 0, hq9 =>
      have hp9 : ((1012, (1, 0), (0, 0), (0, 1, 1)) : Nat × q9AV × q9AV × q9ET) = p9 := Option.some.inj hq9
      subst hp9
      exact ⟨⟨x1, rfl, by rw [nt1]; exact rg0.1, by rw [nt1]; exact rg0.2⟩, (q9th_tX (T := T) (N := N) (P := P) (J := J) (t0 := t0) (Sc := Sc) (q9evS u0) (q9evZ u_) (q9evS u1) (by rw [q9FF_1012, nt1]; exact (by rw [e]; rfl)) (by decide)).trans (congrArg some (q9evS u1))⟩
    | k9 + 1, hq9 => exact nomatch (show (none : Option (Nat × q9AV × q9AV × q9ET)) = some p9 from hq9)
theorem q9ru_ko2 (hT : ∀ i, 0 ≤ T i ∧ T i ≤ 255) (hN : 0 ≤ N ∧ N ≤ 400) (hSc : 0 ≤ Sc 1 ∧ Sc 1 ≤ 400 → N = Sc 1) : q9ruOK (fO T N P J t0 Sc) q9R_ko2 := by
  intro w w0 hA hX hL hV hR
  obtain ⟨x0, ae0, -, -⟩ := hA 0 0 rfl
  have kz : (0 : Int32).toInt = 0 := rfl
  have k19513 : (Int32.ofInt 19513).toInt = 19513 := q9oI_toInt (by decide)
  have L0 : x0.toInt ≤ (Int32.ofInt 19513).toInt + 0 := q9pC (q9evS ae0) (q9evC w0 19513) (hL _ (List.mem_of_getElem? (i := 0) rfl))
  have L1 : (Int32.ofInt 19513).toInt ≤ x0.toInt + 0 := q9pC (q9evC w0 19513) (q9evS ae0) (hL _ (List.mem_of_getElem? (i := 1) rfl))
  have e : x0.toInt = 19513 := by omega
  have rg0 : (2 : Int) ≤ 2 ∧ (2 : Int) ≤ 2 := by omega
  obtain ⟨x1, nt1⟩ : ∃ x : Int32, x.toInt = 2 := ⟨Int32.ofInt (2), q9oI_toInt (by omega)⟩
  have u_ : q9upN w 2 [.int x1] 0 = .int 0 := q9upN_of (by decide) w0
  have u0 : q9upN w 2 [.int x1] 1 = .int x0 := q9upN_of (by decide) ae0
  have u1 : q9upN w 2 [.int x1] 2 = .int x1 := q9upN_at (by decide)
  refine ⟨[.int x1], fun i9 p9 hq9 => ?_, fun _ h => absurd h List.not_mem_nil, fun _ h => absurd h List.not_mem_nil⟩
  · match i9, hq9 with
    | 0, hq9 =>
      have hp9 : ((1012, (1, 0), (0, 0), (0, 2, 2)) : Nat × q9AV × q9AV × q9ET) = p9 := Option.some.inj hq9
      subst hp9
      exact ⟨⟨x1, rfl, by rw [nt1]; exact rg0.1, by rw [nt1]; exact rg0.2⟩, (q9th_tX (T := T) (N := N) (P := P) (J := J) (t0 := t0) (Sc := Sc) (q9evS u0) (q9evZ u_) (q9evS u1) (by rw [q9FF_1012, nt1]; exact (by rw [e]; rfl)) (by decide)).trans (congrArg some (q9evS u1))⟩
    | k9 + 1, hq9 => exact nomatch (show (none : Option (Nat × q9AV × q9AV × q9ET)) = some p9 from hq9)
theorem q9ru_ko3 (hT : ∀ i, 0 ≤ T i ∧ T i ≤ 255) (hN : 0 ≤ N ∧ N ≤ 400) (hSc : 0 ≤ Sc 1 ∧ Sc 1 ≤ 400 → N = Sc 1) : q9ruOK (fO T N P J t0 Sc) q9R_ko3 := by
  intro w w0 hA hX hL hV hR
  obtain ⟨x0, ae0, -, -⟩ := hA 0 0 rfl
  have kz : (0 : Int32).toInt = 0 := rfl
  have k20773 : (Int32.ofInt 20773).toInt = 20773 := q9oI_toInt (by decide)
  have L0 : x0.toInt ≤ (Int32.ofInt 20773).toInt + 0 := q9pC (q9evS ae0) (q9evC w0 20773) (hL _ (List.mem_of_getElem? (i := 0) rfl))
  have L1 : (Int32.ofInt 20773).toInt ≤ x0.toInt + 0 := q9pC (q9evC w0 20773) (q9evS ae0) (hL _ (List.mem_of_getElem? (i := 1) rfl))
  have e : x0.toInt = 20773 := by omega
  have rg0 : (3 : Int) ≤ 3 ∧ (3 : Int) ≤ 3 := by omega
  obtain ⟨x1, nt1⟩ : ∃ x : Int32, x.toInt = 3 := ⟨Int32.ofInt (3), q9oI_toInt (by omega)⟩
  have u_ : q9upN w 2 [.int x1] 0 = .int 0 := q9upN_of (by decide) w0
  have u0 : q9upN w 2 [.int x1] 1 = .int x0 := q9upN_of (by decide) ae0
  have u1 : q9upN w 2 [.int x1] 2 = .int x1 := q9upN_at (by decide)
  refine ⟨[.int x1], fun i9 p9 hq9 => ?_, fun _ h => absurd h List.not_mem_nil, fun _ h => absurd h List.not_mem_nil⟩
  · match i9, hq9 with
    | 0, hq9 =>
      have hp9 : ((1012, (1, 0), (0, 0), (0, 3, 3)) : Nat × q9AV × q9AV × q9ET) = p9 := Option.some.inj hq9
      subst hp9
      exact ⟨⟨x1, rfl, by rw [nt1]; exact rg0.1, by rw [nt1]; exact rg0.2⟩, (q9th_tX (T := T) (N := N) (P := P) (J := J) (t0 := t0) (Sc := Sc) (q9evS u0) (q9evZ u_) (q9evS u1) (by rw [q9FF_1012, nt1]; exact (by rw [e]; rfl)) (by decide)).trans (congrArg some (q9evS u1))⟩
    | k9 + 1, hq9 => exact nomatch (show (none : Option (Nat × q9AV × q9AV × q9ET)) = some p9 from hq9)
theorem q9ru_ko4 (hT : ∀ i, 0 ≤ T i ∧ T i ≤ 255) (hN : 0 ≤ N ∧ N ≤ 400) (hSc : 0 ≤ Sc 1 ∧ Sc 1 ≤ 400 → N = Sc 1) : q9ruOK (fO T N P J t0 Sc) q9R_ko4 := by
  intro w w0 hA hX hL hV hR
  obtain ⟨x0, ae0, -, -⟩ := hA 0 0 rfl
  have kz : (0 : Int32).toInt = 0 := rfl
  have k215205 : (Int32.ofInt 215205).toInt = 215205 := q9oI_toInt (by decide)
  have L0 : x0.toInt ≤ (Int32.ofInt 215205).toInt + 0 := q9pC (q9evS ae0) (q9evC w0 215205) (hL _ (List.mem_of_getElem? (i := 0) rfl))
  have L1 : (Int32.ofInt 215205).toInt ≤ x0.toInt + 0 := q9pC (q9evC w0 215205) (q9evS ae0) (hL _ (List.mem_of_getElem? (i := 1) rfl))
  have e : x0.toInt = 215205 := by omega
  have rg0 : (4 : Int) ≤ 4 ∧ (4 : Int) ≤ 4 := by omega
  obtain ⟨x1, nt1⟩ : ∃ x : Int32, x.toInt = 4 := ⟨Int32.ofInt (4), q9oI_toInt (by omega)⟩
  have u_ : q9upN w 2 [.int x1] 0 = .int 0 := q9upN_of (by decide) w0
  have u0 : q9upN w 2 [.int x1] 1 = .int x0 := q9upN_of (by decide) ae0
  have u1 : q9upN w 2 [.int x1] 2 = .int x1 := q9upN_at (by decide)
  refine ⟨[.int x1], fun i9 p9 hq9 => ?_, fun _ h => absurd h List.not_mem_nil, fun _ h => absurd h List.not_mem_nil⟩
  · match i9, hq9 with
    | 0, hq9 =>
      have hp9 : ((1012, (1, 0), (0, 0), (0, 4, 4)) : Nat × q9AV × q9AV × q9ET) = p9 := Option.some.inj hq9
      subst hp9
      exact ⟨⟨x1, rfl, by rw [nt1]; exact rg0.1, by rw [nt1]; exact rg0.2⟩, (q9th_tX (T := T) (N := N) (P := P) (J := J) (t0 := t0) (Sc := Sc) (q9evS u0) (q9evZ u_) (q9evS u1) (by rw [q9FF_1012, nt1]; exact (by rw [e]; rfl)) (by decide)).trans (congrArg some (q9evS u1))⟩
    | k9 + 1, hq9 => exact nomatch (show (none : Option (Nat × q9AV × q9AV × q9ET)) = some p9 from hq9)
theorem q9ru_ko5 (hT : ∀ i, 0 ≤ T i ∧ T i ≤ 255) (hN : 0 ≤ N ∧ N ≤ 400) (hSc : 0 ≤ Sc 1 ∧ Sc 1 ≤ 400 → N = Sc 1) : q9ruOK (fO T N P J t0 Sc) q9R_ko5 := by
  intro w w0 hA hX hL hV hR
  obtain ⟨x0, ae0, -, -⟩ := hA 0 0 rfl
  have kz : (0 : Int32).toInt = 0 := rfl
  have k18727 : (Int32.ofInt 18727).toInt = 18727 := q9oI_toInt (by decide)
  have L0 : x0.toInt ≤ (Int32.ofInt 18727).toInt + 0 := q9pC (q9evS ae0) (q9evC w0 18727) (hL _ (List.mem_of_getElem? (i := 0) rfl))
  have L1 : (Int32.ofInt 18727).toInt ≤ x0.toInt + 0 := q9pC (q9evC w0 18727) (q9evS ae0) (hL _ (List.mem_of_getElem? (i := 1) rfl))
  have e : x0.toInt = 18727 := by omega
  have rg0 : (5 : Int) ≤ 5 ∧ (5 : Int) ≤ 5 := by omega
  obtain ⟨x1, nt1⟩ : ∃ x : Int32, x.toInt = 5 := ⟨Int32.ofInt (5), q9oI_toInt (by omega)⟩
  have u_ : q9upN w 2 [.int x1] 0 = .int 0 := q9upN_of (by decide) w0
  have u0 : q9upN w 2 [.int x1] 1 = .int x0 := q9upN_of (by decide) ae0
  have u1 : q9upN w 2 [.int x1] 2 = .int x1 := q9upN_at (by decide)
  refine ⟨[.int x1], fun i9 p9 hq9 => ?_, fun _ h => absurd h List.not_mem_nil, fun _ h => absurd h List.not_mem_nil⟩
  · match i9, hq9 with
    | 0, hq9 =>
      have hp9 : ((1012, (1, 0), (0, 0), (0, 5, 5)) : Nat × q9AV × q9AV × q9ET) = p9 := Option.some.inj hq9
      subst hp9
      exact ⟨⟨x1, rfl, by rw [nt1]; exact rg0.1, by rw [nt1]; exact rg0.2⟩, (q9th_tX (T := T) (N := N) (P := P) (J := J) (t0 := t0) (Sc := Sc) (q9evS u0) (q9evZ u_) (q9evS u1) (by rw [q9FF_1012, nt1]; exact (by rw [e]; rfl)) (by decide)).trans (congrArg some (q9evS u1))⟩
    | k9 + 1, hq9 => exact nomatch (show (none : Option (Nat × q9AV × q9AV × q9ET)) = some p9 from hq9)
theorem q9ru_ko6 (hT : ∀ i, 0 ≤ T i ∧ T i ≤ 255) (hN : 0 ≤ N ∧ N ≤ 400) (hSc : 0 ≤ Sc 1 ∧ Sc 1 ≤ 400 → N = Sc 1) : q9ruOK (fO T N P J t0 Sc) q9R_ko6 := by
  intro w w0 hA hX hL hV hR
  obtain ⟨x0, ae0, -, -⟩ := hA 0 0 rfl
  have kz : (0 : Int32).toInt = 0 := rfl
  have k102143553 : (Int32.ofInt 102143553).toInt = 102143553 := q9oI_toInt (by decide)
  have L0 : x0.toInt ≤ (Int32.ofInt 102143553).toInt + 0 := q9pC (q9evS ae0) (q9evC w0 102143553) (hL _ (List.mem_of_getElem? (i := 0) rfl))
  have L1 : (Int32.ofInt 102143553).toInt ≤ x0.toInt + 0 := q9pC (q9evC w0 102143553) (q9evS ae0) (hL _ (List.mem_of_getElem? (i := 1) rfl))
  have e : x0.toInt = 102143553 := by omega
  have rg0 : (6 : Int) ≤ 6 ∧ (6 : Int) ≤ 6 := by omega
  obtain ⟨x1, nt1⟩ : ∃ x : Int32, x.toInt = 6 := ⟨Int32.ofInt (6), q9oI_toInt (by omega)⟩
  have u_ : q9upN w 2 [.int x1] 0 = .int 0 := q9upN_of (by decide) w0
  have u0 : q9upN w 2 [.int x1] 1 = .int x0 := q9upN_of (by decide) ae0
  have u1 : q9upN w 2 [.int x1] 2 = .int x1 := q9upN_at (by decide)
  refine ⟨[.int x1], fun i9 p9 hq9 => ?_, fun _ h => absurd h List.not_mem_nil, fun _ h => absurd h List.not_mem_nil⟩
  · match i9, hq9 with
    | 0, hq9 =>
      have hp9 : ((1012, (1, 0), (0, 0), (0, 6, 6)) : Nat × q9AV × q9AV × q9ET) = p9 := Option.some.inj hq9
      subst hp9
      exact ⟨⟨x1, rfl, by rw [nt1]; exact rg0.1, by rw [nt1]; exact rg0.2⟩, (q9th_tX (T := T) (N := N) (P := P) (J := J) (t0 := t0) (Sc := Sc) (q9evS u0) (q9evZ u_) (q9evS u1) (by rw [q9FF_1012, nt1]; exact (by rw [e]; rfl)) (by decide)).trans (congrArg some (q9evS u1))⟩
    | k9 + 1, hq9 => exact nomatch (show (none : Option (Nat × q9AV × q9AV × q9ET)) = some p9 from hq9)
theorem q9ru_ko7 (hT : ∀ i, 0 ≤ T i ∧ T i ≤ 255) (hN : 0 ≤ N ∧ N ≤ 400) (hSc : 0 ≤ Sc 1 ∧ Sc 1 ≤ 400 → N = Sc 1) : q9ruOK (fO T N P J t0 Sc) q9R_ko7 := by
  intro w w0 hA hX hL hV hR
  obtain ⟨x0, ae0, -, -⟩ := hA 0 0 rfl
  have kz : (0 : Int32).toInt = 0 := rfl
  have k609752116 : (Int32.ofInt 609752116).toInt = 609752116 := q9oI_toInt (by decide)
  have L0 : x0.toInt ≤ (Int32.ofInt 609752116).toInt + 0 := q9pC (q9evS ae0) (q9evC w0 609752116) (hL _ (List.mem_of_getElem? (i := 0) rfl))
  have L1 : (Int32.ofInt 609752116).toInt ≤ x0.toInt + 0 := q9pC (q9evC w0 609752116) (q9evS ae0) (hL _ (List.mem_of_getElem? (i := 1) rfl))
  have e : x0.toInt = 609752116 := by omega
  have rg0 : (7 : Int) ≤ 7 ∧ (7 : Int) ≤ 7 := by omega
  obtain ⟨x1, nt1⟩ : ∃ x : Int32, x.toInt = 7 := ⟨Int32.ofInt (7), q9oI_toInt (by omega)⟩
  have u_ : q9upN w 2 [.int x1] 0 = .int 0 := q9upN_of (by decide) w0
  have u0 : q9upN w 2 [.int x1] 1 = .int x0 := q9upN_of (by decide) ae0
  have u1 : q9upN w 2 [.int x1] 2 = .int x1 := q9upN_at (by decide)
  refine ⟨[.int x1], fun i9 p9 hq9 => ?_, fun _ h => absurd h List.not_mem_nil, fun _ h => absurd h List.not_mem_nil⟩
  · match i9, hq9 with
    | 0, hq9 =>
      have hp9 : ((1012, (1, 0), (0, 0), (0, 7, 7)) : Nat × q9AV × q9AV × q9ET) = p9 := Option.some.inj hq9
      subst hp9
      exact ⟨⟨x1, rfl, by rw [nt1]; exact rg0.1, by rw [nt1]; exact rg0.2⟩, (q9th_tX (T := T) (N := N) (P := P) (J := J) (t0 := t0) (Sc := Sc) (q9evS u0) (q9evZ u_) (q9evS u1) (by rw [q9FF_1012, nt1]; exact (by rw [e]; rfl)) (by decide)).trans (congrArg some (q9evS u1))⟩
    | k9 + 1, hq9 => exact nomatch (show (none : Option (Nat × q9AV × q9AV × q9ET)) = some p9 from hq9)
theorem q9ru_kog0 (hT : ∀ i, 0 ≤ T i ∧ T i ≤ 255) (hN : 0 ≤ N ∧ N ≤ 400) (hSc : 0 ≤ Sc 1 ∧ Sc 1 ≤ 400 → N = Sc 1) : q9ruOK (fO T N P J t0 Sc) q9R_kog0 := by
  intro w w0 hA hX hL hV hR
  obtain ⟨x0, ae0, -, -⟩ := hA 0 0 rfl
  have kz : (0 : Int32).toInt = 0 := rfl
  have km2147483648 : (Int32.ofInt (-2147483648)).toInt = (-2147483648) := q9oI_toInt (by decide)
  have k18726 : (Int32.ofInt 18726).toInt = 18726 := q9oI_toInt (by decide)
  have L0 : (Int32.ofInt (-2147483648)).toInt ≤ x0.toInt + 0 := q9pC (q9evC w0 (-2147483648)) (q9evS ae0) (hL _ (List.mem_of_getElem? (i := 0) rfl))
  have L1 : x0.toInt ≤ (Int32.ofInt 18726).toInt + 0 := q9pC (q9evS ae0) (q9evC w0 18726) (hL _ (List.mem_of_getElem? (i := 1) rfl))
  have rg0 : ((-1) : Int) ≤ (-1) ∧ ((-1) : Int) ≤ (-1) := by omega
  obtain ⟨x1, nt1⟩ : ∃ x : Int32, x.toInt = (-1) := ⟨Int32.ofInt ((-1)), q9oI_toInt (by omega)⟩
  have u_ : q9upN w 2 [.int x1] 0 = .int 0 := q9upN_of (by decide) w0
  have u0 : q9upN w 2 [.int x1] 1 = .int x0 := q9upN_of (by decide) ae0
  have u1 : q9upN w 2 [.int x1] 2 = .int x1 := q9upN_at (by decide)
  refine ⟨[.int x1], fun i9 p9 hq9 => ?_, fun _ h => absurd h List.not_mem_nil, fun _ h => absurd h List.not_mem_nil⟩
  · match i9, hq9 with
    | 0, hq9 =>
      have hp9 : ((1012, (1, 0), (0, 0), (0, (-1), (-1))) : Nat × q9AV × q9AV × q9ET) = p9 := Option.some.inj hq9
      subst hp9
      exact ⟨⟨x1, rfl, by rw [nt1]; exact rg0.1, by rw [nt1]; exact rg0.2⟩, (q9th_tX (T := T) (N := N) (P := P) (J := J) (t0 := t0) (Sc := Sc) (q9evS u0) (q9evZ u_) (q9evS u1) (by rw [q9FF_1012, nt1]; exact (by unfold q9koI; rw [if_neg (by omega), if_neg (by omega), if_neg (by omega), if_neg (by omega), if_neg (by omega), if_neg (by omega), if_neg (by omega), if_neg (by omega)])) (by decide)).trans (congrArg some (q9evS u1))⟩
    | k9 + 1, hq9 => exact nomatch (show (none : Option (Nat × q9AV × q9AV × q9ET)) = some p9 from hq9)
theorem q9ru_kog1 (hT : ∀ i, 0 ≤ T i ∧ T i ≤ 255) (hN : 0 ≤ N ∧ N ≤ 400) (hSc : 0 ≤ Sc 1 ∧ Sc 1 ≤ 400 → N = Sc 1) : q9ruOK (fO T N P J t0 Sc) q9R_kog1 := by
  intro w w0 hA hX hL hV hR
  obtain ⟨x0, ae0, -, -⟩ := hA 0 0 rfl
  have kz : (0 : Int32).toInt = 0 := rfl
  have k18728 : (Int32.ofInt 18728).toInt = 18728 := q9oI_toInt (by decide)
  have k19512 : (Int32.ofInt 19512).toInt = 19512 := q9oI_toInt (by decide)
  have L0 : (Int32.ofInt 18728).toInt ≤ x0.toInt + 0 := q9pC (q9evC w0 18728) (q9evS ae0) (hL _ (List.mem_of_getElem? (i := 0) rfl))
  have L1 : x0.toInt ≤ (Int32.ofInt 19512).toInt + 0 := q9pC (q9evS ae0) (q9evC w0 19512) (hL _ (List.mem_of_getElem? (i := 1) rfl))
  have rg0 : ((-1) : Int) ≤ (-1) ∧ ((-1) : Int) ≤ (-1) := by omega
  obtain ⟨x1, nt1⟩ : ∃ x : Int32, x.toInt = (-1) := ⟨Int32.ofInt ((-1)), q9oI_toInt (by omega)⟩
  have u_ : q9upN w 2 [.int x1] 0 = .int 0 := q9upN_of (by decide) w0
  have u0 : q9upN w 2 [.int x1] 1 = .int x0 := q9upN_of (by decide) ae0
  have u1 : q9upN w 2 [.int x1] 2 = .int x1 := q9upN_at (by decide)
  refine ⟨[.int x1], fun i9 p9 hq9 => ?_, fun _ h => absurd h List.not_mem_nil, fun _ h => absurd h List.not_mem_nil⟩
  · match i9, hq9 with
    | 0, hq9 =>
      have hp9 : ((1012, (1, 0), (0, 0), (0, (-1), (-1))) : Nat × q9AV × q9AV × q9ET) = p9 := Option.some.inj hq9
      subst hp9
      exact ⟨⟨x1, rfl, by rw [nt1]; exact rg0.1, by rw [nt1]; exact rg0.2⟩, (q9th_tX (T := T) (N := N) (P := P) (J := J) (t0 := t0) (Sc := Sc) (q9evS u0) (q9evZ u_) (q9evS u1) (by rw [q9FF_1012, nt1]; exact (by unfold q9koI; rw [if_neg (by omega), if_neg (by omega), if_neg (by omega), if_neg (by omega), if_neg (by omega), if_neg (by omega), if_neg (by omega), if_neg (by omega)])) (by decide)).trans (congrArg some (q9evS u1))⟩
    | k9 + 1, hq9 => exact nomatch (show (none : Option (Nat × q9AV × q9AV × q9ET)) = some p9 from hq9)
theorem q9ru_kog2 (hT : ∀ i, 0 ≤ T i ∧ T i ≤ 255) (hN : 0 ≤ N ∧ N ≤ 400) (hSc : 0 ≤ Sc 1 ∧ Sc 1 ≤ 400 → N = Sc 1) : q9ruOK (fO T N P J t0 Sc) q9R_kog2 := by
  intro w w0 hA hX hL hV hR
  obtain ⟨x0, ae0, -, -⟩ := hA 0 0 rfl
  have kz : (0 : Int32).toInt = 0 := rfl
  have k19514 : (Int32.ofInt 19514).toInt = 19514 := q9oI_toInt (by decide)
  have k20772 : (Int32.ofInt 20772).toInt = 20772 := q9oI_toInt (by decide)
  have L0 : (Int32.ofInt 19514).toInt ≤ x0.toInt + 0 := q9pC (q9evC w0 19514) (q9evS ae0) (hL _ (List.mem_of_getElem? (i := 0) rfl))
  have L1 : x0.toInt ≤ (Int32.ofInt 20772).toInt + 0 := q9pC (q9evS ae0) (q9evC w0 20772) (hL _ (List.mem_of_getElem? (i := 1) rfl))
  have rg0 : ((-1) : Int) ≤ (-1) ∧ ((-1) : Int) ≤ (-1) := by omega
  obtain ⟨x1, nt1⟩ : ∃ x : Int32, x.toInt = (-1) := ⟨Int32.ofInt ((-1)), q9oI_toInt (by omega)⟩
  have u_ : q9upN w 2 [.int x1] 0 = .int 0 := q9upN_of (by decide) w0
  have u0 : q9upN w 2 [.int x1] 1 = .int x0 := q9upN_of (by decide) ae0
  have u1 : q9upN w 2 [.int x1] 2 = .int x1 := q9upN_at (by decide)
  refine ⟨[.int x1], fun i9 p9 hq9 => ?_, fun _ h => absurd h List.not_mem_nil, fun _ h => absurd h List.not_mem_nil⟩
  · match i9, hq9 with
    | 0, hq9 =>
      have hp9 : ((1012, (1, 0), (0, 0), (0, (-1), (-1))) : Nat × q9AV × q9AV × q9ET) = p9 := Option.some.inj hq9
      subst hp9
      exact ⟨⟨x1, rfl, by rw [nt1]; exact rg0.1, by rw [nt1]; exact rg0.2⟩, (q9th_tX (T := T) (N := N) (P := P) (J := J) (t0 := t0) (Sc := Sc) (q9evS u0) (q9evZ u_) (q9evS u1) (by rw [q9FF_1012, nt1]; exact (by unfold q9koI; rw [if_neg (by omega), if_neg (by omega), if_neg (by omega), if_neg (by omega), if_neg (by omega), if_neg (by omega), if_neg (by omega), if_neg (by omega)])) (by decide)).trans (congrArg some (q9evS u1))⟩
    | k9 + 1, hq9 => exact nomatch (show (none : Option (Nat × q9AV × q9AV × q9ET)) = some p9 from hq9)
theorem q9ru_kog3 (hT : ∀ i, 0 ≤ T i ∧ T i ≤ 255) (hN : 0 ≤ N ∧ N ≤ 400) (hSc : 0 ≤ Sc 1 ∧ Sc 1 ≤ 400 → N = Sc 1) : q9ruOK (fO T N P J t0 Sc) q9R_kog3 := by
  intro w w0 hA hX hL hV hR
  obtain ⟨x0, ae0, -, -⟩ := hA 0 0 rfl
  have kz : (0 : Int32).toInt = 0 := rfl
  have k20774 : (Int32.ofInt 20774).toInt = 20774 := q9oI_toInt (by decide)
  have k215204 : (Int32.ofInt 215204).toInt = 215204 := q9oI_toInt (by decide)
  have L0 : (Int32.ofInt 20774).toInt ≤ x0.toInt + 0 := q9pC (q9evC w0 20774) (q9evS ae0) (hL _ (List.mem_of_getElem? (i := 0) rfl))
  have L1 : x0.toInt ≤ (Int32.ofInt 215204).toInt + 0 := q9pC (q9evS ae0) (q9evC w0 215204) (hL _ (List.mem_of_getElem? (i := 1) rfl))
  have rg0 : ((-1) : Int) ≤ (-1) ∧ ((-1) : Int) ≤ (-1) := by omega
  obtain ⟨x1, nt1⟩ : ∃ x : Int32, x.toInt = (-1) := ⟨Int32.ofInt ((-1)), q9oI_toInt (by omega)⟩
  have u_ : q9upN w 2 [.int x1] 0 = .int 0 := q9upN_of (by decide) w0
  have u0 : q9upN w 2 [.int x1] 1 = .int x0 := q9upN_of (by decide) ae0
  have u1 : q9upN w 2 [.int x1] 2 = .int x1 := q9upN_at (by decide)
  refine ⟨[.int x1], fun i9 p9 hq9 => ?_, fun _ h => absurd h List.not_mem_nil, fun _ h => absurd h List.not_mem_nil⟩
  · match i9, hq9 with
    | 0, hq9 =>
      have hp9 : ((1012, (1, 0), (0, 0), (0, (-1), (-1))) : Nat × q9AV × q9AV × q9ET) = p9 := Option.some.inj hq9
      subst hp9
      exact ⟨⟨x1, rfl, by rw [nt1]; exact rg0.1, by rw [nt1]; exact rg0.2⟩, (q9th_tX (T := T) (N := N) (P := P) (J := J) (t0 := t0) (Sc := Sc) (q9evS u0) (q9evZ u_) (q9evS u1) (by rw [q9FF_1012, nt1]; exact (by unfold q9koI; rw [if_neg (by omega), if_neg (by omega), if_neg (by omega), if_neg (by omega), if_neg (by omega), if_neg (by omega), if_neg (by omega), if_neg (by omega)])) (by decide)).trans (congrArg some (q9evS u1))⟩
    | k9 + 1, hq9 => exact nomatch (show (none : Option (Nat × q9AV × q9AV × q9ET)) = some p9 from hq9)
theorem q9ru_kog4 (hT : ∀ i, 0 ≤ T i ∧ T i ≤ 255) (hN : 0 ≤ N ∧ N ≤ 400) (hSc : 0 ≤ Sc 1 ∧ Sc 1 ≤ 400 → N = Sc 1) : q9ruOK (fO T N P J t0 Sc) q9R_kog4 := by
  intro w w0 hA hX hL hV hR
  obtain ⟨x0, ae0, -, -⟩ := hA 0 0 rfl
  have kz : (0 : Int32).toInt = 0 := rfl
  have k215206 : (Int32.ofInt 215206).toInt = 215206 := q9oI_toInt (by decide)
  have k277891 : (Int32.ofInt 277891).toInt = 277891 := q9oI_toInt (by decide)
  have L0 : (Int32.ofInt 215206).toInt ≤ x0.toInt + 0 := q9pC (q9evC w0 215206) (q9evS ae0) (hL _ (List.mem_of_getElem? (i := 0) rfl))
  have L1 : x0.toInt ≤ (Int32.ofInt 277891).toInt + 0 := q9pC (q9evS ae0) (q9evC w0 277891) (hL _ (List.mem_of_getElem? (i := 1) rfl))
  have rg0 : ((-1) : Int) ≤ (-1) ∧ ((-1) : Int) ≤ (-1) := by omega
  obtain ⟨x1, nt1⟩ : ∃ x : Int32, x.toInt = (-1) := ⟨Int32.ofInt ((-1)), q9oI_toInt (by omega)⟩
  have u_ : q9upN w 2 [.int x1] 0 = .int 0 := q9upN_of (by decide) w0
  have u0 : q9upN w 2 [.int x1] 1 = .int x0 := q9upN_of (by decide) ae0
  have u1 : q9upN w 2 [.int x1] 2 = .int x1 := q9upN_at (by decide)
  refine ⟨[.int x1], fun i9 p9 hq9 => ?_, fun _ h => absurd h List.not_mem_nil, fun _ h => absurd h List.not_mem_nil⟩
  · match i9, hq9 with
    | 0, hq9 =>
      have hp9 : ((1012, (1, 0), (0, 0), (0, (-1), (-1))) : Nat × q9AV × q9AV × q9ET) = p9 := Option.some.inj hq9
      subst hp9
      exact ⟨⟨x1, rfl, by rw [nt1]; exact rg0.1, by rw [nt1]; exact rg0.2⟩, (q9th_tX (T := T) (N := N) (P := P) (J := J) (t0 := t0) (Sc := Sc) (q9evS u0) (q9evZ u_) (q9evS u1) (by rw [q9FF_1012, nt1]; exact (by unfold q9koI; rw [if_neg (by omega), if_neg (by omega), if_neg (by omega), if_neg (by omega), if_neg (by omega), if_neg (by omega), if_neg (by omega), if_neg (by omega)])) (by decide)).trans (congrArg some (q9evS u1))⟩
    | k9 + 1, hq9 => exact nomatch (show (none : Option (Nat × q9AV × q9AV × q9ET)) = some p9 from hq9)
theorem q9ru_kog5 (hT : ∀ i, 0 ≤ T i ∧ T i ≤ 255) (hN : 0 ≤ N ∧ N ≤ 400) (hSc : 0 ≤ Sc 1 ∧ Sc 1 ≤ 400 → N = Sc 1) : q9ruOK (fO T N P J t0 Sc) q9R_kog5 := by
  intro w w0 hA hX hL hV hR
  obtain ⟨x0, ae0, -, -⟩ := hA 0 0 rfl
  have kz : (0 : Int32).toInt = 0 := rfl
  have k277893 : (Int32.ofInt 277893).toInt = 277893 := q9oI_toInt (by decide)
  have k442052 : (Int32.ofInt 442052).toInt = 442052 := q9oI_toInt (by decide)
  have L0 : (Int32.ofInt 277893).toInt ≤ x0.toInt + 0 := q9pC (q9evC w0 277893) (q9evS ae0) (hL _ (List.mem_of_getElem? (i := 0) rfl))
  have L1 : x0.toInt ≤ (Int32.ofInt 442052).toInt + 0 := q9pC (q9evS ae0) (q9evC w0 442052) (hL _ (List.mem_of_getElem? (i := 1) rfl))
  have rg0 : ((-1) : Int) ≤ (-1) ∧ ((-1) : Int) ≤ (-1) := by omega
  obtain ⟨x1, nt1⟩ : ∃ x : Int32, x.toInt = (-1) := ⟨Int32.ofInt ((-1)), q9oI_toInt (by omega)⟩
  have u_ : q9upN w 2 [.int x1] 0 = .int 0 := q9upN_of (by decide) w0
  have u0 : q9upN w 2 [.int x1] 1 = .int x0 := q9upN_of (by decide) ae0
  have u1 : q9upN w 2 [.int x1] 2 = .int x1 := q9upN_at (by decide)
  refine ⟨[.int x1], fun i9 p9 hq9 => ?_, fun _ h => absurd h List.not_mem_nil, fun _ h => absurd h List.not_mem_nil⟩
  · match i9, hq9 with
    | 0, hq9 =>
      have hp9 : ((1012, (1, 0), (0, 0), (0, (-1), (-1))) : Nat × q9AV × q9AV × q9ET) = p9 := Option.some.inj hq9
      subst hp9
      exact ⟨⟨x1, rfl, by rw [nt1]; exact rg0.1, by rw [nt1]; exact rg0.2⟩, (q9th_tX (T := T) (N := N) (P := P) (J := J) (t0 := t0) (Sc := Sc) (q9evS u0) (q9evZ u_) (q9evS u1) (by rw [q9FF_1012, nt1]; exact (by unfold q9koI; rw [if_neg (by omega), if_neg (by omega), if_neg (by omega), if_neg (by omega), if_neg (by omega), if_neg (by omega), if_neg (by omega), if_neg (by omega)])) (by decide)).trans (congrArg some (q9evS u1))⟩
    | k9 + 1, hq9 => exact nomatch (show (none : Option (Nat × q9AV × q9AV × q9ET)) = some p9 from hq9)
theorem q9ru_kog6 (hT : ∀ i, 0 ≤ T i ∧ T i ≤ 255) (hN : 0 ≤ N ∧ N ≤ 400) (hSc : 0 ≤ Sc 1 ∧ Sc 1 ≤ 400 → N = Sc 1) : q9ruOK (fO T N P J t0 Sc) q9R_kog6 := by
  intro w w0 hA hX hL hV hR
  obtain ⟨x0, ae0, -, -⟩ := hA 0 0 rfl
  have kz : (0 : Int32).toInt = 0 := rfl
  have k442054 : (Int32.ofInt 442054).toInt = 442054 := q9oI_toInt (by decide)
  have k102143552 : (Int32.ofInt 102143552).toInt = 102143552 := q9oI_toInt (by decide)
  have L0 : (Int32.ofInt 442054).toInt ≤ x0.toInt + 0 := q9pC (q9evC w0 442054) (q9evS ae0) (hL _ (List.mem_of_getElem? (i := 0) rfl))
  have L1 : x0.toInt ≤ (Int32.ofInt 102143552).toInt + 0 := q9pC (q9evS ae0) (q9evC w0 102143552) (hL _ (List.mem_of_getElem? (i := 1) rfl))
  have rg0 : ((-1) : Int) ≤ (-1) ∧ ((-1) : Int) ≤ (-1) := by omega
  obtain ⟨x1, nt1⟩ : ∃ x : Int32, x.toInt = (-1) := ⟨Int32.ofInt ((-1)), q9oI_toInt (by omega)⟩
  have u_ : q9upN w 2 [.int x1] 0 = .int 0 := q9upN_of (by decide) w0
  have u0 : q9upN w 2 [.int x1] 1 = .int x0 := q9upN_of (by decide) ae0
  have u1 : q9upN w 2 [.int x1] 2 = .int x1 := q9upN_at (by decide)
  refine ⟨[.int x1], fun i9 p9 hq9 => ?_, fun _ h => absurd h List.not_mem_nil, fun _ h => absurd h List.not_mem_nil⟩
  · match i9, hq9 with
    | 0, hq9 =>
      have hp9 : ((1012, (1, 0), (0, 0), (0, (-1), (-1))) : Nat × q9AV × q9AV × q9ET) = p9 := Option.some.inj hq9
      subst hp9
      exact ⟨⟨x1, rfl, by rw [nt1]; exact rg0.1, by rw [nt1]; exact rg0.2⟩, (q9th_tX (T := T) (N := N) (P := P) (J := J) (t0 := t0) (Sc := Sc) (q9evS u0) (q9evZ u_) (q9evS u1) (by rw [q9FF_1012, nt1]; exact (by unfold q9koI; rw [if_neg (by omega), if_neg (by omega), if_neg (by omega), if_neg (by omega), if_neg (by omega), if_neg (by omega), if_neg (by omega), if_neg (by omega)])) (by decide)).trans (congrArg some (q9evS u1))⟩
    | k9 + 1, hq9 => exact nomatch (show (none : Option (Nat × q9AV × q9AV × q9ET)) = some p9 from hq9)
theorem q9ru_kog7 (hT : ∀ i, 0 ≤ T i ∧ T i ≤ 255) (hN : 0 ≤ N ∧ N ≤ 400) (hSc : 0 ≤ Sc 1 ∧ Sc 1 ≤ 400 → N = Sc 1) : q9ruOK (fO T N P J t0 Sc) q9R_kog7 := by
  intro w w0 hA hX hL hV hR
  obtain ⟨x0, ae0, -, -⟩ := hA 0 0 rfl
  have kz : (0 : Int32).toInt = 0 := rfl
  have k102143554 : (Int32.ofInt 102143554).toInt = 102143554 := q9oI_toInt (by decide)
  have k609752115 : (Int32.ofInt 609752115).toInt = 609752115 := q9oI_toInt (by decide)
  have L0 : (Int32.ofInt 102143554).toInt ≤ x0.toInt + 0 := q9pC (q9evC w0 102143554) (q9evS ae0) (hL _ (List.mem_of_getElem? (i := 0) rfl))
  have L1 : x0.toInt ≤ (Int32.ofInt 609752115).toInt + 0 := q9pC (q9evS ae0) (q9evC w0 609752115) (hL _ (List.mem_of_getElem? (i := 1) rfl))
  have rg0 : ((-1) : Int) ≤ (-1) ∧ ((-1) : Int) ≤ (-1) := by omega
  obtain ⟨x1, nt1⟩ : ∃ x : Int32, x.toInt = (-1) := ⟨Int32.ofInt ((-1)), q9oI_toInt (by omega)⟩
  have u_ : q9upN w 2 [.int x1] 0 = .int 0 := q9upN_of (by decide) w0
  have u0 : q9upN w 2 [.int x1] 1 = .int x0 := q9upN_of (by decide) ae0
  have u1 : q9upN w 2 [.int x1] 2 = .int x1 := q9upN_at (by decide)
  refine ⟨[.int x1], fun i9 p9 hq9 => ?_, fun _ h => absurd h List.not_mem_nil, fun _ h => absurd h List.not_mem_nil⟩
  · match i9, hq9 with
    | 0, hq9 =>
      have hp9 : ((1012, (1, 0), (0, 0), (0, (-1), (-1))) : Nat × q9AV × q9AV × q9ET) = p9 := Option.some.inj hq9
      subst hp9
      exact ⟨⟨x1, rfl, by rw [nt1]; exact rg0.1, by rw [nt1]; exact rg0.2⟩, (q9th_tX (T := T) (N := N) (P := P) (J := J) (t0 := t0) (Sc := Sc) (q9evS u0) (q9evZ u_) (q9evS u1) (by rw [q9FF_1012, nt1]; exact (by unfold q9koI; rw [if_neg (by omega), if_neg (by omega), if_neg (by omega), if_neg (by omega), if_neg (by omega), if_neg (by omega), if_neg (by omega), if_neg (by omega)])) (by decide)).trans (congrArg some (q9evS u1))⟩
    | k9 + 1, hq9 => exact nomatch (show (none : Option (Nat × q9AV × q9AV × q9ET)) = some p9 from hq9)
theorem q9ruP_0 (hT : ∀ i, 0 ≤ T i ∧ T i ≤ 255) (hN : 0 ≤ N ∧ N ≤ 400) (hSc : 0 ≤ Sc 1 ∧ Sc 1 ≤ 400 → N = Sc 1) : ∀ q ∈ q9RULES_0, q9ruOK (fO T N P J t0 Sc) q := List.forall_mem_cons.mpr ⟨q9ru_spg hT hN hSc, List.forall_mem_cons.mpr ⟨q9ru_spl hT hN hSc, List.forall_mem_cons.mpr ⟨q9ru_sph hT hN hSc, List.forall_mem_cons.mpr ⟨q9ru_weg hT hN hSc, List.forall_mem_cons.mpr ⟨q9ru_wel hT hN hSc, List.forall_mem_cons.mpr ⟨q9ru_weh hT hN hSc, List.forall_mem_cons.mpr ⟨q9ru_deg hT hN hSc, List.forall_mem_cons.mpr ⟨q9ru_del hT hN hSc, List.forall_mem_cons.mpr ⟨q9ru_deh hT hN hSc, List.forall_mem_cons.mpr ⟨q9ru_nvg hT hN hSc, List.forall_mem_cons.mpr ⟨q9ru_nvl hT hN hSc, List.forall_mem_cons.mpr ⟨q9ru_nvh hT hN hSc, List.forall_mem_cons.mpr ⟨q9ru_dg1 hT hN hSc, List.forall_mem_cons.mpr ⟨q9ru_dg0l hT hN hSc, List.forall_mem_cons.mpr ⟨q9ru_dg0h hT hN hSc, List.forall_mem_cons.mpr ⟨q9ru_is1 hT hN hSc, List.forall_mem_cons.mpr ⟨q9ru_is0l hT hN hSc, List.forall_mem_cons.mpr ⟨q9ru_is0h hT hN hSc, List.forall_mem_cons.mpr ⟨q9ru_mv1 hT hN hSc, List.forall_mem_cons.mpr ⟨q9ru_vrg hT hN hSc, List.forall_mem_cons.mpr ⟨q9ru_vrl hT hN hSc, List.forall_mem_cons.mpr ⟨q9ru_vrh hT hN hSc, List.forall_mem_cons.mpr ⟨q9ru_wc6 hT hN hSc, List.forall_mem_cons.mpr ⟨q9ru_wc7 hT hN hSc, List.forall_mem_cons.mpr ⟨q9ru_ko0 hT hN hSc, List.forall_mem_cons.mpr ⟨q9ru_ko1 hT hN hSc, List.forall_mem_cons.mpr ⟨q9ru_ko2 hT hN hSc, List.forall_mem_cons.mpr ⟨q9ru_ko3 hT hN hSc, List.forall_mem_cons.mpr ⟨q9ru_ko4 hT hN hSc, List.forall_mem_cons.mpr ⟨q9ru_ko5 hT hN hSc, List.forall_mem_cons.mpr ⟨q9ru_ko6 hT hN hSc, List.forall_mem_cons.mpr ⟨q9ru_ko7 hT hN hSc, List.forall_mem_cons.mpr ⟨q9ru_kog0 hT hN hSc, List.forall_mem_cons.mpr ⟨q9ru_kog1 hT hN hSc, List.forall_mem_cons.mpr ⟨q9ru_kog2 hT hN hSc, List.forall_mem_cons.mpr ⟨q9ru_kog3 hT hN hSc, List.forall_mem_cons.mpr ⟨q9ru_kog4 hT hN hSc, List.forall_mem_cons.mpr ⟨q9ru_kog5 hT hN hSc, List.forall_mem_cons.mpr ⟨q9ru_kog6 hT hN hSc, List.forall_mem_cons.mpr ⟨q9ru_kog7 hT hN hSc, fun _ h => absurd h List.not_mem_nil⟩⟩⟩⟩⟩⟩⟩⟩⟩⟩⟩⟩⟩⟩⟩⟩⟩⟩⟩⟩⟩⟩⟩⟩⟩⟩⟩⟩⟩⟩⟩⟩⟩⟩⟩⟩⟩⟩⟩⟩
end RUL
