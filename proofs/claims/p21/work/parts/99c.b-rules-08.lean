section RUL
variable {T : Int → Int} {N P : Int} {J : Int → Int} {t0 : Int} {Sc : Int → Int}
theorem q9ru_ez9 (hT : ∀ i, 0 ≤ T i ∧ T i ≤ 255) (hN : 0 ≤ N ∧ N ≤ 400) (hSc : 0 ≤ Sc 1 ∧ Sc 1 ≤ 400 → N = Sc 1) : q9ruOK (fO T N P J t0 Sc) q9R_ez9 := by
  intro w w0 hA hX hL hV hR
  obtain ⟨x0, ae0, -, -⟩ := hA 0 0 rfl
  obtain ⟨x1, ae1, -, -⟩ := hA 1 0 rfl
  obtain ⟨x2, ae2, -, -⟩ := hA 2 0 rfl
  obtain ⟨x3, ae3, -, -⟩ := hA 3 0 rfl
  obtain ⟨x4, ae4, -, -⟩ := hA 4 0 rfl
  have kz : (0 : Int32).toInt = 0 := rfl
  have k1 : (Int32.ofInt 1).toInt = 1 := q9oI_toInt (by decide)
  have k97 : (Int32.ofInt 97).toInt = 97 := q9oI_toInt (by decide)
  have k122 : (Int32.ofInt 122).toInt = 122 := q9oI_toInt (by decide)
  have X0 := q9th_pX (T := T) (N := N) (P := P) (J := J) (t0 := t0) (Sc := Sc) (op := 1002) (q9evS ae0) (q9evZ w0) (q9evS ae1) (hX _ (List.mem_of_getElem? (i := 0) rfl)) (by decide)
  rw [q9FF_1002] at X0
  have H0 := Option.some.inj X0
  try simp only [kz, k1, k97, k122] at H0
  have X1 := q9th_pX (T := T) (N := N) (P := P) (J := J) (t0 := t0) (Sc := Sc) (op := 1000) (q9evS ae1) (q9evZ w0) (q9evS ae2) (hX _ (List.mem_of_getElem? (i := 1) rfl)) (by decide)
  rw [q9FF_1000] at X1
  have H1 := Option.some.inj X1
  try simp only [kz, k1, k97, k122] at H1
  have L0 : (Int32.ofInt 97).toInt ≤ x2.toInt + 0 := q9pC (q9evC w0 97) (q9evS ae2) (hL _ (List.mem_of_getElem? (i := 0) rfl))
  have L1 : x2.toInt ≤ (Int32.ofInt 122).toInt + 0 := q9pC (q9evS ae2) (q9evC w0 122) (hL _ (List.mem_of_getElem? (i := 1) rfl))
  have X2 := q9th_pX (T := T) (N := N) (P := P) (J := J) (t0 := t0) (Sc := Sc) (op := 1109) (q9evS ae1) (q9evZ w0) (q9evS ae3) (hX _ (List.mem_of_getElem? (i := 2) rfl)) (by decide)
  rw [q9FF_1109] at X2
  have H2 := Option.some.inj X2
  try simp only [kz, k1, k97, k122] at H2
  have L2 : (Int32.ofInt 1).toInt ≤ x3.toInt + 0 := q9pC (q9evC w0 1) (q9evS ae3) (hL _ (List.mem_of_getElem? (i := 2) rfl))
  have X3 := q9th_pX (T := T) (N := N) (P := P) (J := J) (t0 := t0) (Sc := Sc) (op := 1003) (q9evS ae1) (q9evZ w0) (q9evS ae4) (hX _ (List.mem_of_getElem? (i := 3) rfl)) (by decide)
  rw [q9FF_1003] at X3
  have H3 := Option.some.inj X3
  try simp only [kz, k1, k97, k122] at H3
  have L3 : (0 : Int32).toInt ≤ x0.toInt + 0 := q9pC (q9evZ w0) (q9evS ae0) (hL _ (List.mem_of_getElem? (i := 3) rfl))
  have tk : q9tk13 T N x0.toInt = (0, x4.toInt) := by unfold q9tk13; rw [H0, if_pos (by omega)]; exact q9tkW_0 (t := 9) (by decide) H0 (by have h9 : q9wsI T N 9 x1.toInt = x3.toInt := H2; omega) H3
  have rg0 : (0 : Int) ≤ 0 ∧ (0 : Int) ≤ 0 := by omega
  obtain ⟨x5, nt5⟩ : ∃ x : Int32, x.toInt = 0 := ⟨Int32.ofInt (0), q9oI_toInt (by omega)⟩
  have u_ : q9upN w 6 [.int x5] 0 = .int 0 := q9upN_of (by decide) w0
  have u0 : q9upN w 6 [.int x5] 1 = .int x0 := q9upN_of (by decide) ae0
  have u1 : q9upN w 6 [.int x5] 2 = .int x1 := q9upN_of (by decide) ae1
  have u2 : q9upN w 6 [.int x5] 3 = .int x2 := q9upN_of (by decide) ae2
  have u3 : q9upN w 6 [.int x5] 4 = .int x3 := q9upN_of (by decide) ae3
  have u4 : q9upN w 6 [.int x5] 5 = .int x4 := q9upN_of (by decide) ae4
  have u5 : q9upN w 6 [.int x5] 6 = .int x5 := q9upN_at (by decide)
  refine ⟨[.int x5], fun i9 p9 hq9 => ?_, List.forall_mem_cons.mpr ⟨?_, fun _ h => absurd h List.not_mem_nil⟩, fun _ h => absurd h List.not_mem_nil⟩
  · match i9, hq9 with
    | 0, hq9 =>
      have hp9 : ((1226, (1, 0), (0, 0), (0, 0, 0)) : Nat × q9AV × q9AV × q9ET) = p9 := Option.some.inj hq9
      subst hp9
      exact ⟨⟨x5, rfl, by rw [nt5]; exact rg0.1, by rw [nt5]; exact rg0.2⟩, (q9th_tX (T := T) (N := N) (P := P) (J := J) (t0 := t0) (Sc := Sc) (q9evS u0) (q9evZ u_) (q9evS u5) (by rw [q9FF_1226, nt5]; exact (show some (q9tk13 T N x0.toInt).1 = _ by rw [tk])) (by decide)).trans (congrArg some (q9evS u5))⟩
    | k9 + 1, hq9 => exact nomatch (show (none : Option (Nat × q9AV × q9AV × q9ET)) = some p9 from hq9)
  · exact q9th_tX (T := T) (N := N) (P := P) (J := J) (t0 := t0) (Sc := Sc) (q9evS u0) (q9evZ u_) (q9evS u4) (by rw [q9FF_1227]; exact (show some (q9tk13 T N x0.toInt).2 = _ by rw [tk])) (by decide)
theorem q9ru_ez10 (hT : ∀ i, 0 ≤ T i ∧ T i ≤ 255) (hN : 0 ≤ N ∧ N ≤ 400) (hSc : 0 ≤ Sc 1 ∧ Sc 1 ≤ 400 → N = Sc 1) : q9ruOK (fO T N P J t0 Sc) q9R_ez10 := by
  intro w w0 hA hX hL hV hR
  obtain ⟨x0, ae0, -, -⟩ := hA 0 0 rfl
  obtain ⟨x1, ae1, -, -⟩ := hA 1 0 rfl
  obtain ⟨x2, ae2, -, -⟩ := hA 2 0 rfl
  obtain ⟨x3, ae3, -, -⟩ := hA 3 0 rfl
  obtain ⟨x4, ae4, -, -⟩ := hA 4 0 rfl
  have kz : (0 : Int32).toInt = 0 := rfl
  have k1 : (Int32.ofInt 1).toInt = 1 := q9oI_toInt (by decide)
  have k97 : (Int32.ofInt 97).toInt = 97 := q9oI_toInt (by decide)
  have k122 : (Int32.ofInt 122).toInt = 122 := q9oI_toInt (by decide)
  have X0 := q9th_pX (T := T) (N := N) (P := P) (J := J) (t0 := t0) (Sc := Sc) (op := 1002) (q9evS ae0) (q9evZ w0) (q9evS ae1) (hX _ (List.mem_of_getElem? (i := 0) rfl)) (by decide)
  rw [q9FF_1002] at X0
  have H0 := Option.some.inj X0
  try simp only [kz, k1, k97, k122] at H0
  have X1 := q9th_pX (T := T) (N := N) (P := P) (J := J) (t0 := t0) (Sc := Sc) (op := 1000) (q9evS ae1) (q9evZ w0) (q9evS ae2) (hX _ (List.mem_of_getElem? (i := 1) rfl)) (by decide)
  rw [q9FF_1000] at X1
  have H1 := Option.some.inj X1
  try simp only [kz, k1, k97, k122] at H1
  have L0 : (Int32.ofInt 97).toInt ≤ x2.toInt + 0 := q9pC (q9evC w0 97) (q9evS ae2) (hL _ (List.mem_of_getElem? (i := 0) rfl))
  have L1 : x2.toInt ≤ (Int32.ofInt 122).toInt + 0 := q9pC (q9evS ae2) (q9evC w0 122) (hL _ (List.mem_of_getElem? (i := 1) rfl))
  have X2 := q9th_pX (T := T) (N := N) (P := P) (J := J) (t0 := t0) (Sc := Sc) (op := 1110) (q9evS ae1) (q9evZ w0) (q9evS ae3) (hX _ (List.mem_of_getElem? (i := 2) rfl)) (by decide)
  rw [q9FF_1110] at X2
  have H2 := Option.some.inj X2
  try simp only [kz, k1, k97, k122] at H2
  have L2 : (Int32.ofInt 1).toInt ≤ x3.toInt + 0 := q9pC (q9evC w0 1) (q9evS ae3) (hL _ (List.mem_of_getElem? (i := 2) rfl))
  have X3 := q9th_pX (T := T) (N := N) (P := P) (J := J) (t0 := t0) (Sc := Sc) (op := 1003) (q9evS ae1) (q9evZ w0) (q9evS ae4) (hX _ (List.mem_of_getElem? (i := 3) rfl)) (by decide)
  rw [q9FF_1003] at X3
  have H3 := Option.some.inj X3
  try simp only [kz, k1, k97, k122] at H3
  have L3 : (0 : Int32).toInt ≤ x0.toInt + 0 := q9pC (q9evZ w0) (q9evS ae0) (hL _ (List.mem_of_getElem? (i := 3) rfl))
  have tk : q9tk13 T N x0.toInt = (0, x4.toInt) := by unfold q9tk13; rw [H0, if_pos (by omega)]; exact q9tkW_0 (t := 10) (by decide) H0 (by have h9 : q9wsI T N 10 x1.toInt = x3.toInt := H2; omega) H3
  have rg0 : (0 : Int) ≤ 0 ∧ (0 : Int) ≤ 0 := by omega
  obtain ⟨x5, nt5⟩ : ∃ x : Int32, x.toInt = 0 := ⟨Int32.ofInt (0), q9oI_toInt (by omega)⟩
  have u_ : q9upN w 6 [.int x5] 0 = .int 0 := q9upN_of (by decide) w0
  have u0 : q9upN w 6 [.int x5] 1 = .int x0 := q9upN_of (by decide) ae0
  have u1 : q9upN w 6 [.int x5] 2 = .int x1 := q9upN_of (by decide) ae1
  have u2 : q9upN w 6 [.int x5] 3 = .int x2 := q9upN_of (by decide) ae2
  have u3 : q9upN w 6 [.int x5] 4 = .int x3 := q9upN_of (by decide) ae3
  have u4 : q9upN w 6 [.int x5] 5 = .int x4 := q9upN_of (by decide) ae4
  have u5 : q9upN w 6 [.int x5] 6 = .int x5 := q9upN_at (by decide)
  refine ⟨[.int x5], fun i9 p9 hq9 => ?_, List.forall_mem_cons.mpr ⟨?_, fun _ h => absurd h List.not_mem_nil⟩, fun _ h => absurd h List.not_mem_nil⟩
  · match i9, hq9 with
    | 0, hq9 =>
      have hp9 : ((1226, (1, 0), (0, 0), (0, 0, 0)) : Nat × q9AV × q9AV × q9ET) = p9 := Option.some.inj hq9
      subst hp9
      exact ⟨⟨x5, rfl, by rw [nt5]; exact rg0.1, by rw [nt5]; exact rg0.2⟩, (q9th_tX (T := T) (N := N) (P := P) (J := J) (t0 := t0) (Sc := Sc) (q9evS u0) (q9evZ u_) (q9evS u5) (by rw [q9FF_1226, nt5]; exact (show some (q9tk13 T N x0.toInt).1 = _ by rw [tk])) (by decide)).trans (congrArg some (q9evS u5))⟩
    | k9 + 1, hq9 => exact nomatch (show (none : Option (Nat × q9AV × q9AV × q9ET)) = some p9 from hq9)
  · exact q9th_tX (T := T) (N := N) (P := P) (J := J) (t0 := t0) (Sc := Sc) (q9evS u0) (q9evZ u_) (q9evS u4) (by rw [q9FF_1227]; exact (show some (q9tk13 T N x0.toInt).2 = _ by rw [tk])) (by decide)
theorem q9ru_ez11 (hT : ∀ i, 0 ≤ T i ∧ T i ≤ 255) (hN : 0 ≤ N ∧ N ≤ 400) (hSc : 0 ≤ Sc 1 ∧ Sc 1 ≤ 400 → N = Sc 1) : q9ruOK (fO T N P J t0 Sc) q9R_ez11 := by
  intro w w0 hA hX hL hV hR
  obtain ⟨x0, ae0, -, -⟩ := hA 0 0 rfl
  obtain ⟨x1, ae1, -, -⟩ := hA 1 0 rfl
  obtain ⟨x2, ae2, -, -⟩ := hA 2 0 rfl
  obtain ⟨x3, ae3, -, -⟩ := hA 3 0 rfl
  obtain ⟨x4, ae4, -, -⟩ := hA 4 0 rfl
  have kz : (0 : Int32).toInt = 0 := rfl
  have k1 : (Int32.ofInt 1).toInt = 1 := q9oI_toInt (by decide)
  have k97 : (Int32.ofInt 97).toInt = 97 := q9oI_toInt (by decide)
  have k122 : (Int32.ofInt 122).toInt = 122 := q9oI_toInt (by decide)
  have X0 := q9th_pX (T := T) (N := N) (P := P) (J := J) (t0 := t0) (Sc := Sc) (op := 1002) (q9evS ae0) (q9evZ w0) (q9evS ae1) (hX _ (List.mem_of_getElem? (i := 0) rfl)) (by decide)
  rw [q9FF_1002] at X0
  have H0 := Option.some.inj X0
  try simp only [kz, k1, k97, k122] at H0
  have X1 := q9th_pX (T := T) (N := N) (P := P) (J := J) (t0 := t0) (Sc := Sc) (op := 1000) (q9evS ae1) (q9evZ w0) (q9evS ae2) (hX _ (List.mem_of_getElem? (i := 1) rfl)) (by decide)
  rw [q9FF_1000] at X1
  have H1 := Option.some.inj X1
  try simp only [kz, k1, k97, k122] at H1
  have L0 : (Int32.ofInt 97).toInt ≤ x2.toInt + 0 := q9pC (q9evC w0 97) (q9evS ae2) (hL _ (List.mem_of_getElem? (i := 0) rfl))
  have L1 : x2.toInt ≤ (Int32.ofInt 122).toInt + 0 := q9pC (q9evS ae2) (q9evC w0 122) (hL _ (List.mem_of_getElem? (i := 1) rfl))
  have X2 := q9th_pX (T := T) (N := N) (P := P) (J := J) (t0 := t0) (Sc := Sc) (op := 1111) (q9evS ae1) (q9evZ w0) (q9evS ae3) (hX _ (List.mem_of_getElem? (i := 2) rfl)) (by decide)
  rw [q9FF_1111] at X2
  have H2 := Option.some.inj X2
  try simp only [kz, k1, k97, k122] at H2
  have L2 : (Int32.ofInt 1).toInt ≤ x3.toInt + 0 := q9pC (q9evC w0 1) (q9evS ae3) (hL _ (List.mem_of_getElem? (i := 2) rfl))
  have X3 := q9th_pX (T := T) (N := N) (P := P) (J := J) (t0 := t0) (Sc := Sc) (op := 1003) (q9evS ae1) (q9evZ w0) (q9evS ae4) (hX _ (List.mem_of_getElem? (i := 3) rfl)) (by decide)
  rw [q9FF_1003] at X3
  have H3 := Option.some.inj X3
  try simp only [kz, k1, k97, k122] at H3
  have L3 : (0 : Int32).toInt ≤ x0.toInt + 0 := q9pC (q9evZ w0) (q9evS ae0) (hL _ (List.mem_of_getElem? (i := 3) rfl))
  have tk : q9tk13 T N x0.toInt = (0, x4.toInt) := by unfold q9tk13; rw [H0, if_pos (by omega)]; exact q9tkW_0 (t := 11) (by decide) H0 (by have h9 : q9wsI T N 11 x1.toInt = x3.toInt := H2; omega) H3
  have rg0 : (0 : Int) ≤ 0 ∧ (0 : Int) ≤ 0 := by omega
  obtain ⟨x5, nt5⟩ : ∃ x : Int32, x.toInt = 0 := ⟨Int32.ofInt (0), q9oI_toInt (by omega)⟩
  have u_ : q9upN w 6 [.int x5] 0 = .int 0 := q9upN_of (by decide) w0
  have u0 : q9upN w 6 [.int x5] 1 = .int x0 := q9upN_of (by decide) ae0
  have u1 : q9upN w 6 [.int x5] 2 = .int x1 := q9upN_of (by decide) ae1
  have u2 : q9upN w 6 [.int x5] 3 = .int x2 := q9upN_of (by decide) ae2
  have u3 : q9upN w 6 [.int x5] 4 = .int x3 := q9upN_of (by decide) ae3
  have u4 : q9upN w 6 [.int x5] 5 = .int x4 := q9upN_of (by decide) ae4
  have u5 : q9upN w 6 [.int x5] 6 = .int x5 := q9upN_at (by decide)
  refine ⟨[.int x5], fun i9 p9 hq9 => ?_, List.forall_mem_cons.mpr ⟨?_, fun _ h => absurd h List.not_mem_nil⟩, fun _ h => absurd h List.not_mem_nil⟩
  · match i9, hq9 with
    | 0, hq9 =>
      have hp9 : ((1226, (1, 0), (0, 0), (0, 0, 0)) : Nat × q9AV × q9AV × q9ET) = p9 := Option.some.inj hq9
      subst hp9
      exact ⟨⟨x5, rfl, by rw [nt5]; exact rg0.1, by rw [nt5]; exact rg0.2⟩, (q9th_tX (T := T) (N := N) (P := P) (J := J) (t0 := t0) (Sc := Sc) (q9evS u0) (q9evZ u_) (q9evS u5) (by rw [q9FF_1226, nt5]; exact (show some (q9tk13 T N x0.toInt).1 = _ by rw [tk])) (by decide)).trans (congrArg some (q9evS u5))⟩
    | k9 + 1, hq9 => exact nomatch (show (none : Option (Nat × q9AV × q9AV × q9ET)) = some p9 from hq9)
  · exact q9th_tX (T := T) (N := N) (P := P) (J := J) (t0 := t0) (Sc := Sc) (q9evS u0) (q9evZ u_) (q9evS u4) (by rw [q9FF_1227]; exact (show some (q9tk13 T N x0.toInt).2 = _ by rw [tk])) (by decide)
theorem q9ru_ez12 (hT : ∀ i, 0 ≤ T i ∧ T i ≤ 255) (hN : 0 ≤ N ∧ N ≤ 400) (hSc : 0 ≤ Sc 1 ∧ Sc 1 ≤ 400 → N = Sc 1) : q9ruOK (fO T N P J t0 Sc) q9R_ez12 := by
  intro w w0 hA hX hL hV hR
  obtain ⟨x0, ae0, -, -⟩ := hA 0 0 rfl
  obtain ⟨x1, ae1, -, -⟩ := hA 1 0 rfl
  obtain ⟨x2, ae2, -, -⟩ := hA 2 0 rfl
  obtain ⟨x3, ae3, -, -⟩ := hA 3 0 rfl
  obtain ⟨x4, ae4, -, -⟩ := hA 4 0 rfl
  have kz : (0 : Int32).toInt = 0 := rfl
  have k1 : (Int32.ofInt 1).toInt = 1 := q9oI_toInt (by decide)
  have k97 : (Int32.ofInt 97).toInt = 97 := q9oI_toInt (by decide)
  have k122 : (Int32.ofInt 122).toInt = 122 := q9oI_toInt (by decide)
  have X0 := q9th_pX (T := T) (N := N) (P := P) (J := J) (t0 := t0) (Sc := Sc) (op := 1002) (q9evS ae0) (q9evZ w0) (q9evS ae1) (hX _ (List.mem_of_getElem? (i := 0) rfl)) (by decide)
  rw [q9FF_1002] at X0
  have H0 := Option.some.inj X0
  try simp only [kz, k1, k97, k122] at H0
  have X1 := q9th_pX (T := T) (N := N) (P := P) (J := J) (t0 := t0) (Sc := Sc) (op := 1000) (q9evS ae1) (q9evZ w0) (q9evS ae2) (hX _ (List.mem_of_getElem? (i := 1) rfl)) (by decide)
  rw [q9FF_1000] at X1
  have H1 := Option.some.inj X1
  try simp only [kz, k1, k97, k122] at H1
  have L0 : (Int32.ofInt 97).toInt ≤ x2.toInt + 0 := q9pC (q9evC w0 97) (q9evS ae2) (hL _ (List.mem_of_getElem? (i := 0) rfl))
  have L1 : x2.toInt ≤ (Int32.ofInt 122).toInt + 0 := q9pC (q9evS ae2) (q9evC w0 122) (hL _ (List.mem_of_getElem? (i := 1) rfl))
  have X2 := q9th_pX (T := T) (N := N) (P := P) (J := J) (t0 := t0) (Sc := Sc) (op := 1112) (q9evS ae1) (q9evZ w0) (q9evS ae3) (hX _ (List.mem_of_getElem? (i := 2) rfl)) (by decide)
  rw [q9FF_1112] at X2
  have H2 := Option.some.inj X2
  try simp only [kz, k1, k97, k122] at H2
  have L2 : (Int32.ofInt 1).toInt ≤ x3.toInt + 0 := q9pC (q9evC w0 1) (q9evS ae3) (hL _ (List.mem_of_getElem? (i := 2) rfl))
  have X3 := q9th_pX (T := T) (N := N) (P := P) (J := J) (t0 := t0) (Sc := Sc) (op := 1003) (q9evS ae1) (q9evZ w0) (q9evS ae4) (hX _ (List.mem_of_getElem? (i := 3) rfl)) (by decide)
  rw [q9FF_1003] at X3
  have H3 := Option.some.inj X3
  try simp only [kz, k1, k97, k122] at H3
  have L3 : (0 : Int32).toInt ≤ x0.toInt + 0 := q9pC (q9evZ w0) (q9evS ae0) (hL _ (List.mem_of_getElem? (i := 3) rfl))
  have tk : q9tk13 T N x0.toInt = (0, x4.toInt) := by unfold q9tk13; rw [H0, if_pos (by omega)]; exact q9tkW_0 (t := 12) (by decide) H0 (by have h9 : q9wsI T N 12 x1.toInt = x3.toInt := H2; omega) H3
  have rg0 : (0 : Int) ≤ 0 ∧ (0 : Int) ≤ 0 := by omega
  obtain ⟨x5, nt5⟩ : ∃ x : Int32, x.toInt = 0 := ⟨Int32.ofInt (0), q9oI_toInt (by omega)⟩
  have u_ : q9upN w 6 [.int x5] 0 = .int 0 := q9upN_of (by decide) w0
  have u0 : q9upN w 6 [.int x5] 1 = .int x0 := q9upN_of (by decide) ae0
  have u1 : q9upN w 6 [.int x5] 2 = .int x1 := q9upN_of (by decide) ae1
  have u2 : q9upN w 6 [.int x5] 3 = .int x2 := q9upN_of (by decide) ae2
  have u3 : q9upN w 6 [.int x5] 4 = .int x3 := q9upN_of (by decide) ae3
  have u4 : q9upN w 6 [.int x5] 5 = .int x4 := q9upN_of (by decide) ae4
  have u5 : q9upN w 6 [.int x5] 6 = .int x5 := q9upN_at (by decide)
  refine ⟨[.int x5], fun i9 p9 hq9 => ?_, List.forall_mem_cons.mpr ⟨?_, fun _ h => absurd h List.not_mem_nil⟩, fun _ h => absurd h List.not_mem_nil⟩
  · match i9, hq9 with
    | 0, hq9 =>
      have hp9 : ((1226, (1, 0), (0, 0), (0, 0, 0)) : Nat × q9AV × q9AV × q9ET) = p9 := Option.some.inj hq9
      subst hp9
      exact ⟨⟨x5, rfl, by rw [nt5]; exact rg0.1, by rw [nt5]; exact rg0.2⟩, (q9th_tX (T := T) (N := N) (P := P) (J := J) (t0 := t0) (Sc := Sc) (q9evS u0) (q9evZ u_) (q9evS u5) (by rw [q9FF_1226, nt5]; exact (show some (q9tk13 T N x0.toInt).1 = _ by rw [tk])) (by decide)).trans (congrArg some (q9evS u5))⟩
    | k9 + 1, hq9 => exact nomatch (show (none : Option (Nat × q9AV × q9AV × q9ET)) = some p9 from hq9)
  · exact q9th_tX (T := T) (N := N) (P := P) (J := J) (t0 := t0) (Sc := Sc) (q9evS u0) (q9evZ u_) (q9evS u4) (by rw [q9FF_1227]; exact (show some (q9tk13 T N x0.toInt).2 = _ by rw [tk])) (by decide)
theorem q9ru_ezf (hT : ∀ i, 0 ≤ T i ∧ T i ≤ 255) (hN : 0 ≤ N ∧ N ≤ 400) (hSc : 0 ≤ Sc 1 ∧ Sc 1 ≤ 400 → N = Sc 1) : q9ruOK (fO T N P J t0 Sc) q9R_ezf := by
  intro w w0 hA hX hL hV hR
  obtain ⟨x0, ae0, -, -⟩ := hA 0 0 rfl
  obtain ⟨x1, ae1, -, -⟩ := hA 1 0 rfl
  obtain ⟨x2, ae2, -, -⟩ := hA 2 0 rfl
  obtain ⟨x3, ae3, -, -⟩ := hA 3 0 rfl
  obtain ⟨x4, ae4, -, -⟩ := hA 4 0 rfl
  obtain ⟨x5, ae5, -, -⟩ := hA 5 0 rfl
  obtain ⟨x6, ae6, -, -⟩ := hA 6 0 rfl
  have kz : (0 : Int32).toInt = 0 := rfl
  have k97 : (Int32.ofInt 97).toInt = 97 := q9oI_toInt (by decide)
  have k122 : (Int32.ofInt 122).toInt = 122 := q9oI_toInt (by decide)
  have X0 := q9th_pX (T := T) (N := N) (P := P) (J := J) (t0 := t0) (Sc := Sc) (op := 1002) (q9evS ae0) (q9evZ w0) (q9evS ae1) (hX _ (List.mem_of_getElem? (i := 0) rfl)) (by decide)
  rw [q9FF_1002] at X0
  have H0 := Option.some.inj X0
  try simp only [kz, k97, k122] at H0
  have X1 := q9th_pX (T := T) (N := N) (P := P) (J := J) (t0 := t0) (Sc := Sc) (op := 1000) (q9evS ae1) (q9evZ w0) (q9evS ae2) (hX _ (List.mem_of_getElem? (i := 1) rfl)) (by decide)
  rw [q9FF_1000] at X1
  have H1 := Option.some.inj X1
  try simp only [kz, k97, k122] at H1
  have L0 : (Int32.ofInt 97).toInt ≤ x2.toInt + 0 := q9pC (q9evC w0 97) (q9evS ae2) (hL _ (List.mem_of_getElem? (i := 0) rfl))
  have L1 : x2.toInt ≤ (Int32.ofInt 122).toInt + 0 := q9pC (q9evS ae2) (q9evC w0 122) (hL _ (List.mem_of_getElem? (i := 1) rfl))
  have L2 : (0 : Int32).toInt ≤ x0.toInt + 0 := q9pC (q9evZ w0) (q9evS ae0) (hL _ (List.mem_of_getElem? (i := 2) rfl))
  have X2 := q9th_pX (T := T) (N := N) (P := P) (J := J) (t0 := t0) (Sc := Sc) (op := 1109) (q9evS ae1) (q9evZ w0) (q9evS ae3) (hX _ (List.mem_of_getElem? (i := 2) rfl)) (by decide)
  rw [q9FF_1109] at X2
  have H2 := Option.some.inj X2
  try simp only [kz, k97, k122] at H2
  have L3 : x3.toInt ≤ (0 : Int32).toInt + 0 := q9pC (q9evS ae3) (q9evZ w0) (hL _ (List.mem_of_getElem? (i := 3) rfl))
  have X3 := q9th_pX (T := T) (N := N) (P := P) (J := J) (t0 := t0) (Sc := Sc) (op := 1110) (q9evS ae1) (q9evZ w0) (q9evS ae4) (hX _ (List.mem_of_getElem? (i := 3) rfl)) (by decide)
  rw [q9FF_1110] at X3
  have H3 := Option.some.inj X3
  try simp only [kz, k97, k122] at H3
  have L4 : x4.toInt ≤ (0 : Int32).toInt + 0 := q9pC (q9evS ae4) (q9evZ w0) (hL _ (List.mem_of_getElem? (i := 4) rfl))
  have X4 := q9th_pX (T := T) (N := N) (P := P) (J := J) (t0 := t0) (Sc := Sc) (op := 1111) (q9evS ae1) (q9evZ w0) (q9evS ae5) (hX _ (List.mem_of_getElem? (i := 4) rfl)) (by decide)
  rw [q9FF_1111] at X4
  have H4 := Option.some.inj X4
  try simp only [kz, k97, k122] at H4
  have L5 : x5.toInt ≤ (0 : Int32).toInt + 0 := q9pC (q9evS ae5) (q9evZ w0) (hL _ (List.mem_of_getElem? (i := 5) rfl))
  have X5 := q9th_pX (T := T) (N := N) (P := P) (J := J) (t0 := t0) (Sc := Sc) (op := 1112) (q9evS ae1) (q9evZ w0) (q9evS ae6) (hX _ (List.mem_of_getElem? (i := 5) rfl)) (by decide)
  rw [q9FF_1112] at X5
  have H5 := Option.some.inj X5
  try simp only [kz, k97, k122] at H5
  have L6 : x6.toInt ≤ (0 : Int32).toInt + 0 := q9pC (q9evS ae6) (q9evZ w0) (hL _ (List.mem_of_getElem? (i := 6) rfl))
  have tk : q9tk13 T N x0.toInt = (1, x1.toInt) := by unfold q9tk13; rw [H0, if_pos (by omega)]; exact q9tkW_1 H0 (List.forall_mem_cons.mpr ⟨by have h9 : q9wsI T N 9 x1.toInt = x3.toInt := H2; omega, List.forall_mem_cons.mpr ⟨by have h9 : q9wsI T N 10 x1.toInt = x4.toInt := H3; omega, List.forall_mem_cons.mpr ⟨by have h9 : q9wsI T N 11 x1.toInt = x5.toInt := H4; omega, List.forall_mem_cons.mpr ⟨by have h9 : q9wsI T N 12 x1.toInt = x6.toInt := H5; omega, fun _ h => absurd h List.not_mem_nil⟩⟩⟩⟩)
  have rg0 : (1 : Int) ≤ 1 ∧ (1 : Int) ≤ 1 := by omega
  obtain ⟨x7, nt7⟩ : ∃ x : Int32, x.toInt = 1 := ⟨Int32.ofInt (1), q9oI_toInt (by omega)⟩
  have u_ : q9upN w 8 [.int x7] 0 = .int 0 := q9upN_of (by decide) w0
  have u0 : q9upN w 8 [.int x7] 1 = .int x0 := q9upN_of (by decide) ae0
  have u1 : q9upN w 8 [.int x7] 2 = .int x1 := q9upN_of (by decide) ae1
  have u2 : q9upN w 8 [.int x7] 3 = .int x2 := q9upN_of (by decide) ae2
  have u3 : q9upN w 8 [.int x7] 4 = .int x3 := q9upN_of (by decide) ae3
  have u4 : q9upN w 8 [.int x7] 5 = .int x4 := q9upN_of (by decide) ae4
  have u5 : q9upN w 8 [.int x7] 6 = .int x5 := q9upN_of (by decide) ae5
  have u6 : q9upN w 8 [.int x7] 7 = .int x6 := q9upN_of (by decide) ae6
  have u7 : q9upN w 8 [.int x7] 8 = .int x7 := q9upN_at (by decide)
  refine ⟨[.int x7], fun i9 p9 hq9 => ?_, List.forall_mem_cons.mpr ⟨?_, fun _ h => absurd h List.not_mem_nil⟩, fun _ h => absurd h List.not_mem_nil⟩
  · match i9, hq9 with
    | 0, hq9 =>
      have hp9 : ((1226, (1, 0), (0, 0), (0, 1, 1)) : Nat × q9AV × q9AV × q9ET) = p9 := Option.some.inj hq9
      subst hp9
      exact ⟨⟨x7, rfl, by rw [nt7]; exact rg0.1, by rw [nt7]; exact rg0.2⟩, (q9th_tX (T := T) (N := N) (P := P) (J := J) (t0 := t0) (Sc := Sc) (q9evS u0) (q9evZ u_) (q9evS u7) (by rw [q9FF_1226, nt7]; exact (show some (q9tk13 T N x0.toInt).1 = _ by rw [tk])) (by decide)).trans (congrArg some (q9evS u7))⟩
    | k9 + 1, hq9 => exact nomatch (show (none : Option (Nat × q9AV × q9AV × q9ET)) = some p9 from hq9)
  · exact q9th_tX (T := T) (N := N) (P := P) (J := J) (t0 := t0) (Sc := Sc) (q9evS u0) (q9evZ u_) (q9evS u1) (by rw [q9FF_1227]; exact (show some (q9tk13 T N x0.toInt).2 = _ by rw [tk])) (by decide)
theorem q9ru_sp2 (hT : ∀ i, 0 ≤ T i ∧ T i ≤ 255) (hN : 0 ≤ N ∧ N ≤ 400) (hSc : 0 ≤ Sc 1 ∧ Sc 1 ≤ 400 → N = Sc 1) : q9ruOK (fO T N P J t0 Sc) q9R_sp2 := by
  intro w w0 hA hX hL hV hR
  obtain ⟨x0, ae0, -, -⟩ := hA 0 0 rfl
  obtain ⟨x1, ae1, -, -⟩ := hA 1 0 rfl
  have kz : (0 : Int32).toInt = 0 := rfl
  have X0 := q9th_pX (T := T) (N := N) (P := P) (J := J) (t0 := t0) (Sc := Sc) (op := 1002) (q9evS ae0) (q9evZ w0) (q9evS ae1) (hX _ (List.mem_of_getElem? (i := 0) rfl)) (by decide)
  rw [q9FF_1002] at X0
  have H0 := Option.some.inj X0
  try simp only [kz] at H0
  have L0 : (0 : Int32).toInt ≤ x0.toInt + 0 := q9pC (q9evZ w0) (q9evS ae0) (hL _ (List.mem_of_getElem? (i := 0) rfl))
  have u_ : q9upN w 3 [] 0 = .int 0 := q9upN_of (by decide) w0
  have u0 : q9upN w 3 [] 1 = .int x0 := q9upN_of (by decide) ae0
  have u1 : q9upN w 3 [] 2 = .int x1 := q9upN_of (by decide) ae1
  refine ⟨[], fun i9 p9 hq9 => ?_, List.forall_mem_cons.mpr ⟨?_, fun _ h => absurd h List.not_mem_nil⟩, fun _ h => absurd h List.not_mem_nil⟩
  · exact nomatch (show (none : Option (Nat × q9AV × q9AV × q9ET)) = some p9 from hq9)
  · exact q9th_tX (T := T) (N := N) (P := P) (J := J) (t0 := t0) (Sc := Sc) (q9evS u1) (q9evZ u_) (q9evS u1) (by rw [q9FF_1002]; exact (by rw [← H0, q9sp_sp])) (by decide)
theorem q9ru_mi1 (hT : ∀ i, 0 ≤ T i ∧ T i ≤ 255) (hN : 0 ≤ N ∧ N ≤ 400) (hSc : 0 ≤ Sc 1 ∧ Sc 1 ≤ 400 → N = Sc 1) : q9ruOK (fO T N P J t0 Sc) q9R_mi1 := by
  intro w w0 hA hX hL hV hR
  obtain ⟨x0, ae0, -, -⟩ := hA 0 0 rfl
  obtain ⟨x1, ae1, -, -⟩ := hA 1 0 rfl
  obtain ⟨x2, ae2, -, -⟩ := hA 2 0 rfl
  obtain ⟨x3, ae3, -, -⟩ := hA 3 0 rfl
  have kz : (0 : Int32).toInt = 0 := rfl
  have k1 : (Int32.ofInt 1).toInt = 1 := q9oI_toInt (by decide)
  have k45 : (Int32.ofInt 45).toInt = 45 := q9oI_toInt (by decide)
  have X0 := q9th_pX (T := T) (N := N) (P := P) (J := J) (t0 := t0) (Sc := Sc) (op := 1002) (q9evS ae0) (q9evZ w0) (q9evS ae1) (hX _ (List.mem_of_getElem? (i := 0) rfl)) (by decide)
  rw [q9FF_1002] at X0
  have H0 := Option.some.inj X0
  try simp only [kz, k1, k45] at H0
  have X1 := q9th_pX (T := T) (N := N) (P := P) (J := J) (t0 := t0) (Sc := Sc) (op := 1009) (q9evS ae1) (q9evC w0 45) (q9evS ae2) (hX _ (List.mem_of_getElem? (i := 1) rfl)) (by decide)
  rw [q9FF_1009] at X1
  have H1 := Option.some.inj X1
  try simp only [kz, k1, k45] at H1
  have L0 : (Int32.ofInt 1).toInt ≤ x2.toInt + 0 := q9pC (q9evC w0 1) (q9evS ae2) (hL _ (List.mem_of_getElem? (i := 0) rfl))
  have L1 : (0 : Int32).toInt ≤ x0.toInt + 0 := q9pC (q9evZ w0) (q9evS ae0) (hL _ (List.mem_of_getElem? (i := 1) rfl))
  have L2 : x3.toInt ≤ x1.toInt + 1 := q9pC (q9evS ae3) (q9evS ae1) (hL _ (List.mem_of_getElem? (i := 2) rfl))
  have L3 : x1.toInt ≤ x3.toInt + (-1) := q9pC (q9evS ae1) (q9evS ae3) (hL _ (List.mem_of_getElem? (i := 3) rfl))
  have hb := q9is_1 H1 (by omega)
  have tk : q9tk14 T N x0.toInt = (0, x3.toInt) := by unfold q9tk14; rw [H0, if_pos hb, show x1.toInt + 1 = x3.toInt by omega]
  have rg0 : (0 : Int) ≤ 0 ∧ (0 : Int) ≤ 0 := by omega
  obtain ⟨x4, nt4⟩ : ∃ x : Int32, x.toInt = 0 := ⟨Int32.ofInt (0), q9oI_toInt (by omega)⟩
  have u_ : q9upN w 5 [.int x4] 0 = .int 0 := q9upN_of (by decide) w0
  have u0 : q9upN w 5 [.int x4] 1 = .int x0 := q9upN_of (by decide) ae0
  have u1 : q9upN w 5 [.int x4] 2 = .int x1 := q9upN_of (by decide) ae1
  have u2 : q9upN w 5 [.int x4] 3 = .int x2 := q9upN_of (by decide) ae2
  have u3 : q9upN w 5 [.int x4] 4 = .int x3 := q9upN_of (by decide) ae3
  have u4 : q9upN w 5 [.int x4] 5 = .int x4 := q9upN_at (by decide)
  refine ⟨[.int x4], fun i9 p9 hq9 => ?_, List.forall_mem_cons.mpr ⟨?_, fun _ h => absurd h List.not_mem_nil⟩, fun _ h => absurd h List.not_mem_nil⟩
  · match i9, hq9 with
    | 0, hq9 =>
      have hp9 : ((1228, (1, 0), (0, 0), (0, 0, 0)) : Nat × q9AV × q9AV × q9ET) = p9 := Option.some.inj hq9
      subst hp9
      exact ⟨⟨x4, rfl, by rw [nt4]; exact rg0.1, by rw [nt4]; exact rg0.2⟩, (q9th_tX (T := T) (N := N) (P := P) (J := J) (t0 := t0) (Sc := Sc) (q9evS u0) (q9evZ u_) (q9evS u4) (by rw [q9FF_1228, nt4]; exact (show some (q9tk14 T N x0.toInt).1 = _ by rw [tk])) (by decide)).trans (congrArg some (q9evS u4))⟩
    | k9 + 1, hq9 => exact nomatch (show (none : Option (Nat × q9AV × q9AV × q9ET)) = some p9 from hq9)
  · exact q9th_tX (T := T) (N := N) (P := P) (J := J) (t0 := t0) (Sc := Sc) (q9evS u0) (q9evZ u_) (q9evS u3) (by rw [q9FF_1229]; exact (show some (q9tk14 T N x0.toInt).2 = _ by rw [tk])) (by decide)
theorem q9ru_mi0 (hT : ∀ i, 0 ≤ T i ∧ T i ≤ 255) (hN : 0 ≤ N ∧ N ≤ 400) (hSc : 0 ≤ Sc 1 ∧ Sc 1 ≤ 400 → N = Sc 1) : q9ruOK (fO T N P J t0 Sc) q9R_mi0 := by
  intro w w0 hA hX hL hV hR
  obtain ⟨x0, ae0, -, -⟩ := hA 0 0 rfl
  obtain ⟨x1, ae1, -, -⟩ := hA 1 0 rfl
  obtain ⟨x2, ae2, -, -⟩ := hA 2 0 rfl
  have kz : (0 : Int32).toInt = 0 := rfl
  have k45 : (Int32.ofInt 45).toInt = 45 := q9oI_toInt (by decide)
  have X0 := q9th_pX (T := T) (N := N) (P := P) (J := J) (t0 := t0) (Sc := Sc) (op := 1002) (q9evS ae0) (q9evZ w0) (q9evS ae1) (hX _ (List.mem_of_getElem? (i := 0) rfl)) (by decide)
  rw [q9FF_1002] at X0
  have H0 := Option.some.inj X0
  try simp only [kz, k45] at H0
  have X1 := q9th_pX (T := T) (N := N) (P := P) (J := J) (t0 := t0) (Sc := Sc) (op := 1009) (q9evS ae1) (q9evC w0 45) (q9evS ae2) (hX _ (List.mem_of_getElem? (i := 1) rfl)) (by decide)
  rw [q9FF_1009] at X1
  have H1 := Option.some.inj X1
  try simp only [kz, k45] at H1
  have L0 : x2.toInt ≤ (0 : Int32).toInt + 0 := q9pC (q9evS ae2) (q9evZ w0) (hL _ (List.mem_of_getElem? (i := 0) rfl))
  have L1 : (0 : Int32).toInt ≤ x0.toInt + 0 := q9pC (q9evZ w0) (q9evS ae0) (hL _ (List.mem_of_getElem? (i := 1) rfl))
  have hb := q9is_0 H1 (by omega)
  have tk : q9tk14 T N x0.toInt = (0, x1.toInt) := by unfold q9tk14; rw [H0, if_neg hb]
  have rg0 : (0 : Int) ≤ 0 ∧ (0 : Int) ≤ 0 := by omega
  obtain ⟨x3, nt3⟩ : ∃ x : Int32, x.toInt = 0 := ⟨Int32.ofInt (0), q9oI_toInt (by omega)⟩
  have u_ : q9upN w 4 [.int x3] 0 = .int 0 := q9upN_of (by decide) w0
  have u0 : q9upN w 4 [.int x3] 1 = .int x0 := q9upN_of (by decide) ae0
  have u1 : q9upN w 4 [.int x3] 2 = .int x1 := q9upN_of (by decide) ae1
  have u2 : q9upN w 4 [.int x3] 3 = .int x2 := q9upN_of (by decide) ae2
  have u3 : q9upN w 4 [.int x3] 4 = .int x3 := q9upN_at (by decide)
  refine ⟨[.int x3], fun i9 p9 hq9 => ?_, List.forall_mem_cons.mpr ⟨?_, fun _ h => absurd h List.not_mem_nil⟩, fun _ h => absurd h List.not_mem_nil⟩
  · match i9, hq9 with
    | 0, hq9 =>
      have hp9 : ((1228, (1, 0), (0, 0), (0, 0, 0)) : Nat × q9AV × q9AV × q9ET) = p9 := Option.some.inj hq9
      subst hp9
      exact ⟨⟨x3, rfl, by rw [nt3]; exact rg0.1, by rw [nt3]; exact rg0.2⟩, (q9th_tX (T := T) (N := N) (P := P) (J := J) (t0 := t0) (Sc := Sc) (q9evS u0) (q9evZ u_) (q9evS u3) (by rw [q9FF_1228, nt3]; exact (show some (q9tk14 T N x0.toInt).1 = _ by rw [tk])) (by decide)).trans (congrArg some (q9evS u3))⟩
    | k9 + 1, hq9 => exact nomatch (show (none : Option (Nat × q9AV × q9AV × q9ET)) = some p9 from hq9)
  · exact q9th_tX (T := T) (N := N) (P := P) (J := J) (t0 := t0) (Sc := Sc) (q9evS u0) (q9evZ u_) (q9evS u1) (by rw [q9FF_1229]; exact (show some (q9tk14 T N x0.toInt).2 = _ by rw [tk])) (by decide)
theorem q9ru_am (hT : ∀ i, 0 ≤ T i ∧ T i ≤ 255) (hN : 0 ≤ N ∧ N ≤ 400) (hSc : 0 ≤ Sc 1 ∧ Sc 1 ≤ 400 → N = Sc 1) : q9ruOK (fO T N P J t0 Sc) q9R_am := by
  intro w w0 hA hX hL hV hR
  obtain ⟨x0, ae0, -, -⟩ := hA 0 0 rfl
  obtain ⟨x1, ae1, -, -⟩ := hA 1 0 rfl
  obtain ⟨x2, ae2, -, -⟩ := hA 2 0 rfl
  obtain ⟨x3, ae3, -, -⟩ := hA 3 0 rfl
  obtain ⟨x4, ae4, -, -⟩ := hA 4 0 rfl
  obtain ⟨x5, ae5, -, -⟩ := hA 5 0 rfl
  obtain ⟨x6, ae6, -, -⟩ := hA 6 0 rfl
  obtain ⟨x7, ae7, -, -⟩ := hA 7 0 rfl
  have kz : (0 : Int32).toInt = 0 := rfl
  have k46 : (Int32.ofInt 46).toInt = 46 := q9oI_toInt (by decide)
  have X0 := q9th_pX (T := T) (N := N) (P := P) (J := J) (t0 := t0) (Sc := Sc) (op := 1002) (q9evS ae0) (q9evZ w0) (q9evS ae1) (hX _ (List.mem_of_getElem? (i := 0) rfl)) (by decide)
  rw [q9FF_1002] at X0
  have H0 := Option.some.inj X0
  try simp only [kz, k46] at H0
  have X1 := q9th_pX (T := T) (N := N) (P := P) (J := J) (t0 := t0) (Sc := Sc) (op := 1005) (q9evS ae1) (q9evZ w0) (q9evS ae2) (hX _ (List.mem_of_getElem? (i := 1) rfl)) (by decide)
  rw [q9FF_1005] at X1
  have H1 := Option.some.inj X1
  try simp only [kz, k46] at H1
  have L0 : (0 : Int32).toInt ≤ x0.toInt + 0 := q9pC (q9evZ w0) (q9evS ae0) (hL _ (List.mem_of_getElem? (i := 0) rfl))
  have X2 := q9th_pX (T := T) (N := N) (P := P) (J := J) (t0 := t0) (Sc := Sc) (op := 1213) (q9evS ae0) (q9evZ w0) (q9evS ae3) (hX _ (List.mem_of_getElem? (i := 2) rfl)) (by decide)
  rw [q9FF_1213] at X2
  have H2 := Option.some.inj X2
  try simp only [kz, k46] at H2
  have X3 := q9th_pX (T := T) (N := N) (P := P) (J := J) (t0 := t0) (Sc := Sc) (op := 1241) (q9evS ae3) (q9evC w0 46) (q9evS ae4) (hX _ (List.mem_of_getElem? (i := 3) rfl)) (by decide)
  rw [q9FF_1241] at X3
  have H3 := Option.some.inj X3
  try simp only [kz, k46] at H3
  have X4 := q9th_pX (T := T) (N := N) (P := P) (J := J) (t0 := t0) (Sc := Sc) (op := 1215) (q9evS ae4) (q9evS ae2) (q9evS ae5) (hX _ (List.mem_of_getElem? (i := 4) rfl)) (by decide)
  rw [q9FF_1215] at X4
  have H4 := Option.some.inj X4
  try simp only [kz, k46] at H4
  have X5 := q9th_pX (T := T) (N := N) (P := P) (J := J) (t0 := t0) (Sc := Sc) (op := 1229) (q9evS ae5) (q9evZ w0) (q9evS ae6) (hX _ (List.mem_of_getElem? (i := 5) rfl)) (by decide)
  rw [q9FF_1229] at X5
  have H5 := Option.some.inj X5
  try simp only [kz, k46] at H5
  have X6 := q9th_pX (T := T) (N := N) (P := P) (J := J) (t0 := t0) (Sc := Sc) (op := 1211) (q9evS ae6) (q9evZ w0) (q9evS ae7) (hX _ (List.mem_of_getElem? (i := 6) rfl)) (by decide)
  rw [q9FF_1211] at X6
  have H6 := Option.some.inj X6
  try simp only [kz, k46] at H6
  have V0 := q9pV (T := T) (N := N) (P := P) (J := J) (t0 := t0) (Sc := Sc) (op := 1212) (n := 0) (q9evS ae0) (q9evZ w0) (hV _ (List.mem_of_getElem? (i := 0) rfl)) (by decide)
  rw [q9FF_1212] at V0
  have K0 := Option.some.inj V0
  try simp only [kz, k46] at K0
  have V1 := q9pV (T := T) (N := N) (P := P) (J := J) (t0 := t0) (Sc := Sc) (op := 1240) (n := 0) (q9evS ae3) (q9evC w0 46) (hV _ (List.mem_of_getElem? (i := 1) rfl)) (by decide)
  rw [q9FF_1240] at V1
  have K1 := Option.some.inj V1
  try simp only [kz, k46] at K1
  have V2 := q9pV (T := T) (N := N) (P := P) (J := J) (t0 := t0) (Sc := Sc) (op := 1214) (n := 0) (q9evS ae4) (q9evS ae2) (hV _ (List.mem_of_getElem? (i := 2) rfl)) (by decide)
  rw [q9FF_1214] at V2
  have K2 := Option.some.inj V2
  try simp only [kz, k46] at K2
  have V3 := q9pV (T := T) (N := N) (P := P) (J := J) (t0 := t0) (Sc := Sc) (op := 1228) (n := 0) (q9evS ae5) (q9evZ w0) (hV _ (List.mem_of_getElem? (i := 3) rfl)) (by decide)
  rw [q9FF_1228] at V3
  have K3 := Option.some.inj V3
  try simp only [kz, k46] at K3
  have V4 := q9pV (T := T) (N := N) (P := P) (J := J) (t0 := t0) (Sc := Sc) (op := 1210) (n := 0) (q9evS ae6) (q9evZ w0) (hV _ (List.mem_of_getElem? (i := 4) rfl)) (by decide)
  rw [q9FF_1210] at V4
  have K4 := Option.some.inj V4
  try simp only [kz, k46] at K4
  have hw : q9nvI T N (q9spI T N x0.toInt) 0 = x2.toInt := by rw [H0]; exact H1
  have g0 : (q9tkN T N 0 (P - 1) x0.toInt).2 = x3.toInt := H2
  have g1 : (q9tkS T N 46 x3.toInt).2 = x4.toInt := H3
  have g2 : (q9tkN T N 0 (J (q9nvI T N (q9spI T N x0.toInt) 0) - 1) x4.toInt).2 = x5.toInt := (by rw [hw]; exact H4)
  have g3 : (q9tk14 T N x5.toInt).2 = x6.toInt := H5
  have g4 : (q9tkN T N 0 32 x6.toInt).2 = x7.toInt := H6
  have f0 : (q9tkN T N 0 (P - 1) x0.toInt).1 = 0 := K0
  have f1 : (q9tkS T N 46 x3.toInt).1 = 0 := K1
  have f2 : (q9tkN T N 0 (J (q9nvI T N (q9spI T N x0.toInt) 0) - 1) x4.toInt).1 = 0 := (by rw [hw]; exact K2)
  have f3 : (q9tk14 T N x5.toInt).1 = 0 := K3
  have f4 : (q9tkN T N 0 32 x6.toInt).1 = 0 := K4
  have tk : q9aimI T N P J x0.toInt = (0, x7.toInt) := by show q9tkR (q9aimL T N P J x0.toInt) x0.toInt = _; unfold q9aimL; rw [q9tkR_c f0 g0, q9tkR_c f1 g1, q9tkR_c f2 g2, q9tkR_c f3 g3, q9tkR_c f4 g4]; rfl
  have n0 := q9tkN_lt (T := T) (N := N) f0
  have n1 := q9tkS_lt (T := T) (N := N) f1
  have n2 := q9tkN_lt (T := T) (N := N) f2
  have n3 := (q9tk14_G (T := T) (N := N) x5.toInt).1
  have n4 := q9tkN_lt (T := T) (N := N) f4
  rw [g0] at n0
  rw [g1] at n1
  rw [g2] at n2
  rw [g3] at n3
  rw [g4] at n4
  have rg0 : (0 : Int) ≤ 0 ∧ (0 : Int) ≤ 0 := by omega
  obtain ⟨x8, nt8⟩ : ∃ x : Int32, x.toInt = 0 := ⟨Int32.ofInt (0), q9oI_toInt (by omega)⟩
  have u_ : q9upN w 9 [.int x8] 0 = .int 0 := q9upN_of (by decide) w0
  have u0 : q9upN w 9 [.int x8] 1 = .int x0 := q9upN_of (by decide) ae0
  have u1 : q9upN w 9 [.int x8] 2 = .int x1 := q9upN_of (by decide) ae1
  have u2 : q9upN w 9 [.int x8] 3 = .int x2 := q9upN_of (by decide) ae2
  have u3 : q9upN w 9 [.int x8] 4 = .int x3 := q9upN_of (by decide) ae3
  have u4 : q9upN w 9 [.int x8] 5 = .int x4 := q9upN_of (by decide) ae4
  have u5 : q9upN w 9 [.int x8] 6 = .int x5 := q9upN_of (by decide) ae5
  have u6 : q9upN w 9 [.int x8] 7 = .int x6 := q9upN_of (by decide) ae6
  have u7 : q9upN w 9 [.int x8] 8 = .int x7 := q9upN_of (by decide) ae7
  have u8 : q9upN w 9 [.int x8] 9 = .int x8 := q9upN_at (by decide)
  refine ⟨[.int x8], fun i9 p9 hq9 => ?_, List.forall_mem_cons.mpr ⟨?_, fun _ h => absurd h List.not_mem_nil⟩, List.forall_mem_cons.mpr ⟨?_, fun _ h => absurd h List.not_mem_nil⟩⟩
  · match i9, hq9 with
    | 0, hq9 =>
      have hp9 : ((1272, (1, 0), (0, 0), (0, 0, 0)) : Nat × q9AV × q9AV × q9ET) = p9 := Option.some.inj hq9
      subst hp9
      exact ⟨⟨x8, rfl, by rw [nt8]; exact rg0.1, by rw [nt8]; exact rg0.2⟩, (q9th_tX (T := T) (N := N) (P := P) (J := J) (t0 := t0) (Sc := Sc) (q9evS u0) (q9evZ u_) (q9evS u8) (by rw [q9FF_1272, nt8]; exact (show some (q9aimI T N P J x0.toInt).1 = _ by rw [tk])) (by decide)).trans (congrArg some (q9evS u8))⟩
    | k9 + 1, hq9 => exact nomatch (show (none : Option (Nat × q9AV × q9AV × q9ET)) = some p9 from hq9)
  · exact q9th_tX (T := T) (N := N) (P := P) (J := J) (t0 := t0) (Sc := Sc) (q9evS u0) (q9evZ u_) (q9evS u7) (by rw [q9FF_1273]; exact (show some (q9aimI T N P J x0.toInt).2 = _ by rw [tk])) (by decide)
  · exact q9th_tC (d := (-4)) (q9evS u0) (q9evS u7) (by omega)
theorem q9ru_af2 (hT : ∀ i, 0 ≤ T i ∧ T i ≤ 255) (hN : 0 ≤ N ∧ N ≤ 400) (hSc : 0 ≤ Sc 1 ∧ Sc 1 ≤ 400 → N = Sc 1) : q9ruOK (fO T N P J t0 Sc) q9R_af2 := by
  intro w w0 hA hX hL hV hR
  obtain ⟨x0, ae0, -, -⟩ := hA 0 0 rfl
  obtain ⟨x1, ae1, -, -⟩ := hA 1 0 rfl
  obtain ⟨x2, ae2, -, -⟩ := hA 2 0 rfl
  obtain ⟨x3, ae3, -, -⟩ := hA 3 0 rfl
  obtain ⟨x4, ae4, -, -⟩ := hA 4 0 rfl
  obtain ⟨x5, ae5, -, -⟩ := hA 5 0 rfl
  obtain ⟨x6, ae6, -, -⟩ := hA 6 0 rfl
  have kz : (0 : Int32).toInt = 0 := rfl
  have k1 : (Int32.ofInt 1).toInt = 1 := q9oI_toInt (by decide)
  have k46 : (Int32.ofInt 46).toInt = 46 := q9oI_toInt (by decide)
  have X0 := q9th_pX (T := T) (N := N) (P := P) (J := J) (t0 := t0) (Sc := Sc) (op := 1002) (q9evS ae0) (q9evZ w0) (q9evS ae1) (hX _ (List.mem_of_getElem? (i := 0) rfl)) (by decide)
  rw [q9FF_1002] at X0
  have H0 := Option.some.inj X0
  try simp only [kz, k1, k46] at H0
  have X1 := q9th_pX (T := T) (N := N) (P := P) (J := J) (t0 := t0) (Sc := Sc) (op := 1005) (q9evS ae1) (q9evZ w0) (q9evS ae2) (hX _ (List.mem_of_getElem? (i := 1) rfl)) (by decide)
  rw [q9FF_1005] at X1
  have H1 := Option.some.inj X1
  try simp only [kz, k1, k46] at H1
  have L0 : (0 : Int32).toInt ≤ x0.toInt + 0 := q9pC (q9evZ w0) (q9evS ae0) (hL _ (List.mem_of_getElem? (i := 0) rfl))
  have X2 := q9th_pX (T := T) (N := N) (P := P) (J := J) (t0 := t0) (Sc := Sc) (op := 1213) (q9evS ae0) (q9evZ w0) (q9evS ae3) (hX _ (List.mem_of_getElem? (i := 2) rfl)) (by decide)
  rw [q9FF_1213] at X2
  have H2 := Option.some.inj X2
  try simp only [kz, k1, k46] at H2
  have X3 := q9th_pX (T := T) (N := N) (P := P) (J := J) (t0 := t0) (Sc := Sc) (op := 1241) (q9evS ae3) (q9evC w0 46) (q9evS ae4) (hX _ (List.mem_of_getElem? (i := 3) rfl)) (by decide)
  rw [q9FF_1241] at X3
  have H3 := Option.some.inj X3
  try simp only [kz, k1, k46] at H3
  have V0 := q9pV (T := T) (N := N) (P := P) (J := J) (t0 := t0) (Sc := Sc) (op := 1212) (n := 0) (q9evS ae0) (q9evZ w0) (hV _ (List.mem_of_getElem? (i := 0) rfl)) (by decide)
  rw [q9FF_1212] at V0
  have K0 := Option.some.inj V0
  try simp only [kz, k1, k46] at K0
  have V1 := q9pV (T := T) (N := N) (P := P) (J := J) (t0 := t0) (Sc := Sc) (op := 1240) (n := 0) (q9evS ae3) (q9evC w0 46) (hV _ (List.mem_of_getElem? (i := 1) rfl)) (by decide)
  rw [q9FF_1240] at V1
  have K1 := Option.some.inj V1
  try simp only [kz, k1, k46] at K1
  have X4 := q9th_pX (T := T) (N := N) (P := P) (J := J) (t0 := t0) (Sc := Sc) (op := 1215) (q9evS ae4) (q9evS ae2) (q9evS ae5) (hX _ (List.mem_of_getElem? (i := 4) rfl)) (by decide)
  rw [q9FF_1215] at X4
  have H4 := Option.some.inj X4
  try simp only [kz, k1, k46] at H4
  have X5 := q9th_pX (T := T) (N := N) (P := P) (J := J) (t0 := t0) (Sc := Sc) (op := 1214) (q9evS ae4) (q9evS ae2) (q9evS ae6) (hX _ (List.mem_of_getElem? (i := 5) rfl)) (by decide)
  rw [q9FF_1214] at X5
  have H5 := Option.some.inj X5
  try simp only [kz, k1, k46] at H5
  have L1 : (Int32.ofInt 1).toInt ≤ x6.toInt + 0 := q9pC (q9evC w0 1) (q9evS ae6) (hL _ (List.mem_of_getElem? (i := 1) rfl))
  have hw : q9nvI T N (q9spI T N x0.toInt) 0 = x2.toInt := by rw [H0]; exact H1
  have g0 : (q9tkN T N 0 (P - 1) x0.toInt).2 = x3.toInt := H2
  have g1 : (q9tkS T N 46 x3.toInt).2 = x4.toInt := H3
  have g2 : (q9tkN T N 0 (J (q9nvI T N (q9spI T N x0.toInt) 0) - 1) x4.toInt).2 = x5.toInt := (by rw [hw]; exact H4)
  have f2 : (q9tkN T N 0 (J (q9nvI T N (q9spI T N x0.toInt) 0) - 1) x4.toInt).1 = x6.toInt := (by rw [hw]; exact H5)
  have f0 : (q9tkN T N 0 (P - 1) x0.toInt).1 = 0 := K0
  have f1 : (q9tkS T N 46 x3.toInt).1 = 0 := K1
  have tk : q9aimI T N P J x0.toInt = q9tkN T N 0 (J (q9nvI T N (q9spI T N x0.toInt) 0) - 1) x4.toInt := by show q9tkR (q9aimL T N P J x0.toInt) x0.toInt = _; unfold q9aimL; rw [q9tkR_c f0 g0, q9tkR_c f1 g1, q9tkR_f (by omega)]
  have u_ : q9upN w 8 [] 0 = .int 0 := q9upN_of (by decide) w0
  have u0 : q9upN w 8 [] 1 = .int x0 := q9upN_of (by decide) ae0
  have u1 : q9upN w 8 [] 2 = .int x1 := q9upN_of (by decide) ae1
  have u2 : q9upN w 8 [] 3 = .int x2 := q9upN_of (by decide) ae2
  have u3 : q9upN w 8 [] 4 = .int x3 := q9upN_of (by decide) ae3
  have u4 : q9upN w 8 [] 5 = .int x4 := q9upN_of (by decide) ae4
  have u5 : q9upN w 8 [] 6 = .int x5 := q9upN_of (by decide) ae5
  have u6 : q9upN w 8 [] 7 = .int x6 := q9upN_of (by decide) ae6
  refine ⟨[], fun i9 p9 hq9 => ?_, List.forall_mem_cons.mpr ⟨?_, List.forall_mem_cons.mpr ⟨?_, fun _ h => absurd h List.not_mem_nil⟩⟩, fun _ h => absurd h List.not_mem_nil⟩
  · exact nomatch (show (none : Option (Nat × q9AV × q9AV × q9ET)) = some p9 from hq9)
  · exact q9th_tX (T := T) (N := N) (P := P) (J := J) (t0 := t0) (Sc := Sc) (q9evS u0) (q9evZ u_) (q9evS u6) (by rw [q9FF_1272]; exact (show some (q9aimI T N P J x0.toInt).1 = _ by rw [tk, f2])) (by decide)
  · exact q9th_tX (T := T) (N := N) (P := P) (J := J) (t0 := t0) (Sc := Sc) (q9evS u0) (q9evZ u_) (q9evS u5) (by rw [q9FF_1273]; exact (show some (q9aimI T N P J x0.toInt).2 = _ by rw [tk, g2])) (by decide)
theorem q9ru_af3 (hT : ∀ i, 0 ≤ T i ∧ T i ≤ 255) (hN : 0 ≤ N ∧ N ≤ 400) (hSc : 0 ≤ Sc 1 ∧ Sc 1 ≤ 400 → N = Sc 1) : q9ruOK (fO T N P J t0 Sc) q9R_af3 := by
  intro w w0 hA hX hL hV hR
  obtain ⟨x0, ae0, -, -⟩ := hA 0 0 rfl
  obtain ⟨x1, ae1, -, -⟩ := hA 1 0 rfl
  obtain ⟨x2, ae2, -, -⟩ := hA 2 0 rfl
  obtain ⟨x3, ae3, -, -⟩ := hA 3 0 rfl
  obtain ⟨x4, ae4, -, -⟩ := hA 4 0 rfl
  obtain ⟨x5, ae5, -, -⟩ := hA 5 0 rfl
  obtain ⟨x6, ae6, -, -⟩ := hA 6 0 rfl
  obtain ⟨x7, ae7, -, -⟩ := hA 7 0 rfl
  have kz : (0 : Int32).toInt = 0 := rfl
  have k1 : (Int32.ofInt 1).toInt = 1 := q9oI_toInt (by decide)
  have k46 : (Int32.ofInt 46).toInt = 46 := q9oI_toInt (by decide)
  have X0 := q9th_pX (T := T) (N := N) (P := P) (J := J) (t0 := t0) (Sc := Sc) (op := 1002) (q9evS ae0) (q9evZ w0) (q9evS ae1) (hX _ (List.mem_of_getElem? (i := 0) rfl)) (by decide)
  rw [q9FF_1002] at X0
  have H0 := Option.some.inj X0
  try simp only [kz, k1, k46] at H0
  have X1 := q9th_pX (T := T) (N := N) (P := P) (J := J) (t0 := t0) (Sc := Sc) (op := 1005) (q9evS ae1) (q9evZ w0) (q9evS ae2) (hX _ (List.mem_of_getElem? (i := 1) rfl)) (by decide)
  rw [q9FF_1005] at X1
  have H1 := Option.some.inj X1
  try simp only [kz, k1, k46] at H1
  have L0 : (0 : Int32).toInt ≤ x0.toInt + 0 := q9pC (q9evZ w0) (q9evS ae0) (hL _ (List.mem_of_getElem? (i := 0) rfl))
  have X2 := q9th_pX (T := T) (N := N) (P := P) (J := J) (t0 := t0) (Sc := Sc) (op := 1213) (q9evS ae0) (q9evZ w0) (q9evS ae3) (hX _ (List.mem_of_getElem? (i := 2) rfl)) (by decide)
  rw [q9FF_1213] at X2
  have H2 := Option.some.inj X2
  try simp only [kz, k1, k46] at H2
  have X3 := q9th_pX (T := T) (N := N) (P := P) (J := J) (t0 := t0) (Sc := Sc) (op := 1241) (q9evS ae3) (q9evC w0 46) (q9evS ae4) (hX _ (List.mem_of_getElem? (i := 3) rfl)) (by decide)
  rw [q9FF_1241] at X3
  have H3 := Option.some.inj X3
  try simp only [kz, k1, k46] at H3
  have X4 := q9th_pX (T := T) (N := N) (P := P) (J := J) (t0 := t0) (Sc := Sc) (op := 1215) (q9evS ae4) (q9evS ae2) (q9evS ae5) (hX _ (List.mem_of_getElem? (i := 4) rfl)) (by decide)
  rw [q9FF_1215] at X4
  have H4 := Option.some.inj X4
  try simp only [kz, k1, k46] at H4
  have V0 := q9pV (T := T) (N := N) (P := P) (J := J) (t0 := t0) (Sc := Sc) (op := 1212) (n := 0) (q9evS ae0) (q9evZ w0) (hV _ (List.mem_of_getElem? (i := 0) rfl)) (by decide)
  rw [q9FF_1212] at V0
  have K0 := Option.some.inj V0
  try simp only [kz, k1, k46] at K0
  have V1 := q9pV (T := T) (N := N) (P := P) (J := J) (t0 := t0) (Sc := Sc) (op := 1240) (n := 0) (q9evS ae3) (q9evC w0 46) (hV _ (List.mem_of_getElem? (i := 1) rfl)) (by decide)
  rw [q9FF_1240] at V1
  have K1 := Option.some.inj V1
  try simp only [kz, k1, k46] at K1
  have V2 := q9pV (T := T) (N := N) (P := P) (J := J) (t0 := t0) (Sc := Sc) (op := 1214) (n := 0) (q9evS ae4) (q9evS ae2) (hV _ (List.mem_of_getElem? (i := 2) rfl)) (by decide)
  rw [q9FF_1214] at V2
  have K2 := Option.some.inj V2
  try simp only [kz, k1, k46] at K2
  have X5 := q9th_pX (T := T) (N := N) (P := P) (J := J) (t0 := t0) (Sc := Sc) (op := 1229) (q9evS ae5) (q9evZ w0) (q9evS ae6) (hX _ (List.mem_of_getElem? (i := 5) rfl)) (by decide)
  rw [q9FF_1229] at X5
  have H5 := Option.some.inj X5
  try simp only [kz, k1, k46] at H5
  have X6 := q9th_pX (T := T) (N := N) (P := P) (J := J) (t0 := t0) (Sc := Sc) (op := 1228) (q9evS ae5) (q9evZ w0) (q9evS ae7) (hX _ (List.mem_of_getElem? (i := 6) rfl)) (by decide)
  rw [q9FF_1228] at X6
  have H6 := Option.some.inj X6
  try simp only [kz, k1, k46] at H6
  have L1 : (Int32.ofInt 1).toInt ≤ x7.toInt + 0 := q9pC (q9evC w0 1) (q9evS ae7) (hL _ (List.mem_of_getElem? (i := 1) rfl))
  have hw : q9nvI T N (q9spI T N x0.toInt) 0 = x2.toInt := by rw [H0]; exact H1
  have g0 : (q9tkN T N 0 (P - 1) x0.toInt).2 = x3.toInt := H2
  have g1 : (q9tkS T N 46 x3.toInt).2 = x4.toInt := H3
  have g2 : (q9tkN T N 0 (J (q9nvI T N (q9spI T N x0.toInt) 0) - 1) x4.toInt).2 = x5.toInt := (by rw [hw]; exact H4)
  have g3 : (q9tk14 T N x5.toInt).2 = x6.toInt := H5
  have f3 : (q9tk14 T N x5.toInt).1 = x7.toInt := H6
  have f0 : (q9tkN T N 0 (P - 1) x0.toInt).1 = 0 := K0
  have f1 : (q9tkS T N 46 x3.toInt).1 = 0 := K1
  have f2 : (q9tkN T N 0 (J (q9nvI T N (q9spI T N x0.toInt) 0) - 1) x4.toInt).1 = 0 := (by rw [hw]; exact K2)
  have tk : q9aimI T N P J x0.toInt = q9tk14 T N x5.toInt := by show q9tkR (q9aimL T N P J x0.toInt) x0.toInt = _; unfold q9aimL; rw [q9tkR_c f0 g0, q9tkR_c f1 g1, q9tkR_c f2 g2, q9tkR_f (by omega)]
  have u_ : q9upN w 9 [] 0 = .int 0 := q9upN_of (by decide) w0
  have u0 : q9upN w 9 [] 1 = .int x0 := q9upN_of (by decide) ae0
  have u1 : q9upN w 9 [] 2 = .int x1 := q9upN_of (by decide) ae1
  have u2 : q9upN w 9 [] 3 = .int x2 := q9upN_of (by decide) ae2
  have u3 : q9upN w 9 [] 4 = .int x3 := q9upN_of (by decide) ae3
  have u4 : q9upN w 9 [] 5 = .int x4 := q9upN_of (by decide) ae4
  have u5 : q9upN w 9 [] 6 = .int x5 := q9upN_of (by decide) ae5
  have u6 : q9upN w 9 [] 7 = .int x6 := q9upN_of (by decide) ae6
  have u7 : q9upN w 9 [] 8 = .int x7 := q9upN_of (by decide) ae7
  refine ⟨[], fun i9 p9 hq9 => ?_, List.forall_mem_cons.mpr ⟨?_, List.forall_mem_cons.mpr ⟨?_, fun _ h => absurd h List.not_mem_nil⟩⟩, fun _ h => absurd h List.not_mem_nil⟩
  · exact nomatch (show (none : Option (Nat × q9AV × q9AV × q9ET)) = some p9 from hq9)
  · exact q9th_tX (T := T) (N := N) (P := P) (J := J) (t0 := t0) (Sc := Sc) (q9evS u0) (q9evZ u_) (q9evS u7) (by rw [q9FF_1272]; exact (show some (q9aimI T N P J x0.toInt).1 = _ by rw [tk, f3])) (by decide)
  · exact q9th_tX (T := T) (N := N) (P := P) (J := J) (t0 := t0) (Sc := Sc) (q9evS u0) (q9evZ u_) (q9evS u6) (by rw [q9FF_1273]; exact (show some (q9aimI T N P J x0.toInt).2 = _ by rw [tk, g3])) (by decide)
theorem q9ru_af4 (hT : ∀ i, 0 ≤ T i ∧ T i ≤ 255) (hN : 0 ≤ N ∧ N ≤ 400) (hSc : 0 ≤ Sc 1 ∧ Sc 1 ≤ 400 → N = Sc 1) : q9ruOK (fO T N P J t0 Sc) q9R_af4 := by
  intro w w0 hA hX hL hV hR
  obtain ⟨x0, ae0, -, -⟩ := hA 0 0 rfl
  obtain ⟨x1, ae1, -, -⟩ := hA 1 0 rfl
  obtain ⟨x2, ae2, -, -⟩ := hA 2 0 rfl
  obtain ⟨x3, ae3, -, -⟩ := hA 3 0 rfl
  obtain ⟨x4, ae4, -, -⟩ := hA 4 0 rfl
  obtain ⟨x5, ae5, -, -⟩ := hA 5 0 rfl
  obtain ⟨x6, ae6, -, -⟩ := hA 6 0 rfl
  obtain ⟨x7, ae7, -, -⟩ := hA 7 0 rfl
  obtain ⟨x8, ae8, -, -⟩ := hA 8 0 rfl
  have kz : (0 : Int32).toInt = 0 := rfl
  have k1 : (Int32.ofInt 1).toInt = 1 := q9oI_toInt (by decide)
  have k46 : (Int32.ofInt 46).toInt = 46 := q9oI_toInt (by decide)
  have X0 := q9th_pX (T := T) (N := N) (P := P) (J := J) (t0 := t0) (Sc := Sc) (op := 1002) (q9evS ae0) (q9evZ w0) (q9evS ae1) (hX _ (List.mem_of_getElem? (i := 0) rfl)) (by decide)
  rw [q9FF_1002] at X0
  have H0 := Option.some.inj X0
  try simp only [kz, k1, k46] at H0
  have X1 := q9th_pX (T := T) (N := N) (P := P) (J := J) (t0 := t0) (Sc := Sc) (op := 1005) (q9evS ae1) (q9evZ w0) (q9evS ae2) (hX _ (List.mem_of_getElem? (i := 1) rfl)) (by decide)
  rw [q9FF_1005] at X1
  have H1 := Option.some.inj X1
  try simp only [kz, k1, k46] at H1
  have L0 : (0 : Int32).toInt ≤ x0.toInt + 0 := q9pC (q9evZ w0) (q9evS ae0) (hL _ (List.mem_of_getElem? (i := 0) rfl))
  have X2 := q9th_pX (T := T) (N := N) (P := P) (J := J) (t0 := t0) (Sc := Sc) (op := 1213) (q9evS ae0) (q9evZ w0) (q9evS ae3) (hX _ (List.mem_of_getElem? (i := 2) rfl)) (by decide)
  rw [q9FF_1213] at X2
  have H2 := Option.some.inj X2
  try simp only [kz, k1, k46] at H2
  have X3 := q9th_pX (T := T) (N := N) (P := P) (J := J) (t0 := t0) (Sc := Sc) (op := 1241) (q9evS ae3) (q9evC w0 46) (q9evS ae4) (hX _ (List.mem_of_getElem? (i := 3) rfl)) (by decide)
  rw [q9FF_1241] at X3
  have H3 := Option.some.inj X3
  try simp only [kz, k1, k46] at H3
  have X4 := q9th_pX (T := T) (N := N) (P := P) (J := J) (t0 := t0) (Sc := Sc) (op := 1215) (q9evS ae4) (q9evS ae2) (q9evS ae5) (hX _ (List.mem_of_getElem? (i := 4) rfl)) (by decide)
  rw [q9FF_1215] at X4
  have H4 := Option.some.inj X4
  try simp only [kz, k1, k46] at H4
  have X5 := q9th_pX (T := T) (N := N) (P := P) (J := J) (t0 := t0) (Sc := Sc) (op := 1229) (q9evS ae5) (q9evZ w0) (q9evS ae6) (hX _ (List.mem_of_getElem? (i := 5) rfl)) (by decide)
  rw [q9FF_1229] at X5
  have H5 := Option.some.inj X5
  try simp only [kz, k1, k46] at H5
  have V0 := q9pV (T := T) (N := N) (P := P) (J := J) (t0 := t0) (Sc := Sc) (op := 1212) (n := 0) (q9evS ae0) (q9evZ w0) (hV _ (List.mem_of_getElem? (i := 0) rfl)) (by decide)
  rw [q9FF_1212] at V0
  have K0 := Option.some.inj V0
  try simp only [kz, k1, k46] at K0
  have V1 := q9pV (T := T) (N := N) (P := P) (J := J) (t0 := t0) (Sc := Sc) (op := 1240) (n := 0) (q9evS ae3) (q9evC w0 46) (hV _ (List.mem_of_getElem? (i := 1) rfl)) (by decide)
  rw [q9FF_1240] at V1
  have K1 := Option.some.inj V1
  try simp only [kz, k1, k46] at K1
  have V2 := q9pV (T := T) (N := N) (P := P) (J := J) (t0 := t0) (Sc := Sc) (op := 1214) (n := 0) (q9evS ae4) (q9evS ae2) (hV _ (List.mem_of_getElem? (i := 2) rfl)) (by decide)
  rw [q9FF_1214] at V2
  have K2 := Option.some.inj V2
  try simp only [kz, k1, k46] at K2
  have V3 := q9pV (T := T) (N := N) (P := P) (J := J) (t0 := t0) (Sc := Sc) (op := 1228) (n := 0) (q9evS ae5) (q9evZ w0) (hV _ (List.mem_of_getElem? (i := 3) rfl)) (by decide)
  rw [q9FF_1228] at V3
  have K3 := Option.some.inj V3
  try simp only [kz, k1, k46] at K3
  have X6 := q9th_pX (T := T) (N := N) (P := P) (J := J) (t0 := t0) (Sc := Sc) (op := 1211) (q9evS ae6) (q9evZ w0) (q9evS ae7) (hX _ (List.mem_of_getElem? (i := 6) rfl)) (by decide)
  rw [q9FF_1211] at X6
  have H6 := Option.some.inj X6
  try simp only [kz, k1, k46] at H6
  have X7 := q9th_pX (T := T) (N := N) (P := P) (J := J) (t0 := t0) (Sc := Sc) (op := 1210) (q9evS ae6) (q9evZ w0) (q9evS ae8) (hX _ (List.mem_of_getElem? (i := 7) rfl)) (by decide)
  rw [q9FF_1210] at X7
  have H7 := Option.some.inj X7
  try simp only [kz, k1, k46] at H7
  have L1 : (Int32.ofInt 1).toInt ≤ x8.toInt + 0 := q9pC (q9evC w0 1) (q9evS ae8) (hL _ (List.mem_of_getElem? (i := 1) rfl))
  have hw : q9nvI T N (q9spI T N x0.toInt) 0 = x2.toInt := by rw [H0]; exact H1
  have g0 : (q9tkN T N 0 (P - 1) x0.toInt).2 = x3.toInt := H2
  have g1 : (q9tkS T N 46 x3.toInt).2 = x4.toInt := H3
  have g2 : (q9tkN T N 0 (J (q9nvI T N (q9spI T N x0.toInt) 0) - 1) x4.toInt).2 = x5.toInt := (by rw [hw]; exact H4)
  have g3 : (q9tk14 T N x5.toInt).2 = x6.toInt := H5
  have g4 : (q9tkN T N 0 32 x6.toInt).2 = x7.toInt := H6
  have f4 : (q9tkN T N 0 32 x6.toInt).1 = x8.toInt := H7
  have f0 : (q9tkN T N 0 (P - 1) x0.toInt).1 = 0 := K0
  have f1 : (q9tkS T N 46 x3.toInt).1 = 0 := K1
  have f2 : (q9tkN T N 0 (J (q9nvI T N (q9spI T N x0.toInt) 0) - 1) x4.toInt).1 = 0 := (by rw [hw]; exact K2)
  have f3 : (q9tk14 T N x5.toInt).1 = 0 := K3
  have tk : q9aimI T N P J x0.toInt = q9tkN T N 0 32 x6.toInt := by show q9tkR (q9aimL T N P J x0.toInt) x0.toInt = _; unfold q9aimL; rw [q9tkR_c f0 g0, q9tkR_c f1 g1, q9tkR_c f2 g2, q9tkR_c f3 g3, q9tkR_f (by omega)]
  have u_ : q9upN w 10 [] 0 = .int 0 := q9upN_of (by decide) w0
  have u0 : q9upN w 10 [] 1 = .int x0 := q9upN_of (by decide) ae0
  have u1 : q9upN w 10 [] 2 = .int x1 := q9upN_of (by decide) ae1
  have u2 : q9upN w 10 [] 3 = .int x2 := q9upN_of (by decide) ae2
  have u3 : q9upN w 10 [] 4 = .int x3 := q9upN_of (by decide) ae3
  have u4 : q9upN w 10 [] 5 = .int x4 := q9upN_of (by decide) ae4
  have u5 : q9upN w 10 [] 6 = .int x5 := q9upN_of (by decide) ae5
  have u6 : q9upN w 10 [] 7 = .int x6 := q9upN_of (by decide) ae6
  have u7 : q9upN w 10 [] 8 = .int x7 := q9upN_of (by decide) ae7
  have u8 : q9upN w 10 [] 9 = .int x8 := q9upN_of (by decide) ae8
  refine ⟨[], fun i9 p9 hq9 => ?_, List.forall_mem_cons.mpr ⟨?_, List.forall_mem_cons.mpr ⟨?_, fun _ h => absurd h List.not_mem_nil⟩⟩, fun _ h => absurd h List.not_mem_nil⟩
  · exact nomatch (show (none : Option (Nat × q9AV × q9AV × q9ET)) = some p9 from hq9)
  · exact q9th_tX (T := T) (N := N) (P := P) (J := J) (t0 := t0) (Sc := Sc) (q9evS u0) (q9evZ u_) (q9evS u8) (by rw [q9FF_1272]; exact (show some (q9aimI T N P J x0.toInt).1 = _ by rw [tk, f4])) (by decide)
  · exact q9th_tX (T := T) (N := N) (P := P) (J := J) (t0 := t0) (Sc := Sc) (q9evS u0) (q9evZ u_) (q9evS u7) (by rw [q9FF_1273]; exact (show some (q9aimI T N P J x0.toInt).2 = _ by rw [tk, g4])) (by decide)
theorem q9ru_af0 (hT : ∀ i, 0 ≤ T i ∧ T i ≤ 255) (hN : 0 ≤ N ∧ N ≤ 400) (hSc : 0 ≤ Sc 1 ∧ Sc 1 ≤ 400 → N = Sc 1) : q9ruOK (fO T N P J t0 Sc) q9R_af0 := by
  intro w w0 hA hX hL hV hR
  obtain ⟨x0, ae0, -, -⟩ := hA 0 0 rfl
  obtain ⟨x1, ae1, -, -⟩ := hA 1 0 rfl
  obtain ⟨x2, ae2, -, -⟩ := hA 2 0 rfl
  have kz : (0 : Int32).toInt = 0 := rfl
  have k1 : (Int32.ofInt 1).toInt = 1 := q9oI_toInt (by decide)
  have L0 : (0 : Int32).toInt ≤ x0.toInt + 0 := q9pC (q9evZ w0) (q9evS ae0) (hL _ (List.mem_of_getElem? (i := 0) rfl))
  have X0 := q9th_pX (T := T) (N := N) (P := P) (J := J) (t0 := t0) (Sc := Sc) (op := 1213) (q9evS ae0) (q9evZ w0) (q9evS ae1) (hX _ (List.mem_of_getElem? (i := 0) rfl)) (by decide)
  rw [q9FF_1213] at X0
  have H0 := Option.some.inj X0
  try simp only [kz, k1] at H0
  have X1 := q9th_pX (T := T) (N := N) (P := P) (J := J) (t0 := t0) (Sc := Sc) (op := 1212) (q9evS ae0) (q9evZ w0) (q9evS ae2) (hX _ (List.mem_of_getElem? (i := 1) rfl)) (by decide)
  rw [q9FF_1212] at X1
  have H1 := Option.some.inj X1
  try simp only [kz, k1] at H1
  have L1 : (Int32.ofInt 1).toInt ≤ x2.toInt + 0 := q9pC (q9evC w0 1) (q9evS ae2) (hL _ (List.mem_of_getElem? (i := 1) rfl))
  have g0 : (q9tkN T N 0 (P - 1) x0.toInt).2 = x1.toInt := H0
  have f0 : (q9tkN T N 0 (P - 1) x0.toInt).1 = x2.toInt := H1
  have tk : q9aimI T N P J x0.toInt = q9tkN T N 0 (P - 1) x0.toInt := by show q9tkR (q9aimL T N P J x0.toInt) x0.toInt = _; unfold q9aimL; rw [q9tkR_f (by omega)]
  have u_ : q9upN w 4 [] 0 = .int 0 := q9upN_of (by decide) w0
  have u0 : q9upN w 4 [] 1 = .int x0 := q9upN_of (by decide) ae0
  have u1 : q9upN w 4 [] 2 = .int x1 := q9upN_of (by decide) ae1
  have u2 : q9upN w 4 [] 3 = .int x2 := q9upN_of (by decide) ae2
  refine ⟨[], fun i9 p9 hq9 => ?_, List.forall_mem_cons.mpr ⟨?_, List.forall_mem_cons.mpr ⟨?_, fun _ h => absurd h List.not_mem_nil⟩⟩, fun _ h => absurd h List.not_mem_nil⟩
  · exact nomatch (show (none : Option (Nat × q9AV × q9AV × q9ET)) = some p9 from hq9)
  · exact q9th_tX (T := T) (N := N) (P := P) (J := J) (t0 := t0) (Sc := Sc) (q9evS u0) (q9evZ u_) (q9evS u2) (by rw [q9FF_1272]; exact (show some (q9aimI T N P J x0.toInt).1 = _ by rw [tk, f0])) (by decide)
  · exact q9th_tX (T := T) (N := N) (P := P) (J := J) (t0 := t0) (Sc := Sc) (q9evS u0) (q9evZ u_) (q9evS u1) (by rw [q9FF_1273]; exact (show some (q9aimI T N P J x0.toInt).2 = _ by rw [tk, g0])) (by decide)
theorem q9ru_af1 (hT : ∀ i, 0 ≤ T i ∧ T i ≤ 255) (hN : 0 ≤ N ∧ N ≤ 400) (hSc : 0 ≤ Sc 1 ∧ Sc 1 ≤ 400 → N = Sc 1) : q9ruOK (fO T N P J t0 Sc) q9R_af1 := by
  intro w w0 hA hX hL hV hR
  obtain ⟨x0, ae0, -, -⟩ := hA 0 0 rfl
  obtain ⟨x1, ae1, -, -⟩ := hA 1 0 rfl
  obtain ⟨x2, ae2, -, -⟩ := hA 2 0 rfl
  obtain ⟨x3, ae3, -, -⟩ := hA 3 0 rfl
  have kz : (0 : Int32).toInt = 0 := rfl
  have k1 : (Int32.ofInt 1).toInt = 1 := q9oI_toInt (by decide)
  have k46 : (Int32.ofInt 46).toInt = 46 := q9oI_toInt (by decide)
  have L0 : (0 : Int32).toInt ≤ x0.toInt + 0 := q9pC (q9evZ w0) (q9evS ae0) (hL _ (List.mem_of_getElem? (i := 0) rfl))
  have X0 := q9th_pX (T := T) (N := N) (P := P) (J := J) (t0 := t0) (Sc := Sc) (op := 1213) (q9evS ae0) (q9evZ w0) (q9evS ae1) (hX _ (List.mem_of_getElem? (i := 0) rfl)) (by decide)
  rw [q9FF_1213] at X0
  have H0 := Option.some.inj X0
  try simp only [kz, k1, k46] at H0
  have V0 := q9pV (T := T) (N := N) (P := P) (J := J) (t0 := t0) (Sc := Sc) (op := 1212) (n := 0) (q9evS ae0) (q9evZ w0) (hV _ (List.mem_of_getElem? (i := 0) rfl)) (by decide)
  rw [q9FF_1212] at V0
  have K0 := Option.some.inj V0
  try simp only [kz, k1, k46] at K0
  have X1 := q9th_pX (T := T) (N := N) (P := P) (J := J) (t0 := t0) (Sc := Sc) (op := 1241) (q9evS ae1) (q9evC w0 46) (q9evS ae2) (hX _ (List.mem_of_getElem? (i := 1) rfl)) (by decide)
  rw [q9FF_1241] at X1
  have H1 := Option.some.inj X1
  try simp only [kz, k1, k46] at H1
  have X2 := q9th_pX (T := T) (N := N) (P := P) (J := J) (t0 := t0) (Sc := Sc) (op := 1240) (q9evS ae1) (q9evC w0 46) (q9evS ae3) (hX _ (List.mem_of_getElem? (i := 2) rfl)) (by decide)
  rw [q9FF_1240] at X2
  have H2 := Option.some.inj X2
  try simp only [kz, k1, k46] at H2
  have L1 : (Int32.ofInt 1).toInt ≤ x3.toInt + 0 := q9pC (q9evC w0 1) (q9evS ae3) (hL _ (List.mem_of_getElem? (i := 1) rfl))
  have g0 : (q9tkN T N 0 (P - 1) x0.toInt).2 = x1.toInt := H0
  have g1 : (q9tkS T N 46 x1.toInt).2 = x2.toInt := H1
  have f1 : (q9tkS T N 46 x1.toInt).1 = x3.toInt := H2
  have f0 : (q9tkN T N 0 (P - 1) x0.toInt).1 = 0 := K0
  have tk : q9aimI T N P J x0.toInt = q9tkS T N 46 x1.toInt := by show q9tkR (q9aimL T N P J x0.toInt) x0.toInt = _; unfold q9aimL; rw [q9tkR_c f0 g0, q9tkR_f (by omega)]
  have u_ : q9upN w 5 [] 0 = .int 0 := q9upN_of (by decide) w0
  have u0 : q9upN w 5 [] 1 = .int x0 := q9upN_of (by decide) ae0
  have u1 : q9upN w 5 [] 2 = .int x1 := q9upN_of (by decide) ae1
  have u2 : q9upN w 5 [] 3 = .int x2 := q9upN_of (by decide) ae2
  have u3 : q9upN w 5 [] 4 = .int x3 := q9upN_of (by decide) ae3
  refine ⟨[], fun i9 p9 hq9 => ?_, List.forall_mem_cons.mpr ⟨?_, List.forall_mem_cons.mpr ⟨?_, fun _ h => absurd h List.not_mem_nil⟩⟩, fun _ h => absurd h List.not_mem_nil⟩
  · exact nomatch (show (none : Option (Nat × q9AV × q9AV × q9ET)) = some p9 from hq9)
  · exact q9th_tX (T := T) (N := N) (P := P) (J := J) (t0 := t0) (Sc := Sc) (q9evS u0) (q9evZ u_) (q9evS u3) (by rw [q9FF_1272]; exact (show some (q9aimI T N P J x0.toInt).1 = _ by rw [tk, f1])) (by decide)
  · exact q9th_tX (T := T) (N := N) (P := P) (J := J) (t0 := t0) (Sc := Sc) (q9evS u0) (q9evZ u_) (q9evS u2) (by rw [q9FF_1273]; exact (show some (q9aimI T N P J x0.toInt).2 = _ by rw [tk, g1])) (by decide)
theorem q9ru_as1 (hT : ∀ i, 0 ≤ T i ∧ T i ≤ 255) (hN : 0 ≤ N ∧ N ≤ 400) (hSc : 0 ≤ Sc 1 ∧ Sc 1 ≤ 400 → N = Sc 1) : q9ruOK (fO T N P J t0 Sc) q9R_as1 := by
  intro w w0 hA hX hL hV hR
  obtain ⟨x0, ae0, -, -⟩ := hA 0 0 rfl
  obtain ⟨x1, ae1, -, -⟩ := hA 1 0 rfl
  obtain ⟨x2, ae2, -, -⟩ := hA 2 0 rfl
  obtain ⟨x3, ae3, -, -⟩ := hA 3 0 rfl
  obtain ⟨x4, ae4, -, -⟩ := hA 4 0 rfl
  obtain ⟨x5, ae5, -, -⟩ := hA 5 0 rfl
  obtain ⟨x6, ae6, -, -⟩ := hA 6 0 rfl
  have kz : (0 : Int32).toInt = 0 := rfl
  have k1 : (Int32.ofInt 1).toInt = 1 := q9oI_toInt (by decide)
  have k44 : (Int32.ofInt 44).toInt = 44 := q9oI_toInt (by decide)
  have L0 : x6.toInt ≤ x2.toInt + 1 := q9pC (q9evS ae6) (q9evS ae2) (hL _ (List.mem_of_getElem? (i := 0) rfl))
  have L1 : x2.toInt ≤ x6.toInt + (-1) := q9pC (q9evS ae2) (q9evS ae6) (hL _ (List.mem_of_getElem? (i := 1) rfl))
  have V0 := q9pV (T := T) (N := N) (P := P) (J := J) (t0 := t0) (Sc := Sc) (op := 1272) (n := 0) (q9evS ae0) (q9evZ w0) (hV _ (List.mem_of_getElem? (i := 0) rfl)) (by decide)
  rw [q9FF_1272] at V0
  have K0 := Option.some.inj V0
  try simp only [kz, k1, k44] at K0
  have X0 := q9th_pX (T := T) (N := N) (P := P) (J := J) (t0 := t0) (Sc := Sc) (op := 1273) (q9evS ae0) (q9evZ w0) (q9evS ae1) (hX _ (List.mem_of_getElem? (i := 0) rfl)) (by decide)
  rw [q9FF_1273] at X0
  have H0 := Option.some.inj X0
  try simp only [kz, k1, k44] at H0
  have X1 := q9th_pX (T := T) (N := N) (P := P) (J := J) (t0 := t0) (Sc := Sc) (op := 1002) (q9evS ae1) (q9evZ w0) (q9evS ae2) (hX _ (List.mem_of_getElem? (i := 1) rfl)) (by decide)
  rw [q9FF_1002] at X1
  have H1 := Option.some.inj X1
  try simp only [kz, k1, k44] at H1
  have X2 := q9th_pX (T := T) (N := N) (P := P) (J := J) (t0 := t0) (Sc := Sc) (op := 1009) (q9evS ae2) (q9evC w0 44) (q9evS ae3) (hX _ (List.mem_of_getElem? (i := 2) rfl)) (by decide)
  rw [q9FF_1009] at X2
  have H2 := Option.some.inj X2
  try simp only [kz, k1, k44] at H2
  have L2 : (Int32.ofInt 1).toInt ≤ x3.toInt + 0 := q9pC (q9evC w0 1) (q9evS ae3) (hL _ (List.mem_of_getElem? (i := 2) rfl))
  have L3 : (0 : Int32).toInt ≤ x0.toInt + 0 := q9pC (q9evZ w0) (q9evS ae0) (hL _ (List.mem_of_getElem? (i := 3) rfl))
  have L4 : (0 : Int32).toInt ≤ x2.toInt + 0 := q9pC (q9evZ w0) (q9evS ae2) (hL _ (List.mem_of_getElem? (i := 4) rfl))
  have X3 := q9th_pX (T := T) (N := N) (P := P) (J := J) (t0 := t0) (Sc := Sc) (op := 1270) (q9evS ae0) (q9evZ w0) (q9evS ae4) (hX _ (List.mem_of_getElem? (i := 3) rfl)) (by decide)
  rw [q9FF_1270] at X3
  have H3 := Option.some.inj X3
  try simp only [kz, k1, k44] at H3
  have X4 := q9th_pX (T := T) (N := N) (P := P) (J := J) (t0 := t0) (Sc := Sc) (op := 1271) (q9evS ae0) (q9evZ w0) (q9evS ae5) (hX _ (List.mem_of_getElem? (i := 4) rfl)) (by decide)
  rw [q9FF_1271] at X4
  have H4 := Option.some.inj X4
  try simp only [kz, k1, k44] at H4
  have q1 : (q9aimI T N P J x0.toInt).2 = x1.toInt := H0
  have q2 : (q9aimI T N P J x0.toInt).1 = 0 := K0
  have q3 : q9spI T N x1.toInt = x2.toInt := H1
  have hb := q9is_1 H2 (by omega)
  have q4 : (q9tk35 T N P J x0.toInt).1 = x4.toInt := H3
  have q5 : (q9tk35 T N P J x0.toInt).2 = x5.toInt := H4
  have tk := q9tk35_1 (p := x2.toInt) q2 (by rw [q1, q3]) hb
  rw [show x2.toInt + 1 = x6.toInt by omega] at tk
  have u_ : q9upN w 8 [] 0 = .int 0 := q9upN_of (by decide) w0
  have u0 : q9upN w 8 [] 1 = .int x0 := q9upN_of (by decide) ae0
  have u1 : q9upN w 8 [] 2 = .int x1 := q9upN_of (by decide) ae1
  have u2 : q9upN w 8 [] 3 = .int x2 := q9upN_of (by decide) ae2
  have u3 : q9upN w 8 [] 4 = .int x3 := q9upN_of (by decide) ae3
  have u4 : q9upN w 8 [] 5 = .int x4 := q9upN_of (by decide) ae4
  have u5 : q9upN w 8 [] 6 = .int x5 := q9upN_of (by decide) ae5
  have u6 : q9upN w 8 [] 7 = .int x6 := q9upN_of (by decide) ae6
  refine ⟨[], fun i9 p9 hq9 => ?_, List.forall_mem_cons.mpr ⟨?_, List.forall_mem_cons.mpr ⟨?_, fun _ h => absurd h List.not_mem_nil⟩⟩, fun _ h => absurd h List.not_mem_nil⟩
  · exact nomatch (show (none : Option (Nat × q9AV × q9AV × q9ET)) = some p9 from hq9)
  · exact q9th_tX (T := T) (N := N) (P := P) (J := J) (t0 := t0) (Sc := Sc) (q9evS u6) (q9evZ u_) (q9evS u4) (by rw [q9FF_1270]; exact (show some (q9tk35 T N P J x6.toInt).1 = _ by rw [← tk, q4])) (by decide)
  · exact q9th_tX (T := T) (N := N) (P := P) (J := J) (t0 := t0) (Sc := Sc) (q9evS u6) (q9evZ u_) (q9evS u5) (by rw [q9FF_1271]; exact (show some (q9tk35 T N P J x6.toInt).2 = _ by rw [← tk, q5])) (by decide)
theorem q9ru_as0 (hT : ∀ i, 0 ≤ T i ∧ T i ≤ 255) (hN : 0 ≤ N ∧ N ≤ 400) (hSc : 0 ≤ Sc 1 ∧ Sc 1 ≤ 400 → N = Sc 1) : q9ruOK (fO T N P J t0 Sc) q9R_as0 := by
  intro w w0 hA hX hL hV hR
  obtain ⟨x0, ae0, -, -⟩ := hA 0 0 rfl
  obtain ⟨x1, ae1, -, -⟩ := hA 1 0 rfl
  obtain ⟨x2, ae2, -, -⟩ := hA 2 0 rfl
  obtain ⟨x3, ae3, -, -⟩ := hA 3 0 rfl
  obtain ⟨x4, ae4, -, -⟩ := hA 4 0 rfl
  obtain ⟨x5, ae5, -, -⟩ := hA 5 0 rfl
  have kz : (0 : Int32).toInt = 0 := rfl
  have k44 : (Int32.ofInt 44).toInt = 44 := q9oI_toInt (by decide)
  have V0 := q9pV (T := T) (N := N) (P := P) (J := J) (t0 := t0) (Sc := Sc) (op := 1272) (n := 0) (q9evS ae0) (q9evZ w0) (hV _ (List.mem_of_getElem? (i := 0) rfl)) (by decide)
  rw [q9FF_1272] at V0
  have K0 := Option.some.inj V0
  try simp only [kz, k44] at K0
  have X0 := q9th_pX (T := T) (N := N) (P := P) (J := J) (t0 := t0) (Sc := Sc) (op := 1273) (q9evS ae0) (q9evZ w0) (q9evS ae1) (hX _ (List.mem_of_getElem? (i := 0) rfl)) (by decide)
  rw [q9FF_1273] at X0
  have H0 := Option.some.inj X0
  try simp only [kz, k44] at H0
  have X1 := q9th_pX (T := T) (N := N) (P := P) (J := J) (t0 := t0) (Sc := Sc) (op := 1002) (q9evS ae1) (q9evZ w0) (q9evS ae2) (hX _ (List.mem_of_getElem? (i := 1) rfl)) (by decide)
  rw [q9FF_1002] at X1
  have H1 := Option.some.inj X1
  try simp only [kz, k44] at H1
  have X2 := q9th_pX (T := T) (N := N) (P := P) (J := J) (t0 := t0) (Sc := Sc) (op := 1009) (q9evS ae2) (q9evC w0 44) (q9evS ae3) (hX _ (List.mem_of_getElem? (i := 2) rfl)) (by decide)
  rw [q9FF_1009] at X2
  have H2 := Option.some.inj X2
  try simp only [kz, k44] at H2
  have L0 : x3.toInt ≤ (0 : Int32).toInt + 0 := q9pC (q9evS ae3) (q9evZ w0) (hL _ (List.mem_of_getElem? (i := 0) rfl))
  have L1 : (0 : Int32).toInt ≤ x0.toInt + 0 := q9pC (q9evZ w0) (q9evS ae0) (hL _ (List.mem_of_getElem? (i := 1) rfl))
  have X3 := q9th_pX (T := T) (N := N) (P := P) (J := J) (t0 := t0) (Sc := Sc) (op := 1270) (q9evS ae0) (q9evZ w0) (q9evS ae4) (hX _ (List.mem_of_getElem? (i := 3) rfl)) (by decide)
  rw [q9FF_1270] at X3
  have H3 := Option.some.inj X3
  try simp only [kz, k44] at H3
  have X4 := q9th_pX (T := T) (N := N) (P := P) (J := J) (t0 := t0) (Sc := Sc) (op := 1271) (q9evS ae0) (q9evZ w0) (q9evS ae5) (hX _ (List.mem_of_getElem? (i := 4) rfl)) (by decide)
  rw [q9FF_1271] at X4
  have H4 := Option.some.inj X4
  try simp only [kz, k44] at H4
  have q1 : (q9aimI T N P J x0.toInt).2 = x1.toInt := H0
  have q2 : (q9aimI T N P J x0.toInt).1 = 0 := K0
  have q3 : q9spI T N x1.toInt = x2.toInt := H1
  have hb := q9is_0 H2 (by omega)
  have q4 : (q9tk35 T N P J x0.toInt).1 = x4.toInt := H3
  have q5 : (q9tk35 T N P J x0.toInt).2 = x5.toInt := H4
  have tk := q9tk35_0 (p := x2.toInt) q2 (by rw [q1, q3]) hb
  rw [tk] at q4 q5
  have q4 : 0 = x4.toInt := q4
  have q5 : x2.toInt = x5.toInt := q5
  have u_ : q9upN w 7 [] 0 = .int 0 := q9upN_of (by decide) w0
  have u0 : q9upN w 7 [] 1 = .int x0 := q9upN_of (by decide) ae0
  have u1 : q9upN w 7 [] 2 = .int x1 := q9upN_of (by decide) ae1
  have u2 : q9upN w 7 [] 3 = .int x2 := q9upN_of (by decide) ae2
  have u3 : q9upN w 7 [] 4 = .int x3 := q9upN_of (by decide) ae3
  have u4 : q9upN w 7 [] 5 = .int x4 := q9upN_of (by decide) ae4
  have u5 : q9upN w 7 [] 6 = .int x5 := q9upN_of (by decide) ae5
  refine ⟨[], fun i9 p9 hq9 => ?_, fun _ h => absurd h List.not_mem_nil, List.forall_mem_cons.mpr ⟨?_, List.forall_mem_cons.mpr ⟨?_, List.forall_mem_cons.mpr ⟨?_, List.forall_mem_cons.mpr ⟨?_, fun _ h => absurd h List.not_mem_nil⟩⟩⟩⟩⟩
  · exact nomatch (show (none : Option (Nat × q9AV × q9AV × q9ET)) = some p9 from hq9)
  · exact q9th_tC (d := 0) (q9evS u4) (q9evZ u_) (by omega)
  · exact q9th_tC (d := 0) (q9evZ u_) (q9evS u4) (by omega)
  · exact q9th_tC (d := 0) (q9evS u2) (q9evS u5) (by omega)
  · exact q9th_tC (d := 0) (q9evS u5) (q9evS u2) (by omega)
theorem q9ru_asf (hT : ∀ i, 0 ≤ T i ∧ T i ≤ 255) (hN : 0 ≤ N ∧ N ≤ 400) (hSc : 0 ≤ Sc 1 ∧ Sc 1 ≤ 400 → N = Sc 1) : q9ruOK (fO T N P J t0 Sc) q9R_asf := by
  intro w w0 hA hX hL hV hR
  obtain ⟨x0, ae0, -, -⟩ := hA 0 0 rfl
  obtain ⟨x1, ae1, -, -⟩ := hA 1 0 rfl
  obtain ⟨x2, ae2, -, -⟩ := hA 2 0 rfl
  obtain ⟨x3, ae3, -, -⟩ := hA 3 0 rfl
  obtain ⟨x4, ae4, -, -⟩ := hA 4 0 rfl
  have kz : (0 : Int32).toInt = 0 := rfl
  have k1 : (Int32.ofInt 1).toInt = 1 := q9oI_toInt (by decide)
  have X0 := q9th_pX (T := T) (N := N) (P := P) (J := J) (t0 := t0) (Sc := Sc) (op := 1272) (q9evS ae0) (q9evZ w0) (q9evS ae1) (hX _ (List.mem_of_getElem? (i := 0) rfl)) (by decide)
  rw [q9FF_1272] at X0
  have H0 := Option.some.inj X0
  try simp only [kz, k1] at H0
  have X1 := q9th_pX (T := T) (N := N) (P := P) (J := J) (t0 := t0) (Sc := Sc) (op := 1273) (q9evS ae0) (q9evZ w0) (q9evS ae2) (hX _ (List.mem_of_getElem? (i := 1) rfl)) (by decide)
  rw [q9FF_1273] at X1
  have H1 := Option.some.inj X1
  try simp only [kz, k1] at H1
  have L0 : (Int32.ofInt 1).toInt ≤ x1.toInt + 0 := q9pC (q9evC w0 1) (q9evS ae1) (hL _ (List.mem_of_getElem? (i := 0) rfl))
  have L1 : (0 : Int32).toInt ≤ x0.toInt + 0 := q9pC (q9evZ w0) (q9evS ae0) (hL _ (List.mem_of_getElem? (i := 1) rfl))
  have X2 := q9th_pX (T := T) (N := N) (P := P) (J := J) (t0 := t0) (Sc := Sc) (op := 1270) (q9evS ae0) (q9evZ w0) (q9evS ae3) (hX _ (List.mem_of_getElem? (i := 2) rfl)) (by decide)
  rw [q9FF_1270] at X2
  have H2 := Option.some.inj X2
  try simp only [kz, k1] at H2
  have X3 := q9th_pX (T := T) (N := N) (P := P) (J := J) (t0 := t0) (Sc := Sc) (op := 1271) (q9evS ae0) (q9evZ w0) (q9evS ae4) (hX _ (List.mem_of_getElem? (i := 3) rfl)) (by decide)
  rw [q9FF_1271] at X3
  have H3 := Option.some.inj X3
  try simp only [kz, k1] at H3
  have q2 : (q9aimI T N P J x0.toInt).1 = x1.toInt := H0
  have q1 : (q9aimI T N P J x0.toInt).2 = x2.toInt := H1
  have q4 : (q9tk35 T N P J x0.toInt).1 = x3.toInt := H2
  have q5 : (q9tk35 T N P J x0.toInt).2 = x4.toInt := H3
  have tk := q9tk35_f (T := T) (N := N) (P := P) (J := J) (a := x0.toInt) (by omega)
  rw [tk] at q4 q5
  have u_ : q9upN w 6 [] 0 = .int 0 := q9upN_of (by decide) w0
  have u0 : q9upN w 6 [] 1 = .int x0 := q9upN_of (by decide) ae0
  have u1 : q9upN w 6 [] 2 = .int x1 := q9upN_of (by decide) ae1
  have u2 : q9upN w 6 [] 3 = .int x2 := q9upN_of (by decide) ae2
  have u3 : q9upN w 6 [] 4 = .int x3 := q9upN_of (by decide) ae3
  have u4 : q9upN w 6 [] 5 = .int x4 := q9upN_of (by decide) ae4
  refine ⟨[], fun i9 p9 hq9 => ?_, fun _ h => absurd h List.not_mem_nil, List.forall_mem_cons.mpr ⟨?_, List.forall_mem_cons.mpr ⟨?_, List.forall_mem_cons.mpr ⟨?_, List.forall_mem_cons.mpr ⟨?_, fun _ h => absurd h List.not_mem_nil⟩⟩⟩⟩⟩
  · exact nomatch (show (none : Option (Nat × q9AV × q9AV × q9ET)) = some p9 from hq9)
  · exact q9th_tC (d := 0) (q9evS u1) (q9evS u3) (by omega)
  · exact q9th_tC (d := 0) (q9evS u3) (q9evS u1) (by omega)
  · exact q9th_tC (d := 0) (q9evS u2) (q9evS u4) (by omega)
  · exact q9th_tC (d := 0) (q9evS u4) (q9evS u2) (by omega)
theorem q9ru_eTK (hT : ∀ i, 0 ≤ T i ∧ T i ≤ 255) (hN : 0 ≤ N ∧ N ≤ 400) (hSc : 0 ≤ Sc 1 ∧ Sc 1 ≤ 400 → N = Sc 1) : q9ruOK (fO T N P J t0 Sc) q9R_eTK := by
  intro w w0 hA hX hL hV hR
  obtain ⟨x0, ae0, -, -⟩ := hA 0 0 rfl
  have kz : (0 : Int32).toInt = 0 := rfl
  have k401 : (Int32.ofInt 401).toInt = 401 := q9oI_toInt (by decide)
  have L0 : (0 : Int32).toInt ≤ x0.toInt + 0 := q9pC (q9evZ w0) (q9evS ae0) (hL _ (List.mem_of_getElem? (i := 0) rfl))
  have L1 : x0.toInt ≤ (Int32.ofInt 401).toInt + 0 := q9pC (q9evS ae0) (q9evC w0 401) (hL _ (List.mem_of_getElem? (i := 1) rfl))
  have b1 := q9tk35_B (T := T) (N := N) (P := P) (J := J) x0.toInt
  have b2 := q9tk35_G (T := T) (N := N) (P := P) (J := J) x0.toInt
  have rg0 : (0 : Int) ≤ (q9tk35 T N P J x0.toInt).1 ∧ ((q9tk35 T N P J x0.toInt).1 : Int) ≤ 4 := by omega
  obtain ⟨x1, nt1⟩ : ∃ x : Int32, x.toInt = (q9tk35 T N P J x0.toInt).1 := ⟨Int32.ofInt ((q9tk35 T N P J x0.toInt).1), q9oI_toInt (by omega)⟩
  have rg1 : (0 : Int) ≤ (q9tk35 T N P J x0.toInt).2 ∧ ((q9tk35 T N P J x0.toInt).2 : Int) ≤ 401 := by omega
  obtain ⟨x2, nt2⟩ : ∃ x : Int32, x.toInt = (q9tk35 T N P J x0.toInt).2 := ⟨Int32.ofInt ((q9tk35 T N P J x0.toInt).2), q9oI_toInt (by omega)⟩
  have u_ : q9upN w 2 [.int x1, .int x2] 0 = .int 0 := q9upN_of (by decide) w0
  have u0 : q9upN w 2 [.int x1, .int x2] 1 = .int x0 := q9upN_of (by decide) ae0
  have u1 : q9upN w 2 [.int x1, .int x2] 2 = .int x1 := q9upN_at (by decide)
  have u2 : q9upN w 2 [.int x1, .int x2] 3 = .int x2 := q9upN_at (by decide)
  refine ⟨[.int x1, .int x2], fun i9 p9 hq9 => ?_, fun _ h => absurd h List.not_mem_nil, fun _ h => absurd h List.not_mem_nil⟩
  · match i9, hq9 with
    | 0, hq9 =>
      have hp9 : ((1270, (1, 0), (0, 0), (0, 0, 4)) : Nat × q9AV × q9AV × q9ET) = p9 := Option.some.inj hq9
      subst hp9
      exact ⟨⟨x1, rfl, by rw [nt1]; exact rg0.1, by rw [nt1]; exact rg0.2⟩, (q9th_tX (T := T) (N := N) (P := P) (J := J) (t0 := t0) (Sc := Sc) (q9evS u0) (q9evZ u_) (q9evS u1) (by rw [q9FF_1270, nt1]; first | done | exact rfl) (by decide)).trans (congrArg some (q9evS u1))⟩
    | 1, hq9 =>
      have hp9 : ((1271, (1, 0), (0, 0), (0, 0, 401)) : Nat × q9AV × q9AV × q9ET) = p9 := Option.some.inj hq9
      subst hp9
      exact ⟨⟨x2, rfl, by rw [nt2]; exact rg1.1, by rw [nt2]; exact rg1.2⟩, (q9th_tX (T := T) (N := N) (P := P) (J := J) (t0 := t0) (Sc := Sc) (q9evS u0) (q9evZ u_) (q9evS u2) (by rw [q9FF_1271, nt2]; first | done | exact rfl) (by decide)).trans (congrArg some (q9evS u2))⟩
    | k9 + 2, hq9 => exact nomatch (show (none : Option (Nat × q9AV × q9AV × q9ET)) = some p9 from hq9)
theorem q9ru_asN (hT : ∀ i, 0 ≤ T i ∧ T i ≤ 255) (hN : 0 ≤ N ∧ N ≤ 400) (hSc : 0 ≤ Sc 1 ∧ Sc 1 ≤ 400 → N = Sc 1) : q9ruOK (fO T N P J t0 Sc) q9R_asN := by
  intro w w0 hA hX hL hV hR
  obtain ⟨x0, ae0, -, -⟩ := hA 0 0 rfl
  obtain ⟨x1, ae1, -, -⟩ := hA 1 0 rfl
  obtain ⟨x2, ae2, -, -⟩ := hA 2 0 rfl
  obtain ⟨x3, ae3, -, -⟩ := hA 3 0 rfl
  have kz : (0 : Int32).toInt = 0 := rfl
  have km1 : (Int32.ofInt (-1)).toInt = (-1) := q9oI_toInt (by decide)
  have k1 : (Int32.ofInt 1).toInt = 1 := q9oI_toInt (by decide)
  have X0 := q9th_pX (T := T) (N := N) (P := P) (J := J) (t0 := t0) (Sc := Sc) (op := 1000) (q9evS ae0) (q9evZ w0) (q9evS ae1) (hX _ (List.mem_of_getElem? (i := 0) rfl)) (by decide)
  rw [q9FF_1000] at X0
  have H0 := Option.some.inj X0
  try simp only [kz, km1, k1] at H0
  have L0 : x1.toInt ≤ (Int32.ofInt (-1)).toInt + 0 := q9pC (q9evS ae1) (q9evC w0 (-1)) (hL _ (List.mem_of_getElem? (i := 0) rfl))
  have X1 := q9th_pX (T := T) (N := N) (P := P) (J := J) (t0 := t0) (Sc := Sc) (op := 1270) (q9evS ae0) (q9evZ w0) (q9evS ae2) (hX _ (List.mem_of_getElem? (i := 1) rfl)) (by decide)
  rw [q9FF_1270] at X1
  have H1 := Option.some.inj X1
  try simp only [kz, km1, k1] at H1
  have X2 := q9th_pX (T := T) (N := N) (P := P) (J := J) (t0 := t0) (Sc := Sc) (op := 1271) (q9evS ae0) (q9evZ w0) (q9evS ae3) (hX _ (List.mem_of_getElem? (i := 2) rfl)) (by decide)
  rw [q9FF_1271] at X2
  have H2 := Option.some.inj X2
  try simp only [kz, km1, k1] at H2
  have L1 : (0 : Int32).toInt ≤ x0.toInt + 0 := q9pC (q9evZ w0) (q9evS ae0) (hL _ (List.mem_of_getElem? (i := 1) rfl))
  have hs := q9sp_no (T := T) (N := N) (i := x0.toInt) (by omega)
  have hd := q9de_no (T := T) (N := N) (i := x0.toInt) (by omega)
  have t6 : q9tkN T N 0 (P - 1) x0.toInt = (1, x0.toInt) := q9tkN_1 hs hd (by omega)
  have ta : q9aimI T N P J x0.toInt = (1, x0.toInt) := by show q9tkR (q9aimL T N P J x0.toInt) x0.toInt = _; unfold q9aimL; rw [q9tkR_f (by rw [t6]; show (1 : Int) ≤ 1; decide), t6]
  have tk := q9tk35_f (T := T) (N := N) (P := P) (J := J) (a := x0.toInt) (by rw [ta]; show (1 : Int) ≤ 1; decide)
  have q4 : (q9tk35 T N P J x0.toInt).1 = x2.toInt := H1
  have q5 : (q9tk35 T N P J x0.toInt).2 = x3.toInt := H2
  rw [tk, ta] at q4 q5
  have q4 : 1 = x2.toInt := q4
  have q5 : x0.toInt = x3.toInt := q5
  have u_ : q9upN w 5 [] 0 = .int 0 := q9upN_of (by decide) w0
  have u0 : q9upN w 5 [] 1 = .int x0 := q9upN_of (by decide) ae0
  have u1 : q9upN w 5 [] 2 = .int x1 := q9upN_of (by decide) ae1
  have u2 : q9upN w 5 [] 3 = .int x2 := q9upN_of (by decide) ae2
  have u3 : q9upN w 5 [] 4 = .int x3 := q9upN_of (by decide) ae3
  refine ⟨[], fun i9 p9 hq9 => ?_, fun _ h => absurd h List.not_mem_nil, List.forall_mem_cons.mpr ⟨?_, List.forall_mem_cons.mpr ⟨?_, List.forall_mem_cons.mpr ⟨?_, List.forall_mem_cons.mpr ⟨?_, fun _ h => absurd h List.not_mem_nil⟩⟩⟩⟩⟩
  · exact nomatch (show (none : Option (Nat × q9AV × q9AV × q9ET)) = some p9 from hq9)
  · exact q9th_tC (d := 0) (q9evS u2) (q9evC u_ 1) (by omega)
  · exact q9th_tC (d := 0) (q9evC u_ 1) (q9evS u2) (by omega)
  · exact q9th_tC (d := 0) (q9evS u3) (q9evS u0) (by omega)
  · exact q9th_tC (d := 0) (q9evS u0) (q9evS u3) (by omega)
theorem q9ru_m40 (hT : ∀ i, 0 ≤ T i ∧ T i ≤ 255) (hN : 0 ≤ N ∧ N ≤ 400) (hSc : 0 ≤ Sc 1 ∧ Sc 1 ≤ 400 → N = Sc 1) : q9ruOK (fO T N P J t0 Sc) q9R_m40 := by
  intro w w0 hA hX hL hV hR
  have kz : (0 : Int32).toInt = 0 := rfl
  have k5 : (Int32.ofInt 5).toInt = 5 := q9oI_toInt (by decide)
  have rg0 : (0 : Int) ≤ 0 ∧ (0 : Int) ≤ 0 := by omega
  obtain ⟨x0, nt0⟩ : ∃ x : Int32, x.toInt = 0 := ⟨Int32.ofInt (0), q9oI_toInt (by omega)⟩
  have u_ : q9upN w 1 [.int x0] 0 = .int 0 := q9upN_of (by decide) w0
  have u0 : q9upN w 1 [.int x0] 1 = .int x0 := q9upN_at (by decide)
  refine ⟨[.int x0], fun i9 p9 hq9 => ?_, fun _ h => absurd h List.not_mem_nil, fun _ h => absurd h List.not_mem_nil⟩
  · match i9, hq9 with
    | 0, hq9 =>
      have hp9 : ((2, (0, 0), (0, 5), (0, 0, 0)) : Nat × q9AV × q9AV × q9ET) = p9 := Option.some.inj hq9
      subst hp9
      exact ⟨⟨x0, rfl, by rw [nt0]; exact rg0.1, by rw [nt0]; exact rg0.2⟩, (q9tB (T := T) (N := N) (P := P) (J := J) (t0 := t0) (Sc := Sc) (q9evZ u_) (q9evC u_ 5) (q9evS u0) (q9mu32t (by rw [nt0, kz]; first | done | exact (Int.zero_mul _).symm))).trans (congrArg some (q9evS u0))⟩
    | k9 + 1, hq9 => exact nomatch (show (none : Option (Nat × q9AV × q9AV × q9ET)) = some p9 from hq9)
theorem q9ru_m4s (hT : ∀ i, 0 ≤ T i ∧ T i ≤ 255) (hN : 0 ≤ N ∧ N ≤ 400) (hSc : 0 ≤ Sc 1 ∧ Sc 1 ≤ 400 → N = Sc 1) : q9ruOK (fO T N P J t0 Sc) q9R_m4s := by
  intro w w0 hA hX hL hV hR
  obtain ⟨x0, ae0, -, -⟩ := hA 0 0 rfl
  obtain ⟨x1, ae1, -, -⟩ := hA 1 0 rfl
  obtain ⟨x2, ae2, -, -⟩ := hA 2 0 rfl
  obtain ⟨x3, ae3, -, -⟩ := hA 3 0 rfl
  obtain ⟨x4, ae4, -, -⟩ := hA 4 0 rfl
  obtain ⟨x5, ae5, -, -⟩ := hA 5 0 rfl
  have kz : (0 : Int32).toInt = 0 := rfl
  have k5 : (Int32.ofInt 5).toInt = 5 := q9oI_toInt (by decide)
  have k99 : (Int32.ofInt 99).toInt = 99 := q9oI_toInt (by decide)
  have X0 := q9pB (T := T) (N := N) (P := P) (J := J) (t0 := t0) (Sc := Sc) (q9evS ae0) (q9evC w0 5) (q9evS ae1) (hX _ (List.mem_of_getElem? (i := 0) rfl))
  have L0 : (0 : Int32).toInt ≤ x0.toInt + 0 := q9pC (q9evZ w0) (q9evS ae0) (hL _ (List.mem_of_getElem? (i := 0) rfl))
  have L1 : x0.toInt ≤ (Int32.ofInt 99).toInt + 0 := q9pC (q9evS ae0) (q9evC w0 99) (hL _ (List.mem_of_getElem? (i := 1) rfl))
  have L2 : x1.toInt ≤ x2.toInt + 0 := q9pC (q9evS ae1) (q9evS ae2) (hL _ (List.mem_of_getElem? (i := 2) rfl))
  have L3 : x2.toInt ≤ x3.toInt + (-4) := q9pC (q9evS ae2) (q9evS ae3) (hL _ (List.mem_of_getElem? (i := 3) rfl))
  have L4 : x3.toInt ≤ x4.toInt + 0 := q9pC (q9evS ae3) (q9evS ae4) (hL _ (List.mem_of_getElem? (i := 4) rfl))
  have L5 : x4.toInt ≤ x5.toInt + (-1) := q9pC (q9evS ae4) (q9evS ae5) (hL _ (List.mem_of_getElem? (i := 5) rfl))
  have m1 := q9mu32 X0 (by rw [k5]; omega)
  rw [k5] at m1
  have a1 := q9ad32 (x := x0) (d := 1) (by omega)
  have rg0 : (5 : Int) ≤ (x0.toInt * 5 + 5) ∧ ((x0.toInt * 5 + 5) : Int) ≤ 500 := by omega
  obtain ⟨x6, nt6⟩ : ∃ x : Int32, x.toInt = (x0.toInt * 5 + 5) := ⟨Int32.ofInt ((x0.toInt * 5 + 5)), q9oI_toInt (by omega)⟩
  have u_ : q9upN w 7 [.int x6] 0 = .int 0 := q9upN_of (by decide) w0
  have u0 : q9upN w 7 [.int x6] 1 = .int x0 := q9upN_of (by decide) ae0
  have u1 : q9upN w 7 [.int x6] 2 = .int x1 := q9upN_of (by decide) ae1
  have u2 : q9upN w 7 [.int x6] 3 = .int x2 := q9upN_of (by decide) ae2
  have u3 : q9upN w 7 [.int x6] 4 = .int x3 := q9upN_of (by decide) ae3
  have u4 : q9upN w 7 [.int x6] 5 = .int x4 := q9upN_of (by decide) ae4
  have u5 : q9upN w 7 [.int x6] 6 = .int x5 := q9upN_of (by decide) ae5
  have u6 : q9upN w 7 [.int x6] 7 = .int x6 := q9upN_at (by decide)
  refine ⟨[.int x6], fun i9 p9 hq9 => ?_, fun _ h => absurd h List.not_mem_nil, List.forall_mem_cons.mpr ⟨?_, List.forall_mem_cons.mpr ⟨?_, List.forall_mem_cons.mpr ⟨?_, fun _ h => absurd h List.not_mem_nil⟩⟩⟩⟩
  · match i9, hq9 with
    | 0, hq9 =>
      have hp9 : ((2, (1, 1), (0, 5), (0, 5, 500)) : Nat × q9AV × q9AV × q9ET) = p9 := Option.some.inj hq9
      subst hp9
      exact ⟨⟨x6, rfl, by rw [nt6]; exact rg0.1, by rw [nt6]; exact rg0.2⟩, (q9tB (T := T) (N := N) (P := P) (J := J) (t0 := t0) (Sc := Sc) (q9evO u0 1) (q9evC u_ 5) (q9evS u6) (q9mu32t (by rw [a1, k5]; omega))).trans (congrArg some (q9evS u6))⟩
    | k9 + 1, hq9 => exact nomatch (show (none : Option (Nat × q9AV × q9AV × q9ET)) = some p9 from hq9)
  · exact q9th_tC (d := 5) (q9evS u6) (q9evS u1) (by omega)
  · exact q9th_tC (d := (-5)) (q9evS u1) (q9evS u6) (by omega)
  · exact q9th_tC (d := 0) (q9evS u6) (q9evS u5) (by omega)
theorem q9ru_m4n (hT : ∀ i, 0 ≤ T i ∧ T i ≤ 255) (hN : 0 ≤ N ∧ N ≤ 400) (hSc : 0 ≤ Sc 1 ∧ Sc 1 ≤ 400 → N = Sc 1) : q9ruOK (fO T N P J t0 Sc) q9R_m4n := by
  intro w w0 hA hX hL hV hR
  obtain ⟨x0, ae0, -, -⟩ := hA 0 0 rfl
  obtain ⟨x1, ae1, -, -⟩ := hA 1 0 rfl
  have kz : (0 : Int32).toInt = 0 := rfl
  have k5 : (Int32.ofInt 5).toInt = 5 := q9oI_toInt (by decide)
  have k100 : (Int32.ofInt 100).toInt = 100 := q9oI_toInt (by decide)
  have k500 : (Int32.ofInt 500).toInt = 500 := q9oI_toInt (by decide)
  have X0 := q9pB (T := T) (N := N) (P := P) (J := J) (t0 := t0) (Sc := Sc) (q9evS ae0) (q9evC w0 5) (q9evS ae1) (hX _ (List.mem_of_getElem? (i := 0) rfl))
  have L0 : (Int32.ofInt 100).toInt ≤ x0.toInt + 0 := q9pC (q9evC w0 100) (q9evS ae0) (hL _ (List.mem_of_getElem? (i := 0) rfl))
  have L1 : x0.toInt ≤ (Int32.ofInt 100).toInt + 0 := q9pC (q9evS ae0) (q9evC w0 100) (hL _ (List.mem_of_getElem? (i := 1) rfl))
  have m1 := q9mu32 X0 (by rw [k5]; omega)
  rw [k5] at m1
  have u_ : q9upN w 3 [] 0 = .int 0 := q9upN_of (by decide) w0
  have u0 : q9upN w 3 [] 1 = .int x0 := q9upN_of (by decide) ae0
  have u1 : q9upN w 3 [] 2 = .int x1 := q9upN_of (by decide) ae1
  refine ⟨[], fun i9 p9 hq9 => ?_, fun _ h => absurd h List.not_mem_nil, List.forall_mem_cons.mpr ⟨?_, fun _ h => absurd h List.not_mem_nil⟩⟩
  · exact nomatch (show (none : Option (Nat × q9AV × q9AV × q9ET)) = some p9 from hq9)
  · exact q9th_tC (d := 0) (q9evC u_ 500) (q9evS u1) (by omega)
theorem q9ru_kb0 (hT : ∀ i, 0 ≤ T i ∧ T i ≤ 255) (hN : 0 ≤ N ∧ N ≤ 400) (hSc : 0 ≤ Sc 1 ∧ Sc 1 ≤ 400 → N = Sc 1) : q9ruOK (fO T N P J t0 Sc) q9R_kb0 := by
  intro w w0 hA hX hL hV hR
  obtain ⟨x0, ae0, -, -⟩ := hA 0 0 rfl
  obtain ⟨x1, ae1, -, -⟩ := hA 1 0 rfl
  have kz : (0 : Int32).toInt = 0 := rfl
  have k1 : (Int32.ofInt 1).toInt = 1 := q9oI_toInt (by decide)
  have X0 := q9th_pX (T := T) (N := N) (P := P) (J := J) (t0 := t0) (Sc := Sc) (op := 1100) (q9evS ae0) (q9evZ w0) (q9evS ae1) (hX _ (List.mem_of_getElem? (i := 0) rfl)) (by decide)
  rw [q9FF_1100] at X0
  have H0 := Option.some.inj X0
  try simp only [kz, k1] at H0
  have L0 : (Int32.ofInt 1).toInt ≤ x1.toInt + 0 := q9pC (q9evC w0 1) (q9evS ae1) (hL _ (List.mem_of_getElem? (i := 0) rfl))
  have L1 : (0 : Int32).toInt ≤ x0.toInt + 0 := q9pC (q9evZ w0) (q9evS ae0) (hL _ (List.mem_of_getElem? (i := 1) rfl))
  have q0 : q9wsI T N 0 x0.toInt = x1.toInt := H0
  have y0 := q9ws_01 (T := T) (N := N) (t := 0) (i := x0.toInt)
  have rg0 : (0 : Int) ≤ 0 ∧ (0 : Int) ≤ 0 := by omega
  obtain ⟨x2, nt2⟩ : ∃ x : Int32, x.toInt = 0 := ⟨Int32.ofInt (0), q9oI_toInt (by omega)⟩
  have u_ : q9upN w 3 [.int x2] 0 = .int 0 := q9upN_of (by decide) w0
  have u0 : q9upN w 3 [.int x2] 1 = .int x0 := q9upN_of (by decide) ae0
  have u1 : q9upN w 3 [.int x2] 2 = .int x1 := q9upN_of (by decide) ae1
  have u2 : q9upN w 3 [.int x2] 3 = .int x2 := q9upN_at (by decide)
  refine ⟨[.int x2], fun i9 p9 hq9 => ?_, fun _ h => absurd h List.not_mem_nil, fun _ h => absurd h List.not_mem_nil⟩
  · match i9, hq9 with
    | 0, hq9 =>
      have hp9 : ((1013, (1, 0), (0, 0), (0, 0, 0)) : Nat × q9AV × q9AV × q9ET) = p9 := Option.some.inj hq9
      subst hp9
      exact ⟨⟨x2, rfl, by rw [nt2]; exact rg0.1, by rw [nt2]; exact rg0.2⟩, (q9th_tX (T := T) (N := N) (P := P) (J := J) (t0 := t0) (Sc := Sc) (q9evS u0) (q9evZ u_) (q9evS u2) (by rw [q9FF_1013, nt2]; exact (by unfold q9kbI; rw [if_pos (by omega)])) (by decide)).trans (congrArg some (q9evS u2))⟩
    | k9 + 1, hq9 => exact nomatch (show (none : Option (Nat × q9AV × q9AV × q9ET)) = some p9 from hq9)
theorem q9ru_kb1 (hT : ∀ i, 0 ≤ T i ∧ T i ≤ 255) (hN : 0 ≤ N ∧ N ≤ 400) (hSc : 0 ≤ Sc 1 ∧ Sc 1 ≤ 400 → N = Sc 1) : q9ruOK (fO T N P J t0 Sc) q9R_kb1 := by
  intro w w0 hA hX hL hV hR
  obtain ⟨x0, ae0, -, -⟩ := hA 0 0 rfl
  obtain ⟨x1, ae1, -, -⟩ := hA 1 0 rfl
  obtain ⟨x2, ae2, -, -⟩ := hA 2 0 rfl
  have kz : (0 : Int32).toInt = 0 := rfl
  have k1 : (Int32.ofInt 1).toInt = 1 := q9oI_toInt (by decide)
  have X0 := q9th_pX (T := T) (N := N) (P := P) (J := J) (t0 := t0) (Sc := Sc) (op := 1100) (q9evS ae0) (q9evZ w0) (q9evS ae1) (hX _ (List.mem_of_getElem? (i := 0) rfl)) (by decide)
  rw [q9FF_1100] at X0
  have H0 := Option.some.inj X0
  try simp only [kz, k1] at H0
  have X1 := q9th_pX (T := T) (N := N) (P := P) (J := J) (t0 := t0) (Sc := Sc) (op := 1101) (q9evS ae0) (q9evZ w0) (q9evS ae2) (hX _ (List.mem_of_getElem? (i := 1) rfl)) (by decide)
  rw [q9FF_1101] at X1
  have H1 := Option.some.inj X1
  try simp only [kz, k1] at H1
  have L0 : x1.toInt ≤ (0 : Int32).toInt + 0 := q9pC (q9evS ae1) (q9evZ w0) (hL _ (List.mem_of_getElem? (i := 0) rfl))
  have L1 : (Int32.ofInt 1).toInt ≤ x2.toInt + 0 := q9pC (q9evC w0 1) (q9evS ae2) (hL _ (List.mem_of_getElem? (i := 1) rfl))
  have L2 : (0 : Int32).toInt ≤ x0.toInt + 0 := q9pC (q9evZ w0) (q9evS ae0) (hL _ (List.mem_of_getElem? (i := 2) rfl))
  have q0 : q9wsI T N 0 x0.toInt = x1.toInt := H0
  have q1 : q9wsI T N 1 x0.toInt = x2.toInt := H1
  have y1 := q9ws_01 (T := T) (N := N) (t := 1) (i := x0.toInt)
  have rg0 : (1 : Int) ≤ 1 ∧ (1 : Int) ≤ 1 := by omega
  obtain ⟨x3, nt3⟩ : ∃ x : Int32, x.toInt = 1 := ⟨Int32.ofInt (1), q9oI_toInt (by omega)⟩
  have u_ : q9upN w 4 [.int x3] 0 = .int 0 := q9upN_of (by decide) w0
  have u0 : q9upN w 4 [.int x3] 1 = .int x0 := q9upN_of (by decide) ae0
  have u1 : q9upN w 4 [.int x3] 2 = .int x1 := q9upN_of (by decide) ae1
  have u2 : q9upN w 4 [.int x3] 3 = .int x2 := q9upN_of (by decide) ae2
  have u3 : q9upN w 4 [.int x3] 4 = .int x3 := q9upN_at (by decide)
  refine ⟨[.int x3], fun i9 p9 hq9 => ?_, fun _ h => absurd h List.not_mem_nil, fun _ h => absurd h List.not_mem_nil⟩
  · match i9, hq9 with
    | 0, hq9 =>
      have hp9 : ((1013, (1, 0), (0, 0), (0, 1, 1)) : Nat × q9AV × q9AV × q9ET) = p9 := Option.some.inj hq9
      subst hp9
      exact ⟨⟨x3, rfl, by rw [nt3]; exact rg0.1, by rw [nt3]; exact rg0.2⟩, (q9th_tX (T := T) (N := N) (P := P) (J := J) (t0 := t0) (Sc := Sc) (q9evS u0) (q9evZ u_) (q9evS u3) (by rw [q9FF_1013, nt3]; exact (by unfold q9kbI; rw [if_neg (by omega), if_pos (by omega)])) (by decide)).trans (congrArg some (q9evS u3))⟩
    | k9 + 1, hq9 => exact nomatch (show (none : Option (Nat × q9AV × q9AV × q9ET)) = some p9 from hq9)
theorem q9ru_kb2 (hT : ∀ i, 0 ≤ T i ∧ T i ≤ 255) (hN : 0 ≤ N ∧ N ≤ 400) (hSc : 0 ≤ Sc 1 ∧ Sc 1 ≤ 400 → N = Sc 1) : q9ruOK (fO T N P J t0 Sc) q9R_kb2 := by
  intro w w0 hA hX hL hV hR
  obtain ⟨x0, ae0, -, -⟩ := hA 0 0 rfl
  obtain ⟨x1, ae1, -, -⟩ := hA 1 0 rfl
  obtain ⟨x2, ae2, -, -⟩ := hA 2 0 rfl
  obtain ⟨x3, ae3, -, -⟩ := hA 3 0 rfl
  have kz : (0 : Int32).toInt = 0 := rfl
  have k1 : (Int32.ofInt 1).toInt = 1 := q9oI_toInt (by decide)
  have X0 := q9th_pX (T := T) (N := N) (P := P) (J := J) (t0 := t0) (Sc := Sc) (op := 1100) (q9evS ae0) (q9evZ w0) (q9evS ae1) (hX _ (List.mem_of_getElem? (i := 0) rfl)) (by decide)
  rw [q9FF_1100] at X0
  have H0 := Option.some.inj X0
  try simp only [kz, k1] at H0
  have X1 := q9th_pX (T := T) (N := N) (P := P) (J := J) (t0 := t0) (Sc := Sc) (op := 1101) (q9evS ae0) (q9evZ w0) (q9evS ae2) (hX _ (List.mem_of_getElem? (i := 1) rfl)) (by decide)
  rw [q9FF_1101] at X1
  have H1 := Option.some.inj X1
  try simp only [kz, k1] at H1
  have X2 := q9th_pX (T := T) (N := N) (P := P) (J := J) (t0 := t0) (Sc := Sc) (op := 1102) (q9evS ae0) (q9evZ w0) (q9evS ae3) (hX _ (List.mem_of_getElem? (i := 2) rfl)) (by decide)
  rw [q9FF_1102] at X2
  have H2 := Option.some.inj X2
  try simp only [kz, k1] at H2
  have L0 : x1.toInt ≤ (0 : Int32).toInt + 0 := q9pC (q9evS ae1) (q9evZ w0) (hL _ (List.mem_of_getElem? (i := 0) rfl))
  have L1 : x2.toInt ≤ (0 : Int32).toInt + 0 := q9pC (q9evS ae2) (q9evZ w0) (hL _ (List.mem_of_getElem? (i := 1) rfl))
  have L2 : (Int32.ofInt 1).toInt ≤ x3.toInt + 0 := q9pC (q9evC w0 1) (q9evS ae3) (hL _ (List.mem_of_getElem? (i := 2) rfl))
  have L3 : (0 : Int32).toInt ≤ x0.toInt + 0 := q9pC (q9evZ w0) (q9evS ae0) (hL _ (List.mem_of_getElem? (i := 3) rfl))
  have q0 : q9wsI T N 0 x0.toInt = x1.toInt := H0
  have q1 : q9wsI T N 1 x0.toInt = x2.toInt := H1
  have q2 : q9wsI T N 2 x0.toInt = x3.toInt := H2
  have y2 := q9ws_01 (T := T) (N := N) (t := 2) (i := x0.toInt)
  have rg0 : (2 : Int) ≤ 2 ∧ (2 : Int) ≤ 2 := by omega
  obtain ⟨x4, nt4⟩ : ∃ x : Int32, x.toInt = 2 := ⟨Int32.ofInt (2), q9oI_toInt (by omega)⟩
  have u_ : q9upN w 5 [.int x4] 0 = .int 0 := q9upN_of (by decide) w0
  have u0 : q9upN w 5 [.int x4] 1 = .int x0 := q9upN_of (by decide) ae0
  have u1 : q9upN w 5 [.int x4] 2 = .int x1 := q9upN_of (by decide) ae1
  have u2 : q9upN w 5 [.int x4] 3 = .int x2 := q9upN_of (by decide) ae2
  have u3 : q9upN w 5 [.int x4] 4 = .int x3 := q9upN_of (by decide) ae3
  have u4 : q9upN w 5 [.int x4] 5 = .int x4 := q9upN_at (by decide)
  refine ⟨[.int x4], fun i9 p9 hq9 => ?_, fun _ h => absurd h List.not_mem_nil, fun _ h => absurd h List.not_mem_nil⟩
  · match i9, hq9 with
    | 0, hq9 =>
      have hp9 : ((1013, (1, 0), (0, 0), (0, 2, 2)) : Nat × q9AV × q9AV × q9ET) = p9 := Option.some.inj hq9
      subst hp9
      exact ⟨⟨x4, rfl, by rw [nt4]; exact rg0.1, by rw [nt4]; exact rg0.2⟩, (q9th_tX (T := T) (N := N) (P := P) (J := J) (t0 := t0) (Sc := Sc) (q9evS u0) (q9evZ u_) (q9evS u4) (by rw [q9FF_1013, nt4]; exact (by unfold q9kbI; rw [if_neg (by omega), if_neg (by omega), if_pos (by omega)])) (by decide)).trans (congrArg some (q9evS u4))⟩
    | k9 + 1, hq9 => exact nomatch (show (none : Option (Nat × q9AV × q9AV × q9ET)) = some p9 from hq9)
theorem q9ru_kb3 (hT : ∀ i, 0 ≤ T i ∧ T i ≤ 255) (hN : 0 ≤ N ∧ N ≤ 400) (hSc : 0 ≤ Sc 1 ∧ Sc 1 ≤ 400 → N = Sc 1) : q9ruOK (fO T N P J t0 Sc) q9R_kb3 := by
  intro w w0 hA hX hL hV hR
  obtain ⟨x0, ae0, -, -⟩ := hA 0 0 rfl
  obtain ⟨x1, ae1, -, -⟩ := hA 1 0 rfl
  obtain ⟨x2, ae2, -, -⟩ := hA 2 0 rfl
  obtain ⟨x3, ae3, -, -⟩ := hA 3 0 rfl
  obtain ⟨x4, ae4, -, -⟩ := hA 4 0 rfl
  have kz : (0 : Int32).toInt = 0 := rfl
  have k1 : (Int32.ofInt 1).toInt = 1 := q9oI_toInt (by decide)
  have X0 := q9th_pX (T := T) (N := N) (P := P) (J := J) (t0 := t0) (Sc := Sc) (op := 1100) (q9evS ae0) (q9evZ w0) (q9evS ae1) (hX _ (List.mem_of_getElem? (i := 0) rfl)) (by decide)
  rw [q9FF_1100] at X0
  have H0 := Option.some.inj X0
  try simp only [kz, k1] at H0
  have X1 := q9th_pX (T := T) (N := N) (P := P) (J := J) (t0 := t0) (Sc := Sc) (op := 1101) (q9evS ae0) (q9evZ w0) (q9evS ae2) (hX _ (List.mem_of_getElem? (i := 1) rfl)) (by decide)
  rw [q9FF_1101] at X1
  have H1 := Option.some.inj X1
  try simp only [kz, k1] at H1
  have X2 := q9th_pX (T := T) (N := N) (P := P) (J := J) (t0 := t0) (Sc := Sc) (op := 1102) (q9evS ae0) (q9evZ w0) (q9evS ae3) (hX _ (List.mem_of_getElem? (i := 2) rfl)) (by decide)
  rw [q9FF_1102] at X2
  have H2 := Option.some.inj X2
  try simp only [kz, k1] at H2
  have X3 := q9th_pX (T := T) (N := N) (P := P) (J := J) (t0 := t0) (Sc := Sc) (op := 1103) (q9evS ae0) (q9evZ w0) (q9evS ae4) (hX _ (List.mem_of_getElem? (i := 3) rfl)) (by decide)
  rw [q9FF_1103] at X3
  have H3 := Option.some.inj X3
  try simp only [kz, k1] at H3
  have L0 : x1.toInt ≤ (0 : Int32).toInt + 0 := q9pC (q9evS ae1) (q9evZ w0) (hL _ (List.mem_of_getElem? (i := 0) rfl))
  have L1 : x2.toInt ≤ (0 : Int32).toInt + 0 := q9pC (q9evS ae2) (q9evZ w0) (hL _ (List.mem_of_getElem? (i := 1) rfl))
  have L2 : x3.toInt ≤ (0 : Int32).toInt + 0 := q9pC (q9evS ae3) (q9evZ w0) (hL _ (List.mem_of_getElem? (i := 2) rfl))
  have L3 : (Int32.ofInt 1).toInt ≤ x4.toInt + 0 := q9pC (q9evC w0 1) (q9evS ae4) (hL _ (List.mem_of_getElem? (i := 3) rfl))
  have L4 : (0 : Int32).toInt ≤ x0.toInt + 0 := q9pC (q9evZ w0) (q9evS ae0) (hL _ (List.mem_of_getElem? (i := 4) rfl))
  have q0 : q9wsI T N 0 x0.toInt = x1.toInt := H0
  have q1 : q9wsI T N 1 x0.toInt = x2.toInt := H1
  have q2 : q9wsI T N 2 x0.toInt = x3.toInt := H2
  have q3 : q9wsI T N 3 x0.toInt = x4.toInt := H3
  have y3 := q9ws_01 (T := T) (N := N) (t := 3) (i := x0.toInt)
  have rg0 : (3 : Int) ≤ 3 ∧ (3 : Int) ≤ 3 := by omega
  obtain ⟨x5, nt5⟩ : ∃ x : Int32, x.toInt = 3 := ⟨Int32.ofInt (3), q9oI_toInt (by omega)⟩
  have u_ : q9upN w 6 [.int x5] 0 = .int 0 := q9upN_of (by decide) w0
  have u0 : q9upN w 6 [.int x5] 1 = .int x0 := q9upN_of (by decide) ae0
  have u1 : q9upN w 6 [.int x5] 2 = .int x1 := q9upN_of (by decide) ae1
  have u2 : q9upN w 6 [.int x5] 3 = .int x2 := q9upN_of (by decide) ae2
  have u3 : q9upN w 6 [.int x5] 4 = .int x3 := q9upN_of (by decide) ae3
  have u4 : q9upN w 6 [.int x5] 5 = .int x4 := q9upN_of (by decide) ae4
  have u5 : q9upN w 6 [.int x5] 6 = .int x5 := q9upN_at (by decide)
  refine ⟨[.int x5], fun i9 p9 hq9 => ?_, fun _ h => absurd h List.not_mem_nil, fun _ h => absurd h List.not_mem_nil⟩
  · match i9, hq9 with
    | 0, hq9 =>
      have hp9 : ((1013, (1, 0), (0, 0), (0, 3, 3)) : Nat × q9AV × q9AV × q9ET) = p9 := Option.some.inj hq9
      subst hp9
      exact ⟨⟨x5, rfl, by rw [nt5]; exact rg0.1, by rw [nt5]; exact rg0.2⟩, (q9th_tX (T := T) (N := N) (P := P) (J := J) (t0 := t0) (Sc := Sc) (q9evS u0) (q9evZ u_) (q9evS u5) (by rw [q9FF_1013, nt5]; exact (by unfold q9kbI; rw [if_neg (by omega), if_neg (by omega), if_neg (by omega), if_pos (by omega)])) (by decide)).trans (congrArg some (q9evS u5))⟩
    | k9 + 1, hq9 => exact nomatch (show (none : Option (Nat × q9AV × q9AV × q9ET)) = some p9 from hq9)
theorem q9ru_kb4 (hT : ∀ i, 0 ≤ T i ∧ T i ≤ 255) (hN : 0 ≤ N ∧ N ≤ 400) (hSc : 0 ≤ Sc 1 ∧ Sc 1 ≤ 400 → N = Sc 1) : q9ruOK (fO T N P J t0 Sc) q9R_kb4 := by
  intro w w0 hA hX hL hV hR
  obtain ⟨x0, ae0, -, -⟩ := hA 0 0 rfl
  obtain ⟨x1, ae1, -, -⟩ := hA 1 0 rfl
  obtain ⟨x2, ae2, -, -⟩ := hA 2 0 rfl
  obtain ⟨x3, ae3, -, -⟩ := hA 3 0 rfl
  obtain ⟨x4, ae4, -, -⟩ := hA 4 0 rfl
  obtain ⟨x5, ae5, -, -⟩ := hA 5 0 rfl
  have kz : (0 : Int32).toInt = 0 := rfl
  have k1 : (Int32.ofInt 1).toInt = 1 := q9oI_toInt (by decide)
  have X0 := q9th_pX (T := T) (N := N) (P := P) (J := J) (t0 := t0) (Sc := Sc) (op := 1100) (q9evS ae0) (q9evZ w0) (q9evS ae1) (hX _ (List.mem_of_getElem? (i := 0) rfl)) (by decide)
  rw [q9FF_1100] at X0
  have H0 := Option.some.inj X0
  try simp only [kz, k1] at H0
  have X1 := q9th_pX (T := T) (N := N) (P := P) (J := J) (t0 := t0) (Sc := Sc) (op := 1101) (q9evS ae0) (q9evZ w0) (q9evS ae2) (hX _ (List.mem_of_getElem? (i := 1) rfl)) (by decide)
  rw [q9FF_1101] at X1
  have H1 := Option.some.inj X1
  try simp only [kz, k1] at H1
  have X2 := q9th_pX (T := T) (N := N) (P := P) (J := J) (t0 := t0) (Sc := Sc) (op := 1102) (q9evS ae0) (q9evZ w0) (q9evS ae3) (hX _ (List.mem_of_getElem? (i := 2) rfl)) (by decide)
  rw [q9FF_1102] at X2
  have H2 := Option.some.inj X2
  try simp only [kz, k1] at H2
  have X3 := q9th_pX (T := T) (N := N) (P := P) (J := J) (t0 := t0) (Sc := Sc) (op := 1103) (q9evS ae0) (q9evZ w0) (q9evS ae4) (hX _ (List.mem_of_getElem? (i := 3) rfl)) (by decide)
  rw [q9FF_1103] at X3
  have H3 := Option.some.inj X3
  try simp only [kz, k1] at H3
  have X4 := q9th_pX (T := T) (N := N) (P := P) (J := J) (t0 := t0) (Sc := Sc) (op := 1104) (q9evS ae0) (q9evZ w0) (q9evS ae5) (hX _ (List.mem_of_getElem? (i := 4) rfl)) (by decide)
  rw [q9FF_1104] at X4
  have H4 := Option.some.inj X4
  try simp only [kz, k1] at H4
  have L0 : x1.toInt ≤ (0 : Int32).toInt + 0 := q9pC (q9evS ae1) (q9evZ w0) (hL _ (List.mem_of_getElem? (i := 0) rfl))
  have L1 : x2.toInt ≤ (0 : Int32).toInt + 0 := q9pC (q9evS ae2) (q9evZ w0) (hL _ (List.mem_of_getElem? (i := 1) rfl))
  have L2 : x3.toInt ≤ (0 : Int32).toInt + 0 := q9pC (q9evS ae3) (q9evZ w0) (hL _ (List.mem_of_getElem? (i := 2) rfl))
  have L3 : x4.toInt ≤ (0 : Int32).toInt + 0 := q9pC (q9evS ae4) (q9evZ w0) (hL _ (List.mem_of_getElem? (i := 3) rfl))
  have L4 : (Int32.ofInt 1).toInt ≤ x5.toInt + 0 := q9pC (q9evC w0 1) (q9evS ae5) (hL _ (List.mem_of_getElem? (i := 4) rfl))
  have L5 : (0 : Int32).toInt ≤ x0.toInt + 0 := q9pC (q9evZ w0) (q9evS ae0) (hL _ (List.mem_of_getElem? (i := 5) rfl))
  have q0 : q9wsI T N 0 x0.toInt = x1.toInt := H0
  have q1 : q9wsI T N 1 x0.toInt = x2.toInt := H1
  have q2 : q9wsI T N 2 x0.toInt = x3.toInt := H2
  have q3 : q9wsI T N 3 x0.toInt = x4.toInt := H3
  have q4 : q9wsI T N 4 x0.toInt = x5.toInt := H4
  have y4 := q9ws_01 (T := T) (N := N) (t := 4) (i := x0.toInt)
  have rg0 : (4 : Int) ≤ 4 ∧ (4 : Int) ≤ 4 := by omega
  obtain ⟨x6, nt6⟩ : ∃ x : Int32, x.toInt = 4 := ⟨Int32.ofInt (4), q9oI_toInt (by omega)⟩
  have u_ : q9upN w 7 [.int x6] 0 = .int 0 := q9upN_of (by decide) w0
  have u0 : q9upN w 7 [.int x6] 1 = .int x0 := q9upN_of (by decide) ae0
  have u1 : q9upN w 7 [.int x6] 2 = .int x1 := q9upN_of (by decide) ae1
  have u2 : q9upN w 7 [.int x6] 3 = .int x2 := q9upN_of (by decide) ae2
  have u3 : q9upN w 7 [.int x6] 4 = .int x3 := q9upN_of (by decide) ae3
  have u4 : q9upN w 7 [.int x6] 5 = .int x4 := q9upN_of (by decide) ae4
  have u5 : q9upN w 7 [.int x6] 6 = .int x5 := q9upN_of (by decide) ae5
  have u6 : q9upN w 7 [.int x6] 7 = .int x6 := q9upN_at (by decide)
  refine ⟨[.int x6], fun i9 p9 hq9 => ?_, fun _ h => absurd h List.not_mem_nil, fun _ h => absurd h List.not_mem_nil⟩
  · match i9, hq9 with
    | 0, hq9 =>
      have hp9 : ((1013, (1, 0), (0, 0), (0, 4, 4)) : Nat × q9AV × q9AV × q9ET) = p9 := Option.some.inj hq9
      subst hp9
      exact ⟨⟨x6, rfl, by rw [nt6]; exact rg0.1, by rw [nt6]; exact rg0.2⟩, (q9th_tX (T := T) (N := N) (P := P) (J := J) (t0 := t0) (Sc := Sc) (q9evS u0) (q9evZ u_) (q9evS u6) (by rw [q9FF_1013, nt6]; exact (by unfold q9kbI; rw [if_neg (by omega), if_neg (by omega), if_neg (by omega), if_neg (by omega), if_pos (by omega)])) (by decide)).trans (congrArg some (q9evS u6))⟩
    | k9 + 1, hq9 => exact nomatch (show (none : Option (Nat × q9AV × q9AV × q9ET)) = some p9 from hq9)
theorem q9ru_kb5 (hT : ∀ i, 0 ≤ T i ∧ T i ≤ 255) (hN : 0 ≤ N ∧ N ≤ 400) (hSc : 0 ≤ Sc 1 ∧ Sc 1 ≤ 400 → N = Sc 1) : q9ruOK (fO T N P J t0 Sc) q9R_kb5 := by
  intro w w0 hA hX hL hV hR
  obtain ⟨x0, ae0, -, -⟩ := hA 0 0 rfl
  obtain ⟨x1, ae1, -, -⟩ := hA 1 0 rfl
  obtain ⟨x2, ae2, -, -⟩ := hA 2 0 rfl
  obtain ⟨x3, ae3, -, -⟩ := hA 3 0 rfl
  obtain ⟨x4, ae4, -, -⟩ := hA 4 0 rfl
  obtain ⟨x5, ae5, -, -⟩ := hA 5 0 rfl
  obtain ⟨x6, ae6, -, -⟩ := hA 6 0 rfl
  have kz : (0 : Int32).toInt = 0 := rfl
  have k1 : (Int32.ofInt 1).toInt = 1 := q9oI_toInt (by decide)
  have X0 := q9th_pX (T := T) (N := N) (P := P) (J := J) (t0 := t0) (Sc := Sc) (op := 1100) (q9evS ae0) (q9evZ w0) (q9evS ae1) (hX _ (List.mem_of_getElem? (i := 0) rfl)) (by decide)
  rw [q9FF_1100] at X0
  have H0 := Option.some.inj X0
  try simp only [kz, k1] at H0
  have X1 := q9th_pX (T := T) (N := N) (P := P) (J := J) (t0 := t0) (Sc := Sc) (op := 1101) (q9evS ae0) (q9evZ w0) (q9evS ae2) (hX _ (List.mem_of_getElem? (i := 1) rfl)) (by decide)
  rw [q9FF_1101] at X1
  have H1 := Option.some.inj X1
  try simp only [kz, k1] at H1
  have X2 := q9th_pX (T := T) (N := N) (P := P) (J := J) (t0 := t0) (Sc := Sc) (op := 1102) (q9evS ae0) (q9evZ w0) (q9evS ae3) (hX _ (List.mem_of_getElem? (i := 2) rfl)) (by decide)
  rw [q9FF_1102] at X2
  have H2 := Option.some.inj X2
  try simp only [kz, k1] at H2
  have X3 := q9th_pX (T := T) (N := N) (P := P) (J := J) (t0 := t0) (Sc := Sc) (op := 1103) (q9evS ae0) (q9evZ w0) (q9evS ae4) (hX _ (List.mem_of_getElem? (i := 3) rfl)) (by decide)
  rw [q9FF_1103] at X3
  have H3 := Option.some.inj X3
  try simp only [kz, k1] at H3
  have X4 := q9th_pX (T := T) (N := N) (P := P) (J := J) (t0 := t0) (Sc := Sc) (op := 1104) (q9evS ae0) (q9evZ w0) (q9evS ae5) (hX _ (List.mem_of_getElem? (i := 4) rfl)) (by decide)
  rw [q9FF_1104] at X4
  have H4 := Option.some.inj X4
  try simp only [kz, k1] at H4
  have X5 := q9th_pX (T := T) (N := N) (P := P) (J := J) (t0 := t0) (Sc := Sc) (op := 1105) (q9evS ae0) (q9evZ w0) (q9evS ae6) (hX _ (List.mem_of_getElem? (i := 5) rfl)) (by decide)
  rw [q9FF_1105] at X5
  have H5 := Option.some.inj X5
  try simp only [kz, k1] at H5
  have L0 : x1.toInt ≤ (0 : Int32).toInt + 0 := q9pC (q9evS ae1) (q9evZ w0) (hL _ (List.mem_of_getElem? (i := 0) rfl))
  have L1 : x2.toInt ≤ (0 : Int32).toInt + 0 := q9pC (q9evS ae2) (q9evZ w0) (hL _ (List.mem_of_getElem? (i := 1) rfl))
  have L2 : x3.toInt ≤ (0 : Int32).toInt + 0 := q9pC (q9evS ae3) (q9evZ w0) (hL _ (List.mem_of_getElem? (i := 2) rfl))
  have L3 : x4.toInt ≤ (0 : Int32).toInt + 0 := q9pC (q9evS ae4) (q9evZ w0) (hL _ (List.mem_of_getElem? (i := 3) rfl))
  have L4 : x5.toInt ≤ (0 : Int32).toInt + 0 := q9pC (q9evS ae5) (q9evZ w0) (hL _ (List.mem_of_getElem? (i := 4) rfl))
  have L5 : (Int32.ofInt 1).toInt ≤ x6.toInt + 0 := q9pC (q9evC w0 1) (q9evS ae6) (hL _ (List.mem_of_getElem? (i := 5) rfl))
  have L6 : (0 : Int32).toInt ≤ x0.toInt + 0 := q9pC (q9evZ w0) (q9evS ae0) (hL _ (List.mem_of_getElem? (i := 6) rfl))
  have q0 : q9wsI T N 0 x0.toInt = x1.toInt := H0
  have q1 : q9wsI T N 1 x0.toInt = x2.toInt := H1
  have q2 : q9wsI T N 2 x0.toInt = x3.toInt := H2
  have q3 : q9wsI T N 3 x0.toInt = x4.toInt := H3
  have q4 : q9wsI T N 4 x0.toInt = x5.toInt := H4
  have q5 : q9wsI T N 5 x0.toInt = x6.toInt := H5
  have y5 := q9ws_01 (T := T) (N := N) (t := 5) (i := x0.toInt)
  have rg0 : (5 : Int) ≤ 5 ∧ (5 : Int) ≤ 5 := by omega
  obtain ⟨x7, nt7⟩ : ∃ x : Int32, x.toInt = 5 := ⟨Int32.ofInt (5), q9oI_toInt (by omega)⟩
  have u_ : q9upN w 8 [.int x7] 0 = .int 0 := q9upN_of (by decide) w0
  have u0 : q9upN w 8 [.int x7] 1 = .int x0 := q9upN_of (by decide) ae0
  have u1 : q9upN w 8 [.int x7] 2 = .int x1 := q9upN_of (by decide) ae1
  have u2 : q9upN w 8 [.int x7] 3 = .int x2 := q9upN_of (by decide) ae2
  have u3 : q9upN w 8 [.int x7] 4 = .int x3 := q9upN_of (by decide) ae3
  have u4 : q9upN w 8 [.int x7] 5 = .int x4 := q9upN_of (by decide) ae4
  have u5 : q9upN w 8 [.int x7] 6 = .int x5 := q9upN_of (by decide) ae5
  have u6 : q9upN w 8 [.int x7] 7 = .int x6 := q9upN_of (by decide) ae6
  have u7 : q9upN w 8 [.int x7] 8 = .int x7 := q9upN_at (by decide)
  refine ⟨[.int x7], fun i9 p9 hq9 => ?_, fun _ h => absurd h List.not_mem_nil, fun _ h => absurd h List.not_mem_nil⟩
  · match i9, hq9 with
    | 0, hq9 =>
      have hp9 : ((1013, (1, 0), (0, 0), (0, 5, 5)) : Nat × q9AV × q9AV × q9ET) = p9 := Option.some.inj hq9
      subst hp9
      exact ⟨⟨x7, rfl, by rw [nt7]; exact rg0.1, by rw [nt7]; exact rg0.2⟩, (q9th_tX (T := T) (N := N) (P := P) (J := J) (t0 := t0) (Sc := Sc) (q9evS u0) (q9evZ u_) (q9evS u7) (by rw [q9FF_1013, nt7]; exact (by unfold q9kbI; rw [if_neg (by omega), if_neg (by omega), if_neg (by omega), if_neg (by omega), if_neg (by omega), if_pos (by omega)])) (by decide)).trans (congrArg some (q9evS u7))⟩
    | k9 + 1, hq9 => exact nomatch (show (none : Option (Nat × q9AV × q9AV × q9ET)) = some p9 from hq9)
theorem q9ru_kb6 (hT : ∀ i, 0 ≤ T i ∧ T i ≤ 255) (hN : 0 ≤ N ∧ N ≤ 400) (hSc : 0 ≤ Sc 1 ∧ Sc 1 ≤ 400 → N = Sc 1) : q9ruOK (fO T N P J t0 Sc) q9R_kb6 := by
  intro w w0 hA hX hL hV hR
  obtain ⟨x0, ae0, -, -⟩ := hA 0 0 rfl
  obtain ⟨x1, ae1, -, -⟩ := hA 1 0 rfl
  obtain ⟨x2, ae2, -, -⟩ := hA 2 0 rfl
  obtain ⟨x3, ae3, -, -⟩ := hA 3 0 rfl
  obtain ⟨x4, ae4, -, -⟩ := hA 4 0 rfl
  obtain ⟨x5, ae5, -, -⟩ := hA 5 0 rfl
  obtain ⟨x6, ae6, -, -⟩ := hA 6 0 rfl
  obtain ⟨x7, ae7, -, -⟩ := hA 7 0 rfl
  have kz : (0 : Int32).toInt = 0 := rfl
  have k1 : (Int32.ofInt 1).toInt = 1 := q9oI_toInt (by decide)
  have X0 := q9th_pX (T := T) (N := N) (P := P) (J := J) (t0 := t0) (Sc := Sc) (op := 1100) (q9evS ae0) (q9evZ w0) (q9evS ae1) (hX _ (List.mem_of_getElem? (i := 0) rfl)) (by decide)
  rw [q9FF_1100] at X0
  have H0 := Option.some.inj X0
  try simp only [kz, k1] at H0
  have X1 := q9th_pX (T := T) (N := N) (P := P) (J := J) (t0 := t0) (Sc := Sc) (op := 1101) (q9evS ae0) (q9evZ w0) (q9evS ae2) (hX _ (List.mem_of_getElem? (i := 1) rfl)) (by decide)
  rw [q9FF_1101] at X1
  have H1 := Option.some.inj X1
  try simp only [kz, k1] at H1
  have X2 := q9th_pX (T := T) (N := N) (P := P) (J := J) (t0 := t0) (Sc := Sc) (op := 1102) (q9evS ae0) (q9evZ w0) (q9evS ae3) (hX _ (List.mem_of_getElem? (i := 2) rfl)) (by decide)
  rw [q9FF_1102] at X2
  have H2 := Option.some.inj X2
  try simp only [kz, k1] at H2
  have X3 := q9th_pX (T := T) (N := N) (P := P) (J := J) (t0 := t0) (Sc := Sc) (op := 1103) (q9evS ae0) (q9evZ w0) (q9evS ae4) (hX _ (List.mem_of_getElem? (i := 3) rfl)) (by decide)
  rw [q9FF_1103] at X3
  have H3 := Option.some.inj X3
  try simp only [kz, k1] at H3
  have X4 := q9th_pX (T := T) (N := N) (P := P) (J := J) (t0 := t0) (Sc := Sc) (op := 1104) (q9evS ae0) (q9evZ w0) (q9evS ae5) (hX _ (List.mem_of_getElem? (i := 4) rfl)) (by decide)
  rw [q9FF_1104] at X4
  have H4 := Option.some.inj X4
  try simp only [kz, k1] at H4
  have X5 := q9th_pX (T := T) (N := N) (P := P) (J := J) (t0 := t0) (Sc := Sc) (op := 1105) (q9evS ae0) (q9evZ w0) (q9evS ae6) (hX _ (List.mem_of_getElem? (i := 5) rfl)) (by decide)
  rw [q9FF_1105] at X5
  have H5 := Option.some.inj X5
  try simp only [kz, k1] at H5
  have X6 := q9th_pX (T := T) (N := N) (P := P) (J := J) (t0 := t0) (Sc := Sc) (op := 1106) (q9evS ae0) (q9evZ w0) (q9evS ae7) (hX _ (List.mem_of_getElem? (i := 6) rfl)) (by decide)
  rw [q9FF_1106] at X6
  have H6 := Option.some.inj X6
  try simp only [kz, k1] at H6
  have L0 : x1.toInt ≤ (0 : Int32).toInt + 0 := q9pC (q9evS ae1) (q9evZ w0) (hL _ (List.mem_of_getElem? (i := 0) rfl))
  have L1 : x2.toInt ≤ (0 : Int32).toInt + 0 := q9pC (q9evS ae2) (q9evZ w0) (hL _ (List.mem_of_getElem? (i := 1) rfl))
  have L2 : x3.toInt ≤ (0 : Int32).toInt + 0 := q9pC (q9evS ae3) (q9evZ w0) (hL _ (List.mem_of_getElem? (i := 2) rfl))
  have L3 : x4.toInt ≤ (0 : Int32).toInt + 0 := q9pC (q9evS ae4) (q9evZ w0) (hL _ (List.mem_of_getElem? (i := 3) rfl))
  have L4 : x5.toInt ≤ (0 : Int32).toInt + 0 := q9pC (q9evS ae5) (q9evZ w0) (hL _ (List.mem_of_getElem? (i := 4) rfl))
  have L5 : x6.toInt ≤ (0 : Int32).toInt + 0 := q9pC (q9evS ae6) (q9evZ w0) (hL _ (List.mem_of_getElem? (i := 5) rfl))
  have L6 : (Int32.ofInt 1).toInt ≤ x7.toInt + 0 := q9pC (q9evC w0 1) (q9evS ae7) (hL _ (List.mem_of_getElem? (i := 6) rfl))
  have L7 : (0 : Int32).toInt ≤ x0.toInt + 0 := q9pC (q9evZ w0) (q9evS ae0) (hL _ (List.mem_of_getElem? (i := 7) rfl))
  have q0 : q9wsI T N 0 x0.toInt = x1.toInt := H0
  have q1 : q9wsI T N 1 x0.toInt = x2.toInt := H1
  have q2 : q9wsI T N 2 x0.toInt = x3.toInt := H2
  have q3 : q9wsI T N 3 x0.toInt = x4.toInt := H3
  have q4 : q9wsI T N 4 x0.toInt = x5.toInt := H4
  have q5 : q9wsI T N 5 x0.toInt = x6.toInt := H5
  have q6 : q9wsI T N 6 x0.toInt = x7.toInt := H6
  have y6 := q9ws_01 (T := T) (N := N) (t := 6) (i := x0.toInt)
  have rg0 : (6 : Int) ≤ 6 ∧ (6 : Int) ≤ 6 := by omega
  obtain ⟨x8, nt8⟩ : ∃ x : Int32, x.toInt = 6 := ⟨Int32.ofInt (6), q9oI_toInt (by omega)⟩
  have u_ : q9upN w 9 [.int x8] 0 = .int 0 := q9upN_of (by decide) w0
  have u0 : q9upN w 9 [.int x8] 1 = .int x0 := q9upN_of (by decide) ae0
  have u1 : q9upN w 9 [.int x8] 2 = .int x1 := q9upN_of (by decide) ae1
  have u2 : q9upN w 9 [.int x8] 3 = .int x2 := q9upN_of (by decide) ae2
  have u3 : q9upN w 9 [.int x8] 4 = .int x3 := q9upN_of (by decide) ae3
  have u4 : q9upN w 9 [.int x8] 5 = .int x4 := q9upN_of (by decide) ae4
  have u5 : q9upN w 9 [.int x8] 6 = .int x5 := q9upN_of (by decide) ae5
  have u6 : q9upN w 9 [.int x8] 7 = .int x6 := q9upN_of (by decide) ae6
  have u7 : q9upN w 9 [.int x8] 8 = .int x7 := q9upN_of (by decide) ae7
  have u8 : q9upN w 9 [.int x8] 9 = .int x8 := q9upN_at (by decide)
  refine ⟨[.int x8], fun i9 p9 hq9 => ?_, fun _ h => absurd h List.not_mem_nil, fun _ h => absurd h List.not_mem_nil⟩
  · match i9, hq9 with
    | 0, hq9 =>
      have hp9 : ((1013, (1, 0), (0, 0), (0, 6, 6)) : Nat × q9AV × q9AV × q9ET) = p9 := Option.some.inj hq9
      subst hp9
      exact ⟨⟨x8, rfl, by rw [nt8]; exact rg0.1, by rw [nt8]; exact rg0.2⟩, (q9th_tX (T := T) (N := N) (P := P) (J := J) (t0 := t0) (Sc := Sc) (q9evS u0) (q9evZ u_) (q9evS u8) (by rw [q9FF_1013, nt8]; exact (by unfold q9kbI; rw [if_neg (by omega), if_neg (by omega), if_neg (by omega), if_neg (by omega), if_neg (by omega), if_neg (by omega), if_pos (by omega)])) (by decide)).trans (congrArg some (q9evS u8))⟩
    | k9 + 1, hq9 => exact nomatch (show (none : Option (Nat × q9AV × q9AV × q9ET)) = some p9 from hq9)
theorem q9ru_kb7 (hT : ∀ i, 0 ≤ T i ∧ T i ≤ 255) (hN : 0 ≤ N ∧ N ≤ 400) (hSc : 0 ≤ Sc 1 ∧ Sc 1 ≤ 400 → N = Sc 1) : q9ruOK (fO T N P J t0 Sc) q9R_kb7 := by
  intro w w0 hA hX hL hV hR
  obtain ⟨x0, ae0, -, -⟩ := hA 0 0 rfl
  obtain ⟨x1, ae1, -, -⟩ := hA 1 0 rfl
  obtain ⟨x2, ae2, -, -⟩ := hA 2 0 rfl
  obtain ⟨x3, ae3, -, -⟩ := hA 3 0 rfl
  obtain ⟨x4, ae4, -, -⟩ := hA 4 0 rfl
  obtain ⟨x5, ae5, -, -⟩ := hA 5 0 rfl
  obtain ⟨x6, ae6, -, -⟩ := hA 6 0 rfl
  obtain ⟨x7, ae7, -, -⟩ := hA 7 0 rfl
  obtain ⟨x8, ae8, -, -⟩ := hA 8 0 rfl
  have kz : (0 : Int32).toInt = 0 := rfl
  have k1 : (Int32.ofInt 1).toInt = 1 := q9oI_toInt (by decide)
  have X0 := q9th_pX (T := T) (N := N) (P := P) (J := J) (t0 := t0) (Sc := Sc) (op := 1100) (q9evS ae0) (q9evZ w0) (q9evS ae1) (hX _ (List.mem_of_getElem? (i := 0) rfl)) (by decide)
  rw [q9FF_1100] at X0
  have H0 := Option.some.inj X0
  try simp only [kz, k1] at H0
  have X1 := q9th_pX (T := T) (N := N) (P := P) (J := J) (t0 := t0) (Sc := Sc) (op := 1101) (q9evS ae0) (q9evZ w0) (q9evS ae2) (hX _ (List.mem_of_getElem? (i := 1) rfl)) (by decide)
  rw [q9FF_1101] at X1
  have H1 := Option.some.inj X1
  try simp only [kz, k1] at H1
  have X2 := q9th_pX (T := T) (N := N) (P := P) (J := J) (t0 := t0) (Sc := Sc) (op := 1102) (q9evS ae0) (q9evZ w0) (q9evS ae3) (hX _ (List.mem_of_getElem? (i := 2) rfl)) (by decide)
  rw [q9FF_1102] at X2
  have H2 := Option.some.inj X2
  try simp only [kz, k1] at H2
  have X3 := q9th_pX (T := T) (N := N) (P := P) (J := J) (t0 := t0) (Sc := Sc) (op := 1103) (q9evS ae0) (q9evZ w0) (q9evS ae4) (hX _ (List.mem_of_getElem? (i := 3) rfl)) (by decide)
  rw [q9FF_1103] at X3
  have H3 := Option.some.inj X3
  try simp only [kz, k1] at H3
  have X4 := q9th_pX (T := T) (N := N) (P := P) (J := J) (t0 := t0) (Sc := Sc) (op := 1104) (q9evS ae0) (q9evZ w0) (q9evS ae5) (hX _ (List.mem_of_getElem? (i := 4) rfl)) (by decide)
  rw [q9FF_1104] at X4
  have H4 := Option.some.inj X4
  try simp only [kz, k1] at H4
  have X5 := q9th_pX (T := T) (N := N) (P := P) (J := J) (t0 := t0) (Sc := Sc) (op := 1105) (q9evS ae0) (q9evZ w0) (q9evS ae6) (hX _ (List.mem_of_getElem? (i := 5) rfl)) (by decide)
  rw [q9FF_1105] at X5
  have H5 := Option.some.inj X5
  try simp only [kz, k1] at H5
  have X6 := q9th_pX (T := T) (N := N) (P := P) (J := J) (t0 := t0) (Sc := Sc) (op := 1106) (q9evS ae0) (q9evZ w0) (q9evS ae7) (hX _ (List.mem_of_getElem? (i := 6) rfl)) (by decide)
  rw [q9FF_1106] at X6
  have H6 := Option.some.inj X6
  try simp only [kz, k1] at H6
  have X7 := q9th_pX (T := T) (N := N) (P := P) (J := J) (t0 := t0) (Sc := Sc) (op := 1107) (q9evS ae0) (q9evZ w0) (q9evS ae8) (hX _ (List.mem_of_getElem? (i := 7) rfl)) (by decide)
  rw [q9FF_1107] at X7
  have H7 := Option.some.inj X7
  try simp only [kz, k1] at H7
  have L0 : x1.toInt ≤ (0 : Int32).toInt + 0 := q9pC (q9evS ae1) (q9evZ w0) (hL _ (List.mem_of_getElem? (i := 0) rfl))
  have L1 : x2.toInt ≤ (0 : Int32).toInt + 0 := q9pC (q9evS ae2) (q9evZ w0) (hL _ (List.mem_of_getElem? (i := 1) rfl))
  have L2 : x3.toInt ≤ (0 : Int32).toInt + 0 := q9pC (q9evS ae3) (q9evZ w0) (hL _ (List.mem_of_getElem? (i := 2) rfl))
  have L3 : x4.toInt ≤ (0 : Int32).toInt + 0 := q9pC (q9evS ae4) (q9evZ w0) (hL _ (List.mem_of_getElem? (i := 3) rfl))
  have L4 : x5.toInt ≤ (0 : Int32).toInt + 0 := q9pC (q9evS ae5) (q9evZ w0) (hL _ (List.mem_of_getElem? (i := 4) rfl))
  have L5 : x6.toInt ≤ (0 : Int32).toInt + 0 := q9pC (q9evS ae6) (q9evZ w0) (hL _ (List.mem_of_getElem? (i := 5) rfl))
  have L6 : x7.toInt ≤ (0 : Int32).toInt + 0 := q9pC (q9evS ae7) (q9evZ w0) (hL _ (List.mem_of_getElem? (i := 6) rfl))
  have L7 : (Int32.ofInt 1).toInt ≤ x8.toInt + 0 := q9pC (q9evC w0 1) (q9evS ae8) (hL _ (List.mem_of_getElem? (i := 7) rfl))
  have L8 : (0 : Int32).toInt ≤ x0.toInt + 0 := q9pC (q9evZ w0) (q9evS ae0) (hL _ (List.mem_of_getElem? (i := 8) rfl))
  have q0 : q9wsI T N 0 x0.toInt = x1.toInt := H0
  have q1 : q9wsI T N 1 x0.toInt = x2.toInt := H1
  have q2 : q9wsI T N 2 x0.toInt = x3.toInt := H2
  have q3 : q9wsI T N 3 x0.toInt = x4.toInt := H3
  have q4 : q9wsI T N 4 x0.toInt = x5.toInt := H4
  have q5 : q9wsI T N 5 x0.toInt = x6.toInt := H5
  have q6 : q9wsI T N 6 x0.toInt = x7.toInt := H6
  have q7 : q9wsI T N 7 x0.toInt = x8.toInt := H7
  have y7 := q9ws_01 (T := T) (N := N) (t := 7) (i := x0.toInt)
  have rg0 : (7 : Int) ≤ 7 ∧ (7 : Int) ≤ 7 := by omega
  obtain ⟨x9, nt9⟩ : ∃ x : Int32, x.toInt = 7 := ⟨Int32.ofInt (7), q9oI_toInt (by omega)⟩
  have u_ : q9upN w 10 [.int x9] 0 = .int 0 := q9upN_of (by decide) w0
  have u0 : q9upN w 10 [.int x9] 1 = .int x0 := q9upN_of (by decide) ae0
  have u1 : q9upN w 10 [.int x9] 2 = .int x1 := q9upN_of (by decide) ae1
  have u2 : q9upN w 10 [.int x9] 3 = .int x2 := q9upN_of (by decide) ae2
  have u3 : q9upN w 10 [.int x9] 4 = .int x3 := q9upN_of (by decide) ae3
  have u4 : q9upN w 10 [.int x9] 5 = .int x4 := q9upN_of (by decide) ae4
  have u5 : q9upN w 10 [.int x9] 6 = .int x5 := q9upN_of (by decide) ae5
  have u6 : q9upN w 10 [.int x9] 7 = .int x6 := q9upN_of (by decide) ae6
  have u7 : q9upN w 10 [.int x9] 8 = .int x7 := q9upN_of (by decide) ae7
  have u8 : q9upN w 10 [.int x9] 9 = .int x8 := q9upN_of (by decide) ae8
  have u9 : q9upN w 10 [.int x9] 10 = .int x9 := q9upN_at (by decide)
  refine ⟨[.int x9], fun i9 p9 hq9 => ?_, fun _ h => absurd h List.not_mem_nil, fun _ h => absurd h List.not_mem_nil⟩
  · match i9, hq9 with
    | 0, hq9 =>
      have hp9 : ((1013, (1, 0), (0, 0), (0, 7, 7)) : Nat × q9AV × q9AV × q9ET) = p9 := Option.some.inj hq9
      subst hp9
      exact ⟨⟨x9, rfl, by rw [nt9]; exact rg0.1, by rw [nt9]; exact rg0.2⟩, (q9th_tX (T := T) (N := N) (P := P) (J := J) (t0 := t0) (Sc := Sc) (q9evS u0) (q9evZ u_) (q9evS u9) (by rw [q9FF_1013, nt9]; exact (by unfold q9kbI; rw [if_neg (by omega), if_neg (by omega), if_neg (by omega), if_neg (by omega), if_neg (by omega), if_neg (by omega), if_neg (by omega), if_pos (by omega)])) (by decide)).trans (congrArg some (q9evS u9))⟩
    | k9 + 1, hq9 => exact nomatch (show (none : Option (Nat × q9AV × q9AV × q9ET)) = some p9 from hq9)
theorem q9ru_kbn (hT : ∀ i, 0 ≤ T i ∧ T i ≤ 255) (hN : 0 ≤ N ∧ N ≤ 400) (hSc : 0 ≤ Sc 1 ∧ Sc 1 ≤ 400 → N = Sc 1) : q9ruOK (fO T N P J t0 Sc) q9R_kbn := by
  intro w w0 hA hX hL hV hR
  obtain ⟨x0, ae0, -, -⟩ := hA 0 0 rfl
  obtain ⟨x1, ae1, -, -⟩ := hA 1 0 rfl
  obtain ⟨x2, ae2, -, -⟩ := hA 2 0 rfl
  obtain ⟨x3, ae3, -, -⟩ := hA 3 0 rfl
  obtain ⟨x4, ae4, -, -⟩ := hA 4 0 rfl
  obtain ⟨x5, ae5, -, -⟩ := hA 5 0 rfl
  obtain ⟨x6, ae6, -, -⟩ := hA 6 0 rfl
  obtain ⟨x7, ae7, -, -⟩ := hA 7 0 rfl
  obtain ⟨x8, ae8, -, -⟩ := hA 8 0 rfl
  have kz : (0 : Int32).toInt = 0 := rfl
  have X0 := q9th_pX (T := T) (N := N) (P := P) (J := J) (t0 := t0) (Sc := Sc) (op := 1100) (q9evS ae0) (q9evZ w0) (q9evS ae1) (hX _ (List.mem_of_getElem? (i := 0) rfl)) (by decide)
  rw [q9FF_1100] at X0
  have H0 := Option.some.inj X0
  try simp only [kz] at H0
  have X1 := q9th_pX (T := T) (N := N) (P := P) (J := J) (t0 := t0) (Sc := Sc) (op := 1101) (q9evS ae0) (q9evZ w0) (q9evS ae2) (hX _ (List.mem_of_getElem? (i := 1) rfl)) (by decide)
  rw [q9FF_1101] at X1
  have H1 := Option.some.inj X1
  try simp only [kz] at H1
  have X2 := q9th_pX (T := T) (N := N) (P := P) (J := J) (t0 := t0) (Sc := Sc) (op := 1102) (q9evS ae0) (q9evZ w0) (q9evS ae3) (hX _ (List.mem_of_getElem? (i := 2) rfl)) (by decide)
  rw [q9FF_1102] at X2
  have H2 := Option.some.inj X2
  try simp only [kz] at H2
  have X3 := q9th_pX (T := T) (N := N) (P := P) (J := J) (t0 := t0) (Sc := Sc) (op := 1103) (q9evS ae0) (q9evZ w0) (q9evS ae4) (hX _ (List.mem_of_getElem? (i := 3) rfl)) (by decide)
  rw [q9FF_1103] at X3
  have H3 := Option.some.inj X3
  try simp only [kz] at H3
  have X4 := q9th_pX (T := T) (N := N) (P := P) (J := J) (t0 := t0) (Sc := Sc) (op := 1104) (q9evS ae0) (q9evZ w0) (q9evS ae5) (hX _ (List.mem_of_getElem? (i := 4) rfl)) (by decide)
  rw [q9FF_1104] at X4
  have H4 := Option.some.inj X4
  try simp only [kz] at H4
  have X5 := q9th_pX (T := T) (N := N) (P := P) (J := J) (t0 := t0) (Sc := Sc) (op := 1105) (q9evS ae0) (q9evZ w0) (q9evS ae6) (hX _ (List.mem_of_getElem? (i := 5) rfl)) (by decide)
  rw [q9FF_1105] at X5
  have H5 := Option.some.inj X5
  try simp only [kz] at H5
  have X6 := q9th_pX (T := T) (N := N) (P := P) (J := J) (t0 := t0) (Sc := Sc) (op := 1106) (q9evS ae0) (q9evZ w0) (q9evS ae7) (hX _ (List.mem_of_getElem? (i := 6) rfl)) (by decide)
  rw [q9FF_1106] at X6
  have H6 := Option.some.inj X6
  try simp only [kz] at H6
  have X7 := q9th_pX (T := T) (N := N) (P := P) (J := J) (t0 := t0) (Sc := Sc) (op := 1107) (q9evS ae0) (q9evZ w0) (q9evS ae8) (hX _ (List.mem_of_getElem? (i := 7) rfl)) (by decide)
  rw [q9FF_1107] at X7
  have H7 := Option.some.inj X7
  try simp only [kz] at H7
  have L0 : x1.toInt ≤ (0 : Int32).toInt + 0 := q9pC (q9evS ae1) (q9evZ w0) (hL _ (List.mem_of_getElem? (i := 0) rfl))
  have L1 : x2.toInt ≤ (0 : Int32).toInt + 0 := q9pC (q9evS ae2) (q9evZ w0) (hL _ (List.mem_of_getElem? (i := 1) rfl))
  have L2 : x3.toInt ≤ (0 : Int32).toInt + 0 := q9pC (q9evS ae3) (q9evZ w0) (hL _ (List.mem_of_getElem? (i := 2) rfl))
  have L3 : x4.toInt ≤ (0 : Int32).toInt + 0 := q9pC (q9evS ae4) (q9evZ w0) (hL _ (List.mem_of_getElem? (i := 3) rfl))
  have L4 : x5.toInt ≤ (0 : Int32).toInt + 0 := q9pC (q9evS ae5) (q9evZ w0) (hL _ (List.mem_of_getElem? (i := 4) rfl))
  have L5 : x6.toInt ≤ (0 : Int32).toInt + 0 := q9pC (q9evS ae6) (q9evZ w0) (hL _ (List.mem_of_getElem? (i := 5) rfl))
  have L6 : x7.toInt ≤ (0 : Int32).toInt + 0 := q9pC (q9evS ae7) (q9evZ w0) (hL _ (List.mem_of_getElem? (i := 6) rfl))
  have L7 : x8.toInt ≤ (0 : Int32).toInt + 0 := q9pC (q9evS ae8) (q9evZ w0) (hL _ (List.mem_of_getElem? (i := 7) rfl))
  have L8 : (0 : Int32).toInt ≤ x0.toInt + 0 := q9pC (q9evZ w0) (q9evS ae0) (hL _ (List.mem_of_getElem? (i := 8) rfl))
  have q0 : q9wsI T N 0 x0.toInt = x1.toInt := H0
  have q1 : q9wsI T N 1 x0.toInt = x2.toInt := H1
  have q2 : q9wsI T N 2 x0.toInt = x3.toInt := H2
  have q3 : q9wsI T N 3 x0.toInt = x4.toInt := H3
  have q4 : q9wsI T N 4 x0.toInt = x5.toInt := H4
  have q5 : q9wsI T N 5 x0.toInt = x6.toInt := H5
  have q6 : q9wsI T N 6 x0.toInt = x7.toInt := H6
  have q7 : q9wsI T N 7 x0.toInt = x8.toInt := H7
  have rg0 : ((-1) : Int) ≤ (-1) ∧ ((-1) : Int) ≤ (-1) := by omega
  obtain ⟨x9, nt9⟩ : ∃ x : Int32, x.toInt = (-1) := ⟨Int32.ofInt ((-1)), q9oI_toInt (by omega)⟩
  have u_ : q9upN w 10 [.int x9] 0 = .int 0 := q9upN_of (by decide) w0
  have u0 : q9upN w 10 [.int x9] 1 = .int x0 := q9upN_of (by decide) ae0
  have u1 : q9upN w 10 [.int x9] 2 = .int x1 := q9upN_of (by decide) ae1
  have u2 : q9upN w 10 [.int x9] 3 = .int x2 := q9upN_of (by decide) ae2
  have u3 : q9upN w 10 [.int x9] 4 = .int x3 := q9upN_of (by decide) ae3
  have u4 : q9upN w 10 [.int x9] 5 = .int x4 := q9upN_of (by decide) ae4
  have u5 : q9upN w 10 [.int x9] 6 = .int x5 := q9upN_of (by decide) ae5
  have u6 : q9upN w 10 [.int x9] 7 = .int x6 := q9upN_of (by decide) ae6
  have u7 : q9upN w 10 [.int x9] 8 = .int x7 := q9upN_of (by decide) ae7
  have u8 : q9upN w 10 [.int x9] 9 = .int x8 := q9upN_of (by decide) ae8
  have u9 : q9upN w 10 [.int x9] 10 = .int x9 := q9upN_at (by decide)
  refine ⟨[.int x9], fun i9 p9 hq9 => ?_, fun _ h => absurd h List.not_mem_nil, fun _ h => absurd h List.not_mem_nil⟩
  · match i9, hq9 with
    | 0, hq9 =>
      have hp9 : ((1013, (1, 0), (0, 0), (0, (-1), (-1))) : Nat × q9AV × q9AV × q9ET) = p9 := Option.some.inj hq9
      subst hp9
      exact ⟨⟨x9, rfl, by rw [nt9]; exact rg0.1, by rw [nt9]; exact rg0.2⟩, (q9th_tX (T := T) (N := N) (P := P) (J := J) (t0 := t0) (Sc := Sc) (q9evS u0) (q9evZ u_) (q9evS u9) (by rw [q9FF_1013, nt9]; exact (by unfold q9kbI; rw [if_neg (by omega), if_neg (by omega), if_neg (by omega), if_neg (by omega), if_neg (by omega), if_neg (by omega), if_neg (by omega), if_neg (by omega)])) (by decide)).trans (congrArg some (q9evS u9))⟩
    | k9 + 1, hq9 => exact nomatch (show (none : Option (Nat × q9AV × q9AV × q9ET)) = some p9 from hq9)
theorem q9ru_am0 (hT : ∀ i, 0 ≤ T i ∧ T i ≤ 255) (hN : 0 ≤ N ∧ N ≤ 400) (hSc : 0 ≤ Sc 1 ∧ Sc 1 ≤ 400 → N = Sc 1) : q9ruOK (fO T N P J t0 Sc) q9R_am0 := by
  intro w w0 hA hX hL hV hR
  obtain ⟨x0, ae0, -, -⟩ := hA 0 0 rfl
  obtain ⟨x1, ae1, -, -⟩ := hA 1 0 rfl
  obtain ⟨x2, ae2, -, -⟩ := hA 2 0 rfl
  have kz : (0 : Int32).toInt = 0 := rfl
  have X0 := q9th_pX (T := T) (N := N) (P := P) (J := J) (t0 := t0) (Sc := Sc) (op := 1002) (q9evS ae0) (q9evZ w0) (q9evS ae1) (hX _ (List.mem_of_getElem? (i := 0) rfl)) (by decide)
  rw [q9FF_1002] at X0
  have H0 := Option.some.inj X0
  try simp only [kz] at H0
  have X1 := q9th_pX (T := T) (N := N) (P := P) (J := J) (t0 := t0) (Sc := Sc) (op := 1005) (q9evS ae1) (q9evZ w0) (q9evS ae2) (hX _ (List.mem_of_getElem? (i := 1) rfl)) (by decide)
  rw [q9FF_1005] at X1
  have H1 := Option.some.inj X1
  try simp only [kz] at H1
  have L0 : (0 : Int32).toInt ≤ x0.toInt + 0 := q9pC (q9evZ w0) (q9evS ae0) (hL _ (List.mem_of_getElem? (i := 0) rfl))
  have u_ : q9upN w 4 [] 0 = .int 0 := q9upN_of (by decide) w0
  have u0 : q9upN w 4 [] 1 = .int x0 := q9upN_of (by decide) ae0
  have u1 : q9upN w 4 [] 2 = .int x1 := q9upN_of (by decide) ae1
  have u2 : q9upN w 4 [] 3 = .int x2 := q9upN_of (by decide) ae2
  refine ⟨[], fun i9 p9 hq9 => ?_, List.forall_mem_cons.mpr ⟨?_, fun _ h => absurd h List.not_mem_nil⟩, fun _ h => absurd h List.not_mem_nil⟩
  · exact nomatch (show (none : Option (Nat × q9AV × q9AV × q9ET)) = some p9 from hq9)
  · exact q9th_tX (T := T) (N := N) (P := P) (J := J) (t0 := t0) (Sc := Sc) (q9evS u0) (q9evZ u_) (q9evS u2) (by rw [q9FF_1300]; exact (show some (q9amI T N P J 0 x0.toInt) = _ by unfold q9amI; rw [if_pos (.inl rfl), H0, H1])) (by decide)
theorem q9ru_am7 (hT : ∀ i, 0 ≤ T i ∧ T i ≤ 255) (hN : 0 ≤ N ∧ N ≤ 400) (hSc : 0 ≤ Sc 1 ∧ Sc 1 ≤ 400 → N = Sc 1) : q9ruOK (fO T N P J t0 Sc) q9R_am7 := by
  intro w w0 hA hX hL hV hR
  obtain ⟨x0, ae0, -, -⟩ := hA 0 0 rfl
  obtain ⟨x1, ae1, -, -⟩ := hA 1 0 rfl
  obtain ⟨x2, ae2, -, -⟩ := hA 2 0 rfl
  have kz : (0 : Int32).toInt = 0 := rfl
  have X0 := q9th_pX (T := T) (N := N) (P := P) (J := J) (t0 := t0) (Sc := Sc) (op := 1002) (q9evS ae0) (q9evZ w0) (q9evS ae1) (hX _ (List.mem_of_getElem? (i := 0) rfl)) (by decide)
  rw [q9FF_1002] at X0
  have H0 := Option.some.inj X0
  try simp only [kz] at H0
  have X1 := q9th_pX (T := T) (N := N) (P := P) (J := J) (t0 := t0) (Sc := Sc) (op := 1005) (q9evS ae1) (q9evZ w0) (q9evS ae2) (hX _ (List.mem_of_getElem? (i := 1) rfl)) (by decide)
  rw [q9FF_1005] at X1
  have H1 := Option.some.inj X1
  try simp only [kz] at H1
  have L0 : (0 : Int32).toInt ≤ x0.toInt + 0 := q9pC (q9evZ w0) (q9evS ae0) (hL _ (List.mem_of_getElem? (i := 0) rfl))
  have u_ : q9upN w 4 [] 0 = .int 0 := q9upN_of (by decide) w0
  have u0 : q9upN w 4 [] 1 = .int x0 := q9upN_of (by decide) ae0
  have u1 : q9upN w 4 [] 2 = .int x1 := q9upN_of (by decide) ae1
  have u2 : q9upN w 4 [] 3 = .int x2 := q9upN_of (by decide) ae2
  refine ⟨[], fun i9 p9 hq9 => ?_, List.forall_mem_cons.mpr ⟨?_, fun _ h => absurd h List.not_mem_nil⟩, fun _ h => absurd h List.not_mem_nil⟩
  · exact nomatch (show (none : Option (Nat × q9AV × q9AV × q9ET)) = some p9 from hq9)
  · exact q9th_tX (T := T) (N := N) (P := P) (J := J) (t0 := t0) (Sc := Sc) (q9evS u0) (q9evZ u_) (q9evS u2) (by rw [q9FF_1307]; exact (show some (q9amI T N P J 7 x0.toInt) = _ by unfold q9amI; rw [if_pos (.inr rfl), H0, H1])) (by decide)
theorem q9ru_am1 (hT : ∀ i, 0 ≤ T i ∧ T i ≤ 255) (hN : 0 ≤ N ∧ N ≤ 400) (hSc : 0 ≤ Sc 1 ∧ Sc 1 ≤ 400 → N = Sc 1) : q9ruOK (fO T N P J t0 Sc) q9R_am1 := by
  intro w w0 hA hX hL hV hR
  obtain ⟨x0, ae0, -, -⟩ := hA 0 0 rfl
  obtain ⟨x1, ae1, -, -⟩ := hA 1 0 rfl
  obtain ⟨x2, ae2, -, -⟩ := hA 2 0 rfl
  obtain ⟨x3, ae3, -, -⟩ := hA 3 0 rfl
  obtain ⟨x4, ae4, -, -⟩ := hA 4 0 rfl
  have kz : (0 : Int32).toInt = 0 := rfl
  have X0 := q9th_pX (T := T) (N := N) (P := P) (J := J) (t0 := t0) (Sc := Sc) (op := 1271) (q9evS ae0) (q9evZ w0) (q9evS ae1) (hX _ (List.mem_of_getElem? (i := 0) rfl)) (by decide)
  rw [q9FF_1271] at X0
  have H0 := Option.some.inj X0
  try simp only [kz] at H0
  have X1 := q9th_pX (T := T) (N := N) (P := P) (J := J) (t0 := t0) (Sc := Sc) (op := 1217) (q9evS ae1) (q9evZ w0) (q9evS ae2) (hX _ (List.mem_of_getElem? (i := 1) rfl)) (by decide)
  rw [q9FF_1217] at X1
  have H1 := Option.some.inj X1
  try simp only [kz] at H1
  have X2 := q9th_pX (T := T) (N := N) (P := P) (J := J) (t0 := t0) (Sc := Sc) (op := 1002) (q9evS ae2) (q9evZ w0) (q9evS ae3) (hX _ (List.mem_of_getElem? (i := 2) rfl)) (by decide)
  rw [q9FF_1002] at X2
  have H2 := Option.some.inj X2
  try simp only [kz] at H2
  have X3 := q9th_pX (T := T) (N := N) (P := P) (J := J) (t0 := t0) (Sc := Sc) (op := 1005) (q9evS ae3) (q9evZ w0) (q9evS ae4) (hX _ (List.mem_of_getElem? (i := 3) rfl)) (by decide)
  rw [q9FF_1005] at X3
  have H3 := Option.some.inj X3
  try simp only [kz] at H3
  have L0 : (0 : Int32).toInt ≤ x0.toInt + 0 := q9pC (q9evZ w0) (q9evS ae0) (hL _ (List.mem_of_getElem? (i := 0) rfl))
  have q1 : (q9tk35 T N P J x0.toInt).2 = x1.toInt := H0
  have q2 : (q9tkW T N [8] x1.toInt).2 = x2.toInt := H1
  have u_ : q9upN w 6 [] 0 = .int 0 := q9upN_of (by decide) w0
  have u0 : q9upN w 6 [] 1 = .int x0 := q9upN_of (by decide) ae0
  have u1 : q9upN w 6 [] 2 = .int x1 := q9upN_of (by decide) ae1
  have u2 : q9upN w 6 [] 3 = .int x2 := q9upN_of (by decide) ae2
  have u3 : q9upN w 6 [] 4 = .int x3 := q9upN_of (by decide) ae3
  have u4 : q9upN w 6 [] 5 = .int x4 := q9upN_of (by decide) ae4
  refine ⟨[], fun i9 p9 hq9 => ?_, List.forall_mem_cons.mpr ⟨?_, fun _ h => absurd h List.not_mem_nil⟩, fun _ h => absurd h List.not_mem_nil⟩
  · exact nomatch (show (none : Option (Nat × q9AV × q9AV × q9ET)) = some p9 from hq9)
  · exact q9th_tX (T := T) (N := N) (P := P) (J := J) (t0 := t0) (Sc := Sc) (q9evS u0) (q9evZ u_) (q9evS u4) (by rw [q9FF_1301]; exact (show some (q9amI T N P J 1 x0.toInt) = _ by unfold q9amI; rw [if_neg (by decide), if_pos rfl, q1, q2, H2, H3])) (by decide)
theorem q9ru_am6 (hT : ∀ i, 0 ≤ T i ∧ T i ≤ 255) (hN : 0 ≤ N ∧ N ≤ 400) (hSc : 0 ≤ Sc 1 ∧ Sc 1 ≤ 400 → N = Sc 1) : q9ruOK (fO T N P J t0 Sc) q9R_am6 := by
  intro w w0 hA hX hL hV hR
  obtain ⟨x0, ae0, -, -⟩ := hA 0 0 rfl
  obtain ⟨x1, ae1, -, -⟩ := hA 1 0 rfl
  obtain ⟨x2, ae2, -, -⟩ := hA 2 0 rfl
  obtain ⟨x3, ae3, -, -⟩ := hA 3 0 rfl
  obtain ⟨x4, ae4, -, -⟩ := hA 4 0 rfl
  obtain ⟨x5, ae5, -, -⟩ := hA 5 0 rfl
  have kz : (0 : Int32).toInt = 0 := rfl
  have X0 := q9th_pX (T := T) (N := N) (P := P) (J := J) (t0 := t0) (Sc := Sc) (op := 1221) (q9evS ae0) (q9evZ w0) (q9evS ae1) (hX _ (List.mem_of_getElem? (i := 0) rfl)) (by decide)
  rw [q9FF_1221] at X0
  have H0 := Option.some.inj X0
  try simp only [kz] at H0
  have X1 := q9th_pX (T := T) (N := N) (P := P) (J := J) (t0 := t0) (Sc := Sc) (op := 1209) (q9evS ae1) (q9evZ w0) (q9evS ae2) (hX _ (List.mem_of_getElem? (i := 1) rfl)) (by decide)
  rw [q9FF_1209] at X1
  have H1 := Option.some.inj X1
  try simp only [kz] at H1
  have X2 := q9th_pX (T := T) (N := N) (P := P) (J := J) (t0 := t0) (Sc := Sc) (op := 1217) (q9evS ae2) (q9evZ w0) (q9evS ae3) (hX _ (List.mem_of_getElem? (i := 2) rfl)) (by decide)
  rw [q9FF_1217] at X2
  have H2 := Option.some.inj X2
  try simp only [kz] at H2
  have X3 := q9th_pX (T := T) (N := N) (P := P) (J := J) (t0 := t0) (Sc := Sc) (op := 1002) (q9evS ae3) (q9evZ w0) (q9evS ae4) (hX _ (List.mem_of_getElem? (i := 3) rfl)) (by decide)
  rw [q9FF_1002] at X3
  have H3 := Option.some.inj X3
  try simp only [kz] at H3
  have X4 := q9th_pX (T := T) (N := N) (P := P) (J := J) (t0 := t0) (Sc := Sc) (op := 1005) (q9evS ae4) (q9evZ w0) (q9evS ae5) (hX _ (List.mem_of_getElem? (i := 4) rfl)) (by decide)
  rw [q9FF_1005] at X4
  have H4 := Option.some.inj X4
  try simp only [kz] at H4
  have L0 : (0 : Int32).toInt ≤ x0.toInt + 0 := q9pC (q9evZ w0) (q9evS ae0) (hL _ (List.mem_of_getElem? (i := 0) rfl))
  have q1 : (q9tkW T N [16, 17, 18] x0.toInt).2 = x1.toInt := H0
  have q2 : (q9tkN T N 0 9999 x1.toInt).2 = x2.toInt := H1
  have q3 : (q9tkW T N [8] x2.toInt).2 = x3.toInt := H2
  have u_ : q9upN w 7 [] 0 = .int 0 := q9upN_of (by decide) w0
  have u0 : q9upN w 7 [] 1 = .int x0 := q9upN_of (by decide) ae0
  have u1 : q9upN w 7 [] 2 = .int x1 := q9upN_of (by decide) ae1
  have u2 : q9upN w 7 [] 3 = .int x2 := q9upN_of (by decide) ae2
  have u3 : q9upN w 7 [] 4 = .int x3 := q9upN_of (by decide) ae3
  have u4 : q9upN w 7 [] 5 = .int x4 := q9upN_of (by decide) ae4
  have u5 : q9upN w 7 [] 6 = .int x5 := q9upN_of (by decide) ae5
  refine ⟨[], fun i9 p9 hq9 => ?_, List.forall_mem_cons.mpr ⟨?_, fun _ h => absurd h List.not_mem_nil⟩, fun _ h => absurd h List.not_mem_nil⟩
  · exact nomatch (show (none : Option (Nat × q9AV × q9AV × q9ET)) = some p9 from hq9)
  · exact q9th_tX (T := T) (N := N) (P := P) (J := J) (t0 := t0) (Sc := Sc) (q9evS u0) (q9evZ u_) (q9evS u5) (by rw [q9FF_1306]; exact (show some (q9amI T N P J 6 x0.toInt) = _ by unfold q9amI; rw [if_neg (by decide), if_neg (by decide), if_pos rfl, q1, q2, q3, H3, H4])) (by decide)
theorem q9ru_bgA (hT : ∀ i, 0 ≤ T i ∧ T i ≤ 255) (hN : 0 ≤ N ∧ N ≤ 400) (hSc : 0 ≤ Sc 1 ∧ Sc 1 ≤ 400 → N = Sc 1) : q9ruOK (fO T N P J t0 Sc) q9R_bgA := by
  intro w w0 hA hX hL hV hR
  obtain ⟨x0, ae0, -, -⟩ := hA 0 0 rfl
  obtain ⟨x1, ae1, -, -⟩ := hA 1 0 rfl
  obtain ⟨x2, ae2, -, -⟩ := hA 2 0 rfl
  obtain ⟨x3, ae3, -, -⟩ := hA 3 0 rfl
  obtain ⟨x4, ae4, -, -⟩ := hA 4 0 rfl
  have kz : (0 : Int32).toInt = 0 := rfl
  have k4 : (Int32.ofInt 4).toInt = 4 := q9oI_toInt (by decide)
  have k60 : (Int32.ofInt 60).toInt = 60 := q9oI_toInt (by decide)
  have V0 := q9pV (T := T) (N := N) (P := P) (J := J) (t0 := t0) (Sc := Sc) (op := 1020) (n := 1) (q9evS ae0) (q9evZ w0) (hV _ (List.mem_of_getElem? (i := 0) rfl)) (by decide)
  rw [q9FF_1020] at V0
  have K0 := q9chV_of V0
  try simp only [kz, k4, k60] at K0
  have X0 := q9th_pX (T := T) (N := N) (P := P) (J := J) (t0 := t0) (Sc := Sc) (op := 1021) (q9evS ae0) (q9evZ w0) (q9evS ae3) (hX _ (List.mem_of_getElem? (i := 0) rfl)) (by decide)
  rw [q9FF_1021] at X0
  have H0 := q9chV_of X0
  try simp only [kz, k4, k60] at H0
  have X1 := q9th_pX (T := T) (N := N) (P := P) (J := J) (t0 := t0) (Sc := Sc) (op := 1022) (q9evS ae0) (q9evZ w0) (q9evS ae2) (hX _ (List.mem_of_getElem? (i := 1) rfl)) (by decide)
  rw [q9FF_1022] at X1
  have H1 := q9chV_of X1
  try simp only [kz, k4, k60] at H1
  have L0 : (0 : Int32).toInt ≤ x0.toInt + 0 := q9pC (q9evZ w0) (q9evS ae0) (hL _ (List.mem_of_getElem? (i := 0) rfl))
  have L1 : (0 : Int32).toInt ≤ x2.toInt + 0 := q9pC (q9evZ w0) (q9evS ae2) (hL _ (List.mem_of_getElem? (i := 1) rfl))
  have L2 : x2.toInt ≤ (Int32.ofInt 60).toInt + 0 := q9pC (q9evS ae2) (q9evC w0 60) (hL _ (List.mem_of_getElem? (i := 2) rfl))
  have L3 : (0 : Int32).toInt ≤ x3.toInt + 0 := q9pC (q9evZ w0) (q9evS ae3) (hL _ (List.mem_of_getElem? (i := 3) rfl))
  have L4 : x3.toInt ≤ (Int32.ofInt 4).toInt + 0 := q9pC (q9evS ae3) (q9evC w0 4) (hL _ (List.mem_of_getElem? (i := 4) rfl))
  have L5 : x3.toInt ≤ (0 : Int32).toInt + 0 := q9pC (q9evS ae3) (q9evZ w0) (hL _ (List.mem_of_getElem? (i := 5) rfl))
  have X2 := q9th_pX (T := T) (N := N) (P := P) (J := J) (t0 := t0) (Sc := Sc) (op := 1002) (q9evS ae0) (q9evZ w0) (q9evS ae1) (hX _ (List.mem_of_getElem? (i := 2) rfl)) (by decide)
  rw [q9FF_1002] at X2
  have H2 := Option.some.inj X2
  try simp only [kz, k4, k60] at H2
  have X3 := q9th_pX (T := T) (N := N) (P := P) (J := J) (t0 := t0) (Sc := Sc) (op := 1000) (q9evS ae1) (q9evZ w0) (q9evS ae4) (hX _ (List.mem_of_getElem? (i := 3) rfl)) (by decide)
  rw [q9FF_1000] at X3
  have H3 := Option.some.inj X3
  try simp only [kz, k4, k60] at H3
  have L6 : (0 : Int32).toInt ≤ x4.toInt + 0 := q9pC (q9evZ w0) (q9evS ae4) (hL _ (List.mem_of_getElem? (i := 6) rfl))
  obtain ⟨c, hv, hc, -⟩ := K0
  have hd : x3.toInt + 1 = c.2.2.length := q9th_at_of hv hc H0
  have hz : x2.toInt = c.2.1 := q9th_at_of hv hc H1
  have hb : q9spI T N c.1 = x1.toInt := by rw [hc]; exact H2
  obtain ⟨q, st, hst⟩ : ∃ q st, c.2.2 = q :: st := by
    cases hh : c.2.2 with
    | nil => exfalso; rw [hh, List.length_nil] at hd; omega
    | cons q st => exact ⟨q, st, rfl⟩
  have hl2 : c.2.2.length = st.length + 1 := by rw [hst, List.length_cons]
  have h0 : 0 ≤ q9byI T N (q9spI T N c.1) := by rw [hb]; have := H3; omega
  have h8 : q9lkI T N c ≠ 8 := fun h => by have := q9lk8_len h; omega
  have h9 : q9lkI T N c ≠ 9 := fun h => by rw [q9lk_neg h8 h0] at h; exact q9kb_le8.2 h
  have rg0 : (1 : Int) ≤ 1 ∧ (1 : Int) ≤ 1 := by omega
  obtain ⟨x5, nt5⟩ : ∃ x : Int32, x.toInt = 1 := ⟨Int32.ofInt (1), q9oI_toInt (by omega)⟩
  have u_ : q9upN w 6 [.int x5] 0 = .int 0 := q9upN_of (by decide) w0
  have u0 : q9upN w 6 [.int x5] 1 = .int x0 := q9upN_of (by decide) ae0
  have u1 : q9upN w 6 [.int x5] 2 = .int x1 := q9upN_of (by decide) ae1
  have u2 : q9upN w 6 [.int x5] 3 = .int x2 := q9upN_of (by decide) ae2
  have u3 : q9upN w 6 [.int x5] 4 = .int x3 := q9upN_of (by decide) ae3
  have u4 : q9upN w 6 [.int x5] 5 = .int x4 := q9upN_of (by decide) ae4
  have u5 : q9upN w 6 [.int x5] 6 = .int x5 := q9upN_at (by decide)
  refine ⟨[.int x5], fun i9 p9 hq9 => ?_, fun _ h => absurd h List.not_mem_nil, fun _ h => absurd h List.not_mem_nil⟩
  · match i9, hq9 with
    | 0, hq9 =>
      have hp9 : ((1027, (1, 0), (0, 0), (0, 1, 1)) : Nat × q9AV × q9AV × q9ET) = p9 := Option.some.inj hq9
      subst hp9
      exact ⟨⟨x5, rfl, by rw [nt5]; exact rg0.1, by rw [nt5]; exact rg0.2⟩, (q9th_tX (T := T) (N := N) (P := P) (J := J) (t0 := t0) (Sc := Sc) (q9evS u0) (q9evZ u_) (q9evS u5) (by rw [q9FF_1027, nt5]; exact (by rw [← q9FF_1027 (t0 := t0) (Sc := Sc) (b := (0 : Int32).toInt)]; exact q9F_beg hv hc h8 fun _ => h9)) (by decide)).trans (congrArg some (q9evS u5))⟩
    | k9 + 1, hq9 => exact nomatch (show (none : Option (Nat × q9AV × q9AV × q9ET)) = some p9 from hq9)
theorem q9ru_bgB (hT : ∀ i, 0 ≤ T i ∧ T i ≤ 255) (hN : 0 ≤ N ∧ N ≤ 400) (hSc : 0 ≤ Sc 1 ∧ Sc 1 ≤ 400 → N = Sc 1) : q9ruOK (fO T N P J t0 Sc) q9R_bgB := by
  intro w w0 hA hX hL hV hR
  obtain ⟨x0, ae0, -, -⟩ := hA 0 0 rfl
  obtain ⟨x1, ae1, -, -⟩ := hA 1 0 rfl
  obtain ⟨x2, ae2, -, -⟩ := hA 2 0 rfl
  obtain ⟨x3, ae3, -, -⟩ := hA 3 0 rfl
  have kz : (0 : Int32).toInt = 0 := rfl
  have k1 : (Int32.ofInt 1).toInt = 1 := q9oI_toInt (by decide)
  have k4 : (Int32.ofInt 4).toInt = 4 := q9oI_toInt (by decide)
  have k60 : (Int32.ofInt 60).toInt = 60 := q9oI_toInt (by decide)
  have k93 : (Int32.ofInt 93).toInt = 93 := q9oI_toInt (by decide)
  have V0 := q9pV (T := T) (N := N) (P := P) (J := J) (t0 := t0) (Sc := Sc) (op := 1020) (n := 1) (q9evS ae0) (q9evZ w0) (hV _ (List.mem_of_getElem? (i := 0) rfl)) (by decide)
  rw [q9FF_1020] at V0
  have K0 := q9chV_of V0
  try simp only [kz, k1, k4, k60, k93] at K0
  have X0 := q9th_pX (T := T) (N := N) (P := P) (J := J) (t0 := t0) (Sc := Sc) (op := 1021) (q9evS ae0) (q9evZ w0) (q9evS ae3) (hX _ (List.mem_of_getElem? (i := 0) rfl)) (by decide)
  rw [q9FF_1021] at X0
  have H0 := q9chV_of X0
  try simp only [kz, k1, k4, k60, k93] at H0
  have X1 := q9th_pX (T := T) (N := N) (P := P) (J := J) (t0 := t0) (Sc := Sc) (op := 1022) (q9evS ae0) (q9evZ w0) (q9evS ae2) (hX _ (List.mem_of_getElem? (i := 1) rfl)) (by decide)
  rw [q9FF_1022] at X1
  have H1 := q9chV_of X1
  try simp only [kz, k1, k4, k60, k93] at H1
  have L0 : (0 : Int32).toInt ≤ x0.toInt + 0 := q9pC (q9evZ w0) (q9evS ae0) (hL _ (List.mem_of_getElem? (i := 0) rfl))
  have L1 : (0 : Int32).toInt ≤ x2.toInt + 0 := q9pC (q9evZ w0) (q9evS ae2) (hL _ (List.mem_of_getElem? (i := 1) rfl))
  have L2 : x2.toInt ≤ (Int32.ofInt 60).toInt + 0 := q9pC (q9evS ae2) (q9evC w0 60) (hL _ (List.mem_of_getElem? (i := 2) rfl))
  have L3 : (0 : Int32).toInt ≤ x3.toInt + 0 := q9pC (q9evZ w0) (q9evS ae3) (hL _ (List.mem_of_getElem? (i := 3) rfl))
  have L4 : x3.toInt ≤ (Int32.ofInt 4).toInt + 0 := q9pC (q9evS ae3) (q9evC w0 4) (hL _ (List.mem_of_getElem? (i := 4) rfl))
  have L5 : (Int32.ofInt 1).toInt ≤ x3.toInt + 0 := q9pC (q9evC w0 1) (q9evS ae3) (hL _ (List.mem_of_getElem? (i := 5) rfl))
  have X2 := q9th_pX (T := T) (N := N) (P := P) (J := J) (t0 := t0) (Sc := Sc) (op := 1002) (q9evS ae0) (q9evZ w0) (q9evS ae1) (hX _ (List.mem_of_getElem? (i := 2) rfl)) (by decide)
  rw [q9FF_1002] at X2
  have H2 := Option.some.inj X2
  try simp only [kz, k1, k4, k60, k93] at H2
  have V1 := q9pV (T := T) (N := N) (P := P) (J := J) (t0 := t0) (Sc := Sc) (op := 1009) (n := 0) (q9evS ae1) (q9evC w0 93) (hV _ (List.mem_of_getElem? (i := 1) rfl)) (by decide)
  rw [q9FF_1009] at V1
  have K1 := Option.some.inj V1
  try simp only [kz, k1, k4, k60, k93] at K1
  obtain ⟨c, hv, hc, -⟩ := K0
  have hd : x3.toInt + 1 = c.2.2.length := q9th_at_of hv hc H0
  have hz : x2.toInt = c.2.1 := q9th_at_of hv hc H1
  have hb : q9spI T N c.1 = x1.toInt := by rw [hc]; exact H2
  obtain ⟨q, st, hst⟩ : ∃ q st, c.2.2 = q :: st := by
    cases hh : c.2.2 with
    | nil => exfalso; rw [hh, List.length_nil] at hd; omega
    | cons q st => exact ⟨q, st, rfl⟩
  have hl2 : c.2.2.length = st.length + 1 := by rw [hst, List.length_cons]
  have h0 := q9is_0 K1 (by omega)
  have h8 : q9lkI T N c ≠ 8 := fun h => h0 (by rw [← hb]; exact q9lk8_b h)
  have rg0 : (1 : Int) ≤ 1 ∧ (1 : Int) ≤ 1 := by omega
  obtain ⟨x4, nt4⟩ : ∃ x : Int32, x.toInt = 1 := ⟨Int32.ofInt (1), q9oI_toInt (by omega)⟩
  have u_ : q9upN w 5 [.int x4] 0 = .int 0 := q9upN_of (by decide) w0
  have u0 : q9upN w 5 [.int x4] 1 = .int x0 := q9upN_of (by decide) ae0
  have u1 : q9upN w 5 [.int x4] 2 = .int x1 := q9upN_of (by decide) ae1
  have u2 : q9upN w 5 [.int x4] 3 = .int x2 := q9upN_of (by decide) ae2
  have u3 : q9upN w 5 [.int x4] 4 = .int x3 := q9upN_of (by decide) ae3
  have u4 : q9upN w 5 [.int x4] 5 = .int x4 := q9upN_at (by decide)
  refine ⟨[.int x4], fun i9 p9 hq9 => ?_, fun _ h => absurd h List.not_mem_nil, fun _ h => absurd h List.not_mem_nil⟩
  · match i9, hq9 with
    | 0, hq9 =>
      have hp9 : ((1027, (1, 0), (0, 0), (0, 1, 1)) : Nat × q9AV × q9AV × q9ET) = p9 := Option.some.inj hq9
      subst hp9
      exact ⟨⟨x4, rfl, by rw [nt4]; exact rg0.1, by rw [nt4]; exact rg0.2⟩, (q9th_tX (T := T) (N := N) (P := P) (J := J) (t0 := t0) (Sc := Sc) (q9evS u0) (q9evZ u_) (q9evS u4) (by rw [q9FF_1027, nt4]; exact (by rw [← q9FF_1027 (t0 := t0) (Sc := Sc) (b := (0 : Int32).toInt)]; exact q9F_beg hv hc h8 fun h => by omega)) (by decide)).trans (congrArg some (q9evS u4))⟩
    | k9 + 1, hq9 => exact nomatch (show (none : Option (Nat × q9AV × q9AV × q9ET)) = some p9 from hq9)
theorem q9ru_dn1 (hT : ∀ i, 0 ≤ T i ∧ T i ≤ 255) (hN : 0 ≤ N ∧ N ≤ 400) (hSc : 0 ≤ Sc 1 ∧ Sc 1 ≤ 400 → N = Sc 1) : q9ruOK (fO T N P J t0 Sc) q9R_dn1 := by
  intro w w0 hA hX hL hV hR
  obtain ⟨x0, ae0, -, -⟩ := hA 0 0 rfl
  obtain ⟨x1, ae1, -, -⟩ := hA 1 0 rfl
  obtain ⟨x2, ae2, -, -⟩ := hA 2 1 rfl
  obtain ⟨x3, ae3, -, -⟩ := hA 3 1 rfl
  have kz : (0 : Int32).toInt = 0 := rfl
  have X0 := q9th_pX (T := T) (N := N) (P := P) (J := J) (t0 := t0) (Sc := Sc) (op := 1021) (q9evS ae0) (q9evZ w0) (q9evS ae1) (hX _ (List.mem_of_getElem? (i := 0) rfl)) (by decide)
  rw [q9FF_1021] at X0
  have H0 := q9chV_of X0
  try simp only [kz] at H0
  have X1 := q9pL (T := T) (N := N) (P := P) (J := J) (t0 := t0) (Sc := Sc) (op := 1025) (q9evS ae0) (q9evS ae1) (q9evS ae2) (hX _ (List.mem_of_getElem? (i := 1) rfl)) (by decide)
  rw [q9FL_1025] at X1
  have H1 := q9chV_of X1
  try simp only [kz] at H1
  obtain ⟨y0, ye0, R0, S0⟩ := hR _ (List.mem_of_getElem? (i := 0) rfl)
  have L0 : (0 : Int32).toInt ≤ x0.toInt + 0 := q9pC (q9evZ w0) (q9evS ae0) (hL _ (List.mem_of_getElem? (i := 0) rfl))
  rw [ae3] at ye0
  cases ye0
  have z3 : x3 = 1 := Int64.toInt_inj.mp (by have a1 : 1 ≤ x3.toInt := R0; have a2 : x3.toInt ≤ 1 := S0; rw [show (1 : Int64).toInt = 1 from rfl]; omega)
  obtain ⟨c, hv, hc, hd⟩ := H0
  obtain ⟨q, st, hst⟩ : ∃ q st, c.2.2 = q :: st := by
    cases hh : c.2.2 with
    | nil => exfalso; have := (q9vis_inv hN.1 hv).2.2.2.2.1; rw [hh] at this; exact absurd this (by decide)
    | cons q st => exact ⟨q, st, rfl⟩
  have hf : ∃ e, q9enI c x1.toInt = some e ∧ x2 = e.2.2.2 := q9th_at_of hv hc H1
  obtain ⟨q0, f1, f2⟩ := hf
  rw [q9en_top hst hd] at f1
  cases f1
  have u_ : q9upN w 5 [.long (x2 + x3)] 0 = .int 0 := q9upN_of (by decide) w0
  have u0 : q9upN w 5 [.long (x2 + x3)] 1 = .int x0 := q9upN_of (by decide) ae0
  have u1 : q9upN w 5 [.long (x2 + x3)] 2 = .int x1 := q9upN_of (by decide) ae1
  have u2 : q9upN w 5 [.long (x2 + x3)] 3 = .long x2 := q9upN_of (by decide) ae2
  have u3 : q9upN w 5 [.long (x2 + x3)] 4 = .long x3 := q9upN_of (by decide) ae3
  have u4 : q9upN w 5 [.long (x2 + x3)] 5 = .long (x2 + x3) := q9upN_at (by decide)
  refine ⟨[.long (x2 + x3)], fun i9 p9 hq9 => ?_, List.forall_mem_cons.mpr ⟨?_, fun _ h => absurd h List.not_mem_nil⟩, fun _ h => absurd h List.not_mem_nil⟩
  · match i9, hq9 with
    | 0, hq9 =>
      have hp9 : ((1028, (1, 0), (0, 0), (1, (-9223372036854775808), 9223372036854775807)) : Nat × q9AV × q9AV × q9ET) = p9 := Option.some.inj hq9
      subst hp9
      exact ⟨⟨_, rfl, by have h9 := Int64.le_toInt (x2 + x3); show -9223372036854775808 ≤ _; omega, by have h9 := Int64.toInt_lt (x2 + x3); show _ ≤ 9223372036854775807; omega⟩, (q9th_tL (T := T) (N := N) (P := P) (J := J) (t0 := t0) (Sc := Sc) (q9evS u0) (q9evZ u_) (q9evS u4) (by rw [q9FL_1028]; exact (by rw [← q9FL_1028 (b := (0 : Int32).toInt)]; exact q9G_dn1 hv hc hst (by rw [f2, z3]))) (by decide)).trans (congrArg some (q9evS u4))⟩
    | k9 + 1, hq9 => exact nomatch (show (none : Option (Nat × q9AV × q9AV × q9ET)) = some p9 from hq9)
  · exact q9tB (T := T) (N := N) (P := P) (J := J) (t0 := t0) (Sc := Sc) (q9evS u2) (q9evS u3) (q9evS u4) rfl
theorem q9ru_frn0 (hT : ∀ i, 0 ≤ T i ∧ T i ≤ 255) (hN : 0 ≤ N ∧ N ≤ 400) (hSc : 0 ≤ Sc 1 ∧ Sc 1 ≤ 400 → N = Sc 1) : q9ruOK (fO T N P J t0 Sc) q9R_frn0 := by
  intro w w0 hA hX hL hV hR
  obtain ⟨x0, ae0, -, -⟩ := hA 0 0 rfl
  obtain ⟨x1, ae1, -, -⟩ := hA 1 0 rfl
  obtain ⟨x2, ae2, -, -⟩ := hA 2 0 rfl
  obtain ⟨x3, ae3, -, -⟩ := hA 3 0 rfl
  obtain ⟨x4, ae4, -, -⟩ := hA 4 0 rfl
  obtain ⟨x5, ae5, -, -⟩ := hA 5 1 rfl
  obtain ⟨x6, ae6, -, -⟩ := hA 6 1 rfl
  have kz : (0 : Int32).toInt = 0 := rfl
  have X0 := q9th_pX (T := T) (N := N) (P := P) (J := J) (t0 := t0) (Sc := Sc) (op := 1021) (q9evS ae0) (q9evZ w0) (q9evS ae1) (hX _ (List.mem_of_getElem? (i := 0) rfl)) (by decide)
  rw [q9FF_1021] at X0
  have H0 := q9chV_of X0
  try simp only [kz] at H0
  have X1 := q9th_pX (T := T) (N := N) (P := P) (J := J) (t0 := t0) (Sc := Sc) (op := 1002) (q9evS ae0) (q9evZ w0) (q9evS ae2) (hX _ (List.mem_of_getElem? (i := 1) rfl)) (by decide)
  rw [q9FF_1002] at X1
  have H1 := Option.some.inj X1
  try simp only [kz] at H1
  have V0 := q9pV (T := T) (N := N) (P := P) (J := J) (t0 := t0) (Sc := Sc) (op := 1013) (n := 0) (q9evS ae2) (q9evZ w0) (hV _ (List.mem_of_getElem? (i := 0) rfl)) (by decide)
  rw [q9FF_1013] at V0
  have K0 := Option.some.inj V0
  try simp only [kz] at K0
  have X2 := q9th_pX (T := T) (N := N) (P := P) (J := J) (t0 := t0) (Sc := Sc) (op := 1003) (q9evS ae2) (q9evZ w0) (q9evS ae3) (hX _ (List.mem_of_getElem? (i := 2) rfl)) (by decide)
  rw [q9FF_1003] at X2
  have H2 := Option.some.inj X2
  try simp only [kz] at H2
  have X3 := q9th_pX (T := T) (N := N) (P := P) (J := J) (t0 := t0) (Sc := Sc) (op := 1300) (q9evS ae3) (q9evZ w0) (q9evS ae4) (hX _ (List.mem_of_getElem? (i := 3) rfl)) (by decide)
  rw [q9FF_1300] at X3
  have H3 := Option.some.inj X3
  try simp only [kz] at H3
  have X4 := q9pB (T := T) (N := N) (P := P) (J := J) (t0 := t0) (Sc := Sc) (q9evS ae4) (q9evS ae4) (q9evS ae5) (hX _ (List.mem_of_getElem? (i := 4) rfl))
  have X5 := q9pL (T := T) (N := N) (P := P) (J := J) (t0 := t0) (Sc := Sc) (op := 1024) (q9evS ae0) (q9evS ae1) (q9evS ae6) (hX _ (List.mem_of_getElem? (i := 5) rfl)) (by decide)
  rw [q9FL_1024] at X5
  have H5 := q9chV_of X5
  try simp only [kz] at H5
  have L0 : (0 : Int32).toInt ≤ x0.toInt + 0 := q9pC (q9evZ w0) (q9evS ae0) (hL _ (List.mem_of_getElem? (i := 0) rfl))
  obtain ⟨c, hv, hc, hd⟩ := H0
  obtain ⟨q, st, hst⟩ : ∃ q st, c.2.2 = q :: st := by
    cases hh : c.2.2 with
    | nil => exfalso; have := (q9vis_inv hN.1 hv).2.2.2.2.1; rw [hh] at this; exact absurd this (by decide)
    | cons q st => exact ⟨q, st, rfl⟩
  have hb : q9spI T N c.1 = x2.toInt := by rw [hc]; exact H1
  have hk : q9kbI T N (q9spI T N c.1) = 0 := by rw [hb]; exact K0
  have hl : q9lkI T N c = 0 := by rw [q9lk_k (by omega), hk]
  have he : q9weI T N x2.toInt = x3.toInt := H2
  have ham : q9amI T N P J 0 x3.toInt = x4.toInt := H3
  have e5 : x4.toInt64 = x5 := Value.long.inj (Option.some.inj (X4 : some (Value.long x4.toInt64) = some (.long x5)))
  have hf : ∃ e, q9enI c x1.toInt = some e ∧ x6 = e.2.2.1 := q9th_at_of hv hc H5
  obtain ⟨q0, f1, f2⟩ := hf
  rw [q9en_top hst hd] at f1
  cases f1
  have u_ : q9upN w 8 [.long (x6 + x5)] 0 = .int 0 := q9upN_of (by decide) w0
  have u0 : q9upN w 8 [.long (x6 + x5)] 1 = .int x0 := q9upN_of (by decide) ae0
  have u1 : q9upN w 8 [.long (x6 + x5)] 2 = .int x1 := q9upN_of (by decide) ae1
  have u2 : q9upN w 8 [.long (x6 + x5)] 3 = .int x2 := q9upN_of (by decide) ae2
  have u3 : q9upN w 8 [.long (x6 + x5)] 4 = .int x3 := q9upN_of (by decide) ae3
  have u4 : q9upN w 8 [.long (x6 + x5)] 5 = .int x4 := q9upN_of (by decide) ae4
  have u5 : q9upN w 8 [.long (x6 + x5)] 6 = .long x5 := q9upN_of (by decide) ae5
  have u6 : q9upN w 8 [.long (x6 + x5)] 7 = .long x6 := q9upN_of (by decide) ae6
  have u7 : q9upN w 8 [.long (x6 + x5)] 8 = .long (x6 + x5) := q9upN_at (by decide)
  refine ⟨[.long (x6 + x5)], fun i9 p9 hq9 => ?_, List.forall_mem_cons.mpr ⟨?_, fun _ h => absurd h List.not_mem_nil⟩, fun _ h => absurd h List.not_mem_nil⟩
  · match i9, hq9 with
    | 0, hq9 =>
      have hp9 : ((1029, (1, 0), (0, 0), (1, (-9223372036854775808), 9223372036854775807)) : Nat × q9AV × q9AV × q9ET) = p9 := Option.some.inj hq9
      subst hp9
      exact ⟨⟨_, rfl, by have h9 := Int64.le_toInt (x6 + x5); show -9223372036854775808 ≤ _; omega, by have h9 := Int64.toInt_lt (x6 + x5); show _ ≤ 9223372036854775807; omega⟩, (q9th_tL (T := T) (N := N) (P := P) (J := J) (t0 := t0) (Sc := Sc) (q9evS u0) (q9evZ u_) (q9evS u7) (by rw [q9FL_1029]; exact (by rw [← q9FL_1029 (b := (0 : Int32).toInt)]; exact q9G_frn hv hc (by omega) hst (by rw [hl, hb, he, ham, f2, ← e5, q9i2l_of]))) (by decide)).trans (congrArg some (q9evS u7))⟩
    | k9 + 1, hq9 => exact nomatch (show (none : Option (Nat × q9AV × q9AV × q9ET)) = some p9 from hq9)
  · exact q9tB (T := T) (N := N) (P := P) (J := J) (t0 := t0) (Sc := Sc) (q9evS u6) (q9evS u5) (q9evS u7) rfl
theorem q9ru_frn1 (hT : ∀ i, 0 ≤ T i ∧ T i ≤ 255) (hN : 0 ≤ N ∧ N ≤ 400) (hSc : 0 ≤ Sc 1 ∧ Sc 1 ≤ 400 → N = Sc 1) : q9ruOK (fO T N P J t0 Sc) q9R_frn1 := by
  intro w w0 hA hX hL hV hR
  obtain ⟨x0, ae0, -, -⟩ := hA 0 0 rfl
  obtain ⟨x1, ae1, -, -⟩ := hA 1 0 rfl
  obtain ⟨x2, ae2, -, -⟩ := hA 2 0 rfl
  obtain ⟨x3, ae3, -, -⟩ := hA 3 0 rfl
  obtain ⟨x4, ae4, -, -⟩ := hA 4 0 rfl
  obtain ⟨x5, ae5, -, -⟩ := hA 5 1 rfl
  obtain ⟨x6, ae6, -, -⟩ := hA 6 1 rfl
  have kz : (0 : Int32).toInt = 0 := rfl
  have X0 := q9th_pX (T := T) (N := N) (P := P) (J := J) (t0 := t0) (Sc := Sc) (op := 1021) (q9evS ae0) (q9evZ w0) (q9evS ae1) (hX _ (List.mem_of_getElem? (i := 0) rfl)) (by decide)
  rw [q9FF_1021] at X0
  have H0 := q9chV_of X0
  try simp only [kz] at H0
  have X1 := q9th_pX (T := T) (N := N) (P := P) (J := J) (t0 := t0) (Sc := Sc) (op := 1002) (q9evS ae0) (q9evZ w0) (q9evS ae2) (hX _ (List.mem_of_getElem? (i := 1) rfl)) (by decide)
  rw [q9FF_1002] at X1
  have H1 := Option.some.inj X1
  try simp only [kz] at H1
  have V0 := q9pV (T := T) (N := N) (P := P) (J := J) (t0 := t0) (Sc := Sc) (op := 1013) (n := 1) (q9evS ae2) (q9evZ w0) (hV _ (List.mem_of_getElem? (i := 0) rfl)) (by decide)
  rw [q9FF_1013] at V0
  have K0 := Option.some.inj V0
  try simp only [kz] at K0
  have X2 := q9th_pX (T := T) (N := N) (P := P) (J := J) (t0 := t0) (Sc := Sc) (op := 1003) (q9evS ae2) (q9evZ w0) (q9evS ae3) (hX _ (List.mem_of_getElem? (i := 2) rfl)) (by decide)
  rw [q9FF_1003] at X2
  have H2 := Option.some.inj X2
  try simp only [kz] at H2
  have X3 := q9th_pX (T := T) (N := N) (P := P) (J := J) (t0 := t0) (Sc := Sc) (op := 1301) (q9evS ae3) (q9evZ w0) (q9evS ae4) (hX _ (List.mem_of_getElem? (i := 3) rfl)) (by decide)
  rw [q9FF_1301] at X3
  have H3 := Option.some.inj X3
  try simp only [kz] at H3
  have X4 := q9pB (T := T) (N := N) (P := P) (J := J) (t0 := t0) (Sc := Sc) (q9evS ae4) (q9evS ae4) (q9evS ae5) (hX _ (List.mem_of_getElem? (i := 4) rfl))
  have X5 := q9pL (T := T) (N := N) (P := P) (J := J) (t0 := t0) (Sc := Sc) (op := 1024) (q9evS ae0) (q9evS ae1) (q9evS ae6) (hX _ (List.mem_of_getElem? (i := 5) rfl)) (by decide)
  rw [q9FL_1024] at X5
  have H5 := q9chV_of X5
  try simp only [kz] at H5
  have L0 : (0 : Int32).toInt ≤ x0.toInt + 0 := q9pC (q9evZ w0) (q9evS ae0) (hL _ (List.mem_of_getElem? (i := 0) rfl))
  obtain ⟨c, hv, hc, hd⟩ := H0
  obtain ⟨q, st, hst⟩ : ∃ q st, c.2.2 = q :: st := by
    cases hh : c.2.2 with
    | nil => exfalso; have := (q9vis_inv hN.1 hv).2.2.2.2.1; rw [hh] at this; exact absurd this (by decide)
    | cons q st => exact ⟨q, st, rfl⟩
  have hb : q9spI T N c.1 = x2.toInt := by rw [hc]; exact H1
  have hk : q9kbI T N (q9spI T N c.1) = 1 := by rw [hb]; exact K0
  have hl : q9lkI T N c = 1 := by rw [q9lk_k (by omega), hk]
  have he : q9weI T N x2.toInt = x3.toInt := H2
  have ham : q9amI T N P J 1 x3.toInt = x4.toInt := H3
  have e5 : x4.toInt64 = x5 := Value.long.inj (Option.some.inj (X4 : some (Value.long x4.toInt64) = some (.long x5)))
  have hf : ∃ e, q9enI c x1.toInt = some e ∧ x6 = e.2.2.1 := q9th_at_of hv hc H5
  obtain ⟨q0, f1, f2⟩ := hf
  rw [q9en_top hst hd] at f1
  cases f1
  have u_ : q9upN w 8 [.long (x6 + x5)] 0 = .int 0 := q9upN_of (by decide) w0
  have u0 : q9upN w 8 [.long (x6 + x5)] 1 = .int x0 := q9upN_of (by decide) ae0
  have u1 : q9upN w 8 [.long (x6 + x5)] 2 = .int x1 := q9upN_of (by decide) ae1
  have u2 : q9upN w 8 [.long (x6 + x5)] 3 = .int x2 := q9upN_of (by decide) ae2
  have u3 : q9upN w 8 [.long (x6 + x5)] 4 = .int x3 := q9upN_of (by decide) ae3
  have u4 : q9upN w 8 [.long (x6 + x5)] 5 = .int x4 := q9upN_of (by decide) ae4
  have u5 : q9upN w 8 [.long (x6 + x5)] 6 = .long x5 := q9upN_of (by decide) ae5
  have u6 : q9upN w 8 [.long (x6 + x5)] 7 = .long x6 := q9upN_of (by decide) ae6
  have u7 : q9upN w 8 [.long (x6 + x5)] 8 = .long (x6 + x5) := q9upN_at (by decide)
  refine ⟨[.long (x6 + x5)], fun i9 p9 hq9 => ?_, List.forall_mem_cons.mpr ⟨?_, fun _ h => absurd h List.not_mem_nil⟩, fun _ h => absurd h List.not_mem_nil⟩
  · match i9, hq9 with
    | 0, hq9 =>
      have hp9 : ((1029, (1, 0), (0, 0), (1, (-9223372036854775808), 9223372036854775807)) : Nat × q9AV × q9AV × q9ET) = p9 := Option.some.inj hq9
      subst hp9
      exact ⟨⟨_, rfl, by have h9 := Int64.le_toInt (x6 + x5); show -9223372036854775808 ≤ _; omega, by have h9 := Int64.toInt_lt (x6 + x5); show _ ≤ 9223372036854775807; omega⟩, (q9th_tL (T := T) (N := N) (P := P) (J := J) (t0 := t0) (Sc := Sc) (q9evS u0) (q9evZ u_) (q9evS u7) (by rw [q9FL_1029]; exact (by rw [← q9FL_1029 (b := (0 : Int32).toInt)]; exact q9G_frn hv hc (by omega) hst (by rw [hl, hb, he, ham, f2, ← e5, q9i2l_of]))) (by decide)).trans (congrArg some (q9evS u7))⟩
    | k9 + 1, hq9 => exact nomatch (show (none : Option (Nat × q9AV × q9AV × q9ET)) = some p9 from hq9)
  · exact q9tB (T := T) (N := N) (P := P) (J := J) (t0 := t0) (Sc := Sc) (q9evS u6) (q9evS u5) (q9evS u7) rfl
theorem q9ruP_8 (hT : ∀ i, 0 ≤ T i ∧ T i ≤ 255) (hN : 0 ≤ N ∧ N ≤ 400) (hSc : 0 ≤ Sc 1 ∧ Sc 1 ≤ 400 → N = Sc 1) : ∀ q ∈ q9RULES_8, q9ruOK (fO T N P J t0 Sc) q := List.forall_mem_cons.mpr ⟨q9ru_ez9 hT hN hSc, List.forall_mem_cons.mpr ⟨q9ru_ez10 hT hN hSc, List.forall_mem_cons.mpr ⟨q9ru_ez11 hT hN hSc, List.forall_mem_cons.mpr ⟨q9ru_ez12 hT hN hSc, List.forall_mem_cons.mpr ⟨q9ru_ezf hT hN hSc, List.forall_mem_cons.mpr ⟨q9ru_sp2 hT hN hSc, List.forall_mem_cons.mpr ⟨q9ru_mi1 hT hN hSc, List.forall_mem_cons.mpr ⟨q9ru_mi0 hT hN hSc, List.forall_mem_cons.mpr ⟨q9ru_am hT hN hSc, List.forall_mem_cons.mpr ⟨q9ru_af2 hT hN hSc, List.forall_mem_cons.mpr ⟨q9ru_af3 hT hN hSc, List.forall_mem_cons.mpr ⟨q9ru_af4 hT hN hSc, List.forall_mem_cons.mpr ⟨q9ru_af0 hT hN hSc, List.forall_mem_cons.mpr ⟨q9ru_af1 hT hN hSc, List.forall_mem_cons.mpr ⟨q9ru_as1 hT hN hSc, List.forall_mem_cons.mpr ⟨q9ru_as0 hT hN hSc, List.forall_mem_cons.mpr ⟨q9ru_asf hT hN hSc, List.forall_mem_cons.mpr ⟨q9ru_eTK hT hN hSc, List.forall_mem_cons.mpr ⟨q9ru_asN hT hN hSc, List.forall_mem_cons.mpr ⟨q9ru_m40 hT hN hSc, List.forall_mem_cons.mpr ⟨q9ru_m4s hT hN hSc, List.forall_mem_cons.mpr ⟨q9ru_m4n hT hN hSc, List.forall_mem_cons.mpr ⟨q9ru_kb0 hT hN hSc, List.forall_mem_cons.mpr ⟨q9ru_kb1 hT hN hSc, List.forall_mem_cons.mpr ⟨q9ru_kb2 hT hN hSc, List.forall_mem_cons.mpr ⟨q9ru_kb3 hT hN hSc, List.forall_mem_cons.mpr ⟨q9ru_kb4 hT hN hSc, List.forall_mem_cons.mpr ⟨q9ru_kb5 hT hN hSc, List.forall_mem_cons.mpr ⟨q9ru_kb6 hT hN hSc, List.forall_mem_cons.mpr ⟨q9ru_kb7 hT hN hSc, List.forall_mem_cons.mpr ⟨q9ru_kbn hT hN hSc, List.forall_mem_cons.mpr ⟨q9ru_am0 hT hN hSc, List.forall_mem_cons.mpr ⟨q9ru_am7 hT hN hSc, List.forall_mem_cons.mpr ⟨q9ru_am1 hT hN hSc, List.forall_mem_cons.mpr ⟨q9ru_am6 hT hN hSc, List.forall_mem_cons.mpr ⟨q9ru_bgA hT hN hSc, List.forall_mem_cons.mpr ⟨q9ru_bgB hT hN hSc, List.forall_mem_cons.mpr ⟨q9ru_dn1 hT hN hSc, List.forall_mem_cons.mpr ⟨q9ru_frn0 hT hN hSc, List.forall_mem_cons.mpr ⟨q9ru_frn1 hT hN hSc, fun _ h => absurd h List.not_mem_nil⟩⟩⟩⟩⟩⟩⟩⟩⟩⟩⟩⟩⟩⟩⟩⟩⟩⟩⟩⟩⟩⟩⟩⟩⟩⟩⟩⟩⟩⟩⟩⟩⟩⟩⟩⟩⟩⟩⟩⟩
end RUL
