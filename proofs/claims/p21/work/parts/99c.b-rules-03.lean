section RUL
variable {T : Int → Int} {N P : Int} {J : Int → Int} {t0 : Int} {Sc : Int → Int}
theorem q9ru_wa6_1 (hT : ∀ i, 0 ≤ T i ∧ T i ≤ 255) (hN : 0 ≤ N ∧ N ≤ 400) (hSc : 0 ≤ Sc 1 ∧ Sc 1 ≤ 400 → N = Sc 1) : q9ruOK (fO T N P J t0 Sc) q9R_wa6_1 := by
  intro w w0 hA hX hL hV hR
  obtain ⟨x0, ae0, -, -⟩ := hA 0 0 rfl
  obtain ⟨x1, ae1, -, -⟩ := hA 1 0 rfl
  have kz : (0 : Int32).toInt = 0 := rfl
  have k96 : (Int32.ofInt 96).toInt = 96 := q9oI_toInt (by decide)
  have X0 := q9th_pX (T := T) (N := N) (P := P) (J := J) (t0 := t0) (Sc := Sc) (op := 1000) (q9evO ae0 1) (q9evZ w0) (q9evS ae1) (hX _ (List.mem_of_getElem? (i := 0) rfl)) (by decide)
  rw [q9FF_1000] at X0
  have H0 := Option.some.inj X0
  try simp only [kz, k96] at H0
  have L0 : x1.toInt ≤ (Int32.ofInt 96).toInt + 0 := q9pC (q9evS ae1) (q9evC w0 96) (hL _ (List.mem_of_getElem? (i := 0) rfl))
  have L1 : (0 : Int32).toInt ≤ x0.toInt + 0 := q9pC (q9evZ w0) (q9evS ae0) (hL _ (List.mem_of_getElem? (i := 1) rfl))
  have hne : q9byI T N (x0.toInt + ((1 : Nat) : Int)) ≠ 97 := by
    rw [show x0.toInt + ((1 : Nat) : Int) = x0.toInt + 1 from rfl]
    by_cases hb : x0.toInt + 1 ≤ 2147483647
    · rw [q9ad32 (x := x0) (d := 1) (by omega)] at H0
      omega
    · intro h
      have := q9byI_lt (T := T) (N := N) (i := x0.toInt + 1) (by omega)
      omega
  have rg0 : (0 : Int) ≤ 0 ∧ (0 : Int) ≤ 0 := by omega
  obtain ⟨x2, nt2⟩ : ∃ x : Int32, x.toInt = 0 := ⟨Int32.ofInt (0), q9oI_toInt (by omega)⟩
  have u_ : q9upN w 3 [.int x2] 0 = .int 0 := q9upN_of (by decide) w0
  have u0 : q9upN w 3 [.int x2] 1 = .int x0 := q9upN_of (by decide) ae0
  have u1 : q9upN w 3 [.int x2] 2 = .int x1 := q9upN_of (by decide) ae1
  have u2 : q9upN w 3 [.int x2] 3 = .int x2 := q9upN_at (by decide)
  refine ⟨[.int x2], fun i9 p9 hq9 => ?_, fun _ h => absurd h List.not_mem_nil, fun _ h => absurd h List.not_mem_nil⟩
  · match i9, hq9 with
    | 0, hq9 =>
      have hp9 : ((1106, (1, 0), (0, 0), (0, 0, 0)) : Nat × q9AV × q9AV × q9ET) = p9 := Option.some.inj hq9
      subst hp9
      exact ⟨⟨x2, rfl, by rw [nt2]; exact rg0.1, by rw [nt2]; exact rg0.2⟩, (q9th_tX (T := T) (N := N) (P := P) (J := J) (t0 := t0) (Sc := Sc) (q9evS u0) (q9evZ u_) (q9evS u2) (by rw [q9FF_1106, nt2]; exact (by show some (q9wsI T N 6 x0.toInt) = _; rw [q9ws_ne (t := 6) 1 (by decide) hne])) (by decide)).trans (congrArg some (q9evS u2))⟩
    | k9 + 1, hq9 => exact nomatch (show (none : Option (Nat × q9AV × q9AV × q9ET)) = some p9 from hq9)
theorem q9ru_wb6_1 (hT : ∀ i, 0 ≤ T i ∧ T i ≤ 255) (hN : 0 ≤ N ∧ N ≤ 400) (hSc : 0 ≤ Sc 1 ∧ Sc 1 ≤ 400 → N = Sc 1) : q9ruOK (fO T N P J t0 Sc) q9R_wb6_1 := by
  intro w w0 hA hX hL hV hR
  obtain ⟨x0, ae0, -, -⟩ := hA 0 0 rfl
  obtain ⟨x1, ae1, -, -⟩ := hA 1 0 rfl
  have kz : (0 : Int32).toInt = 0 := rfl
  have k98 : (Int32.ofInt 98).toInt = 98 := q9oI_toInt (by decide)
  have X0 := q9th_pX (T := T) (N := N) (P := P) (J := J) (t0 := t0) (Sc := Sc) (op := 1000) (q9evO ae0 1) (q9evZ w0) (q9evS ae1) (hX _ (List.mem_of_getElem? (i := 0) rfl)) (by decide)
  rw [q9FF_1000] at X0
  have H0 := Option.some.inj X0
  try simp only [kz, k98] at H0
  have L0 : (Int32.ofInt 98).toInt ≤ x1.toInt + 0 := q9pC (q9evC w0 98) (q9evS ae1) (hL _ (List.mem_of_getElem? (i := 0) rfl))
  have L1 : (0 : Int32).toInt ≤ x0.toInt + 0 := q9pC (q9evZ w0) (q9evS ae0) (hL _ (List.mem_of_getElem? (i := 1) rfl))
  have hne : q9byI T N (x0.toInt + ((1 : Nat) : Int)) ≠ 97 := by
    rw [show x0.toInt + ((1 : Nat) : Int) = x0.toInt + 1 from rfl]
    by_cases hb : x0.toInt + 1 ≤ 2147483647
    · rw [q9ad32 (x := x0) (d := 1) (by omega)] at H0
      omega
    · intro h
      have := q9byI_lt (T := T) (N := N) (i := x0.toInt + 1) (by omega)
      omega
  have rg0 : (0 : Int) ≤ 0 ∧ (0 : Int) ≤ 0 := by omega
  obtain ⟨x2, nt2⟩ : ∃ x : Int32, x.toInt = 0 := ⟨Int32.ofInt (0), q9oI_toInt (by omega)⟩
  have u_ : q9upN w 3 [.int x2] 0 = .int 0 := q9upN_of (by decide) w0
  have u0 : q9upN w 3 [.int x2] 1 = .int x0 := q9upN_of (by decide) ae0
  have u1 : q9upN w 3 [.int x2] 2 = .int x1 := q9upN_of (by decide) ae1
  have u2 : q9upN w 3 [.int x2] 3 = .int x2 := q9upN_at (by decide)
  refine ⟨[.int x2], fun i9 p9 hq9 => ?_, fun _ h => absurd h List.not_mem_nil, fun _ h => absurd h List.not_mem_nil⟩
  · match i9, hq9 with
    | 0, hq9 =>
      have hp9 : ((1106, (1, 0), (0, 0), (0, 0, 0)) : Nat × q9AV × q9AV × q9ET) = p9 := Option.some.inj hq9
      subst hp9
      exact ⟨⟨x2, rfl, by rw [nt2]; exact rg0.1, by rw [nt2]; exact rg0.2⟩, (q9th_tX (T := T) (N := N) (P := P) (J := J) (t0 := t0) (Sc := Sc) (q9evS u0) (q9evZ u_) (q9evS u2) (by rw [q9FF_1106, nt2]; exact (by show some (q9wsI T N 6 x0.toInt) = _; rw [q9ws_ne (t := 6) 1 (by decide) hne])) (by decide)).trans (congrArg some (q9evS u2))⟩
    | k9 + 1, hq9 => exact nomatch (show (none : Option (Nat × q9AV × q9AV × q9ET)) = some p9 from hq9)
theorem q9ru_wa6_2 (hT : ∀ i, 0 ≤ T i ∧ T i ≤ 255) (hN : 0 ≤ N ∧ N ≤ 400) (hSc : 0 ≤ Sc 1 ∧ Sc 1 ≤ 400 → N = Sc 1) : q9ruOK (fO T N P J t0 Sc) q9R_wa6_2 := by
  intro w w0 hA hX hL hV hR
  obtain ⟨x0, ae0, -, -⟩ := hA 0 0 rfl
  obtain ⟨x1, ae1, -, -⟩ := hA 1 0 rfl
  have kz : (0 : Int32).toInt = 0 := rfl
  have k108 : (Int32.ofInt 108).toInt = 108 := q9oI_toInt (by decide)
  have X0 := q9th_pX (T := T) (N := N) (P := P) (J := J) (t0 := t0) (Sc := Sc) (op := 1000) (q9evO ae0 2) (q9evZ w0) (q9evS ae1) (hX _ (List.mem_of_getElem? (i := 0) rfl)) (by decide)
  rw [q9FF_1000] at X0
  have H0 := Option.some.inj X0
  try simp only [kz, k108] at H0
  have L0 : x1.toInt ≤ (Int32.ofInt 108).toInt + 0 := q9pC (q9evS ae1) (q9evC w0 108) (hL _ (List.mem_of_getElem? (i := 0) rfl))
  have L1 : (0 : Int32).toInt ≤ x0.toInt + 0 := q9pC (q9evZ w0) (q9evS ae0) (hL _ (List.mem_of_getElem? (i := 1) rfl))
  have hne : q9byI T N (x0.toInt + ((2 : Nat) : Int)) ≠ 109 := by
    rw [show x0.toInt + ((2 : Nat) : Int) = x0.toInt + 2 from rfl]
    by_cases hb : x0.toInt + 2 ≤ 2147483647
    · rw [q9ad32 (x := x0) (d := 2) (by omega)] at H0
      omega
    · intro h
      have := q9byI_lt (T := T) (N := N) (i := x0.toInt + 2) (by omega)
      omega
  have rg0 : (0 : Int) ≤ 0 ∧ (0 : Int) ≤ 0 := by omega
  obtain ⟨x2, nt2⟩ : ∃ x : Int32, x.toInt = 0 := ⟨Int32.ofInt (0), q9oI_toInt (by omega)⟩
  have u_ : q9upN w 3 [.int x2] 0 = .int 0 := q9upN_of (by decide) w0
  have u0 : q9upN w 3 [.int x2] 1 = .int x0 := q9upN_of (by decide) ae0
  have u1 : q9upN w 3 [.int x2] 2 = .int x1 := q9upN_of (by decide) ae1
  have u2 : q9upN w 3 [.int x2] 3 = .int x2 := q9upN_at (by decide)
  refine ⟨[.int x2], fun i9 p9 hq9 => ?_, fun _ h => absurd h List.not_mem_nil, fun _ h => absurd h List.not_mem_nil⟩
  · match i9, hq9 with
    | 0, hq9 =>
      have hp9 : ((1106, (1, 0), (0, 0), (0, 0, 0)) : Nat × q9AV × q9AV × q9ET) = p9 := Option.some.inj hq9
      subst hp9
      exact ⟨⟨x2, rfl, by rw [nt2]; exact rg0.1, by rw [nt2]; exact rg0.2⟩, (q9th_tX (T := T) (N := N) (P := P) (J := J) (t0 := t0) (Sc := Sc) (q9evS u0) (q9evZ u_) (q9evS u2) (by rw [q9FF_1106, nt2]; exact (by show some (q9wsI T N 6 x0.toInt) = _; rw [q9ws_ne (t := 6) 2 (by decide) hne])) (by decide)).trans (congrArg some (q9evS u2))⟩
    | k9 + 1, hq9 => exact nomatch (show (none : Option (Nat × q9AV × q9AV × q9ET)) = some p9 from hq9)
theorem q9ru_wb6_2 (hT : ∀ i, 0 ≤ T i ∧ T i ≤ 255) (hN : 0 ≤ N ∧ N ≤ 400) (hSc : 0 ≤ Sc 1 ∧ Sc 1 ≤ 400 → N = Sc 1) : q9ruOK (fO T N P J t0 Sc) q9R_wb6_2 := by
  intro w w0 hA hX hL hV hR
  obtain ⟨x0, ae0, -, -⟩ := hA 0 0 rfl
  obtain ⟨x1, ae1, -, -⟩ := hA 1 0 rfl
  have kz : (0 : Int32).toInt = 0 := rfl
  have k110 : (Int32.ofInt 110).toInt = 110 := q9oI_toInt (by decide)
  have X0 := q9th_pX (T := T) (N := N) (P := P) (J := J) (t0 := t0) (Sc := Sc) (op := 1000) (q9evO ae0 2) (q9evZ w0) (q9evS ae1) (hX _ (List.mem_of_getElem? (i := 0) rfl)) (by decide)
  rw [q9FF_1000] at X0
  have H0 := Option.some.inj X0
  try simp only [kz, k110] at H0
  have L0 : (Int32.ofInt 110).toInt ≤ x1.toInt + 0 := q9pC (q9evC w0 110) (q9evS ae1) (hL _ (List.mem_of_getElem? (i := 0) rfl))
  have L1 : (0 : Int32).toInt ≤ x0.toInt + 0 := q9pC (q9evZ w0) (q9evS ae0) (hL _ (List.mem_of_getElem? (i := 1) rfl))
  have hne : q9byI T N (x0.toInt + ((2 : Nat) : Int)) ≠ 109 := by
    rw [show x0.toInt + ((2 : Nat) : Int) = x0.toInt + 2 from rfl]
    by_cases hb : x0.toInt + 2 ≤ 2147483647
    · rw [q9ad32 (x := x0) (d := 2) (by omega)] at H0
      omega
    · intro h
      have := q9byI_lt (T := T) (N := N) (i := x0.toInt + 2) (by omega)
      omega
  have rg0 : (0 : Int) ≤ 0 ∧ (0 : Int) ≤ 0 := by omega
  obtain ⟨x2, nt2⟩ : ∃ x : Int32, x.toInt = 0 := ⟨Int32.ofInt (0), q9oI_toInt (by omega)⟩
  have u_ : q9upN w 3 [.int x2] 0 = .int 0 := q9upN_of (by decide) w0
  have u0 : q9upN w 3 [.int x2] 1 = .int x0 := q9upN_of (by decide) ae0
  have u1 : q9upN w 3 [.int x2] 2 = .int x1 := q9upN_of (by decide) ae1
  have u2 : q9upN w 3 [.int x2] 3 = .int x2 := q9upN_at (by decide)
  refine ⟨[.int x2], fun i9 p9 hq9 => ?_, fun _ h => absurd h List.not_mem_nil, fun _ h => absurd h List.not_mem_nil⟩
  · match i9, hq9 with
    | 0, hq9 =>
      have hp9 : ((1106, (1, 0), (0, 0), (0, 0, 0)) : Nat × q9AV × q9AV × q9ET) = p9 := Option.some.inj hq9
      subst hp9
      exact ⟨⟨x2, rfl, by rw [nt2]; exact rg0.1, by rw [nt2]; exact rg0.2⟩, (q9th_tX (T := T) (N := N) (P := P) (J := J) (t0 := t0) (Sc := Sc) (q9evS u0) (q9evZ u_) (q9evS u2) (by rw [q9FF_1106, nt2]; exact (by show some (q9wsI T N 6 x0.toInt) = _; rw [q9ws_ne (t := 6) 2 (by decide) hne])) (by decide)).trans (congrArg some (q9evS u2))⟩
    | k9 + 1, hq9 => exact nomatch (show (none : Option (Nat × q9AV × q9AV × q9ET)) = some p9 from hq9)
theorem q9ru_wa6_3 (hT : ∀ i, 0 ≤ T i ∧ T i ≤ 255) (hN : 0 ≤ N ∧ N ≤ 400) (hSc : 0 ≤ Sc 1 ∧ Sc 1 ≤ 400 → N = Sc 1) : q9ruOK (fO T N P J t0 Sc) q9R_wa6_3 := by
  intro w w0 hA hX hL hV hR
  obtain ⟨x0, ae0, -, -⟩ := hA 0 0 rfl
  obtain ⟨x1, ae1, -, -⟩ := hA 1 0 rfl
  have kz : (0 : Int32).toInt = 0 := rfl
  have k100 : (Int32.ofInt 100).toInt = 100 := q9oI_toInt (by decide)
  have X0 := q9th_pX (T := T) (N := N) (P := P) (J := J) (t0 := t0) (Sc := Sc) (op := 1000) (q9evO ae0 3) (q9evZ w0) (q9evS ae1) (hX _ (List.mem_of_getElem? (i := 0) rfl)) (by decide)
  rw [q9FF_1000] at X0
  have H0 := Option.some.inj X0
  try simp only [kz, k100] at H0
  have L0 : x1.toInt ≤ (Int32.ofInt 100).toInt + 0 := q9pC (q9evS ae1) (q9evC w0 100) (hL _ (List.mem_of_getElem? (i := 0) rfl))
  have L1 : (0 : Int32).toInt ≤ x0.toInt + 0 := q9pC (q9evZ w0) (q9evS ae0) (hL _ (List.mem_of_getElem? (i := 1) rfl))
  have hne : q9byI T N (x0.toInt + ((3 : Nat) : Int)) ≠ 101 := by
    rw [show x0.toInt + ((3 : Nat) : Int) = x0.toInt + 3 from rfl]
    by_cases hb : x0.toInt + 3 ≤ 2147483647
    · rw [q9ad32 (x := x0) (d := 3) (by omega)] at H0
      omega
    · intro h
      have := q9byI_lt (T := T) (N := N) (i := x0.toInt + 3) (by omega)
      omega
  have rg0 : (0 : Int) ≤ 0 ∧ (0 : Int) ≤ 0 := by omega
  obtain ⟨x2, nt2⟩ : ∃ x : Int32, x.toInt = 0 := ⟨Int32.ofInt (0), q9oI_toInt (by omega)⟩
  have u_ : q9upN w 3 [.int x2] 0 = .int 0 := q9upN_of (by decide) w0
  have u0 : q9upN w 3 [.int x2] 1 = .int x0 := q9upN_of (by decide) ae0
  have u1 : q9upN w 3 [.int x2] 2 = .int x1 := q9upN_of (by decide) ae1
  have u2 : q9upN w 3 [.int x2] 3 = .int x2 := q9upN_at (by decide)
  refine ⟨[.int x2], fun i9 p9 hq9 => ?_, fun _ h => absurd h List.not_mem_nil, fun _ h => absurd h List.not_mem_nil⟩
  · match i9, hq9 with
    | 0, hq9 =>
      have hp9 : ((1106, (1, 0), (0, 0), (0, 0, 0)) : Nat × q9AV × q9AV × q9ET) = p9 := Option.some.inj hq9
      subst hp9
      exact ⟨⟨x2, rfl, by rw [nt2]; exact rg0.1, by rw [nt2]; exact rg0.2⟩, (q9th_tX (T := T) (N := N) (P := P) (J := J) (t0 := t0) (Sc := Sc) (q9evS u0) (q9evZ u_) (q9evS u2) (by rw [q9FF_1106, nt2]; exact (by show some (q9wsI T N 6 x0.toInt) = _; rw [q9ws_ne (t := 6) 3 (by decide) hne])) (by decide)).trans (congrArg some (q9evS u2))⟩
    | k9 + 1, hq9 => exact nomatch (show (none : Option (Nat × q9AV × q9AV × q9ET)) = some p9 from hq9)
theorem q9ru_wb6_3 (hT : ∀ i, 0 ≤ T i ∧ T i ≤ 255) (hN : 0 ≤ N ∧ N ≤ 400) (hSc : 0 ≤ Sc 1 ∧ Sc 1 ≤ 400 → N = Sc 1) : q9ruOK (fO T N P J t0 Sc) q9R_wb6_3 := by
  intro w w0 hA hX hL hV hR
  obtain ⟨x0, ae0, -, -⟩ := hA 0 0 rfl
  obtain ⟨x1, ae1, -, -⟩ := hA 1 0 rfl
  have kz : (0 : Int32).toInt = 0 := rfl
  have k102 : (Int32.ofInt 102).toInt = 102 := q9oI_toInt (by decide)
  have X0 := q9th_pX (T := T) (N := N) (P := P) (J := J) (t0 := t0) (Sc := Sc) (op := 1000) (q9evO ae0 3) (q9evZ w0) (q9evS ae1) (hX _ (List.mem_of_getElem? (i := 0) rfl)) (by decide)
  rw [q9FF_1000] at X0
  have H0 := Option.some.inj X0
  try simp only [kz, k102] at H0
  have L0 : (Int32.ofInt 102).toInt ≤ x1.toInt + 0 := q9pC (q9evC w0 102) (q9evS ae1) (hL _ (List.mem_of_getElem? (i := 0) rfl))
  have L1 : (0 : Int32).toInt ≤ x0.toInt + 0 := q9pC (q9evZ w0) (q9evS ae0) (hL _ (List.mem_of_getElem? (i := 1) rfl))
  have hne : q9byI T N (x0.toInt + ((3 : Nat) : Int)) ≠ 101 := by
    rw [show x0.toInt + ((3 : Nat) : Int) = x0.toInt + 3 from rfl]
    by_cases hb : x0.toInt + 3 ≤ 2147483647
    · rw [q9ad32 (x := x0) (d := 3) (by omega)] at H0
      omega
    · intro h
      have := q9byI_lt (T := T) (N := N) (i := x0.toInt + 3) (by omega)
      omega
  have rg0 : (0 : Int) ≤ 0 ∧ (0 : Int) ≤ 0 := by omega
  obtain ⟨x2, nt2⟩ : ∃ x : Int32, x.toInt = 0 := ⟨Int32.ofInt (0), q9oI_toInt (by omega)⟩
  have u_ : q9upN w 3 [.int x2] 0 = .int 0 := q9upN_of (by decide) w0
  have u0 : q9upN w 3 [.int x2] 1 = .int x0 := q9upN_of (by decide) ae0
  have u1 : q9upN w 3 [.int x2] 2 = .int x1 := q9upN_of (by decide) ae1
  have u2 : q9upN w 3 [.int x2] 3 = .int x2 := q9upN_at (by decide)
  refine ⟨[.int x2], fun i9 p9 hq9 => ?_, fun _ h => absurd h List.not_mem_nil, fun _ h => absurd h List.not_mem_nil⟩
  · match i9, hq9 with
    | 0, hq9 =>
      have hp9 : ((1106, (1, 0), (0, 0), (0, 0, 0)) : Nat × q9AV × q9AV × q9ET) = p9 := Option.some.inj hq9
      subst hp9
      exact ⟨⟨x2, rfl, by rw [nt2]; exact rg0.1, by rw [nt2]; exact rg0.2⟩, (q9th_tX (T := T) (N := N) (P := P) (J := J) (t0 := t0) (Sc := Sc) (q9evS u0) (q9evZ u_) (q9evS u2) (by rw [q9FF_1106, nt2]; exact (by show some (q9wsI T N 6 x0.toInt) = _; rw [q9ws_ne (t := 6) 3 (by decide) hne])) (by decide)).trans (congrArg some (q9evS u2))⟩
    | k9 + 1, hq9 => exact nomatch (show (none : Option (Nat × q9AV × q9AV × q9ET)) = some p9 from hq9)
theorem q9ru_wa6_4 (hT : ∀ i, 0 ≤ T i ∧ T i ≤ 255) (hN : 0 ≤ N ∧ N ≤ 400) (hSc : 0 ≤ Sc 1 ∧ Sc 1 ≤ 400 → N = Sc 1) : q9ruOK (fO T N P J t0 Sc) q9R_wa6_4 := by
  intro w w0 hA hX hL hV hR
  obtain ⟨x0, ae0, -, -⟩ := hA 0 0 rfl
  obtain ⟨x1, ae1, -, -⟩ := hA 1 0 rfl
  have kz : (0 : Int32).toInt = 0 := rfl
  have k113 : (Int32.ofInt 113).toInt = 113 := q9oI_toInt (by decide)
  have X0 := q9th_pX (T := T) (N := N) (P := P) (J := J) (t0 := t0) (Sc := Sc) (op := 1000) (q9evO ae0 4) (q9evZ w0) (q9evS ae1) (hX _ (List.mem_of_getElem? (i := 0) rfl)) (by decide)
  rw [q9FF_1000] at X0
  have H0 := Option.some.inj X0
  try simp only [kz, k113] at H0
  have L0 : x1.toInt ≤ (Int32.ofInt 113).toInt + 0 := q9pC (q9evS ae1) (q9evC w0 113) (hL _ (List.mem_of_getElem? (i := 0) rfl))
  have L1 : (0 : Int32).toInt ≤ x0.toInt + 0 := q9pC (q9evZ w0) (q9evS ae0) (hL _ (List.mem_of_getElem? (i := 1) rfl))
  have hne : q9byI T N (x0.toInt + ((4 : Nat) : Int)) ≠ 114 := by
    rw [show x0.toInt + ((4 : Nat) : Int) = x0.toInt + 4 from rfl]
    by_cases hb : x0.toInt + 4 ≤ 2147483647
    · rw [q9ad32 (x := x0) (d := 4) (by omega)] at H0
      omega
    · intro h
      have := q9byI_lt (T := T) (N := N) (i := x0.toInt + 4) (by omega)
      omega
  have rg0 : (0 : Int) ≤ 0 ∧ (0 : Int) ≤ 0 := by omega
  obtain ⟨x2, nt2⟩ : ∃ x : Int32, x.toInt = 0 := ⟨Int32.ofInt (0), q9oI_toInt (by omega)⟩
  have u_ : q9upN w 3 [.int x2] 0 = .int 0 := q9upN_of (by decide) w0
  have u0 : q9upN w 3 [.int x2] 1 = .int x0 := q9upN_of (by decide) ae0
  have u1 : q9upN w 3 [.int x2] 2 = .int x1 := q9upN_of (by decide) ae1
  have u2 : q9upN w 3 [.int x2] 3 = .int x2 := q9upN_at (by decide)
  refine ⟨[.int x2], fun i9 p9 hq9 => ?_, fun _ h => absurd h List.not_mem_nil, fun _ h => absurd h List.not_mem_nil⟩
  · match i9, hq9 with
    | 0, hq9 =>
      have hp9 : ((1106, (1, 0), (0, 0), (0, 0, 0)) : Nat × q9AV × q9AV × q9ET) = p9 := Option.some.inj hq9
      subst hp9
      exact ⟨⟨x2, rfl, by rw [nt2]; exact rg0.1, by rw [nt2]; exact rg0.2⟩, (q9th_tX (T := T) (N := N) (P := P) (J := J) (t0 := t0) (Sc := Sc) (q9evS u0) (q9evZ u_) (q9evS u2) (by rw [q9FF_1106, nt2]; exact (by show some (q9wsI T N 6 x0.toInt) = _; rw [q9ws_ne (t := 6) 4 (by decide) hne])) (by decide)).trans (congrArg some (q9evS u2))⟩
    | k9 + 1, hq9 => exact nomatch (show (none : Option (Nat × q9AV × q9AV × q9ET)) = some p9 from hq9)
theorem q9ru_wb6_4 (hT : ∀ i, 0 ≤ T i ∧ T i ≤ 255) (hN : 0 ≤ N ∧ N ≤ 400) (hSc : 0 ≤ Sc 1 ∧ Sc 1 ≤ 400 → N = Sc 1) : q9ruOK (fO T N P J t0 Sc) q9R_wb6_4 := by
  intro w w0 hA hX hL hV hR
  obtain ⟨x0, ae0, -, -⟩ := hA 0 0 rfl
  obtain ⟨x1, ae1, -, -⟩ := hA 1 0 rfl
  have kz : (0 : Int32).toInt = 0 := rfl
  have k115 : (Int32.ofInt 115).toInt = 115 := q9oI_toInt (by decide)
  have X0 := q9th_pX (T := T) (N := N) (P := P) (J := J) (t0 := t0) (Sc := Sc) (op := 1000) (q9evO ae0 4) (q9evZ w0) (q9evS ae1) (hX _ (List.mem_of_getElem? (i := 0) rfl)) (by decide)
  rw [q9FF_1000] at X0
  have H0 := Option.some.inj X0
  try simp only [kz, k115] at H0
  have L0 : (Int32.ofInt 115).toInt ≤ x1.toInt + 0 := q9pC (q9evC w0 115) (q9evS ae1) (hL _ (List.mem_of_getElem? (i := 0) rfl))
  have L1 : (0 : Int32).toInt ≤ x0.toInt + 0 := q9pC (q9evZ w0) (q9evS ae0) (hL _ (List.mem_of_getElem? (i := 1) rfl))
  have hne : q9byI T N (x0.toInt + ((4 : Nat) : Int)) ≠ 114 := by
    rw [show x0.toInt + ((4 : Nat) : Int) = x0.toInt + 4 from rfl]
    by_cases hb : x0.toInt + 4 ≤ 2147483647
    · rw [q9ad32 (x := x0) (d := 4) (by omega)] at H0
      omega
    · intro h
      have := q9byI_lt (T := T) (N := N) (i := x0.toInt + 4) (by omega)
      omega
  have rg0 : (0 : Int) ≤ 0 ∧ (0 : Int) ≤ 0 := by omega
  obtain ⟨x2, nt2⟩ : ∃ x : Int32, x.toInt = 0 := ⟨Int32.ofInt (0), q9oI_toInt (by omega)⟩
  have u_ : q9upN w 3 [.int x2] 0 = .int 0 := q9upN_of (by decide) w0
  have u0 : q9upN w 3 [.int x2] 1 = .int x0 := q9upN_of (by decide) ae0
  have u1 : q9upN w 3 [.int x2] 2 = .int x1 := q9upN_of (by decide) ae1
  have u2 : q9upN w 3 [.int x2] 3 = .int x2 := q9upN_at (by decide)
  refine ⟨[.int x2], fun i9 p9 hq9 => ?_, fun _ h => absurd h List.not_mem_nil, fun _ h => absurd h List.not_mem_nil⟩
  · match i9, hq9 with
    | 0, hq9 =>
      have hp9 : ((1106, (1, 0), (0, 0), (0, 0, 0)) : Nat × q9AV × q9AV × q9ET) = p9 := Option.some.inj hq9
      subst hp9
      exact ⟨⟨x2, rfl, by rw [nt2]; exact rg0.1, by rw [nt2]; exact rg0.2⟩, (q9th_tX (T := T) (N := N) (P := P) (J := J) (t0 := t0) (Sc := Sc) (q9evS u0) (q9evZ u_) (q9evS u2) (by rw [q9FF_1106, nt2]; exact (by show some (q9wsI T N 6 x0.toInt) = _; rw [q9ws_ne (t := 6) 4 (by decide) hne])) (by decide)).trans (congrArg some (q9evS u2))⟩
    | k9 + 1, hq9 => exact nomatch (show (none : Option (Nat × q9AV × q9AV × q9ET)) = some p9 from hq9)
theorem q9ru_wa6_5 (hT : ∀ i, 0 ≤ T i ∧ T i ≤ 255) (hN : 0 ≤ N ∧ N ≤ 400) (hSc : 0 ≤ Sc 1 ∧ Sc 1 ≤ 400 → N = Sc 1) : q9ruOK (fO T N P J t0 Sc) q9R_wa6_5 := by
  intro w w0 hA hX hL hV hR
  obtain ⟨x0, ae0, -, -⟩ := hA 0 0 rfl
  obtain ⟨x1, ae1, -, -⟩ := hA 1 0 rfl
  have kz : (0 : Int32).toInt = 0 := rfl
  have k96 : (Int32.ofInt 96).toInt = 96 := q9oI_toInt (by decide)
  have X0 := q9th_pX (T := T) (N := N) (P := P) (J := J) (t0 := t0) (Sc := Sc) (op := 1000) (q9evO ae0 5) (q9evZ w0) (q9evS ae1) (hX _ (List.mem_of_getElem? (i := 0) rfl)) (by decide)
  rw [q9FF_1000] at X0
  have H0 := Option.some.inj X0
  try simp only [kz, k96] at H0
  have L0 : x1.toInt ≤ (Int32.ofInt 96).toInt + 0 := q9pC (q9evS ae1) (q9evC w0 96) (hL _ (List.mem_of_getElem? (i := 0) rfl))
  have L1 : (0 : Int32).toInt ≤ x0.toInt + 0 := q9pC (q9evZ w0) (q9evS ae0) (hL _ (List.mem_of_getElem? (i := 1) rfl))
  have hne : q9byI T N (x0.toInt + ((5 : Nat) : Int)) ≠ 97 := by
    rw [show x0.toInt + ((5 : Nat) : Int) = x0.toInt + 5 from rfl]
    by_cases hb : x0.toInt + 5 ≤ 2147483647
    · rw [q9ad32 (x := x0) (d := 5) (by omega)] at H0
      omega
    · intro h
      have := q9byI_lt (T := T) (N := N) (i := x0.toInt + 5) (by omega)
      omega
  have rg0 : (0 : Int) ≤ 0 ∧ (0 : Int) ≤ 0 := by omega
  obtain ⟨x2, nt2⟩ : ∃ x : Int32, x.toInt = 0 := ⟨Int32.ofInt (0), q9oI_toInt (by omega)⟩
  have u_ : q9upN w 3 [.int x2] 0 = .int 0 := q9upN_of (by decide) w0
  have u0 : q9upN w 3 [.int x2] 1 = .int x0 := q9upN_of (by decide) ae0
  have u1 : q9upN w 3 [.int x2] 2 = .int x1 := q9upN_of (by decide) ae1
  have u2 : q9upN w 3 [.int x2] 3 = .int x2 := q9upN_at (by decide)
  refine ⟨[.int x2], fun i9 p9 hq9 => ?_, fun _ h => absurd h List.not_mem_nil, fun _ h => absurd h List.not_mem_nil⟩
  · match i9, hq9 with
    | 0, hq9 =>
      have hp9 : ((1106, (1, 0), (0, 0), (0, 0, 0)) : Nat × q9AV × q9AV × q9ET) = p9 := Option.some.inj hq9
      subst hp9
      exact ⟨⟨x2, rfl, by rw [nt2]; exact rg0.1, by rw [nt2]; exact rg0.2⟩, (q9th_tX (T := T) (N := N) (P := P) (J := J) (t0 := t0) (Sc := Sc) (q9evS u0) (q9evZ u_) (q9evS u2) (by rw [q9FF_1106, nt2]; exact (by show some (q9wsI T N 6 x0.toInt) = _; rw [q9ws_ne (t := 6) 5 (by decide) hne])) (by decide)).trans (congrArg some (q9evS u2))⟩
    | k9 + 1, hq9 => exact nomatch (show (none : Option (Nat × q9AV × q9AV × q9ET)) = some p9 from hq9)
theorem q9ru_wb6_5 (hT : ∀ i, 0 ≤ T i ∧ T i ≤ 255) (hN : 0 ≤ N ∧ N ≤ 400) (hSc : 0 ≤ Sc 1 ∧ Sc 1 ≤ 400 → N = Sc 1) : q9ruOK (fO T N P J t0 Sc) q9R_wb6_5 := by
  intro w w0 hA hX hL hV hR
  obtain ⟨x0, ae0, -, -⟩ := hA 0 0 rfl
  obtain ⟨x1, ae1, -, -⟩ := hA 1 0 rfl
  have kz : (0 : Int32).toInt = 0 := rfl
  have k98 : (Int32.ofInt 98).toInt = 98 := q9oI_toInt (by decide)
  have X0 := q9th_pX (T := T) (N := N) (P := P) (J := J) (t0 := t0) (Sc := Sc) (op := 1000) (q9evO ae0 5) (q9evZ w0) (q9evS ae1) (hX _ (List.mem_of_getElem? (i := 0) rfl)) (by decide)
  rw [q9FF_1000] at X0
  have H0 := Option.some.inj X0
  try simp only [kz, k98] at H0
  have L0 : (Int32.ofInt 98).toInt ≤ x1.toInt + 0 := q9pC (q9evC w0 98) (q9evS ae1) (hL _ (List.mem_of_getElem? (i := 0) rfl))
  have L1 : (0 : Int32).toInt ≤ x0.toInt + 0 := q9pC (q9evZ w0) (q9evS ae0) (hL _ (List.mem_of_getElem? (i := 1) rfl))
  have hne : q9byI T N (x0.toInt + ((5 : Nat) : Int)) ≠ 97 := by
    rw [show x0.toInt + ((5 : Nat) : Int) = x0.toInt + 5 from rfl]
    by_cases hb : x0.toInt + 5 ≤ 2147483647
    · rw [q9ad32 (x := x0) (d := 5) (by omega)] at H0
      omega
    · intro h
      have := q9byI_lt (T := T) (N := N) (i := x0.toInt + 5) (by omega)
      omega
  have rg0 : (0 : Int) ≤ 0 ∧ (0 : Int) ≤ 0 := by omega
  obtain ⟨x2, nt2⟩ : ∃ x : Int32, x.toInt = 0 := ⟨Int32.ofInt (0), q9oI_toInt (by omega)⟩
  have u_ : q9upN w 3 [.int x2] 0 = .int 0 := q9upN_of (by decide) w0
  have u0 : q9upN w 3 [.int x2] 1 = .int x0 := q9upN_of (by decide) ae0
  have u1 : q9upN w 3 [.int x2] 2 = .int x1 := q9upN_of (by decide) ae1
  have u2 : q9upN w 3 [.int x2] 3 = .int x2 := q9upN_at (by decide)
  refine ⟨[.int x2], fun i9 p9 hq9 => ?_, fun _ h => absurd h List.not_mem_nil, fun _ h => absurd h List.not_mem_nil⟩
  · match i9, hq9 with
    | 0, hq9 =>
      have hp9 : ((1106, (1, 0), (0, 0), (0, 0, 0)) : Nat × q9AV × q9AV × q9ET) = p9 := Option.some.inj hq9
      subst hp9
      exact ⟨⟨x2, rfl, by rw [nt2]; exact rg0.1, by rw [nt2]; exact rg0.2⟩, (q9th_tX (T := T) (N := N) (P := P) (J := J) (t0 := t0) (Sc := Sc) (q9evS u0) (q9evZ u_) (q9evS u2) (by rw [q9FF_1106, nt2]; exact (by show some (q9wsI T N 6 x0.toInt) = _; rw [q9ws_ne (t := 6) 5 (by decide) hne])) (by decide)).trans (congrArg some (q9evS u2))⟩
    | k9 + 1, hq9 => exact nomatch (show (none : Option (Nat × q9AV × q9AV × q9ET)) = some p9 from hq9)
theorem q9ru_wy6 (hT : ∀ i, 0 ≤ T i ∧ T i ≤ 255) (hN : 0 ≤ N ∧ N ≤ 400) (hSc : 0 ≤ Sc 1 ∧ Sc 1 ≤ 400 → N = Sc 1) : q9ruOK (fO T N P J t0 Sc) q9R_wy6 := by
  intro w w0 hA hX hL hV hR
  obtain ⟨x0, ae0, -, -⟩ := hA 0 0 rfl
  obtain ⟨x1, ae1, -, -⟩ := hA 1 0 rfl
  obtain ⟨x2, ae2, -, -⟩ := hA 2 0 rfl
  obtain ⟨x3, ae3, -, -⟩ := hA 3 0 rfl
  obtain ⟨x4, ae4, -, -⟩ := hA 4 0 rfl
  obtain ⟨x5, ae5, -, -⟩ := hA 5 0 rfl
  obtain ⟨x6, ae6, -, -⟩ := hA 6 0 rfl
  obtain ⟨x7, ae7, -, -⟩ := hA 7 0 rfl
  obtain ⟨x8, ae8, -, -⟩ := hA 8 0 rfl
  have kz : (0 : Int32).toInt = 0 := rfl
  have k6 : (Int32.ofInt 6).toInt = 6 := q9oI_toInt (by decide)
  have k97 : (Int32.ofInt 97).toInt = 97 := q9oI_toInt (by decide)
  have k99 : (Int32.ofInt 99).toInt = 99 := q9oI_toInt (by decide)
  have k101 : (Int32.ofInt 101).toInt = 101 := q9oI_toInt (by decide)
  have k109 : (Int32.ofInt 109).toInt = 109 := q9oI_toInt (by decide)
  have k114 : (Int32.ofInt 114).toInt = 114 := q9oI_toInt (by decide)
  have X0 := q9th_pX (T := T) (N := N) (P := P) (J := J) (t0 := t0) (Sc := Sc) (op := 1003) (q9evS ae0) (q9evZ w0) (q9evS ae1) (hX _ (List.mem_of_getElem? (i := 0) rfl)) (by decide)
  rw [q9FF_1003] at X0
  have H0 := Option.some.inj X0
  try simp only [kz, k6, k97, k99, k101, k109, k114] at H0
  have X1 := q9pB (T := T) (N := N) (P := P) (J := J) (t0 := t0) (Sc := Sc) (q9evS ae1) (q9evS ae0) (q9evS ae2) (hX _ (List.mem_of_getElem? (i := 1) rfl))
  have L0 : (Int32.ofInt 6).toInt ≤ x2.toInt + 0 := q9pC (q9evC w0 6) (q9evS ae2) (hL _ (List.mem_of_getElem? (i := 0) rfl))
  have L1 : x2.toInt ≤ (Int32.ofInt 6).toInt + 0 := q9pC (q9evS ae2) (q9evC w0 6) (hL _ (List.mem_of_getElem? (i := 1) rfl))
  have L2 : (0 : Int32).toInt ≤ x0.toInt + 0 := q9pC (q9evZ w0) (q9evS ae0) (hL _ (List.mem_of_getElem? (i := 2) rfl))
  have X2 := q9th_pX (T := T) (N := N) (P := P) (J := J) (t0 := t0) (Sc := Sc) (op := 1000) (q9evS ae0) (q9evZ w0) (q9evS ae3) (hX _ (List.mem_of_getElem? (i := 2) rfl)) (by decide)
  rw [q9FF_1000] at X2
  have H2 := Option.some.inj X2
  try simp only [kz, k6, k97, k99, k101, k109, k114] at H2
  have L3 : (Int32.ofInt 99).toInt ≤ x3.toInt + 0 := q9pC (q9evC w0 99) (q9evS ae3) (hL _ (List.mem_of_getElem? (i := 3) rfl))
  have L4 : x3.toInt ≤ (Int32.ofInt 99).toInt + 0 := q9pC (q9evS ae3) (q9evC w0 99) (hL _ (List.mem_of_getElem? (i := 4) rfl))
  have X3 := q9th_pX (T := T) (N := N) (P := P) (J := J) (t0 := t0) (Sc := Sc) (op := 1000) (q9evO ae0 1) (q9evZ w0) (q9evS ae4) (hX _ (List.mem_of_getElem? (i := 3) rfl)) (by decide)
  rw [q9FF_1000] at X3
  have H3 := Option.some.inj X3
  try simp only [kz, k6, k97, k99, k101, k109, k114] at H3
  have L5 : (Int32.ofInt 97).toInt ≤ x4.toInt + 0 := q9pC (q9evC w0 97) (q9evS ae4) (hL _ (List.mem_of_getElem? (i := 5) rfl))
  have L6 : x4.toInt ≤ (Int32.ofInt 97).toInt + 0 := q9pC (q9evS ae4) (q9evC w0 97) (hL _ (List.mem_of_getElem? (i := 6) rfl))
  have X4 := q9th_pX (T := T) (N := N) (P := P) (J := J) (t0 := t0) (Sc := Sc) (op := 1000) (q9evO ae0 2) (q9evZ w0) (q9evS ae5) (hX _ (List.mem_of_getElem? (i := 4) rfl)) (by decide)
  rw [q9FF_1000] at X4
  have H4 := Option.some.inj X4
  try simp only [kz, k6, k97, k99, k101, k109, k114] at H4
  have L7 : (Int32.ofInt 109).toInt ≤ x5.toInt + 0 := q9pC (q9evC w0 109) (q9evS ae5) (hL _ (List.mem_of_getElem? (i := 7) rfl))
  have L8 : x5.toInt ≤ (Int32.ofInt 109).toInt + 0 := q9pC (q9evS ae5) (q9evC w0 109) (hL _ (List.mem_of_getElem? (i := 8) rfl))
  have X5 := q9th_pX (T := T) (N := N) (P := P) (J := J) (t0 := t0) (Sc := Sc) (op := 1000) (q9evO ae0 3) (q9evZ w0) (q9evS ae6) (hX _ (List.mem_of_getElem? (i := 5) rfl)) (by decide)
  rw [q9FF_1000] at X5
  have H5 := Option.some.inj X5
  try simp only [kz, k6, k97, k99, k101, k109, k114] at H5
  have L9 : (Int32.ofInt 101).toInt ≤ x6.toInt + 0 := q9pC (q9evC w0 101) (q9evS ae6) (hL _ (List.mem_of_getElem? (i := 9) rfl))
  have L10 : x6.toInt ≤ (Int32.ofInt 101).toInt + 0 := q9pC (q9evS ae6) (q9evC w0 101) (hL _ (List.mem_of_getElem? (i := 10) rfl))
  have X6 := q9th_pX (T := T) (N := N) (P := P) (J := J) (t0 := t0) (Sc := Sc) (op := 1000) (q9evO ae0 4) (q9evZ w0) (q9evS ae7) (hX _ (List.mem_of_getElem? (i := 6) rfl)) (by decide)
  rw [q9FF_1000] at X6
  have H6 := Option.some.inj X6
  try simp only [kz, k6, k97, k99, k101, k109, k114] at H6
  have L11 : (Int32.ofInt 114).toInt ≤ x7.toInt + 0 := q9pC (q9evC w0 114) (q9evS ae7) (hL _ (List.mem_of_getElem? (i := 11) rfl))
  have L12 : x7.toInt ≤ (Int32.ofInt 114).toInt + 0 := q9pC (q9evS ae7) (q9evC w0 114) (hL _ (List.mem_of_getElem? (i := 12) rfl))
  have X7 := q9th_pX (T := T) (N := N) (P := P) (J := J) (t0 := t0) (Sc := Sc) (op := 1000) (q9evO ae0 5) (q9evZ w0) (q9evS ae8) (hX _ (List.mem_of_getElem? (i := 7) rfl)) (by decide)
  rw [q9FF_1000] at X7
  have H7 := Option.some.inj X7
  try simp only [kz, k6, k97, k99, k101, k109, k114] at H7
  have L13 : (Int32.ofInt 97).toInt ≤ x8.toInt + 0 := q9pC (q9evC w0 97) (q9evS ae8) (hL _ (List.mem_of_getElem? (i := 13) rfl))
  have L14 : x8.toInt ≤ (Int32.ofInt 97).toInt + 0 := q9pC (q9evS ae8) (q9evC w0 97) (hL _ (List.mem_of_getElem? (i := 14) rfl))
  have b1 := q9we_ge (T := T) (N := N) (i := x0.toInt)
  have b2 := q9we_le (T := T) (N := N) (i := x0.toInt)
  have d := q9su32 X1 (by omega)
  have z0 : q9byI T N (x0.toInt + ((0 : Nat) : Int)) = 99 := by rw [show x0.toInt + ((0 : Nat) : Int) = x0.toInt + 0 by omega, Int.add_zero]; omega
  have v1 := q9ad32 (x := x0) (d := 1) (by omega)
  rw [v1] at H3
  have z1 : q9byI T N (x0.toInt + ((1 : Nat) : Int)) = 97 := by rw [show x0.toInt + ((1 : Nat) : Int) = x0.toInt + 1 by omega]; omega
  have v2 := q9ad32 (x := x0) (d := 2) (by omega)
  rw [v2] at H4
  have z2 : q9byI T N (x0.toInt + ((2 : Nat) : Int)) = 109 := by rw [show x0.toInt + ((2 : Nat) : Int) = x0.toInt + 2 by omega]; omega
  have v3 := q9ad32 (x := x0) (d := 3) (by omega)
  rw [v3] at H5
  have z3 : q9byI T N (x0.toInt + ((3 : Nat) : Int)) = 101 := by rw [show x0.toInt + ((3 : Nat) : Int) = x0.toInt + 3 by omega]; omega
  have v4 := q9ad32 (x := x0) (d := 4) (by omega)
  rw [v4] at H6
  have z4 : q9byI T N (x0.toInt + ((4 : Nat) : Int)) = 114 := by rw [show x0.toInt + ((4 : Nat) : Int) = x0.toInt + 4 by omega]; omega
  have v5 := q9ad32 (x := x0) (d := 5) (by omega)
  rw [v5] at H7
  have z5 : q9byI T N (x0.toInt + ((5 : Nat) : Int)) = 97 := by rw [show x0.toInt + ((5 : Nat) : Int) = x0.toInt + 5 by omega]; omega
  have rg0 : (1 : Int) ≤ 1 ∧ (1 : Int) ≤ 1 := by omega
  obtain ⟨x9, nt9⟩ : ∃ x : Int32, x.toInt = 1 := ⟨Int32.ofInt (1), q9oI_toInt (by omega)⟩
  have u_ : q9upN w 10 [.int x9] 0 = .int 0 := q9upN_of (by decide) w0
  have u0 : q9upN w 10 [.int x9] 1 = .int x0 := q9upN_of (by decide) ae0
  have u1 : q9upN w 10 [.int x9] 2 = .int x1 := q9upN_of (by decide) ae1
  have u2 : q9upN w 10 [.int x9] 3 = .int x2 := q9upN_of (by decide) ae2
  have u3 : q9upN w 10 [.int x9] 4 = .int x3 := q9upN_of (by decide) ae3
  have u4 : q9upN w 10 [.int x9] 5 = .int x4 := q9upN_of (by decide) ae4
  have u5 : q9upN w 10 [.int x9] 6 = .int x5 := q9upN_of (by decide) ae5
  have u6 : q9upN w 10 [.int x9] 7 = .int x6 := q9upN_of (by decide) ae6
  have u7 : q9upN w 10 [.int x9] 8 = .int x7 := q9upN_of (by decide) ae7
  have u8 : q9upN w 10 [.int x9] 9 = .int x8 := q9upN_of (by decide) ae8
  have u9 : q9upN w 10 [.int x9] 10 = .int x9 := q9upN_at (by decide)
  refine ⟨[.int x9], fun i9 p9 hq9 => ?_, fun _ h => absurd h List.not_mem_nil, fun _ h => absurd h List.not_mem_nil⟩
  · match i9, hq9 with
    | 0, hq9 =>
      have hp9 : ((1106, (1, 0), (0, 0), (0, 1, 1)) : Nat × q9AV × q9AV × q9ET) = p9 := Option.some.inj hq9
      subst hp9
      exact ⟨⟨x9, rfl, by rw [nt9]; exact rg0.1, by rw [nt9]; exact rg0.2⟩, (q9th_tX (T := T) (N := N) (P := P) (J := J) (t0 := t0) (Sc := Sc) (q9evS u0) (q9evZ u_) (q9evS u9) (by rw [q9FF_1106, nt9]; exact (show some (q9wsI T N 6 x0.toInt) = _ by rw [q9ws_yes (t := 6) (by show _ = ((6 : Nat) : Int); omega) (fun j hj => match j, hj with | 0, _ => z0 | 1, _ => z1 | 2, _ => z2 | 3, _ => z3 | 4, _ => z4 | 5, _ => z5 | k + 6, hj => absurd hj (by show ¬ (k + 6 < 6); omega))])) (by decide)).trans (congrArg some (q9evS u9))⟩
    | k9 + 1, hq9 => exact nomatch (show (none : Option (Nat × q9AV × q9AV × q9ET)) = some p9 from hq9)
theorem q9ru_wl7 (hT : ∀ i, 0 ≤ T i ∧ T i ≤ 255) (hN : 0 ≤ N ∧ N ≤ 400) (hSc : 0 ≤ Sc 1 ∧ Sc 1 ≤ 400 → N = Sc 1) : q9ruOK (fO T N P J t0 Sc) q9R_wl7 := by
  intro w w0 hA hX hL hV hR
  obtain ⟨x0, ae0, -, -⟩ := hA 0 0 rfl
  obtain ⟨x1, ae1, -, -⟩ := hA 1 0 rfl
  obtain ⟨x2, ae2, -, -⟩ := hA 2 0 rfl
  have kz : (0 : Int32).toInt = 0 := rfl
  have k5 : (Int32.ofInt 5).toInt = 5 := q9oI_toInt (by decide)
  have X0 := q9th_pX (T := T) (N := N) (P := P) (J := J) (t0 := t0) (Sc := Sc) (op := 1003) (q9evS ae0) (q9evZ w0) (q9evS ae1) (hX _ (List.mem_of_getElem? (i := 0) rfl)) (by decide)
  rw [q9FF_1003] at X0
  have H0 := Option.some.inj X0
  try simp only [kz, k5] at H0
  have X1 := q9pB (T := T) (N := N) (P := P) (J := J) (t0 := t0) (Sc := Sc) (q9evS ae1) (q9evS ae0) (q9evS ae2) (hX _ (List.mem_of_getElem? (i := 1) rfl))
  have L0 : x2.toInt ≤ (Int32.ofInt 5).toInt + 0 := q9pC (q9evS ae2) (q9evC w0 5) (hL _ (List.mem_of_getElem? (i := 0) rfl))
  have L1 : (0 : Int32).toInt ≤ x0.toInt + 0 := q9pC (q9evZ w0) (q9evS ae0) (hL _ (List.mem_of_getElem? (i := 1) rfl))
  have b1 := q9we_ge (T := T) (N := N) (i := x0.toInt)
  have b2 := q9we_le (T := T) (N := N) (i := x0.toInt)
  have d := q9su32 X1 (by omega)
  have rg0 : (0 : Int) ≤ 0 ∧ (0 : Int) ≤ 0 := by omega
  obtain ⟨x3, nt3⟩ : ∃ x : Int32, x.toInt = 0 := ⟨Int32.ofInt (0), q9oI_toInt (by omega)⟩
  have u_ : q9upN w 4 [.int x3] 0 = .int 0 := q9upN_of (by decide) w0
  have u0 : q9upN w 4 [.int x3] 1 = .int x0 := q9upN_of (by decide) ae0
  have u1 : q9upN w 4 [.int x3] 2 = .int x1 := q9upN_of (by decide) ae1
  have u2 : q9upN w 4 [.int x3] 3 = .int x2 := q9upN_of (by decide) ae2
  have u3 : q9upN w 4 [.int x3] 4 = .int x3 := q9upN_at (by decide)
  refine ⟨[.int x3], fun i9 p9 hq9 => ?_, fun _ h => absurd h List.not_mem_nil, fun _ h => absurd h List.not_mem_nil⟩
  · match i9, hq9 with
    | 0, hq9 =>
      have hp9 : ((1107, (1, 0), (0, 0), (0, 0, 0)) : Nat × q9AV × q9AV × q9ET) = p9 := Option.some.inj hq9
      subst hp9
      exact ⟨⟨x3, rfl, by rw [nt3]; exact rg0.1, by rw [nt3]; exact rg0.2⟩, (q9th_tX (T := T) (N := N) (P := P) (J := J) (t0 := t0) (Sc := Sc) (q9evS u0) (q9evZ u_) (q9evS u3) (by rw [q9FF_1107, nt3]; exact (by show some (q9wsI T N 7 x0.toInt) = _; rw [q9ws_len (t := 7) (by show _ ≠ ((6 : Nat) : Int); omega)])) (by decide)).trans (congrArg some (q9evS u3))⟩
    | k9 + 1, hq9 => exact nomatch (show (none : Option (Nat × q9AV × q9AV × q9ET)) = some p9 from hq9)
theorem q9ru_wm7 (hT : ∀ i, 0 ≤ T i ∧ T i ≤ 255) (hN : 0 ≤ N ∧ N ≤ 400) (hSc : 0 ≤ Sc 1 ∧ Sc 1 ≤ 400 → N = Sc 1) : q9ruOK (fO T N P J t0 Sc) q9R_wm7 := by
  intro w w0 hA hX hL hV hR
  obtain ⟨x0, ae0, -, -⟩ := hA 0 0 rfl
  obtain ⟨x1, ae1, -, -⟩ := hA 1 0 rfl
  obtain ⟨x2, ae2, -, -⟩ := hA 2 0 rfl
  have kz : (0 : Int32).toInt = 0 := rfl
  have k7 : (Int32.ofInt 7).toInt = 7 := q9oI_toInt (by decide)
  have X0 := q9th_pX (T := T) (N := N) (P := P) (J := J) (t0 := t0) (Sc := Sc) (op := 1003) (q9evS ae0) (q9evZ w0) (q9evS ae1) (hX _ (List.mem_of_getElem? (i := 0) rfl)) (by decide)
  rw [q9FF_1003] at X0
  have H0 := Option.some.inj X0
  try simp only [kz, k7] at H0
  have X1 := q9pB (T := T) (N := N) (P := P) (J := J) (t0 := t0) (Sc := Sc) (q9evS ae1) (q9evS ae0) (q9evS ae2) (hX _ (List.mem_of_getElem? (i := 1) rfl))
  have L0 : (Int32.ofInt 7).toInt ≤ x2.toInt + 0 := q9pC (q9evC w0 7) (q9evS ae2) (hL _ (List.mem_of_getElem? (i := 0) rfl))
  have L1 : (0 : Int32).toInt ≤ x0.toInt + 0 := q9pC (q9evZ w0) (q9evS ae0) (hL _ (List.mem_of_getElem? (i := 1) rfl))
  have b1 := q9we_ge (T := T) (N := N) (i := x0.toInt)
  have b2 := q9we_le (T := T) (N := N) (i := x0.toInt)
  have d := q9su32 X1 (by omega)
  have rg0 : (0 : Int) ≤ 0 ∧ (0 : Int) ≤ 0 := by omega
  obtain ⟨x3, nt3⟩ : ∃ x : Int32, x.toInt = 0 := ⟨Int32.ofInt (0), q9oI_toInt (by omega)⟩
  have u_ : q9upN w 4 [.int x3] 0 = .int 0 := q9upN_of (by decide) w0
  have u0 : q9upN w 4 [.int x3] 1 = .int x0 := q9upN_of (by decide) ae0
  have u1 : q9upN w 4 [.int x3] 2 = .int x1 := q9upN_of (by decide) ae1
  have u2 : q9upN w 4 [.int x3] 3 = .int x2 := q9upN_of (by decide) ae2
  have u3 : q9upN w 4 [.int x3] 4 = .int x3 := q9upN_at (by decide)
  refine ⟨[.int x3], fun i9 p9 hq9 => ?_, fun _ h => absurd h List.not_mem_nil, fun _ h => absurd h List.not_mem_nil⟩
  · match i9, hq9 with
    | 0, hq9 =>
      have hp9 : ((1107, (1, 0), (0, 0), (0, 0, 0)) : Nat × q9AV × q9AV × q9ET) = p9 := Option.some.inj hq9
      subst hp9
      exact ⟨⟨x3, rfl, by rw [nt3]; exact rg0.1, by rw [nt3]; exact rg0.2⟩, (q9th_tX (T := T) (N := N) (P := P) (J := J) (t0 := t0) (Sc := Sc) (q9evS u0) (q9evZ u_) (q9evS u3) (by rw [q9FF_1107, nt3]; exact (by show some (q9wsI T N 7 x0.toInt) = _; rw [q9ws_len (t := 7) (by show _ ≠ ((6 : Nat) : Int); omega)])) (by decide)).trans (congrArg some (q9evS u3))⟩
    | k9 + 1, hq9 => exact nomatch (show (none : Option (Nat × q9AV × q9AV × q9ET)) = some p9 from hq9)
theorem q9ru_wa7_0 (hT : ∀ i, 0 ≤ T i ∧ T i ≤ 255) (hN : 0 ≤ N ∧ N ≤ 400) (hSc : 0 ≤ Sc 1 ∧ Sc 1 ≤ 400 → N = Sc 1) : q9ruOK (fO T N P J t0 Sc) q9R_wa7_0 := by
  intro w w0 hA hX hL hV hR
  obtain ⟨x0, ae0, -, -⟩ := hA 0 0 rfl
  obtain ⟨x1, ae1, -, -⟩ := hA 1 0 rfl
  have kz : (0 : Int32).toInt = 0 := rfl
  have k113 : (Int32.ofInt 113).toInt = 113 := q9oI_toInt (by decide)
  have X0 := q9th_pX (T := T) (N := N) (P := P) (J := J) (t0 := t0) (Sc := Sc) (op := 1000) (q9evS ae0) (q9evZ w0) (q9evS ae1) (hX _ (List.mem_of_getElem? (i := 0) rfl)) (by decide)
  rw [q9FF_1000] at X0
  have H0 := Option.some.inj X0
  try simp only [kz, k113] at H0
  have L0 : x1.toInt ≤ (Int32.ofInt 113).toInt + 0 := q9pC (q9evS ae1) (q9evC w0 113) (hL _ (List.mem_of_getElem? (i := 0) rfl))
  have L1 : (0 : Int32).toInt ≤ x0.toInt + 0 := q9pC (q9evZ w0) (q9evS ae0) (hL _ (List.mem_of_getElem? (i := 1) rfl))
  have hne : q9byI T N (x0.toInt + ((0 : Nat) : Int)) ≠ 114 := by
    rw [show x0.toInt + ((0 : Nat) : Int) = x0.toInt by omega]
    omega
  have rg0 : (0 : Int) ≤ 0 ∧ (0 : Int) ≤ 0 := by omega
  obtain ⟨x2, nt2⟩ : ∃ x : Int32, x.toInt = 0 := ⟨Int32.ofInt (0), q9oI_toInt (by omega)⟩
  have u_ : q9upN w 3 [.int x2] 0 = .int 0 := q9upN_of (by decide) w0
  have u0 : q9upN w 3 [.int x2] 1 = .int x0 := q9upN_of (by decide) ae0
  have u1 : q9upN w 3 [.int x2] 2 = .int x1 := q9upN_of (by decide) ae1
  have u2 : q9upN w 3 [.int x2] 3 = .int x2 := q9upN_at (by decide)
  refine ⟨[.int x2], fun i9 p9 hq9 => ?_, fun _ h => absurd h List.not_mem_nil, fun _ h => absurd h List.not_mem_nil⟩
  · match i9, hq9 with
    | 0, hq9 =>
      have hp9 : ((1107, (1, 0), (0, 0), (0, 0, 0)) : Nat × q9AV × q9AV × q9ET) = p9 := Option.some.inj hq9
      subst hp9
      exact ⟨⟨x2, rfl, by rw [nt2]; exact rg0.1, by rw [nt2]; exact rg0.2⟩, (q9th_tX (T := T) (N := N) (P := P) (J := J) (t0 := t0) (Sc := Sc) (q9evS u0) (q9evZ u_) (q9evS u2) (by rw [q9FF_1107, nt2]; exact (by show some (q9wsI T N 7 x0.toInt) = _; rw [q9ws_ne (t := 7) 0 (by decide) hne])) (by decide)).trans (congrArg some (q9evS u2))⟩
    | k9 + 1, hq9 => exact nomatch (show (none : Option (Nat × q9AV × q9AV × q9ET)) = some p9 from hq9)
theorem q9ru_wb7_0 (hT : ∀ i, 0 ≤ T i ∧ T i ≤ 255) (hN : 0 ≤ N ∧ N ≤ 400) (hSc : 0 ≤ Sc 1 ∧ Sc 1 ≤ 400 → N = Sc 1) : q9ruOK (fO T N P J t0 Sc) q9R_wb7_0 := by
  intro w w0 hA hX hL hV hR
  obtain ⟨x0, ae0, -, -⟩ := hA 0 0 rfl
  obtain ⟨x1, ae1, -, -⟩ := hA 1 0 rfl
  have kz : (0 : Int32).toInt = 0 := rfl
  have k115 : (Int32.ofInt 115).toInt = 115 := q9oI_toInt (by decide)
  have X0 := q9th_pX (T := T) (N := N) (P := P) (J := J) (t0 := t0) (Sc := Sc) (op := 1000) (q9evS ae0) (q9evZ w0) (q9evS ae1) (hX _ (List.mem_of_getElem? (i := 0) rfl)) (by decide)
  rw [q9FF_1000] at X0
  have H0 := Option.some.inj X0
  try simp only [kz, k115] at H0
  have L0 : (Int32.ofInt 115).toInt ≤ x1.toInt + 0 := q9pC (q9evC w0 115) (q9evS ae1) (hL _ (List.mem_of_getElem? (i := 0) rfl))
  have L1 : (0 : Int32).toInt ≤ x0.toInt + 0 := q9pC (q9evZ w0) (q9evS ae0) (hL _ (List.mem_of_getElem? (i := 1) rfl))
  have hne : q9byI T N (x0.toInt + ((0 : Nat) : Int)) ≠ 114 := by
    rw [show x0.toInt + ((0 : Nat) : Int) = x0.toInt by omega]
    omega
  have rg0 : (0 : Int) ≤ 0 ∧ (0 : Int) ≤ 0 := by omega
  obtain ⟨x2, nt2⟩ : ∃ x : Int32, x.toInt = 0 := ⟨Int32.ofInt (0), q9oI_toInt (by omega)⟩
  have u_ : q9upN w 3 [.int x2] 0 = .int 0 := q9upN_of (by decide) w0
  have u0 : q9upN w 3 [.int x2] 1 = .int x0 := q9upN_of (by decide) ae0
  have u1 : q9upN w 3 [.int x2] 2 = .int x1 := q9upN_of (by decide) ae1
  have u2 : q9upN w 3 [.int x2] 3 = .int x2 := q9upN_at (by decide)
  refine ⟨[.int x2], fun i9 p9 hq9 => ?_, fun _ h => absurd h List.not_mem_nil, fun _ h => absurd h List.not_mem_nil⟩
  · match i9, hq9 with
    | 0, hq9 =>
      have hp9 : ((1107, (1, 0), (0, 0), (0, 0, 0)) : Nat × q9AV × q9AV × q9ET) = p9 := Option.some.inj hq9
      subst hp9
      exact ⟨⟨x2, rfl, by rw [nt2]; exact rg0.1, by rw [nt2]; exact rg0.2⟩, (q9th_tX (T := T) (N := N) (P := P) (J := J) (t0 := t0) (Sc := Sc) (q9evS u0) (q9evZ u_) (q9evS u2) (by rw [q9FF_1107, nt2]; exact (by show some (q9wsI T N 7 x0.toInt) = _; rw [q9ws_ne (t := 7) 0 (by decide) hne])) (by decide)).trans (congrArg some (q9evS u2))⟩
    | k9 + 1, hq9 => exact nomatch (show (none : Option (Nat × q9AV × q9AV × q9ET)) = some p9 from hq9)
theorem q9ru_wa7_1 (hT : ∀ i, 0 ≤ T i ∧ T i ≤ 255) (hN : 0 ≤ N ∧ N ≤ 400) (hSc : 0 ≤ Sc 1 ∧ Sc 1 ≤ 400 → N = Sc 1) : q9ruOK (fO T N P J t0 Sc) q9R_wa7_1 := by
  intro w w0 hA hX hL hV hR
  obtain ⟨x0, ae0, -, -⟩ := hA 0 0 rfl
  obtain ⟨x1, ae1, -, -⟩ := hA 1 0 rfl
  have kz : (0 : Int32).toInt = 0 := rfl
  have k100 : (Int32.ofInt 100).toInt = 100 := q9oI_toInt (by decide)
  have X0 := q9th_pX (T := T) (N := N) (P := P) (J := J) (t0 := t0) (Sc := Sc) (op := 1000) (q9evO ae0 1) (q9evZ w0) (q9evS ae1) (hX _ (List.mem_of_getElem? (i := 0) rfl)) (by decide)
  rw [q9FF_1000] at X0
  have H0 := Option.some.inj X0
  try simp only [kz, k100] at H0
  have L0 : x1.toInt ≤ (Int32.ofInt 100).toInt + 0 := q9pC (q9evS ae1) (q9evC w0 100) (hL _ (List.mem_of_getElem? (i := 0) rfl))
  have L1 : (0 : Int32).toInt ≤ x0.toInt + 0 := q9pC (q9evZ w0) (q9evS ae0) (hL _ (List.mem_of_getElem? (i := 1) rfl))
  have hne : q9byI T N (x0.toInt + ((1 : Nat) : Int)) ≠ 101 := by
    rw [show x0.toInt + ((1 : Nat) : Int) = x0.toInt + 1 from rfl]
    by_cases hb : x0.toInt + 1 ≤ 2147483647
    · rw [q9ad32 (x := x0) (d := 1) (by omega)] at H0
      omega
    · intro h
      have := q9byI_lt (T := T) (N := N) (i := x0.toInt + 1) (by omega)
      omega
  have rg0 : (0 : Int) ≤ 0 ∧ (0 : Int) ≤ 0 := by omega
  obtain ⟨x2, nt2⟩ : ∃ x : Int32, x.toInt = 0 := ⟨Int32.ofInt (0), q9oI_toInt (by omega)⟩
  have u_ : q9upN w 3 [.int x2] 0 = .int 0 := q9upN_of (by decide) w0
  have u0 : q9upN w 3 [.int x2] 1 = .int x0 := q9upN_of (by decide) ae0
  have u1 : q9upN w 3 [.int x2] 2 = .int x1 := q9upN_of (by decide) ae1
  have u2 : q9upN w 3 [.int x2] 3 = .int x2 := q9upN_at (by decide)
  refine ⟨[.int x2], fun i9 p9 hq9 => ?_, fun _ h => absurd h List.not_mem_nil, fun _ h => absurd h List.not_mem_nil⟩
  · match i9, hq9 with
    | 0, hq9 =>
      have hp9 : ((1107, (1, 0), (0, 0), (0, 0, 0)) : Nat × q9AV × q9AV × q9ET) = p9 := Option.some.inj hq9
      subst hp9
      exact ⟨⟨x2, rfl, by rw [nt2]; exact rg0.1, by rw [nt2]; exact rg0.2⟩, (q9th_tX (T := T) (N := N) (P := P) (J := J) (t0 := t0) (Sc := Sc) (q9evS u0) (q9evZ u_) (q9evS u2) (by rw [q9FF_1107, nt2]; exact (by show some (q9wsI T N 7 x0.toInt) = _; rw [q9ws_ne (t := 7) 1 (by decide) hne])) (by decide)).trans (congrArg some (q9evS u2))⟩
    | k9 + 1, hq9 => exact nomatch (show (none : Option (Nat × q9AV × q9AV × q9ET)) = some p9 from hq9)
theorem q9ru_wb7_1 (hT : ∀ i, 0 ≤ T i ∧ T i ≤ 255) (hN : 0 ≤ N ∧ N ≤ 400) (hSc : 0 ≤ Sc 1 ∧ Sc 1 ≤ 400 → N = Sc 1) : q9ruOK (fO T N P J t0 Sc) q9R_wb7_1 := by
  intro w w0 hA hX hL hV hR
  obtain ⟨x0, ae0, -, -⟩ := hA 0 0 rfl
  obtain ⟨x1, ae1, -, -⟩ := hA 1 0 rfl
  have kz : (0 : Int32).toInt = 0 := rfl
  have k102 : (Int32.ofInt 102).toInt = 102 := q9oI_toInt (by decide)
  have X0 := q9th_pX (T := T) (N := N) (P := P) (J := J) (t0 := t0) (Sc := Sc) (op := 1000) (q9evO ae0 1) (q9evZ w0) (q9evS ae1) (hX _ (List.mem_of_getElem? (i := 0) rfl)) (by decide)
  rw [q9FF_1000] at X0
  have H0 := Option.some.inj X0
  try simp only [kz, k102] at H0
  have L0 : (Int32.ofInt 102).toInt ≤ x1.toInt + 0 := q9pC (q9evC w0 102) (q9evS ae1) (hL _ (List.mem_of_getElem? (i := 0) rfl))
  have L1 : (0 : Int32).toInt ≤ x0.toInt + 0 := q9pC (q9evZ w0) (q9evS ae0) (hL _ (List.mem_of_getElem? (i := 1) rfl))
  have hne : q9byI T N (x0.toInt + ((1 : Nat) : Int)) ≠ 101 := by
    rw [show x0.toInt + ((1 : Nat) : Int) = x0.toInt + 1 from rfl]
    by_cases hb : x0.toInt + 1 ≤ 2147483647
    · rw [q9ad32 (x := x0) (d := 1) (by omega)] at H0
      omega
    · intro h
      have := q9byI_lt (T := T) (N := N) (i := x0.toInt + 1) (by omega)
      omega
  have rg0 : (0 : Int) ≤ 0 ∧ (0 : Int) ≤ 0 := by omega
  obtain ⟨x2, nt2⟩ : ∃ x : Int32, x.toInt = 0 := ⟨Int32.ofInt (0), q9oI_toInt (by omega)⟩
  have u_ : q9upN w 3 [.int x2] 0 = .int 0 := q9upN_of (by decide) w0
  have u0 : q9upN w 3 [.int x2] 1 = .int x0 := q9upN_of (by decide) ae0
  have u1 : q9upN w 3 [.int x2] 2 = .int x1 := q9upN_of (by decide) ae1
  have u2 : q9upN w 3 [.int x2] 3 = .int x2 := q9upN_at (by decide)
  refine ⟨[.int x2], fun i9 p9 hq9 => ?_, fun _ h => absurd h List.not_mem_nil, fun _ h => absurd h List.not_mem_nil⟩
  · match i9, hq9 with
    | 0, hq9 =>
      have hp9 : ((1107, (1, 0), (0, 0), (0, 0, 0)) : Nat × q9AV × q9AV × q9ET) = p9 := Option.some.inj hq9
      subst hp9
      exact ⟨⟨x2, rfl, by rw [nt2]; exact rg0.1, by rw [nt2]; exact rg0.2⟩, (q9th_tX (T := T) (N := N) (P := P) (J := J) (t0 := t0) (Sc := Sc) (q9evS u0) (q9evZ u_) (q9evS u2) (by rw [q9FF_1107, nt2]; exact (by show some (q9wsI T N 7 x0.toInt) = _; rw [q9ws_ne (t := 7) 1 (by decide) hne])) (by decide)).trans (congrArg some (q9evS u2))⟩
    | k9 + 1, hq9 => exact nomatch (show (none : Option (Nat × q9AV × q9AV × q9ET)) = some p9 from hq9)
theorem q9ru_wa7_2 (hT : ∀ i, 0 ≤ T i ∧ T i ≤ 255) (hN : 0 ≤ N ∧ N ≤ 400) (hSc : 0 ≤ Sc 1 ∧ Sc 1 ≤ 400 → N = Sc 1) : q9ruOK (fO T N P J t0 Sc) q9R_wa7_2 := by
  intro w w0 hA hX hL hV hR
  obtain ⟨x0, ae0, -, -⟩ := hA 0 0 rfl
  obtain ⟨x1, ae1, -, -⟩ := hA 1 0 rfl
  have kz : (0 : Int32).toInt = 0 := rfl
  have k111 : (Int32.ofInt 111).toInt = 111 := q9oI_toInt (by decide)
  have X0 := q9th_pX (T := T) (N := N) (P := P) (J := J) (t0 := t0) (Sc := Sc) (op := 1000) (q9evO ae0 2) (q9evZ w0) (q9evS ae1) (hX _ (List.mem_of_getElem? (i := 0) rfl)) (by decide)
  rw [q9FF_1000] at X0
  have H0 := Option.some.inj X0
  try simp only [kz, k111] at H0
  have L0 : x1.toInt ≤ (Int32.ofInt 111).toInt + 0 := q9pC (q9evS ae1) (q9evC w0 111) (hL _ (List.mem_of_getElem? (i := 0) rfl))
  have L1 : (0 : Int32).toInt ≤ x0.toInt + 0 := q9pC (q9evZ w0) (q9evS ae0) (hL _ (List.mem_of_getElem? (i := 1) rfl))
  have hne : q9byI T N (x0.toInt + ((2 : Nat) : Int)) ≠ 112 := by
    rw [show x0.toInt + ((2 : Nat) : Int) = x0.toInt + 2 from rfl]
    by_cases hb : x0.toInt + 2 ≤ 2147483647
    · rw [q9ad32 (x := x0) (d := 2) (by omega)] at H0
      omega
    · intro h
      have := q9byI_lt (T := T) (N := N) (i := x0.toInt + 2) (by omega)
      omega
  have rg0 : (0 : Int) ≤ 0 ∧ (0 : Int) ≤ 0 := by omega
  obtain ⟨x2, nt2⟩ : ∃ x : Int32, x.toInt = 0 := ⟨Int32.ofInt (0), q9oI_toInt (by omega)⟩
  have u_ : q9upN w 3 [.int x2] 0 = .int 0 := q9upN_of (by decide) w0
  have u0 : q9upN w 3 [.int x2] 1 = .int x0 := q9upN_of (by decide) ae0
  have u1 : q9upN w 3 [.int x2] 2 = .int x1 := q9upN_of (by decide) ae1
  have u2 : q9upN w 3 [.int x2] 3 = .int x2 := q9upN_at (by decide)
  refine ⟨[.int x2], fun i9 p9 hq9 => ?_, fun _ h => absurd h List.not_mem_nil, fun _ h => absurd h List.not_mem_nil⟩
  · match i9, hq9 with
    | 0, hq9 =>
      have hp9 : ((1107, (1, 0), (0, 0), (0, 0, 0)) : Nat × q9AV × q9AV × q9ET) = p9 := Option.some.inj hq9
      subst hp9
      exact ⟨⟨x2, rfl, by rw [nt2]; exact rg0.1, by rw [nt2]; exact rg0.2⟩, (q9th_tX (T := T) (N := N) (P := P) (J := J) (t0 := t0) (Sc := Sc) (q9evS u0) (q9evZ u_) (q9evS u2) (by rw [q9FF_1107, nt2]; exact (by show some (q9wsI T N 7 x0.toInt) = _; rw [q9ws_ne (t := 7) 2 (by decide) hne])) (by decide)).trans (congrArg some (q9evS u2))⟩
    | k9 + 1, hq9 => exact nomatch (show (none : Option (Nat × q9AV × q9AV × q9ET)) = some p9 from hq9)
theorem q9ru_wb7_2 (hT : ∀ i, 0 ≤ T i ∧ T i ≤ 255) (hN : 0 ≤ N ∧ N ≤ 400) (hSc : 0 ≤ Sc 1 ∧ Sc 1 ≤ 400 → N = Sc 1) : q9ruOK (fO T N P J t0 Sc) q9R_wb7_2 := by
  intro w w0 hA hX hL hV hR
  obtain ⟨x0, ae0, -, -⟩ := hA 0 0 rfl
  obtain ⟨x1, ae1, -, -⟩ := hA 1 0 rfl
  have kz : (0 : Int32).toInt = 0 := rfl
  have k113 : (Int32.ofInt 113).toInt = 113 := q9oI_toInt (by decide)
  have X0 := q9th_pX (T := T) (N := N) (P := P) (J := J) (t0 := t0) (Sc := Sc) (op := 1000) (q9evO ae0 2) (q9evZ w0) (q9evS ae1) (hX _ (List.mem_of_getElem? (i := 0) rfl)) (by decide)
  rw [q9FF_1000] at X0
  have H0 := Option.some.inj X0
  try simp only [kz, k113] at H0
  have L0 : (Int32.ofInt 113).toInt ≤ x1.toInt + 0 := q9pC (q9evC w0 113) (q9evS ae1) (hL _ (List.mem_of_getElem? (i := 0) rfl))
  have L1 : (0 : Int32).toInt ≤ x0.toInt + 0 := q9pC (q9evZ w0) (q9evS ae0) (hL _ (List.mem_of_getElem? (i := 1) rfl))
  have hne : q9byI T N (x0.toInt + ((2 : Nat) : Int)) ≠ 112 := by
    rw [show x0.toInt + ((2 : Nat) : Int) = x0.toInt + 2 from rfl]
    by_cases hb : x0.toInt + 2 ≤ 2147483647
    · rw [q9ad32 (x := x0) (d := 2) (by omega)] at H0
      omega
    · intro h
      have := q9byI_lt (T := T) (N := N) (i := x0.toInt + 2) (by omega)
      omega
  have rg0 : (0 : Int) ≤ 0 ∧ (0 : Int) ≤ 0 := by omega
  obtain ⟨x2, nt2⟩ : ∃ x : Int32, x.toInt = 0 := ⟨Int32.ofInt (0), q9oI_toInt (by omega)⟩
  have u_ : q9upN w 3 [.int x2] 0 = .int 0 := q9upN_of (by decide) w0
  have u0 : q9upN w 3 [.int x2] 1 = .int x0 := q9upN_of (by decide) ae0
  have u1 : q9upN w 3 [.int x2] 2 = .int x1 := q9upN_of (by decide) ae1
  have u2 : q9upN w 3 [.int x2] 3 = .int x2 := q9upN_at (by decide)
  refine ⟨[.int x2], fun i9 p9 hq9 => ?_, fun _ h => absurd h List.not_mem_nil, fun _ h => absurd h List.not_mem_nil⟩
  · match i9, hq9 with
    | 0, hq9 =>
      have hp9 : ((1107, (1, 0), (0, 0), (0, 0, 0)) : Nat × q9AV × q9AV × q9ET) = p9 := Option.some.inj hq9
      subst hp9
      exact ⟨⟨x2, rfl, by rw [nt2]; exact rg0.1, by rw [nt2]; exact rg0.2⟩, (q9th_tX (T := T) (N := N) (P := P) (J := J) (t0 := t0) (Sc := Sc) (q9evS u0) (q9evZ u_) (q9evS u2) (by rw [q9FF_1107, nt2]; exact (by show some (q9wsI T N 7 x0.toInt) = _; rw [q9ws_ne (t := 7) 2 (by decide) hne])) (by decide)).trans (congrArg some (q9evS u2))⟩
    | k9 + 1, hq9 => exact nomatch (show (none : Option (Nat × q9AV × q9AV × q9ET)) = some p9 from hq9)
theorem q9ru_wa7_3 (hT : ∀ i, 0 ≤ T i ∧ T i ≤ 255) (hN : 0 ≤ N ∧ N ≤ 400) (hSc : 0 ≤ Sc 1 ∧ Sc 1 ≤ 400 → N = Sc 1) : q9ruOK (fO T N P J t0 Sc) q9R_wa7_3 := by
  intro w w0 hA hX hL hV hR
  obtain ⟨x0, ae0, -, -⟩ := hA 0 0 rfl
  obtain ⟨x1, ae1, -, -⟩ := hA 1 0 rfl
  have kz : (0 : Int32).toInt = 0 := rfl
  have k100 : (Int32.ofInt 100).toInt = 100 := q9oI_toInt (by decide)
  have X0 := q9th_pX (T := T) (N := N) (P := P) (J := J) (t0 := t0) (Sc := Sc) (op := 1000) (q9evO ae0 3) (q9evZ w0) (q9evS ae1) (hX _ (List.mem_of_getElem? (i := 0) rfl)) (by decide)
  rw [q9FF_1000] at X0
  have H0 := Option.some.inj X0
  try simp only [kz, k100] at H0
  have L0 : x1.toInt ≤ (Int32.ofInt 100).toInt + 0 := q9pC (q9evS ae1) (q9evC w0 100) (hL _ (List.mem_of_getElem? (i := 0) rfl))
  have L1 : (0 : Int32).toInt ≤ x0.toInt + 0 := q9pC (q9evZ w0) (q9evS ae0) (hL _ (List.mem_of_getElem? (i := 1) rfl))
  have hne : q9byI T N (x0.toInt + ((3 : Nat) : Int)) ≠ 101 := by
    rw [show x0.toInt + ((3 : Nat) : Int) = x0.toInt + 3 from rfl]
    by_cases hb : x0.toInt + 3 ≤ 2147483647
    · rw [q9ad32 (x := x0) (d := 3) (by omega)] at H0
      omega
    · intro h
      have := q9byI_lt (T := T) (N := N) (i := x0.toInt + 3) (by omega)
      omega
  have rg0 : (0 : Int) ≤ 0 ∧ (0 : Int) ≤ 0 := by omega
  obtain ⟨x2, nt2⟩ : ∃ x : Int32, x.toInt = 0 := ⟨Int32.ofInt (0), q9oI_toInt (by omega)⟩
  have u_ : q9upN w 3 [.int x2] 0 = .int 0 := q9upN_of (by decide) w0
  have u0 : q9upN w 3 [.int x2] 1 = .int x0 := q9upN_of (by decide) ae0
  have u1 : q9upN w 3 [.int x2] 2 = .int x1 := q9upN_of (by decide) ae1
  have u2 : q9upN w 3 [.int x2] 3 = .int x2 := q9upN_at (by decide)
  refine ⟨[.int x2], fun i9 p9 hq9 => ?_, fun _ h => absurd h List.not_mem_nil, fun _ h => absurd h List.not_mem_nil⟩
  · match i9, hq9 with
    | 0, hq9 =>
      have hp9 : ((1107, (1, 0), (0, 0), (0, 0, 0)) : Nat × q9AV × q9AV × q9ET) = p9 := Option.some.inj hq9
      subst hp9
      exact ⟨⟨x2, rfl, by rw [nt2]; exact rg0.1, by rw [nt2]; exact rg0.2⟩, (q9th_tX (T := T) (N := N) (P := P) (J := J) (t0 := t0) (Sc := Sc) (q9evS u0) (q9evZ u_) (q9evS u2) (by rw [q9FF_1107, nt2]; exact (by show some (q9wsI T N 7 x0.toInt) = _; rw [q9ws_ne (t := 7) 3 (by decide) hne])) (by decide)).trans (congrArg some (q9evS u2))⟩
    | k9 + 1, hq9 => exact nomatch (show (none : Option (Nat × q9AV × q9AV × q9ET)) = some p9 from hq9)
theorem q9ru_wb7_3 (hT : ∀ i, 0 ≤ T i ∧ T i ≤ 255) (hN : 0 ≤ N ∧ N ≤ 400) (hSc : 0 ≤ Sc 1 ∧ Sc 1 ≤ 400 → N = Sc 1) : q9ruOK (fO T N P J t0 Sc) q9R_wb7_3 := by
  intro w w0 hA hX hL hV hR
  obtain ⟨x0, ae0, -, -⟩ := hA 0 0 rfl
  obtain ⟨x1, ae1, -, -⟩ := hA 1 0 rfl
  have kz : (0 : Int32).toInt = 0 := rfl
  have k102 : (Int32.ofInt 102).toInt = 102 := q9oI_toInt (by decide)
  have X0 := q9th_pX (T := T) (N := N) (P := P) (J := J) (t0 := t0) (Sc := Sc) (op := 1000) (q9evO ae0 3) (q9evZ w0) (q9evS ae1) (hX _ (List.mem_of_getElem? (i := 0) rfl)) (by decide)
  rw [q9FF_1000] at X0
  have H0 := Option.some.inj X0
  try simp only [kz, k102] at H0
  have L0 : (Int32.ofInt 102).toInt ≤ x1.toInt + 0 := q9pC (q9evC w0 102) (q9evS ae1) (hL _ (List.mem_of_getElem? (i := 0) rfl))
  have L1 : (0 : Int32).toInt ≤ x0.toInt + 0 := q9pC (q9evZ w0) (q9evS ae0) (hL _ (List.mem_of_getElem? (i := 1) rfl))
  have hne : q9byI T N (x0.toInt + ((3 : Nat) : Int)) ≠ 101 := by
    rw [show x0.toInt + ((3 : Nat) : Int) = x0.toInt + 3 from rfl]
    by_cases hb : x0.toInt + 3 ≤ 2147483647
    · rw [q9ad32 (x := x0) (d := 3) (by omega)] at H0
      omega
    · intro h
      have := q9byI_lt (T := T) (N := N) (i := x0.toInt + 3) (by omega)
      omega
  have rg0 : (0 : Int) ≤ 0 ∧ (0 : Int) ≤ 0 := by omega
  obtain ⟨x2, nt2⟩ : ∃ x : Int32, x.toInt = 0 := ⟨Int32.ofInt (0), q9oI_toInt (by omega)⟩
  have u_ : q9upN w 3 [.int x2] 0 = .int 0 := q9upN_of (by decide) w0
  have u0 : q9upN w 3 [.int x2] 1 = .int x0 := q9upN_of (by decide) ae0
  have u1 : q9upN w 3 [.int x2] 2 = .int x1 := q9upN_of (by decide) ae1
  have u2 : q9upN w 3 [.int x2] 3 = .int x2 := q9upN_at (by decide)
  refine ⟨[.int x2], fun i9 p9 hq9 => ?_, fun _ h => absurd h List.not_mem_nil, fun _ h => absurd h List.not_mem_nil⟩
  · match i9, hq9 with
    | 0, hq9 =>
      have hp9 : ((1107, (1, 0), (0, 0), (0, 0, 0)) : Nat × q9AV × q9AV × q9ET) = p9 := Option.some.inj hq9
      subst hp9
      exact ⟨⟨x2, rfl, by rw [nt2]; exact rg0.1, by rw [nt2]; exact rg0.2⟩, (q9th_tX (T := T) (N := N) (P := P) (J := J) (t0 := t0) (Sc := Sc) (q9evS u0) (q9evZ u_) (q9evS u2) (by rw [q9FF_1107, nt2]; exact (by show some (q9wsI T N 7 x0.toInt) = _; rw [q9ws_ne (t := 7) 3 (by decide) hne])) (by decide)).trans (congrArg some (q9evS u2))⟩
    | k9 + 1, hq9 => exact nomatch (show (none : Option (Nat × q9AV × q9AV × q9ET)) = some p9 from hq9)
theorem q9ru_wa7_4 (hT : ∀ i, 0 ≤ T i ∧ T i ≤ 255) (hN : 0 ≤ N ∧ N ≤ 400) (hSc : 0 ≤ Sc 1 ∧ Sc 1 ≤ 400 → N = Sc 1) : q9ruOK (fO T N P J t0 Sc) q9R_wa7_4 := by
  intro w w0 hA hX hL hV hR
  obtain ⟨x0, ae0, -, -⟩ := hA 0 0 rfl
  obtain ⟨x1, ae1, -, -⟩ := hA 1 0 rfl
  have kz : (0 : Int32).toInt = 0 := rfl
  have k96 : (Int32.ofInt 96).toInt = 96 := q9oI_toInt (by decide)
  have X0 := q9th_pX (T := T) (N := N) (P := P) (J := J) (t0 := t0) (Sc := Sc) (op := 1000) (q9evO ae0 4) (q9evZ w0) (q9evS ae1) (hX _ (List.mem_of_getElem? (i := 0) rfl)) (by decide)
  rw [q9FF_1000] at X0
  have H0 := Option.some.inj X0
  try simp only [kz, k96] at H0
  have L0 : x1.toInt ≤ (Int32.ofInt 96).toInt + 0 := q9pC (q9evS ae1) (q9evC w0 96) (hL _ (List.mem_of_getElem? (i := 0) rfl))
  have L1 : (0 : Int32).toInt ≤ x0.toInt + 0 := q9pC (q9evZ w0) (q9evS ae0) (hL _ (List.mem_of_getElem? (i := 1) rfl))
  have hne : q9byI T N (x0.toInt + ((4 : Nat) : Int)) ≠ 97 := by
    rw [show x0.toInt + ((4 : Nat) : Int) = x0.toInt + 4 from rfl]
    by_cases hb : x0.toInt + 4 ≤ 2147483647
    · rw [q9ad32 (x := x0) (d := 4) (by omega)] at H0
      omega
    · intro h
      have := q9byI_lt (T := T) (N := N) (i := x0.toInt + 4) (by omega)
      omega
  have rg0 : (0 : Int) ≤ 0 ∧ (0 : Int) ≤ 0 := by omega
  obtain ⟨x2, nt2⟩ : ∃ x : Int32, x.toInt = 0 := ⟨Int32.ofInt (0), q9oI_toInt (by omega)⟩
  have u_ : q9upN w 3 [.int x2] 0 = .int 0 := q9upN_of (by decide) w0
  have u0 : q9upN w 3 [.int x2] 1 = .int x0 := q9upN_of (by decide) ae0
  have u1 : q9upN w 3 [.int x2] 2 = .int x1 := q9upN_of (by decide) ae1
  have u2 : q9upN w 3 [.int x2] 3 = .int x2 := q9upN_at (by decide)
  refine ⟨[.int x2], fun i9 p9 hq9 => ?_, fun _ h => absurd h List.not_mem_nil, fun _ h => absurd h List.not_mem_nil⟩
  · match i9, hq9 with
    | 0, hq9 =>
      have hp9 : ((1107, (1, 0), (0, 0), (0, 0, 0)) : Nat × q9AV × q9AV × q9ET) = p9 := Option.some.inj hq9
      subst hp9
      exact ⟨⟨x2, rfl, by rw [nt2]; exact rg0.1, by rw [nt2]; exact rg0.2⟩, (q9th_tX (T := T) (N := N) (P := P) (J := J) (t0 := t0) (Sc := Sc) (q9evS u0) (q9evZ u_) (q9evS u2) (by rw [q9FF_1107, nt2]; exact (by show some (q9wsI T N 7 x0.toInt) = _; rw [q9ws_ne (t := 7) 4 (by decide) hne])) (by decide)).trans (congrArg some (q9evS u2))⟩
    | k9 + 1, hq9 => exact nomatch (show (none : Option (Nat × q9AV × q9AV × q9ET)) = some p9 from hq9)
theorem q9ru_wb7_4 (hT : ∀ i, 0 ≤ T i ∧ T i ≤ 255) (hN : 0 ≤ N ∧ N ≤ 400) (hSc : 0 ≤ Sc 1 ∧ Sc 1 ≤ 400 → N = Sc 1) : q9ruOK (fO T N P J t0 Sc) q9R_wb7_4 := by
  intro w w0 hA hX hL hV hR
  obtain ⟨x0, ae0, -, -⟩ := hA 0 0 rfl
  obtain ⟨x1, ae1, -, -⟩ := hA 1 0 rfl
  have kz : (0 : Int32).toInt = 0 := rfl
  have k98 : (Int32.ofInt 98).toInt = 98 := q9oI_toInt (by decide)
  have X0 := q9th_pX (T := T) (N := N) (P := P) (J := J) (t0 := t0) (Sc := Sc) (op := 1000) (q9evO ae0 4) (q9evZ w0) (q9evS ae1) (hX _ (List.mem_of_getElem? (i := 0) rfl)) (by decide)
  rw [q9FF_1000] at X0
  have H0 := Option.some.inj X0
  try simp only [kz, k98] at H0
  have L0 : (Int32.ofInt 98).toInt ≤ x1.toInt + 0 := q9pC (q9evC w0 98) (q9evS ae1) (hL _ (List.mem_of_getElem? (i := 0) rfl))
  have L1 : (0 : Int32).toInt ≤ x0.toInt + 0 := q9pC (q9evZ w0) (q9evS ae0) (hL _ (List.mem_of_getElem? (i := 1) rfl))
  have hne : q9byI T N (x0.toInt + ((4 : Nat) : Int)) ≠ 97 := by
    rw [show x0.toInt + ((4 : Nat) : Int) = x0.toInt + 4 from rfl]
    by_cases hb : x0.toInt + 4 ≤ 2147483647
    · rw [q9ad32 (x := x0) (d := 4) (by omega)] at H0
      omega
    · intro h
      have := q9byI_lt (T := T) (N := N) (i := x0.toInt + 4) (by omega)
      omega
  have rg0 : (0 : Int) ≤ 0 ∧ (0 : Int) ≤ 0 := by omega
  obtain ⟨x2, nt2⟩ : ∃ x : Int32, x.toInt = 0 := ⟨Int32.ofInt (0), q9oI_toInt (by omega)⟩
  have u_ : q9upN w 3 [.int x2] 0 = .int 0 := q9upN_of (by decide) w0
  have u0 : q9upN w 3 [.int x2] 1 = .int x0 := q9upN_of (by decide) ae0
  have u1 : q9upN w 3 [.int x2] 2 = .int x1 := q9upN_of (by decide) ae1
  have u2 : q9upN w 3 [.int x2] 3 = .int x2 := q9upN_at (by decide)
  refine ⟨[.int x2], fun i9 p9 hq9 => ?_, fun _ h => absurd h List.not_mem_nil, fun _ h => absurd h List.not_mem_nil⟩
  · match i9, hq9 with
    | 0, hq9 =>
      have hp9 : ((1107, (1, 0), (0, 0), (0, 0, 0)) : Nat × q9AV × q9AV × q9ET) = p9 := Option.some.inj hq9
      subst hp9
      exact ⟨⟨x2, rfl, by rw [nt2]; exact rg0.1, by rw [nt2]; exact rg0.2⟩, (q9th_tX (T := T) (N := N) (P := P) (J := J) (t0 := t0) (Sc := Sc) (q9evS u0) (q9evZ u_) (q9evS u2) (by rw [q9FF_1107, nt2]; exact (by show some (q9wsI T N 7 x0.toInt) = _; rw [q9ws_ne (t := 7) 4 (by decide) hne])) (by decide)).trans (congrArg some (q9evS u2))⟩
    | k9 + 1, hq9 => exact nomatch (show (none : Option (Nat × q9AV × q9AV × q9ET)) = some p9 from hq9)
theorem q9ru_wa7_5 (hT : ∀ i, 0 ≤ T i ∧ T i ≤ 255) (hN : 0 ≤ N ∧ N ≤ 400) (hSc : 0 ≤ Sc 1 ∧ Sc 1 ≤ 400 → N = Sc 1) : q9ruOK (fO T N P J t0 Sc) q9R_wa7_5 := by
  intro w w0 hA hX hL hV hR
  obtain ⟨x0, ae0, -, -⟩ := hA 0 0 rfl
  obtain ⟨x1, ae1, -, -⟩ := hA 1 0 rfl
  have kz : (0 : Int32).toInt = 0 := rfl
  have k115 : (Int32.ofInt 115).toInt = 115 := q9oI_toInt (by decide)
  have X0 := q9th_pX (T := T) (N := N) (P := P) (J := J) (t0 := t0) (Sc := Sc) (op := 1000) (q9evO ae0 5) (q9evZ w0) (q9evS ae1) (hX _ (List.mem_of_getElem? (i := 0) rfl)) (by decide)
  rw [q9FF_1000] at X0
  have H0 := Option.some.inj X0
  try simp only [kz, k115] at H0
  have L0 : x1.toInt ≤ (Int32.ofInt 115).toInt + 0 := q9pC (q9evS ae1) (q9evC w0 115) (hL _ (List.mem_of_getElem? (i := 0) rfl))
  have L1 : (0 : Int32).toInt ≤ x0.toInt + 0 := q9pC (q9evZ w0) (q9evS ae0) (hL _ (List.mem_of_getElem? (i := 1) rfl))
  have hne : q9byI T N (x0.toInt + ((5 : Nat) : Int)) ≠ 116 := by
    rw [show x0.toInt + ((5 : Nat) : Int) = x0.toInt + 5 from rfl]
    by_cases hb : x0.toInt + 5 ≤ 2147483647
    · rw [q9ad32 (x := x0) (d := 5) (by omega)] at H0
      omega
    · intro h
      have := q9byI_lt (T := T) (N := N) (i := x0.toInt + 5) (by omega)
      omega
  have rg0 : (0 : Int) ≤ 0 ∧ (0 : Int) ≤ 0 := by omega
  obtain ⟨x2, nt2⟩ : ∃ x : Int32, x.toInt = 0 := ⟨Int32.ofInt (0), q9oI_toInt (by omega)⟩
  have u_ : q9upN w 3 [.int x2] 0 = .int 0 := q9upN_of (by decide) w0
  have u0 : q9upN w 3 [.int x2] 1 = .int x0 := q9upN_of (by decide) ae0
  have u1 : q9upN w 3 [.int x2] 2 = .int x1 := q9upN_of (by decide) ae1
  have u2 : q9upN w 3 [.int x2] 3 = .int x2 := q9upN_at (by decide)
  refine ⟨[.int x2], fun i9 p9 hq9 => ?_, fun _ h => absurd h List.not_mem_nil, fun _ h => absurd h List.not_mem_nil⟩
  · match i9, hq9 with
    | 0, hq9 =>
      have hp9 : ((1107, (1, 0), (0, 0), (0, 0, 0)) : Nat × q9AV × q9AV × q9ET) = p9 := Option.some.inj hq9
      subst hp9
      exact ⟨⟨x2, rfl, by rw [nt2]; exact rg0.1, by rw [nt2]; exact rg0.2⟩, (q9th_tX (T := T) (N := N) (P := P) (J := J) (t0 := t0) (Sc := Sc) (q9evS u0) (q9evZ u_) (q9evS u2) (by rw [q9FF_1107, nt2]; exact (by show some (q9wsI T N 7 x0.toInt) = _; rw [q9ws_ne (t := 7) 5 (by decide) hne])) (by decide)).trans (congrArg some (q9evS u2))⟩
    | k9 + 1, hq9 => exact nomatch (show (none : Option (Nat × q9AV × q9AV × q9ET)) = some p9 from hq9)
theorem q9ru_wb7_5 (hT : ∀ i, 0 ≤ T i ∧ T i ≤ 255) (hN : 0 ≤ N ∧ N ≤ 400) (hSc : 0 ≤ Sc 1 ∧ Sc 1 ≤ 400 → N = Sc 1) : q9ruOK (fO T N P J t0 Sc) q9R_wb7_5 := by
  intro w w0 hA hX hL hV hR
  obtain ⟨x0, ae0, -, -⟩ := hA 0 0 rfl
  obtain ⟨x1, ae1, -, -⟩ := hA 1 0 rfl
  have kz : (0 : Int32).toInt = 0 := rfl
  have k117 : (Int32.ofInt 117).toInt = 117 := q9oI_toInt (by decide)
  have X0 := q9th_pX (T := T) (N := N) (P := P) (J := J) (t0 := t0) (Sc := Sc) (op := 1000) (q9evO ae0 5) (q9evZ w0) (q9evS ae1) (hX _ (List.mem_of_getElem? (i := 0) rfl)) (by decide)
  rw [q9FF_1000] at X0
  have H0 := Option.some.inj X0
  try simp only [kz, k117] at H0
  have L0 : (Int32.ofInt 117).toInt ≤ x1.toInt + 0 := q9pC (q9evC w0 117) (q9evS ae1) (hL _ (List.mem_of_getElem? (i := 0) rfl))
  have L1 : (0 : Int32).toInt ≤ x0.toInt + 0 := q9pC (q9evZ w0) (q9evS ae0) (hL _ (List.mem_of_getElem? (i := 1) rfl))
  have hne : q9byI T N (x0.toInt + ((5 : Nat) : Int)) ≠ 116 := by
    rw [show x0.toInt + ((5 : Nat) : Int) = x0.toInt + 5 from rfl]
    by_cases hb : x0.toInt + 5 ≤ 2147483647
    · rw [q9ad32 (x := x0) (d := 5) (by omega)] at H0
      omega
    · intro h
      have := q9byI_lt (T := T) (N := N) (i := x0.toInt + 5) (by omega)
      omega
  have rg0 : (0 : Int) ≤ 0 ∧ (0 : Int) ≤ 0 := by omega
  obtain ⟨x2, nt2⟩ : ∃ x : Int32, x.toInt = 0 := ⟨Int32.ofInt (0), q9oI_toInt (by omega)⟩
  have u_ : q9upN w 3 [.int x2] 0 = .int 0 := q9upN_of (by decide) w0
  have u0 : q9upN w 3 [.int x2] 1 = .int x0 := q9upN_of (by decide) ae0
  have u1 : q9upN w 3 [.int x2] 2 = .int x1 := q9upN_of (by decide) ae1
  have u2 : q9upN w 3 [.int x2] 3 = .int x2 := q9upN_at (by decide)
  refine ⟨[.int x2], fun i9 p9 hq9 => ?_, fun _ h => absurd h List.not_mem_nil, fun _ h => absurd h List.not_mem_nil⟩
  · match i9, hq9 with
    | 0, hq9 =>
      have hp9 : ((1107, (1, 0), (0, 0), (0, 0, 0)) : Nat × q9AV × q9AV × q9ET) = p9 := Option.some.inj hq9
      subst hp9
      exact ⟨⟨x2, rfl, by rw [nt2]; exact rg0.1, by rw [nt2]; exact rg0.2⟩, (q9th_tX (T := T) (N := N) (P := P) (J := J) (t0 := t0) (Sc := Sc) (q9evS u0) (q9evZ u_) (q9evS u2) (by rw [q9FF_1107, nt2]; exact (by show some (q9wsI T N 7 x0.toInt) = _; rw [q9ws_ne (t := 7) 5 (by decide) hne])) (by decide)).trans (congrArg some (q9evS u2))⟩
    | k9 + 1, hq9 => exact nomatch (show (none : Option (Nat × q9AV × q9AV × q9ET)) = some p9 from hq9)
theorem q9ru_wy7 (hT : ∀ i, 0 ≤ T i ∧ T i ≤ 255) (hN : 0 ≤ N ∧ N ≤ 400) (hSc : 0 ≤ Sc 1 ∧ Sc 1 ≤ 400 → N = Sc 1) : q9ruOK (fO T N P J t0 Sc) q9R_wy7 := by
  intro w w0 hA hX hL hV hR
  obtain ⟨x0, ae0, -, -⟩ := hA 0 0 rfl
  obtain ⟨x1, ae1, -, -⟩ := hA 1 0 rfl
  obtain ⟨x2, ae2, -, -⟩ := hA 2 0 rfl
  obtain ⟨x3, ae3, -, -⟩ := hA 3 0 rfl
  obtain ⟨x4, ae4, -, -⟩ := hA 4 0 rfl
  obtain ⟨x5, ae5, -, -⟩ := hA 5 0 rfl
  obtain ⟨x6, ae6, -, -⟩ := hA 6 0 rfl
  obtain ⟨x7, ae7, -, -⟩ := hA 7 0 rfl
  obtain ⟨x8, ae8, -, -⟩ := hA 8 0 rfl
  have kz : (0 : Int32).toInt = 0 := rfl
  have k6 : (Int32.ofInt 6).toInt = 6 := q9oI_toInt (by decide)
  have k97 : (Int32.ofInt 97).toInt = 97 := q9oI_toInt (by decide)
  have k101 : (Int32.ofInt 101).toInt = 101 := q9oI_toInt (by decide)
  have k112 : (Int32.ofInt 112).toInt = 112 := q9oI_toInt (by decide)
  have k114 : (Int32.ofInt 114).toInt = 114 := q9oI_toInt (by decide)
  have k116 : (Int32.ofInt 116).toInt = 116 := q9oI_toInt (by decide)
  have X0 := q9th_pX (T := T) (N := N) (P := P) (J := J) (t0 := t0) (Sc := Sc) (op := 1003) (q9evS ae0) (q9evZ w0) (q9evS ae1) (hX _ (List.mem_of_getElem? (i := 0) rfl)) (by decide)
  rw [q9FF_1003] at X0
  have H0 := Option.some.inj X0
  try simp only [kz, k6, k97, k101, k112, k114, k116] at H0
  have X1 := q9pB (T := T) (N := N) (P := P) (J := J) (t0 := t0) (Sc := Sc) (q9evS ae1) (q9evS ae0) (q9evS ae2) (hX _ (List.mem_of_getElem? (i := 1) rfl))
  have L0 : (Int32.ofInt 6).toInt ≤ x2.toInt + 0 := q9pC (q9evC w0 6) (q9evS ae2) (hL _ (List.mem_of_getElem? (i := 0) rfl))
  have L1 : x2.toInt ≤ (Int32.ofInt 6).toInt + 0 := q9pC (q9evS ae2) (q9evC w0 6) (hL _ (List.mem_of_getElem? (i := 1) rfl))
  have L2 : (0 : Int32).toInt ≤ x0.toInt + 0 := q9pC (q9evZ w0) (q9evS ae0) (hL _ (List.mem_of_getElem? (i := 2) rfl))
  have X2 := q9th_pX (T := T) (N := N) (P := P) (J := J) (t0 := t0) (Sc := Sc) (op := 1000) (q9evS ae0) (q9evZ w0) (q9evS ae3) (hX _ (List.mem_of_getElem? (i := 2) rfl)) (by decide)
  rw [q9FF_1000] at X2
  have H2 := Option.some.inj X2
  try simp only [kz, k6, k97, k101, k112, k114, k116] at H2
  have L3 : (Int32.ofInt 114).toInt ≤ x3.toInt + 0 := q9pC (q9evC w0 114) (q9evS ae3) (hL _ (List.mem_of_getElem? (i := 3) rfl))
  have L4 : x3.toInt ≤ (Int32.ofInt 114).toInt + 0 := q9pC (q9evS ae3) (q9evC w0 114) (hL _ (List.mem_of_getElem? (i := 4) rfl))
  have X3 := q9th_pX (T := T) (N := N) (P := P) (J := J) (t0 := t0) (Sc := Sc) (op := 1000) (q9evO ae0 1) (q9evZ w0) (q9evS ae4) (hX _ (List.mem_of_getElem? (i := 3) rfl)) (by decide)
  rw [q9FF_1000] at X3
  have H3 := Option.some.inj X3
  try simp only [kz, k6, k97, k101, k112, k114, k116] at H3
  have L5 : (Int32.ofInt 101).toInt ≤ x4.toInt + 0 := q9pC (q9evC w0 101) (q9evS ae4) (hL _ (List.mem_of_getElem? (i := 5) rfl))
  have L6 : x4.toInt ≤ (Int32.ofInt 101).toInt + 0 := q9pC (q9evS ae4) (q9evC w0 101) (hL _ (List.mem_of_getElem? (i := 6) rfl))
  have X4 := q9th_pX (T := T) (N := N) (P := P) (J := J) (t0 := t0) (Sc := Sc) (op := 1000) (q9evO ae0 2) (q9evZ w0) (q9evS ae5) (hX _ (List.mem_of_getElem? (i := 4) rfl)) (by decide)
  rw [q9FF_1000] at X4
  have H4 := Option.some.inj X4
  try simp only [kz, k6, k97, k101, k112, k114, k116] at H4
  have L7 : (Int32.ofInt 112).toInt ≤ x5.toInt + 0 := q9pC (q9evC w0 112) (q9evS ae5) (hL _ (List.mem_of_getElem? (i := 7) rfl))
  have L8 : x5.toInt ≤ (Int32.ofInt 112).toInt + 0 := q9pC (q9evS ae5) (q9evC w0 112) (hL _ (List.mem_of_getElem? (i := 8) rfl))
  have X5 := q9th_pX (T := T) (N := N) (P := P) (J := J) (t0 := t0) (Sc := Sc) (op := 1000) (q9evO ae0 3) (q9evZ w0) (q9evS ae6) (hX _ (List.mem_of_getElem? (i := 5) rfl)) (by decide)
  rw [q9FF_1000] at X5
  have H5 := Option.some.inj X5
  try simp only [kz, k6, k97, k101, k112, k114, k116] at H5
  have L9 : (Int32.ofInt 101).toInt ≤ x6.toInt + 0 := q9pC (q9evC w0 101) (q9evS ae6) (hL _ (List.mem_of_getElem? (i := 9) rfl))
  have L10 : x6.toInt ≤ (Int32.ofInt 101).toInt + 0 := q9pC (q9evS ae6) (q9evC w0 101) (hL _ (List.mem_of_getElem? (i := 10) rfl))
  have X6 := q9th_pX (T := T) (N := N) (P := P) (J := J) (t0 := t0) (Sc := Sc) (op := 1000) (q9evO ae0 4) (q9evZ w0) (q9evS ae7) (hX _ (List.mem_of_getElem? (i := 6) rfl)) (by decide)
  rw [q9FF_1000] at X6
  have H6 := Option.some.inj X6
  try simp only [kz, k6, k97, k101, k112, k114, k116] at H6
  have L11 : (Int32.ofInt 97).toInt ≤ x7.toInt + 0 := q9pC (q9evC w0 97) (q9evS ae7) (hL _ (List.mem_of_getElem? (i := 11) rfl))
  have L12 : x7.toInt ≤ (Int32.ofInt 97).toInt + 0 := q9pC (q9evS ae7) (q9evC w0 97) (hL _ (List.mem_of_getElem? (i := 12) rfl))
  have X7 := q9th_pX (T := T) (N := N) (P := P) (J := J) (t0 := t0) (Sc := Sc) (op := 1000) (q9evO ae0 5) (q9evZ w0) (q9evS ae8) (hX _ (List.mem_of_getElem? (i := 7) rfl)) (by decide)
  rw [q9FF_1000] at X7
  have H7 := Option.some.inj X7
  try simp only [kz, k6, k97, k101, k112, k114, k116] at H7
  have L13 : (Int32.ofInt 116).toInt ≤ x8.toInt + 0 := q9pC (q9evC w0 116) (q9evS ae8) (hL _ (List.mem_of_getElem? (i := 13) rfl))
  have L14 : x8.toInt ≤ (Int32.ofInt 116).toInt + 0 := q9pC (q9evS ae8) (q9evC w0 116) (hL _ (List.mem_of_getElem? (i := 14) rfl))
  have b1 := q9we_ge (T := T) (N := N) (i := x0.toInt)
  have b2 := q9we_le (T := T) (N := N) (i := x0.toInt)
  have d := q9su32 X1 (by omega)
  have z0 : q9byI T N (x0.toInt + ((0 : Nat) : Int)) = 114 := by rw [show x0.toInt + ((0 : Nat) : Int) = x0.toInt + 0 by omega, Int.add_zero]; omega
  have v1 := q9ad32 (x := x0) (d := 1) (by omega)
  rw [v1] at H3
  have z1 : q9byI T N (x0.toInt + ((1 : Nat) : Int)) = 101 := by rw [show x0.toInt + ((1 : Nat) : Int) = x0.toInt + 1 by omega]; omega
  have v2 := q9ad32 (x := x0) (d := 2) (by omega)
  rw [v2] at H4
  have z2 : q9byI T N (x0.toInt + ((2 : Nat) : Int)) = 112 := by rw [show x0.toInt + ((2 : Nat) : Int) = x0.toInt + 2 by omega]; omega
  have v3 := q9ad32 (x := x0) (d := 3) (by omega)
  rw [v3] at H5
  have z3 : q9byI T N (x0.toInt + ((3 : Nat) : Int)) = 101 := by rw [show x0.toInt + ((3 : Nat) : Int) = x0.toInt + 3 by omega]; omega
  have v4 := q9ad32 (x := x0) (d := 4) (by omega)
  rw [v4] at H6
  have z4 : q9byI T N (x0.toInt + ((4 : Nat) : Int)) = 97 := by rw [show x0.toInt + ((4 : Nat) : Int) = x0.toInt + 4 by omega]; omega
  have v5 := q9ad32 (x := x0) (d := 5) (by omega)
  rw [v5] at H7
  have z5 : q9byI T N (x0.toInt + ((5 : Nat) : Int)) = 116 := by rw [show x0.toInt + ((5 : Nat) : Int) = x0.toInt + 5 by omega]; omega
  have rg0 : (1 : Int) ≤ 1 ∧ (1 : Int) ≤ 1 := by omega
  obtain ⟨x9, nt9⟩ : ∃ x : Int32, x.toInt = 1 := ⟨Int32.ofInt (1), q9oI_toInt (by omega)⟩
  have u_ : q9upN w 10 [.int x9] 0 = .int 0 := q9upN_of (by decide) w0
  have u0 : q9upN w 10 [.int x9] 1 = .int x0 := q9upN_of (by decide) ae0
  have u1 : q9upN w 10 [.int x9] 2 = .int x1 := q9upN_of (by decide) ae1
  have u2 : q9upN w 10 [.int x9] 3 = .int x2 := q9upN_of (by decide) ae2
  have u3 : q9upN w 10 [.int x9] 4 = .int x3 := q9upN_of (by decide) ae3
  have u4 : q9upN w 10 [.int x9] 5 = .int x4 := q9upN_of (by decide) ae4
  have u5 : q9upN w 10 [.int x9] 6 = .int x5 := q9upN_of (by decide) ae5
  have u6 : q9upN w 10 [.int x9] 7 = .int x6 := q9upN_of (by decide) ae6
  have u7 : q9upN w 10 [.int x9] 8 = .int x7 := q9upN_of (by decide) ae7
  have u8 : q9upN w 10 [.int x9] 9 = .int x8 := q9upN_of (by decide) ae8
  have u9 : q9upN w 10 [.int x9] 10 = .int x9 := q9upN_at (by decide)
  refine ⟨[.int x9], fun i9 p9 hq9 => ?_, fun _ h => absurd h List.not_mem_nil, fun _ h => absurd h List.not_mem_nil⟩
  · match i9, hq9 with
    | 0, hq9 =>
      have hp9 : ((1107, (1, 0), (0, 0), (0, 1, 1)) : Nat × q9AV × q9AV × q9ET) = p9 := Option.some.inj hq9
      subst hp9
      exact ⟨⟨x9, rfl, by rw [nt9]; exact rg0.1, by rw [nt9]; exact rg0.2⟩, (q9th_tX (T := T) (N := N) (P := P) (J := J) (t0 := t0) (Sc := Sc) (q9evS u0) (q9evZ u_) (q9evS u9) (by rw [q9FF_1107, nt9]; exact (show some (q9wsI T N 7 x0.toInt) = _ by rw [q9ws_yes (t := 7) (by show _ = ((6 : Nat) : Int); omega) (fun j hj => match j, hj with | 0, _ => z0 | 1, _ => z1 | 2, _ => z2 | 3, _ => z3 | 4, _ => z4 | 5, _ => z5 | k + 6, hj => absurd hj (by show ¬ (k + 6 < 6); omega))])) (by decide)).trans (congrArg some (q9evS u9))⟩
    | k9 + 1, hq9 => exact nomatch (show (none : Option (Nat × q9AV × q9AV × q9ET)) = some p9 from hq9)
theorem q9ru_wl8 (hT : ∀ i, 0 ≤ T i ∧ T i ≤ 255) (hN : 0 ≤ N ∧ N ≤ 400) (hSc : 0 ≤ Sc 1 ∧ Sc 1 ≤ 400 → N = Sc 1) : q9ruOK (fO T N P J t0 Sc) q9R_wl8 := by
  intro w w0 hA hX hL hV hR
  obtain ⟨x0, ae0, -, -⟩ := hA 0 0 rfl
  obtain ⟨x1, ae1, -, -⟩ := hA 1 0 rfl
  obtain ⟨x2, ae2, -, -⟩ := hA 2 0 rfl
  have kz : (0 : Int32).toInt = 0 := rfl
  have k1 : (Int32.ofInt 1).toInt = 1 := q9oI_toInt (by decide)
  have X0 := q9th_pX (T := T) (N := N) (P := P) (J := J) (t0 := t0) (Sc := Sc) (op := 1003) (q9evS ae0) (q9evZ w0) (q9evS ae1) (hX _ (List.mem_of_getElem? (i := 0) rfl)) (by decide)
  rw [q9FF_1003] at X0
  have H0 := Option.some.inj X0
  try simp only [kz, k1] at H0
  have X1 := q9pB (T := T) (N := N) (P := P) (J := J) (t0 := t0) (Sc := Sc) (q9evS ae1) (q9evS ae0) (q9evS ae2) (hX _ (List.mem_of_getElem? (i := 1) rfl))
  have L0 : x2.toInt ≤ (Int32.ofInt 1).toInt + 0 := q9pC (q9evS ae2) (q9evC w0 1) (hL _ (List.mem_of_getElem? (i := 0) rfl))
  have L1 : (0 : Int32).toInt ≤ x0.toInt + 0 := q9pC (q9evZ w0) (q9evS ae0) (hL _ (List.mem_of_getElem? (i := 1) rfl))
  have b1 := q9we_ge (T := T) (N := N) (i := x0.toInt)
  have b2 := q9we_le (T := T) (N := N) (i := x0.toInt)
  have d := q9su32 X1 (by omega)
  have rg0 : (0 : Int) ≤ 0 ∧ (0 : Int) ≤ 0 := by omega
  obtain ⟨x3, nt3⟩ : ∃ x : Int32, x.toInt = 0 := ⟨Int32.ofInt (0), q9oI_toInt (by omega)⟩
  have u_ : q9upN w 4 [.int x3] 0 = .int 0 := q9upN_of (by decide) w0
  have u0 : q9upN w 4 [.int x3] 1 = .int x0 := q9upN_of (by decide) ae0
  have u1 : q9upN w 4 [.int x3] 2 = .int x1 := q9upN_of (by decide) ae1
  have u2 : q9upN w 4 [.int x3] 3 = .int x2 := q9upN_of (by decide) ae2
  have u3 : q9upN w 4 [.int x3] 4 = .int x3 := q9upN_at (by decide)
  refine ⟨[.int x3], fun i9 p9 hq9 => ?_, fun _ h => absurd h List.not_mem_nil, fun _ h => absurd h List.not_mem_nil⟩
  · match i9, hq9 with
    | 0, hq9 =>
      have hp9 : ((1108, (1, 0), (0, 0), (0, 0, 0)) : Nat × q9AV × q9AV × q9ET) = p9 := Option.some.inj hq9
      subst hp9
      exact ⟨⟨x3, rfl, by rw [nt3]; exact rg0.1, by rw [nt3]; exact rg0.2⟩, (q9th_tX (T := T) (N := N) (P := P) (J := J) (t0 := t0) (Sc := Sc) (q9evS u0) (q9evZ u_) (q9evS u3) (by rw [q9FF_1108, nt3]; exact (by show some (q9wsI T N 8 x0.toInt) = _; rw [q9ws_len (t := 8) (by show _ ≠ ((2 : Nat) : Int); omega)])) (by decide)).trans (congrArg some (q9evS u3))⟩
    | k9 + 1, hq9 => exact nomatch (show (none : Option (Nat × q9AV × q9AV × q9ET)) = some p9 from hq9)
theorem q9ru_wm8 (hT : ∀ i, 0 ≤ T i ∧ T i ≤ 255) (hN : 0 ≤ N ∧ N ≤ 400) (hSc : 0 ≤ Sc 1 ∧ Sc 1 ≤ 400 → N = Sc 1) : q9ruOK (fO T N P J t0 Sc) q9R_wm8 := by
  intro w w0 hA hX hL hV hR
  obtain ⟨x0, ae0, -, -⟩ := hA 0 0 rfl
  obtain ⟨x1, ae1, -, -⟩ := hA 1 0 rfl
  obtain ⟨x2, ae2, -, -⟩ := hA 2 0 rfl
  have kz : (0 : Int32).toInt = 0 := rfl
  have k3 : (Int32.ofInt 3).toInt = 3 := q9oI_toInt (by decide)
  have X0 := q9th_pX (T := T) (N := N) (P := P) (J := J) (t0 := t0) (Sc := Sc) (op := 1003) (q9evS ae0) (q9evZ w0) (q9evS ae1) (hX _ (List.mem_of_getElem? (i := 0) rfl)) (by decide)
  rw [q9FF_1003] at X0
  have H0 := Option.some.inj X0
  try simp only [kz, k3] at H0
  have X1 := q9pB (T := T) (N := N) (P := P) (J := J) (t0 := t0) (Sc := Sc) (q9evS ae1) (q9evS ae0) (q9evS ae2) (hX _ (List.mem_of_getElem? (i := 1) rfl))
  have L0 : (Int32.ofInt 3).toInt ≤ x2.toInt + 0 := q9pC (q9evC w0 3) (q9evS ae2) (hL _ (List.mem_of_getElem? (i := 0) rfl))
  have L1 : (0 : Int32).toInt ≤ x0.toInt + 0 := q9pC (q9evZ w0) (q9evS ae0) (hL _ (List.mem_of_getElem? (i := 1) rfl))
  have b1 := q9we_ge (T := T) (N := N) (i := x0.toInt)
  have b2 := q9we_le (T := T) (N := N) (i := x0.toInt)
  have d := q9su32 X1 (by omega)
  have rg0 : (0 : Int) ≤ 0 ∧ (0 : Int) ≤ 0 := by omega
  obtain ⟨x3, nt3⟩ : ∃ x : Int32, x.toInt = 0 := ⟨Int32.ofInt (0), q9oI_toInt (by omega)⟩
  have u_ : q9upN w 4 [.int x3] 0 = .int 0 := q9upN_of (by decide) w0
  have u0 : q9upN w 4 [.int x3] 1 = .int x0 := q9upN_of (by decide) ae0
  have u1 : q9upN w 4 [.int x3] 2 = .int x1 := q9upN_of (by decide) ae1
  have u2 : q9upN w 4 [.int x3] 3 = .int x2 := q9upN_of (by decide) ae2
  have u3 : q9upN w 4 [.int x3] 4 = .int x3 := q9upN_at (by decide)
  refine ⟨[.int x3], fun i9 p9 hq9 => ?_, fun _ h => absurd h List.not_mem_nil, fun _ h => absurd h List.not_mem_nil⟩
  · match i9, hq9 with
    | 0, hq9 =>
      have hp9 : ((1108, (1, 0), (0, 0), (0, 0, 0)) : Nat × q9AV × q9AV × q9ET) = p9 := Option.some.inj hq9
      subst hp9
      exact ⟨⟨x3, rfl, by rw [nt3]; exact rg0.1, by rw [nt3]; exact rg0.2⟩, (q9th_tX (T := T) (N := N) (P := P) (J := J) (t0 := t0) (Sc := Sc) (q9evS u0) (q9evZ u_) (q9evS u3) (by rw [q9FF_1108, nt3]; exact (by show some (q9wsI T N 8 x0.toInt) = _; rw [q9ws_len (t := 8) (by show _ ≠ ((2 : Nat) : Int); omega)])) (by decide)).trans (congrArg some (q9evS u3))⟩
    | k9 + 1, hq9 => exact nomatch (show (none : Option (Nat × q9AV × q9AV × q9ET)) = some p9 from hq9)
theorem q9ru_wa8_0 (hT : ∀ i, 0 ≤ T i ∧ T i ≤ 255) (hN : 0 ≤ N ∧ N ≤ 400) (hSc : 0 ≤ Sc 1 ∧ Sc 1 ≤ 400 → N = Sc 1) : q9ruOK (fO T N P J t0 Sc) q9R_wa8_0 := by
  intro w w0 hA hX hL hV hR
  obtain ⟨x0, ae0, -, -⟩ := hA 0 0 rfl
  obtain ⟨x1, ae1, -, -⟩ := hA 1 0 rfl
  have kz : (0 : Int32).toInt = 0 := rfl
  have k104 : (Int32.ofInt 104).toInt = 104 := q9oI_toInt (by decide)
  have X0 := q9th_pX (T := T) (N := N) (P := P) (J := J) (t0 := t0) (Sc := Sc) (op := 1000) (q9evS ae0) (q9evZ w0) (q9evS ae1) (hX _ (List.mem_of_getElem? (i := 0) rfl)) (by decide)
  rw [q9FF_1000] at X0
  have H0 := Option.some.inj X0
  try simp only [kz, k104] at H0
  have L0 : x1.toInt ≤ (Int32.ofInt 104).toInt + 0 := q9pC (q9evS ae1) (q9evC w0 104) (hL _ (List.mem_of_getElem? (i := 0) rfl))
  have L1 : (0 : Int32).toInt ≤ x0.toInt + 0 := q9pC (q9evZ w0) (q9evS ae0) (hL _ (List.mem_of_getElem? (i := 1) rfl))
  have hne : q9byI T N (x0.toInt + ((0 : Nat) : Int)) ≠ 105 := by
    rw [show x0.toInt + ((0 : Nat) : Int) = x0.toInt by omega]
    omega
  have rg0 : (0 : Int) ≤ 0 ∧ (0 : Int) ≤ 0 := by omega
  obtain ⟨x2, nt2⟩ : ∃ x : Int32, x.toInt = 0 := ⟨Int32.ofInt (0), q9oI_toInt (by omega)⟩
  have u_ : q9upN w 3 [.int x2] 0 = .int 0 := q9upN_of (by decide) w0
  have u0 : q9upN w 3 [.int x2] 1 = .int x0 := q9upN_of (by decide) ae0
  have u1 : q9upN w 3 [.int x2] 2 = .int x1 := q9upN_of (by decide) ae1
  have u2 : q9upN w 3 [.int x2] 3 = .int x2 := q9upN_at (by decide)
  refine ⟨[.int x2], fun i9 p9 hq9 => ?_, fun _ h => absurd h List.not_mem_nil, fun _ h => absurd h List.not_mem_nil⟩
  · match i9, hq9 with
    | 0, hq9 =>
      have hp9 : ((1108, (1, 0), (0, 0), (0, 0, 0)) : Nat × q9AV × q9AV × q9ET) = p9 := Option.some.inj hq9
      subst hp9
      exact ⟨⟨x2, rfl, by rw [nt2]; exact rg0.1, by rw [nt2]; exact rg0.2⟩, (q9th_tX (T := T) (N := N) (P := P) (J := J) (t0 := t0) (Sc := Sc) (q9evS u0) (q9evZ u_) (q9evS u2) (by rw [q9FF_1108, nt2]; exact (by show some (q9wsI T N 8 x0.toInt) = _; rw [q9ws_ne (t := 8) 0 (by decide) hne])) (by decide)).trans (congrArg some (q9evS u2))⟩
    | k9 + 1, hq9 => exact nomatch (show (none : Option (Nat × q9AV × q9AV × q9ET)) = some p9 from hq9)
theorem q9ru_wb8_0 (hT : ∀ i, 0 ≤ T i ∧ T i ≤ 255) (hN : 0 ≤ N ∧ N ≤ 400) (hSc : 0 ≤ Sc 1 ∧ Sc 1 ≤ 400 → N = Sc 1) : q9ruOK (fO T N P J t0 Sc) q9R_wb8_0 := by
  intro w w0 hA hX hL hV hR
  obtain ⟨x0, ae0, -, -⟩ := hA 0 0 rfl
  obtain ⟨x1, ae1, -, -⟩ := hA 1 0 rfl
  have kz : (0 : Int32).toInt = 0 := rfl
  have k106 : (Int32.ofInt 106).toInt = 106 := q9oI_toInt (by decide)
  have X0 := q9th_pX (T := T) (N := N) (P := P) (J := J) (t0 := t0) (Sc := Sc) (op := 1000) (q9evS ae0) (q9evZ w0) (q9evS ae1) (hX _ (List.mem_of_getElem? (i := 0) rfl)) (by decide)
  rw [q9FF_1000] at X0
  have H0 := Option.some.inj X0
  try simp only [kz, k106] at H0
  have L0 : (Int32.ofInt 106).toInt ≤ x1.toInt + 0 := q9pC (q9evC w0 106) (q9evS ae1) (hL _ (List.mem_of_getElem? (i := 0) rfl))
  have L1 : (0 : Int32).toInt ≤ x0.toInt + 0 := q9pC (q9evZ w0) (q9evS ae0) (hL _ (List.mem_of_getElem? (i := 1) rfl))
  have hne : q9byI T N (x0.toInt + ((0 : Nat) : Int)) ≠ 105 := by
    rw [show x0.toInt + ((0 : Nat) : Int) = x0.toInt by omega]
    omega
  have rg0 : (0 : Int) ≤ 0 ∧ (0 : Int) ≤ 0 := by omega
  obtain ⟨x2, nt2⟩ : ∃ x : Int32, x.toInt = 0 := ⟨Int32.ofInt (0), q9oI_toInt (by omega)⟩
  have u_ : q9upN w 3 [.int x2] 0 = .int 0 := q9upN_of (by decide) w0
  have u0 : q9upN w 3 [.int x2] 1 = .int x0 := q9upN_of (by decide) ae0
  have u1 : q9upN w 3 [.int x2] 2 = .int x1 := q9upN_of (by decide) ae1
  have u2 : q9upN w 3 [.int x2] 3 = .int x2 := q9upN_at (by decide)
  refine ⟨[.int x2], fun i9 p9 hq9 => ?_, fun _ h => absurd h List.not_mem_nil, fun _ h => absurd h List.not_mem_nil⟩
  · match i9, hq9 with
    | 0, hq9 =>
      have hp9 : ((1108, (1, 0), (0, 0), (0, 0, 0)) : Nat × q9AV × q9AV × q9ET) = p9 := Option.some.inj hq9
      subst hp9
      exact ⟨⟨x2, rfl, by rw [nt2]; exact rg0.1, by rw [nt2]; exact rg0.2⟩, (q9th_tX (T := T) (N := N) (P := P) (J := J) (t0 := t0) (Sc := Sc) (q9evS u0) (q9evZ u_) (q9evS u2) (by rw [q9FF_1108, nt2]; exact (by show some (q9wsI T N 8 x0.toInt) = _; rw [q9ws_ne (t := 8) 0 (by decide) hne])) (by decide)).trans (congrArg some (q9evS u2))⟩
    | k9 + 1, hq9 => exact nomatch (show (none : Option (Nat × q9AV × q9AV × q9ET)) = some p9 from hq9)
theorem q9ru_wa8_1 (hT : ∀ i, 0 ≤ T i ∧ T i ≤ 255) (hN : 0 ≤ N ∧ N ≤ 400) (hSc : 0 ≤ Sc 1 ∧ Sc 1 ≤ 400 → N = Sc 1) : q9ruOK (fO T N P J t0 Sc) q9R_wa8_1 := by
  intro w w0 hA hX hL hV hR
  obtain ⟨x0, ae0, -, -⟩ := hA 0 0 rfl
  obtain ⟨x1, ae1, -, -⟩ := hA 1 0 rfl
  have kz : (0 : Int32).toInt = 0 := rfl
  have k109 : (Int32.ofInt 109).toInt = 109 := q9oI_toInt (by decide)
  have X0 := q9th_pX (T := T) (N := N) (P := P) (J := J) (t0 := t0) (Sc := Sc) (op := 1000) (q9evO ae0 1) (q9evZ w0) (q9evS ae1) (hX _ (List.mem_of_getElem? (i := 0) rfl)) (by decide)
  rw [q9FF_1000] at X0
  have H0 := Option.some.inj X0
  try simp only [kz, k109] at H0
  have L0 : x1.toInt ≤ (Int32.ofInt 109).toInt + 0 := q9pC (q9evS ae1) (q9evC w0 109) (hL _ (List.mem_of_getElem? (i := 0) rfl))
  have L1 : (0 : Int32).toInt ≤ x0.toInt + 0 := q9pC (q9evZ w0) (q9evS ae0) (hL _ (List.mem_of_getElem? (i := 1) rfl))
  have hne : q9byI T N (x0.toInt + ((1 : Nat) : Int)) ≠ 110 := by
    rw [show x0.toInt + ((1 : Nat) : Int) = x0.toInt + 1 from rfl]
    by_cases hb : x0.toInt + 1 ≤ 2147483647
    · rw [q9ad32 (x := x0) (d := 1) (by omega)] at H0
      omega
    · intro h
      have := q9byI_lt (T := T) (N := N) (i := x0.toInt + 1) (by omega)
      omega
  have rg0 : (0 : Int) ≤ 0 ∧ (0 : Int) ≤ 0 := by omega
  obtain ⟨x2, nt2⟩ : ∃ x : Int32, x.toInt = 0 := ⟨Int32.ofInt (0), q9oI_toInt (by omega)⟩
  have u_ : q9upN w 3 [.int x2] 0 = .int 0 := q9upN_of (by decide) w0
  have u0 : q9upN w 3 [.int x2] 1 = .int x0 := q9upN_of (by decide) ae0
  have u1 : q9upN w 3 [.int x2] 2 = .int x1 := q9upN_of (by decide) ae1
  have u2 : q9upN w 3 [.int x2] 3 = .int x2 := q9upN_at (by decide)
  refine ⟨[.int x2], fun i9 p9 hq9 => ?_, fun _ h => absurd h List.not_mem_nil, fun _ h => absurd h List.not_mem_nil⟩
  · match i9, hq9 with
    | 0, hq9 =>
      have hp9 : ((1108, (1, 0), (0, 0), (0, 0, 0)) : Nat × q9AV × q9AV × q9ET) = p9 := Option.some.inj hq9
      subst hp9
      exact ⟨⟨x2, rfl, by rw [nt2]; exact rg0.1, by rw [nt2]; exact rg0.2⟩, (q9th_tX (T := T) (N := N) (P := P) (J := J) (t0 := t0) (Sc := Sc) (q9evS u0) (q9evZ u_) (q9evS u2) (by rw [q9FF_1108, nt2]; exact (by show some (q9wsI T N 8 x0.toInt) = _; rw [q9ws_ne (t := 8) 1 (by decide) hne])) (by decide)).trans (congrArg some (q9evS u2))⟩
    | k9 + 1, hq9 => exact nomatch (show (none : Option (Nat × q9AV × q9AV × q9ET)) = some p9 from hq9)
theorem q9ru_wb8_1 (hT : ∀ i, 0 ≤ T i ∧ T i ≤ 255) (hN : 0 ≤ N ∧ N ≤ 400) (hSc : 0 ≤ Sc 1 ∧ Sc 1 ≤ 400 → N = Sc 1) : q9ruOK (fO T N P J t0 Sc) q9R_wb8_1 := by
  intro w w0 hA hX hL hV hR
  obtain ⟨x0, ae0, -, -⟩ := hA 0 0 rfl
  obtain ⟨x1, ae1, -, -⟩ := hA 1 0 rfl
  have kz : (0 : Int32).toInt = 0 := rfl
  have k111 : (Int32.ofInt 111).toInt = 111 := q9oI_toInt (by decide)
  have X0 := q9th_pX (T := T) (N := N) (P := P) (J := J) (t0 := t0) (Sc := Sc) (op := 1000) (q9evO ae0 1) (q9evZ w0) (q9evS ae1) (hX _ (List.mem_of_getElem? (i := 0) rfl)) (by decide)
  rw [q9FF_1000] at X0
  have H0 := Option.some.inj X0
  try simp only [kz, k111] at H0
  have L0 : (Int32.ofInt 111).toInt ≤ x1.toInt + 0 := q9pC (q9evC w0 111) (q9evS ae1) (hL _ (List.mem_of_getElem? (i := 0) rfl))
  have L1 : (0 : Int32).toInt ≤ x0.toInt + 0 := q9pC (q9evZ w0) (q9evS ae0) (hL _ (List.mem_of_getElem? (i := 1) rfl))
  have hne : q9byI T N (x0.toInt + ((1 : Nat) : Int)) ≠ 110 := by
    rw [show x0.toInt + ((1 : Nat) : Int) = x0.toInt + 1 from rfl]
    by_cases hb : x0.toInt + 1 ≤ 2147483647
    · rw [q9ad32 (x := x0) (d := 1) (by omega)] at H0
      omega
    · intro h
      have := q9byI_lt (T := T) (N := N) (i := x0.toInt + 1) (by omega)
      omega
  have rg0 : (0 : Int) ≤ 0 ∧ (0 : Int) ≤ 0 := by omega
  obtain ⟨x2, nt2⟩ : ∃ x : Int32, x.toInt = 0 := ⟨Int32.ofInt (0), q9oI_toInt (by omega)⟩
  have u_ : q9upN w 3 [.int x2] 0 = .int 0 := q9upN_of (by decide) w0
  have u0 : q9upN w 3 [.int x2] 1 = .int x0 := q9upN_of (by decide) ae0
  have u1 : q9upN w 3 [.int x2] 2 = .int x1 := q9upN_of (by decide) ae1
  have u2 : q9upN w 3 [.int x2] 3 = .int x2 := q9upN_at (by decide)
  refine ⟨[.int x2], fun i9 p9 hq9 => ?_, fun _ h => absurd h List.not_mem_nil, fun _ h => absurd h List.not_mem_nil⟩
  · match i9, hq9 with
    | 0, hq9 =>
      have hp9 : ((1108, (1, 0), (0, 0), (0, 0, 0)) : Nat × q9AV × q9AV × q9ET) = p9 := Option.some.inj hq9
      subst hp9
      exact ⟨⟨x2, rfl, by rw [nt2]; exact rg0.1, by rw [nt2]; exact rg0.2⟩, (q9th_tX (T := T) (N := N) (P := P) (J := J) (t0 := t0) (Sc := Sc) (q9evS u0) (q9evZ u_) (q9evS u2) (by rw [q9FF_1108, nt2]; exact (by show some (q9wsI T N 8 x0.toInt) = _; rw [q9ws_ne (t := 8) 1 (by decide) hne])) (by decide)).trans (congrArg some (q9evS u2))⟩
    | k9 + 1, hq9 => exact nomatch (show (none : Option (Nat × q9AV × q9AV × q9ET)) = some p9 from hq9)
theorem q9ru_wy8 (hT : ∀ i, 0 ≤ T i ∧ T i ≤ 255) (hN : 0 ≤ N ∧ N ≤ 400) (hSc : 0 ≤ Sc 1 ∧ Sc 1 ≤ 400 → N = Sc 1) : q9ruOK (fO T N P J t0 Sc) q9R_wy8 := by
  intro w w0 hA hX hL hV hR
  obtain ⟨x0, ae0, -, -⟩ := hA 0 0 rfl
  obtain ⟨x1, ae1, -, -⟩ := hA 1 0 rfl
  obtain ⟨x2, ae2, -, -⟩ := hA 2 0 rfl
  obtain ⟨x3, ae3, -, -⟩ := hA 3 0 rfl
  obtain ⟨x4, ae4, -, -⟩ := hA 4 0 rfl
  have kz : (0 : Int32).toInt = 0 := rfl
  have k2 : (Int32.ofInt 2).toInt = 2 := q9oI_toInt (by decide)
  have k105 : (Int32.ofInt 105).toInt = 105 := q9oI_toInt (by decide)
  have k110 : (Int32.ofInt 110).toInt = 110 := q9oI_toInt (by decide)
  have X0 := q9th_pX (T := T) (N := N) (P := P) (J := J) (t0 := t0) (Sc := Sc) (op := 1003) (q9evS ae0) (q9evZ w0) (q9evS ae1) (hX _ (List.mem_of_getElem? (i := 0) rfl)) (by decide)
  rw [q9FF_1003] at X0
  have H0 := Option.some.inj X0
  try simp only [kz, k2, k105, k110] at H0
  have X1 := q9pB (T := T) (N := N) (P := P) (J := J) (t0 := t0) (Sc := Sc) (q9evS ae1) (q9evS ae0) (q9evS ae2) (hX _ (List.mem_of_getElem? (i := 1) rfl))
  have L0 : (Int32.ofInt 2).toInt ≤ x2.toInt + 0 := q9pC (q9evC w0 2) (q9evS ae2) (hL _ (List.mem_of_getElem? (i := 0) rfl))
  have L1 : x2.toInt ≤ (Int32.ofInt 2).toInt + 0 := q9pC (q9evS ae2) (q9evC w0 2) (hL _ (List.mem_of_getElem? (i := 1) rfl))
  have L2 : (0 : Int32).toInt ≤ x0.toInt + 0 := q9pC (q9evZ w0) (q9evS ae0) (hL _ (List.mem_of_getElem? (i := 2) rfl))
  have X2 := q9th_pX (T := T) (N := N) (P := P) (J := J) (t0 := t0) (Sc := Sc) (op := 1000) (q9evS ae0) (q9evZ w0) (q9evS ae3) (hX _ (List.mem_of_getElem? (i := 2) rfl)) (by decide)
  rw [q9FF_1000] at X2
  have H2 := Option.some.inj X2
  try simp only [kz, k2, k105, k110] at H2
  have L3 : (Int32.ofInt 105).toInt ≤ x3.toInt + 0 := q9pC (q9evC w0 105) (q9evS ae3) (hL _ (List.mem_of_getElem? (i := 3) rfl))
  have L4 : x3.toInt ≤ (Int32.ofInt 105).toInt + 0 := q9pC (q9evS ae3) (q9evC w0 105) (hL _ (List.mem_of_getElem? (i := 4) rfl))
  have X3 := q9th_pX (T := T) (N := N) (P := P) (J := J) (t0 := t0) (Sc := Sc) (op := 1000) (q9evO ae0 1) (q9evZ w0) (q9evS ae4) (hX _ (List.mem_of_getElem? (i := 3) rfl)) (by decide)
  rw [q9FF_1000] at X3
  have H3 := Option.some.inj X3
  try simp only [kz, k2, k105, k110] at H3
  have L5 : (Int32.ofInt 110).toInt ≤ x4.toInt + 0 := q9pC (q9evC w0 110) (q9evS ae4) (hL _ (List.mem_of_getElem? (i := 5) rfl))
  have L6 : x4.toInt ≤ (Int32.ofInt 110).toInt + 0 := q9pC (q9evS ae4) (q9evC w0 110) (hL _ (List.mem_of_getElem? (i := 6) rfl))
  have b1 := q9we_ge (T := T) (N := N) (i := x0.toInt)
  have b2 := q9we_le (T := T) (N := N) (i := x0.toInt)
  have d := q9su32 X1 (by omega)
  have z0 : q9byI T N (x0.toInt + ((0 : Nat) : Int)) = 105 := by rw [show x0.toInt + ((0 : Nat) : Int) = x0.toInt + 0 by omega, Int.add_zero]; omega
  have v1 := q9ad32 (x := x0) (d := 1) (by omega)
  rw [v1] at H3
  have z1 : q9byI T N (x0.toInt + ((1 : Nat) : Int)) = 110 := by rw [show x0.toInt + ((1 : Nat) : Int) = x0.toInt + 1 by omega]; omega
  have rg0 : (1 : Int) ≤ 1 ∧ (1 : Int) ≤ 1 := by omega
  obtain ⟨x5, nt5⟩ : ∃ x : Int32, x.toInt = 1 := ⟨Int32.ofInt (1), q9oI_toInt (by omega)⟩
  have u_ : q9upN w 6 [.int x5] 0 = .int 0 := q9upN_of (by decide) w0
  have u0 : q9upN w 6 [.int x5] 1 = .int x0 := q9upN_of (by decide) ae0
  have u1 : q9upN w 6 [.int x5] 2 = .int x1 := q9upN_of (by decide) ae1
  have u2 : q9upN w 6 [.int x5] 3 = .int x2 := q9upN_of (by decide) ae2
  have u3 : q9upN w 6 [.int x5] 4 = .int x3 := q9upN_of (by decide) ae3
  have u4 : q9upN w 6 [.int x5] 5 = .int x4 := q9upN_of (by decide) ae4
  have u5 : q9upN w 6 [.int x5] 6 = .int x5 := q9upN_at (by decide)
  refine ⟨[.int x5], fun i9 p9 hq9 => ?_, fun _ h => absurd h List.not_mem_nil, fun _ h => absurd h List.not_mem_nil⟩
  · match i9, hq9 with
    | 0, hq9 =>
      have hp9 : ((1108, (1, 0), (0, 0), (0, 1, 1)) : Nat × q9AV × q9AV × q9ET) = p9 := Option.some.inj hq9
      subst hp9
      exact ⟨⟨x5, rfl, by rw [nt5]; exact rg0.1, by rw [nt5]; exact rg0.2⟩, (q9th_tX (T := T) (N := N) (P := P) (J := J) (t0 := t0) (Sc := Sc) (q9evS u0) (q9evZ u_) (q9evS u5) (by rw [q9FF_1108, nt5]; exact (show some (q9wsI T N 8 x0.toInt) = _ by rw [q9ws_yes (t := 8) (by show _ = ((2 : Nat) : Int); omega) (fun j hj => match j, hj with | 0, _ => z0 | 1, _ => z1 | k + 2, hj => absurd hj (by show ¬ (k + 2 < 2); omega))])) (by decide)).trans (congrArg some (q9evS u5))⟩
    | k9 + 1, hq9 => exact nomatch (show (none : Option (Nat × q9AV × q9AV × q9ET)) = some p9 from hq9)
theorem q9ru_wl9 (hT : ∀ i, 0 ≤ T i ∧ T i ≤ 255) (hN : 0 ≤ N ∧ N ≤ 400) (hSc : 0 ≤ Sc 1 ∧ Sc 1 ≤ 400 → N = Sc 1) : q9ruOK (fO T N P J t0 Sc) q9R_wl9 := by
  intro w w0 hA hX hL hV hR
  obtain ⟨x0, ae0, -, -⟩ := hA 0 0 rfl
  obtain ⟨x1, ae1, -, -⟩ := hA 1 0 rfl
  obtain ⟨x2, ae2, -, -⟩ := hA 2 0 rfl
  have kz : (0 : Int32).toInt = 0 := rfl
  have k3 : (Int32.ofInt 3).toInt = 3 := q9oI_toInt (by decide)
  have X0 := q9th_pX (T := T) (N := N) (P := P) (J := J) (t0 := t0) (Sc := Sc) (op := 1003) (q9evS ae0) (q9evZ w0) (q9evS ae1) (hX _ (List.mem_of_getElem? (i := 0) rfl)) (by decide)
  rw [q9FF_1003] at X0
  have H0 := Option.some.inj X0
  try simp only [kz, k3] at H0
  have X1 := q9pB (T := T) (N := N) (P := P) (J := J) (t0 := t0) (Sc := Sc) (q9evS ae1) (q9evS ae0) (q9evS ae2) (hX _ (List.mem_of_getElem? (i := 1) rfl))
  have L0 : x2.toInt ≤ (Int32.ofInt 3).toInt + 0 := q9pC (q9evS ae2) (q9evC w0 3) (hL _ (List.mem_of_getElem? (i := 0) rfl))
  have L1 : (0 : Int32).toInt ≤ x0.toInt + 0 := q9pC (q9evZ w0) (q9evS ae0) (hL _ (List.mem_of_getElem? (i := 1) rfl))
  have b1 := q9we_ge (T := T) (N := N) (i := x0.toInt)
  have b2 := q9we_le (T := T) (N := N) (i := x0.toInt)
  have d := q9su32 X1 (by omega)
  have rg0 : (0 : Int) ≤ 0 ∧ (0 : Int) ≤ 0 := by omega
  obtain ⟨x3, nt3⟩ : ∃ x : Int32, x.toInt = 0 := ⟨Int32.ofInt (0), q9oI_toInt (by omega)⟩
  have u_ : q9upN w 4 [.int x3] 0 = .int 0 := q9upN_of (by decide) w0
  have u0 : q9upN w 4 [.int x3] 1 = .int x0 := q9upN_of (by decide) ae0
  have u1 : q9upN w 4 [.int x3] 2 = .int x1 := q9upN_of (by decide) ae1
  have u2 : q9upN w 4 [.int x3] 3 = .int x2 := q9upN_of (by decide) ae2
  have u3 : q9upN w 4 [.int x3] 4 = .int x3 := q9upN_at (by decide)
  refine ⟨[.int x3], fun i9 p9 hq9 => ?_, fun _ h => absurd h List.not_mem_nil, fun _ h => absurd h List.not_mem_nil⟩
  · match i9, hq9 with
    | 0, hq9 =>
      have hp9 : ((1109, (1, 0), (0, 0), (0, 0, 0)) : Nat × q9AV × q9AV × q9ET) = p9 := Option.some.inj hq9
      subst hp9
      exact ⟨⟨x3, rfl, by rw [nt3]; exact rg0.1, by rw [nt3]; exact rg0.2⟩, (q9th_tX (T := T) (N := N) (P := P) (J := J) (t0 := t0) (Sc := Sc) (q9evS u0) (q9evZ u_) (q9evS u3) (by rw [q9FF_1109, nt3]; exact (by show some (q9wsI T N 9 x0.toInt) = _; rw [q9ws_len (t := 9) (by show _ ≠ ((4 : Nat) : Int); omega)])) (by decide)).trans (congrArg some (q9evS u3))⟩
    | k9 + 1, hq9 => exact nomatch (show (none : Option (Nat × q9AV × q9AV × q9ET)) = some p9 from hq9)
theorem q9ru_wm9 (hT : ∀ i, 0 ≤ T i ∧ T i ≤ 255) (hN : 0 ≤ N ∧ N ≤ 400) (hSc : 0 ≤ Sc 1 ∧ Sc 1 ≤ 400 → N = Sc 1) : q9ruOK (fO T N P J t0 Sc) q9R_wm9 := by
  intro w w0 hA hX hL hV hR
  obtain ⟨x0, ae0, -, -⟩ := hA 0 0 rfl
  obtain ⟨x1, ae1, -, -⟩ := hA 1 0 rfl
  obtain ⟨x2, ae2, -, -⟩ := hA 2 0 rfl
  have kz : (0 : Int32).toInt = 0 := rfl
  have k5 : (Int32.ofInt 5).toInt = 5 := q9oI_toInt (by decide)
  have X0 := q9th_pX (T := T) (N := N) (P := P) (J := J) (t0 := t0) (Sc := Sc) (op := 1003) (q9evS ae0) (q9evZ w0) (q9evS ae1) (hX _ (List.mem_of_getElem? (i := 0) rfl)) (by decide)
  rw [q9FF_1003] at X0
  have H0 := Option.some.inj X0
  try simp only [kz, k5] at H0
  have X1 := q9pB (T := T) (N := N) (P := P) (J := J) (t0 := t0) (Sc := Sc) (q9evS ae1) (q9evS ae0) (q9evS ae2) (hX _ (List.mem_of_getElem? (i := 1) rfl))
  have L0 : (Int32.ofInt 5).toInt ≤ x2.toInt + 0 := q9pC (q9evC w0 5) (q9evS ae2) (hL _ (List.mem_of_getElem? (i := 0) rfl))
  have L1 : (0 : Int32).toInt ≤ x0.toInt + 0 := q9pC (q9evZ w0) (q9evS ae0) (hL _ (List.mem_of_getElem? (i := 1) rfl))
  have b1 := q9we_ge (T := T) (N := N) (i := x0.toInt)
  have b2 := q9we_le (T := T) (N := N) (i := x0.toInt)
  have d := q9su32 X1 (by omega)
  have rg0 : (0 : Int) ≤ 0 ∧ (0 : Int) ≤ 0 := by omega
  obtain ⟨x3, nt3⟩ : ∃ x : Int32, x.toInt = 0 := ⟨Int32.ofInt (0), q9oI_toInt (by omega)⟩
  have u_ : q9upN w 4 [.int x3] 0 = .int 0 := q9upN_of (by decide) w0
  have u0 : q9upN w 4 [.int x3] 1 = .int x0 := q9upN_of (by decide) ae0
  have u1 : q9upN w 4 [.int x3] 2 = .int x1 := q9upN_of (by decide) ae1
  have u2 : q9upN w 4 [.int x3] 3 = .int x2 := q9upN_of (by decide) ae2
  have u3 : q9upN w 4 [.int x3] 4 = .int x3 := q9upN_at (by decide)
  refine ⟨[.int x3], fun i9 p9 hq9 => ?_, fun _ h => absurd h List.not_mem_nil, fun _ h => absurd h List.not_mem_nil⟩
  · match i9, hq9 with
    | 0, hq9 =>
      have hp9 : ((1109, (1, 0), (0, 0), (0, 0, 0)) : Nat × q9AV × q9AV × q9ET) = p9 := Option.some.inj hq9
      subst hp9
      exact ⟨⟨x3, rfl, by rw [nt3]; exact rg0.1, by rw [nt3]; exact rg0.2⟩, (q9th_tX (T := T) (N := N) (P := P) (J := J) (t0 := t0) (Sc := Sc) (q9evS u0) (q9evZ u_) (q9evS u3) (by rw [q9FF_1109, nt3]; exact (by show some (q9wsI T N 9 x0.toInt) = _; rw [q9ws_len (t := 9) (by show _ ≠ ((4 : Nat) : Int); omega)])) (by decide)).trans (congrArg some (q9evS u3))⟩
    | k9 + 1, hq9 => exact nomatch (show (none : Option (Nat × q9AV × q9AV × q9ET)) = some p9 from hq9)
theorem q9ru_wa9_0 (hT : ∀ i, 0 ≤ T i ∧ T i ≤ 255) (hN : 0 ≤ N ∧ N ≤ 400) (hSc : 0 ≤ Sc 1 ∧ Sc 1 ≤ 400 → N = Sc 1) : q9ruOK (fO T N P J t0 Sc) q9R_wa9_0 := by
  intro w w0 hA hX hL hV hR
  obtain ⟨x0, ae0, -, -⟩ := hA 0 0 rfl
  obtain ⟨x1, ae1, -, -⟩ := hA 1 0 rfl
  have kz : (0 : Int32).toInt = 0 := rfl
  have k114 : (Int32.ofInt 114).toInt = 114 := q9oI_toInt (by decide)
  have X0 := q9th_pX (T := T) (N := N) (P := P) (J := J) (t0 := t0) (Sc := Sc) (op := 1000) (q9evS ae0) (q9evZ w0) (q9evS ae1) (hX _ (List.mem_of_getElem? (i := 0) rfl)) (by decide)
  rw [q9FF_1000] at X0
  have H0 := Option.some.inj X0
  try simp only [kz, k114] at H0
  have L0 : x1.toInt ≤ (Int32.ofInt 114).toInt + 0 := q9pC (q9evS ae1) (q9evC w0 114) (hL _ (List.mem_of_getElem? (i := 0) rfl))
  have L1 : (0 : Int32).toInt ≤ x0.toInt + 0 := q9pC (q9evZ w0) (q9evS ae0) (hL _ (List.mem_of_getElem? (i := 1) rfl))
  have hne : q9byI T N (x0.toInt + ((0 : Nat) : Int)) ≠ 115 := by
    rw [show x0.toInt + ((0 : Nat) : Int) = x0.toInt by omega]
    omega
  have rg0 : (0 : Int) ≤ 0 ∧ (0 : Int) ≤ 0 := by omega
  obtain ⟨x2, nt2⟩ : ∃ x : Int32, x.toInt = 0 := ⟨Int32.ofInt (0), q9oI_toInt (by omega)⟩
  have u_ : q9upN w 3 [.int x2] 0 = .int 0 := q9upN_of (by decide) w0
  have u0 : q9upN w 3 [.int x2] 1 = .int x0 := q9upN_of (by decide) ae0
  have u1 : q9upN w 3 [.int x2] 2 = .int x1 := q9upN_of (by decide) ae1
  have u2 : q9upN w 3 [.int x2] 3 = .int x2 := q9upN_at (by decide)
  refine ⟨[.int x2], fun i9 p9 hq9 => ?_, fun _ h => absurd h List.not_mem_nil, fun _ h => absurd h List.not_mem_nil⟩
  · match i9, hq9 with
    | 0, hq9 =>
      have hp9 : ((1109, (1, 0), (0, 0), (0, 0, 0)) : Nat × q9AV × q9AV × q9ET) = p9 := Option.some.inj hq9
      subst hp9
      exact ⟨⟨x2, rfl, by rw [nt2]; exact rg0.1, by rw [nt2]; exact rg0.2⟩, (q9th_tX (T := T) (N := N) (P := P) (J := J) (t0 := t0) (Sc := Sc) (q9evS u0) (q9evZ u_) (q9evS u2) (by rw [q9FF_1109, nt2]; exact (by show some (q9wsI T N 9 x0.toInt) = _; rw [q9ws_ne (t := 9) 0 (by decide) hne])) (by decide)).trans (congrArg some (q9evS u2))⟩
    | k9 + 1, hq9 => exact nomatch (show (none : Option (Nat × q9AV × q9AV × q9ET)) = some p9 from hq9)
theorem q9ru_wb9_0 (hT : ∀ i, 0 ≤ T i ∧ T i ≤ 255) (hN : 0 ≤ N ∧ N ≤ 400) (hSc : 0 ≤ Sc 1 ∧ Sc 1 ≤ 400 → N = Sc 1) : q9ruOK (fO T N P J t0 Sc) q9R_wb9_0 := by
  intro w w0 hA hX hL hV hR
  obtain ⟨x0, ae0, -, -⟩ := hA 0 0 rfl
  obtain ⟨x1, ae1, -, -⟩ := hA 1 0 rfl
  have kz : (0 : Int32).toInt = 0 := rfl
  have k116 : (Int32.ofInt 116).toInt = 116 := q9oI_toInt (by decide)
  have X0 := q9th_pX (T := T) (N := N) (P := P) (J := J) (t0 := t0) (Sc := Sc) (op := 1000) (q9evS ae0) (q9evZ w0) (q9evS ae1) (hX _ (List.mem_of_getElem? (i := 0) rfl)) (by decide)
  rw [q9FF_1000] at X0
  have H0 := Option.some.inj X0
  try simp only [kz, k116] at H0
  have L0 : (Int32.ofInt 116).toInt ≤ x1.toInt + 0 := q9pC (q9evC w0 116) (q9evS ae1) (hL _ (List.mem_of_getElem? (i := 0) rfl))
  have L1 : (0 : Int32).toInt ≤ x0.toInt + 0 := q9pC (q9evZ w0) (q9evS ae0) (hL _ (List.mem_of_getElem? (i := 1) rfl))
  have hne : q9byI T N (x0.toInt + ((0 : Nat) : Int)) ≠ 115 := by
    rw [show x0.toInt + ((0 : Nat) : Int) = x0.toInt by omega]
    omega
  have rg0 : (0 : Int) ≤ 0 ∧ (0 : Int) ≤ 0 := by omega
  obtain ⟨x2, nt2⟩ : ∃ x : Int32, x.toInt = 0 := ⟨Int32.ofInt (0), q9oI_toInt (by omega)⟩
  have u_ : q9upN w 3 [.int x2] 0 = .int 0 := q9upN_of (by decide) w0
  have u0 : q9upN w 3 [.int x2] 1 = .int x0 := q9upN_of (by decide) ae0
  have u1 : q9upN w 3 [.int x2] 2 = .int x1 := q9upN_of (by decide) ae1
  have u2 : q9upN w 3 [.int x2] 3 = .int x2 := q9upN_at (by decide)
  refine ⟨[.int x2], fun i9 p9 hq9 => ?_, fun _ h => absurd h List.not_mem_nil, fun _ h => absurd h List.not_mem_nil⟩
  · match i9, hq9 with
    | 0, hq9 =>
      have hp9 : ((1109, (1, 0), (0, 0), (0, 0, 0)) : Nat × q9AV × q9AV × q9ET) = p9 := Option.some.inj hq9
      subst hp9
      exact ⟨⟨x2, rfl, by rw [nt2]; exact rg0.1, by rw [nt2]; exact rg0.2⟩, (q9th_tX (T := T) (N := N) (P := P) (J := J) (t0 := t0) (Sc := Sc) (q9evS u0) (q9evZ u_) (q9evS u2) (by rw [q9FF_1109, nt2]; exact (by show some (q9wsI T N 9 x0.toInt) = _; rw [q9ws_ne (t := 9) 0 (by decide) hne])) (by decide)).trans (congrArg some (q9evS u2))⟩
    | k9 + 1, hq9 => exact nomatch (show (none : Option (Nat × q9AV × q9AV × q9ET)) = some p9 from hq9)
theorem q9ru_wa9_1 (hT : ∀ i, 0 ≤ T i ∧ T i ≤ 255) (hN : 0 ≤ N ∧ N ≤ 400) (hSc : 0 ≤ Sc 1 ∧ Sc 1 ≤ 400 → N = Sc 1) : q9ruOK (fO T N P J t0 Sc) q9R_wa9_1 := by
  intro w w0 hA hX hL hV hR
  obtain ⟨x0, ae0, -, -⟩ := hA 0 0 rfl
  obtain ⟨x1, ae1, -, -⟩ := hA 1 0 rfl
  have kz : (0 : Int32).toInt = 0 := rfl
  have k107 : (Int32.ofInt 107).toInt = 107 := q9oI_toInt (by decide)
  have X0 := q9th_pX (T := T) (N := N) (P := P) (J := J) (t0 := t0) (Sc := Sc) (op := 1000) (q9evO ae0 1) (q9evZ w0) (q9evS ae1) (hX _ (List.mem_of_getElem? (i := 0) rfl)) (by decide)
  rw [q9FF_1000] at X0
  have H0 := Option.some.inj X0
  try simp only [kz, k107] at H0
  have L0 : x1.toInt ≤ (Int32.ofInt 107).toInt + 0 := q9pC (q9evS ae1) (q9evC w0 107) (hL _ (List.mem_of_getElem? (i := 0) rfl))
  have L1 : (0 : Int32).toInt ≤ x0.toInt + 0 := q9pC (q9evZ w0) (q9evS ae0) (hL _ (List.mem_of_getElem? (i := 1) rfl))
  have hne : q9byI T N (x0.toInt + ((1 : Nat) : Int)) ≠ 108 := by
    rw [show x0.toInt + ((1 : Nat) : Int) = x0.toInt + 1 from rfl]
    by_cases hb : x0.toInt + 1 ≤ 2147483647
    · rw [q9ad32 (x := x0) (d := 1) (by omega)] at H0
      omega
    · intro h
      have := q9byI_lt (T := T) (N := N) (i := x0.toInt + 1) (by omega)
      omega
  have rg0 : (0 : Int) ≤ 0 ∧ (0 : Int) ≤ 0 := by omega
  obtain ⟨x2, nt2⟩ : ∃ x : Int32, x.toInt = 0 := ⟨Int32.ofInt (0), q9oI_toInt (by omega)⟩
  have u_ : q9upN w 3 [.int x2] 0 = .int 0 := q9upN_of (by decide) w0
  have u0 : q9upN w 3 [.int x2] 1 = .int x0 := q9upN_of (by decide) ae0
  have u1 : q9upN w 3 [.int x2] 2 = .int x1 := q9upN_of (by decide) ae1
  have u2 : q9upN w 3 [.int x2] 3 = .int x2 := q9upN_at (by decide)
  refine ⟨[.int x2], fun i9 p9 hq9 => ?_, fun _ h => absurd h List.not_mem_nil, fun _ h => absurd h List.not_mem_nil⟩
  · match i9, hq9 with
    | 0, hq9 =>
      have hp9 : ((1109, (1, 0), (0, 0), (0, 0, 0)) : Nat × q9AV × q9AV × q9ET) = p9 := Option.some.inj hq9
      subst hp9
      exact ⟨⟨x2, rfl, by rw [nt2]; exact rg0.1, by rw [nt2]; exact rg0.2⟩, (q9th_tX (T := T) (N := N) (P := P) (J := J) (t0 := t0) (Sc := Sc) (q9evS u0) (q9evZ u_) (q9evS u2) (by rw [q9FF_1109, nt2]; exact (by show some (q9wsI T N 9 x0.toInt) = _; rw [q9ws_ne (t := 9) 1 (by decide) hne])) (by decide)).trans (congrArg some (q9evS u2))⟩
    | k9 + 1, hq9 => exact nomatch (show (none : Option (Nat × q9AV × q9AV × q9ET)) = some p9 from hq9)
theorem q9ru_wb9_1 (hT : ∀ i, 0 ≤ T i ∧ T i ≤ 255) (hN : 0 ≤ N ∧ N ≤ 400) (hSc : 0 ≤ Sc 1 ∧ Sc 1 ≤ 400 → N = Sc 1) : q9ruOK (fO T N P J t0 Sc) q9R_wb9_1 := by
  intro w w0 hA hX hL hV hR
  obtain ⟨x0, ae0, -, -⟩ := hA 0 0 rfl
  obtain ⟨x1, ae1, -, -⟩ := hA 1 0 rfl
  have kz : (0 : Int32).toInt = 0 := rfl
  have k109 : (Int32.ofInt 109).toInt = 109 := q9oI_toInt (by decide)
  have X0 := q9th_pX (T := T) (N := N) (P := P) (J := J) (t0 := t0) (Sc := Sc) (op := 1000) (q9evO ae0 1) (q9evZ w0) (q9evS ae1) (hX _ (List.mem_of_getElem? (i := 0) rfl)) (by decide)
  rw [q9FF_1000] at X0
  have H0 := Option.some.inj X0
  try simp only [kz, k109] at H0
  have L0 : (Int32.ofInt 109).toInt ≤ x1.toInt + 0 := q9pC (q9evC w0 109) (q9evS ae1) (hL _ (List.mem_of_getElem? (i := 0) rfl))
  have L1 : (0 : Int32).toInt ≤ x0.toInt + 0 := q9pC (q9evZ w0) (q9evS ae0) (hL _ (List.mem_of_getElem? (i := 1) rfl))
  have hne : q9byI T N (x0.toInt + ((1 : Nat) : Int)) ≠ 108 := by
    rw [show x0.toInt + ((1 : Nat) : Int) = x0.toInt + 1 from rfl]
    by_cases hb : x0.toInt + 1 ≤ 2147483647
    · rw [q9ad32 (x := x0) (d := 1) (by omega)] at H0
      omega
    · intro h
      have := q9byI_lt (T := T) (N := N) (i := x0.toInt + 1) (by omega)
      omega
  have rg0 : (0 : Int) ≤ 0 ∧ (0 : Int) ≤ 0 := by omega
  obtain ⟨x2, nt2⟩ : ∃ x : Int32, x.toInt = 0 := ⟨Int32.ofInt (0), q9oI_toInt (by omega)⟩
  have u_ : q9upN w 3 [.int x2] 0 = .int 0 := q9upN_of (by decide) w0
  have u0 : q9upN w 3 [.int x2] 1 = .int x0 := q9upN_of (by decide) ae0
  have u1 : q9upN w 3 [.int x2] 2 = .int x1 := q9upN_of (by decide) ae1
  have u2 : q9upN w 3 [.int x2] 3 = .int x2 := q9upN_at (by decide)
  refine ⟨[.int x2], fun i9 p9 hq9 => ?_, fun _ h => absurd h List.not_mem_nil, fun _ h => absurd h List.not_mem_nil⟩
  · match i9, hq9 with
    | 0, hq9 =>
      have hp9 : ((1109, (1, 0), (0, 0), (0, 0, 0)) : Nat × q9AV × q9AV × q9ET) = p9 := Option.some.inj hq9
      subst hp9
      exact ⟨⟨x2, rfl, by rw [nt2]; exact rg0.1, by rw [nt2]; exact rg0.2⟩, (q9th_tX (T := T) (N := N) (P := P) (J := J) (t0 := t0) (Sc := Sc) (q9evS u0) (q9evZ u_) (q9evS u2) (by rw [q9FF_1109, nt2]; exact (by show some (q9wsI T N 9 x0.toInt) = _; rw [q9ws_ne (t := 9) 1 (by decide) hne])) (by decide)).trans (congrArg some (q9evS u2))⟩
    | k9 + 1, hq9 => exact nomatch (show (none : Option (Nat × q9AV × q9AV × q9ET)) = some p9 from hq9)
theorem q9ru_wa9_2 (hT : ∀ i, 0 ≤ T i ∧ T i ≤ 255) (hN : 0 ≤ N ∧ N ≤ 400) (hSc : 0 ≤ Sc 1 ∧ Sc 1 ≤ 400 → N = Sc 1) : q9ruOK (fO T N P J t0 Sc) q9R_wa9_2 := by
  intro w w0 hA hX hL hV hR
  obtain ⟨x0, ae0, -, -⟩ := hA 0 0 rfl
  obtain ⟨x1, ae1, -, -⟩ := hA 1 0 rfl
  have kz : (0 : Int32).toInt = 0 := rfl
  have k110 : (Int32.ofInt 110).toInt = 110 := q9oI_toInt (by decide)
  have X0 := q9th_pX (T := T) (N := N) (P := P) (J := J) (t0 := t0) (Sc := Sc) (op := 1000) (q9evO ae0 2) (q9evZ w0) (q9evS ae1) (hX _ (List.mem_of_getElem? (i := 0) rfl)) (by decide)
  rw [q9FF_1000] at X0
  have H0 := Option.some.inj X0
  try simp only [kz, k110] at H0
  have L0 : x1.toInt ≤ (Int32.ofInt 110).toInt + 0 := q9pC (q9evS ae1) (q9evC w0 110) (hL _ (List.mem_of_getElem? (i := 0) rfl))
  have L1 : (0 : Int32).toInt ≤ x0.toInt + 0 := q9pC (q9evZ w0) (q9evS ae0) (hL _ (List.mem_of_getElem? (i := 1) rfl))
  have hne : q9byI T N (x0.toInt + ((2 : Nat) : Int)) ≠ 111 := by
    rw [show x0.toInt + ((2 : Nat) : Int) = x0.toInt + 2 from rfl]
    by_cases hb : x0.toInt + 2 ≤ 2147483647
    · rw [q9ad32 (x := x0) (d := 2) (by omega)] at H0
      omega
    · intro h
      have := q9byI_lt (T := T) (N := N) (i := x0.toInt + 2) (by omega)
      omega
  have rg0 : (0 : Int) ≤ 0 ∧ (0 : Int) ≤ 0 := by omega
  obtain ⟨x2, nt2⟩ : ∃ x : Int32, x.toInt = 0 := ⟨Int32.ofInt (0), q9oI_toInt (by omega)⟩
  have u_ : q9upN w 3 [.int x2] 0 = .int 0 := q9upN_of (by decide) w0
  have u0 : q9upN w 3 [.int x2] 1 = .int x0 := q9upN_of (by decide) ae0
  have u1 : q9upN w 3 [.int x2] 2 = .int x1 := q9upN_of (by decide) ae1
  have u2 : q9upN w 3 [.int x2] 3 = .int x2 := q9upN_at (by decide)
  refine ⟨[.int x2], fun i9 p9 hq9 => ?_, fun _ h => absurd h List.not_mem_nil, fun _ h => absurd h List.not_mem_nil⟩
  · match i9, hq9 with
    | 0, hq9 =>
      have hp9 : ((1109, (1, 0), (0, 0), (0, 0, 0)) : Nat × q9AV × q9AV × q9ET) = p9 := Option.some.inj hq9
      subst hp9
      exact ⟨⟨x2, rfl, by rw [nt2]; exact rg0.1, by rw [nt2]; exact rg0.2⟩, (q9th_tX (T := T) (N := N) (P := P) (J := J) (t0 := t0) (Sc := Sc) (q9evS u0) (q9evZ u_) (q9evS u2) (by rw [q9FF_1109, nt2]; exact (by show some (q9wsI T N 9 x0.toInt) = _; rw [q9ws_ne (t := 9) 2 (by decide) hne])) (by decide)).trans (congrArg some (q9evS u2))⟩
    | k9 + 1, hq9 => exact nomatch (show (none : Option (Nat × q9AV × q9AV × q9ET)) = some p9 from hq9)
theorem q9ruP_3 (hT : ∀ i, 0 ≤ T i ∧ T i ≤ 255) (hN : 0 ≤ N ∧ N ≤ 400) (hSc : 0 ≤ Sc 1 ∧ Sc 1 ≤ 400 → N = Sc 1) : ∀ q ∈ q9RULES_3, q9ruOK (fO T N P J t0 Sc) q := List.forall_mem_cons.mpr ⟨q9ru_wa6_1 hT hN hSc, List.forall_mem_cons.mpr ⟨q9ru_wb6_1 hT hN hSc, List.forall_mem_cons.mpr ⟨q9ru_wa6_2 hT hN hSc, List.forall_mem_cons.mpr ⟨q9ru_wb6_2 hT hN hSc, List.forall_mem_cons.mpr ⟨q9ru_wa6_3 hT hN hSc, List.forall_mem_cons.mpr ⟨q9ru_wb6_3 hT hN hSc, List.forall_mem_cons.mpr ⟨q9ru_wa6_4 hT hN hSc, List.forall_mem_cons.mpr ⟨q9ru_wb6_4 hT hN hSc, List.forall_mem_cons.mpr ⟨q9ru_wa6_5 hT hN hSc, List.forall_mem_cons.mpr ⟨q9ru_wb6_5 hT hN hSc, List.forall_mem_cons.mpr ⟨q9ru_wy6 hT hN hSc, List.forall_mem_cons.mpr ⟨q9ru_wl7 hT hN hSc, List.forall_mem_cons.mpr ⟨q9ru_wm7 hT hN hSc, List.forall_mem_cons.mpr ⟨q9ru_wa7_0 hT hN hSc, List.forall_mem_cons.mpr ⟨q9ru_wb7_0 hT hN hSc, List.forall_mem_cons.mpr ⟨q9ru_wa7_1 hT hN hSc, List.forall_mem_cons.mpr ⟨q9ru_wb7_1 hT hN hSc, List.forall_mem_cons.mpr ⟨q9ru_wa7_2 hT hN hSc, List.forall_mem_cons.mpr ⟨q9ru_wb7_2 hT hN hSc, List.forall_mem_cons.mpr ⟨q9ru_wa7_3 hT hN hSc, List.forall_mem_cons.mpr ⟨q9ru_wb7_3 hT hN hSc, List.forall_mem_cons.mpr ⟨q9ru_wa7_4 hT hN hSc, List.forall_mem_cons.mpr ⟨q9ru_wb7_4 hT hN hSc, List.forall_mem_cons.mpr ⟨q9ru_wa7_5 hT hN hSc, List.forall_mem_cons.mpr ⟨q9ru_wb7_5 hT hN hSc, List.forall_mem_cons.mpr ⟨q9ru_wy7 hT hN hSc, List.forall_mem_cons.mpr ⟨q9ru_wl8 hT hN hSc, List.forall_mem_cons.mpr ⟨q9ru_wm8 hT hN hSc, List.forall_mem_cons.mpr ⟨q9ru_wa8_0 hT hN hSc, List.forall_mem_cons.mpr ⟨q9ru_wb8_0 hT hN hSc, List.forall_mem_cons.mpr ⟨q9ru_wa8_1 hT hN hSc, List.forall_mem_cons.mpr ⟨q9ru_wb8_1 hT hN hSc, List.forall_mem_cons.mpr ⟨q9ru_wy8 hT hN hSc, List.forall_mem_cons.mpr ⟨q9ru_wl9 hT hN hSc, List.forall_mem_cons.mpr ⟨q9ru_wm9 hT hN hSc, List.forall_mem_cons.mpr ⟨q9ru_wa9_0 hT hN hSc, List.forall_mem_cons.mpr ⟨q9ru_wb9_0 hT hN hSc, List.forall_mem_cons.mpr ⟨q9ru_wa9_1 hT hN hSc, List.forall_mem_cons.mpr ⟨q9ru_wb9_1 hT hN hSc, List.forall_mem_cons.mpr ⟨q9ru_wa9_2 hT hN hSc, fun _ h => absurd h List.not_mem_nil⟩⟩⟩⟩⟩⟩⟩⟩⟩⟩⟩⟩⟩⟩⟩⟩⟩⟩⟩⟩⟩⟩⟩⟩⟩⟩⟩⟩⟩⟩⟩⟩⟩⟩⟩⟩⟩⟩⟩⟩
end RUL
