section RUL
variable {T : Int → Int} {N P : Int} {J : Int → Int} {t0 : Int} {Sc : Int → Int}
theorem q9ru_wl18 (hT : ∀ i, 0 ≤ T i ∧ T i ≤ 255) (hN : 0 ≤ N ∧ N ≤ 400) (hSc : 0 ≤ Sc 1 ∧ Sc 1 ≤ 400 → N = Sc 1) : q9ruOK (fO T N P J t0 Sc) q9R_wl18 := by
  intro w w0 hA hX hL hV hR
  obtain ⟨x0, ae0, -, -⟩ := hA 0 0 rfl
  obtain ⟨x1, ae1, -, -⟩ := hA 1 0 rfl
  obtain ⟨x2, ae2, -, -⟩ := hA 2 0 rfl
  have kz : (0 : Int32).toInt = 0 := rfl
  have k4 : (Int32.ofInt 4).toInt = 4 := q9oI_toInt (by decide)
  have X0 := q9th_pX (T := T) (N := N) (P := P) (J := J) (t0 := t0) (Sc := Sc) (op := 1003) (q9evS ae0) (q9evZ w0) (q9evS ae1) (hX _ (List.mem_of_getElem? (i := 0) rfl)) (by decide)
  rw [q9FF_1003] at X0
  have H0 := Option.some.inj X0
  try simp only [kz, k4] at H0
  have X1 := q9pB (T := T) (N := N) (P := P) (J := J) (t0 := t0) (Sc := Sc) (q9evS ae1) (q9evS ae0) (q9evS ae2) (hX _ (List.mem_of_getElem? (i := 1) rfl))
  have L0 : x2.toInt ≤ (Int32.ofInt 4).toInt + 0 := q9pC (q9evS ae2) (q9evC w0 4) (hL _ (List.mem_of_getElem? (i := 0) rfl))
  have L1 : (0 : Int32).toInt ≤ x0.toInt + 0 := q9pC (q9evZ w0) (q9evS ae0) (hL _ (List.mem_of_getElem? (i := 1) rfl))
  have b1 := q9we_ge (T := T) (N := N) (i := x0.toInt)
  have b2 := q9we_le (T := T) (N := N) (i := x0.toInt)
  have d := q9su32 X1 (by omega)
  have rg0 : (0 : Int) ≤ 0 ∧ (0 : Int) ≤ 0 := by omega
  obtain ⟨x3, nt3⟩ : ∃ x : Int32, x.toInt = 0 := ⟨Int32.ofInt (0), q9oI_toInt (by omega)⟩
  have u_ : q9upN w 4 [.int x3] 0 = .int 0 := q9upN_of (by decide) w0
  have u0 : q9upN w 4 [.int x3] 1 = .int x0 := q9upN_of (by decide) ae0
  have u1 : q9upN w 4 [.int x3] 2 = .int x1 := q9upN_of (by decide) ae1
  have u2 : q9upN w 4 [.int x3] 3 = .int x2 := q9upN_of (by decide) ae2
  have u3 : q9upN w 4 [.int x3] 4 = .int x3 := q9upN_at (by decide)
  refine ⟨[.int x3], fun i9 p9 hq9 => ?_, fun _ h => absurd h List.not_mem_nil, fun _ h => absurd h List.not_mem_nil⟩
  · match i9, hq9 with
    | 0, hq9 =>
      have hp9 : ((1118, (1, 0), (0, 0), (0, 0, 0)) : Nat × q9AV × q9AV × q9ET) = p9 := Option.some.inj hq9
      subst hp9
      exact ⟨⟨x3, rfl, by rw [nt3]; exact rg0.1, by rw [nt3]; exact rg0.2⟩, (q9th_tX (T := T) (N := N) (P := P) (J := J) (t0 := t0) (Sc := Sc) (q9evS u0) (q9evZ u_) (q9evS u3) (by rw [q9FF_1118, nt3]; exact (by show some (q9wsI T N 18 x0.toInt) = _; rw [q9ws_len (t := 18) (by show _ ≠ ((5 : Nat) : Int); omega)])) (by decide)).trans (congrArg some (q9evS u3))⟩
    | k9 + 1, hq9 => exact nomatch (show (none : Option (Nat × q9AV × q9AV × q9ET)) = some p9 from hq9)
theorem q9ru_wm18 (hT : ∀ i, 0 ≤ T i ∧ T i ≤ 255) (hN : 0 ≤ N ∧ N ≤ 400) (hSc : 0 ≤ Sc 1 ∧ Sc 1 ≤ 400 → N = Sc 1) : q9ruOK (fO T N P J t0 Sc) q9R_wm18 := by
  intro w w0 hA hX hL hV hR
  obtain ⟨x0, ae0, -, -⟩ := hA 0 0 rfl
  obtain ⟨x1, ae1, -, -⟩ := hA 1 0 rfl
  obtain ⟨x2, ae2, -, -⟩ := hA 2 0 rfl
  have kz : (0 : Int32).toInt = 0 := rfl
  have k6 : (Int32.ofInt 6).toInt = 6 := q9oI_toInt (by decide)
  have X0 := q9th_pX (T := T) (N := N) (P := P) (J := J) (t0 := t0) (Sc := Sc) (op := 1003) (q9evS ae0) (q9evZ w0) (q9evS ae1) (hX _ (List.mem_of_getElem? (i := 0) rfl)) (by decide)
  rw [q9FF_1003] at X0
  have H0 := Option.some.inj X0
  try simp only [kz, k6] at H0
  have X1 := q9pB (T := T) (N := N) (P := P) (J := J) (t0 := t0) (Sc := Sc) (q9evS ae1) (q9evS ae0) (q9evS ae2) (hX _ (List.mem_of_getElem? (i := 1) rfl))
  have L0 : (Int32.ofInt 6).toInt ≤ x2.toInt + 0 := q9pC (q9evC w0 6) (q9evS ae2) (hL _ (List.mem_of_getElem? (i := 0) rfl))
  have L1 : (0 : Int32).toInt ≤ x0.toInt + 0 := q9pC (q9evZ w0) (q9evS ae0) (hL _ (List.mem_of_getElem? (i := 1) rfl))
  have b1 := q9we_ge (T := T) (N := N) (i := x0.toInt)
  have b2 := q9we_le (T := T) (N := N) (i := x0.toInt)
  have d := q9su32 X1 (by omega)
  have rg0 : (0 : Int) ≤ 0 ∧ (0 : Int) ≤ 0 := by omega
  obtain ⟨x3, nt3⟩ : ∃ x : Int32, x.toInt = 0 := ⟨Int32.ofInt (0), q9oI_toInt (by omega)⟩
  have u_ : q9upN w 4 [.int x3] 0 = .int 0 := q9upN_of (by decide) w0
  have u0 : q9upN w 4 [.int x3] 1 = .int x0 := q9upN_of (by decide) ae0
  have u1 : q9upN w 4 [.int x3] 2 = .int x1 := q9upN_of (by decide) ae1
  have u2 : q9upN w 4 [.int x3] 3 = .int x2 := q9upN_of (by decide) ae2
  have u3 : q9upN w 4 [.int x3] 4 = .int x3 := q9upN_at (by decide)
  refine ⟨[.int x3], fun i9 p9 hq9 => ?_, fun _ h => absurd h List.not_mem_nil, fun _ h => absurd h List.not_mem_nil⟩
  · match i9, hq9 with
    | 0, hq9 =>
      have hp9 : ((1118, (1, 0), (0, 0), (0, 0, 0)) : Nat × q9AV × q9AV × q9ET) = p9 := Option.some.inj hq9
      subst hp9
      exact ⟨⟨x3, rfl, by rw [nt3]; exact rg0.1, by rw [nt3]; exact rg0.2⟩, (q9th_tX (T := T) (N := N) (P := P) (J := J) (t0 := t0) (Sc := Sc) (q9evS u0) (q9evZ u_) (q9evS u3) (by rw [q9FF_1118, nt3]; exact (by show some (q9wsI T N 18 x0.toInt) = _; rw [q9ws_len (t := 18) (by show _ ≠ ((5 : Nat) : Int); omega)])) (by decide)).trans (congrArg some (q9evS u3))⟩
    | k9 + 1, hq9 => exact nomatch (show (none : Option (Nat × q9AV × q9AV × q9ET)) = some p9 from hq9)
theorem q9ru_wa18_0 (hT : ∀ i, 0 ≤ T i ∧ T i ≤ 255) (hN : 0 ≤ N ∧ N ≤ 400) (hSc : 0 ≤ Sc 1 ∧ Sc 1 ≤ 400 → N = Sc 1) : q9ruOK (fO T N P J t0 Sc) q9R_wa18_0 := by
  intro w w0 hA hX hL hV hR
  obtain ⟨x0, ae0, -, -⟩ := hA 0 0 rfl
  obtain ⟨x1, ae1, -, -⟩ := hA 1 0 rfl
  have kz : (0 : Int32).toInt = 0 := rfl
  have k115 : (Int32.ofInt 115).toInt = 115 := q9oI_toInt (by decide)
  have X0 := q9th_pX (T := T) (N := N) (P := P) (J := J) (t0 := t0) (Sc := Sc) (op := 1000) (q9evS ae0) (q9evZ w0) (q9evS ae1) (hX _ (List.mem_of_getElem? (i := 0) rfl)) (by decide)
  rw [q9FF_1000] at X0
  have H0 := Option.some.inj X0
  try simp only [kz, k115] at H0
  have L0 : x1.toInt ≤ (Int32.ofInt 115).toInt + 0 := q9pC (q9evS ae1) (q9evC w0 115) (hL _ (List.mem_of_getElem? (i := 0) rfl))
  have L1 : (0 : Int32).toInt ≤ x0.toInt + 0 := q9pC (q9evZ w0) (q9evS ae0) (hL _ (List.mem_of_getElem? (i := 1) rfl))
  have hne : q9byI T N (x0.toInt + ((0 : Nat) : Int)) ≠ 116 := by
    rw [show x0.toInt + ((0 : Nat) : Int) = x0.toInt by omega]
    omega
  have rg0 : (0 : Int) ≤ 0 ∧ (0 : Int) ≤ 0 := by omega
  obtain ⟨x2, nt2⟩ : ∃ x : Int32, x.toInt = 0 := ⟨Int32.ofInt (0), q9oI_toInt (by omega)⟩
  have u_ : q9upN w 3 [.int x2] 0 = .int 0 := q9upN_of (by decide) w0
  have u0 : q9upN w 3 [.int x2] 1 = .int x0 := q9upN_of (by decide) ae0
  have u1 : q9upN w 3 [.int x2] 2 = .int x1 := q9upN_of (by decide) ae1
  have u2 : q9upN w 3 [.int x2] 3 = .int x2 := q9upN_at (by decide)
  refine ⟨[.int x2], fun i9 p9 hq9 => ?_, fun _ h => absurd h List.not_mem_nil, fun _ h => absurd h List.not_mem_nil⟩
  · match i9, hq9 with
    | 0, hq9 =>
      have hp9 : ((1118, (1, 0), (0, 0), (0, 0, 0)) : Nat × q9AV × q9AV × q9ET) = p9 := Option.some.inj hq9
      subst hp9
      exact ⟨⟨x2, rfl, by rw [nt2]; exact rg0.1, by rw [nt2]; exact rg0.2⟩, (q9th_tX (T := T) (N := N) (P := P) (J := J) (t0 := t0) (Sc := Sc) (q9evS u0) (q9evZ u_) (q9evS u2) (by rw [q9FF_1118, nt2]; exact (by show some (q9wsI T N 18 x0.toInt) = _; rw [q9ws_ne (t := 18) 0 (by decide) hne])) (by decide)).trans (congrArg some (q9evS u2))⟩
    | k9 + 1, hq9 => exact nomatch (show (none : Option (Nat × q9AV × q9AV × q9ET)) = some p9 from hq9)
theorem q9ru_wb18_0 (hT : ∀ i, 0 ≤ T i ∧ T i ≤ 255) (hN : 0 ≤ N ∧ N ≤ 400) (hSc : 0 ≤ Sc 1 ∧ Sc 1 ≤ 400 → N = Sc 1) : q9ruOK (fO T N P J t0 Sc) q9R_wb18_0 := by
  intro w w0 hA hX hL hV hR
  obtain ⟨x0, ae0, -, -⟩ := hA 0 0 rfl
  obtain ⟨x1, ae1, -, -⟩ := hA 1 0 rfl
  have kz : (0 : Int32).toInt = 0 := rfl
  have k117 : (Int32.ofInt 117).toInt = 117 := q9oI_toInt (by decide)
  have X0 := q9th_pX (T := T) (N := N) (P := P) (J := J) (t0 := t0) (Sc := Sc) (op := 1000) (q9evS ae0) (q9evZ w0) (q9evS ae1) (hX _ (List.mem_of_getElem? (i := 0) rfl)) (by decide)
  rw [q9FF_1000] at X0
  have H0 := Option.some.inj X0
  try simp only [kz, k117] at H0
  have L0 : (Int32.ofInt 117).toInt ≤ x1.toInt + 0 := q9pC (q9evC w0 117) (q9evS ae1) (hL _ (List.mem_of_getElem? (i := 0) rfl))
  have L1 : (0 : Int32).toInt ≤ x0.toInt + 0 := q9pC (q9evZ w0) (q9evS ae0) (hL _ (List.mem_of_getElem? (i := 1) rfl))
  have hne : q9byI T N (x0.toInt + ((0 : Nat) : Int)) ≠ 116 := by
    rw [show x0.toInt + ((0 : Nat) : Int) = x0.toInt by omega]
    omega
  have rg0 : (0 : Int) ≤ 0 ∧ (0 : Int) ≤ 0 := by omega
  obtain ⟨x2, nt2⟩ : ∃ x : Int32, x.toInt = 0 := ⟨Int32.ofInt (0), q9oI_toInt (by omega)⟩
  have u_ : q9upN w 3 [.int x2] 0 = .int 0 := q9upN_of (by decide) w0
  have u0 : q9upN w 3 [.int x2] 1 = .int x0 := q9upN_of (by decide) ae0
  have u1 : q9upN w 3 [.int x2] 2 = .int x1 := q9upN_of (by decide) ae1
  have u2 : q9upN w 3 [.int x2] 3 = .int x2 := q9upN_at (by decide)
  refine ⟨[.int x2], fun i9 p9 hq9 => ?_, fun _ h => absurd h List.not_mem_nil, fun _ h => absurd h List.not_mem_nil⟩
  · match i9, hq9 with
    | 0, hq9 =>
      have hp9 : ((1118, (1, 0), (0, 0), (0, 0, 0)) : Nat × q9AV × q9AV × q9ET) = p9 := Option.some.inj hq9
      subst hp9
      exact ⟨⟨x2, rfl, by rw [nt2]; exact rg0.1, by rw [nt2]; exact rg0.2⟩, (q9th_tX (T := T) (N := N) (P := P) (J := J) (t0 := t0) (Sc := Sc) (q9evS u0) (q9evZ u_) (q9evS u2) (by rw [q9FF_1118, nt2]; exact (by show some (q9wsI T N 18 x0.toInt) = _; rw [q9ws_ne (t := 18) 0 (by decide) hne])) (by decide)).trans (congrArg some (q9evS u2))⟩
    | k9 + 1, hq9 => exact nomatch (show (none : Option (Nat × q9AV × q9AV × q9ET)) = some p9 from hq9)
theorem q9ru_wa18_1 (hT : ∀ i, 0 ≤ T i ∧ T i ≤ 255) (hN : 0 ≤ N ∧ N ≤ 400) (hSc : 0 ≤ Sc 1 ∧ Sc 1 ≤ 400 → N = Sc 1) : q9ruOK (fO T N P J t0 Sc) q9R_wa18_1 := by
  intro w w0 hA hX hL hV hR
  obtain ⟨x0, ae0, -, -⟩ := hA 0 0 rfl
  obtain ⟨x1, ae1, -, -⟩ := hA 1 0 rfl
  have kz : (0 : Int32).toInt = 0 := rfl
  have k113 : (Int32.ofInt 113).toInt = 113 := q9oI_toInt (by decide)
  have X0 := q9th_pX (T := T) (N := N) (P := P) (J := J) (t0 := t0) (Sc := Sc) (op := 1000) (q9evO ae0 1) (q9evZ w0) (q9evS ae1) (hX _ (List.mem_of_getElem? (i := 0) rfl)) (by decide)
  rw [q9FF_1000] at X0
  have H0 := Option.some.inj X0
  try simp only [kz, k113] at H0
  have L0 : x1.toInt ≤ (Int32.ofInt 113).toInt + 0 := q9pC (q9evS ae1) (q9evC w0 113) (hL _ (List.mem_of_getElem? (i := 0) rfl))
  have L1 : (0 : Int32).toInt ≤ x0.toInt + 0 := q9pC (q9evZ w0) (q9evS ae0) (hL _ (List.mem_of_getElem? (i := 1) rfl))
  have hne : q9byI T N (x0.toInt + ((1 : Nat) : Int)) ≠ 114 := by
    rw [show x0.toInt + ((1 : Nat) : Int) = x0.toInt + 1 from rfl]
    by_cases hb : x0.toInt + 1 ≤ 2147483647
    · rw [q9ad32 (x := x0) (d := 1) (by omega)] at H0
      omega
    · intro h
      have := q9byI_lt (T := T) (N := N) (i := x0.toInt + 1) (by omega)
      omega
  have rg0 : (0 : Int) ≤ 0 ∧ (0 : Int) ≤ 0 := by omega
  obtain ⟨x2, nt2⟩ : ∃ x : Int32, x.toInt = 0 := ⟨Int32.ofInt (0), q9oI_toInt (by omega)⟩
  have u_ : q9upN w 3 [.int x2] 0 = .int 0 := q9upN_of (by decide) w0
  have u0 : q9upN w 3 [.int x2] 1 = .int x0 := q9upN_of (by decide) ae0
  have u1 : q9upN w 3 [.int x2] 2 = .int x1 := q9upN_of (by decide) ae1
  have u2 : q9upN w 3 [.int x2] 3 = .int x2 := q9upN_at (by decide)
  refine ⟨[.int x2], fun i9 p9 hq9 => ?_, fun _ h => absurd h List.not_mem_nil, fun _ h => absurd h List.not_mem_nil⟩
  · match i9, hq9 with
    | 0, hq9 =>
      have hp9 : ((1118, (1, 0), (0, 0), (0, 0, 0)) : Nat × q9AV × q9AV × q9ET) = p9 := Option.some.inj hq9
      subst hp9
      exact ⟨⟨x2, rfl, by rw [nt2]; exact rg0.1, by rw [nt2]; exact rg0.2⟩, (q9th_tX (T := T) (N := N) (P := P) (J := J) (t0 := t0) (Sc := Sc) (q9evS u0) (q9evZ u_) (q9evS u2) (by rw [q9FF_1118, nt2]; exact (by show some (q9wsI T N 18 x0.toInt) = _; rw [q9ws_ne (t := 18) 1 (by decide) hne])) (by decide)).trans (congrArg some (q9evS u2))⟩
    | k9 + 1, hq9 => exact nomatch (show (none : Option (Nat × q9AV × q9AV × q9ET)) = some p9 from hq9)
theorem q9ru_wb18_1 (hT : ∀ i, 0 ≤ T i ∧ T i ≤ 255) (hN : 0 ≤ N ∧ N ≤ 400) (hSc : 0 ≤ Sc 1 ∧ Sc 1 ≤ 400 → N = Sc 1) : q9ruOK (fO T N P J t0 Sc) q9R_wb18_1 := by
  intro w w0 hA hX hL hV hR
  obtain ⟨x0, ae0, -, -⟩ := hA 0 0 rfl
  obtain ⟨x1, ae1, -, -⟩ := hA 1 0 rfl
  have kz : (0 : Int32).toInt = 0 := rfl
  have k115 : (Int32.ofInt 115).toInt = 115 := q9oI_toInt (by decide)
  have X0 := q9th_pX (T := T) (N := N) (P := P) (J := J) (t0 := t0) (Sc := Sc) (op := 1000) (q9evO ae0 1) (q9evZ w0) (q9evS ae1) (hX _ (List.mem_of_getElem? (i := 0) rfl)) (by decide)
  rw [q9FF_1000] at X0
  have H0 := Option.some.inj X0
  try simp only [kz, k115] at H0
  have L0 : (Int32.ofInt 115).toInt ≤ x1.toInt + 0 := q9pC (q9evC w0 115) (q9evS ae1) (hL _ (List.mem_of_getElem? (i := 0) rfl))
  have L1 : (0 : Int32).toInt ≤ x0.toInt + 0 := q9pC (q9evZ w0) (q9evS ae0) (hL _ (List.mem_of_getElem? (i := 1) rfl))
  have hne : q9byI T N (x0.toInt + ((1 : Nat) : Int)) ≠ 114 := by
    rw [show x0.toInt + ((1 : Nat) : Int) = x0.toInt + 1 from rfl]
    by_cases hb : x0.toInt + 1 ≤ 2147483647
    · rw [q9ad32 (x := x0) (d := 1) (by omega)] at H0
      omega
    · intro h
      have := q9byI_lt (T := T) (N := N) (i := x0.toInt + 1) (by omega)
      omega
  have rg0 : (0 : Int) ≤ 0 ∧ (0 : Int) ≤ 0 := by omega
  obtain ⟨x2, nt2⟩ : ∃ x : Int32, x.toInt = 0 := ⟨Int32.ofInt (0), q9oI_toInt (by omega)⟩
  have u_ : q9upN w 3 [.int x2] 0 = .int 0 := q9upN_of (by decide) w0
  have u0 : q9upN w 3 [.int x2] 1 = .int x0 := q9upN_of (by decide) ae0
  have u1 : q9upN w 3 [.int x2] 2 = .int x1 := q9upN_of (by decide) ae1
  have u2 : q9upN w 3 [.int x2] 3 = .int x2 := q9upN_at (by decide)
  refine ⟨[.int x2], fun i9 p9 hq9 => ?_, fun _ h => absurd h List.not_mem_nil, fun _ h => absurd h List.not_mem_nil⟩
  · match i9, hq9 with
    | 0, hq9 =>
      have hp9 : ((1118, (1, 0), (0, 0), (0, 0, 0)) : Nat × q9AV × q9AV × q9ET) = p9 := Option.some.inj hq9
      subst hp9
      exact ⟨⟨x2, rfl, by rw [nt2]; exact rg0.1, by rw [nt2]; exact rg0.2⟩, (q9th_tX (T := T) (N := N) (P := P) (J := J) (t0 := t0) (Sc := Sc) (q9evS u0) (q9evZ u_) (q9evS u2) (by rw [q9FF_1118, nt2]; exact (by show some (q9wsI T N 18 x0.toInt) = _; rw [q9ws_ne (t := 18) 1 (by decide) hne])) (by decide)).trans (congrArg some (q9evS u2))⟩
    | k9 + 1, hq9 => exact nomatch (show (none : Option (Nat × q9AV × q9AV × q9ET)) = some p9 from hq9)
theorem q9ru_wa18_2 (hT : ∀ i, 0 ≤ T i ∧ T i ≤ 255) (hN : 0 ≤ N ∧ N ≤ 400) (hSc : 0 ≤ Sc 1 ∧ Sc 1 ≤ 400 → N = Sc 1) : q9ruOK (fO T N P J t0 Sc) q9R_wa18_2 := by
  intro w w0 hA hX hL hV hR
  obtain ⟨x0, ae0, -, -⟩ := hA 0 0 rfl
  obtain ⟨x1, ae1, -, -⟩ := hA 1 0 rfl
  have kz : (0 : Int32).toInt = 0 := rfl
  have k96 : (Int32.ofInt 96).toInt = 96 := q9oI_toInt (by decide)
  have X0 := q9th_pX (T := T) (N := N) (P := P) (J := J) (t0 := t0) (Sc := Sc) (op := 1000) (q9evO ae0 2) (q9evZ w0) (q9evS ae1) (hX _ (List.mem_of_getElem? (i := 0) rfl)) (by decide)
  rw [q9FF_1000] at X0
  have H0 := Option.some.inj X0
  try simp only [kz, k96] at H0
  have L0 : x1.toInt ≤ (Int32.ofInt 96).toInt + 0 := q9pC (q9evS ae1) (q9evC w0 96) (hL _ (List.mem_of_getElem? (i := 0) rfl))
  have L1 : (0 : Int32).toInt ≤ x0.toInt + 0 := q9pC (q9evZ w0) (q9evS ae0) (hL _ (List.mem_of_getElem? (i := 1) rfl))
  have hne : q9byI T N (x0.toInt + ((2 : Nat) : Int)) ≠ 97 := by
    rw [show x0.toInt + ((2 : Nat) : Int) = x0.toInt + 2 from rfl]
    by_cases hb : x0.toInt + 2 ≤ 2147483647
    · rw [q9ad32 (x := x0) (d := 2) (by omega)] at H0
      omega
    · intro h
      have := q9byI_lt (T := T) (N := N) (i := x0.toInt + 2) (by omega)
      omega
  have rg0 : (0 : Int) ≤ 0 ∧ (0 : Int) ≤ 0 := by omega
  obtain ⟨x2, nt2⟩ : ∃ x : Int32, x.toInt = 0 := ⟨Int32.ofInt (0), q9oI_toInt (by omega)⟩
  have u_ : q9upN w 3 [.int x2] 0 = .int 0 := q9upN_of (by decide) w0
  have u0 : q9upN w 3 [.int x2] 1 = .int x0 := q9upN_of (by decide) ae0
  have u1 : q9upN w 3 [.int x2] 2 = .int x1 := q9upN_of (by decide) ae1
  have u2 : q9upN w 3 [.int x2] 3 = .int x2 := q9upN_at (by decide)
  refine ⟨[.int x2], fun i9 p9 hq9 => ?_, fun _ h => absurd h List.not_mem_nil, fun _ h => absurd h List.not_mem_nil⟩
  · match i9, hq9 with
    | 0, hq9 =>
      have hp9 : ((1118, (1, 0), (0, 0), (0, 0, 0)) : Nat × q9AV × q9AV × q9ET) = p9 := Option.some.inj hq9
      subst hp9
      exact ⟨⟨x2, rfl, by rw [nt2]; exact rg0.1, by rw [nt2]; exact rg0.2⟩, (q9th_tX (T := T) (N := N) (P := P) (J := J) (t0 := t0) (Sc := Sc) (q9evS u0) (q9evZ u_) (q9evS u2) (by rw [q9FF_1118, nt2]; exact (by show some (q9wsI T N 18 x0.toInt) = _; rw [q9ws_ne (t := 18) 2 (by decide) hne])) (by decide)).trans (congrArg some (q9evS u2))⟩
    | k9 + 1, hq9 => exact nomatch (show (none : Option (Nat × q9AV × q9AV × q9ET)) = some p9 from hq9)
theorem q9ru_wb18_2 (hT : ∀ i, 0 ≤ T i ∧ T i ≤ 255) (hN : 0 ≤ N ∧ N ≤ 400) (hSc : 0 ≤ Sc 1 ∧ Sc 1 ≤ 400 → N = Sc 1) : q9ruOK (fO T N P J t0 Sc) q9R_wb18_2 := by
  intro w w0 hA hX hL hV hR
  obtain ⟨x0, ae0, -, -⟩ := hA 0 0 rfl
  obtain ⟨x1, ae1, -, -⟩ := hA 1 0 rfl
  have kz : (0 : Int32).toInt = 0 := rfl
  have k98 : (Int32.ofInt 98).toInt = 98 := q9oI_toInt (by decide)
  have X0 := q9th_pX (T := T) (N := N) (P := P) (J := J) (t0 := t0) (Sc := Sc) (op := 1000) (q9evO ae0 2) (q9evZ w0) (q9evS ae1) (hX _ (List.mem_of_getElem? (i := 0) rfl)) (by decide)
  rw [q9FF_1000] at X0
  have H0 := Option.some.inj X0
  try simp only [kz, k98] at H0
  have L0 : (Int32.ofInt 98).toInt ≤ x1.toInt + 0 := q9pC (q9evC w0 98) (q9evS ae1) (hL _ (List.mem_of_getElem? (i := 0) rfl))
  have L1 : (0 : Int32).toInt ≤ x0.toInt + 0 := q9pC (q9evZ w0) (q9evS ae0) (hL _ (List.mem_of_getElem? (i := 1) rfl))
  have hne : q9byI T N (x0.toInt + ((2 : Nat) : Int)) ≠ 97 := by
    rw [show x0.toInt + ((2 : Nat) : Int) = x0.toInt + 2 from rfl]
    by_cases hb : x0.toInt + 2 ≤ 2147483647
    · rw [q9ad32 (x := x0) (d := 2) (by omega)] at H0
      omega
    · intro h
      have := q9byI_lt (T := T) (N := N) (i := x0.toInt + 2) (by omega)
      omega
  have rg0 : (0 : Int) ≤ 0 ∧ (0 : Int) ≤ 0 := by omega
  obtain ⟨x2, nt2⟩ : ∃ x : Int32, x.toInt = 0 := ⟨Int32.ofInt (0), q9oI_toInt (by omega)⟩
  have u_ : q9upN w 3 [.int x2] 0 = .int 0 := q9upN_of (by decide) w0
  have u0 : q9upN w 3 [.int x2] 1 = .int x0 := q9upN_of (by decide) ae0
  have u1 : q9upN w 3 [.int x2] 2 = .int x1 := q9upN_of (by decide) ae1
  have u2 : q9upN w 3 [.int x2] 3 = .int x2 := q9upN_at (by decide)
  refine ⟨[.int x2], fun i9 p9 hq9 => ?_, fun _ h => absurd h List.not_mem_nil, fun _ h => absurd h List.not_mem_nil⟩
  · match i9, hq9 with
    | 0, hq9 =>
      have hp9 : ((1118, (1, 0), (0, 0), (0, 0, 0)) : Nat × q9AV × q9AV × q9ET) = p9 := Option.some.inj hq9
      subst hp9
      exact ⟨⟨x2, rfl, by rw [nt2]; exact rg0.1, by rw [nt2]; exact rg0.2⟩, (q9th_tX (T := T) (N := N) (P := P) (J := J) (t0 := t0) (Sc := Sc) (q9evS u0) (q9evZ u_) (q9evS u2) (by rw [q9FF_1118, nt2]; exact (by show some (q9wsI T N 18 x0.toInt) = _; rw [q9ws_ne (t := 18) 2 (by decide) hne])) (by decide)).trans (congrArg some (q9evS u2))⟩
    | k9 + 1, hq9 => exact nomatch (show (none : Option (Nat × q9AV × q9AV × q9ET)) = some p9 from hq9)
theorem q9ru_wa18_3 (hT : ∀ i, 0 ≤ T i ∧ T i ≤ 255) (hN : 0 ≤ N ∧ N ≤ 400) (hSc : 0 ≤ Sc 1 ∧ Sc 1 ≤ 400 → N = Sc 1) : q9ruOK (fO T N P J t0 Sc) q9R_wa18_3 := by
  intro w w0 hA hX hL hV hR
  obtain ⟨x0, ae0, -, -⟩ := hA 0 0 rfl
  obtain ⟨x1, ae1, -, -⟩ := hA 1 0 rfl
  have kz : (0 : Int32).toInt = 0 := rfl
  have k98 : (Int32.ofInt 98).toInt = 98 := q9oI_toInt (by decide)
  have X0 := q9th_pX (T := T) (N := N) (P := P) (J := J) (t0 := t0) (Sc := Sc) (op := 1000) (q9evO ae0 3) (q9evZ w0) (q9evS ae1) (hX _ (List.mem_of_getElem? (i := 0) rfl)) (by decide)
  rw [q9FF_1000] at X0
  have H0 := Option.some.inj X0
  try simp only [kz, k98] at H0
  have L0 : x1.toInt ≤ (Int32.ofInt 98).toInt + 0 := q9pC (q9evS ae1) (q9evC w0 98) (hL _ (List.mem_of_getElem? (i := 0) rfl))
  have L1 : (0 : Int32).toInt ≤ x0.toInt + 0 := q9pC (q9evZ w0) (q9evS ae0) (hL _ (List.mem_of_getElem? (i := 1) rfl))
  have hne : q9byI T N (x0.toInt + ((3 : Nat) : Int)) ≠ 99 := by
    rw [show x0.toInt + ((3 : Nat) : Int) = x0.toInt + 3 from rfl]
    by_cases hb : x0.toInt + 3 ≤ 2147483647
    · rw [q9ad32 (x := x0) (d := 3) (by omega)] at H0
      omega
    · intro h
      have := q9byI_lt (T := T) (N := N) (i := x0.toInt + 3) (by omega)
      omega
  have rg0 : (0 : Int) ≤ 0 ∧ (0 : Int) ≤ 0 := by omega
  obtain ⟨x2, nt2⟩ : ∃ x : Int32, x.toInt = 0 := ⟨Int32.ofInt (0), q9oI_toInt (by omega)⟩
  have u_ : q9upN w 3 [.int x2] 0 = .int 0 := q9upN_of (by decide) w0
  have u0 : q9upN w 3 [.int x2] 1 = .int x0 := q9upN_of (by decide) ae0
  have u1 : q9upN w 3 [.int x2] 2 = .int x1 := q9upN_of (by decide) ae1
  have u2 : q9upN w 3 [.int x2] 3 = .int x2 := q9upN_at (by decide)
  refine ⟨[.int x2], fun i9 p9 hq9 => ?_, fun _ h => absurd h List.not_mem_nil, fun _ h => absurd h List.not_mem_nil⟩
  · match i9, hq9 with
    | 0, hq9 =>
      have hp9 : ((1118, (1, 0), (0, 0), (0, 0, 0)) : Nat × q9AV × q9AV × q9ET) = p9 := Option.some.inj hq9
      subst hp9
      exact ⟨⟨x2, rfl, by rw [nt2]; exact rg0.1, by rw [nt2]; exact rg0.2⟩, (q9th_tX (T := T) (N := N) (P := P) (J := J) (t0 := t0) (Sc := Sc) (q9evS u0) (q9evZ u_) (q9evS u2) (by rw [q9FF_1118, nt2]; exact (by show some (q9wsI T N 18 x0.toInt) = _; rw [q9ws_ne (t := 18) 3 (by decide) hne])) (by decide)).trans (congrArg some (q9evS u2))⟩
    | k9 + 1, hq9 => exact nomatch (show (none : Option (Nat × q9AV × q9AV × q9ET)) = some p9 from hq9)
theorem q9ru_wb18_3 (hT : ∀ i, 0 ≤ T i ∧ T i ≤ 255) (hN : 0 ≤ N ∧ N ≤ 400) (hSc : 0 ≤ Sc 1 ∧ Sc 1 ≤ 400 → N = Sc 1) : q9ruOK (fO T N P J t0 Sc) q9R_wb18_3 := by
  intro w w0 hA hX hL hV hR
  obtain ⟨x0, ae0, -, -⟩ := hA 0 0 rfl
  obtain ⟨x1, ae1, -, -⟩ := hA 1 0 rfl
  have kz : (0 : Int32).toInt = 0 := rfl
  have k100 : (Int32.ofInt 100).toInt = 100 := q9oI_toInt (by decide)
  have X0 := q9th_pX (T := T) (N := N) (P := P) (J := J) (t0 := t0) (Sc := Sc) (op := 1000) (q9evO ae0 3) (q9evZ w0) (q9evS ae1) (hX _ (List.mem_of_getElem? (i := 0) rfl)) (by decide)
  rw [q9FF_1000] at X0
  have H0 := Option.some.inj X0
  try simp only [kz, k100] at H0
  have L0 : (Int32.ofInt 100).toInt ≤ x1.toInt + 0 := q9pC (q9evC w0 100) (q9evS ae1) (hL _ (List.mem_of_getElem? (i := 0) rfl))
  have L1 : (0 : Int32).toInt ≤ x0.toInt + 0 := q9pC (q9evZ w0) (q9evS ae0) (hL _ (List.mem_of_getElem? (i := 1) rfl))
  have hne : q9byI T N (x0.toInt + ((3 : Nat) : Int)) ≠ 99 := by
    rw [show x0.toInt + ((3 : Nat) : Int) = x0.toInt + 3 from rfl]
    by_cases hb : x0.toInt + 3 ≤ 2147483647
    · rw [q9ad32 (x := x0) (d := 3) (by omega)] at H0
      omega
    · intro h
      have := q9byI_lt (T := T) (N := N) (i := x0.toInt + 3) (by omega)
      omega
  have rg0 : (0 : Int) ≤ 0 ∧ (0 : Int) ≤ 0 := by omega
  obtain ⟨x2, nt2⟩ : ∃ x : Int32, x.toInt = 0 := ⟨Int32.ofInt (0), q9oI_toInt (by omega)⟩
  have u_ : q9upN w 3 [.int x2] 0 = .int 0 := q9upN_of (by decide) w0
  have u0 : q9upN w 3 [.int x2] 1 = .int x0 := q9upN_of (by decide) ae0
  have u1 : q9upN w 3 [.int x2] 2 = .int x1 := q9upN_of (by decide) ae1
  have u2 : q9upN w 3 [.int x2] 3 = .int x2 := q9upN_at (by decide)
  refine ⟨[.int x2], fun i9 p9 hq9 => ?_, fun _ h => absurd h List.not_mem_nil, fun _ h => absurd h List.not_mem_nil⟩
  · match i9, hq9 with
    | 0, hq9 =>
      have hp9 : ((1118, (1, 0), (0, 0), (0, 0, 0)) : Nat × q9AV × q9AV × q9ET) = p9 := Option.some.inj hq9
      subst hp9
      exact ⟨⟨x2, rfl, by rw [nt2]; exact rg0.1, by rw [nt2]; exact rg0.2⟩, (q9th_tX (T := T) (N := N) (P := P) (J := J) (t0 := t0) (Sc := Sc) (q9evS u0) (q9evZ u_) (q9evS u2) (by rw [q9FF_1118, nt2]; exact (by show some (q9wsI T N 18 x0.toInt) = _; rw [q9ws_ne (t := 18) 3 (by decide) hne])) (by decide)).trans (congrArg some (q9evS u2))⟩
    | k9 + 1, hq9 => exact nomatch (show (none : Option (Nat × q9AV × q9AV × q9ET)) = some p9 from hq9)
theorem q9ru_wa18_4 (hT : ∀ i, 0 ≤ T i ∧ T i ≤ 255) (hN : 0 ≤ N ∧ N ≤ 400) (hSc : 0 ≤ Sc 1 ∧ Sc 1 ≤ 400 → N = Sc 1) : q9ruOK (fO T N P J t0 Sc) q9R_wa18_4 := by
  intro w w0 hA hX hL hV hR
  obtain ⟨x0, ae0, -, -⟩ := hA 0 0 rfl
  obtain ⟨x1, ae1, -, -⟩ := hA 1 0 rfl
  have kz : (0 : Int32).toInt = 0 := rfl
  have k106 : (Int32.ofInt 106).toInt = 106 := q9oI_toInt (by decide)
  have X0 := q9th_pX (T := T) (N := N) (P := P) (J := J) (t0 := t0) (Sc := Sc) (op := 1000) (q9evO ae0 4) (q9evZ w0) (q9evS ae1) (hX _ (List.mem_of_getElem? (i := 0) rfl)) (by decide)
  rw [q9FF_1000] at X0
  have H0 := Option.some.inj X0
  try simp only [kz, k106] at H0
  have L0 : x1.toInt ≤ (Int32.ofInt 106).toInt + 0 := q9pC (q9evS ae1) (q9evC w0 106) (hL _ (List.mem_of_getElem? (i := 0) rfl))
  have L1 : (0 : Int32).toInt ≤ x0.toInt + 0 := q9pC (q9evZ w0) (q9evS ae0) (hL _ (List.mem_of_getElem? (i := 1) rfl))
  have hne : q9byI T N (x0.toInt + ((4 : Nat) : Int)) ≠ 107 := by
    rw [show x0.toInt + ((4 : Nat) : Int) = x0.toInt + 4 from rfl]
    by_cases hb : x0.toInt + 4 ≤ 2147483647
    · rw [q9ad32 (x := x0) (d := 4) (by omega)] at H0
      omega
    · intro h
      have := q9byI_lt (T := T) (N := N) (i := x0.toInt + 4) (by omega)
      omega
  have rg0 : (0 : Int) ≤ 0 ∧ (0 : Int) ≤ 0 := by omega
  obtain ⟨x2, nt2⟩ : ∃ x : Int32, x.toInt = 0 := ⟨Int32.ofInt (0), q9oI_toInt (by omega)⟩
  have u_ : q9upN w 3 [.int x2] 0 = .int 0 := q9upN_of (by decide) w0
  have u0 : q9upN w 3 [.int x2] 1 = .int x0 := q9upN_of (by decide) ae0
  have u1 : q9upN w 3 [.int x2] 2 = .int x1 := q9upN_of (by decide) ae1
  have u2 : q9upN w 3 [.int x2] 3 = .int x2 := q9upN_at (by decide)
  refine ⟨[.int x2], fun i9 p9 hq9 => ?_, fun _ h => absurd h List.not_mem_nil, fun _ h => absurd h List.not_mem_nil⟩
  · match i9, hq9 with
    | 0, hq9 =>
      have hp9 : ((1118, (1, 0), (0, 0), (0, 0, 0)) : Nat × q9AV × q9AV × q9ET) = p9 := Option.some.inj hq9
      subst hp9
      exact ⟨⟨x2, rfl, by rw [nt2]; exact rg0.1, by rw [nt2]; exact rg0.2⟩, (q9th_tX (T := T) (N := N) (P := P) (J := J) (t0 := t0) (Sc := Sc) (q9evS u0) (q9evZ u_) (q9evS u2) (by rw [q9FF_1118, nt2]; exact (by show some (q9wsI T N 18 x0.toInt) = _; rw [q9ws_ne (t := 18) 4 (by decide) hne])) (by decide)).trans (congrArg some (q9evS u2))⟩
    | k9 + 1, hq9 => exact nomatch (show (none : Option (Nat × q9AV × q9AV × q9ET)) = some p9 from hq9)
theorem q9ru_wb18_4 (hT : ∀ i, 0 ≤ T i ∧ T i ≤ 255) (hN : 0 ≤ N ∧ N ≤ 400) (hSc : 0 ≤ Sc 1 ∧ Sc 1 ≤ 400 → N = Sc 1) : q9ruOK (fO T N P J t0 Sc) q9R_wb18_4 := by
  intro w w0 hA hX hL hV hR
  obtain ⟨x0, ae0, -, -⟩ := hA 0 0 rfl
  obtain ⟨x1, ae1, -, -⟩ := hA 1 0 rfl
  have kz : (0 : Int32).toInt = 0 := rfl
  have k108 : (Int32.ofInt 108).toInt = 108 := q9oI_toInt (by decide)
  have X0 := q9th_pX (T := T) (N := N) (P := P) (J := J) (t0 := t0) (Sc := Sc) (op := 1000) (q9evO ae0 4) (q9evZ w0) (q9evS ae1) (hX _ (List.mem_of_getElem? (i := 0) rfl)) (by decide)
  rw [q9FF_1000] at X0
  have H0 := Option.some.inj X0
  try simp only [kz, k108] at H0
  have L0 : (Int32.ofInt 108).toInt ≤ x1.toInt + 0 := q9pC (q9evC w0 108) (q9evS ae1) (hL _ (List.mem_of_getElem? (i := 0) rfl))
  have L1 : (0 : Int32).toInt ≤ x0.toInt + 0 := q9pC (q9evZ w0) (q9evS ae0) (hL _ (List.mem_of_getElem? (i := 1) rfl))
  have hne : q9byI T N (x0.toInt + ((4 : Nat) : Int)) ≠ 107 := by
    rw [show x0.toInt + ((4 : Nat) : Int) = x0.toInt + 4 from rfl]
    by_cases hb : x0.toInt + 4 ≤ 2147483647
    · rw [q9ad32 (x := x0) (d := 4) (by omega)] at H0
      omega
    · intro h
      have := q9byI_lt (T := T) (N := N) (i := x0.toInt + 4) (by omega)
      omega
  have rg0 : (0 : Int) ≤ 0 ∧ (0 : Int) ≤ 0 := by omega
  obtain ⟨x2, nt2⟩ : ∃ x : Int32, x.toInt = 0 := ⟨Int32.ofInt (0), q9oI_toInt (by omega)⟩
  have u_ : q9upN w 3 [.int x2] 0 = .int 0 := q9upN_of (by decide) w0
  have u0 : q9upN w 3 [.int x2] 1 = .int x0 := q9upN_of (by decide) ae0
  have u1 : q9upN w 3 [.int x2] 2 = .int x1 := q9upN_of (by decide) ae1
  have u2 : q9upN w 3 [.int x2] 3 = .int x2 := q9upN_at (by decide)
  refine ⟨[.int x2], fun i9 p9 hq9 => ?_, fun _ h => absurd h List.not_mem_nil, fun _ h => absurd h List.not_mem_nil⟩
  · match i9, hq9 with
    | 0, hq9 =>
      have hp9 : ((1118, (1, 0), (0, 0), (0, 0, 0)) : Nat × q9AV × q9AV × q9ET) = p9 := Option.some.inj hq9
      subst hp9
      exact ⟨⟨x2, rfl, by rw [nt2]; exact rg0.1, by rw [nt2]; exact rg0.2⟩, (q9th_tX (T := T) (N := N) (P := P) (J := J) (t0 := t0) (Sc := Sc) (q9evS u0) (q9evZ u_) (q9evS u2) (by rw [q9FF_1118, nt2]; exact (by show some (q9wsI T N 18 x0.toInt) = _; rw [q9ws_ne (t := 18) 4 (by decide) hne])) (by decide)).trans (congrArg some (q9evS u2))⟩
    | k9 + 1, hq9 => exact nomatch (show (none : Option (Nat × q9AV × q9AV × q9ET)) = some p9 from hq9)
theorem q9ru_wy18 (hT : ∀ i, 0 ≤ T i ∧ T i ≤ 255) (hN : 0 ≤ N ∧ N ≤ 400) (hSc : 0 ≤ Sc 1 ∧ Sc 1 ≤ 400 → N = Sc 1) : q9ruOK (fO T N P J t0 Sc) q9R_wy18 := by
  intro w w0 hA hX hL hV hR
  obtain ⟨x0, ae0, -, -⟩ := hA 0 0 rfl
  obtain ⟨x1, ae1, -, -⟩ := hA 1 0 rfl
  obtain ⟨x2, ae2, -, -⟩ := hA 2 0 rfl
  obtain ⟨x3, ae3, -, -⟩ := hA 3 0 rfl
  obtain ⟨x4, ae4, -, -⟩ := hA 4 0 rfl
  obtain ⟨x5, ae5, -, -⟩ := hA 5 0 rfl
  obtain ⟨x6, ae6, -, -⟩ := hA 6 0 rfl
  obtain ⟨x7, ae7, -, -⟩ := hA 7 0 rfl
  have kz : (0 : Int32).toInt = 0 := rfl
  have k5 : (Int32.ofInt 5).toInt = 5 := q9oI_toInt (by decide)
  have k97 : (Int32.ofInt 97).toInt = 97 := q9oI_toInt (by decide)
  have k99 : (Int32.ofInt 99).toInt = 99 := q9oI_toInt (by decide)
  have k107 : (Int32.ofInt 107).toInt = 107 := q9oI_toInt (by decide)
  have k114 : (Int32.ofInt 114).toInt = 114 := q9oI_toInt (by decide)
  have k116 : (Int32.ofInt 116).toInt = 116 := q9oI_toInt (by decide)
  have X0 := q9th_pX (T := T) (N := N) (P := P) (J := J) (t0 := t0) (Sc := Sc) (op := 1003) (q9evS ae0) (q9evZ w0) (q9evS ae1) (hX _ (List.mem_of_getElem? (i := 0) rfl)) (by decide)
  rw [q9FF_1003] at X0
  have H0 := Option.some.inj X0
  try simp only [kz, k5, k97, k99, k107, k114, k116] at H0
  have X1 := q9pB (T := T) (N := N) (P := P) (J := J) (t0 := t0) (Sc := Sc) (q9evS ae1) (q9evS ae0) (q9evS ae2) (hX _ (List.mem_of_getElem? (i := 1) rfl))
  have L0 : (Int32.ofInt 5).toInt ≤ x2.toInt + 0 := q9pC (q9evC w0 5) (q9evS ae2) (hL _ (List.mem_of_getElem? (i := 0) rfl))
  have L1 : x2.toInt ≤ (Int32.ofInt 5).toInt + 0 := q9pC (q9evS ae2) (q9evC w0 5) (hL _ (List.mem_of_getElem? (i := 1) rfl))
  have L2 : (0 : Int32).toInt ≤ x0.toInt + 0 := q9pC (q9evZ w0) (q9evS ae0) (hL _ (List.mem_of_getElem? (i := 2) rfl))
  have X2 := q9th_pX (T := T) (N := N) (P := P) (J := J) (t0 := t0) (Sc := Sc) (op := 1000) (q9evS ae0) (q9evZ w0) (q9evS ae3) (hX _ (List.mem_of_getElem? (i := 2) rfl)) (by decide)
  rw [q9FF_1000] at X2
  have H2 := Option.some.inj X2
  try simp only [kz, k5, k97, k99, k107, k114, k116] at H2
  have L3 : (Int32.ofInt 116).toInt ≤ x3.toInt + 0 := q9pC (q9evC w0 116) (q9evS ae3) (hL _ (List.mem_of_getElem? (i := 3) rfl))
  have L4 : x3.toInt ≤ (Int32.ofInt 116).toInt + 0 := q9pC (q9evS ae3) (q9evC w0 116) (hL _ (List.mem_of_getElem? (i := 4) rfl))
  have X3 := q9th_pX (T := T) (N := N) (P := P) (J := J) (t0 := t0) (Sc := Sc) (op := 1000) (q9evO ae0 1) (q9evZ w0) (q9evS ae4) (hX _ (List.mem_of_getElem? (i := 3) rfl)) (by decide)
  rw [q9FF_1000] at X3
  have H3 := Option.some.inj X3
  try simp only [kz, k5, k97, k99, k107, k114, k116] at H3
  have L5 : (Int32.ofInt 114).toInt ≤ x4.toInt + 0 := q9pC (q9evC w0 114) (q9evS ae4) (hL _ (List.mem_of_getElem? (i := 5) rfl))
  have L6 : x4.toInt ≤ (Int32.ofInt 114).toInt + 0 := q9pC (q9evS ae4) (q9evC w0 114) (hL _ (List.mem_of_getElem? (i := 6) rfl))
  have X4 := q9th_pX (T := T) (N := N) (P := P) (J := J) (t0 := t0) (Sc := Sc) (op := 1000) (q9evO ae0 2) (q9evZ w0) (q9evS ae5) (hX _ (List.mem_of_getElem? (i := 4) rfl)) (by decide)
  rw [q9FF_1000] at X4
  have H4 := Option.some.inj X4
  try simp only [kz, k5, k97, k99, k107, k114, k116] at H4
  have L7 : (Int32.ofInt 97).toInt ≤ x5.toInt + 0 := q9pC (q9evC w0 97) (q9evS ae5) (hL _ (List.mem_of_getElem? (i := 7) rfl))
  have L8 : x5.toInt ≤ (Int32.ofInt 97).toInt + 0 := q9pC (q9evS ae5) (q9evC w0 97) (hL _ (List.mem_of_getElem? (i := 8) rfl))
  have X5 := q9th_pX (T := T) (N := N) (P := P) (J := J) (t0 := t0) (Sc := Sc) (op := 1000) (q9evO ae0 3) (q9evZ w0) (q9evS ae6) (hX _ (List.mem_of_getElem? (i := 5) rfl)) (by decide)
  rw [q9FF_1000] at X5
  have H5 := Option.some.inj X5
  try simp only [kz, k5, k97, k99, k107, k114, k116] at H5
  have L9 : (Int32.ofInt 99).toInt ≤ x6.toInt + 0 := q9pC (q9evC w0 99) (q9evS ae6) (hL _ (List.mem_of_getElem? (i := 9) rfl))
  have L10 : x6.toInt ≤ (Int32.ofInt 99).toInt + 0 := q9pC (q9evS ae6) (q9evC w0 99) (hL _ (List.mem_of_getElem? (i := 10) rfl))
  have X6 := q9th_pX (T := T) (N := N) (P := P) (J := J) (t0 := t0) (Sc := Sc) (op := 1000) (q9evO ae0 4) (q9evZ w0) (q9evS ae7) (hX _ (List.mem_of_getElem? (i := 6) rfl)) (by decide)
  rw [q9FF_1000] at X6
  have H6 := Option.some.inj X6
  try simp only [kz, k5, k97, k99, k107, k114, k116] at H6
  have L11 : (Int32.ofInt 107).toInt ≤ x7.toInt + 0 := q9pC (q9evC w0 107) (q9evS ae7) (hL _ (List.mem_of_getElem? (i := 11) rfl))
  have L12 : x7.toInt ≤ (Int32.ofInt 107).toInt + 0 := q9pC (q9evS ae7) (q9evC w0 107) (hL _ (List.mem_of_getElem? (i := 12) rfl))
  have b1 := q9we_ge (T := T) (N := N) (i := x0.toInt)
  have b2 := q9we_le (T := T) (N := N) (i := x0.toInt)
  have d := q9su32 X1 (by omega)
  have z0 : q9byI T N (x0.toInt + ((0 : Nat) : Int)) = 116 := by rw [show x0.toInt + ((0 : Nat) : Int) = x0.toInt + 0 by omega, Int.add_zero]; omega
  have v1 := q9ad32 (x := x0) (d := 1) (by omega)
  rw [v1] at H3
  have z1 : q9byI T N (x0.toInt + ((1 : Nat) : Int)) = 114 := by rw [show x0.toInt + ((1 : Nat) : Int) = x0.toInt + 1 by omega]; omega
  have v2 := q9ad32 (x := x0) (d := 2) (by omega)
  rw [v2] at H4
  have z2 : q9byI T N (x0.toInt + ((2 : Nat) : Int)) = 97 := by rw [show x0.toInt + ((2 : Nat) : Int) = x0.toInt + 2 by omega]; omega
  have v3 := q9ad32 (x := x0) (d := 3) (by omega)
  rw [v3] at H5
  have z3 : q9byI T N (x0.toInt + ((3 : Nat) : Int)) = 99 := by rw [show x0.toInt + ((3 : Nat) : Int) = x0.toInt + 3 by omega]; omega
  have v4 := q9ad32 (x := x0) (d := 4) (by omega)
  rw [v4] at H6
  have z4 : q9byI T N (x0.toInt + ((4 : Nat) : Int)) = 107 := by rw [show x0.toInt + ((4 : Nat) : Int) = x0.toInt + 4 by omega]; omega
  have rg0 : (1 : Int) ≤ 1 ∧ (1 : Int) ≤ 1 := by omega
  obtain ⟨x8, nt8⟩ : ∃ x : Int32, x.toInt = 1 := ⟨Int32.ofInt (1), q9oI_toInt (by omega)⟩
  have u_ : q9upN w 9 [.int x8] 0 = .int 0 := q9upN_of (by decide) w0
  have u0 : q9upN w 9 [.int x8] 1 = .int x0 := q9upN_of (by decide) ae0
  have u1 : q9upN w 9 [.int x8] 2 = .int x1 := q9upN_of (by decide) ae1
  have u2 : q9upN w 9 [.int x8] 3 = .int x2 := q9upN_of (by decide) ae2
  have u3 : q9upN w 9 [.int x8] 4 = .int x3 := q9upN_of (by decide) ae3
  have u4 : q9upN w 9 [.int x8] 5 = .int x4 := q9upN_of (by decide) ae4
  have u5 : q9upN w 9 [.int x8] 6 = .int x5 := q9upN_of (by decide) ae5
  have u6 : q9upN w 9 [.int x8] 7 = .int x6 := q9upN_of (by decide) ae6
  have u7 : q9upN w 9 [.int x8] 8 = .int x7 := q9upN_of (by decide) ae7
  have u8 : q9upN w 9 [.int x8] 9 = .int x8 := q9upN_at (by decide)
  refine ⟨[.int x8], fun i9 p9 hq9 => ?_, fun _ h => absurd h List.not_mem_nil, fun _ h => absurd h List.not_mem_nil⟩
  · match i9, hq9 with
    | 0, hq9 =>
      have hp9 : ((1118, (1, 0), (0, 0), (0, 1, 1)) : Nat × q9AV × q9AV × q9ET) = p9 := Option.some.inj hq9
      subst hp9
      exact ⟨⟨x8, rfl, by rw [nt8]; exact rg0.1, by rw [nt8]; exact rg0.2⟩, (q9th_tX (T := T) (N := N) (P := P) (J := J) (t0 := t0) (Sc := Sc) (q9evS u0) (q9evZ u_) (q9evS u8) (by rw [q9FF_1118, nt8]; exact (show some (q9wsI T N 18 x0.toInt) = _ by rw [q9ws_yes (t := 18) (by show _ = ((5 : Nat) : Int); omega) (fun j hj => match j, hj with | 0, _ => z0 | 1, _ => z1 | 2, _ => z2 | 3, _ => z3 | 4, _ => z4 | k + 5, hj => absurd hj (by show ¬ (k + 5 < 5); omega))])) (by decide)).trans (congrArg some (q9evS u8))⟩
    | k9 + 1, hq9 => exact nomatch (show (none : Option (Nat × q9AV × q9AV × q9ET)) = some p9 from hq9)
theorem q9ru_tn0 (hT : ∀ i, 0 ≤ T i ∧ T i ≤ 255) (hN : 0 ≤ N ∧ N ≤ 400) (hSc : 0 ≤ Sc 1 ∧ Sc 1 ≤ 400 → N = Sc 1) : q9ruOK (fO T N P J t0 Sc) q9R_tn0 := by
  intro w w0 hA hX hL hV hR
  obtain ⟨x0, ae0, -, -⟩ := hA 0 0 rfl
  obtain ⟨x1, ae1, -, -⟩ := hA 1 0 rfl
  obtain ⟨x2, ae2, -, -⟩ := hA 2 0 rfl
  obtain ⟨x3, ae3, -, -⟩ := hA 3 0 rfl
  have kz : (0 : Int32).toInt = 0 := rfl
  have k1 : (Int32.ofInt 1).toInt = 1 := q9oI_toInt (by decide)
  have k200 : (Int32.ofInt 200).toInt = 200 := q9oI_toInt (by decide)
  have X0 := q9th_pX (T := T) (N := N) (P := P) (J := J) (t0 := t0) (Sc := Sc) (op := 1002) (q9evS ae0) (q9evZ w0) (q9evS ae1) (hX _ (List.mem_of_getElem? (i := 0) rfl)) (by decide)
  rw [q9FF_1002] at X0
  have H0 := Option.some.inj X0
  try simp only [kz, k1, k200] at H0
  have X1 := q9th_pX (T := T) (N := N) (P := P) (J := J) (t0 := t0) (Sc := Sc) (op := 1004) (q9evS ae1) (q9evZ w0) (q9evS ae2) (hX _ (List.mem_of_getElem? (i := 1) rfl)) (by decide)
  rw [q9FF_1004] at X1
  have H1 := Option.some.inj X1
  try simp only [kz, k1, k200] at H1
  have L0 : (0 : Int32).toInt ≤ x0.toInt + 0 := q9pC (q9evZ w0) (q9evS ae0) (hL _ (List.mem_of_getElem? (i := 0) rfl))
  have L1 : (0 : Int32).toInt ≤ x1.toInt + 0 := q9pC (q9evZ w0) (q9evS ae1) (hL _ (List.mem_of_getElem? (i := 1) rfl))
  have X2 := q9th_pX (T := T) (N := N) (P := P) (J := J) (t0 := t0) (Sc := Sc) (op := 1005) (q9evS ae1) (q9evZ w0) (q9evS ae3) (hX _ (List.mem_of_getElem? (i := 2) rfl)) (by decide)
  rw [q9FF_1005] at X2
  have H2 := Option.some.inj X2
  try simp only [kz, k1, k200] at H2
  have L2 : x1.toInt ≤ x2.toInt + (-1) := q9pC (q9evS ae1) (q9evS ae2) (hL _ (List.mem_of_getElem? (i := 2) rfl))
  have L3 : (Int32.ofInt 1).toInt ≤ x3.toInt + 0 := q9pC (q9evC w0 1) (q9evS ae3) (hL _ (List.mem_of_getElem? (i := 3) rfl))
  have L4 : x3.toInt ≤ (Int32.ofInt 200).toInt + 0 := q9pC (q9evS ae3) (q9evC w0 200) (hL _ (List.mem_of_getElem? (i := 4) rfl))
  have tk : q9tkN T N 1 200 x0.toInt = (0, x2.toInt) := q9tkN_0 H0 H1 H2 (by omega) (by omega) (by omega)
  have rg0 : (0 : Int) ≤ 0 ∧ (0 : Int) ≤ 0 := by omega
  obtain ⟨x4, nt4⟩ : ∃ x : Int32, x.toInt = 0 := ⟨Int32.ofInt (0), q9oI_toInt (by omega)⟩
  have u_ : q9upN w 5 [.int x4] 0 = .int 0 := q9upN_of (by decide) w0
  have u0 : q9upN w 5 [.int x4] 1 = .int x0 := q9upN_of (by decide) ae0
  have u1 : q9upN w 5 [.int x4] 2 = .int x1 := q9upN_of (by decide) ae1
  have u2 : q9upN w 5 [.int x4] 3 = .int x2 := q9upN_of (by decide) ae2
  have u3 : q9upN w 5 [.int x4] 4 = .int x3 := q9upN_of (by decide) ae3
  have u4 : q9upN w 5 [.int x4] 5 = .int x4 := q9upN_at (by decide)
  refine ⟨[.int x4], fun i9 p9 hq9 => ?_, List.forall_mem_cons.mpr ⟨?_, fun _ h => absurd h List.not_mem_nil⟩, fun _ h => absurd h List.not_mem_nil⟩
  · match i9, hq9 with
    | 0, hq9 =>
      have hp9 : ((1200, (1, 0), (0, 0), (0, 0, 0)) : Nat × q9AV × q9AV × q9ET) = p9 := Option.some.inj hq9
      subst hp9
      exact ⟨⟨x4, rfl, by rw [nt4]; exact rg0.1, by rw [nt4]; exact rg0.2⟩, (q9th_tX (T := T) (N := N) (P := P) (J := J) (t0 := t0) (Sc := Sc) (q9evS u0) (q9evZ u_) (q9evS u4) (by rw [q9FF_1200, nt4]; exact (show some (q9tkN T N 1 200 x0.toInt).1 = _ by rw [tk])) (by decide)).trans (congrArg some (q9evS u4))⟩
    | k9 + 1, hq9 => exact nomatch (show (none : Option (Nat × q9AV × q9AV × q9ET)) = some p9 from hq9)
  · exact q9th_tX (T := T) (N := N) (P := P) (J := J) (t0 := t0) (Sc := Sc) (q9evS u0) (q9evZ u_) (q9evS u2) (by rw [q9FF_1201]; exact (show some (q9tkN T N 1 200 x0.toInt).2 = _ by rw [tk])) (by decide)
theorem q9ru_tf0 (hT : ∀ i, 0 ≤ T i ∧ T i ≤ 255) (hN : 0 ≤ N ∧ N ≤ 400) (hSc : 0 ≤ Sc 1 ∧ Sc 1 ≤ 400 → N = Sc 1) : q9ruOK (fO T N P J t0 Sc) q9R_tf0 := by
  intro w w0 hA hX hL hV hR
  obtain ⟨x0, ae0, -, -⟩ := hA 0 0 rfl
  obtain ⟨x1, ae1, -, -⟩ := hA 1 0 rfl
  obtain ⟨x2, ae2, -, -⟩ := hA 2 0 rfl
  obtain ⟨x3, ae3, -, -⟩ := hA 3 0 rfl
  have kz : (0 : Int32).toInt = 0 := rfl
  have X0 := q9th_pX (T := T) (N := N) (P := P) (J := J) (t0 := t0) (Sc := Sc) (op := 1002) (q9evS ae0) (q9evZ w0) (q9evS ae1) (hX _ (List.mem_of_getElem? (i := 0) rfl)) (by decide)
  rw [q9FF_1002] at X0
  have H0 := Option.some.inj X0
  try simp only [kz] at H0
  have X1 := q9th_pX (T := T) (N := N) (P := P) (J := J) (t0 := t0) (Sc := Sc) (op := 1004) (q9evS ae1) (q9evZ w0) (q9evS ae2) (hX _ (List.mem_of_getElem? (i := 1) rfl)) (by decide)
  rw [q9FF_1004] at X1
  have H1 := Option.some.inj X1
  try simp only [kz] at H1
  have L0 : (0 : Int32).toInt ≤ x0.toInt + 0 := q9pC (q9evZ w0) (q9evS ae0) (hL _ (List.mem_of_getElem? (i := 0) rfl))
  have L1 : (0 : Int32).toInt ≤ x1.toInt + 0 := q9pC (q9evZ w0) (q9evS ae1) (hL _ (List.mem_of_getElem? (i := 1) rfl))
  have L2 : x2.toInt ≤ x1.toInt + 0 := q9pC (q9evS ae2) (q9evS ae1) (hL _ (List.mem_of_getElem? (i := 2) rfl))
  have tk : q9tkN T N 1 200 x0.toInt = (1, x1.toInt) := q9tkN_1 H0 H1 (by omega)
  have rg0 : (1 : Int) ≤ 1 ∧ (1 : Int) ≤ 1 := by omega
  obtain ⟨x4, nt4⟩ : ∃ x : Int32, x.toInt = 1 := ⟨Int32.ofInt (1), q9oI_toInt (by omega)⟩
  have u_ : q9upN w 5 [.int x4] 0 = .int 0 := q9upN_of (by decide) w0
  have u0 : q9upN w 5 [.int x4] 1 = .int x0 := q9upN_of (by decide) ae0
  have u1 : q9upN w 5 [.int x4] 2 = .int x1 := q9upN_of (by decide) ae1
  have u2 : q9upN w 5 [.int x4] 3 = .int x2 := q9upN_of (by decide) ae2
  have u3 : q9upN w 5 [.int x4] 4 = .int x3 := q9upN_of (by decide) ae3
  have u4 : q9upN w 5 [.int x4] 5 = .int x4 := q9upN_at (by decide)
  refine ⟨[.int x4], fun i9 p9 hq9 => ?_, List.forall_mem_cons.mpr ⟨?_, fun _ h => absurd h List.not_mem_nil⟩, fun _ h => absurd h List.not_mem_nil⟩
  · match i9, hq9 with
    | 0, hq9 =>
      have hp9 : ((1200, (1, 0), (0, 0), (0, 1, 1)) : Nat × q9AV × q9AV × q9ET) = p9 := Option.some.inj hq9
      subst hp9
      exact ⟨⟨x4, rfl, by rw [nt4]; exact rg0.1, by rw [nt4]; exact rg0.2⟩, (q9th_tX (T := T) (N := N) (P := P) (J := J) (t0 := t0) (Sc := Sc) (q9evS u0) (q9evZ u_) (q9evS u4) (by rw [q9FF_1200, nt4]; exact (show some (q9tkN T N 1 200 x0.toInt).1 = _ by rw [tk])) (by decide)).trans (congrArg some (q9evS u4))⟩
    | k9 + 1, hq9 => exact nomatch (show (none : Option (Nat × q9AV × q9AV × q9ET)) = some p9 from hq9)
  · exact q9th_tX (T := T) (N := N) (P := P) (J := J) (t0 := t0) (Sc := Sc) (q9evS u0) (q9evZ u_) (q9evS u1) (by rw [q9FF_1201]; exact (show some (q9tkN T N 1 200 x0.toInt).2 = _ by rw [tk])) (by decide)
theorem q9ru_tl0 (hT : ∀ i, 0 ≤ T i ∧ T i ≤ 255) (hN : 0 ≤ N ∧ N ≤ 400) (hSc : 0 ≤ Sc 1 ∧ Sc 1 ≤ 400 → N = Sc 1) : q9ruOK (fO T N P J t0 Sc) q9R_tl0 := by
  intro w w0 hA hX hL hV hR
  obtain ⟨x0, ae0, -, -⟩ := hA 0 0 rfl
  obtain ⟨x1, ae1, -, -⟩ := hA 1 0 rfl
  obtain ⟨x2, ae2, -, -⟩ := hA 2 0 rfl
  obtain ⟨x3, ae3, -, -⟩ := hA 3 0 rfl
  have kz : (0 : Int32).toInt = 0 := rfl
  have X0 := q9th_pX (T := T) (N := N) (P := P) (J := J) (t0 := t0) (Sc := Sc) (op := 1002) (q9evS ae0) (q9evZ w0) (q9evS ae1) (hX _ (List.mem_of_getElem? (i := 0) rfl)) (by decide)
  rw [q9FF_1002] at X0
  have H0 := Option.some.inj X0
  try simp only [kz] at H0
  have X1 := q9th_pX (T := T) (N := N) (P := P) (J := J) (t0 := t0) (Sc := Sc) (op := 1004) (q9evS ae1) (q9evZ w0) (q9evS ae2) (hX _ (List.mem_of_getElem? (i := 1) rfl)) (by decide)
  rw [q9FF_1004] at X1
  have H1 := Option.some.inj X1
  try simp only [kz] at H1
  have L0 : (0 : Int32).toInt ≤ x0.toInt + 0 := q9pC (q9evZ w0) (q9evS ae0) (hL _ (List.mem_of_getElem? (i := 0) rfl))
  have L1 : (0 : Int32).toInt ≤ x1.toInt + 0 := q9pC (q9evZ w0) (q9evS ae1) (hL _ (List.mem_of_getElem? (i := 1) rfl))
  have X2 := q9th_pX (T := T) (N := N) (P := P) (J := J) (t0 := t0) (Sc := Sc) (op := 1005) (q9evS ae1) (q9evZ w0) (q9evS ae3) (hX _ (List.mem_of_getElem? (i := 2) rfl)) (by decide)
  rw [q9FF_1005] at X2
  have H2 := Option.some.inj X2
  try simp only [kz] at H2
  have L2 : x1.toInt ≤ x2.toInt + (-1) := q9pC (q9evS ae1) (q9evS ae2) (hL _ (List.mem_of_getElem? (i := 2) rfl))
  have L3 : x3.toInt ≤ (0 : Int32).toInt + 0 := q9pC (q9evS ae3) (q9evZ w0) (hL _ (List.mem_of_getElem? (i := 3) rfl))
  have tk : q9tkN T N 1 200 x0.toInt = (2, x1.toInt) := q9tkN_2 H0 H1 H2 (by omega) (by omega)
  have rg0 : (2 : Int) ≤ 2 ∧ (2 : Int) ≤ 2 := by omega
  obtain ⟨x4, nt4⟩ : ∃ x : Int32, x.toInt = 2 := ⟨Int32.ofInt (2), q9oI_toInt (by omega)⟩
  have u_ : q9upN w 5 [.int x4] 0 = .int 0 := q9upN_of (by decide) w0
  have u0 : q9upN w 5 [.int x4] 1 = .int x0 := q9upN_of (by decide) ae0
  have u1 : q9upN w 5 [.int x4] 2 = .int x1 := q9upN_of (by decide) ae1
  have u2 : q9upN w 5 [.int x4] 3 = .int x2 := q9upN_of (by decide) ae2
  have u3 : q9upN w 5 [.int x4] 4 = .int x3 := q9upN_of (by decide) ae3
  have u4 : q9upN w 5 [.int x4] 5 = .int x4 := q9upN_at (by decide)
  refine ⟨[.int x4], fun i9 p9 hq9 => ?_, List.forall_mem_cons.mpr ⟨?_, fun _ h => absurd h List.not_mem_nil⟩, fun _ h => absurd h List.not_mem_nil⟩
  · match i9, hq9 with
    | 0, hq9 =>
      have hp9 : ((1200, (1, 0), (0, 0), (0, 2, 2)) : Nat × q9AV × q9AV × q9ET) = p9 := Option.some.inj hq9
      subst hp9
      exact ⟨⟨x4, rfl, by rw [nt4]; exact rg0.1, by rw [nt4]; exact rg0.2⟩, (q9th_tX (T := T) (N := N) (P := P) (J := J) (t0 := t0) (Sc := Sc) (q9evS u0) (q9evZ u_) (q9evS u4) (by rw [q9FF_1200, nt4]; exact (show some (q9tkN T N 1 200 x0.toInt).1 = _ by rw [tk])) (by decide)).trans (congrArg some (q9evS u4))⟩
    | k9 + 1, hq9 => exact nomatch (show (none : Option (Nat × q9AV × q9AV × q9ET)) = some p9 from hq9)
  · exact q9th_tX (T := T) (N := N) (P := P) (J := J) (t0 := t0) (Sc := Sc) (q9evS u0) (q9evZ u_) (q9evS u1) (by rw [q9FF_1201]; exact (show some (q9tkN T N 1 200 x0.toInt).2 = _ by rw [tk])) (by decide)
theorem q9ru_th0 (hT : ∀ i, 0 ≤ T i ∧ T i ≤ 255) (hN : 0 ≤ N ∧ N ≤ 400) (hSc : 0 ≤ Sc 1 ∧ Sc 1 ≤ 400 → N = Sc 1) : q9ruOK (fO T N P J t0 Sc) q9R_th0 := by
  intro w w0 hA hX hL hV hR
  obtain ⟨x0, ae0, -, -⟩ := hA 0 0 rfl
  obtain ⟨x1, ae1, -, -⟩ := hA 1 0 rfl
  obtain ⟨x2, ae2, -, -⟩ := hA 2 0 rfl
  obtain ⟨x3, ae3, -, -⟩ := hA 3 0 rfl
  have kz : (0 : Int32).toInt = 0 := rfl
  have k200 : (Int32.ofInt 200).toInt = 200 := q9oI_toInt (by decide)
  have X0 := q9th_pX (T := T) (N := N) (P := P) (J := J) (t0 := t0) (Sc := Sc) (op := 1002) (q9evS ae0) (q9evZ w0) (q9evS ae1) (hX _ (List.mem_of_getElem? (i := 0) rfl)) (by decide)
  rw [q9FF_1002] at X0
  have H0 := Option.some.inj X0
  try simp only [kz, k200] at H0
  have X1 := q9th_pX (T := T) (N := N) (P := P) (J := J) (t0 := t0) (Sc := Sc) (op := 1004) (q9evS ae1) (q9evZ w0) (q9evS ae2) (hX _ (List.mem_of_getElem? (i := 1) rfl)) (by decide)
  rw [q9FF_1004] at X1
  have H1 := Option.some.inj X1
  try simp only [kz, k200] at H1
  have L0 : (0 : Int32).toInt ≤ x0.toInt + 0 := q9pC (q9evZ w0) (q9evS ae0) (hL _ (List.mem_of_getElem? (i := 0) rfl))
  have L1 : (0 : Int32).toInt ≤ x1.toInt + 0 := q9pC (q9evZ w0) (q9evS ae1) (hL _ (List.mem_of_getElem? (i := 1) rfl))
  have X2 := q9th_pX (T := T) (N := N) (P := P) (J := J) (t0 := t0) (Sc := Sc) (op := 1005) (q9evS ae1) (q9evZ w0) (q9evS ae3) (hX _ (List.mem_of_getElem? (i := 2) rfl)) (by decide)
  rw [q9FF_1005] at X2
  have H2 := Option.some.inj X2
  try simp only [kz, k200] at H2
  have L2 : x1.toInt ≤ x2.toInt + (-1) := q9pC (q9evS ae1) (q9evS ae2) (hL _ (List.mem_of_getElem? (i := 2) rfl))
  have L3 : (Int32.ofInt 200).toInt ≤ x3.toInt + (-1) := q9pC (q9evC w0 200) (q9evS ae3) (hL _ (List.mem_of_getElem? (i := 3) rfl))
  have tk : q9tkN T N 1 200 x0.toInt = (2, x1.toInt) := q9tkN_2 H0 H1 H2 (by omega) (by omega)
  have rg0 : (2 : Int) ≤ 2 ∧ (2 : Int) ≤ 2 := by omega
  obtain ⟨x4, nt4⟩ : ∃ x : Int32, x.toInt = 2 := ⟨Int32.ofInt (2), q9oI_toInt (by omega)⟩
  have u_ : q9upN w 5 [.int x4] 0 = .int 0 := q9upN_of (by decide) w0
  have u0 : q9upN w 5 [.int x4] 1 = .int x0 := q9upN_of (by decide) ae0
  have u1 : q9upN w 5 [.int x4] 2 = .int x1 := q9upN_of (by decide) ae1
  have u2 : q9upN w 5 [.int x4] 3 = .int x2 := q9upN_of (by decide) ae2
  have u3 : q9upN w 5 [.int x4] 4 = .int x3 := q9upN_of (by decide) ae3
  have u4 : q9upN w 5 [.int x4] 5 = .int x4 := q9upN_at (by decide)
  refine ⟨[.int x4], fun i9 p9 hq9 => ?_, List.forall_mem_cons.mpr ⟨?_, fun _ h => absurd h List.not_mem_nil⟩, fun _ h => absurd h List.not_mem_nil⟩
  · match i9, hq9 with
    | 0, hq9 =>
      have hp9 : ((1200, (1, 0), (0, 0), (0, 2, 2)) : Nat × q9AV × q9AV × q9ET) = p9 := Option.some.inj hq9
      subst hp9
      exact ⟨⟨x4, rfl, by rw [nt4]; exact rg0.1, by rw [nt4]; exact rg0.2⟩, (q9th_tX (T := T) (N := N) (P := P) (J := J) (t0 := t0) (Sc := Sc) (q9evS u0) (q9evZ u_) (q9evS u4) (by rw [q9FF_1200, nt4]; exact (show some (q9tkN T N 1 200 x0.toInt).1 = _ by rw [tk])) (by decide)).trans (congrArg some (q9evS u4))⟩
    | k9 + 1, hq9 => exact nomatch (show (none : Option (Nat × q9AV × q9AV × q9ET)) = some p9 from hq9)
  · exact q9th_tX (T := T) (N := N) (P := P) (J := J) (t0 := t0) (Sc := Sc) (q9evS u0) (q9evZ u_) (q9evS u1) (by rw [q9FF_1201]; exact (show some (q9tkN T N 1 200 x0.toInt).2 = _ by rw [tk])) (by decide)
theorem q9ru_tn1 (hT : ∀ i, 0 ≤ T i ∧ T i ≤ 255) (hN : 0 ≤ N ∧ N ≤ 400) (hSc : 0 ≤ Sc 1 ∧ Sc 1 ≤ 400 → N = Sc 1) : q9ruOK (fO T N P J t0 Sc) q9R_tn1 := by
  intro w w0 hA hX hL hV hR
  obtain ⟨x0, ae0, -, -⟩ := hA 0 0 rfl
  obtain ⟨x1, ae1, -, -⟩ := hA 1 0 rfl
  obtain ⟨x2, ae2, -, -⟩ := hA 2 0 rfl
  obtain ⟨x3, ae3, -, -⟩ := hA 3 0 rfl
  have kz : (0 : Int32).toInt = 0 := rfl
  have k1 : (Int32.ofInt 1).toInt = 1 := q9oI_toInt (by decide)
  have k20 : (Int32.ofInt 20).toInt = 20 := q9oI_toInt (by decide)
  have X0 := q9th_pX (T := T) (N := N) (P := P) (J := J) (t0 := t0) (Sc := Sc) (op := 1002) (q9evS ae0) (q9evZ w0) (q9evS ae1) (hX _ (List.mem_of_getElem? (i := 0) rfl)) (by decide)
  rw [q9FF_1002] at X0
  have H0 := Option.some.inj X0
  try simp only [kz, k1, k20] at H0
  have X1 := q9th_pX (T := T) (N := N) (P := P) (J := J) (t0 := t0) (Sc := Sc) (op := 1004) (q9evS ae1) (q9evZ w0) (q9evS ae2) (hX _ (List.mem_of_getElem? (i := 1) rfl)) (by decide)
  rw [q9FF_1004] at X1
  have H1 := Option.some.inj X1
  try simp only [kz, k1, k20] at H1
  have L0 : (0 : Int32).toInt ≤ x0.toInt + 0 := q9pC (q9evZ w0) (q9evS ae0) (hL _ (List.mem_of_getElem? (i := 0) rfl))
  have L1 : (0 : Int32).toInt ≤ x1.toInt + 0 := q9pC (q9evZ w0) (q9evS ae1) (hL _ (List.mem_of_getElem? (i := 1) rfl))
  have X2 := q9th_pX (T := T) (N := N) (P := P) (J := J) (t0 := t0) (Sc := Sc) (op := 1005) (q9evS ae1) (q9evZ w0) (q9evS ae3) (hX _ (List.mem_of_getElem? (i := 2) rfl)) (by decide)
  rw [q9FF_1005] at X2
  have H2 := Option.some.inj X2
  try simp only [kz, k1, k20] at H2
  have L2 : x1.toInt ≤ x2.toInt + (-1) := q9pC (q9evS ae1) (q9evS ae2) (hL _ (List.mem_of_getElem? (i := 2) rfl))
  have L3 : (Int32.ofInt 1).toInt ≤ x3.toInt + 0 := q9pC (q9evC w0 1) (q9evS ae3) (hL _ (List.mem_of_getElem? (i := 3) rfl))
  have L4 : x3.toInt ≤ (Int32.ofInt 20).toInt + 0 := q9pC (q9evS ae3) (q9evC w0 20) (hL _ (List.mem_of_getElem? (i := 4) rfl))
  have tk : q9tkN T N 1 20 x0.toInt = (0, x2.toInt) := q9tkN_0 H0 H1 H2 (by omega) (by omega) (by omega)
  have rg0 : (0 : Int) ≤ 0 ∧ (0 : Int) ≤ 0 := by omega
  obtain ⟨x4, nt4⟩ : ∃ x : Int32, x.toInt = 0 := ⟨Int32.ofInt (0), q9oI_toInt (by omega)⟩
  have u_ : q9upN w 5 [.int x4] 0 = .int 0 := q9upN_of (by decide) w0
  have u0 : q9upN w 5 [.int x4] 1 = .int x0 := q9upN_of (by decide) ae0
  have u1 : q9upN w 5 [.int x4] 2 = .int x1 := q9upN_of (by decide) ae1
  have u2 : q9upN w 5 [.int x4] 3 = .int x2 := q9upN_of (by decide) ae2
  have u3 : q9upN w 5 [.int x4] 4 = .int x3 := q9upN_of (by decide) ae3
  have u4 : q9upN w 5 [.int x4] 5 = .int x4 := q9upN_at (by decide)
  refine ⟨[.int x4], fun i9 p9 hq9 => ?_, List.forall_mem_cons.mpr ⟨?_, fun _ h => absurd h List.not_mem_nil⟩, fun _ h => absurd h List.not_mem_nil⟩
  · match i9, hq9 with
    | 0, hq9 =>
      have hp9 : ((1202, (1, 0), (0, 0), (0, 0, 0)) : Nat × q9AV × q9AV × q9ET) = p9 := Option.some.inj hq9
      subst hp9
      exact ⟨⟨x4, rfl, by rw [nt4]; exact rg0.1, by rw [nt4]; exact rg0.2⟩, (q9th_tX (T := T) (N := N) (P := P) (J := J) (t0 := t0) (Sc := Sc) (q9evS u0) (q9evZ u_) (q9evS u4) (by rw [q9FF_1202, nt4]; exact (show some (q9tkN T N 1 20 x0.toInt).1 = _ by rw [tk])) (by decide)).trans (congrArg some (q9evS u4))⟩
    | k9 + 1, hq9 => exact nomatch (show (none : Option (Nat × q9AV × q9AV × q9ET)) = some p9 from hq9)
  · exact q9th_tX (T := T) (N := N) (P := P) (J := J) (t0 := t0) (Sc := Sc) (q9evS u0) (q9evZ u_) (q9evS u2) (by rw [q9FF_1203]; exact (show some (q9tkN T N 1 20 x0.toInt).2 = _ by rw [tk])) (by decide)
theorem q9ru_tf1 (hT : ∀ i, 0 ≤ T i ∧ T i ≤ 255) (hN : 0 ≤ N ∧ N ≤ 400) (hSc : 0 ≤ Sc 1 ∧ Sc 1 ≤ 400 → N = Sc 1) : q9ruOK (fO T N P J t0 Sc) q9R_tf1 := by
  intro w w0 hA hX hL hV hR
  obtain ⟨x0, ae0, -, -⟩ := hA 0 0 rfl
  obtain ⟨x1, ae1, -, -⟩ := hA 1 0 rfl
  obtain ⟨x2, ae2, -, -⟩ := hA 2 0 rfl
  obtain ⟨x3, ae3, -, -⟩ := hA 3 0 rfl
  have kz : (0 : Int32).toInt = 0 := rfl
  have X0 := q9th_pX (T := T) (N := N) (P := P) (J := J) (t0 := t0) (Sc := Sc) (op := 1002) (q9evS ae0) (q9evZ w0) (q9evS ae1) (hX _ (List.mem_of_getElem? (i := 0) rfl)) (by decide)
  rw [q9FF_1002] at X0
  have H0 := Option.some.inj X0
  try simp only [kz] at H0
  have X1 := q9th_pX (T := T) (N := N) (P := P) (J := J) (t0 := t0) (Sc := Sc) (op := 1004) (q9evS ae1) (q9evZ w0) (q9evS ae2) (hX _ (List.mem_of_getElem? (i := 1) rfl)) (by decide)
  rw [q9FF_1004] at X1
  have H1 := Option.some.inj X1
  try simp only [kz] at H1
  have L0 : (0 : Int32).toInt ≤ x0.toInt + 0 := q9pC (q9evZ w0) (q9evS ae0) (hL _ (List.mem_of_getElem? (i := 0) rfl))
  have L1 : (0 : Int32).toInt ≤ x1.toInt + 0 := q9pC (q9evZ w0) (q9evS ae1) (hL _ (List.mem_of_getElem? (i := 1) rfl))
  have L2 : x2.toInt ≤ x1.toInt + 0 := q9pC (q9evS ae2) (q9evS ae1) (hL _ (List.mem_of_getElem? (i := 2) rfl))
  have tk : q9tkN T N 1 20 x0.toInt = (1, x1.toInt) := q9tkN_1 H0 H1 (by omega)
  have rg0 : (1 : Int) ≤ 1 ∧ (1 : Int) ≤ 1 := by omega
  obtain ⟨x4, nt4⟩ : ∃ x : Int32, x.toInt = 1 := ⟨Int32.ofInt (1), q9oI_toInt (by omega)⟩
  have u_ : q9upN w 5 [.int x4] 0 = .int 0 := q9upN_of (by decide) w0
  have u0 : q9upN w 5 [.int x4] 1 = .int x0 := q9upN_of (by decide) ae0
  have u1 : q9upN w 5 [.int x4] 2 = .int x1 := q9upN_of (by decide) ae1
  have u2 : q9upN w 5 [.int x4] 3 = .int x2 := q9upN_of (by decide) ae2
  have u3 : q9upN w 5 [.int x4] 4 = .int x3 := q9upN_of (by decide) ae3
  have u4 : q9upN w 5 [.int x4] 5 = .int x4 := q9upN_at (by decide)
  refine ⟨[.int x4], fun i9 p9 hq9 => ?_, List.forall_mem_cons.mpr ⟨?_, fun _ h => absurd h List.not_mem_nil⟩, fun _ h => absurd h List.not_mem_nil⟩
  · match i9, hq9 with
    | 0, hq9 =>
      have hp9 : ((1202, (1, 0), (0, 0), (0, 1, 1)) : Nat × q9AV × q9AV × q9ET) = p9 := Option.some.inj hq9
      subst hp9
      exact ⟨⟨x4, rfl, by rw [nt4]; exact rg0.1, by rw [nt4]; exact rg0.2⟩, (q9th_tX (T := T) (N := N) (P := P) (J := J) (t0 := t0) (Sc := Sc) (q9evS u0) (q9evZ u_) (q9evS u4) (by rw [q9FF_1202, nt4]; exact (show some (q9tkN T N 1 20 x0.toInt).1 = _ by rw [tk])) (by decide)).trans (congrArg some (q9evS u4))⟩
    | k9 + 1, hq9 => exact nomatch (show (none : Option (Nat × q9AV × q9AV × q9ET)) = some p9 from hq9)
  · exact q9th_tX (T := T) (N := N) (P := P) (J := J) (t0 := t0) (Sc := Sc) (q9evS u0) (q9evZ u_) (q9evS u1) (by rw [q9FF_1203]; exact (show some (q9tkN T N 1 20 x0.toInt).2 = _ by rw [tk])) (by decide)
theorem q9ru_tl1 (hT : ∀ i, 0 ≤ T i ∧ T i ≤ 255) (hN : 0 ≤ N ∧ N ≤ 400) (hSc : 0 ≤ Sc 1 ∧ Sc 1 ≤ 400 → N = Sc 1) : q9ruOK (fO T N P J t0 Sc) q9R_tl1 := by
  intro w w0 hA hX hL hV hR
  obtain ⟨x0, ae0, -, -⟩ := hA 0 0 rfl
  obtain ⟨x1, ae1, -, -⟩ := hA 1 0 rfl
  obtain ⟨x2, ae2, -, -⟩ := hA 2 0 rfl
  obtain ⟨x3, ae3, -, -⟩ := hA 3 0 rfl
  have kz : (0 : Int32).toInt = 0 := rfl
  have X0 := q9th_pX (T := T) (N := N) (P := P) (J := J) (t0 := t0) (Sc := Sc) (op := 1002) (q9evS ae0) (q9evZ w0) (q9evS ae1) (hX _ (List.mem_of_getElem? (i := 0) rfl)) (by decide)
  rw [q9FF_1002] at X0
  have H0 := Option.some.inj X0
  try simp only [kz] at H0
  have X1 := q9th_pX (T := T) (N := N) (P := P) (J := J) (t0 := t0) (Sc := Sc) (op := 1004) (q9evS ae1) (q9evZ w0) (q9evS ae2) (hX _ (List.mem_of_getElem? (i := 1) rfl)) (by decide)
  rw [q9FF_1004] at X1
  have H1 := Option.some.inj X1
  try simp only [kz] at H1
  have L0 : (0 : Int32).toInt ≤ x0.toInt + 0 := q9pC (q9evZ w0) (q9evS ae0) (hL _ (List.mem_of_getElem? (i := 0) rfl))
  have L1 : (0 : Int32).toInt ≤ x1.toInt + 0 := q9pC (q9evZ w0) (q9evS ae1) (hL _ (List.mem_of_getElem? (i := 1) rfl))
  have X2 := q9th_pX (T := T) (N := N) (P := P) (J := J) (t0 := t0) (Sc := Sc) (op := 1005) (q9evS ae1) (q9evZ w0) (q9evS ae3) (hX _ (List.mem_of_getElem? (i := 2) rfl)) (by decide)
  rw [q9FF_1005] at X2
  have H2 := Option.some.inj X2
  try simp only [kz] at H2
  have L2 : x1.toInt ≤ x2.toInt + (-1) := q9pC (q9evS ae1) (q9evS ae2) (hL _ (List.mem_of_getElem? (i := 2) rfl))
  have L3 : x3.toInt ≤ (0 : Int32).toInt + 0 := q9pC (q9evS ae3) (q9evZ w0) (hL _ (List.mem_of_getElem? (i := 3) rfl))
  have tk : q9tkN T N 1 20 x0.toInt = (2, x1.toInt) := q9tkN_2 H0 H1 H2 (by omega) (by omega)
  have rg0 : (2 : Int) ≤ 2 ∧ (2 : Int) ≤ 2 := by omega
  obtain ⟨x4, nt4⟩ : ∃ x : Int32, x.toInt = 2 := ⟨Int32.ofInt (2), q9oI_toInt (by omega)⟩
  have u_ : q9upN w 5 [.int x4] 0 = .int 0 := q9upN_of (by decide) w0
  have u0 : q9upN w 5 [.int x4] 1 = .int x0 := q9upN_of (by decide) ae0
  have u1 : q9upN w 5 [.int x4] 2 = .int x1 := q9upN_of (by decide) ae1
  have u2 : q9upN w 5 [.int x4] 3 = .int x2 := q9upN_of (by decide) ae2
  have u3 : q9upN w 5 [.int x4] 4 = .int x3 := q9upN_of (by decide) ae3
  have u4 : q9upN w 5 [.int x4] 5 = .int x4 := q9upN_at (by decide)
  refine ⟨[.int x4], fun i9 p9 hq9 => ?_, List.forall_mem_cons.mpr ⟨?_, fun _ h => absurd h List.not_mem_nil⟩, fun _ h => absurd h List.not_mem_nil⟩
  · match i9, hq9 with
    | 0, hq9 =>
      have hp9 : ((1202, (1, 0), (0, 0), (0, 2, 2)) : Nat × q9AV × q9AV × q9ET) = p9 := Option.some.inj hq9
      subst hp9
      exact ⟨⟨x4, rfl, by rw [nt4]; exact rg0.1, by rw [nt4]; exact rg0.2⟩, (q9th_tX (T := T) (N := N) (P := P) (J := J) (t0 := t0) (Sc := Sc) (q9evS u0) (q9evZ u_) (q9evS u4) (by rw [q9FF_1202, nt4]; exact (show some (q9tkN T N 1 20 x0.toInt).1 = _ by rw [tk])) (by decide)).trans (congrArg some (q9evS u4))⟩
    | k9 + 1, hq9 => exact nomatch (show (none : Option (Nat × q9AV × q9AV × q9ET)) = some p9 from hq9)
  · exact q9th_tX (T := T) (N := N) (P := P) (J := J) (t0 := t0) (Sc := Sc) (q9evS u0) (q9evZ u_) (q9evS u1) (by rw [q9FF_1203]; exact (show some (q9tkN T N 1 20 x0.toInt).2 = _ by rw [tk])) (by decide)
theorem q9ru_th1 (hT : ∀ i, 0 ≤ T i ∧ T i ≤ 255) (hN : 0 ≤ N ∧ N ≤ 400) (hSc : 0 ≤ Sc 1 ∧ Sc 1 ≤ 400 → N = Sc 1) : q9ruOK (fO T N P J t0 Sc) q9R_th1 := by
  intro w w0 hA hX hL hV hR
  obtain ⟨x0, ae0, -, -⟩ := hA 0 0 rfl
  obtain ⟨x1, ae1, -, -⟩ := hA 1 0 rfl
  obtain ⟨x2, ae2, -, -⟩ := hA 2 0 rfl
  obtain ⟨x3, ae3, -, -⟩ := hA 3 0 rfl
  have kz : (0 : Int32).toInt = 0 := rfl
  have k20 : (Int32.ofInt 20).toInt = 20 := q9oI_toInt (by decide)
  have X0 := q9th_pX (T := T) (N := N) (P := P) (J := J) (t0 := t0) (Sc := Sc) (op := 1002) (q9evS ae0) (q9evZ w0) (q9evS ae1) (hX _ (List.mem_of_getElem? (i := 0) rfl)) (by decide)
  rw [q9FF_1002] at X0
  have H0 := Option.some.inj X0
  try simp only [kz, k20] at H0
  have X1 := q9th_pX (T := T) (N := N) (P := P) (J := J) (t0 := t0) (Sc := Sc) (op := 1004) (q9evS ae1) (q9evZ w0) (q9evS ae2) (hX _ (List.mem_of_getElem? (i := 1) rfl)) (by decide)
  rw [q9FF_1004] at X1
  have H1 := Option.some.inj X1
  try simp only [kz, k20] at H1
  have L0 : (0 : Int32).toInt ≤ x0.toInt + 0 := q9pC (q9evZ w0) (q9evS ae0) (hL _ (List.mem_of_getElem? (i := 0) rfl))
  have L1 : (0 : Int32).toInt ≤ x1.toInt + 0 := q9pC (q9evZ w0) (q9evS ae1) (hL _ (List.mem_of_getElem? (i := 1) rfl))
  have X2 := q9th_pX (T := T) (N := N) (P := P) (J := J) (t0 := t0) (Sc := Sc) (op := 1005) (q9evS ae1) (q9evZ w0) (q9evS ae3) (hX _ (List.mem_of_getElem? (i := 2) rfl)) (by decide)
  rw [q9FF_1005] at X2
  have H2 := Option.some.inj X2
  try simp only [kz, k20] at H2
  have L2 : x1.toInt ≤ x2.toInt + (-1) := q9pC (q9evS ae1) (q9evS ae2) (hL _ (List.mem_of_getElem? (i := 2) rfl))
  have L3 : (Int32.ofInt 20).toInt ≤ x3.toInt + (-1) := q9pC (q9evC w0 20) (q9evS ae3) (hL _ (List.mem_of_getElem? (i := 3) rfl))
  have tk : q9tkN T N 1 20 x0.toInt = (2, x1.toInt) := q9tkN_2 H0 H1 H2 (by omega) (by omega)
  have rg0 : (2 : Int) ≤ 2 ∧ (2 : Int) ≤ 2 := by omega
  obtain ⟨x4, nt4⟩ : ∃ x : Int32, x.toInt = 2 := ⟨Int32.ofInt (2), q9oI_toInt (by omega)⟩
  have u_ : q9upN w 5 [.int x4] 0 = .int 0 := q9upN_of (by decide) w0
  have u0 : q9upN w 5 [.int x4] 1 = .int x0 := q9upN_of (by decide) ae0
  have u1 : q9upN w 5 [.int x4] 2 = .int x1 := q9upN_of (by decide) ae1
  have u2 : q9upN w 5 [.int x4] 3 = .int x2 := q9upN_of (by decide) ae2
  have u3 : q9upN w 5 [.int x4] 4 = .int x3 := q9upN_of (by decide) ae3
  have u4 : q9upN w 5 [.int x4] 5 = .int x4 := q9upN_at (by decide)
  refine ⟨[.int x4], fun i9 p9 hq9 => ?_, List.forall_mem_cons.mpr ⟨?_, fun _ h => absurd h List.not_mem_nil⟩, fun _ h => absurd h List.not_mem_nil⟩
  · match i9, hq9 with
    | 0, hq9 =>
      have hp9 : ((1202, (1, 0), (0, 0), (0, 2, 2)) : Nat × q9AV × q9AV × q9ET) = p9 := Option.some.inj hq9
      subst hp9
      exact ⟨⟨x4, rfl, by rw [nt4]; exact rg0.1, by rw [nt4]; exact rg0.2⟩, (q9th_tX (T := T) (N := N) (P := P) (J := J) (t0 := t0) (Sc := Sc) (q9evS u0) (q9evZ u_) (q9evS u4) (by rw [q9FF_1202, nt4]; exact (show some (q9tkN T N 1 20 x0.toInt).1 = _ by rw [tk])) (by decide)).trans (congrArg some (q9evS u4))⟩
    | k9 + 1, hq9 => exact nomatch (show (none : Option (Nat × q9AV × q9AV × q9ET)) = some p9 from hq9)
  · exact q9th_tX (T := T) (N := N) (P := P) (J := J) (t0 := t0) (Sc := Sc) (q9evS u0) (q9evZ u_) (q9evS u1) (by rw [q9FF_1203]; exact (show some (q9tkN T N 1 20 x0.toInt).2 = _ by rw [tk])) (by decide)
theorem q9ru_tn2 (hT : ∀ i, 0 ≤ T i ∧ T i ≤ 255) (hN : 0 ≤ N ∧ N ≤ 400) (hSc : 0 ≤ Sc 1 ∧ Sc 1 ≤ 400 → N = Sc 1) : q9ruOK (fO T N P J t0 Sc) q9R_tn2 := by
  intro w w0 hA hX hL hV hR
  obtain ⟨x0, ae0, -, -⟩ := hA 0 0 rfl
  obtain ⟨x1, ae1, -, -⟩ := hA 1 0 rfl
  obtain ⟨x2, ae2, -, -⟩ := hA 2 0 rfl
  obtain ⟨x3, ae3, -, -⟩ := hA 3 0 rfl
  have kz : (0 : Int32).toInt = 0 := rfl
  have k1 : (Int32.ofInt 1).toInt = 1 := q9oI_toInt (by decide)
  have k400 : (Int32.ofInt 400).toInt = 400 := q9oI_toInt (by decide)
  have X0 := q9th_pX (T := T) (N := N) (P := P) (J := J) (t0 := t0) (Sc := Sc) (op := 1002) (q9evS ae0) (q9evZ w0) (q9evS ae1) (hX _ (List.mem_of_getElem? (i := 0) rfl)) (by decide)
  rw [q9FF_1002] at X0
  have H0 := Option.some.inj X0
  try simp only [kz, k1, k400] at H0
  have X1 := q9th_pX (T := T) (N := N) (P := P) (J := J) (t0 := t0) (Sc := Sc) (op := 1004) (q9evS ae1) (q9evZ w0) (q9evS ae2) (hX _ (List.mem_of_getElem? (i := 1) rfl)) (by decide)
  rw [q9FF_1004] at X1
  have H1 := Option.some.inj X1
  try simp only [kz, k1, k400] at H1
  have L0 : (0 : Int32).toInt ≤ x0.toInt + 0 := q9pC (q9evZ w0) (q9evS ae0) (hL _ (List.mem_of_getElem? (i := 0) rfl))
  have L1 : (0 : Int32).toInt ≤ x1.toInt + 0 := q9pC (q9evZ w0) (q9evS ae1) (hL _ (List.mem_of_getElem? (i := 1) rfl))
  have X2 := q9th_pX (T := T) (N := N) (P := P) (J := J) (t0 := t0) (Sc := Sc) (op := 1005) (q9evS ae1) (q9evZ w0) (q9evS ae3) (hX _ (List.mem_of_getElem? (i := 2) rfl)) (by decide)
  rw [q9FF_1005] at X2
  have H2 := Option.some.inj X2
  try simp only [kz, k1, k400] at H2
  have L2 : x1.toInt ≤ x2.toInt + (-1) := q9pC (q9evS ae1) (q9evS ae2) (hL _ (List.mem_of_getElem? (i := 2) rfl))
  have L3 : (Int32.ofInt 1).toInt ≤ x3.toInt + 0 := q9pC (q9evC w0 1) (q9evS ae3) (hL _ (List.mem_of_getElem? (i := 3) rfl))
  have L4 : x3.toInt ≤ (Int32.ofInt 400).toInt + 0 := q9pC (q9evS ae3) (q9evC w0 400) (hL _ (List.mem_of_getElem? (i := 4) rfl))
  have tk : q9tkN T N 1 400 x0.toInt = (0, x2.toInt) := q9tkN_0 H0 H1 H2 (by omega) (by omega) (by omega)
  have rg0 : (0 : Int) ≤ 0 ∧ (0 : Int) ≤ 0 := by omega
  obtain ⟨x4, nt4⟩ : ∃ x : Int32, x.toInt = 0 := ⟨Int32.ofInt (0), q9oI_toInt (by omega)⟩
  have u_ : q9upN w 5 [.int x4] 0 = .int 0 := q9upN_of (by decide) w0
  have u0 : q9upN w 5 [.int x4] 1 = .int x0 := q9upN_of (by decide) ae0
  have u1 : q9upN w 5 [.int x4] 2 = .int x1 := q9upN_of (by decide) ae1
  have u2 : q9upN w 5 [.int x4] 3 = .int x2 := q9upN_of (by decide) ae2
  have u3 : q9upN w 5 [.int x4] 4 = .int x3 := q9upN_of (by decide) ae3
  have u4 : q9upN w 5 [.int x4] 5 = .int x4 := q9upN_at (by decide)
  refine ⟨[.int x4], fun i9 p9 hq9 => ?_, List.forall_mem_cons.mpr ⟨?_, fun _ h => absurd h List.not_mem_nil⟩, fun _ h => absurd h List.not_mem_nil⟩
  · match i9, hq9 with
    | 0, hq9 =>
      have hp9 : ((1204, (1, 0), (0, 0), (0, 0, 0)) : Nat × q9AV × q9AV × q9ET) = p9 := Option.some.inj hq9
      subst hp9
      exact ⟨⟨x4, rfl, by rw [nt4]; exact rg0.1, by rw [nt4]; exact rg0.2⟩, (q9th_tX (T := T) (N := N) (P := P) (J := J) (t0 := t0) (Sc := Sc) (q9evS u0) (q9evZ u_) (q9evS u4) (by rw [q9FF_1204, nt4]; exact (show some (q9tkN T N 1 400 x0.toInt).1 = _ by rw [tk])) (by decide)).trans (congrArg some (q9evS u4))⟩
    | k9 + 1, hq9 => exact nomatch (show (none : Option (Nat × q9AV × q9AV × q9ET)) = some p9 from hq9)
  · exact q9th_tX (T := T) (N := N) (P := P) (J := J) (t0 := t0) (Sc := Sc) (q9evS u0) (q9evZ u_) (q9evS u2) (by rw [q9FF_1205]; exact (show some (q9tkN T N 1 400 x0.toInt).2 = _ by rw [tk])) (by decide)
theorem q9ru_tf2 (hT : ∀ i, 0 ≤ T i ∧ T i ≤ 255) (hN : 0 ≤ N ∧ N ≤ 400) (hSc : 0 ≤ Sc 1 ∧ Sc 1 ≤ 400 → N = Sc 1) : q9ruOK (fO T N P J t0 Sc) q9R_tf2 := by
  intro w w0 hA hX hL hV hR
  obtain ⟨x0, ae0, -, -⟩ := hA 0 0 rfl
  obtain ⟨x1, ae1, -, -⟩ := hA 1 0 rfl
  obtain ⟨x2, ae2, -, -⟩ := hA 2 0 rfl
  obtain ⟨x3, ae3, -, -⟩ := hA 3 0 rfl
  have kz : (0 : Int32).toInt = 0 := rfl
  have X0 := q9th_pX (T := T) (N := N) (P := P) (J := J) (t0 := t0) (Sc := Sc) (op := 1002) (q9evS ae0) (q9evZ w0) (q9evS ae1) (hX _ (List.mem_of_getElem? (i := 0) rfl)) (by decide)
  rw [q9FF_1002] at X0
  have H0 := Option.some.inj X0
  try simp only [kz] at H0
  have X1 := q9th_pX (T := T) (N := N) (P := P) (J := J) (t0 := t0) (Sc := Sc) (op := 1004) (q9evS ae1) (q9evZ w0) (q9evS ae2) (hX _ (List.mem_of_getElem? (i := 1) rfl)) (by decide)
  rw [q9FF_1004] at X1
  have H1 := Option.some.inj X1
  try simp only [kz] at H1
  have L0 : (0 : Int32).toInt ≤ x0.toInt + 0 := q9pC (q9evZ w0) (q9evS ae0) (hL _ (List.mem_of_getElem? (i := 0) rfl))
  have L1 : (0 : Int32).toInt ≤ x1.toInt + 0 := q9pC (q9evZ w0) (q9evS ae1) (hL _ (List.mem_of_getElem? (i := 1) rfl))
  have L2 : x2.toInt ≤ x1.toInt + 0 := q9pC (q9evS ae2) (q9evS ae1) (hL _ (List.mem_of_getElem? (i := 2) rfl))
  have tk : q9tkN T N 1 400 x0.toInt = (1, x1.toInt) := q9tkN_1 H0 H1 (by omega)
  have rg0 : (1 : Int) ≤ 1 ∧ (1 : Int) ≤ 1 := by omega
  obtain ⟨x4, nt4⟩ : ∃ x : Int32, x.toInt = 1 := ⟨Int32.ofInt (1), q9oI_toInt (by omega)⟩
  have u_ : q9upN w 5 [.int x4] 0 = .int 0 := q9upN_of (by decide) w0
  have u0 : q9upN w 5 [.int x4] 1 = .int x0 := q9upN_of (by decide) ae0
  have u1 : q9upN w 5 [.int x4] 2 = .int x1 := q9upN_of (by decide) ae1
  have u2 : q9upN w 5 [.int x4] 3 = .int x2 := q9upN_of (by decide) ae2
  have u3 : q9upN w 5 [.int x4] 4 = .int x3 := q9upN_of (by decide) ae3
  have u4 : q9upN w 5 [.int x4] 5 = .int x4 := q9upN_at (by decide)
  refine ⟨[.int x4], fun i9 p9 hq9 => ?_, List.forall_mem_cons.mpr ⟨?_, fun _ h => absurd h List.not_mem_nil⟩, fun _ h => absurd h List.not_mem_nil⟩
  · match i9, hq9 with
    | 0, hq9 =>
      have hp9 : ((1204, (1, 0), (0, 0), (0, 1, 1)) : Nat × q9AV × q9AV × q9ET) = p9 := Option.some.inj hq9
      subst hp9
      exact ⟨⟨x4, rfl, by rw [nt4]; exact rg0.1, by rw [nt4]; exact rg0.2⟩, (q9th_tX (T := T) (N := N) (P := P) (J := J) (t0 := t0) (Sc := Sc) (q9evS u0) (q9evZ u_) (q9evS u4) (by rw [q9FF_1204, nt4]; exact (show some (q9tkN T N 1 400 x0.toInt).1 = _ by rw [tk])) (by decide)).trans (congrArg some (q9evS u4))⟩
    | k9 + 1, hq9 => exact nomatch (show (none : Option (Nat × q9AV × q9AV × q9ET)) = some p9 from hq9)
  · exact q9th_tX (T := T) (N := N) (P := P) (J := J) (t0 := t0) (Sc := Sc) (q9evS u0) (q9evZ u_) (q9evS u1) (by rw [q9FF_1205]; exact (show some (q9tkN T N 1 400 x0.toInt).2 = _ by rw [tk])) (by decide)
theorem q9ru_tl2 (hT : ∀ i, 0 ≤ T i ∧ T i ≤ 255) (hN : 0 ≤ N ∧ N ≤ 400) (hSc : 0 ≤ Sc 1 ∧ Sc 1 ≤ 400 → N = Sc 1) : q9ruOK (fO T N P J t0 Sc) q9R_tl2 := by
  intro w w0 hA hX hL hV hR
  obtain ⟨x0, ae0, -, -⟩ := hA 0 0 rfl
  obtain ⟨x1, ae1, -, -⟩ := hA 1 0 rfl
  obtain ⟨x2, ae2, -, -⟩ := hA 2 0 rfl
  obtain ⟨x3, ae3, -, -⟩ := hA 3 0 rfl
  have kz : (0 : Int32).toInt = 0 := rfl
  have X0 := q9th_pX (T := T) (N := N) (P := P) (J := J) (t0 := t0) (Sc := Sc) (op := 1002) (q9evS ae0) (q9evZ w0) (q9evS ae1) (hX _ (List.mem_of_getElem? (i := 0) rfl)) (by decide)
  rw [q9FF_1002] at X0
  have H0 := Option.some.inj X0
  try simp only [kz] at H0
  have X1 := q9th_pX (T := T) (N := N) (P := P) (J := J) (t0 := t0) (Sc := Sc) (op := 1004) (q9evS ae1) (q9evZ w0) (q9evS ae2) (hX _ (List.mem_of_getElem? (i := 1) rfl)) (by decide)
  rw [q9FF_1004] at X1
  have H1 := Option.some.inj X1
  try simp only [kz] at H1
  have L0 : (0 : Int32).toInt ≤ x0.toInt + 0 := q9pC (q9evZ w0) (q9evS ae0) (hL _ (List.mem_of_getElem? (i := 0) rfl))
  have L1 : (0 : Int32).toInt ≤ x1.toInt + 0 := q9pC (q9evZ w0) (q9evS ae1) (hL _ (List.mem_of_getElem? (i := 1) rfl))
  have X2 := q9th_pX (T := T) (N := N) (P := P) (J := J) (t0 := t0) (Sc := Sc) (op := 1005) (q9evS ae1) (q9evZ w0) (q9evS ae3) (hX _ (List.mem_of_getElem? (i := 2) rfl)) (by decide)
  rw [q9FF_1005] at X2
  have H2 := Option.some.inj X2
  try simp only [kz] at H2
  have L2 : x1.toInt ≤ x2.toInt + (-1) := q9pC (q9evS ae1) (q9evS ae2) (hL _ (List.mem_of_getElem? (i := 2) rfl))
  have L3 : x3.toInt ≤ (0 : Int32).toInt + 0 := q9pC (q9evS ae3) (q9evZ w0) (hL _ (List.mem_of_getElem? (i := 3) rfl))
  have tk : q9tkN T N 1 400 x0.toInt = (2, x1.toInt) := q9tkN_2 H0 H1 H2 (by omega) (by omega)
  have rg0 : (2 : Int) ≤ 2 ∧ (2 : Int) ≤ 2 := by omega
  obtain ⟨x4, nt4⟩ : ∃ x : Int32, x.toInt = 2 := ⟨Int32.ofInt (2), q9oI_toInt (by omega)⟩
  have u_ : q9upN w 5 [.int x4] 0 = .int 0 := q9upN_of (by decide) w0
  have u0 : q9upN w 5 [.int x4] 1 = .int x0 := q9upN_of (by decide) ae0
  have u1 : q9upN w 5 [.int x4] 2 = .int x1 := q9upN_of (by decide) ae1
  have u2 : q9upN w 5 [.int x4] 3 = .int x2 := q9upN_of (by decide) ae2
  have u3 : q9upN w 5 [.int x4] 4 = .int x3 := q9upN_of (by decide) ae3
  have u4 : q9upN w 5 [.int x4] 5 = .int x4 := q9upN_at (by decide)
  refine ⟨[.int x4], fun i9 p9 hq9 => ?_, List.forall_mem_cons.mpr ⟨?_, fun _ h => absurd h List.not_mem_nil⟩, fun _ h => absurd h List.not_mem_nil⟩
  · match i9, hq9 with
    | 0, hq9 =>
      have hp9 : ((1204, (1, 0), (0, 0), (0, 2, 2)) : Nat × q9AV × q9AV × q9ET) = p9 := Option.some.inj hq9
      subst hp9
      exact ⟨⟨x4, rfl, by rw [nt4]; exact rg0.1, by rw [nt4]; exact rg0.2⟩, (q9th_tX (T := T) (N := N) (P := P) (J := J) (t0 := t0) (Sc := Sc) (q9evS u0) (q9evZ u_) (q9evS u4) (by rw [q9FF_1204, nt4]; exact (show some (q9tkN T N 1 400 x0.toInt).1 = _ by rw [tk])) (by decide)).trans (congrArg some (q9evS u4))⟩
    | k9 + 1, hq9 => exact nomatch (show (none : Option (Nat × q9AV × q9AV × q9ET)) = some p9 from hq9)
  · exact q9th_tX (T := T) (N := N) (P := P) (J := J) (t0 := t0) (Sc := Sc) (q9evS u0) (q9evZ u_) (q9evS u1) (by rw [q9FF_1205]; exact (show some (q9tkN T N 1 400 x0.toInt).2 = _ by rw [tk])) (by decide)
theorem q9ru_th2 (hT : ∀ i, 0 ≤ T i ∧ T i ≤ 255) (hN : 0 ≤ N ∧ N ≤ 400) (hSc : 0 ≤ Sc 1 ∧ Sc 1 ≤ 400 → N = Sc 1) : q9ruOK (fO T N P J t0 Sc) q9R_th2 := by
  intro w w0 hA hX hL hV hR
  obtain ⟨x0, ae0, -, -⟩ := hA 0 0 rfl
  obtain ⟨x1, ae1, -, -⟩ := hA 1 0 rfl
  obtain ⟨x2, ae2, -, -⟩ := hA 2 0 rfl
  obtain ⟨x3, ae3, -, -⟩ := hA 3 0 rfl
  have kz : (0 : Int32).toInt = 0 := rfl
  have k400 : (Int32.ofInt 400).toInt = 400 := q9oI_toInt (by decide)
  have X0 := q9th_pX (T := T) (N := N) (P := P) (J := J) (t0 := t0) (Sc := Sc) (op := 1002) (q9evS ae0) (q9evZ w0) (q9evS ae1) (hX _ (List.mem_of_getElem? (i := 0) rfl)) (by decide)
  rw [q9FF_1002] at X0
  have H0 := Option.some.inj X0
  try simp only [kz, k400] at H0
  have X1 := q9th_pX (T := T) (N := N) (P := P) (J := J) (t0 := t0) (Sc := Sc) (op := 1004) (q9evS ae1) (q9evZ w0) (q9evS ae2) (hX _ (List.mem_of_getElem? (i := 1) rfl)) (by decide)
  rw [q9FF_1004] at X1
  have H1 := Option.some.inj X1
  try simp only [kz, k400] at H1
  have L0 : (0 : Int32).toInt ≤ x0.toInt + 0 := q9pC (q9evZ w0) (q9evS ae0) (hL _ (List.mem_of_getElem? (i := 0) rfl))
  have L1 : (0 : Int32).toInt ≤ x1.toInt + 0 := q9pC (q9evZ w0) (q9evS ae1) (hL _ (List.mem_of_getElem? (i := 1) rfl))
  have X2 := q9th_pX (T := T) (N := N) (P := P) (J := J) (t0 := t0) (Sc := Sc) (op := 1005) (q9evS ae1) (q9evZ w0) (q9evS ae3) (hX _ (List.mem_of_getElem? (i := 2) rfl)) (by decide)
  rw [q9FF_1005] at X2
  have H2 := Option.some.inj X2
  try simp only [kz, k400] at H2
  have L2 : x1.toInt ≤ x2.toInt + (-1) := q9pC (q9evS ae1) (q9evS ae2) (hL _ (List.mem_of_getElem? (i := 2) rfl))
  have L3 : (Int32.ofInt 400).toInt ≤ x3.toInt + (-1) := q9pC (q9evC w0 400) (q9evS ae3) (hL _ (List.mem_of_getElem? (i := 3) rfl))
  have tk : q9tkN T N 1 400 x0.toInt = (2, x1.toInt) := q9tkN_2 H0 H1 H2 (by omega) (by omega)
  have rg0 : (2 : Int) ≤ 2 ∧ (2 : Int) ≤ 2 := by omega
  obtain ⟨x4, nt4⟩ : ∃ x : Int32, x.toInt = 2 := ⟨Int32.ofInt (2), q9oI_toInt (by omega)⟩
  have u_ : q9upN w 5 [.int x4] 0 = .int 0 := q9upN_of (by decide) w0
  have u0 : q9upN w 5 [.int x4] 1 = .int x0 := q9upN_of (by decide) ae0
  have u1 : q9upN w 5 [.int x4] 2 = .int x1 := q9upN_of (by decide) ae1
  have u2 : q9upN w 5 [.int x4] 3 = .int x2 := q9upN_of (by decide) ae2
  have u3 : q9upN w 5 [.int x4] 4 = .int x3 := q9upN_of (by decide) ae3
  have u4 : q9upN w 5 [.int x4] 5 = .int x4 := q9upN_at (by decide)
  refine ⟨[.int x4], fun i9 p9 hq9 => ?_, List.forall_mem_cons.mpr ⟨?_, fun _ h => absurd h List.not_mem_nil⟩, fun _ h => absurd h List.not_mem_nil⟩
  · match i9, hq9 with
    | 0, hq9 =>
      have hp9 : ((1204, (1, 0), (0, 0), (0, 2, 2)) : Nat × q9AV × q9AV × q9ET) = p9 := Option.some.inj hq9
      subst hp9
      exact ⟨⟨x4, rfl, by rw [nt4]; exact rg0.1, by rw [nt4]; exact rg0.2⟩, (q9th_tX (T := T) (N := N) (P := P) (J := J) (t0 := t0) (Sc := Sc) (q9evS u0) (q9evZ u_) (q9evS u4) (by rw [q9FF_1204, nt4]; exact (show some (q9tkN T N 1 400 x0.toInt).1 = _ by rw [tk])) (by decide)).trans (congrArg some (q9evS u4))⟩
    | k9 + 1, hq9 => exact nomatch (show (none : Option (Nat × q9AV × q9AV × q9ET)) = some p9 from hq9)
  · exact q9th_tX (T := T) (N := N) (P := P) (J := J) (t0 := t0) (Sc := Sc) (q9evS u0) (q9evZ u_) (q9evS u1) (by rw [q9FF_1205]; exact (show some (q9tkN T N 1 400 x0.toInt).2 = _ by rw [tk])) (by decide)
theorem q9ru_tn3 (hT : ∀ i, 0 ≤ T i ∧ T i ≤ 255) (hN : 0 ≤ N ∧ N ≤ 400) (hSc : 0 ≤ Sc 1 ∧ Sc 1 ≤ 400 → N = Sc 1) : q9ruOK (fO T N P J t0 Sc) q9R_tn3 := by
  intro w w0 hA hX hL hV hR
  obtain ⟨x0, ae0, -, -⟩ := hA 0 0 rfl
  obtain ⟨x1, ae1, -, -⟩ := hA 1 0 rfl
  obtain ⟨x2, ae2, -, -⟩ := hA 2 0 rfl
  obtain ⟨x3, ae3, -, -⟩ := hA 3 0 rfl
  have kz : (0 : Int32).toInt = 0 := rfl
  have k400 : (Int32.ofInt 400).toInt = 400 := q9oI_toInt (by decide)
  have X0 := q9th_pX (T := T) (N := N) (P := P) (J := J) (t0 := t0) (Sc := Sc) (op := 1002) (q9evS ae0) (q9evZ w0) (q9evS ae1) (hX _ (List.mem_of_getElem? (i := 0) rfl)) (by decide)
  rw [q9FF_1002] at X0
  have H0 := Option.some.inj X0
  try simp only [kz, k400] at H0
  have X1 := q9th_pX (T := T) (N := N) (P := P) (J := J) (t0 := t0) (Sc := Sc) (op := 1004) (q9evS ae1) (q9evZ w0) (q9evS ae2) (hX _ (List.mem_of_getElem? (i := 1) rfl)) (by decide)
  rw [q9FF_1004] at X1
  have H1 := Option.some.inj X1
  try simp only [kz, k400] at H1
  have L0 : (0 : Int32).toInt ≤ x0.toInt + 0 := q9pC (q9evZ w0) (q9evS ae0) (hL _ (List.mem_of_getElem? (i := 0) rfl))
  have L1 : (0 : Int32).toInt ≤ x1.toInt + 0 := q9pC (q9evZ w0) (q9evS ae1) (hL _ (List.mem_of_getElem? (i := 1) rfl))
  have X2 := q9th_pX (T := T) (N := N) (P := P) (J := J) (t0 := t0) (Sc := Sc) (op := 1005) (q9evS ae1) (q9evZ w0) (q9evS ae3) (hX _ (List.mem_of_getElem? (i := 2) rfl)) (by decide)
  rw [q9FF_1005] at X2
  have H2 := Option.some.inj X2
  try simp only [kz, k400] at H2
  have L2 : x1.toInt ≤ x2.toInt + (-1) := q9pC (q9evS ae1) (q9evS ae2) (hL _ (List.mem_of_getElem? (i := 2) rfl))
  have L3 : (0 : Int32).toInt ≤ x3.toInt + 0 := q9pC (q9evZ w0) (q9evS ae3) (hL _ (List.mem_of_getElem? (i := 3) rfl))
  have L4 : x3.toInt ≤ (Int32.ofInt 400).toInt + 0 := q9pC (q9evS ae3) (q9evC w0 400) (hL _ (List.mem_of_getElem? (i := 4) rfl))
  have tk : q9tkN T N 0 400 x0.toInt = (0, x2.toInt) := q9tkN_0 H0 H1 H2 (by omega) (by omega) (by omega)
  have rg0 : (0 : Int) ≤ 0 ∧ (0 : Int) ≤ 0 := by omega
  obtain ⟨x4, nt4⟩ : ∃ x : Int32, x.toInt = 0 := ⟨Int32.ofInt (0), q9oI_toInt (by omega)⟩
  have u_ : q9upN w 5 [.int x4] 0 = .int 0 := q9upN_of (by decide) w0
  have u0 : q9upN w 5 [.int x4] 1 = .int x0 := q9upN_of (by decide) ae0
  have u1 : q9upN w 5 [.int x4] 2 = .int x1 := q9upN_of (by decide) ae1
  have u2 : q9upN w 5 [.int x4] 3 = .int x2 := q9upN_of (by decide) ae2
  have u3 : q9upN w 5 [.int x4] 4 = .int x3 := q9upN_of (by decide) ae3
  have u4 : q9upN w 5 [.int x4] 5 = .int x4 := q9upN_at (by decide)
  refine ⟨[.int x4], fun i9 p9 hq9 => ?_, List.forall_mem_cons.mpr ⟨?_, fun _ h => absurd h List.not_mem_nil⟩, fun _ h => absurd h List.not_mem_nil⟩
  · match i9, hq9 with
    | 0, hq9 =>
      have hp9 : ((1206, (1, 0), (0, 0), (0, 0, 0)) : Nat × q9AV × q9AV × q9ET) = p9 := Option.some.inj hq9
      subst hp9
      exact ⟨⟨x4, rfl, by rw [nt4]; exact rg0.1, by rw [nt4]; exact rg0.2⟩, (q9th_tX (T := T) (N := N) (P := P) (J := J) (t0 := t0) (Sc := Sc) (q9evS u0) (q9evZ u_) (q9evS u4) (by rw [q9FF_1206, nt4]; exact (show some (q9tkN T N 0 400 x0.toInt).1 = _ by rw [tk])) (by decide)).trans (congrArg some (q9evS u4))⟩
    | k9 + 1, hq9 => exact nomatch (show (none : Option (Nat × q9AV × q9AV × q9ET)) = some p9 from hq9)
  · exact q9th_tX (T := T) (N := N) (P := P) (J := J) (t0 := t0) (Sc := Sc) (q9evS u0) (q9evZ u_) (q9evS u2) (by rw [q9FF_1207]; exact (show some (q9tkN T N 0 400 x0.toInt).2 = _ by rw [tk])) (by decide)
theorem q9ru_tf3 (hT : ∀ i, 0 ≤ T i ∧ T i ≤ 255) (hN : 0 ≤ N ∧ N ≤ 400) (hSc : 0 ≤ Sc 1 ∧ Sc 1 ≤ 400 → N = Sc 1) : q9ruOK (fO T N P J t0 Sc) q9R_tf3 := by
  intro w w0 hA hX hL hV hR
  obtain ⟨x0, ae0, -, -⟩ := hA 0 0 rfl
  obtain ⟨x1, ae1, -, -⟩ := hA 1 0 rfl
  obtain ⟨x2, ae2, -, -⟩ := hA 2 0 rfl
  obtain ⟨x3, ae3, -, -⟩ := hA 3 0 rfl
  have kz : (0 : Int32).toInt = 0 := rfl
  have X0 := q9th_pX (T := T) (N := N) (P := P) (J := J) (t0 := t0) (Sc := Sc) (op := 1002) (q9evS ae0) (q9evZ w0) (q9evS ae1) (hX _ (List.mem_of_getElem? (i := 0) rfl)) (by decide)
  rw [q9FF_1002] at X0
  have H0 := Option.some.inj X0
  try simp only [kz] at H0
  have X1 := q9th_pX (T := T) (N := N) (P := P) (J := J) (t0 := t0) (Sc := Sc) (op := 1004) (q9evS ae1) (q9evZ w0) (q9evS ae2) (hX _ (List.mem_of_getElem? (i := 1) rfl)) (by decide)
  rw [q9FF_1004] at X1
  have H1 := Option.some.inj X1
  try simp only [kz] at H1
  have L0 : (0 : Int32).toInt ≤ x0.toInt + 0 := q9pC (q9evZ w0) (q9evS ae0) (hL _ (List.mem_of_getElem? (i := 0) rfl))
  have L1 : (0 : Int32).toInt ≤ x1.toInt + 0 := q9pC (q9evZ w0) (q9evS ae1) (hL _ (List.mem_of_getElem? (i := 1) rfl))
  have L2 : x2.toInt ≤ x1.toInt + 0 := q9pC (q9evS ae2) (q9evS ae1) (hL _ (List.mem_of_getElem? (i := 2) rfl))
  have tk : q9tkN T N 0 400 x0.toInt = (1, x1.toInt) := q9tkN_1 H0 H1 (by omega)
  have rg0 : (1 : Int) ≤ 1 ∧ (1 : Int) ≤ 1 := by omega
  obtain ⟨x4, nt4⟩ : ∃ x : Int32, x.toInt = 1 := ⟨Int32.ofInt (1), q9oI_toInt (by omega)⟩
  have u_ : q9upN w 5 [.int x4] 0 = .int 0 := q9upN_of (by decide) w0
  have u0 : q9upN w 5 [.int x4] 1 = .int x0 := q9upN_of (by decide) ae0
  have u1 : q9upN w 5 [.int x4] 2 = .int x1 := q9upN_of (by decide) ae1
  have u2 : q9upN w 5 [.int x4] 3 = .int x2 := q9upN_of (by decide) ae2
  have u3 : q9upN w 5 [.int x4] 4 = .int x3 := q9upN_of (by decide) ae3
  have u4 : q9upN w 5 [.int x4] 5 = .int x4 := q9upN_at (by decide)
  refine ⟨[.int x4], fun i9 p9 hq9 => ?_, List.forall_mem_cons.mpr ⟨?_, fun _ h => absurd h List.not_mem_nil⟩, fun _ h => absurd h List.not_mem_nil⟩
  · match i9, hq9 with
    | 0, hq9 =>
      have hp9 : ((1206, (1, 0), (0, 0), (0, 1, 1)) : Nat × q9AV × q9AV × q9ET) = p9 := Option.some.inj hq9
      subst hp9
      exact ⟨⟨x4, rfl, by rw [nt4]; exact rg0.1, by rw [nt4]; exact rg0.2⟩, (q9th_tX (T := T) (N := N) (P := P) (J := J) (t0 := t0) (Sc := Sc) (q9evS u0) (q9evZ u_) (q9evS u4) (by rw [q9FF_1206, nt4]; exact (show some (q9tkN T N 0 400 x0.toInt).1 = _ by rw [tk])) (by decide)).trans (congrArg some (q9evS u4))⟩
    | k9 + 1, hq9 => exact nomatch (show (none : Option (Nat × q9AV × q9AV × q9ET)) = some p9 from hq9)
  · exact q9th_tX (T := T) (N := N) (P := P) (J := J) (t0 := t0) (Sc := Sc) (q9evS u0) (q9evZ u_) (q9evS u1) (by rw [q9FF_1207]; exact (show some (q9tkN T N 0 400 x0.toInt).2 = _ by rw [tk])) (by decide)
theorem q9ru_th3 (hT : ∀ i, 0 ≤ T i ∧ T i ≤ 255) (hN : 0 ≤ N ∧ N ≤ 400) (hSc : 0 ≤ Sc 1 ∧ Sc 1 ≤ 400 → N = Sc 1) : q9ruOK (fO T N P J t0 Sc) q9R_th3 := by
  intro w w0 hA hX hL hV hR
  obtain ⟨x0, ae0, -, -⟩ := hA 0 0 rfl
  obtain ⟨x1, ae1, -, -⟩ := hA 1 0 rfl
  obtain ⟨x2, ae2, -, -⟩ := hA 2 0 rfl
  obtain ⟨x3, ae3, -, -⟩ := hA 3 0 rfl
  have kz : (0 : Int32).toInt = 0 := rfl
  have k400 : (Int32.ofInt 400).toInt = 400 := q9oI_toInt (by decide)
  have X0 := q9th_pX (T := T) (N := N) (P := P) (J := J) (t0 := t0) (Sc := Sc) (op := 1002) (q9evS ae0) (q9evZ w0) (q9evS ae1) (hX _ (List.mem_of_getElem? (i := 0) rfl)) (by decide)
  rw [q9FF_1002] at X0
  have H0 := Option.some.inj X0
  try simp only [kz, k400] at H0
  have X1 := q9th_pX (T := T) (N := N) (P := P) (J := J) (t0 := t0) (Sc := Sc) (op := 1004) (q9evS ae1) (q9evZ w0) (q9evS ae2) (hX _ (List.mem_of_getElem? (i := 1) rfl)) (by decide)
  rw [q9FF_1004] at X1
  have H1 := Option.some.inj X1
  try simp only [kz, k400] at H1
  have L0 : (0 : Int32).toInt ≤ x0.toInt + 0 := q9pC (q9evZ w0) (q9evS ae0) (hL _ (List.mem_of_getElem? (i := 0) rfl))
  have L1 : (0 : Int32).toInt ≤ x1.toInt + 0 := q9pC (q9evZ w0) (q9evS ae1) (hL _ (List.mem_of_getElem? (i := 1) rfl))
  have X2 := q9th_pX (T := T) (N := N) (P := P) (J := J) (t0 := t0) (Sc := Sc) (op := 1005) (q9evS ae1) (q9evZ w0) (q9evS ae3) (hX _ (List.mem_of_getElem? (i := 2) rfl)) (by decide)
  rw [q9FF_1005] at X2
  have H2 := Option.some.inj X2
  try simp only [kz, k400] at H2
  have L2 : x1.toInt ≤ x2.toInt + (-1) := q9pC (q9evS ae1) (q9evS ae2) (hL _ (List.mem_of_getElem? (i := 2) rfl))
  have L3 : (Int32.ofInt 400).toInt ≤ x3.toInt + (-1) := q9pC (q9evC w0 400) (q9evS ae3) (hL _ (List.mem_of_getElem? (i := 3) rfl))
  have tk : q9tkN T N 0 400 x0.toInt = (2, x1.toInt) := q9tkN_2 H0 H1 H2 (by omega) (by omega)
  have rg0 : (2 : Int) ≤ 2 ∧ (2 : Int) ≤ 2 := by omega
  obtain ⟨x4, nt4⟩ : ∃ x : Int32, x.toInt = 2 := ⟨Int32.ofInt (2), q9oI_toInt (by omega)⟩
  have u_ : q9upN w 5 [.int x4] 0 = .int 0 := q9upN_of (by decide) w0
  have u0 : q9upN w 5 [.int x4] 1 = .int x0 := q9upN_of (by decide) ae0
  have u1 : q9upN w 5 [.int x4] 2 = .int x1 := q9upN_of (by decide) ae1
  have u2 : q9upN w 5 [.int x4] 3 = .int x2 := q9upN_of (by decide) ae2
  have u3 : q9upN w 5 [.int x4] 4 = .int x3 := q9upN_of (by decide) ae3
  have u4 : q9upN w 5 [.int x4] 5 = .int x4 := q9upN_at (by decide)
  refine ⟨[.int x4], fun i9 p9 hq9 => ?_, List.forall_mem_cons.mpr ⟨?_, fun _ h => absurd h List.not_mem_nil⟩, fun _ h => absurd h List.not_mem_nil⟩
  · match i9, hq9 with
    | 0, hq9 =>
      have hp9 : ((1206, (1, 0), (0, 0), (0, 2, 2)) : Nat × q9AV × q9AV × q9ET) = p9 := Option.some.inj hq9
      subst hp9
      exact ⟨⟨x4, rfl, by rw [nt4]; exact rg0.1, by rw [nt4]; exact rg0.2⟩, (q9th_tX (T := T) (N := N) (P := P) (J := J) (t0 := t0) (Sc := Sc) (q9evS u0) (q9evZ u_) (q9evS u4) (by rw [q9FF_1206, nt4]; exact (show some (q9tkN T N 0 400 x0.toInt).1 = _ by rw [tk])) (by decide)).trans (congrArg some (q9evS u4))⟩
    | k9 + 1, hq9 => exact nomatch (show (none : Option (Nat × q9AV × q9AV × q9ET)) = some p9 from hq9)
  · exact q9th_tX (T := T) (N := N) (P := P) (J := J) (t0 := t0) (Sc := Sc) (q9evS u0) (q9evZ u_) (q9evS u1) (by rw [q9FF_1207]; exact (show some (q9tkN T N 0 400 x0.toInt).2 = _ by rw [tk])) (by decide)
theorem q9ru_tn4 (hT : ∀ i, 0 ≤ T i ∧ T i ≤ 255) (hN : 0 ≤ N ∧ N ≤ 400) (hSc : 0 ≤ Sc 1 ∧ Sc 1 ≤ 400 → N = Sc 1) : q9ruOK (fO T N P J t0 Sc) q9R_tn4 := by
  intro w w0 hA hX hL hV hR
  obtain ⟨x0, ae0, -, -⟩ := hA 0 0 rfl
  obtain ⟨x1, ae1, -, -⟩ := hA 1 0 rfl
  obtain ⟨x2, ae2, -, -⟩ := hA 2 0 rfl
  obtain ⟨x3, ae3, -, -⟩ := hA 3 0 rfl
  have kz : (0 : Int32).toInt = 0 := rfl
  have k9999 : (Int32.ofInt 9999).toInt = 9999 := q9oI_toInt (by decide)
  have X0 := q9th_pX (T := T) (N := N) (P := P) (J := J) (t0 := t0) (Sc := Sc) (op := 1002) (q9evS ae0) (q9evZ w0) (q9evS ae1) (hX _ (List.mem_of_getElem? (i := 0) rfl)) (by decide)
  rw [q9FF_1002] at X0
  have H0 := Option.some.inj X0
  try simp only [kz, k9999] at H0
  have X1 := q9th_pX (T := T) (N := N) (P := P) (J := J) (t0 := t0) (Sc := Sc) (op := 1004) (q9evS ae1) (q9evZ w0) (q9evS ae2) (hX _ (List.mem_of_getElem? (i := 1) rfl)) (by decide)
  rw [q9FF_1004] at X1
  have H1 := Option.some.inj X1
  try simp only [kz, k9999] at H1
  have L0 : (0 : Int32).toInt ≤ x0.toInt + 0 := q9pC (q9evZ w0) (q9evS ae0) (hL _ (List.mem_of_getElem? (i := 0) rfl))
  have L1 : (0 : Int32).toInt ≤ x1.toInt + 0 := q9pC (q9evZ w0) (q9evS ae1) (hL _ (List.mem_of_getElem? (i := 1) rfl))
  have X2 := q9th_pX (T := T) (N := N) (P := P) (J := J) (t0 := t0) (Sc := Sc) (op := 1005) (q9evS ae1) (q9evZ w0) (q9evS ae3) (hX _ (List.mem_of_getElem? (i := 2) rfl)) (by decide)
  rw [q9FF_1005] at X2
  have H2 := Option.some.inj X2
  try simp only [kz, k9999] at H2
  have L2 : x1.toInt ≤ x2.toInt + (-1) := q9pC (q9evS ae1) (q9evS ae2) (hL _ (List.mem_of_getElem? (i := 2) rfl))
  have L3 : (0 : Int32).toInt ≤ x3.toInt + 0 := q9pC (q9evZ w0) (q9evS ae3) (hL _ (List.mem_of_getElem? (i := 3) rfl))
  have L4 : x3.toInt ≤ (Int32.ofInt 9999).toInt + 0 := q9pC (q9evS ae3) (q9evC w0 9999) (hL _ (List.mem_of_getElem? (i := 4) rfl))
  have tk : q9tkN T N 0 9999 x0.toInt = (0, x2.toInt) := q9tkN_0 H0 H1 H2 (by omega) (by omega) (by omega)
  have rg0 : (0 : Int) ≤ 0 ∧ (0 : Int) ≤ 0 := by omega
  obtain ⟨x4, nt4⟩ : ∃ x : Int32, x.toInt = 0 := ⟨Int32.ofInt (0), q9oI_toInt (by omega)⟩
  have u_ : q9upN w 5 [.int x4] 0 = .int 0 := q9upN_of (by decide) w0
  have u0 : q9upN w 5 [.int x4] 1 = .int x0 := q9upN_of (by decide) ae0
  have u1 : q9upN w 5 [.int x4] 2 = .int x1 := q9upN_of (by decide) ae1
  have u2 : q9upN w 5 [.int x4] 3 = .int x2 := q9upN_of (by decide) ae2
  have u3 : q9upN w 5 [.int x4] 4 = .int x3 := q9upN_of (by decide) ae3
  have u4 : q9upN w 5 [.int x4] 5 = .int x4 := q9upN_at (by decide)
  refine ⟨[.int x4], fun i9 p9 hq9 => ?_, List.forall_mem_cons.mpr ⟨?_, fun _ h => absurd h List.not_mem_nil⟩, fun _ h => absurd h List.not_mem_nil⟩
  · match i9, hq9 with
    | 0, hq9 =>
      have hp9 : ((1208, (1, 0), (0, 0), (0, 0, 0)) : Nat × q9AV × q9AV × q9ET) = p9 := Option.some.inj hq9
      subst hp9
      exact ⟨⟨x4, rfl, by rw [nt4]; exact rg0.1, by rw [nt4]; exact rg0.2⟩, (q9th_tX (T := T) (N := N) (P := P) (J := J) (t0 := t0) (Sc := Sc) (q9evS u0) (q9evZ u_) (q9evS u4) (by rw [q9FF_1208, nt4]; exact (show some (q9tkN T N 0 9999 x0.toInt).1 = _ by rw [tk])) (by decide)).trans (congrArg some (q9evS u4))⟩
    | k9 + 1, hq9 => exact nomatch (show (none : Option (Nat × q9AV × q9AV × q9ET)) = some p9 from hq9)
  · exact q9th_tX (T := T) (N := N) (P := P) (J := J) (t0 := t0) (Sc := Sc) (q9evS u0) (q9evZ u_) (q9evS u2) (by rw [q9FF_1209]; exact (show some (q9tkN T N 0 9999 x0.toInt).2 = _ by rw [tk])) (by decide)
theorem q9ru_tf4 (hT : ∀ i, 0 ≤ T i ∧ T i ≤ 255) (hN : 0 ≤ N ∧ N ≤ 400) (hSc : 0 ≤ Sc 1 ∧ Sc 1 ≤ 400 → N = Sc 1) : q9ruOK (fO T N P J t0 Sc) q9R_tf4 := by
  intro w w0 hA hX hL hV hR
  obtain ⟨x0, ae0, -, -⟩ := hA 0 0 rfl
  obtain ⟨x1, ae1, -, -⟩ := hA 1 0 rfl
  obtain ⟨x2, ae2, -, -⟩ := hA 2 0 rfl
  obtain ⟨x3, ae3, -, -⟩ := hA 3 0 rfl
  have kz : (0 : Int32).toInt = 0 := rfl
  have X0 := q9th_pX (T := T) (N := N) (P := P) (J := J) (t0 := t0) (Sc := Sc) (op := 1002) (q9evS ae0) (q9evZ w0) (q9evS ae1) (hX _ (List.mem_of_getElem? (i := 0) rfl)) (by decide)
  rw [q9FF_1002] at X0
  have H0 := Option.some.inj X0
  try simp only [kz] at H0
  have X1 := q9th_pX (T := T) (N := N) (P := P) (J := J) (t0 := t0) (Sc := Sc) (op := 1004) (q9evS ae1) (q9evZ w0) (q9evS ae2) (hX _ (List.mem_of_getElem? (i := 1) rfl)) (by decide)
  rw [q9FF_1004] at X1
  have H1 := Option.some.inj X1
  try simp only [kz] at H1
  have L0 : (0 : Int32).toInt ≤ x0.toInt + 0 := q9pC (q9evZ w0) (q9evS ae0) (hL _ (List.mem_of_getElem? (i := 0) rfl))
  have L1 : (0 : Int32).toInt ≤ x1.toInt + 0 := q9pC (q9evZ w0) (q9evS ae1) (hL _ (List.mem_of_getElem? (i := 1) rfl))
  have L2 : x2.toInt ≤ x1.toInt + 0 := q9pC (q9evS ae2) (q9evS ae1) (hL _ (List.mem_of_getElem? (i := 2) rfl))
  have tk : q9tkN T N 0 9999 x0.toInt = (1, x1.toInt) := q9tkN_1 H0 H1 (by omega)
  have rg0 : (1 : Int) ≤ 1 ∧ (1 : Int) ≤ 1 := by omega
  obtain ⟨x4, nt4⟩ : ∃ x : Int32, x.toInt = 1 := ⟨Int32.ofInt (1), q9oI_toInt (by omega)⟩
  have u_ : q9upN w 5 [.int x4] 0 = .int 0 := q9upN_of (by decide) w0
  have u0 : q9upN w 5 [.int x4] 1 = .int x0 := q9upN_of (by decide) ae0
  have u1 : q9upN w 5 [.int x4] 2 = .int x1 := q9upN_of (by decide) ae1
  have u2 : q9upN w 5 [.int x4] 3 = .int x2 := q9upN_of (by decide) ae2
  have u3 : q9upN w 5 [.int x4] 4 = .int x3 := q9upN_of (by decide) ae3
  have u4 : q9upN w 5 [.int x4] 5 = .int x4 := q9upN_at (by decide)
  refine ⟨[.int x4], fun i9 p9 hq9 => ?_, List.forall_mem_cons.mpr ⟨?_, fun _ h => absurd h List.not_mem_nil⟩, fun _ h => absurd h List.not_mem_nil⟩
  · match i9, hq9 with
    | 0, hq9 =>
      have hp9 : ((1208, (1, 0), (0, 0), (0, 1, 1)) : Nat × q9AV × q9AV × q9ET) = p9 := Option.some.inj hq9
      subst hp9
      exact ⟨⟨x4, rfl, by rw [nt4]; exact rg0.1, by rw [nt4]; exact rg0.2⟩, (q9th_tX (T := T) (N := N) (P := P) (J := J) (t0 := t0) (Sc := Sc) (q9evS u0) (q9evZ u_) (q9evS u4) (by rw [q9FF_1208, nt4]; exact (show some (q9tkN T N 0 9999 x0.toInt).1 = _ by rw [tk])) (by decide)).trans (congrArg some (q9evS u4))⟩
    | k9 + 1, hq9 => exact nomatch (show (none : Option (Nat × q9AV × q9AV × q9ET)) = some p9 from hq9)
  · exact q9th_tX (T := T) (N := N) (P := P) (J := J) (t0 := t0) (Sc := Sc) (q9evS u0) (q9evZ u_) (q9evS u1) (by rw [q9FF_1209]; exact (show some (q9tkN T N 0 9999 x0.toInt).2 = _ by rw [tk])) (by decide)
theorem q9ru_th4 (hT : ∀ i, 0 ≤ T i ∧ T i ≤ 255) (hN : 0 ≤ N ∧ N ≤ 400) (hSc : 0 ≤ Sc 1 ∧ Sc 1 ≤ 400 → N = Sc 1) : q9ruOK (fO T N P J t0 Sc) q9R_th4 := by
  intro w w0 hA hX hL hV hR
  obtain ⟨x0, ae0, -, -⟩ := hA 0 0 rfl
  obtain ⟨x1, ae1, -, -⟩ := hA 1 0 rfl
  obtain ⟨x2, ae2, -, -⟩ := hA 2 0 rfl
  obtain ⟨x3, ae3, -, -⟩ := hA 3 0 rfl
  have kz : (0 : Int32).toInt = 0 := rfl
  have k9999 : (Int32.ofInt 9999).toInt = 9999 := q9oI_toInt (by decide)
  have X0 := q9th_pX (T := T) (N := N) (P := P) (J := J) (t0 := t0) (Sc := Sc) (op := 1002) (q9evS ae0) (q9evZ w0) (q9evS ae1) (hX _ (List.mem_of_getElem? (i := 0) rfl)) (by decide)
  rw [q9FF_1002] at X0
  have H0 := Option.some.inj X0
  try simp only [kz, k9999] at H0
  have X1 := q9th_pX (T := T) (N := N) (P := P) (J := J) (t0 := t0) (Sc := Sc) (op := 1004) (q9evS ae1) (q9evZ w0) (q9evS ae2) (hX _ (List.mem_of_getElem? (i := 1) rfl)) (by decide)
  rw [q9FF_1004] at X1
  have H1 := Option.some.inj X1
  try simp only [kz, k9999] at H1
  have L0 : (0 : Int32).toInt ≤ x0.toInt + 0 := q9pC (q9evZ w0) (q9evS ae0) (hL _ (List.mem_of_getElem? (i := 0) rfl))
  have L1 : (0 : Int32).toInt ≤ x1.toInt + 0 := q9pC (q9evZ w0) (q9evS ae1) (hL _ (List.mem_of_getElem? (i := 1) rfl))
  have X2 := q9th_pX (T := T) (N := N) (P := P) (J := J) (t0 := t0) (Sc := Sc) (op := 1005) (q9evS ae1) (q9evZ w0) (q9evS ae3) (hX _ (List.mem_of_getElem? (i := 2) rfl)) (by decide)
  rw [q9FF_1005] at X2
  have H2 := Option.some.inj X2
  try simp only [kz, k9999] at H2
  have L2 : x1.toInt ≤ x2.toInt + (-1) := q9pC (q9evS ae1) (q9evS ae2) (hL _ (List.mem_of_getElem? (i := 2) rfl))
  have L3 : (Int32.ofInt 9999).toInt ≤ x3.toInt + (-1) := q9pC (q9evC w0 9999) (q9evS ae3) (hL _ (List.mem_of_getElem? (i := 3) rfl))
  have tk : q9tkN T N 0 9999 x0.toInt = (2, x1.toInt) := q9tkN_2 H0 H1 H2 (by omega) (by omega)
  have rg0 : (2 : Int) ≤ 2 ∧ (2 : Int) ≤ 2 := by omega
  obtain ⟨x4, nt4⟩ : ∃ x : Int32, x.toInt = 2 := ⟨Int32.ofInt (2), q9oI_toInt (by omega)⟩
  have u_ : q9upN w 5 [.int x4] 0 = .int 0 := q9upN_of (by decide) w0
  have u0 : q9upN w 5 [.int x4] 1 = .int x0 := q9upN_of (by decide) ae0
  have u1 : q9upN w 5 [.int x4] 2 = .int x1 := q9upN_of (by decide) ae1
  have u2 : q9upN w 5 [.int x4] 3 = .int x2 := q9upN_of (by decide) ae2
  have u3 : q9upN w 5 [.int x4] 4 = .int x3 := q9upN_of (by decide) ae3
  have u4 : q9upN w 5 [.int x4] 5 = .int x4 := q9upN_at (by decide)
  refine ⟨[.int x4], fun i9 p9 hq9 => ?_, List.forall_mem_cons.mpr ⟨?_, fun _ h => absurd h List.not_mem_nil⟩, fun _ h => absurd h List.not_mem_nil⟩
  · match i9, hq9 with
    | 0, hq9 =>
      have hp9 : ((1208, (1, 0), (0, 0), (0, 2, 2)) : Nat × q9AV × q9AV × q9ET) = p9 := Option.some.inj hq9
      subst hp9
      exact ⟨⟨x4, rfl, by rw [nt4]; exact rg0.1, by rw [nt4]; exact rg0.2⟩, (q9th_tX (T := T) (N := N) (P := P) (J := J) (t0 := t0) (Sc := Sc) (q9evS u0) (q9evZ u_) (q9evS u4) (by rw [q9FF_1208, nt4]; exact (show some (q9tkN T N 0 9999 x0.toInt).1 = _ by rw [tk])) (by decide)).trans (congrArg some (q9evS u4))⟩
    | k9 + 1, hq9 => exact nomatch (show (none : Option (Nat × q9AV × q9AV × q9ET)) = some p9 from hq9)
  · exact q9th_tX (T := T) (N := N) (P := P) (J := J) (t0 := t0) (Sc := Sc) (q9evS u0) (q9evZ u_) (q9evS u1) (by rw [q9FF_1209]; exact (show some (q9tkN T N 0 9999 x0.toInt).2 = _ by rw [tk])) (by decide)
theorem q9ru_tn5 (hT : ∀ i, 0 ≤ T i ∧ T i ≤ 255) (hN : 0 ≤ N ∧ N ≤ 400) (hSc : 0 ≤ Sc 1 ∧ Sc 1 ≤ 400 → N = Sc 1) : q9ruOK (fO T N P J t0 Sc) q9R_tn5 := by
  intro w w0 hA hX hL hV hR
  obtain ⟨x0, ae0, -, -⟩ := hA 0 0 rfl
  obtain ⟨x1, ae1, -, -⟩ := hA 1 0 rfl
  obtain ⟨x2, ae2, -, -⟩ := hA 2 0 rfl
  obtain ⟨x3, ae3, -, -⟩ := hA 3 0 rfl
  have kz : (0 : Int32).toInt = 0 := rfl
  have k32 : (Int32.ofInt 32).toInt = 32 := q9oI_toInt (by decide)
  have X0 := q9th_pX (T := T) (N := N) (P := P) (J := J) (t0 := t0) (Sc := Sc) (op := 1002) (q9evS ae0) (q9evZ w0) (q9evS ae1) (hX _ (List.mem_of_getElem? (i := 0) rfl)) (by decide)
  rw [q9FF_1002] at X0
  have H0 := Option.some.inj X0
  try simp only [kz, k32] at H0
  have X1 := q9th_pX (T := T) (N := N) (P := P) (J := J) (t0 := t0) (Sc := Sc) (op := 1004) (q9evS ae1) (q9evZ w0) (q9evS ae2) (hX _ (List.mem_of_getElem? (i := 1) rfl)) (by decide)
  rw [q9FF_1004] at X1
  have H1 := Option.some.inj X1
  try simp only [kz, k32] at H1
  have L0 : (0 : Int32).toInt ≤ x0.toInt + 0 := q9pC (q9evZ w0) (q9evS ae0) (hL _ (List.mem_of_getElem? (i := 0) rfl))
  have L1 : (0 : Int32).toInt ≤ x1.toInt + 0 := q9pC (q9evZ w0) (q9evS ae1) (hL _ (List.mem_of_getElem? (i := 1) rfl))
  have X2 := q9th_pX (T := T) (N := N) (P := P) (J := J) (t0 := t0) (Sc := Sc) (op := 1005) (q9evS ae1) (q9evZ w0) (q9evS ae3) (hX _ (List.mem_of_getElem? (i := 2) rfl)) (by decide)
  rw [q9FF_1005] at X2
  have H2 := Option.some.inj X2
  try simp only [kz, k32] at H2
  have L2 : x1.toInt ≤ x2.toInt + (-1) := q9pC (q9evS ae1) (q9evS ae2) (hL _ (List.mem_of_getElem? (i := 2) rfl))
  have L3 : (0 : Int32).toInt ≤ x3.toInt + 0 := q9pC (q9evZ w0) (q9evS ae3) (hL _ (List.mem_of_getElem? (i := 3) rfl))
  have L4 : x3.toInt ≤ (Int32.ofInt 32).toInt + 0 := q9pC (q9evS ae3) (q9evC w0 32) (hL _ (List.mem_of_getElem? (i := 4) rfl))
  have tk : q9tkN T N 0 32 x0.toInt = (0, x2.toInt) := q9tkN_0 H0 H1 H2 (by omega) (by omega) (by omega)
  have rg0 : (0 : Int) ≤ 0 ∧ (0 : Int) ≤ 0 := by omega
  obtain ⟨x4, nt4⟩ : ∃ x : Int32, x.toInt = 0 := ⟨Int32.ofInt (0), q9oI_toInt (by omega)⟩
  have u_ : q9upN w 5 [.int x4] 0 = .int 0 := q9upN_of (by decide) w0
  have u0 : q9upN w 5 [.int x4] 1 = .int x0 := q9upN_of (by decide) ae0
  have u1 : q9upN w 5 [.int x4] 2 = .int x1 := q9upN_of (by decide) ae1
  have u2 : q9upN w 5 [.int x4] 3 = .int x2 := q9upN_of (by decide) ae2
  have u3 : q9upN w 5 [.int x4] 4 = .int x3 := q9upN_of (by decide) ae3
  have u4 : q9upN w 5 [.int x4] 5 = .int x4 := q9upN_at (by decide)
  refine ⟨[.int x4], fun i9 p9 hq9 => ?_, List.forall_mem_cons.mpr ⟨?_, fun _ h => absurd h List.not_mem_nil⟩, fun _ h => absurd h List.not_mem_nil⟩
  · match i9, hq9 with
    | 0, hq9 =>
      have hp9 : ((1210, (1, 0), (0, 0), (0, 0, 0)) : Nat × q9AV × q9AV × q9ET) = p9 := Option.some.inj hq9
      subst hp9
      exact ⟨⟨x4, rfl, by rw [nt4]; exact rg0.1, by rw [nt4]; exact rg0.2⟩, (q9th_tX (T := T) (N := N) (P := P) (J := J) (t0 := t0) (Sc := Sc) (q9evS u0) (q9evZ u_) (q9evS u4) (by rw [q9FF_1210, nt4]; exact (show some (q9tkN T N 0 32 x0.toInt).1 = _ by rw [tk])) (by decide)).trans (congrArg some (q9evS u4))⟩
    | k9 + 1, hq9 => exact nomatch (show (none : Option (Nat × q9AV × q9AV × q9ET)) = some p9 from hq9)
  · exact q9th_tX (T := T) (N := N) (P := P) (J := J) (t0 := t0) (Sc := Sc) (q9evS u0) (q9evZ u_) (q9evS u2) (by rw [q9FF_1211]; exact (show some (q9tkN T N 0 32 x0.toInt).2 = _ by rw [tk])) (by decide)
theorem q9ru_tf5 (hT : ∀ i, 0 ≤ T i ∧ T i ≤ 255) (hN : 0 ≤ N ∧ N ≤ 400) (hSc : 0 ≤ Sc 1 ∧ Sc 1 ≤ 400 → N = Sc 1) : q9ruOK (fO T N P J t0 Sc) q9R_tf5 := by
  intro w w0 hA hX hL hV hR
  obtain ⟨x0, ae0, -, -⟩ := hA 0 0 rfl
  obtain ⟨x1, ae1, -, -⟩ := hA 1 0 rfl
  obtain ⟨x2, ae2, -, -⟩ := hA 2 0 rfl
  obtain ⟨x3, ae3, -, -⟩ := hA 3 0 rfl
  have kz : (0 : Int32).toInt = 0 := rfl
  have X0 := q9th_pX (T := T) (N := N) (P := P) (J := J) (t0 := t0) (Sc := Sc) (op := 1002) (q9evS ae0) (q9evZ w0) (q9evS ae1) (hX _ (List.mem_of_getElem? (i := 0) rfl)) (by decide)
  rw [q9FF_1002] at X0
  have H0 := Option.some.inj X0
  try simp only [kz] at H0
  have X1 := q9th_pX (T := T) (N := N) (P := P) (J := J) (t0 := t0) (Sc := Sc) (op := 1004) (q9evS ae1) (q9evZ w0) (q9evS ae2) (hX _ (List.mem_of_getElem? (i := 1) rfl)) (by decide)
  rw [q9FF_1004] at X1
  have H1 := Option.some.inj X1
  try simp only [kz] at H1
  have L0 : (0 : Int32).toInt ≤ x0.toInt + 0 := q9pC (q9evZ w0) (q9evS ae0) (hL _ (List.mem_of_getElem? (i := 0) rfl))
  have L1 : (0 : Int32).toInt ≤ x1.toInt + 0 := q9pC (q9evZ w0) (q9evS ae1) (hL _ (List.mem_of_getElem? (i := 1) rfl))
  have L2 : x2.toInt ≤ x1.toInt + 0 := q9pC (q9evS ae2) (q9evS ae1) (hL _ (List.mem_of_getElem? (i := 2) rfl))
  have tk : q9tkN T N 0 32 x0.toInt = (1, x1.toInt) := q9tkN_1 H0 H1 (by omega)
  have rg0 : (1 : Int) ≤ 1 ∧ (1 : Int) ≤ 1 := by omega
  obtain ⟨x4, nt4⟩ : ∃ x : Int32, x.toInt = 1 := ⟨Int32.ofInt (1), q9oI_toInt (by omega)⟩
  have u_ : q9upN w 5 [.int x4] 0 = .int 0 := q9upN_of (by decide) w0
  have u0 : q9upN w 5 [.int x4] 1 = .int x0 := q9upN_of (by decide) ae0
  have u1 : q9upN w 5 [.int x4] 2 = .int x1 := q9upN_of (by decide) ae1
  have u2 : q9upN w 5 [.int x4] 3 = .int x2 := q9upN_of (by decide) ae2
  have u3 : q9upN w 5 [.int x4] 4 = .int x3 := q9upN_of (by decide) ae3
  have u4 : q9upN w 5 [.int x4] 5 = .int x4 := q9upN_at (by decide)
  refine ⟨[.int x4], fun i9 p9 hq9 => ?_, List.forall_mem_cons.mpr ⟨?_, fun _ h => absurd h List.not_mem_nil⟩, fun _ h => absurd h List.not_mem_nil⟩
  · match i9, hq9 with
    | 0, hq9 =>
      have hp9 : ((1210, (1, 0), (0, 0), (0, 1, 1)) : Nat × q9AV × q9AV × q9ET) = p9 := Option.some.inj hq9
      subst hp9
      exact ⟨⟨x4, rfl, by rw [nt4]; exact rg0.1, by rw [nt4]; exact rg0.2⟩, (q9th_tX (T := T) (N := N) (P := P) (J := J) (t0 := t0) (Sc := Sc) (q9evS u0) (q9evZ u_) (q9evS u4) (by rw [q9FF_1210, nt4]; exact (show some (q9tkN T N 0 32 x0.toInt).1 = _ by rw [tk])) (by decide)).trans (congrArg some (q9evS u4))⟩
    | k9 + 1, hq9 => exact nomatch (show (none : Option (Nat × q9AV × q9AV × q9ET)) = some p9 from hq9)
  · exact q9th_tX (T := T) (N := N) (P := P) (J := J) (t0 := t0) (Sc := Sc) (q9evS u0) (q9evZ u_) (q9evS u1) (by rw [q9FF_1211]; exact (show some (q9tkN T N 0 32 x0.toInt).2 = _ by rw [tk])) (by decide)
theorem q9ru_th5 (hT : ∀ i, 0 ≤ T i ∧ T i ≤ 255) (hN : 0 ≤ N ∧ N ≤ 400) (hSc : 0 ≤ Sc 1 ∧ Sc 1 ≤ 400 → N = Sc 1) : q9ruOK (fO T N P J t0 Sc) q9R_th5 := by
  intro w w0 hA hX hL hV hR
  obtain ⟨x0, ae0, -, -⟩ := hA 0 0 rfl
  obtain ⟨x1, ae1, -, -⟩ := hA 1 0 rfl
  obtain ⟨x2, ae2, -, -⟩ := hA 2 0 rfl
  obtain ⟨x3, ae3, -, -⟩ := hA 3 0 rfl
  have kz : (0 : Int32).toInt = 0 := rfl
  have k32 : (Int32.ofInt 32).toInt = 32 := q9oI_toInt (by decide)
  have X0 := q9th_pX (T := T) (N := N) (P := P) (J := J) (t0 := t0) (Sc := Sc) (op := 1002) (q9evS ae0) (q9evZ w0) (q9evS ae1) (hX _ (List.mem_of_getElem? (i := 0) rfl)) (by decide)
  rw [q9FF_1002] at X0
  have H0 := Option.some.inj X0
  try simp only [kz, k32] at H0
  have X1 := q9th_pX (T := T) (N := N) (P := P) (J := J) (t0 := t0) (Sc := Sc) (op := 1004) (q9evS ae1) (q9evZ w0) (q9evS ae2) (hX _ (List.mem_of_getElem? (i := 1) rfl)) (by decide)
  rw [q9FF_1004] at X1
  have H1 := Option.some.inj X1
  try simp only [kz, k32] at H1
  have L0 : (0 : Int32).toInt ≤ x0.toInt + 0 := q9pC (q9evZ w0) (q9evS ae0) (hL _ (List.mem_of_getElem? (i := 0) rfl))
  have L1 : (0 : Int32).toInt ≤ x1.toInt + 0 := q9pC (q9evZ w0) (q9evS ae1) (hL _ (List.mem_of_getElem? (i := 1) rfl))
  have X2 := q9th_pX (T := T) (N := N) (P := P) (J := J) (t0 := t0) (Sc := Sc) (op := 1005) (q9evS ae1) (q9evZ w0) (q9evS ae3) (hX _ (List.mem_of_getElem? (i := 2) rfl)) (by decide)
  rw [q9FF_1005] at X2
  have H2 := Option.some.inj X2
  try simp only [kz, k32] at H2
  have L2 : x1.toInt ≤ x2.toInt + (-1) := q9pC (q9evS ae1) (q9evS ae2) (hL _ (List.mem_of_getElem? (i := 2) rfl))
  have L3 : (Int32.ofInt 32).toInt ≤ x3.toInt + (-1) := q9pC (q9evC w0 32) (q9evS ae3) (hL _ (List.mem_of_getElem? (i := 3) rfl))
  have tk : q9tkN T N 0 32 x0.toInt = (2, x1.toInt) := q9tkN_2 H0 H1 H2 (by omega) (by omega)
  have rg0 : (2 : Int) ≤ 2 ∧ (2 : Int) ≤ 2 := by omega
  obtain ⟨x4, nt4⟩ : ∃ x : Int32, x.toInt = 2 := ⟨Int32.ofInt (2), q9oI_toInt (by omega)⟩
  have u_ : q9upN w 5 [.int x4] 0 = .int 0 := q9upN_of (by decide) w0
  have u0 : q9upN w 5 [.int x4] 1 = .int x0 := q9upN_of (by decide) ae0
  have u1 : q9upN w 5 [.int x4] 2 = .int x1 := q9upN_of (by decide) ae1
  have u2 : q9upN w 5 [.int x4] 3 = .int x2 := q9upN_of (by decide) ae2
  have u3 : q9upN w 5 [.int x4] 4 = .int x3 := q9upN_of (by decide) ae3
  have u4 : q9upN w 5 [.int x4] 5 = .int x4 := q9upN_at (by decide)
  refine ⟨[.int x4], fun i9 p9 hq9 => ?_, List.forall_mem_cons.mpr ⟨?_, fun _ h => absurd h List.not_mem_nil⟩, fun _ h => absurd h List.not_mem_nil⟩
  · match i9, hq9 with
    | 0, hq9 =>
      have hp9 : ((1210, (1, 0), (0, 0), (0, 2, 2)) : Nat × q9AV × q9AV × q9ET) = p9 := Option.some.inj hq9
      subst hp9
      exact ⟨⟨x4, rfl, by rw [nt4]; exact rg0.1, by rw [nt4]; exact rg0.2⟩, (q9th_tX (T := T) (N := N) (P := P) (J := J) (t0 := t0) (Sc := Sc) (q9evS u0) (q9evZ u_) (q9evS u4) (by rw [q9FF_1210, nt4]; exact (show some (q9tkN T N 0 32 x0.toInt).1 = _ by rw [tk])) (by decide)).trans (congrArg some (q9evS u4))⟩
    | k9 + 1, hq9 => exact nomatch (show (none : Option (Nat × q9AV × q9AV × q9ET)) = some p9 from hq9)
  · exact q9th_tX (T := T) (N := N) (P := P) (J := J) (t0 := t0) (Sc := Sc) (q9evS u0) (q9evZ u_) (q9evS u1) (by rw [q9FF_1211]; exact (show some (q9tkN T N 0 32 x0.toInt).2 = _ by rw [tk])) (by decide)
theorem q9ru_tn6 (hT : ∀ i, 0 ≤ T i ∧ T i ≤ 255) (hN : 0 ≤ N ∧ N ≤ 400) (hSc : 0 ≤ Sc 1 ∧ Sc 1 ≤ 400 → N = Sc 1) : q9ruOK (fO T N P J t0 Sc) q9R_tn6 := by
  intro w w0 hA hX hL hV hR
  obtain ⟨x0, ae0, -, -⟩ := hA 0 0 rfl
  obtain ⟨x1, ae1, -, -⟩ := hA 1 0 rfl
  obtain ⟨x2, ae2, -, -⟩ := hA 2 0 rfl
  obtain ⟨x3, ae3, -, -⟩ := hA 3 0 rfl
  obtain ⟨x4, ae4, -, -⟩ := hA 4 0 rfl
  have kz : (0 : Int32).toInt = 0 := rfl
  have X0 := q9th_pX (T := T) (N := N) (P := P) (J := J) (t0 := t0) (Sc := Sc) (op := 1002) (q9evS ae0) (q9evZ w0) (q9evS ae1) (hX _ (List.mem_of_getElem? (i := 0) rfl)) (by decide)
  rw [q9FF_1002] at X0
  have H0 := Option.some.inj X0
  try simp only [kz] at H0
  have X1 := q9th_pX (T := T) (N := N) (P := P) (J := J) (t0 := t0) (Sc := Sc) (op := 1004) (q9evS ae1) (q9evZ w0) (q9evS ae2) (hX _ (List.mem_of_getElem? (i := 1) rfl)) (by decide)
  rw [q9FF_1004] at X1
  have H1 := Option.some.inj X1
  try simp only [kz] at H1
  have L0 : (0 : Int32).toInt ≤ x0.toInt + 0 := q9pC (q9evZ w0) (q9evS ae0) (hL _ (List.mem_of_getElem? (i := 0) rfl))
  have L1 : (0 : Int32).toInt ≤ x1.toInt + 0 := q9pC (q9evZ w0) (q9evS ae1) (hL _ (List.mem_of_getElem? (i := 1) rfl))
  have X2 := q9th_pX (T := T) (N := N) (P := P) (J := J) (t0 := t0) (Sc := Sc) (op := 1015) (q9evZ w0) (q9evZ w0) (q9evS ae4) (hX _ (List.mem_of_getElem? (i := 2) rfl)) (by decide)
  rw [q9FF_1015] at X2
  have H2 := Option.some.inj X2
  try simp only [kz] at H2
  have X3 := q9th_pX (T := T) (N := N) (P := P) (J := J) (t0 := t0) (Sc := Sc) (op := 1005) (q9evS ae1) (q9evZ w0) (q9evS ae3) (hX _ (List.mem_of_getElem? (i := 3) rfl)) (by decide)
  rw [q9FF_1005] at X3
  have H3 := Option.some.inj X3
  try simp only [kz] at H3
  have L2 : x1.toInt ≤ x2.toInt + (-1) := q9pC (q9evS ae1) (q9evS ae2) (hL _ (List.mem_of_getElem? (i := 2) rfl))
  have L3 : (0 : Int32).toInt ≤ x3.toInt + 0 := q9pC (q9evZ w0) (q9evS ae3) (hL _ (List.mem_of_getElem? (i := 3) rfl))
  have L4 : x3.toInt ≤ x4.toInt + (-1) := q9pC (q9evS ae3) (q9evS ae4) (hL _ (List.mem_of_getElem? (i := 4) rfl))
  have tk : q9tkN T N 0 (P - 1) x0.toInt = (0, x2.toInt) := q9tkN_0 H0 H1 H3 (by omega) (by omega) (by omega)
  have rg0 : (0 : Int) ≤ 0 ∧ (0 : Int) ≤ 0 := by omega
  obtain ⟨x5, nt5⟩ : ∃ x : Int32, x.toInt = 0 := ⟨Int32.ofInt (0), q9oI_toInt (by omega)⟩
  have u_ : q9upN w 6 [.int x5] 0 = .int 0 := q9upN_of (by decide) w0
  have u0 : q9upN w 6 [.int x5] 1 = .int x0 := q9upN_of (by decide) ae0
  have u1 : q9upN w 6 [.int x5] 2 = .int x1 := q9upN_of (by decide) ae1
  have u2 : q9upN w 6 [.int x5] 3 = .int x2 := q9upN_of (by decide) ae2
  have u3 : q9upN w 6 [.int x5] 4 = .int x3 := q9upN_of (by decide) ae3
  have u4 : q9upN w 6 [.int x5] 5 = .int x4 := q9upN_of (by decide) ae4
  have u5 : q9upN w 6 [.int x5] 6 = .int x5 := q9upN_at (by decide)
  refine ⟨[.int x5], fun i9 p9 hq9 => ?_, List.forall_mem_cons.mpr ⟨?_, fun _ h => absurd h List.not_mem_nil⟩, fun _ h => absurd h List.not_mem_nil⟩
  · match i9, hq9 with
    | 0, hq9 =>
      have hp9 : ((1212, (1, 0), (0, 0), (0, 0, 0)) : Nat × q9AV × q9AV × q9ET) = p9 := Option.some.inj hq9
      subst hp9
      exact ⟨⟨x5, rfl, by rw [nt5]; exact rg0.1, by rw [nt5]; exact rg0.2⟩, (q9th_tX (T := T) (N := N) (P := P) (J := J) (t0 := t0) (Sc := Sc) (q9evS u0) (q9evZ u_) (q9evS u5) (by rw [q9FF_1212, nt5]; exact (show some (q9tkN T N 0 (P - 1) x0.toInt).1 = _ by rw [tk])) (by decide)).trans (congrArg some (q9evS u5))⟩
    | k9 + 1, hq9 => exact nomatch (show (none : Option (Nat × q9AV × q9AV × q9ET)) = some p9 from hq9)
  · exact q9th_tX (T := T) (N := N) (P := P) (J := J) (t0 := t0) (Sc := Sc) (q9evS u0) (q9evZ u_) (q9evS u2) (by rw [q9FF_1213]; exact (show some (q9tkN T N 0 (P - 1) x0.toInt).2 = _ by rw [tk])) (by decide)
theorem q9ru_tf6 (hT : ∀ i, 0 ≤ T i ∧ T i ≤ 255) (hN : 0 ≤ N ∧ N ≤ 400) (hSc : 0 ≤ Sc 1 ∧ Sc 1 ≤ 400 → N = Sc 1) : q9ruOK (fO T N P J t0 Sc) q9R_tf6 := by
  intro w w0 hA hX hL hV hR
  obtain ⟨x0, ae0, -, -⟩ := hA 0 0 rfl
  obtain ⟨x1, ae1, -, -⟩ := hA 1 0 rfl
  obtain ⟨x2, ae2, -, -⟩ := hA 2 0 rfl
  obtain ⟨x3, ae3, -, -⟩ := hA 3 0 rfl
  obtain ⟨x4, ae4, -, -⟩ := hA 4 0 rfl
  have kz : (0 : Int32).toInt = 0 := rfl
  have X0 := q9th_pX (T := T) (N := N) (P := P) (J := J) (t0 := t0) (Sc := Sc) (op := 1002) (q9evS ae0) (q9evZ w0) (q9evS ae1) (hX _ (List.mem_of_getElem? (i := 0) rfl)) (by decide)
  rw [q9FF_1002] at X0
  have H0 := Option.some.inj X0
  try simp only [kz] at H0
  have X1 := q9th_pX (T := T) (N := N) (P := P) (J := J) (t0 := t0) (Sc := Sc) (op := 1004) (q9evS ae1) (q9evZ w0) (q9evS ae2) (hX _ (List.mem_of_getElem? (i := 1) rfl)) (by decide)
  rw [q9FF_1004] at X1
  have H1 := Option.some.inj X1
  try simp only [kz] at H1
  have L0 : (0 : Int32).toInt ≤ x0.toInt + 0 := q9pC (q9evZ w0) (q9evS ae0) (hL _ (List.mem_of_getElem? (i := 0) rfl))
  have L1 : (0 : Int32).toInt ≤ x1.toInt + 0 := q9pC (q9evZ w0) (q9evS ae1) (hL _ (List.mem_of_getElem? (i := 1) rfl))
  have X2 := q9th_pX (T := T) (N := N) (P := P) (J := J) (t0 := t0) (Sc := Sc) (op := 1015) (q9evZ w0) (q9evZ w0) (q9evS ae4) (hX _ (List.mem_of_getElem? (i := 2) rfl)) (by decide)
  rw [q9FF_1015] at X2
  have H2 := Option.some.inj X2
  try simp only [kz] at H2
  have L2 : x2.toInt ≤ x1.toInt + 0 := q9pC (q9evS ae2) (q9evS ae1) (hL _ (List.mem_of_getElem? (i := 2) rfl))
  have tk : q9tkN T N 0 (P - 1) x0.toInt = (1, x1.toInt) := q9tkN_1 H0 H1 (by omega)
  have rg0 : (1 : Int) ≤ 1 ∧ (1 : Int) ≤ 1 := by omega
  obtain ⟨x5, nt5⟩ : ∃ x : Int32, x.toInt = 1 := ⟨Int32.ofInt (1), q9oI_toInt (by omega)⟩
  have u_ : q9upN w 6 [.int x5] 0 = .int 0 := q9upN_of (by decide) w0
  have u0 : q9upN w 6 [.int x5] 1 = .int x0 := q9upN_of (by decide) ae0
  have u1 : q9upN w 6 [.int x5] 2 = .int x1 := q9upN_of (by decide) ae1
  have u2 : q9upN w 6 [.int x5] 3 = .int x2 := q9upN_of (by decide) ae2
  have u3 : q9upN w 6 [.int x5] 4 = .int x3 := q9upN_of (by decide) ae3
  have u4 : q9upN w 6 [.int x5] 5 = .int x4 := q9upN_of (by decide) ae4
  have u5 : q9upN w 6 [.int x5] 6 = .int x5 := q9upN_at (by decide)
  refine ⟨[.int x5], fun i9 p9 hq9 => ?_, List.forall_mem_cons.mpr ⟨?_, fun _ h => absurd h List.not_mem_nil⟩, fun _ h => absurd h List.not_mem_nil⟩
  · match i9, hq9 with
    | 0, hq9 =>
      have hp9 : ((1212, (1, 0), (0, 0), (0, 1, 1)) : Nat × q9AV × q9AV × q9ET) = p9 := Option.some.inj hq9
      subst hp9
      exact ⟨⟨x5, rfl, by rw [nt5]; exact rg0.1, by rw [nt5]; exact rg0.2⟩, (q9th_tX (T := T) (N := N) (P := P) (J := J) (t0 := t0) (Sc := Sc) (q9evS u0) (q9evZ u_) (q9evS u5) (by rw [q9FF_1212, nt5]; exact (show some (q9tkN T N 0 (P - 1) x0.toInt).1 = _ by rw [tk])) (by decide)).trans (congrArg some (q9evS u5))⟩
    | k9 + 1, hq9 => exact nomatch (show (none : Option (Nat × q9AV × q9AV × q9ET)) = some p9 from hq9)
  · exact q9th_tX (T := T) (N := N) (P := P) (J := J) (t0 := t0) (Sc := Sc) (q9evS u0) (q9evZ u_) (q9evS u1) (by rw [q9FF_1213]; exact (show some (q9tkN T N 0 (P - 1) x0.toInt).2 = _ by rw [tk])) (by decide)
theorem q9ru_th6 (hT : ∀ i, 0 ≤ T i ∧ T i ≤ 255) (hN : 0 ≤ N ∧ N ≤ 400) (hSc : 0 ≤ Sc 1 ∧ Sc 1 ≤ 400 → N = Sc 1) : q9ruOK (fO T N P J t0 Sc) q9R_th6 := by
  intro w w0 hA hX hL hV hR
  obtain ⟨x0, ae0, -, -⟩ := hA 0 0 rfl
  obtain ⟨x1, ae1, -, -⟩ := hA 1 0 rfl
  obtain ⟨x2, ae2, -, -⟩ := hA 2 0 rfl
  obtain ⟨x3, ae3, -, -⟩ := hA 3 0 rfl
  obtain ⟨x4, ae4, -, -⟩ := hA 4 0 rfl
  have kz : (0 : Int32).toInt = 0 := rfl
  have X0 := q9th_pX (T := T) (N := N) (P := P) (J := J) (t0 := t0) (Sc := Sc) (op := 1002) (q9evS ae0) (q9evZ w0) (q9evS ae1) (hX _ (List.mem_of_getElem? (i := 0) rfl)) (by decide)
  rw [q9FF_1002] at X0
  have H0 := Option.some.inj X0
  try simp only [kz] at H0
  have X1 := q9th_pX (T := T) (N := N) (P := P) (J := J) (t0 := t0) (Sc := Sc) (op := 1004) (q9evS ae1) (q9evZ w0) (q9evS ae2) (hX _ (List.mem_of_getElem? (i := 1) rfl)) (by decide)
  rw [q9FF_1004] at X1
  have H1 := Option.some.inj X1
  try simp only [kz] at H1
  have L0 : (0 : Int32).toInt ≤ x0.toInt + 0 := q9pC (q9evZ w0) (q9evS ae0) (hL _ (List.mem_of_getElem? (i := 0) rfl))
  have L1 : (0 : Int32).toInt ≤ x1.toInt + 0 := q9pC (q9evZ w0) (q9evS ae1) (hL _ (List.mem_of_getElem? (i := 1) rfl))
  have X2 := q9th_pX (T := T) (N := N) (P := P) (J := J) (t0 := t0) (Sc := Sc) (op := 1015) (q9evZ w0) (q9evZ w0) (q9evS ae4) (hX _ (List.mem_of_getElem? (i := 2) rfl)) (by decide)
  rw [q9FF_1015] at X2
  have H2 := Option.some.inj X2
  try simp only [kz] at H2
  have X3 := q9th_pX (T := T) (N := N) (P := P) (J := J) (t0 := t0) (Sc := Sc) (op := 1005) (q9evS ae1) (q9evZ w0) (q9evS ae3) (hX _ (List.mem_of_getElem? (i := 3) rfl)) (by decide)
  rw [q9FF_1005] at X3
  have H3 := Option.some.inj X3
  try simp only [kz] at H3
  have L2 : x1.toInt ≤ x2.toInt + (-1) := q9pC (q9evS ae1) (q9evS ae2) (hL _ (List.mem_of_getElem? (i := 2) rfl))
  have L3 : x4.toInt ≤ x3.toInt + 0 := q9pC (q9evS ae4) (q9evS ae3) (hL _ (List.mem_of_getElem? (i := 3) rfl))
  have tk : q9tkN T N 0 (P - 1) x0.toInt = (2, x1.toInt) := q9tkN_2 H0 H1 H3 (by omega) (by omega)
  have rg0 : (2 : Int) ≤ 2 ∧ (2 : Int) ≤ 2 := by omega
  obtain ⟨x5, nt5⟩ : ∃ x : Int32, x.toInt = 2 := ⟨Int32.ofInt (2), q9oI_toInt (by omega)⟩
  have u_ : q9upN w 6 [.int x5] 0 = .int 0 := q9upN_of (by decide) w0
  have u0 : q9upN w 6 [.int x5] 1 = .int x0 := q9upN_of (by decide) ae0
  have u1 : q9upN w 6 [.int x5] 2 = .int x1 := q9upN_of (by decide) ae1
  have u2 : q9upN w 6 [.int x5] 3 = .int x2 := q9upN_of (by decide) ae2
  have u3 : q9upN w 6 [.int x5] 4 = .int x3 := q9upN_of (by decide) ae3
  have u4 : q9upN w 6 [.int x5] 5 = .int x4 := q9upN_of (by decide) ae4
  have u5 : q9upN w 6 [.int x5] 6 = .int x5 := q9upN_at (by decide)
  refine ⟨[.int x5], fun i9 p9 hq9 => ?_, List.forall_mem_cons.mpr ⟨?_, fun _ h => absurd h List.not_mem_nil⟩, fun _ h => absurd h List.not_mem_nil⟩
  · match i9, hq9 with
    | 0, hq9 =>
      have hp9 : ((1212, (1, 0), (0, 0), (0, 2, 2)) : Nat × q9AV × q9AV × q9ET) = p9 := Option.some.inj hq9
      subst hp9
      exact ⟨⟨x5, rfl, by rw [nt5]; exact rg0.1, by rw [nt5]; exact rg0.2⟩, (q9th_tX (T := T) (N := N) (P := P) (J := J) (t0 := t0) (Sc := Sc) (q9evS u0) (q9evZ u_) (q9evS u5) (by rw [q9FF_1212, nt5]; exact (show some (q9tkN T N 0 (P - 1) x0.toInt).1 = _ by rw [tk])) (by decide)).trans (congrArg some (q9evS u5))⟩
    | k9 + 1, hq9 => exact nomatch (show (none : Option (Nat × q9AV × q9AV × q9ET)) = some p9 from hq9)
  · exact q9th_tX (T := T) (N := N) (P := P) (J := J) (t0 := t0) (Sc := Sc) (q9evS u0) (q9evZ u_) (q9evS u1) (by rw [q9FF_1213]; exact (show some (q9tkN T N 0 (P - 1) x0.toInt).2 = _ by rw [tk])) (by decide)
theorem q9ru_tn7 (hT : ∀ i, 0 ≤ T i ∧ T i ≤ 255) (hN : 0 ≤ N ∧ N ≤ 400) (hSc : 0 ≤ Sc 1 ∧ Sc 1 ≤ 400 → N = Sc 1) : q9ruOK (fO T N P J t0 Sc) q9R_tn7 := by
  intro w w0 hA hX hL hV hR
  obtain ⟨x0, ae0, -, -⟩ := hA 0 0 rfl
  obtain ⟨x1, ae1, -, -⟩ := hA 1 0 rfl
  obtain ⟨x2, ae2, -, -⟩ := hA 2 0 rfl
  obtain ⟨x3, ae3, -, -⟩ := hA 3 0 rfl
  obtain ⟨x4, ae4, -, -⟩ := hA 4 0 rfl
  obtain ⟨x5, ae5, -, -⟩ := hA 5 0 rfl
  have kz : (0 : Int32).toInt = 0 := rfl
  have X0 := q9th_pX (T := T) (N := N) (P := P) (J := J) (t0 := t0) (Sc := Sc) (op := 1002) (q9evS ae0) (q9evZ w0) (q9evS ae1) (hX _ (List.mem_of_getElem? (i := 0) rfl)) (by decide)
  rw [q9FF_1002] at X0
  have H0 := Option.some.inj X0
  try simp only [kz] at H0
  have X1 := q9th_pX (T := T) (N := N) (P := P) (J := J) (t0 := t0) (Sc := Sc) (op := 1004) (q9evS ae1) (q9evZ w0) (q9evS ae2) (hX _ (List.mem_of_getElem? (i := 1) rfl)) (by decide)
  rw [q9FF_1004] at X1
  have H1 := Option.some.inj X1
  try simp only [kz] at H1
  have L0 : (0 : Int32).toInt ≤ x0.toInt + 0 := q9pC (q9evZ w0) (q9evS ae0) (hL _ (List.mem_of_getElem? (i := 0) rfl))
  have L1 : (0 : Int32).toInt ≤ x1.toInt + 0 := q9pC (q9evZ w0) (q9evS ae1) (hL _ (List.mem_of_getElem? (i := 1) rfl))
  have X2 := q9th_pX (T := T) (N := N) (P := P) (J := J) (t0 := t0) (Sc := Sc) (op := 1016) (q9evS ae4) (q9evZ w0) (q9evS ae5) (hX _ (List.mem_of_getElem? (i := 2) rfl)) (by decide)
  rw [q9FF_1016] at X2
  have H2 := Option.some.inj X2
  try simp only [kz] at H2
  have X3 := q9th_pX (T := T) (N := N) (P := P) (J := J) (t0 := t0) (Sc := Sc) (op := 1005) (q9evS ae1) (q9evZ w0) (q9evS ae3) (hX _ (List.mem_of_getElem? (i := 3) rfl)) (by decide)
  rw [q9FF_1005] at X3
  have H3 := Option.some.inj X3
  try simp only [kz] at H3
  have L2 : x1.toInt ≤ x2.toInt + (-1) := q9pC (q9evS ae1) (q9evS ae2) (hL _ (List.mem_of_getElem? (i := 2) rfl))
  have L3 : (0 : Int32).toInt ≤ x3.toInt + 0 := q9pC (q9evZ w0) (q9evS ae3) (hL _ (List.mem_of_getElem? (i := 3) rfl))
  have L4 : x3.toInt ≤ x5.toInt + (-1) := q9pC (q9evS ae3) (q9evS ae5) (hL _ (List.mem_of_getElem? (i := 4) rfl))
  have tk : q9tkN T N 0 (J x4.toInt - 1) x0.toInt = (0, x2.toInt) := q9tkN_0 H0 H1 H3 (by omega) (by omega) (by omega)
  have rg0 : (0 : Int) ≤ 0 ∧ (0 : Int) ≤ 0 := by omega
  obtain ⟨x6, nt6⟩ : ∃ x : Int32, x.toInt = 0 := ⟨Int32.ofInt (0), q9oI_toInt (by omega)⟩
  have u_ : q9upN w 7 [.int x6] 0 = .int 0 := q9upN_of (by decide) w0
  have u0 : q9upN w 7 [.int x6] 1 = .int x0 := q9upN_of (by decide) ae0
  have u1 : q9upN w 7 [.int x6] 2 = .int x1 := q9upN_of (by decide) ae1
  have u2 : q9upN w 7 [.int x6] 3 = .int x2 := q9upN_of (by decide) ae2
  have u3 : q9upN w 7 [.int x6] 4 = .int x3 := q9upN_of (by decide) ae3
  have u4 : q9upN w 7 [.int x6] 5 = .int x4 := q9upN_of (by decide) ae4
  have u5 : q9upN w 7 [.int x6] 6 = .int x5 := q9upN_of (by decide) ae5
  have u6 : q9upN w 7 [.int x6] 7 = .int x6 := q9upN_at (by decide)
  refine ⟨[.int x6], fun i9 p9 hq9 => ?_, List.forall_mem_cons.mpr ⟨?_, fun _ h => absurd h List.not_mem_nil⟩, fun _ h => absurd h List.not_mem_nil⟩
  · match i9, hq9 with
    | 0, hq9 =>
      have hp9 : ((1214, (1, 0), (5, 0), (0, 0, 0)) : Nat × q9AV × q9AV × q9ET) = p9 := Option.some.inj hq9
      subst hp9
      exact ⟨⟨x6, rfl, by rw [nt6]; exact rg0.1, by rw [nt6]; exact rg0.2⟩, (q9th_tX (T := T) (N := N) (P := P) (J := J) (t0 := t0) (Sc := Sc) (q9evS u0) (q9evS u4) (q9evS u6) (by rw [q9FF_1214, nt6]; exact (show some (q9tkN T N 0 (J x4.toInt - 1) x0.toInt).1 = _ by rw [tk])) (by decide)).trans (congrArg some (q9evS u6))⟩
    | k9 + 1, hq9 => exact nomatch (show (none : Option (Nat × q9AV × q9AV × q9ET)) = some p9 from hq9)
  · exact q9th_tX (T := T) (N := N) (P := P) (J := J) (t0 := t0) (Sc := Sc) (q9evS u0) (q9evS u4) (q9evS u2) (by rw [q9FF_1215]; exact (show some (q9tkN T N 0 (J x4.toInt - 1) x0.toInt).2 = _ by rw [tk])) (by decide)
theorem q9ru_tf7 (hT : ∀ i, 0 ≤ T i ∧ T i ≤ 255) (hN : 0 ≤ N ∧ N ≤ 400) (hSc : 0 ≤ Sc 1 ∧ Sc 1 ≤ 400 → N = Sc 1) : q9ruOK (fO T N P J t0 Sc) q9R_tf7 := by
  intro w w0 hA hX hL hV hR
  obtain ⟨x0, ae0, -, -⟩ := hA 0 0 rfl
  obtain ⟨x1, ae1, -, -⟩ := hA 1 0 rfl
  obtain ⟨x2, ae2, -, -⟩ := hA 2 0 rfl
  obtain ⟨x3, ae3, -, -⟩ := hA 3 0 rfl
  obtain ⟨x4, ae4, -, -⟩ := hA 4 0 rfl
  obtain ⟨x5, ae5, -, -⟩ := hA 5 0 rfl
  have kz : (0 : Int32).toInt = 0 := rfl
  have X0 := q9th_pX (T := T) (N := N) (P := P) (J := J) (t0 := t0) (Sc := Sc) (op := 1002) (q9evS ae0) (q9evZ w0) (q9evS ae1) (hX _ (List.mem_of_getElem? (i := 0) rfl)) (by decide)
  rw [q9FF_1002] at X0
  have H0 := Option.some.inj X0
  try simp only [kz] at H0
  have X1 := q9th_pX (T := T) (N := N) (P := P) (J := J) (t0 := t0) (Sc := Sc) (op := 1004) (q9evS ae1) (q9evZ w0) (q9evS ae2) (hX _ (List.mem_of_getElem? (i := 1) rfl)) (by decide)
  rw [q9FF_1004] at X1
  have H1 := Option.some.inj X1
  try simp only [kz] at H1
  have L0 : (0 : Int32).toInt ≤ x0.toInt + 0 := q9pC (q9evZ w0) (q9evS ae0) (hL _ (List.mem_of_getElem? (i := 0) rfl))
  have L1 : (0 : Int32).toInt ≤ x1.toInt + 0 := q9pC (q9evZ w0) (q9evS ae1) (hL _ (List.mem_of_getElem? (i := 1) rfl))
  have X2 := q9th_pX (T := T) (N := N) (P := P) (J := J) (t0 := t0) (Sc := Sc) (op := 1016) (q9evS ae4) (q9evZ w0) (q9evS ae5) (hX _ (List.mem_of_getElem? (i := 2) rfl)) (by decide)
  rw [q9FF_1016] at X2
  have H2 := Option.some.inj X2
  try simp only [kz] at H2
  have L2 : x2.toInt ≤ x1.toInt + 0 := q9pC (q9evS ae2) (q9evS ae1) (hL _ (List.mem_of_getElem? (i := 2) rfl))
  have tk : q9tkN T N 0 (J x4.toInt - 1) x0.toInt = (1, x1.toInt) := q9tkN_1 H0 H1 (by omega)
  have rg0 : (1 : Int) ≤ 1 ∧ (1 : Int) ≤ 1 := by omega
  obtain ⟨x6, nt6⟩ : ∃ x : Int32, x.toInt = 1 := ⟨Int32.ofInt (1), q9oI_toInt (by omega)⟩
  have u_ : q9upN w 7 [.int x6] 0 = .int 0 := q9upN_of (by decide) w0
  have u0 : q9upN w 7 [.int x6] 1 = .int x0 := q9upN_of (by decide) ae0
  have u1 : q9upN w 7 [.int x6] 2 = .int x1 := q9upN_of (by decide) ae1
  have u2 : q9upN w 7 [.int x6] 3 = .int x2 := q9upN_of (by decide) ae2
  have u3 : q9upN w 7 [.int x6] 4 = .int x3 := q9upN_of (by decide) ae3
  have u4 : q9upN w 7 [.int x6] 5 = .int x4 := q9upN_of (by decide) ae4
  have u5 : q9upN w 7 [.int x6] 6 = .int x5 := q9upN_of (by decide) ae5
  have u6 : q9upN w 7 [.int x6] 7 = .int x6 := q9upN_at (by decide)
  refine ⟨[.int x6], fun i9 p9 hq9 => ?_, List.forall_mem_cons.mpr ⟨?_, fun _ h => absurd h List.not_mem_nil⟩, fun _ h => absurd h List.not_mem_nil⟩
  · match i9, hq9 with
    | 0, hq9 =>
      have hp9 : ((1214, (1, 0), (5, 0), (0, 1, 1)) : Nat × q9AV × q9AV × q9ET) = p9 := Option.some.inj hq9
      subst hp9
      exact ⟨⟨x6, rfl, by rw [nt6]; exact rg0.1, by rw [nt6]; exact rg0.2⟩, (q9th_tX (T := T) (N := N) (P := P) (J := J) (t0 := t0) (Sc := Sc) (q9evS u0) (q9evS u4) (q9evS u6) (by rw [q9FF_1214, nt6]; exact (show some (q9tkN T N 0 (J x4.toInt - 1) x0.toInt).1 = _ by rw [tk])) (by decide)).trans (congrArg some (q9evS u6))⟩
    | k9 + 1, hq9 => exact nomatch (show (none : Option (Nat × q9AV × q9AV × q9ET)) = some p9 from hq9)
  · exact q9th_tX (T := T) (N := N) (P := P) (J := J) (t0 := t0) (Sc := Sc) (q9evS u0) (q9evS u4) (q9evS u1) (by rw [q9FF_1215]; exact (show some (q9tkN T N 0 (J x4.toInt - 1) x0.toInt).2 = _ by rw [tk])) (by decide)
theorem q9ru_th7 (hT : ∀ i, 0 ≤ T i ∧ T i ≤ 255) (hN : 0 ≤ N ∧ N ≤ 400) (hSc : 0 ≤ Sc 1 ∧ Sc 1 ≤ 400 → N = Sc 1) : q9ruOK (fO T N P J t0 Sc) q9R_th7 := by
  intro w w0 hA hX hL hV hR
  obtain ⟨x0, ae0, -, -⟩ := hA 0 0 rfl
  obtain ⟨x1, ae1, -, -⟩ := hA 1 0 rfl
  obtain ⟨x2, ae2, -, -⟩ := hA 2 0 rfl
  obtain ⟨x3, ae3, -, -⟩ := hA 3 0 rfl
  obtain ⟨x4, ae4, -, -⟩ := hA 4 0 rfl
  obtain ⟨x5, ae5, -, -⟩ := hA 5 0 rfl
  have kz : (0 : Int32).toInt = 0 := rfl
  have X0 := q9th_pX (T := T) (N := N) (P := P) (J := J) (t0 := t0) (Sc := Sc) (op := 1002) (q9evS ae0) (q9evZ w0) (q9evS ae1) (hX _ (List.mem_of_getElem? (i := 0) rfl)) (by decide)
  rw [q9FF_1002] at X0
  have H0 := Option.some.inj X0
  try simp only [kz] at H0
  have X1 := q9th_pX (T := T) (N := N) (P := P) (J := J) (t0 := t0) (Sc := Sc) (op := 1004) (q9evS ae1) (q9evZ w0) (q9evS ae2) (hX _ (List.mem_of_getElem? (i := 1) rfl)) (by decide)
  rw [q9FF_1004] at X1
  have H1 := Option.some.inj X1
  try simp only [kz] at H1
  have L0 : (0 : Int32).toInt ≤ x0.toInt + 0 := q9pC (q9evZ w0) (q9evS ae0) (hL _ (List.mem_of_getElem? (i := 0) rfl))
  have L1 : (0 : Int32).toInt ≤ x1.toInt + 0 := q9pC (q9evZ w0) (q9evS ae1) (hL _ (List.mem_of_getElem? (i := 1) rfl))
  have X2 := q9th_pX (T := T) (N := N) (P := P) (J := J) (t0 := t0) (Sc := Sc) (op := 1016) (q9evS ae4) (q9evZ w0) (q9evS ae5) (hX _ (List.mem_of_getElem? (i := 2) rfl)) (by decide)
  rw [q9FF_1016] at X2
  have H2 := Option.some.inj X2
  try simp only [kz] at H2
  have X3 := q9th_pX (T := T) (N := N) (P := P) (J := J) (t0 := t0) (Sc := Sc) (op := 1005) (q9evS ae1) (q9evZ w0) (q9evS ae3) (hX _ (List.mem_of_getElem? (i := 3) rfl)) (by decide)
  rw [q9FF_1005] at X3
  have H3 := Option.some.inj X3
  try simp only [kz] at H3
  have L2 : x1.toInt ≤ x2.toInt + (-1) := q9pC (q9evS ae1) (q9evS ae2) (hL _ (List.mem_of_getElem? (i := 2) rfl))
  have L3 : x5.toInt ≤ x3.toInt + 0 := q9pC (q9evS ae5) (q9evS ae3) (hL _ (List.mem_of_getElem? (i := 3) rfl))
  have tk : q9tkN T N 0 (J x4.toInt - 1) x0.toInt = (2, x1.toInt) := q9tkN_2 H0 H1 H3 (by omega) (by omega)
  have rg0 : (2 : Int) ≤ 2 ∧ (2 : Int) ≤ 2 := by omega
  obtain ⟨x6, nt6⟩ : ∃ x : Int32, x.toInt = 2 := ⟨Int32.ofInt (2), q9oI_toInt (by omega)⟩
  have u_ : q9upN w 7 [.int x6] 0 = .int 0 := q9upN_of (by decide) w0
  have u0 : q9upN w 7 [.int x6] 1 = .int x0 := q9upN_of (by decide) ae0
  have u1 : q9upN w 7 [.int x6] 2 = .int x1 := q9upN_of (by decide) ae1
  have u2 : q9upN w 7 [.int x6] 3 = .int x2 := q9upN_of (by decide) ae2
  have u3 : q9upN w 7 [.int x6] 4 = .int x3 := q9upN_of (by decide) ae3
  have u4 : q9upN w 7 [.int x6] 5 = .int x4 := q9upN_of (by decide) ae4
  have u5 : q9upN w 7 [.int x6] 6 = .int x5 := q9upN_of (by decide) ae5
  have u6 : q9upN w 7 [.int x6] 7 = .int x6 := q9upN_at (by decide)
  refine ⟨[.int x6], fun i9 p9 hq9 => ?_, List.forall_mem_cons.mpr ⟨?_, fun _ h => absurd h List.not_mem_nil⟩, fun _ h => absurd h List.not_mem_nil⟩
  · match i9, hq9 with
    | 0, hq9 =>
      have hp9 : ((1214, (1, 0), (5, 0), (0, 2, 2)) : Nat × q9AV × q9AV × q9ET) = p9 := Option.some.inj hq9
      subst hp9
      exact ⟨⟨x6, rfl, by rw [nt6]; exact rg0.1, by rw [nt6]; exact rg0.2⟩, (q9th_tX (T := T) (N := N) (P := P) (J := J) (t0 := t0) (Sc := Sc) (q9evS u0) (q9evS u4) (q9evS u6) (by rw [q9FF_1214, nt6]; exact (show some (q9tkN T N 0 (J x4.toInt - 1) x0.toInt).1 = _ by rw [tk])) (by decide)).trans (congrArg some (q9evS u6))⟩
    | k9 + 1, hq9 => exact nomatch (show (none : Option (Nat × q9AV × q9AV × q9ET)) = some p9 from hq9)
  · exact q9th_tX (T := T) (N := N) (P := P) (J := J) (t0 := t0) (Sc := Sc) (q9evS u0) (q9evS u4) (q9evS u1) (by rw [q9FF_1215]; exact (show some (q9tkN T N 0 (J x4.toInt - 1) x0.toInt).2 = _ by rw [tk])) (by decide)
theorem q9ruP_6 (hT : ∀ i, 0 ≤ T i ∧ T i ≤ 255) (hN : 0 ≤ N ∧ N ≤ 400) (hSc : 0 ≤ Sc 1 ∧ Sc 1 ≤ 400 → N = Sc 1) : ∀ q ∈ q9RULES_6, q9ruOK (fO T N P J t0 Sc) q := List.forall_mem_cons.mpr ⟨q9ru_wl18 hT hN hSc, List.forall_mem_cons.mpr ⟨q9ru_wm18 hT hN hSc, List.forall_mem_cons.mpr ⟨q9ru_wa18_0 hT hN hSc, List.forall_mem_cons.mpr ⟨q9ru_wb18_0 hT hN hSc, List.forall_mem_cons.mpr ⟨q9ru_wa18_1 hT hN hSc, List.forall_mem_cons.mpr ⟨q9ru_wb18_1 hT hN hSc, List.forall_mem_cons.mpr ⟨q9ru_wa18_2 hT hN hSc, List.forall_mem_cons.mpr ⟨q9ru_wb18_2 hT hN hSc, List.forall_mem_cons.mpr ⟨q9ru_wa18_3 hT hN hSc, List.forall_mem_cons.mpr ⟨q9ru_wb18_3 hT hN hSc, List.forall_mem_cons.mpr ⟨q9ru_wa18_4 hT hN hSc, List.forall_mem_cons.mpr ⟨q9ru_wb18_4 hT hN hSc, List.forall_mem_cons.mpr ⟨q9ru_wy18 hT hN hSc, List.forall_mem_cons.mpr ⟨q9ru_tn0 hT hN hSc, List.forall_mem_cons.mpr ⟨q9ru_tf0 hT hN hSc, List.forall_mem_cons.mpr ⟨q9ru_tl0 hT hN hSc, List.forall_mem_cons.mpr ⟨q9ru_th0 hT hN hSc, List.forall_mem_cons.mpr ⟨q9ru_tn1 hT hN hSc, List.forall_mem_cons.mpr ⟨q9ru_tf1 hT hN hSc, List.forall_mem_cons.mpr ⟨q9ru_tl1 hT hN hSc, List.forall_mem_cons.mpr ⟨q9ru_th1 hT hN hSc, List.forall_mem_cons.mpr ⟨q9ru_tn2 hT hN hSc, List.forall_mem_cons.mpr ⟨q9ru_tf2 hT hN hSc, List.forall_mem_cons.mpr ⟨q9ru_tl2 hT hN hSc, List.forall_mem_cons.mpr ⟨q9ru_th2 hT hN hSc, List.forall_mem_cons.mpr ⟨q9ru_tn3 hT hN hSc, List.forall_mem_cons.mpr ⟨q9ru_tf3 hT hN hSc, List.forall_mem_cons.mpr ⟨q9ru_th3 hT hN hSc, List.forall_mem_cons.mpr ⟨q9ru_tn4 hT hN hSc, List.forall_mem_cons.mpr ⟨q9ru_tf4 hT hN hSc, List.forall_mem_cons.mpr ⟨q9ru_th4 hT hN hSc, List.forall_mem_cons.mpr ⟨q9ru_tn5 hT hN hSc, List.forall_mem_cons.mpr ⟨q9ru_tf5 hT hN hSc, List.forall_mem_cons.mpr ⟨q9ru_th5 hT hN hSc, List.forall_mem_cons.mpr ⟨q9ru_tn6 hT hN hSc, List.forall_mem_cons.mpr ⟨q9ru_tf6 hT hN hSc, List.forall_mem_cons.mpr ⟨q9ru_th6 hT hN hSc, List.forall_mem_cons.mpr ⟨q9ru_tn7 hT hN hSc, List.forall_mem_cons.mpr ⟨q9ru_tf7 hT hN hSc, List.forall_mem_cons.mpr ⟨q9ru_th7 hT hN hSc, fun _ h => absurd h List.not_mem_nil⟩⟩⟩⟩⟩⟩⟩⟩⟩⟩⟩⟩⟩⟩⟩⟩⟩⟩⟩⟩⟩⟩⟩⟩⟩⟩⟩⟩⟩⟩⟩⟩⟩⟩⟩⟩⟩⟩⟩⟩
end RUL
