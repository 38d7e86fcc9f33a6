section RUL
variable {T : Int → Int} {N P : Int} {J : Int → Int} {t0 : Int} {Sc : Int → Int}
theorem q9ru_wa2_0 (hT : ∀ i, 0 ≤ T i ∧ T i ≤ 255) (hN : 0 ≤ N ∧ N ≤ 400) (hSc : 0 ≤ Sc 1 ∧ Sc 1 ≤ 400 → N = Sc 1) : q9ruOK (fO T N P J t0 Sc) q9R_wa2_0 := by
  intro w w0 hA hX hL hV hR
  obtain ⟨x0, ae0, -, -⟩ := hA 0 0 rfl
  obtain ⟨x1, ae1, -, -⟩ := hA 1 0 rfl
  have kz : (0 : Int32).toInt = 0 := rfl
  have k114 : (Int32.ofInt 114).toInt = 114 := q9oI_toInt (by decide)
  have X0 := q9th_pX (T := T) (N := N) (P := P) (J := J) (t0 := t0) (Sc := Sc) (op := 1000) (q9evS ae0) (q9evZ w0) (q9evS ae1) (hX _ (List.mem_of_getElem? (i := 0) rfl)) (by decide)
  rw [q9FF_1000] at X0
  have H0 := Option.some.inj X0
  try simp only [kz, k114] at H0
  have L0 : x1.toInt ≤ (Int32.ofInt 114).toInt + 0 := q9pC (q9evS ae1) (q9evC w0 114) (hL _ (List.mem_of_getElem? (i := 0) rfl))
  have L1 : (0 : Int32).toInt ≤ x0.toInt + 0 := q9pC (q9evZ w0) (q9evS ae0) (hL _ (List.mem_of_getElem? (i := 1) rfl))
  have hne : q9byI T N (x0.toInt + ((0 : Nat) : Int)) ≠ 115 := by
    rw [show x0.toInt + ((0 : Nat) : Int) = x0.toInt by omega]
    omega
  have rg0 : (0 : Int) ≤ 0 ∧ (0 : Int) ≤ 0 := by omega
  obtain ⟨x2, nt2⟩ : ∃ x : Int32, x.toInt = 0 := ⟨Int32.ofInt (0), q9oI_toInt (by omega)⟩
  have u_ : q9upN w 3 [.int x2] 0 = .int 0 := q9upN_of (by decide) w0
  have u0 : q9upN w 3 [.int x2] 1 = .int x0 := q9upN_of (by decide) ae0
  have u1 : q9upN w 3 [.int x2] 2 = .int x1 := q9upN_of (by decide) ae1
  have u2 : q9upN w 3 [.int x2] 3 = .int x2 := q9upN_at (by decide)
  refine ⟨[.int x2], fun i9 p9 hq9 => ?_, fun _ h => absurd h List.not_mem_nil, fun _ h => absurd h List.not_mem_nil⟩
  · match i9, hq9 with
    | 0, hq9 =>
      have hp9 : ((1102, (1, 0), (0, 0), (0, 0, 0)) : Nat × q9AV × q9AV × q9ET) = p9 := Option.some.inj hq9
      subst hp9
      exact ⟨⟨x2, rfl, by rw [nt2]; exact rg0.1, by rw [nt2]; exact rg0.2⟩, (q9th_tX (T := T) (N := N) (P := P) (J := J) (t0 := t0) (Sc := Sc) (q9evS u0) (q9evZ u_) (q9evS u2) (by rw [q9FF_1102, nt2]; exact (by show some (q9wsI T N 2 x0.toInt) = _; rw [q9ws_ne (t := 2) 0 (by decide) hne])) (by decide)).trans (congrArg some (q9evS u2))⟩
    | k9 + 1, hq9 => exact nomatch (show (none : Option (Nat × q9AV × q9AV × q9ET)) = some p9 from hq9)
theorem q9ru_wb2_0 (hT : ∀ i, 0 ≤ T i ∧ T i ≤ 255) (hN : 0 ≤ N ∧ N ≤ 400) (hSc : 0 ≤ Sc 1 ∧ Sc 1 ≤ 400 → N = Sc 1) : q9ruOK (fO T N P J t0 Sc) q9R_wb2_0 := by
  intro w w0 hA hX hL hV hR
  obtain ⟨x0, ae0, -, -⟩ := hA 0 0 rfl
  obtain ⟨x1, ae1, -, -⟩ := hA 1 0 rfl
  have kz : (0 : Int32).toInt = 0 := rfl
  have k116 : (Int32.ofInt 116).toInt = 116 := q9oI_toInt (by decide)
  have X0 := q9th_pX (T := T) (N := N) (P := P) (J := J) (t0 := t0) (Sc := Sc) (op := 1000) (q9evS ae0) (q9evZ w0) (q9evS ae1) (hX _ (List.mem_of_getElem? (i := 0) rfl)) (by decide)
  rw [q9FF_1000] at X0
  have H0 := Option.some.inj X0
  try simp only [kz, k116] at H0
  have L0 : (Int32.ofInt 116).toInt ≤ x1.toInt + 0 := q9pC (q9evC w0 116) (q9evS ae1) (hL _ (List.mem_of_getElem? (i := 0) rfl))
  have L1 : (0 : Int32).toInt ≤ x0.toInt + 0 := q9pC (q9evZ w0) (q9evS ae0) (hL _ (List.mem_of_getElem? (i := 1) rfl))
  have hne : q9byI T N (x0.toInt + ((0 : Nat) : Int)) ≠ 115 := by
    rw [show x0.toInt + ((0 : Nat) : Int) = x0.toInt by omega]
    omega
  have rg0 : (0 : Int) ≤ 0 ∧ (0 : Int) ≤ 0 := by omega
  obtain ⟨x2, nt2⟩ : ∃ x : Int32, x.toInt = 0 := ⟨Int32.ofInt (0), q9oI_toInt (by omega)⟩
  have u_ : q9upN w 3 [.int x2] 0 = .int 0 := q9upN_of (by decide) w0
  have u0 : q9upN w 3 [.int x2] 1 = .int x0 := q9upN_of (by decide) ae0
  have u1 : q9upN w 3 [.int x2] 2 = .int x1 := q9upN_of (by decide) ae1
  have u2 : q9upN w 3 [.int x2] 3 = .int x2 := q9upN_at (by decide)
  refine ⟨[.int x2], fun i9 p9 hq9 => ?_, fun _ h => absurd h List.not_mem_nil, fun _ h => absurd h List.not_mem_nil⟩
  · match i9, hq9 with
    | 0, hq9 =>
      have hp9 : ((1102, (1, 0), (0, 0), (0, 0, 0)) : Nat × q9AV × q9AV × q9ET) = p9 := Option.some.inj hq9
      subst hp9
      exact ⟨⟨x2, rfl, by rw [nt2]; exact rg0.1, by rw [nt2]; exact rg0.2⟩, (q9th_tX (T := T) (N := N) (P := P) (J := J) (t0 := t0) (Sc := Sc) (q9evS u0) (q9evZ u_) (q9evS u2) (by rw [q9FF_1102, nt2]; exact (by show some (q9wsI T N 2 x0.toInt) = _; rw [q9ws_ne (t := 2) 0 (by decide) hne])) (by decide)).trans (congrArg some (q9evS u2))⟩
    | k9 + 1, hq9 => exact nomatch (show (none : Option (Nat × q9AV × q9AV × q9ET)) = some p9 from hq9)
theorem q9ru_wa2_1 (hT : ∀ i, 0 ≤ T i ∧ T i ≤ 255) (hN : 0 ≤ N ∧ N ≤ 400) (hSc : 0 ≤ Sc 1 ∧ Sc 1 ≤ 400 → N = Sc 1) : q9ruOK (fO T N P J t0 Sc) q9R_wa2_1 := by
  intro w w0 hA hX hL hV hR
  obtain ⟨x0, ae0, -, -⟩ := hA 0 0 rfl
  obtain ⟨x1, ae1, -, -⟩ := hA 1 0 rfl
  have kz : (0 : Int32).toInt = 0 := rfl
  have k96 : (Int32.ofInt 96).toInt = 96 := q9oI_toInt (by decide)
  have X0 := q9th_pX (T := T) (N := N) (P := P) (J := J) (t0 := t0) (Sc := Sc) (op := 1000) (q9evO ae0 1) (q9evZ w0) (q9evS ae1) (hX _ (List.mem_of_getElem? (i := 0) rfl)) (by decide)
  rw [q9FF_1000] at X0
  have H0 := Option.some.inj X0
  try simp only [kz, k96] at H0
  have L0 : x1.toInt ≤ (Int32.ofInt 96).toInt + 0 := q9pC (q9evS ae1) (q9evC w0 96) (hL _ (List.mem_of_getElem? (i := 0) rfl))
  have L1 : (0 : Int32).toInt ≤ x0.toInt + 0 := q9pC (q9evZ w0) (q9evS ae0) (hL _ (List.mem_of_getElem? (i := 1) rfl))
  have hne : q9byI T N (x0.toInt + ((1 : Nat) : Int)) ≠ 97 := by
    rw [show x0.toInt + ((1 : Nat) : Int) = x0.toInt + 1 from rfl]
    by_cases hb : x0.toInt + 1 ≤ 2147483647
    · rw [q9ad32 (x := x0) (d := 1) (by omega)] at H0
      omega
    · intro h
      have := q9byI_lt (T := T) (N := N) (i := x0.toInt + 1) (by omega)
      omega
  have rg0 : (0 : Int) ≤ 0 ∧ (0 : Int) ≤ 0 := by omega
  obtain ⟨x2, nt2⟩ : ∃ x : Int32, x.toInt = 0 := ⟨Int32.ofInt (0), q9oI_toInt (by omega)⟩
  have u_ : q9upN w 3 [.int x2] 0 = .int 0 := q9upN_of (by decide) w0
  have u0 : q9upN w 3 [.int x2] 1 = .int x0 := q9upN_of (by decide) ae0
  have u1 : q9upN w 3 [.int x2] 2 = .int x1 := q9upN_of (by decide) ae1
  have u2 : q9upN w 3 [.int x2] 3 = .int x2 := q9upN_at (by decide)
  refine ⟨[.int x2], fun i9 p9 hq9 => ?_, fun _ h => absurd h List.not_mem_nil, fun _ h => absurd h List.not_mem_nil⟩
  · match i9, hq9 with
    | 0, hq9 =>
      have hp9 : ((1102, (1, 0), (0, 0), (0, 0, 0)) : Nat × q9AV × q9AV × q9ET) = p9 := Option.some.inj hq9
      subst hp9
      exact ⟨⟨x2, rfl, by rw [nt2]; exact rg0.1, by rw [nt2]; exact rg0.2⟩, (q9th_tX (T := T) (N := N) (P := P) (J := J) (t0 := t0) (Sc := Sc) (q9evS u0) (q9evZ u_) (q9evS u2) (by rw [q9FF_1102, nt2]; exact (by show some (q9wsI T N 2 x0.toInt) = _; rw [q9ws_ne (t := 2) 1 (by decide) hne])) (by decide)).trans (congrArg some (q9evS u2))⟩
    | k9 + 1, hq9 => exact nomatch (show (none : Option (Nat × q9AV × q9AV × q9ET)) = some p9 from hq9)
theorem q9ru_wb2_1 (hT : ∀ i, 0 ≤ T i ∧ T i ≤ 255) (hN : 0 ≤ N ∧ N ≤ 400) (hSc : 0 ≤ Sc 1 ∧ Sc 1 ≤ 400 → N = Sc 1) : q9ruOK (fO T N P J t0 Sc) q9R_wb2_1 := by
  intro w w0 hA hX hL hV hR
  obtain ⟨x0, ae0, -, -⟩ := hA 0 0 rfl
  obtain ⟨x1, ae1, -, -⟩ := hA 1 0 rfl
  have kz : (0 : Int32).toInt = 0 := rfl
  have k98 : (Int32.ofInt 98).toInt = 98 := q9oI_toInt (by decide)
  have X0 := q9th_pX (T := T) (N := N) (P := P) (J := J) (t0 := t0) (Sc := Sc) (op := 1000) (q9evO ae0 1) (q9evZ w0) (q9evS ae1) (hX _ (List.mem_of_getElem? (i := 0) rfl)) (by decide)
  rw [q9FF_1000] at X0
  have H0 := Option.some.inj X0
  try simp only [kz, k98] at H0
  have L0 : (Int32.ofInt 98).toInt ≤ x1.toInt + 0 := q9pC (q9evC w0 98) (q9evS ae1) (hL _ (List.mem_of_getElem? (i := 0) rfl))
  have L1 : (0 : Int32).toInt ≤ x0.toInt + 0 := q9pC (q9evZ w0) (q9evS ae0) (hL _ (List.mem_of_getElem? (i := 1) rfl))
  have hne : q9byI T N (x0.toInt + ((1 : Nat) : Int)) ≠ 97 := by
    rw [show x0.toInt + ((1 : Nat) : Int) = x0.toInt + 1 from rfl]
    by_cases hb : x0.toInt + 1 ≤ 2147483647
    · rw [q9ad32 (x := x0) (d := 1) (by omega)] at H0
      omega
    · intro h
      have := q9byI_lt (T := T) (N := N) (i := x0.toInt + 1) (by omega)
      omega
  have rg0 : (0 : Int) ≤ 0 ∧ (0 : Int) ≤ 0 := by omega
  obtain ⟨x2, nt2⟩ : ∃ x : Int32, x.toInt = 0 := ⟨Int32.ofInt (0), q9oI_toInt (by omega)⟩
  have u_ : q9upN w 3 [.int x2] 0 = .int 0 := q9upN_of (by decide) w0
  have u0 : q9upN w 3 [.int x2] 1 = .int x0 := q9upN_of (by decide) ae0
  have u1 : q9upN w 3 [.int x2] 2 = .int x1 := q9upN_of (by decide) ae1
  have u2 : q9upN w 3 [.int x2] 3 = .int x2 := q9upN_at (by decide)
  refine ⟨[.int x2], fun i9 p9 hq9 => ?_, fun _ h => absurd h List.not_mem_nil, fun _ h => absurd h List.not_mem_nil⟩
  · match i9, hq9 with
    | 0, hq9 =>
      have hp9 : ((1102, (1, 0), (0, 0), (0, 0, 0)) : Nat × q9AV × q9AV × q9ET) = p9 := Option.some.inj hq9
      subst hp9
      exact ⟨⟨x2, rfl, by rw [nt2]; exact rg0.1, by rw [nt2]; exact rg0.2⟩, (q9th_tX (T := T) (N := N) (P := P) (J := J) (t0 := t0) (Sc := Sc) (q9evS u0) (q9evZ u_) (q9evS u2) (by rw [q9FF_1102, nt2]; exact (by show some (q9wsI T N 2 x0.toInt) = _; rw [q9ws_ne (t := 2) 1 (by decide) hne])) (by decide)).trans (congrArg some (q9evS u2))⟩
    | k9 + 1, hq9 => exact nomatch (show (none : Option (Nat × q9AV × q9AV × q9ET)) = some p9 from hq9)
theorem q9ru_wa2_2 (hT : ∀ i, 0 ≤ T i ∧ T i ≤ 255) (hN : 0 ≤ N ∧ N ≤ 400) (hSc : 0 ≤ Sc 1 ∧ Sc 1 ≤ 400 → N = Sc 1) : q9ruOK (fO T N P J t0 Sc) q9R_wa2_2 := by
  intro w w0 hA hX hL hV hR
  obtain ⟨x0, ae0, -, -⟩ := hA 0 0 rfl
  obtain ⟨x1, ae1, -, -⟩ := hA 1 0 rfl
  have kz : (0 : Int32).toInt = 0 := rfl
  have k120 : (Int32.ofInt 120).toInt = 120 := q9oI_toInt (by decide)
  have X0 := q9th_pX (T := T) (N := N) (P := P) (J := J) (t0 := t0) (Sc := Sc) (op := 1000) (q9evO ae0 2) (q9evZ w0) (q9evS ae1) (hX _ (List.mem_of_getElem? (i := 0) rfl)) (by decide)
  rw [q9FF_1000] at X0
  have H0 := Option.some.inj X0
  try simp only [kz, k120] at H0
  have L0 : x1.toInt ≤ (Int32.ofInt 120).toInt + 0 := q9pC (q9evS ae1) (q9evC w0 120) (hL _ (List.mem_of_getElem? (i := 0) rfl))
  have L1 : (0 : Int32).toInt ≤ x0.toInt + 0 := q9pC (q9evZ w0) (q9evS ae0) (hL _ (List.mem_of_getElem? (i := 1) rfl))
  have hne : q9byI T N (x0.toInt + ((2 : Nat) : Int)) ≠ 121 := by
    rw [show x0.toInt + ((2 : Nat) : Int) = x0.toInt + 2 from rfl]
    by_cases hb : x0.toInt + 2 ≤ 2147483647
    · rw [q9ad32 (x := x0) (d := 2) (by omega)] at H0
      omega
    · intro h
      have := q9byI_lt (T := T) (N := N) (i := x0.toInt + 2) (by omega)
      omega
  have rg0 : (0 : Int) ≤ 0 ∧ (0 : Int) ≤ 0 := by omega
  obtain ⟨x2, nt2⟩ : ∃ x : Int32, x.toInt = 0 := ⟨Int32.ofInt (0), q9oI_toInt (by omega)⟩
  have u_ : q9upN w 3 [.int x2] 0 = .int 0 := q9upN_of (by decide) w0
  have u0 : q9upN w 3 [.int x2] 1 = .int x0 := q9upN_of (by decide) ae0
  have u1 : q9upN w 3 [.int x2] 2 = .int x1 := q9upN_of (by decide) ae1
  have u2 : q9upN w 3 [.int x2] 3 = .int x2 := q9upN_at (by decide)
  refine ⟨[.int x2], fun i9 p9 hq9 => ?_, fun _ h => absurd h List.not_mem_nil, fun _ h => absurd h List.not_mem_nil⟩
  · match i9, hq9 with
    | 0, hq9 =>
      have hp9 : ((1102, (1, 0), (0, 0), (0, 0, 0)) : Nat × q9AV × q9AV × q9ET) = p9 := Option.some.inj hq9
      subst hp9
      exact ⟨⟨x2, rfl, by rw [nt2]; exact rg0.1, by rw [nt2]; exact rg0.2⟩, (q9th_tX (T := T) (N := N) (P := P) (J := J) (t0 := t0) (Sc := Sc) (q9evS u0) (q9evZ u_) (q9evS u2) (by rw [q9FF_1102, nt2]; exact (by show some (q9wsI T N 2 x0.toInt) = _; rw [q9ws_ne (t := 2) 2 (by decide) hne])) (by decide)).trans (congrArg some (q9evS u2))⟩
    | k9 + 1, hq9 => exact nomatch (show (none : Option (Nat × q9AV × q9AV × q9ET)) = some p9 from hq9)
theorem q9ru_wb2_2 (hT : ∀ i, 0 ≤ T i ∧ T i ≤ 255) (hN : 0 ≤ N ∧ N ≤ 400) (hSc : 0 ≤ Sc 1 ∧ Sc 1 ≤ 400 → N = Sc 1) : q9ruOK (fO T N P J t0 Sc) q9R_wb2_2 := by
  intro w w0 hA hX hL hV hR
  obtain ⟨x0, ae0, -, -⟩ := hA 0 0 rfl
  obtain ⟨x1, ae1, -, -⟩ := hA 1 0 rfl
  have kz : (0 : Int32).toInt = 0 := rfl
  have k122 : (Int32.ofInt 122).toInt = 122 := q9oI_toInt (by decide)
  have X0 := q9th_pX (T := T) (N := N) (P := P) (J := J) (t0 := t0) (Sc := Sc) (op := 1000) (q9evO ae0 2) (q9evZ w0) (q9evS ae1) (hX _ (List.mem_of_getElem? (i := 0) rfl)) (by decide)
  rw [q9FF_1000] at X0
  have H0 := Option.some.inj X0
  try simp only [kz, k122] at H0
  have L0 : (Int32.ofInt 122).toInt ≤ x1.toInt + 0 := q9pC (q9evC w0 122) (q9evS ae1) (hL _ (List.mem_of_getElem? (i := 0) rfl))
  have L1 : (0 : Int32).toInt ≤ x0.toInt + 0 := q9pC (q9evZ w0) (q9evS ae0) (hL _ (List.mem_of_getElem? (i := 1) rfl))
  have hne : q9byI T N (x0.toInt + ((2 : Nat) : Int)) ≠ 121 := by
    rw [show x0.toInt + ((2 : Nat) : Int) = x0.toInt + 2 from rfl]
    by_cases hb : x0.toInt + 2 ≤ 2147483647
    · rw [q9ad32 (x := x0) (d := 2) (by omega)] at H0
      omega
    · intro h
      have := q9byI_lt (T := T) (N := N) (i := x0.toInt + 2) (by omega)
      omega
  have rg0 : (0 : Int) ≤ 0 ∧ (0 : Int) ≤ 0 := by omega
  obtain ⟨x2, nt2⟩ : ∃ x : Int32, x.toInt = 0 := ⟨Int32.ofInt (0), q9oI_toInt (by omega)⟩
  have u_ : q9upN w 3 [.int x2] 0 = .int 0 := q9upN_of (by decide) w0
  have u0 : q9upN w 3 [.int x2] 1 = .int x0 := q9upN_of (by decide) ae0
  have u1 : q9upN w 3 [.int x2] 2 = .int x1 := q9upN_of (by decide) ae1
  have u2 : q9upN w 3 [.int x2] 3 = .int x2 := q9upN_at (by decide)
  refine ⟨[.int x2], fun i9 p9 hq9 => ?_, fun _ h => absurd h List.not_mem_nil, fun _ h => absurd h List.not_mem_nil⟩
  · match i9, hq9 with
    | 0, hq9 =>
      have hp9 : ((1102, (1, 0), (0, 0), (0, 0, 0)) : Nat × q9AV × q9AV × q9ET) = p9 := Option.some.inj hq9
      subst hp9
      exact ⟨⟨x2, rfl, by rw [nt2]; exact rg0.1, by rw [nt2]; exact rg0.2⟩, (q9th_tX (T := T) (N := N) (P := P) (J := J) (t0 := t0) (Sc := Sc) (q9evS u0) (q9evZ u_) (q9evS u2) (by rw [q9FF_1102, nt2]; exact (by show some (q9wsI T N 2 x0.toInt) = _; rw [q9ws_ne (t := 2) 2 (by decide) hne])) (by decide)).trans (congrArg some (q9evS u2))⟩
    | k9 + 1, hq9 => exact nomatch (show (none : Option (Nat × q9AV × q9AV × q9ET)) = some p9 from hq9)
theorem q9ru_wy2 (hT : ∀ i, 0 ≤ T i ∧ T i ≤ 255) (hN : 0 ≤ N ∧ N ≤ 400) (hSc : 0 ≤ Sc 1 ∧ Sc 1 ≤ 400 → N = Sc 1) : q9ruOK (fO T N P J t0 Sc) q9R_wy2 := by
  intro w w0 hA hX hL hV hR
  obtain ⟨x0, ae0, -, -⟩ := hA 0 0 rfl
  obtain ⟨x1, ae1, -, -⟩ := hA 1 0 rfl
  obtain ⟨x2, ae2, -, -⟩ := hA 2 0 rfl
  obtain ⟨x3, ae3, -, -⟩ := hA 3 0 rfl
  obtain ⟨x4, ae4, -, -⟩ := hA 4 0 rfl
  obtain ⟨x5, ae5, -, -⟩ := hA 5 0 rfl
  have kz : (0 : Int32).toInt = 0 := rfl
  have k3 : (Int32.ofInt 3).toInt = 3 := q9oI_toInt (by decide)
  have k97 : (Int32.ofInt 97).toInt = 97 := q9oI_toInt (by decide)
  have k115 : (Int32.ofInt 115).toInt = 115 := q9oI_toInt (by decide)
  have k121 : (Int32.ofInt 121).toInt = 121 := q9oI_toInt (by decide)
  have X0 := q9th_pX (T := T) (N := N) (P := P) (J := J) (t0 := t0) (Sc := Sc) (op := 1003) (q9evS ae0) (q9evZ w0) (q9evS ae1) (hX _ (List.mem_of_getElem? (i := 0) rfl)) (by decide)
  rw [q9FF_1003] at X0
  have H0 := Option.some.inj X0
  try simp only [kz, k3, k97, k115, k121] at H0
  have X1 := q9pB (T := T) (N := N) (P := P) (J := J) (t0 := t0) (Sc := Sc) (q9evS ae1) (q9evS ae0) (q9evS ae2) (hX _ (List.mem_of_getElem? (i := 1) rfl))
  have L0 : (Int32.ofInt 3).toInt ≤ x2.toInt + 0 := q9pC (q9evC w0 3) (q9evS ae2) (hL _ (List.mem_of_getElem? (i := 0) rfl))
  have L1 : x2.toInt ≤ (Int32.ofInt 3).toInt + 0 := q9pC (q9evS ae2) (q9evC w0 3) (hL _ (List.mem_of_getElem? (i := 1) rfl))
  have L2 : (0 : Int32).toInt ≤ x0.toInt + 0 := q9pC (q9evZ w0) (q9evS ae0) (hL _ (List.mem_of_getElem? (i := 2) rfl))
  have X2 := q9th_pX (T := T) (N := N) (P := P) (J := J) (t0 := t0) (Sc := Sc) (op := 1000) (q9evS ae0) (q9evZ w0) (q9evS ae3) (hX _ (List.mem_of_getElem? (i := 2) rfl)) (by decide)
  rw [q9FF_1000] at X2
  have H2 := Option.some.inj X2
  try simp only [kz, k3, k97, k115, k121] at H2
  have L3 : (Int32.ofInt 115).toInt ≤ x3.toInt + 0 := q9pC (q9evC w0 115) (q9evS ae3) (hL _ (List.mem_of_getElem? (i := 3) rfl))
  have L4 : x3.toInt ≤ (Int32.ofInt 115).toInt + 0 := q9pC (q9evS ae3) (q9evC w0 115) (hL _ (List.mem_of_getElem? (i := 4) rfl))
  have X3 := q9th_pX (T := T) (N := N) (P := P) (J := J) (t0 := t0) (Sc := Sc) (op := 1000) (q9evO ae0 1) (q9evZ w0) (q9evS ae4) (hX _ (List.mem_of_getElem? (i := 3) rfl)) (by decide)
  rw [q9FF_1000] at X3
  have H3 := Option.some.inj X3
  try simp only [kz, k3, k97, k115, k121] at H3
  have L5 : (Int32.ofInt 97).toInt ≤ x4.toInt + 0 := q9pC (q9evC w0 97) (q9evS ae4) (hL _ (List.mem_of_getElem? (i := 5) rfl))
  have L6 : x4.toInt ≤ (Int32.ofInt 97).toInt + 0 := q9pC (q9evS ae4) (q9evC w0 97) (hL _ (List.mem_of_getElem? (i := 6) rfl))
  have X4 := q9th_pX (T := T) (N := N) (P := P) (J := J) (t0 := t0) (Sc := Sc) (op := 1000) (q9evO ae0 2) (q9evZ w0) (q9evS ae5) (hX _ (List.mem_of_getElem? (i := 4) rfl)) (by decide)
  rw [q9FF_1000] at X4
  have H4 := Option.some.inj X4
  try simp only [kz, k3, k97, k115, k121] at H4
  have L7 : (Int32.ofInt 121).toInt ≤ x5.toInt + 0 := q9pC (q9evC w0 121) (q9evS ae5) (hL _ (List.mem_of_getElem? (i := 7) rfl))
  have L8 : x5.toInt ≤ (Int32.ofInt 121).toInt + 0 := q9pC (q9evS ae5) (q9evC w0 121) (hL _ (List.mem_of_getElem? (i := 8) rfl))
  have b1 := q9we_ge (T := T) (N := N) (i := x0.toInt)
  have b2 := q9we_le (T := T) (N := N) (i := x0.toInt)
  have d := q9su32 X1 (by omega)
  have z0 : q9byI T N (x0.toInt + ((0 : Nat) : Int)) = 115 := by rw [show x0.toInt + ((0 : Nat) : Int) = x0.toInt + 0 by omega, Int.add_zero]; omega
  have v1 := q9ad32 (x := x0) (d := 1) (by omega)
  rw [v1] at H3
  have z1 : q9byI T N (x0.toInt + ((1 : Nat) : Int)) = 97 := by rw [show x0.toInt + ((1 : Nat) : Int) = x0.toInt + 1 by omega]; omega
  have v2 := q9ad32 (x := x0) (d := 2) (by omega)
  rw [v2] at H4
  have z2 : q9byI T N (x0.toInt + ((2 : Nat) : Int)) = 121 := by rw [show x0.toInt + ((2 : Nat) : Int) = x0.toInt + 2 by omega]; omega
  have rg0 : (1 : Int) ≤ 1 ∧ (1 : Int) ≤ 1 := by omega
  obtain ⟨x6, nt6⟩ : ∃ x : Int32, x.toInt = 1 := ⟨Int32.ofInt (1), q9oI_toInt (by omega)⟩
  have u_ : q9upN w 7 [.int x6] 0 = .int 0 := q9upN_of (by decide) w0
  have u0 : q9upN w 7 [.int x6] 1 = .int x0 := q9upN_of (by decide) ae0
  have u1 : q9upN w 7 [.int x6] 2 = .int x1 := q9upN_of (by decide) ae1
  have u2 : q9upN w 7 [.int x6] 3 = .int x2 := q9upN_of (by decide) ae2
  have u3 : q9upN w 7 [.int x6] 4 = .int x3 := q9upN_of (by decide) ae3
  have u4 : q9upN w 7 [.int x6] 5 = .int x4 := q9upN_of (by decide) ae4
  have u5 : q9upN w 7 [.int x6] 6 = .int x5 := q9upN_of (by decide) ae5
  have u6 : q9upN w 7 [.int x6] 7 = .int x6 := q9upN_at (by decide)
  refine ⟨[.int x6], fun i9 p9 hq9 => ?_, fun _ h => absurd h List.not_mem_nil, fun _ h => absurd h List.not_mem_nil⟩
  · match i9, hq9 with
    | 0, hq9 =>
      have hp9 : ((1102, (1, 0), (0, 0), (0, 1, 1)) : Nat × q9AV × q9AV × q9ET) = p9 := Option.some.inj hq9
      subst hp9
      exact ⟨⟨x6, rfl, by rw [nt6]; exact rg0.1, by rw [nt6]; exact rg0.2⟩, (q9th_tX (T := T) (N := N) (P := P) (J := J) (t0 := t0) (Sc := Sc) (q9evS u0) (q9evZ u_) (q9evS u6) (by rw [q9FF_1102, nt6]; exact (show some (q9wsI T N 2 x0.toInt) = _ by rw [q9ws_yes (t := 2) (by show _ = ((3 : Nat) : Int); omega) (fun j hj => match j, hj with | 0, _ => z0 | 1, _ => z1 | 2, _ => z2 | k + 3, hj => absurd hj (by show ¬ (k + 3 < 3); omega))])) (by decide)).trans (congrArg some (q9evS u6))⟩
    | k9 + 1, hq9 => exact nomatch (show (none : Option (Nat × q9AV × q9AV × q9ET)) = some p9 from hq9)
theorem q9ru_wl3 (hT : ∀ i, 0 ≤ T i ∧ T i ≤ 255) (hN : 0 ≤ N ∧ N ≤ 400) (hSc : 0 ≤ Sc 1 ∧ Sc 1 ≤ 400 → N = Sc 1) : q9ruOK (fO T N P J t0 Sc) q9R_wl3 := by
  intro w w0 hA hX hL hV hR
  obtain ⟨x0, ae0, -, -⟩ := hA 0 0 rfl
  obtain ⟨x1, ae1, -, -⟩ := hA 1 0 rfl
  obtain ⟨x2, ae2, -, -⟩ := hA 2 0 rfl
  have kz : (0 : Int32).toInt = 0 := rfl
  have k2 : (Int32.ofInt 2).toInt = 2 := q9oI_toInt (by decide)
  have X0 := q9th_pX (T := T) (N := N) (P := P) (J := J) (t0 := t0) (Sc := Sc) (op := 1003) (q9evS ae0) (q9evZ w0) (q9evS ae1) (hX _ (List.mem_of_getElem? (i := 0) rfl)) (by decide)
  rw [q9FF_1003] at X0
  have H0 := Option.some.inj X0
  try simp only [kz, k2] at H0
  have X1 := q9pB (T := T) (N := N) (P := P) (J := J) (t0 := t0) (Sc := Sc) (q9evS ae1) (q9evS ae0) (q9evS ae2) (hX _ (List.mem_of_getElem? (i := 1) rfl))
  have L0 : x2.toInt ≤ (Int32.ofInt 2).toInt + 0 := q9pC (q9evS ae2) (q9evC w0 2) (hL _ (List.mem_of_getElem? (i := 0) rfl))
  have L1 : (0 : Int32).toInt ≤ x0.toInt + 0 := q9pC (q9evZ w0) (q9evS ae0) (hL _ (List.mem_of_getElem? (i := 1) rfl))
  have b1 := q9we_ge (T := T) (N := N) (i := x0.toInt)
  have b2 := q9we_le (T := T) (N := N) (i := x0.toInt)
  have d := q9su32 X1 (by omega)
  have rg0 : (0 : Int) ≤ 0 ∧ (0 : Int) ≤ 0 := by omega
  obtain ⟨x3, nt3⟩ : ∃ x : Int32, x.toInt = 0 := ⟨Int32.ofInt (0), q9oI_toInt (by omega)⟩
  have u_ : q9upN w 4 [.int x3] 0 = .int 0 := q9upN_of (by decide) w0
  have u0 : q9upN w 4 [.int x3] 1 = .int x0 := q9upN_of (by decide) ae0
  have u1 : q9upN w 4 [.int x3] 2 = .int x1 := q9upN_of (by decide) ae1
  have u2 : q9upN w 4 [.int x3] 3 = .int x2 := q9upN_of (by decide) ae2
  have u3 : q9upN w 4 [.int x3] 4 = .int x3 := q9upN_at (by decide)
  refine ⟨[.int x3], fun i9 p9 hq9 => ?_, fun _ h => absurd h List.not_mem_nil, fun _ h => absurd h List.not_mem_nil⟩
  · match i9, hq9 with
    | 0, hq9 =>
      have hp9 : ((1103, (1, 0), (0, 0), (0, 0, 0)) : Nat × q9AV × q9AV × q9ET) = p9 := Option.some.inj hq9
      subst hp9
      exact ⟨⟨x3, rfl, by rw [nt3]; exact rg0.1, by rw [nt3]; exact rg0.2⟩, (q9th_tX (T := T) (N := N) (P := P) (J := J) (t0 := t0) (Sc := Sc) (q9evS u0) (q9evZ u_) (q9evS u3) (by rw [q9FF_1103, nt3]; exact (by show some (q9wsI T N 3 x0.toInt) = _; rw [q9ws_len (t := 3) (by show _ ≠ ((3 : Nat) : Int); omega)])) (by decide)).trans (congrArg some (q9evS u3))⟩
    | k9 + 1, hq9 => exact nomatch (show (none : Option (Nat × q9AV × q9AV × q9ET)) = some p9 from hq9)
theorem q9ru_wm3 (hT : ∀ i, 0 ≤ T i ∧ T i ≤ 255) (hN : 0 ≤ N ∧ N ≤ 400) (hSc : 0 ≤ Sc 1 ∧ Sc 1 ≤ 400 → N = Sc 1) : q9ruOK (fO T N P J t0 Sc) q9R_wm3 := by
  intro w w0 hA hX hL hV hR
  obtain ⟨x0, ae0, -, -⟩ := hA 0 0 rfl
  obtain ⟨x1, ae1, -, -⟩ := hA 1 0 rfl
  obtain ⟨x2, ae2, -, -⟩ := hA 2 0 rfl
  have kz : (0 : Int32).toInt = 0 := rfl
  have k4 : (Int32.ofInt 4).toInt = 4 := q9oI_toInt (by decide)
  have X0 := q9th_pX (T := T) (N := N) (P := P) (J := J) (t0 := t0) (Sc := Sc) (op := 1003) (q9evS ae0) (q9evZ w0) (q9evS ae1) (hX _ (List.mem_of_getElem? (i := 0) rfl)) (by decide)
  rw [q9FF_1003] at X0
  have H0 := Option.some.inj X0
  try simp only [kz, k4] at H0
  have X1 := q9pB (T := T) (N := N) (P := P) (J := J) (t0 := t0) (Sc := Sc) (q9evS ae1) (q9evS ae0) (q9evS ae2) (hX _ (List.mem_of_getElem? (i := 1) rfl))
  have L0 : (Int32.ofInt 4).toInt ≤ x2.toInt + 0 := q9pC (q9evC w0 4) (q9evS ae2) (hL _ (List.mem_of_getElem? (i := 0) rfl))
  have L1 : (0 : Int32).toInt ≤ x0.toInt + 0 := q9pC (q9evZ w0) (q9evS ae0) (hL _ (List.mem_of_getElem? (i := 1) rfl))
  have b1 := q9we_ge (T := T) (N := N) (i := x0.toInt)
  have b2 := q9we_le (T := T) (N := N) (i := x0.toInt)
  have d := q9su32 X1 (by omega)
  have rg0 : (0 : Int) ≤ 0 ∧ (0 : Int) ≤ 0 := by omega
  obtain ⟨x3, nt3⟩ : ∃ x : Int32, x.toInt = 0 := ⟨Int32.ofInt (0), q9oI_toInt (by omega)⟩
  have u_ : q9upN w 4 [.int x3] 0 = .int 0 := q9upN_of (by decide) w0
  have u0 : q9upN w 4 [.int x3] 1 = .int x0 := q9upN_of (by decide) ae0
  have u1 : q9upN w 4 [.int x3] 2 = .int x1 := q9upN_of (by decide) ae1
  have u2 : q9upN w 4 [.int x3] 3 = .int x2 := q9upN_of (by decide) ae2
  have u3 : q9upN w 4 [.int x3] 4 = .int x3 := q9upN_at (by decide)
  refine ⟨[.int x3], fun i9 p9 hq9 => ?_, fun _ h => absurd h List.not_mem_nil, fun _ h => absurd h List.not_mem_nil⟩
  · match i9, hq9 with
    | 0, hq9 =>
      have hp9 : ((1103, (1, 0), (0, 0), (0, 0, 0)) : Nat × q9AV × q9AV × q9ET) = p9 := Option.some.inj hq9
      subst hp9
      exact ⟨⟨x3, rfl, by rw [nt3]; exact rg0.1, by rw [nt3]; exact rg0.2⟩, (q9th_tX (T := T) (N := N) (P := P) (J := J) (t0 := t0) (Sc := Sc) (q9evS u0) (q9evZ u_) (q9evS u3) (by rw [q9FF_1103, nt3]; exact (by show some (q9wsI T N 3 x0.toInt) = _; rw [q9ws_len (t := 3) (by show _ ≠ ((3 : Nat) : Int); omega)])) (by decide)).trans (congrArg some (q9evS u3))⟩
    | k9 + 1, hq9 => exact nomatch (show (none : Option (Nat × q9AV × q9AV × q9ET)) = some p9 from hq9)
theorem q9ru_wa3_0 (hT : ∀ i, 0 ≤ T i ∧ T i ≤ 255) (hN : 0 ≤ N ∧ N ≤ 400) (hSc : 0 ≤ Sc 1 ∧ Sc 1 ≤ 400 → N = Sc 1) : q9ruOK (fO T N P J t0 Sc) q9R_wa3_0 := by
  intro w w0 hA hX hL hV hR
  obtain ⟨x0, ae0, -, -⟩ := hA 0 0 rfl
  obtain ⟨x1, ae1, -, -⟩ := hA 1 0 rfl
  have kz : (0 : Int32).toInt = 0 := rfl
  have k115 : (Int32.ofInt 115).toInt = 115 := q9oI_toInt (by decide)
  have X0 := q9th_pX (T := T) (N := N) (P := P) (J := J) (t0 := t0) (Sc := Sc) (op := 1000) (q9evS ae0) (q9evZ w0) (q9evS ae1) (hX _ (List.mem_of_getElem? (i := 0) rfl)) (by decide)
  rw [q9FF_1000] at X0
  have H0 := Option.some.inj X0
  try simp only [kz, k115] at H0
  have L0 : x1.toInt ≤ (Int32.ofInt 115).toInt + 0 := q9pC (q9evS ae1) (q9evC w0 115) (hL _ (List.mem_of_getElem? (i := 0) rfl))
  have L1 : (0 : Int32).toInt ≤ x0.toInt + 0 := q9pC (q9evZ w0) (q9evS ae0) (hL _ (List.mem_of_getElem? (i := 1) rfl))
  have hne : q9byI T N (x0.toInt + ((0 : Nat) : Int)) ≠ 116 := by
    rw [show x0.toInt + ((0 : Nat) : Int) = x0.toInt by omega]
    omega
  have rg0 : (0 : Int) ≤ 0 ∧ (0 : Int) ≤ 0 := by omega
  obtain ⟨x2, nt2⟩ : ∃ x : Int32, x.toInt = 0 := ⟨Int32.ofInt (0), q9oI_toInt (by omega)⟩
  have u_ : q9upN w 3 [.int x2] 0 = .int 0 := q9upN_of (by decide) w0
  have u0 : q9upN w 3 [.int x2] 1 = .int x0 := q9upN_of (by decide) ae0
  have u1 : q9upN w 3 [.int x2] 2 = .int x1 := q9upN_of (by decide) ae1
  have u2 : q9upN w 3 [.int x2] 3 = .int x2 := q9upN_at (by decide)
  refine ⟨[.int x2], fun i9 p9 hq9 => ?_, fun _ h => absurd h List.not_mem_nil, fun _ h => absurd h List.not_mem_nil⟩
  · match i9, hq9 with
    | 0, hq9 =>
      have hp9 : ((1103, (1, 0), (0, 0), (0, 0, 0)) : Nat × q9AV × q9AV × q9ET) = p9 := Option.some.inj hq9
      subst hp9
      exact ⟨⟨x2, rfl, by rw [nt2]; exact rg0.1, by rw [nt2]; exact rg0.2⟩, (q9th_tX (T := T) (N := N) (P := P) (J := J) (t0 := t0) (Sc := Sc) (q9evS u0) (q9evZ u_) (q9evS u2) (by rw [q9FF_1103, nt2]; exact (by show some (q9wsI T N 3 x0.toInt) = _; rw [q9ws_ne (t := 3) 0 (by decide) hne])) (by decide)).trans (congrArg some (q9evS u2))⟩
    | k9 + 1, hq9 => exact nomatch (show (none : Option (Nat × q9AV × q9AV × q9ET)) = some p9 from hq9)
theorem q9ru_wb3_0 (hT : ∀ i, 0 ≤ T i ∧ T i ≤ 255) (hN : 0 ≤ N ∧ N ≤ 400) (hSc : 0 ≤ Sc 1 ∧ Sc 1 ≤ 400 → N = Sc 1) : q9ruOK (fO T N P J t0 Sc) q9R_wb3_0 := by
  intro w w0 hA hX hL hV hR
  obtain ⟨x0, ae0, -, -⟩ := hA 0 0 rfl
  obtain ⟨x1, ae1, -, -⟩ := hA 1 0 rfl
  have kz : (0 : Int32).toInt = 0 := rfl
  have k117 : (Int32.ofInt 117).toInt = 117 := q9oI_toInt (by decide)
  have X0 := q9th_pX (T := T) (N := N) (P := P) (J := J) (t0 := t0) (Sc := Sc) (op := 1000) (q9evS ae0) (q9evZ w0) (q9evS ae1) (hX _ (List.mem_of_getElem? (i := 0) rfl)) (by decide)
  rw [q9FF_1000] at X0
  have H0 := Option.some.inj X0
  try simp only [kz, k117] at H0
  have L0 : (Int32.ofInt 117).toInt ≤ x1.toInt + 0 := q9pC (q9evC w0 117) (q9evS ae1) (hL _ (List.mem_of_getElem? (i := 0) rfl))
  have L1 : (0 : Int32).toInt ≤ x0.toInt + 0 := q9pC (q9evZ w0) (q9evS ae0) (hL _ (List.mem_of_getElem? (i := 1) rfl))
  have hne : q9byI T N (x0.toInt + ((0 : Nat) : Int)) ≠ 116 := by
    rw [show x0.toInt + ((0 : Nat) : Int) = x0.toInt by omega]
    omega
  have rg0 : (0 : Int) ≤ 0 ∧ (0 : Int) ≤ 0 := by omega
  obtain ⟨x2, nt2⟩ : ∃ x : Int32, x.toInt = 0 := ⟨Int32.ofInt (0), q9oI_toInt (by omega)⟩
  have u_ : q9upN w 3 [.int x2] 0 = .int 0 := q9upN_of (by decide) w0
  have u0 : q9upN w 3 [.int x2] 1 = .int x0 := q9upN_of (by decide) ae0
  have u1 : q9upN w 3 [.int x2] 2 = .int x1 := q9upN_of (by decide) ae1
  have u2 : q9upN w 3 [.int x2] 3 = .int x2 := q9upN_at (by decide)
  refine ⟨[.int x2], fun i9 p9 hq9 => ?_, fun _ h => absurd h List.not_mem_nil, fun _ h => absurd h List.not_mem_nil⟩
  · match i9, hq9 with
    | 0, hq9 =>
      have hp9 : ((1103, (1, 0), (0, 0), (0, 0, 0)) : Nat × q9AV × q9AV × q9ET) = p9 := Option.some.inj hq9
      subst hp9
      exact ⟨⟨x2, rfl, by rw [nt2]; exact rg0.1, by rw [nt2]; exact rg0.2⟩, (q9th_tX (T := T) (N := N) (P := P) (J := J) (t0 := t0) (Sc := Sc) (q9evS u0) (q9evZ u_) (q9evS u2) (by rw [q9FF_1103, nt2]; exact (by show some (q9wsI T N 3 x0.toInt) = _; rw [q9ws_ne (t := 3) 0 (by decide) hne])) (by decide)).trans (congrArg some (q9evS u2))⟩
    | k9 + 1, hq9 => exact nomatch (show (none : Option (Nat × q9AV × q9AV × q9ET)) = some p9 from hq9)
theorem q9ru_wa3_1 (hT : ∀ i, 0 ≤ T i ∧ T i ≤ 255) (hN : 0 ≤ N ∧ N ≤ 400) (hSc : 0 ≤ Sc 1 ∧ Sc 1 ≤ 400 → N = Sc 1) : q9ruOK (fO T N P J t0 Sc) q9R_wa3_1 := by
  intro w w0 hA hX hL hV hR
  obtain ⟨x0, ae0, -, -⟩ := hA 0 0 rfl
  obtain ⟨x1, ae1, -, -⟩ := hA 1 0 rfl
  have kz : (0 : Int32).toInt = 0 := rfl
  have k104 : (Int32.ofInt 104).toInt = 104 := q9oI_toInt (by decide)
  have X0 := q9th_pX (T := T) (N := N) (P := P) (J := J) (t0 := t0) (Sc := Sc) (op := 1000) (q9evO ae0 1) (q9evZ w0) (q9evS ae1) (hX _ (List.mem_of_getElem? (i := 0) rfl)) (by decide)
  rw [q9FF_1000] at X0
  have H0 := Option.some.inj X0
  try simp only [kz, k104] at H0
  have L0 : x1.toInt ≤ (Int32.ofInt 104).toInt + 0 := q9pC (q9evS ae1) (q9evC w0 104) (hL _ (List.mem_of_getElem? (i := 0) rfl))
  have L1 : (0 : Int32).toInt ≤ x0.toInt + 0 := q9pC (q9evZ w0) (q9evS ae0) (hL _ (List.mem_of_getElem? (i := 1) rfl))
  have hne : q9byI T N (x0.toInt + ((1 : Nat) : Int)) ≠ 105 := by
    rw [show x0.toInt + ((1 : Nat) : Int) = x0.toInt + 1 from rfl]
    by_cases hb : x0.toInt + 1 ≤ 2147483647
    · rw [q9ad32 (x := x0) (d := 1) (by omega)] at H0
      omega
    · intro h
      have := q9byI_lt (T := T) (N := N) (i := x0.toInt + 1) (by omega)
      omega
  have rg0 : (0 : Int) ≤ 0 ∧ (0 : Int) ≤ 0 := by omega
  obtain ⟨x2, nt2⟩ : ∃ x : Int32, x.toInt = 0 := ⟨Int32.ofInt (0), q9oI_toInt (by omega)⟩
  have u_ : q9upN w 3 [.int x2] 0 = .int 0 := q9upN_of (by decide) w0
  have u0 : q9upN w 3 [.int x2] 1 = .int x0 := q9upN_of (by decide) ae0
  have u1 : q9upN w 3 [.int x2] 2 = .int x1 := q9upN_of (by decide) ae1
  have u2 : q9upN w 3 [.int x2] 3 = .int x2 := q9upN_at (by decide)
  refine ⟨[.int x2], fun i9 p9 hq9 => ?_, fun _ h => absurd h List.not_mem_nil, fun _ h => absurd h List.not_mem_nil⟩
  · match i9, hq9 with
    | 0, hq9 =>
      have hp9 : ((1103, (1, 0), (0, 0), (0, 0, 0)) : Nat × q9AV × q9AV × q9ET) = p9 := Option.some.inj hq9
      subst hp9
      exact ⟨⟨x2, rfl, by rw [nt2]; exact rg0.1, by rw [nt2]; exact rg0.2⟩, (q9th_tX (T := T) (N := N) (P := P) (J := J) (t0 := t0) (Sc := Sc) (q9evS u0) (q9evZ u_) (q9evS u2) (by rw [q9FF_1103, nt2]; exact (by show some (q9wsI T N 3 x0.toInt) = _; rw [q9ws_ne (t := 3) 1 (by decide) hne])) (by decide)).trans (congrArg some (q9evS u2))⟩
    | k9 + 1, hq9 => exact nomatch (show (none : Option (Nat × q9AV × q9AV × q9ET)) = some p9 from hq9)
theorem q9ru_wb3_1 (hT : ∀ i, 0 ≤ T i ∧ T i ≤ 255) (hN : 0 ≤ N ∧ N ≤ 400) (hSc : 0 ≤ Sc 1 ∧ Sc 1 ≤ 400 → N = Sc 1) : q9ruOK (fO T N P J t0 Sc) q9R_wb3_1 := by
  intro w w0 hA hX hL hV hR
  obtain ⟨x0, ae0, -, -⟩ := hA 0 0 rfl
  obtain ⟨x1, ae1, -, -⟩ := hA 1 0 rfl
  have kz : (0 : Int32).toInt = 0 := rfl
  have k106 : (Int32.ofInt 106).toInt = 106 := q9oI_toInt (by decide)
  have X0 := q9th_pX (T := T) (N := N) (P := P) (J := J) (t0 := t0) (Sc := Sc) (op := 1000) (q9evO ae0 1) (q9evZ w0) (q9evS ae1) (hX _ (List.mem_of_getElem? (i := 0) rfl)) (by decide)
  rw [q9FF_1000] at X0
  have H0 := Option.some.inj X0
  try simp only [kz, k106] at H0
  have L0 : (Int32.ofInt 106).toInt ≤ x1.toInt + 0 := q9pC (q9evC w0 106) (q9evS ae1) (hL _ (List.mem_of_getElem? (i := 0) rfl))
  have L1 : (0 : Int32).toInt ≤ x0.toInt + 0 := q9pC (q9evZ w0) (q9evS ae0) (hL _ (List.mem_of_getElem? (i := 1) rfl))
  have hne : q9byI T N (x0.toInt + ((1 : Nat) : Int)) ≠ 105 := by
    rw [show x0.toInt + ((1 : Nat) : Int) = x0.toInt + 1 from rfl]
    by_cases hb : x0.toInt + 1 ≤ 2147483647
    · rw [q9ad32 (x := x0) (d := 1) (by omega)] at H0
      omega
    · intro h
      have := q9byI_lt (T := T) (N := N) (i := x0.toInt + 1) (by omega)
      omega
  have rg0 : (0 : Int) ≤ 0 ∧ (0 : Int) ≤ 0 := by omega
  obtain ⟨x2, nt2⟩ : ∃ x : Int32, x.toInt = 0 := ⟨Int32.ofInt (0), q9oI_toInt (by omega)⟩
  have u_ : q9upN w 3 [.int x2] 0 = .int 0 := q9upN_of (by decide) w0
  have u0 : q9upN w 3 [.int x2] 1 = .int x0 := q9upN_of (by decide) ae0
  have u1 : q9upN w 3 [.int x2] 2 = .int x1 := q9upN_of (by decide) ae1
  have u2 : q9upN w 3 [.int x2] 3 = .int x2 := q9upN_at (by decide)
  refine ⟨[.int x2], fun i9 p9 hq9 => ?_, fun _ h => absurd h List.not_mem_nil, fun _ h => absurd h List.not_mem_nil⟩
  · match i9, hq9 with
    | 0, hq9 =>
      have hp9 : ((1103, (1, 0), (0, 0), (0, 0, 0)) : Nat × q9AV × q9AV × q9ET) = p9 := Option.some.inj hq9
      subst hp9
      exact ⟨⟨x2, rfl, by rw [nt2]; exact rg0.1, by rw [nt2]; exact rg0.2⟩, (q9th_tX (T := T) (N := N) (P := P) (J := J) (t0 := t0) (Sc := Sc) (q9evS u0) (q9evZ u_) (q9evS u2) (by rw [q9FF_1103, nt2]; exact (by show some (q9wsI T N 3 x0.toInt) = _; rw [q9ws_ne (t := 3) 1 (by decide) hne])) (by decide)).trans (congrArg some (q9evS u2))⟩
    | k9 + 1, hq9 => exact nomatch (show (none : Option (Nat × q9AV × q9AV × q9ET)) = some p9 from hq9)
theorem q9ru_wa3_2 (hT : ∀ i, 0 ≤ T i ∧ T i ≤ 255) (hN : 0 ≤ N ∧ N ≤ 400) (hSc : 0 ≤ Sc 1 ∧ Sc 1 ≤ 400 → N = Sc 1) : q9ruOK (fO T N P J t0 Sc) q9R_wa3_2 := by
  intro w w0 hA hX hL hV hR
  obtain ⟨x0, ae0, -, -⟩ := hA 0 0 rfl
  obtain ⟨x1, ae1, -, -⟩ := hA 1 0 rfl
  have kz : (0 : Int32).toInt = 0 := rfl
  have k100 : (Int32.ofInt 100).toInt = 100 := q9oI_toInt (by decide)
  have X0 := q9th_pX (T := T) (N := N) (P := P) (J := J) (t0 := t0) (Sc := Sc) (op := 1000) (q9evO ae0 2) (q9evZ w0) (q9evS ae1) (hX _ (List.mem_of_getElem? (i := 0) rfl)) (by decide)
  rw [q9FF_1000] at X0
  have H0 := Option.some.inj X0
  try simp only [kz, k100] at H0
  have L0 : x1.toInt ≤ (Int32.ofInt 100).toInt + 0 := q9pC (q9evS ae1) (q9evC w0 100) (hL _ (List.mem_of_getElem? (i := 0) rfl))
  have L1 : (0 : Int32).toInt ≤ x0.toInt + 0 := q9pC (q9evZ w0) (q9evS ae0) (hL _ (List.mem_of_getElem? (i := 1) rfl))
  have hne : q9byI T N (x0.toInt + ((2 : Nat) : Int)) ≠ 101 := by
    rw [show x0.toInt + ((2 : Nat) : Int) = x0.toInt + 2 from rfl]
    by_cases hb : x0.toInt + 2 ≤ 2147483647
    · rw [q9ad32 (x := x0) (d := 2) (by omega)] at H0
      omega
    · intro h
      have := q9byI_lt (T := T) (N := N) (i := x0.toInt + 2) (by omega)
      omega
  have rg0 : (0 : Int) ≤ 0 ∧ (0 : Int) ≤ 0 := by omega
  obtain ⟨x2, nt2⟩ : ∃ x : Int32, x.toInt = 0 := ⟨Int32.ofInt (0), q9oI_toInt (by omega)⟩
  have u_ : q9upN w 3 [.int x2] 0 = .int 0 := q9upN_of (by decide) w0
  have u0 : q9upN w 3 [.int x2] 1 = .int x0 := q9upN_of (by decide) ae0
  have u1 : q9upN w 3 [.int x2] 2 = .int x1 := q9upN_of (by decide) ae1
  have u2 : q9upN w 3 [.int x2] 3 = .int x2 := q9upN_at (by decide)
  refine ⟨[.int x2], fun i9 p9 hq9 => ?_, fun _ h => absurd h List.not_mem_nil, fun _ h => absurd h List.not_mem_nil⟩
  · match i9, hq9 with
    | 0, hq9 =>
      have hp9 : ((1103, (1, 0), (0, 0), (0, 0, 0)) : Nat × q9AV × q9AV × q9ET) = p9 := Option.some.inj hq9
      subst hp9
      exact ⟨⟨x2, rfl, by rw [nt2]; exact rg0.1, by rw [nt2]; exact rg0.2⟩, (q9th_tX (T := T) (N := N) (P := P) (J := J) (t0 := t0) (Sc := Sc) (q9evS u0) (q9evZ u_) (q9evS u2) (by rw [q9FF_1103, nt2]; exact (by show some (q9wsI T N 3 x0.toInt) = _; rw [q9ws_ne (t := 3) 2 (by decide) hne])) (by decide)).trans (congrArg some (q9evS u2))⟩
    | k9 + 1, hq9 => exact nomatch (show (none : Option (Nat × q9AV × q9AV × q9ET)) = some p9 from hq9)
theorem q9ru_wb3_2 (hT : ∀ i, 0 ≤ T i ∧ T i ≤ 255) (hN : 0 ≤ N ∧ N ≤ 400) (hSc : 0 ≤ Sc 1 ∧ Sc 1 ≤ 400 → N = Sc 1) : q9ruOK (fO T N P J t0 Sc) q9R_wb3_2 := by
  intro w w0 hA hX hL hV hR
  obtain ⟨x0, ae0, -, -⟩ := hA 0 0 rfl
  obtain ⟨x1, ae1, -, -⟩ := hA 1 0 rfl
  have kz : (0 : Int32).toInt = 0 := rfl
  have k102 : (Int32.ofInt 102).toInt = 102 := q9oI_toInt (by decide)
  have X0 := q9th_pX (T := T) (N := N) (P := P) (J := J) (t0 := t0) (Sc := Sc) (op := 1000) (q9evO ae0 2) (q9evZ w0) (q9evS ae1) (hX _ (List.mem_of_getElem? (i := 0) rfl)) (by decide)
  rw [q9FF_1000] at X0
  have H0 := Option.some.inj X0
  try simp only [kz, k102] at H0
  have L0 : (Int32.ofInt 102).toInt ≤ x1.toInt + 0 := q9pC (q9evC w0 102) (q9evS ae1) (hL _ (List.mem_of_getElem? (i := 0) rfl))
  have L1 : (0 : Int32).toInt ≤ x0.toInt + 0 := q9pC (q9evZ w0) (q9evS ae0) (hL _ (List.mem_of_getElem? (i := 1) rfl))
  have hne : q9byI T N (x0.toInt + ((2 : Nat) : Int)) ≠ 101 := by
    rw [show x0.toInt + ((2 : Nat) : Int) = x0.toInt + 2 from rfl]
    by_cases hb : x0.toInt + 2 ≤ 2147483647
    · rw [q9ad32 (x := x0) (d := 2) (by omega)] at H0
      omega
    · intro h
      have := q9byI_lt (T := T) (N := N) (i := x0.toInt + 2) (by omega)
      omega
  have rg0 : (0 : Int) ≤ 0 ∧ (0 : Int) ≤ 0 := by omega
  obtain ⟨x2, nt2⟩ : ∃ x : Int32, x.toInt = 0 := ⟨Int32.ofInt (0), q9oI_toInt (by omega)⟩
  have u_ : q9upN w 3 [.int x2] 0 = .int 0 := q9upN_of (by decide) w0
  have u0 : q9upN w 3 [.int x2] 1 = .int x0 := q9upN_of (by decide) ae0
  have u1 : q9upN w 3 [.int x2] 2 = .int x1 := q9upN_of (by decide) ae1
  have u2 : q9upN w 3 [.int x2] 3 = .int x2 := q9upN_at (by decide)
  refine ⟨[.int x2], fun i9 p9 hq9 => ?_, fun _ h => absurd h List.not_mem_nil, fun _ h => absurd h List.not_mem_nil⟩
  · match i9, hq9 with
    | 0, hq9 =>
      have hp9 : ((1103, (1, 0), (0, 0), (0, 0, 0)) : Nat × q9AV × q9AV × q9ET) = p9 := Option.some.inj hq9
      subst hp9
      exact ⟨⟨x2, rfl, by rw [nt2]; exact rg0.1, by rw [nt2]; exact rg0.2⟩, (q9th_tX (T := T) (N := N) (P := P) (J := J) (t0 := t0) (Sc := Sc) (q9evS u0) (q9evZ u_) (q9evS u2) (by rw [q9FF_1103, nt2]; exact (by show some (q9wsI T N 3 x0.toInt) = _; rw [q9ws_ne (t := 3) 2 (by decide) hne])) (by decide)).trans (congrArg some (q9evS u2))⟩
    | k9 + 1, hq9 => exact nomatch (show (none : Option (Nat × q9AV × q9AV × q9ET)) = some p9 from hq9)
theorem q9ru_wy3 (hT : ∀ i, 0 ≤ T i ∧ T i ≤ 255) (hN : 0 ≤ N ∧ N ≤ 400) (hSc : 0 ≤ Sc 1 ∧ Sc 1 ≤ 400 → N = Sc 1) : q9ruOK (fO T N P J t0 Sc) q9R_wy3 := by
  intro w w0 hA hX hL hV hR
  obtain ⟨x0, ae0, -, -⟩ := hA 0 0 rfl
  obtain ⟨x1, ae1, -, -⟩ := hA 1 0 rfl
  obtain ⟨x2, ae2, -, -⟩ := hA 2 0 rfl
  obtain ⟨x3, ae3, -, -⟩ := hA 3 0 rfl
  obtain ⟨x4, ae4, -, -⟩ := hA 4 0 rfl
  obtain ⟨x5, ae5, -, -⟩ := hA 5 0 rfl
  have kz : (0 : Int32).toInt = 0 := rfl
  have k3 : (Int32.ofInt 3).toInt = 3 := q9oI_toInt (by decide)
  have k101 : (Int32.ofInt 101).toInt = 101 := q9oI_toInt (by decide)
  have k105 : (Int32.ofInt 105).toInt = 105 := q9oI_toInt (by decide)
  have k116 : (Int32.ofInt 116).toInt = 116 := q9oI_toInt (by decide)
  have X0 := q9th_pX (T := T) (N := N) (P := P) (J := J) (t0 := t0) (Sc := Sc) (op := 1003) (q9evS ae0) (q9evZ w0) (q9evS ae1) (hX _ (List.mem_of_getElem? (i := 0) rfl)) (by decide)
  rw [q9FF_1003] at X0
  have H0 := Option.some.inj X0
  try simp only [kz, k3, k101, k105, k116] at H0
  have X1 := q9pB (T := T) (N := N) (P := P) (J := J) (t0 := t0) (Sc := Sc) (q9evS ae1) (q9evS ae0) (q9evS ae2) (hX _ (List.mem_of_getElem? (i := 1) rfl))
  have L0 : (Int32.ofInt 3).toInt ≤ x2.toInt + 0 := q9pC (q9evC w0 3) (q9evS ae2) (hL _ (List.mem_of_getElem? (i := 0) rfl))
  have L1 : x2.toInt ≤ (Int32.ofInt 3).toInt + 0 := q9pC (q9evS ae2) (q9evC w0 3) (hL _ (List.mem_of_getElem? (i := 1) rfl))
  have L2 : (0 : Int32).toInt ≤ x0.toInt + 0 := q9pC (q9evZ w0) (q9evS ae0) (hL _ (List.mem_of_getElem? (i := 2) rfl))
  have X2 := q9th_pX (T := T) (N := N) (P := P) (J := J) (t0 := t0) (Sc := Sc) (op := 1000) (q9evS ae0) (q9evZ w0) (q9evS ae3) (hX _ (List.mem_of_getElem? (i := 2) rfl)) (by decide)
  rw [q9FF_1000] at X2
  have H2 := Option.some.inj X2
  try simp only [kz, k3, k101, k105, k116] at H2
  have L3 : (Int32.ofInt 116).toInt ≤ x3.toInt + 0 := q9pC (q9evC w0 116) (q9evS ae3) (hL _ (List.mem_of_getElem? (i := 3) rfl))
  have L4 : x3.toInt ≤ (Int32.ofInt 116).toInt + 0 := q9pC (q9evS ae3) (q9evC w0 116) (hL _ (List.mem_of_getElem? (i := 4) rfl))
  have X3 := q9th_pX (T := T) (N := N) (P := P) (J := J) (t0 := t0) (Sc := Sc) (op := 1000) (q9evO ae0 1) (q9evZ w0) (q9evS ae4) (hX _ (List.mem_of_getElem? (i := 3) rfl)) (by decide)
  rw [q9FF_1000] at X3
  have H3 := Option.some.inj X3
  try simp only [kz, k3, k101, k105, k116] at H3
  have L5 : (Int32.ofInt 105).toInt ≤ x4.toInt + 0 := q9pC (q9evC w0 105) (q9evS ae4) (hL _ (List.mem_of_getElem? (i := 5) rfl))
  have L6 : x4.toInt ≤ (Int32.ofInt 105).toInt + 0 := q9pC (q9evS ae4) (q9evC w0 105) (hL _ (List.mem_of_getElem? (i := 6) rfl))
  have X4 := q9th_pX (T := T) (N := N) (P := P) (J := J) (t0 := t0) (Sc := Sc) (op := 1000) (q9evO ae0 2) (q9evZ w0) (q9evS ae5) (hX _ (List.mem_of_getElem? (i := 4) rfl)) (by decide)
  rw [q9FF_1000] at X4
  have H4 := Option.some.inj X4
  try simp only [kz, k3, k101, k105, k116] at H4
  have L7 : (Int32.ofInt 101).toInt ≤ x5.toInt + 0 := q9pC (q9evC w0 101) (q9evS ae5) (hL _ (List.mem_of_getElem? (i := 7) rfl))
  have L8 : x5.toInt ≤ (Int32.ofInt 101).toInt + 0 := q9pC (q9evS ae5) (q9evC w0 101) (hL _ (List.mem_of_getElem? (i := 8) rfl))
  have b1 := q9we_ge (T := T) (N := N) (i := x0.toInt)
  have b2 := q9we_le (T := T) (N := N) (i := x0.toInt)
  have d := q9su32 X1 (by omega)
  have z0 : q9byI T N (x0.toInt + ((0 : Nat) : Int)) = 116 := by rw [show x0.toInt + ((0 : Nat) : Int) = x0.toInt + 0 by omega, Int.add_zero]; omega
  have v1 := q9ad32 (x := x0) (d := 1) (by omega)
  rw [v1] at H3
  have z1 : q9byI T N (x0.toInt + ((1 : Nat) : Int)) = 105 := by rw [show x0.toInt + ((1 : Nat) : Int) = x0.toInt + 1 by omega]; omega
  have v2 := q9ad32 (x := x0) (d := 2) (by omega)
  rw [v2] at H4
  have z2 : q9byI T N (x0.toInt + ((2 : Nat) : Int)) = 101 := by rw [show x0.toInt + ((2 : Nat) : Int) = x0.toInt + 2 by omega]; omega
  have rg0 : (1 : Int) ≤ 1 ∧ (1 : Int) ≤ 1 := by omega
  obtain ⟨x6, nt6⟩ : ∃ x : Int32, x.toInt = 1 := ⟨Int32.ofInt (1), q9oI_toInt (by omega)⟩
  have u_ : q9upN w 7 [.int x6] 0 = .int 0 := q9upN_of (by decide) w0
  have u0 : q9upN w 7 [.int x6] 1 = .int x0 := q9upN_of (by decide) ae0
  have u1 : q9upN w 7 [.int x6] 2 = .int x1 := q9upN_of (by decide) ae1
  have u2 : q9upN w 7 [.int x6] 3 = .int x2 := q9upN_of (by decide) ae2
  have u3 : q9upN w 7 [.int x6] 4 = .int x3 := q9upN_of (by decide) ae3
  have u4 : q9upN w 7 [.int x6] 5 = .int x4 := q9upN_of (by decide) ae4
  have u5 : q9upN w 7 [.int x6] 6 = .int x5 := q9upN_of (by decide) ae5
  have u6 : q9upN w 7 [.int x6] 7 = .int x6 := q9upN_at (by decide)
  refine ⟨[.int x6], fun i9 p9 hq9 => ?_, fun _ h => absurd h List.not_mem_nil, fun _ h => absurd h List.not_mem_nil⟩
  · match i9, hq9 with
    | 0, hq9 =>
      have hp9 : ((1103, (1, 0), (0, 0), (0, 1, 1)) : Nat × q9AV × q9AV × q9ET) = p9 := Option.some.inj hq9
      subst hp9
      exact ⟨⟨x6, rfl, by rw [nt6]; exact rg0.1, by rw [nt6]; exact rg0.2⟩, (q9th_tX (T := T) (N := N) (P := P) (J := J) (t0 := t0) (Sc := Sc) (q9evS u0) (q9evZ u_) (q9evS u6) (by rw [q9FF_1103, nt6]; exact (show some (q9wsI T N 3 x0.toInt) = _ by rw [q9ws_yes (t := 3) (by show _ = ((3 : Nat) : Int); omega) (fun j hj => match j, hj with | 0, _ => z0 | 1, _ => z1 | 2, _ => z2 | k + 3, hj => absurd hj (by show ¬ (k + 3 < 3); omega))])) (by decide)).trans (congrArg some (q9evS u6))⟩
    | k9 + 1, hq9 => exact nomatch (show (none : Option (Nat × q9AV × q9AV × q9ET)) = some p9 from hq9)
theorem q9ru_wl4 (hT : ∀ i, 0 ≤ T i ∧ T i ≤ 255) (hN : 0 ≤ N ∧ N ≤ 400) (hSc : 0 ≤ Sc 1 ∧ Sc 1 ≤ 400 → N = Sc 1) : q9ruOK (fO T N P J t0 Sc) q9R_wl4 := by
  intro w w0 hA hX hL hV hR
  obtain ⟨x0, ae0, -, -⟩ := hA 0 0 rfl
  obtain ⟨x1, ae1, -, -⟩ := hA 1 0 rfl
  obtain ⟨x2, ae2, -, -⟩ := hA 2 0 rfl
  have kz : (0 : Int32).toInt = 0 := rfl
  have k3 : (Int32.ofInt 3).toInt = 3 := q9oI_toInt (by decide)
  have X0 := q9th_pX (T := T) (N := N) (P := P) (J := J) (t0 := t0) (Sc := Sc) (op := 1003) (q9evS ae0) (q9evZ w0) (q9evS ae1) (hX _ (List.mem_of_getElem? (i := 0) rfl)) (by decide)
  rw [q9FF_1003] at X0
  have H0 := Option.some.inj X0
  try simp only [kz, k3] at H0
  have X1 := q9pB (T := T) (N := N) (P := P) (J := J) (t0 := t0) (Sc := Sc) (q9evS ae1) (q9evS ae0) (q9evS ae2) (hX _ (List.mem_of_getElem? (i := 1) rfl))
  have L0 : x2.toInt ≤ (Int32.ofInt 3).toInt + 0 := q9pC (q9evS ae2) (q9evC w0 3) (hL _ (List.mem_of_getElem? (i := 0) rfl))
  have L1 : (0 : Int32).toInt ≤ x0.toInt + 0 := q9pC (q9evZ w0) (q9evS ae0) (hL _ (List.mem_of_getElem? (i := 1) rfl))
  have b1 := q9we_ge (T := T) (N := N) (i := x0.toInt)
  have b2 := q9we_le (T := T) (N := N) (i := x0.toInt)
  have d := q9su32 X1 (by omega)
  have rg0 : (0 : Int) ≤ 0 ∧ (0 : Int) ≤ 0 := by omega
  obtain ⟨x3, nt3⟩ : ∃ x : Int32, x.toInt = 0 := ⟨Int32.ofInt (0), q9oI_toInt (by omega)⟩
  have u_ : q9upN w 4 [.int x3] 0 = .int 0 := q9upN_of (by decide) w0
  have u0 : q9upN w 4 [.int x3] 1 = .int x0 := q9upN_of (by decide) ae0
  have u1 : q9upN w 4 [.int x3] 2 = .int x1 := q9upN_of (by decide) ae1
  have u2 : q9upN w 4 [.int x3] 3 = .int x2 := q9upN_of (by decide) ae2
  have u3 : q9upN w 4 [.int x3] 4 = .int x3 := q9upN_at (by decide)
  refine ⟨[.int x3], fun i9 p9 hq9 => ?_, fun _ h => absurd h List.not_mem_nil, fun _ h => absurd h List.not_mem_nil⟩
  · match i9, hq9 with
    | 0, hq9 =>
      have hp9 : ((1104, (1, 0), (0, 0), (0, 0, 0)) : Nat × q9AV × q9AV × q9ET) = p9 := Option.some.inj hq9
      subst hp9
      exact ⟨⟨x3, rfl, by rw [nt3]; exact rg0.1, by rw [nt3]; exact rg0.2⟩, (q9th_tX (T := T) (N := N) (P := P) (J := J) (t0 := t0) (Sc := Sc) (q9evS u0) (q9evZ u_) (q9evS u3) (by rw [q9FF_1104, nt3]; exact (by show some (q9wsI T N 4 x0.toInt) = _; rw [q9ws_len (t := 4) (by show _ ≠ ((4 : Nat) : Int); omega)])) (by decide)).trans (congrArg some (q9evS u3))⟩
    | k9 + 1, hq9 => exact nomatch (show (none : Option (Nat × q9AV × q9AV × q9ET)) = some p9 from hq9)
theorem q9ru_wm4 (hT : ∀ i, 0 ≤ T i ∧ T i ≤ 255) (hN : 0 ≤ N ∧ N ≤ 400) (hSc : 0 ≤ Sc 1 ∧ Sc 1 ≤ 400 → N = Sc 1) : q9ruOK (fO T N P J t0 Sc) q9R_wm4 := by
  intro w w0 hA hX hL hV hR
  obtain ⟨x0, ae0, -, -⟩ := hA 0 0 rfl
  obtain ⟨x1, ae1, -, -⟩ := hA 1 0 rfl
  obtain ⟨x2, ae2, -, -⟩ := hA 2 0 rfl
  have kz : (0 : Int32).toInt = 0 := rfl
  have k5 : (Int32.ofInt 5).toInt = 5 := q9oI_toInt (by decide)
  have X0 := q9th_pX (T := T) (N := N) (P := P) (J := J) (t0 := t0) (Sc := Sc) (op := 1003) (q9evS ae0) (q9evZ w0) (q9evS ae1) (hX _ (List.mem_of_getElem? (i := 0) rfl)) (by decide)
  rw [q9FF_1003] at X0
  have H0 := Option.some.inj X0
  try simp only [kz, k5] at H0
  have X1 := q9pB (T := T) (N := N) (P := P) (J := J) (t0 := t0) (Sc := Sc) (q9evS ae1) (q9evS ae0) (q9evS ae2) (hX _ (List.mem_of_getElem? (i := 1) rfl))
  have L0 : (Int32.ofInt 5).toInt ≤ x2.toInt + 0 := q9pC (q9evC w0 5) (q9evS ae2) (hL _ (List.mem_of_getElem? (i := 0) rfl))
  have L1 : (0 : Int32).toInt ≤ x0.toInt + 0 := q9pC (q9evZ w0) (q9evS ae0) (hL _ (List.mem_of_getElem? (i := 1) rfl))
  have b1 := q9we_ge (T := T) (N := N) (i := x0.toInt)
  have b2 := q9we_le (T := T) (N := N) (i := x0.toInt)
  have d := q9su32 X1 (by omega)
  have rg0 : (0 : Int) ≤ 0 ∧ (0 : Int) ≤ 0 := by omega
  obtain ⟨x3, nt3⟩ : ∃ x : Int32, x.toInt = 0 := ⟨Int32.ofInt (0), q9oI_toInt (by omega)⟩
  have u_ : q9upN w 4 [.int x3] 0 = .int 0 := q9upN_of (by decide) w0
  have u0 : q9upN w 4 [.int x3] 1 = .int x0 := q9upN_of (by decide) ae0
  have u1 : q9upN w 4 [.int x3] 2 = .int x1 := q9upN_of (by decide) ae1
  have u2 : q9upN w 4 [.int x3] 3 = .int x2 := q9upN_of (by decide) ae2
  have u3 : q9upN w 4 [.int x3] 4 = .int x3 := q9upN_at (by decide)
  refine ⟨[.int x3], fun i9 p9 hq9 => ?_, fun _ h => absurd h List.not_mem_nil, fun _ h => absurd h List.not_mem_nil⟩
  · match i9, hq9 with
    | 0, hq9 =>
      have hp9 : ((1104, (1, 0), (0, 0), (0, 0, 0)) : Nat × q9AV × q9AV × q9ET) = p9 := Option.some.inj hq9
      subst hp9
      exact ⟨⟨x3, rfl, by rw [nt3]; exact rg0.1, by rw [nt3]; exact rg0.2⟩, (q9th_tX (T := T) (N := N) (P := P) (J := J) (t0 := t0) (Sc := Sc) (q9evS u0) (q9evZ u_) (q9evS u3) (by rw [q9FF_1104, nt3]; exact (by show some (q9wsI T N 4 x0.toInt) = _; rw [q9ws_len (t := 4) (by show _ ≠ ((4 : Nat) : Int); omega)])) (by decide)).trans (congrArg some (q9evS u3))⟩
    | k9 + 1, hq9 => exact nomatch (show (none : Option (Nat × q9AV × q9AV × q9ET)) = some p9 from hq9)
theorem q9ru_wa4_0 (hT : ∀ i, 0 ≤ T i ∧ T i ≤ 255) (hN : 0 ≤ N ∧ N ≤ 400) (hSc : 0 ≤ Sc 1 ∧ Sc 1 ≤ 400 → N = Sc 1) : q9ruOK (fO T N P J t0 Sc) q9R_wa4_0 := by
  intro w w0 hA hX hL hV hR
  obtain ⟨x0, ae0, -, -⟩ := hA 0 0 rfl
  obtain ⟨x1, ae1, -, -⟩ := hA 1 0 rfl
  have kz : (0 : Int32).toInt = 0 := rfl
  have k101 : (Int32.ofInt 101).toInt = 101 := q9oI_toInt (by decide)
  have X0 := q9th_pX (T := T) (N := N) (P := P) (J := J) (t0 := t0) (Sc := Sc) (op := 1000) (q9evS ae0) (q9evZ w0) (q9evS ae1) (hX _ (List.mem_of_getElem? (i := 0) rfl)) (by decide)
  rw [q9FF_1000] at X0
  have H0 := Option.some.inj X0
  try simp only [kz, k101] at H0
  have L0 : x1.toInt ≤ (Int32.ofInt 101).toInt + 0 := q9pC (q9evS ae1) (q9evC w0 101) (hL _ (List.mem_of_getElem? (i := 0) rfl))
  have L1 : (0 : Int32).toInt ≤ x0.toInt + 0 := q9pC (q9evZ w0) (q9evS ae0) (hL _ (List.mem_of_getElem? (i := 1) rfl))
  have hne : q9byI T N (x0.toInt + ((0 : Nat) : Int)) ≠ 102 := by
    rw [show x0.toInt + ((0 : Nat) : Int) = x0.toInt by omega]
    omega
  have rg0 : (0 : Int) ≤ 0 ∧ (0 : Int) ≤ 0 := by omega
  obtain ⟨x2, nt2⟩ : ∃ x : Int32, x.toInt = 0 := ⟨Int32.ofInt (0), q9oI_toInt (by omega)⟩
  have u_ : q9upN w 3 [.int x2] 0 = .int 0 := q9upN_of (by decide) w0
  have u0 : q9upN w 3 [.int x2] 1 = .int x0 := q9upN_of (by decide) ae0
  have u1 : q9upN w 3 [.int x2] 2 = .int x1 := q9upN_of (by decide) ae1
  have u2 : q9upN w 3 [.int x2] 3 = .int x2 := q9upN_at (by decide)
  refine ⟨[.int x2], fun i9 p9 hq9 => ?_, fun _ h => absurd h List.not_mem_nil, fun _ h => absurd h List.not_mem_nil⟩
  · match i9, hq9 with
    | 0, hq9 =>
      have hp9 : ((1104, (1, 0), (0, 0), (0, 0, 0)) : Nat × q9AV × q9AV × q9ET) = p9 := Option.some.inj hq9
      subst hp9
      exact ⟨⟨x2, rfl, by rw [nt2]; exact rg0.1, by rw [nt2]; exact rg0.2⟩, (q9th_tX (T := T) (N := N) (P := P) (J := J) (t0 := t0) (Sc := Sc) (q9evS u0) (q9evZ u_) (q9evS u2) (by rw [q9FF_1104, nt2]; exact (by show some (q9wsI T N 4 x0.toInt) = _; rw [q9ws_ne (t := 4) 0 (by decide) hne])) (by decide)).trans (congrArg some (q9evS u2))⟩
    | k9 + 1, hq9 => exact nomatch (show (none : Option (Nat × q9AV × q9AV × q9ET)) = some p9 from hq9)
theorem q9ru_wb4_0 (hT : ∀ i, 0 ≤ T i ∧ T i ≤ 255) (hN : 0 ≤ N ∧ N ≤ 400) (hSc : 0 ≤ Sc 1 ∧ Sc 1 ≤ 400 → N = Sc 1) : q9ruOK (fO T N P J t0 Sc) q9R_wb4_0 := by
  intro w w0 hA hX hL hV hR
  obtain ⟨x0, ae0, -, -⟩ := hA 0 0 rfl
  obtain ⟨x1, ae1, -, -⟩ := hA 1 0 rfl
  have kz : (0 : Int32).toInt = 0 := rfl
  have k103 : (Int32.ofInt 103).toInt = 103 := q9oI_toInt (by decide)
  have X0 := q9th_pX (T := T) (N := N) (P := P) (J := J) (t0 := t0) (Sc := Sc) (op := 1000) (q9evS ae0) (q9evZ w0) (q9evS ae1) (hX _ (List.mem_of_getElem? (i := 0) rfl)) (by decide)
  rw [q9FF_1000] at X0
  have H0 := Option.some.inj X0
  try simp only [kz, k103] at H0
  have L0 : (Int32.ofInt 103).toInt ≤ x1.toInt + 0 := q9pC (q9evC w0 103) (q9evS ae1) (hL _ (List.mem_of_getElem? (i := 0) rfl))
  have L1 : (0 : Int32).toInt ≤ x0.toInt + 0 := q9pC (q9evZ w0) (q9evS ae0) (hL _ (List.mem_of_getElem? (i := 1) rfl))
  have hne : q9byI T N (x0.toInt + ((0 : Nat) : Int)) ≠ 102 := by
    rw [show x0.toInt + ((0 : Nat) : Int) = x0.toInt by omega]
    omega
  have rg0 : (0 : Int) ≤ 0 ∧ (0 : Int) ≤ 0 := by omega
  obtain ⟨x2, nt2⟩ : ∃ x : Int32, x.toInt = 0 := ⟨Int32.ofInt (0), q9oI_toInt (by omega)⟩
  have u_ : q9upN w 3 [.int x2] 0 = .int 0 := q9upN_of (by decide) w0
  have u0 : q9upN w 3 [.int x2] 1 = .int x0 := q9upN_of (by decide) ae0
  have u1 : q9upN w 3 [.int x2] 2 = .int x1 := q9upN_of (by decide) ae1
  have u2 : q9upN w 3 [.int x2] 3 = .int x2 := q9upN_at (by decide)
  refine ⟨[.int x2], fun i9 p9 hq9 => ?_, fun _ h => absurd h List.not_mem_nil, fun _ h => absurd h List.not_mem_nil⟩
  · match i9, hq9 with
    | 0, hq9 =>
      have hp9 : ((1104, (1, 0), (0, 0), (0, 0, 0)) : Nat × q9AV × q9AV × q9ET) = p9 := Option.some.inj hq9
      subst hp9
      exact ⟨⟨x2, rfl, by rw [nt2]; exact rg0.1, by rw [nt2]; exact rg0.2⟩, (q9th_tX (T := T) (N := N) (P := P) (J := J) (t0 := t0) (Sc := Sc) (q9evS u0) (q9evZ u_) (q9evS u2) (by rw [q9FF_1104, nt2]; exact (by show some (q9wsI T N 4 x0.toInt) = _; rw [q9ws_ne (t := 4) 0 (by decide) hne])) (by decide)).trans (congrArg some (q9evS u2))⟩
    | k9 + 1, hq9 => exact nomatch (show (none : Option (Nat × q9AV × q9AV × q9ET)) = some p9 from hq9)
theorem q9ru_wa4_1 (hT : ∀ i, 0 ≤ T i ∧ T i ≤ 255) (hN : 0 ≤ N ∧ N ≤ 400) (hSc : 0 ≤ Sc 1 ∧ Sc 1 ≤ 400 → N = Sc 1) : q9ruOK (fO T N P J t0 Sc) q9R_wa4_1 := by
  intro w w0 hA hX hL hV hR
  obtain ⟨x0, ae0, -, -⟩ := hA 0 0 rfl
  obtain ⟨x1, ae1, -, -⟩ := hA 1 0 rfl
  have kz : (0 : Int32).toInt = 0 := rfl
  have k113 : (Int32.ofInt 113).toInt = 113 := q9oI_toInt (by decide)
  have X0 := q9th_pX (T := T) (N := N) (P := P) (J := J) (t0 := t0) (Sc := Sc) (op := 1000) (q9evO ae0 1) (q9evZ w0) (q9evS ae1) (hX _ (List.mem_of_getElem? (i := 0) rfl)) (by decide)
  rw [q9FF_1000] at X0
  have H0 := Option.some.inj X0
  try simp only [kz, k113] at H0
  have L0 : x1.toInt ≤ (Int32.ofInt 113).toInt + 0 := q9pC (q9evS ae1) (q9evC w0 113) (hL _ (List.mem_of_getElem? (i := 0) rfl))
  have L1 : (0 : Int32).toInt ≤ x0.toInt + 0 := q9pC (q9evZ w0) (q9evS ae0) (hL _ (List.mem_of_getElem? (i := 1) rfl))
  have hne : q9byI T N (x0.toInt + ((1 : Nat) : Int)) ≠ 114 := by
    rw [show x0.toInt + ((1 : Nat) : Int) = x0.toInt + 1 from rfl]
    by_cases hb : x0.toInt + 1 ≤ 2147483647
    · rw [q9ad32 (x := x0) (d := 1) (by omega)] at H0
      omega
    · intro h
      have := q9byI_lt (T := T) (N := N) (i := x0.toInt + 1) (by omega)
      omega
  have rg0 : (0 : Int) ≤ 0 ∧ (0 : Int) ≤ 0 := by omega
  obtain ⟨x2, nt2⟩ : ∃ x : Int32, x.toInt = 0 := ⟨Int32.ofInt (0), q9oI_toInt (by omega)⟩
  have u_ : q9upN w 3 [.int x2] 0 = .int 0 := q9upN_of (by decide) w0
  have u0 : q9upN w 3 [.int x2] 1 = .int x0 := q9upN_of (by decide) ae0
  have u1 : q9upN w 3 [.int x2] 2 = .int x1 := q9upN_of (by decide) ae1
  have u2 : q9upN w 3 [.int x2] 3 = .int x2 := q9upN_at (by decide)
  refine ⟨[.int x2], fun i9 p9 hq9 => ?_, fun _ h => absurd h List.not_mem_nil, fun _ h => absurd h List.not_mem_nil⟩
  · match i9, hq9 with
    | 0, hq9 =>
      have hp9 : ((1104, (1, 0), (0, 0), (0, 0, 0)) : Nat × q9AV × q9AV × q9ET) = p9 := Option.some.inj hq9
      subst hp9
      exact ⟨⟨x2, rfl, by rw [nt2]; exact rg0.1, by rw [nt2]; exact rg0.2⟩, (q9th_tX (T := T) (N := N) (P := P) (J := J) (t0 := t0) (Sc := Sc) (q9evS u0) (q9evZ u_) (q9evS u2) (by rw [q9FF_1104, nt2]; exact (by show some (q9wsI T N 4 x0.toInt) = _; rw [q9ws_ne (t := 4) 1 (by decide) hne])) (by decide)).trans (congrArg some (q9evS u2))⟩
    | k9 + 1, hq9 => exact nomatch (show (none : Option (Nat × q9AV × q9AV × q9ET)) = some p9 from hq9)
theorem q9ru_wb4_1 (hT : ∀ i, 0 ≤ T i ∧ T i ≤ 255) (hN : 0 ≤ N ∧ N ≤ 400) (hSc : 0 ≤ Sc 1 ∧ Sc 1 ≤ 400 → N = Sc 1) : q9ruOK (fO T N P J t0 Sc) q9R_wb4_1 := by
  intro w w0 hA hX hL hV hR
  obtain ⟨x0, ae0, -, -⟩ := hA 0 0 rfl
  obtain ⟨x1, ae1, -, -⟩ := hA 1 0 rfl
  have kz : (0 : Int32).toInt = 0 := rfl
  have k115 : (Int32.ofInt 115).toInt = 115 := q9oI_toInt (by decide)
  have X0 := q9th_pX (T := T) (N := N) (P := P) (J := J) (t0 := t0) (Sc := Sc) (op := 1000) (q9evO ae0 1) (q9evZ w0) (q9evS ae1) (hX _ (List.mem_of_getElem? (i := 0) rfl)) (by decide)
  rw [q9FF_1000] at X0
  have H0 := Option.some.inj X0
  try simp only [kz, k115] at H0
  have L0 : (Int32.ofInt 115).toInt ≤ x1.toInt + 0 := q9pC (q9evC w0 115) (q9evS ae1) (hL _ (List.mem_of_getElem? (i := 0) rfl))
  have L1 : (0 : Int32).toInt ≤ x0.toInt + 0 := q9pC (q9evZ w0) (q9evS ae0) (hL _ (List.mem_of_getElem? (i := 1) rfl))
  have hne : q9byI T N (x0.toInt + ((1 : Nat) : Int)) ≠ 114 := by
    rw [show x0.toInt + ((1 : Nat) : Int) = x0.toInt + 1 from rfl]
    by_cases hb : x0.toInt + 1 ≤ 2147483647
    · rw [q9ad32 (x := x0) (d := 1) (by omega)] at H0
      omega
    · intro h
      have := q9byI_lt (T := T) (N := N) (i := x0.toInt + 1) (by omega)
      omega
  have rg0 : (0 : Int) ≤ 0 ∧ (0 : Int) ≤ 0 := by omega
  obtain ⟨x2, nt2⟩ : ∃ x : Int32, x.toInt = 0 := ⟨Int32.ofInt (0), q9oI_toInt (by omega)⟩
  have u_ : q9upN w 3 [.int x2] 0 = .int 0 := q9upN_of (by decide) w0
  have u0 : q9upN w 3 [.int x2] 1 = .int x0 := q9upN_of (by decide) ae0
  have u1 : q9upN w 3 [.int x2] 2 = .int x1 := q9upN_of (by decide) ae1
  have u2 : q9upN w 3 [.int x2] 3 = .int x2 := q9upN_at (by decide)
  refine ⟨[.int x2], fun i9 p9 hq9 => ?_, fun _ h => absurd h List.not_mem_nil, fun _ h => absurd h List.not_mem_nil⟩
  · match i9, hq9 with
    | 0, hq9 =>
      have hp9 : ((1104, (1, 0), (0, 0), (0, 0, 0)) : Nat × q9AV × q9AV × q9ET) = p9 := Option.some.inj hq9
      subst hp9
      exact ⟨⟨x2, rfl, by rw [nt2]; exact rg0.1, by rw [nt2]; exact rg0.2⟩, (q9th_tX (T := T) (N := N) (P := P) (J := J) (t0 := t0) (Sc := Sc) (q9evS u0) (q9evZ u_) (q9evS u2) (by rw [q9FF_1104, nt2]; exact (by show some (q9wsI T N 4 x0.toInt) = _; rw [q9ws_ne (t := 4) 1 (by decide) hne])) (by decide)).trans (congrArg some (q9evS u2))⟩
    | k9 + 1, hq9 => exact nomatch (show (none : Option (Nat × q9AV × q9AV × q9ET)) = some p9 from hq9)
theorem q9ru_wa4_2 (hT : ∀ i, 0 ≤ T i ∧ T i ≤ 255) (hN : 0 ≤ N ∧ N ≤ 400) (hSc : 0 ≤ Sc 1 ∧ Sc 1 ≤ 400 → N = Sc 1) : q9ruOK (fO T N P J t0 Sc) q9R_wa4_2 := by
  intro w w0 hA hX hL hV hR
  obtain ⟨x0, ae0, -, -⟩ := hA 0 0 rfl
  obtain ⟨x1, ae1, -, -⟩ := hA 1 0 rfl
  have kz : (0 : Int32).toInt = 0 := rfl
  have k100 : (Int32.ofInt 100).toInt = 100 := q9oI_toInt (by decide)
  have X0 := q9th_pX (T := T) (N := N) (P := P) (J := J) (t0 := t0) (Sc := Sc) (op := 1000) (q9evO ae0 2) (q9evZ w0) (q9evS ae1) (hX _ (List.mem_of_getElem? (i := 0) rfl)) (by decide)
  rw [q9FF_1000] at X0
  have H0 := Option.some.inj X0
  try simp only [kz, k100] at H0
  have L0 : x1.toInt ≤ (Int32.ofInt 100).toInt + 0 := q9pC (q9evS ae1) (q9evC w0 100) (hL _ (List.mem_of_getElem? (i := 0) rfl))
  have L1 : (0 : Int32).toInt ≤ x0.toInt + 0 := q9pC (q9evZ w0) (q9evS ae0) (hL _ (List.mem_of_getElem? (i := 1) rfl))
  have hne : q9byI T N (x0.toInt + ((2 : Nat) : Int)) ≠ 101 := by
    rw [show x0.toInt + ((2 : Nat) : Int) = x0.toInt + 2 from rfl]
    by_cases hb : x0.toInt + 2 ≤ 2147483647
    · rw [q9ad32 (x := x0) (d := 2) (by omega)] at H0
      omega
    · intro h
      have := q9byI_lt (T := T) (N := N) (i := x0.toInt + 2) (by omega)
      omega
  have rg0 : (0 : Int) ≤ 0 ∧ (0 : Int) ≤ 0 := by omega
  obtain ⟨x2, nt2⟩ : ∃ x : Int32, x.toInt = 0 := ⟨Int32.ofInt (0), q9oI_toInt (by omega)⟩
  have u_ : q9upN w 3 [.int x2] 0 = .int 0 := q9upN_of (by decide) w0
  have u0 : q9upN w 3 [.int x2] 1 = .int x0 := q9upN_of (by decide) ae0
  have u1 : q9upN w 3 [.int x2] 2 = .int x1 := q9upN_of (by decide) ae1
  have u2 : q9upN w 3 [.int x2] 3 = .int x2 := q9upN_at (by decide)
  refine ⟨[.int x2], fun i9 p9 hq9 => ?_, fun _ h => absurd h List.not_mem_nil, fun _ h => absurd h List.not_mem_nil⟩
  · match i9, hq9 with
    | 0, hq9 =>
      have hp9 : ((1104, (1, 0), (0, 0), (0, 0, 0)) : Nat × q9AV × q9AV × q9ET) = p9 := Option.some.inj hq9
      subst hp9
      exact ⟨⟨x2, rfl, by rw [nt2]; exact rg0.1, by rw [nt2]; exact rg0.2⟩, (q9th_tX (T := T) (N := N) (P := P) (J := J) (t0 := t0) (Sc := Sc) (q9evS u0) (q9evZ u_) (q9evS u2) (by rw [q9FF_1104, nt2]; exact (by show some (q9wsI T N 4 x0.toInt) = _; rw [q9ws_ne (t := 4) 2 (by decide) hne])) (by decide)).trans (congrArg some (q9evS u2))⟩
    | k9 + 1, hq9 => exact nomatch (show (none : Option (Nat × q9AV × q9AV × q9ET)) = some p9 from hq9)
theorem q9ru_wb4_2 (hT : ∀ i, 0 ≤ T i ∧ T i ≤ 255) (hN : 0 ≤ N ∧ N ≤ 400) (hSc : 0 ≤ Sc 1 ∧ Sc 1 ≤ 400 → N = Sc 1) : q9ruOK (fO T N P J t0 Sc) q9R_wb4_2 := by
  intro w w0 hA hX hL hV hR
  obtain ⟨x0, ae0, -, -⟩ := hA 0 0 rfl
  obtain ⟨x1, ae1, -, -⟩ := hA 1 0 rfl
  have kz : (0 : Int32).toInt = 0 := rfl
  have k102 : (Int32.ofInt 102).toInt = 102 := q9oI_toInt (by decide)
  have X0 := q9th_pX (T := T) (N := N) (P := P) (J := J) (t0 := t0) (Sc := Sc) (op := 1000) (q9evO ae0 2) (q9evZ w0) (q9evS ae1) (hX _ (List.mem_of_getElem? (i := 0) rfl)) (by decide)
  rw [q9FF_1000] at X0
  have H0 := Option.some.inj X0
  try simp only [kz, k102] at H0
  have L0 : (Int32.ofInt 102).toInt ≤ x1.toInt + 0 := q9pC (q9evC w0 102) (q9evS ae1) (hL _ (List.mem_of_getElem? (i := 0) rfl))
  have L1 : (0 : Int32).toInt ≤ x0.toInt + 0 := q9pC (q9evZ w0) (q9evS ae0) (hL _ (List.mem_of_getElem? (i := 1) rfl))
  have hne : q9byI T N (x0.toInt + ((2 : Nat) : Int)) ≠ 101 := by
    rw [show x0.toInt + ((2 : Nat) : Int) = x0.toInt + 2 from rfl]
    by_cases hb : x0.toInt + 2 ≤ 2147483647
    · rw [q9ad32 (x := x0) (d := 2) (by omega)] at H0
      omega
    · intro h
      have := q9byI_lt (T := T) (N := N) (i := x0.toInt + 2) (by omega)
      omega
  have rg0 : (0 : Int) ≤ 0 ∧ (0 : Int) ≤ 0 := by omega
  obtain ⟨x2, nt2⟩ : ∃ x : Int32, x.toInt = 0 := ⟨Int32.ofInt (0), q9oI_toInt (by omega)⟩
  have u_ : q9upN w 3 [.int x2] 0 = .int 0 := q9upN_of (by decide) w0
  have u0 : q9upN w 3 [.int x2] 1 = .int x0 := q9upN_of (by decide) ae0
  have u1 : q9upN w 3 [.int x2] 2 = .int x1 := q9upN_of (by decide) ae1
  have u2 : q9upN w 3 [.int x2] 3 = .int x2 := q9upN_at (by decide)
  refine ⟨[.int x2], fun i9 p9 hq9 => ?_, fun _ h => absurd h List.not_mem_nil, fun _ h => absurd h List.not_mem_nil⟩
  · match i9, hq9 with
    | 0, hq9 =>
      have hp9 : ((1104, (1, 0), (0, 0), (0, 0, 0)) : Nat × q9AV × q9AV × q9ET) = p9 := Option.some.inj hq9
      subst hp9
      exact ⟨⟨x2, rfl, by rw [nt2]; exact rg0.1, by rw [nt2]; exact rg0.2⟩, (q9th_tX (T := T) (N := N) (P := P) (J := J) (t0 := t0) (Sc := Sc) (q9evS u0) (q9evZ u_) (q9evS u2) (by rw [q9FF_1104, nt2]; exact (by show some (q9wsI T N 4 x0.toInt) = _; rw [q9ws_ne (t := 4) 2 (by decide) hne])) (by decide)).trans (congrArg some (q9evS u2))⟩
    | k9 + 1, hq9 => exact nomatch (show (none : Option (Nat × q9AV × q9AV × q9ET)) = some p9 from hq9)
theorem q9ru_wa4_3 (hT : ∀ i, 0 ≤ T i ∧ T i ≤ 255) (hN : 0 ≤ N ∧ N ≤ 400) (hSc : 0 ≤ Sc 1 ∧ Sc 1 ≤ 400 → N = Sc 1) : q9ruOK (fO T N P J t0 Sc) q9R_wa4_3 := by
  intro w w0 hA hX hL hV hR
  obtain ⟨x0, ae0, -, -⟩ := hA 0 0 rfl
  obtain ⟨x1, ae1, -, -⟩ := hA 1 0 rfl
  have kz : (0 : Int32).toInt = 0 := rfl
  have k100 : (Int32.ofInt 100).toInt = 100 := q9oI_toInt (by decide)
  have X0 := q9th_pX (T := T) (N := N) (P := P) (J := J) (t0 := t0) (Sc := Sc) (op := 1000) (q9evO ae0 3) (q9evZ w0) (q9evS ae1) (hX _ (List.mem_of_getElem? (i := 0) rfl)) (by decide)
  rw [q9FF_1000] at X0
  have H0 := Option.some.inj X0
  try simp only [kz, k100] at H0
  have L0 : x1.toInt ≤ (Int32.ofInt 100).toInt + 0 := q9pC (q9evS ae1) (q9evC w0 100) (hL _ (List.mem_of_getElem? (i := 0) rfl))
  have L1 : (0 : Int32).toInt ≤ x0.toInt + 0 := q9pC (q9evZ w0) (q9evS ae0) (hL _ (List.mem_of_getElem? (i := 1) rfl))
  have hne : q9byI T N (x0.toInt + ((3 : Nat) : Int)) ≠ 101 := by
    rw [show x0.toInt + ((3 : Nat) : Int) = x0.toInt + 3 from rfl]
    by_cases hb : x0.toInt + 3 ≤ 2147483647
    · rw [q9ad32 (x := x0) (d := 3) (by omega)] at H0
      omega
    · intro h
      have := q9byI_lt (T := T) (N := N) (i := x0.toInt + 3) (by omega)
      omega
  have rg0 : (0 : Int) ≤ 0 ∧ (0 : Int) ≤ 0 := by omega
  obtain ⟨x2, nt2⟩ : ∃ x : Int32, x.toInt = 0 := ⟨Int32.ofInt (0), q9oI_toInt (by omega)⟩
  have u_ : q9upN w 3 [.int x2] 0 = .int 0 := q9upN_of (by decide) w0
  have u0 : q9upN w 3 [.int x2] 1 = .int x0 := q9upN_of (by decide) ae0
  have u1 : q9upN w 3 [.int x2] 2 = .int x1 := q9upN_of (by decide) ae1
  have u2 : q9upN w 3 [.int x2] 3 = .int x2 := q9upN_at (by decide)
  refine ⟨[.int x2], fun i9 p9 hq9 => ?_, fun _ h => absurd h List.not_mem_nil, fun _ h => absurd h List.not_mem_nil⟩
  · match i9, hq9 with
    | 0, hq9 =>
      have hp9 : ((1104, (1, 0), (0, 0), (0, 0, 0)) : Nat × q9AV × q9AV × q9ET) = p9 := Option.some.inj hq9
      subst hp9
      exact ⟨⟨x2, rfl, by rw [nt2]; exact rg0.1, by rw [nt2]; exact rg0.2⟩, (q9th_tX (T := T) (N := N) (P := P) (J := J) (t0 := t0) (Sc := Sc) (q9evS u0) (q9evZ u_) (q9evS u2) (by rw [q9FF_1104, nt2]; exact (by show some (q9wsI T N 4 x0.toInt) = _; rw [q9ws_ne (t := 4) 3 (by decide) hne])) (by decide)).trans (congrArg some (q9evS u2))⟩
    | k9 + 1, hq9 => exact nomatch (show (none : Option (Nat × q9AV × q9AV × q9ET)) = some p9 from hq9)
theorem q9ru_wb4_3 (hT : ∀ i, 0 ≤ T i ∧ T i ≤ 255) (hN : 0 ≤ N ∧ N ≤ 400) (hSc : 0 ≤ Sc 1 ∧ Sc 1 ≤ 400 → N = Sc 1) : q9ruOK (fO T N P J t0 Sc) q9R_wb4_3 := by
  intro w w0 hA hX hL hV hR
  obtain ⟨x0, ae0, -, -⟩ := hA 0 0 rfl
  obtain ⟨x1, ae1, -, -⟩ := hA 1 0 rfl
  have kz : (0 : Int32).toInt = 0 := rfl
  have k102 : (Int32.ofInt 102).toInt = 102 := q9oI_toInt (by decide)
  have X0 := q9th_pX (T := T) (N := N) (P := P) (J := J) (t0 := t0) (Sc := Sc) (op := 1000) (q9evO ae0 3) (q9evZ w0) (q9evS ae1) (hX _ (List.mem_of_getElem? (i := 0) rfl)) (by decide)
  rw [q9FF_1000] at X0
  have H0 := Option.some.inj X0
  try simp only [kz, k102] at H0
  have L0 : (Int32.ofInt 102).toInt ≤ x1.toInt + 0 := q9pC (q9evC w0 102) (q9evS ae1) (hL _ (List.mem_of_getElem? (i := 0) rfl))
  have L1 : (0 : Int32).toInt ≤ x0.toInt + 0 := q9pC (q9evZ w0) (q9evS ae0) (hL _ (List.mem_of_getElem? (i := 1) rfl))
  have hne : q9byI T N (x0.toInt + ((3 : Nat) : Int)) ≠ 101 := by
    rw [show x0.toInt + ((3 : Nat) : Int) = x0.toInt + 3 from rfl]
    by_cases hb : x0.toInt + 3 ≤ 2147483647
    · rw [q9ad32 (x := x0) (d := 3) (by omega)] at H0
      omega
    · intro h
      have := q9byI_lt (T := T) (N := N) (i := x0.toInt + 3) (by omega)
      omega
  have rg0 : (0 : Int) ≤ 0 ∧ (0 : Int) ≤ 0 := by omega
  obtain ⟨x2, nt2⟩ : ∃ x : Int32, x.toInt = 0 := ⟨Int32.ofInt (0), q9oI_toInt (by omega)⟩
  have u_ : q9upN w 3 [.int x2] 0 = .int 0 := q9upN_of (by decide) w0
  have u0 : q9upN w 3 [.int x2] 1 = .int x0 := q9upN_of (by decide) ae0
  have u1 : q9upN w 3 [.int x2] 2 = .int x1 := q9upN_of (by decide) ae1
  have u2 : q9upN w 3 [.int x2] 3 = .int x2 := q9upN_at (by decide)
  refine ⟨[.int x2], fun i9 p9 hq9 => ?_, fun _ h => absurd h List.not_mem_nil, fun _ h => absurd h List.not_mem_nil⟩
  · match i9, hq9 with
    | 0, hq9 =>
      have hp9 : ((1104, (1, 0), (0, 0), (0, 0, 0)) : Nat × q9AV × q9AV × q9ET) = p9 := Option.some.inj hq9
      subst hp9
      exact ⟨⟨x2, rfl, by rw [nt2]; exact rg0.1, by rw [nt2]; exact rg0.2⟩, (q9th_tX (T := T) (N := N) (P := P) (J := J) (t0 := t0) (Sc := Sc) (q9evS u0) (q9evZ u_) (q9evS u2) (by rw [q9FF_1104, nt2]; exact (by show some (q9wsI T N 4 x0.toInt) = _; rw [q9ws_ne (t := 4) 3 (by decide) hne])) (by decide)).trans (congrArg some (q9evS u2))⟩
    | k9 + 1, hq9 => exact nomatch (show (none : Option (Nat × q9AV × q9AV × q9ET)) = some p9 from hq9)
theorem q9ru_wy4 (hT : ∀ i, 0 ≤ T i ∧ T i ≤ 255) (hN : 0 ≤ N ∧ N ≤ 400) (hSc : 0 ≤ Sc 1 ∧ Sc 1 ≤ 400 → N = Sc 1) : q9ruOK (fO T N P J t0 Sc) q9R_wy4 := by
  intro w w0 hA hX hL hV hR
  obtain ⟨x0, ae0, -, -⟩ := hA 0 0 rfl
  obtain ⟨x1, ae1, -, -⟩ := hA 1 0 rfl
  obtain ⟨x2, ae2, -, -⟩ := hA 2 0 rfl
  obtain ⟨x3, ae3, -, -⟩ := hA 3 0 rfl
  obtain ⟨x4, ae4, -, -⟩ := hA 4 0 rfl
  obtain ⟨x5, ae5, -, -⟩ := hA 5 0 rfl
  obtain ⟨x6, ae6, -, -⟩ := hA 6 0 rfl
  have kz : (0 : Int32).toInt = 0 := rfl
  have k4 : (Int32.ofInt 4).toInt = 4 := q9oI_toInt (by decide)
  have k101 : (Int32.ofInt 101).toInt = 101 := q9oI_toInt (by decide)
  have k102 : (Int32.ofInt 102).toInt = 102 := q9oI_toInt (by decide)
  have k114 : (Int32.ofInt 114).toInt = 114 := q9oI_toInt (by decide)
  have X0 := q9th_pX (T := T) (N := N) (P := P) (J := J) (t0 := t0) (Sc := Sc) (op := 1003) (q9evS ae0) (q9evZ w0) (q9evS ae1) (hX _ (List.mem_of_getElem? (i := 0) rfl)) (by decide)
  rw [q9FF_1003] at X0
  have H0 := Option.some.inj X0
  try simp only [kz, k4, k101, k102, k114] at H0
  have X1 := q9pB (T := T) (N := N) (P := P) (J := J) (t0 := t0) (Sc := Sc) (q9evS ae1) (q9evS ae0) (q9evS ae2) (hX _ (List.mem_of_getElem? (i := 1) rfl))
  have L0 : (Int32.ofInt 4).toInt ≤ x2.toInt + 0 := q9pC (q9evC w0 4) (q9evS ae2) (hL _ (List.mem_of_getElem? (i := 0) rfl))
  have L1 : x2.toInt ≤ (Int32.ofInt 4).toInt + 0 := q9pC (q9evS ae2) (q9evC w0 4) (hL _ (List.mem_of_getElem? (i := 1) rfl))
  have L2 : (0 : Int32).toInt ≤ x0.toInt + 0 := q9pC (q9evZ w0) (q9evS ae0) (hL _ (List.mem_of_getElem? (i := 2) rfl))
  have X2 := q9th_pX (T := T) (N := N) (P := P) (J := J) (t0 := t0) (Sc := Sc) (op := 1000) (q9evS ae0) (q9evZ w0) (q9evS ae3) (hX _ (List.mem_of_getElem? (i := 2) rfl)) (by decide)
  rw [q9FF_1000] at X2
  have H2 := Option.some.inj X2
  try simp only [kz, k4, k101, k102, k114] at H2
  have L3 : (Int32.ofInt 102).toInt ≤ x3.toInt + 0 := q9pC (q9evC w0 102) (q9evS ae3) (hL _ (List.mem_of_getElem? (i := 3) rfl))
  have L4 : x3.toInt ≤ (Int32.ofInt 102).toInt + 0 := q9pC (q9evS ae3) (q9evC w0 102) (hL _ (List.mem_of_getElem? (i := 4) rfl))
  have X3 := q9th_pX (T := T) (N := N) (P := P) (J := J) (t0 := t0) (Sc := Sc) (op := 1000) (q9evO ae0 1) (q9evZ w0) (q9evS ae4) (hX _ (List.mem_of_getElem? (i := 3) rfl)) (by decide)
  rw [q9FF_1000] at X3
  have H3 := Option.some.inj X3
  try simp only [kz, k4, k101, k102, k114] at H3
  have L5 : (Int32.ofInt 114).toInt ≤ x4.toInt + 0 := q9pC (q9evC w0 114) (q9evS ae4) (hL _ (List.mem_of_getElem? (i := 5) rfl))
  have L6 : x4.toInt ≤ (Int32.ofInt 114).toInt + 0 := q9pC (q9evS ae4) (q9evC w0 114) (hL _ (List.mem_of_getElem? (i := 6) rfl))
  have X4 := q9th_pX (T := T) (N := N) (P := P) (J := J) (t0 := t0) (Sc := Sc) (op := 1000) (q9evO ae0 2) (q9evZ w0) (q9evS ae5) (hX _ (List.mem_of_getElem? (i := 4) rfl)) (by decide)
  rw [q9FF_1000] at X4
  have H4 := Option.some.inj X4
  try simp only [kz, k4, k101, k102, k114] at H4
  have L7 : (Int32.ofInt 101).toInt ≤ x5.toInt + 0 := q9pC (q9evC w0 101) (q9evS ae5) (hL _ (List.mem_of_getElem? (i := 7) rfl))
  have L8 : x5.toInt ≤ (Int32.ofInt 101).toInt + 0 := q9pC (q9evS ae5) (q9evC w0 101) (hL _ (List.mem_of_getElem? (i := 8) rfl))
  have X5 := q9th_pX (T := T) (N := N) (P := P) (J := J) (t0 := t0) (Sc := Sc) (op := 1000) (q9evO ae0 3) (q9evZ w0) (q9evS ae6) (hX _ (List.mem_of_getElem? (i := 5) rfl)) (by decide)
  rw [q9FF_1000] at X5
  have H5 := Option.some.inj X5
  try simp only [kz, k4, k101, k102, k114] at H5
  have L9 : (Int32.ofInt 101).toInt ≤ x6.toInt + 0 := q9pC (q9evC w0 101) (q9evS ae6) (hL _ (List.mem_of_getElem? (i := 9) rfl))
  have L10 : x6.toInt ≤ (Int32.ofInt 101).toInt + 0 := q9pC (q9evS ae6) (q9evC w0 101) (hL _ (List.mem_of_getElem? (i := 10) rfl))
  have b1 := q9we_ge (T := T) (N := N) (i := x0.toInt)
  have b2 := q9we_le (T := T) (N := N) (i := x0.toInt)
  have d := q9su32 X1 (by omega)
  have z0 : q9byI T N (x0.toInt + ((0 : Nat) : Int)) = 102 := by rw [show x0.toInt + ((0 : Nat) : Int) = x0.toInt + 0 by omega, Int.add_zero]; omega
  have v1 := q9ad32 (x := x0) (d := 1) (by omega)
  rw [v1] at H3
  have z1 : q9byI T N (x0.toInt + ((1 : Nat) : Int)) = 114 := by rw [show x0.toInt + ((1 : Nat) : Int) = x0.toInt + 1 by omega]; omega
  have v2 := q9ad32 (x := x0) (d := 2) (by omega)
  rw [v2] at H4
  have z2 : q9byI T N (x0.toInt + ((2 : Nat) : Int)) = 101 := by rw [show x0.toInt + ((2 : Nat) : Int) = x0.toInt + 2 by omega]; omega
  have v3 := q9ad32 (x := x0) (d := 3) (by omega)
  rw [v3] at H5
  have z3 : q9byI T N (x0.toInt + ((3 : Nat) : Int)) = 101 := by rw [show x0.toInt + ((3 : Nat) : Int) = x0.toInt + 3 by omega]; omega
  have rg0 : (1 : Int) ≤ 1 ∧ (1 : Int) ≤ 1 := by omega
  obtain ⟨x7, nt7⟩ : ∃ x : Int32, x.toInt = 1 := ⟨Int32.ofInt (1), q9oI_toInt (by omega)⟩
  have u_ : q9upN w 8 [.int x7] 0 = .int 0 := q9upN_of (by decide) w0
  have u0 : q9upN w 8 [.int x7] 1 = .int x0 := q9upN_of (by decide) ae0
  have u1 : q9upN w 8 [.int x7] 2 = .int x1 := q9upN_of (by decide) ae1
  have u2 : q9upN w 8 [.int x7] 3 = .int x2 := q9upN_of (by decide) ae2
  have u3 : q9upN w 8 [.int x7] 4 = .int x3 := q9upN_of (by decide) ae3
  have u4 : q9upN w 8 [.int x7] 5 = .int x4 := q9upN_of (by decide) ae4
  have u5 : q9upN w 8 [.int x7] 6 = .int x5 := q9upN_of (by decide) ae5
  have u6 : q9upN w 8 [.int x7] 7 = .int x6 := q9upN_of (by decide) ae6
  have u7 : q9upN w 8 [.int x7] 8 = .int x7 := q9upN_at (by decide)
  refine ⟨[.int x7], fun i9 p9 hq9 => ?_, fun _ h => absurd h List.not_mem_nil, fun _ h => absurd h List.not_mem_nil⟩
  · match i9, hq9 with
    | 0, hq9 =>
      have hp9 : ((1104, (1, 0), (0, 0), (0, 1, 1)) : Nat × q9AV × q9AV × q9ET) = p9 := Option.some.inj hq9
      subst hp9
      exact ⟨⟨x7, rfl, by rw [nt7]; exact rg0.1, by rw [nt7]; exact rg0.2⟩, (q9th_tX (T := T) (N := N) (P := P) (J := J) (t0 := t0) (Sc := Sc) (q9evS u0) (q9evZ u_) (q9evS u7) (by rw [q9FF_1104, nt7]; exact (show some (q9wsI T N 4 x0.toInt) = _ by rw [q9ws_yes (t := 4) (by show _ = ((4 : Nat) : Int); omega) (fun j hj => match j, hj with | 0, _ => z0 | 1, _ => z1 | 2, _ => z2 | 3, _ => z3 | k + 4, hj => absurd hj (by show ¬ (k + 4 < 4); omega))])) (by decide)).trans (congrArg some (q9evS u7))⟩
    | k9 + 1, hq9 => exact nomatch (show (none : Option (Nat × q9AV × q9AV × q9ET)) = some p9 from hq9)
theorem q9ru_wl5 (hT : ∀ i, 0 ≤ T i ∧ T i ≤ 255) (hN : 0 ≤ N ∧ N ≤ 400) (hSc : 0 ≤ Sc 1 ∧ Sc 1 ≤ 400 → N = Sc 1) : q9ruOK (fO T N P J t0 Sc) q9R_wl5 := by
  intro w w0 hA hX hL hV hR
  obtain ⟨x0, ae0, -, -⟩ := hA 0 0 rfl
  obtain ⟨x1, ae1, -, -⟩ := hA 1 0 rfl
  obtain ⟨x2, ae2, -, -⟩ := hA 2 0 rfl
  have kz : (0 : Int32).toInt = 0 := rfl
  have k2 : (Int32.ofInt 2).toInt = 2 := q9oI_toInt (by decide)
  have X0 := q9th_pX (T := T) (N := N) (P := P) (J := J) (t0 := t0) (Sc := Sc) (op := 1003) (q9evS ae0) (q9evZ w0) (q9evS ae1) (hX _ (List.mem_of_getElem? (i := 0) rfl)) (by decide)
  rw [q9FF_1003] at X0
  have H0 := Option.some.inj X0
  try simp only [kz, k2] at H0
  have X1 := q9pB (T := T) (N := N) (P := P) (J := J) (t0 := t0) (Sc := Sc) (q9evS ae1) (q9evS ae0) (q9evS ae2) (hX _ (List.mem_of_getElem? (i := 1) rfl))
  have L0 : x2.toInt ≤ (Int32.ofInt 2).toInt + 0 := q9pC (q9evS ae2) (q9evC w0 2) (hL _ (List.mem_of_getElem? (i := 0) rfl))
  have L1 : (0 : Int32).toInt ≤ x0.toInt + 0 := q9pC (q9evZ w0) (q9evS ae0) (hL _ (List.mem_of_getElem? (i := 1) rfl))
  have b1 := q9we_ge (T := T) (N := N) (i := x0.toInt)
  have b2 := q9we_le (T := T) (N := N) (i := x0.toInt)
  have d := q9su32 X1 (by omega)
  have rg0 : (0 : Int) ≤ 0 ∧ (0 : Int) ≤ 0 := by omega
  obtain ⟨x3, nt3⟩ : ∃ x : Int32, x.toInt = 0 := ⟨Int32.ofInt (0), q9oI_toInt (by omega)⟩
  have u_ : q9upN w 4 [.int x3] 0 = .int 0 := q9upN_of (by decide) w0
  have u0 : q9upN w 4 [.int x3] 1 = .int x0 := q9upN_of (by decide) ae0
  have u1 : q9upN w 4 [.int x3] 2 = .int x1 := q9upN_of (by decide) ae1
  have u2 : q9upN w 4 [.int x3] 3 = .int x2 := q9upN_of (by decide) ae2
  have u3 : q9upN w 4 [.int x3] 4 = .int x3 := q9upN_at (by decide)
  refine ⟨[.int x3], fun i9 p9 hq9 => ?_, fun _ h => absurd h List.not_mem_nil, fun _ h => absurd h List.not_mem_nil⟩
  · match i9, hq9 with
    | 0, hq9 =>
      have hp9 : ((1105, (1, 0), (0, 0), (0, 0, 0)) : Nat × q9AV × q9AV × q9ET) = p9 := Option.some.inj hq9
      subst hp9
      exact ⟨⟨x3, rfl, by rw [nt3]; exact rg0.1, by rw [nt3]; exact rg0.2⟩, (q9th_tX (T := T) (N := N) (P := P) (J := J) (t0 := t0) (Sc := Sc) (q9evS u0) (q9evZ u_) (q9evS u3) (by rw [q9FF_1105, nt3]; exact (by show some (q9wsI T N 5 x0.toInt) = _; rw [q9ws_len (t := 5) (by show _ ≠ ((3 : Nat) : Int); omega)])) (by decide)).trans (congrArg some (q9evS u3))⟩
    | k9 + 1, hq9 => exact nomatch (show (none : Option (Nat × q9AV × q9AV × q9ET)) = some p9 from hq9)
theorem q9ru_wm5 (hT : ∀ i, 0 ≤ T i ∧ T i ≤ 255) (hN : 0 ≤ N ∧ N ≤ 400) (hSc : 0 ≤ Sc 1 ∧ Sc 1 ≤ 400 → N = Sc 1) : q9ruOK (fO T N P J t0 Sc) q9R_wm5 := by
  intro w w0 hA hX hL hV hR
  obtain ⟨x0, ae0, -, -⟩ := hA 0 0 rfl
  obtain ⟨x1, ae1, -, -⟩ := hA 1 0 rfl
  obtain ⟨x2, ae2, -, -⟩ := hA 2 0 rfl
  have kz : (0 : Int32).toInt = 0 := rfl
  have k4 : (Int32.ofInt 4).toInt = 4 := q9oI_toInt (by decide)
  have X0 := q9th_pX (T := T) (N := N) (P := P) (J := J) (t0 := t0) (Sc := Sc) (op := 1003) (q9evS ae0) (q9evZ w0) (q9evS ae1) (hX _ (List.mem_of_getElem? (i := 0) rfl)) (by decide)
  rw [q9FF_1003] at X0
  have H0 := Option.some.inj X0
  try simp only [kz, k4] at H0
  have X1 := q9pB (T := T) (N := N) (P := P) (J := J) (t0 := t0) (Sc := Sc) (q9evS ae1) (q9evS ae0) (q9evS ae2) (hX _ (List.mem_of_getElem? (i := 1) rfl))
  have L0 : (Int32.ofInt 4).toInt ≤ x2.toInt + 0 := q9pC (q9evC w0 4) (q9evS ae2) (hL _ (List.mem_of_getElem? (i := 0) rfl))
  have L1 : (0 : Int32).toInt ≤ x0.toInt + 0 := q9pC (q9evZ w0) (q9evS ae0) (hL _ (List.mem_of_getElem? (i := 1) rfl))
  have b1 := q9we_ge (T := T) (N := N) (i := x0.toInt)
  have b2 := q9we_le (T := T) (N := N) (i := x0.toInt)
  have d := q9su32 X1 (by omega)
  have rg0 : (0 : Int) ≤ 0 ∧ (0 : Int) ≤ 0 := by omega
  obtain ⟨x3, nt3⟩ : ∃ x : Int32, x.toInt = 0 := ⟨Int32.ofInt (0), q9oI_toInt (by omega)⟩
  have u_ : q9upN w 4 [.int x3] 0 = .int 0 := q9upN_of (by decide) w0
  have u0 : q9upN w 4 [.int x3] 1 = .int x0 := q9upN_of (by decide) ae0
  have u1 : q9upN w 4 [.int x3] 2 = .int x1 := q9upN_of (by decide) ae1
  have u2 : q9upN w 4 [.int x3] 3 = .int x2 := q9upN_of (by decide) ae2
  have u3 : q9upN w 4 [.int x3] 4 = .int x3 := q9upN_at (by decide)
  refine ⟨[.int x3], fun i9 p9 hq9 => ?_, fun _ h => absurd h List.not_mem_nil, fun _ h => absurd h List.not_mem_nil⟩
  · match i9, hq9 with
    | 0, hq9 =>
      have hp9 : ((1105, (1, 0), (0, 0), (0, 0, 0)) : Nat × q9AV × q9AV × q9ET) = p9 := Option.some.inj hq9
      subst hp9
      exact ⟨⟨x3, rfl, by rw [nt3]; exact rg0.1, by rw [nt3]; exact rg0.2⟩, (q9th_tX (T := T) (N := N) (P := P) (J := J) (t0 := t0) (Sc := Sc) (q9evS u0) (q9evZ u_) (q9evS u3) (by rw [q9FF_1105, nt3]; exact (by show some (q9wsI T N 5 x0.toInt) = _; rw [q9ws_len (t := 5) (by show _ ≠ ((3 : Nat) : Int); omega)])) (by decide)).trans (congrArg some (q9evS u3))⟩
    | k9 + 1, hq9 => exact nomatch (show (none : Option (Nat × q9AV × q9AV × q9ET)) = some p9 from hq9)
theorem q9ru_wa5_0 (hT : ∀ i, 0 ≤ T i ∧ T i ≤ 255) (hN : 0 ≤ N ∧ N ≤ 400) (hSc : 0 ≤ Sc 1 ∧ Sc 1 ≤ 400 → N = Sc 1) : q9ruOK (fO T N P J t0 Sc) q9R_wa5_0 := by
  intro w w0 hA hX hL hV hR
  obtain ⟨x0, ae0, -, -⟩ := hA 0 0 rfl
  obtain ⟨x1, ae1, -, -⟩ := hA 1 0 rfl
  have kz : (0 : Int32).toInt = 0 := rfl
  have k113 : (Int32.ofInt 113).toInt = 113 := q9oI_toInt (by decide)
  have X0 := q9th_pX (T := T) (N := N) (P := P) (J := J) (t0 := t0) (Sc := Sc) (op := 1000) (q9evS ae0) (q9evZ w0) (q9evS ae1) (hX _ (List.mem_of_getElem? (i := 0) rfl)) (by decide)
  rw [q9FF_1000] at X0
  have H0 := Option.some.inj X0
  try simp only [kz, k113] at H0
  have L0 : x1.toInt ≤ (Int32.ofInt 113).toInt + 0 := q9pC (q9evS ae1) (q9evC w0 113) (hL _ (List.mem_of_getElem? (i := 0) rfl))
  have L1 : (0 : Int32).toInt ≤ x0.toInt + 0 := q9pC (q9evZ w0) (q9evS ae0) (hL _ (List.mem_of_getElem? (i := 1) rfl))
  have hne : q9byI T N (x0.toInt + ((0 : Nat) : Int)) ≠ 114 := by
    rw [show x0.toInt + ((0 : Nat) : Int) = x0.toInt by omega]
    omega
  have rg0 : (0 : Int) ≤ 0 ∧ (0 : Int) ≤ 0 := by omega
  obtain ⟨x2, nt2⟩ : ∃ x : Int32, x.toInt = 0 := ⟨Int32.ofInt (0), q9oI_toInt (by omega)⟩
  have u_ : q9upN w 3 [.int x2] 0 = .int 0 := q9upN_of (by decide) w0
  have u0 : q9upN w 3 [.int x2] 1 = .int x0 := q9upN_of (by decide) ae0
  have u1 : q9upN w 3 [.int x2] 2 = .int x1 := q9upN_of (by decide) ae1
  have u2 : q9upN w 3 [.int x2] 3 = .int x2 := q9upN_at (by decide)
  refine ⟨[.int x2], fun i9 p9 hq9 => ?_, fun _ h => absurd h List.not_mem_nil, fun _ h => absurd h List.not_mem_nil⟩
  · match i9, hq9 with
    | 0, hq9 =>
      have hp9 : ((1105, (1, 0), (0, 0), (0, 0, 0)) : Nat × q9AV × q9AV × q9ET) = p9 := Option.some.inj hq9
      subst hp9
      exact ⟨⟨x2, rfl, by rw [nt2]; exact rg0.1, by rw [nt2]; exact rg0.2⟩, (q9th_tX (T := T) (N := N) (P := P) (J := J) (t0 := t0) (Sc := Sc) (q9evS u0) (q9evZ u_) (q9evS u2) (by rw [q9FF_1105, nt2]; exact (by show some (q9wsI T N 5 x0.toInt) = _; rw [q9ws_ne (t := 5) 0 (by decide) hne])) (by decide)).trans (congrArg some (q9evS u2))⟩
    | k9 + 1, hq9 => exact nomatch (show (none : Option (Nat × q9AV × q9AV × q9ET)) = some p9 from hq9)
theorem q9ru_wb5_0 (hT : ∀ i, 0 ≤ T i ∧ T i ≤ 255) (hN : 0 ≤ N ∧ N ≤ 400) (hSc : 0 ≤ Sc 1 ∧ Sc 1 ≤ 400 → N = Sc 1) : q9ruOK (fO T N P J t0 Sc) q9R_wb5_0 := by
  intro w w0 hA hX hL hV hR
  obtain ⟨x0, ae0, -, -⟩ := hA 0 0 rfl
  obtain ⟨x1, ae1, -, -⟩ := hA 1 0 rfl
  have kz : (0 : Int32).toInt = 0 := rfl
  have k115 : (Int32.ofInt 115).toInt = 115 := q9oI_toInt (by decide)
  have X0 := q9th_pX (T := T) (N := N) (P := P) (J := J) (t0 := t0) (Sc := Sc) (op := 1000) (q9evS ae0) (q9evZ w0) (q9evS ae1) (hX _ (List.mem_of_getElem? (i := 0) rfl)) (by decide)
  rw [q9FF_1000] at X0
  have H0 := Option.some.inj X0
  try simp only [kz, k115] at H0
  have L0 : (Int32.ofInt 115).toInt ≤ x1.toInt + 0 := q9pC (q9evC w0 115) (q9evS ae1) (hL _ (List.mem_of_getElem? (i := 0) rfl))
  have L1 : (0 : Int32).toInt ≤ x0.toInt + 0 := q9pC (q9evZ w0) (q9evS ae0) (hL _ (List.mem_of_getElem? (i := 1) rfl))
  have hne : q9byI T N (x0.toInt + ((0 : Nat) : Int)) ≠ 114 := by
    rw [show x0.toInt + ((0 : Nat) : Int) = x0.toInt by omega]
    omega
  have rg0 : (0 : Int) ≤ 0 ∧ (0 : Int) ≤ 0 := by omega
  obtain ⟨x2, nt2⟩ : ∃ x : Int32, x.toInt = 0 := ⟨Int32.ofInt (0), q9oI_toInt (by omega)⟩
  have u_ : q9upN w 3 [.int x2] 0 = .int 0 := q9upN_of (by decide) w0
  have u0 : q9upN w 3 [.int x2] 1 = .int x0 := q9upN_of (by decide) ae0
  have u1 : q9upN w 3 [.int x2] 2 = .int x1 := q9upN_of (by decide) ae1
  have u2 : q9upN w 3 [.int x2] 3 = .int x2 := q9upN_at (by decide)
  refine ⟨[.int x2], fun i9 p9 hq9 => ?_, fun _ h => absurd h List.not_mem_nil, fun _ h => absurd h List.not_mem_nil⟩
  · match i9, hq9 with
    | 0, hq9 =>
      have hp9 : ((1105, (1, 0), (0, 0), (0, 0, 0)) : Nat × q9AV × q9AV × q9ET) = p9 := Option.some.inj hq9
      subst hp9
      exact ⟨⟨x2, rfl, by rw [nt2]; exact rg0.1, by rw [nt2]; exact rg0.2⟩, (q9th_tX (T := T) (N := N) (P := P) (J := J) (t0 := t0) (Sc := Sc) (q9evS u0) (q9evZ u_) (q9evS u2) (by rw [q9FF_1105, nt2]; exact (by show some (q9wsI T N 5 x0.toInt) = _; rw [q9ws_ne (t := 5) 0 (by decide) hne])) (by decide)).trans (congrArg some (q9evS u2))⟩
    | k9 + 1, hq9 => exact nomatch (show (none : Option (Nat × q9AV × q9AV × q9ET)) = some p9 from hq9)
theorem q9ru_wa5_1 (hT : ∀ i, 0 ≤ T i ∧ T i ≤ 255) (hN : 0 ≤ N ∧ N ≤ 400) (hSc : 0 ≤ Sc 1 ∧ Sc 1 ≤ 400 → N = Sc 1) : q9ruOK (fO T N P J t0 Sc) q9R_wa5_1 := by
  intro w w0 hA hX hL hV hR
  obtain ⟨x0, ae0, -, -⟩ := hA 0 0 rfl
  obtain ⟨x1, ae1, -, -⟩ := hA 1 0 rfl
  have kz : (0 : Int32).toInt = 0 := rfl
  have k104 : (Int32.ofInt 104).toInt = 104 := q9oI_toInt (by decide)
  have X0 := q9th_pX (T := T) (N := N) (P := P) (J := J) (t0 := t0) (Sc := Sc) (op := 1000) (q9evO ae0 1) (q9evZ w0) (q9evS ae1) (hX _ (List.mem_of_getElem? (i := 0) rfl)) (by decide)
  rw [q9FF_1000] at X0
  have H0 := Option.some.inj X0
  try simp only [kz, k104] at H0
  have L0 : x1.toInt ≤ (Int32.ofInt 104).toInt + 0 := q9pC (q9evS ae1) (q9evC w0 104) (hL _ (List.mem_of_getElem? (i := 0) rfl))
  have L1 : (0 : Int32).toInt ≤ x0.toInt + 0 := q9pC (q9evZ w0) (q9evS ae0) (hL _ (List.mem_of_getElem? (i := 1) rfl))
  have hne : q9byI T N (x0.toInt + ((1 : Nat) : Int)) ≠ 105 := by
    rw [show x0.toInt + ((1 : Nat) : Int) = x0.toInt + 1 from rfl]
    by_cases hb : x0.toInt + 1 ≤ 2147483647
    · rw [q9ad32 (x := x0) (d := 1) (by omega)] at H0
      omega
    · intro h
      have := q9byI_lt (T := T) (N := N) (i := x0.toInt + 1) (by omega)
      omega
  have rg0 : (0 : Int) ≤ 0 ∧ (0 : Int) ≤ 0 := by omega
  obtain ⟨x2, nt2⟩ : ∃ x : Int32, x.toInt = 0 := ⟨Int32.ofInt (0), q9oI_toInt (by omega)⟩
  have u_ : q9upN w 3 [.int x2] 0 = .int 0 := q9upN_of (by decide) w0
  have u0 : q9upN w 3 [.int x2] 1 = .int x0 := q9upN_of (by decide) ae0
  have u1 : q9upN w 3 [.int x2] 2 = .int x1 := q9upN_of (by decide) ae1
  have u2 : q9upN w 3 [.int x2] 3 = .int x2 := q9upN_at (by decide)
  refine ⟨[.int x2], fun i9 p9 hq9 => ?_, fun _ h => absurd h List.not_mem_nil, fun _ h => absurd h List.not_mem_nil⟩
  · match i9, hq9 with
    | 0, hq9 =>
      have hp9 : ((1105, (1, 0), (0, 0), (0, 0, 0)) : Nat × q9AV × q9AV × q9ET) = p9 := Option.some.inj hq9
      subst hp9
      exact ⟨⟨x2, rfl, by rw [nt2]; exact rg0.1, by rw [nt2]; exact rg0.2⟩, (q9th_tX (T := T) (N := N) (P := P) (J := J) (t0 := t0) (Sc := Sc) (q9evS u0) (q9evZ u_) (q9evS u2) (by rw [q9FF_1105, nt2]; exact (by show some (q9wsI T N 5 x0.toInt) = _; rw [q9ws_ne (t := 5) 1 (by decide) hne])) (by decide)).trans (congrArg some (q9evS u2))⟩
    | k9 + 1, hq9 => exact nomatch (show (none : Option (Nat × q9AV × q9AV × q9ET)) = some p9 from hq9)
theorem q9ru_wb5_1 (hT : ∀ i, 0 ≤ T i ∧ T i ≤ 255) (hN : 0 ≤ N ∧ N ≤ 400) (hSc : 0 ≤ Sc 1 ∧ Sc 1 ≤ 400 → N = Sc 1) : q9ruOK (fO T N P J t0 Sc) q9R_wb5_1 := by
  intro w w0 hA hX hL hV hR
  obtain ⟨x0, ae0, -, -⟩ := hA 0 0 rfl
  obtain ⟨x1, ae1, -, -⟩ := hA 1 0 rfl
  have kz : (0 : Int32).toInt = 0 := rfl
  have k106 : (Int32.ofInt 106).toInt = 106 := q9oI_toInt (by decide)
  have X0 := q9th_pX (T := T) (N := N) (P := P) (J := J) (t0 := t0) (Sc := Sc) (op := 1000) (q9evO ae0 1) (q9evZ w0) (q9evS ae1) (hX _ (List.mem_of_getElem? (i := 0) rfl)) (by decide)
  rw [q9FF_1000] at X0
  have H0 := Option.some.inj X0
  try simp only [kz, k106] at H0
  have L0 : (Int32.ofInt 106).toInt ≤ x1.toInt + 0 := q9pC (q9evC w0 106) (q9evS ae1) (hL _ (List.mem_of_getElem? (i := 0) rfl))
  have L1 : (0 : Int32).toInt ≤ x0.toInt + 0 := q9pC (q9evZ w0) (q9evS ae0) (hL _ (List.mem_of_getElem? (i := 1) rfl))
  have hne : q9byI T N (x0.toInt + ((1 : Nat) : Int)) ≠ 105 := by
    rw [show x0.toInt + ((1 : Nat) : Int) = x0.toInt + 1 from rfl]
    by_cases hb : x0.toInt + 1 ≤ 2147483647
    · rw [q9ad32 (x := x0) (d := 1) (by omega)] at H0
      omega
    · intro h
      have := q9byI_lt (T := T) (N := N) (i := x0.toInt + 1) (by omega)
      omega
  have rg0 : (0 : Int) ≤ 0 ∧ (0 : Int) ≤ 0 := by omega
  obtain ⟨x2, nt2⟩ : ∃ x : Int32, x.toInt = 0 := ⟨Int32.ofInt (0), q9oI_toInt (by omega)⟩
  have u_ : q9upN w 3 [.int x2] 0 = .int 0 := q9upN_of (by decide) w0
  have u0 : q9upN w 3 [.int x2] 1 = .int x0 := q9upN_of (by decide) ae0
  have u1 : q9upN w 3 [.int x2] 2 = .int x1 := q9upN_of (by decide) ae1
  have u2 : q9upN w 3 [.int x2] 3 = .int x2 := q9upN_at (by decide)
  refine ⟨[.int x2], fun i9 p9 hq9 => ?_, fun _ h => absurd h List.not_mem_nil, fun _ h => absurd h List.not_mem_nil⟩
  · match i9, hq9 with
    | 0, hq9 =>
      have hp9 : ((1105, (1, 0), (0, 0), (0, 0, 0)) : Nat × q9AV × q9AV × q9ET) = p9 := Option.some.inj hq9
      subst hp9
      exact ⟨⟨x2, rfl, by rw [nt2]; exact rg0.1, by rw [nt2]; exact rg0.2⟩, (q9th_tX (T := T) (N := N) (P := P) (J := J) (t0 := t0) (Sc := Sc) (q9evS u0) (q9evZ u_) (q9evS u2) (by rw [q9FF_1105, nt2]; exact (by show some (q9wsI T N 5 x0.toInt) = _; rw [q9ws_ne (t := 5) 1 (by decide) hne])) (by decide)).trans (congrArg some (q9evS u2))⟩
    | k9 + 1, hq9 => exact nomatch (show (none : Option (Nat × q9AV × q9AV × q9ET)) = some p9 from hq9)
theorem q9ru_wa5_2 (hT : ∀ i, 0 ≤ T i ∧ T i ≤ 255) (hN : 0 ≤ N ∧ N ≤ 400) (hSc : 0 ≤ Sc 1 ∧ Sc 1 ≤ 400 → N = Sc 1) : q9ruOK (fO T N P J t0 Sc) q9R_wa5_2 := by
  intro w w0 hA hX hL hV hR
  obtain ⟨x0, ae0, -, -⟩ := hA 0 0 rfl
  obtain ⟨x1, ae1, -, -⟩ := hA 1 0 rfl
  have kz : (0 : Int32).toInt = 0 := rfl
  have k102 : (Int32.ofInt 102).toInt = 102 := q9oI_toInt (by decide)
  have X0 := q9th_pX (T := T) (N := N) (P := P) (J := J) (t0 := t0) (Sc := Sc) (op := 1000) (q9evO ae0 2) (q9evZ w0) (q9evS ae1) (hX _ (List.mem_of_getElem? (i := 0) rfl)) (by decide)
  rw [q9FF_1000] at X0
  have H0 := Option.some.inj X0
  try simp only [kz, k102] at H0
  have L0 : x1.toInt ≤ (Int32.ofInt 102).toInt + 0 := q9pC (q9evS ae1) (q9evC w0 102) (hL _ (List.mem_of_getElem? (i := 0) rfl))
  have L1 : (0 : Int32).toInt ≤ x0.toInt + 0 := q9pC (q9evZ w0) (q9evS ae0) (hL _ (List.mem_of_getElem? (i := 1) rfl))
  have hne : q9byI T N (x0.toInt + ((2 : Nat) : Int)) ≠ 103 := by
    rw [show x0.toInt + ((2 : Nat) : Int) = x0.toInt + 2 from rfl]
    by_cases hb : x0.toInt + 2 ≤ 2147483647
    · rw [q9ad32 (x := x0) (d := 2) (by omega)] at H0
      omega
    · intro h
      have := q9byI_lt (T := T) (N := N) (i := x0.toInt + 2) (by omega)
      omega
  have rg0 : (0 : Int) ≤ 0 ∧ (0 : Int) ≤ 0 := by omega
  obtain ⟨x2, nt2⟩ : ∃ x : Int32, x.toInt = 0 := ⟨Int32.ofInt (0), q9oI_toInt (by omega)⟩
  have u_ : q9upN w 3 [.int x2] 0 = .int 0 := q9upN_of (by decide) w0
  have u0 : q9upN w 3 [.int x2] 1 = .int x0 := q9upN_of (by decide) ae0
  have u1 : q9upN w 3 [.int x2] 2 = .int x1 := q9upN_of (by decide) ae1
  have u2 : q9upN w 3 [.int x2] 3 = .int x2 := q9upN_at (by decide)
  refine ⟨[.int x2], fun i9 p9 hq9 => ?_, fun _ h => absurd h List.not_mem_nil, fun _ h => absurd h List.not_mem_nil⟩
  · match i9, hq9 with
    | 0, hq9 =>
      have hp9 : ((1105, (1, 0), (0, 0), (0, 0, 0)) : Nat × q9AV × q9AV × q9ET) = p9 := Option.some.inj hq9
      subst hp9
      exact ⟨⟨x2, rfl, by rw [nt2]; exact rg0.1, by rw [nt2]; exact rg0.2⟩, (q9th_tX (T := T) (N := N) (P := P) (J := J) (t0 := t0) (Sc := Sc) (q9evS u0) (q9evZ u_) (q9evS u2) (by rw [q9FF_1105, nt2]; exact (by show some (q9wsI T N 5 x0.toInt) = _; rw [q9ws_ne (t := 5) 2 (by decide) hne])) (by decide)).trans (congrArg some (q9evS u2))⟩
    | k9 + 1, hq9 => exact nomatch (show (none : Option (Nat × q9AV × q9AV × q9ET)) = some p9 from hq9)
theorem q9ru_wb5_2 (hT : ∀ i, 0 ≤ T i ∧ T i ≤ 255) (hN : 0 ≤ N ∧ N ≤ 400) (hSc : 0 ≤ Sc 1 ∧ Sc 1 ≤ 400 → N = Sc 1) : q9ruOK (fO T N P J t0 Sc) q9R_wb5_2 := by
  intro w w0 hA hX hL hV hR
  obtain ⟨x0, ae0, -, -⟩ := hA 0 0 rfl
  obtain ⟨x1, ae1, -, -⟩ := hA 1 0 rfl
  have kz : (0 : Int32).toInt = 0 := rfl
  have k104 : (Int32.ofInt 104).toInt = 104 := q9oI_toInt (by decide)
  have X0 := q9th_pX (T := T) (N := N) (P := P) (J := J) (t0 := t0) (Sc := Sc) (op := 1000) (q9evO ae0 2) (q9evZ w0) (q9evS ae1) (hX _ (List.mem_of_getElem? (i := 0) rfl)) (by decide)
  rw [q9FF_1000] at X0
  have H0 := Option.some.inj X0
  try simp only [kz, k104] at H0
  have L0 : (Int32.ofInt 104).toInt ≤ x1.toInt + 0 := q9pC (q9evC w0 104) (q9evS ae1) (hL _ (List.mem_of_getElem? (i := 0) rfl))
  have L1 : (0 : Int32).toInt ≤ x0.toInt + 0 := q9pC (q9evZ w0) (q9evS ae0) (hL _ (List.mem_of_getElem? (i := 1) rfl))
  have hne : q9byI T N (x0.toInt + ((2 : Nat) : Int)) ≠ 103 := by
    rw [show x0.toInt + ((2 : Nat) : Int) = x0.toInt + 2 from rfl]
    by_cases hb : x0.toInt + 2 ≤ 2147483647
    · rw [q9ad32 (x := x0) (d := 2) (by omega)] at H0
      omega
    · intro h
      have := q9byI_lt (T := T) (N := N) (i := x0.toInt + 2) (by omega)
      omega
  have rg0 : (0 : Int) ≤ 0 ∧ (0 : Int) ≤ 0 := by omega
  obtain ⟨x2, nt2⟩ : ∃ x : Int32, x.toInt = 0 := ⟨Int32.ofInt (0), q9oI_toInt (by omega)⟩
  have u_ : q9upN w 3 [.int x2] 0 = .int 0 := q9upN_of (by decide) w0
  have u0 : q9upN w 3 [.int x2] 1 = .int x0 := q9upN_of (by decide) ae0
  have u1 : q9upN w 3 [.int x2] 2 = .int x1 := q9upN_of (by decide) ae1
  have u2 : q9upN w 3 [.int x2] 3 = .int x2 := q9upN_at (by decide)
  refine ⟨[.int x2], fun i9 p9 hq9 => ?_, fun _ h => absurd h List.not_mem_nil, fun _ h => absurd h List.not_mem_nil⟩
  · match i9, hq9 with
    | 0, hq9 =>
      have hp9 : ((1105, (1, 0), (0, 0), (0, 0, 0)) : Nat × q9AV × q9AV × q9ET) = p9 := Option.some.inj hq9
      subst hp9
      exact ⟨⟨x2, rfl, by rw [nt2]; exact rg0.1, by rw [nt2]; exact rg0.2⟩, (q9th_tX (T := T) (N := N) (P := P) (J := J) (t0 := t0) (Sc := Sc) (q9evS u0) (q9evZ u_) (q9evS u2) (by rw [q9FF_1105, nt2]; exact (by show some (q9wsI T N 5 x0.toInt) = _; rw [q9ws_ne (t := 5) 2 (by decide) hne])) (by decide)).trans (congrArg some (q9evS u2))⟩
    | k9 + 1, hq9 => exact nomatch (show (none : Option (Nat × q9AV × q9AV × q9ET)) = some p9 from hq9)
theorem q9ru_wy5 (hT : ∀ i, 0 ≤ T i ∧ T i ≤ 255) (hN : 0 ≤ N ∧ N ≤ 400) (hSc : 0 ≤ Sc 1 ∧ Sc 1 ≤ 400 → N = Sc 1) : q9ruOK (fO T N P J t0 Sc) q9R_wy5 := by
  intro w w0 hA hX hL hV hR
  obtain ⟨x0, ae0, -, -⟩ := hA 0 0 rfl
  obtain ⟨x1, ae1, -, -⟩ := hA 1 0 rfl
  obtain ⟨x2, ae2, -, -⟩ := hA 2 0 rfl
  obtain ⟨x3, ae3, -, -⟩ := hA 3 0 rfl
  obtain ⟨x4, ae4, -, -⟩ := hA 4 0 rfl
  obtain ⟨x5, ae5, -, -⟩ := hA 5 0 rfl
  have kz : (0 : Int32).toInt = 0 := rfl
  have k3 : (Int32.ofInt 3).toInt = 3 := q9oI_toInt (by decide)
  have k103 : (Int32.ofInt 103).toInt = 103 := q9oI_toInt (by decide)
  have k105 : (Int32.ofInt 105).toInt = 105 := q9oI_toInt (by decide)
  have k114 : (Int32.ofInt 114).toInt = 114 := q9oI_toInt (by decide)
  have X0 := q9th_pX (T := T) (N := N) (P := P) (J := J) (t0 := t0) (Sc := Sc) (op := 1003) (q9evS ae0) (q9evZ w0) (q9evS ae1) (hX _ (List.mem_of_getElem? (i := 0) rfl)) (by decide)
  rw [q9FF_1003] at X0
  have H0 := Option.some.inj X0
  try simp only [kz, k3, k103, k105, k114] at H0
  have X1 := q9pB (T := T) (N := N) (P := P) (J := J) (t0 := t0) (Sc := Sc) (q9evS ae1) (q9evS ae0) (q9evS ae2) (hX _ (List.mem_of_getElem? (i := 1) rfl))
  have L0 : (Int32.ofInt 3).toInt ≤ x2.toInt + 0 := q9pC (q9evC w0 3) (q9evS ae2) (hL _ (List.mem_of_getElem? (i := 0) rfl))
  have L1 : x2.toInt ≤ (Int32.ofInt 3).toInt + 0 := q9pC (q9evS ae2) (q9evC w0 3) (hL _ (List.mem_of_getElem? (i := 1) rfl))
  have L2 : (0 : Int32).toInt ≤ x0.toInt + 0 := q9pC (q9evZ w0) (q9evS ae0) (hL _ (List.mem_of_getElem? (i := 2) rfl))
  have X2 := q9th_pX (T := T) (N := N) (P := P) (J := J) (t0 := t0) (Sc := Sc) (op := 1000) (q9evS ae0) (q9evZ w0) (q9evS ae3) (hX _ (List.mem_of_getElem? (i := 2) rfl)) (by decide)
  rw [q9FF_1000] at X2
  have H2 := Option.some.inj X2
  try simp only [kz, k3, k103, k105, k114] at H2
  have L3 : (Int32.ofInt 114).toInt ≤ x3.toInt + 0 := q9pC (q9evC w0 114) (q9evS ae3) (hL _ (List.mem_of_getElem? (i := 3) rfl))
  have L4 : x3.toInt ≤ (Int32.ofInt 114).toInt + 0 := q9pC (q9evS ae3) (q9evC w0 114) (hL _ (List.mem_of_getElem? (i := 4) rfl))
  have X3 := q9th_pX (T := T) (N := N) (P := P) (J := J) (t0 := t0) (Sc := Sc) (op := 1000) (q9evO ae0 1) (q9evZ w0) (q9evS ae4) (hX _ (List.mem_of_getElem? (i := 3) rfl)) (by decide)
  rw [q9FF_1000] at X3
  have H3 := Option.some.inj X3
  try simp only [kz, k3, k103, k105, k114] at H3
  have L5 : (Int32.ofInt 105).toInt ≤ x4.toInt + 0 := q9pC (q9evC w0 105) (q9evS ae4) (hL _ (List.mem_of_getElem? (i := 5) rfl))
  have L6 : x4.toInt ≤ (Int32.ofInt 105).toInt + 0 := q9pC (q9evS ae4) (q9evC w0 105) (hL _ (List.mem_of_getElem? (i := 6) rfl))
  have X4 := q9th_pX (T := T) (N := N) (P := P) (J := J) (t0 := t0) (Sc := Sc) (op := 1000) (q9evO ae0 2) (q9evZ w0) (q9evS ae5) (hX _ (List.mem_of_getElem? (i := 4) rfl)) (by decide)
  rw [q9FF_1000] at X4
  have H4 := Option.some.inj X4
  try simp only [kz, k3, k103, k105, k114] at H4
  have L7 : (Int32.ofInt 103).toInt ≤ x5.toInt + 0 := q9pC (q9evC w0 103) (q9evS ae5) (hL _ (List.mem_of_getElem? (i := 7) rfl))
  have L8 : x5.toInt ≤ (Int32.ofInt 103).toInt + 0 := q9pC (q9evS ae5) (q9evC w0 103) (hL _ (List.mem_of_getElem? (i := 8) rfl))
  have b1 := q9we_ge (T := T) (N := N) (i := x0.toInt)
  have b2 := q9we_le (T := T) (N := N) (i := x0.toInt)
  have d := q9su32 X1 (by omega)
  have z0 : q9byI T N (x0.toInt + ((0 : Nat) : Int)) = 114 := by rw [show x0.toInt + ((0 : Nat) : Int) = x0.toInt + 0 by omega, Int.add_zero]; omega
  have v1 := q9ad32 (x := x0) (d := 1) (by omega)
  rw [v1] at H3
  have z1 : q9byI T N (x0.toInt + ((1 : Nat) : Int)) = 105 := by rw [show x0.toInt + ((1 : Nat) : Int) = x0.toInt + 1 by omega]; omega
  have v2 := q9ad32 (x := x0) (d := 2) (by omega)
  rw [v2] at H4
  have z2 : q9byI T N (x0.toInt + ((2 : Nat) : Int)) = 103 := by rw [show x0.toInt + ((2 : Nat) : Int) = x0.toInt + 2 by omega]; omega
  have rg0 : (1 : Int) ≤ 1 ∧ (1 : Int) ≤ 1 := by omega
  obtain ⟨x6, nt6⟩ : ∃ x : Int32, x.toInt = 1 := ⟨Int32.ofInt (1), q9oI_toInt (by omega)⟩
  have u_ : q9upN w 7 [.int x6] 0 = .int 0 := q9upN_of (by decide) w0
  have u0 : q9upN w 7 [.int x6] 1 = .int x0 := q9upN_of (by decide) ae0
  have u1 : q9upN w 7 [.int x6] 2 = .int x1 := q9upN_of (by decide) ae1
  have u2 : q9upN w 7 [.int x6] 3 = .int x2 := q9upN_of (by decide) ae2
  have u3 : q9upN w 7 [.int x6] 4 = .int x3 := q9upN_of (by decide) ae3
  have u4 : q9upN w 7 [.int x6] 5 = .int x4 := q9upN_of (by decide) ae4
  have u5 : q9upN w 7 [.int x6] 6 = .int x5 := q9upN_of (by decide) ae5
  have u6 : q9upN w 7 [.int x6] 7 = .int x6 := q9upN_at (by decide)
  refine ⟨[.int x6], fun i9 p9 hq9 => ?_, fun _ h => absurd h List.not_mem_nil, fun _ h => absurd h List.not_mem_nil⟩
  · match i9, hq9 with
    | 0, hq9 =>
      have hp9 : ((1105, (1, 0), (0, 0), (0, 1, 1)) : Nat × q9AV × q9AV × q9ET) = p9 := Option.some.inj hq9
      subst hp9
      exact ⟨⟨x6, rfl, by rw [nt6]; exact rg0.1, by rw [nt6]; exact rg0.2⟩, (q9th_tX (T := T) (N := N) (P := P) (J := J) (t0 := t0) (Sc := Sc) (q9evS u0) (q9evZ u_) (q9evS u6) (by rw [q9FF_1105, nt6]; exact (show some (q9wsI T N 5 x0.toInt) = _ by rw [q9ws_yes (t := 5) (by show _ = ((3 : Nat) : Int); omega) (fun j hj => match j, hj with | 0, _ => z0 | 1, _ => z1 | 2, _ => z2 | k + 3, hj => absurd hj (by show ¬ (k + 3 < 3); omega))])) (by decide)).trans (congrArg some (q9evS u6))⟩
    | k9 + 1, hq9 => exact nomatch (show (none : Option (Nat × q9AV × q9AV × q9ET)) = some p9 from hq9)
theorem q9ru_wl6 (hT : ∀ i, 0 ≤ T i ∧ T i ≤ 255) (hN : 0 ≤ N ∧ N ≤ 400) (hSc : 0 ≤ Sc 1 ∧ Sc 1 ≤ 400 → N = Sc 1) : q9ruOK (fO T N P J t0 Sc) q9R_wl6 := by
  intro w w0 hA hX hL hV hR
  obtain ⟨x0, ae0, -, -⟩ := hA 0 0 rfl
  obtain ⟨x1, ae1, -, -⟩ := hA 1 0 rfl
  obtain ⟨x2, ae2, -, -⟩ := hA 2 0 rfl
  have kz : (0 : Int32).toInt = 0 := rfl
  have k5 : (Int32.ofInt 5).toInt = 5 := q9oI_toInt (by decide)
  have X0 := q9th_pX (T := T) (N := N) (P := P) (J := J) (t0 := t0) (Sc := Sc) (op := 1003) (q9evS ae0) (q9evZ w0) (q9evS ae1) (hX _ (List.mem_of_getElem? (i := 0) rfl)) (by decide)
  rw [q9FF_1003] at X0
  have H0 := Option.some.inj X0
  try simp only [kz, k5] at H0
  have X1 := q9pB (T := T) (N := N) (P := P) (J := J) (t0 := t0) (Sc := Sc) (q9evS ae1) (q9evS ae0) (q9evS ae2) (hX _ (List.mem_of_getElem? (i := 1) rfl))
  have L0 : x2.toInt ≤ (Int32.ofInt 5).toInt + 0 := q9pC (q9evS ae2) (q9evC w0 5) (hL _ (List.mem_of_getElem? (i := 0) rfl))
  have L1 : (0 : Int32).toInt ≤ x0.toInt + 0 := q9pC (q9evZ w0) (q9evS ae0) (hL _ (List.mem_of_getElem? (i := 1) rfl))
  have b1 := q9we_ge (T := T) (N := N) (i := x0.toInt)
  have b2 := q9we_le (T := T) (N := N) (i := x0.toInt)
  have d := q9su32 X1 (by omega)
  have rg0 : (0 : Int) ≤ 0 ∧ (0 : Int) ≤ 0 := by omega
  obtain ⟨x3, nt3⟩ : ∃ x : Int32, x.toInt = 0 := ⟨Int32.ofInt (0), q9oI_toInt (by omega)⟩
  have u_ : q9upN w 4 [.int x3] 0 = .int 0 := q9upN_of (by decide) w0
  have u0 : q9upN w 4 [.int x3] 1 = .int x0 := q9upN_of (by decide) ae0
  have u1 : q9upN w 4 [.int x3] 2 = .int x1 := q9upN_of (by decide) ae1
  have u2 : q9upN w 4 [.int x3] 3 = .int x2 := q9upN_of (by decide) ae2
  have u3 : q9upN w 4 [.int x3] 4 = .int x3 := q9upN_at (by decide)
  refine ⟨[.int x3], fun i9 p9 hq9 => ?_, fun _ h => absurd h List.not_mem_nil, fun _ h => absurd h List.not_mem_nil⟩
  · match i9, hq9 with
    | 0, hq9 =>
      have hp9 : ((1106, (1, 0), (0, 0), (0, 0, 0)) : Nat × q9AV × q9AV × q9ET) = p9 := Option.some.inj hq9
      subst hp9
      exact ⟨⟨x3, rfl, by rw [nt3]; exact rg0.1, by rw [nt3]; exact rg0.2⟩, (q9th_tX (T := T) (N := N) (P := P) (J := J) (t0 := t0) (Sc := Sc) (q9evS u0) (q9evZ u_) (q9evS u3) (by rw [q9FF_1106, nt3]; exact (by show some (q9wsI T N 6 x0.toInt) = _; rw [q9ws_len (t := 6) (by show _ ≠ ((6 : Nat) : Int); omega)])) (by decide)).trans (congrArg some (q9evS u3))⟩
    | k9 + 1, hq9 => exact nomatch (show (none : Option (Nat × q9AV × q9AV × q9ET)) = some p9 from hq9)
theorem q9ru_wm6 (hT : ∀ i, 0 ≤ T i ∧ T i ≤ 255) (hN : 0 ≤ N ∧ N ≤ 400) (hSc : 0 ≤ Sc 1 ∧ Sc 1 ≤ 400 → N = Sc 1) : q9ruOK (fO T N P J t0 Sc) q9R_wm6 := by
  intro w w0 hA hX hL hV hR
  obtain ⟨x0, ae0, -, -⟩ := hA 0 0 rfl
  obtain ⟨x1, ae1, -, -⟩ := hA 1 0 rfl
  obtain ⟨x2, ae2, -, -⟩ := hA 2 0 rfl
  have kz : (0 : Int32).toInt = 0 := rfl
  have k7 : (Int32.ofInt 7).toInt = 7 := q9oI_toInt (by decide)
  have X0 := q9th_pX (T := T) (N := N) (P := P) (J := J) (t0 := t0) (Sc := Sc) (op := 1003) (q9evS ae0) (q9evZ w0) (q9evS ae1) (hX _ (List.mem_of_getElem? (i := 0) rfl)) (by decide)
  rw [q9FF_1003] at X0
  have H0 := Option.some.inj X0
  try simp only [kz, k7] at H0
  have X1 := q9pB (T := T) (N := N) (P := P) (J := J) (t0 := t0) (Sc := Sc) (q9evS ae1) (q9evS ae0) (q9evS ae2) (hX _ (List.mem_of_getElem? (i := 1) rfl))
  have L0 : (Int32.ofInt 7).toInt ≤ x2.toInt + 0 := q9pC (q9evC w0 7) (q9evS ae2) (hL _ (List.mem_of_getElem? (i := 0) rfl))
  have L1 : (0 : Int32).toInt ≤ x0.toInt + 0 := q9pC (q9evZ w0) (q9evS ae0) (hL _ (List.mem_of_getElem? (i := 1) rfl))
  have b1 := q9we_ge (T := T) (N := N) (i := x0.toInt)
  have b2 := q9we_le (T := T) (N := N) (i := x0.toInt)
  have d := q9su32 X1 (by omega)
  have rg0 : (0 : Int) ≤ 0 ∧ (0 : Int) ≤ 0 := by omega
  obtain ⟨x3, nt3⟩ : ∃ x : Int32, x.toInt = 0 := ⟨Int32.ofInt (0), q9oI_toInt (by omega)⟩
  have u_ : q9upN w 4 [.int x3] 0 = .int 0 := q9upN_of (by decide) w0
  have u0 : q9upN w 4 [.int x3] 1 = .int x0 := q9upN_of (by decide) ae0
  have u1 : q9upN w 4 [.int x3] 2 = .int x1 := q9upN_of (by decide) ae1
  have u2 : q9upN w 4 [.int x3] 3 = .int x2 := q9upN_of (by decide) ae2
  have u3 : q9upN w 4 [.int x3] 4 = .int x3 := q9upN_at (by decide)
  refine ⟨[.int x3], fun i9 p9 hq9 => ?_, fun _ h => absurd h List.not_mem_nil, fun _ h => absurd h List.not_mem_nil⟩
  · match i9, hq9 with
    | 0, hq9 =>
      have hp9 : ((1106, (1, 0), (0, 0), (0, 0, 0)) : Nat × q9AV × q9AV × q9ET) = p9 := Option.some.inj hq9
      subst hp9
      exact ⟨⟨x3, rfl, by rw [nt3]; exact rg0.1, by rw [nt3]; exact rg0.2⟩, (q9th_tX (T := T) (N := N) (P := P) (J := J) (t0 := t0) (Sc := Sc) (q9evS u0) (q9evZ u_) (q9evS u3) (by rw [q9FF_1106, nt3]; exact (by show some (q9wsI T N 6 x0.toInt) = _; rw [q9ws_len (t := 6) (by show _ ≠ ((6 : Nat) : Int); omega)])) (by decide)).trans (congrArg some (q9evS u3))⟩
    | k9 + 1, hq9 => exact nomatch (show (none : Option (Nat × q9AV × q9AV × q9ET)) = some p9 from hq9)
theorem q9ru_wa6_0 (hT : ∀ i, 0 ≤ T i ∧ T i ≤ 255) (hN : 0 ≤ N ∧ N ≤ 400) (hSc : 0 ≤ Sc 1 ∧ Sc 1 ≤ 400 → N = Sc 1) : q9ruOK (fO T N P J t0 Sc) q9R_wa6_0 := by
  intro w w0 hA hX hL hV hR
  obtain ⟨x0, ae0, -, -⟩ := hA 0 0 rfl
  obtain ⟨x1, ae1, -, -⟩ := hA 1 0 rfl
  have kz : (0 : Int32).toInt = 0 := rfl
  have k98 : (Int32.ofInt 98).toInt = 98 := q9oI_toInt (by decide)
  have X0 := q9th_pX (T := T) (N := N) (P := P) (J := J) (t0 := t0) (Sc := Sc) (op := 1000) (q9evS ae0) (q9evZ w0) (q9evS ae1) (hX _ (List.mem_of_getElem? (i := 0) rfl)) (by decide)
  rw [q9FF_1000] at X0
  have H0 := Option.some.inj X0
  try simp only [kz, k98] at H0
  have L0 : x1.toInt ≤ (Int32.ofInt 98).toInt + 0 := q9pC (q9evS ae1) (q9evC w0 98) (hL _ (List.mem_of_getElem? (i := 0) rfl))
  have L1 : (0 : Int32).toInt ≤ x0.toInt + 0 := q9pC (q9evZ w0) (q9evS ae0) (hL _ (List.mem_of_getElem? (i := 1) rfl))
  have hne : q9byI T N (x0.toInt + ((0 : Nat) : Int)) ≠ 99 := by
    rw [show x0.toInt + ((0 : Nat) : Int) = x0.toInt by omega]
    omega
  have rg0 : (0 : Int) ≤ 0 ∧ (0 : Int) ≤ 0 := by omega
  obtain ⟨x2, nt2⟩ : ∃ x : Int32, x.toInt = 0 := ⟨Int32.ofInt (0), q9oI_toInt (by omega)⟩
  have u_ : q9upN w 3 [.int x2] 0 = .int 0 := q9upN_of (by decide) w0
  have u0 : q9upN w 3 [.int x2] 1 = .int x0 := q9upN_of (by decide) ae0
  have u1 : q9upN w 3 [.int x2] 2 = .int x1 := q9upN_of (by decide) ae1
  have u2 : q9upN w 3 [.int x2] 3 = .int x2 := q9upN_at (by decide)
  refine ⟨[.int x2], fun i9 p9 hq9 => ?_, fun _ h => absurd h List.not_mem_nil, fun _ h => absurd h List.not_mem_nil⟩
  · match i9, hq9 with
    | 0, hq9 =>
      have hp9 : ((1106, (1, 0), (0, 0), (0, 0, 0)) : Nat × q9AV × q9AV × q9ET) = p9 := Option.some.inj hq9
      subst hp9
      exact ⟨⟨x2, rfl, by rw [nt2]; exact rg0.1, by rw [nt2]; exact rg0.2⟩, (q9th_tX (T := T) (N := N) (P := P) (J := J) (t0 := t0) (Sc := Sc) (q9evS u0) (q9evZ u_) (q9evS u2) (by rw [q9FF_1106, nt2]; exact (by show some (q9wsI T N 6 x0.toInt) = _; rw [q9ws_ne (t := 6) 0 (by decide) hne])) (by decide)).trans (congrArg some (q9evS u2))⟩
    | k9 + 1, hq9 => exact nomatch (show (none : Option (Nat × q9AV × q9AV × q9ET)) = some p9 from hq9)
theorem q9ru_wb6_0 (hT : ∀ i, 0 ≤ T i ∧ T i ≤ 255) (hN : 0 ≤ N ∧ N ≤ 400) (hSc : 0 ≤ Sc 1 ∧ Sc 1 ≤ 400 → N = Sc 1) : q9ruOK (fO T N P J t0 Sc) q9R_wb6_0 := by
  intro w w0 hA hX hL hV hR
  obtain ⟨x0, ae0, -, -⟩ := hA 0 0 rfl
  obtain ⟨x1, ae1, -, -⟩ := hA 1 0 rfl
  have kz : (0 : Int32).toInt = 0 := rfl
  have k100 : (Int32.ofInt 100).toInt = 100 := q9oI_toInt (by decide)
  have X0 := q9th_pX (T := T) (N := N) (P := P) (J := J) (t0 := t0) (Sc := Sc) (op := 1000) (q9evS ae0) (q9evZ w0) (q9evS ae1) (hX _ (List.mem_of_getElem? (i := 0) rfl)) (by decide)
  rw [q9FF_1000] at X0
  have H0 := Option.some.inj X0
  try simp only [kz, k100] at H0
  have L0 : (Int32.ofInt 100).toInt ≤ x1.toInt + 0 := q9pC (q9evC w0 100) (q9evS ae1) (hL _ (List.mem_of_getElem? (i := 0) rfl))
  have L1 : (0 : Int32).toInt ≤ x0.toInt + 0 := q9pC (q9evZ w0) (q9evS ae0) (hL _ (List.mem_of_getElem? (i := 1) rfl))
  have hne : q9byI T N (x0.toInt + ((0 : Nat) : Int)) ≠ 99 := by
    rw [show x0.toInt + ((0 : Nat) : Int) = x0.toInt by omega]
    omega
  have rg0 : (0 : Int) ≤ 0 ∧ (0 : Int) ≤ 0 := by omega
  obtain ⟨x2, nt2⟩ : ∃ x : Int32, x.toInt = 0 := ⟨Int32.ofInt (0), q9oI_toInt (by omega)⟩
  have u_ : q9upN w 3 [.int x2] 0 = .int 0 := q9upN_of (by decide) w0
  have u0 : q9upN w 3 [.int x2] 1 = .int x0 := q9upN_of (by decide) ae0
  have u1 : q9upN w 3 [.int x2] 2 = .int x1 := q9upN_of (by decide) ae1
  have u2 : q9upN w 3 [.int x2] 3 = .int x2 := q9upN_at (by decide)
  refine ⟨[.int x2], fun i9 p9 hq9 => ?_, fun _ h => absurd h List.not_mem_nil, fun _ h => absurd h List.not_mem_nil⟩
  · match i9, hq9 with
    | 0, hq9 =>
      have hp9 : ((1106, (1, 0), (0, 0), (0, 0, 0)) : Nat × q9AV × q9AV × q9ET) = p9 := Option.some.inj hq9
      subst hp9
      exact ⟨⟨x2, rfl, by rw [nt2]; exact rg0.1, by rw [nt2]; exact rg0.2⟩, (q9th_tX (T := T) (N := N) (P := P) (J := J) (t0 := t0) (Sc := Sc) (q9evS u0) (q9evZ u_) (q9evS u2) (by rw [q9FF_1106, nt2]; exact (by show some (q9wsI T N 6 x0.toInt) = _; rw [q9ws_ne (t := 6) 0 (by decide) hne])) (by decide)).trans (congrArg some (q9evS u2))⟩
    | k9 + 1, hq9 => exact nomatch (show (none : Option (Nat × q9AV × q9AV × q9ET)) = some p9 from hq9)
theorem q9ruP_2 (hT : ∀ i, 0 ≤ T i ∧ T i ≤ 255) (hN : 0 ≤ N ∧ N ≤ 400) (hSc : 0 ≤ Sc 1 ∧ Sc 1 ≤ 400 → N = Sc 1) : ∀ q ∈ q9RULES_2, q9ruOK (fO T N P J t0 Sc) q := List.forall_mem_cons.mpr ⟨q9ru_wa2_0 hT hN hSc, List.forall_mem_cons.mpr ⟨q9ru_wb2_0 hT hN hSc, List.forall_mem_cons.mpr ⟨q9ru_wa2_1 hT hN hSc, List.forall_mem_cons.mpr ⟨q9ru_wb2_1 hT hN hSc, List.forall_mem_cons.mpr ⟨q9ru_wa2_2 hT hN hSc, List.forall_mem_cons.mpr ⟨q9ru_wb2_2 hT hN hSc, List.forall_mem_cons.mpr ⟨q9ru_wy2 hT hN hSc, List.forall_mem_cons.mpr ⟨q9ru_wl3 hT hN hSc, List.forall_mem_cons.mpr ⟨q9ru_wm3 hT hN hSc, List.forall_mem_cons.mpr ⟨q9ru_wa3_0 hT hN hSc, List.forall_mem_cons.mpr ⟨q9ru_wb3_0 hT hN hSc, List.forall_mem_cons.mpr ⟨q9ru_wa3_1 hT hN hSc, List.forall_mem_cons.mpr ⟨q9ru_wb3_1 hT hN hSc, List.forall_mem_cons.mpr ⟨q9ru_wa3_2 hT hN hSc, List.forall_mem_cons.mpr ⟨q9ru_wb3_2 hT hN hSc, List.forall_mem_cons.mpr ⟨q9ru_wy3 hT hN hSc, List.forall_mem_cons.mpr ⟨q9ru_wl4 hT hN hSc, List.forall_mem_cons.mpr ⟨q9ru_wm4 hT hN hSc, List.forall_mem_cons.mpr ⟨q9ru_wa4_0 hT hN hSc, List.forall_mem_cons.mpr ⟨q9ru_wb4_0 hT hN hSc, List.forall_mem_cons.mpr ⟨q9ru_wa4_1 hT hN hSc, List.forall_mem_cons.mpr ⟨q9ru_wb4_1 hT hN hSc, List.forall_mem_cons.mpr ⟨q9ru_wa4_2 hT hN hSc, List.forall_mem_cons.mpr ⟨q9ru_wb4_2 hT hN hSc, List.forall_mem_cons.mpr ⟨q9ru_wa4_3 hT hN hSc, List.forall_mem_cons.mpr ⟨q9ru_wb4_3 hT hN hSc, List.forall_mem_cons.mpr ⟨q9ru_wy4 hT hN hSc, List.forall_mem_cons.mpr ⟨q9ru_wl5 hT hN hSc, List.forall_mem_cons.mpr ⟨q9ru_wm5 hT hN hSc, List.forall_mem_cons.mpr ⟨q9ru_wa5_0 hT hN hSc, List.forall_mem_cons.mpr ⟨q9ru_wb5_0 hT hN hSc, List.forall_mem_cons.mpr ⟨q9ru_wa5_1 hT hN hSc, List.forall_mem_cons.mpr ⟨q9ru_wb5_1 hT hN hSc, List.forall_mem_cons.mpr ⟨q9ru_wa5_2 hT hN hSc, List.forall_mem_cons.mpr ⟨q9ru_wb5_2 hT hN hSc, List.forall_mem_cons.mpr ⟨q9ru_wy5 hT hN hSc, List.forall_mem_cons.mpr ⟨q9ru_wl6 hT hN hSc, List.forall_mem_cons.mpr ⟨q9ru_wm6 hT hN hSc, List.forall_mem_cons.mpr ⟨q9ru_wa6_0 hT hN hSc, List.forall_mem_cons.mpr ⟨q9ru_wb6_0 hT hN hSc, fun _ h => absurd h List.not_mem_nil⟩⟩⟩⟩⟩⟩⟩⟩⟩⟩⟩⟩⟩⟩⟩⟩⟩⟩⟩⟩⟩⟩⟩⟩⟩⟩⟩⟩⟩⟩⟩⟩⟩⟩⟩⟩⟩⟩⟩⟩
end RUL
