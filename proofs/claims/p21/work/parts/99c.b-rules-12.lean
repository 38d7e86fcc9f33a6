section RUL
variable {T : Int → Int} {N P : Int} {J : Int → Int} {t0 : Int} {Sc : Int → Int}
theorem q9ru_wch13 (hT : ∀ i, 0 ≤ T i ∧ T i ≤ 255) (hN : 0 ≤ N ∧ N ≤ 400) (hSc : 0 ≤ Sc 1 ∧ Sc 1 ≤ 400 → N = Sc 1) : q9ruOK (fO T N P J t0 Sc) q9R_wch13 := by
  intro w w0 hA hX hL hV hR
  obtain ⟨x0, ae0, -, -⟩ := hA 0 0 rfl
  obtain ⟨x1, ae1, -, -⟩ := hA 1 0 rfl
  have kz : (0 : Int32).toInt = 0 := rfl
  have k53 : (Int32.ofInt 53).toInt = 53 := q9oI_toInt (by decide)
  have X0 := q9th_pX (T := T) (N := N) (P := P) (J := J) (t0 := t0) (Sc := Sc) (op := 1008) (q9evS ae0) (q9evZ w0) (q9evS ae1) (hX _ (List.mem_of_getElem? (i := 0) rfl)) (by decide)
  rw [q9FF_1008] at X0
  have H0 := Option.some.inj X0
  try simp only [kz, k53] at H0
  have L0 : (Int32.ofInt 53).toInt ≤ x1.toInt + 0 := q9pC (q9evC w0 53) (q9evS ae1) (hL _ (List.mem_of_getElem? (i := 0) rfl))
  have L1 : (0 : Int32).toInt ≤ x0.toInt + 0 := q9pC (q9evZ w0) (q9evS ae0) (hL _ (List.mem_of_getElem? (i := 1) rfl))
  have hw : q9wnI 13 = 52 := by decide +kernel
  have hn : q9wsI T N 13 x0.toInt = 0 := (q9ws_01 (T := T) (N := N) (t := 13) (i := x0.toInt)).elim (fun h => by have := (q9ws_wc (by decide)).mp h; omega) id
  have rg0 : (0 : Int) ≤ 0 ∧ (0 : Int) ≤ 0 := by omega
  obtain ⟨x2, nt2⟩ : ∃ x : Int32, x.toInt = 0 := ⟨Int32.ofInt (0), q9oI_toInt (by omega)⟩
  have u_ : q9upN w 3 [.int x2] 0 = .int 0 := q9upN_of (by decide) w0
  have u0 : q9upN w 3 [.int x2] 1 = .int x0 := q9upN_of (by decide) ae0
  have u1 : q9upN w 3 [.int x2] 2 = .int x1 := q9upN_of (by decide) ae1
  have u2 : q9upN w 3 [.int x2] 3 = .int x2 := q9upN_at (by decide)
  refine ⟨[.int x2], fun i9 p9 hq9 => ?_, fun _ h => absurd h List.not_mem_nil, fun _ h => absurd h List.not_mem_nil⟩
  · match i9, hq9 with
    | 0, hq9 =>
      have hp9 : ((1113, (1, 0), (0, 0), (0, 0, 0)) : Nat × q9AV × q9AV × q9ET) = p9 := Option.some.inj hq9
      subst hp9
      exact ⟨⟨x2, rfl, by rw [nt2]; exact rg0.1, by rw [nt2]; exact rg0.2⟩, (q9th_tX (T := T) (N := N) (P := P) (J := J) (t0 := t0) (Sc := Sc) (q9evS u0) (q9evZ u_) (q9evS u2) (by rw [q9FF_1113, nt2]; exact (show some (q9wsI T N 13 x0.toInt) = _ by rw [hn])) (by decide)).trans (congrArg some (q9evS u2))⟩
    | k9 + 1, hq9 => exact nomatch (show (none : Option (Nat × q9AV × q9AV × q9ET)) = some p9 from hq9)
theorem q9ru_wib13 (hT : ∀ i, 0 ≤ T i ∧ T i ≤ 255) (hN : 0 ≤ N ∧ N ≤ 400) (hSc : 0 ≤ Sc 1 ∧ Sc 1 ≤ 400 → N = Sc 1) : q9ruOK (fO T N P J t0 Sc) q9R_wib13 := by
  intro w w0 hA hX hL hV hR
  obtain ⟨x0, ae0, -, -⟩ := hA 0 0 rfl
  have kz : (0 : Int32).toInt = 0 := rfl
  have V0 := q9pV (T := T) (N := N) (P := P) (J := J) (t0 := t0) (Sc := Sc) (op := 1113) (n := 1) (q9evS ae0) (q9evZ w0) (hV _ (List.mem_of_getElem? (i := 0) rfl)) (by decide)
  rw [q9FF_1113] at V0
  have K0 := Option.some.inj V0
  try simp only [kz] at K0
  have L0 : (0 : Int32).toInt ≤ x0.toInt + 0 := q9pC (q9evZ w0) (q9evS ae0) (hL _ (List.mem_of_getElem? (i := 0) rfl))
  have hb := q9ws_b0 (t := 13) (by decide) K0
  have hb : q9byI T N x0.toInt = 97 := hb
  have rg0 : (97 : Int) ≤ 97 ∧ (97 : Int) ≤ 97 := by omega
  obtain ⟨x1, nt1⟩ : ∃ x : Int32, x.toInt = 97 := ⟨Int32.ofInt (97), q9oI_toInt (by omega)⟩
  have u_ : q9upN w 2 [.int x1] 0 = .int 0 := q9upN_of (by decide) w0
  have u0 : q9upN w 2 [.int x1] 1 = .int x0 := q9upN_of (by decide) ae0
  have u1 : q9upN w 2 [.int x1] 2 = .int x1 := q9upN_at (by decide)
  refine ⟨[.int x1], fun i9 p9 hq9 => ?_, fun _ h => absurd h List.not_mem_nil, fun _ h => absurd h List.not_mem_nil⟩
  · match i9, hq9 with
    | 0, hq9 =>
      have hp9 : ((1000, (1, 0), (0, 0), (0, 97, 97)) : Nat × q9AV × q9AV × q9ET) = p9 := Option.some.inj hq9
      subst hp9
      exact ⟨⟨x1, rfl, by rw [nt1]; exact rg0.1, by rw [nt1]; exact rg0.2⟩, (q9th_tX (T := T) (N := N) (P := P) (J := J) (t0 := t0) (Sc := Sc) (q9evS u0) (q9evZ u_) (q9evS u1) (by rw [q9FF_1000, nt1]; exact (by rw [hb])) (by decide)).trans (congrArg some (q9evS u1))⟩
    | k9 + 1, hq9 => exact nomatch (show (none : Option (Nat × q9AV × q9AV × q9ET)) = some p9 from hq9)
theorem q9ru_wcw14 (hT : ∀ i, 0 ≤ T i ∧ T i ≤ 255) (hN : 0 ≤ N ∧ N ≤ 400) (hSc : 0 ≤ Sc 1 ∧ Sc 1 ≤ 400 → N = Sc 1) : q9ruOK (fO T N P J t0 Sc) q9R_wcw14 := by
  intro w w0 hA hX hL hV hR
  obtain ⟨x0, ae0, -, -⟩ := hA 0 0 rfl
  obtain ⟨x1, ae1, -, -⟩ := hA 1 0 rfl
  have kz : (0 : Int32).toInt = 0 := rfl
  have k494 : (Int32.ofInt 494).toInt = 494 := q9oI_toInt (by decide)
  have X0 := q9th_pX (T := T) (N := N) (P := P) (J := J) (t0 := t0) (Sc := Sc) (op := 1008) (q9evS ae0) (q9evZ w0) (q9evS ae1) (hX _ (List.mem_of_getElem? (i := 0) rfl)) (by decide)
  rw [q9FF_1008] at X0
  have H0 := Option.some.inj X0
  try simp only [kz, k494] at H0
  have L0 : x1.toInt ≤ (Int32.ofInt 494).toInt + 0 := q9pC (q9evS ae1) (q9evC w0 494) (hL _ (List.mem_of_getElem? (i := 0) rfl))
  have L1 : (Int32.ofInt 494).toInt ≤ x1.toInt + 0 := q9pC (q9evC w0 494) (q9evS ae1) (hL _ (List.mem_of_getElem? (i := 1) rfl))
  have L2 : (0 : Int32).toInt ≤ x0.toInt + 0 := q9pC (q9evZ w0) (q9evS ae0) (hL _ (List.mem_of_getElem? (i := 2) rfl))
  have hw : q9wnI 14 = 494 := by decide +kernel
  have rg0 : (1 : Int) ≤ 1 ∧ (1 : Int) ≤ 1 := by omega
  obtain ⟨x2, nt2⟩ : ∃ x : Int32, x.toInt = 1 := ⟨Int32.ofInt (1), q9oI_toInt (by omega)⟩
  have u_ : q9upN w 3 [.int x2] 0 = .int 0 := q9upN_of (by decide) w0
  have u0 : q9upN w 3 [.int x2] 1 = .int x0 := q9upN_of (by decide) ae0
  have u1 : q9upN w 3 [.int x2] 2 = .int x1 := q9upN_of (by decide) ae1
  have u2 : q9upN w 3 [.int x2] 3 = .int x2 := q9upN_at (by decide)
  refine ⟨[.int x2], fun i9 p9 hq9 => ?_, fun _ h => absurd h List.not_mem_nil, fun _ h => absurd h List.not_mem_nil⟩
  · match i9, hq9 with
    | 0, hq9 =>
      have hp9 : ((1114, (1, 0), (0, 0), (0, 1, 1)) : Nat × q9AV × q9AV × q9ET) = p9 := Option.some.inj hq9
      subst hp9
      exact ⟨⟨x2, rfl, by rw [nt2]; exact rg0.1, by rw [nt2]; exact rg0.2⟩, (q9th_tX (T := T) (N := N) (P := P) (J := J) (t0 := t0) (Sc := Sc) (q9evS u0) (q9evZ u_) (q9evS u2) (by rw [q9FF_1114, nt2]; exact (show some (q9wsI T N 14 x0.toInt) = _ by rw [q9ws_wc (by decide) |>.mpr (by omega)])) (by decide)).trans (congrArg some (q9evS u2))⟩
    | k9 + 1, hq9 => exact nomatch (show (none : Option (Nat × q9AV × q9AV × q9ET)) = some p9 from hq9)
theorem q9ru_wcl14 (hT : ∀ i, 0 ≤ T i ∧ T i ≤ 255) (hN : 0 ≤ N ∧ N ≤ 400) (hSc : 0 ≤ Sc 1 ∧ Sc 1 ≤ 400 → N = Sc 1) : q9ruOK (fO T N P J t0 Sc) q9R_wcl14 := by
  intro w w0 hA hX hL hV hR
  obtain ⟨x0, ae0, -, -⟩ := hA 0 0 rfl
  obtain ⟨x1, ae1, -, -⟩ := hA 1 0 rfl
  have kz : (0 : Int32).toInt = 0 := rfl
  have k493 : (Int32.ofInt 493).toInt = 493 := q9oI_toInt (by decide)
  have X0 := q9th_pX (T := T) (N := N) (P := P) (J := J) (t0 := t0) (Sc := Sc) (op := 1008) (q9evS ae0) (q9evZ w0) (q9evS ae1) (hX _ (List.mem_of_getElem? (i := 0) rfl)) (by decide)
  rw [q9FF_1008] at X0
  have H0 := Option.some.inj X0
  try simp only [kz, k493] at H0
  have L0 : x1.toInt ≤ (Int32.ofInt 493).toInt + 0 := q9pC (q9evS ae1) (q9evC w0 493) (hL _ (List.mem_of_getElem? (i := 0) rfl))
  have L1 : (0 : Int32).toInt ≤ x0.toInt + 0 := q9pC (q9evZ w0) (q9evS ae0) (hL _ (List.mem_of_getElem? (i := 1) rfl))
  have hw : q9wnI 14 = 494 := by decide +kernel
  have hn : q9wsI T N 14 x0.toInt = 0 := (q9ws_01 (T := T) (N := N) (t := 14) (i := x0.toInt)).elim (fun h => by have := (q9ws_wc (by decide)).mp h; omega) id
  have rg0 : (0 : Int) ≤ 0 ∧ (0 : Int) ≤ 0 := by omega
  obtain ⟨x2, nt2⟩ : ∃ x : Int32, x.toInt = 0 := ⟨Int32.ofInt (0), q9oI_toInt (by omega)⟩
  have u_ : q9upN w 3 [.int x2] 0 = .int 0 := q9upN_of (by decide) w0
  have u0 : q9upN w 3 [.int x2] 1 = .int x0 := q9upN_of (by decide) ae0
  have u1 : q9upN w 3 [.int x2] 2 = .int x1 := q9upN_of (by decide) ae1
  have u2 : q9upN w 3 [.int x2] 3 = .int x2 := q9upN_at (by decide)
  refine ⟨[.int x2], fun i9 p9 hq9 => ?_, fun _ h => absurd h List.not_mem_nil, fun _ h => absurd h List.not_mem_nil⟩
  · match i9, hq9 with
    | 0, hq9 =>
      have hp9 : ((1114, (1, 0), (0, 0), (0, 0, 0)) : Nat × q9AV × q9AV × q9ET) = p9 := Option.some.inj hq9
      subst hp9
      exact ⟨⟨x2, rfl, by rw [nt2]; exact rg0.1, by rw [nt2]; exact rg0.2⟩, (q9th_tX (T := T) (N := N) (P := P) (J := J) (t0 := t0) (Sc := Sc) (q9evS u0) (q9evZ u_) (q9evS u2) (by rw [q9FF_1114, nt2]; exact (show some (q9wsI T N 14 x0.toInt) = _ by rw [hn])) (by decide)).trans (congrArg some (q9evS u2))⟩
    | k9 + 1, hq9 => exact nomatch (show (none : Option (Nat × q9AV × q9AV × q9ET)) = some p9 from hq9)
theorem q9ru_wch14 (hT : ∀ i, 0 ≤ T i ∧ T i ≤ 255) (hN : 0 ≤ N ∧ N ≤ 400) (hSc : 0 ≤ Sc 1 ∧ Sc 1 ≤ 400 → N = Sc 1) : q9ruOK (fO T N P J t0 Sc) q9R_wch14 := by
  intro w w0 hA hX hL hV hR
  obtain ⟨x0, ae0, -, -⟩ := hA 0 0 rfl
  obtain ⟨x1, ae1, -, -⟩ := hA 1 0 rfl
  have kz : (0 : Int32).toInt = 0 := rfl
  have k495 : (Int32.ofInt 495).toInt = 495 := q9oI_toInt (by decide)
  have X0 := q9th_pX (T := T) (N := N) (P := P) (J := J) (t0 := t0) (Sc := Sc) (op := 1008) (q9evS ae0) (q9evZ w0) (q9evS ae1) (hX _ (List.mem_of_getElem? (i := 0) rfl)) (by decide)
  rw [q9FF_1008] at X0
  have H0 := Option.some.inj X0
  try simp only [kz, k495] at H0
  have L0 : (Int32.ofInt 495).toInt ≤ x1.toInt + 0 := q9pC (q9evC w0 495) (q9evS ae1) (hL _ (List.mem_of_getElem? (i := 0) rfl))
  have L1 : (0 : Int32).toInt ≤ x0.toInt + 0 := q9pC (q9evZ w0) (q9evS ae0) (hL _ (List.mem_of_getElem? (i := 1) rfl))
  have hw : q9wnI 14 = 494 := by decide +kernel
  have hn : q9wsI T N 14 x0.toInt = 0 := (q9ws_01 (T := T) (N := N) (t := 14) (i := x0.toInt)).elim (fun h => by have := (q9ws_wc (by decide)).mp h; omega) id
  have rg0 : (0 : Int) ≤ 0 ∧ (0 : Int) ≤ 0 := by omega
  obtain ⟨x2, nt2⟩ : ∃ x : Int32, x.toInt = 0 := ⟨Int32.ofInt (0), q9oI_toInt (by omega)⟩
  have u_ : q9upN w 3 [.int x2] 0 = .int 0 := q9upN_of (by decide) w0
  have u0 : q9upN w 3 [.int x2] 1 = .int x0 := q9upN_of (by decide) ae0
  have u1 : q9upN w 3 [.int x2] 2 = .int x1 := q9upN_of (by decide) ae1
  have u2 : q9upN w 3 [.int x2] 3 = .int x2 := q9upN_at (by decide)
  refine ⟨[.int x2], fun i9 p9 hq9 => ?_, fun _ h => absurd h List.not_mem_nil, fun _ h => absurd h List.not_mem_nil⟩
  · match i9, hq9 with
    | 0, hq9 =>
      have hp9 : ((1114, (1, 0), (0, 0), (0, 0, 0)) : Nat × q9AV × q9AV × q9ET) = p9 := Option.some.inj hq9
      subst hp9
      exact ⟨⟨x2, rfl, by rw [nt2]; exact rg0.1, by rw [nt2]; exact rg0.2⟩, (q9th_tX (T := T) (N := N) (P := P) (J := J) (t0 := t0) (Sc := Sc) (q9evS u0) (q9evZ u_) (q9evS u2) (by rw [q9FF_1114, nt2]; exact (show some (q9wsI T N 14 x0.toInt) = _ by rw [hn])) (by decide)).trans (congrArg some (q9evS u2))⟩
    | k9 + 1, hq9 => exact nomatch (show (none : Option (Nat × q9AV × q9AV × q9ET)) = some p9 from hq9)
theorem q9ru_wib14 (hT : ∀ i, 0 ≤ T i ∧ T i ≤ 255) (hN : 0 ≤ N ∧ N ≤ 400) (hSc : 0 ≤ Sc 1 ∧ Sc 1 ≤ 400 → N = Sc 1) : q9ruOK (fO T N P J t0 Sc) q9R_wib14 := by
  intro w w0 hA hX hL hV hR
  obtain ⟨x0, ae0, -, -⟩ := hA 0 0 rfl
  have kz : (0 : Int32).toInt = 0 := rfl
  have V0 := q9pV (T := T) (N := N) (P := P) (J := J) (t0 := t0) (Sc := Sc) (op := 1114) (n := 1) (q9evS ae0) (q9evZ w0) (hV _ (List.mem_of_getElem? (i := 0) rfl)) (by decide)
  rw [q9FF_1114] at V0
  have K0 := Option.some.inj V0
  try simp only [kz] at K0
  have L0 : (0 : Int32).toInt ≤ x0.toInt + 0 := q9pC (q9evZ w0) (q9evS ae0) (hL _ (List.mem_of_getElem? (i := 0) rfl))
  have hb := q9ws_b0 (t := 14) (by decide) K0
  have hb : q9byI T N x0.toInt = 111 := hb
  have rg0 : (111 : Int) ≤ 111 ∧ (111 : Int) ≤ 111 := by omega
  obtain ⟨x1, nt1⟩ : ∃ x : Int32, x.toInt = 111 := ⟨Int32.ofInt (111), q9oI_toInt (by omega)⟩
  have u_ : q9upN w 2 [.int x1] 0 = .int 0 := q9upN_of (by decide) w0
  have u0 : q9upN w 2 [.int x1] 1 = .int x0 := q9upN_of (by decide) ae0
  have u1 : q9upN w 2 [.int x1] 2 = .int x1 := q9upN_at (by decide)
  refine ⟨[.int x1], fun i9 p9 hq9 => ?_, fun _ h => absurd h List.not_mem_nil, fun _ h => absurd h List.not_mem_nil⟩
  · match i9, hq9 with
    | 0, hq9 =>
      have hp9 : ((1000, (1, 0), (0, 0), (0, 111, 111)) : Nat × q9AV × q9AV × q9ET) = p9 := Option.some.inj hq9
      subst hp9
      exact ⟨⟨x1, rfl, by rw [nt1]; exact rg0.1, by rw [nt1]; exact rg0.2⟩, (q9th_tX (T := T) (N := N) (P := P) (J := J) (t0 := t0) (Sc := Sc) (q9evS u0) (q9evZ u_) (q9evS u1) (by rw [q9FF_1000, nt1]; exact (by rw [hb])) (by decide)).trans (congrArg some (q9evS u1))⟩
    | k9 + 1, hq9 => exact nomatch (show (none : Option (Nat × q9AV × q9AV × q9ET)) = some p9 from hq9)
theorem q9ru_wcw15 (hT : ∀ i, 0 ≤ T i ∧ T i ≤ 255) (hN : 0 ≤ N ∧ N ≤ 400) (hSc : 0 ≤ Sc 1 ∧ Sc 1 ≤ 400 → N = Sc 1) : q9ruOK (fO T N P J t0 Sc) q9R_wcw15 := by
  intro w w0 hA hX hL hV hR
  obtain ⟨x0, ae0, -, -⟩ := hA 0 0 rfl
  obtain ⟨x1, ae1, -, -⟩ := hA 1 0 rfl
  have kz : (0 : Int32).toInt = 0 := rfl
  have k15558 : (Int32.ofInt 15558).toInt = 15558 := q9oI_toInt (by decide)
  have X0 := q9th_pX (T := T) (N := N) (P := P) (J := J) (t0 := t0) (Sc := Sc) (op := 1008) (q9evS ae0) (q9evZ w0) (q9evS ae1) (hX _ (List.mem_of_getElem? (i := 0) rfl)) (by decide)
  rw [q9FF_1008] at X0
  have H0 := Option.some.inj X0
  try simp only [kz, k15558] at H0
  have L0 : x1.toInt ≤ (Int32.ofInt 15558).toInt + 0 := q9pC (q9evS ae1) (q9evC w0 15558) (hL _ (List.mem_of_getElem? (i := 0) rfl))
  have L1 : (Int32.ofInt 15558).toInt ≤ x1.toInt + 0 := q9pC (q9evC w0 15558) (q9evS ae1) (hL _ (List.mem_of_getElem? (i := 1) rfl))
  have L2 : (0 : Int32).toInt ≤ x0.toInt + 0 := q9pC (q9evZ w0) (q9evS ae0) (hL _ (List.mem_of_getElem? (i := 2) rfl))
  have hw : q9wnI 15 = 15558 := by decide +kernel
  have rg0 : (1 : Int) ≤ 1 ∧ (1 : Int) ≤ 1 := by omega
  obtain ⟨x2, nt2⟩ : ∃ x : Int32, x.toInt = 1 := ⟨Int32.ofInt (1), q9oI_toInt (by omega)⟩
  have u_ : q9upN w 3 [.int x2] 0 = .int 0 := q9upN_of (by decide) w0
  have u0 : q9upN w 3 [.int x2] 1 = .int x0 := q9upN_of (by decide) ae0
  have u1 : q9upN w 3 [.int x2] 2 = .int x1 := q9upN_of (by decide) ae1
  have u2 : q9upN w 3 [.int x2] 3 = .int x2 := q9upN_at (by decide)
  refine ⟨[.int x2], fun i9 p9 hq9 => ?_, fun _ h => absurd h List.not_mem_nil, fun _ h => absurd h List.not_mem_nil⟩
  · match i9, hq9 with
    | 0, hq9 =>
      have hp9 : ((1115, (1, 0), (0, 0), (0, 1, 1)) : Nat × q9AV × q9AV × q9ET) = p9 := Option.some.inj hq9
      subst hp9
      exact ⟨⟨x2, rfl, by rw [nt2]; exact rg0.1, by rw [nt2]; exact rg0.2⟩, (q9th_tX (T := T) (N := N) (P := P) (J := J) (t0 := t0) (Sc := Sc) (q9evS u0) (q9evZ u_) (q9evS u2) (by rw [q9FF_1115, nt2]; exact (show some (q9wsI T N 15 x0.toInt) = _ by rw [q9ws_wc (by decide) |>.mpr (by omega)])) (by decide)).trans (congrArg some (q9evS u2))⟩
    | k9 + 1, hq9 => exact nomatch (show (none : Option (Nat × q9AV × q9AV × q9ET)) = some p9 from hq9)
theorem q9ru_wcl15 (hT : ∀ i, 0 ≤ T i ∧ T i ≤ 255) (hN : 0 ≤ N ∧ N ≤ 400) (hSc : 0 ≤ Sc 1 ∧ Sc 1 ≤ 400 → N = Sc 1) : q9ruOK (fO T N P J t0 Sc) q9R_wcl15 := by
  intro w w0 hA hX hL hV hR
  obtain ⟨x0, ae0, -, -⟩ := hA 0 0 rfl
  obtain ⟨x1, ae1, -, -⟩ := hA 1 0 rfl
  have kz : (0 : Int32).toInt = 0 := rfl
  have k15557 : (Int32.ofInt 15557).toInt = 15557 := q9oI_toInt (by decide)
  have X0 := q9th_pX (T := T) (N := N) (P := P) (J := J) (t0 := t0) (Sc := Sc) (op := 1008) (q9evS ae0) (q9evZ w0) (q9evS ae1) (hX _ (List.mem_of_getElem? (i := 0) rfl)) (by decide)
  rw [q9FF_1008] at X0
  have H0 := Option.some.inj X0
  try simp only [kz, k15557] at H0
  have L0 : x1.toInt ≤ (Int32.ofInt 15557).toInt + 0 := q9pC (q9evS ae1) (q9evC w0 15557) (hL _ (List.mem_of_getElem? (i := 0) rfl))
  have L1 : (0 : Int32).toInt ≤ x0.toInt + 0 := q9pC (q9evZ w0) (q9evS ae0) (hL _ (List.mem_of_getElem? (i := 1) rfl))
  have hw : q9wnI 15 = 15558 := by decide +kernel
  have hn : q9wsI T N 15 x0.toInt = 0 := (q9ws_01 (T := T) (N := N) (t := 15) (i := x0.toInt)).elim (fun h => by have := (q9ws_wc (by decide)).mp h; omega) id
  have rg0 : (0 : Int) ≤ 0 ∧ (0 : Int) ≤ 0 := by omega
  obtain ⟨x2, nt2⟩ : ∃ x : Int32, x.toInt = 0 := ⟨Int32.ofInt (0), q9oI_toInt (by omega)⟩
  have u_ : q9upN w 3 [.int x2] 0 = .int 0 := q9upN_of (by decide) w0
  have u0 : q9upN w 3 [.int x2] 1 = .int x0 := q9upN_of (by decide) ae0
  have u1 : q9upN w 3 [.int x2] 2 = .int x1 := q9upN_of (by decide) ae1
  have u2 : q9upN w 3 [.int x2] 3 = .int x2 := q9upN_at (by decide)
  refine ⟨[.int x2], fun i9 p9 hq9 => ?_, fun _ h => absurd h List.not_mem_nil, fun _ h => absurd h List.not_mem_nil⟩
  · match i9, hq9 with
    | 0, hq9 =>
      have hp9 : ((1115, (1, 0), (0, 0), (0, 0, 0)) : Nat × q9AV × q9AV × q9ET) = p9 := Option.some.inj hq9
      subst hp9
      exact ⟨⟨x2, rfl, by rw [nt2]; exact rg0.1, by rw [nt2]; exact rg0.2⟩, (q9th_tX (T := T) (N := N) (P := P) (J := J) (t0 := t0) (Sc := Sc) (q9evS u0) (q9evZ u_) (q9evS u2) (by rw [q9FF_1115, nt2]; exact (show some (q9wsI T N 15 x0.toInt) = _ by rw [hn])) (by decide)).trans (congrArg some (q9evS u2))⟩
    | k9 + 1, hq9 => exact nomatch (show (none : Option (Nat × q9AV × q9AV × q9ET)) = some p9 from hq9)
theorem q9ru_wch15 (hT : ∀ i, 0 ≤ T i ∧ T i ≤ 255) (hN : 0 ≤ N ∧ N ≤ 400) (hSc : 0 ≤ Sc 1 ∧ Sc 1 ≤ 400 → N = Sc 1) : q9ruOK (fO T N P J t0 Sc) q9R_wch15 := by
  intro w w0 hA hX hL hV hR
  obtain ⟨x0, ae0, -, -⟩ := hA 0 0 rfl
  obtain ⟨x1, ae1, -, -⟩ := hA 1 0 rfl
  have kz : (0 : Int32).toInt = 0 := rfl
  have k15559 : (Int32.ofInt 15559).toInt = 15559 := q9oI_toInt (by decide)
  have X0 := q9th_pX (T := T) (N := N) (P := P) (J := J) (t0 := t0) (Sc := Sc) (op := 1008) (q9evS ae0) (q9evZ w0) (q9evS ae1) (hX _ (List.mem_of_getElem? (i := 0) rfl)) (by decide)
  rw [q9FF_1008] at X0
  have H0 := Option.some.inj X0
  try simp only [kz, k15559] at H0
  have L0 : (Int32.ofInt 15559).toInt ≤ x1.toInt + 0 := q9pC (q9evC w0 15559) (q9evS ae1) (hL _ (List.mem_of_getElem? (i := 0) rfl))
  have L1 : (0 : Int32).toInt ≤ x0.toInt + 0 := q9pC (q9evZ w0) (q9evS ae0) (hL _ (List.mem_of_getElem? (i := 1) rfl))
  have hw : q9wnI 15 = 15558 := by decide +kernel
  have hn : q9wsI T N 15 x0.toInt = 0 := (q9ws_01 (T := T) (N := N) (t := 15) (i := x0.toInt)).elim (fun h => by have := (q9ws_wc (by decide)).mp h; omega) id
  have rg0 : (0 : Int) ≤ 0 ∧ (0 : Int) ≤ 0 := by omega
  obtain ⟨x2, nt2⟩ : ∃ x : Int32, x.toInt = 0 := ⟨Int32.ofInt (0), q9oI_toInt (by omega)⟩
  have u_ : q9upN w 3 [.int x2] 0 = .int 0 := q9upN_of (by decide) w0
  have u0 : q9upN w 3 [.int x2] 1 = .int x0 := q9upN_of (by decide) ae0
  have u1 : q9upN w 3 [.int x2] 2 = .int x1 := q9upN_of (by decide) ae1
  have u2 : q9upN w 3 [.int x2] 3 = .int x2 := q9upN_at (by decide)
  refine ⟨[.int x2], fun i9 p9 hq9 => ?_, fun _ h => absurd h List.not_mem_nil, fun _ h => absurd h List.not_mem_nil⟩
  · match i9, hq9 with
    | 0, hq9 =>
      have hp9 : ((1115, (1, 0), (0, 0), (0, 0, 0)) : Nat × q9AV × q9AV × q9ET) = p9 := Option.some.inj hq9
      subst hp9
      exact ⟨⟨x2, rfl, by rw [nt2]; exact rg0.1, by rw [nt2]; exact rg0.2⟩, (q9th_tX (T := T) (N := N) (P := P) (J := J) (t0 := t0) (Sc := Sc) (q9evS u0) (q9evZ u_) (q9evS u2) (by rw [q9FF_1115, nt2]; exact (show some (q9wsI T N 15 x0.toInt) = _ by rw [hn])) (by decide)).trans (congrArg some (q9evS u2))⟩
    | k9 + 1, hq9 => exact nomatch (show (none : Option (Nat × q9AV × q9AV × q9ET)) = some p9 from hq9)
theorem q9ru_wib15 (hT : ∀ i, 0 ≤ T i ∧ T i ≤ 255) (hN : 0 ≤ N ∧ N ≤ 400) (hSc : 0 ≤ Sc 1 ∧ Sc 1 ≤ 400 → N = Sc 1) : q9ruOK (fO T N P J t0 Sc) q9R_wib15 := by
  intro w w0 hA hX hL hV hR
  obtain ⟨x0, ae0, -, -⟩ := hA 0 0 rfl
  have kz : (0 : Int32).toInt = 0 := rfl
  have V0 := q9pV (T := T) (N := N) (P := P) (J := J) (t0 := t0) (Sc := Sc) (op := 1115) (n := 1) (q9evS ae0) (q9evZ w0) (hV _ (List.mem_of_getElem? (i := 0) rfl)) (by decide)
  rw [q9FF_1115] at V0
  have K0 := Option.some.inj V0
  try simp only [kz] at K0
  have L0 : (0 : Int32).toInt ≤ x0.toInt + 0 := q9pC (q9evZ w0) (q9evS ae0) (hL _ (List.mem_of_getElem? (i := 0) rfl))
  have hb := q9ws_b0 (t := 15) (by decide) K0
  have hb : q9byI T N x0.toInt = 111 := hb
  have rg0 : (111 : Int) ≤ 111 ∧ (111 : Int) ≤ 111 := by omega
  obtain ⟨x1, nt1⟩ : ∃ x : Int32, x.toInt = 111 := ⟨Int32.ofInt (111), q9oI_toInt (by omega)⟩
  have u_ : q9upN w 2 [.int x1] 0 = .int 0 := q9upN_of (by decide) w0
  have u0 : q9upN w 2 [.int x1] 1 = .int x0 := q9upN_of (by decide) ae0
  have u1 : q9upN w 2 [.int x1] 2 = .int x1 := q9upN_at (by decide)
  refine ⟨[.int x1], fun i9 p9 hq9 => ?_, fun _ h => absurd h List.not_mem_nil, fun _ h => absurd h List.not_mem_nil⟩
  · match i9, hq9 with
    | 0, hq9 =>
      have hp9 : ((1000, (1, 0), (0, 0), (0, 111, 111)) : Nat × q9AV × q9AV × q9ET) = p9 := Option.some.inj hq9
      subst hp9
      exact ⟨⟨x1, rfl, by rw [nt1]; exact rg0.1, by rw [nt1]; exact rg0.2⟩, (q9th_tX (T := T) (N := N) (P := P) (J := J) (t0 := t0) (Sc := Sc) (q9evS u0) (q9evZ u_) (q9evS u1) (by rw [q9FF_1000, nt1]; exact (by rw [hb])) (by decide)).trans (congrArg some (q9evS u1))⟩
    | k9 + 1, hq9 => exact nomatch (show (none : Option (Nat × q9AV × q9AV × q9ET)) = some p9 from hq9)
theorem q9ru_wcw16 (hT : ∀ i, 0 ≤ T i ∧ T i ≤ 255) (hN : 0 ≤ N ∧ N ≤ 400) (hSc : 0 ≤ Sc 1 ∧ Sc 1 ≤ 400 → N = Sc 1) : q9ruOK (fO T N P J t0 Sc) q9R_wcw16 := by
  intro w w0 hA hX hL hV hR
  obtain ⟨x0, ae0, -, -⟩ := hA 0 0 rfl
  obtain ⟨x1, ae1, -, -⟩ := hA 1 0 rfl
  have kz : (0 : Int32).toInt = 0 := rfl
  have k16430 : (Int32.ofInt 16430).toInt = 16430 := q9oI_toInt (by decide)
  have X0 := q9th_pX (T := T) (N := N) (P := P) (J := J) (t0 := t0) (Sc := Sc) (op := 1008) (q9evS ae0) (q9evZ w0) (q9evS ae1) (hX _ (List.mem_of_getElem? (i := 0) rfl)) (by decide)
  rw [q9FF_1008] at X0
  have H0 := Option.some.inj X0
  try simp only [kz, k16430] at H0
  have L0 : x1.toInt ≤ (Int32.ofInt 16430).toInt + 0 := q9pC (q9evS ae1) (q9evC w0 16430) (hL _ (List.mem_of_getElem? (i := 0) rfl))
  have L1 : (Int32.ofInt 16430).toInt ≤ x1.toInt + 0 := q9pC (q9evC w0 16430) (q9evS ae1) (hL _ (List.mem_of_getElem? (i := 1) rfl))
  have L2 : (0 : Int32).toInt ≤ x0.toInt + 0 := q9pC (q9evZ w0) (q9evS ae0) (hL _ (List.mem_of_getElem? (i := 2) rfl))
  have hw : q9wnI 16 = 16430 := by decide +kernel
  have rg0 : (1 : Int) ≤ 1 ∧ (1 : Int) ≤ 1 := by omega
  obtain ⟨x2, nt2⟩ : ∃ x : Int32, x.toInt = 1 := ⟨Int32.ofInt (1), q9oI_toInt (by omega)⟩
  have u_ : q9upN w 3 [.int x2] 0 = .int 0 := q9upN_of (by decide) w0
  have u0 : q9upN w 3 [.int x2] 1 = .int x0 := q9upN_of (by decide) ae0
  have u1 : q9upN w 3 [.int x2] 2 = .int x1 := q9upN_of (by decide) ae1
  have u2 : q9upN w 3 [.int x2] 3 = .int x2 := q9upN_at (by decide)
  refine ⟨[.int x2], fun i9 p9 hq9 => ?_, fun _ h => absurd h List.not_mem_nil, fun _ h => absurd h List.not_mem_nil⟩
  · match i9, hq9 with
    | 0, hq9 =>
      have hp9 : ((1116, (1, 0), (0, 0), (0, 1, 1)) : Nat × q9AV × q9AV × q9ET) = p9 := Option.some.inj hq9
      subst hp9
      exact ⟨⟨x2, rfl, by rw [nt2]; exact rg0.1, by rw [nt2]; exact rg0.2⟩, (q9th_tX (T := T) (N := N) (P := P) (J := J) (t0 := t0) (Sc := Sc) (q9evS u0) (q9evZ u_) (q9evS u2) (by rw [q9FF_1116, nt2]; exact (show some (q9wsI T N 16 x0.toInt) = _ by rw [q9ws_wc (by decide) |>.mpr (by omega)])) (by decide)).trans (congrArg some (q9evS u2))⟩
    | k9 + 1, hq9 => exact nomatch (show (none : Option (Nat × q9AV × q9AV × q9ET)) = some p9 from hq9)
theorem q9ru_wcl16 (hT : ∀ i, 0 ≤ T i ∧ T i ≤ 255) (hN : 0 ≤ N ∧ N ≤ 400) (hSc : 0 ≤ Sc 1 ∧ Sc 1 ≤ 400 → N = Sc 1) : q9ruOK (fO T N P J t0 Sc) q9R_wcl16 := by
  intro w w0 hA hX hL hV hR
  obtain ⟨x0, ae0, -, -⟩ := hA 0 0 rfl
  obtain ⟨x1, ae1, -, -⟩ := hA 1 0 rfl
  have kz : (0 : Int32).toInt = 0 := rfl
  have k16429 : (Int32.ofInt 16429).toInt = 16429 := q9oI_toInt (by decide)
  have X0 := q9th_pX (T := T) (N := N) (P := P) (J := J) (t0 := t0) (Sc := Sc) (op := 1008) (q9evS ae0) (q9evZ w0) (q9evS ae1) (hX _ (List.mem_of_getElem? (i := 0) rfl)) (by decide)
  rw [q9FF_1008] at X0
  have H0 := Option.some.inj X0
  try simp only [kz, k16429] at H0
  have L0 : x1.toInt ≤ (Int32.ofInt 16429).toInt + 0 := q9pC (q9evS ae1) (q9evC w0 16429) (hL _ (List.mem_of_getElem? (i := 0) rfl))
  have L1 : (0 : Int32).toInt ≤ x0.toInt + 0 := q9pC (q9evZ w0) (q9evS ae0) (hL _ (List.mem_of_getElem? (i := 1) rfl))
  have hw : q9wnI 16 = 16430 := by decide +kernel
  have hn : q9wsI T N 16 x0.toInt = 0 := (q9ws_01 (T := T) (N := N) (t := 16) (i := x0.toInt)).elim (fun h => by have := (q9ws_wc (by decide)).mp h; omega) id
  have rg0 : (0 : Int) ≤ 0 ∧ (0 : Int) ≤ 0 := by omega
  obtain ⟨x2, nt2⟩ : ∃ x : Int32, x.toInt = 0 := ⟨Int32.ofInt (0), q9oI_toInt (by omega)⟩
  have u_ : q9upN w 3 [.int x2] 0 = .int 0 := q9upN_of (by decide) w0
  have u0 : q9upN w 3 [.int x2] 1 = .int x0 := q9upN_of (by decide) ae0
  have u1 : q9upN w 3 [.int x2] 2 = .int x1 := q9upN_of (by decide) ae1
  have u2 : q9upN w 3 [.int x2] 3 = .int x2 := q9upN_at (by decide)
  refine ⟨[.int x2], fun i9 p9 hq9 => ?_, fun _ h => absurd h List.not_mem_nil, fun _ h => absurd h List.not_mem_nil⟩
  · match i9, hq9 with
    | 0, hq9 =>
      have hp9 : ((1116, (1, 0), (0, 0), (0, 0, 0)) : Nat × q9AV × q9AV × q9ET) = p9 := Option.some.inj hq9
      subst hp9
      exact ⟨⟨x2, rfl, by rw [nt2]; exact rg0.1, by rw [nt2]; exact rg0.2⟩, (q9th_tX (T := T) (N := N) (P := P) (J := J) (t0 := t0) (Sc := Sc) (q9evS u0) (q9evZ u_) (q9evS u2) (by rw [q9FF_1116, nt2]; exact (show some (q9wsI T N 16 x0.toInt) = _ by rw [hn])) (by decide)).trans (congrArg some (q9evS u2))⟩
    | k9 + 1, hq9 => exact nomatch (show (none : Option (Nat × q9AV × q9AV × q9ET)) = some p9 from hq9)
theorem q9ru_wch16 (hT : ∀ i, 0 ≤ T i ∧ T i ≤ 255) (hN : 0 ≤ N ∧ N ≤ 400) (hSc : 0 ≤ Sc 1 ∧ Sc 1 ≤ 400 → N = Sc 1) : q9ruOK (fO T N P J t0 Sc) q9R_wch16 := by
  intro w w0 hA hX hL hV hR
  obtain ⟨x0, ae0, -, -⟩ := hA 0 0 rfl
  obtain ⟨x1, ae1, -, -⟩ := hA 1 0 rfl
  have kz : (0 : Int32).toInt = 0 := rfl
  have k16431 : (Int32.ofInt 16431).toInt = 16431 := q9oI_toInt (by decide)
  have X0 := q9th_pX (T := T) (N := N) (P := P) (J := J) (t0 := t0) (Sc := Sc) (op := 1008) (q9evS ae0) (q9evZ w0) (q9evS ae1) (hX _ (List.mem_of_getElem? (i := 0) rfl)) (by decide)
  rw [q9FF_1008] at X0
  have H0 := Option.some.inj X0
  try simp only [kz, k16431] at H0
  have L0 : (Int32.ofInt 16431).toInt ≤ x1.toInt + 0 := q9pC (q9evC w0 16431) (q9evS ae1) (hL _ (List.mem_of_getElem? (i := 0) rfl))
  have L1 : (0 : Int32).toInt ≤ x0.toInt + 0 := q9pC (q9evZ w0) (q9evS ae0) (hL _ (List.mem_of_getElem? (i := 1) rfl))
  have hw : q9wnI 16 = 16430 := by decide +kernel
  have hn : q9wsI T N 16 x0.toInt = 0 := (q9ws_01 (T := T) (N := N) (t := 16) (i := x0.toInt)).elim (fun h => by have := (q9ws_wc (by decide)).mp h; omega) id
  have rg0 : (0 : Int) ≤ 0 ∧ (0 : Int) ≤ 0 := by omega
  obtain ⟨x2, nt2⟩ : ∃ x : Int32, x.toInt = 0 := ⟨Int32.ofInt (0), q9oI_toInt (by omega)⟩
  have u_ : q9upN w 3 [.int x2] 0 = .int 0 := q9upN_of (by decide) w0
  have u0 : q9upN w 3 [.int x2] 1 = .int x0 := q9upN_of (by decide) ae0
  have u1 : q9upN w 3 [.int x2] 2 = .int x1 := q9upN_of (by decide) ae1
  have u2 : q9upN w 3 [.int x2] 3 = .int x2 := q9upN_at (by decide)
  refine ⟨[.int x2], fun i9 p9 hq9 => ?_, fun _ h => absurd h List.not_mem_nil, fun _ h => absurd h List.not_mem_nil⟩
  · match i9, hq9 with
    | 0, hq9 =>
      have hp9 : ((1116, (1, 0), (0, 0), (0, 0, 0)) : Nat × q9AV × q9AV × q9ET) = p9 := Option.some.inj hq9
      subst hp9
      exact ⟨⟨x2, rfl, by rw [nt2]; exact rg0.1, by rw [nt2]; exact rg0.2⟩, (q9th_tX (T := T) (N := N) (P := P) (J := J) (t0 := t0) (Sc := Sc) (q9evS u0) (q9evZ u_) (q9evS u2) (by rw [q9FF_1116, nt2]; exact (show some (q9wsI T N 16 x0.toInt) = _ by rw [hn])) (by decide)).trans (congrArg some (q9evS u2))⟩
    | k9 + 1, hq9 => exact nomatch (show (none : Option (Nat × q9AV × q9AV × q9ET)) = some p9 from hq9)
theorem q9ru_wib16 (hT : ∀ i, 0 ≤ T i ∧ T i ≤ 255) (hN : 0 ≤ N ∧ N ≤ 400) (hSc : 0 ≤ Sc 1 ∧ Sc 1 ≤ 400 → N = Sc 1) : q9ruOK (fO T N P J t0 Sc) q9R_wib16 := by
  intro w w0 hA hX hL hV hR
  obtain ⟨x0, ae0, -, -⟩ := hA 0 0 rfl
  have kz : (0 : Int32).toInt = 0 := rfl
  have V0 := q9pV (T := T) (N := N) (P := P) (J := J) (t0 := t0) (Sc := Sc) (op := 1116) (n := 1) (q9evS ae0) (q9evZ w0) (hV _ (List.mem_of_getElem? (i := 0) rfl)) (by decide)
  rw [q9FF_1116] at V0
  have K0 := Option.some.inj V0
  try simp only [kz] at K0
  have L0 : (0 : Int32).toInt ≤ x0.toInt + 0 := q9pC (q9evZ w0) (q9evS ae0) (hL _ (List.mem_of_getElem? (i := 0) rfl))
  have hb := q9ws_b0 (t := 16) (by decide) K0
  have hb : q9byI T N x0.toInt = 112 := hb
  have rg0 : (112 : Int) ≤ 112 ∧ (112 : Int) ≤ 112 := by omega
  obtain ⟨x1, nt1⟩ : ∃ x : Int32, x.toInt = 112 := ⟨Int32.ofInt (112), q9oI_toInt (by omega)⟩
  have u_ : q9upN w 2 [.int x1] 0 = .int 0 := q9upN_of (by decide) w0
  have u0 : q9upN w 2 [.int x1] 1 = .int x0 := q9upN_of (by decide) ae0
  have u1 : q9upN w 2 [.int x1] 2 = .int x1 := q9upN_at (by decide)
  refine ⟨[.int x1], fun i9 p9 hq9 => ?_, fun _ h => absurd h List.not_mem_nil, fun _ h => absurd h List.not_mem_nil⟩
  · match i9, hq9 with
    | 0, hq9 =>
      have hp9 : ((1000, (1, 0), (0, 0), (0, 112, 112)) : Nat × q9AV × q9AV × q9ET) = p9 := Option.some.inj hq9
      subst hp9
      exact ⟨⟨x1, rfl, by rw [nt1]; exact rg0.1, by rw [nt1]; exact rg0.2⟩, (q9th_tX (T := T) (N := N) (P := P) (J := J) (t0 := t0) (Sc := Sc) (q9evS u0) (q9evZ u_) (q9evS u1) (by rw [q9FF_1000, nt1]; exact (by rw [hb])) (by decide)).trans (congrArg some (q9evS u1))⟩
    | k9 + 1, hq9 => exact nomatch (show (none : Option (Nat × q9AV × q9AV × q9ET)) = some p9 from hq9)
theorem q9ru_wcw17 (hT : ∀ i, 0 ≤ T i ∧ T i ≤ 255) (hN : 0 ≤ N ∧ N ≤ 400) (hSc : 0 ≤ Sc 1 ∧ Sc 1 ≤ 400 → N = Sc 1) : q9ruOK (fO T N P J t0 Sc) q9R_wcw17 := by
  intro w w0 hA hX hL hV hR
  obtain ⟨x0, ae0, -, -⟩ := hA 0 0 rfl
  obtain ⟨x1, ae1, -, -⟩ := hA 1 0 rfl
  have kz : (0 : Int32).toInt = 0 := rfl
  have k664980 : (Int32.ofInt 664980).toInt = 664980 := q9oI_toInt (by decide)
  have X0 := q9th_pX (T := T) (N := N) (P := P) (J := J) (t0 := t0) (Sc := Sc) (op := 1008) (q9evS ae0) (q9evZ w0) (q9evS ae1) (hX _ (List.mem_of_getElem? (i := 0) rfl)) (by decide)
  rw [q9FF_1008] at X0
  have H0 := Option.some.inj X0
  try simp only [kz, k664980] at H0
  have L0 : x1.toInt ≤ (Int32.ofInt 664980).toInt + 0 := q9pC (q9evS ae1) (q9evC w0 664980) (hL _ (List.mem_of_getElem? (i := 0) rfl))
  have L1 : (Int32.ofInt 664980).toInt ≤ x1.toInt + 0 := q9pC (q9evC w0 664980) (q9evS ae1) (hL _ (List.mem_of_getElem? (i := 1) rfl))
  have L2 : (0 : Int32).toInt ≤ x0.toInt + 0 := q9pC (q9evZ w0) (q9evS ae0) (hL _ (List.mem_of_getElem? (i := 2) rfl))
  have hw : q9wnI 17 = 664980 := by decide +kernel
  have rg0 : (1 : Int) ≤ 1 ∧ (1 : Int) ≤ 1 := by omega
  obtain ⟨x2, nt2⟩ : ∃ x : Int32, x.toInt = 1 := ⟨Int32.ofInt (1), q9oI_toInt (by omega)⟩
  have u_ : q9upN w 3 [.int x2] 0 = .int 0 := q9upN_of (by decide) w0
  have u0 : q9upN w 3 [.int x2] 1 = .int x0 := q9upN_of (by decide) ae0
  have u1 : q9upN w 3 [.int x2] 2 = .int x1 := q9upN_of (by decide) ae1
  have u2 : q9upN w 3 [.int x2] 3 = .int x2 := q9upN_at (by decide)
  refine ⟨[.int x2], fun i9 p9 hq9 => ?_, fun _ h => absurd h List.not_mem_nil, fun _ h => absurd h List.not_mem_nil⟩
  · match i9, hq9 with
    | 0, hq9 =>
      have hp9 : ((1117, (1, 0), (0, 0), (0, 1, 1)) : Nat × q9AV × q9AV × q9ET) = p9 := Option.some.inj hq9
      subst hp9
      exact ⟨⟨x2, rfl, by rw [nt2]; exact rg0.1, by rw [nt2]; exact rg0.2⟩, (q9th_tX (T := T) (N := N) (P := P) (J := J) (t0 := t0) (Sc := Sc) (q9evS u0) (q9evZ u_) (q9evS u2) (by rw [q9FF_1117, nt2]; exact (show some (q9wsI T N 17 x0.toInt) = _ by rw [q9ws_wc (by decide) |>.mpr (by omega)])) (by decide)).trans (congrArg some (q9evS u2))⟩
    | k9 + 1, hq9 => exact nomatch (show (none : Option (Nat × q9AV × q9AV × q9ET)) = some p9 from hq9)
theorem q9ru_wcl17 (hT : ∀ i, 0 ≤ T i ∧ T i ≤ 255) (hN : 0 ≤ N ∧ N ≤ 400) (hSc : 0 ≤ Sc 1 ∧ Sc 1 ≤ 400 → N = Sc 1) : q9ruOK (fO T N P J t0 Sc) q9R_wcl17 := by
  intro w w0 hA hX hL hV hR
  obtain ⟨x0, ae0, -, -⟩ := hA 0 0 rfl
  obtain ⟨x1, ae1, -, -⟩ := hA 1 0 rfl
  have kz : (0 : Int32).toInt = 0 := rfl
  have k664979 : (Int32.ofInt 664979).toInt = 664979 := q9oI_toInt (by decide)
  have X0 := q9th_pX (T := T) (N := N) (P := P) (J := J) (t0 := t0) (Sc := Sc) (op := 1008) (q9evS ae0) (q9evZ w0) (q9evS ae1) (hX _ (List.mem_of_getElem? (i := 0) rfl)) (by decide)
  rw [q9FF_1008] at X0
  have H0 := Option.some.inj X0
  try simp only [kz, k664979] at H0
  have L0 : x1.toInt ≤ (Int32.ofInt 664979).toInt + 0 := q9pC (q9evS ae1) (q9evC w0 664979) (hL _ (List.mem_of_getElem? (i := 0) rfl))
  have L1 : (0 : Int32).toInt ≤ x0.toInt + 0 := q9pC (q9evZ w0) (q9evS ae0) (hL _ (List.mem_of_getElem? (i := 1) rfl))
  have hw : q9wnI 17 = 664980 := by decide +kernel
  have hn : q9wsI T N 17 x0.toInt = 0 := (q9ws_01 (T := T) (N := N) (t := 17) (i := x0.toInt)).elim (fun h => by have := (q9ws_wc (by decide)).mp h; omega) id
  have rg0 : (0 : Int) ≤ 0 ∧ (0 : Int) ≤ 0 := by omega
  obtain ⟨x2, nt2⟩ : ∃ x : Int32, x.toInt = 0 := ⟨Int32.ofInt (0), q9oI_toInt (by omega)⟩
  have u_ : q9upN w 3 [.int x2] 0 = .int 0 := q9upN_of (by decide) w0
  have u0 : q9upN w 3 [.int x2] 1 = .int x0 := q9upN_of (by decide) ae0
  have u1 : q9upN w 3 [.int x2] 2 = .int x1 := q9upN_of (by decide) ae1
  have u2 : q9upN w 3 [.int x2] 3 = .int x2 := q9upN_at (by decide)
  refine ⟨[.int x2], fun i9 p9 hq9 => ?_, fun _ h => absurd h List.not_mem_nil, fun _ h => absurd h List.not_mem_nil⟩
  · match i9, hq9 with
    | 0, hq9 =>
      have hp9 : ((1117, (1, 0), (0, 0), (0, 0, 0)) : Nat × q9AV × q9AV × q9ET) = p9 := Option.some.inj hq9
      subst hp9
      exact ⟨⟨x2, rfl, by rw [nt2]; exact rg0.1, by rw [nt2]; exact rg0.2⟩, (q9th_tX (T := T) (N := N) (P := P) (J := J) (t0 := t0) (Sc := Sc) (q9evS u0) (q9evZ u_) (q9evS u2) (by rw [q9FF_1117, nt2]; exact (show some (q9wsI T N 17 x0.toInt) = _ by rw [hn])) (by decide)).trans (congrArg some (q9evS u2))⟩
    | k9 + 1, hq9 => exact nomatch (show (none : Option (Nat × q9AV × q9AV × q9ET)) = some p9 from hq9)
theorem q9ru_wch17 (hT : ∀ i, 0 ≤ T i ∧ T i ≤ 255) (hN : 0 ≤ N ∧ N ≤ 400) (hSc : 0 ≤ Sc 1 ∧ Sc 1 ≤ 400 → N = Sc 1) : q9ruOK (fO T N P J t0 Sc) q9R_wch17 := by
  intro w w0 hA hX hL hV hR
  obtain ⟨x0, ae0, -, -⟩ := hA 0 0 rfl
  obtain ⟨x1, ae1, -, -⟩ := hA 1 0 rfl
  have kz : (0 : Int32).toInt = 0 := rfl
  have k664981 : (Int32.ofInt 664981).toInt = 664981 := q9oI_toInt (by decide)
  have X0 := q9th_pX (T := T) (N := N) (P := P) (J := J) (t0 := t0) (Sc := Sc) (op := 1008) (q9evS ae0) (q9evZ w0) (q9evS ae1) (hX _ (List.mem_of_getElem? (i := 0) rfl)) (by decide)
  rw [q9FF_1008] at X0
  have H0 := Option.some.inj X0
  try simp only [kz, k664981] at H0
  have L0 : (Int32.ofInt 664981).toInt ≤ x1.toInt + 0 := q9pC (q9evC w0 664981) (q9evS ae1) (hL _ (List.mem_of_getElem? (i := 0) rfl))
  have L1 : (0 : Int32).toInt ≤ x0.toInt + 0 := q9pC (q9evZ w0) (q9evS ae0) (hL _ (List.mem_of_getElem? (i := 1) rfl))
  have hw : q9wnI 17 = 664980 := by decide +kernel
  have hn : q9wsI T N 17 x0.toInt = 0 := (q9ws_01 (T := T) (N := N) (t := 17) (i := x0.toInt)).elim (fun h => by have := (q9ws_wc (by decide)).mp h; omega) id
  have rg0 : (0 : Int) ≤ 0 ∧ (0 : Int) ≤ 0 := by omega
  obtain ⟨x2, nt2⟩ : ∃ x : Int32, x.toInt = 0 := ⟨Int32.ofInt (0), q9oI_toInt (by omega)⟩
  have u_ : q9upN w 3 [.int x2] 0 = .int 0 := q9upN_of (by decide) w0
  have u0 : q9upN w 3 [.int x2] 1 = .int x0 := q9upN_of (by decide) ae0
  have u1 : q9upN w 3 [.int x2] 2 = .int x1 := q9upN_of (by decide) ae1
  have u2 : q9upN w 3 [.int x2] 3 = .int x2 := q9upN_at (by decide)
  refine ⟨[.int x2], fun i9 p9 hq9 => ?_, fun _ h => absurd h List.not_mem_nil, fun _ h => absurd h List.not_mem_nil⟩
  · match i9, hq9 with
    | 0, hq9 =>
      have hp9 : ((1117, (1, 0), (0, 0), (0, 0, 0)) : Nat × q9AV × q9AV × q9ET) = p9 := Option.some.inj hq9
      subst hp9
      exact ⟨⟨x2, rfl, by rw [nt2]; exact rg0.1, by rw [nt2]; exact rg0.2⟩, (q9th_tX (T := T) (N := N) (P := P) (J := J) (t0 := t0) (Sc := Sc) (q9evS u0) (q9evZ u_) (q9evS u2) (by rw [q9FF_1117, nt2]; exact (show some (q9wsI T N 17 x0.toInt) = _ by rw [hn])) (by decide)).trans (congrArg some (q9evS u2))⟩
    | k9 + 1, hq9 => exact nomatch (show (none : Option (Nat × q9AV × q9AV × q9ET)) = some p9 from hq9)
theorem q9ru_wib17 (hT : ∀ i, 0 ≤ T i ∧ T i ≤ 255) (hN : 0 ≤ N ∧ N ≤ 400) (hSc : 0 ≤ Sc 1 ∧ Sc 1 ≤ 400 → N = Sc 1) : q9ruOK (fO T N P J t0 Sc) q9R_wib17 := by
  intro w w0 hA hX hL hV hR
  obtain ⟨x0, ae0, -, -⟩ := hA 0 0 rfl
  have kz : (0 : Int32).toInt = 0 := rfl
  have V0 := q9pV (T := T) (N := N) (P := P) (J := J) (t0 := t0) (Sc := Sc) (op := 1117) (n := 1) (q9evS ae0) (q9evZ w0) (hV _ (List.mem_of_getElem? (i := 0) rfl)) (by decide)
  rw [q9FF_1117] at V0
  have K0 := Option.some.inj V0
  try simp only [kz] at K0
  have L0 : (0 : Int32).toInt ≤ x0.toInt + 0 := q9pC (q9evZ w0) (q9evS ae0) (hL _ (List.mem_of_getElem? (i := 0) rfl))
  have hb := q9ws_b0 (t := 17) (by decide) K0
  have hb : q9byI T N x0.toInt = 116 := hb
  have rg0 : (116 : Int) ≤ 116 ∧ (116 : Int) ≤ 116 := by omega
  obtain ⟨x1, nt1⟩ : ∃ x : Int32, x.toInt = 116 := ⟨Int32.ofInt (116), q9oI_toInt (by omega)⟩
  have u_ : q9upN w 2 [.int x1] 0 = .int 0 := q9upN_of (by decide) w0
  have u0 : q9upN w 2 [.int x1] 1 = .int x0 := q9upN_of (by decide) ae0
  have u1 : q9upN w 2 [.int x1] 2 = .int x1 := q9upN_at (by decide)
  refine ⟨[.int x1], fun i9 p9 hq9 => ?_, fun _ h => absurd h List.not_mem_nil, fun _ h => absurd h List.not_mem_nil⟩
  · match i9, hq9 with
    | 0, hq9 =>
      have hp9 : ((1000, (1, 0), (0, 0), (0, 116, 116)) : Nat × q9AV × q9AV × q9ET) = p9 := Option.some.inj hq9
      subst hp9
      exact ⟨⟨x1, rfl, by rw [nt1]; exact rg0.1, by rw [nt1]; exact rg0.2⟩, (q9th_tX (T := T) (N := N) (P := P) (J := J) (t0 := t0) (Sc := Sc) (q9evS u0) (q9evZ u_) (q9evS u1) (by rw [q9FF_1000, nt1]; exact (by rw [hb])) (by decide)).trans (congrArg some (q9evS u1))⟩
    | k9 + 1, hq9 => exact nomatch (show (none : Option (Nat × q9AV × q9AV × q9ET)) = some p9 from hq9)
theorem q9ru_wcw18 (hT : ∀ i, 0 ≤ T i ∧ T i ≤ 255) (hN : 0 ≤ N ∧ N ≤ 400) (hSc : 0 ≤ Sc 1 ∧ Sc 1 ≤ 400 → N = Sc 1) : q9ruOK (fO T N P J t0 Sc) q9R_wcw18 := by
  intro w w0 hA hX hL hV hR
  obtain ⟨x0, ae0, -, -⟩ := hA 0 0 rfl
  obtain ⟨x1, ae1, -, -⟩ := hA 1 0 rfl
  have kz : (0 : Int32).toInt = 0 := rfl
  have k21562475 : (Int32.ofInt 21562475).toInt = 21562475 := q9oI_toInt (by decide)
  have X0 := q9th_pX (T := T) (N := N) (P := P) (J := J) (t0 := t0) (Sc := Sc) (op := 1008) (q9evS ae0) (q9evZ w0) (q9evS ae1) (hX _ (List.mem_of_getElem? (i := 0) rfl)) (by decide)
  rw [q9FF_1008] at X0
  have H0 := Option.some.inj X0
  try simp only [kz, k21562475] at H0
  have L0 : x1.toInt ≤ (Int32.ofInt 21562475).toInt + 0 := q9pC (q9evS ae1) (q9evC w0 21562475) (hL _ (List.mem_of_getElem? (i := 0) rfl))
  have L1 : (Int32.ofInt 21562475).toInt ≤ x1.toInt + 0 := q9pC (q9evC w0 21562475) (q9evS ae1) (hL _ (List.mem_of_getElem? (i := 1) rfl))
  have L2 : (0 : Int32).toInt ≤ x0.toInt + 0 := q9pC (q9evZ w0) (q9evS ae0) (hL _ (List.mem_of_getElem? (i := 2) rfl))
  have hw : q9wnI 18 = 21562475 := by decide +kernel
  have rg0 : (1 : Int) ≤ 1 ∧ (1 : Int) ≤ 1 := by omega
  obtain ⟨x2, nt2⟩ : ∃ x : Int32, x.toInt = 1 := ⟨Int32.ofInt (1), q9oI_toInt (by omega)⟩
  have u_ : q9upN w 3 [.int x2] 0 = .int 0 := q9upN_of (by decide) w0
  have u0 : q9upN w 3 [.int x2] 1 = .int x0 := q9upN_of (by decide) ae0
  have u1 : q9upN w 3 [.int x2] 2 = .int x1 := q9upN_of (by decide) ae1
  have u2 : q9upN w 3 [.int x2] 3 = .int x2 := q9upN_at (by decide)
  refine ⟨[.int x2], fun i9 p9 hq9 => ?_, fun _ h => absurd h List.not_mem_nil, fun _ h => absurd h List.not_mem_nil⟩
  · match i9, hq9 with
    | 0, hq9 =>
      have hp9 : ((1118, (1, 0), (0, 0), (0, 1, 1)) : Nat × q9AV × q9AV × q9ET) = p9 := Option.some.inj hq9
      subst hp9
      exact ⟨⟨x2, rfl, by rw [nt2]; exact rg0.1, by rw [nt2]; exact rg0.2⟩, (q9th_tX (T := T) (N := N) (P := P) (J := J) (t0 := t0) (Sc := Sc) (q9evS u0) (q9evZ u_) (q9evS u2) (by rw [q9FF_1118, nt2]; exact (show some (q9wsI T N 18 x0.toInt) = _ by rw [q9ws_wc (by decide) |>.mpr (by omega)])) (by decide)).trans (congrArg some (q9evS u2))⟩
    | k9 + 1, hq9 => exact nomatch (show (none : Option (Nat × q9AV × q9AV × q9ET)) = some p9 from hq9)
theorem q9ru_wcl18 (hT : ∀ i, 0 ≤ T i ∧ T i ≤ 255) (hN : 0 ≤ N ∧ N ≤ 400) (hSc : 0 ≤ Sc 1 ∧ Sc 1 ≤ 400 → N = Sc 1) : q9ruOK (fO T N P J t0 Sc) q9R_wcl18 := by
  intro w w0 hA hX hL hV hR
  obtain ⟨x0, ae0, -, -⟩ := hA 0 0 rfl
  obtain ⟨x1, ae1, -, -⟩ := hA 1 0 rfl
  have kz : (0 : Int32).toInt = 0 := rfl
  have k21562474 : (Int32.ofInt 21562474).toInt = 21562474 := q9oI_toInt (by decide)
  have X0 := q9th_pX (T := T) (N := N) (P := P) (J := J) (t0 := t0) (Sc := Sc) (op := 1008) (q9evS ae0) (q9evZ w0) (q9evS ae1) (hX _ (List.mem_of_getElem? (i := 0) rfl)) (by decide)
  rw [q9FF_1008] at X0
  have H0 := Option.some.inj X0
  try simp only [kz, k21562474] at H0
  have L0 : x1.toInt ≤ (Int32.ofInt 21562474).toInt + 0 := q9pC (q9evS ae1) (q9evC w0 21562474) (hL _ (List.mem_of_getElem? (i := 0) rfl))
  have L1 : (0 : Int32).toInt ≤ x0.toInt + 0 := q9pC (q9evZ w0) (q9evS ae0) (hL _ (List.mem_of_getElem? (i := 1) rfl))
  have hw : q9wnI 18 = 21562475 := by decide +kernel
  have hn : q9wsI T N 18 x0.toInt = 0 := (q9ws_01 (T := T) (N := N) (t := 18) (i := x0.toInt)).elim (fun h => by have := (q9ws_wc (by decide)).mp h; omega) id
  have rg0 : (0 : Int) ≤ 0 ∧ (0 : Int) ≤ 0 := by omega
  obtain ⟨x2, nt2⟩ : ∃ x : Int32, x.toInt = 0 := ⟨Int32.ofInt (0), q9oI_toInt (by omega)⟩
  have u_ : q9upN w 3 [.int x2] 0 = .int 0 := q9upN_of (by decide) w0
  have u0 : q9upN w 3 [.int x2] 1 = .int x0 := q9upN_of (by decide) ae0
  have u1 : q9upN w 3 [.int x2] 2 = .int x1 := q9upN_of (by decide) ae1
  have u2 : q9upN w 3 [.int x2] 3 = .int x2 := q9upN_at (by decide)
  refine ⟨[.int x2], fun i9 p9 hq9 => ?_, fun _ h => absurd h List.not_mem_nil, fun _ h => absurd h List.not_mem_nil⟩
  · match i9, hq9 with
    | 0, hq9 =>
      have hp9 : ((1118, (1, 0), (0, 0), (0, 0, 0)) : Nat × q9AV × q9AV × q9ET) = p9 := Option.some.inj hq9
      subst hp9
      exact ⟨⟨x2, rfl, by rw [nt2]; exact rg0.1, by rw [nt2]; exact rg0.2⟩, (q9th_tX (T := T) (N := N) (P := P) (J := J) (t0 := t0) (Sc := Sc) (q9evS u0) (q9evZ u_) (q9evS u2) (by rw [q9FF_1118, nt2]; exact (show some (q9wsI T N 18 x0.toInt) = _ by rw [hn])) (by decide)).trans (congrArg some (q9evS u2))⟩
    | k9 + 1, hq9 => exact nomatch (show (none : Option (Nat × q9AV × q9AV × q9ET)) = some p9 from hq9)
theorem q9ru_wch18 (hT : ∀ i, 0 ≤ T i ∧ T i ≤ 255) (hN : 0 ≤ N ∧ N ≤ 400) (hSc : 0 ≤ Sc 1 ∧ Sc 1 ≤ 400 → N = Sc 1) : q9ruOK (fO T N P J t0 Sc) q9R_wch18 := by
  intro w w0 hA hX hL hV hR
  obtain ⟨x0, ae0, -, -⟩ := hA 0 0 rfl
  obtain ⟨x1, ae1, -, -⟩ := hA 1 0 rfl
  have kz : (0 : Int32).toInt = 0 := rfl
  have k21562476 : (Int32.ofInt 21562476).toInt = 21562476 := q9oI_toInt (by decide)
  have X0 := q9th_pX (T := T) (N := N) (P := P) (J := J) (t0 := t0) (Sc := Sc) (op := 1008) (q9evS ae0) (q9evZ w0) (q9evS ae1) (hX _ (List.mem_of_getElem? (i := 0) rfl)) (by decide)
  rw [q9FF_1008] at X0
  have H0 := Option.some.inj X0
  try simp only [kz, k21562476] at H0
  have L0 : (Int32.ofInt 21562476).toInt ≤ x1.toInt + 0 := q9pC (q9evC w0 21562476) (q9evS ae1) (hL _ (List.mem_of_getElem? (i := 0) rfl))
  have L1 : (0 : Int32).toInt ≤ x0.toInt + 0 := q9pC (q9evZ w0) (q9evS ae0) (hL _ (List.mem_of_getElem? (i := 1) rfl))
  have hw : q9wnI 18 = 21562475 := by decide +kernel
  have hn : q9wsI T N 18 x0.toInt = 0 := (q9ws_01 (T := T) (N := N) (t := 18) (i := x0.toInt)).elim (fun h => by have := (q9ws_wc (by decide)).mp h; omega) id
  have rg0 : (0 : Int) ≤ 0 ∧ (0 : Int) ≤ 0 := by omega
  obtain ⟨x2, nt2⟩ : ∃ x : Int32, x.toInt = 0 := ⟨Int32.ofInt (0), q9oI_toInt (by omega)⟩
  have u_ : q9upN w 3 [.int x2] 0 = .int 0 := q9upN_of (by decide) w0
  have u0 : q9upN w 3 [.int x2] 1 = .int x0 := q9upN_of (by decide) ae0
  have u1 : q9upN w 3 [.int x2] 2 = .int x1 := q9upN_of (by decide) ae1
  have u2 : q9upN w 3 [.int x2] 3 = .int x2 := q9upN_at (by decide)
  refine ⟨[.int x2], fun i9 p9 hq9 => ?_, fun _ h => absurd h List.not_mem_nil, fun _ h => absurd h List.not_mem_nil⟩
  · match i9, hq9 with
    | 0, hq9 =>
      have hp9 : ((1118, (1, 0), (0, 0), (0, 0, 0)) : Nat × q9AV × q9AV × q9ET) = p9 := Option.some.inj hq9
      subst hp9
      exact ⟨⟨x2, rfl, by rw [nt2]; exact rg0.1, by rw [nt2]; exact rg0.2⟩, (q9th_tX (T := T) (N := N) (P := P) (J := J) (t0 := t0) (Sc := Sc) (q9evS u0) (q9evZ u_) (q9evS u2) (by rw [q9FF_1118, nt2]; exact (show some (q9wsI T N 18 x0.toInt) = _ by rw [hn])) (by decide)).trans (congrArg some (q9evS u2))⟩
    | k9 + 1, hq9 => exact nomatch (show (none : Option (Nat × q9AV × q9AV × q9ET)) = some p9 from hq9)
theorem q9ru_wib18 (hT : ∀ i, 0 ≤ T i ∧ T i ≤ 255) (hN : 0 ≤ N ∧ N ≤ 400) (hSc : 0 ≤ Sc 1 ∧ Sc 1 ≤ 400 → N = Sc 1) : q9ruOK (fO T N P J t0 Sc) q9R_wib18 := by
  intro w w0 hA hX hL hV hR
  obtain ⟨x0, ae0, -, -⟩ := hA 0 0 rfl
  have kz : (0 : Int32).toInt = 0 := rfl
  have V0 := q9pV (T := T) (N := N) (P := P) (J := J) (t0 := t0) (Sc := Sc) (op := 1118) (n := 1) (q9evS ae0) (q9evZ w0) (hV _ (List.mem_of_getElem? (i := 0) rfl)) (by decide)
  rw [q9FF_1118] at V0
  have K0 := Option.some.inj V0
  try simp only [kz] at K0
  have L0 : (0 : Int32).toInt ≤ x0.toInt + 0 := q9pC (q9evZ w0) (q9evS ae0) (hL _ (List.mem_of_getElem? (i := 0) rfl))
  have hb := q9ws_b0 (t := 18) (by decide) K0
  have hb : q9byI T N x0.toInt = 116 := hb
  have rg0 : (116 : Int) ≤ 116 ∧ (116 : Int) ≤ 116 := by omega
  obtain ⟨x1, nt1⟩ : ∃ x : Int32, x.toInt = 116 := ⟨Int32.ofInt (116), q9oI_toInt (by omega)⟩
  have u_ : q9upN w 2 [.int x1] 0 = .int 0 := q9upN_of (by decide) w0
  have u0 : q9upN w 2 [.int x1] 1 = .int x0 := q9upN_of (by decide) ae0
  have u1 : q9upN w 2 [.int x1] 2 = .int x1 := q9upN_at (by decide)
  refine ⟨[.int x1], fun i9 p9 hq9 => ?_, fun _ h => absurd h List.not_mem_nil, fun _ h => absurd h List.not_mem_nil⟩
  · match i9, hq9 with
    | 0, hq9 =>
      have hp9 : ((1000, (1, 0), (0, 0), (0, 116, 116)) : Nat × q9AV × q9AV × q9ET) = p9 := Option.some.inj hq9
      subst hp9
      exact ⟨⟨x1, rfl, by rw [nt1]; exact rg0.1, by rw [nt1]; exact rg0.2⟩, (q9th_tX (T := T) (N := N) (P := P) (J := J) (t0 := t0) (Sc := Sc) (q9evS u0) (q9evZ u_) (q9evS u1) (by rw [q9FF_1000, nt1]; exact (by rw [hb])) (by decide)).trans (congrArg some (q9evS u1))⟩
    | k9 + 1, hq9 => exact nomatch (show (none : Option (Nat × q9AV × q9AV × q9ET)) = some p9 from hq9)
theorem q9ru_eOB (hT : ∀ i, 0 ≤ T i ∧ T i ≤ 255) (hN : 0 ≤ N ∧ N ≤ 400) (hSc : 0 ≤ Sc 1 ∧ Sc 1 ≤ 400 → N = Sc 1) : q9ruOK (fO T N P J t0 Sc) q9R_eOB := by
  intro w w0 hA hX hL hV hR
  obtain ⟨x0, ae0, -, -⟩ := hA 0 0 rfl
  have kz : (0 : Int32).toInt = 0 := rfl
  have k400 : (Int32.ofInt 400).toInt = 400 := q9oI_toInt (by decide)
  have L0 : (0 : Int32).toInt ≤ x0.toInt + 0 := q9pC (q9evZ w0) (q9evS ae0) (hL _ (List.mem_of_getElem? (i := 0) rfl))
  have L1 : x0.toInt ≤ (Int32.ofInt 400).toInt + 0 := q9pC (q9evS ae0) (q9evC w0 400) (hL _ (List.mem_of_getElem? (i := 1) rfl))
  have b1 := q9byI_rng (T := T) (N := N) hT (i := x0.toInt)
  have rg0 : ((-1) : Int) ≤ q9byI T N x0.toInt ∧ (q9byI T N x0.toInt : Int) ≤ 255 := b1
  obtain ⟨x1, nt1⟩ : ∃ x : Int32, x.toInt = q9byI T N x0.toInt := ⟨Int32.ofInt (q9byI T N x0.toInt), q9oI_toInt (by omega)⟩
  have u_ : q9upN w 2 [.int x1] 0 = .int 0 := q9upN_of (by decide) w0
  have u0 : q9upN w 2 [.int x1] 1 = .int x0 := q9upN_of (by decide) ae0
  have u1 : q9upN w 2 [.int x1] 2 = .int x1 := q9upN_at (by decide)
  refine ⟨[.int x1], fun i9 p9 hq9 => ?_, fun _ h => absurd h List.not_mem_nil, fun _ h => absurd h List.not_mem_nil⟩
  · match i9, hq9 with
    | 0, hq9 =>
      have hp9 : ((1000, (1, 0), (0, 0), (0, (-1), 255)) : Nat × q9AV × q9AV × q9ET) = p9 := Option.some.inj hq9
      subst hp9
      exact ⟨⟨x1, rfl, by rw [nt1]; exact rg0.1, by rw [nt1]; exact rg0.2⟩, (q9th_tX (T := T) (N := N) (P := P) (J := J) (t0 := t0) (Sc := Sc) (q9evS u0) (q9evZ u_) (q9evS u1) (by rw [q9FF_1000, nt1]; first | done | exact rfl) (by decide)).trans (congrArg some (q9evS u1))⟩
    | k9 + 1, hq9 => exact nomatch (show (none : Option (Nat × q9AV × q9AV × q9ET)) = some p9 from hq9)
theorem q9ru_isn (hT : ∀ i, 0 ≤ T i ∧ T i ≤ 255) (hN : 0 ≤ N ∧ N ≤ 400) (hSc : 0 ≤ Sc 1 ∧ Sc 1 ≤ 400 → N = Sc 1) : q9ruOK (fO T N P J t0 Sc) q9R_isn := by
  intro w w0 hA hX hL hV hR
  obtain ⟨x0, ae0, -, -⟩ := hA 0 0 rfl
  obtain ⟨x1, ae1, -, -⟩ := hA 1 0 rfl
  obtain ⟨x2, ae2, -, -⟩ := hA 2 0 rfl
  have kz : (0 : Int32).toInt = 0 := rfl
  have k93 : (Int32.ofInt 93).toInt = 93 := q9oI_toInt (by decide)
  have k97 : (Int32.ofInt 97).toInt = 97 := q9oI_toInt (by decide)
  have X0 := q9th_pX (T := T) (N := N) (P := P) (J := J) (t0 := t0) (Sc := Sc) (op := 1000) (q9evS ae0) (q9evZ w0) (q9evS ae1) (hX _ (List.mem_of_getElem? (i := 0) rfl)) (by decide)
  rw [q9FF_1000] at X0
  have H0 := Option.some.inj X0
  try simp only [kz, k93, k97] at H0
  have L0 : (Int32.ofInt 97).toInt ≤ x1.toInt + 0 := q9pC (q9evC w0 97) (q9evS ae1) (hL _ (List.mem_of_getElem? (i := 0) rfl))
  have L1 : x2.toInt ≤ (Int32.ofInt 93).toInt + 0 := q9pC (q9evS ae2) (q9evC w0 93) (hL _ (List.mem_of_getElem? (i := 1) rfl))
  have rg0 : (0 : Int) ≤ 0 ∧ (0 : Int) ≤ 0 := by omega
  obtain ⟨x3, nt3⟩ : ∃ x : Int32, x.toInt = 0 := ⟨Int32.ofInt (0), q9oI_toInt (by omega)⟩
  have u_ : q9upN w 4 [.int x3] 0 = .int 0 := q9upN_of (by decide) w0
  have u0 : q9upN w 4 [.int x3] 1 = .int x0 := q9upN_of (by decide) ae0
  have u1 : q9upN w 4 [.int x3] 2 = .int x1 := q9upN_of (by decide) ae1
  have u2 : q9upN w 4 [.int x3] 3 = .int x2 := q9upN_of (by decide) ae2
  have u3 : q9upN w 4 [.int x3] 4 = .int x3 := q9upN_at (by decide)
  refine ⟨[.int x3], fun i9 p9 hq9 => ?_, fun _ h => absurd h List.not_mem_nil, fun _ h => absurd h List.not_mem_nil⟩
  · match i9, hq9 with
    | 0, hq9 =>
      have hp9 : ((1009, (1, 0), (3, 0), (0, 0, 0)) : Nat × q9AV × q9AV × q9ET) = p9 := Option.some.inj hq9
      subst hp9
      exact ⟨⟨x3, rfl, by rw [nt3]; exact rg0.1, by rw [nt3]; exact rg0.2⟩, (q9th_tX (T := T) (N := N) (P := P) (J := J) (t0 := t0) (Sc := Sc) (q9evS u0) (q9evS u2) (q9evS u3) (by rw [q9FF_1009, nt3]; exact (by rw [if_neg (by omega)])) (by decide)).trans (congrArg some (q9evS u3))⟩
    | k9 + 1, hq9 => exact nomatch (show (none : Option (Nat × q9AV × q9AV × q9ET)) = some p9 from hq9)
theorem q9ru_df0 (hT : ∀ i, 0 ≤ T i ∧ T i ≤ 255) (hN : 0 ≤ N ∧ N ≤ 400) (hSc : 0 ≤ Sc 1 ∧ Sc 1 ≤ 400 → N = Sc 1) : q9ruOK (fO T N P J t0 Sc) q9R_df0 := by
  intro w w0 hA hX hL hV hR
  obtain ⟨x0, ae0, -, -⟩ := hA 0 0 rfl
  obtain ⟨x1, ae1, -, -⟩ := hA 1 0 rfl
  have kz : (0 : Int32).toInt = 0 := rfl
  have k401 : (Int32.ofInt 401).toInt = 401 := q9oI_toInt (by decide)
  have L0 : (0 : Int32).toInt ≤ x0.toInt + 0 := q9pC (q9evZ w0) (q9evS ae0) (hL _ (List.mem_of_getElem? (i := 0) rfl))
  have L1 : x0.toInt ≤ (Int32.ofInt 401).toInt + 0 := q9pC (q9evS ae0) (q9evC w0 401) (hL _ (List.mem_of_getElem? (i := 1) rfl))
  have L2 : (0 : Int32).toInt ≤ x1.toInt + 0 := q9pC (q9evZ w0) (q9evS ae1) (hL _ (List.mem_of_getElem? (i := 2) rfl))
  have L3 : x1.toInt ≤ (Int32.ofInt 401).toInt + 0 := q9pC (q9evS ae1) (q9evC w0 401) (hL _ (List.mem_of_getElem? (i := 3) rfl))
  have rg0 : ((-401) : Int) ≤ (x0.toInt - x1.toInt) ∧ ((x0.toInt - x1.toInt) : Int) ≤ 401 := by omega
  obtain ⟨x2, nt2⟩ : ∃ x : Int32, x.toInt = (x0.toInt - x1.toInt) := ⟨Int32.ofInt ((x0.toInt - x1.toInt)), q9oI_toInt (by omega)⟩
  have u_ : q9upN w 3 [.int x2] 0 = .int 0 := q9upN_of (by decide) w0
  have u0 : q9upN w 3 [.int x2] 1 = .int x0 := q9upN_of (by decide) ae0
  have u1 : q9upN w 3 [.int x2] 2 = .int x1 := q9upN_of (by decide) ae1
  have u2 : q9upN w 3 [.int x2] 3 = .int x2 := q9upN_at (by decide)
  refine ⟨[.int x2], fun i9 p9 hq9 => ?_, fun _ h => absurd h List.not_mem_nil, fun _ h => absurd h List.not_mem_nil⟩
  · match i9, hq9 with
    | 0, hq9 =>
      have hp9 : ((1, (1, 0), (2, 0), (0, (-401), 401)) : Nat × q9AV × q9AV × q9ET) = p9 := Option.some.inj hq9
      subst hp9
      exact ⟨⟨x2, rfl, by rw [nt2]; exact rg0.1, by rw [nt2]; exact rg0.2⟩, (q9tB (T := T) (N := N) (P := P) (J := J) (t0 := t0) (Sc := Sc) (q9evS u0) (q9evS u1) (q9evS u2) (q9su32t (by omega))).trans (congrArg some (q9evS u2))⟩
    | k9 + 1, hq9 => exact nomatch (show (none : Option (Nat × q9AV × q9AV × q9ET)) = some p9 from hq9)
theorem q9ru_dfs (hT : ∀ i, 0 ≤ T i ∧ T i ≤ 255) (hN : 0 ≤ N ∧ N ≤ 400) (hSc : 0 ≤ Sc 1 ∧ Sc 1 ≤ 400 → N = Sc 1) : q9ruOK (fO T N P J t0 Sc) q9R_dfs := by
  intro w w0 hA hX hL hV hR
  obtain ⟨x0, ae0, -, -⟩ := hA 0 0 rfl
  obtain ⟨x1, ae1, -, -⟩ := hA 1 0 rfl
  obtain ⟨x2, ae2, -, -⟩ := hA 2 0 rfl
  have kz : (0 : Int32).toInt = 0 := rfl
  have k401 : (Int32.ofInt 401).toInt = 401 := q9oI_toInt (by decide)
  have L0 : (0 : Int32).toInt ≤ x0.toInt + 0 := q9pC (q9evZ w0) (q9evS ae0) (hL _ (List.mem_of_getElem? (i := 0) rfl))
  have L1 : x0.toInt ≤ (Int32.ofInt 401).toInt + 0 := q9pC (q9evS ae0) (q9evC w0 401) (hL _ (List.mem_of_getElem? (i := 1) rfl))
  have L2 : (0 : Int32).toInt ≤ x1.toInt + 0 := q9pC (q9evZ w0) (q9evS ae1) (hL _ (List.mem_of_getElem? (i := 2) rfl))
  have L3 : x1.toInt ≤ (Int32.ofInt 401).toInt + 0 := q9pC (q9evS ae1) (q9evC w0 401) (hL _ (List.mem_of_getElem? (i := 3) rfl))
  have X0 := q9pB (T := T) (N := N) (P := P) (J := J) (t0 := t0) (Sc := Sc) (q9evS ae0) (q9evS ae1) (q9evS ae2) (hX _ (List.mem_of_getElem? (i := 0) rfl))
  have d0 : x0 - x1 = x2 := Value.int.inj (Option.some.inj (X0 : some (Value.int (x0 - x1)) = some (.int x2)))
  have u_ : q9upN w 4 [] 0 = .int 0 := q9upN_of (by decide) w0
  have u0 : q9upN w 4 [] 1 = .int x0 := q9upN_of (by decide) ae0
  have u1 : q9upN w 4 [] 2 = .int x1 := q9upN_of (by decide) ae1
  have u2 : q9upN w 4 [] 3 = .int x2 := q9upN_of (by decide) ae2
  refine ⟨[], fun i9 p9 hq9 => ?_, List.forall_mem_cons.mpr ⟨?_, fun _ h => absurd h List.not_mem_nil⟩, fun _ h => absurd h List.not_mem_nil⟩
  · exact nomatch (show (none : Option (Nat × q9AV × q9AV × q9ET)) = some p9 from hq9)
  · exact q9tB (T := T) (N := N) (P := P) (J := J) (t0 := t0) (Sc := Sc) (q9evO u0 1) (q9evO u1 1) (q9evS u2) (show some (Value.int ((x0 + Int32.ofInt 1) - (x1 + Int32.ofInt 1))) = _ by rw [q9sub_11, d0])
theorem q9ru_dfe (hT : ∀ i, 0 ≤ T i ∧ T i ≤ 255) (hN : 0 ≤ N ∧ N ≤ 400) (hSc : 0 ≤ Sc 1 ∧ Sc 1 ≤ 400 → N = Sc 1) : q9ruOK (fO T N P J t0 Sc) q9R_dfe := by
  intro w w0 hA hX hL hV hR
  obtain ⟨x0, ae0, -, -⟩ := hA 0 0 rfl
  obtain ⟨x1, ae1, -, -⟩ := hA 1 0 rfl
  obtain ⟨x2, ae2, -, -⟩ := hA 2 0 rfl
  obtain ⟨x3, ae3, -, -⟩ := hA 3 0 rfl
  obtain ⟨x4, ae4, -, -⟩ := hA 4 0 rfl
  obtain ⟨x5, ae5, -, -⟩ := hA 5 0 rfl
  have kz : (0 : Int32).toInt = 0 := rfl
  have k401 : (Int32.ofInt 401).toInt = 401 := q9oI_toInt (by decide)
  have L0 : (0 : Int32).toInt ≤ x0.toInt + 0 := q9pC (q9evZ w0) (q9evS ae0) (hL _ (List.mem_of_getElem? (i := 0) rfl))
  have L1 : x0.toInt ≤ (Int32.ofInt 401).toInt + 0 := q9pC (q9evS ae0) (q9evC w0 401) (hL _ (List.mem_of_getElem? (i := 1) rfl))
  have L2 : (0 : Int32).toInt ≤ x1.toInt + 0 := q9pC (q9evZ w0) (q9evS ae1) (hL _ (List.mem_of_getElem? (i := 2) rfl))
  have L3 : x1.toInt ≤ (Int32.ofInt 401).toInt + 0 := q9pC (q9evS ae1) (q9evC w0 401) (hL _ (List.mem_of_getElem? (i := 3) rfl))
  have L4 : (0 : Int32).toInt ≤ x2.toInt + 0 := q9pC (q9evZ w0) (q9evS ae2) (hL _ (List.mem_of_getElem? (i := 4) rfl))
  have L5 : x2.toInt ≤ (Int32.ofInt 401).toInt + 0 := q9pC (q9evS ae2) (q9evC w0 401) (hL _ (List.mem_of_getElem? (i := 5) rfl))
  have L6 : (0 : Int32).toInt ≤ x3.toInt + 0 := q9pC (q9evZ w0) (q9evS ae3) (hL _ (List.mem_of_getElem? (i := 6) rfl))
  have L7 : x3.toInt ≤ (Int32.ofInt 401).toInt + 0 := q9pC (q9evS ae3) (q9evC w0 401) (hL _ (List.mem_of_getElem? (i := 7) rfl))
  have X0 := q9pB (T := T) (N := N) (P := P) (J := J) (t0 := t0) (Sc := Sc) (q9evS ae0) (q9evS ae1) (q9evS ae4) (hX _ (List.mem_of_getElem? (i := 0) rfl))
  have X1 := q9pB (T := T) (N := N) (P := P) (J := J) (t0 := t0) (Sc := Sc) (q9evS ae2) (q9evS ae3) (q9evS ae4) (hX _ (List.mem_of_getElem? (i := 1) rfl))
  have X2 := q9pB (T := T) (N := N) (P := P) (J := J) (t0 := t0) (Sc := Sc) (q9evS ae3) (q9evS ae1) (q9evS ae5) (hX _ (List.mem_of_getElem? (i := 2) rfl))
  have d1 := q9su32 X0 (by omega)
  have d2 := q9su32 X1 (by omega)
  have d3 := q9su32 X2 (by omega)
  have u_ : q9upN w 7 [] 0 = .int 0 := q9upN_of (by decide) w0
  have u0 : q9upN w 7 [] 1 = .int x0 := q9upN_of (by decide) ae0
  have u1 : q9upN w 7 [] 2 = .int x1 := q9upN_of (by decide) ae1
  have u2 : q9upN w 7 [] 3 = .int x2 := q9upN_of (by decide) ae2
  have u3 : q9upN w 7 [] 4 = .int x3 := q9upN_of (by decide) ae3
  have u4 : q9upN w 7 [] 5 = .int x4 := q9upN_of (by decide) ae4
  have u5 : q9upN w 7 [] 6 = .int x5 := q9upN_of (by decide) ae5
  refine ⟨[], fun i9 p9 hq9 => ?_, List.forall_mem_cons.mpr ⟨?_, fun _ h => absurd h List.not_mem_nil⟩, fun _ h => absurd h List.not_mem_nil⟩
  · exact nomatch (show (none : Option (Nat × q9AV × q9AV × q9ET)) = some p9 from hq9)
  · exact q9tB (T := T) (N := N) (P := P) (J := J) (t0 := t0) (Sc := Sc) (q9evS u2) (q9evS u0) (q9evS u5) (q9su32t (by omega))
theorem q9ru_eWC (hT : ∀ i, 0 ≤ T i ∧ T i ≤ 255) (hN : 0 ≤ N ∧ N ≤ 400) (hSc : 0 ≤ Sc 1 ∧ Sc 1 ≤ 400 → N = Sc 1) : q9ruOK (fO T N P J t0 Sc) q9R_eWC := by
  intro w w0 hA hX hL hV hR
  obtain ⟨x0, ae0, -, -⟩ := hA 0 0 rfl
  have kz : (0 : Int32).toInt = 0 := rfl
  have k400 : (Int32.ofInt 400).toInt = 400 := q9oI_toInt (by decide)
  have L0 : (0 : Int32).toInt ≤ x0.toInt + 0 := q9pC (q9evZ w0) (q9evS ae0) (hL _ (List.mem_of_getElem? (i := 0) rfl))
  have L1 : x0.toInt ≤ (Int32.ofInt 400).toInt + 0 := q9pC (q9evS ae0) (q9evC w0 400) (hL _ (List.mem_of_getElem? (i := 1) rfl))
  have b1 : -2147483648 ≤ q9wcI T N x0.toInt ∧ q9wcI T N x0.toInt ≤ 2147483647 := by unfold q9wcI; split; exact ⟨Int32.le_toInt _, by have := Int32.toInt_lt (q9vrI T N x0.toInt 0); omega⟩; omega
  have rg0 : ((-2147483648) : Int) ≤ q9wcI T N x0.toInt ∧ (q9wcI T N x0.toInt : Int) ≤ 2147483647 := b1
  obtain ⟨x1, nt1⟩ : ∃ x : Int32, x.toInt = q9wcI T N x0.toInt := ⟨Int32.ofInt (q9wcI T N x0.toInt), q9oI_toInt (by omega)⟩
  have u_ : q9upN w 2 [.int x1] 0 = .int 0 := q9upN_of (by decide) w0
  have u0 : q9upN w 2 [.int x1] 1 = .int x0 := q9upN_of (by decide) ae0
  have u1 : q9upN w 2 [.int x1] 2 = .int x1 := q9upN_at (by decide)
  refine ⟨[.int x1], fun i9 p9 hq9 => ?_, fun _ h => absurd h List.not_mem_nil, fun _ h => absurd h List.not_mem_nil⟩
  · match i9, hq9 with
    | 0, hq9 =>
      have hp9 : ((1008, (1, 0), (0, 0), (0, (-2147483648), 2147483647)) : Nat × q9AV × q9AV × q9ET) = p9 := Option.some.inj hq9
      subst hp9
      exact ⟨⟨x1, rfl, by rw [nt1]; exact rg0.1, by rw [nt1]; exact rg0.2⟩, (q9th_tX (T := T) (N := N) (P := P) (J := J) (t0 := t0) (Sc := Sc) (q9evS u0) (q9evZ u_) (q9evS u1) (by rw [q9FF_1008, nt1]; first | done | exact rfl) (by decide)).trans (congrArg some (q9evS u1))⟩
    | k9 + 1, hq9 => exact nomatch (show (none : Option (Nat × q9AV × q9AV × q9ET)) = some p9 from hq9)
theorem q9ru_mi1n (hT : ∀ i, 0 ≤ T i ∧ T i ≤ 255) (hN : 0 ≤ N ∧ N ≤ 400) (hSc : 0 ≤ Sc 1 ∧ Sc 1 ≤ 400 → N = Sc 1) : q9ruOK (fO T N P J t0 Sc) q9R_mi1n := by
  intro w w0 hA hX hL hV hR
  obtain ⟨x0, ae0, -, -⟩ := hA 0 0 rfl
  obtain ⟨x1, ae1, -, -⟩ := hA 1 0 rfl
  obtain ⟨x2, ae2, -, -⟩ := hA 2 0 rfl
  have kz : (0 : Int32).toInt = 0 := rfl
  have k1 : (Int32.ofInt 1).toInt = 1 := q9oI_toInt (by decide)
  have k45 : (Int32.ofInt 45).toInt = 45 := q9oI_toInt (by decide)
  have k400 : (Int32.ofInt 400).toInt = 400 := q9oI_toInt (by decide)
  have X0 := q9th_pX (T := T) (N := N) (P := P) (J := J) (t0 := t0) (Sc := Sc) (op := 1002) (q9evS ae0) (q9evZ w0) (q9evS ae1) (hX _ (List.mem_of_getElem? (i := 0) rfl)) (by decide)
  rw [q9FF_1002] at X0
  have H0 := Option.some.inj X0
  try simp only [kz, k1, k45, k400] at H0
  have X1 := q9th_pX (T := T) (N := N) (P := P) (J := J) (t0 := t0) (Sc := Sc) (op := 1009) (q9evS ae1) (q9evC w0 45) (q9evS ae2) (hX _ (List.mem_of_getElem? (i := 1) rfl)) (by decide)
  rw [q9FF_1009] at X1
  have H1 := Option.some.inj X1
  try simp only [kz, k1, k45, k400] at H1
  have L0 : (Int32.ofInt 1).toInt ≤ x2.toInt + 0 := q9pC (q9evC w0 1) (q9evS ae2) (hL _ (List.mem_of_getElem? (i := 0) rfl))
  have L1 : (0 : Int32).toInt ≤ x0.toInt + 0 := q9pC (q9evZ w0) (q9evS ae0) (hL _ (List.mem_of_getElem? (i := 1) rfl))
  have L2 : x0.toInt ≤ (Int32.ofInt 400).toInt + 0 := q9pC (q9evS ae0) (q9evC w0 400) (hL _ (List.mem_of_getElem? (i := 2) rfl))
  have hb := q9is_1 H1 (by omega)
  have bl := q9byI_lt (T := T) (N := N) (i := x1.toInt) (by omega)
  have tk : q9tk14 T N x0.toInt = (0, x1.toInt + 1) := by unfold q9tk14; rw [H0, if_pos hb]
  have rg0 : (0 : Int) ≤ 0 ∧ (0 : Int) ≤ 0 := by omega
  obtain ⟨x3, nt3⟩ : ∃ x : Int32, x.toInt = 0 := ⟨Int32.ofInt (0), q9oI_toInt (by omega)⟩
  have rg1 : (0 : Int) ≤ (x1.toInt + 1) ∧ ((x1.toInt + 1) : Int) ≤ 401 := by omega
  obtain ⟨x4, nt4⟩ : ∃ x : Int32, x.toInt = (x1.toInt + 1) := ⟨Int32.ofInt ((x1.toInt + 1)), q9oI_toInt (by omega)⟩
  have u_ : q9upN w 4 [.int x3, .int x4] 0 = .int 0 := q9upN_of (by decide) w0
  have u0 : q9upN w 4 [.int x3, .int x4] 1 = .int x0 := q9upN_of (by decide) ae0
  have u1 : q9upN w 4 [.int x3, .int x4] 2 = .int x1 := q9upN_of (by decide) ae1
  have u2 : q9upN w 4 [.int x3, .int x4] 3 = .int x2 := q9upN_of (by decide) ae2
  have u3 : q9upN w 4 [.int x3, .int x4] 4 = .int x3 := q9upN_at (by decide)
  have u4 : q9upN w 4 [.int x3, .int x4] 5 = .int x4 := q9upN_at (by decide)
  refine ⟨[.int x3, .int x4], fun i9 p9 hq9 => ?_, fun _ h => absurd h List.not_mem_nil, List.forall_mem_cons.mpr ⟨?_, List.forall_mem_cons.mpr ⟨?_, fun _ h => absurd h List.not_mem_nil⟩⟩⟩
  · match i9, hq9 with
    | 0, hq9 =>
      have hp9 : ((1228, (1, 0), (0, 0), (0, 0, 0)) : Nat × q9AV × q9AV × q9ET) = p9 := Option.some.inj hq9
      subst hp9
      exact ⟨⟨x3, rfl, by rw [nt3]; exact rg0.1, by rw [nt3]; exact rg0.2⟩, (q9th_tX (T := T) (N := N) (P := P) (J := J) (t0 := t0) (Sc := Sc) (q9evS u0) (q9evZ u_) (q9evS u3) (by rw [q9FF_1228, nt3]; exact (show some (q9tk14 T N x0.toInt).1 = _ by rw [tk])) (by decide)).trans (congrArg some (q9evS u3))⟩
    | 1, hq9 =>
      have hp9 : ((1229, (1, 0), (0, 0), (0, 0, 401)) : Nat × q9AV × q9AV × q9ET) = p9 := Option.some.inj hq9
      subst hp9
      exact ⟨⟨x4, rfl, by rw [nt4]; exact rg1.1, by rw [nt4]; exact rg1.2⟩, (q9th_tX (T := T) (N := N) (P := P) (J := J) (t0 := t0) (Sc := Sc) (q9evS u0) (q9evZ u_) (q9evS u4) (by rw [q9FF_1229, nt4]; exact (show some (q9tk14 T N x0.toInt).2 = _ by rw [tk])) (by decide)).trans (congrArg some (q9evS u4))⟩
    | k9 + 2, hq9 => exact nomatch (show (none : Option (Nat × q9AV × q9AV × q9ET)) = some p9 from hq9)
  · exact q9th_tC (d := 1) (q9evS u4) (q9evS u1) (by omega)
  · exact q9th_tC (d := (-1)) (q9evS u1) (q9evS u4) (by omega)
theorem q9ru_fs0 (hT : ∀ i, 0 ≤ T i ∧ T i ≤ 255) (hN : 0 ≤ N ∧ N ≤ 400) (hSc : 0 ≤ Sc 1 ∧ Sc 1 ≤ 400 → N = Sc 1) : q9ruOK (fO T N P J t0 Sc) q9R_fs0 := by
  intro w w0 hA hX hL hV hR
  obtain ⟨x0, ae0, -, -⟩ := hA 0 0 rfl
  obtain ⟨x1, ae1, -, -⟩ := hA 1 1 rfl
  have kz : (0 : Int32).toInt = 0 := rfl
  obtain ⟨y0, ye0, R0, S0⟩ := hR _ (List.mem_of_getElem? (i := 0) rfl)
  have L0 : (0 : Int32).toInt ≤ x0.toInt + 0 := q9pC (q9evZ w0) (q9evS ae0) (hL _ (List.mem_of_getElem? (i := 0) rfl))
  rw [ae1] at ye0
  cases ye0
  have z1 : x1 = 0 := Int64.toInt_inj.mp (by have a1 : 0 ≤ x1.toInt := R0; have a2 : x1.toInt ≤ 0 := S0; rw [show (0 : Int64).toInt = 0 from rfl]; omega)
  have u_ : q9upN w 3 [] 0 = .int 0 := q9upN_of (by decide) w0
  have u0 : q9upN w 3 [] 1 = .int x0 := q9upN_of (by decide) ae0
  have u1 : q9upN w 3 [] 2 = .long x1 := q9upN_of (by decide) ae1
  refine ⟨[], fun i9 p9 hq9 => ?_, List.forall_mem_cons.mpr ⟨?_, fun _ h => absurd h List.not_mem_nil⟩, fun _ h => absurd h List.not_mem_nil⟩
  · exact nomatch (show (none : Option (Nat × q9AV × q9AV × q9ET)) = some p9 from hq9)
  · exact q9th_tL (T := T) (N := N) (P := P) (J := J) (t0 := t0) (Sc := Sc) (q9evS u0) (q9evS u0) (q9evS u1) (by rw [q9FL_1053]; exact (by rw [← q9FL_1053 (b := x0.toInt)]; exact q9G_fs hN.1 (n := 1) (d := 0) (by rw [z1]; exact q9hs_nil))) (by decide)
theorem q9ru_ds0 (hT : ∀ i, 0 ≤ T i ∧ T i ≤ 255) (hN : 0 ≤ N ∧ N ≤ 400) (hSc : 0 ≤ Sc 1 ∧ Sc 1 ≤ 400 → N = Sc 1) : q9ruOK (fO T N P J t0 Sc) q9R_ds0 := by
  intro w w0 hA hX hL hV hR
  obtain ⟨x0, ae0, -, -⟩ := hA 0 0 rfl
  obtain ⟨x1, ae1, -, -⟩ := hA 1 1 rfl
  have kz : (0 : Int32).toInt = 0 := rfl
  obtain ⟨y0, ye0, R0, S0⟩ := hR _ (List.mem_of_getElem? (i := 0) rfl)
  have L0 : (0 : Int32).toInt ≤ x0.toInt + 0 := q9pC (q9evZ w0) (q9evS ae0) (hL _ (List.mem_of_getElem? (i := 0) rfl))
  rw [ae1] at ye0
  cases ye0
  have z1 : x1 = 0 := Int64.toInt_inj.mp (by have a1 : 0 ≤ x1.toInt := R0; have a2 : x1.toInt ≤ 0 := S0; rw [show (0 : Int64).toInt = 0 from rfl]; omega)
  have u_ : q9upN w 3 [] 0 = .int 0 := q9upN_of (by decide) w0
  have u0 : q9upN w 3 [] 1 = .int x0 := q9upN_of (by decide) ae0
  have u1 : q9upN w 3 [] 2 = .long x1 := q9upN_of (by decide) ae1
  refine ⟨[], fun i9 p9 hq9 => ?_, List.forall_mem_cons.mpr ⟨?_, fun _ h => absurd h List.not_mem_nil⟩, fun _ h => absurd h List.not_mem_nil⟩
  · exact nomatch (show (none : Option (Nat × q9AV × q9AV × q9ET)) = some p9 from hq9)
  · exact q9th_tL (T := T) (N := N) (P := P) (J := J) (t0 := t0) (Sc := Sc) (q9evS u0) (q9evS u0) (q9evS u1) (by rw [q9FL_1054]; exact (by rw [← q9FL_1054 (b := x0.toInt)]; exact q9G_ds hN.1 (n := 1) (f := 0) (by rw [z1]; exact q9hs_nil))) (by decide)
theorem q9ru_ds1 (hT : ∀ i, 0 ≤ T i ∧ T i ≤ 255) (hN : 0 ≤ N ∧ N ≤ 400) (hSc : 0 ≤ Sc 1 ∧ Sc 1 ≤ 400 → N = Sc 1) : q9ruOK (fO T N P J t0 Sc) q9R_ds1 := by
  intro w w0 hA hX hL hV hR
  obtain ⟨x0, ae0, -, -⟩ := hA 0 0 rfl
  obtain ⟨x1, ae1, -, -⟩ := hA 1 0 rfl
  obtain ⟨x2, ae2, -, -⟩ := hA 2 1 rfl
  obtain ⟨x3, ae3, -, -⟩ := hA 3 1 rfl
  have kz : (0 : Int32).toInt = 0 := rfl
  have X0 := q9pL (T := T) (N := N) (P := P) (J := J) (t0 := t0) (Sc := Sc) (op := 1054) (q9evS ae0) (q9evS ae1) (q9evS ae2) (hX _ (List.mem_of_getElem? (i := 0) rfl)) (by decide)
  rw [q9FL_1054] at X0
  have H0 := q9chV_of X0
  try simp only [kz] at H0
  obtain ⟨y0, ye0, R0, S0⟩ := hR _ (List.mem_of_getElem? (i := 0) rfl)
  rw [ae3] at ye0
  cases ye0
  have z3 : x3 = 1 := Int64.toInt_inj.mp (by have a1 : 1 ≤ x3.toInt := R0; have a2 : x3.toInt ≤ 1 := S0; rw [show (1 : Int64).toInt = 1 from rfl]; omega)
  obtain ⟨n, f, h1⟩ := H0
  have u_ : q9upN w 5 [.long (x2 + x3)] 0 = .int 0 := q9upN_of (by decide) w0
  have u0 : q9upN w 5 [.long (x2 + x3)] 1 = .int x0 := q9upN_of (by decide) ae0
  have u1 : q9upN w 5 [.long (x2 + x3)] 2 = .int x1 := q9upN_of (by decide) ae1
  have u2 : q9upN w 5 [.long (x2 + x3)] 3 = .long x2 := q9upN_of (by decide) ae2
  have u3 : q9upN w 5 [.long (x2 + x3)] 4 = .long x3 := q9upN_of (by decide) ae3
  have u4 : q9upN w 5 [.long (x2 + x3)] 5 = .long (x2 + x3) := q9upN_at (by decide)
  refine ⟨[.long (x2 + x3)], fun i9 p9 hq9 => ?_, List.forall_mem_cons.mpr ⟨?_, fun _ h => absurd h List.not_mem_nil⟩, fun _ h => absurd h List.not_mem_nil⟩
  · match i9, hq9 with
    | 0, hq9 =>
      have hp9 : ((1057, (1, 0), (2, 0), (1, (-9223372036854775808), 9223372036854775807)) : Nat × q9AV × q9AV × q9ET) = p9 := Option.some.inj hq9
      subst hp9
      exact ⟨⟨_, rfl, by have h9 := Int64.le_toInt (x2 + x3); show -9223372036854775808 ≤ _; omega, by have h9 := Int64.toInt_lt (x2 + x3); show _ ≤ 9223372036854775807; omega⟩, (q9th_tL (T := T) (N := N) (P := P) (J := J) (t0 := t0) (Sc := Sc) (q9evS u0) (q9evS u1) (q9evS u4) (by rw [q9FL_1057]; exact (by rw [← q9FL_1057 (b := x1.toInt)]; exact q9G_ds1 hN.1 h1 (by rw [z3]))) (by decide)).trans (congrArg some (q9evS u4))⟩
    | k9 + 1, hq9 => exact nomatch (show (none : Option (Nat × q9AV × q9AV × q9ET)) = some p9 from hq9)
  · exact q9tB (T := T) (N := N) (P := P) (J := J) (t0 := t0) (Sc := Sc) (q9evS u2) (q9evS u3) (q9evS u4) rfl
theorem q9ru_fsA0 (hT : ∀ i, 0 ≤ T i ∧ T i ≤ 255) (hN : 0 ≤ N ∧ N ≤ 400) (hSc : 0 ≤ Sc 1 ∧ Sc 1 ≤ 400 → N = Sc 1) : q9ruOK (fO T N P J t0 Sc) q9R_fsA0 := by
  intro w w0 hA hX hL hV hR
  obtain ⟨x0, ae0, -, -⟩ := hA 0 0 rfl
  obtain ⟨x1, ae1, -, -⟩ := hA 1 0 rfl
  obtain ⟨x2, ae2, -, -⟩ := hA 2 0 rfl
  obtain ⟨x3, ae3, -, -⟩ := hA 3 1 rfl
  obtain ⟨x4, ae4, -, -⟩ := hA 4 1 rfl
  obtain ⟨x5, ae5, -, -⟩ := hA 5 0 rfl
  obtain ⟨x6, ae6, -, -⟩ := hA 6 1 rfl
  obtain ⟨x7, ae7, -, -⟩ := hA 7 1 rfl
  have kz : (0 : Int32).toInt = 0 := rfl
  have X0 := q9pL (T := T) (N := N) (P := P) (J := J) (t0 := t0) (Sc := Sc) (op := 1053) (q9evS ae0) (q9evS ae1) (q9evS ae3) (hX _ (List.mem_of_getElem? (i := 0) rfl)) (by decide)
  rw [q9FL_1053] at X0
  have H0 := q9chV_of X0
  try simp only [kz] at H0
  have X1 := q9pL (T := T) (N := N) (P := P) (J := J) (t0 := t0) (Sc := Sc) (op := 1057) (q9evS ae0) (q9evS ae1) (q9evS ae4) (hX _ (List.mem_of_getElem? (i := 1) rfl)) (by decide)
  rw [q9FL_1057] at X1
  have H1 := q9chV_of X1
  try simp only [kz] at H1
  have X2 := q9th_pX (T := T) (N := N) (P := P) (J := J) (t0 := t0) (Sc := Sc) (op := 1052) (q9evS ae1) (q9evZ w0) (q9evS ae2) (hX _ (List.mem_of_getElem? (i := 2) rfl)) (by decide)
  rw [q9FF_1052] at X2
  have H2 := q9chV_of X2
  try simp only [kz] at H2
  have L0 : x1.toInt ≤ x2.toInt + (-1) := q9pC (q9evS ae1) (q9evS ae2) (hL _ (List.mem_of_getElem? (i := 0) rfl))
  have L1 : (0 : Int32).toInt ≤ x1.toInt + 0 := q9pC (q9evZ w0) (q9evS ae1) (hL _ (List.mem_of_getElem? (i := 1) rfl))
  have V0 := q9pV (T := T) (N := N) (P := P) (J := J) (t0 := t0) (Sc := Sc) (op := 1050) (n := 0) (q9evS ae1) (q9evZ w0) (hV _ (List.mem_of_getElem? (i := 0) rfl)) (by decide)
  rw [q9FF_1050] at V0
  have K0 := q9chV_of V0
  try simp only [kz] at K0
  have X3 := q9th_pX (T := T) (N := N) (P := P) (J := J) (t0 := t0) (Sc := Sc) (op := 1051) (q9evS ae1) (q9evZ w0) (q9evS ae5) (hX _ (List.mem_of_getElem? (i := 3) rfl)) (by decide)
  rw [q9FF_1051] at X3
  have H3 := q9chV_of X3
  try simp only [kz] at H3
  have X4 := q9pB (T := T) (N := N) (P := P) (J := J) (t0 := t0) (Sc := Sc) (q9evS ae5) (q9evS ae5) (q9evS ae6) (hX _ (List.mem_of_getElem? (i := 4) rfl))
  have X5 := q9pB (T := T) (N := N) (P := P) (J := J) (t0 := t0) (Sc := Sc) (q9evS ae3) (q9evS ae6) (q9evS ae7) (hX _ (List.mem_of_getElem? (i := 5) rfl))
  obtain ⟨n, d, h1⟩ := H0
  obtain ⟨n2, f2, d2, h2, h3⟩ := H1
  have ed := (q9hs_one hN.1 _ _ _ _ _ _ _ _ h1 h2).2
  subst ed
  have hen : q9enE T N P J x1.toInt x2.toInt := H2
  obtain ⟨c, b1, b2, b3, b4⟩ := K0
  have b4 : q9lkI T N c = 0 := b4.symm
  obtain ⟨c1, a1, a2, a3, a4⟩ := H3
  have ec := q9ln_one a1 b1 a2 b2 (by rw [a3, b3])
  subst ec
  rw [b4] at a4
  have e6 : x5.toInt64 = x6 := Value.long.inj (Option.some.inj (X4 : some (Value.long x5.toInt64) = some (.long x6)))
  rw [q9i2l_of, a4] at e6
  have m1 : x3 + x6 = x7 := Value.long.inj (Option.some.inj (X5 : some (Value.long (x3 + x6)) = some (.long x7)))
  have hs := q9hs_snoc (k := 0) b1 b2 b3 hen (by omega) (.inl ⟨by omega, rfl, rfl⟩) _ _ _ _ h1
  rw [b4, e6, m1] at hs
  have u_ : q9upN w 9 [] 0 = .int 0 := q9upN_of (by decide) w0
  have u0 : q9upN w 9 [] 1 = .int x0 := q9upN_of (by decide) ae0
  have u1 : q9upN w 9 [] 2 = .int x1 := q9upN_of (by decide) ae1
  have u2 : q9upN w 9 [] 3 = .int x2 := q9upN_of (by decide) ae2
  have u3 : q9upN w 9 [] 4 = .long x3 := q9upN_of (by decide) ae3
  have u4 : q9upN w 9 [] 5 = .long x4 := q9upN_of (by decide) ae4
  have u5 : q9upN w 9 [] 6 = .int x5 := q9upN_of (by decide) ae5
  have u6 : q9upN w 9 [] 7 = .long x6 := q9upN_of (by decide) ae6
  have u7 : q9upN w 9 [] 8 = .long x7 := q9upN_of (by decide) ae7
  refine ⟨[], fun i9 p9 hq9 => ?_, List.forall_mem_cons.mpr ⟨?_, List.forall_mem_cons.mpr ⟨?_, fun _ h => absurd h List.not_mem_nil⟩⟩, fun _ h => absurd h List.not_mem_nil⟩
  · exact nomatch (show (none : Option (Nat × q9AV × q9AV × q9ET)) = some p9 from hq9)
  · exact q9th_tL (T := T) (N := N) (P := P) (J := J) (t0 := t0) (Sc := Sc) (q9evS u0) (q9evS u2) (q9evS u7) (by rw [q9FL_1053]; exact (by rw [← q9FL_1053 (b := x2.toInt)]; exact q9G_fs hN.1 hs)) (by decide)
  · exact q9th_tL (T := T) (N := N) (P := P) (J := J) (t0 := t0) (Sc := Sc) (q9evS u0) (q9evS u2) (q9evS u4) (by rw [q9FL_1054]; exact (by rw [← q9FL_1054 (b := x2.toInt)]; exact q9G_ds hN.1 (by rw [h3]; exact hs))) (by decide)
theorem q9ru_fsA1 (hT : ∀ i, 0 ≤ T i ∧ T i ≤ 255) (hN : 0 ≤ N ∧ N ≤ 400) (hSc : 0 ≤ Sc 1 ∧ Sc 1 ≤ 400 → N = Sc 1) : q9ruOK (fO T N P J t0 Sc) q9R_fsA1 := by
  intro w w0 hA hX hL hV hR
  obtain ⟨x0, ae0, -, -⟩ := hA 0 0 rfl
  obtain ⟨x1, ae1, -, -⟩ := hA 1 0 rfl
  obtain ⟨x2, ae2, -, -⟩ := hA 2 0 rfl
  obtain ⟨x3, ae3, -, -⟩ := hA 3 1 rfl
  obtain ⟨x4, ae4, -, -⟩ := hA 4 1 rfl
  obtain ⟨x5, ae5, -, -⟩ := hA 5 0 rfl
  obtain ⟨x6, ae6, -, -⟩ := hA 6 1 rfl
  obtain ⟨x7, ae7, -, -⟩ := hA 7 1 rfl
  have kz : (0 : Int32).toInt = 0 := rfl
  have X0 := q9pL (T := T) (N := N) (P := P) (J := J) (t0 := t0) (Sc := Sc) (op := 1053) (q9evS ae0) (q9evS ae1) (q9evS ae3) (hX _ (List.mem_of_getElem? (i := 0) rfl)) (by decide)
  rw [q9FL_1053] at X0
  have H0 := q9chV_of X0
  try simp only [kz] at H0
  have X1 := q9pL (T := T) (N := N) (P := P) (J := J) (t0 := t0) (Sc := Sc) (op := 1057) (q9evS ae0) (q9evS ae1) (q9evS ae4) (hX _ (List.mem_of_getElem? (i := 1) rfl)) (by decide)
  rw [q9FL_1057] at X1
  have H1 := q9chV_of X1
  try simp only [kz] at H1
  have X2 := q9th_pX (T := T) (N := N) (P := P) (J := J) (t0 := t0) (Sc := Sc) (op := 1052) (q9evS ae1) (q9evZ w0) (q9evS ae2) (hX _ (List.mem_of_getElem? (i := 2) rfl)) (by decide)
  rw [q9FF_1052] at X2
  have H2 := q9chV_of X2
  try simp only [kz] at H2
  have L0 : x1.toInt ≤ x2.toInt + (-1) := q9pC (q9evS ae1) (q9evS ae2) (hL _ (List.mem_of_getElem? (i := 0) rfl))
  have L1 : (0 : Int32).toInt ≤ x1.toInt + 0 := q9pC (q9evZ w0) (q9evS ae1) (hL _ (List.mem_of_getElem? (i := 1) rfl))
  have V0 := q9pV (T := T) (N := N) (P := P) (J := J) (t0 := t0) (Sc := Sc) (op := 1050) (n := 1) (q9evS ae1) (q9evZ w0) (hV _ (List.mem_of_getElem? (i := 0) rfl)) (by decide)
  rw [q9FF_1050] at V0
  have K0 := q9chV_of V0
  try simp only [kz] at K0
  have X3 := q9th_pX (T := T) (N := N) (P := P) (J := J) (t0 := t0) (Sc := Sc) (op := 1051) (q9evS ae1) (q9evZ w0) (q9evS ae5) (hX _ (List.mem_of_getElem? (i := 3) rfl)) (by decide)
  rw [q9FF_1051] at X3
  have H3 := q9chV_of X3
  try simp only [kz] at H3
  have X4 := q9pB (T := T) (N := N) (P := P) (J := J) (t0 := t0) (Sc := Sc) (q9evS ae5) (q9evS ae5) (q9evS ae6) (hX _ (List.mem_of_getElem? (i := 4) rfl))
  have X5 := q9pB (T := T) (N := N) (P := P) (J := J) (t0 := t0) (Sc := Sc) (q9evS ae3) (q9evS ae6) (q9evS ae7) (hX _ (List.mem_of_getElem? (i := 5) rfl))
  obtain ⟨n, d, h1⟩ := H0
  obtain ⟨n2, f2, d2, h2, h3⟩ := H1
  have ed := (q9hs_one hN.1 _ _ _ _ _ _ _ _ h1 h2).2
  subst ed
  have hen : q9enE T N P J x1.toInt x2.toInt := H2
  obtain ⟨c, b1, b2, b3, b4⟩ := K0
  have b4 : q9lkI T N c = 1 := b4.symm
  obtain ⟨c1, a1, a2, a3, a4⟩ := H3
  have ec := q9ln_one a1 b1 a2 b2 (by rw [a3, b3])
  subst ec
  rw [b4] at a4
  have e6 : x5.toInt64 = x6 := Value.long.inj (Option.some.inj (X4 : some (Value.long x5.toInt64) = some (.long x6)))
  rw [q9i2l_of, a4] at e6
  have m1 : x3 + x6 = x7 := Value.long.inj (Option.some.inj (X5 : some (Value.long (x3 + x6)) = some (.long x7)))
  have hs := q9hs_snoc (k := 0) b1 b2 b3 hen (by omega) (.inl ⟨by omega, rfl, rfl⟩) _ _ _ _ h1
  rw [b4, e6, m1] at hs
  have u_ : q9upN w 9 [] 0 = .int 0 := q9upN_of (by decide) w0
  have u0 : q9upN w 9 [] 1 = .int x0 := q9upN_of (by decide) ae0
  have u1 : q9upN w 9 [] 2 = .int x1 := q9upN_of (by decide) ae1
  have u2 : q9upN w 9 [] 3 = .int x2 := q9upN_of (by decide) ae2
  have u3 : q9upN w 9 [] 4 = .long x3 := q9upN_of (by decide) ae3
  have u4 : q9upN w 9 [] 5 = .long x4 := q9upN_of (by decide) ae4
  have u5 : q9upN w 9 [] 6 = .int x5 := q9upN_of (by decide) ae5
  have u6 : q9upN w 9 [] 7 = .long x6 := q9upN_of (by decide) ae6
  have u7 : q9upN w 9 [] 8 = .long x7 := q9upN_of (by decide) ae7
  refine ⟨[], fun i9 p9 hq9 => ?_, List.forall_mem_cons.mpr ⟨?_, List.forall_mem_cons.mpr ⟨?_, fun _ h => absurd h List.not_mem_nil⟩⟩, fun _ h => absurd h List.not_mem_nil⟩
  · exact nomatch (show (none : Option (Nat × q9AV × q9AV × q9ET)) = some p9 from hq9)
  · exact q9th_tL (T := T) (N := N) (P := P) (J := J) (t0 := t0) (Sc := Sc) (q9evS u0) (q9evS u2) (q9evS u7) (by rw [q9FL_1053]; exact (by rw [← q9FL_1053 (b := x2.toInt)]; exact q9G_fs hN.1 hs)) (by decide)
  · exact q9th_tL (T := T) (N := N) (P := P) (J := J) (t0 := t0) (Sc := Sc) (q9evS u0) (q9evS u2) (q9evS u4) (by rw [q9FL_1054]; exact (by rw [← q9FL_1054 (b := x2.toInt)]; exact q9G_ds hN.1 (by rw [h3]; exact hs))) (by decide)
theorem q9ru_fsB2 (hT : ∀ i, 0 ≤ T i ∧ T i ≤ 255) (hN : 0 ≤ N ∧ N ≤ 400) (hSc : 0 ≤ Sc 1 ∧ Sc 1 ≤ 400 → N = Sc 1) : q9ruOK (fO T N P J t0 Sc) q9R_fsB2 := by
  intro w w0 hA hX hL hV hR
  obtain ⟨x0, ae0, -, -⟩ := hA 0 0 rfl
  obtain ⟨x1, ae1, -, -⟩ := hA 1 0 rfl
  obtain ⟨x2, ae2, -, -⟩ := hA 2 0 rfl
  obtain ⟨x3, ae3, -, -⟩ := hA 3 1 rfl
  obtain ⟨x4, ae4, -, -⟩ := hA 4 1 rfl
  have kz : (0 : Int32).toInt = 0 := rfl
  have X0 := q9pL (T := T) (N := N) (P := P) (J := J) (t0 := t0) (Sc := Sc) (op := 1053) (q9evS ae0) (q9evS ae1) (q9evS ae3) (hX _ (List.mem_of_getElem? (i := 0) rfl)) (by decide)
  rw [q9FL_1053] at X0
  have H0 := q9chV_of X0
  try simp only [kz] at H0
  have X1 := q9pL (T := T) (N := N) (P := P) (J := J) (t0 := t0) (Sc := Sc) (op := 1057) (q9evS ae0) (q9evS ae1) (q9evS ae4) (hX _ (List.mem_of_getElem? (i := 1) rfl)) (by decide)
  rw [q9FL_1057] at X1
  have H1 := q9chV_of X1
  try simp only [kz] at H1
  have X2 := q9th_pX (T := T) (N := N) (P := P) (J := J) (t0 := t0) (Sc := Sc) (op := 1052) (q9evS ae1) (q9evZ w0) (q9evS ae2) (hX _ (List.mem_of_getElem? (i := 2) rfl)) (by decide)
  rw [q9FF_1052] at X2
  have H2 := q9chV_of X2
  try simp only [kz] at H2
  have L0 : x1.toInt ≤ x2.toInt + (-1) := q9pC (q9evS ae1) (q9evS ae2) (hL _ (List.mem_of_getElem? (i := 0) rfl))
  have L1 : (0 : Int32).toInt ≤ x1.toInt + 0 := q9pC (q9evZ w0) (q9evS ae1) (hL _ (List.mem_of_getElem? (i := 1) rfl))
  have V0 := q9pV (T := T) (N := N) (P := P) (J := J) (t0 := t0) (Sc := Sc) (op := 1050) (n := 2) (q9evS ae1) (q9evZ w0) (hV _ (List.mem_of_getElem? (i := 0) rfl)) (by decide)
  rw [q9FF_1050] at V0
  have K0 := q9chV_of V0
  try simp only [kz] at K0
  obtain ⟨n, d, h1⟩ := H0
  obtain ⟨n2, f2, d2, h2, h3⟩ := H1
  have ed := (q9hs_one hN.1 _ _ _ _ _ _ _ _ h1 h2).2
  subst ed
  have hen : q9enE T N P J x1.toInt x2.toInt := H2
  obtain ⟨c, b1, b2, b3, b4⟩ := K0
  have b4 : q9lkI T N c = 2 := b4.symm
  have hs := q9hs_snoc (k := 0) b1 b2 b3 hen (by omega) (.inr (.inl ⟨by omega, by omega, rfl, rfl⟩)) _ _ _ _ h1
  rw [Int64.add_zero] at hs
  have u_ : q9upN w 6 [] 0 = .int 0 := q9upN_of (by decide) w0
  have u0 : q9upN w 6 [] 1 = .int x0 := q9upN_of (by decide) ae0
  have u1 : q9upN w 6 [] 2 = .int x1 := q9upN_of (by decide) ae1
  have u2 : q9upN w 6 [] 3 = .int x2 := q9upN_of (by decide) ae2
  have u3 : q9upN w 6 [] 4 = .long x3 := q9upN_of (by decide) ae3
  have u4 : q9upN w 6 [] 5 = .long x4 := q9upN_of (by decide) ae4
  refine ⟨[], fun i9 p9 hq9 => ?_, List.forall_mem_cons.mpr ⟨?_, List.forall_mem_cons.mpr ⟨?_, fun _ h => absurd h List.not_mem_nil⟩⟩, fun _ h => absurd h List.not_mem_nil⟩
  · exact nomatch (show (none : Option (Nat × q9AV × q9AV × q9ET)) = some p9 from hq9)
  · exact q9th_tL (T := T) (N := N) (P := P) (J := J) (t0 := t0) (Sc := Sc) (q9evS u0) (q9evS u2) (q9evS u3) (by rw [q9FL_1053]; exact (by rw [← q9FL_1053 (b := x2.toInt)]; exact q9G_fs hN.1 hs)) (by decide)
  · exact q9th_tL (T := T) (N := N) (P := P) (J := J) (t0 := t0) (Sc := Sc) (q9evS u0) (q9evS u2) (q9evS u4) (by rw [q9FL_1054]; exact (by rw [← q9FL_1054 (b := x2.toInt)]; exact q9G_ds hN.1 (by rw [h3]; exact hs))) (by decide)
theorem q9ru_fsB3 (hT : ∀ i, 0 ≤ T i ∧ T i ≤ 255) (hN : 0 ≤ N ∧ N ≤ 400) (hSc : 0 ≤ Sc 1 ∧ Sc 1 ≤ 400 → N = Sc 1) : q9ruOK (fO T N P J t0 Sc) q9R_fsB3 := by
  intro w w0 hA hX hL hV hR
  obtain ⟨x0, ae0, -, -⟩ := hA 0 0 rfl
  obtain ⟨x1, ae1, -, -⟩ := hA 1 0 rfl
  obtain ⟨x2, ae2, -, -⟩ := hA 2 0 rfl
  obtain ⟨x3, ae3, -, -⟩ := hA 3 1 rfl
  obtain ⟨x4, ae4, -, -⟩ := hA 4 1 rfl
  have kz : (0 : Int32).toInt = 0 := rfl
  have X0 := q9pL (T := T) (N := N) (P := P) (J := J) (t0 := t0) (Sc := Sc) (op := 1053) (q9evS ae0) (q9evS ae1) (q9evS ae3) (hX _ (List.mem_of_getElem? (i := 0) rfl)) (by decide)
  rw [q9FL_1053] at X0
  have H0 := q9chV_of X0
  try simp only [kz] at H0
  have X1 := q9pL (T := T) (N := N) (P := P) (J := J) (t0 := t0) (Sc := Sc) (op := 1057) (q9evS ae0) (q9evS ae1) (q9evS ae4) (hX _ (List.mem_of_getElem? (i := 1) rfl)) (by decide)
  rw [q9FL_1057] at X1
  have H1 := q9chV_of X1
  try simp only [kz] at H1
  have X2 := q9th_pX (T := T) (N := N) (P := P) (J := J) (t0 := t0) (Sc := Sc) (op := 1052) (q9evS ae1) (q9evZ w0) (q9evS ae2) (hX _ (List.mem_of_getElem? (i := 2) rfl)) (by decide)
  rw [q9FF_1052] at X2
  have H2 := q9chV_of X2
  try simp only [kz] at H2
  have L0 : x1.toInt ≤ x2.toInt + (-1) := q9pC (q9evS ae1) (q9evS ae2) (hL _ (List.mem_of_getElem? (i := 0) rfl))
  have L1 : (0 : Int32).toInt ≤ x1.toInt + 0 := q9pC (q9evZ w0) (q9evS ae1) (hL _ (List.mem_of_getElem? (i := 1) rfl))
  have V0 := q9pV (T := T) (N := N) (P := P) (J := J) (t0 := t0) (Sc := Sc) (op := 1050) (n := 3) (q9evS ae1) (q9evZ w0) (hV _ (List.mem_of_getElem? (i := 0) rfl)) (by decide)
  rw [q9FF_1050] at V0
  have K0 := q9chV_of V0
  try simp only [kz] at K0
  obtain ⟨n, d, h1⟩ := H0
  obtain ⟨n2, f2, d2, h2, h3⟩ := H1
  have ed := (q9hs_one hN.1 _ _ _ _ _ _ _ _ h1 h2).2
  subst ed
  have hen : q9enE T N P J x1.toInt x2.toInt := H2
  obtain ⟨c, b1, b2, b3, b4⟩ := K0
  have b4 : q9lkI T N c = 3 := b4.symm
  have hs := q9hs_snoc (k := 0) b1 b2 b3 hen (by omega) (.inr (.inl ⟨by omega, by omega, rfl, rfl⟩)) _ _ _ _ h1
  rw [Int64.add_zero] at hs
  have u_ : q9upN w 6 [] 0 = .int 0 := q9upN_of (by decide) w0
  have u0 : q9upN w 6 [] 1 = .int x0 := q9upN_of (by decide) ae0
  have u1 : q9upN w 6 [] 2 = .int x1 := q9upN_of (by decide) ae1
  have u2 : q9upN w 6 [] 3 = .int x2 := q9upN_of (by decide) ae2
  have u3 : q9upN w 6 [] 4 = .long x3 := q9upN_of (by decide) ae3
  have u4 : q9upN w 6 [] 5 = .long x4 := q9upN_of (by decide) ae4
  refine ⟨[], fun i9 p9 hq9 => ?_, List.forall_mem_cons.mpr ⟨?_, List.forall_mem_cons.mpr ⟨?_, fun _ h => absurd h List.not_mem_nil⟩⟩, fun _ h => absurd h List.not_mem_nil⟩
  · exact nomatch (show (none : Option (Nat × q9AV × q9AV × q9ET)) = some p9 from hq9)
  · exact q9th_tL (T := T) (N := N) (P := P) (J := J) (t0 := t0) (Sc := Sc) (q9evS u0) (q9evS u2) (q9evS u3) (by rw [q9FL_1053]; exact (by rw [← q9FL_1053 (b := x2.toInt)]; exact q9G_fs hN.1 hs)) (by decide)
  · exact q9th_tL (T := T) (N := N) (P := P) (J := J) (t0 := t0) (Sc := Sc) (q9evS u0) (q9evS u2) (q9evS u4) (by rw [q9FL_1054]; exact (by rw [← q9FL_1054 (b := x2.toInt)]; exact q9G_ds hN.1 (by rw [h3]; exact hs))) (by decide)
theorem q9ru_fsB4 (hT : ∀ i, 0 ≤ T i ∧ T i ≤ 255) (hN : 0 ≤ N ∧ N ≤ 400) (hSc : 0 ≤ Sc 1 ∧ Sc 1 ≤ 400 → N = Sc 1) : q9ruOK (fO T N P J t0 Sc) q9R_fsB4 := by
  intro w w0 hA hX hL hV hR
  obtain ⟨x0, ae0, -, -⟩ := hA 0 0 rfl
  obtain ⟨x1, ae1, -, -⟩ := hA 1 0 rfl
  obtain ⟨x2, ae2, -, -⟩ := hA 2 0 rfl
  obtain ⟨x3, ae3, -, -⟩ := hA 3 1 rfl
  obtain ⟨x4, ae4, -, -⟩ := hA 4 1 rfl
  have kz : (0 : Int32).toInt = 0 := rfl
  have X0 := q9pL (T := T) (N := N) (P := P) (J := J) (t0 := t0) (Sc := Sc) (op := 1053) (q9evS ae0) (q9evS ae1) (q9evS ae3) (hX _ (List.mem_of_getElem? (i := 0) rfl)) (by decide)
  rw [q9FL_1053] at X0
  have H0 := q9chV_of X0
  try simp only [kz] at H0
  have X1 := q9pL (T := T) (N := N) (P := P) (J := J) (t0 := t0) (Sc := Sc) (op := 1057) (q9evS ae0) (q9evS ae1) (q9evS ae4) (hX _ (List.mem_of_getElem? (i := 1) rfl)) (by decide)
  rw [q9FL_1057] at X1
  have H1 := q9chV_of X1
  try simp only [kz] at H1
  have X2 := q9th_pX (T := T) (N := N) (P := P) (J := J) (t0 := t0) (Sc := Sc) (op := 1052) (q9evS ae1) (q9evZ w0) (q9evS ae2) (hX _ (List.mem_of_getElem? (i := 2) rfl)) (by decide)
  rw [q9FF_1052] at X2
  have H2 := q9chV_of X2
  try simp only [kz] at H2
  have L0 : x1.toInt ≤ x2.toInt + (-1) := q9pC (q9evS ae1) (q9evS ae2) (hL _ (List.mem_of_getElem? (i := 0) rfl))
  have L1 : (0 : Int32).toInt ≤ x1.toInt + 0 := q9pC (q9evZ w0) (q9evS ae1) (hL _ (List.mem_of_getElem? (i := 1) rfl))
  have V0 := q9pV (T := T) (N := N) (P := P) (J := J) (t0 := t0) (Sc := Sc) (op := 1050) (n := 4) (q9evS ae1) (q9evZ w0) (hV _ (List.mem_of_getElem? (i := 0) rfl)) (by decide)
  rw [q9FF_1050] at V0
  have K0 := q9chV_of V0
  try simp only [kz] at K0
  obtain ⟨n, d, h1⟩ := H0
  obtain ⟨n2, f2, d2, h2, h3⟩ := H1
  have ed := (q9hs_one hN.1 _ _ _ _ _ _ _ _ h1 h2).2
  subst ed
  have hen : q9enE T N P J x1.toInt x2.toInt := H2
  obtain ⟨c, b1, b2, b3, b4⟩ := K0
  have b4 : q9lkI T N c = 4 := b4.symm
  have hs := q9hs_snoc (k := 0) b1 b2 b3 hen (by omega) (.inr (.inl ⟨by omega, by omega, rfl, rfl⟩)) _ _ _ _ h1
  rw [Int64.add_zero] at hs
  have u_ : q9upN w 6 [] 0 = .int 0 := q9upN_of (by decide) w0
  have u0 : q9upN w 6 [] 1 = .int x0 := q9upN_of (by decide) ae0
  have u1 : q9upN w 6 [] 2 = .int x1 := q9upN_of (by decide) ae1
  have u2 : q9upN w 6 [] 3 = .int x2 := q9upN_of (by decide) ae2
  have u3 : q9upN w 6 [] 4 = .long x3 := q9upN_of (by decide) ae3
  have u4 : q9upN w 6 [] 5 = .long x4 := q9upN_of (by decide) ae4
  refine ⟨[], fun i9 p9 hq9 => ?_, List.forall_mem_cons.mpr ⟨?_, List.forall_mem_cons.mpr ⟨?_, fun _ h => absurd h List.not_mem_nil⟩⟩, fun _ h => absurd h List.not_mem_nil⟩
  · exact nomatch (show (none : Option (Nat × q9AV × q9AV × q9ET)) = some p9 from hq9)
  · exact q9th_tL (T := T) (N := N) (P := P) (J := J) (t0 := t0) (Sc := Sc) (q9evS u0) (q9evS u2) (q9evS u3) (by rw [q9FL_1053]; exact (by rw [← q9FL_1053 (b := x2.toInt)]; exact q9G_fs hN.1 hs)) (by decide)
  · exact q9th_tL (T := T) (N := N) (P := P) (J := J) (t0 := t0) (Sc := Sc) (q9evS u0) (q9evS u2) (q9evS u4) (by rw [q9FL_1054]; exact (by rw [← q9FL_1054 (b := x2.toInt)]; exact q9G_ds hN.1 (by rw [h3]; exact hs))) (by decide)
theorem q9ru_fsB5 (hT : ∀ i, 0 ≤ T i ∧ T i ≤ 255) (hN : 0 ≤ N ∧ N ≤ 400) (hSc : 0 ≤ Sc 1 ∧ Sc 1 ≤ 400 → N = Sc 1) : q9ruOK (fO T N P J t0 Sc) q9R_fsB5 := by
  intro w w0 hA hX hL hV hR
  obtain ⟨x0, ae0, -, -⟩ := hA 0 0 rfl
  obtain ⟨x1, ae1, -, -⟩ := hA 1 0 rfl
  obtain ⟨x2, ae2, -, -⟩ := hA 2 0 rfl
  obtain ⟨x3, ae3, -, -⟩ := hA 3 1 rfl
  obtain ⟨x4, ae4, -, -⟩ := hA 4 1 rfl
  have kz : (0 : Int32).toInt = 0 := rfl
  have X0 := q9pL (T := T) (N := N) (P := P) (J := J) (t0 := t0) (Sc := Sc) (op := 1053) (q9evS ae0) (q9evS ae1) (q9evS ae3) (hX _ (List.mem_of_getElem? (i := 0) rfl)) (by decide)
  rw [q9FL_1053] at X0
  have H0 := q9chV_of X0
  try simp only [kz] at H0
  have X1 := q9pL (T := T) (N := N) (P := P) (J := J) (t0 := t0) (Sc := Sc) (op := 1057) (q9evS ae0) (q9evS ae1) (q9evS ae4) (hX _ (List.mem_of_getElem? (i := 1) rfl)) (by decide)
  rw [q9FL_1057] at X1
  have H1 := q9chV_of X1
  try simp only [kz] at H1
  have X2 := q9th_pX (T := T) (N := N) (P := P) (J := J) (t0 := t0) (Sc := Sc) (op := 1052) (q9evS ae1) (q9evZ w0) (q9evS ae2) (hX _ (List.mem_of_getElem? (i := 2) rfl)) (by decide)
  rw [q9FF_1052] at X2
  have H2 := q9chV_of X2
  try simp only [kz] at H2
  have L0 : x1.toInt ≤ x2.toInt + (-1) := q9pC (q9evS ae1) (q9evS ae2) (hL _ (List.mem_of_getElem? (i := 0) rfl))
  have L1 : (0 : Int32).toInt ≤ x1.toInt + 0 := q9pC (q9evZ w0) (q9evS ae1) (hL _ (List.mem_of_getElem? (i := 1) rfl))
  have V0 := q9pV (T := T) (N := N) (P := P) (J := J) (t0 := t0) (Sc := Sc) (op := 1050) (n := 5) (q9evS ae1) (q9evZ w0) (hV _ (List.mem_of_getElem? (i := 0) rfl)) (by decide)
  rw [q9FF_1050] at V0
  have K0 := q9chV_of V0
  try simp only [kz] at K0
  obtain ⟨n, d, h1⟩ := H0
  obtain ⟨n2, f2, d2, h2, h3⟩ := H1
  have ed := (q9hs_one hN.1 _ _ _ _ _ _ _ _ h1 h2).2
  subst ed
  have hen : q9enE T N P J x1.toInt x2.toInt := H2
  obtain ⟨c, b1, b2, b3, b4⟩ := K0
  have b4 : q9lkI T N c = 5 := b4.symm
  have hs := q9hs_snoc (k := 0) b1 b2 b3 hen (by omega) (.inr (.inl ⟨by omega, by omega, rfl, rfl⟩)) _ _ _ _ h1
  rw [Int64.add_zero] at hs
  have u_ : q9upN w 6 [] 0 = .int 0 := q9upN_of (by decide) w0
  have u0 : q9upN w 6 [] 1 = .int x0 := q9upN_of (by decide) ae0
  have u1 : q9upN w 6 [] 2 = .int x1 := q9upN_of (by decide) ae1
  have u2 : q9upN w 6 [] 3 = .int x2 := q9upN_of (by decide) ae2
  have u3 : q9upN w 6 [] 4 = .long x3 := q9upN_of (by decide) ae3
  have u4 : q9upN w 6 [] 5 = .long x4 := q9upN_of (by decide) ae4
  refine ⟨[], fun i9 p9 hq9 => ?_, List.forall_mem_cons.mpr ⟨?_, List.forall_mem_cons.mpr ⟨?_, fun _ h => absurd h List.not_mem_nil⟩⟩, fun _ h => absurd h List.not_mem_nil⟩
  · exact nomatch (show (none : Option (Nat × q9AV × q9AV × q9ET)) = some p9 from hq9)
  · exact q9th_tL (T := T) (N := N) (P := P) (J := J) (t0 := t0) (Sc := Sc) (q9evS u0) (q9evS u2) (q9evS u3) (by rw [q9FL_1053]; exact (by rw [← q9FL_1053 (b := x2.toInt)]; exact q9G_fs hN.1 hs)) (by decide)
  · exact q9th_tL (T := T) (N := N) (P := P) (J := J) (t0 := t0) (Sc := Sc) (q9evS u0) (q9evS u2) (q9evS u4) (by rw [q9FL_1054]; exact (by rw [← q9FL_1054 (b := x2.toInt)]; exact q9G_ds hN.1 (by rw [h3]; exact hs))) (by decide)
theorem q9ru_fsB6 (hT : ∀ i, 0 ≤ T i ∧ T i ≤ 255) (hN : 0 ≤ N ∧ N ≤ 400) (hSc : 0 ≤ Sc 1 ∧ Sc 1 ≤ 400 → N = Sc 1) : q9ruOK (fO T N P J t0 Sc) q9R_fsB6 := by
  intro w w0 hA hX hL hV hR
  obtain ⟨x0, ae0, -, -⟩ := hA 0 0 rfl
  obtain ⟨x1, ae1, -, -⟩ := hA 1 0 rfl
  obtain ⟨x2, ae2, -, -⟩ := hA 2 0 rfl
  obtain ⟨x3, ae3, -, -⟩ := hA 3 1 rfl
  obtain ⟨x4, ae4, -, -⟩ := hA 4 1 rfl
  have kz : (0 : Int32).toInt = 0 := rfl
  have X0 := q9pL (T := T) (N := N) (P := P) (J := J) (t0 := t0) (Sc := Sc) (op := 1053) (q9evS ae0) (q9evS ae1) (q9evS ae3) (hX _ (List.mem_of_getElem? (i := 0) rfl)) (by decide)
  rw [q9FL_1053] at X0
  have H0 := q9chV_of X0
  try simp only [kz] at H0
  have X1 := q9pL (T := T) (N := N) (P := P) (J := J) (t0 := t0) (Sc := Sc) (op := 1057) (q9evS ae0) (q9evS ae1) (q9evS ae4) (hX _ (List.mem_of_getElem? (i := 1) rfl)) (by decide)
  rw [q9FL_1057] at X1
  have H1 := q9chV_of X1
  try simp only [kz] at H1
  have X2 := q9th_pX (T := T) (N := N) (P := P) (J := J) (t0 := t0) (Sc := Sc) (op := 1052) (q9evS ae1) (q9evZ w0) (q9evS ae2) (hX _ (List.mem_of_getElem? (i := 2) rfl)) (by decide)
  rw [q9FF_1052] at X2
  have H2 := q9chV_of X2
  try simp only [kz] at H2
  have L0 : x1.toInt ≤ x2.toInt + (-1) := q9pC (q9evS ae1) (q9evS ae2) (hL _ (List.mem_of_getElem? (i := 0) rfl))
  have L1 : (0 : Int32).toInt ≤ x1.toInt + 0 := q9pC (q9evZ w0) (q9evS ae1) (hL _ (List.mem_of_getElem? (i := 1) rfl))
  have V0 := q9pV (T := T) (N := N) (P := P) (J := J) (t0 := t0) (Sc := Sc) (op := 1050) (n := 6) (q9evS ae1) (q9evZ w0) (hV _ (List.mem_of_getElem? (i := 0) rfl)) (by decide)
  rw [q9FF_1050] at V0
  have K0 := q9chV_of V0
  try simp only [kz] at K0
  obtain ⟨n, d, h1⟩ := H0
  obtain ⟨n2, f2, d2, h2, h3⟩ := H1
  have ed := (q9hs_one hN.1 _ _ _ _ _ _ _ _ h1 h2).2
  subst ed
  have hen : q9enE T N P J x1.toInt x2.toInt := H2
  obtain ⟨c, b1, b2, b3, b4⟩ := K0
  have b4 : q9lkI T N c = 6 := b4.symm
  have hs := q9hs_snoc (k := 0) b1 b2 b3 hen (by omega) (.inr (.inl ⟨by omega, by omega, rfl, rfl⟩)) _ _ _ _ h1
  rw [Int64.add_zero] at hs
  have u_ : q9upN w 6 [] 0 = .int 0 := q9upN_of (by decide) w0
  have u0 : q9upN w 6 [] 1 = .int x0 := q9upN_of (by decide) ae0
  have u1 : q9upN w 6 [] 2 = .int x1 := q9upN_of (by decide) ae1
  have u2 : q9upN w 6 [] 3 = .int x2 := q9upN_of (by decide) ae2
  have u3 : q9upN w 6 [] 4 = .long x3 := q9upN_of (by decide) ae3
  have u4 : q9upN w 6 [] 5 = .long x4 := q9upN_of (by decide) ae4
  refine ⟨[], fun i9 p9 hq9 => ?_, List.forall_mem_cons.mpr ⟨?_, List.forall_mem_cons.mpr ⟨?_, fun _ h => absurd h List.not_mem_nil⟩⟩, fun _ h => absurd h List.not_mem_nil⟩
  · exact nomatch (show (none : Option (Nat × q9AV × q9AV × q9ET)) = some p9 from hq9)
  · exact q9th_tL (T := T) (N := N) (P := P) (J := J) (t0 := t0) (Sc := Sc) (q9evS u0) (q9evS u2) (q9evS u3) (by rw [q9FL_1053]; exact (by rw [← q9FL_1053 (b := x2.toInt)]; exact q9G_fs hN.1 hs)) (by decide)
  · exact q9th_tL (T := T) (N := N) (P := P) (J := J) (t0 := t0) (Sc := Sc) (q9evS u0) (q9evS u2) (q9evS u4) (by rw [q9FL_1054]; exact (by rw [← q9FL_1054 (b := x2.toInt)]; exact q9G_ds hN.1 (by rw [h3]; exact hs))) (by decide)
theorem q9ru_fsC (hT : ∀ i, 0 ≤ T i ∧ T i ≤ 255) (hN : 0 ≤ N ∧ N ≤ 400) (hSc : 0 ≤ Sc 1 ∧ Sc 1 ≤ 400 → N = Sc 1) : q9ruOK (fO T N P J t0 Sc) q9R_fsC := by
  intro w w0 hA hX hL hV hR
  obtain ⟨x0, ae0, -, -⟩ := hA 0 0 rfl
  obtain ⟨x1, ae1, -, -⟩ := hA 1 0 rfl
  obtain ⟨x2, ae2, -, -⟩ := hA 2 0 rfl
  obtain ⟨x3, ae3, -, -⟩ := hA 3 1 rfl
  obtain ⟨x4, ae4, -, -⟩ := hA 4 1 rfl
  obtain ⟨x5, ae5, -, -⟩ := hA 5 0 rfl
  obtain ⟨x6, ae6, -, -⟩ := hA 6 1 rfl
  obtain ⟨x7, ae7, -, -⟩ := hA 7 1 rfl
  obtain ⟨x8, ae8, -, -⟩ := hA 8 1 rfl
  obtain ⟨x9, ae9, -, -⟩ := hA 9 1 rfl
  obtain ⟨x10, ae10, -, -⟩ := hA 10 1 rfl
  obtain ⟨x11, ae11, -, -⟩ := hA 11 1 rfl
  obtain ⟨x12, ae12, -, -⟩ := hA 12 1 rfl
  have kz : (0 : Int32).toInt = 0 := rfl
  have X0 := q9pL (T := T) (N := N) (P := P) (J := J) (t0 := t0) (Sc := Sc) (op := 1053) (q9evS ae0) (q9evS ae1) (q9evS ae3) (hX _ (List.mem_of_getElem? (i := 0) rfl)) (by decide)
  rw [q9FL_1053] at X0
  have H0 := q9chV_of X0
  try simp only [kz] at H0
  have X1 := q9pL (T := T) (N := N) (P := P) (J := J) (t0 := t0) (Sc := Sc) (op := 1057) (q9evS ae0) (q9evS ae1) (q9evS ae4) (hX _ (List.mem_of_getElem? (i := 1) rfl)) (by decide)
  rw [q9FL_1057] at X1
  have H1 := q9chV_of X1
  try simp only [kz] at H1
  have X2 := q9th_pX (T := T) (N := N) (P := P) (J := J) (t0 := t0) (Sc := Sc) (op := 1052) (q9evS ae1) (q9evZ w0) (q9evS ae2) (hX _ (List.mem_of_getElem? (i := 2) rfl)) (by decide)
  rw [q9FF_1052] at X2
  have H2 := q9chV_of X2
  try simp only [kz] at H2
  have L0 : x1.toInt ≤ x2.toInt + (-1) := q9pC (q9evS ae1) (q9evS ae2) (hL _ (List.mem_of_getElem? (i := 0) rfl))
  have L1 : (0 : Int32).toInt ≤ x1.toInt + 0 := q9pC (q9evZ w0) (q9evS ae1) (hL _ (List.mem_of_getElem? (i := 1) rfl))
  have V0 := q9pV (T := T) (N := N) (P := P) (J := J) (t0 := t0) (Sc := Sc) (op := 1050) (n := 7) (q9evS ae1) (q9evZ w0) (hV _ (List.mem_of_getElem? (i := 0) rfl)) (by decide)
  rw [q9FF_1050] at V0
  have K0 := q9chV_of V0
  try simp only [kz] at K0
  have X3 := q9th_pX (T := T) (N := N) (P := P) (J := J) (t0 := t0) (Sc := Sc) (op := 1051) (q9evS ae1) (q9evZ w0) (q9evS ae5) (hX _ (List.mem_of_getElem? (i := 3) rfl)) (by decide)
  rw [q9FF_1051] at X3
  have H3 := q9chV_of X3
  try simp only [kz] at H3
  have X4 := q9pB (T := T) (N := N) (P := P) (J := J) (t0 := t0) (Sc := Sc) (q9evS ae5) (q9evS ae5) (q9evS ae6) (hX _ (List.mem_of_getElem? (i := 4) rfl))
  have X5 := q9pL (T := T) (N := N) (P := P) (J := J) (t0 := t0) (Sc := Sc) (op := 1053) (q9evO ae1 1) (q9evS ae2) (q9evS ae7) (hX _ (List.mem_of_getElem? (i := 5) rfl)) (by decide)
  rw [q9FL_1053] at X5
  have H5 := q9chV_of X5
  try simp only [kz] at H5
  have X6 := q9pL (T := T) (N := N) (P := P) (J := J) (t0 := t0) (Sc := Sc) (op := 1054) (q9evO ae1 1) (q9evS ae2) (q9evS ae8) (hX _ (List.mem_of_getElem? (i := 6) rfl)) (by decide)
  rw [q9FL_1054] at X6
  have H6 := q9chV_of X6
  try simp only [kz] at H6
  have X7 := q9pB (T := T) (N := N) (P := P) (J := J) (t0 := t0) (Sc := Sc) (q9evS ae6) (q9evS ae7) (q9evS ae9) (hX _ (List.mem_of_getElem? (i := 7) rfl))
  have X8 := q9pB (T := T) (N := N) (P := P) (J := J) (t0 := t0) (Sc := Sc) (q9evS ae3) (q9evS ae9) (q9evS ae10) (hX _ (List.mem_of_getElem? (i := 8) rfl))
  have X9 := q9pB (T := T) (N := N) (P := P) (J := J) (t0 := t0) (Sc := Sc) (q9evS ae6) (q9evS ae8) (q9evS ae11) (hX _ (List.mem_of_getElem? (i := 9) rfl))
  have X10 := q9pB (T := T) (N := N) (P := P) (J := J) (t0 := t0) (Sc := Sc) (q9evS ae4) (q9evS ae11) (q9evS ae12) (hX _ (List.mem_of_getElem? (i := 10) rfl))
  obtain ⟨n, d, h1⟩ := H0
  obtain ⟨n2, f2, d2, h2, h3⟩ := H1
  have ed := (q9hs_one hN.1 _ _ _ _ _ _ _ _ h1 h2).2
  subst ed
  have hen : q9enE T N P J x1.toInt x2.toInt := H2
  obtain ⟨c, b1, b2, b3, b4⟩ := K0
  have b4 : q9lkI T N c = 7 := b4.symm
  obtain ⟨c1, a1, a2, a3, a4⟩ := H3
  have ec := q9ln_one a1 b1 a2 b2 (by rw [a3, b3])
  subst ec
  rw [b4] at a4
  have e6 : x5.toInt64 = x6 := Value.long.inj (Option.some.inj (X4 : some (Value.long x5.toInt64) = some (.long x6)))
  rw [q9i2l_of, a4] at e6
  have a9 := q9ad32 (x := x1) (d := 1) (by have := Int32.toInt_lt x2; omega)
  obtain ⟨n3, d3, h4⟩ := H5
  obtain ⟨n4, f4, h5⟩ := H6
  have e9 := (q9hs_one hN.1 _ _ _ _ _ _ _ _ h4 h5).2
  subst e9
  rw [a9] at h4
  have m1 : x6 * x7 = x9 := Value.long.inj (Option.some.inj (X7 : some (Value.long (x6 * x7)) = some (.long x9)))
  have m2 : x3 + x9 = x10 := Value.long.inj (Option.some.inj (X8 : some (Value.long (x3 + x9)) = some (.long x10)))
  have m3 : x6 * x8 = x11 := Value.long.inj (Option.some.inj (X9 : some (Value.long (x6 * x8)) = some (.long x11)))
  have m4 : x4 + x11 = x12 := Value.long.inj (Option.some.inj (X10 : some (Value.long (x4 + x11)) = some (.long x12)))
  have hs := q9hs_snoc (k := n3) (f1 := x6 * x7) (d1 := 1 + x6 * x8) b1 b2 b3 hen (by omega) (.inr (.inr ⟨b4, x7, x8, h4, by rw [e6], by rw [e6]⟩)) _ _ _ _ h1
  rw [m1, m2, m3, ← Int64.add_assoc, ← h3, m4] at hs
  have u_ : q9upN w 14 [] 0 = .int 0 := q9upN_of (by decide) w0
  have u0 : q9upN w 14 [] 1 = .int x0 := q9upN_of (by decide) ae0
  have u1 : q9upN w 14 [] 2 = .int x1 := q9upN_of (by decide) ae1
  have u2 : q9upN w 14 [] 3 = .int x2 := q9upN_of (by decide) ae2
  have u3 : q9upN w 14 [] 4 = .long x3 := q9upN_of (by decide) ae3
  have u4 : q9upN w 14 [] 5 = .long x4 := q9upN_of (by decide) ae4
  have u5 : q9upN w 14 [] 6 = .int x5 := q9upN_of (by decide) ae5
  have u6 : q9upN w 14 [] 7 = .long x6 := q9upN_of (by decide) ae6
  have u7 : q9upN w 14 [] 8 = .long x7 := q9upN_of (by decide) ae7
  have u8 : q9upN w 14 [] 9 = .long x8 := q9upN_of (by decide) ae8
  have u9 : q9upN w 14 [] 10 = .long x9 := q9upN_of (by decide) ae9
  have u10 : q9upN w 14 [] 11 = .long x10 := q9upN_of (by decide) ae10
  have u11 : q9upN w 14 [] 12 = .long x11 := q9upN_of (by decide) ae11
  have u12 : q9upN w 14 [] 13 = .long x12 := q9upN_of (by decide) ae12
  refine ⟨[], fun i9 p9 hq9 => ?_, List.forall_mem_cons.mpr ⟨?_, List.forall_mem_cons.mpr ⟨?_, fun _ h => absurd h List.not_mem_nil⟩⟩, fun _ h => absurd h List.not_mem_nil⟩
  · exact nomatch (show (none : Option (Nat × q9AV × q9AV × q9ET)) = some p9 from hq9)
  · exact q9th_tL (T := T) (N := N) (P := P) (J := J) (t0 := t0) (Sc := Sc) (q9evS u0) (q9evS u2) (q9evS u10) (by rw [q9FL_1053]; exact (by rw [← q9FL_1053 (b := x2.toInt)]; exact q9G_fs hN.1 hs)) (by decide)
  · exact q9th_tL (T := T) (N := N) (P := P) (J := J) (t0 := t0) (Sc := Sc) (q9evS u0) (q9evS u2) (q9evS u12) (by rw [q9FL_1054]; exact (by rw [← q9FL_1054 (b := x2.toInt)]; exact q9G_ds hN.1 hs)) (by decide)
theorem q9ruP_12 (hT : ∀ i, 0 ≤ T i ∧ T i ≤ 255) (hN : 0 ≤ N ∧ N ≤ 400) (hSc : 0 ≤ Sc 1 ∧ Sc 1 ≤ 400 → N = Sc 1) : ∀ q ∈ q9RULES_12, q9ruOK (fO T N P J t0 Sc) q := List.forall_mem_cons.mpr ⟨q9ru_wch13 hT hN hSc, List.forall_mem_cons.mpr ⟨q9ru_wib13 hT hN hSc, List.forall_mem_cons.mpr ⟨q9ru_wcw14 hT hN hSc, List.forall_mem_cons.mpr ⟨q9ru_wcl14 hT hN hSc, List.forall_mem_cons.mpr ⟨q9ru_wch14 hT hN hSc, List.forall_mem_cons.mpr ⟨q9ru_wib14 hT hN hSc, List.forall_mem_cons.mpr ⟨q9ru_wcw15 hT hN hSc, List.forall_mem_cons.mpr ⟨q9ru_wcl15 hT hN hSc, List.forall_mem_cons.mpr ⟨q9ru_wch15 hT hN hSc, List.forall_mem_cons.mpr ⟨q9ru_wib15 hT hN hSc, List.forall_mem_cons.mpr ⟨q9ru_wcw16 hT hN hSc, List.forall_mem_cons.mpr ⟨q9ru_wcl16 hT hN hSc, List.forall_mem_cons.mpr ⟨q9ru_wch16 hT hN hSc, List.forall_mem_cons.mpr ⟨q9ru_wib16 hT hN hSc, List.forall_mem_cons.mpr ⟨q9ru_wcw17 hT hN hSc, List.forall_mem_cons.mpr ⟨q9ru_wcl17 hT hN hSc, List.forall_mem_cons.mpr ⟨q9ru_wch17 hT hN hSc, List.forall_mem_cons.mpr ⟨q9ru_wib17 hT hN hSc, List.forall_mem_cons.mpr ⟨q9ru_wcw18 hT hN hSc, List.forall_mem_cons.mpr ⟨q9ru_wcl18 hT hN hSc, List.forall_mem_cons.mpr ⟨q9ru_wch18 hT hN hSc, List.forall_mem_cons.mpr ⟨q9ru_wib18 hT hN hSc, List.forall_mem_cons.mpr ⟨q9ru_eOB hT hN hSc, List.forall_mem_cons.mpr ⟨q9ru_isn hT hN hSc, List.forall_mem_cons.mpr ⟨q9ru_df0 hT hN hSc, List.forall_mem_cons.mpr ⟨q9ru_dfs hT hN hSc, List.forall_mem_cons.mpr ⟨q9ru_dfe hT hN hSc, List.forall_mem_cons.mpr ⟨q9ru_eWC hT hN hSc, List.forall_mem_cons.mpr ⟨q9ru_mi1n hT hN hSc, List.forall_mem_cons.mpr ⟨q9ru_fs0 hT hN hSc, List.forall_mem_cons.mpr ⟨q9ru_ds0 hT hN hSc, List.forall_mem_cons.mpr ⟨q9ru_ds1 hT hN hSc, List.forall_mem_cons.mpr ⟨q9ru_fsA0 hT hN hSc, List.forall_mem_cons.mpr ⟨q9ru_fsA1 hT hN hSc, List.forall_mem_cons.mpr ⟨q9ru_fsB2 hT hN hSc, List.forall_mem_cons.mpr ⟨q9ru_fsB3 hT hN hSc, List.forall_mem_cons.mpr ⟨q9ru_fsB4 hT hN hSc, List.forall_mem_cons.mpr ⟨q9ru_fsB5 hT hN hSc, List.forall_mem_cons.mpr ⟨q9ru_fsB6 hT hN hSc, List.forall_mem_cons.mpr ⟨q9ru_fsC hT hN hSc, fun _ h => absurd h List.not_mem_nil⟩⟩⟩⟩⟩⟩⟩⟩⟩⟩⟩⟩⟩⟩⟩⟩⟩⟩⟩⟩⟩⟩⟩⟩⟩⟩⟩⟩⟩⟩⟩⟩⟩⟩⟩⟩⟩⟩⟩⟩
end RUL
