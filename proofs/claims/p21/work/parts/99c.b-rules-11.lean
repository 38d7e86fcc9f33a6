section RUL
variable {T : Int → Int} {N P : Int} {J : Int → Int} {t0 : Int} {Sc : Int → Int}
theorem q9ru_wch3 (hT : ∀ i, 0 ≤ T i ∧ T i ≤ 255) (hN : 0 ≤ N ∧ N ≤ 400) (hSc : 0 ≤ Sc 1 ∧ Sc 1 ≤ 400 → N = Sc 1) : q9ruOK (fO T N P J t0 Sc) q9R_wch3 := by
  intro w w0 hA hX hL hV hR
  obtain ⟨x0, ae0, -, -⟩ := hA 0 0 rfl
  obtain ⟨x1, ae1, -, -⟩ := hA 1 0 rfl
  have kz : (0 : Int32).toInt = 0 := rfl
  have k20774 : (Int32.ofInt 20774).toInt = 20774 := q9oI_toInt (by decide)
  have X0 := q9th_pX (T := T) (N := N) (P := P) (J := J) (t0 := t0) (Sc := Sc) (op := 1008) (q9evS ae0) (q9evZ w0) (q9evS ae1) (hX _ (List.mem_of_getElem? (i := 0) rfl)) (by decide)
  rw [q9FF_1008] at X0
  have H0 := Option.some.inj X0
  try simp only [kz, k20774] at H0
  have L0 : (Int32.ofInt 20774).toInt ≤ x1.toInt + 0 := q9pC (q9evC w0 20774) (q9evS ae1) (hL _ (List.mem_of_getElem? (i := 0) rfl))
  have L1 : (0 : Int32).toInt ≤ x0.toInt + 0 := q9pC (q9evZ w0) (q9evS ae0) (hL _ (List.mem_of_getElem? (i := 1) rfl))
  have hw : q9wnI 3 = 20773 := by decide +kernel
  have hn : q9wsI T N 3 x0.toInt = 0 := (q9ws_01 (T := T) (N := N) (t := 3) (i := x0.toInt)).elim (fun h => by have := (q9ws_wc (by decide)).mp h; omega) id
  have rg0 : (0 : Int) ≤ 0 ∧ (0 : Int) ≤ 0 := by omega
  obtain ⟨x2, nt2⟩ : ∃ x : Int32, x.toInt = 0 := ⟨Int32.ofInt (0), q9oI_toInt (by omega)⟩
  have u_ : q9upN w 3 [.int x2] 0 = .int 0 := q9upN_of (by decide) w0
  have u0 : q9upN w 3 [.int x2] 1 = .int x0 := q9upN_of (by decide) ae0
  have u1 : q9upN w 3 [.int x2] 2 = .int x1 := q9upN_of (by decide) ae1
  have u2 : q9upN w 3 [.int x2] 3 = .int x2 := q9upN_at (by decide)
  refine ⟨[.int x2], fun i9 p9 hq9 => ?_, fun _ h => absurd h List.not_mem_nil, fun _ h => absurd h List.not_mem_nil⟩
  · match i9, hq9 with
    | 0, hq9 =>
      have hp9 : ((1103, (1, 0), (0, 0), (0, 0, 0)) : Nat × q9AV × q9AV × q9ET) = p9 := Option.some.inj hq9
      subst hp9
      exact ⟨⟨x2, rfl, by rw [nt2]; exact rg0.1, by rw [nt2]; exact rg0.2⟩, (q9th_tX (T := T) (N := N) (P := P) (J := J) (t0 := t0) (Sc := Sc) (q9evS u0) (q9evZ u_) (q9evS u2) (by rw [q9FF_1103, nt2]; exact (show some (q9wsI T N 3 x0.toInt) = _ by rw [hn])) (by decide)).trans (congrArg some (q9evS u2))⟩
    | k9 + 1, hq9 => exact nomatch (show (none : Option (Nat × q9AV × q9AV × q9ET)) = some p9 from hq9)
theorem q9ru_wib3 (hT : ∀ i, 0 ≤ T i ∧ T i ≤ 255) (hN : 0 ≤ N ∧ N ≤ 400) (hSc : 0 ≤ Sc 1 ∧ Sc 1 ≤ 400 → N = Sc 1) : q9ruOK (fO T N P J t0 Sc) q9R_wib3 := by
  intro w w0 hA hX hL hV hR
  obtain ⟨x0, ae0, -, -⟩ := hA 0 0 rfl
  have kz : (0 : Int32).toInt = 0 := rfl
  have V0 := q9pV (T := T) (N := N) (P := P) (J := J) (t0 := t0) (Sc := Sc) (op := 1103) (n := 1) (q9evS ae0) (q9evZ w0) (hV _ (List.mem_of_getElem? (i := 0) rfl)) (by decide)
  rw [q9FF_1103] at V0
  have K0 := Option.some.inj V0
  try simp only [kz] at K0
  have L0 : (0 : Int32).toInt ≤ x0.toInt + 0 := q9pC (q9evZ w0) (q9evS ae0) (hL _ (List.mem_of_getElem? (i := 0) rfl))
  have hb := q9ws_b0 (t := 3) (by decide) K0
  have hb : q9byI T N x0.toInt = 116 := hb
  have rg0 : (116 : Int) ≤ 116 ∧ (116 : Int) ≤ 116 := by omega
  obtain ⟨x1, nt1⟩ : ∃ x : Int32, x.toInt = 116 := ⟨Int32.ofInt (116), q9oI_toInt (by omega)⟩
  have u_ : q9upN w 2 [.int x1] 0 = .int 0 := q9upN_of (by decide) w0
  have u0 : q9upN w 2 [.int x1] 1 = .int x0 := q9upN_of (by decide) ae0
  have u1 : q9upN w 2 [.int x1] 2 = .int x1 := q9upN_at (by decide)
  refine ⟨[.int x1], fun i9 p9 hq9 => ?_, fun _ h => absurd h List.not_mem_nil, fun _ h => absurd h List.not_mem_nil⟩
  · match i9, hq9 with
    | 0, hq9 =>
      have hp9 : ((1000, (1, 0), (0, 0), (0, 116, 116)) : Nat × q9AV × q9AV × q9ET) = p9 := Option.some.inj hq9
      subst hp9
      exact ⟨⟨x1, rfl, by rw [nt1]; exact rg0.1, by rw [nt1]; exact rg0.2⟩, (q9th_tX (T := T) (N := N) (P := P) (J := J) (t0 := t0) (Sc := Sc) (q9evS u0) (q9evZ u_) (q9evS u1) (by rw [q9FF_1000, nt1]; exact (by rw [hb])) (by decide)).trans (congrArg some (q9evS u1))⟩
    | k9 + 1, hq9 => exact nomatch (show (none : Option (Nat × q9AV × q9AV × q9ET)) = some p9 from hq9)
theorem q9ru_wcw4 (hT : ∀ i, 0 ≤ T i ∧ T i ≤ 255) (hN : 0 ≤ N ∧ N ≤ 400) (hSc : 0 ≤ Sc 1 ∧ Sc 1 ≤ 400 → N = Sc 1) : q9ruOK (fO T N P J t0 Sc) q9R_wcw4 := by
  intro w w0 hA hX hL hV hR
  obtain ⟨x0, ae0, -, -⟩ := hA 0 0 rfl
  obtain ⟨x1, ae1, -, -⟩ := hA 1 0 rfl
  have kz : (0 : Int32).toInt = 0 := rfl
  have k215205 : (Int32.ofInt 215205).toInt = 215205 := q9oI_toInt (by decide)
  have X0 := q9th_pX (T := T) (N := N) (P := P) (J := J) (t0 := t0) (Sc := Sc) (op := 1008) (q9evS ae0) (q9evZ w0) (q9evS ae1) (hX _ (List.mem_of_getElem? (i := 0) rfl)) (by decide)
  rw [q9FF_1008] at X0
  have H0 := Option.some.inj X0
  try simp only [kz, k215205] at H0
  have L0 : x1.toInt ≤ (Int32.ofInt 215205).toInt + 0 := q9pC (q9evS ae1) (q9evC w0 215205) (hL _ (List.mem_of_getElem? (i := 0) rfl))
  have L1 : (Int32.ofInt 215205).toInt ≤ x1.toInt + 0 := q9pC (q9evC w0 215205) (q9evS ae1) (hL _ (List.mem_of_getElem? (i := 1) rfl))
  have L2 : (0 : Int32).toInt ≤ x0.toInt + 0 := q9pC (q9evZ w0) (q9evS ae0) (hL _ (List.mem_of_getElem? (i := 2) rfl))
  have hw : q9wnI 4 = 215205 := by decide +kernel
  have rg0 : (1 : Int) ≤ 1 ∧ (1 : Int) ≤ 1 := by omega
  obtain ⟨x2, nt2⟩ : ∃ x : Int32, x.toInt = 1 := ⟨Int32.ofInt (1), q9oI_toInt (by omega)⟩
  have u_ : q9upN w 3 [.int x2] 0 = .int 0 := q9upN_of (by decide) w0
  have u0 : q9upN w 3 [.int x2] 1 = .int x0 := q9upN_of (by decide) ae0
  have u1 : q9upN w 3 [.int x2] 2 = .int x1 := q9upN_of (by decide) ae1
  have u2 : q9upN w 3 [.int x2] 3 = .int x2 := q9upN_at (by decide)
  refine ⟨[.int x2], fun i9 p9 hq9 => ?_, fun _ h => absurd h List.not_mem_nil, fun _ h => absurd h List.not_mem_nil⟩
  · match i9, hq9 with
    | 0, hq9 =>
      have hp9 : ((1104, (1, 0), (0, 0), (0, 1, 1)) : Nat × q9AV × q9AV × q9ET) = p9 := Option.some.inj hq9
      subst hp9
      exact ⟨⟨x2, rfl, by rw [nt2]; exact rg0.1, by rw [nt2]; exact rg0.2⟩, (q9th_tX (T := T) (N := N) (P := P) (J := J) (t0 := t0) (Sc := Sc) (q9evS u0) (q9evZ u_) (q9evS u2) (by rw [q9FF_1104, nt2]; exact (show some (q9wsI T N 4 x0.toInt) = _ by rw [q9ws_wc (by decide) |>.mpr (by omega)])) (by decide)).trans (congrArg some (q9evS u2))⟩
    | k9 + 1, hq9 => exact nomatch (show (none : Option (Nat × q9AV × q9AV × q9ET)) = some p9 from hq9)
theorem q9ru_wcl4 (hT : ∀ i, 0 ≤ T i ∧ T i ≤ 255) (hN : 0 ≤ N ∧ N ≤ 400) (hSc : 0 ≤ Sc 1 ∧ Sc 1 ≤ 400 → N = Sc 1) : q9ruOK (fO T N P J t0 Sc) q9R_wcl4 := by
  intro w w0 hA hX hL hV hR
  obtain ⟨x0, ae0, -, -⟩ := hA 0 0 rfl
  obtain ⟨x1, ae1, -, -⟩ := hA 1 0 rfl
  have kz : (0 : Int32).toInt = 0 := rfl
  have k215204 : (Int32.ofInt 215204).toInt = 215204 := q9oI_toInt (by decide)
  have X0 := q9th_pX (T := T) (N := N) (P := P) (J := J) (t0 := t0) (Sc := Sc) (op := 1008) (q9evS ae0) (q9evZ w0) (q9evS ae1) (hX _ (List.mem_of_getElem? (i := 0) rfl)) (by decide)
  rw [q9FF_1008] at X0
  have H0 := Option.some.inj X0
  try simp only [kz, k215204] at H0
  have L0 : x1.toInt ≤ (Int32.ofInt 215204).toInt + 0 := q9pC (q9evS ae1) (q9evC w0 215204) (hL _ (List.mem_of_getElem? (i := 0) rfl))
  have L1 : (0 : Int32).toInt ≤ x0.toInt + 0 := q9pC (q9evZ w0) (q9evS ae0) (hL _ (List.mem_of_getElem? (i := 1) rfl))
  have hw : q9wnI 4 = 215205 := by decide +kernel
  have hn : q9wsI T N 4 x0.toInt = 0 := (q9ws_01 (T := T) (N := N) (t := 4) (i := x0.toInt)).elim (fun h => by have := (q9ws_wc (by decide)).mp h; omega) id
  have rg0 : (0 : Int) ≤ 0 ∧ (0 : Int) ≤ 0 := by omega
  obtain ⟨x2, nt2⟩ : ∃ x : Int32, x.toInt = 0 := ⟨Int32.ofInt (0), q9oI_toInt (by omega)⟩
  have u_ : q9upN w 3 [.int x2] 0 = .int 0 := q9upN_of (by decide) w0
  have u0 : q9upN w 3 [.int x2] 1 = .int x0 := q9upN_of (by decide) ae0
  have u1 : q9upN w 3 [.int x2] 2 = .int x1 := q9upN_of (by decide) ae1
  have u2 : q9upN w 3 [.int x2] 3 = .int x2 := q9upN_at (by decide)
  refine ⟨[.int x2], fun i9 p9 hq9 => ?_, fun _ h => absurd h List.not_mem_nil, fun _ h => absurd h List.not_mem_nil⟩
  · match i9, hq9 with
    | 0, hq9 =>
      have hp9 : ((1104, (1, 0), (0, 0), (0, 0, 0)) : Nat × q9AV × q9AV × q9ET) = p9 := Option.some.inj hq9
      subst hp9
      exact ⟨⟨x2, rfl, by rw [nt2]; exact rg0.1, by rw [nt2]; exact rg0.2⟩, (q9th_tX (T := T) (N := N) (P := P) (J := J) (t0 := t0) (Sc := Sc) (q9evS u0) (q9evZ u_) (q9evS u2) (by rw [q9FF_1104, nt2]; exact (show some (q9wsI T N 4 x0.toInt) = _ by rw [hn])) (by decide)).trans (congrArg some (q9evS u2))⟩
    | k9 + 1, hq9 => exact nomatch (show (none : Option (Nat × q9AV × q9AV × q9ET)) = some p9 from hq9)
theorem q9ru_wch4 (hT : ∀ i, 0 ≤ T i ∧ T i ≤ 255) (hN : 0 ≤ N ∧ N ≤ 400) (hSc : 0 ≤ Sc 1 ∧ Sc 1 ≤ 400 → N = Sc 1) : q9ruOK (fO T N P J t0 Sc) q9R_wch4 := by
  intro w w0 hA hX hL hV hR
  obtain ⟨x0, ae0, -, -⟩ := hA 0 0 rfl
  obtain ⟨x1, ae1, -, -⟩ := hA 1 0 rfl
  have kz : (0 : Int32).toInt = 0 := rfl
  have k215206 : (Int32.ofInt 215206).toInt = 215206 := q9oI_toInt (by decide)
  have X0 := q9th_pX (T := T) (N := N) (P := P) (J := J) (t0 := t0) (Sc := Sc) (op := 1008) (q9evS ae0) (q9evZ w0) (q9evS ae1) (hX _ (List.mem_of_getElem? (i := 0) rfl)) (by decide)
  rw [q9FF_1008] at X0
  have H0 := Option.some.inj X0
  try simp only [kz, k215206] at H0
  have L0 : (Int32.ofInt 215206).toInt ≤ x1.toInt + 0 := q9pC (q9evC w0 215206) (q9evS ae1) (hL _ (List.mem_of_getElem? (i := 0) rfl))
  have L1 : (0 : Int32).toInt ≤ x0.toInt + 0 := q9pC (q9evZ w0) (q9evS ae0) (hL _ (List.mem_of_getElem? (i := 1) rfl))
  have hw : q9wnI 4 = 215205 := by decide +kernel
  have hn : q9wsI T N 4 x0.toInt = 0 := (q9ws_01 (T := T) (N := N) (t := 4) (i := x0.toInt)).elim (fun h => by have := (q9ws_wc (by decide)).mp h; omega) id
  have rg0 : (0 : Int) ≤ 0 ∧ (0 : Int) ≤ 0 := by omega
  obtain ⟨x2, nt2⟩ : ∃ x : Int32, x.toInt = 0 := ⟨Int32.ofInt (0), q9oI_toInt (by omega)⟩
  have u_ : q9upN w 3 [.int x2] 0 = .int 0 := q9upN_of (by decide) w0
  have u0 : q9upN w 3 [.int x2] 1 = .int x0 := q9upN_of (by decide) ae0
  have u1 : q9upN w 3 [.int x2] 2 = .int x1 := q9upN_of (by decide) ae1
  have u2 : q9upN w 3 [.int x2] 3 = .int x2 := q9upN_at (by decide)
  refine ⟨[.int x2], fun i9 p9 hq9 => ?_, fun _ h => absurd h List.not_mem_nil, fun _ h => absurd h List.not_mem_nil⟩
  · match i9, hq9 with
    | 0, hq9 =>
      have hp9 : ((1104, (1, 0), (0, 0), (0, 0, 0)) : Nat × q9AV × q9AV × q9ET) = p9 := Option.some.inj hq9
      subst hp9
      exact ⟨⟨x2, rfl, by rw [nt2]; exact rg0.1, by rw [nt2]; exact rg0.2⟩, (q9th_tX (T := T) (N := N) (P := P) (J := J) (t0 := t0) (Sc := Sc) (q9evS u0) (q9evZ u_) (q9evS u2) (by rw [q9FF_1104, nt2]; exact (show some (q9wsI T N 4 x0.toInt) = _ by rw [hn])) (by decide)).trans (congrArg some (q9evS u2))⟩
    | k9 + 1, hq9 => exact nomatch (show (none : Option (Nat × q9AV × q9AV × q9ET)) = some p9 from hq9)
theorem q9ru_wib4 (hT : ∀ i, 0 ≤ T i ∧ T i ≤ 255) (hN : 0 ≤ N ∧ N ≤ 400) (hSc : 0 ≤ Sc 1 ∧ Sc 1 ≤ 400 → N = Sc 1) : q9ruOK (fO T N P J t0 Sc) q9R_wib4 := by
  intro w w0 hA hX hL hV hR
  obtain ⟨x0, ae0, -, -⟩ := hA 0 0 rfl
  have kz : (0 : Int32).toInt = 0 := rfl
  have V0 := q9pV (T := T) (N := N) (P := P) (J := J) (t0 := t0) (Sc := Sc) (op := 1104) (n := 1) (q9evS ae0) (q9evZ w0) (hV _ (List.mem_of_getElem? (i := 0) rfl)) (by decide)
  rw [q9FF_1104] at V0
  have K0 := Option.some.inj V0
  try simp only [kz] at K0
  have L0 : (0 : Int32).toInt ≤ x0.toInt + 0 := q9pC (q9evZ w0) (q9evS ae0) (hL _ (List.mem_of_getElem? (i := 0) rfl))
  have hb := q9ws_b0 (t := 4) (by decide) K0
  have hb : q9byI T N x0.toInt = 102 := hb
  have rg0 : (102 : Int) ≤ 102 ∧ (102 : Int) ≤ 102 := by omega
  obtain ⟨x1, nt1⟩ : ∃ x : Int32, x.toInt = 102 := ⟨Int32.ofInt (102), q9oI_toInt (by omega)⟩
  have u_ : q9upN w 2 [.int x1] 0 = .int 0 := q9upN_of (by decide) w0
  have u0 : q9upN w 2 [.int x1] 1 = .int x0 := q9upN_of (by decide) ae0
  have u1 : q9upN w 2 [.int x1] 2 = .int x1 := q9upN_at (by decide)
  refine ⟨[.int x1], fun i9 p9 hq9 => ?_, fun _ h => absurd h List.not_mem_nil, fun _ h => absurd h List.not_mem_nil⟩
  · match i9, hq9 with
    | 0, hq9 =>
      have hp9 : ((1000, (1, 0), (0, 0), (0, 102, 102)) : Nat × q9AV × q9AV × q9ET) = p9 := Option.some.inj hq9
      subst hp9
      exact ⟨⟨x1, rfl, by rw [nt1]; exact rg0.1, by rw [nt1]; exact rg0.2⟩, (q9th_tX (T := T) (N := N) (P := P) (J := J) (t0 := t0) (Sc := Sc) (q9evS u0) (q9evZ u_) (q9evS u1) (by rw [q9FF_1000, nt1]; exact (by rw [hb])) (by decide)).trans (congrArg some (q9evS u1))⟩
    | k9 + 1, hq9 => exact nomatch (show (none : Option (Nat × q9AV × q9AV × q9ET)) = some p9 from hq9)
theorem q9ru_wcw5 (hT : ∀ i, 0 ≤ T i ∧ T i ≤ 255) (hN : 0 ≤ N ∧ N ≤ 400) (hSc : 0 ≤ Sc 1 ∧ Sc 1 ≤ 400 → N = Sc 1) : q9ruOK (fO T N P J t0 Sc) q9R_wcw5 := by
  intro w w0 hA hX hL hV hR
  obtain ⟨x0, ae0, -, -⟩ := hA 0 0 rfl
  obtain ⟨x1, ae1, -, -⟩ := hA 1 0 rfl
  have kz : (0 : Int32).toInt = 0 := rfl
  have k18727 : (Int32.ofInt 18727).toInt = 18727 := q9oI_toInt (by decide)
  have X0 := q9th_pX (T := T) (N := N) (P := P) (J := J) (t0 := t0) (Sc := Sc) (op := 1008) (q9evS ae0) (q9evZ w0) (q9evS ae1) (hX _ (List.mem_of_getElem? (i := 0) rfl)) (by decide)
  rw [q9FF_1008] at X0
  have H0 := Option.some.inj X0
  try simp only [kz, k18727] at H0
  have L0 : x1.toInt ≤ (Int32.ofInt 18727).toInt + 0 := q9pC (q9evS ae1) (q9evC w0 18727) (hL _ (List.mem_of_getElem? (i := 0) rfl))
  have L1 : (Int32.ofInt 18727).toInt ≤ x1.toInt + 0 := q9pC (q9evC w0 18727) (q9evS ae1) (hL _ (List.mem_of_getElem? (i := 1) rfl))
  have L2 : (0 : Int32).toInt ≤ x0.toInt + 0 := q9pC (q9evZ w0) (q9evS ae0) (hL _ (List.mem_of_getElem? (i := 2) rfl))
  have hw : q9wnI 5 = 18727 := by decide +kernel
  have rg0 : (1 : Int) ≤ 1 ∧ (1 : Int) ≤ 1 := by omega
  obtain ⟨x2, nt2⟩ : ∃ x : Int32, x.toInt = 1 := ⟨Int32.ofInt (1), q9oI_toInt (by omega)⟩
  have u_ : q9upN w 3 [.int x2] 0 = .int 0 := q9upN_of (by decide) w0
  have u0 : q9upN w 3 [.int x2] 1 = .int x0 := q9upN_of (by decide) ae0
  have u1 : q9upN w 3 [.int x2] 2 = .int x1 := q9upN_of (by decide) ae1
  have u2 : q9upN w 3 [.int x2] 3 = .int x2 := q9upN_at (by decide)
  refine ⟨[.int x2], fun i9 p9 hq9 => ?_, fun _ h => absurd h List.not_mem_nil, fun _ h => absurd h List.not_mem_nil⟩
  · match i9, hq9 with
    | 0, hq9 =>
      have hp9 : ((1105, (1, 0), (0, 0), (0, 1, 1)) : Nat × q9AV × q9AV × q9ET) = p9 := Option.some.inj hq9
      subst hp9
      exact ⟨⟨x2, rfl, by rw [nt2]; exact rg0.1, by rw [nt2]; exact rg0.2⟩, (q9th_tX (T := T) (N := N) (P := P) (J := J) (t0 := t0) (Sc := Sc) (q9evS u0) (q9evZ u_) (q9evS u2) (by rw [q9FF_1105, nt2]; exact (show some (q9wsI T N 5 x0.toInt) = _ by rw [q9ws_wc (by decide) |>.mpr (by omega)])) (by decide)).trans (congrArg some (q9evS u2))⟩
    | k9 + 1, hq9 => exact nomatch (show (none : Option (Nat × q9AV × q9AV × q9ET)) = some p9 from hq9)
theorem q9ru_wcl5 (hT : ∀ i, 0 ≤ T i ∧ T i ≤ 255) (hN : 0 ≤ N ∧ N ≤ 400) (hSc : 0 ≤ Sc 1 ∧ Sc 1 ≤ 400 → N = Sc 1) : q9ruOK (fO T N P J t0 Sc) q9R_wcl5 := by
  intro w w0 hA hX hL hV hR
  obtain ⟨x0, ae0, -, -⟩ := hA 0 0 rfl
  obtain ⟨x1, ae1, -, -⟩ := hA 1 0 rfl
  have kz : (0 : Int32).toInt = 0 := rfl
  have k18726 : (Int32.ofInt 18726).toInt = 18726 := q9oI_toInt (by decide)
  have X0 := q9th_pX (T := T) (N := N) (P := P) (J := J) (t0 := t0) (Sc := Sc) (op := 1008) (q9evS ae0) (q9evZ w0) (q9evS ae1) (hX _ (List.mem_of_getElem? (i := 0) rfl)) (by decide)
  rw [q9FF_1008] at X0
  have H0 := Option.some.inj X0
  try simp only [kz, k18726] at H0
  have L0 : x1.toInt ≤ (Int32.ofInt 18726).toInt + 0 := q9pC (q9evS ae1) (q9evC w0 18726) (hL _ (List.mem_of_getElem? (i := 0) rfl))
  have L1 : (0 : Int32).toInt ≤ x0.toInt + 0 := q9pC (q9evZ w0) (q9evS ae0) (hL _ (List.mem_of_getElem? (i := 1) rfl))
  have hw : q9wnI 5 = 18727 := by decide +kernel
  have hn : q9wsI T N 5 x0.toInt = 0 := (q9ws_01 (T := T) (N := N) (t := 5) (i := x0.toInt)).elim (fun h => by have := (q9ws_wc (by decide)).mp h; omega) id
  have rg0 : (0 : Int) ≤ 0 ∧ (0 : Int) ≤ 0 := by omega
  obtain ⟨x2, nt2⟩ : ∃ x : Int32, x.toInt = 0 := ⟨Int32.ofInt (0), q9oI_toInt (by omega)⟩
  have u_ : q9upN w 3 [.int x2] 0 = .int 0 := q9upN_of (by decide) w0
  have u0 : q9upN w 3 [.int x2] 1 = .int x0 := q9upN_of (by decide) ae0
  have u1 : q9upN w 3 [.int x2] 2 = .int x1 := q9upN_of (by decide) ae1
  have u2 : q9upN w 3 [.int x2] 3 = .int x2 := q9upN_at (by decide)
  refine ⟨[.int x2], fun i9 p9 hq9 => ?_, fun _ h => absurd h List.not_mem_nil, fun _ h => absurd h List.not_mem_nil⟩
  · match i9, hq9 with
    | 0, hq9 =>
      have hp9 : ((1105, (1, 0), (0, 0), (0, 0, 0)) : Nat × q9AV × q9AV × q9ET) = p9 := Option.some.inj hq9
      subst hp9
      exact ⟨⟨x2, rfl, by rw [nt2]; exact rg0.1, by rw [nt2]; exact rg0.2⟩, (q9th_tX (T := T) (N := N) (P := P) (J := J) (t0 := t0) (Sc := Sc) (q9evS u0) (q9evZ u_) (q9evS u2) (by rw [q9FF_1105, nt2]; exact (show some (q9wsI T N 5 x0.toInt) = _ by rw [hn])) (by decide)).trans (congrArg some (q9evS u2))⟩
    | k9 + 1, hq9 => exact nomatch (show (none : Option (Nat × q9AV × q9AV × q9ET)) = some p9 from hq9)
theorem q9ru_wch5 (hT : ∀ i, 0 ≤ T i ∧ T i ≤ 255) (hN : 0 ≤ N ∧ N ≤ 400) (hSc : 0 ≤ Sc 1 ∧ Sc 1 ≤ 400 → N = Sc 1) : q9ruOK (fO T N P J t0 Sc) q9R_wch5 := by
  intro w w0 hA hX hL hV hR
  obtain ⟨x0, ae0, -, -⟩ := hA 0 0 rfl
  obtain ⟨x1, ae1, -, -⟩ := hA 1 0 rfl
  have kz : (0 : Int32).toInt = 0 := rfl
  have k18728 : (Int32.ofInt 18728).toInt = 18728 := q9oI_toInt (by decide)
  have X0 := q9th_pX (T := T) (N := N) (P := P) (J := J) (t0 := t0) (Sc := Sc) (op := 1008) (q9evS ae0) (q9evZ w0) (q9evS ae1) (hX _ (List.mem_of_getElem? (i := 0) rfl)) (by decide)
  rw [q9FF_1008] at X0
  have H0 := Option.some.inj X0
  try simp only [kz, k18728] at H0
  have L0 : (Int32.ofInt 18728).toInt ≤ x1.toInt + 0 := q9pC (q9evC w0 18728) (q9evS ae1) (hL _ (List.mem_of_getElem? (i := 0) rfl))
  have L1 : (0 : Int32).toInt ≤ x0.toInt + 0 := q9pC (q9evZ w0) (q9evS ae0) (hL _ (List.mem_of_getElem? (i := 1) rfl))
  have hw : q9wnI 5 = 18727 := by decide +kernel
  have hn : q9wsI T N 5 x0.toInt = 0 := (q9ws_01 (T := T) (N := N) (t := 5) (i := x0.toInt)).elim (fun h => by have := (q9ws_wc (by decide)).mp h; omega) id
  have rg0 : (0 : Int) ≤ 0 ∧ (0 : Int) ≤ 0 := by omega
  obtain ⟨x2, nt2⟩ : ∃ x : Int32, x.toInt = 0 := ⟨Int32.ofInt (0), q9oI_toInt (by omega)⟩
  have u_ : q9upN w 3 [.int x2] 0 = .int 0 := q9upN_of (by decide) w0
  have u0 : q9upN w 3 [.int x2] 1 = .int x0 := q9upN_of (by decide) ae0
  have u1 : q9upN w 3 [.int x2] 2 = .int x1 := q9upN_of (by decide) ae1
  have u2 : q9upN w 3 [.int x2] 3 = .int x2 := q9upN_at (by decide)
  refine ⟨[.int x2], fun i9 p9 hq9 => ?_, fun _ h => absurd h List.not_mem_nil, fun _ h => absurd h List.not_mem_nil⟩
  · match i9, hq9 with
    | 0, hq9 =>
      have hp9 : ((1105, (1, 0), (0, 0), (0, 0, 0)) : Nat × q9AV × q9AV × q9ET) = p9 := Option.some.inj hq9
      subst hp9
      exact ⟨⟨x2, rfl, by rw [nt2]; exact rg0.1, by rw [nt2]; exact rg0.2⟩, (q9th_tX (T := T) (N := N) (P := P) (J := J) (t0 := t0) (Sc := Sc) (q9evS u0) (q9evZ u_) (q9evS u2) (by rw [q9FF_1105, nt2]; exact (show some (q9wsI T N 5 x0.toInt) = _ by rw [hn])) (by decide)).trans (congrArg some (q9evS u2))⟩
    | k9 + 1, hq9 => exact nomatch (show (none : Option (Nat × q9AV × q9AV × q9ET)) = some p9 from hq9)
theorem q9ru_wib5 (hT : ∀ i, 0 ≤ T i ∧ T i ≤ 255) (hN : 0 ≤ N ∧ N ≤ 400) (hSc : 0 ≤ Sc 1 ∧ Sc 1 ≤ 400 → N = Sc 1) : q9ruOK (fO T N P J t0 Sc) q9R_wib5 := by
  intro w w0 hA hX hL hV hR
  obtain ⟨x0, ae0, -, -⟩ := hA 0 0 rfl
  have kz : (0 : Int32).toInt = 0 := rfl
  have V0 := q9pV (T := T) (N := N) (P := P) (J := J) (t0 := t0) (Sc := Sc) (op := 1105) (n := 1) (q9evS ae0) (q9evZ w0) (hV _ (List.mem_of_getElem? (i := 0) rfl)) (by decide)
  rw [q9FF_1105] at V0
  have K0 := Option.some.inj V0
  try simp only [kz] at K0
  have L0 : (0 : Int32).toInt ≤ x0.toInt + 0 := q9pC (q9evZ w0) (q9evS ae0) (hL _ (List.mem_of_getElem? (i := 0) rfl))
  have hb := q9ws_b0 (t := 5) (by decide) K0
  have hb : q9byI T N x0.toInt = 114 := hb
  have rg0 : (114 : Int) ≤ 114 ∧ (114 : Int) ≤ 114 := by omega
  obtain ⟨x1, nt1⟩ : ∃ x : Int32, x.toInt = 114 := ⟨Int32.ofInt (114), q9oI_toInt (by omega)⟩
  have u_ : q9upN w 2 [.int x1] 0 = .int 0 := q9upN_of (by decide) w0
  have u0 : q9upN w 2 [.int x1] 1 = .int x0 := q9upN_of (by decide) ae0
  have u1 : q9upN w 2 [.int x1] 2 = .int x1 := q9upN_at (by decide)
  refine ⟨[.int x1], fun i9 p9 hq9 => ?_, fun _ h => absurd h List.not_mem_nil, fun _ h => absurd h List.not_mem_nil⟩
  · match i9, hq9 with
    | 0, hq9 =>
      have hp9 : ((1000, (1, 0), (0, 0), (0, 114, 114)) : Nat × q9AV × q9AV × q9ET) = p9 := Option.some.inj hq9
      subst hp9
      exact ⟨⟨x1, rfl, by rw [nt1]; exact rg0.1, by rw [nt1]; exact rg0.2⟩, (q9th_tX (T := T) (N := N) (P := P) (J := J) (t0 := t0) (Sc := Sc) (q9evS u0) (q9evZ u_) (q9evS u1) (by rw [q9FF_1000, nt1]; exact (by rw [hb])) (by decide)).trans (congrArg some (q9evS u1))⟩
    | k9 + 1, hq9 => exact nomatch (show (none : Option (Nat × q9AV × q9AV × q9ET)) = some p9 from hq9)
theorem q9ru_wcw6 (hT : ∀ i, 0 ≤ T i ∧ T i ≤ 255) (hN : 0 ≤ N ∧ N ≤ 400) (hSc : 0 ≤ Sc 1 ∧ Sc 1 ≤ 400 → N = Sc 1) : q9ruOK (fO T N P J t0 Sc) q9R_wcw6 := by
  intro w w0 hA hX hL hV hR
  obtain ⟨x0, ae0, -, -⟩ := hA 0 0 rfl
  obtain ⟨x1, ae1, -, -⟩ := hA 1 0 rfl
  have kz : (0 : Int32).toInt = 0 := rfl
  have k102143553 : (Int32.ofInt 102143553).toInt = 102143553 := q9oI_toInt (by decide)
  have X0 := q9th_pX (T := T) (N := N) (P := P) (J := J) (t0 := t0) (Sc := Sc) (op := 1008) (q9evS ae0) (q9evZ w0) (q9evS ae1) (hX _ (List.mem_of_getElem? (i := 0) rfl)) (by decide)
  rw [q9FF_1008] at X0
  have H0 := Option.some.inj X0
  try simp only [kz, k102143553] at H0
  have L0 : x1.toInt ≤ (Int32.ofInt 102143553).toInt + 0 := q9pC (q9evS ae1) (q9evC w0 102143553) (hL _ (List.mem_of_getElem? (i := 0) rfl))
  have L1 : (Int32.ofInt 102143553).toInt ≤ x1.toInt + 0 := q9pC (q9evC w0 102143553) (q9evS ae1) (hL _ (List.mem_of_getElem? (i := 1) rfl))
  have L2 : (0 : Int32).toInt ≤ x0.toInt + 0 := q9pC (q9evZ w0) (q9evS ae0) (hL _ (List.mem_of_getElem? (i := 2) rfl))
  have hw : q9wnI 6 = 102143553 := by decide +kernel
  have rg0 : (1 : Int) ≤ 1 ∧ (1 : Int) ≤ 1 := by omega
  obtain ⟨x2, nt2⟩ : ∃ x : Int32, x.toInt = 1 := ⟨Int32.ofInt (1), q9oI_toInt (by omega)⟩
  have u_ : q9upN w 3 [.int x2] 0 = .int 0 := q9upN_of (by decide) w0
  have u0 : q9upN w 3 [.int x2] 1 = .int x0 := q9upN_of (by decide) ae0
  have u1 : q9upN w 3 [.int x2] 2 = .int x1 := q9upN_of (by decide) ae1
  have u2 : q9upN w 3 [.int x2] 3 = .int x2 := q9upN_at (by decide)
  refine ⟨[.int x2], fun i9 p9 hq9 => ?_, fun _ h => absurd h List.not_mem_nil, fun _ h => absurd h List.not_mem_nil⟩
  · match i9, hq9 with
    | 0, hq9 =>
      have hp9 : ((1106, (1, 0), (0, 0), (0, 1, 1)) : Nat × q9AV × q9AV × q9ET) = p9 := Option.some.inj hq9
      subst hp9
      exact ⟨⟨x2, rfl, by rw [nt2]; exact rg0.1, by rw [nt2]; exact rg0.2⟩, (q9th_tX (T := T) (N := N) (P := P) (J := J) (t0 := t0) (Sc := Sc) (q9evS u0) (q9evZ u_) (q9evS u2) (by rw [q9FF_1106, nt2]; exact (show some (q9wsI T N 6 x0.toInt) = _ by rw [q9ws_wc (by decide) |>.mpr (by omega)])) (by decide)).trans (congrArg some (q9evS u2))⟩
    | k9 + 1, hq9 => exact nomatch (show (none : Option (Nat × q9AV × q9AV × q9ET)) = some p9 from hq9)
theorem q9ru_wcl6 (hT : ∀ i, 0 ≤ T i ∧ T i ≤ 255) (hN : 0 ≤ N ∧ N ≤ 400) (hSc : 0 ≤ Sc 1 ∧ Sc 1 ≤ 400 → N = Sc 1) : q9ruOK (fO T N P J t0 Sc) q9R_wcl6 := by
  intro w w0 hA hX hL hV hR
  obtain ⟨x0, ae0, -, -⟩ := hA 0 0 rfl
  obtain ⟨x1, ae1, -, -⟩ := hA 1 0 rfl
  have kz : (0 : Int32).toInt = 0 := rfl
  have k102143552 : (Int32.ofInt 102143552).toInt = 102143552 := q9oI_toInt (by decide)
  have X0 := q9th_pX (T := T) (N := N) (P := P) (J := J) (t0 := t0) (Sc := Sc) (op := 1008) (q9evS ae0) (q9evZ w0) (q9evS ae1) (hX _ (List.mem_of_getElem? (i := 0) rfl)) (by decide)
  rw [q9FF_1008] at X0
  have H0 := Option.some.inj X0
  try simp only [kz, k102143552] at H0
  have L0 : x1.toInt ≤ (Int32.ofInt 102143552).toInt + 0 := q9pC (q9evS ae1) (q9evC w0 102143552) (hL _ (List.mem_of_getElem? (i := 0) rfl))
  have L1 : (0 : Int32).toInt ≤ x0.toInt + 0 := q9pC (q9evZ w0) (q9evS ae0) (hL _ (List.mem_of_getElem? (i := 1) rfl))
  have hw : q9wnI 6 = 102143553 := by decide +kernel
  have hn : q9wsI T N 6 x0.toInt = 0 := (q9ws_01 (T := T) (N := N) (t := 6) (i := x0.toInt)).elim (fun h => by have := (q9ws_wc (by decide)).mp h; omega) id
  have rg0 : (0 : Int) ≤ 0 ∧ (0 : Int) ≤ 0 := by omega
  obtain ⟨x2, nt2⟩ : ∃ x : Int32, x.toInt = 0 := ⟨Int32.ofInt (0), q9oI_toInt (by omega)⟩
  have u_ : q9upN w 3 [.int x2] 0 = .int 0 := q9upN_of (by decide) w0
  have u0 : q9upN w 3 [.int x2] 1 = .int x0 := q9upN_of (by decide) ae0
  have u1 : q9upN w 3 [.int x2] 2 = .int x1 := q9upN_of (by decide) ae1
  have u2 : q9upN w 3 [.int x2] 3 = .int x2 := q9upN_at (by decide)
  refine ⟨[.int x2], fun i9 p9 hq9 => ?_, fun _ h => absurd h List.not_mem_nil, fun _ h => absurd h List.not_mem_nil⟩
  · match i9, hq9 with
    | 0, hq9 =>
      have hp9 : ((1106, (1, 0), (0, 0), (0, 0, 0)) : Nat × q9AV × q9AV × q9ET) = p9 := Option.some.inj hq9
      subst hp9
      exact ⟨⟨x2, rfl, by rw [nt2]; exact rg0.1, by rw [nt2]; exact rg0.2⟩, (q9th_tX (T := T) (N := N) (P := P) (J := J) (t0 := t0) (Sc := Sc) (q9evS u0) (q9evZ u_) (q9evS u2) (by rw [q9FF_1106, nt2]; exact (show some (q9wsI T N 6 x0.toInt) = _ by rw [hn])) (by decide)).trans (congrArg some (q9evS u2))⟩
    | k9 + 1, hq9 => exact nomatch (show (none : Option (Nat × q9AV × q9AV × q9ET)) = some p9 from hq9)
theorem q9ru_wch6 (hT : ∀ i, 0 ≤ T i ∧ T i ≤ 255) (hN : 0 ≤ N ∧ N ≤ 400) (hSc : 0 ≤ Sc 1 ∧ Sc 1 ≤ 400 → N = Sc 1) : q9ruOK (fO T N P J t0 Sc) q9R_wch6 := by
  intro w w0 hA hX hL hV hR
  obtain ⟨x0, ae0, -, -⟩ := hA 0 0 rfl
  obtain ⟨x1, ae1, -, -⟩ := hA 1 0 rfl
  have kz : (0 : Int32).toInt = 0 := rfl
  have k102143554 : (Int32.ofInt 102143554).toInt = 102143554 := q9oI_toInt (by decide)
  have X0 := q9th_pX (T := T) (N := N) (P := P) (J := J) (t0 := t0) (Sc := Sc) (op := 1008) (q9evS ae0) (q9evZ w0) (q9evS ae1) (hX _ (List.mem_of_getElem? (i := 0) rfl)) (by decide)
  rw [q9FF_1008] at X0
  have H0 := Option.some.inj X0
  try simp only [kz, k102143554] at H0
  have L0 : (Int32.ofInt 102143554).toInt ≤ x1.toInt + 0 := q9pC (q9evC w0 102143554) (q9evS ae1) (hL _ (List.mem_of_getElem? (i := 0) rfl))
  have L1 : (0 : Int32).toInt ≤ x0.toInt + 0 := q9pC (q9evZ w0) (q9evS ae0) (hL _ (List.mem_of_getElem? (i := 1) rfl))
  have hw : q9wnI 6 = 102143553 := by decide +kernel
  have hn : q9wsI T N 6 x0.toInt = 0 := (q9ws_01 (T := T) (N := N) (t := 6) (i := x0.toInt)).elim (fun h => by have := (q9ws_wc (by decide)).mp h; omega) id
  have rg0 : (0 : Int) ≤ 0 ∧ (0 : Int) ≤ 0 := by omega
  obtain ⟨x2, nt2⟩ : ∃ x : Int32, x.toInt = 0 := ⟨Int32.ofInt (0), q9oI_toInt (by omega)⟩
  have u_ : q9upN w 3 [.int x2] 0 = .int 0 := q9upN_of (by decide) w0
  have u0 : q9upN w 3 [.int x2] 1 = .int x0 := q9upN_of (by decide) ae0
  have u1 : q9upN w 3 [.int x2] 2 = .int x1 := q9upN_of (by decide) ae1
  have u2 : q9upN w 3 [.int x2] 3 = .int x2 := q9upN_at (by decide)
  refine ⟨[.int x2], fun i9 p9 hq9 => ?_, fun _ h => absurd h List.not_mem_nil, fun _ h => absurd h List.not_mem_nil⟩
  · match i9, hq9 with
    | 0, hq9 =>
      have hp9 : ((1106, (1, 0), (0, 0), (0, 0, 0)) : Nat × q9AV × q9AV × q9ET) = p9 := Option.some.inj hq9
      subst hp9
      exact ⟨⟨x2, rfl, by rw [nt2]; exact rg0.1, by rw [nt2]; exact rg0.2⟩, (q9th_tX (T := T) (N := N) (P := P) (J := J) (t0 := t0) (Sc := Sc) (q9evS u0) (q9evZ u_) (q9evS u2) (by rw [q9FF_1106, nt2]; exact (show some (q9wsI T N 6 x0.toInt) = _ by rw [hn])) (by decide)).trans (congrArg some (q9evS u2))⟩
    | k9 + 1, hq9 => exact nomatch (show (none : Option (Nat × q9AV × q9AV × q9ET)) = some p9 from hq9)
theorem q9ru_wib6 (hT : ∀ i, 0 ≤ T i ∧ T i ≤ 255) (hN : 0 ≤ N ∧ N ≤ 400) (hSc : 0 ≤ Sc 1 ∧ Sc 1 ≤ 400 → N = Sc 1) : q9ruOK (fO T N P J t0 Sc) q9R_wib6 := by
  intro w w0 hA hX hL hV hR
  obtain ⟨x0, ae0, -, -⟩ := hA 0 0 rfl
  have kz : (0 : Int32).toInt = 0 := rfl
  have V0 := q9pV (T := T) (N := N) (P := P) (J := J) (t0 := t0) (Sc := Sc) (op := 1106) (n := 1) (q9evS ae0) (q9evZ w0) (hV _ (List.mem_of_getElem? (i := 0) rfl)) (by decide)
  rw [q9FF_1106] at V0
  have K0 := Option.some.inj V0
  try simp only [kz] at K0
  have L0 : (0 : Int32).toInt ≤ x0.toInt + 0 := q9pC (q9evZ w0) (q9evS ae0) (hL _ (List.mem_of_getElem? (i := 0) rfl))
  have hb := q9ws_b0 (t := 6) (by decide) K0
  have hb : q9byI T N x0.toInt = 99 := hb
  have rg0 : (99 : Int) ≤ 99 ∧ (99 : Int) ≤ 99 := by omega
  obtain ⟨x1, nt1⟩ : ∃ x : Int32, x.toInt = 99 := ⟨Int32.ofInt (99), q9oI_toInt (by omega)⟩
  have u_ : q9upN w 2 [.int x1] 0 = .int 0 := q9upN_of (by decide) w0
  have u0 : q9upN w 2 [.int x1] 1 = .int x0 := q9upN_of (by decide) ae0
  have u1 : q9upN w 2 [.int x1] 2 = .int x1 := q9upN_at (by decide)
  refine ⟨[.int x1], fun i9 p9 hq9 => ?_, fun _ h => absurd h List.not_mem_nil, fun _ h => absurd h List.not_mem_nil⟩
  · match i9, hq9 with
    | 0, hq9 =>
      have hp9 : ((1000, (1, 0), (0, 0), (0, 99, 99)) : Nat × q9AV × q9AV × q9ET) = p9 := Option.some.inj hq9
      subst hp9
      exact ⟨⟨x1, rfl, by rw [nt1]; exact rg0.1, by rw [nt1]; exact rg0.2⟩, (q9th_tX (T := T) (N := N) (P := P) (J := J) (t0 := t0) (Sc := Sc) (q9evS u0) (q9evZ u_) (q9evS u1) (by rw [q9FF_1000, nt1]; exact (by rw [hb])) (by decide)).trans (congrArg some (q9evS u1))⟩
    | k9 + 1, hq9 => exact nomatch (show (none : Option (Nat × q9AV × q9AV × q9ET)) = some p9 from hq9)
theorem q9ru_wcw7 (hT : ∀ i, 0 ≤ T i ∧ T i ≤ 255) (hN : 0 ≤ N ∧ N ≤ 400) (hSc : 0 ≤ Sc 1 ∧ Sc 1 ≤ 400 → N = Sc 1) : q9ruOK (fO T N P J t0 Sc) q9R_wcw7 := by
  intro w w0 hA hX hL hV hR
  obtain ⟨x0, ae0, -, -⟩ := hA 0 0 rfl
  obtain ⟨x1, ae1, -, -⟩ := hA 1 0 rfl
  have kz : (0 : Int32).toInt = 0 := rfl
  have k609752116 : (Int32.ofInt 609752116).toInt = 609752116 := q9oI_toInt (by decide)
  have X0 := q9th_pX (T := T) (N := N) (P := P) (J := J) (t0 := t0) (Sc := Sc) (op := 1008) (q9evS ae0) (q9evZ w0) (q9evS ae1) (hX _ (List.mem_of_getElem? (i := 0) rfl)) (by decide)
  rw [q9FF_1008] at X0
  have H0 := Option.some.inj X0
  try simp only [kz, k609752116] at H0
  have L0 : x1.toInt ≤ (Int32.ofInt 609752116).toInt + 0 := q9pC (q9evS ae1) (q9evC w0 609752116) (hL _ (List.mem_of_getElem? (i := 0) rfl))
  have L1 : (Int32.ofInt 609752116).toInt ≤ x1.toInt + 0 := q9pC (q9evC w0 609752116) (q9evS ae1) (hL _ (List.mem_of_getElem? (i := 1) rfl))
  have L2 : (0 : Int32).toInt ≤ x0.toInt + 0 := q9pC (q9evZ w0) (q9evS ae0) (hL _ (List.mem_of_getElem? (i := 2) rfl))
  have hw : q9wnI 7 = 609752116 := by decide +kernel
  have rg0 : (1 : Int) ≤ 1 ∧ (1 : Int) ≤ 1 := by omega
  obtain ⟨x2, nt2⟩ : ∃ x : Int32, x.toInt = 1 := ⟨Int32.ofInt (1), q9oI_toInt (by omega)⟩
  have u_ : q9upN w 3 [.int x2] 0 = .int 0 := q9upN_of (by decide) w0
  have u0 : q9upN w 3 [.int x2] 1 = .int x0 := q9upN_of (by decide) ae0
  have u1 : q9upN w 3 [.int x2] 2 = .int x1 := q9upN_of (by decide) ae1
  have u2 : q9upN w 3 [.int x2] 3 = .int x2 := q9upN_at (by decide)
  refine ⟨[.int x2], fun i9 p9 hq9 => ?_, fun _ h => absurd h List.not_mem_nil, fun _ h => absurd h List.not_mem_nil⟩
  · match i9, hq9 with
    | 0, hq9 =>
      have hp9 : ((1107, (1, 0), (0, 0), (0, 1, 1)) : Nat × q9AV × q9AV × q9ET) = p9 := Option.some.inj hq9
      subst hp9
      exact ⟨⟨x2, rfl, by rw [nt2]; exact rg0.1, by rw [nt2]; exact rg0.2⟩, (q9th_tX (T := T) (N := N) (P := P) (J := J) (t0 := t0) (Sc := Sc) (q9evS u0) (q9evZ u_) (q9evS u2) (by rw [q9FF_1107, nt2]; exact (show some (q9wsI T N 7 x0.toInt) = _ by rw [q9ws_wc (by decide) |>.mpr (by omega)])) (by decide)).trans (congrArg some (q9evS u2))⟩
    | k9 + 1, hq9 => exact nomatch (show (none : Option (Nat × q9AV × q9AV × q9ET)) = some p9 from hq9)
theorem q9ru_wcl7 (hT : ∀ i, 0 ≤ T i ∧ T i ≤ 255) (hN : 0 ≤ N ∧ N ≤ 400) (hSc : 0 ≤ Sc 1 ∧ Sc 1 ≤ 400 → N = Sc 1) : q9ruOK (fO T N P J t0 Sc) q9R_wcl7 := by
  intro w w0 hA hX hL hV hR
  obtain ⟨x0, ae0, -, -⟩ := hA 0 0 rfl
  obtain ⟨x1, ae1, -, -⟩ := hA 1 0 rfl
  have kz : (0 : Int32).toInt = 0 := rfl
  have k609752115 : (Int32.ofInt 609752115).toInt = 609752115 := q9oI_toInt (by decide)
  have X0 := q9th_pX (T := T) (N := N) (P := P) (J := J) (t0 := t0) (Sc := Sc) (op := 1008) (q9evS ae0) (q9evZ w0) (q9evS ae1) (hX _ (List.mem_of_getElem? (i := 0) rfl)) (by decide)
  rw [q9FF_1008] at X0
  have H0 := Option.some.inj X0
  try simp only [kz, k609752115] at H0
  have L0 : x1.toInt ≤ (Int32.ofInt 609752115).toInt + 0 := q9pC (q9evS ae1) (q9evC w0 609752115) (hL _ (List.mem_of_getElem? (i := 0) rfl))
  have L1 : (0 : Int32).toInt ≤ x0.toInt + 0 := q9pC (q9evZ w0) (q9evS ae0) (hL _ (List.mem_of_getElem? (i := 1) rfl))
  have hw : q9wnI 7 = 609752116 := by decide +kernel
  have hn : q9wsI T N 7 x0.toInt = 0 := (q9ws_01 (T := T) (N := N) (t := 7) (i := x0.toInt)).elim (fun h => by have := (q9ws_wc (by decide)).mp h; omega) id
  have rg0 : (0 : Int) ≤ 0 ∧ (0 : Int) ≤ 0 := by omega
  obtain ⟨x2, nt2⟩ : ∃ x : Int32, x.toInt = 0 := ⟨Int32.ofInt (0), q9oI_toInt (by omega)⟩
  have u_ : q9upN w 3 [.int x2] 0 = .int 0 := q9upN_of (by decide) w0
  have u0 : q9upN w 3 [.int x2] 1 = .int x0 := q9upN_of (by decide) ae0
  have u1 : q9upN w 3 [.int x2] 2 = .int x1 := q9upN_of (by decide) ae1
  have u2 : q9upN w 3 [.int x2] 3 = .int x2 := q9upN_at (by decide)
  refine ⟨[.int x2], fun i9 p9 hq9 => ?_, fun _ h => absurd h List.not_mem_nil, fun _ h => absurd h List.not_mem_nil⟩
  · match i9, hq9 with
    | 0, hq9 =>
      have hp9 : ((1107, (1, 0), (0, 0), (0, 0, 0)) : Nat × q9AV × q9AV × q9ET) = p9 := Option.some.inj hq9
      subst hp9
      exact ⟨⟨x2, rfl, by rw [nt2]; exact rg0.1, by rw [nt2]; exact rg0.2⟩, (q9th_tX (T := T) (N := N) (P := P) (J := J) (t0 := t0) (Sc := Sc) (q9evS u0) (q9evZ u_) (q9evS u2) (by rw [q9FF_1107, nt2]; exact (show some (q9wsI T N 7 x0.toInt) = _ by rw [hn])) (by decide)).trans (congrArg some (q9evS u2))⟩
    | k9 + 1, hq9 => exact nomatch (show (none : Option (Nat × q9AV × q9AV × q9ET)) = some p9 from hq9)
theorem q9ru_wch7 (hT : ∀ i, 0 ≤ T i ∧ T i ≤ 255) (hN : 0 ≤ N ∧ N ≤ 400) (hSc : 0 ≤ Sc 1 ∧ Sc 1 ≤ 400 → N = Sc 1) : q9ruOK (fO T N P J t0 Sc) q9R_wch7 := by
  intro w w0 hA hX hL hV hR
  obtain ⟨x0, ae0, -, -⟩ := hA 0 0 rfl
  obtain ⟨x1, ae1, -, -⟩ := hA 1 0 rfl
  have kz : (0 : Int32).toInt = 0 := rfl
  have k609752117 : (Int32.ofInt 609752117).toInt = 609752117 := q9oI_toInt (by decide)
  have X0 := q9th_pX (T := T) (N := N) (P := P) (J := J) (t0 := t0) (Sc := Sc) (op := 1008) (q9evS ae0) (q9evZ w0) (q9evS ae1) (hX _ (List.mem_of_getElem? (i := 0) rfl)) (by decide)
  rw [q9FF_1008] at X0
  have H0 := Option.some.inj X0
  try simp only [kz, k609752117] at H0
  have L0 : (Int32.ofInt 609752117).toInt ≤ x1.toInt + 0 := q9pC (q9evC w0 609752117) (q9evS ae1) (hL _ (List.mem_of_getElem? (i := 0) rfl))
  have L1 : (0 : Int32).toInt ≤ x0.toInt + 0 := q9pC (q9evZ w0) (q9evS ae0) (hL _ (List.mem_of_getElem? (i := 1) rfl))
  have hw : q9wnI 7 = 609752116 := by decide +kernel
  have hn : q9wsI T N 7 x0.toInt = 0 := (q9ws_01 (T := T) (N := N) (t := 7) (i := x0.toInt)).elim (fun h => by have := (q9ws_wc (by decide)).mp h; omega) id
  have rg0 : (0 : Int) ≤ 0 ∧ (0 : Int) ≤ 0 := by omega
  obtain ⟨x2, nt2⟩ : ∃ x : Int32, x.toInt = 0 := ⟨Int32.ofInt (0), q9oI_toInt (by omega)⟩
  have u_ : q9upN w 3 [.int x2] 0 = .int 0 := q9upN_of (by decide) w0
  have u0 : q9upN w 3 [.int x2] 1 = .int x0 := q9upN_of (by decide) ae0
  have u1 : q9upN w 3 [.int x2] 2 = .int x1 := q9upN_of (by decide) ae1
  have u2 : q9upN w 3 [.int x2] 3 = .int x2 := q9upN_at (by decide)
  refine ⟨[.int x2], fun i9 p9 hq9 => ?_, fun _ h => absurd h List.not_mem_nil, fun _ h => absurd h List.not_mem_nil⟩
  · match i9, hq9 with
    | 0, hq9 =>
      have hp9 : ((1107, (1, 0), (0, 0), (0, 0, 0)) : Nat × q9AV × q9AV × q9ET) = p9 := Option.some.inj hq9
      subst hp9
      exact ⟨⟨x2, rfl, by rw [nt2]; exact rg0.1, by rw [nt2]; exact rg0.2⟩, (q9th_tX (T := T) (N := N) (P := P) (J := J) (t0 := t0) (Sc := Sc) (q9evS u0) (q9evZ u_) (q9evS u2) (by rw [q9FF_1107, nt2]; exact (show some (q9wsI T N 7 x0.toInt) = _ by rw [hn])) (by decide)).trans (congrArg some (q9evS u2))⟩
    | k9 + 1, hq9 => exact nomatch (show (none : Option (Nat × q9AV × q9AV × q9ET)) = some p9 from hq9)
theorem q9ru_wib7 (hT : ∀ i, 0 ≤ T i ∧ T i ≤ 255) (hN : 0 ≤ N ∧ N ≤ 400) (hSc : 0 ≤ Sc 1 ∧ Sc 1 ≤ 400 → N = Sc 1) : q9ruOK (fO T N P J t0 Sc) q9R_wib7 := by
  intro w w0 hA hX hL hV hR
  obtain ⟨x0, ae0, -, -⟩ := hA 0 0 rfl
  have kz : (0 : Int32).toInt = 0 := rfl
  have V0 := q9pV (T := T) (N := N) (P := P) (J := J) (t0 := t0) (Sc := Sc) (op := 1107) (n := 1) (q9evS ae0) (q9evZ w0) (hV _ (List.mem_of_getElem? (i := 0) rfl)) (by decide)
  rw [q9FF_1107] at V0
  have K0 := Option.some.inj V0
  try simp only [kz] at K0
  have L0 : (0 : Int32).toInt ≤ x0.toInt + 0 := q9pC (q9evZ w0) (q9evS ae0) (hL _ (List.mem_of_getElem? (i := 0) rfl))
  have hb := q9ws_b0 (t := 7) (by decide) K0
  have hb : q9byI T N x0.toInt = 114 := hb
  have rg0 : (114 : Int) ≤ 114 ∧ (114 : Int) ≤ 114 := by omega
  obtain ⟨x1, nt1⟩ : ∃ x : Int32, x.toInt = 114 := ⟨Int32.ofInt (114), q9oI_toInt (by omega)⟩
  have u_ : q9upN w 2 [.int x1] 0 = .int 0 := q9upN_of (by decide) w0
  have u0 : q9upN w 2 [.int x1] 1 = .int x0 := q9upN_of (by decide) ae0
  have u1 : q9upN w 2 [.int x1] 2 = .int x1 := q9upN_at (by decide)
  refine ⟨[.int x1], fun i9 p9 hq9 => ?_, fun _ h => absurd h List.not_mem_nil, fun _ h => absurd h List.not_mem_nil⟩
  · match i9, hq9 with
    | 0, hq9 =>
      have hp9 : ((1000, (1, 0), (0, 0), (0, 114, 114)) : Nat × q9AV × q9AV × q9ET) = p9 := Option.some.inj hq9
      subst hp9
      exact ⟨⟨x1, rfl, by rw [nt1]; exact rg0.1, by rw [nt1]; exact rg0.2⟩, (q9th_tX (T := T) (N := N) (P := P) (J := J) (t0 := t0) (Sc := Sc) (q9evS u0) (q9evZ u_) (q9evS u1) (by rw [q9FF_1000, nt1]; exact (by rw [hb])) (by decide)).trans (congrArg some (q9evS u1))⟩
    | k9 + 1, hq9 => exact nomatch (show (none : Option (Nat × q9AV × q9AV × q9ET)) = some p9 from hq9)
theorem q9ru_wcw8 (hT : ∀ i, 0 ≤ T i ∧ T i ≤ 255) (hN : 0 ≤ N ∧ N ≤ 400) (hSc : 0 ≤ Sc 1 ∧ Sc 1 ≤ 400 → N = Sc 1) : q9ruOK (fO T N P J t0 Sc) q9R_wcw8 := by
  intro w w0 hA hX hL hV hR
  obtain ⟨x0, ae0, -, -⟩ := hA 0 0 rfl
  obtain ⟨x1, ae1, -, -⟩ := hA 1 0 rfl
  have kz : (0 : Int32).toInt = 0 := rfl
  have k302 : (Int32.ofInt 302).toInt = 302 := q9oI_toInt (by decide)
  have X0 := q9th_pX (T := T) (N := N) (P := P) (J := J) (t0 := t0) (Sc := Sc) (op := 1008) (q9evS ae0) (q9evZ w0) (q9evS ae1) (hX _ (List.mem_of_getElem? (i := 0) rfl)) (by decide)
  rw [q9FF_1008] at X0
  have H0 := Option.some.inj X0
  try simp only [kz, k302] at H0
  have L0 : x1.toInt ≤ (Int32.ofInt 302).toInt + 0 := q9pC (q9evS ae1) (q9evC w0 302) (hL _ (List.mem_of_getElem? (i := 0) rfl))
  have L1 : (Int32.ofInt 302).toInt ≤ x1.toInt + 0 := q9pC (q9evC w0 302) (q9evS ae1) (hL _ (List.mem_of_getElem? (i := 1) rfl))
  have L2 : (0 : Int32).toInt ≤ x0.toInt + 0 := q9pC (q9evZ w0) (q9evS ae0) (hL _ (List.mem_of_getElem? (i := 2) rfl))
  have hw : q9wnI 8 = 302 := by decide +kernel
  have rg0 : (1 : Int) ≤ 1 ∧ (1 : Int) ≤ 1 := by omega
  obtain ⟨x2, nt2⟩ : ∃ x : Int32, x.toInt = 1 := ⟨Int32.ofInt (1), q9oI_toInt (by omega)⟩
  have u_ : q9upN w 3 [.int x2] 0 = .int 0 := q9upN_of (by decide) w0
  have u0 : q9upN w 3 [.int x2] 1 = .int x0 := q9upN_of (by decide) ae0
  have u1 : q9upN w 3 [.int x2] 2 = .int x1 := q9upN_of (by decide) ae1
  have u2 : q9upN w 3 [.int x2] 3 = .int x2 := q9upN_at (by decide)
  refine ⟨[.int x2], fun i9 p9 hq9 => ?_, fun _ h => absurd h List.not_mem_nil, fun _ h => absurd h List.not_mem_nil⟩
  · match i9, hq9 with
    | 0, hq9 =>
      have hp9 : ((1108, (1, 0), (0, 0), (0, 1, 1)) : Nat × q9AV × q9AV × q9ET) = p9 := Option.some.inj hq9
      subst hp9
      exact ⟨⟨x2, rfl, by rw [nt2]; exact rg0.1, by rw [nt2]; exact rg0.2⟩, (q9th_tX (T := T) (N := N) (P := P) (J := J) (t0 := t0) (Sc := Sc) (q9evS u0) (q9evZ u_) (q9evS u2) (by rw [q9FF_1108, nt2]; exact (show some (q9wsI T N 8 x0.toInt) = _ by rw [q9ws_wc (by decide) |>.mpr (by omega)])) (by decide)).trans (congrArg some (q9evS u2))⟩
    | k9 + 1, hq9 => exact nomatch (show (none : Option (Nat × q9AV × q9AV × q9ET)) = some p9 from hq9)
theorem q9ru_wcl8 (hT : ∀ i, 0 ≤ T i ∧ T i ≤ 255) (hN : 0 ≤ N ∧ N ≤ 400) (hSc : 0 ≤ Sc 1 ∧ Sc 1 ≤ 400 → N = Sc 1) : q9ruOK (fO T N P J t0 Sc) q9R_wcl8 := by
  intro w w0 hA hX hL hV hR
  obtain ⟨x0, ae0, -, -⟩ := hA 0 0 rfl
  obtain ⟨x1, ae1, -, -⟩ := hA 1 0 rfl
  have kz : (0 : Int32).toInt = 0 := rfl
  have k301 : (Int32.ofInt 301).toInt = 301 := q9oI_toInt (by decide)
  have X0 := q9th_pX (T := T) (N := N) (P := P) (J := J) (t0 := t0) (Sc := Sc) (op := 1008) (q9evS ae0) (q9evZ w0) (q9evS ae1) (hX _ (List.mem_of_getElem? (i := 0) rfl)) (by decide)
  rw [q9FF_1008] at X0
  have H0 := Option.some.inj X0
  try simp only [kz, k301] at H0
  have L0 : x1.toInt ≤ (Int32.ofInt 301).toInt + 0 := q9pC (q9evS ae1) (q9evC w0 301) (hL _ (List.mem_of_getElem? (i := 0) rfl))
  have L1 : (0 : Int32).toInt ≤ x0.toInt + 0 := q9pC (q9evZ w0) (q9evS ae0) (hL _ (List.mem_of_getElem? (i := 1) rfl))
  have hw : q9wnI 8 = 302 := by decide +kernel
  have hn : q9wsI T N 8 x0.toInt = 0 := (q9ws_01 (T := T) (N := N) (t := 8) (i := x0.toInt)).elim (fun h => by have := (q9ws_wc (by decide)).mp h; omega) id
  have rg0 : (0 : Int) ≤ 0 ∧ (0 : Int) ≤ 0 := by omega
  obtain ⟨x2, nt2⟩ : ∃ x : Int32, x.toInt = 0 := ⟨Int32.ofInt (0), q9oI_toInt (by omega)⟩
  have u_ : q9upN w 3 [.int x2] 0 = .int 0 := q9upN_of (by decide) w0
  have u0 : q9upN w 3 [.int x2] 1 = .int x0 := q9upN_of (by decide) ae0
  have u1 : q9upN w 3 [.int x2] 2 = .int x1 := q9upN_of (by decide) ae1
  have u2 : q9upN w 3 [.int x2] 3 = .int x2 := q9upN_at (by decide)
  refine ⟨[.int x2], fun i9 p9 hq9 => ?_, fun _ h => absurd h List.not_mem_nil, fun _ h => absurd h List.not_mem_nil⟩
  · match i9, hq9 with
    | 0, hq9 =>
      have hp9 : ((1108, (1, 0), (0, 0), (0, 0, 0)) : Nat × q9AV × q9AV × q9ET) = p9 := Option.some.inj hq9
      subst hp9
      exact ⟨⟨x2, rfl, by rw [nt2]; exact rg0.1, by rw [nt2]; exact rg0.2⟩, (q9th_tX (T := T) (N := N) (P := P) (J := J) (t0 := t0) (Sc := Sc) (q9evS u0) (q9evZ u_) (q9evS u2) (by rw [q9FF_1108, nt2]; exact (show some (q9wsI T N 8 x0.toInt) = _ by rw [hn])) (by decide)).trans (congrArg some (q9evS u2))⟩
    | k9 + 1, hq9 => exact nomatch (show (none : Option (Nat × q9AV × q9AV × q9ET)) = some p9 from hq9)
theorem q9ru_wch8 (hT : ∀ i, 0 ≤ T i ∧ T i ≤ 255) (hN : 0 ≤ N ∧ N ≤ 400) (hSc : 0 ≤ Sc 1 ∧ Sc 1 ≤ 400 → N = Sc 1) : q9ruOK (fO T N P J t0 Sc) q9R_wch8 := by
  intro w w0 hA hX hL hV hR
  obtain ⟨x0, ae0, -, -⟩ := hA 0 0 rfl
  obtain ⟨x1, ae1, -, -⟩ := hA 1 0 rfl
  have kz : (0 : Int32).toInt = 0 := rfl
  have k303 : (Int32.ofInt 303).toInt = 303 := q9oI_toInt (by decide)
  have X0 := q9th_pX (T := T) (N := N) (P := P) (J := J) (t0 := t0) (Sc := Sc) (op := 1008) (q9evS ae0) (q9evZ w0) (q9evS ae1) (hX _ (List.mem_of_getElem? (i := 0) rfl)) (by decide)
  rw [q9FF_1008] at X0
  have H0 := Option.some.inj X0
  try simp only [kz, k303] at H0
  have L0 : (Int32.ofInt 303).toInt ≤ x1.toInt + 0 := q9pC (q9evC w0 303) (q9evS ae1) (hL _ (List.mem_of_getElem? (i := 0) rfl))
  have L1 : (0 : Int32).toInt ≤ x0.toInt + 0 := q9pC (q9evZ w0) (q9evS ae0) (hL _ (List.mem_of_getElem? (i := 1) rfl))
  have hw : q9wnI 8 = 302 := by decide +kernel
  have hn : q9wsI T N 8 x0.toInt = 0 := (q9ws_01 (T := T) (N := N) (t := 8) (i := x0.toInt)).elim (fun h => by have := (q9ws_wc (by decide)).mp h; omega) id
  have rg0 : (0 : Int) ≤ 0 ∧ (0 : Int) ≤ 0 := by omega
  obtain ⟨x2, nt2⟩ : ∃ x : Int32, x.toInt = 0 := ⟨Int32.ofInt (0), q9oI_toInt (by omega)⟩
  have u_ : q9upN w 3 [.int x2] 0 = .int 0 := q9upN_of (by decide) w0
  have u0 : q9upN w 3 [.int x2] 1 = .int x0 := q9upN_of (by decide) ae0
  have u1 : q9upN w 3 [.int x2] 2 = .int x1 := q9upN_of (by decide) ae1
  have u2 : q9upN w 3 [.int x2] 3 = .int x2 := q9upN_at (by decide)
  refine ⟨[.int x2], fun i9 p9 hq9 => ?_, fun _ h => absurd h List.not_mem_nil, fun _ h => absurd h List.not_mem_nil⟩
  · match i9, hq9 with
    | 0, hq9 =>
      have hp9 : ((1108, (1, 0), (0, 0), (0, 0, 0)) : Nat × q9AV × q9AV × q9ET) = p9 := Option.some.inj hq9
      subst hp9
      exact ⟨⟨x2, rfl, by rw [nt2]; exact rg0.1, by rw [nt2]; exact rg0.2⟩, (q9th_tX (T := T) (N := N) (P := P) (J := J) (t0 := t0) (Sc := Sc) (q9evS u0) (q9evZ u_) (q9evS u2) (by rw [q9FF_1108, nt2]; exact (show some (q9wsI T N 8 x0.toInt) = _ by rw [hn])) (by decide)).trans (congrArg some (q9evS u2))⟩
    | k9 + 1, hq9 => exact nomatch (show (none : Option (Nat × q9AV × q9AV × q9ET)) = some p9 from hq9)
theorem q9ru_wib8 (hT : ∀ i, 0 ≤ T i ∧ T i ≤ 255) (hN : 0 ≤ N ∧ N ≤ 400) (hSc : 0 ≤ Sc 1 ∧ Sc 1 ≤ 400 → N = Sc 1) : q9ruOK (fO T N P J t0 Sc) q9R_wib8 := by
  intro w w0 hA hX hL hV hR
  obtain ⟨x0, ae0, -, -⟩ := hA 0 0 rfl
  have kz : (0 : Int32).toInt = 0 := rfl
  have V0 := q9pV (T := T) (N := N) (P := P) (J := J) (t0 := t0) (Sc := Sc) (op := 1108) (n := 1) (q9evS ae0) (q9evZ w0) (hV _ (List.mem_of_getElem? (i := 0) rfl)) (by decide)
  rw [q9FF_1108] at V0
  have K0 := Option.some.inj V0
  try simp only [kz] at K0
  have L0 : (0 : Int32).toInt ≤ x0.toInt + 0 := q9pC (q9evZ w0) (q9evS ae0) (hL _ (List.mem_of_getElem? (i := 0) rfl))
  have hb := q9ws_b0 (t := 8) (by decide) K0
  have hb : q9byI T N x0.toInt = 105 := hb
  have rg0 : (105 : Int) ≤ 105 ∧ (105 : Int) ≤ 105 := by omega
  obtain ⟨x1, nt1⟩ : ∃ x : Int32, x.toInt = 105 := ⟨Int32.ofInt (105), q9oI_toInt (by omega)⟩
  have u_ : q9upN w 2 [.int x1] 0 = .int 0 := q9upN_of (by decide) w0
  have u0 : q9upN w 2 [.int x1] 1 = .int x0 := q9upN_of (by decide) ae0
  have u1 : q9upN w 2 [.int x1] 2 = .int x1 := q9upN_at (by decide)
  refine ⟨[.int x1], fun i9 p9 hq9 => ?_, fun _ h => absurd h List.not_mem_nil, fun _ h => absurd h List.not_mem_nil⟩
  · match i9, hq9 with
    | 0, hq9 =>
      have hp9 : ((1000, (1, 0), (0, 0), (0, 105, 105)) : Nat × q9AV × q9AV × q9ET) = p9 := Option.some.inj hq9
      subst hp9
      exact ⟨⟨x1, rfl, by rw [nt1]; exact rg0.1, by rw [nt1]; exact rg0.2⟩, (q9th_tX (T := T) (N := N) (P := P) (J := J) (t0 := t0) (Sc := Sc) (q9evS u0) (q9evZ u_) (q9evS u1) (by rw [q9FF_1000, nt1]; exact (by rw [hb])) (by decide)).trans (congrArg some (q9evS u1))⟩
    | k9 + 1, hq9 => exact nomatch (show (none : Option (Nat × q9AV × q9AV × q9ET)) = some p9 from hq9)
theorem q9ru_wcw9 (hT : ∀ i, 0 ≤ T i ∧ T i ≤ 255) (hN : 0 ≤ N ∧ N ≤ 400) (hSc : 0 ≤ Sc 1 ∧ Sc 1 ≤ 400 → N = Sc 1) : q9ruOK (fO T N P J t0 Sc) q9R_wcw9 := by
  intro w w0 hA hX hL hV hR
  obtain ⟨x0, ae0, -, -⟩ := hA 0 0 rfl
  obtain ⟨x1, ae1, -, -⟩ := hA 1 0 rfl
  have kz : (0 : Int32).toInt = 0 := rfl
  have k635383 : (Int32.ofInt 635383).toInt = 635383 := q9oI_toInt (by decide)
  have X0 := q9th_pX (T := T) (N := N) (P := P) (J := J) (t0 := t0) (Sc := Sc) (op := 1008) (q9evS ae0) (q9evZ w0) (q9evS ae1) (hX _ (List.mem_of_getElem? (i := 0) rfl)) (by decide)
  rw [q9FF_1008] at X0
  have H0 := Option.some.inj X0
  try simp only [kz, k635383] at H0
  have L0 : x1.toInt ≤ (Int32.ofInt 635383).toInt + 0 := q9pC (q9evS ae1) (q9evC w0 635383) (hL _ (List.mem_of_getElem? (i := 0) rfl))
  have L1 : (Int32.ofInt 635383).toInt ≤ x1.toInt + 0 := q9pC (q9evC w0 635383) (q9evS ae1) (hL _ (List.mem_of_getElem? (i := 1) rfl))
  have L2 : (0 : Int32).toInt ≤ x0.toInt + 0 := q9pC (q9evZ w0) (q9evS ae0) (hL _ (List.mem_of_getElem? (i := 2) rfl))
  have hw : q9wnI 9 = 635383 := by decide +kernel
  have rg0 : (1 : Int) ≤ 1 ∧ (1 : Int) ≤ 1 := by omega
  obtain ⟨x2, nt2⟩ : ∃ x : Int32, x.toInt = 1 := ⟨Int32.ofInt (1), q9oI_toInt (by omega)⟩
  have u_ : q9upN w 3 [.int x2] 0 = .int 0 := q9upN_of (by decide) w0
  have u0 : q9upN w 3 [.int x2] 1 = .int x0 := q9upN_of (by decide) ae0
  have u1 : q9upN w 3 [.int x2] 2 = .int x1 := q9upN_of (by decide) ae1
  have u2 : q9upN w 3 [.int x2] 3 = .int x2 := q9upN_at (by decide)
  refine ⟨[.int x2], fun i9 p9 hq9 => ?_, fun _ h => absurd h List.not_mem_nil, fun _ h => absurd h List.not_mem_nil⟩
  · match i9, hq9 with
    | 0, hq9 =>
      have hp9 : ((1109, (1, 0), (0, 0), (0, 1, 1)) : Nat × q9AV × q9AV × q9ET) = p9 := Option.some.inj hq9
      subst hp9
      exact ⟨⟨x2, rfl, by rw [nt2]; exact rg0.1, by rw [nt2]; exact rg0.2⟩, (q9th_tX (T := T) (N := N) (P := P) (J := J) (t0 := t0) (Sc := Sc) (q9evS u0) (q9evZ u_) (q9evS u2) (by rw [q9FF_1109, nt2]; exact (show some (q9wsI T N 9 x0.toInt) = _ by rw [q9ws_wc (by decide) |>.mpr (by omega)])) (by decide)).trans (congrArg some (q9evS u2))⟩
    | k9 + 1, hq9 => exact nomatch (show (none : Option (Nat × q9AV × q9AV × q9ET)) = some p9 from hq9)
theorem q9ru_wcl9 (hT : ∀ i, 0 ≤ T i ∧ T i ≤ 255) (hN : 0 ≤ N ∧ N ≤ 400) (hSc : 0 ≤ Sc 1 ∧ Sc 1 ≤ 400 → N = Sc 1) : q9ruOK (fO T N P J t0 Sc) q9R_wcl9 := by
  intro w w0 hA hX hL hV hR
  obtain ⟨x0, ae0, -, -⟩ := hA 0 0 rfl
  obtain ⟨x1, ae1, -, -⟩ := hA 1 0 rfl
  have kz : (0 : Int32).toInt = 0 := rfl
  have k635382 : (Int32.ofInt 635382).toInt = 635382 := q9oI_toInt (by decide)
  have X0 := q9th_pX (T := T) (N := N) (P := P) (J := J) (t0 := t0) (Sc := Sc) (op := 1008) (q9evS ae0) (q9evZ w0) (q9evS ae1) (hX _ (List.mem_of_getElem? (i := 0) rfl)) (by decide)
  rw [q9FF_1008] at X0
  have H0 := Option.some.inj X0
  try simp only [kz, k635382] at H0
  have L0 : x1.toInt ≤ (Int32.ofInt 635382).toInt + 0 := q9pC (q9evS ae1) (q9evC w0 635382) (hL _ (List.mem_of_getElem? (i := 0) rfl))
  have L1 : (0 : Int32).toInt ≤ x0.toInt + 0 := q9pC (q9evZ w0) (q9evS ae0) (hL _ (List.mem_of_getElem? (i := 1) rfl))
  have hw : q9wnI 9 = 635383 := by decide +kernel
  have hn : q9wsI T N 9 x0.toInt = 0 := (q9ws_01 (T := T) (N := N) (t := 9) (i := x0.toInt)).elim (fun h => by have := (q9ws_wc (by decide)).mp h; omega) id
  have rg0 : (0 : Int) ≤ 0 ∧ (0 : Int) ≤ 0 := by omega
  obtain ⟨x2, nt2⟩ : ∃ x : Int32, x.toInt = 0 := ⟨Int32.ofInt (0), q9oI_toInt (by omega)⟩
  have u_ : q9upN w 3 [.int x2] 0 = .int 0 := q9upN_of (by decide) w0
  have u0 : q9upN w 3 [.int x2] 1 = .int x0 := q9upN_of (by decide) ae0
  have u1 : q9upN w 3 [.int x2] 2 = .int x1 := q9upN_of (by decide) ae1
  have u2 : q9upN w 3 [.int x2] 3 = .int x2 := q9upN_at (by decide)
  refine ⟨[.int x2], fun i9 p9 hq9 => ?_, fun _ h => absurd h List.not_mem_nil, fun _ h => absurd h List.not_mem_nil⟩
  · match i9, hq9 with
    | 0, hq9 =>
      have hp9 : ((1109, (1, 0), (0, 0), (0, 0, 0)) : Nat × q9AV × q9AV × q9ET) = p9 := Option.some.inj hq9
      subst hp9
      exact ⟨⟨x2, rfl, by rw [nt2]; exact rg0.1, by rw [nt2]; exact rg0.2⟩, (q9th_tX (T := T) (N := N) (P := P) (J := J) (t0 := t0) (Sc := Sc) (q9evS u0) (q9evZ u_) (q9evS u2) (by rw [q9FF_1109, nt2]; exact (show some (q9wsI T N 9 x0.toInt) = _ by rw [hn])) (by decide)).trans (congrArg some (q9evS u2))⟩
    | k9 + 1, hq9 => exact nomatch (show (none : Option (Nat × q9AV × q9AV × q9ET)) = some p9 from hq9)
theorem q9ru_wch9 (hT : ∀ i, 0 ≤ T i ∧ T i ≤ 255) (hN : 0 ≤ N ∧ N ≤ 400) (hSc : 0 ≤ Sc 1 ∧ Sc 1 ≤ 400 → N = Sc 1) : q9ruOK (fO T N P J t0 Sc) q9R_wch9 := by
  intro w w0 hA hX hL hV hR
  obtain ⟨x0, ae0, -, -⟩ := hA 0 0 rfl
  obtain ⟨x1, ae1, -, -⟩ := hA 1 0 rfl
  have kz : (0 : Int32).toInt = 0 := rfl
  have k635384 : (Int32.ofInt 635384).toInt = 635384 := q9oI_toInt (by decide)
  have X0 := q9th_pX (T := T) (N := N) (P := P) (J := J) (t0 := t0) (Sc := Sc) (op := 1008) (q9evS ae0) (q9evZ w0) (q9evS ae1) (hX _ (List.mem_of_getElem? (i := 0) rfl)) (by decide)
  rw [q9FF_1008] at X0
  have H0 := Option.some.inj X0
  try simp only [kz, k635384] at H0
  have L0 : (Int32.ofInt 635384).toInt ≤ x1.toInt + 0 := q9pC (q9evC w0 635384) (q9evS ae1) (hL _ (List.mem_of_getElem? (i := 0) rfl))
  have L1 : (0 : Int32).toInt ≤ x0.toInt + 0 := q9pC (q9evZ w0) (q9evS ae0) (hL _ (List.mem_of_getElem? (i := 1) rfl))
  have hw : q9wnI 9 = 635383 := by decide +kernel
  have hn : q9wsI T N 9 x0.toInt = 0 := (q9ws_01 (T := T) (N := N) (t := 9) (i := x0.toInt)).elim (fun h => by have := (q9ws_wc (by decide)).mp h; omega) id
  have rg0 : (0 : Int) ≤ 0 ∧ (0 : Int) ≤ 0 := by omega
  obtain ⟨x2, nt2⟩ : ∃ x : Int32, x.toInt = 0 := ⟨Int32.ofInt (0), q9oI_toInt (by omega)⟩
  have u_ : q9upN w 3 [.int x2] 0 = .int 0 := q9upN_of (by decide) w0
  have u0 : q9upN w 3 [.int x2] 1 = .int x0 := q9upN_of (by decide) ae0
  have u1 : q9upN w 3 [.int x2] 2 = .int x1 := q9upN_of (by decide) ae1
  have u2 : q9upN w 3 [.int x2] 3 = .int x2 := q9upN_at (by decide)
  refine ⟨[.int x2], fun i9 p9 hq9 => ?_, fun _ h => absurd h List.not_mem_nil, fun _ h => absurd h List.not_mem_nil⟩
  · match i9, hq9 with
    | 0, hq9 =>
      have hp9 : ((1109, (1, 0), (0, 0), (0, 0, 0)) : Nat × q9AV × q9AV × q9ET) = p9 := Option.some.inj hq9
      subst hp9
      exact ⟨⟨x2, rfl, by rw [nt2]; exact rg0.1, by rw [nt2]; exact rg0.2⟩, (q9th_tX (T := T) (N := N) (P := P) (J := J) (t0 := t0) (Sc := Sc) (q9evS u0) (q9evZ u_) (q9evS u2) (by rw [q9FF_1109, nt2]; exact (show some (q9wsI T N 9 x0.toInt) = _ by rw [hn])) (by decide)).trans (congrArg some (q9evS u2))⟩
    | k9 + 1, hq9 => exact nomatch (show (none : Option (Nat × q9AV × q9AV × q9ET)) = some p9 from hq9)
theorem q9ru_wib9 (hT : ∀ i, 0 ≤ T i ∧ T i ≤ 255) (hN : 0 ≤ N ∧ N ≤ 400) (hSc : 0 ≤ Sc 1 ∧ Sc 1 ≤ 400 → N = Sc 1) : q9ruOK (fO T N P J t0 Sc) q9R_wib9 := by
  intro w w0 hA hX hL hV hR
  obtain ⟨x0, ae0, -, -⟩ := hA 0 0 rfl
  have kz : (0 : Int32).toInt = 0 := rfl
  have V0 := q9pV (T := T) (N := N) (P := P) (J := J) (t0 := t0) (Sc := Sc) (op := 1109) (n := 1) (q9evS ae0) (q9evZ w0) (hV _ (List.mem_of_getElem? (i := 0) rfl)) (by decide)
  rw [q9FF_1109] at V0
  have K0 := Option.some.inj V0
  try simp only [kz] at K0
  have L0 : (0 : Int32).toInt ≤ x0.toInt + 0 := q9pC (q9evZ w0) (q9evS ae0) (hL _ (List.mem_of_getElem? (i := 0) rfl))
  have hb := q9ws_b0 (t := 9) (by decide) K0
  have hb : q9byI T N x0.toInt = 115 := hb
  have rg0 : (115 : Int) ≤ 115 ∧ (115 : Int) ≤ 115 := by omega
  obtain ⟨x1, nt1⟩ : ∃ x : Int32, x.toInt = 115 := ⟨Int32.ofInt (115), q9oI_toInt (by omega)⟩
  have u_ : q9upN w 2 [.int x1] 0 = .int 0 := q9upN_of (by decide) w0
  have u0 : q9upN w 2 [.int x1] 1 = .int x0 := q9upN_of (by decide) ae0
  have u1 : q9upN w 2 [.int x1] 2 = .int x1 := q9upN_at (by decide)
  refine ⟨[.int x1], fun i9 p9 hq9 => ?_, fun _ h => absurd h List.not_mem_nil, fun _ h => absurd h List.not_mem_nil⟩
  · match i9, hq9 with
    | 0, hq9 =>
      have hp9 : ((1000, (1, 0), (0, 0), (0, 115, 115)) : Nat × q9AV × q9AV × q9ET) = p9 := Option.some.inj hq9
      subst hp9
      exact ⟨⟨x1, rfl, by rw [nt1]; exact rg0.1, by rw [nt1]; exact rg0.2⟩, (q9th_tX (T := T) (N := N) (P := P) (J := J) (t0 := t0) (Sc := Sc) (q9evS u0) (q9evZ u_) (q9evS u1) (by rw [q9FF_1000, nt1]; exact (by rw [hb])) (by decide)).trans (congrArg some (q9evS u1))⟩
    | k9 + 1, hq9 => exact nomatch (show (none : Option (Nat × q9AV × q9AV × q9ET)) = some p9 from hq9)
theorem q9ru_wcw10 (hT : ∀ i, 0 ≤ T i ∧ T i ≤ 255) (hN : 0 ≤ N ∧ N ≤ 400) (hSc : 0 ≤ Sc 1 ∧ Sc 1 ≤ 400 → N = Sc 1) : q9ruOK (fO T N P J t0 Sc) q9R_wcw10 := by
  intro w w0 hA hX hL hV hR
  obtain ⟨x0, ae0, -, -⟩ := hA 0 0 rfl
  obtain ⟨x1, ae1, -, -⟩ := hA 1 0 rfl
  have kz : (0 : Int32).toInt = 0 := rfl
  have k638164 : (Int32.ofInt 638164).toInt = 638164 := q9oI_toInt (by decide)
  have X0 := q9th_pX (T := T) (N := N) (P := P) (J := J) (t0 := t0) (Sc := Sc) (op := 1008) (q9evS ae0) (q9evZ w0) (q9evS ae1) (hX _ (List.mem_of_getElem? (i := 0) rfl)) (by decide)
  rw [q9FF_1008] at X0
  have H0 := Option.some.inj X0
  try simp only [kz, k638164] at H0
  have L0 : x1.toInt ≤ (Int32.ofInt 638164).toInt + 0 := q9pC (q9evS ae1) (q9evC w0 638164) (hL _ (List.mem_of_getElem? (i := 0) rfl))
  have L1 : (Int32.ofInt 638164).toInt ≤ x1.toInt + 0 := q9pC (q9evC w0 638164) (q9evS ae1) (hL _ (List.mem_of_getElem? (i := 1) rfl))
  have L2 : (0 : Int32).toInt ≤ x0.toInt + 0 := q9pC (q9evZ w0) (q9evS ae0) (hL _ (List.mem_of_getElem? (i := 2) rfl))
  have hw : q9wnI 10 = 638164 := by decide +kernel
  have rg0 : (1 : Int) ≤ 1 ∧ (1 : Int) ≤ 1 := by omega
  obtain ⟨x2, nt2⟩ : ∃ x : Int32, x.toInt = 1 := ⟨Int32.ofInt (1), q9oI_toInt (by omega)⟩
  have u_ : q9upN w 3 [.int x2] 0 = .int 0 := q9upN_of (by decide) w0
  have u0 : q9upN w 3 [.int x2] 1 = .int x0 := q9upN_of (by decide) ae0
  have u1 : q9upN w 3 [.int x2] 2 = .int x1 := q9upN_of (by decide) ae1
  have u2 : q9upN w 3 [.int x2] 3 = .int x2 := q9upN_at (by decide)
  refine ⟨[.int x2], fun i9 p9 hq9 => ?_, fun _ h => absurd h List.not_mem_nil, fun _ h => absurd h List.not_mem_nil⟩
  · match i9, hq9 with
    | 0, hq9 =>
      have hp9 : ((1110, (1, 0), (0, 0), (0, 1, 1)) : Nat × q9AV × q9AV × q9ET) = p9 := Option.some.inj hq9
      subst hp9
      exact ⟨⟨x2, rfl, by rw [nt2]; exact rg0.1, by rw [nt2]; exact rg0.2⟩, (q9th_tX (T := T) (N := N) (P := P) (J := J) (t0 := t0) (Sc := Sc) (q9evS u0) (q9evZ u_) (q9evS u2) (by rw [q9FF_1110, nt2]; exact (show some (q9wsI T N 10 x0.toInt) = _ by rw [q9ws_wc (by decide) |>.mpr (by omega)])) (by decide)).trans (congrArg some (q9evS u2))⟩
    | k9 + 1, hq9 => exact nomatch (show (none : Option (Nat × q9AV × q9AV × q9ET)) = some p9 from hq9)
theorem q9ru_wcl10 (hT : ∀ i, 0 ≤ T i ∧ T i ≤ 255) (hN : 0 ≤ N ∧ N ≤ 400) (hSc : 0 ≤ Sc 1 ∧ Sc 1 ≤ 400 → N = Sc 1) : q9ruOK (fO T N P J t0 Sc) q9R_wcl10 := by
  intro w w0 hA hX hL hV hR
  obtain ⟨x0, ae0, -, -⟩ := hA 0 0 rfl
  obtain ⟨x1, ae1, -, -⟩ := hA 1 0 rfl
  have kz : (0 : Int32).toInt = 0 := rfl
  have k638163 : (Int32.ofInt 638163).toInt = 638163 := q9oI_toInt (by decide)
  have X0 := q9th_pX (T := T) (N := N) (P := P) (J := J) (t0 := t0) (Sc := Sc) (op := 1008) (q9evS ae0) (q9evZ w0) (q9evS ae1) (hX _ (List.mem_of_getElem? (i := 0) rfl)) (by decide)
  rw [q9FF_1008] at X0
  have H0 := Option.some.inj X0
  try simp only [kz, k638163] at H0
  have L0 : x1.toInt ≤ (Int32.ofInt 638163).toInt + 0 := q9pC (q9evS ae1) (q9evC w0 638163) (hL _ (List.mem_of_getElem? (i := 0) rfl))
  have L1 : (0 : Int32).toInt ≤ x0.toInt + 0 := q9pC (q9evZ w0) (q9evS ae0) (hL _ (List.mem_of_getElem? (i := 1) rfl))
  have hw : q9wnI 10 = 638164 := by decide +kernel
  have hn : q9wsI T N 10 x0.toInt = 0 := (q9ws_01 (T := T) (N := N) (t := 10) (i := x0.toInt)).elim (fun h => by have := (q9ws_wc (by decide)).mp h; omega) id
  have rg0 : (0 : Int) ≤ 0 ∧ (0 : Int) ≤ 0 := by omega
  obtain ⟨x2, nt2⟩ : ∃ x : Int32, x.toInt = 0 := ⟨Int32.ofInt (0), q9oI_toInt (by omega)⟩
  have u_ : q9upN w 3 [.int x2] 0 = .int 0 := q9upN_of (by decide) w0
  have u0 : q9upN w 3 [.int x2] 1 = .int x0 := q9upN_of (by decide) ae0
  have u1 : q9upN w 3 [.int x2] 2 = .int x1 := q9upN_of (by decide) ae1
  have u2 : q9upN w 3 [.int x2] 3 = .int x2 := q9upN_at (by decide)
  refine ⟨[.int x2], fun i9 p9 hq9 => ?_, fun _ h => absurd h List.not_mem_nil, fun _ h => absurd h List.not_mem_nil⟩
  · match i9, hq9 with
    | 0, hq9 =>
      have hp9 : ((1110, (1, 0), (0, 0), (0, 0, 0)) : Nat × q9AV × q9AV × q9ET) = p9 := Option.some.inj hq9
      subst hp9
      exact ⟨⟨x2, rfl, by rw [nt2]; exact rg0.1, by rw [nt2]; exact rg0.2⟩, (q9th_tX (T := T) (N := N) (P := P) (J := J) (t0 := t0) (Sc := Sc) (q9evS u0) (q9evZ u_) (q9evS u2) (by rw [q9FF_1110, nt2]; exact (show some (q9wsI T N 10 x0.toInt) = _ by rw [hn])) (by decide)).trans (congrArg some (q9evS u2))⟩
    | k9 + 1, hq9 => exact nomatch (show (none : Option (Nat × q9AV × q9AV × q9ET)) = some p9 from hq9)
theorem q9ru_wch10 (hT : ∀ i, 0 ≤ T i ∧ T i ≤ 255) (hN : 0 ≤ N ∧ N ≤ 400) (hSc : 0 ≤ Sc 1 ∧ Sc 1 ≤ 400 → N = Sc 1) : q9ruOK (fO T N P J t0 Sc) q9R_wch10 := by
  intro w w0 hA hX hL hV hR
  obtain ⟨x0, ae0, -, -⟩ := hA 0 0 rfl
  obtain ⟨x1, ae1, -, -⟩ := hA 1 0 rfl
  have kz : (0 : Int32).toInt = 0 := rfl
  have k638165 : (Int32.ofInt 638165).toInt = 638165 := q9oI_toInt (by decide)
  have X0 := q9th_pX (T := T) (N := N) (P := P) (J := J) (t0 := t0) (Sc := Sc) (op := 1008) (q9evS ae0) (q9evZ w0) (q9evS ae1) (hX _ (List.mem_of_getElem? (i := 0) rfl)) (by decide)
  rw [q9FF_1008] at X0
  have H0 := Option.some.inj X0
  try simp only [kz, k638165] at H0
  have L0 : (Int32.ofInt 638165).toInt ≤ x1.toInt + 0 := q9pC (q9evC w0 638165) (q9evS ae1) (hL _ (List.mem_of_getElem? (i := 0) rfl))
  have L1 : (0 : Int32).toInt ≤ x0.toInt + 0 := q9pC (q9evZ w0) (q9evS ae0) (hL _ (List.mem_of_getElem? (i := 1) rfl))
  have hw : q9wnI 10 = 638164 := by decide +kernel
  have hn : q9wsI T N 10 x0.toInt = 0 := (q9ws_01 (T := T) (N := N) (t := 10) (i := x0.toInt)).elim (fun h => by have := (q9ws_wc (by decide)).mp h; omega) id
  have rg0 : (0 : Int) ≤ 0 ∧ (0 : Int) ≤ 0 := by omega
  obtain ⟨x2, nt2⟩ : ∃ x : Int32, x.toInt = 0 := ⟨Int32.ofInt (0), q9oI_toInt (by omega)⟩
  have u_ : q9upN w 3 [.int x2] 0 = .int 0 := q9upN_of (by decide) w0
  have u0 : q9upN w 3 [.int x2] 1 = .int x0 := q9upN_of (by decide) ae0
  have u1 : q9upN w 3 [.int x2] 2 = .int x1 := q9upN_of (by decide) ae1
  have u2 : q9upN w 3 [.int x2] 3 = .int x2 := q9upN_at (by decide)
  refine ⟨[.int x2], fun i9 p9 hq9 => ?_, fun _ h => absurd h List.not_mem_nil, fun _ h => absurd h List.not_mem_nil⟩
  · match i9, hq9 with
    | 0, hq9 =>
      have hp9 : ((1110, (1, 0), (0, 0), (0, 0, 0)) : Nat × q9AV × q9AV × q9ET) = p9 := Option.some.inj hq9
      subst hp9
      exact ⟨⟨x2, rfl, by rw [nt2]; exact rg0.1, by rw [nt2]; exact rg0.2⟩, (q9th_tX (T := T) (N := N) (P := P) (J := J) (t0 := t0) (Sc := Sc) (q9evS u0) (q9evZ u_) (q9evS u2) (by rw [q9FF_1110, nt2]; exact (show some (q9wsI T N 10 x0.toInt) = _ by rw [hn])) (by decide)).trans (congrArg some (q9evS u2))⟩
    | k9 + 1, hq9 => exact nomatch (show (none : Option (Nat × q9AV × q9AV × q9ET)) = some p9 from hq9)
theorem q9ru_wib10 (hT : ∀ i, 0 ≤ T i ∧ T i ≤ 255) (hN : 0 ≤ N ∧ N ≤ 400) (hSc : 0 ≤ Sc 1 ∧ Sc 1 ≤ 400 → N = Sc 1) : q9ruOK (fO T N P J t0 Sc) q9R_wib10 := by
  intro w w0 hA hX hL hV hR
  obtain ⟨x0, ae0, -, -⟩ := hA 0 0 rfl
  have kz : (0 : Int32).toInt = 0 := rfl
  have V0 := q9pV (T := T) (N := N) (P := P) (J := J) (t0 := t0) (Sc := Sc) (op := 1110) (n := 1) (q9evS ae0) (q9evZ w0) (hV _ (List.mem_of_getElem? (i := 0) rfl)) (by decide)
  rw [q9FF_1110] at V0
  have K0 := Option.some.inj V0
  try simp only [kz] at K0
  have L0 : (0 : Int32).toInt ≤ x0.toInt + 0 := q9pC (q9evZ w0) (q9evS ae0) (hL _ (List.mem_of_getElem? (i := 0) rfl))
  have hb := q9ws_b0 (t := 10) (by decide) K0
  have hb : q9byI T N x0.toInt = 115 := hb
  have rg0 : (115 : Int) ≤ 115 ∧ (115 : Int) ≤ 115 := by omega
  obtain ⟨x1, nt1⟩ : ∃ x : Int32, x.toInt = 115 := ⟨Int32.ofInt (115), q9oI_toInt (by omega)⟩
  have u_ : q9upN w 2 [.int x1] 0 = .int 0 := q9upN_of (by decide) w0
  have u0 : q9upN w 2 [.int x1] 1 = .int x0 := q9upN_of (by decide) ae0
  have u1 : q9upN w 2 [.int x1] 2 = .int x1 := q9upN_at (by decide)
  refine ⟨[.int x1], fun i9 p9 hq9 => ?_, fun _ h => absurd h List.not_mem_nil, fun _ h => absurd h List.not_mem_nil⟩
  · match i9, hq9 with
    | 0, hq9 =>
      have hp9 : ((1000, (1, 0), (0, 0), (0, 115, 115)) : Nat × q9AV × q9AV × q9ET) = p9 := Option.some.inj hq9
      subst hp9
      exact ⟨⟨x1, rfl, by rw [nt1]; exact rg0.1, by rw [nt1]; exact rg0.2⟩, (q9th_tX (T := T) (N := N) (P := P) (J := J) (t0 := t0) (Sc := Sc) (q9evS u0) (q9evZ u_) (q9evS u1) (by rw [q9FF_1000, nt1]; exact (by rw [hb])) (by decide)).trans (congrArg some (q9evS u1))⟩
    | k9 + 1, hq9 => exact nomatch (show (none : Option (Nat × q9AV × q9AV × q9ET)) = some p9 from hq9)
theorem q9ru_wcw11 (hT : ∀ i, 0 ≤ T i ∧ T i ≤ 255) (hN : 0 ≤ N ∧ N ≤ 400) (hSc : 0 ≤ Sc 1 ∧ Sc 1 ≤ 400 → N = Sc 1) : q9ruOK (fO T N P J t0 Sc) q9R_wcw11 := by
  intro w w0 hA hX hL hV hR
  obtain ⟨x0, ae0, -, -⟩ := hA 0 0 rfl
  obtain ⟨x1, ae1, -, -⟩ := hA 1 0 rfl
  have kz : (0 : Int32).toInt = 0 := rfl
  have k81544 : (Int32.ofInt 81544).toInt = 81544 := q9oI_toInt (by decide)
  have X0 := q9th_pX (T := T) (N := N) (P := P) (J := J) (t0 := t0) (Sc := Sc) (op := 1008) (q9evS ae0) (q9evZ w0) (q9evS ae1) (hX _ (List.mem_of_getElem? (i := 0) rfl)) (by decide)
  rw [q9FF_1008] at X0
  have H0 := Option.some.inj X0
  try simp only [kz, k81544] at H0
  have L0 : x1.toInt ≤ (Int32.ofInt 81544).toInt + 0 := q9pC (q9evS ae1) (q9evC w0 81544) (hL _ (List.mem_of_getElem? (i := 0) rfl))
  have L1 : (Int32.ofInt 81544).toInt ≤ x1.toInt + 0 := q9pC (q9evC w0 81544) (q9evS ae1) (hL _ (List.mem_of_getElem? (i := 1) rfl))
  have L2 : (0 : Int32).toInt ≤ x0.toInt + 0 := q9pC (q9evZ w0) (q9evS ae0) (hL _ (List.mem_of_getElem? (i := 2) rfl))
  have hw : q9wnI 11 = 81544 := by decide +kernel
  have rg0 : (1 : Int) ≤ 1 ∧ (1 : Int) ≤ 1 := by omega
  obtain ⟨x2, nt2⟩ : ∃ x : Int32, x.toInt = 1 := ⟨Int32.ofInt (1), q9oI_toInt (by omega)⟩
  have u_ : q9upN w 3 [.int x2] 0 = .int 0 := q9upN_of (by decide) w0
  have u0 : q9upN w 3 [.int x2] 1 = .int x0 := q9upN_of (by decide) ae0
  have u1 : q9upN w 3 [.int x2] 2 = .int x1 := q9upN_of (by decide) ae1
  have u2 : q9upN w 3 [.int x2] 3 = .int x2 := q9upN_at (by decide)
  refine ⟨[.int x2], fun i9 p9 hq9 => ?_, fun _ h => absurd h List.not_mem_nil, fun _ h => absurd h List.not_mem_nil⟩
  · match i9, hq9 with
    | 0, hq9 =>
      have hp9 : ((1111, (1, 0), (0, 0), (0, 1, 1)) : Nat × q9AV × q9AV × q9ET) = p9 := Option.some.inj hq9
      subst hp9
      exact ⟨⟨x2, rfl, by rw [nt2]; exact rg0.1, by rw [nt2]; exact rg0.2⟩, (q9th_tX (T := T) (N := N) (P := P) (J := J) (t0 := t0) (Sc := Sc) (q9evS u0) (q9evZ u_) (q9evS u2) (by rw [q9FF_1111, nt2]; exact (show some (q9wsI T N 11 x0.toInt) = _ by rw [q9ws_wc (by decide) |>.mpr (by omega)])) (by decide)).trans (congrArg some (q9evS u2))⟩
    | k9 + 1, hq9 => exact nomatch (show (none : Option (Nat × q9AV × q9AV × q9ET)) = some p9 from hq9)
theorem q9ru_wcl11 (hT : ∀ i, 0 ≤ T i ∧ T i ≤ 255) (hN : 0 ≤ N ∧ N ≤ 400) (hSc : 0 ≤ Sc 1 ∧ Sc 1 ≤ 400 → N = Sc 1) : q9ruOK (fO T N P J t0 Sc) q9R_wcl11 := by
  intro w w0 hA hX hL hV hR
  obtain ⟨x0, ae0, -, -⟩ := hA 0 0 rfl
  obtain ⟨x1, ae1, -, -⟩ := hA 1 0 rfl
  have kz : (0 : Int32).toInt = 0 := rfl
  have k81543 : (Int32.ofInt 81543).toInt = 81543 := q9oI_toInt (by decide)
  have X0 := q9th_pX (T := T) (N := N) (P := P) (J := J) (t0 := t0) (Sc := Sc) (op := 1008) (q9evS ae0) (q9evZ w0) (q9evS ae1) (hX _ (List.mem_of_getElem? (i := 0) rfl)) (by decide)
  rw [q9FF_1008] at X0
  have H0 := Option.some.inj X0
  try simp only [kz, k81543] at H0
  have L0 : x1.toInt ≤ (Int32.ofInt 81543).toInt + 0 := q9pC (q9evS ae1) (q9evC w0 81543) (hL _ (List.mem_of_getElem? (i := 0) rfl))
  have L1 : (0 : Int32).toInt ≤ x0.toInt + 0 := q9pC (q9evZ w0) (q9evS ae0) (hL _ (List.mem_of_getElem? (i := 1) rfl))
  have hw : q9wnI 11 = 81544 := by decide +kernel
  have hn : q9wsI T N 11 x0.toInt = 0 := (q9ws_01 (T := T) (N := N) (t := 11) (i := x0.toInt)).elim (fun h => by have := (q9ws_wc (by decide)).mp h; omega) id
  have rg0 : (0 : Int) ≤ 0 ∧ (0 : Int) ≤ 0 := by omega
  obtain ⟨x2, nt2⟩ : ∃ x : Int32, x.toInt = 0 := ⟨Int32.ofInt (0), q9oI_toInt (by omega)⟩
  have u_ : q9upN w 3 [.int x2] 0 = .int 0 := q9upN_of (by decide) w0
  have u0 : q9upN w 3 [.int x2] 1 = .int x0 := q9upN_of (by decide) ae0
  have u1 : q9upN w 3 [.int x2] 2 = .int x1 := q9upN_of (by decide) ae1
  have u2 : q9upN w 3 [.int x2] 3 = .int x2 := q9upN_at (by decide)
  refine ⟨[.int x2], fun i9 p9 hq9 => ?_, fun _ h => absurd h List.not_mem_nil, fun _ h => absurd h List.not_mem_nil⟩
  · match i9, hq9 with
    | 0, hq9 =>
      have hp9 : ((1111, (1, 0), (0, 0), (0, 0, 0)) : Nat × q9AV × q9AV × q9ET) = p9 := Option.some.inj hq9
      subst hp9
      exact ⟨⟨x2, rfl, by rw [nt2]; exact rg0.1, by rw [nt2]; exact rg0.2⟩, (q9th_tX (T := T) (N := N) (P := P) (J := J) (t0 := t0) (Sc := Sc) (q9evS u0) (q9evZ u_) (q9evS u2) (by rw [q9FF_1111, nt2]; exact (show some (q9wsI T N 11 x0.toInt) = _ by rw [hn])) (by decide)).trans (congrArg some (q9evS u2))⟩
    | k9 + 1, hq9 => exact nomatch (show (none : Option (Nat × q9AV × q9AV × q9ET)) = some p9 from hq9)
theorem q9ru_wch11 (hT : ∀ i, 0 ≤ T i ∧ T i ≤ 255) (hN : 0 ≤ N ∧ N ≤ 400) (hSc : 0 ≤ Sc 1 ∧ Sc 1 ≤ 400 → N = Sc 1) : q9ruOK (fO T N P J t0 Sc) q9R_wch11 := by
  intro w w0 hA hX hL hV hR
  obtain ⟨x0, ae0, -, -⟩ := hA 0 0 rfl
  obtain ⟨x1, ae1, -, -⟩ := hA 1 0 rfl
  have kz : (0 : Int32).toInt = 0 := rfl
  have k81545 : (Int32.ofInt 81545).toInt = 81545 := q9oI_toInt (by decide)
  have X0 := q9th_pX (T := T) (N := N) (P := P) (J := J) (t0 := t0) (Sc := Sc) (op := 1008) (q9evS ae0) (q9evZ w0) (q9evS ae1) (hX _ (List.mem_of_getElem? (i := 0) rfl)) (by decide)
  rw [q9FF_1008] at X0
  have H0 := Option.some.inj X0
  try simp only [kz, k81545] at H0
  have L0 : (Int32.ofInt 81545).toInt ≤ x1.toInt + 0 := q9pC (q9evC w0 81545) (q9evS ae1) (hL _ (List.mem_of_getElem? (i := 0) rfl))
  have L1 : (0 : Int32).toInt ≤ x0.toInt + 0 := q9pC (q9evZ w0) (q9evS ae0) (hL _ (List.mem_of_getElem? (i := 1) rfl))
  have hw : q9wnI 11 = 81544 := by decide +kernel
  have hn : q9wsI T N 11 x0.toInt = 0 := (q9ws_01 (T := T) (N := N) (t := 11) (i := x0.toInt)).elim (fun h => by have := (q9ws_wc (by decide)).mp h; omega) id
  have rg0 : (0 : Int) ≤ 0 ∧ (0 : Int) ≤ 0 := by omega
  obtain ⟨x2, nt2⟩ : ∃ x : Int32, x.toInt = 0 := ⟨Int32.ofInt (0), q9oI_toInt (by omega)⟩
  have u_ : q9upN w 3 [.int x2] 0 = .int 0 := q9upN_of (by decide) w0
  have u0 : q9upN w 3 [.int x2] 1 = .int x0 := q9upN_of (by decide) ae0
  have u1 : q9upN w 3 [.int x2] 2 = .int x1 := q9upN_of (by decide) ae1
  have u2 : q9upN w 3 [.int x2] 3 = .int x2 := q9upN_at (by decide)
  refine ⟨[.int x2], fun i9 p9 hq9 => ?_, fun _ h => absurd h List.not_mem_nil, fun _ h => absurd h List.not_mem_nil⟩
  · match i9, hq9 with
    | 0, hq9 =>
      have hp9 : ((1111, (1, 0), (0, 0), (0, 0, 0)) : Nat × q9AV × q9AV × q9ET) = p9 := Option.some.inj hq9
      subst hp9
      exact ⟨⟨x2, rfl, by rw [nt2]; exact rg0.1, by rw [nt2]; exact rg0.2⟩, (q9th_tX (T := T) (N := N) (P := P) (J := J) (t0 := t0) (Sc := Sc) (q9evS u0) (q9evZ u_) (q9evS u2) (by rw [q9FF_1111, nt2]; exact (show some (q9wsI T N 11 x0.toInt) = _ by rw [hn])) (by decide)).trans (congrArg some (q9evS u2))⟩
    | k9 + 1, hq9 => exact nomatch (show (none : Option (Nat × q9AV × q9AV × q9ET)) = some p9 from hq9)
theorem q9ru_wib11 (hT : ∀ i, 0 ≤ T i ∧ T i ≤ 255) (hN : 0 ≤ N ∧ N ≤ 400) (hSc : 0 ≤ Sc 1 ∧ Sc 1 ≤ 400 → N = Sc 1) : q9ruOK (fO T N P J t0 Sc) q9R_wib11 := by
  intro w w0 hA hX hL hV hR
  obtain ⟨x0, ae0, -, -⟩ := hA 0 0 rfl
  have kz : (0 : Int32).toInt = 0 := rfl
  have V0 := q9pV (T := T) (N := N) (P := P) (J := J) (t0 := t0) (Sc := Sc) (op := 1111) (n := 1) (q9evS ae0) (q9evZ w0) (hV _ (List.mem_of_getElem? (i := 0) rfl)) (by decide)
  rw [q9FF_1111] at V0
  have K0 := Option.some.inj V0
  try simp only [kz] at K0
  have L0 : (0 : Int32).toInt ≤ x0.toInt + 0 := q9pC (q9evZ w0) (q9evS ae0) (hL _ (List.mem_of_getElem? (i := 0) rfl))
  have hb := q9ws_b0 (t := 11) (by decide) K0
  have hb : q9byI T N x0.toInt = 98 := hb
  have rg0 : (98 : Int) ≤ 98 ∧ (98 : Int) ≤ 98 := by omega
  obtain ⟨x1, nt1⟩ : ∃ x : Int32, x.toInt = 98 := ⟨Int32.ofInt (98), q9oI_toInt (by omega)⟩
  have u_ : q9upN w 2 [.int x1] 0 = .int 0 := q9upN_of (by decide) w0
  have u0 : q9upN w 2 [.int x1] 1 = .int x0 := q9upN_of (by decide) ae0
  have u1 : q9upN w 2 [.int x1] 2 = .int x1 := q9upN_at (by decide)
  refine ⟨[.int x1], fun i9 p9 hq9 => ?_, fun _ h => absurd h List.not_mem_nil, fun _ h => absurd h List.not_mem_nil⟩
  · match i9, hq9 with
    | 0, hq9 =>
      have hp9 : ((1000, (1, 0), (0, 0), (0, 98, 98)) : Nat × q9AV × q9AV × q9ET) = p9 := Option.some.inj hq9
      subst hp9
      exact ⟨⟨x1, rfl, by rw [nt1]; exact rg0.1, by rw [nt1]; exact rg0.2⟩, (q9th_tX (T := T) (N := N) (P := P) (J := J) (t0 := t0) (Sc := Sc) (q9evS u0) (q9evZ u_) (q9evS u1) (by rw [q9FF_1000, nt1]; exact (by rw [hb])) (by decide)).trans (congrArg some (q9evS u1))⟩
    | k9 + 1, hq9 => exact nomatch (show (none : Option (Nat × q9AV × q9AV × q9ET)) = some p9 from hq9)
theorem q9ru_wcw12 (hT : ∀ i, 0 ≤ T i ∧ T i ≤ 255) (hN : 0 ≤ N ∧ N ≤ 400) (hSc : 0 ≤ Sc 1 ∧ Sc 1 ≤ 400 → N = Sc 1) : q9ruOK (fO T N P J t0 Sc) q9R_wcw12 := by
  intro w w0 hA hX hL hV hR
  obtain ⟨x0, ae0, -, -⟩ := hA 0 0 rfl
  obtain ⟨x1, ae1, -, -⟩ := hA 1 0 rfl
  have kz : (0 : Int32).toInt = 0 := rfl
  have k186542 : (Int32.ofInt 186542).toInt = 186542 := q9oI_toInt (by decide)
  have X0 := q9th_pX (T := T) (N := N) (P := P) (J := J) (t0 := t0) (Sc := Sc) (op := 1008) (q9evS ae0) (q9evZ w0) (q9evS ae1) (hX _ (List.mem_of_getElem? (i := 0) rfl)) (by decide)
  rw [q9FF_1008] at X0
  have H0 := Option.some.inj X0
  try simp only [kz, k186542] at H0
  have L0 : x1.toInt ≤ (Int32.ofInt 186542).toInt + 0 := q9pC (q9evS ae1) (q9evC w0 186542) (hL _ (List.mem_of_getElem? (i := 0) rfl))
  have L1 : (Int32.ofInt 186542).toInt ≤ x1.toInt + 0 := q9pC (q9evC w0 186542) (q9evS ae1) (hL _ (List.mem_of_getElem? (i := 1) rfl))
  have L2 : (0 : Int32).toInt ≤ x0.toInt + 0 := q9pC (q9evZ w0) (q9evS ae0) (hL _ (List.mem_of_getElem? (i := 2) rfl))
  have hw : q9wnI 12 = 186542 := by decide +kernel
  have rg0 : (1 : Int) ≤ 1 ∧ (1 : Int) ≤ 1 := by omega
  obtain ⟨x2, nt2⟩ : ∃ x : Int32, x.toInt = 1 := ⟨Int32.ofInt (1), q9oI_toInt (by omega)⟩
  have u_ : q9upN w 3 [.int x2] 0 = .int 0 := q9upN_of (by decide) w0
  have u0 : q9upN w 3 [.int x2] 1 = .int x0 := q9upN_of (by decide) ae0
  have u1 : q9upN w 3 [.int x2] 2 = .int x1 := q9upN_of (by decide) ae1
  have u2 : q9upN w 3 [.int x2] 3 = .int x2 := q9upN_at (by decide)
  refine ⟨[.int x2], fun i9 p9 hq9 => ?_, fun _ h => absurd h List.not_mem_nil, fun _ h => absurd h List.not_mem_nil⟩
  · match i9, hq9 with
    | 0, hq9 =>
      have hp9 : ((1112, (1, 0), (0, 0), (0, 1, 1)) : Nat × q9AV × q9AV × q9ET) = p9 := Option.some.inj hq9
      subst hp9
      exact ⟨⟨x2, rfl, by rw [nt2]; exact rg0.1, by rw [nt2]; exact rg0.2⟩, (q9th_tX (T := T) (N := N) (P := P) (J := J) (t0 := t0) (Sc := Sc) (q9evS u0) (q9evZ u_) (q9evS u2) (by rw [q9FF_1112, nt2]; exact (show some (q9wsI T N 12 x0.toInt) = _ by rw [q9ws_wc (by decide) |>.mpr (by omega)])) (by decide)).trans (congrArg some (q9evS u2))⟩
    | k9 + 1, hq9 => exact nomatch (show (none : Option (Nat × q9AV × q9AV × q9ET)) = some p9 from hq9)
theorem q9ru_wcl12 (hT : ∀ i, 0 ≤ T i ∧ T i ≤ 255) (hN : 0 ≤ N ∧ N ≤ 400) (hSc : 0 ≤ Sc 1 ∧ Sc 1 ≤ 400 → N = Sc 1) : q9ruOK (fO T N P J t0 Sc) q9R_wcl12 := by
  intro w w0 hA hX hL hV hR
  obtain ⟨x0, ae0, -, -⟩ := hA 0 0 rfl
  obtain ⟨x1, ae1, -, -⟩ := hA 1 0 rfl
  have kz : (0 : Int32).toInt = 0 := rfl
  have k186541 : (Int32.ofInt 186541).toInt = 186541 := q9oI_toInt (by decide)
  have X0 := q9th_pX (T := T) (N := N) (P := P) (J := J) (t0 := t0) (Sc := Sc) (op := 1008) (q9evS ae0) (q9evZ w0) (q9evS ae1) (hX _ (List.mem_of_getElem? (i := 0) rfl)) (by decide)
  rw [q9FF_1008] at X0
  have H0 := Option.some.inj X0
  try simp only [kz, k186541] at H0
  have L0 : x1.toInt ≤ (Int32.ofInt 186541).toInt + 0 := q9pC (q9evS ae1) (q9evC w0 186541) (hL _ (List.mem_of_getElem? (i := 0) rfl))
  have L1 : (0 : Int32).toInt ≤ x0.toInt + 0 := q9pC (q9evZ w0) (q9evS ae0) (hL _ (List.mem_of_getElem? (i := 1) rfl))
  have hw : q9wnI 12 = 186542 := by decide +kernel
  have hn : q9wsI T N 12 x0.toInt = 0 := (q9ws_01 (T := T) (N := N) (t := 12) (i := x0.toInt)).elim (fun h => by have := (q9ws_wc (by decide)).mp h; omega) id
  have rg0 : (0 : Int) ≤ 0 ∧ (0 : Int) ≤ 0 := by omega
  obtain ⟨x2, nt2⟩ : ∃ x : Int32, x.toInt = 0 := ⟨Int32.ofInt (0), q9oI_toInt (by omega)⟩
  have u_ : q9upN w 3 [.int x2] 0 = .int 0 := q9upN_of (by decide) w0
  have u0 : q9upN w 3 [.int x2] 1 = .int x0 := q9upN_of (by decide) ae0
  have u1 : q9upN w 3 [.int x2] 2 = .int x1 := q9upN_of (by decide) ae1
  have u2 : q9upN w 3 [.int x2] 3 = .int x2 := q9upN_at (by decide)
  refine ⟨[.int x2], fun i9 p9 hq9 => ?_, fun _ h => absurd h List.not_mem_nil, fun _ h => absurd h List.not_mem_nil⟩
  · match i9, hq9 with
    | 0, hq9 =>
      have hp9 : ((1112, (1, 0), (0, 0), (0, 0, 0)) : Nat × q9AV × q9AV × q9ET) = p9 := Option.some.inj hq9
      subst hp9
      exact ⟨⟨x2, rfl, by rw [nt2]; exact rg0.1, by rw [nt2]; exact rg0.2⟩, (q9th_tX (T := T) (N := N) (P := P) (J := J) (t0 := t0) (Sc := Sc) (q9evS u0) (q9evZ u_) (q9evS u2) (by rw [q9FF_1112, nt2]; exact (show some (q9wsI T N 12 x0.toInt) = _ by rw [hn])) (by decide)).trans (congrArg some (q9evS u2))⟩
    | k9 + 1, hq9 => exact nomatch (show (none : Option (Nat × q9AV × q9AV × q9ET)) = some p9 from hq9)
theorem q9ru_wch12 (hT : ∀ i, 0 ≤ T i ∧ T i ≤ 255) (hN : 0 ≤ N ∧ N ≤ 400) (hSc : 0 ≤ Sc 1 ∧ Sc 1 ≤ 400 → N = Sc 1) : q9ruOK (fO T N P J t0 Sc) q9R_wch12 := by
  intro w w0 hA hX hL hV hR
  obtain ⟨x0, ae0, -, -⟩ := hA 0 0 rfl
  obtain ⟨x1, ae1, -, -⟩ := hA 1 0 rfl
  have kz : (0 : Int32).toInt = 0 := rfl
  have k186543 : (Int32.ofInt 186543).toInt = 186543 := q9oI_toInt (by decide)
  have X0 := q9th_pX (T := T) (N := N) (P := P) (J := J) (t0 := t0) (Sc := Sc) (op := 1008) (q9evS ae0) (q9evZ w0) (q9evS ae1) (hX _ (List.mem_of_getElem? (i := 0) rfl)) (by decide)
  rw [q9FF_1008] at X0
  have H0 := Option.some.inj X0
  try simp only [kz, k186543] at H0
  have L0 : (Int32.ofInt 186543).toInt ≤ x1.toInt + 0 := q9pC (q9evC w0 186543) (q9evS ae1) (hL _ (List.mem_of_getElem? (i := 0) rfl))
  have L1 : (0 : Int32).toInt ≤ x0.toInt + 0 := q9pC (q9evZ w0) (q9evS ae0) (hL _ (List.mem_of_getElem? (i := 1) rfl))
  have hw : q9wnI 12 = 186542 := by decide +kernel
  have hn : q9wsI T N 12 x0.toInt = 0 := (q9ws_01 (T := T) (N := N) (t := 12) (i := x0.toInt)).elim (fun h => by have := (q9ws_wc (by decide)).mp h; omega) id
  have rg0 : (0 : Int) ≤ 0 ∧ (0 : Int) ≤ 0 := by omega
  obtain ⟨x2, nt2⟩ : ∃ x : Int32, x.toInt = 0 := ⟨Int32.ofInt (0), q9oI_toInt (by omega)⟩
  have u_ : q9upN w 3 [.int x2] 0 = .int 0 := q9upN_of (by decide) w0
  have u0 : q9upN w 3 [.int x2] 1 = .int x0 := q9upN_of (by decide) ae0
  have u1 : q9upN w 3 [.int x2] 2 = .int x1 := q9upN_of (by decide) ae1
  have u2 : q9upN w 3 [.int x2] 3 = .int x2 := q9upN_at (by decide)
  refine ⟨[.int x2], fun i9 p9 hq9 => ?_, fun _ h => absurd h List.not_mem_nil, fun _ h => absurd h List.not_mem_nil⟩
  · match i9, hq9 with
    | 0, hq9 =>
      have hp9 : ((1112, (1, 0), (0, 0), (0, 0, 0)) : Nat × q9AV × q9AV × q9ET) = p9 := Option.some.inj hq9
      subst hp9
      exact ⟨⟨x2, rfl, by rw [nt2]; exact rg0.1, by rw [nt2]; exact rg0.2⟩, (q9th_tX (T := T) (N := N) (P := P) (J := J) (t0 := t0) (Sc := Sc) (q9evS u0) (q9evZ u_) (q9evS u2) (by rw [q9FF_1112, nt2]; exact (show some (q9wsI T N 12 x0.toInt) = _ by rw [hn])) (by decide)).trans (congrArg some (q9evS u2))⟩
    | k9 + 1, hq9 => exact nomatch (show (none : Option (Nat × q9AV × q9AV × q9ET)) = some p9 from hq9)
theorem q9ru_wib12 (hT : ∀ i, 0 ≤ T i ∧ T i ≤ 255) (hN : 0 ≤ N ∧ N ≤ 400) (hSc : 0 ≤ Sc 1 ∧ Sc 1 ≤ 400 → N = Sc 1) : q9ruOK (fO T N P J t0 Sc) q9R_wib12 := by
  intro w w0 hA hX hL hV hR
  obtain ⟨x0, ae0, -, -⟩ := hA 0 0 rfl
  have kz : (0 : Int32).toInt = 0 := rfl
  have V0 := q9pV (T := T) (N := N) (P := P) (J := J) (t0 := t0) (Sc := Sc) (op := 1112) (n := 1) (q9evS ae0) (q9evZ w0) (hV _ (List.mem_of_getElem? (i := 0) rfl)) (by decide)
  rw [q9FF_1112] at V0
  have K0 := Option.some.inj V0
  try simp only [kz] at K0
  have L0 : (0 : Int32).toInt ≤ x0.toInt + 0 := q9pC (q9evZ w0) (q9evS ae0) (hL _ (List.mem_of_getElem? (i := 0) rfl))
  have hb := q9ws_b0 (t := 12) (by decide) K0
  have hb : q9byI T N x0.toInt = 101 := hb
  have rg0 : (101 : Int) ≤ 101 ∧ (101 : Int) ≤ 101 := by omega
  obtain ⟨x1, nt1⟩ : ∃ x : Int32, x.toInt = 101 := ⟨Int32.ofInt (101), q9oI_toInt (by omega)⟩
  have u_ : q9upN w 2 [.int x1] 0 = .int 0 := q9upN_of (by decide) w0
  have u0 : q9upN w 2 [.int x1] 1 = .int x0 := q9upN_of (by decide) ae0
  have u1 : q9upN w 2 [.int x1] 2 = .int x1 := q9upN_at (by decide)
  refine ⟨[.int x1], fun i9 p9 hq9 => ?_, fun _ h => absurd h List.not_mem_nil, fun _ h => absurd h List.not_mem_nil⟩
  · match i9, hq9 with
    | 0, hq9 =>
      have hp9 : ((1000, (1, 0), (0, 0), (0, 101, 101)) : Nat × q9AV × q9AV × q9ET) = p9 := Option.some.inj hq9
      subst hp9
      exact ⟨⟨x1, rfl, by rw [nt1]; exact rg0.1, by rw [nt1]; exact rg0.2⟩, (q9th_tX (T := T) (N := N) (P := P) (J := J) (t0 := t0) (Sc := Sc) (q9evS u0) (q9evZ u_) (q9evS u1) (by rw [q9FF_1000, nt1]; exact (by rw [hb])) (by decide)).trans (congrArg some (q9evS u1))⟩
    | k9 + 1, hq9 => exact nomatch (show (none : Option (Nat × q9AV × q9AV × q9ET)) = some p9 from hq9)
theorem q9ru_wcw13 (hT : ∀ i, 0 ≤ T i ∧ T i ≤ 255) (hN : 0 ≤ N ∧ N ≤ 400) (hSc : 0 ≤ Sc 1 ∧ Sc 1 ≤ 400 → N = Sc 1) : q9ruOK (fO T N P J t0 Sc) q9R_wcw13 := by
  intro w w0 hA hX hL hV hR
  obtain ⟨x0, ae0, -, -⟩ := hA 0 0 rfl
  obtain ⟨x1, ae1, -, -⟩ := hA 1 0 rfl
  have kz : (0 : Int32).toInt = 0 := rfl
  have k52 : (Int32.ofInt 52).toInt = 52 := q9oI_toInt (by decide)
  have X0 := q9th_pX (T := T) (N := N) (P := P) (J := J) (t0 := t0) (Sc := Sc) (op := 1008) (q9evS ae0) (q9evZ w0) (q9evS ae1) (hX _ (List.mem_of_getElem? (i := 0) rfl)) (by decide)
  rw [q9FF_1008] at X0
  have H0 := Option.some.inj X0
  try simp only [kz, k52] at H0
  have L0 : x1.toInt ≤ (Int32.ofInt 52).toInt + 0 := q9pC (q9evS ae1) (q9evC w0 52) (hL _ (List.mem_of_getElem? (i := 0) rfl))
  have L1 : (Int32.ofInt 52).toInt ≤ x1.toInt + 0 := q9pC (q9evC w0 52) (q9evS ae1) (hL _ (List.mem_of_getElem? (i := 1) rfl))
  have L2 : (0 : Int32).toInt ≤ x0.toInt + 0 := q9pC (q9evZ w0) (q9evS ae0) (hL _ (List.mem_of_getElem? (i := 2) rfl))
  have hw : q9wnI 13 = 52 := by decide +kernel
  have rg0 : (1 : Int) ≤ 1 ∧ (1 : Int) ≤ 1 := by omega
  obtain ⟨x2, nt2⟩ : ∃ x : Int32, x.toInt = 1 := ⟨Int32.ofInt (1), q9oI_toInt (by omega)⟩
  have u_ : q9upN w 3 [.int x2] 0 = .int 0 := q9upN_of (by decide) w0
  have u0 : q9upN w 3 [.int x2] 1 = .int x0 := q9upN_of (by decide) ae0
  have u1 : q9upN w 3 [.int x2] 2 = .int x1 := q9upN_of (by decide) ae1
  have u2 : q9upN w 3 [.int x2] 3 = .int x2 := q9upN_at (by decide)
  refine ⟨[.int x2], fun i9 p9 hq9 => ?_, fun _ h => absurd h List.not_mem_nil, fun _ h => absurd h List.not_mem_nil⟩
  · match i9, hq9 with
    | 0, hq9 =>
      have hp9 : ((1113, (1, 0), (0, 0), (0, 1, 1)) : Nat × q9AV × q9AV × q9ET) = p9 := Option.some.inj hq9
      subst hp9
      exact ⟨⟨x2, rfl, by rw [nt2]; exact rg0.1, by rw [nt2]; exact rg0.2⟩, (q9th_tX (T := T) (N := N) (P := P) (J := J) (t0 := t0) (Sc := Sc) (q9evS u0) (q9evZ u_) (q9evS u2) (by rw [q9FF_1113, nt2]; exact (show some (q9wsI T N 13 x0.toInt) = _ by rw [q9ws_wc (by decide) |>.mpr (by omega)])) (by decide)).trans (congrArg some (q9evS u2))⟩
    | k9 + 1, hq9 => exact nomatch (show (none : Option (Nat × q9AV × q9AV × q9ET)) = some p9 from hq9)
theorem q9ru_wcl13 (hT : ∀ i, 0 ≤ T i ∧ T i ≤ 255) (hN : 0 ≤ N ∧ N ≤ 400) (hSc : 0 ≤ Sc 1 ∧ Sc 1 ≤ 400 → N = Sc 1) : q9ruOK (fO T N P J t0 Sc) q9R_wcl13 := by
  intro w w0 hA hX hL hV hR
  obtain ⟨x0, ae0, -, -⟩ := hA 0 0 rfl
  obtain ⟨x1, ae1, -, -⟩ := hA 1 0 rfl
  have kz : (0 : Int32).toInt = 0 := rfl
  have k51 : (Int32.ofInt 51).toInt = 51 := q9oI_toInt (by decide)
  have X0 := q9th_pX (T := T) (N := N) (P := P) (J := J) (t0 := t0) (Sc := Sc) (op := 1008) (q9evS ae0) (q9evZ w0) (q9evS ae1) (hX _ (List.mem_of_getElem? (i := 0) rfl)) (by decide)
  rw [q9FF_1008] at X0
  have H0 := Option.some.inj X0
  try simp only [kz, k51] at H0
  have L0 : x1.toInt ≤ (Int32.ofInt 51).toInt + 0 := q9pC (q9evS ae1) (q9evC w0 51) (hL _ (List.mem_of_getElem? (i := 0) rfl))
  have L1 : (0 : Int32).toInt ≤ x0.toInt + 0 := q9pC (q9evZ w0) (q9evS ae0) (hL _ (List.mem_of_getElem? (i := 1) rfl))
  have hw : q9wnI 13 = 52 := by decide +kernel
  have hn : q9wsI T N 13 x0.toInt = 0 := (q9ws_01 (T := T) (N := N) (t := 13) (i := x0.toInt)).elim (fun h => by have := (q9ws_wc (by decide)).mp h; omega) id
  have rg0 : (0 : Int) ≤ 0 ∧ (0 : Int) ≤ 0 := by omega
  obtain ⟨x2, nt2⟩ : ∃ x : Int32, x.toInt = 0 := ⟨Int32.ofInt (0), q9oI_toInt (by omega)⟩
  have u_ : q9upN w 3 [.int x2] 0 = .int 0 := q9upN_of (by decide) w0
  have u0 : q9upN w 3 [.int x2] 1 = .int x0 := q9upN_of (by decide) ae0
  have u1 : q9upN w 3 [.int x2] 2 = .int x1 := q9upN_of (by decide) ae1
  have u2 : q9upN w 3 [.int x2] 3 = .int x2 := q9upN_at (by decide)
  refine ⟨[.int x2], fun i9 p9 hq9 => ?_, fun _ h => absurd h List.not_mem_nil, fun _ h => absurd h List.not_mem_nil⟩
  · match i9, hq9 with
    | 0, hq9 =>
      have hp9 : ((1113, (1, 0), (0, 0), (0, 0, 0)) : Nat × q9AV × q9AV × q9ET) = p9 := Option.some.inj hq9
      subst hp9
      exact ⟨⟨x2, rfl, by rw [nt2]; exact rg0.1, by rw [nt2]; exact rg0.2⟩, (q9th_tX (T := T) (N := N) (P := P) (J := J) (t0 := t0) (Sc := Sc) (q9evS u0) (q9evZ u_) (q9evS u2) (by rw [q9FF_1113, nt2]; exact (show some (q9wsI T N 13 x0.toInt) = _ by rw [hn])) (by decide)).trans (congrArg some (q9evS u2))⟩
    | k9 + 1, hq9 => exact nomatch (show (none : Option (Nat × q9AV × q9AV × q9ET)) = some p9 from hq9)
theorem q9ruP_11 (hT : ∀ i, 0 ≤ T i ∧ T i ≤ 255) (hN : 0 ≤ N ∧ N ≤ 400) (hSc : 0 ≤ Sc 1 ∧ Sc 1 ≤ 400 → N = Sc 1) : ∀ q ∈ q9RULES_11, q9ruOK (fO T N P J t0 Sc) q := List.forall_mem_cons.mpr ⟨q9ru_wch3 hT hN hSc, List.forall_mem_cons.mpr ⟨q9ru_wib3 hT hN hSc, List.forall_mem_cons.mpr ⟨q9ru_wcw4 hT hN hSc, List.forall_mem_cons.mpr ⟨q9ru_wcl4 hT hN hSc, List.forall_mem_cons.mpr ⟨q9ru_wch4 hT hN hSc, List.forall_mem_cons.mpr ⟨q9ru_wib4 hT hN hSc, List.forall_mem_cons.mpr ⟨q9ru_wcw5 hT hN hSc, List.forall_mem_cons.mpr ⟨q9ru_wcl5 hT hN hSc, List.forall_mem_cons.mpr ⟨q9ru_wch5 hT hN hSc, List.forall_mem_cons.mpr ⟨q9ru_wib5 hT hN hSc, List.forall_mem_cons.mpr ⟨q9ru_wcw6 hT hN hSc, List.forall_mem_cons.mpr ⟨q9ru_wcl6 hT hN hSc, List.forall_mem_cons.mpr ⟨q9ru_wch6 hT hN hSc, List.forall_mem_cons.mpr ⟨q9ru_wib6 hT hN hSc, List.forall_mem_cons.mpr ⟨q9ru_wcw7 hT hN hSc, List.forall_mem_cons.mpr ⟨q9ru_wcl7 hT hN hSc, List.forall_mem_cons.mpr ⟨q9ru_wch7 hT hN hSc, List.forall_mem_cons.mpr ⟨q9ru_wib7 hT hN hSc, List.forall_mem_cons.mpr ⟨q9ru_wcw8 hT hN hSc, List.forall_mem_cons.mpr ⟨q9ru_wcl8 hT hN hSc, List.forall_mem_cons.mpr ⟨q9ru_wch8 hT hN hSc, List.forall_mem_cons.mpr ⟨q9ru_wib8 hT hN hSc, List.forall_mem_cons.mpr ⟨q9ru_wcw9 hT hN hSc, List.forall_mem_cons.mpr ⟨q9ru_wcl9 hT hN hSc, List.forall_mem_cons.mpr ⟨q9ru_wch9 hT hN hSc, List.forall_mem_cons.mpr ⟨q9ru_wib9 hT hN hSc, List.forall_mem_cons.mpr ⟨q9ru_wcw10 hT hN hSc, List.forall_mem_cons.mpr ⟨q9ru_wcl10 hT hN hSc, List.forall_mem_cons.mpr ⟨q9ru_wch10 hT hN hSc, List.forall_mem_cons.mpr ⟨q9ru_wib10 hT hN hSc, List.forall_mem_cons.mpr ⟨q9ru_wcw11 hT hN hSc, List.forall_mem_cons.mpr ⟨q9ru_wcl11 hT hN hSc, List.forall_mem_cons.mpr ⟨q9ru_wch11 hT hN hSc, List.forall_mem_cons.mpr ⟨q9ru_wib11 hT hN hSc, List.forall_mem_cons.mpr ⟨q9ru_wcw12 hT hN hSc, List.forall_mem_cons.mpr ⟨q9ru_wcl12 hT hN hSc, List.forall_mem_cons.mpr ⟨q9ru_wch12 hT hN hSc, List.forall_mem_cons.mpr ⟨q9ru_wib12 hT hN hSc, List.forall_mem_cons.mpr ⟨q9ru_wcw13 hT hN hSc, List.forall_mem_cons.mpr ⟨q9ru_wcl13 hT hN hSc, fun _ h => absurd h List.not_mem_nil⟩⟩⟩⟩⟩⟩⟩⟩⟩⟩⟩⟩⟩⟩⟩⟩⟩⟩⟩⟩⟩⟩⟩⟩⟩⟩⟩⟩⟩⟩⟩⟩⟩⟩⟩⟩⟩⟩⟩⟩
end RUL
