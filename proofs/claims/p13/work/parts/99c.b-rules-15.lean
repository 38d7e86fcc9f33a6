section RUL
variable {T : Int → Int} {N P : Int} {J : Int → Int} {t0 : Int} {Sc : Int → Int}
theorem q9ru_mk_0 (hT : ∀ i, 0 ≤ T i ∧ T i ≤ 255) (hN : 0 ≤ N ∧ N ≤ 400) (hSc : 0 ≤ Sc 1 ∧ Sc 1 ≤ 400 → N = Sc 1) : q9ruOK (fO T N P J t0 Sc) q9R_mk_0 := by
  intro w w0 hA hX hL hV hR
  obtain ⟨x0, ae0, -, -⟩ := hA 0 0 rfl
  obtain ⟨x1, ae1, -, -⟩ := hA 1 0 rfl
  obtain ⟨x2, ae2, -, -⟩ := hA 2 0 rfl
  obtain ⟨x3, ae3, -, -⟩ := hA 3 0 rfl
  have kz : (0 : Int32).toInt = 0 := rfl
  have k1 : (Int32.ofInt 1).toInt = 1 := q9oI_toInt (by decide)
  have X0 := q9th_pX (T := T) (N := N) (P := P) (J := J) (t0 := t0) (Sc := Sc) (op := 1400) (q9evS ae0) (q9evZ w0) (q9evS ae1) (hX _ (List.mem_of_getElem? (i := 0) rfl)) (by decide)
  rw [q9FF_1400] at X0
  have H0 := X0
  try simp only [kz, k1] at H0
  have X1 := q9th_pX (T := T) (N := N) (P := P) (J := J) (t0 := t0) (Sc := Sc) (op := 1402) (q9evS ae0) (q9evZ w0) (q9evS ae2) (hX _ (List.mem_of_getElem? (i := 1) rfl)) (by decide)
  rw [q9FF_1402] at X1
  have H1 := X1
  try simp only [kz, k1] at H1
  have L0 : (Int32.ofInt 1).toInt ≤ x2.toInt + 0 := q9pC (q9evC w0 1) (q9evS ae2) (hL _ (List.mem_of_getElem? (i := 0) rfl))
  have X2 := q9th_pX (T := T) (N := N) (P := P) (J := J) (t0 := t0) (Sc := Sc) (op := 1051) (q9evS ae1) (q9evZ w0) (q9evS ae3) (hX _ (List.mem_of_getElem? (i := 2) rfl)) (by decide)
  rw [q9FF_1051] at X2
  have H2 := q9chV_of X2
  try simp only [kz, k1] at H2
  have V0 := q9pV (T := T) (N := N) (P := P) (J := J) (t0 := t0) (Sc := Sc) (op := 1050) (n := 0) (q9evS ae1) (q9evZ w0) (hV _ (List.mem_of_getElem? (i := 0) rfl)) (by decide)
  rw [q9FF_1050] at V0
  have K0 := q9chV_of V0
  try simp only [kz, k1] at K0
  have L1 : (0 : Int32).toInt ≤ x0.toInt + 0 := q9pC (q9evZ w0) (q9evS ae0) (hL _ (List.mem_of_getElem? (i := 1) rfl))
  have L2 : (0 : Int32).toInt ≤ x1.toInt + 0 := q9pC (q9evZ w0) (q9evS ae1) (hL _ (List.mem_of_getElem? (i := 2) rfl))
  obtain ⟨q, hq, hl⟩ := q9q_m H0
  have hl : q.1 = x1.toInt := hl
  obtain ⟨hf, ha, ho⟩ := q9q_of hq
  have W := q9plW_P hN.1 hf
  obtain ⟨⟨l1, l2, l3, l4⟩, ⟨l5, l6⟩, ⟨l7, l8, l9⟩, l10, l11, l12⟩ := q9q_ln hN.1 hf ha
  have hmr := q9mn_rng hN.1 hf l1 (show q.1 < szP T N P J by omega)
  have hkd : kdP T N P J q.1 = 0 := q9kd_Q (by rw [hl]; exact K0)
  have hk : x0.toInt - q.2.2.2.1 = x2.toInt := q9q_r hq H1
  have hmn : mnP T N P J q.1 = x3.toInt := q9mn_Q (by rw [hl]; exact H2)
  have hw := q9fr_Q ha ho (by omega)
  have u_ : q9upN w 5 [] 0 = .int 0 := q9upN_of (by decide) w0
  have u0 : q9upN w 5 [] 1 = .int x0 := q9upN_of (by decide) ae0
  have u1 : q9upN w 5 [] 2 = .int x1 := q9upN_of (by decide) ae1
  have u2 : q9upN w 5 [] 3 = .int x2 := q9upN_of (by decide) ae2
  have u3 : q9upN w 5 [] 4 = .int x3 := q9upN_of (by decide) ae3
  refine ⟨[], fun i9 p9 hq9 => ?_, fun _ h => absurd h List.not_mem_nil, List.forall_mem_cons.mpr ⟨?_, fun _ h => absurd h List.not_mem_nil⟩⟩
  · exact nomatch (show (none : Option (Nat × q9AV × q9AV × q9ET)) = some p9 from hq9)
  · exact q9th_tC (d := 0) (q9evS u2) (q9evS u3) (by omega)
theorem q9ru_h1_1 (hT : ∀ i, 0 ≤ T i ∧ T i ≤ 255) (hN : 0 ≤ N ∧ N ≤ 400) (hSc : 0 ≤ Sc 1 ∧ Sc 1 ≤ 400 → N = Sc 1) : q9ruOK (fO T N P J t0 Sc) q9R_h1_1 := by
  intro w w0 hA hX hL hV hR
  obtain ⟨x0, ae0, -, -⟩ := hA 0 0 rfl
  obtain ⟨x1, ae1, -, -⟩ := hA 1 0 rfl
  obtain ⟨x2, ae2, -, -⟩ := hA 2 0 rfl
  obtain ⟨x3, ae3, -, -⟩ := hA 3 0 rfl
  obtain ⟨x4, ae4, -, -⟩ := hA 4 0 rfl
  have kz : (0 : Int32).toInt = 0 := rfl
  have k1 : (Int32.ofInt 1).toInt = 1 := q9oI_toInt (by decide)
  have X0 := q9th_pX (T := T) (N := N) (P := P) (J := J) (t0 := t0) (Sc := Sc) (op := 1400) (q9evS ae0) (q9evZ w0) (q9evS ae1) (hX _ (List.mem_of_getElem? (i := 0) rfl)) (by decide)
  rw [q9FF_1400] at X0
  have H0 := X0
  try simp only [kz, k1] at H0
  have X1 := q9th_pX (T := T) (N := N) (P := P) (J := J) (t0 := t0) (Sc := Sc) (op := 1402) (q9evS ae0) (q9evZ w0) (q9evS ae2) (hX _ (List.mem_of_getElem? (i := 1) rfl)) (by decide)
  rw [q9FF_1402] at X1
  have H1 := X1
  try simp only [kz, k1] at H1
  have L0 : (Int32.ofInt 1).toInt ≤ x2.toInt + 0 := q9pC (q9evC w0 1) (q9evS ae2) (hL _ (List.mem_of_getElem? (i := 0) rfl))
  have X2 := q9th_pX (T := T) (N := N) (P := P) (J := J) (t0 := t0) (Sc := Sc) (op := 1051) (q9evS ae1) (q9evZ w0) (q9evS ae3) (hX _ (List.mem_of_getElem? (i := 2) rfl)) (by decide)
  rw [q9FF_1051] at X2
  have H2 := q9chV_of X2
  try simp only [kz, k1] at H2
  have X3 := q9th_pX (T := T) (N := N) (P := P) (J := J) (t0 := t0) (Sc := Sc) (op := 1407) (q9evS ae0) (q9evZ w0) (q9evS ae4) (hX _ (List.mem_of_getElem? (i := 3) rfl)) (by decide)
  rw [q9FF_1407] at X3
  have H3 := X3
  try simp only [kz, k1] at H3
  have L1 : (0 : Int32).toInt ≤ x0.toInt + 0 := q9pC (q9evZ w0) (q9evS ae0) (hL _ (List.mem_of_getElem? (i := 1) rfl))
  have L2 : (0 : Int32).toInt ≤ x1.toInt + 0 := q9pC (q9evZ w0) (q9evS ae1) (hL _ (List.mem_of_getElem? (i := 2) rfl))
  have V0 := q9pV (T := T) (N := N) (P := P) (J := J) (t0 := t0) (Sc := Sc) (op := 1050) (n := 1) (q9evS ae1) (q9evZ w0) (hV _ (List.mem_of_getElem? (i := 0) rfl)) (by decide)
  rw [q9FF_1050] at V0
  have K0 := q9chV_of V0
  try simp only [kz, k1] at K0
  have L3 : x2.toInt ≤ x3.toInt + (-1) := q9pC (q9evS ae2) (q9evS ae3) (hL _ (List.mem_of_getElem? (i := 3) rfl))
  obtain ⟨q, hq, hl⟩ := q9q_m H0
  have hl : q.1 = x1.toInt := hl
  obtain ⟨hf, ha, ho⟩ := q9q_of hq
  have W := q9plW_P hN.1 hf
  obtain ⟨⟨l1, l2, l3, l4⟩, ⟨l5, l6⟩, ⟨l7, l8, l9⟩, l10, l11, l12⟩ := q9q_ln hN.1 hf ha
  have hmr := q9mn_rng hN.1 hf l1 (show q.1 < szP T N P J by omega)
  have hkd : kdP T N P J q.1 = 1 := q9kd_Q (by rw [hl]; exact K0)
  have hk : x0.toInt - q.2.2.2.1 = x2.toInt := q9q_r hq H1
  have hmn : mnP T N P J q.1 = x3.toInt := q9mn_Q (by rw [hl]; exact H2)
  have hlt : q.2.2.2.1 + lQ T N P J q.1 = x4.toInt := q9q_r hq H3
  have hlq : lQ T N P J q.1 = 1 + mnP T N P J q.1 := q9lD_fr (by omega)
  have hm1 := hmr.2.1 (by omega)
  have a1 := q9ad32 (x := x0) (d := 1) (by omega)
  have hq2 : qP T N P J (x0 + Int32.ofInt 1).toInt = some q := by rw [a1]; exact q9q_to hN.1 hf ha (q9ow_fr (by omega) (by omega) (by omega))
  have rg0 : (2 : Int) ≤ 2 ∧ (2 : Int) ≤ 2 := by omega
  obtain ⟨x5, nt5⟩ : ∃ x : Int32, x.toInt = 2 := ⟨Int32.ofInt (2), q9oI_toInt (by omega)⟩
  have rg1 : (1 : Int) ≤ (x2.toInt + 1) ∧ ((x2.toInt + 1) : Int) ≤ 400 := by omega
  obtain ⟨x6, nt6⟩ : ∃ x : Int32, x.toInt = (x2.toInt + 1) := ⟨Int32.ofInt ((x2.toInt + 1)), q9oI_toInt (by omega)⟩
  have u_ : q9upN w 6 [.int x5, .int x6] 0 = .int 0 := q9upN_of (by decide) w0
  have u0 : q9upN w 6 [.int x5, .int x6] 1 = .int x0 := q9upN_of (by decide) ae0
  have u1 : q9upN w 6 [.int x5, .int x6] 2 = .int x1 := q9upN_of (by decide) ae1
  have u2 : q9upN w 6 [.int x5, .int x6] 3 = .int x2 := q9upN_of (by decide) ae2
  have u3 : q9upN w 6 [.int x5, .int x6] 4 = .int x3 := q9upN_of (by decide) ae3
  have u4 : q9upN w 6 [.int x5, .int x6] 5 = .int x4 := q9upN_of (by decide) ae4
  have u5 : q9upN w 6 [.int x5, .int x6] 6 = .int x5 := q9upN_at (by decide)
  have u6 : q9upN w 6 [.int x5, .int x6] 7 = .int x6 := q9upN_at (by decide)
  refine ⟨[.int x5, .int x6], fun i9 p9 hq9 => ?_, List.forall_mem_cons.mpr ⟨?_, List.forall_mem_cons.mpr ⟨?_, fun _ h => absurd h List.not_mem_nil⟩⟩, List.forall_mem_cons.mpr ⟨?_, List.forall_mem_cons.mpr ⟨?_, List.forall_mem_cons.mpr ⟨?_, fun _ h => absurd h List.not_mem_nil⟩⟩⟩⟩
  · match i9, hq9 with
    | 0, hq9 =>
      have hp9 : ((1408, (1, 0), (0, 0), (0, 2, 2)) : Nat × q9AV × q9AV × q9ET) = p9 := Option.some.inj hq9
      subst hp9
      exact ⟨⟨x5, rfl, by rw [nt5]; exact rg0.1, by rw [nt5]; exact rg0.2⟩, (q9th_tX (T := T) (N := N) (P := P) (J := J) (t0 := t0) (Sc := Sc) (q9evS u0) (q9evZ u_) (q9evS u5) (by rw [q9FF_1408, nt5]; exact (q9q_t hq (q9tp_fr (by omega)))) (by decide)).trans (congrArg some (q9evS u5))⟩
    | 1, hq9 =>
      have hp9 : ((1402, (1, 1), (0, 0), (0, 1, 400)) : Nat × q9AV × q9AV × q9ET) = p9 := Option.some.inj hq9
      subst hp9
      exact ⟨⟨x6, rfl, by rw [nt6]; exact rg1.1, by rw [nt6]; exact rg1.2⟩, (q9th_tX (T := T) (N := N) (P := P) (J := J) (t0 := t0) (Sc := Sc) (q9evO u0 1) (q9evZ u_) (q9evS u6) (by rw [q9FF_1402, nt6]; exact (q9q_t hq2 (by show (x0 + Int32.ofInt 1).toInt - q.2.2.2.1 = x2.toInt + 1; omega))) (by decide)).trans (congrArg some (q9evS u6))⟩
    | k9 + 2, hq9 => exact nomatch (show (none : Option (Nat × q9AV × q9AV × q9ET)) = some p9 from hq9)
  · exact q9th_tX (T := T) (N := N) (P := P) (J := J) (t0 := t0) (Sc := Sc) (q9evO u0 1) (q9evZ u_) (q9evS u1) (by rw [q9FF_1400]; exact (q9q_t hq2 hl)) (by decide)
  · exact q9th_tX (T := T) (N := N) (P := P) (J := J) (t0 := t0) (Sc := Sc) (q9evO u0 1) (q9evZ u_) (q9evS u4) (by rw [q9FF_1407]; exact (q9q_t hq2 hlt)) (by decide)
  · exact q9th_tC (d := (-2)) (q9evS u0) (q9evS u4) (by omega)
  · exact q9th_tC (d := 1) (q9evS u6) (q9evS u2) (by omega)
  · exact q9th_tC (d := (-1)) (q9evS u2) (q9evS u6) (by omega)
theorem q9ru_h2_1 (hT : ∀ i, 0 ≤ T i ∧ T i ≤ 255) (hN : 0 ≤ N ∧ N ≤ 400) (hSc : 0 ≤ Sc 1 ∧ Sc 1 ≤ 400 → N = Sc 1) : q9ruOK (fO T N P J t0 Sc) q9R_h2_1 := by
  intro w w0 hA hX hL hV hR
  obtain ⟨x0, ae0, -, -⟩ := hA 0 0 rfl
  obtain ⟨x1, ae1, -, -⟩ := hA 1 0 rfl
  obtain ⟨x2, ae2, -, -⟩ := hA 2 0 rfl
  obtain ⟨x3, ae3, -, -⟩ := hA 3 0 rfl
  obtain ⟨x4, ae4, -, -⟩ := hA 4 0 rfl
  have kz : (0 : Int32).toInt = 0 := rfl
  have k1 : (Int32.ofInt 1).toInt = 1 := q9oI_toInt (by decide)
  have X0 := q9th_pX (T := T) (N := N) (P := P) (J := J) (t0 := t0) (Sc := Sc) (op := 1400) (q9evS ae0) (q9evZ w0) (q9evS ae1) (hX _ (List.mem_of_getElem? (i := 0) rfl)) (by decide)
  rw [q9FF_1400] at X0
  have H0 := X0
  try simp only [kz, k1] at H0
  have X1 := q9th_pX (T := T) (N := N) (P := P) (J := J) (t0 := t0) (Sc := Sc) (op := 1402) (q9evS ae0) (q9evZ w0) (q9evS ae2) (hX _ (List.mem_of_getElem? (i := 1) rfl)) (by decide)
  rw [q9FF_1402] at X1
  have H1 := X1
  try simp only [kz, k1] at H1
  have L0 : (Int32.ofInt 1).toInt ≤ x2.toInt + 0 := q9pC (q9evC w0 1) (q9evS ae2) (hL _ (List.mem_of_getElem? (i := 0) rfl))
  have X2 := q9th_pX (T := T) (N := N) (P := P) (J := J) (t0 := t0) (Sc := Sc) (op := 1051) (q9evS ae1) (q9evZ w0) (q9evS ae3) (hX _ (List.mem_of_getElem? (i := 2) rfl)) (by decide)
  rw [q9FF_1051] at X2
  have H2 := q9chV_of X2
  try simp only [kz, k1] at H2
  have X3 := q9th_pX (T := T) (N := N) (P := P) (J := J) (t0 := t0) (Sc := Sc) (op := 1407) (q9evS ae0) (q9evZ w0) (q9evS ae4) (hX _ (List.mem_of_getElem? (i := 3) rfl)) (by decide)
  rw [q9FF_1407] at X3
  have H3 := X3
  try simp only [kz, k1] at H3
  have L1 : (0 : Int32).toInt ≤ x0.toInt + 0 := q9pC (q9evZ w0) (q9evS ae0) (hL _ (List.mem_of_getElem? (i := 1) rfl))
  have L2 : (0 : Int32).toInt ≤ x1.toInt + 0 := q9pC (q9evZ w0) (q9evS ae1) (hL _ (List.mem_of_getElem? (i := 2) rfl))
  have V0 := q9pV (T := T) (N := N) (P := P) (J := J) (t0 := t0) (Sc := Sc) (op := 1050) (n := 1) (q9evS ae1) (q9evZ w0) (hV _ (List.mem_of_getElem? (i := 0) rfl)) (by decide)
  rw [q9FF_1050] at V0
  have K0 := q9chV_of V0
  try simp only [kz, k1] at K0
  have L3 : x3.toInt ≤ x2.toInt + 0 := q9pC (q9evS ae3) (q9evS ae2) (hL _ (List.mem_of_getElem? (i := 3) rfl))
  obtain ⟨q, hq, hl⟩ := q9q_m H0
  have hl : q.1 = x1.toInt := hl
  obtain ⟨hf, ha, ho⟩ := q9q_of hq
  have W := q9plW_P hN.1 hf
  obtain ⟨⟨l1, l2, l3, l4⟩, ⟨l5, l6⟩, ⟨l7, l8, l9⟩, l10, l11, l12⟩ := q9q_ln hN.1 hf ha
  have hmr := q9mn_rng hN.1 hf l1 (show q.1 < szP T N P J by omega)
  have hkd : kdP T N P J q.1 = 1 := q9kd_Q (by rw [hl]; exact K0)
  have hk : x0.toInt - q.2.2.2.1 = x2.toInt := q9q_r hq H1
  have hmn : mnP T N P J q.1 = x3.toInt := q9mn_Q (by rw [hl]; exact H2)
  have hlt : q.2.2.2.1 + lQ T N P J q.1 = x4.toInt := q9q_r hq H3
  have hlq : lQ T N P J q.1 = 1 + mnP T N P J q.1 := q9lD_fr (by omega)
  have hm1 := hmr.2.1 (by omega)
  have a1 := q9ad32 (x := x0) (d := 1) (by omega)
  have hw := q9fr_Q ha ho (by omega)
  have rg0 : (2 : Int) ≤ 2 ∧ (2 : Int) ≤ 2 := by omega
  obtain ⟨x5, nt5⟩ : ∃ x : Int32, x.toInt = 2 := ⟨Int32.ofInt (2), q9oI_toInt (by omega)⟩
  have u_ : q9upN w 6 [.int x5] 0 = .int 0 := q9upN_of (by decide) w0
  have u0 : q9upN w 6 [.int x5] 1 = .int x0 := q9upN_of (by decide) ae0
  have u1 : q9upN w 6 [.int x5] 2 = .int x1 := q9upN_of (by decide) ae1
  have u2 : q9upN w 6 [.int x5] 3 = .int x2 := q9upN_of (by decide) ae2
  have u3 : q9upN w 6 [.int x5] 4 = .int x3 := q9upN_of (by decide) ae3
  have u4 : q9upN w 6 [.int x5] 5 = .int x4 := q9upN_of (by decide) ae4
  have u5 : q9upN w 6 [.int x5] 6 = .int x5 := q9upN_at (by decide)
  refine ⟨[.int x5], fun i9 p9 hq9 => ?_, fun _ h => absurd h List.not_mem_nil, List.forall_mem_cons.mpr ⟨?_, List.forall_mem_cons.mpr ⟨?_, fun _ h => absurd h List.not_mem_nil⟩⟩⟩
  · match i9, hq9 with
    | 0, hq9 =>
      have hp9 : ((1408, (1, 0), (0, 0), (0, 2, 2)) : Nat × q9AV × q9AV × q9ET) = p9 := Option.some.inj hq9
      subst hp9
      exact ⟨⟨x5, rfl, by rw [nt5]; exact rg0.1, by rw [nt5]; exact rg0.2⟩, (q9th_tX (T := T) (N := N) (P := P) (J := J) (t0 := t0) (Sc := Sc) (q9evS u0) (q9evZ u_) (q9evS u5) (by rw [q9FF_1408, nt5]; exact (q9q_t hq (q9tp_fr (by omega)))) (by decide)).trans (congrArg some (q9evS u5))⟩
    | k9 + 1, hq9 => exact nomatch (show (none : Option (Nat × q9AV × q9AV × q9ET)) = some p9 from hq9)
  · exact q9th_tC (d := 1) (q9evS u4) (q9evS u0) (by omega)
  · exact q9th_tC (d := (-1)) (q9evS u0) (q9evS u4) (by omega)
theorem q9ru_mk_1 (hT : ∀ i, 0 ≤ T i ∧ T i ≤ 255) (hN : 0 ≤ N ∧ N ≤ 400) (hSc : 0 ≤ Sc 1 ∧ Sc 1 ≤ 400 → N = Sc 1) : q9ruOK (fO T N P J t0 Sc) q9R_mk_1 := by
  intro w w0 hA hX hL hV hR
  obtain ⟨x0, ae0, -, -⟩ := hA 0 0 rfl
  obtain ⟨x1, ae1, -, -⟩ := hA 1 0 rfl
  obtain ⟨x2, ae2, -, -⟩ := hA 2 0 rfl
  obtain ⟨x3, ae3, -, -⟩ := hA 3 0 rfl
  have kz : (0 : Int32).toInt = 0 := rfl
  have k1 : (Int32.ofInt 1).toInt = 1 := q9oI_toInt (by decide)
  have X0 := q9th_pX (T := T) (N := N) (P := P) (J := J) (t0 := t0) (Sc := Sc) (op := 1400) (q9evS ae0) (q9evZ w0) (q9evS ae1) (hX _ (List.mem_of_getElem? (i := 0) rfl)) (by decide)
  rw [q9FF_1400] at X0
  have H0 := X0
  try simp only [kz, k1] at H0
  have X1 := q9th_pX (T := T) (N := N) (P := P) (J := J) (t0 := t0) (Sc := Sc) (op := 1402) (q9evS ae0) (q9evZ w0) (q9evS ae2) (hX _ (List.mem_of_getElem? (i := 1) rfl)) (by decide)
  rw [q9FF_1402] at X1
  have H1 := X1
  try simp only [kz, k1] at H1
  have L0 : (Int32.ofInt 1).toInt ≤ x2.toInt + 0 := q9pC (q9evC w0 1) (q9evS ae2) (hL _ (List.mem_of_getElem? (i := 0) rfl))
  have X2 := q9th_pX (T := T) (N := N) (P := P) (J := J) (t0 := t0) (Sc := Sc) (op := 1051) (q9evS ae1) (q9evZ w0) (q9evS ae3) (hX _ (List.mem_of_getElem? (i := 2) rfl)) (by decide)
  rw [q9FF_1051] at X2
  have H2 := q9chV_of X2
  try simp only [kz, k1] at H2
  have V0 := q9pV (T := T) (N := N) (P := P) (J := J) (t0 := t0) (Sc := Sc) (op := 1050) (n := 1) (q9evS ae1) (q9evZ w0) (hV _ (List.mem_of_getElem? (i := 0) rfl)) (by decide)
  rw [q9FF_1050] at V0
  have K0 := q9chV_of V0
  try simp only [kz, k1] at K0
  have L1 : (0 : Int32).toInt ≤ x0.toInt + 0 := q9pC (q9evZ w0) (q9evS ae0) (hL _ (List.mem_of_getElem? (i := 1) rfl))
  have L2 : (0 : Int32).toInt ≤ x1.toInt + 0 := q9pC (q9evZ w0) (q9evS ae1) (hL _ (List.mem_of_getElem? (i := 2) rfl))
  obtain ⟨q, hq, hl⟩ := q9q_m H0
  have hl : q.1 = x1.toInt := hl
  obtain ⟨hf, ha, ho⟩ := q9q_of hq
  have W := q9plW_P hN.1 hf
  obtain ⟨⟨l1, l2, l3, l4⟩, ⟨l5, l6⟩, ⟨l7, l8, l9⟩, l10, l11, l12⟩ := q9q_ln hN.1 hf ha
  have hmr := q9mn_rng hN.1 hf l1 (show q.1 < szP T N P J by omega)
  have hkd : kdP T N P J q.1 = 1 := q9kd_Q (by rw [hl]; exact K0)
  have hk : x0.toInt - q.2.2.2.1 = x2.toInt := q9q_r hq H1
  have hmn : mnP T N P J q.1 = x3.toInt := q9mn_Q (by rw [hl]; exact H2)
  have hw := q9fr_Q ha ho (by omega)
  have u_ : q9upN w 5 [] 0 = .int 0 := q9upN_of (by decide) w0
  have u0 : q9upN w 5 [] 1 = .int x0 := q9upN_of (by decide) ae0
  have u1 : q9upN w 5 [] 2 = .int x1 := q9upN_of (by decide) ae1
  have u2 : q9upN w 5 [] 3 = .int x2 := q9upN_of (by decide) ae2
  have u3 : q9upN w 5 [] 4 = .int x3 := q9upN_of (by decide) ae3
  refine ⟨[], fun i9 p9 hq9 => ?_, fun _ h => absurd h List.not_mem_nil, List.forall_mem_cons.mpr ⟨?_, fun _ h => absurd h List.not_mem_nil⟩⟩
  · exact nomatch (show (none : Option (Nat × q9AV × q9AV × q9ET)) = some p9 from hq9)
  · exact q9th_tC (d := 0) (q9evS u2) (q9evS u3) (by omega)
theorem q9ru_fc0 (hT : ∀ i, 0 ≤ T i ∧ T i ≤ 255) (hN : 0 ≤ N ∧ N ≤ 400) (hSc : 0 ≤ Sc 1 ∧ Sc 1 ≤ 400 → N = Sc 1) : q9ruOK (fO T N P J t0 Sc) q9R_fc0 := by
  intro w w0 hA hX hL hV hR
  obtain ⟨x0, ae0, -, -⟩ := hA 0 0 rfl
  obtain ⟨x1, ae1, -, -⟩ := hA 1 0 rfl
  have kz : (0 : Int32).toInt = 0 := rfl
  have X0 := q9th_pX (T := T) (N := N) (P := P) (J := J) (t0 := t0) (Sc := Sc) (op := 1406) (q9evS ae0) (q9evZ w0) (q9evS ae1) (hX _ (List.mem_of_getElem? (i := 0) rfl)) (by decide)
  rw [q9FF_1406] at X0
  have H0 := Option.some.inj X0
  try simp only [kz] at H0
  have V0 := q9pV (T := T) (N := N) (P := P) (J := J) (t0 := t0) (Sc := Sc) (op := 1408) (n := 0) (q9evS ae0) (q9evZ w0) (hV _ (List.mem_of_getElem? (i := 0) rfl)) (by decide)
  rw [q9FF_1408] at V0
  have K0 := id V0
  try simp only [kz] at K0
  have L0 : (0 : Int32).toInt ≤ x0.toInt + 0 := q9pC (q9evZ w0) (q9evS ae0) (hL _ (List.mem_of_getElem? (i := 0) rfl))
  obtain ⟨q, hq, ht⟩ := q9q_m K0
  obtain ⟨hf, ha, ho⟩ := q9q_of hq
  obtain ⟨⟨l1, l2, l3, l4⟩, ⟨l5, l6⟩, ⟨l7, l8, l9⟩, l10, l11, l12⟩ := q9q_ln hN.1 hf ha
  have W := q9plW_P hN.1 hf
  have ht := q9tp_n ht (by decide) ho
  have hn : ¬ q9frQ T N P J x0.toInt := q9fr_nQ hN.1 hf ha ht.1
  have a1 := q9ad32 (x := x0) (d := 1) (by omega)
  have hy : cnQ T N P J (x0.toInt + 1) = cnQ T N P J x0.toInt := q9cn_no (by omega) hn
  have u_ : q9upN w 3 [] 0 = .int 0 := q9upN_of (by decide) w0
  have u0 : q9upN w 3 [] 1 = .int x0 := q9upN_of (by decide) ae0
  have u1 : q9upN w 3 [] 2 = .int x1 := q9upN_of (by decide) ae1
  refine ⟨[], fun i9 p9 hq9 => ?_, List.forall_mem_cons.mpr ⟨?_, fun _ h => absurd h List.not_mem_nil⟩, fun _ h => absurd h List.not_mem_nil⟩
  · exact nomatch (show (none : Option (Nat × q9AV × q9AV × q9ET)) = some p9 from hq9)
  · exact q9th_tX (T := T) (N := N) (P := P) (J := J) (t0 := t0) (Sc := Sc) (q9evO u0 1) (q9evZ u_) (q9evS u1) (by rw [q9FF_1406]; exact (by rw [a1, hy]; exact congrArg some H0)) (by decide)
theorem q9ru_fc1 (hT : ∀ i, 0 ≤ T i ∧ T i ≤ 255) (hN : 0 ≤ N ∧ N ≤ 400) (hSc : 0 ≤ Sc 1 ∧ Sc 1 ≤ 400 → N = Sc 1) : q9ruOK (fO T N P J t0 Sc) q9R_fc1 := by
  intro w w0 hA hX hL hV hR
  obtain ⟨x0, ae0, -, -⟩ := hA 0 0 rfl
  obtain ⟨x1, ae1, -, -⟩ := hA 1 0 rfl
  have kz : (0 : Int32).toInt = 0 := rfl
  have X0 := q9th_pX (T := T) (N := N) (P := P) (J := J) (t0 := t0) (Sc := Sc) (op := 1406) (q9evS ae0) (q9evZ w0) (q9evS ae1) (hX _ (List.mem_of_getElem? (i := 0) rfl)) (by decide)
  rw [q9FF_1406] at X0
  have H0 := Option.some.inj X0
  try simp only [kz] at H0
  have V0 := q9pV (T := T) (N := N) (P := P) (J := J) (t0 := t0) (Sc := Sc) (op := 1408) (n := 1) (q9evS ae0) (q9evZ w0) (hV _ (List.mem_of_getElem? (i := 0) rfl)) (by decide)
  rw [q9FF_1408] at V0
  have K0 := id V0
  try simp only [kz] at K0
  have L0 : (0 : Int32).toInt ≤ x0.toInt + 0 := q9pC (q9evZ w0) (q9evS ae0) (hL _ (List.mem_of_getElem? (i := 0) rfl))
  obtain ⟨q, hq, ht⟩ := q9q_m K0
  obtain ⟨hf, ha, ho⟩ := q9q_of hq
  obtain ⟨⟨l1, l2, l3, l4⟩, ⟨l5, l6⟩, ⟨l7, l8, l9⟩, l10, l11, l12⟩ := q9q_ln hN.1 hf ha
  have W := q9plW_P hN.1 hf
  have ht := q9tp_n ht (by decide) ho
  have hn : ¬ q9frQ T N P J x0.toInt := q9fr_nQ hN.1 hf ha ht.1
  have a1 := q9ad32 (x := x0) (d := 1) (by omega)
  have hy : cnQ T N P J (x0.toInt + 1) = cnQ T N P J x0.toInt := q9cn_no (by omega) hn
  have u_ : q9upN w 3 [] 0 = .int 0 := q9upN_of (by decide) w0
  have u0 : q9upN w 3 [] 1 = .int x0 := q9upN_of (by decide) ae0
  have u1 : q9upN w 3 [] 2 = .int x1 := q9upN_of (by decide) ae1
  refine ⟨[], fun i9 p9 hq9 => ?_, List.forall_mem_cons.mpr ⟨?_, fun _ h => absurd h List.not_mem_nil⟩, fun _ h => absurd h List.not_mem_nil⟩
  · exact nomatch (show (none : Option (Nat × q9AV × q9AV × q9ET)) = some p9 from hq9)
  · exact q9th_tX (T := T) (N := N) (P := P) (J := J) (t0 := t0) (Sc := Sc) (q9evO u0 1) (q9evZ u_) (q9evS u1) (by rw [q9FF_1406]; exact (by rw [a1, hy]; exact congrArg some H0)) (by decide)
theorem q9ru_fc2 (hT : ∀ i, 0 ≤ T i ∧ T i ≤ 255) (hN : 0 ≤ N ∧ N ≤ 400) (hSc : 0 ≤ Sc 1 ∧ Sc 1 ≤ 400 → N = Sc 1) : q9ruOK (fO T N P J t0 Sc) q9R_fc2 := by
  intro w w0 hA hX hL hV hR
  obtain ⟨x0, ae0, -, -⟩ := hA 0 0 rfl
  obtain ⟨x1, ae1, -, -⟩ := hA 1 0 rfl
  obtain ⟨x2, ae2, -, -⟩ := hA 2 0 rfl
  have kz : (0 : Int32).toInt = 0 := rfl
  have X0 := q9th_pX (T := T) (N := N) (P := P) (J := J) (t0 := t0) (Sc := Sc) (op := 1406) (q9evS ae0) (q9evZ w0) (q9evS ae1) (hX _ (List.mem_of_getElem? (i := 0) rfl)) (by decide)
  rw [q9FF_1406] at X0
  have H0 := Option.some.inj X0
  try simp only [kz] at H0
  have V0 := q9pV (T := T) (N := N) (P := P) (J := J) (t0 := t0) (Sc := Sc) (op := 1408) (n := 2) (q9evS ae0) (q9evZ w0) (hV _ (List.mem_of_getElem? (i := 0) rfl)) (by decide)
  rw [q9FF_1408] at V0
  have K0 := id V0
  try simp only [kz] at K0
  have X1 := q9th_pX (T := T) (N := N) (P := P) (J := J) (t0 := t0) (Sc := Sc) (op := 1047) (q9evZ w0) (q9evZ w0) (q9evS ae2) (hX _ (List.mem_of_getElem? (i := 1) rfl)) (by decide)
  rw [q9FF_1047] at X1
  have H1 := Option.some.inj X1
  try simp only [kz] at H1
  have L0 : (0 : Int32).toInt ≤ x0.toInt + 0 := q9pC (q9evZ w0) (q9evS ae0) (hL _ (List.mem_of_getElem? (i := 0) rfl))
  obtain ⟨q, hq, ht⟩ := q9q_m K0
  obtain ⟨hf, ha, ho⟩ := q9q_of hq
  obtain ⟨⟨l1, l2, l3, l4⟩, ⟨l5, l6⟩, ⟨l7, l8, l9⟩, l10, l11, l12⟩ := q9q_ln hN.1 hf ha
  have W := q9plW_P hN.1 hf
  obtain ⟨hfr, hk1, hk2⟩ := q9fr_Q ha ho (q9tp_2 ht)
  have hlb := q9fr_lt hN.1 hf hfr
  have a1 := q9ad32 (x := x0) (d := 1) (by omega)
  have hy : cnQ T N P J (x0.toInt + 1) = cnQ T N P J x0.toInt + 1 := q9cn_yes (by omega) hfr
  have hu := q9cn_up hN.1 hf (x0.toInt + 1).toNat
  rw [show ((x0.toInt + 1).toNat : Int) = x0.toInt + 1 by omega] at hu
  have hfi := q9fn_fin hN.1 hf
  have hc4 := q9cn_400 hN.1 hf (s := x0.toInt) (by omega)
  have hfc : cnQ T N P J x0.toInt = x1.toInt := H0
  have hff : (finI T N P J).2.2 = x2.toInt := H1
  have rg0 : (1 : Int) ≤ (x1.toInt + 1) ∧ ((x1.toInt + 1) : Int) ≤ 400 := by omega
  obtain ⟨x3, nt3⟩ : ∃ x : Int32, x.toInt = (x1.toInt + 1) := ⟨Int32.ofInt ((x1.toInt + 1)), q9oI_toInt (by omega)⟩
  have u_ : q9upN w 4 [.int x3] 0 = .int 0 := q9upN_of (by decide) w0
  have u0 : q9upN w 4 [.int x3] 1 = .int x0 := q9upN_of (by decide) ae0
  have u1 : q9upN w 4 [.int x3] 2 = .int x1 := q9upN_of (by decide) ae1
  have u2 : q9upN w 4 [.int x3] 3 = .int x2 := q9upN_of (by decide) ae2
  have u3 : q9upN w 4 [.int x3] 4 = .int x3 := q9upN_at (by decide)
  refine ⟨[.int x3], fun i9 p9 hq9 => ?_, fun _ h => absurd h List.not_mem_nil, List.forall_mem_cons.mpr ⟨?_, List.forall_mem_cons.mpr ⟨?_, List.forall_mem_cons.mpr ⟨?_, fun _ h => absurd h List.not_mem_nil⟩⟩⟩⟩
  · match i9, hq9 with
    | 0, hq9 =>
      have hp9 : ((1406, (1, 1), (0, 0), (0, 1, 400)) : Nat × q9AV × q9AV × q9ET) = p9 := Option.some.inj hq9
      subst hp9
      exact ⟨⟨x3, rfl, by rw [nt3]; exact rg0.1, by rw [nt3]; exact rg0.2⟩, (q9th_tX (T := T) (N := N) (P := P) (J := J) (t0 := t0) (Sc := Sc) (q9evO u0 1) (q9evZ u_) (q9evS u3) (by rw [q9FF_1406, nt3]; exact (by rw [a1, hy, hfc])) (by decide)).trans (congrArg some (q9evS u3))⟩
    | k9 + 1, hq9 => exact nomatch (show (none : Option (Nat × q9AV × q9AV × q9ET)) = some p9 from hq9)
  · exact q9th_tC (d := 1) (q9evS u3) (q9evS u1) (by omega)
  · exact q9th_tC (d := (-1)) (q9evS u1) (q9evS u3) (by omega)
  · exact q9th_tC (d := (-1)) (q9evS u1) (q9evS u2) (by omega)
theorem q9ru_fc3 (hT : ∀ i, 0 ≤ T i ∧ T i ≤ 255) (hN : 0 ≤ N ∧ N ≤ 400) (hSc : 0 ≤ Sc 1 ∧ Sc 1 ≤ 400 → N = Sc 1) : q9ruOK (fO T N P J t0 Sc) q9R_fc3 := by
  intro w w0 hA hX hL hV hR
  obtain ⟨x0, ae0, -, -⟩ := hA 0 0 rfl
  obtain ⟨x1, ae1, -, -⟩ := hA 1 0 rfl
  obtain ⟨x2, ae2, -, -⟩ := hA 2 0 rfl
  have kz : (0 : Int32).toInt = 0 := rfl
  have X0 := q9th_pX (T := T) (N := N) (P := P) (J := J) (t0 := t0) (Sc := Sc) (op := 1406) (q9evS ae0) (q9evZ w0) (q9evS ae1) (hX _ (List.mem_of_getElem? (i := 0) rfl)) (by decide)
  rw [q9FF_1406] at X0
  have H0 := Option.some.inj X0
  try simp only [kz] at H0
  have V0 := q9pV (T := T) (N := N) (P := P) (J := J) (t0 := t0) (Sc := Sc) (op := 1408) (n := 2) (q9evS ae0) (q9evZ w0) (hV _ (List.mem_of_getElem? (i := 0) rfl)) (by decide)
  rw [q9FF_1408] at V0
  have K0 := id V0
  try simp only [kz] at K0
  have X1 := q9th_pX (T := T) (N := N) (P := P) (J := J) (t0 := t0) (Sc := Sc) (op := 1047) (q9evZ w0) (q9evZ w0) (q9evS ae2) (hX _ (List.mem_of_getElem? (i := 1) rfl)) (by decide)
  rw [q9FF_1047] at X1
  have H1 := Option.some.inj X1
  try simp only [kz] at H1
  have L0 : (0 : Int32).toInt ≤ x0.toInt + 0 := q9pC (q9evZ w0) (q9evS ae0) (hL _ (List.mem_of_getElem? (i := 0) rfl))
  obtain ⟨q, hq, ht⟩ := q9q_m K0
  obtain ⟨hf, ha, ho⟩ := q9q_of hq
  obtain ⟨⟨l1, l2, l3, l4⟩, ⟨l5, l6⟩, ⟨l7, l8, l9⟩, l10, l11, l12⟩ := q9q_ln hN.1 hf ha
  have W := q9plW_P hN.1 hf
  obtain ⟨hfr, hk1, hk2⟩ := q9fr_Q ha ho (q9tp_2 ht)
  have hlb := q9fr_lt hN.1 hf hfr
  have a1 := q9ad32 (x := x0) (d := 1) (by omega)
  have hy : cnQ T N P J (x0.toInt + 1) = cnQ T N P J x0.toInt + 1 := q9cn_yes (by omega) hfr
  have hu := q9cn_up hN.1 hf (x0.toInt + 1).toNat
  rw [show ((x0.toInt + 1).toNat : Int) = x0.toInt + 1 by omega] at hu
  have hfi := q9fn_fin hN.1 hf
  have hc4 := q9cn_400 hN.1 hf (s := x0.toInt) (by omega)
  have hfc : cnQ T N P J x0.toInt = x1.toInt := H0
  have hff : (finI T N P J).2.2 = x2.toInt := H1
  have u_ : q9upN w 4 [] 0 = .int 0 := q9upN_of (by decide) w0
  have u0 : q9upN w 4 [] 1 = .int x0 := q9upN_of (by decide) ae0
  have u1 : q9upN w 4 [] 2 = .int x1 := q9upN_of (by decide) ae1
  have u2 : q9upN w 4 [] 3 = .int x2 := q9upN_of (by decide) ae2
  refine ⟨[], fun i9 p9 hq9 => ?_, fun _ h => absurd h List.not_mem_nil, List.forall_mem_cons.mpr ⟨?_, List.forall_mem_cons.mpr ⟨?_, fun _ h => absurd h List.not_mem_nil⟩⟩⟩
  · exact nomatch (show (none : Option (Nat × q9AV × q9AV × q9ET)) = some p9 from hq9)
  · exact q9th_tC (d := (-1)) (q9evS u1) (q9evS u2) (by omega)
  · exact q9th_tC (d := 0) (q9evZ u_) (q9evS u1) (by omega)
theorem q9ru_rp0 (hT : ∀ i, 0 ≤ T i ∧ T i ≤ 255) (hN : 0 ≤ N ∧ N ≤ 400) (hSc : 0 ≤ Sc 1 ∧ Sc 1 ≤ 400 → N = Sc 1) : q9ruOK (fO T N P J t0 Sc) q9R_rp0 := by
  intro w w0 hA hX hL hV hR
  obtain ⟨x0, ae0, -, -⟩ := hA 0 0 rfl
  obtain ⟨x1, ae1, -, -⟩ := hA 1 0 rfl
  obtain ⟨x2, ae2, -, -⟩ := hA 2 0 rfl
  have kz : (0 : Int32).toInt = 0 := rfl
  have k1 : (Int32.ofInt 1).toInt = 1 := q9oI_toInt (by decide)
  have k20 : (Int32.ofInt 20).toInt = 20 := q9oI_toInt (by decide)
  have X0 := q9th_pX (T := T) (N := N) (P := P) (J := J) (t0 := t0) (Sc := Sc) (op := 1400) (q9evS ae0) (q9evZ w0) (q9evS ae1) (hX _ (List.mem_of_getElem? (i := 0) rfl)) (by decide)
  rw [q9FF_1400] at X0
  have H0 := X0
  try simp only [kz, k1, k20] at H0
  have V0 := q9pV (T := T) (N := N) (P := P) (J := J) (t0 := t0) (Sc := Sc) (op := 1402) (n := 0) (q9evS ae0) (q9evZ w0) (hV _ (List.mem_of_getElem? (i := 0) rfl)) (by decide)
  rw [q9FF_1402] at V0
  have K0 := id V0
  try simp only [kz, k1, k20] at K0
  have L0 : (0 : Int32).toInt ≤ x0.toInt + 0 := q9pC (q9evZ w0) (q9evS ae0) (hL _ (List.mem_of_getElem? (i := 0) rfl))
  have L1 : (0 : Int32).toInt ≤ x1.toInt + 0 := q9pC (q9evZ w0) (q9evS ae1) (hL _ (List.mem_of_getElem? (i := 1) rfl))
  have V1 := q9pV (T := T) (N := N) (P := P) (J := J) (t0 := t0) (Sc := Sc) (op := 1050) (n := 7) (q9evS ae1) (q9evZ w0) (hV _ (List.mem_of_getElem? (i := 1) rfl)) (by decide)
  rw [q9FF_1050] at V1
  have K1 := q9chV_of V1
  try simp only [kz, k1, k20] at K1
  have X1 := q9th_pX (T := T) (N := N) (P := P) (J := J) (t0 := t0) (Sc := Sc) (op := 1051) (q9evS ae1) (q9evZ w0) (q9evS ae2) (hX _ (List.mem_of_getElem? (i := 1) rfl)) (by decide)
  rw [q9FF_1051] at X1
  have H1 := q9chV_of X1
  try simp only [kz, k1, k20] at H1
  obtain ⟨q, hq, hl⟩ := q9q_m H0
  have hl : q.1 = x1.toInt := hl
  obtain ⟨hf, ha, ho⟩ := q9q_of hq
  have W := q9plW_P hN.1 hf
  obtain ⟨⟨l1, l2, l3, l4⟩, ⟨l5, l6⟩, ⟨l7, l8, l9⟩, l10, l11, l12⟩ := q9q_ln hN.1 hf ha
  have hmr := q9mn_rng hN.1 hf l1 (show q.1 < szP T N P J by omega)
  have hk : x0.toInt - q.2.2.2.1 = 0 := q9q_r hq K0
  have hkd : kdP T N P J q.1 = 7 := q9kd_Q (by rw [hl]; exact K1)
  have hmn : mnP T N P J q.1 = x2.toInt := q9mn_Q (by rw [hl]; exact H1)
  have hm7 := hmr.2.2.2.1 hkd
  have rg0 : (0 : Int) ≤ 0 ∧ (0 : Int) ≤ 0 := by omega
  obtain ⟨x3, nt3⟩ : ∃ x : Int32, x.toInt = 0 := ⟨Int32.ofInt (0), q9oI_toInt (by omega)⟩
  have rg1 : (1 : Int) ≤ (x0.toInt + 1) ∧ ((x0.toInt + 1) : Int) ≤ 4000 := by omega
  obtain ⟨x4, nt4⟩ : ∃ x : Int32, x.toInt = (x0.toInt + 1) := ⟨Int32.ofInt ((x0.toInt + 1)), q9oI_toInt (by omega)⟩
  have u_ : q9upN w 4 [.int x3, .int x4] 0 = .int 0 := q9upN_of (by decide) w0
  have u0 : q9upN w 4 [.int x3, .int x4] 1 = .int x0 := q9upN_of (by decide) ae0
  have u1 : q9upN w 4 [.int x3, .int x4] 2 = .int x1 := q9upN_of (by decide) ae1
  have u2 : q9upN w 4 [.int x3, .int x4] 3 = .int x2 := q9upN_of (by decide) ae2
  have u3 : q9upN w 4 [.int x3, .int x4] 4 = .int x3 := q9upN_at (by decide)
  have u4 : q9upN w 4 [.int x3, .int x4] 5 = .int x4 := q9upN_at (by decide)
  refine ⟨[.int x3, .int x4], fun i9 p9 hq9 => ?_, fun _ h => absurd h List.not_mem_nil, List.forall_mem_cons.mpr ⟨?_, List.forall_mem_cons.mpr ⟨?_, List.forall_mem_cons.mpr ⟨?_, List.forall_mem_cons.mpr ⟨?_, fun _ h => absurd h List.not_mem_nil⟩⟩⟩⟩⟩
  · match i9, hq9 with
    | 0, hq9 =>
      have hp9 : ((1408, (1, 0), (0, 0), (0, 0, 0)) : Nat × q9AV × q9AV × q9ET) = p9 := Option.some.inj hq9
      subst hp9
      exact ⟨⟨x3, rfl, by rw [nt3]; exact rg0.1, by rw [nt3]; exact rg0.2⟩, (q9th_tX (T := T) (N := N) (P := P) (J := J) (t0 := t0) (Sc := Sc) (q9evS u0) (q9evZ u_) (q9evS u3) (by rw [q9FF_1408, nt3]; exact (q9q_t hq (q9tp_st (by omega) (by rw [hkd]; rfl)))) (by decide)).trans (congrArg some (q9evS u3))⟩
    | 1, hq9 =>
      have hp9 : ((1405, (1, 0), (0, 0), (0, 1, 4000)) : Nat × q9AV × q9AV × q9ET) = p9 := Option.some.inj hq9
      subst hp9
      exact ⟨⟨x4, rfl, by rw [nt4]; exact rg1.1, by rw [nt4]; exact rg1.2⟩, (q9th_tX (T := T) (N := N) (P := P) (J := J) (t0 := t0) (Sc := Sc) (q9evS u0) (q9evZ u_) (q9evS u4) (by rw [q9FF_1405, nt4]; exact (q9q_t hq (by show q.2.2.2.1 + 1 + (0 : Int32).toInt * bQ T N P J (q.1 + 1) (enP T N P J q.1) = x0.toInt + 1; rw [kz, Int.zero_mul]; omega))) (by decide)).trans (congrArg some (q9evS u4))⟩
    | k9 + 2, hq9 => exact nomatch (show (none : Option (Nat × q9AV × q9AV × q9ET)) = some p9 from hq9)
  · exact q9th_tC (d := 1) (q9evS u4) (q9evS u0) (by omega)
  · exact q9th_tC (d := (-1)) (q9evS u0) (q9evS u4) (by omega)
  · exact q9th_tC (d := 0) (q9evC u_ 1) (q9evS u2) (by omega)
  · exact q9th_tC (d := 0) (q9evS u2) (q9evC u_ 20) (by omega)
theorem q9ru_rpb (hT : ∀ i, 0 ≤ T i ∧ T i ≤ 255) (hN : 0 ≤ N ∧ N ≤ 400) (hSc : 0 ≤ Sc 1 ∧ Sc 1 ≤ 400 → N = Sc 1) : q9ruOK (fO T N P J t0 Sc) q9R_rpb := by
  intro w w0 hA hX hL hV hR
  obtain ⟨x0, ae0, -, -⟩ := hA 0 0 rfl
  obtain ⟨x1, ae1, -, -⟩ := hA 1 0 rfl
  obtain ⟨x2, ae2, -, -⟩ := hA 2 0 rfl
  obtain ⟨x3, ae3, -, -⟩ := hA 3 0 rfl
  obtain ⟨x4, ae4, -, -⟩ := hA 4 0 rfl
  obtain ⟨x5, ae5, -, -⟩ := hA 5 0 rfl
  have kz : (0 : Int32).toInt = 0 := rfl
  have X0 := q9th_pX (T := T) (N := N) (P := P) (J := J) (t0 := t0) (Sc := Sc) (op := 1400) (q9evS ae0) (q9evZ w0) (q9evS ae1) (hX _ (List.mem_of_getElem? (i := 0) rfl)) (by decide)
  rw [q9FF_1400] at X0
  have H0 := X0
  try simp only [kz] at H0
  have V0 := q9pV (T := T) (N := N) (P := P) (J := J) (t0 := t0) (Sc := Sc) (op := 1402) (n := 0) (q9evS ae0) (q9evZ w0) (hV _ (List.mem_of_getElem? (i := 0) rfl)) (by decide)
  rw [q9FF_1402] at V0
  have K0 := id V0
  try simp only [kz] at K0
  have L0 : (0 : Int32).toInt ≤ x0.toInt + 0 := q9pC (q9evZ w0) (q9evS ae0) (hL _ (List.mem_of_getElem? (i := 0) rfl))
  have L1 : (0 : Int32).toInt ≤ x1.toInt + 0 := q9pC (q9evZ w0) (q9evS ae1) (hL _ (List.mem_of_getElem? (i := 1) rfl))
  have V1 := q9pV (T := T) (N := N) (P := P) (J := J) (t0 := t0) (Sc := Sc) (op := 1050) (n := 7) (q9evS ae1) (q9evZ w0) (hV _ (List.mem_of_getElem? (i := 1) rfl)) (by decide)
  rw [q9FF_1050] at V1
  have K1 := q9chV_of V1
  try simp only [kz] at K1
  have X1 := q9th_pX (T := T) (N := N) (P := P) (J := J) (t0 := t0) (Sc := Sc) (op := 1051) (q9evS ae1) (q9evZ w0) (q9evS ae2) (hX _ (List.mem_of_getElem? (i := 1) rfl)) (by decide)
  rw [q9FF_1051] at X1
  have H1 := q9chV_of X1
  try simp only [kz] at H1
  have X2 := q9th_pX (T := T) (N := N) (P := P) (J := J) (t0 := t0) (Sc := Sc) (op := 1405) (q9evS ae0) (q9evS ae3) (q9evS ae4) (hX _ (List.mem_of_getElem? (i := 2) rfl)) (by decide)
  rw [q9FF_1405] at X2
  have H2 := X2
  try simp only [kz] at H2
  have L2 : (0 : Int32).toInt ≤ x3.toInt + 0 := q9pC (q9evZ w0) (q9evS ae3) (hL _ (List.mem_of_getElem? (i := 2) rfl))
  have X3 := q9th_pX (T := T) (N := N) (P := P) (J := J) (t0 := t0) (Sc := Sc) (op := 1052) (q9evS ae1) (q9evZ w0) (q9evS ae5) (hX _ (List.mem_of_getElem? (i := 3) rfl)) (by decide)
  rw [q9FF_1052] at X3
  have H3 := q9chV_of X3
  try simp only [kz] at H3
  have L3 : x3.toInt ≤ x2.toInt + (-1) := q9pC (q9evS ae3) (q9evS ae2) (hL _ (List.mem_of_getElem? (i := 3) rfl))
  have L4 : x1.toInt ≤ x5.toInt + (-2) := q9pC (q9evS ae1) (q9evS ae5) (hL _ (List.mem_of_getElem? (i := 4) rfl))
  obtain ⟨q, hq, hl⟩ := q9q_m H0
  have hl : q.1 = x1.toInt := hl
  obtain ⟨hf, ha, ho⟩ := q9q_of hq
  have W := q9plW_P hN.1 hf
  obtain ⟨⟨l1, l2, l3, l4⟩, ⟨l5, l6⟩, ⟨l7, l8, l9⟩, l10, l11, l12⟩ := q9q_ln hN.1 hf ha
  have hmr := q9mn_rng hN.1 hf l1 (show q.1 < szP T N P J by omega)
  have hk : x0.toInt - q.2.2.2.1 = 0 := q9q_r hq K0
  have hkd : kdP T N P J q.1 = 7 := q9kd_Q (by rw [hl]; exact K1)
  have hmn : mnP T N P J q.1 = x2.toInt := q9mn_Q (by rw [hl]; exact H1)
  have hrp : q.2.2.2.1 + 1 + x3.toInt * bQ T N P J (q.1 + 1) (enP T N P J q.1) = x4.toInt := q9q_r hq H2
  have hen : enP T N P J q.1 = x5.toInt := q9en_Q hN.1 hf l1 (by omega) (by rw [hl]; exact H3)
  have hq2 : qP T N P J x4.toInt = some (q9inP (kdP T N P J) (mnP T N P J) (enP T N P J) (szP T N P J) q x3.toInt) := q9q_to hN.1 hf (q9at_in ha hkd (by omega) (by omega) (by omega)) (q9ow_st (by show x4.toInt = q.2.2.2.1 + 1 + x3.toInt * bQ T N P J (q.1 + 1) (enP T N P J q.1); omega))
  have hm7 := hmr.2.2.2.1 hkd
  have a3 := q9ad32 (x := x3) (d := 1) (by omega)
  have E2 : q.2.2.2.1 + 1 + (x3.toInt + 1) * bQ T N P J (q.1 + 1) (enP T N P J q.1) ≤ bQ T N P J 0 (szP T N P J) := (q9q_ln hN.1 hf (q9q_of hq2).2.1).2.2.2.2.1
  have hb9 : 0 ≤ bQ T N P J (q.1 + 1) (enP T N P J q.1) := q9bD_0 W
  have hp9 := Int.mul_nonneg (show 0 ≤ x3.toInt + 1 by omega) hb9
  have rg0 : (1 : Int) ≤ (x1.toInt + 1) ∧ ((x1.toInt + 1) : Int) ≤ 60 := by omega
  obtain ⟨x6, nt6⟩ : ∃ x : Int32, x.toInt = (x1.toInt + 1) := ⟨Int32.ofInt ((x1.toInt + 1)), q9oI_toInt (by omega)⟩
  have rg1 : (0 : Int) ≤ 0 ∧ (0 : Int) ≤ 0 := by omega
  obtain ⟨x7, nt7⟩ : ∃ x : Int32, x.toInt = 0 := ⟨Int32.ofInt (0), q9oI_toInt (by omega)⟩
  have rg2 : (1 : Int) ≤ (q.2.2.2.1 + 1 + (x3.toInt + 1) * bQ T N P J (q.1 + 1) (enP T N P J q.1)) ∧ ((q.2.2.2.1 + 1 + (x3.toInt + 1) * bQ T N P J (q.1 + 1) (enP T N P J q.1)) : Int) ≤ 4000 := by omega
  obtain ⟨x8, nt8⟩ : ∃ x : Int32, x.toInt = (q.2.2.2.1 + 1 + (x3.toInt + 1) * bQ T N P J (q.1 + 1) (enP T N P J q.1)) := ⟨Int32.ofInt ((q.2.2.2.1 + 1 + (x3.toInt + 1) * bQ T N P J (q.1 + 1) (enP T N P J q.1))), q9oI_toInt (by omega)⟩
  have u_ : q9upN w 7 [.int x6, .int x7, .int x8] 0 = .int 0 := q9upN_of (by decide) w0
  have u0 : q9upN w 7 [.int x6, .int x7, .int x8] 1 = .int x0 := q9upN_of (by decide) ae0
  have u1 : q9upN w 7 [.int x6, .int x7, .int x8] 2 = .int x1 := q9upN_of (by decide) ae1
  have u2 : q9upN w 7 [.int x6, .int x7, .int x8] 3 = .int x2 := q9upN_of (by decide) ae2
  have u3 : q9upN w 7 [.int x6, .int x7, .int x8] 4 = .int x3 := q9upN_of (by decide) ae3
  have u4 : q9upN w 7 [.int x6, .int x7, .int x8] 5 = .int x4 := q9upN_of (by decide) ae4
  have u5 : q9upN w 7 [.int x6, .int x7, .int x8] 6 = .int x5 := q9upN_of (by decide) ae5
  have u6 : q9upN w 7 [.int x6, .int x7, .int x8] 7 = .int x6 := q9upN_at (by decide)
  have u7 : q9upN w 7 [.int x6, .int x7, .int x8] 8 = .int x7 := q9upN_at (by decide)
  have u8 : q9upN w 7 [.int x6, .int x7, .int x8] 9 = .int x8 := q9upN_at (by decide)
  refine ⟨[.int x6, .int x7, .int x8], fun i9 p9 hq9 => ?_, List.forall_mem_cons.mpr ⟨?_, List.forall_mem_cons.mpr ⟨?_, fun _ h => absurd h List.not_mem_nil⟩⟩, List.forall_mem_cons.mpr ⟨?_, List.forall_mem_cons.mpr ⟨?_, fun _ h => absurd h List.not_mem_nil⟩⟩⟩
  · match i9, hq9 with
    | 0, hq9 =>
      have hp9 : ((1400, (5, 0), (0, 0), (0, 1, 60)) : Nat × q9AV × q9AV × q9ET) = p9 := Option.some.inj hq9
      subst hp9
      exact ⟨⟨x6, rfl, by rw [nt6]; exact rg0.1, by rw [nt6]; exact rg0.2⟩, (q9th_tX (T := T) (N := N) (P := P) (J := J) (t0 := t0) (Sc := Sc) (q9evS u4) (q9evZ u_) (q9evS u6) (by rw [q9FF_1400, nt6]; exact (q9q_t hq2 (by show q.1 + 1 = _; omega))) (by decide)).trans (congrArg some (q9evS u6))⟩
    | 1, hq9 =>
      have hp9 : ((1402, (5, 0), (0, 0), (0, 0, 0)) : Nat × q9AV × q9AV × q9ET) = p9 := Option.some.inj hq9
      subst hp9
      exact ⟨⟨x7, rfl, by rw [nt7]; exact rg1.1, by rw [nt7]; exact rg1.2⟩, (q9th_tX (T := T) (N := N) (P := P) (J := J) (t0 := t0) (Sc := Sc) (q9evS u4) (q9evZ u_) (q9evS u7) (by rw [q9FF_1402, nt7]; exact (q9q_t hq2 (by show x4.toInt - (q.2.2.2.1 + 1 + x3.toInt * bQ T N P J (q.1 + 1) (enP T N P J q.1)) = 0; omega))) (by decide)).trans (congrArg some (q9evS u7))⟩
    | 2, hq9 =>
      have hp9 : ((1404, (5, 0), (0, 0), (0, 1, 4000)) : Nat × q9AV × q9AV × q9ET) = p9 := Option.some.inj hq9
      subst hp9
      exact ⟨⟨x8, rfl, by rw [nt8]; exact rg2.1, by rw [nt8]; exact rg2.2⟩, (q9th_tX (T := T) (N := N) (P := P) (J := J) (t0 := t0) (Sc := Sc) (q9evS u4) (q9evZ u_) (q9evS u8) (by rw [q9FF_1404, nt8]; exact (q9q_t hq2 rfl)) (by decide)).trans (congrArg some (q9evS u8))⟩
    | k9 + 3, hq9 => exact nomatch (show (none : Option (Nat × q9AV × q9AV × q9ET)) = some p9 from hq9)
  · exact q9th_tX (T := T) (N := N) (P := P) (J := J) (t0 := t0) (Sc := Sc) (q9evS u4) (q9evZ u_) (q9evS u5) (by rw [q9FF_1401]; exact (q9q_t hq2 hen)) (by decide)
  · exact q9th_tX (T := T) (N := N) (P := P) (J := J) (t0 := t0) (Sc := Sc) (q9evS u0) (q9evO u3 1) (q9evS u8) (by rw [q9FF_1405]; exact (q9q_t hq (by show q.2.2.2.1 + 1 + (x3 + Int32.ofInt 1).toInt * bQ T N P J (q.1 + 1) (enP T N P J q.1) = x8.toInt; rw [a3, nt8]))) (by decide)
  · exact q9th_tC (d := 1) (q9evS u6) (q9evS u1) (by omega)
  · exact q9th_tC (d := (-1)) (q9evS u1) (q9evS u6) (by omega)
theorem q9ru_rpd0 (hT : ∀ i, 0 ≤ T i ∧ T i ≤ 255) (hN : 0 ≤ N ∧ N ≤ 400) (hSc : 0 ≤ Sc 1 ∧ Sc 1 ≤ 400 → N = Sc 1) : q9ruOK (fO T N P J t0 Sc) q9R_rpd0 := by
  intro w w0 hA hX hL hV hR
  obtain ⟨x0, ae0, -, -⟩ := hA 0 0 rfl
  obtain ⟨x1, ae1, -, -⟩ := hA 1 0 rfl
  obtain ⟨x2, ae2, -, -⟩ := hA 2 0 rfl
  obtain ⟨x3, ae3, -, -⟩ := hA 3 0 rfl
  obtain ⟨x4, ae4, -, -⟩ := hA 4 0 rfl
  obtain ⟨x5, ae5, -, -⟩ := hA 5 0 rfl
  have kz : (0 : Int32).toInt = 0 := rfl
  have X0 := q9th_pX (T := T) (N := N) (P := P) (J := J) (t0 := t0) (Sc := Sc) (op := 1400) (q9evS ae0) (q9evZ w0) (q9evS ae1) (hX _ (List.mem_of_getElem? (i := 0) rfl)) (by decide)
  rw [q9FF_1400] at X0
  have H0 := X0
  try simp only [kz] at H0
  have V0 := q9pV (T := T) (N := N) (P := P) (J := J) (t0 := t0) (Sc := Sc) (op := 1402) (n := 0) (q9evS ae0) (q9evZ w0) (hV _ (List.mem_of_getElem? (i := 0) rfl)) (by decide)
  rw [q9FF_1402] at V0
  have K0 := id V0
  try simp only [kz] at K0
  have L0 : (0 : Int32).toInt ≤ x0.toInt + 0 := q9pC (q9evZ w0) (q9evS ae0) (hL _ (List.mem_of_getElem? (i := 0) rfl))
  have L1 : (0 : Int32).toInt ≤ x1.toInt + 0 := q9pC (q9evZ w0) (q9evS ae1) (hL _ (List.mem_of_getElem? (i := 1) rfl))
  have V1 := q9pV (T := T) (N := N) (P := P) (J := J) (t0 := t0) (Sc := Sc) (op := 1050) (n := 7) (q9evS ae1) (q9evZ w0) (hV _ (List.mem_of_getElem? (i := 1) rfl)) (by decide)
  rw [q9FF_1050] at V1
  have K1 := q9chV_of V1
  try simp only [kz] at K1
  have X1 := q9th_pX (T := T) (N := N) (P := P) (J := J) (t0 := t0) (Sc := Sc) (op := 1051) (q9evS ae1) (q9evZ w0) (q9evS ae2) (hX _ (List.mem_of_getElem? (i := 1) rfl)) (by decide)
  rw [q9FF_1051] at X1
  have H1 := q9chV_of X1
  try simp only [kz] at H1
  have X2 := q9th_pX (T := T) (N := N) (P := P) (J := J) (t0 := t0) (Sc := Sc) (op := 1405) (q9evS ae0) (q9evS ae3) (q9evS ae4) (hX _ (List.mem_of_getElem? (i := 2) rfl)) (by decide)
  rw [q9FF_1405] at X2
  have H2 := X2
  try simp only [kz] at H2
  have L2 : (0 : Int32).toInt ≤ x3.toInt + 0 := q9pC (q9evZ w0) (q9evS ae3) (hL _ (List.mem_of_getElem? (i := 2) rfl))
  have X3 := q9th_pX (T := T) (N := N) (P := P) (J := J) (t0 := t0) (Sc := Sc) (op := 1052) (q9evS ae1) (q9evZ w0) (q9evS ae5) (hX _ (List.mem_of_getElem? (i := 3) rfl)) (by decide)
  rw [q9FF_1052] at X3
  have H3 := q9chV_of X3
  try simp only [kz] at H3
  have V2 := q9pV (T := T) (N := N) (P := P) (J := J) (t0 := t0) (Sc := Sc) (op := 1409) (n := 0) (q9evS ae0) (q9evZ w0) (hV _ (List.mem_of_getElem? (i := 2) rfl)) (by decide)
  rw [q9FF_1409] at V2
  have K2 := id V2
  try simp only [kz] at K2
  have L3 : x3.toInt ≤ x2.toInt + (-1) := q9pC (q9evS ae3) (q9evS ae2) (hL _ (List.mem_of_getElem? (i := 3) rfl))
  have L4 : x1.toInt ≤ x5.toInt + (-2) := q9pC (q9evS ae1) (q9evS ae5) (hL _ (List.mem_of_getElem? (i := 4) rfl))
  obtain ⟨q, hq, hl⟩ := q9q_m H0
  have hl : q.1 = x1.toInt := hl
  obtain ⟨hf, ha, ho⟩ := q9q_of hq
  have W := q9plW_P hN.1 hf
  obtain ⟨⟨l1, l2, l3, l4⟩, ⟨l5, l6⟩, ⟨l7, l8, l9⟩, l10, l11, l12⟩ := q9q_ln hN.1 hf ha
  have hmr := q9mn_rng hN.1 hf l1 (show q.1 < szP T N P J by omega)
  have hk : x0.toInt - q.2.2.2.1 = 0 := q9q_r hq K0
  have hkd : kdP T N P J q.1 = 7 := q9kd_Q (by rw [hl]; exact K1)
  have hds : q.2.2.2.2.1 = 0 := q9q_r hq K2
  have hmn : mnP T N P J q.1 = x2.toInt := q9mn_Q (by rw [hl]; exact H1)
  have hrp : q.2.2.2.1 + 1 + x3.toInt * bQ T N P J (q.1 + 1) (enP T N P J q.1) = x4.toInt := q9q_r hq H2
  have hen : enP T N P J q.1 = x5.toInt := q9en_Q hN.1 hf l1 (by omega) (by rw [hl]; exact H3)
  have hq2 : qP T N P J x4.toInt = some (q9inP (kdP T N P J) (mnP T N P J) (enP T N P J) (szP T N P J) q x3.toInt) := q9q_to hN.1 hf (q9at_in ha hkd (by omega) (by omega) (by omega)) (q9ow_st (by show x4.toInt = q.2.2.2.1 + 1 + x3.toInt * bQ T N P J (q.1 + 1) (enP T N P J q.1); omega))
  have rg0 : (1 : Int) ≤ 1 ∧ (1 : Int) ≤ 1 := by omega
  obtain ⟨x6, nt6⟩ : ∃ x : Int32, x.toInt = 1 := ⟨Int32.ofInt (1), q9oI_toInt (by omega)⟩
  have u_ : q9upN w 7 [.int x6] 0 = .int 0 := q9upN_of (by decide) w0
  have u0 : q9upN w 7 [.int x6] 1 = .int x0 := q9upN_of (by decide) ae0
  have u1 : q9upN w 7 [.int x6] 2 = .int x1 := q9upN_of (by decide) ae1
  have u2 : q9upN w 7 [.int x6] 3 = .int x2 := q9upN_of (by decide) ae2
  have u3 : q9upN w 7 [.int x6] 4 = .int x3 := q9upN_of (by decide) ae3
  have u4 : q9upN w 7 [.int x6] 5 = .int x4 := q9upN_of (by decide) ae4
  have u5 : q9upN w 7 [.int x6] 6 = .int x5 := q9upN_of (by decide) ae5
  have u6 : q9upN w 7 [.int x6] 7 = .int x6 := q9upN_at (by decide)
  refine ⟨[.int x6], fun i9 p9 hq9 => ?_, fun _ h => absurd h List.not_mem_nil, fun _ h => absurd h List.not_mem_nil⟩
  · match i9, hq9 with
    | 0, hq9 =>
      have hp9 : ((1409, (5, 0), (0, 0), (0, 1, 1)) : Nat × q9AV × q9AV × q9ET) = p9 := Option.some.inj hq9
      subst hp9
      exact ⟨⟨x6, rfl, by rw [nt6]; exact rg0.1, by rw [nt6]; exact rg0.2⟩, (q9th_tX (T := T) (N := N) (P := P) (J := J) (t0 := t0) (Sc := Sc) (q9evS u4) (q9evZ u_) (q9evS u6) (by rw [q9FF_1409, nt6]; exact (q9q_t hq2 (by show q.2.2.2.2.1 + 1 = _; omega))) (by decide)).trans (congrArg some (q9evS u6))⟩
    | k9 + 1, hq9 => exact nomatch (show (none : Option (Nat × q9AV × q9AV × q9ET)) = some p9 from hq9)
theorem q9ru_rpd1 (hT : ∀ i, 0 ≤ T i ∧ T i ≤ 255) (hN : 0 ≤ N ∧ N ≤ 400) (hSc : 0 ≤ Sc 1 ∧ Sc 1 ≤ 400 → N = Sc 1) : q9ruOK (fO T N P J t0 Sc) q9R_rpd1 := by
  intro w w0 hA hX hL hV hR
  obtain ⟨x0, ae0, -, -⟩ := hA 0 0 rfl
  obtain ⟨x1, ae1, -, -⟩ := hA 1 0 rfl
  obtain ⟨x2, ae2, -, -⟩ := hA 2 0 rfl
  obtain ⟨x3, ae3, -, -⟩ := hA 3 0 rfl
  obtain ⟨x4, ae4, -, -⟩ := hA 4 0 rfl
  obtain ⟨x5, ae5, -, -⟩ := hA 5 0 rfl
  have kz : (0 : Int32).toInt = 0 := rfl
  have X0 := q9th_pX (T := T) (N := N) (P := P) (J := J) (t0 := t0) (Sc := Sc) (op := 1400) (q9evS ae0) (q9evZ w0) (q9evS ae1) (hX _ (List.mem_of_getElem? (i := 0) rfl)) (by decide)
  rw [q9FF_1400] at X0
  have H0 := X0
  try simp only [kz] at H0
  have V0 := q9pV (T := T) (N := N) (P := P) (J := J) (t0 := t0) (Sc := Sc) (op := 1402) (n := 0) (q9evS ae0) (q9evZ w0) (hV _ (List.mem_of_getElem? (i := 0) rfl)) (by decide)
  rw [q9FF_1402] at V0
  have K0 := id V0
  try simp only [kz] at K0
  have L0 : (0 : Int32).toInt ≤ x0.toInt + 0 := q9pC (q9evZ w0) (q9evS ae0) (hL _ (List.mem_of_getElem? (i := 0) rfl))
  have L1 : (0 : Int32).toInt ≤ x1.toInt + 0 := q9pC (q9evZ w0) (q9evS ae1) (hL _ (List.mem_of_getElem? (i := 1) rfl))
  have V1 := q9pV (T := T) (N := N) (P := P) (J := J) (t0 := t0) (Sc := Sc) (op := 1050) (n := 7) (q9evS ae1) (q9evZ w0) (hV _ (List.mem_of_getElem? (i := 1) rfl)) (by decide)
  rw [q9FF_1050] at V1
  have K1 := q9chV_of V1
  try simp only [kz] at K1
  have X1 := q9th_pX (T := T) (N := N) (P := P) (J := J) (t0 := t0) (Sc := Sc) (op := 1051) (q9evS ae1) (q9evZ w0) (q9evS ae2) (hX _ (List.mem_of_getElem? (i := 1) rfl)) (by decide)
  rw [q9FF_1051] at X1
  have H1 := q9chV_of X1
  try simp only [kz] at H1
  have X2 := q9th_pX (T := T) (N := N) (P := P) (J := J) (t0 := t0) (Sc := Sc) (op := 1405) (q9evS ae0) (q9evS ae3) (q9evS ae4) (hX _ (List.mem_of_getElem? (i := 2) rfl)) (by decide)
  rw [q9FF_1405] at X2
  have H2 := X2
  try simp only [kz] at H2
  have L2 : (0 : Int32).toInt ≤ x3.toInt + 0 := q9pC (q9evZ w0) (q9evS ae3) (hL _ (List.mem_of_getElem? (i := 2) rfl))
  have X3 := q9th_pX (T := T) (N := N) (P := P) (J := J) (t0 := t0) (Sc := Sc) (op := 1052) (q9evS ae1) (q9evZ w0) (q9evS ae5) (hX _ (List.mem_of_getElem? (i := 3) rfl)) (by decide)
  rw [q9FF_1052] at X3
  have H3 := q9chV_of X3
  try simp only [kz] at H3
  have V2 := q9pV (T := T) (N := N) (P := P) (J := J) (t0 := t0) (Sc := Sc) (op := 1409) (n := 1) (q9evS ae0) (q9evZ w0) (hV _ (List.mem_of_getElem? (i := 2) rfl)) (by decide)
  rw [q9FF_1409] at V2
  have K2 := id V2
  try simp only [kz] at K2
  have L3 : x3.toInt ≤ x2.toInt + (-1) := q9pC (q9evS ae3) (q9evS ae2) (hL _ (List.mem_of_getElem? (i := 3) rfl))
  have L4 : x1.toInt ≤ x5.toInt + (-2) := q9pC (q9evS ae1) (q9evS ae5) (hL _ (List.mem_of_getElem? (i := 4) rfl))
  obtain ⟨q, hq, hl⟩ := q9q_m H0
  have hl : q.1 = x1.toInt := hl
  obtain ⟨hf, ha, ho⟩ := q9q_of hq
  have W := q9plW_P hN.1 hf
  obtain ⟨⟨l1, l2, l3, l4⟩, ⟨l5, l6⟩, ⟨l7, l8, l9⟩, l10, l11, l12⟩ := q9q_ln hN.1 hf ha
  have hmr := q9mn_rng hN.1 hf l1 (show q.1 < szP T N P J by omega)
  have hk : x0.toInt - q.2.2.2.1 = 0 := q9q_r hq K0
  have hkd : kdP T N P J q.1 = 7 := q9kd_Q (by rw [hl]; exact K1)
  have hds : q.2.2.2.2.1 = 1 := q9q_r hq K2
  have hmn : mnP T N P J q.1 = x2.toInt := q9mn_Q (by rw [hl]; exact H1)
  have hrp : q.2.2.2.1 + 1 + x3.toInt * bQ T N P J (q.1 + 1) (enP T N P J q.1) = x4.toInt := q9q_r hq H2
  have hen : enP T N P J q.1 = x5.toInt := q9en_Q hN.1 hf l1 (by omega) (by rw [hl]; exact H3)
  have hq2 : qP T N P J x4.toInt = some (q9inP (kdP T N P J) (mnP T N P J) (enP T N P J) (szP T N P J) q x3.toInt) := q9q_to hN.1 hf (q9at_in ha hkd (by omega) (by omega) (by omega)) (q9ow_st (by show x4.toInt = q.2.2.2.1 + 1 + x3.toInt * bQ T N P J (q.1 + 1) (enP T N P J q.1); omega))
  have rg0 : (2 : Int) ≤ 2 ∧ (2 : Int) ≤ 2 := by omega
  obtain ⟨x6, nt6⟩ : ∃ x : Int32, x.toInt = 2 := ⟨Int32.ofInt (2), q9oI_toInt (by omega)⟩
  have u_ : q9upN w 7 [.int x6] 0 = .int 0 := q9upN_of (by decide) w0
  have u0 : q9upN w 7 [.int x6] 1 = .int x0 := q9upN_of (by decide) ae0
  have u1 : q9upN w 7 [.int x6] 2 = .int x1 := q9upN_of (by decide) ae1
  have u2 : q9upN w 7 [.int x6] 3 = .int x2 := q9upN_of (by decide) ae2
  have u3 : q9upN w 7 [.int x6] 4 = .int x3 := q9upN_of (by decide) ae3
  have u4 : q9upN w 7 [.int x6] 5 = .int x4 := q9upN_of (by decide) ae4
  have u5 : q9upN w 7 [.int x6] 6 = .int x5 := q9upN_of (by decide) ae5
  have u6 : q9upN w 7 [.int x6] 7 = .int x6 := q9upN_at (by decide)
  refine ⟨[.int x6], fun i9 p9 hq9 => ?_, fun _ h => absurd h List.not_mem_nil, fun _ h => absurd h List.not_mem_nil⟩
  · match i9, hq9 with
    | 0, hq9 =>
      have hp9 : ((1409, (5, 0), (0, 0), (0, 2, 2)) : Nat × q9AV × q9AV × q9ET) = p9 := Option.some.inj hq9
      subst hp9
      exact ⟨⟨x6, rfl, by rw [nt6]; exact rg0.1, by rw [nt6]; exact rg0.2⟩, (q9th_tX (T := T) (N := N) (P := P) (J := J) (t0 := t0) (Sc := Sc) (q9evS u4) (q9evZ u_) (q9evS u6) (by rw [q9FF_1409, nt6]; exact (q9q_t hq2 (by show q.2.2.2.2.1 + 1 = _; omega))) (by decide)).trans (congrArg some (q9evS u6))⟩
    | k9 + 1, hq9 => exact nomatch (show (none : Option (Nat × q9AV × q9AV × q9ET)) = some p9 from hq9)
theorem q9ru_rpd2 (hT : ∀ i, 0 ≤ T i ∧ T i ≤ 255) (hN : 0 ≤ N ∧ N ≤ 400) (hSc : 0 ≤ Sc 1 ∧ Sc 1 ≤ 400 → N = Sc 1) : q9ruOK (fO T N P J t0 Sc) q9R_rpd2 := by
  intro w w0 hA hX hL hV hR
  obtain ⟨x0, ae0, -, -⟩ := hA 0 0 rfl
  obtain ⟨x1, ae1, -, -⟩ := hA 1 0 rfl
  obtain ⟨x2, ae2, -, -⟩ := hA 2 0 rfl
  obtain ⟨x3, ae3, -, -⟩ := hA 3 0 rfl
  obtain ⟨x4, ae4, -, -⟩ := hA 4 0 rfl
  obtain ⟨x5, ae5, -, -⟩ := hA 5 0 rfl
  have kz : (0 : Int32).toInt = 0 := rfl
  have X0 := q9th_pX (T := T) (N := N) (P := P) (J := J) (t0 := t0) (Sc := Sc) (op := 1400) (q9evS ae0) (q9evZ w0) (q9evS ae1) (hX _ (List.mem_of_getElem? (i := 0) rfl)) (by decide)
  rw [q9FF_1400] at X0
  have H0 := X0
  try simp only [kz] at H0
  have V0 := q9pV (T := T) (N := N) (P := P) (J := J) (t0 := t0) (Sc := Sc) (op := 1402) (n := 0) (q9evS ae0) (q9evZ w0) (hV _ (List.mem_of_getElem? (i := 0) rfl)) (by decide)
  rw [q9FF_1402] at V0
  have K0 := id V0
  try simp only [kz] at K0
  have L0 : (0 : Int32).toInt ≤ x0.toInt + 0 := q9pC (q9evZ w0) (q9evS ae0) (hL _ (List.mem_of_getElem? (i := 0) rfl))
  have L1 : (0 : Int32).toInt ≤ x1.toInt + 0 := q9pC (q9evZ w0) (q9evS ae1) (hL _ (List.mem_of_getElem? (i := 1) rfl))
  have V1 := q9pV (T := T) (N := N) (P := P) (J := J) (t0 := t0) (Sc := Sc) (op := 1050) (n := 7) (q9evS ae1) (q9evZ w0) (hV _ (List.mem_of_getElem? (i := 1) rfl)) (by decide)
  rw [q9FF_1050] at V1
  have K1 := q9chV_of V1
  try simp only [kz] at K1
  have X1 := q9th_pX (T := T) (N := N) (P := P) (J := J) (t0 := t0) (Sc := Sc) (op := 1051) (q9evS ae1) (q9evZ w0) (q9evS ae2) (hX _ (List.mem_of_getElem? (i := 1) rfl)) (by decide)
  rw [q9FF_1051] at X1
  have H1 := q9chV_of X1
  try simp only [kz] at H1
  have X2 := q9th_pX (T := T) (N := N) (P := P) (J := J) (t0 := t0) (Sc := Sc) (op := 1405) (q9evS ae0) (q9evS ae3) (q9evS ae4) (hX _ (List.mem_of_getElem? (i := 2) rfl)) (by decide)
  rw [q9FF_1405] at X2
  have H2 := X2
  try simp only [kz] at H2
  have L2 : (0 : Int32).toInt ≤ x3.toInt + 0 := q9pC (q9evZ w0) (q9evS ae3) (hL _ (List.mem_of_getElem? (i := 2) rfl))
  have X3 := q9th_pX (T := T) (N := N) (P := P) (J := J) (t0 := t0) (Sc := Sc) (op := 1052) (q9evS ae1) (q9evZ w0) (q9evS ae5) (hX _ (List.mem_of_getElem? (i := 3) rfl)) (by decide)
  rw [q9FF_1052] at X3
  have H3 := q9chV_of X3
  try simp only [kz] at H3
  have V2 := q9pV (T := T) (N := N) (P := P) (J := J) (t0 := t0) (Sc := Sc) (op := 1409) (n := 2) (q9evS ae0) (q9evZ w0) (hV _ (List.mem_of_getElem? (i := 2) rfl)) (by decide)
  rw [q9FF_1409] at V2
  have K2 := id V2
  try simp only [kz] at K2
  have L3 : x3.toInt ≤ x2.toInt + (-1) := q9pC (q9evS ae3) (q9evS ae2) (hL _ (List.mem_of_getElem? (i := 3) rfl))
  have L4 : x1.toInt ≤ x5.toInt + (-2) := q9pC (q9evS ae1) (q9evS ae5) (hL _ (List.mem_of_getElem? (i := 4) rfl))
  obtain ⟨q, hq, hl⟩ := q9q_m H0
  have hl : q.1 = x1.toInt := hl
  obtain ⟨hf, ha, ho⟩ := q9q_of hq
  have W := q9plW_P hN.1 hf
  obtain ⟨⟨l1, l2, l3, l4⟩, ⟨l5, l6⟩, ⟨l7, l8, l9⟩, l10, l11, l12⟩ := q9q_ln hN.1 hf ha
  have hmr := q9mn_rng hN.1 hf l1 (show q.1 < szP T N P J by omega)
  have hk : x0.toInt - q.2.2.2.1 = 0 := q9q_r hq K0
  have hkd : kdP T N P J q.1 = 7 := q9kd_Q (by rw [hl]; exact K1)
  have hds : q.2.2.2.2.1 = 2 := q9q_r hq K2
  have hmn : mnP T N P J q.1 = x2.toInt := q9mn_Q (by rw [hl]; exact H1)
  have hrp : q.2.2.2.1 + 1 + x3.toInt * bQ T N P J (q.1 + 1) (enP T N P J q.1) = x4.toInt := q9q_r hq H2
  have hen : enP T N P J q.1 = x5.toInt := q9en_Q hN.1 hf l1 (by omega) (by rw [hl]; exact H3)
  have hq2 : qP T N P J x4.toInt = some (q9inP (kdP T N P J) (mnP T N P J) (enP T N P J) (szP T N P J) q x3.toInt) := q9q_to hN.1 hf (q9at_in ha hkd (by omega) (by omega) (by omega)) (q9ow_st (by show x4.toInt = q.2.2.2.1 + 1 + x3.toInt * bQ T N P J (q.1 + 1) (enP T N P J q.1); omega))
  have rg0 : (3 : Int) ≤ 3 ∧ (3 : Int) ≤ 3 := by omega
  obtain ⟨x6, nt6⟩ : ∃ x : Int32, x.toInt = 3 := ⟨Int32.ofInt (3), q9oI_toInt (by omega)⟩
  have u_ : q9upN w 7 [.int x6] 0 = .int 0 := q9upN_of (by decide) w0
  have u0 : q9upN w 7 [.int x6] 1 = .int x0 := q9upN_of (by decide) ae0
  have u1 : q9upN w 7 [.int x6] 2 = .int x1 := q9upN_of (by decide) ae1
  have u2 : q9upN w 7 [.int x6] 3 = .int x2 := q9upN_of (by decide) ae2
  have u3 : q9upN w 7 [.int x6] 4 = .int x3 := q9upN_of (by decide) ae3
  have u4 : q9upN w 7 [.int x6] 5 = .int x4 := q9upN_of (by decide) ae4
  have u5 : q9upN w 7 [.int x6] 6 = .int x5 := q9upN_of (by decide) ae5
  have u6 : q9upN w 7 [.int x6] 7 = .int x6 := q9upN_at (by decide)
  refine ⟨[.int x6], fun i9 p9 hq9 => ?_, fun _ h => absurd h List.not_mem_nil, fun _ h => absurd h List.not_mem_nil⟩
  · match i9, hq9 with
    | 0, hq9 =>
      have hp9 : ((1409, (5, 0), (0, 0), (0, 3, 3)) : Nat × q9AV × q9AV × q9ET) = p9 := Option.some.inj hq9
      subst hp9
      exact ⟨⟨x6, rfl, by rw [nt6]; exact rg0.1, by rw [nt6]; exact rg0.2⟩, (q9th_tX (T := T) (N := N) (P := P) (J := J) (t0 := t0) (Sc := Sc) (q9evS u4) (q9evZ u_) (q9evS u6) (by rw [q9FF_1409, nt6]; exact (q9q_t hq2 (by show q.2.2.2.2.1 + 1 = _; omega))) (by decide)).trans (congrArg some (q9evS u6))⟩
    | k9 + 1, hq9 => exact nomatch (show (none : Option (Nat × q9AV × q9AV × q9ET)) = some p9 from hq9)
theorem q9ru_rpd3 (hT : ∀ i, 0 ≤ T i ∧ T i ≤ 255) (hN : 0 ≤ N ∧ N ≤ 400) (hSc : 0 ≤ Sc 1 ∧ Sc 1 ≤ 400 → N = Sc 1) : q9ruOK (fO T N P J t0 Sc) q9R_rpd3 := by
  intro w w0 hA hX hL hV hR
  obtain ⟨x0, ae0, -, -⟩ := hA 0 0 rfl
  obtain ⟨x1, ae1, -, -⟩ := hA 1 0 rfl
  obtain ⟨x2, ae2, -, -⟩ := hA 2 0 rfl
  obtain ⟨x3, ae3, -, -⟩ := hA 3 0 rfl
  obtain ⟨x4, ae4, -, -⟩ := hA 4 0 rfl
  obtain ⟨x5, ae5, -, -⟩ := hA 5 0 rfl
  have kz : (0 : Int32).toInt = 0 := rfl
  have X0 := q9th_pX (T := T) (N := N) (P := P) (J := J) (t0 := t0) (Sc := Sc) (op := 1400) (q9evS ae0) (q9evZ w0) (q9evS ae1) (hX _ (List.mem_of_getElem? (i := 0) rfl)) (by decide)
  rw [q9FF_1400] at X0
  have H0 := X0
  try simp only [kz] at H0
  have V0 := q9pV (T := T) (N := N) (P := P) (J := J) (t0 := t0) (Sc := Sc) (op := 1402) (n := 0) (q9evS ae0) (q9evZ w0) (hV _ (List.mem_of_getElem? (i := 0) rfl)) (by decide)
  rw [q9FF_1402] at V0
  have K0 := id V0
  try simp only [kz] at K0
  have L0 : (0 : Int32).toInt ≤ x0.toInt + 0 := q9pC (q9evZ w0) (q9evS ae0) (hL _ (List.mem_of_getElem? (i := 0) rfl))
  have L1 : (0 : Int32).toInt ≤ x1.toInt + 0 := q9pC (q9evZ w0) (q9evS ae1) (hL _ (List.mem_of_getElem? (i := 1) rfl))
  have V1 := q9pV (T := T) (N := N) (P := P) (J := J) (t0 := t0) (Sc := Sc) (op := 1050) (n := 7) (q9evS ae1) (q9evZ w0) (hV _ (List.mem_of_getElem? (i := 1) rfl)) (by decide)
  rw [q9FF_1050] at V1
  have K1 := q9chV_of V1
  try simp only [kz] at K1
  have X1 := q9th_pX (T := T) (N := N) (P := P) (J := J) (t0 := t0) (Sc := Sc) (op := 1051) (q9evS ae1) (q9evZ w0) (q9evS ae2) (hX _ (List.mem_of_getElem? (i := 1) rfl)) (by decide)
  rw [q9FF_1051] at X1
  have H1 := q9chV_of X1
  try simp only [kz] at H1
  have X2 := q9th_pX (T := T) (N := N) (P := P) (J := J) (t0 := t0) (Sc := Sc) (op := 1405) (q9evS ae0) (q9evS ae3) (q9evS ae4) (hX _ (List.mem_of_getElem? (i := 2) rfl)) (by decide)
  rw [q9FF_1405] at X2
  have H2 := X2
  try simp only [kz] at H2
  have L2 : (0 : Int32).toInt ≤ x3.toInt + 0 := q9pC (q9evZ w0) (q9evS ae3) (hL _ (List.mem_of_getElem? (i := 2) rfl))
  have X3 := q9th_pX (T := T) (N := N) (P := P) (J := J) (t0 := t0) (Sc := Sc) (op := 1052) (q9evS ae1) (q9evZ w0) (q9evS ae5) (hX _ (List.mem_of_getElem? (i := 3) rfl)) (by decide)
  rw [q9FF_1052] at X3
  have H3 := q9chV_of X3
  try simp only [kz] at H3
  have V2 := q9pV (T := T) (N := N) (P := P) (J := J) (t0 := t0) (Sc := Sc) (op := 1409) (n := 3) (q9evS ae0) (q9evZ w0) (hV _ (List.mem_of_getElem? (i := 2) rfl)) (by decide)
  rw [q9FF_1409] at V2
  have K2 := id V2
  try simp only [kz] at K2
  have L3 : x3.toInt ≤ x2.toInt + (-1) := q9pC (q9evS ae3) (q9evS ae2) (hL _ (List.mem_of_getElem? (i := 3) rfl))
  have L4 : x1.toInt ≤ x5.toInt + (-2) := q9pC (q9evS ae1) (q9evS ae5) (hL _ (List.mem_of_getElem? (i := 4) rfl))
  obtain ⟨q, hq, hl⟩ := q9q_m H0
  have hl : q.1 = x1.toInt := hl
  obtain ⟨hf, ha, ho⟩ := q9q_of hq
  have W := q9plW_P hN.1 hf
  obtain ⟨⟨l1, l2, l3, l4⟩, ⟨l5, l6⟩, ⟨l7, l8, l9⟩, l10, l11, l12⟩ := q9q_ln hN.1 hf ha
  have hmr := q9mn_rng hN.1 hf l1 (show q.1 < szP T N P J by omega)
  have hk : x0.toInt - q.2.2.2.1 = 0 := q9q_r hq K0
  have hkd : kdP T N P J q.1 = 7 := q9kd_Q (by rw [hl]; exact K1)
  have hds : q.2.2.2.2.1 = 3 := q9q_r hq K2
  have hmn : mnP T N P J q.1 = x2.toInt := q9mn_Q (by rw [hl]; exact H1)
  have hrp : q.2.2.2.1 + 1 + x3.toInt * bQ T N P J (q.1 + 1) (enP T N P J q.1) = x4.toInt := q9q_r hq H2
  have hen : enP T N P J q.1 = x5.toInt := q9en_Q hN.1 hf l1 (by omega) (by rw [hl]; exact H3)
  have hq2 : qP T N P J x4.toInt = some (q9inP (kdP T N P J) (mnP T N P J) (enP T N P J) (szP T N P J) q x3.toInt) := q9q_to hN.1 hf (q9at_in ha hkd (by omega) (by omega) (by omega)) (q9ow_st (by show x4.toInt = q.2.2.2.1 + 1 + x3.toInt * bQ T N P J (q.1 + 1) (enP T N P J q.1); omega))
  have rg0 : (4 : Int) ≤ 4 ∧ (4 : Int) ≤ 4 := by omega
  obtain ⟨x6, nt6⟩ : ∃ x : Int32, x.toInt = 4 := ⟨Int32.ofInt (4), q9oI_toInt (by omega)⟩
  have u_ : q9upN w 7 [.int x6] 0 = .int 0 := q9upN_of (by decide) w0
  have u0 : q9upN w 7 [.int x6] 1 = .int x0 := q9upN_of (by decide) ae0
  have u1 : q9upN w 7 [.int x6] 2 = .int x1 := q9upN_of (by decide) ae1
  have u2 : q9upN w 7 [.int x6] 3 = .int x2 := q9upN_of (by decide) ae2
  have u3 : q9upN w 7 [.int x6] 4 = .int x3 := q9upN_of (by decide) ae3
  have u4 : q9upN w 7 [.int x6] 5 = .int x4 := q9upN_of (by decide) ae4
  have u5 : q9upN w 7 [.int x6] 6 = .int x5 := q9upN_of (by decide) ae5
  have u6 : q9upN w 7 [.int x6] 7 = .int x6 := q9upN_at (by decide)
  refine ⟨[.int x6], fun i9 p9 hq9 => ?_, fun _ h => absurd h List.not_mem_nil, fun _ h => absurd h List.not_mem_nil⟩
  · match i9, hq9 with
    | 0, hq9 =>
      have hp9 : ((1409, (5, 0), (0, 0), (0, 4, 4)) : Nat × q9AV × q9AV × q9ET) = p9 := Option.some.inj hq9
      subst hp9
      exact ⟨⟨x6, rfl, by rw [nt6]; exact rg0.1, by rw [nt6]; exact rg0.2⟩, (q9th_tX (T := T) (N := N) (P := P) (J := J) (t0 := t0) (Sc := Sc) (q9evS u4) (q9evZ u_) (q9evS u6) (by rw [q9FF_1409, nt6]; exact (q9q_t hq2 (by show q.2.2.2.2.1 + 1 = _; omega))) (by decide)).trans (congrArg some (q9evS u6))⟩
    | k9 + 1, hq9 => exact nomatch (show (none : Option (Nat × q9AV × q9AV × q9ET)) = some p9 from hq9)
theorem q9ru_dp4 (hT : ∀ i, 0 ≤ T i ∧ T i ≤ 255) (hN : 0 ≤ N ∧ N ≤ 400) (hSc : 0 ≤ Sc 1 ∧ Sc 1 ≤ 400 → N = Sc 1) : q9ruOK (fO T N P J t0 Sc) q9R_dp4 := by
  intro w w0 hA hX hL hV hR
  obtain ⟨x0, ae0, -, -⟩ := hA 0 0 rfl
  obtain ⟨x1, ae1, -, -⟩ := hA 1 0 rfl
  obtain ⟨x2, ae2, -, -⟩ := hA 2 0 rfl
  have kz : (0 : Int32).toInt = 0 := rfl
  have k6 : (Int32.ofInt 6).toInt = 6 := q9oI_toInt (by decide)
  have X0 := q9th_pX (T := T) (N := N) (P := P) (J := J) (t0 := t0) (Sc := Sc) (op := 1400) (q9evS ae0) (q9evZ w0) (q9evS ae1) (hX _ (List.mem_of_getElem? (i := 0) rfl)) (by decide)
  rw [q9FF_1400] at X0
  have H0 := X0
  try simp only [kz, k6] at H0
  have V0 := q9pV (T := T) (N := N) (P := P) (J := J) (t0 := t0) (Sc := Sc) (op := 1402) (n := 0) (q9evS ae0) (q9evZ w0) (hV _ (List.mem_of_getElem? (i := 0) rfl)) (by decide)
  rw [q9FF_1402] at V0
  have K0 := id V0
  try simp only [kz, k6] at K0
  have L0 : (0 : Int32).toInt ≤ x0.toInt + 0 := q9pC (q9evZ w0) (q9evS ae0) (hL _ (List.mem_of_getElem? (i := 0) rfl))
  have L1 : (0 : Int32).toInt ≤ x1.toInt + 0 := q9pC (q9evZ w0) (q9evS ae1) (hL _ (List.mem_of_getElem? (i := 1) rfl))
  have X1 := q9th_pX (T := T) (N := N) (P := P) (J := J) (t0 := t0) (Sc := Sc) (op := 1050) (q9evS ae1) (q9evZ w0) (q9evS ae2) (hX _ (List.mem_of_getElem? (i := 1) rfl)) (by decide)
  rw [q9FF_1050] at X1
  have H1 := q9chV_of X1
  try simp only [kz, k6] at H1
  have V1 := q9pV (T := T) (N := N) (P := P) (J := J) (t0 := t0) (Sc := Sc) (op := 1409) (n := 4) (q9evS ae0) (q9evZ w0) (hV _ (List.mem_of_getElem? (i := 1) rfl)) (by decide)
  rw [q9FF_1409] at V1
  have K1 := id V1
  try simp only [kz, k6] at K1
  obtain ⟨q, hq, hl⟩ := q9q_m H0
  have hl : q.1 = x1.toInt := hl
  obtain ⟨hf, ha, ho⟩ := q9q_of hq
  have W := q9plW_P hN.1 hf
  obtain ⟨⟨l1, l2, l3, l4⟩, ⟨l5, l6⟩, ⟨l7, l8, l9⟩, l10, l11, l12⟩ := q9q_ln hN.1 hf ha
  have hmr := q9mn_rng hN.1 hf l1 (show q.1 < szP T N P J by omega)
  have hk : x0.toInt - q.2.2.2.1 = 0 := q9q_r hq K0
  have hds : q.2.2.2.2.1 = 4 := q9q_r hq K1
  have hkd : kdP T N P J q.1 = x2.toInt := q9kd_Q (by rw [hl]; exact H1)
  have hd := q9q_dp hN.1 hf ha
  have hr := q9dp_rng hN.1 hf l1 (show q.1 < szP T N P J by omega)
  have h7 := W.2.2.2.1 q.1
  have h6 : kdP T N P J q.1 ≤ 6 := by
    by_cases h : kdP T N P J q.1 = 7
    · have := hr.2.2 h
      omega
    · omega
  have u_ : q9upN w 4 [] 0 = .int 0 := q9upN_of (by decide) w0
  have u0 : q9upN w 4 [] 1 = .int x0 := q9upN_of (by decide) ae0
  have u1 : q9upN w 4 [] 2 = .int x1 := q9upN_of (by decide) ae1
  have u2 : q9upN w 4 [] 3 = .int x2 := q9upN_of (by decide) ae2
  refine ⟨[], fun i9 p9 hq9 => ?_, fun _ h => absurd h List.not_mem_nil, List.forall_mem_cons.mpr ⟨?_, fun _ h => absurd h List.not_mem_nil⟩⟩
  · exact nomatch (show (none : Option (Nat × q9AV × q9AV × q9ET)) = some p9 from hq9)
  · exact q9th_tC (d := 0) (q9evS u2) (q9evC u_ 6) (by omega)
theorem q9ru_rpe (hT : ∀ i, 0 ≤ T i ∧ T i ≤ 255) (hN : 0 ≤ N ∧ N ≤ 400) (hSc : 0 ≤ Sc 1 ∧ Sc 1 ≤ 400 → N = Sc 1) : q9ruOK (fO T N P J t0 Sc) q9R_rpe := by
  intro w w0 hA hX hL hV hR
  obtain ⟨x0, ae0, -, -⟩ := hA 0 0 rfl
  obtain ⟨x1, ae1, -, -⟩ := hA 1 0 rfl
  obtain ⟨x2, ae2, -, -⟩ := hA 2 0 rfl
  obtain ⟨x3, ae3, -, -⟩ := hA 3 0 rfl
  obtain ⟨x4, ae4, -, -⟩ := hA 4 0 rfl
  obtain ⟨x5, ae5, -, -⟩ := hA 5 0 rfl
  have kz : (0 : Int32).toInt = 0 := rfl
  have X0 := q9th_pX (T := T) (N := N) (P := P) (J := J) (t0 := t0) (Sc := Sc) (op := 1400) (q9evS ae0) (q9evZ w0) (q9evS ae1) (hX _ (List.mem_of_getElem? (i := 0) rfl)) (by decide)
  rw [q9FF_1400] at X0
  have H0 := X0
  try simp only [kz] at H0
  have V0 := q9pV (T := T) (N := N) (P := P) (J := J) (t0 := t0) (Sc := Sc) (op := 1402) (n := 0) (q9evS ae0) (q9evZ w0) (hV _ (List.mem_of_getElem? (i := 0) rfl)) (by decide)
  rw [q9FF_1402] at V0
  have K0 := id V0
  try simp only [kz] at K0
  have L0 : (0 : Int32).toInt ≤ x0.toInt + 0 := q9pC (q9evZ w0) (q9evS ae0) (hL _ (List.mem_of_getElem? (i := 0) rfl))
  have L1 : (0 : Int32).toInt ≤ x1.toInt + 0 := q9pC (q9evZ w0) (q9evS ae1) (hL _ (List.mem_of_getElem? (i := 1) rfl))
  have V1 := q9pV (T := T) (N := N) (P := P) (J := J) (t0 := t0) (Sc := Sc) (op := 1050) (n := 7) (q9evS ae1) (q9evZ w0) (hV _ (List.mem_of_getElem? (i := 1) rfl)) (by decide)
  rw [q9FF_1050] at V1
  have K1 := q9chV_of V1
  try simp only [kz] at K1
  have X1 := q9th_pX (T := T) (N := N) (P := P) (J := J) (t0 := t0) (Sc := Sc) (op := 1051) (q9evS ae1) (q9evZ w0) (q9evS ae2) (hX _ (List.mem_of_getElem? (i := 1) rfl)) (by decide)
  rw [q9FF_1051] at X1
  have H1 := q9chV_of X1
  try simp only [kz] at H1
  have X2 := q9th_pX (T := T) (N := N) (P := P) (J := J) (t0 := t0) (Sc := Sc) (op := 1405) (q9evS ae0) (q9evS ae3) (q9evS ae4) (hX _ (List.mem_of_getElem? (i := 2) rfl)) (by decide)
  rw [q9FF_1405] at X2
  have H2 := X2
  try simp only [kz] at H2
  have L2 : (0 : Int32).toInt ≤ x3.toInt + 0 := q9pC (q9evZ w0) (q9evS ae3) (hL _ (List.mem_of_getElem? (i := 2) rfl))
  have X3 := q9th_pX (T := T) (N := N) (P := P) (J := J) (t0 := t0) (Sc := Sc) (op := 1052) (q9evS ae1) (q9evZ w0) (q9evS ae5) (hX _ (List.mem_of_getElem? (i := 3) rfl)) (by decide)
  rw [q9FF_1052] at X3
  have H3 := q9chV_of X3
  try simp only [kz] at H3
  have L3 : x3.toInt ≤ x2.toInt + (-1) := q9pC (q9evS ae3) (q9evS ae2) (hL _ (List.mem_of_getElem? (i := 3) rfl))
  have L4 : x5.toInt ≤ x1.toInt + 1 := q9pC (q9evS ae5) (q9evS ae1) (hL _ (List.mem_of_getElem? (i := 4) rfl))
  obtain ⟨q, hq, hl⟩ := q9q_m H0
  have hl : q.1 = x1.toInt := hl
  obtain ⟨hf, ha, ho⟩ := q9q_of hq
  have W := q9plW_P hN.1 hf
  obtain ⟨⟨l1, l2, l3, l4⟩, ⟨l5, l6⟩, ⟨l7, l8, l9⟩, l10, l11, l12⟩ := q9q_ln hN.1 hf ha
  have hmr := q9mn_rng hN.1 hf l1 (show q.1 < szP T N P J by omega)
  have hk : x0.toInt - q.2.2.2.1 = 0 := q9q_r hq K0
  have hkd : kdP T N P J q.1 = 7 := q9kd_Q (by rw [hl]; exact K1)
  have hmn : mnP T N P J q.1 = x2.toInt := q9mn_Q (by rw [hl]; exact H1)
  have hrp : q.2.2.2.1 + 1 + x3.toInt * bQ T N P J (q.1 + 1) (enP T N P J q.1) = x4.toInt := q9q_r hq H2
  have hen : enP T N P J q.1 = x5.toInt := q9en_Q hN.1 hf l1 (by omega) (by rw [hl]; exact H3)
  have hb0 : bQ T N P J (q.1 + 1) (enP T N P J q.1) = 0 := q9bD_no (by omega)
  rw [hb0, Int.mul_zero] at hrp
  have u_ : q9upN w 7 [] 0 = .int 0 := q9upN_of (by decide) w0
  have u0 : q9upN w 7 [] 1 = .int x0 := q9upN_of (by decide) ae0
  have u1 : q9upN w 7 [] 2 = .int x1 := q9upN_of (by decide) ae1
  have u2 : q9upN w 7 [] 3 = .int x2 := q9upN_of (by decide) ae2
  have u3 : q9upN w 7 [] 4 = .int x3 := q9upN_of (by decide) ae3
  have u4 : q9upN w 7 [] 5 = .int x4 := q9upN_of (by decide) ae4
  have u5 : q9upN w 7 [] 6 = .int x5 := q9upN_of (by decide) ae5
  refine ⟨[], fun i9 p9 hq9 => ?_, List.forall_mem_cons.mpr ⟨?_, fun _ h => absurd h List.not_mem_nil⟩, fun _ h => absurd h List.not_mem_nil⟩
  · exact nomatch (show (none : Option (Nat × q9AV × q9AV × q9ET)) = some p9 from hq9)
  · exact q9th_tX (T := T) (N := N) (P := P) (J := J) (t0 := t0) (Sc := Sc) (q9evS u0) (q9evO u3 1) (q9evS u4) (by rw [q9FF_1405]; exact (q9q_t hq (by show q.2.2.2.1 + 1 + (x3 + Int32.ofInt 1).toInt * bQ T N P J (q.1 + 1) (enP T N P J q.1) = x4.toInt; rw [hb0, Int.mul_zero]; exact hrp))) (by decide)
theorem q9ru_rpz (hT : ∀ i, 0 ≤ T i ∧ T i ≤ 255) (hN : 0 ≤ N ∧ N ≤ 400) (hSc : 0 ≤ Sc 1 ∧ Sc 1 ≤ 400 → N = Sc 1) : q9ruOK (fO T N P J t0 Sc) q9R_rpz := by
  intro w w0 hA hX hL hV hR
  obtain ⟨x0, ae0, -, -⟩ := hA 0 0 rfl
  obtain ⟨x1, ae1, -, -⟩ := hA 1 0 rfl
  obtain ⟨x2, ae2, -, -⟩ := hA 2 0 rfl
  obtain ⟨x3, ae3, -, -⟩ := hA 3 0 rfl
  obtain ⟨x4, ae4, -, -⟩ := hA 4 0 rfl
  obtain ⟨x5, ae5, -, -⟩ := hA 5 0 rfl
  have kz : (0 : Int32).toInt = 0 := rfl
  have X0 := q9th_pX (T := T) (N := N) (P := P) (J := J) (t0 := t0) (Sc := Sc) (op := 1400) (q9evS ae0) (q9evZ w0) (q9evS ae1) (hX _ (List.mem_of_getElem? (i := 0) rfl)) (by decide)
  rw [q9FF_1400] at X0
  have H0 := X0
  try simp only [kz] at H0
  have V0 := q9pV (T := T) (N := N) (P := P) (J := J) (t0 := t0) (Sc := Sc) (op := 1402) (n := 0) (q9evS ae0) (q9evZ w0) (hV _ (List.mem_of_getElem? (i := 0) rfl)) (by decide)
  rw [q9FF_1402] at V0
  have K0 := id V0
  try simp only [kz] at K0
  have L0 : (0 : Int32).toInt ≤ x0.toInt + 0 := q9pC (q9evZ w0) (q9evS ae0) (hL _ (List.mem_of_getElem? (i := 0) rfl))
  have L1 : (0 : Int32).toInt ≤ x1.toInt + 0 := q9pC (q9evZ w0) (q9evS ae1) (hL _ (List.mem_of_getElem? (i := 1) rfl))
  have V1 := q9pV (T := T) (N := N) (P := P) (J := J) (t0 := t0) (Sc := Sc) (op := 1050) (n := 7) (q9evS ae1) (q9evZ w0) (hV _ (List.mem_of_getElem? (i := 1) rfl)) (by decide)
  rw [q9FF_1050] at V1
  have K1 := q9chV_of V1
  try simp only [kz] at K1
  have X1 := q9th_pX (T := T) (N := N) (P := P) (J := J) (t0 := t0) (Sc := Sc) (op := 1051) (q9evS ae1) (q9evZ w0) (q9evS ae2) (hX _ (List.mem_of_getElem? (i := 1) rfl)) (by decide)
  rw [q9FF_1051] at X1
  have H1 := q9chV_of X1
  try simp only [kz] at H1
  have X2 := q9th_pX (T := T) (N := N) (P := P) (J := J) (t0 := t0) (Sc := Sc) (op := 1405) (q9evS ae0) (q9evS ae3) (q9evS ae4) (hX _ (List.mem_of_getElem? (i := 2) rfl)) (by decide)
  rw [q9FF_1405] at X2
  have H2 := X2
  try simp only [kz] at H2
  have L2 : (0 : Int32).toInt ≤ x3.toInt + 0 := q9pC (q9evZ w0) (q9evS ae3) (hL _ (List.mem_of_getElem? (i := 2) rfl))
  have X3 := q9th_pX (T := T) (N := N) (P := P) (J := J) (t0 := t0) (Sc := Sc) (op := 1052) (q9evS ae1) (q9evZ w0) (q9evS ae5) (hX _ (List.mem_of_getElem? (i := 3) rfl)) (by decide)
  rw [q9FF_1052] at X3
  have H3 := q9chV_of X3
  try simp only [kz] at H3
  have L3 : x3.toInt ≤ x2.toInt + 0 := q9pC (q9evS ae3) (q9evS ae2) (hL _ (List.mem_of_getElem? (i := 3) rfl))
  have L4 : x2.toInt ≤ x3.toInt + 0 := q9pC (q9evS ae2) (q9evS ae3) (hL _ (List.mem_of_getElem? (i := 4) rfl))
  obtain ⟨q, hq, hl⟩ := q9q_m H0
  have hl : q.1 = x1.toInt := hl
  obtain ⟨hf, ha, ho⟩ := q9q_of hq
  have W := q9plW_P hN.1 hf
  obtain ⟨⟨l1, l2, l3, l4⟩, ⟨l5, l6⟩, ⟨l7, l8, l9⟩, l10, l11, l12⟩ := q9q_ln hN.1 hf ha
  have hmr := q9mn_rng hN.1 hf l1 (show q.1 < szP T N P J by omega)
  have hk : x0.toInt - q.2.2.2.1 = 0 := q9q_r hq K0
  have hkd : kdP T N P J q.1 = 7 := q9kd_Q (by rw [hl]; exact K1)
  have hmn : mnP T N P J q.1 = x2.toInt := q9mn_Q (by rw [hl]; exact H1)
  have hrp : q.2.2.2.1 + 1 + x3.toInt * bQ T N P J (q.1 + 1) (enP T N P J q.1) = x4.toInt := q9q_r hq H2
  have hen : enP T N P J q.1 = x5.toInt := q9en_Q hN.1 hf l1 (by omega) (by rw [hl]; exact H3)
  have hl7 : lQ T N P J q.1 = 1 + mnP T N P J q.1 * bQ T N P J (q.1 + 1) (enP T N P J q.1) := q9lD_7 hkd
  rw [hmn, show x2.toInt = x3.toInt by omega] at hl7
  have u_ : q9upN w 7 [] 0 = .int 0 := q9upN_of (by decide) w0
  have u0 : q9upN w 7 [] 1 = .int x0 := q9upN_of (by decide) ae0
  have u1 : q9upN w 7 [] 2 = .int x1 := q9upN_of (by decide) ae1
  have u2 : q9upN w 7 [] 3 = .int x2 := q9upN_of (by decide) ae2
  have u3 : q9upN w 7 [] 4 = .int x3 := q9upN_of (by decide) ae3
  have u4 : q9upN w 7 [] 5 = .int x4 := q9upN_of (by decide) ae4
  have u5 : q9upN w 7 [] 6 = .int x5 := q9upN_of (by decide) ae5
  refine ⟨[], fun i9 p9 hq9 => ?_, List.forall_mem_cons.mpr ⟨?_, fun _ h => absurd h List.not_mem_nil⟩, fun _ h => absurd h List.not_mem_nil⟩
  · exact nomatch (show (none : Option (Nat × q9AV × q9AV × q9ET)) = some p9 from hq9)
  · exact q9th_tX (T := T) (N := N) (P := P) (J := J) (t0 := t0) (Sc := Sc) (q9evS u0) (q9evZ u_) (q9evS u4) (by rw [q9FF_1407]; exact (q9q_t hq (by show q.2.2.2.1 + lQ T N P J q.1 = x4.toInt; omega))) (by decide)
theorem q9ru_cmB (hT : ∀ i, 0 ≤ T i ∧ T i ≤ 255) (hN : 0 ≤ N ∧ N ≤ 400) (hSc : 0 ≤ Sc 1 ∧ Sc 1 ≤ 400 → N = Sc 1) : q9ruOK (fO T N P J t0 Sc) q9R_cmB := by
  intro w w0 hA hX hL hV hR
  obtain ⟨x0, ae0, -, -⟩ := hA 0 0 rfl
  obtain ⟨x1, ae1, -, -⟩ := hA 1 0 rfl
  obtain ⟨x2, ae2, -, -⟩ := hA 2 0 rfl
  obtain ⟨x3, ae3, -, -⟩ := hA 3 0 rfl
  have kz : (0 : Int32).toInt = 0 := rfl
  have X0 := q9th_pX (T := T) (N := N) (P := P) (J := J) (t0 := t0) (Sc := Sc) (op := 1400) (q9evS ae0) (q9evZ w0) (q9evS ae1) (hX _ (List.mem_of_getElem? (i := 0) rfl)) (by decide)
  rw [q9FF_1400] at X0
  have H0 := X0
  try simp only [kz] at H0
  have V0 := q9pV (T := T) (N := N) (P := P) (J := J) (t0 := t0) (Sc := Sc) (op := 1402) (n := 0) (q9evS ae0) (q9evZ w0) (hV _ (List.mem_of_getElem? (i := 0) rfl)) (by decide)
  rw [q9FF_1402] at V0
  have K0 := id V0
  try simp only [kz] at K0
  have L0 : (0 : Int32).toInt ≤ x0.toInt + 0 := q9pC (q9evZ w0) (q9evS ae0) (hL _ (List.mem_of_getElem? (i := 0) rfl))
  have L1 : (0 : Int32).toInt ≤ x1.toInt + 0 := q9pC (q9evZ w0) (q9evS ae1) (hL _ (List.mem_of_getElem? (i := 1) rfl))
  have V1 := q9pV (T := T) (N := N) (P := P) (J := J) (t0 := t0) (Sc := Sc) (op := 1050) (n := 6) (q9evS ae1) (q9evZ w0) (hV _ (List.mem_of_getElem? (i := 1) rfl)) (by decide)
  rw [q9FF_1050] at V1
  have K1 := q9chV_of V1
  try simp only [kz] at K1
  have X1 := q9th_pX (T := T) (N := N) (P := P) (J := J) (t0 := t0) (Sc := Sc) (op := 1420) (q9evS ae1) (q9evZ w0) (q9evS ae2) (hX _ (List.mem_of_getElem? (i := 1) rfl)) (by decide)
  rw [q9FF_1420] at X1
  have H1 := q9chV_of X1
  try simp only [kz] at H1
  have X2 := q9th_pX (T := T) (N := N) (P := P) (J := J) (t0 := t0) (Sc := Sc) (op := 1410) (q9evS ae0) (q9evS ae2) (q9evS ae3) (hX _ (List.mem_of_getElem? (i := 2) rfl)) (by decide)
  rw [q9FF_1410] at X2
  have H2 := Option.some.inj X2
  try simp only [kz] at H2
  obtain ⟨q, hq, hl⟩ := q9q_m H0
  have hl : q.1 = x1.toInt := hl
  obtain ⟨hf, ha, ho⟩ := q9q_of hq
  have W := q9plW_P hN.1 hf
  obtain ⟨⟨l1, l2, l3, l4⟩, ⟨l5, l6⟩, ⟨l7, l8, l9⟩, l10, l11, l12⟩ := q9q_ln hN.1 hf ha
  have hmr := q9mn_rng hN.1 hf l1 (show q.1 < szP T N P J by omega)
  have hk : x0.toInt - q.2.2.2.1 = 0 := q9q_r hq K0
  have hkd : kdP T N P J q.1 = 6 := q9kd_Q (by rw [hl]; exact K1)
  have hwh : whP T N P J q.1 = x2.toInt := q9wh_Q (by rw [hl]; exact H1)
  have a1 := q9ad32 (x := x0) (d := 1) (by omega)
  have hc := q9axO_cm hN.1 hf (s := x0.toInt) (a := x2.toInt) ha (by omega) hkd hwh
  have u_ : q9upN w 5 [] 0 = .int 0 := q9upN_of (by decide) w0
  have u0 : q9upN w 5 [] 1 = .int x0 := q9upN_of (by decide) ae0
  have u1 : q9upN w 5 [] 2 = .int x1 := q9upN_of (by decide) ae1
  have u2 : q9upN w 5 [] 3 = .int x2 := q9upN_of (by decide) ae2
  have u3 : q9upN w 5 [] 4 = .int x3 := q9upN_of (by decide) ae3
  refine ⟨[], fun i9 p9 hq9 => ?_, List.forall_mem_cons.mpr ⟨?_, fun _ h => absurd h List.not_mem_nil⟩, fun _ h => absurd h List.not_mem_nil⟩
  · exact nomatch (show (none : Option (Nat × q9AV × q9AV × q9ET)) = some p9 from hq9)
  · exact q9th_tX (T := T) (N := N) (P := P) (J := J) (t0 := t0) (Sc := Sc) (q9evO u0 1) (q9evS u2) (q9evS u3) (by rw [q9FF_1411]; exact (by rw [a1, hc]; exact congrArg some H2)) (by decide)
theorem q9ru_cmG (hT : ∀ i, 0 ≤ T i ∧ T i ≤ 255) (hN : 0 ≤ N ∧ N ≤ 400) (hSc : 0 ≤ Sc 1 ∧ Sc 1 ≤ 400 → N = Sc 1) : q9ruOK (fO T N P J t0 Sc) q9R_cmG := by
  intro w w0 hA hX hL hV hR
  obtain ⟨x0, ae0, -, -⟩ := hA 0 0 rfl
  obtain ⟨x1, ae1, -, -⟩ := hA 1 0 rfl
  obtain ⟨x2, ae2, -, -⟩ := hA 2 0 rfl
  obtain ⟨x3, ae3, -, -⟩ := hA 3 0 rfl
  have kz : (0 : Int32).toInt = 0 := rfl
  have X0 := q9th_pX (T := T) (N := N) (P := P) (J := J) (t0 := t0) (Sc := Sc) (op := 1400) (q9evS ae0) (q9evZ w0) (q9evS ae1) (hX _ (List.mem_of_getElem? (i := 0) rfl)) (by decide)
  rw [q9FF_1400] at X0
  have H0 := X0
  try simp only [kz] at H0
  have V0 := q9pV (T := T) (N := N) (P := P) (J := J) (t0 := t0) (Sc := Sc) (op := 1402) (n := 0) (q9evS ae0) (q9evZ w0) (hV _ (List.mem_of_getElem? (i := 0) rfl)) (by decide)
  rw [q9FF_1402] at V0
  have K0 := id V0
  try simp only [kz] at K0
  have L0 : (0 : Int32).toInt ≤ x0.toInt + 0 := q9pC (q9evZ w0) (q9evS ae0) (hL _ (List.mem_of_getElem? (i := 0) rfl))
  have L1 : (0 : Int32).toInt ≤ x1.toInt + 0 := q9pC (q9evZ w0) (q9evS ae1) (hL _ (List.mem_of_getElem? (i := 1) rfl))
  have V1 := q9pV (T := T) (N := N) (P := P) (J := J) (t0 := t0) (Sc := Sc) (op := 1050) (n := 6) (q9evS ae1) (q9evZ w0) (hV _ (List.mem_of_getElem? (i := 1) rfl)) (by decide)
  rw [q9FF_1050] at V1
  have K1 := q9chV_of V1
  try simp only [kz] at K1
  have X1 := q9th_pX (T := T) (N := N) (P := P) (J := J) (t0 := t0) (Sc := Sc) (op := 1420) (q9evS ae1) (q9evZ w0) (q9evS ae2) (hX _ (List.mem_of_getElem? (i := 1) rfl)) (by decide)
  rw [q9FF_1420] at X1
  have H1 := q9chV_of X1
  try simp only [kz] at H1
  have X2 := q9th_pX (T := T) (N := N) (P := P) (J := J) (t0 := t0) (Sc := Sc) (op := 1421) (q9evS ae1) (q9evZ w0) (q9evS ae3) (hX _ (List.mem_of_getElem? (i := 2) rfl)) (by decide)
  rw [q9FF_1421] at X2
  have H2 := q9chV_of X2
  try simp only [kz] at H2
  obtain ⟨q, hq, hl⟩ := q9q_m H0
  have hl : q.1 = x1.toInt := hl
  obtain ⟨hf, ha, ho⟩ := q9q_of hq
  have W := q9plW_P hN.1 hf
  obtain ⟨⟨l1, l2, l3, l4⟩, ⟨l5, l6⟩, ⟨l7, l8, l9⟩, l10, l11, l12⟩ := q9q_ln hN.1 hf ha
  have hmr := q9mn_rng hN.1 hf l1 (show q.1 < szP T N P J by omega)
  have hk : x0.toInt - q.2.2.2.1 = 0 := q9q_r hq K0
  have hkd : kdP T N P J q.1 = 6 := q9kd_Q (by rw [hl]; exact K1)
  have hwh : whP T N P J q.1 = x2.toInt := q9wh_Q (by rw [hl]; exact H1)
  have hvl : vlP T N P J q.1 = x3.toInt := q9vl_Q (by rw [hl]; exact H2)
  have a1 := q9ad32 (x := x0) (d := 1) (by omega)
  have hc := q9axO_cm hN.1 hf (s := x0.toInt) (a := x2.toInt) ha (by omega) hkd hwh
  have u_ : q9upN w 5 [] 0 = .int 0 := q9upN_of (by decide) w0
  have u0 : q9upN w 5 [] 1 = .int x0 := q9upN_of (by decide) ae0
  have u1 : q9upN w 5 [] 2 = .int x1 := q9upN_of (by decide) ae1
  have u2 : q9upN w 5 [] 3 = .int x2 := q9upN_of (by decide) ae2
  have u3 : q9upN w 5 [] 4 = .int x3 := q9upN_of (by decide) ae3
  refine ⟨[], fun i9 p9 hq9 => ?_, List.forall_mem_cons.mpr ⟨?_, fun _ h => absurd h List.not_mem_nil⟩, fun _ h => absurd h List.not_mem_nil⟩
  · exact nomatch (show (none : Option (Nat × q9AV × q9AV × q9ET)) = some p9 from hq9)
  · exact q9th_tX (T := T) (N := N) (P := P) (J := J) (t0 := t0) (Sc := Sc) (q9evO u0 1) (q9evS u2) (q9evS u3) (by rw [q9FF_1412]; exact (by rw [a1, hc]; exact congrArg some hvl)) (by decide)
theorem q9ru_cmM (hT : ∀ i, 0 ≤ T i ∧ T i ≤ 255) (hN : 0 ≤ N ∧ N ≤ 400) (hSc : 0 ≤ Sc 1 ∧ Sc 1 ≤ 400 → N = Sc 1) : q9ruOK (fO T N P J t0 Sc) q9R_cmM := by
  intro w w0 hA hX hL hV hR
  obtain ⟨x0, ae0, -, -⟩ := hA 0 0 rfl
  obtain ⟨x1, ae1, -, -⟩ := hA 1 0 rfl
  obtain ⟨x2, ae2, -, -⟩ := hA 2 0 rfl
  obtain ⟨x3, ae3, -, -⟩ := hA 3 0 rfl
  have kz : (0 : Int32).toInt = 0 := rfl
  have k1 : (Int32.ofInt 1).toInt = 1 := q9oI_toInt (by decide)
  have X0 := q9th_pX (T := T) (N := N) (P := P) (J := J) (t0 := t0) (Sc := Sc) (op := 1400) (q9evS ae0) (q9evZ w0) (q9evS ae1) (hX _ (List.mem_of_getElem? (i := 0) rfl)) (by decide)
  rw [q9FF_1400] at X0
  have H0 := X0
  try simp only [kz, k1] at H0
  have V0 := q9pV (T := T) (N := N) (P := P) (J := J) (t0 := t0) (Sc := Sc) (op := 1402) (n := 0) (q9evS ae0) (q9evZ w0) (hV _ (List.mem_of_getElem? (i := 0) rfl)) (by decide)
  rw [q9FF_1402] at V0
  have K0 := id V0
  try simp only [kz, k1] at K0
  have L0 : (0 : Int32).toInt ≤ x0.toInt + 0 := q9pC (q9evZ w0) (q9evS ae0) (hL _ (List.mem_of_getElem? (i := 0) rfl))
  have L1 : (0 : Int32).toInt ≤ x1.toInt + 0 := q9pC (q9evZ w0) (q9evS ae1) (hL _ (List.mem_of_getElem? (i := 1) rfl))
  have V1 := q9pV (T := T) (N := N) (P := P) (J := J) (t0 := t0) (Sc := Sc) (op := 1050) (n := 6) (q9evS ae1) (q9evZ w0) (hV _ (List.mem_of_getElem? (i := 1) rfl)) (by decide)
  rw [q9FF_1050] at V1
  have K1 := q9chV_of V1
  try simp only [kz, k1] at K1
  have X1 := q9th_pX (T := T) (N := N) (P := P) (J := J) (t0 := t0) (Sc := Sc) (op := 1420) (q9evS ae1) (q9evZ w0) (q9evS ae2) (hX _ (List.mem_of_getElem? (i := 1) rfl)) (by decide)
  rw [q9FF_1420] at X1
  have H1 := q9chV_of X1
  try simp only [kz, k1] at H1
  have X2 := q9th_pX (T := T) (N := N) (P := P) (J := J) (t0 := t0) (Sc := Sc) (op := 1051) (q9evS ae1) (q9evZ w0) (q9evS ae3) (hX _ (List.mem_of_getElem? (i := 2) rfl)) (by decide)
  rw [q9FF_1051] at X2
  have H2 := q9chV_of X2
  try simp only [kz, k1] at H2
  obtain ⟨q, hq, hl⟩ := q9q_m H0
  have hl : q.1 = x1.toInt := hl
  obtain ⟨hf, ha, ho⟩ := q9q_of hq
  have W := q9plW_P hN.1 hf
  obtain ⟨⟨l1, l2, l3, l4⟩, ⟨l5, l6⟩, ⟨l7, l8, l9⟩, l10, l11, l12⟩ := q9q_ln hN.1 hf ha
  have hmr := q9mn_rng hN.1 hf l1 (show q.1 < szP T N P J by omega)
  have hk : x0.toInt - q.2.2.2.1 = 0 := q9q_r hq K0
  have hkd : kdP T N P J q.1 = 6 := q9kd_Q (by rw [hl]; exact K1)
  have hwh : whP T N P J q.1 = x2.toInt := q9wh_Q (by rw [hl]; exact H1)
  have hmn : mnP T N P J q.1 = x3.toInt := q9mn_Q (by rw [hl]; exact H2)
  have a1 := q9ad32 (x := x0) (d := 1) (by omega)
  have hc := q9axO_cm hN.1 hf (s := x0.toInt) (a := x2.toInt) ha (by omega) hkd hwh
  have hm6 := hmr.2.2.1 hkd
  have u_ : q9upN w 5 [] 0 = .int 0 := q9upN_of (by decide) w0
  have u0 : q9upN w 5 [] 1 = .int x0 := q9upN_of (by decide) ae0
  have u1 : q9upN w 5 [] 2 = .int x1 := q9upN_of (by decide) ae1
  have u2 : q9upN w 5 [] 3 = .int x2 := q9upN_of (by decide) ae2
  have u3 : q9upN w 5 [] 4 = .int x3 := q9upN_of (by decide) ae3
  refine ⟨[], fun i9 p9 hq9 => ?_, List.forall_mem_cons.mpr ⟨?_, fun _ h => absurd h List.not_mem_nil⟩, List.forall_mem_cons.mpr ⟨?_, fun _ h => absurd h List.not_mem_nil⟩⟩
  · exact nomatch (show (none : Option (Nat × q9AV × q9AV × q9ET)) = some p9 from hq9)
  · exact q9th_tX (T := T) (N := N) (P := P) (J := J) (t0 := t0) (Sc := Sc) (q9evO u0 1) (q9evS u2) (q9evS u3) (by rw [q9FF_1413]; exact (by rw [a1, hc]; exact congrArg some hmn)) (by decide)
  · exact q9th_tC (d := 0) (q9evC u_ 1) (q9evS u3) (by omega)
theorem q9ru_cmE (hT : ∀ i, 0 ≤ T i ∧ T i ≤ 255) (hN : 0 ≤ N ∧ N ≤ 400) (hSc : 0 ≤ Sc 1 ∧ Sc 1 ≤ 400 → N = Sc 1) : q9ruOK (fO T N P J t0 Sc) q9R_cmE := by
  intro w w0 hA hX hL hV hR
  obtain ⟨x0, ae0, -, -⟩ := hA 0 0 rfl
  obtain ⟨x1, ae1, -, -⟩ := hA 1 0 rfl
  obtain ⟨x2, ae2, -, -⟩ := hA 2 0 rfl
  obtain ⟨x3, ae3, -, -⟩ := hA 3 0 rfl
  have kz : (0 : Int32).toInt = 0 := rfl
  have X0 := q9th_pX (T := T) (N := N) (P := P) (J := J) (t0 := t0) (Sc := Sc) (op := 1400) (q9evS ae0) (q9evZ w0) (q9evS ae1) (hX _ (List.mem_of_getElem? (i := 0) rfl)) (by decide)
  rw [q9FF_1400] at X0
  have H0 := X0
  try simp only [kz] at H0
  have V0 := q9pV (T := T) (N := N) (P := P) (J := J) (t0 := t0) (Sc := Sc) (op := 1402) (n := 0) (q9evS ae0) (q9evZ w0) (hV _ (List.mem_of_getElem? (i := 0) rfl)) (by decide)
  rw [q9FF_1402] at V0
  have K0 := id V0
  try simp only [kz] at K0
  have L0 : (0 : Int32).toInt ≤ x0.toInt + 0 := q9pC (q9evZ w0) (q9evS ae0) (hL _ (List.mem_of_getElem? (i := 0) rfl))
  have L1 : (0 : Int32).toInt ≤ x1.toInt + 0 := q9pC (q9evZ w0) (q9evS ae1) (hL _ (List.mem_of_getElem? (i := 1) rfl))
  have V1 := q9pV (T := T) (N := N) (P := P) (J := J) (t0 := t0) (Sc := Sc) (op := 1050) (n := 6) (q9evS ae1) (q9evZ w0) (hV _ (List.mem_of_getElem? (i := 1) rfl)) (by decide)
  rw [q9FF_1050] at V1
  have K1 := q9chV_of V1
  try simp only [kz] at K1
  have X1 := q9th_pX (T := T) (N := N) (P := P) (J := J) (t0 := t0) (Sc := Sc) (op := 1420) (q9evS ae1) (q9evZ w0) (q9evS ae2) (hX _ (List.mem_of_getElem? (i := 1) rfl)) (by decide)
  rw [q9FF_1420] at X1
  have H1 := q9chV_of X1
  try simp only [kz] at H1
  have X2 := q9th_pX (T := T) (N := N) (P := P) (J := J) (t0 := t0) (Sc := Sc) (op := 1422) (q9evS ae1) (q9evZ w0) (q9evS ae3) (hX _ (List.mem_of_getElem? (i := 2) rfl)) (by decide)
  rw [q9FF_1422] at X2
  have H2 := q9chV_of X2
  try simp only [kz] at H2
  obtain ⟨q, hq, hl⟩ := q9q_m H0
  have hl : q.1 = x1.toInt := hl
  obtain ⟨hf, ha, ho⟩ := q9q_of hq
  have W := q9plW_P hN.1 hf
  obtain ⟨⟨l1, l2, l3, l4⟩, ⟨l5, l6⟩, ⟨l7, l8, l9⟩, l10, l11, l12⟩ := q9q_ln hN.1 hf ha
  have hmr := q9mn_rng hN.1 hf l1 (show q.1 < szP T N P J by omega)
  have hk : x0.toInt - q.2.2.2.1 = 0 := q9q_r hq K0
  have hkd : kdP T N P J q.1 = 6 := q9kd_Q (by rw [hl]; exact K1)
  have hwh : whP T N P J q.1 = x2.toInt := q9wh_Q (by rw [hl]; exact H1)
  have hes : esP T N P J q.1 = x3.toInt := q9es_Q (by rw [hl]; exact H2)
  have a1 := q9ad32 (x := x0) (d := 1) (by omega)
  have hc := q9axO_cm hN.1 hf (s := x0.toInt) (a := x2.toInt) ha (by omega) hkd hwh
  have u_ : q9upN w 5 [] 0 = .int 0 := q9upN_of (by decide) w0
  have u0 : q9upN w 5 [] 1 = .int x0 := q9upN_of (by decide) ae0
  have u1 : q9upN w 5 [] 2 = .int x1 := q9upN_of (by decide) ae1
  have u2 : q9upN w 5 [] 3 = .int x2 := q9upN_of (by decide) ae2
  have u3 : q9upN w 5 [] 4 = .int x3 := q9upN_of (by decide) ae3
  refine ⟨[], fun i9 p9 hq9 => ?_, List.forall_mem_cons.mpr ⟨?_, fun _ h => absurd h List.not_mem_nil⟩, fun _ h => absurd h List.not_mem_nil⟩
  · exact nomatch (show (none : Option (Nat × q9AV × q9AV × q9ET)) = some p9 from hq9)
  · exact q9th_tX (T := T) (N := N) (P := P) (J := J) (t0 := t0) (Sc := Sc) (q9evO u0 1) (q9evS u2) (q9evS u3) (by rw [q9FF_1414]; exact (by rw [a1, hc]; exact congrArg some hes)) (by decide)
theorem q9ru_cmD (hT : ∀ i, 0 ≤ T i ∧ T i ≤ 255) (hN : 0 ≤ N ∧ N ≤ 400) (hSc : 0 ≤ Sc 1 ∧ Sc 1 ≤ 400 → N = Sc 1) : q9ruOK (fO T N P J t0 Sc) q9R_cmD := by
  intro w w0 hA hX hL hV hR
  obtain ⟨x0, ae0, -, -⟩ := hA 0 0 rfl
  obtain ⟨x1, ae1, -, -⟩ := hA 1 0 rfl
  obtain ⟨x2, ae2, -, -⟩ := hA 2 0 rfl
  have kz : (0 : Int32).toInt = 0 := rfl
  have X0 := q9th_pX (T := T) (N := N) (P := P) (J := J) (t0 := t0) (Sc := Sc) (op := 1400) (q9evS ae0) (q9evZ w0) (q9evS ae1) (hX _ (List.mem_of_getElem? (i := 0) rfl)) (by decide)
  rw [q9FF_1400] at X0
  have H0 := X0
  try simp only [kz] at H0
  have V0 := q9pV (T := T) (N := N) (P := P) (J := J) (t0 := t0) (Sc := Sc) (op := 1402) (n := 0) (q9evS ae0) (q9evZ w0) (hV _ (List.mem_of_getElem? (i := 0) rfl)) (by decide)
  rw [q9FF_1402] at V0
  have K0 := id V0
  try simp only [kz] at K0
  have L0 : (0 : Int32).toInt ≤ x0.toInt + 0 := q9pC (q9evZ w0) (q9evS ae0) (hL _ (List.mem_of_getElem? (i := 0) rfl))
  have L1 : (0 : Int32).toInt ≤ x1.toInt + 0 := q9pC (q9evZ w0) (q9evS ae1) (hL _ (List.mem_of_getElem? (i := 1) rfl))
  have V1 := q9pV (T := T) (N := N) (P := P) (J := J) (t0 := t0) (Sc := Sc) (op := 1050) (n := 6) (q9evS ae1) (q9evZ w0) (hV _ (List.mem_of_getElem? (i := 1) rfl)) (by decide)
  rw [q9FF_1050] at V1
  have K1 := q9chV_of V1
  try simp only [kz] at K1
  have X1 := q9th_pX (T := T) (N := N) (P := P) (J := J) (t0 := t0) (Sc := Sc) (op := 1420) (q9evS ae1) (q9evZ w0) (q9evS ae2) (hX _ (List.mem_of_getElem? (i := 1) rfl)) (by decide)
  rw [q9FF_1420] at X1
  have H1 := q9chV_of X1
  try simp only [kz] at H1
  obtain ⟨q, hq, hl⟩ := q9q_m H0
  have hl : q.1 = x1.toInt := hl
  obtain ⟨hf, ha, ho⟩ := q9q_of hq
  have W := q9plW_P hN.1 hf
  obtain ⟨⟨l1, l2, l3, l4⟩, ⟨l5, l6⟩, ⟨l7, l8, l9⟩, l10, l11, l12⟩ := q9q_ln hN.1 hf ha
  have hmr := q9mn_rng hN.1 hf l1 (show q.1 < szP T N P J by omega)
  have hk : x0.toInt - q.2.2.2.1 = 0 := q9q_r hq K0
  have hkd : kdP T N P J q.1 = 6 := q9kd_Q (by rw [hl]; exact K1)
  have hwh : whP T N P J q.1 = x2.toInt := q9wh_Q (by rw [hl]; exact H1)
  have a1 := q9ad32 (x := x0) (d := 1) (by omega)
  have hc := q9axO_cm hN.1 hf (s := x0.toInt) (a := x2.toInt) ha (by omega) hkd hwh
  have rg0 : (0 : Int) ≤ 0 ∧ (0 : Int) ≤ 0 := by omega
  obtain ⟨x3, nt3⟩ : ∃ x : Int32, x.toInt = 0 := ⟨Int32.ofInt (0), q9oI_toInt (by omega)⟩
  have u_ : q9upN w 4 [.int x3] 0 = .int 0 := q9upN_of (by decide) w0
  have u0 : q9upN w 4 [.int x3] 1 = .int x0 := q9upN_of (by decide) ae0
  have u1 : q9upN w 4 [.int x3] 2 = .int x1 := q9upN_of (by decide) ae1
  have u2 : q9upN w 4 [.int x3] 3 = .int x2 := q9upN_of (by decide) ae2
  have u3 : q9upN w 4 [.int x3] 4 = .int x3 := q9upN_at (by decide)
  refine ⟨[.int x3], fun i9 p9 hq9 => ?_, fun _ h => absurd h List.not_mem_nil, fun _ h => absurd h List.not_mem_nil⟩
  · match i9, hq9 with
    | 0, hq9 =>
      have hp9 : ((1415, (1, 1), (3, 0), (0, 0, 0)) : Nat × q9AV × q9AV × q9ET) = p9 := Option.some.inj hq9
      subst hp9
      exact ⟨⟨x3, rfl, by rw [nt3]; exact rg0.1, by rw [nt3]; exact rg0.2⟩, (q9th_tX (T := T) (N := N) (P := P) (J := J) (t0 := t0) (Sc := Sc) (q9evO u0 1) (q9evS u2) (q9evS u3) (by rw [q9FF_1415, nt3]; exact (by rw [a1, hc])) (by decide)).trans (congrArg some (q9evS u3))⟩
    | k9 + 1, hq9 => exact nomatch (show (none : Option (Nat × q9AV × q9AV × q9ET)) = some p9 from hq9)
theorem q9ru_cmS (hT : ∀ i, 0 ≤ T i ∧ T i ≤ 255) (hN : 0 ≤ N ∧ N ≤ 400) (hSc : 0 ≤ Sc 1 ∧ Sc 1 ≤ 400 → N = Sc 1) : q9ruOK (fO T N P J t0 Sc) q9R_cmS := by
  intro w w0 hA hX hL hV hR
  obtain ⟨x0, ae0, -, -⟩ := hA 0 0 rfl
  obtain ⟨x1, ae1, -, -⟩ := hA 1 0 rfl
  obtain ⟨x2, ae2, -, -⟩ := hA 2 0 rfl
  obtain ⟨x3, ae3, -, -⟩ := hA 3 0 rfl
  have kz : (0 : Int32).toInt = 0 := rfl
  have X0 := q9th_pX (T := T) (N := N) (P := P) (J := J) (t0 := t0) (Sc := Sc) (op := 1400) (q9evS ae0) (q9evZ w0) (q9evS ae1) (hX _ (List.mem_of_getElem? (i := 0) rfl)) (by decide)
  rw [q9FF_1400] at X0
  have H0 := X0
  try simp only [kz] at H0
  have V0 := q9pV (T := T) (N := N) (P := P) (J := J) (t0 := t0) (Sc := Sc) (op := 1402) (n := 0) (q9evS ae0) (q9evZ w0) (hV _ (List.mem_of_getElem? (i := 0) rfl)) (by decide)
  rw [q9FF_1402] at V0
  have K0 := id V0
  try simp only [kz] at K0
  have L0 : (0 : Int32).toInt ≤ x0.toInt + 0 := q9pC (q9evZ w0) (q9evS ae0) (hL _ (List.mem_of_getElem? (i := 0) rfl))
  have L1 : (0 : Int32).toInt ≤ x1.toInt + 0 := q9pC (q9evZ w0) (q9evS ae1) (hL _ (List.mem_of_getElem? (i := 1) rfl))
  have V1 := q9pV (T := T) (N := N) (P := P) (J := J) (t0 := t0) (Sc := Sc) (op := 1050) (n := 6) (q9evS ae1) (q9evZ w0) (hV _ (List.mem_of_getElem? (i := 1) rfl)) (by decide)
  rw [q9FF_1050] at V1
  have K1 := q9chV_of V1
  try simp only [kz] at K1
  have X1 := q9th_pX (T := T) (N := N) (P := P) (J := J) (t0 := t0) (Sc := Sc) (op := 1420) (q9evS ae1) (q9evZ w0) (q9evS ae2) (hX _ (List.mem_of_getElem? (i := 1) rfl)) (by decide)
  rw [q9FF_1420] at X1
  have H1 := q9chV_of X1
  try simp only [kz] at H1
  have X2 := q9th_pX (T := T) (N := N) (P := P) (J := J) (t0 := t0) (Sc := Sc) (op := 1406) (q9evS ae0) (q9evZ w0) (q9evS ae3) (hX _ (List.mem_of_getElem? (i := 2) rfl)) (by decide)
  rw [q9FF_1406] at X2
  have H2 := Option.some.inj X2
  try simp only [kz] at H2
  obtain ⟨q, hq, hl⟩ := q9q_m H0
  have hl : q.1 = x1.toInt := hl
  obtain ⟨hf, ha, ho⟩ := q9q_of hq
  have W := q9plW_P hN.1 hf
  obtain ⟨⟨l1, l2, l3, l4⟩, ⟨l5, l6⟩, ⟨l7, l8, l9⟩, l10, l11, l12⟩ := q9q_ln hN.1 hf ha
  have hmr := q9mn_rng hN.1 hf l1 (show q.1 < szP T N P J by omega)
  have hk : x0.toInt - q.2.2.2.1 = 0 := q9q_r hq K0
  have hkd : kdP T N P J q.1 = 6 := q9kd_Q (by rw [hl]; exact K1)
  have hwh : whP T N P J q.1 = x2.toInt := q9wh_Q (by rw [hl]; exact H1)
  have hfc : cnQ T N P J x0.toInt = x3.toInt := H2
  have a1 := q9ad32 (x := x0) (d := 1) (by omega)
  have hc := q9axO_cm hN.1 hf (s := x0.toInt) (a := x2.toInt) ha (by omega) hkd hwh
  have u_ : q9upN w 5 [] 0 = .int 0 := q9upN_of (by decide) w0
  have u0 : q9upN w 5 [] 1 = .int x0 := q9upN_of (by decide) ae0
  have u1 : q9upN w 5 [] 2 = .int x1 := q9upN_of (by decide) ae1
  have u2 : q9upN w 5 [] 3 = .int x2 := q9upN_of (by decide) ae2
  have u3 : q9upN w 5 [] 4 = .int x3 := q9upN_of (by decide) ae3
  refine ⟨[], fun i9 p9 hq9 => ?_, List.forall_mem_cons.mpr ⟨?_, fun _ h => absurd h List.not_mem_nil⟩, fun _ h => absurd h List.not_mem_nil⟩
  · exact nomatch (show (none : Option (Nat × q9AV × q9AV × q9ET)) = some p9 from hq9)
  · exact q9th_tX (T := T) (N := N) (P := P) (J := J) (t0 := t0) (Sc := Sc) (q9evO u0 1) (q9evS u2) (q9evS u3) (by rw [q9FF_1416]; exact (by rw [a1, hc]; exact congrArg some hfc)) (by decide)
theorem q9ru_cmw (hT : ∀ i, 0 ≤ T i ∧ T i ≤ 255) (hN : 0 ≤ N ∧ N ≤ 400) (hSc : 0 ≤ Sc 1 ∧ Sc 1 ≤ 400 → N = Sc 1) : q9ruOK (fO T N P J t0 Sc) q9R_cmw := by
  intro w w0 hA hX hL hV hR
  obtain ⟨x0, ae0, -, -⟩ := hA 0 0 rfl
  obtain ⟨x1, ae1, -, -⟩ := hA 1 0 rfl
  obtain ⟨x2, ae2, -, -⟩ := hA 2 0 rfl
  have kz : (0 : Int32).toInt = 0 := rfl
  have k2 : (Int32.ofInt 2).toInt = 2 := q9oI_toInt (by decide)
  have X0 := q9th_pX (T := T) (N := N) (P := P) (J := J) (t0 := t0) (Sc := Sc) (op := 1400) (q9evS ae0) (q9evZ w0) (q9evS ae1) (hX _ (List.mem_of_getElem? (i := 0) rfl)) (by decide)
  rw [q9FF_1400] at X0
  have H0 := X0
  try simp only [kz, k2] at H0
  have V0 := q9pV (T := T) (N := N) (P := P) (J := J) (t0 := t0) (Sc := Sc) (op := 1402) (n := 0) (q9evS ae0) (q9evZ w0) (hV _ (List.mem_of_getElem? (i := 0) rfl)) (by decide)
  rw [q9FF_1402] at V0
  have K0 := id V0
  try simp only [kz, k2] at K0
  have L0 : (0 : Int32).toInt ≤ x0.toInt + 0 := q9pC (q9evZ w0) (q9evS ae0) (hL _ (List.mem_of_getElem? (i := 0) rfl))
  have L1 : (0 : Int32).toInt ≤ x1.toInt + 0 := q9pC (q9evZ w0) (q9evS ae1) (hL _ (List.mem_of_getElem? (i := 1) rfl))
  have V1 := q9pV (T := T) (N := N) (P := P) (J := J) (t0 := t0) (Sc := Sc) (op := 1050) (n := 6) (q9evS ae1) (q9evZ w0) (hV _ (List.mem_of_getElem? (i := 1) rfl)) (by decide)
  rw [q9FF_1050] at V1
  have K1 := q9chV_of V1
  try simp only [kz, k2] at K1
  have X1 := q9th_pX (T := T) (N := N) (P := P) (J := J) (t0 := t0) (Sc := Sc) (op := 1420) (q9evS ae1) (q9evZ w0) (q9evS ae2) (hX _ (List.mem_of_getElem? (i := 1) rfl)) (by decide)
  rw [q9FF_1420] at X1
  have H1 := q9chV_of X1
  try simp only [kz, k2] at H1
  obtain ⟨q, hq, hl⟩ := q9q_m H0
  have hl : q.1 = x1.toInt := hl
  obtain ⟨hf, ha, ho⟩ := q9q_of hq
  have W := q9plW_P hN.1 hf
  obtain ⟨⟨l1, l2, l3, l4⟩, ⟨l5, l6⟩, ⟨l7, l8, l9⟩, l10, l11, l12⟩ := q9q_ln hN.1 hf ha
  have hmr := q9mn_rng hN.1 hf l1 (show q.1 < szP T N P J by omega)
  have hk : x0.toInt - q.2.2.2.1 = 0 := q9q_r hq K0
  have hkd : kdP T N P J q.1 = 6 := q9kd_Q (by rw [hl]; exact K1)
  have hwh : whP T N P J q.1 = x2.toInt := q9wh_Q (by rw [hl]; exact H1)
  have hw9 := q9wh_rng (T := T) (N := N) (P := P) (J := J) (i := q.1)
  have u_ : q9upN w 4 [] 0 = .int 0 := q9upN_of (by decide) w0
  have u0 : q9upN w 4 [] 1 = .int x0 := q9upN_of (by decide) ae0
  have u1 : q9upN w 4 [] 2 = .int x1 := q9upN_of (by decide) ae1
  have u2 : q9upN w 4 [] 3 = .int x2 := q9upN_of (by decide) ae2
  refine ⟨[], fun i9 p9 hq9 => ?_, fun _ h => absurd h List.not_mem_nil, List.forall_mem_cons.mpr ⟨?_, List.forall_mem_cons.mpr ⟨?_, fun _ h => absurd h List.not_mem_nil⟩⟩⟩
  · exact nomatch (show (none : Option (Nat × q9AV × q9AV × q9ET)) = some p9 from hq9)
  · exact q9th_tC (d := 0) (q9evZ u_) (q9evS u2) (by omega)
  · exact q9th_tC (d := 0) (q9evS u2) (q9evC u_ 2) (by omega)
theorem q9ru_cn1411l (hT : ∀ i, 0 ≤ T i ∧ T i ≤ 255) (hN : 0 ≤ N ∧ N ≤ 400) (hSc : 0 ≤ Sc 1 ∧ Sc 1 ≤ 400 → N = Sc 1) : q9ruOK (fO T N P J t0 Sc) q9R_cn1411l := by
  intro w w0 hA hX hL hV hR
  obtain ⟨x0, ae0, -, -⟩ := hA 0 0 rfl
  obtain ⟨x1, ae1, -, -⟩ := hA 1 0 rfl
  obtain ⟨x2, ae2, -, -⟩ := hA 2 0 rfl
  obtain ⟨x3, ae3, -, -⟩ := hA 3 0 rfl
  obtain ⟨x4, ae4, -, -⟩ := hA 4 0 rfl
  have kz : (0 : Int32).toInt = 0 := rfl
  have X0 := q9th_pX (T := T) (N := N) (P := P) (J := J) (t0 := t0) (Sc := Sc) (op := 1400) (q9evS ae0) (q9evZ w0) (q9evS ae1) (hX _ (List.mem_of_getElem? (i := 0) rfl)) (by decide)
  rw [q9FF_1400] at X0
  have H0 := X0
  try simp only [kz] at H0
  have V0 := q9pV (T := T) (N := N) (P := P) (J := J) (t0 := t0) (Sc := Sc) (op := 1402) (n := 0) (q9evS ae0) (q9evZ w0) (hV _ (List.mem_of_getElem? (i := 0) rfl)) (by decide)
  rw [q9FF_1402] at V0
  have K0 := id V0
  try simp only [kz] at K0
  have L0 : (0 : Int32).toInt ≤ x0.toInt + 0 := q9pC (q9evZ w0) (q9evS ae0) (hL _ (List.mem_of_getElem? (i := 0) rfl))
  have L1 : (0 : Int32).toInt ≤ x1.toInt + 0 := q9pC (q9evZ w0) (q9evS ae1) (hL _ (List.mem_of_getElem? (i := 1) rfl))
  have V1 := q9pV (T := T) (N := N) (P := P) (J := J) (t0 := t0) (Sc := Sc) (op := 1050) (n := 6) (q9evS ae1) (q9evZ w0) (hV _ (List.mem_of_getElem? (i := 1) rfl)) (by decide)
  rw [q9FF_1050] at V1
  have K1 := q9chV_of V1
  try simp only [kz] at K1
  have X1 := q9th_pX (T := T) (N := N) (P := P) (J := J) (t0 := t0) (Sc := Sc) (op := 1420) (q9evS ae1) (q9evZ w0) (q9evS ae2) (hX _ (List.mem_of_getElem? (i := 1) rfl)) (by decide)
  rw [q9FF_1420] at X1
  have H1 := q9chV_of X1
  try simp only [kz] at H1
  have L2 : x4.toInt ≤ x2.toInt + (-1) := q9pC (q9evS ae4) (q9evS ae2) (hL _ (List.mem_of_getElem? (i := 2) rfl))
  have X2 := q9th_pX (T := T) (N := N) (P := P) (J := J) (t0 := t0) (Sc := Sc) (op := 1411) (q9evS ae0) (q9evS ae4) (q9evS ae3) (hX _ (List.mem_of_getElem? (i := 2) rfl)) (by decide)
  rw [q9FF_1411] at X2
  have H2 := Option.some.inj X2
  try simp only [kz] at H2
  have L3 : (0 : Int32).toInt ≤ x4.toInt + 0 := q9pC (q9evZ w0) (q9evS ae4) (hL _ (List.mem_of_getElem? (i := 3) rfl))
  obtain ⟨q, hq, hl⟩ := q9q_m H0
  have hl : q.1 = x1.toInt := hl
  obtain ⟨hf, ha, ho⟩ := q9q_of hq
  have W := q9plW_P hN.1 hf
  obtain ⟨⟨l1, l2, l3, l4⟩, ⟨l5, l6⟩, ⟨l7, l8, l9⟩, l10, l11, l12⟩ := q9q_ln hN.1 hf ha
  have hmr := q9mn_rng hN.1 hf l1 (show q.1 < szP T N P J by omega)
  have hk : x0.toInt - q.2.2.2.1 = 0 := q9q_r hq K0
  have hkd : kdP T N P J q.1 = 6 := q9kd_Q (by rw [hl]; exact K1)
  have hwh : whP T N P J q.1 = x2.toInt := q9wh_Q (by rw [hl]; exact H1)
  have a1 := q9ad32 (x := x0) (d := 1) (by omega)
  have hs := q9axO_st hN.1 hf (s := x0.toInt) (a := x4.toInt) ha (by omega) (.inr (by rw [hwh]; omega))
  have u_ : q9upN w 6 [] 0 = .int 0 := q9upN_of (by decide) w0
  have u0 : q9upN w 6 [] 1 = .int x0 := q9upN_of (by decide) ae0
  have u1 : q9upN w 6 [] 2 = .int x1 := q9upN_of (by decide) ae1
  have u2 : q9upN w 6 [] 3 = .int x2 := q9upN_of (by decide) ae2
  have u3 : q9upN w 6 [] 4 = .int x3 := q9upN_of (by decide) ae3
  have u4 : q9upN w 6 [] 5 = .int x4 := q9upN_of (by decide) ae4
  refine ⟨[], fun i9 p9 hq9 => ?_, List.forall_mem_cons.mpr ⟨?_, fun _ h => absurd h List.not_mem_nil⟩, fun _ h => absurd h List.not_mem_nil⟩
  · exact nomatch (show (none : Option (Nat × q9AV × q9AV × q9ET)) = some p9 from hq9)
  · exact q9th_tX (T := T) (N := N) (P := P) (J := J) (t0 := t0) (Sc := Sc) (q9evO u0 1) (q9evS u4) (q9evS u3) (by rw [q9FF_1411]; exact (by rw [a1, hs]; exact congrArg some H2)) (by decide)
theorem q9ru_cn1411h (hT : ∀ i, 0 ≤ T i ∧ T i ≤ 255) (hN : 0 ≤ N ∧ N ≤ 400) (hSc : 0 ≤ Sc 1 ∧ Sc 1 ≤ 400 → N = Sc 1) : q9ruOK (fO T N P J t0 Sc) q9R_cn1411h := by
  intro w w0 hA hX hL hV hR
  obtain ⟨x0, ae0, -, -⟩ := hA 0 0 rfl
  obtain ⟨x1, ae1, -, -⟩ := hA 1 0 rfl
  obtain ⟨x2, ae2, -, -⟩ := hA 2 0 rfl
  obtain ⟨x3, ae3, -, -⟩ := hA 3 0 rfl
  obtain ⟨x4, ae4, -, -⟩ := hA 4 0 rfl
  have kz : (0 : Int32).toInt = 0 := rfl
  have X0 := q9th_pX (T := T) (N := N) (P := P) (J := J) (t0 := t0) (Sc := Sc) (op := 1400) (q9evS ae0) (q9evZ w0) (q9evS ae1) (hX _ (List.mem_of_getElem? (i := 0) rfl)) (by decide)
  rw [q9FF_1400] at X0
  have H0 := X0
  try simp only [kz] at H0
  have V0 := q9pV (T := T) (N := N) (P := P) (J := J) (t0 := t0) (Sc := Sc) (op := 1402) (n := 0) (q9evS ae0) (q9evZ w0) (hV _ (List.mem_of_getElem? (i := 0) rfl)) (by decide)
  rw [q9FF_1402] at V0
  have K0 := id V0
  try simp only [kz] at K0
  have L0 : (0 : Int32).toInt ≤ x0.toInt + 0 := q9pC (q9evZ w0) (q9evS ae0) (hL _ (List.mem_of_getElem? (i := 0) rfl))
  have L1 : (0 : Int32).toInt ≤ x1.toInt + 0 := q9pC (q9evZ w0) (q9evS ae1) (hL _ (List.mem_of_getElem? (i := 1) rfl))
  have V1 := q9pV (T := T) (N := N) (P := P) (J := J) (t0 := t0) (Sc := Sc) (op := 1050) (n := 6) (q9evS ae1) (q9evZ w0) (hV _ (List.mem_of_getElem? (i := 1) rfl)) (by decide)
  rw [q9FF_1050] at V1
  have K1 := q9chV_of V1
  try simp only [kz] at K1
  have X1 := q9th_pX (T := T) (N := N) (P := P) (J := J) (t0 := t0) (Sc := Sc) (op := 1420) (q9evS ae1) (q9evZ w0) (q9evS ae2) (hX _ (List.mem_of_getElem? (i := 1) rfl)) (by decide)
  rw [q9FF_1420] at X1
  have H1 := q9chV_of X1
  try simp only [kz] at H1
  have L2 : x2.toInt ≤ x4.toInt + (-1) := q9pC (q9evS ae2) (q9evS ae4) (hL _ (List.mem_of_getElem? (i := 2) rfl))
  have X2 := q9th_pX (T := T) (N := N) (P := P) (J := J) (t0 := t0) (Sc := Sc) (op := 1411) (q9evS ae0) (q9evS ae4) (q9evS ae3) (hX _ (List.mem_of_getElem? (i := 2) rfl)) (by decide)
  rw [q9FF_1411] at X2
  have H2 := Option.some.inj X2
  try simp only [kz] at H2
  have L3 : (0 : Int32).toInt ≤ x4.toInt + 0 := q9pC (q9evZ w0) (q9evS ae4) (hL _ (List.mem_of_getElem? (i := 3) rfl))
  obtain ⟨q, hq, hl⟩ := q9q_m H0
  have hl : q.1 = x1.toInt := hl
  obtain ⟨hf, ha, ho⟩ := q9q_of hq
  have W := q9plW_P hN.1 hf
  obtain ⟨⟨l1, l2, l3, l4⟩, ⟨l5, l6⟩, ⟨l7, l8, l9⟩, l10, l11, l12⟩ := q9q_ln hN.1 hf ha
  have hmr := q9mn_rng hN.1 hf l1 (show q.1 < szP T N P J by omega)
  have hk : x0.toInt - q.2.2.2.1 = 0 := q9q_r hq K0
  have hkd : kdP T N P J q.1 = 6 := q9kd_Q (by rw [hl]; exact K1)
  have hwh : whP T N P J q.1 = x2.toInt := q9wh_Q (by rw [hl]; exact H1)
  have a1 := q9ad32 (x := x0) (d := 1) (by omega)
  have hs := q9axO_st hN.1 hf (s := x0.toInt) (a := x4.toInt) ha (by omega) (.inr (by rw [hwh]; omega))
  have u_ : q9upN w 6 [] 0 = .int 0 := q9upN_of (by decide) w0
  have u0 : q9upN w 6 [] 1 = .int x0 := q9upN_of (by decide) ae0
  have u1 : q9upN w 6 [] 2 = .int x1 := q9upN_of (by decide) ae1
  have u2 : q9upN w 6 [] 3 = .int x2 := q9upN_of (by decide) ae2
  have u3 : q9upN w 6 [] 4 = .int x3 := q9upN_of (by decide) ae3
  have u4 : q9upN w 6 [] 5 = .int x4 := q9upN_of (by decide) ae4
  refine ⟨[], fun i9 p9 hq9 => ?_, List.forall_mem_cons.mpr ⟨?_, fun _ h => absurd h List.not_mem_nil⟩, fun _ h => absurd h List.not_mem_nil⟩
  · exact nomatch (show (none : Option (Nat × q9AV × q9AV × q9ET)) = some p9 from hq9)
  · exact q9th_tX (T := T) (N := N) (P := P) (J := J) (t0 := t0) (Sc := Sc) (q9evO u0 1) (q9evS u4) (q9evS u3) (by rw [q9FF_1411]; exact (by rw [a1, hs]; exact congrArg some H2)) (by decide)
theorem q9ru_cn1412l (hT : ∀ i, 0 ≤ T i ∧ T i ≤ 255) (hN : 0 ≤ N ∧ N ≤ 400) (hSc : 0 ≤ Sc 1 ∧ Sc 1 ≤ 400 → N = Sc 1) : q9ruOK (fO T N P J t0 Sc) q9R_cn1412l := by
  intro w w0 hA hX hL hV hR
  obtain ⟨x0, ae0, -, -⟩ := hA 0 0 rfl
  obtain ⟨x1, ae1, -, -⟩ := hA 1 0 rfl
  obtain ⟨x2, ae2, -, -⟩ := hA 2 0 rfl
  obtain ⟨x3, ae3, -, -⟩ := hA 3 0 rfl
  obtain ⟨x4, ae4, -, -⟩ := hA 4 0 rfl
  have kz : (0 : Int32).toInt = 0 := rfl
  have X0 := q9th_pX (T := T) (N := N) (P := P) (J := J) (t0 := t0) (Sc := Sc) (op := 1400) (q9evS ae0) (q9evZ w0) (q9evS ae1) (hX _ (List.mem_of_getElem? (i := 0) rfl)) (by decide)
  rw [q9FF_1400] at X0
  have H0 := X0
  try simp only [kz] at H0
  have V0 := q9pV (T := T) (N := N) (P := P) (J := J) (t0 := t0) (Sc := Sc) (op := 1402) (n := 0) (q9evS ae0) (q9evZ w0) (hV _ (List.mem_of_getElem? (i := 0) rfl)) (by decide)
  rw [q9FF_1402] at V0
  have K0 := id V0
  try simp only [kz] at K0
  have L0 : (0 : Int32).toInt ≤ x0.toInt + 0 := q9pC (q9evZ w0) (q9evS ae0) (hL _ (List.mem_of_getElem? (i := 0) rfl))
  have L1 : (0 : Int32).toInt ≤ x1.toInt + 0 := q9pC (q9evZ w0) (q9evS ae1) (hL _ (List.mem_of_getElem? (i := 1) rfl))
  have V1 := q9pV (T := T) (N := N) (P := P) (J := J) (t0 := t0) (Sc := Sc) (op := 1050) (n := 6) (q9evS ae1) (q9evZ w0) (hV _ (List.mem_of_getElem? (i := 1) rfl)) (by decide)
  rw [q9FF_1050] at V1
  have K1 := q9chV_of V1
  try simp only [kz] at K1
  have X1 := q9th_pX (T := T) (N := N) (P := P) (J := J) (t0 := t0) (Sc := Sc) (op := 1420) (q9evS ae1) (q9evZ w0) (q9evS ae2) (hX _ (List.mem_of_getElem? (i := 1) rfl)) (by decide)
  rw [q9FF_1420] at X1
  have H1 := q9chV_of X1
  try simp only [kz] at H1
  have L2 : x4.toInt ≤ x2.toInt + (-1) := q9pC (q9evS ae4) (q9evS ae2) (hL _ (List.mem_of_getElem? (i := 2) rfl))
  have X2 := q9th_pX (T := T) (N := N) (P := P) (J := J) (t0 := t0) (Sc := Sc) (op := 1412) (q9evS ae0) (q9evS ae4) (q9evS ae3) (hX _ (List.mem_of_getElem? (i := 2) rfl)) (by decide)
  rw [q9FF_1412] at X2
  have H2 := Option.some.inj X2
  try simp only [kz] at H2
  have L3 : (0 : Int32).toInt ≤ x4.toInt + 0 := q9pC (q9evZ w0) (q9evS ae4) (hL _ (List.mem_of_getElem? (i := 3) rfl))
  obtain ⟨q, hq, hl⟩ := q9q_m H0
  have hl : q.1 = x1.toInt := hl
  obtain ⟨hf, ha, ho⟩ := q9q_of hq
  have W := q9plW_P hN.1 hf
  obtain ⟨⟨l1, l2, l3, l4⟩, ⟨l5, l6⟩, ⟨l7, l8, l9⟩, l10, l11, l12⟩ := q9q_ln hN.1 hf ha
  have hmr := q9mn_rng hN.1 hf l1 (show q.1 < szP T N P J by omega)
  have hk : x0.toInt - q.2.2.2.1 = 0 := q9q_r hq K0
  have hkd : kdP T N P J q.1 = 6 := q9kd_Q (by rw [hl]; exact K1)
  have hwh : whP T N P J q.1 = x2.toInt := q9wh_Q (by rw [hl]; exact H1)
  have a1 := q9ad32 (x := x0) (d := 1) (by omega)
  have hs := q9axO_st hN.1 hf (s := x0.toInt) (a := x4.toInt) ha (by omega) (.inr (by rw [hwh]; omega))
  have u_ : q9upN w 6 [] 0 = .int 0 := q9upN_of (by decide) w0
  have u0 : q9upN w 6 [] 1 = .int x0 := q9upN_of (by decide) ae0
  have u1 : q9upN w 6 [] 2 = .int x1 := q9upN_of (by decide) ae1
  have u2 : q9upN w 6 [] 3 = .int x2 := q9upN_of (by decide) ae2
  have u3 : q9upN w 6 [] 4 = .int x3 := q9upN_of (by decide) ae3
  have u4 : q9upN w 6 [] 5 = .int x4 := q9upN_of (by decide) ae4
  refine ⟨[], fun i9 p9 hq9 => ?_, List.forall_mem_cons.mpr ⟨?_, fun _ h => absurd h List.not_mem_nil⟩, fun _ h => absurd h List.not_mem_nil⟩
  · exact nomatch (show (none : Option (Nat × q9AV × q9AV × q9ET)) = some p9 from hq9)
  · exact q9th_tX (T := T) (N := N) (P := P) (J := J) (t0 := t0) (Sc := Sc) (q9evO u0 1) (q9evS u4) (q9evS u3) (by rw [q9FF_1412]; exact (by rw [a1, hs]; exact congrArg some H2)) (by decide)
theorem q9ru_cn1412h (hT : ∀ i, 0 ≤ T i ∧ T i ≤ 255) (hN : 0 ≤ N ∧ N ≤ 400) (hSc : 0 ≤ Sc 1 ∧ Sc 1 ≤ 400 → N = Sc 1) : q9ruOK (fO T N P J t0 Sc) q9R_cn1412h := by
  intro w w0 hA hX hL hV hR
  obtain ⟨x0, ae0, -, -⟩ := hA 0 0 rfl
  obtain ⟨x1, ae1, -, -⟩ := hA 1 0 rfl
  obtain ⟨x2, ae2, -, -⟩ := hA 2 0 rfl
  obtain ⟨x3, ae3, -, -⟩ := hA 3 0 rfl
  obtain ⟨x4, ae4, -, -⟩ := hA 4 0 rfl
  have kz : (0 : Int32).toInt = 0 := rfl
  have X0 := q9th_pX (T := T) (N := N) (P := P) (J := J) (t0 := t0) (Sc := Sc) (op := 1400) (q9evS ae0) (q9evZ w0) (q9evS ae1) (hX _ (List.mem_of_getElem? (i := 0) rfl)) (by decide)
  rw [q9FF_1400] at X0
  have H0 := X0
  try simp only [kz] at H0
  have V0 := q9pV (T := T) (N := N) (P := P) (J := J) (t0 := t0) (Sc := Sc) (op := 1402) (n := 0) (q9evS ae0) (q9evZ w0) (hV _ (List.mem_of_getElem? (i := 0) rfl)) (by decide)
  rw [q9FF_1402] at V0
  have K0 := id V0
  try simp only [kz] at K0
  have L0 : (0 : Int32).toInt ≤ x0.toInt + 0 := q9pC (q9evZ w0) (q9evS ae0) (hL _ (List.mem_of_getElem? (i := 0) rfl))
  have L1 : (0 : Int32).toInt ≤ x1.toInt + 0 := q9pC (q9evZ w0) (q9evS ae1) (hL _ (List.mem_of_getElem? (i := 1) rfl))
  have V1 := q9pV (T := T) (N := N) (P := P) (J := J) (t0 := t0) (Sc := Sc) (op := 1050) (n := 6) (q9evS ae1) (q9evZ w0) (hV _ (List.mem_of_getElem? (i := 1) rfl)) (by decide)
  rw [q9FF_1050] at V1
  have K1 := q9chV_of V1
  try simp only [kz] at K1
  have X1 := q9th_pX (T := T) (N := N) (P := P) (J := J) (t0 := t0) (Sc := Sc) (op := 1420) (q9evS ae1) (q9evZ w0) (q9evS ae2) (hX _ (List.mem_of_getElem? (i := 1) rfl)) (by decide)
  rw [q9FF_1420] at X1
  have H1 := q9chV_of X1
  try simp only [kz] at H1
  have L2 : x2.toInt ≤ x4.toInt + (-1) := q9pC (q9evS ae2) (q9evS ae4) (hL _ (List.mem_of_getElem? (i := 2) rfl))
  have X2 := q9th_pX (T := T) (N := N) (P := P) (J := J) (t0 := t0) (Sc := Sc) (op := 1412) (q9evS ae0) (q9evS ae4) (q9evS ae3) (hX _ (List.mem_of_getElem? (i := 2) rfl)) (by decide)
  rw [q9FF_1412] at X2
  have H2 := Option.some.inj X2
  try simp only [kz] at H2
  have L3 : (0 : Int32).toInt ≤ x4.toInt + 0 := q9pC (q9evZ w0) (q9evS ae4) (hL _ (List.mem_of_getElem? (i := 3) rfl))
  obtain ⟨q, hq, hl⟩ := q9q_m H0
  have hl : q.1 = x1.toInt := hl
  obtain ⟨hf, ha, ho⟩ := q9q_of hq
  have W := q9plW_P hN.1 hf
  obtain ⟨⟨l1, l2, l3, l4⟩, ⟨l5, l6⟩, ⟨l7, l8, l9⟩, l10, l11, l12⟩ := q9q_ln hN.1 hf ha
  have hmr := q9mn_rng hN.1 hf l1 (show q.1 < szP T N P J by omega)
  have hk : x0.toInt - q.2.2.2.1 = 0 := q9q_r hq K0
  have hkd : kdP T N P J q.1 = 6 := q9kd_Q (by rw [hl]; exact K1)
  have hwh : whP T N P J q.1 = x2.toInt := q9wh_Q (by rw [hl]; exact H1)
  have a1 := q9ad32 (x := x0) (d := 1) (by omega)
  have hs := q9axO_st hN.1 hf (s := x0.toInt) (a := x4.toInt) ha (by omega) (.inr (by rw [hwh]; omega))
  have u_ : q9upN w 6 [] 0 = .int 0 := q9upN_of (by decide) w0
  have u0 : q9upN w 6 [] 1 = .int x0 := q9upN_of (by decide) ae0
  have u1 : q9upN w 6 [] 2 = .int x1 := q9upN_of (by decide) ae1
  have u2 : q9upN w 6 [] 3 = .int x2 := q9upN_of (by decide) ae2
  have u3 : q9upN w 6 [] 4 = .int x3 := q9upN_of (by decide) ae3
  have u4 : q9upN w 6 [] 5 = .int x4 := q9upN_of (by decide) ae4
  refine ⟨[], fun i9 p9 hq9 => ?_, List.forall_mem_cons.mpr ⟨?_, fun _ h => absurd h List.not_mem_nil⟩, fun _ h => absurd h List.not_mem_nil⟩
  · exact nomatch (show (none : Option (Nat × q9AV × q9AV × q9ET)) = some p9 from hq9)
  · exact q9th_tX (T := T) (N := N) (P := P) (J := J) (t0 := t0) (Sc := Sc) (q9evO u0 1) (q9evS u4) (q9evS u3) (by rw [q9FF_1412]; exact (by rw [a1, hs]; exact congrArg some H2)) (by decide)
theorem q9ru_cn1413l (hT : ∀ i, 0 ≤ T i ∧ T i ≤ 255) (hN : 0 ≤ N ∧ N ≤ 400) (hSc : 0 ≤ Sc 1 ∧ Sc 1 ≤ 400 → N = Sc 1) : q9ruOK (fO T N P J t0 Sc) q9R_cn1413l := by
  intro w w0 hA hX hL hV hR
  obtain ⟨x0, ae0, -, -⟩ := hA 0 0 rfl
  obtain ⟨x1, ae1, -, -⟩ := hA 1 0 rfl
  obtain ⟨x2, ae2, -, -⟩ := hA 2 0 rfl
  obtain ⟨x3, ae3, -, -⟩ := hA 3 0 rfl
  obtain ⟨x4, ae4, -, -⟩ := hA 4 0 rfl
  have kz : (0 : Int32).toInt = 0 := rfl
  have X0 := q9th_pX (T := T) (N := N) (P := P) (J := J) (t0 := t0) (Sc := Sc) (op := 1400) (q9evS ae0) (q9evZ w0) (q9evS ae1) (hX _ (List.mem_of_getElem? (i := 0) rfl)) (by decide)
  rw [q9FF_1400] at X0
  have H0 := X0
  try simp only [kz] at H0
  have V0 := q9pV (T := T) (N := N) (P := P) (J := J) (t0 := t0) (Sc := Sc) (op := 1402) (n := 0) (q9evS ae0) (q9evZ w0) (hV _ (List.mem_of_getElem? (i := 0) rfl)) (by decide)
  rw [q9FF_1402] at V0
  have K0 := id V0
  try simp only [kz] at K0
  have L0 : (0 : Int32).toInt ≤ x0.toInt + 0 := q9pC (q9evZ w0) (q9evS ae0) (hL _ (List.mem_of_getElem? (i := 0) rfl))
  have L1 : (0 : Int32).toInt ≤ x1.toInt + 0 := q9pC (q9evZ w0) (q9evS ae1) (hL _ (List.mem_of_getElem? (i := 1) rfl))
  have V1 := q9pV (T := T) (N := N) (P := P) (J := J) (t0 := t0) (Sc := Sc) (op := 1050) (n := 6) (q9evS ae1) (q9evZ w0) (hV _ (List.mem_of_getElem? (i := 1) rfl)) (by decide)
  rw [q9FF_1050] at V1
  have K1 := q9chV_of V1
  try simp only [kz] at K1
  have X1 := q9th_pX (T := T) (N := N) (P := P) (J := J) (t0 := t0) (Sc := Sc) (op := 1420) (q9evS ae1) (q9evZ w0) (q9evS ae2) (hX _ (List.mem_of_getElem? (i := 1) rfl)) (by decide)
  rw [q9FF_1420] at X1
  have H1 := q9chV_of X1
  try simp only [kz] at H1
  have L2 : x4.toInt ≤ x2.toInt + (-1) := q9pC (q9evS ae4) (q9evS ae2) (hL _ (List.mem_of_getElem? (i := 2) rfl))
  have X2 := q9th_pX (T := T) (N := N) (P := P) (J := J) (t0 := t0) (Sc := Sc) (op := 1413) (q9evS ae0) (q9evS ae4) (q9evS ae3) (hX _ (List.mem_of_getElem? (i := 2) rfl)) (by decide)
  rw [q9FF_1413] at X2
  have H2 := Option.some.inj X2
  try simp only [kz] at H2
  have L3 : (0 : Int32).toInt ≤ x4.toInt + 0 := q9pC (q9evZ w0) (q9evS ae4) (hL _ (List.mem_of_getElem? (i := 3) rfl))
  obtain ⟨q, hq, hl⟩ := q9q_m H0
  have hl : q.1 = x1.toInt := hl
  obtain ⟨hf, ha, ho⟩ := q9q_of hq
  have W := q9plW_P hN.1 hf
  obtain ⟨⟨l1, l2, l3, l4⟩, ⟨l5, l6⟩, ⟨l7, l8, l9⟩, l10, l11, l12⟩ := q9q_ln hN.1 hf ha
  have hmr := q9mn_rng hN.1 hf l1 (show q.1 < szP T N P J by omega)
  have hk : x0.toInt - q.2.2.2.1 = 0 := q9q_r hq K0
  have hkd : kdP T N P J q.1 = 6 := q9kd_Q (by rw [hl]; exact K1)
  have hwh : whP T N P J q.1 = x2.toInt := q9wh_Q (by rw [hl]; exact H1)
  have a1 := q9ad32 (x := x0) (d := 1) (by omega)
  have hs := q9axO_st hN.1 hf (s := x0.toInt) (a := x4.toInt) ha (by omega) (.inr (by rw [hwh]; omega))
  have u_ : q9upN w 6 [] 0 = .int 0 := q9upN_of (by decide) w0
  have u0 : q9upN w 6 [] 1 = .int x0 := q9upN_of (by decide) ae0
  have u1 : q9upN w 6 [] 2 = .int x1 := q9upN_of (by decide) ae1
  have u2 : q9upN w 6 [] 3 = .int x2 := q9upN_of (by decide) ae2
  have u3 : q9upN w 6 [] 4 = .int x3 := q9upN_of (by decide) ae3
  have u4 : q9upN w 6 [] 5 = .int x4 := q9upN_of (by decide) ae4
  refine ⟨[], fun i9 p9 hq9 => ?_, List.forall_mem_cons.mpr ⟨?_, fun _ h => absurd h List.not_mem_nil⟩, fun _ h => absurd h List.not_mem_nil⟩
  · exact nomatch (show (none : Option (Nat × q9AV × q9AV × q9ET)) = some p9 from hq9)
  · exact q9th_tX (T := T) (N := N) (P := P) (J := J) (t0 := t0) (Sc := Sc) (q9evO u0 1) (q9evS u4) (q9evS u3) (by rw [q9FF_1413]; exact (by rw [a1, hs]; exact congrArg some H2)) (by decide)
theorem q9ru_cn1413h (hT : ∀ i, 0 ≤ T i ∧ T i ≤ 255) (hN : 0 ≤ N ∧ N ≤ 400) (hSc : 0 ≤ Sc 1 ∧ Sc 1 ≤ 400 → N = Sc 1) : q9ruOK (fO T N P J t0 Sc) q9R_cn1413h := by
  intro w w0 hA hX hL hV hR
  obtain ⟨x0, ae0, -, -⟩ := hA 0 0 rfl
  obtain ⟨x1, ae1, -, -⟩ := hA 1 0 rfl
  obtain ⟨x2, ae2, -, -⟩ := hA 2 0 rfl
  obtain ⟨x3, ae3, -, -⟩ := hA 3 0 rfl
  obtain ⟨x4, ae4, -, -⟩ := hA 4 0 rfl
  have kz : (0 : Int32).toInt = 0 := rfl
  have X0 := q9th_pX (T := T) (N := N) (P := P) (J := J) (t0 := t0) (Sc := Sc) (op := 1400) (q9evS ae0) (q9evZ w0) (q9evS ae1) (hX _ (List.mem_of_getElem? (i := 0) rfl)) (by decide)
  rw [q9FF_1400] at X0
  have H0 := X0
  try simp only [kz] at H0
  have V0 := q9pV (T := T) (N := N) (P := P) (J := J) (t0 := t0) (Sc := Sc) (op := 1402) (n := 0) (q9evS ae0) (q9evZ w0) (hV _ (List.mem_of_getElem? (i := 0) rfl)) (by decide)
  rw [q9FF_1402] at V0
  have K0 := id V0
  try simp only [kz] at K0
  have L0 : (0 : Int32).toInt ≤ x0.toInt + 0 := q9pC (q9evZ w0) (q9evS ae0) (hL _ (List.mem_of_getElem? (i := 0) rfl))
  have L1 : (0 : Int32).toInt ≤ x1.toInt + 0 := q9pC (q9evZ w0) (q9evS ae1) (hL _ (List.mem_of_getElem? (i := 1) rfl))
  have V1 := q9pV (T := T) (N := N) (P := P) (J := J) (t0 := t0) (Sc := Sc) (op := 1050) (n := 6) (q9evS ae1) (q9evZ w0) (hV _ (List.mem_of_getElem? (i := 1) rfl)) (by decide)
  rw [q9FF_1050] at V1
  have K1 := q9chV_of V1
  try simp only [kz] at K1
  have X1 := q9th_pX (T := T) (N := N) (P := P) (J := J) (t0 := t0) (Sc := Sc) (op := 1420) (q9evS ae1) (q9evZ w0) (q9evS ae2) (hX _ (List.mem_of_getElem? (i := 1) rfl)) (by decide)
  rw [q9FF_1420] at X1
  have H1 := q9chV_of X1
  try simp only [kz] at H1
  have L2 : x2.toInt ≤ x4.toInt + (-1) := q9pC (q9evS ae2) (q9evS ae4) (hL _ (List.mem_of_getElem? (i := 2) rfl))
  have X2 := q9th_pX (T := T) (N := N) (P := P) (J := J) (t0 := t0) (Sc := Sc) (op := 1413) (q9evS ae0) (q9evS ae4) (q9evS ae3) (hX _ (List.mem_of_getElem? (i := 2) rfl)) (by decide)
  rw [q9FF_1413] at X2
  have H2 := Option.some.inj X2
  try simp only [kz] at H2
  have L3 : (0 : Int32).toInt ≤ x4.toInt + 0 := q9pC (q9evZ w0) (q9evS ae4) (hL _ (List.mem_of_getElem? (i := 3) rfl))
  obtain ⟨q, hq, hl⟩ := q9q_m H0
  have hl : q.1 = x1.toInt := hl
  obtain ⟨hf, ha, ho⟩ := q9q_of hq
  have W := q9plW_P hN.1 hf
  obtain ⟨⟨l1, l2, l3, l4⟩, ⟨l5, l6⟩, ⟨l7, l8, l9⟩, l10, l11, l12⟩ := q9q_ln hN.1 hf ha
  have hmr := q9mn_rng hN.1 hf l1 (show q.1 < szP T N P J by omega)
  have hk : x0.toInt - q.2.2.2.1 = 0 := q9q_r hq K0
  have hkd : kdP T N P J q.1 = 6 := q9kd_Q (by rw [hl]; exact K1)
  have hwh : whP T N P J q.1 = x2.toInt := q9wh_Q (by rw [hl]; exact H1)
  have a1 := q9ad32 (x := x0) (d := 1) (by omega)
  have hs := q9axO_st hN.1 hf (s := x0.toInt) (a := x4.toInt) ha (by omega) (.inr (by rw [hwh]; omega))
  have u_ : q9upN w 6 [] 0 = .int 0 := q9upN_of (by decide) w0
  have u0 : q9upN w 6 [] 1 = .int x0 := q9upN_of (by decide) ae0
  have u1 : q9upN w 6 [] 2 = .int x1 := q9upN_of (by decide) ae1
  have u2 : q9upN w 6 [] 3 = .int x2 := q9upN_of (by decide) ae2
  have u3 : q9upN w 6 [] 4 = .int x3 := q9upN_of (by decide) ae3
  have u4 : q9upN w 6 [] 5 = .int x4 := q9upN_of (by decide) ae4
  refine ⟨[], fun i9 p9 hq9 => ?_, List.forall_mem_cons.mpr ⟨?_, fun _ h => absurd h List.not_mem_nil⟩, fun _ h => absurd h List.not_mem_nil⟩
  · exact nomatch (show (none : Option (Nat × q9AV × q9AV × q9ET)) = some p9 from hq9)
  · exact q9th_tX (T := T) (N := N) (P := P) (J := J) (t0 := t0) (Sc := Sc) (q9evO u0 1) (q9evS u4) (q9evS u3) (by rw [q9FF_1413]; exact (by rw [a1, hs]; exact congrArg some H2)) (by decide)
theorem q9ru_cn1414l (hT : ∀ i, 0 ≤ T i ∧ T i ≤ 255) (hN : 0 ≤ N ∧ N ≤ 400) (hSc : 0 ≤ Sc 1 ∧ Sc 1 ≤ 400 → N = Sc 1) : q9ruOK (fO T N P J t0 Sc) q9R_cn1414l := by
  intro w w0 hA hX hL hV hR
  obtain ⟨x0, ae0, -, -⟩ := hA 0 0 rfl
  obtain ⟨x1, ae1, -, -⟩ := hA 1 0 rfl
  obtain ⟨x2, ae2, -, -⟩ := hA 2 0 rfl
  obtain ⟨x3, ae3, -, -⟩ := hA 3 0 rfl
  obtain ⟨x4, ae4, -, -⟩ := hA 4 0 rfl
  have kz : (0 : Int32).toInt = 0 := rfl
  have X0 := q9th_pX (T := T) (N := N) (P := P) (J := J) (t0 := t0) (Sc := Sc) (op := 1400) (q9evS ae0) (q9evZ w0) (q9evS ae1) (hX _ (List.mem_of_getElem? (i := 0) rfl)) (by decide)
  rw [q9FF_1400] at X0
  have H0 := X0
  try simp only [kz] at H0
  have V0 := q9pV (T := T) (N := N) (P := P) (J := J) (t0 := t0) (Sc := Sc) (op := 1402) (n := 0) (q9evS ae0) (q9evZ w0) (hV _ (List.mem_of_getElem? (i := 0) rfl)) (by decide)
  rw [q9FF_1402] at V0
  have K0 := id V0
  try simp only [kz] at K0
  have L0 : (0 : Int32).toInt ≤ x0.toInt + 0 := q9pC (q9evZ w0) (q9evS ae0) (hL _ (List.mem_of_getElem? (i := 0) rfl))
  have L1 : (0 : Int32).toInt ≤ x1.toInt + 0 := q9pC (q9evZ w0) (q9evS ae1) (hL _ (List.mem_of_getElem? (i := 1) rfl))
  have V1 := q9pV (T := T) (N := N) (P := P) (J := J) (t0 := t0) (Sc := Sc) (op := 1050) (n := 6) (q9evS ae1) (q9evZ w0) (hV _ (List.mem_of_getElem? (i := 1) rfl)) (by decide)
  rw [q9FF_1050] at V1
  have K1 := q9chV_of V1
  try simp only [kz] at K1
  have X1 := q9th_pX (T := T) (N := N) (P := P) (J := J) (t0 := t0) (Sc := Sc) (op := 1420) (q9evS ae1) (q9evZ w0) (q9evS ae2) (hX _ (List.mem_of_getElem? (i := 1) rfl)) (by decide)
  rw [q9FF_1420] at X1
  have H1 := q9chV_of X1
  try simp only [kz] at H1
  have L2 : x4.toInt ≤ x2.toInt + (-1) := q9pC (q9evS ae4) (q9evS ae2) (hL _ (List.mem_of_getElem? (i := 2) rfl))
  have X2 := q9th_pX (T := T) (N := N) (P := P) (J := J) (t0 := t0) (Sc := Sc) (op := 1414) (q9evS ae0) (q9evS ae4) (q9evS ae3) (hX _ (List.mem_of_getElem? (i := 2) rfl)) (by decide)
  rw [q9FF_1414] at X2
  have H2 := Option.some.inj X2
  try simp only [kz] at H2
  have L3 : (0 : Int32).toInt ≤ x4.toInt + 0 := q9pC (q9evZ w0) (q9evS ae4) (hL _ (List.mem_of_getElem? (i := 3) rfl))
  obtain ⟨q, hq, hl⟩ := q9q_m H0
  have hl : q.1 = x1.toInt := hl
  obtain ⟨hf, ha, ho⟩ := q9q_of hq
  have W := q9plW_P hN.1 hf
  obtain ⟨⟨l1, l2, l3, l4⟩, ⟨l5, l6⟩, ⟨l7, l8, l9⟩, l10, l11, l12⟩ := q9q_ln hN.1 hf ha
  have hmr := q9mn_rng hN.1 hf l1 (show q.1 < szP T N P J by omega)
  have hk : x0.toInt - q.2.2.2.1 = 0 := q9q_r hq K0
  have hkd : kdP T N P J q.1 = 6 := q9kd_Q (by rw [hl]; exact K1)
  have hwh : whP T N P J q.1 = x2.toInt := q9wh_Q (by rw [hl]; exact H1)
  have a1 := q9ad32 (x := x0) (d := 1) (by omega)
  have hs := q9axO_st hN.1 hf (s := x0.toInt) (a := x4.toInt) ha (by omega) (.inr (by rw [hwh]; omega))
  have u_ : q9upN w 6 [] 0 = .int 0 := q9upN_of (by decide) w0
  have u0 : q9upN w 6 [] 1 = .int x0 := q9upN_of (by decide) ae0
  have u1 : q9upN w 6 [] 2 = .int x1 := q9upN_of (by decide) ae1
  have u2 : q9upN w 6 [] 3 = .int x2 := q9upN_of (by decide) ae2
  have u3 : q9upN w 6 [] 4 = .int x3 := q9upN_of (by decide) ae3
  have u4 : q9upN w 6 [] 5 = .int x4 := q9upN_of (by decide) ae4
  refine ⟨[], fun i9 p9 hq9 => ?_, List.forall_mem_cons.mpr ⟨?_, fun _ h => absurd h List.not_mem_nil⟩, fun _ h => absurd h List.not_mem_nil⟩
  · exact nomatch (show (none : Option (Nat × q9AV × q9AV × q9ET)) = some p9 from hq9)
  · exact q9th_tX (T := T) (N := N) (P := P) (J := J) (t0 := t0) (Sc := Sc) (q9evO u0 1) (q9evS u4) (q9evS u3) (by rw [q9FF_1414]; exact (by rw [a1, hs]; exact congrArg some H2)) (by decide)
theorem q9ru_cn1414h (hT : ∀ i, 0 ≤ T i ∧ T i ≤ 255) (hN : 0 ≤ N ∧ N ≤ 400) (hSc : 0 ≤ Sc 1 ∧ Sc 1 ≤ 400 → N = Sc 1) : q9ruOK (fO T N P J t0 Sc) q9R_cn1414h := by
  intro w w0 hA hX hL hV hR
  obtain ⟨x0, ae0, -, -⟩ := hA 0 0 rfl
  obtain ⟨x1, ae1, -, -⟩ := hA 1 0 rfl
  obtain ⟨x2, ae2, -, -⟩ := hA 2 0 rfl
  obtain ⟨x3, ae3, -, -⟩ := hA 3 0 rfl
  obtain ⟨x4, ae4, -, -⟩ := hA 4 0 rfl
  have kz : (0 : Int32).toInt = 0 := rfl
  have X0 := q9th_pX (T := T) (N := N) (P := P) (J := J) (t0 := t0) (Sc := Sc) (op := 1400) (q9evS ae0) (q9evZ w0) (q9evS ae1) (hX _ (List.mem_of_getElem? (i := 0) rfl)) (by decide)
  rw [q9FF_1400] at X0
  have H0 := X0
  try simp only [kz] at H0
  have V0 := q9pV (T := T) (N := N) (P := P) (J := J) (t0 := t0) (Sc := Sc) (op := 1402) (n := 0) (q9evS ae0) (q9evZ w0) (hV _ (List.mem_of_getElem? (i := 0) rfl)) (by decide)
  rw [q9FF_1402] at V0
  have K0 := id V0
  try simp only [kz] at K0
  have L0 : (0 : Int32).toInt ≤ x0.toInt + 0 := q9pC (q9evZ w0) (q9evS ae0) (hL _ (List.mem_of_getElem? (i := 0) rfl))
  have L1 : (0 : Int32).toInt ≤ x1.toInt + 0 := q9pC (q9evZ w0) (q9evS ae1) (hL _ (List.mem_of_getElem? (i := 1) rfl))
  have V1 := q9pV (T := T) (N := N) (P := P) (J := J) (t0 := t0) (Sc := Sc) (op := 1050) (n := 6) (q9evS ae1) (q9evZ w0) (hV _ (List.mem_of_getElem? (i := 1) rfl)) (by decide)
  rw [q9FF_1050] at V1
  have K1 := q9chV_of V1
  try simp only [kz] at K1
  have X1 := q9th_pX (T := T) (N := N) (P := P) (J := J) (t0 := t0) (Sc := Sc) (op := 1420) (q9evS ae1) (q9evZ w0) (q9evS ae2) (hX _ (List.mem_of_getElem? (i := 1) rfl)) (by decide)
  rw [q9FF_1420] at X1
  have H1 := q9chV_of X1
  try simp only [kz] at H1
  have L2 : x2.toInt ≤ x4.toInt + (-1) := q9pC (q9evS ae2) (q9evS ae4) (hL _ (List.mem_of_getElem? (i := 2) rfl))
  have X2 := q9th_pX (T := T) (N := N) (P := P) (J := J) (t0 := t0) (Sc := Sc) (op := 1414) (q9evS ae0) (q9evS ae4) (q9evS ae3) (hX _ (List.mem_of_getElem? (i := 2) rfl)) (by decide)
  rw [q9FF_1414] at X2
  have H2 := Option.some.inj X2
  try simp only [kz] at H2
  have L3 : (0 : Int32).toInt ≤ x4.toInt + 0 := q9pC (q9evZ w0) (q9evS ae4) (hL _ (List.mem_of_getElem? (i := 3) rfl))
  obtain ⟨q, hq, hl⟩ := q9q_m H0
  have hl : q.1 = x1.toInt := hl
  obtain ⟨hf, ha, ho⟩ := q9q_of hq
  have W := q9plW_P hN.1 hf
  obtain ⟨⟨l1, l2, l3, l4⟩, ⟨l5, l6⟩, ⟨l7, l8, l9⟩, l10, l11, l12⟩ := q9q_ln hN.1 hf ha
  have hmr := q9mn_rng hN.1 hf l1 (show q.1 < szP T N P J by omega)
  have hk : x0.toInt - q.2.2.2.1 = 0 := q9q_r hq K0
  have hkd : kdP T N P J q.1 = 6 := q9kd_Q (by rw [hl]; exact K1)
  have hwh : whP T N P J q.1 = x2.toInt := q9wh_Q (by rw [hl]; exact H1)
  have a1 := q9ad32 (x := x0) (d := 1) (by omega)
  have hs := q9axO_st hN.1 hf (s := x0.toInt) (a := x4.toInt) ha (by omega) (.inr (by rw [hwh]; omega))
  have u_ : q9upN w 6 [] 0 = .int 0 := q9upN_of (by decide) w0
  have u0 : q9upN w 6 [] 1 = .int x0 := q9upN_of (by decide) ae0
  have u1 : q9upN w 6 [] 2 = .int x1 := q9upN_of (by decide) ae1
  have u2 : q9upN w 6 [] 3 = .int x2 := q9upN_of (by decide) ae2
  have u3 : q9upN w 6 [] 4 = .int x3 := q9upN_of (by decide) ae3
  have u4 : q9upN w 6 [] 5 = .int x4 := q9upN_of (by decide) ae4
  refine ⟨[], fun i9 p9 hq9 => ?_, List.forall_mem_cons.mpr ⟨?_, fun _ h => absurd h List.not_mem_nil⟩, fun _ h => absurd h List.not_mem_nil⟩
  · exact nomatch (show (none : Option (Nat × q9AV × q9AV × q9ET)) = some p9 from hq9)
  · exact q9th_tX (T := T) (N := N) (P := P) (J := J) (t0 := t0) (Sc := Sc) (q9evO u0 1) (q9evS u4) (q9evS u3) (by rw [q9FF_1414]; exact (by rw [a1, hs]; exact congrArg some H2)) (by decide)
theorem q9ru_cn1415l (hT : ∀ i, 0 ≤ T i ∧ T i ≤ 255) (hN : 0 ≤ N ∧ N ≤ 400) (hSc : 0 ≤ Sc 1 ∧ Sc 1 ≤ 400 → N = Sc 1) : q9ruOK (fO T N P J t0 Sc) q9R_cn1415l := by
  intro w w0 hA hX hL hV hR
  obtain ⟨x0, ae0, -, -⟩ := hA 0 0 rfl
  obtain ⟨x1, ae1, -, -⟩ := hA 1 0 rfl
  obtain ⟨x2, ae2, -, -⟩ := hA 2 0 rfl
  obtain ⟨x3, ae3, -, -⟩ := hA 3 0 rfl
  obtain ⟨x4, ae4, -, -⟩ := hA 4 0 rfl
  have kz : (0 : Int32).toInt = 0 := rfl
  have X0 := q9th_pX (T := T) (N := N) (P := P) (J := J) (t0 := t0) (Sc := Sc) (op := 1400) (q9evS ae0) (q9evZ w0) (q9evS ae1) (hX _ (List.mem_of_getElem? (i := 0) rfl)) (by decide)
  rw [q9FF_1400] at X0
  have H0 := X0
  try simp only [kz] at H0
  have V0 := q9pV (T := T) (N := N) (P := P) (J := J) (t0 := t0) (Sc := Sc) (op := 1402) (n := 0) (q9evS ae0) (q9evZ w0) (hV _ (List.mem_of_getElem? (i := 0) rfl)) (by decide)
  rw [q9FF_1402] at V0
  have K0 := id V0
  try simp only [kz] at K0
  have L0 : (0 : Int32).toInt ≤ x0.toInt + 0 := q9pC (q9evZ w0) (q9evS ae0) (hL _ (List.mem_of_getElem? (i := 0) rfl))
  have L1 : (0 : Int32).toInt ≤ x1.toInt + 0 := q9pC (q9evZ w0) (q9evS ae1) (hL _ (List.mem_of_getElem? (i := 1) rfl))
  have V1 := q9pV (T := T) (N := N) (P := P) (J := J) (t0 := t0) (Sc := Sc) (op := 1050) (n := 6) (q9evS ae1) (q9evZ w0) (hV _ (List.mem_of_getElem? (i := 1) rfl)) (by decide)
  rw [q9FF_1050] at V1
  have K1 := q9chV_of V1
  try simp only [kz] at K1
  have X1 := q9th_pX (T := T) (N := N) (P := P) (J := J) (t0 := t0) (Sc := Sc) (op := 1420) (q9evS ae1) (q9evZ w0) (q9evS ae2) (hX _ (List.mem_of_getElem? (i := 1) rfl)) (by decide)
  rw [q9FF_1420] at X1
  have H1 := q9chV_of X1
  try simp only [kz] at H1
  have L2 : x4.toInt ≤ x2.toInt + (-1) := q9pC (q9evS ae4) (q9evS ae2) (hL _ (List.mem_of_getElem? (i := 2) rfl))
  have X2 := q9th_pX (T := T) (N := N) (P := P) (J := J) (t0 := t0) (Sc := Sc) (op := 1415) (q9evS ae0) (q9evS ae4) (q9evS ae3) (hX _ (List.mem_of_getElem? (i := 2) rfl)) (by decide)
  rw [q9FF_1415] at X2
  have H2 := Option.some.inj X2
  try simp only [kz] at H2
  have L3 : (0 : Int32).toInt ≤ x4.toInt + 0 := q9pC (q9evZ w0) (q9evS ae4) (hL _ (List.mem_of_getElem? (i := 3) rfl))
  obtain ⟨q, hq, hl⟩ := q9q_m H0
  have hl : q.1 = x1.toInt := hl
  obtain ⟨hf, ha, ho⟩ := q9q_of hq
  have W := q9plW_P hN.1 hf
  obtain ⟨⟨l1, l2, l3, l4⟩, ⟨l5, l6⟩, ⟨l7, l8, l9⟩, l10, l11, l12⟩ := q9q_ln hN.1 hf ha
  have hmr := q9mn_rng hN.1 hf l1 (show q.1 < szP T N P J by omega)
  have hk : x0.toInt - q.2.2.2.1 = 0 := q9q_r hq K0
  have hkd : kdP T N P J q.1 = 6 := q9kd_Q (by rw [hl]; exact K1)
  have hwh : whP T N P J q.1 = x2.toInt := q9wh_Q (by rw [hl]; exact H1)
  have a1 := q9ad32 (x := x0) (d := 1) (by omega)
  have hs := q9axO_st hN.1 hf (s := x0.toInt) (a := x4.toInt) ha (by omega) (.inr (by rw [hwh]; omega))
  have u_ : q9upN w 6 [] 0 = .int 0 := q9upN_of (by decide) w0
  have u0 : q9upN w 6 [] 1 = .int x0 := q9upN_of (by decide) ae0
  have u1 : q9upN w 6 [] 2 = .int x1 := q9upN_of (by decide) ae1
  have u2 : q9upN w 6 [] 3 = .int x2 := q9upN_of (by decide) ae2
  have u3 : q9upN w 6 [] 4 = .int x3 := q9upN_of (by decide) ae3
  have u4 : q9upN w 6 [] 5 = .int x4 := q9upN_of (by decide) ae4
  refine ⟨[], fun i9 p9 hq9 => ?_, List.forall_mem_cons.mpr ⟨?_, fun _ h => absurd h List.not_mem_nil⟩, fun _ h => absurd h List.not_mem_nil⟩
  · exact nomatch (show (none : Option (Nat × q9AV × q9AV × q9ET)) = some p9 from hq9)
  · exact q9th_tX (T := T) (N := N) (P := P) (J := J) (t0 := t0) (Sc := Sc) (q9evO u0 1) (q9evS u4) (q9evS u3) (by rw [q9FF_1415]; exact (by rw [a1, hs]; exact congrArg some H2)) (by decide)
theorem q9ru_cn1415h (hT : ∀ i, 0 ≤ T i ∧ T i ≤ 255) (hN : 0 ≤ N ∧ N ≤ 400) (hSc : 0 ≤ Sc 1 ∧ Sc 1 ≤ 400 → N = Sc 1) : q9ruOK (fO T N P J t0 Sc) q9R_cn1415h := by
  intro w w0 hA hX hL hV hR
  obtain ⟨x0, ae0, -, -⟩ := hA 0 0 rfl
  obtain ⟨x1, ae1, -, -⟩ := hA 1 0 rfl
  obtain ⟨x2, ae2, -, -⟩ := hA 2 0 rfl
  obtain ⟨x3, ae3, -, -⟩ := hA 3 0 rfl
  obtain ⟨x4, ae4, -, -⟩ := hA 4 0 rfl
  have kz : (0 : Int32).toInt = 0 := rfl
  have X0 := q9th_pX (T := T) (N := N) (P := P) (J := J) (t0 := t0) (Sc := Sc) (op := 1400) (q9evS ae0) (q9evZ w0) (q9evS ae1) (hX _ (List.mem_of_getElem? (i := 0) rfl)) (by decide)
  rw [q9FF_1400] at X0
  have H0 := X0
  try simp only [kz] at H0
  have V0 := q9pV (T := T) (N := N) (P := P) (J := J) (t0 := t0) (Sc := Sc) (op := 1402) (n := 0) (q9evS ae0) (q9evZ w0) (hV _ (List.mem_of_getElem? (i := 0) rfl)) (by decide)
  rw [q9FF_1402] at V0
  have K0 := id V0
  try simp only [kz] at K0
  have L0 : (0 : Int32).toInt ≤ x0.toInt + 0 := q9pC (q9evZ w0) (q9evS ae0) (hL _ (List.mem_of_getElem? (i := 0) rfl))
  have L1 : (0 : Int32).toInt ≤ x1.toInt + 0 := q9pC (q9evZ w0) (q9evS ae1) (hL _ (List.mem_of_getElem? (i := 1) rfl))
  have V1 := q9pV (T := T) (N := N) (P := P) (J := J) (t0 := t0) (Sc := Sc) (op := 1050) (n := 6) (q9evS ae1) (q9evZ w0) (hV _ (List.mem_of_getElem? (i := 1) rfl)) (by decide)
  rw [q9FF_1050] at V1
  have K1 := q9chV_of V1
  try simp only [kz] at K1
  have X1 := q9th_pX (T := T) (N := N) (P := P) (J := J) (t0 := t0) (Sc := Sc) (op := 1420) (q9evS ae1) (q9evZ w0) (q9evS ae2) (hX _ (List.mem_of_getElem? (i := 1) rfl)) (by decide)
  rw [q9FF_1420] at X1
  have H1 := q9chV_of X1
  try simp only [kz] at H1
  have L2 : x2.toInt ≤ x4.toInt + (-1) := q9pC (q9evS ae2) (q9evS ae4) (hL _ (List.mem_of_getElem? (i := 2) rfl))
  have X2 := q9th_pX (T := T) (N := N) (P := P) (J := J) (t0 := t0) (Sc := Sc) (op := 1415) (q9evS ae0) (q9evS ae4) (q9evS ae3) (hX _ (List.mem_of_getElem? (i := 2) rfl)) (by decide)
  rw [q9FF_1415] at X2
  have H2 := Option.some.inj X2
  try simp only [kz] at H2
  have L3 : (0 : Int32).toInt ≤ x4.toInt + 0 := q9pC (q9evZ w0) (q9evS ae4) (hL _ (List.mem_of_getElem? (i := 3) rfl))
  obtain ⟨q, hq, hl⟩ := q9q_m H0
  have hl : q.1 = x1.toInt := hl
  obtain ⟨hf, ha, ho⟩ := q9q_of hq
  have W := q9plW_P hN.1 hf
  obtain ⟨⟨l1, l2, l3, l4⟩, ⟨l5, l6⟩, ⟨l7, l8, l9⟩, l10, l11, l12⟩ := q9q_ln hN.1 hf ha
  have hmr := q9mn_rng hN.1 hf l1 (show q.1 < szP T N P J by omega)
  have hk : x0.toInt - q.2.2.2.1 = 0 := q9q_r hq K0
  have hkd : kdP T N P J q.1 = 6 := q9kd_Q (by rw [hl]; exact K1)
  have hwh : whP T N P J q.1 = x2.toInt := q9wh_Q (by rw [hl]; exact H1)
  have a1 := q9ad32 (x := x0) (d := 1) (by omega)
  have hs := q9axO_st hN.1 hf (s := x0.toInt) (a := x4.toInt) ha (by omega) (.inr (by rw [hwh]; omega))
  have u_ : q9upN w 6 [] 0 = .int 0 := q9upN_of (by decide) w0
  have u0 : q9upN w 6 [] 1 = .int x0 := q9upN_of (by decide) ae0
  have u1 : q9upN w 6 [] 2 = .int x1 := q9upN_of (by decide) ae1
  have u2 : q9upN w 6 [] 3 = .int x2 := q9upN_of (by decide) ae2
  have u3 : q9upN w 6 [] 4 = .int x3 := q9upN_of (by decide) ae3
  have u4 : q9upN w 6 [] 5 = .int x4 := q9upN_of (by decide) ae4
  refine ⟨[], fun i9 p9 hq9 => ?_, List.forall_mem_cons.mpr ⟨?_, fun _ h => absurd h List.not_mem_nil⟩, fun _ h => absurd h List.not_mem_nil⟩
  · exact nomatch (show (none : Option (Nat × q9AV × q9AV × q9ET)) = some p9 from hq9)
  · exact q9th_tX (T := T) (N := N) (P := P) (J := J) (t0 := t0) (Sc := Sc) (q9evO u0 1) (q9evS u4) (q9evS u3) (by rw [q9FF_1415]; exact (by rw [a1, hs]; exact congrArg some H2)) (by decide)
theorem q9ru_cn1416l (hT : ∀ i, 0 ≤ T i ∧ T i ≤ 255) (hN : 0 ≤ N ∧ N ≤ 400) (hSc : 0 ≤ Sc 1 ∧ Sc 1 ≤ 400 → N = Sc 1) : q9ruOK (fO T N P J t0 Sc) q9R_cn1416l := by
  intro w w0 hA hX hL hV hR
  obtain ⟨x0, ae0, -, -⟩ := hA 0 0 rfl
  obtain ⟨x1, ae1, -, -⟩ := hA 1 0 rfl
  obtain ⟨x2, ae2, -, -⟩ := hA 2 0 rfl
  obtain ⟨x3, ae3, -, -⟩ := hA 3 0 rfl
  obtain ⟨x4, ae4, -, -⟩ := hA 4 0 rfl
  have kz : (0 : Int32).toInt = 0 := rfl
  have X0 := q9th_pX (T := T) (N := N) (P := P) (J := J) (t0 := t0) (Sc := Sc) (op := 1400) (q9evS ae0) (q9evZ w0) (q9evS ae1) (hX _ (List.mem_of_getElem? (i := 0) rfl)) (by decide)
  rw [q9FF_1400] at X0
  have H0 := X0
  try simp only [kz] at H0
  have V0 := q9pV (T := T) (N := N) (P := P) (J := J) (t0 := t0) (Sc := Sc) (op := 1402) (n := 0) (q9evS ae0) (q9evZ w0) (hV _ (List.mem_of_getElem? (i := 0) rfl)) (by decide)
  rw [q9FF_1402] at V0
  have K0 := id V0
  try simp only [kz] at K0
  have L0 : (0 : Int32).toInt ≤ x0.toInt + 0 := q9pC (q9evZ w0) (q9evS ae0) (hL _ (List.mem_of_getElem? (i := 0) rfl))
  have L1 : (0 : Int32).toInt ≤ x1.toInt + 0 := q9pC (q9evZ w0) (q9evS ae1) (hL _ (List.mem_of_getElem? (i := 1) rfl))
  have V1 := q9pV (T := T) (N := N) (P := P) (J := J) (t0 := t0) (Sc := Sc) (op := 1050) (n := 6) (q9evS ae1) (q9evZ w0) (hV _ (List.mem_of_getElem? (i := 1) rfl)) (by decide)
  rw [q9FF_1050] at V1
  have K1 := q9chV_of V1
  try simp only [kz] at K1
  have X1 := q9th_pX (T := T) (N := N) (P := P) (J := J) (t0 := t0) (Sc := Sc) (op := 1420) (q9evS ae1) (q9evZ w0) (q9evS ae2) (hX _ (List.mem_of_getElem? (i := 1) rfl)) (by decide)
  rw [q9FF_1420] at X1
  have H1 := q9chV_of X1
  try simp only [kz] at H1
  have L2 : x4.toInt ≤ x2.toInt + (-1) := q9pC (q9evS ae4) (q9evS ae2) (hL _ (List.mem_of_getElem? (i := 2) rfl))
  have X2 := q9th_pX (T := T) (N := N) (P := P) (J := J) (t0 := t0) (Sc := Sc) (op := 1416) (q9evS ae0) (q9evS ae4) (q9evS ae3) (hX _ (List.mem_of_getElem? (i := 2) rfl)) (by decide)
  rw [q9FF_1416] at X2
  have H2 := Option.some.inj X2
  try simp only [kz] at H2
  have L3 : (0 : Int32).toInt ≤ x4.toInt + 0 := q9pC (q9evZ w0) (q9evS ae4) (hL _ (List.mem_of_getElem? (i := 3) rfl))
  obtain ⟨q, hq, hl⟩ := q9q_m H0
  have hl : q.1 = x1.toInt := hl
  obtain ⟨hf, ha, ho⟩ := q9q_of hq
  have W := q9plW_P hN.1 hf
  obtain ⟨⟨l1, l2, l3, l4⟩, ⟨l5, l6⟩, ⟨l7, l8, l9⟩, l10, l11, l12⟩ := q9q_ln hN.1 hf ha
  have hmr := q9mn_rng hN.1 hf l1 (show q.1 < szP T N P J by omega)
  have hk : x0.toInt - q.2.2.2.1 = 0 := q9q_r hq K0
  have hkd : kdP T N P J q.1 = 6 := q9kd_Q (by rw [hl]; exact K1)
  have hwh : whP T N P J q.1 = x2.toInt := q9wh_Q (by rw [hl]; exact H1)
  have a1 := q9ad32 (x := x0) (d := 1) (by omega)
  have hs := q9axO_st hN.1 hf (s := x0.toInt) (a := x4.toInt) ha (by omega) (.inr (by rw [hwh]; omega))
  have u_ : q9upN w 6 [] 0 = .int 0 := q9upN_of (by decide) w0
  have u0 : q9upN w 6 [] 1 = .int x0 := q9upN_of (by decide) ae0
  have u1 : q9upN w 6 [] 2 = .int x1 := q9upN_of (by decide) ae1
  have u2 : q9upN w 6 [] 3 = .int x2 := q9upN_of (by decide) ae2
  have u3 : q9upN w 6 [] 4 = .int x3 := q9upN_of (by decide) ae3
  have u4 : q9upN w 6 [] 5 = .int x4 := q9upN_of (by decide) ae4
  refine ⟨[], fun i9 p9 hq9 => ?_, List.forall_mem_cons.mpr ⟨?_, fun _ h => absurd h List.not_mem_nil⟩, fun _ h => absurd h List.not_mem_nil⟩
  · exact nomatch (show (none : Option (Nat × q9AV × q9AV × q9ET)) = some p9 from hq9)
  · exact q9th_tX (T := T) (N := N) (P := P) (J := J) (t0 := t0) (Sc := Sc) (q9evO u0 1) (q9evS u4) (q9evS u3) (by rw [q9FF_1416]; exact (by rw [a1, hs]; exact congrArg some H2)) (by decide)
theorem q9ru_cn1416h (hT : ∀ i, 0 ≤ T i ∧ T i ≤ 255) (hN : 0 ≤ N ∧ N ≤ 400) (hSc : 0 ≤ Sc 1 ∧ Sc 1 ≤ 400 → N = Sc 1) : q9ruOK (fO T N P J t0 Sc) q9R_cn1416h := by
  intro w w0 hA hX hL hV hR
  obtain ⟨x0, ae0, -, -⟩ := hA 0 0 rfl
  obtain ⟨x1, ae1, -, -⟩ := hA 1 0 rfl
  obtain ⟨x2, ae2, -, -⟩ := hA 2 0 rfl
  obtain ⟨x3, ae3, -, -⟩ := hA 3 0 rfl
  obtain ⟨x4, ae4, -, -⟩ := hA 4 0 rfl
  have kz : (0 : Int32).toInt = 0 := rfl
  have X0 := q9th_pX (T := T) (N := N) (P := P) (J := J) (t0 := t0) (Sc := Sc) (op := 1400) (q9evS ae0) (q9evZ w0) (q9evS ae1) (hX _ (List.mem_of_getElem? (i := 0) rfl)) (by decide)
  rw [q9FF_1400] at X0
  have H0 := X0
  try simp only [kz] at H0
  have V0 := q9pV (T := T) (N := N) (P := P) (J := J) (t0 := t0) (Sc := Sc) (op := 1402) (n := 0) (q9evS ae0) (q9evZ w0) (hV _ (List.mem_of_getElem? (i := 0) rfl)) (by decide)
  rw [q9FF_1402] at V0
  have K0 := id V0
  try simp only [kz] at K0
  have L0 : (0 : Int32).toInt ≤ x0.toInt + 0 := q9pC (q9evZ w0) (q9evS ae0) (hL _ (List.mem_of_getElem? (i := 0) rfl))
  have L1 : (0 : Int32).toInt ≤ x1.toInt + 0 := q9pC (q9evZ w0) (q9evS ae1) (hL _ (List.mem_of_getElem? (i := 1) rfl))
  have V1 := q9pV (T := T) (N := N) (P := P) (J := J) (t0 := t0) (Sc := Sc) (op := 1050) (n := 6) (q9evS ae1) (q9evZ w0) (hV _ (List.mem_of_getElem? (i := 1) rfl)) (by decide)
  rw [q9FF_1050] at V1
  have K1 := q9chV_of V1
  try simp only [kz] at K1
  have X1 := q9th_pX (T := T) (N := N) (P := P) (J := J) (t0 := t0) (Sc := Sc) (op := 1420) (q9evS ae1) (q9evZ w0) (q9evS ae2) (hX _ (List.mem_of_getElem? (i := 1) rfl)) (by decide)
  rw [q9FF_1420] at X1
  have H1 := q9chV_of X1
  try simp only [kz] at H1
  have L2 : x2.toInt ≤ x4.toInt + (-1) := q9pC (q9evS ae2) (q9evS ae4) (hL _ (List.mem_of_getElem? (i := 2) rfl))
  have X2 := q9th_pX (T := T) (N := N) (P := P) (J := J) (t0 := t0) (Sc := Sc) (op := 1416) (q9evS ae0) (q9evS ae4) (q9evS ae3) (hX _ (List.mem_of_getElem? (i := 2) rfl)) (by decide)
  rw [q9FF_1416] at X2
  have H2 := Option.some.inj X2
  try simp only [kz] at H2
  have L3 : (0 : Int32).toInt ≤ x4.toInt + 0 := q9pC (q9evZ w0) (q9evS ae4) (hL _ (List.mem_of_getElem? (i := 3) rfl))
  obtain ⟨q, hq, hl⟩ := q9q_m H0
  have hl : q.1 = x1.toInt := hl
  obtain ⟨hf, ha, ho⟩ := q9q_of hq
  have W := q9plW_P hN.1 hf
  obtain ⟨⟨l1, l2, l3, l4⟩, ⟨l5, l6⟩, ⟨l7, l8, l9⟩, l10, l11, l12⟩ := q9q_ln hN.1 hf ha
  have hmr := q9mn_rng hN.1 hf l1 (show q.1 < szP T N P J by omega)
  have hk : x0.toInt - q.2.2.2.1 = 0 := q9q_r hq K0
  have hkd : kdP T N P J q.1 = 6 := q9kd_Q (by rw [hl]; exact K1)
  have hwh : whP T N P J q.1 = x2.toInt := q9wh_Q (by rw [hl]; exact H1)
  have a1 := q9ad32 (x := x0) (d := 1) (by omega)
  have hs := q9axO_st hN.1 hf (s := x0.toInt) (a := x4.toInt) ha (by omega) (.inr (by rw [hwh]; omega))
  have u_ : q9upN w 6 [] 0 = .int 0 := q9upN_of (by decide) w0
  have u0 : q9upN w 6 [] 1 = .int x0 := q9upN_of (by decide) ae0
  have u1 : q9upN w 6 [] 2 = .int x1 := q9upN_of (by decide) ae1
  have u2 : q9upN w 6 [] 3 = .int x2 := q9upN_of (by decide) ae2
  have u3 : q9upN w 6 [] 4 = .int x3 := q9upN_of (by decide) ae3
  have u4 : q9upN w 6 [] 5 = .int x4 := q9upN_of (by decide) ae4
  refine ⟨[], fun i9 p9 hq9 => ?_, List.forall_mem_cons.mpr ⟨?_, fun _ h => absurd h List.not_mem_nil⟩, fun _ h => absurd h List.not_mem_nil⟩
  · exact nomatch (show (none : Option (Nat × q9AV × q9AV × q9ET)) = some p9 from hq9)
  · exact q9th_tX (T := T) (N := N) (P := P) (J := J) (t0 := t0) (Sc := Sc) (q9evO u0 1) (q9evS u4) (q9evS u3) (by rw [q9FF_1416]; exact (by rw [a1, hs]; exact congrArg some H2)) (by decide)
theorem q9ru_amr0 (hT : ∀ i, 0 ≤ T i ∧ T i ≤ 255) (hN : 0 ≤ N ∧ N ≤ 400) (hSc : 0 ≤ Sc 1 ∧ Sc 1 ≤ 400 → N = Sc 1) : q9ruOK (fO T N P J t0 Sc) q9R_amr0 := by
  intro w w0 hA hX hL hV hR
  obtain ⟨x0, ae0, -, -⟩ := hA 0 0 rfl
  obtain ⟨x1, ae1, -, -⟩ := hA 1 0 rfl
  obtain ⟨x2, ae2, -, -⟩ := hA 2 0 rfl
  have kz : (0 : Int32).toInt = 0 := rfl
  have k1 : (Int32.ofInt 1).toInt = 1 := q9oI_toInt (by decide)
  have k400 : (Int32.ofInt 400).toInt = 400 := q9oI_toInt (by decide)
  have X0 := q9th_pX (T := T) (N := N) (P := P) (J := J) (t0 := t0) (Sc := Sc) (op := 1400) (q9evS ae0) (q9evZ w0) (q9evS ae1) (hX _ (List.mem_of_getElem? (i := 0) rfl)) (by decide)
  rw [q9FF_1400] at X0
  have H0 := X0
  try simp only [kz, k1, k400] at H0
  have V0 := q9pV (T := T) (N := N) (P := P) (J := J) (t0 := t0) (Sc := Sc) (op := 1402) (n := 0) (q9evS ae0) (q9evZ w0) (hV _ (List.mem_of_getElem? (i := 0) rfl)) (by decide)
  rw [q9FF_1402] at V0
  have K0 := id V0
  try simp only [kz, k1, k400] at K0
  have L0 : (0 : Int32).toInt ≤ x0.toInt + 0 := q9pC (q9evZ w0) (q9evS ae0) (hL _ (List.mem_of_getElem? (i := 0) rfl))
  have L1 : (0 : Int32).toInt ≤ x1.toInt + 0 := q9pC (q9evZ w0) (q9evS ae1) (hL _ (List.mem_of_getElem? (i := 1) rfl))
  have V1 := q9pV (T := T) (N := N) (P := P) (J := J) (t0 := t0) (Sc := Sc) (op := 1050) (n := 0) (q9evS ae1) (q9evZ w0) (hV _ (List.mem_of_getElem? (i := 1) rfl)) (by decide)
  rw [q9FF_1050] at V1
  have K1 := q9chV_of V1
  try simp only [kz, k1, k400] at K1
  have X1 := q9th_pX (T := T) (N := N) (P := P) (J := J) (t0 := t0) (Sc := Sc) (op := 1051) (q9evS ae1) (q9evZ w0) (q9evS ae2) (hX _ (List.mem_of_getElem? (i := 1) rfl)) (by decide)
  rw [q9FF_1051] at X1
  have H1 := q9chV_of X1
  try simp only [kz, k1, k400] at H1
  obtain ⟨q, hq, hl⟩ := q9q_m H0
  have hl : q.1 = x1.toInt := hl
  obtain ⟨hf, ha, ho⟩ := q9q_of hq
  have W := q9plW_P hN.1 hf
  obtain ⟨⟨l1, l2, l3, l4⟩, ⟨l5, l6⟩, ⟨l7, l8, l9⟩, l10, l11, l12⟩ := q9q_ln hN.1 hf ha
  have hmr := q9mn_rng hN.1 hf l1 (show q.1 < szP T N P J by omega)
  have hk : x0.toInt - q.2.2.2.1 = 0 := q9q_r hq K0
  have hkd : kdP T N P J q.1 = 0 := q9kd_Q (by rw [hl]; exact K1)
  have hmn : mnP T N P J q.1 = x2.toInt := q9mn_Q (by rw [hl]; exact H1)
  have hm9 := hmr.2.1 (by omega)
  have u_ : q9upN w 4 [] 0 = .int 0 := q9upN_of (by decide) w0
  have u0 : q9upN w 4 [] 1 = .int x0 := q9upN_of (by decide) ae0
  have u1 : q9upN w 4 [] 2 = .int x1 := q9upN_of (by decide) ae1
  have u2 : q9upN w 4 [] 3 = .int x2 := q9upN_of (by decide) ae2
  refine ⟨[], fun i9 p9 hq9 => ?_, fun _ h => absurd h List.not_mem_nil, List.forall_mem_cons.mpr ⟨?_, List.forall_mem_cons.mpr ⟨?_, fun _ h => absurd h List.not_mem_nil⟩⟩⟩
  · exact nomatch (show (none : Option (Nat × q9AV × q9AV × q9ET)) = some p9 from hq9)
  · exact q9th_tC (d := 0) (q9evC u_ 1) (q9evS u2) (by omega)
  · exact q9th_tC (d := 0) (q9evS u2) (q9evC u_ 400) (by omega)
theorem q9ru_amr1 (hT : ∀ i, 0 ≤ T i ∧ T i ≤ 255) (hN : 0 ≤ N ∧ N ≤ 400) (hSc : 0 ≤ Sc 1 ∧ Sc 1 ≤ 400 → N = Sc 1) : q9ruOK (fO T N P J t0 Sc) q9R_amr1 := by
  intro w w0 hA hX hL hV hR
  obtain ⟨x0, ae0, -, -⟩ := hA 0 0 rfl
  obtain ⟨x1, ae1, -, -⟩ := hA 1 0 rfl
  obtain ⟨x2, ae2, -, -⟩ := hA 2 0 rfl
  have kz : (0 : Int32).toInt = 0 := rfl
  have k1 : (Int32.ofInt 1).toInt = 1 := q9oI_toInt (by decide)
  have k400 : (Int32.ofInt 400).toInt = 400 := q9oI_toInt (by decide)
  have X0 := q9th_pX (T := T) (N := N) (P := P) (J := J) (t0 := t0) (Sc := Sc) (op := 1400) (q9evS ae0) (q9evZ w0) (q9evS ae1) (hX _ (List.mem_of_getElem? (i := 0) rfl)) (by decide)
  rw [q9FF_1400] at X0
  have H0 := X0
  try simp only [kz, k1, k400] at H0
  have V0 := q9pV (T := T) (N := N) (P := P) (J := J) (t0 := t0) (Sc := Sc) (op := 1402) (n := 0) (q9evS ae0) (q9evZ w0) (hV _ (List.mem_of_getElem? (i := 0) rfl)) (by decide)
  rw [q9FF_1402] at V0
  have K0 := id V0
  try simp only [kz, k1, k400] at K0
  have L0 : (0 : Int32).toInt ≤ x0.toInt + 0 := q9pC (q9evZ w0) (q9evS ae0) (hL _ (List.mem_of_getElem? (i := 0) rfl))
  have L1 : (0 : Int32).toInt ≤ x1.toInt + 0 := q9pC (q9evZ w0) (q9evS ae1) (hL _ (List.mem_of_getElem? (i := 1) rfl))
  have V1 := q9pV (T := T) (N := N) (P := P) (J := J) (t0 := t0) (Sc := Sc) (op := 1050) (n := 1) (q9evS ae1) (q9evZ w0) (hV _ (List.mem_of_getElem? (i := 1) rfl)) (by decide)
  rw [q9FF_1050] at V1
  have K1 := q9chV_of V1
  try simp only [kz, k1, k400] at K1
  have X1 := q9th_pX (T := T) (N := N) (P := P) (J := J) (t0 := t0) (Sc := Sc) (op := 1051) (q9evS ae1) (q9evZ w0) (q9evS ae2) (hX _ (List.mem_of_getElem? (i := 1) rfl)) (by decide)
  rw [q9FF_1051] at X1
  have H1 := q9chV_of X1
  try simp only [kz, k1, k400] at H1
  obtain ⟨q, hq, hl⟩ := q9q_m H0
  have hl : q.1 = x1.toInt := hl
  obtain ⟨hf, ha, ho⟩ := q9q_of hq
  have W := q9plW_P hN.1 hf
  obtain ⟨⟨l1, l2, l3, l4⟩, ⟨l5, l6⟩, ⟨l7, l8, l9⟩, l10, l11, l12⟩ := q9q_ln hN.1 hf ha
  have hmr := q9mn_rng hN.1 hf l1 (show q.1 < szP T N P J by omega)
  have hk : x0.toInt - q.2.2.2.1 = 0 := q9q_r hq K0
  have hkd : kdP T N P J q.1 = 1 := q9kd_Q (by rw [hl]; exact K1)
  have hmn : mnP T N P J q.1 = x2.toInt := q9mn_Q (by rw [hl]; exact H1)
  have hm9 := hmr.2.1 (by omega)
  have u_ : q9upN w 4 [] 0 = .int 0 := q9upN_of (by decide) w0
  have u0 : q9upN w 4 [] 1 = .int x0 := q9upN_of (by decide) ae0
  have u1 : q9upN w 4 [] 2 = .int x1 := q9upN_of (by decide) ae1
  have u2 : q9upN w 4 [] 3 = .int x2 := q9upN_of (by decide) ae2
  refine ⟨[], fun i9 p9 hq9 => ?_, fun _ h => absurd h List.not_mem_nil, List.forall_mem_cons.mpr ⟨?_, List.forall_mem_cons.mpr ⟨?_, fun _ h => absurd h List.not_mem_nil⟩⟩⟩
  · exact nomatch (show (none : Option (Nat × q9AV × q9AV × q9ET)) = some p9 from hq9)
  · exact q9th_tC (d := 0) (q9evC u_ 1) (q9evS u2) (by omega)
  · exact q9th_tC (d := 0) (q9evS u2) (q9evC u_ 400) (by omega)
theorem q9ru_amr6 (hT : ∀ i, 0 ≤ T i ∧ T i ≤ 255) (hN : 0 ≤ N ∧ N ≤ 400) (hSc : 0 ≤ Sc 1 ∧ Sc 1 ≤ 400 → N = Sc 1) : q9ruOK (fO T N P J t0 Sc) q9R_amr6 := by
  intro w w0 hA hX hL hV hR
  obtain ⟨x0, ae0, -, -⟩ := hA 0 0 rfl
  obtain ⟨x1, ae1, -, -⟩ := hA 1 0 rfl
  obtain ⟨x2, ae2, -, -⟩ := hA 2 0 rfl
  have kz : (0 : Int32).toInt = 0 := rfl
  have k1 : (Int32.ofInt 1).toInt = 1 := q9oI_toInt (by decide)
  have k400 : (Int32.ofInt 400).toInt = 400 := q9oI_toInt (by decide)
  have X0 := q9th_pX (T := T) (N := N) (P := P) (J := J) (t0 := t0) (Sc := Sc) (op := 1400) (q9evS ae0) (q9evZ w0) (q9evS ae1) (hX _ (List.mem_of_getElem? (i := 0) rfl)) (by decide)
  rw [q9FF_1400] at X0
  have H0 := X0
  try simp only [kz, k1, k400] at H0
  have V0 := q9pV (T := T) (N := N) (P := P) (J := J) (t0 := t0) (Sc := Sc) (op := 1402) (n := 0) (q9evS ae0) (q9evZ w0) (hV _ (List.mem_of_getElem? (i := 0) rfl)) (by decide)
  rw [q9FF_1402] at V0
  have K0 := id V0
  try simp only [kz, k1, k400] at K0
  have L0 : (0 : Int32).toInt ≤ x0.toInt + 0 := q9pC (q9evZ w0) (q9evS ae0) (hL _ (List.mem_of_getElem? (i := 0) rfl))
  have L1 : (0 : Int32).toInt ≤ x1.toInt + 0 := q9pC (q9evZ w0) (q9evS ae1) (hL _ (List.mem_of_getElem? (i := 1) rfl))
  have V1 := q9pV (T := T) (N := N) (P := P) (J := J) (t0 := t0) (Sc := Sc) (op := 1050) (n := 6) (q9evS ae1) (q9evZ w0) (hV _ (List.mem_of_getElem? (i := 1) rfl)) (by decide)
  rw [q9FF_1050] at V1
  have K1 := q9chV_of V1
  try simp only [kz, k1, k400] at K1
  have X1 := q9th_pX (T := T) (N := N) (P := P) (J := J) (t0 := t0) (Sc := Sc) (op := 1051) (q9evS ae1) (q9evZ w0) (q9evS ae2) (hX _ (List.mem_of_getElem? (i := 1) rfl)) (by decide)
  rw [q9FF_1051] at X1
  have H1 := q9chV_of X1
  try simp only [kz, k1, k400] at H1
  obtain ⟨q, hq, hl⟩ := q9q_m H0
  have hl : q.1 = x1.toInt := hl
  obtain ⟨hf, ha, ho⟩ := q9q_of hq
  have W := q9plW_P hN.1 hf
  obtain ⟨⟨l1, l2, l3, l4⟩, ⟨l5, l6⟩, ⟨l7, l8, l9⟩, l10, l11, l12⟩ := q9q_ln hN.1 hf ha
  have hmr := q9mn_rng hN.1 hf l1 (show q.1 < szP T N P J by omega)
  have hk : x0.toInt - q.2.2.2.1 = 0 := q9q_r hq K0
  have hkd : kdP T N P J q.1 = 6 := q9kd_Q (by rw [hl]; exact K1)
  have hmn : mnP T N P J q.1 = x2.toInt := q9mn_Q (by rw [hl]; exact H1)
  have hm9 := hmr.2.2.1 (by omega)
  have u_ : q9upN w 4 [] 0 = .int 0 := q9upN_of (by decide) w0
  have u0 : q9upN w 4 [] 1 = .int x0 := q9upN_of (by decide) ae0
  have u1 : q9upN w 4 [] 2 = .int x1 := q9upN_of (by decide) ae1
  have u2 : q9upN w 4 [] 3 = .int x2 := q9upN_of (by decide) ae2
  refine ⟨[], fun i9 p9 hq9 => ?_, fun _ h => absurd h List.not_mem_nil, List.forall_mem_cons.mpr ⟨?_, List.forall_mem_cons.mpr ⟨?_, fun _ h => absurd h List.not_mem_nil⟩⟩⟩
  · exact nomatch (show (none : Option (Nat × q9AV × q9AV × q9ET)) = some p9 from hq9)
  · exact q9th_tC (d := 0) (q9evC u_ 1) (q9evS u2) (by omega)
  · exact q9th_tC (d := 0) (q9evS u2) (q9evC u_ 400) (by omega)
theorem q9ru_cme (hT : ∀ i, 0 ≤ T i ∧ T i ≤ 255) (hN : 0 ≤ N ∧ N ≤ 400) (hSc : 0 ≤ Sc 1 ∧ Sc 1 ≤ 400 → N = Sc 1) : q9ruOK (fO T N P J t0 Sc) q9R_cme := by
  intro w w0 hA hX hL hV hR
  obtain ⟨x0, ae0, -, -⟩ := hA 0 0 rfl
  obtain ⟨x1, ae1, -, -⟩ := hA 1 0 rfl
  obtain ⟨x2, ae2, -, -⟩ := hA 2 0 rfl
  have kz : (0 : Int32).toInt = 0 := rfl
  have k3 : (Int32.ofInt 3).toInt = 3 := q9oI_toInt (by decide)
  have X0 := q9th_pX (T := T) (N := N) (P := P) (J := J) (t0 := t0) (Sc := Sc) (op := 1400) (q9evS ae0) (q9evZ w0) (q9evS ae1) (hX _ (List.mem_of_getElem? (i := 0) rfl)) (by decide)
  rw [q9FF_1400] at X0
  have H0 := X0
  try simp only [kz, k3] at H0
  have V0 := q9pV (T := T) (N := N) (P := P) (J := J) (t0 := t0) (Sc := Sc) (op := 1402) (n := 0) (q9evS ae0) (q9evZ w0) (hV _ (List.mem_of_getElem? (i := 0) rfl)) (by decide)
  rw [q9FF_1402] at V0
  have K0 := id V0
  try simp only [kz, k3] at K0
  have L0 : (0 : Int32).toInt ≤ x0.toInt + 0 := q9pC (q9evZ w0) (q9evS ae0) (hL _ (List.mem_of_getElem? (i := 0) rfl))
  have L1 : (0 : Int32).toInt ≤ x1.toInt + 0 := q9pC (q9evZ w0) (q9evS ae1) (hL _ (List.mem_of_getElem? (i := 1) rfl))
  have V1 := q9pV (T := T) (N := N) (P := P) (J := J) (t0 := t0) (Sc := Sc) (op := 1050) (n := 6) (q9evS ae1) (q9evZ w0) (hV _ (List.mem_of_getElem? (i := 1) rfl)) (by decide)
  rw [q9FF_1050] at V1
  have K1 := q9chV_of V1
  try simp only [kz, k3] at K1
  have X1 := q9th_pX (T := T) (N := N) (P := P) (J := J) (t0 := t0) (Sc := Sc) (op := 1422) (q9evS ae1) (q9evZ w0) (q9evS ae2) (hX _ (List.mem_of_getElem? (i := 1) rfl)) (by decide)
  rw [q9FF_1422] at X1
  have H1 := q9chV_of X1
  try simp only [kz, k3] at H1
  obtain ⟨q, hq, hl⟩ := q9q_m H0
  have hl : q.1 = x1.toInt := hl
  obtain ⟨hf, ha, ho⟩ := q9q_of hq
  have W := q9plW_P hN.1 hf
  obtain ⟨⟨l1, l2, l3, l4⟩, ⟨l5, l6⟩, ⟨l7, l8, l9⟩, l10, l11, l12⟩ := q9q_ln hN.1 hf ha
  have hmr := q9mn_rng hN.1 hf l1 (show q.1 < szP T N P J by omega)
  have hk : x0.toInt - q.2.2.2.1 = 0 := q9q_r hq K0
  have hkd : kdP T N P J q.1 = 6 := q9kd_Q (by rw [hl]; exact K1)
  have hes : esP T N P J q.1 = x2.toInt := q9es_Q (by rw [hl]; exact H1)
  have he9 := q9esP_rng (T := T) (N := N) (P := P) (J := J) (i := q.1)
  have u_ : q9upN w 4 [] 0 = .int 0 := q9upN_of (by decide) w0
  have u0 : q9upN w 4 [] 1 = .int x0 := q9upN_of (by decide) ae0
  have u1 : q9upN w 4 [] 2 = .int x1 := q9upN_of (by decide) ae1
  have u2 : q9upN w 4 [] 3 = .int x2 := q9upN_of (by decide) ae2
  refine ⟨[], fun i9 p9 hq9 => ?_, fun _ h => absurd h List.not_mem_nil, List.forall_mem_cons.mpr ⟨?_, List.forall_mem_cons.mpr ⟨?_, fun _ h => absurd h List.not_mem_nil⟩⟩⟩
  · exact nomatch (show (none : Option (Nat × q9AV × q9AV × q9ET)) = some p9 from hq9)
  · exact q9th_tC (d := 0) (q9evZ u_) (q9evS u2) (by omega)
  · exact q9th_tC (d := 0) (q9evS u2) (q9evC u_ 3) (by omega)
theorem q9ruP_15 (hT : ∀ i, 0 ≤ T i ∧ T i ≤ 255) (hN : 0 ≤ N ∧ N ≤ 400) (hSc : 0 ≤ Sc 1 ∧ Sc 1 ≤ 400 → N = Sc 1) : ∀ q ∈ q9RULES_15, q9ruOK (fO T N P J t0 Sc) q := List.forall_mem_cons.mpr ⟨q9ru_mk_0 hT hN hSc, List.forall_mem_cons.mpr ⟨q9ru_h1_1 hT hN hSc, List.forall_mem_cons.mpr ⟨q9ru_h2_1 hT hN hSc, List.forall_mem_cons.mpr ⟨q9ru_mk_1 hT hN hSc, List.forall_mem_cons.mpr ⟨q9ru_fc0 hT hN hSc, List.forall_mem_cons.mpr ⟨q9ru_fc1 hT hN hSc, List.forall_mem_cons.mpr ⟨q9ru_fc2 hT hN hSc, List.forall_mem_cons.mpr ⟨q9ru_fc3 hT hN hSc, List.forall_mem_cons.mpr ⟨q9ru_rp0 hT hN hSc, List.forall_mem_cons.mpr ⟨q9ru_rpb hT hN hSc, List.forall_mem_cons.mpr ⟨q9ru_rpd0 hT hN hSc, List.forall_mem_cons.mpr ⟨q9ru_rpd1 hT hN hSc, List.forall_mem_cons.mpr ⟨q9ru_rpd2 hT hN hSc, List.forall_mem_cons.mpr ⟨q9ru_rpd3 hT hN hSc, List.forall_mem_cons.mpr ⟨q9ru_dp4 hT hN hSc, List.forall_mem_cons.mpr ⟨q9ru_rpe hT hN hSc, List.forall_mem_cons.mpr ⟨q9ru_rpz hT hN hSc, List.forall_mem_cons.mpr ⟨q9ru_cmB hT hN hSc, List.forall_mem_cons.mpr ⟨q9ru_cmG hT hN hSc, List.forall_mem_cons.mpr ⟨q9ru_cmM hT hN hSc, List.forall_mem_cons.mpr ⟨q9ru_cmE hT hN hSc, List.forall_mem_cons.mpr ⟨q9ru_cmD hT hN hSc, List.forall_mem_cons.mpr ⟨q9ru_cmS hT hN hSc, List.forall_mem_cons.mpr ⟨q9ru_cmw hT hN hSc, List.forall_mem_cons.mpr ⟨q9ru_cn1411l hT hN hSc, List.forall_mem_cons.mpr ⟨q9ru_cn1411h hT hN hSc, List.forall_mem_cons.mpr ⟨q9ru_cn1412l hT hN hSc, List.forall_mem_cons.mpr ⟨q9ru_cn1412h hT hN hSc, List.forall_mem_cons.mpr ⟨q9ru_cn1413l hT hN hSc, List.forall_mem_cons.mpr ⟨q9ru_cn1413h hT hN hSc, List.forall_mem_cons.mpr ⟨q9ru_cn1414l hT hN hSc, List.forall_mem_cons.mpr ⟨q9ru_cn1414h hT hN hSc, List.forall_mem_cons.mpr ⟨q9ru_cn1415l hT hN hSc, List.forall_mem_cons.mpr ⟨q9ru_cn1415h hT hN hSc, List.forall_mem_cons.mpr ⟨q9ru_cn1416l hT hN hSc, List.forall_mem_cons.mpr ⟨q9ru_cn1416h hT hN hSc, List.forall_mem_cons.mpr ⟨q9ru_amr0 hT hN hSc, List.forall_mem_cons.mpr ⟨q9ru_amr1 hT hN hSc, List.forall_mem_cons.mpr ⟨q9ru_amr6 hT hN hSc, List.forall_mem_cons.mpr ⟨q9ru_cme hT hN hSc, fun _ h => absurd h List.not_mem_nil⟩⟩⟩⟩⟩⟩⟩⟩⟩⟩⟩⟩⟩⟩⟩⟩⟩⟩⟩⟩⟩⟩⟩⟩⟩⟩⟩⟩⟩⟩⟩⟩⟩⟩⟩⟩⟩⟩⟩⟩
end RUL
