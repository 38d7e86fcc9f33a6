section RUL
variable {T : Int → Int} {N P : Int} {J : Int → Int} {t0 : Int} {Sc : Int → Int}
theorem q9ru_ffr (hT : ∀ i, 0 ≤ T i ∧ T i ≤ 255) (hN : 0 ≤ N ∧ N ≤ 400) (hSc : 0 ≤ Sc 1 ∧ Sc 1 ≤ 400 → N = Sc 1) : q9ruOK (fO T N P J t0 Sc) q9R_ffr := by
  intro w w0 hA hX hL hV hR
  obtain ⟨x0, ae0, -, -⟩ := hA 0 0 rfl
  obtain ⟨x1, ae1, -, -⟩ := hA 1 1 rfl
  obtain ⟨x2, ae2, -, -⟩ := hA 2 1 rfl
  have kz : (0 : Int32).toInt = 0 := rfl
  have V0 := q9pV (T := T) (N := N) (P := P) (J := J) (t0 := t0) (Sc := Sc) (op := 1040) (n := 0) (q9evZ w0) (q9evZ w0) (hV _ (List.mem_of_getElem? (i := 0) rfl)) (by decide)
  rw [q9FF_1040] at V0
  have K0 := q9chV_of V0
  try simp only [kz] at K0
  have X0 := q9th_pX (T := T) (N := N) (P := P) (J := J) (t0 := t0) (Sc := Sc) (op := 1042) (q9evZ w0) (q9evZ w0) (q9evS ae0) (hX _ (List.mem_of_getElem? (i := 0) rfl)) (by decide)
  rw [q9FF_1042] at X0
  have H0 := q9chV_of X0
  try simp only [kz] at H0
  have X1 := q9pL (T := T) (N := N) (P := P) (J := J) (t0 := t0) (Sc := Sc) (op := 1053) (q9evZ w0) (q9evS ae0) (q9evS ae1) (hX _ (List.mem_of_getElem? (i := 1) rfl)) (by decide)
  rw [q9FL_1053] at X1
  have H1 := q9chV_of X1
  try simp only [kz] at H1
  have X2 := q9pL (T := T) (N := N) (P := P) (J := J) (t0 := t0) (Sc := Sc) (op := 1054) (q9evZ w0) (q9evS ae0) (q9evS ae2) (hX _ (List.mem_of_getElem? (i := 2) rfl)) (by decide)
  rw [q9FL_1054] at X2
  have H2 := q9chV_of X2
  try simp only [kz] at H2
  obtain ⟨c, hv, hn, hed, hz⟩ := H0
  obtain ⟨n, d, h1⟩ := H1
  obtain ⟨n2, f, h2⟩ := H2
  have ed := (q9hs_one hN.1 _ _ _ _ _ _ _ _ h1 h2).2
  subst ed
  obtain ⟨q, hq⟩ := List.length_eq_one_iff.mp hed.2
  have hs := q9vis_hs hN.1 hv
  rw [hq] at hs
  obtain ⟨⟨n3, d3, k1, k2⟩, -⟩ := hs
  rw [if_pos rfl] at k2
  have hb := q9vis_base hv
  have hb : some (q.1, q.2.1) = some ((-1, 0) : Int × Int) := by rw [show q9th_stP c = [(q.1, q.2.1)] by unfold q9th_stP; rw [hq]; rfl] at hb; exact hb
  have hq1 : q.1 = -1 := congrArg Prod.fst (Option.some.inj hb)
  rw [hq1] at k1
  have e := q9hs_one hN.1 _ _ _ _ _ _ _ _ k1 (by rw [← hz]; exact h1)
  have he : q9enI c 0 = some q := q9en_top hq (by rw [hed.2]; rfl)
  have u_ : q9upN w 4 [] 0 = .int 0 := q9upN_of (by decide) w0
  have u0 : q9upN w 4 [] 1 = .int x0 := q9upN_of (by decide) ae0
  have u1 : q9upN w 4 [] 2 = .long x1 := q9upN_of (by decide) ae1
  have u2 : q9upN w 4 [] 3 = .long x2 := q9upN_of (by decide) ae2
  refine ⟨[], fun i9 p9 hq9 => ?_, List.forall_mem_cons.mpr ⟨?_, List.forall_mem_cons.mpr ⟨?_, fun _ h => absurd h List.not_mem_nil⟩⟩, fun _ h => absurd h List.not_mem_nil⟩
  · exact nomatch (show (none : Option (Nat × q9AV × q9AV × q9ET)) = some p9 from hq9)
  · exact q9th_tL (T := T) (N := N) (P := P) (J := J) (t0 := t0) (Sc := Sc) (q9evZ u_) (q9evZ u_) (q9evS u1) (by rw [q9FL_1043]; exact (by rw [← q9FL_1043 (a := (0 : Int32).toInt) (b := (0 : Int32).toInt)]; exact q9G_ffr hv hn hed he e.1)) (by decide)
  · exact q9th_tL (T := T) (N := N) (P := P) (J := J) (t0 := t0) (Sc := Sc) (q9evZ u_) (q9evZ u_) (q9evS u2) (by rw [q9FL_1044]; exact (by rw [← q9FL_1044 (a := (0 : Int32).toInt) (b := (0 : Int32).toInt)]; exact q9G_fdn hv hn hed he (by rw [k2, e.2]))) (by decide)
theorem q9ru_ffi (hT : ∀ i, 0 ≤ T i ∧ T i ≤ 255) (hN : 0 ≤ N ∧ N ≤ 400) (hSc : 0 ≤ Sc 1 ∧ Sc 1 ≤ 400 → N = Sc 1) : q9ruOK (fO T N P J t0 Sc) q9R_ffi := by
  intro w w0 hA hX hL hV hR
  obtain ⟨x0, ae0, -, -⟩ := hA 0 1 rfl
  obtain ⟨x1, ae1, -, -⟩ := hA 1 0 rfl
  have kz : (0 : Int32).toInt = 0 := rfl
  have V0 := q9pV (T := T) (N := N) (P := P) (J := J) (t0 := t0) (Sc := Sc) (op := 1045) (n := 0) (q9evZ w0) (q9evZ w0) (hV _ (List.mem_of_getElem? (i := 0) rfl)) (by decide)
  rw [q9FF_1045] at V0
  have K0 := Option.some.inj V0
  try simp only [kz] at K0
  have X0 := q9pL (T := T) (N := N) (P := P) (J := J) (t0 := t0) (Sc := Sc) (op := 1043) (q9evZ w0) (q9evZ w0) (q9evS ae0) (hX _ (List.mem_of_getElem? (i := 0) rfl)) (by decide)
  rw [q9FL_1043] at X0
  have H0 := q9chV_of X0
  try simp only [kz] at H0
  have X1 := q9pB (T := T) (N := N) (P := P) (J := J) (t0 := t0) (Sc := Sc) (q9evS ae0) (q9evS ae0) (q9evS ae1) (hX _ (List.mem_of_getElem? (i := 1) rfl))
  have L0 : (0 : Int32).toInt ≤ x1.toInt + 0 := q9pC (q9evZ w0) (q9evS ae1) (hL _ (List.mem_of_getElem? (i := 0) rfl))
  obtain ⟨c, hv, hn, hed, e, he, f1⟩ := H0
  have hF : finI T N P J = _ := (q9fin_of hv hn).trans (q9fn_ed (P := P) (J := J) hed he)
  have hcond : 1 ≤ e.2.2.1.toInt ∧ e.2.2.1.toInt ≤ 400 ∧ e.2.2.2.toInt ≤ 2000 := by
    by_cases hc : 1 ≤ e.2.2.1.toInt ∧ e.2.2.1.toInt ≤ 400 ∧ e.2.2.2.toInt ≤ 2000
    · exact hc
    · rw [if_neg hc] at hF
      rw [hF] at K0
      exact absurd K0 (by show ¬ (4 : Int) = 0; decide)
  rw [if_pos hcond] at hF
  have e1 : x0.toInt32 = x1 := Value.int.inj (Option.some.inj (X1 : some (Value.int x0.toInt32) = some (.int x1)))
  have e2 : x1.toInt = x0.toInt := by rw [← e1, Int64.toInt_toInt32, f1, Int.bmod_eq_of_le (by omega) (by omega)]
  have u_ : q9upN w 3 [] 0 = .int 0 := q9upN_of (by decide) w0
  have u0 : q9upN w 3 [] 1 = .long x0 := q9upN_of (by decide) ae0
  have u1 : q9upN w 3 [] 2 = .int x1 := q9upN_of (by decide) ae1
  refine ⟨[], fun i9 p9 hq9 => ?_, List.forall_mem_cons.mpr ⟨?_, fun _ h => absurd h List.not_mem_nil⟩, fun _ h => absurd h List.not_mem_nil⟩
  · exact nomatch (show (none : Option (Nat × q9AV × q9AV × q9ET)) = some p9 from hq9)
  · exact q9th_tX (T := T) (N := N) (P := P) (J := J) (t0 := t0) (Sc := Sc) (q9evZ u_) (q9evZ u_) (q9evS u1) (by rw [q9FF_1047]; exact (by rw [hF, e2, f1])) (by decide)
theorem q9ru_agw (hT : ∀ i, 0 ≤ T i ∧ T i ≤ 255) (hN : 0 ≤ N ∧ N ≤ 400) (hSc : 0 ≤ Sc 1 ∧ Sc 1 ≤ 400 → N = Sc 1) : q9ruOK (fO T N P J t0 Sc) q9R_agw := by
  intro w w0 hA hX hL hV hR
  obtain ⟨x0, ae0, -, -⟩ := hA 0 0 rfl
  obtain ⟨x1, ae1, -, -⟩ := hA 1 0 rfl
  obtain ⟨x2, ae2, -, -⟩ := hA 2 0 rfl
  obtain ⟨x3, ae3, -, -⟩ := hA 3 0 rfl
  have kz : (0 : Int32).toInt = 0 := rfl
  have k1 : (Int32.ofInt 1).toInt = 1 := q9oI_toInt (by decide)
  have k7 : (Int32.ofInt 7).toInt = 7 := q9oI_toInt (by decide)
  have k255 : (Int32.ofInt 255).toInt = 255 := q9oI_toInt (by decide)
  have X0 := q9th_pX (T := T) (N := N) (P := P) (J := J) (t0 := t0) (Sc := Sc) (op := 1002) (q9evS ae0) (q9evZ w0) (q9evS ae1) (hX _ (List.mem_of_getElem? (i := 0) rfl)) (by decide)
  rw [q9FF_1002] at X0
  have H0 := Option.some.inj X0
  try simp only [kz, k1, k7, k255] at H0
  have X1 := q9th_pX (T := T) (N := N) (P := P) (J := J) (t0 := t0) (Sc := Sc) (op := 1005) (q9evS ae1) (q9evZ w0) (q9evS ae2) (hX _ (List.mem_of_getElem? (i := 1) rfl)) (by decide)
  rw [q9FF_1005] at X1
  have H1 := Option.some.inj X1
  try simp only [kz, k1, k7, k255] at H1
  have X2 := q9pB (T := T) (N := N) (P := P) (J := J) (t0 := t0) (Sc := Sc) (q9evC w0 1) (q9evS ae2) (q9evS ae3) (hX _ (List.mem_of_getElem? (i := 2) rfl))
  have L0 : (0 : Int32).toInt ≤ x0.toInt + 0 := q9pC (q9evZ w0) (q9evS ae0) (hL _ (List.mem_of_getElem? (i := 0) rfl))
  have L1 : (0 : Int32).toInt ≤ x2.toInt + 0 := q9pC (q9evZ w0) (q9evS ae2) (hL _ (List.mem_of_getElem? (i := 1) rfl))
  have L2 : x2.toInt ≤ (Int32.ofInt 7).toInt + 0 := q9pC (q9evS ae2) (q9evC w0 7) (hL _ (List.mem_of_getElem? (i := 2) rfl))
  have e9 : (Int32.ofInt 1 <<< (Int32.ofInt x2.toInt &&& 31)).toInt = x3.toInt := by
    rw [q9oI_of]
    exact congrArg Int32.toInt (Value.int.inj (Option.some.inj (X2 : some (Value.int (Int32.ofInt 1 <<< (x2 &&& 31))) = some (.int x3))))
  have hw : q9agw T N x0.toInt = some x3.toInt := by
    unfold q9agw
    rw [H0, H1, if_pos (by omega), e9]
  have hr := q9agw_rng hw
  have u_ : q9upN w 5 [] 0 = .int 0 := q9upN_of (by decide) w0
  have u0 : q9upN w 5 [] 1 = .int x0 := q9upN_of (by decide) ae0
  have u1 : q9upN w 5 [] 2 = .int x1 := q9upN_of (by decide) ae1
  have u2 : q9upN w 5 [] 3 = .int x2 := q9upN_of (by decide) ae2
  have u3 : q9upN w 5 [] 4 = .int x3 := q9upN_of (by decide) ae3
  refine ⟨[], fun i9 p9 hq9 => ?_, List.forall_mem_cons.mpr ⟨?_, fun _ h => absurd h List.not_mem_nil⟩, List.forall_mem_cons.mpr ⟨?_, List.forall_mem_cons.mpr ⟨?_, fun _ h => absurd h List.not_mem_nil⟩⟩⟩
  · exact nomatch (show (none : Option (Nat × q9AV × q9AV × q9ET)) = some p9 from hq9)
  · exact q9th_tX (T := T) (N := N) (P := P) (J := J) (t0 := t0) (Sc := Sc) (q9evS u0) (q9evZ u_) (q9evS u3) (by rw [q9FF_1480]; exact hw) (by decide)
  · exact q9th_tC (d := 0) (q9evZ u_) (q9evS u3) (by omega)
  · exact q9th_tC (d := 0) (q9evS u3) (q9evC u_ 255) (by omega)
theorem q9ru_agx (hT : ∀ i, 0 ≤ T i ∧ T i ≤ 255) (hN : 0 ≤ N ∧ N ≤ 400) (hSc : 0 ≤ Sc 1 ∧ Sc 1 ≤ 400 → N = Sc 1) : q9ruOK (fO T N P J t0 Sc) q9R_agx := by
  intro w w0 hA hX hL hV hR
  obtain ⟨x0, ae0, -, -⟩ := hA 0 0 rfl
  obtain ⟨x1, ae1, -, -⟩ := hA 1 0 rfl
  obtain ⟨x2, ae2, -, -⟩ := hA 2 0 rfl
  obtain ⟨x3, ae3, -, -⟩ := hA 3 0 rfl
  obtain ⟨x4, ae4, -, -⟩ := hA 4 0 rfl
  have kz : (0 : Int32).toInt = 0 := rfl
  have k1 : (Int32.ofInt 1).toInt = 1 := q9oI_toInt (by decide)
  have k7 : (Int32.ofInt 7).toInt = 7 := q9oI_toInt (by decide)
  have X0 := q9th_pX (T := T) (N := N) (P := P) (J := J) (t0 := t0) (Sc := Sc) (op := 1002) (q9evS ae0) (q9evZ w0) (q9evS ae1) (hX _ (List.mem_of_getElem? (i := 0) rfl)) (by decide)
  rw [q9FF_1002] at X0
  have H0 := Option.some.inj X0
  try simp only [kz, k1, k7] at H0
  have X1 := q9th_pX (T := T) (N := N) (P := P) (J := J) (t0 := t0) (Sc := Sc) (op := 1005) (q9evS ae1) (q9evZ w0) (q9evS ae2) (hX _ (List.mem_of_getElem? (i := 1) rfl)) (by decide)
  rw [q9FF_1005] at X1
  have H1 := Option.some.inj X1
  try simp only [kz, k1, k7] at H1
  have X2 := q9pB (T := T) (N := N) (P := P) (J := J) (t0 := t0) (Sc := Sc) (q9evC w0 1) (q9evS ae2) (q9evS ae3) (hX _ (List.mem_of_getElem? (i := 2) rfl))
  have X3 := q9th_pX (T := T) (N := N) (P := P) (J := J) (t0 := t0) (Sc := Sc) (op := 1480) (q9evS ae0) (q9evZ w0) (q9evS ae4) (hX _ (List.mem_of_getElem? (i := 3) rfl)) (by decide)
  rw [q9FF_1480] at X3
  have H3 := X3
  try simp only [kz, k1, k7] at H3
  have L0 : (0 : Int32).toInt ≤ x0.toInt + 0 := q9pC (q9evZ w0) (q9evS ae0) (hL _ (List.mem_of_getElem? (i := 0) rfl))
  have L1 : (0 : Int32).toInt ≤ x2.toInt + 0 := q9pC (q9evZ w0) (q9evS ae2) (hL _ (List.mem_of_getElem? (i := 1) rfl))
  have L2 : x2.toInt ≤ (Int32.ofInt 7).toInt + 0 := q9pC (q9evS ae2) (q9evC w0 7) (hL _ (List.mem_of_getElem? (i := 2) rfl))
  have e9 : (Int32.ofInt 1 <<< (Int32.ofInt x2.toInt &&& 31)).toInt = x3.toInt := by
    rw [q9oI_of]
    exact congrArg Int32.toInt (Value.int.inj (Option.some.inj (X2 : some (Value.int (Int32.ofInt 1 <<< (x2 &&& 31))) = some (.int x3))))
  have hw : q9agw T N x0.toInt = some x3.toInt := by
    unfold q9agw
    rw [H0, H1, if_pos (by omega), e9]
  have hr := q9agw_rng hw
  have h4 : q9agw T N x0.toInt = some x4.toInt := H3
  rw [hw] at h4
  have h5 := Option.some.inj h4
  have u_ : q9upN w 6 [] 0 = .int 0 := q9upN_of (by decide) w0
  have u0 : q9upN w 6 [] 1 = .int x0 := q9upN_of (by decide) ae0
  have u1 : q9upN w 6 [] 2 = .int x1 := q9upN_of (by decide) ae1
  have u2 : q9upN w 6 [] 3 = .int x2 := q9upN_of (by decide) ae2
  have u3 : q9upN w 6 [] 4 = .int x3 := q9upN_of (by decide) ae3
  have u4 : q9upN w 6 [] 5 = .int x4 := q9upN_of (by decide) ae4
  refine ⟨[], fun i9 p9 hq9 => ?_, fun _ h => absurd h List.not_mem_nil, List.forall_mem_cons.mpr ⟨?_, List.forall_mem_cons.mpr ⟨?_, fun _ h => absurd h List.not_mem_nil⟩⟩⟩
  · exact nomatch (show (none : Option (Nat × q9AV × q9AV × q9ET)) = some p9 from hq9)
  · exact q9th_tC (d := 0) (q9evS u3) (q9evS u4) (by omega)
  · exact q9th_tC (d := 0) (q9evS u4) (q9evS u3) (by omega)
theorem q9ru_ag0 (hT : ∀ i, 0 ≤ T i ∧ T i ≤ 255) (hN : 0 ≤ N ∧ N ≤ 400) (hSc : 0 ≤ Sc 1 ∧ Sc 1 ≤ 400 → N = Sc 1) : q9ruOK (fO T N P J t0 Sc) q9R_ag0 := by
  intro w w0 hA hX hL hV hR
  obtain ⟨x0, ae0, -, -⟩ := hA 0 0 rfl
  have kz : (0 : Int32).toInt = 0 := rfl
  have k400 : (Int32.ofInt 400).toInt = 400 := q9oI_toInt (by decide)
  have L0 : (0 : Int32).toInt ≤ x0.toInt + 0 := q9pC (q9evZ w0) (q9evS ae0) (hL _ (List.mem_of_getElem? (i := 0) rfl))
  have L1 : x0.toInt ≤ (Int32.ofInt 400).toInt + 0 := q9pC (q9evS ae0) (q9evC w0 400) (hL _ (List.mem_of_getElem? (i := 1) rfl))
  have hag : q9agE T N P J x0.toInt x0.toInt 0 := ⟨0, rfl, rfl⟩
  have rg0 : (0 : Int) ≤ 0 ∧ (0 : Int) ≤ 0 := by omega
  obtain ⟨x1, nt1⟩ : ∃ x : Int32, x.toInt = 0 := ⟨Int32.ofInt (0), q9oI_toInt (by omega)⟩
  have u_ : q9upN w 2 [.int x1] 0 = .int 0 := q9upN_of (by decide) w0
  have u0 : q9upN w 2 [.int x1] 1 = .int x0 := q9upN_of (by decide) ae0
  have u1 : q9upN w 2 [.int x1] 2 = .int x1 := q9upN_at (by decide)
  refine ⟨[.int x1], fun i9 p9 hq9 => ?_, fun _ h => absurd h List.not_mem_nil, fun _ h => absurd h List.not_mem_nil⟩
  · match i9, hq9 with
    | 0, hq9 =>
      have hp9 : ((1488, (1, 0), (1, 0), (0, 0, 0)) : Nat × q9AV × q9AV × q9ET) = p9 := Option.some.inj hq9
      subst hp9
      exact ⟨⟨x1, rfl, by rw [nt1]; exact rg0.1, by rw [nt1]; exact rg0.2⟩, (q9th_tX (T := T) (N := N) (P := P) (J := J) (t0 := t0) (Sc := Sc) (q9evS u0) (q9evS u0) (q9evS u1) (by rw [q9FF_1488, nt1]; exact (q9agE_V hag)) (by decide)).trans (congrArg some (q9evS u1))⟩
    | k9 + 1, hq9 => exact nomatch (show (none : Option (Nat × q9AV × q9AV × q9ET)) = some p9 from hq9)
theorem q9ru_agl (hT : ∀ i, 0 ≤ T i ∧ T i ≤ 255) (hN : 0 ≤ N ∧ N ≤ 400) (hSc : 0 ≤ Sc 1 ∧ Sc 1 ≤ 400 → N = Sc 1) : q9ruOK (fO T N P J t0 Sc) q9R_agl := by
  intro w w0 hA hX hL hV hR
  obtain ⟨x0, ae0, -, -⟩ := hA 0 0 rfl
  obtain ⟨x1, ae1, -, -⟩ := hA 1 0 rfl
  obtain ⟨x2, ae2, -, -⟩ := hA 2 0 rfl
  obtain ⟨x3, ae3, -, -⟩ := hA 3 0 rfl
  obtain ⟨x4, ae4, -, -⟩ := hA 4 0 rfl
  obtain ⟨x5, ae5, -, -⟩ := hA 5 0 rfl
  obtain ⟨x6, ae6, -, -⟩ := hA 6 0 rfl
  have kz : (0 : Int32).toInt = 0 := rfl
  have k44 : (Int32.ofInt 44).toInt = 44 := q9oI_toInt (by decide)
  have k255 : (Int32.ofInt 255).toInt = 255 := q9oI_toInt (by decide)
  have V0 := q9pV (T := T) (N := N) (P := P) (J := J) (t0 := t0) (Sc := Sc) (op := 1272) (n := 0) (q9evS ae1) (q9evZ w0) (hV _ (List.mem_of_getElem? (i := 0) rfl)) (by decide)
  rw [q9FF_1272] at V0
  have K0 := Option.some.inj V0
  try simp only [kz, k44, k255] at K0
  have X0 := q9th_pX (T := T) (N := N) (P := P) (J := J) (t0 := t0) (Sc := Sc) (op := 1273) (q9evS ae1) (q9evZ w0) (q9evS ae2) (hX _ (List.mem_of_getElem? (i := 0) rfl)) (by decide)
  rw [q9FF_1273] at X0
  have H0 := Option.some.inj X0
  try simp only [kz, k44, k255] at H0
  have X1 := q9th_pX (T := T) (N := N) (P := P) (J := J) (t0 := t0) (Sc := Sc) (op := 1002) (q9evS ae2) (q9evZ w0) (q9evS ae3) (hX _ (List.mem_of_getElem? (i := 1) rfl)) (by decide)
  rw [q9FF_1002] at X1
  have H1 := Option.some.inj X1
  try simp only [kz, k44, k255] at H1
  have X2 := q9th_pX (T := T) (N := N) (P := P) (J := J) (t0 := t0) (Sc := Sc) (op := 1009) (q9evS ae3) (q9evC w0 44) (q9evS ae4) (hX _ (List.mem_of_getElem? (i := 2) rfl)) (by decide)
  rw [q9FF_1009] at X2
  have H2 := Option.some.inj X2
  try simp only [kz, k44, k255] at H2
  have L0 : (0 : Int32).toInt ≤ x0.toInt + 0 := q9pC (q9evZ w0) (q9evS ae0) (hL _ (List.mem_of_getElem? (i := 0) rfl))
  have L1 : (0 : Int32).toInt ≤ x1.toInt + 0 := q9pC (q9evZ w0) (q9evS ae1) (hL _ (List.mem_of_getElem? (i := 1) rfl))
  have L2 : (0 : Int32).toInt ≤ x3.toInt + 0 := q9pC (q9evZ w0) (q9evS ae3) (hL _ (List.mem_of_getElem? (i := 2) rfl))
  have X3 := q9th_pX (T := T) (N := N) (P := P) (J := J) (t0 := t0) (Sc := Sc) (op := 1480) (q9evS ae1) (q9evZ w0) (q9evS ae5) (hX _ (List.mem_of_getElem? (i := 3) rfl)) (by decide)
  rw [q9FF_1480] at X3
  have H3 := X3
  try simp only [kz, k44, k255] at H3
  have X4 := q9th_pX (T := T) (N := N) (P := P) (J := J) (t0 := t0) (Sc := Sc) (op := 1488) (q9evS ae0) (q9evS ae1) (q9evS ae6) (hX _ (List.mem_of_getElem? (i := 4) rfl)) (by decide)
  rw [q9FF_1488] at X4
  have H4 := q9chV_of X4
  try simp only [kz, k44, k255] at H4
  have L3 : (0 : Int32).toInt ≤ x5.toInt + 0 := q9pC (q9evZ w0) (q9evS ae5) (hL _ (List.mem_of_getElem? (i := 3) rfl))
  have L4 : x5.toInt ≤ (Int32.ofInt 255).toInt + 0 := q9pC (q9evS ae5) (q9evC w0 255) (hL _ (List.mem_of_getElem? (i := 4) rfl))
  have L5 : (0 : Int32).toInt ≤ x6.toInt + 0 := q9pC (q9evZ w0) (q9evS ae6) (hL _ (List.mem_of_getElem? (i := 5) rfl))
  have L6 : x6.toInt ≤ (Int32.ofInt 255).toInt + 0 := q9pC (q9evS ae6) (q9evC w0 255) (hL _ (List.mem_of_getElem? (i := 6) rfl))
  have L7 : x4.toInt ≤ (0 : Int32).toInt + 0 := q9pC (q9evS ae4) (q9evZ w0) (hL _ (List.mem_of_getElem? (i := 7) rfl))
  have k0 : (q9aimI T N P J x1.toInt).1 = 0 := K0
  have q0 : (q9aimI T N P J x1.toInt).2 = x2.toInt := H0
  have s0 : q9spI T N x2.toInt = x3.toInt := H1
  have w5 : q9agw T N x1.toInt = some x5.toInt := H3
  have g6 : q9agE T N P J x0.toInt x1.toInt x6.toInt := H4
  have hn : q9byI T N x3.toInt ≠ 44 := q9is_0 H2 (by omega)
  have hag : q9agA T N P J x0.toInt (q9orI x6.toInt x5.toInt) := ⟨x1.toInt, x6.toInt, x5.toInt, g6, k0, by rw [q0, s0]; exact hn, w5, rfl⟩
  have hr := q9agA_rng hag
  have rg0 : (0 : Int) ≤ (q9orI x6.toInt x5.toInt) ∧ ((q9orI x6.toInt x5.toInt) : Int) ≤ 255 := hr
  obtain ⟨x7, nt7⟩ : ∃ x : Int32, x.toInt = (q9orI x6.toInt x5.toInt) := ⟨Int32.ofInt ((q9orI x6.toInt x5.toInt)), q9oI_toInt (by omega)⟩
  have u_ : q9upN w 8 [.int x7] 0 = .int 0 := q9upN_of (by decide) w0
  have u0 : q9upN w 8 [.int x7] 1 = .int x0 := q9upN_of (by decide) ae0
  have u1 : q9upN w 8 [.int x7] 2 = .int x1 := q9upN_of (by decide) ae1
  have u2 : q9upN w 8 [.int x7] 3 = .int x2 := q9upN_of (by decide) ae2
  have u3 : q9upN w 8 [.int x7] 4 = .int x3 := q9upN_of (by decide) ae3
  have u4 : q9upN w 8 [.int x7] 5 = .int x4 := q9upN_of (by decide) ae4
  have u5 : q9upN w 8 [.int x7] 6 = .int x5 := q9upN_of (by decide) ae5
  have u6 : q9upN w 8 [.int x7] 7 = .int x6 := q9upN_of (by decide) ae6
  have u7 : q9upN w 8 [.int x7] 8 = .int x7 := q9upN_at (by decide)
  refine ⟨[.int x7], fun i9 p9 hq9 => ?_, List.forall_mem_cons.mpr ⟨?_, fun _ h => absurd h List.not_mem_nil⟩, fun _ h => absurd h List.not_mem_nil⟩
  · match i9, hq9 with
    | 0, hq9 =>
      have hp9 : ((1481, (1, 0), (0, 0), (0, 0, 255)) : Nat × q9AV × q9AV × q9ET) = p9 := Option.some.inj hq9
      subst hp9
      exact ⟨⟨x7, rfl, by rw [nt7]; exact rg0.1, by rw [nt7]; exact rg0.2⟩, (q9th_tX (T := T) (N := N) (P := P) (J := J) (t0 := t0) (Sc := Sc) (q9evS u0) (q9evZ u_) (q9evS u7) (by rw [q9FF_1481, nt7]; exact (q9agA_V hag)) (by decide)).trans (congrArg some (q9evS u7))⟩
    | k9 + 1, hq9 => exact nomatch (show (none : Option (Nat × q9AV × q9AV × q9ET)) = some p9 from hq9)
  · exact q9tB (T := T) (N := N) (P := P) (J := J) (t0 := t0) (Sc := Sc) (q9evS u6) (q9evS u5) (q9evS u7) (show some (Value.int (x6 ||| x5)) = some (.int x7) from congrArg (fun z => some (Value.int z)) (Int32.toInt_inj.mp (by rw [nt7, q9or_of])))
theorem q9ru_agn (hT : ∀ i, 0 ≤ T i ∧ T i ≤ 255) (hN : 0 ≤ N ∧ N ≤ 400) (hSc : 0 ≤ Sc 1 ∧ Sc 1 ≤ 400 → N = Sc 1) : q9ruOK (fO T N P J t0 Sc) q9R_agn := by
  intro w w0 hA hX hL hV hR
  obtain ⟨x0, ae0, -, -⟩ := hA 0 0 rfl
  obtain ⟨x1, ae1, -, -⟩ := hA 1 0 rfl
  obtain ⟨x2, ae2, -, -⟩ := hA 2 0 rfl
  obtain ⟨x3, ae3, -, -⟩ := hA 3 0 rfl
  obtain ⟨x4, ae4, -, -⟩ := hA 4 0 rfl
  obtain ⟨x5, ae5, -, -⟩ := hA 5 0 rfl
  obtain ⟨x6, ae6, -, -⟩ := hA 6 0 rfl
  obtain ⟨x7, ae7, -, -⟩ := hA 7 0 rfl
  have kz : (0 : Int32).toInt = 0 := rfl
  have k1 : (Int32.ofInt 1).toInt = 1 := q9oI_toInt (by decide)
  have k44 : (Int32.ofInt 44).toInt = 44 := q9oI_toInt (by decide)
  have k255 : (Int32.ofInt 255).toInt = 255 := q9oI_toInt (by decide)
  have V0 := q9pV (T := T) (N := N) (P := P) (J := J) (t0 := t0) (Sc := Sc) (op := 1272) (n := 0) (q9evS ae1) (q9evZ w0) (hV _ (List.mem_of_getElem? (i := 0) rfl)) (by decide)
  rw [q9FF_1272] at V0
  have K0 := Option.some.inj V0
  try simp only [kz, k1, k44, k255] at K0
  have X0 := q9th_pX (T := T) (N := N) (P := P) (J := J) (t0 := t0) (Sc := Sc) (op := 1273) (q9evS ae1) (q9evZ w0) (q9evS ae2) (hX _ (List.mem_of_getElem? (i := 0) rfl)) (by decide)
  rw [q9FF_1273] at X0
  have H0 := Option.some.inj X0
  try simp only [kz, k1, k44, k255] at H0
  have X1 := q9th_pX (T := T) (N := N) (P := P) (J := J) (t0 := t0) (Sc := Sc) (op := 1002) (q9evS ae2) (q9evZ w0) (q9evS ae3) (hX _ (List.mem_of_getElem? (i := 1) rfl)) (by decide)
  rw [q9FF_1002] at X1
  have H1 := Option.some.inj X1
  try simp only [kz, k1, k44, k255] at H1
  have X2 := q9th_pX (T := T) (N := N) (P := P) (J := J) (t0 := t0) (Sc := Sc) (op := 1009) (q9evS ae3) (q9evC w0 44) (q9evS ae4) (hX _ (List.mem_of_getElem? (i := 2) rfl)) (by decide)
  rw [q9FF_1009] at X2
  have H2 := Option.some.inj X2
  try simp only [kz, k1, k44, k255] at H2
  have L0 : (0 : Int32).toInt ≤ x0.toInt + 0 := q9pC (q9evZ w0) (q9evS ae0) (hL _ (List.mem_of_getElem? (i := 0) rfl))
  have L1 : (0 : Int32).toInt ≤ x1.toInt + 0 := q9pC (q9evZ w0) (q9evS ae1) (hL _ (List.mem_of_getElem? (i := 1) rfl))
  have L2 : (0 : Int32).toInt ≤ x3.toInt + 0 := q9pC (q9evZ w0) (q9evS ae3) (hL _ (List.mem_of_getElem? (i := 2) rfl))
  have X3 := q9th_pX (T := T) (N := N) (P := P) (J := J) (t0 := t0) (Sc := Sc) (op := 1480) (q9evS ae1) (q9evZ w0) (q9evS ae5) (hX _ (List.mem_of_getElem? (i := 3) rfl)) (by decide)
  rw [q9FF_1480] at X3
  have H3 := X3
  try simp only [kz, k1, k44, k255] at H3
  have X4 := q9th_pX (T := T) (N := N) (P := P) (J := J) (t0 := t0) (Sc := Sc) (op := 1488) (q9evS ae0) (q9evS ae1) (q9evS ae6) (hX _ (List.mem_of_getElem? (i := 4) rfl)) (by decide)
  rw [q9FF_1488] at X4
  have H4 := q9chV_of X4
  try simp only [kz, k1, k44, k255] at H4
  have L3 : (0 : Int32).toInt ≤ x5.toInt + 0 := q9pC (q9evZ w0) (q9evS ae5) (hL _ (List.mem_of_getElem? (i := 3) rfl))
  have L4 : x5.toInt ≤ (Int32.ofInt 255).toInt + 0 := q9pC (q9evS ae5) (q9evC w0 255) (hL _ (List.mem_of_getElem? (i := 4) rfl))
  have L5 : (0 : Int32).toInt ≤ x6.toInt + 0 := q9pC (q9evZ w0) (q9evS ae6) (hL _ (List.mem_of_getElem? (i := 5) rfl))
  have L6 : x6.toInt ≤ (Int32.ofInt 255).toInt + 0 := q9pC (q9evS ae6) (q9evC w0 255) (hL _ (List.mem_of_getElem? (i := 6) rfl))
  have L7 : (Int32.ofInt 1).toInt ≤ x4.toInt + 0 := q9pC (q9evC w0 1) (q9evS ae4) (hL _ (List.mem_of_getElem? (i := 7) rfl))
  have L8 : x7.toInt ≤ x3.toInt + 1 := q9pC (q9evS ae7) (q9evS ae3) (hL _ (List.mem_of_getElem? (i := 8) rfl))
  have L9 : x3.toInt ≤ x7.toInt + (-1) := q9pC (q9evS ae3) (q9evS ae7) (hL _ (List.mem_of_getElem? (i := 9) rfl))
  have k0 : (q9aimI T N P J x1.toInt).1 = 0 := K0
  have q0 : (q9aimI T N P J x1.toInt).2 = x2.toInt := H0
  have s0 : q9spI T N x2.toInt = x3.toInt := H1
  have w5 : q9agw T N x1.toInt = some x5.toInt := H3
  have g6 : q9agE T N P J x0.toInt x1.toInt x6.toInt := H4
  have hn : q9byI T N x3.toInt = 44 := q9is_1 H2 (by omega)
  have hag : q9agE T N P J x0.toInt x7.toInt (q9orI x6.toInt x5.toInt) := by
    obtain ⟨k, hk⟩ := g6
    exact ⟨k + 1, x1.toInt, x6.toInt, x5.toInt, hk, ⟨k0, by rw [q0, s0]; exact hn, by rw [q0, s0]; omega⟩, w5, rfl⟩
  have hr := q9agE_rng hag
  have rg0 : (0 : Int) ≤ (q9orI x6.toInt x5.toInt) ∧ ((q9orI x6.toInt x5.toInt) : Int) ≤ 255 := hr
  obtain ⟨x8, nt8⟩ : ∃ x : Int32, x.toInt = (q9orI x6.toInt x5.toInt) := ⟨Int32.ofInt ((q9orI x6.toInt x5.toInt)), q9oI_toInt (by omega)⟩
  have u_ : q9upN w 9 [.int x8] 0 = .int 0 := q9upN_of (by decide) w0
  have u0 : q9upN w 9 [.int x8] 1 = .int x0 := q9upN_of (by decide) ae0
  have u1 : q9upN w 9 [.int x8] 2 = .int x1 := q9upN_of (by decide) ae1
  have u2 : q9upN w 9 [.int x8] 3 = .int x2 := q9upN_of (by decide) ae2
  have u3 : q9upN w 9 [.int x8] 4 = .int x3 := q9upN_of (by decide) ae3
  have u4 : q9upN w 9 [.int x8] 5 = .int x4 := q9upN_of (by decide) ae4
  have u5 : q9upN w 9 [.int x8] 6 = .int x5 := q9upN_of (by decide) ae5
  have u6 : q9upN w 9 [.int x8] 7 = .int x6 := q9upN_of (by decide) ae6
  have u7 : q9upN w 9 [.int x8] 8 = .int x7 := q9upN_of (by decide) ae7
  have u8 : q9upN w 9 [.int x8] 9 = .int x8 := q9upN_at (by decide)
  refine ⟨[.int x8], fun i9 p9 hq9 => ?_, List.forall_mem_cons.mpr ⟨?_, fun _ h => absurd h List.not_mem_nil⟩, fun _ h => absurd h List.not_mem_nil⟩
  · match i9, hq9 with
    | 0, hq9 =>
      have hp9 : ((1488, (1, 0), (8, 0), (0, 0, 255)) : Nat × q9AV × q9AV × q9ET) = p9 := Option.some.inj hq9
      subst hp9
      exact ⟨⟨x8, rfl, by rw [nt8]; exact rg0.1, by rw [nt8]; exact rg0.2⟩, (q9th_tX (T := T) (N := N) (P := P) (J := J) (t0 := t0) (Sc := Sc) (q9evS u0) (q9evS u7) (q9evS u8) (by rw [q9FF_1488, nt8]; exact (q9agE_V hag)) (by decide)).trans (congrArg some (q9evS u8))⟩
    | k9 + 1, hq9 => exact nomatch (show (none : Option (Nat × q9AV × q9AV × q9ET)) = some p9 from hq9)
  · exact q9tB (T := T) (N := N) (P := P) (J := J) (t0 := t0) (Sc := Sc) (q9evS u6) (q9evS u5) (q9evS u8) (show some (Value.int (x6 ||| x5)) = some (.int x8) from congrArg (fun z => some (Value.int z)) (Int32.toInt_inj.mp (by rw [nt8, q9or_of])))
theorem q9ru_orC (hT : ∀ i, 0 ≤ T i ∧ T i ≤ 255) (hN : 0 ≤ N ∧ N ≤ 400) (hSc : 0 ≤ Sc 1 ∧ Sc 1 ≤ 400 → N = Sc 1) : q9ruOK (fO T N P J t0 Sc) q9R_orC := by
  intro w w0 hA hX hL hV hR
  obtain ⟨x0, ae0, -, -⟩ := hA 0 0 rfl
  obtain ⟨x1, ae1, -, -⟩ := hA 1 0 rfl
  obtain ⟨x2, ae2, -, -⟩ := hA 2 0 rfl
  obtain ⟨x3, ae3, -, -⟩ := hA 3 0 rfl
  obtain ⟨x4, ae4, -, -⟩ := hA 4 0 rfl
  obtain ⟨x5, ae5, -, -⟩ := hA 5 0 rfl
  have kz : (0 : Int32).toInt = 0 := rfl
  have k255 : (Int32.ofInt 255).toInt = 255 := q9oI_toInt (by decide)
  have X0 := q9pB (T := T) (N := N) (P := P) (J := J) (t0 := t0) (Sc := Sc) (q9evS ae0) (q9evS ae1) (q9evS ae3) (hX _ (List.mem_of_getElem? (i := 0) rfl))
  have X1 := q9pB (T := T) (N := N) (P := P) (J := J) (t0 := t0) (Sc := Sc) (q9evS ae3) (q9evS ae2) (q9evS ae4) (hX _ (List.mem_of_getElem? (i := 1) rfl))
  have X2 := q9pB (T := T) (N := N) (P := P) (J := J) (t0 := t0) (Sc := Sc) (q9evS ae1) (q9evS ae2) (q9evS ae5) (hX _ (List.mem_of_getElem? (i := 2) rfl))
  have L0 : (0 : Int32).toInt ≤ x0.toInt + 0 := q9pC (q9evZ w0) (q9evS ae0) (hL _ (List.mem_of_getElem? (i := 0) rfl))
  have L1 : x0.toInt ≤ (Int32.ofInt 255).toInt + 0 := q9pC (q9evS ae0) (q9evC w0 255) (hL _ (List.mem_of_getElem? (i := 1) rfl))
  have L2 : (0 : Int32).toInt ≤ x1.toInt + 0 := q9pC (q9evZ w0) (q9evS ae1) (hL _ (List.mem_of_getElem? (i := 2) rfl))
  have L3 : x1.toInt ≤ (Int32.ofInt 255).toInt + 0 := q9pC (q9evS ae1) (q9evC w0 255) (hL _ (List.mem_of_getElem? (i := 3) rfl))
  have L4 : (0 : Int32).toInt ≤ x2.toInt + 0 := q9pC (q9evZ w0) (q9evS ae2) (hL _ (List.mem_of_getElem? (i := 4) rfl))
  have L5 : x2.toInt ≤ (Int32.ofInt 255).toInt + 0 := q9pC (q9evS ae2) (q9evC w0 255) (hL _ (List.mem_of_getElem? (i := 5) rfl))
  have L6 : (0 : Int32).toInt ≤ x3.toInt + 0 := q9pC (q9evZ w0) (q9evS ae3) (hL _ (List.mem_of_getElem? (i := 6) rfl))
  have L7 : x3.toInt ≤ (Int32.ofInt 255).toInt + 0 := q9pC (q9evS ae3) (q9evC w0 255) (hL _ (List.mem_of_getElem? (i := 7) rfl))
  have L8 : (0 : Int32).toInt ≤ x4.toInt + 0 := q9pC (q9evZ w0) (q9evS ae4) (hL _ (List.mem_of_getElem? (i := 8) rfl))
  have L9 : x4.toInt ≤ (Int32.ofInt 255).toInt + 0 := q9pC (q9evS ae4) (q9evC w0 255) (hL _ (List.mem_of_getElem? (i := 9) rfl))
  have L10 : (0 : Int32).toInt ≤ x5.toInt + 0 := q9pC (q9evZ w0) (q9evS ae5) (hL _ (List.mem_of_getElem? (i := 10) rfl))
  have L11 : x5.toInt ≤ (Int32.ofInt 255).toInt + 0 := q9pC (q9evS ae5) (q9evC w0 255) (hL _ (List.mem_of_getElem? (i := 11) rfl))
  have v0 : x0 ||| x1 = x3 := Value.int.inj (Option.some.inj (X0 : some (Value.int (x0 ||| x1)) = some (.int x3)))
  have v1 : x3 ||| x2 = x4 := Value.int.inj (Option.some.inj (X1 : some (Value.int (x3 ||| x2)) = some (.int x4)))
  have v2 : x1 ||| x2 = x5 := Value.int.inj (Option.some.inj (X2 : some (Value.int (x1 ||| x2)) = some (.int x5)))
  have u_ : q9upN w 7 [] 0 = .int 0 := q9upN_of (by decide) w0
  have u0 : q9upN w 7 [] 1 = .int x0 := q9upN_of (by decide) ae0
  have u1 : q9upN w 7 [] 2 = .int x1 := q9upN_of (by decide) ae1
  have u2 : q9upN w 7 [] 3 = .int x2 := q9upN_of (by decide) ae2
  have u3 : q9upN w 7 [] 4 = .int x3 := q9upN_of (by decide) ae3
  have u4 : q9upN w 7 [] 5 = .int x4 := q9upN_of (by decide) ae4
  have u5 : q9upN w 7 [] 6 = .int x5 := q9upN_of (by decide) ae5
  refine ⟨[], fun i9 p9 hq9 => ?_, List.forall_mem_cons.mpr ⟨?_, fun _ h => absurd h List.not_mem_nil⟩, fun _ h => absurd h List.not_mem_nil⟩
  · exact nomatch (show (none : Option (Nat × q9AV × q9AV × q9ET)) = some p9 from hq9)
  · exact q9tB (T := T) (N := N) (P := P) (J := J) (t0 := t0) (Sc := Sc) (q9evS u0) (q9evS u5) (q9evS u4) (show some (Value.int (x0 ||| x5)) = some (.int x4) by rw [← v2, ← Int32.or_assoc, v0, v1])
theorem q9ru_orR (hT : ∀ i, 0 ≤ T i ∧ T i ≤ 255) (hN : 0 ≤ N ∧ N ≤ 400) (hSc : 0 ≤ Sc 1 ∧ Sc 1 ≤ 400 → N = Sc 1) : q9ruOK (fO T N P J t0 Sc) q9R_orR := by
  intro w w0 hA hX hL hV hR
  obtain ⟨x0, ae0, -, -⟩ := hA 0 0 rfl
  obtain ⟨x1, ae1, -, -⟩ := hA 1 0 rfl
  obtain ⟨x2, ae2, -, -⟩ := hA 2 0 rfl
  have kz : (0 : Int32).toInt = 0 := rfl
  have k255 : (Int32.ofInt 255).toInt = 255 := q9oI_toInt (by decide)
  have X0 := q9pB (T := T) (N := N) (P := P) (J := J) (t0 := t0) (Sc := Sc) (q9evS ae0) (q9evS ae1) (q9evS ae2) (hX _ (List.mem_of_getElem? (i := 0) rfl))
  have L0 : (0 : Int32).toInt ≤ x0.toInt + 0 := q9pC (q9evZ w0) (q9evS ae0) (hL _ (List.mem_of_getElem? (i := 0) rfl))
  have L1 : x0.toInt ≤ (Int32.ofInt 255).toInt + 0 := q9pC (q9evS ae0) (q9evC w0 255) (hL _ (List.mem_of_getElem? (i := 1) rfl))
  have L2 : (0 : Int32).toInt ≤ x1.toInt + 0 := q9pC (q9evZ w0) (q9evS ae1) (hL _ (List.mem_of_getElem? (i := 2) rfl))
  have L3 : x1.toInt ≤ (Int32.ofInt 255).toInt + 0 := q9pC (q9evS ae1) (q9evC w0 255) (hL _ (List.mem_of_getElem? (i := 3) rfl))
  have v0 : x0 ||| x1 = x2 := Value.int.inj (Option.some.inj (X0 : some (Value.int (x0 ||| x1)) = some (.int x2)))
  have hr := q9or_sm (x := x0) (y := x1) (by omega) (by omega)
  rw [v0] at hr
  have u_ : q9upN w 4 [] 0 = .int 0 := q9upN_of (by decide) w0
  have u0 : q9upN w 4 [] 1 = .int x0 := q9upN_of (by decide) ae0
  have u1 : q9upN w 4 [] 2 = .int x1 := q9upN_of (by decide) ae1
  have u2 : q9upN w 4 [] 3 = .int x2 := q9upN_of (by decide) ae2
  refine ⟨[], fun i9 p9 hq9 => ?_, fun _ h => absurd h List.not_mem_nil, List.forall_mem_cons.mpr ⟨?_, List.forall_mem_cons.mpr ⟨?_, fun _ h => absurd h List.not_mem_nil⟩⟩⟩
  · exact nomatch (show (none : Option (Nat × q9AV × q9AV × q9ET)) = some p9 from hq9)
  · exact q9th_tC (d := 0) (q9evZ u_) (q9evS u2) (by omega)
  · exact q9th_tC (d := 0) (q9evS u2) (q9evC u_ 255) (by omega)
theorem q9ru_or0 (hT : ∀ i, 0 ≤ T i ∧ T i ≤ 255) (hN : 0 ≤ N ∧ N ≤ 400) (hSc : 0 ≤ Sc 1 ∧ Sc 1 ≤ 400 → N = Sc 1) : q9ruOK (fO T N P J t0 Sc) q9R_or0 := by
  intro w w0 hA hX hL hV hR
  obtain ⟨x0, ae0, -, -⟩ := hA 0 0 rfl
  obtain ⟨x1, ae1, -, -⟩ := hA 1 0 rfl
  have kz : (0 : Int32).toInt = 0 := rfl
  have k255 : (Int32.ofInt 255).toInt = 255 := q9oI_toInt (by decide)
  have L0 : (0 : Int32).toInt ≤ x0.toInt + 0 := q9pC (q9evZ w0) (q9evS ae0) (hL _ (List.mem_of_getElem? (i := 0) rfl))
  have L1 : x0.toInt ≤ (Int32.ofInt 255).toInt + 0 := q9pC (q9evS ae0) (q9evC w0 255) (hL _ (List.mem_of_getElem? (i := 1) rfl))
  have L2 : x1.toInt ≤ (0 : Int32).toInt + 0 := q9pC (q9evS ae1) (q9evZ w0) (hL _ (List.mem_of_getElem? (i := 2) rfl))
  have L3 : (0 : Int32).toInt ≤ x1.toInt + 0 := q9pC (q9evZ w0) (q9evS ae1) (hL _ (List.mem_of_getElem? (i := 3) rfl))
  have z1 : x1 = 0 := Int32.toInt_inj.mp (by rw [kz]; omega)
  have u_ : q9upN w 3 [] 0 = .int 0 := q9upN_of (by decide) w0
  have u0 : q9upN w 3 [] 1 = .int x0 := q9upN_of (by decide) ae0
  have u1 : q9upN w 3 [] 2 = .int x1 := q9upN_of (by decide) ae1
  refine ⟨[], fun i9 p9 hq9 => ?_, List.forall_mem_cons.mpr ⟨?_, fun _ h => absurd h List.not_mem_nil⟩, fun _ h => absurd h List.not_mem_nil⟩
  · exact nomatch (show (none : Option (Nat × q9AV × q9AV × q9ET)) = some p9 from hq9)
  · exact q9tB (T := T) (N := N) (P := P) (J := J) (t0 := t0) (Sc := Sc) (q9evS u0) (q9evS u1) (q9evS u0) (show some (Value.int (x0 ||| x1)) = some (.int x0) by rw [z1, Int32.or_zero])
theorem q9ru_lb1 (hT : ∀ i, 0 ≤ T i ∧ T i ≤ 255) (hN : 0 ≤ N ∧ N ≤ 400) (hSc : 0 ≤ Sc 1 ∧ Sc 1 ≤ 400 → N = Sc 1) : q9ruOK (fO T N P J t0 Sc) q9R_lb1 := by
  intro w w0 hA hX hL hV hR
  obtain ⟨x0, ae0, -, -⟩ := hA 0 0 rfl
  obtain ⟨x1, ae1, -, -⟩ := hA 1 0 rfl
  obtain ⟨x2, ae2, -, -⟩ := hA 2 0 rfl
  obtain ⟨x3, ae3, -, -⟩ := hA 3 0 rfl
  obtain ⟨x4, ae4, -, -⟩ := hA 4 0 rfl
  obtain ⟨x5, ae5, -, -⟩ := hA 5 0 rfl
  have kz : (0 : Int32).toInt = 0 := rfl
  have k4 : (Int32.ofInt 4).toInt = 4 := q9oI_toInt (by decide)
  have k59 : (Int32.ofInt 59).toInt = 59 := q9oI_toInt (by decide)
  have k60 : (Int32.ofInt 60).toInt = 60 := q9oI_toInt (by decide)
  have V0 := q9pV (T := T) (N := N) (P := P) (J := J) (t0 := t0) (Sc := Sc) (op := 1027) (n := 1) (q9evS ae0) (q9evZ w0) (hV _ (List.mem_of_getElem? (i := 0) rfl)) (by decide)
  rw [q9FF_1027] at V0
  have K0 := q9chV_of V0
  try simp only [kz, k4, k59, k60] at K0
  have X0 := q9th_pX (T := T) (N := N) (P := P) (J := J) (t0 := t0) (Sc := Sc) (op := 1021) (q9evS ae0) (q9evZ w0) (q9evS ae4) (hX _ (List.mem_of_getElem? (i := 0) rfl)) (by decide)
  rw [q9FF_1021] at X0
  have H0 := q9chV_of X0
  try simp only [kz, k4, k59, k60] at H0
  have X1 := q9th_pX (T := T) (N := N) (P := P) (J := J) (t0 := t0) (Sc := Sc) (op := 1022) (q9evS ae0) (q9evZ w0) (q9evS ae3) (hX _ (List.mem_of_getElem? (i := 1) rfl)) (by decide)
  rw [q9FF_1022] at X1
  have H1 := q9chV_of X1
  try simp only [kz, k4, k59, k60] at H1
  have L0 : (0 : Int32).toInt ≤ x0.toInt + 0 := q9pC (q9evZ w0) (q9evS ae0) (hL _ (List.mem_of_getElem? (i := 0) rfl))
  have L1 : (0 : Int32).toInt ≤ x3.toInt + 0 := q9pC (q9evZ w0) (q9evS ae3) (hL _ (List.mem_of_getElem? (i := 1) rfl))
  have L2 : x3.toInt ≤ (Int32.ofInt 60).toInt + 0 := q9pC (q9evS ae3) (q9evC w0 60) (hL _ (List.mem_of_getElem? (i := 2) rfl))
  have L3 : (0 : Int32).toInt ≤ x4.toInt + 0 := q9pC (q9evZ w0) (q9evS ae4) (hL _ (List.mem_of_getElem? (i := 3) rfl))
  have L4 : x4.toInt ≤ (Int32.ofInt 4).toInt + 0 := q9pC (q9evS ae4) (q9evC w0 4) (hL _ (List.mem_of_getElem? (i := 4) rfl))
  have X2 := q9th_pX (T := T) (N := N) (P := P) (J := J) (t0 := t0) (Sc := Sc) (op := 1002) (q9evS ae0) (q9evZ w0) (q9evS ae1) (hX _ (List.mem_of_getElem? (i := 2) rfl)) (by decide)
  rw [q9FF_1002] at X2
  have H2 := Option.some.inj X2
  try simp only [kz, k4, k59, k60] at H2
  have V1 := q9pV (T := T) (N := N) (P := P) (J := J) (t0 := t0) (Sc := Sc) (op := 1013) (n := 1) (q9evS ae1) (q9evZ w0) (hV _ (List.mem_of_getElem? (i := 1) rfl)) (by decide)
  rw [q9FF_1013] at V1
  have K1 := Option.some.inj V1
  try simp only [kz, k4, k59, k60] at K1
  have X3 := q9th_pX (T := T) (N := N) (P := P) (J := J) (t0 := t0) (Sc := Sc) (op := 1003) (q9evS ae1) (q9evZ w0) (q9evS ae2) (hX _ (List.mem_of_getElem? (i := 3) rfl)) (by decide)
  rw [q9FF_1003] at X3
  have H3 := Option.some.inj X3
  try simp only [kz, k4, k59, k60] at H3
  have L5 : x3.toInt ≤ (Int32.ofInt 59).toInt + 0 := q9pC (q9evS ae3) (q9evC w0 59) (hL _ (List.mem_of_getElem? (i := 5) rfl))
  have X4 := q9th_pX (T := T) (N := N) (P := P) (J := J) (t0 := t0) (Sc := Sc) (op := 1481) (q9evS ae2) (q9evZ w0) (q9evS ae5) (hX _ (List.mem_of_getElem? (i := 4) rfl)) (by decide)
  rw [q9FF_1481] at X4
  have H4 := q9chV_of X4
  try simp only [kz, k4, k59, k60] at H4
  obtain ⟨c, hv, hc, h8, h9, -⟩ := K0
  have hd : x4.toInt + 1 = c.2.2.length := q9th_at_of hv hc H0
  have hz : x3.toInt = c.2.1 := q9th_at_of hv hc H1
  have hb : q9spI T N c.1 = x1.toInt := by rw [hc]; exact H2
  obtain ⟨q, st, hst⟩ : ∃ q st, c.2.2 = q :: st := by
    cases hh : c.2.2 with
    | nil => exfalso; rw [hh, List.length_nil] at hd; omega
    | cons q st => exact ⟨q, st, rfl⟩
  have hl2 : c.2.2.length = st.length + 1 := by rw [hst, List.length_cons]
  have hk : q9kbI T N (q9spI T N c.1) = 1 := by rw [hb]; exact K1
  have he : q9weI T N x1.toInt = x2.toInt := H3
  have hbg : q9bgC T N P J c := ⟨hv, h8, h9⟩
  have hg : q9agA T N P J x2.toInt x5.toInt := H4
  have hlb : q9lbE T N P J x3.toInt x5.toInt := ⟨c, hbg, hz.symm, .inl ⟨hk, by rw [hb, he]; exact hg⟩⟩
  have u_ : q9upN w 7 [] 0 = .int 0 := q9upN_of (by decide) w0
  have u0 : q9upN w 7 [] 1 = .int x0 := q9upN_of (by decide) ae0
  have u1 : q9upN w 7 [] 2 = .int x1 := q9upN_of (by decide) ae1
  have u2 : q9upN w 7 [] 3 = .int x2 := q9upN_of (by decide) ae2
  have u3 : q9upN w 7 [] 4 = .int x3 := q9upN_of (by decide) ae3
  have u4 : q9upN w 7 [] 5 = .int x4 := q9upN_of (by decide) ae4
  have u5 : q9upN w 7 [] 6 = .int x5 := q9upN_of (by decide) ae5
  refine ⟨[], fun i9 p9 hq9 => ?_, List.forall_mem_cons.mpr ⟨?_, fun _ h => absurd h List.not_mem_nil⟩, fun _ h => absurd h List.not_mem_nil⟩
  · exact nomatch (show (none : Option (Nat × q9AV × q9AV × q9ET)) = some p9 from hq9)
  · exact q9th_tX (T := T) (N := N) (P := P) (J := J) (t0 := t0) (Sc := Sc) (q9evS u3) (q9evZ u_) (q9evS u5) (by rw [q9FF_1482]; exact (q9lbE_V hlb)) (by decide)
theorem q9ru_lb2 (hT : ∀ i, 0 ≤ T i ∧ T i ≤ 255) (hN : 0 ≤ N ∧ N ≤ 400) (hSc : 0 ≤ Sc 1 ∧ Sc 1 ≤ 400 → N = Sc 1) : q9ruOK (fO T N P J t0 Sc) q9R_lb2 := by
  intro w w0 hA hX hL hV hR
  obtain ⟨x0, ae0, -, -⟩ := hA 0 0 rfl
  obtain ⟨x1, ae1, -, -⟩ := hA 1 0 rfl
  obtain ⟨x2, ae2, -, -⟩ := hA 2 0 rfl
  obtain ⟨x3, ae3, -, -⟩ := hA 3 0 rfl
  obtain ⟨x4, ae4, -, -⟩ := hA 4 0 rfl
  obtain ⟨x5, ae5, -, -⟩ := hA 5 0 rfl
  have kz : (0 : Int32).toInt = 0 := rfl
  have k4 : (Int32.ofInt 4).toInt = 4 := q9oI_toInt (by decide)
  have k59 : (Int32.ofInt 59).toInt = 59 := q9oI_toInt (by decide)
  have k60 : (Int32.ofInt 60).toInt = 60 := q9oI_toInt (by decide)
  have V0 := q9pV (T := T) (N := N) (P := P) (J := J) (t0 := t0) (Sc := Sc) (op := 1027) (n := 1) (q9evS ae0) (q9evZ w0) (hV _ (List.mem_of_getElem? (i := 0) rfl)) (by decide)
  rw [q9FF_1027] at V0
  have K0 := q9chV_of V0
  try simp only [kz, k4, k59, k60] at K0
  have X0 := q9th_pX (T := T) (N := N) (P := P) (J := J) (t0 := t0) (Sc := Sc) (op := 1021) (q9evS ae0) (q9evZ w0) (q9evS ae4) (hX _ (List.mem_of_getElem? (i := 0) rfl)) (by decide)
  rw [q9FF_1021] at X0
  have H0 := q9chV_of X0
  try simp only [kz, k4, k59, k60] at H0
  have X1 := q9th_pX (T := T) (N := N) (P := P) (J := J) (t0 := t0) (Sc := Sc) (op := 1022) (q9evS ae0) (q9evZ w0) (q9evS ae3) (hX _ (List.mem_of_getElem? (i := 1) rfl)) (by decide)
  rw [q9FF_1022] at X1
  have H1 := q9chV_of X1
  try simp only [kz, k4, k59, k60] at H1
  have L0 : (0 : Int32).toInt ≤ x0.toInt + 0 := q9pC (q9evZ w0) (q9evS ae0) (hL _ (List.mem_of_getElem? (i := 0) rfl))
  have L1 : (0 : Int32).toInt ≤ x3.toInt + 0 := q9pC (q9evZ w0) (q9evS ae3) (hL _ (List.mem_of_getElem? (i := 1) rfl))
  have L2 : x3.toInt ≤ (Int32.ofInt 60).toInt + 0 := q9pC (q9evS ae3) (q9evC w0 60) (hL _ (List.mem_of_getElem? (i := 2) rfl))
  have L3 : (0 : Int32).toInt ≤ x4.toInt + 0 := q9pC (q9evZ w0) (q9evS ae4) (hL _ (List.mem_of_getElem? (i := 3) rfl))
  have L4 : x4.toInt ≤ (Int32.ofInt 4).toInt + 0 := q9pC (q9evS ae4) (q9evC w0 4) (hL _ (List.mem_of_getElem? (i := 4) rfl))
  have X2 := q9th_pX (T := T) (N := N) (P := P) (J := J) (t0 := t0) (Sc := Sc) (op := 1002) (q9evS ae0) (q9evZ w0) (q9evS ae1) (hX _ (List.mem_of_getElem? (i := 2) rfl)) (by decide)
  rw [q9FF_1002] at X2
  have H2 := Option.some.inj X2
  try simp only [kz, k4, k59, k60] at H2
  have V1 := q9pV (T := T) (N := N) (P := P) (J := J) (t0 := t0) (Sc := Sc) (op := 1013) (n := 2) (q9evS ae1) (q9evZ w0) (hV _ (List.mem_of_getElem? (i := 1) rfl)) (by decide)
  rw [q9FF_1013] at V1
  have K1 := Option.some.inj V1
  try simp only [kz, k4, k59, k60] at K1
  have X3 := q9th_pX (T := T) (N := N) (P := P) (J := J) (t0 := t0) (Sc := Sc) (op := 1003) (q9evS ae1) (q9evZ w0) (q9evS ae2) (hX _ (List.mem_of_getElem? (i := 3) rfl)) (by decide)
  rw [q9FF_1003] at X3
  have H3 := Option.some.inj X3
  try simp only [kz, k4, k59, k60] at H3
  have L5 : x3.toInt ≤ (Int32.ofInt 59).toInt + 0 := q9pC (q9evS ae3) (q9evC w0 59) (hL _ (List.mem_of_getElem? (i := 5) rfl))
  have X4 := q9th_pX (T := T) (N := N) (P := P) (J := J) (t0 := t0) (Sc := Sc) (op := 1480) (q9evS ae2) (q9evZ w0) (q9evS ae5) (hX _ (List.mem_of_getElem? (i := 4) rfl)) (by decide)
  rw [q9FF_1480] at X4
  have H4 := X4
  try simp only [kz, k4, k59, k60] at H4
  obtain ⟨c, hv, hc, h8, h9, -⟩ := K0
  have hd : x4.toInt + 1 = c.2.2.length := q9th_at_of hv hc H0
  have hz : x3.toInt = c.2.1 := q9th_at_of hv hc H1
  have hb : q9spI T N c.1 = x1.toInt := by rw [hc]; exact H2
  obtain ⟨q, st, hst⟩ : ∃ q st, c.2.2 = q :: st := by
    cases hh : c.2.2 with
    | nil => exfalso; rw [hh, List.length_nil] at hd; omega
    | cons q st => exact ⟨q, st, rfl⟩
  have hl2 : c.2.2.length = st.length + 1 := by rw [hst, List.length_cons]
  have hk : q9kbI T N (q9spI T N c.1) = 2 := by rw [hb]; exact K1
  have he : q9weI T N x1.toInt = x2.toInt := H3
  have hbg : q9bgC T N P J c := ⟨hv, h8, h9⟩
  have hg : q9agw T N x2.toInt = some x5.toInt := H4
  have hlb : q9lbE T N P J x3.toInt x5.toInt := ⟨c, hbg, hz.symm, .inr (.inl ⟨by omega, by omega, by rw [hb, he]; exact hg⟩)⟩
  have hls : q9lsE T N P J x3.toInt x5.toInt := ⟨c, hbg, hz.symm, .inl ⟨hk, by rw [hb, he]; exact hg⟩⟩
  have u_ : q9upN w 7 [] 0 = .int 0 := q9upN_of (by decide) w0
  have u0 : q9upN w 7 [] 1 = .int x0 := q9upN_of (by decide) ae0
  have u1 : q9upN w 7 [] 2 = .int x1 := q9upN_of (by decide) ae1
  have u2 : q9upN w 7 [] 3 = .int x2 := q9upN_of (by decide) ae2
  have u3 : q9upN w 7 [] 4 = .int x3 := q9upN_of (by decide) ae3
  have u4 : q9upN w 7 [] 5 = .int x4 := q9upN_of (by decide) ae4
  have u5 : q9upN w 7 [] 6 = .int x5 := q9upN_of (by decide) ae5
  refine ⟨[], fun i9 p9 hq9 => ?_, List.forall_mem_cons.mpr ⟨?_, List.forall_mem_cons.mpr ⟨?_, fun _ h => absurd h List.not_mem_nil⟩⟩, fun _ h => absurd h List.not_mem_nil⟩
  · exact nomatch (show (none : Option (Nat × q9AV × q9AV × q9ET)) = some p9 from hq9)
  · exact q9th_tX (T := T) (N := N) (P := P) (J := J) (t0 := t0) (Sc := Sc) (q9evS u3) (q9evZ u_) (q9evS u5) (by rw [q9FF_1482]; exact (q9lbE_V hlb)) (by decide)
  · exact q9th_tX (T := T) (N := N) (P := P) (J := J) (t0 := t0) (Sc := Sc) (q9evS u3) (q9evZ u_) (q9evS u5) (by rw [q9FF_1485]; exact (q9lsE_V hls)) (by decide)
theorem q9ru_lb3 (hT : ∀ i, 0 ≤ T i ∧ T i ≤ 255) (hN : 0 ≤ N ∧ N ≤ 400) (hSc : 0 ≤ Sc 1 ∧ Sc 1 ≤ 400 → N = Sc 1) : q9ruOK (fO T N P J t0 Sc) q9R_lb3 := by
  intro w w0 hA hX hL hV hR
  obtain ⟨x0, ae0, -, -⟩ := hA 0 0 rfl
  obtain ⟨x1, ae1, -, -⟩ := hA 1 0 rfl
  obtain ⟨x2, ae2, -, -⟩ := hA 2 0 rfl
  obtain ⟨x3, ae3, -, -⟩ := hA 3 0 rfl
  obtain ⟨x4, ae4, -, -⟩ := hA 4 0 rfl
  obtain ⟨x5, ae5, -, -⟩ := hA 5 0 rfl
  have kz : (0 : Int32).toInt = 0 := rfl
  have k4 : (Int32.ofInt 4).toInt = 4 := q9oI_toInt (by decide)
  have k59 : (Int32.ofInt 59).toInt = 59 := q9oI_toInt (by decide)
  have k60 : (Int32.ofInt 60).toInt = 60 := q9oI_toInt (by decide)
  have V0 := q9pV (T := T) (N := N) (P := P) (J := J) (t0 := t0) (Sc := Sc) (op := 1027) (n := 1) (q9evS ae0) (q9evZ w0) (hV _ (List.mem_of_getElem? (i := 0) rfl)) (by decide)
  rw [q9FF_1027] at V0
  have K0 := q9chV_of V0
  try simp only [kz, k4, k59, k60] at K0
  have X0 := q9th_pX (T := T) (N := N) (P := P) (J := J) (t0 := t0) (Sc := Sc) (op := 1021) (q9evS ae0) (q9evZ w0) (q9evS ae4) (hX _ (List.mem_of_getElem? (i := 0) rfl)) (by decide)
  rw [q9FF_1021] at X0
  have H0 := q9chV_of X0
  try simp only [kz, k4, k59, k60] at H0
  have X1 := q9th_pX (T := T) (N := N) (P := P) (J := J) (t0 := t0) (Sc := Sc) (op := 1022) (q9evS ae0) (q9evZ w0) (q9evS ae3) (hX _ (List.mem_of_getElem? (i := 1) rfl)) (by decide)
  rw [q9FF_1022] at X1
  have H1 := q9chV_of X1
  try simp only [kz, k4, k59, k60] at H1
  have L0 : (0 : Int32).toInt ≤ x0.toInt + 0 := q9pC (q9evZ w0) (q9evS ae0) (hL _ (List.mem_of_getElem? (i := 0) rfl))
  have L1 : (0 : Int32).toInt ≤ x3.toInt + 0 := q9pC (q9evZ w0) (q9evS ae3) (hL _ (List.mem_of_getElem? (i := 1) rfl))
  have L2 : x3.toInt ≤ (Int32.ofInt 60).toInt + 0 := q9pC (q9evS ae3) (q9evC w0 60) (hL _ (List.mem_of_getElem? (i := 2) rfl))
  have L3 : (0 : Int32).toInt ≤ x4.toInt + 0 := q9pC (q9evZ w0) (q9evS ae4) (hL _ (List.mem_of_getElem? (i := 3) rfl))
  have L4 : x4.toInt ≤ (Int32.ofInt 4).toInt + 0 := q9pC (q9evS ae4) (q9evC w0 4) (hL _ (List.mem_of_getElem? (i := 4) rfl))
  have X2 := q9th_pX (T := T) (N := N) (P := P) (J := J) (t0 := t0) (Sc := Sc) (op := 1002) (q9evS ae0) (q9evZ w0) (q9evS ae1) (hX _ (List.mem_of_getElem? (i := 2) rfl)) (by decide)
  rw [q9FF_1002] at X2
  have H2 := Option.some.inj X2
  try simp only [kz, k4, k59, k60] at H2
  have V1 := q9pV (T := T) (N := N) (P := P) (J := J) (t0 := t0) (Sc := Sc) (op := 1013) (n := 3) (q9evS ae1) (q9evZ w0) (hV _ (List.mem_of_getElem? (i := 1) rfl)) (by decide)
  rw [q9FF_1013] at V1
  have K1 := Option.some.inj V1
  try simp only [kz, k4, k59, k60] at K1
  have X3 := q9th_pX (T := T) (N := N) (P := P) (J := J) (t0 := t0) (Sc := Sc) (op := 1003) (q9evS ae1) (q9evZ w0) (q9evS ae2) (hX _ (List.mem_of_getElem? (i := 3) rfl)) (by decide)
  rw [q9FF_1003] at X3
  have H3 := Option.some.inj X3
  try simp only [kz, k4, k59, k60] at H3
  have L5 : x3.toInt ≤ (Int32.ofInt 59).toInt + 0 := q9pC (q9evS ae3) (q9evC w0 59) (hL _ (List.mem_of_getElem? (i := 5) rfl))
  have X4 := q9th_pX (T := T) (N := N) (P := P) (J := J) (t0 := t0) (Sc := Sc) (op := 1480) (q9evS ae2) (q9evZ w0) (q9evS ae5) (hX _ (List.mem_of_getElem? (i := 4) rfl)) (by decide)
  rw [q9FF_1480] at X4
  have H4 := X4
  try simp only [kz, k4, k59, k60] at H4
  obtain ⟨c, hv, hc, h8, h9, -⟩ := K0
  have hd : x4.toInt + 1 = c.2.2.length := q9th_at_of hv hc H0
  have hz : x3.toInt = c.2.1 := q9th_at_of hv hc H1
  have hb : q9spI T N c.1 = x1.toInt := by rw [hc]; exact H2
  obtain ⟨q, st, hst⟩ : ∃ q st, c.2.2 = q :: st := by
    cases hh : c.2.2 with
    | nil => exfalso; rw [hh, List.length_nil] at hd; omega
    | cons q st => exact ⟨q, st, rfl⟩
  have hl2 : c.2.2.length = st.length + 1 := by rw [hst, List.length_cons]
  have hk : q9kbI T N (q9spI T N c.1) = 3 := by rw [hb]; exact K1
  have he : q9weI T N x1.toInt = x2.toInt := H3
  have hbg : q9bgC T N P J c := ⟨hv, h8, h9⟩
  have hg : q9agw T N x2.toInt = some x5.toInt := H4
  have hlb : q9lbE T N P J x3.toInt x5.toInt := ⟨c, hbg, hz.symm, .inr (.inl ⟨by omega, by omega, by rw [hb, he]; exact hg⟩)⟩
  have u_ : q9upN w 7 [] 0 = .int 0 := q9upN_of (by decide) w0
  have u0 : q9upN w 7 [] 1 = .int x0 := q9upN_of (by decide) ae0
  have u1 : q9upN w 7 [] 2 = .int x1 := q9upN_of (by decide) ae1
  have u2 : q9upN w 7 [] 3 = .int x2 := q9upN_of (by decide) ae2
  have u3 : q9upN w 7 [] 4 = .int x3 := q9upN_of (by decide) ae3
  have u4 : q9upN w 7 [] 5 = .int x4 := q9upN_of (by decide) ae4
  have u5 : q9upN w 7 [] 6 = .int x5 := q9upN_of (by decide) ae5
  refine ⟨[], fun i9 p9 hq9 => ?_, List.forall_mem_cons.mpr ⟨?_, fun _ h => absurd h List.not_mem_nil⟩, fun _ h => absurd h List.not_mem_nil⟩
  · exact nomatch (show (none : Option (Nat × q9AV × q9AV × q9ET)) = some p9 from hq9)
  · exact q9th_tX (T := T) (N := N) (P := P) (J := J) (t0 := t0) (Sc := Sc) (q9evS u3) (q9evZ u_) (q9evS u5) (by rw [q9FF_1482]; exact (q9lbE_V hlb)) (by decide)
theorem q9ru_lb4 (hT : ∀ i, 0 ≤ T i ∧ T i ≤ 255) (hN : 0 ≤ N ∧ N ≤ 400) (hSc : 0 ≤ Sc 1 ∧ Sc 1 ≤ 400 → N = Sc 1) : q9ruOK (fO T N P J t0 Sc) q9R_lb4 := by
  intro w w0 hA hX hL hV hR
  obtain ⟨x0, ae0, -, -⟩ := hA 0 0 rfl
  obtain ⟨x1, ae1, -, -⟩ := hA 1 0 rfl
  obtain ⟨x2, ae2, -, -⟩ := hA 2 0 rfl
  obtain ⟨x3, ae3, -, -⟩ := hA 3 0 rfl
  obtain ⟨x4, ae4, -, -⟩ := hA 4 0 rfl
  obtain ⟨x5, ae5, -, -⟩ := hA 5 0 rfl
  have kz : (0 : Int32).toInt = 0 := rfl
  have k4 : (Int32.ofInt 4).toInt = 4 := q9oI_toInt (by decide)
  have k59 : (Int32.ofInt 59).toInt = 59 := q9oI_toInt (by decide)
  have k60 : (Int32.ofInt 60).toInt = 60 := q9oI_toInt (by decide)
  have V0 := q9pV (T := T) (N := N) (P := P) (J := J) (t0 := t0) (Sc := Sc) (op := 1027) (n := 1) (q9evS ae0) (q9evZ w0) (hV _ (List.mem_of_getElem? (i := 0) rfl)) (by decide)
  rw [q9FF_1027] at V0
  have K0 := q9chV_of V0
  try simp only [kz, k4, k59, k60] at K0
  have X0 := q9th_pX (T := T) (N := N) (P := P) (J := J) (t0 := t0) (Sc := Sc) (op := 1021) (q9evS ae0) (q9evZ w0) (q9evS ae4) (hX _ (List.mem_of_getElem? (i := 0) rfl)) (by decide)
  rw [q9FF_1021] at X0
  have H0 := q9chV_of X0
  try simp only [kz, k4, k59, k60] at H0
  have X1 := q9th_pX (T := T) (N := N) (P := P) (J := J) (t0 := t0) (Sc := Sc) (op := 1022) (q9evS ae0) (q9evZ w0) (q9evS ae3) (hX _ (List.mem_of_getElem? (i := 1) rfl)) (by decide)
  rw [q9FF_1022] at X1
  have H1 := q9chV_of X1
  try simp only [kz, k4, k59, k60] at H1
  have L0 : (0 : Int32).toInt ≤ x0.toInt + 0 := q9pC (q9evZ w0) (q9evS ae0) (hL _ (List.mem_of_getElem? (i := 0) rfl))
  have L1 : (0 : Int32).toInt ≤ x3.toInt + 0 := q9pC (q9evZ w0) (q9evS ae3) (hL _ (List.mem_of_getElem? (i := 1) rfl))
  have L2 : x3.toInt ≤ (Int32.ofInt 60).toInt + 0 := q9pC (q9evS ae3) (q9evC w0 60) (hL _ (List.mem_of_getElem? (i := 2) rfl))
  have L3 : (0 : Int32).toInt ≤ x4.toInt + 0 := q9pC (q9evZ w0) (q9evS ae4) (hL _ (List.mem_of_getElem? (i := 3) rfl))
  have L4 : x4.toInt ≤ (Int32.ofInt 4).toInt + 0 := q9pC (q9evS ae4) (q9evC w0 4) (hL _ (List.mem_of_getElem? (i := 4) rfl))
  have X2 := q9th_pX (T := T) (N := N) (P := P) (J := J) (t0 := t0) (Sc := Sc) (op := 1002) (q9evS ae0) (q9evZ w0) (q9evS ae1) (hX _ (List.mem_of_getElem? (i := 2) rfl)) (by decide)
  rw [q9FF_1002] at X2
  have H2 := Option.some.inj X2
  try simp only [kz, k4, k59, k60] at H2
  have V1 := q9pV (T := T) (N := N) (P := P) (J := J) (t0 := t0) (Sc := Sc) (op := 1013) (n := 4) (q9evS ae1) (q9evZ w0) (hV _ (List.mem_of_getElem? (i := 1) rfl)) (by decide)
  rw [q9FF_1013] at V1
  have K1 := Option.some.inj V1
  try simp only [kz, k4, k59, k60] at K1
  have X3 := q9th_pX (T := T) (N := N) (P := P) (J := J) (t0 := t0) (Sc := Sc) (op := 1003) (q9evS ae1) (q9evZ w0) (q9evS ae2) (hX _ (List.mem_of_getElem? (i := 3) rfl)) (by decide)
  rw [q9FF_1003] at X3
  have H3 := Option.some.inj X3
  try simp only [kz, k4, k59, k60] at H3
  have L5 : x3.toInt ≤ (Int32.ofInt 59).toInt + 0 := q9pC (q9evS ae3) (q9evC w0 59) (hL _ (List.mem_of_getElem? (i := 5) rfl))
  have X4 := q9th_pX (T := T) (N := N) (P := P) (J := J) (t0 := t0) (Sc := Sc) (op := 1480) (q9evS ae2) (q9evZ w0) (q9evS ae5) (hX _ (List.mem_of_getElem? (i := 4) rfl)) (by decide)
  rw [q9FF_1480] at X4
  have H4 := X4
  try simp only [kz, k4, k59, k60] at H4
  obtain ⟨c, hv, hc, h8, h9, -⟩ := K0
  have hd : x4.toInt + 1 = c.2.2.length := q9th_at_of hv hc H0
  have hz : x3.toInt = c.2.1 := q9th_at_of hv hc H1
  have hb : q9spI T N c.1 = x1.toInt := by rw [hc]; exact H2
  obtain ⟨q, st, hst⟩ : ∃ q st, c.2.2 = q :: st := by
    cases hh : c.2.2 with
    | nil => exfalso; rw [hh, List.length_nil] at hd; omega
    | cons q st => exact ⟨q, st, rfl⟩
  have hl2 : c.2.2.length = st.length + 1 := by rw [hst, List.length_cons]
  have hk : q9kbI T N (q9spI T N c.1) = 4 := by rw [hb]; exact K1
  have he : q9weI T N x1.toInt = x2.toInt := H3
  have hbg : q9bgC T N P J c := ⟨hv, h8, h9⟩
  have hg : q9agw T N x2.toInt = some x5.toInt := H4
  have hlb : q9lbE T N P J x3.toInt x5.toInt := ⟨c, hbg, hz.symm, .inr (.inl ⟨by omega, by omega, by rw [hb, he]; exact hg⟩)⟩
  have u_ : q9upN w 7 [] 0 = .int 0 := q9upN_of (by decide) w0
  have u0 : q9upN w 7 [] 1 = .int x0 := q9upN_of (by decide) ae0
  have u1 : q9upN w 7 [] 2 = .int x1 := q9upN_of (by decide) ae1
  have u2 : q9upN w 7 [] 3 = .int x2 := q9upN_of (by decide) ae2
  have u3 : q9upN w 7 [] 4 = .int x3 := q9upN_of (by decide) ae3
  have u4 : q9upN w 7 [] 5 = .int x4 := q9upN_of (by decide) ae4
  have u5 : q9upN w 7 [] 6 = .int x5 := q9upN_of (by decide) ae5
  refine ⟨[], fun i9 p9 hq9 => ?_, List.forall_mem_cons.mpr ⟨?_, fun _ h => absurd h List.not_mem_nil⟩, fun _ h => absurd h List.not_mem_nil⟩
  · exact nomatch (show (none : Option (Nat × q9AV × q9AV × q9ET)) = some p9 from hq9)
  · exact q9th_tX (T := T) (N := N) (P := P) (J := J) (t0 := t0) (Sc := Sc) (q9evS u3) (q9evZ u_) (q9evS u5) (by rw [q9FF_1482]; exact (q9lbE_V hlb)) (by decide)
theorem q9ru_lb5 (hT : ∀ i, 0 ≤ T i ∧ T i ≤ 255) (hN : 0 ≤ N ∧ N ≤ 400) (hSc : 0 ≤ Sc 1 ∧ Sc 1 ≤ 400 → N = Sc 1) : q9ruOK (fO T N P J t0 Sc) q9R_lb5 := by
  intro w w0 hA hX hL hV hR
  obtain ⟨x0, ae0, -, -⟩ := hA 0 0 rfl
  obtain ⟨x1, ae1, -, -⟩ := hA 1 0 rfl
  obtain ⟨x2, ae2, -, -⟩ := hA 2 0 rfl
  obtain ⟨x3, ae3, -, -⟩ := hA 3 0 rfl
  obtain ⟨x4, ae4, -, -⟩ := hA 4 0 rfl
  obtain ⟨x5, ae5, -, -⟩ := hA 5 0 rfl
  have kz : (0 : Int32).toInt = 0 := rfl
  have k4 : (Int32.ofInt 4).toInt = 4 := q9oI_toInt (by decide)
  have k59 : (Int32.ofInt 59).toInt = 59 := q9oI_toInt (by decide)
  have k60 : (Int32.ofInt 60).toInt = 60 := q9oI_toInt (by decide)
  have V0 := q9pV (T := T) (N := N) (P := P) (J := J) (t0 := t0) (Sc := Sc) (op := 1027) (n := 1) (q9evS ae0) (q9evZ w0) (hV _ (List.mem_of_getElem? (i := 0) rfl)) (by decide)
  rw [q9FF_1027] at V0
  have K0 := q9chV_of V0
  try simp only [kz, k4, k59, k60] at K0
  have X0 := q9th_pX (T := T) (N := N) (P := P) (J := J) (t0 := t0) (Sc := Sc) (op := 1021) (q9evS ae0) (q9evZ w0) (q9evS ae4) (hX _ (List.mem_of_getElem? (i := 0) rfl)) (by decide)
  rw [q9FF_1021] at X0
  have H0 := q9chV_of X0
  try simp only [kz, k4, k59, k60] at H0
  have X1 := q9th_pX (T := T) (N := N) (P := P) (J := J) (t0 := t0) (Sc := Sc) (op := 1022) (q9evS ae0) (q9evZ w0) (q9evS ae3) (hX _ (List.mem_of_getElem? (i := 1) rfl)) (by decide)
  rw [q9FF_1022] at X1
  have H1 := q9chV_of X1
  try simp only [kz, k4, k59, k60] at H1
  have L0 : (0 : Int32).toInt ≤ x0.toInt + 0 := q9pC (q9evZ w0) (q9evS ae0) (hL _ (List.mem_of_getElem? (i := 0) rfl))
  have L1 : (0 : Int32).toInt ≤ x3.toInt + 0 := q9pC (q9evZ w0) (q9evS ae3) (hL _ (List.mem_of_getElem? (i := 1) rfl))
  have L2 : x3.toInt ≤ (Int32.ofInt 60).toInt + 0 := q9pC (q9evS ae3) (q9evC w0 60) (hL _ (List.mem_of_getElem? (i := 2) rfl))
  have L3 : (0 : Int32).toInt ≤ x4.toInt + 0 := q9pC (q9evZ w0) (q9evS ae4) (hL _ (List.mem_of_getElem? (i := 3) rfl))
  have L4 : x4.toInt ≤ (Int32.ofInt 4).toInt + 0 := q9pC (q9evS ae4) (q9evC w0 4) (hL _ (List.mem_of_getElem? (i := 4) rfl))
  have X2 := q9th_pX (T := T) (N := N) (P := P) (J := J) (t0 := t0) (Sc := Sc) (op := 1002) (q9evS ae0) (q9evZ w0) (q9evS ae1) (hX _ (List.mem_of_getElem? (i := 2) rfl)) (by decide)
  rw [q9FF_1002] at X2
  have H2 := Option.some.inj X2
  try simp only [kz, k4, k59, k60] at H2
  have V1 := q9pV (T := T) (N := N) (P := P) (J := J) (t0 := t0) (Sc := Sc) (op := 1013) (n := 5) (q9evS ae1) (q9evZ w0) (hV _ (List.mem_of_getElem? (i := 1) rfl)) (by decide)
  rw [q9FF_1013] at V1
  have K1 := Option.some.inj V1
  try simp only [kz, k4, k59, k60] at K1
  have X3 := q9th_pX (T := T) (N := N) (P := P) (J := J) (t0 := t0) (Sc := Sc) (op := 1003) (q9evS ae1) (q9evZ w0) (q9evS ae2) (hX _ (List.mem_of_getElem? (i := 3) rfl)) (by decide)
  rw [q9FF_1003] at X3
  have H3 := Option.some.inj X3
  try simp only [kz, k4, k59, k60] at H3
  have L5 : x3.toInt ≤ (Int32.ofInt 59).toInt + 0 := q9pC (q9evS ae3) (q9evC w0 59) (hL _ (List.mem_of_getElem? (i := 5) rfl))
  have X4 := q9th_pX (T := T) (N := N) (P := P) (J := J) (t0 := t0) (Sc := Sc) (op := 1480) (q9evS ae2) (q9evZ w0) (q9evS ae5) (hX _ (List.mem_of_getElem? (i := 4) rfl)) (by decide)
  rw [q9FF_1480] at X4
  have H4 := X4
  try simp only [kz, k4, k59, k60] at H4
  obtain ⟨c, hv, hc, h8, h9, -⟩ := K0
  have hd : x4.toInt + 1 = c.2.2.length := q9th_at_of hv hc H0
  have hz : x3.toInt = c.2.1 := q9th_at_of hv hc H1
  have hb : q9spI T N c.1 = x1.toInt := by rw [hc]; exact H2
  obtain ⟨q, st, hst⟩ : ∃ q st, c.2.2 = q :: st := by
    cases hh : c.2.2 with
    | nil => exfalso; rw [hh, List.length_nil] at hd; omega
    | cons q st => exact ⟨q, st, rfl⟩
  have hl2 : c.2.2.length = st.length + 1 := by rw [hst, List.length_cons]
  have hk : q9kbI T N (q9spI T N c.1) = 5 := by rw [hb]; exact K1
  have he : q9weI T N x1.toInt = x2.toInt := H3
  have hbg : q9bgC T N P J c := ⟨hv, h8, h9⟩
  have hg : q9agw T N x2.toInt = some x5.toInt := H4
  have hlb : q9lbE T N P J x3.toInt x5.toInt := ⟨c, hbg, hz.symm, .inr (.inl ⟨by omega, by omega, by rw [hb, he]; exact hg⟩)⟩
  have u_ : q9upN w 7 [] 0 = .int 0 := q9upN_of (by decide) w0
  have u0 : q9upN w 7 [] 1 = .int x0 := q9upN_of (by decide) ae0
  have u1 : q9upN w 7 [] 2 = .int x1 := q9upN_of (by decide) ae1
  have u2 : q9upN w 7 [] 3 = .int x2 := q9upN_of (by decide) ae2
  have u3 : q9upN w 7 [] 4 = .int x3 := q9upN_of (by decide) ae3
  have u4 : q9upN w 7 [] 5 = .int x4 := q9upN_of (by decide) ae4
  have u5 : q9upN w 7 [] 6 = .int x5 := q9upN_of (by decide) ae5
  refine ⟨[], fun i9 p9 hq9 => ?_, List.forall_mem_cons.mpr ⟨?_, fun _ h => absurd h List.not_mem_nil⟩, fun _ h => absurd h List.not_mem_nil⟩
  · exact nomatch (show (none : Option (Nat × q9AV × q9AV × q9ET)) = some p9 from hq9)
  · exact q9th_tX (T := T) (N := N) (P := P) (J := J) (t0 := t0) (Sc := Sc) (q9evS u3) (q9evZ u_) (q9evS u5) (by rw [q9FF_1482]; exact (q9lbE_V hlb)) (by decide)
theorem q9ru_lbz0 (hT : ∀ i, 0 ≤ T i ∧ T i ≤ 255) (hN : 0 ≤ N ∧ N ≤ 400) (hSc : 0 ≤ Sc 1 ∧ Sc 1 ≤ 400 → N = Sc 1) : q9ruOK (fO T N P J t0 Sc) q9R_lbz0 := by
  intro w w0 hA hX hL hV hR
  obtain ⟨x0, ae0, -, -⟩ := hA 0 0 rfl
  obtain ⟨x1, ae1, -, -⟩ := hA 1 0 rfl
  obtain ⟨x2, ae2, -, -⟩ := hA 2 0 rfl
  obtain ⟨x3, ae3, -, -⟩ := hA 3 0 rfl
  obtain ⟨x4, ae4, -, -⟩ := hA 4 0 rfl
  have kz : (0 : Int32).toInt = 0 := rfl
  have k4 : (Int32.ofInt 4).toInt = 4 := q9oI_toInt (by decide)
  have k59 : (Int32.ofInt 59).toInt = 59 := q9oI_toInt (by decide)
  have k60 : (Int32.ofInt 60).toInt = 60 := q9oI_toInt (by decide)
  have V0 := q9pV (T := T) (N := N) (P := P) (J := J) (t0 := t0) (Sc := Sc) (op := 1027) (n := 1) (q9evS ae0) (q9evZ w0) (hV _ (List.mem_of_getElem? (i := 0) rfl)) (by decide)
  rw [q9FF_1027] at V0
  have K0 := q9chV_of V0
  try simp only [kz, k4, k59, k60] at K0
  have X0 := q9th_pX (T := T) (N := N) (P := P) (J := J) (t0 := t0) (Sc := Sc) (op := 1021) (q9evS ae0) (q9evZ w0) (q9evS ae4) (hX _ (List.mem_of_getElem? (i := 0) rfl)) (by decide)
  rw [q9FF_1021] at X0
  have H0 := q9chV_of X0
  try simp only [kz, k4, k59, k60] at H0
  have X1 := q9th_pX (T := T) (N := N) (P := P) (J := J) (t0 := t0) (Sc := Sc) (op := 1022) (q9evS ae0) (q9evZ w0) (q9evS ae3) (hX _ (List.mem_of_getElem? (i := 1) rfl)) (by decide)
  rw [q9FF_1022] at X1
  have H1 := q9chV_of X1
  try simp only [kz, k4, k59, k60] at H1
  have L0 : (0 : Int32).toInt ≤ x0.toInt + 0 := q9pC (q9evZ w0) (q9evS ae0) (hL _ (List.mem_of_getElem? (i := 0) rfl))
  have L1 : (0 : Int32).toInt ≤ x3.toInt + 0 := q9pC (q9evZ w0) (q9evS ae3) (hL _ (List.mem_of_getElem? (i := 1) rfl))
  have L2 : x3.toInt ≤ (Int32.ofInt 60).toInt + 0 := q9pC (q9evS ae3) (q9evC w0 60) (hL _ (List.mem_of_getElem? (i := 2) rfl))
  have L3 : (0 : Int32).toInt ≤ x4.toInt + 0 := q9pC (q9evZ w0) (q9evS ae4) (hL _ (List.mem_of_getElem? (i := 3) rfl))
  have L4 : x4.toInt ≤ (Int32.ofInt 4).toInt + 0 := q9pC (q9evS ae4) (q9evC w0 4) (hL _ (List.mem_of_getElem? (i := 4) rfl))
  have X2 := q9th_pX (T := T) (N := N) (P := P) (J := J) (t0 := t0) (Sc := Sc) (op := 1002) (q9evS ae0) (q9evZ w0) (q9evS ae1) (hX _ (List.mem_of_getElem? (i := 2) rfl)) (by decide)
  rw [q9FF_1002] at X2
  have H2 := Option.some.inj X2
  try simp only [kz, k4, k59, k60] at H2
  have V1 := q9pV (T := T) (N := N) (P := P) (J := J) (t0 := t0) (Sc := Sc) (op := 1013) (n := 0) (q9evS ae1) (q9evZ w0) (hV _ (List.mem_of_getElem? (i := 1) rfl)) (by decide)
  rw [q9FF_1013] at V1
  have K1 := Option.some.inj V1
  try simp only [kz, k4, k59, k60] at K1
  have X3 := q9th_pX (T := T) (N := N) (P := P) (J := J) (t0 := t0) (Sc := Sc) (op := 1003) (q9evS ae1) (q9evZ w0) (q9evS ae2) (hX _ (List.mem_of_getElem? (i := 3) rfl)) (by decide)
  rw [q9FF_1003] at X3
  have H3 := Option.some.inj X3
  try simp only [kz, k4, k59, k60] at H3
  have L5 : x3.toInt ≤ (Int32.ofInt 59).toInt + 0 := q9pC (q9evS ae3) (q9evC w0 59) (hL _ (List.mem_of_getElem? (i := 5) rfl))
  obtain ⟨c, hv, hc, h8, h9, -⟩ := K0
  have hd : x4.toInt + 1 = c.2.2.length := q9th_at_of hv hc H0
  have hz : x3.toInt = c.2.1 := q9th_at_of hv hc H1
  have hb : q9spI T N c.1 = x1.toInt := by rw [hc]; exact H2
  obtain ⟨q, st, hst⟩ : ∃ q st, c.2.2 = q :: st := by
    cases hh : c.2.2 with
    | nil => exfalso; rw [hh, List.length_nil] at hd; omega
    | cons q st => exact ⟨q, st, rfl⟩
  have hl2 : c.2.2.length = st.length + 1 := by rw [hst, List.length_cons]
  have hk : q9kbI T N (q9spI T N c.1) = 0 := by rw [hb]; exact K1
  have he : q9weI T N x1.toInt = x2.toInt := H3
  have hbg : q9bgC T N P J c := ⟨hv, h8, h9⟩
  have hlb : q9lbE T N P J x3.toInt 0 := ⟨c, hbg, hz.symm, .inr (.inr ⟨by omega, rfl⟩)⟩
  have rg0 : (0 : Int) ≤ 0 ∧ (0 : Int) ≤ 0 := by omega
  obtain ⟨x5, nt5⟩ : ∃ x : Int32, x.toInt = 0 := ⟨Int32.ofInt (0), q9oI_toInt (by omega)⟩
  have u_ : q9upN w 6 [.int x5] 0 = .int 0 := q9upN_of (by decide) w0
  have u0 : q9upN w 6 [.int x5] 1 = .int x0 := q9upN_of (by decide) ae0
  have u1 : q9upN w 6 [.int x5] 2 = .int x1 := q9upN_of (by decide) ae1
  have u2 : q9upN w 6 [.int x5] 3 = .int x2 := q9upN_of (by decide) ae2
  have u3 : q9upN w 6 [.int x5] 4 = .int x3 := q9upN_of (by decide) ae3
  have u4 : q9upN w 6 [.int x5] 5 = .int x4 := q9upN_of (by decide) ae4
  have u5 : q9upN w 6 [.int x5] 6 = .int x5 := q9upN_at (by decide)
  refine ⟨[.int x5], fun i9 p9 hq9 => ?_, fun _ h => absurd h List.not_mem_nil, fun _ h => absurd h List.not_mem_nil⟩
  · match i9, hq9 with
    | 0, hq9 =>
      have hp9 : ((1482, (4, 0), (0, 0), (0, 0, 0)) : Nat × q9AV × q9AV × q9ET) = p9 := Option.some.inj hq9
      subst hp9
      exact ⟨⟨x5, rfl, by rw [nt5]; exact rg0.1, by rw [nt5]; exact rg0.2⟩, (q9th_tX (T := T) (N := N) (P := P) (J := J) (t0 := t0) (Sc := Sc) (q9evS u3) (q9evZ u_) (q9evS u5) (by rw [q9FF_1482, nt5]; exact (q9lbE_V hlb)) (by decide)).trans (congrArg some (q9evS u5))⟩
    | k9 + 1, hq9 => exact nomatch (show (none : Option (Nat × q9AV × q9AV × q9ET)) = some p9 from hq9)
theorem q9ru_lbz6 (hT : ∀ i, 0 ≤ T i ∧ T i ≤ 255) (hN : 0 ≤ N ∧ N ≤ 400) (hSc : 0 ≤ Sc 1 ∧ Sc 1 ≤ 400 → N = Sc 1) : q9ruOK (fO T N P J t0 Sc) q9R_lbz6 := by
  intro w w0 hA hX hL hV hR
  obtain ⟨x0, ae0, -, -⟩ := hA 0 0 rfl
  obtain ⟨x1, ae1, -, -⟩ := hA 1 0 rfl
  obtain ⟨x2, ae2, -, -⟩ := hA 2 0 rfl
  obtain ⟨x3, ae3, -, -⟩ := hA 3 0 rfl
  obtain ⟨x4, ae4, -, -⟩ := hA 4 0 rfl
  have kz : (0 : Int32).toInt = 0 := rfl
  have k4 : (Int32.ofInt 4).toInt = 4 := q9oI_toInt (by decide)
  have k59 : (Int32.ofInt 59).toInt = 59 := q9oI_toInt (by decide)
  have k60 : (Int32.ofInt 60).toInt = 60 := q9oI_toInt (by decide)
  have V0 := q9pV (T := T) (N := N) (P := P) (J := J) (t0 := t0) (Sc := Sc) (op := 1027) (n := 1) (q9evS ae0) (q9evZ w0) (hV _ (List.mem_of_getElem? (i := 0) rfl)) (by decide)
  rw [q9FF_1027] at V0
  have K0 := q9chV_of V0
  try simp only [kz, k4, k59, k60] at K0
  have X0 := q9th_pX (T := T) (N := N) (P := P) (J := J) (t0 := t0) (Sc := Sc) (op := 1021) (q9evS ae0) (q9evZ w0) (q9evS ae4) (hX _ (List.mem_of_getElem? (i := 0) rfl)) (by decide)
  rw [q9FF_1021] at X0
  have H0 := q9chV_of X0
  try simp only [kz, k4, k59, k60] at H0
  have X1 := q9th_pX (T := T) (N := N) (P := P) (J := J) (t0 := t0) (Sc := Sc) (op := 1022) (q9evS ae0) (q9evZ w0) (q9evS ae3) (hX _ (List.mem_of_getElem? (i := 1) rfl)) (by decide)
  rw [q9FF_1022] at X1
  have H1 := q9chV_of X1
  try simp only [kz, k4, k59, k60] at H1
  have L0 : (0 : Int32).toInt ≤ x0.toInt + 0 := q9pC (q9evZ w0) (q9evS ae0) (hL _ (List.mem_of_getElem? (i := 0) rfl))
  have L1 : (0 : Int32).toInt ≤ x3.toInt + 0 := q9pC (q9evZ w0) (q9evS ae3) (hL _ (List.mem_of_getElem? (i := 1) rfl))
  have L2 : x3.toInt ≤ (Int32.ofInt 60).toInt + 0 := q9pC (q9evS ae3) (q9evC w0 60) (hL _ (List.mem_of_getElem? (i := 2) rfl))
  have L3 : (0 : Int32).toInt ≤ x4.toInt + 0 := q9pC (q9evZ w0) (q9evS ae4) (hL _ (List.mem_of_getElem? (i := 3) rfl))
  have L4 : x4.toInt ≤ (Int32.ofInt 4).toInt + 0 := q9pC (q9evS ae4) (q9evC w0 4) (hL _ (List.mem_of_getElem? (i := 4) rfl))
  have X2 := q9th_pX (T := T) (N := N) (P := P) (J := J) (t0 := t0) (Sc := Sc) (op := 1002) (q9evS ae0) (q9evZ w0) (q9evS ae1) (hX _ (List.mem_of_getElem? (i := 2) rfl)) (by decide)
  rw [q9FF_1002] at X2
  have H2 := Option.some.inj X2
  try simp only [kz, k4, k59, k60] at H2
  have V1 := q9pV (T := T) (N := N) (P := P) (J := J) (t0 := t0) (Sc := Sc) (op := 1013) (n := 6) (q9evS ae1) (q9evZ w0) (hV _ (List.mem_of_getElem? (i := 1) rfl)) (by decide)
  rw [q9FF_1013] at V1
  have K1 := Option.some.inj V1
  try simp only [kz, k4, k59, k60] at K1
  have X3 := q9th_pX (T := T) (N := N) (P := P) (J := J) (t0 := t0) (Sc := Sc) (op := 1003) (q9evS ae1) (q9evZ w0) (q9evS ae2) (hX _ (List.mem_of_getElem? (i := 3) rfl)) (by decide)
  rw [q9FF_1003] at X3
  have H3 := Option.some.inj X3
  try simp only [kz, k4, k59, k60] at H3
  have L5 : x3.toInt ≤ (Int32.ofInt 59).toInt + 0 := q9pC (q9evS ae3) (q9evC w0 59) (hL _ (List.mem_of_getElem? (i := 5) rfl))
  obtain ⟨c, hv, hc, h8, h9, -⟩ := K0
  have hd : x4.toInt + 1 = c.2.2.length := q9th_at_of hv hc H0
  have hz : x3.toInt = c.2.1 := q9th_at_of hv hc H1
  have hb : q9spI T N c.1 = x1.toInt := by rw [hc]; exact H2
  obtain ⟨q, st, hst⟩ : ∃ q st, c.2.2 = q :: st := by
    cases hh : c.2.2 with
    | nil => exfalso; rw [hh, List.length_nil] at hd; omega
    | cons q st => exact ⟨q, st, rfl⟩
  have hl2 : c.2.2.length = st.length + 1 := by rw [hst, List.length_cons]
  have hk : q9kbI T N (q9spI T N c.1) = 6 := by rw [hb]; exact K1
  have he : q9weI T N x1.toInt = x2.toInt := H3
  have hbg : q9bgC T N P J c := ⟨hv, h8, h9⟩
  have hlb : q9lbE T N P J x3.toInt 0 := ⟨c, hbg, hz.symm, .inr (.inr ⟨by omega, rfl⟩)⟩
  have rg0 : (0 : Int) ≤ 0 ∧ (0 : Int) ≤ 0 := by omega
  obtain ⟨x5, nt5⟩ : ∃ x : Int32, x.toInt = 0 := ⟨Int32.ofInt (0), q9oI_toInt (by omega)⟩
  have u_ : q9upN w 6 [.int x5] 0 = .int 0 := q9upN_of (by decide) w0
  have u0 : q9upN w 6 [.int x5] 1 = .int x0 := q9upN_of (by decide) ae0
  have u1 : q9upN w 6 [.int x5] 2 = .int x1 := q9upN_of (by decide) ae1
  have u2 : q9upN w 6 [.int x5] 3 = .int x2 := q9upN_of (by decide) ae2
  have u3 : q9upN w 6 [.int x5] 4 = .int x3 := q9upN_of (by decide) ae3
  have u4 : q9upN w 6 [.int x5] 5 = .int x4 := q9upN_of (by decide) ae4
  have u5 : q9upN w 6 [.int x5] 6 = .int x5 := q9upN_at (by decide)
  refine ⟨[.int x5], fun i9 p9 hq9 => ?_, fun _ h => absurd h List.not_mem_nil, fun _ h => absurd h List.not_mem_nil⟩
  · match i9, hq9 with
    | 0, hq9 =>
      have hp9 : ((1482, (4, 0), (0, 0), (0, 0, 0)) : Nat × q9AV × q9AV × q9ET) = p9 := Option.some.inj hq9
      subst hp9
      exact ⟨⟨x5, rfl, by rw [nt5]; exact rg0.1, by rw [nt5]; exact rg0.2⟩, (q9th_tX (T := T) (N := N) (P := P) (J := J) (t0 := t0) (Sc := Sc) (q9evS u3) (q9evZ u_) (q9evS u5) (by rw [q9FF_1482, nt5]; exact (q9lbE_V hlb)) (by decide)).trans (congrArg some (q9evS u5))⟩
    | k9 + 1, hq9 => exact nomatch (show (none : Option (Nat × q9AV × q9AV × q9ET)) = some p9 from hq9)
theorem q9ru_lbz7 (hT : ∀ i, 0 ≤ T i ∧ T i ≤ 255) (hN : 0 ≤ N ∧ N ≤ 400) (hSc : 0 ≤ Sc 1 ∧ Sc 1 ≤ 400 → N = Sc 1) : q9ruOK (fO T N P J t0 Sc) q9R_lbz7 := by
  intro w w0 hA hX hL hV hR
  obtain ⟨x0, ae0, -, -⟩ := hA 0 0 rfl
  obtain ⟨x1, ae1, -, -⟩ := hA 1 0 rfl
  obtain ⟨x2, ae2, -, -⟩ := hA 2 0 rfl
  obtain ⟨x3, ae3, -, -⟩ := hA 3 0 rfl
  obtain ⟨x4, ae4, -, -⟩ := hA 4 0 rfl
  have kz : (0 : Int32).toInt = 0 := rfl
  have k4 : (Int32.ofInt 4).toInt = 4 := q9oI_toInt (by decide)
  have k59 : (Int32.ofInt 59).toInt = 59 := q9oI_toInt (by decide)
  have k60 : (Int32.ofInt 60).toInt = 60 := q9oI_toInt (by decide)
  have V0 := q9pV (T := T) (N := N) (P := P) (J := J) (t0 := t0) (Sc := Sc) (op := 1027) (n := 1) (q9evS ae0) (q9evZ w0) (hV _ (List.mem_of_getElem? (i := 0) rfl)) (by decide)
  rw [q9FF_1027] at V0
  have K0 := q9chV_of V0
  try simp only [kz, k4, k59, k60] at K0
  have X0 := q9th_pX (T := T) (N := N) (P := P) (J := J) (t0 := t0) (Sc := Sc) (op := 1021) (q9evS ae0) (q9evZ w0) (q9evS ae4) (hX _ (List.mem_of_getElem? (i := 0) rfl)) (by decide)
  rw [q9FF_1021] at X0
  have H0 := q9chV_of X0
  try simp only [kz, k4, k59, k60] at H0
  have X1 := q9th_pX (T := T) (N := N) (P := P) (J := J) (t0 := t0) (Sc := Sc) (op := 1022) (q9evS ae0) (q9evZ w0) (q9evS ae3) (hX _ (List.mem_of_getElem? (i := 1) rfl)) (by decide)
  rw [q9FF_1022] at X1
  have H1 := q9chV_of X1
  try simp only [kz, k4, k59, k60] at H1
  have L0 : (0 : Int32).toInt ≤ x0.toInt + 0 := q9pC (q9evZ w0) (q9evS ae0) (hL _ (List.mem_of_getElem? (i := 0) rfl))
  have L1 : (0 : Int32).toInt ≤ x3.toInt + 0 := q9pC (q9evZ w0) (q9evS ae3) (hL _ (List.mem_of_getElem? (i := 1) rfl))
  have L2 : x3.toInt ≤ (Int32.ofInt 60).toInt + 0 := q9pC (q9evS ae3) (q9evC w0 60) (hL _ (List.mem_of_getElem? (i := 2) rfl))
  have L3 : (0 : Int32).toInt ≤ x4.toInt + 0 := q9pC (q9evZ w0) (q9evS ae4) (hL _ (List.mem_of_getElem? (i := 3) rfl))
  have L4 : x4.toInt ≤ (Int32.ofInt 4).toInt + 0 := q9pC (q9evS ae4) (q9evC w0 4) (hL _ (List.mem_of_getElem? (i := 4) rfl))
  have X2 := q9th_pX (T := T) (N := N) (P := P) (J := J) (t0 := t0) (Sc := Sc) (op := 1002) (q9evS ae0) (q9evZ w0) (q9evS ae1) (hX _ (List.mem_of_getElem? (i := 2) rfl)) (by decide)
  rw [q9FF_1002] at X2
  have H2 := Option.some.inj X2
  try simp only [kz, k4, k59, k60] at H2
  have V1 := q9pV (T := T) (N := N) (P := P) (J := J) (t0 := t0) (Sc := Sc) (op := 1013) (n := 7) (q9evS ae1) (q9evZ w0) (hV _ (List.mem_of_getElem? (i := 1) rfl)) (by decide)
  rw [q9FF_1013] at V1
  have K1 := Option.some.inj V1
  try simp only [kz, k4, k59, k60] at K1
  have X3 := q9th_pX (T := T) (N := N) (P := P) (J := J) (t0 := t0) (Sc := Sc) (op := 1003) (q9evS ae1) (q9evZ w0) (q9evS ae2) (hX _ (List.mem_of_getElem? (i := 3) rfl)) (by decide)
  rw [q9FF_1003] at X3
  have H3 := Option.some.inj X3
  try simp only [kz, k4, k59, k60] at H3
  have L5 : x3.toInt ≤ (Int32.ofInt 59).toInt + 0 := q9pC (q9evS ae3) (q9evC w0 59) (hL _ (List.mem_of_getElem? (i := 5) rfl))
  obtain ⟨c, hv, hc, h8, h9, -⟩ := K0
  have hd : x4.toInt + 1 = c.2.2.length := q9th_at_of hv hc H0
  have hz : x3.toInt = c.2.1 := q9th_at_of hv hc H1
  have hb : q9spI T N c.1 = x1.toInt := by rw [hc]; exact H2
  obtain ⟨q, st, hst⟩ : ∃ q st, c.2.2 = q :: st := by
    cases hh : c.2.2 with
    | nil => exfalso; rw [hh, List.length_nil] at hd; omega
    | cons q st => exact ⟨q, st, rfl⟩
  have hl2 : c.2.2.length = st.length + 1 := by rw [hst, List.length_cons]
  have hk : q9kbI T N (q9spI T N c.1) = 7 := by rw [hb]; exact K1
  have he : q9weI T N x1.toInt = x2.toInt := H3
  have hbg : q9bgC T N P J c := ⟨hv, h8, h9⟩
  have hlb : q9lbE T N P J x3.toInt 0 := ⟨c, hbg, hz.symm, .inr (.inr ⟨by omega, rfl⟩)⟩
  have rg0 : (0 : Int) ≤ 0 ∧ (0 : Int) ≤ 0 := by omega
  obtain ⟨x5, nt5⟩ : ∃ x : Int32, x.toInt = 0 := ⟨Int32.ofInt (0), q9oI_toInt (by omega)⟩
  have u_ : q9upN w 6 [.int x5] 0 = .int 0 := q9upN_of (by decide) w0
  have u0 : q9upN w 6 [.int x5] 1 = .int x0 := q9upN_of (by decide) ae0
  have u1 : q9upN w 6 [.int x5] 2 = .int x1 := q9upN_of (by decide) ae1
  have u2 : q9upN w 6 [.int x5] 3 = .int x2 := q9upN_of (by decide) ae2
  have u3 : q9upN w 6 [.int x5] 4 = .int x3 := q9upN_of (by decide) ae3
  have u4 : q9upN w 6 [.int x5] 5 = .int x4 := q9upN_of (by decide) ae4
  have u5 : q9upN w 6 [.int x5] 6 = .int x5 := q9upN_at (by decide)
  refine ⟨[.int x5], fun i9 p9 hq9 => ?_, fun _ h => absurd h List.not_mem_nil, fun _ h => absurd h List.not_mem_nil⟩
  · match i9, hq9 with
    | 0, hq9 =>
      have hp9 : ((1482, (4, 0), (0, 0), (0, 0, 0)) : Nat × q9AV × q9AV × q9ET) = p9 := Option.some.inj hq9
      subst hp9
      exact ⟨⟨x5, rfl, by rw [nt5]; exact rg0.1, by rw [nt5]; exact rg0.2⟩, (q9th_tX (T := T) (N := N) (P := P) (J := J) (t0 := t0) (Sc := Sc) (q9evS u3) (q9evZ u_) (q9evS u5) (by rw [q9FF_1482, nt5]; exact (q9lbE_V hlb)) (by decide)).trans (congrArg some (q9evS u5))⟩
    | k9 + 1, hq9 => exact nomatch (show (none : Option (Nat × q9AV × q9AV × q9ET)) = some p9 from hq9)
theorem q9ru_lsz0 (hT : ∀ i, 0 ≤ T i ∧ T i ≤ 255) (hN : 0 ≤ N ∧ N ≤ 400) (hSc : 0 ≤ Sc 1 ∧ Sc 1 ≤ 400 → N = Sc 1) : q9ruOK (fO T N P J t0 Sc) q9R_lsz0 := by
  intro w w0 hA hX hL hV hR
  obtain ⟨x0, ae0, -, -⟩ := hA 0 0 rfl
  obtain ⟨x1, ae1, -, -⟩ := hA 1 0 rfl
  obtain ⟨x2, ae2, -, -⟩ := hA 2 0 rfl
  obtain ⟨x3, ae3, -, -⟩ := hA 3 0 rfl
  obtain ⟨x4, ae4, -, -⟩ := hA 4 0 rfl
  have kz : (0 : Int32).toInt = 0 := rfl
  have k4 : (Int32.ofInt 4).toInt = 4 := q9oI_toInt (by decide)
  have k59 : (Int32.ofInt 59).toInt = 59 := q9oI_toInt (by decide)
  have k60 : (Int32.ofInt 60).toInt = 60 := q9oI_toInt (by decide)
  have V0 := q9pV (T := T) (N := N) (P := P) (J := J) (t0 := t0) (Sc := Sc) (op := 1027) (n := 1) (q9evS ae0) (q9evZ w0) (hV _ (List.mem_of_getElem? (i := 0) rfl)) (by decide)
  rw [q9FF_1027] at V0
  have K0 := q9chV_of V0
  try simp only [kz, k4, k59, k60] at K0
  have X0 := q9th_pX (T := T) (N := N) (P := P) (J := J) (t0 := t0) (Sc := Sc) (op := 1021) (q9evS ae0) (q9evZ w0) (q9evS ae4) (hX _ (List.mem_of_getElem? (i := 0) rfl)) (by decide)
  rw [q9FF_1021] at X0
  have H0 := q9chV_of X0
  try simp only [kz, k4, k59, k60] at H0
  have X1 := q9th_pX (T := T) (N := N) (P := P) (J := J) (t0 := t0) (Sc := Sc) (op := 1022) (q9evS ae0) (q9evZ w0) (q9evS ae3) (hX _ (List.mem_of_getElem? (i := 1) rfl)) (by decide)
  rw [q9FF_1022] at X1
  have H1 := q9chV_of X1
  try simp only [kz, k4, k59, k60] at H1
  have L0 : (0 : Int32).toInt ≤ x0.toInt + 0 := q9pC (q9evZ w0) (q9evS ae0) (hL _ (List.mem_of_getElem? (i := 0) rfl))
  have L1 : (0 : Int32).toInt ≤ x3.toInt + 0 := q9pC (q9evZ w0) (q9evS ae3) (hL _ (List.mem_of_getElem? (i := 1) rfl))
  have L2 : x3.toInt ≤ (Int32.ofInt 60).toInt + 0 := q9pC (q9evS ae3) (q9evC w0 60) (hL _ (List.mem_of_getElem? (i := 2) rfl))
  have L3 : (0 : Int32).toInt ≤ x4.toInt + 0 := q9pC (q9evZ w0) (q9evS ae4) (hL _ (List.mem_of_getElem? (i := 3) rfl))
  have L4 : x4.toInt ≤ (Int32.ofInt 4).toInt + 0 := q9pC (q9evS ae4) (q9evC w0 4) (hL _ (List.mem_of_getElem? (i := 4) rfl))
  have X2 := q9th_pX (T := T) (N := N) (P := P) (J := J) (t0 := t0) (Sc := Sc) (op := 1002) (q9evS ae0) (q9evZ w0) (q9evS ae1) (hX _ (List.mem_of_getElem? (i := 2) rfl)) (by decide)
  rw [q9FF_1002] at X2
  have H2 := Option.some.inj X2
  try simp only [kz, k4, k59, k60] at H2
  have V1 := q9pV (T := T) (N := N) (P := P) (J := J) (t0 := t0) (Sc := Sc) (op := 1013) (n := 0) (q9evS ae1) (q9evZ w0) (hV _ (List.mem_of_getElem? (i := 1) rfl)) (by decide)
  rw [q9FF_1013] at V1
  have K1 := Option.some.inj V1
  try simp only [kz, k4, k59, k60] at K1
  have X3 := q9th_pX (T := T) (N := N) (P := P) (J := J) (t0 := t0) (Sc := Sc) (op := 1003) (q9evS ae1) (q9evZ w0) (q9evS ae2) (hX _ (List.mem_of_getElem? (i := 3) rfl)) (by decide)
  rw [q9FF_1003] at X3
  have H3 := Option.some.inj X3
  try simp only [kz, k4, k59, k60] at H3
  have L5 : x3.toInt ≤ (Int32.ofInt 59).toInt + 0 := q9pC (q9evS ae3) (q9evC w0 59) (hL _ (List.mem_of_getElem? (i := 5) rfl))
  obtain ⟨c, hv, hc, h8, h9, -⟩ := K0
  have hd : x4.toInt + 1 = c.2.2.length := q9th_at_of hv hc H0
  have hz : x3.toInt = c.2.1 := q9th_at_of hv hc H1
  have hb : q9spI T N c.1 = x1.toInt := by rw [hc]; exact H2
  obtain ⟨q, st, hst⟩ : ∃ q st, c.2.2 = q :: st := by
    cases hh : c.2.2 with
    | nil => exfalso; rw [hh, List.length_nil] at hd; omega
    | cons q st => exact ⟨q, st, rfl⟩
  have hl2 : c.2.2.length = st.length + 1 := by rw [hst, List.length_cons]
  have hk : q9kbI T N (q9spI T N c.1) = 0 := by rw [hb]; exact K1
  have he : q9weI T N x1.toInt = x2.toInt := H3
  have hbg : q9bgC T N P J c := ⟨hv, h8, h9⟩
  have hls : q9lsE T N P J x3.toInt 0 := ⟨c, hbg, hz.symm, .inr ⟨by omega, rfl⟩⟩
  have rg0 : (0 : Int) ≤ 0 ∧ (0 : Int) ≤ 0 := by omega
  obtain ⟨x5, nt5⟩ : ∃ x : Int32, x.toInt = 0 := ⟨Int32.ofInt (0), q9oI_toInt (by omega)⟩
  have u_ : q9upN w 6 [.int x5] 0 = .int 0 := q9upN_of (by decide) w0
  have u0 : q9upN w 6 [.int x5] 1 = .int x0 := q9upN_of (by decide) ae0
  have u1 : q9upN w 6 [.int x5] 2 = .int x1 := q9upN_of (by decide) ae1
  have u2 : q9upN w 6 [.int x5] 3 = .int x2 := q9upN_of (by decide) ae2
  have u3 : q9upN w 6 [.int x5] 4 = .int x3 := q9upN_of (by decide) ae3
  have u4 : q9upN w 6 [.int x5] 5 = .int x4 := q9upN_of (by decide) ae4
  have u5 : q9upN w 6 [.int x5] 6 = .int x5 := q9upN_at (by decide)
  refine ⟨[.int x5], fun i9 p9 hq9 => ?_, fun _ h => absurd h List.not_mem_nil, fun _ h => absurd h List.not_mem_nil⟩
  · match i9, hq9 with
    | 0, hq9 =>
      have hp9 : ((1485, (4, 0), (0, 0), (0, 0, 0)) : Nat × q9AV × q9AV × q9ET) = p9 := Option.some.inj hq9
      subst hp9
      exact ⟨⟨x5, rfl, by rw [nt5]; exact rg0.1, by rw [nt5]; exact rg0.2⟩, (q9th_tX (T := T) (N := N) (P := P) (J := J) (t0 := t0) (Sc := Sc) (q9evS u3) (q9evZ u_) (q9evS u5) (by rw [q9FF_1485, nt5]; exact (q9lsE_V hls)) (by decide)).trans (congrArg some (q9evS u5))⟩
    | k9 + 1, hq9 => exact nomatch (show (none : Option (Nat × q9AV × q9AV × q9ET)) = some p9 from hq9)
theorem q9ru_lsz1 (hT : ∀ i, 0 ≤ T i ∧ T i ≤ 255) (hN : 0 ≤ N ∧ N ≤ 400) (hSc : 0 ≤ Sc 1 ∧ Sc 1 ≤ 400 → N = Sc 1) : q9ruOK (fO T N P J t0 Sc) q9R_lsz1 := by
  intro w w0 hA hX hL hV hR
  obtain ⟨x0, ae0, -, -⟩ := hA 0 0 rfl
  obtain ⟨x1, ae1, -, -⟩ := hA 1 0 rfl
  obtain ⟨x2, ae2, -, -⟩ := hA 2 0 rfl
  obtain ⟨x3, ae3, -, -⟩ := hA 3 0 rfl
  obtain ⟨x4, ae4, -, -⟩ := hA 4 0 rfl
  have kz : (0 : Int32).toInt = 0 := rfl
  have k4 : (Int32.ofInt 4).toInt = 4 := q9oI_toInt (by decide)
  have k59 : (Int32.ofInt 59).toInt = 59 := q9oI_toInt (by decide)
  have k60 : (Int32.ofInt 60).toInt = 60 := q9oI_toInt (by decide)
  have V0 := q9pV (T := T) (N := N) (P := P) (J := J) (t0 := t0) (Sc := Sc) (op := 1027) (n := 1) (q9evS ae0) (q9evZ w0) (hV _ (List.mem_of_getElem? (i := 0) rfl)) (by decide)
  rw [q9FF_1027] at V0
  have K0 := q9chV_of V0
  try simp only [kz, k4, k59, k60] at K0
  have X0 := q9th_pX (T := T) (N := N) (P := P) (J := J) (t0 := t0) (Sc := Sc) (op := 1021) (q9evS ae0) (q9evZ w0) (q9evS ae4) (hX _ (List.mem_of_getElem? (i := 0) rfl)) (by decide)
  rw [q9FF_1021] at X0
  have H0 := q9chV_of X0
  try simp only [kz, k4, k59, k60] at H0
  have X1 := q9th_pX (T := T) (N := N) (P := P) (J := J) (t0 := t0) (Sc := Sc) (op := 1022) (q9evS ae0) (q9evZ w0) (q9evS ae3) (hX _ (List.mem_of_getElem? (i := 1) rfl)) (by decide)
  rw [q9FF_1022] at X1
  have H1 := q9chV_of X1
  try simp only [kz, k4, k59, k60] at H1
  have L0 : (0 : Int32).toInt ≤ x0.toInt + 0 := q9pC (q9evZ w0) (q9evS ae0) (hL _ (List.mem_of_getElem? (i := 0) rfl))
  have L1 : (0 : Int32).toInt ≤ x3.toInt + 0 := q9pC (q9evZ w0) (q9evS ae3) (hL _ (List.mem_of_getElem? (i := 1) rfl))
  have L2 : x3.toInt ≤ (Int32.ofInt 60).toInt + 0 := q9pC (q9evS ae3) (q9evC w0 60) (hL _ (List.mem_of_getElem? (i := 2) rfl))
  have L3 : (0 : Int32).toInt ≤ x4.toInt + 0 := q9pC (q9evZ w0) (q9evS ae4) (hL _ (List.mem_of_getElem? (i := 3) rfl))
  have L4 : x4.toInt ≤ (Int32.ofInt 4).toInt + 0 := q9pC (q9evS ae4) (q9evC w0 4) (hL _ (List.mem_of_getElem? (i := 4) rfl))
  have X2 := q9th_pX (T := T) (N := N) (P := P) (J := J) (t0 := t0) (Sc := Sc) (op := 1002) (q9evS ae0) (q9evZ w0) (q9evS ae1) (hX _ (List.mem_of_getElem? (i := 2) rfl)) (by decide)
  rw [q9FF_1002] at X2
  have H2 := Option.some.inj X2
  try simp only [kz, k4, k59, k60] at H2
  have V1 := q9pV (T := T) (N := N) (P := P) (J := J) (t0 := t0) (Sc := Sc) (op := 1013) (n := 1) (q9evS ae1) (q9evZ w0) (hV _ (List.mem_of_getElem? (i := 1) rfl)) (by decide)
  rw [q9FF_1013] at V1
  have K1 := Option.some.inj V1
  try simp only [kz, k4, k59, k60] at K1
  have X3 := q9th_pX (T := T) (N := N) (P := P) (J := J) (t0 := t0) (Sc := Sc) (op := 1003) (q9evS ae1) (q9evZ w0) (q9evS ae2) (hX _ (List.mem_of_getElem? (i := 3) rfl)) (by decide)
  rw [q9FF_1003] at X3
  have H3 := Option.some.inj X3
  try simp only [kz, k4, k59, k60] at H3
  have L5 : x3.toInt ≤ (Int32.ofInt 59).toInt + 0 := q9pC (q9evS ae3) (q9evC w0 59) (hL _ (List.mem_of_getElem? (i := 5) rfl))
  obtain ⟨c, hv, hc, h8, h9, -⟩ := K0
  have hd : x4.toInt + 1 = c.2.2.length := q9th_at_of hv hc H0
  have hz : x3.toInt = c.2.1 := q9th_at_of hv hc H1
  have hb : q9spI T N c.1 = x1.toInt := by rw [hc]; exact H2
  obtain ⟨q, st, hst⟩ : ∃ q st, c.2.2 = q :: st := by
    cases hh : c.2.2 with
    | nil => exfalso; rw [hh, List.length_nil] at hd; omega
    | cons q st => exact ⟨q, st, rfl⟩
  have hl2 : c.2.2.length = st.length + 1 := by rw [hst, List.length_cons]
  have hk : q9kbI T N (q9spI T N c.1) = 1 := by rw [hb]; exact K1
  have he : q9weI T N x1.toInt = x2.toInt := H3
  have hbg : q9bgC T N P J c := ⟨hv, h8, h9⟩
  have hls : q9lsE T N P J x3.toInt 0 := ⟨c, hbg, hz.symm, .inr ⟨by omega, rfl⟩⟩
  have rg0 : (0 : Int) ≤ 0 ∧ (0 : Int) ≤ 0 := by omega
  obtain ⟨x5, nt5⟩ : ∃ x : Int32, x.toInt = 0 := ⟨Int32.ofInt (0), q9oI_toInt (by omega)⟩
  have u_ : q9upN w 6 [.int x5] 0 = .int 0 := q9upN_of (by decide) w0
  have u0 : q9upN w 6 [.int x5] 1 = .int x0 := q9upN_of (by decide) ae0
  have u1 : q9upN w 6 [.int x5] 2 = .int x1 := q9upN_of (by decide) ae1
  have u2 : q9upN w 6 [.int x5] 3 = .int x2 := q9upN_of (by decide) ae2
  have u3 : q9upN w 6 [.int x5] 4 = .int x3 := q9upN_of (by decide) ae3
  have u4 : q9upN w 6 [.int x5] 5 = .int x4 := q9upN_of (by decide) ae4
  have u5 : q9upN w 6 [.int x5] 6 = .int x5 := q9upN_at (by decide)
  refine ⟨[.int x5], fun i9 p9 hq9 => ?_, fun _ h => absurd h List.not_mem_nil, fun _ h => absurd h List.not_mem_nil⟩
  · match i9, hq9 with
    | 0, hq9 =>
      have hp9 : ((1485, (4, 0), (0, 0), (0, 0, 0)) : Nat × q9AV × q9AV × q9ET) = p9 := Option.some.inj hq9
      subst hp9
      exact ⟨⟨x5, rfl, by rw [nt5]; exact rg0.1, by rw [nt5]; exact rg0.2⟩, (q9th_tX (T := T) (N := N) (P := P) (J := J) (t0 := t0) (Sc := Sc) (q9evS u3) (q9evZ u_) (q9evS u5) (by rw [q9FF_1485, nt5]; exact (q9lsE_V hls)) (by decide)).trans (congrArg some (q9evS u5))⟩
    | k9 + 1, hq9 => exact nomatch (show (none : Option (Nat × q9AV × q9AV × q9ET)) = some p9 from hq9)
theorem q9ru_lsz3 (hT : ∀ i, 0 ≤ T i ∧ T i ≤ 255) (hN : 0 ≤ N ∧ N ≤ 400) (hSc : 0 ≤ Sc 1 ∧ Sc 1 ≤ 400 → N = Sc 1) : q9ruOK (fO T N P J t0 Sc) q9R_lsz3 := by
  intro w w0 hA hX hL hV hR
  obtain ⟨x0, ae0, -, -⟩ := hA 0 0 rfl
  obtain ⟨x1, ae1, -, -⟩ := hA 1 0 rfl
  obtain ⟨x2, ae2, -, -⟩ := hA 2 0 rfl
  obtain ⟨x3, ae3, -, -⟩ := hA 3 0 rfl
  obtain ⟨x4, ae4, -, -⟩ := hA 4 0 rfl
  have kz : (0 : Int32).toInt = 0 := rfl
  have k4 : (Int32.ofInt 4).toInt = 4 := q9oI_toInt (by decide)
  have k59 : (Int32.ofInt 59).toInt = 59 := q9oI_toInt (by decide)
  have k60 : (Int32.ofInt 60).toInt = 60 := q9oI_toInt (by decide)
  have V0 := q9pV (T := T) (N := N) (P := P) (J := J) (t0 := t0) (Sc := Sc) (op := 1027) (n := 1) (q9evS ae0) (q9evZ w0) (hV _ (List.mem_of_getElem? (i := 0) rfl)) (by decide)
  rw [q9FF_1027] at V0
  have K0 := q9chV_of V0
  try simp only [kz, k4, k59, k60] at K0
  have X0 := q9th_pX (T := T) (N := N) (P := P) (J := J) (t0 := t0) (Sc := Sc) (op := 1021) (q9evS ae0) (q9evZ w0) (q9evS ae4) (hX _ (List.mem_of_getElem? (i := 0) rfl)) (by decide)
  rw [q9FF_1021] at X0
  have H0 := q9chV_of X0
  try simp only [kz, k4, k59, k60] at H0
  have X1 := q9th_pX (T := T) (N := N) (P := P) (J := J) (t0 := t0) (Sc := Sc) (op := 1022) (q9evS ae0) (q9evZ w0) (q9evS ae3) (hX _ (List.mem_of_getElem? (i := 1) rfl)) (by decide)
  rw [q9FF_1022] at X1
  have H1 := q9chV_of X1
  try simp only [kz, k4, k59, k60] at H1
  have L0 : (0 : Int32).toInt ≤ x0.toInt + 0 := q9pC (q9evZ w0) (q9evS ae0) (hL _ (List.mem_of_getElem? (i := 0) rfl))
  have L1 : (0 : Int32).toInt ≤ x3.toInt + 0 := q9pC (q9evZ w0) (q9evS ae3) (hL _ (List.mem_of_getElem? (i := 1) rfl))
  have L2 : x3.toInt ≤ (Int32.ofInt 60).toInt + 0 := q9pC (q9evS ae3) (q9evC w0 60) (hL _ (List.mem_of_getElem? (i := 2) rfl))
  have L3 : (0 : Int32).toInt ≤ x4.toInt + 0 := q9pC (q9evZ w0) (q9evS ae4) (hL _ (List.mem_of_getElem? (i := 3) rfl))
  have L4 : x4.toInt ≤ (Int32.ofInt 4).toInt + 0 := q9pC (q9evS ae4) (q9evC w0 4) (hL _ (List.mem_of_getElem? (i := 4) rfl))
  have X2 := q9th_pX (T := T) (N := N) (P := P) (J := J) (t0 := t0) (Sc := Sc) (op := 1002) (q9evS ae0) (q9evZ w0) (q9evS ae1) (hX _ (List.mem_of_getElem? (i := 2) rfl)) (by decide)
  rw [q9FF_1002] at X2
  have H2 := Option.some.inj X2
  try simp only [kz, k4, k59, k60] at H2
  have V1 := q9pV (T := T) (N := N) (P := P) (J := J) (t0 := t0) (Sc := Sc) (op := 1013) (n := 3) (q9evS ae1) (q9evZ w0) (hV _ (List.mem_of_getElem? (i := 1) rfl)) (by decide)
  rw [q9FF_1013] at V1
  have K1 := Option.some.inj V1
  try simp only [kz, k4, k59, k60] at K1
  have X3 := q9th_pX (T := T) (N := N) (P := P) (J := J) (t0 := t0) (Sc := Sc) (op := 1003) (q9evS ae1) (q9evZ w0) (q9evS ae2) (hX _ (List.mem_of_getElem? (i := 3) rfl)) (by decide)
  rw [q9FF_1003] at X3
  have H3 := Option.some.inj X3
  try simp only [kz, k4, k59, k60] at H3
  have L5 : x3.toInt ≤ (Int32.ofInt 59).toInt + 0 := q9pC (q9evS ae3) (q9evC w0 59) (hL _ (List.mem_of_getElem? (i := 5) rfl))
  obtain ⟨c, hv, hc, h8, h9, -⟩ := K0
  have hd : x4.toInt + 1 = c.2.2.length := q9th_at_of hv hc H0
  have hz : x3.toInt = c.2.1 := q9th_at_of hv hc H1
  have hb : q9spI T N c.1 = x1.toInt := by rw [hc]; exact H2
  obtain ⟨q, st, hst⟩ : ∃ q st, c.2.2 = q :: st := by
    cases hh : c.2.2 with
    | nil => exfalso; rw [hh, List.length_nil] at hd; omega
    | cons q st => exact ⟨q, st, rfl⟩
  have hl2 : c.2.2.length = st.length + 1 := by rw [hst, List.length_cons]
  have hk : q9kbI T N (q9spI T N c.1) = 3 := by rw [hb]; exact K1
  have he : q9weI T N x1.toInt = x2.toInt := H3
  have hbg : q9bgC T N P J c := ⟨hv, h8, h9⟩
  have hls : q9lsE T N P J x3.toInt 0 := ⟨c, hbg, hz.symm, .inr ⟨by omega, rfl⟩⟩
  have rg0 : (0 : Int) ≤ 0 ∧ (0 : Int) ≤ 0 := by omega
  obtain ⟨x5, nt5⟩ : ∃ x : Int32, x.toInt = 0 := ⟨Int32.ofInt (0), q9oI_toInt (by omega)⟩
  have u_ : q9upN w 6 [.int x5] 0 = .int 0 := q9upN_of (by decide) w0
  have u0 : q9upN w 6 [.int x5] 1 = .int x0 := q9upN_of (by decide) ae0
  have u1 : q9upN w 6 [.int x5] 2 = .int x1 := q9upN_of (by decide) ae1
  have u2 : q9upN w 6 [.int x5] 3 = .int x2 := q9upN_of (by decide) ae2
  have u3 : q9upN w 6 [.int x5] 4 = .int x3 := q9upN_of (by decide) ae3
  have u4 : q9upN w 6 [.int x5] 5 = .int x4 := q9upN_of (by decide) ae4
  have u5 : q9upN w 6 [.int x5] 6 = .int x5 := q9upN_at (by decide)
  refine ⟨[.int x5], fun i9 p9 hq9 => ?_, fun _ h => absurd h List.not_mem_nil, fun _ h => absurd h List.not_mem_nil⟩
  · match i9, hq9 with
    | 0, hq9 =>
      have hp9 : ((1485, (4, 0), (0, 0), (0, 0, 0)) : Nat × q9AV × q9AV × q9ET) = p9 := Option.some.inj hq9
      subst hp9
      exact ⟨⟨x5, rfl, by rw [nt5]; exact rg0.1, by rw [nt5]; exact rg0.2⟩, (q9th_tX (T := T) (N := N) (P := P) (J := J) (t0 := t0) (Sc := Sc) (q9evS u3) (q9evZ u_) (q9evS u5) (by rw [q9FF_1485, nt5]; exact (q9lsE_V hls)) (by decide)).trans (congrArg some (q9evS u5))⟩
    | k9 + 1, hq9 => exact nomatch (show (none : Option (Nat × q9AV × q9AV × q9ET)) = some p9 from hq9)
theorem q9ru_lsz4 (hT : ∀ i, 0 ≤ T i ∧ T i ≤ 255) (hN : 0 ≤ N ∧ N ≤ 400) (hSc : 0 ≤ Sc 1 ∧ Sc 1 ≤ 400 → N = Sc 1) : q9ruOK (fO T N P J t0 Sc) q9R_lsz4 := by
  intro w w0 hA hX hL hV hR
  obtain ⟨x0, ae0, -, -⟩ := hA 0 0 rfl
  obtain ⟨x1, ae1, -, -⟩ := hA 1 0 rfl
  obtain ⟨x2, ae2, -, -⟩ := hA 2 0 rfl
  obtain ⟨x3, ae3, -, -⟩ := hA 3 0 rfl
  obtain ⟨x4, ae4, -, -⟩ := hA 4 0 rfl
  have kz : (0 : Int32).toInt = 0 := rfl
  have k4 : (Int32.ofInt 4).toInt = 4 := q9oI_toInt (by decide)
  have k59 : (Int32.ofInt 59).toInt = 59 := q9oI_toInt (by decide)
  have k60 : (Int32.ofInt 60).toInt = 60 := q9oI_toInt (by decide)
  have V0 := q9pV (T := T) (N := N) (P := P) (J := J) (t0 := t0) (Sc := Sc) (op := 1027) (n := 1) (q9evS ae0) (q9evZ w0) (hV _ (List.mem_of_getElem? (i := 0) rfl)) (by decide)
  rw [q9FF_1027] at V0
  have K0 := q9chV_of V0
  try simp only [kz, k4, k59, k60] at K0
  have X0 := q9th_pX (T := T) (N := N) (P := P) (J := J) (t0 := t0) (Sc := Sc) (op := 1021) (q9evS ae0) (q9evZ w0) (q9evS ae4) (hX _ (List.mem_of_getElem? (i := 0) rfl)) (by decide)
  rw [q9FF_1021] at X0
  have H0 := q9chV_of X0
  try simp only [kz, k4, k59, k60] at H0
  have X1 := q9th_pX (T := T) (N := N) (P := P) (J := J) (t0 := t0) (Sc := Sc) (op := 1022) (q9evS ae0) (q9evZ w0) (q9evS ae3) (hX _ (List.mem_of_getElem? (i := 1) rfl)) (by decide)
  rw [q9FF_1022] at X1
  have H1 := q9chV_of X1
  try simp only [kz, k4, k59, k60] at H1
  have L0 : (0 : Int32).toInt ≤ x0.toInt + 0 := q9pC (q9evZ w0) (q9evS ae0) (hL _ (List.mem_of_getElem? (i := 0) rfl))
  have L1 : (0 : Int32).toInt ≤ x3.toInt + 0 := q9pC (q9evZ w0) (q9evS ae3) (hL _ (List.mem_of_getElem? (i := 1) rfl))
  have L2 : x3.toInt ≤ (Int32.ofInt 60).toInt + 0 := q9pC (q9evS ae3) (q9evC w0 60) (hL _ (List.mem_of_getElem? (i := 2) rfl))
  have L3 : (0 : Int32).toInt ≤ x4.toInt + 0 := q9pC (q9evZ w0) (q9evS ae4) (hL _ (List.mem_of_getElem? (i := 3) rfl))
  have L4 : x4.toInt ≤ (Int32.ofInt 4).toInt + 0 := q9pC (q9evS ae4) (q9evC w0 4) (hL _ (List.mem_of_getElem? (i := 4) rfl))
  have X2 := q9th_pX (T := T) (N := N) (P := P) (J := J) (t0 := t0) (Sc := Sc) (op := 1002) (q9evS ae0) (q9evZ w0) (q9evS ae1) (hX _ (List.mem_of_getElem? (i := 2) rfl)) (by decide)
  rw [q9FF_1002] at X2
  have H2 := Option.some.inj X2
  try simp only [kz, k4, k59, k60] at H2
  have V1 := q9pV (T := T) (N := N) (P := P) (J := J) (t0 := t0) (Sc := Sc) (op := 1013) (n := 4) (q9evS ae1) (q9evZ w0) (hV _ (List.mem_of_getElem? (i := 1) rfl)) (by decide)
  rw [q9FF_1013] at V1
  have K1 := Option.some.inj V1
  try simp only [kz, k4, k59, k60] at K1
  have X3 := q9th_pX (T := T) (N := N) (P := P) (J := J) (t0 := t0) (Sc := Sc) (op := 1003) (q9evS ae1) (q9evZ w0) (q9evS ae2) (hX _ (List.mem_of_getElem? (i := 3) rfl)) (by decide)
  rw [q9FF_1003] at X3
  have H3 := Option.some.inj X3
  try simp only [kz, k4, k59, k60] at H3
  have L5 : x3.toInt ≤ (Int32.ofInt 59).toInt + 0 := q9pC (q9evS ae3) (q9evC w0 59) (hL _ (List.mem_of_getElem? (i := 5) rfl))
  obtain ⟨c, hv, hc, h8, h9, -⟩ := K0
  have hd : x4.toInt + 1 = c.2.2.length := q9th_at_of hv hc H0
  have hz : x3.toInt = c.2.1 := q9th_at_of hv hc H1
  have hb : q9spI T N c.1 = x1.toInt := by rw [hc]; exact H2
  obtain ⟨q, st, hst⟩ : ∃ q st, c.2.2 = q :: st := by
    cases hh : c.2.2 with
    | nil => exfalso; rw [hh, List.length_nil] at hd; omega
    | cons q st => exact ⟨q, st, rfl⟩
  have hl2 : c.2.2.length = st.length + 1 := by rw [hst, List.length_cons]
  have hk : q9kbI T N (q9spI T N c.1) = 4 := by rw [hb]; exact K1
  have he : q9weI T N x1.toInt = x2.toInt := H3
  have hbg : q9bgC T N P J c := ⟨hv, h8, h9⟩
  have hls : q9lsE T N P J x3.toInt 0 := ⟨c, hbg, hz.symm, .inr ⟨by omega, rfl⟩⟩
  have rg0 : (0 : Int) ≤ 0 ∧ (0 : Int) ≤ 0 := by omega
  obtain ⟨x5, nt5⟩ : ∃ x : Int32, x.toInt = 0 := ⟨Int32.ofInt (0), q9oI_toInt (by omega)⟩
  have u_ : q9upN w 6 [.int x5] 0 = .int 0 := q9upN_of (by decide) w0
  have u0 : q9upN w 6 [.int x5] 1 = .int x0 := q9upN_of (by decide) ae0
  have u1 : q9upN w 6 [.int x5] 2 = .int x1 := q9upN_of (by decide) ae1
  have u2 : q9upN w 6 [.int x5] 3 = .int x2 := q9upN_of (by decide) ae2
  have u3 : q9upN w 6 [.int x5] 4 = .int x3 := q9upN_of (by decide) ae3
  have u4 : q9upN w 6 [.int x5] 5 = .int x4 := q9upN_of (by decide) ae4
  have u5 : q9upN w 6 [.int x5] 6 = .int x5 := q9upN_at (by decide)
  refine ⟨[.int x5], fun i9 p9 hq9 => ?_, fun _ h => absurd h List.not_mem_nil, fun _ h => absurd h List.not_mem_nil⟩
  · match i9, hq9 with
    | 0, hq9 =>
      have hp9 : ((1485, (4, 0), (0, 0), (0, 0, 0)) : Nat × q9AV × q9AV × q9ET) = p9 := Option.some.inj hq9
      subst hp9
      exact ⟨⟨x5, rfl, by rw [nt5]; exact rg0.1, by rw [nt5]; exact rg0.2⟩, (q9th_tX (T := T) (N := N) (P := P) (J := J) (t0 := t0) (Sc := Sc) (q9evS u3) (q9evZ u_) (q9evS u5) (by rw [q9FF_1485, nt5]; exact (q9lsE_V hls)) (by decide)).trans (congrArg some (q9evS u5))⟩
    | k9 + 1, hq9 => exact nomatch (show (none : Option (Nat × q9AV × q9AV × q9ET)) = some p9 from hq9)
theorem q9ru_lsz5 (hT : ∀ i, 0 ≤ T i ∧ T i ≤ 255) (hN : 0 ≤ N ∧ N ≤ 400) (hSc : 0 ≤ Sc 1 ∧ Sc 1 ≤ 400 → N = Sc 1) : q9ruOK (fO T N P J t0 Sc) q9R_lsz5 := by
  intro w w0 hA hX hL hV hR
  obtain ⟨x0, ae0, -, -⟩ := hA 0 0 rfl
  obtain ⟨x1, ae1, -, -⟩ := hA 1 0 rfl
  obtain ⟨x2, ae2, -, -⟩ := hA 2 0 rfl
  obtain ⟨x3, ae3, -, -⟩ := hA 3 0 rfl
  obtain ⟨x4, ae4, -, -⟩ := hA 4 0 rfl
  have kz : (0 : Int32).toInt = 0 := rfl
  have k4 : (Int32.ofInt 4).toInt = 4 := q9oI_toInt (by decide)
  have k59 : (Int32.ofInt 59).toInt = 59 := q9oI_toInt (by decide)
  have k60 : (Int32.ofInt 60).toInt = 60 := q9oI_toInt (by decide)
  have V0 := q9pV (T := T) (N := N) (P := P) (J := J) (t0 := t0) (Sc := Sc) (op := 1027) (n := 1) (q9evS ae0) (q9evZ w0) (hV _ (List.mem_of_getElem? (i := 0) rfl)) (by decide)
  rw [q9FF_1027] at V0
  have K0 := q9chV_of V0
  try simp only [kz, k4, k59, k60] at K0
  have X0 := q9th_pX (T := T) (N := N) (P := P) (J := J) (t0 := t0) (Sc := Sc) (op := 1021) (q9evS ae0) (q9evZ w0) (q9evS ae4) (hX _ (List.mem_of_getElem? (i := 0) rfl)) (by decide)
  rw [q9FF_1021] at X0
  have H0 := q9chV_of X0
  try simp only [kz, k4, k59, k60] at H0
  have X1 := q9th_pX (T := T) (N := N) (P := P) (J := J) (t0 := t0) (Sc := Sc) (op := 1022) (q9evS ae0) (q9evZ w0) (q9evS ae3) (hX _ (List.mem_of_getElem? (i := 1) rfl)) (by decide)
  rw [q9FF_1022] at X1
  have H1 := q9chV_of X1
  try simp only [kz, k4, k59, k60] at H1
  have L0 : (0 : Int32).toInt ≤ x0.toInt + 0 := q9pC (q9evZ w0) (q9evS ae0) (hL _ (List.mem_of_getElem? (i := 0) rfl))
  have L1 : (0 : Int32).toInt ≤ x3.toInt + 0 := q9pC (q9evZ w0) (q9evS ae3) (hL _ (List.mem_of_getElem? (i := 1) rfl))
  have L2 : x3.toInt ≤ (Int32.ofInt 60).toInt + 0 := q9pC (q9evS ae3) (q9evC w0 60) (hL _ (List.mem_of_getElem? (i := 2) rfl))
  have L3 : (0 : Int32).toInt ≤ x4.toInt + 0 := q9pC (q9evZ w0) (q9evS ae4) (hL _ (List.mem_of_getElem? (i := 3) rfl))
  have L4 : x4.toInt ≤ (Int32.ofInt 4).toInt + 0 := q9pC (q9evS ae4) (q9evC w0 4) (hL _ (List.mem_of_getElem? (i := 4) rfl))
  have X2 := q9th_pX (T := T) (N := N) (P := P) (J := J) (t0 := t0) (Sc := Sc) (op := 1002) (q9evS ae0) (q9evZ w0) (q9evS ae1) (hX _ (List.mem_of_getElem? (i := 2) rfl)) (by decide)
  rw [q9FF_1002] at X2
  have H2 := Option.some.inj X2
  try simp only [kz, k4, k59, k60] at H2
  have V1 := q9pV (T := T) (N := N) (P := P) (J := J) (t0 := t0) (Sc := Sc) (op := 1013) (n := 5) (q9evS ae1) (q9evZ w0) (hV _ (List.mem_of_getElem? (i := 1) rfl)) (by decide)
  rw [q9FF_1013] at V1
  have K1 := Option.some.inj V1
  try simp only [kz, k4, k59, k60] at K1
  have X3 := q9th_pX (T := T) (N := N) (P := P) (J := J) (t0 := t0) (Sc := Sc) (op := 1003) (q9evS ae1) (q9evZ w0) (q9evS ae2) (hX _ (List.mem_of_getElem? (i := 3) rfl)) (by decide)
  rw [q9FF_1003] at X3
  have H3 := Option.some.inj X3
  try simp only [kz, k4, k59, k60] at H3
  have L5 : x3.toInt ≤ (Int32.ofInt 59).toInt + 0 := q9pC (q9evS ae3) (q9evC w0 59) (hL _ (List.mem_of_getElem? (i := 5) rfl))
  obtain ⟨c, hv, hc, h8, h9, -⟩ := K0
  have hd : x4.toInt + 1 = c.2.2.length := q9th_at_of hv hc H0
  have hz : x3.toInt = c.2.1 := q9th_at_of hv hc H1
  have hb : q9spI T N c.1 = x1.toInt := by rw [hc]; exact H2
  obtain ⟨q, st, hst⟩ : ∃ q st, c.2.2 = q :: st := by
    cases hh : c.2.2 with
    | nil => exfalso; rw [hh, List.length_nil] at hd; omega
    | cons q st => exact ⟨q, st, rfl⟩
  have hl2 : c.2.2.length = st.length + 1 := by rw [hst, List.length_cons]
  have hk : q9kbI T N (q9spI T N c.1) = 5 := by rw [hb]; exact K1
  have he : q9weI T N x1.toInt = x2.toInt := H3
  have hbg : q9bgC T N P J c := ⟨hv, h8, h9⟩
  have hls : q9lsE T N P J x3.toInt 0 := ⟨c, hbg, hz.symm, .inr ⟨by omega, rfl⟩⟩
  have rg0 : (0 : Int) ≤ 0 ∧ (0 : Int) ≤ 0 := by omega
  obtain ⟨x5, nt5⟩ : ∃ x : Int32, x.toInt = 0 := ⟨Int32.ofInt (0), q9oI_toInt (by omega)⟩
  have u_ : q9upN w 6 [.int x5] 0 = .int 0 := q9upN_of (by decide) w0
  have u0 : q9upN w 6 [.int x5] 1 = .int x0 := q9upN_of (by decide) ae0
  have u1 : q9upN w 6 [.int x5] 2 = .int x1 := q9upN_of (by decide) ae1
  have u2 : q9upN w 6 [.int x5] 3 = .int x2 := q9upN_of (by decide) ae2
  have u3 : q9upN w 6 [.int x5] 4 = .int x3 := q9upN_of (by decide) ae3
  have u4 : q9upN w 6 [.int x5] 5 = .int x4 := q9upN_of (by decide) ae4
  have u5 : q9upN w 6 [.int x5] 6 = .int x5 := q9upN_at (by decide)
  refine ⟨[.int x5], fun i9 p9 hq9 => ?_, fun _ h => absurd h List.not_mem_nil, fun _ h => absurd h List.not_mem_nil⟩
  · match i9, hq9 with
    | 0, hq9 =>
      have hp9 : ((1485, (4, 0), (0, 0), (0, 0, 0)) : Nat × q9AV × q9AV × q9ET) = p9 := Option.some.inj hq9
      subst hp9
      exact ⟨⟨x5, rfl, by rw [nt5]; exact rg0.1, by rw [nt5]; exact rg0.2⟩, (q9th_tX (T := T) (N := N) (P := P) (J := J) (t0 := t0) (Sc := Sc) (q9evS u3) (q9evZ u_) (q9evS u5) (by rw [q9FF_1485, nt5]; exact (q9lsE_V hls)) (by decide)).trans (congrArg some (q9evS u5))⟩
    | k9 + 1, hq9 => exact nomatch (show (none : Option (Nat × q9AV × q9AV × q9ET)) = some p9 from hq9)
theorem q9ru_lsz6 (hT : ∀ i, 0 ≤ T i ∧ T i ≤ 255) (hN : 0 ≤ N ∧ N ≤ 400) (hSc : 0 ≤ Sc 1 ∧ Sc 1 ≤ 400 → N = Sc 1) : q9ruOK (fO T N P J t0 Sc) q9R_lsz6 := by
  intro w w0 hA hX hL hV hR
  obtain ⟨x0, ae0, -, -⟩ := hA 0 0 rfl
  obtain ⟨x1, ae1, -, -⟩ := hA 1 0 rfl
  obtain ⟨x2, ae2, -, -⟩ := hA 2 0 rfl
  obtain ⟨x3, ae3, -, -⟩ := hA 3 0 rfl
  obtain ⟨x4, ae4, -, -⟩ := hA 4 0 rfl
  have kz : (0 : Int32).toInt = 0 := rfl
  have k4 : (Int32.ofInt 4).toInt = 4 := q9oI_toInt (by decide)
  have k59 : (Int32.ofInt 59).toInt = 59 := q9oI_toInt (by decide)
  have k60 : (Int32.ofInt 60).toInt = 60 := q9oI_toInt (by decide)
  have V0 := q9pV (T := T) (N := N) (P := P) (J := J) (t0 := t0) (Sc := Sc) (op := 1027) (n := 1) (q9evS ae0) (q9evZ w0) (hV _ (List.mem_of_getElem? (i := 0) rfl)) (by decide)
  rw [q9FF_1027] at V0
  have K0 := q9chV_of V0
  try simp only [kz, k4, k59, k60] at K0
  have X0 := q9th_pX (T := T) (N := N) (P := P) (J := J) (t0 := t0) (Sc := Sc) (op := 1021) (q9evS ae0) (q9evZ w0) (q9evS ae4) (hX _ (List.mem_of_getElem? (i := 0) rfl)) (by decide)
  rw [q9FF_1021] at X0
  have H0 := q9chV_of X0
  try simp only [kz, k4, k59, k60] at H0
  have X1 := q9th_pX (T := T) (N := N) (P := P) (J := J) (t0 := t0) (Sc := Sc) (op := 1022) (q9evS ae0) (q9evZ w0) (q9evS ae3) (hX _ (List.mem_of_getElem? (i := 1) rfl)) (by decide)
  rw [q9FF_1022] at X1
  have H1 := q9chV_of X1
  try simp only [kz, k4, k59, k60] at H1
  have L0 : (0 : Int32).toInt ≤ x0.toInt + 0 := q9pC (q9evZ w0) (q9evS ae0) (hL _ (List.mem_of_getElem? (i := 0) rfl))
  have L1 : (0 : Int32).toInt ≤ x3.toInt + 0 := q9pC (q9evZ w0) (q9evS ae3) (hL _ (List.mem_of_getElem? (i := 1) rfl))
  have L2 : x3.toInt ≤ (Int32.ofInt 60).toInt + 0 := q9pC (q9evS ae3) (q9evC w0 60) (hL _ (List.mem_of_getElem? (i := 2) rfl))
  have L3 : (0 : Int32).toInt ≤ x4.toInt + 0 := q9pC (q9evZ w0) (q9evS ae4) (hL _ (List.mem_of_getElem? (i := 3) rfl))
  have L4 : x4.toInt ≤ (Int32.ofInt 4).toInt + 0 := q9pC (q9evS ae4) (q9evC w0 4) (hL _ (List.mem_of_getElem? (i := 4) rfl))
  have X2 := q9th_pX (T := T) (N := N) (P := P) (J := J) (t0 := t0) (Sc := Sc) (op := 1002) (q9evS ae0) (q9evZ w0) (q9evS ae1) (hX _ (List.mem_of_getElem? (i := 2) rfl)) (by decide)
  rw [q9FF_1002] at X2
  have H2 := Option.some.inj X2
  try simp only [kz, k4, k59, k60] at H2
  have V1 := q9pV (T := T) (N := N) (P := P) (J := J) (t0 := t0) (Sc := Sc) (op := 1013) (n := 6) (q9evS ae1) (q9evZ w0) (hV _ (List.mem_of_getElem? (i := 1) rfl)) (by decide)
  rw [q9FF_1013] at V1
  have K1 := Option.some.inj V1
  try simp only [kz, k4, k59, k60] at K1
  have X3 := q9th_pX (T := T) (N := N) (P := P) (J := J) (t0 := t0) (Sc := Sc) (op := 1003) (q9evS ae1) (q9evZ w0) (q9evS ae2) (hX _ (List.mem_of_getElem? (i := 3) rfl)) (by decide)
  rw [q9FF_1003] at X3
  have H3 := Option.some.inj X3
  try simp only [kz, k4, k59, k60] at H3
  have L5 : x3.toInt ≤ (Int32.ofInt 59).toInt + 0 := q9pC (q9evS ae3) (q9evC w0 59) (hL _ (List.mem_of_getElem? (i := 5) rfl))
  obtain ⟨c, hv, hc, h8, h9, -⟩ := K0
  have hd : x4.toInt + 1 = c.2.2.length := q9th_at_of hv hc H0
  have hz : x3.toInt = c.2.1 := q9th_at_of hv hc H1
  have hb : q9spI T N c.1 = x1.toInt := by rw [hc]; exact H2
  obtain ⟨q, st, hst⟩ : ∃ q st, c.2.2 = q :: st := by
    cases hh : c.2.2 with
    | nil => exfalso; rw [hh, List.length_nil] at hd; omega
    | cons q st => exact ⟨q, st, rfl⟩
  have hl2 : c.2.2.length = st.length + 1 := by rw [hst, List.length_cons]
  have hk : q9kbI T N (q9spI T N c.1) = 6 := by rw [hb]; exact K1
  have he : q9weI T N x1.toInt = x2.toInt := H3
  have hbg : q9bgC T N P J c := ⟨hv, h8, h9⟩
  have hls : q9lsE T N P J x3.toInt 0 := ⟨c, hbg, hz.symm, .inr ⟨by omega, rfl⟩⟩
  have rg0 : (0 : Int) ≤ 0 ∧ (0 : Int) ≤ 0 := by omega
  obtain ⟨x5, nt5⟩ : ∃ x : Int32, x.toInt = 0 := ⟨Int32.ofInt (0), q9oI_toInt (by omega)⟩
  have u_ : q9upN w 6 [.int x5] 0 = .int 0 := q9upN_of (by decide) w0
  have u0 : q9upN w 6 [.int x5] 1 = .int x0 := q9upN_of (by decide) ae0
  have u1 : q9upN w 6 [.int x5] 2 = .int x1 := q9upN_of (by decide) ae1
  have u2 : q9upN w 6 [.int x5] 3 = .int x2 := q9upN_of (by decide) ae2
  have u3 : q9upN w 6 [.int x5] 4 = .int x3 := q9upN_of (by decide) ae3
  have u4 : q9upN w 6 [.int x5] 5 = .int x4 := q9upN_of (by decide) ae4
  have u5 : q9upN w 6 [.int x5] 6 = .int x5 := q9upN_at (by decide)
  refine ⟨[.int x5], fun i9 p9 hq9 => ?_, fun _ h => absurd h List.not_mem_nil, fun _ h => absurd h List.not_mem_nil⟩
  · match i9, hq9 with
    | 0, hq9 =>
      have hp9 : ((1485, (4, 0), (0, 0), (0, 0, 0)) : Nat × q9AV × q9AV × q9ET) = p9 := Option.some.inj hq9
      subst hp9
      exact ⟨⟨x5, rfl, by rw [nt5]; exact rg0.1, by rw [nt5]; exact rg0.2⟩, (q9th_tX (T := T) (N := N) (P := P) (J := J) (t0 := t0) (Sc := Sc) (q9evS u3) (q9evZ u_) (q9evS u5) (by rw [q9FF_1485, nt5]; exact (q9lsE_V hls)) (by decide)).trans (congrArg some (q9evS u5))⟩
    | k9 + 1, hq9 => exact nomatch (show (none : Option (Nat × q9AV × q9AV × q9ET)) = some p9 from hq9)
theorem q9ru_lsz7 (hT : ∀ i, 0 ≤ T i ∧ T i ≤ 255) (hN : 0 ≤ N ∧ N ≤ 400) (hSc : 0 ≤ Sc 1 ∧ Sc 1 ≤ 400 → N = Sc 1) : q9ruOK (fO T N P J t0 Sc) q9R_lsz7 := by
  intro w w0 hA hX hL hV hR
  obtain ⟨x0, ae0, -, -⟩ := hA 0 0 rfl
  obtain ⟨x1, ae1, -, -⟩ := hA 1 0 rfl
  obtain ⟨x2, ae2, -, -⟩ := hA 2 0 rfl
  obtain ⟨x3, ae3, -, -⟩ := hA 3 0 rfl
  obtain ⟨x4, ae4, -, -⟩ := hA 4 0 rfl
  have kz : (0 : Int32).toInt = 0 := rfl
  have k4 : (Int32.ofInt 4).toInt = 4 := q9oI_toInt (by decide)
  have k59 : (Int32.ofInt 59).toInt = 59 := q9oI_toInt (by decide)
  have k60 : (Int32.ofInt 60).toInt = 60 := q9oI_toInt (by decide)
  have V0 := q9pV (T := T) (N := N) (P := P) (J := J) (t0 := t0) (Sc := Sc) (op := 1027) (n := 1) (q9evS ae0) (q9evZ w0) (hV _ (List.mem_of_getElem? (i := 0) rfl)) (by decide)
  rw [q9FF_1027] at V0
  have K0 := q9chV_of V0
  try simp only [kz, k4, k59, k60] at K0
  have X0 := q9th_pX (T := T) (N := N) (P := P) (J := J) (t0 := t0) (Sc := Sc) (op := 1021) (q9evS ae0) (q9evZ w0) (q9evS ae4) (hX _ (List.mem_of_getElem? (i := 0) rfl)) (by decide)
  rw [q9FF_1021] at X0
  have H0 := q9chV_of X0
  try simp only [kz, k4, k59, k60] at H0
  have X1 := q9th_pX (T := T) (N := N) (P := P) (J := J) (t0 := t0) (Sc := Sc) (op := 1022) (q9evS ae0) (q9evZ w0) (q9evS ae3) (hX _ (List.mem_of_getElem? (i := 1) rfl)) (by decide)
  rw [q9FF_1022] at X1
  have H1 := q9chV_of X1
  try simp only [kz, k4, k59, k60] at H1
  have L0 : (0 : Int32).toInt ≤ x0.toInt + 0 := q9pC (q9evZ w0) (q9evS ae0) (hL _ (List.mem_of_getElem? (i := 0) rfl))
  have L1 : (0 : Int32).toInt ≤ x3.toInt + 0 := q9pC (q9evZ w0) (q9evS ae3) (hL _ (List.mem_of_getElem? (i := 1) rfl))
  have L2 : x3.toInt ≤ (Int32.ofInt 60).toInt + 0 := q9pC (q9evS ae3) (q9evC w0 60) (hL _ (List.mem_of_getElem? (i := 2) rfl))
  have L3 : (0 : Int32).toInt ≤ x4.toInt + 0 := q9pC (q9evZ w0) (q9evS ae4) (hL _ (List.mem_of_getElem? (i := 3) rfl))
  have L4 : x4.toInt ≤ (Int32.ofInt 4).toInt + 0 := q9pC (q9evS ae4) (q9evC w0 4) (hL _ (List.mem_of_getElem? (i := 4) rfl))
  have X2 := q9th_pX (T := T) (N := N) (P := P) (J := J) (t0 := t0) (Sc := Sc) (op := 1002) (q9evS ae0) (q9evZ w0) (q9evS ae1) (hX _ (List.mem_of_getElem? (i := 2) rfl)) (by decide)
  rw [q9FF_1002] at X2
  have H2 := Option.some.inj X2
  try simp only [kz, k4, k59, k60] at H2
  have V1 := q9pV (T := T) (N := N) (P := P) (J := J) (t0 := t0) (Sc := Sc) (op := 1013) (n := 7) (q9evS ae1) (q9evZ w0) (hV _ (List.mem_of_getElem? (i := 1) rfl)) (by decide)
  rw [q9FF_1013] at V1
  have K1 := Option.some.inj V1
  try simp only [kz, k4, k59, k60] at K1
  have X3 := q9th_pX (T := T) (N := N) (P := P) (J := J) (t0 := t0) (Sc := Sc) (op := 1003) (q9evS ae1) (q9evZ w0) (q9evS ae2) (hX _ (List.mem_of_getElem? (i := 3) rfl)) (by decide)
  rw [q9FF_1003] at X3
  have H3 := Option.some.inj X3
  try simp only [kz, k4, k59, k60] at H3
  have L5 : x3.toInt ≤ (Int32.ofInt 59).toInt + 0 := q9pC (q9evS ae3) (q9evC w0 59) (hL _ (List.mem_of_getElem? (i := 5) rfl))
  obtain ⟨c, hv, hc, h8, h9, -⟩ := K0
  have hd : x4.toInt + 1 = c.2.2.length := q9th_at_of hv hc H0
  have hz : x3.toInt = c.2.1 := q9th_at_of hv hc H1
  have hb : q9spI T N c.1 = x1.toInt := by rw [hc]; exact H2
  obtain ⟨q, st, hst⟩ : ∃ q st, c.2.2 = q :: st := by
    cases hh : c.2.2 with
    | nil => exfalso; rw [hh, List.length_nil] at hd; omega
    | cons q st => exact ⟨q, st, rfl⟩
  have hl2 : c.2.2.length = st.length + 1 := by rw [hst, List.length_cons]
  have hk : q9kbI T N (q9spI T N c.1) = 7 := by rw [hb]; exact K1
  have he : q9weI T N x1.toInt = x2.toInt := H3
  have hbg : q9bgC T N P J c := ⟨hv, h8, h9⟩
  have hls : q9lsE T N P J x3.toInt 0 := ⟨c, hbg, hz.symm, .inr ⟨by omega, rfl⟩⟩
  have rg0 : (0 : Int) ≤ 0 ∧ (0 : Int) ≤ 0 := by omega
  obtain ⟨x5, nt5⟩ : ∃ x : Int32, x.toInt = 0 := ⟨Int32.ofInt (0), q9oI_toInt (by omega)⟩
  have u_ : q9upN w 6 [.int x5] 0 = .int 0 := q9upN_of (by decide) w0
  have u0 : q9upN w 6 [.int x5] 1 = .int x0 := q9upN_of (by decide) ae0
  have u1 : q9upN w 6 [.int x5] 2 = .int x1 := q9upN_of (by decide) ae1
  have u2 : q9upN w 6 [.int x5] 3 = .int x2 := q9upN_of (by decide) ae2
  have u3 : q9upN w 6 [.int x5] 4 = .int x3 := q9upN_of (by decide) ae3
  have u4 : q9upN w 6 [.int x5] 5 = .int x4 := q9upN_of (by decide) ae4
  have u5 : q9upN w 6 [.int x5] 6 = .int x5 := q9upN_at (by decide)
  refine ⟨[.int x5], fun i9 p9 hq9 => ?_, fun _ h => absurd h List.not_mem_nil, fun _ h => absurd h List.not_mem_nil⟩
  · match i9, hq9 with
    | 0, hq9 =>
      have hp9 : ((1485, (4, 0), (0, 0), (0, 0, 0)) : Nat × q9AV × q9AV × q9ET) = p9 := Option.some.inj hq9
      subst hp9
      exact ⟨⟨x5, rfl, by rw [nt5]; exact rg0.1, by rw [nt5]; exact rg0.2⟩, (q9th_tX (T := T) (N := N) (P := P) (J := J) (t0 := t0) (Sc := Sc) (q9evS u3) (q9evZ u_) (q9evS u5) (by rw [q9FF_1485, nt5]; exact (q9lsE_V hls)) (by decide)).trans (congrArg some (q9evS u5))⟩
    | k9 + 1, hq9 => exact nomatch (show (none : Option (Nat × q9AV × q9AV × q9ET)) = some p9 from hq9)
theorem q9ru_clz0 (hT : ∀ i, 0 ≤ T i ∧ T i ≤ 255) (hN : 0 ≤ N ∧ N ≤ 400) (hSc : 0 ≤ Sc 1 ∧ Sc 1 ≤ 400 → N = Sc 1) : q9ruOK (fO T N P J t0 Sc) q9R_clz0 := by
  intro w w0 hA hX hL hV hR
  have kz : (0 : Int32).toInt = 0 := rfl
  have u_ : q9upN w 1 [] 0 = .int 0 := q9upN_of (by decide) w0
  refine ⟨[], fun i9 p9 hq9 => ?_, List.forall_mem_cons.mpr ⟨?_, fun _ h => absurd h List.not_mem_nil⟩, fun _ h => absurd h List.not_mem_nil⟩
  · exact nomatch (show (none : Option (Nat × q9AV × q9AV × q9ET)) = some p9 from hq9)
  · exact q9th_tX (T := T) (N := N) (P := P) (J := J) (t0 := t0) (Sc := Sc) (q9evZ u_) (q9evZ u_) (q9evZ u_) (by rw [q9FF_1483]; exact rfl) (by decide)
theorem q9ru_slz0 (hT : ∀ i, 0 ≤ T i ∧ T i ≤ 255) (hN : 0 ≤ N ∧ N ≤ 400) (hSc : 0 ≤ Sc 1 ∧ Sc 1 ≤ 400 → N = Sc 1) : q9ruOK (fO T N P J t0 Sc) q9R_slz0 := by
  intro w w0 hA hX hL hV hR
  have kz : (0 : Int32).toInt = 0 := rfl
  have u_ : q9upN w 1 [] 0 = .int 0 := q9upN_of (by decide) w0
  refine ⟨[], fun i9 p9 hq9 => ?_, List.forall_mem_cons.mpr ⟨?_, fun _ h => absurd h List.not_mem_nil⟩, fun _ h => absurd h List.not_mem_nil⟩
  · exact nomatch (show (none : Option (Nat × q9AV × q9AV × q9ET)) = some p9 from hq9)
  · exact q9th_tX (T := T) (N := N) (P := P) (J := J) (t0 := t0) (Sc := Sc) (q9evZ u_) (q9evZ u_) (q9evZ u_) (by rw [q9FF_1486]; exact rfl) (by decide)
theorem q9ru_clb0 (hT : ∀ i, 0 ≤ T i ∧ T i ≤ 255) (hN : 0 ≤ N ∧ N ≤ 400) (hSc : 0 ≤ Sc 1 ∧ Sc 1 ≤ 400 → N = Sc 1) : q9ruOK (fO T N P J t0 Sc) q9R_clb0 := by
  intro w w0 hA hX hL hV hR
  obtain ⟨x0, ae0, -, -⟩ := hA 0 0 rfl
  have kz : (0 : Int32).toInt = 0 := rfl
  have L0 : x0.toInt ≤ (0 : Int32).toInt + 0 := q9pC (q9evS ae0) (q9evZ w0) (hL _ (List.mem_of_getElem? (i := 0) rfl))
  have L1 : (0 : Int32).toInt ≤ x0.toInt + 0 := q9pC (q9evZ w0) (q9evS ae0) (hL _ (List.mem_of_getElem? (i := 1) rfl))
  have rg0 : (0 : Int) ≤ 0 ∧ (0 : Int) ≤ 0 := by omega
  obtain ⟨x1, nt1⟩ : ∃ x : Int32, x.toInt = 0 := ⟨Int32.ofInt (0), q9oI_toInt (by omega)⟩
  have u_ : q9upN w 2 [.int x1] 0 = .int 0 := q9upN_of (by decide) w0
  have u0 : q9upN w 2 [.int x1] 1 = .int x0 := q9upN_of (by decide) ae0
  have u1 : q9upN w 2 [.int x1] 2 = .int x1 := q9upN_at (by decide)
  refine ⟨[.int x1], fun i9 p9 hq9 => ?_, fun _ h => absurd h List.not_mem_nil, fun _ h => absurd h List.not_mem_nil⟩
  · match i9, hq9 with
    | 0, hq9 =>
      have hp9 : ((1483, (1, 0), (0, 0), (0, 0, 0)) : Nat × q9AV × q9AV × q9ET) = p9 := Option.some.inj hq9
      subst hp9
      exact ⟨⟨x1, rfl, by rw [nt1]; exact rg0.1, by rw [nt1]; exact rg0.2⟩, (q9th_tX (T := T) (N := N) (P := P) (J := J) (t0 := t0) (Sc := Sc) (q9evS u0) (q9evZ u_) (q9evS u1) (by rw [q9FF_1483, nt1]; exact (by rw [show x0.toInt = 0 by omega]; rfl)) (by decide)).trans (congrArg some (q9evS u1))⟩
    | k9 + 1, hq9 => exact nomatch (show (none : Option (Nat × q9AV × q9AV × q9ET)) = some p9 from hq9)
theorem q9ru_clb (hT : ∀ i, 0 ≤ T i ∧ T i ≤ 255) (hN : 0 ≤ N ∧ N ≤ 400) (hSc : 0 ≤ Sc 1 ∧ Sc 1 ≤ 400 → N = Sc 1) : q9ruOK (fO T N P J t0 Sc) q9R_clb := by
  intro w w0 hA hX hL hV hR
  obtain ⟨x0, ae0, -, -⟩ := hA 0 0 rfl
  obtain ⟨x1, ae1, -, -⟩ := hA 1 0 rfl
  obtain ⟨x2, ae2, -, -⟩ := hA 2 0 rfl
  obtain ⟨x3, ae3, -, -⟩ := hA 3 0 rfl
  obtain ⟨x4, ae4, -, -⟩ := hA 4 0 rfl
  have kz : (0 : Int32).toInt = 0 := rfl
  have k59 : (Int32.ofInt 59).toInt = 59 := q9oI_toInt (by decide)
  have k255 : (Int32.ofInt 255).toInt = 255 := q9oI_toInt (by decide)
  have X0 := q9th_pX (T := T) (N := N) (P := P) (J := J) (t0 := t0) (Sc := Sc) (op := 1483) (q9evS ae0) (q9evZ w0) (q9evS ae1) (hX _ (List.mem_of_getElem? (i := 0) rfl)) (by decide)
  rw [q9FF_1483] at X0
  have H0 := X0
  try simp only [kz, k59, k255] at H0
  have X1 := q9th_pX (T := T) (N := N) (P := P) (J := J) (t0 := t0) (Sc := Sc) (op := 1482) (q9evS ae0) (q9evZ w0) (q9evS ae2) (hX _ (List.mem_of_getElem? (i := 1) rfl)) (by decide)
  rw [q9FF_1482] at X1
  have H1 := q9chV_of X1
  try simp only [kz, k59, k255] at H1
  have X2 := q9pB (T := T) (N := N) (P := P) (J := J) (t0 := t0) (Sc := Sc) (q9evS ae1) (q9evS ae2) (q9evS ae3) (hX _ (List.mem_of_getElem? (i := 2) rfl))
  have L0 : (0 : Int32).toInt ≤ x0.toInt + 0 := q9pC (q9evZ w0) (q9evS ae0) (hL _ (List.mem_of_getElem? (i := 0) rfl))
  have L1 : x0.toInt ≤ (Int32.ofInt 59).toInt + 0 := q9pC (q9evS ae0) (q9evC w0 59) (hL _ (List.mem_of_getElem? (i := 1) rfl))
  have L2 : x4.toInt ≤ x0.toInt + 1 := q9pC (q9evS ae4) (q9evS ae0) (hL _ (List.mem_of_getElem? (i := 2) rfl))
  have L3 : x0.toInt ≤ x4.toInt + (-1) := q9pC (q9evS ae0) (q9evS ae4) (hL _ (List.mem_of_getElem? (i := 3) rfl))
  have h0 : clF T N P J x0.toInt.toNat = some x1.toInt := H0
  have h1 : q9lbE T N P J ((x0.toInt.toNat : Nat) : Int) x2.toInt := by rw [show ((x0.toInt.toNat : Nat) : Int) = x0.toInt by omega]; exact H1
  have v2 : x1 ||| x2 = x3 := Value.int.inj (Option.some.inj (X2 : some (Value.int (x1 ||| x2)) = some (.int x3)))
  have hr := q9or_sm (x := x1) (y := x2) (q9clF_rng h0) (q9lbE_rng h1)
  rw [v2] at hr
  have h4 : clF T N P J x4.toInt.toNat = some x3.toInt := by
    rw [show x4.toInt.toNat = x0.toInt.toNat + 1 by omega, q9clF_s h0 h1, ← q9or_of, v2]
  have u_ : q9upN w 6 [] 0 = .int 0 := q9upN_of (by decide) w0
  have u0 : q9upN w 6 [] 1 = .int x0 := q9upN_of (by decide) ae0
  have u1 : q9upN w 6 [] 2 = .int x1 := q9upN_of (by decide) ae1
  have u2 : q9upN w 6 [] 3 = .int x2 := q9upN_of (by decide) ae2
  have u3 : q9upN w 6 [] 4 = .int x3 := q9upN_of (by decide) ae3
  have u4 : q9upN w 6 [] 5 = .int x4 := q9upN_of (by decide) ae4
  refine ⟨[], fun i9 p9 hq9 => ?_, List.forall_mem_cons.mpr ⟨?_, fun _ h => absurd h List.not_mem_nil⟩, List.forall_mem_cons.mpr ⟨?_, List.forall_mem_cons.mpr ⟨?_, fun _ h => absurd h List.not_mem_nil⟩⟩⟩
  · exact nomatch (show (none : Option (Nat × q9AV × q9AV × q9ET)) = some p9 from hq9)
  · exact q9th_tX (T := T) (N := N) (P := P) (J := J) (t0 := t0) (Sc := Sc) (q9evS u4) (q9evZ u_) (q9evS u3) (by rw [q9FF_1483]; exact h4) (by decide)
  · exact q9th_tC (d := 0) (q9evZ u_) (q9evS u3) (by omega)
  · exact q9th_tC (d := 0) (q9evS u3) (q9evC u_ 255) (by omega)
theorem q9ru_fcb (hT : ∀ i, 0 ≤ T i ∧ T i ≤ 255) (hN : 0 ≤ N ∧ N ≤ 400) (hSc : 0 ≤ Sc 1 ∧ Sc 1 ≤ 400 → N = Sc 1) : q9ruOK (fO T N P J t0 Sc) q9R_fcb := by
  intro w w0 hA hX hL hV hR
  obtain ⟨x0, ae0, -, -⟩ := hA 0 0 rfl
  obtain ⟨x1, ae1, -, -⟩ := hA 1 0 rfl
  have kz : (0 : Int32).toInt = 0 := rfl
  have V0 := q9pV (T := T) (N := N) (P := P) (J := J) (t0 := t0) (Sc := Sc) (op := 1040) (n := 0) (q9evZ w0) (q9evZ w0) (hV _ (List.mem_of_getElem? (i := 0) rfl)) (by decide)
  rw [q9FF_1040] at V0
  have K0 := q9chV_of V0
  try simp only [kz] at K0
  have X0 := q9th_pX (T := T) (N := N) (P := P) (J := J) (t0 := t0) (Sc := Sc) (op := 1042) (q9evZ w0) (q9evZ w0) (q9evS ae0) (hX _ (List.mem_of_getElem? (i := 0) rfl)) (by decide)
  rw [q9FF_1042] at X0
  have H0 := q9chV_of X0
  try simp only [kz] at H0
  have X1 := q9th_pX (T := T) (N := N) (P := P) (J := J) (t0 := t0) (Sc := Sc) (op := 1483) (q9evS ae0) (q9evZ w0) (q9evS ae1) (hX _ (List.mem_of_getElem? (i := 1) rfl)) (by decide)
  rw [q9FF_1483] at X1
  have H1 := X1
  try simp only [kz] at H1
  obtain ⟨c, hv, hn, hed, hz⟩ := H0
  have h1 : clF T N P J x0.toInt.toNat = some x1.toInt := H1
  rw [hz] at h1
  have u_ : q9upN w 3 [] 0 = .int 0 := q9upN_of (by decide) w0
  have u0 : q9upN w 3 [] 1 = .int x0 := q9upN_of (by decide) ae0
  have u1 : q9upN w 3 [] 2 = .int x1 := q9upN_of (by decide) ae1
  refine ⟨[], fun i9 p9 hq9 => ?_, List.forall_mem_cons.mpr ⟨?_, fun _ h => absurd h List.not_mem_nil⟩, fun _ h => absurd h List.not_mem_nil⟩
  · exact nomatch (show (none : Option (Nat × q9AV × q9AV × q9ET)) = some p9 from hq9)
  · exact q9th_tX (T := T) (N := N) (P := P) (J := J) (t0 := t0) (Sc := Sc) (q9evZ u_) (q9evZ u_) (q9evS u1) (by rw [q9FF_1484]; exact (q9la_V (p := fun (v : Int) c => q9edI T N c ∧ clF T N P J c.2.1.toNat = some v) hv hn ⟨hed, h1⟩ (fun v' h => by have h2 := h.2; rw [h1] at h2; exact (Option.some.inj h2).symm))) (by decide)
theorem q9ru_slb0 (hT : ∀ i, 0 ≤ T i ∧ T i ≤ 255) (hN : 0 ≤ N ∧ N ≤ 400) (hSc : 0 ≤ Sc 1 ∧ Sc 1 ≤ 400 → N = Sc 1) : q9ruOK (fO T N P J t0 Sc) q9R_slb0 := by
  intro w w0 hA hX hL hV hR
  obtain ⟨x0, ae0, -, -⟩ := hA 0 0 rfl
  have kz : (0 : Int32).toInt = 0 := rfl
  have L0 : x0.toInt ≤ (0 : Int32).toInt + 0 := q9pC (q9evS ae0) (q9evZ w0) (hL _ (List.mem_of_getElem? (i := 0) rfl))
  have L1 : (0 : Int32).toInt ≤ x0.toInt + 0 := q9pC (q9evZ w0) (q9evS ae0) (hL _ (List.mem_of_getElem? (i := 1) rfl))
  have rg0 : (0 : Int) ≤ 0 ∧ (0 : Int) ≤ 0 := by omega
  obtain ⟨x1, nt1⟩ : ∃ x : Int32, x.toInt = 0 := ⟨Int32.ofInt (0), q9oI_toInt (by omega)⟩
  have u_ : q9upN w 2 [.int x1] 0 = .int 0 := q9upN_of (by decide) w0
  have u0 : q9upN w 2 [.int x1] 1 = .int x0 := q9upN_of (by decide) ae0
  have u1 : q9upN w 2 [.int x1] 2 = .int x1 := q9upN_at (by decide)
  refine ⟨[.int x1], fun i9 p9 hq9 => ?_, fun _ h => absurd h List.not_mem_nil, fun _ h => absurd h List.not_mem_nil⟩
  · match i9, hq9 with
    | 0, hq9 =>
      have hp9 : ((1486, (1, 0), (0, 0), (0, 0, 0)) : Nat × q9AV × q9AV × q9ET) = p9 := Option.some.inj hq9
      subst hp9
      exact ⟨⟨x1, rfl, by rw [nt1]; exact rg0.1, by rw [nt1]; exact rg0.2⟩, (q9th_tX (T := T) (N := N) (P := P) (J := J) (t0 := t0) (Sc := Sc) (q9evS u0) (q9evZ u_) (q9evS u1) (by rw [q9FF_1486, nt1]; exact (by rw [show x0.toInt = 0 by omega]; rfl)) (by decide)).trans (congrArg some (q9evS u1))⟩
    | k9 + 1, hq9 => exact nomatch (show (none : Option (Nat × q9AV × q9AV × q9ET)) = some p9 from hq9)
theorem q9ru_slb (hT : ∀ i, 0 ≤ T i ∧ T i ≤ 255) (hN : 0 ≤ N ∧ N ≤ 400) (hSc : 0 ≤ Sc 1 ∧ Sc 1 ≤ 400 → N = Sc 1) : q9ruOK (fO T N P J t0 Sc) q9R_slb := by
  intro w w0 hA hX hL hV hR
  obtain ⟨x0, ae0, -, -⟩ := hA 0 0 rfl
  obtain ⟨x1, ae1, -, -⟩ := hA 1 0 rfl
  obtain ⟨x2, ae2, -, -⟩ := hA 2 0 rfl
  obtain ⟨x3, ae3, -, -⟩ := hA 3 0 rfl
  obtain ⟨x4, ae4, -, -⟩ := hA 4 0 rfl
  have kz : (0 : Int32).toInt = 0 := rfl
  have k59 : (Int32.ofInt 59).toInt = 59 := q9oI_toInt (by decide)
  have k255 : (Int32.ofInt 255).toInt = 255 := q9oI_toInt (by decide)
  have X0 := q9th_pX (T := T) (N := N) (P := P) (J := J) (t0 := t0) (Sc := Sc) (op := 1486) (q9evS ae0) (q9evZ w0) (q9evS ae1) (hX _ (List.mem_of_getElem? (i := 0) rfl)) (by decide)
  rw [q9FF_1486] at X0
  have H0 := X0
  try simp only [kz, k59, k255] at H0
  have X1 := q9th_pX (T := T) (N := N) (P := P) (J := J) (t0 := t0) (Sc := Sc) (op := 1485) (q9evS ae0) (q9evZ w0) (q9evS ae2) (hX _ (List.mem_of_getElem? (i := 1) rfl)) (by decide)
  rw [q9FF_1485] at X1
  have H1 := q9chV_of X1
  try simp only [kz, k59, k255] at H1
  have X2 := q9pB (T := T) (N := N) (P := P) (J := J) (t0 := t0) (Sc := Sc) (q9evS ae1) (q9evS ae2) (q9evS ae3) (hX _ (List.mem_of_getElem? (i := 2) rfl))
  have L0 : (0 : Int32).toInt ≤ x0.toInt + 0 := q9pC (q9evZ w0) (q9evS ae0) (hL _ (List.mem_of_getElem? (i := 0) rfl))
  have L1 : x0.toInt ≤ (Int32.ofInt 59).toInt + 0 := q9pC (q9evS ae0) (q9evC w0 59) (hL _ (List.mem_of_getElem? (i := 1) rfl))
  have L2 : x4.toInt ≤ x0.toInt + 1 := q9pC (q9evS ae4) (q9evS ae0) (hL _ (List.mem_of_getElem? (i := 2) rfl))
  have L3 : x0.toInt ≤ x4.toInt + (-1) := q9pC (q9evS ae0) (q9evS ae4) (hL _ (List.mem_of_getElem? (i := 3) rfl))
  have h0 : csF T N P J x0.toInt.toNat = some x1.toInt := H0
  have h1 : q9lsE T N P J ((x0.toInt.toNat : Nat) : Int) x2.toInt := by rw [show ((x0.toInt.toNat : Nat) : Int) = x0.toInt by omega]; exact H1
  have v2 : x1 ||| x2 = x3 := Value.int.inj (Option.some.inj (X2 : some (Value.int (x1 ||| x2)) = some (.int x3)))
  have hr := q9or_sm (x := x1) (y := x2) (q9csF_rng h0) (q9lsE_rng h1)
  rw [v2] at hr
  have h4 : csF T N P J x4.toInt.toNat = some x3.toInt := by
    rw [show x4.toInt.toNat = x0.toInt.toNat + 1 by omega, q9csF_s h0 h1, ← q9or_of, v2]
  have u_ : q9upN w 6 [] 0 = .int 0 := q9upN_of (by decide) w0
  have u0 : q9upN w 6 [] 1 = .int x0 := q9upN_of (by decide) ae0
  have u1 : q9upN w 6 [] 2 = .int x1 := q9upN_of (by decide) ae1
  have u2 : q9upN w 6 [] 3 = .int x2 := q9upN_of (by decide) ae2
  have u3 : q9upN w 6 [] 4 = .int x3 := q9upN_of (by decide) ae3
  have u4 : q9upN w 6 [] 5 = .int x4 := q9upN_of (by decide) ae4
  refine ⟨[], fun i9 p9 hq9 => ?_, List.forall_mem_cons.mpr ⟨?_, fun _ h => absurd h List.not_mem_nil⟩, List.forall_mem_cons.mpr ⟨?_, List.forall_mem_cons.mpr ⟨?_, fun _ h => absurd h List.not_mem_nil⟩⟩⟩
  · exact nomatch (show (none : Option (Nat × q9AV × q9AV × q9ET)) = some p9 from hq9)
  · exact q9th_tX (T := T) (N := N) (P := P) (J := J) (t0 := t0) (Sc := Sc) (q9evS u4) (q9evZ u_) (q9evS u3) (by rw [q9FF_1486]; exact h4) (by decide)
  · exact q9th_tC (d := 0) (q9evZ u_) (q9evS u3) (by omega)
  · exact q9th_tC (d := 0) (q9evS u3) (q9evC u_ 255) (by omega)
theorem q9ru_fsb (hT : ∀ i, 0 ≤ T i ∧ T i ≤ 255) (hN : 0 ≤ N ∧ N ≤ 400) (hSc : 0 ≤ Sc 1 ∧ Sc 1 ≤ 400 → N = Sc 1) : q9ruOK (fO T N P J t0 Sc) q9R_fsb := by
  intro w w0 hA hX hL hV hR
  obtain ⟨x0, ae0, -, -⟩ := hA 0 0 rfl
  obtain ⟨x1, ae1, -, -⟩ := hA 1 0 rfl
  have kz : (0 : Int32).toInt = 0 := rfl
  have V0 := q9pV (T := T) (N := N) (P := P) (J := J) (t0 := t0) (Sc := Sc) (op := 1040) (n := 0) (q9evZ w0) (q9evZ w0) (hV _ (List.mem_of_getElem? (i := 0) rfl)) (by decide)
  rw [q9FF_1040] at V0
  have K0 := q9chV_of V0
  try simp only [kz] at K0
  have X0 := q9th_pX (T := T) (N := N) (P := P) (J := J) (t0 := t0) (Sc := Sc) (op := 1042) (q9evZ w0) (q9evZ w0) (q9evS ae0) (hX _ (List.mem_of_getElem? (i := 0) rfl)) (by decide)
  rw [q9FF_1042] at X0
  have H0 := q9chV_of X0
  try simp only [kz] at H0
  have X1 := q9th_pX (T := T) (N := N) (P := P) (J := J) (t0 := t0) (Sc := Sc) (op := 1486) (q9evS ae0) (q9evZ w0) (q9evS ae1) (hX _ (List.mem_of_getElem? (i := 1) rfl)) (by decide)
  rw [q9FF_1486] at X1
  have H1 := X1
  try simp only [kz] at H1
  obtain ⟨c, hv, hn, hed, hz⟩ := H0
  have h1 : csF T N P J x0.toInt.toNat = some x1.toInt := H1
  rw [hz] at h1
  have u_ : q9upN w 3 [] 0 = .int 0 := q9upN_of (by decide) w0
  have u0 : q9upN w 3 [] 1 = .int x0 := q9upN_of (by decide) ae0
  have u1 : q9upN w 3 [] 2 = .int x1 := q9upN_of (by decide) ae1
  refine ⟨[], fun i9 p9 hq9 => ?_, List.forall_mem_cons.mpr ⟨?_, fun _ h => absurd h List.not_mem_nil⟩, fun _ h => absurd h List.not_mem_nil⟩
  · exact nomatch (show (none : Option (Nat × q9AV × q9AV × q9ET)) = some p9 from hq9)
  · exact q9th_tX (T := T) (N := N) (P := P) (J := J) (t0 := t0) (Sc := Sc) (q9evZ u_) (q9evZ u_) (q9evS u1) (by rw [q9FF_1487]; exact (q9la_V (p := fun (v : Int) c => q9edI T N c ∧ csF T N P J c.2.1.toNat = some v) hv hn ⟨hed, h1⟩ (fun v' h => by have h2 := h.2; rw [h1] at h2; exact (Option.some.inj h2).symm))) (by decide)
theorem q9ru_fwk0 (hT : ∀ i, 0 ≤ T i ∧ T i ≤ 255) (hN : 0 ≤ N ∧ N ≤ 400) (hSc : 0 ≤ Sc 1 ∧ Sc 1 ≤ 400 → N = Sc 1) : q9ruOK (fO T N P J t0 Sc) q9R_fwk0 := by
  intro w w0 hA hX hL hV hR
  obtain ⟨x0, ae0, -, -⟩ := hA 0 0 rfl
  obtain ⟨x1, ae1, -, -⟩ := hA 1 0 rfl
  have kz : (0 : Int32).toInt = 0 := rfl
  have k1 : (Int32.ofInt 1).toInt = 1 := q9oI_toInt (by decide)
  have k380 : (Int32.ofInt 380).toInt = 380 := q9oI_toInt (by decide)
  have X0 := q9th_pX (T := T) (N := N) (P := P) (J := J) (t0 := t0) (Sc := Sc) (op := 1064) (q9evZ w0) (q9evZ w0) (q9evS ae0) (hX _ (List.mem_of_getElem? (i := 0) rfl)) (by decide)
  rw [q9FF_1064] at X0
  have H0 := Option.some.inj X0
  try simp only [kz, k1, k380] at H0
  have X1 := q9th_pX (T := T) (N := N) (P := P) (J := J) (t0 := t0) (Sc := Sc) (op := 1063) (q9evC w0 1) (q9evZ w0) (q9evS ae1) (hX _ (List.mem_of_getElem? (i := 1) rfl)) (by decide)
  rw [q9FF_1063] at X1
  have H1 := Option.some.inj X1
  try simp only [kz, k1, k380] at H1
  have L0 : (0 : Int32).toInt ≤ x0.toInt + 0 := q9pC (q9evZ w0) (q9evS ae0) (hL _ (List.mem_of_getElem? (i := 0) rfl))
  have L1 : x0.toInt ≤ (Int32.ofInt 380).toInt + 0 := q9pC (q9evS ae0) (q9evC w0 380) (hL _ (List.mem_of_getElem? (i := 1) rfl))
  have ht : t0 = x0.toInt := H0
  have hs : Sc 1 = x1.toInt := H1
  have u_ : q9upN w 3 [] 0 = .int 0 := q9upN_of (by decide) w0
  have u0 : q9upN w 3 [] 1 = .int x0 := q9upN_of (by decide) ae0
  have u1 : q9upN w 3 [] 2 = .int x1 := q9upN_of (by decide) ae1
  refine ⟨[], fun i9 p9 hq9 => ?_, List.forall_mem_cons.mpr ⟨?_, fun _ h => absurd h List.not_mem_nil⟩, fun _ h => absurd h List.not_mem_nil⟩
  · exact nomatch (show (none : Option (Nat × q9AV × q9AV × q9ET)) = some p9 from hq9)
  · exact q9th_tX (T := T) (N := N) (P := P) (J := J) (t0 := t0) (Sc := Sc) (q9evS u0) (q9evZ u_) (q9evS u1) (by rw [q9FF_1059]; exact (by rw [if_pos (by omega), show (x0.toInt - t0) / 4 + 1 = 1 by omega, hs])) (by decide)
theorem q9ru_fwk1 (hT : ∀ i, 0 ≤ T i ∧ T i ≤ 255) (hN : 0 ≤ N ∧ N ≤ 400) (hSc : 0 ≤ Sc 1 ∧ Sc 1 ≤ 400 → N = Sc 1) : q9ruOK (fO T N P J t0 Sc) q9R_fwk1 := by
  intro w w0 hA hX hL hV hR
  obtain ⟨x0, ae0, -, -⟩ := hA 0 0 rfl
  obtain ⟨x1, ae1, -, -⟩ := hA 1 0 rfl
  have kz : (0 : Int32).toInt = 0 := rfl
  have k2 : (Int32.ofInt 2).toInt = 2 := q9oI_toInt (by decide)
  have k380 : (Int32.ofInt 380).toInt = 380 := q9oI_toInt (by decide)
  have X0 := q9th_pX (T := T) (N := N) (P := P) (J := J) (t0 := t0) (Sc := Sc) (op := 1064) (q9evZ w0) (q9evZ w0) (q9evS ae0) (hX _ (List.mem_of_getElem? (i := 0) rfl)) (by decide)
  rw [q9FF_1064] at X0
  have H0 := Option.some.inj X0
  try simp only [kz, k2, k380] at H0
  have X1 := q9th_pX (T := T) (N := N) (P := P) (J := J) (t0 := t0) (Sc := Sc) (op := 1063) (q9evC w0 2) (q9evZ w0) (q9evS ae1) (hX _ (List.mem_of_getElem? (i := 1) rfl)) (by decide)
  rw [q9FF_1063] at X1
  have H1 := Option.some.inj X1
  try simp only [kz, k2, k380] at H1
  have L0 : (0 : Int32).toInt ≤ x0.toInt + 0 := q9pC (q9evZ w0) (q9evS ae0) (hL _ (List.mem_of_getElem? (i := 0) rfl))
  have L1 : x0.toInt ≤ (Int32.ofInt 380).toInt + 0 := q9pC (q9evS ae0) (q9evC w0 380) (hL _ (List.mem_of_getElem? (i := 1) rfl))
  have ht : t0 = x0.toInt := H0
  have hs : Sc 2 = x1.toInt := H1
  have a9 := q9ad32 (x := x0) (d := 4) (by omega)
  have u_ : q9upN w 3 [] 0 = .int 0 := q9upN_of (by decide) w0
  have u0 : q9upN w 3 [] 1 = .int x0 := q9upN_of (by decide) ae0
  have u1 : q9upN w 3 [] 2 = .int x1 := q9upN_of (by decide) ae1
  refine ⟨[], fun i9 p9 hq9 => ?_, List.forall_mem_cons.mpr ⟨?_, fun _ h => absurd h List.not_mem_nil⟩, fun _ h => absurd h List.not_mem_nil⟩
  · exact nomatch (show (none : Option (Nat × q9AV × q9AV × q9ET)) = some p9 from hq9)
  · exact q9th_tX (T := T) (N := N) (P := P) (J := J) (t0 := t0) (Sc := Sc) (q9evO u0 4) (q9evZ u_) (q9evS u1) (by rw [q9FF_1059]; exact (by rw [a9, if_pos (by omega), show (x0.toInt + 4 - t0) / 4 + 1 = 2 by omega, hs])) (by decide)
theorem q9ru_fwk2 (hT : ∀ i, 0 ≤ T i ∧ T i ≤ 255) (hN : 0 ≤ N ∧ N ≤ 400) (hSc : 0 ≤ Sc 1 ∧ Sc 1 ≤ 400 → N = Sc 1) : q9ruOK (fO T N P J t0 Sc) q9R_fwk2 := by
  intro w w0 hA hX hL hV hR
  obtain ⟨x0, ae0, -, -⟩ := hA 0 0 rfl
  obtain ⟨x1, ae1, -, -⟩ := hA 1 0 rfl
  have kz : (0 : Int32).toInt = 0 := rfl
  have k3 : (Int32.ofInt 3).toInt = 3 := q9oI_toInt (by decide)
  have k380 : (Int32.ofInt 380).toInt = 380 := q9oI_toInt (by decide)
  have X0 := q9th_pX (T := T) (N := N) (P := P) (J := J) (t0 := t0) (Sc := Sc) (op := 1064) (q9evZ w0) (q9evZ w0) (q9evS ae0) (hX _ (List.mem_of_getElem? (i := 0) rfl)) (by decide)
  rw [q9FF_1064] at X0
  have H0 := Option.some.inj X0
  try simp only [kz, k3, k380] at H0
  have X1 := q9th_pX (T := T) (N := N) (P := P) (J := J) (t0 := t0) (Sc := Sc) (op := 1063) (q9evC w0 3) (q9evZ w0) (q9evS ae1) (hX _ (List.mem_of_getElem? (i := 1) rfl)) (by decide)
  rw [q9FF_1063] at X1
  have H1 := Option.some.inj X1
  try simp only [kz, k3, k380] at H1
  have L0 : (0 : Int32).toInt ≤ x0.toInt + 0 := q9pC (q9evZ w0) (q9evS ae0) (hL _ (List.mem_of_getElem? (i := 0) rfl))
  have L1 : x0.toInt ≤ (Int32.ofInt 380).toInt + 0 := q9pC (q9evS ae0) (q9evC w0 380) (hL _ (List.mem_of_getElem? (i := 1) rfl))
  have ht : t0 = x0.toInt := H0
  have hs : Sc 3 = x1.toInt := H1
  have a9 := q9ad32 (x := x0) (d := 8) (by omega)
  have u_ : q9upN w 3 [] 0 = .int 0 := q9upN_of (by decide) w0
  have u0 : q9upN w 3 [] 1 = .int x0 := q9upN_of (by decide) ae0
  have u1 : q9upN w 3 [] 2 = .int x1 := q9upN_of (by decide) ae1
  refine ⟨[], fun i9 p9 hq9 => ?_, List.forall_mem_cons.mpr ⟨?_, fun _ h => absurd h List.not_mem_nil⟩, fun _ h => absurd h List.not_mem_nil⟩
  · exact nomatch (show (none : Option (Nat × q9AV × q9AV × q9ET)) = some p9 from hq9)
  · exact q9th_tX (T := T) (N := N) (P := P) (J := J) (t0 := t0) (Sc := Sc) (q9evO u0 8) (q9evZ u_) (q9evS u1) (by rw [q9FF_1059]; exact (by rw [a9, if_pos (by omega), show (x0.toInt + 8 - t0) / 4 + 1 = 3 by omega, hs])) (by decide)
theorem q9ru_fwk3 (hT : ∀ i, 0 ≤ T i ∧ T i ≤ 255) (hN : 0 ≤ N ∧ N ≤ 400) (hSc : 0 ≤ Sc 1 ∧ Sc 1 ≤ 400 → N = Sc 1) : q9ruOK (fO T N P J t0 Sc) q9R_fwk3 := by
  intro w w0 hA hX hL hV hR
  obtain ⟨x0, ae0, -, -⟩ := hA 0 0 rfl
  obtain ⟨x1, ae1, -, -⟩ := hA 1 0 rfl
  have kz : (0 : Int32).toInt = 0 := rfl
  have k4 : (Int32.ofInt 4).toInt = 4 := q9oI_toInt (by decide)
  have k380 : (Int32.ofInt 380).toInt = 380 := q9oI_toInt (by decide)
  have X0 := q9th_pX (T := T) (N := N) (P := P) (J := J) (t0 := t0) (Sc := Sc) (op := 1064) (q9evZ w0) (q9evZ w0) (q9evS ae0) (hX _ (List.mem_of_getElem? (i := 0) rfl)) (by decide)
  rw [q9FF_1064] at X0
  have H0 := Option.some.inj X0
  try simp only [kz, k4, k380] at H0
  have X1 := q9th_pX (T := T) (N := N) (P := P) (J := J) (t0 := t0) (Sc := Sc) (op := 1063) (q9evC w0 4) (q9evZ w0) (q9evS ae1) (hX _ (List.mem_of_getElem? (i := 1) rfl)) (by decide)
  rw [q9FF_1063] at X1
  have H1 := Option.some.inj X1
  try simp only [kz, k4, k380] at H1
  have L0 : (0 : Int32).toInt ≤ x0.toInt + 0 := q9pC (q9evZ w0) (q9evS ae0) (hL _ (List.mem_of_getElem? (i := 0) rfl))
  have L1 : x0.toInt ≤ (Int32.ofInt 380).toInt + 0 := q9pC (q9evS ae0) (q9evC w0 380) (hL _ (List.mem_of_getElem? (i := 1) rfl))
  have ht : t0 = x0.toInt := H0
  have hs : Sc 4 = x1.toInt := H1
  have a9 := q9ad32 (x := x0) (d := 12) (by omega)
  have u_ : q9upN w 3 [] 0 = .int 0 := q9upN_of (by decide) w0
  have u0 : q9upN w 3 [] 1 = .int x0 := q9upN_of (by decide) ae0
  have u1 : q9upN w 3 [] 2 = .int x1 := q9upN_of (by decide) ae1
  refine ⟨[], fun i9 p9 hq9 => ?_, List.forall_mem_cons.mpr ⟨?_, fun _ h => absurd h List.not_mem_nil⟩, fun _ h => absurd h List.not_mem_nil⟩
  · exact nomatch (show (none : Option (Nat × q9AV × q9AV × q9ET)) = some p9 from hq9)
  · exact q9th_tX (T := T) (N := N) (P := P) (J := J) (t0 := t0) (Sc := Sc) (q9evO u0 12) (q9evZ u_) (q9evS u1) (by rw [q9FF_1059]; exact (by rw [a9, if_pos (by omega), show (x0.toInt + 12 - t0) / 4 + 1 = 4 by omega, hs])) (by decide)
theorem q9ru_fwk4 (hT : ∀ i, 0 ≤ T i ∧ T i ≤ 255) (hN : 0 ≤ N ∧ N ≤ 400) (hSc : 0 ≤ Sc 1 ∧ Sc 1 ≤ 400 → N = Sc 1) : q9ruOK (fO T N P J t0 Sc) q9R_fwk4 := by
  intro w w0 hA hX hL hV hR
  obtain ⟨x0, ae0, -, -⟩ := hA 0 0 rfl
  obtain ⟨x1, ae1, -, -⟩ := hA 1 0 rfl
  have kz : (0 : Int32).toInt = 0 := rfl
  have k5 : (Int32.ofInt 5).toInt = 5 := q9oI_toInt (by decide)
  have k380 : (Int32.ofInt 380).toInt = 380 := q9oI_toInt (by decide)
  have X0 := q9th_pX (T := T) (N := N) (P := P) (J := J) (t0 := t0) (Sc := Sc) (op := 1064) (q9evZ w0) (q9evZ w0) (q9evS ae0) (hX _ (List.mem_of_getElem? (i := 0) rfl)) (by decide)
  rw [q9FF_1064] at X0
  have H0 := Option.some.inj X0
  try simp only [kz, k5, k380] at H0
  have X1 := q9th_pX (T := T) (N := N) (P := P) (J := J) (t0 := t0) (Sc := Sc) (op := 1063) (q9evC w0 5) (q9evZ w0) (q9evS ae1) (hX _ (List.mem_of_getElem? (i := 1) rfl)) (by decide)
  rw [q9FF_1063] at X1
  have H1 := Option.some.inj X1
  try simp only [kz, k5, k380] at H1
  have L0 : (0 : Int32).toInt ≤ x0.toInt + 0 := q9pC (q9evZ w0) (q9evS ae0) (hL _ (List.mem_of_getElem? (i := 0) rfl))
  have L1 : x0.toInt ≤ (Int32.ofInt 380).toInt + 0 := q9pC (q9evS ae0) (q9evC w0 380) (hL _ (List.mem_of_getElem? (i := 1) rfl))
  have ht : t0 = x0.toInt := H0
  have hs : Sc 5 = x1.toInt := H1
  have a9 := q9ad32 (x := x0) (d := 16) (by omega)
  have u_ : q9upN w 3 [] 0 = .int 0 := q9upN_of (by decide) w0
  have u0 : q9upN w 3 [] 1 = .int x0 := q9upN_of (by decide) ae0
  have u1 : q9upN w 3 [] 2 = .int x1 := q9upN_of (by decide) ae1
  refine ⟨[], fun i9 p9 hq9 => ?_, List.forall_mem_cons.mpr ⟨?_, fun _ h => absurd h List.not_mem_nil⟩, fun _ h => absurd h List.not_mem_nil⟩
  · exact nomatch (show (none : Option (Nat × q9AV × q9AV × q9ET)) = some p9 from hq9)
  · exact q9th_tX (T := T) (N := N) (P := P) (J := J) (t0 := t0) (Sc := Sc) (q9evO u0 16) (q9evZ u_) (q9evS u1) (by rw [q9FF_1059]; exact (by rw [a9, if_pos (by omega), show (x0.toInt + 16 - t0) / 4 + 1 = 5 by omega, hs])) (by decide)
theorem q9ru_onn (hT : ∀ i, 0 ≤ T i ∧ T i ≤ 255) (hN : 0 ≤ N ∧ N ≤ 400) (hSc : 0 ≤ Sc 1 ∧ Sc 1 ≤ 400 → N = Sc 1) : q9ruOK (fO T N P J t0 Sc) q9R_onn := by
  intro w w0 hA hX hL hV hR
  obtain ⟨x0, ae0, -, -⟩ := hA 0 0 rfl
  have kz : (0 : Int32).toInt = 0 := rfl
  have k1 : (Int32.ofInt 1).toInt = 1 := q9oI_toInt (by decide)
  have k400 : (Int32.ofInt 400).toInt = 400 := q9oI_toInt (by decide)
  have X0 := q9th_pX (T := T) (N := N) (P := P) (J := J) (t0 := t0) (Sc := Sc) (op := 1063) (q9evC w0 1) (q9evZ w0) (q9evS ae0) (hX _ (List.mem_of_getElem? (i := 0) rfl)) (by decide)
  rw [q9FF_1063] at X0
  have H0 := Option.some.inj X0
  try simp only [kz, k1, k400] at H0
  have L0 : (0 : Int32).toInt ≤ x0.toInt + 0 := q9pC (q9evZ w0) (q9evS ae0) (hL _ (List.mem_of_getElem? (i := 0) rfl))
  have L1 : x0.toInt ≤ (Int32.ofInt 400).toInt + 0 := q9pC (q9evS ae0) (q9evC w0 400) (hL _ (List.mem_of_getElem? (i := 1) rfl))
  have hs : Sc 1 = x0.toInt := H0
  have := hSc (by omega)
  have u_ : q9upN w 2 [] 0 = .int 0 := q9upN_of (by decide) w0
  have u0 : q9upN w 2 [] 1 = .int x0 := q9upN_of (by decide) ae0
  refine ⟨[], fun i9 p9 hq9 => ?_, List.forall_mem_cons.mpr ⟨?_, fun _ h => absurd h List.not_mem_nil⟩, fun _ h => absurd h List.not_mem_nil⟩
  · exact nomatch (show (none : Option (Nat × q9AV × q9AV × q9ET)) = some p9 from hq9)
  · exact q9th_tX (T := T) (N := N) (P := P) (J := J) (t0 := t0) (Sc := Sc) (q9evZ u_) (q9evZ u_) (q9evS u0) (by rw [q9FF_1018]; exact (by rw [this, hs])) (by decide)
theorem q9ru_eFIN (hT : ∀ i, 0 ≤ T i ∧ T i ≤ 255) (hN : 0 ≤ N ∧ N ≤ 400) (hSc : 0 ≤ Sc 1 ∧ Sc 1 ≤ 400 → N = Sc 1) : q9ruOK (fO T N P J t0 Sc) q9R_eFIN := by
  intro w w0 hA hX hL hV hR
  have kz : (0 : Int32).toInt = 0 := rfl
  have hr := q9fin_rng (T := T) (P := P) (J := J) hN
  have rg0 : (0 : Int) ≤ (finI T N P J).1 ∧ ((finI T N P J).1 : Int) ≤ 9 := ⟨hr.1, hr.2.1⟩
  obtain ⟨x0, nt0⟩ : ∃ x : Int32, x.toInt = (finI T N P J).1 := ⟨Int32.ofInt ((finI T N P J).1), q9oI_toInt (by omega)⟩
  have rg1 : (0 : Int) ≤ (finI T N P J).2.1 ∧ ((finI T N P J).2.1 : Int) ≤ 400 := ⟨hr.2.2.1, hr.2.2.2.1⟩
  obtain ⟨x1, nt1⟩ : ∃ x : Int32, x.toInt = (finI T N P J).2.1 := ⟨Int32.ofInt ((finI T N P J).2.1), q9oI_toInt (by omega)⟩
  have rg2 : (0 : Int) ≤ (finI T N P J).2.2 ∧ ((finI T N P J).2.2 : Int) ≤ 400 := ⟨hr.2.2.2.2.1, hr.2.2.2.2.2⟩
  obtain ⟨x2, nt2⟩ : ∃ x : Int32, x.toInt = (finI T N P J).2.2 := ⟨Int32.ofInt ((finI T N P J).2.2), q9oI_toInt (by omega)⟩
  have u_ : q9upN w 1 [.int x0, .int x1, .int x2] 0 = .int 0 := q9upN_of (by decide) w0
  have u0 : q9upN w 1 [.int x0, .int x1, .int x2] 1 = .int x0 := q9upN_at (by decide)
  have u1 : q9upN w 1 [.int x0, .int x1, .int x2] 2 = .int x1 := q9upN_at (by decide)
  have u2 : q9upN w 1 [.int x0, .int x1, .int x2] 3 = .int x2 := q9upN_at (by decide)
  refine ⟨[.int x0, .int x1, .int x2], fun i9 p9 hq9 => ?_, fun _ h => absurd h List.not_mem_nil, fun _ h => absurd h List.not_mem_nil⟩
  · match i9, hq9 with
    | 0, hq9 =>
      have hp9 : ((1045, (0, 0), (0, 0), (0, 0, 9)) : Nat × q9AV × q9AV × q9ET) = p9 := Option.some.inj hq9
      subst hp9
      exact ⟨⟨x0, rfl, by rw [nt0]; exact rg0.1, by rw [nt0]; exact rg0.2⟩, (q9th_tX (T := T) (N := N) (P := P) (J := J) (t0 := t0) (Sc := Sc) (q9evZ u_) (q9evZ u_) (q9evS u0) (by rw [q9FF_1045, nt0]; first | done | exact rfl) (by decide)).trans (congrArg some (q9evS u0))⟩
    | 1, hq9 =>
      have hp9 : ((1046, (0, 0), (0, 0), (0, 0, 400)) : Nat × q9AV × q9AV × q9ET) = p9 := Option.some.inj hq9
      subst hp9
      exact ⟨⟨x1, rfl, by rw [nt1]; exact rg1.1, by rw [nt1]; exact rg1.2⟩, (q9th_tX (T := T) (N := N) (P := P) (J := J) (t0 := t0) (Sc := Sc) (q9evZ u_) (q9evZ u_) (q9evS u1) (by rw [q9FF_1046, nt1]; first | done | exact rfl) (by decide)).trans (congrArg some (q9evS u1))⟩
    | 2, hq9 =>
      have hp9 : ((1047, (0, 0), (0, 0), (0, 0, 400)) : Nat × q9AV × q9AV × q9ET) = p9 := Option.some.inj hq9
      subst hp9
      exact ⟨⟨x2, rfl, by rw [nt2]; exact rg2.1, by rw [nt2]; exact rg2.2⟩, (q9th_tX (T := T) (N := N) (P := P) (J := J) (t0 := t0) (Sc := Sc) (q9evZ u_) (q9evZ u_) (q9evS u2) (by rw [q9FF_1047, nt2]; first | done | exact rfl) (by decide)).trans (congrArg some (q9evS u2))⟩
    | k9 + 3, hq9 => exact nomatch (show (none : Option (Nat × q9AV × q9AV × q9ET)) = some p9 from hq9)
theorem q9ruP_13 (hT : ∀ i, 0 ≤ T i ∧ T i ≤ 255) (hN : 0 ≤ N ∧ N ≤ 400) (hSc : 0 ≤ Sc 1 ∧ Sc 1 ≤ 400 → N = Sc 1) : ∀ q ∈ q9RULES_13, q9ruOK (fO T N P J t0 Sc) q := List.forall_mem_cons.mpr ⟨q9ru_ffr hT hN hSc, List.forall_mem_cons.mpr ⟨q9ru_ffi hT hN hSc, List.forall_mem_cons.mpr ⟨q9ru_agw hT hN hSc, List.forall_mem_cons.mpr ⟨q9ru_agx hT hN hSc, List.forall_mem_cons.mpr ⟨q9ru_ag0 hT hN hSc, List.forall_mem_cons.mpr ⟨q9ru_agl hT hN hSc, List.forall_mem_cons.mpr ⟨q9ru_agn hT hN hSc, List.forall_mem_cons.mpr ⟨q9ru_orC hT hN hSc, List.forall_mem_cons.mpr ⟨q9ru_orR hT hN hSc, List.forall_mem_cons.mpr ⟨q9ru_or0 hT hN hSc, List.forall_mem_cons.mpr ⟨q9ru_lb1 hT hN hSc, List.forall_mem_cons.mpr ⟨q9ru_lb2 hT hN hSc, List.forall_mem_cons.mpr ⟨q9ru_lb3 hT hN hSc, List.forall_mem_cons.mpr ⟨q9ru_lb4 hT hN hSc, List.forall_mem_cons.mpr ⟨q9ru_lb5 hT hN hSc, List.forall_mem_cons.mpr ⟨q9ru_lbz0 hT hN hSc, List.forall_mem_cons.mpr ⟨q9ru_lbz6 hT hN hSc, List.forall_mem_cons.mpr ⟨q9ru_lbz7 hT hN hSc, List.forall_mem_cons.mpr ⟨q9ru_lsz0 hT hN hSc, List.forall_mem_cons.mpr ⟨q9ru_lsz1 hT hN hSc, List.forall_mem_cons.mpr ⟨q9ru_lsz3 hT hN hSc, List.forall_mem_cons.mpr ⟨q9ru_lsz4 hT hN hSc, List.forall_mem_cons.mpr ⟨q9ru_lsz5 hT hN hSc, List.forall_mem_cons.mpr ⟨q9ru_lsz6 hT hN hSc, List.forall_mem_cons.mpr ⟨q9ru_lsz7 hT hN hSc, List.forall_mem_cons.mpr ⟨q9ru_clz0 hT hN hSc, List.forall_mem_cons.mpr ⟨q9ru_slz0 hT hN hSc, List.forall_mem_cons.mpr ⟨q9ru_clb0 hT hN hSc, List.forall_mem_cons.mpr ⟨q9ru_clb hT hN hSc, List.forall_mem_cons.mpr ⟨q9ru_fcb hT hN hSc, List.forall_mem_cons.mpr ⟨q9ru_slb0 hT hN hSc, List.forall_mem_cons.mpr ⟨q9ru_slb hT hN hSc, List.forall_mem_cons.mpr ⟨q9ru_fsb hT hN hSc, List.forall_mem_cons.mpr ⟨q9ru_fwk0 hT hN hSc, List.forall_mem_cons.mpr ⟨q9ru_fwk1 hT hN hSc, List.forall_mem_cons.mpr ⟨q9ru_fwk2 hT hN hSc, List.forall_mem_cons.mpr ⟨q9ru_fwk3 hT hN hSc, List.forall_mem_cons.mpr ⟨q9ru_fwk4 hT hN hSc, List.forall_mem_cons.mpr ⟨q9ru_onn hT hN hSc, List.forall_mem_cons.mpr ⟨q9ru_eFIN hT hN hSc, fun _ h => absurd h List.not_mem_nil⟩⟩⟩⟩⟩⟩⟩⟩⟩⟩⟩⟩⟩⟩⟩⟩⟩⟩⟩⟩⟩⟩⟩⟩⟩⟩⟩⟩⟩⟩⟩⟩⟩⟩⟩⟩⟩⟩⟩⟩
end RUL
