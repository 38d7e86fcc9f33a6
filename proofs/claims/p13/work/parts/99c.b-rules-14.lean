section RUL
variable {T : Int → Int} {N P : Int} {J : Int → Int} {t0 : Int} {Sc : Int → Int}
theorem q9ru_da0 (hT : ∀ i, 0 ≤ T i ∧ T i ≤ 255) (hN : 0 ≤ N ∧ N ≤ 400) (hSc : 0 ≤ Sc 1 ∧ Sc 1 ≤ 400 → N = Sc 1) : q9ruOK (fO T N P J t0 Sc) q9R_da0 := by
  intro w w0 hA hX hL hV hR
  obtain ⟨x0, ae0, -, -⟩ := hA 0 0 rfl
  obtain ⟨x1, ae1, -, -⟩ := hA 1 0 rfl
  obtain ⟨x2, ae2, -, -⟩ := hA 2 0 rfl
  obtain ⟨x3, ae3, -, -⟩ := hA 3 0 rfl
  obtain ⟨x4, ae4, -, -⟩ := hA 4 0 rfl
  obtain ⟨x5, ae5, -, -⟩ := hA 5 0 rfl
  have kz : (0 : Int32).toInt = 0 := rfl
  have k4 : (Int32.ofInt 4).toInt = 4 := q9oI_toInt (by decide)
  have k59 : (Int32.ofInt 59).toInt = 59 := q9oI_toInt (by decide)
  have k60 : (Int32.ofInt 60).toInt = 60 := q9oI_toInt (by decide)
  have V0 := q9pV (T := T) (N := N) (P := P) (J := J) (t0 := t0) (Sc := Sc) (op := 1027) (n := 1) (q9evS ae0) (q9evZ w0) (hV _ (List.mem_of_getElem? (i := 0) rfl)) (by decide)
  rw [q9FF_1027] at V0
  have K0 := q9chV_of V0
  try simp only [kz, k4, k59, k60] at K0
  have X0 := q9th_pX (T := T) (N := N) (P := P) (J := J) (t0 := t0) (Sc := Sc) (op := 1021) (q9evS ae0) (q9evZ w0) (q9evS ae4) (hX _ (List.mem_of_getElem? (i := 0) rfl)) (by decide)
  rw [q9FF_1021] at X0
  have H0 := q9chV_of X0
  try simp only [kz, k4, k59, k60] at H0
  have X1 := q9th_pX (T := T) (N := N) (P := P) (J := J) (t0 := t0) (Sc := Sc) (op := 1022) (q9evS ae0) (q9evZ w0) (q9evS ae3) (hX _ (List.mem_of_getElem? (i := 1) rfl)) (by decide)
  rw [q9FF_1022] at X1
  have H1 := q9chV_of X1
  try simp only [kz, k4, k59, k60] at H1
  have L0 : (0 : Int32).toInt ≤ x0.toInt + 0 := q9pC (q9evZ w0) (q9evS ae0) (hL _ (List.mem_of_getElem? (i := 0) rfl))
  have L1 : (0 : Int32).toInt ≤ x3.toInt + 0 := q9pC (q9evZ w0) (q9evS ae3) (hL _ (List.mem_of_getElem? (i := 1) rfl))
  have L2 : x3.toInt ≤ (Int32.ofInt 60).toInt + 0 := q9pC (q9evS ae3) (q9evC w0 60) (hL _ (List.mem_of_getElem? (i := 2) rfl))
  have L3 : (0 : Int32).toInt ≤ x4.toInt + 0 := q9pC (q9evZ w0) (q9evS ae4) (hL _ (List.mem_of_getElem? (i := 3) rfl))
  have L4 : x4.toInt ≤ (Int32.ofInt 4).toInt + 0 := q9pC (q9evS ae4) (q9evC w0 4) (hL _ (List.mem_of_getElem? (i := 4) rfl))
  have X2 := q9th_pX (T := T) (N := N) (P := P) (J := J) (t0 := t0) (Sc := Sc) (op := 1002) (q9evS ae0) (q9evZ w0) (q9evS ae1) (hX _ (List.mem_of_getElem? (i := 2) rfl)) (by decide)
  rw [q9FF_1002] at X2
  have H2 := Option.some.inj X2
  try simp only [kz, k4, k59, k60] at H2
  have V1 := q9pV (T := T) (N := N) (P := P) (J := J) (t0 := t0) (Sc := Sc) (op := 1013) (n := 0) (q9evS ae1) (q9evZ w0) (hV _ (List.mem_of_getElem? (i := 1) rfl)) (by decide)
  rw [q9FF_1013] at V1
  have K1 := Option.some.inj V1
  try simp only [kz, k4, k59, k60] at K1
  have X3 := q9th_pX (T := T) (N := N) (P := P) (J := J) (t0 := t0) (Sc := Sc) (op := 1003) (q9evS ae1) (q9evZ w0) (q9evS ae2) (hX _ (List.mem_of_getElem? (i := 3) rfl)) (by decide)
  rw [q9FF_1003] at X3
  have H3 := Option.some.inj X3
  try simp only [kz, k4, k59, k60] at H3
  have V2 := q9pV (T := T) (N := N) (P := P) (J := J) (t0 := t0) (Sc := Sc) (op := 1200) (n := 0) (q9evS ae2) (q9evZ w0) (hV _ (List.mem_of_getElem? (i := 2) rfl)) (by decide)
  rw [q9FF_1200] at V2
  have K2 := Option.some.inj V2
  try simp only [kz, k4, k59, k60] at K2
  have L5 : x3.toInt ≤ (Int32.ofInt 59).toInt + 0 := q9pC (q9evS ae3) (q9evC w0 59) (hL _ (List.mem_of_getElem? (i := 5) rfl))
  have X4 := q9th_pX (T := T) (N := N) (P := P) (J := J) (t0 := t0) (Sc := Sc) (op := 1300) (q9evS ae2) (q9evZ w0) (q9evS ae5) (hX _ (List.mem_of_getElem? (i := 4) rfl)) (by decide)
  rw [q9FF_1300] at X4
  have H4 := Option.some.inj X4
  try simp only [kz, k4, k59, k60] at H4
  obtain ⟨c, hv, hc, h8, h9, -⟩ := K0
  have hd : x4.toInt + 1 = c.2.2.length := q9th_at_of hv hc H0
  have hz : x3.toInt = c.2.1 := q9th_at_of hv hc H1
  have hb : q9spI T N c.1 = x1.toInt := by rw [hc]; exact H2
  obtain ⟨q, st, hst⟩ : ∃ q st, c.2.2 = q :: st := by
    cases hh : c.2.2 with
    | nil => exfalso; rw [hh, List.length_nil] at hd; omega
    | cons q st => exact ⟨q, st, rfl⟩
  have hl2 : c.2.2.length = st.length + 1 := by rw [hst, List.length_cons]
  have hk : q9kbI T N (q9spI T N c.1) = 0 := by rw [hb]; exact K1
  have hl : q9lkI T N c = 0 := by rw [q9lk_of h8 (by omega), hk]
  have he : q9weI T N x1.toInt = x2.toInt := H3
  have hr1 : (q9rcI T N P J c).1 = 0 := by unfold q9rcI q9rsI; rw [hl, hb, he]; exact K2
  have hok : q9okL T N P J c := ⟨by omega, by omega, by omega, fun h => by omega, hr1⟩
  have ham : x5.toInt = q9amI T N P J (q9lkI T N c) (q9weI T N (q9spI T N c.1)) := by rw [hl, hb, he]; exact (H4).symm
  have u_ : q9upN w 7 [] 0 = .int 0 := q9upN_of (by decide) w0
  have u0 : q9upN w 7 [] 1 = .int x0 := q9upN_of (by decide) ae0
  have u1 : q9upN w 7 [] 2 = .int x1 := q9upN_of (by decide) ae1
  have u2 : q9upN w 7 [] 3 = .int x2 := q9upN_of (by decide) ae2
  have u3 : q9upN w 7 [] 4 = .int x3 := q9upN_of (by decide) ae3
  have u4 : q9upN w 7 [] 5 = .int x4 := q9upN_of (by decide) ae4
  have u5 : q9upN w 7 [] 6 = .int x5 := q9upN_of (by decide) ae5
  refine ⟨[], fun i9 p9 hq9 => ?_, List.forall_mem_cons.mpr ⟨?_, fun _ h => absurd h List.not_mem_nil⟩, fun _ h => absurd h List.not_mem_nil⟩
  · exact nomatch (show (none : Option (Nat × q9AV × q9AV × q9ET)) = some p9 from hq9)
  · exact q9th_tX (T := T) (N := N) (P := P) (J := J) (t0 := t0) (Sc := Sc) (q9evS u3) (q9evZ u_) (q9evS u5) (by rw [q9FF_1051]; exact (by rw [← q9FF_1051 (t0 := t0) (Sc := Sc) (b := (0 : Int32).toInt)]; exact q9F_mn hv hok hz.symm ham)) (by decide)
theorem q9ru_da1 (hT : ∀ i, 0 ≤ T i ∧ T i ≤ 255) (hN : 0 ≤ N ∧ N ≤ 400) (hSc : 0 ≤ Sc 1 ∧ Sc 1 ≤ 400 → N = Sc 1) : q9ruOK (fO T N P J t0 Sc) q9R_da1 := by
  intro w w0 hA hX hL hV hR
  obtain ⟨x0, ae0, -, -⟩ := hA 0 0 rfl
  obtain ⟨x1, ae1, -, -⟩ := hA 1 0 rfl
  obtain ⟨x2, ae2, -, -⟩ := hA 2 0 rfl
  obtain ⟨x3, ae3, -, -⟩ := hA 3 0 rfl
  obtain ⟨x4, ae4, -, -⟩ := hA 4 0 rfl
  obtain ⟨x5, ae5, -, -⟩ := hA 5 0 rfl
  have kz : (0 : Int32).toInt = 0 := rfl
  have k4 : (Int32.ofInt 4).toInt = 4 := q9oI_toInt (by decide)
  have k59 : (Int32.ofInt 59).toInt = 59 := q9oI_toInt (by decide)
  have k60 : (Int32.ofInt 60).toInt = 60 := q9oI_toInt (by decide)
  have V0 := q9pV (T := T) (N := N) (P := P) (J := J) (t0 := t0) (Sc := Sc) (op := 1027) (n := 1) (q9evS ae0) (q9evZ w0) (hV _ (List.mem_of_getElem? (i := 0) rfl)) (by decide)
  rw [q9FF_1027] at V0
  have K0 := q9chV_of V0
  try simp only [kz, k4, k59, k60] at K0
  have X0 := q9th_pX (T := T) (N := N) (P := P) (J := J) (t0 := t0) (Sc := Sc) (op := 1021) (q9evS ae0) (q9evZ w0) (q9evS ae4) (hX _ (List.mem_of_getElem? (i := 0) rfl)) (by decide)
  rw [q9FF_1021] at X0
  have H0 := q9chV_of X0
  try simp only [kz, k4, k59, k60] at H0
  have X1 := q9th_pX (T := T) (N := N) (P := P) (J := J) (t0 := t0) (Sc := Sc) (op := 1022) (q9evS ae0) (q9evZ w0) (q9evS ae3) (hX _ (List.mem_of_getElem? (i := 1) rfl)) (by decide)
  rw [q9FF_1022] at X1
  have H1 := q9chV_of X1
  try simp only [kz, k4, k59, k60] at H1
  have L0 : (0 : Int32).toInt ≤ x0.toInt + 0 := q9pC (q9evZ w0) (q9evS ae0) (hL _ (List.mem_of_getElem? (i := 0) rfl))
  have L1 : (0 : Int32).toInt ≤ x3.toInt + 0 := q9pC (q9evZ w0) (q9evS ae3) (hL _ (List.mem_of_getElem? (i := 1) rfl))
  have L2 : x3.toInt ≤ (Int32.ofInt 60).toInt + 0 := q9pC (q9evS ae3) (q9evC w0 60) (hL _ (List.mem_of_getElem? (i := 2) rfl))
  have L3 : (0 : Int32).toInt ≤ x4.toInt + 0 := q9pC (q9evZ w0) (q9evS ae4) (hL _ (List.mem_of_getElem? (i := 3) rfl))
  have L4 : x4.toInt ≤ (Int32.ofInt 4).toInt + 0 := q9pC (q9evS ae4) (q9evC w0 4) (hL _ (List.mem_of_getElem? (i := 4) rfl))
  have X2 := q9th_pX (T := T) (N := N) (P := P) (J := J) (t0 := t0) (Sc := Sc) (op := 1002) (q9evS ae0) (q9evZ w0) (q9evS ae1) (hX _ (List.mem_of_getElem? (i := 2) rfl)) (by decide)
  rw [q9FF_1002] at X2
  have H2 := Option.some.inj X2
  try simp only [kz, k4, k59, k60] at H2
  have V1 := q9pV (T := T) (N := N) (P := P) (J := J) (t0 := t0) (Sc := Sc) (op := 1013) (n := 1) (q9evS ae1) (q9evZ w0) (hV _ (List.mem_of_getElem? (i := 1) rfl)) (by decide)
  rw [q9FF_1013] at V1
  have K1 := Option.some.inj V1
  try simp only [kz, k4, k59, k60] at K1
  have X3 := q9th_pX (T := T) (N := N) (P := P) (J := J) (t0 := t0) (Sc := Sc) (op := 1003) (q9evS ae1) (q9evZ w0) (q9evS ae2) (hX _ (List.mem_of_getElem? (i := 3) rfl)) (by decide)
  rw [q9FF_1003] at X3
  have H3 := Option.some.inj X3
  try simp only [kz, k4, k59, k60] at H3
  have V2 := q9pV (T := T) (N := N) (P := P) (J := J) (t0 := t0) (Sc := Sc) (op := 1266) (n := 0) (q9evS ae2) (q9evZ w0) (hV _ (List.mem_of_getElem? (i := 2) rfl)) (by decide)
  rw [q9FF_1266] at V2
  have K2 := Option.some.inj V2
  try simp only [kz, k4, k59, k60] at K2
  have L5 : x3.toInt ≤ (Int32.ofInt 59).toInt + 0 := q9pC (q9evS ae3) (q9evC w0 59) (hL _ (List.mem_of_getElem? (i := 5) rfl))
  have X4 := q9th_pX (T := T) (N := N) (P := P) (J := J) (t0 := t0) (Sc := Sc) (op := 1301) (q9evS ae2) (q9evZ w0) (q9evS ae5) (hX _ (List.mem_of_getElem? (i := 4) rfl)) (by decide)
  rw [q9FF_1301] at X4
  have H4 := Option.some.inj X4
  try simp only [kz, k4, k59, k60] at H4
  obtain ⟨c, hv, hc, h8, h9, -⟩ := K0
  have hd : x4.toInt + 1 = c.2.2.length := q9th_at_of hv hc H0
  have hz : x3.toInt = c.2.1 := q9th_at_of hv hc H1
  have hb : q9spI T N c.1 = x1.toInt := by rw [hc]; exact H2
  obtain ⟨q, st, hst⟩ : ∃ q st, c.2.2 = q :: st := by
    cases hh : c.2.2 with
    | nil => exfalso; rw [hh, List.length_nil] at hd; omega
    | cons q st => exact ⟨q, st, rfl⟩
  have hl2 : c.2.2.length = st.length + 1 := by rw [hst, List.length_cons]
  have hk : q9kbI T N (q9spI T N c.1) = 1 := by rw [hb]; exact K1
  have hl : q9lkI T N c = 1 := by rw [q9lk_of h8 (by omega), hk]
  have he : q9weI T N x1.toInt = x2.toInt := H3
  have hr1 : (q9rcI T N P J c).1 = 0 := by unfold q9rcI q9rsI; rw [hl, hb, he]; exact K2
  have hok : q9okL T N P J c := ⟨by omega, by omega, by omega, fun h => by omega, hr1⟩
  have ham : x5.toInt = q9amI T N P J (q9lkI T N c) (q9weI T N (q9spI T N c.1)) := by rw [hl, hb, he]; exact (H4).symm
  have u_ : q9upN w 7 [] 0 = .int 0 := q9upN_of (by decide) w0
  have u0 : q9upN w 7 [] 1 = .int x0 := q9upN_of (by decide) ae0
  have u1 : q9upN w 7 [] 2 = .int x1 := q9upN_of (by decide) ae1
  have u2 : q9upN w 7 [] 3 = .int x2 := q9upN_of (by decide) ae2
  have u3 : q9upN w 7 [] 4 = .int x3 := q9upN_of (by decide) ae3
  have u4 : q9upN w 7 [] 5 = .int x4 := q9upN_of (by decide) ae4
  have u5 : q9upN w 7 [] 6 = .int x5 := q9upN_of (by decide) ae5
  refine ⟨[], fun i9 p9 hq9 => ?_, List.forall_mem_cons.mpr ⟨?_, fun _ h => absurd h List.not_mem_nil⟩, fun _ h => absurd h List.not_mem_nil⟩
  · exact nomatch (show (none : Option (Nat × q9AV × q9AV × q9ET)) = some p9 from hq9)
  · exact q9th_tX (T := T) (N := N) (P := P) (J := J) (t0 := t0) (Sc := Sc) (q9evS u3) (q9evZ u_) (q9evS u5) (by rw [q9FF_1051]; exact (by rw [← q9FF_1051 (t0 := t0) (Sc := Sc) (b := (0 : Int32).toInt)]; exact q9F_mn hv hok hz.symm ham)) (by decide)
theorem q9ru_da6 (hT : ∀ i, 0 ≤ T i ∧ T i ≤ 255) (hN : 0 ≤ N ∧ N ≤ 400) (hSc : 0 ≤ Sc 1 ∧ Sc 1 ≤ 400 → N = Sc 1) : q9ruOK (fO T N P J t0 Sc) q9R_da6 := by
  intro w w0 hA hX hL hV hR
  obtain ⟨x0, ae0, -, -⟩ := hA 0 0 rfl
  obtain ⟨x1, ae1, -, -⟩ := hA 1 0 rfl
  obtain ⟨x2, ae2, -, -⟩ := hA 2 0 rfl
  obtain ⟨x3, ae3, -, -⟩ := hA 3 0 rfl
  obtain ⟨x4, ae4, -, -⟩ := hA 4 0 rfl
  obtain ⟨x5, ae5, -, -⟩ := hA 5 0 rfl
  have kz : (0 : Int32).toInt = 0 := rfl
  have k4 : (Int32.ofInt 4).toInt = 4 := q9oI_toInt (by decide)
  have k59 : (Int32.ofInt 59).toInt = 59 := q9oI_toInt (by decide)
  have k60 : (Int32.ofInt 60).toInt = 60 := q9oI_toInt (by decide)
  have V0 := q9pV (T := T) (N := N) (P := P) (J := J) (t0 := t0) (Sc := Sc) (op := 1027) (n := 1) (q9evS ae0) (q9evZ w0) (hV _ (List.mem_of_getElem? (i := 0) rfl)) (by decide)
  rw [q9FF_1027] at V0
  have K0 := q9chV_of V0
  try simp only [kz, k4, k59, k60] at K0
  have X0 := q9th_pX (T := T) (N := N) (P := P) (J := J) (t0 := t0) (Sc := Sc) (op := 1021) (q9evS ae0) (q9evZ w0) (q9evS ae4) (hX _ (List.mem_of_getElem? (i := 0) rfl)) (by decide)
  rw [q9FF_1021] at X0
  have H0 := q9chV_of X0
  try simp only [kz, k4, k59, k60] at H0
  have X1 := q9th_pX (T := T) (N := N) (P := P) (J := J) (t0 := t0) (Sc := Sc) (op := 1022) (q9evS ae0) (q9evZ w0) (q9evS ae3) (hX _ (List.mem_of_getElem? (i := 1) rfl)) (by decide)
  rw [q9FF_1022] at X1
  have H1 := q9chV_of X1
  try simp only [kz, k4, k59, k60] at H1
  have L0 : (0 : Int32).toInt ≤ x0.toInt + 0 := q9pC (q9evZ w0) (q9evS ae0) (hL _ (List.mem_of_getElem? (i := 0) rfl))
  have L1 : (0 : Int32).toInt ≤ x3.toInt + 0 := q9pC (q9evZ w0) (q9evS ae3) (hL _ (List.mem_of_getElem? (i := 1) rfl))
  have L2 : x3.toInt ≤ (Int32.ofInt 60).toInt + 0 := q9pC (q9evS ae3) (q9evC w0 60) (hL _ (List.mem_of_getElem? (i := 2) rfl))
  have L3 : (0 : Int32).toInt ≤ x4.toInt + 0 := q9pC (q9evZ w0) (q9evS ae4) (hL _ (List.mem_of_getElem? (i := 3) rfl))
  have L4 : x4.toInt ≤ (Int32.ofInt 4).toInt + 0 := q9pC (q9evS ae4) (q9evC w0 4) (hL _ (List.mem_of_getElem? (i := 4) rfl))
  have X2 := q9th_pX (T := T) (N := N) (P := P) (J := J) (t0 := t0) (Sc := Sc) (op := 1002) (q9evS ae0) (q9evZ w0) (q9evS ae1) (hX _ (List.mem_of_getElem? (i := 2) rfl)) (by decide)
  rw [q9FF_1002] at X2
  have H2 := Option.some.inj X2
  try simp only [kz, k4, k59, k60] at H2
  have V1 := q9pV (T := T) (N := N) (P := P) (J := J) (t0 := t0) (Sc := Sc) (op := 1013) (n := 6) (q9evS ae1) (q9evZ w0) (hV _ (List.mem_of_getElem? (i := 1) rfl)) (by decide)
  rw [q9FF_1013] at V1
  have K1 := Option.some.inj V1
  try simp only [kz, k4, k59, k60] at K1
  have X3 := q9th_pX (T := T) (N := N) (P := P) (J := J) (t0 := t0) (Sc := Sc) (op := 1003) (q9evS ae1) (q9evZ w0) (q9evS ae2) (hX _ (List.mem_of_getElem? (i := 3) rfl)) (by decide)
  rw [q9FF_1003] at X3
  have H3 := Option.some.inj X3
  try simp only [kz, k4, k59, k60] at H3
  have V2 := q9pV (T := T) (N := N) (P := P) (J := J) (t0 := t0) (Sc := Sc) (op := 1264) (n := 0) (q9evS ae2) (q9evZ w0) (hV _ (List.mem_of_getElem? (i := 2) rfl)) (by decide)
  rw [q9FF_1264] at V2
  have K2 := Option.some.inj V2
  try simp only [kz, k4, k59, k60] at K2
  have L5 : x3.toInt ≤ (Int32.ofInt 59).toInt + 0 := q9pC (q9evS ae3) (q9evC w0 59) (hL _ (List.mem_of_getElem? (i := 5) rfl))
  have X4 := q9th_pX (T := T) (N := N) (P := P) (J := J) (t0 := t0) (Sc := Sc) (op := 1306) (q9evS ae2) (q9evZ w0) (q9evS ae5) (hX _ (List.mem_of_getElem? (i := 4) rfl)) (by decide)
  rw [q9FF_1306] at X4
  have H4 := Option.some.inj X4
  try simp only [kz, k4, k59, k60] at H4
  obtain ⟨c, hv, hc, h8, h9, -⟩ := K0
  have hd : x4.toInt + 1 = c.2.2.length := q9th_at_of hv hc H0
  have hz : x3.toInt = c.2.1 := q9th_at_of hv hc H1
  have hb : q9spI T N c.1 = x1.toInt := by rw [hc]; exact H2
  obtain ⟨q, st, hst⟩ : ∃ q st, c.2.2 = q :: st := by
    cases hh : c.2.2 with
    | nil => exfalso; rw [hh, List.length_nil] at hd; omega
    | cons q st => exact ⟨q, st, rfl⟩
  have hl2 : c.2.2.length = st.length + 1 := by rw [hst, List.length_cons]
  have hk : q9kbI T N (q9spI T N c.1) = 6 := by rw [hb]; exact K1
  have hl : q9lkI T N c = 6 := by rw [q9lk_of h8 (by omega), hk]
  have he : q9weI T N x1.toInt = x2.toInt := H3
  have hr1 : (q9rcI T N P J c).1 = 0 := by unfold q9rcI q9rsI; rw [hl, hb, he]; exact K2
  have hok : q9okL T N P J c := ⟨by omega, by omega, by omega, fun h => by omega, hr1⟩
  have ham : x5.toInt = q9amI T N P J (q9lkI T N c) (q9weI T N (q9spI T N c.1)) := by rw [hl, hb, he]; exact (H4).symm
  have u_ : q9upN w 7 [] 0 = .int 0 := q9upN_of (by decide) w0
  have u0 : q9upN w 7 [] 1 = .int x0 := q9upN_of (by decide) ae0
  have u1 : q9upN w 7 [] 2 = .int x1 := q9upN_of (by decide) ae1
  have u2 : q9upN w 7 [] 3 = .int x2 := q9upN_of (by decide) ae2
  have u3 : q9upN w 7 [] 4 = .int x3 := q9upN_of (by decide) ae3
  have u4 : q9upN w 7 [] 5 = .int x4 := q9upN_of (by decide) ae4
  have u5 : q9upN w 7 [] 6 = .int x5 := q9upN_of (by decide) ae5
  refine ⟨[], fun i9 p9 hq9 => ?_, List.forall_mem_cons.mpr ⟨?_, fun _ h => absurd h List.not_mem_nil⟩, fun _ h => absurd h List.not_mem_nil⟩
  · exact nomatch (show (none : Option (Nat × q9AV × q9AV × q9ET)) = some p9 from hq9)
  · exact q9th_tX (T := T) (N := N) (P := P) (J := J) (t0 := t0) (Sc := Sc) (q9evS u3) (q9evZ u_) (q9evS u5) (by rw [q9FF_1051]; exact (by rw [← q9FF_1051 (t0 := t0) (Sc := Sc) (b := (0 : Int32).toInt)]; exact q9F_mn hv hok hz.symm ham)) (by decide)
theorem q9ru_dw6 (hT : ∀ i, 0 ≤ T i ∧ T i ≤ 255) (hN : 0 ≤ N ∧ N ≤ 400) (hSc : 0 ≤ Sc 1 ∧ Sc 1 ≤ 400 → N = Sc 1) : q9ruOK (fO T N P J t0 Sc) q9R_dw6 := by
  intro w w0 hA hX hL hV hR
  obtain ⟨x0, ae0, -, -⟩ := hA 0 0 rfl
  obtain ⟨x1, ae1, -, -⟩ := hA 1 0 rfl
  obtain ⟨x2, ae2, -, -⟩ := hA 2 0 rfl
  obtain ⟨x3, ae3, -, -⟩ := hA 3 0 rfl
  obtain ⟨x4, ae4, -, -⟩ := hA 4 0 rfl
  obtain ⟨x5, ae5, -, -⟩ := hA 5 0 rfl
  have kz : (0 : Int32).toInt = 0 := rfl
  have k4 : (Int32.ofInt 4).toInt = 4 := q9oI_toInt (by decide)
  have k59 : (Int32.ofInt 59).toInt = 59 := q9oI_toInt (by decide)
  have k60 : (Int32.ofInt 60).toInt = 60 := q9oI_toInt (by decide)
  have V0 := q9pV (T := T) (N := N) (P := P) (J := J) (t0 := t0) (Sc := Sc) (op := 1027) (n := 1) (q9evS ae0) (q9evZ w0) (hV _ (List.mem_of_getElem? (i := 0) rfl)) (by decide)
  rw [q9FF_1027] at V0
  have K0 := q9chV_of V0
  try simp only [kz, k4, k59, k60] at K0
  have X0 := q9th_pX (T := T) (N := N) (P := P) (J := J) (t0 := t0) (Sc := Sc) (op := 1021) (q9evS ae0) (q9evZ w0) (q9evS ae4) (hX _ (List.mem_of_getElem? (i := 0) rfl)) (by decide)
  rw [q9FF_1021] at X0
  have H0 := q9chV_of X0
  try simp only [kz, k4, k59, k60] at H0
  have X1 := q9th_pX (T := T) (N := N) (P := P) (J := J) (t0 := t0) (Sc := Sc) (op := 1022) (q9evS ae0) (q9evZ w0) (q9evS ae3) (hX _ (List.mem_of_getElem? (i := 1) rfl)) (by decide)
  rw [q9FF_1022] at X1
  have H1 := q9chV_of X1
  try simp only [kz, k4, k59, k60] at H1
  have L0 : (0 : Int32).toInt ≤ x0.toInt + 0 := q9pC (q9evZ w0) (q9evS ae0) (hL _ (List.mem_of_getElem? (i := 0) rfl))
  have L1 : (0 : Int32).toInt ≤ x3.toInt + 0 := q9pC (q9evZ w0) (q9evS ae3) (hL _ (List.mem_of_getElem? (i := 1) rfl))
  have L2 : x3.toInt ≤ (Int32.ofInt 60).toInt + 0 := q9pC (q9evS ae3) (q9evC w0 60) (hL _ (List.mem_of_getElem? (i := 2) rfl))
  have L3 : (0 : Int32).toInt ≤ x4.toInt + 0 := q9pC (q9evZ w0) (q9evS ae4) (hL _ (List.mem_of_getElem? (i := 3) rfl))
  have L4 : x4.toInt ≤ (Int32.ofInt 4).toInt + 0 := q9pC (q9evS ae4) (q9evC w0 4) (hL _ (List.mem_of_getElem? (i := 4) rfl))
  have X2 := q9th_pX (T := T) (N := N) (P := P) (J := J) (t0 := t0) (Sc := Sc) (op := 1002) (q9evS ae0) (q9evZ w0) (q9evS ae1) (hX _ (List.mem_of_getElem? (i := 2) rfl)) (by decide)
  rw [q9FF_1002] at X2
  have H2 := Option.some.inj X2
  try simp only [kz, k4, k59, k60] at H2
  have V1 := q9pV (T := T) (N := N) (P := P) (J := J) (t0 := t0) (Sc := Sc) (op := 1013) (n := 6) (q9evS ae1) (q9evZ w0) (hV _ (List.mem_of_getElem? (i := 1) rfl)) (by decide)
  rw [q9FF_1013] at V1
  have K1 := Option.some.inj V1
  try simp only [kz, k4, k59, k60] at K1
  have X3 := q9th_pX (T := T) (N := N) (P := P) (J := J) (t0 := t0) (Sc := Sc) (op := 1003) (q9evS ae1) (q9evZ w0) (q9evS ae2) (hX _ (List.mem_of_getElem? (i := 3) rfl)) (by decide)
  rw [q9FF_1003] at X3
  have H3 := Option.some.inj X3
  try simp only [kz, k4, k59, k60] at H3
  have V2 := q9pV (T := T) (N := N) (P := P) (J := J) (t0 := t0) (Sc := Sc) (op := 1264) (n := 0) (q9evS ae2) (q9evZ w0) (hV _ (List.mem_of_getElem? (i := 2) rfl)) (by decide)
  rw [q9FF_1264] at V2
  have K2 := Option.some.inj V2
  try simp only [kz, k4, k59, k60] at K2
  have L5 : x3.toInt ≤ (Int32.ofInt 59).toInt + 0 := q9pC (q9evS ae3) (q9evC w0 59) (hL _ (List.mem_of_getElem? (i := 5) rfl))
  have X4 := q9th_pX (T := T) (N := N) (P := P) (J := J) (t0 := t0) (Sc := Sc) (op := 1461) (q9evS ae2) (q9evZ w0) (q9evS ae5) (hX _ (List.mem_of_getElem? (i := 4) rfl)) (by decide)
  rw [q9FF_1461] at X4
  have H4 := Option.some.inj X4
  try simp only [kz, k4, k59, k60] at H4
  obtain ⟨c, hv, hc, h8, h9, -⟩ := K0
  have hd : x4.toInt + 1 = c.2.2.length := q9th_at_of hv hc H0
  have hz : x3.toInt = c.2.1 := q9th_at_of hv hc H1
  have hb : q9spI T N c.1 = x1.toInt := by rw [hc]; exact H2
  obtain ⟨q, st, hst⟩ : ∃ q st, c.2.2 = q :: st := by
    cases hh : c.2.2 with
    | nil => exfalso; rw [hh, List.length_nil] at hd; omega
    | cons q st => exact ⟨q, st, rfl⟩
  have hl2 : c.2.2.length = st.length + 1 := by rw [hst, List.length_cons]
  have hk : q9kbI T N (q9spI T N c.1) = 6 := by rw [hb]; exact K1
  have hl : q9lkI T N c = 6 := by rw [q9lk_of h8 (by omega), hk]
  have he : q9weI T N x1.toInt = x2.toInt := H3
  have hr1 : (q9rcI T N P J c).1 = 0 := by unfold q9rcI q9rsI; rw [hl, hb, he]; exact K2
  have hok : q9okL T N P J c := ⟨by omega, by omega, by omega, fun h => by omega, hr1⟩
  have hsy : x5.toInt = q9lwhI T N (q9weI T N (q9spI T N c.1)) := by rw [hb, he]; exact (H4).symm
  have u_ : q9upN w 7 [] 0 = .int 0 := q9upN_of (by decide) w0
  have u0 : q9upN w 7 [] 1 = .int x0 := q9upN_of (by decide) ae0
  have u1 : q9upN w 7 [] 2 = .int x1 := q9upN_of (by decide) ae1
  have u2 : q9upN w 7 [] 3 = .int x2 := q9upN_of (by decide) ae2
  have u3 : q9upN w 7 [] 4 = .int x3 := q9upN_of (by decide) ae3
  have u4 : q9upN w 7 [] 5 = .int x4 := q9upN_of (by decide) ae4
  have u5 : q9upN w 7 [] 6 = .int x5 := q9upN_of (by decide) ae5
  refine ⟨[], fun i9 p9 hq9 => ?_, List.forall_mem_cons.mpr ⟨?_, fun _ h => absurd h List.not_mem_nil⟩, fun _ h => absurd h List.not_mem_nil⟩
  · exact nomatch (show (none : Option (Nat × q9AV × q9AV × q9ET)) = some p9 from hq9)
  · exact q9th_tX (T := T) (N := N) (P := P) (J := J) (t0 := t0) (Sc := Sc) (q9evS u3) (q9evZ u_) (q9evS u5) (by rw [q9FF_1420]; exact (q9F_wh hv hok hz.symm hl hsy)) (by decide)
theorem q9ru_dv6 (hT : ∀ i, 0 ≤ T i ∧ T i ≤ 255) (hN : 0 ≤ N ∧ N ≤ 400) (hSc : 0 ≤ Sc 1 ∧ Sc 1 ≤ 400 → N = Sc 1) : q9ruOK (fO T N P J t0 Sc) q9R_dv6 := by
  intro w w0 hA hX hL hV hR
  obtain ⟨x0, ae0, -, -⟩ := hA 0 0 rfl
  obtain ⟨x1, ae1, -, -⟩ := hA 1 0 rfl
  obtain ⟨x2, ae2, -, -⟩ := hA 2 0 rfl
  obtain ⟨x3, ae3, -, -⟩ := hA 3 0 rfl
  obtain ⟨x4, ae4, -, -⟩ := hA 4 0 rfl
  obtain ⟨x5, ae5, -, -⟩ := hA 5 0 rfl
  have kz : (0 : Int32).toInt = 0 := rfl
  have k4 : (Int32.ofInt 4).toInt = 4 := q9oI_toInt (by decide)
  have k59 : (Int32.ofInt 59).toInt = 59 := q9oI_toInt (by decide)
  have k60 : (Int32.ofInt 60).toInt = 60 := q9oI_toInt (by decide)
  have V0 := q9pV (T := T) (N := N) (P := P) (J := J) (t0 := t0) (Sc := Sc) (op := 1027) (n := 1) (q9evS ae0) (q9evZ w0) (hV _ (List.mem_of_getElem? (i := 0) rfl)) (by decide)
  rw [q9FF_1027] at V0
  have K0 := q9chV_of V0
  try simp only [kz, k4, k59, k60] at K0
  have X0 := q9th_pX (T := T) (N := N) (P := P) (J := J) (t0 := t0) (Sc := Sc) (op := 1021) (q9evS ae0) (q9evZ w0) (q9evS ae4) (hX _ (List.mem_of_getElem? (i := 0) rfl)) (by decide)
  rw [q9FF_1021] at X0
  have H0 := q9chV_of X0
  try simp only [kz, k4, k59, k60] at H0
  have X1 := q9th_pX (T := T) (N := N) (P := P) (J := J) (t0 := t0) (Sc := Sc) (op := 1022) (q9evS ae0) (q9evZ w0) (q9evS ae3) (hX _ (List.mem_of_getElem? (i := 1) rfl)) (by decide)
  rw [q9FF_1022] at X1
  have H1 := q9chV_of X1
  try simp only [kz, k4, k59, k60] at H1
  have L0 : (0 : Int32).toInt ≤ x0.toInt + 0 := q9pC (q9evZ w0) (q9evS ae0) (hL _ (List.mem_of_getElem? (i := 0) rfl))
  have L1 : (0 : Int32).toInt ≤ x3.toInt + 0 := q9pC (q9evZ w0) (q9evS ae3) (hL _ (List.mem_of_getElem? (i := 1) rfl))
  have L2 : x3.toInt ≤ (Int32.ofInt 60).toInt + 0 := q9pC (q9evS ae3) (q9evC w0 60) (hL _ (List.mem_of_getElem? (i := 2) rfl))
  have L3 : (0 : Int32).toInt ≤ x4.toInt + 0 := q9pC (q9evZ w0) (q9evS ae4) (hL _ (List.mem_of_getElem? (i := 3) rfl))
  have L4 : x4.toInt ≤ (Int32.ofInt 4).toInt + 0 := q9pC (q9evS ae4) (q9evC w0 4) (hL _ (List.mem_of_getElem? (i := 4) rfl))
  have X2 := q9th_pX (T := T) (N := N) (P := P) (J := J) (t0 := t0) (Sc := Sc) (op := 1002) (q9evS ae0) (q9evZ w0) (q9evS ae1) (hX _ (List.mem_of_getElem? (i := 2) rfl)) (by decide)
  rw [q9FF_1002] at X2
  have H2 := Option.some.inj X2
  try simp only [kz, k4, k59, k60] at H2
  have V1 := q9pV (T := T) (N := N) (P := P) (J := J) (t0 := t0) (Sc := Sc) (op := 1013) (n := 6) (q9evS ae1) (q9evZ w0) (hV _ (List.mem_of_getElem? (i := 1) rfl)) (by decide)
  rw [q9FF_1013] at V1
  have K1 := Option.some.inj V1
  try simp only [kz, k4, k59, k60] at K1
  have X3 := q9th_pX (T := T) (N := N) (P := P) (J := J) (t0 := t0) (Sc := Sc) (op := 1003) (q9evS ae1) (q9evZ w0) (q9evS ae2) (hX _ (List.mem_of_getElem? (i := 3) rfl)) (by decide)
  rw [q9FF_1003] at X3
  have H3 := Option.some.inj X3
  try simp only [kz, k4, k59, k60] at H3
  have V2 := q9pV (T := T) (N := N) (P := P) (J := J) (t0 := t0) (Sc := Sc) (op := 1264) (n := 0) (q9evS ae2) (q9evZ w0) (hV _ (List.mem_of_getElem? (i := 2) rfl)) (by decide)
  rw [q9FF_1264] at V2
  have K2 := Option.some.inj V2
  try simp only [kz, k4, k59, k60] at K2
  have L5 : x3.toInt ≤ (Int32.ofInt 59).toInt + 0 := q9pC (q9evS ae3) (q9evC w0 59) (hL _ (List.mem_of_getElem? (i := 5) rfl))
  have X4 := q9th_pX (T := T) (N := N) (P := P) (J := J) (t0 := t0) (Sc := Sc) (op := 1462) (q9evS ae2) (q9evZ w0) (q9evS ae5) (hX _ (List.mem_of_getElem? (i := 4) rfl)) (by decide)
  rw [q9FF_1462] at X4
  have H4 := Option.some.inj X4
  try simp only [kz, k4, k59, k60] at H4
  obtain ⟨c, hv, hc, h8, h9, -⟩ := K0
  have hd : x4.toInt + 1 = c.2.2.length := q9th_at_of hv hc H0
  have hz : x3.toInt = c.2.1 := q9th_at_of hv hc H1
  have hb : q9spI T N c.1 = x1.toInt := by rw [hc]; exact H2
  obtain ⟨q, st, hst⟩ : ∃ q st, c.2.2 = q :: st := by
    cases hh : c.2.2 with
    | nil => exfalso; rw [hh, List.length_nil] at hd; omega
    | cons q st => exact ⟨q, st, rfl⟩
  have hl2 : c.2.2.length = st.length + 1 := by rw [hst, List.length_cons]
  have hk : q9kbI T N (q9spI T N c.1) = 6 := by rw [hb]; exact K1
  have hl : q9lkI T N c = 6 := by rw [q9lk_of h8 (by omega), hk]
  have he : q9weI T N x1.toInt = x2.toInt := H3
  have hr1 : (q9rcI T N P J c).1 = 0 := by unfold q9rcI q9rsI; rw [hl, hb, he]; exact K2
  have hok : q9okL T N P J c := ⟨by omega, by omega, by omega, fun h => by omega, hr1⟩
  have hsy : x5.toInt = q9lvlI T N (q9weI T N (q9spI T N c.1)) := by rw [hb, he]; exact (H4).symm
  have u_ : q9upN w 7 [] 0 = .int 0 := q9upN_of (by decide) w0
  have u0 : q9upN w 7 [] 1 = .int x0 := q9upN_of (by decide) ae0
  have u1 : q9upN w 7 [] 2 = .int x1 := q9upN_of (by decide) ae1
  have u2 : q9upN w 7 [] 3 = .int x2 := q9upN_of (by decide) ae2
  have u3 : q9upN w 7 [] 4 = .int x3 := q9upN_of (by decide) ae3
  have u4 : q9upN w 7 [] 5 = .int x4 := q9upN_of (by decide) ae4
  have u5 : q9upN w 7 [] 6 = .int x5 := q9upN_of (by decide) ae5
  refine ⟨[], fun i9 p9 hq9 => ?_, List.forall_mem_cons.mpr ⟨?_, fun _ h => absurd h List.not_mem_nil⟩, fun _ h => absurd h List.not_mem_nil⟩
  · exact nomatch (show (none : Option (Nat × q9AV × q9AV × q9ET)) = some p9 from hq9)
  · exact q9th_tX (T := T) (N := N) (P := P) (J := J) (t0 := t0) (Sc := Sc) (q9evS u3) (q9evZ u_) (q9evS u5) (by rw [q9FF_1421]; exact (q9F_vl hv hok hz.symm hl hsy)) (by decide)
theorem q9ru_de6 (hT : ∀ i, 0 ≤ T i ∧ T i ≤ 255) (hN : 0 ≤ N ∧ N ≤ 400) (hSc : 0 ≤ Sc 1 ∧ Sc 1 ≤ 400 → N = Sc 1) : q9ruOK (fO T N P J t0 Sc) q9R_de6 := by
  intro w w0 hA hX hL hV hR
  obtain ⟨x0, ae0, -, -⟩ := hA 0 0 rfl
  obtain ⟨x1, ae1, -, -⟩ := hA 1 0 rfl
  obtain ⟨x2, ae2, -, -⟩ := hA 2 0 rfl
  obtain ⟨x3, ae3, -, -⟩ := hA 3 0 rfl
  obtain ⟨x4, ae4, -, -⟩ := hA 4 0 rfl
  obtain ⟨x5, ae5, -, -⟩ := hA 5 0 rfl
  have kz : (0 : Int32).toInt = 0 := rfl
  have k4 : (Int32.ofInt 4).toInt = 4 := q9oI_toInt (by decide)
  have k59 : (Int32.ofInt 59).toInt = 59 := q9oI_toInt (by decide)
  have k60 : (Int32.ofInt 60).toInt = 60 := q9oI_toInt (by decide)
  have V0 := q9pV (T := T) (N := N) (P := P) (J := J) (t0 := t0) (Sc := Sc) (op := 1027) (n := 1) (q9evS ae0) (q9evZ w0) (hV _ (List.mem_of_getElem? (i := 0) rfl)) (by decide)
  rw [q9FF_1027] at V0
  have K0 := q9chV_of V0
  try simp only [kz, k4, k59, k60] at K0
  have X0 := q9th_pX (T := T) (N := N) (P := P) (J := J) (t0 := t0) (Sc := Sc) (op := 1021) (q9evS ae0) (q9evZ w0) (q9evS ae4) (hX _ (List.mem_of_getElem? (i := 0) rfl)) (by decide)
  rw [q9FF_1021] at X0
  have H0 := q9chV_of X0
  try simp only [kz, k4, k59, k60] at H0
  have X1 := q9th_pX (T := T) (N := N) (P := P) (J := J) (t0 := t0) (Sc := Sc) (op := 1022) (q9evS ae0) (q9evZ w0) (q9evS ae3) (hX _ (List.mem_of_getElem? (i := 1) rfl)) (by decide)
  rw [q9FF_1022] at X1
  have H1 := q9chV_of X1
  try simp only [kz, k4, k59, k60] at H1
  have L0 : (0 : Int32).toInt ≤ x0.toInt + 0 := q9pC (q9evZ w0) (q9evS ae0) (hL _ (List.mem_of_getElem? (i := 0) rfl))
  have L1 : (0 : Int32).toInt ≤ x3.toInt + 0 := q9pC (q9evZ w0) (q9evS ae3) (hL _ (List.mem_of_getElem? (i := 1) rfl))
  have L2 : x3.toInt ≤ (Int32.ofInt 60).toInt + 0 := q9pC (q9evS ae3) (q9evC w0 60) (hL _ (List.mem_of_getElem? (i := 2) rfl))
  have L3 : (0 : Int32).toInt ≤ x4.toInt + 0 := q9pC (q9evZ w0) (q9evS ae4) (hL _ (List.mem_of_getElem? (i := 3) rfl))
  have L4 : x4.toInt ≤ (Int32.ofInt 4).toInt + 0 := q9pC (q9evS ae4) (q9evC w0 4) (hL _ (List.mem_of_getElem? (i := 4) rfl))
  have X2 := q9th_pX (T := T) (N := N) (P := P) (J := J) (t0 := t0) (Sc := Sc) (op := 1002) (q9evS ae0) (q9evZ w0) (q9evS ae1) (hX _ (List.mem_of_getElem? (i := 2) rfl)) (by decide)
  rw [q9FF_1002] at X2
  have H2 := Option.some.inj X2
  try simp only [kz, k4, k59, k60] at H2
  have V1 := q9pV (T := T) (N := N) (P := P) (J := J) (t0 := t0) (Sc := Sc) (op := 1013) (n := 6) (q9evS ae1) (q9evZ w0) (hV _ (List.mem_of_getElem? (i := 1) rfl)) (by decide)
  rw [q9FF_1013] at V1
  have K1 := Option.some.inj V1
  try simp only [kz, k4, k59, k60] at K1
  have X3 := q9th_pX (T := T) (N := N) (P := P) (J := J) (t0 := t0) (Sc := Sc) (op := 1003) (q9evS ae1) (q9evZ w0) (q9evS ae2) (hX _ (List.mem_of_getElem? (i := 3) rfl)) (by decide)
  rw [q9FF_1003] at X3
  have H3 := Option.some.inj X3
  try simp only [kz, k4, k59, k60] at H3
  have V2 := q9pV (T := T) (N := N) (P := P) (J := J) (t0 := t0) (Sc := Sc) (op := 1264) (n := 0) (q9evS ae2) (q9evZ w0) (hV _ (List.mem_of_getElem? (i := 2) rfl)) (by decide)
  rw [q9FF_1264] at V2
  have K2 := Option.some.inj V2
  try simp only [kz, k4, k59, k60] at K2
  have L5 : x3.toInt ≤ (Int32.ofInt 59).toInt + 0 := q9pC (q9evS ae3) (q9evC w0 59) (hL _ (List.mem_of_getElem? (i := 5) rfl))
  have X4 := q9th_pX (T := T) (N := N) (P := P) (J := J) (t0 := t0) (Sc := Sc) (op := 1464) (q9evS ae2) (q9evZ w0) (q9evS ae5) (hX _ (List.mem_of_getElem? (i := 4) rfl)) (by decide)
  rw [q9FF_1464] at X4
  have H4 := Option.some.inj X4
  try simp only [kz, k4, k59, k60] at H4
  obtain ⟨c, hv, hc, h8, h9, -⟩ := K0
  have hd : x4.toInt + 1 = c.2.2.length := q9th_at_of hv hc H0
  have hz : x3.toInt = c.2.1 := q9th_at_of hv hc H1
  have hb : q9spI T N c.1 = x1.toInt := by rw [hc]; exact H2
  obtain ⟨q, st, hst⟩ : ∃ q st, c.2.2 = q :: st := by
    cases hh : c.2.2 with
    | nil => exfalso; rw [hh, List.length_nil] at hd; omega
    | cons q st => exact ⟨q, st, rfl⟩
  have hl2 : c.2.2.length = st.length + 1 := by rw [hst, List.length_cons]
  have hk : q9kbI T N (q9spI T N c.1) = 6 := by rw [hb]; exact K1
  have hl : q9lkI T N c = 6 := by rw [q9lk_of h8 (by omega), hk]
  have he : q9weI T N x1.toInt = x2.toInt := H3
  have hr1 : (q9rcI T N P J c).1 = 0 := by unfold q9rcI q9rsI; rw [hl, hb, he]; exact K2
  have hok : q9okL T N P J c := ⟨by omega, by omega, by omega, fun h => by omega, hr1⟩
  have hsy : x5.toInt = q9esI T N P J (q9lkI T N c) (q9weI T N (q9spI T N c.1)) := by
    rw [hl, hb, he]
    unfold q9esI
    rw [if_neg (by decide)]
    exact (H4).symm
  have u_ : q9upN w 7 [] 0 = .int 0 := q9upN_of (by decide) w0
  have u0 : q9upN w 7 [] 1 = .int x0 := q9upN_of (by decide) ae0
  have u1 : q9upN w 7 [] 2 = .int x1 := q9upN_of (by decide) ae1
  have u2 : q9upN w 7 [] 3 = .int x2 := q9upN_of (by decide) ae2
  have u3 : q9upN w 7 [] 4 = .int x3 := q9upN_of (by decide) ae3
  have u4 : q9upN w 7 [] 5 = .int x4 := q9upN_of (by decide) ae4
  have u5 : q9upN w 7 [] 6 = .int x5 := q9upN_of (by decide) ae5
  refine ⟨[], fun i9 p9 hq9 => ?_, List.forall_mem_cons.mpr ⟨?_, fun _ h => absurd h List.not_mem_nil⟩, fun _ h => absurd h List.not_mem_nil⟩
  · exact nomatch (show (none : Option (Nat × q9AV × q9AV × q9ET)) = some p9 from hq9)
  · exact q9th_tX (T := T) (N := N) (P := P) (J := J) (t0 := t0) (Sc := Sc) (q9evS u3) (q9evZ u_) (q9evS u5) (by rw [q9FF_1422]; exact (q9F_es hv hok hz.symm (.inl hl) hsy)) (by decide)
theorem q9ru_de1 (hT : ∀ i, 0 ≤ T i ∧ T i ≤ 255) (hN : 0 ≤ N ∧ N ≤ 400) (hSc : 0 ≤ Sc 1 ∧ Sc 1 ≤ 400 → N = Sc 1) : q9ruOK (fO T N P J t0 Sc) q9R_de1 := by
  intro w w0 hA hX hL hV hR
  obtain ⟨x0, ae0, -, -⟩ := hA 0 0 rfl
  obtain ⟨x1, ae1, -, -⟩ := hA 1 0 rfl
  obtain ⟨x2, ae2, -, -⟩ := hA 2 0 rfl
  obtain ⟨x3, ae3, -, -⟩ := hA 3 0 rfl
  obtain ⟨x4, ae4, -, -⟩ := hA 4 0 rfl
  obtain ⟨x5, ae5, -, -⟩ := hA 5 0 rfl
  have kz : (0 : Int32).toInt = 0 := rfl
  have k4 : (Int32.ofInt 4).toInt = 4 := q9oI_toInt (by decide)
  have k59 : (Int32.ofInt 59).toInt = 59 := q9oI_toInt (by decide)
  have k60 : (Int32.ofInt 60).toInt = 60 := q9oI_toInt (by decide)
  have V0 := q9pV (T := T) (N := N) (P := P) (J := J) (t0 := t0) (Sc := Sc) (op := 1027) (n := 1) (q9evS ae0) (q9evZ w0) (hV _ (List.mem_of_getElem? (i := 0) rfl)) (by decide)
  rw [q9FF_1027] at V0
  have K0 := q9chV_of V0
  try simp only [kz, k4, k59, k60] at K0
  have X0 := q9th_pX (T := T) (N := N) (P := P) (J := J) (t0 := t0) (Sc := Sc) (op := 1021) (q9evS ae0) (q9evZ w0) (q9evS ae4) (hX _ (List.mem_of_getElem? (i := 0) rfl)) (by decide)
  rw [q9FF_1021] at X0
  have H0 := q9chV_of X0
  try simp only [kz, k4, k59, k60] at H0
  have X1 := q9th_pX (T := T) (N := N) (P := P) (J := J) (t0 := t0) (Sc := Sc) (op := 1022) (q9evS ae0) (q9evZ w0) (q9evS ae3) (hX _ (List.mem_of_getElem? (i := 1) rfl)) (by decide)
  rw [q9FF_1022] at X1
  have H1 := q9chV_of X1
  try simp only [kz, k4, k59, k60] at H1
  have L0 : (0 : Int32).toInt ≤ x0.toInt + 0 := q9pC (q9evZ w0) (q9evS ae0) (hL _ (List.mem_of_getElem? (i := 0) rfl))
  have L1 : (0 : Int32).toInt ≤ x3.toInt + 0 := q9pC (q9evZ w0) (q9evS ae3) (hL _ (List.mem_of_getElem? (i := 1) rfl))
  have L2 : x3.toInt ≤ (Int32.ofInt 60).toInt + 0 := q9pC (q9evS ae3) (q9evC w0 60) (hL _ (List.mem_of_getElem? (i := 2) rfl))
  have L3 : (0 : Int32).toInt ≤ x4.toInt + 0 := q9pC (q9evZ w0) (q9evS ae4) (hL _ (List.mem_of_getElem? (i := 3) rfl))
  have L4 : x4.toInt ≤ (Int32.ofInt 4).toInt + 0 := q9pC (q9evS ae4) (q9evC w0 4) (hL _ (List.mem_of_getElem? (i := 4) rfl))
  have X2 := q9th_pX (T := T) (N := N) (P := P) (J := J) (t0 := t0) (Sc := Sc) (op := 1002) (q9evS ae0) (q9evZ w0) (q9evS ae1) (hX _ (List.mem_of_getElem? (i := 2) rfl)) (by decide)
  rw [q9FF_1002] at X2
  have H2 := Option.some.inj X2
  try simp only [kz, k4, k59, k60] at H2
  have V1 := q9pV (T := T) (N := N) (P := P) (J := J) (t0 := t0) (Sc := Sc) (op := 1013) (n := 1) (q9evS ae1) (q9evZ w0) (hV _ (List.mem_of_getElem? (i := 1) rfl)) (by decide)
  rw [q9FF_1013] at V1
  have K1 := Option.some.inj V1
  try simp only [kz, k4, k59, k60] at K1
  have X3 := q9th_pX (T := T) (N := N) (P := P) (J := J) (t0 := t0) (Sc := Sc) (op := 1003) (q9evS ae1) (q9evZ w0) (q9evS ae2) (hX _ (List.mem_of_getElem? (i := 3) rfl)) (by decide)
  rw [q9FF_1003] at X3
  have H3 := Option.some.inj X3
  try simp only [kz, k4, k59, k60] at H3
  have V2 := q9pV (T := T) (N := N) (P := P) (J := J) (t0 := t0) (Sc := Sc) (op := 1266) (n := 0) (q9evS ae2) (q9evZ w0) (hV _ (List.mem_of_getElem? (i := 2) rfl)) (by decide)
  rw [q9FF_1266] at V2
  have K2 := Option.some.inj V2
  try simp only [kz, k4, k59, k60] at K2
  have L5 : x3.toInt ≤ (Int32.ofInt 59).toInt + 0 := q9pC (q9evS ae3) (q9evC w0 59) (hL _ (List.mem_of_getElem? (i := 5) rfl))
  have X4 := q9th_pX (T := T) (N := N) (P := P) (J := J) (t0 := t0) (Sc := Sc) (op := 1465) (q9evS ae2) (q9evZ w0) (q9evS ae5) (hX _ (List.mem_of_getElem? (i := 4) rfl)) (by decide)
  rw [q9FF_1465] at X4
  have H4 := Option.some.inj X4
  try simp only [kz, k4, k59, k60] at H4
  obtain ⟨c, hv, hc, h8, h9, -⟩ := K0
  have hd : x4.toInt + 1 = c.2.2.length := q9th_at_of hv hc H0
  have hz : x3.toInt = c.2.1 := q9th_at_of hv hc H1
  have hb : q9spI T N c.1 = x1.toInt := by rw [hc]; exact H2
  obtain ⟨q, st, hst⟩ : ∃ q st, c.2.2 = q :: st := by
    cases hh : c.2.2 with
    | nil => exfalso; rw [hh, List.length_nil] at hd; omega
    | cons q st => exact ⟨q, st, rfl⟩
  have hl2 : c.2.2.length = st.length + 1 := by rw [hst, List.length_cons]
  have hk : q9kbI T N (q9spI T N c.1) = 1 := by rw [hb]; exact K1
  have hl : q9lkI T N c = 1 := by rw [q9lk_of h8 (by omega), hk]
  have he : q9weI T N x1.toInt = x2.toInt := H3
  have hr1 : (q9rcI T N P J c).1 = 0 := by unfold q9rcI q9rsI; rw [hl, hb, he]; exact K2
  have hok : q9okL T N P J c := ⟨by omega, by omega, by omega, fun h => by omega, hr1⟩
  have hsy : x5.toInt = q9esI T N P J (q9lkI T N c) (q9weI T N (q9spI T N c.1)) := by
    rw [hl, hb, he]
    unfold q9esI
    rw [if_pos rfl]
    exact (H4).symm
  have u_ : q9upN w 7 [] 0 = .int 0 := q9upN_of (by decide) w0
  have u0 : q9upN w 7 [] 1 = .int x0 := q9upN_of (by decide) ae0
  have u1 : q9upN w 7 [] 2 = .int x1 := q9upN_of (by decide) ae1
  have u2 : q9upN w 7 [] 3 = .int x2 := q9upN_of (by decide) ae2
  have u3 : q9upN w 7 [] 4 = .int x3 := q9upN_of (by decide) ae3
  have u4 : q9upN w 7 [] 5 = .int x4 := q9upN_of (by decide) ae4
  have u5 : q9upN w 7 [] 6 = .int x5 := q9upN_of (by decide) ae5
  refine ⟨[], fun i9 p9 hq9 => ?_, List.forall_mem_cons.mpr ⟨?_, fun _ h => absurd h List.not_mem_nil⟩, fun _ h => absurd h List.not_mem_nil⟩
  · exact nomatch (show (none : Option (Nat × q9AV × q9AV × q9ET)) = some p9 from hq9)
  · exact q9th_tX (T := T) (N := N) (P := P) (J := J) (t0 := t0) (Sc := Sc) (q9evS u3) (q9evZ u_) (q9evS u5) (by rw [q9FF_1422]; exact (q9F_es hv hok hz.symm (.inr hl) hsy)) (by decide)
theorem q9ru_ne0 (hT : ∀ i, 0 ≤ T i ∧ T i ≤ 255) (hN : 0 ≤ N ∧ N ≤ 400) (hSc : 0 ≤ Sc 1 ∧ Sc 1 ≤ 400 → N = Sc 1) : q9ruOK (fO T N P J t0 Sc) q9R_ne0 := by
  intro w w0 hA hX hL hV hR
  obtain ⟨x0, ae0, -, -⟩ := hA 0 0 rfl
  obtain ⟨x1, ae1, -, -⟩ := hA 1 0 rfl
  obtain ⟨x2, ae2, -, -⟩ := hA 2 0 rfl
  obtain ⟨x3, ae3, -, -⟩ := hA 3 0 rfl
  obtain ⟨x4, ae4, -, -⟩ := hA 4 0 rfl
  have kz : (0 : Int32).toInt = 0 := rfl
  have k4 : (Int32.ofInt 4).toInt = 4 := q9oI_toInt (by decide)
  have k59 : (Int32.ofInt 59).toInt = 59 := q9oI_toInt (by decide)
  have k60 : (Int32.ofInt 60).toInt = 60 := q9oI_toInt (by decide)
  have V0 := q9pV (T := T) (N := N) (P := P) (J := J) (t0 := t0) (Sc := Sc) (op := 1027) (n := 1) (q9evS ae0) (q9evZ w0) (hV _ (List.mem_of_getElem? (i := 0) rfl)) (by decide)
  rw [q9FF_1027] at V0
  have K0 := q9chV_of V0
  try simp only [kz, k4, k59, k60] at K0
  have X0 := q9th_pX (T := T) (N := N) (P := P) (J := J) (t0 := t0) (Sc := Sc) (op := 1021) (q9evS ae0) (q9evZ w0) (q9evS ae4) (hX _ (List.mem_of_getElem? (i := 0) rfl)) (by decide)
  rw [q9FF_1021] at X0
  have H0 := q9chV_of X0
  try simp only [kz, k4, k59, k60] at H0
  have X1 := q9th_pX (T := T) (N := N) (P := P) (J := J) (t0 := t0) (Sc := Sc) (op := 1022) (q9evS ae0) (q9evZ w0) (q9evS ae3) (hX _ (List.mem_of_getElem? (i := 1) rfl)) (by decide)
  rw [q9FF_1022] at X1
  have H1 := q9chV_of X1
  try simp only [kz, k4, k59, k60] at H1
  have L0 : (0 : Int32).toInt ≤ x0.toInt + 0 := q9pC (q9evZ w0) (q9evS ae0) (hL _ (List.mem_of_getElem? (i := 0) rfl))
  have L1 : (0 : Int32).toInt ≤ x3.toInt + 0 := q9pC (q9evZ w0) (q9evS ae3) (hL _ (List.mem_of_getElem? (i := 1) rfl))
  have L2 : x3.toInt ≤ (Int32.ofInt 60).toInt + 0 := q9pC (q9evS ae3) (q9evC w0 60) (hL _ (List.mem_of_getElem? (i := 2) rfl))
  have L3 : (0 : Int32).toInt ≤ x4.toInt + 0 := q9pC (q9evZ w0) (q9evS ae4) (hL _ (List.mem_of_getElem? (i := 3) rfl))
  have L4 : x4.toInt ≤ (Int32.ofInt 4).toInt + 0 := q9pC (q9evS ae4) (q9evC w0 4) (hL _ (List.mem_of_getElem? (i := 4) rfl))
  have X2 := q9th_pX (T := T) (N := N) (P := P) (J := J) (t0 := t0) (Sc := Sc) (op := 1002) (q9evS ae0) (q9evZ w0) (q9evS ae1) (hX _ (List.mem_of_getElem? (i := 2) rfl)) (by decide)
  rw [q9FF_1002] at X2
  have H2 := Option.some.inj X2
  try simp only [kz, k4, k59, k60] at H2
  have V1 := q9pV (T := T) (N := N) (P := P) (J := J) (t0 := t0) (Sc := Sc) (op := 1013) (n := 0) (q9evS ae1) (q9evZ w0) (hV _ (List.mem_of_getElem? (i := 1) rfl)) (by decide)
  rw [q9FF_1013] at V1
  have K1 := Option.some.inj V1
  try simp only [kz, k4, k59, k60] at K1
  have X3 := q9th_pX (T := T) (N := N) (P := P) (J := J) (t0 := t0) (Sc := Sc) (op := 1003) (q9evS ae1) (q9evZ w0) (q9evS ae2) (hX _ (List.mem_of_getElem? (i := 3) rfl)) (by decide)
  rw [q9FF_1003] at X3
  have H3 := Option.some.inj X3
  try simp only [kz, k4, k59, k60] at H3
  have V2 := q9pV (T := T) (N := N) (P := P) (J := J) (t0 := t0) (Sc := Sc) (op := 1200) (n := 0) (q9evS ae2) (q9evZ w0) (hV _ (List.mem_of_getElem? (i := 2) rfl)) (by decide)
  rw [q9FF_1200] at V2
  have K2 := Option.some.inj V2
  try simp only [kz, k4, k59, k60] at K2
  have L5 : x3.toInt ≤ (Int32.ofInt 59).toInt + 0 := q9pC (q9evS ae3) (q9evC w0 59) (hL _ (List.mem_of_getElem? (i := 5) rfl))
  obtain ⟨c, hv, hc, h8, h9, -⟩ := K0
  have hd : x4.toInt + 1 = c.2.2.length := q9th_at_of hv hc H0
  have hz : x3.toInt = c.2.1 := q9th_at_of hv hc H1
  have hb : q9spI T N c.1 = x1.toInt := by rw [hc]; exact H2
  obtain ⟨q, st, hst⟩ : ∃ q st, c.2.2 = q :: st := by
    cases hh : c.2.2 with
    | nil => exfalso; rw [hh, List.length_nil] at hd; omega
    | cons q st => exact ⟨q, st, rfl⟩
  have hl2 : c.2.2.length = st.length + 1 := by rw [hst, List.length_cons]
  have hk : q9kbI T N (q9spI T N c.1) = 0 := by rw [hb]; exact K1
  have hl : q9lkI T N c = 0 := by rw [q9lk_of h8 (by omega), hk]
  have he : q9weI T N x1.toInt = x2.toInt := H3
  have hr1 : (q9rcI T N P J c).1 = 0 := by unfold q9rcI q9rsI; rw [hl, hb, he]; exact K2
  have hok : q9okL T N P J c := ⟨by omega, by omega, by omega, fun h => by omega, hr1⟩
  have hen : q9enE T N P J x3.toInt (x3.toInt + 1) := .inl ⟨c, hv, hok, hz.symm, by omega, rfl⟩
  have rg0 : (1 : Int) ≤ (x3.toInt + 1) ∧ ((x3.toInt + 1) : Int) ≤ 60 := by omega
  obtain ⟨x5, nt5⟩ : ∃ x : Int32, x.toInt = (x3.toInt + 1) := ⟨Int32.ofInt ((x3.toInt + 1)), q9oI_toInt (by omega)⟩
  have u_ : q9upN w 6 [.int x5] 0 = .int 0 := q9upN_of (by decide) w0
  have u0 : q9upN w 6 [.int x5] 1 = .int x0 := q9upN_of (by decide) ae0
  have u1 : q9upN w 6 [.int x5] 2 = .int x1 := q9upN_of (by decide) ae1
  have u2 : q9upN w 6 [.int x5] 3 = .int x2 := q9upN_of (by decide) ae2
  have u3 : q9upN w 6 [.int x5] 4 = .int x3 := q9upN_of (by decide) ae3
  have u4 : q9upN w 6 [.int x5] 5 = .int x4 := q9upN_of (by decide) ae4
  have u5 : q9upN w 6 [.int x5] 6 = .int x5 := q9upN_at (by decide)
  refine ⟨[.int x5], fun i9 p9 hq9 => ?_, fun _ h => absurd h List.not_mem_nil, List.forall_mem_cons.mpr ⟨?_, List.forall_mem_cons.mpr ⟨?_, fun _ h => absurd h List.not_mem_nil⟩⟩⟩
  · match i9, hq9 with
    | 0, hq9 =>
      have hp9 : ((1052, (4, 0), (0, 0), (0, 1, 60)) : Nat × q9AV × q9AV × q9ET) = p9 := Option.some.inj hq9
      subst hp9
      exact ⟨⟨x5, rfl, by rw [nt5]; exact rg0.1, by rw [nt5]; exact rg0.2⟩, (q9th_tX (T := T) (N := N) (P := P) (J := J) (t0 := t0) (Sc := Sc) (q9evS u3) (q9evZ u_) (q9evS u5) (by rw [q9FF_1052, nt5]; exact (by rw [← q9FF_1052 (t0 := t0) (Sc := Sc) (b := (0 : Int32).toInt)]; exact q9F_en hN.1 hen)) (by decide)).trans (congrArg some (q9evS u5))⟩
    | k9 + 1, hq9 => exact nomatch (show (none : Option (Nat × q9AV × q9AV × q9ET)) = some p9 from hq9)
  · exact q9th_tC (d := 1) (q9evS u5) (q9evS u3) (by omega)
  · exact q9th_tC (d := (-1)) (q9evS u3) (q9evS u5) (by omega)
theorem q9ru_ne1 (hT : ∀ i, 0 ≤ T i ∧ T i ≤ 255) (hN : 0 ≤ N ∧ N ≤ 400) (hSc : 0 ≤ Sc 1 ∧ Sc 1 ≤ 400 → N = Sc 1) : q9ruOK (fO T N P J t0 Sc) q9R_ne1 := by
  intro w w0 hA hX hL hV hR
  obtain ⟨x0, ae0, -, -⟩ := hA 0 0 rfl
  obtain ⟨x1, ae1, -, -⟩ := hA 1 0 rfl
  obtain ⟨x2, ae2, -, -⟩ := hA 2 0 rfl
  obtain ⟨x3, ae3, -, -⟩ := hA 3 0 rfl
  obtain ⟨x4, ae4, -, -⟩ := hA 4 0 rfl
  have kz : (0 : Int32).toInt = 0 := rfl
  have k4 : (Int32.ofInt 4).toInt = 4 := q9oI_toInt (by decide)
  have k59 : (Int32.ofInt 59).toInt = 59 := q9oI_toInt (by decide)
  have k60 : (Int32.ofInt 60).toInt = 60 := q9oI_toInt (by decide)
  have V0 := q9pV (T := T) (N := N) (P := P) (J := J) (t0 := t0) (Sc := Sc) (op := 1027) (n := 1) (q9evS ae0) (q9evZ w0) (hV _ (List.mem_of_getElem? (i := 0) rfl)) (by decide)
  rw [q9FF_1027] at V0
  have K0 := q9chV_of V0
  try simp only [kz, k4, k59, k60] at K0
  have X0 := q9th_pX (T := T) (N := N) (P := P) (J := J) (t0 := t0) (Sc := Sc) (op := 1021) (q9evS ae0) (q9evZ w0) (q9evS ae4) (hX _ (List.mem_of_getElem? (i := 0) rfl)) (by decide)
  rw [q9FF_1021] at X0
  have H0 := q9chV_of X0
  try simp only [kz, k4, k59, k60] at H0
  have X1 := q9th_pX (T := T) (N := N) (P := P) (J := J) (t0 := t0) (Sc := Sc) (op := 1022) (q9evS ae0) (q9evZ w0) (q9evS ae3) (hX _ (List.mem_of_getElem? (i := 1) rfl)) (by decide)
  rw [q9FF_1022] at X1
  have H1 := q9chV_of X1
  try simp only [kz, k4, k59, k60] at H1
  have L0 : (0 : Int32).toInt ≤ x0.toInt + 0 := q9pC (q9evZ w0) (q9evS ae0) (hL _ (List.mem_of_getElem? (i := 0) rfl))
  have L1 : (0 : Int32).toInt ≤ x3.toInt + 0 := q9pC (q9evZ w0) (q9evS ae3) (hL _ (List.mem_of_getElem? (i := 1) rfl))
  have L2 : x3.toInt ≤ (Int32.ofInt 60).toInt + 0 := q9pC (q9evS ae3) (q9evC w0 60) (hL _ (List.mem_of_getElem? (i := 2) rfl))
  have L3 : (0 : Int32).toInt ≤ x4.toInt + 0 := q9pC (q9evZ w0) (q9evS ae4) (hL _ (List.mem_of_getElem? (i := 3) rfl))
  have L4 : x4.toInt ≤ (Int32.ofInt 4).toInt + 0 := q9pC (q9evS ae4) (q9evC w0 4) (hL _ (List.mem_of_getElem? (i := 4) rfl))
  have X2 := q9th_pX (T := T) (N := N) (P := P) (J := J) (t0 := t0) (Sc := Sc) (op := 1002) (q9evS ae0) (q9evZ w0) (q9evS ae1) (hX _ (List.mem_of_getElem? (i := 2) rfl)) (by decide)
  rw [q9FF_1002] at X2
  have H2 := Option.some.inj X2
  try simp only [kz, k4, k59, k60] at H2
  have V1 := q9pV (T := T) (N := N) (P := P) (J := J) (t0 := t0) (Sc := Sc) (op := 1013) (n := 1) (q9evS ae1) (q9evZ w0) (hV _ (List.mem_of_getElem? (i := 1) rfl)) (by decide)
  rw [q9FF_1013] at V1
  have K1 := Option.some.inj V1
  try simp only [kz, k4, k59, k60] at K1
  have X3 := q9th_pX (T := T) (N := N) (P := P) (J := J) (t0 := t0) (Sc := Sc) (op := 1003) (q9evS ae1) (q9evZ w0) (q9evS ae2) (hX _ (List.mem_of_getElem? (i := 3) rfl)) (by decide)
  rw [q9FF_1003] at X3
  have H3 := Option.some.inj X3
  try simp only [kz, k4, k59, k60] at H3
  have V2 := q9pV (T := T) (N := N) (P := P) (J := J) (t0 := t0) (Sc := Sc) (op := 1266) (n := 0) (q9evS ae2) (q9evZ w0) (hV _ (List.mem_of_getElem? (i := 2) rfl)) (by decide)
  rw [q9FF_1266] at V2
  have K2 := Option.some.inj V2
  try simp only [kz, k4, k59, k60] at K2
  have L5 : x3.toInt ≤ (Int32.ofInt 59).toInt + 0 := q9pC (q9evS ae3) (q9evC w0 59) (hL _ (List.mem_of_getElem? (i := 5) rfl))
  obtain ⟨c, hv, hc, h8, h9, -⟩ := K0
  have hd : x4.toInt + 1 = c.2.2.length := q9th_at_of hv hc H0
  have hz : x3.toInt = c.2.1 := q9th_at_of hv hc H1
  have hb : q9spI T N c.1 = x1.toInt := by rw [hc]; exact H2
  obtain ⟨q, st, hst⟩ : ∃ q st, c.2.2 = q :: st := by
    cases hh : c.2.2 with
    | nil => exfalso; rw [hh, List.length_nil] at hd; omega
    | cons q st => exact ⟨q, st, rfl⟩
  have hl2 : c.2.2.length = st.length + 1 := by rw [hst, List.length_cons]
  have hk : q9kbI T N (q9spI T N c.1) = 1 := by rw [hb]; exact K1
  have hl : q9lkI T N c = 1 := by rw [q9lk_of h8 (by omega), hk]
  have he : q9weI T N x1.toInt = x2.toInt := H3
  have hr1 : (q9rcI T N P J c).1 = 0 := by unfold q9rcI q9rsI; rw [hl, hb, he]; exact K2
  have hok : q9okL T N P J c := ⟨by omega, by omega, by omega, fun h => by omega, hr1⟩
  have hen : q9enE T N P J x3.toInt (x3.toInt + 1) := .inl ⟨c, hv, hok, hz.symm, by omega, rfl⟩
  have rg0 : (1 : Int) ≤ (x3.toInt + 1) ∧ ((x3.toInt + 1) : Int) ≤ 60 := by omega
  obtain ⟨x5, nt5⟩ : ∃ x : Int32, x.toInt = (x3.toInt + 1) := ⟨Int32.ofInt ((x3.toInt + 1)), q9oI_toInt (by omega)⟩
  have u_ : q9upN w 6 [.int x5] 0 = .int 0 := q9upN_of (by decide) w0
  have u0 : q9upN w 6 [.int x5] 1 = .int x0 := q9upN_of (by decide) ae0
  have u1 : q9upN w 6 [.int x5] 2 = .int x1 := q9upN_of (by decide) ae1
  have u2 : q9upN w 6 [.int x5] 3 = .int x2 := q9upN_of (by decide) ae2
  have u3 : q9upN w 6 [.int x5] 4 = .int x3 := q9upN_of (by decide) ae3
  have u4 : q9upN w 6 [.int x5] 5 = .int x4 := q9upN_of (by decide) ae4
  have u5 : q9upN w 6 [.int x5] 6 = .int x5 := q9upN_at (by decide)
  refine ⟨[.int x5], fun i9 p9 hq9 => ?_, fun _ h => absurd h List.not_mem_nil, List.forall_mem_cons.mpr ⟨?_, List.forall_mem_cons.mpr ⟨?_, fun _ h => absurd h List.not_mem_nil⟩⟩⟩
  · match i9, hq9 with
    | 0, hq9 =>
      have hp9 : ((1052, (4, 0), (0, 0), (0, 1, 60)) : Nat × q9AV × q9AV × q9ET) = p9 := Option.some.inj hq9
      subst hp9
      exact ⟨⟨x5, rfl, by rw [nt5]; exact rg0.1, by rw [nt5]; exact rg0.2⟩, (q9th_tX (T := T) (N := N) (P := P) (J := J) (t0 := t0) (Sc := Sc) (q9evS u3) (q9evZ u_) (q9evS u5) (by rw [q9FF_1052, nt5]; exact (by rw [← q9FF_1052 (t0 := t0) (Sc := Sc) (b := (0 : Int32).toInt)]; exact q9F_en hN.1 hen)) (by decide)).trans (congrArg some (q9evS u5))⟩
    | k9 + 1, hq9 => exact nomatch (show (none : Option (Nat × q9AV × q9AV × q9ET)) = some p9 from hq9)
  · exact q9th_tC (d := 1) (q9evS u5) (q9evS u3) (by omega)
  · exact q9th_tC (d := (-1)) (q9evS u3) (q9evS u5) (by omega)
theorem q9ru_ne2 (hT : ∀ i, 0 ≤ T i ∧ T i ≤ 255) (hN : 0 ≤ N ∧ N ≤ 400) (hSc : 0 ≤ Sc 1 ∧ Sc 1 ≤ 400 → N = Sc 1) : q9ruOK (fO T N P J t0 Sc) q9R_ne2 := by
  intro w w0 hA hX hL hV hR
  obtain ⟨x0, ae0, -, -⟩ := hA 0 0 rfl
  obtain ⟨x1, ae1, -, -⟩ := hA 1 0 rfl
  obtain ⟨x2, ae2, -, -⟩ := hA 2 0 rfl
  obtain ⟨x3, ae3, -, -⟩ := hA 3 0 rfl
  obtain ⟨x4, ae4, -, -⟩ := hA 4 0 rfl
  have kz : (0 : Int32).toInt = 0 := rfl
  have k4 : (Int32.ofInt 4).toInt = 4 := q9oI_toInt (by decide)
  have k59 : (Int32.ofInt 59).toInt = 59 := q9oI_toInt (by decide)
  have k60 : (Int32.ofInt 60).toInt = 60 := q9oI_toInt (by decide)
  have V0 := q9pV (T := T) (N := N) (P := P) (J := J) (t0 := t0) (Sc := Sc) (op := 1027) (n := 1) (q9evS ae0) (q9evZ w0) (hV _ (List.mem_of_getElem? (i := 0) rfl)) (by decide)
  rw [q9FF_1027] at V0
  have K0 := q9chV_of V0
  try simp only [kz, k4, k59, k60] at K0
  have X0 := q9th_pX (T := T) (N := N) (P := P) (J := J) (t0 := t0) (Sc := Sc) (op := 1021) (q9evS ae0) (q9evZ w0) (q9evS ae4) (hX _ (List.mem_of_getElem? (i := 0) rfl)) (by decide)
  rw [q9FF_1021] at X0
  have H0 := q9chV_of X0
  try simp only [kz, k4, k59, k60] at H0
  have X1 := q9th_pX (T := T) (N := N) (P := P) (J := J) (t0 := t0) (Sc := Sc) (op := 1022) (q9evS ae0) (q9evZ w0) (q9evS ae3) (hX _ (List.mem_of_getElem? (i := 1) rfl)) (by decide)
  rw [q9FF_1022] at X1
  have H1 := q9chV_of X1
  try simp only [kz, k4, k59, k60] at H1
  have L0 : (0 : Int32).toInt ≤ x0.toInt + 0 := q9pC (q9evZ w0) (q9evS ae0) (hL _ (List.mem_of_getElem? (i := 0) rfl))
  have L1 : (0 : Int32).toInt ≤ x3.toInt + 0 := q9pC (q9evZ w0) (q9evS ae3) (hL _ (List.mem_of_getElem? (i := 1) rfl))
  have L2 : x3.toInt ≤ (Int32.ofInt 60).toInt + 0 := q9pC (q9evS ae3) (q9evC w0 60) (hL _ (List.mem_of_getElem? (i := 2) rfl))
  have L3 : (0 : Int32).toInt ≤ x4.toInt + 0 := q9pC (q9evZ w0) (q9evS ae4) (hL _ (List.mem_of_getElem? (i := 3) rfl))
  have L4 : x4.toInt ≤ (Int32.ofInt 4).toInt + 0 := q9pC (q9evS ae4) (q9evC w0 4) (hL _ (List.mem_of_getElem? (i := 4) rfl))
  have X2 := q9th_pX (T := T) (N := N) (P := P) (J := J) (t0 := t0) (Sc := Sc) (op := 1002) (q9evS ae0) (q9evZ w0) (q9evS ae1) (hX _ (List.mem_of_getElem? (i := 2) rfl)) (by decide)
  rw [q9FF_1002] at X2
  have H2 := Option.some.inj X2
  try simp only [kz, k4, k59, k60] at H2
  have V1 := q9pV (T := T) (N := N) (P := P) (J := J) (t0 := t0) (Sc := Sc) (op := 1013) (n := 2) (q9evS ae1) (q9evZ w0) (hV _ (List.mem_of_getElem? (i := 1) rfl)) (by decide)
  rw [q9FF_1013] at V1
  have K1 := Option.some.inj V1
  try simp only [kz, k4, k59, k60] at K1
  have X3 := q9th_pX (T := T) (N := N) (P := P) (J := J) (t0 := t0) (Sc := Sc) (op := 1003) (q9evS ae1) (q9evZ w0) (q9evS ae2) (hX _ (List.mem_of_getElem? (i := 3) rfl)) (by decide)
  rw [q9FF_1003] at X3
  have H3 := Option.some.inj X3
  try simp only [kz, k4, k59, k60] at H3
  have V2 := q9pV (T := T) (N := N) (P := P) (J := J) (t0 := t0) (Sc := Sc) (op := 1262) (n := 0) (q9evS ae2) (q9evZ w0) (hV _ (List.mem_of_getElem? (i := 2) rfl)) (by decide)
  rw [q9FF_1262] at V2
  have K2 := Option.some.inj V2
  try simp only [kz, k4, k59, k60] at K2
  have L5 : x3.toInt ≤ (Int32.ofInt 59).toInt + 0 := q9pC (q9evS ae3) (q9evC w0 59) (hL _ (List.mem_of_getElem? (i := 5) rfl))
  obtain ⟨c, hv, hc, h8, h9, -⟩ := K0
  have hd : x4.toInt + 1 = c.2.2.length := q9th_at_of hv hc H0
  have hz : x3.toInt = c.2.1 := q9th_at_of hv hc H1
  have hb : q9spI T N c.1 = x1.toInt := by rw [hc]; exact H2
  obtain ⟨q, st, hst⟩ : ∃ q st, c.2.2 = q :: st := by
    cases hh : c.2.2 with
    | nil => exfalso; rw [hh, List.length_nil] at hd; omega
    | cons q st => exact ⟨q, st, rfl⟩
  have hl2 : c.2.2.length = st.length + 1 := by rw [hst, List.length_cons]
  have hk : q9kbI T N (q9spI T N c.1) = 2 := by rw [hb]; exact K1
  have hl : q9lkI T N c = 2 := by rw [q9lk_of h8 (by omega), hk]
  have he : q9weI T N x1.toInt = x2.toInt := H3
  have hr1 : (q9rcI T N P J c).1 = 0 := by unfold q9rcI q9rsI; rw [hl, hb, he]; exact K2
  have hok : q9okL T N P J c := ⟨by omega, by omega, by omega, fun h => by omega, hr1⟩
  have hen : q9enE T N P J x3.toInt (x3.toInt + 1) := .inl ⟨c, hv, hok, hz.symm, by omega, rfl⟩
  have rg0 : (1 : Int) ≤ (x3.toInt + 1) ∧ ((x3.toInt + 1) : Int) ≤ 60 := by omega
  obtain ⟨x5, nt5⟩ : ∃ x : Int32, x.toInt = (x3.toInt + 1) := ⟨Int32.ofInt ((x3.toInt + 1)), q9oI_toInt (by omega)⟩
  have u_ : q9upN w 6 [.int x5] 0 = .int 0 := q9upN_of (by decide) w0
  have u0 : q9upN w 6 [.int x5] 1 = .int x0 := q9upN_of (by decide) ae0
  have u1 : q9upN w 6 [.int x5] 2 = .int x1 := q9upN_of (by decide) ae1
  have u2 : q9upN w 6 [.int x5] 3 = .int x2 := q9upN_of (by decide) ae2
  have u3 : q9upN w 6 [.int x5] 4 = .int x3 := q9upN_of (by decide) ae3
  have u4 : q9upN w 6 [.int x5] 5 = .int x4 := q9upN_of (by decide) ae4
  have u5 : q9upN w 6 [.int x5] 6 = .int x5 := q9upN_at (by decide)
  refine ⟨[.int x5], fun i9 p9 hq9 => ?_, fun _ h => absurd h List.not_mem_nil, List.forall_mem_cons.mpr ⟨?_, List.forall_mem_cons.mpr ⟨?_, fun _ h => absurd h List.not_mem_nil⟩⟩⟩
  · match i9, hq9 with
    | 0, hq9 =>
      have hp9 : ((1052, (4, 0), (0, 0), (0, 1, 60)) : Nat × q9AV × q9AV × q9ET) = p9 := Option.some.inj hq9
      subst hp9
      exact ⟨⟨x5, rfl, by rw [nt5]; exact rg0.1, by rw [nt5]; exact rg0.2⟩, (q9th_tX (T := T) (N := N) (P := P) (J := J) (t0 := t0) (Sc := Sc) (q9evS u3) (q9evZ u_) (q9evS u5) (by rw [q9FF_1052, nt5]; exact (by rw [← q9FF_1052 (t0 := t0) (Sc := Sc) (b := (0 : Int32).toInt)]; exact q9F_en hN.1 hen)) (by decide)).trans (congrArg some (q9evS u5))⟩
    | k9 + 1, hq9 => exact nomatch (show (none : Option (Nat × q9AV × q9AV × q9ET)) = some p9 from hq9)
  · exact q9th_tC (d := 1) (q9evS u5) (q9evS u3) (by omega)
  · exact q9th_tC (d := (-1)) (q9evS u3) (q9evS u5) (by omega)
theorem q9ru_ne3 (hT : ∀ i, 0 ≤ T i ∧ T i ≤ 255) (hN : 0 ≤ N ∧ N ≤ 400) (hSc : 0 ≤ Sc 1 ∧ Sc 1 ≤ 400 → N = Sc 1) : q9ruOK (fO T N P J t0 Sc) q9R_ne3 := by
  intro w w0 hA hX hL hV hR
  obtain ⟨x0, ae0, -, -⟩ := hA 0 0 rfl
  obtain ⟨x1, ae1, -, -⟩ := hA 1 0 rfl
  obtain ⟨x2, ae2, -, -⟩ := hA 2 0 rfl
  obtain ⟨x3, ae3, -, -⟩ := hA 3 0 rfl
  obtain ⟨x4, ae4, -, -⟩ := hA 4 0 rfl
  have kz : (0 : Int32).toInt = 0 := rfl
  have k4 : (Int32.ofInt 4).toInt = 4 := q9oI_toInt (by decide)
  have k59 : (Int32.ofInt 59).toInt = 59 := q9oI_toInt (by decide)
  have k60 : (Int32.ofInt 60).toInt = 60 := q9oI_toInt (by decide)
  have V0 := q9pV (T := T) (N := N) (P := P) (J := J) (t0 := t0) (Sc := Sc) (op := 1027) (n := 1) (q9evS ae0) (q9evZ w0) (hV _ (List.mem_of_getElem? (i := 0) rfl)) (by decide)
  rw [q9FF_1027] at V0
  have K0 := q9chV_of V0
  try simp only [kz, k4, k59, k60] at K0
  have X0 := q9th_pX (T := T) (N := N) (P := P) (J := J) (t0 := t0) (Sc := Sc) (op := 1021) (q9evS ae0) (q9evZ w0) (q9evS ae4) (hX _ (List.mem_of_getElem? (i := 0) rfl)) (by decide)
  rw [q9FF_1021] at X0
  have H0 := q9chV_of X0
  try simp only [kz, k4, k59, k60] at H0
  have X1 := q9th_pX (T := T) (N := N) (P := P) (J := J) (t0 := t0) (Sc := Sc) (op := 1022) (q9evS ae0) (q9evZ w0) (q9evS ae3) (hX _ (List.mem_of_getElem? (i := 1) rfl)) (by decide)
  rw [q9FF_1022] at X1
  have H1 := q9chV_of X1
  try simp only [kz, k4, k59, k60] at H1
  have L0 : (0 : Int32).toInt ≤ x0.toInt + 0 := q9pC (q9evZ w0) (q9evS ae0) (hL _ (List.mem_of_getElem? (i := 0) rfl))
  have L1 : (0 : Int32).toInt ≤ x3.toInt + 0 := q9pC (q9evZ w0) (q9evS ae3) (hL _ (List.mem_of_getElem? (i := 1) rfl))
  have L2 : x3.toInt ≤ (Int32.ofInt 60).toInt + 0 := q9pC (q9evS ae3) (q9evC w0 60) (hL _ (List.mem_of_getElem? (i := 2) rfl))
  have L3 : (0 : Int32).toInt ≤ x4.toInt + 0 := q9pC (q9evZ w0) (q9evS ae4) (hL _ (List.mem_of_getElem? (i := 3) rfl))
  have L4 : x4.toInt ≤ (Int32.ofInt 4).toInt + 0 := q9pC (q9evS ae4) (q9evC w0 4) (hL _ (List.mem_of_getElem? (i := 4) rfl))
  have X2 := q9th_pX (T := T) (N := N) (P := P) (J := J) (t0 := t0) (Sc := Sc) (op := 1002) (q9evS ae0) (q9evZ w0) (q9evS ae1) (hX _ (List.mem_of_getElem? (i := 2) rfl)) (by decide)
  rw [q9FF_1002] at X2
  have H2 := Option.some.inj X2
  try simp only [kz, k4, k59, k60] at H2
  have V1 := q9pV (T := T) (N := N) (P := P) (J := J) (t0 := t0) (Sc := Sc) (op := 1013) (n := 3) (q9evS ae1) (q9evZ w0) (hV _ (List.mem_of_getElem? (i := 1) rfl)) (by decide)
  rw [q9FF_1013] at V1
  have K1 := Option.some.inj V1
  try simp only [kz, k4, k59, k60] at K1
  have X3 := q9th_pX (T := T) (N := N) (P := P) (J := J) (t0 := t0) (Sc := Sc) (op := 1003) (q9evS ae1) (q9evZ w0) (q9evS ae2) (hX _ (List.mem_of_getElem? (i := 3) rfl)) (by decide)
  rw [q9FF_1003] at X3
  have H3 := Option.some.inj X3
  try simp only [kz, k4, k59, k60] at H3
  have V2 := q9pV (T := T) (N := N) (P := P) (J := J) (t0 := t0) (Sc := Sc) (op := 1212) (n := 0) (q9evS ae2) (q9evZ w0) (hV _ (List.mem_of_getElem? (i := 2) rfl)) (by decide)
  rw [q9FF_1212] at V2
  have K2 := Option.some.inj V2
  try simp only [kz, k4, k59, k60] at K2
  have L5 : x3.toInt ≤ (Int32.ofInt 59).toInt + 0 := q9pC (q9evS ae3) (q9evC w0 59) (hL _ (List.mem_of_getElem? (i := 5) rfl))
  obtain ⟨c, hv, hc, h8, h9, -⟩ := K0
  have hd : x4.toInt + 1 = c.2.2.length := q9th_at_of hv hc H0
  have hz : x3.toInt = c.2.1 := q9th_at_of hv hc H1
  have hb : q9spI T N c.1 = x1.toInt := by rw [hc]; exact H2
  obtain ⟨q, st, hst⟩ : ∃ q st, c.2.2 = q :: st := by
    cases hh : c.2.2 with
    | nil => exfalso; rw [hh, List.length_nil] at hd; omega
    | cons q st => exact ⟨q, st, rfl⟩
  have hl2 : c.2.2.length = st.length + 1 := by rw [hst, List.length_cons]
  have hk : q9kbI T N (q9spI T N c.1) = 3 := by rw [hb]; exact K1
  have hl : q9lkI T N c = 3 := by rw [q9lk_of h8 (by omega), hk]
  have he : q9weI T N x1.toInt = x2.toInt := H3
  have hr1 : (q9rcI T N P J c).1 = 0 := by unfold q9rcI q9rsI; rw [hl, hb, he]; exact K2
  have hok : q9okL T N P J c := ⟨by omega, by omega, by omega, fun h => by omega, hr1⟩
  have hen : q9enE T N P J x3.toInt (x3.toInt + 1) := .inl ⟨c, hv, hok, hz.symm, by omega, rfl⟩
  have rg0 : (1 : Int) ≤ (x3.toInt + 1) ∧ ((x3.toInt + 1) : Int) ≤ 60 := by omega
  obtain ⟨x5, nt5⟩ : ∃ x : Int32, x.toInt = (x3.toInt + 1) := ⟨Int32.ofInt ((x3.toInt + 1)), q9oI_toInt (by omega)⟩
  have u_ : q9upN w 6 [.int x5] 0 = .int 0 := q9upN_of (by decide) w0
  have u0 : q9upN w 6 [.int x5] 1 = .int x0 := q9upN_of (by decide) ae0
  have u1 : q9upN w 6 [.int x5] 2 = .int x1 := q9upN_of (by decide) ae1
  have u2 : q9upN w 6 [.int x5] 3 = .int x2 := q9upN_of (by decide) ae2
  have u3 : q9upN w 6 [.int x5] 4 = .int x3 := q9upN_of (by decide) ae3
  have u4 : q9upN w 6 [.int x5] 5 = .int x4 := q9upN_of (by decide) ae4
  have u5 : q9upN w 6 [.int x5] 6 = .int x5 := q9upN_at (by decide)
  refine ⟨[.int x5], fun i9 p9 hq9 => ?_, fun _ h => absurd h List.not_mem_nil, List.forall_mem_cons.mpr ⟨?_, List.forall_mem_cons.mpr ⟨?_, fun _ h => absurd h List.not_mem_nil⟩⟩⟩
  · match i9, hq9 with
    | 0, hq9 =>
      have hp9 : ((1052, (4, 0), (0, 0), (0, 1, 60)) : Nat × q9AV × q9AV × q9ET) = p9 := Option.some.inj hq9
      subst hp9
      exact ⟨⟨x5, rfl, by rw [nt5]; exact rg0.1, by rw [nt5]; exact rg0.2⟩, (q9th_tX (T := T) (N := N) (P := P) (J := J) (t0 := t0) (Sc := Sc) (q9evS u3) (q9evZ u_) (q9evS u5) (by rw [q9FF_1052, nt5]; exact (by rw [← q9FF_1052 (t0 := t0) (Sc := Sc) (b := (0 : Int32).toInt)]; exact q9F_en hN.1 hen)) (by decide)).trans (congrArg some (q9evS u5))⟩
    | k9 + 1, hq9 => exact nomatch (show (none : Option (Nat × q9AV × q9AV × q9ET)) = some p9 from hq9)
  · exact q9th_tC (d := 1) (q9evS u5) (q9evS u3) (by omega)
  · exact q9th_tC (d := (-1)) (q9evS u3) (q9evS u5) (by omega)
theorem q9ru_ne4 (hT : ∀ i, 0 ≤ T i ∧ T i ≤ 255) (hN : 0 ≤ N ∧ N ≤ 400) (hSc : 0 ≤ Sc 1 ∧ Sc 1 ≤ 400 → N = Sc 1) : q9ruOK (fO T N P J t0 Sc) q9R_ne4 := by
  intro w w0 hA hX hL hV hR
  obtain ⟨x0, ae0, -, -⟩ := hA 0 0 rfl
  obtain ⟨x1, ae1, -, -⟩ := hA 1 0 rfl
  obtain ⟨x2, ae2, -, -⟩ := hA 2 0 rfl
  obtain ⟨x3, ae3, -, -⟩ := hA 3 0 rfl
  obtain ⟨x4, ae4, -, -⟩ := hA 4 0 rfl
  have kz : (0 : Int32).toInt = 0 := rfl
  have k4 : (Int32.ofInt 4).toInt = 4 := q9oI_toInt (by decide)
  have k59 : (Int32.ofInt 59).toInt = 59 := q9oI_toInt (by decide)
  have k60 : (Int32.ofInt 60).toInt = 60 := q9oI_toInt (by decide)
  have V0 := q9pV (T := T) (N := N) (P := P) (J := J) (t0 := t0) (Sc := Sc) (op := 1027) (n := 1) (q9evS ae0) (q9evZ w0) (hV _ (List.mem_of_getElem? (i := 0) rfl)) (by decide)
  rw [q9FF_1027] at V0
  have K0 := q9chV_of V0
  try simp only [kz, k4, k59, k60] at K0
  have X0 := q9th_pX (T := T) (N := N) (P := P) (J := J) (t0 := t0) (Sc := Sc) (op := 1021) (q9evS ae0) (q9evZ w0) (q9evS ae4) (hX _ (List.mem_of_getElem? (i := 0) rfl)) (by decide)
  rw [q9FF_1021] at X0
  have H0 := q9chV_of X0
  try simp only [kz, k4, k59, k60] at H0
  have X1 := q9th_pX (T := T) (N := N) (P := P) (J := J) (t0 := t0) (Sc := Sc) (op := 1022) (q9evS ae0) (q9evZ w0) (q9evS ae3) (hX _ (List.mem_of_getElem? (i := 1) rfl)) (by decide)
  rw [q9FF_1022] at X1
  have H1 := q9chV_of X1
  try simp only [kz, k4, k59, k60] at H1
  have L0 : (0 : Int32).toInt ≤ x0.toInt + 0 := q9pC (q9evZ w0) (q9evS ae0) (hL _ (List.mem_of_getElem? (i := 0) rfl))
  have L1 : (0 : Int32).toInt ≤ x3.toInt + 0 := q9pC (q9evZ w0) (q9evS ae3) (hL _ (List.mem_of_getElem? (i := 1) rfl))
  have L2 : x3.toInt ≤ (Int32.ofInt 60).toInt + 0 := q9pC (q9evS ae3) (q9evC w0 60) (hL _ (List.mem_of_getElem? (i := 2) rfl))
  have L3 : (0 : Int32).toInt ≤ x4.toInt + 0 := q9pC (q9evZ w0) (q9evS ae4) (hL _ (List.mem_of_getElem? (i := 3) rfl))
  have L4 : x4.toInt ≤ (Int32.ofInt 4).toInt + 0 := q9pC (q9evS ae4) (q9evC w0 4) (hL _ (List.mem_of_getElem? (i := 4) rfl))
  have X2 := q9th_pX (T := T) (N := N) (P := P) (J := J) (t0 := t0) (Sc := Sc) (op := 1002) (q9evS ae0) (q9evZ w0) (q9evS ae1) (hX _ (List.mem_of_getElem? (i := 2) rfl)) (by decide)
  rw [q9FF_1002] at X2
  have H2 := Option.some.inj X2
  try simp only [kz, k4, k59, k60] at H2
  have V1 := q9pV (T := T) (N := N) (P := P) (J := J) (t0 := t0) (Sc := Sc) (op := 1013) (n := 4) (q9evS ae1) (q9evZ w0) (hV _ (List.mem_of_getElem? (i := 1) rfl)) (by decide)
  rw [q9FF_1013] at V1
  have K1 := Option.some.inj V1
  try simp only [kz, k4, k59, k60] at K1
  have X3 := q9th_pX (T := T) (N := N) (P := P) (J := J) (t0 := t0) (Sc := Sc) (op := 1003) (q9evS ae1) (q9evZ w0) (q9evS ae2) (hX _ (List.mem_of_getElem? (i := 3) rfl)) (by decide)
  rw [q9FF_1003] at X3
  have H3 := Option.some.inj X3
  try simp only [kz, k4, k59, k60] at H3
  have V2 := q9pV (T := T) (N := N) (P := P) (J := J) (t0 := t0) (Sc := Sc) (op := 1212) (n := 0) (q9evS ae2) (q9evZ w0) (hV _ (List.mem_of_getElem? (i := 2) rfl)) (by decide)
  rw [q9FF_1212] at V2
  have K2 := Option.some.inj V2
  try simp only [kz, k4, k59, k60] at K2
  have L5 : x3.toInt ≤ (Int32.ofInt 59).toInt + 0 := q9pC (q9evS ae3) (q9evC w0 59) (hL _ (List.mem_of_getElem? (i := 5) rfl))
  obtain ⟨c, hv, hc, h8, h9, -⟩ := K0
  have hd : x4.toInt + 1 = c.2.2.length := q9th_at_of hv hc H0
  have hz : x3.toInt = c.2.1 := q9th_at_of hv hc H1
  have hb : q9spI T N c.1 = x1.toInt := by rw [hc]; exact H2
  obtain ⟨q, st, hst⟩ : ∃ q st, c.2.2 = q :: st := by
    cases hh : c.2.2 with
    | nil => exfalso; rw [hh, List.length_nil] at hd; omega
    | cons q st => exact ⟨q, st, rfl⟩
  have hl2 : c.2.2.length = st.length + 1 := by rw [hst, List.length_cons]
  have hk : q9kbI T N (q9spI T N c.1) = 4 := by rw [hb]; exact K1
  have hl : q9lkI T N c = 4 := by rw [q9lk_of h8 (by omega), hk]
  have he : q9weI T N x1.toInt = x2.toInt := H3
  have hr1 : (q9rcI T N P J c).1 = 0 := by unfold q9rcI q9rsI; rw [hl, hb, he]; exact K2
  have hok : q9okL T N P J c := ⟨by omega, by omega, by omega, fun h => by omega, hr1⟩
  have hen : q9enE T N P J x3.toInt (x3.toInt + 1) := .inl ⟨c, hv, hok, hz.symm, by omega, rfl⟩
  have rg0 : (1 : Int) ≤ (x3.toInt + 1) ∧ ((x3.toInt + 1) : Int) ≤ 60 := by omega
  obtain ⟨x5, nt5⟩ : ∃ x : Int32, x.toInt = (x3.toInt + 1) := ⟨Int32.ofInt ((x3.toInt + 1)), q9oI_toInt (by omega)⟩
  have u_ : q9upN w 6 [.int x5] 0 = .int 0 := q9upN_of (by decide) w0
  have u0 : q9upN w 6 [.int x5] 1 = .int x0 := q9upN_of (by decide) ae0
  have u1 : q9upN w 6 [.int x5] 2 = .int x1 := q9upN_of (by decide) ae1
  have u2 : q9upN w 6 [.int x5] 3 = .int x2 := q9upN_of (by decide) ae2
  have u3 : q9upN w 6 [.int x5] 4 = .int x3 := q9upN_of (by decide) ae3
  have u4 : q9upN w 6 [.int x5] 5 = .int x4 := q9upN_of (by decide) ae4
  have u5 : q9upN w 6 [.int x5] 6 = .int x5 := q9upN_at (by decide)
  refine ⟨[.int x5], fun i9 p9 hq9 => ?_, fun _ h => absurd h List.not_mem_nil, List.forall_mem_cons.mpr ⟨?_, List.forall_mem_cons.mpr ⟨?_, fun _ h => absurd h List.not_mem_nil⟩⟩⟩
  · match i9, hq9 with
    | 0, hq9 =>
      have hp9 : ((1052, (4, 0), (0, 0), (0, 1, 60)) : Nat × q9AV × q9AV × q9ET) = p9 := Option.some.inj hq9
      subst hp9
      exact ⟨⟨x5, rfl, by rw [nt5]; exact rg0.1, by rw [nt5]; exact rg0.2⟩, (q9th_tX (T := T) (N := N) (P := P) (J := J) (t0 := t0) (Sc := Sc) (q9evS u3) (q9evZ u_) (q9evS u5) (by rw [q9FF_1052, nt5]; exact (by rw [← q9FF_1052 (t0 := t0) (Sc := Sc) (b := (0 : Int32).toInt)]; exact q9F_en hN.1 hen)) (by decide)).trans (congrArg some (q9evS u5))⟩
    | k9 + 1, hq9 => exact nomatch (show (none : Option (Nat × q9AV × q9AV × q9ET)) = some p9 from hq9)
  · exact q9th_tC (d := 1) (q9evS u5) (q9evS u3) (by omega)
  · exact q9th_tC (d := (-1)) (q9evS u3) (q9evS u5) (by omega)
theorem q9ru_ne5 (hT : ∀ i, 0 ≤ T i ∧ T i ≤ 255) (hN : 0 ≤ N ∧ N ≤ 400) (hSc : 0 ≤ Sc 1 ∧ Sc 1 ≤ 400 → N = Sc 1) : q9ruOK (fO T N P J t0 Sc) q9R_ne5 := by
  intro w w0 hA hX hL hV hR
  obtain ⟨x0, ae0, -, -⟩ := hA 0 0 rfl
  obtain ⟨x1, ae1, -, -⟩ := hA 1 0 rfl
  obtain ⟨x2, ae2, -, -⟩ := hA 2 0 rfl
  obtain ⟨x3, ae3, -, -⟩ := hA 3 0 rfl
  obtain ⟨x4, ae4, -, -⟩ := hA 4 0 rfl
  have kz : (0 : Int32).toInt = 0 := rfl
  have k4 : (Int32.ofInt 4).toInt = 4 := q9oI_toInt (by decide)
  have k59 : (Int32.ofInt 59).toInt = 59 := q9oI_toInt (by decide)
  have k60 : (Int32.ofInt 60).toInt = 60 := q9oI_toInt (by decide)
  have V0 := q9pV (T := T) (N := N) (P := P) (J := J) (t0 := t0) (Sc := Sc) (op := 1027) (n := 1) (q9evS ae0) (q9evZ w0) (hV _ (List.mem_of_getElem? (i := 0) rfl)) (by decide)
  rw [q9FF_1027] at V0
  have K0 := q9chV_of V0
  try simp only [kz, k4, k59, k60] at K0
  have X0 := q9th_pX (T := T) (N := N) (P := P) (J := J) (t0 := t0) (Sc := Sc) (op := 1021) (q9evS ae0) (q9evZ w0) (q9evS ae4) (hX _ (List.mem_of_getElem? (i := 0) rfl)) (by decide)
  rw [q9FF_1021] at X0
  have H0 := q9chV_of X0
  try simp only [kz, k4, k59, k60] at H0
  have X1 := q9th_pX (T := T) (N := N) (P := P) (J := J) (t0 := t0) (Sc := Sc) (op := 1022) (q9evS ae0) (q9evZ w0) (q9evS ae3) (hX _ (List.mem_of_getElem? (i := 1) rfl)) (by decide)
  rw [q9FF_1022] at X1
  have H1 := q9chV_of X1
  try simp only [kz, k4, k59, k60] at H1
  have L0 : (0 : Int32).toInt ≤ x0.toInt + 0 := q9pC (q9evZ w0) (q9evS ae0) (hL _ (List.mem_of_getElem? (i := 0) rfl))
  have L1 : (0 : Int32).toInt ≤ x3.toInt + 0 := q9pC (q9evZ w0) (q9evS ae3) (hL _ (List.mem_of_getElem? (i := 1) rfl))
  have L2 : x3.toInt ≤ (Int32.ofInt 60).toInt + 0 := q9pC (q9evS ae3) (q9evC w0 60) (hL _ (List.mem_of_getElem? (i := 2) rfl))
  have L3 : (0 : Int32).toInt ≤ x4.toInt + 0 := q9pC (q9evZ w0) (q9evS ae4) (hL _ (List.mem_of_getElem? (i := 3) rfl))
  have L4 : x4.toInt ≤ (Int32.ofInt 4).toInt + 0 := q9pC (q9evS ae4) (q9evC w0 4) (hL _ (List.mem_of_getElem? (i := 4) rfl))
  have X2 := q9th_pX (T := T) (N := N) (P := P) (J := J) (t0 := t0) (Sc := Sc) (op := 1002) (q9evS ae0) (q9evZ w0) (q9evS ae1) (hX _ (List.mem_of_getElem? (i := 2) rfl)) (by decide)
  rw [q9FF_1002] at X2
  have H2 := Option.some.inj X2
  try simp only [kz, k4, k59, k60] at H2
  have V1 := q9pV (T := T) (N := N) (P := P) (J := J) (t0 := t0) (Sc := Sc) (op := 1013) (n := 5) (q9evS ae1) (q9evZ w0) (hV _ (List.mem_of_getElem? (i := 1) rfl)) (by decide)
  rw [q9FF_1013] at V1
  have K1 := Option.some.inj V1
  try simp only [kz, k4, k59, k60] at K1
  have X3 := q9th_pX (T := T) (N := N) (P := P) (J := J) (t0 := t0) (Sc := Sc) (op := 1003) (q9evS ae1) (q9evZ w0) (q9evS ae2) (hX _ (List.mem_of_getElem? (i := 3) rfl)) (by decide)
  rw [q9FF_1003] at X3
  have H3 := Option.some.inj X3
  try simp only [kz, k4, k59, k60] at H3
  have V2 := q9pV (T := T) (N := N) (P := P) (J := J) (t0 := t0) (Sc := Sc) (op := 1260) (n := 0) (q9evS ae2) (q9evZ w0) (hV _ (List.mem_of_getElem? (i := 2) rfl)) (by decide)
  rw [q9FF_1260] at V2
  have K2 := Option.some.inj V2
  try simp only [kz, k4, k59, k60] at K2
  have L5 : x3.toInt ≤ (Int32.ofInt 59).toInt + 0 := q9pC (q9evS ae3) (q9evC w0 59) (hL _ (List.mem_of_getElem? (i := 5) rfl))
  obtain ⟨c, hv, hc, h8, h9, -⟩ := K0
  have hd : x4.toInt + 1 = c.2.2.length := q9th_at_of hv hc H0
  have hz : x3.toInt = c.2.1 := q9th_at_of hv hc H1
  have hb : q9spI T N c.1 = x1.toInt := by rw [hc]; exact H2
  obtain ⟨q, st, hst⟩ : ∃ q st, c.2.2 = q :: st := by
    cases hh : c.2.2 with
    | nil => exfalso; rw [hh, List.length_nil] at hd; omega
    | cons q st => exact ⟨q, st, rfl⟩
  have hl2 : c.2.2.length = st.length + 1 := by rw [hst, List.length_cons]
  have hk : q9kbI T N (q9spI T N c.1) = 5 := by rw [hb]; exact K1
  have hl : q9lkI T N c = 5 := by rw [q9lk_of h8 (by omega), hk]
  have he : q9weI T N x1.toInt = x2.toInt := H3
  have hr1 : (q9rcI T N P J c).1 = 0 := by unfold q9rcI q9rsI; rw [hl, hb, he]; exact K2
  have hok : q9okL T N P J c := ⟨by omega, by omega, by omega, fun h => by omega, hr1⟩
  have hen : q9enE T N P J x3.toInt (x3.toInt + 1) := .inl ⟨c, hv, hok, hz.symm, by omega, rfl⟩
  have rg0 : (1 : Int) ≤ (x3.toInt + 1) ∧ ((x3.toInt + 1) : Int) ≤ 60 := by omega
  obtain ⟨x5, nt5⟩ : ∃ x : Int32, x.toInt = (x3.toInt + 1) := ⟨Int32.ofInt ((x3.toInt + 1)), q9oI_toInt (by omega)⟩
  have u_ : q9upN w 6 [.int x5] 0 = .int 0 := q9upN_of (by decide) w0
  have u0 : q9upN w 6 [.int x5] 1 = .int x0 := q9upN_of (by decide) ae0
  have u1 : q9upN w 6 [.int x5] 2 = .int x1 := q9upN_of (by decide) ae1
  have u2 : q9upN w 6 [.int x5] 3 = .int x2 := q9upN_of (by decide) ae2
  have u3 : q9upN w 6 [.int x5] 4 = .int x3 := q9upN_of (by decide) ae3
  have u4 : q9upN w 6 [.int x5] 5 = .int x4 := q9upN_of (by decide) ae4
  have u5 : q9upN w 6 [.int x5] 6 = .int x5 := q9upN_at (by decide)
  refine ⟨[.int x5], fun i9 p9 hq9 => ?_, fun _ h => absurd h List.not_mem_nil, List.forall_mem_cons.mpr ⟨?_, List.forall_mem_cons.mpr ⟨?_, fun _ h => absurd h List.not_mem_nil⟩⟩⟩
  · match i9, hq9 with
    | 0, hq9 =>
      have hp9 : ((1052, (4, 0), (0, 0), (0, 1, 60)) : Nat × q9AV × q9AV × q9ET) = p9 := Option.some.inj hq9
      subst hp9
      exact ⟨⟨x5, rfl, by rw [nt5]; exact rg0.1, by rw [nt5]; exact rg0.2⟩, (q9th_tX (T := T) (N := N) (P := P) (J := J) (t0 := t0) (Sc := Sc) (q9evS u3) (q9evZ u_) (q9evS u5) (by rw [q9FF_1052, nt5]; exact (by rw [← q9FF_1052 (t0 := t0) (Sc := Sc) (b := (0 : Int32).toInt)]; exact q9F_en hN.1 hen)) (by decide)).trans (congrArg some (q9evS u5))⟩
    | k9 + 1, hq9 => exact nomatch (show (none : Option (Nat × q9AV × q9AV × q9ET)) = some p9 from hq9)
  · exact q9th_tC (d := 1) (q9evS u5) (q9evS u3) (by omega)
  · exact q9th_tC (d := (-1)) (q9evS u3) (q9evS u5) (by omega)
theorem q9ru_ne6 (hT : ∀ i, 0 ≤ T i ∧ T i ≤ 255) (hN : 0 ≤ N ∧ N ≤ 400) (hSc : 0 ≤ Sc 1 ∧ Sc 1 ≤ 400 → N = Sc 1) : q9ruOK (fO T N P J t0 Sc) q9R_ne6 := by
  intro w w0 hA hX hL hV hR
  obtain ⟨x0, ae0, -, -⟩ := hA 0 0 rfl
  obtain ⟨x1, ae1, -, -⟩ := hA 1 0 rfl
  obtain ⟨x2, ae2, -, -⟩ := hA 2 0 rfl
  obtain ⟨x3, ae3, -, -⟩ := hA 3 0 rfl
  obtain ⟨x4, ae4, -, -⟩ := hA 4 0 rfl
  have kz : (0 : Int32).toInt = 0 := rfl
  have k4 : (Int32.ofInt 4).toInt = 4 := q9oI_toInt (by decide)
  have k59 : (Int32.ofInt 59).toInt = 59 := q9oI_toInt (by decide)
  have k60 : (Int32.ofInt 60).toInt = 60 := q9oI_toInt (by decide)
  have V0 := q9pV (T := T) (N := N) (P := P) (J := J) (t0 := t0) (Sc := Sc) (op := 1027) (n := 1) (q9evS ae0) (q9evZ w0) (hV _ (List.mem_of_getElem? (i := 0) rfl)) (by decide)
  rw [q9FF_1027] at V0
  have K0 := q9chV_of V0
  try simp only [kz, k4, k59, k60] at K0
  have X0 := q9th_pX (T := T) (N := N) (P := P) (J := J) (t0 := t0) (Sc := Sc) (op := 1021) (q9evS ae0) (q9evZ w0) (q9evS ae4) (hX _ (List.mem_of_getElem? (i := 0) rfl)) (by decide)
  rw [q9FF_1021] at X0
  have H0 := q9chV_of X0
  try simp only [kz, k4, k59, k60] at H0
  have X1 := q9th_pX (T := T) (N := N) (P := P) (J := J) (t0 := t0) (Sc := Sc) (op := 1022) (q9evS ae0) (q9evZ w0) (q9evS ae3) (hX _ (List.mem_of_getElem? (i := 1) rfl)) (by decide)
  rw [q9FF_1022] at X1
  have H1 := q9chV_of X1
  try simp only [kz, k4, k59, k60] at H1
  have L0 : (0 : Int32).toInt ≤ x0.toInt + 0 := q9pC (q9evZ w0) (q9evS ae0) (hL _ (List.mem_of_getElem? (i := 0) rfl))
  have L1 : (0 : Int32).toInt ≤ x3.toInt + 0 := q9pC (q9evZ w0) (q9evS ae3) (hL _ (List.mem_of_getElem? (i := 1) rfl))
  have L2 : x3.toInt ≤ (Int32.ofInt 60).toInt + 0 := q9pC (q9evS ae3) (q9evC w0 60) (hL _ (List.mem_of_getElem? (i := 2) rfl))
  have L3 : (0 : Int32).toInt ≤ x4.toInt + 0 := q9pC (q9evZ w0) (q9evS ae4) (hL _ (List.mem_of_getElem? (i := 3) rfl))
  have L4 : x4.toInt ≤ (Int32.ofInt 4).toInt + 0 := q9pC (q9evS ae4) (q9evC w0 4) (hL _ (List.mem_of_getElem? (i := 4) rfl))
  have X2 := q9th_pX (T := T) (N := N) (P := P) (J := J) (t0 := t0) (Sc := Sc) (op := 1002) (q9evS ae0) (q9evZ w0) (q9evS ae1) (hX _ (List.mem_of_getElem? (i := 2) rfl)) (by decide)
  rw [q9FF_1002] at X2
  have H2 := Option.some.inj X2
  try simp only [kz, k4, k59, k60] at H2
  have V1 := q9pV (T := T) (N := N) (P := P) (J := J) (t0 := t0) (Sc := Sc) (op := 1013) (n := 6) (q9evS ae1) (q9evZ w0) (hV _ (List.mem_of_getElem? (i := 1) rfl)) (by decide)
  rw [q9FF_1013] at V1
  have K1 := Option.some.inj V1
  try simp only [kz, k4, k59, k60] at K1
  have X3 := q9th_pX (T := T) (N := N) (P := P) (J := J) (t0 := t0) (Sc := Sc) (op := 1003) (q9evS ae1) (q9evZ w0) (q9evS ae2) (hX _ (List.mem_of_getElem? (i := 3) rfl)) (by decide)
  rw [q9FF_1003] at X3
  have H3 := Option.some.inj X3
  try simp only [kz, k4, k59, k60] at H3
  have V2 := q9pV (T := T) (N := N) (P := P) (J := J) (t0 := t0) (Sc := Sc) (op := 1264) (n := 0) (q9evS ae2) (q9evZ w0) (hV _ (List.mem_of_getElem? (i := 2) rfl)) (by decide)
  rw [q9FF_1264] at V2
  have K2 := Option.some.inj V2
  try simp only [kz, k4, k59, k60] at K2
  have L5 : x3.toInt ≤ (Int32.ofInt 59).toInt + 0 := q9pC (q9evS ae3) (q9evC w0 59) (hL _ (List.mem_of_getElem? (i := 5) rfl))
  obtain ⟨c, hv, hc, h8, h9, -⟩ := K0
  have hd : x4.toInt + 1 = c.2.2.length := q9th_at_of hv hc H0
  have hz : x3.toInt = c.2.1 := q9th_at_of hv hc H1
  have hb : q9spI T N c.1 = x1.toInt := by rw [hc]; exact H2
  obtain ⟨q, st, hst⟩ : ∃ q st, c.2.2 = q :: st := by
    cases hh : c.2.2 with
    | nil => exfalso; rw [hh, List.length_nil] at hd; omega
    | cons q st => exact ⟨q, st, rfl⟩
  have hl2 : c.2.2.length = st.length + 1 := by rw [hst, List.length_cons]
  have hk : q9kbI T N (q9spI T N c.1) = 6 := by rw [hb]; exact K1
  have hl : q9lkI T N c = 6 := by rw [q9lk_of h8 (by omega), hk]
  have he : q9weI T N x1.toInt = x2.toInt := H3
  have hr1 : (q9rcI T N P J c).1 = 0 := by unfold q9rcI q9rsI; rw [hl, hb, he]; exact K2
  have hok : q9okL T N P J c := ⟨by omega, by omega, by omega, fun h => by omega, hr1⟩
  have hen : q9enE T N P J x3.toInt (x3.toInt + 1) := .inl ⟨c, hv, hok, hz.symm, by omega, rfl⟩
  have rg0 : (1 : Int) ≤ (x3.toInt + 1) ∧ ((x3.toInt + 1) : Int) ≤ 60 := by omega
  obtain ⟨x5, nt5⟩ : ∃ x : Int32, x.toInt = (x3.toInt + 1) := ⟨Int32.ofInt ((x3.toInt + 1)), q9oI_toInt (by omega)⟩
  have u_ : q9upN w 6 [.int x5] 0 = .int 0 := q9upN_of (by decide) w0
  have u0 : q9upN w 6 [.int x5] 1 = .int x0 := q9upN_of (by decide) ae0
  have u1 : q9upN w 6 [.int x5] 2 = .int x1 := q9upN_of (by decide) ae1
  have u2 : q9upN w 6 [.int x5] 3 = .int x2 := q9upN_of (by decide) ae2
  have u3 : q9upN w 6 [.int x5] 4 = .int x3 := q9upN_of (by decide) ae3
  have u4 : q9upN w 6 [.int x5] 5 = .int x4 := q9upN_of (by decide) ae4
  have u5 : q9upN w 6 [.int x5] 6 = .int x5 := q9upN_at (by decide)
  refine ⟨[.int x5], fun i9 p9 hq9 => ?_, fun _ h => absurd h List.not_mem_nil, List.forall_mem_cons.mpr ⟨?_, List.forall_mem_cons.mpr ⟨?_, fun _ h => absurd h List.not_mem_nil⟩⟩⟩
  · match i9, hq9 with
    | 0, hq9 =>
      have hp9 : ((1052, (4, 0), (0, 0), (0, 1, 60)) : Nat × q9AV × q9AV × q9ET) = p9 := Option.some.inj hq9
      subst hp9
      exact ⟨⟨x5, rfl, by rw [nt5]; exact rg0.1, by rw [nt5]; exact rg0.2⟩, (q9th_tX (T := T) (N := N) (P := P) (J := J) (t0 := t0) (Sc := Sc) (q9evS u3) (q9evZ u_) (q9evS u5) (by rw [q9FF_1052, nt5]; exact (by rw [← q9FF_1052 (t0 := t0) (Sc := Sc) (b := (0 : Int32).toInt)]; exact q9F_en hN.1 hen)) (by decide)).trans (congrArg some (q9evS u5))⟩
    | k9 + 1, hq9 => exact nomatch (show (none : Option (Nat × q9AV × q9AV × q9ET)) = some p9 from hq9)
  · exact q9th_tC (d := 1) (q9evS u5) (q9evS u3) (by omega)
  · exact q9th_tC (d := (-1)) (q9evS u3) (q9evS u5) (by omega)
theorem q9ru_cce (hT : ∀ i, 0 ≤ T i ∧ T i ≤ 255) (hN : 0 ≤ N ∧ N ≤ 400) (hSc : 0 ≤ Sc 1 ∧ Sc 1 ≤ 400 → N = Sc 1) : q9ruOK (fO T N P J t0 Sc) q9R_cce := by
  intro w w0 hA hX hL hV hR
  obtain ⟨x0, ae0, -, -⟩ := hA 0 0 rfl
  obtain ⟨x1, ae1, -, -⟩ := hA 1 0 rfl
  obtain ⟨x2, ae2, -, -⟩ := hA 2 0 rfl
  obtain ⟨x3, ae3, -, -⟩ := hA 3 0 rfl
  obtain ⟨x4, ae4, -, -⟩ := hA 4 0 rfl
  obtain ⟨x5, ae5, -, -⟩ := hA 5 0 rfl
  have kz : (0 : Int32).toInt = 0 := rfl
  have k1 : (Int32.ofInt 1).toInt = 1 := q9oI_toInt (by decide)
  have k4 : (Int32.ofInt 4).toInt = 4 := q9oI_toInt (by decide)
  have k60 : (Int32.ofInt 60).toInt = 60 := q9oI_toInt (by decide)
  have k93 : (Int32.ofInt 93).toInt = 93 := q9oI_toInt (by decide)
  have V0 := q9pV (T := T) (N := N) (P := P) (J := J) (t0 := t0) (Sc := Sc) (op := 1020) (n := 1) (q9evS ae0) (q9evZ w0) (hV _ (List.mem_of_getElem? (i := 0) rfl)) (by decide)
  rw [q9FF_1020] at V0
  have K0 := q9chV_of V0
  try simp only [kz, k1, k4, k60, k93] at K0
  have X0 := q9th_pX (T := T) (N := N) (P := P) (J := J) (t0 := t0) (Sc := Sc) (op := 1021) (q9evS ae0) (q9evZ w0) (q9evS ae4) (hX _ (List.mem_of_getElem? (i := 0) rfl)) (by decide)
  rw [q9FF_1021] at X0
  have H0 := q9chV_of X0
  try simp only [kz, k1, k4, k60, k93] at H0
  have X1 := q9th_pX (T := T) (N := N) (P := P) (J := J) (t0 := t0) (Sc := Sc) (op := 1022) (q9evS ae0) (q9evZ w0) (q9evS ae3) (hX _ (List.mem_of_getElem? (i := 1) rfl)) (by decide)
  rw [q9FF_1022] at X1
  have H1 := q9chV_of X1
  try simp only [kz, k1, k4, k60, k93] at H1
  have L0 : (0 : Int32).toInt ≤ x0.toInt + 0 := q9pC (q9evZ w0) (q9evS ae0) (hL _ (List.mem_of_getElem? (i := 0) rfl))
  have L1 : (0 : Int32).toInt ≤ x3.toInt + 0 := q9pC (q9evZ w0) (q9evS ae3) (hL _ (List.mem_of_getElem? (i := 1) rfl))
  have L2 : x3.toInt ≤ (Int32.ofInt 60).toInt + 0 := q9pC (q9evS ae3) (q9evC w0 60) (hL _ (List.mem_of_getElem? (i := 2) rfl))
  have L3 : (0 : Int32).toInt ≤ x4.toInt + 0 := q9pC (q9evZ w0) (q9evS ae4) (hL _ (List.mem_of_getElem? (i := 3) rfl))
  have L4 : x4.toInt ≤ (Int32.ofInt 4).toInt + 0 := q9pC (q9evS ae4) (q9evC w0 4) (hL _ (List.mem_of_getElem? (i := 4) rfl))
  have L5 : (Int32.ofInt 1).toInt ≤ x4.toInt + 0 := q9pC (q9evC w0 1) (q9evS ae4) (hL _ (List.mem_of_getElem? (i := 5) rfl))
  have X2 := q9th_pX (T := T) (N := N) (P := P) (J := J) (t0 := t0) (Sc := Sc) (op := 1002) (q9evS ae0) (q9evZ w0) (q9evS ae1) (hX _ (List.mem_of_getElem? (i := 2) rfl)) (by decide)
  rw [q9FF_1002] at X2
  have H2 := Option.some.inj X2
  try simp only [kz, k1, k4, k60, k93] at H2
  have V1 := q9pV (T := T) (N := N) (P := P) (J := J) (t0 := t0) (Sc := Sc) (op := 1009) (n := 1) (q9evS ae1) (q9evC w0 93) (hV _ (List.mem_of_getElem? (i := 1) rfl)) (by decide)
  rw [q9FF_1009] at V1
  have K1 := Option.some.inj V1
  try simp only [kz, k1, k4, k60, k93] at K1
  have L6 : x2.toInt ≤ x1.toInt + 1 := q9pC (q9evS ae2) (q9evS ae1) (hL _ (List.mem_of_getElem? (i := 6) rfl))
  have L7 : x1.toInt ≤ x2.toInt + (-1) := q9pC (q9evS ae1) (q9evS ae2) (hL _ (List.mem_of_getElem? (i := 7) rfl))
  have X3 := q9th_pX (T := T) (N := N) (P := P) (J := J) (t0 := t0) (Sc := Sc) (op := 1023) (q9evS ae0) (q9evS ae4) (q9evS ae5) (hX _ (List.mem_of_getElem? (i := 3) rfl)) (by decide)
  rw [q9FF_1023] at X3
  have H3 := q9chV_of X3
  try simp only [kz, k1, k4, k60, k93] at H3
  obtain ⟨c, hv, hc, -⟩ := K0
  have hd : x4.toInt + 1 = c.2.2.length := q9th_at_of hv hc H0
  have hz : x3.toInt = c.2.1 := q9th_at_of hv hc H1
  have hb : q9spI T N c.1 = x1.toInt := by rw [hc]; exact H2
  obtain ⟨q, st, hst⟩ : ∃ q st, c.2.2 = q :: st := by
    cases hh : c.2.2 with
    | nil => exfalso; rw [hh, List.length_nil] at hd; omega
    | cons q st => exact ⟨q, st, rfl⟩
  have hl2 : c.2.2.length = st.length + 1 := by rw [hst, List.length_cons]
  have hb93 : q9byI T N (q9spI T N c.1) = 93 := by rw [hb]; exact q9is_1 K1 (by omega)
  have h8 : q9lkI T N c = 8 := q9lk_8 (by omega) hb93
  obtain ⟨q', st', hq'⟩ : ∃ q' st', st = q' :: st' := by
    cases hh : st with
    | nil => exfalso; rw [hh, List.length_nil] at hl2; omega
    | cons q st => exact ⟨q, st, rfl⟩
  subst hq'
  have hl3 : c.2.2.length = st'.length + 2 := by rw [hl2, List.length_cons]
  have hop : 1 ≤ x4.toInt ∧ ∃ e, q9enI c x4.toInt = some e ∧ x5.toInt = e.1 := q9th_at_of hv hc H3
  obtain ⟨-, q0, o1, o2⟩ := hop
  rw [q9en_top hst hd] at o1
  cases o1
  have u_ : q9upN w 7 [] 0 = .int 0 := q9upN_of (by decide) w0
  have u0 : q9upN w 7 [] 1 = .int x0 := q9upN_of (by decide) ae0
  have u1 : q9upN w 7 [] 2 = .int x1 := q9upN_of (by decide) ae1
  have u2 : q9upN w 7 [] 3 = .int x2 := q9upN_of (by decide) ae2
  have u3 : q9upN w 7 [] 4 = .int x3 := q9upN_of (by decide) ae3
  have u4 : q9upN w 7 [] 5 = .int x4 := q9upN_of (by decide) ae4
  have u5 : q9upN w 7 [] 6 = .int x5 := q9upN_of (by decide) ae5
  refine ⟨[], fun i9 p9 hq9 => ?_, List.forall_mem_cons.mpr ⟨?_, fun _ h => absurd h List.not_mem_nil⟩, fun _ h => absurd h List.not_mem_nil⟩
  · exact nomatch (show (none : Option (Nat × q9AV × q9AV × q9ET)) = some p9 from hq9)
  · exact q9th_tX (T := T) (N := N) (P := P) (J := J) (t0 := t0) (Sc := Sc) (q9evS u5) (q9evZ u_) (q9evS u3) (by rw [q9FF_1052]; exact (by rw [← q9FF_1052 (t0 := t0) (Sc := Sc) (b := (0 : Int32).toInt)]; exact q9F_en hN.1 (.inr ⟨c, q, q' :: st', hv, h8, hst, o2.symm, hz⟩))) (by decide)
theorem q9ru_pl0 (hT : ∀ i, 0 ≤ T i ∧ T i ≤ 255) (hN : 0 ≤ N ∧ N ≤ 400) (hSc : 0 ≤ Sc 1 ∧ Sc 1 ≤ 400 → N = Sc 1) : q9ruOK (fO T N P J t0 Sc) q9R_pl0 := by
  intro w w0 hA hX hL hV hR
  obtain ⟨x0, ae0, -, -⟩ := hA 0 0 rfl
  have kz : (0 : Int32).toInt = 0 := rfl
  have k1 : (Int32.ofInt 1).toInt = 1 := q9oI_toInt (by decide)
  have V0 := q9pV (T := T) (N := N) (P := P) (J := J) (t0 := t0) (Sc := Sc) (op := 1045) (n := 0) (q9evZ w0) (q9evZ w0) (hV _ (List.mem_of_getElem? (i := 0) rfl)) (by decide)
  rw [q9FF_1045] at V0
  have K0 := Option.some.inj V0
  try simp only [kz, k1] at K0
  have X0 := q9th_pX (T := T) (N := N) (P := P) (J := J) (t0 := t0) (Sc := Sc) (op := 1042) (q9evZ w0) (q9evZ w0) (q9evS ae0) (hX _ (List.mem_of_getElem? (i := 0) rfl)) (by decide)
  rw [q9FF_1042] at X0
  have H0 := q9chV_of X0
  try simp only [kz, k1] at H0
  obtain ⟨hf, hz⟩ := q9fin0_fn K0 H0
  have hq : qP T N P J (0 : Int32).toInt = some (q9rootP (kdP T N P J) (mnP T N P J) (enP T N P J) (szP T N P J)) := by rw [kz]; exact q9q_root hN.1 hf
  have hl := q9fn_len hN.1 hf
  have hb := q9root_b hN.1 hf
  have rg0 : (0 : Int) ≤ 0 ∧ (0 : Int) ≤ 0 := by omega
  obtain ⟨x1, nt1⟩ : ∃ x : Int32, x.toInt = 0 := ⟨Int32.ofInt (0), q9oI_toInt (by omega)⟩
  have rg1 : (0 : Int) ≤ 0 ∧ (0 : Int) ≤ 0 := by omega
  obtain ⟨x2, nt2⟩ : ∃ x : Int32, x.toInt = 0 := ⟨Int32.ofInt (0), q9oI_toInt (by omega)⟩
  have rg2 : (0 : Int) ≤ 0 ∧ (0 : Int) ≤ 0 := by omega
  obtain ⟨x3, nt3⟩ : ∃ x : Int32, x.toInt = 0 := ⟨Int32.ofInt (0), q9oI_toInt (by omega)⟩
  have rg3 : (1 : Int) ≤ (bQ T N P J 0 (szP T N P J)) ∧ ((bQ T N P J 0 (szP T N P J)) : Int) ≤ 4000 := by omega
  obtain ⟨x4, nt4⟩ : ∃ x : Int32, x.toInt = (bQ T N P J 0 (szP T N P J)) := ⟨Int32.ofInt ((bQ T N P J 0 (szP T N P J))), q9oI_toInt (by omega)⟩
  have rg4 : (0 : Int) ≤ 0 ∧ (0 : Int) ≤ 0 := by omega
  obtain ⟨x5, nt5⟩ : ∃ x : Int32, x.toInt = 0 := ⟨Int32.ofInt (0), q9oI_toInt (by omega)⟩
  have u_ : q9upN w 2 [.int x1, .int x2, .int x3, .int x4, .int x5] 0 = .int 0 := q9upN_of (by decide) w0
  have u0 : q9upN w 2 [.int x1, .int x2, .int x3, .int x4, .int x5] 1 = .int x0 := q9upN_of (by decide) ae0
  have u1 : q9upN w 2 [.int x1, .int x2, .int x3, .int x4, .int x5] 2 = .int x1 := q9upN_at (by decide)
  have u2 : q9upN w 2 [.int x1, .int x2, .int x3, .int x4, .int x5] 3 = .int x2 := q9upN_at (by decide)
  have u3 : q9upN w 2 [.int x1, .int x2, .int x3, .int x4, .int x5] 4 = .int x3 := q9upN_at (by decide)
  have u4 : q9upN w 2 [.int x1, .int x2, .int x3, .int x4, .int x5] 5 = .int x4 := q9upN_at (by decide)
  have u5 : q9upN w 2 [.int x1, .int x2, .int x3, .int x4, .int x5] 6 = .int x5 := q9upN_at (by decide)
  refine ⟨[.int x1, .int x2, .int x3, .int x4, .int x5], fun i9 p9 hq9 => ?_, List.forall_mem_cons.mpr ⟨?_, fun _ h => absurd h List.not_mem_nil⟩, List.forall_mem_cons.mpr ⟨?_, fun _ h => absurd h List.not_mem_nil⟩⟩
  · match i9, hq9 with
    | 0, hq9 =>
      have hp9 : ((1400, (0, 0), (0, 0), (0, 0, 0)) : Nat × q9AV × q9AV × q9ET) = p9 := Option.some.inj hq9
      subst hp9
      exact ⟨⟨x1, rfl, by rw [nt1]; exact rg0.1, by rw [nt1]; exact rg0.2⟩, (q9th_tX (T := T) (N := N) (P := P) (J := J) (t0 := t0) (Sc := Sc) (q9evZ u_) (q9evZ u_) (q9evS u1) (by rw [q9FF_1400, nt1]; exact (q9q_t hq rfl)) (by decide)).trans (congrArg some (q9evS u1))⟩
    | 1, hq9 =>
      have hp9 : ((1402, (0, 0), (0, 0), (0, 0, 0)) : Nat × q9AV × q9AV × q9ET) = p9 := Option.some.inj hq9
      subst hp9
      exact ⟨⟨x2, rfl, by rw [nt2]; exact rg1.1, by rw [nt2]; exact rg1.2⟩, (q9th_tX (T := T) (N := N) (P := P) (J := J) (t0 := t0) (Sc := Sc) (q9evZ u_) (q9evZ u_) (q9evS u2) (by rw [q9FF_1402, nt2]; exact (q9q_t hq (by show (0 : Int32).toInt - 0 = 0; rfl))) (by decide)).trans (congrArg some (q9evS u2))⟩
    | 2, hq9 =>
      have hp9 : ((1406, (0, 0), (0, 0), (0, 0, 0)) : Nat × q9AV × q9AV × q9ET) = p9 := Option.some.inj hq9
      subst hp9
      exact ⟨⟨x3, rfl, by rw [nt3]; exact rg2.1, by rw [nt3]; exact rg2.2⟩, (q9th_tX (T := T) (N := N) (P := P) (J := J) (t0 := t0) (Sc := Sc) (q9evZ u_) (q9evZ u_) (q9evS u3) (by rw [q9FF_1406, nt3]; exact (by rw [kz]; exact congrArg some q9cn_0)) (by decide)).trans (congrArg some (q9evS u3))⟩
    | 3, hq9 =>
      have hp9 : ((1404, (0, 0), (0, 0), (0, 1, 4000)) : Nat × q9AV × q9AV × q9ET) = p9 := Option.some.inj hq9
      subst hp9
      exact ⟨⟨x4, rfl, by rw [nt4]; exact rg3.1, by rw [nt4]; exact rg3.2⟩, (q9th_tX (T := T) (N := N) (P := P) (J := J) (t0 := t0) (Sc := Sc) (q9evZ u_) (q9evZ u_) (q9evS u4) (by rw [q9FF_1404, nt4]; exact (q9q_t hq rfl)) (by decide)).trans (congrArg some (q9evS u4))⟩
    | 4, hq9 =>
      have hp9 : ((1409, (0, 0), (0, 0), (0, 0, 0)) : Nat × q9AV × q9AV × q9ET) = p9 := Option.some.inj hq9
      subst hp9
      exact ⟨⟨x5, rfl, by rw [nt5]; exact rg4.1, by rw [nt5]; exact rg4.2⟩, (q9th_tX (T := T) (N := N) (P := P) (J := J) (t0 := t0) (Sc := Sc) (q9evZ u_) (q9evZ u_) (q9evS u5) (by rw [q9FF_1409, nt5]; exact (q9q_t hq rfl)) (by decide)).trans (congrArg some (q9evS u5))⟩
    | k9 + 5, hq9 => exact nomatch (show (none : Option (Nat × q9AV × q9AV × q9ET)) = some p9 from hq9)
  · exact q9th_tX (T := T) (N := N) (P := P) (J := J) (t0 := t0) (Sc := Sc) (q9evZ u_) (q9evZ u_) (q9evS u0) (by rw [q9FF_1401]; exact (q9q_t hq hz)) (by decide)
  · exact q9th_tC (d := 0) (q9evC u_ 1) (q9evS u0) (by omega)
theorem q9ru_ax0_0 (hT : ∀ i, 0 ≤ T i ∧ T i ≤ 255) (hN : 0 ≤ N ∧ N ≤ 400) (hSc : 0 ≤ Sc 1 ∧ Sc 1 ≤ 400 → N = Sc 1) : q9ruOK (fO T N P J t0 Sc) q9R_ax0_0 := by
  intro w w0 hA hX hL hV hR
  have kz : (0 : Int32).toInt = 0 := rfl
  have V0 := q9pV (T := T) (N := N) (P := P) (J := J) (t0 := t0) (Sc := Sc) (op := 1045) (n := 0) (q9evZ w0) (q9evZ w0) (hV _ (List.mem_of_getElem? (i := 0) rfl)) (by decide)
  rw [q9FF_1045] at V0
  have K0 := Option.some.inj V0
  try simp only [kz] at K0
  have rg0 : (0 : Int) ≤ 0 ∧ (0 : Int) ≤ 0 := by omega
  obtain ⟨x0, nt0⟩ : ∃ x : Int32, x.toInt = 0 := ⟨Int32.ofInt (0), q9oI_toInt (by omega)⟩
  have rg1 : (0 : Int) ≤ 0 ∧ (0 : Int) ≤ 0 := by omega
  obtain ⟨x1, nt1⟩ : ∃ x : Int32, x.toInt = 0 := ⟨Int32.ofInt (0), q9oI_toInt (by omega)⟩
  have rg2 : (0 : Int) ≤ 0 ∧ (0 : Int) ≤ 0 := by omega
  obtain ⟨x2, nt2⟩ : ∃ x : Int32, x.toInt = 0 := ⟨Int32.ofInt (0), q9oI_toInt (by omega)⟩
  have u_ : q9upN w 1 [.int x0, .int x1, .int x2] 0 = .int 0 := q9upN_of (by decide) w0
  have u0 : q9upN w 1 [.int x0, .int x1, .int x2] 1 = .int x0 := q9upN_at (by decide)
  have u1 : q9upN w 1 [.int x0, .int x1, .int x2] 2 = .int x1 := q9upN_at (by decide)
  have u2 : q9upN w 1 [.int x0, .int x1, .int x2] 3 = .int x2 := q9upN_at (by decide)
  refine ⟨[.int x0, .int x1, .int x2], fun i9 p9 hq9 => ?_, fun _ h => absurd h List.not_mem_nil, fun _ h => absurd h List.not_mem_nil⟩
  · match i9, hq9 with
    | 0, hq9 =>
      have hp9 : ((1410, (0, 0), (0, 0), (0, 0, 0)) : Nat × q9AV × q9AV × q9ET) = p9 := Option.some.inj hq9
      subst hp9
      exact ⟨⟨x0, rfl, by rw [nt0]; exact rg0.1, by rw [nt0]; exact rg0.2⟩, (q9th_tX (T := T) (N := N) (P := P) (J := J) (t0 := t0) (Sc := Sc) (q9evZ u_) (q9evZ u_) (q9evS u0) (by rw [q9FF_1410, nt0]; exact (by rw [kz, q9axO_0])) (by decide)).trans (congrArg some (q9evS u0))⟩
    | 1, hq9 =>
      have hp9 : ((1413, (0, 0), (0, 0), (0, 0, 0)) : Nat × q9AV × q9AV × q9ET) = p9 := Option.some.inj hq9
      subst hp9
      exact ⟨⟨x1, rfl, by rw [nt1]; exact rg1.1, by rw [nt1]; exact rg1.2⟩, (q9th_tX (T := T) (N := N) (P := P) (J := J) (t0 := t0) (Sc := Sc) (q9evZ u_) (q9evZ u_) (q9evS u1) (by rw [q9FF_1413, nt1]; exact (by rw [kz, q9axO_0])) (by decide)).trans (congrArg some (q9evS u1))⟩
    | 2, hq9 =>
      have hp9 : ((1415, (0, 0), (0, 0), (0, 0, 0)) : Nat × q9AV × q9AV × q9ET) = p9 := Option.some.inj hq9
      subst hp9
      exact ⟨⟨x2, rfl, by rw [nt2]; exact rg2.1, by rw [nt2]; exact rg2.2⟩, (q9th_tX (T := T) (N := N) (P := P) (J := J) (t0 := t0) (Sc := Sc) (q9evZ u_) (q9evZ u_) (q9evS u2) (by rw [q9FF_1415, nt2]; exact (by rw [kz, q9axO_0])) (by decide)).trans (congrArg some (q9evS u2))⟩
    | k9 + 3, hq9 => exact nomatch (show (none : Option (Nat × q9AV × q9AV × q9ET)) = some p9 from hq9)
theorem q9ru_ax0_1 (hT : ∀ i, 0 ≤ T i ∧ T i ≤ 255) (hN : 0 ≤ N ∧ N ≤ 400) (hSc : 0 ≤ Sc 1 ∧ Sc 1 ≤ 400 → N = Sc 1) : q9ruOK (fO T N P J t0 Sc) q9R_ax0_1 := by
  intro w w0 hA hX hL hV hR
  have kz : (0 : Int32).toInt = 0 := rfl
  have k1 : (Int32.ofInt 1).toInt = 1 := q9oI_toInt (by decide)
  have V0 := q9pV (T := T) (N := N) (P := P) (J := J) (t0 := t0) (Sc := Sc) (op := 1045) (n := 0) (q9evZ w0) (q9evZ w0) (hV _ (List.mem_of_getElem? (i := 0) rfl)) (by decide)
  rw [q9FF_1045] at V0
  have K0 := Option.some.inj V0
  try simp only [kz, k1] at K0
  have rg0 : (0 : Int) ≤ 0 ∧ (0 : Int) ≤ 0 := by omega
  obtain ⟨x0, nt0⟩ : ∃ x : Int32, x.toInt = 0 := ⟨Int32.ofInt (0), q9oI_toInt (by omega)⟩
  have rg1 : (0 : Int) ≤ 0 ∧ (0 : Int) ≤ 0 := by omega
  obtain ⟨x1, nt1⟩ : ∃ x : Int32, x.toInt = 0 := ⟨Int32.ofInt (0), q9oI_toInt (by omega)⟩
  have rg2 : (0 : Int) ≤ 0 ∧ (0 : Int) ≤ 0 := by omega
  obtain ⟨x2, nt2⟩ : ∃ x : Int32, x.toInt = 0 := ⟨Int32.ofInt (0), q9oI_toInt (by omega)⟩
  have u_ : q9upN w 1 [.int x0, .int x1, .int x2] 0 = .int 0 := q9upN_of (by decide) w0
  have u0 : q9upN w 1 [.int x0, .int x1, .int x2] 1 = .int x0 := q9upN_at (by decide)
  have u1 : q9upN w 1 [.int x0, .int x1, .int x2] 2 = .int x1 := q9upN_at (by decide)
  have u2 : q9upN w 1 [.int x0, .int x1, .int x2] 3 = .int x2 := q9upN_at (by decide)
  refine ⟨[.int x0, .int x1, .int x2], fun i9 p9 hq9 => ?_, fun _ h => absurd h List.not_mem_nil, fun _ h => absurd h List.not_mem_nil⟩
  · match i9, hq9 with
    | 0, hq9 =>
      have hp9 : ((1410, (0, 0), (0, 1), (0, 0, 0)) : Nat × q9AV × q9AV × q9ET) = p9 := Option.some.inj hq9
      subst hp9
      exact ⟨⟨x0, rfl, by rw [nt0]; exact rg0.1, by rw [nt0]; exact rg0.2⟩, (q9th_tX (T := T) (N := N) (P := P) (J := J) (t0 := t0) (Sc := Sc) (q9evZ u_) (q9evC u_ 1) (q9evS u0) (by rw [q9FF_1410, nt0]; exact (by rw [kz, q9axO_0])) (by decide)).trans (congrArg some (q9evS u0))⟩
    | 1, hq9 =>
      have hp9 : ((1413, (0, 0), (0, 1), (0, 0, 0)) : Nat × q9AV × q9AV × q9ET) = p9 := Option.some.inj hq9
      subst hp9
      exact ⟨⟨x1, rfl, by rw [nt1]; exact rg1.1, by rw [nt1]; exact rg1.2⟩, (q9th_tX (T := T) (N := N) (P := P) (J := J) (t0 := t0) (Sc := Sc) (q9evZ u_) (q9evC u_ 1) (q9evS u1) (by rw [q9FF_1413, nt1]; exact (by rw [kz, q9axO_0])) (by decide)).trans (congrArg some (q9evS u1))⟩
    | 2, hq9 =>
      have hp9 : ((1415, (0, 0), (0, 1), (0, 0, 0)) : Nat × q9AV × q9AV × q9ET) = p9 := Option.some.inj hq9
      subst hp9
      exact ⟨⟨x2, rfl, by rw [nt2]; exact rg2.1, by rw [nt2]; exact rg2.2⟩, (q9th_tX (T := T) (N := N) (P := P) (J := J) (t0 := t0) (Sc := Sc) (q9evZ u_) (q9evC u_ 1) (q9evS u2) (by rw [q9FF_1415, nt2]; exact (by rw [kz, q9axO_0])) (by decide)).trans (congrArg some (q9evS u2))⟩
    | k9 + 3, hq9 => exact nomatch (show (none : Option (Nat × q9AV × q9AV × q9ET)) = some p9 from hq9)
theorem q9ru_ax0_2 (hT : ∀ i, 0 ≤ T i ∧ T i ≤ 255) (hN : 0 ≤ N ∧ N ≤ 400) (hSc : 0 ≤ Sc 1 ∧ Sc 1 ≤ 400 → N = Sc 1) : q9ruOK (fO T N P J t0 Sc) q9R_ax0_2 := by
  intro w w0 hA hX hL hV hR
  have kz : (0 : Int32).toInt = 0 := rfl
  have k2 : (Int32.ofInt 2).toInt = 2 := q9oI_toInt (by decide)
  have V0 := q9pV (T := T) (N := N) (P := P) (J := J) (t0 := t0) (Sc := Sc) (op := 1045) (n := 0) (q9evZ w0) (q9evZ w0) (hV _ (List.mem_of_getElem? (i := 0) rfl)) (by decide)
  rw [q9FF_1045] at V0
  have K0 := Option.some.inj V0
  try simp only [kz, k2] at K0
  have rg0 : (0 : Int) ≤ 0 ∧ (0 : Int) ≤ 0 := by omega
  obtain ⟨x0, nt0⟩ : ∃ x : Int32, x.toInt = 0 := ⟨Int32.ofInt (0), q9oI_toInt (by omega)⟩
  have rg1 : (0 : Int) ≤ 0 ∧ (0 : Int) ≤ 0 := by omega
  obtain ⟨x1, nt1⟩ : ∃ x : Int32, x.toInt = 0 := ⟨Int32.ofInt (0), q9oI_toInt (by omega)⟩
  have rg2 : (0 : Int) ≤ 0 ∧ (0 : Int) ≤ 0 := by omega
  obtain ⟨x2, nt2⟩ : ∃ x : Int32, x.toInt = 0 := ⟨Int32.ofInt (0), q9oI_toInt (by omega)⟩
  have u_ : q9upN w 1 [.int x0, .int x1, .int x2] 0 = .int 0 := q9upN_of (by decide) w0
  have u0 : q9upN w 1 [.int x0, .int x1, .int x2] 1 = .int x0 := q9upN_at (by decide)
  have u1 : q9upN w 1 [.int x0, .int x1, .int x2] 2 = .int x1 := q9upN_at (by decide)
  have u2 : q9upN w 1 [.int x0, .int x1, .int x2] 3 = .int x2 := q9upN_at (by decide)
  refine ⟨[.int x0, .int x1, .int x2], fun i9 p9 hq9 => ?_, fun _ h => absurd h List.not_mem_nil, fun _ h => absurd h List.not_mem_nil⟩
  · match i9, hq9 with
    | 0, hq9 =>
      have hp9 : ((1410, (0, 0), (0, 2), (0, 0, 0)) : Nat × q9AV × q9AV × q9ET) = p9 := Option.some.inj hq9
      subst hp9
      exact ⟨⟨x0, rfl, by rw [nt0]; exact rg0.1, by rw [nt0]; exact rg0.2⟩, (q9th_tX (T := T) (N := N) (P := P) (J := J) (t0 := t0) (Sc := Sc) (q9evZ u_) (q9evC u_ 2) (q9evS u0) (by rw [q9FF_1410, nt0]; exact (by rw [kz, q9axO_0])) (by decide)).trans (congrArg some (q9evS u0))⟩
    | 1, hq9 =>
      have hp9 : ((1413, (0, 0), (0, 2), (0, 0, 0)) : Nat × q9AV × q9AV × q9ET) = p9 := Option.some.inj hq9
      subst hp9
      exact ⟨⟨x1, rfl, by rw [nt1]; exact rg1.1, by rw [nt1]; exact rg1.2⟩, (q9th_tX (T := T) (N := N) (P := P) (J := J) (t0 := t0) (Sc := Sc) (q9evZ u_) (q9evC u_ 2) (q9evS u1) (by rw [q9FF_1413, nt1]; exact (by rw [kz, q9axO_0])) (by decide)).trans (congrArg some (q9evS u1))⟩
    | 2, hq9 =>
      have hp9 : ((1415, (0, 0), (0, 2), (0, 0, 0)) : Nat × q9AV × q9AV × q9ET) = p9 := Option.some.inj hq9
      subst hp9
      exact ⟨⟨x2, rfl, by rw [nt2]; exact rg2.1, by rw [nt2]; exact rg2.2⟩, (q9th_tX (T := T) (N := N) (P := P) (J := J) (t0 := t0) (Sc := Sc) (q9evZ u_) (q9evC u_ 2) (q9evS u2) (by rw [q9FF_1415, nt2]; exact (by rw [kz, q9axO_0])) (by decide)).trans (congrArg some (q9evS u2))⟩
    | k9 + 3, hq9 => exact nomatch (show (none : Option (Nat × q9AV × q9AV × q9ET)) = some p9 from hq9)
theorem q9ru_blk (hT : ∀ i, 0 ≤ T i ∧ T i ≤ 255) (hN : 0 ≤ N ∧ N ≤ 400) (hSc : 0 ≤ Sc 1 ∧ Sc 1 ≤ 400 → N = Sc 1) : q9ruOK (fO T N P J t0 Sc) q9R_blk := by
  intro w w0 hA hX hL hV hR
  obtain ⟨x0, ae0, -, -⟩ := hA 0 0 rfl
  obtain ⟨x1, ae1, -, -⟩ := hA 1 0 rfl
  obtain ⟨x2, ae2, -, -⟩ := hA 2 0 rfl
  obtain ⟨x3, ae3, -, -⟩ := hA 3 0 rfl
  have kz : (0 : Int32).toInt = 0 := rfl
  have k60 : (Int32.ofInt 60).toInt = 60 := q9oI_toInt (by decide)
  have X0 := q9th_pX (T := T) (N := N) (P := P) (J := J) (t0 := t0) (Sc := Sc) (op := 1400) (q9evS ae0) (q9evZ w0) (q9evS ae1) (hX _ (List.mem_of_getElem? (i := 0) rfl)) (by decide)
  rw [q9FF_1400] at X0
  have H0 := X0
  try simp only [kz, k60] at H0
  have V0 := q9pV (T := T) (N := N) (P := P) (J := J) (t0 := t0) (Sc := Sc) (op := 1402) (n := 0) (q9evS ae0) (q9evZ w0) (hV _ (List.mem_of_getElem? (i := 0) rfl)) (by decide)
  rw [q9FF_1402] at V0
  have K0 := id V0
  try simp only [kz, k60] at K0
  have L0 : (0 : Int32).toInt ≤ x0.toInt + 0 := q9pC (q9evZ w0) (q9evS ae0) (hL _ (List.mem_of_getElem? (i := 0) rfl))
  have L1 : (0 : Int32).toInt ≤ x1.toInt + 0 := q9pC (q9evZ w0) (q9evS ae1) (hL _ (List.mem_of_getElem? (i := 1) rfl))
  have X1 := q9th_pX (T := T) (N := N) (P := P) (J := J) (t0 := t0) (Sc := Sc) (op := 1401) (q9evS ae0) (q9evZ w0) (q9evS ae2) (hX _ (List.mem_of_getElem? (i := 1) rfl)) (by decide)
  rw [q9FF_1401] at X1
  have H1 := X1
  try simp only [kz, k60] at H1
  have X2 := q9th_pX (T := T) (N := N) (P := P) (J := J) (t0 := t0) (Sc := Sc) (op := 1052) (q9evS ae1) (q9evZ w0) (q9evS ae3) (hX _ (List.mem_of_getElem? (i := 2) rfl)) (by decide)
  rw [q9FF_1052] at X2
  have H2 := q9chV_of X2
  try simp only [kz, k60] at H2
  obtain ⟨q, hq, hl⟩ := q9q_m H0
  have hl : q.1 = x1.toInt := hl
  obtain ⟨hf, ha, ho⟩ := q9q_of hq
  have W := q9plW_P hN.1 hf
  obtain ⟨⟨l1, l2, l3, l4⟩, ⟨l5, l6⟩, ⟨l7, l8, l9⟩, l10, l11, l12⟩ := q9q_ln hN.1 hf ha
  have hmr := q9mn_rng hN.1 hf l1 (show q.1 < szP T N P J by omega)
  have hk : x0.toInt - q.2.2.2.1 = 0 := q9q_r hq K0
  have hcb : q.2.1 = x2.toInt := q9q_r hq H1
  have hen : enP T N P J q.1 = x3.toInt := q9en_Q hN.1 hf l1 (by omega) (by rw [hl]; exact H2)
  have u_ : q9upN w 5 [] 0 = .int 0 := q9upN_of (by decide) w0
  have u0 : q9upN w 5 [] 1 = .int x0 := q9upN_of (by decide) ae0
  have u1 : q9upN w 5 [] 2 = .int x1 := q9upN_of (by decide) ae1
  have u2 : q9upN w 5 [] 3 = .int x2 := q9upN_of (by decide) ae2
  have u3 : q9upN w 5 [] 4 = .int x3 := q9upN_of (by decide) ae3
  refine ⟨[], fun i9 p9 hq9 => ?_, fun _ h => absurd h List.not_mem_nil, List.forall_mem_cons.mpr ⟨?_, List.forall_mem_cons.mpr ⟨?_, List.forall_mem_cons.mpr ⟨?_, fun _ h => absurd h List.not_mem_nil⟩⟩⟩⟩
  · exact nomatch (show (none : Option (Nat × q9AV × q9AV × q9ET)) = some p9 from hq9)
  · exact q9th_tC (d := 0) (q9evS u3) (q9evS u2) (by omega)
  · exact q9th_tC (d := (-1)) (q9evS u1) (q9evS u3) (by omega)
  · exact q9th_tC (d := 0) (q9evS u2) (q9evC u_ 60) (by omega)
theorem q9ru_een0 (hT : ∀ i, 0 ≤ T i ∧ T i ≤ 255) (hN : 0 ≤ N ∧ N ≤ 400) (hSc : 0 ≤ Sc 1 ∧ Sc 1 ≤ 400 → N = Sc 1) : q9ruOK (fO T N P J t0 Sc) q9R_een0 := by
  intro w w0 hA hX hL hV hR
  obtain ⟨x0, ae0, -, -⟩ := hA 0 0 rfl
  obtain ⟨x1, ae1, -, -⟩ := hA 1 0 rfl
  have kz : (0 : Int32).toInt = 0 := rfl
  have X0 := q9th_pX (T := T) (N := N) (P := P) (J := J) (t0 := t0) (Sc := Sc) (op := 1400) (q9evS ae0) (q9evZ w0) (q9evS ae1) (hX _ (List.mem_of_getElem? (i := 0) rfl)) (by decide)
  rw [q9FF_1400] at X0
  have H0 := X0
  try simp only [kz] at H0
  have V0 := q9pV (T := T) (N := N) (P := P) (J := J) (t0 := t0) (Sc := Sc) (op := 1402) (n := 0) (q9evS ae0) (q9evZ w0) (hV _ (List.mem_of_getElem? (i := 0) rfl)) (by decide)
  rw [q9FF_1402] at V0
  have K0 := id V0
  try simp only [kz] at K0
  have L0 : (0 : Int32).toInt ≤ x0.toInt + 0 := q9pC (q9evZ w0) (q9evS ae0) (hL _ (List.mem_of_getElem? (i := 0) rfl))
  have L1 : (0 : Int32).toInt ≤ x1.toInt + 0 := q9pC (q9evZ w0) (q9evS ae1) (hL _ (List.mem_of_getElem? (i := 1) rfl))
  have V1 := q9pV (T := T) (N := N) (P := P) (J := J) (t0 := t0) (Sc := Sc) (op := 1050) (n := 0) (q9evS ae1) (q9evZ w0) (hV _ (List.mem_of_getElem? (i := 1) rfl)) (by decide)
  rw [q9FF_1050] at V1
  have K1 := q9chV_of V1
  try simp only [kz] at K1
  obtain ⟨q, hq, hl⟩ := q9q_m H0
  have hl : q.1 = x1.toInt := hl
  obtain ⟨hf, ha, ho⟩ := q9q_of hq
  have W := q9plW_P hN.1 hf
  obtain ⟨⟨l1, l2, l3, l4⟩, ⟨l5, l6⟩, ⟨l7, l8, l9⟩, l10, l11, l12⟩ := q9q_ln hN.1 hf ha
  have hmr := q9mn_rng hN.1 hf l1 (show q.1 < szP T N P J by omega)
  have hk : x0.toInt - q.2.2.2.1 = 0 := q9q_r hq K0
  have hkd : kdP T N P J q.1 = 0 := q9kd_Q (by rw [hl]; exact K1)
  obtain ⟨c9, -, -, -, -, -, he9⟩ := q9q_at hN.1 hf l1 (show q.1 < szP T N P J by omega)
  have e9 : enP T N P J q.1 = q.1 + 1 := hmr.2.2.2.2 (by omega)
  rw [hl] at he9 e9
  have rg0 : (1 : Int) ≤ (enP T N P J x1.toInt) ∧ ((enP T N P J x1.toInt) : Int) ≤ 60 := by omega
  obtain ⟨x2, nt2⟩ : ∃ x : Int32, x.toInt = (enP T N P J x1.toInt) := ⟨Int32.ofInt ((enP T N P J x1.toInt)), q9oI_toInt (by omega)⟩
  have u_ : q9upN w 3 [.int x2] 0 = .int 0 := q9upN_of (by decide) w0
  have u0 : q9upN w 3 [.int x2] 1 = .int x0 := q9upN_of (by decide) ae0
  have u1 : q9upN w 3 [.int x2] 2 = .int x1 := q9upN_of (by decide) ae1
  have u2 : q9upN w 3 [.int x2] 3 = .int x2 := q9upN_at (by decide)
  refine ⟨[.int x2], fun i9 p9 hq9 => ?_, fun _ h => absurd h List.not_mem_nil, List.forall_mem_cons.mpr ⟨?_, List.forall_mem_cons.mpr ⟨?_, fun _ h => absurd h List.not_mem_nil⟩⟩⟩
  · match i9, hq9 with
    | 0, hq9 =>
      have hp9 : ((1052, (2, 0), (0, 0), (0, 1, 60)) : Nat × q9AV × q9AV × q9ET) = p9 := Option.some.inj hq9
      subst hp9
      exact ⟨⟨x2, rfl, by rw [nt2]; exact rg0.1, by rw [nt2]; exact rg0.2⟩, (q9th_tX (T := T) (N := N) (P := P) (J := J) (t0 := t0) (Sc := Sc) (q9evS u1) (q9evZ u_) (q9evS u2) (by rw [q9FF_1052, nt2]; exact (by rw [← q9FF_1052 (t0 := t0) (Sc := Sc) (b := (0 : Int32).toInt)]; exact q9F_en hN.1 he9)) (by decide)).trans (congrArg some (q9evS u2))⟩
    | k9 + 1, hq9 => exact nomatch (show (none : Option (Nat × q9AV × q9AV × q9ET)) = some p9 from hq9)
  · exact q9th_tC (d := 1) (q9evS u2) (q9evS u1) (by omega)
  · exact q9th_tC (d := (-1)) (q9evS u1) (q9evS u2) (by omega)
theorem q9ru_een1 (hT : ∀ i, 0 ≤ T i ∧ T i ≤ 255) (hN : 0 ≤ N ∧ N ≤ 400) (hSc : 0 ≤ Sc 1 ∧ Sc 1 ≤ 400 → N = Sc 1) : q9ruOK (fO T N P J t0 Sc) q9R_een1 := by
  intro w w0 hA hX hL hV hR
  obtain ⟨x0, ae0, -, -⟩ := hA 0 0 rfl
  obtain ⟨x1, ae1, -, -⟩ := hA 1 0 rfl
  have kz : (0 : Int32).toInt = 0 := rfl
  have X0 := q9th_pX (T := T) (N := N) (P := P) (J := J) (t0 := t0) (Sc := Sc) (op := 1400) (q9evS ae0) (q9evZ w0) (q9evS ae1) (hX _ (List.mem_of_getElem? (i := 0) rfl)) (by decide)
  rw [q9FF_1400] at X0
  have H0 := X0
  try simp only [kz] at H0
  have V0 := q9pV (T := T) (N := N) (P := P) (J := J) (t0 := t0) (Sc := Sc) (op := 1402) (n := 0) (q9evS ae0) (q9evZ w0) (hV _ (List.mem_of_getElem? (i := 0) rfl)) (by decide)
  rw [q9FF_1402] at V0
  have K0 := id V0
  try simp only [kz] at K0
  have L0 : (0 : Int32).toInt ≤ x0.toInt + 0 := q9pC (q9evZ w0) (q9evS ae0) (hL _ (List.mem_of_getElem? (i := 0) rfl))
  have L1 : (0 : Int32).toInt ≤ x1.toInt + 0 := q9pC (q9evZ w0) (q9evS ae1) (hL _ (List.mem_of_getElem? (i := 1) rfl))
  have V1 := q9pV (T := T) (N := N) (P := P) (J := J) (t0 := t0) (Sc := Sc) (op := 1050) (n := 1) (q9evS ae1) (q9evZ w0) (hV _ (List.mem_of_getElem? (i := 1) rfl)) (by decide)
  rw [q9FF_1050] at V1
  have K1 := q9chV_of V1
  try simp only [kz] at K1
  obtain ⟨q, hq, hl⟩ := q9q_m H0
  have hl : q.1 = x1.toInt := hl
  obtain ⟨hf, ha, ho⟩ := q9q_of hq
  have W := q9plW_P hN.1 hf
  obtain ⟨⟨l1, l2, l3, l4⟩, ⟨l5, l6⟩, ⟨l7, l8, l9⟩, l10, l11, l12⟩ := q9q_ln hN.1 hf ha
  have hmr := q9mn_rng hN.1 hf l1 (show q.1 < szP T N P J by omega)
  have hk : x0.toInt - q.2.2.2.1 = 0 := q9q_r hq K0
  have hkd : kdP T N P J q.1 = 1 := q9kd_Q (by rw [hl]; exact K1)
  obtain ⟨c9, -, -, -, -, -, he9⟩ := q9q_at hN.1 hf l1 (show q.1 < szP T N P J by omega)
  have e9 : enP T N P J q.1 = q.1 + 1 := hmr.2.2.2.2 (by omega)
  rw [hl] at he9 e9
  have rg0 : (1 : Int) ≤ (enP T N P J x1.toInt) ∧ ((enP T N P J x1.toInt) : Int) ≤ 60 := by omega
  obtain ⟨x2, nt2⟩ : ∃ x : Int32, x.toInt = (enP T N P J x1.toInt) := ⟨Int32.ofInt ((enP T N P J x1.toInt)), q9oI_toInt (by omega)⟩
  have u_ : q9upN w 3 [.int x2] 0 = .int 0 := q9upN_of (by decide) w0
  have u0 : q9upN w 3 [.int x2] 1 = .int x0 := q9upN_of (by decide) ae0
  have u1 : q9upN w 3 [.int x2] 2 = .int x1 := q9upN_of (by decide) ae1
  have u2 : q9upN w 3 [.int x2] 3 = .int x2 := q9upN_at (by decide)
  refine ⟨[.int x2], fun i9 p9 hq9 => ?_, fun _ h => absurd h List.not_mem_nil, List.forall_mem_cons.mpr ⟨?_, List.forall_mem_cons.mpr ⟨?_, fun _ h => absurd h List.not_mem_nil⟩⟩⟩
  · match i9, hq9 with
    | 0, hq9 =>
      have hp9 : ((1052, (2, 0), (0, 0), (0, 1, 60)) : Nat × q9AV × q9AV × q9ET) = p9 := Option.some.inj hq9
      subst hp9
      exact ⟨⟨x2, rfl, by rw [nt2]; exact rg0.1, by rw [nt2]; exact rg0.2⟩, (q9th_tX (T := T) (N := N) (P := P) (J := J) (t0 := t0) (Sc := Sc) (q9evS u1) (q9evZ u_) (q9evS u2) (by rw [q9FF_1052, nt2]; exact (by rw [← q9FF_1052 (t0 := t0) (Sc := Sc) (b := (0 : Int32).toInt)]; exact q9F_en hN.1 he9)) (by decide)).trans (congrArg some (q9evS u2))⟩
    | k9 + 1, hq9 => exact nomatch (show (none : Option (Nat × q9AV × q9AV × q9ET)) = some p9 from hq9)
  · exact q9th_tC (d := 1) (q9evS u2) (q9evS u1) (by omega)
  · exact q9th_tC (d := (-1)) (q9evS u1) (q9evS u2) (by omega)
theorem q9ru_een2 (hT : ∀ i, 0 ≤ T i ∧ T i ≤ 255) (hN : 0 ≤ N ∧ N ≤ 400) (hSc : 0 ≤ Sc 1 ∧ Sc 1 ≤ 400 → N = Sc 1) : q9ruOK (fO T N P J t0 Sc) q9R_een2 := by
  intro w w0 hA hX hL hV hR
  obtain ⟨x0, ae0, -, -⟩ := hA 0 0 rfl
  obtain ⟨x1, ae1, -, -⟩ := hA 1 0 rfl
  have kz : (0 : Int32).toInt = 0 := rfl
  have X0 := q9th_pX (T := T) (N := N) (P := P) (J := J) (t0 := t0) (Sc := Sc) (op := 1400) (q9evS ae0) (q9evZ w0) (q9evS ae1) (hX _ (List.mem_of_getElem? (i := 0) rfl)) (by decide)
  rw [q9FF_1400] at X0
  have H0 := X0
  try simp only [kz] at H0
  have V0 := q9pV (T := T) (N := N) (P := P) (J := J) (t0 := t0) (Sc := Sc) (op := 1402) (n := 0) (q9evS ae0) (q9evZ w0) (hV _ (List.mem_of_getElem? (i := 0) rfl)) (by decide)
  rw [q9FF_1402] at V0
  have K0 := id V0
  try simp only [kz] at K0
  have L0 : (0 : Int32).toInt ≤ x0.toInt + 0 := q9pC (q9evZ w0) (q9evS ae0) (hL _ (List.mem_of_getElem? (i := 0) rfl))
  have L1 : (0 : Int32).toInt ≤ x1.toInt + 0 := q9pC (q9evZ w0) (q9evS ae1) (hL _ (List.mem_of_getElem? (i := 1) rfl))
  have V1 := q9pV (T := T) (N := N) (P := P) (J := J) (t0 := t0) (Sc := Sc) (op := 1050) (n := 2) (q9evS ae1) (q9evZ w0) (hV _ (List.mem_of_getElem? (i := 1) rfl)) (by decide)
  rw [q9FF_1050] at V1
  have K1 := q9chV_of V1
  try simp only [kz] at K1
  obtain ⟨q, hq, hl⟩ := q9q_m H0
  have hl : q.1 = x1.toInt := hl
  obtain ⟨hf, ha, ho⟩ := q9q_of hq
  have W := q9plW_P hN.1 hf
  obtain ⟨⟨l1, l2, l3, l4⟩, ⟨l5, l6⟩, ⟨l7, l8, l9⟩, l10, l11, l12⟩ := q9q_ln hN.1 hf ha
  have hmr := q9mn_rng hN.1 hf l1 (show q.1 < szP T N P J by omega)
  have hk : x0.toInt - q.2.2.2.1 = 0 := q9q_r hq K0
  have hkd : kdP T N P J q.1 = 2 := q9kd_Q (by rw [hl]; exact K1)
  obtain ⟨c9, -, -, -, -, -, he9⟩ := q9q_at hN.1 hf l1 (show q.1 < szP T N P J by omega)
  have e9 : enP T N P J q.1 = q.1 + 1 := hmr.2.2.2.2 (by omega)
  rw [hl] at he9 e9
  have rg0 : (1 : Int) ≤ (enP T N P J x1.toInt) ∧ ((enP T N P J x1.toInt) : Int) ≤ 60 := by omega
  obtain ⟨x2, nt2⟩ : ∃ x : Int32, x.toInt = (enP T N P J x1.toInt) := ⟨Int32.ofInt ((enP T N P J x1.toInt)), q9oI_toInt (by omega)⟩
  have u_ : q9upN w 3 [.int x2] 0 = .int 0 := q9upN_of (by decide) w0
  have u0 : q9upN w 3 [.int x2] 1 = .int x0 := q9upN_of (by decide) ae0
  have u1 : q9upN w 3 [.int x2] 2 = .int x1 := q9upN_of (by decide) ae1
  have u2 : q9upN w 3 [.int x2] 3 = .int x2 := q9upN_at (by decide)
  refine ⟨[.int x2], fun i9 p9 hq9 => ?_, fun _ h => absurd h List.not_mem_nil, List.forall_mem_cons.mpr ⟨?_, List.forall_mem_cons.mpr ⟨?_, fun _ h => absurd h List.not_mem_nil⟩⟩⟩
  · match i9, hq9 with
    | 0, hq9 =>
      have hp9 : ((1052, (2, 0), (0, 0), (0, 1, 60)) : Nat × q9AV × q9AV × q9ET) = p9 := Option.some.inj hq9
      subst hp9
      exact ⟨⟨x2, rfl, by rw [nt2]; exact rg0.1, by rw [nt2]; exact rg0.2⟩, (q9th_tX (T := T) (N := N) (P := P) (J := J) (t0 := t0) (Sc := Sc) (q9evS u1) (q9evZ u_) (q9evS u2) (by rw [q9FF_1052, nt2]; exact (by rw [← q9FF_1052 (t0 := t0) (Sc := Sc) (b := (0 : Int32).toInt)]; exact q9F_en hN.1 he9)) (by decide)).trans (congrArg some (q9evS u2))⟩
    | k9 + 1, hq9 => exact nomatch (show (none : Option (Nat × q9AV × q9AV × q9ET)) = some p9 from hq9)
  · exact q9th_tC (d := 1) (q9evS u2) (q9evS u1) (by omega)
  · exact q9th_tC (d := (-1)) (q9evS u1) (q9evS u2) (by omega)
theorem q9ru_een3 (hT : ∀ i, 0 ≤ T i ∧ T i ≤ 255) (hN : 0 ≤ N ∧ N ≤ 400) (hSc : 0 ≤ Sc 1 ∧ Sc 1 ≤ 400 → N = Sc 1) : q9ruOK (fO T N P J t0 Sc) q9R_een3 := by
  intro w w0 hA hX hL hV hR
  obtain ⟨x0, ae0, -, -⟩ := hA 0 0 rfl
  obtain ⟨x1, ae1, -, -⟩ := hA 1 0 rfl
  have kz : (0 : Int32).toInt = 0 := rfl
  have X0 := q9th_pX (T := T) (N := N) (P := P) (J := J) (t0 := t0) (Sc := Sc) (op := 1400) (q9evS ae0) (q9evZ w0) (q9evS ae1) (hX _ (List.mem_of_getElem? (i := 0) rfl)) (by decide)
  rw [q9FF_1400] at X0
  have H0 := X0
  try simp only [kz] at H0
  have V0 := q9pV (T := T) (N := N) (P := P) (J := J) (t0 := t0) (Sc := Sc) (op := 1402) (n := 0) (q9evS ae0) (q9evZ w0) (hV _ (List.mem_of_getElem? (i := 0) rfl)) (by decide)
  rw [q9FF_1402] at V0
  have K0 := id V0
  try simp only [kz] at K0
  have L0 : (0 : Int32).toInt ≤ x0.toInt + 0 := q9pC (q9evZ w0) (q9evS ae0) (hL _ (List.mem_of_getElem? (i := 0) rfl))
  have L1 : (0 : Int32).toInt ≤ x1.toInt + 0 := q9pC (q9evZ w0) (q9evS ae1) (hL _ (List.mem_of_getElem? (i := 1) rfl))
  have V1 := q9pV (T := T) (N := N) (P := P) (J := J) (t0 := t0) (Sc := Sc) (op := 1050) (n := 3) (q9evS ae1) (q9evZ w0) (hV _ (List.mem_of_getElem? (i := 1) rfl)) (by decide)
  rw [q9FF_1050] at V1
  have K1 := q9chV_of V1
  try simp only [kz] at K1
  obtain ⟨q, hq, hl⟩ := q9q_m H0
  have hl : q.1 = x1.toInt := hl
  obtain ⟨hf, ha, ho⟩ := q9q_of hq
  have W := q9plW_P hN.1 hf
  obtain ⟨⟨l1, l2, l3, l4⟩, ⟨l5, l6⟩, ⟨l7, l8, l9⟩, l10, l11, l12⟩ := q9q_ln hN.1 hf ha
  have hmr := q9mn_rng hN.1 hf l1 (show q.1 < szP T N P J by omega)
  have hk : x0.toInt - q.2.2.2.1 = 0 := q9q_r hq K0
  have hkd : kdP T N P J q.1 = 3 := q9kd_Q (by rw [hl]; exact K1)
  obtain ⟨c9, -, -, -, -, -, he9⟩ := q9q_at hN.1 hf l1 (show q.1 < szP T N P J by omega)
  have e9 : enP T N P J q.1 = q.1 + 1 := hmr.2.2.2.2 (by omega)
  rw [hl] at he9 e9
  have rg0 : (1 : Int) ≤ (enP T N P J x1.toInt) ∧ ((enP T N P J x1.toInt) : Int) ≤ 60 := by omega
  obtain ⟨x2, nt2⟩ : ∃ x : Int32, x.toInt = (enP T N P J x1.toInt) := ⟨Int32.ofInt ((enP T N P J x1.toInt)), q9oI_toInt (by omega)⟩
  have u_ : q9upN w 3 [.int x2] 0 = .int 0 := q9upN_of (by decide) w0
  have u0 : q9upN w 3 [.int x2] 1 = .int x0 := q9upN_of (by decide) ae0
  have u1 : q9upN w 3 [.int x2] 2 = .int x1 := q9upN_of (by decide) ae1
  have u2 : q9upN w 3 [.int x2] 3 = .int x2 := q9upN_at (by decide)
  refine ⟨[.int x2], fun i9 p9 hq9 => ?_, fun _ h => absurd h List.not_mem_nil, List.forall_mem_cons.mpr ⟨?_, List.forall_mem_cons.mpr ⟨?_, fun _ h => absurd h List.not_mem_nil⟩⟩⟩
  · match i9, hq9 with
    | 0, hq9 =>
      have hp9 : ((1052, (2, 0), (0, 0), (0, 1, 60)) : Nat × q9AV × q9AV × q9ET) = p9 := Option.some.inj hq9
      subst hp9
      exact ⟨⟨x2, rfl, by rw [nt2]; exact rg0.1, by rw [nt2]; exact rg0.2⟩, (q9th_tX (T := T) (N := N) (P := P) (J := J) (t0 := t0) (Sc := Sc) (q9evS u1) (q9evZ u_) (q9evS u2) (by rw [q9FF_1052, nt2]; exact (by rw [← q9FF_1052 (t0 := t0) (Sc := Sc) (b := (0 : Int32).toInt)]; exact q9F_en hN.1 he9)) (by decide)).trans (congrArg some (q9evS u2))⟩
    | k9 + 1, hq9 => exact nomatch (show (none : Option (Nat × q9AV × q9AV × q9ET)) = some p9 from hq9)
  · exact q9th_tC (d := 1) (q9evS u2) (q9evS u1) (by omega)
  · exact q9th_tC (d := (-1)) (q9evS u1) (q9evS u2) (by omega)
theorem q9ru_een4 (hT : ∀ i, 0 ≤ T i ∧ T i ≤ 255) (hN : 0 ≤ N ∧ N ≤ 400) (hSc : 0 ≤ Sc 1 ∧ Sc 1 ≤ 400 → N = Sc 1) : q9ruOK (fO T N P J t0 Sc) q9R_een4 := by
  intro w w0 hA hX hL hV hR
  obtain ⟨x0, ae0, -, -⟩ := hA 0 0 rfl
  obtain ⟨x1, ae1, -, -⟩ := hA 1 0 rfl
  have kz : (0 : Int32).toInt = 0 := rfl
  have X0 := q9th_pX (T := T) (N := N) (P := P) (J := J) (t0 := t0) (Sc := Sc) (op := 1400) (q9evS ae0) (q9evZ w0) (q9evS ae1) (hX _ (List.mem_of_getElem? (i := 0) rfl)) (by decide)
  rw [q9FF_1400] at X0
  have H0 := X0
  try simp only [kz] at H0
  have V0 := q9pV (T := T) (N := N) (P := P) (J := J) (t0 := t0) (Sc := Sc) (op := 1402) (n := 0) (q9evS ae0) (q9evZ w0) (hV _ (List.mem_of_getElem? (i := 0) rfl)) (by decide)
  rw [q9FF_1402] at V0
  have K0 := id V0
  try simp only [kz] at K0
  have L0 : (0 : Int32).toInt ≤ x0.toInt + 0 := q9pC (q9evZ w0) (q9evS ae0) (hL _ (List.mem_of_getElem? (i := 0) rfl))
  have L1 : (0 : Int32).toInt ≤ x1.toInt + 0 := q9pC (q9evZ w0) (q9evS ae1) (hL _ (List.mem_of_getElem? (i := 1) rfl))
  have V1 := q9pV (T := T) (N := N) (P := P) (J := J) (t0 := t0) (Sc := Sc) (op := 1050) (n := 4) (q9evS ae1) (q9evZ w0) (hV _ (List.mem_of_getElem? (i := 1) rfl)) (by decide)
  rw [q9FF_1050] at V1
  have K1 := q9chV_of V1
  try simp only [kz] at K1
  obtain ⟨q, hq, hl⟩ := q9q_m H0
  have hl : q.1 = x1.toInt := hl
  obtain ⟨hf, ha, ho⟩ := q9q_of hq
  have W := q9plW_P hN.1 hf
  obtain ⟨⟨l1, l2, l3, l4⟩, ⟨l5, l6⟩, ⟨l7, l8, l9⟩, l10, l11, l12⟩ := q9q_ln hN.1 hf ha
  have hmr := q9mn_rng hN.1 hf l1 (show q.1 < szP T N P J by omega)
  have hk : x0.toInt - q.2.2.2.1 = 0 := q9q_r hq K0
  have hkd : kdP T N P J q.1 = 4 := q9kd_Q (by rw [hl]; exact K1)
  obtain ⟨c9, -, -, -, -, -, he9⟩ := q9q_at hN.1 hf l1 (show q.1 < szP T N P J by omega)
  have e9 : enP T N P J q.1 = q.1 + 1 := hmr.2.2.2.2 (by omega)
  rw [hl] at he9 e9
  have rg0 : (1 : Int) ≤ (enP T N P J x1.toInt) ∧ ((enP T N P J x1.toInt) : Int) ≤ 60 := by omega
  obtain ⟨x2, nt2⟩ : ∃ x : Int32, x.toInt = (enP T N P J x1.toInt) := ⟨Int32.ofInt ((enP T N P J x1.toInt)), q9oI_toInt (by omega)⟩
  have u_ : q9upN w 3 [.int x2] 0 = .int 0 := q9upN_of (by decide) w0
  have u0 : q9upN w 3 [.int x2] 1 = .int x0 := q9upN_of (by decide) ae0
  have u1 : q9upN w 3 [.int x2] 2 = .int x1 := q9upN_of (by decide) ae1
  have u2 : q9upN w 3 [.int x2] 3 = .int x2 := q9upN_at (by decide)
  refine ⟨[.int x2], fun i9 p9 hq9 => ?_, fun _ h => absurd h List.not_mem_nil, List.forall_mem_cons.mpr ⟨?_, List.forall_mem_cons.mpr ⟨?_, fun _ h => absurd h List.not_mem_nil⟩⟩⟩
  · match i9, hq9 with
    | 0, hq9 =>
      have hp9 : ((1052, (2, 0), (0, 0), (0, 1, 60)) : Nat × q9AV × q9AV × q9ET) = p9 := Option.some.inj hq9
      subst hp9
      exact ⟨⟨x2, rfl, by rw [nt2]; exact rg0.1, by rw [nt2]; exact rg0.2⟩, (q9th_tX (T := T) (N := N) (P := P) (J := J) (t0 := t0) (Sc := Sc) (q9evS u1) (q9evZ u_) (q9evS u2) (by rw [q9FF_1052, nt2]; exact (by rw [← q9FF_1052 (t0 := t0) (Sc := Sc) (b := (0 : Int32).toInt)]; exact q9F_en hN.1 he9)) (by decide)).trans (congrArg some (q9evS u2))⟩
    | k9 + 1, hq9 => exact nomatch (show (none : Option (Nat × q9AV × q9AV × q9ET)) = some p9 from hq9)
  · exact q9th_tC (d := 1) (q9evS u2) (q9evS u1) (by omega)
  · exact q9th_tC (d := (-1)) (q9evS u1) (q9evS u2) (by omega)
theorem q9ru_een5 (hT : ∀ i, 0 ≤ T i ∧ T i ≤ 255) (hN : 0 ≤ N ∧ N ≤ 400) (hSc : 0 ≤ Sc 1 ∧ Sc 1 ≤ 400 → N = Sc 1) : q9ruOK (fO T N P J t0 Sc) q9R_een5 := by
  intro w w0 hA hX hL hV hR
  obtain ⟨x0, ae0, -, -⟩ := hA 0 0 rfl
  obtain ⟨x1, ae1, -, -⟩ := hA 1 0 rfl
  have kz : (0 : Int32).toInt = 0 := rfl
  have X0 := q9th_pX (T := T) (N := N) (P := P) (J := J) (t0 := t0) (Sc := Sc) (op := 1400) (q9evS ae0) (q9evZ w0) (q9evS ae1) (hX _ (List.mem_of_getElem? (i := 0) rfl)) (by decide)
  rw [q9FF_1400] at X0
  have H0 := X0
  try simp only [kz] at H0
  have V0 := q9pV (T := T) (N := N) (P := P) (J := J) (t0 := t0) (Sc := Sc) (op := 1402) (n := 0) (q9evS ae0) (q9evZ w0) (hV _ (List.mem_of_getElem? (i := 0) rfl)) (by decide)
  rw [q9FF_1402] at V0
  have K0 := id V0
  try simp only [kz] at K0
  have L0 : (0 : Int32).toInt ≤ x0.toInt + 0 := q9pC (q9evZ w0) (q9evS ae0) (hL _ (List.mem_of_getElem? (i := 0) rfl))
  have L1 : (0 : Int32).toInt ≤ x1.toInt + 0 := q9pC (q9evZ w0) (q9evS ae1) (hL _ (List.mem_of_getElem? (i := 1) rfl))
  have V1 := q9pV (T := T) (N := N) (P := P) (J := J) (t0 := t0) (Sc := Sc) (op := 1050) (n := 5) (q9evS ae1) (q9evZ w0) (hV _ (List.mem_of_getElem? (i := 1) rfl)) (by decide)
  rw [q9FF_1050] at V1
  have K1 := q9chV_of V1
  try simp only [kz] at K1
  obtain ⟨q, hq, hl⟩ := q9q_m H0
  have hl : q.1 = x1.toInt := hl
  obtain ⟨hf, ha, ho⟩ := q9q_of hq
  have W := q9plW_P hN.1 hf
  obtain ⟨⟨l1, l2, l3, l4⟩, ⟨l5, l6⟩, ⟨l7, l8, l9⟩, l10, l11, l12⟩ := q9q_ln hN.1 hf ha
  have hmr := q9mn_rng hN.1 hf l1 (show q.1 < szP T N P J by omega)
  have hk : x0.toInt - q.2.2.2.1 = 0 := q9q_r hq K0
  have hkd : kdP T N P J q.1 = 5 := q9kd_Q (by rw [hl]; exact K1)
  obtain ⟨c9, -, -, -, -, -, he9⟩ := q9q_at hN.1 hf l1 (show q.1 < szP T N P J by omega)
  have e9 : enP T N P J q.1 = q.1 + 1 := hmr.2.2.2.2 (by omega)
  rw [hl] at he9 e9
  have rg0 : (1 : Int) ≤ (enP T N P J x1.toInt) ∧ ((enP T N P J x1.toInt) : Int) ≤ 60 := by omega
  obtain ⟨x2, nt2⟩ : ∃ x : Int32, x.toInt = (enP T N P J x1.toInt) := ⟨Int32.ofInt ((enP T N P J x1.toInt)), q9oI_toInt (by omega)⟩
  have u_ : q9upN w 3 [.int x2] 0 = .int 0 := q9upN_of (by decide) w0
  have u0 : q9upN w 3 [.int x2] 1 = .int x0 := q9upN_of (by decide) ae0
  have u1 : q9upN w 3 [.int x2] 2 = .int x1 := q9upN_of (by decide) ae1
  have u2 : q9upN w 3 [.int x2] 3 = .int x2 := q9upN_at (by decide)
  refine ⟨[.int x2], fun i9 p9 hq9 => ?_, fun _ h => absurd h List.not_mem_nil, List.forall_mem_cons.mpr ⟨?_, List.forall_mem_cons.mpr ⟨?_, fun _ h => absurd h List.not_mem_nil⟩⟩⟩
  · match i9, hq9 with
    | 0, hq9 =>
      have hp9 : ((1052, (2, 0), (0, 0), (0, 1, 60)) : Nat × q9AV × q9AV × q9ET) = p9 := Option.some.inj hq9
      subst hp9
      exact ⟨⟨x2, rfl, by rw [nt2]; exact rg0.1, by rw [nt2]; exact rg0.2⟩, (q9th_tX (T := T) (N := N) (P := P) (J := J) (t0 := t0) (Sc := Sc) (q9evS u1) (q9evZ u_) (q9evS u2) (by rw [q9FF_1052, nt2]; exact (by rw [← q9FF_1052 (t0 := t0) (Sc := Sc) (b := (0 : Int32).toInt)]; exact q9F_en hN.1 he9)) (by decide)).trans (congrArg some (q9evS u2))⟩
    | k9 + 1, hq9 => exact nomatch (show (none : Option (Nat × q9AV × q9AV × q9ET)) = some p9 from hq9)
  · exact q9th_tC (d := 1) (q9evS u2) (q9evS u1) (by omega)
  · exact q9th_tC (d := (-1)) (q9evS u1) (q9evS u2) (by omega)
theorem q9ru_een6 (hT : ∀ i, 0 ≤ T i ∧ T i ≤ 255) (hN : 0 ≤ N ∧ N ≤ 400) (hSc : 0 ≤ Sc 1 ∧ Sc 1 ≤ 400 → N = Sc 1) : q9ruOK (fO T N P J t0 Sc) q9R_een6 := by
  intro w w0 hA hX hL hV hR
  obtain ⟨x0, ae0, -, -⟩ := hA 0 0 rfl
  obtain ⟨x1, ae1, -, -⟩ := hA 1 0 rfl
  have kz : (0 : Int32).toInt = 0 := rfl
  have X0 := q9th_pX (T := T) (N := N) (P := P) (J := J) (t0 := t0) (Sc := Sc) (op := 1400) (q9evS ae0) (q9evZ w0) (q9evS ae1) (hX _ (List.mem_of_getElem? (i := 0) rfl)) (by decide)
  rw [q9FF_1400] at X0
  have H0 := X0
  try simp only [kz] at H0
  have V0 := q9pV (T := T) (N := N) (P := P) (J := J) (t0 := t0) (Sc := Sc) (op := 1402) (n := 0) (q9evS ae0) (q9evZ w0) (hV _ (List.mem_of_getElem? (i := 0) rfl)) (by decide)
  rw [q9FF_1402] at V0
  have K0 := id V0
  try simp only [kz] at K0
  have L0 : (0 : Int32).toInt ≤ x0.toInt + 0 := q9pC (q9evZ w0) (q9evS ae0) (hL _ (List.mem_of_getElem? (i := 0) rfl))
  have L1 : (0 : Int32).toInt ≤ x1.toInt + 0 := q9pC (q9evZ w0) (q9evS ae1) (hL _ (List.mem_of_getElem? (i := 1) rfl))
  have V1 := q9pV (T := T) (N := N) (P := P) (J := J) (t0 := t0) (Sc := Sc) (op := 1050) (n := 6) (q9evS ae1) (q9evZ w0) (hV _ (List.mem_of_getElem? (i := 1) rfl)) (by decide)
  rw [q9FF_1050] at V1
  have K1 := q9chV_of V1
  try simp only [kz] at K1
  obtain ⟨q, hq, hl⟩ := q9q_m H0
  have hl : q.1 = x1.toInt := hl
  obtain ⟨hf, ha, ho⟩ := q9q_of hq
  have W := q9plW_P hN.1 hf
  obtain ⟨⟨l1, l2, l3, l4⟩, ⟨l5, l6⟩, ⟨l7, l8, l9⟩, l10, l11, l12⟩ := q9q_ln hN.1 hf ha
  have hmr := q9mn_rng hN.1 hf l1 (show q.1 < szP T N P J by omega)
  have hk : x0.toInt - q.2.2.2.1 = 0 := q9q_r hq K0
  have hkd : kdP T N P J q.1 = 6 := q9kd_Q (by rw [hl]; exact K1)
  obtain ⟨c9, -, -, -, -, -, he9⟩ := q9q_at hN.1 hf l1 (show q.1 < szP T N P J by omega)
  have e9 : enP T N P J q.1 = q.1 + 1 := hmr.2.2.2.2 (by omega)
  rw [hl] at he9 e9
  have rg0 : (1 : Int) ≤ (enP T N P J x1.toInt) ∧ ((enP T N P J x1.toInt) : Int) ≤ 60 := by omega
  obtain ⟨x2, nt2⟩ : ∃ x : Int32, x.toInt = (enP T N P J x1.toInt) := ⟨Int32.ofInt ((enP T N P J x1.toInt)), q9oI_toInt (by omega)⟩
  have u_ : q9upN w 3 [.int x2] 0 = .int 0 := q9upN_of (by decide) w0
  have u0 : q9upN w 3 [.int x2] 1 = .int x0 := q9upN_of (by decide) ae0
  have u1 : q9upN w 3 [.int x2] 2 = .int x1 := q9upN_of (by decide) ae1
  have u2 : q9upN w 3 [.int x2] 3 = .int x2 := q9upN_at (by decide)
  refine ⟨[.int x2], fun i9 p9 hq9 => ?_, fun _ h => absurd h List.not_mem_nil, List.forall_mem_cons.mpr ⟨?_, List.forall_mem_cons.mpr ⟨?_, fun _ h => absurd h List.not_mem_nil⟩⟩⟩
  · match i9, hq9 with
    | 0, hq9 =>
      have hp9 : ((1052, (2, 0), (0, 0), (0, 1, 60)) : Nat × q9AV × q9AV × q9ET) = p9 := Option.some.inj hq9
      subst hp9
      exact ⟨⟨x2, rfl, by rw [nt2]; exact rg0.1, by rw [nt2]; exact rg0.2⟩, (q9th_tX (T := T) (N := N) (P := P) (J := J) (t0 := t0) (Sc := Sc) (q9evS u1) (q9evZ u_) (q9evS u2) (by rw [q9FF_1052, nt2]; exact (by rw [← q9FF_1052 (t0 := t0) (Sc := Sc) (b := (0 : Int32).toInt)]; exact q9F_en hN.1 he9)) (by decide)).trans (congrArg some (q9evS u2))⟩
    | k9 + 1, hq9 => exact nomatch (show (none : Option (Nat × q9AV × q9AV × q9ET)) = some p9 from hq9)
  · exact q9th_tC (d := 1) (q9evS u2) (q9evS u1) (by omega)
  · exact q9th_tC (d := (-1)) (q9evS u1) (q9evS u2) (by omega)
theorem q9ru_elt (hT : ∀ i, 0 ≤ T i ∧ T i ≤ 255) (hN : 0 ≤ N ∧ N ≤ 400) (hSc : 0 ≤ Sc 1 ∧ Sc 1 ≤ 400 → N = Sc 1) : q9ruOK (fO T N P J t0 Sc) q9R_elt := by
  intro w w0 hA hX hL hV hR
  obtain ⟨x0, ae0, -, -⟩ := hA 0 0 rfl
  obtain ⟨x1, ae1, -, -⟩ := hA 1 0 rfl
  have kz : (0 : Int32).toInt = 0 := rfl
  have X0 := q9th_pX (T := T) (N := N) (P := P) (J := J) (t0 := t0) (Sc := Sc) (op := 1400) (q9evS ae0) (q9evZ w0) (q9evS ae1) (hX _ (List.mem_of_getElem? (i := 0) rfl)) (by decide)
  rw [q9FF_1400] at X0
  have H0 := X0
  try simp only [kz] at H0
  have V0 := q9pV (T := T) (N := N) (P := P) (J := J) (t0 := t0) (Sc := Sc) (op := 1402) (n := 0) (q9evS ae0) (q9evZ w0) (hV _ (List.mem_of_getElem? (i := 0) rfl)) (by decide)
  rw [q9FF_1402] at V0
  have K0 := id V0
  try simp only [kz] at K0
  have L0 : (0 : Int32).toInt ≤ x0.toInt + 0 := q9pC (q9evZ w0) (q9evS ae0) (hL _ (List.mem_of_getElem? (i := 0) rfl))
  have L1 : (0 : Int32).toInt ≤ x1.toInt + 0 := q9pC (q9evZ w0) (q9evS ae1) (hL _ (List.mem_of_getElem? (i := 1) rfl))
  obtain ⟨q, hq, hl⟩ := q9q_m H0
  have hl : q.1 = x1.toInt := hl
  obtain ⟨hf, ha, ho⟩ := q9q_of hq
  have W := q9plW_P hN.1 hf
  obtain ⟨⟨l1, l2, l3, l4⟩, ⟨l5, l6⟩, ⟨l7, l8, l9⟩, l10, l11, l12⟩ := q9q_ln hN.1 hf ha
  have hmr := q9mn_rng hN.1 hf l1 (show q.1 < szP T N P J by omega)
  have hk : x0.toInt - q.2.2.2.1 = 0 := q9q_r hq K0
  have rg0 : (1 : Int) ≤ (q.2.2.2.1 + lQ T N P J q.1) ∧ ((q.2.2.2.1 + lQ T N P J q.1) : Int) ≤ 4000 := by omega
  obtain ⟨x2, nt2⟩ : ∃ x : Int32, x.toInt = (q.2.2.2.1 + lQ T N P J q.1) := ⟨Int32.ofInt ((q.2.2.2.1 + lQ T N P J q.1)), q9oI_toInt (by omega)⟩
  have u_ : q9upN w 3 [.int x2] 0 = .int 0 := q9upN_of (by decide) w0
  have u0 : q9upN w 3 [.int x2] 1 = .int x0 := q9upN_of (by decide) ae0
  have u1 : q9upN w 3 [.int x2] 2 = .int x1 := q9upN_of (by decide) ae1
  have u2 : q9upN w 3 [.int x2] 3 = .int x2 := q9upN_at (by decide)
  refine ⟨[.int x2], fun i9 p9 hq9 => ?_, fun _ h => absurd h List.not_mem_nil, List.forall_mem_cons.mpr ⟨?_, fun _ h => absurd h List.not_mem_nil⟩⟩
  · match i9, hq9 with
    | 0, hq9 =>
      have hp9 : ((1407, (1, 0), (0, 0), (0, 1, 4000)) : Nat × q9AV × q9AV × q9ET) = p9 := Option.some.inj hq9
      subst hp9
      exact ⟨⟨x2, rfl, by rw [nt2]; exact rg0.1, by rw [nt2]; exact rg0.2⟩, (q9th_tX (T := T) (N := N) (P := P) (J := J) (t0 := t0) (Sc := Sc) (q9evS u0) (q9evZ u_) (q9evS u2) (by rw [q9FF_1407, nt2]; exact (q9q_t hq rfl)) (by decide)).trans (congrArg some (q9evS u2))⟩
    | k9 + 1, hq9 => exact nomatch (show (none : Option (Nat × q9AV × q9AV × q9ET)) = some p9 from hq9)
  · exact q9th_tC (d := (-1)) (q9evS u0) (q9evS u2) (by omega)
theorem q9ru_eet (hT : ∀ i, 0 ≤ T i ∧ T i ≤ 255) (hN : 0 ≤ N ∧ N ≤ 400) (hSc : 0 ≤ Sc 1 ∧ Sc 1 ≤ 400 → N = Sc 1) : q9ruOK (fO T N P J t0 Sc) q9R_eet := by
  intro w w0 hA hX hL hV hR
  obtain ⟨x0, ae0, -, -⟩ := hA 0 0 rfl
  obtain ⟨x1, ae1, -, -⟩ := hA 1 0 rfl
  have kz : (0 : Int32).toInt = 0 := rfl
  have X0 := q9th_pX (T := T) (N := N) (P := P) (J := J) (t0 := t0) (Sc := Sc) (op := 1400) (q9evS ae0) (q9evZ w0) (q9evS ae1) (hX _ (List.mem_of_getElem? (i := 0) rfl)) (by decide)
  rw [q9FF_1400] at X0
  have H0 := X0
  try simp only [kz] at H0
  have V0 := q9pV (T := T) (N := N) (P := P) (J := J) (t0 := t0) (Sc := Sc) (op := 1402) (n := 0) (q9evS ae0) (q9evZ w0) (hV _ (List.mem_of_getElem? (i := 0) rfl)) (by decide)
  rw [q9FF_1402] at V0
  have K0 := id V0
  try simp only [kz] at K0
  have L0 : (0 : Int32).toInt ≤ x0.toInt + 0 := q9pC (q9evZ w0) (q9evS ae0) (hL _ (List.mem_of_getElem? (i := 0) rfl))
  have L1 : (0 : Int32).toInt ≤ x1.toInt + 0 := q9pC (q9evZ w0) (q9evS ae1) (hL _ (List.mem_of_getElem? (i := 1) rfl))
  obtain ⟨q, hq, hl⟩ := q9q_m H0
  have hl : q.1 = x1.toInt := hl
  obtain ⟨hf, ha, ho⟩ := q9q_of hq
  have W := q9plW_P hN.1 hf
  obtain ⟨⟨l1, l2, l3, l4⟩, ⟨l5, l6⟩, ⟨l7, l8, l9⟩, l10, l11, l12⟩ := q9q_ln hN.1 hf ha
  have hmr := q9mn_rng hN.1 hf l1 (show q.1 < szP T N P J by omega)
  have hk : x0.toInt - q.2.2.2.1 = 0 := q9q_r hq K0
  have rg0 : (1 : Int) ≤ q.2.2.1 ∧ (q.2.2.1 : Int) ≤ 4000 := by omega
  obtain ⟨x2, nt2⟩ : ∃ x : Int32, x.toInt = q.2.2.1 := ⟨Int32.ofInt (q.2.2.1), q9oI_toInt (by omega)⟩
  have u_ : q9upN w 3 [.int x2] 0 = .int 0 := q9upN_of (by decide) w0
  have u0 : q9upN w 3 [.int x2] 1 = .int x0 := q9upN_of (by decide) ae0
  have u1 : q9upN w 3 [.int x2] 2 = .int x1 := q9upN_of (by decide) ae1
  have u2 : q9upN w 3 [.int x2] 3 = .int x2 := q9upN_at (by decide)
  refine ⟨[.int x2], fun i9 p9 hq9 => ?_, fun _ h => absurd h List.not_mem_nil, List.forall_mem_cons.mpr ⟨?_, fun _ h => absurd h List.not_mem_nil⟩⟩
  · match i9, hq9 with
    | 0, hq9 =>
      have hp9 : ((1404, (1, 0), (0, 0), (0, 1, 4000)) : Nat × q9AV × q9AV × q9ET) = p9 := Option.some.inj hq9
      subst hp9
      exact ⟨⟨x2, rfl, by rw [nt2]; exact rg0.1, by rw [nt2]; exact rg0.2⟩, (q9th_tX (T := T) (N := N) (P := P) (J := J) (t0 := t0) (Sc := Sc) (q9evS u0) (q9evZ u_) (q9evS u2) (by rw [q9FF_1404, nt2]; exact (q9q_t hq rfl)) (by decide)).trans (congrArg some (q9evS u2))⟩
    | k9 + 1, hq9 => exact nomatch (show (none : Option (Nat × q9AV × q9AV × q9ET)) = some p9 from hq9)
  · exact q9th_tC (d := (-1)) (q9evS u0) (q9evS u2) (by omega)
theorem q9ru_nxt (hT : ∀ i, 0 ≤ T i ∧ T i ≤ 255) (hN : 0 ≤ N ∧ N ≤ 400) (hSc : 0 ≤ Sc 1 ∧ Sc 1 ≤ 400 → N = Sc 1) : q9ruOK (fO T N P J t0 Sc) q9R_nxt := by
  intro w w0 hA hX hL hV hR
  obtain ⟨x0, ae0, -, -⟩ := hA 0 0 rfl
  obtain ⟨x1, ae1, -, -⟩ := hA 1 0 rfl
  obtain ⟨x2, ae2, -, -⟩ := hA 2 0 rfl
  obtain ⟨x3, ae3, -, -⟩ := hA 3 0 rfl
  obtain ⟨x4, ae4, -, -⟩ := hA 4 0 rfl
  obtain ⟨x5, ae5, -, -⟩ := hA 5 0 rfl
  obtain ⟨x6, ae6, -, -⟩ := hA 6 0 rfl
  have kz : (0 : Int32).toInt = 0 := rfl
  have X0 := q9th_pX (T := T) (N := N) (P := P) (J := J) (t0 := t0) (Sc := Sc) (op := 1400) (q9evS ae0) (q9evZ w0) (q9evS ae1) (hX _ (List.mem_of_getElem? (i := 0) rfl)) (by decide)
  rw [q9FF_1400] at X0
  have H0 := X0
  try simp only [kz] at H0
  have V0 := q9pV (T := T) (N := N) (P := P) (J := J) (t0 := t0) (Sc := Sc) (op := 1402) (n := 0) (q9evS ae0) (q9evZ w0) (hV _ (List.mem_of_getElem? (i := 0) rfl)) (by decide)
  rw [q9FF_1402] at V0
  have K0 := id V0
  try simp only [kz] at K0
  have L0 : (0 : Int32).toInt ≤ x0.toInt + 0 := q9pC (q9evZ w0) (q9evS ae0) (hL _ (List.mem_of_getElem? (i := 0) rfl))
  have L1 : (0 : Int32).toInt ≤ x1.toInt + 0 := q9pC (q9evZ w0) (q9evS ae1) (hL _ (List.mem_of_getElem? (i := 1) rfl))
  have X1 := q9th_pX (T := T) (N := N) (P := P) (J := J) (t0 := t0) (Sc := Sc) (op := 1401) (q9evS ae0) (q9evZ w0) (q9evS ae2) (hX _ (List.mem_of_getElem? (i := 1) rfl)) (by decide)
  rw [q9FF_1401] at X1
  have H1 := X1
  try simp only [kz] at H1
  have X2 := q9th_pX (T := T) (N := N) (P := P) (J := J) (t0 := t0) (Sc := Sc) (op := 1052) (q9evS ae1) (q9evZ w0) (q9evS ae3) (hX _ (List.mem_of_getElem? (i := 2) rfl)) (by decide)
  rw [q9FF_1052] at X2
  have H2 := q9chV_of X2
  try simp only [kz] at H2
  have X3 := q9th_pX (T := T) (N := N) (P := P) (J := J) (t0 := t0) (Sc := Sc) (op := 1407) (q9evS ae0) (q9evZ w0) (q9evS ae4) (hX _ (List.mem_of_getElem? (i := 3) rfl)) (by decide)
  rw [q9FF_1407] at X3
  have H3 := X3
  try simp only [kz] at H3
  have X4 := q9th_pX (T := T) (N := N) (P := P) (J := J) (t0 := t0) (Sc := Sc) (op := 1404) (q9evS ae0) (q9evZ w0) (q9evS ae5) (hX _ (List.mem_of_getElem? (i := 4) rfl)) (by decide)
  rw [q9FF_1404] at X4
  have H4 := X4
  try simp only [kz] at H4
  have X5 := q9th_pX (T := T) (N := N) (P := P) (J := J) (t0 := t0) (Sc := Sc) (op := 1409) (q9evS ae0) (q9evZ w0) (q9evS ae6) (hX _ (List.mem_of_getElem? (i := 5) rfl)) (by decide)
  rw [q9FF_1409] at X5
  have H5 := X5
  try simp only [kz] at H5
  have L2 : x3.toInt ≤ x2.toInt + (-1) := q9pC (q9evS ae3) (q9evS ae2) (hL _ (List.mem_of_getElem? (i := 2) rfl))
  obtain ⟨q, hq, hl⟩ := q9q_m H0
  have hl : q.1 = x1.toInt := hl
  obtain ⟨hf, ha, ho⟩ := q9q_of hq
  have W := q9plW_P hN.1 hf
  obtain ⟨⟨l1, l2, l3, l4⟩, ⟨l5, l6⟩, ⟨l7, l8, l9⟩, l10, l11, l12⟩ := q9q_ln hN.1 hf ha
  have hmr := q9mn_rng hN.1 hf l1 (show q.1 < szP T N P J by omega)
  have hk : x0.toInt - q.2.2.2.1 = 0 := q9q_r hq K0
  have hcb : q.2.1 = x2.toInt := q9q_r hq H1
  have hen : enP T N P J q.1 = x3.toInt := q9en_Q hN.1 hf l1 (by omega) (by rw [hl]; exact H2)
  have hlt : q.2.2.2.1 + lQ T N P J q.1 = x4.toInt := q9q_r hq H3
  have het : q.2.2.1 = x5.toInt := q9q_r hq H4
  have hds : q.2.2.2.2.1 = x6.toInt := q9q_r hq H5
  have hq2 : qP T N P J x4.toInt = some (q9nxP (kdP T N P J) (mnP T N P J) (enP T N P J) (szP T N P J) q) := q9q_to hN.1 hf (q9at_nx ha (by omega)) (q9ow_st (by show x4.toInt = q.2.2.2.1 + lQ T N P J q.1; omega))
  have rg0 : (0 : Int) ≤ 0 ∧ (0 : Int) ≤ 0 := by omega
  obtain ⟨x7, nt7⟩ : ∃ x : Int32, x.toInt = 0 := ⟨Int32.ofInt (0), q9oI_toInt (by omega)⟩
  have u_ : q9upN w 8 [.int x7] 0 = .int 0 := q9upN_of (by decide) w0
  have u0 : q9upN w 8 [.int x7] 1 = .int x0 := q9upN_of (by decide) ae0
  have u1 : q9upN w 8 [.int x7] 2 = .int x1 := q9upN_of (by decide) ae1
  have u2 : q9upN w 8 [.int x7] 3 = .int x2 := q9upN_of (by decide) ae2
  have u3 : q9upN w 8 [.int x7] 4 = .int x3 := q9upN_of (by decide) ae3
  have u4 : q9upN w 8 [.int x7] 5 = .int x4 := q9upN_of (by decide) ae4
  have u5 : q9upN w 8 [.int x7] 6 = .int x5 := q9upN_of (by decide) ae5
  have u6 : q9upN w 8 [.int x7] 7 = .int x6 := q9upN_of (by decide) ae6
  have u7 : q9upN w 8 [.int x7] 8 = .int x7 := q9upN_at (by decide)
  refine ⟨[.int x7], fun i9 p9 hq9 => ?_, List.forall_mem_cons.mpr ⟨?_, List.forall_mem_cons.mpr ⟨?_, List.forall_mem_cons.mpr ⟨?_, List.forall_mem_cons.mpr ⟨?_, fun _ h => absurd h List.not_mem_nil⟩⟩⟩⟩, fun _ h => absurd h List.not_mem_nil⟩
  · match i9, hq9 with
    | 0, hq9 =>
      have hp9 : ((1402, (5, 0), (0, 0), (0, 0, 0)) : Nat × q9AV × q9AV × q9ET) = p9 := Option.some.inj hq9
      subst hp9
      exact ⟨⟨x7, rfl, by rw [nt7]; exact rg0.1, by rw [nt7]; exact rg0.2⟩, (q9th_tX (T := T) (N := N) (P := P) (J := J) (t0 := t0) (Sc := Sc) (q9evS u4) (q9evZ u_) (q9evS u7) (by rw [q9FF_1402, nt7]; exact (q9q_t hq2 (by show x4.toInt - (q.2.2.2.1 + lQ T N P J q.1) = 0; omega))) (by decide)).trans (congrArg some (q9evS u7))⟩
    | k9 + 1, hq9 => exact nomatch (show (none : Option (Nat × q9AV × q9AV × q9ET)) = some p9 from hq9)
  · exact q9th_tX (T := T) (N := N) (P := P) (J := J) (t0 := t0) (Sc := Sc) (q9evS u4) (q9evZ u_) (q9evS u3) (by rw [q9FF_1400]; exact (q9q_t hq2 hen)) (by decide)
  · exact q9th_tX (T := T) (N := N) (P := P) (J := J) (t0 := t0) (Sc := Sc) (q9evS u4) (q9evZ u_) (q9evS u2) (by rw [q9FF_1401]; exact (q9q_t hq2 hcb)) (by decide)
  · exact q9th_tX (T := T) (N := N) (P := P) (J := J) (t0 := t0) (Sc := Sc) (q9evS u4) (q9evZ u_) (q9evS u5) (by rw [q9FF_1404]; exact (q9q_t hq2 het)) (by decide)
  · exact q9th_tX (T := T) (N := N) (P := P) (J := J) (t0 := t0) (Sc := Sc) (q9evS u4) (q9evZ u_) (q9evS u6) (by rw [q9FF_1409]; exact (q9q_t hq2 hds)) (by decide)
theorem q9ru_nxz (hT : ∀ i, 0 ≤ T i ∧ T i ≤ 255) (hN : 0 ≤ N ∧ N ≤ 400) (hSc : 0 ≤ Sc 1 ∧ Sc 1 ≤ 400 → N = Sc 1) : q9ruOK (fO T N P J t0 Sc) q9R_nxz := by
  intro w w0 hA hX hL hV hR
  obtain ⟨x0, ae0, -, -⟩ := hA 0 0 rfl
  obtain ⟨x1, ae1, -, -⟩ := hA 1 0 rfl
  obtain ⟨x2, ae2, -, -⟩ := hA 2 0 rfl
  obtain ⟨x3, ae3, -, -⟩ := hA 3 0 rfl
  obtain ⟨x4, ae4, -, -⟩ := hA 4 0 rfl
  obtain ⟨x5, ae5, -, -⟩ := hA 5 0 rfl
  have kz : (0 : Int32).toInt = 0 := rfl
  have X0 := q9th_pX (T := T) (N := N) (P := P) (J := J) (t0 := t0) (Sc := Sc) (op := 1400) (q9evS ae0) (q9evZ w0) (q9evS ae1) (hX _ (List.mem_of_getElem? (i := 0) rfl)) (by decide)
  rw [q9FF_1400] at X0
  have H0 := X0
  try simp only [kz] at H0
  have V0 := q9pV (T := T) (N := N) (P := P) (J := J) (t0 := t0) (Sc := Sc) (op := 1402) (n := 0) (q9evS ae0) (q9evZ w0) (hV _ (List.mem_of_getElem? (i := 0) rfl)) (by decide)
  rw [q9FF_1402] at V0
  have K0 := id V0
  try simp only [kz] at K0
  have L0 : (0 : Int32).toInt ≤ x0.toInt + 0 := q9pC (q9evZ w0) (q9evS ae0) (hL _ (List.mem_of_getElem? (i := 0) rfl))
  have L1 : (0 : Int32).toInt ≤ x1.toInt + 0 := q9pC (q9evZ w0) (q9evS ae1) (hL _ (List.mem_of_getElem? (i := 1) rfl))
  have X1 := q9th_pX (T := T) (N := N) (P := P) (J := J) (t0 := t0) (Sc := Sc) (op := 1401) (q9evS ae0) (q9evZ w0) (q9evS ae2) (hX _ (List.mem_of_getElem? (i := 1) rfl)) (by decide)
  rw [q9FF_1401] at X1
  have H1 := X1
  try simp only [kz] at H1
  have X2 := q9th_pX (T := T) (N := N) (P := P) (J := J) (t0 := t0) (Sc := Sc) (op := 1052) (q9evS ae1) (q9evZ w0) (q9evS ae3) (hX _ (List.mem_of_getElem? (i := 2) rfl)) (by decide)
  rw [q9FF_1052] at X2
  have H2 := q9chV_of X2
  try simp only [kz] at H2
  have X3 := q9th_pX (T := T) (N := N) (P := P) (J := J) (t0 := t0) (Sc := Sc) (op := 1407) (q9evS ae0) (q9evZ w0) (q9evS ae4) (hX _ (List.mem_of_getElem? (i := 3) rfl)) (by decide)
  rw [q9FF_1407] at X3
  have H3 := X3
  try simp only [kz] at H3
  have X4 := q9th_pX (T := T) (N := N) (P := P) (J := J) (t0 := t0) (Sc := Sc) (op := 1404) (q9evS ae0) (q9evZ w0) (q9evS ae5) (hX _ (List.mem_of_getElem? (i := 4) rfl)) (by decide)
  rw [q9FF_1404] at X4
  have H4 := X4
  try simp only [kz] at H4
  have L2 : x2.toInt ≤ x3.toInt + 0 := q9pC (q9evS ae2) (q9evS ae3) (hL _ (List.mem_of_getElem? (i := 2) rfl))
  obtain ⟨q, hq, hl⟩ := q9q_m H0
  have hl : q.1 = x1.toInt := hl
  obtain ⟨hf, ha, ho⟩ := q9q_of hq
  have W := q9plW_P hN.1 hf
  obtain ⟨⟨l1, l2, l3, l4⟩, ⟨l5, l6⟩, ⟨l7, l8, l9⟩, l10, l11, l12⟩ := q9q_ln hN.1 hf ha
  have hmr := q9mn_rng hN.1 hf l1 (show q.1 < szP T N P J by omega)
  have hk : x0.toInt - q.2.2.2.1 = 0 := q9q_r hq K0
  have hcb : q.2.1 = x2.toInt := q9q_r hq H1
  have hen : enP T N P J q.1 = x3.toInt := q9en_Q hN.1 hf l1 (by omega) (by rw [hl]; exact H2)
  have hlt : q.2.2.2.1 + lQ T N P J q.1 = x4.toInt := q9q_r hq H3
  have het : q.2.2.1 = x5.toInt := q9q_r hq H4
  have hb0 : bQ T N P J (enP T N P J q.1) q.2.1 = 0 := q9bD_no (by omega)
  have u_ : q9upN w 7 [] 0 = .int 0 := q9upN_of (by decide) w0
  have u0 : q9upN w 7 [] 1 = .int x0 := q9upN_of (by decide) ae0
  have u1 : q9upN w 7 [] 2 = .int x1 := q9upN_of (by decide) ae1
  have u2 : q9upN w 7 [] 3 = .int x2 := q9upN_of (by decide) ae2
  have u3 : q9upN w 7 [] 4 = .int x3 := q9upN_of (by decide) ae3
  have u4 : q9upN w 7 [] 5 = .int x4 := q9upN_of (by decide) ae4
  have u5 : q9upN w 7 [] 6 = .int x5 := q9upN_of (by decide) ae5
  refine ⟨[], fun i9 p9 hq9 => ?_, fun _ h => absurd h List.not_mem_nil, List.forall_mem_cons.mpr ⟨?_, List.forall_mem_cons.mpr ⟨?_, fun _ h => absurd h List.not_mem_nil⟩⟩⟩
  · exact nomatch (show (none : Option (Nat × q9AV × q9AV × q9ET)) = some p9 from hq9)
  · exact q9th_tC (d := 0) (q9evS u4) (q9evS u5) (by omega)
  · exact q9th_tC (d := 0) (q9evS u5) (q9evS u4) (by omega)
theorem q9ru_sl2 (hT : ∀ i, 0 ≤ T i ∧ T i ≤ 255) (hN : 0 ≤ N ∧ N ≤ 400) (hSc : 0 ≤ Sc 1 ∧ Sc 1 ≤ 400 → N = Sc 1) : q9ruOK (fO T N P J t0 Sc) q9R_sl2 := by
  intro w w0 hA hX hL hV hR
  obtain ⟨x0, ae0, -, -⟩ := hA 0 0 rfl
  obtain ⟨x1, ae1, -, -⟩ := hA 1 0 rfl
  have kz : (0 : Int32).toInt = 0 := rfl
  have X0 := q9th_pX (T := T) (N := N) (P := P) (J := J) (t0 := t0) (Sc := Sc) (op := 1400) (q9evS ae0) (q9evZ w0) (q9evS ae1) (hX _ (List.mem_of_getElem? (i := 0) rfl)) (by decide)
  rw [q9FF_1400] at X0
  have H0 := X0
  try simp only [kz] at H0
  have V0 := q9pV (T := T) (N := N) (P := P) (J := J) (t0 := t0) (Sc := Sc) (op := 1402) (n := 0) (q9evS ae0) (q9evZ w0) (hV _ (List.mem_of_getElem? (i := 0) rfl)) (by decide)
  rw [q9FF_1402] at V0
  have K0 := id V0
  try simp only [kz] at K0
  have L0 : (0 : Int32).toInt ≤ x0.toInt + 0 := q9pC (q9evZ w0) (q9evS ae0) (hL _ (List.mem_of_getElem? (i := 0) rfl))
  have L1 : (0 : Int32).toInt ≤ x1.toInt + 0 := q9pC (q9evZ w0) (q9evS ae1) (hL _ (List.mem_of_getElem? (i := 1) rfl))
  have V1 := q9pV (T := T) (N := N) (P := P) (J := J) (t0 := t0) (Sc := Sc) (op := 1050) (n := 2) (q9evS ae1) (q9evZ w0) (hV _ (List.mem_of_getElem? (i := 1) rfl)) (by decide)
  rw [q9FF_1050] at V1
  have K1 := q9chV_of V1
  try simp only [kz] at K1
  obtain ⟨q, hq, hl⟩ := q9q_m H0
  have hl : q.1 = x1.toInt := hl
  obtain ⟨hf, ha, ho⟩ := q9q_of hq
  have W := q9plW_P hN.1 hf
  obtain ⟨⟨l1, l2, l3, l4⟩, ⟨l5, l6⟩, ⟨l7, l8, l9⟩, l10, l11, l12⟩ := q9q_ln hN.1 hf ha
  have hmr := q9mn_rng hN.1 hf l1 (show q.1 < szP T N P J by omega)
  have hk : x0.toInt - q.2.2.2.1 = 0 := q9q_r hq K0
  have hkd : kdP T N P J q.1 = 2 := q9kd_Q (by rw [hl]; exact K1)
  have hlq : lQ T N P J q.1 = 1 := q9lD_no (by omega) (by omega)
  have rg0 : (1 : Int) ≤ (q.2.2.2.1 + lQ T N P J q.1) ∧ ((q.2.2.2.1 + lQ T N P J q.1) : Int) ≤ 4000 := by omega
  obtain ⟨x2, nt2⟩ : ∃ x : Int32, x.toInt = (q.2.2.2.1 + lQ T N P J q.1) := ⟨Int32.ofInt ((q.2.2.2.1 + lQ T N P J q.1)), q9oI_toInt (by omega)⟩
  have rg1 : (0 : Int) ≤ 0 ∧ (0 : Int) ≤ 0 := by omega
  obtain ⟨x3, nt3⟩ : ∃ x : Int32, x.toInt = 0 := ⟨Int32.ofInt (0), q9oI_toInt (by omega)⟩
  have u_ : q9upN w 3 [.int x2, .int x3] 0 = .int 0 := q9upN_of (by decide) w0
  have u0 : q9upN w 3 [.int x2, .int x3] 1 = .int x0 := q9upN_of (by decide) ae0
  have u1 : q9upN w 3 [.int x2, .int x3] 2 = .int x1 := q9upN_of (by decide) ae1
  have u2 : q9upN w 3 [.int x2, .int x3] 3 = .int x2 := q9upN_at (by decide)
  have u3 : q9upN w 3 [.int x2, .int x3] 4 = .int x3 := q9upN_at (by decide)
  refine ⟨[.int x2, .int x3], fun i9 p9 hq9 => ?_, fun _ h => absurd h List.not_mem_nil, List.forall_mem_cons.mpr ⟨?_, List.forall_mem_cons.mpr ⟨?_, fun _ h => absurd h List.not_mem_nil⟩⟩⟩
  · match i9, hq9 with
    | 0, hq9 =>
      have hp9 : ((1407, (1, 0), (0, 0), (0, 1, 4000)) : Nat × q9AV × q9AV × q9ET) = p9 := Option.some.inj hq9
      subst hp9
      exact ⟨⟨x2, rfl, by rw [nt2]; exact rg0.1, by rw [nt2]; exact rg0.2⟩, (q9th_tX (T := T) (N := N) (P := P) (J := J) (t0 := t0) (Sc := Sc) (q9evS u0) (q9evZ u_) (q9evS u2) (by rw [q9FF_1407, nt2]; exact (q9q_t hq rfl)) (by decide)).trans (congrArg some (q9evS u2))⟩
    | 1, hq9 =>
      have hp9 : ((1408, (1, 0), (0, 0), (0, 0, 0)) : Nat × q9AV × q9AV × q9ET) = p9 := Option.some.inj hq9
      subst hp9
      exact ⟨⟨x3, rfl, by rw [nt3]; exact rg1.1, by rw [nt3]; exact rg1.2⟩, (q9th_tX (T := T) (N := N) (P := P) (J := J) (t0 := t0) (Sc := Sc) (q9evS u0) (q9evZ u_) (q9evS u3) (by rw [q9FF_1408, nt3]; exact (q9q_t hq (q9tp_st (by omega) (by rw [hkd]; rfl)))) (by decide)).trans (congrArg some (q9evS u3))⟩
    | k9 + 2, hq9 => exact nomatch (show (none : Option (Nat × q9AV × q9AV × q9ET)) = some p9 from hq9)
  · exact q9th_tC (d := 1) (q9evS u2) (q9evS u0) (by omega)
  · exact q9th_tC (d := (-1)) (q9evS u0) (q9evS u2) (by omega)
theorem q9ru_sl3 (hT : ∀ i, 0 ≤ T i ∧ T i ≤ 255) (hN : 0 ≤ N ∧ N ≤ 400) (hSc : 0 ≤ Sc 1 ∧ Sc 1 ≤ 400 → N = Sc 1) : q9ruOK (fO T N P J t0 Sc) q9R_sl3 := by
  intro w w0 hA hX hL hV hR
  obtain ⟨x0, ae0, -, -⟩ := hA 0 0 rfl
  obtain ⟨x1, ae1, -, -⟩ := hA 1 0 rfl
  have kz : (0 : Int32).toInt = 0 := rfl
  have X0 := q9th_pX (T := T) (N := N) (P := P) (J := J) (t0 := t0) (Sc := Sc) (op := 1400) (q9evS ae0) (q9evZ w0) (q9evS ae1) (hX _ (List.mem_of_getElem? (i := 0) rfl)) (by decide)
  rw [q9FF_1400] at X0
  have H0 := X0
  try simp only [kz] at H0
  have V0 := q9pV (T := T) (N := N) (P := P) (J := J) (t0 := t0) (Sc := Sc) (op := 1402) (n := 0) (q9evS ae0) (q9evZ w0) (hV _ (List.mem_of_getElem? (i := 0) rfl)) (by decide)
  rw [q9FF_1402] at V0
  have K0 := id V0
  try simp only [kz] at K0
  have L0 : (0 : Int32).toInt ≤ x0.toInt + 0 := q9pC (q9evZ w0) (q9evS ae0) (hL _ (List.mem_of_getElem? (i := 0) rfl))
  have L1 : (0 : Int32).toInt ≤ x1.toInt + 0 := q9pC (q9evZ w0) (q9evS ae1) (hL _ (List.mem_of_getElem? (i := 1) rfl))
  have V1 := q9pV (T := T) (N := N) (P := P) (J := J) (t0 := t0) (Sc := Sc) (op := 1050) (n := 3) (q9evS ae1) (q9evZ w0) (hV _ (List.mem_of_getElem? (i := 1) rfl)) (by decide)
  rw [q9FF_1050] at V1
  have K1 := q9chV_of V1
  try simp only [kz] at K1
  obtain ⟨q, hq, hl⟩ := q9q_m H0
  have hl : q.1 = x1.toInt := hl
  obtain ⟨hf, ha, ho⟩ := q9q_of hq
  have W := q9plW_P hN.1 hf
  obtain ⟨⟨l1, l2, l3, l4⟩, ⟨l5, l6⟩, ⟨l7, l8, l9⟩, l10, l11, l12⟩ := q9q_ln hN.1 hf ha
  have hmr := q9mn_rng hN.1 hf l1 (show q.1 < szP T N P J by omega)
  have hk : x0.toInt - q.2.2.2.1 = 0 := q9q_r hq K0
  have hkd : kdP T N P J q.1 = 3 := q9kd_Q (by rw [hl]; exact K1)
  have hlq : lQ T N P J q.1 = 1 := q9lD_no (by omega) (by omega)
  have rg0 : (1 : Int) ≤ (q.2.2.2.1 + lQ T N P J q.1) ∧ ((q.2.2.2.1 + lQ T N P J q.1) : Int) ≤ 4000 := by omega
  obtain ⟨x2, nt2⟩ : ∃ x : Int32, x.toInt = (q.2.2.2.1 + lQ T N P J q.1) := ⟨Int32.ofInt ((q.2.2.2.1 + lQ T N P J q.1)), q9oI_toInt (by omega)⟩
  have rg1 : (0 : Int) ≤ 0 ∧ (0 : Int) ≤ 0 := by omega
  obtain ⟨x3, nt3⟩ : ∃ x : Int32, x.toInt = 0 := ⟨Int32.ofInt (0), q9oI_toInt (by omega)⟩
  have u_ : q9upN w 3 [.int x2, .int x3] 0 = .int 0 := q9upN_of (by decide) w0
  have u0 : q9upN w 3 [.int x2, .int x3] 1 = .int x0 := q9upN_of (by decide) ae0
  have u1 : q9upN w 3 [.int x2, .int x3] 2 = .int x1 := q9upN_of (by decide) ae1
  have u2 : q9upN w 3 [.int x2, .int x3] 3 = .int x2 := q9upN_at (by decide)
  have u3 : q9upN w 3 [.int x2, .int x3] 4 = .int x3 := q9upN_at (by decide)
  refine ⟨[.int x2, .int x3], fun i9 p9 hq9 => ?_, fun _ h => absurd h List.not_mem_nil, List.forall_mem_cons.mpr ⟨?_, List.forall_mem_cons.mpr ⟨?_, fun _ h => absurd h List.not_mem_nil⟩⟩⟩
  · match i9, hq9 with
    | 0, hq9 =>
      have hp9 : ((1407, (1, 0), (0, 0), (0, 1, 4000)) : Nat × q9AV × q9AV × q9ET) = p9 := Option.some.inj hq9
      subst hp9
      exact ⟨⟨x2, rfl, by rw [nt2]; exact rg0.1, by rw [nt2]; exact rg0.2⟩, (q9th_tX (T := T) (N := N) (P := P) (J := J) (t0 := t0) (Sc := Sc) (q9evS u0) (q9evZ u_) (q9evS u2) (by rw [q9FF_1407, nt2]; exact (q9q_t hq rfl)) (by decide)).trans (congrArg some (q9evS u2))⟩
    | 1, hq9 =>
      have hp9 : ((1408, (1, 0), (0, 0), (0, 0, 0)) : Nat × q9AV × q9AV × q9ET) = p9 := Option.some.inj hq9
      subst hp9
      exact ⟨⟨x3, rfl, by rw [nt3]; exact rg1.1, by rw [nt3]; exact rg1.2⟩, (q9th_tX (T := T) (N := N) (P := P) (J := J) (t0 := t0) (Sc := Sc) (q9evS u0) (q9evZ u_) (q9evS u3) (by rw [q9FF_1408, nt3]; exact (q9q_t hq (q9tp_st (by omega) (by rw [hkd]; rfl)))) (by decide)).trans (congrArg some (q9evS u3))⟩
    | k9 + 2, hq9 => exact nomatch (show (none : Option (Nat × q9AV × q9AV × q9ET)) = some p9 from hq9)
  · exact q9th_tC (d := 1) (q9evS u2) (q9evS u0) (by omega)
  · exact q9th_tC (d := (-1)) (q9evS u0) (q9evS u2) (by omega)
theorem q9ru_sl4 (hT : ∀ i, 0 ≤ T i ∧ T i ≤ 255) (hN : 0 ≤ N ∧ N ≤ 400) (hSc : 0 ≤ Sc 1 ∧ Sc 1 ≤ 400 → N = Sc 1) : q9ruOK (fO T N P J t0 Sc) q9R_sl4 := by
  intro w w0 hA hX hL hV hR
  obtain ⟨x0, ae0, -, -⟩ := hA 0 0 rfl
  obtain ⟨x1, ae1, -, -⟩ := hA 1 0 rfl
  have kz : (0 : Int32).toInt = 0 := rfl
  have X0 := q9th_pX (T := T) (N := N) (P := P) (J := J) (t0 := t0) (Sc := Sc) (op := 1400) (q9evS ae0) (q9evZ w0) (q9evS ae1) (hX _ (List.mem_of_getElem? (i := 0) rfl)) (by decide)
  rw [q9FF_1400] at X0
  have H0 := X0
  try simp only [kz] at H0
  have V0 := q9pV (T := T) (N := N) (P := P) (J := J) (t0 := t0) (Sc := Sc) (op := 1402) (n := 0) (q9evS ae0) (q9evZ w0) (hV _ (List.mem_of_getElem? (i := 0) rfl)) (by decide)
  rw [q9FF_1402] at V0
  have K0 := id V0
  try simp only [kz] at K0
  have L0 : (0 : Int32).toInt ≤ x0.toInt + 0 := q9pC (q9evZ w0) (q9evS ae0) (hL _ (List.mem_of_getElem? (i := 0) rfl))
  have L1 : (0 : Int32).toInt ≤ x1.toInt + 0 := q9pC (q9evZ w0) (q9evS ae1) (hL _ (List.mem_of_getElem? (i := 1) rfl))
  have V1 := q9pV (T := T) (N := N) (P := P) (J := J) (t0 := t0) (Sc := Sc) (op := 1050) (n := 4) (q9evS ae1) (q9evZ w0) (hV _ (List.mem_of_getElem? (i := 1) rfl)) (by decide)
  rw [q9FF_1050] at V1
  have K1 := q9chV_of V1
  try simp only [kz] at K1
  obtain ⟨q, hq, hl⟩ := q9q_m H0
  have hl : q.1 = x1.toInt := hl
  obtain ⟨hf, ha, ho⟩ := q9q_of hq
  have W := q9plW_P hN.1 hf
  obtain ⟨⟨l1, l2, l3, l4⟩, ⟨l5, l6⟩, ⟨l7, l8, l9⟩, l10, l11, l12⟩ := q9q_ln hN.1 hf ha
  have hmr := q9mn_rng hN.1 hf l1 (show q.1 < szP T N P J by omega)
  have hk : x0.toInt - q.2.2.2.1 = 0 := q9q_r hq K0
  have hkd : kdP T N P J q.1 = 4 := q9kd_Q (by rw [hl]; exact K1)
  have hlq : lQ T N P J q.1 = 1 := q9lD_no (by omega) (by omega)
  have rg0 : (1 : Int) ≤ (q.2.2.2.1 + lQ T N P J q.1) ∧ ((q.2.2.2.1 + lQ T N P J q.1) : Int) ≤ 4000 := by omega
  obtain ⟨x2, nt2⟩ : ∃ x : Int32, x.toInt = (q.2.2.2.1 + lQ T N P J q.1) := ⟨Int32.ofInt ((q.2.2.2.1 + lQ T N P J q.1)), q9oI_toInt (by omega)⟩
  have rg1 : (0 : Int) ≤ 0 ∧ (0 : Int) ≤ 0 := by omega
  obtain ⟨x3, nt3⟩ : ∃ x : Int32, x.toInt = 0 := ⟨Int32.ofInt (0), q9oI_toInt (by omega)⟩
  have u_ : q9upN w 3 [.int x2, .int x3] 0 = .int 0 := q9upN_of (by decide) w0
  have u0 : q9upN w 3 [.int x2, .int x3] 1 = .int x0 := q9upN_of (by decide) ae0
  have u1 : q9upN w 3 [.int x2, .int x3] 2 = .int x1 := q9upN_of (by decide) ae1
  have u2 : q9upN w 3 [.int x2, .int x3] 3 = .int x2 := q9upN_at (by decide)
  have u3 : q9upN w 3 [.int x2, .int x3] 4 = .int x3 := q9upN_at (by decide)
  refine ⟨[.int x2, .int x3], fun i9 p9 hq9 => ?_, fun _ h => absurd h List.not_mem_nil, List.forall_mem_cons.mpr ⟨?_, List.forall_mem_cons.mpr ⟨?_, fun _ h => absurd h List.not_mem_nil⟩⟩⟩
  · match i9, hq9 with
    | 0, hq9 =>
      have hp9 : ((1407, (1, 0), (0, 0), (0, 1, 4000)) : Nat × q9AV × q9AV × q9ET) = p9 := Option.some.inj hq9
      subst hp9
      exact ⟨⟨x2, rfl, by rw [nt2]; exact rg0.1, by rw [nt2]; exact rg0.2⟩, (q9th_tX (T := T) (N := N) (P := P) (J := J) (t0 := t0) (Sc := Sc) (q9evS u0) (q9evZ u_) (q9evS u2) (by rw [q9FF_1407, nt2]; exact (q9q_t hq rfl)) (by decide)).trans (congrArg some (q9evS u2))⟩
    | 1, hq9 =>
      have hp9 : ((1408, (1, 0), (0, 0), (0, 0, 0)) : Nat × q9AV × q9AV × q9ET) = p9 := Option.some.inj hq9
      subst hp9
      exact ⟨⟨x3, rfl, by rw [nt3]; exact rg1.1, by rw [nt3]; exact rg1.2⟩, (q9th_tX (T := T) (N := N) (P := P) (J := J) (t0 := t0) (Sc := Sc) (q9evS u0) (q9evZ u_) (q9evS u3) (by rw [q9FF_1408, nt3]; exact (q9q_t hq (q9tp_st (by omega) (by rw [hkd]; rfl)))) (by decide)).trans (congrArg some (q9evS u3))⟩
    | k9 + 2, hq9 => exact nomatch (show (none : Option (Nat × q9AV × q9AV × q9ET)) = some p9 from hq9)
  · exact q9th_tC (d := 1) (q9evS u2) (q9evS u0) (by omega)
  · exact q9th_tC (d := (-1)) (q9evS u0) (q9evS u2) (by omega)
theorem q9ru_sl5 (hT : ∀ i, 0 ≤ T i ∧ T i ≤ 255) (hN : 0 ≤ N ∧ N ≤ 400) (hSc : 0 ≤ Sc 1 ∧ Sc 1 ≤ 400 → N = Sc 1) : q9ruOK (fO T N P J t0 Sc) q9R_sl5 := by
  intro w w0 hA hX hL hV hR
  obtain ⟨x0, ae0, -, -⟩ := hA 0 0 rfl
  obtain ⟨x1, ae1, -, -⟩ := hA 1 0 rfl
  have kz : (0 : Int32).toInt = 0 := rfl
  have X0 := q9th_pX (T := T) (N := N) (P := P) (J := J) (t0 := t0) (Sc := Sc) (op := 1400) (q9evS ae0) (q9evZ w0) (q9evS ae1) (hX _ (List.mem_of_getElem? (i := 0) rfl)) (by decide)
  rw [q9FF_1400] at X0
  have H0 := X0
  try simp only [kz] at H0
  have V0 := q9pV (T := T) (N := N) (P := P) (J := J) (t0 := t0) (Sc := Sc) (op := 1402) (n := 0) (q9evS ae0) (q9evZ w0) (hV _ (List.mem_of_getElem? (i := 0) rfl)) (by decide)
  rw [q9FF_1402] at V0
  have K0 := id V0
  try simp only [kz] at K0
  have L0 : (0 : Int32).toInt ≤ x0.toInt + 0 := q9pC (q9evZ w0) (q9evS ae0) (hL _ (List.mem_of_getElem? (i := 0) rfl))
  have L1 : (0 : Int32).toInt ≤ x1.toInt + 0 := q9pC (q9evZ w0) (q9evS ae1) (hL _ (List.mem_of_getElem? (i := 1) rfl))
  have V1 := q9pV (T := T) (N := N) (P := P) (J := J) (t0 := t0) (Sc := Sc) (op := 1050) (n := 5) (q9evS ae1) (q9evZ w0) (hV _ (List.mem_of_getElem? (i := 1) rfl)) (by decide)
  rw [q9FF_1050] at V1
  have K1 := q9chV_of V1
  try simp only [kz] at K1
  obtain ⟨q, hq, hl⟩ := q9q_m H0
  have hl : q.1 = x1.toInt := hl
  obtain ⟨hf, ha, ho⟩ := q9q_of hq
  have W := q9plW_P hN.1 hf
  obtain ⟨⟨l1, l2, l3, l4⟩, ⟨l5, l6⟩, ⟨l7, l8, l9⟩, l10, l11, l12⟩ := q9q_ln hN.1 hf ha
  have hmr := q9mn_rng hN.1 hf l1 (show q.1 < szP T N P J by omega)
  have hk : x0.toInt - q.2.2.2.1 = 0 := q9q_r hq K0
  have hkd : kdP T N P J q.1 = 5 := q9kd_Q (by rw [hl]; exact K1)
  have hlq : lQ T N P J q.1 = 1 := q9lD_no (by omega) (by omega)
  have rg0 : (1 : Int) ≤ (q.2.2.2.1 + lQ T N P J q.1) ∧ ((q.2.2.2.1 + lQ T N P J q.1) : Int) ≤ 4000 := by omega
  obtain ⟨x2, nt2⟩ : ∃ x : Int32, x.toInt = (q.2.2.2.1 + lQ T N P J q.1) := ⟨Int32.ofInt ((q.2.2.2.1 + lQ T N P J q.1)), q9oI_toInt (by omega)⟩
  have rg1 : (0 : Int) ≤ 0 ∧ (0 : Int) ≤ 0 := by omega
  obtain ⟨x3, nt3⟩ : ∃ x : Int32, x.toInt = 0 := ⟨Int32.ofInt (0), q9oI_toInt (by omega)⟩
  have u_ : q9upN w 3 [.int x2, .int x3] 0 = .int 0 := q9upN_of (by decide) w0
  have u0 : q9upN w 3 [.int x2, .int x3] 1 = .int x0 := q9upN_of (by decide) ae0
  have u1 : q9upN w 3 [.int x2, .int x3] 2 = .int x1 := q9upN_of (by decide) ae1
  have u2 : q9upN w 3 [.int x2, .int x3] 3 = .int x2 := q9upN_at (by decide)
  have u3 : q9upN w 3 [.int x2, .int x3] 4 = .int x3 := q9upN_at (by decide)
  refine ⟨[.int x2, .int x3], fun i9 p9 hq9 => ?_, fun _ h => absurd h List.not_mem_nil, List.forall_mem_cons.mpr ⟨?_, List.forall_mem_cons.mpr ⟨?_, fun _ h => absurd h List.not_mem_nil⟩⟩⟩
  · match i9, hq9 with
    | 0, hq9 =>
      have hp9 : ((1407, (1, 0), (0, 0), (0, 1, 4000)) : Nat × q9AV × q9AV × q9ET) = p9 := Option.some.inj hq9
      subst hp9
      exact ⟨⟨x2, rfl, by rw [nt2]; exact rg0.1, by rw [nt2]; exact rg0.2⟩, (q9th_tX (T := T) (N := N) (P := P) (J := J) (t0 := t0) (Sc := Sc) (q9evS u0) (q9evZ u_) (q9evS u2) (by rw [q9FF_1407, nt2]; exact (q9q_t hq rfl)) (by decide)).trans (congrArg some (q9evS u2))⟩
    | 1, hq9 =>
      have hp9 : ((1408, (1, 0), (0, 0), (0, 0, 0)) : Nat × q9AV × q9AV × q9ET) = p9 := Option.some.inj hq9
      subst hp9
      exact ⟨⟨x3, rfl, by rw [nt3]; exact rg1.1, by rw [nt3]; exact rg1.2⟩, (q9th_tX (T := T) (N := N) (P := P) (J := J) (t0 := t0) (Sc := Sc) (q9evS u0) (q9evZ u_) (q9evS u3) (by rw [q9FF_1408, nt3]; exact (q9q_t hq (q9tp_st (by omega) (by rw [hkd]; rfl)))) (by decide)).trans (congrArg some (q9evS u3))⟩
    | k9 + 2, hq9 => exact nomatch (show (none : Option (Nat × q9AV × q9AV × q9ET)) = some p9 from hq9)
  · exact q9th_tC (d := 1) (q9evS u2) (q9evS u0) (by omega)
  · exact q9th_tC (d := (-1)) (q9evS u0) (q9evS u2) (by omega)
theorem q9ru_sl6 (hT : ∀ i, 0 ≤ T i ∧ T i ≤ 255) (hN : 0 ≤ N ∧ N ≤ 400) (hSc : 0 ≤ Sc 1 ∧ Sc 1 ≤ 400 → N = Sc 1) : q9ruOK (fO T N P J t0 Sc) q9R_sl6 := by
  intro w w0 hA hX hL hV hR
  obtain ⟨x0, ae0, -, -⟩ := hA 0 0 rfl
  obtain ⟨x1, ae1, -, -⟩ := hA 1 0 rfl
  have kz : (0 : Int32).toInt = 0 := rfl
  have X0 := q9th_pX (T := T) (N := N) (P := P) (J := J) (t0 := t0) (Sc := Sc) (op := 1400) (q9evS ae0) (q9evZ w0) (q9evS ae1) (hX _ (List.mem_of_getElem? (i := 0) rfl)) (by decide)
  rw [q9FF_1400] at X0
  have H0 := X0
  try simp only [kz] at H0
  have V0 := q9pV (T := T) (N := N) (P := P) (J := J) (t0 := t0) (Sc := Sc) (op := 1402) (n := 0) (q9evS ae0) (q9evZ w0) (hV _ (List.mem_of_getElem? (i := 0) rfl)) (by decide)
  rw [q9FF_1402] at V0
  have K0 := id V0
  try simp only [kz] at K0
  have L0 : (0 : Int32).toInt ≤ x0.toInt + 0 := q9pC (q9evZ w0) (q9evS ae0) (hL _ (List.mem_of_getElem? (i := 0) rfl))
  have L1 : (0 : Int32).toInt ≤ x1.toInt + 0 := q9pC (q9evZ w0) (q9evS ae1) (hL _ (List.mem_of_getElem? (i := 1) rfl))
  have V1 := q9pV (T := T) (N := N) (P := P) (J := J) (t0 := t0) (Sc := Sc) (op := 1050) (n := 6) (q9evS ae1) (q9evZ w0) (hV _ (List.mem_of_getElem? (i := 1) rfl)) (by decide)
  rw [q9FF_1050] at V1
  have K1 := q9chV_of V1
  try simp only [kz] at K1
  obtain ⟨q, hq, hl⟩ := q9q_m H0
  have hl : q.1 = x1.toInt := hl
  obtain ⟨hf, ha, ho⟩ := q9q_of hq
  have W := q9plW_P hN.1 hf
  obtain ⟨⟨l1, l2, l3, l4⟩, ⟨l5, l6⟩, ⟨l7, l8, l9⟩, l10, l11, l12⟩ := q9q_ln hN.1 hf ha
  have hmr := q9mn_rng hN.1 hf l1 (show q.1 < szP T N P J by omega)
  have hk : x0.toInt - q.2.2.2.1 = 0 := q9q_r hq K0
  have hkd : kdP T N P J q.1 = 6 := q9kd_Q (by rw [hl]; exact K1)
  have hlq : lQ T N P J q.1 = 1 := q9lD_no (by omega) (by omega)
  have rg0 : (1 : Int) ≤ (q.2.2.2.1 + lQ T N P J q.1) ∧ ((q.2.2.2.1 + lQ T N P J q.1) : Int) ≤ 4000 := by omega
  obtain ⟨x2, nt2⟩ : ∃ x : Int32, x.toInt = (q.2.2.2.1 + lQ T N P J q.1) := ⟨Int32.ofInt ((q.2.2.2.1 + lQ T N P J q.1)), q9oI_toInt (by omega)⟩
  have rg1 : (1 : Int) ≤ 1 ∧ (1 : Int) ≤ 1 := by omega
  obtain ⟨x3, nt3⟩ : ∃ x : Int32, x.toInt = 1 := ⟨Int32.ofInt (1), q9oI_toInt (by omega)⟩
  have u_ : q9upN w 3 [.int x2, .int x3] 0 = .int 0 := q9upN_of (by decide) w0
  have u0 : q9upN w 3 [.int x2, .int x3] 1 = .int x0 := q9upN_of (by decide) ae0
  have u1 : q9upN w 3 [.int x2, .int x3] 2 = .int x1 := q9upN_of (by decide) ae1
  have u2 : q9upN w 3 [.int x2, .int x3] 3 = .int x2 := q9upN_at (by decide)
  have u3 : q9upN w 3 [.int x2, .int x3] 4 = .int x3 := q9upN_at (by decide)
  refine ⟨[.int x2, .int x3], fun i9 p9 hq9 => ?_, fun _ h => absurd h List.not_mem_nil, List.forall_mem_cons.mpr ⟨?_, List.forall_mem_cons.mpr ⟨?_, fun _ h => absurd h List.not_mem_nil⟩⟩⟩
  · match i9, hq9 with
    | 0, hq9 =>
      have hp9 : ((1407, (1, 0), (0, 0), (0, 1, 4000)) : Nat × q9AV × q9AV × q9ET) = p9 := Option.some.inj hq9
      subst hp9
      exact ⟨⟨x2, rfl, by rw [nt2]; exact rg0.1, by rw [nt2]; exact rg0.2⟩, (q9th_tX (T := T) (N := N) (P := P) (J := J) (t0 := t0) (Sc := Sc) (q9evS u0) (q9evZ u_) (q9evS u2) (by rw [q9FF_1407, nt2]; exact (q9q_t hq rfl)) (by decide)).trans (congrArg some (q9evS u2))⟩
    | 1, hq9 =>
      have hp9 : ((1408, (1, 0), (0, 0), (0, 1, 1)) : Nat × q9AV × q9AV × q9ET) = p9 := Option.some.inj hq9
      subst hp9
      exact ⟨⟨x3, rfl, by rw [nt3]; exact rg1.1, by rw [nt3]; exact rg1.2⟩, (q9th_tX (T := T) (N := N) (P := P) (J := J) (t0 := t0) (Sc := Sc) (q9evS u0) (q9evZ u_) (q9evS u3) (by rw [q9FF_1408, nt3]; exact (q9q_t hq (q9tp_st (by omega) (by rw [hkd]; rfl)))) (by decide)).trans (congrArg some (q9evS u3))⟩
    | k9 + 2, hq9 => exact nomatch (show (none : Option (Nat × q9AV × q9AV × q9ET)) = some p9 from hq9)
  · exact q9th_tC (d := 1) (q9evS u2) (q9evS u0) (by omega)
  · exact q9th_tC (d := (-1)) (q9evS u0) (q9evS u2) (by omega)
theorem q9ru_h0_0 (hT : ∀ i, 0 ≤ T i ∧ T i ≤ 255) (hN : 0 ≤ N ∧ N ≤ 400) (hSc : 0 ≤ Sc 1 ∧ Sc 1 ≤ 400 → N = Sc 1) : q9ruOK (fO T N P J t0 Sc) q9R_h0_0 := by
  intro w w0 hA hX hL hV hR
  obtain ⟨x0, ae0, -, -⟩ := hA 0 0 rfl
  obtain ⟨x1, ae1, -, -⟩ := hA 1 0 rfl
  obtain ⟨x2, ae2, -, -⟩ := hA 2 0 rfl
  obtain ⟨x3, ae3, -, -⟩ := hA 3 0 rfl
  have kz : (0 : Int32).toInt = 0 := rfl
  have X0 := q9th_pX (T := T) (N := N) (P := P) (J := J) (t0 := t0) (Sc := Sc) (op := 1400) (q9evS ae0) (q9evZ w0) (q9evS ae1) (hX _ (List.mem_of_getElem? (i := 0) rfl)) (by decide)
  rw [q9FF_1400] at X0
  have H0 := X0
  try simp only [kz] at H0
  have V0 := q9pV (T := T) (N := N) (P := P) (J := J) (t0 := t0) (Sc := Sc) (op := 1402) (n := 0) (q9evS ae0) (q9evZ w0) (hV _ (List.mem_of_getElem? (i := 0) rfl)) (by decide)
  rw [q9FF_1402] at V0
  have K0 := id V0
  try simp only [kz] at K0
  have L0 : (0 : Int32).toInt ≤ x0.toInt + 0 := q9pC (q9evZ w0) (q9evS ae0) (hL _ (List.mem_of_getElem? (i := 0) rfl))
  have L1 : (0 : Int32).toInt ≤ x1.toInt + 0 := q9pC (q9evZ w0) (q9evS ae1) (hL _ (List.mem_of_getElem? (i := 1) rfl))
  have V1 := q9pV (T := T) (N := N) (P := P) (J := J) (t0 := t0) (Sc := Sc) (op := 1050) (n := 0) (q9evS ae1) (q9evZ w0) (hV _ (List.mem_of_getElem? (i := 1) rfl)) (by decide)
  rw [q9FF_1050] at V1
  have K1 := q9chV_of V1
  try simp only [kz] at K1
  have X1 := q9th_pX (T := T) (N := N) (P := P) (J := J) (t0 := t0) (Sc := Sc) (op := 1051) (q9evS ae1) (q9evZ w0) (q9evS ae2) (hX _ (List.mem_of_getElem? (i := 1) rfl)) (by decide)
  rw [q9FF_1051] at X1
  have H1 := q9chV_of X1
  try simp only [kz] at H1
  have X2 := q9th_pX (T := T) (N := N) (P := P) (J := J) (t0 := t0) (Sc := Sc) (op := 1407) (q9evS ae0) (q9evZ w0) (q9evS ae3) (hX _ (List.mem_of_getElem? (i := 2) rfl)) (by decide)
  rw [q9FF_1407] at X2
  have H2 := X2
  try simp only [kz] at H2
  obtain ⟨q, hq, hl⟩ := q9q_m H0
  have hl : q.1 = x1.toInt := hl
  obtain ⟨hf, ha, ho⟩ := q9q_of hq
  have W := q9plW_P hN.1 hf
  obtain ⟨⟨l1, l2, l3, l4⟩, ⟨l5, l6⟩, ⟨l7, l8, l9⟩, l10, l11, l12⟩ := q9q_ln hN.1 hf ha
  have hmr := q9mn_rng hN.1 hf l1 (show q.1 < szP T N P J by omega)
  have hk : x0.toInt - q.2.2.2.1 = 0 := q9q_r hq K0
  have hkd : kdP T N P J q.1 = 0 := q9kd_Q (by rw [hl]; exact K1)
  have hmn : mnP T N P J q.1 = x2.toInt := q9mn_Q (by rw [hl]; exact H1)
  have hlt : q.2.2.2.1 + lQ T N P J q.1 = x3.toInt := q9q_r hq H2
  have hlq : lQ T N P J q.1 = 1 + mnP T N P J q.1 := q9lD_fr (by omega)
  have hm1 := hmr.2.1 (by omega)
  have a1 := q9ad32 (x := x0) (d := 1) (by omega)
  have hq2 : qP T N P J (x0 + Int32.ofInt 1).toInt = some q := by rw [a1]; exact q9q_to hN.1 hf ha (q9ow_fr (by omega) (by omega) (by omega))
  have rg0 : (1 : Int) ≤ 1 ∧ (1 : Int) ≤ 1 := by omega
  obtain ⟨x4, nt4⟩ : ∃ x : Int32, x.toInt = 1 := ⟨Int32.ofInt (1), q9oI_toInt (by omega)⟩
  have rg1 : (0 : Int) ≤ 0 ∧ (0 : Int) ≤ 0 := by omega
  obtain ⟨x5, nt5⟩ : ∃ x : Int32, x.toInt = 0 := ⟨Int32.ofInt (0), q9oI_toInt (by omega)⟩
  have u_ : q9upN w 5 [.int x4, .int x5] 0 = .int 0 := q9upN_of (by decide) w0
  have u0 : q9upN w 5 [.int x4, .int x5] 1 = .int x0 := q9upN_of (by decide) ae0
  have u1 : q9upN w 5 [.int x4, .int x5] 2 = .int x1 := q9upN_of (by decide) ae1
  have u2 : q9upN w 5 [.int x4, .int x5] 3 = .int x2 := q9upN_of (by decide) ae2
  have u3 : q9upN w 5 [.int x4, .int x5] 4 = .int x3 := q9upN_of (by decide) ae3
  have u4 : q9upN w 5 [.int x4, .int x5] 5 = .int x4 := q9upN_at (by decide)
  have u5 : q9upN w 5 [.int x4, .int x5] 6 = .int x5 := q9upN_at (by decide)
  refine ⟨[.int x4, .int x5], fun i9 p9 hq9 => ?_, List.forall_mem_cons.mpr ⟨?_, List.forall_mem_cons.mpr ⟨?_, fun _ h => absurd h List.not_mem_nil⟩⟩, List.forall_mem_cons.mpr ⟨?_, fun _ h => absurd h List.not_mem_nil⟩⟩
  · match i9, hq9 with
    | 0, hq9 =>
      have hp9 : ((1402, (1, 1), (0, 0), (0, 1, 1)) : Nat × q9AV × q9AV × q9ET) = p9 := Option.some.inj hq9
      subst hp9
      exact ⟨⟨x4, rfl, by rw [nt4]; exact rg0.1, by rw [nt4]; exact rg0.2⟩, (q9th_tX (T := T) (N := N) (P := P) (J := J) (t0 := t0) (Sc := Sc) (q9evO u0 1) (q9evZ u_) (q9evS u4) (by rw [q9FF_1402, nt4]; exact (q9q_t hq2 (by show (x0 + Int32.ofInt 1).toInt - q.2.2.2.1 = 1; omega))) (by decide)).trans (congrArg some (q9evS u4))⟩
    | 1, hq9 =>
      have hp9 : ((1408, (1, 0), (0, 0), (0, 0, 0)) : Nat × q9AV × q9AV × q9ET) = p9 := Option.some.inj hq9
      subst hp9
      exact ⟨⟨x5, rfl, by rw [nt5]; exact rg1.1, by rw [nt5]; exact rg1.2⟩, (q9th_tX (T := T) (N := N) (P := P) (J := J) (t0 := t0) (Sc := Sc) (q9evS u0) (q9evZ u_) (q9evS u5) (by rw [q9FF_1408, nt5]; exact (q9q_t hq (q9tp_st (by omega) (by rw [hkd]; rfl)))) (by decide)).trans (congrArg some (q9evS u5))⟩
    | k9 + 2, hq9 => exact nomatch (show (none : Option (Nat × q9AV × q9AV × q9ET)) = some p9 from hq9)
  · exact q9th_tX (T := T) (N := N) (P := P) (J := J) (t0 := t0) (Sc := Sc) (q9evO u0 1) (q9evZ u_) (q9evS u1) (by rw [q9FF_1400]; exact (q9q_t hq2 hl)) (by decide)
  · exact q9th_tX (T := T) (N := N) (P := P) (J := J) (t0 := t0) (Sc := Sc) (q9evO u0 1) (q9evZ u_) (q9evS u3) (by rw [q9FF_1407]; exact (q9q_t hq2 hlt)) (by decide)
  · exact q9th_tC (d := (-2)) (q9evS u0) (q9evS u3) (by omega)
theorem q9ru_h0_1 (hT : ∀ i, 0 ≤ T i ∧ T i ≤ 255) (hN : 0 ≤ N ∧ N ≤ 400) (hSc : 0 ≤ Sc 1 ∧ Sc 1 ≤ 400 → N = Sc 1) : q9ruOK (fO T N P J t0 Sc) q9R_h0_1 := by
  intro w w0 hA hX hL hV hR
  obtain ⟨x0, ae0, -, -⟩ := hA 0 0 rfl
  obtain ⟨x1, ae1, -, -⟩ := hA 1 0 rfl
  obtain ⟨x2, ae2, -, -⟩ := hA 2 0 rfl
  obtain ⟨x3, ae3, -, -⟩ := hA 3 0 rfl
  have kz : (0 : Int32).toInt = 0 := rfl
  have X0 := q9th_pX (T := T) (N := N) (P := P) (J := J) (t0 := t0) (Sc := Sc) (op := 1400) (q9evS ae0) (q9evZ w0) (q9evS ae1) (hX _ (List.mem_of_getElem? (i := 0) rfl)) (by decide)
  rw [q9FF_1400] at X0
  have H0 := X0
  try simp only [kz] at H0
  have V0 := q9pV (T := T) (N := N) (P := P) (J := J) (t0 := t0) (Sc := Sc) (op := 1402) (n := 0) (q9evS ae0) (q9evZ w0) (hV _ (List.mem_of_getElem? (i := 0) rfl)) (by decide)
  rw [q9FF_1402] at V0
  have K0 := id V0
  try simp only [kz] at K0
  have L0 : (0 : Int32).toInt ≤ x0.toInt + 0 := q9pC (q9evZ w0) (q9evS ae0) (hL _ (List.mem_of_getElem? (i := 0) rfl))
  have L1 : (0 : Int32).toInt ≤ x1.toInt + 0 := q9pC (q9evZ w0) (q9evS ae1) (hL _ (List.mem_of_getElem? (i := 1) rfl))
  have V1 := q9pV (T := T) (N := N) (P := P) (J := J) (t0 := t0) (Sc := Sc) (op := 1050) (n := 1) (q9evS ae1) (q9evZ w0) (hV _ (List.mem_of_getElem? (i := 1) rfl)) (by decide)
  rw [q9FF_1050] at V1
  have K1 := q9chV_of V1
  try simp only [kz] at K1
  have X1 := q9th_pX (T := T) (N := N) (P := P) (J := J) (t0 := t0) (Sc := Sc) (op := 1051) (q9evS ae1) (q9evZ w0) (q9evS ae2) (hX _ (List.mem_of_getElem? (i := 1) rfl)) (by decide)
  rw [q9FF_1051] at X1
  have H1 := q9chV_of X1
  try simp only [kz] at H1
  have X2 := q9th_pX (T := T) (N := N) (P := P) (J := J) (t0 := t0) (Sc := Sc) (op := 1407) (q9evS ae0) (q9evZ w0) (q9evS ae3) (hX _ (List.mem_of_getElem? (i := 2) rfl)) (by decide)
  rw [q9FF_1407] at X2
  have H2 := X2
  try simp only [kz] at H2
  obtain ⟨q, hq, hl⟩ := q9q_m H0
  have hl : q.1 = x1.toInt := hl
  obtain ⟨hf, ha, ho⟩ := q9q_of hq
  have W := q9plW_P hN.1 hf
  obtain ⟨⟨l1, l2, l3, l4⟩, ⟨l5, l6⟩, ⟨l7, l8, l9⟩, l10, l11, l12⟩ := q9q_ln hN.1 hf ha
  have hmr := q9mn_rng hN.1 hf l1 (show q.1 < szP T N P J by omega)
  have hk : x0.toInt - q.2.2.2.1 = 0 := q9q_r hq K0
  have hkd : kdP T N P J q.1 = 1 := q9kd_Q (by rw [hl]; exact K1)
  have hmn : mnP T N P J q.1 = x2.toInt := q9mn_Q (by rw [hl]; exact H1)
  have hlt : q.2.2.2.1 + lQ T N P J q.1 = x3.toInt := q9q_r hq H2
  have hlq : lQ T N P J q.1 = 1 + mnP T N P J q.1 := q9lD_fr (by omega)
  have hm1 := hmr.2.1 (by omega)
  have a1 := q9ad32 (x := x0) (d := 1) (by omega)
  have hq2 : qP T N P J (x0 + Int32.ofInt 1).toInt = some q := by rw [a1]; exact q9q_to hN.1 hf ha (q9ow_fr (by omega) (by omega) (by omega))
  have rg0 : (1 : Int) ≤ 1 ∧ (1 : Int) ≤ 1 := by omega
  obtain ⟨x4, nt4⟩ : ∃ x : Int32, x.toInt = 1 := ⟨Int32.ofInt (1), q9oI_toInt (by omega)⟩
  have rg1 : (0 : Int) ≤ 0 ∧ (0 : Int) ≤ 0 := by omega
  obtain ⟨x5, nt5⟩ : ∃ x : Int32, x.toInt = 0 := ⟨Int32.ofInt (0), q9oI_toInt (by omega)⟩
  have u_ : q9upN w 5 [.int x4, .int x5] 0 = .int 0 := q9upN_of (by decide) w0
  have u0 : q9upN w 5 [.int x4, .int x5] 1 = .int x0 := q9upN_of (by decide) ae0
  have u1 : q9upN w 5 [.int x4, .int x5] 2 = .int x1 := q9upN_of (by decide) ae1
  have u2 : q9upN w 5 [.int x4, .int x5] 3 = .int x2 := q9upN_of (by decide) ae2
  have u3 : q9upN w 5 [.int x4, .int x5] 4 = .int x3 := q9upN_of (by decide) ae3
  have u4 : q9upN w 5 [.int x4, .int x5] 5 = .int x4 := q9upN_at (by decide)
  have u5 : q9upN w 5 [.int x4, .int x5] 6 = .int x5 := q9upN_at (by decide)
  refine ⟨[.int x4, .int x5], fun i9 p9 hq9 => ?_, List.forall_mem_cons.mpr ⟨?_, List.forall_mem_cons.mpr ⟨?_, fun _ h => absurd h List.not_mem_nil⟩⟩, List.forall_mem_cons.mpr ⟨?_, fun _ h => absurd h List.not_mem_nil⟩⟩
  · match i9, hq9 with
    | 0, hq9 =>
      have hp9 : ((1402, (1, 1), (0, 0), (0, 1, 1)) : Nat × q9AV × q9AV × q9ET) = p9 := Option.some.inj hq9
      subst hp9
      exact ⟨⟨x4, rfl, by rw [nt4]; exact rg0.1, by rw [nt4]; exact rg0.2⟩, (q9th_tX (T := T) (N := N) (P := P) (J := J) (t0 := t0) (Sc := Sc) (q9evO u0 1) (q9evZ u_) (q9evS u4) (by rw [q9FF_1402, nt4]; exact (q9q_t hq2 (by show (x0 + Int32.ofInt 1).toInt - q.2.2.2.1 = 1; omega))) (by decide)).trans (congrArg some (q9evS u4))⟩
    | 1, hq9 =>
      have hp9 : ((1408, (1, 0), (0, 0), (0, 0, 0)) : Nat × q9AV × q9AV × q9ET) = p9 := Option.some.inj hq9
      subst hp9
      exact ⟨⟨x5, rfl, by rw [nt5]; exact rg1.1, by rw [nt5]; exact rg1.2⟩, (q9th_tX (T := T) (N := N) (P := P) (J := J) (t0 := t0) (Sc := Sc) (q9evS u0) (q9evZ u_) (q9evS u5) (by rw [q9FF_1408, nt5]; exact (q9q_t hq (q9tp_st (by omega) (by rw [hkd]; rfl)))) (by decide)).trans (congrArg some (q9evS u5))⟩
    | k9 + 2, hq9 => exact nomatch (show (none : Option (Nat × q9AV × q9AV × q9ET)) = some p9 from hq9)
  · exact q9th_tX (T := T) (N := N) (P := P) (J := J) (t0 := t0) (Sc := Sc) (q9evO u0 1) (q9evZ u_) (q9evS u1) (by rw [q9FF_1400]; exact (q9q_t hq2 hl)) (by decide)
  · exact q9th_tX (T := T) (N := N) (P := P) (J := J) (t0 := t0) (Sc := Sc) (q9evO u0 1) (q9evZ u_) (q9evS u3) (by rw [q9FF_1407]; exact (q9q_t hq2 hlt)) (by decide)
  · exact q9th_tC (d := (-2)) (q9evS u0) (q9evS u3) (by omega)
theorem q9ru_h1_0 (hT : ∀ i, 0 ≤ T i ∧ T i ≤ 255) (hN : 0 ≤ N ∧ N ≤ 400) (hSc : 0 ≤ Sc 1 ∧ Sc 1 ≤ 400 → N = Sc 1) : q9ruOK (fO T N P J t0 Sc) q9R_h1_0 := by
  intro w w0 hA hX hL hV hR
  obtain ⟨x0, ae0, -, -⟩ := hA 0 0 rfl
  obtain ⟨x1, ae1, -, -⟩ := hA 1 0 rfl
  obtain ⟨x2, ae2, -, -⟩ := hA 2 0 rfl
  obtain ⟨x3, ae3, -, -⟩ := hA 3 0 rfl
  obtain ⟨x4, ae4, -, -⟩ := hA 4 0 rfl
  have kz : (0 : Int32).toInt = 0 := rfl
  have k1 : (Int32.ofInt 1).toInt = 1 := q9oI_toInt (by decide)
  have X0 := q9th_pX (T := T) (N := N) (P := P) (J := J) (t0 := t0) (Sc := Sc) (op := 1400) (q9evS ae0) (q9evZ w0) (q9evS ae1) (hX _ (List.mem_of_getElem? (i := 0) rfl)) (by decide)
  rw [q9FF_1400] at X0
  have H0 := X0
  try simp only [kz, k1] at H0
  have X1 := q9th_pX (T := T) (N := N) (P := P) (J := J) (t0 := t0) (Sc := Sc) (op := 1402) (q9evS ae0) (q9evZ w0) (q9evS ae2) (hX _ (List.mem_of_getElem? (i := 1) rfl)) (by decide)
  rw [q9FF_1402] at X1
  have H1 := X1
  try simp only [kz, k1] at H1
  have L0 : (Int32.ofInt 1).toInt ≤ x2.toInt + 0 := q9pC (q9evC w0 1) (q9evS ae2) (hL _ (List.mem_of_getElem? (i := 0) rfl))
  have X2 := q9th_pX (T := T) (N := N) (P := P) (J := J) (t0 := t0) (Sc := Sc) (op := 1051) (q9evS ae1) (q9evZ w0) (q9evS ae3) (hX _ (List.mem_of_getElem? (i := 2) rfl)) (by decide)
  rw [q9FF_1051] at X2
  have H2 := q9chV_of X2
  try simp only [kz, k1] at H2
  have X3 := q9th_pX (T := T) (N := N) (P := P) (J := J) (t0 := t0) (Sc := Sc) (op := 1407) (q9evS ae0) (q9evZ w0) (q9evS ae4) (hX _ (List.mem_of_getElem? (i := 3) rfl)) (by decide)
  rw [q9FF_1407] at X3
  have H3 := X3
  try simp only [kz, k1] at H3
  have L1 : (0 : Int32).toInt ≤ x0.toInt + 0 := q9pC (q9evZ w0) (q9evS ae0) (hL _ (List.mem_of_getElem? (i := 1) rfl))
  have L2 : (0 : Int32).toInt ≤ x1.toInt + 0 := q9pC (q9evZ w0) (q9evS ae1) (hL _ (List.mem_of_getElem? (i := 2) rfl))
  have V0 := q9pV (T := T) (N := N) (P := P) (J := J) (t0 := t0) (Sc := Sc) (op := 1050) (n := 0) (q9evS ae1) (q9evZ w0) (hV _ (List.mem_of_getElem? (i := 0) rfl)) (by decide)
  rw [q9FF_1050] at V0
  have K0 := q9chV_of V0
  try simp only [kz, k1] at K0
  have L3 : x2.toInt ≤ x3.toInt + (-1) := q9pC (q9evS ae2) (q9evS ae3) (hL _ (List.mem_of_getElem? (i := 3) rfl))
  obtain ⟨q, hq, hl⟩ := q9q_m H0
  have hl : q.1 = x1.toInt := hl
  obtain ⟨hf, ha, ho⟩ := q9q_of hq
  have W := q9plW_P hN.1 hf
  obtain ⟨⟨l1, l2, l3, l4⟩, ⟨l5, l6⟩, ⟨l7, l8, l9⟩, l10, l11, l12⟩ := q9q_ln hN.1 hf ha
  have hmr := q9mn_rng hN.1 hf l1 (show q.1 < szP T N P J by omega)
  have hkd : kdP T N P J q.1 = 0 := q9kd_Q (by rw [hl]; exact K0)
  have hk : x0.toInt - q.2.2.2.1 = x2.toInt := q9q_r hq H1
  have hmn : mnP T N P J q.1 = x3.toInt := q9mn_Q (by rw [hl]; exact H2)
  have hlt : q.2.2.2.1 + lQ T N P J q.1 = x4.toInt := q9q_r hq H3
  have hlq : lQ T N P J q.1 = 1 + mnP T N P J q.1 := q9lD_fr (by omega)
  have hm1 := hmr.2.1 (by omega)
  have a1 := q9ad32 (x := x0) (d := 1) (by omega)
  have hq2 : qP T N P J (x0 + Int32.ofInt 1).toInt = some q := by rw [a1]; exact q9q_to hN.1 hf ha (q9ow_fr (by omega) (by omega) (by omega))
  have rg0 : (2 : Int) ≤ 2 ∧ (2 : Int) ≤ 2 := by omega
  obtain ⟨x5, nt5⟩ : ∃ x : Int32, x.toInt = 2 := ⟨Int32.ofInt (2), q9oI_toInt (by omega)⟩
  have rg1 : (1 : Int) ≤ (x2.toInt + 1) ∧ ((x2.toInt + 1) : Int) ≤ 400 := by omega
  obtain ⟨x6, nt6⟩ : ∃ x : Int32, x.toInt = (x2.toInt + 1) := ⟨Int32.ofInt ((x2.toInt + 1)), q9oI_toInt (by omega)⟩
  have u_ : q9upN w 6 [.int x5, .int x6] 0 = .int 0 := q9upN_of (by decide) w0
  have u0 : q9upN w 6 [.int x5, .int x6] 1 = .int x0 := q9upN_of (by decide) ae0
  have u1 : q9upN w 6 [.int x5, .int x6] 2 = .int x1 := q9upN_of (by decide) ae1
  have u2 : q9upN w 6 [.int x5, .int x6] 3 = .int x2 := q9upN_of (by decide) ae2
  have u3 : q9upN w 6 [.int x5, .int x6] 4 = .int x3 := q9upN_of (by decide) ae3
  have u4 : q9upN w 6 [.int x5, .int x6] 5 = .int x4 := q9upN_of (by decide) ae4
  have u5 : q9upN w 6 [.int x5, .int x6] 6 = .int x5 := q9upN_at (by decide)
  have u6 : q9upN w 6 [.int x5, .int x6] 7 = .int x6 := q9upN_at (by decide)
  refine ⟨[.int x5, .int x6], fun i9 p9 hq9 => ?_, List.forall_mem_cons.mpr ⟨?_, List.forall_mem_cons.mpr ⟨?_, fun _ h => absurd h List.not_mem_nil⟩⟩, List.forall_mem_cons.mpr ⟨?_, List.forall_mem_cons.mpr ⟨?_, List.forall_mem_cons.mpr ⟨?_, fun _ h => absurd h List.not_mem_nil⟩⟩⟩⟩
  · match i9, hq9 with
    | 0, hq9 =>
      have hp9 : ((1408, (1, 0), (0, 0), (0, 2, 2)) : Nat × q9AV × q9AV × q9ET) = p9 := Option.some.inj hq9
      subst hp9
      exact ⟨⟨x5, rfl, by rw [nt5]; exact rg0.1, by rw [nt5]; exact rg0.2⟩, (q9th_tX (T := T) (N := N) (P := P) (J := J) (t0 := t0) (Sc := Sc) (q9evS u0) (q9evZ u_) (q9evS u5) (by rw [q9FF_1408, nt5]; exact (q9q_t hq (q9tp_fr (by omega)))) (by decide)).trans (congrArg some (q9evS u5))⟩
    | 1, hq9 =>
      have hp9 : ((1402, (1, 1), (0, 0), (0, 1, 400)) : Nat × q9AV × q9AV × q9ET) = p9 := Option.some.inj hq9
      subst hp9
      exact ⟨⟨x6, rfl, by rw [nt6]; exact rg1.1, by rw [nt6]; exact rg1.2⟩, (q9th_tX (T := T) (N := N) (P := P) (J := J) (t0 := t0) (Sc := Sc) (q9evO u0 1) (q9evZ u_) (q9evS u6) (by rw [q9FF_1402, nt6]; exact (q9q_t hq2 (by show (x0 + Int32.ofInt 1).toInt - q.2.2.2.1 = x2.toInt + 1; omega))) (by decide)).trans (congrArg some (q9evS u6))⟩
    | k9 + 2, hq9 => exact nomatch (show (none : Option (Nat × q9AV × q9AV × q9ET)) = some p9 from hq9)
  · exact q9th_tX (T := T) (N := N) (P := P) (J := J) (t0 := t0) (Sc := Sc) (q9evO u0 1) (q9evZ u_) (q9evS u1) (by rw [q9FF_1400]; exact (q9q_t hq2 hl)) (by decide)
  · exact q9th_tX (T := T) (N := N) (P := P) (J := J) (t0 := t0) (Sc := Sc) (q9evO u0 1) (q9evZ u_) (q9evS u4) (by rw [q9FF_1407]; exact (q9q_t hq2 hlt)) (by decide)
  · exact q9th_tC (d := (-2)) (q9evS u0) (q9evS u4) (by omega)
  · exact q9th_tC (d := 1) (q9evS u6) (q9evS u2) (by omega)
  · exact q9th_tC (d := (-1)) (q9evS u2) (q9evS u6) (by omega)
theorem q9ru_h2_0 (hT : ∀ i, 0 ≤ T i ∧ T i ≤ 255) (hN : 0 ≤ N ∧ N ≤ 400) (hSc : 0 ≤ Sc 1 ∧ Sc 1 ≤ 400 → N = Sc 1) : q9ruOK (fO T N P J t0 Sc) q9R_h2_0 := by
  intro w w0 hA hX hL hV hR
  obtain ⟨x0, ae0, -, -⟩ := hA 0 0 rfl
  obtain ⟨x1, ae1, -, -⟩ := hA 1 0 rfl
  obtain ⟨x2, ae2, -, -⟩ := hA 2 0 rfl
  obtain ⟨x3, ae3, -, -⟩ := hA 3 0 rfl
  obtain ⟨x4, ae4, -, -⟩ := hA 4 0 rfl
  have kz : (0 : Int32).toInt = 0 := rfl
  have k1 : (Int32.ofInt 1).toInt = 1 := q9oI_toInt (by decide)
  have X0 := q9th_pX (T := T) (N := N) (P := P) (J := J) (t0 := t0) (Sc := Sc) (op := 1400) (q9evS ae0) (q9evZ w0) (q9evS ae1) (hX _ (List.mem_of_getElem? (i := 0) rfl)) (by decide)
  rw [q9FF_1400] at X0
  have H0 := X0
  try simp only [kz, k1] at H0
  have X1 := q9th_pX (T := T) (N := N) (P := P) (J := J) (t0 := t0) (Sc := Sc) (op := 1402) (q9evS ae0) (q9evZ w0) (q9evS ae2) (hX _ (List.mem_of_getElem? (i := 1) rfl)) (by decide)
  rw [q9FF_1402] at X1
  have H1 := X1
  try simp only [kz, k1] at H1
  have L0 : (Int32.ofInt 1).toInt ≤ x2.toInt + 0 := q9pC (q9evC w0 1) (q9evS ae2) (hL _ (List.mem_of_getElem? (i := 0) rfl))
  have X2 := q9th_pX (T := T) (N := N) (P := P) (J := J) (t0 := t0) (Sc := Sc) (op := 1051) (q9evS ae1) (q9evZ w0) (q9evS ae3) (hX _ (List.mem_of_getElem? (i := 2) rfl)) (by decide)
  rw [q9FF_1051] at X2
  have H2 := q9chV_of X2
  try simp only [kz, k1] at H2
  have X3 := q9th_pX (T := T) (N := N) (P := P) (J := J) (t0 := t0) (Sc := Sc) (op := 1407) (q9evS ae0) (q9evZ w0) (q9evS ae4) (hX _ (List.mem_of_getElem? (i := 3) rfl)) (by decide)
  rw [q9FF_1407] at X3
  have H3 := X3
  try simp only [kz, k1] at H3
  have L1 : (0 : Int32).toInt ≤ x0.toInt + 0 := q9pC (q9evZ w0) (q9evS ae0) (hL _ (List.mem_of_getElem? (i := 1) rfl))
  have L2 : (0 : Int32).toInt ≤ x1.toInt + 0 := q9pC (q9evZ w0) (q9evS ae1) (hL _ (List.mem_of_getElem? (i := 2) rfl))
  have V0 := q9pV (T := T) (N := N) (P := P) (J := J) (t0 := t0) (Sc := Sc) (op := 1050) (n := 0) (q9evS ae1) (q9evZ w0) (hV _ (List.mem_of_getElem? (i := 0) rfl)) (by decide)
  rw [q9FF_1050] at V0
  have K0 := q9chV_of V0
  try simp only [kz, k1] at K0
  have L3 : x3.toInt ≤ x2.toInt + 0 := q9pC (q9evS ae3) (q9evS ae2) (hL _ (List.mem_of_getElem? (i := 3) rfl))
  obtain ⟨q, hq, hl⟩ := q9q_m H0
  have hl : q.1 = x1.toInt := hl
  obtain ⟨hf, ha, ho⟩ := q9q_of hq
  have W := q9plW_P hN.1 hf
  obtain ⟨⟨l1, l2, l3, l4⟩, ⟨l5, l6⟩, ⟨l7, l8, l9⟩, l10, l11, l12⟩ := q9q_ln hN.1 hf ha
  have hmr := q9mn_rng hN.1 hf l1 (show q.1 < szP T N P J by omega)
  have hkd : kdP T N P J q.1 = 0 := q9kd_Q (by rw [hl]; exact K0)
  have hk : x0.toInt - q.2.2.2.1 = x2.toInt := q9q_r hq H1
  have hmn : mnP T N P J q.1 = x3.toInt := q9mn_Q (by rw [hl]; exact H2)
  have hlt : q.2.2.2.1 + lQ T N P J q.1 = x4.toInt := q9q_r hq H3
  have hlq : lQ T N P J q.1 = 1 + mnP T N P J q.1 := q9lD_fr (by omega)
  have hm1 := hmr.2.1 (by omega)
  have a1 := q9ad32 (x := x0) (d := 1) (by omega)
  have hw := q9fr_Q ha ho (by omega)
  have rg0 : (2 : Int) ≤ 2 ∧ (2 : Int) ≤ 2 := by omega
  obtain ⟨x5, nt5⟩ : ∃ x : Int32, x.toInt = 2 := ⟨Int32.ofInt (2), q9oI_toInt (by omega)⟩
  have u_ : q9upN w 6 [.int x5] 0 = .int 0 := q9upN_of (by decide) w0
  have u0 : q9upN w 6 [.int x5] 1 = .int x0 := q9upN_of (by decide) ae0
  have u1 : q9upN w 6 [.int x5] 2 = .int x1 := q9upN_of (by decide) ae1
  have u2 : q9upN w 6 [.int x5] 3 = .int x2 := q9upN_of (by decide) ae2
  have u3 : q9upN w 6 [.int x5] 4 = .int x3 := q9upN_of (by decide) ae3
  have u4 : q9upN w 6 [.int x5] 5 = .int x4 := q9upN_of (by decide) ae4
  have u5 : q9upN w 6 [.int x5] 6 = .int x5 := q9upN_at (by decide)
  refine ⟨[.int x5], fun i9 p9 hq9 => ?_, fun _ h => absurd h List.not_mem_nil, List.forall_mem_cons.mpr ⟨?_, List.forall_mem_cons.mpr ⟨?_, fun _ h => absurd h List.not_mem_nil⟩⟩⟩
  · match i9, hq9 with
    | 0, hq9 =>
      have hp9 : ((1408, (1, 0), (0, 0), (0, 2, 2)) : Nat × q9AV × q9AV × q9ET) = p9 := Option.some.inj hq9
      subst hp9
      exact ⟨⟨x5, rfl, by rw [nt5]; exact rg0.1, by rw [nt5]; exact rg0.2⟩, (q9th_tX (T := T) (N := N) (P := P) (J := J) (t0 := t0) (Sc := Sc) (q9evS u0) (q9evZ u_) (q9evS u5) (by rw [q9FF_1408, nt5]; exact (q9q_t hq (q9tp_fr (by omega)))) (by decide)).trans (congrArg some (q9evS u5))⟩
    | k9 + 1, hq9 => exact nomatch (show (none : Option (Nat × q9AV × q9AV × q9ET)) = some p9 from hq9)
  · exact q9th_tC (d := 1) (q9evS u4) (q9evS u0) (by omega)
  · exact q9th_tC (d := (-1)) (q9evS u0) (q9evS u4) (by omega)
theorem q9ruP_14 (hT : ∀ i, 0 ≤ T i ∧ T i ≤ 255) (hN : 0 ≤ N ∧ N ≤ 400) (hSc : 0 ≤ Sc 1 ∧ Sc 1 ≤ 400 → N = Sc 1) : ∀ q ∈ q9RULES_14, q9ruOK (fO T N P J t0 Sc) q := List.forall_mem_cons.mpr ⟨q9ru_da0 hT hN hSc, List.forall_mem_cons.mpr ⟨q9ru_da1 hT hN hSc, List.forall_mem_cons.mpr ⟨q9ru_da6 hT hN hSc, List.forall_mem_cons.mpr ⟨q9ru_dw6 hT hN hSc, List.forall_mem_cons.mpr ⟨q9ru_dv6 hT hN hSc, List.forall_mem_cons.mpr ⟨q9ru_de6 hT hN hSc, List.forall_mem_cons.mpr ⟨q9ru_de1 hT hN hSc, List.forall_mem_cons.mpr ⟨q9ru_ne0 hT hN hSc, List.forall_mem_cons.mpr ⟨q9ru_ne1 hT hN hSc, List.forall_mem_cons.mpr ⟨q9ru_ne2 hT hN hSc, List.forall_mem_cons.mpr ⟨q9ru_ne3 hT hN hSc, List.forall_mem_cons.mpr ⟨q9ru_ne4 hT hN hSc, List.forall_mem_cons.mpr ⟨q9ru_ne5 hT hN hSc, List.forall_mem_cons.mpr ⟨q9ru_ne6 hT hN hSc, List.forall_mem_cons.mpr ⟨q9ru_cce hT hN hSc, List.forall_mem_cons.mpr ⟨q9ru_pl0 hT hN hSc, List.forall_mem_cons.mpr ⟨q9ru_ax0_0 hT hN hSc, List.forall_mem_cons.mpr ⟨q9ru_ax0_1 hT hN hSc, List.forall_mem_cons.mpr ⟨q9ru_ax0_2 hT hN hSc, List.forall_mem_cons.mpr ⟨q9ru_blk hT hN hSc, List.forall_mem_cons.mpr ⟨q9ru_een0 hT hN hSc, List.forall_mem_cons.mpr ⟨q9ru_een1 hT hN hSc, List.forall_mem_cons.mpr ⟨q9ru_een2 hT hN hSc, List.forall_mem_cons.mpr ⟨q9ru_een3 hT hN hSc, List.forall_mem_cons.mpr ⟨q9ru_een4 hT hN hSc, List.forall_mem_cons.mpr ⟨q9ru_een5 hT hN hSc, List.forall_mem_cons.mpr ⟨q9ru_een6 hT hN hSc, List.forall_mem_cons.mpr ⟨q9ru_elt hT hN hSc, List.forall_mem_cons.mpr ⟨q9ru_eet hT hN hSc, List.forall_mem_cons.mpr ⟨q9ru_nxt hT hN hSc, List.forall_mem_cons.mpr ⟨q9ru_nxz hT hN hSc, List.forall_mem_cons.mpr ⟨q9ru_sl2 hT hN hSc, List.forall_mem_cons.mpr ⟨q9ru_sl3 hT hN hSc, List.forall_mem_cons.mpr ⟨q9ru_sl4 hT hN hSc, List.forall_mem_cons.mpr ⟨q9ru_sl5 hT hN hSc, List.forall_mem_cons.mpr ⟨q9ru_sl6 hT hN hSc, List.forall_mem_cons.mpr ⟨q9ru_h0_0 hT hN hSc, List.forall_mem_cons.mpr ⟨q9ru_h0_1 hT hN hSc, List.forall_mem_cons.mpr ⟨q9ru_h1_0 hT hN hSc, List.forall_mem_cons.mpr ⟨q9ru_h2_0 hT hN hSc, fun _ h => absurd h List.not_mem_nil⟩⟩⟩⟩⟩⟩⟩⟩⟩⟩⟩⟩⟩⟩⟩⟩⟩⟩⟩⟩⟩⟩⟩⟩⟩⟩⟩⟩⟩⟩⟩⟩⟩⟩⟩⟩⟩⟩⟩⟩
end RUL
