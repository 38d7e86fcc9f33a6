section RUL
variable {T : Int → Int} {N P : Int} {J : Int → Int} {t0 : Int} {Sc : Int → Int}
theorem q9ru_cl0 (hT : ∀ i, 0 ≤ T i ∧ T i ≤ 255) (hN : 0 ≤ N ∧ N ≤ 400) (hSc : 0 ≤ Sc 1 ∧ Sc 1 ≤ 400 → N = Sc 1) : q9ruOK (fO T N P J t0 Sc) q9R_cl0 := by
  intro w w0 hA hX hL hV hR
  obtain ⟨x0, ae0, -, -⟩ := hA 0 0 rfl
  obtain ⟨x1, ae1, -, -⟩ := hA 1 0 rfl
  obtain ⟨x2, ae2, -, -⟩ := hA 2 0 rfl
  obtain ⟨x3, ae3, -, -⟩ := hA 3 0 rfl
  obtain ⟨x4, ae4, -, -⟩ := hA 4 0 rfl
  obtain ⟨x5, ae5, -, -⟩ := hA 5 0 rfl
  obtain ⟨x6, ae6, -, -⟩ := hA 6 0 rfl
  obtain ⟨x7, ae7, -, -⟩ := hA 7 0 rfl
  obtain ⟨x8, ae8, -, -⟩ := hA 8 0 rfl
  obtain ⟨x9, ae9, -, -⟩ := hA 9 1 rfl
  obtain ⟨x10, ae10, -, -⟩ := hA 10 1 rfl
  have kz : (0 : Int32).toInt = 0 := rfl
  have k4 : (Int32.ofInt 4).toInt = 4 := q9oI_toInt (by decide)
  have k59 : (Int32.ofInt 59).toInt = 59 := q9oI_toInt (by decide)
  have k60 : (Int32.ofInt 60).toInt = 60 := q9oI_toInt (by decide)
  have V0 := q9pV (T := T) (N := N) (P := P) (J := J) (t0 := t0) (Sc := Sc) (op := 1027) (n := 1) (q9evS ae0) (q9evZ w0) (hV _ (List.mem_of_getElem? (i := 0) rfl)) (by decide)
  rw [q9FF_1027] at V0
  have K0 := q9chV_of V0
  try simp only [kz, k4, k59, k60] at K0
  have X0 := q9th_pX (T := T) (N := N) (P := P) (J := J) (t0 := t0) (Sc := Sc) (op := 1021) (q9evS ae0) (q9evZ w0) (q9evS ae8) (hX _ (List.mem_of_getElem? (i := 0) rfl)) (by decide)
  rw [q9FF_1021] at X0
  have H0 := q9chV_of X0
  try simp only [kz, k4, k59, k60] at H0
  have X1 := q9th_pX (T := T) (N := N) (P := P) (J := J) (t0 := t0) (Sc := Sc) (op := 1022) (q9evS ae0) (q9evZ w0) (q9evS ae6) (hX _ (List.mem_of_getElem? (i := 1) rfl)) (by decide)
  rw [q9FF_1022] at X1
  have H1 := q9chV_of X1
  try simp only [kz, k4, k59, k60] at H1
  have L0 : (0 : Int32).toInt ≤ x0.toInt + 0 := q9pC (q9evZ w0) (q9evS ae0) (hL _ (List.mem_of_getElem? (i := 0) rfl))
  have L1 : (0 : Int32).toInt ≤ x6.toInt + 0 := q9pC (q9evZ w0) (q9evS ae6) (hL _ (List.mem_of_getElem? (i := 1) rfl))
  have L2 : x6.toInt ≤ (Int32.ofInt 60).toInt + 0 := q9pC (q9evS ae6) (q9evC w0 60) (hL _ (List.mem_of_getElem? (i := 2) rfl))
  have L3 : (0 : Int32).toInt ≤ x8.toInt + 0 := q9pC (q9evZ w0) (q9evS ae8) (hL _ (List.mem_of_getElem? (i := 3) rfl))
  have L4 : x8.toInt ≤ (Int32.ofInt 4).toInt + 0 := q9pC (q9evS ae8) (q9evC w0 4) (hL _ (List.mem_of_getElem? (i := 4) rfl))
  have X2 := q9th_pX (T := T) (N := N) (P := P) (J := J) (t0 := t0) (Sc := Sc) (op := 1002) (q9evS ae0) (q9evZ w0) (q9evS ae1) (hX _ (List.mem_of_getElem? (i := 2) rfl)) (by decide)
  rw [q9FF_1002] at X2
  have H2 := Option.some.inj X2
  try simp only [kz, k4, k59, k60] at H2
  have V1 := q9pV (T := T) (N := N) (P := P) (J := J) (t0 := t0) (Sc := Sc) (op := 1013) (n := 0) (q9evS ae1) (q9evZ w0) (hV _ (List.mem_of_getElem? (i := 1) rfl)) (by decide)
  rw [q9FF_1013] at V1
  have K1 := Option.some.inj V1
  try simp only [kz, k4, k59, k60] at K1
  have X3 := q9th_pX (T := T) (N := N) (P := P) (J := J) (t0 := t0) (Sc := Sc) (op := 1003) (q9evS ae1) (q9evZ w0) (q9evS ae2) (hX _ (List.mem_of_getElem? (i := 3) rfl)) (by decide)
  rw [q9FF_1003] at X3
  have H3 := Option.some.inj X3
  try simp only [kz, k4, k59, k60] at H3
  have V2 := q9pV (T := T) (N := N) (P := P) (J := J) (t0 := t0) (Sc := Sc) (op := 1200) (n := 0) (q9evS ae2) (q9evZ w0) (hV _ (List.mem_of_getElem? (i := 2) rfl)) (by decide)
  rw [q9FF_1200] at V2
  have K2 := Option.some.inj V2
  try simp only [kz, k4, k59, k60] at K2
  have X4 := q9th_pX (T := T) (N := N) (P := P) (J := J) (t0 := t0) (Sc := Sc) (op := 1201) (q9evS ae2) (q9evZ w0) (q9evS ae3) (hX _ (List.mem_of_getElem? (i := 4) rfl)) (by decide)
  rw [q9FF_1201] at X4
  have H4 := Option.some.inj X4
  try simp only [kz, k4, k59, k60] at H4
  have X5 := q9th_pX (T := T) (N := N) (P := P) (J := J) (t0 := t0) (Sc := Sc) (op := 1002) (q9evS ae3) (q9evZ w0) (q9evS ae4) (hX _ (List.mem_of_getElem? (i := 5) rfl)) (by decide)
  rw [q9FF_1002] at X5
  have H5 := Option.some.inj X5
  try simp only [kz, k4, k59, k60] at H5
  have V3 := q9pV (T := T) (N := N) (P := P) (J := J) (t0 := t0) (Sc := Sc) (op := 1009) (n := 1) (q9evS ae4) (q9evC w0 59) (hV _ (List.mem_of_getElem? (i := 3) rfl)) (by decide)
  rw [q9FF_1009] at V3
  have K3 := Option.some.inj V3
  try simp only [kz, k4, k59, k60] at K3
  have L5 : x5.toInt ≤ x4.toInt + 1 := q9pC (q9evS ae5) (q9evS ae4) (hL _ (List.mem_of_getElem? (i := 5) rfl))
  have L6 : x4.toInt ≤ x5.toInt + (-1) := q9pC (q9evS ae4) (q9evS ae5) (hL _ (List.mem_of_getElem? (i := 6) rfl))
  have L7 : x6.toInt ≤ (Int32.ofInt 59).toInt + 0 := q9pC (q9evS ae6) (q9evC w0 59) (hL _ (List.mem_of_getElem? (i := 7) rfl))
  have L8 : x7.toInt ≤ x6.toInt + 1 := q9pC (q9evS ae7) (q9evS ae6) (hL _ (List.mem_of_getElem? (i := 8) rfl))
  have L9 : x6.toInt ≤ x7.toInt + (-1) := q9pC (q9evS ae6) (q9evS ae7) (hL _ (List.mem_of_getElem? (i := 9) rfl))
  have X6 := q9pL (T := T) (N := N) (P := P) (J := J) (t0 := t0) (Sc := Sc) (op := 1029) (q9evS ae0) (q9evZ w0) (q9evS ae9) (hX _ (List.mem_of_getElem? (i := 6) rfl)) (by decide)
  rw [q9FL_1029] at X6
  have H6 := q9chV_of X6
  try simp only [kz, k4, k59, k60] at H6
  have X7 := q9pL (T := T) (N := N) (P := P) (J := J) (t0 := t0) (Sc := Sc) (op := 1028) (q9evS ae0) (q9evZ w0) (q9evS ae10) (hX _ (List.mem_of_getElem? (i := 7) rfl)) (by decide)
  rw [q9FL_1028] at X7
  have H7 := q9chV_of X7
  try simp only [kz, k4, k59, k60] at H7
  obtain ⟨c, hv, hc, h8, h9, -⟩ := K0
  have hd : x8.toInt + 1 = c.2.2.length := q9th_at_of hv hc H0
  have hz : x6.toInt = c.2.1 := q9th_at_of hv hc H1
  have hb : q9spI T N c.1 = x1.toInt := by rw [hc]; exact H2
  obtain ⟨q, st, hst⟩ : ∃ q st, c.2.2 = q :: st := by
    cases hh : c.2.2 with
    | nil => exfalso; rw [hh, List.length_nil] at hd; omega
    | cons q st => exact ⟨q, st, rfl⟩
  have hl2 : c.2.2.length = st.length + 1 := by rw [hst, List.length_cons]
  have hk : q9kbI T N (q9spI T N c.1) = 0 := by rw [hb]; exact K1
  have hl : q9lkI T N c = 0 := by rw [q9lk_of h8 (by omega), hk]
  have he : q9weI T N x1.toInt = x2.toInt := H3
  have hr : q9rcI T N P J c = (0, x3.toInt) := by unfold q9rcI q9rsI; rw [hl, hb, he]; exact Prod.ext K2 H4
  have hok : q9okL T N P J c := ⟨by omega, by omega, by omega, fun h => by omega, by rw [hr]⟩
  have hs4 : q9spI T N x3.toInt = x4.toInt := H5
  have hn := q9nx_line hst (by omega) (by omega) (by omega) hr rfl (by rw [hs4]; exact q9is_1 K3 (by omega))
  generalize hg : ((q9spI T N ((0, x3.toInt) : q9TK2).2 + 1, c.2.1 + 1, (q.1, q.2.1, (if q9lkI T N c ≤ 1 then q.2.2.1 + Int64.ofInt (q9amI T N P J (q9lkI T N c) (q9weI T N (q9spI T N c.1))) else q.2.2.1), q.2.2.2 + 1) :: st) : q9CF9) = c' at hn
  have hv' := q9vis_next hv hn
  have hc' : c'.1 = x5.toInt := by rw [← hg]; show q9spI T N x3.toInt + 1 = _; omega
  have hst' : c'.2.2 = (q.1, q.2.1, (if q9lkI T N c ≤ 1 then q.2.2.1 + Int64.ofInt (q9amI T N P J (q9lkI T N c) (q9weI T N (q9spI T N c.1))) else q.2.2.1), q.2.2.2 + 1) :: st := by rw [← hg]
  have hd' : x8.toInt + 1 = c'.2.2.length := by rw [hst', List.length_cons]; omega
  have hz' : x7.toInt = c'.2.1 := by rw [← hg]; show _ = c.2.1 + 1; omega
  have hf : q9lkI T N c ≤ 1 ∧ ∃ q st, c.2.2 = q :: st ∧ x9 = q.2.2.1 + Int64.ofInt (q9amI T N P J (q9lkI T N c) (q9weI T N (q9spI T N c.1))) := q9th_at_of hv hc H6
  obtain ⟨-, q0, st0, f1, f2⟩ := hf
  rw [hst] at f1
  cases f1
  rw [if_pos (by omega), ← f2] at hst'
  have hg2 : ∃ q st, c.2.2 = q :: st ∧ x10 = q.2.2.2 + 1 := q9th_at_of hv hc H7
  obtain ⟨q1, st1, g1, g2⟩ := hg2
  rw [hst] at g1
  cases g1
  rw [← g2] at hst'
  have rg0 : (1 : Int) ≤ 1 ∧ (1 : Int) ≤ 1 := by omega
  obtain ⟨x11, nt11⟩ : ∃ x : Int32, x.toInt = 1 := ⟨Int32.ofInt (1), q9oI_toInt (by omega)⟩
  have rg1 : (0 : Int) ≤ 0 ∧ (0 : Int) ≤ 0 := by omega
  obtain ⟨x12, nt12⟩ : ∃ x : Int32, x.toInt = 0 := ⟨Int32.ofInt (0), q9oI_toInt (by omega)⟩
  have u_ : q9upN w 12 [.int x11, .int x12] 0 = .int 0 := q9upN_of (by decide) w0
  have u0 : q9upN w 12 [.int x11, .int x12] 1 = .int x0 := q9upN_of (by decide) ae0
  have u1 : q9upN w 12 [.int x11, .int x12] 2 = .int x1 := q9upN_of (by decide) ae1
  have u2 : q9upN w 12 [.int x11, .int x12] 3 = .int x2 := q9upN_of (by decide) ae2
  have u3 : q9upN w 12 [.int x11, .int x12] 4 = .int x3 := q9upN_of (by decide) ae3
  have u4 : q9upN w 12 [.int x11, .int x12] 5 = .int x4 := q9upN_of (by decide) ae4
  have u5 : q9upN w 12 [.int x11, .int x12] 6 = .int x5 := q9upN_of (by decide) ae5
  have u6 : q9upN w 12 [.int x11, .int x12] 7 = .int x6 := q9upN_of (by decide) ae6
  have u7 : q9upN w 12 [.int x11, .int x12] 8 = .int x7 := q9upN_of (by decide) ae7
  have u8 : q9upN w 12 [.int x11, .int x12] 9 = .int x8 := q9upN_of (by decide) ae8
  have u9 : q9upN w 12 [.int x11, .int x12] 10 = .long x9 := q9upN_of (by decide) ae9
  have u10 : q9upN w 12 [.int x11, .int x12] 11 = .long x10 := q9upN_of (by decide) ae10
  have u11 : q9upN w 12 [.int x11, .int x12] 12 = .int x11 := q9upN_at (by decide)
  have u12 : q9upN w 12 [.int x11, .int x12] 13 = .int x12 := q9upN_at (by decide)
  refine ⟨[.int x11, .int x12], fun i9 p9 hq9 => ?_, List.forall_mem_cons.mpr ⟨?_, List.forall_mem_cons.mpr ⟨?_, List.forall_mem_cons.mpr ⟨?_, List.forall_mem_cons.mpr ⟨?_, List.forall_mem_cons.mpr ⟨?_, fun _ h => absurd h List.not_mem_nil⟩⟩⟩⟩⟩, List.forall_mem_cons.mpr ⟨?_, fun _ h => absurd h List.not_mem_nil⟩⟩
  · match i9, hq9 with
    | 0, hq9 =>
      have hp9 : ((1020, (6, 0), (0, 0), (0, 1, 1)) : Nat × q9AV × q9AV × q9ET) = p9 := Option.some.inj hq9
      subst hp9
      exact ⟨⟨x11, rfl, by rw [nt11]; exact rg0.1, by rw [nt11]; exact rg0.2⟩, (q9th_tX (T := T) (N := N) (P := P) (J := J) (t0 := t0) (Sc := Sc) (q9evS u5) (q9evZ u_) (q9evS u11) (by rw [q9FF_1020, nt11]; exact (by rw [← q9FF_1020 (t0 := t0) (Sc := Sc) (b := (0 : Int32).toInt)]; exact q9F_vis hv' hc')) (by decide)).trans (congrArg some (q9evS u11))⟩
    | 1, hq9 =>
      have hp9 : ((1050, (7, 0), (0, 0), (0, 0, 0)) : Nat × q9AV × q9AV × q9ET) = p9 := Option.some.inj hq9
      subst hp9
      exact ⟨⟨x12, rfl, by rw [nt12]; exact rg1.1, by rw [nt12]; exact rg1.2⟩, (q9th_tX (T := T) (N := N) (P := P) (J := J) (t0 := t0) (Sc := Sc) (q9evS u6) (q9evZ u_) (q9evS u12) (by rw [q9FF_1050, nt12]; exact (by rw [← q9FF_1050 (t0 := t0) (Sc := Sc) (b := (0 : Int32).toInt)]; exact q9F_kd hv hok hz.symm hl.symm)) (by decide)).trans (congrArg some (q9evS u12))⟩
    | k9 + 2, hq9 => exact nomatch (show (none : Option (Nat × q9AV × q9AV × q9ET)) = some p9 from hq9)
  · exact q9th_tX (T := T) (N := N) (P := P) (J := J) (t0 := t0) (Sc := Sc) (q9evS u5) (q9evZ u_) (q9evS u8) (by rw [q9FF_1021]; exact (by rw [← q9FF_1021 (t0 := t0) (Sc := Sc) (b := (0 : Int32).toInt)]; exact q9F_dp hv' hc' hd')) (by decide)
  · exact q9th_tX (T := T) (N := N) (P := P) (J := J) (t0 := t0) (Sc := Sc) (q9evS u5) (q9evZ u_) (q9evS u7) (by rw [q9FF_1022]; exact (by rw [← q9FF_1022 (t0 := t0) (Sc := Sc) (b := (0 : Int32).toInt)]; exact q9F_sz hv' hc' hz')) (by decide)
  · exact q9th_tX (T := T) (N := N) (P := P) (J := J) (t0 := t0) (Sc := Sc) (q9evS u5) (q9evZ u_) (q9evS u0) (by rw [q9FF_1026]; exact (by rw [← q9FF_1026 (t0 := t0) (Sc := Sc) (b := (0 : Int32).toInt)]; exact q9F_prv hv hn hc' hc.symm)) (by decide)
  · exact q9th_tL (T := T) (N := N) (P := P) (J := J) (t0 := t0) (Sc := Sc) (q9evS u5) (q9evS u8) (q9evS u9) (by rw [q9FL_1024]; exact (by rw [← q9FL_1024 (b := x8.toInt)]; exact q9G_frv hv' hc' (q9en_top hst' hd') rfl)) (by decide)
  · exact q9th_tL (T := T) (N := N) (P := P) (J := J) (t0 := t0) (Sc := Sc) (q9evS u5) (q9evS u8) (q9evS u10) (by rw [q9FL_1025]; exact (by rw [← q9FL_1025 (b := x8.toInt)]; exact q9G_dnv hv' hc' (q9en_top hst' hd') rfl)) (by decide)
  · exact q9th_tC (d := (-1)) (q9evS u0) (q9evS u5) (by have := q9nx_pos hn; omega)
theorem q9ru_ln0 (hT : ∀ i, 0 ≤ T i ∧ T i ≤ 255) (hN : 0 ≤ N ∧ N ≤ 400) (hSc : 0 ≤ Sc 1 ∧ Sc 1 ≤ 400 → N = Sc 1) : q9ruOK (fO T N P J t0 Sc) q9R_ln0 := by
  intro w w0 hA hX hL hV hR
  obtain ⟨x0, ae0, -, -⟩ := hA 0 0 rfl
  obtain ⟨x1, ae1, -, -⟩ := hA 1 0 rfl
  obtain ⟨x2, ae2, -, -⟩ := hA 2 0 rfl
  obtain ⟨x3, ae3, -, -⟩ := hA 3 0 rfl
  obtain ⟨x4, ae4, -, -⟩ := hA 4 0 rfl
  obtain ⟨x5, ae5, -, -⟩ := hA 5 0 rfl
  obtain ⟨x6, ae6, -, -⟩ := hA 6 0 rfl
  have kz : (0 : Int32).toInt = 0 := rfl
  have k4 : (Int32.ofInt 4).toInt = 4 := q9oI_toInt (by decide)
  have k59 : (Int32.ofInt 59).toInt = 59 := q9oI_toInt (by decide)
  have k60 : (Int32.ofInt 60).toInt = 60 := q9oI_toInt (by decide)
  have V0 := q9pV (T := T) (N := N) (P := P) (J := J) (t0 := t0) (Sc := Sc) (op := 1027) (n := 1) (q9evS ae0) (q9evZ w0) (hV _ (List.mem_of_getElem? (i := 0) rfl)) (by decide)
  rw [q9FF_1027] at V0
  have K0 := q9chV_of V0
  try simp only [kz, k4, k59, k60] at K0
  have X0 := q9th_pX (T := T) (N := N) (P := P) (J := J) (t0 := t0) (Sc := Sc) (op := 1021) (q9evS ae0) (q9evZ w0) (q9evS ae5) (hX _ (List.mem_of_getElem? (i := 0) rfl)) (by decide)
  rw [q9FF_1021] at X0
  have H0 := q9chV_of X0
  try simp only [kz, k4, k59, k60] at H0
  have X1 := q9th_pX (T := T) (N := N) (P := P) (J := J) (t0 := t0) (Sc := Sc) (op := 1022) (q9evS ae0) (q9evZ w0) (q9evS ae4) (hX _ (List.mem_of_getElem? (i := 1) rfl)) (by decide)
  rw [q9FF_1022] at X1
  have H1 := q9chV_of X1
  try simp only [kz, k4, k59, k60] at H1
  have L0 : (0 : Int32).toInt ≤ x0.toInt + 0 := q9pC (q9evZ w0) (q9evS ae0) (hL _ (List.mem_of_getElem? (i := 0) rfl))
  have L1 : (0 : Int32).toInt ≤ x4.toInt + 0 := q9pC (q9evZ w0) (q9evS ae4) (hL _ (List.mem_of_getElem? (i := 1) rfl))
  have L2 : x4.toInt ≤ (Int32.ofInt 60).toInt + 0 := q9pC (q9evS ae4) (q9evC w0 60) (hL _ (List.mem_of_getElem? (i := 2) rfl))
  have L3 : (0 : Int32).toInt ≤ x5.toInt + 0 := q9pC (q9evZ w0) (q9evS ae5) (hL _ (List.mem_of_getElem? (i := 3) rfl))
  have L4 : x5.toInt ≤ (Int32.ofInt 4).toInt + 0 := q9pC (q9evS ae5) (q9evC w0 4) (hL _ (List.mem_of_getElem? (i := 4) rfl))
  have X2 := q9th_pX (T := T) (N := N) (P := P) (J := J) (t0 := t0) (Sc := Sc) (op := 1002) (q9evS ae0) (q9evZ w0) (q9evS ae1) (hX _ (List.mem_of_getElem? (i := 2) rfl)) (by decide)
  rw [q9FF_1002] at X2
  have H2 := Option.some.inj X2
  try simp only [kz, k4, k59, k60] at H2
  have V1 := q9pV (T := T) (N := N) (P := P) (J := J) (t0 := t0) (Sc := Sc) (op := 1013) (n := 0) (q9evS ae1) (q9evZ w0) (hV _ (List.mem_of_getElem? (i := 1) rfl)) (by decide)
  rw [q9FF_1013] at V1
  have K1 := Option.some.inj V1
  try simp only [kz, k4, k59, k60] at K1
  have X3 := q9th_pX (T := T) (N := N) (P := P) (J := J) (t0 := t0) (Sc := Sc) (op := 1003) (q9evS ae1) (q9evZ w0) (q9evS ae2) (hX _ (List.mem_of_getElem? (i := 3) rfl)) (by decide)
  rw [q9FF_1003] at X3
  have H3 := Option.some.inj X3
  try simp only [kz, k4, k59, k60] at H3
  have V2 := q9pV (T := T) (N := N) (P := P) (J := J) (t0 := t0) (Sc := Sc) (op := 1200) (n := 0) (q9evS ae2) (q9evZ w0) (hV _ (List.mem_of_getElem? (i := 2) rfl)) (by decide)
  rw [q9FF_1200] at V2
  have K2 := Option.some.inj V2
  try simp only [kz, k4, k59, k60] at K2
  have X4 := q9th_pX (T := T) (N := N) (P := P) (J := J) (t0 := t0) (Sc := Sc) (op := 1201) (q9evS ae2) (q9evZ w0) (q9evS ae3) (hX _ (List.mem_of_getElem? (i := 4) rfl)) (by decide)
  rw [q9FF_1201] at X4
  have H4 := Option.some.inj X4
  try simp only [kz, k4, k59, k60] at H4
  have L5 : x4.toInt ≤ (Int32.ofInt 59).toInt + 0 := q9pC (q9evS ae4) (q9evC w0 59) (hL _ (List.mem_of_getElem? (i := 5) rfl))
  have X5 := q9th_pX (T := T) (N := N) (P := P) (J := J) (t0 := t0) (Sc := Sc) (op := 1300) (q9evS ae2) (q9evZ w0) (q9evS ae6) (hX _ (List.mem_of_getElem? (i := 5) rfl)) (by decide)
  rw [q9FF_1300] at X5
  have H5 := Option.some.inj X5
  try simp only [kz, k4, k59, k60] at H5
  obtain ⟨c, hv, hc, h8, h9, -⟩ := K0
  have hd : x5.toInt + 1 = c.2.2.length := q9th_at_of hv hc H0
  have hz : x4.toInt = c.2.1 := q9th_at_of hv hc H1
  have hb : q9spI T N c.1 = x1.toInt := by rw [hc]; exact H2
  obtain ⟨q, st, hst⟩ : ∃ q st, c.2.2 = q :: st := by
    cases hh : c.2.2 with
    | nil => exfalso; rw [hh, List.length_nil] at hd; omega
    | cons q st => exact ⟨q, st, rfl⟩
  have hl2 : c.2.2.length = st.length + 1 := by rw [hst, List.length_cons]
  have hk : q9kbI T N (q9spI T N c.1) = 0 := by rw [hb]; exact K1
  have hl : q9lkI T N c = 0 := by rw [q9lk_of h8 (by omega), hk]
  have he : q9weI T N x1.toInt = x2.toInt := H3
  have hr : q9rcI T N P J c = (0, x3.toInt) := by unfold q9rcI q9rsI; rw [hl, hb, he]; exact Prod.ext K2 H4
  have hok : q9okL T N P J c := ⟨by omega, by omega, by omega, fun h => by omega, by rw [hr]⟩
  have hp : q9prI T N P J c x3.toInt := ⟨hv, .inl ⟨hok, by omega, by rw [hr]⟩⟩
  have hen : q9enE T N P J x4.toInt (x4.toInt + 1) := .inl ⟨c, hv, hok, hz.symm, by omega, rfl⟩
  have ham : x6.toInt = q9amI T N P J (q9lkI T N c) (q9weI T N (q9spI T N c.1)) := by rw [hl, hb, he]; exact (H5).symm
  have rg0 : (1 : Int) ≤ 1 ∧ (1 : Int) ≤ 1 := by omega
  obtain ⟨x7, nt7⟩ : ∃ x : Int32, x.toInt = 1 := ⟨Int32.ofInt (1), q9oI_toInt (by omega)⟩
  have rg1 : (0 : Int) ≤ 0 ∧ (0 : Int) ≤ 0 := by omega
  obtain ⟨x8, nt8⟩ : ∃ x : Int32, x.toInt = 0 := ⟨Int32.ofInt (0), q9oI_toInt (by omega)⟩
  have rg2 : (1 : Int) ≤ (x4.toInt + 1) ∧ ((x4.toInt + 1) : Int) ≤ 60 := by omega
  obtain ⟨x9, nt9⟩ : ∃ x : Int32, x.toInt = (x4.toInt + 1) := ⟨Int32.ofInt ((x4.toInt + 1)), q9oI_toInt (by omega)⟩
  have rg3 : (1 : Int) ≤ (x4.toInt + 1) ∧ ((x4.toInt + 1) : Int) ≤ 60 := by omega
  obtain ⟨x10, nt10⟩ : ∃ x : Int32, x.toInt = (x4.toInt + 1) := ⟨Int32.ofInt ((x4.toInt + 1)), q9oI_toInt (by omega)⟩
  have u_ : q9upN w 8 [.int x7, .int x8, .int x9, .int x10] 0 = .int 0 := q9upN_of (by decide) w0
  have u0 : q9upN w 8 [.int x7, .int x8, .int x9, .int x10] 1 = .int x0 := q9upN_of (by decide) ae0
  have u1 : q9upN w 8 [.int x7, .int x8, .int x9, .int x10] 2 = .int x1 := q9upN_of (by decide) ae1
  have u2 : q9upN w 8 [.int x7, .int x8, .int x9, .int x10] 3 = .int x2 := q9upN_of (by decide) ae2
  have u3 : q9upN w 8 [.int x7, .int x8, .int x9, .int x10] 4 = .int x3 := q9upN_of (by decide) ae3
  have u4 : q9upN w 8 [.int x7, .int x8, .int x9, .int x10] 5 = .int x4 := q9upN_of (by decide) ae4
  have u5 : q9upN w 8 [.int x7, .int x8, .int x9, .int x10] 6 = .int x5 := q9upN_of (by decide) ae5
  have u6 : q9upN w 8 [.int x7, .int x8, .int x9, .int x10] 7 = .int x6 := q9upN_of (by decide) ae6
  have u7 : q9upN w 8 [.int x7, .int x8, .int x9, .int x10] 8 = .int x7 := q9upN_at (by decide)
  have u8 : q9upN w 8 [.int x7, .int x8, .int x9, .int x10] 9 = .int x8 := q9upN_at (by decide)
  have u9 : q9upN w 8 [.int x7, .int x8, .int x9, .int x10] 10 = .int x9 := q9upN_at (by decide)
  have u10 : q9upN w 8 [.int x7, .int x8, .int x9, .int x10] 11 = .int x10 := q9upN_at (by decide)
  refine ⟨[.int x7, .int x8, .int x9, .int x10], fun i9 p9 hq9 => ?_, List.forall_mem_cons.mpr ⟨?_, List.forall_mem_cons.mpr ⟨?_, List.forall_mem_cons.mpr ⟨?_, fun _ h => absurd h List.not_mem_nil⟩⟩⟩, List.forall_mem_cons.mpr ⟨?_, List.forall_mem_cons.mpr ⟨?_, List.forall_mem_cons.mpr ⟨?_, List.forall_mem_cons.mpr ⟨?_, List.forall_mem_cons.mpr ⟨?_, fun _ h => absurd h List.not_mem_nil⟩⟩⟩⟩⟩⟩
  · match i9, hq9 with
    | 0, hq9 =>
      have hp9 : ((1030, (4, 0), (0, 0), (0, 1, 1)) : Nat × q9AV × q9AV × q9ET) = p9 := Option.some.inj hq9
      subst hp9
      exact ⟨⟨x7, rfl, by rw [nt7]; exact rg0.1, by rw [nt7]; exact rg0.2⟩, (q9th_tX (T := T) (N := N) (P := P) (J := J) (t0 := t0) (Sc := Sc) (q9evS u3) (q9evZ u_) (q9evS u7) (by rw [q9FF_1030, nt7]; exact (by rw [← q9FF_1030 (t0 := t0) (Sc := Sc) (b := (0 : Int32).toInt)]; exact q9F_pvs hp)) (by decide)).trans (congrArg some (q9evS u7))⟩
    | 1, hq9 =>
      have hp9 : ((1050, (5, 0), (0, 0), (0, 0, 0)) : Nat × q9AV × q9AV × q9ET) = p9 := Option.some.inj hq9
      subst hp9
      exact ⟨⟨x8, rfl, by rw [nt8]; exact rg1.1, by rw [nt8]; exact rg1.2⟩, (q9th_tX (T := T) (N := N) (P := P) (J := J) (t0 := t0) (Sc := Sc) (q9evS u4) (q9evZ u_) (q9evS u8) (by rw [q9FF_1050, nt8]; exact (by rw [← q9FF_1050 (t0 := t0) (Sc := Sc) (b := (0 : Int32).toInt)]; exact q9F_kd hv hok hz.symm hl.symm)) (by decide)).trans (congrArg some (q9evS u8))⟩
    | 2, hq9 =>
      have hp9 : ((1032, (4, 0), (0, 0), (0, 1, 60)) : Nat × q9AV × q9AV × q9ET) = p9 := Option.some.inj hq9
      subst hp9
      exact ⟨⟨x9, rfl, by rw [nt9]; exact rg2.1, by rw [nt9]; exact rg2.2⟩, (q9th_tX (T := T) (N := N) (P := P) (J := J) (t0 := t0) (Sc := Sc) (q9evS u3) (q9evZ u_) (q9evS u9) (by rw [q9FF_1032, nt9]; exact (by rw [← q9FF_1032 (t0 := t0) (Sc := Sc) (b := (0 : Int32).toInt)]; exact q9F_psz hp (by rw [if_neg (by omega)]; omega))) (by decide)).trans (congrArg some (q9evS u9))⟩
    | 3, hq9 =>
      have hp9 : ((1052, (5, 0), (0, 0), (0, 1, 60)) : Nat × q9AV × q9AV × q9ET) = p9 := Option.some.inj hq9
      subst hp9
      exact ⟨⟨x10, rfl, by rw [nt10]; exact rg3.1, by rw [nt10]; exact rg3.2⟩, (q9th_tX (T := T) (N := N) (P := P) (J := J) (t0 := t0) (Sc := Sc) (q9evS u4) (q9evZ u_) (q9evS u10) (by rw [q9FF_1052, nt10]; exact (by rw [← q9FF_1052 (t0 := t0) (Sc := Sc) (b := (0 : Int32).toInt)]; exact q9F_en hN.1 hen)) (by decide)).trans (congrArg some (q9evS u10))⟩
    | k9 + 4, hq9 => exact nomatch (show (none : Option (Nat × q9AV × q9AV × q9ET)) = some p9 from hq9)
  · exact q9th_tX (T := T) (N := N) (P := P) (J := J) (t0 := t0) (Sc := Sc) (q9evS u3) (q9evZ u_) (q9evS u5) (by rw [q9FF_1031]; exact (by rw [← q9FF_1031 (t0 := t0) (Sc := Sc) (b := (0 : Int32).toInt)]; exact q9F_pdp hp (by rw [if_neg (by omega)]; omega))) (by decide)
  · exact q9th_tX (T := T) (N := N) (P := P) (J := J) (t0 := t0) (Sc := Sc) (q9evS u3) (q9evZ u_) (q9evS u0) (by rw [q9FF_1034]; exact (by rw [← q9FF_1034 (t0 := t0) (Sc := Sc) (b := (0 : Int32).toInt)]; exact q9F_plk hp hst (by rw [if_neg (by omega)]; exact hc.symm))) (by decide)
  · exact q9th_tX (T := T) (N := N) (P := P) (J := J) (t0 := t0) (Sc := Sc) (q9evS u4) (q9evZ u_) (q9evS u6) (by rw [q9FF_1051]; exact (by rw [← q9FF_1051 (t0 := t0) (Sc := Sc) (b := (0 : Int32).toInt)]; exact q9F_mn hv hok hz.symm ham)) (by decide)
  · exact q9th_tC (d := (-1)) (q9evS u0) (q9evS u3) (by have := q9pr_gt hp; omega)
  · exact q9th_tC (d := 1) (q9evS u9) (q9evS u4) (by omega)
  · exact q9th_tC (d := (-1)) (q9evS u4) (q9evS u9) (by omega)
  · exact q9th_tC (d := 1) (q9evS u10) (q9evS u4) (by omega)
  · exact q9th_tC (d := (-1)) (q9evS u4) (q9evS u10) (by omega)
theorem q9ru_cfs0 (hT : ∀ i, 0 ≤ T i ∧ T i ≤ 255) (hN : 0 ≤ N ∧ N ≤ 400) (hSc : 0 ≤ Sc 1 ∧ Sc 1 ≤ 400 → N = Sc 1) : q9ruOK (fO T N P J t0 Sc) q9R_cfs0 := by
  intro w w0 hA hX hL hV hR
  obtain ⟨x0, ae0, -, -⟩ := hA 0 0 rfl
  obtain ⟨x1, ae1, -, -⟩ := hA 1 0 rfl
  obtain ⟨x2, ae2, -, -⟩ := hA 2 0 rfl
  obtain ⟨x3, ae3, -, -⟩ := hA 3 0 rfl
  obtain ⟨x4, ae4, -, -⟩ := hA 4 0 rfl
  obtain ⟨x5, ae5, -, -⟩ := hA 5 0 rfl
  obtain ⟨x6, ae6, -, -⟩ := hA 6 0 rfl
  have kz : (0 : Int32).toInt = 0 := rfl
  have k4 : (Int32.ofInt 4).toInt = 4 := q9oI_toInt (by decide)
  have k59 : (Int32.ofInt 59).toInt = 59 := q9oI_toInt (by decide)
  have k60 : (Int32.ofInt 60).toInt = 60 := q9oI_toInt (by decide)
  have V0 := q9pV (T := T) (N := N) (P := P) (J := J) (t0 := t0) (Sc := Sc) (op := 1027) (n := 1) (q9evS ae0) (q9evZ w0) (hV _ (List.mem_of_getElem? (i := 0) rfl)) (by decide)
  rw [q9FF_1027] at V0
  have K0 := q9chV_of V0
  try simp only [kz, k4, k59, k60] at K0
  have X0 := q9th_pX (T := T) (N := N) (P := P) (J := J) (t0 := t0) (Sc := Sc) (op := 1021) (q9evS ae0) (q9evZ w0) (q9evS ae6) (hX _ (List.mem_of_getElem? (i := 0) rfl)) (by decide)
  rw [q9FF_1021] at X0
  have H0 := q9chV_of X0
  try simp only [kz, k4, k59, k60] at H0
  have X1 := q9th_pX (T := T) (N := N) (P := P) (J := J) (t0 := t0) (Sc := Sc) (op := 1022) (q9evS ae0) (q9evZ w0) (q9evS ae5) (hX _ (List.mem_of_getElem? (i := 1) rfl)) (by decide)
  rw [q9FF_1022] at X1
  have H1 := q9chV_of X1
  try simp only [kz, k4, k59, k60] at H1
  have L0 : (0 : Int32).toInt ≤ x0.toInt + 0 := q9pC (q9evZ w0) (q9evS ae0) (hL _ (List.mem_of_getElem? (i := 0) rfl))
  have L1 : (0 : Int32).toInt ≤ x5.toInt + 0 := q9pC (q9evZ w0) (q9evS ae5) (hL _ (List.mem_of_getElem? (i := 1) rfl))
  have L2 : x5.toInt ≤ (Int32.ofInt 60).toInt + 0 := q9pC (q9evS ae5) (q9evC w0 60) (hL _ (List.mem_of_getElem? (i := 2) rfl))
  have L3 : (0 : Int32).toInt ≤ x6.toInt + 0 := q9pC (q9evZ w0) (q9evS ae6) (hL _ (List.mem_of_getElem? (i := 3) rfl))
  have L4 : x6.toInt ≤ (Int32.ofInt 4).toInt + 0 := q9pC (q9evS ae6) (q9evC w0 4) (hL _ (List.mem_of_getElem? (i := 4) rfl))
  have X2 := q9th_pX (T := T) (N := N) (P := P) (J := J) (t0 := t0) (Sc := Sc) (op := 1002) (q9evS ae0) (q9evZ w0) (q9evS ae1) (hX _ (List.mem_of_getElem? (i := 2) rfl)) (by decide)
  rw [q9FF_1002] at X2
  have H2 := Option.some.inj X2
  try simp only [kz, k4, k59, k60] at H2
  have V1 := q9pV (T := T) (N := N) (P := P) (J := J) (t0 := t0) (Sc := Sc) (op := 1013) (n := 0) (q9evS ae1) (q9evZ w0) (hV _ (List.mem_of_getElem? (i := 1) rfl)) (by decide)
  rw [q9FF_1013] at V1
  have K1 := Option.some.inj V1
  try simp only [kz, k4, k59, k60] at K1
  have X3 := q9th_pX (T := T) (N := N) (P := P) (J := J) (t0 := t0) (Sc := Sc) (op := 1003) (q9evS ae1) (q9evZ w0) (q9evS ae2) (hX _ (List.mem_of_getElem? (i := 3) rfl)) (by decide)
  rw [q9FF_1003] at X3
  have H3 := Option.some.inj X3
  try simp only [kz, k4, k59, k60] at H3
  have V2 := q9pV (T := T) (N := N) (P := P) (J := J) (t0 := t0) (Sc := Sc) (op := 1200) (n := 0) (q9evS ae2) (q9evZ w0) (hV _ (List.mem_of_getElem? (i := 2) rfl)) (by decide)
  rw [q9FF_1200] at V2
  have K2 := Option.some.inj V2
  try simp only [kz, k4, k59, k60] at K2
  have X4 := q9th_pX (T := T) (N := N) (P := P) (J := J) (t0 := t0) (Sc := Sc) (op := 1201) (q9evS ae2) (q9evZ w0) (q9evS ae3) (hX _ (List.mem_of_getElem? (i := 4) rfl)) (by decide)
  rw [q9FF_1201] at X4
  have H4 := Option.some.inj X4
  try simp only [kz, k4, k59, k60] at H4
  have X5 := q9th_pX (T := T) (N := N) (P := P) (J := J) (t0 := t0) (Sc := Sc) (op := 1002) (q9evS ae3) (q9evZ w0) (q9evS ae4) (hX _ (List.mem_of_getElem? (i := 5) rfl)) (by decide)
  rw [q9FF_1002] at X5
  have H5 := Option.some.inj X5
  try simp only [kz, k4, k59, k60] at H5
  have V3 := q9pV (T := T) (N := N) (P := P) (J := J) (t0 := t0) (Sc := Sc) (op := 1009) (n := 0) (q9evS ae4) (q9evC w0 59) (hV _ (List.mem_of_getElem? (i := 3) rfl)) (by decide)
  rw [q9FF_1009] at V3
  have K3 := Option.some.inj V3
  try simp only [kz, k4, k59, k60] at K3
  have L5 : x5.toInt ≤ (Int32.ofInt 59).toInt + 0 := q9pC (q9evS ae5) (q9evC w0 59) (hL _ (List.mem_of_getElem? (i := 5) rfl))
  obtain ⟨c, hv, hc, h8, h9, -⟩ := K0
  have hd : x6.toInt + 1 = c.2.2.length := q9th_at_of hv hc H0
  have hz : x5.toInt = c.2.1 := q9th_at_of hv hc H1
  have hb : q9spI T N c.1 = x1.toInt := by rw [hc]; exact H2
  obtain ⟨q, st, hst⟩ : ∃ q st, c.2.2 = q :: st := by
    cases hh : c.2.2 with
    | nil => exfalso; rw [hh, List.length_nil] at hd; omega
    | cons q st => exact ⟨q, st, rfl⟩
  have hl2 : c.2.2.length = st.length + 1 := by rw [hst, List.length_cons]
  have hk : q9kbI T N (q9spI T N c.1) = 0 := by rw [hb]; exact K1
  have hl : q9lkI T N c = 0 := by rw [q9lk_of h8 (by omega), hk]
  have he : q9weI T N x1.toInt = x2.toInt := H3
  have hr : q9rcI T N P J c = (0, x3.toInt) := by unfold q9rcI q9rsI; rw [hl, hb, he]; exact Prod.ext K2 H4
  have hs4 : q9spI T N x3.toInt = x4.toInt := H5
  have hn : q9th_nxI T N P J c = none := q9nx_no h8 (.inr ⟨by omega, by rw [hr]; show q9byI T N (q9spI T N x3.toInt) ≠ 59; rw [hs4]; exact q9is_0 K3 (by omega)⟩)
  have hre : q9th_reI T N P J c = (1, x4.toInt) := by unfold q9th_reI; rw [if_neg h8, if_neg (by omega), if_neg (by omega), if_neg (by omega), if_pos (by rw [hr]), hr]; show (1, q9spI T N x3.toInt) = _; rw [hs4]
  have rg0 : (1 : Int) ≤ 1 ∧ (1 : Int) ≤ 1 := by omega
  obtain ⟨x7, nt7⟩ : ∃ x : Int32, x.toInt = 1 := ⟨Int32.ofInt (1), q9oI_toInt (by omega)⟩
  have u_ : q9upN w 8 [.int x7] 0 = .int 0 := q9upN_of (by decide) w0
  have u0 : q9upN w 8 [.int x7] 1 = .int x0 := q9upN_of (by decide) ae0
  have u1 : q9upN w 8 [.int x7] 2 = .int x1 := q9upN_of (by decide) ae1
  have u2 : q9upN w 8 [.int x7] 3 = .int x2 := q9upN_of (by decide) ae2
  have u3 : q9upN w 8 [.int x7] 4 = .int x3 := q9upN_of (by decide) ae3
  have u4 : q9upN w 8 [.int x7] 5 = .int x4 := q9upN_of (by decide) ae4
  have u5 : q9upN w 8 [.int x7] 6 = .int x5 := q9upN_of (by decide) ae5
  have u6 : q9upN w 8 [.int x7] 7 = .int x6 := q9upN_of (by decide) ae6
  have u7 : q9upN w 8 [.int x7] 8 = .int x7 := q9upN_at (by decide)
  refine ⟨[.int x7], fun i9 p9 hq9 => ?_, List.forall_mem_cons.mpr ⟨?_, fun _ h => absurd h List.not_mem_nil⟩, fun _ h => absurd h List.not_mem_nil⟩
  · match i9, hq9 with
    | 0, hq9 =>
      have hp9 : ((1040, (0, 0), (0, 0), (0, 1, 1)) : Nat × q9AV × q9AV × q9ET) = p9 := Option.some.inj hq9
      subst hp9
      exact ⟨⟨x7, rfl, by rw [nt7]; exact rg0.1, by rw [nt7]; exact rg0.2⟩, (q9th_tX (T := T) (N := N) (P := P) (J := J) (t0 := t0) (Sc := Sc) (q9evZ u_) (q9evZ u_) (q9evS u7) (by rw [q9FF_1040, nt7]; exact (by rw [← q9FF_1040 (t0 := t0) (Sc := Sc) (a := (0 : Int32).toInt) (b := (0 : Int32).toInt)]; exact q9F_rsk hv hn (by rw [hre]))) (by decide)).trans (congrArg some (q9evS u7))⟩
    | k9 + 1, hq9 => exact nomatch (show (none : Option (Nat × q9AV × q9AV × q9ET)) = some p9 from hq9)
  · exact q9th_tX (T := T) (N := N) (P := P) (J := J) (t0 := t0) (Sc := Sc) (q9evZ u_) (q9evZ u_) (q9evS u4) (by rw [q9FF_1041]; exact (by rw [← q9FF_1041 (t0 := t0) (Sc := Sc) (a := (0 : Int32).toInt) (b := (0 : Int32).toInt)]; exact q9F_rsp hv hn (by rw [hre]; exact (by decide : (1 : Int) ≠ 0)) (by rw [hre]))) (by decide)
theorem q9ru_cl1 (hT : ∀ i, 0 ≤ T i ∧ T i ≤ 255) (hN : 0 ≤ N ∧ N ≤ 400) (hSc : 0 ≤ Sc 1 ∧ Sc 1 ≤ 400 → N = Sc 1) : q9ruOK (fO T N P J t0 Sc) q9R_cl1 := by
  intro w w0 hA hX hL hV hR
  obtain ⟨x0, ae0, -, -⟩ := hA 0 0 rfl
  obtain ⟨x1, ae1, -, -⟩ := hA 1 0 rfl
  obtain ⟨x2, ae2, -, -⟩ := hA 2 0 rfl
  obtain ⟨x3, ae3, -, -⟩ := hA 3 0 rfl
  obtain ⟨x4, ae4, -, -⟩ := hA 4 0 rfl
  obtain ⟨x5, ae5, -, -⟩ := hA 5 0 rfl
  obtain ⟨x6, ae6, -, -⟩ := hA 6 0 rfl
  obtain ⟨x7, ae7, -, -⟩ := hA 7 0 rfl
  obtain ⟨x8, ae8, -, -⟩ := hA 8 0 rfl
  obtain ⟨x9, ae9, -, -⟩ := hA 9 1 rfl
  obtain ⟨x10, ae10, -, -⟩ := hA 10 1 rfl
  have kz : (0 : Int32).toInt = 0 := rfl
  have k4 : (Int32.ofInt 4).toInt = 4 := q9oI_toInt (by decide)
  have k59 : (Int32.ofInt 59).toInt = 59 := q9oI_toInt (by decide)
  have k60 : (Int32.ofInt 60).toInt = 60 := q9oI_toInt (by decide)
  have V0 := q9pV (T := T) (N := N) (P := P) (J := J) (t0 := t0) (Sc := Sc) (op := 1027) (n := 1) (q9evS ae0) (q9evZ w0) (hV _ (List.mem_of_getElem? (i := 0) rfl)) (by decide)
  rw [q9FF_1027] at V0
  have K0 := q9chV_of V0
  try simp only [kz, k4, k59, k60] at K0
  have X0 := q9th_pX (T := T) (N := N) (P := P) (J := J) (t0 := t0) (Sc := Sc) (op := 1021) (q9evS ae0) (q9evZ w0) (q9evS ae8) (hX _ (List.mem_of_getElem? (i := 0) rfl)) (by decide)
  rw [q9FF_1021] at X0
  have H0 := q9chV_of X0
  try simp only [kz, k4, k59, k60] at H0
  have X1 := q9th_pX (T := T) (N := N) (P := P) (J := J) (t0 := t0) (Sc := Sc) (op := 1022) (q9evS ae0) (q9evZ w0) (q9evS ae6) (hX _ (List.mem_of_getElem? (i := 1) rfl)) (by decide)
  rw [q9FF_1022] at X1
  have H1 := q9chV_of X1
  try simp only [kz, k4, k59, k60] at H1
  have L0 : (0 : Int32).toInt ≤ x0.toInt + 0 := q9pC (q9evZ w0) (q9evS ae0) (hL _ (List.mem_of_getElem? (i := 0) rfl))
  have L1 : (0 : Int32).toInt ≤ x6.toInt + 0 := q9pC (q9evZ w0) (q9evS ae6) (hL _ (List.mem_of_getElem? (i := 1) rfl))
  have L2 : x6.toInt ≤ (Int32.ofInt 60).toInt + 0 := q9pC (q9evS ae6) (q9evC w0 60) (hL _ (List.mem_of_getElem? (i := 2) rfl))
  have L3 : (0 : Int32).toInt ≤ x8.toInt + 0 := q9pC (q9evZ w0) (q9evS ae8) (hL _ (List.mem_of_getElem? (i := 3) rfl))
  have L4 : x8.toInt ≤ (Int32.ofInt 4).toInt + 0 := q9pC (q9evS ae8) (q9evC w0 4) (hL _ (List.mem_of_getElem? (i := 4) rfl))
  have X2 := q9th_pX (T := T) (N := N) (P := P) (J := J) (t0 := t0) (Sc := Sc) (op := 1002) (q9evS ae0) (q9evZ w0) (q9evS ae1) (hX _ (List.mem_of_getElem? (i := 2) rfl)) (by decide)
  rw [q9FF_1002] at X2
  have H2 := Option.some.inj X2
  try simp only [kz, k4, k59, k60] at H2
  have V1 := q9pV (T := T) (N := N) (P := P) (J := J) (t0 := t0) (Sc := Sc) (op := 1013) (n := 1) (q9evS ae1) (q9evZ w0) (hV _ (List.mem_of_getElem? (i := 1) rfl)) (by decide)
  rw [q9FF_1013] at V1
  have K1 := Option.some.inj V1
  try simp only [kz, k4, k59, k60] at K1
  have X3 := q9th_pX (T := T) (N := N) (P := P) (J := J) (t0 := t0) (Sc := Sc) (op := 1003) (q9evS ae1) (q9evZ w0) (q9evS ae2) (hX _ (List.mem_of_getElem? (i := 3) rfl)) (by decide)
  rw [q9FF_1003] at X3
  have H3 := Option.some.inj X3
  try simp only [kz, k4, k59, k60] at H3
  have V2 := q9pV (T := T) (N := N) (P := P) (J := J) (t0 := t0) (Sc := Sc) (op := 1266) (n := 0) (q9evS ae2) (q9evZ w0) (hV _ (List.mem_of_getElem? (i := 2) rfl)) (by decide)
  rw [q9FF_1266] at V2
  have K2 := Option.some.inj V2
  try simp only [kz, k4, k59, k60] at K2
  have X4 := q9th_pX (T := T) (N := N) (P := P) (J := J) (t0 := t0) (Sc := Sc) (op := 1267) (q9evS ae2) (q9evZ w0) (q9evS ae3) (hX _ (List.mem_of_getElem? (i := 4) rfl)) (by decide)
  rw [q9FF_1267] at X4
  have H4 := Option.some.inj X4
  try simp only [kz, k4, k59, k60] at H4
  have X5 := q9th_pX (T := T) (N := N) (P := P) (J := J) (t0 := t0) (Sc := Sc) (op := 1002) (q9evS ae3) (q9evZ w0) (q9evS ae4) (hX _ (List.mem_of_getElem? (i := 5) rfl)) (by decide)
  rw [q9FF_1002] at X5
  have H5 := Option.some.inj X5
  try simp only [kz, k4, k59, k60] at H5
  have V3 := q9pV (T := T) (N := N) (P := P) (J := J) (t0 := t0) (Sc := Sc) (op := 1009) (n := 1) (q9evS ae4) (q9evC w0 59) (hV _ (List.mem_of_getElem? (i := 3) rfl)) (by decide)
  rw [q9FF_1009] at V3
  have K3 := Option.some.inj V3
  try simp only [kz, k4, k59, k60] at K3
  have L5 : x5.toInt ≤ x4.toInt + 1 := q9pC (q9evS ae5) (q9evS ae4) (hL _ (List.mem_of_getElem? (i := 5) rfl))
  have L6 : x4.toInt ≤ x5.toInt + (-1) := q9pC (q9evS ae4) (q9evS ae5) (hL _ (List.mem_of_getElem? (i := 6) rfl))
  have L7 : x6.toInt ≤ (Int32.ofInt 59).toInt + 0 := q9pC (q9evS ae6) (q9evC w0 59) (hL _ (List.mem_of_getElem? (i := 7) rfl))
  have L8 : x7.toInt ≤ x6.toInt + 1 := q9pC (q9evS ae7) (q9evS ae6) (hL _ (List.mem_of_getElem? (i := 8) rfl))
  have L9 : x6.toInt ≤ x7.toInt + (-1) := q9pC (q9evS ae6) (q9evS ae7) (hL _ (List.mem_of_getElem? (i := 9) rfl))
  have X6 := q9pL (T := T) (N := N) (P := P) (J := J) (t0 := t0) (Sc := Sc) (op := 1029) (q9evS ae0) (q9evZ w0) (q9evS ae9) (hX _ (List.mem_of_getElem? (i := 6) rfl)) (by decide)
  rw [q9FL_1029] at X6
  have H6 := q9chV_of X6
  try simp only [kz, k4, k59, k60] at H6
  have X7 := q9pL (T := T) (N := N) (P := P) (J := J) (t0 := t0) (Sc := Sc) (op := 1028) (q9evS ae0) (q9evZ w0) (q9evS ae10) (hX _ (List.mem_of_getElem? (i := 7) rfl)) (by decide)
  rw [q9FL_1028] at X7
  have H7 := q9chV_of X7
  try simp only [kz, k4, k59, k60] at H7
  obtain ⟨c, hv, hc, h8, h9, -⟩ := K0
  have hd : x8.toInt + 1 = c.2.2.length := q9th_at_of hv hc H0
  have hz : x6.toInt = c.2.1 := q9th_at_of hv hc H1
  have hb : q9spI T N c.1 = x1.toInt := by rw [hc]; exact H2
  obtain ⟨q, st, hst⟩ : ∃ q st, c.2.2 = q :: st := by
    cases hh : c.2.2 with
    | nil => exfalso; rw [hh, List.length_nil] at hd; omega
    | cons q st => exact ⟨q, st, rfl⟩
  have hl2 : c.2.2.length = st.length + 1 := by rw [hst, List.length_cons]
  have hk : q9kbI T N (q9spI T N c.1) = 1 := by rw [hb]; exact K1
  have hl : q9lkI T N c = 1 := by rw [q9lk_of h8 (by omega), hk]
  have he : q9weI T N x1.toInt = x2.toInt := H3
  have hr : q9rcI T N P J c = (0, x3.toInt) := by unfold q9rcI q9rsI; rw [hl, hb, he]; exact Prod.ext K2 H4
  have hok : q9okL T N P J c := ⟨by omega, by omega, by omega, fun h => by omega, by rw [hr]⟩
  have hs4 : q9spI T N x3.toInt = x4.toInt := H5
  have hn := q9nx_line hst (by omega) (by omega) (by omega) hr rfl (by rw [hs4]; exact q9is_1 K3 (by omega))
  generalize hg : ((q9spI T N ((0, x3.toInt) : q9TK2).2 + 1, c.2.1 + 1, (q.1, q.2.1, (if q9lkI T N c ≤ 1 then q.2.2.1 + Int64.ofInt (q9amI T N P J (q9lkI T N c) (q9weI T N (q9spI T N c.1))) else q.2.2.1), q.2.2.2 + 1) :: st) : q9CF9) = c' at hn
  have hv' := q9vis_next hv hn
  have hc' : c'.1 = x5.toInt := by rw [← hg]; show q9spI T N x3.toInt + 1 = _; omega
  have hst' : c'.2.2 = (q.1, q.2.1, (if q9lkI T N c ≤ 1 then q.2.2.1 + Int64.ofInt (q9amI T N P J (q9lkI T N c) (q9weI T N (q9spI T N c.1))) else q.2.2.1), q.2.2.2 + 1) :: st := by rw [← hg]
  have hd' : x8.toInt + 1 = c'.2.2.length := by rw [hst', List.length_cons]; omega
  have hz' : x7.toInt = c'.2.1 := by rw [← hg]; show _ = c.2.1 + 1; omega
  have hf : q9lkI T N c ≤ 1 ∧ ∃ q st, c.2.2 = q :: st ∧ x9 = q.2.2.1 + Int64.ofInt (q9amI T N P J (q9lkI T N c) (q9weI T N (q9spI T N c.1))) := q9th_at_of hv hc H6
  obtain ⟨-, q0, st0, f1, f2⟩ := hf
  rw [hst] at f1
  cases f1
  rw [if_pos (by omega), ← f2] at hst'
  have hg2 : ∃ q st, c.2.2 = q :: st ∧ x10 = q.2.2.2 + 1 := q9th_at_of hv hc H7
  obtain ⟨q1, st1, g1, g2⟩ := hg2
  rw [hst] at g1
  cases g1
  rw [← g2] at hst'
  have rg0 : (1 : Int) ≤ 1 ∧ (1 : Int) ≤ 1 := by omega
  obtain ⟨x11, nt11⟩ : ∃ x : Int32, x.toInt = 1 := ⟨Int32.ofInt (1), q9oI_toInt (by omega)⟩
  have rg1 : (1 : Int) ≤ 1 ∧ (1 : Int) ≤ 1 := by omega
  obtain ⟨x12, nt12⟩ : ∃ x : Int32, x.toInt = 1 := ⟨Int32.ofInt (1), q9oI_toInt (by omega)⟩
  have u_ : q9upN w 12 [.int x11, .int x12] 0 = .int 0 := q9upN_of (by decide) w0
  have u0 : q9upN w 12 [.int x11, .int x12] 1 = .int x0 := q9upN_of (by decide) ae0
  have u1 : q9upN w 12 [.int x11, .int x12] 2 = .int x1 := q9upN_of (by decide) ae1
  have u2 : q9upN w 12 [.int x11, .int x12] 3 = .int x2 := q9upN_of (by decide) ae2
  have u3 : q9upN w 12 [.int x11, .int x12] 4 = .int x3 := q9upN_of (by decide) ae3
  have u4 : q9upN w 12 [.int x11, .int x12] 5 = .int x4 := q9upN_of (by decide) ae4
  have u5 : q9upN w 12 [.int x11, .int x12] 6 = .int x5 := q9upN_of (by decide) ae5
  have u6 : q9upN w 12 [.int x11, .int x12] 7 = .int x6 := q9upN_of (by decide) ae6
  have u7 : q9upN w 12 [.int x11, .int x12] 8 = .int x7 := q9upN_of (by decide) ae7
  have u8 : q9upN w 12 [.int x11, .int x12] 9 = .int x8 := q9upN_of (by decide) ae8
  have u9 : q9upN w 12 [.int x11, .int x12] 10 = .long x9 := q9upN_of (by decide) ae9
  have u10 : q9upN w 12 [.int x11, .int x12] 11 = .long x10 := q9upN_of (by decide) ae10
  have u11 : q9upN w 12 [.int x11, .int x12] 12 = .int x11 := q9upN_at (by decide)
  have u12 : q9upN w 12 [.int x11, .int x12] 13 = .int x12 := q9upN_at (by decide)
  refine ⟨[.int x11, .int x12], fun i9 p9 hq9 => ?_, List.forall_mem_cons.mpr ⟨?_, List.forall_mem_cons.mpr ⟨?_, List.forall_mem_cons.mpr ⟨?_, List.forall_mem_cons.mpr ⟨?_, List.forall_mem_cons.mpr ⟨?_, fun _ h => absurd h List.not_mem_nil⟩⟩⟩⟩⟩, List.forall_mem_cons.mpr ⟨?_, fun _ h => absurd h List.not_mem_nil⟩⟩
  · match i9, hq9 with
    | 0, hq9 =>
      have hp9 : ((1020, (6, 0), (0, 0), (0, 1, 1)) : Nat × q9AV × q9AV × q9ET) = p9 := Option.some.inj hq9
      subst hp9
      exact ⟨⟨x11, rfl, by rw [nt11]; exact rg0.1, by rw [nt11]; exact rg0.2⟩, (q9th_tX (T := T) (N := N) (P := P) (J := J) (t0 := t0) (Sc := Sc) (q9evS u5) (q9evZ u_) (q9evS u11) (by rw [q9FF_1020, nt11]; exact (by rw [← q9FF_1020 (t0 := t0) (Sc := Sc) (b := (0 : Int32).toInt)]; exact q9F_vis hv' hc')) (by decide)).trans (congrArg some (q9evS u11))⟩
    | 1, hq9 =>
      have hp9 : ((1050, (7, 0), (0, 0), (0, 1, 1)) : Nat × q9AV × q9AV × q9ET) = p9 := Option.some.inj hq9
      subst hp9
      exact ⟨⟨x12, rfl, by rw [nt12]; exact rg1.1, by rw [nt12]; exact rg1.2⟩, (q9th_tX (T := T) (N := N) (P := P) (J := J) (t0 := t0) (Sc := Sc) (q9evS u6) (q9evZ u_) (q9evS u12) (by rw [q9FF_1050, nt12]; exact (by rw [← q9FF_1050 (t0 := t0) (Sc := Sc) (b := (0 : Int32).toInt)]; exact q9F_kd hv hok hz.symm hl.symm)) (by decide)).trans (congrArg some (q9evS u12))⟩
    | k9 + 2, hq9 => exact nomatch (show (none : Option (Nat × q9AV × q9AV × q9ET)) = some p9 from hq9)
  · exact q9th_tX (T := T) (N := N) (P := P) (J := J) (t0 := t0) (Sc := Sc) (q9evS u5) (q9evZ u_) (q9evS u8) (by rw [q9FF_1021]; exact (by rw [← q9FF_1021 (t0 := t0) (Sc := Sc) (b := (0 : Int32).toInt)]; exact q9F_dp hv' hc' hd')) (by decide)
  · exact q9th_tX (T := T) (N := N) (P := P) (J := J) (t0 := t0) (Sc := Sc) (q9evS u5) (q9evZ u_) (q9evS u7) (by rw [q9FF_1022]; exact (by rw [← q9FF_1022 (t0 := t0) (Sc := Sc) (b := (0 : Int32).toInt)]; exact q9F_sz hv' hc' hz')) (by decide)
  · exact q9th_tX (T := T) (N := N) (P := P) (J := J) (t0 := t0) (Sc := Sc) (q9evS u5) (q9evZ u_) (q9evS u0) (by rw [q9FF_1026]; exact (by rw [← q9FF_1026 (t0 := t0) (Sc := Sc) (b := (0 : Int32).toInt)]; exact q9F_prv hv hn hc' hc.symm)) (by decide)
  · exact q9th_tL (T := T) (N := N) (P := P) (J := J) (t0 := t0) (Sc := Sc) (q9evS u5) (q9evS u8) (q9evS u9) (by rw [q9FL_1024]; exact (by rw [← q9FL_1024 (b := x8.toInt)]; exact q9G_frv hv' hc' (q9en_top hst' hd') rfl)) (by decide)
  · exact q9th_tL (T := T) (N := N) (P := P) (J := J) (t0 := t0) (Sc := Sc) (q9evS u5) (q9evS u8) (q9evS u10) (by rw [q9FL_1025]; exact (by rw [← q9FL_1025 (b := x8.toInt)]; exact q9G_dnv hv' hc' (q9en_top hst' hd') rfl)) (by decide)
  · exact q9th_tC (d := (-1)) (q9evS u0) (q9evS u5) (by have := q9nx_pos hn; omega)
theorem q9ru_ln1 (hT : ∀ i, 0 ≤ T i ∧ T i ≤ 255) (hN : 0 ≤ N ∧ N ≤ 400) (hSc : 0 ≤ Sc 1 ∧ Sc 1 ≤ 400 → N = Sc 1) : q9ruOK (fO T N P J t0 Sc) q9R_ln1 := by
  intro w w0 hA hX hL hV hR
  obtain ⟨x0, ae0, -, -⟩ := hA 0 0 rfl
  obtain ⟨x1, ae1, -, -⟩ := hA 1 0 rfl
  obtain ⟨x2, ae2, -, -⟩ := hA 2 0 rfl
  obtain ⟨x3, ae3, -, -⟩ := hA 3 0 rfl
  obtain ⟨x4, ae4, -, -⟩ := hA 4 0 rfl
  obtain ⟨x5, ae5, -, -⟩ := hA 5 0 rfl
  obtain ⟨x6, ae6, -, -⟩ := hA 6 0 rfl
  have kz : (0 : Int32).toInt = 0 := rfl
  have k4 : (Int32.ofInt 4).toInt = 4 := q9oI_toInt (by decide)
  have k59 : (Int32.ofInt 59).toInt = 59 := q9oI_toInt (by decide)
  have k60 : (Int32.ofInt 60).toInt = 60 := q9oI_toInt (by decide)
  have V0 := q9pV (T := T) (N := N) (P := P) (J := J) (t0 := t0) (Sc := Sc) (op := 1027) (n := 1) (q9evS ae0) (q9evZ w0) (hV _ (List.mem_of_getElem? (i := 0) rfl)) (by decide)
  rw [q9FF_1027] at V0
  have K0 := q9chV_of V0
  try simp only [kz, k4, k59, k60] at K0
  have X0 := q9th_pX (T := T) (N := N) (P := P) (J := J) (t0 := t0) (Sc := Sc) (op := 1021) (q9evS ae0) (q9evZ w0) (q9evS ae5) (hX _ (List.mem_of_getElem? (i := 0) rfl)) (by decide)
  rw [q9FF_1021] at X0
  have H0 := q9chV_of X0
  try simp only [kz, k4, k59, k60] at H0
  have X1 := q9th_pX (T := T) (N := N) (P := P) (J := J) (t0 := t0) (Sc := Sc) (op := 1022) (q9evS ae0) (q9evZ w0) (q9evS ae4) (hX _ (List.mem_of_getElem? (i := 1) rfl)) (by decide)
  rw [q9FF_1022] at X1
  have H1 := q9chV_of X1
  try simp only [kz, k4, k59, k60] at H1
  have L0 : (0 : Int32).toInt ≤ x0.toInt + 0 := q9pC (q9evZ w0) (q9evS ae0) (hL _ (List.mem_of_getElem? (i := 0) rfl))
  have L1 : (0 : Int32).toInt ≤ x4.toInt + 0 := q9pC (q9evZ w0) (q9evS ae4) (hL _ (List.mem_of_getElem? (i := 1) rfl))
  have L2 : x4.toInt ≤ (Int32.ofInt 60).toInt + 0 := q9pC (q9evS ae4) (q9evC w0 60) (hL _ (List.mem_of_getElem? (i := 2) rfl))
  have L3 : (0 : Int32).toInt ≤ x5.toInt + 0 := q9pC (q9evZ w0) (q9evS ae5) (hL _ (List.mem_of_getElem? (i := 3) rfl))
  have L4 : x5.toInt ≤ (Int32.ofInt 4).toInt + 0 := q9pC (q9evS ae5) (q9evC w0 4) (hL _ (List.mem_of_getElem? (i := 4) rfl))
  have X2 := q9th_pX (T := T) (N := N) (P := P) (J := J) (t0 := t0) (Sc := Sc) (op := 1002) (q9evS ae0) (q9evZ w0) (q9evS ae1) (hX _ (List.mem_of_getElem? (i := 2) rfl)) (by decide)
  rw [q9FF_1002] at X2
  have H2 := Option.some.inj X2
  try simp only [kz, k4, k59, k60] at H2
  have V1 := q9pV (T := T) (N := N) (P := P) (J := J) (t0 := t0) (Sc := Sc) (op := 1013) (n := 1) (q9evS ae1) (q9evZ w0) (hV _ (List.mem_of_getElem? (i := 1) rfl)) (by decide)
  rw [q9FF_1013] at V1
  have K1 := Option.some.inj V1
  try simp only [kz, k4, k59, k60] at K1
  have X3 := q9th_pX (T := T) (N := N) (P := P) (J := J) (t0 := t0) (Sc := Sc) (op := 1003) (q9evS ae1) (q9evZ w0) (q9evS ae2) (hX _ (List.mem_of_getElem? (i := 3) rfl)) (by decide)
  rw [q9FF_1003] at X3
  have H3 := Option.some.inj X3
  try simp only [kz, k4, k59, k60] at H3
  have V2 := q9pV (T := T) (N := N) (P := P) (J := J) (t0 := t0) (Sc := Sc) (op := 1266) (n := 0) (q9evS ae2) (q9evZ w0) (hV _ (List.mem_of_getElem? (i := 2) rfl)) (by decide)
  rw [q9FF_1266] at V2
  have K2 := Option.some.inj V2
  try simp only [kz, k4, k59, k60] at K2
  have X4 := q9th_pX (T := T) (N := N) (P := P) (J := J) (t0 := t0) (Sc := Sc) (op := 1267) (q9evS ae2) (q9evZ w0) (q9evS ae3) (hX _ (List.mem_of_getElem? (i := 4) rfl)) (by decide)
  rw [q9FF_1267] at X4
  have H4 := Option.some.inj X4
  try simp only [kz, k4, k59, k60] at H4
  have L5 : x4.toInt ≤ (Int32.ofInt 59).toInt + 0 := q9pC (q9evS ae4) (q9evC w0 59) (hL _ (List.mem_of_getElem? (i := 5) rfl))
  have X5 := q9th_pX (T := T) (N := N) (P := P) (J := J) (t0 := t0) (Sc := Sc) (op := 1301) (q9evS ae2) (q9evZ w0) (q9evS ae6) (hX _ (List.mem_of_getElem? (i := 5) rfl)) (by decide)
  rw [q9FF_1301] at X5
  have H5 := Option.some.inj X5
  try simp only [kz, k4, k59, k60] at H5
  obtain ⟨c, hv, hc, h8, h9, -⟩ := K0
  have hd : x5.toInt + 1 = c.2.2.length := q9th_at_of hv hc H0
  have hz : x4.toInt = c.2.1 := q9th_at_of hv hc H1
  have hb : q9spI T N c.1 = x1.toInt := by rw [hc]; exact H2
  obtain ⟨q, st, hst⟩ : ∃ q st, c.2.2 = q :: st := by
    cases hh : c.2.2 with
    | nil => exfalso; rw [hh, List.length_nil] at hd; omega
    | cons q st => exact ⟨q, st, rfl⟩
  have hl2 : c.2.2.length = st.length + 1 := by rw [hst, List.length_cons]
  have hk : q9kbI T N (q9spI T N c.1) = 1 := by rw [hb]; exact K1
  have hl : q9lkI T N c = 1 := by rw [q9lk_of h8 (by omega), hk]
  have he : q9weI T N x1.toInt = x2.toInt := H3
  have hr : q9rcI T N P J c = (0, x3.toInt) := by unfold q9rcI q9rsI; rw [hl, hb, he]; exact Prod.ext K2 H4
  have hok : q9okL T N P J c := ⟨by omega, by omega, by omega, fun h => by omega, by rw [hr]⟩
  have hp : q9prI T N P J c x3.toInt := ⟨hv, .inl ⟨hok, by omega, by rw [hr]⟩⟩
  have hen : q9enE T N P J x4.toInt (x4.toInt + 1) := .inl ⟨c, hv, hok, hz.symm, by omega, rfl⟩
  have ham : x6.toInt = q9amI T N P J (q9lkI T N c) (q9weI T N (q9spI T N c.1)) := by rw [hl, hb, he]; exact (H5).symm
  have rg0 : (1 : Int) ≤ 1 ∧ (1 : Int) ≤ 1 := by omega
  obtain ⟨x7, nt7⟩ : ∃ x : Int32, x.toInt = 1 := ⟨Int32.ofInt (1), q9oI_toInt (by omega)⟩
  have rg1 : (1 : Int) ≤ 1 ∧ (1 : Int) ≤ 1 := by omega
  obtain ⟨x8, nt8⟩ : ∃ x : Int32, x.toInt = 1 := ⟨Int32.ofInt (1), q9oI_toInt (by omega)⟩
  have rg2 : (1 : Int) ≤ (x4.toInt + 1) ∧ ((x4.toInt + 1) : Int) ≤ 60 := by omega
  obtain ⟨x9, nt9⟩ : ∃ x : Int32, x.toInt = (x4.toInt + 1) := ⟨Int32.ofInt ((x4.toInt + 1)), q9oI_toInt (by omega)⟩
  have rg3 : (1 : Int) ≤ (x4.toInt + 1) ∧ ((x4.toInt + 1) : Int) ≤ 60 := by omega
  obtain ⟨x10, nt10⟩ : ∃ x : Int32, x.toInt = (x4.toInt + 1) := ⟨Int32.ofInt ((x4.toInt + 1)), q9oI_toInt (by omega)⟩
  have u_ : q9upN w 8 [.int x7, .int x8, .int x9, .int x10] 0 = .int 0 := q9upN_of (by decide) w0
  have u0 : q9upN w 8 [.int x7, .int x8, .int x9, .int x10] 1 = .int x0 := q9upN_of (by decide) ae0
  have u1 : q9upN w 8 [.int x7, .int x8, .int x9, .int x10] 2 = .int x1 := q9upN_of (by decide) ae1
  have u2 : q9upN w 8 [.int x7, .int x8, .int x9, .int x10] 3 = .int x2 := q9upN_of (by decide) ae2
  have u3 : q9upN w 8 [.int x7, .int x8, .int x9, .int x10] 4 = .int x3 := q9upN_of (by decide) ae3
  have u4 : q9upN w 8 [.int x7, .int x8, .int x9, .int x10] 5 = .int x4 := q9upN_of (by decide) ae4
  have u5 : q9upN w 8 [.int x7, .int x8, .int x9, .int x10] 6 = .int x5 := q9upN_of (by decide) ae5
  have u6 : q9upN w 8 [.int x7, .int x8, .int x9, .int x10] 7 = .int x6 := q9upN_of (by decide) ae6
  have u7 : q9upN w 8 [.int x7, .int x8, .int x9, .int x10] 8 = .int x7 := q9upN_at (by decide)
  have u8 : q9upN w 8 [.int x7, .int x8, .int x9, .int x10] 9 = .int x8 := q9upN_at (by decide)
  have u9 : q9upN w 8 [.int x7, .int x8, .int x9, .int x10] 10 = .int x9 := q9upN_at (by decide)
  have u10 : q9upN w 8 [.int x7, .int x8, .int x9, .int x10] 11 = .int x10 := q9upN_at (by decide)
  refine ⟨[.int x7, .int x8, .int x9, .int x10], fun i9 p9 hq9 => ?_, List.forall_mem_cons.mpr ⟨?_, List.forall_mem_cons.mpr ⟨?_, List.forall_mem_cons.mpr ⟨?_, fun _ h => absurd h List.not_mem_nil⟩⟩⟩, List.forall_mem_cons.mpr ⟨?_, List.forall_mem_cons.mpr ⟨?_, List.forall_mem_cons.mpr ⟨?_, List.forall_mem_cons.mpr ⟨?_, List.forall_mem_cons.mpr ⟨?_, fun _ h => absurd h List.not_mem_nil⟩⟩⟩⟩⟩⟩
  · match i9, hq9 with
    | 0, hq9 =>
      have hp9 : ((1030, (4, 0), (0, 0), (0, 1, 1)) : Nat × q9AV × q9AV × q9ET) = p9 := Option.some.inj hq9
      subst hp9
      exact ⟨⟨x7, rfl, by rw [nt7]; exact rg0.1, by rw [nt7]; exact rg0.2⟩, (q9th_tX (T := T) (N := N) (P := P) (J := J) (t0 := t0) (Sc := Sc) (q9evS u3) (q9evZ u_) (q9evS u7) (by rw [q9FF_1030, nt7]; exact (by rw [← q9FF_1030 (t0 := t0) (Sc := Sc) (b := (0 : Int32).toInt)]; exact q9F_pvs hp)) (by decide)).trans (congrArg some (q9evS u7))⟩
    | 1, hq9 =>
      have hp9 : ((1050, (5, 0), (0, 0), (0, 1, 1)) : Nat × q9AV × q9AV × q9ET) = p9 := Option.some.inj hq9
      subst hp9
      exact ⟨⟨x8, rfl, by rw [nt8]; exact rg1.1, by rw [nt8]; exact rg1.2⟩, (q9th_tX (T := T) (N := N) (P := P) (J := J) (t0 := t0) (Sc := Sc) (q9evS u4) (q9evZ u_) (q9evS u8) (by rw [q9FF_1050, nt8]; exact (by rw [← q9FF_1050 (t0 := t0) (Sc := Sc) (b := (0 : Int32).toInt)]; exact q9F_kd hv hok hz.symm hl.symm)) (by decide)).trans (congrArg some (q9evS u8))⟩
    | 2, hq9 =>
      have hp9 : ((1032, (4, 0), (0, 0), (0, 1, 60)) : Nat × q9AV × q9AV × q9ET) = p9 := Option.some.inj hq9
      subst hp9
      exact ⟨⟨x9, rfl, by rw [nt9]; exact rg2.1, by rw [nt9]; exact rg2.2⟩, (q9th_tX (T := T) (N := N) (P := P) (J := J) (t0 := t0) (Sc := Sc) (q9evS u3) (q9evZ u_) (q9evS u9) (by rw [q9FF_1032, nt9]; exact (by rw [← q9FF_1032 (t0 := t0) (Sc := Sc) (b := (0 : Int32).toInt)]; exact q9F_psz hp (by rw [if_neg (by omega)]; omega))) (by decide)).trans (congrArg some (q9evS u9))⟩
    | 3, hq9 =>
      have hp9 : ((1052, (5, 0), (0, 0), (0, 1, 60)) : Nat × q9AV × q9AV × q9ET) = p9 := Option.some.inj hq9
      subst hp9
      exact ⟨⟨x10, rfl, by rw [nt10]; exact rg3.1, by rw [nt10]; exact rg3.2⟩, (q9th_tX (T := T) (N := N) (P := P) (J := J) (t0 := t0) (Sc := Sc) (q9evS u4) (q9evZ u_) (q9evS u10) (by rw [q9FF_1052, nt10]; exact (by rw [← q9FF_1052 (t0 := t0) (Sc := Sc) (b := (0 : Int32).toInt)]; exact q9F_en hN.1 hen)) (by decide)).trans (congrArg some (q9evS u10))⟩
    | k9 + 4, hq9 => exact nomatch (show (none : Option (Nat × q9AV × q9AV × q9ET)) = some p9 from hq9)
  · exact q9th_tX (T := T) (N := N) (P := P) (J := J) (t0 := t0) (Sc := Sc) (q9evS u3) (q9evZ u_) (q9evS u5) (by rw [q9FF_1031]; exact (by rw [← q9FF_1031 (t0 := t0) (Sc := Sc) (b := (0 : Int32).toInt)]; exact q9F_pdp hp (by rw [if_neg (by omega)]; omega))) (by decide)
  · exact q9th_tX (T := T) (N := N) (P := P) (J := J) (t0 := t0) (Sc := Sc) (q9evS u3) (q9evZ u_) (q9evS u0) (by rw [q9FF_1034]; exact (by rw [← q9FF_1034 (t0 := t0) (Sc := Sc) (b := (0 : Int32).toInt)]; exact q9F_plk hp hst (by rw [if_neg (by omega)]; exact hc.symm))) (by decide)
  · exact q9th_tX (T := T) (N := N) (P := P) (J := J) (t0 := t0) (Sc := Sc) (q9evS u4) (q9evZ u_) (q9evS u6) (by rw [q9FF_1051]; exact (by rw [← q9FF_1051 (t0 := t0) (Sc := Sc) (b := (0 : Int32).toInt)]; exact q9F_mn hv hok hz.symm ham)) (by decide)
  · exact q9th_tC (d := (-1)) (q9evS u0) (q9evS u3) (by have := q9pr_gt hp; omega)
  · exact q9th_tC (d := 1) (q9evS u9) (q9evS u4) (by omega)
  · exact q9th_tC (d := (-1)) (q9evS u4) (q9evS u9) (by omega)
  · exact q9th_tC (d := 1) (q9evS u10) (q9evS u4) (by omega)
  · exact q9th_tC (d := (-1)) (q9evS u4) (q9evS u10) (by omega)
theorem q9ru_cfs1 (hT : ∀ i, 0 ≤ T i ∧ T i ≤ 255) (hN : 0 ≤ N ∧ N ≤ 400) (hSc : 0 ≤ Sc 1 ∧ Sc 1 ≤ 400 → N = Sc 1) : q9ruOK (fO T N P J t0 Sc) q9R_cfs1 := by
  intro w w0 hA hX hL hV hR
  obtain ⟨x0, ae0, -, -⟩ := hA 0 0 rfl
  obtain ⟨x1, ae1, -, -⟩ := hA 1 0 rfl
  obtain ⟨x2, ae2, -, -⟩ := hA 2 0 rfl
  obtain ⟨x3, ae3, -, -⟩ := hA 3 0 rfl
  obtain ⟨x4, ae4, -, -⟩ := hA 4 0 rfl
  obtain ⟨x5, ae5, -, -⟩ := hA 5 0 rfl
  obtain ⟨x6, ae6, -, -⟩ := hA 6 0 rfl
  have kz : (0 : Int32).toInt = 0 := rfl
  have k4 : (Int32.ofInt 4).toInt = 4 := q9oI_toInt (by decide)
  have k59 : (Int32.ofInt 59).toInt = 59 := q9oI_toInt (by decide)
  have k60 : (Int32.ofInt 60).toInt = 60 := q9oI_toInt (by decide)
  have V0 := q9pV (T := T) (N := N) (P := P) (J := J) (t0 := t0) (Sc := Sc) (op := 1027) (n := 1) (q9evS ae0) (q9evZ w0) (hV _ (List.mem_of_getElem? (i := 0) rfl)) (by decide)
  rw [q9FF_1027] at V0
  have K0 := q9chV_of V0
  try simp only [kz, k4, k59, k60] at K0
  have X0 := q9th_pX (T := T) (N := N) (P := P) (J := J) (t0 := t0) (Sc := Sc) (op := 1021) (q9evS ae0) (q9evZ w0) (q9evS ae6) (hX _ (List.mem_of_getElem? (i := 0) rfl)) (by decide)
  rw [q9FF_1021] at X0
  have H0 := q9chV_of X0
  try simp only [kz, k4, k59, k60] at H0
  have X1 := q9th_pX (T := T) (N := N) (P := P) (J := J) (t0 := t0) (Sc := Sc) (op := 1022) (q9evS ae0) (q9evZ w0) (q9evS ae5) (hX _ (List.mem_of_getElem? (i := 1) rfl)) (by decide)
  rw [q9FF_1022] at X1
  have H1 := q9chV_of X1
  try simp only [kz, k4, k59, k60] at H1
  have L0 : (0 : Int32).toInt ≤ x0.toInt + 0 := q9pC (q9evZ w0) (q9evS ae0) (hL _ (List.mem_of_getElem? (i := 0) rfl))
  have L1 : (0 : Int32).toInt ≤ x5.toInt + 0 := q9pC (q9evZ w0) (q9evS ae5) (hL _ (List.mem_of_getElem? (i := 1) rfl))
  have L2 : x5.toInt ≤ (Int32.ofInt 60).toInt + 0 := q9pC (q9evS ae5) (q9evC w0 60) (hL _ (List.mem_of_getElem? (i := 2) rfl))
  have L3 : (0 : Int32).toInt ≤ x6.toInt + 0 := q9pC (q9evZ w0) (q9evS ae6) (hL _ (List.mem_of_getElem? (i := 3) rfl))
  have L4 : x6.toInt ≤ (Int32.ofInt 4).toInt + 0 := q9pC (q9evS ae6) (q9evC w0 4) (hL _ (List.mem_of_getElem? (i := 4) rfl))
  have X2 := q9th_pX (T := T) (N := N) (P := P) (J := J) (t0 := t0) (Sc := Sc) (op := 1002) (q9evS ae0) (q9evZ w0) (q9evS ae1) (hX _ (List.mem_of_getElem? (i := 2) rfl)) (by decide)
  rw [q9FF_1002] at X2
  have H2 := Option.some.inj X2
  try simp only [kz, k4, k59, k60] at H2
  have V1 := q9pV (T := T) (N := N) (P := P) (J := J) (t0 := t0) (Sc := Sc) (op := 1013) (n := 1) (q9evS ae1) (q9evZ w0) (hV _ (List.mem_of_getElem? (i := 1) rfl)) (by decide)
  rw [q9FF_1013] at V1
  have K1 := Option.some.inj V1
  try simp only [kz, k4, k59, k60] at K1
  have X3 := q9th_pX (T := T) (N := N) (P := P) (J := J) (t0 := t0) (Sc := Sc) (op := 1003) (q9evS ae1) (q9evZ w0) (q9evS ae2) (hX _ (List.mem_of_getElem? (i := 3) rfl)) (by decide)
  rw [q9FF_1003] at X3
  have H3 := Option.some.inj X3
  try simp only [kz, k4, k59, k60] at H3
  have V2 := q9pV (T := T) (N := N) (P := P) (J := J) (t0 := t0) (Sc := Sc) (op := 1266) (n := 0) (q9evS ae2) (q9evZ w0) (hV _ (List.mem_of_getElem? (i := 2) rfl)) (by decide)
  rw [q9FF_1266] at V2
  have K2 := Option.some.inj V2
  try simp only [kz, k4, k59, k60] at K2
  have X4 := q9th_pX (T := T) (N := N) (P := P) (J := J) (t0 := t0) (Sc := Sc) (op := 1267) (q9evS ae2) (q9evZ w0) (q9evS ae3) (hX _ (List.mem_of_getElem? (i := 4) rfl)) (by decide)
  rw [q9FF_1267] at X4
  have H4 := Option.some.inj X4
  try simp only [kz, k4, k59, k60] at H4
  have X5 := q9th_pX (T := T) (N := N) (P := P) (J := J) (t0 := t0) (Sc := Sc) (op := 1002) (q9evS ae3) (q9evZ w0) (q9evS ae4) (hX _ (List.mem_of_getElem? (i := 5) rfl)) (by decide)
  rw [q9FF_1002] at X5
  have H5 := Option.some.inj X5
  try simp only [kz, k4, k59, k60] at H5
  have V3 := q9pV (T := T) (N := N) (P := P) (J := J) (t0 := t0) (Sc := Sc) (op := 1009) (n := 0) (q9evS ae4) (q9evC w0 59) (hV _ (List.mem_of_getElem? (i := 3) rfl)) (by decide)
  rw [q9FF_1009] at V3
  have K3 := Option.some.inj V3
  try simp only [kz, k4, k59, k60] at K3
  have L5 : x5.toInt ≤ (Int32.ofInt 59).toInt + 0 := q9pC (q9evS ae5) (q9evC w0 59) (hL _ (List.mem_of_getElem? (i := 5) rfl))
  obtain ⟨c, hv, hc, h8, h9, -⟩ := K0
  have hd : x6.toInt + 1 = c.2.2.length := q9th_at_of hv hc H0
  have hz : x5.toInt = c.2.1 := q9th_at_of hv hc H1
  have hb : q9spI T N c.1 = x1.toInt := by rw [hc]; exact H2
  obtain ⟨q, st, hst⟩ : ∃ q st, c.2.2 = q :: st := by
    cases hh : c.2.2 with
    | nil => exfalso; rw [hh, List.length_nil] at hd; omega
    | cons q st => exact ⟨q, st, rfl⟩
  have hl2 : c.2.2.length = st.length + 1 := by rw [hst, List.length_cons]
  have hk : q9kbI T N (q9spI T N c.1) = 1 := by rw [hb]; exact K1
  have hl : q9lkI T N c = 1 := by rw [q9lk_of h8 (by omega), hk]
  have he : q9weI T N x1.toInt = x2.toInt := H3
  have hr : q9rcI T N P J c = (0, x3.toInt) := by unfold q9rcI q9rsI; rw [hl, hb, he]; exact Prod.ext K2 H4
  have hs4 : q9spI T N x3.toInt = x4.toInt := H5
  have hn : q9th_nxI T N P J c = none := q9nx_no h8 (.inr ⟨by omega, by rw [hr]; show q9byI T N (q9spI T N x3.toInt) ≠ 59; rw [hs4]; exact q9is_0 K3 (by omega)⟩)
  have hre : q9th_reI T N P J c = (1, x4.toInt) := by unfold q9th_reI; rw [if_neg h8, if_neg (by omega), if_neg (by omega), if_neg (by omega), if_pos (by rw [hr]), hr]; show (1, q9spI T N x3.toInt) = _; rw [hs4]
  have rg0 : (1 : Int) ≤ 1 ∧ (1 : Int) ≤ 1 := by omega
  obtain ⟨x7, nt7⟩ : ∃ x : Int32, x.toInt = 1 := ⟨Int32.ofInt (1), q9oI_toInt (by omega)⟩
  have u_ : q9upN w 8 [.int x7] 0 = .int 0 := q9upN_of (by decide) w0
  have u0 : q9upN w 8 [.int x7] 1 = .int x0 := q9upN_of (by decide) ae0
  have u1 : q9upN w 8 [.int x7] 2 = .int x1 := q9upN_of (by decide) ae1
  have u2 : q9upN w 8 [.int x7] 3 = .int x2 := q9upN_of (by decide) ae2
  have u3 : q9upN w 8 [.int x7] 4 = .int x3 := q9upN_of (by decide) ae3
  have u4 : q9upN w 8 [.int x7] 5 = .int x4 := q9upN_of (by decide) ae4
  have u5 : q9upN w 8 [.int x7] 6 = .int x5 := q9upN_of (by decide) ae5
  have u6 : q9upN w 8 [.int x7] 7 = .int x6 := q9upN_of (by decide) ae6
  have u7 : q9upN w 8 [.int x7] 8 = .int x7 := q9upN_at (by decide)
  refine ⟨[.int x7], fun i9 p9 hq9 => ?_, List.forall_mem_cons.mpr ⟨?_, fun _ h => absurd h List.not_mem_nil⟩, fun _ h => absurd h List.not_mem_nil⟩
  · match i9, hq9 with
    | 0, hq9 =>
      have hp9 : ((1040, (0, 0), (0, 0), (0, 1, 1)) : Nat × q9AV × q9AV × q9ET) = p9 := Option.some.inj hq9
      subst hp9
      exact ⟨⟨x7, rfl, by rw [nt7]; exact rg0.1, by rw [nt7]; exact rg0.2⟩, (q9th_tX (T := T) (N := N) (P := P) (J := J) (t0 := t0) (Sc := Sc) (q9evZ u_) (q9evZ u_) (q9evS u7) (by rw [q9FF_1040, nt7]; exact (by rw [← q9FF_1040 (t0 := t0) (Sc := Sc) (a := (0 : Int32).toInt) (b := (0 : Int32).toInt)]; exact q9F_rsk hv hn (by rw [hre]))) (by decide)).trans (congrArg some (q9evS u7))⟩
    | k9 + 1, hq9 => exact nomatch (show (none : Option (Nat × q9AV × q9AV × q9ET)) = some p9 from hq9)
  · exact q9th_tX (T := T) (N := N) (P := P) (J := J) (t0 := t0) (Sc := Sc) (q9evZ u_) (q9evZ u_) (q9evS u4) (by rw [q9FF_1041]; exact (by rw [← q9FF_1041 (t0 := t0) (Sc := Sc) (a := (0 : Int32).toInt) (b := (0 : Int32).toInt)]; exact q9F_rsp hv hn (by rw [hre]; exact (by decide : (1 : Int) ≠ 0)) (by rw [hre]))) (by decide)
theorem q9ru_cl2 (hT : ∀ i, 0 ≤ T i ∧ T i ≤ 255) (hN : 0 ≤ N ∧ N ≤ 400) (hSc : 0 ≤ Sc 1 ∧ Sc 1 ≤ 400 → N = Sc 1) : q9ruOK (fO T N P J t0 Sc) q9R_cl2 := by
  intro w w0 hA hX hL hV hR
  obtain ⟨x0, ae0, -, -⟩ := hA 0 0 rfl
  obtain ⟨x1, ae1, -, -⟩ := hA 1 0 rfl
  obtain ⟨x2, ae2, -, -⟩ := hA 2 0 rfl
  obtain ⟨x3, ae3, -, -⟩ := hA 3 0 rfl
  obtain ⟨x4, ae4, -, -⟩ := hA 4 0 rfl
  obtain ⟨x5, ae5, -, -⟩ := hA 5 0 rfl
  obtain ⟨x6, ae6, -, -⟩ := hA 6 0 rfl
  obtain ⟨x7, ae7, -, -⟩ := hA 7 0 rfl
  obtain ⟨x8, ae8, -, -⟩ := hA 8 0 rfl
  obtain ⟨x9, ae9, -, -⟩ := hA 9 1 rfl
  obtain ⟨x10, ae10, -, -⟩ := hA 10 1 rfl
  have kz : (0 : Int32).toInt = 0 := rfl
  have k4 : (Int32.ofInt 4).toInt = 4 := q9oI_toInt (by decide)
  have k59 : (Int32.ofInt 59).toInt = 59 := q9oI_toInt (by decide)
  have k60 : (Int32.ofInt 60).toInt = 60 := q9oI_toInt (by decide)
  have V0 := q9pV (T := T) (N := N) (P := P) (J := J) (t0 := t0) (Sc := Sc) (op := 1027) (n := 1) (q9evS ae0) (q9evZ w0) (hV _ (List.mem_of_getElem? (i := 0) rfl)) (by decide)
  rw [q9FF_1027] at V0
  have K0 := q9chV_of V0
  try simp only [kz, k4, k59, k60] at K0
  have X0 := q9th_pX (T := T) (N := N) (P := P) (J := J) (t0 := t0) (Sc := Sc) (op := 1021) (q9evS ae0) (q9evZ w0) (q9evS ae8) (hX _ (List.mem_of_getElem? (i := 0) rfl)) (by decide)
  rw [q9FF_1021] at X0
  have H0 := q9chV_of X0
  try simp only [kz, k4, k59, k60] at H0
  have X1 := q9th_pX (T := T) (N := N) (P := P) (J := J) (t0 := t0) (Sc := Sc) (op := 1022) (q9evS ae0) (q9evZ w0) (q9evS ae6) (hX _ (List.mem_of_getElem? (i := 1) rfl)) (by decide)
  rw [q9FF_1022] at X1
  have H1 := q9chV_of X1
  try simp only [kz, k4, k59, k60] at H1
  have L0 : (0 : Int32).toInt ≤ x0.toInt + 0 := q9pC (q9evZ w0) (q9evS ae0) (hL _ (List.mem_of_getElem? (i := 0) rfl))
  have L1 : (0 : Int32).toInt ≤ x6.toInt + 0 := q9pC (q9evZ w0) (q9evS ae6) (hL _ (List.mem_of_getElem? (i := 1) rfl))
  have L2 : x6.toInt ≤ (Int32.ofInt 60).toInt + 0 := q9pC (q9evS ae6) (q9evC w0 60) (hL _ (List.mem_of_getElem? (i := 2) rfl))
  have L3 : (0 : Int32).toInt ≤ x8.toInt + 0 := q9pC (q9evZ w0) (q9evS ae8) (hL _ (List.mem_of_getElem? (i := 3) rfl))
  have L4 : x8.toInt ≤ (Int32.ofInt 4).toInt + 0 := q9pC (q9evS ae8) (q9evC w0 4) (hL _ (List.mem_of_getElem? (i := 4) rfl))
  have X2 := q9th_pX (T := T) (N := N) (P := P) (J := J) (t0 := t0) (Sc := Sc) (op := 1002) (q9evS ae0) (q9evZ w0) (q9evS ae1) (hX _ (List.mem_of_getElem? (i := 2) rfl)) (by decide)
  rw [q9FF_1002] at X2
  have H2 := Option.some.inj X2
  try simp only [kz, k4, k59, k60] at H2
  have V1 := q9pV (T := T) (N := N) (P := P) (J := J) (t0 := t0) (Sc := Sc) (op := 1013) (n := 2) (q9evS ae1) (q9evZ w0) (hV _ (List.mem_of_getElem? (i := 1) rfl)) (by decide)
  rw [q9FF_1013] at V1
  have K1 := Option.some.inj V1
  try simp only [kz, k4, k59, k60] at K1
  have X3 := q9th_pX (T := T) (N := N) (P := P) (J := J) (t0 := t0) (Sc := Sc) (op := 1003) (q9evS ae1) (q9evZ w0) (q9evS ae2) (hX _ (List.mem_of_getElem? (i := 3) rfl)) (by decide)
  rw [q9FF_1003] at X3
  have H3 := Option.some.inj X3
  try simp only [kz, k4, k59, k60] at H3
  have V2 := q9pV (T := T) (N := N) (P := P) (J := J) (t0 := t0) (Sc := Sc) (op := 1262) (n := 0) (q9evS ae2) (q9evZ w0) (hV _ (List.mem_of_getElem? (i := 2) rfl)) (by decide)
  rw [q9FF_1262] at V2
  have K2 := Option.some.inj V2
  try simp only [kz, k4, k59, k60] at K2
  have X4 := q9th_pX (T := T) (N := N) (P := P) (J := J) (t0 := t0) (Sc := Sc) (op := 1263) (q9evS ae2) (q9evZ w0) (q9evS ae3) (hX _ (List.mem_of_getElem? (i := 4) rfl)) (by decide)
  rw [q9FF_1263] at X4
  have H4 := Option.some.inj X4
  try simp only [kz, k4, k59, k60] at H4
  have X5 := q9th_pX (T := T) (N := N) (P := P) (J := J) (t0 := t0) (Sc := Sc) (op := 1002) (q9evS ae3) (q9evZ w0) (q9evS ae4) (hX _ (List.mem_of_getElem? (i := 5) rfl)) (by decide)
  rw [q9FF_1002] at X5
  have H5 := Option.some.inj X5
  try simp only [kz, k4, k59, k60] at H5
  have V3 := q9pV (T := T) (N := N) (P := P) (J := J) (t0 := t0) (Sc := Sc) (op := 1009) (n := 1) (q9evS ae4) (q9evC w0 59) (hV _ (List.mem_of_getElem? (i := 3) rfl)) (by decide)
  rw [q9FF_1009] at V3
  have K3 := Option.some.inj V3
  try simp only [kz, k4, k59, k60] at K3
  have L5 : x5.toInt ≤ x4.toInt + 1 := q9pC (q9evS ae5) (q9evS ae4) (hL _ (List.mem_of_getElem? (i := 5) rfl))
  have L6 : x4.toInt ≤ x5.toInt + (-1) := q9pC (q9evS ae4) (q9evS ae5) (hL _ (List.mem_of_getElem? (i := 6) rfl))
  have L7 : x6.toInt ≤ (Int32.ofInt 59).toInt + 0 := q9pC (q9evS ae6) (q9evC w0 59) (hL _ (List.mem_of_getElem? (i := 7) rfl))
  have L8 : x7.toInt ≤ x6.toInt + 1 := q9pC (q9evS ae7) (q9evS ae6) (hL _ (List.mem_of_getElem? (i := 8) rfl))
  have L9 : x6.toInt ≤ x7.toInt + (-1) := q9pC (q9evS ae6) (q9evS ae7) (hL _ (List.mem_of_getElem? (i := 9) rfl))
  have X6 := q9pL (T := T) (N := N) (P := P) (J := J) (t0 := t0) (Sc := Sc) (op := 1024) (q9evS ae0) (q9evS ae8) (q9evS ae9) (hX _ (List.mem_of_getElem? (i := 6) rfl)) (by decide)
  rw [q9FL_1024] at X6
  have H6 := q9chV_of X6
  try simp only [kz, k4, k59, k60] at H6
  have X7 := q9pL (T := T) (N := N) (P := P) (J := J) (t0 := t0) (Sc := Sc) (op := 1028) (q9evS ae0) (q9evZ w0) (q9evS ae10) (hX _ (List.mem_of_getElem? (i := 7) rfl)) (by decide)
  rw [q9FL_1028] at X7
  have H7 := q9chV_of X7
  try simp only [kz, k4, k59, k60] at H7
  obtain ⟨c, hv, hc, h8, h9, -⟩ := K0
  have hd : x8.toInt + 1 = c.2.2.length := q9th_at_of hv hc H0
  have hz : x6.toInt = c.2.1 := q9th_at_of hv hc H1
  have hb : q9spI T N c.1 = x1.toInt := by rw [hc]; exact H2
  obtain ⟨q, st, hst⟩ : ∃ q st, c.2.2 = q :: st := by
    cases hh : c.2.2 with
    | nil => exfalso; rw [hh, List.length_nil] at hd; omega
    | cons q st => exact ⟨q, st, rfl⟩
  have hl2 : c.2.2.length = st.length + 1 := by rw [hst, List.length_cons]
  have hk : q9kbI T N (q9spI T N c.1) = 2 := by rw [hb]; exact K1
  have hl : q9lkI T N c = 2 := by rw [q9lk_of h8 (by omega), hk]
  have he : q9weI T N x1.toInt = x2.toInt := H3
  have hr : q9rcI T N P J c = (0, x3.toInt) := by unfold q9rcI q9rsI; rw [hl, hb, he]; exact Prod.ext K2 H4
  have hok : q9okL T N P J c := ⟨by omega, by omega, by omega, fun h => by omega, by rw [hr]⟩
  have hs4 : q9spI T N x3.toInt = x4.toInt := H5
  have hn := q9nx_line hst (by omega) (by omega) (by omega) hr rfl (by rw [hs4]; exact q9is_1 K3 (by omega))
  generalize hg : ((q9spI T N ((0, x3.toInt) : q9TK2).2 + 1, c.2.1 + 1, (q.1, q.2.1, (if q9lkI T N c ≤ 1 then q.2.2.1 + Int64.ofInt (q9amI T N P J (q9lkI T N c) (q9weI T N (q9spI T N c.1))) else q.2.2.1), q.2.2.2 + 1) :: st) : q9CF9) = c' at hn
  have hv' := q9vis_next hv hn
  have hc' : c'.1 = x5.toInt := by rw [← hg]; show q9spI T N x3.toInt + 1 = _; omega
  have hst' : c'.2.2 = (q.1, q.2.1, (if q9lkI T N c ≤ 1 then q.2.2.1 + Int64.ofInt (q9amI T N P J (q9lkI T N c) (q9weI T N (q9spI T N c.1))) else q.2.2.1), q.2.2.2 + 1) :: st := by rw [← hg]
  have hd' : x8.toInt + 1 = c'.2.2.length := by rw [hst', List.length_cons]; omega
  have hz' : x7.toInt = c'.2.1 := by rw [← hg]; show _ = c.2.1 + 1; omega
  have hf : ∃ e, q9enI c x8.toInt = some e ∧ x9 = e.2.2.1 := q9th_at_of hv hc H6
  obtain ⟨q0, f1, f2⟩ := hf
  rw [q9en_top hst hd] at f1
  cases f1
  rw [if_neg (by omega), ← f2] at hst'
  have hg2 : ∃ q st, c.2.2 = q :: st ∧ x10 = q.2.2.2 + 1 := q9th_at_of hv hc H7
  obtain ⟨q1, st1, g1, g2⟩ := hg2
  rw [hst] at g1
  cases g1
  rw [← g2] at hst'
  have rg0 : (1 : Int) ≤ 1 ∧ (1 : Int) ≤ 1 := by omega
  obtain ⟨x11, nt11⟩ : ∃ x : Int32, x.toInt = 1 := ⟨Int32.ofInt (1), q9oI_toInt (by omega)⟩
  have rg1 : (2 : Int) ≤ 2 ∧ (2 : Int) ≤ 2 := by omega
  obtain ⟨x12, nt12⟩ : ∃ x : Int32, x.toInt = 2 := ⟨Int32.ofInt (2), q9oI_toInt (by omega)⟩
  have u_ : q9upN w 12 [.int x11, .int x12] 0 = .int 0 := q9upN_of (by decide) w0
  have u0 : q9upN w 12 [.int x11, .int x12] 1 = .int x0 := q9upN_of (by decide) ae0
  have u1 : q9upN w 12 [.int x11, .int x12] 2 = .int x1 := q9upN_of (by decide) ae1
  have u2 : q9upN w 12 [.int x11, .int x12] 3 = .int x2 := q9upN_of (by decide) ae2
  have u3 : q9upN w 12 [.int x11, .int x12] 4 = .int x3 := q9upN_of (by decide) ae3
  have u4 : q9upN w 12 [.int x11, .int x12] 5 = .int x4 := q9upN_of (by decide) ae4
  have u5 : q9upN w 12 [.int x11, .int x12] 6 = .int x5 := q9upN_of (by decide) ae5
  have u6 : q9upN w 12 [.int x11, .int x12] 7 = .int x6 := q9upN_of (by decide) ae6
  have u7 : q9upN w 12 [.int x11, .int x12] 8 = .int x7 := q9upN_of (by decide) ae7
  have u8 : q9upN w 12 [.int x11, .int x12] 9 = .int x8 := q9upN_of (by decide) ae8
  have u9 : q9upN w 12 [.int x11, .int x12] 10 = .long x9 := q9upN_of (by decide) ae9
  have u10 : q9upN w 12 [.int x11, .int x12] 11 = .long x10 := q9upN_of (by decide) ae10
  have u11 : q9upN w 12 [.int x11, .int x12] 12 = .int x11 := q9upN_at (by decide)
  have u12 : q9upN w 12 [.int x11, .int x12] 13 = .int x12 := q9upN_at (by decide)
  refine ⟨[.int x11, .int x12], fun i9 p9 hq9 => ?_, List.forall_mem_cons.mpr ⟨?_, List.forall_mem_cons.mpr ⟨?_, List.forall_mem_cons.mpr ⟨?_, List.forall_mem_cons.mpr ⟨?_, List.forall_mem_cons.mpr ⟨?_, fun _ h => absurd h List.not_mem_nil⟩⟩⟩⟩⟩, List.forall_mem_cons.mpr ⟨?_, fun _ h => absurd h List.not_mem_nil⟩⟩
  · match i9, hq9 with
    | 0, hq9 =>
      have hp9 : ((1020, (6, 0), (0, 0), (0, 1, 1)) : Nat × q9AV × q9AV × q9ET) = p9 := Option.some.inj hq9
      subst hp9
      exact ⟨⟨x11, rfl, by rw [nt11]; exact rg0.1, by rw [nt11]; exact rg0.2⟩, (q9th_tX (T := T) (N := N) (P := P) (J := J) (t0 := t0) (Sc := Sc) (q9evS u5) (q9evZ u_) (q9evS u11) (by rw [q9FF_1020, nt11]; exact (by rw [← q9FF_1020 (t0 := t0) (Sc := Sc) (b := (0 : Int32).toInt)]; exact q9F_vis hv' hc')) (by decide)).trans (congrArg some (q9evS u11))⟩
    | 1, hq9 =>
      have hp9 : ((1050, (7, 0), (0, 0), (0, 2, 2)) : Nat × q9AV × q9AV × q9ET) = p9 := Option.some.inj hq9
      subst hp9
      exact ⟨⟨x12, rfl, by rw [nt12]; exact rg1.1, by rw [nt12]; exact rg1.2⟩, (q9th_tX (T := T) (N := N) (P := P) (J := J) (t0 := t0) (Sc := Sc) (q9evS u6) (q9evZ u_) (q9evS u12) (by rw [q9FF_1050, nt12]; exact (by rw [← q9FF_1050 (t0 := t0) (Sc := Sc) (b := (0 : Int32).toInt)]; exact q9F_kd hv hok hz.symm hl.symm)) (by decide)).trans (congrArg some (q9evS u12))⟩
    | k9 + 2, hq9 => exact nomatch (show (none : Option (Nat × q9AV × q9AV × q9ET)) = some p9 from hq9)
  · exact q9th_tX (T := T) (N := N) (P := P) (J := J) (t0 := t0) (Sc := Sc) (q9evS u5) (q9evZ u_) (q9evS u8) (by rw [q9FF_1021]; exact (by rw [← q9FF_1021 (t0 := t0) (Sc := Sc) (b := (0 : Int32).toInt)]; exact q9F_dp hv' hc' hd')) (by decide)
  · exact q9th_tX (T := T) (N := N) (P := P) (J := J) (t0 := t0) (Sc := Sc) (q9evS u5) (q9evZ u_) (q9evS u7) (by rw [q9FF_1022]; exact (by rw [← q9FF_1022 (t0 := t0) (Sc := Sc) (b := (0 : Int32).toInt)]; exact q9F_sz hv' hc' hz')) (by decide)
  · exact q9th_tX (T := T) (N := N) (P := P) (J := J) (t0 := t0) (Sc := Sc) (q9evS u5) (q9evZ u_) (q9evS u0) (by rw [q9FF_1026]; exact (by rw [← q9FF_1026 (t0 := t0) (Sc := Sc) (b := (0 : Int32).toInt)]; exact q9F_prv hv hn hc' hc.symm)) (by decide)
  · exact q9th_tL (T := T) (N := N) (P := P) (J := J) (t0 := t0) (Sc := Sc) (q9evS u5) (q9evS u8) (q9evS u9) (by rw [q9FL_1024]; exact (by rw [← q9FL_1024 (b := x8.toInt)]; exact q9G_frv hv' hc' (q9en_top hst' hd') rfl)) (by decide)
  · exact q9th_tL (T := T) (N := N) (P := P) (J := J) (t0 := t0) (Sc := Sc) (q9evS u5) (q9evS u8) (q9evS u10) (by rw [q9FL_1025]; exact (by rw [← q9FL_1025 (b := x8.toInt)]; exact q9G_dnv hv' hc' (q9en_top hst' hd') rfl)) (by decide)
  · exact q9th_tC (d := (-1)) (q9evS u0) (q9evS u5) (by have := q9nx_pos hn; omega)
theorem q9ru_ln2 (hT : ∀ i, 0 ≤ T i ∧ T i ≤ 255) (hN : 0 ≤ N ∧ N ≤ 400) (hSc : 0 ≤ Sc 1 ∧ Sc 1 ≤ 400 → N = Sc 1) : q9ruOK (fO T N P J t0 Sc) q9R_ln2 := by
  intro w w0 hA hX hL hV hR
  obtain ⟨x0, ae0, -, -⟩ := hA 0 0 rfl
  obtain ⟨x1, ae1, -, -⟩ := hA 1 0 rfl
  obtain ⟨x2, ae2, -, -⟩ := hA 2 0 rfl
  obtain ⟨x3, ae3, -, -⟩ := hA 3 0 rfl
  obtain ⟨x4, ae4, -, -⟩ := hA 4 0 rfl
  obtain ⟨x5, ae5, -, -⟩ := hA 5 0 rfl
  have kz : (0 : Int32).toInt = 0 := rfl
  have k4 : (Int32.ofInt 4).toInt = 4 := q9oI_toInt (by decide)
  have k59 : (Int32.ofInt 59).toInt = 59 := q9oI_toInt (by decide)
  have k60 : (Int32.ofInt 60).toInt = 60 := q9oI_toInt (by decide)
  have V0 := q9pV (T := T) (N := N) (P := P) (J := J) (t0 := t0) (Sc := Sc) (op := 1027) (n := 1) (q9evS ae0) (q9evZ w0) (hV _ (List.mem_of_getElem? (i := 0) rfl)) (by decide)
  rw [q9FF_1027] at V0
  have K0 := q9chV_of V0
  try simp only [kz, k4, k59, k60] at K0
  have X0 := q9th_pX (T := T) (N := N) (P := P) (J := J) (t0 := t0) (Sc := Sc) (op := 1021) (q9evS ae0) (q9evZ w0) (q9evS ae5) (hX _ (List.mem_of_getElem? (i := 0) rfl)) (by decide)
  rw [q9FF_1021] at X0
  have H0 := q9chV_of X0
  try simp only [kz, k4, k59, k60] at H0
  have X1 := q9th_pX (T := T) (N := N) (P := P) (J := J) (t0 := t0) (Sc := Sc) (op := 1022) (q9evS ae0) (q9evZ w0) (q9evS ae4) (hX _ (List.mem_of_getElem? (i := 1) rfl)) (by decide)
  rw [q9FF_1022] at X1
  have H1 := q9chV_of X1
  try simp only [kz, k4, k59, k60] at H1
  have L0 : (0 : Int32).toInt ≤ x0.toInt + 0 := q9pC (q9evZ w0) (q9evS ae0) (hL _ (List.mem_of_getElem? (i := 0) rfl))
  have L1 : (0 : Int32).toInt ≤ x4.toInt + 0 := q9pC (q9evZ w0) (q9evS ae4) (hL _ (List.mem_of_getElem? (i := 1) rfl))
  have L2 : x4.toInt ≤ (Int32.ofInt 60).toInt + 0 := q9pC (q9evS ae4) (q9evC w0 60) (hL _ (List.mem_of_getElem? (i := 2) rfl))
  have L3 : (0 : Int32).toInt ≤ x5.toInt + 0 := q9pC (q9evZ w0) (q9evS ae5) (hL _ (List.mem_of_getElem? (i := 3) rfl))
  have L4 : x5.toInt ≤ (Int32.ofInt 4).toInt + 0 := q9pC (q9evS ae5) (q9evC w0 4) (hL _ (List.mem_of_getElem? (i := 4) rfl))
  have X2 := q9th_pX (T := T) (N := N) (P := P) (J := J) (t0 := t0) (Sc := Sc) (op := 1002) (q9evS ae0) (q9evZ w0) (q9evS ae1) (hX _ (List.mem_of_getElem? (i := 2) rfl)) (by decide)
  rw [q9FF_1002] at X2
  have H2 := Option.some.inj X2
  try simp only [kz, k4, k59, k60] at H2
  have V1 := q9pV (T := T) (N := N) (P := P) (J := J) (t0 := t0) (Sc := Sc) (op := 1013) (n := 2) (q9evS ae1) (q9evZ w0) (hV _ (List.mem_of_getElem? (i := 1) rfl)) (by decide)
  rw [q9FF_1013] at V1
  have K1 := Option.some.inj V1
  try simp only [kz, k4, k59, k60] at K1
  have X3 := q9th_pX (T := T) (N := N) (P := P) (J := J) (t0 := t0) (Sc := Sc) (op := 1003) (q9evS ae1) (q9evZ w0) (q9evS ae2) (hX _ (List.mem_of_getElem? (i := 3) rfl)) (by decide)
  rw [q9FF_1003] at X3
  have H3 := Option.some.inj X3
  try simp only [kz, k4, k59, k60] at H3
  have V2 := q9pV (T := T) (N := N) (P := P) (J := J) (t0 := t0) (Sc := Sc) (op := 1262) (n := 0) (q9evS ae2) (q9evZ w0) (hV _ (List.mem_of_getElem? (i := 2) rfl)) (by decide)
  rw [q9FF_1262] at V2
  have K2 := Option.some.inj V2
  try simp only [kz, k4, k59, k60] at K2
  have X4 := q9th_pX (T := T) (N := N) (P := P) (J := J) (t0 := t0) (Sc := Sc) (op := 1263) (q9evS ae2) (q9evZ w0) (q9evS ae3) (hX _ (List.mem_of_getElem? (i := 4) rfl)) (by decide)
  rw [q9FF_1263] at X4
  have H4 := Option.some.inj X4
  try simp only [kz, k4, k59, k60] at H4
  have L5 : x4.toInt ≤ (Int32.ofInt 59).toInt + 0 := q9pC (q9evS ae4) (q9evC w0 59) (hL _ (List.mem_of_getElem? (i := 5) rfl))
  obtain ⟨c, hv, hc, h8, h9, -⟩ := K0
  have hd : x5.toInt + 1 = c.2.2.length := q9th_at_of hv hc H0
  have hz : x4.toInt = c.2.1 := q9th_at_of hv hc H1
  have hb : q9spI T N c.1 = x1.toInt := by rw [hc]; exact H2
  obtain ⟨q, st, hst⟩ : ∃ q st, c.2.2 = q :: st := by
    cases hh : c.2.2 with
    | nil => exfalso; rw [hh, List.length_nil] at hd; omega
    | cons q st => exact ⟨q, st, rfl⟩
  have hl2 : c.2.2.length = st.length + 1 := by rw [hst, List.length_cons]
  have hk : q9kbI T N (q9spI T N c.1) = 2 := by rw [hb]; exact K1
  have hl : q9lkI T N c = 2 := by rw [q9lk_of h8 (by omega), hk]
  have he : q9weI T N x1.toInt = x2.toInt := H3
  have hr : q9rcI T N P J c = (0, x3.toInt) := by unfold q9rcI q9rsI; rw [hl, hb, he]; exact Prod.ext K2 H4
  have hok : q9okL T N P J c := ⟨by omega, by omega, by omega, fun h => by omega, by rw [hr]⟩
  have hp : q9prI T N P J c x3.toInt := ⟨hv, .inl ⟨hok, by omega, by rw [hr]⟩⟩
  have hen : q9enE T N P J x4.toInt (x4.toInt + 1) := .inl ⟨c, hv, hok, hz.symm, by omega, rfl⟩
  have ham : (0 : Int) = q9amI T N P J (q9lkI T N c) (q9weI T N (q9spI T N c.1)) := by rw [hl]; rfl
  have rg0 : (1 : Int) ≤ 1 ∧ (1 : Int) ≤ 1 := by omega
  obtain ⟨x6, nt6⟩ : ∃ x : Int32, x.toInt = 1 := ⟨Int32.ofInt (1), q9oI_toInt (by omega)⟩
  have rg1 : (2 : Int) ≤ 2 ∧ (2 : Int) ≤ 2 := by omega
  obtain ⟨x7, nt7⟩ : ∃ x : Int32, x.toInt = 2 := ⟨Int32.ofInt (2), q9oI_toInt (by omega)⟩
  have rg2 : (1 : Int) ≤ (x4.toInt + 1) ∧ ((x4.toInt + 1) : Int) ≤ 60 := by omega
  obtain ⟨x8, nt8⟩ : ∃ x : Int32, x.toInt = (x4.toInt + 1) := ⟨Int32.ofInt ((x4.toInt + 1)), q9oI_toInt (by omega)⟩
  have rg3 : (1 : Int) ≤ (x4.toInt + 1) ∧ ((x4.toInt + 1) : Int) ≤ 60 := by omega
  obtain ⟨x9, nt9⟩ : ∃ x : Int32, x.toInt = (x4.toInt + 1) := ⟨Int32.ofInt ((x4.toInt + 1)), q9oI_toInt (by omega)⟩
  have rg4 : (0 : Int) ≤ 0 ∧ (0 : Int) ≤ 0 := by omega
  obtain ⟨x10, nt10⟩ : ∃ x : Int32, x.toInt = 0 := ⟨Int32.ofInt (0), q9oI_toInt (by omega)⟩
  have u_ : q9upN w 7 [.int x6, .int x7, .int x8, .int x9, .int x10] 0 = .int 0 := q9upN_of (by decide) w0
  have u0 : q9upN w 7 [.int x6, .int x7, .int x8, .int x9, .int x10] 1 = .int x0 := q9upN_of (by decide) ae0
  have u1 : q9upN w 7 [.int x6, .int x7, .int x8, .int x9, .int x10] 2 = .int x1 := q9upN_of (by decide) ae1
  have u2 : q9upN w 7 [.int x6, .int x7, .int x8, .int x9, .int x10] 3 = .int x2 := q9upN_of (by decide) ae2
  have u3 : q9upN w 7 [.int x6, .int x7, .int x8, .int x9, .int x10] 4 = .int x3 := q9upN_of (by decide) ae3
  have u4 : q9upN w 7 [.int x6, .int x7, .int x8, .int x9, .int x10] 5 = .int x4 := q9upN_of (by decide) ae4
  have u5 : q9upN w 7 [.int x6, .int x7, .int x8, .int x9, .int x10] 6 = .int x5 := q9upN_of (by decide) ae5
  have u6 : q9upN w 7 [.int x6, .int x7, .int x8, .int x9, .int x10] 7 = .int x6 := q9upN_at (by decide)
  have u7 : q9upN w 7 [.int x6, .int x7, .int x8, .int x9, .int x10] 8 = .int x7 := q9upN_at (by decide)
  have u8 : q9upN w 7 [.int x6, .int x7, .int x8, .int x9, .int x10] 9 = .int x8 := q9upN_at (by decide)
  have u9 : q9upN w 7 [.int x6, .int x7, .int x8, .int x9, .int x10] 10 = .int x9 := q9upN_at (by decide)
  have u10 : q9upN w 7 [.int x6, .int x7, .int x8, .int x9, .int x10] 11 = .int x10 := q9upN_at (by decide)
  refine ⟨[.int x6, .int x7, .int x8, .int x9, .int x10], fun i9 p9 hq9 => ?_, List.forall_mem_cons.mpr ⟨?_, List.forall_mem_cons.mpr ⟨?_, fun _ h => absurd h List.not_mem_nil⟩⟩, List.forall_mem_cons.mpr ⟨?_, List.forall_mem_cons.mpr ⟨?_, List.forall_mem_cons.mpr ⟨?_, List.forall_mem_cons.mpr ⟨?_, List.forall_mem_cons.mpr ⟨?_, fun _ h => absurd h List.not_mem_nil⟩⟩⟩⟩⟩⟩
  · match i9, hq9 with
    | 0, hq9 =>
      have hp9 : ((1030, (4, 0), (0, 0), (0, 1, 1)) : Nat × q9AV × q9AV × q9ET) = p9 := Option.some.inj hq9
      subst hp9
      exact ⟨⟨x6, rfl, by rw [nt6]; exact rg0.1, by rw [nt6]; exact rg0.2⟩, (q9th_tX (T := T) (N := N) (P := P) (J := J) (t0 := t0) (Sc := Sc) (q9evS u3) (q9evZ u_) (q9evS u6) (by rw [q9FF_1030, nt6]; exact (by rw [← q9FF_1030 (t0 := t0) (Sc := Sc) (b := (0 : Int32).toInt)]; exact q9F_pvs hp)) (by decide)).trans (congrArg some (q9evS u6))⟩
    | 1, hq9 =>
      have hp9 : ((1050, (5, 0), (0, 0), (0, 2, 2)) : Nat × q9AV × q9AV × q9ET) = p9 := Option.some.inj hq9
      subst hp9
      exact ⟨⟨x7, rfl, by rw [nt7]; exact rg1.1, by rw [nt7]; exact rg1.2⟩, (q9th_tX (T := T) (N := N) (P := P) (J := J) (t0 := t0) (Sc := Sc) (q9evS u4) (q9evZ u_) (q9evS u7) (by rw [q9FF_1050, nt7]; exact (by rw [← q9FF_1050 (t0 := t0) (Sc := Sc) (b := (0 : Int32).toInt)]; exact q9F_kd hv hok hz.symm hl.symm)) (by decide)).trans (congrArg some (q9evS u7))⟩
    | 2, hq9 =>
      have hp9 : ((1032, (4, 0), (0, 0), (0, 1, 60)) : Nat × q9AV × q9AV × q9ET) = p9 := Option.some.inj hq9
      subst hp9
      exact ⟨⟨x8, rfl, by rw [nt8]; exact rg2.1, by rw [nt8]; exact rg2.2⟩, (q9th_tX (T := T) (N := N) (P := P) (J := J) (t0 := t0) (Sc := Sc) (q9evS u3) (q9evZ u_) (q9evS u8) (by rw [q9FF_1032, nt8]; exact (by rw [← q9FF_1032 (t0 := t0) (Sc := Sc) (b := (0 : Int32).toInt)]; exact q9F_psz hp (by rw [if_neg (by omega)]; omega))) (by decide)).trans (congrArg some (q9evS u8))⟩
    | 3, hq9 =>
      have hp9 : ((1052, (5, 0), (0, 0), (0, 1, 60)) : Nat × q9AV × q9AV × q9ET) = p9 := Option.some.inj hq9
      subst hp9
      exact ⟨⟨x9, rfl, by rw [nt9]; exact rg3.1, by rw [nt9]; exact rg3.2⟩, (q9th_tX (T := T) (N := N) (P := P) (J := J) (t0 := t0) (Sc := Sc) (q9evS u4) (q9evZ u_) (q9evS u9) (by rw [q9FF_1052, nt9]; exact (by rw [← q9FF_1052 (t0 := t0) (Sc := Sc) (b := (0 : Int32).toInt)]; exact q9F_en hN.1 hen)) (by decide)).trans (congrArg some (q9evS u9))⟩
    | 4, hq9 =>
      have hp9 : ((1051, (5, 0), (0, 0), (0, 0, 0)) : Nat × q9AV × q9AV × q9ET) = p9 := Option.some.inj hq9
      subst hp9
      exact ⟨⟨x10, rfl, by rw [nt10]; exact rg4.1, by rw [nt10]; exact rg4.2⟩, (q9th_tX (T := T) (N := N) (P := P) (J := J) (t0 := t0) (Sc := Sc) (q9evS u4) (q9evZ u_) (q9evS u10) (by rw [q9FF_1051, nt10]; exact (by rw [← q9FF_1051 (t0 := t0) (Sc := Sc) (b := (0 : Int32).toInt)]; exact q9F_mn hv hok hz.symm ham)) (by decide)).trans (congrArg some (q9evS u10))⟩
    | k9 + 5, hq9 => exact nomatch (show (none : Option (Nat × q9AV × q9AV × q9ET)) = some p9 from hq9)
  · exact q9th_tX (T := T) (N := N) (P := P) (J := J) (t0 := t0) (Sc := Sc) (q9evS u3) (q9evZ u_) (q9evS u5) (by rw [q9FF_1031]; exact (by rw [← q9FF_1031 (t0 := t0) (Sc := Sc) (b := (0 : Int32).toInt)]; exact q9F_pdp hp (by rw [if_neg (by omega)]; omega))) (by decide)
  · exact q9th_tX (T := T) (N := N) (P := P) (J := J) (t0 := t0) (Sc := Sc) (q9evS u3) (q9evZ u_) (q9evS u0) (by rw [q9FF_1034]; exact (by rw [← q9FF_1034 (t0 := t0) (Sc := Sc) (b := (0 : Int32).toInt)]; exact q9F_plk hp hst (by rw [if_neg (by omega)]; exact hc.symm))) (by decide)
  · exact q9th_tC (d := (-1)) (q9evS u0) (q9evS u3) (by have := q9pr_gt hp; omega)
  · exact q9th_tC (d := 1) (q9evS u8) (q9evS u4) (by omega)
  · exact q9th_tC (d := (-1)) (q9evS u4) (q9evS u8) (by omega)
  · exact q9th_tC (d := 1) (q9evS u9) (q9evS u4) (by omega)
  · exact q9th_tC (d := (-1)) (q9evS u4) (q9evS u9) (by omega)
theorem q9ru_cfs2 (hT : ∀ i, 0 ≤ T i ∧ T i ≤ 255) (hN : 0 ≤ N ∧ N ≤ 400) (hSc : 0 ≤ Sc 1 ∧ Sc 1 ≤ 400 → N = Sc 1) : q9ruOK (fO T N P J t0 Sc) q9R_cfs2 := by
  intro w w0 hA hX hL hV hR
  obtain ⟨x0, ae0, -, -⟩ := hA 0 0 rfl
  obtain ⟨x1, ae1, -, -⟩ := hA 1 0 rfl
  obtain ⟨x2, ae2, -, -⟩ := hA 2 0 rfl
  obtain ⟨x3, ae3, -, -⟩ := hA 3 0 rfl
  obtain ⟨x4, ae4, -, -⟩ := hA 4 0 rfl
  obtain ⟨x5, ae5, -, -⟩ := hA 5 0 rfl
  obtain ⟨x6, ae6, -, -⟩ := hA 6 0 rfl
  have kz : (0 : Int32).toInt = 0 := rfl
  have k4 : (Int32.ofInt 4).toInt = 4 := q9oI_toInt (by decide)
  have k59 : (Int32.ofInt 59).toInt = 59 := q9oI_toInt (by decide)
  have k60 : (Int32.ofInt 60).toInt = 60 := q9oI_toInt (by decide)
  have V0 := q9pV (T := T) (N := N) (P := P) (J := J) (t0 := t0) (Sc := Sc) (op := 1027) (n := 1) (q9evS ae0) (q9evZ w0) (hV _ (List.mem_of_getElem? (i := 0) rfl)) (by decide)
  rw [q9FF_1027] at V0
  have K0 := q9chV_of V0
  try simp only [kz, k4, k59, k60] at K0
  have X0 := q9th_pX (T := T) (N := N) (P := P) (J := J) (t0 := t0) (Sc := Sc) (op := 1021) (q9evS ae0) (q9evZ w0) (q9evS ae6) (hX _ (List.mem_of_getElem? (i := 0) rfl)) (by decide)
  rw [q9FF_1021] at X0
  have H0 := q9chV_of X0
  try simp only [kz, k4, k59, k60] at H0
  have X1 := q9th_pX (T := T) (N := N) (P := P) (J := J) (t0 := t0) (Sc := Sc) (op := 1022) (q9evS ae0) (q9evZ w0) (q9evS ae5) (hX _ (List.mem_of_getElem? (i := 1) rfl)) (by decide)
  rw [q9FF_1022] at X1
  have H1 := q9chV_of X1
  try simp only [kz, k4, k59, k60] at H1
  have L0 : (0 : Int32).toInt ≤ x0.toInt + 0 := q9pC (q9evZ w0) (q9evS ae0) (hL _ (List.mem_of_getElem? (i := 0) rfl))
  have L1 : (0 : Int32).toInt ≤ x5.toInt + 0 := q9pC (q9evZ w0) (q9evS ae5) (hL _ (List.mem_of_getElem? (i := 1) rfl))
  have L2 : x5.toInt ≤ (Int32.ofInt 60).toInt + 0 := q9pC (q9evS ae5) (q9evC w0 60) (hL _ (List.mem_of_getElem? (i := 2) rfl))
  have L3 : (0 : Int32).toInt ≤ x6.toInt + 0 := q9pC (q9evZ w0) (q9evS ae6) (hL _ (List.mem_of_getElem? (i := 3) rfl))
  have L4 : x6.toInt ≤ (Int32.ofInt 4).toInt + 0 := q9pC (q9evS ae6) (q9evC w0 4) (hL _ (List.mem_of_getElem? (i := 4) rfl))
  have X2 := q9th_pX (T := T) (N := N) (P := P) (J := J) (t0 := t0) (Sc := Sc) (op := 1002) (q9evS ae0) (q9evZ w0) (q9evS ae1) (hX _ (List.mem_of_getElem? (i := 2) rfl)) (by decide)
  rw [q9FF_1002] at X2
  have H2 := Option.some.inj X2
  try simp only [kz, k4, k59, k60] at H2
  have V1 := q9pV (T := T) (N := N) (P := P) (J := J) (t0 := t0) (Sc := Sc) (op := 1013) (n := 2) (q9evS ae1) (q9evZ w0) (hV _ (List.mem_of_getElem? (i := 1) rfl)) (by decide)
  rw [q9FF_1013] at V1
  have K1 := Option.some.inj V1
  try simp only [kz, k4, k59, k60] at K1
  have X3 := q9th_pX (T := T) (N := N) (P := P) (J := J) (t0 := t0) (Sc := Sc) (op := 1003) (q9evS ae1) (q9evZ w0) (q9evS ae2) (hX _ (List.mem_of_getElem? (i := 3) rfl)) (by decide)
  rw [q9FF_1003] at X3
  have H3 := Option.some.inj X3
  try simp only [kz, k4, k59, k60] at H3
  have V2 := q9pV (T := T) (N := N) (P := P) (J := J) (t0 := t0) (Sc := Sc) (op := 1262) (n := 0) (q9evS ae2) (q9evZ w0) (hV _ (List.mem_of_getElem? (i := 2) rfl)) (by decide)
  rw [q9FF_1262] at V2
  have K2 := Option.some.inj V2
  try simp only [kz, k4, k59, k60] at K2
  have X4 := q9th_pX (T := T) (N := N) (P := P) (J := J) (t0 := t0) (Sc := Sc) (op := 1263) (q9evS ae2) (q9evZ w0) (q9evS ae3) (hX _ (List.mem_of_getElem? (i := 4) rfl)) (by decide)
  rw [q9FF_1263] at X4
  have H4 := Option.some.inj X4
  try simp only [kz, k4, k59, k60] at H4
  have X5 := q9th_pX (T := T) (N := N) (P := P) (J := J) (t0 := t0) (Sc := Sc) (op := 1002) (q9evS ae3) (q9evZ w0) (q9evS ae4) (hX _ (List.mem_of_getElem? (i := 5) rfl)) (by decide)
  rw [q9FF_1002] at X5
  have H5 := Option.some.inj X5
  try simp only [kz, k4, k59, k60] at H5
  have V3 := q9pV (T := T) (N := N) (P := P) (J := J) (t0 := t0) (Sc := Sc) (op := 1009) (n := 0) (q9evS ae4) (q9evC w0 59) (hV _ (List.mem_of_getElem? (i := 3) rfl)) (by decide)
  rw [q9FF_1009] at V3
  have K3 := Option.some.inj V3
  try simp only [kz, k4, k59, k60] at K3
  have L5 : x5.toInt ≤ (Int32.ofInt 59).toInt + 0 := q9pC (q9evS ae5) (q9evC w0 59) (hL _ (List.mem_of_getElem? (i := 5) rfl))
  obtain ⟨c, hv, hc, h8, h9, -⟩ := K0
  have hd : x6.toInt + 1 = c.2.2.length := q9th_at_of hv hc H0
  have hz : x5.toInt = c.2.1 := q9th_at_of hv hc H1
  have hb : q9spI T N c.1 = x1.toInt := by rw [hc]; exact H2
  obtain ⟨q, st, hst⟩ : ∃ q st, c.2.2 = q :: st := by
    cases hh : c.2.2 with
    | nil => exfalso; rw [hh, List.length_nil] at hd; omega
    | cons q st => exact ⟨q, st, rfl⟩
  have hl2 : c.2.2.length = st.length + 1 := by rw [hst, List.length_cons]
  have hk : q9kbI T N (q9spI T N c.1) = 2 := by rw [hb]; exact K1
  have hl : q9lkI T N c = 2 := by rw [q9lk_of h8 (by omega), hk]
  have he : q9weI T N x1.toInt = x2.toInt := H3
  have hr : q9rcI T N P J c = (0, x3.toInt) := by unfold q9rcI q9rsI; rw [hl, hb, he]; exact Prod.ext K2 H4
  have hs4 : q9spI T N x3.toInt = x4.toInt := H5
  have hn : q9th_nxI T N P J c = none := q9nx_no h8 (.inr ⟨by omega, by rw [hr]; show q9byI T N (q9spI T N x3.toInt) ≠ 59; rw [hs4]; exact q9is_0 K3 (by omega)⟩)
  have hre : q9th_reI T N P J c = (1, x4.toInt) := by unfold q9th_reI; rw [if_neg h8, if_neg (by omega), if_neg (by omega), if_neg (by omega), if_pos (by rw [hr]), hr]; show (1, q9spI T N x3.toInt) = _; rw [hs4]
  have rg0 : (1 : Int) ≤ 1 ∧ (1 : Int) ≤ 1 := by omega
  obtain ⟨x7, nt7⟩ : ∃ x : Int32, x.toInt = 1 := ⟨Int32.ofInt (1), q9oI_toInt (by omega)⟩
  have u_ : q9upN w 8 [.int x7] 0 = .int 0 := q9upN_of (by decide) w0
  have u0 : q9upN w 8 [.int x7] 1 = .int x0 := q9upN_of (by decide) ae0
  have u1 : q9upN w 8 [.int x7] 2 = .int x1 := q9upN_of (by decide) ae1
  have u2 : q9upN w 8 [.int x7] 3 = .int x2 := q9upN_of (by decide) ae2
  have u3 : q9upN w 8 [.int x7] 4 = .int x3 := q9upN_of (by decide) ae3
  have u4 : q9upN w 8 [.int x7] 5 = .int x4 := q9upN_of (by decide) ae4
  have u5 : q9upN w 8 [.int x7] 6 = .int x5 := q9upN_of (by decide) ae5
  have u6 : q9upN w 8 [.int x7] 7 = .int x6 := q9upN_of (by decide) ae6
  have u7 : q9upN w 8 [.int x7] 8 = .int x7 := q9upN_at (by decide)
  refine ⟨[.int x7], fun i9 p9 hq9 => ?_, List.forall_mem_cons.mpr ⟨?_, fun _ h => absurd h List.not_mem_nil⟩, fun _ h => absurd h List.not_mem_nil⟩
  · match i9, hq9 with
    | 0, hq9 =>
      have hp9 : ((1040, (0, 0), (0, 0), (0, 1, 1)) : Nat × q9AV × q9AV × q9ET) = p9 := Option.some.inj hq9
      subst hp9
      exact ⟨⟨x7, rfl, by rw [nt7]; exact rg0.1, by rw [nt7]; exact rg0.2⟩, (q9th_tX (T := T) (N := N) (P := P) (J := J) (t0 := t0) (Sc := Sc) (q9evZ u_) (q9evZ u_) (q9evS u7) (by rw [q9FF_1040, nt7]; exact (by rw [← q9FF_1040 (t0 := t0) (Sc := Sc) (a := (0 : Int32).toInt) (b := (0 : Int32).toInt)]; exact q9F_rsk hv hn (by rw [hre]))) (by decide)).trans (congrArg some (q9evS u7))⟩
    | k9 + 1, hq9 => exact nomatch (show (none : Option (Nat × q9AV × q9AV × q9ET)) = some p9 from hq9)
  · exact q9th_tX (T := T) (N := N) (P := P) (J := J) (t0 := t0) (Sc := Sc) (q9evZ u_) (q9evZ u_) (q9evS u4) (by rw [q9FF_1041]; exact (by rw [← q9FF_1041 (t0 := t0) (Sc := Sc) (a := (0 : Int32).toInt) (b := (0 : Int32).toInt)]; exact q9F_rsp hv hn (by rw [hre]; exact (by decide : (1 : Int) ≠ 0)) (by rw [hre]))) (by decide)
theorem q9ru_cl3 (hT : ∀ i, 0 ≤ T i ∧ T i ≤ 255) (hN : 0 ≤ N ∧ N ≤ 400) (hSc : 0 ≤ Sc 1 ∧ Sc 1 ≤ 400 → N = Sc 1) : q9ruOK (fO T N P J t0 Sc) q9R_cl3 := by
  intro w w0 hA hX hL hV hR
  obtain ⟨x0, ae0, -, -⟩ := hA 0 0 rfl
  obtain ⟨x1, ae1, -, -⟩ := hA 1 0 rfl
  obtain ⟨x2, ae2, -, -⟩ := hA 2 0 rfl
  obtain ⟨x3, ae3, -, -⟩ := hA 3 0 rfl
  obtain ⟨x4, ae4, -, -⟩ := hA 4 0 rfl
  obtain ⟨x5, ae5, -, -⟩ := hA 5 0 rfl
  obtain ⟨x6, ae6, -, -⟩ := hA 6 0 rfl
  obtain ⟨x7, ae7, -, -⟩ := hA 7 0 rfl
  obtain ⟨x8, ae8, -, -⟩ := hA 8 0 rfl
  obtain ⟨x9, ae9, -, -⟩ := hA 9 1 rfl
  obtain ⟨x10, ae10, -, -⟩ := hA 10 1 rfl
  have kz : (0 : Int32).toInt = 0 := rfl
  have k4 : (Int32.ofInt 4).toInt = 4 := q9oI_toInt (by decide)
  have k59 : (Int32.ofInt 59).toInt = 59 := q9oI_toInt (by decide)
  have k60 : (Int32.ofInt 60).toInt = 60 := q9oI_toInt (by decide)
  have V0 := q9pV (T := T) (N := N) (P := P) (J := J) (t0 := t0) (Sc := Sc) (op := 1027) (n := 1) (q9evS ae0) (q9evZ w0) (hV _ (List.mem_of_getElem? (i := 0) rfl)) (by decide)
  rw [q9FF_1027] at V0
  have K0 := q9chV_of V0
  try simp only [kz, k4, k59, k60] at K0
  have X0 := q9th_pX (T := T) (N := N) (P := P) (J := J) (t0 := t0) (Sc := Sc) (op := 1021) (q9evS ae0) (q9evZ w0) (q9evS ae8) (hX _ (List.mem_of_getElem? (i := 0) rfl)) (by decide)
  rw [q9FF_1021] at X0
  have H0 := q9chV_of X0
  try simp only [kz, k4, k59, k60] at H0
  have X1 := q9th_pX (T := T) (N := N) (P := P) (J := J) (t0 := t0) (Sc := Sc) (op := 1022) (q9evS ae0) (q9evZ w0) (q9evS ae6) (hX _ (List.mem_of_getElem? (i := 1) rfl)) (by decide)
  rw [q9FF_1022] at X1
  have H1 := q9chV_of X1
  try simp only [kz, k4, k59, k60] at H1
  have L0 : (0 : Int32).toInt ≤ x0.toInt + 0 := q9pC (q9evZ w0) (q9evS ae0) (hL _ (List.mem_of_getElem? (i := 0) rfl))
  have L1 : (0 : Int32).toInt ≤ x6.toInt + 0 := q9pC (q9evZ w0) (q9evS ae6) (hL _ (List.mem_of_getElem? (i := 1) rfl))
  have L2 : x6.toInt ≤ (Int32.ofInt 60).toInt + 0 := q9pC (q9evS ae6) (q9evC w0 60) (hL _ (List.mem_of_getElem? (i := 2) rfl))
  have L3 : (0 : Int32).toInt ≤ x8.toInt + 0 := q9pC (q9evZ w0) (q9evS ae8) (hL _ (List.mem_of_getElem? (i := 3) rfl))
  have L4 : x8.toInt ≤ (Int32.ofInt 4).toInt + 0 := q9pC (q9evS ae8) (q9evC w0 4) (hL _ (List.mem_of_getElem? (i := 4) rfl))
  have X2 := q9th_pX (T := T) (N := N) (P := P) (J := J) (t0 := t0) (Sc := Sc) (op := 1002) (q9evS ae0) (q9evZ w0) (q9evS ae1) (hX _ (List.mem_of_getElem? (i := 2) rfl)) (by decide)
  rw [q9FF_1002] at X2
  have H2 := Option.some.inj X2
  try simp only [kz, k4, k59, k60] at H2
  have V1 := q9pV (T := T) (N := N) (P := P) (J := J) (t0 := t0) (Sc := Sc) (op := 1013) (n := 3) (q9evS ae1) (q9evZ w0) (hV _ (List.mem_of_getElem? (i := 1) rfl)) (by decide)
  rw [q9FF_1013] at V1
  have K1 := Option.some.inj V1
  try simp only [kz, k4, k59, k60] at K1
  have X3 := q9th_pX (T := T) (N := N) (P := P) (J := J) (t0 := t0) (Sc := Sc) (op := 1003) (q9evS ae1) (q9evZ w0) (q9evS ae2) (hX _ (List.mem_of_getElem? (i := 3) rfl)) (by decide)
  rw [q9FF_1003] at X3
  have H3 := Option.some.inj X3
  try simp only [kz, k4, k59, k60] at H3
  have V2 := q9pV (T := T) (N := N) (P := P) (J := J) (t0 := t0) (Sc := Sc) (op := 1212) (n := 0) (q9evS ae2) (q9evZ w0) (hV _ (List.mem_of_getElem? (i := 2) rfl)) (by decide)
  rw [q9FF_1212] at V2
  have K2 := Option.some.inj V2
  try simp only [kz, k4, k59, k60] at K2
  have X4 := q9th_pX (T := T) (N := N) (P := P) (J := J) (t0 := t0) (Sc := Sc) (op := 1213) (q9evS ae2) (q9evZ w0) (q9evS ae3) (hX _ (List.mem_of_getElem? (i := 4) rfl)) (by decide)
  rw [q9FF_1213] at X4
  have H4 := Option.some.inj X4
  try simp only [kz, k4, k59, k60] at H4
  have X5 := q9th_pX (T := T) (N := N) (P := P) (J := J) (t0 := t0) (Sc := Sc) (op := 1002) (q9evS ae3) (q9evZ w0) (q9evS ae4) (hX _ (List.mem_of_getElem? (i := 5) rfl)) (by decide)
  rw [q9FF_1002] at X5
  have H5 := Option.some.inj X5
  try simp only [kz, k4, k59, k60] at H5
  have V3 := q9pV (T := T) (N := N) (P := P) (J := J) (t0 := t0) (Sc := Sc) (op := 1009) (n := 1) (q9evS ae4) (q9evC w0 59) (hV _ (List.mem_of_getElem? (i := 3) rfl)) (by decide)
  rw [q9FF_1009] at V3
  have K3 := Option.some.inj V3
  try simp only [kz, k4, k59, k60] at K3
  have L5 : x5.toInt ≤ x4.toInt + 1 := q9pC (q9evS ae5) (q9evS ae4) (hL _ (List.mem_of_getElem? (i := 5) rfl))
  have L6 : x4.toInt ≤ x5.toInt + (-1) := q9pC (q9evS ae4) (q9evS ae5) (hL _ (List.mem_of_getElem? (i := 6) rfl))
  have L7 : x6.toInt ≤ (Int32.ofInt 59).toInt + 0 := q9pC (q9evS ae6) (q9evC w0 59) (hL _ (List.mem_of_getElem? (i := 7) rfl))
  have L8 : x7.toInt ≤ x6.toInt + 1 := q9pC (q9evS ae7) (q9evS ae6) (hL _ (List.mem_of_getElem? (i := 8) rfl))
  have L9 : x6.toInt ≤ x7.toInt + (-1) := q9pC (q9evS ae6) (q9evS ae7) (hL _ (List.mem_of_getElem? (i := 9) rfl))
  have X6 := q9pL (T := T) (N := N) (P := P) (J := J) (t0 := t0) (Sc := Sc) (op := 1024) (q9evS ae0) (q9evS ae8) (q9evS ae9) (hX _ (List.mem_of_getElem? (i := 6) rfl)) (by decide)
  rw [q9FL_1024] at X6
  have H6 := q9chV_of X6
  try simp only [kz, k4, k59, k60] at H6
  have X7 := q9pL (T := T) (N := N) (P := P) (J := J) (t0 := t0) (Sc := Sc) (op := 1028) (q9evS ae0) (q9evZ w0) (q9evS ae10) (hX _ (List.mem_of_getElem? (i := 7) rfl)) (by decide)
  rw [q9FL_1028] at X7
  have H7 := q9chV_of X7
  try simp only [kz, k4, k59, k60] at H7
  obtain ⟨c, hv, hc, h8, h9, -⟩ := K0
  have hd : x8.toInt + 1 = c.2.2.length := q9th_at_of hv hc H0
  have hz : x6.toInt = c.2.1 := q9th_at_of hv hc H1
  have hb : q9spI T N c.1 = x1.toInt := by rw [hc]; exact H2
  obtain ⟨q, st, hst⟩ : ∃ q st, c.2.2 = q :: st := by
    cases hh : c.2.2 with
    | nil => exfalso; rw [hh, List.length_nil] at hd; omega
    | cons q st => exact ⟨q, st, rfl⟩
  have hl2 : c.2.2.length = st.length + 1 := by rw [hst, List.length_cons]
  have hk : q9kbI T N (q9spI T N c.1) = 3 := by rw [hb]; exact K1
  have hl : q9lkI T N c = 3 := by rw [q9lk_of h8 (by omega), hk]
  have he : q9weI T N x1.toInt = x2.toInt := H3
  have hr : q9rcI T N P J c = (0, x3.toInt) := by unfold q9rcI q9rsI; rw [hl, hb, he]; exact Prod.ext K2 H4
  have hok : q9okL T N P J c := ⟨by omega, by omega, by omega, fun h => by omega, by rw [hr]⟩
  have hs4 : q9spI T N x3.toInt = x4.toInt := H5
  have hn := q9nx_line hst (by omega) (by omega) (by omega) hr rfl (by rw [hs4]; exact q9is_1 K3 (by omega))
  generalize hg : ((q9spI T N ((0, x3.toInt) : q9TK2).2 + 1, c.2.1 + 1, (q.1, q.2.1, (if q9lkI T N c ≤ 1 then q.2.2.1 + Int64.ofInt (q9amI T N P J (q9lkI T N c) (q9weI T N (q9spI T N c.1))) else q.2.2.1), q.2.2.2 + 1) :: st) : q9CF9) = c' at hn
  have hv' := q9vis_next hv hn
  have hc' : c'.1 = x5.toInt := by rw [← hg]; show q9spI T N x3.toInt + 1 = _; omega
  have hst' : c'.2.2 = (q.1, q.2.1, (if q9lkI T N c ≤ 1 then q.2.2.1 + Int64.ofInt (q9amI T N P J (q9lkI T N c) (q9weI T N (q9spI T N c.1))) else q.2.2.1), q.2.2.2 + 1) :: st := by rw [← hg]
  have hd' : x8.toInt + 1 = c'.2.2.length := by rw [hst', List.length_cons]; omega
  have hz' : x7.toInt = c'.2.1 := by rw [← hg]; show _ = c.2.1 + 1; omega
  have hf : ∃ e, q9enI c x8.toInt = some e ∧ x9 = e.2.2.1 := q9th_at_of hv hc H6
  obtain ⟨q0, f1, f2⟩ := hf
  rw [q9en_top hst hd] at f1
  cases f1
  rw [if_neg (by omega), ← f2] at hst'
  have hg2 : ∃ q st, c.2.2 = q :: st ∧ x10 = q.2.2.2 + 1 := q9th_at_of hv hc H7
  obtain ⟨q1, st1, g1, g2⟩ := hg2
  rw [hst] at g1
  cases g1
  rw [← g2] at hst'
  have rg0 : (1 : Int) ≤ 1 ∧ (1 : Int) ≤ 1 := by omega
  obtain ⟨x11, nt11⟩ : ∃ x : Int32, x.toInt = 1 := ⟨Int32.ofInt (1), q9oI_toInt (by omega)⟩
  have rg1 : (3 : Int) ≤ 3 ∧ (3 : Int) ≤ 3 := by omega
  obtain ⟨x12, nt12⟩ : ∃ x : Int32, x.toInt = 3 := ⟨Int32.ofInt (3), q9oI_toInt (by omega)⟩
  have u_ : q9upN w 12 [.int x11, .int x12] 0 = .int 0 := q9upN_of (by decide) w0
  have u0 : q9upN w 12 [.int x11, .int x12] 1 = .int x0 := q9upN_of (by decide) ae0
  have u1 : q9upN w 12 [.int x11, .int x12] 2 = .int x1 := q9upN_of (by decide) ae1
  have u2 : q9upN w 12 [.int x11, .int x12] 3 = .int x2 := q9upN_of (by decide) ae2
  have u3 : q9upN w 12 [.int x11, .int x12] 4 = .int x3 := q9upN_of (by decide) ae3
  have u4 : q9upN w 12 [.int x11, .int x12] 5 = .int x4 := q9upN_of (by decide) ae4
  have u5 : q9upN w 12 [.int x11, .int x12] 6 = .int x5 := q9upN_of (by decide) ae5
  have u6 : q9upN w 12 [.int x11, .int x12] 7 = .int x6 := q9upN_of (by decide) ae6
  have u7 : q9upN w 12 [.int x11, .int x12] 8 = .int x7 := q9upN_of (by decide) ae7
  have u8 : q9upN w 12 [.int x11, .int x12] 9 = .int x8 := q9upN_of (by decide) ae8
  have u9 : q9upN w 12 [.int x11, .int x12] 10 = .long x9 := q9upN_of (by decide) ae9
  have u10 : q9upN w 12 [.int x11, .int x12] 11 = .long x10 := q9upN_of (by decide) ae10
  have u11 : q9upN w 12 [.int x11, .int x12] 12 = .int x11 := q9upN_at (by decide)
  have u12 : q9upN w 12 [.int x11, .int x12] 13 = .int x12 := q9upN_at (by decide)
  refine ⟨[.int x11, .int x12], fun i9 p9 hq9 => ?_, List.forall_mem_cons.mpr ⟨?_, List.forall_mem_cons.mpr ⟨?_, List.forall_mem_cons.mpr ⟨?_, List.forall_mem_cons.mpr ⟨?_, List.forall_mem_cons.mpr ⟨?_, fun _ h => absurd h List.not_mem_nil⟩⟩⟩⟩⟩, List.forall_mem_cons.mpr ⟨?_, fun _ h => absurd h List.not_mem_nil⟩⟩
  · match i9, hq9 with
    | 0, hq9 =>
      have hp9 : ((1020, (6, 0), (0, 0), (0, 1, 1)) : Nat × q9AV × q9AV × q9ET) = p9 := Option.some.inj hq9
      subst hp9
      exact ⟨⟨x11, rfl, by rw [nt11]; exact rg0.1, by rw [nt11]; exact rg0.2⟩, (q9th_tX (T := T) (N := N) (P := P) (J := J) (t0 := t0) (Sc := Sc) (q9evS u5) (q9evZ u_) (q9evS u11) (by rw [q9FF_1020, nt11]; exact (by rw [← q9FF_1020 (t0 := t0) (Sc := Sc) (b := (0 : Int32).toInt)]; exact q9F_vis hv' hc')) (by decide)).trans (congrArg some (q9evS u11))⟩
    | 1, hq9 =>
      have hp9 : ((1050, (7, 0), (0, 0), (0, 3, 3)) : Nat × q9AV × q9AV × q9ET) = p9 := Option.some.inj hq9
      subst hp9
      exact ⟨⟨x12, rfl, by rw [nt12]; exact rg1.1, by rw [nt12]; exact rg1.2⟩, (q9th_tX (T := T) (N := N) (P := P) (J := J) (t0 := t0) (Sc := Sc) (q9evS u6) (q9evZ u_) (q9evS u12) (by rw [q9FF_1050, nt12]; exact (by rw [← q9FF_1050 (t0 := t0) (Sc := Sc) (b := (0 : Int32).toInt)]; exact q9F_kd hv hok hz.symm hl.symm)) (by decide)).trans (congrArg some (q9evS u12))⟩
    | k9 + 2, hq9 => exact nomatch (show (none : Option (Nat × q9AV × q9AV × q9ET)) = some p9 from hq9)
  · exact q9th_tX (T := T) (N := N) (P := P) (J := J) (t0 := t0) (Sc := Sc) (q9evS u5) (q9evZ u_) (q9evS u8) (by rw [q9FF_1021]; exact (by rw [← q9FF_1021 (t0 := t0) (Sc := Sc) (b := (0 : Int32).toInt)]; exact q9F_dp hv' hc' hd')) (by decide)
  · exact q9th_tX (T := T) (N := N) (P := P) (J := J) (t0 := t0) (Sc := Sc) (q9evS u5) (q9evZ u_) (q9evS u7) (by rw [q9FF_1022]; exact (by rw [← q9FF_1022 (t0 := t0) (Sc := Sc) (b := (0 : Int32).toInt)]; exact q9F_sz hv' hc' hz')) (by decide)
  · exact q9th_tX (T := T) (N := N) (P := P) (J := J) (t0 := t0) (Sc := Sc) (q9evS u5) (q9evZ u_) (q9evS u0) (by rw [q9FF_1026]; exact (by rw [← q9FF_1026 (t0 := t0) (Sc := Sc) (b := (0 : Int32).toInt)]; exact q9F_prv hv hn hc' hc.symm)) (by decide)
  · exact q9th_tL (T := T) (N := N) (P := P) (J := J) (t0 := t0) (Sc := Sc) (q9evS u5) (q9evS u8) (q9evS u9) (by rw [q9FL_1024]; exact (by rw [← q9FL_1024 (b := x8.toInt)]; exact q9G_frv hv' hc' (q9en_top hst' hd') rfl)) (by decide)
  · exact q9th_tL (T := T) (N := N) (P := P) (J := J) (t0 := t0) (Sc := Sc) (q9evS u5) (q9evS u8) (q9evS u10) (by rw [q9FL_1025]; exact (by rw [← q9FL_1025 (b := x8.toInt)]; exact q9G_dnv hv' hc' (q9en_top hst' hd') rfl)) (by decide)
  · exact q9th_tC (d := (-1)) (q9evS u0) (q9evS u5) (by have := q9nx_pos hn; omega)
theorem q9ru_ln3 (hT : ∀ i, 0 ≤ T i ∧ T i ≤ 255) (hN : 0 ≤ N ∧ N ≤ 400) (hSc : 0 ≤ Sc 1 ∧ Sc 1 ≤ 400 → N = Sc 1) : q9ruOK (fO T N P J t0 Sc) q9R_ln3 := by
  intro w w0 hA hX hL hV hR
  obtain ⟨x0, ae0, -, -⟩ := hA 0 0 rfl
  obtain ⟨x1, ae1, -, -⟩ := hA 1 0 rfl
  obtain ⟨x2, ae2, -, -⟩ := hA 2 0 rfl
  obtain ⟨x3, ae3, -, -⟩ := hA 3 0 rfl
  obtain ⟨x4, ae4, -, -⟩ := hA 4 0 rfl
  obtain ⟨x5, ae5, -, -⟩ := hA 5 0 rfl
  have kz : (0 : Int32).toInt = 0 := rfl
  have k4 : (Int32.ofInt 4).toInt = 4 := q9oI_toInt (by decide)
  have k59 : (Int32.ofInt 59).toInt = 59 := q9oI_toInt (by decide)
  have k60 : (Int32.ofInt 60).toInt = 60 := q9oI_toInt (by decide)
  have V0 := q9pV (T := T) (N := N) (P := P) (J := J) (t0 := t0) (Sc := Sc) (op := 1027) (n := 1) (q9evS ae0) (q9evZ w0) (hV _ (List.mem_of_getElem? (i := 0) rfl)) (by decide)
  rw [q9FF_1027] at V0
  have K0 := q9chV_of V0
  try simp only [kz, k4, k59, k60] at K0
  have X0 := q9th_pX (T := T) (N := N) (P := P) (J := J) (t0 := t0) (Sc := Sc) (op := 1021) (q9evS ae0) (q9evZ w0) (q9evS ae5) (hX _ (List.mem_of_getElem? (i := 0) rfl)) (by decide)
  rw [q9FF_1021] at X0
  have H0 := q9chV_of X0
  try simp only [kz, k4, k59, k60] at H0
  have X1 := q9th_pX (T := T) (N := N) (P := P) (J := J) (t0 := t0) (Sc := Sc) (op := 1022) (q9evS ae0) (q9evZ w0) (q9evS ae4) (hX _ (List.mem_of_getElem? (i := 1) rfl)) (by decide)
  rw [q9FF_1022] at X1
  have H1 := q9chV_of X1
  try simp only [kz, k4, k59, k60] at H1
  have L0 : (0 : Int32).toInt ≤ x0.toInt + 0 := q9pC (q9evZ w0) (q9evS ae0) (hL _ (List.mem_of_getElem? (i := 0) rfl))
  have L1 : (0 : Int32).toInt ≤ x4.toInt + 0 := q9pC (q9evZ w0) (q9evS ae4) (hL _ (List.mem_of_getElem? (i := 1) rfl))
  have L2 : x4.toInt ≤ (Int32.ofInt 60).toInt + 0 := q9pC (q9evS ae4) (q9evC w0 60) (hL _ (List.mem_of_getElem? (i := 2) rfl))
  have L3 : (0 : Int32).toInt ≤ x5.toInt + 0 := q9pC (q9evZ w0) (q9evS ae5) (hL _ (List.mem_of_getElem? (i := 3) rfl))
  have L4 : x5.toInt ≤ (Int32.ofInt 4).toInt + 0 := q9pC (q9evS ae5) (q9evC w0 4) (hL _ (List.mem_of_getElem? (i := 4) rfl))
  have X2 := q9th_pX (T := T) (N := N) (P := P) (J := J) (t0 := t0) (Sc := Sc) (op := 1002) (q9evS ae0) (q9evZ w0) (q9evS ae1) (hX _ (List.mem_of_getElem? (i := 2) rfl)) (by decide)
  rw [q9FF_1002] at X2
  have H2 := Option.some.inj X2
  try simp only [kz, k4, k59, k60] at H2
  have V1 := q9pV (T := T) (N := N) (P := P) (J := J) (t0 := t0) (Sc := Sc) (op := 1013) (n := 3) (q9evS ae1) (q9evZ w0) (hV _ (List.mem_of_getElem? (i := 1) rfl)) (by decide)
  rw [q9FF_1013] at V1
  have K1 := Option.some.inj V1
  try simp only [kz, k4, k59, k60] at K1
  have X3 := q9th_pX (T := T) (N := N) (P := P) (J := J) (t0 := t0) (Sc := Sc) (op := 1003) (q9evS ae1) (q9evZ w0) (q9evS ae2) (hX _ (List.mem_of_getElem? (i := 3) rfl)) (by decide)
  rw [q9FF_1003] at X3
  have H3 := Option.some.inj X3
  try simp only [kz, k4, k59, k60] at H3
  have V2 := q9pV (T := T) (N := N) (P := P) (J := J) (t0 := t0) (Sc := Sc) (op := 1212) (n := 0) (q9evS ae2) (q9evZ w0) (hV _ (List.mem_of_getElem? (i := 2) rfl)) (by decide)
  rw [q9FF_1212] at V2
  have K2 := Option.some.inj V2
  try simp only [kz, k4, k59, k60] at K2
  have X4 := q9th_pX (T := T) (N := N) (P := P) (J := J) (t0 := t0) (Sc := Sc) (op := 1213) (q9evS ae2) (q9evZ w0) (q9evS ae3) (hX _ (List.mem_of_getElem? (i := 4) rfl)) (by decide)
  rw [q9FF_1213] at X4
  have H4 := Option.some.inj X4
  try simp only [kz, k4, k59, k60] at H4
  have L5 : x4.toInt ≤ (Int32.ofInt 59).toInt + 0 := q9pC (q9evS ae4) (q9evC w0 59) (hL _ (List.mem_of_getElem? (i := 5) rfl))
  obtain ⟨c, hv, hc, h8, h9, -⟩ := K0
  have hd : x5.toInt + 1 = c.2.2.length := q9th_at_of hv hc H0
  have hz : x4.toInt = c.2.1 := q9th_at_of hv hc H1
  have hb : q9spI T N c.1 = x1.toInt := by rw [hc]; exact H2
  obtain ⟨q, st, hst⟩ : ∃ q st, c.2.2 = q :: st := by
    cases hh : c.2.2 with
    | nil => exfalso; rw [hh, List.length_nil] at hd; omega
    | cons q st => exact ⟨q, st, rfl⟩
  have hl2 : c.2.2.length = st.length + 1 := by rw [hst, List.length_cons]
  have hk : q9kbI T N (q9spI T N c.1) = 3 := by rw [hb]; exact K1
  have hl : q9lkI T N c = 3 := by rw [q9lk_of h8 (by omega), hk]
  have he : q9weI T N x1.toInt = x2.toInt := H3
  have hr : q9rcI T N P J c = (0, x3.toInt) := by unfold q9rcI q9rsI; rw [hl, hb, he]; exact Prod.ext K2 H4
  have hok : q9okL T N P J c := ⟨by omega, by omega, by omega, fun h => by omega, by rw [hr]⟩
  have hp : q9prI T N P J c x3.toInt := ⟨hv, .inl ⟨hok, by omega, by rw [hr]⟩⟩
  have hen : q9enE T N P J x4.toInt (x4.toInt + 1) := .inl ⟨c, hv, hok, hz.symm, by omega, rfl⟩
  have ham : (0 : Int) = q9amI T N P J (q9lkI T N c) (q9weI T N (q9spI T N c.1)) := by rw [hl]; rfl
  have rg0 : (1 : Int) ≤ 1 ∧ (1 : Int) ≤ 1 := by omega
  obtain ⟨x6, nt6⟩ : ∃ x : Int32, x.toInt = 1 := ⟨Int32.ofInt (1), q9oI_toInt (by omega)⟩
  have rg1 : (3 : Int) ≤ 3 ∧ (3 : Int) ≤ 3 := by omega
  obtain ⟨x7, nt7⟩ : ∃ x : Int32, x.toInt = 3 := ⟨Int32.ofInt (3), q9oI_toInt (by omega)⟩
  have rg2 : (1 : Int) ≤ (x4.toInt + 1) ∧ ((x4.toInt + 1) : Int) ≤ 60 := by omega
  obtain ⟨x8, nt8⟩ : ∃ x : Int32, x.toInt = (x4.toInt + 1) := ⟨Int32.ofInt ((x4.toInt + 1)), q9oI_toInt (by omega)⟩
  have rg3 : (1 : Int) ≤ (x4.toInt + 1) ∧ ((x4.toInt + 1) : Int) ≤ 60 := by omega
  obtain ⟨x9, nt9⟩ : ∃ x : Int32, x.toInt = (x4.toInt + 1) := ⟨Int32.ofInt ((x4.toInt + 1)), q9oI_toInt (by omega)⟩
  have rg4 : (0 : Int) ≤ 0 ∧ (0 : Int) ≤ 0 := by omega
  obtain ⟨x10, nt10⟩ : ∃ x : Int32, x.toInt = 0 := ⟨Int32.ofInt (0), q9oI_toInt (by omega)⟩
  have u_ : q9upN w 7 [.int x6, .int x7, .int x8, .int x9, .int x10] 0 = .int 0 := q9upN_of (by decide) w0
  have u0 : q9upN w 7 [.int x6, .int x7, .int x8, .int x9, .int x10] 1 = .int x0 := q9upN_of (by decide) ae0
  have u1 : q9upN w 7 [.int x6, .int x7, .int x8, .int x9, .int x10] 2 = .int x1 := q9upN_of (by decide) ae1
  have u2 : q9upN w 7 [.int x6, .int x7, .int x8, .int x9, .int x10] 3 = .int x2 := q9upN_of (by decide) ae2
  have u3 : q9upN w 7 [.int x6, .int x7, .int x8, .int x9, .int x10] 4 = .int x3 := q9upN_of (by decide) ae3
  have u4 : q9upN w 7 [.int x6, .int x7, .int x8, .int x9, .int x10] 5 = .int x4 := q9upN_of (by decide) ae4
  have u5 : q9upN w 7 [.int x6, .int x7, .int x8, .int x9, .int x10] 6 = .int x5 := q9upN_of (by decide) ae5
  have u6 : q9upN w 7 [.int x6, .int x7, .int x8, .int x9, .int x10] 7 = .int x6 := q9upN_at (by decide)
  have u7 : q9upN w 7 [.int x6, .int x7, .int x8, .int x9, .int x10] 8 = .int x7 := q9upN_at (by decide)
  have u8 : q9upN w 7 [.int x6, .int x7, .int x8, .int x9, .int x10] 9 = .int x8 := q9upN_at (by decide)
  have u9 : q9upN w 7 [.int x6, .int x7, .int x8, .int x9, .int x10] 10 = .int x9 := q9upN_at (by decide)
  have u10 : q9upN w 7 [.int x6, .int x7, .int x8, .int x9, .int x10] 11 = .int x10 := q9upN_at (by decide)
  refine ⟨[.int x6, .int x7, .int x8, .int x9, .int x10], fun i9 p9 hq9 => ?_, List.forall_mem_cons.mpr ⟨?_, List.forall_mem_cons.mpr ⟨?_, fun _ h => absurd h List.not_mem_nil⟩⟩, List.forall_mem_cons.mpr ⟨?_, List.forall_mem_cons.mpr ⟨?_, List.forall_mem_cons.mpr ⟨?_, List.forall_mem_cons.mpr ⟨?_, List.forall_mem_cons.mpr ⟨?_, fun _ h => absurd h List.not_mem_nil⟩⟩⟩⟩⟩⟩
  · match i9, hq9 with
    | 0, hq9 =>
      have hp9 : ((1030, (4, 0), (0, 0), (0, 1, 1)) : Nat × q9AV × q9AV × q9ET) = p9 := Option.some.inj hq9
      subst hp9
      exact ⟨⟨x6, rfl, by rw [nt6]; exact rg0.1, by rw [nt6]; exact rg0.2⟩, (q9th_tX (T := T) (N := N) (P := P) (J := J) (t0 := t0) (Sc := Sc) (q9evS u3) (q9evZ u_) (q9evS u6) (by rw [q9FF_1030, nt6]; exact (by rw [← q9FF_1030 (t0 := t0) (Sc := Sc) (b := (0 : Int32).toInt)]; exact q9F_pvs hp)) (by decide)).trans (congrArg some (q9evS u6))⟩
    | 1, hq9 =>
      have hp9 : ((1050, (5, 0), (0, 0), (0, 3, 3)) : Nat × q9AV × q9AV × q9ET) = p9 := Option.some.inj hq9
      subst hp9
      exact ⟨⟨x7, rfl, by rw [nt7]; exact rg1.1, by rw [nt7]; exact rg1.2⟩, (q9th_tX (T := T) (N := N) (P := P) (J := J) (t0 := t0) (Sc := Sc) (q9evS u4) (q9evZ u_) (q9evS u7) (by rw [q9FF_1050, nt7]; exact (by rw [← q9FF_1050 (t0 := t0) (Sc := Sc) (b := (0 : Int32).toInt)]; exact q9F_kd hv hok hz.symm hl.symm)) (by decide)).trans (congrArg some (q9evS u7))⟩
    | 2, hq9 =>
      have hp9 : ((1032, (4, 0), (0, 0), (0, 1, 60)) : Nat × q9AV × q9AV × q9ET) = p9 := Option.some.inj hq9
      subst hp9
      exact ⟨⟨x8, rfl, by rw [nt8]; exact rg2.1, by rw [nt8]; exact rg2.2⟩, (q9th_tX (T := T) (N := N) (P := P) (J := J) (t0 := t0) (Sc := Sc) (q9evS u3) (q9evZ u_) (q9evS u8) (by rw [q9FF_1032, nt8]; exact (by rw [← q9FF_1032 (t0 := t0) (Sc := Sc) (b := (0 : Int32).toInt)]; exact q9F_psz hp (by rw [if_neg (by omega)]; omega))) (by decide)).trans (congrArg some (q9evS u8))⟩
    | 3, hq9 =>
      have hp9 : ((1052, (5, 0), (0, 0), (0, 1, 60)) : Nat × q9AV × q9AV × q9ET) = p9 := Option.some.inj hq9
      subst hp9
      exact ⟨⟨x9, rfl, by rw [nt9]; exact rg3.1, by rw [nt9]; exact rg3.2⟩, (q9th_tX (T := T) (N := N) (P := P) (J := J) (t0 := t0) (Sc := Sc) (q9evS u4) (q9evZ u_) (q9evS u9) (by rw [q9FF_1052, nt9]; exact (by rw [← q9FF_1052 (t0 := t0) (Sc := Sc) (b := (0 : Int32).toInt)]; exact q9F_en hN.1 hen)) (by decide)).trans (congrArg some (q9evS u9))⟩
    | 4, hq9 =>
      have hp9 : ((1051, (5, 0), (0, 0), (0, 0, 0)) : Nat × q9AV × q9AV × q9ET) = p9 := Option.some.inj hq9
      subst hp9
      exact ⟨⟨x10, rfl, by rw [nt10]; exact rg4.1, by rw [nt10]; exact rg4.2⟩, (q9th_tX (T := T) (N := N) (P := P) (J := J) (t0 := t0) (Sc := Sc) (q9evS u4) (q9evZ u_) (q9evS u10) (by rw [q9FF_1051, nt10]; exact (by rw [← q9FF_1051 (t0 := t0) (Sc := Sc) (b := (0 : Int32).toInt)]; exact q9F_mn hv hok hz.symm ham)) (by decide)).trans (congrArg some (q9evS u10))⟩
    | k9 + 5, hq9 => exact nomatch (show (none : Option (Nat × q9AV × q9AV × q9ET)) = some p9 from hq9)
  · exact q9th_tX (T := T) (N := N) (P := P) (J := J) (t0 := t0) (Sc := Sc) (q9evS u3) (q9evZ u_) (q9evS u5) (by rw [q9FF_1031]; exact (by rw [← q9FF_1031 (t0 := t0) (Sc := Sc) (b := (0 : Int32).toInt)]; exact q9F_pdp hp (by rw [if_neg (by omega)]; omega))) (by decide)
  · exact q9th_tX (T := T) (N := N) (P := P) (J := J) (t0 := t0) (Sc := Sc) (q9evS u3) (q9evZ u_) (q9evS u0) (by rw [q9FF_1034]; exact (by rw [← q9FF_1034 (t0 := t0) (Sc := Sc) (b := (0 : Int32).toInt)]; exact q9F_plk hp hst (by rw [if_neg (by omega)]; exact hc.symm))) (by decide)
  · exact q9th_tC (d := (-1)) (q9evS u0) (q9evS u3) (by have := q9pr_gt hp; omega)
  · exact q9th_tC (d := 1) (q9evS u8) (q9evS u4) (by omega)
  · exact q9th_tC (d := (-1)) (q9evS u4) (q9evS u8) (by omega)
  · exact q9th_tC (d := 1) (q9evS u9) (q9evS u4) (by omega)
  · exact q9th_tC (d := (-1)) (q9evS u4) (q9evS u9) (by omega)
theorem q9ru_cfs3 (hT : ∀ i, 0 ≤ T i ∧ T i ≤ 255) (hN : 0 ≤ N ∧ N ≤ 400) (hSc : 0 ≤ Sc 1 ∧ Sc 1 ≤ 400 → N = Sc 1) : q9ruOK (fO T N P J t0 Sc) q9R_cfs3 := by
  intro w w0 hA hX hL hV hR
  obtain ⟨x0, ae0, -, -⟩ := hA 0 0 rfl
  obtain ⟨x1, ae1, -, -⟩ := hA 1 0 rfl
  obtain ⟨x2, ae2, -, -⟩ := hA 2 0 rfl
  obtain ⟨x3, ae3, -, -⟩ := hA 3 0 rfl
  obtain ⟨x4, ae4, -, -⟩ := hA 4 0 rfl
  obtain ⟨x5, ae5, -, -⟩ := hA 5 0 rfl
  obtain ⟨x6, ae6, -, -⟩ := hA 6 0 rfl
  have kz : (0 : Int32).toInt = 0 := rfl
  have k4 : (Int32.ofInt 4).toInt = 4 := q9oI_toInt (by decide)
  have k59 : (Int32.ofInt 59).toInt = 59 := q9oI_toInt (by decide)
  have k60 : (Int32.ofInt 60).toInt = 60 := q9oI_toInt (by decide)
  have V0 := q9pV (T := T) (N := N) (P := P) (J := J) (t0 := t0) (Sc := Sc) (op := 1027) (n := 1) (q9evS ae0) (q9evZ w0) (hV _ (List.mem_of_getElem? (i := 0) rfl)) (by decide)
  rw [q9FF_1027] at V0
  have K0 := q9chV_of V0
  try simp only [kz, k4, k59, k60] at K0
  have X0 := q9th_pX (T := T) (N := N) (P := P) (J := J) (t0 := t0) (Sc := Sc) (op := 1021) (q9evS ae0) (q9evZ w0) (q9evS ae6) (hX _ (List.mem_of_getElem? (i := 0) rfl)) (by decide)
  rw [q9FF_1021] at X0
  have H0 := q9chV_of X0
  try simp only [kz, k4, k59, k60] at H0
  have X1 := q9th_pX (T := T) (N := N) (P := P) (J := J) (t0 := t0) (Sc := Sc) (op := 1022) (q9evS ae0) (q9evZ w0) (q9evS ae5) (hX _ (List.mem_of_getElem? (i := 1) rfl)) (by decide)
  rw [q9FF_1022] at X1
  have H1 := q9chV_of X1
  try simp only [kz, k4, k59, k60] at H1
  have L0 : (0 : Int32).toInt ≤ x0.toInt + 0 := q9pC (q9evZ w0) (q9evS ae0) (hL _ (List.mem_of_getElem? (i := 0) rfl))
  have L1 : (0 : Int32).toInt ≤ x5.toInt + 0 := q9pC (q9evZ w0) (q9evS ae5) (hL _ (List.mem_of_getElem? (i := 1) rfl))
  have L2 : x5.toInt ≤ (Int32.ofInt 60).toInt + 0 := q9pC (q9evS ae5) (q9evC w0 60) (hL _ (List.mem_of_getElem? (i := 2) rfl))
  have L3 : (0 : Int32).toInt ≤ x6.toInt + 0 := q9pC (q9evZ w0) (q9evS ae6) (hL _ (List.mem_of_getElem? (i := 3) rfl))
  have L4 : x6.toInt ≤ (Int32.ofInt 4).toInt + 0 := q9pC (q9evS ae6) (q9evC w0 4) (hL _ (List.mem_of_getElem? (i := 4) rfl))
  have X2 := q9th_pX (T := T) (N := N) (P := P) (J := J) (t0 := t0) (Sc := Sc) (op := 1002) (q9evS ae0) (q9evZ w0) (q9evS ae1) (hX _ (List.mem_of_getElem? (i := 2) rfl)) (by decide)
  rw [q9FF_1002] at X2
  have H2 := Option.some.inj X2
  try simp only [kz, k4, k59, k60] at H2
  have V1 := q9pV (T := T) (N := N) (P := P) (J := J) (t0 := t0) (Sc := Sc) (op := 1013) (n := 3) (q9evS ae1) (q9evZ w0) (hV _ (List.mem_of_getElem? (i := 1) rfl)) (by decide)
  rw [q9FF_1013] at V1
  have K1 := Option.some.inj V1
  try simp only [kz, k4, k59, k60] at K1
  have X3 := q9th_pX (T := T) (N := N) (P := P) (J := J) (t0 := t0) (Sc := Sc) (op := 1003) (q9evS ae1) (q9evZ w0) (q9evS ae2) (hX _ (List.mem_of_getElem? (i := 3) rfl)) (by decide)
  rw [q9FF_1003] at X3
  have H3 := Option.some.inj X3
  try simp only [kz, k4, k59, k60] at H3
  have V2 := q9pV (T := T) (N := N) (P := P) (J := J) (t0 := t0) (Sc := Sc) (op := 1212) (n := 0) (q9evS ae2) (q9evZ w0) (hV _ (List.mem_of_getElem? (i := 2) rfl)) (by decide)
  rw [q9FF_1212] at V2
  have K2 := Option.some.inj V2
  try simp only [kz, k4, k59, k60] at K2
  have X4 := q9th_pX (T := T) (N := N) (P := P) (J := J) (t0 := t0) (Sc := Sc) (op := 1213) (q9evS ae2) (q9evZ w0) (q9evS ae3) (hX _ (List.mem_of_getElem? (i := 4) rfl)) (by decide)
  rw [q9FF_1213] at X4
  have H4 := Option.some.inj X4
  try simp only [kz, k4, k59, k60] at H4
  have X5 := q9th_pX (T := T) (N := N) (P := P) (J := J) (t0 := t0) (Sc := Sc) (op := 1002) (q9evS ae3) (q9evZ w0) (q9evS ae4) (hX _ (List.mem_of_getElem? (i := 5) rfl)) (by decide)
  rw [q9FF_1002] at X5
  have H5 := Option.some.inj X5
  try simp only [kz, k4, k59, k60] at H5
  have V3 := q9pV (T := T) (N := N) (P := P) (J := J) (t0 := t0) (Sc := Sc) (op := 1009) (n := 0) (q9evS ae4) (q9evC w0 59) (hV _ (List.mem_of_getElem? (i := 3) rfl)) (by decide)
  rw [q9FF_1009] at V3
  have K3 := Option.some.inj V3
  try simp only [kz, k4, k59, k60] at K3
  have L5 : x5.toInt ≤ (Int32.ofInt 59).toInt + 0 := q9pC (q9evS ae5) (q9evC w0 59) (hL _ (List.mem_of_getElem? (i := 5) rfl))
  obtain ⟨c, hv, hc, h8, h9, -⟩ := K0
  have hd : x6.toInt + 1 = c.2.2.length := q9th_at_of hv hc H0
  have hz : x5.toInt = c.2.1 := q9th_at_of hv hc H1
  have hb : q9spI T N c.1 = x1.toInt := by rw [hc]; exact H2
  obtain ⟨q, st, hst⟩ : ∃ q st, c.2.2 = q :: st := by
    cases hh : c.2.2 with
    | nil => exfalso; rw [hh, List.length_nil] at hd; omega
    | cons q st => exact ⟨q, st, rfl⟩
  have hl2 : c.2.2.length = st.length + 1 := by rw [hst, List.length_cons]
  have hk : q9kbI T N (q9spI T N c.1) = 3 := by rw [hb]; exact K1
  have hl : q9lkI T N c = 3 := by rw [q9lk_of h8 (by omega), hk]
  have he : q9weI T N x1.toInt = x2.toInt := H3
  have hr : q9rcI T N P J c = (0, x3.toInt) := by unfold q9rcI q9rsI; rw [hl, hb, he]; exact Prod.ext K2 H4
  have hs4 : q9spI T N x3.toInt = x4.toInt := H5
  have hn : q9th_nxI T N P J c = none := q9nx_no h8 (.inr ⟨by omega, by rw [hr]; show q9byI T N (q9spI T N x3.toInt) ≠ 59; rw [hs4]; exact q9is_0 K3 (by omega)⟩)
  have hre : q9th_reI T N P J c = (1, x4.toInt) := by unfold q9th_reI; rw [if_neg h8, if_neg (by omega), if_neg (by omega), if_neg (by omega), if_pos (by rw [hr]), hr]; show (1, q9spI T N x3.toInt) = _; rw [hs4]
  have rg0 : (1 : Int) ≤ 1 ∧ (1 : Int) ≤ 1 := by omega
  obtain ⟨x7, nt7⟩ : ∃ x : Int32, x.toInt = 1 := ⟨Int32.ofInt (1), q9oI_toInt (by omega)⟩
  have u_ : q9upN w 8 [.int x7] 0 = .int 0 := q9upN_of (by decide) w0
  have u0 : q9upN w 8 [.int x7] 1 = .int x0 := q9upN_of (by decide) ae0
  have u1 : q9upN w 8 [.int x7] 2 = .int x1 := q9upN_of (by decide) ae1
  have u2 : q9upN w 8 [.int x7] 3 = .int x2 := q9upN_of (by decide) ae2
  have u3 : q9upN w 8 [.int x7] 4 = .int x3 := q9upN_of (by decide) ae3
  have u4 : q9upN w 8 [.int x7] 5 = .int x4 := q9upN_of (by decide) ae4
  have u5 : q9upN w 8 [.int x7] 6 = .int x5 := q9upN_of (by decide) ae5
  have u6 : q9upN w 8 [.int x7] 7 = .int x6 := q9upN_of (by decide) ae6
  have u7 : q9upN w 8 [.int x7] 8 = .int x7 := q9upN_at (by decide)
  refine ⟨[.int x7], fun i9 p9 hq9 => ?_, List.forall_mem_cons.mpr ⟨?_, fun _ h => absurd h List.not_mem_nil⟩, fun _ h => absurd h List.not_mem_nil⟩
  · match i9, hq9 with
    | 0, hq9 =>
      have hp9 : ((1040, (0, 0), (0, 0), (0, 1, 1)) : Nat × q9AV × q9AV × q9ET) = p9 := Option.some.inj hq9
      subst hp9
      exact ⟨⟨x7, rfl, by rw [nt7]; exact rg0.1, by rw [nt7]; exact rg0.2⟩, (q9th_tX (T := T) (N := N) (P := P) (J := J) (t0 := t0) (Sc := Sc) (q9evZ u_) (q9evZ u_) (q9evS u7) (by rw [q9FF_1040, nt7]; exact (by rw [← q9FF_1040 (t0 := t0) (Sc := Sc) (a := (0 : Int32).toInt) (b := (0 : Int32).toInt)]; exact q9F_rsk hv hn (by rw [hre]))) (by decide)).trans (congrArg some (q9evS u7))⟩
    | k9 + 1, hq9 => exact nomatch (show (none : Option (Nat × q9AV × q9AV × q9ET)) = some p9 from hq9)
  · exact q9th_tX (T := T) (N := N) (P := P) (J := J) (t0 := t0) (Sc := Sc) (q9evZ u_) (q9evZ u_) (q9evS u4) (by rw [q9FF_1041]; exact (by rw [← q9FF_1041 (t0 := t0) (Sc := Sc) (a := (0 : Int32).toInt) (b := (0 : Int32).toInt)]; exact q9F_rsp hv hn (by rw [hre]; exact (by decide : (1 : Int) ≠ 0)) (by rw [hre]))) (by decide)
theorem q9ru_cl4 (hT : ∀ i, 0 ≤ T i ∧ T i ≤ 255) (hN : 0 ≤ N ∧ N ≤ 400) (hSc : 0 ≤ Sc 1 ∧ Sc 1 ≤ 400 → N = Sc 1) : q9ruOK (fO T N P J t0 Sc) q9R_cl4 := by
  intro w w0 hA hX hL hV hR
  obtain ⟨x0, ae0, -, -⟩ := hA 0 0 rfl
  obtain ⟨x1, ae1, -, -⟩ := hA 1 0 rfl
  obtain ⟨x2, ae2, -, -⟩ := hA 2 0 rfl
  obtain ⟨x3, ae3, -, -⟩ := hA 3 0 rfl
  obtain ⟨x4, ae4, -, -⟩ := hA 4 0 rfl
  obtain ⟨x5, ae5, -, -⟩ := hA 5 0 rfl
  obtain ⟨x6, ae6, -, -⟩ := hA 6 0 rfl
  obtain ⟨x7, ae7, -, -⟩ := hA 7 0 rfl
  obtain ⟨x8, ae8, -, -⟩ := hA 8 0 rfl
  obtain ⟨x9, ae9, -, -⟩ := hA 9 1 rfl
  obtain ⟨x10, ae10, -, -⟩ := hA 10 1 rfl
  have kz : (0 : Int32).toInt = 0 := rfl
  have k4 : (Int32.ofInt 4).toInt = 4 := q9oI_toInt (by decide)
  have k59 : (Int32.ofInt 59).toInt = 59 := q9oI_toInt (by decide)
  have k60 : (Int32.ofInt 60).toInt = 60 := q9oI_toInt (by decide)
  have V0 := q9pV (T := T) (N := N) (P := P) (J := J) (t0 := t0) (Sc := Sc) (op := 1027) (n := 1) (q9evS ae0) (q9evZ w0) (hV _ (List.mem_of_getElem? (i := 0) rfl)) (by decide)
  rw [q9FF_1027] at V0
  have K0 := q9chV_of V0
  try simp only [kz, k4, k59, k60] at K0
  have X0 := q9th_pX (T := T) (N := N) (P := P) (J := J) (t0 := t0) (Sc := Sc) (op := 1021) (q9evS ae0) (q9evZ w0) (q9evS ae8) (hX _ (List.mem_of_getElem? (i := 0) rfl)) (by decide)
  rw [q9FF_1021] at X0
  have H0 := q9chV_of X0
  try simp only [kz, k4, k59, k60] at H0
  have X1 := q9th_pX (T := T) (N := N) (P := P) (J := J) (t0 := t0) (Sc := Sc) (op := 1022) (q9evS ae0) (q9evZ w0) (q9evS ae6) (hX _ (List.mem_of_getElem? (i := 1) rfl)) (by decide)
  rw [q9FF_1022] at X1
  have H1 := q9chV_of X1
  try simp only [kz, k4, k59, k60] at H1
  have L0 : (0 : Int32).toInt ≤ x0.toInt + 0 := q9pC (q9evZ w0) (q9evS ae0) (hL _ (List.mem_of_getElem? (i := 0) rfl))
  have L1 : (0 : Int32).toInt ≤ x6.toInt + 0 := q9pC (q9evZ w0) (q9evS ae6) (hL _ (List.mem_of_getElem? (i := 1) rfl))
  have L2 : x6.toInt ≤ (Int32.ofInt 60).toInt + 0 := q9pC (q9evS ae6) (q9evC w0 60) (hL _ (List.mem_of_getElem? (i := 2) rfl))
  have L3 : (0 : Int32).toInt ≤ x8.toInt + 0 := q9pC (q9evZ w0) (q9evS ae8) (hL _ (List.mem_of_getElem? (i := 3) rfl))
  have L4 : x8.toInt ≤ (Int32.ofInt 4).toInt + 0 := q9pC (q9evS ae8) (q9evC w0 4) (hL _ (List.mem_of_getElem? (i := 4) rfl))
  have X2 := q9th_pX (T := T) (N := N) (P := P) (J := J) (t0 := t0) (Sc := Sc) (op := 1002) (q9evS ae0) (q9evZ w0) (q9evS ae1) (hX _ (List.mem_of_getElem? (i := 2) rfl)) (by decide)
  rw [q9FF_1002] at X2
  have H2 := Option.some.inj X2
  try simp only [kz, k4, k59, k60] at H2
  have V1 := q9pV (T := T) (N := N) (P := P) (J := J) (t0 := t0) (Sc := Sc) (op := 1013) (n := 4) (q9evS ae1) (q9evZ w0) (hV _ (List.mem_of_getElem? (i := 1) rfl)) (by decide)
  rw [q9FF_1013] at V1
  have K1 := Option.some.inj V1
  try simp only [kz, k4, k59, k60] at K1
  have X3 := q9th_pX (T := T) (N := N) (P := P) (J := J) (t0 := t0) (Sc := Sc) (op := 1003) (q9evS ae1) (q9evZ w0) (q9evS ae2) (hX _ (List.mem_of_getElem? (i := 3) rfl)) (by decide)
  rw [q9FF_1003] at X3
  have H3 := Option.some.inj X3
  try simp only [kz, k4, k59, k60] at H3
  have V2 := q9pV (T := T) (N := N) (P := P) (J := J) (t0 := t0) (Sc := Sc) (op := 1212) (n := 0) (q9evS ae2) (q9evZ w0) (hV _ (List.mem_of_getElem? (i := 2) rfl)) (by decide)
  rw [q9FF_1212] at V2
  have K2 := Option.some.inj V2
  try simp only [kz, k4, k59, k60] at K2
  have X4 := q9th_pX (T := T) (N := N) (P := P) (J := J) (t0 := t0) (Sc := Sc) (op := 1213) (q9evS ae2) (q9evZ w0) (q9evS ae3) (hX _ (List.mem_of_getElem? (i := 4) rfl)) (by decide)
  rw [q9FF_1213] at X4
  have H4 := Option.some.inj X4
  try simp only [kz, k4, k59, k60] at H4
  have X5 := q9th_pX (T := T) (N := N) (P := P) (J := J) (t0 := t0) (Sc := Sc) (op := 1002) (q9evS ae3) (q9evZ w0) (q9evS ae4) (hX _ (List.mem_of_getElem? (i := 5) rfl)) (by decide)
  rw [q9FF_1002] at X5
  have H5 := Option.some.inj X5
  try simp only [kz, k4, k59, k60] at H5
  have V3 := q9pV (T := T) (N := N) (P := P) (J := J) (t0 := t0) (Sc := Sc) (op := 1009) (n := 1) (q9evS ae4) (q9evC w0 59) (hV _ (List.mem_of_getElem? (i := 3) rfl)) (by decide)
  rw [q9FF_1009] at V3
  have K3 := Option.some.inj V3
  try simp only [kz, k4, k59, k60] at K3
  have L5 : x5.toInt ≤ x4.toInt + 1 := q9pC (q9evS ae5) (q9evS ae4) (hL _ (List.mem_of_getElem? (i := 5) rfl))
  have L6 : x4.toInt ≤ x5.toInt + (-1) := q9pC (q9evS ae4) (q9evS ae5) (hL _ (List.mem_of_getElem? (i := 6) rfl))
  have L7 : x6.toInt ≤ (Int32.ofInt 59).toInt + 0 := q9pC (q9evS ae6) (q9evC w0 59) (hL _ (List.mem_of_getElem? (i := 7) rfl))
  have L8 : x7.toInt ≤ x6.toInt + 1 := q9pC (q9evS ae7) (q9evS ae6) (hL _ (List.mem_of_getElem? (i := 8) rfl))
  have L9 : x6.toInt ≤ x7.toInt + (-1) := q9pC (q9evS ae6) (q9evS ae7) (hL _ (List.mem_of_getElem? (i := 9) rfl))
  have X6 := q9pL (T := T) (N := N) (P := P) (J := J) (t0 := t0) (Sc := Sc) (op := 1024) (q9evS ae0) (q9evS ae8) (q9evS ae9) (hX _ (List.mem_of_getElem? (i := 6) rfl)) (by decide)
  rw [q9FL_1024] at X6
  have H6 := q9chV_of X6
  try simp only [kz, k4, k59, k60] at H6
  have X7 := q9pL (T := T) (N := N) (P := P) (J := J) (t0 := t0) (Sc := Sc) (op := 1028) (q9evS ae0) (q9evZ w0) (q9evS ae10) (hX _ (List.mem_of_getElem? (i := 7) rfl)) (by decide)
  rw [q9FL_1028] at X7
  have H7 := q9chV_of X7
  try simp only [kz, k4, k59, k60] at H7
  obtain ⟨c, hv, hc, h8, h9, -⟩ := K0
  have hd : x8.toInt + 1 = c.2.2.length := q9th_at_of hv hc H0
  have hz : x6.toInt = c.2.1 := q9th_at_of hv hc H1
  have hb : q9spI T N c.1 = x1.toInt := by rw [hc]; exact H2
  obtain ⟨q, st, hst⟩ : ∃ q st, c.2.2 = q :: st := by
    cases hh : c.2.2 with
    | nil => exfalso; rw [hh, List.length_nil] at hd; omega
    | cons q st => exact ⟨q, st, rfl⟩
  have hl2 : c.2.2.length = st.length + 1 := by rw [hst, List.length_cons]
  have hk : q9kbI T N (q9spI T N c.1) = 4 := by rw [hb]; exact K1
  have hl : q9lkI T N c = 4 := by rw [q9lk_of h8 (by omega), hk]
  have he : q9weI T N x1.toInt = x2.toInt := H3
  have hr : q9rcI T N P J c = (0, x3.toInt) := by unfold q9rcI q9rsI; rw [hl, hb, he]; exact Prod.ext K2 H4
  have hok : q9okL T N P J c := ⟨by omega, by omega, by omega, fun h => by omega, by rw [hr]⟩
  have hs4 : q9spI T N x3.toInt = x4.toInt := H5
  have hn := q9nx_line hst (by omega) (by omega) (by omega) hr rfl (by rw [hs4]; exact q9is_1 K3 (by omega))
  generalize hg : ((q9spI T N ((0, x3.toInt) : q9TK2).2 + 1, c.2.1 + 1, (q.1, q.2.1, (if q9lkI T N c ≤ 1 then q.2.2.1 + Int64.ofInt (q9amI T N P J (q9lkI T N c) (q9weI T N (q9spI T N c.1))) else q.2.2.1), q.2.2.2 + 1) :: st) : q9CF9) = c' at hn
  have hv' := q9vis_next hv hn
  have hc' : c'.1 = x5.toInt := by rw [← hg]; show q9spI T N x3.toInt + 1 = _; omega
  have hst' : c'.2.2 = (q.1, q.2.1, (if q9lkI T N c ≤ 1 then q.2.2.1 + Int64.ofInt (q9amI T N P J (q9lkI T N c) (q9weI T N (q9spI T N c.1))) else q.2.2.1), q.2.2.2 + 1) :: st := by rw [← hg]
  have hd' : x8.toInt + 1 = c'.2.2.length := by rw [hst', List.length_cons]; omega
  have hz' : x7.toInt = c'.2.1 := by rw [← hg]; show _ = c.2.1 + 1; omega
  have hf : ∃ e, q9enI c x8.toInt = some e ∧ x9 = e.2.2.1 := q9th_at_of hv hc H6
  obtain ⟨q0, f1, f2⟩ := hf
  rw [q9en_top hst hd] at f1
  cases f1
  rw [if_neg (by omega), ← f2] at hst'
  have hg2 : ∃ q st, c.2.2 = q :: st ∧ x10 = q.2.2.2 + 1 := q9th_at_of hv hc H7
  obtain ⟨q1, st1, g1, g2⟩ := hg2
  rw [hst] at g1
  cases g1
  rw [← g2] at hst'
  have rg0 : (1 : Int) ≤ 1 ∧ (1 : Int) ≤ 1 := by omega
  obtain ⟨x11, nt11⟩ : ∃ x : Int32, x.toInt = 1 := ⟨Int32.ofInt (1), q9oI_toInt (by omega)⟩
  have rg1 : (4 : Int) ≤ 4 ∧ (4 : Int) ≤ 4 := by omega
  obtain ⟨x12, nt12⟩ : ∃ x : Int32, x.toInt = 4 := ⟨Int32.ofInt (4), q9oI_toInt (by omega)⟩
  have u_ : q9upN w 12 [.int x11, .int x12] 0 = .int 0 := q9upN_of (by decide) w0
  have u0 : q9upN w 12 [.int x11, .int x12] 1 = .int x0 := q9upN_of (by decide) ae0
  have u1 : q9upN w 12 [.int x11, .int x12] 2 = .int x1 := q9upN_of (by decide) ae1
  have u2 : q9upN w 12 [.int x11, .int x12] 3 = .int x2 := q9upN_of (by decide) ae2
  have u3 : q9upN w 12 [.int x11, .int x12] 4 = .int x3 := q9upN_of (by decide) ae3
  have u4 : q9upN w 12 [.int x11, .int x12] 5 = .int x4 := q9upN_of (by decide) ae4
  have u5 : q9upN w 12 [.int x11, .int x12] 6 = .int x5 := q9upN_of (by decide) ae5
  have u6 : q9upN w 12 [.int x11, .int x12] 7 = .int x6 := q9upN_of (by decide) ae6
  have u7 : q9upN w 12 [.int x11, .int x12] 8 = .int x7 := q9upN_of (by decide) ae7
  have u8 : q9upN w 12 [.int x11, .int x12] 9 = .int x8 := q9upN_of (by decide) ae8
  have u9 : q9upN w 12 [.int x11, .int x12] 10 = .long x9 := q9upN_of (by decide) ae9
  have u10 : q9upN w 12 [.int x11, .int x12] 11 = .long x10 := q9upN_of (by decide) ae10
  have u11 : q9upN w 12 [.int x11, .int x12] 12 = .int x11 := q9upN_at (by decide)
  have u12 : q9upN w 12 [.int x11, .int x12] 13 = .int x12 := q9upN_at (by decide)
  refine ⟨[.int x11, .int x12], fun i9 p9 hq9 => ?_, List.forall_mem_cons.mpr ⟨?_, List.forall_mem_cons.mpr ⟨?_, List.forall_mem_cons.mpr ⟨?_, List.forall_mem_cons.mpr ⟨?_, List.forall_mem_cons.mpr ⟨?_, fun _ h => absurd h List.not_mem_nil⟩⟩⟩⟩⟩, List.forall_mem_cons.mpr ⟨?_, fun _ h => absurd h List.not_mem_nil⟩⟩
  · match i9, hq9 with
    | 0, hq9 =>
      have hp9 : ((1020, (6, 0), (0, 0), (0, 1, 1)) : Nat × q9AV × q9AV × q9ET) = p9 := Option.some.inj hq9
      subst hp9
      exact ⟨⟨x11, rfl, by rw [nt11]; exact rg0.1, by rw [nt11]; exact rg0.2⟩, (q9th_tX (T := T) (N := N) (P := P) (J := J) (t0 := t0) (Sc := Sc) (q9evS u5) (q9evZ u_) (q9evS u11) (by rw [q9FF_1020, nt11]; exact (by rw [← q9FF_1020 (t0 := t0) (Sc := Sc) (b := (0 : Int32).toInt)]; exact q9F_vis hv' hc')) (by decide)).trans (congrArg some (q9evS u11))⟩
    | 1, hq9 =>
      have hp9 : ((1050, (7, 0), (0, 0), (0, 4, 4)) : Nat × q9AV × q9AV × q9ET) = p9 := Option.some.inj hq9
      subst hp9
      exact ⟨⟨x12, rfl, by rw [nt12]; exact rg1.1, by rw [nt12]; exact rg1.2⟩, (q9th_tX (T := T) (N := N) (P := P) (J := J) (t0 := t0) (Sc := Sc) (q9evS u6) (q9evZ u_) (q9evS u12) (by rw [q9FF_1050, nt12]; exact (by rw [← q9FF_1050 (t0 := t0) (Sc := Sc) (b := (0 : Int32).toInt)]; exact q9F_kd hv hok hz.symm hl.symm)) (by decide)).trans (congrArg some (q9evS u12))⟩
    | k9 + 2, hq9 => exact nomatch (show (none : Option (Nat × q9AV × q9AV × q9ET)) = some p9 from hq9)
  · exact q9th_tX (T := T) (N := N) (P := P) (J := J) (t0 := t0) (Sc := Sc) (q9evS u5) (q9evZ u_) (q9evS u8) (by rw [q9FF_1021]; exact (by rw [← q9FF_1021 (t0 := t0) (Sc := Sc) (b := (0 : Int32).toInt)]; exact q9F_dp hv' hc' hd')) (by decide)
  · exact q9th_tX (T := T) (N := N) (P := P) (J := J) (t0 := t0) (Sc := Sc) (q9evS u5) (q9evZ u_) (q9evS u7) (by rw [q9FF_1022]; exact (by rw [← q9FF_1022 (t0 := t0) (Sc := Sc) (b := (0 : Int32).toInt)]; exact q9F_sz hv' hc' hz')) (by decide)
  · exact q9th_tX (T := T) (N := N) (P := P) (J := J) (t0 := t0) (Sc := Sc) (q9evS u5) (q9evZ u_) (q9evS u0) (by rw [q9FF_1026]; exact (by rw [← q9FF_1026 (t0 := t0) (Sc := Sc) (b := (0 : Int32).toInt)]; exact q9F_prv hv hn hc' hc.symm)) (by decide)
  · exact q9th_tL (T := T) (N := N) (P := P) (J := J) (t0 := t0) (Sc := Sc) (q9evS u5) (q9evS u8) (q9evS u9) (by rw [q9FL_1024]; exact (by rw [← q9FL_1024 (b := x8.toInt)]; exact q9G_frv hv' hc' (q9en_top hst' hd') rfl)) (by decide)
  · exact q9th_tL (T := T) (N := N) (P := P) (J := J) (t0 := t0) (Sc := Sc) (q9evS u5) (q9evS u8) (q9evS u10) (by rw [q9FL_1025]; exact (by rw [← q9FL_1025 (b := x8.toInt)]; exact q9G_dnv hv' hc' (q9en_top hst' hd') rfl)) (by decide)
  · exact q9th_tC (d := (-1)) (q9evS u0) (q9evS u5) (by have := q9nx_pos hn; omega)
theorem q9ru_ln4 (hT : ∀ i, 0 ≤ T i ∧ T i ≤ 255) (hN : 0 ≤ N ∧ N ≤ 400) (hSc : 0 ≤ Sc 1 ∧ Sc 1 ≤ 400 → N = Sc 1) : q9ruOK (fO T N P J t0 Sc) q9R_ln4 := by
  intro w w0 hA hX hL hV hR
  obtain ⟨x0, ae0, -, -⟩ := hA 0 0 rfl
  obtain ⟨x1, ae1, -, -⟩ := hA 1 0 rfl
  obtain ⟨x2, ae2, -, -⟩ := hA 2 0 rfl
  obtain ⟨x3, ae3, -, -⟩ := hA 3 0 rfl
  obtain ⟨x4, ae4, -, -⟩ := hA 4 0 rfl
  obtain ⟨x5, ae5, -, -⟩ := hA 5 0 rfl
  have kz : (0 : Int32).toInt = 0 := rfl
  have k4 : (Int32.ofInt 4).toInt = 4 := q9oI_toInt (by decide)
  have k59 : (Int32.ofInt 59).toInt = 59 := q9oI_toInt (by decide)
  have k60 : (Int32.ofInt 60).toInt = 60 := q9oI_toInt (by decide)
  have V0 := q9pV (T := T) (N := N) (P := P) (J := J) (t0 := t0) (Sc := Sc) (op := 1027) (n := 1) (q9evS ae0) (q9evZ w0) (hV _ (List.mem_of_getElem? (i := 0) rfl)) (by decide)
  rw [q9FF_1027] at V0
  have K0 := q9chV_of V0
  try simp only [kz, k4, k59, k60] at K0
  have X0 := q9th_pX (T := T) (N := N) (P := P) (J := J) (t0 := t0) (Sc := Sc) (op := 1021) (q9evS ae0) (q9evZ w0) (q9evS ae5) (hX _ (List.mem_of_getElem? (i := 0) rfl)) (by decide)
  rw [q9FF_1021] at X0
  have H0 := q9chV_of X0
  try simp only [kz, k4, k59, k60] at H0
  have X1 := q9th_pX (T := T) (N := N) (P := P) (J := J) (t0 := t0) (Sc := Sc) (op := 1022) (q9evS ae0) (q9evZ w0) (q9evS ae4) (hX _ (List.mem_of_getElem? (i := 1) rfl)) (by decide)
  rw [q9FF_1022] at X1
  have H1 := q9chV_of X1
  try simp only [kz, k4, k59, k60] at H1
  have L0 : (0 : Int32).toInt ≤ x0.toInt + 0 := q9pC (q9evZ w0) (q9evS ae0) (hL _ (List.mem_of_getElem? (i := 0) rfl))
  have L1 : (0 : Int32).toInt ≤ x4.toInt + 0 := q9pC (q9evZ w0) (q9evS ae4) (hL _ (List.mem_of_getElem? (i := 1) rfl))
  have L2 : x4.toInt ≤ (Int32.ofInt 60).toInt + 0 := q9pC (q9evS ae4) (q9evC w0 60) (hL _ (List.mem_of_getElem? (i := 2) rfl))
  have L3 : (0 : Int32).toInt ≤ x5.toInt + 0 := q9pC (q9evZ w0) (q9evS ae5) (hL _ (List.mem_of_getElem? (i := 3) rfl))
  have L4 : x5.toInt ≤ (Int32.ofInt 4).toInt + 0 := q9pC (q9evS ae5) (q9evC w0 4) (hL _ (List.mem_of_getElem? (i := 4) rfl))
  have X2 := q9th_pX (T := T) (N := N) (P := P) (J := J) (t0 := t0) (Sc := Sc) (op := 1002) (q9evS ae0) (q9evZ w0) (q9evS ae1) (hX _ (List.mem_of_getElem? (i := 2) rfl)) (by decide)
  rw [q9FF_1002] at X2
  have H2 := Option.some.inj X2
  try simp only [kz, k4, k59, k60] at H2
  have V1 := q9pV (T := T) (N := N) (P := P) (J := J) (t0 := t0) (Sc := Sc) (op := 1013) (n := 4) (q9evS ae1) (q9evZ w0) (hV _ (List.mem_of_getElem? (i := 1) rfl)) (by decide)
  rw [q9FF_1013] at V1
  have K1 := Option.some.inj V1
  try simp only [kz, k4, k59, k60] at K1
  have X3 := q9th_pX (T := T) (N := N) (P := P) (J := J) (t0 := t0) (Sc := Sc) (op := 1003) (q9evS ae1) (q9evZ w0) (q9evS ae2) (hX _ (List.mem_of_getElem? (i := 3) rfl)) (by decide)
  rw [q9FF_1003] at X3
  have H3 := Option.some.inj X3
  try simp only [kz, k4, k59, k60] at H3
  have V2 := q9pV (T := T) (N := N) (P := P) (J := J) (t0 := t0) (Sc := Sc) (op := 1212) (n := 0) (q9evS ae2) (q9evZ w0) (hV _ (List.mem_of_getElem? (i := 2) rfl)) (by decide)
  rw [q9FF_1212] at V2
  have K2 := Option.some.inj V2
  try simp only [kz, k4, k59, k60] at K2
  have X4 := q9th_pX (T := T) (N := N) (P := P) (J := J) (t0 := t0) (Sc := Sc) (op := 1213) (q9evS ae2) (q9evZ w0) (q9evS ae3) (hX _ (List.mem_of_getElem? (i := 4) rfl)) (by decide)
  rw [q9FF_1213] at X4
  have H4 := Option.some.inj X4
  try simp only [kz, k4, k59, k60] at H4
  have L5 : x4.toInt ≤ (Int32.ofInt 59).toInt + 0 := q9pC (q9evS ae4) (q9evC w0 59) (hL _ (List.mem_of_getElem? (i := 5) rfl))
  obtain ⟨c, hv, hc, h8, h9, -⟩ := K0
  have hd : x5.toInt + 1 = c.2.2.length := q9th_at_of hv hc H0
  have hz : x4.toInt = c.2.1 := q9th_at_of hv hc H1
  have hb : q9spI T N c.1 = x1.toInt := by rw [hc]; exact H2
  obtain ⟨q, st, hst⟩ : ∃ q st, c.2.2 = q :: st := by
    cases hh : c.2.2 with
    | nil => exfalso; rw [hh, List.length_nil] at hd; omega
    | cons q st => exact ⟨q, st, rfl⟩
  have hl2 : c.2.2.length = st.length + 1 := by rw [hst, List.length_cons]
  have hk : q9kbI T N (q9spI T N c.1) = 4 := by rw [hb]; exact K1
  have hl : q9lkI T N c = 4 := by rw [q9lk_of h8 (by omega), hk]
  have he : q9weI T N x1.toInt = x2.toInt := H3
  have hr : q9rcI T N P J c = (0, x3.toInt) := by unfold q9rcI q9rsI; rw [hl, hb, he]; exact Prod.ext K2 H4
  have hok : q9okL T N P J c := ⟨by omega, by omega, by omega, fun h => by omega, by rw [hr]⟩
  have hp : q9prI T N P J c x3.toInt := ⟨hv, .inl ⟨hok, by omega, by rw [hr]⟩⟩
  have hen : q9enE T N P J x4.toInt (x4.toInt + 1) := .inl ⟨c, hv, hok, hz.symm, by omega, rfl⟩
  have ham : (0 : Int) = q9amI T N P J (q9lkI T N c) (q9weI T N (q9spI T N c.1)) := by rw [hl]; rfl
  have rg0 : (1 : Int) ≤ 1 ∧ (1 : Int) ≤ 1 := by omega
  obtain ⟨x6, nt6⟩ : ∃ x : Int32, x.toInt = 1 := ⟨Int32.ofInt (1), q9oI_toInt (by omega)⟩
  have rg1 : (4 : Int) ≤ 4 ∧ (4 : Int) ≤ 4 := by omega
  obtain ⟨x7, nt7⟩ : ∃ x : Int32, x.toInt = 4 := ⟨Int32.ofInt (4), q9oI_toInt (by omega)⟩
  have rg2 : (1 : Int) ≤ (x4.toInt + 1) ∧ ((x4.toInt + 1) : Int) ≤ 60 := by omega
  obtain ⟨x8, nt8⟩ : ∃ x : Int32, x.toInt = (x4.toInt + 1) := ⟨Int32.ofInt ((x4.toInt + 1)), q9oI_toInt (by omega)⟩
  have rg3 : (1 : Int) ≤ (x4.toInt + 1) ∧ ((x4.toInt + 1) : Int) ≤ 60 := by omega
  obtain ⟨x9, nt9⟩ : ∃ x : Int32, x.toInt = (x4.toInt + 1) := ⟨Int32.ofInt ((x4.toInt + 1)), q9oI_toInt (by omega)⟩
  have rg4 : (0 : Int) ≤ 0 ∧ (0 : Int) ≤ 0 := by omega
  obtain ⟨x10, nt10⟩ : ∃ x : Int32, x.toInt = 0 := ⟨Int32.ofInt (0), q9oI_toInt (by omega)⟩
  have u_ : q9upN w 7 [.int x6, .int x7, .int x8, .int x9, .int x10] 0 = .int 0 := q9upN_of (by decide) w0
  have u0 : q9upN w 7 [.int x6, .int x7, .int x8, .int x9, .int x10] 1 = .int x0 := q9upN_of (by decide) ae0
  have u1 : q9upN w 7 [.int x6, .int x7, .int x8, .int x9, .int x10] 2 = .int x1 := q9upN_of (by decide) ae1
  have u2 : q9upN w 7 [.int x6, .int x7, .int x8, .int x9, .int x10] 3 = .int x2 := q9upN_of (by decide) ae2
  have u3 : q9upN w 7 [.int x6, .int x7, .int x8, .int x9, .int x10] 4 = .int x3 := q9upN_of (by decide) ae3
  have u4 : q9upN w 7 [.int x6, .int x7, .int x8, .int x9, .int x10] 5 = .int x4 := q9upN_of (by decide) ae4
  have u5 : q9upN w 7 [.int x6, .int x7, .int x8, .int x9, .int x10] 6 = .int x5 := q9upN_of (by decide) ae5
  have u6 : q9upN w 7 [.int x6, .int x7, .int x8, .int x9, .int x10] 7 = .int x6 := q9upN_at (by decide)
  have u7 : q9upN w 7 [.int x6, .int x7, .int x8, .int x9, .int x10] 8 = .int x7 := q9upN_at (by decide)
  have u8 : q9upN w 7 [.int x6, .int x7, .int x8, .int x9, .int x10] 9 = .int x8 := q9upN_at (by decide)
  have u9 : q9upN w 7 [.int x6, .int x7, .int x8, .int x9, .int x10] 10 = .int x9 := q9upN_at (by decide)
  have u10 : q9upN w 7 [.int x6, .int x7, .int x8, .int x9, .int x10] 11 = .int x10 := q9upN_at (by decide)
  refine ⟨[.int x6, .int x7, .int x8, .int x9, .int x10], fun i9 p9 hq9 => ?_, List.forall_mem_cons.mpr ⟨?_, List.forall_mem_cons.mpr ⟨?_, fun _ h => absurd h List.not_mem_nil⟩⟩, List.forall_mem_cons.mpr ⟨?_, List.forall_mem_cons.mpr ⟨?_, List.forall_mem_cons.mpr ⟨?_, List.forall_mem_cons.mpr ⟨?_, List.forall_mem_cons.mpr ⟨?_, fun _ h => absurd h List.not_mem_nil⟩⟩⟩⟩⟩⟩
  · match i9, hq9 with
    | 0, hq9 =>
      have hp9 : ((1030, (4, 0), (0, 0), (0, 1, 1)) : Nat × q9AV × q9AV × q9ET) = p9 := Option.some.inj hq9
      subst hp9
      exact ⟨⟨x6, rfl, by rw [nt6]; exact rg0.1, by rw [nt6]; exact rg0.2⟩, (q9th_tX (T := T) (N := N) (P := P) (J := J) (t0 := t0) (Sc := Sc) (q9evS u3) (q9evZ u_) (q9evS u6) (by rw [q9FF_1030, nt6]; exact (by rw [← q9FF_1030 (t0 := t0) (Sc := Sc) (b := (0 : Int32).toInt)]; exact q9F_pvs hp)) (by decide)).trans (congrArg some (q9evS u6))⟩
    | 1, hq9 =>
      have hp9 : ((1050, (5, 0), (0, 0), (0, 4, 4)) : Nat × q9AV × q9AV × q9ET) = p9 := Option.some.inj hq9
      subst hp9
      exact ⟨⟨x7, rfl, by rw [nt7]; exact rg1.1, by rw [nt7]; exact rg1.2⟩, (q9th_tX (T := T) (N := N) (P := P) (J := J) (t0 := t0) (Sc := Sc) (q9evS u4) (q9evZ u_) (q9evS u7) (by rw [q9FF_1050, nt7]; exact (by rw [← q9FF_1050 (t0 := t0) (Sc := Sc) (b := (0 : Int32).toInt)]; exact q9F_kd hv hok hz.symm hl.symm)) (by decide)).trans (congrArg some (q9evS u7))⟩
    | 2, hq9 =>
      have hp9 : ((1032, (4, 0), (0, 0), (0, 1, 60)) : Nat × q9AV × q9AV × q9ET) = p9 := Option.some.inj hq9
      subst hp9
      exact ⟨⟨x8, rfl, by rw [nt8]; exact rg2.1, by rw [nt8]; exact rg2.2⟩, (q9th_tX (T := T) (N := N) (P := P) (J := J) (t0 := t0) (Sc := Sc) (q9evS u3) (q9evZ u_) (q9evS u8) (by rw [q9FF_1032, nt8]; exact (by rw [← q9FF_1032 (t0 := t0) (Sc := Sc) (b := (0 : Int32).toInt)]; exact q9F_psz hp (by rw [if_neg (by omega)]; omega))) (by decide)).trans (congrArg some (q9evS u8))⟩
    | 3, hq9 =>
      have hp9 : ((1052, (5, 0), (0, 0), (0, 1, 60)) : Nat × q9AV × q9AV × q9ET) = p9 := Option.some.inj hq9
      subst hp9
      exact ⟨⟨x9, rfl, by rw [nt9]; exact rg3.1, by rw [nt9]; exact rg3.2⟩, (q9th_tX (T := T) (N := N) (P := P) (J := J) (t0 := t0) (Sc := Sc) (q9evS u4) (q9evZ u_) (q9evS u9) (by rw [q9FF_1052, nt9]; exact (by rw [← q9FF_1052 (t0 := t0) (Sc := Sc) (b := (0 : Int32).toInt)]; exact q9F_en hN.1 hen)) (by decide)).trans (congrArg some (q9evS u9))⟩
    | 4, hq9 =>
      have hp9 : ((1051, (5, 0), (0, 0), (0, 0, 0)) : Nat × q9AV × q9AV × q9ET) = p9 := Option.some.inj hq9
      subst hp9
      exact ⟨⟨x10, rfl, by rw [nt10]; exact rg4.1, by rw [nt10]; exact rg4.2⟩, (q9th_tX (T := T) (N := N) (P := P) (J := J) (t0 := t0) (Sc := Sc) (q9evS u4) (q9evZ u_) (q9evS u10) (by rw [q9FF_1051, nt10]; exact (by rw [← q9FF_1051 (t0 := t0) (Sc := Sc) (b := (0 : Int32).toInt)]; exact q9F_mn hv hok hz.symm ham)) (by decide)).trans (congrArg some (q9evS u10))⟩
    | k9 + 5, hq9 => exact nomatch (show (none : Option (Nat × q9AV × q9AV × q9ET)) = some p9 from hq9)
  · exact q9th_tX (T := T) (N := N) (P := P) (J := J) (t0 := t0) (Sc := Sc) (q9evS u3) (q9evZ u_) (q9evS u5) (by rw [q9FF_1031]; exact (by rw [← q9FF_1031 (t0 := t0) (Sc := Sc) (b := (0 : Int32).toInt)]; exact q9F_pdp hp (by rw [if_neg (by omega)]; omega))) (by decide)
  · exact q9th_tX (T := T) (N := N) (P := P) (J := J) (t0 := t0) (Sc := Sc) (q9evS u3) (q9evZ u_) (q9evS u0) (by rw [q9FF_1034]; exact (by rw [← q9FF_1034 (t0 := t0) (Sc := Sc) (b := (0 : Int32).toInt)]; exact q9F_plk hp hst (by rw [if_neg (by omega)]; exact hc.symm))) (by decide)
  · exact q9th_tC (d := (-1)) (q9evS u0) (q9evS u3) (by have := q9pr_gt hp; omega)
  · exact q9th_tC (d := 1) (q9evS u8) (q9evS u4) (by omega)
  · exact q9th_tC (d := (-1)) (q9evS u4) (q9evS u8) (by omega)
  · exact q9th_tC (d := 1) (q9evS u9) (q9evS u4) (by omega)
  · exact q9th_tC (d := (-1)) (q9evS u4) (q9evS u9) (by omega)
theorem q9ru_cfs4 (hT : ∀ i, 0 ≤ T i ∧ T i ≤ 255) (hN : 0 ≤ N ∧ N ≤ 400) (hSc : 0 ≤ Sc 1 ∧ Sc 1 ≤ 400 → N = Sc 1) : q9ruOK (fO T N P J t0 Sc) q9R_cfs4 := by
  intro w w0 hA hX hL hV hR
  obtain ⟨x0, ae0, -, -⟩ := hA 0 0 rfl
  obtain ⟨x1, ae1, -, -⟩ := hA 1 0 rfl
  obtain ⟨x2, ae2, -, -⟩ := hA 2 0 rfl
  obtain ⟨x3, ae3, -, -⟩ := hA 3 0 rfl
  obtain ⟨x4, ae4, -, -⟩ := hA 4 0 rfl
  obtain ⟨x5, ae5, -, -⟩ := hA 5 0 rfl
  obtain ⟨x6, ae6, -, -⟩ := hA 6 0 rfl
  have kz : (0 : Int32).toInt = 0 := rfl
  have k4 : (Int32.ofInt 4).toInt = 4 := q9oI_toInt (by decide)
  have k59 : (Int32.ofInt 59).toInt = 59 := q9oI_toInt (by decide)
  have k60 : (Int32.ofInt 60).toInt = 60 := q9oI_toInt (by decide)
  have V0 := q9pV (T := T) (N := N) (P := P) (J := J) (t0 := t0) (Sc := Sc) (op := 1027) (n := 1) (q9evS ae0) (q9evZ w0) (hV _ (List.mem_of_getElem? (i := 0) rfl)) (by decide)
  rw [q9FF_1027] at V0
  have K0 := q9chV_of V0
  try simp only [kz, k4, k59, k60] at K0
  have X0 := q9th_pX (T := T) (N := N) (P := P) (J := J) (t0 := t0) (Sc := Sc) (op := 1021) (q9evS ae0) (q9evZ w0) (q9evS ae6) (hX _ (List.mem_of_getElem? (i := 0) rfl)) (by decide)
  rw [q9FF_1021] at X0
  have H0 := q9chV_of X0
  try simp only [kz, k4, k59, k60] at H0
  have X1 := q9th_pX (T := T) (N := N) (P := P) (J := J) (t0 := t0) (Sc := Sc) (op := 1022) (q9evS ae0) (q9evZ w0) (q9evS ae5) (hX _ (List.mem_of_getElem? (i := 1) rfl)) (by decide)
  rw [q9FF_1022] at X1
  have H1 := q9chV_of X1
  try simp only [kz, k4, k59, k60] at H1
  have L0 : (0 : Int32).toInt ≤ x0.toInt + 0 := q9pC (q9evZ w0) (q9evS ae0) (hL _ (List.mem_of_getElem? (i := 0) rfl))
  have L1 : (0 : Int32).toInt ≤ x5.toInt + 0 := q9pC (q9evZ w0) (q9evS ae5) (hL _ (List.mem_of_getElem? (i := 1) rfl))
  have L2 : x5.toInt ≤ (Int32.ofInt 60).toInt + 0 := q9pC (q9evS ae5) (q9evC w0 60) (hL _ (List.mem_of_getElem? (i := 2) rfl))
  have L3 : (0 : Int32).toInt ≤ x6.toInt + 0 := q9pC (q9evZ w0) (q9evS ae6) (hL _ (List.mem_of_getElem? (i := 3) rfl))
  have L4 : x6.toInt ≤ (Int32.ofInt 4).toInt + 0 := q9pC (q9evS ae6) (q9evC w0 4) (hL _ (List.mem_of_getElem? (i := 4) rfl))
  have X2 := q9th_pX (T := T) (N := N) (P := P) (J := J) (t0 := t0) (Sc := Sc) (op := 1002) (q9evS ae0) (q9evZ w0) (q9evS ae1) (hX _ (List.mem_of_getElem? (i := 2) rfl)) (by decide)
  rw [q9FF_1002] at X2
  have H2 := Option.some.inj X2
  try simp only [kz, k4, k59, k60] at H2
  have V1 := q9pV (T := T) (N := N) (P := P) (J := J) (t0 := t0) (Sc := Sc) (op := 1013) (n := 4) (q9evS ae1) (q9evZ w0) (hV _ (List.mem_of_getElem? (i := 1) rfl)) (by decide)
  rw [q9FF_1013] at V1
  have K1 := Option.some.inj V1
  try simp only [kz, k4, k59, k60] at K1
  have X3 := q9th_pX (T := T) (N := N) (P := P) (J := J) (t0 := t0) (Sc := Sc) (op := 1003) (q9evS ae1) (q9evZ w0) (q9evS ae2) (hX _ (List.mem_of_getElem? (i := 3) rfl)) (by decide)
  rw [q9FF_1003] at X3
  have H3 := Option.some.inj X3
  try simp only [kz, k4, k59, k60] at H3
  have V2 := q9pV (T := T) (N := N) (P := P) (J := J) (t0 := t0) (Sc := Sc) (op := 1212) (n := 0) (q9evS ae2) (q9evZ w0) (hV _ (List.mem_of_getElem? (i := 2) rfl)) (by decide)
  rw [q9FF_1212] at V2
  have K2 := Option.some.inj V2
  try simp only [kz, k4, k59, k60] at K2
  have X4 := q9th_pX (T := T) (N := N) (P := P) (J := J) (t0 := t0) (Sc := Sc) (op := 1213) (q9evS ae2) (q9evZ w0) (q9evS ae3) (hX _ (List.mem_of_getElem? (i := 4) rfl)) (by decide)
  rw [q9FF_1213] at X4
  have H4 := Option.some.inj X4
  try simp only [kz, k4, k59, k60] at H4
  have X5 := q9th_pX (T := T) (N := N) (P := P) (J := J) (t0 := t0) (Sc := Sc) (op := 1002) (q9evS ae3) (q9evZ w0) (q9evS ae4) (hX _ (List.mem_of_getElem? (i := 5) rfl)) (by decide)
  rw [q9FF_1002] at X5
  have H5 := Option.some.inj X5
  try simp only [kz, k4, k59, k60] at H5
  have V3 := q9pV (T := T) (N := N) (P := P) (J := J) (t0 := t0) (Sc := Sc) (op := 1009) (n := 0) (q9evS ae4) (q9evC w0 59) (hV _ (List.mem_of_getElem? (i := 3) rfl)) (by decide)
  rw [q9FF_1009] at V3
  have K3 := Option.some.inj V3
  try simp only [kz, k4, k59, k60] at K3
  have L5 : x5.toInt ≤ (Int32.ofInt 59).toInt + 0 := q9pC (q9evS ae5) (q9evC w0 59) (hL _ (List.mem_of_getElem? (i := 5) rfl))
  obtain ⟨c, hv, hc, h8, h9, -⟩ := K0
  have hd : x6.toInt + 1 = c.2.2.length := q9th_at_of hv hc H0
  have hz : x5.toInt = c.2.1 := q9th_at_of hv hc H1
  have hb : q9spI T N c.1 = x1.toInt := by rw [hc]; exact H2
  obtain ⟨q, st, hst⟩ : ∃ q st, c.2.2 = q :: st := by
    cases hh : c.2.2 with
    | nil => exfalso; rw [hh, List.length_nil] at hd; omega
    | cons q st => exact ⟨q, st, rfl⟩
  have hl2 : c.2.2.length = st.length + 1 := by rw [hst, List.length_cons]
  have hk : q9kbI T N (q9spI T N c.1) = 4 := by rw [hb]; exact K1
  have hl : q9lkI T N c = 4 := by rw [q9lk_of h8 (by omega), hk]
  have he : q9weI T N x1.toInt = x2.toInt := H3
  have hr : q9rcI T N P J c = (0, x3.toInt) := by unfold q9rcI q9rsI; rw [hl, hb, he]; exact Prod.ext K2 H4
  have hs4 : q9spI T N x3.toInt = x4.toInt := H5
  have hn : q9th_nxI T N P J c = none := q9nx_no h8 (.inr ⟨by omega, by rw [hr]; show q9byI T N (q9spI T N x3.toInt) ≠ 59; rw [hs4]; exact q9is_0 K3 (by omega)⟩)
  have hre : q9th_reI T N P J c = (1, x4.toInt) := by unfold q9th_reI; rw [if_neg h8, if_neg (by omega), if_neg (by omega), if_neg (by omega), if_pos (by rw [hr]), hr]; show (1, q9spI T N x3.toInt) = _; rw [hs4]
  have rg0 : (1 : Int) ≤ 1 ∧ (1 : Int) ≤ 1 := by omega
  obtain ⟨x7, nt7⟩ : ∃ x : Int32, x.toInt = 1 := ⟨Int32.ofInt (1), q9oI_toInt (by omega)⟩
  have u_ : q9upN w 8 [.int x7] 0 = .int 0 := q9upN_of (by decide) w0
  have u0 : q9upN w 8 [.int x7] 1 = .int x0 := q9upN_of (by decide) ae0
  have u1 : q9upN w 8 [.int x7] 2 = .int x1 := q9upN_of (by decide) ae1
  have u2 : q9upN w 8 [.int x7] 3 = .int x2 := q9upN_of (by decide) ae2
  have u3 : q9upN w 8 [.int x7] 4 = .int x3 := q9upN_of (by decide) ae3
  have u4 : q9upN w 8 [.int x7] 5 = .int x4 := q9upN_of (by decide) ae4
  have u5 : q9upN w 8 [.int x7] 6 = .int x5 := q9upN_of (by decide) ae5
  have u6 : q9upN w 8 [.int x7] 7 = .int x6 := q9upN_of (by decide) ae6
  have u7 : q9upN w 8 [.int x7] 8 = .int x7 := q9upN_at (by decide)
  refine ⟨[.int x7], fun i9 p9 hq9 => ?_, List.forall_mem_cons.mpr ⟨?_, fun _ h => absurd h List.not_mem_nil⟩, fun _ h => absurd h List.not_mem_nil⟩
  · match i9, hq9 with
    | 0, hq9 =>
      have hp9 : ((1040, (0, 0), (0, 0), (0, 1, 1)) : Nat × q9AV × q9AV × q9ET) = p9 := Option.some.inj hq9
      subst hp9
      exact ⟨⟨x7, rfl, by rw [nt7]; exact rg0.1, by rw [nt7]; exact rg0.2⟩, (q9th_tX (T := T) (N := N) (P := P) (J := J) (t0 := t0) (Sc := Sc) (q9evZ u_) (q9evZ u_) (q9evS u7) (by rw [q9FF_1040, nt7]; exact (by rw [← q9FF_1040 (t0 := t0) (Sc := Sc) (a := (0 : Int32).toInt) (b := (0 : Int32).toInt)]; exact q9F_rsk hv hn (by rw [hre]))) (by decide)).trans (congrArg some (q9evS u7))⟩
    | k9 + 1, hq9 => exact nomatch (show (none : Option (Nat × q9AV × q9AV × q9ET)) = some p9 from hq9)
  · exact q9th_tX (T := T) (N := N) (P := P) (J := J) (t0 := t0) (Sc := Sc) (q9evZ u_) (q9evZ u_) (q9evS u4) (by rw [q9FF_1041]; exact (by rw [← q9FF_1041 (t0 := t0) (Sc := Sc) (a := (0 : Int32).toInt) (b := (0 : Int32).toInt)]; exact q9F_rsp hv hn (by rw [hre]; exact (by decide : (1 : Int) ≠ 0)) (by rw [hre]))) (by decide)
theorem q9ru_cl5 (hT : ∀ i, 0 ≤ T i ∧ T i ≤ 255) (hN : 0 ≤ N ∧ N ≤ 400) (hSc : 0 ≤ Sc 1 ∧ Sc 1 ≤ 400 → N = Sc 1) : q9ruOK (fO T N P J t0 Sc) q9R_cl5 := by
  intro w w0 hA hX hL hV hR
  obtain ⟨x0, ae0, -, -⟩ := hA 0 0 rfl
  obtain ⟨x1, ae1, -, -⟩ := hA 1 0 rfl
  obtain ⟨x2, ae2, -, -⟩ := hA 2 0 rfl
  obtain ⟨x3, ae3, -, -⟩ := hA 3 0 rfl
  obtain ⟨x4, ae4, -, -⟩ := hA 4 0 rfl
  obtain ⟨x5, ae5, -, -⟩ := hA 5 0 rfl
  obtain ⟨x6, ae6, -, -⟩ := hA 6 0 rfl
  obtain ⟨x7, ae7, -, -⟩ := hA 7 0 rfl
  obtain ⟨x8, ae8, -, -⟩ := hA 8 0 rfl
  obtain ⟨x9, ae9, -, -⟩ := hA 9 1 rfl
  obtain ⟨x10, ae10, -, -⟩ := hA 10 1 rfl
  have kz : (0 : Int32).toInt = 0 := rfl
  have k4 : (Int32.ofInt 4).toInt = 4 := q9oI_toInt (by decide)
  have k59 : (Int32.ofInt 59).toInt = 59 := q9oI_toInt (by decide)
  have k60 : (Int32.ofInt 60).toInt = 60 := q9oI_toInt (by decide)
  have V0 := q9pV (T := T) (N := N) (P := P) (J := J) (t0 := t0) (Sc := Sc) (op := 1027) (n := 1) (q9evS ae0) (q9evZ w0) (hV _ (List.mem_of_getElem? (i := 0) rfl)) (by decide)
  rw [q9FF_1027] at V0
  have K0 := q9chV_of V0
  try simp only [kz, k4, k59, k60] at K0
  have X0 := q9th_pX (T := T) (N := N) (P := P) (J := J) (t0 := t0) (Sc := Sc) (op := 1021) (q9evS ae0) (q9evZ w0) (q9evS ae8) (hX _ (List.mem_of_getElem? (i := 0) rfl)) (by decide)
  rw [q9FF_1021] at X0
  have H0 := q9chV_of X0
  try simp only [kz, k4, k59, k60] at H0
  have X1 := q9th_pX (T := T) (N := N) (P := P) (J := J) (t0 := t0) (Sc := Sc) (op := 1022) (q9evS ae0) (q9evZ w0) (q9evS ae6) (hX _ (List.mem_of_getElem? (i := 1) rfl)) (by decide)
  rw [q9FF_1022] at X1
  have H1 := q9chV_of X1
  try simp only [kz, k4, k59, k60] at H1
  have L0 : (0 : Int32).toInt ≤ x0.toInt + 0 := q9pC (q9evZ w0) (q9evS ae0) (hL _ (List.mem_of_getElem? (i := 0) rfl))
  have L1 : (0 : Int32).toInt ≤ x6.toInt + 0 := q9pC (q9evZ w0) (q9evS ae6) (hL _ (List.mem_of_getElem? (i := 1) rfl))
  have L2 : x6.toInt ≤ (Int32.ofInt 60).toInt + 0 := q9pC (q9evS ae6) (q9evC w0 60) (hL _ (List.mem_of_getElem? (i := 2) rfl))
  have L3 : (0 : Int32).toInt ≤ x8.toInt + 0 := q9pC (q9evZ w0) (q9evS ae8) (hL _ (List.mem_of_getElem? (i := 3) rfl))
  have L4 : x8.toInt ≤ (Int32.ofInt 4).toInt + 0 := q9pC (q9evS ae8) (q9evC w0 4) (hL _ (List.mem_of_getElem? (i := 4) rfl))
  have X2 := q9th_pX (T := T) (N := N) (P := P) (J := J) (t0 := t0) (Sc := Sc) (op := 1002) (q9evS ae0) (q9evZ w0) (q9evS ae1) (hX _ (List.mem_of_getElem? (i := 2) rfl)) (by decide)
  rw [q9FF_1002] at X2
  have H2 := Option.some.inj X2
  try simp only [kz, k4, k59, k60] at H2
  have V1 := q9pV (T := T) (N := N) (P := P) (J := J) (t0 := t0) (Sc := Sc) (op := 1013) (n := 5) (q9evS ae1) (q9evZ w0) (hV _ (List.mem_of_getElem? (i := 1) rfl)) (by decide)
  rw [q9FF_1013] at V1
  have K1 := Option.some.inj V1
  try simp only [kz, k4, k59, k60] at K1
  have X3 := q9th_pX (T := T) (N := N) (P := P) (J := J) (t0 := t0) (Sc := Sc) (op := 1003) (q9evS ae1) (q9evZ w0) (q9evS ae2) (hX _ (List.mem_of_getElem? (i := 3) rfl)) (by decide)
  rw [q9FF_1003] at X3
  have H3 := Option.some.inj X3
  try simp only [kz, k4, k59, k60] at H3
  have V2 := q9pV (T := T) (N := N) (P := P) (J := J) (t0 := t0) (Sc := Sc) (op := 1260) (n := 0) (q9evS ae2) (q9evZ w0) (hV _ (List.mem_of_getElem? (i := 2) rfl)) (by decide)
  rw [q9FF_1260] at V2
  have K2 := Option.some.inj V2
  try simp only [kz, k4, k59, k60] at K2
  have X4 := q9th_pX (T := T) (N := N) (P := P) (J := J) (t0 := t0) (Sc := Sc) (op := 1261) (q9evS ae2) (q9evZ w0) (q9evS ae3) (hX _ (List.mem_of_getElem? (i := 4) rfl)) (by decide)
  rw [q9FF_1261] at X4
  have H4 := Option.some.inj X4
  try simp only [kz, k4, k59, k60] at H4
  have X5 := q9th_pX (T := T) (N := N) (P := P) (J := J) (t0 := t0) (Sc := Sc) (op := 1002) (q9evS ae3) (q9evZ w0) (q9evS ae4) (hX _ (List.mem_of_getElem? (i := 5) rfl)) (by decide)
  rw [q9FF_1002] at X5
  have H5 := Option.some.inj X5
  try simp only [kz, k4, k59, k60] at H5
  have V3 := q9pV (T := T) (N := N) (P := P) (J := J) (t0 := t0) (Sc := Sc) (op := 1009) (n := 1) (q9evS ae4) (q9evC w0 59) (hV _ (List.mem_of_getElem? (i := 3) rfl)) (by decide)
  rw [q9FF_1009] at V3
  have K3 := Option.some.inj V3
  try simp only [kz, k4, k59, k60] at K3
  have L5 : x5.toInt ≤ x4.toInt + 1 := q9pC (q9evS ae5) (q9evS ae4) (hL _ (List.mem_of_getElem? (i := 5) rfl))
  have L6 : x4.toInt ≤ x5.toInt + (-1) := q9pC (q9evS ae4) (q9evS ae5) (hL _ (List.mem_of_getElem? (i := 6) rfl))
  have L7 : x6.toInt ≤ (Int32.ofInt 59).toInt + 0 := q9pC (q9evS ae6) (q9evC w0 59) (hL _ (List.mem_of_getElem? (i := 7) rfl))
  have L8 : x7.toInt ≤ x6.toInt + 1 := q9pC (q9evS ae7) (q9evS ae6) (hL _ (List.mem_of_getElem? (i := 8) rfl))
  have L9 : x6.toInt ≤ x7.toInt + (-1) := q9pC (q9evS ae6) (q9evS ae7) (hL _ (List.mem_of_getElem? (i := 9) rfl))
  have X6 := q9pL (T := T) (N := N) (P := P) (J := J) (t0 := t0) (Sc := Sc) (op := 1024) (q9evS ae0) (q9evS ae8) (q9evS ae9) (hX _ (List.mem_of_getElem? (i := 6) rfl)) (by decide)
  rw [q9FL_1024] at X6
  have H6 := q9chV_of X6
  try simp only [kz, k4, k59, k60] at H6
  have X7 := q9pL (T := T) (N := N) (P := P) (J := J) (t0 := t0) (Sc := Sc) (op := 1028) (q9evS ae0) (q9evZ w0) (q9evS ae10) (hX _ (List.mem_of_getElem? (i := 7) rfl)) (by decide)
  rw [q9FL_1028] at X7
  have H7 := q9chV_of X7
  try simp only [kz, k4, k59, k60] at H7
  obtain ⟨c, hv, hc, h8, h9, -⟩ := K0
  have hd : x8.toInt + 1 = c.2.2.length := q9th_at_of hv hc H0
  have hz : x6.toInt = c.2.1 := q9th_at_of hv hc H1
  have hb : q9spI T N c.1 = x1.toInt := by rw [hc]; exact H2
  obtain ⟨q, st, hst⟩ : ∃ q st, c.2.2 = q :: st := by
    cases hh : c.2.2 with
    | nil => exfalso; rw [hh, List.length_nil] at hd; omega
    | cons q st => exact ⟨q, st, rfl⟩
  have hl2 : c.2.2.length = st.length + 1 := by rw [hst, List.length_cons]
  have hk : q9kbI T N (q9spI T N c.1) = 5 := by rw [hb]; exact K1
  have hl : q9lkI T N c = 5 := by rw [q9lk_of h8 (by omega), hk]
  have he : q9weI T N x1.toInt = x2.toInt := H3
  have hr : q9rcI T N P J c = (0, x3.toInt) := by unfold q9rcI q9rsI; rw [hl, hb, he]; exact Prod.ext K2 H4
  have hok : q9okL T N P J c := ⟨by omega, by omega, by omega, fun h => by omega, by rw [hr]⟩
  have hs4 : q9spI T N x3.toInt = x4.toInt := H5
  have hn := q9nx_line hst (by omega) (by omega) (by omega) hr rfl (by rw [hs4]; exact q9is_1 K3 (by omega))
  generalize hg : ((q9spI T N ((0, x3.toInt) : q9TK2).2 + 1, c.2.1 + 1, (q.1, q.2.1, (if q9lkI T N c ≤ 1 then q.2.2.1 + Int64.ofInt (q9amI T N P J (q9lkI T N c) (q9weI T N (q9spI T N c.1))) else q.2.2.1), q.2.2.2 + 1) :: st) : q9CF9) = c' at hn
  have hv' := q9vis_next hv hn
  have hc' : c'.1 = x5.toInt := by rw [← hg]; show q9spI T N x3.toInt + 1 = _; omega
  have hst' : c'.2.2 = (q.1, q.2.1, (if q9lkI T N c ≤ 1 then q.2.2.1 + Int64.ofInt (q9amI T N P J (q9lkI T N c) (q9weI T N (q9spI T N c.1))) else q.2.2.1), q.2.2.2 + 1) :: st := by rw [← hg]
  have hd' : x8.toInt + 1 = c'.2.2.length := by rw [hst', List.length_cons]; omega
  have hz' : x7.toInt = c'.2.1 := by rw [← hg]; show _ = c.2.1 + 1; omega
  have hf : ∃ e, q9enI c x8.toInt = some e ∧ x9 = e.2.2.1 := q9th_at_of hv hc H6
  obtain ⟨q0, f1, f2⟩ := hf
  rw [q9en_top hst hd] at f1
  cases f1
  rw [if_neg (by omega), ← f2] at hst'
  have hg2 : ∃ q st, c.2.2 = q :: st ∧ x10 = q.2.2.2 + 1 := q9th_at_of hv hc H7
  obtain ⟨q1, st1, g1, g2⟩ := hg2
  rw [hst] at g1
  cases g1
  rw [← g2] at hst'
  have rg0 : (1 : Int) ≤ 1 ∧ (1 : Int) ≤ 1 := by omega
  obtain ⟨x11, nt11⟩ : ∃ x : Int32, x.toInt = 1 := ⟨Int32.ofInt (1), q9oI_toInt (by omega)⟩
  have rg1 : (5 : Int) ≤ 5 ∧ (5 : Int) ≤ 5 := by omega
  obtain ⟨x12, nt12⟩ : ∃ x : Int32, x.toInt = 5 := ⟨Int32.ofInt (5), q9oI_toInt (by omega)⟩
  have u_ : q9upN w 12 [.int x11, .int x12] 0 = .int 0 := q9upN_of (by decide) w0
  have u0 : q9upN w 12 [.int x11, .int x12] 1 = .int x0 := q9upN_of (by decide) ae0
  have u1 : q9upN w 12 [.int x11, .int x12] 2 = .int x1 := q9upN_of (by decide) ae1
  have u2 : q9upN w 12 [.int x11, .int x12] 3 = .int x2 := q9upN_of (by decide) ae2
  have u3 : q9upN w 12 [.int x11, .int x12] 4 = .int x3 := q9upN_of (by decide) ae3
  have u4 : q9upN w 12 [.int x11, .int x12] 5 = .int x4 := q9upN_of (by decide) ae4
  have u5 : q9upN w 12 [.int x11, .int x12] 6 = .int x5 := q9upN_of (by decide) ae5
  have u6 : q9upN w 12 [.int x11, .int x12] 7 = .int x6 := q9upN_of (by decide) ae6
  have u7 : q9upN w 12 [.int x11, .int x12] 8 = .int x7 := q9upN_of (by decide) ae7
  have u8 : q9upN w 12 [.int x11, .int x12] 9 = .int x8 := q9upN_of (by decide) ae8
  have u9 : q9upN w 12 [.int x11, .int x12] 10 = .long x9 := q9upN_of (by decide) ae9
  have u10 : q9upN w 12 [.int x11, .int x12] 11 = .long x10 := q9upN_of (by decide) ae10
  have u11 : q9upN w 12 [.int x11, .int x12] 12 = .int x11 := q9upN_at (by decide)
  have u12 : q9upN w 12 [.int x11, .int x12] 13 = .int x12 := q9upN_at (by decide)
  refine ⟨[.int x11, .int x12], fun i9 p9 hq9 => ?_, List.forall_mem_cons.mpr ⟨?_, List.forall_mem_cons.mpr ⟨?_, List.forall_mem_cons.mpr ⟨?_, List.forall_mem_cons.mpr ⟨?_, List.forall_mem_cons.mpr ⟨?_, fun _ h => absurd h List.not_mem_nil⟩⟩⟩⟩⟩, List.forall_mem_cons.mpr ⟨?_, fun _ h => absurd h List.not_mem_nil⟩⟩
  · match i9, hq9 with
    | 0, hq9 =>
      have hp9 : ((1020, (6, 0), (0, 0), (0, 1, 1)) : Nat × q9AV × q9AV × q9ET) = p9 := Option.some.inj hq9
      subst hp9
      exact ⟨⟨x11, rfl, by rw [nt11]; exact rg0.1, by rw [nt11]; exact rg0.2⟩, (q9th_tX (T := T) (N := N) (P := P) (J := J) (t0 := t0) (Sc := Sc) (q9evS u5) (q9evZ u_) (q9evS u11) (by rw [q9FF_1020, nt11]; exact (by rw [← q9FF_1020 (t0 := t0) (Sc := Sc) (b := (0 : Int32).toInt)]; exact q9F_vis hv' hc')) (by decide)).trans (congrArg some (q9evS u11))⟩
    | 1, hq9 =>
      have hp9 : ((1050, (7, 0), (0, 0), (0, 5, 5)) : Nat × q9AV × q9AV × q9ET) = p9 := Option.some.inj hq9
      subst hp9
      exact ⟨⟨x12, rfl, by rw [nt12]; exact rg1.1, by rw [nt12]; exact rg1.2⟩, (q9th_tX (T := T) (N := N) (P := P) (J := J) (t0 := t0) (Sc := Sc) (q9evS u6) (q9evZ u_) (q9evS u12) (by rw [q9FF_1050, nt12]; exact (by rw [← q9FF_1050 (t0 := t0) (Sc := Sc) (b := (0 : Int32).toInt)]; exact q9F_kd hv hok hz.symm hl.symm)) (by decide)).trans (congrArg some (q9evS u12))⟩
    | k9 + 2, hq9 => exact nomatch (show (none : Option (Nat × q9AV × q9AV × q9ET)) = some p9 from hq9)
  · exact q9th_tX (T := T) (N := N) (P := P) (J := J) (t0 := t0) (Sc := Sc) (q9evS u5) (q9evZ u_) (q9evS u8) (by rw [q9FF_1021]; exact (by rw [← q9FF_1021 (t0 := t0) (Sc := Sc) (b := (0 : Int32).toInt)]; exact q9F_dp hv' hc' hd')) (by decide)
  · exact q9th_tX (T := T) (N := N) (P := P) (J := J) (t0 := t0) (Sc := Sc) (q9evS u5) (q9evZ u_) (q9evS u7) (by rw [q9FF_1022]; exact (by rw [← q9FF_1022 (t0 := t0) (Sc := Sc) (b := (0 : Int32).toInt)]; exact q9F_sz hv' hc' hz')) (by decide)
  · exact q9th_tX (T := T) (N := N) (P := P) (J := J) (t0 := t0) (Sc := Sc) (q9evS u5) (q9evZ u_) (q9evS u0) (by rw [q9FF_1026]; exact (by rw [← q9FF_1026 (t0 := t0) (Sc := Sc) (b := (0 : Int32).toInt)]; exact q9F_prv hv hn hc' hc.symm)) (by decide)
  · exact q9th_tL (T := T) (N := N) (P := P) (J := J) (t0 := t0) (Sc := Sc) (q9evS u5) (q9evS u8) (q9evS u9) (by rw [q9FL_1024]; exact (by rw [← q9FL_1024 (b := x8.toInt)]; exact q9G_frv hv' hc' (q9en_top hst' hd') rfl)) (by decide)
  · exact q9th_tL (T := T) (N := N) (P := P) (J := J) (t0 := t0) (Sc := Sc) (q9evS u5) (q9evS u8) (q9evS u10) (by rw [q9FL_1025]; exact (by rw [← q9FL_1025 (b := x8.toInt)]; exact q9G_dnv hv' hc' (q9en_top hst' hd') rfl)) (by decide)
  · exact q9th_tC (d := (-1)) (q9evS u0) (q9evS u5) (by have := q9nx_pos hn; omega)
theorem q9ru_ln5 (hT : ∀ i, 0 ≤ T i ∧ T i ≤ 255) (hN : 0 ≤ N ∧ N ≤ 400) (hSc : 0 ≤ Sc 1 ∧ Sc 1 ≤ 400 → N = Sc 1) : q9ruOK (fO T N P J t0 Sc) q9R_ln5 := by
  intro w w0 hA hX hL hV hR
  obtain ⟨x0, ae0, -, -⟩ := hA 0 0 rfl
  obtain ⟨x1, ae1, -, -⟩ := hA 1 0 rfl
  obtain ⟨x2, ae2, -, -⟩ := hA 2 0 rfl
  obtain ⟨x3, ae3, -, -⟩ := hA 3 0 rfl
  obtain ⟨x4, ae4, -, -⟩ := hA 4 0 rfl
  obtain ⟨x5, ae5, -, -⟩ := hA 5 0 rfl
  have kz : (0 : Int32).toInt = 0 := rfl
  have k4 : (Int32.ofInt 4).toInt = 4 := q9oI_toInt (by decide)
  have k59 : (Int32.ofInt 59).toInt = 59 := q9oI_toInt (by decide)
  have k60 : (Int32.ofInt 60).toInt = 60 := q9oI_toInt (by decide)
  have V0 := q9pV (T := T) (N := N) (P := P) (J := J) (t0 := t0) (Sc := Sc) (op := 1027) (n := 1) (q9evS ae0) (q9evZ w0) (hV _ (List.mem_of_getElem? (i := 0) rfl)) (by decide)
  rw [q9FF_1027] at V0
  have K0 := q9chV_of V0
  try simp only [kz, k4, k59, k60] at K0
  have X0 := q9th_pX (T := T) (N := N) (P := P) (J := J) (t0 := t0) (Sc := Sc) (op := 1021) (q9evS ae0) (q9evZ w0) (q9evS ae5) (hX _ (List.mem_of_getElem? (i := 0) rfl)) (by decide)
  rw [q9FF_1021] at X0
  have H0 := q9chV_of X0
  try simp only [kz, k4, k59, k60] at H0
  have X1 := q9th_pX (T := T) (N := N) (P := P) (J := J) (t0 := t0) (Sc := Sc) (op := 1022) (q9evS ae0) (q9evZ w0) (q9evS ae4) (hX _ (List.mem_of_getElem? (i := 1) rfl)) (by decide)
  rw [q9FF_1022] at X1
  have H1 := q9chV_of X1
  try simp only [kz, k4, k59, k60] at H1
  have L0 : (0 : Int32).toInt ≤ x0.toInt + 0 := q9pC (q9evZ w0) (q9evS ae0) (hL _ (List.mem_of_getElem? (i := 0) rfl))
  have L1 : (0 : Int32).toInt ≤ x4.toInt + 0 := q9pC (q9evZ w0) (q9evS ae4) (hL _ (List.mem_of_getElem? (i := 1) rfl))
  have L2 : x4.toInt ≤ (Int32.ofInt 60).toInt + 0 := q9pC (q9evS ae4) (q9evC w0 60) (hL _ (List.mem_of_getElem? (i := 2) rfl))
  have L3 : (0 : Int32).toInt ≤ x5.toInt + 0 := q9pC (q9evZ w0) (q9evS ae5) (hL _ (List.mem_of_getElem? (i := 3) rfl))
  have L4 : x5.toInt ≤ (Int32.ofInt 4).toInt + 0 := q9pC (q9evS ae5) (q9evC w0 4) (hL _ (List.mem_of_getElem? (i := 4) rfl))
  have X2 := q9th_pX (T := T) (N := N) (P := P) (J := J) (t0 := t0) (Sc := Sc) (op := 1002) (q9evS ae0) (q9evZ w0) (q9evS ae1) (hX _ (List.mem_of_getElem? (i := 2) rfl)) (by decide)
  rw [q9FF_1002] at X2
  have H2 := Option.some.inj X2
  try simp only [kz, k4, k59, k60] at H2
  have V1 := q9pV (T := T) (N := N) (P := P) (J := J) (t0 := t0) (Sc := Sc) (op := 1013) (n := 5) (q9evS ae1) (q9evZ w0) (hV _ (List.mem_of_getElem? (i := 1) rfl)) (by decide)
  rw [q9FF_1013] at V1
  have K1 := Option.some.inj V1
  try simp only [kz, k4, k59, k60] at K1
  have X3 := q9th_pX (T := T) (N := N) (P := P) (J := J) (t0 := t0) (Sc := Sc) (op := 1003) (q9evS ae1) (q9evZ w0) (q9evS ae2) (hX _ (List.mem_of_getElem? (i := 3) rfl)) (by decide)
  rw [q9FF_1003] at X3
  have H3 := Option.some.inj X3
  try simp only [kz, k4, k59, k60] at H3
  have V2 := q9pV (T := T) (N := N) (P := P) (J := J) (t0 := t0) (Sc := Sc) (op := 1260) (n := 0) (q9evS ae2) (q9evZ w0) (hV _ (List.mem_of_getElem? (i := 2) rfl)) (by decide)
  rw [q9FF_1260] at V2
  have K2 := Option.some.inj V2
  try simp only [kz, k4, k59, k60] at K2
  have X4 := q9th_pX (T := T) (N := N) (P := P) (J := J) (t0 := t0) (Sc := Sc) (op := 1261) (q9evS ae2) (q9evZ w0) (q9evS ae3) (hX _ (List.mem_of_getElem? (i := 4) rfl)) (by decide)
  rw [q9FF_1261] at X4
  have H4 := Option.some.inj X4
  try simp only [kz, k4, k59, k60] at H4
  have L5 : x4.toInt ≤ (Int32.ofInt 59).toInt + 0 := q9pC (q9evS ae4) (q9evC w0 59) (hL _ (List.mem_of_getElem? (i := 5) rfl))
  obtain ⟨c, hv, hc, h8, h9, -⟩ := K0
  have hd : x5.toInt + 1 = c.2.2.length := q9th_at_of hv hc H0
  have hz : x4.toInt = c.2.1 := q9th_at_of hv hc H1
  have hb : q9spI T N c.1 = x1.toInt := by rw [hc]; exact H2
  obtain ⟨q, st, hst⟩ : ∃ q st, c.2.2 = q :: st := by
    cases hh : c.2.2 with
    | nil => exfalso; rw [hh, List.length_nil] at hd; omega
    | cons q st => exact ⟨q, st, rfl⟩
  have hl2 : c.2.2.length = st.length + 1 := by rw [hst, List.length_cons]
  have hk : q9kbI T N (q9spI T N c.1) = 5 := by rw [hb]; exact K1
  have hl : q9lkI T N c = 5 := by rw [q9lk_of h8 (by omega), hk]
  have he : q9weI T N x1.toInt = x2.toInt := H3
  have hr : q9rcI T N P J c = (0, x3.toInt) := by unfold q9rcI q9rsI; rw [hl, hb, he]; exact Prod.ext K2 H4
  have hok : q9okL T N P J c := ⟨by omega, by omega, by omega, fun h => by omega, by rw [hr]⟩
  have hp : q9prI T N P J c x3.toInt := ⟨hv, .inl ⟨hok, by omega, by rw [hr]⟩⟩
  have hen : q9enE T N P J x4.toInt (x4.toInt + 1) := .inl ⟨c, hv, hok, hz.symm, by omega, rfl⟩
  have ham : (0 : Int) = q9amI T N P J (q9lkI T N c) (q9weI T N (q9spI T N c.1)) := by rw [hl]; rfl
  have rg0 : (1 : Int) ≤ 1 ∧ (1 : Int) ≤ 1 := by omega
  obtain ⟨x6, nt6⟩ : ∃ x : Int32, x.toInt = 1 := ⟨Int32.ofInt (1), q9oI_toInt (by omega)⟩
  have rg1 : (5 : Int) ≤ 5 ∧ (5 : Int) ≤ 5 := by omega
  obtain ⟨x7, nt7⟩ : ∃ x : Int32, x.toInt = 5 := ⟨Int32.ofInt (5), q9oI_toInt (by omega)⟩
  have rg2 : (1 : Int) ≤ (x4.toInt + 1) ∧ ((x4.toInt + 1) : Int) ≤ 60 := by omega
  obtain ⟨x8, nt8⟩ : ∃ x : Int32, x.toInt = (x4.toInt + 1) := ⟨Int32.ofInt ((x4.toInt + 1)), q9oI_toInt (by omega)⟩
  have rg3 : (1 : Int) ≤ (x4.toInt + 1) ∧ ((x4.toInt + 1) : Int) ≤ 60 := by omega
  obtain ⟨x9, nt9⟩ : ∃ x : Int32, x.toInt = (x4.toInt + 1) := ⟨Int32.ofInt ((x4.toInt + 1)), q9oI_toInt (by omega)⟩
  have rg4 : (0 : Int) ≤ 0 ∧ (0 : Int) ≤ 0 := by omega
  obtain ⟨x10, nt10⟩ : ∃ x : Int32, x.toInt = 0 := ⟨Int32.ofInt (0), q9oI_toInt (by omega)⟩
  have u_ : q9upN w 7 [.int x6, .int x7, .int x8, .int x9, .int x10] 0 = .int 0 := q9upN_of (by decide) w0
  have u0 : q9upN w 7 [.int x6, .int x7, .int x8, .int x9, .int x10] 1 = .int x0 := q9upN_of (by decide) ae0
  have u1 : q9upN w 7 [.int x6, .int x7, .int x8, .int x9, .int x10] 2 = .int x1 := q9upN_of (by decide) ae1
  have u2 : q9upN w 7 [.int x6, .int x7, .int x8, .int x9, .int x10] 3 = .int x2 := q9upN_of (by decide) ae2
  have u3 : q9upN w 7 [.int x6, .int x7, .int x8, .int x9, .int x10] 4 = .int x3 := q9upN_of (by decide) ae3
  have u4 : q9upN w 7 [.int x6, .int x7, .int x8, .int x9, .int x10] 5 = .int x4 := q9upN_of (by decide) ae4
  have u5 : q9upN w 7 [.int x6, .int x7, .int x8, .int x9, .int x10] 6 = .int x5 := q9upN_of (by decide) ae5
  have u6 : q9upN w 7 [.int x6, .int x7, .int x8, .int x9, .int x10] 7 = .int x6 := q9upN_at (by decide)
  have u7 : q9upN w 7 [.int x6, .int x7, .int x8, .int x9, .int x10] 8 = .int x7 := q9upN_at (by decide)
  have u8 : q9upN w 7 [.int x6, .int x7, .int x8, .int x9, .int x10] 9 = .int x8 := q9upN_at (by decide)
  have u9 : q9upN w 7 [.int x6, .int x7, .int x8, .int x9, .int x10] 10 = .int x9 := q9upN_at (by decide)
  have u10 : q9upN w 7 [.int x6, .int x7, .int x8, .int x9, .int x10] 11 = .int x10 := q9upN_at (by decide)
  refine ⟨[.int x6, .int x7, .int x8, .int x9, .int x10], fun i9 p9 hq9 => ?_, List.forall_mem_cons.mpr ⟨?_, List.forall_mem_cons.mpr ⟨?_, fun _ h => absurd h List.not_mem_nil⟩⟩, List.forall_mem_cons.mpr ⟨?_, List.forall_mem_cons.mpr ⟨?_, List.forall_mem_cons.mpr ⟨?_, List.forall_mem_cons.mpr ⟨?_, List.forall_mem_cons.mpr ⟨?_, fun _ h => absurd h List.not_mem_nil⟩⟩⟩⟩⟩⟩
  · match i9, hq9 with
    | 0, hq9 =>
      have hp9 : ((1030, (4, 0), (0, 0), (0, 1, 1)) : Nat × q9AV × q9AV × q9ET) = p9 := Option.some.inj hq9
      subst hp9
      exact ⟨⟨x6, rfl, by rw [nt6]; exact rg0.1, by rw [nt6]; exact rg0.2⟩, (q9th_tX (T := T) (N := N) (P := P) (J := J) (t0 := t0) (Sc := Sc) (q9evS u3) (q9evZ u_) (q9evS u6) (by rw [q9FF_1030, nt6]; exact (by rw [← q9FF_1030 (t0 := t0) (Sc := Sc) (b := (0 : Int32).toInt)]; exact q9F_pvs hp)) (by decide)).trans (congrArg some (q9evS u6))⟩
    | 1, hq9 =>
      have hp9 : ((1050, (5, 0), (0, 0), (0, 5, 5)) : Nat × q9AV × q9AV × q9ET) = p9 := Option.some.inj hq9
      subst hp9
      exact ⟨⟨x7, rfl, by rw [nt7]; exact rg1.1, by rw [nt7]; exact rg1.2⟩, (q9th_tX (T := T) (N := N) (P := P) (J := J) (t0 := t0) (Sc := Sc) (q9evS u4) (q9evZ u_) (q9evS u7) (by rw [q9FF_1050, nt7]; exact (by rw [← q9FF_1050 (t0 := t0) (Sc := Sc) (b := (0 : Int32).toInt)]; exact q9F_kd hv hok hz.symm hl.symm)) (by decide)).trans (congrArg some (q9evS u7))⟩
    | 2, hq9 =>
      have hp9 : ((1032, (4, 0), (0, 0), (0, 1, 60)) : Nat × q9AV × q9AV × q9ET) = p9 := Option.some.inj hq9
      subst hp9
      exact ⟨⟨x8, rfl, by rw [nt8]; exact rg2.1, by rw [nt8]; exact rg2.2⟩, (q9th_tX (T := T) (N := N) (P := P) (J := J) (t0 := t0) (Sc := Sc) (q9evS u3) (q9evZ u_) (q9evS u8) (by rw [q9FF_1032, nt8]; exact (by rw [← q9FF_1032 (t0 := t0) (Sc := Sc) (b := (0 : Int32).toInt)]; exact q9F_psz hp (by rw [if_neg (by omega)]; omega))) (by decide)).trans (congrArg some (q9evS u8))⟩
    | 3, hq9 =>
      have hp9 : ((1052, (5, 0), (0, 0), (0, 1, 60)) : Nat × q9AV × q9AV × q9ET) = p9 := Option.some.inj hq9
      subst hp9
      exact ⟨⟨x9, rfl, by rw [nt9]; exact rg3.1, by rw [nt9]; exact rg3.2⟩, (q9th_tX (T := T) (N := N) (P := P) (J := J) (t0 := t0) (Sc := Sc) (q9evS u4) (q9evZ u_) (q9evS u9) (by rw [q9FF_1052, nt9]; exact (by rw [← q9FF_1052 (t0 := t0) (Sc := Sc) (b := (0 : Int32).toInt)]; exact q9F_en hN.1 hen)) (by decide)).trans (congrArg some (q9evS u9))⟩
    | 4, hq9 =>
      have hp9 : ((1051, (5, 0), (0, 0), (0, 0, 0)) : Nat × q9AV × q9AV × q9ET) = p9 := Option.some.inj hq9
      subst hp9
      exact ⟨⟨x10, rfl, by rw [nt10]; exact rg4.1, by rw [nt10]; exact rg4.2⟩, (q9th_tX (T := T) (N := N) (P := P) (J := J) (t0 := t0) (Sc := Sc) (q9evS u4) (q9evZ u_) (q9evS u10) (by rw [q9FF_1051, nt10]; exact (by rw [← q9FF_1051 (t0 := t0) (Sc := Sc) (b := (0 : Int32).toInt)]; exact q9F_mn hv hok hz.symm ham)) (by decide)).trans (congrArg some (q9evS u10))⟩
    | k9 + 5, hq9 => exact nomatch (show (none : Option (Nat × q9AV × q9AV × q9ET)) = some p9 from hq9)
  · exact q9th_tX (T := T) (N := N) (P := P) (J := J) (t0 := t0) (Sc := Sc) (q9evS u3) (q9evZ u_) (q9evS u5) (by rw [q9FF_1031]; exact (by rw [← q9FF_1031 (t0 := t0) (Sc := Sc) (b := (0 : Int32).toInt)]; exact q9F_pdp hp (by rw [if_neg (by omega)]; omega))) (by decide)
  · exact q9th_tX (T := T) (N := N) (P := P) (J := J) (t0 := t0) (Sc := Sc) (q9evS u3) (q9evZ u_) (q9evS u0) (by rw [q9FF_1034]; exact (by rw [← q9FF_1034 (t0 := t0) (Sc := Sc) (b := (0 : Int32).toInt)]; exact q9F_plk hp hst (by rw [if_neg (by omega)]; exact hc.symm))) (by decide)
  · exact q9th_tC (d := (-1)) (q9evS u0) (q9evS u3) (by have := q9pr_gt hp; omega)
  · exact q9th_tC (d := 1) (q9evS u8) (q9evS u4) (by omega)
  · exact q9th_tC (d := (-1)) (q9evS u4) (q9evS u8) (by omega)
  · exact q9th_tC (d := 1) (q9evS u9) (q9evS u4) (by omega)
  · exact q9th_tC (d := (-1)) (q9evS u4) (q9evS u9) (by omega)
theorem q9ru_cfs5 (hT : ∀ i, 0 ≤ T i ∧ T i ≤ 255) (hN : 0 ≤ N ∧ N ≤ 400) (hSc : 0 ≤ Sc 1 ∧ Sc 1 ≤ 400 → N = Sc 1) : q9ruOK (fO T N P J t0 Sc) q9R_cfs5 := by
  intro w w0 hA hX hL hV hR
  obtain ⟨x0, ae0, -, -⟩ := hA 0 0 rfl
  obtain ⟨x1, ae1, -, -⟩ := hA 1 0 rfl
  obtain ⟨x2, ae2, -, -⟩ := hA 2 0 rfl
  obtain ⟨x3, ae3, -, -⟩ := hA 3 0 rfl
  obtain ⟨x4, ae4, -, -⟩ := hA 4 0 rfl
  obtain ⟨x5, ae5, -, -⟩ := hA 5 0 rfl
  obtain ⟨x6, ae6, -, -⟩ := hA 6 0 rfl
  have kz : (0 : Int32).toInt = 0 := rfl
  have k4 : (Int32.ofInt 4).toInt = 4 := q9oI_toInt (by decide)
  have k59 : (Int32.ofInt 59).toInt = 59 := q9oI_toInt (by decide)
  have k60 : (Int32.ofInt 60).toInt = 60 := q9oI_toInt (by decide)
  have V0 := q9pV (T := T) (N := N) (P := P) (J := J) (t0 := t0) (Sc := Sc) (op := 1027) (n := 1) (q9evS ae0) (q9evZ w0) (hV _ (List.mem_of_getElem? (i := 0) rfl)) (by decide)
  rw [q9FF_1027] at V0
  have K0 := q9chV_of V0
  try simp only [kz, k4, k59, k60] at K0
  have X0 := q9th_pX (T := T) (N := N) (P := P) (J := J) (t0 := t0) (Sc := Sc) (op := 1021) (q9evS ae0) (q9evZ w0) (q9evS ae6) (hX _ (List.mem_of_getElem? (i := 0) rfl)) (by decide)
  rw [q9FF_1021] at X0
  have H0 := q9chV_of X0
  try simp only [kz, k4, k59, k60] at H0
  have X1 := q9th_pX (T := T) (N := N) (P := P) (J := J) (t0 := t0) (Sc := Sc) (op := 1022) (q9evS ae0) (q9evZ w0) (q9evS ae5) (hX _ (List.mem_of_getElem? (i := 1) rfl)) (by decide)
  rw [q9FF_1022] at X1
  have H1 := q9chV_of X1
  try simp only [kz, k4, k59, k60] at H1
  have L0 : (0 : Int32).toInt ≤ x0.toInt + 0 := q9pC (q9evZ w0) (q9evS ae0) (hL _ (List.mem_of_getElem? (i := 0) rfl))
  have L1 : (0 : Int32).toInt ≤ x5.toInt + 0 := q9pC (q9evZ w0) (q9evS ae5) (hL _ (List.mem_of_getElem? (i := 1) rfl))
  have L2 : x5.toInt ≤ (Int32.ofInt 60).toInt + 0 := q9pC (q9evS ae5) (q9evC w0 60) (hL _ (List.mem_of_getElem? (i := 2) rfl))
  have L3 : (0 : Int32).toInt ≤ x6.toInt + 0 := q9pC (q9evZ w0) (q9evS ae6) (hL _ (List.mem_of_getElem? (i := 3) rfl))
  have L4 : x6.toInt ≤ (Int32.ofInt 4).toInt + 0 := q9pC (q9evS ae6) (q9evC w0 4) (hL _ (List.mem_of_getElem? (i := 4) rfl))
  have X2 := q9th_pX (T := T) (N := N) (P := P) (J := J) (t0 := t0) (Sc := Sc) (op := 1002) (q9evS ae0) (q9evZ w0) (q9evS ae1) (hX _ (List.mem_of_getElem? (i := 2) rfl)) (by decide)
  rw [q9FF_1002] at X2
  have H2 := Option.some.inj X2
  try simp only [kz, k4, k59, k60] at H2
  have V1 := q9pV (T := T) (N := N) (P := P) (J := J) (t0 := t0) (Sc := Sc) (op := 1013) (n := 5) (q9evS ae1) (q9evZ w0) (hV _ (List.mem_of_getElem? (i := 1) rfl)) (by decide)
  rw [q9FF_1013] at V1
  have K1 := Option.some.inj V1
  try simp only [kz, k4, k59, k60] at K1
  have X3 := q9th_pX (T := T) (N := N) (P := P) (J := J) (t0 := t0) (Sc := Sc) (op := 1003) (q9evS ae1) (q9evZ w0) (q9evS ae2) (hX _ (List.mem_of_getElem? (i := 3) rfl)) (by decide)
  rw [q9FF_1003] at X3
  have H3 := Option.some.inj X3
  try simp only [kz, k4, k59, k60] at H3
  have V2 := q9pV (T := T) (N := N) (P := P) (J := J) (t0 := t0) (Sc := Sc) (op := 1260) (n := 0) (q9evS ae2) (q9evZ w0) (hV _ (List.mem_of_getElem? (i := 2) rfl)) (by decide)
  rw [q9FF_1260] at V2
  have K2 := Option.some.inj V2
  try simp only [kz, k4, k59, k60] at K2
  have X4 := q9th_pX (T := T) (N := N) (P := P) (J := J) (t0 := t0) (Sc := Sc) (op := 1261) (q9evS ae2) (q9evZ w0) (q9evS ae3) (hX _ (List.mem_of_getElem? (i := 4) rfl)) (by decide)
  rw [q9FF_1261] at X4
  have H4 := Option.some.inj X4
  try simp only [kz, k4, k59, k60] at H4
  have X5 := q9th_pX (T := T) (N := N) (P := P) (J := J) (t0 := t0) (Sc := Sc) (op := 1002) (q9evS ae3) (q9evZ w0) (q9evS ae4) (hX _ (List.mem_of_getElem? (i := 5) rfl)) (by decide)
  rw [q9FF_1002] at X5
  have H5 := Option.some.inj X5
  try simp only [kz, k4, k59, k60] at H5
  have V3 := q9pV (T := T) (N := N) (P := P) (J := J) (t0 := t0) (Sc := Sc) (op := 1009) (n := 0) (q9evS ae4) (q9evC w0 59) (hV _ (List.mem_of_getElem? (i := 3) rfl)) (by decide)
  rw [q9FF_1009] at V3
  have K3 := Option.some.inj V3
  try simp only [kz, k4, k59, k60] at K3
  have L5 : x5.toInt ≤ (Int32.ofInt 59).toInt + 0 := q9pC (q9evS ae5) (q9evC w0 59) (hL _ (List.mem_of_getElem? (i := 5) rfl))
  obtain ⟨c, hv, hc, h8, h9, -⟩ := K0
  have hd : x6.toInt + 1 = c.2.2.length := q9th_at_of hv hc H0
  have hz : x5.toInt = c.2.1 := q9th_at_of hv hc H1
  have hb : q9spI T N c.1 = x1.toInt := by rw [hc]; exact H2
  obtain ⟨q, st, hst⟩ : ∃ q st, c.2.2 = q :: st := by
    cases hh : c.2.2 with
    | nil => exfalso; rw [hh, List.length_nil] at hd; omega
    | cons q st => exact ⟨q, st, rfl⟩
  have hl2 : c.2.2.length = st.length + 1 := by rw [hst, List.length_cons]
  have hk : q9kbI T N (q9spI T N c.1) = 5 := by rw [hb]; exact K1
  have hl : q9lkI T N c = 5 := by rw [q9lk_of h8 (by omega), hk]
  have he : q9weI T N x1.toInt = x2.toInt := H3
  have hr : q9rcI T N P J c = (0, x3.toInt) := by unfold q9rcI q9rsI; rw [hl, hb, he]; exact Prod.ext K2 H4
  have hs4 : q9spI T N x3.toInt = x4.toInt := H5
  have hn : q9th_nxI T N P J c = none := q9nx_no h8 (.inr ⟨by omega, by rw [hr]; show q9byI T N (q9spI T N x3.toInt) ≠ 59; rw [hs4]; exact q9is_0 K3 (by omega)⟩)
  have hre : q9th_reI T N P J c = (1, x4.toInt) := by unfold q9th_reI; rw [if_neg h8, if_neg (by omega), if_neg (by omega), if_neg (by omega), if_pos (by rw [hr]), hr]; show (1, q9spI T N x3.toInt) = _; rw [hs4]
  have rg0 : (1 : Int) ≤ 1 ∧ (1 : Int) ≤ 1 := by omega
  obtain ⟨x7, nt7⟩ : ∃ x : Int32, x.toInt = 1 := ⟨Int32.ofInt (1), q9oI_toInt (by omega)⟩
  have u_ : q9upN w 8 [.int x7] 0 = .int 0 := q9upN_of (by decide) w0
  have u0 : q9upN w 8 [.int x7] 1 = .int x0 := q9upN_of (by decide) ae0
  have u1 : q9upN w 8 [.int x7] 2 = .int x1 := q9upN_of (by decide) ae1
  have u2 : q9upN w 8 [.int x7] 3 = .int x2 := q9upN_of (by decide) ae2
  have u3 : q9upN w 8 [.int x7] 4 = .int x3 := q9upN_of (by decide) ae3
  have u4 : q9upN w 8 [.int x7] 5 = .int x4 := q9upN_of (by decide) ae4
  have u5 : q9upN w 8 [.int x7] 6 = .int x5 := q9upN_of (by decide) ae5
  have u6 : q9upN w 8 [.int x7] 7 = .int x6 := q9upN_of (by decide) ae6
  have u7 : q9upN w 8 [.int x7] 8 = .int x7 := q9upN_at (by decide)
  refine ⟨[.int x7], fun i9 p9 hq9 => ?_, List.forall_mem_cons.mpr ⟨?_, fun _ h => absurd h List.not_mem_nil⟩, fun _ h => absurd h List.not_mem_nil⟩
  · match i9, hq9 with
    | 0, hq9 =>
      have hp9 : ((1040, (0, 0), (0, 0), (0, 1, 1)) : Nat × q9AV × q9AV × q9ET) = p9 := Option.some.inj hq9
      subst hp9
      exact ⟨⟨x7, rfl, by rw [nt7]; exact rg0.1, by rw [nt7]; exact rg0.2⟩, (q9th_tX (T := T) (N := N) (P := P) (J := J) (t0 := t0) (Sc := Sc) (q9evZ u_) (q9evZ u_) (q9evS u7) (by rw [q9FF_1040, nt7]; exact (by rw [← q9FF_1040 (t0 := t0) (Sc := Sc) (a := (0 : Int32).toInt) (b := (0 : Int32).toInt)]; exact q9F_rsk hv hn (by rw [hre]))) (by decide)).trans (congrArg some (q9evS u7))⟩
    | k9 + 1, hq9 => exact nomatch (show (none : Option (Nat × q9AV × q9AV × q9ET)) = some p9 from hq9)
  · exact q9th_tX (T := T) (N := N) (P := P) (J := J) (t0 := t0) (Sc := Sc) (q9evZ u_) (q9evZ u_) (q9evS u4) (by rw [q9FF_1041]; exact (by rw [← q9FF_1041 (t0 := t0) (Sc := Sc) (a := (0 : Int32).toInt) (b := (0 : Int32).toInt)]; exact q9F_rsp hv hn (by rw [hre]; exact (by decide : (1 : Int) ≠ 0)) (by rw [hre]))) (by decide)
theorem q9ru_cl6 (hT : ∀ i, 0 ≤ T i ∧ T i ≤ 255) (hN : 0 ≤ N ∧ N ≤ 400) (hSc : 0 ≤ Sc 1 ∧ Sc 1 ≤ 400 → N = Sc 1) : q9ruOK (fO T N P J t0 Sc) q9R_cl6 := by
  intro w w0 hA hX hL hV hR
  obtain ⟨x0, ae0, -, -⟩ := hA 0 0 rfl
  obtain ⟨x1, ae1, -, -⟩ := hA 1 0 rfl
  obtain ⟨x2, ae2, -, -⟩ := hA 2 0 rfl
  obtain ⟨x3, ae3, -, -⟩ := hA 3 0 rfl
  obtain ⟨x4, ae4, -, -⟩ := hA 4 0 rfl
  obtain ⟨x5, ae5, -, -⟩ := hA 5 0 rfl
  obtain ⟨x6, ae6, -, -⟩ := hA 6 0 rfl
  obtain ⟨x7, ae7, -, -⟩ := hA 7 0 rfl
  obtain ⟨x8, ae8, -, -⟩ := hA 8 0 rfl
  obtain ⟨x9, ae9, -, -⟩ := hA 9 1 rfl
  obtain ⟨x10, ae10, -, -⟩ := hA 10 1 rfl
  have kz : (0 : Int32).toInt = 0 := rfl
  have k4 : (Int32.ofInt 4).toInt = 4 := q9oI_toInt (by decide)
  have k59 : (Int32.ofInt 59).toInt = 59 := q9oI_toInt (by decide)
  have k60 : (Int32.ofInt 60).toInt = 60 := q9oI_toInt (by decide)
  have V0 := q9pV (T := T) (N := N) (P := P) (J := J) (t0 := t0) (Sc := Sc) (op := 1027) (n := 1) (q9evS ae0) (q9evZ w0) (hV _ (List.mem_of_getElem? (i := 0) rfl)) (by decide)
  rw [q9FF_1027] at V0
  have K0 := q9chV_of V0
  try simp only [kz, k4, k59, k60] at K0
  have X0 := q9th_pX (T := T) (N := N) (P := P) (J := J) (t0 := t0) (Sc := Sc) (op := 1021) (q9evS ae0) (q9evZ w0) (q9evS ae8) (hX _ (List.mem_of_getElem? (i := 0) rfl)) (by decide)
  rw [q9FF_1021] at X0
  have H0 := q9chV_of X0
  try simp only [kz, k4, k59, k60] at H0
  have X1 := q9th_pX (T := T) (N := N) (P := P) (J := J) (t0 := t0) (Sc := Sc) (op := 1022) (q9evS ae0) (q9evZ w0) (q9evS ae6) (hX _ (List.mem_of_getElem? (i := 1) rfl)) (by decide)
  rw [q9FF_1022] at X1
  have H1 := q9chV_of X1
  try simp only [kz, k4, k59, k60] at H1
  have L0 : (0 : Int32).toInt ≤ x0.toInt + 0 := q9pC (q9evZ w0) (q9evS ae0) (hL _ (List.mem_of_getElem? (i := 0) rfl))
  have L1 : (0 : Int32).toInt ≤ x6.toInt + 0 := q9pC (q9evZ w0) (q9evS ae6) (hL _ (List.mem_of_getElem? (i := 1) rfl))
  have L2 : x6.toInt ≤ (Int32.ofInt 60).toInt + 0 := q9pC (q9evS ae6) (q9evC w0 60) (hL _ (List.mem_of_getElem? (i := 2) rfl))
  have L3 : (0 : Int32).toInt ≤ x8.toInt + 0 := q9pC (q9evZ w0) (q9evS ae8) (hL _ (List.mem_of_getElem? (i := 3) rfl))
  have L4 : x8.toInt ≤ (Int32.ofInt 4).toInt + 0 := q9pC (q9evS ae8) (q9evC w0 4) (hL _ (List.mem_of_getElem? (i := 4) rfl))
  have X2 := q9th_pX (T := T) (N := N) (P := P) (J := J) (t0 := t0) (Sc := Sc) (op := 1002) (q9evS ae0) (q9evZ w0) (q9evS ae1) (hX _ (List.mem_of_getElem? (i := 2) rfl)) (by decide)
  rw [q9FF_1002] at X2
  have H2 := Option.some.inj X2
  try simp only [kz, k4, k59, k60] at H2
  have V1 := q9pV (T := T) (N := N) (P := P) (J := J) (t0 := t0) (Sc := Sc) (op := 1013) (n := 6) (q9evS ae1) (q9evZ w0) (hV _ (List.mem_of_getElem? (i := 1) rfl)) (by decide)
  rw [q9FF_1013] at V1
  have K1 := Option.some.inj V1
  try simp only [kz, k4, k59, k60] at K1
  have X3 := q9th_pX (T := T) (N := N) (P := P) (J := J) (t0 := t0) (Sc := Sc) (op := 1003) (q9evS ae1) (q9evZ w0) (q9evS ae2) (hX _ (List.mem_of_getElem? (i := 3) rfl)) (by decide)
  rw [q9FF_1003] at X3
  have H3 := Option.some.inj X3
  try simp only [kz, k4, k59, k60] at H3
  have V2 := q9pV (T := T) (N := N) (P := P) (J := J) (t0 := t0) (Sc := Sc) (op := 1264) (n := 0) (q9evS ae2) (q9evZ w0) (hV _ (List.mem_of_getElem? (i := 2) rfl)) (by decide)
  rw [q9FF_1264] at V2
  have K2 := Option.some.inj V2
  try simp only [kz, k4, k59, k60] at K2
  have X4 := q9th_pX (T := T) (N := N) (P := P) (J := J) (t0 := t0) (Sc := Sc) (op := 1265) (q9evS ae2) (q9evZ w0) (q9evS ae3) (hX _ (List.mem_of_getElem? (i := 4) rfl)) (by decide)
  rw [q9FF_1265] at X4
  have H4 := Option.some.inj X4
  try simp only [kz, k4, k59, k60] at H4
  have X5 := q9th_pX (T := T) (N := N) (P := P) (J := J) (t0 := t0) (Sc := Sc) (op := 1002) (q9evS ae3) (q9evZ w0) (q9evS ae4) (hX _ (List.mem_of_getElem? (i := 5) rfl)) (by decide)
  rw [q9FF_1002] at X5
  have H5 := Option.some.inj X5
  try simp only [kz, k4, k59, k60] at H5
  have V3 := q9pV (T := T) (N := N) (P := P) (J := J) (t0 := t0) (Sc := Sc) (op := 1009) (n := 1) (q9evS ae4) (q9evC w0 59) (hV _ (List.mem_of_getElem? (i := 3) rfl)) (by decide)
  rw [q9FF_1009] at V3
  have K3 := Option.some.inj V3
  try simp only [kz, k4, k59, k60] at K3
  have L5 : x5.toInt ≤ x4.toInt + 1 := q9pC (q9evS ae5) (q9evS ae4) (hL _ (List.mem_of_getElem? (i := 5) rfl))
  have L6 : x4.toInt ≤ x5.toInt + (-1) := q9pC (q9evS ae4) (q9evS ae5) (hL _ (List.mem_of_getElem? (i := 6) rfl))
  have L7 : x6.toInt ≤ (Int32.ofInt 59).toInt + 0 := q9pC (q9evS ae6) (q9evC w0 59) (hL _ (List.mem_of_getElem? (i := 7) rfl))
  have L8 : x7.toInt ≤ x6.toInt + 1 := q9pC (q9evS ae7) (q9evS ae6) (hL _ (List.mem_of_getElem? (i := 8) rfl))
  have L9 : x6.toInt ≤ x7.toInt + (-1) := q9pC (q9evS ae6) (q9evS ae7) (hL _ (List.mem_of_getElem? (i := 9) rfl))
  have X6 := q9pL (T := T) (N := N) (P := P) (J := J) (t0 := t0) (Sc := Sc) (op := 1024) (q9evS ae0) (q9evS ae8) (q9evS ae9) (hX _ (List.mem_of_getElem? (i := 6) rfl)) (by decide)
  rw [q9FL_1024] at X6
  have H6 := q9chV_of X6
  try simp only [kz, k4, k59, k60] at H6
  have X7 := q9pL (T := T) (N := N) (P := P) (J := J) (t0 := t0) (Sc := Sc) (op := 1028) (q9evS ae0) (q9evZ w0) (q9evS ae10) (hX _ (List.mem_of_getElem? (i := 7) rfl)) (by decide)
  rw [q9FL_1028] at X7
  have H7 := q9chV_of X7
  try simp only [kz, k4, k59, k60] at H7
  obtain ⟨c, hv, hc, h8, h9, -⟩ := K0
  have hd : x8.toInt + 1 = c.2.2.length := q9th_at_of hv hc H0
  have hz : x6.toInt = c.2.1 := q9th_at_of hv hc H1
  have hb : q9spI T N c.1 = x1.toInt := by rw [hc]; exact H2
  obtain ⟨q, st, hst⟩ : ∃ q st, c.2.2 = q :: st := by
    cases hh : c.2.2 with
    | nil => exfalso; rw [hh, List.length_nil] at hd; omega
    | cons q st => exact ⟨q, st, rfl⟩
  have hl2 : c.2.2.length = st.length + 1 := by rw [hst, List.length_cons]
  have hk : q9kbI T N (q9spI T N c.1) = 6 := by rw [hb]; exact K1
  have hl : q9lkI T N c = 6 := by rw [q9lk_of h8 (by omega), hk]
  have he : q9weI T N x1.toInt = x2.toInt := H3
  have hr : q9rcI T N P J c = (0, x3.toInt) := by unfold q9rcI q9rsI; rw [hl, hb, he]; exact Prod.ext K2 H4
  have hok : q9okL T N P J c := ⟨by omega, by omega, by omega, fun h => by omega, by rw [hr]⟩
  have hs4 : q9spI T N x3.toInt = x4.toInt := H5
  have hn := q9nx_line hst (by omega) (by omega) (by omega) hr rfl (by rw [hs4]; exact q9is_1 K3 (by omega))
  generalize hg : ((q9spI T N ((0, x3.toInt) : q9TK2).2 + 1, c.2.1 + 1, (q.1, q.2.1, (if q9lkI T N c ≤ 1 then q.2.2.1 + Int64.ofInt (q9amI T N P J (q9lkI T N c) (q9weI T N (q9spI T N c.1))) else q.2.2.1), q.2.2.2 + 1) :: st) : q9CF9) = c' at hn
  have hv' := q9vis_next hv hn
  have hc' : c'.1 = x5.toInt := by rw [← hg]; show q9spI T N x3.toInt + 1 = _; omega
  have hst' : c'.2.2 = (q.1, q.2.1, (if q9lkI T N c ≤ 1 then q.2.2.1 + Int64.ofInt (q9amI T N P J (q9lkI T N c) (q9weI T N (q9spI T N c.1))) else q.2.2.1), q.2.2.2 + 1) :: st := by rw [← hg]
  have hd' : x8.toInt + 1 = c'.2.2.length := by rw [hst', List.length_cons]; omega
  have hz' : x7.toInt = c'.2.1 := by rw [← hg]; show _ = c.2.1 + 1; omega
  have hf : ∃ e, q9enI c x8.toInt = some e ∧ x9 = e.2.2.1 := q9th_at_of hv hc H6
  obtain ⟨q0, f1, f2⟩ := hf
  rw [q9en_top hst hd] at f1
  cases f1
  rw [if_neg (by omega), ← f2] at hst'
  have hg2 : ∃ q st, c.2.2 = q :: st ∧ x10 = q.2.2.2 + 1 := q9th_at_of hv hc H7
  obtain ⟨q1, st1, g1, g2⟩ := hg2
  rw [hst] at g1
  cases g1
  rw [← g2] at hst'
  have rg0 : (1 : Int) ≤ 1 ∧ (1 : Int) ≤ 1 := by omega
  obtain ⟨x11, nt11⟩ : ∃ x : Int32, x.toInt = 1 := ⟨Int32.ofInt (1), q9oI_toInt (by omega)⟩
  have rg1 : (6 : Int) ≤ 6 ∧ (6 : Int) ≤ 6 := by omega
  obtain ⟨x12, nt12⟩ : ∃ x : Int32, x.toInt = 6 := ⟨Int32.ofInt (6), q9oI_toInt (by omega)⟩
  have u_ : q9upN w 12 [.int x11, .int x12] 0 = .int 0 := q9upN_of (by decide) w0
  have u0 : q9upN w 12 [.int x11, .int x12] 1 = .int x0 := q9upN_of (by decide) ae0
  have u1 : q9upN w 12 [.int x11, .int x12] 2 = .int x1 := q9upN_of (by decide) ae1
  have u2 : q9upN w 12 [.int x11, .int x12] 3 = .int x2 := q9upN_of (by decide) ae2
  have u3 : q9upN w 12 [.int x11, .int x12] 4 = .int x3 := q9upN_of (by decide) ae3
  have u4 : q9upN w 12 [.int x11, .int x12] 5 = .int x4 := q9upN_of (by decide) ae4
  have u5 : q9upN w 12 [.int x11, .int x12] 6 = .int x5 := q9upN_of (by decide) ae5
  have u6 : q9upN w 12 [.int x11, .int x12] 7 = .int x6 := q9upN_of (by decide) ae6
  have u7 : q9upN w 12 [.int x11, .int x12] 8 = .int x7 := q9upN_of (by decide) ae7
  have u8 : q9upN w 12 [.int x11, .int x12] 9 = .int x8 := q9upN_of (by decide) ae8
  have u9 : q9upN w 12 [.int x11, .int x12] 10 = .long x9 := q9upN_of (by decide) ae9
  have u10 : q9upN w 12 [.int x11, .int x12] 11 = .long x10 := q9upN_of (by decide) ae10
  have u11 : q9upN w 12 [.int x11, .int x12] 12 = .int x11 := q9upN_at (by decide)
  have u12 : q9upN w 12 [.int x11, .int x12] 13 = .int x12 := q9upN_at (by decide)
  refine ⟨[.int x11, .int x12], fun i9 p9 hq9 => ?_, List.forall_mem_cons.mpr ⟨?_, List.forall_mem_cons.mpr ⟨?_, List.forall_mem_cons.mpr ⟨?_, List.forall_mem_cons.mpr ⟨?_, List.forall_mem_cons.mpr ⟨?_, fun _ h => absurd h List.not_mem_nil⟩⟩⟩⟩⟩, List.forall_mem_cons.mpr ⟨?_, fun _ h => absurd h List.not_mem_nil⟩⟩
  · match i9, hq9 with
    | 0, hq9 =>
      have hp9 : ((1020, (6, 0), (0, 0), (0, 1, 1)) : Nat × q9AV × q9AV × q9ET) = p9 := Option.some.inj hq9
      subst hp9
      exact ⟨⟨x11, rfl, by rw [nt11]; exact rg0.1, by rw [nt11]; exact rg0.2⟩, (q9th_tX (T := T) (N := N) (P := P) (J := J) (t0 := t0) (Sc := Sc) (q9evS u5) (q9evZ u_) (q9evS u11) (by rw [q9FF_1020, nt11]; exact (by rw [← q9FF_1020 (t0 := t0) (Sc := Sc) (b := (0 : Int32).toInt)]; exact q9F_vis hv' hc')) (by decide)).trans (congrArg some (q9evS u11))⟩
    | 1, hq9 =>
      have hp9 : ((1050, (7, 0), (0, 0), (0, 6, 6)) : Nat × q9AV × q9AV × q9ET) = p9 := Option.some.inj hq9
      subst hp9
      exact ⟨⟨x12, rfl, by rw [nt12]; exact rg1.1, by rw [nt12]; exact rg1.2⟩, (q9th_tX (T := T) (N := N) (P := P) (J := J) (t0 := t0) (Sc := Sc) (q9evS u6) (q9evZ u_) (q9evS u12) (by rw [q9FF_1050, nt12]; exact (by rw [← q9FF_1050 (t0 := t0) (Sc := Sc) (b := (0 : Int32).toInt)]; exact q9F_kd hv hok hz.symm hl.symm)) (by decide)).trans (congrArg some (q9evS u12))⟩
    | k9 + 2, hq9 => exact nomatch (show (none : Option (Nat × q9AV × q9AV × q9ET)) = some p9 from hq9)
  · exact q9th_tX (T := T) (N := N) (P := P) (J := J) (t0 := t0) (Sc := Sc) (q9evS u5) (q9evZ u_) (q9evS u8) (by rw [q9FF_1021]; exact (by rw [← q9FF_1021 (t0 := t0) (Sc := Sc) (b := (0 : Int32).toInt)]; exact q9F_dp hv' hc' hd')) (by decide)
  · exact q9th_tX (T := T) (N := N) (P := P) (J := J) (t0 := t0) (Sc := Sc) (q9evS u5) (q9evZ u_) (q9evS u7) (by rw [q9FF_1022]; exact (by rw [← q9FF_1022 (t0 := t0) (Sc := Sc) (b := (0 : Int32).toInt)]; exact q9F_sz hv' hc' hz')) (by decide)
  · exact q9th_tX (T := T) (N := N) (P := P) (J := J) (t0 := t0) (Sc := Sc) (q9evS u5) (q9evZ u_) (q9evS u0) (by rw [q9FF_1026]; exact (by rw [← q9FF_1026 (t0 := t0) (Sc := Sc) (b := (0 : Int32).toInt)]; exact q9F_prv hv hn hc' hc.symm)) (by decide)
  · exact q9th_tL (T := T) (N := N) (P := P) (J := J) (t0 := t0) (Sc := Sc) (q9evS u5) (q9evS u8) (q9evS u9) (by rw [q9FL_1024]; exact (by rw [← q9FL_1024 (b := x8.toInt)]; exact q9G_frv hv' hc' (q9en_top hst' hd') rfl)) (by decide)
  · exact q9th_tL (T := T) (N := N) (P := P) (J := J) (t0 := t0) (Sc := Sc) (q9evS u5) (q9evS u8) (q9evS u10) (by rw [q9FL_1025]; exact (by rw [← q9FL_1025 (b := x8.toInt)]; exact q9G_dnv hv' hc' (q9en_top hst' hd') rfl)) (by decide)
  · exact q9th_tC (d := (-1)) (q9evS u0) (q9evS u5) (by have := q9nx_pos hn; omega)
theorem q9ru_ln6 (hT : ∀ i, 0 ≤ T i ∧ T i ≤ 255) (hN : 0 ≤ N ∧ N ≤ 400) (hSc : 0 ≤ Sc 1 ∧ Sc 1 ≤ 400 → N = Sc 1) : q9ruOK (fO T N P J t0 Sc) q9R_ln6 := by
  intro w w0 hA hX hL hV hR
  obtain ⟨x0, ae0, -, -⟩ := hA 0 0 rfl
  obtain ⟨x1, ae1, -, -⟩ := hA 1 0 rfl
  obtain ⟨x2, ae2, -, -⟩ := hA 2 0 rfl
  obtain ⟨x3, ae3, -, -⟩ := hA 3 0 rfl
  obtain ⟨x4, ae4, -, -⟩ := hA 4 0 rfl
  obtain ⟨x5, ae5, -, -⟩ := hA 5 0 rfl
  obtain ⟨x6, ae6, -, -⟩ := hA 6 0 rfl
  have kz : (0 : Int32).toInt = 0 := rfl
  have k4 : (Int32.ofInt 4).toInt = 4 := q9oI_toInt (by decide)
  have k59 : (Int32.ofInt 59).toInt = 59 := q9oI_toInt (by decide)
  have k60 : (Int32.ofInt 60).toInt = 60 := q9oI_toInt (by decide)
  have V0 := q9pV (T := T) (N := N) (P := P) (J := J) (t0 := t0) (Sc := Sc) (op := 1027) (n := 1) (q9evS ae0) (q9evZ w0) (hV _ (List.mem_of_getElem? (i := 0) rfl)) (by decide)
  rw [q9FF_1027] at V0
  have K0 := q9chV_of V0
  try simp only [kz, k4, k59, k60] at K0
  have X0 := q9th_pX (T := T) (N := N) (P := P) (J := J) (t0 := t0) (Sc := Sc) (op := 1021) (q9evS ae0) (q9evZ w0) (q9evS ae5) (hX _ (List.mem_of_getElem? (i := 0) rfl)) (by decide)
  rw [q9FF_1021] at X0
  have H0 := q9chV_of X0
  try simp only [kz, k4, k59, k60] at H0
  have X1 := q9th_pX (T := T) (N := N) (P := P) (J := J) (t0 := t0) (Sc := Sc) (op := 1022) (q9evS ae0) (q9evZ w0) (q9evS ae4) (hX _ (List.mem_of_getElem? (i := 1) rfl)) (by decide)
  rw [q9FF_1022] at X1
  have H1 := q9chV_of X1
  try simp only [kz, k4, k59, k60] at H1
  have L0 : (0 : Int32).toInt ≤ x0.toInt + 0 := q9pC (q9evZ w0) (q9evS ae0) (hL _ (List.mem_of_getElem? (i := 0) rfl))
  have L1 : (0 : Int32).toInt ≤ x4.toInt + 0 := q9pC (q9evZ w0) (q9evS ae4) (hL _ (List.mem_of_getElem? (i := 1) rfl))
  have L2 : x4.toInt ≤ (Int32.ofInt 60).toInt + 0 := q9pC (q9evS ae4) (q9evC w0 60) (hL _ (List.mem_of_getElem? (i := 2) rfl))
  have L3 : (0 : Int32).toInt ≤ x5.toInt + 0 := q9pC (q9evZ w0) (q9evS ae5) (hL _ (List.mem_of_getElem? (i := 3) rfl))
  have L4 : x5.toInt ≤ (Int32.ofInt 4).toInt + 0 := q9pC (q9evS ae5) (q9evC w0 4) (hL _ (List.mem_of_getElem? (i := 4) rfl))
  have X2 := q9th_pX (T := T) (N := N) (P := P) (J := J) (t0 := t0) (Sc := Sc) (op := 1002) (q9evS ae0) (q9evZ w0) (q9evS ae1) (hX _ (List.mem_of_getElem? (i := 2) rfl)) (by decide)
  rw [q9FF_1002] at X2
  have H2 := Option.some.inj X2
  try simp only [kz, k4, k59, k60] at H2
  have V1 := q9pV (T := T) (N := N) (P := P) (J := J) (t0 := t0) (Sc := Sc) (op := 1013) (n := 6) (q9evS ae1) (q9evZ w0) (hV _ (List.mem_of_getElem? (i := 1) rfl)) (by decide)
  rw [q9FF_1013] at V1
  have K1 := Option.some.inj V1
  try simp only [kz, k4, k59, k60] at K1
  have X3 := q9th_pX (T := T) (N := N) (P := P) (J := J) (t0 := t0) (Sc := Sc) (op := 1003) (q9evS ae1) (q9evZ w0) (q9evS ae2) (hX _ (List.mem_of_getElem? (i := 3) rfl)) (by decide)
  rw [q9FF_1003] at X3
  have H3 := Option.some.inj X3
  try simp only [kz, k4, k59, k60] at H3
  have V2 := q9pV (T := T) (N := N) (P := P) (J := J) (t0 := t0) (Sc := Sc) (op := 1264) (n := 0) (q9evS ae2) (q9evZ w0) (hV _ (List.mem_of_getElem? (i := 2) rfl)) (by decide)
  rw [q9FF_1264] at V2
  have K2 := Option.some.inj V2
  try simp only [kz, k4, k59, k60] at K2
  have X4 := q9th_pX (T := T) (N := N) (P := P) (J := J) (t0 := t0) (Sc := Sc) (op := 1265) (q9evS ae2) (q9evZ w0) (q9evS ae3) (hX _ (List.mem_of_getElem? (i := 4) rfl)) (by decide)
  rw [q9FF_1265] at X4
  have H4 := Option.some.inj X4
  try simp only [kz, k4, k59, k60] at H4
  have L5 : x4.toInt ≤ (Int32.ofInt 59).toInt + 0 := q9pC (q9evS ae4) (q9evC w0 59) (hL _ (List.mem_of_getElem? (i := 5) rfl))
  have X5 := q9th_pX (T := T) (N := N) (P := P) (J := J) (t0 := t0) (Sc := Sc) (op := 1306) (q9evS ae2) (q9evZ w0) (q9evS ae6) (hX _ (List.mem_of_getElem? (i := 5) rfl)) (by decide)
  rw [q9FF_1306] at X5
  have H5 := Option.some.inj X5
  try simp only [kz, k4, k59, k60] at H5
  obtain ⟨c, hv, hc, h8, h9, -⟩ := K0
  have hd : x5.toInt + 1 = c.2.2.length := q9th_at_of hv hc H0
  have hz : x4.toInt = c.2.1 := q9th_at_of hv hc H1
  have hb : q9spI T N c.1 = x1.toInt := by rw [hc]; exact H2
  obtain ⟨q, st, hst⟩ : ∃ q st, c.2.2 = q :: st := by
    cases hh : c.2.2 with
    | nil => exfalso; rw [hh, List.length_nil] at hd; omega
    | cons q st => exact ⟨q, st, rfl⟩
  have hl2 : c.2.2.length = st.length + 1 := by rw [hst, List.length_cons]
  have hk : q9kbI T N (q9spI T N c.1) = 6 := by rw [hb]; exact K1
  have hl : q9lkI T N c = 6 := by rw [q9lk_of h8 (by omega), hk]
  have he : q9weI T N x1.toInt = x2.toInt := H3
  have hr : q9rcI T N P J c = (0, x3.toInt) := by unfold q9rcI q9rsI; rw [hl, hb, he]; exact Prod.ext K2 H4
  have hok : q9okL T N P J c := ⟨by omega, by omega, by omega, fun h => by omega, by rw [hr]⟩
  have hp : q9prI T N P J c x3.toInt := ⟨hv, .inl ⟨hok, by omega, by rw [hr]⟩⟩
  have hen : q9enE T N P J x4.toInt (x4.toInt + 1) := .inl ⟨c, hv, hok, hz.symm, by omega, rfl⟩
  have ham : x6.toInt = q9amI T N P J (q9lkI T N c) (q9weI T N (q9spI T N c.1)) := by rw [hl, hb, he]; exact (H5).symm
  have rg0 : (1 : Int) ≤ 1 ∧ (1 : Int) ≤ 1 := by omega
  obtain ⟨x7, nt7⟩ : ∃ x : Int32, x.toInt = 1 := ⟨Int32.ofInt (1), q9oI_toInt (by omega)⟩
  have rg1 : (6 : Int) ≤ 6 ∧ (6 : Int) ≤ 6 := by omega
  obtain ⟨x8, nt8⟩ : ∃ x : Int32, x.toInt = 6 := ⟨Int32.ofInt (6), q9oI_toInt (by omega)⟩
  have rg2 : (1 : Int) ≤ (x4.toInt + 1) ∧ ((x4.toInt + 1) : Int) ≤ 60 := by omega
  obtain ⟨x9, nt9⟩ : ∃ x : Int32, x.toInt = (x4.toInt + 1) := ⟨Int32.ofInt ((x4.toInt + 1)), q9oI_toInt (by omega)⟩
  have rg3 : (1 : Int) ≤ (x4.toInt + 1) ∧ ((x4.toInt + 1) : Int) ≤ 60 := by omega
  obtain ⟨x10, nt10⟩ : ∃ x : Int32, x.toInt = (x4.toInt + 1) := ⟨Int32.ofInt ((x4.toInt + 1)), q9oI_toInt (by omega)⟩
  have u_ : q9upN w 8 [.int x7, .int x8, .int x9, .int x10] 0 = .int 0 := q9upN_of (by decide) w0
  have u0 : q9upN w 8 [.int x7, .int x8, .int x9, .int x10] 1 = .int x0 := q9upN_of (by decide) ae0
  have u1 : q9upN w 8 [.int x7, .int x8, .int x9, .int x10] 2 = .int x1 := q9upN_of (by decide) ae1
  have u2 : q9upN w 8 [.int x7, .int x8, .int x9, .int x10] 3 = .int x2 := q9upN_of (by decide) ae2
  have u3 : q9upN w 8 [.int x7, .int x8, .int x9, .int x10] 4 = .int x3 := q9upN_of (by decide) ae3
  have u4 : q9upN w 8 [.int x7, .int x8, .int x9, .int x10] 5 = .int x4 := q9upN_of (by decide) ae4
  have u5 : q9upN w 8 [.int x7, .int x8, .int x9, .int x10] 6 = .int x5 := q9upN_of (by decide) ae5
  have u6 : q9upN w 8 [.int x7, .int x8, .int x9, .int x10] 7 = .int x6 := q9upN_of (by decide) ae6
  have u7 : q9upN w 8 [.int x7, .int x8, .int x9, .int x10] 8 = .int x7 := q9upN_at (by decide)
  have u8 : q9upN w 8 [.int x7, .int x8, .int x9, .int x10] 9 = .int x8 := q9upN_at (by decide)
  have u9 : q9upN w 8 [.int x7, .int x8, .int x9, .int x10] 10 = .int x9 := q9upN_at (by decide)
  have u10 : q9upN w 8 [.int x7, .int x8, .int x9, .int x10] 11 = .int x10 := q9upN_at (by decide)
  refine ⟨[.int x7, .int x8, .int x9, .int x10], fun i9 p9 hq9 => ?_, List.forall_mem_cons.mpr ⟨?_, List.forall_mem_cons.mpr ⟨?_, List.forall_mem_cons.mpr ⟨?_, fun _ h => absurd h List.not_mem_nil⟩⟩⟩, List.forall_mem_cons.mpr ⟨?_, List.forall_mem_cons.mpr ⟨?_, List.forall_mem_cons.mpr ⟨?_, List.forall_mem_cons.mpr ⟨?_, List.forall_mem_cons.mpr ⟨?_, fun _ h => absurd h List.not_mem_nil⟩⟩⟩⟩⟩⟩
  · match i9, hq9 with
    | 0, hq9 =>
      have hp9 : ((1030, (4, 0), (0, 0), (0, 1, 1)) : Nat × q9AV × q9AV × q9ET) = p9 := Option.some.inj hq9
      subst hp9
      exact ⟨⟨x7, rfl, by rw [nt7]; exact rg0.1, by rw [nt7]; exact rg0.2⟩, (q9th_tX (T := T) (N := N) (P := P) (J := J) (t0 := t0) (Sc := Sc) (q9evS u3) (q9evZ u_) (q9evS u7) (by rw [q9FF_1030, nt7]; exact (by rw [← q9FF_1030 (t0 := t0) (Sc := Sc) (b := (0 : Int32).toInt)]; exact q9F_pvs hp)) (by decide)).trans (congrArg some (q9evS u7))⟩
    | 1, hq9 =>
      have hp9 : ((1050, (5, 0), (0, 0), (0, 6, 6)) : Nat × q9AV × q9AV × q9ET) = p9 := Option.some.inj hq9
      subst hp9
      exact ⟨⟨x8, rfl, by rw [nt8]; exact rg1.1, by rw [nt8]; exact rg1.2⟩, (q9th_tX (T := T) (N := N) (P := P) (J := J) (t0 := t0) (Sc := Sc) (q9evS u4) (q9evZ u_) (q9evS u8) (by rw [q9FF_1050, nt8]; exact (by rw [← q9FF_1050 (t0 := t0) (Sc := Sc) (b := (0 : Int32).toInt)]; exact q9F_kd hv hok hz.symm hl.symm)) (by decide)).trans (congrArg some (q9evS u8))⟩
    | 2, hq9 =>
      have hp9 : ((1032, (4, 0), (0, 0), (0, 1, 60)) : Nat × q9AV × q9AV × q9ET) = p9 := Option.some.inj hq9
      subst hp9
      exact ⟨⟨x9, rfl, by rw [nt9]; exact rg2.1, by rw [nt9]; exact rg2.2⟩, (q9th_tX (T := T) (N := N) (P := P) (J := J) (t0 := t0) (Sc := Sc) (q9evS u3) (q9evZ u_) (q9evS u9) (by rw [q9FF_1032, nt9]; exact (by rw [← q9FF_1032 (t0 := t0) (Sc := Sc) (b := (0 : Int32).toInt)]; exact q9F_psz hp (by rw [if_neg (by omega)]; omega))) (by decide)).trans (congrArg some (q9evS u9))⟩
    | 3, hq9 =>
      have hp9 : ((1052, (5, 0), (0, 0), (0, 1, 60)) : Nat × q9AV × q9AV × q9ET) = p9 := Option.some.inj hq9
      subst hp9
      exact ⟨⟨x10, rfl, by rw [nt10]; exact rg3.1, by rw [nt10]; exact rg3.2⟩, (q9th_tX (T := T) (N := N) (P := P) (J := J) (t0 := t0) (Sc := Sc) (q9evS u4) (q9evZ u_) (q9evS u10) (by rw [q9FF_1052, nt10]; exact (by rw [← q9FF_1052 (t0 := t0) (Sc := Sc) (b := (0 : Int32).toInt)]; exact q9F_en hN.1 hen)) (by decide)).trans (congrArg some (q9evS u10))⟩
    | k9 + 4, hq9 => exact nomatch (show (none : Option (Nat × q9AV × q9AV × q9ET)) = some p9 from hq9)
  · exact q9th_tX (T := T) (N := N) (P := P) (J := J) (t0 := t0) (Sc := Sc) (q9evS u3) (q9evZ u_) (q9evS u5) (by rw [q9FF_1031]; exact (by rw [← q9FF_1031 (t0 := t0) (Sc := Sc) (b := (0 : Int32).toInt)]; exact q9F_pdp hp (by rw [if_neg (by omega)]; omega))) (by decide)
  · exact q9th_tX (T := T) (N := N) (P := P) (J := J) (t0 := t0) (Sc := Sc) (q9evS u3) (q9evZ u_) (q9evS u0) (by rw [q9FF_1034]; exact (by rw [← q9FF_1034 (t0 := t0) (Sc := Sc) (b := (0 : Int32).toInt)]; exact q9F_plk hp hst (by rw [if_neg (by omega)]; exact hc.symm))) (by decide)
  · exact q9th_tX (T := T) (N := N) (P := P) (J := J) (t0 := t0) (Sc := Sc) (q9evS u4) (q9evZ u_) (q9evS u6) (by rw [q9FF_1051]; exact (by rw [← q9FF_1051 (t0 := t0) (Sc := Sc) (b := (0 : Int32).toInt)]; exact q9F_mn hv hok hz.symm ham)) (by decide)
  · exact q9th_tC (d := (-1)) (q9evS u0) (q9evS u3) (by have := q9pr_gt hp; omega)
  · exact q9th_tC (d := 1) (q9evS u9) (q9evS u4) (by omega)
  · exact q9th_tC (d := (-1)) (q9evS u4) (q9evS u9) (by omega)
  · exact q9th_tC (d := 1) (q9evS u10) (q9evS u4) (by omega)
  · exact q9th_tC (d := (-1)) (q9evS u4) (q9evS u10) (by omega)
theorem q9ru_cfs6 (hT : ∀ i, 0 ≤ T i ∧ T i ≤ 255) (hN : 0 ≤ N ∧ N ≤ 400) (hSc : 0 ≤ Sc 1 ∧ Sc 1 ≤ 400 → N = Sc 1) : q9ruOK (fO T N P J t0 Sc) q9R_cfs6 := by
  intro w w0 hA hX hL hV hR
  obtain ⟨x0, ae0, -, -⟩ := hA 0 0 rfl
  obtain ⟨x1, ae1, -, -⟩ := hA 1 0 rfl
  obtain ⟨x2, ae2, -, -⟩ := hA 2 0 rfl
  obtain ⟨x3, ae3, -, -⟩ := hA 3 0 rfl
  obtain ⟨x4, ae4, -, -⟩ := hA 4 0 rfl
  obtain ⟨x5, ae5, -, -⟩ := hA 5 0 rfl
  obtain ⟨x6, ae6, -, -⟩ := hA 6 0 rfl
  have kz : (0 : Int32).toInt = 0 := rfl
  have k4 : (Int32.ofInt 4).toInt = 4 := q9oI_toInt (by decide)
  have k59 : (Int32.ofInt 59).toInt = 59 := q9oI_toInt (by decide)
  have k60 : (Int32.ofInt 60).toInt = 60 := q9oI_toInt (by decide)
  have V0 := q9pV (T := T) (N := N) (P := P) (J := J) (t0 := t0) (Sc := Sc) (op := 1027) (n := 1) (q9evS ae0) (q9evZ w0) (hV _ (List.mem_of_getElem? (i := 0) rfl)) (by decide)
  rw [q9FF_1027] at V0
  have K0 := q9chV_of V0
  try simp only [kz, k4, k59, k60] at K0
  have X0 := q9th_pX (T := T) (N := N) (P := P) (J := J) (t0 := t0) (Sc := Sc) (op := 1021) (q9evS ae0) (q9evZ w0) (q9evS ae6) (hX _ (List.mem_of_getElem? (i := 0) rfl)) (by decide)
  rw [q9FF_1021] at X0
  have H0 := q9chV_of X0
  try simp only [kz, k4, k59, k60] at H0
  have X1 := q9th_pX (T := T) (N := N) (P := P) (J := J) (t0 := t0) (Sc := Sc) (op := 1022) (q9evS ae0) (q9evZ w0) (q9evS ae5) (hX _ (List.mem_of_getElem? (i := 1) rfl)) (by decide)
  rw [q9FF_1022] at X1
  have H1 := q9chV_of X1
  try simp only [kz, k4, k59, k60] at H1
  have L0 : (0 : Int32).toInt ≤ x0.toInt + 0 := q9pC (q9evZ w0) (q9evS ae0) (hL _ (List.mem_of_getElem? (i := 0) rfl))
  have L1 : (0 : Int32).toInt ≤ x5.toInt + 0 := q9pC (q9evZ w0) (q9evS ae5) (hL _ (List.mem_of_getElem? (i := 1) rfl))
  have L2 : x5.toInt ≤ (Int32.ofInt 60).toInt + 0 := q9pC (q9evS ae5) (q9evC w0 60) (hL _ (List.mem_of_getElem? (i := 2) rfl))
  have L3 : (0 : Int32).toInt ≤ x6.toInt + 0 := q9pC (q9evZ w0) (q9evS ae6) (hL _ (List.mem_of_getElem? (i := 3) rfl))
  have L4 : x6.toInt ≤ (Int32.ofInt 4).toInt + 0 := q9pC (q9evS ae6) (q9evC w0 4) (hL _ (List.mem_of_getElem? (i := 4) rfl))
  have X2 := q9th_pX (T := T) (N := N) (P := P) (J := J) (t0 := t0) (Sc := Sc) (op := 1002) (q9evS ae0) (q9evZ w0) (q9evS ae1) (hX _ (List.mem_of_getElem? (i := 2) rfl)) (by decide)
  rw [q9FF_1002] at X2
  have H2 := Option.some.inj X2
  try simp only [kz, k4, k59, k60] at H2
  have V1 := q9pV (T := T) (N := N) (P := P) (J := J) (t0 := t0) (Sc := Sc) (op := 1013) (n := 6) (q9evS ae1) (q9evZ w0) (hV _ (List.mem_of_getElem? (i := 1) rfl)) (by decide)
  rw [q9FF_1013] at V1
  have K1 := Option.some.inj V1
  try simp only [kz, k4, k59, k60] at K1
  have X3 := q9th_pX (T := T) (N := N) (P := P) (J := J) (t0 := t0) (Sc := Sc) (op := 1003) (q9evS ae1) (q9evZ w0) (q9evS ae2) (hX _ (List.mem_of_getElem? (i := 3) rfl)) (by decide)
  rw [q9FF_1003] at X3
  have H3 := Option.some.inj X3
  try simp only [kz, k4, k59, k60] at H3
  have V2 := q9pV (T := T) (N := N) (P := P) (J := J) (t0 := t0) (Sc := Sc) (op := 1264) (n := 0) (q9evS ae2) (q9evZ w0) (hV _ (List.mem_of_getElem? (i := 2) rfl)) (by decide)
  rw [q9FF_1264] at V2
  have K2 := Option.some.inj V2
  try simp only [kz, k4, k59, k60] at K2
  have X4 := q9th_pX (T := T) (N := N) (P := P) (J := J) (t0 := t0) (Sc := Sc) (op := 1265) (q9evS ae2) (q9evZ w0) (q9evS ae3) (hX _ (List.mem_of_getElem? (i := 4) rfl)) (by decide)
  rw [q9FF_1265] at X4
  have H4 := Option.some.inj X4
  try simp only [kz, k4, k59, k60] at H4
  have X5 := q9th_pX (T := T) (N := N) (P := P) (J := J) (t0 := t0) (Sc := Sc) (op := 1002) (q9evS ae3) (q9evZ w0) (q9evS ae4) (hX _ (List.mem_of_getElem? (i := 5) rfl)) (by decide)
  rw [q9FF_1002] at X5
  have H5 := Option.some.inj X5
  try simp only [kz, k4, k59, k60] at H5
  have V3 := q9pV (T := T) (N := N) (P := P) (J := J) (t0 := t0) (Sc := Sc) (op := 1009) (n := 0) (q9evS ae4) (q9evC w0 59) (hV _ (List.mem_of_getElem? (i := 3) rfl)) (by decide)
  rw [q9FF_1009] at V3
  have K3 := Option.some.inj V3
  try simp only [kz, k4, k59, k60] at K3
  have L5 : x5.toInt ≤ (Int32.ofInt 59).toInt + 0 := q9pC (q9evS ae5) (q9evC w0 59) (hL _ (List.mem_of_getElem? (i := 5) rfl))
  obtain ⟨c, hv, hc, h8, h9, -⟩ := K0
  have hd : x6.toInt + 1 = c.2.2.length := q9th_at_of hv hc H0
  have hz : x5.toInt = c.2.1 := q9th_at_of hv hc H1
  have hb : q9spI T N c.1 = x1.toInt := by rw [hc]; exact H2
  obtain ⟨q, st, hst⟩ : ∃ q st, c.2.2 = q :: st := by
    cases hh : c.2.2 with
    | nil => exfalso; rw [hh, List.length_nil] at hd; omega
    | cons q st => exact ⟨q, st, rfl⟩
  have hl2 : c.2.2.length = st.length + 1 := by rw [hst, List.length_cons]
  have hk : q9kbI T N (q9spI T N c.1) = 6 := by rw [hb]; exact K1
  have hl : q9lkI T N c = 6 := by rw [q9lk_of h8 (by omega), hk]
  have he : q9weI T N x1.toInt = x2.toInt := H3
  have hr : q9rcI T N P J c = (0, x3.toInt) := by unfold q9rcI q9rsI; rw [hl, hb, he]; exact Prod.ext K2 H4
  have hs4 : q9spI T N x3.toInt = x4.toInt := H5
  have hn : q9th_nxI T N P J c = none := q9nx_no h8 (.inr ⟨by omega, by rw [hr]; show q9byI T N (q9spI T N x3.toInt) ≠ 59; rw [hs4]; exact q9is_0 K3 (by omega)⟩)
  have hre : q9th_reI T N P J c = (1, x4.toInt) := by unfold q9th_reI; rw [if_neg h8, if_neg (by omega), if_neg (by omega), if_neg (by omega), if_pos (by rw [hr]), hr]; show (1, q9spI T N x3.toInt) = _; rw [hs4]
  have rg0 : (1 : Int) ≤ 1 ∧ (1 : Int) ≤ 1 := by omega
  obtain ⟨x7, nt7⟩ : ∃ x : Int32, x.toInt = 1 := ⟨Int32.ofInt (1), q9oI_toInt (by omega)⟩
  have u_ : q9upN w 8 [.int x7] 0 = .int 0 := q9upN_of (by decide) w0
  have u0 : q9upN w 8 [.int x7] 1 = .int x0 := q9upN_of (by decide) ae0
  have u1 : q9upN w 8 [.int x7] 2 = .int x1 := q9upN_of (by decide) ae1
  have u2 : q9upN w 8 [.int x7] 3 = .int x2 := q9upN_of (by decide) ae2
  have u3 : q9upN w 8 [.int x7] 4 = .int x3 := q9upN_of (by decide) ae3
  have u4 : q9upN w 8 [.int x7] 5 = .int x4 := q9upN_of (by decide) ae4
  have u5 : q9upN w 8 [.int x7] 6 = .int x5 := q9upN_of (by decide) ae5
  have u6 : q9upN w 8 [.int x7] 7 = .int x6 := q9upN_of (by decide) ae6
  have u7 : q9upN w 8 [.int x7] 8 = .int x7 := q9upN_at (by decide)
  refine ⟨[.int x7], fun i9 p9 hq9 => ?_, List.forall_mem_cons.mpr ⟨?_, fun _ h => absurd h List.not_mem_nil⟩, fun _ h => absurd h List.not_mem_nil⟩
  · match i9, hq9 with
    | 0, hq9 =>
      have hp9 : ((1040, (0, 0), (0, 0), (0, 1, 1)) : Nat × q9AV × q9AV × q9ET) = p9 := Option.some.inj hq9
      subst hp9
      exact ⟨⟨x7, rfl, by rw [nt7]; exact rg0.1, by rw [nt7]; exact rg0.2⟩, (q9th_tX (T := T) (N := N) (P := P) (J := J) (t0 := t0) (Sc := Sc) (q9evZ u_) (q9evZ u_) (q9evS u7) (by rw [q9FF_1040, nt7]; exact (by rw [← q9FF_1040 (t0 := t0) (Sc := Sc) (a := (0 : Int32).toInt) (b := (0 : Int32).toInt)]; exact q9F_rsk hv hn (by rw [hre]))) (by decide)).trans (congrArg some (q9evS u7))⟩
    | k9 + 1, hq9 => exact nomatch (show (none : Option (Nat × q9AV × q9AV × q9ET)) = some p9 from hq9)
  · exact q9th_tX (T := T) (N := N) (P := P) (J := J) (t0 := t0) (Sc := Sc) (q9evZ u_) (q9evZ u_) (q9evS u4) (by rw [q9FF_1041]; exact (by rw [← q9FF_1041 (t0 := t0) (Sc := Sc) (a := (0 : Int32).toInt) (b := (0 : Int32).toInt)]; exact q9F_rsp hv hn (by rw [hre]; exact (by decide : (1 : Int) ≠ 0)) (by rw [hre]))) (by decide)
theorem q9ru_cfr0 (hT : ∀ i, 0 ≤ T i ∧ T i ≤ 255) (hN : 0 ≤ N ∧ N ≤ 400) (hSc : 0 ≤ Sc 1 ∧ Sc 1 ≤ 400 → N = Sc 1) : q9ruOK (fO T N P J t0 Sc) q9R_cfr0 := by
  intro w w0 hA hX hL hV hR
  obtain ⟨x0, ae0, -, -⟩ := hA 0 0 rfl
  obtain ⟨x1, ae1, -, -⟩ := hA 1 0 rfl
  obtain ⟨x2, ae2, -, -⟩ := hA 2 0 rfl
  obtain ⟨x3, ae3, -, -⟩ := hA 3 0 rfl
  obtain ⟨x4, ae4, -, -⟩ := hA 4 0 rfl
  obtain ⟨x5, ae5, -, -⟩ := hA 5 0 rfl
  obtain ⟨x6, ae6, -, -⟩ := hA 6 0 rfl
  have kz : (0 : Int32).toInt = 0 := rfl
  have k1 : (Int32.ofInt 1).toInt = 1 := q9oI_toInt (by decide)
  have k4 : (Int32.ofInt 4).toInt = 4 := q9oI_toInt (by decide)
  have k59 : (Int32.ofInt 59).toInt = 59 := q9oI_toInt (by decide)
  have k60 : (Int32.ofInt 60).toInt = 60 := q9oI_toInt (by decide)
  have V0 := q9pV (T := T) (N := N) (P := P) (J := J) (t0 := t0) (Sc := Sc) (op := 1027) (n := 1) (q9evS ae0) (q9evZ w0) (hV _ (List.mem_of_getElem? (i := 0) rfl)) (by decide)
  rw [q9FF_1027] at V0
  have K0 := q9chV_of V0
  try simp only [kz, k1, k4, k59, k60] at K0
  have X0 := q9th_pX (T := T) (N := N) (P := P) (J := J) (t0 := t0) (Sc := Sc) (op := 1021) (q9evS ae0) (q9evZ w0) (q9evS ae6) (hX _ (List.mem_of_getElem? (i := 0) rfl)) (by decide)
  rw [q9FF_1021] at X0
  have H0 := q9chV_of X0
  try simp only [kz, k1, k4, k59, k60] at H0
  have X1 := q9th_pX (T := T) (N := N) (P := P) (J := J) (t0 := t0) (Sc := Sc) (op := 1022) (q9evS ae0) (q9evZ w0) (q9evS ae5) (hX _ (List.mem_of_getElem? (i := 1) rfl)) (by decide)
  rw [q9FF_1022] at X1
  have H1 := q9chV_of X1
  try simp only [kz, k1, k4, k59, k60] at H1
  have L0 : (0 : Int32).toInt ≤ x0.toInt + 0 := q9pC (q9evZ w0) (q9evS ae0) (hL _ (List.mem_of_getElem? (i := 0) rfl))
  have L1 : (0 : Int32).toInt ≤ x5.toInt + 0 := q9pC (q9evZ w0) (q9evS ae5) (hL _ (List.mem_of_getElem? (i := 1) rfl))
  have L2 : x5.toInt ≤ (Int32.ofInt 60).toInt + 0 := q9pC (q9evS ae5) (q9evC w0 60) (hL _ (List.mem_of_getElem? (i := 2) rfl))
  have L3 : (0 : Int32).toInt ≤ x6.toInt + 0 := q9pC (q9evZ w0) (q9evS ae6) (hL _ (List.mem_of_getElem? (i := 3) rfl))
  have L4 : x6.toInt ≤ (Int32.ofInt 4).toInt + 0 := q9pC (q9evS ae6) (q9evC w0 4) (hL _ (List.mem_of_getElem? (i := 4) rfl))
  have X2 := q9th_pX (T := T) (N := N) (P := P) (J := J) (t0 := t0) (Sc := Sc) (op := 1002) (q9evS ae0) (q9evZ w0) (q9evS ae1) (hX _ (List.mem_of_getElem? (i := 2) rfl)) (by decide)
  rw [q9FF_1002] at X2
  have H2 := Option.some.inj X2
  try simp only [kz, k1, k4, k59, k60] at H2
  have V1 := q9pV (T := T) (N := N) (P := P) (J := J) (t0 := t0) (Sc := Sc) (op := 1013) (n := 0) (q9evS ae1) (q9evZ w0) (hV _ (List.mem_of_getElem? (i := 1) rfl)) (by decide)
  rw [q9FF_1013] at V1
  have K1 := Option.some.inj V1
  try simp only [kz, k1, k4, k59, k60] at K1
  have X3 := q9th_pX (T := T) (N := N) (P := P) (J := J) (t0 := t0) (Sc := Sc) (op := 1003) (q9evS ae1) (q9evZ w0) (q9evS ae2) (hX _ (List.mem_of_getElem? (i := 3) rfl)) (by decide)
  rw [q9FF_1003] at X3
  have H3 := Option.some.inj X3
  try simp only [kz, k1, k4, k59, k60] at H3
  have X4 := q9th_pX (T := T) (N := N) (P := P) (J := J) (t0 := t0) (Sc := Sc) (op := 1200) (q9evS ae2) (q9evZ w0) (q9evS ae4) (hX _ (List.mem_of_getElem? (i := 4) rfl)) (by decide)
  rw [q9FF_1200] at X4
  have H4 := Option.some.inj X4
  try simp only [kz, k1, k4, k59, k60] at H4
  have L5 : (Int32.ofInt 1).toInt ≤ x4.toInt + 0 := q9pC (q9evC w0 1) (q9evS ae4) (hL _ (List.mem_of_getElem? (i := 5) rfl))
  have X5 := q9th_pX (T := T) (N := N) (P := P) (J := J) (t0 := t0) (Sc := Sc) (op := 1201) (q9evS ae2) (q9evZ w0) (q9evS ae3) (hX _ (List.mem_of_getElem? (i := 5) rfl)) (by decide)
  rw [q9FF_1201] at X5
  have H5 := Option.some.inj X5
  try simp only [kz, k1, k4, k59, k60] at H5
  have L6 : x5.toInt ≤ (Int32.ofInt 59).toInt + 0 := q9pC (q9evS ae5) (q9evC w0 59) (hL _ (List.mem_of_getElem? (i := 6) rfl))
  obtain ⟨c, hv, hc, h8, h9, -⟩ := K0
  have hd : x6.toInt + 1 = c.2.2.length := q9th_at_of hv hc H0
  have hz : x5.toInt = c.2.1 := q9th_at_of hv hc H1
  have hb : q9spI T N c.1 = x1.toInt := by rw [hc]; exact H2
  obtain ⟨q, st, hst⟩ : ∃ q st, c.2.2 = q :: st := by
    cases hh : c.2.2 with
    | nil => exfalso; rw [hh, List.length_nil] at hd; omega
    | cons q st => exact ⟨q, st, rfl⟩
  have hl2 : c.2.2.length = st.length + 1 := by rw [hst, List.length_cons]
  have hk : q9kbI T N (q9spI T N c.1) = 0 := by rw [hb]; exact K1
  have hl : q9lkI T N c = 0 := by rw [q9lk_of h8 (by omega), hk]
  have he : q9weI T N x1.toInt = x2.toInt := H3
  have hr : q9rcI T N P J c = (x4.toInt, x3.toInt) := by unfold q9rcI q9rsI; rw [hl, hb, he]; exact Prod.ext H4 H5
  have hn : q9th_nxI T N P J c = none := q9nx_no h8 (.inl fun hk => by have := hk.2.2.2.2; rw [hr] at this; dsimp only at this; omega)
  have hre : q9th_reI T N P J c = (x4.toInt, x3.toInt) := by unfold q9th_reI; rw [if_neg h8, if_neg (by omega), if_neg (by omega), if_neg (by omega), if_neg (by rw [hr]; dsimp only; omega), hr]
  have u_ : q9upN w 8 [] 0 = .int 0 := q9upN_of (by decide) w0
  have u0 : q9upN w 8 [] 1 = .int x0 := q9upN_of (by decide) ae0
  have u1 : q9upN w 8 [] 2 = .int x1 := q9upN_of (by decide) ae1
  have u2 : q9upN w 8 [] 3 = .int x2 := q9upN_of (by decide) ae2
  have u3 : q9upN w 8 [] 4 = .int x3 := q9upN_of (by decide) ae3
  have u4 : q9upN w 8 [] 5 = .int x4 := q9upN_of (by decide) ae4
  have u5 : q9upN w 8 [] 6 = .int x5 := q9upN_of (by decide) ae5
  have u6 : q9upN w 8 [] 7 = .int x6 := q9upN_of (by decide) ae6
  refine ⟨[], fun i9 p9 hq9 => ?_, List.forall_mem_cons.mpr ⟨?_, List.forall_mem_cons.mpr ⟨?_, fun _ h => absurd h List.not_mem_nil⟩⟩, fun _ h => absurd h List.not_mem_nil⟩
  · exact nomatch (show (none : Option (Nat × q9AV × q9AV × q9ET)) = some p9 from hq9)
  · exact q9th_tX (T := T) (N := N) (P := P) (J := J) (t0 := t0) (Sc := Sc) (q9evZ u_) (q9evZ u_) (q9evS u4) (by rw [q9FF_1040]; exact (by rw [← q9FF_1040 (t0 := t0) (Sc := Sc) (a := (0 : Int32).toInt) (b := (0 : Int32).toInt)]; exact q9F_rsk hv hn (by rw [hre]))) (by decide)
  · exact q9th_tX (T := T) (N := N) (P := P) (J := J) (t0 := t0) (Sc := Sc) (q9evZ u_) (q9evZ u_) (q9evS u3) (by rw [q9FF_1041]; exact (by rw [← q9FF_1041 (t0 := t0) (Sc := Sc) (a := (0 : Int32).toInt) (b := (0 : Int32).toInt)]; exact q9F_rsp hv hn (by rw [hre]; dsimp only; omega) (by rw [hre]))) (by decide)
theorem q9ru_cfr1 (hT : ∀ i, 0 ≤ T i ∧ T i ≤ 255) (hN : 0 ≤ N ∧ N ≤ 400) (hSc : 0 ≤ Sc 1 ∧ Sc 1 ≤ 400 → N = Sc 1) : q9ruOK (fO T N P J t0 Sc) q9R_cfr1 := by
  intro w w0 hA hX hL hV hR
  obtain ⟨x0, ae0, -, -⟩ := hA 0 0 rfl
  obtain ⟨x1, ae1, -, -⟩ := hA 1 0 rfl
  obtain ⟨x2, ae2, -, -⟩ := hA 2 0 rfl
  obtain ⟨x3, ae3, -, -⟩ := hA 3 0 rfl
  obtain ⟨x4, ae4, -, -⟩ := hA 4 0 rfl
  obtain ⟨x5, ae5, -, -⟩ := hA 5 0 rfl
  obtain ⟨x6, ae6, -, -⟩ := hA 6 0 rfl
  have kz : (0 : Int32).toInt = 0 := rfl
  have k1 : (Int32.ofInt 1).toInt = 1 := q9oI_toInt (by decide)
  have k4 : (Int32.ofInt 4).toInt = 4 := q9oI_toInt (by decide)
  have k59 : (Int32.ofInt 59).toInt = 59 := q9oI_toInt (by decide)
  have k60 : (Int32.ofInt 60).toInt = 60 := q9oI_toInt (by decide)
  have V0 := q9pV (T := T) (N := N) (P := P) (J := J) (t0 := t0) (Sc := Sc) (op := 1027) (n := 1) (q9evS ae0) (q9evZ w0) (hV _ (List.mem_of_getElem? (i := 0) rfl)) (by decide)
  rw [q9FF_1027] at V0
  have K0 := q9chV_of V0
  try simp only [kz, k1, k4, k59, k60] at K0
  have X0 := q9th_pX (T := T) (N := N) (P := P) (J := J) (t0 := t0) (Sc := Sc) (op := 1021) (q9evS ae0) (q9evZ w0) (q9evS ae6) (hX _ (List.mem_of_getElem? (i := 0) rfl)) (by decide)
  rw [q9FF_1021] at X0
  have H0 := q9chV_of X0
  try simp only [kz, k1, k4, k59, k60] at H0
  have X1 := q9th_pX (T := T) (N := N) (P := P) (J := J) (t0 := t0) (Sc := Sc) (op := 1022) (q9evS ae0) (q9evZ w0) (q9evS ae5) (hX _ (List.mem_of_getElem? (i := 1) rfl)) (by decide)
  rw [q9FF_1022] at X1
  have H1 := q9chV_of X1
  try simp only [kz, k1, k4, k59, k60] at H1
  have L0 : (0 : Int32).toInt ≤ x0.toInt + 0 := q9pC (q9evZ w0) (q9evS ae0) (hL _ (List.mem_of_getElem? (i := 0) rfl))
  have L1 : (0 : Int32).toInt ≤ x5.toInt + 0 := q9pC (q9evZ w0) (q9evS ae5) (hL _ (List.mem_of_getElem? (i := 1) rfl))
  have L2 : x5.toInt ≤ (Int32.ofInt 60).toInt + 0 := q9pC (q9evS ae5) (q9evC w0 60) (hL _ (List.mem_of_getElem? (i := 2) rfl))
  have L3 : (0 : Int32).toInt ≤ x6.toInt + 0 := q9pC (q9evZ w0) (q9evS ae6) (hL _ (List.mem_of_getElem? (i := 3) rfl))
  have L4 : x6.toInt ≤ (Int32.ofInt 4).toInt + 0 := q9pC (q9evS ae6) (q9evC w0 4) (hL _ (List.mem_of_getElem? (i := 4) rfl))
  have X2 := q9th_pX (T := T) (N := N) (P := P) (J := J) (t0 := t0) (Sc := Sc) (op := 1002) (q9evS ae0) (q9evZ w0) (q9evS ae1) (hX _ (List.mem_of_getElem? (i := 2) rfl)) (by decide)
  rw [q9FF_1002] at X2
  have H2 := Option.some.inj X2
  try simp only [kz, k1, k4, k59, k60] at H2
  have V1 := q9pV (T := T) (N := N) (P := P) (J := J) (t0 := t0) (Sc := Sc) (op := 1013) (n := 1) (q9evS ae1) (q9evZ w0) (hV _ (List.mem_of_getElem? (i := 1) rfl)) (by decide)
  rw [q9FF_1013] at V1
  have K1 := Option.some.inj V1
  try simp only [kz, k1, k4, k59, k60] at K1
  have X3 := q9th_pX (T := T) (N := N) (P := P) (J := J) (t0 := t0) (Sc := Sc) (op := 1003) (q9evS ae1) (q9evZ w0) (q9evS ae2) (hX _ (List.mem_of_getElem? (i := 3) rfl)) (by decide)
  rw [q9FF_1003] at X3
  have H3 := Option.some.inj X3
  try simp only [kz, k1, k4, k59, k60] at H3
  have X4 := q9th_pX (T := T) (N := N) (P := P) (J := J) (t0 := t0) (Sc := Sc) (op := 1266) (q9evS ae2) (q9evZ w0) (q9evS ae4) (hX _ (List.mem_of_getElem? (i := 4) rfl)) (by decide)
  rw [q9FF_1266] at X4
  have H4 := Option.some.inj X4
  try simp only [kz, k1, k4, k59, k60] at H4
  have L5 : (Int32.ofInt 1).toInt ≤ x4.toInt + 0 := q9pC (q9evC w0 1) (q9evS ae4) (hL _ (List.mem_of_getElem? (i := 5) rfl))
  have X5 := q9th_pX (T := T) (N := N) (P := P) (J := J) (t0 := t0) (Sc := Sc) (op := 1267) (q9evS ae2) (q9evZ w0) (q9evS ae3) (hX _ (List.mem_of_getElem? (i := 5) rfl)) (by decide)
  rw [q9FF_1267] at X5
  have H5 := Option.some.inj X5
  try simp only [kz, k1, k4, k59, k60] at H5
  have L6 : x5.toInt ≤ (Int32.ofInt 59).toInt + 0 := q9pC (q9evS ae5) (q9evC w0 59) (hL _ (List.mem_of_getElem? (i := 6) rfl))
  obtain ⟨c, hv, hc, h8, h9, -⟩ := K0
  have hd : x6.toInt + 1 = c.2.2.length := q9th_at_of hv hc H0
  have hz : x5.toInt = c.2.1 := q9th_at_of hv hc H1
  have hb : q9spI T N c.1 = x1.toInt := by rw [hc]; exact H2
  obtain ⟨q, st, hst⟩ : ∃ q st, c.2.2 = q :: st := by
    cases hh : c.2.2 with
    | nil => exfalso; rw [hh, List.length_nil] at hd; omega
    | cons q st => exact ⟨q, st, rfl⟩
  have hl2 : c.2.2.length = st.length + 1 := by rw [hst, List.length_cons]
  have hk : q9kbI T N (q9spI T N c.1) = 1 := by rw [hb]; exact K1
  have hl : q9lkI T N c = 1 := by rw [q9lk_of h8 (by omega), hk]
  have he : q9weI T N x1.toInt = x2.toInt := H3
  have hr : q9rcI T N P J c = (x4.toInt, x3.toInt) := by unfold q9rcI q9rsI; rw [hl, hb, he]; exact Prod.ext H4 H5
  have hn : q9th_nxI T N P J c = none := q9nx_no h8 (.inl fun hk => by have := hk.2.2.2.2; rw [hr] at this; dsimp only at this; omega)
  have hre : q9th_reI T N P J c = (x4.toInt, x3.toInt) := by unfold q9th_reI; rw [if_neg h8, if_neg (by omega), if_neg (by omega), if_neg (by omega), if_neg (by rw [hr]; dsimp only; omega), hr]
  have u_ : q9upN w 8 [] 0 = .int 0 := q9upN_of (by decide) w0
  have u0 : q9upN w 8 [] 1 = .int x0 := q9upN_of (by decide) ae0
  have u1 : q9upN w 8 [] 2 = .int x1 := q9upN_of (by decide) ae1
  have u2 : q9upN w 8 [] 3 = .int x2 := q9upN_of (by decide) ae2
  have u3 : q9upN w 8 [] 4 = .int x3 := q9upN_of (by decide) ae3
  have u4 : q9upN w 8 [] 5 = .int x4 := q9upN_of (by decide) ae4
  have u5 : q9upN w 8 [] 6 = .int x5 := q9upN_of (by decide) ae5
  have u6 : q9upN w 8 [] 7 = .int x6 := q9upN_of (by decide) ae6
  refine ⟨[], fun i9 p9 hq9 => ?_, List.forall_mem_cons.mpr ⟨?_, List.forall_mem_cons.mpr ⟨?_, fun _ h => absurd h List.not_mem_nil⟩⟩, fun _ h => absurd h List.not_mem_nil⟩
  · exact nomatch (show (none : Option (Nat × q9AV × q9AV × q9ET)) = some p9 from hq9)
  · exact q9th_tX (T := T) (N := N) (P := P) (J := J) (t0 := t0) (Sc := Sc) (q9evZ u_) (q9evZ u_) (q9evS u4) (by rw [q9FF_1040]; exact (by rw [← q9FF_1040 (t0 := t0) (Sc := Sc) (a := (0 : Int32).toInt) (b := (0 : Int32).toInt)]; exact q9F_rsk hv hn (by rw [hre]))) (by decide)
  · exact q9th_tX (T := T) (N := N) (P := P) (J := J) (t0 := t0) (Sc := Sc) (q9evZ u_) (q9evZ u_) (q9evS u3) (by rw [q9FF_1041]; exact (by rw [← q9FF_1041 (t0 := t0) (Sc := Sc) (a := (0 : Int32).toInt) (b := (0 : Int32).toInt)]; exact q9F_rsp hv hn (by rw [hre]; dsimp only; omega) (by rw [hre]))) (by decide)
theorem q9ru_cfr2 (hT : ∀ i, 0 ≤ T i ∧ T i ≤ 255) (hN : 0 ≤ N ∧ N ≤ 400) (hSc : 0 ≤ Sc 1 ∧ Sc 1 ≤ 400 → N = Sc 1) : q9ruOK (fO T N P J t0 Sc) q9R_cfr2 := by
  intro w w0 hA hX hL hV hR
  obtain ⟨x0, ae0, -, -⟩ := hA 0 0 rfl
  obtain ⟨x1, ae1, -, -⟩ := hA 1 0 rfl
  obtain ⟨x2, ae2, -, -⟩ := hA 2 0 rfl
  obtain ⟨x3, ae3, -, -⟩ := hA 3 0 rfl
  obtain ⟨x4, ae4, -, -⟩ := hA 4 0 rfl
  obtain ⟨x5, ae5, -, -⟩ := hA 5 0 rfl
  obtain ⟨x6, ae6, -, -⟩ := hA 6 0 rfl
  have kz : (0 : Int32).toInt = 0 := rfl
  have k1 : (Int32.ofInt 1).toInt = 1 := q9oI_toInt (by decide)
  have k4 : (Int32.ofInt 4).toInt = 4 := q9oI_toInt (by decide)
  have k59 : (Int32.ofInt 59).toInt = 59 := q9oI_toInt (by decide)
  have k60 : (Int32.ofInt 60).toInt = 60 := q9oI_toInt (by decide)
  have V0 := q9pV (T := T) (N := N) (P := P) (J := J) (t0 := t0) (Sc := Sc) (op := 1027) (n := 1) (q9evS ae0) (q9evZ w0) (hV _ (List.mem_of_getElem? (i := 0) rfl)) (by decide)
  rw [q9FF_1027] at V0
  have K0 := q9chV_of V0
  try simp only [kz, k1, k4, k59, k60] at K0
  have X0 := q9th_pX (T := T) (N := N) (P := P) (J := J) (t0 := t0) (Sc := Sc) (op := 1021) (q9evS ae0) (q9evZ w0) (q9evS ae6) (hX _ (List.mem_of_getElem? (i := 0) rfl)) (by decide)
  rw [q9FF_1021] at X0
  have H0 := q9chV_of X0
  try simp only [kz, k1, k4, k59, k60] at H0
  have X1 := q9th_pX (T := T) (N := N) (P := P) (J := J) (t0 := t0) (Sc := Sc) (op := 1022) (q9evS ae0) (q9evZ w0) (q9evS ae5) (hX _ (List.mem_of_getElem? (i := 1) rfl)) (by decide)
  rw [q9FF_1022] at X1
  have H1 := q9chV_of X1
  try simp only [kz, k1, k4, k59, k60] at H1
  have L0 : (0 : Int32).toInt ≤ x0.toInt + 0 := q9pC (q9evZ w0) (q9evS ae0) (hL _ (List.mem_of_getElem? (i := 0) rfl))
  have L1 : (0 : Int32).toInt ≤ x5.toInt + 0 := q9pC (q9evZ w0) (q9evS ae5) (hL _ (List.mem_of_getElem? (i := 1) rfl))
  have L2 : x5.toInt ≤ (Int32.ofInt 60).toInt + 0 := q9pC (q9evS ae5) (q9evC w0 60) (hL _ (List.mem_of_getElem? (i := 2) rfl))
  have L3 : (0 : Int32).toInt ≤ x6.toInt + 0 := q9pC (q9evZ w0) (q9evS ae6) (hL _ (List.mem_of_getElem? (i := 3) rfl))
  have L4 : x6.toInt ≤ (Int32.ofInt 4).toInt + 0 := q9pC (q9evS ae6) (q9evC w0 4) (hL _ (List.mem_of_getElem? (i := 4) rfl))
  have X2 := q9th_pX (T := T) (N := N) (P := P) (J := J) (t0 := t0) (Sc := Sc) (op := 1002) (q9evS ae0) (q9evZ w0) (q9evS ae1) (hX _ (List.mem_of_getElem? (i := 2) rfl)) (by decide)
  rw [q9FF_1002] at X2
  have H2 := Option.some.inj X2
  try simp only [kz, k1, k4, k59, k60] at H2
  have V1 := q9pV (T := T) (N := N) (P := P) (J := J) (t0 := t0) (Sc := Sc) (op := 1013) (n := 2) (q9evS ae1) (q9evZ w0) (hV _ (List.mem_of_getElem? (i := 1) rfl)) (by decide)
  rw [q9FF_1013] at V1
  have K1 := Option.some.inj V1
  try simp only [kz, k1, k4, k59, k60] at K1
  have X3 := q9th_pX (T := T) (N := N) (P := P) (J := J) (t0 := t0) (Sc := Sc) (op := 1003) (q9evS ae1) (q9evZ w0) (q9evS ae2) (hX _ (List.mem_of_getElem? (i := 3) rfl)) (by decide)
  rw [q9FF_1003] at X3
  have H3 := Option.some.inj X3
  try simp only [kz, k1, k4, k59, k60] at H3
  have X4 := q9th_pX (T := T) (N := N) (P := P) (J := J) (t0 := t0) (Sc := Sc) (op := 1262) (q9evS ae2) (q9evZ w0) (q9evS ae4) (hX _ (List.mem_of_getElem? (i := 4) rfl)) (by decide)
  rw [q9FF_1262] at X4
  have H4 := Option.some.inj X4
  try simp only [kz, k1, k4, k59, k60] at H4
  have L5 : (Int32.ofInt 1).toInt ≤ x4.toInt + 0 := q9pC (q9evC w0 1) (q9evS ae4) (hL _ (List.mem_of_getElem? (i := 5) rfl))
  have X5 := q9th_pX (T := T) (N := N) (P := P) (J := J) (t0 := t0) (Sc := Sc) (op := 1263) (q9evS ae2) (q9evZ w0) (q9evS ae3) (hX _ (List.mem_of_getElem? (i := 5) rfl)) (by decide)
  rw [q9FF_1263] at X5
  have H5 := Option.some.inj X5
  try simp only [kz, k1, k4, k59, k60] at H5
  have L6 : x5.toInt ≤ (Int32.ofInt 59).toInt + 0 := q9pC (q9evS ae5) (q9evC w0 59) (hL _ (List.mem_of_getElem? (i := 6) rfl))
  obtain ⟨c, hv, hc, h8, h9, -⟩ := K0
  have hd : x6.toInt + 1 = c.2.2.length := q9th_at_of hv hc H0
  have hz : x5.toInt = c.2.1 := q9th_at_of hv hc H1
  have hb : q9spI T N c.1 = x1.toInt := by rw [hc]; exact H2
  obtain ⟨q, st, hst⟩ : ∃ q st, c.2.2 = q :: st := by
    cases hh : c.2.2 with
    | nil => exfalso; rw [hh, List.length_nil] at hd; omega
    | cons q st => exact ⟨q, st, rfl⟩
  have hl2 : c.2.2.length = st.length + 1 := by rw [hst, List.length_cons]
  have hk : q9kbI T N (q9spI T N c.1) = 2 := by rw [hb]; exact K1
  have hl : q9lkI T N c = 2 := by rw [q9lk_of h8 (by omega), hk]
  have he : q9weI T N x1.toInt = x2.toInt := H3
  have hr : q9rcI T N P J c = (x4.toInt, x3.toInt) := by unfold q9rcI q9rsI; rw [hl, hb, he]; exact Prod.ext H4 H5
  have hn : q9th_nxI T N P J c = none := q9nx_no h8 (.inl fun hk => by have := hk.2.2.2.2; rw [hr] at this; dsimp only at this; omega)
  have hre : q9th_reI T N P J c = (x4.toInt, x3.toInt) := by unfold q9th_reI; rw [if_neg h8, if_neg (by omega), if_neg (by omega), if_neg (by omega), if_neg (by rw [hr]; dsimp only; omega), hr]
  have u_ : q9upN w 8 [] 0 = .int 0 := q9upN_of (by decide) w0
  have u0 : q9upN w 8 [] 1 = .int x0 := q9upN_of (by decide) ae0
  have u1 : q9upN w 8 [] 2 = .int x1 := q9upN_of (by decide) ae1
  have u2 : q9upN w 8 [] 3 = .int x2 := q9upN_of (by decide) ae2
  have u3 : q9upN w 8 [] 4 = .int x3 := q9upN_of (by decide) ae3
  have u4 : q9upN w 8 [] 5 = .int x4 := q9upN_of (by decide) ae4
  have u5 : q9upN w 8 [] 6 = .int x5 := q9upN_of (by decide) ae5
  have u6 : q9upN w 8 [] 7 = .int x6 := q9upN_of (by decide) ae6
  refine ⟨[], fun i9 p9 hq9 => ?_, List.forall_mem_cons.mpr ⟨?_, List.forall_mem_cons.mpr ⟨?_, fun _ h => absurd h List.not_mem_nil⟩⟩, fun _ h => absurd h List.not_mem_nil⟩
  · exact nomatch (show (none : Option (Nat × q9AV × q9AV × q9ET)) = some p9 from hq9)
  · exact q9th_tX (T := T) (N := N) (P := P) (J := J) (t0 := t0) (Sc := Sc) (q9evZ u_) (q9evZ u_) (q9evS u4) (by rw [q9FF_1040]; exact (by rw [← q9FF_1040 (t0 := t0) (Sc := Sc) (a := (0 : Int32).toInt) (b := (0 : Int32).toInt)]; exact q9F_rsk hv hn (by rw [hre]))) (by decide)
  · exact q9th_tX (T := T) (N := N) (P := P) (J := J) (t0 := t0) (Sc := Sc) (q9evZ u_) (q9evZ u_) (q9evS u3) (by rw [q9FF_1041]; exact (by rw [← q9FF_1041 (t0 := t0) (Sc := Sc) (a := (0 : Int32).toInt) (b := (0 : Int32).toInt)]; exact q9F_rsp hv hn (by rw [hre]; dsimp only; omega) (by rw [hre]))) (by decide)
theorem q9ru_cfr3 (hT : ∀ i, 0 ≤ T i ∧ T i ≤ 255) (hN : 0 ≤ N ∧ N ≤ 400) (hSc : 0 ≤ Sc 1 ∧ Sc 1 ≤ 400 → N = Sc 1) : q9ruOK (fO T N P J t0 Sc) q9R_cfr3 := by
  intro w w0 hA hX hL hV hR
  obtain ⟨x0, ae0, -, -⟩ := hA 0 0 rfl
  obtain ⟨x1, ae1, -, -⟩ := hA 1 0 rfl
  obtain ⟨x2, ae2, -, -⟩ := hA 2 0 rfl
  obtain ⟨x3, ae3, -, -⟩ := hA 3 0 rfl
  obtain ⟨x4, ae4, -, -⟩ := hA 4 0 rfl
  obtain ⟨x5, ae5, -, -⟩ := hA 5 0 rfl
  obtain ⟨x6, ae6, -, -⟩ := hA 6 0 rfl
  have kz : (0 : Int32).toInt = 0 := rfl
  have k1 : (Int32.ofInt 1).toInt = 1 := q9oI_toInt (by decide)
  have k4 : (Int32.ofInt 4).toInt = 4 := q9oI_toInt (by decide)
  have k59 : (Int32.ofInt 59).toInt = 59 := q9oI_toInt (by decide)
  have k60 : (Int32.ofInt 60).toInt = 60 := q9oI_toInt (by decide)
  have V0 := q9pV (T := T) (N := N) (P := P) (J := J) (t0 := t0) (Sc := Sc) (op := 1027) (n := 1) (q9evS ae0) (q9evZ w0) (hV _ (List.mem_of_getElem? (i := 0) rfl)) (by decide)
  rw [q9FF_1027] at V0
  have K0 := q9chV_of V0
  try simp only [kz, k1, k4, k59, k60] at K0
  have X0 := q9th_pX (T := T) (N := N) (P := P) (J := J) (t0 := t0) (Sc := Sc) (op := 1021) (q9evS ae0) (q9evZ w0) (q9evS ae6) (hX _ (List.mem_of_getElem? (i := 0) rfl)) (by decide)
  rw [q9FF_1021] at X0
  have H0 := q9chV_of X0
  try simp only [kz, k1, k4, k59, k60] at H0
  have X1 := q9th_pX (T := T) (N := N) (P := P) (J := J) (t0 := t0) (Sc := Sc) (op := 1022) (q9evS ae0) (q9evZ w0) (q9evS ae5) (hX _ (List.mem_of_getElem? (i := 1) rfl)) (by decide)
  rw [q9FF_1022] at X1
  have H1 := q9chV_of X1
  try simp only [kz, k1, k4, k59, k60] at H1
  have L0 : (0 : Int32).toInt ≤ x0.toInt + 0 := q9pC (q9evZ w0) (q9evS ae0) (hL _ (List.mem_of_getElem? (i := 0) rfl))
  have L1 : (0 : Int32).toInt ≤ x5.toInt + 0 := q9pC (q9evZ w0) (q9evS ae5) (hL _ (List.mem_of_getElem? (i := 1) rfl))
  have L2 : x5.toInt ≤ (Int32.ofInt 60).toInt + 0 := q9pC (q9evS ae5) (q9evC w0 60) (hL _ (List.mem_of_getElem? (i := 2) rfl))
  have L3 : (0 : Int32).toInt ≤ x6.toInt + 0 := q9pC (q9evZ w0) (q9evS ae6) (hL _ (List.mem_of_getElem? (i := 3) rfl))
  have L4 : x6.toInt ≤ (Int32.ofInt 4).toInt + 0 := q9pC (q9evS ae6) (q9evC w0 4) (hL _ (List.mem_of_getElem? (i := 4) rfl))
  have X2 := q9th_pX (T := T) (N := N) (P := P) (J := J) (t0 := t0) (Sc := Sc) (op := 1002) (q9evS ae0) (q9evZ w0) (q9evS ae1) (hX _ (List.mem_of_getElem? (i := 2) rfl)) (by decide)
  rw [q9FF_1002] at X2
  have H2 := Option.some.inj X2
  try simp only [kz, k1, k4, k59, k60] at H2
  have V1 := q9pV (T := T) (N := N) (P := P) (J := J) (t0 := t0) (Sc := Sc) (op := 1013) (n := 3) (q9evS ae1) (q9evZ w0) (hV _ (List.mem_of_getElem? (i := 1) rfl)) (by decide)
  rw [q9FF_1013] at V1
  have K1 := Option.some.inj V1
  try simp only [kz, k1, k4, k59, k60] at K1
  have X3 := q9th_pX (T := T) (N := N) (P := P) (J := J) (t0 := t0) (Sc := Sc) (op := 1003) (q9evS ae1) (q9evZ w0) (q9evS ae2) (hX _ (List.mem_of_getElem? (i := 3) rfl)) (by decide)
  rw [q9FF_1003] at X3
  have H3 := Option.some.inj X3
  try simp only [kz, k1, k4, k59, k60] at H3
  have X4 := q9th_pX (T := T) (N := N) (P := P) (J := J) (t0 := t0) (Sc := Sc) (op := 1212) (q9evS ae2) (q9evZ w0) (q9evS ae4) (hX _ (List.mem_of_getElem? (i := 4) rfl)) (by decide)
  rw [q9FF_1212] at X4
  have H4 := Option.some.inj X4
  try simp only [kz, k1, k4, k59, k60] at H4
  have L5 : (Int32.ofInt 1).toInt ≤ x4.toInt + 0 := q9pC (q9evC w0 1) (q9evS ae4) (hL _ (List.mem_of_getElem? (i := 5) rfl))
  have X5 := q9th_pX (T := T) (N := N) (P := P) (J := J) (t0 := t0) (Sc := Sc) (op := 1213) (q9evS ae2) (q9evZ w0) (q9evS ae3) (hX _ (List.mem_of_getElem? (i := 5) rfl)) (by decide)
  rw [q9FF_1213] at X5
  have H5 := Option.some.inj X5
  try simp only [kz, k1, k4, k59, k60] at H5
  have L6 : x5.toInt ≤ (Int32.ofInt 59).toInt + 0 := q9pC (q9evS ae5) (q9evC w0 59) (hL _ (List.mem_of_getElem? (i := 6) rfl))
  obtain ⟨c, hv, hc, h8, h9, -⟩ := K0
  have hd : x6.toInt + 1 = c.2.2.length := q9th_at_of hv hc H0
  have hz : x5.toInt = c.2.1 := q9th_at_of hv hc H1
  have hb : q9spI T N c.1 = x1.toInt := by rw [hc]; exact H2
  obtain ⟨q, st, hst⟩ : ∃ q st, c.2.2 = q :: st := by
    cases hh : c.2.2 with
    | nil => exfalso; rw [hh, List.length_nil] at hd; omega
    | cons q st => exact ⟨q, st, rfl⟩
  have hl2 : c.2.2.length = st.length + 1 := by rw [hst, List.length_cons]
  have hk : q9kbI T N (q9spI T N c.1) = 3 := by rw [hb]; exact K1
  have hl : q9lkI T N c = 3 := by rw [q9lk_of h8 (by omega), hk]
  have he : q9weI T N x1.toInt = x2.toInt := H3
  have hr : q9rcI T N P J c = (x4.toInt, x3.toInt) := by unfold q9rcI q9rsI; rw [hl, hb, he]; exact Prod.ext H4 H5
  have hn : q9th_nxI T N P J c = none := q9nx_no h8 (.inl fun hk => by have := hk.2.2.2.2; rw [hr] at this; dsimp only at this; omega)
  have hre : q9th_reI T N P J c = (x4.toInt, x3.toInt) := by unfold q9th_reI; rw [if_neg h8, if_neg (by omega), if_neg (by omega), if_neg (by omega), if_neg (by rw [hr]; dsimp only; omega), hr]
  have u_ : q9upN w 8 [] 0 = .int 0 := q9upN_of (by decide) w0
  have u0 : q9upN w 8 [] 1 = .int x0 := q9upN_of (by decide) ae0
  have u1 : q9upN w 8 [] 2 = .int x1 := q9upN_of (by decide) ae1
  have u2 : q9upN w 8 [] 3 = .int x2 := q9upN_of (by decide) ae2
  have u3 : q9upN w 8 [] 4 = .int x3 := q9upN_of (by decide) ae3
  have u4 : q9upN w 8 [] 5 = .int x4 := q9upN_of (by decide) ae4
  have u5 : q9upN w 8 [] 6 = .int x5 := q9upN_of (by decide) ae5
  have u6 : q9upN w 8 [] 7 = .int x6 := q9upN_of (by decide) ae6
  refine ⟨[], fun i9 p9 hq9 => ?_, List.forall_mem_cons.mpr ⟨?_, List.forall_mem_cons.mpr ⟨?_, fun _ h => absurd h List.not_mem_nil⟩⟩, fun _ h => absurd h List.not_mem_nil⟩
  · exact nomatch (show (none : Option (Nat × q9AV × q9AV × q9ET)) = some p9 from hq9)
  · exact q9th_tX (T := T) (N := N) (P := P) (J := J) (t0 := t0) (Sc := Sc) (q9evZ u_) (q9evZ u_) (q9evS u4) (by rw [q9FF_1040]; exact (by rw [← q9FF_1040 (t0 := t0) (Sc := Sc) (a := (0 : Int32).toInt) (b := (0 : Int32).toInt)]; exact q9F_rsk hv hn (by rw [hre]))) (by decide)
  · exact q9th_tX (T := T) (N := N) (P := P) (J := J) (t0 := t0) (Sc := Sc) (q9evZ u_) (q9evZ u_) (q9evS u3) (by rw [q9FF_1041]; exact (by rw [← q9FF_1041 (t0 := t0) (Sc := Sc) (a := (0 : Int32).toInt) (b := (0 : Int32).toInt)]; exact q9F_rsp hv hn (by rw [hre]; dsimp only; omega) (by rw [hre]))) (by decide)
theorem q9ru_cfr4 (hT : ∀ i, 0 ≤ T i ∧ T i ≤ 255) (hN : 0 ≤ N ∧ N ≤ 400) (hSc : 0 ≤ Sc 1 ∧ Sc 1 ≤ 400 → N = Sc 1) : q9ruOK (fO T N P J t0 Sc) q9R_cfr4 := by
  intro w w0 hA hX hL hV hR
  obtain ⟨x0, ae0, -, -⟩ := hA 0 0 rfl
  obtain ⟨x1, ae1, -, -⟩ := hA 1 0 rfl
  obtain ⟨x2, ae2, -, -⟩ := hA 2 0 rfl
  obtain ⟨x3, ae3, -, -⟩ := hA 3 0 rfl
  obtain ⟨x4, ae4, -, -⟩ := hA 4 0 rfl
  obtain ⟨x5, ae5, -, -⟩ := hA 5 0 rfl
  obtain ⟨x6, ae6, -, -⟩ := hA 6 0 rfl
  have kz : (0 : Int32).toInt = 0 := rfl
  have k1 : (Int32.ofInt 1).toInt = 1 := q9oI_toInt (by decide)
  have k4 : (Int32.ofInt 4).toInt = 4 := q9oI_toInt (by decide)
  have k59 : (Int32.ofInt 59).toInt = 59 := q9oI_toInt (by decide)
  have k60 : (Int32.ofInt 60).toInt = 60 := q9oI_toInt (by decide)
  have V0 := q9pV (T := T) (N := N) (P := P) (J := J) (t0 := t0) (Sc := Sc) (op := 1027) (n := 1) (q9evS ae0) (q9evZ w0) (hV _ (List.mem_of_getElem? (i := 0) rfl)) (by decide)
  rw [q9FF_1027] at V0
  have K0 := q9chV_of V0
  try simp only [kz, k1, k4, k59, k60] at K0
  have X0 := q9th_pX (T := T) (N := N) (P := P) (J := J) (t0 := t0) (Sc := Sc) (op := 1021) (q9evS ae0) (q9evZ w0) (q9evS ae6) (hX _ (List.mem_of_getElem? (i := 0) rfl)) (by decide)
  rw [q9FF_1021] at X0
  have H0 := q9chV_of X0
  try simp only [kz, k1, k4, k59, k60] at H0
  have X1 := q9th_pX (T := T) (N := N) (P := P) (J := J) (t0 := t0) (Sc := Sc) (op := 1022) (q9evS ae0) (q9evZ w0) (q9evS ae5) (hX _ (List.mem_of_getElem? (i := 1) rfl)) (by decide)
  rw [q9FF_1022] at X1
  have H1 := q9chV_of X1
  try simp only [kz, k1, k4, k59, k60] at H1
  have L0 : (0 : Int32).toInt ≤ x0.toInt + 0 := q9pC (q9evZ w0) (q9evS ae0) (hL _ (List.mem_of_getElem? (i := 0) rfl))
  have L1 : (0 : Int32).toInt ≤ x5.toInt + 0 := q9pC (q9evZ w0) (q9evS ae5) (hL _ (List.mem_of_getElem? (i := 1) rfl))
  have L2 : x5.toInt ≤ (Int32.ofInt 60).toInt + 0 := q9pC (q9evS ae5) (q9evC w0 60) (hL _ (List.mem_of_getElem? (i := 2) rfl))
  have L3 : (0 : Int32).toInt ≤ x6.toInt + 0 := q9pC (q9evZ w0) (q9evS ae6) (hL _ (List.mem_of_getElem? (i := 3) rfl))
  have L4 : x6.toInt ≤ (Int32.ofInt 4).toInt + 0 := q9pC (q9evS ae6) (q9evC w0 4) (hL _ (List.mem_of_getElem? (i := 4) rfl))
  have X2 := q9th_pX (T := T) (N := N) (P := P) (J := J) (t0 := t0) (Sc := Sc) (op := 1002) (q9evS ae0) (q9evZ w0) (q9evS ae1) (hX _ (List.mem_of_getElem? (i := 2) rfl)) (by decide)
  rw [q9FF_1002] at X2
  have H2 := Option.some.inj X2
  try simp only [kz, k1, k4, k59, k60] at H2
  have V1 := q9pV (T := T) (N := N) (P := P) (J := J) (t0 := t0) (Sc := Sc) (op := 1013) (n := 4) (q9evS ae1) (q9evZ w0) (hV _ (List.mem_of_getElem? (i := 1) rfl)) (by decide)
  rw [q9FF_1013] at V1
  have K1 := Option.some.inj V1
  try simp only [kz, k1, k4, k59, k60] at K1
  have X3 := q9th_pX (T := T) (N := N) (P := P) (J := J) (t0 := t0) (Sc := Sc) (op := 1003) (q9evS ae1) (q9evZ w0) (q9evS ae2) (hX _ (List.mem_of_getElem? (i := 3) rfl)) (by decide)
  rw [q9FF_1003] at X3
  have H3 := Option.some.inj X3
  try simp only [kz, k1, k4, k59, k60] at H3
  have X4 := q9th_pX (T := T) (N := N) (P := P) (J := J) (t0 := t0) (Sc := Sc) (op := 1212) (q9evS ae2) (q9evZ w0) (q9evS ae4) (hX _ (List.mem_of_getElem? (i := 4) rfl)) (by decide)
  rw [q9FF_1212] at X4
  have H4 := Option.some.inj X4
  try simp only [kz, k1, k4, k59, k60] at H4
  have L5 : (Int32.ofInt 1).toInt ≤ x4.toInt + 0 := q9pC (q9evC w0 1) (q9evS ae4) (hL _ (List.mem_of_getElem? (i := 5) rfl))
  have X5 := q9th_pX (T := T) (N := N) (P := P) (J := J) (t0 := t0) (Sc := Sc) (op := 1213) (q9evS ae2) (q9evZ w0) (q9evS ae3) (hX _ (List.mem_of_getElem? (i := 5) rfl)) (by decide)
  rw [q9FF_1213] at X5
  have H5 := Option.some.inj X5
  try simp only [kz, k1, k4, k59, k60] at H5
  have L6 : x5.toInt ≤ (Int32.ofInt 59).toInt + 0 := q9pC (q9evS ae5) (q9evC w0 59) (hL _ (List.mem_of_getElem? (i := 6) rfl))
  obtain ⟨c, hv, hc, h8, h9, -⟩ := K0
  have hd : x6.toInt + 1 = c.2.2.length := q9th_at_of hv hc H0
  have hz : x5.toInt = c.2.1 := q9th_at_of hv hc H1
  have hb : q9spI T N c.1 = x1.toInt := by rw [hc]; exact H2
  obtain ⟨q, st, hst⟩ : ∃ q st, c.2.2 = q :: st := by
    cases hh : c.2.2 with
    | nil => exfalso; rw [hh, List.length_nil] at hd; omega
    | cons q st => exact ⟨q, st, rfl⟩
  have hl2 : c.2.2.length = st.length + 1 := by rw [hst, List.length_cons]
  have hk : q9kbI T N (q9spI T N c.1) = 4 := by rw [hb]; exact K1
  have hl : q9lkI T N c = 4 := by rw [q9lk_of h8 (by omega), hk]
  have he : q9weI T N x1.toInt = x2.toInt := H3
  have hr : q9rcI T N P J c = (x4.toInt, x3.toInt) := by unfold q9rcI q9rsI; rw [hl, hb, he]; exact Prod.ext H4 H5
  have hn : q9th_nxI T N P J c = none := q9nx_no h8 (.inl fun hk => by have := hk.2.2.2.2; rw [hr] at this; dsimp only at this; omega)
  have hre : q9th_reI T N P J c = (x4.toInt, x3.toInt) := by unfold q9th_reI; rw [if_neg h8, if_neg (by omega), if_neg (by omega), if_neg (by omega), if_neg (by rw [hr]; dsimp only; omega), hr]
  have u_ : q9upN w 8 [] 0 = .int 0 := q9upN_of (by decide) w0
  have u0 : q9upN w 8 [] 1 = .int x0 := q9upN_of (by decide) ae0
  have u1 : q9upN w 8 [] 2 = .int x1 := q9upN_of (by decide) ae1
  have u2 : q9upN w 8 [] 3 = .int x2 := q9upN_of (by decide) ae2
  have u3 : q9upN w 8 [] 4 = .int x3 := q9upN_of (by decide) ae3
  have u4 : q9upN w 8 [] 5 = .int x4 := q9upN_of (by decide) ae4
  have u5 : q9upN w 8 [] 6 = .int x5 := q9upN_of (by decide) ae5
  have u6 : q9upN w 8 [] 7 = .int x6 := q9upN_of (by decide) ae6
  refine ⟨[], fun i9 p9 hq9 => ?_, List.forall_mem_cons.mpr ⟨?_, List.forall_mem_cons.mpr ⟨?_, fun _ h => absurd h List.not_mem_nil⟩⟩, fun _ h => absurd h List.not_mem_nil⟩
  · exact nomatch (show (none : Option (Nat × q9AV × q9AV × q9ET)) = some p9 from hq9)
  · exact q9th_tX (T := T) (N := N) (P := P) (J := J) (t0 := t0) (Sc := Sc) (q9evZ u_) (q9evZ u_) (q9evS u4) (by rw [q9FF_1040]; exact (by rw [← q9FF_1040 (t0 := t0) (Sc := Sc) (a := (0 : Int32).toInt) (b := (0 : Int32).toInt)]; exact q9F_rsk hv hn (by rw [hre]))) (by decide)
  · exact q9th_tX (T := T) (N := N) (P := P) (J := J) (t0 := t0) (Sc := Sc) (q9evZ u_) (q9evZ u_) (q9evS u3) (by rw [q9FF_1041]; exact (by rw [← q9FF_1041 (t0 := t0) (Sc := Sc) (a := (0 : Int32).toInt) (b := (0 : Int32).toInt)]; exact q9F_rsp hv hn (by rw [hre]; dsimp only; omega) (by rw [hre]))) (by decide)
theorem q9ru_cfr5 (hT : ∀ i, 0 ≤ T i ∧ T i ≤ 255) (hN : 0 ≤ N ∧ N ≤ 400) (hSc : 0 ≤ Sc 1 ∧ Sc 1 ≤ 400 → N = Sc 1) : q9ruOK (fO T N P J t0 Sc) q9R_cfr5 := by
  intro w w0 hA hX hL hV hR
  obtain ⟨x0, ae0, -, -⟩ := hA 0 0 rfl
  obtain ⟨x1, ae1, -, -⟩ := hA 1 0 rfl
  obtain ⟨x2, ae2, -, -⟩ := hA 2 0 rfl
  obtain ⟨x3, ae3, -, -⟩ := hA 3 0 rfl
  obtain ⟨x4, ae4, -, -⟩ := hA 4 0 rfl
  obtain ⟨x5, ae5, -, -⟩ := hA 5 0 rfl
  obtain ⟨x6, ae6, -, -⟩ := hA 6 0 rfl
  have kz : (0 : Int32).toInt = 0 := rfl
  have k1 : (Int32.ofInt 1).toInt = 1 := q9oI_toInt (by decide)
  have k4 : (Int32.ofInt 4).toInt = 4 := q9oI_toInt (by decide)
  have k59 : (Int32.ofInt 59).toInt = 59 := q9oI_toInt (by decide)
  have k60 : (Int32.ofInt 60).toInt = 60 := q9oI_toInt (by decide)
  have V0 := q9pV (T := T) (N := N) (P := P) (J := J) (t0 := t0) (Sc := Sc) (op := 1027) (n := 1) (q9evS ae0) (q9evZ w0) (hV _ (List.mem_of_getElem? (i := 0) rfl)) (by decide)
  rw [q9FF_1027] at V0
  have K0 := q9chV_of V0
  try simp only [kz, k1, k4, k59, k60] at K0
  have X0 := q9th_pX (T := T) (N := N) (P := P) (J := J) (t0 := t0) (Sc := Sc) (op := 1021) (q9evS ae0) (q9evZ w0) (q9evS ae6) (hX _ (List.mem_of_getElem? (i := 0) rfl)) (by decide)
  rw [q9FF_1021] at X0
  have H0 := q9chV_of X0
  try simp only [kz, k1, k4, k59, k60] at H0
  have X1 := q9th_pX (T := T) (N := N) (P := P) (J := J) (t0 := t0) (Sc := Sc) (op := 1022) (q9evS ae0) (q9evZ w0) (q9evS ae5) (hX _ (List.mem_of_getElem? (i := 1) rfl)) (by decide)
  rw [q9FF_1022] at X1
  have H1 := q9chV_of X1
  try simp only [kz, k1, k4, k59, k60] at H1
  have L0 : (0 : Int32).toInt ≤ x0.toInt + 0 := q9pC (q9evZ w0) (q9evS ae0) (hL _ (List.mem_of_getElem? (i := 0) rfl))
  have L1 : (0 : Int32).toInt ≤ x5.toInt + 0 := q9pC (q9evZ w0) (q9evS ae5) (hL _ (List.mem_of_getElem? (i := 1) rfl))
  have L2 : x5.toInt ≤ (Int32.ofInt 60).toInt + 0 := q9pC (q9evS ae5) (q9evC w0 60) (hL _ (List.mem_of_getElem? (i := 2) rfl))
  have L3 : (0 : Int32).toInt ≤ x6.toInt + 0 := q9pC (q9evZ w0) (q9evS ae6) (hL _ (List.mem_of_getElem? (i := 3) rfl))
  have L4 : x6.toInt ≤ (Int32.ofInt 4).toInt + 0 := q9pC (q9evS ae6) (q9evC w0 4) (hL _ (List.mem_of_getElem? (i := 4) rfl))
  have X2 := q9th_pX (T := T) (N := N) (P := P) (J := J) (t0 := t0) (Sc := Sc) (op := 1002) (q9evS ae0) (q9evZ w0) (q9evS ae1) (hX _ (List.mem_of_getElem? (i := 2) rfl)) (by decide)
  rw [q9FF_1002] at X2
  have H2 := Option.some.inj X2
  try simp only [kz, k1, k4, k59, k60] at H2
  have V1 := q9pV (T := T) (N := N) (P := P) (J := J) (t0 := t0) (Sc := Sc) (op := 1013) (n := 5) (q9evS ae1) (q9evZ w0) (hV _ (List.mem_of_getElem? (i := 1) rfl)) (by decide)
  rw [q9FF_1013] at V1
  have K1 := Option.some.inj V1
  try simp only [kz, k1, k4, k59, k60] at K1
  have X3 := q9th_pX (T := T) (N := N) (P := P) (J := J) (t0 := t0) (Sc := Sc) (op := 1003) (q9evS ae1) (q9evZ w0) (q9evS ae2) (hX _ (List.mem_of_getElem? (i := 3) rfl)) (by decide)
  rw [q9FF_1003] at X3
  have H3 := Option.some.inj X3
  try simp only [kz, k1, k4, k59, k60] at H3
  have X4 := q9th_pX (T := T) (N := N) (P := P) (J := J) (t0 := t0) (Sc := Sc) (op := 1260) (q9evS ae2) (q9evZ w0) (q9evS ae4) (hX _ (List.mem_of_getElem? (i := 4) rfl)) (by decide)
  rw [q9FF_1260] at X4
  have H4 := Option.some.inj X4
  try simp only [kz, k1, k4, k59, k60] at H4
  have L5 : (Int32.ofInt 1).toInt ≤ x4.toInt + 0 := q9pC (q9evC w0 1) (q9evS ae4) (hL _ (List.mem_of_getElem? (i := 5) rfl))
  have X5 := q9th_pX (T := T) (N := N) (P := P) (J := J) (t0 := t0) (Sc := Sc) (op := 1261) (q9evS ae2) (q9evZ w0) (q9evS ae3) (hX _ (List.mem_of_getElem? (i := 5) rfl)) (by decide)
  rw [q9FF_1261] at X5
  have H5 := Option.some.inj X5
  try simp only [kz, k1, k4, k59, k60] at H5
  have L6 : x5.toInt ≤ (Int32.ofInt 59).toInt + 0 := q9pC (q9evS ae5) (q9evC w0 59) (hL _ (List.mem_of_getElem? (i := 6) rfl))
  obtain ⟨c, hv, hc, h8, h9, -⟩ := K0
  have hd : x6.toInt + 1 = c.2.2.length := q9th_at_of hv hc H0
  have hz : x5.toInt = c.2.1 := q9th_at_of hv hc H1
  have hb : q9spI T N c.1 = x1.toInt := by rw [hc]; exact H2
  obtain ⟨q, st, hst⟩ : ∃ q st, c.2.2 = q :: st := by
    cases hh : c.2.2 with
    | nil => exfalso; rw [hh, List.length_nil] at hd; omega
    | cons q st => exact ⟨q, st, rfl⟩
  have hl2 : c.2.2.length = st.length + 1 := by rw [hst, List.length_cons]
  have hk : q9kbI T N (q9spI T N c.1) = 5 := by rw [hb]; exact K1
  have hl : q9lkI T N c = 5 := by rw [q9lk_of h8 (by omega), hk]
  have he : q9weI T N x1.toInt = x2.toInt := H3
  have hr : q9rcI T N P J c = (x4.toInt, x3.toInt) := by unfold q9rcI q9rsI; rw [hl, hb, he]; exact Prod.ext H4 H5
  have hn : q9th_nxI T N P J c = none := q9nx_no h8 (.inl fun hk => by have := hk.2.2.2.2; rw [hr] at this; dsimp only at this; omega)
  have hre : q9th_reI T N P J c = (x4.toInt, x3.toInt) := by unfold q9th_reI; rw [if_neg h8, if_neg (by omega), if_neg (by omega), if_neg (by omega), if_neg (by rw [hr]; dsimp only; omega), hr]
  have u_ : q9upN w 8 [] 0 = .int 0 := q9upN_of (by decide) w0
  have u0 : q9upN w 8 [] 1 = .int x0 := q9upN_of (by decide) ae0
  have u1 : q9upN w 8 [] 2 = .int x1 := q9upN_of (by decide) ae1
  have u2 : q9upN w 8 [] 3 = .int x2 := q9upN_of (by decide) ae2
  have u3 : q9upN w 8 [] 4 = .int x3 := q9upN_of (by decide) ae3
  have u4 : q9upN w 8 [] 5 = .int x4 := q9upN_of (by decide) ae4
  have u5 : q9upN w 8 [] 6 = .int x5 := q9upN_of (by decide) ae5
  have u6 : q9upN w 8 [] 7 = .int x6 := q9upN_of (by decide) ae6
  refine ⟨[], fun i9 p9 hq9 => ?_, List.forall_mem_cons.mpr ⟨?_, List.forall_mem_cons.mpr ⟨?_, fun _ h => absurd h List.not_mem_nil⟩⟩, fun _ h => absurd h List.not_mem_nil⟩
  · exact nomatch (show (none : Option (Nat × q9AV × q9AV × q9ET)) = some p9 from hq9)
  · exact q9th_tX (T := T) (N := N) (P := P) (J := J) (t0 := t0) (Sc := Sc) (q9evZ u_) (q9evZ u_) (q9evS u4) (by rw [q9FF_1040]; exact (by rw [← q9FF_1040 (t0 := t0) (Sc := Sc) (a := (0 : Int32).toInt) (b := (0 : Int32).toInt)]; exact q9F_rsk hv hn (by rw [hre]))) (by decide)
  · exact q9th_tX (T := T) (N := N) (P := P) (J := J) (t0 := t0) (Sc := Sc) (q9evZ u_) (q9evZ u_) (q9evS u3) (by rw [q9FF_1041]; exact (by rw [← q9FF_1041 (t0 := t0) (Sc := Sc) (a := (0 : Int32).toInt) (b := (0 : Int32).toInt)]; exact q9F_rsp hv hn (by rw [hre]; dsimp only; omega) (by rw [hre]))) (by decide)
theorem q9ru_cfr6 (hT : ∀ i, 0 ≤ T i ∧ T i ≤ 255) (hN : 0 ≤ N ∧ N ≤ 400) (hSc : 0 ≤ Sc 1 ∧ Sc 1 ≤ 400 → N = Sc 1) : q9ruOK (fO T N P J t0 Sc) q9R_cfr6 := by
  intro w w0 hA hX hL hV hR
  obtain ⟨x0, ae0, -, -⟩ := hA 0 0 rfl
  obtain ⟨x1, ae1, -, -⟩ := hA 1 0 rfl
  obtain ⟨x2, ae2, -, -⟩ := hA 2 0 rfl
  obtain ⟨x3, ae3, -, -⟩ := hA 3 0 rfl
  obtain ⟨x4, ae4, -, -⟩ := hA 4 0 rfl
  obtain ⟨x5, ae5, -, -⟩ := hA 5 0 rfl
  obtain ⟨x6, ae6, -, -⟩ := hA 6 0 rfl
  have kz : (0 : Int32).toInt = 0 := rfl
  have k1 : (Int32.ofInt 1).toInt = 1 := q9oI_toInt (by decide)
  have k4 : (Int32.ofInt 4).toInt = 4 := q9oI_toInt (by decide)
  have k59 : (Int32.ofInt 59).toInt = 59 := q9oI_toInt (by decide)
  have k60 : (Int32.ofInt 60).toInt = 60 := q9oI_toInt (by decide)
  have V0 := q9pV (T := T) (N := N) (P := P) (J := J) (t0 := t0) (Sc := Sc) (op := 1027) (n := 1) (q9evS ae0) (q9evZ w0) (hV _ (List.mem_of_getElem? (i := 0) rfl)) (by decide)
  rw [q9FF_1027] at V0
  have K0 := q9chV_of V0
  try simp only [kz, k1, k4, k59, k60] at K0
  have X0 := q9th_pX (T := T) (N := N) (P := P) (J := J) (t0 := t0) (Sc := Sc) (op := 1021) (q9evS ae0) (q9evZ w0) (q9evS ae6) (hX _ (List.mem_of_getElem? (i := 0) rfl)) (by decide)
  rw [q9FF_1021] at X0
  have H0 := q9chV_of X0
  try simp only [kz, k1, k4, k59, k60] at H0
  have X1 := q9th_pX (T := T) (N := N) (P := P) (J := J) (t0 := t0) (Sc := Sc) (op := 1022) (q9evS ae0) (q9evZ w0) (q9evS ae5) (hX _ (List.mem_of_getElem? (i := 1) rfl)) (by decide)
  rw [q9FF_1022] at X1
  have H1 := q9chV_of X1
  try simp only [kz, k1, k4, k59, k60] at H1
  have L0 : (0 : Int32).toInt ≤ x0.toInt + 0 := q9pC (q9evZ w0) (q9evS ae0) (hL _ (List.mem_of_getElem? (i := 0) rfl))
  have L1 : (0 : Int32).toInt ≤ x5.toInt + 0 := q9pC (q9evZ w0) (q9evS ae5) (hL _ (List.mem_of_getElem? (i := 1) rfl))
  have L2 : x5.toInt ≤ (Int32.ofInt 60).toInt + 0 := q9pC (q9evS ae5) (q9evC w0 60) (hL _ (List.mem_of_getElem? (i := 2) rfl))
  have L3 : (0 : Int32).toInt ≤ x6.toInt + 0 := q9pC (q9evZ w0) (q9evS ae6) (hL _ (List.mem_of_getElem? (i := 3) rfl))
  have L4 : x6.toInt ≤ (Int32.ofInt 4).toInt + 0 := q9pC (q9evS ae6) (q9evC w0 4) (hL _ (List.mem_of_getElem? (i := 4) rfl))
  have X2 := q9th_pX (T := T) (N := N) (P := P) (J := J) (t0 := t0) (Sc := Sc) (op := 1002) (q9evS ae0) (q9evZ w0) (q9evS ae1) (hX _ (List.mem_of_getElem? (i := 2) rfl)) (by decide)
  rw [q9FF_1002] at X2
  have H2 := Option.some.inj X2
  try simp only [kz, k1, k4, k59, k60] at H2
  have V1 := q9pV (T := T) (N := N) (P := P) (J := J) (t0 := t0) (Sc := Sc) (op := 1013) (n := 6) (q9evS ae1) (q9evZ w0) (hV _ (List.mem_of_getElem? (i := 1) rfl)) (by decide)
  rw [q9FF_1013] at V1
  have K1 := Option.some.inj V1
  try simp only [kz, k1, k4, k59, k60] at K1
  have X3 := q9th_pX (T := T) (N := N) (P := P) (J := J) (t0 := t0) (Sc := Sc) (op := 1003) (q9evS ae1) (q9evZ w0) (q9evS ae2) (hX _ (List.mem_of_getElem? (i := 3) rfl)) (by decide)
  rw [q9FF_1003] at X3
  have H3 := Option.some.inj X3
  try simp only [kz, k1, k4, k59, k60] at H3
  have X4 := q9th_pX (T := T) (N := N) (P := P) (J := J) (t0 := t0) (Sc := Sc) (op := 1264) (q9evS ae2) (q9evZ w0) (q9evS ae4) (hX _ (List.mem_of_getElem? (i := 4) rfl)) (by decide)
  rw [q9FF_1264] at X4
  have H4 := Option.some.inj X4
  try simp only [kz, k1, k4, k59, k60] at H4
  have L5 : (Int32.ofInt 1).toInt ≤ x4.toInt + 0 := q9pC (q9evC w0 1) (q9evS ae4) (hL _ (List.mem_of_getElem? (i := 5) rfl))
  have X5 := q9th_pX (T := T) (N := N) (P := P) (J := J) (t0 := t0) (Sc := Sc) (op := 1265) (q9evS ae2) (q9evZ w0) (q9evS ae3) (hX _ (List.mem_of_getElem? (i := 5) rfl)) (by decide)
  rw [q9FF_1265] at X5
  have H5 := Option.some.inj X5
  try simp only [kz, k1, k4, k59, k60] at H5
  have L6 : x5.toInt ≤ (Int32.ofInt 59).toInt + 0 := q9pC (q9evS ae5) (q9evC w0 59) (hL _ (List.mem_of_getElem? (i := 6) rfl))
  obtain ⟨c, hv, hc, h8, h9, -⟩ := K0
  have hd : x6.toInt + 1 = c.2.2.length := q9th_at_of hv hc H0
  have hz : x5.toInt = c.2.1 := q9th_at_of hv hc H1
  have hb : q9spI T N c.1 = x1.toInt := by rw [hc]; exact H2
  obtain ⟨q, st, hst⟩ : ∃ q st, c.2.2 = q :: st := by
    cases hh : c.2.2 with
    | nil => exfalso; rw [hh, List.length_nil] at hd; omega
    | cons q st => exact ⟨q, st, rfl⟩
  have hl2 : c.2.2.length = st.length + 1 := by rw [hst, List.length_cons]
  have hk : q9kbI T N (q9spI T N c.1) = 6 := by rw [hb]; exact K1
  have hl : q9lkI T N c = 6 := by rw [q9lk_of h8 (by omega), hk]
  have he : q9weI T N x1.toInt = x2.toInt := H3
  have hr : q9rcI T N P J c = (x4.toInt, x3.toInt) := by unfold q9rcI q9rsI; rw [hl, hb, he]; exact Prod.ext H4 H5
  have hn : q9th_nxI T N P J c = none := q9nx_no h8 (.inl fun hk => by have := hk.2.2.2.2; rw [hr] at this; dsimp only at this; omega)
  have hre : q9th_reI T N P J c = (x4.toInt, x3.toInt) := by unfold q9th_reI; rw [if_neg h8, if_neg (by omega), if_neg (by omega), if_neg (by omega), if_neg (by rw [hr]; dsimp only; omega), hr]
  have u_ : q9upN w 8 [] 0 = .int 0 := q9upN_of (by decide) w0
  have u0 : q9upN w 8 [] 1 = .int x0 := q9upN_of (by decide) ae0
  have u1 : q9upN w 8 [] 2 = .int x1 := q9upN_of (by decide) ae1
  have u2 : q9upN w 8 [] 3 = .int x2 := q9upN_of (by decide) ae2
  have u3 : q9upN w 8 [] 4 = .int x3 := q9upN_of (by decide) ae3
  have u4 : q9upN w 8 [] 5 = .int x4 := q9upN_of (by decide) ae4
  have u5 : q9upN w 8 [] 6 = .int x5 := q9upN_of (by decide) ae5
  have u6 : q9upN w 8 [] 7 = .int x6 := q9upN_of (by decide) ae6
  refine ⟨[], fun i9 p9 hq9 => ?_, List.forall_mem_cons.mpr ⟨?_, List.forall_mem_cons.mpr ⟨?_, fun _ h => absurd h List.not_mem_nil⟩⟩, fun _ h => absurd h List.not_mem_nil⟩
  · exact nomatch (show (none : Option (Nat × q9AV × q9AV × q9ET)) = some p9 from hq9)
  · exact q9th_tX (T := T) (N := N) (P := P) (J := J) (t0 := t0) (Sc := Sc) (q9evZ u_) (q9evZ u_) (q9evS u4) (by rw [q9FF_1040]; exact (by rw [← q9FF_1040 (t0 := t0) (Sc := Sc) (a := (0 : Int32).toInt) (b := (0 : Int32).toInt)]; exact q9F_rsk hv hn (by rw [hre]))) (by decide)
  · exact q9th_tX (T := T) (N := N) (P := P) (J := J) (t0 := t0) (Sc := Sc) (q9evZ u_) (q9evZ u_) (q9evS u3) (by rw [q9FF_1041]; exact (by rw [← q9FF_1041 (t0 := t0) (Sc := Sc) (a := (0 : Int32).toInt) (b := (0 : Int32).toInt)]; exact q9F_rsp hv hn (by rw [hre]; dsimp only; omega) (by rw [hre]))) (by decide)
theorem q9ru_cfr7 (hT : ∀ i, 0 ≤ T i ∧ T i ≤ 255) (hN : 0 ≤ N ∧ N ≤ 400) (hSc : 0 ≤ Sc 1 ∧ Sc 1 ≤ 400 → N = Sc 1) : q9ruOK (fO T N P J t0 Sc) q9R_cfr7 := by
  intro w w0 hA hX hL hV hR
  obtain ⟨x0, ae0, -, -⟩ := hA 0 0 rfl
  obtain ⟨x1, ae1, -, -⟩ := hA 1 0 rfl
  obtain ⟨x2, ae2, -, -⟩ := hA 2 0 rfl
  obtain ⟨x3, ae3, -, -⟩ := hA 3 0 rfl
  obtain ⟨x4, ae4, -, -⟩ := hA 4 0 rfl
  obtain ⟨x5, ae5, -, -⟩ := hA 5 0 rfl
  obtain ⟨x6, ae6, -, -⟩ := hA 6 0 rfl
  have kz : (0 : Int32).toInt = 0 := rfl
  have k1 : (Int32.ofInt 1).toInt = 1 := q9oI_toInt (by decide)
  have k3 : (Int32.ofInt 3).toInt = 3 := q9oI_toInt (by decide)
  have k4 : (Int32.ofInt 4).toInt = 4 := q9oI_toInt (by decide)
  have k59 : (Int32.ofInt 59).toInt = 59 := q9oI_toInt (by decide)
  have k60 : (Int32.ofInt 60).toInt = 60 := q9oI_toInt (by decide)
  have V0 := q9pV (T := T) (N := N) (P := P) (J := J) (t0 := t0) (Sc := Sc) (op := 1027) (n := 1) (q9evS ae0) (q9evZ w0) (hV _ (List.mem_of_getElem? (i := 0) rfl)) (by decide)
  rw [q9FF_1027] at V0
  have K0 := q9chV_of V0
  try simp only [kz, k1, k3, k4, k59, k60] at K0
  have X0 := q9th_pX (T := T) (N := N) (P := P) (J := J) (t0 := t0) (Sc := Sc) (op := 1021) (q9evS ae0) (q9evZ w0) (q9evS ae6) (hX _ (List.mem_of_getElem? (i := 0) rfl)) (by decide)
  rw [q9FF_1021] at X0
  have H0 := q9chV_of X0
  try simp only [kz, k1, k3, k4, k59, k60] at H0
  have X1 := q9th_pX (T := T) (N := N) (P := P) (J := J) (t0 := t0) (Sc := Sc) (op := 1022) (q9evS ae0) (q9evZ w0) (q9evS ae5) (hX _ (List.mem_of_getElem? (i := 1) rfl)) (by decide)
  rw [q9FF_1022] at X1
  have H1 := q9chV_of X1
  try simp only [kz, k1, k3, k4, k59, k60] at H1
  have L0 : (0 : Int32).toInt ≤ x0.toInt + 0 := q9pC (q9evZ w0) (q9evS ae0) (hL _ (List.mem_of_getElem? (i := 0) rfl))
  have L1 : (0 : Int32).toInt ≤ x5.toInt + 0 := q9pC (q9evZ w0) (q9evS ae5) (hL _ (List.mem_of_getElem? (i := 1) rfl))
  have L2 : x5.toInt ≤ (Int32.ofInt 60).toInt + 0 := q9pC (q9evS ae5) (q9evC w0 60) (hL _ (List.mem_of_getElem? (i := 2) rfl))
  have L3 : (0 : Int32).toInt ≤ x6.toInt + 0 := q9pC (q9evZ w0) (q9evS ae6) (hL _ (List.mem_of_getElem? (i := 3) rfl))
  have L4 : x6.toInt ≤ (Int32.ofInt 4).toInt + 0 := q9pC (q9evS ae6) (q9evC w0 4) (hL _ (List.mem_of_getElem? (i := 4) rfl))
  have X2 := q9th_pX (T := T) (N := N) (P := P) (J := J) (t0 := t0) (Sc := Sc) (op := 1002) (q9evS ae0) (q9evZ w0) (q9evS ae1) (hX _ (List.mem_of_getElem? (i := 2) rfl)) (by decide)
  rw [q9FF_1002] at X2
  have H2 := Option.some.inj X2
  try simp only [kz, k1, k3, k4, k59, k60] at H2
  have V1 := q9pV (T := T) (N := N) (P := P) (J := J) (t0 := t0) (Sc := Sc) (op := 1013) (n := 7) (q9evS ae1) (q9evZ w0) (hV _ (List.mem_of_getElem? (i := 1) rfl)) (by decide)
  rw [q9FF_1013] at V1
  have K1 := Option.some.inj V1
  try simp only [kz, k1, k3, k4, k59, k60] at K1
  have X3 := q9th_pX (T := T) (N := N) (P := P) (J := J) (t0 := t0) (Sc := Sc) (op := 1003) (q9evS ae1) (q9evZ w0) (q9evS ae2) (hX _ (List.mem_of_getElem? (i := 3) rfl)) (by decide)
  rw [q9FF_1003] at X3
  have H3 := Option.some.inj X3
  try simp only [kz, k1, k3, k4, k59, k60] at H3
  have X4 := q9th_pX (T := T) (N := N) (P := P) (J := J) (t0 := t0) (Sc := Sc) (op := 1268) (q9evS ae2) (q9evZ w0) (q9evS ae4) (hX _ (List.mem_of_getElem? (i := 4) rfl)) (by decide)
  rw [q9FF_1268] at X4
  have H4 := Option.some.inj X4
  try simp only [kz, k1, k3, k4, k59, k60] at H4
  have L5 : (Int32.ofInt 1).toInt ≤ x4.toInt + 0 := q9pC (q9evC w0 1) (q9evS ae4) (hL _ (List.mem_of_getElem? (i := 5) rfl))
  have X5 := q9th_pX (T := T) (N := N) (P := P) (J := J) (t0 := t0) (Sc := Sc) (op := 1269) (q9evS ae2) (q9evZ w0) (q9evS ae3) (hX _ (List.mem_of_getElem? (i := 5) rfl)) (by decide)
  rw [q9FF_1269] at X5
  have H5 := Option.some.inj X5
  try simp only [kz, k1, k3, k4, k59, k60] at H5
  have L6 : x5.toInt ≤ (Int32.ofInt 59).toInt + 0 := q9pC (q9evS ae5) (q9evC w0 59) (hL _ (List.mem_of_getElem? (i := 6) rfl))
  have L7 : x6.toInt ≤ (Int32.ofInt 3).toInt + 0 := q9pC (q9evS ae6) (q9evC w0 3) (hL _ (List.mem_of_getElem? (i := 7) rfl))
  obtain ⟨c, hv, hc, h8, h9, -⟩ := K0
  have hd : x6.toInt + 1 = c.2.2.length := q9th_at_of hv hc H0
  have hz : x5.toInt = c.2.1 := q9th_at_of hv hc H1
  have hb : q9spI T N c.1 = x1.toInt := by rw [hc]; exact H2
  obtain ⟨q, st, hst⟩ : ∃ q st, c.2.2 = q :: st := by
    cases hh : c.2.2 with
    | nil => exfalso; rw [hh, List.length_nil] at hd; omega
    | cons q st => exact ⟨q, st, rfl⟩
  have hl2 : c.2.2.length = st.length + 1 := by rw [hst, List.length_cons]
  have hk : q9kbI T N (q9spI T N c.1) = 7 := by rw [hb]; exact K1
  have hl : q9lkI T N c = 7 := by rw [q9lk_of h8 (by omega), hk]
  have he : q9weI T N x1.toInt = x2.toInt := H3
  have hr : q9rcI T N P J c = (x4.toInt, x3.toInt) := by unfold q9rcI q9rsI; rw [hl, hb, he]; exact Prod.ext H4 H5
  have hn : q9th_nxI T N P J c = none := q9nx_no h8 (.inl fun hk => by have := hk.2.2.2.2; rw [hr] at this; dsimp only at this; omega)
  have hre : q9th_reI T N P J c = (x4.toInt, x3.toInt) := by unfold q9th_reI; rw [if_neg h8, if_neg (by omega), if_neg (by omega), if_neg (by omega), if_neg (by rw [hr]; dsimp only; omega), hr]
  have u_ : q9upN w 8 [] 0 = .int 0 := q9upN_of (by decide) w0
  have u0 : q9upN w 8 [] 1 = .int x0 := q9upN_of (by decide) ae0
  have u1 : q9upN w 8 [] 2 = .int x1 := q9upN_of (by decide) ae1
  have u2 : q9upN w 8 [] 3 = .int x2 := q9upN_of (by decide) ae2
  have u3 : q9upN w 8 [] 4 = .int x3 := q9upN_of (by decide) ae3
  have u4 : q9upN w 8 [] 5 = .int x4 := q9upN_of (by decide) ae4
  have u5 : q9upN w 8 [] 6 = .int x5 := q9upN_of (by decide) ae5
  have u6 : q9upN w 8 [] 7 = .int x6 := q9upN_of (by decide) ae6
  refine ⟨[], fun i9 p9 hq9 => ?_, List.forall_mem_cons.mpr ⟨?_, List.forall_mem_cons.mpr ⟨?_, fun _ h => absurd h List.not_mem_nil⟩⟩, fun _ h => absurd h List.not_mem_nil⟩
  · exact nomatch (show (none : Option (Nat × q9AV × q9AV × q9ET)) = some p9 from hq9)
  · exact q9th_tX (T := T) (N := N) (P := P) (J := J) (t0 := t0) (Sc := Sc) (q9evZ u_) (q9evZ u_) (q9evS u4) (by rw [q9FF_1040]; exact (by rw [← q9FF_1040 (t0 := t0) (Sc := Sc) (a := (0 : Int32).toInt) (b := (0 : Int32).toInt)]; exact q9F_rsk hv hn (by rw [hre]))) (by decide)
  · exact q9th_tX (T := T) (N := N) (P := P) (J := J) (t0 := t0) (Sc := Sc) (q9evZ u_) (q9evZ u_) (q9evS u3) (by rw [q9FF_1041]; exact (by rw [← q9FF_1041 (t0 := t0) (Sc := Sc) (a := (0 : Int32).toInt) (b := (0 : Int32).toInt)]; exact q9F_rsp hv hn (by rw [hre]; dsimp only; omega) (by rw [hre]))) (by decide)
theorem q9ru_co (hT : ∀ i, 0 ≤ T i ∧ T i ≤ 255) (hN : 0 ≤ N ∧ N ≤ 400) (hSc : 0 ≤ Sc 1 ∧ Sc 1 ≤ 400 → N = Sc 1) : q9ruOK (fO T N P J t0 Sc) q9R_co := by
  intro w w0 hA hX hL hV hR
  obtain ⟨x0, ae0, -, -⟩ := hA 0 0 rfl
  obtain ⟨x1, ae1, -, -⟩ := hA 1 0 rfl
  obtain ⟨x2, ae2, -, -⟩ := hA 2 0 rfl
  obtain ⟨x3, ae3, -, -⟩ := hA 3 0 rfl
  obtain ⟨x4, ae4, -, -⟩ := hA 4 0 rfl
  obtain ⟨x5, ae5, -, -⟩ := hA 5 0 rfl
  obtain ⟨x6, ae6, -, -⟩ := hA 6 0 rfl
  obtain ⟨x7, ae7, -, -⟩ := hA 7 0 rfl
  obtain ⟨x8, ae8, -, -⟩ := hA 8 0 rfl
  obtain ⟨x9, ae9, -, -⟩ := hA 9 1 rfl
  obtain ⟨x10, ae10, -, -⟩ := hA 10 1 rfl
  obtain ⟨x11, ae11, -, -⟩ := hA 11 1 rfl
  have kz : (0 : Int32).toInt = 0 := rfl
  have k3 : (Int32.ofInt 3).toInt = 3 := q9oI_toInt (by decide)
  have k4 : (Int32.ofInt 4).toInt = 4 := q9oI_toInt (by decide)
  have k59 : (Int32.ofInt 59).toInt = 59 := q9oI_toInt (by decide)
  have k60 : (Int32.ofInt 60).toInt = 60 := q9oI_toInt (by decide)
  have V0 := q9pV (T := T) (N := N) (P := P) (J := J) (t0 := t0) (Sc := Sc) (op := 1027) (n := 1) (q9evS ae0) (q9evZ w0) (hV _ (List.mem_of_getElem? (i := 0) rfl)) (by decide)
  rw [q9FF_1027] at V0
  have K0 := q9chV_of V0
  try simp only [kz, k3, k4, k59, k60] at K0
  have X0 := q9th_pX (T := T) (N := N) (P := P) (J := J) (t0 := t0) (Sc := Sc) (op := 1021) (q9evS ae0) (q9evZ w0) (q9evS ae6) (hX _ (List.mem_of_getElem? (i := 0) rfl)) (by decide)
  rw [q9FF_1021] at X0
  have H0 := q9chV_of X0
  try simp only [kz, k3, k4, k59, k60] at H0
  have X1 := q9th_pX (T := T) (N := N) (P := P) (J := J) (t0 := t0) (Sc := Sc) (op := 1022) (q9evS ae0) (q9evZ w0) (q9evS ae4) (hX _ (List.mem_of_getElem? (i := 1) rfl)) (by decide)
  rw [q9FF_1022] at X1
  have H1 := q9chV_of X1
  try simp only [kz, k3, k4, k59, k60] at H1
  have L0 : (0 : Int32).toInt ≤ x0.toInt + 0 := q9pC (q9evZ w0) (q9evS ae0) (hL _ (List.mem_of_getElem? (i := 0) rfl))
  have L1 : (0 : Int32).toInt ≤ x4.toInt + 0 := q9pC (q9evZ w0) (q9evS ae4) (hL _ (List.mem_of_getElem? (i := 1) rfl))
  have L2 : x4.toInt ≤ (Int32.ofInt 60).toInt + 0 := q9pC (q9evS ae4) (q9evC w0 60) (hL _ (List.mem_of_getElem? (i := 2) rfl))
  have L3 : (0 : Int32).toInt ≤ x6.toInt + 0 := q9pC (q9evZ w0) (q9evS ae6) (hL _ (List.mem_of_getElem? (i := 3) rfl))
  have L4 : x6.toInt ≤ (Int32.ofInt 4).toInt + 0 := q9pC (q9evS ae6) (q9evC w0 4) (hL _ (List.mem_of_getElem? (i := 4) rfl))
  have X2 := q9th_pX (T := T) (N := N) (P := P) (J := J) (t0 := t0) (Sc := Sc) (op := 1002) (q9evS ae0) (q9evZ w0) (q9evS ae1) (hX _ (List.mem_of_getElem? (i := 2) rfl)) (by decide)
  rw [q9FF_1002] at X2
  have H2 := Option.some.inj X2
  try simp only [kz, k3, k4, k59, k60] at H2
  have V1 := q9pV (T := T) (N := N) (P := P) (J := J) (t0 := t0) (Sc := Sc) (op := 1013) (n := 7) (q9evS ae1) (q9evZ w0) (hV _ (List.mem_of_getElem? (i := 1) rfl)) (by decide)
  rw [q9FF_1013] at V1
  have K1 := Option.some.inj V1
  try simp only [kz, k3, k4, k59, k60] at K1
  have X3 := q9th_pX (T := T) (N := N) (P := P) (J := J) (t0 := t0) (Sc := Sc) (op := 1003) (q9evS ae1) (q9evZ w0) (q9evS ae2) (hX _ (List.mem_of_getElem? (i := 3) rfl)) (by decide)
  rw [q9FF_1003] at X3
  have H3 := Option.some.inj X3
  try simp only [kz, k3, k4, k59, k60] at H3
  have V2 := q9pV (T := T) (N := N) (P := P) (J := J) (t0 := t0) (Sc := Sc) (op := 1268) (n := 0) (q9evS ae2) (q9evZ w0) (hV _ (List.mem_of_getElem? (i := 2) rfl)) (by decide)
  rw [q9FF_1268] at V2
  have K2 := Option.some.inj V2
  try simp only [kz, k3, k4, k59, k60] at K2
  have X4 := q9th_pX (T := T) (N := N) (P := P) (J := J) (t0 := t0) (Sc := Sc) (op := 1269) (q9evS ae2) (q9evZ w0) (q9evS ae3) (hX _ (List.mem_of_getElem? (i := 4) rfl)) (by decide)
  rw [q9FF_1269] at X4
  have H4 := Option.some.inj X4
  try simp only [kz, k3, k4, k59, k60] at H4
  have L5 : x4.toInt ≤ (Int32.ofInt 59).toInt + 0 := q9pC (q9evS ae4) (q9evC w0 59) (hL _ (List.mem_of_getElem? (i := 5) rfl))
  have L6 : x6.toInt ≤ (Int32.ofInt 3).toInt + 0 := q9pC (q9evS ae6) (q9evC w0 3) (hL _ (List.mem_of_getElem? (i := 6) rfl))
  have L7 : x5.toInt ≤ x4.toInt + 1 := q9pC (q9evS ae5) (q9evS ae4) (hL _ (List.mem_of_getElem? (i := 7) rfl))
  have L8 : x4.toInt ≤ x5.toInt + (-1) := q9pC (q9evS ae4) (q9evS ae5) (hL _ (List.mem_of_getElem? (i := 8) rfl))
  have L9 : x7.toInt ≤ x6.toInt + 1 := q9pC (q9evS ae7) (q9evS ae6) (hL _ (List.mem_of_getElem? (i := 9) rfl))
  have L10 : x6.toInt ≤ x7.toInt + (-1) := q9pC (q9evS ae6) (q9evS ae7) (hL _ (List.mem_of_getElem? (i := 10) rfl))
  have X5 := q9th_pX (T := T) (N := N) (P := P) (J := J) (t0 := t0) (Sc := Sc) (op := 1307) (q9evS ae2) (q9evZ w0) (q9evS ae8) (hX _ (List.mem_of_getElem? (i := 5) rfl)) (by decide)
  rw [q9FF_1307] at X5
  have H5 := Option.some.inj X5
  try simp only [kz, k3, k4, k59, k60] at H5
  have X6 := q9pL (T := T) (N := N) (P := P) (J := J) (t0 := t0) (Sc := Sc) (op := 1028) (q9evS ae0) (q9evZ w0) (q9evS ae9) (hX _ (List.mem_of_getElem? (i := 6) rfl)) (by decide)
  rw [q9FL_1028] at X6
  have H6 := q9chV_of X6
  try simp only [kz, k3, k4, k59, k60] at H6
  obtain ⟨y0, ye0, R0, S0⟩ := hR _ (List.mem_of_getElem? (i := 0) rfl)
  have X7 := q9pL (T := T) (N := N) (P := P) (J := J) (t0 := t0) (Sc := Sc) (op := 1024) (q9evS ae0) (q9evS ae6) (q9evS ae11) (hX _ (List.mem_of_getElem? (i := 7) rfl)) (by decide)
  rw [q9FL_1024] at X7
  have H7 := q9chV_of X7
  try simp only [kz, k3, k4, k59, k60] at H7
  obtain ⟨c, hv, hc, h8, h9, -⟩ := K0
  have hd : x6.toInt + 1 = c.2.2.length := q9th_at_of hv hc H0
  have hz : x4.toInt = c.2.1 := q9th_at_of hv hc H1
  have hb : q9spI T N c.1 = x1.toInt := by rw [hc]; exact H2
  obtain ⟨q, st, hst⟩ : ∃ q st, c.2.2 = q :: st := by
    cases hh : c.2.2 with
    | nil => exfalso; rw [hh, List.length_nil] at hd; omega
    | cons q st => exact ⟨q, st, rfl⟩
  have hl2 : c.2.2.length = st.length + 1 := by rw [hst, List.length_cons]
  have hk : q9kbI T N (q9spI T N c.1) = 7 := by rw [hb]; exact K1
  have hl : q9lkI T N c = 7 := by rw [q9lk_of h8 (by omega), hk]
  have he : q9weI T N x1.toInt = x2.toInt := H3
  have hr : q9rcI T N P J c = (0, x3.toInt) := by unfold q9rcI q9rsI; rw [hl, hb, he]; exact Prod.ext K2 H4
  have hok : q9okL T N P J c := ⟨by omega, by omega, by omega, fun _ => by omega, by rw [hr]⟩
  have hn := q9nx_open hst hl (by omega) (by omega) hr rfl
  generalize hg : ((((0, x3.toInt) : q9TK2).2, c.2.1 + 1, (c.2.1, c.1, 0, 0) :: (q.1, q.2.1, q.2.2.1, q.2.2.2 + 1) :: st) : q9CF9) = c' at hn
  have hv' := q9vis_next hv hn
  have hc' : c'.1 = x3.toInt := by rw [← hg]
  have hst' : c'.2.2 = (c.2.1, c.1, 0, 0) :: (q.1, q.2.1, q.2.2.1, q.2.2.2 + 1) :: st := by rw [← hg]
  have hl3 : c'.2.2.length = st.length + 2 := by rw [hst', List.length_cons, List.length_cons]
  have hz' : c'.2.1 = c.2.1 + 1 := by rw [← hg]
  have ham : x8.toInt = q9amI T N P J (q9lkI T N c) (q9weI T N (q9spI T N c.1)) := by rw [hl, hb, he]; exact (H5).symm
  have hf : ∃ e, q9enI c x6.toInt = some e ∧ x11 = e.2.2.1 := q9th_at_of hv hc H7
  obtain ⟨q0, f1, f2⟩ := hf
  rw [q9en_top hst hd] at f1
  cases f1
  have hg2 : ∃ q st, c.2.2 = q :: st ∧ x9 = q.2.2.2 + 1 := q9th_at_of hv hc H6
  obtain ⟨q1, st1, g1, g2⟩ := hg2
  rw [hst] at g1
  cases g1
  rw [ae10] at ye0
  cases ye0
  have z10 : x10 = 0 := Int64.toInt_inj.mp (by have a1 : 0 ≤ x10.toInt := R0; have a2 : x10.toInt ≤ 0 := S0; rw [show (0 : Int64).toInt = 0 from rfl]; omega)
  have et : q9enI c' x7.toInt = some (c.2.1, c.1, 0, 0) := q9en_top hst' (by omega)
  have el : q9enI c' x6.toInt = some (q.1, q.2.1, q.2.2.1, q.2.2.2 + 1) := by rw [q9en_low hst' (by omega) (by rw [List.length_cons]; omega), List.length_cons, show st.length + 1 - 1 - x6.toInt.toNat = 0 by omega]; rfl
  have rg0 : (1 : Int) ≤ 1 ∧ (1 : Int) ≤ 1 := by omega
  obtain ⟨x12, nt12⟩ : ∃ x : Int32, x.toInt = 1 := ⟨Int32.ofInt (1), q9oI_toInt (by omega)⟩
  have rg1 : (7 : Int) ≤ 7 ∧ (7 : Int) ≤ 7 := by omega
  obtain ⟨x13, nt13⟩ : ∃ x : Int32, x.toInt = 7 := ⟨Int32.ofInt (7), q9oI_toInt (by omega)⟩
  have rg2 : (1 : Int) ≤ (x6.toInt + 1) ∧ ((x6.toInt + 1) : Int) ≤ 4 := by omega
  obtain ⟨x14, nt14⟩ : ∃ x : Int32, x.toInt = (x6.toInt + 1) := ⟨Int32.ofInt ((x6.toInt + 1)), q9oI_toInt (by omega)⟩
  have u_ : q9upN w 13 [.int x12, .int x13, .int x14] 0 = .int 0 := q9upN_of (by decide) w0
  have u0 : q9upN w 13 [.int x12, .int x13, .int x14] 1 = .int x0 := q9upN_of (by decide) ae0
  have u1 : q9upN w 13 [.int x12, .int x13, .int x14] 2 = .int x1 := q9upN_of (by decide) ae1
  have u2 : q9upN w 13 [.int x12, .int x13, .int x14] 3 = .int x2 := q9upN_of (by decide) ae2
  have u3 : q9upN w 13 [.int x12, .int x13, .int x14] 4 = .int x3 := q9upN_of (by decide) ae3
  have u4 : q9upN w 13 [.int x12, .int x13, .int x14] 5 = .int x4 := q9upN_of (by decide) ae4
  have u5 : q9upN w 13 [.int x12, .int x13, .int x14] 6 = .int x5 := q9upN_of (by decide) ae5
  have u6 : q9upN w 13 [.int x12, .int x13, .int x14] 7 = .int x6 := q9upN_of (by decide) ae6
  have u7 : q9upN w 13 [.int x12, .int x13, .int x14] 8 = .int x7 := q9upN_of (by decide) ae7
  have u8 : q9upN w 13 [.int x12, .int x13, .int x14] 9 = .int x8 := q9upN_of (by decide) ae8
  have u9 : q9upN w 13 [.int x12, .int x13, .int x14] 10 = .long x9 := q9upN_of (by decide) ae9
  have u10 : q9upN w 13 [.int x12, .int x13, .int x14] 11 = .long x10 := q9upN_of (by decide) ae10
  have u11 : q9upN w 13 [.int x12, .int x13, .int x14] 12 = .long x11 := q9upN_of (by decide) ae11
  have u12 : q9upN w 13 [.int x12, .int x13, .int x14] 13 = .int x12 := q9upN_at (by decide)
  have u13 : q9upN w 13 [.int x12, .int x13, .int x14] 14 = .int x13 := q9upN_at (by decide)
  have u14 : q9upN w 13 [.int x12, .int x13, .int x14] 15 = .int x14 := q9upN_at (by decide)
  refine ⟨[.int x12, .int x13, .int x14], fun i9 p9 hq9 => ?_, List.forall_mem_cons.mpr ⟨?_, List.forall_mem_cons.mpr ⟨?_, List.forall_mem_cons.mpr ⟨?_, List.forall_mem_cons.mpr ⟨?_, List.forall_mem_cons.mpr ⟨?_, List.forall_mem_cons.mpr ⟨?_, List.forall_mem_cons.mpr ⟨?_, List.forall_mem_cons.mpr ⟨?_, fun _ h => absurd h List.not_mem_nil⟩⟩⟩⟩⟩⟩⟩⟩, List.forall_mem_cons.mpr ⟨?_, List.forall_mem_cons.mpr ⟨?_, List.forall_mem_cons.mpr ⟨?_, fun _ h => absurd h List.not_mem_nil⟩⟩⟩⟩
  · match i9, hq9 with
    | 0, hq9 =>
      have hp9 : ((1020, (4, 0), (0, 0), (0, 1, 1)) : Nat × q9AV × q9AV × q9ET) = p9 := Option.some.inj hq9
      subst hp9
      exact ⟨⟨x12, rfl, by rw [nt12]; exact rg0.1, by rw [nt12]; exact rg0.2⟩, (q9th_tX (T := T) (N := N) (P := P) (J := J) (t0 := t0) (Sc := Sc) (q9evS u3) (q9evZ u_) (q9evS u12) (by rw [q9FF_1020, nt12]; exact (by rw [← q9FF_1020 (t0 := t0) (Sc := Sc) (b := (0 : Int32).toInt)]; exact q9F_vis hv' hc')) (by decide)).trans (congrArg some (q9evS u12))⟩
    | 1, hq9 =>
      have hp9 : ((1050, (5, 0), (0, 0), (0, 7, 7)) : Nat × q9AV × q9AV × q9ET) = p9 := Option.some.inj hq9
      subst hp9
      exact ⟨⟨x13, rfl, by rw [nt13]; exact rg1.1, by rw [nt13]; exact rg1.2⟩, (q9th_tX (T := T) (N := N) (P := P) (J := J) (t0 := t0) (Sc := Sc) (q9evS u4) (q9evZ u_) (q9evS u13) (by rw [q9FF_1050, nt13]; exact (by rw [← q9FF_1050 (t0 := t0) (Sc := Sc) (b := (0 : Int32).toInt)]; exact q9F_kd hv hok hz.symm hl.symm)) (by decide)).trans (congrArg some (q9evS u13))⟩
    | 2, hq9 =>
      have hp9 : ((1021, (4, 0), (0, 0), (0, 1, 4)) : Nat × q9AV × q9AV × q9ET) = p9 := Option.some.inj hq9
      subst hp9
      exact ⟨⟨x14, rfl, by rw [nt14]; exact rg2.1, by rw [nt14]; exact rg2.2⟩, (q9th_tX (T := T) (N := N) (P := P) (J := J) (t0 := t0) (Sc := Sc) (q9evS u3) (q9evZ u_) (q9evS u14) (by rw [q9FF_1021, nt14]; exact (by rw [← q9FF_1021 (t0 := t0) (Sc := Sc) (b := (0 : Int32).toInt)]; exact q9F_dp hv' hc' (by omega))) (by decide)).trans (congrArg some (q9evS u14))⟩
    | k9 + 3, hq9 => exact nomatch (show (none : Option (Nat × q9AV × q9AV × q9ET)) = some p9 from hq9)
  · exact q9th_tX (T := T) (N := N) (P := P) (J := J) (t0 := t0) (Sc := Sc) (q9evS u3) (q9evZ u_) (q9evS u5) (by rw [q9FF_1022]; exact (by rw [← q9FF_1022 (t0 := t0) (Sc := Sc) (b := (0 : Int32).toInt)]; exact q9F_sz hv' hc' (by omega))) (by decide)
  · exact q9th_tX (T := T) (N := N) (P := P) (J := J) (t0 := t0) (Sc := Sc) (q9evS u3) (q9evZ u_) (q9evS u0) (by rw [q9FF_1026]; exact (by rw [← q9FF_1026 (t0 := t0) (Sc := Sc) (b := (0 : Int32).toInt)]; exact q9F_prv hv hn hc' hc.symm)) (by decide)
  · exact q9th_tX (T := T) (N := N) (P := P) (J := J) (t0 := t0) (Sc := Sc) (q9evS u3) (q9evS u7) (q9evS u4) (by rw [q9FF_1023]; exact (by rw [← q9FF_1023 (t0 := t0) (Sc := Sc) (b := x7.toInt)]; exact q9F_opn hv' hc' (by omega) et hz)) (by decide)
  · exact q9th_tX (T := T) (N := N) (P := P) (J := J) (t0 := t0) (Sc := Sc) (q9evS u4) (q9evZ u_) (q9evS u8) (by rw [q9FF_1051]; exact (by rw [← q9FF_1051 (t0 := t0) (Sc := Sc) (b := (0 : Int32).toInt)]; exact q9F_mn hv hok hz.symm ham)) (by decide)
  · exact q9th_tL (T := T) (N := N) (P := P) (J := J) (t0 := t0) (Sc := Sc) (q9evS u3) (q9evS u6) (q9evS u11) (by rw [q9FL_1024]; exact (by rw [← q9FL_1024 (b := x6.toInt)]; exact q9G_frv hv' hc' el f2)) (by decide)
  · exact q9th_tL (T := T) (N := N) (P := P) (J := J) (t0 := t0) (Sc := Sc) (q9evS u3) (q9evS u7) (q9evS u10) (by rw [q9FL_1024]; exact (by rw [← q9FL_1024 (b := x7.toInt)]; exact q9G_frv hv' hc' et z10)) (by decide)
  · exact q9th_tL (T := T) (N := N) (P := P) (J := J) (t0 := t0) (Sc := Sc) (q9evS u3) (q9evS u7) (q9evS u10) (by rw [q9FL_1025]; exact (by rw [← q9FL_1025 (b := x7.toInt)]; exact q9G_dnv hv' hc' et z10)) (by decide)
  · exact q9th_tL (T := T) (N := N) (P := P) (J := J) (t0 := t0) (Sc := Sc) (q9evS u3) (q9evS u6) (q9evS u9) (by rw [q9FL_1025]; exact (by rw [← q9FL_1025 (b := x6.toInt)]; exact q9G_dnv hv' hc' el g2)) (by decide)
  · exact q9th_tC (d := (-1)) (q9evS u0) (q9evS u3) (by have := q9nx_pos hn; omega)
  · exact q9th_tC (d := 0) (q9evS u14) (q9evS u7) (by omega)
  · exact q9th_tC (d := 0) (q9evS u7) (q9evS u14) (by omega)
theorem q9ru_to (hT : ∀ i, 0 ≤ T i ∧ T i ≤ 255) (hN : 0 ≤ N ∧ N ≤ 400) (hSc : 0 ≤ Sc 1 ∧ Sc 1 ≤ 400 → N = Sc 1) : q9ruOK (fO T N P J t0 Sc) q9R_to := by
  intro w w0 hA hX hL hV hR
  obtain ⟨x0, ae0, -, -⟩ := hA 0 0 rfl
  obtain ⟨x1, ae1, -, -⟩ := hA 1 0 rfl
  obtain ⟨x2, ae2, -, -⟩ := hA 2 0 rfl
  obtain ⟨x3, ae3, -, -⟩ := hA 3 0 rfl
  obtain ⟨x4, ae4, -, -⟩ := hA 4 0 rfl
  obtain ⟨x5, ae5, -, -⟩ := hA 5 0 rfl
  obtain ⟨x6, ae6, -, -⟩ := hA 6 0 rfl
  have kz : (0 : Int32).toInt = 0 := rfl
  have k3 : (Int32.ofInt 3).toInt = 3 := q9oI_toInt (by decide)
  have k4 : (Int32.ofInt 4).toInt = 4 := q9oI_toInt (by decide)
  have k59 : (Int32.ofInt 59).toInt = 59 := q9oI_toInt (by decide)
  have k60 : (Int32.ofInt 60).toInt = 60 := q9oI_toInt (by decide)
  have V0 := q9pV (T := T) (N := N) (P := P) (J := J) (t0 := t0) (Sc := Sc) (op := 1027) (n := 1) (q9evS ae0) (q9evZ w0) (hV _ (List.mem_of_getElem? (i := 0) rfl)) (by decide)
  rw [q9FF_1027] at V0
  have K0 := q9chV_of V0
  try simp only [kz, k3, k4, k59, k60] at K0
  have X0 := q9th_pX (T := T) (N := N) (P := P) (J := J) (t0 := t0) (Sc := Sc) (op := 1021) (q9evS ae0) (q9evZ w0) (q9evS ae5) (hX _ (List.mem_of_getElem? (i := 0) rfl)) (by decide)
  rw [q9FF_1021] at X0
  have H0 := q9chV_of X0
  try simp only [kz, k3, k4, k59, k60] at H0
  have X1 := q9th_pX (T := T) (N := N) (P := P) (J := J) (t0 := t0) (Sc := Sc) (op := 1022) (q9evS ae0) (q9evZ w0) (q9evS ae4) (hX _ (List.mem_of_getElem? (i := 1) rfl)) (by decide)
  rw [q9FF_1022] at X1
  have H1 := q9chV_of X1
  try simp only [kz, k3, k4, k59, k60] at H1
  have L0 : (0 : Int32).toInt ≤ x0.toInt + 0 := q9pC (q9evZ w0) (q9evS ae0) (hL _ (List.mem_of_getElem? (i := 0) rfl))
  have L1 : (0 : Int32).toInt ≤ x4.toInt + 0 := q9pC (q9evZ w0) (q9evS ae4) (hL _ (List.mem_of_getElem? (i := 1) rfl))
  have L2 : x4.toInt ≤ (Int32.ofInt 60).toInt + 0 := q9pC (q9evS ae4) (q9evC w0 60) (hL _ (List.mem_of_getElem? (i := 2) rfl))
  have L3 : (0 : Int32).toInt ≤ x5.toInt + 0 := q9pC (q9evZ w0) (q9evS ae5) (hL _ (List.mem_of_getElem? (i := 3) rfl))
  have L4 : x5.toInt ≤ (Int32.ofInt 4).toInt + 0 := q9pC (q9evS ae5) (q9evC w0 4) (hL _ (List.mem_of_getElem? (i := 4) rfl))
  have X2 := q9th_pX (T := T) (N := N) (P := P) (J := J) (t0 := t0) (Sc := Sc) (op := 1002) (q9evS ae0) (q9evZ w0) (q9evS ae1) (hX _ (List.mem_of_getElem? (i := 2) rfl)) (by decide)
  rw [q9FF_1002] at X2
  have H2 := Option.some.inj X2
  try simp only [kz, k3, k4, k59, k60] at H2
  have V1 := q9pV (T := T) (N := N) (P := P) (J := J) (t0 := t0) (Sc := Sc) (op := 1013) (n := 7) (q9evS ae1) (q9evZ w0) (hV _ (List.mem_of_getElem? (i := 1) rfl)) (by decide)
  rw [q9FF_1013] at V1
  have K1 := Option.some.inj V1
  try simp only [kz, k3, k4, k59, k60] at K1
  have X3 := q9th_pX (T := T) (N := N) (P := P) (J := J) (t0 := t0) (Sc := Sc) (op := 1003) (q9evS ae1) (q9evZ w0) (q9evS ae2) (hX _ (List.mem_of_getElem? (i := 3) rfl)) (by decide)
  rw [q9FF_1003] at X3
  have H3 := Option.some.inj X3
  try simp only [kz, k3, k4, k59, k60] at H3
  have V2 := q9pV (T := T) (N := N) (P := P) (J := J) (t0 := t0) (Sc := Sc) (op := 1268) (n := 0) (q9evS ae2) (q9evZ w0) (hV _ (List.mem_of_getElem? (i := 2) rfl)) (by decide)
  rw [q9FF_1268] at V2
  have K2 := Option.some.inj V2
  try simp only [kz, k3, k4, k59, k60] at K2
  have X4 := q9th_pX (T := T) (N := N) (P := P) (J := J) (t0 := t0) (Sc := Sc) (op := 1269) (q9evS ae2) (q9evZ w0) (q9evS ae3) (hX _ (List.mem_of_getElem? (i := 4) rfl)) (by decide)
  rw [q9FF_1269] at X4
  have H4 := Option.some.inj X4
  try simp only [kz, k3, k4, k59, k60] at H4
  have L5 : x4.toInt ≤ (Int32.ofInt 59).toInt + 0 := q9pC (q9evS ae4) (q9evC w0 59) (hL _ (List.mem_of_getElem? (i := 5) rfl))
  have L6 : x5.toInt ≤ (Int32.ofInt 3).toInt + 0 := q9pC (q9evS ae5) (q9evC w0 3) (hL _ (List.mem_of_getElem? (i := 6) rfl))
  have X5 := q9th_pX (T := T) (N := N) (P := P) (J := J) (t0 := t0) (Sc := Sc) (op := 1307) (q9evS ae2) (q9evZ w0) (q9evS ae6) (hX _ (List.mem_of_getElem? (i := 5) rfl)) (by decide)
  rw [q9FF_1307] at X5
  have H5 := Option.some.inj X5
  try simp only [kz, k3, k4, k59, k60] at H5
  obtain ⟨c, hv, hc, h8, h9, -⟩ := K0
  have hd : x5.toInt + 1 = c.2.2.length := q9th_at_of hv hc H0
  have hz : x4.toInt = c.2.1 := q9th_at_of hv hc H1
  have hb : q9spI T N c.1 = x1.toInt := by rw [hc]; exact H2
  obtain ⟨q, st, hst⟩ : ∃ q st, c.2.2 = q :: st := by
    cases hh : c.2.2 with
    | nil => exfalso; rw [hh, List.length_nil] at hd; omega
    | cons q st => exact ⟨q, st, rfl⟩
  have hl2 : c.2.2.length = st.length + 1 := by rw [hst, List.length_cons]
  have hk : q9kbI T N (q9spI T N c.1) = 7 := by rw [hb]; exact K1
  have hl : q9lkI T N c = 7 := by rw [q9lk_of h8 (by omega), hk]
  have he : q9weI T N x1.toInt = x2.toInt := H3
  have hr : q9rcI T N P J c = (0, x3.toInt) := by unfold q9rcI q9rsI; rw [hl, hb, he]; exact Prod.ext K2 H4
  have hok : q9okL T N P J c := ⟨by omega, by omega, by omega, fun _ => by omega, by rw [hr]⟩
  have hn := q9nx_open hst hl (by omega) (by omega) hr rfl
  generalize hg : ((((0, x3.toInt) : q9TK2).2, c.2.1 + 1, (c.2.1, c.1, 0, 0) :: (q.1, q.2.1, q.2.2.1, q.2.2.2 + 1) :: st) : q9CF9) = c' at hn
  have hv' := q9vis_next hv hn
  have hc' : c'.1 = x3.toInt := by rw [← hg]
  have hst' : c'.2.2 = (c.2.1, c.1, 0, 0) :: (q.1, q.2.1, q.2.2.1, q.2.2.2 + 1) :: st := by rw [← hg]
  have hl3 : c'.2.2.length = st.length + 2 := by rw [hst', List.length_cons, List.length_cons]
  have hz' : c'.2.1 = c.2.1 + 1 := by rw [← hg]
  have ham : x6.toInt = q9amI T N P J (q9lkI T N c) (q9weI T N (q9spI T N c.1)) := by rw [hl, hb, he]; exact (H5).symm
  have et : q9enI c' (x5.toInt + 1) = some (c.2.1, c.1, 0, 0) := q9en_top hst' (by omega)
  have rg0 : (1 : Int) ≤ 1 ∧ (1 : Int) ≤ 1 := by omega
  obtain ⟨x7, nt7⟩ : ∃ x : Int32, x.toInt = 1 := ⟨Int32.ofInt (1), q9oI_toInt (by omega)⟩
  have rg1 : (7 : Int) ≤ 7 ∧ (7 : Int) ≤ 7 := by omega
  obtain ⟨x8, nt8⟩ : ∃ x : Int32, x.toInt = 7 := ⟨Int32.ofInt (7), q9oI_toInt (by omega)⟩
  have rg2 : (1 : Int) ≤ (x5.toInt + 1) ∧ ((x5.toInt + 1) : Int) ≤ 4 := by omega
  obtain ⟨x9, nt9⟩ : ∃ x : Int32, x.toInt = (x5.toInt + 1) := ⟨Int32.ofInt ((x5.toInt + 1)), q9oI_toInt (by omega)⟩
  have rg3 : (1 : Int) ≤ (x4.toInt + 1) ∧ ((x4.toInt + 1) : Int) ≤ 60 := by omega
  obtain ⟨x10, nt10⟩ : ∃ x : Int32, x.toInt = (x4.toInt + 1) := ⟨Int32.ofInt ((x4.toInt + 1)), q9oI_toInt (by omega)⟩
  have u_ : q9upN w 8 [.int x7, .int x8, .int x9, .int x10] 0 = .int 0 := q9upN_of (by decide) w0
  have u0 : q9upN w 8 [.int x7, .int x8, .int x9, .int x10] 1 = .int x0 := q9upN_of (by decide) ae0
  have u1 : q9upN w 8 [.int x7, .int x8, .int x9, .int x10] 2 = .int x1 := q9upN_of (by decide) ae1
  have u2 : q9upN w 8 [.int x7, .int x8, .int x9, .int x10] 3 = .int x2 := q9upN_of (by decide) ae2
  have u3 : q9upN w 8 [.int x7, .int x8, .int x9, .int x10] 4 = .int x3 := q9upN_of (by decide) ae3
  have u4 : q9upN w 8 [.int x7, .int x8, .int x9, .int x10] 5 = .int x4 := q9upN_of (by decide) ae4
  have u5 : q9upN w 8 [.int x7, .int x8, .int x9, .int x10] 6 = .int x5 := q9upN_of (by decide) ae5
  have u6 : q9upN w 8 [.int x7, .int x8, .int x9, .int x10] 7 = .int x6 := q9upN_of (by decide) ae6
  have u7 : q9upN w 8 [.int x7, .int x8, .int x9, .int x10] 8 = .int x7 := q9upN_at (by decide)
  have u8 : q9upN w 8 [.int x7, .int x8, .int x9, .int x10] 9 = .int x8 := q9upN_at (by decide)
  have u9 : q9upN w 8 [.int x7, .int x8, .int x9, .int x10] 10 = .int x9 := q9upN_at (by decide)
  have u10 : q9upN w 8 [.int x7, .int x8, .int x9, .int x10] 11 = .int x10 := q9upN_at (by decide)
  refine ⟨[.int x7, .int x8, .int x9, .int x10], fun i9 p9 hq9 => ?_, List.forall_mem_cons.mpr ⟨?_, List.forall_mem_cons.mpr ⟨?_, List.forall_mem_cons.mpr ⟨?_, List.forall_mem_cons.mpr ⟨?_, fun _ h => absurd h List.not_mem_nil⟩⟩⟩⟩, List.forall_mem_cons.mpr ⟨?_, List.forall_mem_cons.mpr ⟨?_, List.forall_mem_cons.mpr ⟨?_, List.forall_mem_cons.mpr ⟨?_, List.forall_mem_cons.mpr ⟨?_, fun _ h => absurd h List.not_mem_nil⟩⟩⟩⟩⟩⟩
  · match i9, hq9 with
    | 0, hq9 =>
      have hp9 : ((1020, (4, 0), (0, 0), (0, 1, 1)) : Nat × q9AV × q9AV × q9ET) = p9 := Option.some.inj hq9
      subst hp9
      exact ⟨⟨x7, rfl, by rw [nt7]; exact rg0.1, by rw [nt7]; exact rg0.2⟩, (q9th_tX (T := T) (N := N) (P := P) (J := J) (t0 := t0) (Sc := Sc) (q9evS u3) (q9evZ u_) (q9evS u7) (by rw [q9FF_1020, nt7]; exact (by rw [← q9FF_1020 (t0 := t0) (Sc := Sc) (b := (0 : Int32).toInt)]; exact q9F_vis hv' hc')) (by decide)).trans (congrArg some (q9evS u7))⟩
    | 1, hq9 =>
      have hp9 : ((1050, (5, 0), (0, 0), (0, 7, 7)) : Nat × q9AV × q9AV × q9ET) = p9 := Option.some.inj hq9
      subst hp9
      exact ⟨⟨x8, rfl, by rw [nt8]; exact rg1.1, by rw [nt8]; exact rg1.2⟩, (q9th_tX (T := T) (N := N) (P := P) (J := J) (t0 := t0) (Sc := Sc) (q9evS u4) (q9evZ u_) (q9evS u8) (by rw [q9FF_1050, nt8]; exact (by rw [← q9FF_1050 (t0 := t0) (Sc := Sc) (b := (0 : Int32).toInt)]; exact q9F_kd hv hok hz.symm hl.symm)) (by decide)).trans (congrArg some (q9evS u8))⟩
    | 2, hq9 =>
      have hp9 : ((1021, (4, 0), (0, 0), (0, 1, 4)) : Nat × q9AV × q9AV × q9ET) = p9 := Option.some.inj hq9
      subst hp9
      exact ⟨⟨x9, rfl, by rw [nt9]; exact rg2.1, by rw [nt9]; exact rg2.2⟩, (q9th_tX (T := T) (N := N) (P := P) (J := J) (t0 := t0) (Sc := Sc) (q9evS u3) (q9evZ u_) (q9evS u9) (by rw [q9FF_1021, nt9]; exact (by rw [← q9FF_1021 (t0 := t0) (Sc := Sc) (b := (0 : Int32).toInt)]; exact q9F_dp hv' hc' (by omega))) (by decide)).trans (congrArg some (q9evS u9))⟩
    | 3, hq9 =>
      have hp9 : ((1022, (4, 0), (0, 0), (0, 1, 60)) : Nat × q9AV × q9AV × q9ET) = p9 := Option.some.inj hq9
      subst hp9
      exact ⟨⟨x10, rfl, by rw [nt10]; exact rg3.1, by rw [nt10]; exact rg3.2⟩, (q9th_tX (T := T) (N := N) (P := P) (J := J) (t0 := t0) (Sc := Sc) (q9evS u3) (q9evZ u_) (q9evS u10) (by rw [q9FF_1022, nt10]; exact (by rw [← q9FF_1022 (t0 := t0) (Sc := Sc) (b := (0 : Int32).toInt)]; exact q9F_sz hv' hc' (by omega))) (by decide)).trans (congrArg some (q9evS u10))⟩
    | k9 + 4, hq9 => exact nomatch (show (none : Option (Nat × q9AV × q9AV × q9ET)) = some p9 from hq9)
  · exact q9th_tX (T := T) (N := N) (P := P) (J := J) (t0 := t0) (Sc := Sc) (q9evS u3) (q9evZ u_) (q9evS u0) (by rw [q9FF_1026]; exact (by rw [← q9FF_1026 (t0 := t0) (Sc := Sc) (b := (0 : Int32).toInt)]; exact q9F_prv hv hn hc' hc.symm)) (by decide)
  · exact q9th_tX (T := T) (N := N) (P := P) (J := J) (t0 := t0) (Sc := Sc) (q9evS u3) (q9evS u9) (q9evS u4) (by rw [q9FF_1023]; exact (by rw [← q9FF_1023 (t0 := t0) (Sc := Sc) (b := x9.toInt)]; exact q9F_opn hv' hc' (by omega) (by rw [nt9]; exact et) hz)) (by decide)
  · exact q9th_tX (T := T) (N := N) (P := P) (J := J) (t0 := t0) (Sc := Sc) (q9evS u3) (q9evS u9) (q9evS u0) (by rw [q9FF_1037]; exact (by rw [← q9FF_1037 (t0 := t0) (Sc := Sc) (b := x9.toInt)]; exact q9F_opb hv' hc' (by omega) (by rw [nt9]; exact et) hc.symm)) (by decide)
  · exact q9th_tX (T := T) (N := N) (P := P) (J := J) (t0 := t0) (Sc := Sc) (q9evS u4) (q9evZ u_) (q9evS u6) (by rw [q9FF_1051]; exact (by rw [← q9FF_1051 (t0 := t0) (Sc := Sc) (b := (0 : Int32).toInt)]; exact q9F_mn hv hok hz.symm ham)) (by decide)
  · exact q9th_tC (d := (-1)) (q9evS u0) (q9evS u3) (by have := q9nx_pos hn; omega)
  · exact q9th_tC (d := 1) (q9evS u9) (q9evS u5) (by omega)
  · exact q9th_tC (d := (-1)) (q9evS u5) (q9evS u9) (by omega)
  · exact q9th_tC (d := 1) (q9evS u10) (q9evS u4) (by omega)
  · exact q9th_tC (d := (-1)) (q9evS u4) (q9evS u10) (by omega)
theorem q9ru_cfk (hT : ∀ i, 0 ≤ T i ∧ T i ≤ 255) (hN : 0 ≤ N ∧ N ≤ 400) (hSc : 0 ≤ Sc 1 ∧ Sc 1 ≤ 400 → N = Sc 1) : q9ruOK (fO T N P J t0 Sc) q9R_cfk := by
  intro w w0 hA hX hL hV hR
  obtain ⟨x0, ae0, -, -⟩ := hA 0 0 rfl
  obtain ⟨x1, ae1, -, -⟩ := hA 1 0 rfl
  obtain ⟨x2, ae2, -, -⟩ := hA 2 0 rfl
  obtain ⟨x3, ae3, -, -⟩ := hA 3 0 rfl
  have kz : (0 : Int32).toInt = 0 := rfl
  have k4 : (Int32.ofInt 4).toInt = 4 := q9oI_toInt (by decide)
  have k60 : (Int32.ofInt 60).toInt = 60 := q9oI_toInt (by decide)
  have V0 := q9pV (T := T) (N := N) (P := P) (J := J) (t0 := t0) (Sc := Sc) (op := 1027) (n := 1) (q9evS ae0) (q9evZ w0) (hV _ (List.mem_of_getElem? (i := 0) rfl)) (by decide)
  rw [q9FF_1027] at V0
  have K0 := q9chV_of V0
  try simp only [kz, k4, k60] at K0
  have X0 := q9th_pX (T := T) (N := N) (P := P) (J := J) (t0 := t0) (Sc := Sc) (op := 1021) (q9evS ae0) (q9evZ w0) (q9evS ae3) (hX _ (List.mem_of_getElem? (i := 0) rfl)) (by decide)
  rw [q9FF_1021] at X0
  have H0 := q9chV_of X0
  try simp only [kz, k4, k60] at H0
  have X1 := q9th_pX (T := T) (N := N) (P := P) (J := J) (t0 := t0) (Sc := Sc) (op := 1022) (q9evS ae0) (q9evZ w0) (q9evS ae2) (hX _ (List.mem_of_getElem? (i := 1) rfl)) (by decide)
  rw [q9FF_1022] at X1
  have H1 := q9chV_of X1
  try simp only [kz, k4, k60] at H1
  have L0 : (0 : Int32).toInt ≤ x0.toInt + 0 := q9pC (q9evZ w0) (q9evS ae0) (hL _ (List.mem_of_getElem? (i := 0) rfl))
  have L1 : (0 : Int32).toInt ≤ x2.toInt + 0 := q9pC (q9evZ w0) (q9evS ae2) (hL _ (List.mem_of_getElem? (i := 1) rfl))
  have L2 : x2.toInt ≤ (Int32.ofInt 60).toInt + 0 := q9pC (q9evS ae2) (q9evC w0 60) (hL _ (List.mem_of_getElem? (i := 2) rfl))
  have L3 : (0 : Int32).toInt ≤ x3.toInt + 0 := q9pC (q9evZ w0) (q9evS ae3) (hL _ (List.mem_of_getElem? (i := 3) rfl))
  have L4 : x3.toInt ≤ (Int32.ofInt 4).toInt + 0 := q9pC (q9evS ae3) (q9evC w0 4) (hL _ (List.mem_of_getElem? (i := 4) rfl))
  have X2 := q9th_pX (T := T) (N := N) (P := P) (J := J) (t0 := t0) (Sc := Sc) (op := 1002) (q9evS ae0) (q9evZ w0) (q9evS ae1) (hX _ (List.mem_of_getElem? (i := 2) rfl)) (by decide)
  rw [q9FF_1002] at X2
  have H2 := Option.some.inj X2
  try simp only [kz, k4, k60] at H2
  have V1 := q9pV (T := T) (N := N) (P := P) (J := J) (t0 := t0) (Sc := Sc) (op := 1013) (n := (-1)) (q9evS ae1) (q9evZ w0) (hV _ (List.mem_of_getElem? (i := 1) rfl)) (by decide)
  rw [q9FF_1013] at V1
  have K1 := Option.some.inj V1
  try simp only [kz, k4, k60] at K1
  obtain ⟨c, hv, hc, h8, h9, -⟩ := K0
  have hd : x3.toInt + 1 = c.2.2.length := q9th_at_of hv hc H0
  have hz : x2.toInt = c.2.1 := q9th_at_of hv hc H1
  have hb : q9spI T N c.1 = x1.toInt := by rw [hc]; exact H2
  obtain ⟨q, st, hst⟩ : ∃ q st, c.2.2 = q :: st := by
    cases hh : c.2.2 with
    | nil => exfalso; rw [hh, List.length_nil] at hd; omega
    | cons q st => exact ⟨q, st, rfl⟩
  have hl2 : c.2.2.length = st.length + 1 := by rw [hst, List.length_cons]
  have hk : q9kbI T N (q9spI T N c.1) = -1 := by rw [hb]; exact K1
  have hi := q9vis_inv hN.1 hv
  have hn : q9th_nxI T N P J c = none := q9nx_no h8 (.inl fun h => by have h2 := q9lk_kb h.1 h.2.1; have := h.1; omega)
  have hre : q9th_reI T N P J c = (1, x1.toInt) := by
    unfold q9th_reI
    rw [if_neg h8]
    by_cases h0 : q9byI T N (q9spI T N c.1) < 0
    · have h9 := q9lk_9 h0
      have hl3 : ¬ c.2.2.length < 2 := fun h => (by assumption : c.2.2.length < 2 → q9lkI T N c ≠ 9) h h9
      rw [if_pos h9, if_neg hl3]
      have e : x1.toInt = N := by
        have s1 := q9sp_ge (T := T) (N := N) (i := c.1)
        have s2 := q9sp_le (T := T) (N := N) (i := c.1)
        have i1 := hi.1
        have i2 := hi.2.1
        have := fun h => q9byI_in (T := T) (N := N) hT (i := q9spI T N c.1) h
        omega
      rw [e]
    · have e := q9lk_neg h8 (by omega)
      rw [if_neg (by omega), if_pos (by omega), hb]
  have rg0 : (1 : Int) ≤ 1 ∧ (1 : Int) ≤ 1 := by omega
  obtain ⟨x4, nt4⟩ : ∃ x : Int32, x.toInt = 1 := ⟨Int32.ofInt (1), q9oI_toInt (by omega)⟩
  have u_ : q9upN w 5 [.int x4] 0 = .int 0 := q9upN_of (by decide) w0
  have u0 : q9upN w 5 [.int x4] 1 = .int x0 := q9upN_of (by decide) ae0
  have u1 : q9upN w 5 [.int x4] 2 = .int x1 := q9upN_of (by decide) ae1
  have u2 : q9upN w 5 [.int x4] 3 = .int x2 := q9upN_of (by decide) ae2
  have u3 : q9upN w 5 [.int x4] 4 = .int x3 := q9upN_of (by decide) ae3
  have u4 : q9upN w 5 [.int x4] 5 = .int x4 := q9upN_at (by decide)
  refine ⟨[.int x4], fun i9 p9 hq9 => ?_, List.forall_mem_cons.mpr ⟨?_, fun _ h => absurd h List.not_mem_nil⟩, fun _ h => absurd h List.not_mem_nil⟩
  · match i9, hq9 with
    | 0, hq9 =>
      have hp9 : ((1040, (0, 0), (0, 0), (0, 1, 1)) : Nat × q9AV × q9AV × q9ET) = p9 := Option.some.inj hq9
      subst hp9
      exact ⟨⟨x4, rfl, by rw [nt4]; exact rg0.1, by rw [nt4]; exact rg0.2⟩, (q9th_tX (T := T) (N := N) (P := P) (J := J) (t0 := t0) (Sc := Sc) (q9evZ u_) (q9evZ u_) (q9evS u4) (by rw [q9FF_1040, nt4]; exact (by rw [← q9FF_1040 (t0 := t0) (Sc := Sc) (a := (0 : Int32).toInt) (b := (0 : Int32).toInt)]; exact q9F_rsk hv hn (by rw [hre]))) (by decide)).trans (congrArg some (q9evS u4))⟩
    | k9 + 1, hq9 => exact nomatch (show (none : Option (Nat × q9AV × q9AV × q9ET)) = some p9 from hq9)
  · exact q9th_tX (T := T) (N := N) (P := P) (J := J) (t0 := t0) (Sc := Sc) (q9evZ u_) (q9evZ u_) (q9evS u1) (by rw [q9FF_1041]; exact (by rw [← q9FF_1041 (t0 := t0) (Sc := Sc) (a := (0 : Int32).toInt) (b := (0 : Int32).toInt)]; exact q9F_rsp hv hn (by rw [hre]; exact (by decide : (1 : Int) ≠ 0)) (by rw [hre]))) (by decide)
theorem q9ru_cf3 (hT : ∀ i, 0 ≤ T i ∧ T i ≤ 255) (hN : 0 ≤ N ∧ N ≤ 400) (hSc : 0 ≤ Sc 1 ∧ Sc 1 ≤ 400 → N = Sc 1) : q9ruOK (fO T N P J t0 Sc) q9R_cf3 := by
  intro w w0 hA hX hL hV hR
  obtain ⟨x0, ae0, -, -⟩ := hA 0 0 rfl
  obtain ⟨x1, ae1, -, -⟩ := hA 1 0 rfl
  obtain ⟨x2, ae2, -, -⟩ := hA 2 0 rfl
  obtain ⟨x3, ae3, -, -⟩ := hA 3 0 rfl
  obtain ⟨x4, ae4, -, -⟩ := hA 4 0 rfl
  have kz : (0 : Int32).toInt = 0 := rfl
  have k4 : (Int32.ofInt 4).toInt = 4 := q9oI_toInt (by decide)
  have k60 : (Int32.ofInt 60).toInt = 60 := q9oI_toInt (by decide)
  have V0 := q9pV (T := T) (N := N) (P := P) (J := J) (t0 := t0) (Sc := Sc) (op := 1027) (n := 1) (q9evS ae0) (q9evZ w0) (hV _ (List.mem_of_getElem? (i := 0) rfl)) (by decide)
  rw [q9FF_1027] at V0
  have K0 := q9chV_of V0
  try simp only [kz, k4, k60] at K0
  have X0 := q9th_pX (T := T) (N := N) (P := P) (J := J) (t0 := t0) (Sc := Sc) (op := 1021) (q9evS ae0) (q9evZ w0) (q9evS ae3) (hX _ (List.mem_of_getElem? (i := 0) rfl)) (by decide)
  rw [q9FF_1021] at X0
  have H0 := q9chV_of X0
  try simp only [kz, k4, k60] at H0
  have X1 := q9th_pX (T := T) (N := N) (P := P) (J := J) (t0 := t0) (Sc := Sc) (op := 1022) (q9evS ae0) (q9evZ w0) (q9evS ae2) (hX _ (List.mem_of_getElem? (i := 1) rfl)) (by decide)
  rw [q9FF_1022] at X1
  have H1 := q9chV_of X1
  try simp only [kz, k4, k60] at H1
  have L0 : (0 : Int32).toInt ≤ x0.toInt + 0 := q9pC (q9evZ w0) (q9evS ae0) (hL _ (List.mem_of_getElem? (i := 0) rfl))
  have L1 : (0 : Int32).toInt ≤ x2.toInt + 0 := q9pC (q9evZ w0) (q9evS ae2) (hL _ (List.mem_of_getElem? (i := 1) rfl))
  have L2 : x2.toInt ≤ (Int32.ofInt 60).toInt + 0 := q9pC (q9evS ae2) (q9evC w0 60) (hL _ (List.mem_of_getElem? (i := 2) rfl))
  have L3 : (0 : Int32).toInt ≤ x3.toInt + 0 := q9pC (q9evZ w0) (q9evS ae3) (hL _ (List.mem_of_getElem? (i := 3) rfl))
  have L4 : x3.toInt ≤ (Int32.ofInt 4).toInt + 0 := q9pC (q9evS ae3) (q9evC w0 4) (hL _ (List.mem_of_getElem? (i := 4) rfl))
  have X2 := q9th_pX (T := T) (N := N) (P := P) (J := J) (t0 := t0) (Sc := Sc) (op := 1002) (q9evS ae0) (q9evZ w0) (q9evS ae1) (hX _ (List.mem_of_getElem? (i := 2) rfl)) (by decide)
  rw [q9FF_1002] at X2
  have H2 := Option.some.inj X2
  try simp only [kz, k4, k60] at H2
  have X3 := q9th_pX (T := T) (N := N) (P := P) (J := J) (t0 := t0) (Sc := Sc) (op := 1013) (q9evS ae1) (q9evZ w0) (q9evS ae4) (hX _ (List.mem_of_getElem? (i := 3) rfl)) (by decide)
  rw [q9FF_1013] at X3
  have H3 := Option.some.inj X3
  try simp only [kz, k4, k60] at H3
  have L5 : (0 : Int32).toInt ≤ x4.toInt + 0 := q9pC (q9evZ w0) (q9evS ae4) (hL _ (List.mem_of_getElem? (i := 5) rfl))
  have L6 : (Int32.ofInt 60).toInt ≤ x2.toInt + 0 := q9pC (q9evC w0 60) (q9evS ae2) (hL _ (List.mem_of_getElem? (i := 6) rfl))
  obtain ⟨c, hv, hc, h8, h9, -⟩ := K0
  have hd : x3.toInt + 1 = c.2.2.length := q9th_at_of hv hc H0
  have hz : x2.toInt = c.2.1 := q9th_at_of hv hc H1
  have hb : q9spI T N c.1 = x1.toInt := by rw [hc]; exact H2
  obtain ⟨q, st, hst⟩ : ∃ q st, c.2.2 = q :: st := by
    cases hh : c.2.2 with
    | nil => exfalso; rw [hh, List.length_nil] at hd; omega
    | cons q st => exact ⟨q, st, rfl⟩
  have hl2 : c.2.2.length = st.length + 1 := by rw [hst, List.length_cons]
  have hk : q9kbI T N (q9spI T N c.1) = x4.toInt := by rw [hb]; exact H3
  have hl := q9lk_of h8 (by omega)
  have k7 := q9kb_7 (T := T) (N := N) (i := q9spI T N c.1)
  have hn : q9th_nxI T N P J c = none := q9nx_no h8 (.inl fun h => by have := h.2.2.1; have := h.2.2.2.1; omega)
  have hre : q9th_reI T N P J c = (3, x1.toInt) := by unfold q9th_reI; rw [if_neg h8, if_neg (by omega), if_neg (by omega), if_pos (by omega), hb]
  have rg0 : (3 : Int) ≤ 3 ∧ (3 : Int) ≤ 3 := by omega
  obtain ⟨x5, nt5⟩ : ∃ x : Int32, x.toInt = 3 := ⟨Int32.ofInt (3), q9oI_toInt (by omega)⟩
  have u_ : q9upN w 6 [.int x5] 0 = .int 0 := q9upN_of (by decide) w0
  have u0 : q9upN w 6 [.int x5] 1 = .int x0 := q9upN_of (by decide) ae0
  have u1 : q9upN w 6 [.int x5] 2 = .int x1 := q9upN_of (by decide) ae1
  have u2 : q9upN w 6 [.int x5] 3 = .int x2 := q9upN_of (by decide) ae2
  have u3 : q9upN w 6 [.int x5] 4 = .int x3 := q9upN_of (by decide) ae3
  have u4 : q9upN w 6 [.int x5] 5 = .int x4 := q9upN_of (by decide) ae4
  have u5 : q9upN w 6 [.int x5] 6 = .int x5 := q9upN_at (by decide)
  refine ⟨[.int x5], fun i9 p9 hq9 => ?_, List.forall_mem_cons.mpr ⟨?_, fun _ h => absurd h List.not_mem_nil⟩, fun _ h => absurd h List.not_mem_nil⟩
  · match i9, hq9 with
    | 0, hq9 =>
      have hp9 : ((1040, (0, 0), (0, 0), (0, 3, 3)) : Nat × q9AV × q9AV × q9ET) = p9 := Option.some.inj hq9
      subst hp9
      exact ⟨⟨x5, rfl, by rw [nt5]; exact rg0.1, by rw [nt5]; exact rg0.2⟩, (q9th_tX (T := T) (N := N) (P := P) (J := J) (t0 := t0) (Sc := Sc) (q9evZ u_) (q9evZ u_) (q9evS u5) (by rw [q9FF_1040, nt5]; exact (by rw [← q9FF_1040 (t0 := t0) (Sc := Sc) (a := (0 : Int32).toInt) (b := (0 : Int32).toInt)]; exact q9F_rsk hv hn (by rw [hre]))) (by decide)).trans (congrArg some (q9evS u5))⟩
    | k9 + 1, hq9 => exact nomatch (show (none : Option (Nat × q9AV × q9AV × q9ET)) = some p9 from hq9)
  · exact q9th_tX (T := T) (N := N) (P := P) (J := J) (t0 := t0) (Sc := Sc) (q9evZ u_) (q9evZ u_) (q9evS u1) (by rw [q9FF_1041]; exact (by rw [← q9FF_1041 (t0 := t0) (Sc := Sc) (a := (0 : Int32).toInt) (b := (0 : Int32).toInt)]; exact q9F_rsp hv hn (by rw [hre]; exact (by decide : (3 : Int) ≠ 0)) (by rw [hre]))) (by decide)
theorem q9ru_cf4 (hT : ∀ i, 0 ≤ T i ∧ T i ≤ 255) (hN : 0 ≤ N ∧ N ≤ 400) (hSc : 0 ≤ Sc 1 ∧ Sc 1 ≤ 400 → N = Sc 1) : q9ruOK (fO T N P J t0 Sc) q9R_cf4 := by
  intro w w0 hA hX hL hV hR
  obtain ⟨x0, ae0, -, -⟩ := hA 0 0 rfl
  obtain ⟨x1, ae1, -, -⟩ := hA 1 0 rfl
  obtain ⟨x2, ae2, -, -⟩ := hA 2 0 rfl
  obtain ⟨x3, ae3, -, -⟩ := hA 3 0 rfl
  have kz : (0 : Int32).toInt = 0 := rfl
  have k4 : (Int32.ofInt 4).toInt = 4 := q9oI_toInt (by decide)
  have k60 : (Int32.ofInt 60).toInt = 60 := q9oI_toInt (by decide)
  have V0 := q9pV (T := T) (N := N) (P := P) (J := J) (t0 := t0) (Sc := Sc) (op := 1027) (n := 1) (q9evS ae0) (q9evZ w0) (hV _ (List.mem_of_getElem? (i := 0) rfl)) (by decide)
  rw [q9FF_1027] at V0
  have K0 := q9chV_of V0
  try simp only [kz, k4, k60] at K0
  have X0 := q9th_pX (T := T) (N := N) (P := P) (J := J) (t0 := t0) (Sc := Sc) (op := 1021) (q9evS ae0) (q9evZ w0) (q9evS ae3) (hX _ (List.mem_of_getElem? (i := 0) rfl)) (by decide)
  rw [q9FF_1021] at X0
  have H0 := q9chV_of X0
  try simp only [kz, k4, k60] at H0
  have X1 := q9th_pX (T := T) (N := N) (P := P) (J := J) (t0 := t0) (Sc := Sc) (op := 1022) (q9evS ae0) (q9evZ w0) (q9evS ae2) (hX _ (List.mem_of_getElem? (i := 1) rfl)) (by decide)
  rw [q9FF_1022] at X1
  have H1 := q9chV_of X1
  try simp only [kz, k4, k60] at H1
  have L0 : (0 : Int32).toInt ≤ x0.toInt + 0 := q9pC (q9evZ w0) (q9evS ae0) (hL _ (List.mem_of_getElem? (i := 0) rfl))
  have L1 : (0 : Int32).toInt ≤ x2.toInt + 0 := q9pC (q9evZ w0) (q9evS ae2) (hL _ (List.mem_of_getElem? (i := 1) rfl))
  have L2 : x2.toInt ≤ (Int32.ofInt 60).toInt + 0 := q9pC (q9evS ae2) (q9evC w0 60) (hL _ (List.mem_of_getElem? (i := 2) rfl))
  have L3 : (0 : Int32).toInt ≤ x3.toInt + 0 := q9pC (q9evZ w0) (q9evS ae3) (hL _ (List.mem_of_getElem? (i := 3) rfl))
  have L4 : x3.toInt ≤ (Int32.ofInt 4).toInt + 0 := q9pC (q9evS ae3) (q9evC w0 4) (hL _ (List.mem_of_getElem? (i := 4) rfl))
  have X2 := q9th_pX (T := T) (N := N) (P := P) (J := J) (t0 := t0) (Sc := Sc) (op := 1002) (q9evS ae0) (q9evZ w0) (q9evS ae1) (hX _ (List.mem_of_getElem? (i := 2) rfl)) (by decide)
  rw [q9FF_1002] at X2
  have H2 := Option.some.inj X2
  try simp only [kz, k4, k60] at H2
  have V1 := q9pV (T := T) (N := N) (P := P) (J := J) (t0 := t0) (Sc := Sc) (op := 1013) (n := 7) (q9evS ae1) (q9evZ w0) (hV _ (List.mem_of_getElem? (i := 1) rfl)) (by decide)
  rw [q9FF_1013] at V1
  have K1 := Option.some.inj V1
  try simp only [kz, k4, k60] at K1
  have L5 : (Int32.ofInt 4).toInt ≤ x3.toInt + 0 := q9pC (q9evC w0 4) (q9evS ae3) (hL _ (List.mem_of_getElem? (i := 5) rfl))
  obtain ⟨c, hv, hc, h8, h9, -⟩ := K0
  have hd : x3.toInt + 1 = c.2.2.length := q9th_at_of hv hc H0
  have hz : x2.toInt = c.2.1 := q9th_at_of hv hc H1
  have hb : q9spI T N c.1 = x1.toInt := by rw [hc]; exact H2
  obtain ⟨q, st, hst⟩ : ∃ q st, c.2.2 = q :: st := by
    cases hh : c.2.2 with
    | nil => exfalso; rw [hh, List.length_nil] at hd; omega
    | cons q st => exact ⟨q, st, rfl⟩
  have hl2 : c.2.2.length = st.length + 1 := by rw [hst, List.length_cons]
  have hk : q9kbI T N (q9spI T N c.1) = 7 := by rw [hb]; exact K1
  have hl := q9lk_of h8 (by omega)
  have k7 := q9kb_7 (T := T) (N := N) (i := q9spI T N c.1)
  have hn : q9th_nxI T N P J c = none := q9nx_no h8 (.inl fun h => by have := h.2.2.1; have := h.2.2.2.1; omega)
  have hre : q9th_reI T N P J c = (3, x1.toInt) := by unfold q9th_reI; rw [if_neg h8, if_neg (by omega), if_neg (by omega), if_pos (by omega), hb]
  have rg0 : (3 : Int) ≤ 3 ∧ (3 : Int) ≤ 3 := by omega
  obtain ⟨x4, nt4⟩ : ∃ x : Int32, x.toInt = 3 := ⟨Int32.ofInt (3), q9oI_toInt (by omega)⟩
  have u_ : q9upN w 5 [.int x4] 0 = .int 0 := q9upN_of (by decide) w0
  have u0 : q9upN w 5 [.int x4] 1 = .int x0 := q9upN_of (by decide) ae0
  have u1 : q9upN w 5 [.int x4] 2 = .int x1 := q9upN_of (by decide) ae1
  have u2 : q9upN w 5 [.int x4] 3 = .int x2 := q9upN_of (by decide) ae2
  have u3 : q9upN w 5 [.int x4] 4 = .int x3 := q9upN_of (by decide) ae3
  have u4 : q9upN w 5 [.int x4] 5 = .int x4 := q9upN_at (by decide)
  refine ⟨[.int x4], fun i9 p9 hq9 => ?_, List.forall_mem_cons.mpr ⟨?_, fun _ h => absurd h List.not_mem_nil⟩, fun _ h => absurd h List.not_mem_nil⟩
  · match i9, hq9 with
    | 0, hq9 =>
      have hp9 : ((1040, (0, 0), (0, 0), (0, 3, 3)) : Nat × q9AV × q9AV × q9ET) = p9 := Option.some.inj hq9
      subst hp9
      exact ⟨⟨x4, rfl, by rw [nt4]; exact rg0.1, by rw [nt4]; exact rg0.2⟩, (q9th_tX (T := T) (N := N) (P := P) (J := J) (t0 := t0) (Sc := Sc) (q9evZ u_) (q9evZ u_) (q9evS u4) (by rw [q9FF_1040, nt4]; exact (by rw [← q9FF_1040 (t0 := t0) (Sc := Sc) (a := (0 : Int32).toInt) (b := (0 : Int32).toInt)]; exact q9F_rsk hv hn (by rw [hre]))) (by decide)).trans (congrArg some (q9evS u4))⟩
    | k9 + 1, hq9 => exact nomatch (show (none : Option (Nat × q9AV × q9AV × q9ET)) = some p9 from hq9)
  · exact q9th_tX (T := T) (N := N) (P := P) (J := J) (t0 := t0) (Sc := Sc) (q9evZ u_) (q9evZ u_) (q9evS u1) (by rw [q9FF_1041]; exact (by rw [← q9FF_1041 (t0 := t0) (Sc := Sc) (a := (0 : Int32).toInt) (b := (0 : Int32).toInt)]; exact q9F_rsp hv hn (by rw [hre]; exact (by decide : (3 : Int) ≠ 0)) (by rw [hre]))) (by decide)
theorem q9ru_cc (hT : ∀ i, 0 ≤ T i ∧ T i ≤ 255) (hN : 0 ≤ N ∧ N ≤ 400) (hSc : 0 ≤ Sc 1 ∧ Sc 1 ≤ 400 → N = Sc 1) : q9ruOK (fO T N P J t0 Sc) q9R_cc := by
  intro w w0 hA hX hL hV hR
  obtain ⟨x0, ae0, -, -⟩ := hA 0 0 rfl
  obtain ⟨x1, ae1, -, -⟩ := hA 1 0 rfl
  obtain ⟨x2, ae2, -, -⟩ := hA 2 0 rfl
  obtain ⟨x3, ae3, -, -⟩ := hA 3 0 rfl
  obtain ⟨x4, ae4, -, -⟩ := hA 4 0 rfl
  obtain ⟨x5, ae5, -, -⟩ := hA 5 0 rfl
  obtain ⟨x6, ae6, -, -⟩ := hA 6 0 rfl
  obtain ⟨x7, ae7, -, -⟩ := hA 7 0 rfl
  obtain ⟨x8, ae8, -, -⟩ := hA 8 0 rfl
  obtain ⟨x9, ae9, -, -⟩ := hA 9 0 rfl
  obtain ⟨x10, ae10, -, -⟩ := hA 10 1 rfl
  obtain ⟨x11, ae11, -, -⟩ := hA 11 1 rfl
  obtain ⟨x12, ae12, -, -⟩ := hA 12 1 rfl
  obtain ⟨x13, ae13, -, -⟩ := hA 13 1 rfl
  obtain ⟨x14, ae14, -, -⟩ := hA 14 1 rfl
  obtain ⟨x15, ae15, -, -⟩ := hA 15 1 rfl
  obtain ⟨x16, ae16, -, -⟩ := hA 16 1 rfl
  obtain ⟨x17, ae17, -, -⟩ := hA 17 1 rfl
  obtain ⟨x18, ae18, -, -⟩ := hA 18 1 rfl
  have kz : (0 : Int32).toInt = 0 := rfl
  have k1 : (Int32.ofInt 1).toInt = 1 := q9oI_toInt (by decide)
  have k4 : (Int32.ofInt 4).toInt = 4 := q9oI_toInt (by decide)
  have k59 : (Int32.ofInt 59).toInt = 59 := q9oI_toInt (by decide)
  have k60 : (Int32.ofInt 60).toInt = 60 := q9oI_toInt (by decide)
  have k93 : (Int32.ofInt 93).toInt = 93 := q9oI_toInt (by decide)
  have V0 := q9pV (T := T) (N := N) (P := P) (J := J) (t0 := t0) (Sc := Sc) (op := 1020) (n := 1) (q9evS ae0) (q9evZ w0) (hV _ (List.mem_of_getElem? (i := 0) rfl)) (by decide)
  rw [q9FF_1020] at V0
  have K0 := q9chV_of V0
  try simp only [kz, k1, k4, k59, k60, k93] at K0
  have X0 := q9th_pX (T := T) (N := N) (P := P) (J := J) (t0 := t0) (Sc := Sc) (op := 1021) (q9evS ae0) (q9evZ w0) (q9evS ae6) (hX _ (List.mem_of_getElem? (i := 0) rfl)) (by decide)
  rw [q9FF_1021] at X0
  have H0 := q9chV_of X0
  try simp only [kz, k1, k4, k59, k60, k93] at H0
  have X1 := q9th_pX (T := T) (N := N) (P := P) (J := J) (t0 := t0) (Sc := Sc) (op := 1022) (q9evS ae0) (q9evZ w0) (q9evS ae5) (hX _ (List.mem_of_getElem? (i := 1) rfl)) (by decide)
  rw [q9FF_1022] at X1
  have H1 := q9chV_of X1
  try simp only [kz, k1, k4, k59, k60, k93] at H1
  have L0 : (0 : Int32).toInt ≤ x0.toInt + 0 := q9pC (q9evZ w0) (q9evS ae0) (hL _ (List.mem_of_getElem? (i := 0) rfl))
  have L1 : (0 : Int32).toInt ≤ x5.toInt + 0 := q9pC (q9evZ w0) (q9evS ae5) (hL _ (List.mem_of_getElem? (i := 1) rfl))
  have L2 : x5.toInt ≤ (Int32.ofInt 60).toInt + 0 := q9pC (q9evS ae5) (q9evC w0 60) (hL _ (List.mem_of_getElem? (i := 2) rfl))
  have L3 : (0 : Int32).toInt ≤ x6.toInt + 0 := q9pC (q9evZ w0) (q9evS ae6) (hL _ (List.mem_of_getElem? (i := 3) rfl))
  have L4 : x6.toInt ≤ (Int32.ofInt 4).toInt + 0 := q9pC (q9evS ae6) (q9evC w0 4) (hL _ (List.mem_of_getElem? (i := 4) rfl))
  have L5 : (Int32.ofInt 1).toInt ≤ x6.toInt + 0 := q9pC (q9evC w0 1) (q9evS ae6) (hL _ (List.mem_of_getElem? (i := 5) rfl))
  have X2 := q9th_pX (T := T) (N := N) (P := P) (J := J) (t0 := t0) (Sc := Sc) (op := 1002) (q9evS ae0) (q9evZ w0) (q9evS ae1) (hX _ (List.mem_of_getElem? (i := 2) rfl)) (by decide)
  rw [q9FF_1002] at X2
  have H2 := Option.some.inj X2
  try simp only [kz, k1, k4, k59, k60, k93] at H2
  have V1 := q9pV (T := T) (N := N) (P := P) (J := J) (t0 := t0) (Sc := Sc) (op := 1009) (n := 1) (q9evS ae1) (q9evC w0 93) (hV _ (List.mem_of_getElem? (i := 1) rfl)) (by decide)
  rw [q9FF_1009] at V1
  have K1 := Option.some.inj V1
  try simp only [kz, k1, k4, k59, k60, k93] at K1
  have L6 : x2.toInt ≤ x1.toInt + 1 := q9pC (q9evS ae2) (q9evS ae1) (hL _ (List.mem_of_getElem? (i := 6) rfl))
  have L7 : x1.toInt ≤ x2.toInt + (-1) := q9pC (q9evS ae1) (q9evS ae2) (hL _ (List.mem_of_getElem? (i := 7) rfl))
  have X3 := q9th_pX (T := T) (N := N) (P := P) (J := J) (t0 := t0) (Sc := Sc) (op := 1002) (q9evS ae2) (q9evZ w0) (q9evS ae3) (hX _ (List.mem_of_getElem? (i := 3) rfl)) (by decide)
  rw [q9FF_1002] at X3
  have H3 := Option.some.inj X3
  try simp only [kz, k1, k4, k59, k60, k93] at H3
  have V2 := q9pV (T := T) (N := N) (P := P) (J := J) (t0 := t0) (Sc := Sc) (op := 1009) (n := 1) (q9evS ae3) (q9evC w0 59) (hV _ (List.mem_of_getElem? (i := 2) rfl)) (by decide)
  rw [q9FF_1009] at V2
  have K2 := Option.some.inj V2
  try simp only [kz, k1, k4, k59, k60, k93] at K2
  have L8 : x4.toInt ≤ x3.toInt + 1 := q9pC (q9evS ae4) (q9evS ae3) (hL _ (List.mem_of_getElem? (i := 8) rfl))
  have L9 : x3.toInt ≤ x4.toInt + (-1) := q9pC (q9evS ae3) (q9evS ae4) (hL _ (List.mem_of_getElem? (i := 9) rfl))
  have L10 : x6.toInt ≤ x7.toInt + 1 := q9pC (q9evS ae6) (q9evS ae7) (hL _ (List.mem_of_getElem? (i := 10) rfl))
  have L11 : x7.toInt ≤ x6.toInt + (-1) := q9pC (q9evS ae7) (q9evS ae6) (hL _ (List.mem_of_getElem? (i := 11) rfl))
  have X4 := q9th_pX (T := T) (N := N) (P := P) (J := J) (t0 := t0) (Sc := Sc) (op := 1023) (q9evS ae0) (q9evS ae6) (q9evS ae8) (hX _ (List.mem_of_getElem? (i := 4) rfl)) (by decide)
  rw [q9FF_1023] at X4
  have H4 := q9chV_of X4
  try simp only [kz, k1, k4, k59, k60, k93] at H4
  have X5 := q9th_pX (T := T) (N := N) (P := P) (J := J) (t0 := t0) (Sc := Sc) (op := 1051) (q9evS ae8) (q9evZ w0) (q9evS ae9) (hX _ (List.mem_of_getElem? (i := 5) rfl)) (by decide)
  rw [q9FF_1051] at X5
  have H5 := q9chV_of X5
  try simp only [kz, k1, k4, k59, k60, k93] at H5
  have X6 := q9pB (T := T) (N := N) (P := P) (J := J) (t0 := t0) (Sc := Sc) (q9evS ae9) (q9evS ae9) (q9evS ae10) (hX _ (List.mem_of_getElem? (i := 6) rfl))
  have X7 := q9pL (T := T) (N := N) (P := P) (J := J) (t0 := t0) (Sc := Sc) (op := 1024) (q9evS ae0) (q9evS ae6) (q9evS ae11) (hX _ (List.mem_of_getElem? (i := 7) rfl)) (by decide)
  rw [q9FL_1024] at X7
  have H7 := q9chV_of X7
  try simp only [kz, k1, k4, k59, k60, k93] at H7
  have X8 := q9pL (T := T) (N := N) (P := P) (J := J) (t0 := t0) (Sc := Sc) (op := 1024) (q9evS ae0) (q9evS ae7) (q9evS ae12) (hX _ (List.mem_of_getElem? (i := 8) rfl)) (by decide)
  rw [q9FL_1024] at X8
  have H8 := q9chV_of X8
  try simp only [kz, k1, k4, k59, k60, k93] at H8
  have X9 := q9pB (T := T) (N := N) (P := P) (J := J) (t0 := t0) (Sc := Sc) (q9evS ae10) (q9evS ae11) (q9evS ae13) (hX _ (List.mem_of_getElem? (i := 9) rfl))
  have X10 := q9pB (T := T) (N := N) (P := P) (J := J) (t0 := t0) (Sc := Sc) (q9evS ae12) (q9evS ae13) (q9evS ae14) (hX _ (List.mem_of_getElem? (i := 10) rfl))
  have X11 := q9pL (T := T) (N := N) (P := P) (J := J) (t0 := t0) (Sc := Sc) (op := 1025) (q9evS ae0) (q9evS ae6) (q9evS ae15) (hX _ (List.mem_of_getElem? (i := 11) rfl)) (by decide)
  rw [q9FL_1025] at X11
  have H11 := q9chV_of X11
  try simp only [kz, k1, k4, k59, k60, k93] at H11
  have X12 := q9pL (T := T) (N := N) (P := P) (J := J) (t0 := t0) (Sc := Sc) (op := 1025) (q9evS ae0) (q9evS ae7) (q9evS ae16) (hX _ (List.mem_of_getElem? (i := 12) rfl)) (by decide)
  rw [q9FL_1025] at X12
  have H12 := q9chV_of X12
  try simp only [kz, k1, k4, k59, k60, k93] at H12
  have X13 := q9pB (T := T) (N := N) (P := P) (J := J) (t0 := t0) (Sc := Sc) (q9evS ae10) (q9evS ae15) (q9evS ae17) (hX _ (List.mem_of_getElem? (i := 13) rfl))
  have X14 := q9pB (T := T) (N := N) (P := P) (J := J) (t0 := t0) (Sc := Sc) (q9evS ae16) (q9evS ae17) (q9evS ae18) (hX _ (List.mem_of_getElem? (i := 14) rfl))
  obtain ⟨c, hv, hc, -⟩ := K0
  have hd : x6.toInt + 1 = c.2.2.length := q9th_at_of hv hc H0
  have hz : x5.toInt = c.2.1 := q9th_at_of hv hc H1
  have hb : q9spI T N c.1 = x1.toInt := by rw [hc]; exact H2
  obtain ⟨q, st, hst⟩ : ∃ q st, c.2.2 = q :: st := by
    cases hh : c.2.2 with
    | nil => exfalso; rw [hh, List.length_nil] at hd; omega
    | cons q st => exact ⟨q, st, rfl⟩
  have hl2 : c.2.2.length = st.length + 1 := by rw [hst, List.length_cons]
  have hb93 : q9byI T N (q9spI T N c.1) = 93 := by rw [hb]; exact q9is_1 K1 (by omega)
  have h8 : q9lkI T N c = 8 := q9lk_8 (by omega) hb93
  obtain ⟨q', st', hq'⟩ : ∃ q' st', st = q' :: st' := by
    cases hh : st with
    | nil => exfalso; rw [hh, List.length_nil] at hl2; omega
    | cons q st => exact ⟨q, st, rfl⟩
  subst hq'
  have hl3 : c.2.2.length = st'.length + 2 := by rw [hl2, List.length_cons]
  have hs3 : q9spI T N (q9spI T N c.1 + 1) = x3.toInt := by rw [show q9spI T N c.1 + 1 = x2.toInt by omega]; exact H3
  have hn := q9nx_close (P := P) (J := J) hst h8 (by rw [hs3]; exact q9is_1 K2 (by omega))
  have ho : 1 ≤ x6.toInt ∧ ∃ e, q9enI c x6.toInt = some e ∧ x8.toInt = e.1 := q9th_at_of hv hc H4
  obtain ⟨-, q0, o1, o2⟩ := ho
  rw [q9en_top hst hd] at o1
  cases o1
  obtain ⟨c1, a1, a2, a3, a4⟩ := H5
  obtain ⟨-, -, -, -, -, -, i7⟩ := q9vis_inv hN.1 hv
  obtain ⟨-, -, ⟨c0, b1, b2, b3, b4, b5⟩, -⟩ := i7 0 _ (q9top_of hst) (by rw [q9stP_len]; omega)
  have ec : c1 = c0 := q9ln_one a1 b1 a2 b2 (by rw [a3, b4, o2])
  subst ec
  have hm : x10 = q9moI T N P J q.2.1 := by
    have e10 : x9.toInt64 = x10 := Value.long.inj (Option.some.inj (X6 : some (Value.long x9.toInt64) = some (.long x10)))
    rw [← e10, q9i2l_of, a4, b3, q9mo_am b5]
  have hf : ∃ e, q9enI c x6.toInt = some e ∧ x11 = e.2.2.1 := q9th_at_of hv hc H7
  obtain ⟨q1, f1, f2⟩ := hf
  rw [q9en_top hst hd] at f1
  cases f1
  have hg : ∃ e, q9enI c x6.toInt = some e ∧ x15 = e.2.2.2 := q9th_at_of hv hc H11
  obtain ⟨q2, g1, g2⟩ := hg
  rw [q9en_top hst hd] at g1
  cases g1
  have el : q9enI c x7.toInt = some q' := by rw [q9en_low hst (by omega) (by rw [List.length_cons]; omega), List.length_cons, show st'.length + 1 - 1 - x7.toInt.toNat = 0 by omega]; rfl
  have hf2 : ∃ e, q9enI c x7.toInt = some e ∧ x12 = e.2.2.1 := q9th_at_of hv hc H8
  obtain ⟨q3, f3, f4⟩ := hf2
  rw [el] at f3
  cases f3
  have hg2 : ∃ e, q9enI c x7.toInt = some e ∧ x16 = e.2.2.2 := q9th_at_of hv hc H12
  obtain ⟨q4, g3, g4⟩ := hg2
  rw [el] at g3
  cases g3
  have m1 : x10 * x11 = x13 := Value.long.inj (Option.some.inj (X9 : some (Value.long (x10 * x11)) = some (.long x13)))
  have m2 : x12 + x13 = x14 := Value.long.inj (Option.some.inj (X10 : some (Value.long (x12 + x13)) = some (.long x14)))
  have m3 : x10 * x15 = x17 := Value.long.inj (Option.some.inj (X13 : some (Value.long (x10 * x15)) = some (.long x17)))
  have m4 : x16 + x17 = x18 := Value.long.inj (Option.some.inj (X14 : some (Value.long (x16 + x17)) = some (.long x18)))
  generalize hgc : ((q9spI T N (q9spI T N c.1 + 1) + 1, c.2.1, (q'.1, q'.2.1, q'.2.2.1 + q9moI T N P J q.2.1 * q.2.2.1, q'.2.2.2 + q9moI T N P J q.2.1 * q.2.2.2) :: st') : q9CF9) = c' at hn
  have hv' := q9vis_next hv hn
  have hc' : c'.1 = x4.toInt := by rw [← hgc]; show q9spI T N (q9spI T N c.1 + 1) + 1 = _; omega
  have hst' : c'.2.2 = (q'.1, q'.2.1, x14, x18) :: st' := by rw [← hgc]; show (q'.1, q'.2.1, _, _) :: st' = _; rw [← hm, ← f2, ← g2, ← f4, ← g4, m1, m2, m3, m4]
  have hl4 : c'.2.2.length = st'.length + 1 := by rw [hst', List.length_cons]
  have hz' : c'.2.1 = c.2.1 := by rw [← hgc]
  have et : q9enI c' x7.toInt = some (q'.1, q'.2.1, x14, x18) := q9en_top hst' (by omega)
  have rg0 : (1 : Int) ≤ 1 ∧ (1 : Int) ≤ 1 := by omega
  obtain ⟨x19, nt19⟩ : ∃ x : Int32, x.toInt = 1 := ⟨Int32.ofInt (1), q9oI_toInt (by omega)⟩
  have rg1 : (0 : Int) ≤ x7.toInt ∧ (x7.toInt : Int) ≤ 3 := by omega
  obtain ⟨x20, nt20⟩ : ∃ x : Int32, x.toInt = x7.toInt := ⟨Int32.ofInt (x7.toInt), q9oI_toInt (by omega)⟩
  have u_ : q9upN w 20 [.int x19, .int x20] 0 = .int 0 := q9upN_of (by decide) w0
  have u0 : q9upN w 20 [.int x19, .int x20] 1 = .int x0 := q9upN_of (by decide) ae0
  have u1 : q9upN w 20 [.int x19, .int x20] 2 = .int x1 := q9upN_of (by decide) ae1
  have u2 : q9upN w 20 [.int x19, .int x20] 3 = .int x2 := q9upN_of (by decide) ae2
  have u3 : q9upN w 20 [.int x19, .int x20] 4 = .int x3 := q9upN_of (by decide) ae3
  have u4 : q9upN w 20 [.int x19, .int x20] 5 = .int x4 := q9upN_of (by decide) ae4
  have u5 : q9upN w 20 [.int x19, .int x20] 6 = .int x5 := q9upN_of (by decide) ae5
  have u6 : q9upN w 20 [.int x19, .int x20] 7 = .int x6 := q9upN_of (by decide) ae6
  have u7 : q9upN w 20 [.int x19, .int x20] 8 = .int x7 := q9upN_of (by decide) ae7
  have u8 : q9upN w 20 [.int x19, .int x20] 9 = .int x8 := q9upN_of (by decide) ae8
  have u9 : q9upN w 20 [.int x19, .int x20] 10 = .int x9 := q9upN_of (by decide) ae9
  have u10 : q9upN w 20 [.int x19, .int x20] 11 = .long x10 := q9upN_of (by decide) ae10
  have u11 : q9upN w 20 [.int x19, .int x20] 12 = .long x11 := q9upN_of (by decide) ae11
  have u12 : q9upN w 20 [.int x19, .int x20] 13 = .long x12 := q9upN_of (by decide) ae12
  have u13 : q9upN w 20 [.int x19, .int x20] 14 = .long x13 := q9upN_of (by decide) ae13
  have u14 : q9upN w 20 [.int x19, .int x20] 15 = .long x14 := q9upN_of (by decide) ae14
  have u15 : q9upN w 20 [.int x19, .int x20] 16 = .long x15 := q9upN_of (by decide) ae15
  have u16 : q9upN w 20 [.int x19, .int x20] 17 = .long x16 := q9upN_of (by decide) ae16
  have u17 : q9upN w 20 [.int x19, .int x20] 18 = .long x17 := q9upN_of (by decide) ae17
  have u18 : q9upN w 20 [.int x19, .int x20] 19 = .long x18 := q9upN_of (by decide) ae18
  have u19 : q9upN w 20 [.int x19, .int x20] 20 = .int x19 := q9upN_at (by decide)
  have u20 : q9upN w 20 [.int x19, .int x20] 21 = .int x20 := q9upN_at (by decide)
  refine ⟨[.int x19, .int x20], fun i9 p9 hq9 => ?_, List.forall_mem_cons.mpr ⟨?_, List.forall_mem_cons.mpr ⟨?_, List.forall_mem_cons.mpr ⟨?_, List.forall_mem_cons.mpr ⟨?_, fun _ h => absurd h List.not_mem_nil⟩⟩⟩⟩, List.forall_mem_cons.mpr ⟨?_, List.forall_mem_cons.mpr ⟨?_, List.forall_mem_cons.mpr ⟨?_, fun _ h => absurd h List.not_mem_nil⟩⟩⟩⟩
  · match i9, hq9 with
    | 0, hq9 =>
      have hp9 : ((1020, (5, 0), (0, 0), (0, 1, 1)) : Nat × q9AV × q9AV × q9ET) = p9 := Option.some.inj hq9
      subst hp9
      exact ⟨⟨x19, rfl, by rw [nt19]; exact rg0.1, by rw [nt19]; exact rg0.2⟩, (q9th_tX (T := T) (N := N) (P := P) (J := J) (t0 := t0) (Sc := Sc) (q9evS u4) (q9evZ u_) (q9evS u19) (by rw [q9FF_1020, nt19]; exact (by rw [← q9FF_1020 (t0 := t0) (Sc := Sc) (b := (0 : Int32).toInt)]; exact q9F_vis hv' hc')) (by decide)).trans (congrArg some (q9evS u19))⟩
    | 1, hq9 =>
      have hp9 : ((1021, (5, 0), (0, 0), (0, 0, 3)) : Nat × q9AV × q9AV × q9ET) = p9 := Option.some.inj hq9
      subst hp9
      exact ⟨⟨x20, rfl, by rw [nt20]; exact rg1.1, by rw [nt20]; exact rg1.2⟩, (q9th_tX (T := T) (N := N) (P := P) (J := J) (t0 := t0) (Sc := Sc) (q9evS u4) (q9evZ u_) (q9evS u20) (by rw [q9FF_1021, nt20]; exact (by rw [← q9FF_1021 (t0 := t0) (Sc := Sc) (b := (0 : Int32).toInt)]; exact q9F_dp hv' hc' (by omega))) (by decide)).trans (congrArg some (q9evS u20))⟩
    | k9 + 2, hq9 => exact nomatch (show (none : Option (Nat × q9AV × q9AV × q9ET)) = some p9 from hq9)
  · exact q9th_tX (T := T) (N := N) (P := P) (J := J) (t0 := t0) (Sc := Sc) (q9evS u4) (q9evZ u_) (q9evS u5) (by rw [q9FF_1022]; exact (by rw [← q9FF_1022 (t0 := t0) (Sc := Sc) (b := (0 : Int32).toInt)]; exact q9F_sz hv' hc' (by omega))) (by decide)
  · exact q9th_tX (T := T) (N := N) (P := P) (J := J) (t0 := t0) (Sc := Sc) (q9evS u4) (q9evZ u_) (q9evS u0) (by rw [q9FF_1026]; exact (by rw [← q9FF_1026 (t0 := t0) (Sc := Sc) (b := (0 : Int32).toInt)]; exact q9F_prv hv hn hc' hc.symm)) (by decide)
  · exact q9th_tL (T := T) (N := N) (P := P) (J := J) (t0 := t0) (Sc := Sc) (q9evS u4) (q9evS u7) (q9evS u14) (by rw [q9FL_1024]; exact (by rw [← q9FL_1024 (b := x7.toInt)]; exact q9G_frv hv' hc' et rfl)) (by decide)
  · exact q9th_tL (T := T) (N := N) (P := P) (J := J) (t0 := t0) (Sc := Sc) (q9evS u4) (q9evS u7) (q9evS u18) (by rw [q9FL_1025]; exact (by rw [← q9FL_1025 (b := x7.toInt)]; exact q9G_dnv hv' hc' et rfl)) (by decide)
  · exact q9th_tC (d := 0) (q9evS u20) (q9evS u7) (by omega)
  · exact q9th_tC (d := 0) (q9evS u7) (q9evS u20) (by omega)
  · exact q9th_tC (d := (-1)) (q9evS u0) (q9evS u4) (by have := q9nx_pos hn; omega)
theorem q9ru_tc (hT : ∀ i, 0 ≤ T i ∧ T i ≤ 255) (hN : 0 ≤ N ∧ N ≤ 400) (hSc : 0 ≤ Sc 1 ∧ Sc 1 ≤ 400 → N = Sc 1) : q9ruOK (fO T N P J t0 Sc) q9R_tc := by
  intro w w0 hA hX hL hV hR
  obtain ⟨x0, ae0, -, -⟩ := hA 0 0 rfl
  obtain ⟨x1, ae1, -, -⟩ := hA 1 0 rfl
  obtain ⟨x2, ae2, -, -⟩ := hA 2 0 rfl
  obtain ⟨x3, ae3, -, -⟩ := hA 3 0 rfl
  obtain ⟨x4, ae4, -, -⟩ := hA 4 0 rfl
  obtain ⟨x5, ae5, -, -⟩ := hA 5 0 rfl
  obtain ⟨x6, ae6, -, -⟩ := hA 6 0 rfl
  obtain ⟨x7, ae7, -, -⟩ := hA 7 0 rfl
  have kz : (0 : Int32).toInt = 0 := rfl
  have k1 : (Int32.ofInt 1).toInt = 1 := q9oI_toInt (by decide)
  have k4 : (Int32.ofInt 4).toInt = 4 := q9oI_toInt (by decide)
  have k60 : (Int32.ofInt 60).toInt = 60 := q9oI_toInt (by decide)
  have k93 : (Int32.ofInt 93).toInt = 93 := q9oI_toInt (by decide)
  have V0 := q9pV (T := T) (N := N) (P := P) (J := J) (t0 := t0) (Sc := Sc) (op := 1020) (n := 1) (q9evS ae0) (q9evZ w0) (hV _ (List.mem_of_getElem? (i := 0) rfl)) (by decide)
  rw [q9FF_1020] at V0
  have K0 := q9chV_of V0
  try simp only [kz, k1, k4, k60, k93] at K0
  have X0 := q9th_pX (T := T) (N := N) (P := P) (J := J) (t0 := t0) (Sc := Sc) (op := 1021) (q9evS ae0) (q9evZ w0) (q9evS ae4) (hX _ (List.mem_of_getElem? (i := 0) rfl)) (by decide)
  rw [q9FF_1021] at X0
  have H0 := q9chV_of X0
  try simp only [kz, k1, k4, k60, k93] at H0
  have X1 := q9th_pX (T := T) (N := N) (P := P) (J := J) (t0 := t0) (Sc := Sc) (op := 1022) (q9evS ae0) (q9evZ w0) (q9evS ae3) (hX _ (List.mem_of_getElem? (i := 1) rfl)) (by decide)
  rw [q9FF_1022] at X1
  have H1 := q9chV_of X1
  try simp only [kz, k1, k4, k60, k93] at H1
  have L0 : (0 : Int32).toInt ≤ x0.toInt + 0 := q9pC (q9evZ w0) (q9evS ae0) (hL _ (List.mem_of_getElem? (i := 0) rfl))
  have L1 : (0 : Int32).toInt ≤ x3.toInt + 0 := q9pC (q9evZ w0) (q9evS ae3) (hL _ (List.mem_of_getElem? (i := 1) rfl))
  have L2 : x3.toInt ≤ (Int32.ofInt 60).toInt + 0 := q9pC (q9evS ae3) (q9evC w0 60) (hL _ (List.mem_of_getElem? (i := 2) rfl))
  have L3 : (0 : Int32).toInt ≤ x4.toInt + 0 := q9pC (q9evZ w0) (q9evS ae4) (hL _ (List.mem_of_getElem? (i := 3) rfl))
  have L4 : x4.toInt ≤ (Int32.ofInt 4).toInt + 0 := q9pC (q9evS ae4) (q9evC w0 4) (hL _ (List.mem_of_getElem? (i := 4) rfl))
  have L5 : (Int32.ofInt 1).toInt ≤ x4.toInt + 0 := q9pC (q9evC w0 1) (q9evS ae4) (hL _ (List.mem_of_getElem? (i := 5) rfl))
  have X2 := q9th_pX (T := T) (N := N) (P := P) (J := J) (t0 := t0) (Sc := Sc) (op := 1002) (q9evS ae0) (q9evZ w0) (q9evS ae1) (hX _ (List.mem_of_getElem? (i := 2) rfl)) (by decide)
  rw [q9FF_1002] at X2
  have H2 := Option.some.inj X2
  try simp only [kz, k1, k4, k60, k93] at H2
  have V1 := q9pV (T := T) (N := N) (P := P) (J := J) (t0 := t0) (Sc := Sc) (op := 1009) (n := 1) (q9evS ae1) (q9evC w0 93) (hV _ (List.mem_of_getElem? (i := 1) rfl)) (by decide)
  rw [q9FF_1009] at V1
  have K1 := Option.some.inj V1
  try simp only [kz, k1, k4, k60, k93] at K1
  have L6 : x2.toInt ≤ x1.toInt + 1 := q9pC (q9evS ae2) (q9evS ae1) (hL _ (List.mem_of_getElem? (i := 6) rfl))
  have L7 : x1.toInt ≤ x2.toInt + (-1) := q9pC (q9evS ae1) (q9evS ae2) (hL _ (List.mem_of_getElem? (i := 7) rfl))
  have L8 : x4.toInt ≤ x5.toInt + 1 := q9pC (q9evS ae4) (q9evS ae5) (hL _ (List.mem_of_getElem? (i := 8) rfl))
  have L9 : x5.toInt ≤ x4.toInt + (-1) := q9pC (q9evS ae5) (q9evS ae4) (hL _ (List.mem_of_getElem? (i := 9) rfl))
  have X3 := q9th_pX (T := T) (N := N) (P := P) (J := J) (t0 := t0) (Sc := Sc) (op := 1023) (q9evS ae0) (q9evS ae4) (q9evS ae6) (hX _ (List.mem_of_getElem? (i := 3) rfl)) (by decide)
  rw [q9FF_1023] at X3
  have H3 := q9chV_of X3
  try simp only [kz, k1, k4, k60, k93] at H3
  have X4 := q9th_pX (T := T) (N := N) (P := P) (J := J) (t0 := t0) (Sc := Sc) (op := 1037) (q9evS ae0) (q9evS ae4) (q9evS ae7) (hX _ (List.mem_of_getElem? (i := 4) rfl)) (by decide)
  rw [q9FF_1037] at X4
  have H4 := q9chV_of X4
  try simp only [kz, k1, k4, k60, k93] at H4
  obtain ⟨c, hv, hc, -⟩ := K0
  have hd : x4.toInt + 1 = c.2.2.length := q9th_at_of hv hc H0
  have hz : x3.toInt = c.2.1 := q9th_at_of hv hc H1
  have hb : q9spI T N c.1 = x1.toInt := by rw [hc]; exact H2
  obtain ⟨q, st, hst⟩ : ∃ q st, c.2.2 = q :: st := by
    cases hh : c.2.2 with
    | nil => exfalso; rw [hh, List.length_nil] at hd; omega
    | cons q st => exact ⟨q, st, rfl⟩
  have hl2 : c.2.2.length = st.length + 1 := by rw [hst, List.length_cons]
  have hb93 : q9byI T N (q9spI T N c.1) = 93 := by rw [hb]; exact q9is_1 K1 (by omega)
  have h8 : q9lkI T N c = 8 := q9lk_8 (by omega) hb93
  obtain ⟨q', st', hq'⟩ : ∃ q' st', st = q' :: st' := by
    cases hh : st with
    | nil => exfalso; rw [hh, List.length_nil] at hl2; omega
    | cons q st => exact ⟨q, st, rfl⟩
  subst hq'
  have hl3 : c.2.2.length = st'.length + 2 := by rw [hl2, List.length_cons]
  have hp : q9prI T N P J c x2.toInt := ⟨hv, .inr ⟨h8, by omega⟩⟩
  have ho : 1 ≤ x4.toInt ∧ ∃ e, q9enI c x4.toInt = some e ∧ x6.toInt = e.1 := q9th_at_of hv hc H3
  obtain ⟨-, q0, o1, o2⟩ := ho
  rw [q9en_top hst hd] at o1
  cases o1
  have hp2 : 1 ≤ x4.toInt ∧ ∃ e, q9enI c x4.toInt = some e ∧ x7.toInt = e.2.1 := q9th_at_of hv hc H4
  obtain ⟨-, q1, p1, p2⟩ := hp2
  rw [q9en_top hst hd] at p1
  cases p1
  have rg0 : (1 : Int) ≤ 1 ∧ (1 : Int) ≤ 1 := by omega
  obtain ⟨x8, nt8⟩ : ∃ x : Int32, x.toInt = 1 := ⟨Int32.ofInt (1), q9oI_toInt (by omega)⟩
  have rg1 : (0 : Int) ≤ x5.toInt ∧ (x5.toInt : Int) ≤ 3 := by omega
  obtain ⟨x9, nt9⟩ : ∃ x : Int32, x.toInt = x5.toInt := ⟨Int32.ofInt (x5.toInt), q9oI_toInt (by omega)⟩
  have u_ : q9upN w 9 [.int x8, .int x9] 0 = .int 0 := q9upN_of (by decide) w0
  have u0 : q9upN w 9 [.int x8, .int x9] 1 = .int x0 := q9upN_of (by decide) ae0
  have u1 : q9upN w 9 [.int x8, .int x9] 2 = .int x1 := q9upN_of (by decide) ae1
  have u2 : q9upN w 9 [.int x8, .int x9] 3 = .int x2 := q9upN_of (by decide) ae2
  have u3 : q9upN w 9 [.int x8, .int x9] 4 = .int x3 := q9upN_of (by decide) ae3
  have u4 : q9upN w 9 [.int x8, .int x9] 5 = .int x4 := q9upN_of (by decide) ae4
  have u5 : q9upN w 9 [.int x8, .int x9] 6 = .int x5 := q9upN_of (by decide) ae5
  have u6 : q9upN w 9 [.int x8, .int x9] 7 = .int x6 := q9upN_of (by decide) ae6
  have u7 : q9upN w 9 [.int x8, .int x9] 8 = .int x7 := q9upN_of (by decide) ae7
  have u8 : q9upN w 9 [.int x8, .int x9] 9 = .int x8 := q9upN_at (by decide)
  have u9 : q9upN w 9 [.int x8, .int x9] 10 = .int x9 := q9upN_at (by decide)
  refine ⟨[.int x8, .int x9], fun i9 p9 hq9 => ?_, List.forall_mem_cons.mpr ⟨?_, List.forall_mem_cons.mpr ⟨?_, List.forall_mem_cons.mpr ⟨?_, List.forall_mem_cons.mpr ⟨?_, fun _ h => absurd h List.not_mem_nil⟩⟩⟩⟩, List.forall_mem_cons.mpr ⟨?_, List.forall_mem_cons.mpr ⟨?_, List.forall_mem_cons.mpr ⟨?_, fun _ h => absurd h List.not_mem_nil⟩⟩⟩⟩
  · match i9, hq9 with
    | 0, hq9 =>
      have hp9 : ((1030, (3, 0), (0, 0), (0, 1, 1)) : Nat × q9AV × q9AV × q9ET) = p9 := Option.some.inj hq9
      subst hp9
      exact ⟨⟨x8, rfl, by rw [nt8]; exact rg0.1, by rw [nt8]; exact rg0.2⟩, (q9th_tX (T := T) (N := N) (P := P) (J := J) (t0 := t0) (Sc := Sc) (q9evS u2) (q9evZ u_) (q9evS u8) (by rw [q9FF_1030, nt8]; exact (by rw [← q9FF_1030 (t0 := t0) (Sc := Sc) (b := (0 : Int32).toInt)]; exact q9F_pvs hp)) (by decide)).trans (congrArg some (q9evS u8))⟩
    | 1, hq9 =>
      have hp9 : ((1031, (3, 0), (0, 0), (0, 0, 3)) : Nat × q9AV × q9AV × q9ET) = p9 := Option.some.inj hq9
      subst hp9
      exact ⟨⟨x9, rfl, by rw [nt9]; exact rg1.1, by rw [nt9]; exact rg1.2⟩, (q9th_tX (T := T) (N := N) (P := P) (J := J) (t0 := t0) (Sc := Sc) (q9evS u2) (q9evZ u_) (q9evS u9) (by rw [q9FF_1031, nt9]; exact (by rw [← q9FF_1031 (t0 := t0) (Sc := Sc) (b := (0 : Int32).toInt)]; exact q9F_pdp hp (by rw [if_pos h8]; omega))) (by decide)).trans (congrArg some (q9evS u9))⟩
    | k9 + 2, hq9 => exact nomatch (show (none : Option (Nat × q9AV × q9AV × q9ET)) = some p9 from hq9)
  · exact q9th_tX (T := T) (N := N) (P := P) (J := J) (t0 := t0) (Sc := Sc) (q9evS u2) (q9evZ u_) (q9evS u3) (by rw [q9FF_1032]; exact (by rw [← q9FF_1032 (t0 := t0) (Sc := Sc) (b := (0 : Int32).toInt)]; exact q9F_psz hp (by rw [if_pos h8]; omega))) (by decide)
  · exact q9th_tX (T := T) (N := N) (P := P) (J := J) (t0 := t0) (Sc := Sc) (q9evS u2) (q9evZ u_) (q9evS u7) (by rw [q9FF_1034]; exact (by rw [← q9FF_1034 (t0 := t0) (Sc := Sc) (b := (0 : Int32).toInt)]; exact q9F_plk hp hst (by rw [if_pos h8]; exact p2))) (by decide)
  · exact q9th_tX (T := T) (N := N) (P := P) (J := J) (t0 := t0) (Sc := Sc) (q9evS u2) (q9evZ u_) (q9evS u0) (by rw [q9FF_1036]; exact (by rw [← q9FF_1036 (t0 := t0) (Sc := Sc) (b := (0 : Int32).toInt)]; exact q9F_pca hp h8 hc.symm)) (by decide)
  · exact q9th_tX (T := T) (N := N) (P := P) (J := J) (t0 := t0) (Sc := Sc) (q9evS u6) (q9evZ u_) (q9evS u3) (by rw [q9FF_1052]; exact (by rw [← q9FF_1052 (t0 := t0) (Sc := Sc) (b := (0 : Int32).toInt)]; exact q9F_en hN.1 (.inr ⟨c, q, q' :: st', hv, h8, hst, o2.symm, hz⟩))) (by decide)
  · exact q9th_tC (d := 0) (q9evS u9) (q9evS u5) (by omega)
  · exact q9th_tC (d := 0) (q9evS u5) (q9evS u9) (by omega)
  · exact q9th_tC (d := (-1)) (q9evS u0) (q9evS u2) (by have := q9pr_gt hp; omega)
theorem q9ru_cfc (hT : ∀ i, 0 ≤ T i ∧ T i ≤ 255) (hN : 0 ≤ N ∧ N ≤ 400) (hSc : 0 ≤ Sc 1 ∧ Sc 1 ≤ 400 → N = Sc 1) : q9ruOK (fO T N P J t0 Sc) q9R_cfc := by
  intro w w0 hA hX hL hV hR
  obtain ⟨x0, ae0, -, -⟩ := hA 0 0 rfl
  obtain ⟨x1, ae1, -, -⟩ := hA 1 0 rfl
  obtain ⟨x2, ae2, -, -⟩ := hA 2 0 rfl
  obtain ⟨x3, ae3, -, -⟩ := hA 3 0 rfl
  obtain ⟨x4, ae4, -, -⟩ := hA 4 0 rfl
  obtain ⟨x5, ae5, -, -⟩ := hA 5 0 rfl
  have kz : (0 : Int32).toInt = 0 := rfl
  have k1 : (Int32.ofInt 1).toInt = 1 := q9oI_toInt (by decide)
  have k4 : (Int32.ofInt 4).toInt = 4 := q9oI_toInt (by decide)
  have k59 : (Int32.ofInt 59).toInt = 59 := q9oI_toInt (by decide)
  have k60 : (Int32.ofInt 60).toInt = 60 := q9oI_toInt (by decide)
  have k93 : (Int32.ofInt 93).toInt = 93 := q9oI_toInt (by decide)
  have V0 := q9pV (T := T) (N := N) (P := P) (J := J) (t0 := t0) (Sc := Sc) (op := 1020) (n := 1) (q9evS ae0) (q9evZ w0) (hV _ (List.mem_of_getElem? (i := 0) rfl)) (by decide)
  rw [q9FF_1020] at V0
  have K0 := q9chV_of V0
  try simp only [kz, k1, k4, k59, k60, k93] at K0
  have X0 := q9th_pX (T := T) (N := N) (P := P) (J := J) (t0 := t0) (Sc := Sc) (op := 1021) (q9evS ae0) (q9evZ w0) (q9evS ae5) (hX _ (List.mem_of_getElem? (i := 0) rfl)) (by decide)
  rw [q9FF_1021] at X0
  have H0 := q9chV_of X0
  try simp only [kz, k1, k4, k59, k60, k93] at H0
  have X1 := q9th_pX (T := T) (N := N) (P := P) (J := J) (t0 := t0) (Sc := Sc) (op := 1022) (q9evS ae0) (q9evZ w0) (q9evS ae4) (hX _ (List.mem_of_getElem? (i := 1) rfl)) (by decide)
  rw [q9FF_1022] at X1
  have H1 := q9chV_of X1
  try simp only [kz, k1, k4, k59, k60, k93] at H1
  have L0 : (0 : Int32).toInt ≤ x0.toInt + 0 := q9pC (q9evZ w0) (q9evS ae0) (hL _ (List.mem_of_getElem? (i := 0) rfl))
  have L1 : (0 : Int32).toInt ≤ x4.toInt + 0 := q9pC (q9evZ w0) (q9evS ae4) (hL _ (List.mem_of_getElem? (i := 1) rfl))
  have L2 : x4.toInt ≤ (Int32.ofInt 60).toInt + 0 := q9pC (q9evS ae4) (q9evC w0 60) (hL _ (List.mem_of_getElem? (i := 2) rfl))
  have L3 : (0 : Int32).toInt ≤ x5.toInt + 0 := q9pC (q9evZ w0) (q9evS ae5) (hL _ (List.mem_of_getElem? (i := 3) rfl))
  have L4 : x5.toInt ≤ (Int32.ofInt 4).toInt + 0 := q9pC (q9evS ae5) (q9evC w0 4) (hL _ (List.mem_of_getElem? (i := 4) rfl))
  have L5 : (Int32.ofInt 1).toInt ≤ x5.toInt + 0 := q9pC (q9evC w0 1) (q9evS ae5) (hL _ (List.mem_of_getElem? (i := 5) rfl))
  have X2 := q9th_pX (T := T) (N := N) (P := P) (J := J) (t0 := t0) (Sc := Sc) (op := 1002) (q9evS ae0) (q9evZ w0) (q9evS ae1) (hX _ (List.mem_of_getElem? (i := 2) rfl)) (by decide)
  rw [q9FF_1002] at X2
  have H2 := Option.some.inj X2
  try simp only [kz, k1, k4, k59, k60, k93] at H2
  have V1 := q9pV (T := T) (N := N) (P := P) (J := J) (t0 := t0) (Sc := Sc) (op := 1009) (n := 1) (q9evS ae1) (q9evC w0 93) (hV _ (List.mem_of_getElem? (i := 1) rfl)) (by decide)
  rw [q9FF_1009] at V1
  have K1 := Option.some.inj V1
  try simp only [kz, k1, k4, k59, k60, k93] at K1
  have L6 : x2.toInt ≤ x1.toInt + 1 := q9pC (q9evS ae2) (q9evS ae1) (hL _ (List.mem_of_getElem? (i := 6) rfl))
  have L7 : x1.toInt ≤ x2.toInt + (-1) := q9pC (q9evS ae1) (q9evS ae2) (hL _ (List.mem_of_getElem? (i := 7) rfl))
  have X3 := q9th_pX (T := T) (N := N) (P := P) (J := J) (t0 := t0) (Sc := Sc) (op := 1002) (q9evS ae2) (q9evZ w0) (q9evS ae3) (hX _ (List.mem_of_getElem? (i := 3) rfl)) (by decide)
  rw [q9FF_1002] at X3
  have H3 := Option.some.inj X3
  try simp only [kz, k1, k4, k59, k60, k93] at H3
  have V2 := q9pV (T := T) (N := N) (P := P) (J := J) (t0 := t0) (Sc := Sc) (op := 1009) (n := 0) (q9evS ae3) (q9evC w0 59) (hV _ (List.mem_of_getElem? (i := 2) rfl)) (by decide)
  rw [q9FF_1009] at V2
  have K2 := Option.some.inj V2
  try simp only [kz, k1, k4, k59, k60, k93] at K2
  obtain ⟨c, hv, hc, -⟩ := K0
  have hd : x5.toInt + 1 = c.2.2.length := q9th_at_of hv hc H0
  have hz : x4.toInt = c.2.1 := q9th_at_of hv hc H1
  have hb : q9spI T N c.1 = x1.toInt := by rw [hc]; exact H2
  obtain ⟨q, st, hst⟩ : ∃ q st, c.2.2 = q :: st := by
    cases hh : c.2.2 with
    | nil => exfalso; rw [hh, List.length_nil] at hd; omega
    | cons q st => exact ⟨q, st, rfl⟩
  have hl2 : c.2.2.length = st.length + 1 := by rw [hst, List.length_cons]
  have hb93 : q9byI T N (q9spI T N c.1) = 93 := by rw [hb]; exact q9is_1 K1 (by omega)
  have h8 : q9lkI T N c = 8 := q9lk_8 (by omega) hb93
  obtain ⟨q', st', hq'⟩ : ∃ q' st', st = q' :: st' := by
    cases hh : st with
    | nil => exfalso; rw [hh, List.length_nil] at hl2; omega
    | cons q st => exact ⟨q, st, rfl⟩
  subst hq'
  have hl3 : c.2.2.length = st'.length + 2 := by rw [hl2, List.length_cons]
  have hs3 : q9spI T N (q9spI T N c.1 + 1) = x3.toInt := by rw [show q9spI T N c.1 + 1 = x2.toInt by omega]; exact H3
  have hn := q9nx_no8 (P := P) (J := J) h8 (by rw [hs3]; exact q9is_0 K2 (by omega))
  have hre : q9th_reI T N P J c = (1, x3.toInt) := by unfold q9th_reI; rw [if_pos h8, hs3]
  have rg0 : (1 : Int) ≤ 1 ∧ (1 : Int) ≤ 1 := by omega
  obtain ⟨x6, nt6⟩ : ∃ x : Int32, x.toInt = 1 := ⟨Int32.ofInt (1), q9oI_toInt (by omega)⟩
  have u_ : q9upN w 7 [.int x6] 0 = .int 0 := q9upN_of (by decide) w0
  have u0 : q9upN w 7 [.int x6] 1 = .int x0 := q9upN_of (by decide) ae0
  have u1 : q9upN w 7 [.int x6] 2 = .int x1 := q9upN_of (by decide) ae1
  have u2 : q9upN w 7 [.int x6] 3 = .int x2 := q9upN_of (by decide) ae2
  have u3 : q9upN w 7 [.int x6] 4 = .int x3 := q9upN_of (by decide) ae3
  have u4 : q9upN w 7 [.int x6] 5 = .int x4 := q9upN_of (by decide) ae4
  have u5 : q9upN w 7 [.int x6] 6 = .int x5 := q9upN_of (by decide) ae5
  have u6 : q9upN w 7 [.int x6] 7 = .int x6 := q9upN_at (by decide)
  refine ⟨[.int x6], fun i9 p9 hq9 => ?_, List.forall_mem_cons.mpr ⟨?_, fun _ h => absurd h List.not_mem_nil⟩, fun _ h => absurd h List.not_mem_nil⟩
  · match i9, hq9 with
    | 0, hq9 =>
      have hp9 : ((1040, (0, 0), (0, 0), (0, 1, 1)) : Nat × q9AV × q9AV × q9ET) = p9 := Option.some.inj hq9
      subst hp9
      exact ⟨⟨x6, rfl, by rw [nt6]; exact rg0.1, by rw [nt6]; exact rg0.2⟩, (q9th_tX (T := T) (N := N) (P := P) (J := J) (t0 := t0) (Sc := Sc) (q9evZ u_) (q9evZ u_) (q9evS u6) (by rw [q9FF_1040, nt6]; exact (by rw [← q9FF_1040 (t0 := t0) (Sc := Sc) (a := (0 : Int32).toInt) (b := (0 : Int32).toInt)]; exact q9F_rsk hv hn (by rw [hre]))) (by decide)).trans (congrArg some (q9evS u6))⟩
    | k9 + 1, hq9 => exact nomatch (show (none : Option (Nat × q9AV × q9AV × q9ET)) = some p9 from hq9)
  · exact q9th_tX (T := T) (N := N) (P := P) (J := J) (t0 := t0) (Sc := Sc) (q9evZ u_) (q9evZ u_) (q9evS u3) (by rw [q9FF_1041]; exact (by rw [← q9FF_1041 (t0 := t0) (Sc := Sc) (a := (0 : Int32).toInt) (b := (0 : Int32).toInt)]; exact q9F_rsp hv hn (by rw [hre]; exact (by decide : (1 : Int) ≠ 0)) (by rw [hre]))) (by decide)
theorem q9ru_cfe (hT : ∀ i, 0 ≤ T i ∧ T i ≤ 255) (hN : 0 ≤ N ∧ N ≤ 400) (hSc : 0 ≤ Sc 1 ∧ Sc 1 ≤ 400 → N = Sc 1) : q9ruOK (fO T N P J t0 Sc) q9R_cfe := by
  intro w w0 hA hX hL hV hR
  obtain ⟨x0, ae0, -, -⟩ := hA 0 0 rfl
  obtain ⟨x1, ae1, -, -⟩ := hA 1 0 rfl
  obtain ⟨x2, ae2, -, -⟩ := hA 2 0 rfl
  obtain ⟨x3, ae3, -, -⟩ := hA 3 0 rfl
  obtain ⟨x4, ae4, -, -⟩ := hA 4 0 rfl
  have kz : (0 : Int32).toInt = 0 := rfl
  have k1 : (Int32.ofInt 1).toInt = 1 := q9oI_toInt (by decide)
  have k4 : (Int32.ofInt 4).toInt = 4 := q9oI_toInt (by decide)
  have k60 : (Int32.ofInt 60).toInt = 60 := q9oI_toInt (by decide)
  have V0 := q9pV (T := T) (N := N) (P := P) (J := J) (t0 := t0) (Sc := Sc) (op := 1020) (n := 1) (q9evS ae0) (q9evZ w0) (hV _ (List.mem_of_getElem? (i := 0) rfl)) (by decide)
  rw [q9FF_1020] at V0
  have K0 := q9chV_of V0
  try simp only [kz, k1, k4, k60] at K0
  have X0 := q9th_pX (T := T) (N := N) (P := P) (J := J) (t0 := t0) (Sc := Sc) (op := 1021) (q9evS ae0) (q9evZ w0) (q9evS ae3) (hX _ (List.mem_of_getElem? (i := 0) rfl)) (by decide)
  rw [q9FF_1021] at X0
  have H0 := q9chV_of X0
  try simp only [kz, k1, k4, k60] at H0
  have X1 := q9th_pX (T := T) (N := N) (P := P) (J := J) (t0 := t0) (Sc := Sc) (op := 1022) (q9evS ae0) (q9evZ w0) (q9evS ae2) (hX _ (List.mem_of_getElem? (i := 1) rfl)) (by decide)
  rw [q9FF_1022] at X1
  have H1 := q9chV_of X1
  try simp only [kz, k1, k4, k60] at H1
  have L0 : (0 : Int32).toInt ≤ x0.toInt + 0 := q9pC (q9evZ w0) (q9evS ae0) (hL _ (List.mem_of_getElem? (i := 0) rfl))
  have L1 : (0 : Int32).toInt ≤ x2.toInt + 0 := q9pC (q9evZ w0) (q9evS ae2) (hL _ (List.mem_of_getElem? (i := 1) rfl))
  have L2 : x2.toInt ≤ (Int32.ofInt 60).toInt + 0 := q9pC (q9evS ae2) (q9evC w0 60) (hL _ (List.mem_of_getElem? (i := 2) rfl))
  have L3 : (0 : Int32).toInt ≤ x3.toInt + 0 := q9pC (q9evZ w0) (q9evS ae3) (hL _ (List.mem_of_getElem? (i := 3) rfl))
  have L4 : x3.toInt ≤ (Int32.ofInt 4).toInt + 0 := q9pC (q9evS ae3) (q9evC w0 4) (hL _ (List.mem_of_getElem? (i := 4) rfl))
  have L5 : (Int32.ofInt 1).toInt ≤ x3.toInt + 0 := q9pC (q9evC w0 1) (q9evS ae3) (hL _ (List.mem_of_getElem? (i := 5) rfl))
  have X2 := q9th_pX (T := T) (N := N) (P := P) (J := J) (t0 := t0) (Sc := Sc) (op := 1002) (q9evS ae0) (q9evZ w0) (q9evS ae1) (hX _ (List.mem_of_getElem? (i := 2) rfl)) (by decide)
  rw [q9FF_1002] at X2
  have H2 := Option.some.inj X2
  try simp only [kz, k1, k4, k60] at H2
  have V1 := q9pV (T := T) (N := N) (P := P) (J := J) (t0 := t0) (Sc := Sc) (op := 1000) (n := (-1)) (q9evS ae1) (q9evZ w0) (hV _ (List.mem_of_getElem? (i := 1) rfl)) (by decide)
  rw [q9FF_1000] at V1
  have K1 := Option.some.inj V1
  try simp only [kz, k1, k4, k60] at K1
  have X3 := q9th_pX (T := T) (N := N) (P := P) (J := J) (t0 := t0) (Sc := Sc) (op := 1018) (q9evZ w0) (q9evZ w0) (q9evS ae4) (hX _ (List.mem_of_getElem? (i := 3) rfl)) (by decide)
  rw [q9FF_1018] at X3
  have H3 := Option.some.inj X3
  try simp only [kz, k1, k4, k60] at H3
  obtain ⟨c, hv, hc, -⟩ := K0
  have hd : x3.toInt + 1 = c.2.2.length := q9th_at_of hv hc H0
  have hz : x2.toInt = c.2.1 := q9th_at_of hv hc H1
  have hb : q9spI T N c.1 = x1.toInt := by rw [hc]; exact H2
  obtain ⟨q, st, hst⟩ : ∃ q st, c.2.2 = q :: st := by
    cases hh : c.2.2 with
    | nil => exfalso; rw [hh, List.length_nil] at hd; omega
    | cons q st => exact ⟨q, st, rfl⟩
  have hl2 : c.2.2.length = st.length + 1 := by rw [hst, List.length_cons]
  have hb0 : q9byI T N (q9spI T N c.1) = -1 := by rw [hb]; exact K1
  have h9 : q9lkI T N c = 9 := q9lk_9 (by omega)
  have hn : q9th_nxI T N P J c = none := q9nx_no (by omega) (.inl fun h => by have := h.2.1; omega)
  have e4 : N = x4.toInt := H3
  have hre : q9th_reI T N P J c = (1, x4.toInt) := by unfold q9th_reI; rw [if_neg (by omega), if_pos h9, if_neg (by omega), e4]
  have rg0 : (1 : Int) ≤ 1 ∧ (1 : Int) ≤ 1 := by omega
  obtain ⟨x5, nt5⟩ : ∃ x : Int32, x.toInt = 1 := ⟨Int32.ofInt (1), q9oI_toInt (by omega)⟩
  have u_ : q9upN w 6 [.int x5] 0 = .int 0 := q9upN_of (by decide) w0
  have u0 : q9upN w 6 [.int x5] 1 = .int x0 := q9upN_of (by decide) ae0
  have u1 : q9upN w 6 [.int x5] 2 = .int x1 := q9upN_of (by decide) ae1
  have u2 : q9upN w 6 [.int x5] 3 = .int x2 := q9upN_of (by decide) ae2
  have u3 : q9upN w 6 [.int x5] 4 = .int x3 := q9upN_of (by decide) ae3
  have u4 : q9upN w 6 [.int x5] 5 = .int x4 := q9upN_of (by decide) ae4
  have u5 : q9upN w 6 [.int x5] 6 = .int x5 := q9upN_at (by decide)
  refine ⟨[.int x5], fun i9 p9 hq9 => ?_, List.forall_mem_cons.mpr ⟨?_, fun _ h => absurd h List.not_mem_nil⟩, fun _ h => absurd h List.not_mem_nil⟩
  · match i9, hq9 with
    | 0, hq9 =>
      have hp9 : ((1040, (0, 0), (0, 0), (0, 1, 1)) : Nat × q9AV × q9AV × q9ET) = p9 := Option.some.inj hq9
      subst hp9
      exact ⟨⟨x5, rfl, by rw [nt5]; exact rg0.1, by rw [nt5]; exact rg0.2⟩, (q9th_tX (T := T) (N := N) (P := P) (J := J) (t0 := t0) (Sc := Sc) (q9evZ u_) (q9evZ u_) (q9evS u5) (by rw [q9FF_1040, nt5]; exact (by rw [← q9FF_1040 (t0 := t0) (Sc := Sc) (a := (0 : Int32).toInt) (b := (0 : Int32).toInt)]; exact q9F_rsk hv hn (by rw [hre]))) (by decide)).trans (congrArg some (q9evS u5))⟩
    | k9 + 1, hq9 => exact nomatch (show (none : Option (Nat × q9AV × q9AV × q9ET)) = some p9 from hq9)
  · exact q9th_tX (T := T) (N := N) (P := P) (J := J) (t0 := t0) (Sc := Sc) (q9evZ u_) (q9evZ u_) (q9evS u4) (by rw [q9FF_1041]; exact (by rw [← q9FF_1041 (t0 := t0) (Sc := Sc) (a := (0 : Int32).toInt) (b := (0 : Int32).toInt)]; exact q9F_rsp hv hn (by rw [hre]; exact (by decide : (1 : Int) ≠ 0)) (by rw [hre]))) (by decide)
theorem q9ru_ce (hT : ∀ i, 0 ≤ T i ∧ T i ≤ 255) (hN : 0 ≤ N ∧ N ≤ 400) (hSc : 0 ≤ Sc 1 ∧ Sc 1 ≤ 400 → N = Sc 1) : q9ruOK (fO T N P J t0 Sc) q9R_ce := by
  intro w w0 hA hX hL hV hR
  obtain ⟨x0, ae0, -, -⟩ := hA 0 0 rfl
  obtain ⟨x1, ae1, -, -⟩ := hA 1 0 rfl
  obtain ⟨x2, ae2, -, -⟩ := hA 2 0 rfl
  obtain ⟨x3, ae3, -, -⟩ := hA 3 0 rfl
  obtain ⟨x4, ae4, -, -⟩ := hA 4 1 rfl
  obtain ⟨x5, ae5, -, -⟩ := hA 5 1 rfl
  have kz : (0 : Int32).toInt = 0 := rfl
  have k4 : (Int32.ofInt 4).toInt = 4 := q9oI_toInt (by decide)
  have k60 : (Int32.ofInt 60).toInt = 60 := q9oI_toInt (by decide)
  have V0 := q9pV (T := T) (N := N) (P := P) (J := J) (t0 := t0) (Sc := Sc) (op := 1020) (n := 1) (q9evS ae0) (q9evZ w0) (hV _ (List.mem_of_getElem? (i := 0) rfl)) (by decide)
  rw [q9FF_1020] at V0
  have K0 := q9chV_of V0
  try simp only [kz, k4, k60] at K0
  have X0 := q9th_pX (T := T) (N := N) (P := P) (J := J) (t0 := t0) (Sc := Sc) (op := 1021) (q9evS ae0) (q9evZ w0) (q9evS ae3) (hX _ (List.mem_of_getElem? (i := 0) rfl)) (by decide)
  rw [q9FF_1021] at X0
  have H0 := q9chV_of X0
  try simp only [kz, k4, k60] at H0
  have X1 := q9th_pX (T := T) (N := N) (P := P) (J := J) (t0 := t0) (Sc := Sc) (op := 1022) (q9evS ae0) (q9evZ w0) (q9evS ae2) (hX _ (List.mem_of_getElem? (i := 1) rfl)) (by decide)
  rw [q9FF_1022] at X1
  have H1 := q9chV_of X1
  try simp only [kz, k4, k60] at H1
  have L0 : (0 : Int32).toInt ≤ x0.toInt + 0 := q9pC (q9evZ w0) (q9evS ae0) (hL _ (List.mem_of_getElem? (i := 0) rfl))
  have L1 : (0 : Int32).toInt ≤ x2.toInt + 0 := q9pC (q9evZ w0) (q9evS ae2) (hL _ (List.mem_of_getElem? (i := 1) rfl))
  have L2 : x2.toInt ≤ (Int32.ofInt 60).toInt + 0 := q9pC (q9evS ae2) (q9evC w0 60) (hL _ (List.mem_of_getElem? (i := 2) rfl))
  have L3 : (0 : Int32).toInt ≤ x3.toInt + 0 := q9pC (q9evZ w0) (q9evS ae3) (hL _ (List.mem_of_getElem? (i := 3) rfl))
  have L4 : x3.toInt ≤ (Int32.ofInt 4).toInt + 0 := q9pC (q9evS ae3) (q9evC w0 4) (hL _ (List.mem_of_getElem? (i := 4) rfl))
  have L5 : x3.toInt ≤ (0 : Int32).toInt + 0 := q9pC (q9evS ae3) (q9evZ w0) (hL _ (List.mem_of_getElem? (i := 5) rfl))
  have X2 := q9th_pX (T := T) (N := N) (P := P) (J := J) (t0 := t0) (Sc := Sc) (op := 1002) (q9evS ae0) (q9evZ w0) (q9evS ae1) (hX _ (List.mem_of_getElem? (i := 2) rfl)) (by decide)
  rw [q9FF_1002] at X2
  have H2 := Option.some.inj X2
  try simp only [kz, k4, k60] at H2
  have V1 := q9pV (T := T) (N := N) (P := P) (J := J) (t0 := t0) (Sc := Sc) (op := 1000) (n := (-1)) (q9evS ae1) (q9evZ w0) (hV _ (List.mem_of_getElem? (i := 1) rfl)) (by decide)
  rw [q9FF_1000] at V1
  have K1 := Option.some.inj V1
  try simp only [kz, k4, k60] at K1
  have X3 := q9pL (T := T) (N := N) (P := P) (J := J) (t0 := t0) (Sc := Sc) (op := 1024) (q9evS ae0) (q9evS ae3) (q9evS ae4) (hX _ (List.mem_of_getElem? (i := 3) rfl)) (by decide)
  rw [q9FL_1024] at X3
  have H3 := q9chV_of X3
  try simp only [kz, k4, k60] at H3
  have X4 := q9pL (T := T) (N := N) (P := P) (J := J) (t0 := t0) (Sc := Sc) (op := 1025) (q9evS ae0) (q9evS ae3) (q9evS ae5) (hX _ (List.mem_of_getElem? (i := 4) rfl)) (by decide)
  rw [q9FL_1025] at X4
  have H4 := q9chV_of X4
  try simp only [kz, k4, k60] at H4
  obtain ⟨c, hv, hc, -⟩ := K0
  have hd : x3.toInt + 1 = c.2.2.length := q9th_at_of hv hc H0
  have hz : x2.toInt = c.2.1 := q9th_at_of hv hc H1
  have hb : q9spI T N c.1 = x1.toInt := by rw [hc]; exact H2
  obtain ⟨q, st, hst⟩ : ∃ q st, c.2.2 = q :: st := by
    cases hh : c.2.2 with
    | nil => exfalso; rw [hh, List.length_nil] at hd; omega
    | cons q st => exact ⟨q, st, rfl⟩
  have hl2 : c.2.2.length = st.length + 1 := by rw [hst, List.length_cons]
  have hb0 : q9byI T N (q9spI T N c.1) = -1 := by rw [hb]; exact K1
  have h9 : q9lkI T N c = 9 := q9lk_9 (by omega)
  have hn : q9th_nxI T N P J c = none := q9nx_no (by omega) (.inl fun h => by have := h.2.1; omega)
  have hed : q9edI T N c := ⟨h9, by omega⟩
  have hre : q9th_reI T N P J c = (0, 0) := by unfold q9th_reI; rw [if_neg (by omega), if_pos h9, if_pos (by omega)]
  have e3 : x3.toInt = 0 := by omega
  have hf : ∃ e, q9enI c x3.toInt = some e ∧ x4 = e.2.2.1 := q9th_at_of hv hc H3
  have hg : ∃ e, q9enI c x3.toInt = some e ∧ x5 = e.2.2.2 := q9th_at_of hv hc H4
  rw [e3] at hf hg
  obtain ⟨q1, f1, f2⟩ := hf
  obtain ⟨q2, g1, g2⟩ := hg
  have rg0 : (0 : Int) ≤ 0 ∧ (0 : Int) ≤ 0 := by omega
  obtain ⟨x6, nt6⟩ : ∃ x : Int32, x.toInt = 0 := ⟨Int32.ofInt (0), q9oI_toInt (by omega)⟩
  have u_ : q9upN w 7 [.int x6] 0 = .int 0 := q9upN_of (by decide) w0
  have u0 : q9upN w 7 [.int x6] 1 = .int x0 := q9upN_of (by decide) ae0
  have u1 : q9upN w 7 [.int x6] 2 = .int x1 := q9upN_of (by decide) ae1
  have u2 : q9upN w 7 [.int x6] 3 = .int x2 := q9upN_of (by decide) ae2
  have u3 : q9upN w 7 [.int x6] 4 = .int x3 := q9upN_of (by decide) ae3
  have u4 : q9upN w 7 [.int x6] 5 = .long x4 := q9upN_of (by decide) ae4
  have u5 : q9upN w 7 [.int x6] 6 = .long x5 := q9upN_of (by decide) ae5
  have u6 : q9upN w 7 [.int x6] 7 = .int x6 := q9upN_at (by decide)
  refine ⟨[.int x6], fun i9 p9 hq9 => ?_, List.forall_mem_cons.mpr ⟨?_, List.forall_mem_cons.mpr ⟨?_, List.forall_mem_cons.mpr ⟨?_, fun _ h => absurd h List.not_mem_nil⟩⟩⟩, fun _ h => absurd h List.not_mem_nil⟩
  · match i9, hq9 with
    | 0, hq9 =>
      have hp9 : ((1040, (0, 0), (0, 0), (0, 0, 0)) : Nat × q9AV × q9AV × q9ET) = p9 := Option.some.inj hq9
      subst hp9
      exact ⟨⟨x6, rfl, by rw [nt6]; exact rg0.1, by rw [nt6]; exact rg0.2⟩, (q9th_tX (T := T) (N := N) (P := P) (J := J) (t0 := t0) (Sc := Sc) (q9evZ u_) (q9evZ u_) (q9evS u6) (by rw [q9FF_1040, nt6]; exact (by rw [← q9FF_1040 (t0 := t0) (Sc := Sc) (a := (0 : Int32).toInt) (b := (0 : Int32).toInt)]; exact q9F_rsk hv hn (by rw [hre]))) (by decide)).trans (congrArg some (q9evS u6))⟩
    | k9 + 1, hq9 => exact nomatch (show (none : Option (Nat × q9AV × q9AV × q9ET)) = some p9 from hq9)
  · exact q9th_tX (T := T) (N := N) (P := P) (J := J) (t0 := t0) (Sc := Sc) (q9evZ u_) (q9evZ u_) (q9evS u2) (by rw [q9FF_1042]; exact (by rw [← q9FF_1042 (t0 := t0) (Sc := Sc) (a := (0 : Int32).toInt) (b := (0 : Int32).toInt)]; exact q9F_fsz hv hn hed hz)) (by decide)
  · exact q9th_tL (T := T) (N := N) (P := P) (J := J) (t0 := t0) (Sc := Sc) (q9evZ u_) (q9evZ u_) (q9evS u4) (by rw [q9FL_1043]; exact (by rw [← q9FL_1043 (a := (0 : Int32).toInt) (b := (0 : Int32).toInt)]; exact q9G_ffr hv hn hed f1 f2)) (by decide)
  · exact q9th_tL (T := T) (N := N) (P := P) (J := J) (t0 := t0) (Sc := Sc) (q9evZ u_) (q9evZ u_) (q9evS u5) (by rw [q9FL_1044]; exact (by rw [← q9FL_1044 (a := (0 : Int32).toInt) (b := (0 : Int32).toInt)]; exact q9G_fdn hv hn hed g1 g2)) (by decide)
theorem q9ru_te (hT : ∀ i, 0 ≤ T i ∧ T i ≤ 255) (hN : 0 ≤ N ∧ N ≤ 400) (hSc : 0 ≤ Sc 1 ∧ Sc 1 ≤ 400 → N = Sc 1) : q9ruOK (fO T N P J t0 Sc) q9R_te := by
  intro w w0 hA hX hL hV hR
  obtain ⟨x0, ae0, -, -⟩ := hA 0 0 rfl
  obtain ⟨x1, ae1, -, -⟩ := hA 1 0 rfl
  obtain ⟨x2, ae2, -, -⟩ := hA 2 0 rfl
  obtain ⟨x3, ae3, -, -⟩ := hA 3 0 rfl
  have kz : (0 : Int32).toInt = 0 := rfl
  have k4 : (Int32.ofInt 4).toInt = 4 := q9oI_toInt (by decide)
  have k60 : (Int32.ofInt 60).toInt = 60 := q9oI_toInt (by decide)
  have V0 := q9pV (T := T) (N := N) (P := P) (J := J) (t0 := t0) (Sc := Sc) (op := 1020) (n := 1) (q9evS ae0) (q9evZ w0) (hV _ (List.mem_of_getElem? (i := 0) rfl)) (by decide)
  rw [q9FF_1020] at V0
  have K0 := q9chV_of V0
  try simp only [kz, k4, k60] at K0
  have X0 := q9th_pX (T := T) (N := N) (P := P) (J := J) (t0 := t0) (Sc := Sc) (op := 1021) (q9evS ae0) (q9evZ w0) (q9evS ae3) (hX _ (List.mem_of_getElem? (i := 0) rfl)) (by decide)
  rw [q9FF_1021] at X0
  have H0 := q9chV_of X0
  try simp only [kz, k4, k60] at H0
  have X1 := q9th_pX (T := T) (N := N) (P := P) (J := J) (t0 := t0) (Sc := Sc) (op := 1022) (q9evS ae0) (q9evZ w0) (q9evS ae2) (hX _ (List.mem_of_getElem? (i := 1) rfl)) (by decide)
  rw [q9FF_1022] at X1
  have H1 := q9chV_of X1
  try simp only [kz, k4, k60] at H1
  have L0 : (0 : Int32).toInt ≤ x0.toInt + 0 := q9pC (q9evZ w0) (q9evS ae0) (hL _ (List.mem_of_getElem? (i := 0) rfl))
  have L1 : (0 : Int32).toInt ≤ x2.toInt + 0 := q9pC (q9evZ w0) (q9evS ae2) (hL _ (List.mem_of_getElem? (i := 1) rfl))
  have L2 : x2.toInt ≤ (Int32.ofInt 60).toInt + 0 := q9pC (q9evS ae2) (q9evC w0 60) (hL _ (List.mem_of_getElem? (i := 2) rfl))
  have L3 : (0 : Int32).toInt ≤ x3.toInt + 0 := q9pC (q9evZ w0) (q9evS ae3) (hL _ (List.mem_of_getElem? (i := 3) rfl))
  have L4 : x3.toInt ≤ (Int32.ofInt 4).toInt + 0 := q9pC (q9evS ae3) (q9evC w0 4) (hL _ (List.mem_of_getElem? (i := 4) rfl))
  have L5 : x3.toInt ≤ (0 : Int32).toInt + 0 := q9pC (q9evS ae3) (q9evZ w0) (hL _ (List.mem_of_getElem? (i := 5) rfl))
  have X2 := q9th_pX (T := T) (N := N) (P := P) (J := J) (t0 := t0) (Sc := Sc) (op := 1002) (q9evS ae0) (q9evZ w0) (q9evS ae1) (hX _ (List.mem_of_getElem? (i := 2) rfl)) (by decide)
  rw [q9FF_1002] at X2
  have H2 := Option.some.inj X2
  try simp only [kz, k4, k60] at H2
  have V1 := q9pV (T := T) (N := N) (P := P) (J := J) (t0 := t0) (Sc := Sc) (op := 1000) (n := (-1)) (q9evS ae1) (q9evZ w0) (hV _ (List.mem_of_getElem? (i := 1) rfl)) (by decide)
  rw [q9FF_1000] at V1
  have K1 := Option.some.inj V1
  try simp only [kz, k4, k60] at K1
  obtain ⟨c, hv, hc, -⟩ := K0
  have hd : x3.toInt + 1 = c.2.2.length := q9th_at_of hv hc H0
  have hz : x2.toInt = c.2.1 := q9th_at_of hv hc H1
  have hb : q9spI T N c.1 = x1.toInt := by rw [hc]; exact H2
  obtain ⟨q, st, hst⟩ : ∃ q st, c.2.2 = q :: st := by
    cases hh : c.2.2 with
    | nil => exfalso; rw [hh, List.length_nil] at hd; omega
    | cons q st => exact ⟨q, st, rfl⟩
  have hl2 : c.2.2.length = st.length + 1 := by rw [hst, List.length_cons]
  have hb0 : q9byI T N (q9spI T N c.1) = -1 := by rw [hb]; exact K1
  have h9 : q9lkI T N c = 9 := q9lk_9 (by omega)
  have hn : q9th_nxI T N P J c = none := q9nx_no (by omega) (.inl fun h => by have := h.2.1; omega)
  have hed : q9edI T N c := ⟨h9, by omega⟩
  have hre : q9th_reI T N P J c = (0, 0) := by unfold q9th_reI; rw [if_neg (by omega), if_pos h9, if_pos (by omega)]
  have rg0 : (0 : Int) ≤ 0 ∧ (0 : Int) ≤ 0 := by omega
  obtain ⟨x4, nt4⟩ : ∃ x : Int32, x.toInt = 0 := ⟨Int32.ofInt (0), q9oI_toInt (by omega)⟩
  have u_ : q9upN w 5 [.int x4] 0 = .int 0 := q9upN_of (by decide) w0
  have u0 : q9upN w 5 [.int x4] 1 = .int x0 := q9upN_of (by decide) ae0
  have u1 : q9upN w 5 [.int x4] 2 = .int x1 := q9upN_of (by decide) ae1
  have u2 : q9upN w 5 [.int x4] 3 = .int x2 := q9upN_of (by decide) ae2
  have u3 : q9upN w 5 [.int x4] 4 = .int x3 := q9upN_of (by decide) ae3
  have u4 : q9upN w 5 [.int x4] 5 = .int x4 := q9upN_at (by decide)
  refine ⟨[.int x4], fun i9 p9 hq9 => ?_, List.forall_mem_cons.mpr ⟨?_, fun _ h => absurd h List.not_mem_nil⟩, fun _ h => absurd h List.not_mem_nil⟩
  · match i9, hq9 with
    | 0, hq9 =>
      have hp9 : ((1040, (0, 0), (0, 0), (0, 0, 0)) : Nat × q9AV × q9AV × q9ET) = p9 := Option.some.inj hq9
      subst hp9
      exact ⟨⟨x4, rfl, by rw [nt4]; exact rg0.1, by rw [nt4]; exact rg0.2⟩, (q9th_tX (T := T) (N := N) (P := P) (J := J) (t0 := t0) (Sc := Sc) (q9evZ u_) (q9evZ u_) (q9evS u4) (by rw [q9FF_1040, nt4]; exact (by rw [← q9FF_1040 (t0 := t0) (Sc := Sc) (a := (0 : Int32).toInt) (b := (0 : Int32).toInt)]; exact q9F_rsk hv hn (by rw [hre]))) (by decide)).trans (congrArg some (q9evS u4))⟩
    | k9 + 1, hq9 => exact nomatch (show (none : Option (Nat × q9AV × q9AV × q9ET)) = some p9 from hq9)
  · exact q9th_tX (T := T) (N := N) (P := P) (J := J) (t0 := t0) (Sc := Sc) (q9evZ u_) (q9evZ u_) (q9evS u2) (by rw [q9FF_1042]; exact (by rw [← q9FF_1042 (t0 := t0) (Sc := Sc) (a := (0 : Int32).toInt) (b := (0 : Int32).toInt)]; exact q9F_fsz hv hn hed hz)) (by decide)
theorem q9ruP_9 (hT : ∀ i, 0 ≤ T i ∧ T i ≤ 255) (hN : 0 ≤ N ∧ N ≤ 400) (hSc : 0 ≤ Sc 1 ∧ Sc 1 ≤ 400 → N = Sc 1) : ∀ q ∈ q9RULES_9, q9ruOK (fO T N P J t0 Sc) q := List.forall_mem_cons.mpr ⟨q9ru_cl0 hT hN hSc, List.forall_mem_cons.mpr ⟨q9ru_ln0 hT hN hSc, List.forall_mem_cons.mpr ⟨q9ru_cfs0 hT hN hSc, List.forall_mem_cons.mpr ⟨q9ru_cl1 hT hN hSc, List.forall_mem_cons.mpr ⟨q9ru_ln1 hT hN hSc, List.forall_mem_cons.mpr ⟨q9ru_cfs1 hT hN hSc, List.forall_mem_cons.mpr ⟨q9ru_cl2 hT hN hSc, List.forall_mem_cons.mpr ⟨q9ru_ln2 hT hN hSc, List.forall_mem_cons.mpr ⟨q9ru_cfs2 hT hN hSc, List.forall_mem_cons.mpr ⟨q9ru_cl3 hT hN hSc, List.forall_mem_cons.mpr ⟨q9ru_ln3 hT hN hSc, List.forall_mem_cons.mpr ⟨q9ru_cfs3 hT hN hSc, List.forall_mem_cons.mpr ⟨q9ru_cl4 hT hN hSc, List.forall_mem_cons.mpr ⟨q9ru_ln4 hT hN hSc, List.forall_mem_cons.mpr ⟨q9ru_cfs4 hT hN hSc, List.forall_mem_cons.mpr ⟨q9ru_cl5 hT hN hSc, List.forall_mem_cons.mpr ⟨q9ru_ln5 hT hN hSc, List.forall_mem_cons.mpr ⟨q9ru_cfs5 hT hN hSc, List.forall_mem_cons.mpr ⟨q9ru_cl6 hT hN hSc, List.forall_mem_cons.mpr ⟨q9ru_ln6 hT hN hSc, List.forall_mem_cons.mpr ⟨q9ru_cfs6 hT hN hSc, List.forall_mem_cons.mpr ⟨q9ru_cfr0 hT hN hSc, List.forall_mem_cons.mpr ⟨q9ru_cfr1 hT hN hSc, List.forall_mem_cons.mpr ⟨q9ru_cfr2 hT hN hSc, List.forall_mem_cons.mpr ⟨q9ru_cfr3 hT hN hSc, List.forall_mem_cons.mpr ⟨q9ru_cfr4 hT hN hSc, List.forall_mem_cons.mpr ⟨q9ru_cfr5 hT hN hSc, List.forall_mem_cons.mpr ⟨q9ru_cfr6 hT hN hSc, List.forall_mem_cons.mpr ⟨q9ru_cfr7 hT hN hSc, List.forall_mem_cons.mpr ⟨q9ru_co hT hN hSc, List.forall_mem_cons.mpr ⟨q9ru_to hT hN hSc, List.forall_mem_cons.mpr ⟨q9ru_cfk hT hN hSc, List.forall_mem_cons.mpr ⟨q9ru_cf3 hT hN hSc, List.forall_mem_cons.mpr ⟨q9ru_cf4 hT hN hSc, List.forall_mem_cons.mpr ⟨q9ru_cc hT hN hSc, List.forall_mem_cons.mpr ⟨q9ru_tc hT hN hSc, List.forall_mem_cons.mpr ⟨q9ru_cfc hT hN hSc, List.forall_mem_cons.mpr ⟨q9ru_cfe hT hN hSc, List.forall_mem_cons.mpr ⟨q9ru_ce hT hN hSc, List.forall_mem_cons.mpr ⟨q9ru_te hT hN hSc, fun _ h => absurd h List.not_mem_nil⟩⟩⟩⟩⟩⟩⟩⟩⟩⟩⟩⟩⟩⟩⟩⟩⟩⟩⟩⟩⟩⟩⟩⟩⟩⟩⟩⟩⟩⟩⟩⟩⟩⟩⟩⟩⟩⟩⟩⟩
end RUL
