section GXS
variable {T : Int → Int} {N P : Int} {J : Int → Int} {t0 : Int} {Sc : Int → Int}
theorem q9fO_i {op : Nat} {x y z : Int32} (h : fO T N P J t0 Sc op (.int x) (.int y) = some (.int z)) (ho : q9loB op = false) : FF T N P J t0 Sc op x.toInt y.toInt = some z.toInt := by
  unfold fO at h
  dsimp only at h
  rw [if_neg (by rw [ho]; exact Bool.false_ne_true)] at h
  cases hF : FF T N P J t0 Sc op x.toInt y.toInt with
  | none => rw [hF] at h; cases h
  | some v =>
    rw [hF] at h
    have h : q9th_mkI v = some (.int z) := h
    rw [q9mkI_of h]
theorem q9fO_v {op : Nat} {x y : Int32} {v : Value} (h : fO T N P J t0 Sc op (.int x) (.int y) = some v) (ho : q9loB op = false) : ∃ z : Int32, v = .int z ∧ FF T N P J t0 Sc op x.toInt y.toInt = some z.toInt := by
  have h0 := h
  unfold fO at h
  dsimp only at h
  rw [if_neg (by rw [ho]; exact Bool.false_ne_true)] at h
  cases hF : FF T N P J t0 Sc op x.toInt y.toInt with
  | none => rw [hF] at h; cases h
  | some u =>
    rw [hF] at h
    have h : q9th_mkI u = some v := h
    obtain ⟨z, e1, e2⟩ := q9mkI_V h
    exact ⟨z, e1, by rw [e2]⟩
theorem q9fO_l {op : Nat} {x y : Int32} {v : Value} (h : fO T N P J t0 Sc op (.int x) (.int y) = some v) (ho : q9loB op = true) : ∃ z : Int64, v = .long z ∧ FL T N P J op x.toInt y.toInt = some z := by
  unfold fO at h
  dsimp only at h
  rw [if_pos ho] at h
  cases hF : FL T N P J op x.toInt y.toInt with
  | none => rw [hF] at h; cases h
  | some u =>
    rw [hF] at h
    cases h
    exact ⟨u, rfl, rfl⟩
theorem q9fO_t {op : Nat} {x y z : Int32} (h : FF T N P J t0 Sc op x.toInt y.toInt = some z.toInt) (ho : q9loB op = false) : fO T N P J t0 Sc op (.int x) (.int y) = some (.int z) := by
  unfold fO
  dsimp only
  rw [if_neg (by rw [ho]; exact Bool.false_ne_true), h]
  exact q9mkI_to rfl
theorem q9fO_tl {op : Nat} {x y : Int32} {z : Int64} (h : FL T N P J op x.toInt y.toInt = some z) (ho : q9loB op = true) : fO T N P J t0 Sc op (.int x) (.int y) = some (.long z) := by
  unfold fO
  dsimp only
  rw [if_pos ho, h]
  rfl
theorem q9nx_low {c c' : q9CF9} (hn : q9th_nxI T N P J c = some c') {j : Int} {e : q9TE9} (he : q9enI c j = some e) (h1 : j + 1 < c.2.2.length) (h2 : j + 1 < c'.2.2.length) : q9enI c' j = some e := by
  have h0 := (q9en_lt he).1
  unfold q9th_nxI at hn
  split at hn
  · cases hn
  · rename_i q st hst
    have l1 : c.2.2.length = st.length + 1 := by rw [hst, List.length_cons]
    rw [q9en_low hst h0 (by omega)] at he
    split at hn
    · split at hn
      · cases hn
      · rename_i q' st'
        split at hn
        · cases hn
          rw [List.length_cons] at l1
          have h2 : j + 1 < ((_ :: st').length : Nat) := h2
          rw [List.length_cons] at h2
          rw [q9en_low (q := _) (st := st') rfl h0 (by omega)]
          rw [List.length_cons, show st'.length + 1 - 1 - j.toNat = (st'.length - 1 - j.toNat) + 1 by omega] at he
          exact he
        · cases hn
    · split at hn
      · split at hn
        · cases hn
          rw [q9en_low (q := _) (st := (q.1, q.2.1, q.2.2.1, q.2.2.2 + 1) :: st) rfl h0 (by rw [List.length_cons]; omega), List.length_cons, show st.length + 1 - 1 - j.toNat = (st.length - 1 - j.toNat) + 1 by omega]
          exact he
        · split at hn
          · cases hn
            rw [q9en_low (q := _) (st := st) rfl h0 (by omega)]
            exact he
          · cases hn
      · cases hn
theorem q9pr_len {c c' : q9CF9} {p : Int} (h : q9prI T N P J c p) (hn : q9th_nxI T N P J c = some c') : c'.2.2.length + (if q9lkI T N c = 8 then 1 else 0) = c.2.2.length := by
  have l1 := q9stP_len (c := c)
  have l2 := q9stP_len (c := c')
  rcases q9nx_stP hn with ⟨o, L, h8, e1, e2, e3, e4⟩ | ⟨hok, h7, e1, e2⟩ | ⟨hok, h7, e1, e2⟩
  · rw [if_pos h8]
    rw [e1, List.length_cons] at l1
    rw [e2] at l2
    omega
  · exfalso
    rcases h.2 with ⟨-, k, -⟩ | ⟨k, -⟩
    · exact k h7
    · omega
  · have := hok.2.1
    rw [if_neg (by omega)]
    rw [e1] at l2
    omega
theorem q9gx_ok (hN : 0 ≤ N ∧ N ≤ 400) (hW : ∀ (m k : Nat), m < 5 → k < 4 → 0 ≤ t0 → t0 ≤ 380 → T (t0 + 4 * m + k) = (Int32.ofInt (Sc ((m : Int) + 1)) >>> (Int32.ofNat (24 - 8 * k) &&& 31) &&& 255).toInt) : q9GX (fO T N P J t0 Sc) := by
  have kz : (0 : Int32).toInt = 0 := rfl
  refine ⟨fun e p j u h1 hj h2 => ?_, fun e p d j u h1 h2 hj h3 => ?_, fun t p d d2 j v h1 h2 h3 hj k1 k2 h4 => ?_, fun t p d d2 j v o ho h1 h2 h3 hj k1 k2 h4 => ?_, fun t e z h1 h2 => ?_, fun t e j u h1 hj h2 => ?_, fun p d j u h1 hj h2 => ?_, fun i n b h1 h2 k1 k2 => ?_, fun i n h1 k1 k2 => ?_, fun t s v k h1 hk hs => ?_⟩
  · have h1 := q9fO_i h1 (by decide)
    have h2 := q9fO_i h2 (by decide)
    rw [q9FF_1034] at h1
    rw [q9FF_1023] at h2
    obtain ⟨c, hp, q, st, hst, e1⟩ := q9chV_of h1
    have h2 := q9chV_of h2
    refine q9fO_t ?_ (by decide)
    by_cases h8 : q9lkI T N c = 8
    · rw [if_pos h8] at e1
      obtain ⟨c0, b1, b2, ⟨-, x, f1, f2⟩, b4, b5⟩ := q9ab_en (j := j.toInt) hN.1 hp.1 hst h8 e1.symm h2
      obtain ⟨x', g1, g2, g3⟩ := b4 x f1
      have := (q9en_lt f1).2
      exact q9F_pop hp hj (by rw [if_pos h8]; omega) g1 (by rw [f2, g2])
    · rw [if_neg h8] at e1
      obtain ⟨-, x, f1, f2⟩ := q9th_at_of hp.1 e1.symm h2
      have := (q9en_lt f1).2
      exact q9F_pop hp hj (by rw [if_neg h8]; omega) f1 f2
  · have h1 := q9fO_i h1 (by decide)
    have h2 := q9fO_i h2 (by decide)
    have h3 := q9fO_i h3 (by decide)
    rw [q9FF_1036] at h1
    rw [q9FF_1021] at h2
    rw [q9FF_1023] at h3
    obtain ⟨c, hp, h8, e1⟩ := q9chV_of h1
    have e2 : d.toInt + 1 = c.2.2.length := q9th_at_of hp.1 e1.symm (have hh := q9chV_of h2; hh)
    obtain ⟨-, x, f1, f2⟩ := q9th_at_of hp.1 e1.symm (have hh := q9chV_of h3; hh)
    by_cases hjd : j.toInt = d.toInt
    · exact .inl (Int32.toInt_inj.mp hjd)
    · have := (q9en_lt f1).2
      exact .inr (q9fO_t (q9F_pop hp hj (by rw [if_pos h8]; omega) f1 f2) (by decide))
  · have h1 := q9fO_i h1 (by decide)
    have h2 := q9fO_i h2 (by decide)
    have h3 := q9fO_i h3 (by decide)
    obtain ⟨z, rfl, h5⟩ := q9fO_v h4 (by decide)
    rw [q9FF_1026] at h1
    rw [q9FF_1021] at h2 h3
    rw [q9FF_1023] at h5
    obtain ⟨c, c', hv, hn, hc', e1⟩ := q9chV_of h1
    have hv' := q9vis_next hv hn
    have e3 : d2.toInt + 1 = c'.2.2.length := q9th_at_of hv' hc' (have hh := q9chV_of h3; hh)
    obtain ⟨-, x, f1, f2⟩ := q9th_at_of hv e1.symm (have hh := q9chV_of h5; hh)
    obtain ⟨x', g1, g2, g3⟩ := q9nx_en hn f1 (by omega)
    exact q9fO_t (q9F_opn hv' hc' hj g1 (by rw [f2, g2])) (by decide)
  · have h1 := q9fO_i h1 (by decide)
    have h2 := q9fO_i h2 (by decide)
    have h3 := q9fO_i h3 (by decide)
    rw [q9FF_1026] at h1
    rw [q9FF_1021] at h2 h3
    obtain ⟨c, c', hv, hn, hc', e1⟩ := q9chV_of h1
    have hv' := q9vis_next hv hn
    have e2 : d.toInt + 1 = c.2.2.length := q9th_at_of hv e1.symm (have hh := q9chV_of h2; hh)
    have e3 : d2.toInt + 1 = c'.2.2.length := q9th_at_of hv' hc' (have hh := q9chV_of h3; hh)
    rcases ho with rfl | rfl
    · obtain ⟨z, rfl, h5⟩ := q9fO_l h4 (by decide)
      rw [q9FL_1024] at h5
      obtain ⟨x, f1, f2⟩ := q9th_at_of hv e1.symm (have hh := q9chV_of h5; hh)
      exact q9fO_tl (q9G_frv hv' hc' (q9nx_low hn f1 (by omega) (by omega)) f2) (by decide)
    · obtain ⟨z, rfl, h5⟩ := q9fO_l h4 (by decide)
      rw [q9FL_1025] at h5
      obtain ⟨x, f1, f2⟩ := q9th_at_of hv e1.symm (have hh := q9chV_of h5; hh)
      exact q9fO_tl (q9G_dnv hv' hc' (q9nx_low hn f1 (by omega) (by omega)) f2) (by decide)
  · have h1 := q9fO_i h1 (by decide)
    have h2 := q9fO_i h2 (by decide)
    rw [q9FF_1035] at h1
    rw [q9FF_1022] at h2
    obtain ⟨c, c', hp, hn, hc'⟩ := q9chV_of h1
    have e2 : z.toInt = c'.2.1 := q9th_at_of (q9vis_next hp.1 hn) hc' (have hh := q9chV_of h2; hh)
    exact q9fO_t (q9F_psz hp (by rw [e2, q9sz_nx hn])) (by decide)
  · have h1 := q9fO_i h1 (by decide)
    have h2 := q9fO_i h2 (by decide)
    rw [q9FF_1035] at h1
    rw [q9FF_1033] at h2
    obtain ⟨c, c', hp, hn, hc'⟩ := q9chV_of h1
    obtain ⟨c2, p2, -, k2, x, f1, f2⟩ := q9chV_of h2
    have e2 := q9pr_one hp p2
    subst e2
    have hl := q9pr_len hp hn
    obtain ⟨x', g1, g2, g3⟩ := q9nx_en hn f1 (by split at hl <;> split at k2 <;> omega)
    exact q9fO_t (q9F_opn (q9vis_next hp.1 hn) hc' hj g1 (by rw [f2, g2])) (by decide)
  · have h1 := q9fO_i h1 (by decide)
    have h2 := q9fO_i h2 (by decide)
    rw [q9FF_1021] at h1
    rw [q9FF_1023] at h2
    obtain ⟨c, hv, hc, e1⟩ := q9chV_of h1
    obtain ⟨-, x, f1, f2⟩ := q9th_at_of hv hc (have hh := q9chV_of h2; hh)
    have := (q9en_lt f1).2
    omega
  · have h1 := q9fO_i h1 (by decide)
    have h2 := q9fO_i h2 (by decide)
    rw [q9FF_1018] at h1
    rw [q9FF_1058] at h2
    have h1 : N = n.toInt := Option.some.inj h1
    have h2 : T i.toInt = b.toInt := Option.some.inj h2
    refine q9fO_t ?_ (by decide)
    rw [q9FF_1000]
    unfold q9byI
    rw [if_pos (by omega), h2]
  · have h1 := q9fO_i h1 (by decide)
    rw [q9FF_1018] at h1
    have h1 : N = n.toInt := Option.some.inj h1
    refine q9fO_t ?_ (by decide)
    rw [q9FF_1000]
    unfold q9byI
    rw [if_neg (by omega)]
    rfl
  · have h1 := q9fO_i h1 (by decide)
    rw [q9FF_1059] at h1
    split at h1
    · rename_i hc
      obtain ⟨c1, c2, c3, c4, c5⟩ := hc
      have h1 := Option.some.inj h1
      refine q9fO_t ?_ (by decide)
      rw [q9FF_1058]
      have hw := hW ((t.toInt - t0) / 4).toNat k (by omega) hk c1 c2
      rw [show t0 + 4 * (((t.toInt - t0) / 4).toNat : Int) + (k : Int) = s.toInt by omega, show ((((t.toInt - t0) / 4).toNat : Nat) : Int) + 1 = (t.toInt - t0) / 4 + 1 by omega, h1, q9oI_of] at hw
      exact congrArg some hw
    · cases h1
end GXS
section RUL
variable {T : Int → Int} {N P : Int} {J : Int → Int} {t0 : Int} {Sc : Int → Int}
theorem q9ru_all (hT : ∀ i, 0 ≤ T i ∧ T i ≤ 255) (hN : 0 ≤ N ∧ N ≤ 400) (hSc : 0 ≤ Sc 1 ∧ Sc 1 ≤ 400 → N = Sc 1) : ∀ q ∈ q9RULES, q9ruOK (fO T N P J t0 Sc) q := fun q h => (List.mem_append.mp h).elim (fun h => q9ruP_0 hT hN hSc q h) fun h => (List.mem_append.mp h).elim (fun h => q9ruP_1 hT hN hSc q h) fun h => (List.mem_append.mp h).elim (fun h => q9ruP_2 hT hN hSc q h) fun h => (List.mem_append.mp h).elim (fun h => q9ruP_3 hT hN hSc q h) fun h => (List.mem_append.mp h).elim (fun h => q9ruP_4 hT hN hSc q h) fun h => (List.mem_append.mp h).elim (fun h => q9ruP_5 hT hN hSc q h) fun h => (List.mem_append.mp h).elim (fun h => q9ruP_6 hT hN hSc q h) fun h => (List.mem_append.mp h).elim (fun h => q9ruP_7 hT hN hSc q h) fun h => (List.mem_append.mp h).elim (fun h => q9ruP_8 hT hN hSc q h) fun h => (List.mem_append.mp h).elim (fun h => q9ruP_9 hT hN hSc q h) fun h => (List.mem_append.mp h).elim (fun h => q9ruP_10 hT hN hSc q h) fun h => (List.mem_append.mp h).elim (fun h => q9ruP_11 hT hN hSc q h) fun h => (List.mem_append.mp h).elim (fun h => q9ruP_12 hT hN hSc q h) fun h => q9ruP_13 hT hN hSc q h
end RUL
theorem q9orc_ex (Tp : Nat → Int32) (hTp : ∀ i, 0 ≤ (Tp i).toInt ∧ (Tp i).toInt ≤ 255) (s0 P : Int32) (J : Nat → Int32) (Sc : Int → Int32) (h0 : 0 ≤ s0.toInt) : ∃ O : ORC, O.1 1064 (.int 0) (.int 0) = some (.int s0) ∧ O.1 1015 (.int 0) (.int 0) = some (.int P) ∧ (∀ i : Nat, i < 8 → O.1 1016 (.int (Int32.ofNat i)) (.int 0) = some (.int (J i))) ∧ (∀ i : Nat, (i : Int) < s0.toInt → O.1 1058 (.int (Int32.ofNat i)) (.int 0) = some (.int (Tp i))) ∧ ∀ k : Int, 1 ≤ k → k ≤ 6 → O.1 1063 (.int (Int32.ofInt k)) (.int 0) = some (.int (Sc k)) := by
  generalize hT9 : (fun i : Int => if i < s0.toInt then (Tp i.toNat).toInt else (Sc ((i - s0.toInt) / 4 + 1) >>> (Int32.ofNat (24 - 8 * ((i - s0.toInt) % 4).toNat) &&& 31) &&& 255).toInt) = T
  generalize hN9 : (if 0 ≤ (Sc 1).toInt ∧ (Sc 1).toInt ≤ 400 then (Sc 1).toInt else 0) = N
  have hT : ∀ i, 0 ≤ T i ∧ T i ≤ 255 := fun i => by
    rw [← hT9]
    dsimp only
    split
    · exact hTp _
    · exact q9and_255 _
  have hN : 0 ≤ N ∧ N ≤ 400 := by
    rw [← hN9]
    split
    · assumption
    · omega
  have hSc : 0 ≤ (fun k => (Sc k).toInt) 1 ∧ (fun k => (Sc k).toInt) 1 ≤ 400 → N = (fun k => (Sc k).toInt) 1 := fun h => by
    rw [← hN9, if_pos h]
  have hW : ∀ (m k : Nat), m < 5 → k < 4 → 0 ≤ s0.toInt → s0.toInt ≤ 380 → T (s0.toInt + 4 * m + k) = (Int32.ofInt ((fun k => (Sc k).toInt) ((m : Int) + 1)) >>> (Int32.ofNat (24 - 8 * k) &&& 31) &&& 255).toInt := fun m k hm hk _ _ => by
    rw [← hT9]
    dsimp only
    rw [if_neg (by omega), q9oI_of, show (s0.toInt + 4 * (m : Int) + (k : Int) - s0.toInt) / 4 + 1 = (m : Int) + 1 by omega, show ((s0.toInt + 4 * (m : Int) + (k : Int) - s0.toInt) % 4).toNat = k by omega]
  refine ⟨⟨fO T N P.toInt (fun i => (J i.toNat).toInt) s0.toInt (fun k => (Sc k).toInt), q9ru_all hT hN hSc, q9gx_ok hN hW⟩, ?_, ?_, fun i hi => ?_, fun i hi => ?_, fun k k1 k2 => ?_⟩
  · exact q9fO_t (op := 1064) (x := 0) (y := 0) (z := s0) (T := T) (N := N) (P := P.toInt) (J := fun i => (J i.toNat).toInt) (t0 := s0.toInt) (Sc := fun k => (Sc k).toInt) (by rw [q9FF_1064]) (by decide)
  · exact q9fO_t (op := 1015) (x := 0) (y := 0) (z := P) (T := T) (N := N) (P := P.toInt) (J := fun i => (J i.toNat).toInt) (t0 := s0.toInt) (Sc := fun k => (Sc k).toInt) (by rw [q9FF_1015]) (by decide)
  · refine q9fO_t (op := 1016) (y := 0) (T := T) (N := N) (P := P.toInt) (J := fun i => (J i.toNat).toInt) (t0 := s0.toInt) (Sc := fun k => (Sc k).toInt) ?_ (by decide)
    rw [q9FF_1016, Int32.toInt_ofNat_of_lt (by omega)]
    rfl
  · refine q9fO_t (op := 1058) (y := 0) (T := T) (N := N) (P := P.toInt) (J := fun i => (J i.toNat).toInt) (t0 := s0.toInt) (Sc := fun k => (Sc k).toInt) ?_ (by decide)
    have := Int32.toInt_lt s0
    rw [q9FF_1058, Int32.toInt_ofNat_of_lt (by omega), ← hT9]
    dsimp only
    rw [if_pos (by omega)]
    rfl
  · refine q9fO_t (op := 1063) (y := 0) (T := T) (N := N) (P := P.toInt) (J := fun i => (J i.toNat).toInt) (t0 := s0.toInt) (Sc := fun k => (Sc k).toInt) ?_ (by decide)
    rw [q9FF_1063, q9oI_toInt (by omega)]
